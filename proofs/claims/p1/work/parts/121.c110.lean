set_option maxHeartbeats 4000000 in
set_option maxRecDepth 100000 in
theorem c_Ref_ends_v16 (l : Launch) (dC : Nat → ClassId) (dI : Nat → Nat → Nat) (h0 : Nat) (p1 : Int32) (p2 : Int32) (h1 : Nat) (h2 : Nat) (h3 : Nat) (h4 : Nat) (h5 : Nat) (h6 : Nat) (h7 : Nat) (h8 : Nat) (h9 : Nat) (h10 : Nat) (h11 : Nat) (h12 : Nat) (p3 : Int32) (h13 : Nat) (h14 : Nat) (h15 : Nat) (h16 : Nat) (p5 : Int32) (h17 : Nat) (h18 : Nat) (h19 : Nat) (p6 : Int32) (h20 : Nat) (p7 : Int32) (p8 : Int32) (h21 : Nat) (h22 : Nat) (h23 : Nat) (h24 : Nat) (h25 : Nat) (h26 : Nat) (h27 : Nat) (h28 : Nat) (p9 : Int32) (p10 : Int32) (h29 : Nat) (h30 : Nat) (h31 : Nat) (h32 : Nat) (h33 : Nat) (h34 : Nat) (h35 : Nat) (h36 : Nat) (p11 : Int32) (h37 : Nat) (k6 : ClassId) (k7 : ClassId) (f7 : Nat → Int32) (k9 : ClassId) (f9 : Nat → Int32) (k10 : ClassId) (f10 : Nat → Int32) (k13 : ClassId) (k20 : ClassId) (sz : Nat) : Met l y_Ref_ends w_Ref_ends ({ frames := 1, cells := 0, slots := 0, locals := 26 }) (va_Pc [.ref h0, .int 0] (fun U => U.heap.size = sz ∧ va_P (dC, dI) classes [oc h0 8 [.int p1, .int p2, .ref h1, .ref h2, .ref h3, .ref h4, .ref h5, .ref h6, .ref h7, .ref h8, .ref h9, .ref h10, .ref h11, .ref h12, .int p3, .ref h13, .ref h14, .ref h15, .ref h16, .int 2, .int p5, .ref h17, .ref h18, .ref h19, .int p6, .ref h20, .int p7, .int p8, .ref h21, .ref h22, .ref h23, .ref h24, .ref h25, .ref h26, .ref h27, .ref h28, .int p9, .int p10, .ref h29, .ref h30, .ref h31, .ref h32, .ref h33, .ref h34, .ref h35, .ref h36, .int p11, .ref h37], ia h7 k6 8 (upd (fun _ => 0) 3 1), ia h8 k7 352000 f7, ia h10 k9 16000 f9, ia h11 k10 32000 f10, ia h14 k13 155 (fun _ => 0), ia h21 k20 11 (fun _ => 0)] U.heap ∧ va_K (dC, dI) classes [(k6, .int), (k7, .short), (k9, .int), (k10, .int), (k13, .int), (k20, .int)] U ∧ va_D (fun _ => True) [oc h0 8 [.int p1, .int p2, .ref h1, .ref h2, .ref h3, .ref h4, .ref h5, .ref h6, .ref h7, .ref h8, .ref h9, .ref h10, .ref h11, .ref h12, .int p3, .ref h13, .ref h14, .ref h15, .ref h16, .int 2, .int p5, .ref h17, .ref h18, .ref h19, .int p6, .ref h20, .int p7, .int p8, .ref h21, .ref h22, .ref h23, .ref h24, .ref h25, .ref h26, .ref h27, .ref h28, .int p9, .int p10, .ref h29, .ref h30, .ref h31, .ref h32, .ref h33, .ref h34, .ref h35, .ref h36, .int p11, .ref h37], ia h7 k6 8 (upd (fun _ => 0) 3 1), ia h8 k7 352000 f7, ia h10 k9 16000 f9, ia h11 k10 32000 f10, ia h14 k13 155 (fun _ => 0), ia h21 k20 11 (fun _ => 0)] ∧ nw U)) (va_Qv (fun _ : Unit => True) (fun _ t => va_P (dC, dI) classes [oc h0 8 [.int p1, .int p2, .ref h1, .ref h2, .ref h3, .ref h4, .ref h5, .ref h6, .ref h7, .ref h8, .ref h9, .ref h10, .ref h11, .ref h12, .int p3, .ref h13, .ref h14, .ref h15, .ref h16, .int 2, .int p5, .ref h17, .ref h18, .ref h19, .int p6, .ref h20, .int p7, .int p8, .ref h21, .ref h22, .ref h23, .ref h24, .ref h25, .ref h26, .ref h27, .ref h28, .int p9, .int p10, .ref h29, .ref h30, .ref h31, .ref h32, .ref h33, .ref h34, .ref h35, .ref h36, .int p11, .ref h37], ia h7 k6 8 (upd (upd (fun _ => 0) 3 1) 2 1), ia h8 k7 352000 (upd (upd (upd (upd (upd (upd (upd (upd (upd (upd (upd f7 88000 0) 88001 0) 88002 0) 88003 0) 88004 0) 88005 0) 88006 0) 88007 0) 88008 0) 88009 0) 88010 0), ia h10 k9 16000 (upd f9 8000 0), ia h11 k10 32000 (upd f10 8000 0), ia h14 k13 155 (fun _ => 0), ia h21 k20 11 (fun _ => 0)] t.heap ∧ va_K (dC, dI) classes [] t ∧ va_D (va_A [oc h0 8 [.int p1, .int p2, .ref h1, .ref h2, .ref h3, .ref h4, .ref h5, .ref h6, .ref h7, .ref h8, .ref h9, .ref h10, .ref h11, .ref h12, .int p3, .ref h13, .ref h14, .ref h15, .ref h16, .int 2, .int p5, .ref h17, .ref h18, .ref h19, .int p6, .ref h20, .int p7, .int p8, .ref h21, .ref h22, .ref h23, .ref h24, .ref h25, .ref h26, .ref h27, .ref h28, .int p9, .int p10, .ref h29, .ref h30, .ref h31, .ref h32, .ref h33, .ref h34, .ref h35, .ref h36, .int p11, .ref h37], ia h7 k6 8 (upd (fun _ => 0) 3 1), ia h8 k7 352000 f7, ia h10 k9 16000 f9, ia h11 k10 32000 f10, ia h14 k13 155 (fun _ => 0), ia h21 k20 11 (fun _ => 0)] sz) [oc h0 8 [.int p1, .int p2, .ref h1, .ref h2, .ref h3, .ref h4, .ref h5, .ref h6, .ref h7, .ref h8, .ref h9, .ref h10, .ref h11, .ref h12, .int p3, .ref h13, .ref h14, .ref h15, .ref h16, .int 2, .int p5, .ref h17, .ref h18, .ref h19, .int p6, .ref h20, .int p7, .int p8, .ref h21, .ref h22, .ref h23, .ref h24, .ref h25, .ref h26, .ref h27, .ref h28, .int p9, .int p10, .ref h29, .ref h30, .ref h31, .ref h32, .ref h33, .ref h34, .ref h35, .ref h36, .int p11, .ref h37], ia h7 k6 8 (upd (upd (fun _ => 0) 3 1) 2 1), ia h8 k7 352000 (upd (upd (upd (upd (upd (upd (upd (upd (upd (upd (upd f7 88000 0) 88001 0) 88002 0) 88003 0) 88004 0) 88005 0) 88006 0) 88007 0) 88008 0) 88009 0) 88010 0), ia h10 k9 16000 (upd f9 8000 0), ia h11 k10 32000 (upd f10 8000 0), ia h14 k13 155 (fun _ => 0), ia h21 k20 11 (fun _ => 0)]) (va_A [oc h0 8 [.int p1, .int p2, .ref h1, .ref h2, .ref h3, .ref h4, .ref h5, .ref h6, .ref h7, .ref h8, .ref h9, .ref h10, .ref h11, .ref h12, .int p3, .ref h13, .ref h14, .ref h15, .ref h16, .int 2, .int p5, .ref h17, .ref h18, .ref h19, .int p6, .ref h20, .int p7, .int p8, .ref h21, .ref h22, .ref h23, .ref h24, .ref h25, .ref h26, .ref h27, .ref h28, .int p9, .int p10, .ref h29, .ref h30, .ref h31, .ref h32, .ref h33, .ref h34, .ref h35, .ref h36, .int p11, .ref h37], ia h7 k6 8 (upd (fun _ => 0) 3 1), ia h8 k7 352000 f7, ia h10 k9 16000 f9, ia h11 k10 32000 f10, ia h14 k13 155 (fun _ => 0), ia h21 k20 11 (fun _ => 0)] sz)) 0 0 (va_A [oc h0 8 [.int p1, .int p2, .ref h1, .ref h2, .ref h3, .ref h4, .ref h5, .ref h6, .ref h7, .ref h8, .ref h9, .ref h10, .ref h11, .ref h12, .int p3, .ref h13, .ref h14, .ref h15, .ref h16, .int 2, .int p5, .ref h17, .ref h18, .ref h19, .int p6, .ref h20, .int p7, .int p8, .ref h21, .ref h22, .ref h23, .ref h24, .ref h25, .ref h26, .ref h27, .ref h28, .int p9, .int p10, .ref h29, .ref h30, .ref h31, .ref h32, .ref h33, .ref h34, .ref h35, .ref h36, .int p11, .ref h37], ia h7 k6 8 (upd (fun _ => 0) 3 1), ia h8 k7 352000 f7, ia h10 k9 16000 f9, ia h11 k10 32000 f10, ia h14 k13 155 (fun _ => 0), ia h21 k20 11 (fun _ => 0)] sz) := by
  refine Met.ofW (cc := b_Ref_ends) (maxL := 5) (ret := none) (by decide) rfl ?_
  intro p e s m args below meth c s₁ B hml hv
  obtain ⟨rfl, hsz, hP, hK, hD0, hn⟩ := hv
  have hx := B.exec
  have hb := B.bytes
  have hr := B.returns
  have hw := fun w (h : w ∈ wt) => atoms_spec (ws := w_Ref_ends) B.pre w (List.mem_cons_of_mem _ h)
  have hown : s.vm.findClass R_Ref = some m.cls := findClass_of_methodNamed B.named
  have hlocks := B.notSynchronized
  subst hsz
  have hD1 := hD0.self (sz := s.heap.size)
  generalize hAe : va_A [oc h0 8 [.int p1, .int p2, .ref h1, .ref h2, .ref h3, .ref h4, .ref h5, .ref h6, .ref h7, .ref h8, .ref h9, .ref h10, .ref h11, .ref h12, .int p3, .ref h13, .ref h14, .ref h15, .ref h16, .int 2, .int p5, .ref h17, .ref h18, .ref h19, .int p6, .ref h20, .int p7, .int p8, .ref h21, .ref h22, .ref h23, .ref h24, .ref h25, .ref h26, .ref h27, .ref h28, .int p9, .int p10, .ref h29, .ref h30, .ref h31, .ref h32, .ref h33, .ref h34, .ref h35, .ref h36, .int p11, .ref h37], ia h7 k6 8 (upd (fun _ => 0) 3 1), ia h8 k7 352000 f7, ia h10 k9 16000 f9, ia h11 k10 32000 f10, ia h14 k13 155 (fun _ => 0), ia h21 k20 11 (fun _ => 0)] s.heap.size = A at hD1 ⊢
  have hA : ∀ q : Nat, s.heap.size ≤ q → A q := fun q h => by rw [← hAe]; exact Or.inr h
  have hD : dd A [h0, h7, h8, h10, h11, h14, h21] := dd_of hD1 rfl
  clear hAe hD0 hD1
  have hS : va_S A s.heap s.heap [] := va_S.rf
  replace hP : va_P (dC, dI) classes [oc h0 8 [.int p1, .int p2, .ref h1, .ref h2, .ref h3, .ref h4, .ref h5, .ref h6, .ref h7, .ref h8, .ref h9, .ref h10, .ref h11, .ref h12, .int p3, .ref h13, .ref h14, .ref h15, .ref h16, .int 2, .int p5, .ref h17, .ref h18, .ref h19, .int p6, .ref h20, .int p7, .int p8, .ref h21, .ref h22, .ref h23, .ref h24, .ref h25, .ref h26, .ref h27, .ref h28, .int p9, .int p10, .ref h29, .ref h30, .ref h31, .ref h32, .ref h33, .ref h34, .ref h35, .ref h36, .int p11, .ref h37], ia h7 k6 8 (upd (fun _ => 0) 3 1), ia h8 k7 352000 f7, ia h10 k9 16000 f9, ia h11 k10 32000 f10, ia h14 k13 155 (fun _ => 0), ia h21 k20 11 (fun _ => 0)] s.heap := hP
  have hl := lv_entry ([.ref h0, .int 0]) (n := 5) (Nat.le_of_ble_eq_true rfl)
  rw [lg_entry_eq]
  generalize (lg_sl ([.ref h0, .int 0]) ++ List.replicate (5 - (lg_sl ([.ref h0, .int 0])).length) Slot.unset).toArray = ls at hl ⊢
  replace hl : lv_has ls 5 [(0, .ref h0), (1, .int 0)] := hl
  refine lv_iconst (v := 0) hx hb d_Ref_ends_0 (by decide) ?_
  refine lv_istore_n (lv' := [(2, .int 0), (0, .ref h0), (1, .int 0)]) hx hb d_Ref_ends_1 rfl hl (by decide) rfl ?_
  clear hl ls
  intro ls hl
  refine lv_iload_n hx hb d_Ref_ends_2 rfl (lv_at hl 0 rfl) ?_
  refine lv_bipush (v := 8) hx hb d_Ref_ends_3 (by decide) ?_
  refine lv_icmp_ge (tgt := 28) hx hb d_Ref_ends_5 (by decide) (fun c_1 => absurd c_1 (by decide)) (fun c_1 => ?_)
  refine tp_pc (pc' := 8) (by rfl) ?_
  refine lv_aload_n hx hb d_Ref_ends_8 rfl (lv_at hl 1 rfl) ?_
  refine va_get (D := (dC, dI)) (ci := 8) (v := .ref h21) (C := R_Ref) (T := F_Ref) (N := 48) hx hb hw i_Ref hown hK hP 0 rfl rfl 28 (by decide) (hw _ m_927) (fun _ h9 => h9) rfl d_Ref_ends_9 ?_
  refine lv_iload_n hx hb d_Ref_ends_12 rfl (lv_at hl 0 rfl) ?_
  refine lv_aload_n hx hb d_Ref_ends_13 rfl (lv_at hl 1 rfl) ?_
  refine va_get (D := (dC, dI)) (ci := 8) (v := .ref h14) (C := R_Ref) (T := F_Ref) (N := 48) hx hb hw i_Ref hown hK hP 0 rfl rfl 16 (by decide) (hw _ m_915) (fun _ h9 => h9) rfl d_Ref_ends_14 ?_
  refine lv_iconst (v := 4) hx hb d_Ref_ends_17 (by decide) ?_
  refine lv_iload_n hx hb d_Ref_ends_18 rfl (lv_at hl 0 rfl) ?_
  refine lv_iadd hx hb d_Ref_ends_19 ?_
  refine tp_i (y := 4) (by first | rfl | decide) ?_
  refine va_iald (D := (dC, dI)) hx hb hK hP 5 4 rfl rfl (i := 4) (vp_c (by decide)) d_Ref_ends_20 ?_
  refine tp_i (y := 0) (by first | rfl | decide) ?_
  refine va_iast (D := (dC, dI)) hx hb hK hP (dd_D hD rfl) hS 6 5 rfl rfl (i := 0) (x := 0) (vp_c (by decide)) d_Ref_ends_21 ?_
  clear hP hS
  intro H locs hP _ hS
  replace hP : va_P (dC, dI) classes [oc h0 8 [.int p1, .int p2, .ref h1, .ref h2, .ref h3, .ref h4, .ref h5, .ref h6, .ref h7, .ref h8, .ref h9, .ref h10, .ref h11, .ref h12, .int p3, .ref h13, .ref h14, .ref h15, .ref h16, .int 2, .int p5, .ref h17, .ref h18, .ref h19, .int p6, .ref h20, .int p7, .int p8, .ref h21, .ref h22, .ref h23, .ref h24, .ref h25, .ref h26, .ref h27, .ref h28, .int p9, .int p10, .ref h29, .ref h30, .ref h31, .ref h32, .ref h33, .ref h34, .ref h35, .ref h36, .int p11, .ref h37], ia h7 k6 8 (upd (fun _ => 0) 3 1), ia h8 k7 352000 f7, ia h10 k9 16000 f9, ia h11 k10 32000 f10, ia h14 k13 155 (fun _ => 0), ia h21 k20 11 (fun _ => 0)] H := P_cg 6 rfl (up_pt (by first | rfl | decide)) hP
  refine tp_pc (pc' := 22) (by rfl) ?_
  refine lv_iinc (v := 1) (lv' := [(2, .int 1), (0, .ref h0), (1, .int 0)]) hx hb d_Ref_ends_22 hl (k := 0) rfl (by first | rfl | decide) (by decide) rfl ?_
  clear hl ls
  intro ls hl
  refine lv_goto (tgt := 2) hx hb d_Ref_ends_25 (by decide) ?_
  refine tp_pc (pc' := 2) (by rfl) ?_
  refine lv_iload_n hx hb d_Ref_ends_2 rfl (lv_at hl 0 rfl) ?_
  refine lv_bipush (v := 8) hx hb d_Ref_ends_3 (by decide) ?_
  refine lv_icmp_ge (tgt := 28) hx hb d_Ref_ends_5 (by decide) (fun c_2 => absurd c_2 (by decide)) (fun c_2 => ?_)
  refine tp_pc (pc' := 8) (by rfl) ?_
  refine lv_aload_n hx hb d_Ref_ends_8 rfl (lv_at hl 1 rfl) ?_
  refine va_get (D := (dC, dI)) (ci := 8) (v := .ref h21) (C := R_Ref) (T := F_Ref) (N := 48) hx hb hw i_Ref hown hK hP 0 rfl rfl 28 (by decide) (hw _ m_927) (fun _ h9 => h9) rfl d_Ref_ends_9 ?_
  refine lv_iload_n hx hb d_Ref_ends_12 rfl (lv_at hl 0 rfl) ?_
  refine lv_aload_n hx hb d_Ref_ends_13 rfl (lv_at hl 1 rfl) ?_
  refine va_get (D := (dC, dI)) (ci := 8) (v := .ref h14) (C := R_Ref) (T := F_Ref) (N := 48) hx hb hw i_Ref hown hK hP 0 rfl rfl 16 (by decide) (hw _ m_915) (fun _ h9 => h9) rfl d_Ref_ends_14 ?_
  refine lv_iconst (v := 4) hx hb d_Ref_ends_17 (by decide) ?_
  refine lv_iload_n hx hb d_Ref_ends_18 rfl (lv_at hl 0 rfl) ?_
  refine lv_iadd hx hb d_Ref_ends_19 ?_
  refine tp_i (y := 5) (by first | rfl | decide) ?_
  refine va_iald (D := (dC, dI)) hx hb hK hP 5 4 rfl rfl (i := 5) (vp_c (by decide)) d_Ref_ends_20 ?_
  refine tp_i (y := 0) (by first | rfl | decide) ?_
  refine va_iast (D := (dC, dI)) hx hb hK hP (dd_D hD rfl) hS 6 5 rfl rfl (i := 1) (x := 0) (vp_c (by decide)) d_Ref_ends_21 ?_
  clear hP hS locs H
  intro H locs hP _ hS
  replace hP : va_P (dC, dI) classes [oc h0 8 [.int p1, .int p2, .ref h1, .ref h2, .ref h3, .ref h4, .ref h5, .ref h6, .ref h7, .ref h8, .ref h9, .ref h10, .ref h11, .ref h12, .int p3, .ref h13, .ref h14, .ref h15, .ref h16, .int 2, .int p5, .ref h17, .ref h18, .ref h19, .int p6, .ref h20, .int p7, .int p8, .ref h21, .ref h22, .ref h23, .ref h24, .ref h25, .ref h26, .ref h27, .ref h28, .int p9, .int p10, .ref h29, .ref h30, .ref h31, .ref h32, .ref h33, .ref h34, .ref h35, .ref h36, .int p11, .ref h37], ia h7 k6 8 (upd (fun _ => 0) 3 1), ia h8 k7 352000 f7, ia h10 k9 16000 f9, ia h11 k10 32000 f10, ia h14 k13 155 (fun _ => 0), ia h21 k20 11 (fun _ => 0)] H := P_cg 6 rfl (up_pt (by first | rfl | decide)) hP
  refine tp_pc (pc' := 22) (by rfl) ?_
  refine lv_iinc (v := 2) (lv' := [(2, .int 2), (0, .ref h0), (1, .int 0)]) hx hb d_Ref_ends_22 hl (k := 0) rfl (by first | rfl | decide) (by decide) rfl ?_
  clear hl ls
  intro ls hl
  refine lv_goto (tgt := 2) hx hb d_Ref_ends_25 (by decide) ?_
  refine tp_pc (pc' := 2) (by rfl) ?_
  refine lv_iload_n hx hb d_Ref_ends_2 rfl (lv_at hl 0 rfl) ?_
  refine lv_bipush (v := 8) hx hb d_Ref_ends_3 (by decide) ?_
  refine lv_icmp_ge (tgt := 28) hx hb d_Ref_ends_5 (by decide) (fun c_3 => absurd c_3 (by decide)) (fun c_3 => ?_)
  refine tp_pc (pc' := 8) (by rfl) ?_
  refine lv_aload_n hx hb d_Ref_ends_8 rfl (lv_at hl 1 rfl) ?_
  refine va_get (D := (dC, dI)) (ci := 8) (v := .ref h21) (C := R_Ref) (T := F_Ref) (N := 48) hx hb hw i_Ref hown hK hP 0 rfl rfl 28 (by decide) (hw _ m_927) (fun _ h9 => h9) rfl d_Ref_ends_9 ?_
  refine lv_iload_n hx hb d_Ref_ends_12 rfl (lv_at hl 0 rfl) ?_
  refine lv_aload_n hx hb d_Ref_ends_13 rfl (lv_at hl 1 rfl) ?_
  refine va_get (D := (dC, dI)) (ci := 8) (v := .ref h14) (C := R_Ref) (T := F_Ref) (N := 48) hx hb hw i_Ref hown hK hP 0 rfl rfl 16 (by decide) (hw _ m_915) (fun _ h9 => h9) rfl d_Ref_ends_14 ?_
  refine lv_iconst (v := 4) hx hb d_Ref_ends_17 (by decide) ?_
  refine lv_iload_n hx hb d_Ref_ends_18 rfl (lv_at hl 0 rfl) ?_
  refine lv_iadd hx hb d_Ref_ends_19 ?_
  refine tp_i (y := 6) (by first | rfl | decide) ?_
  refine va_iald (D := (dC, dI)) hx hb hK hP 5 4 rfl rfl (i := 6) (vp_c (by decide)) d_Ref_ends_20 ?_
  refine tp_i (y := 0) (by first | rfl | decide) ?_
  refine va_iast (D := (dC, dI)) hx hb hK hP (dd_D hD rfl) hS 6 5 rfl rfl (i := 2) (x := 0) (vp_c (by decide)) d_Ref_ends_21 ?_
  clear hP hS locs H
  intro H locs hP _ hS
  replace hP : va_P (dC, dI) classes [oc h0 8 [.int p1, .int p2, .ref h1, .ref h2, .ref h3, .ref h4, .ref h5, .ref h6, .ref h7, .ref h8, .ref h9, .ref h10, .ref h11, .ref h12, .int p3, .ref h13, .ref h14, .ref h15, .ref h16, .int 2, .int p5, .ref h17, .ref h18, .ref h19, .int p6, .ref h20, .int p7, .int p8, .ref h21, .ref h22, .ref h23, .ref h24, .ref h25, .ref h26, .ref h27, .ref h28, .int p9, .int p10, .ref h29, .ref h30, .ref h31, .ref h32, .ref h33, .ref h34, .ref h35, .ref h36, .int p11, .ref h37], ia h7 k6 8 (upd (fun _ => 0) 3 1), ia h8 k7 352000 f7, ia h10 k9 16000 f9, ia h11 k10 32000 f10, ia h14 k13 155 (fun _ => 0), ia h21 k20 11 (fun _ => 0)] H := P_cg 6 rfl (up_pt (by first | rfl | decide)) hP
  refine tp_pc (pc' := 22) (by rfl) ?_
  refine lv_iinc (v := 3) (lv' := [(2, .int 3), (0, .ref h0), (1, .int 0)]) hx hb d_Ref_ends_22 hl (k := 0) rfl (by first | rfl | decide) (by decide) rfl ?_
  clear hl ls
  intro ls hl
  refine lv_goto (tgt := 2) hx hb d_Ref_ends_25 (by decide) ?_
  refine tp_pc (pc' := 2) (by rfl) ?_
  refine lv_iload_n hx hb d_Ref_ends_2 rfl (lv_at hl 0 rfl) ?_
  refine lv_bipush (v := 8) hx hb d_Ref_ends_3 (by decide) ?_
  refine lv_icmp_ge (tgt := 28) hx hb d_Ref_ends_5 (by decide) (fun c_4 => absurd c_4 (by decide)) (fun c_4 => ?_)
  refine tp_pc (pc' := 8) (by rfl) ?_
  refine lv_aload_n hx hb d_Ref_ends_8 rfl (lv_at hl 1 rfl) ?_
  refine va_get (D := (dC, dI)) (ci := 8) (v := .ref h21) (C := R_Ref) (T := F_Ref) (N := 48) hx hb hw i_Ref hown hK hP 0 rfl rfl 28 (by decide) (hw _ m_927) (fun _ h9 => h9) rfl d_Ref_ends_9 ?_
  refine lv_iload_n hx hb d_Ref_ends_12 rfl (lv_at hl 0 rfl) ?_
  refine lv_aload_n hx hb d_Ref_ends_13 rfl (lv_at hl 1 rfl) ?_
  refine va_get (D := (dC, dI)) (ci := 8) (v := .ref h14) (C := R_Ref) (T := F_Ref) (N := 48) hx hb hw i_Ref hown hK hP 0 rfl rfl 16 (by decide) (hw _ m_915) (fun _ h9 => h9) rfl d_Ref_ends_14 ?_
  refine lv_iconst (v := 4) hx hb d_Ref_ends_17 (by decide) ?_
  refine lv_iload_n hx hb d_Ref_ends_18 rfl (lv_at hl 0 rfl) ?_
  refine lv_iadd hx hb d_Ref_ends_19 ?_
  refine tp_i (y := 7) (by first | rfl | decide) ?_
  refine va_iald (D := (dC, dI)) hx hb hK hP 5 4 rfl rfl (i := 7) (vp_c (by decide)) d_Ref_ends_20 ?_
  refine tp_i (y := 0) (by first | rfl | decide) ?_
  refine va_iast (D := (dC, dI)) hx hb hK hP (dd_D hD rfl) hS 6 5 rfl rfl (i := 3) (x := 0) (vp_c (by decide)) d_Ref_ends_21 ?_
  clear hP hS locs H
  intro H locs hP _ hS
  replace hP : va_P (dC, dI) classes [oc h0 8 [.int p1, .int p2, .ref h1, .ref h2, .ref h3, .ref h4, .ref h5, .ref h6, .ref h7, .ref h8, .ref h9, .ref h10, .ref h11, .ref h12, .int p3, .ref h13, .ref h14, .ref h15, .ref h16, .int 2, .int p5, .ref h17, .ref h18, .ref h19, .int p6, .ref h20, .int p7, .int p8, .ref h21, .ref h22, .ref h23, .ref h24, .ref h25, .ref h26, .ref h27, .ref h28, .int p9, .int p10, .ref h29, .ref h30, .ref h31, .ref h32, .ref h33, .ref h34, .ref h35, .ref h36, .int p11, .ref h37], ia h7 k6 8 (upd (fun _ => 0) 3 1), ia h8 k7 352000 f7, ia h10 k9 16000 f9, ia h11 k10 32000 f10, ia h14 k13 155 (fun _ => 0), ia h21 k20 11 (fun _ => 0)] H := P_cg 6 rfl (up_pt (by first | rfl | decide)) hP
  refine tp_pc (pc' := 22) (by rfl) ?_
  refine lv_iinc (v := 4) (lv' := [(2, .int 4), (0, .ref h0), (1, .int 0)]) hx hb d_Ref_ends_22 hl (k := 0) rfl (by first | rfl | decide) (by decide) rfl ?_
  clear hl ls
  intro ls hl
  refine lv_goto (tgt := 2) hx hb d_Ref_ends_25 (by decide) ?_
  refine tp_pc (pc' := 2) (by rfl) ?_
  refine lv_iload_n hx hb d_Ref_ends_2 rfl (lv_at hl 0 rfl) ?_
  refine lv_bipush (v := 8) hx hb d_Ref_ends_3 (by decide) ?_
  refine lv_icmp_ge (tgt := 28) hx hb d_Ref_ends_5 (by decide) (fun c_5 => absurd c_5 (by decide)) (fun c_5 => ?_)
  refine tp_pc (pc' := 8) (by rfl) ?_
  refine lv_aload_n hx hb d_Ref_ends_8 rfl (lv_at hl 1 rfl) ?_
  refine va_get (D := (dC, dI)) (ci := 8) (v := .ref h21) (C := R_Ref) (T := F_Ref) (N := 48) hx hb hw i_Ref hown hK hP 0 rfl rfl 28 (by decide) (hw _ m_927) (fun _ h9 => h9) rfl d_Ref_ends_9 ?_
  refine lv_iload_n hx hb d_Ref_ends_12 rfl (lv_at hl 0 rfl) ?_
  refine lv_aload_n hx hb d_Ref_ends_13 rfl (lv_at hl 1 rfl) ?_
  refine va_get (D := (dC, dI)) (ci := 8) (v := .ref h14) (C := R_Ref) (T := F_Ref) (N := 48) hx hb hw i_Ref hown hK hP 0 rfl rfl 16 (by decide) (hw _ m_915) (fun _ h9 => h9) rfl d_Ref_ends_14 ?_
  refine lv_iconst (v := 4) hx hb d_Ref_ends_17 (by decide) ?_
  refine lv_iload_n hx hb d_Ref_ends_18 rfl (lv_at hl 0 rfl) ?_
  refine lv_iadd hx hb d_Ref_ends_19 ?_
  refine tp_i (y := 8) (by first | rfl | decide) ?_
  refine va_iald (D := (dC, dI)) hx hb hK hP 5 4 rfl rfl (i := 8) (vp_c (by decide)) d_Ref_ends_20 ?_
  refine tp_i (y := 0) (by first | rfl | decide) ?_
  refine va_iast (D := (dC, dI)) hx hb hK hP (dd_D hD rfl) hS 6 5 rfl rfl (i := 4) (x := 0) (vp_c (by decide)) d_Ref_ends_21 ?_
  clear hP hS locs H
  intro H locs hP _ hS
  replace hP : va_P (dC, dI) classes [oc h0 8 [.int p1, .int p2, .ref h1, .ref h2, .ref h3, .ref h4, .ref h5, .ref h6, .ref h7, .ref h8, .ref h9, .ref h10, .ref h11, .ref h12, .int p3, .ref h13, .ref h14, .ref h15, .ref h16, .int 2, .int p5, .ref h17, .ref h18, .ref h19, .int p6, .ref h20, .int p7, .int p8, .ref h21, .ref h22, .ref h23, .ref h24, .ref h25, .ref h26, .ref h27, .ref h28, .int p9, .int p10, .ref h29, .ref h30, .ref h31, .ref h32, .ref h33, .ref h34, .ref h35, .ref h36, .int p11, .ref h37], ia h7 k6 8 (upd (fun _ => 0) 3 1), ia h8 k7 352000 f7, ia h10 k9 16000 f9, ia h11 k10 32000 f10, ia h14 k13 155 (fun _ => 0), ia h21 k20 11 (fun _ => 0)] H := P_cg 6 rfl (up_pt (by first | rfl | decide)) hP
  refine tp_pc (pc' := 22) (by rfl) ?_
  refine lv_iinc (v := 5) (lv' := [(2, .int 5), (0, .ref h0), (1, .int 0)]) hx hb d_Ref_ends_22 hl (k := 0) rfl (by first | rfl | decide) (by decide) rfl ?_
  clear hl ls
  intro ls hl
  refine lv_goto (tgt := 2) hx hb d_Ref_ends_25 (by decide) ?_
  refine tp_pc (pc' := 2) (by rfl) ?_
  refine lv_iload_n hx hb d_Ref_ends_2 rfl (lv_at hl 0 rfl) ?_
  refine lv_bipush (v := 8) hx hb d_Ref_ends_3 (by decide) ?_
  refine lv_icmp_ge (tgt := 28) hx hb d_Ref_ends_5 (by decide) (fun c_6 => absurd c_6 (by decide)) (fun c_6 => ?_)
  refine tp_pc (pc' := 8) (by rfl) ?_
  refine lv_aload_n hx hb d_Ref_ends_8 rfl (lv_at hl 1 rfl) ?_
  refine va_get (D := (dC, dI)) (ci := 8) (v := .ref h21) (C := R_Ref) (T := F_Ref) (N := 48) hx hb hw i_Ref hown hK hP 0 rfl rfl 28 (by decide) (hw _ m_927) (fun _ h9 => h9) rfl d_Ref_ends_9 ?_
  refine lv_iload_n hx hb d_Ref_ends_12 rfl (lv_at hl 0 rfl) ?_
  refine lv_aload_n hx hb d_Ref_ends_13 rfl (lv_at hl 1 rfl) ?_
  refine va_get (D := (dC, dI)) (ci := 8) (v := .ref h14) (C := R_Ref) (T := F_Ref) (N := 48) hx hb hw i_Ref hown hK hP 0 rfl rfl 16 (by decide) (hw _ m_915) (fun _ h9 => h9) rfl d_Ref_ends_14 ?_
  refine lv_iconst (v := 4) hx hb d_Ref_ends_17 (by decide) ?_
  refine lv_iload_n hx hb d_Ref_ends_18 rfl (lv_at hl 0 rfl) ?_
  refine lv_iadd hx hb d_Ref_ends_19 ?_
  refine tp_i (y := 9) (by first | rfl | decide) ?_
  refine va_iald (D := (dC, dI)) hx hb hK hP 5 4 rfl rfl (i := 9) (vp_c (by decide)) d_Ref_ends_20 ?_
  refine tp_i (y := 0) (by first | rfl | decide) ?_
  refine va_iast (D := (dC, dI)) hx hb hK hP (dd_D hD rfl) hS 6 5 rfl rfl (i := 5) (x := 0) (vp_c (by decide)) d_Ref_ends_21 ?_
  clear hP hS locs H
  intro H locs hP _ hS
  replace hP : va_P (dC, dI) classes [oc h0 8 [.int p1, .int p2, .ref h1, .ref h2, .ref h3, .ref h4, .ref h5, .ref h6, .ref h7, .ref h8, .ref h9, .ref h10, .ref h11, .ref h12, .int p3, .ref h13, .ref h14, .ref h15, .ref h16, .int 2, .int p5, .ref h17, .ref h18, .ref h19, .int p6, .ref h20, .int p7, .int p8, .ref h21, .ref h22, .ref h23, .ref h24, .ref h25, .ref h26, .ref h27, .ref h28, .int p9, .int p10, .ref h29, .ref h30, .ref h31, .ref h32, .ref h33, .ref h34, .ref h35, .ref h36, .int p11, .ref h37], ia h7 k6 8 (upd (fun _ => 0) 3 1), ia h8 k7 352000 f7, ia h10 k9 16000 f9, ia h11 k10 32000 f10, ia h14 k13 155 (fun _ => 0), ia h21 k20 11 (fun _ => 0)] H := P_cg 6 rfl (up_pt (by first | rfl | decide)) hP
  refine tp_pc (pc' := 22) (by rfl) ?_
  refine lv_iinc (v := 6) (lv' := [(2, .int 6), (0, .ref h0), (1, .int 0)]) hx hb d_Ref_ends_22 hl (k := 0) rfl (by first | rfl | decide) (by decide) rfl ?_
  clear hl ls
  intro ls hl
  refine lv_goto (tgt := 2) hx hb d_Ref_ends_25 (by decide) ?_
  refine tp_pc (pc' := 2) (by rfl) ?_
  refine lv_iload_n hx hb d_Ref_ends_2 rfl (lv_at hl 0 rfl) ?_
  refine lv_bipush (v := 8) hx hb d_Ref_ends_3 (by decide) ?_
  refine lv_icmp_ge (tgt := 28) hx hb d_Ref_ends_5 (by decide) (fun c_7 => absurd c_7 (by decide)) (fun c_7 => ?_)
  refine tp_pc (pc' := 8) (by rfl) ?_
  refine lv_aload_n hx hb d_Ref_ends_8 rfl (lv_at hl 1 rfl) ?_
  refine va_get (D := (dC, dI)) (ci := 8) (v := .ref h21) (C := R_Ref) (T := F_Ref) (N := 48) hx hb hw i_Ref hown hK hP 0 rfl rfl 28 (by decide) (hw _ m_927) (fun _ h9 => h9) rfl d_Ref_ends_9 ?_
  refine lv_iload_n hx hb d_Ref_ends_12 rfl (lv_at hl 0 rfl) ?_
  refine lv_aload_n hx hb d_Ref_ends_13 rfl (lv_at hl 1 rfl) ?_
  refine va_get (D := (dC, dI)) (ci := 8) (v := .ref h14) (C := R_Ref) (T := F_Ref) (N := 48) hx hb hw i_Ref hown hK hP 0 rfl rfl 16 (by decide) (hw _ m_915) (fun _ h9 => h9) rfl d_Ref_ends_14 ?_
  refine lv_iconst (v := 4) hx hb d_Ref_ends_17 (by decide) ?_
  refine lv_iload_n hx hb d_Ref_ends_18 rfl (lv_at hl 0 rfl) ?_
  refine lv_iadd hx hb d_Ref_ends_19 ?_
  refine tp_i (y := 10) (by first | rfl | decide) ?_
  refine va_iald (D := (dC, dI)) hx hb hK hP 5 4 rfl rfl (i := 10) (vp_c (by decide)) d_Ref_ends_20 ?_
  refine tp_i (y := 0) (by first | rfl | decide) ?_
  refine va_iast (D := (dC, dI)) hx hb hK hP (dd_D hD rfl) hS 6 5 rfl rfl (i := 6) (x := 0) (vp_c (by decide)) d_Ref_ends_21 ?_
  clear hP hS locs H
  intro H locs hP _ hS
  replace hP : va_P (dC, dI) classes [oc h0 8 [.int p1, .int p2, .ref h1, .ref h2, .ref h3, .ref h4, .ref h5, .ref h6, .ref h7, .ref h8, .ref h9, .ref h10, .ref h11, .ref h12, .int p3, .ref h13, .ref h14, .ref h15, .ref h16, .int 2, .int p5, .ref h17, .ref h18, .ref h19, .int p6, .ref h20, .int p7, .int p8, .ref h21, .ref h22, .ref h23, .ref h24, .ref h25, .ref h26, .ref h27, .ref h28, .int p9, .int p10, .ref h29, .ref h30, .ref h31, .ref h32, .ref h33, .ref h34, .ref h35, .ref h36, .int p11, .ref h37], ia h7 k6 8 (upd (fun _ => 0) 3 1), ia h8 k7 352000 f7, ia h10 k9 16000 f9, ia h11 k10 32000 f10, ia h14 k13 155 (fun _ => 0), ia h21 k20 11 (fun _ => 0)] H := P_cg 6 rfl (up_pt (by first | rfl | decide)) hP
  refine tp_pc (pc' := 22) (by rfl) ?_
  refine lv_iinc (v := 7) (lv' := [(2, .int 7), (0, .ref h0), (1, .int 0)]) hx hb d_Ref_ends_22 hl (k := 0) rfl (by first | rfl | decide) (by decide) rfl ?_
  clear hl ls
  intro ls hl
  refine lv_goto (tgt := 2) hx hb d_Ref_ends_25 (by decide) ?_
  refine tp_pc (pc' := 2) (by rfl) ?_
  refine lv_iload_n hx hb d_Ref_ends_2 rfl (lv_at hl 0 rfl) ?_
  refine lv_bipush (v := 8) hx hb d_Ref_ends_3 (by decide) ?_
  refine lv_icmp_ge (tgt := 28) hx hb d_Ref_ends_5 (by decide) (fun c_8 => absurd c_8 (by decide)) (fun c_8 => ?_)
  refine tp_pc (pc' := 8) (by rfl) ?_
  refine lv_aload_n hx hb d_Ref_ends_8 rfl (lv_at hl 1 rfl) ?_
  refine va_get (D := (dC, dI)) (ci := 8) (v := .ref h21) (C := R_Ref) (T := F_Ref) (N := 48) hx hb hw i_Ref hown hK hP 0 rfl rfl 28 (by decide) (hw _ m_927) (fun _ h9 => h9) rfl d_Ref_ends_9 ?_
  refine lv_iload_n hx hb d_Ref_ends_12 rfl (lv_at hl 0 rfl) ?_
  refine lv_aload_n hx hb d_Ref_ends_13 rfl (lv_at hl 1 rfl) ?_
  refine va_get (D := (dC, dI)) (ci := 8) (v := .ref h14) (C := R_Ref) (T := F_Ref) (N := 48) hx hb hw i_Ref hown hK hP 0 rfl rfl 16 (by decide) (hw _ m_915) (fun _ h9 => h9) rfl d_Ref_ends_14 ?_
  refine lv_iconst (v := 4) hx hb d_Ref_ends_17 (by decide) ?_
  refine lv_iload_n hx hb d_Ref_ends_18 rfl (lv_at hl 0 rfl) ?_
  refine lv_iadd hx hb d_Ref_ends_19 ?_
  refine tp_i (y := 11) (by first | rfl | decide) ?_
  refine va_iald (D := (dC, dI)) hx hb hK hP 5 4 rfl rfl (i := 11) (vp_c (by decide)) d_Ref_ends_20 ?_
  refine tp_i (y := 0) (by first | rfl | decide) ?_
  refine va_iast (D := (dC, dI)) hx hb hK hP (dd_D hD rfl) hS 6 5 rfl rfl (i := 7) (x := 0) (vp_c (by decide)) d_Ref_ends_21 ?_
  clear hP hS locs H
  intro H locs hP _ hS
  replace hP : va_P (dC, dI) classes [oc h0 8 [.int p1, .int p2, .ref h1, .ref h2, .ref h3, .ref h4, .ref h5, .ref h6, .ref h7, .ref h8, .ref h9, .ref h10, .ref h11, .ref h12, .int p3, .ref h13, .ref h14, .ref h15, .ref h16, .int 2, .int p5, .ref h17, .ref h18, .ref h19, .int p6, .ref h20, .int p7, .int p8, .ref h21, .ref h22, .ref h23, .ref h24, .ref h25, .ref h26, .ref h27, .ref h28, .int p9, .int p10, .ref h29, .ref h30, .ref h31, .ref h32, .ref h33, .ref h34, .ref h35, .ref h36, .int p11, .ref h37], ia h7 k6 8 (upd (fun _ => 0) 3 1), ia h8 k7 352000 f7, ia h10 k9 16000 f9, ia h11 k10 32000 f10, ia h14 k13 155 (fun _ => 0), ia h21 k20 11 (fun _ => 0)] H := P_cg 6 rfl (up_pt (by first | rfl | decide)) hP
  refine tp_pc (pc' := 22) (by rfl) ?_
  refine lv_iinc (v := 8) (lv' := [(2, .int 8), (0, .ref h0), (1, .int 0)]) hx hb d_Ref_ends_22 hl (k := 0) rfl (by first | rfl | decide) (by decide) rfl ?_
  clear hl ls
  intro ls hl
  refine lv_goto (tgt := 2) hx hb d_Ref_ends_25 (by decide) ?_
  refine tp_pc (pc' := 2) (by rfl) ?_
  refine lv_iload_n hx hb d_Ref_ends_2 rfl (lv_at hl 0 rfl) ?_
  refine lv_bipush (v := 8) hx hb d_Ref_ends_3 (by decide) ?_
  refine lv_icmp_ge (tgt := 28) hx hb d_Ref_ends_5 (by decide) (fun c_9 => ?_) (fun c_9 => absurd c_9 (by decide))
  refine tp_pc (pc' := 28) (by rfl) ?_
  refine lv_iconst (v := 0) hx hb d_Ref_ends_28 (by decide) ?_
  refine lv_istore_n (lv' := [(2, .int 0), (0, .ref h0), (1, .int 0)]) hx hb d_Ref_ends_29 rfl hl (by decide) rfl ?_
  clear hl ls
  intro ls hl
  refine lv_iload_n hx hb d_Ref_ends_30 rfl (lv_at hl 0 rfl) ?_
  refine lv_iconst (v := 3) hx hb d_Ref_ends_31 (by decide) ?_
  refine lv_icmp_ge (tgt := 102) hx hb d_Ref_ends_32 (by decide) (fun c_10 => absurd c_10 (by decide)) (fun c_10 => ?_)
  refine tp_pc (pc' := 35) (by rfl) ?_
  refine lv_aload_n hx hb d_Ref_ends_35 rfl (lv_at hl 1 rfl) ?_
  refine va_get (D := (dC, dI)) (ci := 8) (v := .ref h21) (C := R_Ref) (T := F_Ref) (N := 48) hx hb hw i_Ref hown hK hP 0 rfl rfl 28 (by decide) (hw _ m_927) (fun _ h9 => h9) rfl d_Ref_ends_36 ?_
  refine lv_bipush (v := 8) hx hb d_Ref_ends_39 (by decide) ?_
  refine lv_iload_n hx hb d_Ref_ends_41 rfl (lv_at hl 0 rfl) ?_
  refine lv_iadd hx hb d_Ref_ends_42 ?_
  refine tp_i (y := 8) (by first | rfl | decide) ?_
  refine lv_aload_n hx hb d_Ref_ends_43 rfl (lv_at hl 1 rfl) ?_
  refine va_get (D := (dC, dI)) (ci := 8) (v := .int 2) (C := R_Ref) (T := F_Ref) (N := 48) hx hb hw i_Ref hown hK hP 0 rfl rfl 19 (by decide) (hw _ m_918) (fun _ h9 => h9) rfl d_Ref_ends_44 ?_
  refine lv_iconst (v := 3) hx hb d_Ref_ends_47 (by decide) ?_
  refine lv_icmp_ge (tgt := 63) hx hb d_Ref_ends_48 (by decide) (fun c_11 => absurd c_11 (by decide)) (fun c_11 => ?_)
  refine tp_pc (pc' := 51) (by rfl) ?_
  refine lv_aload_n hx hb d_Ref_ends_51 rfl (lv_at hl 1 rfl) ?_
  refine va_get (D := (dC, dI)) (ci := 8) (v := .ref h14) (C := R_Ref) (T := F_Ref) (N := 48) hx hb hw i_Ref hown hK hP 0 rfl rfl 16 (by decide) (hw _ m_915) (fun _ h9 => h9) rfl d_Ref_ends_52 ?_
  refine lv_bipush (v := 12) hx hb d_Ref_ends_55 (by decide) ?_
  refine lv_iload_n hx hb d_Ref_ends_57 rfl (lv_at hl 0 rfl) ?_
  refine lv_iadd hx hb d_Ref_ends_58 ?_
  refine tp_i (y := 12) (by first | rfl | decide) ?_
  refine va_iald (D := (dC, dI)) hx hb hK hP 5 4 rfl rfl (i := 12) (vp_c (by decide)) d_Ref_ends_59 ?_
  refine tp_i (y := 0) (by first | rfl | decide) ?_
  refine lv_goto (tgt := 95) hx hb d_Ref_ends_60 (by decide) ?_
  refine tp_pc (pc' := 95) (by rfl) ?_
  refine va_iast (D := (dC, dI)) hx hb hK hP (dd_D hD rfl) hS 6 5 rfl rfl (i := 8) (x := 0) (vp_c (by decide)) d_Ref_ends_95 ?_
  clear hP hS locs H
  intro H locs hP _ hS
  replace hP : va_P (dC, dI) classes [oc h0 8 [.int p1, .int p2, .ref h1, .ref h2, .ref h3, .ref h4, .ref h5, .ref h6, .ref h7, .ref h8, .ref h9, .ref h10, .ref h11, .ref h12, .int p3, .ref h13, .ref h14, .ref h15, .ref h16, .int 2, .int p5, .ref h17, .ref h18, .ref h19, .int p6, .ref h20, .int p7, .int p8, .ref h21, .ref h22, .ref h23, .ref h24, .ref h25, .ref h26, .ref h27, .ref h28, .int p9, .int p10, .ref h29, .ref h30, .ref h31, .ref h32, .ref h33, .ref h34, .ref h35, .ref h36, .int p11, .ref h37], ia h7 k6 8 (upd (fun _ => 0) 3 1), ia h8 k7 352000 f7, ia h10 k9 16000 f9, ia h11 k10 32000 f10, ia h14 k13 155 (fun _ => 0), ia h21 k20 11 (fun _ => 0)] H := P_cg 6 rfl (up_pt (by first | rfl | decide)) hP
  refine tp_pc (pc' := 96) (by rfl) ?_
  refine lv_iinc (v := 1) (lv' := [(2, .int 1), (0, .ref h0), (1, .int 0)]) hx hb d_Ref_ends_96 hl (k := 0) rfl (by first | rfl | decide) (by decide) rfl ?_
  clear hl ls
  intro ls hl
  refine lv_goto (tgt := 30) hx hb d_Ref_ends_99 (by decide) ?_
  refine tp_pc (pc' := 30) (by rfl) ?_
  refine lv_iload_n hx hb d_Ref_ends_30 rfl (lv_at hl 0 rfl) ?_
  refine lv_iconst (v := 3) hx hb d_Ref_ends_31 (by decide) ?_
  refine lv_icmp_ge (tgt := 102) hx hb d_Ref_ends_32 (by decide) (fun c_12 => absurd c_12 (by decide)) (fun c_12 => ?_)
  refine tp_pc (pc' := 35) (by rfl) ?_
  refine lv_aload_n hx hb d_Ref_ends_35 rfl (lv_at hl 1 rfl) ?_
  refine va_get (D := (dC, dI)) (ci := 8) (v := .ref h21) (C := R_Ref) (T := F_Ref) (N := 48) hx hb hw i_Ref hown hK hP 0 rfl rfl 28 (by decide) (hw _ m_927) (fun _ h9 => h9) rfl d_Ref_ends_36 ?_
  refine lv_bipush (v := 8) hx hb d_Ref_ends_39 (by decide) ?_
  refine lv_iload_n hx hb d_Ref_ends_41 rfl (lv_at hl 0 rfl) ?_
  refine lv_iadd hx hb d_Ref_ends_42 ?_
  refine tp_i (y := 9) (by first | rfl | decide) ?_
  refine lv_aload_n hx hb d_Ref_ends_43 rfl (lv_at hl 1 rfl) ?_
  refine va_get (D := (dC, dI)) (ci := 8) (v := .int 2) (C := R_Ref) (T := F_Ref) (N := 48) hx hb hw i_Ref hown hK hP 0 rfl rfl 19 (by decide) (hw _ m_918) (fun _ h9 => h9) rfl d_Ref_ends_44 ?_
  refine lv_iconst (v := 3) hx hb d_Ref_ends_47 (by decide) ?_
  refine lv_icmp_ge (tgt := 63) hx hb d_Ref_ends_48 (by decide) (fun c_13 => absurd c_13 (by decide)) (fun c_13 => ?_)
  refine tp_pc (pc' := 51) (by rfl) ?_
  refine lv_aload_n hx hb d_Ref_ends_51 rfl (lv_at hl 1 rfl) ?_
  refine va_get (D := (dC, dI)) (ci := 8) (v := .ref h14) (C := R_Ref) (T := F_Ref) (N := 48) hx hb hw i_Ref hown hK hP 0 rfl rfl 16 (by decide) (hw _ m_915) (fun _ h9 => h9) rfl d_Ref_ends_52 ?_
  refine lv_bipush (v := 12) hx hb d_Ref_ends_55 (by decide) ?_
  refine lv_iload_n hx hb d_Ref_ends_57 rfl (lv_at hl 0 rfl) ?_
  refine lv_iadd hx hb d_Ref_ends_58 ?_
  refine tp_i (y := 13) (by first | rfl | decide) ?_
  refine va_iald (D := (dC, dI)) hx hb hK hP 5 4 rfl rfl (i := 13) (vp_c (by decide)) d_Ref_ends_59 ?_
  refine tp_i (y := 0) (by first | rfl | decide) ?_
  refine lv_goto (tgt := 95) hx hb d_Ref_ends_60 (by decide) ?_
  refine tp_pc (pc' := 95) (by rfl) ?_
  refine va_iast (D := (dC, dI)) hx hb hK hP (dd_D hD rfl) hS 6 5 rfl rfl (i := 9) (x := 0) (vp_c (by decide)) d_Ref_ends_95 ?_
  clear hP hS locs H
  intro H locs hP _ hS
  replace hP : va_P (dC, dI) classes [oc h0 8 [.int p1, .int p2, .ref h1, .ref h2, .ref h3, .ref h4, .ref h5, .ref h6, .ref h7, .ref h8, .ref h9, .ref h10, .ref h11, .ref h12, .int p3, .ref h13, .ref h14, .ref h15, .ref h16, .int 2, .int p5, .ref h17, .ref h18, .ref h19, .int p6, .ref h20, .int p7, .int p8, .ref h21, .ref h22, .ref h23, .ref h24, .ref h25, .ref h26, .ref h27, .ref h28, .int p9, .int p10, .ref h29, .ref h30, .ref h31, .ref h32, .ref h33, .ref h34, .ref h35, .ref h36, .int p11, .ref h37], ia h7 k6 8 (upd (fun _ => 0) 3 1), ia h8 k7 352000 f7, ia h10 k9 16000 f9, ia h11 k10 32000 f10, ia h14 k13 155 (fun _ => 0), ia h21 k20 11 (fun _ => 0)] H := P_cg 6 rfl (up_pt (by first | rfl | decide)) hP
  refine tp_pc (pc' := 96) (by rfl) ?_
  refine lv_iinc (v := 2) (lv' := [(2, .int 2), (0, .ref h0), (1, .int 0)]) hx hb d_Ref_ends_96 hl (k := 0) rfl (by first | rfl | decide) (by decide) rfl ?_
  clear hl ls
  intro ls hl
  refine lv_goto (tgt := 30) hx hb d_Ref_ends_99 (by decide) ?_
  refine tp_pc (pc' := 30) (by rfl) ?_
  refine lv_iload_n hx hb d_Ref_ends_30 rfl (lv_at hl 0 rfl) ?_
  refine lv_iconst (v := 3) hx hb d_Ref_ends_31 (by decide) ?_
  refine lv_icmp_ge (tgt := 102) hx hb d_Ref_ends_32 (by decide) (fun c_14 => absurd c_14 (by decide)) (fun c_14 => ?_)
  refine tp_pc (pc' := 35) (by rfl) ?_
  refine lv_aload_n hx hb d_Ref_ends_35 rfl (lv_at hl 1 rfl) ?_
  refine va_get (D := (dC, dI)) (ci := 8) (v := .ref h21) (C := R_Ref) (T := F_Ref) (N := 48) hx hb hw i_Ref hown hK hP 0 rfl rfl 28 (by decide) (hw _ m_927) (fun _ h9 => h9) rfl d_Ref_ends_36 ?_
  refine lv_bipush (v := 8) hx hb d_Ref_ends_39 (by decide) ?_
  refine lv_iload_n hx hb d_Ref_ends_41 rfl (lv_at hl 0 rfl) ?_
  refine lv_iadd hx hb d_Ref_ends_42 ?_
  refine tp_i (y := 10) (by first | rfl | decide) ?_
  refine lv_aload_n hx hb d_Ref_ends_43 rfl (lv_at hl 1 rfl) ?_
  refine va_get (D := (dC, dI)) (ci := 8) (v := .int 2) (C := R_Ref) (T := F_Ref) (N := 48) hx hb hw i_Ref hown hK hP 0 rfl rfl 19 (by decide) (hw _ m_918) (fun _ h9 => h9) rfl d_Ref_ends_44 ?_
  refine lv_iconst (v := 3) hx hb d_Ref_ends_47 (by decide) ?_
  refine lv_icmp_ge (tgt := 63) hx hb d_Ref_ends_48 (by decide) (fun c_15 => absurd c_15 (by decide)) (fun c_15 => ?_)
  refine tp_pc (pc' := 51) (by rfl) ?_
  refine lv_aload_n hx hb d_Ref_ends_51 rfl (lv_at hl 1 rfl) ?_
  refine va_get (D := (dC, dI)) (ci := 8) (v := .ref h14) (C := R_Ref) (T := F_Ref) (N := 48) hx hb hw i_Ref hown hK hP 0 rfl rfl 16 (by decide) (hw _ m_915) (fun _ h9 => h9) rfl d_Ref_ends_52 ?_
  refine lv_bipush (v := 12) hx hb d_Ref_ends_55 (by decide) ?_
  refine lv_iload_n hx hb d_Ref_ends_57 rfl (lv_at hl 0 rfl) ?_
  refine lv_iadd hx hb d_Ref_ends_58 ?_
  refine tp_i (y := 14) (by first | rfl | decide) ?_
  refine va_iald (D := (dC, dI)) hx hb hK hP 5 4 rfl rfl (i := 14) (vp_c (by decide)) d_Ref_ends_59 ?_
  refine tp_i (y := 0) (by first | rfl | decide) ?_
  refine lv_goto (tgt := 95) hx hb d_Ref_ends_60 (by decide) ?_
  refine tp_pc (pc' := 95) (by rfl) ?_
  refine va_iast (D := (dC, dI)) hx hb hK hP (dd_D hD rfl) hS 6 5 rfl rfl (i := 10) (x := 0) (vp_c (by decide)) d_Ref_ends_95 ?_
  clear hP hS locs H
  intro H locs hP _ hS
  replace hP : va_P (dC, dI) classes [oc h0 8 [.int p1, .int p2, .ref h1, .ref h2, .ref h3, .ref h4, .ref h5, .ref h6, .ref h7, .ref h8, .ref h9, .ref h10, .ref h11, .ref h12, .int p3, .ref h13, .ref h14, .ref h15, .ref h16, .int 2, .int p5, .ref h17, .ref h18, .ref h19, .int p6, .ref h20, .int p7, .int p8, .ref h21, .ref h22, .ref h23, .ref h24, .ref h25, .ref h26, .ref h27, .ref h28, .int p9, .int p10, .ref h29, .ref h30, .ref h31, .ref h32, .ref h33, .ref h34, .ref h35, .ref h36, .int p11, .ref h37], ia h7 k6 8 (upd (fun _ => 0) 3 1), ia h8 k7 352000 f7, ia h10 k9 16000 f9, ia h11 k10 32000 f10, ia h14 k13 155 (fun _ => 0), ia h21 k20 11 (fun _ => 0)] H := P_cg 6 rfl (up_pt (by first | rfl | decide)) hP
  refine tp_pc (pc' := 96) (by rfl) ?_
  refine lv_iinc (v := 3) (lv' := [(2, .int 3), (0, .ref h0), (1, .int 0)]) hx hb d_Ref_ends_96 hl (k := 0) rfl (by first | rfl | decide) (by decide) rfl ?_
  clear hl ls
  intro ls hl
  refine lv_goto (tgt := 30) hx hb d_Ref_ends_99 (by decide) ?_
  refine tp_pc (pc' := 30) (by rfl) ?_
  refine lv_iload_n hx hb d_Ref_ends_30 rfl (lv_at hl 0 rfl) ?_
  refine lv_iconst (v := 3) hx hb d_Ref_ends_31 (by decide) ?_
  refine lv_icmp_ge (tgt := 102) hx hb d_Ref_ends_32 (by decide) (fun c_16 => ?_) (fun c_16 => absurd c_16 (by decide))
  refine tp_pc (pc' := 102) (by rfl) ?_
  refine lv_aload_n hx hb d_Ref_ends_102 rfl (lv_at hl 1 rfl) ?_
  refine lv_aload_n hx hb d_Ref_ends_103 rfl (lv_at hl 1 rfl) ?_
  refine va_get (D := (dC, dI)) (ci := 8) (v := .int 2) (C := R_Ref) (T := F_Ref) (N := 48) hx hb hw i_Ref hown hK hP 0 rfl rfl 19 (by decide) (hw _ m_918) (fun _ h9 => h9) rfl d_Ref_ends_104 ?_
  obtain ⟨hPc, hDc, hFc⟩ := cut3 (wc := [oc h0 8 [.int p1, .int p2, .ref h1, .ref h2, .ref h3, .ref h4, .ref h5, .ref h6, .ref h7, .ref h8, .ref h9, .ref h10, .ref h11, .ref h12, .int p3, .ref h13, .ref h14, .ref h15, .ref h16, .int 2, .int p5, .ref h17, .ref h18, .ref h19, .int p6, .ref h20, .int p7, .int p8, .ref h21, .ref h22, .ref h23, .ref h24, .ref h25, .ref h26, .ref h27, .ref h28, .int p9, .int p10, .ref h29, .ref h30, .ref h31, .ref h32, .ref h33, .ref h34, .ref h35, .ref h36, .int p11, .ref h37], ia h7 k6 8 (upd (fun _ => 0) 3 1), ia h8 k7 352000 f7, ia h11 k10 32000 f10, ia h21 k20 11 (fun _ => 0)]) hP hD rfl hS hA [0, 1, 2, 4, 6] (by decide +kernel) rfl
  have hKc := hK.sub (tys' := [(k6, .int), (k7, .short), (k10, .int), (k20, .int)]) [0, 1, 3, 5] rfl
  refine va_calli (va_runV (As := [.int 2]) (rest := []) ⟨hx, hb, hml, hown, hw⟩ (c_Ref_addOutcome_v20 l dC dI h0 p1 p2 h1 h2 h3 h4 h5 h6 h7 h8 h9 h10 h11 h12 p3 h13 h14 h15 h16 2 p5 h17 h18 h19 p6 h20 p7 p8 h21 h22 h23 h24 h25 h26 h27 h28 p9 p10 h29 h30 h31 h32 h33 h34 h35 h36 p11 h37 k6 k7 f7 k10 f10 k20 H.size) (cw_V 1 hw g_Ref_addOutcome rfl rfl rfl (hw _ m_109) (hw _ m_1162) (hw _ m_1164) (hw _ m_75) (by decide +kernel) ⟨Nat.le_of_ble_eq_true rfl, Nat.le_of_ble_eq_true rfl⟩) ⟨fun a U g mk q => by obtain ⟨q0, q1, qP, qK, qD, qN⟩ := q; exact ⟨q0, q1, qP, va_K.moved (u := U) (U := U.calling g mk a) (Vm.Alike.refl U.vm) qK, qD, nw_call qN⟩, va_recv hKc hPc (ci := 8) (q0 := 0) rfl rfl, fun U hU hW => ⟨rfl, by rw [hU], by rw [hU]; exact hPc, va_K.moved hW.alike hKc, hDc.weaken (fun _ _ _ _ => trivial), nw_warm hW hn⟩⟩ rfl rfl hl.1 rfl (lv_room (Nat.le_of_ble_eq_true rfl)) d_Ref_ends_107 ⟨Nat.le_of_ble_eq_true rfl, Nat.le_of_ble_eq_true rfl⟩) hS (fun q _ h => hFc q h) hFc ?_
  intro r_17 u t H1 locs1 ht hvm hw1 hB hz1 hk1 hS1
  obtain ⟨hP1, hK1, hD1⟩ := hB
  rw [ht] at hP1
  replace hK1 := va_K.moved hvm.symm hK1
  have hPD := join3 hP hD rfl [0, 1, 2, 4, 6] [3, 5] rfl (by rfl) (by decide +kernel) (by decide +kernel) hk1 hFc hP1 hD1
  replace hK : va_K (dC, dI) classes [(k6, .int), (k7, .short), (k9, .int), (k10, .int), (k13, .int), (k20, .int)] s := hK.app hK1
  clear hP1 hK1 hD1 hk1 hz1 hFc hKc hDc hPc hvm ht hP hS t locs H
  have hP : va_P (dC, dI) classes [ia h10 k9 16000 f9, ia h14 k13 155 (fun _ => 0), oc h0 8 [.int p1, .int p2, .ref h1, .ref h2, .ref h3, .ref h4, .ref h5, .ref h6, .ref h7, .ref h8, .ref h9, .ref h10, .ref h11, .ref h12, .int p3, .ref h13, .ref h14, .ref h15, .ref h16, .int 2, .int p5, .ref h17, .ref h18, .ref h19, .int p6, .ref h20, .int p7, .int p8, .ref h21, .ref h22, .ref h23, .ref h24, .ref h25, .ref h26, .ref h27, .ref h28, .int p9, .int p10, .ref h29, .ref h30, .ref h31, .ref h32, .ref h33, .ref h34, .ref h35, .ref h36, .int p11, .ref h37], ia h7 k6 8 (upd (upd (fun _ => 0) 3 1) 2 1), ia h8 k7 352000 (upd (upd (upd (upd (upd (upd (upd (upd (upd (upd (upd f7 88000 0) 88001 0) 88002 0) 88003 0) 88004 0) 88005 0) 88006 0) 88007 0) 88008 0) 88009 0) 88010 0), ia h11 k10 32000 (upd f10 8000 0), ia h21 k20 11 (fun _ => 0)] H1 := hPD.1
  replace hD : dd A [h10, h14, h0, h7, h8, h11, h21] := dd_of hPD.2 rfl
  clear hPD
  revert H1 locs1
  intro H locs hS hP
  refine tp_i (y := 0) hw1 ?_
  clear hw1 r_17 u
  refine tp_pc (pc' := 110) (by rfl) ?_
  refine lv_istore_n (lv' := [(2, .int 0), (0, .ref h0), (1, .int 0)]) hx hb d_Ref_ends_110 rfl hl (by decide) rfl ?_
  clear hl ls
  intro ls hl
  refine lv_iload_n hx hb d_Ref_ends_111 rfl (lv_at hl 0 rfl) ?_
  refine lv_if_lt (tgt := 168) hx hb d_Ref_ends_112 (by decide) (fun c_18 => absurd c_18 (by decide)) (fun c_18 => ?_)
  refine tp_pc (pc' := 115) (by rfl) ?_
  refine lv_sipush (v := 4000) hx hb d_Ref_ends_115 (by decide) ?_
  refine lv_aload_n hx hb d_Ref_ends_118 rfl (lv_at hl 1 rfl) ?_
  refine va_get (D := (dC, dI)) (ci := 8) (v := .int 2) (C := R_Ref) (T := F_Ref) (N := 48) hx hb hw i_Ref hown hK hP 2 rfl rfl 19 (by decide) (hw _ m_918) (fun _ h9 => h9) rfl d_Ref_ends_119 ?_
  refine lv_imul hx hb d_Ref_ends_122 ?_
  refine tp_i (y := 8000) (by first | rfl | decide) ?_
  refine lv_iload_n hx hb d_Ref_ends_123 rfl (lv_at hl 0 rfl) ?_
  refine lv_iadd hx hb d_Ref_ends_124 ?_
  refine tp_i (y := 8000) (by first | rfl | decide) ?_
  refine lv_istore_n (lv' := [(3, .int 8000), (2, .int 0), (0, .ref h0), (1, .int 0)]) hx hb d_Ref_ends_125 rfl hl (by decide) rfl ?_
  clear hl ls
  intro ls hl
  refine lv_aload_n hx hb d_Ref_ends_126 rfl (lv_at hl 2 rfl) ?_
  refine va_get (D := (dC, dI)) (ci := 8) (v := .ref h10) (C := R_Ref) (T := F_Ref) (N := 48) hx hb hw i_Ref hown hK hP 2 rfl rfl 11 (by decide) (hw _ m_910) (fun _ h9 => h9) rfl d_Ref_ends_127 ?_
  refine lv_iload_n hx hb d_Ref_ends_130 rfl (lv_at hl 0 rfl) ?_
  refine lv_iload_n hx hb d_Ref_ends_131 rfl (lv_at hl 3 rfl) ?_
  refine va_iast (D := (dC, dI)) hx hb hK hP (dd_D hD rfl) hS 0 2 rfl rfl (i := 8000) (x := 0) (vp_c (by decide)) d_Ref_ends_132 ?_
  clear hP hS locs H
  intro H locs (hP : va_P (dC, dI) classes [ia h10 k9 16000 (upd f9 8000 0), ia h14 k13 155 (fun _ => 0), oc h0 8 [.int p1, .int p2, .ref h1, .ref h2, .ref h3, .ref h4, .ref h5, .ref h6, .ref h7, .ref h8, .ref h9, .ref h10, .ref h11, .ref h12, .int p3, .ref h13, .ref h14, .ref h15, .ref h16, .int 2, .int p5, .ref h17, .ref h18, .ref h19, .int p6, .ref h20, .int p7, .int p8, .ref h21, .ref h22, .ref h23, .ref h24, .ref h25, .ref h26, .ref h27, .ref h28, .int p9, .int p10, .ref h29, .ref h30, .ref h31, .ref h32, .ref h33, .ref h34, .ref h35, .ref h36, .int p11, .ref h37], ia h7 k6 8 (upd (upd (fun _ => 0) 3 1) 2 1), ia h8 k7 352000 (upd (upd (upd (upd (upd (upd (upd (upd (upd (upd (upd f7 88000 0) 88001 0) 88002 0) 88003 0) 88004 0) 88005 0) 88006 0) 88007 0) 88008 0) 88009 0) 88010 0), ia h11 k10 32000 (upd f10 8000 0), ia h21 k20 11 (fun _ => 0)] H) _ hS
  refine tp_pc (pc' := 133) (by rfl) ?_
  refine lv_iconst (v := 0) hx hb d_Ref_ends_133 (by decide) ?_
  refine lv_istore (lv' := [(4, .int 0), (3, .int 8000), (2, .int 0), (0, .ref h0), (1, .int 0)]) hx hb d_Ref_ends_134 hl (by decide) rfl ?_
  clear hl ls
  intro ls hl
  refine lv_iload hx hb d_Ref_ends_136 (lv_at hl 0 rfl) ?_
  refine lv_iload_n hx hb d_Ref_ends_138 rfl (lv_at hl 4 rfl) ?_
  refine lv_icmp_ge (tgt := 168) hx hb d_Ref_ends_139 (by decide) (fun c_19 => ?_) (fun c_19 => absurd c_19 (by decide))
  refine tp_pc (pc' := 168) (by rfl) ?_
  obtain ⟨hP9, hD9, -⟩ := cut3 (wc := [oc h0 8 [.int p1, .int p2, .ref h1, .ref h2, .ref h3, .ref h4, .ref h5, .ref h6, .ref h7, .ref h8, .ref h9, .ref h10, .ref h11, .ref h12, .int p3, .ref h13, .ref h14, .ref h15, .ref h16, .int 2, .int p5, .ref h17, .ref h18, .ref h19, .int p6, .ref h20, .int p7, .int p8, .ref h21, .ref h22, .ref h23, .ref h24, .ref h25, .ref h26, .ref h27, .ref h28, .int p9, .int p10, .ref h29, .ref h30, .ref h31, .ref h32, .ref h33, .ref h34, .ref h35, .ref h36, .int p11, .ref h37], ia h7 k6 8 (upd (upd (fun _ => 0) 3 1) 2 1), ia h8 k7 352000 (upd (upd (upd (upd (upd (upd (upd (upd (upd (upd (upd f7 88000 0) 88001 0) 88002 0) 88003 0) 88004 0) 88005 0) 88006 0) 88007 0) 88008 0) 88009 0) 88010 0), ia h10 k9 16000 (upd f9 8000 0), ia h11 k10 32000 (upd f10 8000 0), ia h14 k13 155 (fun _ => 0), ia h21 k20 11 (fun _ => 0)]) hP hD rfl hS hA [2, 3, 4, 0, 5, 1, 6] (by decide +kernel) rfl
  have hK9 := hK.sub (tys' := []) [] rfl
  refine W.widen (k := 0) (n := 0) (by exact Nat.le_of_ble_eq_true rfl) (by exact Nat.le_of_ble_eq_true rfl) ?_
  exact W.vret hx hb hr (fun t ht hW => ⟨⟨(), rfl, trivial, by rw [ht]; exact hP9, va_K.moved hW.alike hK9, hD9⟩, hS.F ht⟩) hS.2.2 d_Ref_ends_168
set_option maxHeartbeats 4000000 in
set_option maxRecDepth 100000 in
theorem c_Ref_from_v17 (l : Launch) (dC : Nat → ClassId) (dI : Nat → Nat → Nat) (h0 : Nat) (p2 : Int32) (h1 : Nat) (h2 : Nat) (h3 : Nat) (h4 : Nat) (h5 : Nat) (h6 : Nat) (h7 : Nat) (h8 : Nat) (h9 : Nat) (h10 : Nat) (h11 : Nat) (h12 : Nat) (p3 : Int32) (h13 : Nat) (h14 : Nat) (h15 : Nat) (h16 : Nat) (h17 : Nat) (h18 : Nat) (h19 : Nat) (h20 : Nat) (p7 : Int32) (h21 : Nat) (h22 : Nat) (h23 : Nat) (h24 : Nat) (h25 : Nat) (h26 : Nat) (h27 : Nat) (h28 : Nat) (p9 : Int32) (p10 : Int32) (h29 : Nat) (h30 : Nat) (h31 : Nat) (h32 : Nat) (h33 : Nat) (h34 : Nat) (h35 : Nat) (h36 : Nat) (p11 : Int32) (h37 : Nat) (k6 : ClassId) (k7 : ClassId) (f7 : Nat → Int32) (k9 : ClassId) (f9 : Nat → Int32) (k10 : ClassId) (f10 : Nat → Int32) (k13 : ClassId) (k14 : ClassId) (f14 : Nat → Int32) (k16 : ClassId) (f16 : Nat → Int64) (k17 : ClassId) (f17 : Nat → Int32) (k18 : ClassId) (k19 : ClassId) (f19 : Nat → Int64) (k20 : ClassId) (sz : Nat) : Met l y_Ref_from w_Ref_from ({ frames := 3, cells := 0, slots := 0, locals := 77 }) (va_Pc [.ref h0, .int 0] (fun U => U.heap.size = sz ∧ va_P (dC, dI) classes [oc h0 8 [.int 0, .int p2, .ref h1, .ref h2, .ref h3, .ref h4, .ref h5, .ref h6, .ref h7, .ref h8, .ref h9, .ref h10, .ref h11, .ref h12, .int p3, .ref h13, .ref h14, .ref h15, .ref h16, .int 2, .int 37, .ref h17, .ref h18, .ref h19, .int 0, .ref h20, .int p7, .int 0, .ref h21, .ref h22, .ref h23, .ref h24, .ref h25, .ref h26, .ref h27, .ref h28, .int p9, .int p10, .ref h29, .ref h30, .ref h31, .ref h32, .ref h33, .ref h34, .ref h35, .ref h36, .int p11, .ref h37], ia h7 k6 8 (upd (fun _ => 0) 3 1), ia h8 k7 352000 f7, ia h10 k9 16000 f9, ia h11 k10 32000 f10, ia h14 k13 155 (fun _ => 0), ia h15 k14 2635 f14, la h17 k16 1200000 f16, ia h18 k17 240000 f17, ia h19 k18 65536 (fun _ => (-1)), la h20 k19 5 f19, ia h21 k20 11 (fun _ => 0)] U.heap ∧ va_K (dC, dI) classes [(k6, .int), (k7, .short), (k9, .int), (k10, .int), (k13, .int), (k14, .int), (k16, .long), (k17, .int), (k18, .int), (k19, .long), (k20, .int)] U ∧ va_D (fun _ => True) [oc h0 8 [.int 0, .int p2, .ref h1, .ref h2, .ref h3, .ref h4, .ref h5, .ref h6, .ref h7, .ref h8, .ref h9, .ref h10, .ref h11, .ref h12, .int p3, .ref h13, .ref h14, .ref h15, .ref h16, .int 2, .int 37, .ref h17, .ref h18, .ref h19, .int 0, .ref h20, .int p7, .int 0, .ref h21, .ref h22, .ref h23, .ref h24, .ref h25, .ref h26, .ref h27, .ref h28, .int p9, .int p10, .ref h29, .ref h30, .ref h31, .ref h32, .ref h33, .ref h34, .ref h35, .ref h36, .int p11, .ref h37], ia h7 k6 8 (upd (fun _ => 0) 3 1), ia h8 k7 352000 f7, ia h10 k9 16000 f9, ia h11 k10 32000 f10, ia h14 k13 155 (fun _ => 0), ia h15 k14 2635 f14, la h17 k16 1200000 f16, ia h18 k17 240000 f17, ia h19 k18 65536 (fun _ => (-1)), la h20 k19 5 f19, ia h21 k20 11 (fun _ => 0)] ∧ nw U)) (va_Qv (fun _ : Unit => True) (fun _ t => ∃ (g_4 : Nat → Int32), va_P (dC, dI) classes [oc h0 8 [.int 0, .int p2, .ref h1, .ref h2, .ref h3, .ref h4, .ref h5, .ref h6, .ref h7, .ref h8, .ref h9, .ref h10, .ref h11, .ref h12, .int p3, .ref h13, .ref h14, .ref h15, .ref h16, .int 2, .int 37, .ref h17, .ref h18, .ref h19, .int 1, .ref h20, .int 125, .int 0, .ref h21, .ref h22, .ref h23, .ref h24, .ref h25, .ref h26, .ref h27, .ref h28, .int p9, .int p10, .ref h29, .ref h30, .ref h31, .ref h32, .ref h33, .ref h34, .ref h35, .ref h36, .int p11, .ref h37], ia h7 k6 8 (upd (upd (fun _ => 0) 3 1) 2 1), ia h8 k7 352000 (upd (upd (upd (upd (upd (upd (upd (upd (upd (upd (upd f7 88000 0) 88001 0) 88002 0) 88003 0) 88004 0) 88005 0) 88006 0) 88007 0) 88008 0) 88009 0) 88010 0), ia h10 k9 16000 (upd f9 8000 0), ia h11 k10 32000 (upd f10 8000 0), ia h14 k13 155 (fun _ => 0), ia h15 k14 2635 g_4, la h17 k16 1200000 (vp_updL (vp_updL (vp_updL (vp_updL (vp_updL f16 0 1161999626690363392) 1 16909320) 2 0) 3 0) 4 0), ia h18 k17 240000 (upd f17 0 (-1)), ia h19 k18 65536 (upd (fun _ => (-1)) 22162 0), la h20 k19 5 (vp_updL (vp_updL (vp_updL (vp_updL (vp_updL (vp_updL (vp_updL (vp_updL (vp_updL (vp_updL (vp_updL (vp_updL (vp_updL (vp_updL (vp_updL (vp_updL (vp_updL (vp_updL (vp_updL (vp_updL (vp_updL (vp_updL (vp_updL (vp_updL (vp_updL (vp_updL (vp_updL (vp_updL (vp_updL (vp_updL (vp_updL (vp_updL (vp_updL f19 0 0) 1 0) 2 0) 3 0) 4 0) 0 0) 0 0) 0 0) 0 0) 0 262144) 0 33816576) 0 4328783872) 0 554084597760) 0 70922828775424) 0 9078122083516416) 0 1161999626690363392) 0 1161999626690363392) 1 8) 1 1032) 1 132104) 1 16909320) 1 16909320) 1 16909320) 1 16909320) 1 16909320) 1 16909320) 1 16909320) 1 16909320) 1 16909320) 1 16909320) 1 16909320) 1 16909320) 1 16909320), ia h21 k20 11 (fun _ => 0)] t.heap ∧ va_K (dC, dI) classes [] t ∧ va_D (va_A [oc h0 8 [.int 0, .int p2, .ref h1, .ref h2, .ref h3, .ref h4, .ref h5, .ref h6, .ref h7, .ref h8, .ref h9, .ref h10, .ref h11, .ref h12, .int p3, .ref h13, .ref h14, .ref h15, .ref h16, .int 2, .int 37, .ref h17, .ref h18, .ref h19, .int 0, .ref h20, .int p7, .int 0, .ref h21, .ref h22, .ref h23, .ref h24, .ref h25, .ref h26, .ref h27, .ref h28, .int p9, .int p10, .ref h29, .ref h30, .ref h31, .ref h32, .ref h33, .ref h34, .ref h35, .ref h36, .int p11, .ref h37], ia h7 k6 8 (upd (fun _ => 0) 3 1), ia h8 k7 352000 f7, ia h10 k9 16000 f9, ia h11 k10 32000 f10, ia h14 k13 155 (fun _ => 0), ia h15 k14 2635 f14, la h17 k16 1200000 f16, ia h18 k17 240000 f17, ia h19 k18 65536 (fun _ => (-1)), la h20 k19 5 f19, ia h21 k20 11 (fun _ => 0)] sz) [oc h0 8 [.int 0, .int p2, .ref h1, .ref h2, .ref h3, .ref h4, .ref h5, .ref h6, .ref h7, .ref h8, .ref h9, .ref h10, .ref h11, .ref h12, .int p3, .ref h13, .ref h14, .ref h15, .ref h16, .int 2, .int 37, .ref h17, .ref h18, .ref h19, .int 1, .ref h20, .int 125, .int 0, .ref h21, .ref h22, .ref h23, .ref h24, .ref h25, .ref h26, .ref h27, .ref h28, .int p9, .int p10, .ref h29, .ref h30, .ref h31, .ref h32, .ref h33, .ref h34, .ref h35, .ref h36, .int p11, .ref h37], ia h7 k6 8 (upd (upd (fun _ => 0) 3 1) 2 1), ia h8 k7 352000 (upd (upd (upd (upd (upd (upd (upd (upd (upd (upd (upd f7 88000 0) 88001 0) 88002 0) 88003 0) 88004 0) 88005 0) 88006 0) 88007 0) 88008 0) 88009 0) 88010 0), ia h10 k9 16000 (upd f9 8000 0), ia h11 k10 32000 (upd f10 8000 0), ia h14 k13 155 (fun _ => 0), ia h15 k14 2635 g_4, la h17 k16 1200000 (vp_updL (vp_updL (vp_updL (vp_updL (vp_updL f16 0 1161999626690363392) 1 16909320) 2 0) 3 0) 4 0), ia h18 k17 240000 (upd f17 0 (-1)), ia h19 k18 65536 (upd (fun _ => (-1)) 22162 0), la h20 k19 5 (vp_updL (vp_updL (vp_updL (vp_updL (vp_updL (vp_updL (vp_updL (vp_updL (vp_updL (vp_updL (vp_updL (vp_updL (vp_updL (vp_updL (vp_updL (vp_updL (vp_updL (vp_updL (vp_updL (vp_updL (vp_updL (vp_updL (vp_updL (vp_updL (vp_updL (vp_updL (vp_updL (vp_updL (vp_updL (vp_updL (vp_updL (vp_updL (vp_updL f19 0 0) 1 0) 2 0) 3 0) 4 0) 0 0) 0 0) 0 0) 0 0) 0 262144) 0 33816576) 0 4328783872) 0 554084597760) 0 70922828775424) 0 9078122083516416) 0 1161999626690363392) 0 1161999626690363392) 1 8) 1 1032) 1 132104) 1 16909320) 1 16909320) 1 16909320) 1 16909320) 1 16909320) 1 16909320) 1 16909320) 1 16909320) 1 16909320) 1 16909320) 1 16909320) 1 16909320) 1 16909320), ia h21 k20 11 (fun _ => 0)]) (va_A [oc h0 8 [.int 0, .int p2, .ref h1, .ref h2, .ref h3, .ref h4, .ref h5, .ref h6, .ref h7, .ref h8, .ref h9, .ref h10, .ref h11, .ref h12, .int p3, .ref h13, .ref h14, .ref h15, .ref h16, .int 2, .int 37, .ref h17, .ref h18, .ref h19, .int 0, .ref h20, .int p7, .int 0, .ref h21, .ref h22, .ref h23, .ref h24, .ref h25, .ref h26, .ref h27, .ref h28, .int p9, .int p10, .ref h29, .ref h30, .ref h31, .ref h32, .ref h33, .ref h34, .ref h35, .ref h36, .int p11, .ref h37], ia h7 k6 8 (upd (fun _ => 0) 3 1), ia h8 k7 352000 f7, ia h10 k9 16000 f9, ia h11 k10 32000 f10, ia h14 k13 155 (fun _ => 0), ia h15 k14 2635 f14, la h17 k16 1200000 f16, ia h18 k17 240000 f17, ia h19 k18 65536 (fun _ => (-1)), la h20 k19 5 f19, ia h21 k20 11 (fun _ => 0)] sz)) 0 0 (va_A [oc h0 8 [.int 0, .int p2, .ref h1, .ref h2, .ref h3, .ref h4, .ref h5, .ref h6, .ref h7, .ref h8, .ref h9, .ref h10, .ref h11, .ref h12, .int p3, .ref h13, .ref h14, .ref h15, .ref h16, .int 2, .int 37, .ref h17, .ref h18, .ref h19, .int 0, .ref h20, .int p7, .int 0, .ref h21, .ref h22, .ref h23, .ref h24, .ref h25, .ref h26, .ref h27, .ref h28, .int p9, .int p10, .ref h29, .ref h30, .ref h31, .ref h32, .ref h33, .ref h34, .ref h35, .ref h36, .int p11, .ref h37], ia h7 k6 8 (upd (fun _ => 0) 3 1), ia h8 k7 352000 f7, ia h10 k9 16000 f9, ia h11 k10 32000 f10, ia h14 k13 155 (fun _ => 0), ia h15 k14 2635 f14, la h17 k16 1200000 f16, ia h18 k17 240000 f17, ia h19 k18 65536 (fun _ => (-1)), la h20 k19 5 f19, ia h21 k20 11 (fun _ => 0)] sz) := by
  refine Met.ofW (cc := b_Ref_from) (maxL := 5) (ret := none) (by decide) rfl ?_
  intro p e s m args below meth c s₁ B hml hv
  obtain ⟨rfl, hsz, hP, hK, hD0, hn⟩ := hv
  have hx := B.exec
  have hb := B.bytes
  have hr := B.returns
  have hw := fun w (h : w ∈ wt) => atoms_spec (ws := w_Ref_from) B.pre w (List.mem_cons_of_mem _ h)
  have hown : s.vm.findClass R_Ref = some m.cls := findClass_of_methodNamed B.named
  have hlocks := B.notSynchronized
  subst hsz
  have hD1 := hD0.self (sz := s.heap.size)
  generalize hAe : va_A [oc h0 8 [.int 0, .int p2, .ref h1, .ref h2, .ref h3, .ref h4, .ref h5, .ref h6, .ref h7, .ref h8, .ref h9, .ref h10, .ref h11, .ref h12, .int p3, .ref h13, .ref h14, .ref h15, .ref h16, .int 2, .int 37, .ref h17, .ref h18, .ref h19, .int 0, .ref h20, .int p7, .int 0, .ref h21, .ref h22, .ref h23, .ref h24, .ref h25, .ref h26, .ref h27, .ref h28, .int p9, .int p10, .ref h29, .ref h30, .ref h31, .ref h32, .ref h33, .ref h34, .ref h35, .ref h36, .int p11, .ref h37], ia h7 k6 8 (upd (fun _ => 0) 3 1), ia h8 k7 352000 f7, ia h10 k9 16000 f9, ia h11 k10 32000 f10, ia h14 k13 155 (fun _ => 0), ia h15 k14 2635 f14, la h17 k16 1200000 f16, ia h18 k17 240000 f17, ia h19 k18 65536 (fun _ => (-1)), la h20 k19 5 f19, ia h21 k20 11 (fun _ => 0)] s.heap.size = A at hD1 ⊢
  have hA : ∀ q : Nat, s.heap.size ≤ q → A q := fun q h => by rw [← hAe]; exact Or.inr h
  have hD : dd A [h0, h7, h8, h10, h11, h14, h15, h17, h18, h19, h20, h21] := dd_of hD1 rfl
  clear hAe hD0 hD1
  have hS : va_S A s.heap s.heap [] := va_S.rf
  replace hP : va_P (dC, dI) classes [oc h0 8 [.int 0, .int p2, .ref h1, .ref h2, .ref h3, .ref h4, .ref h5, .ref h6, .ref h7, .ref h8, .ref h9, .ref h10, .ref h11, .ref h12, .int p3, .ref h13, .ref h14, .ref h15, .ref h16, .int 2, .int 37, .ref h17, .ref h18, .ref h19, .int 0, .ref h20, .int p7, .int 0, .ref h21, .ref h22, .ref h23, .ref h24, .ref h25, .ref h26, .ref h27, .ref h28, .int p9, .int p10, .ref h29, .ref h30, .ref h31, .ref h32, .ref h33, .ref h34, .ref h35, .ref h36, .int p11, .ref h37], ia h7 k6 8 (upd (fun _ => 0) 3 1), ia h8 k7 352000 f7, ia h10 k9 16000 f9, ia h11 k10 32000 f10, ia h14 k13 155 (fun _ => 0), ia h15 k14 2635 f14, la h17 k16 1200000 f16, ia h18 k17 240000 f17, ia h19 k18 65536 (fun _ => (-1)), la h20 k19 5 f19, ia h21 k20 11 (fun _ => 0)] s.heap := hP
  have hl := lv_entry ([.ref h0, .int 0]) (n := 5) (Nat.le_of_ble_eq_true rfl)
  rw [lg_entry_eq]
  generalize (lg_sl ([.ref h0, .int 0]) ++ List.replicate (5 - (lg_sl ([.ref h0, .int 0])).length) Slot.unset).toArray = ls at hl ⊢
  replace hl : lv_has ls 5 [(0, .ref h0), (1, .int 0)] := hl
  refine lv_aload_n hx hb d_Ref_from_0 rfl (lv_at hl 0 rfl) ?_
  obtain ⟨hPc, hDc, hFc⟩ := cut3 (wc := [oc h0 8 [.int 0, .int p2, .ref h1, .ref h2, .ref h3, .ref h4, .ref h5, .ref h6, .ref h7, .ref h8, .ref h9, .ref h10, .ref h11, .ref h12, .int p3, .ref h13, .ref h14, .ref h15, .ref h16, .int 2, .int 37, .ref h17, .ref h18, .ref h19, .int 0, .ref h20, .int p7, .int 0, .ref h21, .ref h22, .ref h23, .ref h24, .ref h25, .ref h26, .ref h27, .ref h28, .int p9, .int p10, .ref h29, .ref h30, .ref h31, .ref h32, .ref h33, .ref h34, .ref h35, .ref h36, .int p11, .ref h37], ia h14 k13 155 (fun _ => 0), la h17 k16 1200000 f16, ia h18 k17 240000 f17, ia h19 k18 65536 (fun _ => (-1)), la h20 k19 5 f19]) hP hD rfl hS hA [0, 5, 7, 8, 9, 10] (by decide +kernel) rfl
  have hKc := hK.sub (tys' := [(k13, .int), (k16, .long), (k17, .int), (k18, .int), (k19, .long)]) [4, 6, 7, 8, 9] rfl
  refine va_calli (va_runV (As := []) (rest := []) ⟨hx, hb, hml, hown, hw⟩ (c_Ref_wasMet_v3 l dC dI h0 0 p2 h1 h2 h3 h4 h5 h6 h7 h8 h9 h10 h11 h12 p3 h13 h14 h15 h16 37 h17 h18 h19 h20 p7 0 h21 h22 h23 h24 h25 h26 h27 h28 p9 p10 h29 h30 h31 h32 h33 h34 h35 h36 p11 h37 k13 k16 f16 k17 f17 k18 k19 f19 s.heap.size) (cw_V 0 hw g_Ref_wasMet rfl rfl rfl (hw _ m_109) (hw _ m_1085) (hw _ m_1087) (hw _ m_56) (by decide +kernel) ⟨Nat.le_of_ble_eq_true rfl, Nat.le_of_ble_eq_true rfl⟩) ⟨fun a U g mk q => by obtain ⟨q0, q1, qP, qK, qD, qN⟩ := q; exact ⟨q0, q1, qP, va_K.moved (u := U) (U := U.calling g mk a) (Vm.Alike.refl U.vm) qK, qD, nw_call qN⟩, va_recv hKc hPc (ci := 8) (q0 := 0) rfl rfl, fun U hU hW => ⟨rfl, by rw [hU], by rw [hU]; exact hPc, va_K.moved hW.alike hKc, hDc.weaken (fun _ _ _ _ => trivial), nw_warm hW hn⟩⟩ rfl rfl hl.1 rfl (lv_room (Nat.le_of_ble_eq_true rfl)) d_Ref_from_1 ⟨Nat.le_of_ble_eq_true rfl, Nat.le_of_ble_eq_true rfl⟩) hS (fun q _ h => hFc q h) hFc ?_
  intro r_1 u t H1 locs1 ht hvm hw1 hB hz1 hk1 hS1
  obtain ⟨hP1, hK1, hD1⟩ := hB
  rw [ht] at hP1
  replace hK1 := va_K.moved hvm.symm hK1
  have hPD := join3 hP hD rfl [0, 5, 7, 8, 9, 10] [1, 2, 3, 4, 6, 11] rfl (by rfl) (by decide +kernel) (by decide +kernel) hk1 hFc hP1 hD1
  replace hK : va_K (dC, dI) classes [(k6, .int), (k7, .short), (k9, .int), (k10, .int), (k13, .int), (k14, .int), (k16, .long), (k17, .int), (k18, .int), (k19, .long), (k20, .int)] s := hK.app hK1
  clear hP1 hK1 hD1 hk1 hz1 hFc hKc hDc hPc hvm ht hP hS t
  have hP : va_P (dC, dI) classes [ia h7 k6 8 (upd (fun _ => 0) 3 1), ia h8 k7 352000 f7, ia h10 k9 16000 f9, ia h11 k10 32000 f10, ia h15 k14 2635 f14, ia h21 k20 11 (fun _ => 0), oc h0 8 [.int 0, .int p2, .ref h1, .ref h2, .ref h3, .ref h4, .ref h5, .ref h6, .ref h7, .ref h8, .ref h9, .ref h10, .ref h11, .ref h12, .int p3, .ref h13, .ref h14, .ref h15, .ref h16, .int 2, .int 37, .ref h17, .ref h18, .ref h19, .int 1, .ref h20, .int 125, .int 0, .ref h21, .ref h22, .ref h23, .ref h24, .ref h25, .ref h26, .ref h27, .ref h28, .int p9, .int p10, .ref h29, .ref h30, .ref h31, .ref h32, .ref h33, .ref h34, .ref h35, .ref h36, .int p11, .ref h37], ia h14 k13 155 (fun _ => 0), la h17 k16 1200000 (vp_updL (vp_updL (vp_updL (vp_updL (vp_updL f16 0 1161999626690363392) 1 16909320) 2 0) 3 0) 4 0), ia h18 k17 240000 (upd f17 0 (-1)), ia h19 k18 65536 (upd (fun _ => (-1)) 22162 0), la h20 k19 5 (vp_updL (vp_updL (vp_updL (vp_updL (vp_updL (vp_updL (vp_updL (vp_updL (vp_updL (vp_updL (vp_updL (vp_updL (vp_updL (vp_updL (vp_updL (vp_updL (vp_updL (vp_updL (vp_updL (vp_updL (vp_updL (vp_updL (vp_updL (vp_updL (vp_updL (vp_updL (vp_updL (vp_updL (vp_updL (vp_updL (vp_updL (vp_updL (vp_updL f19 0 0) 1 0) 2 0) 3 0) 4 0) 0 0) 0 0) 0 0) 0 0) 0 262144) 0 33816576) 0 4328783872) 0 554084597760) 0 70922828775424) 0 9078122083516416) 0 1161999626690363392) 0 1161999626690363392) 1 8) 1 1032) 1 132104) 1 16909320) 1 16909320) 1 16909320) 1 16909320) 1 16909320) 1 16909320) 1 16909320) 1 16909320) 1 16909320) 1 16909320) 1 16909320) 1 16909320) 1 16909320)] H1 := hPD.1
  replace hD : dd A [h7, h8, h10, h11, h15, h21, h0, h14, h17, h18, h19, h20] := dd_of hPD.2 rfl
  clear hPD
  revert H1 locs1
  intro H locs hS hP
  refine tp_i (y := 0) hw1 ?_
  clear hw1 r_1 u
  refine tp_pc (pc' := 4) (by rfl) ?_
  refine lv_if_eq (tgt := 8) hx hb d_Ref_from_4 (by decide) (fun c_2 => ?_) (fun c_2 => absurd c_2 (by decide))
  refine tp_pc (pc' := 8) (by rfl) ?_
  refine lv_aload_n hx hb d_Ref_from_8 rfl (lv_at hl 0 rfl) ?_
  refine va_get (D := (dC, dI)) (ci := 8) (v := .int 0) (C := R_Ref) (T := F_Ref) (N := 48) hx hb hw i_Ref hown hK hP 6 rfl rfl 27 (by decide) (hw _ m_926) (fun _ h9 => h9) rfl d_Ref_from_9 ?_
  refine lv_if_eq (tgt := 19) hx hb d_Ref_from_12 (by decide) (fun c_3 => ?_) (fun c_3 => absurd c_3 (by decide))
  refine tp_pc (pc' := 19) (by rfl) ?_
  refine lv_iconst (v := 0) hx hb d_Ref_from_19 (by decide) ?_
  refine lv_istore_n (lv' := [(2, .int 0), (0, .ref h0), (1, .int 0)]) hx hb d_Ref_from_20 rfl hl (by decide) rfl ?_
  clear hl ls
  intro ls hl
  refine lv_aload_n hx hb d_Ref_from_21 rfl (lv_at hl 1 rfl) ?_
  refine lv_iload_n hx hb d_Ref_from_22 rfl (lv_at hl 2 rfl) ?_
  obtain ⟨hPc, hDc, hFc⟩ := cut3 (wc := [oc h0 8 [.int 0, .int p2, .ref h1, .ref h2, .ref h3, .ref h4, .ref h5, .ref h6, .ref h7, .ref h8, .ref h9, .ref h10, .ref h11, .ref h12, .int p3, .ref h13, .ref h14, .ref h15, .ref h16, .int 2, .int 37, .ref h17, .ref h18, .ref h19, .int 1, .ref h20, .int 125, .int 0, .ref h21, .ref h22, .ref h23, .ref h24, .ref h25, .ref h26, .ref h27, .ref h28, .int p9, .int p10, .ref h29, .ref h30, .ref h31, .ref h32, .ref h33, .ref h34, .ref h35, .ref h36, .int p11, .ref h37], ia h14 k13 155 (fun _ => 0), ia h15 k14 2635 f14]) hP hD rfl hS hA [6, 7, 4] (by decide +kernel) rfl
  have hKc := hK.sub (tys' := [(k13, .int), (k14, .int)]) [4, 5] rfl
  refine va_callv (va_runV (As := [.int 0]) (rest := []) ⟨hx, hb, hml, hown, hw⟩ (c_Ref_keep l dC dI h0 0 p2 h1 h2 h3 h4 h5 h6 h7 h8 h9 h10 h11 h12 p3 h13 h14 h15 h16 2 h17 h18 h19 1 h20 125 0 h21 h22 h23 h24 h25 h26 h27 h28 p9 p10 h29 h30 h31 h32 h33 h34 h35 h36 p11 h37 k13 (fun _ => 0) k14 f14 H.size) (cw_V 1 hw g_Ref_keep rfl rfl rfl (hw _ m_109) (hw _ m_1114) (hw _ m_1116) (hw _ m_63) (by decide +kernel) ⟨Nat.le_of_ble_eq_true rfl, Nat.le_of_ble_eq_true rfl⟩) ⟨fun a U g mk q => by obtain ⟨q0, q1, qP, qK, qD, qN⟩ := q; exact ⟨q0, q1, qP, va_K.moved (u := U) (U := U.calling g mk a) (Vm.Alike.refl U.vm) qK, qD, nw_call qN⟩, va_recv hKc hPc (ci := 8) (q0 := 0) rfl rfl, fun U hU hW => ⟨rfl, by rw [hU], by rw [hU]; exact hPc, va_K.moved hW.alike hKc, hDc.weaken (fun _ _ _ _ => trivial), nw_warm hW hn⟩⟩ rfl rfl hl.1 rfl (lv_room (Nat.le_of_ble_eq_true rfl)) d_Ref_from_23 ⟨Nat.le_of_ble_eq_true rfl, Nat.le_of_ble_eq_true rfl⟩) hS (fun q _ h => hFc q h) hFc ?_
  intro u t H1 locs1 ht hvm hw1 hB hz1 hk1 hS1
  obtain ⟨g_4, hP1, hK1, hD1⟩ := hB
  rw [ht] at hP1
  replace hK1 := va_K.moved hvm.symm hK1
  have hPD := join3 hP hD rfl [6, 7, 4] [0, 1, 2, 3, 5, 8, 9, 10, 11] rfl (by rfl) (by decide +kernel) (by decide +kernel) hk1 hFc hP1 hD1
  replace hK : va_K (dC, dI) classes [(k6, .int), (k7, .short), (k9, .int), (k10, .int), (k13, .int), (k14, .int), (k16, .long), (k17, .int), (k18, .int), (k19, .long), (k20, .int)] s := hK.app hK1
  clear hP1 hK1 hD1 hk1 hz1 hFc hKc hDc hPc hvm ht hP hS t locs H
  have hP : va_P (dC, dI) classes [ia h7 k6 8 (upd (fun _ => 0) 3 1), ia h8 k7 352000 f7, ia h10 k9 16000 f9, ia h11 k10 32000 f10, ia h21 k20 11 (fun _ => 0), la h17 k16 1200000 (vp_updL (vp_updL (vp_updL (vp_updL (vp_updL f16 0 1161999626690363392) 1 16909320) 2 0) 3 0) 4 0), ia h18 k17 240000 (upd f17 0 (-1)), ia h19 k18 65536 (upd (fun _ => (-1)) 22162 0), la h20 k19 5 (vp_updL (vp_updL (vp_updL (vp_updL (vp_updL (vp_updL (vp_updL (vp_updL (vp_updL (vp_updL (vp_updL (vp_updL (vp_updL (vp_updL (vp_updL (vp_updL (vp_updL (vp_updL (vp_updL (vp_updL (vp_updL (vp_updL (vp_updL (vp_updL (vp_updL (vp_updL (vp_updL (vp_updL (vp_updL (vp_updL (vp_updL (vp_updL (vp_updL f19 0 0) 1 0) 2 0) 3 0) 4 0) 0 0) 0 0) 0 0) 0 0) 0 262144) 0 33816576) 0 4328783872) 0 554084597760) 0 70922828775424) 0 9078122083516416) 0 1161999626690363392) 0 1161999626690363392) 1 8) 1 1032) 1 132104) 1 16909320) 1 16909320) 1 16909320) 1 16909320) 1 16909320) 1 16909320) 1 16909320) 1 16909320) 1 16909320) 1 16909320) 1 16909320) 1 16909320) 1 16909320), oc h0 8 [.int 0, .int p2, .ref h1, .ref h2, .ref h3, .ref h4, .ref h5, .ref h6, .ref h7, .ref h8, .ref h9, .ref h10, .ref h11, .ref h12, .int p3, .ref h13, .ref h14, .ref h15, .ref h16, .int 2, .int 37, .ref h17, .ref h18, .ref h19, .int 1, .ref h20, .int 125, .int 0, .ref h21, .ref h22, .ref h23, .ref h24, .ref h25, .ref h26, .ref h27, .ref h28, .int p9, .int p10, .ref h29, .ref h30, .ref h31, .ref h32, .ref h33, .ref h34, .ref h35, .ref h36, .int p11, .ref h37], ia h14 k13 155 (fun _ => 0), ia h15 k14 2635 g_4] H1 := hPD.1
  replace hD : dd A [h7, h8, h10, h11, h21, h17, h18, h19, h20, h0, h14, h15] := dd_of hPD.2 rfl
  clear hPD
  revert H1 locs1
  intro H locs hS hP
  clear hw1 u
  refine tp_pc (pc' := 26) (by rfl) ?_
  refine lv_iconst (v := 0) hx hb d_Ref_from_26 (by decide) ?_
  refine lv_istore_n (lv' := [(3, .int 0), (2, .int 0), (0, .ref h0), (1, .int 0)]) hx hb d_Ref_from_27 rfl hl (by decide) rfl ?_
  clear hl ls
  intro ls hl
  refine lv_iload_n hx hb d_Ref_from_28 rfl (lv_at hl 0 rfl) ?_
  refine lv_aload_n hx hb d_Ref_from_29 rfl (lv_at hl 2 rfl) ?_
  refine va_get (D := (dC, dI)) (ci := 8) (v := .int 0) (C := R_Ref) (T := F_Ref) (N := 48) hx hb hw i_Ref hown hK hP 9 rfl rfl 0 (by decide) (hw _ m_899) (fun _ h9 => h9) rfl d_Ref_from_30 ?_
  refine lv_icmp_ge (tgt := 95) hx hb d_Ref_from_33 (by decide) (fun c_6 => ?_) (fun c_6 => absurd c_6 (by decide))
  refine tp_pc (pc' := 95) (by rfl) ?_
  refine lv_iload_n hx hb d_Ref_from_95 rfl (lv_at hl 1 rfl) ?_
  refine lv_if_ne (tgt := 111) hx hb d_Ref_from_96 (by decide) (fun c_7 => absurd c_7 (by decide)) (fun c_7 => ?_)
  refine tp_pc (pc' := 99) (by rfl) ?_
  refine lv_aload_n hx hb d_Ref_from_99 rfl (lv_at hl 2 rfl) ?_
  refine va_get (D := (dC, dI)) (ci := 8) (v := .int 0) (C := R_Ref) (T := F_Ref) (N := 48) hx hb hw i_Ref hown hK hP 9 rfl rfl 27 (by decide) (hw _ m_926) (fun _ h9 => h9) rfl d_Ref_from_100 ?_
  refine lv_if_ne (tgt := 111) hx hb d_Ref_from_103 (by decide) (fun c_8 => absurd c_8 (by decide)) (fun c_8 => ?_)
  refine tp_pc (pc' := 106) (by rfl) ?_
  refine lv_aload_n hx hb d_Ref_from_106 rfl (lv_at hl 2 rfl) ?_
  refine lv_iload_n hx hb d_Ref_from_107 rfl (lv_at hl 3 rfl) ?_
  obtain ⟨hPc, hDc, hFc⟩ := cut3 (wc := [oc h0 8 [.int 0, .int p2, .ref h1, .ref h2, .ref h3, .ref h4, .ref h5, .ref h6, .ref h7, .ref h8, .ref h9, .ref h10, .ref h11, .ref h12, .int p3, .ref h13, .ref h14, .ref h15, .ref h16, .int 2, .int 37, .ref h17, .ref h18, .ref h19, .int 1, .ref h20, .int 125, .int 0, .ref h21, .ref h22, .ref h23, .ref h24, .ref h25, .ref h26, .ref h27, .ref h28, .int p9, .int p10, .ref h29, .ref h30, .ref h31, .ref h32, .ref h33, .ref h34, .ref h35, .ref h36, .int p11, .ref h37], ia h7 k6 8 (upd (fun _ => 0) 3 1), ia h8 k7 352000 f7, ia h10 k9 16000 f9, ia h11 k10 32000 f10, ia h14 k13 155 (fun _ => 0), ia h21 k20 11 (fun _ => 0)]) hP hD rfl hS hA [9, 0, 1, 2, 3, 10, 4] (by decide +kernel) rfl
  have hKc := hK.sub (tys' := [(k6, .int), (k7, .short), (k9, .int), (k10, .int), (k13, .int), (k20, .int)]) [0, 1, 2, 3, 4, 10] rfl
  refine va_callv (va_runV (As := [.int 0]) (rest := []) ⟨hx, hb, hml, hown, hw⟩ (c_Ref_ends_v16 l dC dI h0 0 p2 h1 h2 h3 h4 h5 h6 h7 h8 h9 h10 h11 h12 p3 h13 h14 h15 h16 37 h17 h18 h19 1 h20 125 0 h21 h22 h23 h24 h25 h26 h27 h28 p9 p10 h29 h30 h31 h32 h33 h34 h35 h36 p11 h37 k6 k7 f7 k9 f9 k10 f10 k13 k20 H.size) (cw_V 1 hw g_Ref_ends rfl rfl rfl (hw _ m_109) (hw _ m_1158) (hw _ m_1160) (hw _ m_74) (by decide +kernel) ⟨Nat.le_of_ble_eq_true rfl, Nat.le_of_ble_eq_true rfl⟩) ⟨fun a U g mk q => by obtain ⟨q0, q1, qP, qK, qD, qN⟩ := q; exact ⟨q0, q1, qP, va_K.moved (u := U) (U := U.calling g mk a) (Vm.Alike.refl U.vm) qK, qD, nw_call qN⟩, va_recv hKc hPc (ci := 8) (q0 := 0) rfl rfl, fun U hU hW => ⟨rfl, by rw [hU], by rw [hU]; exact hPc, va_K.moved hW.alike hKc, hDc.weaken (fun _ _ _ _ => trivial), nw_warm hW hn⟩⟩ rfl rfl hl.1 rfl (lv_room (Nat.le_of_ble_eq_true rfl)) d_Ref_from_108 ⟨Nat.le_of_ble_eq_true rfl, Nat.le_of_ble_eq_true rfl⟩) hS (fun q _ h => hFc q h) hFc ?_
  intro u t H1 locs1 ht hvm hw1 hB hz1 hk1 hS1
  obtain ⟨hP1, hK1, hD1⟩ := hB
  rw [ht] at hP1
  replace hK1 := va_K.moved hvm.symm hK1
  have hPD := join3 hP hD rfl [9, 0, 1, 2, 3, 10, 4] [5, 6, 7, 8, 11] rfl (by rfl) (by decide +kernel) (by decide +kernel) hk1 hFc hP1 hD1
  replace hK : va_K (dC, dI) classes [(k6, .int), (k7, .short), (k9, .int), (k10, .int), (k13, .int), (k14, .int), (k16, .long), (k17, .int), (k18, .int), (k19, .long), (k20, .int)] s := hK.app hK1
  clear hP1 hK1 hD1 hk1 hz1 hFc hKc hDc hPc hvm ht hP hS t locs H
  have hP : va_P (dC, dI) classes [la h17 k16 1200000 (vp_updL (vp_updL (vp_updL (vp_updL (vp_updL f16 0 1161999626690363392) 1 16909320) 2 0) 3 0) 4 0), ia h18 k17 240000 (upd f17 0 (-1)), ia h19 k18 65536 (upd (fun _ => (-1)) 22162 0), la h20 k19 5 (vp_updL (vp_updL (vp_updL (vp_updL (vp_updL (vp_updL (vp_updL (vp_updL (vp_updL (vp_updL (vp_updL (vp_updL (vp_updL (vp_updL (vp_updL (vp_updL (vp_updL (vp_updL (vp_updL (vp_updL (vp_updL (vp_updL (vp_updL (vp_updL (vp_updL (vp_updL (vp_updL (vp_updL (vp_updL (vp_updL (vp_updL (vp_updL (vp_updL f19 0 0) 1 0) 2 0) 3 0) 4 0) 0 0) 0 0) 0 0) 0 0) 0 262144) 0 33816576) 0 4328783872) 0 554084597760) 0 70922828775424) 0 9078122083516416) 0 1161999626690363392) 0 1161999626690363392) 1 8) 1 1032) 1 132104) 1 16909320) 1 16909320) 1 16909320) 1 16909320) 1 16909320) 1 16909320) 1 16909320) 1 16909320) 1 16909320) 1 16909320) 1 16909320) 1 16909320) 1 16909320), ia h15 k14 2635 g_4, oc h0 8 [.int 0, .int p2, .ref h1, .ref h2, .ref h3, .ref h4, .ref h5, .ref h6, .ref h7, .ref h8, .ref h9, .ref h10, .ref h11, .ref h12, .int p3, .ref h13, .ref h14, .ref h15, .ref h16, .int 2, .int 37, .ref h17, .ref h18, .ref h19, .int 1, .ref h20, .int 125, .int 0, .ref h21, .ref h22, .ref h23, .ref h24, .ref h25, .ref h26, .ref h27, .ref h28, .int p9, .int p10, .ref h29, .ref h30, .ref h31, .ref h32, .ref h33, .ref h34, .ref h35, .ref h36, .int p11, .ref h37], ia h7 k6 8 (upd (upd (fun _ => 0) 3 1) 2 1), ia h8 k7 352000 (upd (upd (upd (upd (upd (upd (upd (upd (upd (upd (upd f7 88000 0) 88001 0) 88002 0) 88003 0) 88004 0) 88005 0) 88006 0) 88007 0) 88008 0) 88009 0) 88010 0), ia h10 k9 16000 (upd f9 8000 0), ia h11 k10 32000 (upd f10 8000 0), ia h14 k13 155 (fun _ => 0), ia h21 k20 11 (fun _ => 0)] H1 := hPD.1
  replace hD : dd A [h17, h18, h19, h20, h15, h0, h7, h8, h10, h11, h14, h21] := dd_of hPD.2 rfl
  clear hPD
  revert H1 locs1
  intro H locs hS hP
  clear hw1 u
  refine tp_pc (pc' := 111) (by rfl) ?_
  obtain ⟨hP9, hD9, -⟩ := cut3 (wc := [oc h0 8 [.int 0, .int p2, .ref h1, .ref h2, .ref h3, .ref h4, .ref h5, .ref h6, .ref h7, .ref h8, .ref h9, .ref h10, .ref h11, .ref h12, .int p3, .ref h13, .ref h14, .ref h15, .ref h16, .int 2, .int 37, .ref h17, .ref h18, .ref h19, .int 1, .ref h20, .int 125, .int 0, .ref h21, .ref h22, .ref h23, .ref h24, .ref h25, .ref h26, .ref h27, .ref h28, .int p9, .int p10, .ref h29, .ref h30, .ref h31, .ref h32, .ref h33, .ref h34, .ref h35, .ref h36, .int p11, .ref h37], ia h7 k6 8 (upd (upd (fun _ => 0) 3 1) 2 1), ia h8 k7 352000 (upd (upd (upd (upd (upd (upd (upd (upd (upd (upd (upd f7 88000 0) 88001 0) 88002 0) 88003 0) 88004 0) 88005 0) 88006 0) 88007 0) 88008 0) 88009 0) 88010 0), ia h10 k9 16000 (upd f9 8000 0), ia h11 k10 32000 (upd f10 8000 0), ia h14 k13 155 (fun _ => 0), ia h15 k14 2635 g_4, la h17 k16 1200000 (vp_updL (vp_updL (vp_updL (vp_updL (vp_updL f16 0 1161999626690363392) 1 16909320) 2 0) 3 0) 4 0), ia h18 k17 240000 (upd f17 0 (-1)), ia h19 k18 65536 (upd (fun _ => (-1)) 22162 0), la h20 k19 5 (vp_updL (vp_updL (vp_updL (vp_updL (vp_updL (vp_updL (vp_updL (vp_updL (vp_updL (vp_updL (vp_updL (vp_updL (vp_updL (vp_updL (vp_updL (vp_updL (vp_updL (vp_updL (vp_updL (vp_updL (vp_updL (vp_updL (vp_updL (vp_updL (vp_updL (vp_updL (vp_updL (vp_updL (vp_updL (vp_updL (vp_updL (vp_updL (vp_updL f19 0 0) 1 0) 2 0) 3 0) 4 0) 0 0) 0 0) 0 0) 0 0) 0 262144) 0 33816576) 0 4328783872) 0 554084597760) 0 70922828775424) 0 9078122083516416) 0 1161999626690363392) 0 1161999626690363392) 1 8) 1 1032) 1 132104) 1 16909320) 1 16909320) 1 16909320) 1 16909320) 1 16909320) 1 16909320) 1 16909320) 1 16909320) 1 16909320) 1 16909320) 1 16909320) 1 16909320) 1 16909320), ia h21 k20 11 (fun _ => 0)]) hP hD rfl hS hA [5, 6, 7, 8, 9, 10, 4, 0, 1, 2, 3, 11] (by decide +kernel) rfl
  have hK9 := hK.sub (tys' := []) [] rfl
  refine W.widen (k := 0) (n := 0) (by exact Nat.le_of_ble_eq_true rfl) (by exact Nat.le_of_ble_eq_true rfl) ?_
  exact W.vret hx hb hr (fun t ht hW => ⟨⟨(), rfl, trivial, g_4, by rw [ht]; exact hP9, va_K.moved hW.alike hK9, hD9⟩, hS.F ht⟩) hS.2.2 d_Ref_from_111
set_option maxHeartbeats 4000000 in
set_option maxRecDepth 100000 in
theorem c_Ref_search_v17 (l : Launch) (dC : Nat → ClassId) (dI : Nat → Nat → Nat) (h0 : Nat) (p3 : Int32) (h1 : Nat) (h2 : Nat) (h3 : Nat) (h4 : Nat) (h5 : Nat) (h6 : Nat) (h7 : Nat) (h8 : Nat) (h9 : Nat) (h10 : Nat) (h11 : Nat) (h12 : Nat) (p4 : Int32) (h13 : Nat) (h14 : Nat) (h15 : Nat) (h16 : Nat) (p5 : Int32) (p6 : Int32) (h17 : Nat) (h18 : Nat) (h19 : Nat) (p7 : Int32) (h20 : Nat) (p8 : Int32) (p9 : Int32) (h21 : Nat) (h22 : Nat) (h23 : Nat) (h24 : Nat) (h25 : Nat) (h26 : Nat) (h27 : Nat) (h28 : Nat) (p10 : Int32) (p11 : Int32) (h29 : Nat) (h30 : Nat) (h31 : Nat) (h32 : Nat) (h33 : Nat) (h34 : Nat) (h35 : Nat) (h36 : Nat) (p12 : Int32) (h37 : Nat) (k6 : ClassId) (k7 : ClassId) (f7 : Nat → Int32) (k9 : ClassId) (f9 : Nat → Int32) (k10 : ClassId) (f10 : Nat → Int32) (k13 : ClassId) (f13 : Nat → Int32) (k14 : ClassId) (f14 : Nat → Int32) (k16 : ClassId) (f16 : Nat → Int64) (k17 : ClassId) (f17 : Nat → Int32) (k18 : ClassId) (f18 : Nat → Int32) (k19 : ClassId) (f19 : Nat → Int64) (k20 : ClassId) (sz : Nat) : Met l y_Ref_search w_Ref_search ({ frames := 4, cells := 0, slots := 0, locals := 101 }) (va_Pc [.ref h0, .int 2, .int 0] (fun U => U.heap.size = sz ∧ va_P (dC, dI) classes [oc h0 8 [.int 0, .int p3, .ref h1, .ref h2, .ref h3, .ref h4, .ref h5, .ref h6, .ref h7, .ref h8, .ref h9, .ref h10, .ref h11, .ref h12, .int p4, .ref h13, .ref h14, .ref h15, .ref h16, .int p5, .int p6, .ref h17, .ref h18, .ref h19, .int p7, .ref h20, .int p8, .int p9, .ref h21, .ref h22, .ref h23, .ref h24, .ref h25, .ref h26, .ref h27, .ref h28, .int p10, .int p11, .ref h29, .ref h30, .ref h31, .ref h32, .ref h33, .ref h34, .ref h35, .ref h36, .int p12, .ref h37], ia h7 k6 8 (upd (fun _ => 0) 3 1), ia h8 k7 352000 f7, ia h10 k9 16000 f9, ia h11 k10 32000 f10, ia h14 k13 155 f13, ia h15 k14 2635 f14, la h17 k16 1200000 f16, ia h18 k17 240000 f17, ia h19 k18 65536 f18, la h20 k19 5 f19, ia h21 k20 11 (fun _ => 0)] U.heap ∧ va_K (dC, dI) classes [(k6, .int), (k7, .short), (k9, .int), (k10, .int), (k13, .int), (k14, .int), (k16, .long), (k17, .int), (k18, .int), (k19, .long), (k20, .int)] U ∧ va_D (fun _ => True) [oc h0 8 [.int 0, .int p3, .ref h1, .ref h2, .ref h3, .ref h4, .ref h5, .ref h6, .ref h7, .ref h8, .ref h9, .ref h10, .ref h11, .ref h12, .int p4, .ref h13, .ref h14, .ref h15, .ref h16, .int p5, .int p6, .ref h17, .ref h18, .ref h19, .int p7, .ref h20, .int p8, .int p9, .ref h21, .ref h22, .ref h23, .ref h24, .ref h25, .ref h26, .ref h27, .ref h28, .int p10, .int p11, .ref h29, .ref h30, .ref h31, .ref h32, .ref h33, .ref h34, .ref h35, .ref h36, .int p12, .ref h37], ia h7 k6 8 (upd (fun _ => 0) 3 1), ia h8 k7 352000 f7, ia h10 k9 16000 f9, ia h11 k10 32000 f10, ia h14 k13 155 f13, ia h15 k14 2635 f14, la h17 k16 1200000 f16, ia h18 k17 240000 f17, ia h19 k18 65536 f18, la h20 k19 5 f19, ia h21 k20 11 (fun _ => 0)] ∧ nw U)) (va_Qv (fun _ : Unit => True) (fun _ t => ∃ (g_5 : Nat → Int32), va_P (dC, dI) classes [oc h0 8 [.int 0, .int p3, .ref h1, .ref h2, .ref h3, .ref h4, .ref h5, .ref h6, .ref h7, .ref h8, .ref h9, .ref h10, .ref h11, .ref h12, .int p4, .ref h13, .ref h14, .ref h15, .ref h16, .int 2, .int 37, .ref h17, .ref h18, .ref h19, .int 1, .ref h20, .int 125, .int 0, .ref h21, .ref h22, .ref h23, .ref h24, .ref h25, .ref h26, .ref h27, .ref h28, .int p10, .int p11, .ref h29, .ref h30, .ref h31, .ref h32, .ref h33, .ref h34, .ref h35, .ref h36, .int p12, .ref h37], ia h7 k6 8 (upd (upd (fun _ => 0) 3 1) 2 1), ia h8 k7 352000 (upd (upd (upd (upd (upd (upd (upd (upd (upd (upd (upd f7 88000 0) 88001 0) 88002 0) 88003 0) 88004 0) 88005 0) 88006 0) 88007 0) 88008 0) 88009 0) 88010 0), ia h10 k9 16000 (upd f9 8000 0), ia h11 k10 32000 (upd f10 8000 0), ia h14 k13 155 (fun _ => 0), ia h15 k14 2635 g_5, la h17 k16 1200000 (vp_updL (vp_updL (vp_updL (vp_updL (vp_updL f16 0 1161999626690363392) 1 16909320) 2 0) 3 0) 4 0), ia h18 k17 240000 (upd f17 0 (-1)), ia h19 k18 65536 (upd (fun _ => (-1)) 22162 0), la h20 k19 5 (vp_updL (vp_updL (vp_updL (vp_updL (vp_updL (vp_updL (vp_updL (vp_updL (vp_updL (vp_updL (vp_updL (vp_updL (vp_updL (vp_updL (vp_updL (vp_updL (vp_updL (vp_updL (vp_updL (vp_updL (vp_updL (vp_updL (vp_updL (vp_updL (vp_updL (vp_updL (vp_updL (vp_updL (vp_updL (vp_updL (vp_updL (vp_updL (vp_updL f19 0 0) 1 0) 2 0) 3 0) 4 0) 0 0) 0 0) 0 0) 0 0) 0 262144) 0 33816576) 0 4328783872) 0 554084597760) 0 70922828775424) 0 9078122083516416) 0 1161999626690363392) 0 1161999626690363392) 1 8) 1 1032) 1 132104) 1 16909320) 1 16909320) 1 16909320) 1 16909320) 1 16909320) 1 16909320) 1 16909320) 1 16909320) 1 16909320) 1 16909320) 1 16909320) 1 16909320) 1 16909320), ia h21 k20 11 (fun _ => 0)] t.heap ∧ va_K (dC, dI) classes [] t ∧ va_D (va_A [oc h0 8 [.int 0, .int p3, .ref h1, .ref h2, .ref h3, .ref h4, .ref h5, .ref h6, .ref h7, .ref h8, .ref h9, .ref h10, .ref h11, .ref h12, .int p4, .ref h13, .ref h14, .ref h15, .ref h16, .int p5, .int p6, .ref h17, .ref h18, .ref h19, .int p7, .ref h20, .int p8, .int p9, .ref h21, .ref h22, .ref h23, .ref h24, .ref h25, .ref h26, .ref h27, .ref h28, .int p10, .int p11, .ref h29, .ref h30, .ref h31, .ref h32, .ref h33, .ref h34, .ref h35, .ref h36, .int p12, .ref h37], ia h7 k6 8 (upd (fun _ => 0) 3 1), ia h8 k7 352000 f7, ia h10 k9 16000 f9, ia h11 k10 32000 f10, ia h14 k13 155 f13, ia h15 k14 2635 f14, la h17 k16 1200000 f16, ia h18 k17 240000 f17, ia h19 k18 65536 f18, la h20 k19 5 f19, ia h21 k20 11 (fun _ => 0)] sz) [oc h0 8 [.int 0, .int p3, .ref h1, .ref h2, .ref h3, .ref h4, .ref h5, .ref h6, .ref h7, .ref h8, .ref h9, .ref h10, .ref h11, .ref h12, .int p4, .ref h13, .ref h14, .ref h15, .ref h16, .int 2, .int 37, .ref h17, .ref h18, .ref h19, .int 1, .ref h20, .int 125, .int 0, .ref h21, .ref h22, .ref h23, .ref h24, .ref h25, .ref h26, .ref h27, .ref h28, .int p10, .int p11, .ref h29, .ref h30, .ref h31, .ref h32, .ref h33, .ref h34, .ref h35, .ref h36, .int p12, .ref h37], ia h7 k6 8 (upd (upd (fun _ => 0) 3 1) 2 1), ia h8 k7 352000 (upd (upd (upd (upd (upd (upd (upd (upd (upd (upd (upd f7 88000 0) 88001 0) 88002 0) 88003 0) 88004 0) 88005 0) 88006 0) 88007 0) 88008 0) 88009 0) 88010 0), ia h10 k9 16000 (upd f9 8000 0), ia h11 k10 32000 (upd f10 8000 0), ia h14 k13 155 (fun _ => 0), ia h15 k14 2635 g_5, la h17 k16 1200000 (vp_updL (vp_updL (vp_updL (vp_updL (vp_updL f16 0 1161999626690363392) 1 16909320) 2 0) 3 0) 4 0), ia h18 k17 240000 (upd f17 0 (-1)), ia h19 k18 65536 (upd (fun _ => (-1)) 22162 0), la h20 k19 5 (vp_updL (vp_updL (vp_updL (vp_updL (vp_updL (vp_updL (vp_updL (vp_updL (vp_updL (vp_updL (vp_updL (vp_updL (vp_updL (vp_updL (vp_updL (vp_updL (vp_updL (vp_updL (vp_updL (vp_updL (vp_updL (vp_updL (vp_updL (vp_updL (vp_updL (vp_updL (vp_updL (vp_updL (vp_updL (vp_updL (vp_updL (vp_updL (vp_updL f19 0 0) 1 0) 2 0) 3 0) 4 0) 0 0) 0 0) 0 0) 0 0) 0 262144) 0 33816576) 0 4328783872) 0 554084597760) 0 70922828775424) 0 9078122083516416) 0 1161999626690363392) 0 1161999626690363392) 1 8) 1 1032) 1 132104) 1 16909320) 1 16909320) 1 16909320) 1 16909320) 1 16909320) 1 16909320) 1 16909320) 1 16909320) 1 16909320) 1 16909320) 1 16909320) 1 16909320) 1 16909320), ia h21 k20 11 (fun _ => 0)]) (va_A [oc h0 8 [.int 0, .int p3, .ref h1, .ref h2, .ref h3, .ref h4, .ref h5, .ref h6, .ref h7, .ref h8, .ref h9, .ref h10, .ref h11, .ref h12, .int p4, .ref h13, .ref h14, .ref h15, .ref h16, .int p5, .int p6, .ref h17, .ref h18, .ref h19, .int p7, .ref h20, .int p8, .int p9, .ref h21, .ref h22, .ref h23, .ref h24, .ref h25, .ref h26, .ref h27, .ref h28, .int p10, .int p11, .ref h29, .ref h30, .ref h31, .ref h32, .ref h33, .ref h34, .ref h35, .ref h36, .int p12, .ref h37], ia h7 k6 8 (upd (fun _ => 0) 3 1), ia h8 k7 352000 f7, ia h10 k9 16000 f9, ia h11 k10 32000 f10, ia h14 k13 155 f13, ia h15 k14 2635 f14, la h17 k16 1200000 f16, ia h18 k17 240000 f17, ia h19 k18 65536 f18, la h20 k19 5 f19, ia h21 k20 11 (fun _ => 0)] sz)) 0 0 (va_A [oc h0 8 [.int 0, .int p3, .ref h1, .ref h2, .ref h3, .ref h4, .ref h5, .ref h6, .ref h7, .ref h8, .ref h9, .ref h10, .ref h11, .ref h12, .int p4, .ref h13, .ref h14, .ref h15, .ref h16, .int p5, .int p6, .ref h17, .ref h18, .ref h19, .int p7, .ref h20, .int p8, .int p9, .ref h21, .ref h22, .ref h23, .ref h24, .ref h25, .ref h26, .ref h27, .ref h28, .int p10, .int p11, .ref h29, .ref h30, .ref h31, .ref h32, .ref h33, .ref h34, .ref h35, .ref h36, .int p12, .ref h37], ia h7 k6 8 (upd (fun _ => 0) 3 1), ia h8 k7 352000 f7, ia h10 k9 16000 f9, ia h11 k10 32000 f10, ia h14 k13 155 f13, ia h15 k14 2635 f14, la h17 k16 1200000 f16, ia h18 k17 240000 f17, ia h19 k18 65536 f18, la h20 k19 5 f19, ia h21 k20 11 (fun _ => 0)] sz) := by
  refine Met.ofW (cc := b_Ref_search) (maxL := 4) (ret := none) (by decide) rfl ?_
  intro p e s m args below meth c s₁ B hml hv
  obtain ⟨rfl, hsz, hP, hK, hD0, hn⟩ := hv
  have hx := B.exec
  have hb := B.bytes
  have hr := B.returns
  have hw := fun w (h : w ∈ wt) => atoms_spec (ws := w_Ref_search) B.pre w (List.mem_cons_of_mem _ h)
  have hown : s.vm.findClass R_Ref = some m.cls := findClass_of_methodNamed B.named
  have hlocks := B.notSynchronized
  subst hsz
  have hD1 := hD0.self (sz := s.heap.size)
  generalize hAe : va_A [oc h0 8 [.int 0, .int p3, .ref h1, .ref h2, .ref h3, .ref h4, .ref h5, .ref h6, .ref h7, .ref h8, .ref h9, .ref h10, .ref h11, .ref h12, .int p4, .ref h13, .ref h14, .ref h15, .ref h16, .int p5, .int p6, .ref h17, .ref h18, .ref h19, .int p7, .ref h20, .int p8, .int p9, .ref h21, .ref h22, .ref h23, .ref h24, .ref h25, .ref h26, .ref h27, .ref h28, .int p10, .int p11, .ref h29, .ref h30, .ref h31, .ref h32, .ref h33, .ref h34, .ref h35, .ref h36, .int p12, .ref h37], ia h7 k6 8 (upd (fun _ => 0) 3 1), ia h8 k7 352000 f7, ia h10 k9 16000 f9, ia h11 k10 32000 f10, ia h14 k13 155 f13, ia h15 k14 2635 f14, la h17 k16 1200000 f16, ia h18 k17 240000 f17, ia h19 k18 65536 f18, la h20 k19 5 f19, ia h21 k20 11 (fun _ => 0)] s.heap.size = A at hD1 ⊢
  have hA : ∀ q : Nat, s.heap.size ≤ q → A q := fun q h => by rw [← hAe]; exact Or.inr h
  have hD : dd A [h0, h7, h8, h10, h11, h14, h15, h17, h18, h19, h20, h21] := dd_of hD1 rfl
  clear hAe hD0 hD1
  have hS : va_S A s.heap s.heap [] := va_S.rf
  replace hP : va_P (dC, dI) classes [oc h0 8 [.int 0, .int p3, .ref h1, .ref h2, .ref h3, .ref h4, .ref h5, .ref h6, .ref h7, .ref h8, .ref h9, .ref h10, .ref h11, .ref h12, .int p4, .ref h13, .ref h14, .ref h15, .ref h16, .int p5, .int p6, .ref h17, .ref h18, .ref h19, .int p7, .ref h20, .int p8, .int p9, .ref h21, .ref h22, .ref h23, .ref h24, .ref h25, .ref h26, .ref h27, .ref h28, .int p10, .int p11, .ref h29, .ref h30, .ref h31, .ref h32, .ref h33, .ref h34, .ref h35, .ref h36, .int p12, .ref h37], ia h7 k6 8 (upd (fun _ => 0) 3 1), ia h8 k7 352000 f7, ia h10 k9 16000 f9, ia h11 k10 32000 f10, ia h14 k13 155 f13, ia h15 k14 2635 f14, la h17 k16 1200000 f16, ia h18 k17 240000 f17, ia h19 k18 65536 f18, la h20 k19 5 f19, ia h21 k20 11 (fun _ => 0)] s.heap := hP
  have hl := lv_entry ([.ref h0, .int 2, .int 0]) (n := 4) (Nat.le_of_ble_eq_true rfl)
  rw [lg_entry_eq]
  generalize (lg_sl ([.ref h0, .int 2, .int 0]) ++ List.replicate (4 - (lg_sl ([.ref h0, .int 2, .int 0])).length) Slot.unset).toArray = ls at hl ⊢
  replace hl : lv_has ls 4 [(0, .ref h0), (1, .int 2), (2, .int 0)] := hl
  refine lv_aload_n hx hb d_Ref_search_0 rfl (lv_at hl 0 rfl) ?_
  refine lv_iload_n hx hb d_Ref_search_1 rfl (lv_at hl 1 rfl) ?_
  refine va_put (D := (dC, dI)) (ci := 8) (v := .int 2) (ty := .int) (C := R_Ref) (T := F_Ref) (N := 48) hx hb hw i_Ref t_Ref t_Ref_ok n_Ref hown hK hP (dd_D hD rfl) hS 0 rfl rfl 19 (by decide) (hw _ m_918) (fun _ h9 => h9) rfl (by decide +kernel) rfl rfl (Nat.le_of_ble_eq_true rfl) d_Ref_search_2 ?_
  clear hP hS
  intro H locs (hP : va_P (dC, dI) classes [oc h0 8 [.int 0, .int p3, .ref h1, .ref h2, .ref h3, .ref h4, .ref h5, .ref h6, .ref h7, .ref h8, .ref h9, .ref h10, .ref h11, .ref h12, .int p4, .ref h13, .ref h14, .ref h15, .ref h16, .int 2, .int p6, .ref h17, .ref h18, .ref h19, .int p7, .ref h20, .int p8, .int p9, .ref h21, .ref h22, .ref h23, .ref h24, .ref h25, .ref h26, .ref h27, .ref h28, .int p10, .int p11, .ref h29, .ref h30, .ref h31, .ref h32, .ref h33, .ref h34, .ref h35, .ref h36, .int p12, .ref h37], ia h7 k6 8 (upd (fun _ => 0) 3 1), ia h8 k7 352000 f7, ia h10 k9 16000 f9, ia h11 k10 32000 f10, ia h14 k13 155 f13, ia h15 k14 2635 f14, la h17 k16 1200000 f16, ia h18 k17 240000 f17, ia h19 k18 65536 f18, la h20 k19 5 f19, ia h21 k20 11 (fun _ => 0)] H) _ hS
  refine tp_pc (pc' := 5) (by rfl) ?_
  refine lv_aload_n hx hb d_Ref_search_5 rfl (lv_at hl 0 rfl) ?_
  refine lv_iload_n hx hb d_Ref_search_6 rfl (lv_at hl 1 rfl) ?_
  refine lv_iconst (v := 3) hx hb d_Ref_search_7 (by decide) ?_
  refine lv_icmp_ne (tgt := 17) hx hb d_Ref_search_8 (by decide) (fun c_1 => ?_) (fun c_1 => absurd c_1 (by decide))
  refine tp_pc (pc' := 17) (by rfl) ?_
  refine lv_bipush (v := 37) hx hb d_Ref_search_17 (by decide) ?_
  refine va_put (D := (dC, dI)) (ci := 8) (v := .int 37) (ty := .int) (C := R_Ref) (T := F_Ref) (N := 48) hx hb hw i_Ref t_Ref t_Ref_ok n_Ref hown hK hP (dd_D hD rfl) hS 0 rfl rfl 20 (by decide) (hw _ m_919) (fun _ h9 => h9) rfl (by decide +kernel) rfl rfl (Nat.le_of_ble_eq_true rfl) d_Ref_search_19 ?_
  clear hP hS locs H
  intro H locs (hP : va_P (dC, dI) classes [oc h0 8 [.int 0, .int p3, .ref h1, .ref h2, .ref h3, .ref h4, .ref h5, .ref h6, .ref h7, .ref h8, .ref h9, .ref h10, .ref h11, .ref h12, .int p4, .ref h13, .ref h14, .ref h15, .ref h16, .int 2, .int 37, .ref h17, .ref h18, .ref h19, .int p7, .ref h20, .int p8, .int p9, .ref h21, .ref h22, .ref h23, .ref h24, .ref h25, .ref h26, .ref h27, .ref h28, .int p10, .int p11, .ref h29, .ref h30, .ref h31, .ref h32, .ref h33, .ref h34, .ref h35, .ref h36, .int p12, .ref h37], ia h7 k6 8 (upd (fun _ => 0) 3 1), ia h8 k7 352000 f7, ia h10 k9 16000 f9, ia h11 k10 32000 f10, ia h14 k13 155 f13, ia h15 k14 2635 f14, la h17 k16 1200000 f16, ia h18 k17 240000 f17, ia h19 k18 65536 f18, la h20 k19 5 f19, ia h21 k20 11 (fun _ => 0)] H) _ hS
  refine tp_pc (pc' := 22) (by rfl) ?_
  refine lv_aload_n hx hb d_Ref_search_22 rfl (lv_at hl 0 rfl) ?_
  refine lv_iload_n hx hb d_Ref_search_23 rfl (lv_at hl 2 rfl) ?_
  refine va_put (D := (dC, dI)) (ci := 8) (v := .int 0) (ty := .boolean) (C := R_Ref) (T := F_Ref) (N := 48) hx hb hw i_Ref t_Ref t_Ref_ok n_Ref hown hK hP (dd_D hD rfl) hS 0 rfl rfl 27 (by decide) (hw _ m_926) (fun _ h9 => h9) rfl (by decide +kernel) (by decide) rfl (Nat.le_of_ble_eq_true rfl) d_Ref_search_24 ?_
  clear hP hS locs H
  intro H locs (hP : va_P (dC, dI) classes [oc h0 8 [.int 0, .int p3, .ref h1, .ref h2, .ref h3, .ref h4, .ref h5, .ref h6, .ref h7, .ref h8, .ref h9, .ref h10, .ref h11, .ref h12, .int p4, .ref h13, .ref h14, .ref h15, .ref h16, .int 2, .int 37, .ref h17, .ref h18, .ref h19, .int p7, .ref h20, .int p8, .int 0, .ref h21, .ref h22, .ref h23, .ref h24, .ref h25, .ref h26, .ref h27, .ref h28, .int p10, .int p11, .ref h29, .ref h30, .ref h31, .ref h32, .ref h33, .ref h34, .ref h35, .ref h36, .int p12, .ref h37], ia h7 k6 8 (upd (fun _ => 0) 3 1), ia h8 k7 352000 f7, ia h10 k9 16000 f9, ia h11 k10 32000 f10, ia h14 k13 155 f13, ia h15 k14 2635 f14, la h17 k16 1200000 f16, ia h18 k17 240000 f17, ia h19 k18 65536 f18, la h20 k19 5 f19, ia h21 k20 11 (fun _ => 0)] H) _ hS
  refine tp_pc (pc' := 27) (by rfl) ?_
  refine lv_aload_n hx hb d_Ref_search_27 rfl (lv_at hl 0 rfl) ?_
  refine lv_iconst (v := 0) hx hb d_Ref_search_28 (by decide) ?_
  refine va_put (D := (dC, dI)) (ci := 8) (v := .int 0) (ty := .int) (C := R_Ref) (T := F_Ref) (N := 48) hx hb hw i_Ref t_Ref t_Ref_ok n_Ref hown hK hP (dd_D hD rfl) hS 0 rfl rfl 24 (by decide) (hw _ m_923) (fun _ h9 => h9) rfl (by decide +kernel) rfl rfl (Nat.le_of_ble_eq_true rfl) d_Ref_search_29 ?_
  clear hP hS locs H
  intro H locs (hP : va_P (dC, dI) classes [oc h0 8 [.int 0, .int p3, .ref h1, .ref h2, .ref h3, .ref h4, .ref h5, .ref h6, .ref h7, .ref h8, .ref h9, .ref h10, .ref h11, .ref h12, .int p4, .ref h13, .ref h14, .ref h15, .ref h16, .int 2, .int 37, .ref h17, .ref h18, .ref h19, .int 0, .ref h20, .int p8, .int 0, .ref h21, .ref h22, .ref h23, .ref h24, .ref h25, .ref h26, .ref h27, .ref h28, .int p10, .int p11, .ref h29, .ref h30, .ref h31, .ref h32, .ref h33, .ref h34, .ref h35, .ref h36, .int p12, .ref h37], ia h7 k6 8 (upd (fun _ => 0) 3 1), ia h8 k7 352000 f7, ia h10 k9 16000 f9, ia h11 k10 32000 f10, ia h14 k13 155 f13, ia h15 k14 2635 f14, la h17 k16 1200000 f16, ia h18 k17 240000 f17, ia h19 k18 65536 f18, la h20 k19 5 f19, ia h21 k20 11 (fun _ => 0)] H) _ hS
  refine tp_pc (pc' := 32) (by rfl) ?_
  refine lv_iconst (v := 0) hx hb d_Ref_search_32 (by decide) ?_
  refine lv_istore_n (lv' := [(3, .int 0), (0, .ref h0), (1, .int 2), (2, .int 0)]) hx hb d_Ref_search_33 rfl hl (by decide) rfl ?_
  clear hl ls
  intro ls hl
  refine lp_n 65536 (fun i H locs ls => ∃ g : Nat → Int32, (∀ j, j < i → g j = (-1)) ∧ va_P (dC, dI) classes [oc h0 8 [.int 0, .int p3, .ref h1, .ref h2, .ref h3, .ref h4, .ref h5, .ref h6, .ref h7, .ref h8, .ref h9, .ref h10, .ref h11, .ref h12, .int p4, .ref h13, .ref h14, .ref h15, .ref h16, .int 2, .int 37, .ref h17, .ref h18, .ref h19, .int 0, .ref h20, .int p8, .int 0, .ref h21, .ref h22, .ref h23, .ref h24, .ref h25, .ref h26, .ref h27, .ref h28, .int p10, .int p11, .ref h29, .ref h30, .ref h31, .ref h32, .ref h33, .ref h34, .ref h35, .ref h36, .int p12, .ref h37], ia h7 k6 8 (upd (fun _ => 0) 3 1), ia h8 k7 352000 f7, ia h10 k9 16000 f9, ia h11 k10 32000 f10, ia h14 k13 155 f13, ia h15 k14 2635 f14, la h17 k16 1200000 f16, ia h18 k17 240000 f17, ia h19 k18 65536 g, la h20 k19 5 f19, ia h21 k20 11 (fun _ => 0)] H ∧ va_S A s.heap H locs ∧ lv_has ls 4 [(3, .int (nI i)), (0, .ref h0), (1, .int 2), (2, .int 0)]) ⟨f18, fun j hj => absurd hj (Nat.not_lt_zero j), hP, hS, hl⟩ ?_ ?_
  · intro i H locs ls hi hI ih
    obtain ⟨g, hg, hP, hS, hl⟩ := hI
    refine lv_iload_n hx hb d_Ref_search_34 rfl (lv_at hl 0 rfl) ?_
    refine lv_ldc hx hb hown (hw _ m_898) d_Ref_search_35 ?_
    refine lv_icmp_ge (tgt := 53) hx hb d_Ref_search_37 (by decide) (fun c9 => absurd c9 (nI_ge hi (by decide))) (fun _ => ?_)
    refine lv_aload_n hx hb d_Ref_search_40 rfl (lv_at hl 1 rfl) ?_
    refine va_get (D := (dC, dI)) (ci := 8) (v := .ref h19) (C := R_Ref) (T := F_Ref) (N := 48) hx hb hw i_Ref hown hK hP 0 rfl rfl 23 (by decide) (hw _ m_922) (fun _ h9 => h9) rfl d_Ref_search_41 ?_
    refine lv_iload_n hx hb d_Ref_search_44 rfl (lv_at hl 0 rfl) ?_
    refine lv_iconst (v := (-1)) hx hb d_Ref_search_45 (by decide) ?_
    refine va_iast (D := (dC, dI)) hx hb hK hP (dd_D hD rfl) hS 9 8 rfl rfl (i := nI i) (x := (-1)) (vp_in_nI hi (by decide)) d_Ref_search_46 ?_
    intro H locs hP _ hS
    rw [nI_clamp (Nat.lt_trans hi (by decide))] at hP
    refine lv_iinc (v := nI (i + 1)) (lv' := [(3, .int (nI (i + 1))), (0, .ref h0), (1, .int 2), (2, .int 0)]) hx hb d_Ref_search_47 hl (k := 0) rfl (nI_1 i) (by decide) rfl ?_
    intro ls hl
    refine lv_goto (tgt := 34) hx hb d_Ref_search_50 (by decide) ?_
    exact ih _ _ _ ⟨upd g i (-1), fun j hj => by by_cases e9 : j = i; (subst e9; simp [upd]); (simp [upd, e9]; exact hg j (by omega)), hP, hS, lv_sub hl [0, 1, 2, 3] rfl⟩
  · intro H locs ls hI
    obtain ⟨g, hg, hP, hS, hl⟩ := hI
    replace hP : va_P (dC, dI) classes [oc h0 8 [.int 0, .int p3, .ref h1, .ref h2, .ref h3, .ref h4, .ref h5, .ref h6, .ref h7, .ref h8, .ref h9, .ref h10, .ref h11, .ref h12, .int p4, .ref h13, .ref h14, .ref h15, .ref h16, .int 2, .int 37, .ref h17, .ref h18, .ref h19, .int 0, .ref h20, .int p8, .int 0, .ref h21, .ref h22, .ref h23, .ref h24, .ref h25, .ref h26, .ref h27, .ref h28, .int p10, .int p11, .ref h29, .ref h30, .ref h31, .ref h32, .ref h33, .ref h34, .ref h35, .ref h36, .int p12, .ref h37], ia h7 k6 8 (upd (fun _ => 0) 3 1), ia h8 k7 352000 f7, ia h10 k9 16000 f9, ia h11 k10 32000 f10, ia h14 k13 155 f13, ia h15 k14 2635 f14, la h17 k16 1200000 f16, ia h18 k17 240000 f17, ia h19 k18 65536 (fun _ => (-1)), la h20 k19 5 f19, ia h21 k20 11 (fun _ => 0)] H := P_cg 9 rfl hg hP
    replace hl : lv_has ls 4 [(3, .int 65536), (0, .ref h0), (1, .int 2), (2, .int 0)] := hl
    refine lv_iload_n hx hb d_Ref_search_34 rfl (lv_at hl 0 rfl) ?_
    refine lv_ldc hx hb hown (hw _ m_898) d_Ref_search_35 ?_
    refine lv_icmp_ge (tgt := 53) hx hb d_Ref_search_37 (by decide) (fun c_2 => ?_) (fun c_2 => absurd c_2 (by decide))
    refine tp_pc (pc' := 53) (by rfl) ?_
    refine lv_aload_n hx hb d_Ref_search_53 rfl (lv_at hl 1 rfl) ?_
    obtain ⟨hPc, hDc, hFc⟩ := cut3 (wc := [oc h0 8 [.int 0, .int p3, .ref h1, .ref h2, .ref h3, .ref h4, .ref h5, .ref h6, .ref h7, .ref h8, .ref h9, .ref h10, .ref h11, .ref h12, .int p4, .ref h13, .ref h14, .ref h15, .ref h16, .int 2, .int 37, .ref h17, .ref h18, .ref h19, .int 0, .ref h20, .int p8, .int 0, .ref h21, .ref h22, .ref h23, .ref h24, .ref h25, .ref h26, .ref h27, .ref h28, .int p10, .int p11, .ref h29, .ref h30, .ref h31, .ref h32, .ref h33, .ref h34, .ref h35, .ref h36, .int p12, .ref h37], ia h14 k13 155 f13]) hP hD rfl hS hA [0, 5] (by decide +kernel) rfl
    have hKc := hK.sub (tys' := [(k13, .int)]) [4] rfl
    refine va_callv (va_runV (As := []) (rest := []) ⟨hx, hb, hml, hown, hw⟩ (c_Ref_beginState_v3 l dC dI h0 0 p3 h1 h2 h3 h4 h5 h6 h7 h8 h9 h10 h11 h12 p4 h13 h14 h15 h16 37 h17 h18 h19 0 h20 p8 0 h21 h22 h23 h24 h25 h26 h27 h28 p10 p11 h29 h30 h31 h32 h33 h34 h35 h36 p12 h37 k13 f13 H.size) (cw_V 0 hw g_Ref_beginState rfl rfl rfl (hw _ m_109) (hw _ m_1077) (hw _ m_1079) (hw _ m_54) (by decide +kernel) ⟨Nat.le_of_ble_eq_true rfl, Nat.le_of_ble_eq_true rfl⟩) ⟨fun a U g mk q => by obtain ⟨q0, q1, qP, qK, qD, qN⟩ := q; exact ⟨q0, q1, qP, va_K.moved (u := U) (U := U.calling g mk a) (Vm.Alike.refl U.vm) qK, qD, nw_call qN⟩, va_recv hKc hPc (ci := 8) (q0 := 0) rfl rfl, fun U hU hW => ⟨rfl, by rw [hU], by rw [hU]; exact hPc, va_K.moved hW.alike hKc, hDc.weaken (fun _ _ _ _ => trivial), nw_warm hW hn⟩⟩ rfl rfl hl.1 rfl (lv_room (Nat.le_of_ble_eq_true rfl)) d_Ref_search_54 ⟨Nat.le_of_ble_eq_true rfl, Nat.le_of_ble_eq_true rfl⟩) hS (fun q _ h => hFc q h) hFc ?_
    intro u t H1 locs1 ht hvm hw1 hB hz1 hk1 hS1
    obtain ⟨hP1, hK1, hD1⟩ := hB
    rw [ht] at hP1
    replace hK1 := va_K.moved hvm.symm hK1
    have hPD := join3 hP hD rfl [0, 5] [1, 2, 3, 4, 6, 7, 8, 9, 10, 11] rfl (by rfl) (by decide +kernel) (by decide +kernel) hk1 hFc hP1 hD1
    replace hK : va_K (dC, dI) classes [(k6, .int), (k7, .short), (k9, .int), (k10, .int), (k13, .int), (k14, .int), (k16, .long), (k17, .int), (k18, .int), (k19, .long), (k20, .int)] s := hK.app hK1
    clear hP1 hK1 hD1 hk1 hz1 hFc hKc hDc hPc hvm ht hP hS t locs H
    have hP : va_P (dC, dI) classes [ia h7 k6 8 (upd (fun _ => 0) 3 1), ia h8 k7 352000 f7, ia h10 k9 16000 f9, ia h11 k10 32000 f10, ia h15 k14 2635 f14, la h17 k16 1200000 f16, ia h18 k17 240000 f17, ia h19 k18 65536 (fun _ => (-1)), la h20 k19 5 f19, ia h21 k20 11 (fun _ => 0), oc h0 8 [.int 0, .int p3, .ref h1, .ref h2, .ref h3, .ref h4, .ref h5, .ref h6, .ref h7, .ref h8, .ref h9, .ref h10, .ref h11, .ref h12, .int p4, .ref h13, .ref h14, .ref h15, .ref h16, .int 2, .int 37, .ref h17, .ref h18, .ref h19, .int 0, .ref h20, .int p8, .int 0, .ref h21, .ref h22, .ref h23, .ref h24, .ref h25, .ref h26, .ref h27, .ref h28, .int p10, .int p11, .ref h29, .ref h30, .ref h31, .ref h32, .ref h33, .ref h34, .ref h35, .ref h36, .int p12, .ref h37], ia h14 k13 155 (fun _ => 0)] H1 := hPD.1
    replace hD : dd A [h7, h8, h10, h11, h15, h17, h18, h19, h20, h21, h0, h14] := dd_of hPD.2 rfl
    clear hPD
    revert H1 locs1
    intro H locs hS hP
    clear hw1 u
    refine tp_pc (pc' := 57) (by rfl) ?_
    refine lv_iload_n hx hb d_Ref_search_57 rfl (lv_at hl 3 rfl) ?_
    refine lv_if_ne (tgt := 68) hx hb d_Ref_search_58 (by decide) (fun c_4 => absurd c_4 (by decide)) (fun c_4 => ?_)
    refine tp_pc (pc' := 61) (by rfl) ?_
    refine lv_aload_n hx hb d_Ref_search_61 rfl (lv_at hl 1 rfl) ?_
    refine va_get (D := (dC, dI)) (ci := 8) (v := .ref h7) (C := R_Ref) (T := F_Ref) (N := 48) hx hb hw i_Ref hown hK hP 10 rfl rfl 8 (by decide) (hw _ m_907) (fun _ h9 => h9) rfl d_Ref_search_62 ?_
    refine lv_iload_n hx hb d_Ref_search_65 rfl (lv_at hl 2 rfl) ?_
    refine lv_iconst (v := 0) hx hb d_Ref_search_66 (by decide) ?_
    refine va_iast (D := (dC, dI)) hx hb hK hP (dd_D hD rfl) hS 0 0 rfl rfl (i := 2) (x := 0) (vp_c (by decide)) d_Ref_search_67 ?_
    clear hP hS locs H
    intro H locs hP _ hS
    replace hP : va_P (dC, dI) classes [ia h7 k6 8 (upd (fun _ => 0) 3 1), ia h8 k7 352000 f7, ia h10 k9 16000 f9, ia h11 k10 32000 f10, ia h15 k14 2635 f14, la h17 k16 1200000 f16, ia h18 k17 240000 f17, ia h19 k18 65536 (fun _ => (-1)), la h20 k19 5 f19, ia h21 k20 11 (fun _ => 0), oc h0 8 [.int 0, .int p3, .ref h1, .ref h2, .ref h3, .ref h4, .ref h5, .ref h6, .ref h7, .ref h8, .ref h9, .ref h10, .ref h11, .ref h12, .int p4, .ref h13, .ref h14, .ref h15, .ref h16, .int 2, .int 37, .ref h17, .ref h18, .ref h19, .int 0, .ref h20, .int p8, .int 0, .ref h21, .ref h22, .ref h23, .ref h24, .ref h25, .ref h26, .ref h27, .ref h28, .int p10, .int p11, .ref h29, .ref h30, .ref h31, .ref h32, .ref h33, .ref h34, .ref h35, .ref h36, .int p12, .ref h37], ia h14 k13 155 (fun _ => 0)] H := P_cg 0 rfl (up_pt (by first | rfl | decide)) hP
    refine tp_pc (pc' := 68) (by rfl) ?_
    refine lv_aload_n hx hb d_Ref_search_68 rfl (lv_at hl 1 rfl) ?_
    refine lv_iconst (v := 0) hx hb d_Ref_search_69 (by decide) ?_
    obtain ⟨hPc, hDc, hFc⟩ := cut3 (wc := [oc h0 8 [.int 0, .int p3, .ref h1, .ref h2, .ref h3, .ref h4, .ref h5, .ref h6, .ref h7, .ref h8, .ref h9, .ref h10, .ref h11, .ref h12, .int p4, .ref h13, .ref h14, .ref h15, .ref h16, .int 2, .int 37, .ref h17, .ref h18, .ref h19, .int 0, .ref h20, .int p8, .int 0, .ref h21, .ref h22, .ref h23, .ref h24, .ref h25, .ref h26, .ref h27, .ref h28, .int p10, .int p11, .ref h29, .ref h30, .ref h31, .ref h32, .ref h33, .ref h34, .ref h35, .ref h36, .int p12, .ref h37], ia h7 k6 8 (upd (fun _ => 0) 3 1), ia h8 k7 352000 f7, ia h10 k9 16000 f9, ia h11 k10 32000 f10, ia h14 k13 155 (fun _ => 0), ia h15 k14 2635 f14, la h17 k16 1200000 f16, ia h18 k17 240000 f17, ia h19 k18 65536 (fun _ => (-1)), la h20 k19 5 f19, ia h21 k20 11 (fun _ => 0)]) hP hD rfl hS hA [10, 0, 1, 2, 3, 11, 4, 5, 6, 7, 8, 9] (by decide +kernel) rfl
    have hKc := hK.sub (tys' := [(k6, .int), (k7, .short), (k9, .int), (k10, .int), (k13, .int), (k14, .int), (k16, .long), (k17, .int), (k18, .int), (k19, .long), (k20, .int)]) [0, 1, 2, 3, 4, 5, 6, 7, 8, 9, 10] rfl
    refine va_callv (va_runV (As := [.int 0]) (rest := []) ⟨hx, hb, hml, hown, hw⟩ (c_Ref_from_v17 l dC dI h0 p3 h1 h2 h3 h4 h5 h6 h7 h8 h9 h10 h11 h12 p4 h13 h14 h15 h16 h17 h18 h19 h20 p8 h21 h22 h23 h24 h25 h26 h27 h28 p10 p11 h29 h30 h31 h32 h33 h34 h35 h36 p12 h37 k6 k7 f7 k9 f9 k10 f10 k13 k14 f14 k16 f16 k17 f17 k18 k19 f19 k20 H.size) (cw_V 1 hw g_Ref_from rfl rfl rfl (hw _ m_109) (hw _ m_1081) (hw _ m_1083) (hw _ m_55) (by decide +kernel) ⟨Nat.le_of_ble_eq_true rfl, Nat.le_of_ble_eq_true rfl⟩) ⟨fun a U g mk q => by obtain ⟨q0, q1, qP, qK, qD, qN⟩ := q; exact ⟨q0, q1, qP, va_K.moved (u := U) (U := U.calling g mk a) (Vm.Alike.refl U.vm) qK, qD, nw_call qN⟩, va_recv hKc hPc (ci := 8) (q0 := 0) rfl rfl, fun U hU hW => ⟨rfl, by rw [hU], by rw [hU]; exact hPc, va_K.moved hW.alike hKc, hDc.weaken (fun _ _ _ _ => trivial), nw_warm hW hn⟩⟩ rfl rfl hl.1 rfl (lv_room (Nat.le_of_ble_eq_true rfl)) d_Ref_search_70 ⟨Nat.le_of_ble_eq_true rfl, Nat.le_of_ble_eq_true rfl⟩) hS (fun q _ h => hFc q h) hFc ?_
    intro u t H1 locs1 ht hvm hw1 hB hz1 hk1 hS1
    obtain ⟨g_5, hP1, hK1, hD1⟩ := hB
    rw [ht] at hP1
    replace hK1 := va_K.moved hvm.symm hK1
    have hPD := join3 hP hD rfl [10, 0, 1, 2, 3, 11, 4, 5, 6, 7, 8, 9] [] rfl (by rfl) (by decide +kernel) (by decide +kernel) hk1 hFc hP1 hD1
    replace hK : va_K (dC, dI) classes [(k6, .int), (k7, .short), (k9, .int), (k10, .int), (k13, .int), (k14, .int), (k16, .long), (k17, .int), (k18, .int), (k19, .long), (k20, .int)] s := hK.app hK1
    clear hP1 hK1 hD1 hk1 hz1 hFc hKc hDc hPc hvm ht hP hS t locs H
    have hP : va_P (dC, dI) classes [oc h0 8 [.int 0, .int p3, .ref h1, .ref h2, .ref h3, .ref h4, .ref h5, .ref h6, .ref h7, .ref h8, .ref h9, .ref h10, .ref h11, .ref h12, .int p4, .ref h13, .ref h14, .ref h15, .ref h16, .int 2, .int 37, .ref h17, .ref h18, .ref h19, .int 1, .ref h20, .int 125, .int 0, .ref h21, .ref h22, .ref h23, .ref h24, .ref h25, .ref h26, .ref h27, .ref h28, .int p10, .int p11, .ref h29, .ref h30, .ref h31, .ref h32, .ref h33, .ref h34, .ref h35, .ref h36, .int p12, .ref h37], ia h7 k6 8 (upd (upd (fun _ => 0) 3 1) 2 1), ia h8 k7 352000 (upd (upd (upd (upd (upd (upd (upd (upd (upd (upd (upd f7 88000 0) 88001 0) 88002 0) 88003 0) 88004 0) 88005 0) 88006 0) 88007 0) 88008 0) 88009 0) 88010 0), ia h10 k9 16000 (upd f9 8000 0), ia h11 k10 32000 (upd f10 8000 0), ia h14 k13 155 (fun _ => 0), ia h15 k14 2635 g_5, la h17 k16 1200000 (vp_updL (vp_updL (vp_updL (vp_updL (vp_updL f16 0 1161999626690363392) 1 16909320) 2 0) 3 0) 4 0), ia h18 k17 240000 (upd f17 0 (-1)), ia h19 k18 65536 (upd (fun _ => (-1)) 22162 0), la h20 k19 5 (vp_updL (vp_updL (vp_updL (vp_updL (vp_updL (vp_updL (vp_updL (vp_updL (vp_updL (vp_updL (vp_updL (vp_updL (vp_updL (vp_updL (vp_updL (vp_updL (vp_updL (vp_updL (vp_updL (vp_updL (vp_updL (vp_updL (vp_updL (vp_updL (vp_updL (vp_updL (vp_updL (vp_updL (vp_updL (vp_updL (vp_updL (vp_updL (vp_updL f19 0 0) 1 0) 2 0) 3 0) 4 0) 0 0) 0 0) 0 0) 0 0) 0 262144) 0 33816576) 0 4328783872) 0 554084597760) 0 70922828775424) 0 9078122083516416) 0 1161999626690363392) 0 1161999626690363392) 1 8) 1 1032) 1 132104) 1 16909320) 1 16909320) 1 16909320) 1 16909320) 1 16909320) 1 16909320) 1 16909320) 1 16909320) 1 16909320) 1 16909320) 1 16909320) 1 16909320) 1 16909320), ia h21 k20 11 (fun _ => 0)] H1 := hPD.1
    replace hD : dd A [h0, h7, h8, h10, h11, h14, h15, h17, h18, h19, h20, h21] := dd_of hPD.2 rfl
    clear hPD
    revert H1 locs1
    intro H locs hS hP
    clear hw1 u
    refine tp_pc (pc' := 73) (by rfl) ?_
    obtain ⟨hP9, hD9, -⟩ := cut3 (wc := [oc h0 8 [.int 0, .int p3, .ref h1, .ref h2, .ref h3, .ref h4, .ref h5, .ref h6, .ref h7, .ref h8, .ref h9, .ref h10, .ref h11, .ref h12, .int p4, .ref h13, .ref h14, .ref h15, .ref h16, .int 2, .int 37, .ref h17, .ref h18, .ref h19, .int 1, .ref h20, .int 125, .int 0, .ref h21, .ref h22, .ref h23, .ref h24, .ref h25, .ref h26, .ref h27, .ref h28, .int p10, .int p11, .ref h29, .ref h30, .ref h31, .ref h32, .ref h33, .ref h34, .ref h35, .ref h36, .int p12, .ref h37], ia h7 k6 8 (upd (upd (fun _ => 0) 3 1) 2 1), ia h8 k7 352000 (upd (upd (upd (upd (upd (upd (upd (upd (upd (upd (upd f7 88000 0) 88001 0) 88002 0) 88003 0) 88004 0) 88005 0) 88006 0) 88007 0) 88008 0) 88009 0) 88010 0), ia h10 k9 16000 (upd f9 8000 0), ia h11 k10 32000 (upd f10 8000 0), ia h14 k13 155 (fun _ => 0), ia h15 k14 2635 g_5, la h17 k16 1200000 (vp_updL (vp_updL (vp_updL (vp_updL (vp_updL f16 0 1161999626690363392) 1 16909320) 2 0) 3 0) 4 0), ia h18 k17 240000 (upd f17 0 (-1)), ia h19 k18 65536 (upd (fun _ => (-1)) 22162 0), la h20 k19 5 (vp_updL (vp_updL (vp_updL (vp_updL (vp_updL (vp_updL (vp_updL (vp_updL (vp_updL (vp_updL (vp_updL (vp_updL (vp_updL (vp_updL (vp_updL (vp_updL (vp_updL (vp_updL (vp_updL (vp_updL (vp_updL (vp_updL (vp_updL (vp_updL (vp_updL (vp_updL (vp_updL (vp_updL (vp_updL (vp_updL (vp_updL (vp_updL (vp_updL f19 0 0) 1 0) 2 0) 3 0) 4 0) 0 0) 0 0) 0 0) 0 0) 0 262144) 0 33816576) 0 4328783872) 0 554084597760) 0 70922828775424) 0 9078122083516416) 0 1161999626690363392) 0 1161999626690363392) 1 8) 1 1032) 1 132104) 1 16909320) 1 16909320) 1 16909320) 1 16909320) 1 16909320) 1 16909320) 1 16909320) 1 16909320) 1 16909320) 1 16909320) 1 16909320) 1 16909320) 1 16909320), ia h21 k20 11 (fun _ => 0)]) hP hD rfl hS hA [0, 1, 2, 3, 4, 5, 6, 7, 8, 9, 10, 11] (by decide +kernel) rfl
    have hK9 := hK.sub (tys' := []) [] rfl
    refine W.widen (k := 0) (n := 0) (by exact Nat.le_of_ble_eq_true rfl) (by exact Nat.le_of_ble_eq_true rfl) ?_
    exact W.vret hx hb hr (fun t ht hW => ⟨⟨(), rfl, trivial, g_5, by rw [ht]; exact hP9, va_K.moved hW.alike hK9, hD9⟩, hS.F ht⟩) hS.2.2 d_Ref_search_73
