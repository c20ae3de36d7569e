set_option maxHeartbeats 4000000 in
set_option maxRecDepth 100000 in
theorem c_Ref_anew (l : Launch) (dC : Nat → ClassId) (dI : Nat → Nat → Nat) (h0 : Nat) (p0 : Int32) (p1 : Int32) (h1 : Nat) (h2 : Nat) (h3 : Nat) (h4 : Nat) (h5 : Nat) (h6 : Nat) (h7 : Nat) (h8 : Nat) (h9 : Nat) (h10 : Nat) (h11 : Nat) (h12 : Nat) (p2 : Int32) (h13 : Nat) (h14 : Nat) (h15 : Nat) (h16 : Nat) (p3 : Int32) (p4 : Int32) (h17 : Nat) (h18 : Nat) (h19 : Nat) (p5 : Int32) (h20 : Nat) (p6 : Int32) (p7 : Int32) (h21 : Nat) (h22 : Nat) (h23 : Nat) (h24 : Nat) (h25 : Nat) (h26 : Nat) (h27 : Nat) (h28 : Nat) (p8 : Int32) (p9 : Int32) (h29 : Nat) (h30 : Nat) (h31 : Nat) (h32 : Nat) (h33 : Nat) (h34 : Nat) (h35 : Nat) (h36 : Nat) (p10 : Int32) (h37 : Nat) (k5 : ClassId) (f5 : Nat → Int32) (sz : Nat) : Met l y_Ref_anew w_Ref_anew ({ frames := 0, cells := 0, slots := 0, locals := 0 }) (va_Pc [.ref h0] (fun U => U.heap.size = sz ∧ va_P (dC, dI) classes [oc h0 8 [.int p0, .int p1, .ref h1, .ref h2, .ref h3, .ref h4, .ref h5, .ref h6, .ref h7, .ref h8, .ref h9, .ref h10, .ref h11, .ref h12, .int p2, .ref h13, .ref h14, .ref h15, .ref h16, .int p3, .int p4, .ref h17, .ref h18, .ref h19, .int p5, .ref h20, .int p6, .int p7, .ref h21, .ref h22, .ref h23, .ref h24, .ref h25, .ref h26, .ref h27, .ref h28, .int p8, .int p9, .ref h29, .ref h30, .ref h31, .ref h32, .ref h33, .ref h34, .ref h35, .ref h36, .int p10, .ref h37], ia h6 k5 8 f5] U.heap ∧ va_K (dC, dI) classes [(k5, .boolean)] U ∧ va_D (fun _ => True) [oc h0 8 [.int p0, .int p1, .ref h1, .ref h2, .ref h3, .ref h4, .ref h5, .ref h6, .ref h7, .ref h8, .ref h9, .ref h10, .ref h11, .ref h12, .int p2, .ref h13, .ref h14, .ref h15, .ref h16, .int p3, .int p4, .ref h17, .ref h18, .ref h19, .int p5, .ref h20, .int p6, .int p7, .ref h21, .ref h22, .ref h23, .ref h24, .ref h25, .ref h26, .ref h27, .ref h28, .int p8, .int p9, .ref h29, .ref h30, .ref h31, .ref h32, .ref h33, .ref h34, .ref h35, .ref h36, .int p10, .ref h37], ia h6 k5 8 f5] ∧ nw U)) (va_Qv (fun _ : Unit => True) (fun _ t => va_P (dC, dI) classes [oc h0 8 [.int p0, .int p1, .ref h1, .ref h2, .ref h3, .ref h4, .ref h5, .ref h6, .ref h7, .ref h8, .ref h9, .ref h10, .ref h11, .ref h12, .int 0, .ref h13, .ref h14, .ref h15, .ref h16, .int p3, .int p4, .ref h17, .ref h18, .ref h19, .int p5, .ref h20, .int p6, .int p7, .ref h21, .ref h22, .ref h23, .ref h24, .ref h25, .ref h26, .ref h27, .ref h28, .int p8, .int p9, .ref h29, .ref h30, .ref h31, .ref h32, .ref h33, .ref h34, .ref h35, .ref h36, .int p10, .ref h37], ia h6 k5 8 (upd (upd (upd (upd (upd (upd (upd (upd f5 0 0) 1 0) 2 0) 3 0) 4 0) 5 0) 6 0) 7 0)] t.heap ∧ va_K (dC, dI) classes [] t ∧ va_D (va_A [oc h0 8 [.int p0, .int p1, .ref h1, .ref h2, .ref h3, .ref h4, .ref h5, .ref h6, .ref h7, .ref h8, .ref h9, .ref h10, .ref h11, .ref h12, .int p2, .ref h13, .ref h14, .ref h15, .ref h16, .int p3, .int p4, .ref h17, .ref h18, .ref h19, .int p5, .ref h20, .int p6, .int p7, .ref h21, .ref h22, .ref h23, .ref h24, .ref h25, .ref h26, .ref h27, .ref h28, .int p8, .int p9, .ref h29, .ref h30, .ref h31, .ref h32, .ref h33, .ref h34, .ref h35, .ref h36, .int p10, .ref h37], ia h6 k5 8 f5] sz) [oc h0 8 [.int p0, .int p1, .ref h1, .ref h2, .ref h3, .ref h4, .ref h5, .ref h6, .ref h7, .ref h8, .ref h9, .ref h10, .ref h11, .ref h12, .int 0, .ref h13, .ref h14, .ref h15, .ref h16, .int p3, .int p4, .ref h17, .ref h18, .ref h19, .int p5, .ref h20, .int p6, .int p7, .ref h21, .ref h22, .ref h23, .ref h24, .ref h25, .ref h26, .ref h27, .ref h28, .int p8, .int p9, .ref h29, .ref h30, .ref h31, .ref h32, .ref h33, .ref h34, .ref h35, .ref h36, .int p10, .ref h37], ia h6 k5 8 (upd (upd (upd (upd (upd (upd (upd (upd f5 0 0) 1 0) 2 0) 3 0) 4 0) 5 0) 6 0) 7 0)]) (va_A [oc h0 8 [.int p0, .int p1, .ref h1, .ref h2, .ref h3, .ref h4, .ref h5, .ref h6, .ref h7, .ref h8, .ref h9, .ref h10, .ref h11, .ref h12, .int p2, .ref h13, .ref h14, .ref h15, .ref h16, .int p3, .int p4, .ref h17, .ref h18, .ref h19, .int p5, .ref h20, .int p6, .int p7, .ref h21, .ref h22, .ref h23, .ref h24, .ref h25, .ref h26, .ref h27, .ref h28, .int p8, .int p9, .ref h29, .ref h30, .ref h31, .ref h32, .ref h33, .ref h34, .ref h35, .ref h36, .int p10, .ref h37], ia h6 k5 8 f5] sz)) 0 0 (va_A [oc h0 8 [.int p0, .int p1, .ref h1, .ref h2, .ref h3, .ref h4, .ref h5, .ref h6, .ref h7, .ref h8, .ref h9, .ref h10, .ref h11, .ref h12, .int p2, .ref h13, .ref h14, .ref h15, .ref h16, .int p3, .int p4, .ref h17, .ref h18, .ref h19, .int p5, .ref h20, .int p6, .int p7, .ref h21, .ref h22, .ref h23, .ref h24, .ref h25, .ref h26, .ref h27, .ref h28, .int p8, .int p9, .ref h29, .ref h30, .ref h31, .ref h32, .ref h33, .ref h34, .ref h35, .ref h36, .int p10, .ref h37], ia h6 k5 8 f5] sz) := by
  refine Met.ofW (cc := b_Ref_anew) (maxL := 2) (ret := none) (by decide) rfl ?_
  intro p e s m args below meth c s₁ B hml hv
  obtain ⟨rfl, hsz, hP, hK, hD0, hn⟩ := hv
  have hx := B.exec
  have hb := B.bytes
  have hr := B.returns
  have hw := fun w (h : w ∈ wt) => atoms_spec (ws := w_Ref_anew) B.pre w (List.mem_cons_of_mem _ h)
  have hown : s.vm.findClass R_Ref = some m.cls := findClass_of_methodNamed B.named
  have hlocks := B.notSynchronized
  subst hsz
  have hD1 := hD0.self (sz := s.heap.size)
  generalize hAe : va_A [oc h0 8 [.int p0, .int p1, .ref h1, .ref h2, .ref h3, .ref h4, .ref h5, .ref h6, .ref h7, .ref h8, .ref h9, .ref h10, .ref h11, .ref h12, .int p2, .ref h13, .ref h14, .ref h15, .ref h16, .int p3, .int p4, .ref h17, .ref h18, .ref h19, .int p5, .ref h20, .int p6, .int p7, .ref h21, .ref h22, .ref h23, .ref h24, .ref h25, .ref h26, .ref h27, .ref h28, .int p8, .int p9, .ref h29, .ref h30, .ref h31, .ref h32, .ref h33, .ref h34, .ref h35, .ref h36, .int p10, .ref h37], ia h6 k5 8 f5] s.heap.size = A at hD1 ⊢
  have hA : ∀ q : Nat, s.heap.size ≤ q → A q := fun q h => by rw [← hAe]; exact Or.inr h
  have hD : dd A [h0, h6] := dd_of hD1 rfl
  clear hAe hD0 hD1
  have hS : va_S A s.heap s.heap [] := va_S.rf
  replace hP : va_P (dC, dI) classes [oc h0 8 [.int p0, .int p1, .ref h1, .ref h2, .ref h3, .ref h4, .ref h5, .ref h6, .ref h7, .ref h8, .ref h9, .ref h10, .ref h11, .ref h12, .int p2, .ref h13, .ref h14, .ref h15, .ref h16, .int p3, .int p4, .ref h17, .ref h18, .ref h19, .int p5, .ref h20, .int p6, .int p7, .ref h21, .ref h22, .ref h23, .ref h24, .ref h25, .ref h26, .ref h27, .ref h28, .int p8, .int p9, .ref h29, .ref h30, .ref h31, .ref h32, .ref h33, .ref h34, .ref h35, .ref h36, .int p10, .ref h37], ia h6 k5 8 f5] s.heap := hP
  have hl := lv_entry ([.ref h0]) (n := 2) (Nat.le_of_ble_eq_true rfl)
  rw [lg_entry_eq]
  generalize (lg_sl ([.ref h0]) ++ List.replicate (2 - (lg_sl ([.ref h0])).length) Slot.unset).toArray = ls at hl ⊢
  replace hl : lv_has ls 2 [(0, .ref h0)] := hl
  refine lv_iconst (v := 0) hx hb d_Ref_anew_0 (by decide) ?_
  refine lv_istore_n (lv' := [(1, .int 0), (0, .ref h0)]) hx hb d_Ref_anew_1 rfl hl (by decide) rfl ?_
  clear hl ls
  intro ls hl
  refine lv_iload_n hx hb d_Ref_anew_2 rfl (lv_at hl 0 rfl) ?_
  refine lv_bipush (v := 8) hx hb d_Ref_anew_3 (by decide) ?_
  refine lv_icmp_ge (tgt := 21) hx hb d_Ref_anew_5 (by decide) (fun c_1 => absurd c_1 (by decide)) (fun c_1 => ?_)
  refine tp_pc (pc' := 8) (by rfl) ?_
  refine lv_aload_n hx hb d_Ref_anew_8 rfl (lv_at hl 1 rfl) ?_
  refine va_get (D := (dC, dI)) (ci := 8) (v := .ref h6) (C := R_Ref) (T := F_Ref) (N := 48) hx hb hw i_Ref hown hK hP 0 rfl rfl 7 (by decide) (hw _ m_906) (fun _ h9 => h9) rfl d_Ref_anew_9 ?_
  refine lv_iload_n hx hb d_Ref_anew_12 rfl (lv_at hl 0 rfl) ?_
  refine lv_iconst (v := 0) hx hb d_Ref_anew_13 (by decide) ?_
  refine va_zast (D := (dC, dI)) hx hb hK hP (dd_D hD rfl) hS 1 0 rfl rfl (i := 0) (x := 0) (vp_c (by decide)) d_Ref_anew_14 ?_
  clear hP hS
  intro H locs (hP : va_P (dC, dI) classes [oc h0 8 [.int p0, .int p1, .ref h1, .ref h2, .ref h3, .ref h4, .ref h5, .ref h6, .ref h7, .ref h8, .ref h9, .ref h10, .ref h11, .ref h12, .int p2, .ref h13, .ref h14, .ref h15, .ref h16, .int p3, .int p4, .ref h17, .ref h18, .ref h19, .int p5, .ref h20, .int p6, .int p7, .ref h21, .ref h22, .ref h23, .ref h24, .ref h25, .ref h26, .ref h27, .ref h28, .int p8, .int p9, .ref h29, .ref h30, .ref h31, .ref h32, .ref h33, .ref h34, .ref h35, .ref h36, .int p10, .ref h37], ia h6 k5 8 (upd f5 0 0)] H) _ hS
  refine tp_pc (pc' := 15) (by rfl) ?_
  refine lv_iinc (v := 1) (lv' := [(1, .int 1), (0, .ref h0)]) hx hb d_Ref_anew_15 hl (k := 0) rfl (by first | rfl | decide) (by decide) rfl ?_
  clear hl ls
  intro ls hl
  refine lv_goto (tgt := 2) hx hb d_Ref_anew_18 (by decide) ?_
  refine tp_pc (pc' := 2) (by rfl) ?_
  refine lv_iload_n hx hb d_Ref_anew_2 rfl (lv_at hl 0 rfl) ?_
  refine lv_bipush (v := 8) hx hb d_Ref_anew_3 (by decide) ?_
  refine lv_icmp_ge (tgt := 21) hx hb d_Ref_anew_5 (by decide) (fun c_2 => absurd c_2 (by decide)) (fun c_2 => ?_)
  refine tp_pc (pc' := 8) (by rfl) ?_
  refine lv_aload_n hx hb d_Ref_anew_8 rfl (lv_at hl 1 rfl) ?_
  refine va_get (D := (dC, dI)) (ci := 8) (v := .ref h6) (C := R_Ref) (T := F_Ref) (N := 48) hx hb hw i_Ref hown hK hP 0 rfl rfl 7 (by decide) (hw _ m_906) (fun _ h9 => h9) rfl d_Ref_anew_9 ?_
  refine lv_iload_n hx hb d_Ref_anew_12 rfl (lv_at hl 0 rfl) ?_
  refine lv_iconst (v := 0) hx hb d_Ref_anew_13 (by decide) ?_
  refine va_zast (D := (dC, dI)) hx hb hK hP (dd_D hD rfl) hS 1 0 rfl rfl (i := 1) (x := 0) (vp_c (by decide)) d_Ref_anew_14 ?_
  clear hP hS locs H
  intro H locs (hP : va_P (dC, dI) classes [oc h0 8 [.int p0, .int p1, .ref h1, .ref h2, .ref h3, .ref h4, .ref h5, .ref h6, .ref h7, .ref h8, .ref h9, .ref h10, .ref h11, .ref h12, .int p2, .ref h13, .ref h14, .ref h15, .ref h16, .int p3, .int p4, .ref h17, .ref h18, .ref h19, .int p5, .ref h20, .int p6, .int p7, .ref h21, .ref h22, .ref h23, .ref h24, .ref h25, .ref h26, .ref h27, .ref h28, .int p8, .int p9, .ref h29, .ref h30, .ref h31, .ref h32, .ref h33, .ref h34, .ref h35, .ref h36, .int p10, .ref h37], ia h6 k5 8 (upd (upd f5 0 0) 1 0)] H) _ hS
  refine tp_pc (pc' := 15) (by rfl) ?_
  refine lv_iinc (v := 2) (lv' := [(1, .int 2), (0, .ref h0)]) hx hb d_Ref_anew_15 hl (k := 0) rfl (by first | rfl | decide) (by decide) rfl ?_
  clear hl ls
  intro ls hl
  refine lv_goto (tgt := 2) hx hb d_Ref_anew_18 (by decide) ?_
  refine tp_pc (pc' := 2) (by rfl) ?_
  refine lv_iload_n hx hb d_Ref_anew_2 rfl (lv_at hl 0 rfl) ?_
  refine lv_bipush (v := 8) hx hb d_Ref_anew_3 (by decide) ?_
  refine lv_icmp_ge (tgt := 21) hx hb d_Ref_anew_5 (by decide) (fun c_3 => absurd c_3 (by decide)) (fun c_3 => ?_)
  refine tp_pc (pc' := 8) (by rfl) ?_
  refine lv_aload_n hx hb d_Ref_anew_8 rfl (lv_at hl 1 rfl) ?_
  refine va_get (D := (dC, dI)) (ci := 8) (v := .ref h6) (C := R_Ref) (T := F_Ref) (N := 48) hx hb hw i_Ref hown hK hP 0 rfl rfl 7 (by decide) (hw _ m_906) (fun _ h9 => h9) rfl d_Ref_anew_9 ?_
  refine lv_iload_n hx hb d_Ref_anew_12 rfl (lv_at hl 0 rfl) ?_
  refine lv_iconst (v := 0) hx hb d_Ref_anew_13 (by decide) ?_
  refine va_zast (D := (dC, dI)) hx hb hK hP (dd_D hD rfl) hS 1 0 rfl rfl (i := 2) (x := 0) (vp_c (by decide)) d_Ref_anew_14 ?_
  clear hP hS locs H
  intro H locs (hP : va_P (dC, dI) classes [oc h0 8 [.int p0, .int p1, .ref h1, .ref h2, .ref h3, .ref h4, .ref h5, .ref h6, .ref h7, .ref h8, .ref h9, .ref h10, .ref h11, .ref h12, .int p2, .ref h13, .ref h14, .ref h15, .ref h16, .int p3, .int p4, .ref h17, .ref h18, .ref h19, .int p5, .ref h20, .int p6, .int p7, .ref h21, .ref h22, .ref h23, .ref h24, .ref h25, .ref h26, .ref h27, .ref h28, .int p8, .int p9, .ref h29, .ref h30, .ref h31, .ref h32, .ref h33, .ref h34, .ref h35, .ref h36, .int p10, .ref h37], ia h6 k5 8 (upd (upd (upd f5 0 0) 1 0) 2 0)] H) _ hS
  refine tp_pc (pc' := 15) (by rfl) ?_
  refine lv_iinc (v := 3) (lv' := [(1, .int 3), (0, .ref h0)]) hx hb d_Ref_anew_15 hl (k := 0) rfl (by first | rfl | decide) (by decide) rfl ?_
  clear hl ls
  intro ls hl
  refine lv_goto (tgt := 2) hx hb d_Ref_anew_18 (by decide) ?_
  refine tp_pc (pc' := 2) (by rfl) ?_
  refine lv_iload_n hx hb d_Ref_anew_2 rfl (lv_at hl 0 rfl) ?_
  refine lv_bipush (v := 8) hx hb d_Ref_anew_3 (by decide) ?_
  refine lv_icmp_ge (tgt := 21) hx hb d_Ref_anew_5 (by decide) (fun c_4 => absurd c_4 (by decide)) (fun c_4 => ?_)
  refine tp_pc (pc' := 8) (by rfl) ?_
  refine lv_aload_n hx hb d_Ref_anew_8 rfl (lv_at hl 1 rfl) ?_
  refine va_get (D := (dC, dI)) (ci := 8) (v := .ref h6) (C := R_Ref) (T := F_Ref) (N := 48) hx hb hw i_Ref hown hK hP 0 rfl rfl 7 (by decide) (hw _ m_906) (fun _ h9 => h9) rfl d_Ref_anew_9 ?_
  refine lv_iload_n hx hb d_Ref_anew_12 rfl (lv_at hl 0 rfl) ?_
  refine lv_iconst (v := 0) hx hb d_Ref_anew_13 (by decide) ?_
  refine va_zast (D := (dC, dI)) hx hb hK hP (dd_D hD rfl) hS 1 0 rfl rfl (i := 3) (x := 0) (vp_c (by decide)) d_Ref_anew_14 ?_
  clear hP hS locs H
  intro H locs (hP : va_P (dC, dI) classes [oc h0 8 [.int p0, .int p1, .ref h1, .ref h2, .ref h3, .ref h4, .ref h5, .ref h6, .ref h7, .ref h8, .ref h9, .ref h10, .ref h11, .ref h12, .int p2, .ref h13, .ref h14, .ref h15, .ref h16, .int p3, .int p4, .ref h17, .ref h18, .ref h19, .int p5, .ref h20, .int p6, .int p7, .ref h21, .ref h22, .ref h23, .ref h24, .ref h25, .ref h26, .ref h27, .ref h28, .int p8, .int p9, .ref h29, .ref h30, .ref h31, .ref h32, .ref h33, .ref h34, .ref h35, .ref h36, .int p10, .ref h37], ia h6 k5 8 (upd (upd (upd (upd f5 0 0) 1 0) 2 0) 3 0)] H) _ hS
  refine tp_pc (pc' := 15) (by rfl) ?_
  refine lv_iinc (v := 4) (lv' := [(1, .int 4), (0, .ref h0)]) hx hb d_Ref_anew_15 hl (k := 0) rfl (by first | rfl | decide) (by decide) rfl ?_
  clear hl ls
  intro ls hl
  refine lv_goto (tgt := 2) hx hb d_Ref_anew_18 (by decide) ?_
  refine tp_pc (pc' := 2) (by rfl) ?_
  refine lv_iload_n hx hb d_Ref_anew_2 rfl (lv_at hl 0 rfl) ?_
  refine lv_bipush (v := 8) hx hb d_Ref_anew_3 (by decide) ?_
  refine lv_icmp_ge (tgt := 21) hx hb d_Ref_anew_5 (by decide) (fun c_5 => absurd c_5 (by decide)) (fun c_5 => ?_)
  refine tp_pc (pc' := 8) (by rfl) ?_
  refine lv_aload_n hx hb d_Ref_anew_8 rfl (lv_at hl 1 rfl) ?_
  refine va_get (D := (dC, dI)) (ci := 8) (v := .ref h6) (C := R_Ref) (T := F_Ref) (N := 48) hx hb hw i_Ref hown hK hP 0 rfl rfl 7 (by decide) (hw _ m_906) (fun _ h9 => h9) rfl d_Ref_anew_9 ?_
  refine lv_iload_n hx hb d_Ref_anew_12 rfl (lv_at hl 0 rfl) ?_
  refine lv_iconst (v := 0) hx hb d_Ref_anew_13 (by decide) ?_
  refine va_zast (D := (dC, dI)) hx hb hK hP (dd_D hD rfl) hS 1 0 rfl rfl (i := 4) (x := 0) (vp_c (by decide)) d_Ref_anew_14 ?_
  clear hP hS locs H
  intro H locs (hP : va_P (dC, dI) classes [oc h0 8 [.int p0, .int p1, .ref h1, .ref h2, .ref h3, .ref h4, .ref h5, .ref h6, .ref h7, .ref h8, .ref h9, .ref h10, .ref h11, .ref h12, .int p2, .ref h13, .ref h14, .ref h15, .ref h16, .int p3, .int p4, .ref h17, .ref h18, .ref h19, .int p5, .ref h20, .int p6, .int p7, .ref h21, .ref h22, .ref h23, .ref h24, .ref h25, .ref h26, .ref h27, .ref h28, .int p8, .int p9, .ref h29, .ref h30, .ref h31, .ref h32, .ref h33, .ref h34, .ref h35, .ref h36, .int p10, .ref h37], ia h6 k5 8 (upd (upd (upd (upd (upd f5 0 0) 1 0) 2 0) 3 0) 4 0)] H) _ hS
  refine tp_pc (pc' := 15) (by rfl) ?_
  refine lv_iinc (v := 5) (lv' := [(1, .int 5), (0, .ref h0)]) hx hb d_Ref_anew_15 hl (k := 0) rfl (by first | rfl | decide) (by decide) rfl ?_
  clear hl ls
  intro ls hl
  refine lv_goto (tgt := 2) hx hb d_Ref_anew_18 (by decide) ?_
  refine tp_pc (pc' := 2) (by rfl) ?_
  refine lv_iload_n hx hb d_Ref_anew_2 rfl (lv_at hl 0 rfl) ?_
  refine lv_bipush (v := 8) hx hb d_Ref_anew_3 (by decide) ?_
  refine lv_icmp_ge (tgt := 21) hx hb d_Ref_anew_5 (by decide) (fun c_6 => absurd c_6 (by decide)) (fun c_6 => ?_)
  refine tp_pc (pc' := 8) (by rfl) ?_
  refine lv_aload_n hx hb d_Ref_anew_8 rfl (lv_at hl 1 rfl) ?_
  refine va_get (D := (dC, dI)) (ci := 8) (v := .ref h6) (C := R_Ref) (T := F_Ref) (N := 48) hx hb hw i_Ref hown hK hP 0 rfl rfl 7 (by decide) (hw _ m_906) (fun _ h9 => h9) rfl d_Ref_anew_9 ?_
  refine lv_iload_n hx hb d_Ref_anew_12 rfl (lv_at hl 0 rfl) ?_
  refine lv_iconst (v := 0) hx hb d_Ref_anew_13 (by decide) ?_
  refine va_zast (D := (dC, dI)) hx hb hK hP (dd_D hD rfl) hS 1 0 rfl rfl (i := 5) (x := 0) (vp_c (by decide)) d_Ref_anew_14 ?_
  clear hP hS locs H
  intro H locs (hP : va_P (dC, dI) classes [oc h0 8 [.int p0, .int p1, .ref h1, .ref h2, .ref h3, .ref h4, .ref h5, .ref h6, .ref h7, .ref h8, .ref h9, .ref h10, .ref h11, .ref h12, .int p2, .ref h13, .ref h14, .ref h15, .ref h16, .int p3, .int p4, .ref h17, .ref h18, .ref h19, .int p5, .ref h20, .int p6, .int p7, .ref h21, .ref h22, .ref h23, .ref h24, .ref h25, .ref h26, .ref h27, .ref h28, .int p8, .int p9, .ref h29, .ref h30, .ref h31, .ref h32, .ref h33, .ref h34, .ref h35, .ref h36, .int p10, .ref h37], ia h6 k5 8 (upd (upd (upd (upd (upd (upd f5 0 0) 1 0) 2 0) 3 0) 4 0) 5 0)] H) _ hS
  refine tp_pc (pc' := 15) (by rfl) ?_
  refine lv_iinc (v := 6) (lv' := [(1, .int 6), (0, .ref h0)]) hx hb d_Ref_anew_15 hl (k := 0) rfl (by first | rfl | decide) (by decide) rfl ?_
  clear hl ls
  intro ls hl
  refine lv_goto (tgt := 2) hx hb d_Ref_anew_18 (by decide) ?_
  refine tp_pc (pc' := 2) (by rfl) ?_
  refine lv_iload_n hx hb d_Ref_anew_2 rfl (lv_at hl 0 rfl) ?_
  refine lv_bipush (v := 8) hx hb d_Ref_anew_3 (by decide) ?_
  refine lv_icmp_ge (tgt := 21) hx hb d_Ref_anew_5 (by decide) (fun c_7 => absurd c_7 (by decide)) (fun c_7 => ?_)
  refine tp_pc (pc' := 8) (by rfl) ?_
  refine lv_aload_n hx hb d_Ref_anew_8 rfl (lv_at hl 1 rfl) ?_
  refine va_get (D := (dC, dI)) (ci := 8) (v := .ref h6) (C := R_Ref) (T := F_Ref) (N := 48) hx hb hw i_Ref hown hK hP 0 rfl rfl 7 (by decide) (hw _ m_906) (fun _ h9 => h9) rfl d_Ref_anew_9 ?_
  refine lv_iload_n hx hb d_Ref_anew_12 rfl (lv_at hl 0 rfl) ?_
  refine lv_iconst (v := 0) hx hb d_Ref_anew_13 (by decide) ?_
  refine va_zast (D := (dC, dI)) hx hb hK hP (dd_D hD rfl) hS 1 0 rfl rfl (i := 6) (x := 0) (vp_c (by decide)) d_Ref_anew_14 ?_
  clear hP hS locs H
  intro H locs (hP : va_P (dC, dI) classes [oc h0 8 [.int p0, .int p1, .ref h1, .ref h2, .ref h3, .ref h4, .ref h5, .ref h6, .ref h7, .ref h8, .ref h9, .ref h10, .ref h11, .ref h12, .int p2, .ref h13, .ref h14, .ref h15, .ref h16, .int p3, .int p4, .ref h17, .ref h18, .ref h19, .int p5, .ref h20, .int p6, .int p7, .ref h21, .ref h22, .ref h23, .ref h24, .ref h25, .ref h26, .ref h27, .ref h28, .int p8, .int p9, .ref h29, .ref h30, .ref h31, .ref h32, .ref h33, .ref h34, .ref h35, .ref h36, .int p10, .ref h37], ia h6 k5 8 (upd (upd (upd (upd (upd (upd (upd f5 0 0) 1 0) 2 0) 3 0) 4 0) 5 0) 6 0)] H) _ hS
  refine tp_pc (pc' := 15) (by rfl) ?_
  refine lv_iinc (v := 7) (lv' := [(1, .int 7), (0, .ref h0)]) hx hb d_Ref_anew_15 hl (k := 0) rfl (by first | rfl | decide) (by decide) rfl ?_
  clear hl ls
  intro ls hl
  refine lv_goto (tgt := 2) hx hb d_Ref_anew_18 (by decide) ?_
  refine tp_pc (pc' := 2) (by rfl) ?_
  refine lv_iload_n hx hb d_Ref_anew_2 rfl (lv_at hl 0 rfl) ?_
  refine lv_bipush (v := 8) hx hb d_Ref_anew_3 (by decide) ?_
  refine lv_icmp_ge (tgt := 21) hx hb d_Ref_anew_5 (by decide) (fun c_8 => absurd c_8 (by decide)) (fun c_8 => ?_)
  refine tp_pc (pc' := 8) (by rfl) ?_
  refine lv_aload_n hx hb d_Ref_anew_8 rfl (lv_at hl 1 rfl) ?_
  refine va_get (D := (dC, dI)) (ci := 8) (v := .ref h6) (C := R_Ref) (T := F_Ref) (N := 48) hx hb hw i_Ref hown hK hP 0 rfl rfl 7 (by decide) (hw _ m_906) (fun _ h9 => h9) rfl d_Ref_anew_9 ?_
  refine lv_iload_n hx hb d_Ref_anew_12 rfl (lv_at hl 0 rfl) ?_
  refine lv_iconst (v := 0) hx hb d_Ref_anew_13 (by decide) ?_
  refine va_zast (D := (dC, dI)) hx hb hK hP (dd_D hD rfl) hS 1 0 rfl rfl (i := 7) (x := 0) (vp_c (by decide)) d_Ref_anew_14 ?_
  clear hP hS locs H
  intro H locs (hP : va_P (dC, dI) classes [oc h0 8 [.int p0, .int p1, .ref h1, .ref h2, .ref h3, .ref h4, .ref h5, .ref h6, .ref h7, .ref h8, .ref h9, .ref h10, .ref h11, .ref h12, .int p2, .ref h13, .ref h14, .ref h15, .ref h16, .int p3, .int p4, .ref h17, .ref h18, .ref h19, .int p5, .ref h20, .int p6, .int p7, .ref h21, .ref h22, .ref h23, .ref h24, .ref h25, .ref h26, .ref h27, .ref h28, .int p8, .int p9, .ref h29, .ref h30, .ref h31, .ref h32, .ref h33, .ref h34, .ref h35, .ref h36, .int p10, .ref h37], ia h6 k5 8 (upd (upd (upd (upd (upd (upd (upd (upd f5 0 0) 1 0) 2 0) 3 0) 4 0) 5 0) 6 0) 7 0)] H) _ hS
  refine tp_pc (pc' := 15) (by rfl) ?_
  refine lv_iinc (v := 8) (lv' := [(1, .int 8), (0, .ref h0)]) hx hb d_Ref_anew_15 hl (k := 0) rfl (by first | rfl | decide) (by decide) rfl ?_
  clear hl ls
  intro ls hl
  refine lv_goto (tgt := 2) hx hb d_Ref_anew_18 (by decide) ?_
  refine tp_pc (pc' := 2) (by rfl) ?_
  refine lv_iload_n hx hb d_Ref_anew_2 rfl (lv_at hl 0 rfl) ?_
  refine lv_bipush (v := 8) hx hb d_Ref_anew_3 (by decide) ?_
  refine lv_icmp_ge (tgt := 21) hx hb d_Ref_anew_5 (by decide) (fun c_9 => ?_) (fun c_9 => absurd c_9 (by decide))
  refine tp_pc (pc' := 21) (by rfl) ?_
  refine lv_aload_n hx hb d_Ref_anew_21 rfl (lv_at hl 1 rfl) ?_
  refine lv_iconst (v := 0) hx hb d_Ref_anew_22 (by decide) ?_
  refine va_put (D := (dC, dI)) (ci := 8) (v := .int 0) (ty := .boolean) (C := R_Ref) (T := F_Ref) (N := 48) hx hb hw i_Ref t_Ref t_Ref_ok n_Ref hown hK hP (dd_D hD rfl) hS 0 rfl rfl 14 (by decide) (hw _ m_913) (fun _ h9 => h9) rfl (by decide +kernel) (by decide) rfl (Nat.le_of_ble_eq_true rfl) d_Ref_anew_23 ?_
  clear hP hS locs H
  intro H locs (hP : va_P (dC, dI) classes [oc h0 8 [.int p0, .int p1, .ref h1, .ref h2, .ref h3, .ref h4, .ref h5, .ref h6, .ref h7, .ref h8, .ref h9, .ref h10, .ref h11, .ref h12, .int 0, .ref h13, .ref h14, .ref h15, .ref h16, .int p3, .int p4, .ref h17, .ref h18, .ref h19, .int p5, .ref h20, .int p6, .int p7, .ref h21, .ref h22, .ref h23, .ref h24, .ref h25, .ref h26, .ref h27, .ref h28, .int p8, .int p9, .ref h29, .ref h30, .ref h31, .ref h32, .ref h33, .ref h34, .ref h35, .ref h36, .int p10, .ref h37], ia h6 k5 8 (upd (upd (upd (upd (upd (upd (upd (upd f5 0 0) 1 0) 2 0) 3 0) 4 0) 5 0) 6 0) 7 0)] H) _ hS
  refine tp_pc (pc' := 26) (by rfl) ?_
  obtain ⟨hP9, hD9, -⟩ := cut3 (wc := [oc h0 8 [.int p0, .int p1, .ref h1, .ref h2, .ref h3, .ref h4, .ref h5, .ref h6, .ref h7, .ref h8, .ref h9, .ref h10, .ref h11, .ref h12, .int 0, .ref h13, .ref h14, .ref h15, .ref h16, .int p3, .int p4, .ref h17, .ref h18, .ref h19, .int p5, .ref h20, .int p6, .int p7, .ref h21, .ref h22, .ref h23, .ref h24, .ref h25, .ref h26, .ref h27, .ref h28, .int p8, .int p9, .ref h29, .ref h30, .ref h31, .ref h32, .ref h33, .ref h34, .ref h35, .ref h36, .int p10, .ref h37], ia h6 k5 8 (upd (upd (upd (upd (upd (upd (upd (upd f5 0 0) 1 0) 2 0) 3 0) 4 0) 5 0) 6 0) 7 0)]) hP hD rfl hS hA [0, 1] (by decide +kernel) rfl
  have hK9 := hK.sub (tys' := []) [] rfl
  refine W.widen (k := 0) (n := 0) (by exact Nat.le_of_ble_eq_true rfl) (by exact Nat.le_of_ble_eq_true rfl) ?_
  exact W.vret hx hb hr (fun t ht hW => ⟨⟨(), rfl, trivial, by rw [ht]; exact hP9, va_K.moved hW.alike hK9, hD9⟩, hS.F ht⟩) hS.2.2 d_Ref_anew_26
set_option maxHeartbeats 4000000 in
set_option maxRecDepth 100000 in
theorem c_Ref_thread (l : Launch) (dC : Nat → ClassId) (dI : Nat → Nat → Nat) (h0 : Nat) (p1 : Int32) (h1 : Nat) (h2 : Nat) (h3 : Nat) (h4 : Nat) (h5 : Nat) (h6 : Nat) (h7 : Nat) (h8 : Nat) (h9 : Nat) (h10 : Nat) (h11 : Nat) (h12 : Nat) (p2 : Int32) (h13 : Nat) (h14 : Nat) (h15 : Nat) (h16 : Nat) (p3 : Int32) (p4 : Int32) (h17 : Nat) (h18 : Nat) (h19 : Nat) (p5 : Int32) (h20 : Nat) (p6 : Int32) (p7 : Int32) (h21 : Nat) (h22 : Nat) (h23 : Nat) (h24 : Nat) (h25 : Nat) (h26 : Nat) (h27 : Nat) (h28 : Nat) (p8 : Int32) (p9 : Int32) (h29 : Nat) (h30 : Nat) (h31 : Nat) (h32 : Nat) (h33 : Nat) (h34 : Nat) (h35 : Nat) (h36 : Nat) (p10 : Int32) (h37 : Nat) (k0 : ClassId) (f0 : Nat → Int32) (k5 : ClassId) (f5 : Nat → Int32) (sz : Nat) : Met l y_Ref_thread w_Ref_thread ({ frames := 1, cells := 0, slots := 0, locals := 21 }) (va_Pc [.ref h0] (fun U => U.heap.size = sz ∧ va_P (dC, dI) classes [oc h0 8 [.int 0, .int p1, .ref h1, .ref h2, .ref h3, .ref h4, .ref h5, .ref h6, .ref h7, .ref h8, .ref h9, .ref h10, .ref h11, .ref h12, .int p2, .ref h13, .ref h14, .ref h15, .ref h16, .int p3, .int p4, .ref h17, .ref h18, .ref h19, .int p5, .ref h20, .int p6, .int p7, .ref h21, .ref h22, .ref h23, .ref h24, .ref h25, .ref h26, .ref h27, .ref h28, .int p8, .int p9, .ref h29, .ref h30, .ref h31, .ref h32, .ref h33, .ref h34, .ref h35, .ref h36, .int p10, .ref h37], ia h1 k0 4 f0, ia h6 k5 8 f5] U.heap ∧ va_K (dC, dI) classes [(k0, .int), (k5, .boolean)] U ∧ va_D (fun _ => True) [oc h0 8 [.int 0, .int p1, .ref h1, .ref h2, .ref h3, .ref h4, .ref h5, .ref h6, .ref h7, .ref h8, .ref h9, .ref h10, .ref h11, .ref h12, .int p2, .ref h13, .ref h14, .ref h15, .ref h16, .int p3, .int p4, .ref h17, .ref h18, .ref h19, .int p5, .ref h20, .int p6, .int p7, .ref h21, .ref h22, .ref h23, .ref h24, .ref h25, .ref h26, .ref h27, .ref h28, .int p8, .int p9, .ref h29, .ref h30, .ref h31, .ref h32, .ref h33, .ref h34, .ref h35, .ref h36, .int p10, .ref h37], ia h1 k0 4 f0, ia h6 k5 8 f5] ∧ nw U)) (va_Qi (fun (r : Int32) (_ : Unit) => r = 0) (fun _ t => va_P (dC, dI) classes [] t.heap ∧ va_K (dC, dI) classes [] t ∧ va_D (va_A [oc h0 8 [.int 0, .int p1, .ref h1, .ref h2, .ref h3, .ref h4, .ref h5, .ref h6, .ref h7, .ref h8, .ref h9, .ref h10, .ref h11, .ref h12, .int p2, .ref h13, .ref h14, .ref h15, .ref h16, .int p3, .int p4, .ref h17, .ref h18, .ref h19, .int p5, .ref h20, .int p6, .int p7, .ref h21, .ref h22, .ref h23, .ref h24, .ref h25, .ref h26, .ref h27, .ref h28, .int p8, .int p9, .ref h29, .ref h30, .ref h31, .ref h32, .ref h33, .ref h34, .ref h35, .ref h36, .int p10, .ref h37], ia h1 k0 4 f0, ia h6 k5 8 f5] sz) []) (va_A [oc h0 8 [.int 0, .int p1, .ref h1, .ref h2, .ref h3, .ref h4, .ref h5, .ref h6, .ref h7, .ref h8, .ref h9, .ref h10, .ref h11, .ref h12, .int p2, .ref h13, .ref h14, .ref h15, .ref h16, .int p3, .int p4, .ref h17, .ref h18, .ref h19, .int p5, .ref h20, .int p6, .int p7, .ref h21, .ref h22, .ref h23, .ref h24, .ref h25, .ref h26, .ref h27, .ref h28, .int p8, .int p9, .ref h29, .ref h30, .ref h31, .ref h32, .ref h33, .ref h34, .ref h35, .ref h36, .int p10, .ref h37], ia h1 k0 4 f0, ia h6 k5 8 f5] sz)) 0 0 (va_A [oc h0 8 [.int 0, .int p1, .ref h1, .ref h2, .ref h3, .ref h4, .ref h5, .ref h6, .ref h7, .ref h8, .ref h9, .ref h10, .ref h11, .ref h12, .int p2, .ref h13, .ref h14, .ref h15, .ref h16, .int p3, .int p4, .ref h17, .ref h18, .ref h19, .int p5, .ref h20, .int p6, .int p7, .ref h21, .ref h22, .ref h23, .ref h24, .ref h25, .ref h26, .ref h27, .ref h28, .int p8, .int p9, .ref h29, .ref h30, .ref h31, .ref h32, .ref h33, .ref h34, .ref h35, .ref h36, .int p10, .ref h37], ia h1 k0 4 f0, ia h6 k5 8 f5] sz) := by
  refine Met.ofW (cc := b_Ref_thread) (maxL := 1) (ret := (some .int)) (by decide) rfl ?_
  intro p e s m args below meth c s₁ B hml hv
  obtain ⟨rfl, hsz, hP, hK, hD0, hn⟩ := hv
  have hx := B.exec
  have hb := B.bytes
  have hr := B.returns
  have hw := fun w (h : w ∈ wt) => atoms_spec (ws := w_Ref_thread) B.pre w (List.mem_cons_of_mem _ h)
  have hown : s.vm.findClass R_Ref = some m.cls := findClass_of_methodNamed B.named
  have hlocks := B.notSynchronized
  subst hsz
  have hD1 := hD0.self (sz := s.heap.size)
  generalize hAe : va_A [oc h0 8 [.int 0, .int p1, .ref h1, .ref h2, .ref h3, .ref h4, .ref h5, .ref h6, .ref h7, .ref h8, .ref h9, .ref h10, .ref h11, .ref h12, .int p2, .ref h13, .ref h14, .ref h15, .ref h16, .int p3, .int p4, .ref h17, .ref h18, .ref h19, .int p5, .ref h20, .int p6, .int p7, .ref h21, .ref h22, .ref h23, .ref h24, .ref h25, .ref h26, .ref h27, .ref h28, .int p8, .int p9, .ref h29, .ref h30, .ref h31, .ref h32, .ref h33, .ref h34, .ref h35, .ref h36, .int p10, .ref h37], ia h1 k0 4 f0, ia h6 k5 8 f5] s.heap.size = A at hD1 ⊢
  have hA : ∀ q : Nat, s.heap.size ≤ q → A q := fun q h => by rw [← hAe]; exact Or.inr h
  have hD : dd A [h0, h1, h6] := dd_of hD1 rfl
  clear hAe hD0 hD1
  have hS : va_S A s.heap s.heap [] := va_S.rf
  replace hP : va_P (dC, dI) classes [oc h0 8 [.int 0, .int p1, .ref h1, .ref h2, .ref h3, .ref h4, .ref h5, .ref h6, .ref h7, .ref h8, .ref h9, .ref h10, .ref h11, .ref h12, .int p2, .ref h13, .ref h14, .ref h15, .ref h16, .int p3, .int p4, .ref h17, .ref h18, .ref h19, .int p5, .ref h20, .int p6, .int p7, .ref h21, .ref h22, .ref h23, .ref h24, .ref h25, .ref h26, .ref h27, .ref h28, .int p8, .int p9, .ref h29, .ref h30, .ref h31, .ref h32, .ref h33, .ref h34, .ref h35, .ref h36, .int p10, .ref h37], ia h1 k0 4 f0, ia h6 k5 8 f5] s.heap := hP
  have hl := lv_entry ([.ref h0]) (n := 1) (Nat.le_of_ble_eq_true rfl)
  rw [lg_entry_eq]
  generalize (lg_sl ([.ref h0]) ++ List.replicate (1 - (lg_sl ([.ref h0])).length) Slot.unset).toArray = ls at hl ⊢
  replace hl : lv_has ls 1 [(0, .ref h0)] := hl
  refine lv_aload_n hx hb d_Ref_thread_0 rfl (lv_at hl 0 rfl) ?_
  refine va_get (D := (dC, dI)) (ci := 8) (v := .int 0) (C := R_Ref) (T := F_Ref) (N := 48) hx hb hw i_Ref hown hK hP 0 rfl rfl 0 (by decide) (hw _ m_899) (fun _ h9 => h9) rfl d_Ref_thread_1 ?_
  refine lv_iconst (v := 4) hx hb d_Ref_thread_4 (by decide) ?_
  refine lv_icmp_ne (tgt := 10) hx hb d_Ref_thread_5 (by decide) (fun c_1 => ?_) (fun c_1 => absurd c_1 (by decide))
  refine tp_pc (pc' := 10) (by rfl) ?_
  refine lv_aload_n hx hb d_Ref_thread_10 rfl (lv_at hl 0 rfl) ?_
  refine va_get (D := (dC, dI)) (ci := 8) (v := .ref h1) (C := R_Ref) (T := F_Ref) (N := 48) hx hb hw i_Ref hown hK hP 0 rfl rfl 2 (by decide) (hw _ m_901) (fun _ h9 => h9) rfl d_Ref_thread_11 ?_
  refine lv_aload_n hx hb d_Ref_thread_14 rfl (lv_at hl 0 rfl) ?_
  refine va_get (D := (dC, dI)) (ci := 8) (v := .int 0) (C := R_Ref) (T := F_Ref) (N := 48) hx hb hw i_Ref hown hK hP 0 rfl rfl 0 (by decide) (hw _ m_899) (fun _ h9 => h9) rfl d_Ref_thread_15 ?_
  refine lv_iconst (v := 0) hx hb d_Ref_thread_18 (by decide) ?_
  refine va_iast (D := (dC, dI)) hx hb hK hP (dd_D hD rfl) hS 1 0 rfl rfl (i := 0) (x := 0) (vp_c (by decide)) d_Ref_thread_19 ?_
  clear hP hS
  intro H locs (hP : va_P (dC, dI) classes [oc h0 8 [.int 0, .int p1, .ref h1, .ref h2, .ref h3, .ref h4, .ref h5, .ref h6, .ref h7, .ref h8, .ref h9, .ref h10, .ref h11, .ref h12, .int p2, .ref h13, .ref h14, .ref h15, .ref h16, .int p3, .int p4, .ref h17, .ref h18, .ref h19, .int p5, .ref h20, .int p6, .int p7, .ref h21, .ref h22, .ref h23, .ref h24, .ref h25, .ref h26, .ref h27, .ref h28, .int p8, .int p9, .ref h29, .ref h30, .ref h31, .ref h32, .ref h33, .ref h34, .ref h35, .ref h36, .int p10, .ref h37], ia h1 k0 4 (upd f0 0 0), ia h6 k5 8 f5] H) _ hS
  refine tp_pc (pc' := 20) (by rfl) ?_
  refine lv_aload_n hx hb d_Ref_thread_20 rfl (lv_at hl 0 rfl) ?_
  refine lv_dup hx hb d_Ref_thread_21 rfl ?_
  refine va_get (D := (dC, dI)) (ci := 8) (v := .int 0) (C := R_Ref) (T := F_Ref) (N := 48) hx hb hw i_Ref hown hK hP 0 rfl rfl 0 (by decide) (hw _ m_899) (fun _ h9 => h9) rfl d_Ref_thread_22 ?_
  refine lv_iconst (v := 1) hx hb d_Ref_thread_25 (by decide) ?_
  refine lv_iadd hx hb d_Ref_thread_26 ?_
  refine tp_i (y := 1) (by first | rfl | decide) ?_
  refine va_put (D := (dC, dI)) (ci := 8) (v := .int 1) (ty := .int) (C := R_Ref) (T := F_Ref) (N := 48) hx hb hw i_Ref t_Ref t_Ref_ok n_Ref hown hK hP (dd_D hD rfl) hS 0 rfl rfl 0 (by decide) (hw _ m_899) (fun _ h9 => h9) rfl (by decide +kernel) rfl rfl (Nat.le_of_ble_eq_true rfl) d_Ref_thread_27 ?_
  clear hP hS locs H
  intro H locs (hP : va_P (dC, dI) classes [oc h0 8 [.int 1, .int p1, .ref h1, .ref h2, .ref h3, .ref h4, .ref h5, .ref h6, .ref h7, .ref h8, .ref h9, .ref h10, .ref h11, .ref h12, .int p2, .ref h13, .ref h14, .ref h15, .ref h16, .int p3, .int p4, .ref h17, .ref h18, .ref h19, .int p5, .ref h20, .int p6, .int p7, .ref h21, .ref h22, .ref h23, .ref h24, .ref h25, .ref h26, .ref h27, .ref h28, .int p8, .int p9, .ref h29, .ref h30, .ref h31, .ref h32, .ref h33, .ref h34, .ref h35, .ref h36, .int p10, .ref h37], ia h1 k0 4 (upd f0 0 0), ia h6 k5 8 f5] H) _ hS
  refine tp_pc (pc' := 30) (by rfl) ?_
  refine lv_aload_n hx hb d_Ref_thread_30 rfl (lv_at hl 0 rfl) ?_
  obtain ⟨hPc, hDc, hFc⟩ := cut3 (wc := [oc h0 8 [.int 1, .int p1, .ref h1, .ref h2, .ref h3, .ref h4, .ref h5, .ref h6, .ref h7, .ref h8, .ref h9, .ref h10, .ref h11, .ref h12, .int p2, .ref h13, .ref h14, .ref h15, .ref h16, .int p3, .int p4, .ref h17, .ref h18, .ref h19, .int p5, .ref h20, .int p6, .int p7, .ref h21, .ref h22, .ref h23, .ref h24, .ref h25, .ref h26, .ref h27, .ref h28, .int p8, .int p9, .ref h29, .ref h30, .ref h31, .ref h32, .ref h33, .ref h34, .ref h35, .ref h36, .int p10, .ref h37], ia h6 k5 8 f5]) hP hD rfl hS hA [0, 2] (by decide +kernel) rfl
  have hKc := hK.sub (tys' := [(k5, .boolean)]) [1] rfl
  refine va_callv (va_runV (As := []) (rest := []) ⟨hx, hb, hml, hown, hw⟩ (c_Ref_anew l dC dI h0 1 p1 h1 h2 h3 h4 h5 h6 h7 h8 h9 h10 h11 h12 p2 h13 h14 h15 h16 p3 p4 h17 h18 h19 p5 h20 p6 p7 h21 h22 h23 h24 h25 h26 h27 h28 p8 p9 h29 h30 h31 h32 h33 h34 h35 h36 p10 h37 k5 f5 H.size) (cw_V 0 hw g_Ref_anew rfl rfl rfl (hw _ m_109) (hw _ m_1050) (hw _ m_1052) (hw _ m_51) (by decide +kernel) ⟨Nat.le_of_ble_eq_true rfl, Nat.le_of_ble_eq_true rfl⟩) ⟨fun a U g mk q => by obtain ⟨q0, q1, qP, qK, qD, qN⟩ := q; exact ⟨q0, q1, qP, va_K.moved (u := U) (U := U.calling g mk a) (Vm.Alike.refl U.vm) qK, qD, nw_call qN⟩, va_recv hKc hPc (ci := 8) (q0 := 0) rfl rfl, fun U hU hW => ⟨rfl, by rw [hU], by rw [hU]; exact hPc, va_K.moved hW.alike hKc, hDc.weaken (fun _ _ _ _ => trivial), nw_warm hW hn⟩⟩ rfl rfl hl.1 rfl (lv_room (Nat.le_of_ble_eq_true rfl)) d_Ref_thread_31 ⟨Nat.le_of_ble_eq_true rfl, Nat.le_of_ble_eq_true rfl⟩) hS (fun q _ h => hFc q h) hFc ?_
  intro u t H1 locs1 ht hvm hw1 hB hz1 hk1 hS1
  obtain ⟨hP1, hK1, hD1⟩ := hB
  rw [ht] at hP1
  replace hK1 := va_K.moved hvm.symm hK1
  have hPD := join3 hP hD rfl [0, 2] [1] rfl (by rfl) (by decide +kernel) (by decide +kernel) hk1 hFc hP1 hD1
  replace hK : va_K (dC, dI) classes [(k0, .int), (k5, .boolean)] s := hK.app hK1
  clear hP1 hK1 hD1 hk1 hz1 hFc hKc hDc hPc hvm ht hP hS t locs H
  have hP : va_P (dC, dI) classes [ia h1 k0 4 (upd f0 0 0), oc h0 8 [.int 1, .int p1, .ref h1, .ref h2, .ref h3, .ref h4, .ref h5, .ref h6, .ref h7, .ref h8, .ref h9, .ref h10, .ref h11, .ref h12, .int 0, .ref h13, .ref h14, .ref h15, .ref h16, .int p3, .int p4, .ref h17, .ref h18, .ref h19, .int p5, .ref h20, .int p6, .int p7, .ref h21, .ref h22, .ref h23, .ref h24, .ref h25, .ref h26, .ref h27, .ref h28, .int p8, .int p9, .ref h29, .ref h30, .ref h31, .ref h32, .ref h33, .ref h34, .ref h35, .ref h36, .int p10, .ref h37], ia h6 k5 8 (upd (upd (upd (upd (upd (upd (upd (upd f5 0 0) 1 0) 2 0) 3 0) 4 0) 5 0) 6 0) 7 0)] H1 := hPD.1
  replace hD : dd A [h1, h0, h6] := dd_of hPD.2 rfl
  clear hPD
  revert H1 locs1
  intro H locs hS hP
  clear hw1 u
  refine tp_pc (pc' := 34) (by rfl) ?_
  refine lv_aload_n hx hb d_Ref_thread_34 rfl (lv_at hl 0 rfl) ?_
  refine va_get (D := (dC, dI)) (ci := 8) (v := .int 1) (C := R_Ref) (T := F_Ref) (N := 48) hx hb hw i_Ref hown hK hP 1 rfl rfl 0 (by decide) (hw _ m_899) (fun _ h9 => h9) rfl d_Ref_thread_35 ?_
  refine lv_iconst (v := 1) hx hb d_Ref_thread_38 (by decide) ?_
  refine lv_isub hx hb d_Ref_thread_39 ?_
  refine tp_i (y := 0) (by first | rfl | decide) ?_
  obtain ⟨hP9, hD9, -⟩ := cut3 (wc := []) hP hD rfl hS hA [] (by decide +kernel) rfl
  have hK9 := hK.sub (tys' := []) [] rfl
  refine W.widen (k := 0) (n := 0) (by exact Nat.le_of_ble_eq_true rfl) (by exact Nat.le_of_ble_eq_true rfl) ?_
  exact W.iret (v := 0) hx hb hr (fun t ht hW => ⟨⟨0, (), rfl, rfl, by rw [ht]; exact hP9, va_K.moved hW.alike hK9, hD9⟩, hS.F ht⟩) hS.2.2 d_Ref_thread_40
set_option maxHeartbeats 4000000 in
set_option maxRecDepth 100000 in
theorem c_Ref_action (l : Launch) (dC : Nat → ClassId) (dI : Nat → Nat → Nat) (h0 : Nat) (p0 : Int32) (p1 : Int32) (p2 : Int32) (p3 : Int32) (p4 : Int32) (p6 : Int32) (h1 : Nat) (h2 : Nat) (h3 : Nat) (h4 : Nat) (h5 : Nat) (h6 : Nat) (h7 : Nat) (h8 : Nat) (h9 : Nat) (h10 : Nat) (h11 : Nat) (h12 : Nat) (p7 : Int32) (h13 : Nat) (h14 : Nat) (h15 : Nat) (h16 : Nat) (p8 : Int32) (p9 : Int32) (h17 : Nat) (h18 : Nat) (h19 : Nat) (p10 : Int32) (h20 : Nat) (p11 : Int32) (p12 : Int32) (h21 : Nat) (h22 : Nat) (h23 : Nat) (h24 : Nat) (h25 : Nat) (h26 : Nat) (h27 : Nat) (h28 : Nat) (p13 : Int32) (p14 : Int32) (h29 : Nat) (h30 : Nat) (h31 : Nat) (h32 : Nat) (h33 : Nat) (h34 : Nat) (h35 : Nat) (h36 : Nat) (p15 : Int32) (h37 : Nat) (sz : Nat) : Met l y_Ref_action w_Ref_action ({ frames := 0, cells := 0, slots := 0, locals := 0 }) (va_Pc [.ref h0, .int p0, .int p1, .int p2, .int p3, .int p4] (fun U => U.heap.size = sz ∧ va_P (dC, dI) classes [oc h0 8 [.int 0, .int p6, .ref h1, .ref h2, .ref h3, .ref h4, .ref h5, .ref h6, .ref h7, .ref h8, .ref h9, .ref h10, .ref h11, .ref h12, .int p7, .ref h13, .ref h14, .ref h15, .ref h16, .int p8, .int p9, .ref h17, .ref h18, .ref h19, .int p10, .ref h20, .int p11, .int p12, .ref h21, .ref h22, .ref h23, .ref h24, .ref h25, .ref h26, .ref h27, .ref h28, .int p13, .int p14, .ref h29, .ref h30, .ref h31, .ref h32, .ref h33, .ref h34, .ref h35, .ref h36, .int p15, .ref h37]] U.heap ∧ va_K (dC, dI) classes [] U ∧ va_D (fun _ => True) [oc h0 8 [.int 0, .int p6, .ref h1, .ref h2, .ref h3, .ref h4, .ref h5, .ref h6, .ref h7, .ref h8, .ref h9, .ref h10, .ref h11, .ref h12, .int p7, .ref h13, .ref h14, .ref h15, .ref h16, .int p8, .int p9, .ref h17, .ref h18, .ref h19, .int p10, .ref h20, .int p11, .int p12, .ref h21, .ref h22, .ref h23, .ref h24, .ref h25, .ref h26, .ref h27, .ref h28, .int p13, .int p14, .ref h29, .ref h30, .ref h31, .ref h32, .ref h33, .ref h34, .ref h35, .ref h36, .int p15, .ref h37]] ∧ nw U)) (va_Qi (fun (r : Int32) (_ : Unit) => r = (-1)) (fun _ t => va_P (dC, dI) classes [] t.heap ∧ va_K (dC, dI) classes [] t ∧ va_D (va_A [oc h0 8 [.int 0, .int p6, .ref h1, .ref h2, .ref h3, .ref h4, .ref h5, .ref h6, .ref h7, .ref h8, .ref h9, .ref h10, .ref h11, .ref h12, .int p7, .ref h13, .ref h14, .ref h15, .ref h16, .int p8, .int p9, .ref h17, .ref h18, .ref h19, .int p10, .ref h20, .int p11, .int p12, .ref h21, .ref h22, .ref h23, .ref h24, .ref h25, .ref h26, .ref h27, .ref h28, .int p13, .int p14, .ref h29, .ref h30, .ref h31, .ref h32, .ref h33, .ref h34, .ref h35, .ref h36, .int p15, .ref h37]] sz) []) (va_A [oc h0 8 [.int 0, .int p6, .ref h1, .ref h2, .ref h3, .ref h4, .ref h5, .ref h6, .ref h7, .ref h8, .ref h9, .ref h10, .ref h11, .ref h12, .int p7, .ref h13, .ref h14, .ref h15, .ref h16, .int p8, .int p9, .ref h17, .ref h18, .ref h19, .int p10, .ref h20, .int p11, .int p12, .ref h21, .ref h22, .ref h23, .ref h24, .ref h25, .ref h26, .ref h27, .ref h28, .int p13, .int p14, .ref h29, .ref h30, .ref h31, .ref h32, .ref h33, .ref h34, .ref h35, .ref h36, .int p15, .ref h37]] sz)) 0 0 (va_A [oc h0 8 [.int 0, .int p6, .ref h1, .ref h2, .ref h3, .ref h4, .ref h5, .ref h6, .ref h7, .ref h8, .ref h9, .ref h10, .ref h11, .ref h12, .int p7, .ref h13, .ref h14, .ref h15, .ref h16, .int p8, .int p9, .ref h17, .ref h18, .ref h19, .int p10, .ref h20, .int p11, .int p12, .ref h21, .ref h22, .ref h23, .ref h24, .ref h25, .ref h26, .ref h27, .ref h28, .int p13, .int p14, .ref h29, .ref h30, .ref h31, .ref h32, .ref h33, .ref h34, .ref h35, .ref h36, .int p15, .ref h37]] sz) := by
  refine Met.ofW (cc := b_Ref_action) (maxL := 8) (ret := (some .int)) (by decide) rfl ?_
  intro p e s m args below meth c s₁ B hml hv
  obtain ⟨rfl, hsz, hP, hK, hD0, hn⟩ := hv
  have hx := B.exec
  have hb := B.bytes
  have hr := B.returns
  have hw := fun w (h : w ∈ wt) => atoms_spec (ws := w_Ref_action) B.pre w (List.mem_cons_of_mem _ h)
  have hown : s.vm.findClass R_Ref = some m.cls := findClass_of_methodNamed B.named
  have hlocks := B.notSynchronized
  subst hsz
  have hD1 := hD0.self (sz := s.heap.size)
  generalize hAe : va_A [oc h0 8 [.int 0, .int p6, .ref h1, .ref h2, .ref h3, .ref h4, .ref h5, .ref h6, .ref h7, .ref h8, .ref h9, .ref h10, .ref h11, .ref h12, .int p7, .ref h13, .ref h14, .ref h15, .ref h16, .int p8, .int p9, .ref h17, .ref h18, .ref h19, .int p10, .ref h20, .int p11, .int p12, .ref h21, .ref h22, .ref h23, .ref h24, .ref h25, .ref h26, .ref h27, .ref h28, .int p13, .int p14, .ref h29, .ref h30, .ref h31, .ref h32, .ref h33, .ref h34, .ref h35, .ref h36, .int p15, .ref h37]] s.heap.size = A at hD1 ⊢
  have hA : ∀ q : Nat, s.heap.size ≤ q → A q := fun q h => by rw [← hAe]; exact Or.inr h
  have hD : dd A [h0] := dd_of hD1 rfl
  clear hAe hD0 hD1
  have hS : va_S A s.heap s.heap [] := va_S.rf
  replace hP : va_P (dC, dI) classes [oc h0 8 [.int 0, .int p6, .ref h1, .ref h2, .ref h3, .ref h4, .ref h5, .ref h6, .ref h7, .ref h8, .ref h9, .ref h10, .ref h11, .ref h12, .int p7, .ref h13, .ref h14, .ref h15, .ref h16, .int p8, .int p9, .ref h17, .ref h18, .ref h19, .int p10, .ref h20, .int p11, .int p12, .ref h21, .ref h22, .ref h23, .ref h24, .ref h25, .ref h26, .ref h27, .ref h28, .int p13, .int p14, .ref h29, .ref h30, .ref h31, .ref h32, .ref h33, .ref h34, .ref h35, .ref h36, .int p15, .ref h37]] s.heap := hP
  have hl := lv_entry ([.ref h0, .int p0, .int p1, .int p2, .int p3, .int p4]) (n := 8) (Nat.le_of_ble_eq_true rfl)
  rw [lg_entry_eq]
  generalize (lg_sl ([.ref h0, .int p0, .int p1, .int p2, .int p3, .int p4]) ++ List.replicate (8 - (lg_sl ([.ref h0, .int p0, .int p1, .int p2, .int p3, .int p4])).length) Slot.unset).toArray = ls at hl ⊢
  replace hl : lv_has ls 8 [(0, .ref h0), (1, .int p0), (2, .int p1), (3, .int p2), (4, .int p3), (5, .int p4)] := hl
  refine lv_iload_n hx hb d_Ref_action_0 rfl (lv_at hl 1 rfl) ?_
  refine lv_if_lt (tgt := 30) hx hb d_Ref_action_1 (by decide) (fun c_1 => ?_) (fun c_1 => ?_)
  · skip
    refine lv_iconst (v := (-1)) hx hb d_Ref_action_30 (by decide) ?_
    obtain ⟨hP9, hD9, -⟩ := cut3 (wc := []) hP hD rfl hS hA [] (by decide +kernel) rfl
    have hK9 := hK.sub (tys' := []) [] rfl
    refine W.widen (k := 0) (n := 0) (by exact Nat.le_of_ble_eq_true rfl) (by exact Nat.le_of_ble_eq_true rfl) ?_
    exact W.iret (v := (-1)) hx hb hr (fun t ht hW => ⟨⟨(-1), (), rfl, rfl, by rw [ht]; exact hP9, va_K.moved hW.alike hK9, hD9⟩, hS.F ht⟩) hS.2.2 d_Ref_action_31
  · skip
    refine lv_iload_n hx hb d_Ref_action_4 rfl (lv_at hl 1 rfl) ?_
    refine lv_aload_n hx hb d_Ref_action_5 rfl (lv_at hl 0 rfl) ?_
    refine va_get (D := (dC, dI)) (ci := 8) (v := .int 0) (C := R_Ref) (T := F_Ref) (N := 48) hx hb hw i_Ref hown hK hP 0 rfl rfl 0 (by decide) (hw _ m_899) (fun _ h9 => h9) rfl d_Ref_action_6 ?_
    refine lv_icmp_ge (tgt := 30) hx hb d_Ref_action_9 (by decide) (fun c_2 => ?_) (fun c_2 => ?_)
    · skip
      refine lv_iconst (v := (-1)) hx hb d_Ref_action_30 (by decide) ?_
      obtain ⟨hP9, hD9, -⟩ := cut3 (wc := []) hP hD rfl hS hA [] (by decide +kernel) rfl
      have hK9 := hK.sub (tys' := []) [] rfl
      refine W.widen (k := 0) (n := 0) (by exact Nat.le_of_ble_eq_true rfl) (by exact Nat.le_of_ble_eq_true rfl) ?_
      exact W.iret (v := (-1)) hx hb hr (fun t ht hW => ⟨⟨(-1), (), rfl, rfl, by rw [ht]; exact hP9, va_K.moved hW.alike hK9, hD9⟩, hS.F ht⟩) hS.2.2 d_Ref_action_31
    · skip
      exfalso
      simp only [Int32.lt_iff_toInt_lt, Int32.le_iff_toInt_le, ← Int32.toInt_inj] at c_1 c_2
      have k0 : (0 : Int32).toInt = 0 := by decide
      omega
set_option maxHeartbeats 4000000 in
set_option maxRecDepth 100000 in
theorem c_Ref_clear (l : Launch) (dC : Nat → ClassId) (dI : Nat → Nat → Nat) (h0 : Nat) (p0 : Int32) (p1 : Int32) (h1 : Nat) (h2 : Nat) (h3 : Nat) (h4 : Nat) (h5 : Nat) (h6 : Nat) (h7 : Nat) (h8 : Nat) (h9 : Nat) (h10 : Nat) (h11 : Nat) (h12 : Nat) (p2 : Int32) (h13 : Nat) (h14 : Nat) (h15 : Nat) (h16 : Nat) (p3 : Int32) (p4 : Int32) (h17 : Nat) (h18 : Nat) (h19 : Nat) (p5 : Int32) (h20 : Nat) (p6 : Int32) (p7 : Int32) (h21 : Nat) (h22 : Nat) (h23 : Nat) (h24 : Nat) (h25 : Nat) (h26 : Nat) (h27 : Nat) (h28 : Nat) (p8 : Int32) (p9 : Int32) (h29 : Nat) (h30 : Nat) (h31 : Nat) (h32 : Nat) (h33 : Nat) (h34 : Nat) (h35 : Nat) (h36 : Nat) (p10 : Int32) (h37 : Nat) (k5 : ClassId) (f5 : Nat → Int32) (sz : Nat) : Met l y_Ref_clear w_Ref_clear ({ frames := 1, cells := 0, slots := 0, locals := 21 }) (va_Pc [.ref h0] (fun U => U.heap.size = sz ∧ va_P (dC, dI) classes [oc h0 8 [.int p0, .int p1, .ref h1, .ref h2, .ref h3, .ref h4, .ref h5, .ref h6, .ref h7, .ref h8, .ref h9, .ref h10, .ref h11, .ref h12, .int p2, .ref h13, .ref h14, .ref h15, .ref h16, .int p3, .int p4, .ref h17, .ref h18, .ref h19, .int p5, .ref h20, .int p6, .int p7, .ref h21, .ref h22, .ref h23, .ref h24, .ref h25, .ref h26, .ref h27, .ref h28, .int p8, .int p9, .ref h29, .ref h30, .ref h31, .ref h32, .ref h33, .ref h34, .ref h35, .ref h36, .int p10, .ref h37], ia h6 k5 8 f5] U.heap ∧ va_K (dC, dI) classes [(k5, .boolean)] U ∧ va_D (fun _ => True) [oc h0 8 [.int p0, .int p1, .ref h1, .ref h2, .ref h3, .ref h4, .ref h5, .ref h6, .ref h7, .ref h8, .ref h9, .ref h10, .ref h11, .ref h12, .int p2, .ref h13, .ref h14, .ref h15, .ref h16, .int p3, .int p4, .ref h17, .ref h18, .ref h19, .int p5, .ref h20, .int p6, .int p7, .ref h21, .ref h22, .ref h23, .ref h24, .ref h25, .ref h26, .ref h27, .ref h28, .int p8, .int p9, .ref h29, .ref h30, .ref h31, .ref h32, .ref h33, .ref h34, .ref h35, .ref h36, .int p10, .ref h37], ia h6 k5 8 f5] ∧ nw U)) (va_Qi (fun (r : Int32) (_ : Unit) => r = p0) (fun _ t => va_P (dC, dI) classes [] t.heap ∧ va_K (dC, dI) classes [] t ∧ va_D (va_A [oc h0 8 [.int p0, .int p1, .ref h1, .ref h2, .ref h3, .ref h4, .ref h5, .ref h6, .ref h7, .ref h8, .ref h9, .ref h10, .ref h11, .ref h12, .int p2, .ref h13, .ref h14, .ref h15, .ref h16, .int p3, .int p4, .ref h17, .ref h18, .ref h19, .int p5, .ref h20, .int p6, .int p7, .ref h21, .ref h22, .ref h23, .ref h24, .ref h25, .ref h26, .ref h27, .ref h28, .int p8, .int p9, .ref h29, .ref h30, .ref h31, .ref h32, .ref h33, .ref h34, .ref h35, .ref h36, .int p10, .ref h37], ia h6 k5 8 f5] sz) []) (va_A [oc h0 8 [.int p0, .int p1, .ref h1, .ref h2, .ref h3, .ref h4, .ref h5, .ref h6, .ref h7, .ref h8, .ref h9, .ref h10, .ref h11, .ref h12, .int p2, .ref h13, .ref h14, .ref h15, .ref h16, .int p3, .int p4, .ref h17, .ref h18, .ref h19, .int p5, .ref h20, .int p6, .int p7, .ref h21, .ref h22, .ref h23, .ref h24, .ref h25, .ref h26, .ref h27, .ref h28, .int p8, .int p9, .ref h29, .ref h30, .ref h31, .ref h32, .ref h33, .ref h34, .ref h35, .ref h36, .int p10, .ref h37], ia h6 k5 8 f5] sz)) 0 0 (va_A [oc h0 8 [.int p0, .int p1, .ref h1, .ref h2, .ref h3, .ref h4, .ref h5, .ref h6, .ref h7, .ref h8, .ref h9, .ref h10, .ref h11, .ref h12, .int p2, .ref h13, .ref h14, .ref h15, .ref h16, .int p3, .int p4, .ref h17, .ref h18, .ref h19, .int p5, .ref h20, .int p6, .int p7, .ref h21, .ref h22, .ref h23, .ref h24, .ref h25, .ref h26, .ref h27, .ref h28, .int p8, .int p9, .ref h29, .ref h30, .ref h31, .ref h32, .ref h33, .ref h34, .ref h35, .ref h36, .int p10, .ref h37], ia h6 k5 8 f5] sz) := by
  refine Met.ofW (cc := b_Ref_clear) (maxL := 2) (ret := (some .int)) (by decide) rfl ?_
  intro p e s m args below meth c s₁ B hml hv
  obtain ⟨rfl, hsz, hP, hK, hD0, hn⟩ := hv
  have hx := B.exec
  have hb := B.bytes
  have hr := B.returns
  have hw := fun w (h : w ∈ wt) => atoms_spec (ws := w_Ref_clear) B.pre w (List.mem_cons_of_mem _ h)
  have hown : s.vm.findClass R_Ref = some m.cls := findClass_of_methodNamed B.named
  have hlocks := B.notSynchronized
  subst hsz
  have hD1 := hD0.self (sz := s.heap.size)
  generalize hAe : va_A [oc h0 8 [.int p0, .int p1, .ref h1, .ref h2, .ref h3, .ref h4, .ref h5, .ref h6, .ref h7, .ref h8, .ref h9, .ref h10, .ref h11, .ref h12, .int p2, .ref h13, .ref h14, .ref h15, .ref h16, .int p3, .int p4, .ref h17, .ref h18, .ref h19, .int p5, .ref h20, .int p6, .int p7, .ref h21, .ref h22, .ref h23, .ref h24, .ref h25, .ref h26, .ref h27, .ref h28, .int p8, .int p9, .ref h29, .ref h30, .ref h31, .ref h32, .ref h33, .ref h34, .ref h35, .ref h36, .int p10, .ref h37], ia h6 k5 8 f5] s.heap.size = A at hD1 ⊢
  have hA : ∀ q : Nat, s.heap.size ≤ q → A q := fun q h => by rw [← hAe]; exact Or.inr h
  have hD : dd A [h0, h6] := dd_of hD1 rfl
  clear hAe hD0 hD1
  have hS : va_S A s.heap s.heap [] := va_S.rf
  replace hP : va_P (dC, dI) classes [oc h0 8 [.int p0, .int p1, .ref h1, .ref h2, .ref h3, .ref h4, .ref h5, .ref h6, .ref h7, .ref h8, .ref h9, .ref h10, .ref h11, .ref h12, .int p2, .ref h13, .ref h14, .ref h15, .ref h16, .int p3, .int p4, .ref h17, .ref h18, .ref h19, .int p5, .ref h20, .int p6, .int p7, .ref h21, .ref h22, .ref h23, .ref h24, .ref h25, .ref h26, .ref h27, .ref h28, .int p8, .int p9, .ref h29, .ref h30, .ref h31, .ref h32, .ref h33, .ref h34, .ref h35, .ref h36, .int p10, .ref h37], ia h6 k5 8 f5] s.heap := hP
  have hl := lv_entry ([.ref h0]) (n := 2) (Nat.le_of_ble_eq_true rfl)
  rw [lg_entry_eq]
  generalize (lg_sl ([.ref h0]) ++ List.replicate (2 - (lg_sl ([.ref h0])).length) Slot.unset).toArray = ls at hl ⊢
  replace hl : lv_has ls 2 [(0, .ref h0)] := hl
  refine lv_aload_n hx hb d_Ref_clear_0 rfl (lv_at hl 0 rfl) ?_
  refine va_get (D := (dC, dI)) (ci := 8) (v := .int p0) (C := R_Ref) (T := F_Ref) (N := 48) hx hb hw i_Ref hown hK hP 0 rfl rfl 0 (by decide) (hw _ m_899) (fun _ h9 => h9) rfl d_Ref_clear_1 ?_
  refine lv_istore_n (lv' := [(1, .int p0), (0, .ref h0)]) hx hb d_Ref_clear_4 rfl hl (by decide) rfl ?_
  clear hl ls
  intro ls hl
  refine lv_aload_n hx hb d_Ref_clear_5 rfl (lv_at hl 1 rfl) ?_
  refine lv_iconst (v := 0) hx hb d_Ref_clear_6 (by decide) ?_
  refine va_put (D := (dC, dI)) (ci := 8) (v := .int 0) (ty := .int) (C := R_Ref) (T := F_Ref) (N := 48) hx hb hw i_Ref t_Ref t_Ref_ok n_Ref hown hK hP (dd_D hD rfl) hS 0 rfl rfl 0 (by decide) (hw _ m_899) (fun _ h9 => h9) rfl (by decide +kernel) rfl rfl (Nat.le_of_ble_eq_true rfl) d_Ref_clear_7 ?_
  clear hP hS
  intro H locs (hP : va_P (dC, dI) classes [oc h0 8 [.int 0, .int p1, .ref h1, .ref h2, .ref h3, .ref h4, .ref h5, .ref h6, .ref h7, .ref h8, .ref h9, .ref h10, .ref h11, .ref h12, .int p2, .ref h13, .ref h14, .ref h15, .ref h16, .int p3, .int p4, .ref h17, .ref h18, .ref h19, .int p5, .ref h20, .int p6, .int p7, .ref h21, .ref h22, .ref h23, .ref h24, .ref h25, .ref h26, .ref h27, .ref h28, .int p8, .int p9, .ref h29, .ref h30, .ref h31, .ref h32, .ref h33, .ref h34, .ref h35, .ref h36, .int p10, .ref h37], ia h6 k5 8 f5] H) _ hS
  refine tp_pc (pc' := 10) (by rfl) ?_
  refine lv_aload_n hx hb d_Ref_clear_10 rfl (lv_at hl 1 rfl) ?_
  refine lv_iconst (v := 0) hx hb d_Ref_clear_11 (by decide) ?_
  refine va_put (D := (dC, dI)) (ci := 8) (v := .int 0) (ty := .int) (C := R_Ref) (T := F_Ref) (N := 48) hx hb hw i_Ref t_Ref t_Ref_ok n_Ref hown hK hP (dd_D hD rfl) hS 0 rfl rfl 1 (by decide) (hw _ m_900) (fun _ h9 => h9) rfl (by decide +kernel) rfl rfl (Nat.le_of_ble_eq_true rfl) d_Ref_clear_12 ?_
  clear hP hS locs H
  intro H locs (hP : va_P (dC, dI) classes [oc h0 8 [.int 0, .int 0, .ref h1, .ref h2, .ref h3, .ref h4, .ref h5, .ref h6, .ref h7, .ref h8, .ref h9, .ref h10, .ref h11, .ref h12, .int p2, .ref h13, .ref h14, .ref h15, .ref h16, .int p3, .int p4, .ref h17, .ref h18, .ref h19, .int p5, .ref h20, .int p6, .int p7, .ref h21, .ref h22, .ref h23, .ref h24, .ref h25, .ref h26, .ref h27, .ref h28, .int p8, .int p9, .ref h29, .ref h30, .ref h31, .ref h32, .ref h33, .ref h34, .ref h35, .ref h36, .int p10, .ref h37], ia h6 k5 8 f5] H) _ hS
  refine tp_pc (pc' := 15) (by rfl) ?_
  refine lv_aload_n hx hb d_Ref_clear_15 rfl (lv_at hl 1 rfl) ?_
  obtain ⟨hPc, hDc, hFc⟩ := cut3 (wc := [oc h0 8 [.int 0, .int 0, .ref h1, .ref h2, .ref h3, .ref h4, .ref h5, .ref h6, .ref h7, .ref h8, .ref h9, .ref h10, .ref h11, .ref h12, .int p2, .ref h13, .ref h14, .ref h15, .ref h16, .int p3, .int p4, .ref h17, .ref h18, .ref h19, .int p5, .ref h20, .int p6, .int p7, .ref h21, .ref h22, .ref h23, .ref h24, .ref h25, .ref h26, .ref h27, .ref h28, .int p8, .int p9, .ref h29, .ref h30, .ref h31, .ref h32, .ref h33, .ref h34, .ref h35, .ref h36, .int p10, .ref h37], ia h6 k5 8 f5]) hP hD rfl hS hA [0, 1] (by decide +kernel) rfl
  have hKc := hK.sub (tys' := [(k5, .boolean)]) [0] rfl
  refine va_callv (va_runV (As := []) (rest := []) ⟨hx, hb, hml, hown, hw⟩ (c_Ref_anew l dC dI h0 0 0 h1 h2 h3 h4 h5 h6 h7 h8 h9 h10 h11 h12 p2 h13 h14 h15 h16 p3 p4 h17 h18 h19 p5 h20 p6 p7 h21 h22 h23 h24 h25 h26 h27 h28 p8 p9 h29 h30 h31 h32 h33 h34 h35 h36 p10 h37 k5 f5 H.size) (cw_V 0 hw g_Ref_anew rfl rfl rfl (hw _ m_109) (hw _ m_1050) (hw _ m_1052) (hw _ m_51) (by decide +kernel) ⟨Nat.le_of_ble_eq_true rfl, Nat.le_of_ble_eq_true rfl⟩) ⟨fun a U g mk q => by obtain ⟨q0, q1, qP, qK, qD, qN⟩ := q; exact ⟨q0, q1, qP, va_K.moved (u := U) (U := U.calling g mk a) (Vm.Alike.refl U.vm) qK, qD, nw_call qN⟩, va_recv hKc hPc (ci := 8) (q0 := 0) rfl rfl, fun U hU hW => ⟨rfl, by rw [hU], by rw [hU]; exact hPc, va_K.moved hW.alike hKc, hDc.weaken (fun _ _ _ _ => trivial), nw_warm hW hn⟩⟩ rfl rfl hl.1 rfl (lv_room (Nat.le_of_ble_eq_true rfl)) d_Ref_clear_16 ⟨Nat.le_of_ble_eq_true rfl, Nat.le_of_ble_eq_true rfl⟩) hS (fun q _ h => hFc q h) hFc ?_
  intro u t H1 locs1 ht hvm hw1 hB hz1 hk1 hS1
  obtain ⟨hP1, hK1, hD1⟩ := hB
  rw [ht] at hP1
  replace hK1 := va_K.moved hvm.symm hK1
  have hPD := join3 hP hD rfl [0, 1] [] rfl (by rfl) (by decide +kernel) (by decide +kernel) hk1 hFc hP1 hD1
  replace hK : va_K (dC, dI) classes [(k5, .boolean)] s := hK.app hK1
  clear hP1 hK1 hD1 hk1 hz1 hFc hKc hDc hPc hvm ht hP hS t locs H
  have hP : va_P (dC, dI) classes [oc h0 8 [.int 0, .int 0, .ref h1, .ref h2, .ref h3, .ref h4, .ref h5, .ref h6, .ref h7, .ref h8, .ref h9, .ref h10, .ref h11, .ref h12, .int 0, .ref h13, .ref h14, .ref h15, .ref h16, .int p3, .int p4, .ref h17, .ref h18, .ref h19, .int p5, .ref h20, .int p6, .int p7, .ref h21, .ref h22, .ref h23, .ref h24, .ref h25, .ref h26, .ref h27, .ref h28, .int p8, .int p9, .ref h29, .ref h30, .ref h31, .ref h32, .ref h33, .ref h34, .ref h35, .ref h36, .int p10, .ref h37], ia h6 k5 8 (upd (upd (upd (upd (upd (upd (upd (upd f5 0 0) 1 0) 2 0) 3 0) 4 0) 5 0) 6 0) 7 0)] H1 := hPD.1
  replace hD : dd A [h0, h6] := dd_of hPD.2 rfl
  clear hPD
  revert H1 locs1
  intro H locs hS hP
  clear hw1 u
  refine tp_pc (pc' := 19) (by rfl) ?_
  refine lv_iload_n hx hb d_Ref_clear_19 rfl (lv_at hl 0 rfl) ?_
  obtain ⟨hP9, hD9, -⟩ := cut3 (wc := []) hP hD rfl hS hA [] (by decide +kernel) rfl
  have hK9 := hK.sub (tys' := []) [] rfl
  refine W.widen (k := 0) (n := 0) (by exact Nat.le_of_ble_eq_true rfl) (by exact Nat.le_of_ble_eq_true rfl) ?_
  exact W.iret (v := p0) hx hb hr (fun t ht hW => ⟨⟨p0, (), rfl, rfl, by rw [ht]; exact hP9, va_K.moved hW.alike hK9, hD9⟩, hS.F ht⟩) hS.2.2 d_Ref_clear_20
set_option maxHeartbeats 4000000 in
set_option maxRecDepth 100000 in
theorem c_Ref_isModel (l : Launch) (dC : Nat → ClassId) (dI : Nat → Nat → Nat) (sz : Nat) : Met l y_Ref_isModel w_Ref_isModel ({ frames := 0, cells := 0, slots := 0, locals := 0 }) (va_Pc [.int 0] (fun U => U.heap.size = sz ∧ va_P (dC, dI) classes [] U.heap ∧ va_K (dC, dI) classes [] U ∧ va_D (fun _ => True) [] ∧ nw U)) (va_Qi (fun (r : Int32) (_ : Unit) => r = 1) (fun _ t => va_P (dC, dI) classes [] t.heap ∧ va_K (dC, dI) classes [] t ∧ va_D (va_A [] sz) []) (va_A [] sz)) 0 0 (va_A [] sz) := by
  refine Met.ofW (cc := b_Ref_isModel) (maxL := 1) (ret := (some .boolean)) (by decide) rfl ?_
  intro p e s m args below meth c s₁ B hml hv
  obtain ⟨rfl, hsz, hP, hK, hD0, hn⟩ := hv
  have hx := B.exec
  have hb := B.bytes
  have hr := B.returns
  have hw := fun w (h : w ∈ wt) => atoms_spec (ws := w_Ref_isModel) B.pre w (List.mem_cons_of_mem _ h)
  have hown : s.vm.findClass R_Ref = some m.cls := findClass_of_methodNamed B.named
  have hlocks := B.notSynchronized
  subst hsz
  have hD1 := hD0.self (sz := s.heap.size)
  generalize hAe : va_A [] s.heap.size = A at hD1 ⊢
  have hA : ∀ q : Nat, s.heap.size ≤ q → A q := fun q h => by rw [← hAe]; exact Or.inr h
  have hD : dd A [] := dd_of hD1 rfl
  clear hAe hD0 hD1
  have hS : va_S A s.heap s.heap [] := va_S.rf
  replace hP : va_P (dC, dI) classes [] s.heap := hP
  have hl := lv_entry ([.int 0]) (n := 1) (Nat.le_of_ble_eq_true rfl)
  rw [lg_entry_eq]
  generalize (lg_sl ([.int 0]) ++ List.replicate (1 - (lg_sl ([.int 0])).length) Slot.unset).toArray = ls at hl ⊢
  replace hl : lv_has ls 1 [(0, .int 0)] := hl
  refine lv_iload_n hx hb d_Ref_isModel_0 rfl (lv_at hl 0 rfl) ?_
  refine lv_if_lt (tgt := 13) hx hb d_Ref_isModel_1 (by decide) (fun c_1 => absurd c_1 (by decide)) (fun c_1 => ?_)
  refine tp_pc (pc' := 4) (by rfl) ?_
  refine lv_iload_n hx hb d_Ref_isModel_4 rfl (lv_at hl 0 rfl) ?_
  refine lv_iconst (v := 3) hx hb d_Ref_isModel_5 (by decide) ?_
  refine lv_icmp_gt (tgt := 13) hx hb d_Ref_isModel_6 (by decide) (fun c_2 => absurd c_2 (by decide)) (fun c_2 => ?_)
  refine tp_pc (pc' := 9) (by rfl) ?_
  refine lv_iconst (v := 1) hx hb d_Ref_isModel_9 (by decide) ?_
  refine lv_goto (tgt := 14) hx hb d_Ref_isModel_10 (by decide) ?_
  refine tp_pc (pc' := 14) (by rfl) ?_
  obtain ⟨hP9, hD9, -⟩ := cut3 (wc := []) hP hD rfl hS hA [] (by decide +kernel) rfl
  have hK9 := hK.sub (tys' := []) [] rfl
  refine W.widen (k := 0) (n := 0) (by exact Nat.le_of_ble_eq_true rfl) (by exact Nat.le_of_ble_eq_true rfl) ?_
  exact W.zret (v := 1) (ty := .boolean) hx hb hr (by decide) (fun t ht hW => ⟨⟨1, (), rfl, rfl, by rw [ht]; exact hP9, va_K.moved hW.alike hK9, hD9⟩, hS.F ht⟩) hS.2.2 d_Ref_isModel_14
set_option maxHeartbeats 4000000 in
set_option maxRecDepth 100000 in
theorem c_Ref_beginState (l : Launch) (dC : Nat → ClassId) (dI : Nat → Nat → Nat) (h0 : Nat) (p0 : Int32) (p1 : Int32) (h1 : Nat) (h2 : Nat) (h3 : Nat) (h4 : Nat) (h5 : Nat) (h6 : Nat) (h7 : Nat) (h8 : Nat) (h9 : Nat) (h10 : Nat) (h11 : Nat) (h12 : Nat) (p2 : Int32) (h13 : Nat) (h14 : Nat) (h15 : Nat) (h16 : Nat) (p4 : Int32) (h17 : Nat) (h18 : Nat) (h19 : Nat) (p5 : Int32) (h20 : Nat) (p6 : Int32) (p7 : Int32) (h21 : Nat) (h22 : Nat) (h23 : Nat) (h24 : Nat) (h25 : Nat) (h26 : Nat) (h27 : Nat) (h28 : Nat) (p8 : Int32) (p9 : Int32) (h29 : Nat) (h30 : Nat) (h31 : Nat) (h32 : Nat) (h33 : Nat) (h34 : Nat) (h35 : Nat) (h36 : Nat) (p10 : Int32) (h37 : Nat) (k13 : ClassId) (f13 : Nat → Int32) (sz : Nat) : Met l y_Ref_beginState w_Ref_beginState ({ frames := 0, cells := 0, slots := 0, locals := 0 }) (va_Pc [.ref h0] (fun U => U.heap.size = sz ∧ va_P (dC, dI) classes [oc h0 8 [.int p0, .int p1, .ref h1, .ref h2, .ref h3, .ref h4, .ref h5, .ref h6, .ref h7, .ref h8, .ref h9, .ref h10, .ref h11, .ref h12, .int p2, .ref h13, .ref h14, .ref h15, .ref h16, .int 0, .int p4, .ref h17, .ref h18, .ref h19, .int p5, .ref h20, .int p6, .int p7, .ref h21, .ref h22, .ref h23, .ref h24, .ref h25, .ref h26, .ref h27, .ref h28, .int p8, .int p9, .ref h29, .ref h30, .ref h31, .ref h32, .ref h33, .ref h34, .ref h35, .ref h36, .int p10, .ref h37], ia h14 k13 155 f13] U.heap ∧ va_K (dC, dI) classes [(k13, .int)] U ∧ va_D (fun _ => True) [oc h0 8 [.int p0, .int p1, .ref h1, .ref h2, .ref h3, .ref h4, .ref h5, .ref h6, .ref h7, .ref h8, .ref h9, .ref h10, .ref h11, .ref h12, .int p2, .ref h13, .ref h14, .ref h15, .ref h16, .int 0, .int p4, .ref h17, .ref h18, .ref h19, .int p5, .ref h20, .int p6, .int p7, .ref h21, .ref h22, .ref h23, .ref h24, .ref h25, .ref h26, .ref h27, .ref h28, .int p8, .int p9, .ref h29, .ref h30, .ref h31, .ref h32, .ref h33, .ref h34, .ref h35, .ref h36, .int p10, .ref h37], ia h14 k13 155 f13] ∧ nw U)) (va_Qv (fun _ : Unit => True) (fun _ t => va_P (dC, dI) classes [oc h0 8 [.int p0, .int p1, .ref h1, .ref h2, .ref h3, .ref h4, .ref h5, .ref h6, .ref h7, .ref h8, .ref h9, .ref h10, .ref h11, .ref h12, .int p2, .ref h13, .ref h14, .ref h15, .ref h16, .int 0, .int p4, .ref h17, .ref h18, .ref h19, .int p5, .ref h20, .int p6, .int p7, .ref h21, .ref h22, .ref h23, .ref h24, .ref h25, .ref h26, .ref h27, .ref h28, .int p8, .int p9, .ref h29, .ref h30, .ref h31, .ref h32, .ref h33, .ref h34, .ref h35, .ref h36, .int p10, .ref h37], ia h14 k13 155 (fun _ => 0)] t.heap ∧ va_K (dC, dI) classes [] t ∧ va_D (va_A [oc h0 8 [.int p0, .int p1, .ref h1, .ref h2, .ref h3, .ref h4, .ref h5, .ref h6, .ref h7, .ref h8, .ref h9, .ref h10, .ref h11, .ref h12, .int p2, .ref h13, .ref h14, .ref h15, .ref h16, .int 0, .int p4, .ref h17, .ref h18, .ref h19, .int p5, .ref h20, .int p6, .int p7, .ref h21, .ref h22, .ref h23, .ref h24, .ref h25, .ref h26, .ref h27, .ref h28, .int p8, .int p9, .ref h29, .ref h30, .ref h31, .ref h32, .ref h33, .ref h34, .ref h35, .ref h36, .int p10, .ref h37], ia h14 k13 155 f13] sz) [oc h0 8 [.int p0, .int p1, .ref h1, .ref h2, .ref h3, .ref h4, .ref h5, .ref h6, .ref h7, .ref h8, .ref h9, .ref h10, .ref h11, .ref h12, .int p2, .ref h13, .ref h14, .ref h15, .ref h16, .int 0, .int p4, .ref h17, .ref h18, .ref h19, .int p5, .ref h20, .int p6, .int p7, .ref h21, .ref h22, .ref h23, .ref h24, .ref h25, .ref h26, .ref h27, .ref h28, .int p8, .int p9, .ref h29, .ref h30, .ref h31, .ref h32, .ref h33, .ref h34, .ref h35, .ref h36, .int p10, .ref h37], ia h14 k13 155 (fun _ => 0)]) (va_A [oc h0 8 [.int p0, .int p1, .ref h1, .ref h2, .ref h3, .ref h4, .ref h5, .ref h6, .ref h7, .ref h8, .ref h9, .ref h10, .ref h11, .ref h12, .int p2, .ref h13, .ref h14, .ref h15, .ref h16, .int 0, .int p4, .ref h17, .ref h18, .ref h19, .int p5, .ref h20, .int p6, .int p7, .ref h21, .ref h22, .ref h23, .ref h24, .ref h25, .ref h26, .ref h27, .ref h28, .int p8, .int p9, .ref h29, .ref h30, .ref h31, .ref h32, .ref h33, .ref h34, .ref h35, .ref h36, .int p10, .ref h37], ia h14 k13 155 f13] sz)) 0 0 (va_A [oc h0 8 [.int p0, .int p1, .ref h1, .ref h2, .ref h3, .ref h4, .ref h5, .ref h6, .ref h7, .ref h8, .ref h9, .ref h10, .ref h11, .ref h12, .int p2, .ref h13, .ref h14, .ref h15, .ref h16, .int 0, .int p4, .ref h17, .ref h18, .ref h19, .int p5, .ref h20, .int p6, .int p7, .ref h21, .ref h22, .ref h23, .ref h24, .ref h25, .ref h26, .ref h27, .ref h28, .int p8, .int p9, .ref h29, .ref h30, .ref h31, .ref h32, .ref h33, .ref h34, .ref h35, .ref h36, .int p10, .ref h37], ia h14 k13 155 f13] sz) := by
  refine Met.ofW (cc := b_Ref_beginState) (maxL := 3) (ret := none) (by decide) rfl ?_
  intro p e s m args below meth c s₁ B hml hv
  obtain ⟨rfl, hsz, hP, hK, hD0, hn⟩ := hv
  have hx := B.exec
  have hb := B.bytes
  have hr := B.returns
  have hw := fun w (h : w ∈ wt) => atoms_spec (ws := w_Ref_beginState) B.pre w (List.mem_cons_of_mem _ h)
  have hown : s.vm.findClass R_Ref = some m.cls := findClass_of_methodNamed B.named
  have hlocks := B.notSynchronized
  subst hsz
  have hD1 := hD0.self (sz := s.heap.size)
  generalize hAe : va_A [oc h0 8 [.int p0, .int p1, .ref h1, .ref h2, .ref h3, .ref h4, .ref h5, .ref h6, .ref h7, .ref h8, .ref h9, .ref h10, .ref h11, .ref h12, .int p2, .ref h13, .ref h14, .ref h15, .ref h16, .int 0, .int p4, .ref h17, .ref h18, .ref h19, .int p5, .ref h20, .int p6, .int p7, .ref h21, .ref h22, .ref h23, .ref h24, .ref h25, .ref h26, .ref h27, .ref h28, .int p8, .int p9, .ref h29, .ref h30, .ref h31, .ref h32, .ref h33, .ref h34, .ref h35, .ref h36, .int p10, .ref h37], ia h14 k13 155 f13] s.heap.size = A at hD1 ⊢
  have hA : ∀ q : Nat, s.heap.size ≤ q → A q := fun q h => by rw [← hAe]; exact Or.inr h
  have hD : dd A [h0, h14] := dd_of hD1 rfl
  clear hAe hD0 hD1
  have hS : va_S A s.heap s.heap [] := va_S.rf
  replace hP : va_P (dC, dI) classes [oc h0 8 [.int p0, .int p1, .ref h1, .ref h2, .ref h3, .ref h4, .ref h5, .ref h6, .ref h7, .ref h8, .ref h9, .ref h10, .ref h11, .ref h12, .int p2, .ref h13, .ref h14, .ref h15, .ref h16, .int 0, .int p4, .ref h17, .ref h18, .ref h19, .int p5, .ref h20, .int p6, .int p7, .ref h21, .ref h22, .ref h23, .ref h24, .ref h25, .ref h26, .ref h27, .ref h28, .int p8, .int p9, .ref h29, .ref h30, .ref h31, .ref h32, .ref h33, .ref h34, .ref h35, .ref h36, .int p10, .ref h37], ia h14 k13 155 f13] s.heap := hP
  have hl := lv_entry ([.ref h0]) (n := 3) (Nat.le_of_ble_eq_true rfl)
  rw [lg_entry_eq]
  generalize (lg_sl ([.ref h0]) ++ List.replicate (3 - (lg_sl ([.ref h0])).length) Slot.unset).toArray = ls at hl ⊢
  replace hl : lv_has ls 3 [(0, .ref h0)] := hl
  refine lv_iconst (v := 0) hx hb d_Ref_beginState_0 (by decide) ?_
  refine lv_istore_n (lv' := [(1, .int 0), (0, .ref h0)]) hx hb d_Ref_beginState_1 rfl hl (by decide) rfl ?_
  clear hl ls
  intro ls hl
  refine lp_n 155 (fun i H locs ls => ∃ g : Nat → Int32, (∀ j, j < i → g j = 0) ∧ va_P (dC, dI) classes [oc h0 8 [.int p0, .int p1, .ref h1, .ref h2, .ref h3, .ref h4, .ref h5, .ref h6, .ref h7, .ref h8, .ref h9, .ref h10, .ref h11, .ref h12, .int p2, .ref h13, .ref h14, .ref h15, .ref h16, .int 0, .int p4, .ref h17, .ref h18, .ref h19, .int p5, .ref h20, .int p6, .int p7, .ref h21, .ref h22, .ref h23, .ref h24, .ref h25, .ref h26, .ref h27, .ref h28, .int p8, .int p9, .ref h29, .ref h30, .ref h31, .ref h32, .ref h33, .ref h34, .ref h35, .ref h36, .int p10, .ref h37], ia h14 k13 155 g] H ∧ va_S A s.heap H locs ∧ lv_has ls 3 [(1, .int (nI i)), (0, .ref h0)]) ⟨f13, fun j hj => absurd hj (Nat.not_lt_zero j), hP, hS, hl⟩ ?_ ?_
  · intro i H locs ls hi hI ih
    obtain ⟨g, hg, hP, hS, hl⟩ := hI
    refine lv_iload_n hx hb d_Ref_beginState_2 rfl (lv_at hl 0 rfl) ?_
    refine lv_sipush (v := 155) hx hb d_Ref_beginState_3 (by decide) ?_
    refine lv_icmp_ge (tgt := 22) hx hb d_Ref_beginState_6 (by decide) (fun c9 => absurd c9 (nI_ge hi (by decide))) (fun _ => ?_)
    refine lv_aload_n hx hb d_Ref_beginState_9 rfl (lv_at hl 1 rfl) ?_
    refine va_get (D := (dC, dI)) (ci := 8) (v := .ref h14) (C := R_Ref) (T := F_Ref) (N := 48) hx hb hw i_Ref hown hK hP 0 rfl rfl 16 (by decide) (hw _ m_915) (fun _ h9 => h9) rfl d_Ref_beginState_10 ?_
    refine lv_iload_n hx hb d_Ref_beginState_13 rfl (lv_at hl 0 rfl) ?_
    refine lv_iconst (v := 0) hx hb d_Ref_beginState_14 (by decide) ?_
    refine va_iast (D := (dC, dI)) hx hb hK hP (dd_D hD rfl) hS 1 0 rfl rfl (i := nI i) (x := 0) (vp_in_nI hi (by decide)) d_Ref_beginState_15 ?_
    intro H locs hP _ hS
    rw [nI_clamp (Nat.lt_trans hi (by decide))] at hP
    refine lv_iinc (v := nI (i + 1)) (lv' := [(1, .int (nI (i + 1))), (0, .ref h0)]) hx hb d_Ref_beginState_16 hl (k := 0) rfl (nI_1 i) (by decide) rfl ?_
    intro ls hl
    refine lv_goto (tgt := 2) hx hb d_Ref_beginState_19 (by decide) ?_
    exact ih _ _ _ ⟨upd g i 0, fun j hj => by by_cases e9 : j = i; (subst e9; simp [upd]); (simp [upd, e9]; exact hg j (by omega)), hP, hS, lv_sub hl [0, 1] rfl⟩
  · intro H locs ls hI
    obtain ⟨g, hg, hP, hS, hl⟩ := hI
    replace hP : va_P (dC, dI) classes [oc h0 8 [.int p0, .int p1, .ref h1, .ref h2, .ref h3, .ref h4, .ref h5, .ref h6, .ref h7, .ref h8, .ref h9, .ref h10, .ref h11, .ref h12, .int p2, .ref h13, .ref h14, .ref h15, .ref h16, .int 0, .int p4, .ref h17, .ref h18, .ref h19, .int p5, .ref h20, .int p6, .int p7, .ref h21, .ref h22, .ref h23, .ref h24, .ref h25, .ref h26, .ref h27, .ref h28, .int p8, .int p9, .ref h29, .ref h30, .ref h31, .ref h32, .ref h33, .ref h34, .ref h35, .ref h36, .int p10, .ref h37], ia h14 k13 155 (fun _ => 0)] H := P_cg 1 rfl hg hP
    replace hl : lv_has ls 3 [(1, .int 155), (0, .ref h0)] := hl
    refine lv_iload_n hx hb d_Ref_beginState_2 rfl (lv_at hl 0 rfl) ?_
    refine lv_sipush (v := 155) hx hb d_Ref_beginState_3 (by decide) ?_
    refine lv_icmp_ge (tgt := 22) hx hb d_Ref_beginState_6 (by decide) (fun c_1 => ?_) (fun c_1 => absurd c_1 (by decide))
    refine tp_pc (pc' := 22) (by rfl) ?_
    refine lv_aload_n hx hb d_Ref_beginState_22 rfl (lv_at hl 1 rfl) ?_
    refine va_get (D := (dC, dI)) (ci := 8) (v := .int 0) (C := R_Ref) (T := F_Ref) (N := 48) hx hb hw i_Ref hown hK hP 0 rfl rfl 19 (by decide) (hw _ m_918) (fun _ h9 => h9) rfl d_Ref_beginState_23 ?_
    refine lv_iconst (v := 3) hx hb d_Ref_beginState_26 (by decide) ?_
    refine lv_icmp_ne (tgt := 116) hx hb d_Ref_beginState_27 (by decide) (fun c_2 => ?_) (fun c_2 => absurd c_2 (by decide))
    refine tp_pc (pc' := 116) (by rfl) ?_
    obtain ⟨hP9, hD9, -⟩ := cut3 (wc := [oc h0 8 [.int p0, .int p1, .ref h1, .ref h2, .ref h3, .ref h4, .ref h5, .ref h6, .ref h7, .ref h8, .ref h9, .ref h10, .ref h11, .ref h12, .int p2, .ref h13, .ref h14, .ref h15, .ref h16, .int 0, .int p4, .ref h17, .ref h18, .ref h19, .int p5, .ref h20, .int p6, .int p7, .ref h21, .ref h22, .ref h23, .ref h24, .ref h25, .ref h26, .ref h27, .ref h28, .int p8, .int p9, .ref h29, .ref h30, .ref h31, .ref h32, .ref h33, .ref h34, .ref h35, .ref h36, .int p10, .ref h37], ia h14 k13 155 (fun _ => 0)]) hP hD rfl hS hA [0, 1] (by decide +kernel) rfl
    have hK9 := hK.sub (tys' := []) [] rfl
    refine W.widen (k := 0) (n := 0) (by exact Nat.le_of_ble_eq_true rfl) (by exact Nat.le_of_ble_eq_true rfl) ?_
    exact W.vret hx hb hr (fun t ht hW => ⟨⟨(), rfl, trivial, by rw [ht]; exact hP9, va_K.moved hW.alike hK9, hD9⟩, hS.F ht⟩) hS.2.2 d_Ref_beginState_116
set_option maxHeartbeats 4000000 in
set_option maxRecDepth 100000 in
theorem c_Ref_bits (l : Launch) (dC : Nat → ClassId) (dI : Nat → Nat → Nat) (h0 : Nat) (p0 : Int64) (p2 : Int32) (p3 : Int32) (h1 : Nat) (h2 : Nat) (h3 : Nat) (h4 : Nat) (h5 : Nat) (h6 : Nat) (h7 : Nat) (h8 : Nat) (h9 : Nat) (h10 : Nat) (h11 : Nat) (h12 : Nat) (p4 : Int32) (h13 : Nat) (h14 : Nat) (h15 : Nat) (h16 : Nat) (p5 : Int32) (p6 : Int32) (h17 : Nat) (h18 : Nat) (h19 : Nat) (p7 : Int32) (h20 : Nat) (p9 : Int32) (h21 : Nat) (h22 : Nat) (h23 : Nat) (h24 : Nat) (h25 : Nat) (h26 : Nat) (h27 : Nat) (h28 : Nat) (p10 : Int32) (p11 : Int32) (h29 : Nat) (h30 : Nat) (h31 : Nat) (h32 : Nat) (h33 : Nat) (h34 : Nat) (h35 : Nat) (h36 : Nat) (p12 : Int32) (h37 : Nat) (k19 : ClassId) (f19 : Nat → Int64) (sz : Nat) : Met l y_Ref_bits w_Ref_bits ({ frames := 0, cells := 0, slots := 0, locals := 0 }) (va_Pc [.ref h0, .long p0, .int 3] (fun U => U.heap.size = sz ∧ va_P (dC, dI) classes [oc h0 8 [.int p2, .int p3, .ref h1, .ref h2, .ref h3, .ref h4, .ref h5, .ref h6, .ref h7, .ref h8, .ref h9, .ref h10, .ref h11, .ref h12, .int p4, .ref h13, .ref h14, .ref h15, .ref h16, .int p5, .int p6, .ref h17, .ref h18, .ref h19, .int p7, .ref h20, .int 0, .int p9, .ref h21, .ref h22, .ref h23, .ref h24, .ref h25, .ref h26, .ref h27, .ref h28, .int p10, .int p11, .ref h29, .ref h30, .ref h31, .ref h32, .ref h33, .ref h34, .ref h35, .ref h36, .int p12, .ref h37], la h20 k19 5 f19] U.heap ∧ va_K (dC, dI) classes [(k19, .long)] U ∧ va_D (fun _ => True) [oc h0 8 [.int p2, .int p3, .ref h1, .ref h2, .ref h3, .ref h4, .ref h5, .ref h6, .ref h7, .ref h8, .ref h9, .ref h10, .ref h11, .ref h12, .int p4, .ref h13, .ref h14, .ref h15, .ref h16, .int p5, .int p6, .ref h17, .ref h18, .ref h19, .int p7, .ref h20, .int 0, .int p9, .ref h21, .ref h22, .ref h23, .ref h24, .ref h25, .ref h26, .ref h27, .ref h28, .int p10, .int p11, .ref h29, .ref h30, .ref h31, .ref h32, .ref h33, .ref h34, .ref h35, .ref h36, .int p12, .ref h37], la h20 k19 5 f19] ∧ nw U)) (va_Qv (fun _ : Unit => True) (fun _ t => va_P (dC, dI) classes [oc h0 8 [.int p2, .int p3, .ref h1, .ref h2, .ref h3, .ref h4, .ref h5, .ref h6, .ref h7, .ref h8, .ref h9, .ref h10, .ref h11, .ref h12, .int p4, .ref h13, .ref h14, .ref h15, .ref h16, .int p5, .int p6, .ref h17, .ref h18, .ref h19, .int p7, .ref h20, .int 3, .int p9, .ref h21, .ref h22, .ref h23, .ref h24, .ref h25, .ref h26, .ref h27, .ref h28, .int p10, .int p11, .ref h29, .ref h30, .ref h31, .ref h32, .ref h33, .ref h34, .ref h35, .ref h36, .int p12, .ref h37], la h20 k19 5 (vp_updL f19 0 ((f19 0) ||| (p0 <<< ((0 : Int32).toInt64 &&& 63))))] t.heap ∧ va_K (dC, dI) classes [] t ∧ va_D (va_A [oc h0 8 [.int p2, .int p3, .ref h1, .ref h2, .ref h3, .ref h4, .ref h5, .ref h6, .ref h7, .ref h8, .ref h9, .ref h10, .ref h11, .ref h12, .int p4, .ref h13, .ref h14, .ref h15, .ref h16, .int p5, .int p6, .ref h17, .ref h18, .ref h19, .int p7, .ref h20, .int 0, .int p9, .ref h21, .ref h22, .ref h23, .ref h24, .ref h25, .ref h26, .ref h27, .ref h28, .int p10, .int p11, .ref h29, .ref h30, .ref h31, .ref h32, .ref h33, .ref h34, .ref h35, .ref h36, .int p12, .ref h37], la h20 k19 5 f19] sz) [oc h0 8 [.int p2, .int p3, .ref h1, .ref h2, .ref h3, .ref h4, .ref h5, .ref h6, .ref h7, .ref h8, .ref h9, .ref h10, .ref h11, .ref h12, .int p4, .ref h13, .ref h14, .ref h15, .ref h16, .int p5, .int p6, .ref h17, .ref h18, .ref h19, .int p7, .ref h20, .int 3, .int p9, .ref h21, .ref h22, .ref h23, .ref h24, .ref h25, .ref h26, .ref h27, .ref h28, .int p10, .int p11, .ref h29, .ref h30, .ref h31, .ref h32, .ref h33, .ref h34, .ref h35, .ref h36, .int p12, .ref h37], la h20 k19 5 (vp_updL f19 0 ((f19 0) ||| (p0 <<< ((0 : Int32).toInt64 &&& 63))))]) (va_A [oc h0 8 [.int p2, .int p3, .ref h1, .ref h2, .ref h3, .ref h4, .ref h5, .ref h6, .ref h7, .ref h8, .ref h9, .ref h10, .ref h11, .ref h12, .int p4, .ref h13, .ref h14, .ref h15, .ref h16, .int p5, .int p6, .ref h17, .ref h18, .ref h19, .int p7, .ref h20, .int 0, .int p9, .ref h21, .ref h22, .ref h23, .ref h24, .ref h25, .ref h26, .ref h27, .ref h28, .int p10, .int p11, .ref h29, .ref h30, .ref h31, .ref h32, .ref h33, .ref h34, .ref h35, .ref h36, .int p12, .ref h37], la h20 k19 5 f19] sz)) 0 0 (va_A [oc h0 8 [.int p2, .int p3, .ref h1, .ref h2, .ref h3, .ref h4, .ref h5, .ref h6, .ref h7, .ref h8, .ref h9, .ref h10, .ref h11, .ref h12, .int p4, .ref h13, .ref h14, .ref h15, .ref h16, .int p5, .int p6, .ref h17, .ref h18, .ref h19, .int p7, .ref h20, .int 0, .int p9, .ref h21, .ref h22, .ref h23, .ref h24, .ref h25, .ref h26, .ref h27, .ref h28, .int p10, .int p11, .ref h29, .ref h30, .ref h31, .ref h32, .ref h33, .ref h34, .ref h35, .ref h36, .int p12, .ref h37], la h20 k19 5 f19] sz) := by
  refine Met.ofW (cc := b_Ref_bits) (maxL := 6) (ret := none) (by decide) rfl ?_
  intro p e s m args below meth c s₁ B hml hv
  obtain ⟨rfl, hsz, hP, hK, hD0, hn⟩ := hv
  have hx := B.exec
  have hb := B.bytes
  have hr := B.returns
  have hw := fun w (h : w ∈ wt) => atoms_spec (ws := w_Ref_bits) B.pre w (List.mem_cons_of_mem _ h)
  have hown : s.vm.findClass R_Ref = some m.cls := findClass_of_methodNamed B.named
  have hlocks := B.notSynchronized
  subst hsz
  have hD1 := hD0.self (sz := s.heap.size)
  generalize hAe : va_A [oc h0 8 [.int p2, .int p3, .ref h1, .ref h2, .ref h3, .ref h4, .ref h5, .ref h6, .ref h7, .ref h8, .ref h9, .ref h10, .ref h11, .ref h12, .int p4, .ref h13, .ref h14, .ref h15, .ref h16, .int p5, .int p6, .ref h17, .ref h18, .ref h19, .int p7, .ref h20, .int 0, .int p9, .ref h21, .ref h22, .ref h23, .ref h24, .ref h25, .ref h26, .ref h27, .ref h28, .int p10, .int p11, .ref h29, .ref h30, .ref h31, .ref h32, .ref h33, .ref h34, .ref h35, .ref h36, .int p12, .ref h37], la h20 k19 5 f19] s.heap.size = A at hD1 ⊢
  have hA : ∀ q : Nat, s.heap.size ≤ q → A q := fun q h => by rw [← hAe]; exact Or.inr h
  have hD : dd A [h0, h20] := dd_of hD1 rfl
  clear hAe hD0 hD1
  have hS : va_S A s.heap s.heap [] := va_S.rf
  replace hP : va_P (dC, dI) classes [oc h0 8 [.int p2, .int p3, .ref h1, .ref h2, .ref h3, .ref h4, .ref h5, .ref h6, .ref h7, .ref h8, .ref h9, .ref h10, .ref h11, .ref h12, .int p4, .ref h13, .ref h14, .ref h15, .ref h16, .int p5, .int p6, .ref h17, .ref h18, .ref h19, .int p7, .ref h20, .int 0, .int p9, .ref h21, .ref h22, .ref h23, .ref h24, .ref h25, .ref h26, .ref h27, .ref h28, .int p10, .int p11, .ref h29, .ref h30, .ref h31, .ref h32, .ref h33, .ref h34, .ref h35, .ref h36, .int p12, .ref h37], la h20 k19 5 f19] s.heap := hP
  have hl := lv_entry ([.ref h0, .long p0, .int 3]) (n := 6) (Nat.le_of_ble_eq_true rfl)
  rw [lg_entry_eq]
  generalize (lg_sl ([.ref h0, .long p0, .int 3]) ++ List.replicate (6 - (lg_sl ([.ref h0, .long p0, .int 3])).length) Slot.unset).toArray = ls at hl ⊢
  replace hl : lv_has ls 6 [(0, .ref h0), (1, .long p0), (3, .int 3)] := hl
  refine lv_aload_n hx hb d_Ref_bits_0 rfl (lv_at hl 0 rfl) ?_
  refine va_get (D := (dC, dI)) (ci := 8) (v := .int 0) (C := R_Ref) (T := F_Ref) (N := 48) hx hb hw i_Ref hown hK hP 0 rfl rfl 26 (by decide) (hw _ m_925) (fun _ h9 => h9) rfl d_Ref_bits_1 ?_
  refine lv_bipush (v := 64) hx hb d_Ref_bits_4 (by decide) ?_
  refine lv_idiv hx hb d_Ref_bits_6 (by decide) ?_
  refine tp_i (y := 0) (by first | rfl | decide) ?_
  refine lv_istore (lv' := [(4, .int 0), (0, .ref h0), (1, .long p0), (3, .int 3)]) hx hb d_Ref_bits_7 hl (by decide) rfl ?_
  clear hl ls
  intro ls hl
  refine lv_aload_n hx hb d_Ref_bits_9 rfl (lv_at hl 1 rfl) ?_
  refine va_get (D := (dC, dI)) (ci := 8) (v := .int 0) (C := R_Ref) (T := F_Ref) (N := 48) hx hb hw i_Ref hown hK hP 0 rfl rfl 26 (by decide) (hw _ m_925) (fun _ h9 => h9) rfl d_Ref_bits_10 ?_
  refine lv_bipush (v := 64) hx hb d_Ref_bits_13 (by decide) ?_
  refine lv_irem hx hb d_Ref_bits_15 (by decide) ?_
  refine tp_i (y := 0) (by first | rfl | decide) ?_
  refine lv_istore (lv' := [(5, .int 0), (4, .int 0), (0, .ref h0), (1, .long p0), (3, .int 3)]) hx hb d_Ref_bits_16 hl (by decide) rfl ?_
  clear hl ls
  intro ls hl
  refine lv_aload_n hx hb d_Ref_bits_18 rfl (lv_at hl 2 rfl) ?_
  refine va_get (D := (dC, dI)) (ci := 8) (v := .ref h20) (C := R_Ref) (T := F_Ref) (N := 48) hx hb hw i_Ref hown hK hP 0 rfl rfl 25 (by decide) (hw _ m_924) (fun _ h9 => h9) rfl d_Ref_bits_19 ?_
  refine lv_iload hx hb d_Ref_bits_22 (lv_at hl 1 rfl) ?_
  refine lv_dup2_11 hx hb d_Ref_bits_24 rfl rfl ?_
  refine va_lald (D := (dC, dI)) hx hb hK hP 1 0 rfl rfl (i := 0) (vp_c (by decide)) d_Ref_bits_25 ?_
  refine tp_l (y := f19 0) (by first | rfl | decide) ?_
  refine lv_lload_n hx hb d_Ref_bits_26 rfl (lv_at hl 3 rfl) ?_
  refine lv_iload hx hb d_Ref_bits_27 (lv_at hl 0 rfl) ?_
  refine lv_lshl (v := p0 <<< ((0 : Int32).toInt64 &&& 63)) hx hb d_Ref_bits_29 (by first | rfl | decide) ?_
  refine lv_lor hx hb d_Ref_bits_30 ?_
  refine tp_l (y := (f19 0) ||| (p0 <<< ((0 : Int32).toInt64 &&& 63))) (by first | rfl | decide) ?_
  refine va_last (D := (dC, dI)) hx hb hK hP (dd_D hD rfl) hS 1 0 rfl rfl (i := 0) (x := (f19 0) ||| (p0 <<< ((0 : Int32).toInt64 &&& 63))) (vp_c (by decide)) d_Ref_bits_31 ?_
  clear hP hS
  intro H locs (hP : va_P (dC, dI) classes [oc h0 8 [.int p2, .int p3, .ref h1, .ref h2, .ref h3, .ref h4, .ref h5, .ref h6, .ref h7, .ref h8, .ref h9, .ref h10, .ref h11, .ref h12, .int p4, .ref h13, .ref h14, .ref h15, .ref h16, .int p5, .int p6, .ref h17, .ref h18, .ref h19, .int p7, .ref h20, .int 0, .int p9, .ref h21, .ref h22, .ref h23, .ref h24, .ref h25, .ref h26, .ref h27, .ref h28, .int p10, .int p11, .ref h29, .ref h30, .ref h31, .ref h32, .ref h33, .ref h34, .ref h35, .ref h36, .int p12, .ref h37], la h20 k19 5 (vp_updL f19 0 ((f19 0) ||| (p0 <<< ((0 : Int32).toInt64 &&& 63))))] H) _ hS
  refine tp_pc (pc' := 32) (by rfl) ?_
  refine lv_iload hx hb d_Ref_bits_32 (lv_at hl 0 rfl) ?_
  refine lv_iload_n hx hb d_Ref_bits_34 rfl (lv_at hl 4 rfl) ?_
  refine lv_iadd hx hb d_Ref_bits_35 ?_
  refine tp_i (y := 3) (by first | rfl | decide) ?_
  refine lv_bipush (v := 64) hx hb d_Ref_bits_36 (by decide) ?_
  refine lv_icmp_le (tgt := 60) hx hb d_Ref_bits_38 (by decide) (fun c_1 => ?_) (fun c_1 => absurd c_1 (by decide))
  refine tp_pc (pc' := 60) (by rfl) ?_
  refine lv_aload_n hx hb d_Ref_bits_60 rfl (lv_at hl 2 rfl) ?_
  refine lv_dup hx hb d_Ref_bits_61 rfl ?_
  refine va_get (D := (dC, dI)) (ci := 8) (v := .int 0) (C := R_Ref) (T := F_Ref) (N := 48) hx hb hw i_Ref hown hK hP 0 rfl rfl 26 (by decide) (hw _ m_925) (fun _ h9 => h9) rfl d_Ref_bits_62 ?_
  refine lv_iload_n hx hb d_Ref_bits_65 rfl (lv_at hl 4 rfl) ?_
  refine lv_iadd hx hb d_Ref_bits_66 ?_
  refine tp_i (y := 3) (by first | rfl | decide) ?_
  refine va_put (D := (dC, dI)) (ci := 8) (v := .int 3) (ty := .int) (C := R_Ref) (T := F_Ref) (N := 48) hx hb hw i_Ref t_Ref t_Ref_ok n_Ref hown hK hP (dd_D hD rfl) hS 0 rfl rfl 26 (by decide) (hw _ m_925) (fun _ h9 => h9) rfl (by decide +kernel) rfl rfl (Nat.le_of_ble_eq_true rfl) d_Ref_bits_67 ?_
  clear hP hS locs H
  intro H locs (hP : va_P (dC, dI) classes [oc h0 8 [.int p2, .int p3, .ref h1, .ref h2, .ref h3, .ref h4, .ref h5, .ref h6, .ref h7, .ref h8, .ref h9, .ref h10, .ref h11, .ref h12, .int p4, .ref h13, .ref h14, .ref h15, .ref h16, .int p5, .int p6, .ref h17, .ref h18, .ref h19, .int p7, .ref h20, .int 3, .int p9, .ref h21, .ref h22, .ref h23, .ref h24, .ref h25, .ref h26, .ref h27, .ref h28, .int p10, .int p11, .ref h29, .ref h30, .ref h31, .ref h32, .ref h33, .ref h34, .ref h35, .ref h36, .int p12, .ref h37], la h20 k19 5 (vp_updL f19 0 ((f19 0) ||| (p0 <<< ((0 : Int32).toInt64 &&& 63))))] H) _ hS
  refine tp_pc (pc' := 70) (by rfl) ?_
  obtain ⟨hP9, hD9, -⟩ := cut3 (wc := [oc h0 8 [.int p2, .int p3, .ref h1, .ref h2, .ref h3, .ref h4, .ref h5, .ref h6, .ref h7, .ref h8, .ref h9, .ref h10, .ref h11, .ref h12, .int p4, .ref h13, .ref h14, .ref h15, .ref h16, .int p5, .int p6, .ref h17, .ref h18, .ref h19, .int p7, .ref h20, .int 3, .int p9, .ref h21, .ref h22, .ref h23, .ref h24, .ref h25, .ref h26, .ref h27, .ref h28, .int p10, .int p11, .ref h29, .ref h30, .ref h31, .ref h32, .ref h33, .ref h34, .ref h35, .ref h36, .int p12, .ref h37], la h20 k19 5 (vp_updL f19 0 ((f19 0) ||| (p0 <<< ((0 : Int32).toInt64 &&& 63))))]) hP hD rfl hS hA [0, 1] (by decide +kernel) rfl
  have hK9 := hK.sub (tys' := []) [] rfl
  refine W.widen (k := 0) (n := 0) (by exact Nat.le_of_ble_eq_true rfl) (by exact Nat.le_of_ble_eq_true rfl) ?_
  exact W.vret hx hb hr (fun t ht hW => ⟨⟨(), rfl, trivial, by rw [ht]; exact hP9, va_K.moved hW.alike hK9, hD9⟩, hS.F ht⟩) hS.2.2 d_Ref_bits_70
set_option maxHeartbeats 4000000 in
set_option maxRecDepth 100000 in
theorem c_Ref_bits_v2 (l : Launch) (dC : Nat → ClassId) (dI : Nat → Nat → Nat) (h0 : Nat) (p0 : Int64) (p2 : Int32) (p3 : Int32) (h1 : Nat) (h2 : Nat) (h3 : Nat) (h4 : Nat) (h5 : Nat) (h6 : Nat) (h7 : Nat) (h8 : Nat) (h9 : Nat) (h10 : Nat) (h11 : Nat) (h12 : Nat) (p4 : Int32) (h13 : Nat) (h14 : Nat) (h15 : Nat) (h16 : Nat) (p5 : Int32) (p6 : Int32) (h17 : Nat) (h18 : Nat) (h19 : Nat) (p7 : Int32) (h20 : Nat) (p9 : Int32) (h21 : Nat) (h22 : Nat) (h23 : Nat) (h24 : Nat) (h25 : Nat) (h26 : Nat) (h27 : Nat) (h28 : Nat) (p10 : Int32) (p11 : Int32) (h29 : Nat) (h30 : Nat) (h31 : Nat) (h32 : Nat) (h33 : Nat) (h34 : Nat) (h35 : Nat) (h36 : Nat) (p12 : Int32) (h37 : Nat) (k19 : ClassId) (f19 : Nat → Int64) (sz : Nat) : Met l y_Ref_bits w_Ref_bits ({ frames := 0, cells := 0, slots := 0, locals := 0 }) (va_Pc [.ref h0, .long p0, .int 3] (fun U => U.heap.size = sz ∧ va_P (dC, dI) classes [oc h0 8 [.int p2, .int p3, .ref h1, .ref h2, .ref h3, .ref h4, .ref h5, .ref h6, .ref h7, .ref h8, .ref h9, .ref h10, .ref h11, .ref h12, .int p4, .ref h13, .ref h14, .ref h15, .ref h16, .int p5, .int p6, .ref h17, .ref h18, .ref h19, .int p7, .ref h20, .int 3, .int p9, .ref h21, .ref h22, .ref h23, .ref h24, .ref h25, .ref h26, .ref h27, .ref h28, .int p10, .int p11, .ref h29, .ref h30, .ref h31, .ref h32, .ref h33, .ref h34, .ref h35, .ref h36, .int p12, .ref h37], la h20 k19 5 f19] U.heap ∧ va_K (dC, dI) classes [(k19, .long)] U ∧ va_D (fun _ => True) [oc h0 8 [.int p2, .int p3, .ref h1, .ref h2, .ref h3, .ref h4, .ref h5, .ref h6, .ref h7, .ref h8, .ref h9, .ref h10, .ref h11, .ref h12, .int p4, .ref h13, .ref h14, .ref h15, .ref h16, .int p5, .int p6, .ref h17, .ref h18, .ref h19, .int p7, .ref h20, .int 3, .int p9, .ref h21, .ref h22, .ref h23, .ref h24, .ref h25, .ref h26, .ref h27, .ref h28, .int p10, .int p11, .ref h29, .ref h30, .ref h31, .ref h32, .ref h33, .ref h34, .ref h35, .ref h36, .int p12, .ref h37], la h20 k19 5 f19] ∧ nw U)) (va_Qv (fun _ : Unit => True) (fun _ t => va_P (dC, dI) classes [oc h0 8 [.int p2, .int p3, .ref h1, .ref h2, .ref h3, .ref h4, .ref h5, .ref h6, .ref h7, .ref h8, .ref h9, .ref h10, .ref h11, .ref h12, .int p4, .ref h13, .ref h14, .ref h15, .ref h16, .int p5, .int p6, .ref h17, .ref h18, .ref h19, .int p7, .ref h20, .int 6, .int p9, .ref h21, .ref h22, .ref h23, .ref h24, .ref h25, .ref h26, .ref h27, .ref h28, .int p10, .int p11, .ref h29, .ref h30, .ref h31, .ref h32, .ref h33, .ref h34, .ref h35, .ref h36, .int p12, .ref h37], la h20 k19 5 (vp_updL f19 0 ((f19 0) ||| (p0 <<< ((3 : Int32).toInt64 &&& 63))))] t.heap ∧ va_K (dC, dI) classes [] t ∧ va_D (va_A [oc h0 8 [.int p2, .int p3, .ref h1, .ref h2, .ref h3, .ref h4, .ref h5, .ref h6, .ref h7, .ref h8, .ref h9, .ref h10, .ref h11, .ref h12, .int p4, .ref h13, .ref h14, .ref h15, .ref h16, .int p5, .int p6, .ref h17, .ref h18, .ref h19, .int p7, .ref h20, .int 3, .int p9, .ref h21, .ref h22, .ref h23, .ref h24, .ref h25, .ref h26, .ref h27, .ref h28, .int p10, .int p11, .ref h29, .ref h30, .ref h31, .ref h32, .ref h33, .ref h34, .ref h35, .ref h36, .int p12, .ref h37], la h20 k19 5 f19] sz) [oc h0 8 [.int p2, .int p3, .ref h1, .ref h2, .ref h3, .ref h4, .ref h5, .ref h6, .ref h7, .ref h8, .ref h9, .ref h10, .ref h11, .ref h12, .int p4, .ref h13, .ref h14, .ref h15, .ref h16, .int p5, .int p6, .ref h17, .ref h18, .ref h19, .int p7, .ref h20, .int 6, .int p9, .ref h21, .ref h22, .ref h23, .ref h24, .ref h25, .ref h26, .ref h27, .ref h28, .int p10, .int p11, .ref h29, .ref h30, .ref h31, .ref h32, .ref h33, .ref h34, .ref h35, .ref h36, .int p12, .ref h37], la h20 k19 5 (vp_updL f19 0 ((f19 0) ||| (p0 <<< ((3 : Int32).toInt64 &&& 63))))]) (va_A [oc h0 8 [.int p2, .int p3, .ref h1, .ref h2, .ref h3, .ref h4, .ref h5, .ref h6, .ref h7, .ref h8, .ref h9, .ref h10, .ref h11, .ref h12, .int p4, .ref h13, .ref h14, .ref h15, .ref h16, .int p5, .int p6, .ref h17, .ref h18, .ref h19, .int p7, .ref h20, .int 3, .int p9, .ref h21, .ref h22, .ref h23, .ref h24, .ref h25, .ref h26, .ref h27, .ref h28, .int p10, .int p11, .ref h29, .ref h30, .ref h31, .ref h32, .ref h33, .ref h34, .ref h35, .ref h36, .int p12, .ref h37], la h20 k19 5 f19] sz)) 0 0 (va_A [oc h0 8 [.int p2, .int p3, .ref h1, .ref h2, .ref h3, .ref h4, .ref h5, .ref h6, .ref h7, .ref h8, .ref h9, .ref h10, .ref h11, .ref h12, .int p4, .ref h13, .ref h14, .ref h15, .ref h16, .int p5, .int p6, .ref h17, .ref h18, .ref h19, .int p7, .ref h20, .int 3, .int p9, .ref h21, .ref h22, .ref h23, .ref h24, .ref h25, .ref h26, .ref h27, .ref h28, .int p10, .int p11, .ref h29, .ref h30, .ref h31, .ref h32, .ref h33, .ref h34, .ref h35, .ref h36, .int p12, .ref h37], la h20 k19 5 f19] sz) := by
  refine Met.ofW (cc := b_Ref_bits) (maxL := 6) (ret := none) (by decide) rfl ?_
  intro p e s m args below meth c s₁ B hml hv
  obtain ⟨rfl, hsz, hP, hK, hD0, hn⟩ := hv
  have hx := B.exec
  have hb := B.bytes
  have hr := B.returns
  have hw := fun w (h : w ∈ wt) => atoms_spec (ws := w_Ref_bits) B.pre w (List.mem_cons_of_mem _ h)
  have hown : s.vm.findClass R_Ref = some m.cls := findClass_of_methodNamed B.named
  have hlocks := B.notSynchronized
  subst hsz
  have hD1 := hD0.self (sz := s.heap.size)
  generalize hAe : va_A [oc h0 8 [.int p2, .int p3, .ref h1, .ref h2, .ref h3, .ref h4, .ref h5, .ref h6, .ref h7, .ref h8, .ref h9, .ref h10, .ref h11, .ref h12, .int p4, .ref h13, .ref h14, .ref h15, .ref h16, .int p5, .int p6, .ref h17, .ref h18, .ref h19, .int p7, .ref h20, .int 3, .int p9, .ref h21, .ref h22, .ref h23, .ref h24, .ref h25, .ref h26, .ref h27, .ref h28, .int p10, .int p11, .ref h29, .ref h30, .ref h31, .ref h32, .ref h33, .ref h34, .ref h35, .ref h36, .int p12, .ref h37], la h20 k19 5 f19] s.heap.size = A at hD1 ⊢
  have hA : ∀ q : Nat, s.heap.size ≤ q → A q := fun q h => by rw [← hAe]; exact Or.inr h
  have hD : dd A [h0, h20] := dd_of hD1 rfl
  clear hAe hD0 hD1
  have hS : va_S A s.heap s.heap [] := va_S.rf
  replace hP : va_P (dC, dI) classes [oc h0 8 [.int p2, .int p3, .ref h1, .ref h2, .ref h3, .ref h4, .ref h5, .ref h6, .ref h7, .ref h8, .ref h9, .ref h10, .ref h11, .ref h12, .int p4, .ref h13, .ref h14, .ref h15, .ref h16, .int p5, .int p6, .ref h17, .ref h18, .ref h19, .int p7, .ref h20, .int 3, .int p9, .ref h21, .ref h22, .ref h23, .ref h24, .ref h25, .ref h26, .ref h27, .ref h28, .int p10, .int p11, .ref h29, .ref h30, .ref h31, .ref h32, .ref h33, .ref h34, .ref h35, .ref h36, .int p12, .ref h37], la h20 k19 5 f19] s.heap := hP
  have hl := lv_entry ([.ref h0, .long p0, .int 3]) (n := 6) (Nat.le_of_ble_eq_true rfl)
  rw [lg_entry_eq]
  generalize (lg_sl ([.ref h0, .long p0, .int 3]) ++ List.replicate (6 - (lg_sl ([.ref h0, .long p0, .int 3])).length) Slot.unset).toArray = ls at hl ⊢
  replace hl : lv_has ls 6 [(0, .ref h0), (1, .long p0), (3, .int 3)] := hl
  refine lv_aload_n hx hb d_Ref_bits_0 rfl (lv_at hl 0 rfl) ?_
  refine va_get (D := (dC, dI)) (ci := 8) (v := .int 3) (C := R_Ref) (T := F_Ref) (N := 48) hx hb hw i_Ref hown hK hP 0 rfl rfl 26 (by decide) (hw _ m_925) (fun _ h9 => h9) rfl d_Ref_bits_1 ?_
  refine lv_bipush (v := 64) hx hb d_Ref_bits_4 (by decide) ?_
  refine lv_idiv hx hb d_Ref_bits_6 (by decide) ?_
  refine tp_i (y := 0) (by first | rfl | decide) ?_
  refine lv_istore (lv' := [(4, .int 0), (0, .ref h0), (1, .long p0), (3, .int 3)]) hx hb d_Ref_bits_7 hl (by decide) rfl ?_
  clear hl ls
  intro ls hl
  refine lv_aload_n hx hb d_Ref_bits_9 rfl (lv_at hl 1 rfl) ?_
  refine va_get (D := (dC, dI)) (ci := 8) (v := .int 3) (C := R_Ref) (T := F_Ref) (N := 48) hx hb hw i_Ref hown hK hP 0 rfl rfl 26 (by decide) (hw _ m_925) (fun _ h9 => h9) rfl d_Ref_bits_10 ?_
  refine lv_bipush (v := 64) hx hb d_Ref_bits_13 (by decide) ?_
  refine lv_irem hx hb d_Ref_bits_15 (by decide) ?_
  refine tp_i (y := 3) (by first | rfl | decide) ?_
  refine lv_istore (lv' := [(5, .int 3), (4, .int 0), (0, .ref h0), (1, .long p0), (3, .int 3)]) hx hb d_Ref_bits_16 hl (by decide) rfl ?_
  clear hl ls
  intro ls hl
  refine lv_aload_n hx hb d_Ref_bits_18 rfl (lv_at hl 2 rfl) ?_
  refine va_get (D := (dC, dI)) (ci := 8) (v := .ref h20) (C := R_Ref) (T := F_Ref) (N := 48) hx hb hw i_Ref hown hK hP 0 rfl rfl 25 (by decide) (hw _ m_924) (fun _ h9 => h9) rfl d_Ref_bits_19 ?_
  refine lv_iload hx hb d_Ref_bits_22 (lv_at hl 1 rfl) ?_
  refine lv_dup2_11 hx hb d_Ref_bits_24 rfl rfl ?_
  refine va_lald (D := (dC, dI)) hx hb hK hP 1 0 rfl rfl (i := 0) (vp_c (by decide)) d_Ref_bits_25 ?_
  refine tp_l (y := f19 0) (by first | rfl | decide) ?_
  refine lv_lload_n hx hb d_Ref_bits_26 rfl (lv_at hl 3 rfl) ?_
  refine lv_iload hx hb d_Ref_bits_27 (lv_at hl 0 rfl) ?_
  refine lv_lshl (v := p0 <<< ((3 : Int32).toInt64 &&& 63)) hx hb d_Ref_bits_29 (by first | rfl | decide) ?_
  refine lv_lor hx hb d_Ref_bits_30 ?_
  refine tp_l (y := (f19 0) ||| (p0 <<< ((3 : Int32).toInt64 &&& 63))) (by first | rfl | decide) ?_
  refine va_last (D := (dC, dI)) hx hb hK hP (dd_D hD rfl) hS 1 0 rfl rfl (i := 0) (x := (f19 0) ||| (p0 <<< ((3 : Int32).toInt64 &&& 63))) (vp_c (by decide)) d_Ref_bits_31 ?_
  clear hP hS
  intro H locs (hP : va_P (dC, dI) classes [oc h0 8 [.int p2, .int p3, .ref h1, .ref h2, .ref h3, .ref h4, .ref h5, .ref h6, .ref h7, .ref h8, .ref h9, .ref h10, .ref h11, .ref h12, .int p4, .ref h13, .ref h14, .ref h15, .ref h16, .int p5, .int p6, .ref h17, .ref h18, .ref h19, .int p7, .ref h20, .int 3, .int p9, .ref h21, .ref h22, .ref h23, .ref h24, .ref h25, .ref h26, .ref h27, .ref h28, .int p10, .int p11, .ref h29, .ref h30, .ref h31, .ref h32, .ref h33, .ref h34, .ref h35, .ref h36, .int p12, .ref h37], la h20 k19 5 (vp_updL f19 0 ((f19 0) ||| (p0 <<< ((3 : Int32).toInt64 &&& 63))))] H) _ hS
  refine tp_pc (pc' := 32) (by rfl) ?_
  refine lv_iload hx hb d_Ref_bits_32 (lv_at hl 0 rfl) ?_
  refine lv_iload_n hx hb d_Ref_bits_34 rfl (lv_at hl 4 rfl) ?_
  refine lv_iadd hx hb d_Ref_bits_35 ?_
  refine tp_i (y := 6) (by first | rfl | decide) ?_
  refine lv_bipush (v := 64) hx hb d_Ref_bits_36 (by decide) ?_
  refine lv_icmp_le (tgt := 60) hx hb d_Ref_bits_38 (by decide) (fun c_1 => ?_) (fun c_1 => absurd c_1 (by decide))
  refine tp_pc (pc' := 60) (by rfl) ?_
  refine lv_aload_n hx hb d_Ref_bits_60 rfl (lv_at hl 2 rfl) ?_
  refine lv_dup hx hb d_Ref_bits_61 rfl ?_
  refine va_get (D := (dC, dI)) (ci := 8) (v := .int 3) (C := R_Ref) (T := F_Ref) (N := 48) hx hb hw i_Ref hown hK hP 0 rfl rfl 26 (by decide) (hw _ m_925) (fun _ h9 => h9) rfl d_Ref_bits_62 ?_
  refine lv_iload_n hx hb d_Ref_bits_65 rfl (lv_at hl 4 rfl) ?_
  refine lv_iadd hx hb d_Ref_bits_66 ?_
  refine tp_i (y := 6) (by first | rfl | decide) ?_
  refine va_put (D := (dC, dI)) (ci := 8) (v := .int 6) (ty := .int) (C := R_Ref) (T := F_Ref) (N := 48) hx hb hw i_Ref t_Ref t_Ref_ok n_Ref hown hK hP (dd_D hD rfl) hS 0 rfl rfl 26 (by decide) (hw _ m_925) (fun _ h9 => h9) rfl (by decide +kernel) rfl rfl (Nat.le_of_ble_eq_true rfl) d_Ref_bits_67 ?_
  clear hP hS locs H
  intro H locs (hP : va_P (dC, dI) classes [oc h0 8 [.int p2, .int p3, .ref h1, .ref h2, .ref h3, .ref h4, .ref h5, .ref h6, .ref h7, .ref h8, .ref h9, .ref h10, .ref h11, .ref h12, .int p4, .ref h13, .ref h14, .ref h15, .ref h16, .int p5, .int p6, .ref h17, .ref h18, .ref h19, .int p7, .ref h20, .int 6, .int p9, .ref h21, .ref h22, .ref h23, .ref h24, .ref h25, .ref h26, .ref h27, .ref h28, .int p10, .int p11, .ref h29, .ref h30, .ref h31, .ref h32, .ref h33, .ref h34, .ref h35, .ref h36, .int p12, .ref h37], la h20 k19 5 (vp_updL f19 0 ((f19 0) ||| (p0 <<< ((3 : Int32).toInt64 &&& 63))))] H) _ hS
  refine tp_pc (pc' := 70) (by rfl) ?_
  obtain ⟨hP9, hD9, -⟩ := cut3 (wc := [oc h0 8 [.int p2, .int p3, .ref h1, .ref h2, .ref h3, .ref h4, .ref h5, .ref h6, .ref h7, .ref h8, .ref h9, .ref h10, .ref h11, .ref h12, .int p4, .ref h13, .ref h14, .ref h15, .ref h16, .int p5, .int p6, .ref h17, .ref h18, .ref h19, .int p7, .ref h20, .int 6, .int p9, .ref h21, .ref h22, .ref h23, .ref h24, .ref h25, .ref h26, .ref h27, .ref h28, .int p10, .int p11, .ref h29, .ref h30, .ref h31, .ref h32, .ref h33, .ref h34, .ref h35, .ref h36, .int p12, .ref h37], la h20 k19 5 (vp_updL f19 0 ((f19 0) ||| (p0 <<< ((3 : Int32).toInt64 &&& 63))))]) hP hD rfl hS hA [0, 1] (by decide +kernel) rfl
  have hK9 := hK.sub (tys' := []) [] rfl
  refine W.widen (k := 0) (n := 0) (by exact Nat.le_of_ble_eq_true rfl) (by exact Nat.le_of_ble_eq_true rfl) ?_
  exact W.vret hx hb hr (fun t ht hW => ⟨⟨(), rfl, trivial, by rw [ht]; exact hP9, va_K.moved hW.alike hK9, hD9⟩, hS.F ht⟩) hS.2.2 d_Ref_bits_70
set_option maxHeartbeats 4000000 in
set_option maxRecDepth 100000 in
theorem c_Ref_bits_v3 (l : Launch) (dC : Nat → ClassId) (dI : Nat → Nat → Nat) (h0 : Nat) (p0 : Int64) (p2 : Int32) (p3 : Int32) (h1 : Nat) (h2 : Nat) (h3 : Nat) (h4 : Nat) (h5 : Nat) (h6 : Nat) (h7 : Nat) (h8 : Nat) (h9 : Nat) (h10 : Nat) (h11 : Nat) (h12 : Nat) (p4 : Int32) (h13 : Nat) (h14 : Nat) (h15 : Nat) (h16 : Nat) (p5 : Int32) (p6 : Int32) (h17 : Nat) (h18 : Nat) (h19 : Nat) (p7 : Int32) (h20 : Nat) (p9 : Int32) (h21 : Nat) (h22 : Nat) (h23 : Nat) (h24 : Nat) (h25 : Nat) (h26 : Nat) (h27 : Nat) (h28 : Nat) (p10 : Int32) (p11 : Int32) (h29 : Nat) (h30 : Nat) (h31 : Nat) (h32 : Nat) (h33 : Nat) (h34 : Nat) (h35 : Nat) (h36 : Nat) (p12 : Int32) (h37 : Nat) (k19 : ClassId) (f19 : Nat → Int64) (sz : Nat) : Met l y_Ref_bits w_Ref_bits ({ frames := 0, cells := 0, slots := 0, locals := 0 }) (va_Pc [.ref h0, .long p0, .int 3] (fun U => U.heap.size = sz ∧ va_P (dC, dI) classes [oc h0 8 [.int p2, .int p3, .ref h1, .ref h2, .ref h3, .ref h4, .ref h5, .ref h6, .ref h7, .ref h8, .ref h9, .ref h10, .ref h11, .ref h12, .int p4, .ref h13, .ref h14, .ref h15, .ref h16, .int p5, .int p6, .ref h17, .ref h18, .ref h19, .int p7, .ref h20, .int 6, .int p9, .ref h21, .ref h22, .ref h23, .ref h24, .ref h25, .ref h26, .ref h27, .ref h28, .int p10, .int p11, .ref h29, .ref h30, .ref h31, .ref h32, .ref h33, .ref h34, .ref h35, .ref h36, .int p12, .ref h37], la h20 k19 5 f19] U.heap ∧ va_K (dC, dI) classes [(k19, .long)] U ∧ va_D (fun _ => True) [oc h0 8 [.int p2, .int p3, .ref h1, .ref h2, .ref h3, .ref h4, .ref h5, .ref h6, .ref h7, .ref h8, .ref h9, .ref h10, .ref h11, .ref h12, .int p4, .ref h13, .ref h14, .ref h15, .ref h16, .int p5, .int p6, .ref h17, .ref h18, .ref h19, .int p7, .ref h20, .int 6, .int p9, .ref h21, .ref h22, .ref h23, .ref h24, .ref h25, .ref h26, .ref h27, .ref h28, .int p10, .int p11, .ref h29, .ref h30, .ref h31, .ref h32, .ref h33, .ref h34, .ref h35, .ref h36, .int p12, .ref h37], la h20 k19 5 f19] ∧ nw U)) (va_Qv (fun _ : Unit => True) (fun _ t => va_P (dC, dI) classes [oc h0 8 [.int p2, .int p3, .ref h1, .ref h2, .ref h3, .ref h4, .ref h5, .ref h6, .ref h7, .ref h8, .ref h9, .ref h10, .ref h11, .ref h12, .int p4, .ref h13, .ref h14, .ref h15, .ref h16, .int p5, .int p6, .ref h17, .ref h18, .ref h19, .int p7, .ref h20, .int 9, .int p9, .ref h21, .ref h22, .ref h23, .ref h24, .ref h25, .ref h26, .ref h27, .ref h28, .int p10, .int p11, .ref h29, .ref h30, .ref h31, .ref h32, .ref h33, .ref h34, .ref h35, .ref h36, .int p12, .ref h37], la h20 k19 5 (vp_updL f19 0 ((f19 0) ||| (p0 <<< ((6 : Int32).toInt64 &&& 63))))] t.heap ∧ va_K (dC, dI) classes [] t ∧ va_D (va_A [oc h0 8 [.int p2, .int p3, .ref h1, .ref h2, .ref h3, .ref h4, .ref h5, .ref h6, .ref h7, .ref h8, .ref h9, .ref h10, .ref h11, .ref h12, .int p4, .ref h13, .ref h14, .ref h15, .ref h16, .int p5, .int p6, .ref h17, .ref h18, .ref h19, .int p7, .ref h20, .int 6, .int p9, .ref h21, .ref h22, .ref h23, .ref h24, .ref h25, .ref h26, .ref h27, .ref h28, .int p10, .int p11, .ref h29, .ref h30, .ref h31, .ref h32, .ref h33, .ref h34, .ref h35, .ref h36, .int p12, .ref h37], la h20 k19 5 f19] sz) [oc h0 8 [.int p2, .int p3, .ref h1, .ref h2, .ref h3, .ref h4, .ref h5, .ref h6, .ref h7, .ref h8, .ref h9, .ref h10, .ref h11, .ref h12, .int p4, .ref h13, .ref h14, .ref h15, .ref h16, .int p5, .int p6, .ref h17, .ref h18, .ref h19, .int p7, .ref h20, .int 9, .int p9, .ref h21, .ref h22, .ref h23, .ref h24, .ref h25, .ref h26, .ref h27, .ref h28, .int p10, .int p11, .ref h29, .ref h30, .ref h31, .ref h32, .ref h33, .ref h34, .ref h35, .ref h36, .int p12, .ref h37], la h20 k19 5 (vp_updL f19 0 ((f19 0) ||| (p0 <<< ((6 : Int32).toInt64 &&& 63))))]) (va_A [oc h0 8 [.int p2, .int p3, .ref h1, .ref h2, .ref h3, .ref h4, .ref h5, .ref h6, .ref h7, .ref h8, .ref h9, .ref h10, .ref h11, .ref h12, .int p4, .ref h13, .ref h14, .ref h15, .ref h16, .int p5, .int p6, .ref h17, .ref h18, .ref h19, .int p7, .ref h20, .int 6, .int p9, .ref h21, .ref h22, .ref h23, .ref h24, .ref h25, .ref h26, .ref h27, .ref h28, .int p10, .int p11, .ref h29, .ref h30, .ref h31, .ref h32, .ref h33, .ref h34, .ref h35, .ref h36, .int p12, .ref h37], la h20 k19 5 f19] sz)) 0 0 (va_A [oc h0 8 [.int p2, .int p3, .ref h1, .ref h2, .ref h3, .ref h4, .ref h5, .ref h6, .ref h7, .ref h8, .ref h9, .ref h10, .ref h11, .ref h12, .int p4, .ref h13, .ref h14, .ref h15, .ref h16, .int p5, .int p6, .ref h17, .ref h18, .ref h19, .int p7, .ref h20, .int 6, .int p9, .ref h21, .ref h22, .ref h23, .ref h24, .ref h25, .ref h26, .ref h27, .ref h28, .int p10, .int p11, .ref h29, .ref h30, .ref h31, .ref h32, .ref h33, .ref h34, .ref h35, .ref h36, .int p12, .ref h37], la h20 k19 5 f19] sz) := by
  refine Met.ofW (cc := b_Ref_bits) (maxL := 6) (ret := none) (by decide) rfl ?_
  intro p e s m args below meth c s₁ B hml hv
  obtain ⟨rfl, hsz, hP, hK, hD0, hn⟩ := hv
  have hx := B.exec
  have hb := B.bytes
  have hr := B.returns
  have hw := fun w (h : w ∈ wt) => atoms_spec (ws := w_Ref_bits) B.pre w (List.mem_cons_of_mem _ h)
  have hown : s.vm.findClass R_Ref = some m.cls := findClass_of_methodNamed B.named
  have hlocks := B.notSynchronized
  subst hsz
  have hD1 := hD0.self (sz := s.heap.size)
  generalize hAe : va_A [oc h0 8 [.int p2, .int p3, .ref h1, .ref h2, .ref h3, .ref h4, .ref h5, .ref h6, .ref h7, .ref h8, .ref h9, .ref h10, .ref h11, .ref h12, .int p4, .ref h13, .ref h14, .ref h15, .ref h16, .int p5, .int p6, .ref h17, .ref h18, .ref h19, .int p7, .ref h20, .int 6, .int p9, .ref h21, .ref h22, .ref h23, .ref h24, .ref h25, .ref h26, .ref h27, .ref h28, .int p10, .int p11, .ref h29, .ref h30, .ref h31, .ref h32, .ref h33, .ref h34, .ref h35, .ref h36, .int p12, .ref h37], la h20 k19 5 f19] s.heap.size = A at hD1 ⊢
  have hA : ∀ q : Nat, s.heap.size ≤ q → A q := fun q h => by rw [← hAe]; exact Or.inr h
  have hD : dd A [h0, h20] := dd_of hD1 rfl
  clear hAe hD0 hD1
  have hS : va_S A s.heap s.heap [] := va_S.rf
  replace hP : va_P (dC, dI) classes [oc h0 8 [.int p2, .int p3, .ref h1, .ref h2, .ref h3, .ref h4, .ref h5, .ref h6, .ref h7, .ref h8, .ref h9, .ref h10, .ref h11, .ref h12, .int p4, .ref h13, .ref h14, .ref h15, .ref h16, .int p5, .int p6, .ref h17, .ref h18, .ref h19, .int p7, .ref h20, .int 6, .int p9, .ref h21, .ref h22, .ref h23, .ref h24, .ref h25, .ref h26, .ref h27, .ref h28, .int p10, .int p11, .ref h29, .ref h30, .ref h31, .ref h32, .ref h33, .ref h34, .ref h35, .ref h36, .int p12, .ref h37], la h20 k19 5 f19] s.heap := hP
  have hl := lv_entry ([.ref h0, .long p0, .int 3]) (n := 6) (Nat.le_of_ble_eq_true rfl)
  rw [lg_entry_eq]
  generalize (lg_sl ([.ref h0, .long p0, .int 3]) ++ List.replicate (6 - (lg_sl ([.ref h0, .long p0, .int 3])).length) Slot.unset).toArray = ls at hl ⊢
  replace hl : lv_has ls 6 [(0, .ref h0), (1, .long p0), (3, .int 3)] := hl
  refine lv_aload_n hx hb d_Ref_bits_0 rfl (lv_at hl 0 rfl) ?_
  refine va_get (D := (dC, dI)) (ci := 8) (v := .int 6) (C := R_Ref) (T := F_Ref) (N := 48) hx hb hw i_Ref hown hK hP 0 rfl rfl 26 (by decide) (hw _ m_925) (fun _ h9 => h9) rfl d_Ref_bits_1 ?_
  refine lv_bipush (v := 64) hx hb d_Ref_bits_4 (by decide) ?_
  refine lv_idiv hx hb d_Ref_bits_6 (by decide) ?_
  refine tp_i (y := 0) (by first | rfl | decide) ?_
  refine lv_istore (lv' := [(4, .int 0), (0, .ref h0), (1, .long p0), (3, .int 3)]) hx hb d_Ref_bits_7 hl (by decide) rfl ?_
  clear hl ls
  intro ls hl
  refine lv_aload_n hx hb d_Ref_bits_9 rfl (lv_at hl 1 rfl) ?_
  refine va_get (D := (dC, dI)) (ci := 8) (v := .int 6) (C := R_Ref) (T := F_Ref) (N := 48) hx hb hw i_Ref hown hK hP 0 rfl rfl 26 (by decide) (hw _ m_925) (fun _ h9 => h9) rfl d_Ref_bits_10 ?_
  refine lv_bipush (v := 64) hx hb d_Ref_bits_13 (by decide) ?_
  refine lv_irem hx hb d_Ref_bits_15 (by decide) ?_
  refine tp_i (y := 6) (by first | rfl | decide) ?_
  refine lv_istore (lv' := [(5, .int 6), (4, .int 0), (0, .ref h0), (1, .long p0), (3, .int 3)]) hx hb d_Ref_bits_16 hl (by decide) rfl ?_
  clear hl ls
  intro ls hl
  refine lv_aload_n hx hb d_Ref_bits_18 rfl (lv_at hl 2 rfl) ?_
  refine va_get (D := (dC, dI)) (ci := 8) (v := .ref h20) (C := R_Ref) (T := F_Ref) (N := 48) hx hb hw i_Ref hown hK hP 0 rfl rfl 25 (by decide) (hw _ m_924) (fun _ h9 => h9) rfl d_Ref_bits_19 ?_
  refine lv_iload hx hb d_Ref_bits_22 (lv_at hl 1 rfl) ?_
  refine lv_dup2_11 hx hb d_Ref_bits_24 rfl rfl ?_
  refine va_lald (D := (dC, dI)) hx hb hK hP 1 0 rfl rfl (i := 0) (vp_c (by decide)) d_Ref_bits_25 ?_
  refine tp_l (y := f19 0) (by first | rfl | decide) ?_
  refine lv_lload_n hx hb d_Ref_bits_26 rfl (lv_at hl 3 rfl) ?_
  refine lv_iload hx hb d_Ref_bits_27 (lv_at hl 0 rfl) ?_
  refine lv_lshl (v := p0 <<< ((6 : Int32).toInt64 &&& 63)) hx hb d_Ref_bits_29 (by first | rfl | decide) ?_
  refine lv_lor hx hb d_Ref_bits_30 ?_
  refine tp_l (y := (f19 0) ||| (p0 <<< ((6 : Int32).toInt64 &&& 63))) (by first | rfl | decide) ?_
  refine va_last (D := (dC, dI)) hx hb hK hP (dd_D hD rfl) hS 1 0 rfl rfl (i := 0) (x := (f19 0) ||| (p0 <<< ((6 : Int32).toInt64 &&& 63))) (vp_c (by decide)) d_Ref_bits_31 ?_
  clear hP hS
  intro H locs (hP : va_P (dC, dI) classes [oc h0 8 [.int p2, .int p3, .ref h1, .ref h2, .ref h3, .ref h4, .ref h5, .ref h6, .ref h7, .ref h8, .ref h9, .ref h10, .ref h11, .ref h12, .int p4, .ref h13, .ref h14, .ref h15, .ref h16, .int p5, .int p6, .ref h17, .ref h18, .ref h19, .int p7, .ref h20, .int 6, .int p9, .ref h21, .ref h22, .ref h23, .ref h24, .ref h25, .ref h26, .ref h27, .ref h28, .int p10, .int p11, .ref h29, .ref h30, .ref h31, .ref h32, .ref h33, .ref h34, .ref h35, .ref h36, .int p12, .ref h37], la h20 k19 5 (vp_updL f19 0 ((f19 0) ||| (p0 <<< ((6 : Int32).toInt64 &&& 63))))] H) _ hS
  refine tp_pc (pc' := 32) (by rfl) ?_
  refine lv_iload hx hb d_Ref_bits_32 (lv_at hl 0 rfl) ?_
  refine lv_iload_n hx hb d_Ref_bits_34 rfl (lv_at hl 4 rfl) ?_
  refine lv_iadd hx hb d_Ref_bits_35 ?_
  refine tp_i (y := 9) (by first | rfl | decide) ?_
  refine lv_bipush (v := 64) hx hb d_Ref_bits_36 (by decide) ?_
  refine lv_icmp_le (tgt := 60) hx hb d_Ref_bits_38 (by decide) (fun c_1 => ?_) (fun c_1 => absurd c_1 (by decide))
  refine tp_pc (pc' := 60) (by rfl) ?_
  refine lv_aload_n hx hb d_Ref_bits_60 rfl (lv_at hl 2 rfl) ?_
  refine lv_dup hx hb d_Ref_bits_61 rfl ?_
  refine va_get (D := (dC, dI)) (ci := 8) (v := .int 6) (C := R_Ref) (T := F_Ref) (N := 48) hx hb hw i_Ref hown hK hP 0 rfl rfl 26 (by decide) (hw _ m_925) (fun _ h9 => h9) rfl d_Ref_bits_62 ?_
  refine lv_iload_n hx hb d_Ref_bits_65 rfl (lv_at hl 4 rfl) ?_
  refine lv_iadd hx hb d_Ref_bits_66 ?_
  refine tp_i (y := 9) (by first | rfl | decide) ?_
  refine va_put (D := (dC, dI)) (ci := 8) (v := .int 9) (ty := .int) (C := R_Ref) (T := F_Ref) (N := 48) hx hb hw i_Ref t_Ref t_Ref_ok n_Ref hown hK hP (dd_D hD rfl) hS 0 rfl rfl 26 (by decide) (hw _ m_925) (fun _ h9 => h9) rfl (by decide +kernel) rfl rfl (Nat.le_of_ble_eq_true rfl) d_Ref_bits_67 ?_
  clear hP hS locs H
  intro H locs (hP : va_P (dC, dI) classes [oc h0 8 [.int p2, .int p3, .ref h1, .ref h2, .ref h3, .ref h4, .ref h5, .ref h6, .ref h7, .ref h8, .ref h9, .ref h10, .ref h11, .ref h12, .int p4, .ref h13, .ref h14, .ref h15, .ref h16, .int p5, .int p6, .ref h17, .ref h18, .ref h19, .int p7, .ref h20, .int 9, .int p9, .ref h21, .ref h22, .ref h23, .ref h24, .ref h25, .ref h26, .ref h27, .ref h28, .int p10, .int p11, .ref h29, .ref h30, .ref h31, .ref h32, .ref h33, .ref h34, .ref h35, .ref h36, .int p12, .ref h37], la h20 k19 5 (vp_updL f19 0 ((f19 0) ||| (p0 <<< ((6 : Int32).toInt64 &&& 63))))] H) _ hS
  refine tp_pc (pc' := 70) (by rfl) ?_
  obtain ⟨hP9, hD9, -⟩ := cut3 (wc := [oc h0 8 [.int p2, .int p3, .ref h1, .ref h2, .ref h3, .ref h4, .ref h5, .ref h6, .ref h7, .ref h8, .ref h9, .ref h10, .ref h11, .ref h12, .int p4, .ref h13, .ref h14, .ref h15, .ref h16, .int p5, .int p6, .ref h17, .ref h18, .ref h19, .int p7, .ref h20, .int 9, .int p9, .ref h21, .ref h22, .ref h23, .ref h24, .ref h25, .ref h26, .ref h27, .ref h28, .int p10, .int p11, .ref h29, .ref h30, .ref h31, .ref h32, .ref h33, .ref h34, .ref h35, .ref h36, .int p12, .ref h37], la h20 k19 5 (vp_updL f19 0 ((f19 0) ||| (p0 <<< ((6 : Int32).toInt64 &&& 63))))]) hP hD rfl hS hA [0, 1] (by decide +kernel) rfl
  have hK9 := hK.sub (tys' := []) [] rfl
  refine W.widen (k := 0) (n := 0) (by exact Nat.le_of_ble_eq_true rfl) (by exact Nat.le_of_ble_eq_true rfl) ?_
  exact W.vret hx hb hr (fun t ht hW => ⟨⟨(), rfl, trivial, by rw [ht]; exact hP9, va_K.moved hW.alike hK9, hD9⟩, hS.F ht⟩) hS.2.2 d_Ref_bits_70
set_option maxHeartbeats 4000000 in
set_option maxRecDepth 100000 in
theorem c_Ref_bits_v4 (l : Launch) (dC : Nat → ClassId) (dI : Nat → Nat → Nat) (h0 : Nat) (p0 : Int64) (p2 : Int32) (p3 : Int32) (h1 : Nat) (h2 : Nat) (h3 : Nat) (h4 : Nat) (h5 : Nat) (h6 : Nat) (h7 : Nat) (h8 : Nat) (h9 : Nat) (h10 : Nat) (h11 : Nat) (h12 : Nat) (p4 : Int32) (h13 : Nat) (h14 : Nat) (h15 : Nat) (h16 : Nat) (p5 : Int32) (p6 : Int32) (h17 : Nat) (h18 : Nat) (h19 : Nat) (p7 : Int32) (h20 : Nat) (p9 : Int32) (h21 : Nat) (h22 : Nat) (h23 : Nat) (h24 : Nat) (h25 : Nat) (h26 : Nat) (h27 : Nat) (h28 : Nat) (p10 : Int32) (p11 : Int32) (h29 : Nat) (h30 : Nat) (h31 : Nat) (h32 : Nat) (h33 : Nat) (h34 : Nat) (h35 : Nat) (h36 : Nat) (p12 : Int32) (h37 : Nat) (k19 : ClassId) (f19 : Nat → Int64) (sz : Nat) : Met l y_Ref_bits w_Ref_bits ({ frames := 0, cells := 0, slots := 0, locals := 0 }) (va_Pc [.ref h0, .long p0, .int 3] (fun U => U.heap.size = sz ∧ va_P (dC, dI) classes [oc h0 8 [.int p2, .int p3, .ref h1, .ref h2, .ref h3, .ref h4, .ref h5, .ref h6, .ref h7, .ref h8, .ref h9, .ref h10, .ref h11, .ref h12, .int p4, .ref h13, .ref h14, .ref h15, .ref h16, .int p5, .int p6, .ref h17, .ref h18, .ref h19, .int p7, .ref h20, .int 9, .int p9, .ref h21, .ref h22, .ref h23, .ref h24, .ref h25, .ref h26, .ref h27, .ref h28, .int p10, .int p11, .ref h29, .ref h30, .ref h31, .ref h32, .ref h33, .ref h34, .ref h35, .ref h36, .int p12, .ref h37], la h20 k19 5 f19] U.heap ∧ va_K (dC, dI) classes [(k19, .long)] U ∧ va_D (fun _ => True) [oc h0 8 [.int p2, .int p3, .ref h1, .ref h2, .ref h3, .ref h4, .ref h5, .ref h6, .ref h7, .ref h8, .ref h9, .ref h10, .ref h11, .ref h12, .int p4, .ref h13, .ref h14, .ref h15, .ref h16, .int p5, .int p6, .ref h17, .ref h18, .ref h19, .int p7, .ref h20, .int 9, .int p9, .ref h21, .ref h22, .ref h23, .ref h24, .ref h25, .ref h26, .ref h27, .ref h28, .int p10, .int p11, .ref h29, .ref h30, .ref h31, .ref h32, .ref h33, .ref h34, .ref h35, .ref h36, .int p12, .ref h37], la h20 k19 5 f19] ∧ nw U)) (va_Qv (fun _ : Unit => True) (fun _ t => va_P (dC, dI) classes [oc h0 8 [.int p2, .int p3, .ref h1, .ref h2, .ref h3, .ref h4, .ref h5, .ref h6, .ref h7, .ref h8, .ref h9, .ref h10, .ref h11, .ref h12, .int p4, .ref h13, .ref h14, .ref h15, .ref h16, .int p5, .int p6, .ref h17, .ref h18, .ref h19, .int p7, .ref h20, .int 12, .int p9, .ref h21, .ref h22, .ref h23, .ref h24, .ref h25, .ref h26, .ref h27, .ref h28, .int p10, .int p11, .ref h29, .ref h30, .ref h31, .ref h32, .ref h33, .ref h34, .ref h35, .ref h36, .int p12, .ref h37], la h20 k19 5 (vp_updL f19 0 ((f19 0) ||| (p0 <<< ((9 : Int32).toInt64 &&& 63))))] t.heap ∧ va_K (dC, dI) classes [] t ∧ va_D (va_A [oc h0 8 [.int p2, .int p3, .ref h1, .ref h2, .ref h3, .ref h4, .ref h5, .ref h6, .ref h7, .ref h8, .ref h9, .ref h10, .ref h11, .ref h12, .int p4, .ref h13, .ref h14, .ref h15, .ref h16, .int p5, .int p6, .ref h17, .ref h18, .ref h19, .int p7, .ref h20, .int 9, .int p9, .ref h21, .ref h22, .ref h23, .ref h24, .ref h25, .ref h26, .ref h27, .ref h28, .int p10, .int p11, .ref h29, .ref h30, .ref h31, .ref h32, .ref h33, .ref h34, .ref h35, .ref h36, .int p12, .ref h37], la h20 k19 5 f19] sz) [oc h0 8 [.int p2, .int p3, .ref h1, .ref h2, .ref h3, .ref h4, .ref h5, .ref h6, .ref h7, .ref h8, .ref h9, .ref h10, .ref h11, .ref h12, .int p4, .ref h13, .ref h14, .ref h15, .ref h16, .int p5, .int p6, .ref h17, .ref h18, .ref h19, .int p7, .ref h20, .int 12, .int p9, .ref h21, .ref h22, .ref h23, .ref h24, .ref h25, .ref h26, .ref h27, .ref h28, .int p10, .int p11, .ref h29, .ref h30, .ref h31, .ref h32, .ref h33, .ref h34, .ref h35, .ref h36, .int p12, .ref h37], la h20 k19 5 (vp_updL f19 0 ((f19 0) ||| (p0 <<< ((9 : Int32).toInt64 &&& 63))))]) (va_A [oc h0 8 [.int p2, .int p3, .ref h1, .ref h2, .ref h3, .ref h4, .ref h5, .ref h6, .ref h7, .ref h8, .ref h9, .ref h10, .ref h11, .ref h12, .int p4, .ref h13, .ref h14, .ref h15, .ref h16, .int p5, .int p6, .ref h17, .ref h18, .ref h19, .int p7, .ref h20, .int 9, .int p9, .ref h21, .ref h22, .ref h23, .ref h24, .ref h25, .ref h26, .ref h27, .ref h28, .int p10, .int p11, .ref h29, .ref h30, .ref h31, .ref h32, .ref h33, .ref h34, .ref h35, .ref h36, .int p12, .ref h37], la h20 k19 5 f19] sz)) 0 0 (va_A [oc h0 8 [.int p2, .int p3, .ref h1, .ref h2, .ref h3, .ref h4, .ref h5, .ref h6, .ref h7, .ref h8, .ref h9, .ref h10, .ref h11, .ref h12, .int p4, .ref h13, .ref h14, .ref h15, .ref h16, .int p5, .int p6, .ref h17, .ref h18, .ref h19, .int p7, .ref h20, .int 9, .int p9, .ref h21, .ref h22, .ref h23, .ref h24, .ref h25, .ref h26, .ref h27, .ref h28, .int p10, .int p11, .ref h29, .ref h30, .ref h31, .ref h32, .ref h33, .ref h34, .ref h35, .ref h36, .int p12, .ref h37], la h20 k19 5 f19] sz) := by
  refine Met.ofW (cc := b_Ref_bits) (maxL := 6) (ret := none) (by decide) rfl ?_
  intro p e s m args below meth c s₁ B hml hv
  obtain ⟨rfl, hsz, hP, hK, hD0, hn⟩ := hv
  have hx := B.exec
  have hb := B.bytes
  have hr := B.returns
  have hw := fun w (h : w ∈ wt) => atoms_spec (ws := w_Ref_bits) B.pre w (List.mem_cons_of_mem _ h)
  have hown : s.vm.findClass R_Ref = some m.cls := findClass_of_methodNamed B.named
  have hlocks := B.notSynchronized
  subst hsz
  have hD1 := hD0.self (sz := s.heap.size)
  generalize hAe : va_A [oc h0 8 [.int p2, .int p3, .ref h1, .ref h2, .ref h3, .ref h4, .ref h5, .ref h6, .ref h7, .ref h8, .ref h9, .ref h10, .ref h11, .ref h12, .int p4, .ref h13, .ref h14, .ref h15, .ref h16, .int p5, .int p6, .ref h17, .ref h18, .ref h19, .int p7, .ref h20, .int 9, .int p9, .ref h21, .ref h22, .ref h23, .ref h24, .ref h25, .ref h26, .ref h27, .ref h28, .int p10, .int p11, .ref h29, .ref h30, .ref h31, .ref h32, .ref h33, .ref h34, .ref h35, .ref h36, .int p12, .ref h37], la h20 k19 5 f19] s.heap.size = A at hD1 ⊢
  have hA : ∀ q : Nat, s.heap.size ≤ q → A q := fun q h => by rw [← hAe]; exact Or.inr h
  have hD : dd A [h0, h20] := dd_of hD1 rfl
  clear hAe hD0 hD1
  have hS : va_S A s.heap s.heap [] := va_S.rf
  replace hP : va_P (dC, dI) classes [oc h0 8 [.int p2, .int p3, .ref h1, .ref h2, .ref h3, .ref h4, .ref h5, .ref h6, .ref h7, .ref h8, .ref h9, .ref h10, .ref h11, .ref h12, .int p4, .ref h13, .ref h14, .ref h15, .ref h16, .int p5, .int p6, .ref h17, .ref h18, .ref h19, .int p7, .ref h20, .int 9, .int p9, .ref h21, .ref h22, .ref h23, .ref h24, .ref h25, .ref h26, .ref h27, .ref h28, .int p10, .int p11, .ref h29, .ref h30, .ref h31, .ref h32, .ref h33, .ref h34, .ref h35, .ref h36, .int p12, .ref h37], la h20 k19 5 f19] s.heap := hP
  have hl := lv_entry ([.ref h0, .long p0, .int 3]) (n := 6) (Nat.le_of_ble_eq_true rfl)
  rw [lg_entry_eq]
  generalize (lg_sl ([.ref h0, .long p0, .int 3]) ++ List.replicate (6 - (lg_sl ([.ref h0, .long p0, .int 3])).length) Slot.unset).toArray = ls at hl ⊢
  replace hl : lv_has ls 6 [(0, .ref h0), (1, .long p0), (3, .int 3)] := hl
  refine lv_aload_n hx hb d_Ref_bits_0 rfl (lv_at hl 0 rfl) ?_
  refine va_get (D := (dC, dI)) (ci := 8) (v := .int 9) (C := R_Ref) (T := F_Ref) (N := 48) hx hb hw i_Ref hown hK hP 0 rfl rfl 26 (by decide) (hw _ m_925) (fun _ h9 => h9) rfl d_Ref_bits_1 ?_
  refine lv_bipush (v := 64) hx hb d_Ref_bits_4 (by decide) ?_
  refine lv_idiv hx hb d_Ref_bits_6 (by decide) ?_
  refine tp_i (y := 0) (by first | rfl | decide) ?_
  refine lv_istore (lv' := [(4, .int 0), (0, .ref h0), (1, .long p0), (3, .int 3)]) hx hb d_Ref_bits_7 hl (by decide) rfl ?_
  clear hl ls
  intro ls hl
  refine lv_aload_n hx hb d_Ref_bits_9 rfl (lv_at hl 1 rfl) ?_
  refine va_get (D := (dC, dI)) (ci := 8) (v := .int 9) (C := R_Ref) (T := F_Ref) (N := 48) hx hb hw i_Ref hown hK hP 0 rfl rfl 26 (by decide) (hw _ m_925) (fun _ h9 => h9) rfl d_Ref_bits_10 ?_
  refine lv_bipush (v := 64) hx hb d_Ref_bits_13 (by decide) ?_
  refine lv_irem hx hb d_Ref_bits_15 (by decide) ?_
  refine tp_i (y := 9) (by first | rfl | decide) ?_
  refine lv_istore (lv' := [(5, .int 9), (4, .int 0), (0, .ref h0), (1, .long p0), (3, .int 3)]) hx hb d_Ref_bits_16 hl (by decide) rfl ?_
  clear hl ls
  intro ls hl
  refine lv_aload_n hx hb d_Ref_bits_18 rfl (lv_at hl 2 rfl) ?_
  refine va_get (D := (dC, dI)) (ci := 8) (v := .ref h20) (C := R_Ref) (T := F_Ref) (N := 48) hx hb hw i_Ref hown hK hP 0 rfl rfl 25 (by decide) (hw _ m_924) (fun _ h9 => h9) rfl d_Ref_bits_19 ?_
  refine lv_iload hx hb d_Ref_bits_22 (lv_at hl 1 rfl) ?_
  refine lv_dup2_11 hx hb d_Ref_bits_24 rfl rfl ?_
  refine va_lald (D := (dC, dI)) hx hb hK hP 1 0 rfl rfl (i := 0) (vp_c (by decide)) d_Ref_bits_25 ?_
  refine tp_l (y := f19 0) (by first | rfl | decide) ?_
  refine lv_lload_n hx hb d_Ref_bits_26 rfl (lv_at hl 3 rfl) ?_
  refine lv_iload hx hb d_Ref_bits_27 (lv_at hl 0 rfl) ?_
  refine lv_lshl (v := p0 <<< ((9 : Int32).toInt64 &&& 63)) hx hb d_Ref_bits_29 (by first | rfl | decide) ?_
  refine lv_lor hx hb d_Ref_bits_30 ?_
  refine tp_l (y := (f19 0) ||| (p0 <<< ((9 : Int32).toInt64 &&& 63))) (by first | rfl | decide) ?_
  refine va_last (D := (dC, dI)) hx hb hK hP (dd_D hD rfl) hS 1 0 rfl rfl (i := 0) (x := (f19 0) ||| (p0 <<< ((9 : Int32).toInt64 &&& 63))) (vp_c (by decide)) d_Ref_bits_31 ?_
  clear hP hS
  intro H locs (hP : va_P (dC, dI) classes [oc h0 8 [.int p2, .int p3, .ref h1, .ref h2, .ref h3, .ref h4, .ref h5, .ref h6, .ref h7, .ref h8, .ref h9, .ref h10, .ref h11, .ref h12, .int p4, .ref h13, .ref h14, .ref h15, .ref h16, .int p5, .int p6, .ref h17, .ref h18, .ref h19, .int p7, .ref h20, .int 9, .int p9, .ref h21, .ref h22, .ref h23, .ref h24, .ref h25, .ref h26, .ref h27, .ref h28, .int p10, .int p11, .ref h29, .ref h30, .ref h31, .ref h32, .ref h33, .ref h34, .ref h35, .ref h36, .int p12, .ref h37], la h20 k19 5 (vp_updL f19 0 ((f19 0) ||| (p0 <<< ((9 : Int32).toInt64 &&& 63))))] H) _ hS
  refine tp_pc (pc' := 32) (by rfl) ?_
  refine lv_iload hx hb d_Ref_bits_32 (lv_at hl 0 rfl) ?_
  refine lv_iload_n hx hb d_Ref_bits_34 rfl (lv_at hl 4 rfl) ?_
  refine lv_iadd hx hb d_Ref_bits_35 ?_
  refine tp_i (y := 12) (by first | rfl | decide) ?_
  refine lv_bipush (v := 64) hx hb d_Ref_bits_36 (by decide) ?_
  refine lv_icmp_le (tgt := 60) hx hb d_Ref_bits_38 (by decide) (fun c_1 => ?_) (fun c_1 => absurd c_1 (by decide))
  refine tp_pc (pc' := 60) (by rfl) ?_
  refine lv_aload_n hx hb d_Ref_bits_60 rfl (lv_at hl 2 rfl) ?_
  refine lv_dup hx hb d_Ref_bits_61 rfl ?_
  refine va_get (D := (dC, dI)) (ci := 8) (v := .int 9) (C := R_Ref) (T := F_Ref) (N := 48) hx hb hw i_Ref hown hK hP 0 rfl rfl 26 (by decide) (hw _ m_925) (fun _ h9 => h9) rfl d_Ref_bits_62 ?_
  refine lv_iload_n hx hb d_Ref_bits_65 rfl (lv_at hl 4 rfl) ?_
  refine lv_iadd hx hb d_Ref_bits_66 ?_
  refine tp_i (y := 12) (by first | rfl | decide) ?_
  refine va_put (D := (dC, dI)) (ci := 8) (v := .int 12) (ty := .int) (C := R_Ref) (T := F_Ref) (N := 48) hx hb hw i_Ref t_Ref t_Ref_ok n_Ref hown hK hP (dd_D hD rfl) hS 0 rfl rfl 26 (by decide) (hw _ m_925) (fun _ h9 => h9) rfl (by decide +kernel) rfl rfl (Nat.le_of_ble_eq_true rfl) d_Ref_bits_67 ?_
  clear hP hS locs H
  intro H locs (hP : va_P (dC, dI) classes [oc h0 8 [.int p2, .int p3, .ref h1, .ref h2, .ref h3, .ref h4, .ref h5, .ref h6, .ref h7, .ref h8, .ref h9, .ref h10, .ref h11, .ref h12, .int p4, .ref h13, .ref h14, .ref h15, .ref h16, .int p5, .int p6, .ref h17, .ref h18, .ref h19, .int p7, .ref h20, .int 12, .int p9, .ref h21, .ref h22, .ref h23, .ref h24, .ref h25, .ref h26, .ref h27, .ref h28, .int p10, .int p11, .ref h29, .ref h30, .ref h31, .ref h32, .ref h33, .ref h34, .ref h35, .ref h36, .int p12, .ref h37], la h20 k19 5 (vp_updL f19 0 ((f19 0) ||| (p0 <<< ((9 : Int32).toInt64 &&& 63))))] H) _ hS
  refine tp_pc (pc' := 70) (by rfl) ?_
  obtain ⟨hP9, hD9, -⟩ := cut3 (wc := [oc h0 8 [.int p2, .int p3, .ref h1, .ref h2, .ref h3, .ref h4, .ref h5, .ref h6, .ref h7, .ref h8, .ref h9, .ref h10, .ref h11, .ref h12, .int p4, .ref h13, .ref h14, .ref h15, .ref h16, .int p5, .int p6, .ref h17, .ref h18, .ref h19, .int p7, .ref h20, .int 12, .int p9, .ref h21, .ref h22, .ref h23, .ref h24, .ref h25, .ref h26, .ref h27, .ref h28, .int p10, .int p11, .ref h29, .ref h30, .ref h31, .ref h32, .ref h33, .ref h34, .ref h35, .ref h36, .int p12, .ref h37], la h20 k19 5 (vp_updL f19 0 ((f19 0) ||| (p0 <<< ((9 : Int32).toInt64 &&& 63))))]) hP hD rfl hS hA [0, 1] (by decide +kernel) rfl
  have hK9 := hK.sub (tys' := []) [] rfl
  refine W.widen (k := 0) (n := 0) (by exact Nat.le_of_ble_eq_true rfl) (by exact Nat.le_of_ble_eq_true rfl) ?_
  exact W.vret hx hb hr (fun t ht hW => ⟨⟨(), rfl, trivial, by rw [ht]; exact hP9, va_K.moved hW.alike hK9, hD9⟩, hS.F ht⟩) hS.2.2 d_Ref_bits_70
