set_option maxHeartbeats 4000000 in
set_option maxRecDepth 100000 in
theorem c_Ref_told_v3 (l : Launch) (dC : Nat → ClassId) (dI : Nat → Nat → Nat) (h0 : Nat) (p1 : Int32) (p2 : Int32) (p3 : Int32) (p4 : Int32) (h1 : Nat) (h2 : Nat) (h3 : Nat) (h4 : Nat) (h5 : Nat) (h6 : Nat) (h7 : Nat) (h8 : Nat) (h9 : Nat) (h10 : Nat) (h11 : Nat) (h12 : Nat) (p5 : Int32) (h13 : Nat) (h14 : Nat) (h15 : Nat) (h16 : Nat) (p6 : Int32) (p7 : Int32) (h17 : Nat) (h18 : Nat) (h19 : Nat) (p8 : Int32) (h20 : Nat) (p9 : Int32) (p10 : Int32) (h21 : Nat) (h22 : Nat) (h23 : Nat) (h24 : Nat) (h25 : Nat) (h26 : Nat) (h27 : Nat) (h28 : Nat) (p11 : Int32) (p12 : Int32) (h29 : Nat) (h30 : Nat) (h31 : Nat) (h32 : Nat) (h33 : Nat) (h34 : Nat) (h35 : Nat) (h36 : Nat) (p13 : Int32) (h37 : Nat) (k6 : ClassId) (k7 : ClassId) (k10 : ClassId) (sz : Nat) : Met l y_Ref_told w_Ref_told ({ frames := 0, cells := 0, slots := 0, locals := 0 }) (va_Pc [.ref h0, .int 2, .int p1, .int p2] (fun U => U.heap.size = sz ∧ va_P (dC, dI) classes [oc h0 8 [.int p3, .int p4, .ref h1, .ref h2, .ref h3, .ref h4, .ref h5, .ref h6, .ref h7, .ref h8, .ref h9, .ref h10, .ref h11, .ref h12, .int p5, .ref h13, .ref h14, .ref h15, .ref h16, .int p6, .int p7, .ref h17, .ref h18, .ref h19, .int p8, .ref h20, .int p9, .int p10, .ref h21, .ref h22, .ref h23, .ref h24, .ref h25, .ref h26, .ref h27, .ref h28, .int p11, .int p12, .ref h29, .ref h30, .ref h31, .ref h32, .ref h33, .ref h34, .ref h35, .ref h36, .int p13, .ref h37], ia h7 k6 8 (upd (fun _ => 0) 2 1), ia h8 k7 352000 (upd (upd (upd (upd (upd (upd (upd (upd (upd (upd (upd (fun _ => 0) 88000 0) 88001 0) 88002 0) 88003 0) 88004 0) 88005 0) 88006 0) 88007 0) 88008 0) 88009 0) 88010 0), ia h11 k10 32000 (upd (fun _ => 0) 8000 0)] U.heap ∧ va_K (dC, dI) classes [(k6, .int), (k7, .short), (k10, .int)] U ∧ va_D (fun _ => True) [oc h0 8 [.int p3, .int p4, .ref h1, .ref h2, .ref h3, .ref h4, .ref h5, .ref h6, .ref h7, .ref h8, .ref h9, .ref h10, .ref h11, .ref h12, .int p5, .ref h13, .ref h14, .ref h15, .ref h16, .int p6, .int p7, .ref h17, .ref h18, .ref h19, .int p8, .ref h20, .int p9, .int p10, .ref h21, .ref h22, .ref h23, .ref h24, .ref h25, .ref h26, .ref h27, .ref h28, .int p11, .int p12, .ref h29, .ref h30, .ref h31, .ref h32, .ref h33, .ref h34, .ref h35, .ref h36, .int p13, .ref h37], ia h7 k6 8 (upd (fun _ => 0) 2 1), ia h8 k7 352000 (upd (upd (upd (upd (upd (upd (upd (upd (upd (upd (upd (fun _ => 0) 88000 0) 88001 0) 88002 0) 88003 0) 88004 0) 88005 0) 88006 0) 88007 0) 88008 0) 88009 0) 88010 0), ia h11 k10 32000 (upd (fun _ => 0) 8000 0)] ∧ nw U)) (va_Qi (fun (r : Int32) (_ : Unit) => r = (fv p1 p2)) (fun _ t => va_P (dC, dI) classes [oc h0 8 [.int p3, .int p4, .ref h1, .ref h2, .ref h3, .ref h4, .ref h5, .ref h6, .ref h7, .ref h8, .ref h9, .ref h10, .ref h11, .ref h12, .int p5, .ref h13, .ref h14, .ref h15, .ref h16, .int p6, .int p7, .ref h17, .ref h18, .ref h19, .int p8, .ref h20, .int p9, .int p10, .ref h21, .ref h22, .ref h23, .ref h24, .ref h25, .ref h26, .ref h27, .ref h28, .int p11, .int p12, .ref h29, .ref h30, .ref h31, .ref h32, .ref h33, .ref h34, .ref h35, .ref h36, .int p13, .ref h37], ia h7 k6 8 (upd (fun _ => 0) 2 1), ia h8 k7 352000 (upd (upd (upd (upd (upd (upd (upd (upd (upd (upd (upd (fun _ => 0) 88000 0) 88001 0) 88002 0) 88003 0) 88004 0) 88005 0) 88006 0) 88007 0) 88008 0) 88009 0) 88010 0), ia h11 k10 32000 (upd (fun _ => 0) 8000 0)] t.heap ∧ va_K (dC, dI) classes [] t ∧ va_D (va_A [oc h0 8 [.int p3, .int p4, .ref h1, .ref h2, .ref h3, .ref h4, .ref h5, .ref h6, .ref h7, .ref h8, .ref h9, .ref h10, .ref h11, .ref h12, .int p5, .ref h13, .ref h14, .ref h15, .ref h16, .int p6, .int p7, .ref h17, .ref h18, .ref h19, .int p8, .ref h20, .int p9, .int p10, .ref h21, .ref h22, .ref h23, .ref h24, .ref h25, .ref h26, .ref h27, .ref h28, .int p11, .int p12, .ref h29, .ref h30, .ref h31, .ref h32, .ref h33, .ref h34, .ref h35, .ref h36, .int p13, .ref h37], ia h7 k6 8 (upd (fun _ => 0) 2 1), ia h8 k7 352000 (upd (upd (upd (upd (upd (upd (upd (upd (upd (upd (upd (fun _ => 0) 88000 0) 88001 0) 88002 0) 88003 0) 88004 0) 88005 0) 88006 0) 88007 0) 88008 0) 88009 0) 88010 0), ia h11 k10 32000 (upd (fun _ => 0) 8000 0)] sz) [oc h0 8 [.int p3, .int p4, .ref h1, .ref h2, .ref h3, .ref h4, .ref h5, .ref h6, .ref h7, .ref h8, .ref h9, .ref h10, .ref h11, .ref h12, .int p5, .ref h13, .ref h14, .ref h15, .ref h16, .int p6, .int p7, .ref h17, .ref h18, .ref h19, .int p8, .ref h20, .int p9, .int p10, .ref h21, .ref h22, .ref h23, .ref h24, .ref h25, .ref h26, .ref h27, .ref h28, .int p11, .int p12, .ref h29, .ref h30, .ref h31, .ref h32, .ref h33, .ref h34, .ref h35, .ref h36, .int p13, .ref h37], ia h7 k6 8 (upd (fun _ => 0) 2 1), ia h8 k7 352000 (upd (upd (upd (upd (upd (upd (upd (upd (upd (upd (upd (fun _ => 0) 88000 0) 88001 0) 88002 0) 88003 0) 88004 0) 88005 0) 88006 0) 88007 0) 88008 0) 88009 0) 88010 0), ia h11 k10 32000 (upd (fun _ => 0) 8000 0)]) (va_A [oc h0 8 [.int p3, .int p4, .ref h1, .ref h2, .ref h3, .ref h4, .ref h5, .ref h6, .ref h7, .ref h8, .ref h9, .ref h10, .ref h11, .ref h12, .int p5, .ref h13, .ref h14, .ref h15, .ref h16, .int p6, .int p7, .ref h17, .ref h18, .ref h19, .int p8, .ref h20, .int p9, .int p10, .ref h21, .ref h22, .ref h23, .ref h24, .ref h25, .ref h26, .ref h27, .ref h28, .int p11, .int p12, .ref h29, .ref h30, .ref h31, .ref h32, .ref h33, .ref h34, .ref h35, .ref h36, .int p13, .ref h37], ia h7 k6 8 (upd (fun _ => 0) 2 1), ia h8 k7 352000 (upd (upd (upd (upd (upd (upd (upd (upd (upd (upd (upd (fun _ => 0) 88000 0) 88001 0) 88002 0) 88003 0) 88004 0) 88005 0) 88006 0) 88007 0) 88008 0) 88009 0) 88010 0), ia h11 k10 32000 (upd (fun _ => 0) 8000 0)] sz)) 0 0 (va_A [oc h0 8 [.int p3, .int p4, .ref h1, .ref h2, .ref h3, .ref h4, .ref h5, .ref h6, .ref h7, .ref h8, .ref h9, .ref h10, .ref h11, .ref h12, .int p5, .ref h13, .ref h14, .ref h15, .ref h16, .int p6, .int p7, .ref h17, .ref h18, .ref h19, .int p8, .ref h20, .int p9, .int p10, .ref h21, .ref h22, .ref h23, .ref h24, .ref h25, .ref h26, .ref h27, .ref h28, .int p11, .int p12, .ref h29, .ref h30, .ref h31, .ref h32, .ref h33, .ref h34, .ref h35, .ref h36, .int p13, .ref h37], ia h7 k6 8 (upd (fun _ => 0) 2 1), ia h8 k7 352000 (upd (upd (upd (upd (upd (upd (upd (upd (upd (upd (upd (fun _ => 0) 88000 0) 88001 0) 88002 0) 88003 0) 88004 0) 88005 0) 88006 0) 88007 0) 88008 0) 88009 0) 88010 0), ia h11 k10 32000 (upd (fun _ => 0) 8000 0)] sz) := by
  refine Met.ofW (cc := b_Ref_told) (maxL := 5) (ret := (some .int)) (by decide) rfl ?_
  intro p e s m args below meth c s₁ B hml hv
  obtain ⟨rfl, hsz, hP, hK, hD0, hn⟩ := hv
  have hx := B.exec
  have hb := B.bytes
  have hr := B.returns
  have hw := fun w (h : w ∈ wt) => atoms_spec (ws := w_Ref_told) B.pre w (List.mem_cons_of_mem _ h)
  have hown : s.vm.findClass R_Ref = some m.cls := findClass_of_methodNamed B.named
  have hlocks := B.notSynchronized
  subst hsz
  have hD1 := hD0.self (sz := s.heap.size)
  generalize hAe : va_A [oc h0 8 [.int p3, .int p4, .ref h1, .ref h2, .ref h3, .ref h4, .ref h5, .ref h6, .ref h7, .ref h8, .ref h9, .ref h10, .ref h11, .ref h12, .int p5, .ref h13, .ref h14, .ref h15, .ref h16, .int p6, .int p7, .ref h17, .ref h18, .ref h19, .int p8, .ref h20, .int p9, .int p10, .ref h21, .ref h22, .ref h23, .ref h24, .ref h25, .ref h26, .ref h27, .ref h28, .int p11, .int p12, .ref h29, .ref h30, .ref h31, .ref h32, .ref h33, .ref h34, .ref h35, .ref h36, .int p13, .ref h37], ia h7 k6 8 (upd (fun _ => 0) 2 1), ia h8 k7 352000 (upd (upd (upd (upd (upd (upd (upd (upd (upd (upd (upd (fun _ => 0) 88000 0) 88001 0) 88002 0) 88003 0) 88004 0) 88005 0) 88006 0) 88007 0) 88008 0) 88009 0) 88010 0), ia h11 k10 32000 (upd (fun _ => 0) 8000 0)] s.heap.size = A at hD1 ⊢
  have hA : ∀ q : Nat, s.heap.size ≤ q → A q := fun q h => by rw [← hAe]; exact Or.inr h
  have hD : dd A [h0, h7, h8, h11] := dd_of hD1 rfl
  clear hAe hD0 hD1
  have hS : va_S A s.heap s.heap [] := va_S.rf
  replace hP : va_P (dC, dI) classes [oc h0 8 [.int p3, .int p4, .ref h1, .ref h2, .ref h3, .ref h4, .ref h5, .ref h6, .ref h7, .ref h8, .ref h9, .ref h10, .ref h11, .ref h12, .int p5, .ref h13, .ref h14, .ref h15, .ref h16, .int p6, .int p7, .ref h17, .ref h18, .ref h19, .int p8, .ref h20, .int p9, .int p10, .ref h21, .ref h22, .ref h23, .ref h24, .ref h25, .ref h26, .ref h27, .ref h28, .int p11, .int p12, .ref h29, .ref h30, .ref h31, .ref h32, .ref h33, .ref h34, .ref h35, .ref h36, .int p13, .ref h37], ia h7 k6 8 (upd (fun _ => 0) 2 1), ia h8 k7 352000 (upd (upd (upd (upd (upd (upd (upd (upd (upd (upd (upd (fun _ => 0) 88000 0) 88001 0) 88002 0) 88003 0) 88004 0) 88005 0) 88006 0) 88007 0) 88008 0) 88009 0) 88010 0), ia h11 k10 32000 (upd (fun _ => 0) 8000 0)] s.heap := hP
  have hl := lv_entry ([.ref h0, .int 2, .int p1, .int p2]) (n := 5) (Nat.le_of_ble_eq_true rfl)
  rw [lg_entry_eq]
  generalize (lg_sl ([.ref h0, .int 2, .int p1, .int p2]) ++ List.replicate (5 - (lg_sl ([.ref h0, .int 2, .int p1, .int p2])).length) Slot.unset).toArray = ls at hl ⊢
  replace hl : lv_has ls 5 [(0, .ref h0), (1, .int 2), (2, .int p1), (3, .int p2)] := hl
  rcases sw_0_0 p1 with rfl | hs_1
  · skip
    rcases sw_0_10 p2 with rfl | rfl | rfl | rfl | rfl | rfl | rfl | rfl | rfl | rfl | rfl | hs_2
    · skip
      refine lv_iload_n hx hb d_Ref_told_0 rfl (lv_at hl 2 rfl) ?_
      refine lv_if_lt (tgt := 28) hx hb d_Ref_told_1 (by decide) (fun c_3 => absurd c_3 (by decide)) (fun c_3 => ?_)
      refine tp_pc (pc' := 4) (by rfl) ?_
      refine lv_iload_n hx hb d_Ref_told_4 rfl (lv_at hl 2 rfl) ?_
      refine lv_aload_n hx hb d_Ref_told_5 rfl (lv_at hl 0 rfl) ?_
      refine va_get (D := (dC, dI)) (ci := 8) (v := .ref h7) (C := R_Ref) (T := F_Ref) (N := 48) hx hb hw i_Ref hown hK hP 0 rfl rfl 8 (by decide) (hw _ m_907) (fun _ h9 => h9) rfl d_Ref_told_6 ?_
      refine lv_iload_n hx hb d_Ref_told_9 rfl (lv_at hl 1 rfl) ?_
      refine va_iald (D := (dC, dI)) hx hb hK hP 1 0 rfl rfl (i := 2) (vp_c (by decide)) d_Ref_told_10 ?_
      refine tp_i (y := 1) (by first | rfl | decide) ?_
      refine lv_icmp_ge (tgt := 28) hx hb d_Ref_told_11 (by decide) (fun c_4 => absurd c_4 (by decide)) (fun c_4 => ?_)
      refine tp_pc (pc' := 14) (by rfl) ?_
      refine lv_iload_n hx hb d_Ref_told_14 rfl (lv_at hl 3 rfl) ?_
      refine lv_if_lt (tgt := 28) hx hb d_Ref_told_15 (by decide) (fun c_5 => absurd c_5 (by decide)) (fun c_5 => ?_)
      refine tp_pc (pc' := 18) (by rfl) ?_
      refine lv_iload_n hx hb d_Ref_told_18 rfl (lv_at hl 3 rfl) ?_
      refine lv_bipush (v := 10) hx hb d_Ref_told_19 (by decide) ?_
      refine lv_icmp_gt (tgt := 28) hx hb d_Ref_told_21 (by decide) (fun c_6 => absurd c_6 (by decide)) (fun c_6 => ?_)
      refine tp_pc (pc' := 24) (by rfl) ?_
      refine lv_iconst (v := 1) hx hb d_Ref_told_24 (by decide) ?_
      refine lv_goto (tgt := 29) hx hb d_Ref_told_25 (by decide) ?_
      refine tp_pc (pc' := 29) (by rfl) ?_
      refine lv_istore (lv' := [(4, .int 1), (0, .ref h0), (1, .int 2), (2, .int 0), (3, .int 0)]) hx hb d_Ref_told_29 hl (by decide) rfl ?_
      clear hl ls
      intro ls hl
      refine lv_iload hx hb d_Ref_told_31 (lv_at hl 0 rfl) ?_
      refine lv_if_eq (tgt := 67) hx hb d_Ref_told_33 (by decide) (fun c_7 => absurd c_7 (by decide)) (fun c_7 => ?_)
      refine tp_pc (pc' := 36) (by rfl) ?_
      refine lv_aload_n hx hb d_Ref_told_36 rfl (lv_at hl 1 rfl) ?_
      refine va_get (D := (dC, dI)) (ci := 8) (v := .ref h8) (C := R_Ref) (T := F_Ref) (N := 48) hx hb hw i_Ref hown hK hP 0 rfl rfl 9 (by decide) (hw _ m_908) (fun _ h9 => h9) rfl d_Ref_told_37 ?_
      refine lv_bipush (v := 11) hx hb d_Ref_told_40 (by decide) ?_
      refine lv_sipush (v := 4000) hx hb d_Ref_told_42 (by decide) ?_
      refine lv_iload_n hx hb d_Ref_told_45 rfl (lv_at hl 2 rfl) ?_
      refine lv_imul hx hb d_Ref_told_46 ?_
      refine tp_i (y := 8000) (by first | rfl | decide) ?_
      refine lv_aload_n hx hb d_Ref_told_47 rfl (lv_at hl 1 rfl) ?_
      refine va_get (D := (dC, dI)) (ci := 8) (v := .ref h11) (C := R_Ref) (T := F_Ref) (N := 48) hx hb hw i_Ref hown hK hP 0 rfl rfl 12 (by decide) (hw _ m_911) (fun _ h9 => h9) rfl d_Ref_told_48 ?_
      refine lv_sipush (v := 4000) hx hb d_Ref_told_51 (by decide) ?_
      refine lv_iload_n hx hb d_Ref_told_54 rfl (lv_at hl 2 rfl) ?_
      refine lv_imul hx hb d_Ref_told_55 ?_
      refine tp_i (y := 8000) (by first | rfl | decide) ?_
      refine lv_iload_n hx hb d_Ref_told_56 rfl (lv_at hl 3 rfl) ?_
      refine lv_iadd hx hb d_Ref_told_57 ?_
      refine tp_i (y := 8000) (by first | rfl | decide) ?_
      refine va_iald (D := (dC, dI)) hx hb hK hP 3 2 rfl rfl (i := 8000) (vp_c (by decide)) d_Ref_told_58 ?_
      refine tp_i (y := 0) (by first | rfl | decide) ?_
      refine lv_iadd hx hb d_Ref_told_59 ?_
      refine tp_i (y := 8000) (by first | rfl | decide) ?_
      refine lv_imul hx hb d_Ref_told_60 ?_
      refine tp_i (y := 88000) (by first | rfl | decide) ?_
      refine lv_iload_n hx hb d_Ref_told_61 rfl (lv_at hl 4 rfl) ?_
      refine lv_iadd hx hb d_Ref_told_62 ?_
      refine tp_i (y := 88000) (by first | rfl | decide) ?_
      refine va_sald (D := (dC, dI)) hx hb hK hP 2 1 rfl rfl (i := 88000) (vp_c (by decide)) d_Ref_told_63 ?_
      refine tp_i (y := 0) (by first | rfl | decide) ?_
      refine lv_goto (tgt := 70) hx hb d_Ref_told_64 (by decide) ?_
      refine tp_pc (pc' := 70) (by rfl) ?_
      obtain ⟨hP9, hD9, -⟩ := cut3 (wc := [oc h0 8 [.int p3, .int p4, .ref h1, .ref h2, .ref h3, .ref h4, .ref h5, .ref h6, .ref h7, .ref h8, .ref h9, .ref h10, .ref h11, .ref h12, .int p5, .ref h13, .ref h14, .ref h15, .ref h16, .int p6, .int p7, .ref h17, .ref h18, .ref h19, .int p8, .ref h20, .int p9, .int p10, .ref h21, .ref h22, .ref h23, .ref h24, .ref h25, .ref h26, .ref h27, .ref h28, .int p11, .int p12, .ref h29, .ref h30, .ref h31, .ref h32, .ref h33, .ref h34, .ref h35, .ref h36, .int p13, .ref h37], ia h7 k6 8 (upd (fun _ => 0) 2 1), ia h8 k7 352000 (upd (upd (upd (upd (upd (upd (upd (upd (upd (upd (upd (fun _ => 0) 88000 0) 88001 0) 88002 0) 88003 0) 88004 0) 88005 0) 88006 0) 88007 0) 88008 0) 88009 0) 88010 0), ia h11 k10 32000 (upd (fun _ => 0) 8000 0)]) hP hD rfl hS hA [0, 1, 2, 3] (by decide +kernel) rfl
      have hK9 := hK.sub (tys' := []) [] rfl
      refine W.widen (k := 0) (n := 0) (by exact Nat.le_of_ble_eq_true rfl) (by exact Nat.le_of_ble_eq_true rfl) ?_
      exact W.iret (v := 0) hx hb hr (fun t ht hW => ⟨⟨0, (), rfl, (by first | decide | exact (fv_i (by assumption)).symm | exact (fv_w (by assumption)).symm), by rw [ht]; exact hP9, va_K.moved hW.alike hK9, hD9⟩, hS.F ht⟩) hS.2.2 d_Ref_told_70
    · skip
      refine lv_iload_n hx hb d_Ref_told_0 rfl (lv_at hl 2 rfl) ?_
      refine lv_if_lt (tgt := 28) hx hb d_Ref_told_1 (by decide) (fun c_8 => absurd c_8 (by decide)) (fun c_8 => ?_)
      refine tp_pc (pc' := 4) (by rfl) ?_
      refine lv_iload_n hx hb d_Ref_told_4 rfl (lv_at hl 2 rfl) ?_
      refine lv_aload_n hx hb d_Ref_told_5 rfl (lv_at hl 0 rfl) ?_
      refine va_get (D := (dC, dI)) (ci := 8) (v := .ref h7) (C := R_Ref) (T := F_Ref) (N := 48) hx hb hw i_Ref hown hK hP 0 rfl rfl 8 (by decide) (hw _ m_907) (fun _ h9 => h9) rfl d_Ref_told_6 ?_
      refine lv_iload_n hx hb d_Ref_told_9 rfl (lv_at hl 1 rfl) ?_
      refine va_iald (D := (dC, dI)) hx hb hK hP 1 0 rfl rfl (i := 2) (vp_c (by decide)) d_Ref_told_10 ?_
      refine tp_i (y := 1) (by first | rfl | decide) ?_
      refine lv_icmp_ge (tgt := 28) hx hb d_Ref_told_11 (by decide) (fun c_9 => absurd c_9 (by decide)) (fun c_9 => ?_)
      refine tp_pc (pc' := 14) (by rfl) ?_
      refine lv_iload_n hx hb d_Ref_told_14 rfl (lv_at hl 3 rfl) ?_
      refine lv_if_lt (tgt := 28) hx hb d_Ref_told_15 (by decide) (fun c_10 => absurd c_10 (by decide)) (fun c_10 => ?_)
      refine tp_pc (pc' := 18) (by rfl) ?_
      refine lv_iload_n hx hb d_Ref_told_18 rfl (lv_at hl 3 rfl) ?_
      refine lv_bipush (v := 10) hx hb d_Ref_told_19 (by decide) ?_
      refine lv_icmp_gt (tgt := 28) hx hb d_Ref_told_21 (by decide) (fun c_11 => absurd c_11 (by decide)) (fun c_11 => ?_)
      refine tp_pc (pc' := 24) (by rfl) ?_
      refine lv_iconst (v := 1) hx hb d_Ref_told_24 (by decide) ?_
      refine lv_goto (tgt := 29) hx hb d_Ref_told_25 (by decide) ?_
      refine tp_pc (pc' := 29) (by rfl) ?_
      refine lv_istore (lv' := [(4, .int 1), (0, .ref h0), (1, .int 2), (2, .int 0), (3, .int 1)]) hx hb d_Ref_told_29 hl (by decide) rfl ?_
      clear hl ls
      intro ls hl
      refine lv_iload hx hb d_Ref_told_31 (lv_at hl 0 rfl) ?_
      refine lv_if_eq (tgt := 67) hx hb d_Ref_told_33 (by decide) (fun c_12 => absurd c_12 (by decide)) (fun c_12 => ?_)
      refine tp_pc (pc' := 36) (by rfl) ?_
      refine lv_aload_n hx hb d_Ref_told_36 rfl (lv_at hl 1 rfl) ?_
      refine va_get (D := (dC, dI)) (ci := 8) (v := .ref h8) (C := R_Ref) (T := F_Ref) (N := 48) hx hb hw i_Ref hown hK hP 0 rfl rfl 9 (by decide) (hw _ m_908) (fun _ h9 => h9) rfl d_Ref_told_37 ?_
      refine lv_bipush (v := 11) hx hb d_Ref_told_40 (by decide) ?_
      refine lv_sipush (v := 4000) hx hb d_Ref_told_42 (by decide) ?_
      refine lv_iload_n hx hb d_Ref_told_45 rfl (lv_at hl 2 rfl) ?_
      refine lv_imul hx hb d_Ref_told_46 ?_
      refine tp_i (y := 8000) (by first | rfl | decide) ?_
      refine lv_aload_n hx hb d_Ref_told_47 rfl (lv_at hl 1 rfl) ?_
      refine va_get (D := (dC, dI)) (ci := 8) (v := .ref h11) (C := R_Ref) (T := F_Ref) (N := 48) hx hb hw i_Ref hown hK hP 0 rfl rfl 12 (by decide) (hw _ m_911) (fun _ h9 => h9) rfl d_Ref_told_48 ?_
      refine lv_sipush (v := 4000) hx hb d_Ref_told_51 (by decide) ?_
      refine lv_iload_n hx hb d_Ref_told_54 rfl (lv_at hl 2 rfl) ?_
      refine lv_imul hx hb d_Ref_told_55 ?_
      refine tp_i (y := 8000) (by first | rfl | decide) ?_
      refine lv_iload_n hx hb d_Ref_told_56 rfl (lv_at hl 3 rfl) ?_
      refine lv_iadd hx hb d_Ref_told_57 ?_
      refine tp_i (y := 8000) (by first | rfl | decide) ?_
      refine va_iald (D := (dC, dI)) hx hb hK hP 3 2 rfl rfl (i := 8000) (vp_c (by decide)) d_Ref_told_58 ?_
      refine tp_i (y := 0) (by first | rfl | decide) ?_
      refine lv_iadd hx hb d_Ref_told_59 ?_
      refine tp_i (y := 8000) (by first | rfl | decide) ?_
      refine lv_imul hx hb d_Ref_told_60 ?_
      refine tp_i (y := 88000) (by first | rfl | decide) ?_
      refine lv_iload_n hx hb d_Ref_told_61 rfl (lv_at hl 4 rfl) ?_
      refine lv_iadd hx hb d_Ref_told_62 ?_
      refine tp_i (y := 88001) (by first | rfl | decide) ?_
      refine va_sald (D := (dC, dI)) hx hb hK hP 2 1 rfl rfl (i := 88001) (vp_c (by decide)) d_Ref_told_63 ?_
      refine tp_i (y := 0) (by first | rfl | decide) ?_
      refine lv_goto (tgt := 70) hx hb d_Ref_told_64 (by decide) ?_
      refine tp_pc (pc' := 70) (by rfl) ?_
      obtain ⟨hP9, hD9, -⟩ := cut3 (wc := [oc h0 8 [.int p3, .int p4, .ref h1, .ref h2, .ref h3, .ref h4, .ref h5, .ref h6, .ref h7, .ref h8, .ref h9, .ref h10, .ref h11, .ref h12, .int p5, .ref h13, .ref h14, .ref h15, .ref h16, .int p6, .int p7, .ref h17, .ref h18, .ref h19, .int p8, .ref h20, .int p9, .int p10, .ref h21, .ref h22, .ref h23, .ref h24, .ref h25, .ref h26, .ref h27, .ref h28, .int p11, .int p12, .ref h29, .ref h30, .ref h31, .ref h32, .ref h33, .ref h34, .ref h35, .ref h36, .int p13, .ref h37], ia h7 k6 8 (upd (fun _ => 0) 2 1), ia h8 k7 352000 (upd (upd (upd (upd (upd (upd (upd (upd (upd (upd (upd (fun _ => 0) 88000 0) 88001 0) 88002 0) 88003 0) 88004 0) 88005 0) 88006 0) 88007 0) 88008 0) 88009 0) 88010 0), ia h11 k10 32000 (upd (fun _ => 0) 8000 0)]) hP hD rfl hS hA [0, 1, 2, 3] (by decide +kernel) rfl
      have hK9 := hK.sub (tys' := []) [] rfl
      refine W.widen (k := 0) (n := 0) (by exact Nat.le_of_ble_eq_true rfl) (by exact Nat.le_of_ble_eq_true rfl) ?_
      exact W.iret (v := 0) hx hb hr (fun t ht hW => ⟨⟨0, (), rfl, (by first | decide | exact (fv_i (by assumption)).symm | exact (fv_w (by assumption)).symm), by rw [ht]; exact hP9, va_K.moved hW.alike hK9, hD9⟩, hS.F ht⟩) hS.2.2 d_Ref_told_70
    · skip
      refine lv_iload_n hx hb d_Ref_told_0 rfl (lv_at hl 2 rfl) ?_
      refine lv_if_lt (tgt := 28) hx hb d_Ref_told_1 (by decide) (fun c_13 => absurd c_13 (by decide)) (fun c_13 => ?_)
      refine tp_pc (pc' := 4) (by rfl) ?_
      refine lv_iload_n hx hb d_Ref_told_4 rfl (lv_at hl 2 rfl) ?_
      refine lv_aload_n hx hb d_Ref_told_5 rfl (lv_at hl 0 rfl) ?_
      refine va_get (D := (dC, dI)) (ci := 8) (v := .ref h7) (C := R_Ref) (T := F_Ref) (N := 48) hx hb hw i_Ref hown hK hP 0 rfl rfl 8 (by decide) (hw _ m_907) (fun _ h9 => h9) rfl d_Ref_told_6 ?_
      refine lv_iload_n hx hb d_Ref_told_9 rfl (lv_at hl 1 rfl) ?_
      refine va_iald (D := (dC, dI)) hx hb hK hP 1 0 rfl rfl (i := 2) (vp_c (by decide)) d_Ref_told_10 ?_
      refine tp_i (y := 1) (by first | rfl | decide) ?_
      refine lv_icmp_ge (tgt := 28) hx hb d_Ref_told_11 (by decide) (fun c_14 => absurd c_14 (by decide)) (fun c_14 => ?_)
      refine tp_pc (pc' := 14) (by rfl) ?_
      refine lv_iload_n hx hb d_Ref_told_14 rfl (lv_at hl 3 rfl) ?_
      refine lv_if_lt (tgt := 28) hx hb d_Ref_told_15 (by decide) (fun c_15 => absurd c_15 (by decide)) (fun c_15 => ?_)
      refine tp_pc (pc' := 18) (by rfl) ?_
      refine lv_iload_n hx hb d_Ref_told_18 rfl (lv_at hl 3 rfl) ?_
      refine lv_bipush (v := 10) hx hb d_Ref_told_19 (by decide) ?_
      refine lv_icmp_gt (tgt := 28) hx hb d_Ref_told_21 (by decide) (fun c_16 => absurd c_16 (by decide)) (fun c_16 => ?_)
      refine tp_pc (pc' := 24) (by rfl) ?_
      refine lv_iconst (v := 1) hx hb d_Ref_told_24 (by decide) ?_
      refine lv_goto (tgt := 29) hx hb d_Ref_told_25 (by decide) ?_
      refine tp_pc (pc' := 29) (by rfl) ?_
      refine lv_istore (lv' := [(4, .int 1), (0, .ref h0), (1, .int 2), (2, .int 0), (3, .int 2)]) hx hb d_Ref_told_29 hl (by decide) rfl ?_
      clear hl ls
      intro ls hl
      refine lv_iload hx hb d_Ref_told_31 (lv_at hl 0 rfl) ?_
      refine lv_if_eq (tgt := 67) hx hb d_Ref_told_33 (by decide) (fun c_17 => absurd c_17 (by decide)) (fun c_17 => ?_)
      refine tp_pc (pc' := 36) (by rfl) ?_
      refine lv_aload_n hx hb d_Ref_told_36 rfl (lv_at hl 1 rfl) ?_
      refine va_get (D := (dC, dI)) (ci := 8) (v := .ref h8) (C := R_Ref) (T := F_Ref) (N := 48) hx hb hw i_Ref hown hK hP 0 rfl rfl 9 (by decide) (hw _ m_908) (fun _ h9 => h9) rfl d_Ref_told_37 ?_
      refine lv_bipush (v := 11) hx hb d_Ref_told_40 (by decide) ?_
      refine lv_sipush (v := 4000) hx hb d_Ref_told_42 (by decide) ?_
      refine lv_iload_n hx hb d_Ref_told_45 rfl (lv_at hl 2 rfl) ?_
      refine lv_imul hx hb d_Ref_told_46 ?_
      refine tp_i (y := 8000) (by first | rfl | decide) ?_
      refine lv_aload_n hx hb d_Ref_told_47 rfl (lv_at hl 1 rfl) ?_
      refine va_get (D := (dC, dI)) (ci := 8) (v := .ref h11) (C := R_Ref) (T := F_Ref) (N := 48) hx hb hw i_Ref hown hK hP 0 rfl rfl 12 (by decide) (hw _ m_911) (fun _ h9 => h9) rfl d_Ref_told_48 ?_
      refine lv_sipush (v := 4000) hx hb d_Ref_told_51 (by decide) ?_
      refine lv_iload_n hx hb d_Ref_told_54 rfl (lv_at hl 2 rfl) ?_
      refine lv_imul hx hb d_Ref_told_55 ?_
      refine tp_i (y := 8000) (by first | rfl | decide) ?_
      refine lv_iload_n hx hb d_Ref_told_56 rfl (lv_at hl 3 rfl) ?_
      refine lv_iadd hx hb d_Ref_told_57 ?_
      refine tp_i (y := 8000) (by first | rfl | decide) ?_
      refine va_iald (D := (dC, dI)) hx hb hK hP 3 2 rfl rfl (i := 8000) (vp_c (by decide)) d_Ref_told_58 ?_
      refine tp_i (y := 0) (by first | rfl | decide) ?_
      refine lv_iadd hx hb d_Ref_told_59 ?_
      refine tp_i (y := 8000) (by first | rfl | decide) ?_
      refine lv_imul hx hb d_Ref_told_60 ?_
      refine tp_i (y := 88000) (by first | rfl | decide) ?_
      refine lv_iload_n hx hb d_Ref_told_61 rfl (lv_at hl 4 rfl) ?_
      refine lv_iadd hx hb d_Ref_told_62 ?_
      refine tp_i (y := 88002) (by first | rfl | decide) ?_
      refine va_sald (D := (dC, dI)) hx hb hK hP 2 1 rfl rfl (i := 88002) (vp_c (by decide)) d_Ref_told_63 ?_
      refine tp_i (y := 0) (by first | rfl | decide) ?_
      refine lv_goto (tgt := 70) hx hb d_Ref_told_64 (by decide) ?_
      refine tp_pc (pc' := 70) (by rfl) ?_
      obtain ⟨hP9, hD9, -⟩ := cut3 (wc := [oc h0 8 [.int p3, .int p4, .ref h1, .ref h2, .ref h3, .ref h4, .ref h5, .ref h6, .ref h7, .ref h8, .ref h9, .ref h10, .ref h11, .ref h12, .int p5, .ref h13, .ref h14, .ref h15, .ref h16, .int p6, .int p7, .ref h17, .ref h18, .ref h19, .int p8, .ref h20, .int p9, .int p10, .ref h21, .ref h22, .ref h23, .ref h24, .ref h25, .ref h26, .ref h27, .ref h28, .int p11, .int p12, .ref h29, .ref h30, .ref h31, .ref h32, .ref h33, .ref h34, .ref h35, .ref h36, .int p13, .ref h37], ia h7 k6 8 (upd (fun _ => 0) 2 1), ia h8 k7 352000 (upd (upd (upd (upd (upd (upd (upd (upd (upd (upd (upd (fun _ => 0) 88000 0) 88001 0) 88002 0) 88003 0) 88004 0) 88005 0) 88006 0) 88007 0) 88008 0) 88009 0) 88010 0), ia h11 k10 32000 (upd (fun _ => 0) 8000 0)]) hP hD rfl hS hA [0, 1, 2, 3] (by decide +kernel) rfl
      have hK9 := hK.sub (tys' := []) [] rfl
      refine W.widen (k := 0) (n := 0) (by exact Nat.le_of_ble_eq_true rfl) (by exact Nat.le_of_ble_eq_true rfl) ?_
      exact W.iret (v := 0) hx hb hr (fun t ht hW => ⟨⟨0, (), rfl, (by first | decide | exact (fv_i (by assumption)).symm | exact (fv_w (by assumption)).symm), by rw [ht]; exact hP9, va_K.moved hW.alike hK9, hD9⟩, hS.F ht⟩) hS.2.2 d_Ref_told_70
    · skip
      refine lv_iload_n hx hb d_Ref_told_0 rfl (lv_at hl 2 rfl) ?_
      refine lv_if_lt (tgt := 28) hx hb d_Ref_told_1 (by decide) (fun c_18 => absurd c_18 (by decide)) (fun c_18 => ?_)
      refine tp_pc (pc' := 4) (by rfl) ?_
      refine lv_iload_n hx hb d_Ref_told_4 rfl (lv_at hl 2 rfl) ?_
      refine lv_aload_n hx hb d_Ref_told_5 rfl (lv_at hl 0 rfl) ?_
      refine va_get (D := (dC, dI)) (ci := 8) (v := .ref h7) (C := R_Ref) (T := F_Ref) (N := 48) hx hb hw i_Ref hown hK hP 0 rfl rfl 8 (by decide) (hw _ m_907) (fun _ h9 => h9) rfl d_Ref_told_6 ?_
      refine lv_iload_n hx hb d_Ref_told_9 rfl (lv_at hl 1 rfl) ?_
      refine va_iald (D := (dC, dI)) hx hb hK hP 1 0 rfl rfl (i := 2) (vp_c (by decide)) d_Ref_told_10 ?_
      refine tp_i (y := 1) (by first | rfl | decide) ?_
      refine lv_icmp_ge (tgt := 28) hx hb d_Ref_told_11 (by decide) (fun c_19 => absurd c_19 (by decide)) (fun c_19 => ?_)
      refine tp_pc (pc' := 14) (by rfl) ?_
      refine lv_iload_n hx hb d_Ref_told_14 rfl (lv_at hl 3 rfl) ?_
      refine lv_if_lt (tgt := 28) hx hb d_Ref_told_15 (by decide) (fun c_20 => absurd c_20 (by decide)) (fun c_20 => ?_)
      refine tp_pc (pc' := 18) (by rfl) ?_
      refine lv_iload_n hx hb d_Ref_told_18 rfl (lv_at hl 3 rfl) ?_
      refine lv_bipush (v := 10) hx hb d_Ref_told_19 (by decide) ?_
      refine lv_icmp_gt (tgt := 28) hx hb d_Ref_told_21 (by decide) (fun c_21 => absurd c_21 (by decide)) (fun c_21 => ?_)
      refine tp_pc (pc' := 24) (by rfl) ?_
      refine lv_iconst (v := 1) hx hb d_Ref_told_24 (by decide) ?_
      refine lv_goto (tgt := 29) hx hb d_Ref_told_25 (by decide) ?_
      refine tp_pc (pc' := 29) (by rfl) ?_
      refine lv_istore (lv' := [(4, .int 1), (0, .ref h0), (1, .int 2), (2, .int 0), (3, .int 3)]) hx hb d_Ref_told_29 hl (by decide) rfl ?_
      clear hl ls
      intro ls hl
      refine lv_iload hx hb d_Ref_told_31 (lv_at hl 0 rfl) ?_
      refine lv_if_eq (tgt := 67) hx hb d_Ref_told_33 (by decide) (fun c_22 => absurd c_22 (by decide)) (fun c_22 => ?_)
      refine tp_pc (pc' := 36) (by rfl) ?_
      refine lv_aload_n hx hb d_Ref_told_36 rfl (lv_at hl 1 rfl) ?_
      refine va_get (D := (dC, dI)) (ci := 8) (v := .ref h8) (C := R_Ref) (T := F_Ref) (N := 48) hx hb hw i_Ref hown hK hP 0 rfl rfl 9 (by decide) (hw _ m_908) (fun _ h9 => h9) rfl d_Ref_told_37 ?_
      refine lv_bipush (v := 11) hx hb d_Ref_told_40 (by decide) ?_
      refine lv_sipush (v := 4000) hx hb d_Ref_told_42 (by decide) ?_
      refine lv_iload_n hx hb d_Ref_told_45 rfl (lv_at hl 2 rfl) ?_
      refine lv_imul hx hb d_Ref_told_46 ?_
      refine tp_i (y := 8000) (by first | rfl | decide) ?_
      refine lv_aload_n hx hb d_Ref_told_47 rfl (lv_at hl 1 rfl) ?_
      refine va_get (D := (dC, dI)) (ci := 8) (v := .ref h11) (C := R_Ref) (T := F_Ref) (N := 48) hx hb hw i_Ref hown hK hP 0 rfl rfl 12 (by decide) (hw _ m_911) (fun _ h9 => h9) rfl d_Ref_told_48 ?_
      refine lv_sipush (v := 4000) hx hb d_Ref_told_51 (by decide) ?_
      refine lv_iload_n hx hb d_Ref_told_54 rfl (lv_at hl 2 rfl) ?_
      refine lv_imul hx hb d_Ref_told_55 ?_
      refine tp_i (y := 8000) (by first | rfl | decide) ?_
      refine lv_iload_n hx hb d_Ref_told_56 rfl (lv_at hl 3 rfl) ?_
      refine lv_iadd hx hb d_Ref_told_57 ?_
      refine tp_i (y := 8000) (by first | rfl | decide) ?_
      refine va_iald (D := (dC, dI)) hx hb hK hP 3 2 rfl rfl (i := 8000) (vp_c (by decide)) d_Ref_told_58 ?_
      refine tp_i (y := 0) (by first | rfl | decide) ?_
      refine lv_iadd hx hb d_Ref_told_59 ?_
      refine tp_i (y := 8000) (by first | rfl | decide) ?_
      refine lv_imul hx hb d_Ref_told_60 ?_
      refine tp_i (y := 88000) (by first | rfl | decide) ?_
      refine lv_iload_n hx hb d_Ref_told_61 rfl (lv_at hl 4 rfl) ?_
      refine lv_iadd hx hb d_Ref_told_62 ?_
      refine tp_i (y := 88003) (by first | rfl | decide) ?_
      refine va_sald (D := (dC, dI)) hx hb hK hP 2 1 rfl rfl (i := 88003) (vp_c (by decide)) d_Ref_told_63 ?_
      refine tp_i (y := 0) (by first | rfl | decide) ?_
      refine lv_goto (tgt := 70) hx hb d_Ref_told_64 (by decide) ?_
      refine tp_pc (pc' := 70) (by rfl) ?_
      obtain ⟨hP9, hD9, -⟩ := cut3 (wc := [oc h0 8 [.int p3, .int p4, .ref h1, .ref h2, .ref h3, .ref h4, .ref h5, .ref h6, .ref h7, .ref h8, .ref h9, .ref h10, .ref h11, .ref h12, .int p5, .ref h13, .ref h14, .ref h15, .ref h16, .int p6, .int p7, .ref h17, .ref h18, .ref h19, .int p8, .ref h20, .int p9, .int p10, .ref h21, .ref h22, .ref h23, .ref h24, .ref h25, .ref h26, .ref h27, .ref h28, .int p11, .int p12, .ref h29, .ref h30, .ref h31, .ref h32, .ref h33, .ref h34, .ref h35, .ref h36, .int p13, .ref h37], ia h7 k6 8 (upd (fun _ => 0) 2 1), ia h8 k7 352000 (upd (upd (upd (upd (upd (upd (upd (upd (upd (upd (upd (fun _ => 0) 88000 0) 88001 0) 88002 0) 88003 0) 88004 0) 88005 0) 88006 0) 88007 0) 88008 0) 88009 0) 88010 0), ia h11 k10 32000 (upd (fun _ => 0) 8000 0)]) hP hD rfl hS hA [0, 1, 2, 3] (by decide +kernel) rfl
      have hK9 := hK.sub (tys' := []) [] rfl
      refine W.widen (k := 0) (n := 0) (by exact Nat.le_of_ble_eq_true rfl) (by exact Nat.le_of_ble_eq_true rfl) ?_
      exact W.iret (v := 0) hx hb hr (fun t ht hW => ⟨⟨0, (), rfl, (by first | decide | exact (fv_i (by assumption)).symm | exact (fv_w (by assumption)).symm), by rw [ht]; exact hP9, va_K.moved hW.alike hK9, hD9⟩, hS.F ht⟩) hS.2.2 d_Ref_told_70
    · skip
      refine lv_iload_n hx hb d_Ref_told_0 rfl (lv_at hl 2 rfl) ?_
      refine lv_if_lt (tgt := 28) hx hb d_Ref_told_1 (by decide) (fun c_23 => absurd c_23 (by decide)) (fun c_23 => ?_)
      refine tp_pc (pc' := 4) (by rfl) ?_
      refine lv_iload_n hx hb d_Ref_told_4 rfl (lv_at hl 2 rfl) ?_
      refine lv_aload_n hx hb d_Ref_told_5 rfl (lv_at hl 0 rfl) ?_
      refine va_get (D := (dC, dI)) (ci := 8) (v := .ref h7) (C := R_Ref) (T := F_Ref) (N := 48) hx hb hw i_Ref hown hK hP 0 rfl rfl 8 (by decide) (hw _ m_907) (fun _ h9 => h9) rfl d_Ref_told_6 ?_
      refine lv_iload_n hx hb d_Ref_told_9 rfl (lv_at hl 1 rfl) ?_
      refine va_iald (D := (dC, dI)) hx hb hK hP 1 0 rfl rfl (i := 2) (vp_c (by decide)) d_Ref_told_10 ?_
      refine tp_i (y := 1) (by first | rfl | decide) ?_
      refine lv_icmp_ge (tgt := 28) hx hb d_Ref_told_11 (by decide) (fun c_24 => absurd c_24 (by decide)) (fun c_24 => ?_)
      refine tp_pc (pc' := 14) (by rfl) ?_
      refine lv_iload_n hx hb d_Ref_told_14 rfl (lv_at hl 3 rfl) ?_
      refine lv_if_lt (tgt := 28) hx hb d_Ref_told_15 (by decide) (fun c_25 => absurd c_25 (by decide)) (fun c_25 => ?_)
      refine tp_pc (pc' := 18) (by rfl) ?_
      refine lv_iload_n hx hb d_Ref_told_18 rfl (lv_at hl 3 rfl) ?_
      refine lv_bipush (v := 10) hx hb d_Ref_told_19 (by decide) ?_
      refine lv_icmp_gt (tgt := 28) hx hb d_Ref_told_21 (by decide) (fun c_26 => absurd c_26 (by decide)) (fun c_26 => ?_)
      refine tp_pc (pc' := 24) (by rfl) ?_
      refine lv_iconst (v := 1) hx hb d_Ref_told_24 (by decide) ?_
      refine lv_goto (tgt := 29) hx hb d_Ref_told_25 (by decide) ?_
      refine tp_pc (pc' := 29) (by rfl) ?_
      refine lv_istore (lv' := [(4, .int 1), (0, .ref h0), (1, .int 2), (2, .int 0), (3, .int 4)]) hx hb d_Ref_told_29 hl (by decide) rfl ?_
      clear hl ls
      intro ls hl
      refine lv_iload hx hb d_Ref_told_31 (lv_at hl 0 rfl) ?_
      refine lv_if_eq (tgt := 67) hx hb d_Ref_told_33 (by decide) (fun c_27 => absurd c_27 (by decide)) (fun c_27 => ?_)
      refine tp_pc (pc' := 36) (by rfl) ?_
      refine lv_aload_n hx hb d_Ref_told_36 rfl (lv_at hl 1 rfl) ?_
      refine va_get (D := (dC, dI)) (ci := 8) (v := .ref h8) (C := R_Ref) (T := F_Ref) (N := 48) hx hb hw i_Ref hown hK hP 0 rfl rfl 9 (by decide) (hw _ m_908) (fun _ h9 => h9) rfl d_Ref_told_37 ?_
      refine lv_bipush (v := 11) hx hb d_Ref_told_40 (by decide) ?_
      refine lv_sipush (v := 4000) hx hb d_Ref_told_42 (by decide) ?_
      refine lv_iload_n hx hb d_Ref_told_45 rfl (lv_at hl 2 rfl) ?_
      refine lv_imul hx hb d_Ref_told_46 ?_
      refine tp_i (y := 8000) (by first | rfl | decide) ?_
      refine lv_aload_n hx hb d_Ref_told_47 rfl (lv_at hl 1 rfl) ?_
      refine va_get (D := (dC, dI)) (ci := 8) (v := .ref h11) (C := R_Ref) (T := F_Ref) (N := 48) hx hb hw i_Ref hown hK hP 0 rfl rfl 12 (by decide) (hw _ m_911) (fun _ h9 => h9) rfl d_Ref_told_48 ?_
      refine lv_sipush (v := 4000) hx hb d_Ref_told_51 (by decide) ?_
      refine lv_iload_n hx hb d_Ref_told_54 rfl (lv_at hl 2 rfl) ?_
      refine lv_imul hx hb d_Ref_told_55 ?_
      refine tp_i (y := 8000) (by first | rfl | decide) ?_
      refine lv_iload_n hx hb d_Ref_told_56 rfl (lv_at hl 3 rfl) ?_
      refine lv_iadd hx hb d_Ref_told_57 ?_
      refine tp_i (y := 8000) (by first | rfl | decide) ?_
      refine va_iald (D := (dC, dI)) hx hb hK hP 3 2 rfl rfl (i := 8000) (vp_c (by decide)) d_Ref_told_58 ?_
      refine tp_i (y := 0) (by first | rfl | decide) ?_
      refine lv_iadd hx hb d_Ref_told_59 ?_
      refine tp_i (y := 8000) (by first | rfl | decide) ?_
      refine lv_imul hx hb d_Ref_told_60 ?_
      refine tp_i (y := 88000) (by first | rfl | decide) ?_
      refine lv_iload_n hx hb d_Ref_told_61 rfl (lv_at hl 4 rfl) ?_
      refine lv_iadd hx hb d_Ref_told_62 ?_
      refine tp_i (y := 88004) (by first | rfl | decide) ?_
      refine va_sald (D := (dC, dI)) hx hb hK hP 2 1 rfl rfl (i := 88004) (vp_c (by decide)) d_Ref_told_63 ?_
      refine tp_i (y := 0) (by first | rfl | decide) ?_
      refine lv_goto (tgt := 70) hx hb d_Ref_told_64 (by decide) ?_
      refine tp_pc (pc' := 70) (by rfl) ?_
      obtain ⟨hP9, hD9, -⟩ := cut3 (wc := [oc h0 8 [.int p3, .int p4, .ref h1, .ref h2, .ref h3, .ref h4, .ref h5, .ref h6, .ref h7, .ref h8, .ref h9, .ref h10, .ref h11, .ref h12, .int p5, .ref h13, .ref h14, .ref h15, .ref h16, .int p6, .int p7, .ref h17, .ref h18, .ref h19, .int p8, .ref h20, .int p9, .int p10, .ref h21, .ref h22, .ref h23, .ref h24, .ref h25, .ref h26, .ref h27, .ref h28, .int p11, .int p12, .ref h29, .ref h30, .ref h31, .ref h32, .ref h33, .ref h34, .ref h35, .ref h36, .int p13, .ref h37], ia h7 k6 8 (upd (fun _ => 0) 2 1), ia h8 k7 352000 (upd (upd (upd (upd (upd (upd (upd (upd (upd (upd (upd (fun _ => 0) 88000 0) 88001 0) 88002 0) 88003 0) 88004 0) 88005 0) 88006 0) 88007 0) 88008 0) 88009 0) 88010 0), ia h11 k10 32000 (upd (fun _ => 0) 8000 0)]) hP hD rfl hS hA [0, 1, 2, 3] (by decide +kernel) rfl
      have hK9 := hK.sub (tys' := []) [] rfl
      refine W.widen (k := 0) (n := 0) (by exact Nat.le_of_ble_eq_true rfl) (by exact Nat.le_of_ble_eq_true rfl) ?_
      exact W.iret (v := 0) hx hb hr (fun t ht hW => ⟨⟨0, (), rfl, (by first | decide | exact (fv_i (by assumption)).symm | exact (fv_w (by assumption)).symm), by rw [ht]; exact hP9, va_K.moved hW.alike hK9, hD9⟩, hS.F ht⟩) hS.2.2 d_Ref_told_70
    · skip
      refine lv_iload_n hx hb d_Ref_told_0 rfl (lv_at hl 2 rfl) ?_
      refine lv_if_lt (tgt := 28) hx hb d_Ref_told_1 (by decide) (fun c_28 => absurd c_28 (by decide)) (fun c_28 => ?_)
      refine tp_pc (pc' := 4) (by rfl) ?_
      refine lv_iload_n hx hb d_Ref_told_4 rfl (lv_at hl 2 rfl) ?_
      refine lv_aload_n hx hb d_Ref_told_5 rfl (lv_at hl 0 rfl) ?_
      refine va_get (D := (dC, dI)) (ci := 8) (v := .ref h7) (C := R_Ref) (T := F_Ref) (N := 48) hx hb hw i_Ref hown hK hP 0 rfl rfl 8 (by decide) (hw _ m_907) (fun _ h9 => h9) rfl d_Ref_told_6 ?_
      refine lv_iload_n hx hb d_Ref_told_9 rfl (lv_at hl 1 rfl) ?_
      refine va_iald (D := (dC, dI)) hx hb hK hP 1 0 rfl rfl (i := 2) (vp_c (by decide)) d_Ref_told_10 ?_
      refine tp_i (y := 1) (by first | rfl | decide) ?_
      refine lv_icmp_ge (tgt := 28) hx hb d_Ref_told_11 (by decide) (fun c_29 => absurd c_29 (by decide)) (fun c_29 => ?_)
      refine tp_pc (pc' := 14) (by rfl) ?_
      refine lv_iload_n hx hb d_Ref_told_14 rfl (lv_at hl 3 rfl) ?_
      refine lv_if_lt (tgt := 28) hx hb d_Ref_told_15 (by decide) (fun c_30 => absurd c_30 (by decide)) (fun c_30 => ?_)
      refine tp_pc (pc' := 18) (by rfl) ?_
      refine lv_iload_n hx hb d_Ref_told_18 rfl (lv_at hl 3 rfl) ?_
      refine lv_bipush (v := 10) hx hb d_Ref_told_19 (by decide) ?_
      refine lv_icmp_gt (tgt := 28) hx hb d_Ref_told_21 (by decide) (fun c_31 => absurd c_31 (by decide)) (fun c_31 => ?_)
      refine tp_pc (pc' := 24) (by rfl) ?_
      refine lv_iconst (v := 1) hx hb d_Ref_told_24 (by decide) ?_
      refine lv_goto (tgt := 29) hx hb d_Ref_told_25 (by decide) ?_
      refine tp_pc (pc' := 29) (by rfl) ?_
      refine lv_istore (lv' := [(4, .int 1), (0, .ref h0), (1, .int 2), (2, .int 0), (3, .int 5)]) hx hb d_Ref_told_29 hl (by decide) rfl ?_
      clear hl ls
      intro ls hl
      refine lv_iload hx hb d_Ref_told_31 (lv_at hl 0 rfl) ?_
      refine lv_if_eq (tgt := 67) hx hb d_Ref_told_33 (by decide) (fun c_32 => absurd c_32 (by decide)) (fun c_32 => ?_)
      refine tp_pc (pc' := 36) (by rfl) ?_
      refine lv_aload_n hx hb d_Ref_told_36 rfl (lv_at hl 1 rfl) ?_
      refine va_get (D := (dC, dI)) (ci := 8) (v := .ref h8) (C := R_Ref) (T := F_Ref) (N := 48) hx hb hw i_Ref hown hK hP 0 rfl rfl 9 (by decide) (hw _ m_908) (fun _ h9 => h9) rfl d_Ref_told_37 ?_
      refine lv_bipush (v := 11) hx hb d_Ref_told_40 (by decide) ?_
      refine lv_sipush (v := 4000) hx hb d_Ref_told_42 (by decide) ?_
      refine lv_iload_n hx hb d_Ref_told_45 rfl (lv_at hl 2 rfl) ?_
      refine lv_imul hx hb d_Ref_told_46 ?_
      refine tp_i (y := 8000) (by first | rfl | decide) ?_
      refine lv_aload_n hx hb d_Ref_told_47 rfl (lv_at hl 1 rfl) ?_
      refine va_get (D := (dC, dI)) (ci := 8) (v := .ref h11) (C := R_Ref) (T := F_Ref) (N := 48) hx hb hw i_Ref hown hK hP 0 rfl rfl 12 (by decide) (hw _ m_911) (fun _ h9 => h9) rfl d_Ref_told_48 ?_
      refine lv_sipush (v := 4000) hx hb d_Ref_told_51 (by decide) ?_
      refine lv_iload_n hx hb d_Ref_told_54 rfl (lv_at hl 2 rfl) ?_
      refine lv_imul hx hb d_Ref_told_55 ?_
      refine tp_i (y := 8000) (by first | rfl | decide) ?_
      refine lv_iload_n hx hb d_Ref_told_56 rfl (lv_at hl 3 rfl) ?_
      refine lv_iadd hx hb d_Ref_told_57 ?_
      refine tp_i (y := 8000) (by first | rfl | decide) ?_
      refine va_iald (D := (dC, dI)) hx hb hK hP 3 2 rfl rfl (i := 8000) (vp_c (by decide)) d_Ref_told_58 ?_
      refine tp_i (y := 0) (by first | rfl | decide) ?_
      refine lv_iadd hx hb d_Ref_told_59 ?_
      refine tp_i (y := 8000) (by first | rfl | decide) ?_
      refine lv_imul hx hb d_Ref_told_60 ?_
      refine tp_i (y := 88000) (by first | rfl | decide) ?_
      refine lv_iload_n hx hb d_Ref_told_61 rfl (lv_at hl 4 rfl) ?_
      refine lv_iadd hx hb d_Ref_told_62 ?_
      refine tp_i (y := 88005) (by first | rfl | decide) ?_
      refine va_sald (D := (dC, dI)) hx hb hK hP 2 1 rfl rfl (i := 88005) (vp_c (by decide)) d_Ref_told_63 ?_
      refine tp_i (y := 0) (by first | rfl | decide) ?_
      refine lv_goto (tgt := 70) hx hb d_Ref_told_64 (by decide) ?_
      refine tp_pc (pc' := 70) (by rfl) ?_
      obtain ⟨hP9, hD9, -⟩ := cut3 (wc := [oc h0 8 [.int p3, .int p4, .ref h1, .ref h2, .ref h3, .ref h4, .ref h5, .ref h6, .ref h7, .ref h8, .ref h9, .ref h10, .ref h11, .ref h12, .int p5, .ref h13, .ref h14, .ref h15, .ref h16, .int p6, .int p7, .ref h17, .ref h18, .ref h19, .int p8, .ref h20, .int p9, .int p10, .ref h21, .ref h22, .ref h23, .ref h24, .ref h25, .ref h26, .ref h27, .ref h28, .int p11, .int p12, .ref h29, .ref h30, .ref h31, .ref h32, .ref h33, .ref h34, .ref h35, .ref h36, .int p13, .ref h37], ia h7 k6 8 (upd (fun _ => 0) 2 1), ia h8 k7 352000 (upd (upd (upd (upd (upd (upd (upd (upd (upd (upd (upd (fun _ => 0) 88000 0) 88001 0) 88002 0) 88003 0) 88004 0) 88005 0) 88006 0) 88007 0) 88008 0) 88009 0) 88010 0), ia h11 k10 32000 (upd (fun _ => 0) 8000 0)]) hP hD rfl hS hA [0, 1, 2, 3] (by decide +kernel) rfl
      have hK9 := hK.sub (tys' := []) [] rfl
      refine W.widen (k := 0) (n := 0) (by exact Nat.le_of_ble_eq_true rfl) (by exact Nat.le_of_ble_eq_true rfl) ?_
      exact W.iret (v := 0) hx hb hr (fun t ht hW => ⟨⟨0, (), rfl, (by first | decide | exact (fv_i (by assumption)).symm | exact (fv_w (by assumption)).symm), by rw [ht]; exact hP9, va_K.moved hW.alike hK9, hD9⟩, hS.F ht⟩) hS.2.2 d_Ref_told_70
    · skip
      refine lv_iload_n hx hb d_Ref_told_0 rfl (lv_at hl 2 rfl) ?_
      refine lv_if_lt (tgt := 28) hx hb d_Ref_told_1 (by decide) (fun c_33 => absurd c_33 (by decide)) (fun c_33 => ?_)
      refine tp_pc (pc' := 4) (by rfl) ?_
      refine lv_iload_n hx hb d_Ref_told_4 rfl (lv_at hl 2 rfl) ?_
      refine lv_aload_n hx hb d_Ref_told_5 rfl (lv_at hl 0 rfl) ?_
      refine va_get (D := (dC, dI)) (ci := 8) (v := .ref h7) (C := R_Ref) (T := F_Ref) (N := 48) hx hb hw i_Ref hown hK hP 0 rfl rfl 8 (by decide) (hw _ m_907) (fun _ h9 => h9) rfl d_Ref_told_6 ?_
      refine lv_iload_n hx hb d_Ref_told_9 rfl (lv_at hl 1 rfl) ?_
      refine va_iald (D := (dC, dI)) hx hb hK hP 1 0 rfl rfl (i := 2) (vp_c (by decide)) d_Ref_told_10 ?_
      refine tp_i (y := 1) (by first | rfl | decide) ?_
      refine lv_icmp_ge (tgt := 28) hx hb d_Ref_told_11 (by decide) (fun c_34 => absurd c_34 (by decide)) (fun c_34 => ?_)
      refine tp_pc (pc' := 14) (by rfl) ?_
      refine lv_iload_n hx hb d_Ref_told_14 rfl (lv_at hl 3 rfl) ?_
      refine lv_if_lt (tgt := 28) hx hb d_Ref_told_15 (by decide) (fun c_35 => absurd c_35 (by decide)) (fun c_35 => ?_)
      refine tp_pc (pc' := 18) (by rfl) ?_
      refine lv_iload_n hx hb d_Ref_told_18 rfl (lv_at hl 3 rfl) ?_
      refine lv_bipush (v := 10) hx hb d_Ref_told_19 (by decide) ?_
      refine lv_icmp_gt (tgt := 28) hx hb d_Ref_told_21 (by decide) (fun c_36 => absurd c_36 (by decide)) (fun c_36 => ?_)
      refine tp_pc (pc' := 24) (by rfl) ?_
      refine lv_iconst (v := 1) hx hb d_Ref_told_24 (by decide) ?_
      refine lv_goto (tgt := 29) hx hb d_Ref_told_25 (by decide) ?_
      refine tp_pc (pc' := 29) (by rfl) ?_
      refine lv_istore (lv' := [(4, .int 1), (0, .ref h0), (1, .int 2), (2, .int 0), (3, .int 6)]) hx hb d_Ref_told_29 hl (by decide) rfl ?_
      clear hl ls
      intro ls hl
      refine lv_iload hx hb d_Ref_told_31 (lv_at hl 0 rfl) ?_
      refine lv_if_eq (tgt := 67) hx hb d_Ref_told_33 (by decide) (fun c_37 => absurd c_37 (by decide)) (fun c_37 => ?_)
      refine tp_pc (pc' := 36) (by rfl) ?_
      refine lv_aload_n hx hb d_Ref_told_36 rfl (lv_at hl 1 rfl) ?_
      refine va_get (D := (dC, dI)) (ci := 8) (v := .ref h8) (C := R_Ref) (T := F_Ref) (N := 48) hx hb hw i_Ref hown hK hP 0 rfl rfl 9 (by decide) (hw _ m_908) (fun _ h9 => h9) rfl d_Ref_told_37 ?_
      refine lv_bipush (v := 11) hx hb d_Ref_told_40 (by decide) ?_
      refine lv_sipush (v := 4000) hx hb d_Ref_told_42 (by decide) ?_
      refine lv_iload_n hx hb d_Ref_told_45 rfl (lv_at hl 2 rfl) ?_
      refine lv_imul hx hb d_Ref_told_46 ?_
      refine tp_i (y := 8000) (by first | rfl | decide) ?_
      refine lv_aload_n hx hb d_Ref_told_47 rfl (lv_at hl 1 rfl) ?_
      refine va_get (D := (dC, dI)) (ci := 8) (v := .ref h11) (C := R_Ref) (T := F_Ref) (N := 48) hx hb hw i_Ref hown hK hP 0 rfl rfl 12 (by decide) (hw _ m_911) (fun _ h9 => h9) rfl d_Ref_told_48 ?_
      refine lv_sipush (v := 4000) hx hb d_Ref_told_51 (by decide) ?_
      refine lv_iload_n hx hb d_Ref_told_54 rfl (lv_at hl 2 rfl) ?_
      refine lv_imul hx hb d_Ref_told_55 ?_
      refine tp_i (y := 8000) (by first | rfl | decide) ?_
      refine lv_iload_n hx hb d_Ref_told_56 rfl (lv_at hl 3 rfl) ?_
      refine lv_iadd hx hb d_Ref_told_57 ?_
      refine tp_i (y := 8000) (by first | rfl | decide) ?_
      refine va_iald (D := (dC, dI)) hx hb hK hP 3 2 rfl rfl (i := 8000) (vp_c (by decide)) d_Ref_told_58 ?_
      refine tp_i (y := 0) (by first | rfl | decide) ?_
      refine lv_iadd hx hb d_Ref_told_59 ?_
      refine tp_i (y := 8000) (by first | rfl | decide) ?_
      refine lv_imul hx hb d_Ref_told_60 ?_
      refine tp_i (y := 88000) (by first | rfl | decide) ?_
      refine lv_iload_n hx hb d_Ref_told_61 rfl (lv_at hl 4 rfl) ?_
      refine lv_iadd hx hb d_Ref_told_62 ?_
      refine tp_i (y := 88006) (by first | rfl | decide) ?_
      refine va_sald (D := (dC, dI)) hx hb hK hP 2 1 rfl rfl (i := 88006) (vp_c (by decide)) d_Ref_told_63 ?_
      refine tp_i (y := 0) (by first | rfl | decide) ?_
      refine lv_goto (tgt := 70) hx hb d_Ref_told_64 (by decide) ?_
      refine tp_pc (pc' := 70) (by rfl) ?_
      obtain ⟨hP9, hD9, -⟩ := cut3 (wc := [oc h0 8 [.int p3, .int p4, .ref h1, .ref h2, .ref h3, .ref h4, .ref h5, .ref h6, .ref h7, .ref h8, .ref h9, .ref h10, .ref h11, .ref h12, .int p5, .ref h13, .ref h14, .ref h15, .ref h16, .int p6, .int p7, .ref h17, .ref h18, .ref h19, .int p8, .ref h20, .int p9, .int p10, .ref h21, .ref h22, .ref h23, .ref h24, .ref h25, .ref h26, .ref h27, .ref h28, .int p11, .int p12, .ref h29, .ref h30, .ref h31, .ref h32, .ref h33, .ref h34, .ref h35, .ref h36, .int p13, .ref h37], ia h7 k6 8 (upd (fun _ => 0) 2 1), ia h8 k7 352000 (upd (upd (upd (upd (upd (upd (upd (upd (upd (upd (upd (fun _ => 0) 88000 0) 88001 0) 88002 0) 88003 0) 88004 0) 88005 0) 88006 0) 88007 0) 88008 0) 88009 0) 88010 0), ia h11 k10 32000 (upd (fun _ => 0) 8000 0)]) hP hD rfl hS hA [0, 1, 2, 3] (by decide +kernel) rfl
      have hK9 := hK.sub (tys' := []) [] rfl
      refine W.widen (k := 0) (n := 0) (by exact Nat.le_of_ble_eq_true rfl) (by exact Nat.le_of_ble_eq_true rfl) ?_
      exact W.iret (v := 0) hx hb hr (fun t ht hW => ⟨⟨0, (), rfl, (by first | decide | exact (fv_i (by assumption)).symm | exact (fv_w (by assumption)).symm), by rw [ht]; exact hP9, va_K.moved hW.alike hK9, hD9⟩, hS.F ht⟩) hS.2.2 d_Ref_told_70
    · skip
      refine lv_iload_n hx hb d_Ref_told_0 rfl (lv_at hl 2 rfl) ?_
      refine lv_if_lt (tgt := 28) hx hb d_Ref_told_1 (by decide) (fun c_38 => absurd c_38 (by decide)) (fun c_38 => ?_)
      refine tp_pc (pc' := 4) (by rfl) ?_
      refine lv_iload_n hx hb d_Ref_told_4 rfl (lv_at hl 2 rfl) ?_
      refine lv_aload_n hx hb d_Ref_told_5 rfl (lv_at hl 0 rfl) ?_
      refine va_get (D := (dC, dI)) (ci := 8) (v := .ref h7) (C := R_Ref) (T := F_Ref) (N := 48) hx hb hw i_Ref hown hK hP 0 rfl rfl 8 (by decide) (hw _ m_907) (fun _ h9 => h9) rfl d_Ref_told_6 ?_
      refine lv_iload_n hx hb d_Ref_told_9 rfl (lv_at hl 1 rfl) ?_
      refine va_iald (D := (dC, dI)) hx hb hK hP 1 0 rfl rfl (i := 2) (vp_c (by decide)) d_Ref_told_10 ?_
      refine tp_i (y := 1) (by first | rfl | decide) ?_
      refine lv_icmp_ge (tgt := 28) hx hb d_Ref_told_11 (by decide) (fun c_39 => absurd c_39 (by decide)) (fun c_39 => ?_)
      refine tp_pc (pc' := 14) (by rfl) ?_
      refine lv_iload_n hx hb d_Ref_told_14 rfl (lv_at hl 3 rfl) ?_
      refine lv_if_lt (tgt := 28) hx hb d_Ref_told_15 (by decide) (fun c_40 => absurd c_40 (by decide)) (fun c_40 => ?_)
      refine tp_pc (pc' := 18) (by rfl) ?_
      refine lv_iload_n hx hb d_Ref_told_18 rfl (lv_at hl 3 rfl) ?_
      refine lv_bipush (v := 10) hx hb d_Ref_told_19 (by decide) ?_
      refine lv_icmp_gt (tgt := 28) hx hb d_Ref_told_21 (by decide) (fun c_41 => absurd c_41 (by decide)) (fun c_41 => ?_)
      refine tp_pc (pc' := 24) (by rfl) ?_
      refine lv_iconst (v := 1) hx hb d_Ref_told_24 (by decide) ?_
      refine lv_goto (tgt := 29) hx hb d_Ref_told_25 (by decide) ?_
      refine tp_pc (pc' := 29) (by rfl) ?_
      refine lv_istore (lv' := [(4, .int 1), (0, .ref h0), (1, .int 2), (2, .int 0), (3, .int 7)]) hx hb d_Ref_told_29 hl (by decide) rfl ?_
      clear hl ls
      intro ls hl
      refine lv_iload hx hb d_Ref_told_31 (lv_at hl 0 rfl) ?_
      refine lv_if_eq (tgt := 67) hx hb d_Ref_told_33 (by decide) (fun c_42 => absurd c_42 (by decide)) (fun c_42 => ?_)
      refine tp_pc (pc' := 36) (by rfl) ?_
      refine lv_aload_n hx hb d_Ref_told_36 rfl (lv_at hl 1 rfl) ?_
      refine va_get (D := (dC, dI)) (ci := 8) (v := .ref h8) (C := R_Ref) (T := F_Ref) (N := 48) hx hb hw i_Ref hown hK hP 0 rfl rfl 9 (by decide) (hw _ m_908) (fun _ h9 => h9) rfl d_Ref_told_37 ?_
      refine lv_bipush (v := 11) hx hb d_Ref_told_40 (by decide) ?_
      refine lv_sipush (v := 4000) hx hb d_Ref_told_42 (by decide) ?_
      refine lv_iload_n hx hb d_Ref_told_45 rfl (lv_at hl 2 rfl) ?_
      refine lv_imul hx hb d_Ref_told_46 ?_
      refine tp_i (y := 8000) (by first | rfl | decide) ?_
      refine lv_aload_n hx hb d_Ref_told_47 rfl (lv_at hl 1 rfl) ?_
      refine va_get (D := (dC, dI)) (ci := 8) (v := .ref h11) (C := R_Ref) (T := F_Ref) (N := 48) hx hb hw i_Ref hown hK hP 0 rfl rfl 12 (by decide) (hw _ m_911) (fun _ h9 => h9) rfl d_Ref_told_48 ?_
      refine lv_sipush (v := 4000) hx hb d_Ref_told_51 (by decide) ?_
      refine lv_iload_n hx hb d_Ref_told_54 rfl (lv_at hl 2 rfl) ?_
      refine lv_imul hx hb d_Ref_told_55 ?_
      refine tp_i (y := 8000) (by first | rfl | decide) ?_
      refine lv_iload_n hx hb d_Ref_told_56 rfl (lv_at hl 3 rfl) ?_
      refine lv_iadd hx hb d_Ref_told_57 ?_
      refine tp_i (y := 8000) (by first | rfl | decide) ?_
      refine va_iald (D := (dC, dI)) hx hb hK hP 3 2 rfl rfl (i := 8000) (vp_c (by decide)) d_Ref_told_58 ?_
      refine tp_i (y := 0) (by first | rfl | decide) ?_
      refine lv_iadd hx hb d_Ref_told_59 ?_
      refine tp_i (y := 8000) (by first | rfl | decide) ?_
      refine lv_imul hx hb d_Ref_told_60 ?_
      refine tp_i (y := 88000) (by first | rfl | decide) ?_
      refine lv_iload_n hx hb d_Ref_told_61 rfl (lv_at hl 4 rfl) ?_
      refine lv_iadd hx hb d_Ref_told_62 ?_
      refine tp_i (y := 88007) (by first | rfl | decide) ?_
      refine va_sald (D := (dC, dI)) hx hb hK hP 2 1 rfl rfl (i := 88007) (vp_c (by decide)) d_Ref_told_63 ?_
      refine tp_i (y := 0) (by first | rfl | decide) ?_
      refine lv_goto (tgt := 70) hx hb d_Ref_told_64 (by decide) ?_
      refine tp_pc (pc' := 70) (by rfl) ?_
      obtain ⟨hP9, hD9, -⟩ := cut3 (wc := [oc h0 8 [.int p3, .int p4, .ref h1, .ref h2, .ref h3, .ref h4, .ref h5, .ref h6, .ref h7, .ref h8, .ref h9, .ref h10, .ref h11, .ref h12, .int p5, .ref h13, .ref h14, .ref h15, .ref h16, .int p6, .int p7, .ref h17, .ref h18, .ref h19, .int p8, .ref h20, .int p9, .int p10, .ref h21, .ref h22, .ref h23, .ref h24, .ref h25, .ref h26, .ref h27, .ref h28, .int p11, .int p12, .ref h29, .ref h30, .ref h31, .ref h32, .ref h33, .ref h34, .ref h35, .ref h36, .int p13, .ref h37], ia h7 k6 8 (upd (fun _ => 0) 2 1), ia h8 k7 352000 (upd (upd (upd (upd (upd (upd (upd (upd (upd (upd (upd (fun _ => 0) 88000 0) 88001 0) 88002 0) 88003 0) 88004 0) 88005 0) 88006 0) 88007 0) 88008 0) 88009 0) 88010 0), ia h11 k10 32000 (upd (fun _ => 0) 8000 0)]) hP hD rfl hS hA [0, 1, 2, 3] (by decide +kernel) rfl
      have hK9 := hK.sub (tys' := []) [] rfl
      refine W.widen (k := 0) (n := 0) (by exact Nat.le_of_ble_eq_true rfl) (by exact Nat.le_of_ble_eq_true rfl) ?_
      exact W.iret (v := 0) hx hb hr (fun t ht hW => ⟨⟨0, (), rfl, (by first | decide | exact (fv_i (by assumption)).symm | exact (fv_w (by assumption)).symm), by rw [ht]; exact hP9, va_K.moved hW.alike hK9, hD9⟩, hS.F ht⟩) hS.2.2 d_Ref_told_70
    · skip
      refine lv_iload_n hx hb d_Ref_told_0 rfl (lv_at hl 2 rfl) ?_
      refine lv_if_lt (tgt := 28) hx hb d_Ref_told_1 (by decide) (fun c_43 => absurd c_43 (by decide)) (fun c_43 => ?_)
      refine tp_pc (pc' := 4) (by rfl) ?_
      refine lv_iload_n hx hb d_Ref_told_4 rfl (lv_at hl 2 rfl) ?_
      refine lv_aload_n hx hb d_Ref_told_5 rfl (lv_at hl 0 rfl) ?_
      refine va_get (D := (dC, dI)) (ci := 8) (v := .ref h7) (C := R_Ref) (T := F_Ref) (N := 48) hx hb hw i_Ref hown hK hP 0 rfl rfl 8 (by decide) (hw _ m_907) (fun _ h9 => h9) rfl d_Ref_told_6 ?_
      refine lv_iload_n hx hb d_Ref_told_9 rfl (lv_at hl 1 rfl) ?_
      refine va_iald (D := (dC, dI)) hx hb hK hP 1 0 rfl rfl (i := 2) (vp_c (by decide)) d_Ref_told_10 ?_
      refine tp_i (y := 1) (by first | rfl | decide) ?_
      refine lv_icmp_ge (tgt := 28) hx hb d_Ref_told_11 (by decide) (fun c_44 => absurd c_44 (by decide)) (fun c_44 => ?_)
      refine tp_pc (pc' := 14) (by rfl) ?_
      refine lv_iload_n hx hb d_Ref_told_14 rfl (lv_at hl 3 rfl) ?_
      refine lv_if_lt (tgt := 28) hx hb d_Ref_told_15 (by decide) (fun c_45 => absurd c_45 (by decide)) (fun c_45 => ?_)
      refine tp_pc (pc' := 18) (by rfl) ?_
      refine lv_iload_n hx hb d_Ref_told_18 rfl (lv_at hl 3 rfl) ?_
      refine lv_bipush (v := 10) hx hb d_Ref_told_19 (by decide) ?_
      refine lv_icmp_gt (tgt := 28) hx hb d_Ref_told_21 (by decide) (fun c_46 => absurd c_46 (by decide)) (fun c_46 => ?_)
      refine tp_pc (pc' := 24) (by rfl) ?_
      refine lv_iconst (v := 1) hx hb d_Ref_told_24 (by decide) ?_
      refine lv_goto (tgt := 29) hx hb d_Ref_told_25 (by decide) ?_
      refine tp_pc (pc' := 29) (by rfl) ?_
      refine lv_istore (lv' := [(4, .int 1), (0, .ref h0), (1, .int 2), (2, .int 0), (3, .int 8)]) hx hb d_Ref_told_29 hl (by decide) rfl ?_
      clear hl ls
      intro ls hl
      refine lv_iload hx hb d_Ref_told_31 (lv_at hl 0 rfl) ?_
      refine lv_if_eq (tgt := 67) hx hb d_Ref_told_33 (by decide) (fun c_47 => absurd c_47 (by decide)) (fun c_47 => ?_)
      refine tp_pc (pc' := 36) (by rfl) ?_
      refine lv_aload_n hx hb d_Ref_told_36 rfl (lv_at hl 1 rfl) ?_
      refine va_get (D := (dC, dI)) (ci := 8) (v := .ref h8) (C := R_Ref) (T := F_Ref) (N := 48) hx hb hw i_Ref hown hK hP 0 rfl rfl 9 (by decide) (hw _ m_908) (fun _ h9 => h9) rfl d_Ref_told_37 ?_
      refine lv_bipush (v := 11) hx hb d_Ref_told_40 (by decide) ?_
      refine lv_sipush (v := 4000) hx hb d_Ref_told_42 (by decide) ?_
      refine lv_iload_n hx hb d_Ref_told_45 rfl (lv_at hl 2 rfl) ?_
      refine lv_imul hx hb d_Ref_told_46 ?_
      refine tp_i (y := 8000) (by first | rfl | decide) ?_
      refine lv_aload_n hx hb d_Ref_told_47 rfl (lv_at hl 1 rfl) ?_
      refine va_get (D := (dC, dI)) (ci := 8) (v := .ref h11) (C := R_Ref) (T := F_Ref) (N := 48) hx hb hw i_Ref hown hK hP 0 rfl rfl 12 (by decide) (hw _ m_911) (fun _ h9 => h9) rfl d_Ref_told_48 ?_
      refine lv_sipush (v := 4000) hx hb d_Ref_told_51 (by decide) ?_
      refine lv_iload_n hx hb d_Ref_told_54 rfl (lv_at hl 2 rfl) ?_
      refine lv_imul hx hb d_Ref_told_55 ?_
      refine tp_i (y := 8000) (by first | rfl | decide) ?_
      refine lv_iload_n hx hb d_Ref_told_56 rfl (lv_at hl 3 rfl) ?_
      refine lv_iadd hx hb d_Ref_told_57 ?_
      refine tp_i (y := 8000) (by first | rfl | decide) ?_
      refine va_iald (D := (dC, dI)) hx hb hK hP 3 2 rfl rfl (i := 8000) (vp_c (by decide)) d_Ref_told_58 ?_
      refine tp_i (y := 0) (by first | rfl | decide) ?_
      refine lv_iadd hx hb d_Ref_told_59 ?_
      refine tp_i (y := 8000) (by first | rfl | decide) ?_
      refine lv_imul hx hb d_Ref_told_60 ?_
      refine tp_i (y := 88000) (by first | rfl | decide) ?_
      refine lv_iload_n hx hb d_Ref_told_61 rfl (lv_at hl 4 rfl) ?_
      refine lv_iadd hx hb d_Ref_told_62 ?_
      refine tp_i (y := 88008) (by first | rfl | decide) ?_
      refine va_sald (D := (dC, dI)) hx hb hK hP 2 1 rfl rfl (i := 88008) (vp_c (by decide)) d_Ref_told_63 ?_
      refine tp_i (y := 0) (by first | rfl | decide) ?_
      refine lv_goto (tgt := 70) hx hb d_Ref_told_64 (by decide) ?_
      refine tp_pc (pc' := 70) (by rfl) ?_
      obtain ⟨hP9, hD9, -⟩ := cut3 (wc := [oc h0 8 [.int p3, .int p4, .ref h1, .ref h2, .ref h3, .ref h4, .ref h5, .ref h6, .ref h7, .ref h8, .ref h9, .ref h10, .ref h11, .ref h12, .int p5, .ref h13, .ref h14, .ref h15, .ref h16, .int p6, .int p7, .ref h17, .ref h18, .ref h19, .int p8, .ref h20, .int p9, .int p10, .ref h21, .ref h22, .ref h23, .ref h24, .ref h25, .ref h26, .ref h27, .ref h28, .int p11, .int p12, .ref h29, .ref h30, .ref h31, .ref h32, .ref h33, .ref h34, .ref h35, .ref h36, .int p13, .ref h37], ia h7 k6 8 (upd (fun _ => 0) 2 1), ia h8 k7 352000 (upd (upd (upd (upd (upd (upd (upd (upd (upd (upd (upd (fun _ => 0) 88000 0) 88001 0) 88002 0) 88003 0) 88004 0) 88005 0) 88006 0) 88007 0) 88008 0) 88009 0) 88010 0), ia h11 k10 32000 (upd (fun _ => 0) 8000 0)]) hP hD rfl hS hA [0, 1, 2, 3] (by decide +kernel) rfl
      have hK9 := hK.sub (tys' := []) [] rfl
      refine W.widen (k := 0) (n := 0) (by exact Nat.le_of_ble_eq_true rfl) (by exact Nat.le_of_ble_eq_true rfl) ?_
      exact W.iret (v := 0) hx hb hr (fun t ht hW => ⟨⟨0, (), rfl, (by first | decide | exact (fv_i (by assumption)).symm | exact (fv_w (by assumption)).symm), by rw [ht]; exact hP9, va_K.moved hW.alike hK9, hD9⟩, hS.F ht⟩) hS.2.2 d_Ref_told_70
    · skip
      refine lv_iload_n hx hb d_Ref_told_0 rfl (lv_at hl 2 rfl) ?_
      refine lv_if_lt (tgt := 28) hx hb d_Ref_told_1 (by decide) (fun c_48 => absurd c_48 (by decide)) (fun c_48 => ?_)
      refine tp_pc (pc' := 4) (by rfl) ?_
      refine lv_iload_n hx hb d_Ref_told_4 rfl (lv_at hl 2 rfl) ?_
      refine lv_aload_n hx hb d_Ref_told_5 rfl (lv_at hl 0 rfl) ?_
      refine va_get (D := (dC, dI)) (ci := 8) (v := .ref h7) (C := R_Ref) (T := F_Ref) (N := 48) hx hb hw i_Ref hown hK hP 0 rfl rfl 8 (by decide) (hw _ m_907) (fun _ h9 => h9) rfl d_Ref_told_6 ?_
      refine lv_iload_n hx hb d_Ref_told_9 rfl (lv_at hl 1 rfl) ?_
      refine va_iald (D := (dC, dI)) hx hb hK hP 1 0 rfl rfl (i := 2) (vp_c (by decide)) d_Ref_told_10 ?_
      refine tp_i (y := 1) (by first | rfl | decide) ?_
      refine lv_icmp_ge (tgt := 28) hx hb d_Ref_told_11 (by decide) (fun c_49 => absurd c_49 (by decide)) (fun c_49 => ?_)
      refine tp_pc (pc' := 14) (by rfl) ?_
      refine lv_iload_n hx hb d_Ref_told_14 rfl (lv_at hl 3 rfl) ?_
      refine lv_if_lt (tgt := 28) hx hb d_Ref_told_15 (by decide) (fun c_50 => absurd c_50 (by decide)) (fun c_50 => ?_)
      refine tp_pc (pc' := 18) (by rfl) ?_
      refine lv_iload_n hx hb d_Ref_told_18 rfl (lv_at hl 3 rfl) ?_
      refine lv_bipush (v := 10) hx hb d_Ref_told_19 (by decide) ?_
      refine lv_icmp_gt (tgt := 28) hx hb d_Ref_told_21 (by decide) (fun c_51 => absurd c_51 (by decide)) (fun c_51 => ?_)
      refine tp_pc (pc' := 24) (by rfl) ?_
      refine lv_iconst (v := 1) hx hb d_Ref_told_24 (by decide) ?_
      refine lv_goto (tgt := 29) hx hb d_Ref_told_25 (by decide) ?_
      refine tp_pc (pc' := 29) (by rfl) ?_
      refine lv_istore (lv' := [(4, .int 1), (0, .ref h0), (1, .int 2), (2, .int 0), (3, .int 9)]) hx hb d_Ref_told_29 hl (by decide) rfl ?_
      clear hl ls
      intro ls hl
      refine lv_iload hx hb d_Ref_told_31 (lv_at hl 0 rfl) ?_
      refine lv_if_eq (tgt := 67) hx hb d_Ref_told_33 (by decide) (fun c_52 => absurd c_52 (by decide)) (fun c_52 => ?_)
      refine tp_pc (pc' := 36) (by rfl) ?_
      refine lv_aload_n hx hb d_Ref_told_36 rfl (lv_at hl 1 rfl) ?_
      refine va_get (D := (dC, dI)) (ci := 8) (v := .ref h8) (C := R_Ref) (T := F_Ref) (N := 48) hx hb hw i_Ref hown hK hP 0 rfl rfl 9 (by decide) (hw _ m_908) (fun _ h9 => h9) rfl d_Ref_told_37 ?_
      refine lv_bipush (v := 11) hx hb d_Ref_told_40 (by decide) ?_
      refine lv_sipush (v := 4000) hx hb d_Ref_told_42 (by decide) ?_
      refine lv_iload_n hx hb d_Ref_told_45 rfl (lv_at hl 2 rfl) ?_
      refine lv_imul hx hb d_Ref_told_46 ?_
      refine tp_i (y := 8000) (by first | rfl | decide) ?_
      refine lv_aload_n hx hb d_Ref_told_47 rfl (lv_at hl 1 rfl) ?_
      refine va_get (D := (dC, dI)) (ci := 8) (v := .ref h11) (C := R_Ref) (T := F_Ref) (N := 48) hx hb hw i_Ref hown hK hP 0 rfl rfl 12 (by decide) (hw _ m_911) (fun _ h9 => h9) rfl d_Ref_told_48 ?_
      refine lv_sipush (v := 4000) hx hb d_Ref_told_51 (by decide) ?_
      refine lv_iload_n hx hb d_Ref_told_54 rfl (lv_at hl 2 rfl) ?_
      refine lv_imul hx hb d_Ref_told_55 ?_
      refine tp_i (y := 8000) (by first | rfl | decide) ?_
      refine lv_iload_n hx hb d_Ref_told_56 rfl (lv_at hl 3 rfl) ?_
      refine lv_iadd hx hb d_Ref_told_57 ?_
      refine tp_i (y := 8000) (by first | rfl | decide) ?_
      refine va_iald (D := (dC, dI)) hx hb hK hP 3 2 rfl rfl (i := 8000) (vp_c (by decide)) d_Ref_told_58 ?_
      refine tp_i (y := 0) (by first | rfl | decide) ?_
      refine lv_iadd hx hb d_Ref_told_59 ?_
      refine tp_i (y := 8000) (by first | rfl | decide) ?_
      refine lv_imul hx hb d_Ref_told_60 ?_
      refine tp_i (y := 88000) (by first | rfl | decide) ?_
      refine lv_iload_n hx hb d_Ref_told_61 rfl (lv_at hl 4 rfl) ?_
      refine lv_iadd hx hb d_Ref_told_62 ?_
      refine tp_i (y := 88009) (by first | rfl | decide) ?_
      refine va_sald (D := (dC, dI)) hx hb hK hP 2 1 rfl rfl (i := 88009) (vp_c (by decide)) d_Ref_told_63 ?_
      refine tp_i (y := 0) (by first | rfl | decide) ?_
      refine lv_goto (tgt := 70) hx hb d_Ref_told_64 (by decide) ?_
      refine tp_pc (pc' := 70) (by rfl) ?_
      obtain ⟨hP9, hD9, -⟩ := cut3 (wc := [oc h0 8 [.int p3, .int p4, .ref h1, .ref h2, .ref h3, .ref h4, .ref h5, .ref h6, .ref h7, .ref h8, .ref h9, .ref h10, .ref h11, .ref h12, .int p5, .ref h13, .ref h14, .ref h15, .ref h16, .int p6, .int p7, .ref h17, .ref h18, .ref h19, .int p8, .ref h20, .int p9, .int p10, .ref h21, .ref h22, .ref h23, .ref h24, .ref h25, .ref h26, .ref h27, .ref h28, .int p11, .int p12, .ref h29, .ref h30, .ref h31, .ref h32, .ref h33, .ref h34, .ref h35, .ref h36, .int p13, .ref h37], ia h7 k6 8 (upd (fun _ => 0) 2 1), ia h8 k7 352000 (upd (upd (upd (upd (upd (upd (upd (upd (upd (upd (upd (fun _ => 0) 88000 0) 88001 0) 88002 0) 88003 0) 88004 0) 88005 0) 88006 0) 88007 0) 88008 0) 88009 0) 88010 0), ia h11 k10 32000 (upd (fun _ => 0) 8000 0)]) hP hD rfl hS hA [0, 1, 2, 3] (by decide +kernel) rfl
      have hK9 := hK.sub (tys' := []) [] rfl
      refine W.widen (k := 0) (n := 0) (by exact Nat.le_of_ble_eq_true rfl) (by exact Nat.le_of_ble_eq_true rfl) ?_
      exact W.iret (v := 0) hx hb hr (fun t ht hW => ⟨⟨0, (), rfl, (by first | decide | exact (fv_i (by assumption)).symm | exact (fv_w (by assumption)).symm), by rw [ht]; exact hP9, va_K.moved hW.alike hK9, hD9⟩, hS.F ht⟩) hS.2.2 d_Ref_told_70
    · skip
      refine lv_iload_n hx hb d_Ref_told_0 rfl (lv_at hl 2 rfl) ?_
      refine lv_if_lt (tgt := 28) hx hb d_Ref_told_1 (by decide) (fun c_53 => absurd c_53 (by decide)) (fun c_53 => ?_)
      refine tp_pc (pc' := 4) (by rfl) ?_
      refine lv_iload_n hx hb d_Ref_told_4 rfl (lv_at hl 2 rfl) ?_
      refine lv_aload_n hx hb d_Ref_told_5 rfl (lv_at hl 0 rfl) ?_
      refine va_get (D := (dC, dI)) (ci := 8) (v := .ref h7) (C := R_Ref) (T := F_Ref) (N := 48) hx hb hw i_Ref hown hK hP 0 rfl rfl 8 (by decide) (hw _ m_907) (fun _ h9 => h9) rfl d_Ref_told_6 ?_
      refine lv_iload_n hx hb d_Ref_told_9 rfl (lv_at hl 1 rfl) ?_
      refine va_iald (D := (dC, dI)) hx hb hK hP 1 0 rfl rfl (i := 2) (vp_c (by decide)) d_Ref_told_10 ?_
      refine tp_i (y := 1) (by first | rfl | decide) ?_
      refine lv_icmp_ge (tgt := 28) hx hb d_Ref_told_11 (by decide) (fun c_54 => absurd c_54 (by decide)) (fun c_54 => ?_)
      refine tp_pc (pc' := 14) (by rfl) ?_
      refine lv_iload_n hx hb d_Ref_told_14 rfl (lv_at hl 3 rfl) ?_
      refine lv_if_lt (tgt := 28) hx hb d_Ref_told_15 (by decide) (fun c_55 => absurd c_55 (by decide)) (fun c_55 => ?_)
      refine tp_pc (pc' := 18) (by rfl) ?_
      refine lv_iload_n hx hb d_Ref_told_18 rfl (lv_at hl 3 rfl) ?_
      refine lv_bipush (v := 10) hx hb d_Ref_told_19 (by decide) ?_
      refine lv_icmp_gt (tgt := 28) hx hb d_Ref_told_21 (by decide) (fun c_56 => absurd c_56 (by decide)) (fun c_56 => ?_)
      refine tp_pc (pc' := 24) (by rfl) ?_
      refine lv_iconst (v := 1) hx hb d_Ref_told_24 (by decide) ?_
      refine lv_goto (tgt := 29) hx hb d_Ref_told_25 (by decide) ?_
      refine tp_pc (pc' := 29) (by rfl) ?_
      refine lv_istore (lv' := [(4, .int 1), (0, .ref h0), (1, .int 2), (2, .int 0), (3, .int 10)]) hx hb d_Ref_told_29 hl (by decide) rfl ?_
      clear hl ls
      intro ls hl
      refine lv_iload hx hb d_Ref_told_31 (lv_at hl 0 rfl) ?_
      refine lv_if_eq (tgt := 67) hx hb d_Ref_told_33 (by decide) (fun c_57 => absurd c_57 (by decide)) (fun c_57 => ?_)
      refine tp_pc (pc' := 36) (by rfl) ?_
      refine lv_aload_n hx hb d_Ref_told_36 rfl (lv_at hl 1 rfl) ?_
      refine va_get (D := (dC, dI)) (ci := 8) (v := .ref h8) (C := R_Ref) (T := F_Ref) (N := 48) hx hb hw i_Ref hown hK hP 0 rfl rfl 9 (by decide) (hw _ m_908) (fun _ h9 => h9) rfl d_Ref_told_37 ?_
      refine lv_bipush (v := 11) hx hb d_Ref_told_40 (by decide) ?_
      refine lv_sipush (v := 4000) hx hb d_Ref_told_42 (by decide) ?_
      refine lv_iload_n hx hb d_Ref_told_45 rfl (lv_at hl 2 rfl) ?_
      refine lv_imul hx hb d_Ref_told_46 ?_
      refine tp_i (y := 8000) (by first | rfl | decide) ?_
      refine lv_aload_n hx hb d_Ref_told_47 rfl (lv_at hl 1 rfl) ?_
      refine va_get (D := (dC, dI)) (ci := 8) (v := .ref h11) (C := R_Ref) (T := F_Ref) (N := 48) hx hb hw i_Ref hown hK hP 0 rfl rfl 12 (by decide) (hw _ m_911) (fun _ h9 => h9) rfl d_Ref_told_48 ?_
      refine lv_sipush (v := 4000) hx hb d_Ref_told_51 (by decide) ?_
      refine lv_iload_n hx hb d_Ref_told_54 rfl (lv_at hl 2 rfl) ?_
      refine lv_imul hx hb d_Ref_told_55 ?_
      refine tp_i (y := 8000) (by first | rfl | decide) ?_
      refine lv_iload_n hx hb d_Ref_told_56 rfl (lv_at hl 3 rfl) ?_
      refine lv_iadd hx hb d_Ref_told_57 ?_
      refine tp_i (y := 8000) (by first | rfl | decide) ?_
      refine va_iald (D := (dC, dI)) hx hb hK hP 3 2 rfl rfl (i := 8000) (vp_c (by decide)) d_Ref_told_58 ?_
      refine tp_i (y := 0) (by first | rfl | decide) ?_
      refine lv_iadd hx hb d_Ref_told_59 ?_
      refine tp_i (y := 8000) (by first | rfl | decide) ?_
      refine lv_imul hx hb d_Ref_told_60 ?_
      refine tp_i (y := 88000) (by first | rfl | decide) ?_
      refine lv_iload_n hx hb d_Ref_told_61 rfl (lv_at hl 4 rfl) ?_
      refine lv_iadd hx hb d_Ref_told_62 ?_
      refine tp_i (y := 88010) (by first | rfl | decide) ?_
      refine va_sald (D := (dC, dI)) hx hb hK hP 2 1 rfl rfl (i := 88010) (vp_c (by decide)) d_Ref_told_63 ?_
      refine tp_i (y := 0) (by first | rfl | decide) ?_
      refine lv_goto (tgt := 70) hx hb d_Ref_told_64 (by decide) ?_
      refine tp_pc (pc' := 70) (by rfl) ?_
      obtain ⟨hP9, hD9, -⟩ := cut3 (wc := [oc h0 8 [.int p3, .int p4, .ref h1, .ref h2, .ref h3, .ref h4, .ref h5, .ref h6, .ref h7, .ref h8, .ref h9, .ref h10, .ref h11, .ref h12, .int p5, .ref h13, .ref h14, .ref h15, .ref h16, .int p6, .int p7, .ref h17, .ref h18, .ref h19, .int p8, .ref h20, .int p9, .int p10, .ref h21, .ref h22, .ref h23, .ref h24, .ref h25, .ref h26, .ref h27, .ref h28, .int p11, .int p12, .ref h29, .ref h30, .ref h31, .ref h32, .ref h33, .ref h34, .ref h35, .ref h36, .int p13, .ref h37], ia h7 k6 8 (upd (fun _ => 0) 2 1), ia h8 k7 352000 (upd (upd (upd (upd (upd (upd (upd (upd (upd (upd (upd (fun _ => 0) 88000 0) 88001 0) 88002 0) 88003 0) 88004 0) 88005 0) 88006 0) 88007 0) 88008 0) 88009 0) 88010 0), ia h11 k10 32000 (upd (fun _ => 0) 8000 0)]) hP hD rfl hS hA [0, 1, 2, 3] (by decide +kernel) rfl
      have hK9 := hK.sub (tys' := []) [] rfl
      refine W.widen (k := 0) (n := 0) (by exact Nat.le_of_ble_eq_true rfl) (by exact Nat.le_of_ble_eq_true rfl) ?_
      exact W.iret (v := 0) hx hb hr (fun t ht hW => ⟨⟨0, (), rfl, (by first | decide | exact (fv_i (by assumption)).symm | exact (fv_w (by assumption)).symm), by rw [ht]; exact hP9, va_K.moved hW.alike hK9, hD9⟩, hS.F ht⟩) hS.2.2 d_Ref_told_70
    · skip
      refine lv_iload_n hx hb d_Ref_told_0 rfl (lv_at hl 2 rfl) ?_
      refine lv_if_lt (tgt := 28) hx hb d_Ref_told_1 (by decide) (fun c_58 => absurd c_58 (by decide)) (fun c_58 => ?_)
      refine tp_pc (pc' := 4) (by rfl) ?_
      refine lv_iload_n hx hb d_Ref_told_4 rfl (lv_at hl 2 rfl) ?_
      refine lv_aload_n hx hb d_Ref_told_5 rfl (lv_at hl 0 rfl) ?_
      refine va_get (D := (dC, dI)) (ci := 8) (v := .ref h7) (C := R_Ref) (T := F_Ref) (N := 48) hx hb hw i_Ref hown hK hP 0 rfl rfl 8 (by decide) (hw _ m_907) (fun _ h9 => h9) rfl d_Ref_told_6 ?_
      refine lv_iload_n hx hb d_Ref_told_9 rfl (lv_at hl 1 rfl) ?_
      refine va_iald (D := (dC, dI)) hx hb hK hP 1 0 rfl rfl (i := 2) (vp_c (by decide)) d_Ref_told_10 ?_
      refine tp_i (y := 1) (by first | rfl | decide) ?_
      refine lv_icmp_ge (tgt := 28) hx hb d_Ref_told_11 (by decide) (fun c_59 => absurd c_59 (by decide)) (fun c_59 => ?_)
      refine tp_pc (pc' := 14) (by rfl) ?_
      refine lv_iload_n hx hb d_Ref_told_14 rfl (lv_at hl 3 rfl) ?_
      refine lv_if_lt (tgt := 28) hx hb d_Ref_told_15 (by decide) (fun c_60 => ?_) (fun c_60 => ?_)
      · skip
        refine lv_iconst (v := 0) hx hb d_Ref_told_28 (by decide) ?_
        refine lv_istore (lv' := [(4, .int 0), (0, .ref h0), (1, .int 2), (2, .int 0), (3, .int p2)]) hx hb d_Ref_told_29 hl (by decide) rfl ?_
        clear hl ls
        intro ls hl
        refine lv_iload hx hb d_Ref_told_31 (lv_at hl 0 rfl) ?_
        refine lv_if_eq (tgt := 67) hx hb d_Ref_told_33 (by decide) (fun c_61 => ?_) (fun c_61 => absurd c_61 (by decide))
        refine tp_pc (pc' := 67) (by rfl) ?_
        refine lv_sipush (v := (-1000)) hx hb d_Ref_told_67 (by decide) ?_
        obtain ⟨hP9, hD9, -⟩ := cut3 (wc := [oc h0 8 [.int p3, .int p4, .ref h1, .ref h2, .ref h3, .ref h4, .ref h5, .ref h6, .ref h7, .ref h8, .ref h9, .ref h10, .ref h11, .ref h12, .int p5, .ref h13, .ref h14, .ref h15, .ref h16, .int p6, .int p7, .ref h17, .ref h18, .ref h19, .int p8, .ref h20, .int p9, .int p10, .ref h21, .ref h22, .ref h23, .ref h24, .ref h25, .ref h26, .ref h27, .ref h28, .int p11, .int p12, .ref h29, .ref h30, .ref h31, .ref h32, .ref h33, .ref h34, .ref h35, .ref h36, .int p13, .ref h37], ia h7 k6 8 (upd (fun _ => 0) 2 1), ia h8 k7 352000 (upd (upd (upd (upd (upd (upd (upd (upd (upd (upd (upd (fun _ => 0) 88000 0) 88001 0) 88002 0) 88003 0) 88004 0) 88005 0) 88006 0) 88007 0) 88008 0) 88009 0) 88010 0), ia h11 k10 32000 (upd (fun _ => 0) 8000 0)]) hP hD rfl hS hA [0, 1, 2, 3] (by decide +kernel) rfl
        have hK9 := hK.sub (tys' := []) [] rfl
        refine W.widen (k := 0) (n := 0) (by exact Nat.le_of_ble_eq_true rfl) (by exact Nat.le_of_ble_eq_true rfl) ?_
        exact W.iret (v := (-1000)) hx hb hr (fun t ht hW => ⟨⟨(-1000), (), rfl, (by first | decide | exact (fv_i (by assumption)).symm | exact (fv_w (by assumption)).symm), by rw [ht]; exact hP9, va_K.moved hW.alike hK9, hD9⟩, hS.F ht⟩) hS.2.2 d_Ref_told_70
      · skip
        refine lv_iload_n hx hb d_Ref_told_18 rfl (lv_at hl 3 rfl) ?_
        refine lv_bipush (v := 10) hx hb d_Ref_told_19 (by decide) ?_
        refine lv_icmp_gt (tgt := 28) hx hb d_Ref_told_21 (by decide) (fun c_62 => ?_) (fun c_62 => ?_)
        · skip
          refine lv_iconst (v := 0) hx hb d_Ref_told_28 (by decide) ?_
          refine lv_istore (lv' := [(4, .int 0), (0, .ref h0), (1, .int 2), (2, .int 0), (3, .int p2)]) hx hb d_Ref_told_29 hl (by decide) rfl ?_
          clear hl ls
          intro ls hl
          refine lv_iload hx hb d_Ref_told_31 (lv_at hl 0 rfl) ?_
          refine lv_if_eq (tgt := 67) hx hb d_Ref_told_33 (by decide) (fun c_63 => ?_) (fun c_63 => absurd c_63 (by decide))
          refine tp_pc (pc' := 67) (by rfl) ?_
          refine lv_sipush (v := (-1000)) hx hb d_Ref_told_67 (by decide) ?_
          obtain ⟨hP9, hD9, -⟩ := cut3 (wc := [oc h0 8 [.int p3, .int p4, .ref h1, .ref h2, .ref h3, .ref h4, .ref h5, .ref h6, .ref h7, .ref h8, .ref h9, .ref h10, .ref h11, .ref h12, .int p5, .ref h13, .ref h14, .ref h15, .ref h16, .int p6, .int p7, .ref h17, .ref h18, .ref h19, .int p8, .ref h20, .int p9, .int p10, .ref h21, .ref h22, .ref h23, .ref h24, .ref h25, .ref h26, .ref h27, .ref h28, .int p11, .int p12, .ref h29, .ref h30, .ref h31, .ref h32, .ref h33, .ref h34, .ref h35, .ref h36, .int p13, .ref h37], ia h7 k6 8 (upd (fun _ => 0) 2 1), ia h8 k7 352000 (upd (upd (upd (upd (upd (upd (upd (upd (upd (upd (upd (fun _ => 0) 88000 0) 88001 0) 88002 0) 88003 0) 88004 0) 88005 0) 88006 0) 88007 0) 88008 0) 88009 0) 88010 0), ia h11 k10 32000 (upd (fun _ => 0) 8000 0)]) hP hD rfl hS hA [0, 1, 2, 3] (by decide +kernel) rfl
          have hK9 := hK.sub (tys' := []) [] rfl
          refine W.widen (k := 0) (n := 0) (by exact Nat.le_of_ble_eq_true rfl) (by exact Nat.le_of_ble_eq_true rfl) ?_
          exact W.iret (v := (-1000)) hx hb hr (fun t ht hW => ⟨⟨(-1000), (), rfl, (by first | decide | exact (fv_i (by assumption)).symm | exact (fv_w (by assumption)).symm), by rw [ht]; exact hP9, va_K.moved hW.alike hK9, hD9⟩, hS.F ht⟩) hS.2.2 d_Ref_told_70
        · skip
          exfalso
          simp only [Int32.lt_iff_toInt_lt, Int32.le_iff_toInt_le, ← Int32.toInt_inj] at c_60 c_62
          have k0 : (0 : Int32).toInt = 0 := by decide
          have k10 : (10 : Int32).toInt = 10 := by decide
          omega
  · skip
    rcases sw_0_10 p2 with rfl | rfl | rfl | rfl | rfl | rfl | rfl | rfl | rfl | rfl | rfl | hs_64
    · skip
      refine lv_iload_n hx hb d_Ref_told_0 rfl (lv_at hl 2 rfl) ?_
      refine lv_if_lt (tgt := 28) hx hb d_Ref_told_1 (by decide) (fun c_65 => ?_) (fun c_65 => ?_)
      · skip
        refine lv_iconst (v := 0) hx hb d_Ref_told_28 (by decide) ?_
        refine lv_istore (lv' := [(4, .int 0), (0, .ref h0), (1, .int 2), (2, .int p1), (3, .int 0)]) hx hb d_Ref_told_29 hl (by decide) rfl ?_
        clear hl ls
        intro ls hl
        refine lv_iload hx hb d_Ref_told_31 (lv_at hl 0 rfl) ?_
        refine lv_if_eq (tgt := 67) hx hb d_Ref_told_33 (by decide) (fun c_66 => ?_) (fun c_66 => absurd c_66 (by decide))
        refine tp_pc (pc' := 67) (by rfl) ?_
        refine lv_sipush (v := (-1000)) hx hb d_Ref_told_67 (by decide) ?_
        obtain ⟨hP9, hD9, -⟩ := cut3 (wc := [oc h0 8 [.int p3, .int p4, .ref h1, .ref h2, .ref h3, .ref h4, .ref h5, .ref h6, .ref h7, .ref h8, .ref h9, .ref h10, .ref h11, .ref h12, .int p5, .ref h13, .ref h14, .ref h15, .ref h16, .int p6, .int p7, .ref h17, .ref h18, .ref h19, .int p8, .ref h20, .int p9, .int p10, .ref h21, .ref h22, .ref h23, .ref h24, .ref h25, .ref h26, .ref h27, .ref h28, .int p11, .int p12, .ref h29, .ref h30, .ref h31, .ref h32, .ref h33, .ref h34, .ref h35, .ref h36, .int p13, .ref h37], ia h7 k6 8 (upd (fun _ => 0) 2 1), ia h8 k7 352000 (upd (upd (upd (upd (upd (upd (upd (upd (upd (upd (upd (fun _ => 0) 88000 0) 88001 0) 88002 0) 88003 0) 88004 0) 88005 0) 88006 0) 88007 0) 88008 0) 88009 0) 88010 0), ia h11 k10 32000 (upd (fun _ => 0) 8000 0)]) hP hD rfl hS hA [0, 1, 2, 3] (by decide +kernel) rfl
        have hK9 := hK.sub (tys' := []) [] rfl
        refine W.widen (k := 0) (n := 0) (by exact Nat.le_of_ble_eq_true rfl) (by exact Nat.le_of_ble_eq_true rfl) ?_
        exact W.iret (v := (-1000)) hx hb hr (fun t ht hW => ⟨⟨(-1000), (), rfl, (by first | decide | exact (fv_i (by assumption)).symm | exact (fv_w (by assumption)).symm), by rw [ht]; exact hP9, va_K.moved hW.alike hK9, hD9⟩, hS.F ht⟩) hS.2.2 d_Ref_told_70
      · skip
        refine lv_iload_n hx hb d_Ref_told_4 rfl (lv_at hl 2 rfl) ?_
        refine lv_aload_n hx hb d_Ref_told_5 rfl (lv_at hl 0 rfl) ?_
        refine va_get (D := (dC, dI)) (ci := 8) (v := .ref h7) (C := R_Ref) (T := F_Ref) (N := 48) hx hb hw i_Ref hown hK hP 0 rfl rfl 8 (by decide) (hw _ m_907) (fun _ h9 => h9) rfl d_Ref_told_6 ?_
        refine lv_iload_n hx hb d_Ref_told_9 rfl (lv_at hl 1 rfl) ?_
        refine va_iald (D := (dC, dI)) hx hb hK hP 1 0 rfl rfl (i := 2) (vp_c (by decide)) d_Ref_told_10 ?_
        refine tp_i (y := 1) (by first | rfl | decide) ?_
        refine lv_icmp_ge (tgt := 28) hx hb d_Ref_told_11 (by decide) (fun c_67 => ?_) (fun c_67 => ?_)
        · skip
          refine lv_iconst (v := 0) hx hb d_Ref_told_28 (by decide) ?_
          refine lv_istore (lv' := [(4, .int 0), (0, .ref h0), (1, .int 2), (2, .int p1), (3, .int 0)]) hx hb d_Ref_told_29 hl (by decide) rfl ?_
          clear hl ls
          intro ls hl
          refine lv_iload hx hb d_Ref_told_31 (lv_at hl 0 rfl) ?_
          refine lv_if_eq (tgt := 67) hx hb d_Ref_told_33 (by decide) (fun c_68 => ?_) (fun c_68 => absurd c_68 (by decide))
          refine tp_pc (pc' := 67) (by rfl) ?_
          refine lv_sipush (v := (-1000)) hx hb d_Ref_told_67 (by decide) ?_
          obtain ⟨hP9, hD9, -⟩ := cut3 (wc := [oc h0 8 [.int p3, .int p4, .ref h1, .ref h2, .ref h3, .ref h4, .ref h5, .ref h6, .ref h7, .ref h8, .ref h9, .ref h10, .ref h11, .ref h12, .int p5, .ref h13, .ref h14, .ref h15, .ref h16, .int p6, .int p7, .ref h17, .ref h18, .ref h19, .int p8, .ref h20, .int p9, .int p10, .ref h21, .ref h22, .ref h23, .ref h24, .ref h25, .ref h26, .ref h27, .ref h28, .int p11, .int p12, .ref h29, .ref h30, .ref h31, .ref h32, .ref h33, .ref h34, .ref h35, .ref h36, .int p13, .ref h37], ia h7 k6 8 (upd (fun _ => 0) 2 1), ia h8 k7 352000 (upd (upd (upd (upd (upd (upd (upd (upd (upd (upd (upd (fun _ => 0) 88000 0) 88001 0) 88002 0) 88003 0) 88004 0) 88005 0) 88006 0) 88007 0) 88008 0) 88009 0) 88010 0), ia h11 k10 32000 (upd (fun _ => 0) 8000 0)]) hP hD rfl hS hA [0, 1, 2, 3] (by decide +kernel) rfl
          have hK9 := hK.sub (tys' := []) [] rfl
          refine W.widen (k := 0) (n := 0) (by exact Nat.le_of_ble_eq_true rfl) (by exact Nat.le_of_ble_eq_true rfl) ?_
          exact W.iret (v := (-1000)) hx hb hr (fun t ht hW => ⟨⟨(-1000), (), rfl, (by first | decide | exact (fv_i (by assumption)).symm | exact (fv_w (by assumption)).symm), by rw [ht]; exact hP9, va_K.moved hW.alike hK9, hD9⟩, hS.F ht⟩) hS.2.2 d_Ref_told_70
        · skip
          exfalso
          simp only [Int32.lt_iff_toInt_lt, Int32.le_iff_toInt_le, ← Int32.toInt_inj] at c_65 c_67
          have k0 : (0 : Int32).toInt = 0 := by decide
          have k1 : (1 : Int32).toInt = 1 := by decide
          omega
    · skip
      refine lv_iload_n hx hb d_Ref_told_0 rfl (lv_at hl 2 rfl) ?_
      refine lv_if_lt (tgt := 28) hx hb d_Ref_told_1 (by decide) (fun c_69 => ?_) (fun c_69 => ?_)
      · skip
        refine lv_iconst (v := 0) hx hb d_Ref_told_28 (by decide) ?_
        refine lv_istore (lv' := [(4, .int 0), (0, .ref h0), (1, .int 2), (2, .int p1), (3, .int 1)]) hx hb d_Ref_told_29 hl (by decide) rfl ?_
        clear hl ls
        intro ls hl
        refine lv_iload hx hb d_Ref_told_31 (lv_at hl 0 rfl) ?_
        refine lv_if_eq (tgt := 67) hx hb d_Ref_told_33 (by decide) (fun c_70 => ?_) (fun c_70 => absurd c_70 (by decide))
        refine tp_pc (pc' := 67) (by rfl) ?_
        refine lv_sipush (v := (-1000)) hx hb d_Ref_told_67 (by decide) ?_
        obtain ⟨hP9, hD9, -⟩ := cut3 (wc := [oc h0 8 [.int p3, .int p4, .ref h1, .ref h2, .ref h3, .ref h4, .ref h5, .ref h6, .ref h7, .ref h8, .ref h9, .ref h10, .ref h11, .ref h12, .int p5, .ref h13, .ref h14, .ref h15, .ref h16, .int p6, .int p7, .ref h17, .ref h18, .ref h19, .int p8, .ref h20, .int p9, .int p10, .ref h21, .ref h22, .ref h23, .ref h24, .ref h25, .ref h26, .ref h27, .ref h28, .int p11, .int p12, .ref h29, .ref h30, .ref h31, .ref h32, .ref h33, .ref h34, .ref h35, .ref h36, .int p13, .ref h37], ia h7 k6 8 (upd (fun _ => 0) 2 1), ia h8 k7 352000 (upd (upd (upd (upd (upd (upd (upd (upd (upd (upd (upd (fun _ => 0) 88000 0) 88001 0) 88002 0) 88003 0) 88004 0) 88005 0) 88006 0) 88007 0) 88008 0) 88009 0) 88010 0), ia h11 k10 32000 (upd (fun _ => 0) 8000 0)]) hP hD rfl hS hA [0, 1, 2, 3] (by decide +kernel) rfl
        have hK9 := hK.sub (tys' := []) [] rfl
        refine W.widen (k := 0) (n := 0) (by exact Nat.le_of_ble_eq_true rfl) (by exact Nat.le_of_ble_eq_true rfl) ?_
        exact W.iret (v := (-1000)) hx hb hr (fun t ht hW => ⟨⟨(-1000), (), rfl, (by first | decide | exact (fv_i (by assumption)).symm | exact (fv_w (by assumption)).symm), by rw [ht]; exact hP9, va_K.moved hW.alike hK9, hD9⟩, hS.F ht⟩) hS.2.2 d_Ref_told_70
      · skip
        refine lv_iload_n hx hb d_Ref_told_4 rfl (lv_at hl 2 rfl) ?_
        refine lv_aload_n hx hb d_Ref_told_5 rfl (lv_at hl 0 rfl) ?_
        refine va_get (D := (dC, dI)) (ci := 8) (v := .ref h7) (C := R_Ref) (T := F_Ref) (N := 48) hx hb hw i_Ref hown hK hP 0 rfl rfl 8 (by decide) (hw _ m_907) (fun _ h9 => h9) rfl d_Ref_told_6 ?_
        refine lv_iload_n hx hb d_Ref_told_9 rfl (lv_at hl 1 rfl) ?_
        refine va_iald (D := (dC, dI)) hx hb hK hP 1 0 rfl rfl (i := 2) (vp_c (by decide)) d_Ref_told_10 ?_
        refine tp_i (y := 1) (by first | rfl | decide) ?_
        refine lv_icmp_ge (tgt := 28) hx hb d_Ref_told_11 (by decide) (fun c_71 => ?_) (fun c_71 => ?_)
        · skip
          refine lv_iconst (v := 0) hx hb d_Ref_told_28 (by decide) ?_
          refine lv_istore (lv' := [(4, .int 0), (0, .ref h0), (1, .int 2), (2, .int p1), (3, .int 1)]) hx hb d_Ref_told_29 hl (by decide) rfl ?_
          clear hl ls
          intro ls hl
          refine lv_iload hx hb d_Ref_told_31 (lv_at hl 0 rfl) ?_
          refine lv_if_eq (tgt := 67) hx hb d_Ref_told_33 (by decide) (fun c_72 => ?_) (fun c_72 => absurd c_72 (by decide))
          refine tp_pc (pc' := 67) (by rfl) ?_
          refine lv_sipush (v := (-1000)) hx hb d_Ref_told_67 (by decide) ?_
          obtain ⟨hP9, hD9, -⟩ := cut3 (wc := [oc h0 8 [.int p3, .int p4, .ref h1, .ref h2, .ref h3, .ref h4, .ref h5, .ref h6, .ref h7, .ref h8, .ref h9, .ref h10, .ref h11, .ref h12, .int p5, .ref h13, .ref h14, .ref h15, .ref h16, .int p6, .int p7, .ref h17, .ref h18, .ref h19, .int p8, .ref h20, .int p9, .int p10, .ref h21, .ref h22, .ref h23, .ref h24, .ref h25, .ref h26, .ref h27, .ref h28, .int p11, .int p12, .ref h29, .ref h30, .ref h31, .ref h32, .ref h33, .ref h34, .ref h35, .ref h36, .int p13, .ref h37], ia h7 k6 8 (upd (fun _ => 0) 2 1), ia h8 k7 352000 (upd (upd (upd (upd (upd (upd (upd (upd (upd (upd (upd (fun _ => 0) 88000 0) 88001 0) 88002 0) 88003 0) 88004 0) 88005 0) 88006 0) 88007 0) 88008 0) 88009 0) 88010 0), ia h11 k10 32000 (upd (fun _ => 0) 8000 0)]) hP hD rfl hS hA [0, 1, 2, 3] (by decide +kernel) rfl
          have hK9 := hK.sub (tys' := []) [] rfl
          refine W.widen (k := 0) (n := 0) (by exact Nat.le_of_ble_eq_true rfl) (by exact Nat.le_of_ble_eq_true rfl) ?_
          exact W.iret (v := (-1000)) hx hb hr (fun t ht hW => ⟨⟨(-1000), (), rfl, (by first | decide | exact (fv_i (by assumption)).symm | exact (fv_w (by assumption)).symm), by rw [ht]; exact hP9, va_K.moved hW.alike hK9, hD9⟩, hS.F ht⟩) hS.2.2 d_Ref_told_70
        · skip
          exfalso
          simp only [Int32.lt_iff_toInt_lt, Int32.le_iff_toInt_le, ← Int32.toInt_inj] at c_69 c_71
          have k0 : (0 : Int32).toInt = 0 := by decide
          have k1 : (1 : Int32).toInt = 1 := by decide
          omega
    · skip
      refine lv_iload_n hx hb d_Ref_told_0 rfl (lv_at hl 2 rfl) ?_
      refine lv_if_lt (tgt := 28) hx hb d_Ref_told_1 (by decide) (fun c_73 => ?_) (fun c_73 => ?_)
      · skip
        refine lv_iconst (v := 0) hx hb d_Ref_told_28 (by decide) ?_
        refine lv_istore (lv' := [(4, .int 0), (0, .ref h0), (1, .int 2), (2, .int p1), (3, .int 2)]) hx hb d_Ref_told_29 hl (by decide) rfl ?_
        clear hl ls
        intro ls hl
        refine lv_iload hx hb d_Ref_told_31 (lv_at hl 0 rfl) ?_
        refine lv_if_eq (tgt := 67) hx hb d_Ref_told_33 (by decide) (fun c_74 => ?_) (fun c_74 => absurd c_74 (by decide))
        refine tp_pc (pc' := 67) (by rfl) ?_
        refine lv_sipush (v := (-1000)) hx hb d_Ref_told_67 (by decide) ?_
        obtain ⟨hP9, hD9, -⟩ := cut3 (wc := [oc h0 8 [.int p3, .int p4, .ref h1, .ref h2, .ref h3, .ref h4, .ref h5, .ref h6, .ref h7, .ref h8, .ref h9, .ref h10, .ref h11, .ref h12, .int p5, .ref h13, .ref h14, .ref h15, .ref h16, .int p6, .int p7, .ref h17, .ref h18, .ref h19, .int p8, .ref h20, .int p9, .int p10, .ref h21, .ref h22, .ref h23, .ref h24, .ref h25, .ref h26, .ref h27, .ref h28, .int p11, .int p12, .ref h29, .ref h30, .ref h31, .ref h32, .ref h33, .ref h34, .ref h35, .ref h36, .int p13, .ref h37], ia h7 k6 8 (upd (fun _ => 0) 2 1), ia h8 k7 352000 (upd (upd (upd (upd (upd (upd (upd (upd (upd (upd (upd (fun _ => 0) 88000 0) 88001 0) 88002 0) 88003 0) 88004 0) 88005 0) 88006 0) 88007 0) 88008 0) 88009 0) 88010 0), ia h11 k10 32000 (upd (fun _ => 0) 8000 0)]) hP hD rfl hS hA [0, 1, 2, 3] (by decide +kernel) rfl
        have hK9 := hK.sub (tys' := []) [] rfl
        refine W.widen (k := 0) (n := 0) (by exact Nat.le_of_ble_eq_true rfl) (by exact Nat.le_of_ble_eq_true rfl) ?_
        exact W.iret (v := (-1000)) hx hb hr (fun t ht hW => ⟨⟨(-1000), (), rfl, (by first | decide | exact (fv_i (by assumption)).symm | exact (fv_w (by assumption)).symm), by rw [ht]; exact hP9, va_K.moved hW.alike hK9, hD9⟩, hS.F ht⟩) hS.2.2 d_Ref_told_70
      · skip
        refine lv_iload_n hx hb d_Ref_told_4 rfl (lv_at hl 2 rfl) ?_
        refine lv_aload_n hx hb d_Ref_told_5 rfl (lv_at hl 0 rfl) ?_
        refine va_get (D := (dC, dI)) (ci := 8) (v := .ref h7) (C := R_Ref) (T := F_Ref) (N := 48) hx hb hw i_Ref hown hK hP 0 rfl rfl 8 (by decide) (hw _ m_907) (fun _ h9 => h9) rfl d_Ref_told_6 ?_
        refine lv_iload_n hx hb d_Ref_told_9 rfl (lv_at hl 1 rfl) ?_
        refine va_iald (D := (dC, dI)) hx hb hK hP 1 0 rfl rfl (i := 2) (vp_c (by decide)) d_Ref_told_10 ?_
        refine tp_i (y := 1) (by first | rfl | decide) ?_
        refine lv_icmp_ge (tgt := 28) hx hb d_Ref_told_11 (by decide) (fun c_75 => ?_) (fun c_75 => ?_)
        · skip
          refine lv_iconst (v := 0) hx hb d_Ref_told_28 (by decide) ?_
          refine lv_istore (lv' := [(4, .int 0), (0, .ref h0), (1, .int 2), (2, .int p1), (3, .int 2)]) hx hb d_Ref_told_29 hl (by decide) rfl ?_
          clear hl ls
          intro ls hl
          refine lv_iload hx hb d_Ref_told_31 (lv_at hl 0 rfl) ?_
          refine lv_if_eq (tgt := 67) hx hb d_Ref_told_33 (by decide) (fun c_76 => ?_) (fun c_76 => absurd c_76 (by decide))
          refine tp_pc (pc' := 67) (by rfl) ?_
          refine lv_sipush (v := (-1000)) hx hb d_Ref_told_67 (by decide) ?_
          obtain ⟨hP9, hD9, -⟩ := cut3 (wc := [oc h0 8 [.int p3, .int p4, .ref h1, .ref h2, .ref h3, .ref h4, .ref h5, .ref h6, .ref h7, .ref h8, .ref h9, .ref h10, .ref h11, .ref h12, .int p5, .ref h13, .ref h14, .ref h15, .ref h16, .int p6, .int p7, .ref h17, .ref h18, .ref h19, .int p8, .ref h20, .int p9, .int p10, .ref h21, .ref h22, .ref h23, .ref h24, .ref h25, .ref h26, .ref h27, .ref h28, .int p11, .int p12, .ref h29, .ref h30, .ref h31, .ref h32, .ref h33, .ref h34, .ref h35, .ref h36, .int p13, .ref h37], ia h7 k6 8 (upd (fun _ => 0) 2 1), ia h8 k7 352000 (upd (upd (upd (upd (upd (upd (upd (upd (upd (upd (upd (fun _ => 0) 88000 0) 88001 0) 88002 0) 88003 0) 88004 0) 88005 0) 88006 0) 88007 0) 88008 0) 88009 0) 88010 0), ia h11 k10 32000 (upd (fun _ => 0) 8000 0)]) hP hD rfl hS hA [0, 1, 2, 3] (by decide +kernel) rfl
          have hK9 := hK.sub (tys' := []) [] rfl
          refine W.widen (k := 0) (n := 0) (by exact Nat.le_of_ble_eq_true rfl) (by exact Nat.le_of_ble_eq_true rfl) ?_
          exact W.iret (v := (-1000)) hx hb hr (fun t ht hW => ⟨⟨(-1000), (), rfl, (by first | decide | exact (fv_i (by assumption)).symm | exact (fv_w (by assumption)).symm), by rw [ht]; exact hP9, va_K.moved hW.alike hK9, hD9⟩, hS.F ht⟩) hS.2.2 d_Ref_told_70
        · skip
          exfalso
          simp only [Int32.lt_iff_toInt_lt, Int32.le_iff_toInt_le, ← Int32.toInt_inj] at c_73 c_75
          have k0 : (0 : Int32).toInt = 0 := by decide
          have k1 : (1 : Int32).toInt = 1 := by decide
          omega
    · skip
      refine lv_iload_n hx hb d_Ref_told_0 rfl (lv_at hl 2 rfl) ?_
      refine lv_if_lt (tgt := 28) hx hb d_Ref_told_1 (by decide) (fun c_77 => ?_) (fun c_77 => ?_)
      · skip
        refine lv_iconst (v := 0) hx hb d_Ref_told_28 (by decide) ?_
        refine lv_istore (lv' := [(4, .int 0), (0, .ref h0), (1, .int 2), (2, .int p1), (3, .int 3)]) hx hb d_Ref_told_29 hl (by decide) rfl ?_
        clear hl ls
        intro ls hl
        refine lv_iload hx hb d_Ref_told_31 (lv_at hl 0 rfl) ?_
        refine lv_if_eq (tgt := 67) hx hb d_Ref_told_33 (by decide) (fun c_78 => ?_) (fun c_78 => absurd c_78 (by decide))
        refine tp_pc (pc' := 67) (by rfl) ?_
        refine lv_sipush (v := (-1000)) hx hb d_Ref_told_67 (by decide) ?_
        obtain ⟨hP9, hD9, -⟩ := cut3 (wc := [oc h0 8 [.int p3, .int p4, .ref h1, .ref h2, .ref h3, .ref h4, .ref h5, .ref h6, .ref h7, .ref h8, .ref h9, .ref h10, .ref h11, .ref h12, .int p5, .ref h13, .ref h14, .ref h15, .ref h16, .int p6, .int p7, .ref h17, .ref h18, .ref h19, .int p8, .ref h20, .int p9, .int p10, .ref h21, .ref h22, .ref h23, .ref h24, .ref h25, .ref h26, .ref h27, .ref h28, .int p11, .int p12, .ref h29, .ref h30, .ref h31, .ref h32, .ref h33, .ref h34, .ref h35, .ref h36, .int p13, .ref h37], ia h7 k6 8 (upd (fun _ => 0) 2 1), ia h8 k7 352000 (upd (upd (upd (upd (upd (upd (upd (upd (upd (upd (upd (fun _ => 0) 88000 0) 88001 0) 88002 0) 88003 0) 88004 0) 88005 0) 88006 0) 88007 0) 88008 0) 88009 0) 88010 0), ia h11 k10 32000 (upd (fun _ => 0) 8000 0)]) hP hD rfl hS hA [0, 1, 2, 3] (by decide +kernel) rfl
        have hK9 := hK.sub (tys' := []) [] rfl
        refine W.widen (k := 0) (n := 0) (by exact Nat.le_of_ble_eq_true rfl) (by exact Nat.le_of_ble_eq_true rfl) ?_
        exact W.iret (v := (-1000)) hx hb hr (fun t ht hW => ⟨⟨(-1000), (), rfl, (by first | decide | exact (fv_i (by assumption)).symm | exact (fv_w (by assumption)).symm), by rw [ht]; exact hP9, va_K.moved hW.alike hK9, hD9⟩, hS.F ht⟩) hS.2.2 d_Ref_told_70
      · skip
        refine lv_iload_n hx hb d_Ref_told_4 rfl (lv_at hl 2 rfl) ?_
        refine lv_aload_n hx hb d_Ref_told_5 rfl (lv_at hl 0 rfl) ?_
        refine va_get (D := (dC, dI)) (ci := 8) (v := .ref h7) (C := R_Ref) (T := F_Ref) (N := 48) hx hb hw i_Ref hown hK hP 0 rfl rfl 8 (by decide) (hw _ m_907) (fun _ h9 => h9) rfl d_Ref_told_6 ?_
        refine lv_iload_n hx hb d_Ref_told_9 rfl (lv_at hl 1 rfl) ?_
        refine va_iald (D := (dC, dI)) hx hb hK hP 1 0 rfl rfl (i := 2) (vp_c (by decide)) d_Ref_told_10 ?_
        refine tp_i (y := 1) (by first | rfl | decide) ?_
        refine lv_icmp_ge (tgt := 28) hx hb d_Ref_told_11 (by decide) (fun c_79 => ?_) (fun c_79 => ?_)
        · skip
          refine lv_iconst (v := 0) hx hb d_Ref_told_28 (by decide) ?_
          refine lv_istore (lv' := [(4, .int 0), (0, .ref h0), (1, .int 2), (2, .int p1), (3, .int 3)]) hx hb d_Ref_told_29 hl (by decide) rfl ?_
          clear hl ls
          intro ls hl
          refine lv_iload hx hb d_Ref_told_31 (lv_at hl 0 rfl) ?_
          refine lv_if_eq (tgt := 67) hx hb d_Ref_told_33 (by decide) (fun c_80 => ?_) (fun c_80 => absurd c_80 (by decide))
          refine tp_pc (pc' := 67) (by rfl) ?_
          refine lv_sipush (v := (-1000)) hx hb d_Ref_told_67 (by decide) ?_
          obtain ⟨hP9, hD9, -⟩ := cut3 (wc := [oc h0 8 [.int p3, .int p4, .ref h1, .ref h2, .ref h3, .ref h4, .ref h5, .ref h6, .ref h7, .ref h8, .ref h9, .ref h10, .ref h11, .ref h12, .int p5, .ref h13, .ref h14, .ref h15, .ref h16, .int p6, .int p7, .ref h17, .ref h18, .ref h19, .int p8, .ref h20, .int p9, .int p10, .ref h21, .ref h22, .ref h23, .ref h24, .ref h25, .ref h26, .ref h27, .ref h28, .int p11, .int p12, .ref h29, .ref h30, .ref h31, .ref h32, .ref h33, .ref h34, .ref h35, .ref h36, .int p13, .ref h37], ia h7 k6 8 (upd (fun _ => 0) 2 1), ia h8 k7 352000 (upd (upd (upd (upd (upd (upd (upd (upd (upd (upd (upd (fun _ => 0) 88000 0) 88001 0) 88002 0) 88003 0) 88004 0) 88005 0) 88006 0) 88007 0) 88008 0) 88009 0) 88010 0), ia h11 k10 32000 (upd (fun _ => 0) 8000 0)]) hP hD rfl hS hA [0, 1, 2, 3] (by decide +kernel) rfl
          have hK9 := hK.sub (tys' := []) [] rfl
          refine W.widen (k := 0) (n := 0) (by exact Nat.le_of_ble_eq_true rfl) (by exact Nat.le_of_ble_eq_true rfl) ?_
          exact W.iret (v := (-1000)) hx hb hr (fun t ht hW => ⟨⟨(-1000), (), rfl, (by first | decide | exact (fv_i (by assumption)).symm | exact (fv_w (by assumption)).symm), by rw [ht]; exact hP9, va_K.moved hW.alike hK9, hD9⟩, hS.F ht⟩) hS.2.2 d_Ref_told_70
        · skip
          exfalso
          simp only [Int32.lt_iff_toInt_lt, Int32.le_iff_toInt_le, ← Int32.toInt_inj] at c_77 c_79
          have k0 : (0 : Int32).toInt = 0 := by decide
          have k1 : (1 : Int32).toInt = 1 := by decide
          omega
    · skip
      refine lv_iload_n hx hb d_Ref_told_0 rfl (lv_at hl 2 rfl) ?_
      refine lv_if_lt (tgt := 28) hx hb d_Ref_told_1 (by decide) (fun c_81 => ?_) (fun c_81 => ?_)
      · skip
        refine lv_iconst (v := 0) hx hb d_Ref_told_28 (by decide) ?_
        refine lv_istore (lv' := [(4, .int 0), (0, .ref h0), (1, .int 2), (2, .int p1), (3, .int 4)]) hx hb d_Ref_told_29 hl (by decide) rfl ?_
        clear hl ls
        intro ls hl
        refine lv_iload hx hb d_Ref_told_31 (lv_at hl 0 rfl) ?_
        refine lv_if_eq (tgt := 67) hx hb d_Ref_told_33 (by decide) (fun c_82 => ?_) (fun c_82 => absurd c_82 (by decide))
        refine tp_pc (pc' := 67) (by rfl) ?_
        refine lv_sipush (v := (-1000)) hx hb d_Ref_told_67 (by decide) ?_
        obtain ⟨hP9, hD9, -⟩ := cut3 (wc := [oc h0 8 [.int p3, .int p4, .ref h1, .ref h2, .ref h3, .ref h4, .ref h5, .ref h6, .ref h7, .ref h8, .ref h9, .ref h10, .ref h11, .ref h12, .int p5, .ref h13, .ref h14, .ref h15, .ref h16, .int p6, .int p7, .ref h17, .ref h18, .ref h19, .int p8, .ref h20, .int p9, .int p10, .ref h21, .ref h22, .ref h23, .ref h24, .ref h25, .ref h26, .ref h27, .ref h28, .int p11, .int p12, .ref h29, .ref h30, .ref h31, .ref h32, .ref h33, .ref h34, .ref h35, .ref h36, .int p13, .ref h37], ia h7 k6 8 (upd (fun _ => 0) 2 1), ia h8 k7 352000 (upd (upd (upd (upd (upd (upd (upd (upd (upd (upd (upd (fun _ => 0) 88000 0) 88001 0) 88002 0) 88003 0) 88004 0) 88005 0) 88006 0) 88007 0) 88008 0) 88009 0) 88010 0), ia h11 k10 32000 (upd (fun _ => 0) 8000 0)]) hP hD rfl hS hA [0, 1, 2, 3] (by decide +kernel) rfl
        have hK9 := hK.sub (tys' := []) [] rfl
        refine W.widen (k := 0) (n := 0) (by exact Nat.le_of_ble_eq_true rfl) (by exact Nat.le_of_ble_eq_true rfl) ?_
        exact W.iret (v := (-1000)) hx hb hr (fun t ht hW => ⟨⟨(-1000), (), rfl, (by first | decide | exact (fv_i (by assumption)).symm | exact (fv_w (by assumption)).symm), by rw [ht]; exact hP9, va_K.moved hW.alike hK9, hD9⟩, hS.F ht⟩) hS.2.2 d_Ref_told_70
      · skip
        refine lv_iload_n hx hb d_Ref_told_4 rfl (lv_at hl 2 rfl) ?_
        refine lv_aload_n hx hb d_Ref_told_5 rfl (lv_at hl 0 rfl) ?_
        refine va_get (D := (dC, dI)) (ci := 8) (v := .ref h7) (C := R_Ref) (T := F_Ref) (N := 48) hx hb hw i_Ref hown hK hP 0 rfl rfl 8 (by decide) (hw _ m_907) (fun _ h9 => h9) rfl d_Ref_told_6 ?_
        refine lv_iload_n hx hb d_Ref_told_9 rfl (lv_at hl 1 rfl) ?_
        refine va_iald (D := (dC, dI)) hx hb hK hP 1 0 rfl rfl (i := 2) (vp_c (by decide)) d_Ref_told_10 ?_
        refine tp_i (y := 1) (by first | rfl | decide) ?_
        refine lv_icmp_ge (tgt := 28) hx hb d_Ref_told_11 (by decide) (fun c_83 => ?_) (fun c_83 => ?_)
        · skip
          refine lv_iconst (v := 0) hx hb d_Ref_told_28 (by decide) ?_
          refine lv_istore (lv' := [(4, .int 0), (0, .ref h0), (1, .int 2), (2, .int p1), (3, .int 4)]) hx hb d_Ref_told_29 hl (by decide) rfl ?_
          clear hl ls
          intro ls hl
          refine lv_iload hx hb d_Ref_told_31 (lv_at hl 0 rfl) ?_
          refine lv_if_eq (tgt := 67) hx hb d_Ref_told_33 (by decide) (fun c_84 => ?_) (fun c_84 => absurd c_84 (by decide))
          refine tp_pc (pc' := 67) (by rfl) ?_
          refine lv_sipush (v := (-1000)) hx hb d_Ref_told_67 (by decide) ?_
          obtain ⟨hP9, hD9, -⟩ := cut3 (wc := [oc h0 8 [.int p3, .int p4, .ref h1, .ref h2, .ref h3, .ref h4, .ref h5, .ref h6, .ref h7, .ref h8, .ref h9, .ref h10, .ref h11, .ref h12, .int p5, .ref h13, .ref h14, .ref h15, .ref h16, .int p6, .int p7, .ref h17, .ref h18, .ref h19, .int p8, .ref h20, .int p9, .int p10, .ref h21, .ref h22, .ref h23, .ref h24, .ref h25, .ref h26, .ref h27, .ref h28, .int p11, .int p12, .ref h29, .ref h30, .ref h31, .ref h32, .ref h33, .ref h34, .ref h35, .ref h36, .int p13, .ref h37], ia h7 k6 8 (upd (fun _ => 0) 2 1), ia h8 k7 352000 (upd (upd (upd (upd (upd (upd (upd (upd (upd (upd (upd (fun _ => 0) 88000 0) 88001 0) 88002 0) 88003 0) 88004 0) 88005 0) 88006 0) 88007 0) 88008 0) 88009 0) 88010 0), ia h11 k10 32000 (upd (fun _ => 0) 8000 0)]) hP hD rfl hS hA [0, 1, 2, 3] (by decide +kernel) rfl
          have hK9 := hK.sub (tys' := []) [] rfl
          refine W.widen (k := 0) (n := 0) (by exact Nat.le_of_ble_eq_true rfl) (by exact Nat.le_of_ble_eq_true rfl) ?_
          exact W.iret (v := (-1000)) hx hb hr (fun t ht hW => ⟨⟨(-1000), (), rfl, (by first | decide | exact (fv_i (by assumption)).symm | exact (fv_w (by assumption)).symm), by rw [ht]; exact hP9, va_K.moved hW.alike hK9, hD9⟩, hS.F ht⟩) hS.2.2 d_Ref_told_70
        · skip
          exfalso
          simp only [Int32.lt_iff_toInt_lt, Int32.le_iff_toInt_le, ← Int32.toInt_inj] at c_81 c_83
          have k0 : (0 : Int32).toInt = 0 := by decide
          have k1 : (1 : Int32).toInt = 1 := by decide
          omega
    · skip
      refine lv_iload_n hx hb d_Ref_told_0 rfl (lv_at hl 2 rfl) ?_
      refine lv_if_lt (tgt := 28) hx hb d_Ref_told_1 (by decide) (fun c_85 => ?_) (fun c_85 => ?_)
      · skip
        refine lv_iconst (v := 0) hx hb d_Ref_told_28 (by decide) ?_
        refine lv_istore (lv' := [(4, .int 0), (0, .ref h0), (1, .int 2), (2, .int p1), (3, .int 5)]) hx hb d_Ref_told_29 hl (by decide) rfl ?_
        clear hl ls
        intro ls hl
        refine lv_iload hx hb d_Ref_told_31 (lv_at hl 0 rfl) ?_
        refine lv_if_eq (tgt := 67) hx hb d_Ref_told_33 (by decide) (fun c_86 => ?_) (fun c_86 => absurd c_86 (by decide))
        refine tp_pc (pc' := 67) (by rfl) ?_
        refine lv_sipush (v := (-1000)) hx hb d_Ref_told_67 (by decide) ?_
        obtain ⟨hP9, hD9, -⟩ := cut3 (wc := [oc h0 8 [.int p3, .int p4, .ref h1, .ref h2, .ref h3, .ref h4, .ref h5, .ref h6, .ref h7, .ref h8, .ref h9, .ref h10, .ref h11, .ref h12, .int p5, .ref h13, .ref h14, .ref h15, .ref h16, .int p6, .int p7, .ref h17, .ref h18, .ref h19, .int p8, .ref h20, .int p9, .int p10, .ref h21, .ref h22, .ref h23, .ref h24, .ref h25, .ref h26, .ref h27, .ref h28, .int p11, .int p12, .ref h29, .ref h30, .ref h31, .ref h32, .ref h33, .ref h34, .ref h35, .ref h36, .int p13, .ref h37], ia h7 k6 8 (upd (fun _ => 0) 2 1), ia h8 k7 352000 (upd (upd (upd (upd (upd (upd (upd (upd (upd (upd (upd (fun _ => 0) 88000 0) 88001 0) 88002 0) 88003 0) 88004 0) 88005 0) 88006 0) 88007 0) 88008 0) 88009 0) 88010 0), ia h11 k10 32000 (upd (fun _ => 0) 8000 0)]) hP hD rfl hS hA [0, 1, 2, 3] (by decide +kernel) rfl
        have hK9 := hK.sub (tys' := []) [] rfl
        refine W.widen (k := 0) (n := 0) (by exact Nat.le_of_ble_eq_true rfl) (by exact Nat.le_of_ble_eq_true rfl) ?_
        exact W.iret (v := (-1000)) hx hb hr (fun t ht hW => ⟨⟨(-1000), (), rfl, (by first | decide | exact (fv_i (by assumption)).symm | exact (fv_w (by assumption)).symm), by rw [ht]; exact hP9, va_K.moved hW.alike hK9, hD9⟩, hS.F ht⟩) hS.2.2 d_Ref_told_70
      · skip
        refine lv_iload_n hx hb d_Ref_told_4 rfl (lv_at hl 2 rfl) ?_
        refine lv_aload_n hx hb d_Ref_told_5 rfl (lv_at hl 0 rfl) ?_
        refine va_get (D := (dC, dI)) (ci := 8) (v := .ref h7) (C := R_Ref) (T := F_Ref) (N := 48) hx hb hw i_Ref hown hK hP 0 rfl rfl 8 (by decide) (hw _ m_907) (fun _ h9 => h9) rfl d_Ref_told_6 ?_
        refine lv_iload_n hx hb d_Ref_told_9 rfl (lv_at hl 1 rfl) ?_
        refine va_iald (D := (dC, dI)) hx hb hK hP 1 0 rfl rfl (i := 2) (vp_c (by decide)) d_Ref_told_10 ?_
        refine tp_i (y := 1) (by first | rfl | decide) ?_
        refine lv_icmp_ge (tgt := 28) hx hb d_Ref_told_11 (by decide) (fun c_87 => ?_) (fun c_87 => ?_)
        · skip
          refine lv_iconst (v := 0) hx hb d_Ref_told_28 (by decide) ?_
          refine lv_istore (lv' := [(4, .int 0), (0, .ref h0), (1, .int 2), (2, .int p1), (3, .int 5)]) hx hb d_Ref_told_29 hl (by decide) rfl ?_
          clear hl ls
          intro ls hl
          refine lv_iload hx hb d_Ref_told_31 (lv_at hl 0 rfl) ?_
          refine lv_if_eq (tgt := 67) hx hb d_Ref_told_33 (by decide) (fun c_88 => ?_) (fun c_88 => absurd c_88 (by decide))
          refine tp_pc (pc' := 67) (by rfl) ?_
          refine lv_sipush (v := (-1000)) hx hb d_Ref_told_67 (by decide) ?_
          obtain ⟨hP9, hD9, -⟩ := cut3 (wc := [oc h0 8 [.int p3, .int p4, .ref h1, .ref h2, .ref h3, .ref h4, .ref h5, .ref h6, .ref h7, .ref h8, .ref h9, .ref h10, .ref h11, .ref h12, .int p5, .ref h13, .ref h14, .ref h15, .ref h16, .int p6, .int p7, .ref h17, .ref h18, .ref h19, .int p8, .ref h20, .int p9, .int p10, .ref h21, .ref h22, .ref h23, .ref h24, .ref h25, .ref h26, .ref h27, .ref h28, .int p11, .int p12, .ref h29, .ref h30, .ref h31, .ref h32, .ref h33, .ref h34, .ref h35, .ref h36, .int p13, .ref h37], ia h7 k6 8 (upd (fun _ => 0) 2 1), ia h8 k7 352000 (upd (upd (upd (upd (upd (upd (upd (upd (upd (upd (upd (fun _ => 0) 88000 0) 88001 0) 88002 0) 88003 0) 88004 0) 88005 0) 88006 0) 88007 0) 88008 0) 88009 0) 88010 0), ia h11 k10 32000 (upd (fun _ => 0) 8000 0)]) hP hD rfl hS hA [0, 1, 2, 3] (by decide +kernel) rfl
          have hK9 := hK.sub (tys' := []) [] rfl
          refine W.widen (k := 0) (n := 0) (by exact Nat.le_of_ble_eq_true rfl) (by exact Nat.le_of_ble_eq_true rfl) ?_
          exact W.iret (v := (-1000)) hx hb hr (fun t ht hW => ⟨⟨(-1000), (), rfl, (by first | decide | exact (fv_i (by assumption)).symm | exact (fv_w (by assumption)).symm), by rw [ht]; exact hP9, va_K.moved hW.alike hK9, hD9⟩, hS.F ht⟩) hS.2.2 d_Ref_told_70
        · skip
          exfalso
          simp only [Int32.lt_iff_toInt_lt, Int32.le_iff_toInt_le, ← Int32.toInt_inj] at c_85 c_87
          have k0 : (0 : Int32).toInt = 0 := by decide
          have k1 : (1 : Int32).toInt = 1 := by decide
          omega
    · skip
      refine lv_iload_n hx hb d_Ref_told_0 rfl (lv_at hl 2 rfl) ?_
      refine lv_if_lt (tgt := 28) hx hb d_Ref_told_1 (by decide) (fun c_89 => ?_) (fun c_89 => ?_)
      · skip
        refine lv_iconst (v := 0) hx hb d_Ref_told_28 (by decide) ?_
        refine lv_istore (lv' := [(4, .int 0), (0, .ref h0), (1, .int 2), (2, .int p1), (3, .int 6)]) hx hb d_Ref_told_29 hl (by decide) rfl ?_
        clear hl ls
        intro ls hl
        refine lv_iload hx hb d_Ref_told_31 (lv_at hl 0 rfl) ?_
        refine lv_if_eq (tgt := 67) hx hb d_Ref_told_33 (by decide) (fun c_90 => ?_) (fun c_90 => absurd c_90 (by decide))
        refine tp_pc (pc' := 67) (by rfl) ?_
        refine lv_sipush (v := (-1000)) hx hb d_Ref_told_67 (by decide) ?_
        obtain ⟨hP9, hD9, -⟩ := cut3 (wc := [oc h0 8 [.int p3, .int p4, .ref h1, .ref h2, .ref h3, .ref h4, .ref h5, .ref h6, .ref h7, .ref h8, .ref h9, .ref h10, .ref h11, .ref h12, .int p5, .ref h13, .ref h14, .ref h15, .ref h16, .int p6, .int p7, .ref h17, .ref h18, .ref h19, .int p8, .ref h20, .int p9, .int p10, .ref h21, .ref h22, .ref h23, .ref h24, .ref h25, .ref h26, .ref h27, .ref h28, .int p11, .int p12, .ref h29, .ref h30, .ref h31, .ref h32, .ref h33, .ref h34, .ref h35, .ref h36, .int p13, .ref h37], ia h7 k6 8 (upd (fun _ => 0) 2 1), ia h8 k7 352000 (upd (upd (upd (upd (upd (upd (upd (upd (upd (upd (upd (fun _ => 0) 88000 0) 88001 0) 88002 0) 88003 0) 88004 0) 88005 0) 88006 0) 88007 0) 88008 0) 88009 0) 88010 0), ia h11 k10 32000 (upd (fun _ => 0) 8000 0)]) hP hD rfl hS hA [0, 1, 2, 3] (by decide +kernel) rfl
        have hK9 := hK.sub (tys' := []) [] rfl
        refine W.widen (k := 0) (n := 0) (by exact Nat.le_of_ble_eq_true rfl) (by exact Nat.le_of_ble_eq_true rfl) ?_
        exact W.iret (v := (-1000)) hx hb hr (fun t ht hW => ⟨⟨(-1000), (), rfl, (by first | decide | exact (fv_i (by assumption)).symm | exact (fv_w (by assumption)).symm), by rw [ht]; exact hP9, va_K.moved hW.alike hK9, hD9⟩, hS.F ht⟩) hS.2.2 d_Ref_told_70
      · skip
        refine lv_iload_n hx hb d_Ref_told_4 rfl (lv_at hl 2 rfl) ?_
        refine lv_aload_n hx hb d_Ref_told_5 rfl (lv_at hl 0 rfl) ?_
        refine va_get (D := (dC, dI)) (ci := 8) (v := .ref h7) (C := R_Ref) (T := F_Ref) (N := 48) hx hb hw i_Ref hown hK hP 0 rfl rfl 8 (by decide) (hw _ m_907) (fun _ h9 => h9) rfl d_Ref_told_6 ?_
        refine lv_iload_n hx hb d_Ref_told_9 rfl (lv_at hl 1 rfl) ?_
        refine va_iald (D := (dC, dI)) hx hb hK hP 1 0 rfl rfl (i := 2) (vp_c (by decide)) d_Ref_told_10 ?_
        refine tp_i (y := 1) (by first | rfl | decide) ?_
        refine lv_icmp_ge (tgt := 28) hx hb d_Ref_told_11 (by decide) (fun c_91 => ?_) (fun c_91 => ?_)
        · skip
          refine lv_iconst (v := 0) hx hb d_Ref_told_28 (by decide) ?_
          refine lv_istore (lv' := [(4, .int 0), (0, .ref h0), (1, .int 2), (2, .int p1), (3, .int 6)]) hx hb d_Ref_told_29 hl (by decide) rfl ?_
          clear hl ls
          intro ls hl
          refine lv_iload hx hb d_Ref_told_31 (lv_at hl 0 rfl) ?_
          refine lv_if_eq (tgt := 67) hx hb d_Ref_told_33 (by decide) (fun c_92 => ?_) (fun c_92 => absurd c_92 (by decide))
          refine tp_pc (pc' := 67) (by rfl) ?_
          refine lv_sipush (v := (-1000)) hx hb d_Ref_told_67 (by decide) ?_
          obtain ⟨hP9, hD9, -⟩ := cut3 (wc := [oc h0 8 [.int p3, .int p4, .ref h1, .ref h2, .ref h3, .ref h4, .ref h5, .ref h6, .ref h7, .ref h8, .ref h9, .ref h10, .ref h11, .ref h12, .int p5, .ref h13, .ref h14, .ref h15, .ref h16, .int p6, .int p7, .ref h17, .ref h18, .ref h19, .int p8, .ref h20, .int p9, .int p10, .ref h21, .ref h22, .ref h23, .ref h24, .ref h25, .ref h26, .ref h27, .ref h28, .int p11, .int p12, .ref h29, .ref h30, .ref h31, .ref h32, .ref h33, .ref h34, .ref h35, .ref h36, .int p13, .ref h37], ia h7 k6 8 (upd (fun _ => 0) 2 1), ia h8 k7 352000 (upd (upd (upd (upd (upd (upd (upd (upd (upd (upd (upd (fun _ => 0) 88000 0) 88001 0) 88002 0) 88003 0) 88004 0) 88005 0) 88006 0) 88007 0) 88008 0) 88009 0) 88010 0), ia h11 k10 32000 (upd (fun _ => 0) 8000 0)]) hP hD rfl hS hA [0, 1, 2, 3] (by decide +kernel) rfl
          have hK9 := hK.sub (tys' := []) [] rfl
          refine W.widen (k := 0) (n := 0) (by exact Nat.le_of_ble_eq_true rfl) (by exact Nat.le_of_ble_eq_true rfl) ?_
          exact W.iret (v := (-1000)) hx hb hr (fun t ht hW => ⟨⟨(-1000), (), rfl, (by first | decide | exact (fv_i (by assumption)).symm | exact (fv_w (by assumption)).symm), by rw [ht]; exact hP9, va_K.moved hW.alike hK9, hD9⟩, hS.F ht⟩) hS.2.2 d_Ref_told_70
        · skip
          exfalso
          simp only [Int32.lt_iff_toInt_lt, Int32.le_iff_toInt_le, ← Int32.toInt_inj] at c_89 c_91
          have k0 : (0 : Int32).toInt = 0 := by decide
          have k1 : (1 : Int32).toInt = 1 := by decide
          omega
    · skip
      refine lv_iload_n hx hb d_Ref_told_0 rfl (lv_at hl 2 rfl) ?_
      refine lv_if_lt (tgt := 28) hx hb d_Ref_told_1 (by decide) (fun c_93 => ?_) (fun c_93 => ?_)
      · skip
        refine lv_iconst (v := 0) hx hb d_Ref_told_28 (by decide) ?_
        refine lv_istore (lv' := [(4, .int 0), (0, .ref h0), (1, .int 2), (2, .int p1), (3, .int 7)]) hx hb d_Ref_told_29 hl (by decide) rfl ?_
        clear hl ls
        intro ls hl
        refine lv_iload hx hb d_Ref_told_31 (lv_at hl 0 rfl) ?_
        refine lv_if_eq (tgt := 67) hx hb d_Ref_told_33 (by decide) (fun c_94 => ?_) (fun c_94 => absurd c_94 (by decide))
        refine tp_pc (pc' := 67) (by rfl) ?_
        refine lv_sipush (v := (-1000)) hx hb d_Ref_told_67 (by decide) ?_
        obtain ⟨hP9, hD9, -⟩ := cut3 (wc := [oc h0 8 [.int p3, .int p4, .ref h1, .ref h2, .ref h3, .ref h4, .ref h5, .ref h6, .ref h7, .ref h8, .ref h9, .ref h10, .ref h11, .ref h12, .int p5, .ref h13, .ref h14, .ref h15, .ref h16, .int p6, .int p7, .ref h17, .ref h18, .ref h19, .int p8, .ref h20, .int p9, .int p10, .ref h21, .ref h22, .ref h23, .ref h24, .ref h25, .ref h26, .ref h27, .ref h28, .int p11, .int p12, .ref h29, .ref h30, .ref h31, .ref h32, .ref h33, .ref h34, .ref h35, .ref h36, .int p13, .ref h37], ia h7 k6 8 (upd (fun _ => 0) 2 1), ia h8 k7 352000 (upd (upd (upd (upd (upd (upd (upd (upd (upd (upd (upd (fun _ => 0) 88000 0) 88001 0) 88002 0) 88003 0) 88004 0) 88005 0) 88006 0) 88007 0) 88008 0) 88009 0) 88010 0), ia h11 k10 32000 (upd (fun _ => 0) 8000 0)]) hP hD rfl hS hA [0, 1, 2, 3] (by decide +kernel) rfl
        have hK9 := hK.sub (tys' := []) [] rfl
        refine W.widen (k := 0) (n := 0) (by exact Nat.le_of_ble_eq_true rfl) (by exact Nat.le_of_ble_eq_true rfl) ?_
        exact W.iret (v := (-1000)) hx hb hr (fun t ht hW => ⟨⟨(-1000), (), rfl, (by first | decide | exact (fv_i (by assumption)).symm | exact (fv_w (by assumption)).symm), by rw [ht]; exact hP9, va_K.moved hW.alike hK9, hD9⟩, hS.F ht⟩) hS.2.2 d_Ref_told_70
      · skip
        refine lv_iload_n hx hb d_Ref_told_4 rfl (lv_at hl 2 rfl) ?_
        refine lv_aload_n hx hb d_Ref_told_5 rfl (lv_at hl 0 rfl) ?_
        refine va_get (D := (dC, dI)) (ci := 8) (v := .ref h7) (C := R_Ref) (T := F_Ref) (N := 48) hx hb hw i_Ref hown hK hP 0 rfl rfl 8 (by decide) (hw _ m_907) (fun _ h9 => h9) rfl d_Ref_told_6 ?_
        refine lv_iload_n hx hb d_Ref_told_9 rfl (lv_at hl 1 rfl) ?_
        refine va_iald (D := (dC, dI)) hx hb hK hP 1 0 rfl rfl (i := 2) (vp_c (by decide)) d_Ref_told_10 ?_
        refine tp_i (y := 1) (by first | rfl | decide) ?_
        refine lv_icmp_ge (tgt := 28) hx hb d_Ref_told_11 (by decide) (fun c_95 => ?_) (fun c_95 => ?_)
        · skip
          refine lv_iconst (v := 0) hx hb d_Ref_told_28 (by decide) ?_
          refine lv_istore (lv' := [(4, .int 0), (0, .ref h0), (1, .int 2), (2, .int p1), (3, .int 7)]) hx hb d_Ref_told_29 hl (by decide) rfl ?_
          clear hl ls
          intro ls hl
          refine lv_iload hx hb d_Ref_told_31 (lv_at hl 0 rfl) ?_
          refine lv_if_eq (tgt := 67) hx hb d_Ref_told_33 (by decide) (fun c_96 => ?_) (fun c_96 => absurd c_96 (by decide))
          refine tp_pc (pc' := 67) (by rfl) ?_
          refine lv_sipush (v := (-1000)) hx hb d_Ref_told_67 (by decide) ?_
          obtain ⟨hP9, hD9, -⟩ := cut3 (wc := [oc h0 8 [.int p3, .int p4, .ref h1, .ref h2, .ref h3, .ref h4, .ref h5, .ref h6, .ref h7, .ref h8, .ref h9, .ref h10, .ref h11, .ref h12, .int p5, .ref h13, .ref h14, .ref h15, .ref h16, .int p6, .int p7, .ref h17, .ref h18, .ref h19, .int p8, .ref h20, .int p9, .int p10, .ref h21, .ref h22, .ref h23, .ref h24, .ref h25, .ref h26, .ref h27, .ref h28, .int p11, .int p12, .ref h29, .ref h30, .ref h31, .ref h32, .ref h33, .ref h34, .ref h35, .ref h36, .int p13, .ref h37], ia h7 k6 8 (upd (fun _ => 0) 2 1), ia h8 k7 352000 (upd (upd (upd (upd (upd (upd (upd (upd (upd (upd (upd (fun _ => 0) 88000 0) 88001 0) 88002 0) 88003 0) 88004 0) 88005 0) 88006 0) 88007 0) 88008 0) 88009 0) 88010 0), ia h11 k10 32000 (upd (fun _ => 0) 8000 0)]) hP hD rfl hS hA [0, 1, 2, 3] (by decide +kernel) rfl
          have hK9 := hK.sub (tys' := []) [] rfl
          refine W.widen (k := 0) (n := 0) (by exact Nat.le_of_ble_eq_true rfl) (by exact Nat.le_of_ble_eq_true rfl) ?_
          exact W.iret (v := (-1000)) hx hb hr (fun t ht hW => ⟨⟨(-1000), (), rfl, (by first | decide | exact (fv_i (by assumption)).symm | exact (fv_w (by assumption)).symm), by rw [ht]; exact hP9, va_K.moved hW.alike hK9, hD9⟩, hS.F ht⟩) hS.2.2 d_Ref_told_70
        · skip
          exfalso
          simp only [Int32.lt_iff_toInt_lt, Int32.le_iff_toInt_le, ← Int32.toInt_inj] at c_93 c_95
          have k0 : (0 : Int32).toInt = 0 := by decide
          have k1 : (1 : Int32).toInt = 1 := by decide
          omega
    · skip
      refine lv_iload_n hx hb d_Ref_told_0 rfl (lv_at hl 2 rfl) ?_
      refine lv_if_lt (tgt := 28) hx hb d_Ref_told_1 (by decide) (fun c_97 => ?_) (fun c_97 => ?_)
      · skip
        refine lv_iconst (v := 0) hx hb d_Ref_told_28 (by decide) ?_
        refine lv_istore (lv' := [(4, .int 0), (0, .ref h0), (1, .int 2), (2, .int p1), (3, .int 8)]) hx hb d_Ref_told_29 hl (by decide) rfl ?_
        clear hl ls
        intro ls hl
        refine lv_iload hx hb d_Ref_told_31 (lv_at hl 0 rfl) ?_
        refine lv_if_eq (tgt := 67) hx hb d_Ref_told_33 (by decide) (fun c_98 => ?_) (fun c_98 => absurd c_98 (by decide))
        refine tp_pc (pc' := 67) (by rfl) ?_
        refine lv_sipush (v := (-1000)) hx hb d_Ref_told_67 (by decide) ?_
        obtain ⟨hP9, hD9, -⟩ := cut3 (wc := [oc h0 8 [.int p3, .int p4, .ref h1, .ref h2, .ref h3, .ref h4, .ref h5, .ref h6, .ref h7, .ref h8, .ref h9, .ref h10, .ref h11, .ref h12, .int p5, .ref h13, .ref h14, .ref h15, .ref h16, .int p6, .int p7, .ref h17, .ref h18, .ref h19, .int p8, .ref h20, .int p9, .int p10, .ref h21, .ref h22, .ref h23, .ref h24, .ref h25, .ref h26, .ref h27, .ref h28, .int p11, .int p12, .ref h29, .ref h30, .ref h31, .ref h32, .ref h33, .ref h34, .ref h35, .ref h36, .int p13, .ref h37], ia h7 k6 8 (upd (fun _ => 0) 2 1), ia h8 k7 352000 (upd (upd (upd (upd (upd (upd (upd (upd (upd (upd (upd (fun _ => 0) 88000 0) 88001 0) 88002 0) 88003 0) 88004 0) 88005 0) 88006 0) 88007 0) 88008 0) 88009 0) 88010 0), ia h11 k10 32000 (upd (fun _ => 0) 8000 0)]) hP hD rfl hS hA [0, 1, 2, 3] (by decide +kernel) rfl
        have hK9 := hK.sub (tys' := []) [] rfl
        refine W.widen (k := 0) (n := 0) (by exact Nat.le_of_ble_eq_true rfl) (by exact Nat.le_of_ble_eq_true rfl) ?_
        exact W.iret (v := (-1000)) hx hb hr (fun t ht hW => ⟨⟨(-1000), (), rfl, (by first | decide | exact (fv_i (by assumption)).symm | exact (fv_w (by assumption)).symm), by rw [ht]; exact hP9, va_K.moved hW.alike hK9, hD9⟩, hS.F ht⟩) hS.2.2 d_Ref_told_70
      · skip
        refine lv_iload_n hx hb d_Ref_told_4 rfl (lv_at hl 2 rfl) ?_
        refine lv_aload_n hx hb d_Ref_told_5 rfl (lv_at hl 0 rfl) ?_
        refine va_get (D := (dC, dI)) (ci := 8) (v := .ref h7) (C := R_Ref) (T := F_Ref) (N := 48) hx hb hw i_Ref hown hK hP 0 rfl rfl 8 (by decide) (hw _ m_907) (fun _ h9 => h9) rfl d_Ref_told_6 ?_
        refine lv_iload_n hx hb d_Ref_told_9 rfl (lv_at hl 1 rfl) ?_
        refine va_iald (D := (dC, dI)) hx hb hK hP 1 0 rfl rfl (i := 2) (vp_c (by decide)) d_Ref_told_10 ?_
        refine tp_i (y := 1) (by first | rfl | decide) ?_
        refine lv_icmp_ge (tgt := 28) hx hb d_Ref_told_11 (by decide) (fun c_99 => ?_) (fun c_99 => ?_)
        · skip
          refine lv_iconst (v := 0) hx hb d_Ref_told_28 (by decide) ?_
          refine lv_istore (lv' := [(4, .int 0), (0, .ref h0), (1, .int 2), (2, .int p1), (3, .int 8)]) hx hb d_Ref_told_29 hl (by decide) rfl ?_
          clear hl ls
          intro ls hl
          refine lv_iload hx hb d_Ref_told_31 (lv_at hl 0 rfl) ?_
          refine lv_if_eq (tgt := 67) hx hb d_Ref_told_33 (by decide) (fun c_100 => ?_) (fun c_100 => absurd c_100 (by decide))
          refine tp_pc (pc' := 67) (by rfl) ?_
          refine lv_sipush (v := (-1000)) hx hb d_Ref_told_67 (by decide) ?_
          obtain ⟨hP9, hD9, -⟩ := cut3 (wc := [oc h0 8 [.int p3, .int p4, .ref h1, .ref h2, .ref h3, .ref h4, .ref h5, .ref h6, .ref h7, .ref h8, .ref h9, .ref h10, .ref h11, .ref h12, .int p5, .ref h13, .ref h14, .ref h15, .ref h16, .int p6, .int p7, .ref h17, .ref h18, .ref h19, .int p8, .ref h20, .int p9, .int p10, .ref h21, .ref h22, .ref h23, .ref h24, .ref h25, .ref h26, .ref h27, .ref h28, .int p11, .int p12, .ref h29, .ref h30, .ref h31, .ref h32, .ref h33, .ref h34, .ref h35, .ref h36, .int p13, .ref h37], ia h7 k6 8 (upd (fun _ => 0) 2 1), ia h8 k7 352000 (upd (upd (upd (upd (upd (upd (upd (upd (upd (upd (upd (fun _ => 0) 88000 0) 88001 0) 88002 0) 88003 0) 88004 0) 88005 0) 88006 0) 88007 0) 88008 0) 88009 0) 88010 0), ia h11 k10 32000 (upd (fun _ => 0) 8000 0)]) hP hD rfl hS hA [0, 1, 2, 3] (by decide +kernel) rfl
          have hK9 := hK.sub (tys' := []) [] rfl
          refine W.widen (k := 0) (n := 0) (by exact Nat.le_of_ble_eq_true rfl) (by exact Nat.le_of_ble_eq_true rfl) ?_
          exact W.iret (v := (-1000)) hx hb hr (fun t ht hW => ⟨⟨(-1000), (), rfl, (by first | decide | exact (fv_i (by assumption)).symm | exact (fv_w (by assumption)).symm), by rw [ht]; exact hP9, va_K.moved hW.alike hK9, hD9⟩, hS.F ht⟩) hS.2.2 d_Ref_told_70
        · skip
          exfalso
          simp only [Int32.lt_iff_toInt_lt, Int32.le_iff_toInt_le, ← Int32.toInt_inj] at c_97 c_99
          have k0 : (0 : Int32).toInt = 0 := by decide
          have k1 : (1 : Int32).toInt = 1 := by decide
          omega
    · skip
      refine lv_iload_n hx hb d_Ref_told_0 rfl (lv_at hl 2 rfl) ?_
      refine lv_if_lt (tgt := 28) hx hb d_Ref_told_1 (by decide) (fun c_101 => ?_) (fun c_101 => ?_)
      · skip
        refine lv_iconst (v := 0) hx hb d_Ref_told_28 (by decide) ?_
        refine lv_istore (lv' := [(4, .int 0), (0, .ref h0), (1, .int 2), (2, .int p1), (3, .int 9)]) hx hb d_Ref_told_29 hl (by decide) rfl ?_
        clear hl ls
        intro ls hl
        refine lv_iload hx hb d_Ref_told_31 (lv_at hl 0 rfl) ?_
        refine lv_if_eq (tgt := 67) hx hb d_Ref_told_33 (by decide) (fun c_102 => ?_) (fun c_102 => absurd c_102 (by decide))
        refine tp_pc (pc' := 67) (by rfl) ?_
        refine lv_sipush (v := (-1000)) hx hb d_Ref_told_67 (by decide) ?_
        obtain ⟨hP9, hD9, -⟩ := cut3 (wc := [oc h0 8 [.int p3, .int p4, .ref h1, .ref h2, .ref h3, .ref h4, .ref h5, .ref h6, .ref h7, .ref h8, .ref h9, .ref h10, .ref h11, .ref h12, .int p5, .ref h13, .ref h14, .ref h15, .ref h16, .int p6, .int p7, .ref h17, .ref h18, .ref h19, .int p8, .ref h20, .int p9, .int p10, .ref h21, .ref h22, .ref h23, .ref h24, .ref h25, .ref h26, .ref h27, .ref h28, .int p11, .int p12, .ref h29, .ref h30, .ref h31, .ref h32, .ref h33, .ref h34, .ref h35, .ref h36, .int p13, .ref h37], ia h7 k6 8 (upd (fun _ => 0) 2 1), ia h8 k7 352000 (upd (upd (upd (upd (upd (upd (upd (upd (upd (upd (upd (fun _ => 0) 88000 0) 88001 0) 88002 0) 88003 0) 88004 0) 88005 0) 88006 0) 88007 0) 88008 0) 88009 0) 88010 0), ia h11 k10 32000 (upd (fun _ => 0) 8000 0)]) hP hD rfl hS hA [0, 1, 2, 3] (by decide +kernel) rfl
        have hK9 := hK.sub (tys' := []) [] rfl
        refine W.widen (k := 0) (n := 0) (by exact Nat.le_of_ble_eq_true rfl) (by exact Nat.le_of_ble_eq_true rfl) ?_
        exact W.iret (v := (-1000)) hx hb hr (fun t ht hW => ⟨⟨(-1000), (), rfl, (by first | decide | exact (fv_i (by assumption)).symm | exact (fv_w (by assumption)).symm), by rw [ht]; exact hP9, va_K.moved hW.alike hK9, hD9⟩, hS.F ht⟩) hS.2.2 d_Ref_told_70
      · skip
        refine lv_iload_n hx hb d_Ref_told_4 rfl (lv_at hl 2 rfl) ?_
        refine lv_aload_n hx hb d_Ref_told_5 rfl (lv_at hl 0 rfl) ?_
        refine va_get (D := (dC, dI)) (ci := 8) (v := .ref h7) (C := R_Ref) (T := F_Ref) (N := 48) hx hb hw i_Ref hown hK hP 0 rfl rfl 8 (by decide) (hw _ m_907) (fun _ h9 => h9) rfl d_Ref_told_6 ?_
        refine lv_iload_n hx hb d_Ref_told_9 rfl (lv_at hl 1 rfl) ?_
        refine va_iald (D := (dC, dI)) hx hb hK hP 1 0 rfl rfl (i := 2) (vp_c (by decide)) d_Ref_told_10 ?_
        refine tp_i (y := 1) (by first | rfl | decide) ?_
        refine lv_icmp_ge (tgt := 28) hx hb d_Ref_told_11 (by decide) (fun c_103 => ?_) (fun c_103 => ?_)
        · skip
          refine lv_iconst (v := 0) hx hb d_Ref_told_28 (by decide) ?_
          refine lv_istore (lv' := [(4, .int 0), (0, .ref h0), (1, .int 2), (2, .int p1), (3, .int 9)]) hx hb d_Ref_told_29 hl (by decide) rfl ?_
          clear hl ls
          intro ls hl
          refine lv_iload hx hb d_Ref_told_31 (lv_at hl 0 rfl) ?_
          refine lv_if_eq (tgt := 67) hx hb d_Ref_told_33 (by decide) (fun c_104 => ?_) (fun c_104 => absurd c_104 (by decide))
          refine tp_pc (pc' := 67) (by rfl) ?_
          refine lv_sipush (v := (-1000)) hx hb d_Ref_told_67 (by decide) ?_
          obtain ⟨hP9, hD9, -⟩ := cut3 (wc := [oc h0 8 [.int p3, .int p4, .ref h1, .ref h2, .ref h3, .ref h4, .ref h5, .ref h6, .ref h7, .ref h8, .ref h9, .ref h10, .ref h11, .ref h12, .int p5, .ref h13, .ref h14, .ref h15, .ref h16, .int p6, .int p7, .ref h17, .ref h18, .ref h19, .int p8, .ref h20, .int p9, .int p10, .ref h21, .ref h22, .ref h23, .ref h24, .ref h25, .ref h26, .ref h27, .ref h28, .int p11, .int p12, .ref h29, .ref h30, .ref h31, .ref h32, .ref h33, .ref h34, .ref h35, .ref h36, .int p13, .ref h37], ia h7 k6 8 (upd (fun _ => 0) 2 1), ia h8 k7 352000 (upd (upd (upd (upd (upd (upd (upd (upd (upd (upd (upd (fun _ => 0) 88000 0) 88001 0) 88002 0) 88003 0) 88004 0) 88005 0) 88006 0) 88007 0) 88008 0) 88009 0) 88010 0), ia h11 k10 32000 (upd (fun _ => 0) 8000 0)]) hP hD rfl hS hA [0, 1, 2, 3] (by decide +kernel) rfl
          have hK9 := hK.sub (tys' := []) [] rfl
          refine W.widen (k := 0) (n := 0) (by exact Nat.le_of_ble_eq_true rfl) (by exact Nat.le_of_ble_eq_true rfl) ?_
          exact W.iret (v := (-1000)) hx hb hr (fun t ht hW => ⟨⟨(-1000), (), rfl, (by first | decide | exact (fv_i (by assumption)).symm | exact (fv_w (by assumption)).symm), by rw [ht]; exact hP9, va_K.moved hW.alike hK9, hD9⟩, hS.F ht⟩) hS.2.2 d_Ref_told_70
        · skip
          exfalso
          simp only [Int32.lt_iff_toInt_lt, Int32.le_iff_toInt_le, ← Int32.toInt_inj] at c_101 c_103
          have k0 : (0 : Int32).toInt = 0 := by decide
          have k1 : (1 : Int32).toInt = 1 := by decide
          omega
    · skip
      refine lv_iload_n hx hb d_Ref_told_0 rfl (lv_at hl 2 rfl) ?_
      refine lv_if_lt (tgt := 28) hx hb d_Ref_told_1 (by decide) (fun c_105 => ?_) (fun c_105 => ?_)
      · skip
        refine lv_iconst (v := 0) hx hb d_Ref_told_28 (by decide) ?_
        refine lv_istore (lv' := [(4, .int 0), (0, .ref h0), (1, .int 2), (2, .int p1), (3, .int 10)]) hx hb d_Ref_told_29 hl (by decide) rfl ?_
        clear hl ls
        intro ls hl
        refine lv_iload hx hb d_Ref_told_31 (lv_at hl 0 rfl) ?_
        refine lv_if_eq (tgt := 67) hx hb d_Ref_told_33 (by decide) (fun c_106 => ?_) (fun c_106 => absurd c_106 (by decide))
        refine tp_pc (pc' := 67) (by rfl) ?_
        refine lv_sipush (v := (-1000)) hx hb d_Ref_told_67 (by decide) ?_
        obtain ⟨hP9, hD9, -⟩ := cut3 (wc := [oc h0 8 [.int p3, .int p4, .ref h1, .ref h2, .ref h3, .ref h4, .ref h5, .ref h6, .ref h7, .ref h8, .ref h9, .ref h10, .ref h11, .ref h12, .int p5, .ref h13, .ref h14, .ref h15, .ref h16, .int p6, .int p7, .ref h17, .ref h18, .ref h19, .int p8, .ref h20, .int p9, .int p10, .ref h21, .ref h22, .ref h23, .ref h24, .ref h25, .ref h26, .ref h27, .ref h28, .int p11, .int p12, .ref h29, .ref h30, .ref h31, .ref h32, .ref h33, .ref h34, .ref h35, .ref h36, .int p13, .ref h37], ia h7 k6 8 (upd (fun _ => 0) 2 1), ia h8 k7 352000 (upd (upd (upd (upd (upd (upd (upd (upd (upd (upd (upd (fun _ => 0) 88000 0) 88001 0) 88002 0) 88003 0) 88004 0) 88005 0) 88006 0) 88007 0) 88008 0) 88009 0) 88010 0), ia h11 k10 32000 (upd (fun _ => 0) 8000 0)]) hP hD rfl hS hA [0, 1, 2, 3] (by decide +kernel) rfl
        have hK9 := hK.sub (tys' := []) [] rfl
        refine W.widen (k := 0) (n := 0) (by exact Nat.le_of_ble_eq_true rfl) (by exact Nat.le_of_ble_eq_true rfl) ?_
        exact W.iret (v := (-1000)) hx hb hr (fun t ht hW => ⟨⟨(-1000), (), rfl, (by first | decide | exact (fv_i (by assumption)).symm | exact (fv_w (by assumption)).symm), by rw [ht]; exact hP9, va_K.moved hW.alike hK9, hD9⟩, hS.F ht⟩) hS.2.2 d_Ref_told_70
      · skip
        refine lv_iload_n hx hb d_Ref_told_4 rfl (lv_at hl 2 rfl) ?_
        refine lv_aload_n hx hb d_Ref_told_5 rfl (lv_at hl 0 rfl) ?_
        refine va_get (D := (dC, dI)) (ci := 8) (v := .ref h7) (C := R_Ref) (T := F_Ref) (N := 48) hx hb hw i_Ref hown hK hP 0 rfl rfl 8 (by decide) (hw _ m_907) (fun _ h9 => h9) rfl d_Ref_told_6 ?_
        refine lv_iload_n hx hb d_Ref_told_9 rfl (lv_at hl 1 rfl) ?_
        refine va_iald (D := (dC, dI)) hx hb hK hP 1 0 rfl rfl (i := 2) (vp_c (by decide)) d_Ref_told_10 ?_
        refine tp_i (y := 1) (by first | rfl | decide) ?_
        refine lv_icmp_ge (tgt := 28) hx hb d_Ref_told_11 (by decide) (fun c_107 => ?_) (fun c_107 => ?_)
        · skip
          refine lv_iconst (v := 0) hx hb d_Ref_told_28 (by decide) ?_
          refine lv_istore (lv' := [(4, .int 0), (0, .ref h0), (1, .int 2), (2, .int p1), (3, .int 10)]) hx hb d_Ref_told_29 hl (by decide) rfl ?_
          clear hl ls
          intro ls hl
          refine lv_iload hx hb d_Ref_told_31 (lv_at hl 0 rfl) ?_
          refine lv_if_eq (tgt := 67) hx hb d_Ref_told_33 (by decide) (fun c_108 => ?_) (fun c_108 => absurd c_108 (by decide))
          refine tp_pc (pc' := 67) (by rfl) ?_
          refine lv_sipush (v := (-1000)) hx hb d_Ref_told_67 (by decide) ?_
          obtain ⟨hP9, hD9, -⟩ := cut3 (wc := [oc h0 8 [.int p3, .int p4, .ref h1, .ref h2, .ref h3, .ref h4, .ref h5, .ref h6, .ref h7, .ref h8, .ref h9, .ref h10, .ref h11, .ref h12, .int p5, .ref h13, .ref h14, .ref h15, .ref h16, .int p6, .int p7, .ref h17, .ref h18, .ref h19, .int p8, .ref h20, .int p9, .int p10, .ref h21, .ref h22, .ref h23, .ref h24, .ref h25, .ref h26, .ref h27, .ref h28, .int p11, .int p12, .ref h29, .ref h30, .ref h31, .ref h32, .ref h33, .ref h34, .ref h35, .ref h36, .int p13, .ref h37], ia h7 k6 8 (upd (fun _ => 0) 2 1), ia h8 k7 352000 (upd (upd (upd (upd (upd (upd (upd (upd (upd (upd (upd (fun _ => 0) 88000 0) 88001 0) 88002 0) 88003 0) 88004 0) 88005 0) 88006 0) 88007 0) 88008 0) 88009 0) 88010 0), ia h11 k10 32000 (upd (fun _ => 0) 8000 0)]) hP hD rfl hS hA [0, 1, 2, 3] (by decide +kernel) rfl
          have hK9 := hK.sub (tys' := []) [] rfl
          refine W.widen (k := 0) (n := 0) (by exact Nat.le_of_ble_eq_true rfl) (by exact Nat.le_of_ble_eq_true rfl) ?_
          exact W.iret (v := (-1000)) hx hb hr (fun t ht hW => ⟨⟨(-1000), (), rfl, (by first | decide | exact (fv_i (by assumption)).symm | exact (fv_w (by assumption)).symm), by rw [ht]; exact hP9, va_K.moved hW.alike hK9, hD9⟩, hS.F ht⟩) hS.2.2 d_Ref_told_70
        · skip
          exfalso
          simp only [Int32.lt_iff_toInt_lt, Int32.le_iff_toInt_le, ← Int32.toInt_inj] at c_105 c_107
          have k0 : (0 : Int32).toInt = 0 := by decide
          have k1 : (1 : Int32).toInt = 1 := by decide
          omega
    · skip
      refine lv_iload_n hx hb d_Ref_told_0 rfl (lv_at hl 2 rfl) ?_
      refine lv_if_lt (tgt := 28) hx hb d_Ref_told_1 (by decide) (fun c_109 => ?_) (fun c_109 => ?_)
      · skip
        refine lv_iconst (v := 0) hx hb d_Ref_told_28 (by decide) ?_
        refine lv_istore (lv' := [(4, .int 0), (0, .ref h0), (1, .int 2), (2, .int p1), (3, .int p2)]) hx hb d_Ref_told_29 hl (by decide) rfl ?_
        clear hl ls
        intro ls hl
        refine lv_iload hx hb d_Ref_told_31 (lv_at hl 0 rfl) ?_
        refine lv_if_eq (tgt := 67) hx hb d_Ref_told_33 (by decide) (fun c_110 => ?_) (fun c_110 => absurd c_110 (by decide))
        refine tp_pc (pc' := 67) (by rfl) ?_
        refine lv_sipush (v := (-1000)) hx hb d_Ref_told_67 (by decide) ?_
        obtain ⟨hP9, hD9, -⟩ := cut3 (wc := [oc h0 8 [.int p3, .int p4, .ref h1, .ref h2, .ref h3, .ref h4, .ref h5, .ref h6, .ref h7, .ref h8, .ref h9, .ref h10, .ref h11, .ref h12, .int p5, .ref h13, .ref h14, .ref h15, .ref h16, .int p6, .int p7, .ref h17, .ref h18, .ref h19, .int p8, .ref h20, .int p9, .int p10, .ref h21, .ref h22, .ref h23, .ref h24, .ref h25, .ref h26, .ref h27, .ref h28, .int p11, .int p12, .ref h29, .ref h30, .ref h31, .ref h32, .ref h33, .ref h34, .ref h35, .ref h36, .int p13, .ref h37], ia h7 k6 8 (upd (fun _ => 0) 2 1), ia h8 k7 352000 (upd (upd (upd (upd (upd (upd (upd (upd (upd (upd (upd (fun _ => 0) 88000 0) 88001 0) 88002 0) 88003 0) 88004 0) 88005 0) 88006 0) 88007 0) 88008 0) 88009 0) 88010 0), ia h11 k10 32000 (upd (fun _ => 0) 8000 0)]) hP hD rfl hS hA [0, 1, 2, 3] (by decide +kernel) rfl
        have hK9 := hK.sub (tys' := []) [] rfl
        refine W.widen (k := 0) (n := 0) (by exact Nat.le_of_ble_eq_true rfl) (by exact Nat.le_of_ble_eq_true rfl) ?_
        exact W.iret (v := (-1000)) hx hb hr (fun t ht hW => ⟨⟨(-1000), (), rfl, (by first | decide | exact (fv_i (by assumption)).symm | exact (fv_w (by assumption)).symm), by rw [ht]; exact hP9, va_K.moved hW.alike hK9, hD9⟩, hS.F ht⟩) hS.2.2 d_Ref_told_70
      · skip
        refine lv_iload_n hx hb d_Ref_told_4 rfl (lv_at hl 2 rfl) ?_
        refine lv_aload_n hx hb d_Ref_told_5 rfl (lv_at hl 0 rfl) ?_
        refine va_get (D := (dC, dI)) (ci := 8) (v := .ref h7) (C := R_Ref) (T := F_Ref) (N := 48) hx hb hw i_Ref hown hK hP 0 rfl rfl 8 (by decide) (hw _ m_907) (fun _ h9 => h9) rfl d_Ref_told_6 ?_
        refine lv_iload_n hx hb d_Ref_told_9 rfl (lv_at hl 1 rfl) ?_
        refine va_iald (D := (dC, dI)) hx hb hK hP 1 0 rfl rfl (i := 2) (vp_c (by decide)) d_Ref_told_10 ?_
        refine tp_i (y := 1) (by first | rfl | decide) ?_
        refine lv_icmp_ge (tgt := 28) hx hb d_Ref_told_11 (by decide) (fun c_111 => ?_) (fun c_111 => ?_)
        · skip
          refine lv_iconst (v := 0) hx hb d_Ref_told_28 (by decide) ?_
          refine lv_istore (lv' := [(4, .int 0), (0, .ref h0), (1, .int 2), (2, .int p1), (3, .int p2)]) hx hb d_Ref_told_29 hl (by decide) rfl ?_
          clear hl ls
          intro ls hl
          refine lv_iload hx hb d_Ref_told_31 (lv_at hl 0 rfl) ?_
          refine lv_if_eq (tgt := 67) hx hb d_Ref_told_33 (by decide) (fun c_112 => ?_) (fun c_112 => absurd c_112 (by decide))
          refine tp_pc (pc' := 67) (by rfl) ?_
          refine lv_sipush (v := (-1000)) hx hb d_Ref_told_67 (by decide) ?_
          obtain ⟨hP9, hD9, -⟩ := cut3 (wc := [oc h0 8 [.int p3, .int p4, .ref h1, .ref h2, .ref h3, .ref h4, .ref h5, .ref h6, .ref h7, .ref h8, .ref h9, .ref h10, .ref h11, .ref h12, .int p5, .ref h13, .ref h14, .ref h15, .ref h16, .int p6, .int p7, .ref h17, .ref h18, .ref h19, .int p8, .ref h20, .int p9, .int p10, .ref h21, .ref h22, .ref h23, .ref h24, .ref h25, .ref h26, .ref h27, .ref h28, .int p11, .int p12, .ref h29, .ref h30, .ref h31, .ref h32, .ref h33, .ref h34, .ref h35, .ref h36, .int p13, .ref h37], ia h7 k6 8 (upd (fun _ => 0) 2 1), ia h8 k7 352000 (upd (upd (upd (upd (upd (upd (upd (upd (upd (upd (upd (fun _ => 0) 88000 0) 88001 0) 88002 0) 88003 0) 88004 0) 88005 0) 88006 0) 88007 0) 88008 0) 88009 0) 88010 0), ia h11 k10 32000 (upd (fun _ => 0) 8000 0)]) hP hD rfl hS hA [0, 1, 2, 3] (by decide +kernel) rfl
          have hK9 := hK.sub (tys' := []) [] rfl
          refine W.widen (k := 0) (n := 0) (by exact Nat.le_of_ble_eq_true rfl) (by exact Nat.le_of_ble_eq_true rfl) ?_
          exact W.iret (v := (-1000)) hx hb hr (fun t ht hW => ⟨⟨(-1000), (), rfl, (by first | decide | exact (fv_i (by assumption)).symm | exact (fv_w (by assumption)).symm), by rw [ht]; exact hP9, va_K.moved hW.alike hK9, hD9⟩, hS.F ht⟩) hS.2.2 d_Ref_told_70
        · skip
          exfalso
          simp only [Int32.lt_iff_toInt_lt, Int32.le_iff_toInt_le, ← Int32.toInt_inj] at c_109 c_111
          have k0 : (0 : Int32).toInt = 0 := by decide
          have k1 : (1 : Int32).toInt = 1 := by decide
          omega
