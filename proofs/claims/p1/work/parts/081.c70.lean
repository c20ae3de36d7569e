set_option maxHeartbeats 4000000 in
set_option maxRecDepth 100000 in
theorem c_Ref_addOutcome_v6 (l : Launch) (dC : Nat → ClassId) (dI : Nat → Nat → Nat) (h0 : Nat) (p1 : Int32) (p2 : Int32) (h1 : Nat) (h2 : Nat) (h3 : Nat) (h4 : Nat) (h5 : Nat) (h6 : Nat) (h7 : Nat) (h8 : Nat) (h9 : Nat) (h10 : Nat) (h11 : Nat) (h12 : Nat) (p3 : Int32) (h13 : Nat) (h14 : Nat) (h15 : Nat) (h16 : Nat) (p4 : Int32) (p5 : Int32) (h17 : Nat) (h18 : Nat) (h19 : Nat) (p6 : Int32) (h20 : Nat) (p7 : Int32) (p8 : Int32) (h21 : Nat) (h22 : Nat) (h23 : Nat) (h24 : Nat) (h25 : Nat) (h26 : Nat) (h27 : Nat) (h28 : Nat) (p9 : Int32) (p10 : Int32) (h29 : Nat) (h30 : Nat) (h31 : Nat) (h32 : Nat) (h33 : Nat) (h34 : Nat) (h35 : Nat) (h36 : Nat) (p11 : Int32) (h37 : Nat) (k6 : ClassId) (k7 : ClassId) (f7 : Nat → Int32) (k10 : ClassId) (f10 : Nat → Int32) (k20 : ClassId) (sz : Nat) : Met l y_Ref_addOutcome w_Ref_addOutcome ({ frames := 0, cells := 0, slots := 0, locals := 0 }) (va_Pc [.ref h0, .int 5] (fun U => U.heap.size = sz ∧ va_P (dC, dI) classes [oc h0 8 [.int p1, .int p2, .ref h1, .ref h2, .ref h3, .ref h4, .ref h5, .ref h6, .ref h7, .ref h8, .ref h9, .ref h10, .ref h11, .ref h12, .int p3, .ref h13, .ref h14, .ref h15, .ref h16, .int p4, .int p5, .ref h17, .ref h18, .ref h19, .int p6, .ref h20, .int p7, .int p8, .ref h21, .ref h22, .ref h23, .ref h24, .ref h25, .ref h26, .ref h27, .ref h28, .int p9, .int p10, .ref h29, .ref h30, .ref h31, .ref h32, .ref h33, .ref h34, .ref h35, .ref h36, .int p11, .ref h37], ia h7 k6 8 (fun _ => 0), ia h8 k7 352000 f7, ia h11 k10 32000 f10, ia h21 k20 11 (fun _ => 0)] U.heap ∧ va_K (dC, dI) classes [(k6, .int), (k7, .short), (k10, .int), (k20, .int)] U ∧ va_D (fun _ => True) [oc h0 8 [.int p1, .int p2, .ref h1, .ref h2, .ref h3, .ref h4, .ref h5, .ref h6, .ref h7, .ref h8, .ref h9, .ref h10, .ref h11, .ref h12, .int p3, .ref h13, .ref h14, .ref h15, .ref h16, .int p4, .int p5, .ref h17, .ref h18, .ref h19, .int p6, .ref h20, .int p7, .int p8, .ref h21, .ref h22, .ref h23, .ref h24, .ref h25, .ref h26, .ref h27, .ref h28, .int p9, .int p10, .ref h29, .ref h30, .ref h31, .ref h32, .ref h33, .ref h34, .ref h35, .ref h36, .int p11, .ref h37], ia h7 k6 8 (fun _ => 0), ia h8 k7 352000 f7, ia h11 k10 32000 f10, ia h21 k20 11 (fun _ => 0)] ∧ nw U)) (va_Qi (fun (r : Int32) (_ : Unit) => r = 0) (fun _ t => va_P (dC, dI) classes [oc h0 8 [.int p1, .int p2, .ref h1, .ref h2, .ref h3, .ref h4, .ref h5, .ref h6, .ref h7, .ref h8, .ref h9, .ref h10, .ref h11, .ref h12, .int p3, .ref h13, .ref h14, .ref h15, .ref h16, .int p4, .int p5, .ref h17, .ref h18, .ref h19, .int p6, .ref h20, .int p7, .int p8, .ref h21, .ref h22, .ref h23, .ref h24, .ref h25, .ref h26, .ref h27, .ref h28, .int p9, .int p10, .ref h29, .ref h30, .ref h31, .ref h32, .ref h33, .ref h34, .ref h35, .ref h36, .int p11, .ref h37], ia h7 k6 8 (upd (fun _ => 0) 5 1), ia h8 k7 352000 (upd (upd (upd (upd (upd (upd (upd (upd (upd (upd (upd f7 220000 0) 220001 0) 220002 0) 220003 0) 220004 0) 220005 0) 220006 0) 220007 0) 220008 0) 220009 0) 220010 0), ia h11 k10 32000 (upd f10 20000 0), ia h21 k20 11 (fun _ => 0)] t.heap ∧ va_K (dC, dI) classes [] t ∧ va_D (va_A [oc h0 8 [.int p1, .int p2, .ref h1, .ref h2, .ref h3, .ref h4, .ref h5, .ref h6, .ref h7, .ref h8, .ref h9, .ref h10, .ref h11, .ref h12, .int p3, .ref h13, .ref h14, .ref h15, .ref h16, .int p4, .int p5, .ref h17, .ref h18, .ref h19, .int p6, .ref h20, .int p7, .int p8, .ref h21, .ref h22, .ref h23, .ref h24, .ref h25, .ref h26, .ref h27, .ref h28, .int p9, .int p10, .ref h29, .ref h30, .ref h31, .ref h32, .ref h33, .ref h34, .ref h35, .ref h36, .int p11, .ref h37], ia h7 k6 8 (fun _ => 0), ia h8 k7 352000 f7, ia h11 k10 32000 f10, ia h21 k20 11 (fun _ => 0)] sz) [oc h0 8 [.int p1, .int p2, .ref h1, .ref h2, .ref h3, .ref h4, .ref h5, .ref h6, .ref h7, .ref h8, .ref h9, .ref h10, .ref h11, .ref h12, .int p3, .ref h13, .ref h14, .ref h15, .ref h16, .int p4, .int p5, .ref h17, .ref h18, .ref h19, .int p6, .ref h20, .int p7, .int p8, .ref h21, .ref h22, .ref h23, .ref h24, .ref h25, .ref h26, .ref h27, .ref h28, .int p9, .int p10, .ref h29, .ref h30, .ref h31, .ref h32, .ref h33, .ref h34, .ref h35, .ref h36, .int p11, .ref h37], ia h7 k6 8 (upd (fun _ => 0) 5 1), ia h8 k7 352000 (upd (upd (upd (upd (upd (upd (upd (upd (upd (upd (upd f7 220000 0) 220001 0) 220002 0) 220003 0) 220004 0) 220005 0) 220006 0) 220007 0) 220008 0) 220009 0) 220010 0), ia h11 k10 32000 (upd f10 20000 0), ia h21 k20 11 (fun _ => 0)]) (va_A [oc h0 8 [.int p1, .int p2, .ref h1, .ref h2, .ref h3, .ref h4, .ref h5, .ref h6, .ref h7, .ref h8, .ref h9, .ref h10, .ref h11, .ref h12, .int p3, .ref h13, .ref h14, .ref h15, .ref h16, .int p4, .int p5, .ref h17, .ref h18, .ref h19, .int p6, .ref h20, .int p7, .int p8, .ref h21, .ref h22, .ref h23, .ref h24, .ref h25, .ref h26, .ref h27, .ref h28, .int p9, .int p10, .ref h29, .ref h30, .ref h31, .ref h32, .ref h33, .ref h34, .ref h35, .ref h36, .int p11, .ref h37], ia h7 k6 8 (fun _ => 0), ia h8 k7 352000 f7, ia h11 k10 32000 f10, ia h21 k20 11 (fun _ => 0)] sz)) 0 0 (va_A [oc h0 8 [.int p1, .int p2, .ref h1, .ref h2, .ref h3, .ref h4, .ref h5, .ref h6, .ref h7, .ref h8, .ref h9, .ref h10, .ref h11, .ref h12, .int p3, .ref h13, .ref h14, .ref h15, .ref h16, .int p4, .int p5, .ref h17, .ref h18, .ref h19, .int p6, .ref h20, .int p7, .int p8, .ref h21, .ref h22, .ref h23, .ref h24, .ref h25, .ref h26, .ref h27, .ref h28, .int p9, .int p10, .ref h29, .ref h30, .ref h31, .ref h32, .ref h33, .ref h34, .ref h35, .ref h36, .int p11, .ref h37], ia h7 k6 8 (fun _ => 0), ia h8 k7 352000 f7, ia h11 k10 32000 f10, ia h21 k20 11 (fun _ => 0)] sz) := by
  refine Met.ofW (cc := b_Ref_addOutcome) (maxL := 7) (ret := (some .int)) (by decide) rfl ?_
  intro p e s m args below meth c s₁ B hml hv
  obtain ⟨rfl, hsz, hP, hK, hD0, hn⟩ := hv
  have hx := B.exec
  have hb := B.bytes
  have hr := B.returns
  have hw := fun w (h : w ∈ wt) => atoms_spec (ws := w_Ref_addOutcome) B.pre w (List.mem_cons_of_mem _ h)
  have hown : s.vm.findClass R_Ref = some m.cls := findClass_of_methodNamed B.named
  have hlocks := B.notSynchronized
  subst hsz
  have hD1 := hD0.self (sz := s.heap.size)
  generalize hAe : va_A [oc h0 8 [.int p1, .int p2, .ref h1, .ref h2, .ref h3, .ref h4, .ref h5, .ref h6, .ref h7, .ref h8, .ref h9, .ref h10, .ref h11, .ref h12, .int p3, .ref h13, .ref h14, .ref h15, .ref h16, .int p4, .int p5, .ref h17, .ref h18, .ref h19, .int p6, .ref h20, .int p7, .int p8, .ref h21, .ref h22, .ref h23, .ref h24, .ref h25, .ref h26, .ref h27, .ref h28, .int p9, .int p10, .ref h29, .ref h30, .ref h31, .ref h32, .ref h33, .ref h34, .ref h35, .ref h36, .int p11, .ref h37], ia h7 k6 8 (fun _ => 0), ia h8 k7 352000 f7, ia h11 k10 32000 f10, ia h21 k20 11 (fun _ => 0)] s.heap.size = A at hD1 ⊢
  have hA : ∀ q : Nat, s.heap.size ≤ q → A q := fun q h => by rw [← hAe]; exact Or.inr h
  have hD : dd A [h0, h7, h8, h11, h21] := dd_of hD1 rfl
  clear hAe hD0 hD1
  have hS : va_S A s.heap s.heap [] := va_S.rf
  replace hP : va_P (dC, dI) classes [oc h0 8 [.int p1, .int p2, .ref h1, .ref h2, .ref h3, .ref h4, .ref h5, .ref h6, .ref h7, .ref h8, .ref h9, .ref h10, .ref h11, .ref h12, .int p3, .ref h13, .ref h14, .ref h15, .ref h16, .int p4, .int p5, .ref h17, .ref h18, .ref h19, .int p6, .ref h20, .int p7, .int p8, .ref h21, .ref h22, .ref h23, .ref h24, .ref h25, .ref h26, .ref h27, .ref h28, .int p9, .int p10, .ref h29, .ref h30, .ref h31, .ref h32, .ref h33, .ref h34, .ref h35, .ref h36, .int p11, .ref h37], ia h7 k6 8 (fun _ => 0), ia h8 k7 352000 f7, ia h11 k10 32000 f10, ia h21 k20 11 (fun _ => 0)] s.heap := hP
  have hl := lv_entry ([.ref h0, .int 5]) (n := 7) (Nat.le_of_ble_eq_true rfl)
  rw [lg_entry_eq]
  generalize (lg_sl ([.ref h0, .int 5]) ++ List.replicate (7 - (lg_sl ([.ref h0, .int 5])).length) Slot.unset).toArray = ls at hl ⊢
  replace hl : lv_has ls 7 [(0, .ref h0), (1, .int 5)] := hl
  refine lv_sipush (v := 4000) hx hb d_Ref_addOutcome_0 (by decide) ?_
  refine lv_iload_n hx hb d_Ref_addOutcome_3 rfl (lv_at hl 1 rfl) ?_
  refine lv_imul hx hb d_Ref_addOutcome_4 ?_
  refine tp_i (y := 20000) (by first | rfl | decide) ?_
  refine lv_istore_n (lv' := [(2, .int 20000), (0, .ref h0), (1, .int 5)]) hx hb d_Ref_addOutcome_5 rfl hl (by decide) rfl ?_
  clear hl ls
  intro ls hl
  refine lv_iconst (v := 0) hx hb d_Ref_addOutcome_6 (by decide) ?_
  refine lv_istore_n (lv' := [(3, .int 0), (2, .int 20000), (0, .ref h0), (1, .int 5)]) hx hb d_Ref_addOutcome_7 rfl hl (by decide) rfl ?_
  clear hl ls
  intro ls hl
  refine lv_aload_n hx hb d_Ref_addOutcome_8 rfl (lv_at hl 2 rfl) ?_
  refine va_get (D := (dC, dI)) (ci := 8) (v := .ref h7) (C := R_Ref) (T := F_Ref) (N := 48) hx hb hw i_Ref hown hK hP 0 rfl rfl 8 (by decide) (hw _ m_907) (fun _ h9 => h9) rfl d_Ref_addOutcome_9 ?_
  refine lv_iload_n hx hb d_Ref_addOutcome_12 rfl (lv_at hl 3 rfl) ?_
  refine va_iald (D := (dC, dI)) hx hb hK hP 1 0 rfl rfl (i := 5) (vp_c (by decide)) d_Ref_addOutcome_13 ?_
  refine tp_i (y := 0) (by first | rfl | decide) ?_
  refine lv_istore (lv' := [(4, .int 0), (3, .int 0), (2, .int 20000), (0, .ref h0), (1, .int 5)]) hx hb d_Ref_addOutcome_14 hl (by decide) rfl ?_
  clear hl ls
  intro ls hl
  refine lv_iload_n hx hb d_Ref_addOutcome_16 rfl (lv_at hl 1 rfl) ?_
  refine lv_iload hx hb d_Ref_addOutcome_17 (lv_at hl 0 rfl) ?_
  refine lv_icmp_ge (tgt := 62) hx hb d_Ref_addOutcome_19 (by decide) (fun c_1 => ?_) (fun c_1 => absurd c_1 (by decide))
  refine tp_pc (pc' := 62) (by rfl) ?_
  refine lv_aload_n hx hb d_Ref_addOutcome_62 rfl (lv_at hl 3 rfl) ?_
  refine va_get (D := (dC, dI)) (ci := 8) (v := .ref h7) (C := R_Ref) (T := F_Ref) (N := 48) hx hb hw i_Ref hown hK hP 0 rfl rfl 8 (by decide) (hw _ m_907) (fun _ h9 => h9) rfl d_Ref_addOutcome_63 ?_
  refine lv_iload_n hx hb d_Ref_addOutcome_66 rfl (lv_at hl 4 rfl) ?_
  refine va_iald (D := (dC, dI)) hx hb hK hP 1 0 rfl rfl (i := 5) (vp_c (by decide)) d_Ref_addOutcome_67 ?_
  refine tp_i (y := 0) (by first | rfl | decide) ?_
  refine lv_istore (lv' := [(5, .int 0), (4, .int 0), (3, .int 0), (2, .int 20000), (0, .ref h0), (1, .int 5)]) hx hb d_Ref_addOutcome_68 hl (by decide) rfl ?_
  clear hl ls
  intro ls hl
  refine lv_iload_n hx hb d_Ref_addOutcome_70 rfl (lv_at hl 2 rfl) ?_
  refine lv_iload hx hb d_Ref_addOutcome_71 (lv_at hl 0 rfl) ?_
  refine lv_icmp_ge (tgt := 92) hx hb d_Ref_addOutcome_73 (by decide) (fun c_2 => ?_) (fun c_2 => absurd c_2 (by decide))
  refine tp_pc (pc' := 92) (by rfl) ?_
  refine lv_iload hx hb d_Ref_addOutcome_92 (lv_at hl 0 rfl) ?_
  refine lv_sipush (v := 4000) hx hb d_Ref_addOutcome_94 (by decide) ?_
  refine lv_icmp_ne (tgt := 102) hx hb d_Ref_addOutcome_97 (by decide) (fun c_3 => ?_) (fun c_3 => absurd c_3 (by decide))
  refine tp_pc (pc' := 102) (by rfl) ?_
  refine lv_iload hx hb d_Ref_addOutcome_102 (lv_at hl 0 rfl) ?_
  refine lv_istore (lv' := [(6, .int 0), (5, .int 0), (4, .int 0), (3, .int 0), (2, .int 20000), (0, .ref h0), (1, .int 5)]) hx hb d_Ref_addOutcome_104 hl (by decide) rfl ?_
  clear hl ls
  intro ls hl
  refine lv_iload hx hb d_Ref_addOutcome_106 (lv_at hl 0 rfl) ?_
  refine lv_iload_n hx hb d_Ref_addOutcome_108 rfl (lv_at hl 3 rfl) ?_
  refine lv_icmp_le (tgt := 138) hx hb d_Ref_addOutcome_109 (by decide) (fun c_4 => ?_) (fun c_4 => absurd c_4 (by decide))
  refine tp_pc (pc' := 138) (by rfl) ?_
  refine lv_aload_n hx hb d_Ref_addOutcome_138 rfl (lv_at hl 5 rfl) ?_
  refine va_get (D := (dC, dI)) (ci := 8) (v := .ref h11) (C := R_Ref) (T := F_Ref) (N := 48) hx hb hw i_Ref hown hK hP 0 rfl rfl 12 (by decide) (hw _ m_911) (fun _ h9 => h9) rfl d_Ref_addOutcome_139 ?_
  refine lv_iload_n hx hb d_Ref_addOutcome_142 rfl (lv_at hl 4 rfl) ?_
  refine lv_iload_n hx hb d_Ref_addOutcome_143 rfl (lv_at hl 3 rfl) ?_
  refine lv_iadd hx hb d_Ref_addOutcome_144 ?_
  refine tp_i (y := 20000) (by first | rfl | decide) ?_
  refine lv_iload hx hb d_Ref_addOutcome_145 (lv_at hl 1 rfl) ?_
  refine va_iast (D := (dC, dI)) hx hb hK hP (dd_D hD rfl) hS 3 2 rfl rfl (i := 20000) (x := 0) (vp_c (by decide)) d_Ref_addOutcome_147 ?_
  clear hP hS
  intro H locs (hP : va_P (dC, dI) classes [oc h0 8 [.int p1, .int p2, .ref h1, .ref h2, .ref h3, .ref h4, .ref h5, .ref h6, .ref h7, .ref h8, .ref h9, .ref h10, .ref h11, .ref h12, .int p3, .ref h13, .ref h14, .ref h15, .ref h16, .int p4, .int p5, .ref h17, .ref h18, .ref h19, .int p6, .ref h20, .int p7, .int p8, .ref h21, .ref h22, .ref h23, .ref h24, .ref h25, .ref h26, .ref h27, .ref h28, .int p9, .int p10, .ref h29, .ref h30, .ref h31, .ref h32, .ref h33, .ref h34, .ref h35, .ref h36, .int p11, .ref h37], ia h7 k6 8 (fun _ => 0), ia h8 k7 352000 f7, ia h11 k10 32000 (upd f10 20000 0), ia h21 k20 11 (fun _ => 0)] H) _ hS
  refine tp_pc (pc' := 148) (by rfl) ?_
  refine lv_aload_n hx hb d_Ref_addOutcome_148 rfl (lv_at hl 5 rfl) ?_
  refine va_get (D := (dC, dI)) (ci := 8) (v := .ref h7) (C := R_Ref) (T := F_Ref) (N := 48) hx hb hw i_Ref hown hK hP 0 rfl rfl 8 (by decide) (hw _ m_907) (fun _ h9 => h9) rfl d_Ref_addOutcome_149 ?_
  refine lv_iload_n hx hb d_Ref_addOutcome_152 rfl (lv_at hl 6 rfl) ?_
  refine lv_dup2_11 hx hb d_Ref_addOutcome_153 rfl rfl ?_
  refine va_iald (D := (dC, dI)) hx hb hK hP 1 0 rfl rfl (i := 5) (vp_c (by decide)) d_Ref_addOutcome_154 ?_
  refine tp_i (y := 0) (by first | rfl | decide) ?_
  refine lv_iconst (v := 1) hx hb d_Ref_addOutcome_155 (by decide) ?_
  refine lv_iadd hx hb d_Ref_addOutcome_156 ?_
  refine tp_i (y := 1) (by first | rfl | decide) ?_
  refine va_iast (D := (dC, dI)) hx hb hK hP (dd_D hD rfl) hS 1 0 rfl rfl (i := 5) (x := 1) (vp_c (by decide)) d_Ref_addOutcome_157 ?_
  clear hP hS locs H
  intro H locs (hP : va_P (dC, dI) classes [oc h0 8 [.int p1, .int p2, .ref h1, .ref h2, .ref h3, .ref h4, .ref h5, .ref h6, .ref h7, .ref h8, .ref h9, .ref h10, .ref h11, .ref h12, .int p3, .ref h13, .ref h14, .ref h15, .ref h16, .int p4, .int p5, .ref h17, .ref h18, .ref h19, .int p6, .ref h20, .int p7, .int p8, .ref h21, .ref h22, .ref h23, .ref h24, .ref h25, .ref h26, .ref h27, .ref h28, .int p9, .int p10, .ref h29, .ref h30, .ref h31, .ref h32, .ref h33, .ref h34, .ref h35, .ref h36, .int p11, .ref h37], ia h7 k6 8 (upd (fun _ => 0) 5 1), ia h8 k7 352000 f7, ia h11 k10 32000 (upd f10 20000 0), ia h21 k20 11 (fun _ => 0)] H) _ hS
  refine tp_pc (pc' := 158) (by rfl) ?_
  refine lv_iconst (v := 0) hx hb d_Ref_addOutcome_158 (by decide) ?_
  refine lv_istore (lv' := [(6, .int 0), (5, .int 0), (4, .int 0), (3, .int 0), (2, .int 20000), (0, .ref h0), (1, .int 5)]) hx hb d_Ref_addOutcome_159 hl (by decide) rfl ?_
  clear hl ls
  intro ls hl
  refine lv_iload hx hb d_Ref_addOutcome_161 (lv_at hl 0 rfl) ?_
  refine lv_bipush (v := 11) hx hb d_Ref_addOutcome_163 (by decide) ?_
  refine lv_icmp_ge (tgt := 197) hx hb d_Ref_addOutcome_165 (by decide) (fun c_5 => absurd c_5 (by decide)) (fun c_5 => ?_)
  refine tp_pc (pc' := 168) (by rfl) ?_
  refine lv_aload_n hx hb d_Ref_addOutcome_168 rfl (lv_at hl 5 rfl) ?_
  refine va_get (D := (dC, dI)) (ci := 8) (v := .ref h8) (C := R_Ref) (T := F_Ref) (N := 48) hx hb hw i_Ref hown hK hP 0 rfl rfl 9 (by decide) (hw _ m_908) (fun _ h9 => h9) rfl d_Ref_addOutcome_169 ?_
  refine lv_bipush (v := 11) hx hb d_Ref_addOutcome_172 (by decide) ?_
  refine lv_iload_n hx hb d_Ref_addOutcome_174 rfl (lv_at hl 4 rfl) ?_
  refine lv_iload hx hb d_Ref_addOutcome_175 (lv_at hl 1 rfl) ?_
  refine lv_iadd hx hb d_Ref_addOutcome_177 ?_
  refine tp_i (y := 20000) (by first | rfl | decide) ?_
  refine lv_imul hx hb d_Ref_addOutcome_178 ?_
  refine tp_i (y := 220000) (by first | rfl | decide) ?_
  refine lv_iload hx hb d_Ref_addOutcome_179 (lv_at hl 0 rfl) ?_
  refine lv_iadd hx hb d_Ref_addOutcome_181 ?_
  refine tp_i (y := 220000) (by first | rfl | decide) ?_
  refine lv_aload_n hx hb d_Ref_addOutcome_182 rfl (lv_at hl 5 rfl) ?_
  refine va_get (D := (dC, dI)) (ci := 8) (v := .ref h21) (C := R_Ref) (T := F_Ref) (N := 48) hx hb hw i_Ref hown hK hP 0 rfl rfl 28 (by decide) (hw _ m_927) (fun _ h9 => h9) rfl d_Ref_addOutcome_183 ?_
  refine lv_iload hx hb d_Ref_addOutcome_186 (lv_at hl 0 rfl) ?_
  refine va_iald (D := (dC, dI)) hx hb hK hP 4 3 rfl rfl (i := 0) (vp_c (by decide)) d_Ref_addOutcome_188 ?_
  refine tp_i (y := 0) (by first | rfl | decide) ?_
  refine lv_i2s (v := 0) hx hb d_Ref_addOutcome_189 (by decide) ?_
  refine va_sast (D := (dC, dI)) hx hb hK hP (dd_D hD rfl) hS 2 1 rfl rfl (i := 220000) (x := 0) (vp_c (by decide)) d_Ref_addOutcome_190 ?_
  clear hP hS locs H
  intro H locs (hP : va_P (dC, dI) classes [oc h0 8 [.int p1, .int p2, .ref h1, .ref h2, .ref h3, .ref h4, .ref h5, .ref h6, .ref h7, .ref h8, .ref h9, .ref h10, .ref h11, .ref h12, .int p3, .ref h13, .ref h14, .ref h15, .ref h16, .int p4, .int p5, .ref h17, .ref h18, .ref h19, .int p6, .ref h20, .int p7, .int p8, .ref h21, .ref h22, .ref h23, .ref h24, .ref h25, .ref h26, .ref h27, .ref h28, .int p9, .int p10, .ref h29, .ref h30, .ref h31, .ref h32, .ref h33, .ref h34, .ref h35, .ref h36, .int p11, .ref h37], ia h7 k6 8 (upd (fun _ => 0) 5 1), ia h8 k7 352000 (upd f7 220000 0), ia h11 k10 32000 (upd f10 20000 0), ia h21 k20 11 (fun _ => 0)] H) _ hS
  refine tp_pc (pc' := 191) (by rfl) ?_
  refine lv_iinc (v := 1) (lv' := [(6, .int 1), (5, .int 0), (4, .int 0), (3, .int 0), (2, .int 20000), (0, .ref h0), (1, .int 5)]) hx hb d_Ref_addOutcome_191 hl (k := 0) rfl (by first | rfl | decide) (by decide) rfl ?_
  clear hl ls
  intro ls hl
  refine lv_goto (tgt := 161) hx hb d_Ref_addOutcome_194 (by decide) ?_
  refine tp_pc (pc' := 161) (by rfl) ?_
  refine lv_iload hx hb d_Ref_addOutcome_161 (lv_at hl 0 rfl) ?_
  refine lv_bipush (v := 11) hx hb d_Ref_addOutcome_163 (by decide) ?_
  refine lv_icmp_ge (tgt := 197) hx hb d_Ref_addOutcome_165 (by decide) (fun c_6 => absurd c_6 (by decide)) (fun c_6 => ?_)
  refine tp_pc (pc' := 168) (by rfl) ?_
  refine lv_aload_n hx hb d_Ref_addOutcome_168 rfl (lv_at hl 5 rfl) ?_
  refine va_get (D := (dC, dI)) (ci := 8) (v := .ref h8) (C := R_Ref) (T := F_Ref) (N := 48) hx hb hw i_Ref hown hK hP 0 rfl rfl 9 (by decide) (hw _ m_908) (fun _ h9 => h9) rfl d_Ref_addOutcome_169 ?_
  refine lv_bipush (v := 11) hx hb d_Ref_addOutcome_172 (by decide) ?_
  refine lv_iload_n hx hb d_Ref_addOutcome_174 rfl (lv_at hl 4 rfl) ?_
  refine lv_iload hx hb d_Ref_addOutcome_175 (lv_at hl 1 rfl) ?_
  refine lv_iadd hx hb d_Ref_addOutcome_177 ?_
  refine tp_i (y := 20000) (by first | rfl | decide) ?_
  refine lv_imul hx hb d_Ref_addOutcome_178 ?_
  refine tp_i (y := 220000) (by first | rfl | decide) ?_
  refine lv_iload hx hb d_Ref_addOutcome_179 (lv_at hl 0 rfl) ?_
  refine lv_iadd hx hb d_Ref_addOutcome_181 ?_
  refine tp_i (y := 220001) (by first | rfl | decide) ?_
  refine lv_aload_n hx hb d_Ref_addOutcome_182 rfl (lv_at hl 5 rfl) ?_
  refine va_get (D := (dC, dI)) (ci := 8) (v := .ref h21) (C := R_Ref) (T := F_Ref) (N := 48) hx hb hw i_Ref hown hK hP 0 rfl rfl 28 (by decide) (hw _ m_927) (fun _ h9 => h9) rfl d_Ref_addOutcome_183 ?_
  refine lv_iload hx hb d_Ref_addOutcome_186 (lv_at hl 0 rfl) ?_
  refine va_iald (D := (dC, dI)) hx hb hK hP 4 3 rfl rfl (i := 1) (vp_c (by decide)) d_Ref_addOutcome_188 ?_
  refine tp_i (y := 0) (by first | rfl | decide) ?_
  refine lv_i2s (v := 0) hx hb d_Ref_addOutcome_189 (by decide) ?_
  refine va_sast (D := (dC, dI)) hx hb hK hP (dd_D hD rfl) hS 2 1 rfl rfl (i := 220001) (x := 0) (vp_c (by decide)) d_Ref_addOutcome_190 ?_
  clear hP hS locs H
  intro H locs (hP : va_P (dC, dI) classes [oc h0 8 [.int p1, .int p2, .ref h1, .ref h2, .ref h3, .ref h4, .ref h5, .ref h6, .ref h7, .ref h8, .ref h9, .ref h10, .ref h11, .ref h12, .int p3, .ref h13, .ref h14, .ref h15, .ref h16, .int p4, .int p5, .ref h17, .ref h18, .ref h19, .int p6, .ref h20, .int p7, .int p8, .ref h21, .ref h22, .ref h23, .ref h24, .ref h25, .ref h26, .ref h27, .ref h28, .int p9, .int p10, .ref h29, .ref h30, .ref h31, .ref h32, .ref h33, .ref h34, .ref h35, .ref h36, .int p11, .ref h37], ia h7 k6 8 (upd (fun _ => 0) 5 1), ia h8 k7 352000 (upd (upd f7 220000 0) 220001 0), ia h11 k10 32000 (upd f10 20000 0), ia h21 k20 11 (fun _ => 0)] H) _ hS
  refine tp_pc (pc' := 191) (by rfl) ?_
  refine lv_iinc (v := 2) (lv' := [(6, .int 2), (5, .int 0), (4, .int 0), (3, .int 0), (2, .int 20000), (0, .ref h0), (1, .int 5)]) hx hb d_Ref_addOutcome_191 hl (k := 0) rfl (by first | rfl | decide) (by decide) rfl ?_
  clear hl ls
  intro ls hl
  refine lv_goto (tgt := 161) hx hb d_Ref_addOutcome_194 (by decide) ?_
  refine tp_pc (pc' := 161) (by rfl) ?_
  refine lv_iload hx hb d_Ref_addOutcome_161 (lv_at hl 0 rfl) ?_
  refine lv_bipush (v := 11) hx hb d_Ref_addOutcome_163 (by decide) ?_
  refine lv_icmp_ge (tgt := 197) hx hb d_Ref_addOutcome_165 (by decide) (fun c_7 => absurd c_7 (by decide)) (fun c_7 => ?_)
  refine tp_pc (pc' := 168) (by rfl) ?_
  refine lv_aload_n hx hb d_Ref_addOutcome_168 rfl (lv_at hl 5 rfl) ?_
  refine va_get (D := (dC, dI)) (ci := 8) (v := .ref h8) (C := R_Ref) (T := F_Ref) (N := 48) hx hb hw i_Ref hown hK hP 0 rfl rfl 9 (by decide) (hw _ m_908) (fun _ h9 => h9) rfl d_Ref_addOutcome_169 ?_
  refine lv_bipush (v := 11) hx hb d_Ref_addOutcome_172 (by decide) ?_
  refine lv_iload_n hx hb d_Ref_addOutcome_174 rfl (lv_at hl 4 rfl) ?_
  refine lv_iload hx hb d_Ref_addOutcome_175 (lv_at hl 1 rfl) ?_
  refine lv_iadd hx hb d_Ref_addOutcome_177 ?_
  refine tp_i (y := 20000) (by first | rfl | decide) ?_
  refine lv_imul hx hb d_Ref_addOutcome_178 ?_
  refine tp_i (y := 220000) (by first | rfl | decide) ?_
  refine lv_iload hx hb d_Ref_addOutcome_179 (lv_at hl 0 rfl) ?_
  refine lv_iadd hx hb d_Ref_addOutcome_181 ?_
  refine tp_i (y := 220002) (by first | rfl | decide) ?_
  refine lv_aload_n hx hb d_Ref_addOutcome_182 rfl (lv_at hl 5 rfl) ?_
  refine va_get (D := (dC, dI)) (ci := 8) (v := .ref h21) (C := R_Ref) (T := F_Ref) (N := 48) hx hb hw i_Ref hown hK hP 0 rfl rfl 28 (by decide) (hw _ m_927) (fun _ h9 => h9) rfl d_Ref_addOutcome_183 ?_
  refine lv_iload hx hb d_Ref_addOutcome_186 (lv_at hl 0 rfl) ?_
  refine va_iald (D := (dC, dI)) hx hb hK hP 4 3 rfl rfl (i := 2) (vp_c (by decide)) d_Ref_addOutcome_188 ?_
  refine tp_i (y := 0) (by first | rfl | decide) ?_
  refine lv_i2s (v := 0) hx hb d_Ref_addOutcome_189 (by decide) ?_
  refine va_sast (D := (dC, dI)) hx hb hK hP (dd_D hD rfl) hS 2 1 rfl rfl (i := 220002) (x := 0) (vp_c (by decide)) d_Ref_addOutcome_190 ?_
  clear hP hS locs H
  intro H locs (hP : va_P (dC, dI) classes [oc h0 8 [.int p1, .int p2, .ref h1, .ref h2, .ref h3, .ref h4, .ref h5, .ref h6, .ref h7, .ref h8, .ref h9, .ref h10, .ref h11, .ref h12, .int p3, .ref h13, .ref h14, .ref h15, .ref h16, .int p4, .int p5, .ref h17, .ref h18, .ref h19, .int p6, .ref h20, .int p7, .int p8, .ref h21, .ref h22, .ref h23, .ref h24, .ref h25, .ref h26, .ref h27, .ref h28, .int p9, .int p10, .ref h29, .ref h30, .ref h31, .ref h32, .ref h33, .ref h34, .ref h35, .ref h36, .int p11, .ref h37], ia h7 k6 8 (upd (fun _ => 0) 5 1), ia h8 k7 352000 (upd (upd (upd f7 220000 0) 220001 0) 220002 0), ia h11 k10 32000 (upd f10 20000 0), ia h21 k20 11 (fun _ => 0)] H) _ hS
  refine tp_pc (pc' := 191) (by rfl) ?_
  refine lv_iinc (v := 3) (lv' := [(6, .int 3), (5, .int 0), (4, .int 0), (3, .int 0), (2, .int 20000), (0, .ref h0), (1, .int 5)]) hx hb d_Ref_addOutcome_191 hl (k := 0) rfl (by first | rfl | decide) (by decide) rfl ?_
  clear hl ls
  intro ls hl
  refine lv_goto (tgt := 161) hx hb d_Ref_addOutcome_194 (by decide) ?_
  refine tp_pc (pc' := 161) (by rfl) ?_
  refine lv_iload hx hb d_Ref_addOutcome_161 (lv_at hl 0 rfl) ?_
  refine lv_bipush (v := 11) hx hb d_Ref_addOutcome_163 (by decide) ?_
  refine lv_icmp_ge (tgt := 197) hx hb d_Ref_addOutcome_165 (by decide) (fun c_8 => absurd c_8 (by decide)) (fun c_8 => ?_)
  refine tp_pc (pc' := 168) (by rfl) ?_
  refine lv_aload_n hx hb d_Ref_addOutcome_168 rfl (lv_at hl 5 rfl) ?_
  refine va_get (D := (dC, dI)) (ci := 8) (v := .ref h8) (C := R_Ref) (T := F_Ref) (N := 48) hx hb hw i_Ref hown hK hP 0 rfl rfl 9 (by decide) (hw _ m_908) (fun _ h9 => h9) rfl d_Ref_addOutcome_169 ?_
  refine lv_bipush (v := 11) hx hb d_Ref_addOutcome_172 (by decide) ?_
  refine lv_iload_n hx hb d_Ref_addOutcome_174 rfl (lv_at hl 4 rfl) ?_
  refine lv_iload hx hb d_Ref_addOutcome_175 (lv_at hl 1 rfl) ?_
  refine lv_iadd hx hb d_Ref_addOutcome_177 ?_
  refine tp_i (y := 20000) (by first | rfl | decide) ?_
  refine lv_imul hx hb d_Ref_addOutcome_178 ?_
  refine tp_i (y := 220000) (by first | rfl | decide) ?_
  refine lv_iload hx hb d_Ref_addOutcome_179 (lv_at hl 0 rfl) ?_
  refine lv_iadd hx hb d_Ref_addOutcome_181 ?_
  refine tp_i (y := 220003) (by first | rfl | decide) ?_
  refine lv_aload_n hx hb d_Ref_addOutcome_182 rfl (lv_at hl 5 rfl) ?_
  refine va_get (D := (dC, dI)) (ci := 8) (v := .ref h21) (C := R_Ref) (T := F_Ref) (N := 48) hx hb hw i_Ref hown hK hP 0 rfl rfl 28 (by decide) (hw _ m_927) (fun _ h9 => h9) rfl d_Ref_addOutcome_183 ?_
  refine lv_iload hx hb d_Ref_addOutcome_186 (lv_at hl 0 rfl) ?_
  refine va_iald (D := (dC, dI)) hx hb hK hP 4 3 rfl rfl (i := 3) (vp_c (by decide)) d_Ref_addOutcome_188 ?_
  refine tp_i (y := 0) (by first | rfl | decide) ?_
  refine lv_i2s (v := 0) hx hb d_Ref_addOutcome_189 (by decide) ?_
  refine va_sast (D := (dC, dI)) hx hb hK hP (dd_D hD rfl) hS 2 1 rfl rfl (i := 220003) (x := 0) (vp_c (by decide)) d_Ref_addOutcome_190 ?_
  clear hP hS locs H
  intro H locs (hP : va_P (dC, dI) classes [oc h0 8 [.int p1, .int p2, .ref h1, .ref h2, .ref h3, .ref h4, .ref h5, .ref h6, .ref h7, .ref h8, .ref h9, .ref h10, .ref h11, .ref h12, .int p3, .ref h13, .ref h14, .ref h15, .ref h16, .int p4, .int p5, .ref h17, .ref h18, .ref h19, .int p6, .ref h20, .int p7, .int p8, .ref h21, .ref h22, .ref h23, .ref h24, .ref h25, .ref h26, .ref h27, .ref h28, .int p9, .int p10, .ref h29, .ref h30, .ref h31, .ref h32, .ref h33, .ref h34, .ref h35, .ref h36, .int p11, .ref h37], ia h7 k6 8 (upd (fun _ => 0) 5 1), ia h8 k7 352000 (upd (upd (upd (upd f7 220000 0) 220001 0) 220002 0) 220003 0), ia h11 k10 32000 (upd f10 20000 0), ia h21 k20 11 (fun _ => 0)] H) _ hS
  refine tp_pc (pc' := 191) (by rfl) ?_
  refine lv_iinc (v := 4) (lv' := [(6, .int 4), (5, .int 0), (4, .int 0), (3, .int 0), (2, .int 20000), (0, .ref h0), (1, .int 5)]) hx hb d_Ref_addOutcome_191 hl (k := 0) rfl (by first | rfl | decide) (by decide) rfl ?_
  clear hl ls
  intro ls hl
  refine lv_goto (tgt := 161) hx hb d_Ref_addOutcome_194 (by decide) ?_
  refine tp_pc (pc' := 161) (by rfl) ?_
  refine lv_iload hx hb d_Ref_addOutcome_161 (lv_at hl 0 rfl) ?_
  refine lv_bipush (v := 11) hx hb d_Ref_addOutcome_163 (by decide) ?_
  refine lv_icmp_ge (tgt := 197) hx hb d_Ref_addOutcome_165 (by decide) (fun c_9 => absurd c_9 (by decide)) (fun c_9 => ?_)
  refine tp_pc (pc' := 168) (by rfl) ?_
  refine lv_aload_n hx hb d_Ref_addOutcome_168 rfl (lv_at hl 5 rfl) ?_
  refine va_get (D := (dC, dI)) (ci := 8) (v := .ref h8) (C := R_Ref) (T := F_Ref) (N := 48) hx hb hw i_Ref hown hK hP 0 rfl rfl 9 (by decide) (hw _ m_908) (fun _ h9 => h9) rfl d_Ref_addOutcome_169 ?_
  refine lv_bipush (v := 11) hx hb d_Ref_addOutcome_172 (by decide) ?_
  refine lv_iload_n hx hb d_Ref_addOutcome_174 rfl (lv_at hl 4 rfl) ?_
  refine lv_iload hx hb d_Ref_addOutcome_175 (lv_at hl 1 rfl) ?_
  refine lv_iadd hx hb d_Ref_addOutcome_177 ?_
  refine tp_i (y := 20000) (by first | rfl | decide) ?_
  refine lv_imul hx hb d_Ref_addOutcome_178 ?_
  refine tp_i (y := 220000) (by first | rfl | decide) ?_
  refine lv_iload hx hb d_Ref_addOutcome_179 (lv_at hl 0 rfl) ?_
  refine lv_iadd hx hb d_Ref_addOutcome_181 ?_
  refine tp_i (y := 220004) (by first | rfl | decide) ?_
  refine lv_aload_n hx hb d_Ref_addOutcome_182 rfl (lv_at hl 5 rfl) ?_
  refine va_get (D := (dC, dI)) (ci := 8) (v := .ref h21) (C := R_Ref) (T := F_Ref) (N := 48) hx hb hw i_Ref hown hK hP 0 rfl rfl 28 (by decide) (hw _ m_927) (fun _ h9 => h9) rfl d_Ref_addOutcome_183 ?_
  refine lv_iload hx hb d_Ref_addOutcome_186 (lv_at hl 0 rfl) ?_
  refine va_iald (D := (dC, dI)) hx hb hK hP 4 3 rfl rfl (i := 4) (vp_c (by decide)) d_Ref_addOutcome_188 ?_
  refine tp_i (y := 0) (by first | rfl | decide) ?_
  refine lv_i2s (v := 0) hx hb d_Ref_addOutcome_189 (by decide) ?_
  refine va_sast (D := (dC, dI)) hx hb hK hP (dd_D hD rfl) hS 2 1 rfl rfl (i := 220004) (x := 0) (vp_c (by decide)) d_Ref_addOutcome_190 ?_
  clear hP hS locs H
  intro H locs (hP : va_P (dC, dI) classes [oc h0 8 [.int p1, .int p2, .ref h1, .ref h2, .ref h3, .ref h4, .ref h5, .ref h6, .ref h7, .ref h8, .ref h9, .ref h10, .ref h11, .ref h12, .int p3, .ref h13, .ref h14, .ref h15, .ref h16, .int p4, .int p5, .ref h17, .ref h18, .ref h19, .int p6, .ref h20, .int p7, .int p8, .ref h21, .ref h22, .ref h23, .ref h24, .ref h25, .ref h26, .ref h27, .ref h28, .int p9, .int p10, .ref h29, .ref h30, .ref h31, .ref h32, .ref h33, .ref h34, .ref h35, .ref h36, .int p11, .ref h37], ia h7 k6 8 (upd (fun _ => 0) 5 1), ia h8 k7 352000 (upd (upd (upd (upd (upd f7 220000 0) 220001 0) 220002 0) 220003 0) 220004 0), ia h11 k10 32000 (upd f10 20000 0), ia h21 k20 11 (fun _ => 0)] H) _ hS
  refine tp_pc (pc' := 191) (by rfl) ?_
  refine lv_iinc (v := 5) (lv' := [(6, .int 5), (5, .int 0), (4, .int 0), (3, .int 0), (2, .int 20000), (0, .ref h0), (1, .int 5)]) hx hb d_Ref_addOutcome_191 hl (k := 0) rfl (by first | rfl | decide) (by decide) rfl ?_
  clear hl ls
  intro ls hl
  refine lv_goto (tgt := 161) hx hb d_Ref_addOutcome_194 (by decide) ?_
  refine tp_pc (pc' := 161) (by rfl) ?_
  refine lv_iload hx hb d_Ref_addOutcome_161 (lv_at hl 0 rfl) ?_
  refine lv_bipush (v := 11) hx hb d_Ref_addOutcome_163 (by decide) ?_
  refine lv_icmp_ge (tgt := 197) hx hb d_Ref_addOutcome_165 (by decide) (fun c_10 => absurd c_10 (by decide)) (fun c_10 => ?_)
  refine tp_pc (pc' := 168) (by rfl) ?_
  refine lv_aload_n hx hb d_Ref_addOutcome_168 rfl (lv_at hl 5 rfl) ?_
  refine va_get (D := (dC, dI)) (ci := 8) (v := .ref h8) (C := R_Ref) (T := F_Ref) (N := 48) hx hb hw i_Ref hown hK hP 0 rfl rfl 9 (by decide) (hw _ m_908) (fun _ h9 => h9) rfl d_Ref_addOutcome_169 ?_
  refine lv_bipush (v := 11) hx hb d_Ref_addOutcome_172 (by decide) ?_
  refine lv_iload_n hx hb d_Ref_addOutcome_174 rfl (lv_at hl 4 rfl) ?_
  refine lv_iload hx hb d_Ref_addOutcome_175 (lv_at hl 1 rfl) ?_
  refine lv_iadd hx hb d_Ref_addOutcome_177 ?_
  refine tp_i (y := 20000) (by first | rfl | decide) ?_
  refine lv_imul hx hb d_Ref_addOutcome_178 ?_
  refine tp_i (y := 220000) (by first | rfl | decide) ?_
  refine lv_iload hx hb d_Ref_addOutcome_179 (lv_at hl 0 rfl) ?_
  refine lv_iadd hx hb d_Ref_addOutcome_181 ?_
  refine tp_i (y := 220005) (by first | rfl | decide) ?_
  refine lv_aload_n hx hb d_Ref_addOutcome_182 rfl (lv_at hl 5 rfl) ?_
  refine va_get (D := (dC, dI)) (ci := 8) (v := .ref h21) (C := R_Ref) (T := F_Ref) (N := 48) hx hb hw i_Ref hown hK hP 0 rfl rfl 28 (by decide) (hw _ m_927) (fun _ h9 => h9) rfl d_Ref_addOutcome_183 ?_
  refine lv_iload hx hb d_Ref_addOutcome_186 (lv_at hl 0 rfl) ?_
  refine va_iald (D := (dC, dI)) hx hb hK hP 4 3 rfl rfl (i := 5) (vp_c (by decide)) d_Ref_addOutcome_188 ?_
  refine tp_i (y := 0) (by first | rfl | decide) ?_
  refine lv_i2s (v := 0) hx hb d_Ref_addOutcome_189 (by decide) ?_
  refine va_sast (D := (dC, dI)) hx hb hK hP (dd_D hD rfl) hS 2 1 rfl rfl (i := 220005) (x := 0) (vp_c (by decide)) d_Ref_addOutcome_190 ?_
  clear hP hS locs H
  intro H locs (hP : va_P (dC, dI) classes [oc h0 8 [.int p1, .int p2, .ref h1, .ref h2, .ref h3, .ref h4, .ref h5, .ref h6, .ref h7, .ref h8, .ref h9, .ref h10, .ref h11, .ref h12, .int p3, .ref h13, .ref h14, .ref h15, .ref h16, .int p4, .int p5, .ref h17, .ref h18, .ref h19, .int p6, .ref h20, .int p7, .int p8, .ref h21, .ref h22, .ref h23, .ref h24, .ref h25, .ref h26, .ref h27, .ref h28, .int p9, .int p10, .ref h29, .ref h30, .ref h31, .ref h32, .ref h33, .ref h34, .ref h35, .ref h36, .int p11, .ref h37], ia h7 k6 8 (upd (fun _ => 0) 5 1), ia h8 k7 352000 (upd (upd (upd (upd (upd (upd f7 220000 0) 220001 0) 220002 0) 220003 0) 220004 0) 220005 0), ia h11 k10 32000 (upd f10 20000 0), ia h21 k20 11 (fun _ => 0)] H) _ hS
  refine tp_pc (pc' := 191) (by rfl) ?_
  refine lv_iinc (v := 6) (lv' := [(6, .int 6), (5, .int 0), (4, .int 0), (3, .int 0), (2, .int 20000), (0, .ref h0), (1, .int 5)]) hx hb d_Ref_addOutcome_191 hl (k := 0) rfl (by first | rfl | decide) (by decide) rfl ?_
  clear hl ls
  intro ls hl
  refine lv_goto (tgt := 161) hx hb d_Ref_addOutcome_194 (by decide) ?_
  refine tp_pc (pc' := 161) (by rfl) ?_
  refine lv_iload hx hb d_Ref_addOutcome_161 (lv_at hl 0 rfl) ?_
  refine lv_bipush (v := 11) hx hb d_Ref_addOutcome_163 (by decide) ?_
  refine lv_icmp_ge (tgt := 197) hx hb d_Ref_addOutcome_165 (by decide) (fun c_11 => absurd c_11 (by decide)) (fun c_11 => ?_)
  refine tp_pc (pc' := 168) (by rfl) ?_
  refine lv_aload_n hx hb d_Ref_addOutcome_168 rfl (lv_at hl 5 rfl) ?_
  refine va_get (D := (dC, dI)) (ci := 8) (v := .ref h8) (C := R_Ref) (T := F_Ref) (N := 48) hx hb hw i_Ref hown hK hP 0 rfl rfl 9 (by decide) (hw _ m_908) (fun _ h9 => h9) rfl d_Ref_addOutcome_169 ?_
  refine lv_bipush (v := 11) hx hb d_Ref_addOutcome_172 (by decide) ?_
  refine lv_iload_n hx hb d_Ref_addOutcome_174 rfl (lv_at hl 4 rfl) ?_
  refine lv_iload hx hb d_Ref_addOutcome_175 (lv_at hl 1 rfl) ?_
  refine lv_iadd hx hb d_Ref_addOutcome_177 ?_
  refine tp_i (y := 20000) (by first | rfl | decide) ?_
  refine lv_imul hx hb d_Ref_addOutcome_178 ?_
  refine tp_i (y := 220000) (by first | rfl | decide) ?_
  refine lv_iload hx hb d_Ref_addOutcome_179 (lv_at hl 0 rfl) ?_
  refine lv_iadd hx hb d_Ref_addOutcome_181 ?_
  refine tp_i (y := 220006) (by first | rfl | decide) ?_
  refine lv_aload_n hx hb d_Ref_addOutcome_182 rfl (lv_at hl 5 rfl) ?_
  refine va_get (D := (dC, dI)) (ci := 8) (v := .ref h21) (C := R_Ref) (T := F_Ref) (N := 48) hx hb hw i_Ref hown hK hP 0 rfl rfl 28 (by decide) (hw _ m_927) (fun _ h9 => h9) rfl d_Ref_addOutcome_183 ?_
  refine lv_iload hx hb d_Ref_addOutcome_186 (lv_at hl 0 rfl) ?_
  refine va_iald (D := (dC, dI)) hx hb hK hP 4 3 rfl rfl (i := 6) (vp_c (by decide)) d_Ref_addOutcome_188 ?_
  refine tp_i (y := 0) (by first | rfl | decide) ?_
  refine lv_i2s (v := 0) hx hb d_Ref_addOutcome_189 (by decide) ?_
  refine va_sast (D := (dC, dI)) hx hb hK hP (dd_D hD rfl) hS 2 1 rfl rfl (i := 220006) (x := 0) (vp_c (by decide)) d_Ref_addOutcome_190 ?_
  clear hP hS locs H
  intro H locs (hP : va_P (dC, dI) classes [oc h0 8 [.int p1, .int p2, .ref h1, .ref h2, .ref h3, .ref h4, .ref h5, .ref h6, .ref h7, .ref h8, .ref h9, .ref h10, .ref h11, .ref h12, .int p3, .ref h13, .ref h14, .ref h15, .ref h16, .int p4, .int p5, .ref h17, .ref h18, .ref h19, .int p6, .ref h20, .int p7, .int p8, .ref h21, .ref h22, .ref h23, .ref h24, .ref h25, .ref h26, .ref h27, .ref h28, .int p9, .int p10, .ref h29, .ref h30, .ref h31, .ref h32, .ref h33, .ref h34, .ref h35, .ref h36, .int p11, .ref h37], ia h7 k6 8 (upd (fun _ => 0) 5 1), ia h8 k7 352000 (upd (upd (upd (upd (upd (upd (upd f7 220000 0) 220001 0) 220002 0) 220003 0) 220004 0) 220005 0) 220006 0), ia h11 k10 32000 (upd f10 20000 0), ia h21 k20 11 (fun _ => 0)] H) _ hS
  refine tp_pc (pc' := 191) (by rfl) ?_
  refine lv_iinc (v := 7) (lv' := [(6, .int 7), (5, .int 0), (4, .int 0), (3, .int 0), (2, .int 20000), (0, .ref h0), (1, .int 5)]) hx hb d_Ref_addOutcome_191 hl (k := 0) rfl (by first | rfl | decide) (by decide) rfl ?_
  clear hl ls
  intro ls hl
  refine lv_goto (tgt := 161) hx hb d_Ref_addOutcome_194 (by decide) ?_
  refine tp_pc (pc' := 161) (by rfl) ?_
  refine lv_iload hx hb d_Ref_addOutcome_161 (lv_at hl 0 rfl) ?_
  refine lv_bipush (v := 11) hx hb d_Ref_addOutcome_163 (by decide) ?_
  refine lv_icmp_ge (tgt := 197) hx hb d_Ref_addOutcome_165 (by decide) (fun c_12 => absurd c_12 (by decide)) (fun c_12 => ?_)
  refine tp_pc (pc' := 168) (by rfl) ?_
  refine lv_aload_n hx hb d_Ref_addOutcome_168 rfl (lv_at hl 5 rfl) ?_
  refine va_get (D := (dC, dI)) (ci := 8) (v := .ref h8) (C := R_Ref) (T := F_Ref) (N := 48) hx hb hw i_Ref hown hK hP 0 rfl rfl 9 (by decide) (hw _ m_908) (fun _ h9 => h9) rfl d_Ref_addOutcome_169 ?_
  refine lv_bipush (v := 11) hx hb d_Ref_addOutcome_172 (by decide) ?_
  refine lv_iload_n hx hb d_Ref_addOutcome_174 rfl (lv_at hl 4 rfl) ?_
  refine lv_iload hx hb d_Ref_addOutcome_175 (lv_at hl 1 rfl) ?_
  refine lv_iadd hx hb d_Ref_addOutcome_177 ?_
  refine tp_i (y := 20000) (by first | rfl | decide) ?_
  refine lv_imul hx hb d_Ref_addOutcome_178 ?_
  refine tp_i (y := 220000) (by first | rfl | decide) ?_
  refine lv_iload hx hb d_Ref_addOutcome_179 (lv_at hl 0 rfl) ?_
  refine lv_iadd hx hb d_Ref_addOutcome_181 ?_
  refine tp_i (y := 220007) (by first | rfl | decide) ?_
  refine lv_aload_n hx hb d_Ref_addOutcome_182 rfl (lv_at hl 5 rfl) ?_
  refine va_get (D := (dC, dI)) (ci := 8) (v := .ref h21) (C := R_Ref) (T := F_Ref) (N := 48) hx hb hw i_Ref hown hK hP 0 rfl rfl 28 (by decide) (hw _ m_927) (fun _ h9 => h9) rfl d_Ref_addOutcome_183 ?_
  refine lv_iload hx hb d_Ref_addOutcome_186 (lv_at hl 0 rfl) ?_
  refine va_iald (D := (dC, dI)) hx hb hK hP 4 3 rfl rfl (i := 7) (vp_c (by decide)) d_Ref_addOutcome_188 ?_
  refine tp_i (y := 0) (by first | rfl | decide) ?_
  refine lv_i2s (v := 0) hx hb d_Ref_addOutcome_189 (by decide) ?_
  refine va_sast (D := (dC, dI)) hx hb hK hP (dd_D hD rfl) hS 2 1 rfl rfl (i := 220007) (x := 0) (vp_c (by decide)) d_Ref_addOutcome_190 ?_
  clear hP hS locs H
  intro H locs (hP : va_P (dC, dI) classes [oc h0 8 [.int p1, .int p2, .ref h1, .ref h2, .ref h3, .ref h4, .ref h5, .ref h6, .ref h7, .ref h8, .ref h9, .ref h10, .ref h11, .ref h12, .int p3, .ref h13, .ref h14, .ref h15, .ref h16, .int p4, .int p5, .ref h17, .ref h18, .ref h19, .int p6, .ref h20, .int p7, .int p8, .ref h21, .ref h22, .ref h23, .ref h24, .ref h25, .ref h26, .ref h27, .ref h28, .int p9, .int p10, .ref h29, .ref h30, .ref h31, .ref h32, .ref h33, .ref h34, .ref h35, .ref h36, .int p11, .ref h37], ia h7 k6 8 (upd (fun _ => 0) 5 1), ia h8 k7 352000 (upd (upd (upd (upd (upd (upd (upd (upd f7 220000 0) 220001 0) 220002 0) 220003 0) 220004 0) 220005 0) 220006 0) 220007 0), ia h11 k10 32000 (upd f10 20000 0), ia h21 k20 11 (fun _ => 0)] H) _ hS
  refine tp_pc (pc' := 191) (by rfl) ?_
  refine lv_iinc (v := 8) (lv' := [(6, .int 8), (5, .int 0), (4, .int 0), (3, .int 0), (2, .int 20000), (0, .ref h0), (1, .int 5)]) hx hb d_Ref_addOutcome_191 hl (k := 0) rfl (by first | rfl | decide) (by decide) rfl ?_
  clear hl ls
  intro ls hl
  refine lv_goto (tgt := 161) hx hb d_Ref_addOutcome_194 (by decide) ?_
  refine tp_pc (pc' := 161) (by rfl) ?_
  refine lv_iload hx hb d_Ref_addOutcome_161 (lv_at hl 0 rfl) ?_
  refine lv_bipush (v := 11) hx hb d_Ref_addOutcome_163 (by decide) ?_
  refine lv_icmp_ge (tgt := 197) hx hb d_Ref_addOutcome_165 (by decide) (fun c_13 => absurd c_13 (by decide)) (fun c_13 => ?_)
  refine tp_pc (pc' := 168) (by rfl) ?_
  refine lv_aload_n hx hb d_Ref_addOutcome_168 rfl (lv_at hl 5 rfl) ?_
  refine va_get (D := (dC, dI)) (ci := 8) (v := .ref h8) (C := R_Ref) (T := F_Ref) (N := 48) hx hb hw i_Ref hown hK hP 0 rfl rfl 9 (by decide) (hw _ m_908) (fun _ h9 => h9) rfl d_Ref_addOutcome_169 ?_
  refine lv_bipush (v := 11) hx hb d_Ref_addOutcome_172 (by decide) ?_
  refine lv_iload_n hx hb d_Ref_addOutcome_174 rfl (lv_at hl 4 rfl) ?_
  refine lv_iload hx hb d_Ref_addOutcome_175 (lv_at hl 1 rfl) ?_
  refine lv_iadd hx hb d_Ref_addOutcome_177 ?_
  refine tp_i (y := 20000) (by first | rfl | decide) ?_
  refine lv_imul hx hb d_Ref_addOutcome_178 ?_
  refine tp_i (y := 220000) (by first | rfl | decide) ?_
  refine lv_iload hx hb d_Ref_addOutcome_179 (lv_at hl 0 rfl) ?_
  refine lv_iadd hx hb d_Ref_addOutcome_181 ?_
  refine tp_i (y := 220008) (by first | rfl | decide) ?_
  refine lv_aload_n hx hb d_Ref_addOutcome_182 rfl (lv_at hl 5 rfl) ?_
  refine va_get (D := (dC, dI)) (ci := 8) (v := .ref h21) (C := R_Ref) (T := F_Ref) (N := 48) hx hb hw i_Ref hown hK hP 0 rfl rfl 28 (by decide) (hw _ m_927) (fun _ h9 => h9) rfl d_Ref_addOutcome_183 ?_
  refine lv_iload hx hb d_Ref_addOutcome_186 (lv_at hl 0 rfl) ?_
  refine va_iald (D := (dC, dI)) hx hb hK hP 4 3 rfl rfl (i := 8) (vp_c (by decide)) d_Ref_addOutcome_188 ?_
  refine tp_i (y := 0) (by first | rfl | decide) ?_
  refine lv_i2s (v := 0) hx hb d_Ref_addOutcome_189 (by decide) ?_
  refine va_sast (D := (dC, dI)) hx hb hK hP (dd_D hD rfl) hS 2 1 rfl rfl (i := 220008) (x := 0) (vp_c (by decide)) d_Ref_addOutcome_190 ?_
  clear hP hS locs H
  intro H locs (hP : va_P (dC, dI) classes [oc h0 8 [.int p1, .int p2, .ref h1, .ref h2, .ref h3, .ref h4, .ref h5, .ref h6, .ref h7, .ref h8, .ref h9, .ref h10, .ref h11, .ref h12, .int p3, .ref h13, .ref h14, .ref h15, .ref h16, .int p4, .int p5, .ref h17, .ref h18, .ref h19, .int p6, .ref h20, .int p7, .int p8, .ref h21, .ref h22, .ref h23, .ref h24, .ref h25, .ref h26, .ref h27, .ref h28, .int p9, .int p10, .ref h29, .ref h30, .ref h31, .ref h32, .ref h33, .ref h34, .ref h35, .ref h36, .int p11, .ref h37], ia h7 k6 8 (upd (fun _ => 0) 5 1), ia h8 k7 352000 (upd (upd (upd (upd (upd (upd (upd (upd (upd f7 220000 0) 220001 0) 220002 0) 220003 0) 220004 0) 220005 0) 220006 0) 220007 0) 220008 0), ia h11 k10 32000 (upd f10 20000 0), ia h21 k20 11 (fun _ => 0)] H) _ hS
  refine tp_pc (pc' := 191) (by rfl) ?_
  refine lv_iinc (v := 9) (lv' := [(6, .int 9), (5, .int 0), (4, .int 0), (3, .int 0), (2, .int 20000), (0, .ref h0), (1, .int 5)]) hx hb d_Ref_addOutcome_191 hl (k := 0) rfl (by first | rfl | decide) (by decide) rfl ?_
  clear hl ls
  intro ls hl
  refine lv_goto (tgt := 161) hx hb d_Ref_addOutcome_194 (by decide) ?_
  refine tp_pc (pc' := 161) (by rfl) ?_
  refine lv_iload hx hb d_Ref_addOutcome_161 (lv_at hl 0 rfl) ?_
  refine lv_bipush (v := 11) hx hb d_Ref_addOutcome_163 (by decide) ?_
  refine lv_icmp_ge (tgt := 197) hx hb d_Ref_addOutcome_165 (by decide) (fun c_14 => absurd c_14 (by decide)) (fun c_14 => ?_)
  refine tp_pc (pc' := 168) (by rfl) ?_
  refine lv_aload_n hx hb d_Ref_addOutcome_168 rfl (lv_at hl 5 rfl) ?_
  refine va_get (D := (dC, dI)) (ci := 8) (v := .ref h8) (C := R_Ref) (T := F_Ref) (N := 48) hx hb hw i_Ref hown hK hP 0 rfl rfl 9 (by decide) (hw _ m_908) (fun _ h9 => h9) rfl d_Ref_addOutcome_169 ?_
  refine lv_bipush (v := 11) hx hb d_Ref_addOutcome_172 (by decide) ?_
  refine lv_iload_n hx hb d_Ref_addOutcome_174 rfl (lv_at hl 4 rfl) ?_
  refine lv_iload hx hb d_Ref_addOutcome_175 (lv_at hl 1 rfl) ?_
  refine lv_iadd hx hb d_Ref_addOutcome_177 ?_
  refine tp_i (y := 20000) (by first | rfl | decide) ?_
  refine lv_imul hx hb d_Ref_addOutcome_178 ?_
  refine tp_i (y := 220000) (by first | rfl | decide) ?_
  refine lv_iload hx hb d_Ref_addOutcome_179 (lv_at hl 0 rfl) ?_
  refine lv_iadd hx hb d_Ref_addOutcome_181 ?_
  refine tp_i (y := 220009) (by first | rfl | decide) ?_
  refine lv_aload_n hx hb d_Ref_addOutcome_182 rfl (lv_at hl 5 rfl) ?_
  refine va_get (D := (dC, dI)) (ci := 8) (v := .ref h21) (C := R_Ref) (T := F_Ref) (N := 48) hx hb hw i_Ref hown hK hP 0 rfl rfl 28 (by decide) (hw _ m_927) (fun _ h9 => h9) rfl d_Ref_addOutcome_183 ?_
  refine lv_iload hx hb d_Ref_addOutcome_186 (lv_at hl 0 rfl) ?_
  refine va_iald (D := (dC, dI)) hx hb hK hP 4 3 rfl rfl (i := 9) (vp_c (by decide)) d_Ref_addOutcome_188 ?_
  refine tp_i (y := 0) (by first | rfl | decide) ?_
  refine lv_i2s (v := 0) hx hb d_Ref_addOutcome_189 (by decide) ?_
  refine va_sast (D := (dC, dI)) hx hb hK hP (dd_D hD rfl) hS 2 1 rfl rfl (i := 220009) (x := 0) (vp_c (by decide)) d_Ref_addOutcome_190 ?_
  clear hP hS locs H
  intro H locs (hP : va_P (dC, dI) classes [oc h0 8 [.int p1, .int p2, .ref h1, .ref h2, .ref h3, .ref h4, .ref h5, .ref h6, .ref h7, .ref h8, .ref h9, .ref h10, .ref h11, .ref h12, .int p3, .ref h13, .ref h14, .ref h15, .ref h16, .int p4, .int p5, .ref h17, .ref h18, .ref h19, .int p6, .ref h20, .int p7, .int p8, .ref h21, .ref h22, .ref h23, .ref h24, .ref h25, .ref h26, .ref h27, .ref h28, .int p9, .int p10, .ref h29, .ref h30, .ref h31, .ref h32, .ref h33, .ref h34, .ref h35, .ref h36, .int p11, .ref h37], ia h7 k6 8 (upd (fun _ => 0) 5 1), ia h8 k7 352000 (upd (upd (upd (upd (upd (upd (upd (upd (upd (upd f7 220000 0) 220001 0) 220002 0) 220003 0) 220004 0) 220005 0) 220006 0) 220007 0) 220008 0) 220009 0), ia h11 k10 32000 (upd f10 20000 0), ia h21 k20 11 (fun _ => 0)] H) _ hS
  refine tp_pc (pc' := 191) (by rfl) ?_
  refine lv_iinc (v := 10) (lv' := [(6, .int 10), (5, .int 0), (4, .int 0), (3, .int 0), (2, .int 20000), (0, .ref h0), (1, .int 5)]) hx hb d_Ref_addOutcome_191 hl (k := 0) rfl (by first | rfl | decide) (by decide) rfl ?_
  clear hl ls
  intro ls hl
  refine lv_goto (tgt := 161) hx hb d_Ref_addOutcome_194 (by decide) ?_
  refine tp_pc (pc' := 161) (by rfl) ?_
  refine lv_iload hx hb d_Ref_addOutcome_161 (lv_at hl 0 rfl) ?_
  refine lv_bipush (v := 11) hx hb d_Ref_addOutcome_163 (by decide) ?_
  refine lv_icmp_ge (tgt := 197) hx hb d_Ref_addOutcome_165 (by decide) (fun c_15 => absurd c_15 (by decide)) (fun c_15 => ?_)
  refine tp_pc (pc' := 168) (by rfl) ?_
  refine lv_aload_n hx hb d_Ref_addOutcome_168 rfl (lv_at hl 5 rfl) ?_
  refine va_get (D := (dC, dI)) (ci := 8) (v := .ref h8) (C := R_Ref) (T := F_Ref) (N := 48) hx hb hw i_Ref hown hK hP 0 rfl rfl 9 (by decide) (hw _ m_908) (fun _ h9 => h9) rfl d_Ref_addOutcome_169 ?_
  refine lv_bipush (v := 11) hx hb d_Ref_addOutcome_172 (by decide) ?_
  refine lv_iload_n hx hb d_Ref_addOutcome_174 rfl (lv_at hl 4 rfl) ?_
  refine lv_iload hx hb d_Ref_addOutcome_175 (lv_at hl 1 rfl) ?_
  refine lv_iadd hx hb d_Ref_addOutcome_177 ?_
  refine tp_i (y := 20000) (by first | rfl | decide) ?_
  refine lv_imul hx hb d_Ref_addOutcome_178 ?_
  refine tp_i (y := 220000) (by first | rfl | decide) ?_
  refine lv_iload hx hb d_Ref_addOutcome_179 (lv_at hl 0 rfl) ?_
  refine lv_iadd hx hb d_Ref_addOutcome_181 ?_
  refine tp_i (y := 220010) (by first | rfl | decide) ?_
  refine lv_aload_n hx hb d_Ref_addOutcome_182 rfl (lv_at hl 5 rfl) ?_
  refine va_get (D := (dC, dI)) (ci := 8) (v := .ref h21) (C := R_Ref) (T := F_Ref) (N := 48) hx hb hw i_Ref hown hK hP 0 rfl rfl 28 (by decide) (hw _ m_927) (fun _ h9 => h9) rfl d_Ref_addOutcome_183 ?_
  refine lv_iload hx hb d_Ref_addOutcome_186 (lv_at hl 0 rfl) ?_
  refine va_iald (D := (dC, dI)) hx hb hK hP 4 3 rfl rfl (i := 10) (vp_c (by decide)) d_Ref_addOutcome_188 ?_
  refine tp_i (y := 0) (by first | rfl | decide) ?_
  refine lv_i2s (v := 0) hx hb d_Ref_addOutcome_189 (by decide) ?_
  refine va_sast (D := (dC, dI)) hx hb hK hP (dd_D hD rfl) hS 2 1 rfl rfl (i := 220010) (x := 0) (vp_c (by decide)) d_Ref_addOutcome_190 ?_
  clear hP hS locs H
  intro H locs (hP : va_P (dC, dI) classes [oc h0 8 [.int p1, .int p2, .ref h1, .ref h2, .ref h3, .ref h4, .ref h5, .ref h6, .ref h7, .ref h8, .ref h9, .ref h10, .ref h11, .ref h12, .int p3, .ref h13, .ref h14, .ref h15, .ref h16, .int p4, .int p5, .ref h17, .ref h18, .ref h19, .int p6, .ref h20, .int p7, .int p8, .ref h21, .ref h22, .ref h23, .ref h24, .ref h25, .ref h26, .ref h27, .ref h28, .int p9, .int p10, .ref h29, .ref h30, .ref h31, .ref h32, .ref h33, .ref h34, .ref h35, .ref h36, .int p11, .ref h37], ia h7 k6 8 (upd (fun _ => 0) 5 1), ia h8 k7 352000 (upd (upd (upd (upd (upd (upd (upd (upd (upd (upd (upd f7 220000 0) 220001 0) 220002 0) 220003 0) 220004 0) 220005 0) 220006 0) 220007 0) 220008 0) 220009 0) 220010 0), ia h11 k10 32000 (upd f10 20000 0), ia h21 k20 11 (fun _ => 0)] H) _ hS
  refine tp_pc (pc' := 191) (by rfl) ?_
  refine lv_iinc (v := 11) (lv' := [(6, .int 11), (5, .int 0), (4, .int 0), (3, .int 0), (2, .int 20000), (0, .ref h0), (1, .int 5)]) hx hb d_Ref_addOutcome_191 hl (k := 0) rfl (by first | rfl | decide) (by decide) rfl ?_
  clear hl ls
  intro ls hl
  refine lv_goto (tgt := 161) hx hb d_Ref_addOutcome_194 (by decide) ?_
  refine tp_pc (pc' := 161) (by rfl) ?_
  refine lv_iload hx hb d_Ref_addOutcome_161 (lv_at hl 0 rfl) ?_
  refine lv_bipush (v := 11) hx hb d_Ref_addOutcome_163 (by decide) ?_
  refine lv_icmp_ge (tgt := 197) hx hb d_Ref_addOutcome_165 (by decide) (fun c_16 => ?_) (fun c_16 => absurd c_16 (by decide))
  refine tp_pc (pc' := 197) (by rfl) ?_
  refine lv_iload hx hb d_Ref_addOutcome_197 (lv_at hl 1 rfl) ?_
  obtain ⟨hP9, hD9, -⟩ := cut3 (wc := [oc h0 8 [.int p1, .int p2, .ref h1, .ref h2, .ref h3, .ref h4, .ref h5, .ref h6, .ref h7, .ref h8, .ref h9, .ref h10, .ref h11, .ref h12, .int p3, .ref h13, .ref h14, .ref h15, .ref h16, .int p4, .int p5, .ref h17, .ref h18, .ref h19, .int p6, .ref h20, .int p7, .int p8, .ref h21, .ref h22, .ref h23, .ref h24, .ref h25, .ref h26, .ref h27, .ref h28, .int p9, .int p10, .ref h29, .ref h30, .ref h31, .ref h32, .ref h33, .ref h34, .ref h35, .ref h36, .int p11, .ref h37], ia h7 k6 8 (upd (fun _ => 0) 5 1), ia h8 k7 352000 (upd (upd (upd (upd (upd (upd (upd (upd (upd (upd (upd f7 220000 0) 220001 0) 220002 0) 220003 0) 220004 0) 220005 0) 220006 0) 220007 0) 220008 0) 220009 0) 220010 0), ia h11 k10 32000 (upd f10 20000 0), ia h21 k20 11 (fun _ => 0)]) hP hD rfl hS hA [0, 1, 2, 3, 4] (by decide +kernel) rfl
  have hK9 := hK.sub (tys' := []) [] rfl
  refine W.widen (k := 0) (n := 0) (by exact Nat.le_of_ble_eq_true rfl) (by exact Nat.le_of_ble_eq_true rfl) ?_
  exact W.iret (v := 0) hx hb hr (fun t ht hW => ⟨⟨0, (), rfl, rfl, by rw [ht]; exact hP9, va_K.moved hW.alike hK9, hD9⟩, hS.F ht⟩) hS.2.2 d_Ref_addOutcome_199
set_option maxHeartbeats 4000000 in
set_option maxRecDepth 100000 in
theorem c_Ref_whole_v2 (l : Launch) (dC : Nat → ClassId) (dI : Nat → Nat → Nat) (h0 : Nat) (p1 : Int32) (h1 : Nat) (h2 : Nat) (h3 : Nat) (h4 : Nat) (h5 : Nat) (h6 : Nat) (h7 : Nat) (h8 : Nat) (h9 : Nat) (h10 : Nat) (h11 : Nat) (h12 : Nat) (p2 : Int32) (h13 : Nat) (h14 : Nat) (h15 : Nat) (h16 : Nat) (p3 : Int32) (p4 : Int32) (h17 : Nat) (h18 : Nat) (h19 : Nat) (p5 : Int32) (h20 : Nat) (p6 : Int32) (p7 : Int32) (h21 : Nat) (h22 : Nat) (h23 : Nat) (h24 : Nat) (h25 : Nat) (h26 : Nat) (h27 : Nat) (h28 : Nat) (h29 : Nat) (h30 : Nat) (h31 : Nat) (h32 : Nat) (h33 : Nat) (h34 : Nat) (h35 : Nat) (h36 : Nat) (p10 : Int32) (h37 : Nat) (k6 : ClassId) (k7 : ClassId) (f7 : Nat → Int32) (k10 : ClassId) (f10 : Nat → Int32) (k11 : ClassId) (f11 : Nat → Int32) (k20 : ClassId) (k26 : ClassId) (k29 : ClassId) (sz : Nat) : Met l y_Ref_whole w_Ref_whole ({ frames := 2, cells := 0, slots := 0, locals := 46 }) (va_Pc [.ref h0] (fun U => U.heap.size = sz ∧ va_P (dC, dI) classes [oc h0 8 [.int 0, .int p1, .ref h1, .ref h2, .ref h3, .ref h4, .ref h5, .ref h6, .ref h7, .ref h8, .ref h9, .ref h10, .ref h11, .ref h12, .int p2, .ref h13, .ref h14, .ref h15, .ref h16, .int p3, .int p4, .ref h17, .ref h18, .ref h19, .int p5, .ref h20, .int p6, .int p7, .ref h21, .ref h22, .ref h23, .ref h24, .ref h25, .ref h26, .ref h27, .ref h28, .int 0, .int 1, .ref h29, .ref h30, .ref h31, .ref h32, .ref h33, .ref h34, .ref h35, .ref h36, .int p10, .ref h37], ia h7 k6 8 (fun _ => 0), ia h8 k7 352000 f7, ia h11 k10 32000 f10, ia h12 k11 4 f11, ia h21 k20 11 (fun _ => 0), ia h27 k26 8 (upd (upd (upd (upd (upd (upd (upd (upd (fun _ => 0) 0 0) 1 0) 2 0) 3 0) 4 0) 5 0) 6 0) 7 0), ia h30 k29 4 (fun _ => 0)] U.heap ∧ va_K (dC, dI) classes [(k6, .int), (k7, .short), (k10, .int), (k11, .int), (k20, .int), (k26, .int), (k29, .int)] U ∧ va_D (fun _ => True) [oc h0 8 [.int 0, .int p1, .ref h1, .ref h2, .ref h3, .ref h4, .ref h5, .ref h6, .ref h7, .ref h8, .ref h9, .ref h10, .ref h11, .ref h12, .int p2, .ref h13, .ref h14, .ref h15, .ref h16, .int p3, .int p4, .ref h17, .ref h18, .ref h19, .int p5, .ref h20, .int p6, .int p7, .ref h21, .ref h22, .ref h23, .ref h24, .ref h25, .ref h26, .ref h27, .ref h28, .int 0, .int 1, .ref h29, .ref h30, .ref h31, .ref h32, .ref h33, .ref h34, .ref h35, .ref h36, .int p10, .ref h37], ia h7 k6 8 (fun _ => 0), ia h8 k7 352000 f7, ia h11 k10 32000 f10, ia h12 k11 4 f11, ia h21 k20 11 (fun _ => 0), ia h27 k26 8 (upd (upd (upd (upd (upd (upd (upd (upd (fun _ => 0) 0 0) 1 0) 2 0) 3 0) 4 0) 5 0) 6 0) 7 0), ia h30 k29 4 (fun _ => 0)] ∧ nw U)) (va_Qv (fun _ : Unit => True) (fun _ t => va_P (dC, dI) classes [oc h0 8 [.int 0, .int p1, .ref h1, .ref h2, .ref h3, .ref h4, .ref h5, .ref h6, .ref h7, .ref h8, .ref h9, .ref h10, .ref h11, .ref h12, .int p2, .ref h13, .ref h14, .ref h15, .ref h16, .int p3, .int p4, .ref h17, .ref h18, .ref h19, .int p5, .ref h20, .int p6, .int p7, .ref h21, .ref h22, .ref h23, .ref h24, .ref h25, .ref h26, .ref h27, .ref h28, .int 0, .int 1, .ref h29, .ref h30, .ref h31, .ref h32, .ref h33, .ref h34, .ref h35, .ref h36, .int 0, .ref h37], ia h7 k6 8 (upd (fun _ => 0) 5 1), ia h8 k7 352000 (upd (upd (upd (upd (upd (upd (upd (upd (upd (upd (upd f7 220000 0) 220001 0) 220002 0) 220003 0) 220004 0) 220005 0) 220006 0) 220007 0) 220008 0) 220009 0) 220010 0), ia h11 k10 32000 (upd f10 20000 0), ia h12 k11 4 (upd f11 1 ((f11 1) + 1)), ia h21 k20 11 (fun _ => 0), ia h27 k26 8 (upd (upd (upd (upd (upd (upd (upd (upd (fun _ => 0) 0 0) 1 0) 2 0) 3 0) 4 0) 5 0) 6 0) 7 0), ia h30 k29 4 (fun _ => 0)] t.heap ∧ va_K (dC, dI) classes [] t ∧ va_D (va_A [oc h0 8 [.int 0, .int p1, .ref h1, .ref h2, .ref h3, .ref h4, .ref h5, .ref h6, .ref h7, .ref h8, .ref h9, .ref h10, .ref h11, .ref h12, .int p2, .ref h13, .ref h14, .ref h15, .ref h16, .int p3, .int p4, .ref h17, .ref h18, .ref h19, .int p5, .ref h20, .int p6, .int p7, .ref h21, .ref h22, .ref h23, .ref h24, .ref h25, .ref h26, .ref h27, .ref h28, .int 0, .int 1, .ref h29, .ref h30, .ref h31, .ref h32, .ref h33, .ref h34, .ref h35, .ref h36, .int p10, .ref h37], ia h7 k6 8 (fun _ => 0), ia h8 k7 352000 f7, ia h11 k10 32000 f10, ia h12 k11 4 f11, ia h21 k20 11 (fun _ => 0), ia h27 k26 8 (upd (upd (upd (upd (upd (upd (upd (upd (fun _ => 0) 0 0) 1 0) 2 0) 3 0) 4 0) 5 0) 6 0) 7 0), ia h30 k29 4 (fun _ => 0)] sz) [oc h0 8 [.int 0, .int p1, .ref h1, .ref h2, .ref h3, .ref h4, .ref h5, .ref h6, .ref h7, .ref h8, .ref h9, .ref h10, .ref h11, .ref h12, .int p2, .ref h13, .ref h14, .ref h15, .ref h16, .int p3, .int p4, .ref h17, .ref h18, .ref h19, .int p5, .ref h20, .int p6, .int p7, .ref h21, .ref h22, .ref h23, .ref h24, .ref h25, .ref h26, .ref h27, .ref h28, .int 0, .int 1, .ref h29, .ref h30, .ref h31, .ref h32, .ref h33, .ref h34, .ref h35, .ref h36, .int 0, .ref h37], ia h7 k6 8 (upd (fun _ => 0) 5 1), ia h8 k7 352000 (upd (upd (upd (upd (upd (upd (upd (upd (upd (upd (upd f7 220000 0) 220001 0) 220002 0) 220003 0) 220004 0) 220005 0) 220006 0) 220007 0) 220008 0) 220009 0) 220010 0), ia h11 k10 32000 (upd f10 20000 0), ia h12 k11 4 (upd f11 1 ((f11 1) + 1)), ia h21 k20 11 (fun _ => 0), ia h27 k26 8 (upd (upd (upd (upd (upd (upd (upd (upd (fun _ => 0) 0 0) 1 0) 2 0) 3 0) 4 0) 5 0) 6 0) 7 0), ia h30 k29 4 (fun _ => 0)]) (va_A [oc h0 8 [.int 0, .int p1, .ref h1, .ref h2, .ref h3, .ref h4, .ref h5, .ref h6, .ref h7, .ref h8, .ref h9, .ref h10, .ref h11, .ref h12, .int p2, .ref h13, .ref h14, .ref h15, .ref h16, .int p3, .int p4, .ref h17, .ref h18, .ref h19, .int p5, .ref h20, .int p6, .int p7, .ref h21, .ref h22, .ref h23, .ref h24, .ref h25, .ref h26, .ref h27, .ref h28, .int 0, .int 1, .ref h29, .ref h30, .ref h31, .ref h32, .ref h33, .ref h34, .ref h35, .ref h36, .int p10, .ref h37], ia h7 k6 8 (fun _ => 0), ia h8 k7 352000 f7, ia h11 k10 32000 f10, ia h12 k11 4 f11, ia h21 k20 11 (fun _ => 0), ia h27 k26 8 (upd (upd (upd (upd (upd (upd (upd (upd (fun _ => 0) 0 0) 1 0) 2 0) 3 0) 4 0) 5 0) 6 0) 7 0), ia h30 k29 4 (fun _ => 0)] sz)) 0 0 (va_A [oc h0 8 [.int 0, .int p1, .ref h1, .ref h2, .ref h3, .ref h4, .ref h5, .ref h6, .ref h7, .ref h8, .ref h9, .ref h10, .ref h11, .ref h12, .int p2, .ref h13, .ref h14, .ref h15, .ref h16, .int p3, .int p4, .ref h17, .ref h18, .ref h19, .int p5, .ref h20, .int p6, .int p7, .ref h21, .ref h22, .ref h23, .ref h24, .ref h25, .ref h26, .ref h27, .ref h28, .int 0, .int 1, .ref h29, .ref h30, .ref h31, .ref h32, .ref h33, .ref h34, .ref h35, .ref h36, .int p10, .ref h37], ia h7 k6 8 (fun _ => 0), ia h8 k7 352000 f7, ia h11 k10 32000 f10, ia h12 k11 4 f11, ia h21 k20 11 (fun _ => 0), ia h27 k26 8 (upd (upd (upd (upd (upd (upd (upd (upd (fun _ => 0) 0 0) 1 0) 2 0) 3 0) 4 0) 5 0) 6 0) 7 0), ia h30 k29 4 (fun _ => 0)] sz) := by
  refine Met.ofW (cc := b_Ref_whole) (maxL := 3) (ret := none) (by decide) rfl ?_
  intro p e s m args below meth c s₁ B hml hv
  obtain ⟨rfl, hsz, hP, hK, hD0, hn⟩ := hv
  have hx := B.exec
  have hb := B.bytes
  have hr := B.returns
  have hw := fun w (h : w ∈ wt) => atoms_spec (ws := w_Ref_whole) B.pre w (List.mem_cons_of_mem _ h)
  have hown : s.vm.findClass R_Ref = some m.cls := findClass_of_methodNamed B.named
  have hlocks := B.notSynchronized
  subst hsz
  have hD1 := hD0.self (sz := s.heap.size)
  generalize hAe : va_A [oc h0 8 [.int 0, .int p1, .ref h1, .ref h2, .ref h3, .ref h4, .ref h5, .ref h6, .ref h7, .ref h8, .ref h9, .ref h10, .ref h11, .ref h12, .int p2, .ref h13, .ref h14, .ref h15, .ref h16, .int p3, .int p4, .ref h17, .ref h18, .ref h19, .int p5, .ref h20, .int p6, .int p7, .ref h21, .ref h22, .ref h23, .ref h24, .ref h25, .ref h26, .ref h27, .ref h28, .int 0, .int 1, .ref h29, .ref h30, .ref h31, .ref h32, .ref h33, .ref h34, .ref h35, .ref h36, .int p10, .ref h37], ia h7 k6 8 (fun _ => 0), ia h8 k7 352000 f7, ia h11 k10 32000 f10, ia h12 k11 4 f11, ia h21 k20 11 (fun _ => 0), ia h27 k26 8 (upd (upd (upd (upd (upd (upd (upd (upd (fun _ => 0) 0 0) 1 0) 2 0) 3 0) 4 0) 5 0) 6 0) 7 0), ia h30 k29 4 (fun _ => 0)] s.heap.size = A at hD1 ⊢
  have hA : ∀ q : Nat, s.heap.size ≤ q → A q := fun q h => by rw [← hAe]; exact Or.inr h
  have hD : dd A [h0, h7, h8, h11, h12, h21, h27, h30] := dd_of hD1 rfl
  clear hAe hD0 hD1
  have hS : va_S A s.heap s.heap [] := va_S.rf
  replace hP : va_P (dC, dI) classes [oc h0 8 [.int 0, .int p1, .ref h1, .ref h2, .ref h3, .ref h4, .ref h5, .ref h6, .ref h7, .ref h8, .ref h9, .ref h10, .ref h11, .ref h12, .int p2, .ref h13, .ref h14, .ref h15, .ref h16, .int p3, .int p4, .ref h17, .ref h18, .ref h19, .int p5, .ref h20, .int p6, .int p7, .ref h21, .ref h22, .ref h23, .ref h24, .ref h25, .ref h26, .ref h27, .ref h28, .int 0, .int 1, .ref h29, .ref h30, .ref h31, .ref h32, .ref h33, .ref h34, .ref h35, .ref h36, .int p10, .ref h37], ia h7 k6 8 (fun _ => 0), ia h8 k7 352000 f7, ia h11 k10 32000 f10, ia h12 k11 4 f11, ia h21 k20 11 (fun _ => 0), ia h27 k26 8 (upd (upd (upd (upd (upd (upd (upd (upd (fun _ => 0) 0 0) 1 0) 2 0) 3 0) 4 0) 5 0) 6 0) 7 0), ia h30 k29 4 (fun _ => 0)] s.heap := hP
  have hl := lv_entry ([.ref h0]) (n := 3) (Nat.le_of_ble_eq_true rfl)
  rw [lg_entry_eq]
  generalize (lg_sl ([.ref h0]) ++ List.replicate (3 - (lg_sl ([.ref h0])).length) Slot.unset).toArray = ls at hl ⊢
  replace hl : lv_has ls 3 [(0, .ref h0)] := hl
  refine lv_aload_n hx hb d_Ref_whole_0 rfl (lv_at hl 0 rfl) ?_
  refine lv_iconst (v := 0) hx hb d_Ref_whole_1 (by decide) ?_
  refine va_put (D := (dC, dI)) (ci := 8) (v := .int 0) (ty := .int) (C := R_Ref) (T := F_Ref) (N := 48) hx hb hw i_Ref t_Ref t_Ref_ok n_Ref hown hK hP (dd_D hD rfl) hS 0 rfl rfl 46 (by decide) (hw _ m_945) (fun _ h9 => h9) rfl (by decide +kernel) rfl rfl (Nat.le_of_ble_eq_true rfl) d_Ref_whole_2 ?_
  clear hP hS
  intro H locs (hP : va_P (dC, dI) classes [oc h0 8 [.int 0, .int p1, .ref h1, .ref h2, .ref h3, .ref h4, .ref h5, .ref h6, .ref h7, .ref h8, .ref h9, .ref h10, .ref h11, .ref h12, .int p2, .ref h13, .ref h14, .ref h15, .ref h16, .int p3, .int p4, .ref h17, .ref h18, .ref h19, .int p5, .ref h20, .int p6, .int p7, .ref h21, .ref h22, .ref h23, .ref h24, .ref h25, .ref h26, .ref h27, .ref h28, .int 0, .int 1, .ref h29, .ref h30, .ref h31, .ref h32, .ref h33, .ref h34, .ref h35, .ref h36, .int 0, .ref h37], ia h7 k6 8 (fun _ => 0), ia h8 k7 352000 f7, ia h11 k10 32000 f10, ia h12 k11 4 f11, ia h21 k20 11 (fun _ => 0), ia h27 k26 8 (upd (upd (upd (upd (upd (upd (upd (upd (fun _ => 0) 0 0) 1 0) 2 0) 3 0) 4 0) 5 0) 6 0) 7 0), ia h30 k29 4 (fun _ => 0)] H) _ hS
  refine tp_pc (pc' := 5) (by rfl) ?_
  refine lv_iconst (v := 0) hx hb d_Ref_whole_5 (by decide) ?_
  refine lv_istore_n (lv' := [(1, .int 0), (0, .ref h0)]) hx hb d_Ref_whole_6 rfl hl (by decide) rfl ?_
  clear hl ls
  intro ls hl
  refine lv_iload_n hx hb d_Ref_whole_7 rfl (lv_at hl 0 rfl) ?_
  refine lv_aload_n hx hb d_Ref_whole_8 rfl (lv_at hl 1 rfl) ?_
  refine va_get (D := (dC, dI)) (ci := 8) (v := .int 0) (C := R_Ref) (T := F_Ref) (N := 48) hx hb hw i_Ref hown hK hP 0 rfl rfl 0 (by decide) (hw _ m_899) (fun _ h9 => h9) rfl d_Ref_whole_9 ?_
  refine lv_icmp_ge (tgt := 116) hx hb d_Ref_whole_12 (by decide) (fun c_1 => ?_) (fun c_1 => absurd c_1 (by decide))
  refine tp_pc (pc' := 116) (by rfl) ?_
  refine lv_aload_n hx hb d_Ref_whole_116 rfl (lv_at hl 1 rfl) ?_
  obtain ⟨hPc, hDc, hFc⟩ := cut3 (wc := [oc h0 8 [.int 0, .int p1, .ref h1, .ref h2, .ref h3, .ref h4, .ref h5, .ref h6, .ref h7, .ref h8, .ref h9, .ref h10, .ref h11, .ref h12, .int p2, .ref h13, .ref h14, .ref h15, .ref h16, .int p3, .int p4, .ref h17, .ref h18, .ref h19, .int p5, .ref h20, .int p6, .int p7, .ref h21, .ref h22, .ref h23, .ref h24, .ref h25, .ref h26, .ref h27, .ref h28, .int 0, .int 1, .ref h29, .ref h30, .ref h31, .ref h32, .ref h33, .ref h34, .ref h35, .ref h36, .int 0, .ref h37], ia h30 k29 4 (fun _ => 0)]) hP hD rfl hS hA [0, 7] (by decide +kernel) rfl
  have hKc := hK.sub (tys' := [(k29, .int)]) [6] rfl
  refine va_callv (va_runV (As := []) (rest := []) ⟨hx, hb, hml, hown, hw⟩ (c_Ref_relate l dC dI h0 p1 h1 h2 h3 h4 h5 h6 h7 h8 h9 h10 h11 h12 p2 h13 h14 h15 h16 p3 p4 h17 h18 h19 p5 h20 p6 p7 h21 h22 h23 h24 h25 h26 h27 h28 1 h29 h30 h31 h32 h33 h34 h35 h36 0 h37 k29 H.size) (cw_V 0 hw g_Ref_relate rfl rfl rfl (hw _ m_109) (hw _ m_1217) (hw _ m_1219) (hw _ m_85) (by decide +kernel) ⟨Nat.le_of_ble_eq_true rfl, Nat.le_of_ble_eq_true rfl⟩) ⟨fun a U g mk q => by obtain ⟨q0, q1, qP, qK, qD, qN⟩ := q; exact ⟨q0, q1, qP, va_K.moved (u := U) (U := U.calling g mk a) (Vm.Alike.refl U.vm) qK, qD, nw_call qN⟩, va_recv hKc hPc (ci := 8) (q0 := 0) rfl rfl, fun U hU hW => ⟨rfl, by rw [hU], by rw [hU]; exact hPc, va_K.moved hW.alike hKc, hDc.weaken (fun _ _ _ _ => trivial), nw_warm hW hn⟩⟩ rfl rfl hl.1 rfl (lv_room (Nat.le_of_ble_eq_true rfl)) d_Ref_whole_117 ⟨Nat.le_of_ble_eq_true rfl, Nat.le_of_ble_eq_true rfl⟩) hS (fun q _ h => hFc q h) hFc ?_
  intro u t H1 locs1 ht hvm hw1 hB hz1 hk1 hS1
  obtain ⟨hP1, hK1, hD1⟩ := hB
  rw [ht] at hP1
  replace hK1 := va_K.moved hvm.symm hK1
  have hPD := join3 hP hD rfl [0, 7] [1, 2, 3, 4, 5, 6] rfl (by rfl) (by decide +kernel) (by decide +kernel) hk1 hFc hP1 hD1
  replace hK : va_K (dC, dI) classes [(k6, .int), (k7, .short), (k10, .int), (k11, .int), (k20, .int), (k26, .int), (k29, .int)] s := hK.app hK1
  clear hP1 hK1 hD1 hk1 hz1 hFc hKc hDc hPc hvm ht hP hS t locs H
  have hP : va_P (dC, dI) classes [ia h7 k6 8 (fun _ => 0), ia h8 k7 352000 f7, ia h11 k10 32000 f10, ia h12 k11 4 f11, ia h21 k20 11 (fun _ => 0), ia h27 k26 8 (upd (upd (upd (upd (upd (upd (upd (upd (fun _ => 0) 0 0) 1 0) 2 0) 3 0) 4 0) 5 0) 6 0) 7 0), oc h0 8 [.int 0, .int p1, .ref h1, .ref h2, .ref h3, .ref h4, .ref h5, .ref h6, .ref h7, .ref h8, .ref h9, .ref h10, .ref h11, .ref h12, .int p2, .ref h13, .ref h14, .ref h15, .ref h16, .int p3, .int p4, .ref h17, .ref h18, .ref h19, .int p5, .ref h20, .int p6, .int p7, .ref h21, .ref h22, .ref h23, .ref h24, .ref h25, .ref h26, .ref h27, .ref h28, .int 0, .int 1, .ref h29, .ref h30, .ref h31, .ref h32, .ref h33, .ref h34, .ref h35, .ref h36, .int 0, .ref h37], ia h30 k29 4 (fun _ => 0)] H1 := hPD.1
  replace hD : dd A [h7, h8, h11, h12, h21, h27, h0, h30] := dd_of hPD.2 rfl
  clear hPD
  revert H1 locs1
  intro H locs hS hP
  clear hw1 u
  refine tp_pc (pc' := 120) (by rfl) ?_
  refine lv_aload_n hx hb d_Ref_whole_120 rfl (lv_at hl 1 rfl) ?_
  obtain ⟨hPc, hDc, hFc⟩ := cut3 (wc := [oc h0 8 [.int 0, .int p1, .ref h1, .ref h2, .ref h3, .ref h4, .ref h5, .ref h6, .ref h7, .ref h8, .ref h9, .ref h10, .ref h11, .ref h12, .int p2, .ref h13, .ref h14, .ref h15, .ref h16, .int p3, .int p4, .ref h17, .ref h18, .ref h19, .int p5, .ref h20, .int p6, .int p7, .ref h21, .ref h22, .ref h23, .ref h24, .ref h25, .ref h26, .ref h27, .ref h28, .int 0, .int 1, .ref h29, .ref h30, .ref h31, .ref h32, .ref h33, .ref h34, .ref h35, .ref h36, .int 0, .ref h37]]) hP hD rfl hS hA [6] (by decide +kernel) rfl
  have hKc := hK.sub (tys' := []) [] rfl
  refine va_calli (va_runV (As := []) (rest := []) ⟨hx, hb, hml, hown, hw⟩ (c_Ref_stands_v2 l dC dI h0 0 p1 h1 h2 h3 h4 h5 h6 h7 h8 h9 h10 h11 h12 p2 h13 h14 h15 h16 p3 p4 h17 h18 h19 p5 h20 p6 p7 h21 h22 h23 h24 h25 h26 h27 h28 0 h29 h30 h31 h32 h33 h34 h35 h36 h37 H.size) (cw_V 0 hw g_Ref_stands rfl rfl rfl (hw _ m_109) (hw _ m_1229) (hw _ m_1231) (hw _ m_88) (by decide +kernel) ⟨Nat.le_of_ble_eq_true rfl, Nat.le_of_ble_eq_true rfl⟩) ⟨fun a U g mk q => by obtain ⟨q0, q1, qP, qK, qD, qN⟩ := q; exact ⟨q0, q1, qP, va_K.moved (u := U) (U := U.calling g mk a) (Vm.Alike.refl U.vm) qK, qD, nw_call qN⟩, va_recv hKc hPc (ci := 8) (q0 := 0) rfl rfl, fun U hU hW => ⟨rfl, by rw [hU], by rw [hU]; exact hPc, va_K.moved hW.alike hKc, hDc.weaken (fun _ _ _ _ => trivial), nw_warm hW hn⟩⟩ rfl rfl hl.1 rfl (lv_room (Nat.le_of_ble_eq_true rfl)) d_Ref_whole_121 ⟨Nat.le_of_ble_eq_true rfl, Nat.le_of_ble_eq_true rfl⟩) hS (fun q _ h => hFc q h) hFc ?_
  intro r_3 u t H1 locs1 ht hvm hw1 hB hz1 hk1 hS1
  obtain ⟨hP1, hK1, hD1⟩ := hB
  rw [ht] at hP1
  replace hK1 := va_K.moved hvm.symm hK1
  have hPD := join3 hP hD rfl [6] [0, 1, 2, 3, 4, 5, 7] rfl (by rfl) (by decide +kernel) (by decide +kernel) hk1 hFc hP1 hD1
  replace hK : va_K (dC, dI) classes [(k6, .int), (k7, .short), (k10, .int), (k11, .int), (k20, .int), (k26, .int), (k29, .int)] s := hK.app hK1
  clear hP1 hK1 hD1 hk1 hz1 hFc hKc hDc hPc hvm ht hP hS t locs H
  have hP : va_P (dC, dI) classes [ia h7 k6 8 (fun _ => 0), ia h8 k7 352000 f7, ia h11 k10 32000 f10, ia h12 k11 4 f11, ia h21 k20 11 (fun _ => 0), ia h27 k26 8 (upd (upd (upd (upd (upd (upd (upd (upd (fun _ => 0) 0 0) 1 0) 2 0) 3 0) 4 0) 5 0) 6 0) 7 0), ia h30 k29 4 (fun _ => 0), oc h0 8 [.int 0, .int p1, .ref h1, .ref h2, .ref h3, .ref h4, .ref h5, .ref h6, .ref h7, .ref h8, .ref h9, .ref h10, .ref h11, .ref h12, .int p2, .ref h13, .ref h14, .ref h15, .ref h16, .int p3, .int p4, .ref h17, .ref h18, .ref h19, .int p5, .ref h20, .int p6, .int p7, .ref h21, .ref h22, .ref h23, .ref h24, .ref h25, .ref h26, .ref h27, .ref h28, .int 0, .int 1, .ref h29, .ref h30, .ref h31, .ref h32, .ref h33, .ref h34, .ref h35, .ref h36, .int 0, .ref h37]] H1 := hPD.1
  replace hD : dd A [h7, h8, h11, h12, h21, h27, h30, h0] := dd_of hPD.2 rfl
  clear hPD
  revert H1 locs1
  intro H locs hS hP
  refine tp_i (y := 1) hw1 ?_
  clear hw1 r_3 u
  refine tp_pc (pc' := 124) (by rfl) ?_
  refine lv_if_ne (tgt := 128) hx hb d_Ref_whole_124 (by decide) (fun c_4 => ?_) (fun c_4 => absurd c_4 (by decide))
  refine tp_pc (pc' := 128) (by rfl) ?_
  refine lv_aload_n hx hb d_Ref_whole_128 rfl (lv_at hl 1 rfl) ?_
  refine va_get (D := (dC, dI)) (ci := 8) (v := .ref h12) (C := R_Ref) (T := F_Ref) (N := 48) hx hb hw i_Ref hown hK hP 7 rfl rfl 13 (by decide) (hw _ m_912) (fun _ h9 => h9) rfl d_Ref_whole_129 ?_
  refine lv_aload_n hx hb d_Ref_whole_132 rfl (lv_at hl 1 rfl) ?_
  refine va_get (D := (dC, dI)) (ci := 8) (v := .int 1) (C := R_Ref) (T := F_Ref) (N := 48) hx hb hw i_Ref hown hK hP 7 rfl rfl 37 (by decide) (hw _ m_936) (fun _ h9 => h9) rfl d_Ref_whole_133 ?_
  refine lv_dup2_11 hx hb d_Ref_whole_136 rfl rfl ?_
  refine va_iald (D := (dC, dI)) hx hb hK hP 3 3 rfl rfl (i := 1) (vp_c (by decide)) d_Ref_whole_137 ?_
  refine tp_i (y := f11 1) (by first | rfl | decide) ?_
  refine lv_iconst (v := 1) hx hb d_Ref_whole_138 (by decide) ?_
  refine lv_iadd hx hb d_Ref_whole_139 ?_
  refine tp_i (y := (f11 1) + 1) (by first | rfl | decide) ?_
  refine va_iast (D := (dC, dI)) hx hb hK hP (dd_D hD rfl) hS 3 3 rfl rfl (i := 1) (x := (f11 1) + 1) (vp_c (by decide)) d_Ref_whole_140 ?_
  clear hP hS locs H
  intro H locs (hP : va_P (dC, dI) classes [ia h7 k6 8 (fun _ => 0), ia h8 k7 352000 f7, ia h11 k10 32000 f10, ia h12 k11 4 (upd f11 1 ((f11 1) + 1)), ia h21 k20 11 (fun _ => 0), ia h27 k26 8 (upd (upd (upd (upd (upd (upd (upd (upd (fun _ => 0) 0 0) 1 0) 2 0) 3 0) 4 0) 5 0) 6 0) 7 0), ia h30 k29 4 (fun _ => 0), oc h0 8 [.int 0, .int p1, .ref h1, .ref h2, .ref h3, .ref h4, .ref h5, .ref h6, .ref h7, .ref h8, .ref h9, .ref h10, .ref h11, .ref h12, .int p2, .ref h13, .ref h14, .ref h15, .ref h16, .int p3, .int p4, .ref h17, .ref h18, .ref h19, .int p5, .ref h20, .int p6, .int p7, .ref h21, .ref h22, .ref h23, .ref h24, .ref h25, .ref h26, .ref h27, .ref h28, .int 0, .int 1, .ref h29, .ref h30, .ref h31, .ref h32, .ref h33, .ref h34, .ref h35, .ref h36, .int 0, .ref h37]] H) _ hS
  refine tp_pc (pc' := 141) (by rfl) ?_
  refine lv_iconst (v := 0) hx hb d_Ref_whole_141 (by decide) ?_
  refine lv_istore_n (lv' := [(1, .int 0), (0, .ref h0)]) hx hb d_Ref_whole_142 rfl hl (by decide) rfl ?_
  clear hl ls
  intro ls hl
  refine lv_iload_n hx hb d_Ref_whole_143 rfl (lv_at hl 0 rfl) ?_
  refine lv_bipush (v := 8) hx hb d_Ref_whole_144 (by decide) ?_
  refine lv_icmp_ge (tgt := 167) hx hb d_Ref_whole_146 (by decide) (fun c_5 => absurd c_5 (by decide)) (fun c_5 => ?_)
  refine tp_pc (pc' := 149) (by rfl) ?_
  refine lv_aload_n hx hb d_Ref_whole_149 rfl (lv_at hl 1 rfl) ?_
  refine va_get (D := (dC, dI)) (ci := 8) (v := .ref h21) (C := R_Ref) (T := F_Ref) (N := 48) hx hb hw i_Ref hown hK hP 7 rfl rfl 28 (by decide) (hw _ m_927) (fun _ h9 => h9) rfl d_Ref_whole_150 ?_
  refine lv_iload_n hx hb d_Ref_whole_153 rfl (lv_at hl 0 rfl) ?_
  refine lv_aload_n hx hb d_Ref_whole_154 rfl (lv_at hl 1 rfl) ?_
  refine va_get (D := (dC, dI)) (ci := 8) (v := .ref h27) (C := R_Ref) (T := F_Ref) (N := 48) hx hb hw i_Ref hown hK hP 7 rfl rfl 34 (by decide) (hw _ m_933) (fun _ h9 => h9) rfl d_Ref_whole_155 ?_
  refine lv_iload_n hx hb d_Ref_whole_158 rfl (lv_at hl 0 rfl) ?_
  refine va_iald (D := (dC, dI)) hx hb hK hP 5 5 rfl rfl (i := 0) (vp_c (by decide)) d_Ref_whole_159 ?_
  refine tp_i (y := 0) (by first | rfl | decide) ?_
  refine va_iast (D := (dC, dI)) hx hb hK hP (dd_D hD rfl) hS 4 4 rfl rfl (i := 0) (x := 0) (vp_c (by decide)) d_Ref_whole_160 ?_
  clear hP hS locs H
  intro H locs hP _ hS
  replace hP : va_P (dC, dI) classes [ia h7 k6 8 (fun _ => 0), ia h8 k7 352000 f7, ia h11 k10 32000 f10, ia h12 k11 4 (upd f11 1 ((f11 1) + 1)), ia h21 k20 11 (fun _ => 0), ia h27 k26 8 (upd (upd (upd (upd (upd (upd (upd (upd (fun _ => 0) 0 0) 1 0) 2 0) 3 0) 4 0) 5 0) 6 0) 7 0), ia h30 k29 4 (fun _ => 0), oc h0 8 [.int 0, .int p1, .ref h1, .ref h2, .ref h3, .ref h4, .ref h5, .ref h6, .ref h7, .ref h8, .ref h9, .ref h10, .ref h11, .ref h12, .int p2, .ref h13, .ref h14, .ref h15, .ref h16, .int p3, .int p4, .ref h17, .ref h18, .ref h19, .int p5, .ref h20, .int p6, .int p7, .ref h21, .ref h22, .ref h23, .ref h24, .ref h25, .ref h26, .ref h27, .ref h28, .int 0, .int 1, .ref h29, .ref h30, .ref h31, .ref h32, .ref h33, .ref h34, .ref h35, .ref h36, .int 0, .ref h37]] H := P_cg 4 rfl (up_pt (by first | rfl | decide)) hP
  refine tp_pc (pc' := 161) (by rfl) ?_
  refine lv_iinc (v := 1) (lv' := [(1, .int 1), (0, .ref h0)]) hx hb d_Ref_whole_161 hl (k := 0) rfl (by first | rfl | decide) (by decide) rfl ?_
  clear hl ls
  intro ls hl
  refine lv_goto (tgt := 143) hx hb d_Ref_whole_164 (by decide) ?_
  refine tp_pc (pc' := 143) (by rfl) ?_
  refine lv_iload_n hx hb d_Ref_whole_143 rfl (lv_at hl 0 rfl) ?_
  refine lv_bipush (v := 8) hx hb d_Ref_whole_144 (by decide) ?_
  refine lv_icmp_ge (tgt := 167) hx hb d_Ref_whole_146 (by decide) (fun c_6 => absurd c_6 (by decide)) (fun c_6 => ?_)
  refine tp_pc (pc' := 149) (by rfl) ?_
  refine lv_aload_n hx hb d_Ref_whole_149 rfl (lv_at hl 1 rfl) ?_
  refine va_get (D := (dC, dI)) (ci := 8) (v := .ref h21) (C := R_Ref) (T := F_Ref) (N := 48) hx hb hw i_Ref hown hK hP 7 rfl rfl 28 (by decide) (hw _ m_927) (fun _ h9 => h9) rfl d_Ref_whole_150 ?_
  refine lv_iload_n hx hb d_Ref_whole_153 rfl (lv_at hl 0 rfl) ?_
  refine lv_aload_n hx hb d_Ref_whole_154 rfl (lv_at hl 1 rfl) ?_
  refine va_get (D := (dC, dI)) (ci := 8) (v := .ref h27) (C := R_Ref) (T := F_Ref) (N := 48) hx hb hw i_Ref hown hK hP 7 rfl rfl 34 (by decide) (hw _ m_933) (fun _ h9 => h9) rfl d_Ref_whole_155 ?_
  refine lv_iload_n hx hb d_Ref_whole_158 rfl (lv_at hl 0 rfl) ?_
  refine va_iald (D := (dC, dI)) hx hb hK hP 5 5 rfl rfl (i := 1) (vp_c (by decide)) d_Ref_whole_159 ?_
  refine tp_i (y := 0) (by first | rfl | decide) ?_
  refine va_iast (D := (dC, dI)) hx hb hK hP (dd_D hD rfl) hS 4 4 rfl rfl (i := 1) (x := 0) (vp_c (by decide)) d_Ref_whole_160 ?_
  clear hP hS locs H
  intro H locs hP _ hS
  replace hP : va_P (dC, dI) classes [ia h7 k6 8 (fun _ => 0), ia h8 k7 352000 f7, ia h11 k10 32000 f10, ia h12 k11 4 (upd f11 1 ((f11 1) + 1)), ia h21 k20 11 (fun _ => 0), ia h27 k26 8 (upd (upd (upd (upd (upd (upd (upd (upd (fun _ => 0) 0 0) 1 0) 2 0) 3 0) 4 0) 5 0) 6 0) 7 0), ia h30 k29 4 (fun _ => 0), oc h0 8 [.int 0, .int p1, .ref h1, .ref h2, .ref h3, .ref h4, .ref h5, .ref h6, .ref h7, .ref h8, .ref h9, .ref h10, .ref h11, .ref h12, .int p2, .ref h13, .ref h14, .ref h15, .ref h16, .int p3, .int p4, .ref h17, .ref h18, .ref h19, .int p5, .ref h20, .int p6, .int p7, .ref h21, .ref h22, .ref h23, .ref h24, .ref h25, .ref h26, .ref h27, .ref h28, .int 0, .int 1, .ref h29, .ref h30, .ref h31, .ref h32, .ref h33, .ref h34, .ref h35, .ref h36, .int 0, .ref h37]] H := P_cg 4 rfl (up_pt (by first | rfl | decide)) hP
  refine tp_pc (pc' := 161) (by rfl) ?_
  refine lv_iinc (v := 2) (lv' := [(1, .int 2), (0, .ref h0)]) hx hb d_Ref_whole_161 hl (k := 0) rfl (by first | rfl | decide) (by decide) rfl ?_
  clear hl ls
  intro ls hl
  refine lv_goto (tgt := 143) hx hb d_Ref_whole_164 (by decide) ?_
  refine tp_pc (pc' := 143) (by rfl) ?_
  refine lv_iload_n hx hb d_Ref_whole_143 rfl (lv_at hl 0 rfl) ?_
  refine lv_bipush (v := 8) hx hb d_Ref_whole_144 (by decide) ?_
  refine lv_icmp_ge (tgt := 167) hx hb d_Ref_whole_146 (by decide) (fun c_7 => absurd c_7 (by decide)) (fun c_7 => ?_)
  refine tp_pc (pc' := 149) (by rfl) ?_
  refine lv_aload_n hx hb d_Ref_whole_149 rfl (lv_at hl 1 rfl) ?_
  refine va_get (D := (dC, dI)) (ci := 8) (v := .ref h21) (C := R_Ref) (T := F_Ref) (N := 48) hx hb hw i_Ref hown hK hP 7 rfl rfl 28 (by decide) (hw _ m_927) (fun _ h9 => h9) rfl d_Ref_whole_150 ?_
  refine lv_iload_n hx hb d_Ref_whole_153 rfl (lv_at hl 0 rfl) ?_
  refine lv_aload_n hx hb d_Ref_whole_154 rfl (lv_at hl 1 rfl) ?_
  refine va_get (D := (dC, dI)) (ci := 8) (v := .ref h27) (C := R_Ref) (T := F_Ref) (N := 48) hx hb hw i_Ref hown hK hP 7 rfl rfl 34 (by decide) (hw _ m_933) (fun _ h9 => h9) rfl d_Ref_whole_155 ?_
  refine lv_iload_n hx hb d_Ref_whole_158 rfl (lv_at hl 0 rfl) ?_
  refine va_iald (D := (dC, dI)) hx hb hK hP 5 5 rfl rfl (i := 2) (vp_c (by decide)) d_Ref_whole_159 ?_
  refine tp_i (y := 0) (by first | rfl | decide) ?_
  refine va_iast (D := (dC, dI)) hx hb hK hP (dd_D hD rfl) hS 4 4 rfl rfl (i := 2) (x := 0) (vp_c (by decide)) d_Ref_whole_160 ?_
  clear hP hS locs H
  intro H locs hP _ hS
  replace hP : va_P (dC, dI) classes [ia h7 k6 8 (fun _ => 0), ia h8 k7 352000 f7, ia h11 k10 32000 f10, ia h12 k11 4 (upd f11 1 ((f11 1) + 1)), ia h21 k20 11 (fun _ => 0), ia h27 k26 8 (upd (upd (upd (upd (upd (upd (upd (upd (fun _ => 0) 0 0) 1 0) 2 0) 3 0) 4 0) 5 0) 6 0) 7 0), ia h30 k29 4 (fun _ => 0), oc h0 8 [.int 0, .int p1, .ref h1, .ref h2, .ref h3, .ref h4, .ref h5, .ref h6, .ref h7, .ref h8, .ref h9, .ref h10, .ref h11, .ref h12, .int p2, .ref h13, .ref h14, .ref h15, .ref h16, .int p3, .int p4, .ref h17, .ref h18, .ref h19, .int p5, .ref h20, .int p6, .int p7, .ref h21, .ref h22, .ref h23, .ref h24, .ref h25, .ref h26, .ref h27, .ref h28, .int 0, .int 1, .ref h29, .ref h30, .ref h31, .ref h32, .ref h33, .ref h34, .ref h35, .ref h36, .int 0, .ref h37]] H := P_cg 4 rfl (up_pt (by first | rfl | decide)) hP
  refine tp_pc (pc' := 161) (by rfl) ?_
  refine lv_iinc (v := 3) (lv' := [(1, .int 3), (0, .ref h0)]) hx hb d_Ref_whole_161 hl (k := 0) rfl (by first | rfl | decide) (by decide) rfl ?_
  clear hl ls
  intro ls hl
  refine lv_goto (tgt := 143) hx hb d_Ref_whole_164 (by decide) ?_
  refine tp_pc (pc' := 143) (by rfl) ?_
  refine lv_iload_n hx hb d_Ref_whole_143 rfl (lv_at hl 0 rfl) ?_
  refine lv_bipush (v := 8) hx hb d_Ref_whole_144 (by decide) ?_
  refine lv_icmp_ge (tgt := 167) hx hb d_Ref_whole_146 (by decide) (fun c_8 => absurd c_8 (by decide)) (fun c_8 => ?_)
  refine tp_pc (pc' := 149) (by rfl) ?_
  refine lv_aload_n hx hb d_Ref_whole_149 rfl (lv_at hl 1 rfl) ?_
  refine va_get (D := (dC, dI)) (ci := 8) (v := .ref h21) (C := R_Ref) (T := F_Ref) (N := 48) hx hb hw i_Ref hown hK hP 7 rfl rfl 28 (by decide) (hw _ m_927) (fun _ h9 => h9) rfl d_Ref_whole_150 ?_
  refine lv_iload_n hx hb d_Ref_whole_153 rfl (lv_at hl 0 rfl) ?_
  refine lv_aload_n hx hb d_Ref_whole_154 rfl (lv_at hl 1 rfl) ?_
  refine va_get (D := (dC, dI)) (ci := 8) (v := .ref h27) (C := R_Ref) (T := F_Ref) (N := 48) hx hb hw i_Ref hown hK hP 7 rfl rfl 34 (by decide) (hw _ m_933) (fun _ h9 => h9) rfl d_Ref_whole_155 ?_
  refine lv_iload_n hx hb d_Ref_whole_158 rfl (lv_at hl 0 rfl) ?_
  refine va_iald (D := (dC, dI)) hx hb hK hP 5 5 rfl rfl (i := 3) (vp_c (by decide)) d_Ref_whole_159 ?_
  refine tp_i (y := 0) (by first | rfl | decide) ?_
  refine va_iast (D := (dC, dI)) hx hb hK hP (dd_D hD rfl) hS 4 4 rfl rfl (i := 3) (x := 0) (vp_c (by decide)) d_Ref_whole_160 ?_
  clear hP hS locs H
  intro H locs hP _ hS
  replace hP : va_P (dC, dI) classes [ia h7 k6 8 (fun _ => 0), ia h8 k7 352000 f7, ia h11 k10 32000 f10, ia h12 k11 4 (upd f11 1 ((f11 1) + 1)), ia h21 k20 11 (fun _ => 0), ia h27 k26 8 (upd (upd (upd (upd (upd (upd (upd (upd (fun _ => 0) 0 0) 1 0) 2 0) 3 0) 4 0) 5 0) 6 0) 7 0), ia h30 k29 4 (fun _ => 0), oc h0 8 [.int 0, .int p1, .ref h1, .ref h2, .ref h3, .ref h4, .ref h5, .ref h6, .ref h7, .ref h8, .ref h9, .ref h10, .ref h11, .ref h12, .int p2, .ref h13, .ref h14, .ref h15, .ref h16, .int p3, .int p4, .ref h17, .ref h18, .ref h19, .int p5, .ref h20, .int p6, .int p7, .ref h21, .ref h22, .ref h23, .ref h24, .ref h25, .ref h26, .ref h27, .ref h28, .int 0, .int 1, .ref h29, .ref h30, .ref h31, .ref h32, .ref h33, .ref h34, .ref h35, .ref h36, .int 0, .ref h37]] H := P_cg 4 rfl (up_pt (by first | rfl | decide)) hP
  refine tp_pc (pc' := 161) (by rfl) ?_
  refine lv_iinc (v := 4) (lv' := [(1, .int 4), (0, .ref h0)]) hx hb d_Ref_whole_161 hl (k := 0) rfl (by first | rfl | decide) (by decide) rfl ?_
  clear hl ls
  intro ls hl
  refine lv_goto (tgt := 143) hx hb d_Ref_whole_164 (by decide) ?_
  refine tp_pc (pc' := 143) (by rfl) ?_
  refine lv_iload_n hx hb d_Ref_whole_143 rfl (lv_at hl 0 rfl) ?_
  refine lv_bipush (v := 8) hx hb d_Ref_whole_144 (by decide) ?_
  refine lv_icmp_ge (tgt := 167) hx hb d_Ref_whole_146 (by decide) (fun c_9 => absurd c_9 (by decide)) (fun c_9 => ?_)
  refine tp_pc (pc' := 149) (by rfl) ?_
  refine lv_aload_n hx hb d_Ref_whole_149 rfl (lv_at hl 1 rfl) ?_
  refine va_get (D := (dC, dI)) (ci := 8) (v := .ref h21) (C := R_Ref) (T := F_Ref) (N := 48) hx hb hw i_Ref hown hK hP 7 rfl rfl 28 (by decide) (hw _ m_927) (fun _ h9 => h9) rfl d_Ref_whole_150 ?_
  refine lv_iload_n hx hb d_Ref_whole_153 rfl (lv_at hl 0 rfl) ?_
  refine lv_aload_n hx hb d_Ref_whole_154 rfl (lv_at hl 1 rfl) ?_
  refine va_get (D := (dC, dI)) (ci := 8) (v := .ref h27) (C := R_Ref) (T := F_Ref) (N := 48) hx hb hw i_Ref hown hK hP 7 rfl rfl 34 (by decide) (hw _ m_933) (fun _ h9 => h9) rfl d_Ref_whole_155 ?_
  refine lv_iload_n hx hb d_Ref_whole_158 rfl (lv_at hl 0 rfl) ?_
  refine va_iald (D := (dC, dI)) hx hb hK hP 5 5 rfl rfl (i := 4) (vp_c (by decide)) d_Ref_whole_159 ?_
  refine tp_i (y := 0) (by first | rfl | decide) ?_
  refine va_iast (D := (dC, dI)) hx hb hK hP (dd_D hD rfl) hS 4 4 rfl rfl (i := 4) (x := 0) (vp_c (by decide)) d_Ref_whole_160 ?_
  clear hP hS locs H
  intro H locs hP _ hS
  replace hP : va_P (dC, dI) classes [ia h7 k6 8 (fun _ => 0), ia h8 k7 352000 f7, ia h11 k10 32000 f10, ia h12 k11 4 (upd f11 1 ((f11 1) + 1)), ia h21 k20 11 (fun _ => 0), ia h27 k26 8 (upd (upd (upd (upd (upd (upd (upd (upd (fun _ => 0) 0 0) 1 0) 2 0) 3 0) 4 0) 5 0) 6 0) 7 0), ia h30 k29 4 (fun _ => 0), oc h0 8 [.int 0, .int p1, .ref h1, .ref h2, .ref h3, .ref h4, .ref h5, .ref h6, .ref h7, .ref h8, .ref h9, .ref h10, .ref h11, .ref h12, .int p2, .ref h13, .ref h14, .ref h15, .ref h16, .int p3, .int p4, .ref h17, .ref h18, .ref h19, .int p5, .ref h20, .int p6, .int p7, .ref h21, .ref h22, .ref h23, .ref h24, .ref h25, .ref h26, .ref h27, .ref h28, .int 0, .int 1, .ref h29, .ref h30, .ref h31, .ref h32, .ref h33, .ref h34, .ref h35, .ref h36, .int 0, .ref h37]] H := P_cg 4 rfl (up_pt (by first | rfl | decide)) hP
  refine tp_pc (pc' := 161) (by rfl) ?_
  refine lv_iinc (v := 5) (lv' := [(1, .int 5), (0, .ref h0)]) hx hb d_Ref_whole_161 hl (k := 0) rfl (by first | rfl | decide) (by decide) rfl ?_
  clear hl ls
  intro ls hl
  refine lv_goto (tgt := 143) hx hb d_Ref_whole_164 (by decide) ?_
  refine tp_pc (pc' := 143) (by rfl) ?_
  refine lv_iload_n hx hb d_Ref_whole_143 rfl (lv_at hl 0 rfl) ?_
  refine lv_bipush (v := 8) hx hb d_Ref_whole_144 (by decide) ?_
  refine lv_icmp_ge (tgt := 167) hx hb d_Ref_whole_146 (by decide) (fun c_10 => absurd c_10 (by decide)) (fun c_10 => ?_)
  refine tp_pc (pc' := 149) (by rfl) ?_
  refine lv_aload_n hx hb d_Ref_whole_149 rfl (lv_at hl 1 rfl) ?_
  refine va_get (D := (dC, dI)) (ci := 8) (v := .ref h21) (C := R_Ref) (T := F_Ref) (N := 48) hx hb hw i_Ref hown hK hP 7 rfl rfl 28 (by decide) (hw _ m_927) (fun _ h9 => h9) rfl d_Ref_whole_150 ?_
  refine lv_iload_n hx hb d_Ref_whole_153 rfl (lv_at hl 0 rfl) ?_
  refine lv_aload_n hx hb d_Ref_whole_154 rfl (lv_at hl 1 rfl) ?_
  refine va_get (D := (dC, dI)) (ci := 8) (v := .ref h27) (C := R_Ref) (T := F_Ref) (N := 48) hx hb hw i_Ref hown hK hP 7 rfl rfl 34 (by decide) (hw _ m_933) (fun _ h9 => h9) rfl d_Ref_whole_155 ?_
  refine lv_iload_n hx hb d_Ref_whole_158 rfl (lv_at hl 0 rfl) ?_
  refine va_iald (D := (dC, dI)) hx hb hK hP 5 5 rfl rfl (i := 5) (vp_c (by decide)) d_Ref_whole_159 ?_
  refine tp_i (y := 0) (by first | rfl | decide) ?_
  refine va_iast (D := (dC, dI)) hx hb hK hP (dd_D hD rfl) hS 4 4 rfl rfl (i := 5) (x := 0) (vp_c (by decide)) d_Ref_whole_160 ?_
  clear hP hS locs H
  intro H locs hP _ hS
  replace hP : va_P (dC, dI) classes [ia h7 k6 8 (fun _ => 0), ia h8 k7 352000 f7, ia h11 k10 32000 f10, ia h12 k11 4 (upd f11 1 ((f11 1) + 1)), ia h21 k20 11 (fun _ => 0), ia h27 k26 8 (upd (upd (upd (upd (upd (upd (upd (upd (fun _ => 0) 0 0) 1 0) 2 0) 3 0) 4 0) 5 0) 6 0) 7 0), ia h30 k29 4 (fun _ => 0), oc h0 8 [.int 0, .int p1, .ref h1, .ref h2, .ref h3, .ref h4, .ref h5, .ref h6, .ref h7, .ref h8, .ref h9, .ref h10, .ref h11, .ref h12, .int p2, .ref h13, .ref h14, .ref h15, .ref h16, .int p3, .int p4, .ref h17, .ref h18, .ref h19, .int p5, .ref h20, .int p6, .int p7, .ref h21, .ref h22, .ref h23, .ref h24, .ref h25, .ref h26, .ref h27, .ref h28, .int 0, .int 1, .ref h29, .ref h30, .ref h31, .ref h32, .ref h33, .ref h34, .ref h35, .ref h36, .int 0, .ref h37]] H := P_cg 4 rfl (up_pt (by first | rfl | decide)) hP
  refine tp_pc (pc' := 161) (by rfl) ?_
  refine lv_iinc (v := 6) (lv' := [(1, .int 6), (0, .ref h0)]) hx hb d_Ref_whole_161 hl (k := 0) rfl (by first | rfl | decide) (by decide) rfl ?_
  clear hl ls
  intro ls hl
  refine lv_goto (tgt := 143) hx hb d_Ref_whole_164 (by decide) ?_
  refine tp_pc (pc' := 143) (by rfl) ?_
  refine lv_iload_n hx hb d_Ref_whole_143 rfl (lv_at hl 0 rfl) ?_
  refine lv_bipush (v := 8) hx hb d_Ref_whole_144 (by decide) ?_
  refine lv_icmp_ge (tgt := 167) hx hb d_Ref_whole_146 (by decide) (fun c_11 => absurd c_11 (by decide)) (fun c_11 => ?_)
  refine tp_pc (pc' := 149) (by rfl) ?_
  refine lv_aload_n hx hb d_Ref_whole_149 rfl (lv_at hl 1 rfl) ?_
  refine va_get (D := (dC, dI)) (ci := 8) (v := .ref h21) (C := R_Ref) (T := F_Ref) (N := 48) hx hb hw i_Ref hown hK hP 7 rfl rfl 28 (by decide) (hw _ m_927) (fun _ h9 => h9) rfl d_Ref_whole_150 ?_
  refine lv_iload_n hx hb d_Ref_whole_153 rfl (lv_at hl 0 rfl) ?_
  refine lv_aload_n hx hb d_Ref_whole_154 rfl (lv_at hl 1 rfl) ?_
  refine va_get (D := (dC, dI)) (ci := 8) (v := .ref h27) (C := R_Ref) (T := F_Ref) (N := 48) hx hb hw i_Ref hown hK hP 7 rfl rfl 34 (by decide) (hw _ m_933) (fun _ h9 => h9) rfl d_Ref_whole_155 ?_
  refine lv_iload_n hx hb d_Ref_whole_158 rfl (lv_at hl 0 rfl) ?_
  refine va_iald (D := (dC, dI)) hx hb hK hP 5 5 rfl rfl (i := 6) (vp_c (by decide)) d_Ref_whole_159 ?_
  refine tp_i (y := 0) (by first | rfl | decide) ?_
  refine va_iast (D := (dC, dI)) hx hb hK hP (dd_D hD rfl) hS 4 4 rfl rfl (i := 6) (x := 0) (vp_c (by decide)) d_Ref_whole_160 ?_
  clear hP hS locs H
  intro H locs hP _ hS
  replace hP : va_P (dC, dI) classes [ia h7 k6 8 (fun _ => 0), ia h8 k7 352000 f7, ia h11 k10 32000 f10, ia h12 k11 4 (upd f11 1 ((f11 1) + 1)), ia h21 k20 11 (fun _ => 0), ia h27 k26 8 (upd (upd (upd (upd (upd (upd (upd (upd (fun _ => 0) 0 0) 1 0) 2 0) 3 0) 4 0) 5 0) 6 0) 7 0), ia h30 k29 4 (fun _ => 0), oc h0 8 [.int 0, .int p1, .ref h1, .ref h2, .ref h3, .ref h4, .ref h5, .ref h6, .ref h7, .ref h8, .ref h9, .ref h10, .ref h11, .ref h12, .int p2, .ref h13, .ref h14, .ref h15, .ref h16, .int p3, .int p4, .ref h17, .ref h18, .ref h19, .int p5, .ref h20, .int p6, .int p7, .ref h21, .ref h22, .ref h23, .ref h24, .ref h25, .ref h26, .ref h27, .ref h28, .int 0, .int 1, .ref h29, .ref h30, .ref h31, .ref h32, .ref h33, .ref h34, .ref h35, .ref h36, .int 0, .ref h37]] H := P_cg 4 rfl (up_pt (by first | rfl | decide)) hP
  refine tp_pc (pc' := 161) (by rfl) ?_
  refine lv_iinc (v := 7) (lv' := [(1, .int 7), (0, .ref h0)]) hx hb d_Ref_whole_161 hl (k := 0) rfl (by first | rfl | decide) (by decide) rfl ?_
  clear hl ls
  intro ls hl
  refine lv_goto (tgt := 143) hx hb d_Ref_whole_164 (by decide) ?_
  refine tp_pc (pc' := 143) (by rfl) ?_
  refine lv_iload_n hx hb d_Ref_whole_143 rfl (lv_at hl 0 rfl) ?_
  refine lv_bipush (v := 8) hx hb d_Ref_whole_144 (by decide) ?_
  refine lv_icmp_ge (tgt := 167) hx hb d_Ref_whole_146 (by decide) (fun c_12 => absurd c_12 (by decide)) (fun c_12 => ?_)
  refine tp_pc (pc' := 149) (by rfl) ?_
  refine lv_aload_n hx hb d_Ref_whole_149 rfl (lv_at hl 1 rfl) ?_
  refine va_get (D := (dC, dI)) (ci := 8) (v := .ref h21) (C := R_Ref) (T := F_Ref) (N := 48) hx hb hw i_Ref hown hK hP 7 rfl rfl 28 (by decide) (hw _ m_927) (fun _ h9 => h9) rfl d_Ref_whole_150 ?_
  refine lv_iload_n hx hb d_Ref_whole_153 rfl (lv_at hl 0 rfl) ?_
  refine lv_aload_n hx hb d_Ref_whole_154 rfl (lv_at hl 1 rfl) ?_
  refine va_get (D := (dC, dI)) (ci := 8) (v := .ref h27) (C := R_Ref) (T := F_Ref) (N := 48) hx hb hw i_Ref hown hK hP 7 rfl rfl 34 (by decide) (hw _ m_933) (fun _ h9 => h9) rfl d_Ref_whole_155 ?_
  refine lv_iload_n hx hb d_Ref_whole_158 rfl (lv_at hl 0 rfl) ?_
  refine va_iald (D := (dC, dI)) hx hb hK hP 5 5 rfl rfl (i := 7) (vp_c (by decide)) d_Ref_whole_159 ?_
  refine tp_i (y := 0) (by first | rfl | decide) ?_
  refine va_iast (D := (dC, dI)) hx hb hK hP (dd_D hD rfl) hS 4 4 rfl rfl (i := 7) (x := 0) (vp_c (by decide)) d_Ref_whole_160 ?_
  clear hP hS locs H
  intro H locs hP _ hS
  replace hP : va_P (dC, dI) classes [ia h7 k6 8 (fun _ => 0), ia h8 k7 352000 f7, ia h11 k10 32000 f10, ia h12 k11 4 (upd f11 1 ((f11 1) + 1)), ia h21 k20 11 (fun _ => 0), ia h27 k26 8 (upd (upd (upd (upd (upd (upd (upd (upd (fun _ => 0) 0 0) 1 0) 2 0) 3 0) 4 0) 5 0) 6 0) 7 0), ia h30 k29 4 (fun _ => 0), oc h0 8 [.int 0, .int p1, .ref h1, .ref h2, .ref h3, .ref h4, .ref h5, .ref h6, .ref h7, .ref h8, .ref h9, .ref h10, .ref h11, .ref h12, .int p2, .ref h13, .ref h14, .ref h15, .ref h16, .int p3, .int p4, .ref h17, .ref h18, .ref h19, .int p5, .ref h20, .int p6, .int p7, .ref h21, .ref h22, .ref h23, .ref h24, .ref h25, .ref h26, .ref h27, .ref h28, .int 0, .int 1, .ref h29, .ref h30, .ref h31, .ref h32, .ref h33, .ref h34, .ref h35, .ref h36, .int 0, .ref h37]] H := P_cg 4 rfl (up_pt (by first | rfl | decide)) hP
  refine tp_pc (pc' := 161) (by rfl) ?_
  refine lv_iinc (v := 8) (lv' := [(1, .int 8), (0, .ref h0)]) hx hb d_Ref_whole_161 hl (k := 0) rfl (by first | rfl | decide) (by decide) rfl ?_
  clear hl ls
  intro ls hl
  refine lv_goto (tgt := 143) hx hb d_Ref_whole_164 (by decide) ?_
  refine tp_pc (pc' := 143) (by rfl) ?_
  refine lv_iload_n hx hb d_Ref_whole_143 rfl (lv_at hl 0 rfl) ?_
  refine lv_bipush (v := 8) hx hb d_Ref_whole_144 (by decide) ?_
  refine lv_icmp_ge (tgt := 167) hx hb d_Ref_whole_146 (by decide) (fun c_13 => ?_) (fun c_13 => absurd c_13 (by decide))
  refine tp_pc (pc' := 167) (by rfl) ?_
  refine lv_iconst (v := 0) hx hb d_Ref_whole_167 (by decide) ?_
  refine lv_istore_n (lv' := [(1, .int 0), (0, .ref h0)]) hx hb d_Ref_whole_168 rfl hl (by decide) rfl ?_
  clear hl ls
  intro ls hl
  refine lv_iload_n hx hb d_Ref_whole_169 rfl (lv_at hl 0 rfl) ?_
  refine lv_iconst (v := 3) hx hb d_Ref_whole_170 (by decide) ?_
  refine lv_icmp_ge (tgt := 225) hx hb d_Ref_whole_171 (by decide) (fun c_14 => absurd c_14 (by decide)) (fun c_14 => ?_)
  refine tp_pc (pc' := 174) (by rfl) ?_
  refine lv_aload_n hx hb d_Ref_whole_174 rfl (lv_at hl 1 rfl) ?_
  refine va_get (D := (dC, dI)) (ci := 8) (v := .ref h21) (C := R_Ref) (T := F_Ref) (N := 48) hx hb hw i_Ref hown hK hP 7 rfl rfl 28 (by decide) (hw _ m_927) (fun _ h9 => h9) rfl d_Ref_whole_175 ?_
  refine lv_bipush (v := 8) hx hb d_Ref_whole_178 (by decide) ?_
  refine lv_iload_n hx hb d_Ref_whole_180 rfl (lv_at hl 0 rfl) ?_
  refine lv_iadd hx hb d_Ref_whole_181 ?_
  refine tp_i (y := 8) (by first | rfl | decide) ?_
  refine lv_aload_n hx hb d_Ref_whole_182 rfl (lv_at hl 1 rfl) ?_
  refine va_get (D := (dC, dI)) (ci := 8) (v := .ref h30) (C := R_Ref) (T := F_Ref) (N := 48) hx hb hw i_Ref hown hK hP 7 rfl rfl 39 (by decide) (hw _ m_938) (fun _ h9 => h9) rfl d_Ref_whole_183 ?_
  refine lv_iload_n hx hb d_Ref_whole_186 rfl (lv_at hl 0 rfl) ?_
  refine va_iald (D := (dC, dI)) hx hb hK hP 6 6 rfl rfl (i := 0) (vp_c (by decide)) d_Ref_whole_187 ?_
  refine tp_i (y := 0) (by first | rfl | decide) ?_
  refine lv_if_ne (tgt := 195) hx hb d_Ref_whole_188 (by decide) (fun c_15 => absurd c_15 (by decide)) (fun c_15 => ?_)
  refine tp_pc (pc' := 191) (by rfl) ?_
  refine lv_iconst (v := 0) hx hb d_Ref_whole_191 (by decide) ?_
  refine lv_goto (tgt := 218) hx hb d_Ref_whole_192 (by decide) ?_
  refine tp_pc (pc' := 218) (by rfl) ?_
  refine va_iast (D := (dC, dI)) hx hb hK hP (dd_D hD rfl) hS 4 4 rfl rfl (i := 8) (x := 0) (vp_c (by decide)) d_Ref_whole_218 ?_
  clear hP hS locs H
  intro H locs hP _ hS
  replace hP : va_P (dC, dI) classes [ia h7 k6 8 (fun _ => 0), ia h8 k7 352000 f7, ia h11 k10 32000 f10, ia h12 k11 4 (upd f11 1 ((f11 1) + 1)), ia h21 k20 11 (fun _ => 0), ia h27 k26 8 (upd (upd (upd (upd (upd (upd (upd (upd (fun _ => 0) 0 0) 1 0) 2 0) 3 0) 4 0) 5 0) 6 0) 7 0), ia h30 k29 4 (fun _ => 0), oc h0 8 [.int 0, .int p1, .ref h1, .ref h2, .ref h3, .ref h4, .ref h5, .ref h6, .ref h7, .ref h8, .ref h9, .ref h10, .ref h11, .ref h12, .int p2, .ref h13, .ref h14, .ref h15, .ref h16, .int p3, .int p4, .ref h17, .ref h18, .ref h19, .int p5, .ref h20, .int p6, .int p7, .ref h21, .ref h22, .ref h23, .ref h24, .ref h25, .ref h26, .ref h27, .ref h28, .int 0, .int 1, .ref h29, .ref h30, .ref h31, .ref h32, .ref h33, .ref h34, .ref h35, .ref h36, .int 0, .ref h37]] H := P_cg 4 rfl (up_pt (by first | rfl | decide)) hP
  refine tp_pc (pc' := 219) (by rfl) ?_
  refine lv_iinc (v := 1) (lv' := [(1, .int 1), (0, .ref h0)]) hx hb d_Ref_whole_219 hl (k := 0) rfl (by first | rfl | decide) (by decide) rfl ?_
  clear hl ls
  intro ls hl
  refine lv_goto (tgt := 169) hx hb d_Ref_whole_222 (by decide) ?_
  refine tp_pc (pc' := 169) (by rfl) ?_
  refine lv_iload_n hx hb d_Ref_whole_169 rfl (lv_at hl 0 rfl) ?_
  refine lv_iconst (v := 3) hx hb d_Ref_whole_170 (by decide) ?_
  refine lv_icmp_ge (tgt := 225) hx hb d_Ref_whole_171 (by decide) (fun c_16 => absurd c_16 (by decide)) (fun c_16 => ?_)
  refine tp_pc (pc' := 174) (by rfl) ?_
  refine lv_aload_n hx hb d_Ref_whole_174 rfl (lv_at hl 1 rfl) ?_
  refine va_get (D := (dC, dI)) (ci := 8) (v := .ref h21) (C := R_Ref) (T := F_Ref) (N := 48) hx hb hw i_Ref hown hK hP 7 rfl rfl 28 (by decide) (hw _ m_927) (fun _ h9 => h9) rfl d_Ref_whole_175 ?_
  refine lv_bipush (v := 8) hx hb d_Ref_whole_178 (by decide) ?_
  refine lv_iload_n hx hb d_Ref_whole_180 rfl (lv_at hl 0 rfl) ?_
  refine lv_iadd hx hb d_Ref_whole_181 ?_
  refine tp_i (y := 9) (by first | rfl | decide) ?_
  refine lv_aload_n hx hb d_Ref_whole_182 rfl (lv_at hl 1 rfl) ?_
  refine va_get (D := (dC, dI)) (ci := 8) (v := .ref h30) (C := R_Ref) (T := F_Ref) (N := 48) hx hb hw i_Ref hown hK hP 7 rfl rfl 39 (by decide) (hw _ m_938) (fun _ h9 => h9) rfl d_Ref_whole_183 ?_
  refine lv_iload_n hx hb d_Ref_whole_186 rfl (lv_at hl 0 rfl) ?_
  refine va_iald (D := (dC, dI)) hx hb hK hP 6 6 rfl rfl (i := 1) (vp_c (by decide)) d_Ref_whole_187 ?_
  refine tp_i (y := 0) (by first | rfl | decide) ?_
  refine lv_if_ne (tgt := 195) hx hb d_Ref_whole_188 (by decide) (fun c_17 => absurd c_17 (by decide)) (fun c_17 => ?_)
  refine tp_pc (pc' := 191) (by rfl) ?_
  refine lv_iconst (v := 0) hx hb d_Ref_whole_191 (by decide) ?_
  refine lv_goto (tgt := 218) hx hb d_Ref_whole_192 (by decide) ?_
  refine tp_pc (pc' := 218) (by rfl) ?_
  refine va_iast (D := (dC, dI)) hx hb hK hP (dd_D hD rfl) hS 4 4 rfl rfl (i := 9) (x := 0) (vp_c (by decide)) d_Ref_whole_218 ?_
  clear hP hS locs H
  intro H locs hP _ hS
  replace hP : va_P (dC, dI) classes [ia h7 k6 8 (fun _ => 0), ia h8 k7 352000 f7, ia h11 k10 32000 f10, ia h12 k11 4 (upd f11 1 ((f11 1) + 1)), ia h21 k20 11 (fun _ => 0), ia h27 k26 8 (upd (upd (upd (upd (upd (upd (upd (upd (fun _ => 0) 0 0) 1 0) 2 0) 3 0) 4 0) 5 0) 6 0) 7 0), ia h30 k29 4 (fun _ => 0), oc h0 8 [.int 0, .int p1, .ref h1, .ref h2, .ref h3, .ref h4, .ref h5, .ref h6, .ref h7, .ref h8, .ref h9, .ref h10, .ref h11, .ref h12, .int p2, .ref h13, .ref h14, .ref h15, .ref h16, .int p3, .int p4, .ref h17, .ref h18, .ref h19, .int p5, .ref h20, .int p6, .int p7, .ref h21, .ref h22, .ref h23, .ref h24, .ref h25, .ref h26, .ref h27, .ref h28, .int 0, .int 1, .ref h29, .ref h30, .ref h31, .ref h32, .ref h33, .ref h34, .ref h35, .ref h36, .int 0, .ref h37]] H := P_cg 4 rfl (up_pt (by first | rfl | decide)) hP
  refine tp_pc (pc' := 219) (by rfl) ?_
  refine lv_iinc (v := 2) (lv' := [(1, .int 2), (0, .ref h0)]) hx hb d_Ref_whole_219 hl (k := 0) rfl (by first | rfl | decide) (by decide) rfl ?_
  clear hl ls
  intro ls hl
  refine lv_goto (tgt := 169) hx hb d_Ref_whole_222 (by decide) ?_
  refine tp_pc (pc' := 169) (by rfl) ?_
  refine lv_iload_n hx hb d_Ref_whole_169 rfl (lv_at hl 0 rfl) ?_
  refine lv_iconst (v := 3) hx hb d_Ref_whole_170 (by decide) ?_
  refine lv_icmp_ge (tgt := 225) hx hb d_Ref_whole_171 (by decide) (fun c_18 => absurd c_18 (by decide)) (fun c_18 => ?_)
  refine tp_pc (pc' := 174) (by rfl) ?_
  refine lv_aload_n hx hb d_Ref_whole_174 rfl (lv_at hl 1 rfl) ?_
  refine va_get (D := (dC, dI)) (ci := 8) (v := .ref h21) (C := R_Ref) (T := F_Ref) (N := 48) hx hb hw i_Ref hown hK hP 7 rfl rfl 28 (by decide) (hw _ m_927) (fun _ h9 => h9) rfl d_Ref_whole_175 ?_
  refine lv_bipush (v := 8) hx hb d_Ref_whole_178 (by decide) ?_
  refine lv_iload_n hx hb d_Ref_whole_180 rfl (lv_at hl 0 rfl) ?_
  refine lv_iadd hx hb d_Ref_whole_181 ?_
  refine tp_i (y := 10) (by first | rfl | decide) ?_
  refine lv_aload_n hx hb d_Ref_whole_182 rfl (lv_at hl 1 rfl) ?_
  refine va_get (D := (dC, dI)) (ci := 8) (v := .ref h30) (C := R_Ref) (T := F_Ref) (N := 48) hx hb hw i_Ref hown hK hP 7 rfl rfl 39 (by decide) (hw _ m_938) (fun _ h9 => h9) rfl d_Ref_whole_183 ?_
  refine lv_iload_n hx hb d_Ref_whole_186 rfl (lv_at hl 0 rfl) ?_
  refine va_iald (D := (dC, dI)) hx hb hK hP 6 6 rfl rfl (i := 2) (vp_c (by decide)) d_Ref_whole_187 ?_
  refine tp_i (y := 0) (by first | rfl | decide) ?_
  refine lv_if_ne (tgt := 195) hx hb d_Ref_whole_188 (by decide) (fun c_19 => absurd c_19 (by decide)) (fun c_19 => ?_)
  refine tp_pc (pc' := 191) (by rfl) ?_
  refine lv_iconst (v := 0) hx hb d_Ref_whole_191 (by decide) ?_
  refine lv_goto (tgt := 218) hx hb d_Ref_whole_192 (by decide) ?_
  refine tp_pc (pc' := 218) (by rfl) ?_
  refine va_iast (D := (dC, dI)) hx hb hK hP (dd_D hD rfl) hS 4 4 rfl rfl (i := 10) (x := 0) (vp_c (by decide)) d_Ref_whole_218 ?_
  clear hP hS locs H
  intro H locs hP _ hS
  replace hP : va_P (dC, dI) classes [ia h7 k6 8 (fun _ => 0), ia h8 k7 352000 f7, ia h11 k10 32000 f10, ia h12 k11 4 (upd f11 1 ((f11 1) + 1)), ia h21 k20 11 (fun _ => 0), ia h27 k26 8 (upd (upd (upd (upd (upd (upd (upd (upd (fun _ => 0) 0 0) 1 0) 2 0) 3 0) 4 0) 5 0) 6 0) 7 0), ia h30 k29 4 (fun _ => 0), oc h0 8 [.int 0, .int p1, .ref h1, .ref h2, .ref h3, .ref h4, .ref h5, .ref h6, .ref h7, .ref h8, .ref h9, .ref h10, .ref h11, .ref h12, .int p2, .ref h13, .ref h14, .ref h15, .ref h16, .int p3, .int p4, .ref h17, .ref h18, .ref h19, .int p5, .ref h20, .int p6, .int p7, .ref h21, .ref h22, .ref h23, .ref h24, .ref h25, .ref h26, .ref h27, .ref h28, .int 0, .int 1, .ref h29, .ref h30, .ref h31, .ref h32, .ref h33, .ref h34, .ref h35, .ref h36, .int 0, .ref h37]] H := P_cg 4 rfl (up_pt (by first | rfl | decide)) hP
  refine tp_pc (pc' := 219) (by rfl) ?_
  refine lv_iinc (v := 3) (lv' := [(1, .int 3), (0, .ref h0)]) hx hb d_Ref_whole_219 hl (k := 0) rfl (by first | rfl | decide) (by decide) rfl ?_
  clear hl ls
  intro ls hl
  refine lv_goto (tgt := 169) hx hb d_Ref_whole_222 (by decide) ?_
  refine tp_pc (pc' := 169) (by rfl) ?_
  refine lv_iload_n hx hb d_Ref_whole_169 rfl (lv_at hl 0 rfl) ?_
  refine lv_iconst (v := 3) hx hb d_Ref_whole_170 (by decide) ?_
  refine lv_icmp_ge (tgt := 225) hx hb d_Ref_whole_171 (by decide) (fun c_20 => ?_) (fun c_20 => absurd c_20 (by decide))
  refine tp_pc (pc' := 225) (by rfl) ?_
  refine lv_aload_n hx hb d_Ref_whole_225 rfl (lv_at hl 1 rfl) ?_
  refine lv_iconst (v := 4) hx hb d_Ref_whole_226 (by decide) ?_
  refine lv_aload_n hx hb d_Ref_whole_227 rfl (lv_at hl 1 rfl) ?_
  refine va_get (D := (dC, dI)) (ci := 8) (v := .int 1) (C := R_Ref) (T := F_Ref) (N := 48) hx hb hw i_Ref hown hK hP 7 rfl rfl 37 (by decide) (hw _ m_936) (fun _ h9 => h9) rfl d_Ref_whole_228 ?_
  refine lv_iadd hx hb d_Ref_whole_231 ?_
  refine tp_i (y := 5) (by first | rfl | decide) ?_
  obtain ⟨hPc, hDc, hFc⟩ := cut3 (wc := [oc h0 8 [.int 0, .int p1, .ref h1, .ref h2, .ref h3, .ref h4, .ref h5, .ref h6, .ref h7, .ref h8, .ref h9, .ref h10, .ref h11, .ref h12, .int p2, .ref h13, .ref h14, .ref h15, .ref h16, .int p3, .int p4, .ref h17, .ref h18, .ref h19, .int p5, .ref h20, .int p6, .int p7, .ref h21, .ref h22, .ref h23, .ref h24, .ref h25, .ref h26, .ref h27, .ref h28, .int 0, .int 1, .ref h29, .ref h30, .ref h31, .ref h32, .ref h33, .ref h34, .ref h35, .ref h36, .int 0, .ref h37], ia h7 k6 8 (fun _ => 0), ia h8 k7 352000 f7, ia h11 k10 32000 f10, ia h21 k20 11 (fun _ => 0)]) hP hD rfl hS hA [7, 0, 1, 2, 4] (by decide +kernel) rfl
  have hKc := hK.sub (tys' := [(k6, .int), (k7, .short), (k10, .int), (k20, .int)]) [0, 1, 2, 4] rfl
  refine va_calli (va_runV (As := [.int 5]) (rest := []) ⟨hx, hb, hml, hown, hw⟩ (c_Ref_addOutcome_v6 l dC dI h0 0 p1 h1 h2 h3 h4 h5 h6 h7 h8 h9 h10 h11 h12 p2 h13 h14 h15 h16 p3 p4 h17 h18 h19 p5 h20 p6 p7 h21 h22 h23 h24 h25 h26 h27 h28 0 1 h29 h30 h31 h32 h33 h34 h35 h36 0 h37 k6 k7 f7 k10 f10 k20 H.size) (cw_V 1 hw g_Ref_addOutcome rfl rfl rfl (hw _ m_109) (hw _ m_1162) (hw _ m_1164) (hw _ m_75) (by decide +kernel) ⟨Nat.le_of_ble_eq_true rfl, Nat.le_of_ble_eq_true rfl⟩) ⟨fun a U g mk q => by obtain ⟨q0, q1, qP, qK, qD, qN⟩ := q; exact ⟨q0, q1, qP, va_K.moved (u := U) (U := U.calling g mk a) (Vm.Alike.refl U.vm) qK, qD, nw_call qN⟩, va_recv hKc hPc (ci := 8) (q0 := 0) rfl rfl, fun U hU hW => ⟨rfl, by rw [hU], by rw [hU]; exact hPc, va_K.moved hW.alike hKc, hDc.weaken (fun _ _ _ _ => trivial), nw_warm hW hn⟩⟩ rfl rfl hl.1 rfl (lv_room (Nat.le_of_ble_eq_true rfl)) d_Ref_whole_232 ⟨Nat.le_of_ble_eq_true rfl, Nat.le_of_ble_eq_true rfl⟩) hS (fun q _ h => hFc q h) hFc ?_
  intro r_21 u t H1 locs1 ht hvm hw1 hB hz1 hk1 hS1
  obtain ⟨hP1, hK1, hD1⟩ := hB
  rw [ht] at hP1
  replace hK1 := va_K.moved hvm.symm hK1
  have hPD := join3 hP hD rfl [7, 0, 1, 2, 4] [3, 5, 6] rfl (by rfl) (by decide +kernel) (by decide +kernel) hk1 hFc hP1 hD1
  replace hK : va_K (dC, dI) classes [(k6, .int), (k7, .short), (k10, .int), (k11, .int), (k20, .int), (k26, .int), (k29, .int)] s := hK.app hK1
  clear hP1 hK1 hD1 hk1 hz1 hFc hKc hDc hPc hvm ht hP hS t locs H
  have hP : va_P (dC, dI) classes [ia h12 k11 4 (upd f11 1 ((f11 1) + 1)), ia h27 k26 8 (upd (upd (upd (upd (upd (upd (upd (upd (fun _ => 0) 0 0) 1 0) 2 0) 3 0) 4 0) 5 0) 6 0) 7 0), ia h30 k29 4 (fun _ => 0), oc h0 8 [.int 0, .int p1, .ref h1, .ref h2, .ref h3, .ref h4, .ref h5, .ref h6, .ref h7, .ref h8, .ref h9, .ref h10, .ref h11, .ref h12, .int p2, .ref h13, .ref h14, .ref h15, .ref h16, .int p3, .int p4, .ref h17, .ref h18, .ref h19, .int p5, .ref h20, .int p6, .int p7, .ref h21, .ref h22, .ref h23, .ref h24, .ref h25, .ref h26, .ref h27, .ref h28, .int 0, .int 1, .ref h29, .ref h30, .ref h31, .ref h32, .ref h33, .ref h34, .ref h35, .ref h36, .int 0, .ref h37], ia h7 k6 8 (upd (fun _ => 0) 5 1), ia h8 k7 352000 (upd (upd (upd (upd (upd (upd (upd (upd (upd (upd (upd f7 220000 0) 220001 0) 220002 0) 220003 0) 220004 0) 220005 0) 220006 0) 220007 0) 220008 0) 220009 0) 220010 0), ia h11 k10 32000 (upd f10 20000 0), ia h21 k20 11 (fun _ => 0)] H1 := hPD.1
  replace hD : dd A [h12, h27, h30, h0, h7, h8, h11, h21] := dd_of hPD.2 rfl
  clear hPD
  revert H1 locs1
  intro H locs hS hP
  refine tp_i (y := 0) hw1 ?_
  clear hw1 r_21 u
  refine tp_pc (pc' := 235) (by rfl) ?_
  refine lv_pop hx hb d_Ref_whole_235 rfl ?_
  obtain ⟨hP9, hD9, -⟩ := cut3 (wc := [oc h0 8 [.int 0, .int p1, .ref h1, .ref h2, .ref h3, .ref h4, .ref h5, .ref h6, .ref h7, .ref h8, .ref h9, .ref h10, .ref h11, .ref h12, .int p2, .ref h13, .ref h14, .ref h15, .ref h16, .int p3, .int p4, .ref h17, .ref h18, .ref h19, .int p5, .ref h20, .int p6, .int p7, .ref h21, .ref h22, .ref h23, .ref h24, .ref h25, .ref h26, .ref h27, .ref h28, .int 0, .int 1, .ref h29, .ref h30, .ref h31, .ref h32, .ref h33, .ref h34, .ref h35, .ref h36, .int 0, .ref h37], ia h7 k6 8 (upd (fun _ => 0) 5 1), ia h8 k7 352000 (upd (upd (upd (upd (upd (upd (upd (upd (upd (upd (upd f7 220000 0) 220001 0) 220002 0) 220003 0) 220004 0) 220005 0) 220006 0) 220007 0) 220008 0) 220009 0) 220010 0), ia h11 k10 32000 (upd f10 20000 0), ia h12 k11 4 (upd f11 1 ((f11 1) + 1)), ia h21 k20 11 (fun _ => 0), ia h27 k26 8 (upd (upd (upd (upd (upd (upd (upd (upd (fun _ => 0) 0 0) 1 0) 2 0) 3 0) 4 0) 5 0) 6 0) 7 0), ia h30 k29 4 (fun _ => 0)]) hP hD rfl hS hA [3, 4, 5, 6, 0, 7, 1, 2] (by decide +kernel) rfl
  have hK9 := hK.sub (tys' := []) [] rfl
  refine W.widen (k := 0) (n := 0) (by exact Nat.le_of_ble_eq_true rfl) (by exact Nat.le_of_ble_eq_true rfl) ?_
  exact W.vret hx hb hr (fun t ht hW => ⟨⟨(), rfl, trivial, by rw [ht]; exact hP9, va_K.moved hW.alike hK9, hD9⟩, hS.F ht⟩) hS.2.2 d_Ref_whole_236
set_option maxHeartbeats 4000000 in
set_option maxRecDepth 100000 in
theorem c_Ref_rows_v6 (l : Launch) (dC : Nat → ClassId) (dI : Nat → Nat → Nat) (h0 : Nat) (p2 : Int32) (h1 : Nat) (h2 : Nat) (h3 : Nat) (h4 : Nat) (h5 : Nat) (h6 : Nat) (h7 : Nat) (h8 : Nat) (h9 : Nat) (h10 : Nat) (h11 : Nat) (h12 : Nat) (p3 : Int32) (h13 : Nat) (h14 : Nat) (h15 : Nat) (h16 : Nat) (p4 : Int32) (p5 : Int32) (h17 : Nat) (h18 : Nat) (h19 : Nat) (p6 : Int32) (h20 : Nat) (p7 : Int32) (p8 : Int32) (h21 : Nat) (h22 : Nat) (h23 : Nat) (h24 : Nat) (h25 : Nat) (h26 : Nat) (h27 : Nat) (h28 : Nat) (h29 : Nat) (h30 : Nat) (h31 : Nat) (h32 : Nat) (h33 : Nat) (h34 : Nat) (h35 : Nat) (h36 : Nat) (p11 : Int32) (h37 : Nat) (k6 : ClassId) (k7 : ClassId) (f7 : Nat → Int32) (k10 : ClassId) (f10 : Nat → Int32) (k11 : ClassId) (f11 : Nat → Int32) (k20 : ClassId) (k26 : ClassId) (k29 : ClassId) (sz : Nat) : Met l y_Ref_rows w_Ref_rows ({ frames := 3, cells := 0, slots := 0, locals := 68 }) (va_Pc [.ref h0, .int 4] (fun U => U.heap.size = sz ∧ va_P (dC, dI) classes [oc h0 8 [.int 0, .int p2, .ref h1, .ref h2, .ref h3, .ref h4, .ref h5, .ref h6, .ref h7, .ref h8, .ref h9, .ref h10, .ref h11, .ref h12, .int p3, .ref h13, .ref h14, .ref h15, .ref h16, .int p4, .int p5, .ref h17, .ref h18, .ref h19, .int p6, .ref h20, .int p7, .int p8, .ref h21, .ref h22, .ref h23, .ref h24, .ref h25, .ref h26, .ref h27, .ref h28, .int 0, .int 1, .ref h29, .ref h30, .ref h31, .ref h32, .ref h33, .ref h34, .ref h35, .ref h36, .int p11, .ref h37], ia h7 k6 8 (fun _ => 0), ia h8 k7 352000 f7, ia h11 k10 32000 f10, ia h12 k11 4 f11, ia h21 k20 11 (fun _ => 0), ia h27 k26 8 (upd (upd (upd (upd (upd (upd (upd (upd (fun _ => 0) 0 0) 1 0) 2 0) 3 0) 4 0) 5 0) 6 0) 7 0), ia h30 k29 4 (fun _ => 0)] U.heap ∧ va_K (dC, dI) classes [(k6, .int), (k7, .short), (k10, .int), (k11, .int), (k20, .int), (k26, .int), (k29, .int)] U ∧ va_D (fun _ => True) [oc h0 8 [.int 0, .int p2, .ref h1, .ref h2, .ref h3, .ref h4, .ref h5, .ref h6, .ref h7, .ref h8, .ref h9, .ref h10, .ref h11, .ref h12, .int p3, .ref h13, .ref h14, .ref h15, .ref h16, .int p4, .int p5, .ref h17, .ref h18, .ref h19, .int p6, .ref h20, .int p7, .int p8, .ref h21, .ref h22, .ref h23, .ref h24, .ref h25, .ref h26, .ref h27, .ref h28, .int 0, .int 1, .ref h29, .ref h30, .ref h31, .ref h32, .ref h33, .ref h34, .ref h35, .ref h36, .int p11, .ref h37], ia h7 k6 8 (fun _ => 0), ia h8 k7 352000 f7, ia h11 k10 32000 f10, ia h12 k11 4 f11, ia h21 k20 11 (fun _ => 0), ia h27 k26 8 (upd (upd (upd (upd (upd (upd (upd (upd (fun _ => 0) 0 0) 1 0) 2 0) 3 0) 4 0) 5 0) 6 0) 7 0), ia h30 k29 4 (fun _ => 0)] ∧ nw U)) (va_Qv (fun _ : Unit => True) (fun _ t => va_P (dC, dI) classes [oc h0 8 [.int 0, .int p2, .ref h1, .ref h2, .ref h3, .ref h4, .ref h5, .ref h6, .ref h7, .ref h8, .ref h9, .ref h10, .ref h11, .ref h12, .int p3, .ref h13, .ref h14, .ref h15, .ref h16, .int p4, .int p5, .ref h17, .ref h18, .ref h19, .int p6, .ref h20, .int p7, .int p8, .ref h21, .ref h22, .ref h23, .ref h24, .ref h25, .ref h26, .ref h27, .ref h28, .int 0, .int 1, .ref h29, .ref h30, .ref h31, .ref h32, .ref h33, .ref h34, .ref h35, .ref h36, .int 0, .ref h37], ia h7 k6 8 (upd (fun _ => 0) 5 1), ia h8 k7 352000 (upd (upd (upd (upd (upd (upd (upd (upd (upd (upd (upd f7 220000 0) 220001 0) 220002 0) 220003 0) 220004 0) 220005 0) 220006 0) 220007 0) 220008 0) 220009 0) 220010 0), ia h11 k10 32000 (upd f10 20000 0), ia h12 k11 4 (upd f11 1 ((f11 1) + 1)), ia h21 k20 11 (fun _ => 0), ia h27 k26 8 (upd (upd (upd (upd (upd (upd (upd (upd (fun _ => 0) 0 0) 1 0) 2 0) 3 0) 4 0) 5 0) 6 0) 7 0), ia h30 k29 4 (fun _ => 0)] t.heap ∧ va_K (dC, dI) classes [] t ∧ va_D (va_A [oc h0 8 [.int 0, .int p2, .ref h1, .ref h2, .ref h3, .ref h4, .ref h5, .ref h6, .ref h7, .ref h8, .ref h9, .ref h10, .ref h11, .ref h12, .int p3, .ref h13, .ref h14, .ref h15, .ref h16, .int p4, .int p5, .ref h17, .ref h18, .ref h19, .int p6, .ref h20, .int p7, .int p8, .ref h21, .ref h22, .ref h23, .ref h24, .ref h25, .ref h26, .ref h27, .ref h28, .int 0, .int 1, .ref h29, .ref h30, .ref h31, .ref h32, .ref h33, .ref h34, .ref h35, .ref h36, .int p11, .ref h37], ia h7 k6 8 (fun _ => 0), ia h8 k7 352000 f7, ia h11 k10 32000 f10, ia h12 k11 4 f11, ia h21 k20 11 (fun _ => 0), ia h27 k26 8 (upd (upd (upd (upd (upd (upd (upd (upd (fun _ => 0) 0 0) 1 0) 2 0) 3 0) 4 0) 5 0) 6 0) 7 0), ia h30 k29 4 (fun _ => 0)] sz) [oc h0 8 [.int 0, .int p2, .ref h1, .ref h2, .ref h3, .ref h4, .ref h5, .ref h6, .ref h7, .ref h8, .ref h9, .ref h10, .ref h11, .ref h12, .int p3, .ref h13, .ref h14, .ref h15, .ref h16, .int p4, .int p5, .ref h17, .ref h18, .ref h19, .int p6, .ref h20, .int p7, .int p8, .ref h21, .ref h22, .ref h23, .ref h24, .ref h25, .ref h26, .ref h27, .ref h28, .int 0, .int 1, .ref h29, .ref h30, .ref h31, .ref h32, .ref h33, .ref h34, .ref h35, .ref h36, .int 0, .ref h37], ia h7 k6 8 (upd (fun _ => 0) 5 1), ia h8 k7 352000 (upd (upd (upd (upd (upd (upd (upd (upd (upd (upd (upd f7 220000 0) 220001 0) 220002 0) 220003 0) 220004 0) 220005 0) 220006 0) 220007 0) 220008 0) 220009 0) 220010 0), ia h11 k10 32000 (upd f10 20000 0), ia h12 k11 4 (upd f11 1 ((f11 1) + 1)), ia h21 k20 11 (fun _ => 0), ia h27 k26 8 (upd (upd (upd (upd (upd (upd (upd (upd (fun _ => 0) 0 0) 1 0) 2 0) 3 0) 4 0) 5 0) 6 0) 7 0), ia h30 k29 4 (fun _ => 0)]) (va_A [oc h0 8 [.int 0, .int p2, .ref h1, .ref h2, .ref h3, .ref h4, .ref h5, .ref h6, .ref h7, .ref h8, .ref h9, .ref h10, .ref h11, .ref h12, .int p3, .ref h13, .ref h14, .ref h15, .ref h16, .int p4, .int p5, .ref h17, .ref h18, .ref h19, .int p6, .ref h20, .int p7, .int p8, .ref h21, .ref h22, .ref h23, .ref h24, .ref h25, .ref h26, .ref h27, .ref h28, .int 0, .int 1, .ref h29, .ref h30, .ref h31, .ref h32, .ref h33, .ref h34, .ref h35, .ref h36, .int p11, .ref h37], ia h7 k6 8 (fun _ => 0), ia h8 k7 352000 f7, ia h11 k10 32000 f10, ia h12 k11 4 f11, ia h21 k20 11 (fun _ => 0), ia h27 k26 8 (upd (upd (upd (upd (upd (upd (upd (upd (fun _ => 0) 0 0) 1 0) 2 0) 3 0) 4 0) 5 0) 6 0) 7 0), ia h30 k29 4 (fun _ => 0)] sz)) 0 0 (va_A [oc h0 8 [.int 0, .int p2, .ref h1, .ref h2, .ref h3, .ref h4, .ref h5, .ref h6, .ref h7, .ref h8, .ref h9, .ref h10, .ref h11, .ref h12, .int p3, .ref h13, .ref h14, .ref h15, .ref h16, .int p4, .int p5, .ref h17, .ref h18, .ref h19, .int p6, .ref h20, .int p7, .int p8, .ref h21, .ref h22, .ref h23, .ref h24, .ref h25, .ref h26, .ref h27, .ref h28, .int 0, .int 1, .ref h29, .ref h30, .ref h31, .ref h32, .ref h33, .ref h34, .ref h35, .ref h36, .int p11, .ref h37], ia h7 k6 8 (fun _ => 0), ia h8 k7 352000 f7, ia h11 k10 32000 f10, ia h12 k11 4 f11, ia h21 k20 11 (fun _ => 0), ia h27 k26 8 (upd (upd (upd (upd (upd (upd (upd (upd (fun _ => 0) 0 0) 1 0) 2 0) 3 0) 4 0) 5 0) 6 0) 7 0), ia h30 k29 4 (fun _ => 0)] sz) := by
  refine Met.ofW (cc := b_Ref_rows) (maxL := 5) (ret := none) (by decide) rfl ?_
  intro p e s m args below meth c s₁ B hml hv
  obtain ⟨rfl, hsz, hP, hK, hD0, hn⟩ := hv
  have hx := B.exec
  have hb := B.bytes
  have hr := B.returns
  have hw := fun w (h : w ∈ wt) => atoms_spec (ws := w_Ref_rows) B.pre w (List.mem_cons_of_mem _ h)
  have hown : s.vm.findClass R_Ref = some m.cls := findClass_of_methodNamed B.named
  have hlocks := B.notSynchronized
  subst hsz
  have hD1 := hD0.self (sz := s.heap.size)
  generalize hAe : va_A [oc h0 8 [.int 0, .int p2, .ref h1, .ref h2, .ref h3, .ref h4, .ref h5, .ref h6, .ref h7, .ref h8, .ref h9, .ref h10, .ref h11, .ref h12, .int p3, .ref h13, .ref h14, .ref h15, .ref h16, .int p4, .int p5, .ref h17, .ref h18, .ref h19, .int p6, .ref h20, .int p7, .int p8, .ref h21, .ref h22, .ref h23, .ref h24, .ref h25, .ref h26, .ref h27, .ref h28, .int 0, .int 1, .ref h29, .ref h30, .ref h31, .ref h32, .ref h33, .ref h34, .ref h35, .ref h36, .int p11, .ref h37], ia h7 k6 8 (fun _ => 0), ia h8 k7 352000 f7, ia h11 k10 32000 f10, ia h12 k11 4 f11, ia h21 k20 11 (fun _ => 0), ia h27 k26 8 (upd (upd (upd (upd (upd (upd (upd (upd (fun _ => 0) 0 0) 1 0) 2 0) 3 0) 4 0) 5 0) 6 0) 7 0), ia h30 k29 4 (fun _ => 0)] s.heap.size = A at hD1 ⊢
  have hA : ∀ q : Nat, s.heap.size ≤ q → A q := fun q h => by rw [← hAe]; exact Or.inr h
  have hD : dd A [h0, h7, h8, h11, h12, h21, h27, h30] := dd_of hD1 rfl
  clear hAe hD0 hD1
  have hS : va_S A s.heap s.heap [] := va_S.rf
  replace hP : va_P (dC, dI) classes [oc h0 8 [.int 0, .int p2, .ref h1, .ref h2, .ref h3, .ref h4, .ref h5, .ref h6, .ref h7, .ref h8, .ref h9, .ref h10, .ref h11, .ref h12, .int p3, .ref h13, .ref h14, .ref h15, .ref h16, .int p4, .int p5, .ref h17, .ref h18, .ref h19, .int p6, .ref h20, .int p7, .int p8, .ref h21, .ref h22, .ref h23, .ref h24, .ref h25, .ref h26, .ref h27, .ref h28, .int 0, .int 1, .ref h29, .ref h30, .ref h31, .ref h32, .ref h33, .ref h34, .ref h35, .ref h36, .int p11, .ref h37], ia h7 k6 8 (fun _ => 0), ia h8 k7 352000 f7, ia h11 k10 32000 f10, ia h12 k11 4 f11, ia h21 k20 11 (fun _ => 0), ia h27 k26 8 (upd (upd (upd (upd (upd (upd (upd (upd (fun _ => 0) 0 0) 1 0) 2 0) 3 0) 4 0) 5 0) 6 0) 7 0), ia h30 k29 4 (fun _ => 0)] s.heap := hP
  have hl := lv_entry ([.ref h0, .int 4]) (n := 5) (Nat.le_of_ble_eq_true rfl)
  rw [lg_entry_eq]
  generalize (lg_sl ([.ref h0, .int 4]) ++ List.replicate (5 - (lg_sl ([.ref h0, .int 4])).length) Slot.unset).toArray = ls at hl ⊢
  replace hl : lv_has ls 5 [(0, .ref h0), (1, .int 4)] := hl
  refine lv_iload_n hx hb d_Ref_rows_0 rfl (lv_at hl 1 rfl) ?_
  refine lv_iconst (v := 4) hx hb d_Ref_rows_1 (by decide) ?_
  refine lv_icmp_ne (tgt := 10) hx hb d_Ref_rows_2 (by decide) (fun c_1 => absurd c_1 (by decide)) (fun c_1 => ?_)
  refine tp_pc (pc' := 5) (by rfl) ?_
  refine lv_aload_n hx hb d_Ref_rows_5 rfl (lv_at hl 0 rfl) ?_
  obtain ⟨hPc, hDc, hFc⟩ := cut3 (wc := [oc h0 8 [.int 0, .int p2, .ref h1, .ref h2, .ref h3, .ref h4, .ref h5, .ref h6, .ref h7, .ref h8, .ref h9, .ref h10, .ref h11, .ref h12, .int p3, .ref h13, .ref h14, .ref h15, .ref h16, .int p4, .int p5, .ref h17, .ref h18, .ref h19, .int p6, .ref h20, .int p7, .int p8, .ref h21, .ref h22, .ref h23, .ref h24, .ref h25, .ref h26, .ref h27, .ref h28, .int 0, .int 1, .ref h29, .ref h30, .ref h31, .ref h32, .ref h33, .ref h34, .ref h35, .ref h36, .int p11, .ref h37], ia h7 k6 8 (fun _ => 0), ia h8 k7 352000 f7, ia h11 k10 32000 f10, ia h12 k11 4 f11, ia h21 k20 11 (fun _ => 0), ia h27 k26 8 (upd (upd (upd (upd (upd (upd (upd (upd (fun _ => 0) 0 0) 1 0) 2 0) 3 0) 4 0) 5 0) 6 0) 7 0), ia h30 k29 4 (fun _ => 0)]) hP hD rfl hS hA [0, 1, 2, 3, 4, 5, 6, 7] (by decide +kernel) rfl
  have hKc := hK.sub (tys' := [(k6, .int), (k7, .short), (k10, .int), (k11, .int), (k20, .int), (k26, .int), (k29, .int)]) [0, 1, 2, 3, 4, 5, 6] rfl
  refine va_callv (va_runV (As := []) (rest := []) ⟨hx, hb, hml, hown, hw⟩ (c_Ref_whole_v2 l dC dI h0 p2 h1 h2 h3 h4 h5 h6 h7 h8 h9 h10 h11 h12 p3 h13 h14 h15 h16 p4 p5 h17 h18 h19 p6 h20 p7 p8 h21 h22 h23 h24 h25 h26 h27 h28 h29 h30 h31 h32 h33 h34 h35 h36 p11 h37 k6 k7 f7 k10 f10 k11 f11 k20 k26 k29 s.heap.size) (cw_V 0 hw g_Ref_whole rfl rfl rfl (hw _ m_109) (hw _ m_1213) (hw _ m_1215) (hw _ m_84) (by decide +kernel) ⟨Nat.le_of_ble_eq_true rfl, Nat.le_of_ble_eq_true rfl⟩) ⟨fun a U g mk q => by obtain ⟨q0, q1, qP, qK, qD, qN⟩ := q; exact ⟨q0, q1, qP, va_K.moved (u := U) (U := U.calling g mk a) (Vm.Alike.refl U.vm) qK, qD, nw_call qN⟩, va_recv hKc hPc (ci := 8) (q0 := 0) rfl rfl, fun U hU hW => ⟨rfl, by rw [hU], by rw [hU]; exact hPc, va_K.moved hW.alike hKc, hDc.weaken (fun _ _ _ _ => trivial), nw_warm hW hn⟩⟩ rfl rfl hl.1 rfl (lv_room (Nat.le_of_ble_eq_true rfl)) d_Ref_rows_6 ⟨Nat.le_of_ble_eq_true rfl, Nat.le_of_ble_eq_true rfl⟩) hS (fun q _ h => hFc q h) hFc ?_
  intro u t H1 locs1 ht hvm hw1 hB hz1 hk1 hS1
  obtain ⟨hP1, hK1, hD1⟩ := hB
  rw [ht] at hP1
  replace hK1 := va_K.moved hvm.symm hK1
  have hPD := join3 hP hD rfl [0, 1, 2, 3, 4, 5, 6, 7] [] rfl (by rfl) (by decide +kernel) (by decide +kernel) hk1 hFc hP1 hD1
  replace hK : va_K (dC, dI) classes [(k6, .int), (k7, .short), (k10, .int), (k11, .int), (k20, .int), (k26, .int), (k29, .int)] s := hK.app hK1
  clear hP1 hK1 hD1 hk1 hz1 hFc hKc hDc hPc hvm ht hP hS t
  have hP : va_P (dC, dI) classes [oc h0 8 [.int 0, .int p2, .ref h1, .ref h2, .ref h3, .ref h4, .ref h5, .ref h6, .ref h7, .ref h8, .ref h9, .ref h10, .ref h11, .ref h12, .int p3, .ref h13, .ref h14, .ref h15, .ref h16, .int p4, .int p5, .ref h17, .ref h18, .ref h19, .int p6, .ref h20, .int p7, .int p8, .ref h21, .ref h22, .ref h23, .ref h24, .ref h25, .ref h26, .ref h27, .ref h28, .int 0, .int 1, .ref h29, .ref h30, .ref h31, .ref h32, .ref h33, .ref h34, .ref h35, .ref h36, .int 0, .ref h37], ia h7 k6 8 (upd (fun _ => 0) 5 1), ia h8 k7 352000 (upd (upd (upd (upd (upd (upd (upd (upd (upd (upd (upd f7 220000 0) 220001 0) 220002 0) 220003 0) 220004 0) 220005 0) 220006 0) 220007 0) 220008 0) 220009 0) 220010 0), ia h11 k10 32000 (upd f10 20000 0), ia h12 k11 4 (upd f11 1 ((f11 1) + 1)), ia h21 k20 11 (fun _ => 0), ia h27 k26 8 (upd (upd (upd (upd (upd (upd (upd (upd (fun _ => 0) 0 0) 1 0) 2 0) 3 0) 4 0) 5 0) 6 0) 7 0), ia h30 k29 4 (fun _ => 0)] H1 := hPD.1
  replace hD : dd A [h0, h7, h8, h11, h12, h21, h27, h30] := dd_of hPD.2 rfl
  clear hPD
  revert H1 locs1
  intro H locs hS hP
  clear hw1 u
  refine tp_pc (pc' := 9) (by rfl) ?_
  obtain ⟨hP9, hD9, -⟩ := cut3 (wc := [oc h0 8 [.int 0, .int p2, .ref h1, .ref h2, .ref h3, .ref h4, .ref h5, .ref h6, .ref h7, .ref h8, .ref h9, .ref h10, .ref h11, .ref h12, .int p3, .ref h13, .ref h14, .ref h15, .ref h16, .int p4, .int p5, .ref h17, .ref h18, .ref h19, .int p6, .ref h20, .int p7, .int p8, .ref h21, .ref h22, .ref h23, .ref h24, .ref h25, .ref h26, .ref h27, .ref h28, .int 0, .int 1, .ref h29, .ref h30, .ref h31, .ref h32, .ref h33, .ref h34, .ref h35, .ref h36, .int 0, .ref h37], ia h7 k6 8 (upd (fun _ => 0) 5 1), ia h8 k7 352000 (upd (upd (upd (upd (upd (upd (upd (upd (upd (upd (upd f7 220000 0) 220001 0) 220002 0) 220003 0) 220004 0) 220005 0) 220006 0) 220007 0) 220008 0) 220009 0) 220010 0), ia h11 k10 32000 (upd f10 20000 0), ia h12 k11 4 (upd f11 1 ((f11 1) + 1)), ia h21 k20 11 (fun _ => 0), ia h27 k26 8 (upd (upd (upd (upd (upd (upd (upd (upd (fun _ => 0) 0 0) 1 0) 2 0) 3 0) 4 0) 5 0) 6 0) 7 0), ia h30 k29 4 (fun _ => 0)]) hP hD rfl hS hA [0, 1, 2, 3, 4, 5, 6, 7] (by decide +kernel) rfl
  have hK9 := hK.sub (tys' := []) [] rfl
  refine W.widen (k := 0) (n := 0) (by exact Nat.le_of_ble_eq_true rfl) (by exact Nat.le_of_ble_eq_true rfl) ?_
  exact W.vret hx hb hr (fun t ht hW => ⟨⟨(), rfl, trivial, by rw [ht]; exact hP9, va_K.moved hW.alike hK9, hD9⟩, hS.F ht⟩) hS.2.2 d_Ref_rows_9
