set_option maxHeartbeats 4000000 in
set_option maxRecDepth 100000 in
theorem c_Ref_findGraphs_v2 (l : Launch) (dC : Nat → ClassId) (dI : Nat → Nat → Nat) (h0 : Nat) (p2 : Int32) (h1 : Nat) (h2 : Nat) (h3 : Nat) (h4 : Nat) (h5 : Nat) (h6 : Nat) (h7 : Nat) (h8 : Nat) (h9 : Nat) (h10 : Nat) (h11 : Nat) (h12 : Nat) (p3 : Int32) (h13 : Nat) (h14 : Nat) (h15 : Nat) (h16 : Nat) (p4 : Int32) (p5 : Int32) (h17 : Nat) (h18 : Nat) (h19 : Nat) (p6 : Int32) (h20 : Nat) (p7 : Int32) (p8 : Int32) (h21 : Nat) (h22 : Nat) (h23 : Nat) (h24 : Nat) (h25 : Nat) (h26 : Nat) (h27 : Nat) (h28 : Nat) (p9 : Int32) (p10 : Int32) (h29 : Nat) (h30 : Nat) (h31 : Nat) (h32 : Nat) (h33 : Nat) (h34 : Nat) (h35 : Nat) (h36 : Nat) (p11 : Int32) (h37 : Nat) (k5 : ClassId) (k6 : ClassId) (k7 : ClassId) (f7 : Nat → Int32) (k10 : ClassId) (f10 : Nat → Int32) (k11 : ClassId) (f11 : Nat → Int32) (k20 : ClassId) (k22 : ClassId) (f22 : Nat → Int32) (k23 : ClassId) (f23 : Nat → Int32) (k25 : ClassId) (f25 : Nat → Int32) (k26 : ClassId) (k29 : ClassId) (sz : Nat) : Met l y_Ref_findGraphs w_Ref_findGraphs ({ frames := 10, cells := 0, slots := 0, locals := 233 }) (va_Pc [.ref h0, .int 1] (fun U => U.heap.size = sz ∧ va_P (dC, dI) classes [oc h0 8 [.int 0, .int p2, .ref h1, .ref h2, .ref h3, .ref h4, .ref h5, .ref h6, .ref h7, .ref h8, .ref h9, .ref h10, .ref h11, .ref h12, .int p3, .ref h13, .ref h14, .ref h15, .ref h16, .int p4, .int p5, .ref h17, .ref h18, .ref h19, .int p6, .ref h20, .int p7, .int p8, .ref h21, .ref h22, .ref h23, .ref h24, .ref h25, .ref h26, .ref h27, .ref h28, .int p9, .int p10, .ref h29, .ref h30, .ref h31, .ref h32, .ref h33, .ref h34, .ref h35, .ref h36, .int p11, .ref h37], ia h6 k5 8 (fun _ => 0), ia h7 k6 8 (fun _ => 0), ia h8 k7 352000 f7, ia h11 k10 32000 f10, ia h12 k11 4 f11, ia h21 k20 11 (fun _ => 0), ia h23 k22 28 f22, ia h24 k23 28 f23, ia h26 k25 4 f25, ia h27 k26 8 (fun _ => 0), ia h30 k29 4 (fun _ => 0)] U.heap ∧ va_K (dC, dI) classes [(k5, .boolean), (k6, .int), (k7, .short), (k10, .int), (k11, .int), (k20, .int), (k22, .boolean), (k23, .boolean), (k25, .int), (k26, .int), (k29, .int)] U ∧ va_D (fun _ => True) [oc h0 8 [.int 0, .int p2, .ref h1, .ref h2, .ref h3, .ref h4, .ref h5, .ref h6, .ref h7, .ref h8, .ref h9, .ref h10, .ref h11, .ref h12, .int p3, .ref h13, .ref h14, .ref h15, .ref h16, .int p4, .int p5, .ref h17, .ref h18, .ref h19, .int p6, .ref h20, .int p7, .int p8, .ref h21, .ref h22, .ref h23, .ref h24, .ref h25, .ref h26, .ref h27, .ref h28, .int p9, .int p10, .ref h29, .ref h30, .ref h31, .ref h32, .ref h33, .ref h34, .ref h35, .ref h36, .int p11, .ref h37], ia h6 k5 8 (fun _ => 0), ia h7 k6 8 (fun _ => 0), ia h8 k7 352000 f7, ia h11 k10 32000 f10, ia h12 k11 4 f11, ia h21 k20 11 (fun _ => 0), ia h23 k22 28 f22, ia h24 k23 28 f23, ia h26 k25 4 f25, ia h27 k26 8 (fun _ => 0), ia h30 k29 4 (fun _ => 0)] ∧ nw U)) (va_Qv (fun _ : Unit => True) (fun _ t => va_P (dC, dI) classes [oc h0 8 [.int 0, .int p2, .ref h1, .ref h2, .ref h3, .ref h4, .ref h5, .ref h6, .ref h7, .ref h8, .ref h9, .ref h10, .ref h11, .ref h12, .int p3, .ref h13, .ref h14, .ref h15, .ref h16, .int p4, .int p5, .ref h17, .ref h18, .ref h19, .int p6, .ref h20, .int p7, .int p8, .ref h21, .ref h22, .ref h23, .ref h24, .ref h25, .ref h26, .ref h27, .ref h28, .int 0, .int 1, .ref h29, .ref h30, .ref h31, .ref h32, .ref h33, .ref h34, .ref h35, .ref h36, .int 0, .ref h37], ia h6 k5 8 (upd (fun _ => 0) 5 1), ia h7 k6 8 (upd (fun _ => 0) 5 1), ia h8 k7 352000 (upd (upd (upd (upd (upd (upd (upd (upd (upd (upd (upd f7 220000 0) 220001 0) 220002 0) 220003 0) 220004 0) 220005 0) 220006 0) 220007 0) 220008 0) 220009 0) 220010 0), ia h11 k10 32000 (upd f10 20000 0), ia h12 k11 4 (upd (upd f11 1 0) 1 1), ia h21 k20 11 (fun _ => 0), ia h23 k22 28 (upd (upd (upd (upd (upd (upd (upd (upd (upd (upd (upd (upd (upd (upd (upd (upd (upd (upd (upd (upd (upd (upd (upd (upd (upd (upd (upd (upd f22 0 0) 1 0) 2 0) 3 0) 4 0) 5 0) 6 0) 7 0) 8 0) 9 0) 10 0) 11 0) 12 0) 13 0) 14 0) 15 0) 16 0) 17 0) 18 0) 19 0) 20 0) 21 0) 22 0) 23 0) 24 0) 25 0) 26 0) 27 0), ia h24 k23 28 (upd (upd (upd (upd (upd (upd (upd (upd (upd (upd (upd (upd (upd (upd (upd (upd (upd (upd (upd (upd (upd (upd (upd (upd (upd (upd (upd (upd f23 0 0) 1 0) 2 0) 3 0) 4 0) 5 0) 6 0) 7 0) 8 0) 9 0) 10 0) 11 0) 12 0) 13 0) 14 0) 15 0) 16 0) 17 0) 18 0) 19 0) 20 0) 21 0) 22 0) 23 0) 24 0) 25 0) 26 0) 27 0), ia h26 k25 4 (upd (upd (upd (upd f25 0 0) 1 0) 2 0) 3 0), ia h27 k26 8 (upd (upd (upd (upd (upd (upd (upd (upd (fun _ => 0) 0 0) 1 0) 2 0) 3 0) 4 0) 5 0) 6 0) 7 0), ia h30 k29 4 (fun _ => 0)] t.heap ∧ va_K (dC, dI) classes [] t ∧ va_D (va_A [oc h0 8 [.int 0, .int p2, .ref h1, .ref h2, .ref h3, .ref h4, .ref h5, .ref h6, .ref h7, .ref h8, .ref h9, .ref h10, .ref h11, .ref h12, .int p3, .ref h13, .ref h14, .ref h15, .ref h16, .int p4, .int p5, .ref h17, .ref h18, .ref h19, .int p6, .ref h20, .int p7, .int p8, .ref h21, .ref h22, .ref h23, .ref h24, .ref h25, .ref h26, .ref h27, .ref h28, .int p9, .int p10, .ref h29, .ref h30, .ref h31, .ref h32, .ref h33, .ref h34, .ref h35, .ref h36, .int p11, .ref h37], ia h6 k5 8 (fun _ => 0), ia h7 k6 8 (fun _ => 0), ia h8 k7 352000 f7, ia h11 k10 32000 f10, ia h12 k11 4 f11, ia h21 k20 11 (fun _ => 0), ia h23 k22 28 f22, ia h24 k23 28 f23, ia h26 k25 4 f25, ia h27 k26 8 (fun _ => 0), ia h30 k29 4 (fun _ => 0)] sz) [oc h0 8 [.int 0, .int p2, .ref h1, .ref h2, .ref h3, .ref h4, .ref h5, .ref h6, .ref h7, .ref h8, .ref h9, .ref h10, .ref h11, .ref h12, .int p3, .ref h13, .ref h14, .ref h15, .ref h16, .int p4, .int p5, .ref h17, .ref h18, .ref h19, .int p6, .ref h20, .int p7, .int p8, .ref h21, .ref h22, .ref h23, .ref h24, .ref h25, .ref h26, .ref h27, .ref h28, .int 0, .int 1, .ref h29, .ref h30, .ref h31, .ref h32, .ref h33, .ref h34, .ref h35, .ref h36, .int 0, .ref h37], ia h6 k5 8 (upd (fun _ => 0) 5 1), ia h7 k6 8 (upd (fun _ => 0) 5 1), ia h8 k7 352000 (upd (upd (upd (upd (upd (upd (upd (upd (upd (upd (upd f7 220000 0) 220001 0) 220002 0) 220003 0) 220004 0) 220005 0) 220006 0) 220007 0) 220008 0) 220009 0) 220010 0), ia h11 k10 32000 (upd f10 20000 0), ia h12 k11 4 (upd (upd f11 1 0) 1 1), ia h21 k20 11 (fun _ => 0), ia h23 k22 28 (upd (upd (upd (upd (upd (upd (upd (upd (upd (upd (upd (upd (upd (upd (upd (upd (upd (upd (upd (upd (upd (upd (upd (upd (upd (upd (upd (upd f22 0 0) 1 0) 2 0) 3 0) 4 0) 5 0) 6 0) 7 0) 8 0) 9 0) 10 0) 11 0) 12 0) 13 0) 14 0) 15 0) 16 0) 17 0) 18 0) 19 0) 20 0) 21 0) 22 0) 23 0) 24 0) 25 0) 26 0) 27 0), ia h24 k23 28 (upd (upd (upd (upd (upd (upd (upd (upd (upd (upd (upd (upd (upd (upd (upd (upd (upd (upd (upd (upd (upd (upd (upd (upd (upd (upd (upd (upd f23 0 0) 1 0) 2 0) 3 0) 4 0) 5 0) 6 0) 7 0) 8 0) 9 0) 10 0) 11 0) 12 0) 13 0) 14 0) 15 0) 16 0) 17 0) 18 0) 19 0) 20 0) 21 0) 22 0) 23 0) 24 0) 25 0) 26 0) 27 0), ia h26 k25 4 (upd (upd (upd (upd f25 0 0) 1 0) 2 0) 3 0), ia h27 k26 8 (upd (upd (upd (upd (upd (upd (upd (upd (fun _ => 0) 0 0) 1 0) 2 0) 3 0) 4 0) 5 0) 6 0) 7 0), ia h30 k29 4 (fun _ => 0)]) (va_A [oc h0 8 [.int 0, .int p2, .ref h1, .ref h2, .ref h3, .ref h4, .ref h5, .ref h6, .ref h7, .ref h8, .ref h9, .ref h10, .ref h11, .ref h12, .int p3, .ref h13, .ref h14, .ref h15, .ref h16, .int p4, .int p5, .ref h17, .ref h18, .ref h19, .int p6, .ref h20, .int p7, .int p8, .ref h21, .ref h22, .ref h23, .ref h24, .ref h25, .ref h26, .ref h27, .ref h28, .int p9, .int p10, .ref h29, .ref h30, .ref h31, .ref h32, .ref h33, .ref h34, .ref h35, .ref h36, .int p11, .ref h37], ia h6 k5 8 (fun _ => 0), ia h7 k6 8 (fun _ => 0), ia h8 k7 352000 f7, ia h11 k10 32000 f10, ia h12 k11 4 f11, ia h21 k20 11 (fun _ => 0), ia h23 k22 28 f22, ia h24 k23 28 f23, ia h26 k25 4 f25, ia h27 k26 8 (fun _ => 0), ia h30 k29 4 (fun _ => 0)] sz)) 0 0 (va_A [oc h0 8 [.int 0, .int p2, .ref h1, .ref h2, .ref h3, .ref h4, .ref h5, .ref h6, .ref h7, .ref h8, .ref h9, .ref h10, .ref h11, .ref h12, .int p3, .ref h13, .ref h14, .ref h15, .ref h16, .int p4, .int p5, .ref h17, .ref h18, .ref h19, .int p6, .ref h20, .int p7, .int p8, .ref h21, .ref h22, .ref h23, .ref h24, .ref h25, .ref h26, .ref h27, .ref h28, .int p9, .int p10, .ref h29, .ref h30, .ref h31, .ref h32, .ref h33, .ref h34, .ref h35, .ref h36, .int p11, .ref h37], ia h6 k5 8 (fun _ => 0), ia h7 k6 8 (fun _ => 0), ia h8 k7 352000 f7, ia h11 k10 32000 f10, ia h12 k11 4 f11, ia h21 k20 11 (fun _ => 0), ia h23 k22 28 f22, ia h24 k23 28 f23, ia h26 k25 4 f25, ia h27 k26 8 (fun _ => 0), ia h30 k29 4 (fun _ => 0)] sz) := by
  refine Met.ofW (cc := b_Ref_findGraphs) (maxL := 4) (ret := none) (by decide) rfl ?_
  intro p e s m args below meth c s₁ B hml hv
  obtain ⟨rfl, hsz, hP, hK, hD0, hn⟩ := hv
  have hx := B.exec
  have hb := B.bytes
  have hr := B.returns
  have hw := fun w (h : w ∈ wt) => atoms_spec (ws := w_Ref_findGraphs) B.pre w (List.mem_cons_of_mem _ h)
  have hown : s.vm.findClass R_Ref = some m.cls := findClass_of_methodNamed B.named
  have hlocks := B.notSynchronized
  subst hsz
  have hD1 := hD0.self (sz := s.heap.size)
  generalize hAe : va_A [oc h0 8 [.int 0, .int p2, .ref h1, .ref h2, .ref h3, .ref h4, .ref h5, .ref h6, .ref h7, .ref h8, .ref h9, .ref h10, .ref h11, .ref h12, .int p3, .ref h13, .ref h14, .ref h15, .ref h16, .int p4, .int p5, .ref h17, .ref h18, .ref h19, .int p6, .ref h20, .int p7, .int p8, .ref h21, .ref h22, .ref h23, .ref h24, .ref h25, .ref h26, .ref h27, .ref h28, .int p9, .int p10, .ref h29, .ref h30, .ref h31, .ref h32, .ref h33, .ref h34, .ref h35, .ref h36, .int p11, .ref h37], ia h6 k5 8 (fun _ => 0), ia h7 k6 8 (fun _ => 0), ia h8 k7 352000 f7, ia h11 k10 32000 f10, ia h12 k11 4 f11, ia h21 k20 11 (fun _ => 0), ia h23 k22 28 f22, ia h24 k23 28 f23, ia h26 k25 4 f25, ia h27 k26 8 (fun _ => 0), ia h30 k29 4 (fun _ => 0)] s.heap.size = A at hD1 ⊢
  have hA : ∀ q : Nat, s.heap.size ≤ q → A q := fun q h => by rw [← hAe]; exact Or.inr h
  have hD : dd A [h0, h6, h7, h8, h11, h12, h21, h23, h24, h26, h27, h30] := dd_of hD1 rfl
  clear hAe hD0 hD1
  have hS : va_S A s.heap s.heap [] := va_S.rf
  replace hP : va_P (dC, dI) classes [oc h0 8 [.int 0, .int p2, .ref h1, .ref h2, .ref h3, .ref h4, .ref h5, .ref h6, .ref h7, .ref h8, .ref h9, .ref h10, .ref h11, .ref h12, .int p3, .ref h13, .ref h14, .ref h15, .ref h16, .int p4, .int p5, .ref h17, .ref h18, .ref h19, .int p6, .ref h20, .int p7, .int p8, .ref h21, .ref h22, .ref h23, .ref h24, .ref h25, .ref h26, .ref h27, .ref h28, .int p9, .int p10, .ref h29, .ref h30, .ref h31, .ref h32, .ref h33, .ref h34, .ref h35, .ref h36, .int p11, .ref h37], ia h6 k5 8 (fun _ => 0), ia h7 k6 8 (fun _ => 0), ia h8 k7 352000 f7, ia h11 k10 32000 f10, ia h12 k11 4 f11, ia h21 k20 11 (fun _ => 0), ia h23 k22 28 f22, ia h24 k23 28 f23, ia h26 k25 4 f25, ia h27 k26 8 (fun _ => 0), ia h30 k29 4 (fun _ => 0)] s.heap := hP
  have hl := lv_entry ([.ref h0, .int 1]) (n := 4) (Nat.le_of_ble_eq_true rfl)
  rw [lg_entry_eq]
  generalize (lg_sl ([.ref h0, .int 1]) ++ List.replicate (4 - (lg_sl ([.ref h0, .int 1])).length) Slot.unset).toArray = ls at hl ⊢
  replace hl : lv_has ls 4 [(0, .ref h0), (1, .int 1)] := hl
  refine lv_aload_n hx hb d_Ref_findGraphs_0 rfl (lv_at hl 0 rfl) ?_
  refine va_get (D := (dC, dI)) (ci := 8) (v := .ref h6) (C := R_Ref) (T := F_Ref) (N := 48) hx hb hw i_Ref hown hK hP 0 rfl rfl 7 (by decide) (hw _ m_906) (fun _ h9 => h9) rfl d_Ref_findGraphs_1 ?_
  refine lv_iconst (v := 4) hx hb d_Ref_findGraphs_4 (by decide) ?_
  refine lv_iload_n hx hb d_Ref_findGraphs_5 rfl (lv_at hl 1 rfl) ?_
  refine lv_iadd hx hb d_Ref_findGraphs_6 ?_
  refine tp_i (y := 5) (by first | rfl | decide) ?_
  refine va_zald (D := (dC, dI)) hx hb hK hP 1 0 rfl rfl (i := 5) (vp_c (by decide)) d_Ref_findGraphs_7 ?_
  refine tp_i (y := 0) (by first | rfl | decide) ?_
  refine lv_if_eq (tgt := 12) hx hb d_Ref_findGraphs_8 (by decide) (fun c_1 => ?_) (fun c_1 => absurd c_1 (by decide))
  refine tp_pc (pc' := 12) (by rfl) ?_
  refine lv_aload_n hx hb d_Ref_findGraphs_12 rfl (lv_at hl 0 rfl) ?_
  refine va_get (D := (dC, dI)) (ci := 8) (v := .ref h6) (C := R_Ref) (T := F_Ref) (N := 48) hx hb hw i_Ref hown hK hP 0 rfl rfl 7 (by decide) (hw _ m_906) (fun _ h9 => h9) rfl d_Ref_findGraphs_13 ?_
  refine lv_iconst (v := 4) hx hb d_Ref_findGraphs_16 (by decide) ?_
  refine lv_iload_n hx hb d_Ref_findGraphs_17 rfl (lv_at hl 1 rfl) ?_
  refine lv_iadd hx hb d_Ref_findGraphs_18 ?_
  refine tp_i (y := 5) (by first | rfl | decide) ?_
  refine lv_iconst (v := 1) hx hb d_Ref_findGraphs_19 (by decide) ?_
  refine va_zast (D := (dC, dI)) hx hb hK hP (dd_D hD rfl) hS 1 0 rfl rfl (i := 5) (x := 1) (vp_c (by decide)) d_Ref_findGraphs_20 ?_
  clear hP hS
  intro H locs (hP : va_P (dC, dI) classes [oc h0 8 [.int 0, .int p2, .ref h1, .ref h2, .ref h3, .ref h4, .ref h5, .ref h6, .ref h7, .ref h8, .ref h9, .ref h10, .ref h11, .ref h12, .int p3, .ref h13, .ref h14, .ref h15, .ref h16, .int p4, .int p5, .ref h17, .ref h18, .ref h19, .int p6, .ref h20, .int p7, .int p8, .ref h21, .ref h22, .ref h23, .ref h24, .ref h25, .ref h26, .ref h27, .ref h28, .int p9, .int p10, .ref h29, .ref h30, .ref h31, .ref h32, .ref h33, .ref h34, .ref h35, .ref h36, .int p11, .ref h37], ia h6 k5 8 (upd (fun _ => 0) 5 1), ia h7 k6 8 (fun _ => 0), ia h8 k7 352000 f7, ia h11 k10 32000 f10, ia h12 k11 4 f11, ia h21 k20 11 (fun _ => 0), ia h23 k22 28 f22, ia h24 k23 28 f23, ia h26 k25 4 f25, ia h27 k26 8 (fun _ => 0), ia h30 k29 4 (fun _ => 0)] H) _ hS
  refine tp_pc (pc' := 21) (by rfl) ?_
  refine lv_aload_n hx hb d_Ref_findGraphs_21 rfl (lv_at hl 0 rfl) ?_
  refine va_get (D := (dC, dI)) (ci := 8) (v := .ref h7) (C := R_Ref) (T := F_Ref) (N := 48) hx hb hw i_Ref hown hK hP 0 rfl rfl 8 (by decide) (hw _ m_907) (fun _ h9 => h9) rfl d_Ref_findGraphs_22 ?_
  refine lv_iconst (v := 4) hx hb d_Ref_findGraphs_25 (by decide) ?_
  refine lv_iload_n hx hb d_Ref_findGraphs_26 rfl (lv_at hl 1 rfl) ?_
  refine lv_iadd hx hb d_Ref_findGraphs_27 ?_
  refine tp_i (y := 5) (by first | rfl | decide) ?_
  refine lv_iconst (v := 0) hx hb d_Ref_findGraphs_28 (by decide) ?_
  refine va_iast (D := (dC, dI)) hx hb hK hP (dd_D hD rfl) hS 2 1 rfl rfl (i := 5) (x := 0) (vp_c (by decide)) d_Ref_findGraphs_29 ?_
  clear hP hS locs H
  intro H locs hP _ hS
  replace hP : va_P (dC, dI) classes [oc h0 8 [.int 0, .int p2, .ref h1, .ref h2, .ref h3, .ref h4, .ref h5, .ref h6, .ref h7, .ref h8, .ref h9, .ref h10, .ref h11, .ref h12, .int p3, .ref h13, .ref h14, .ref h15, .ref h16, .int p4, .int p5, .ref h17, .ref h18, .ref h19, .int p6, .ref h20, .int p7, .int p8, .ref h21, .ref h22, .ref h23, .ref h24, .ref h25, .ref h26, .ref h27, .ref h28, .int p9, .int p10, .ref h29, .ref h30, .ref h31, .ref h32, .ref h33, .ref h34, .ref h35, .ref h36, .int p11, .ref h37], ia h6 k5 8 (upd (fun _ => 0) 5 1), ia h7 k6 8 (fun _ => 0), ia h8 k7 352000 f7, ia h11 k10 32000 f10, ia h12 k11 4 f11, ia h21 k20 11 (fun _ => 0), ia h23 k22 28 f22, ia h24 k23 28 f23, ia h26 k25 4 f25, ia h27 k26 8 (fun _ => 0), ia h30 k29 4 (fun _ => 0)] H := P_cg 2 rfl (up_pt (by first | rfl | decide)) hP
  refine tp_pc (pc' := 30) (by rfl) ?_
  refine lv_aload_n hx hb d_Ref_findGraphs_30 rfl (lv_at hl 0 rfl) ?_
  refine va_get (D := (dC, dI)) (ci := 8) (v := .ref h12) (C := R_Ref) (T := F_Ref) (N := 48) hx hb hw i_Ref hown hK hP 0 rfl rfl 13 (by decide) (hw _ m_912) (fun _ h9 => h9) rfl d_Ref_findGraphs_31 ?_
  refine lv_iload_n hx hb d_Ref_findGraphs_34 rfl (lv_at hl 1 rfl) ?_
  refine lv_iconst (v := 0) hx hb d_Ref_findGraphs_35 (by decide) ?_
  refine va_iast (D := (dC, dI)) hx hb hK hP (dd_D hD rfl) hS 5 4 rfl rfl (i := 1) (x := 0) (vp_c (by decide)) d_Ref_findGraphs_36 ?_
  clear hP hS locs H
  intro H locs (hP : va_P (dC, dI) classes [oc h0 8 [.int 0, .int p2, .ref h1, .ref h2, .ref h3, .ref h4, .ref h5, .ref h6, .ref h7, .ref h8, .ref h9, .ref h10, .ref h11, .ref h12, .int p3, .ref h13, .ref h14, .ref h15, .ref h16, .int p4, .int p5, .ref h17, .ref h18, .ref h19, .int p6, .ref h20, .int p7, .int p8, .ref h21, .ref h22, .ref h23, .ref h24, .ref h25, .ref h26, .ref h27, .ref h28, .int p9, .int p10, .ref h29, .ref h30, .ref h31, .ref h32, .ref h33, .ref h34, .ref h35, .ref h36, .int p11, .ref h37], ia h6 k5 8 (upd (fun _ => 0) 5 1), ia h7 k6 8 (fun _ => 0), ia h8 k7 352000 f7, ia h11 k10 32000 f10, ia h12 k11 4 (upd f11 1 0), ia h21 k20 11 (fun _ => 0), ia h23 k22 28 f22, ia h24 k23 28 f23, ia h26 k25 4 f25, ia h27 k26 8 (fun _ => 0), ia h30 k29 4 (fun _ => 0)] H) _ hS
  refine tp_pc (pc' := 37) (by rfl) ?_
  refine lv_aload_n hx hb d_Ref_findGraphs_37 rfl (lv_at hl 0 rfl) ?_
  refine lv_iload_n hx hb d_Ref_findGraphs_38 rfl (lv_at hl 1 rfl) ?_
  refine va_put (D := (dC, dI)) (ci := 8) (v := .int 1) (ty := .int) (C := R_Ref) (T := F_Ref) (N := 48) hx hb hw i_Ref t_Ref t_Ref_ok n_Ref hown hK hP (dd_D hD rfl) hS 0 rfl rfl 37 (by decide) (hw _ m_936) (fun _ h9 => h9) rfl (by decide +kernel) rfl rfl (Nat.le_of_ble_eq_true rfl) d_Ref_findGraphs_39 ?_
  clear hP hS locs H
  intro H locs (hP : va_P (dC, dI) classes [oc h0 8 [.int 0, .int p2, .ref h1, .ref h2, .ref h3, .ref h4, .ref h5, .ref h6, .ref h7, .ref h8, .ref h9, .ref h10, .ref h11, .ref h12, .int p3, .ref h13, .ref h14, .ref h15, .ref h16, .int p4, .int p5, .ref h17, .ref h18, .ref h19, .int p6, .ref h20, .int p7, .int p8, .ref h21, .ref h22, .ref h23, .ref h24, .ref h25, .ref h26, .ref h27, .ref h28, .int p9, .int 1, .ref h29, .ref h30, .ref h31, .ref h32, .ref h33, .ref h34, .ref h35, .ref h36, .int p11, .ref h37], ia h6 k5 8 (upd (fun _ => 0) 5 1), ia h7 k6 8 (fun _ => 0), ia h8 k7 352000 f7, ia h11 k10 32000 f10, ia h12 k11 4 (upd f11 1 0), ia h21 k20 11 (fun _ => 0), ia h23 k22 28 f22, ia h24 k23 28 f23, ia h26 k25 4 f25, ia h27 k26 8 (fun _ => 0), ia h30 k29 4 (fun _ => 0)] H) _ hS
  refine tp_pc (pc' := 42) (by rfl) ?_
  refine lv_aload_n hx hb d_Ref_findGraphs_42 rfl (lv_at hl 0 rfl) ?_
  refine lv_iconst (v := 0) hx hb d_Ref_findGraphs_43 (by decide) ?_
  refine va_put (D := (dC, dI)) (ci := 8) (v := .int 0) (ty := .int) (C := R_Ref) (T := F_Ref) (N := 48) hx hb hw i_Ref t_Ref t_Ref_ok n_Ref hown hK hP (dd_D hD rfl) hS 0 rfl rfl 36 (by decide) (hw _ m_935) (fun _ h9 => h9) rfl (by decide +kernel) rfl rfl (Nat.le_of_ble_eq_true rfl) d_Ref_findGraphs_44 ?_
  clear hP hS locs H
  intro H locs (hP : va_P (dC, dI) classes [oc h0 8 [.int 0, .int p2, .ref h1, .ref h2, .ref h3, .ref h4, .ref h5, .ref h6, .ref h7, .ref h8, .ref h9, .ref h10, .ref h11, .ref h12, .int p3, .ref h13, .ref h14, .ref h15, .ref h16, .int p4, .int p5, .ref h17, .ref h18, .ref h19, .int p6, .ref h20, .int p7, .int p8, .ref h21, .ref h22, .ref h23, .ref h24, .ref h25, .ref h26, .ref h27, .ref h28, .int 0, .int 1, .ref h29, .ref h30, .ref h31, .ref h32, .ref h33, .ref h34, .ref h35, .ref h36, .int p11, .ref h37], ia h6 k5 8 (upd (fun _ => 0) 5 1), ia h7 k6 8 (fun _ => 0), ia h8 k7 352000 f7, ia h11 k10 32000 f10, ia h12 k11 4 (upd f11 1 0), ia h21 k20 11 (fun _ => 0), ia h23 k22 28 f22, ia h24 k23 28 f23, ia h26 k25 4 f25, ia h27 k26 8 (fun _ => 0), ia h30 k29 4 (fun _ => 0)] H) _ hS
  refine tp_pc (pc' := 47) (by rfl) ?_
  refine lv_iconst (v := 0) hx hb d_Ref_findGraphs_47 (by decide) ?_
  refine lv_istore_n (lv' := [(2, .int 0), (0, .ref h0), (1, .int 1)]) hx hb d_Ref_findGraphs_48 rfl hl (by decide) rfl ?_
  clear hl ls
  intro ls hl
  refine lv_iload_n hx hb d_Ref_findGraphs_49 rfl (lv_at hl 0 rfl) ?_
  refine lv_aload_n hx hb d_Ref_findGraphs_50 rfl (lv_at hl 1 rfl) ?_
  refine va_get (D := (dC, dI)) (ci := 8) (v := .int 0) (C := R_Ref) (T := F_Ref) (N := 48) hx hb hw i_Ref hown hK hP 0 rfl rfl 0 (by decide) (hw _ m_899) (fun _ h9 => h9) rfl d_Ref_findGraphs_51 ?_
  refine lv_icmp_ge (tgt := 123) hx hb d_Ref_findGraphs_54 (by decide) (fun c_2 => ?_) (fun c_2 => absurd c_2 (by decide))
  refine tp_pc (pc' := 123) (by rfl) ?_
  refine lv_aload_n hx hb d_Ref_findGraphs_123 rfl (lv_at hl 1 rfl) ?_
  refine lv_iconst (v := 0) hx hb d_Ref_findGraphs_124 (by decide) ?_
  obtain ⟨hPc, hDc, hFc⟩ := cut3 (wc := [oc h0 8 [.int 0, .int p2, .ref h1, .ref h2, .ref h3, .ref h4, .ref h5, .ref h6, .ref h7, .ref h8, .ref h9, .ref h10, .ref h11, .ref h12, .int p3, .ref h13, .ref h14, .ref h15, .ref h16, .int p4, .int p5, .ref h17, .ref h18, .ref h19, .int p6, .ref h20, .int p7, .int p8, .ref h21, .ref h22, .ref h23, .ref h24, .ref h25, .ref h26, .ref h27, .ref h28, .int 0, .int 1, .ref h29, .ref h30, .ref h31, .ref h32, .ref h33, .ref h34, .ref h35, .ref h36, .int p11, .ref h37], ia h7 k6 8 (fun _ => 0), ia h8 k7 352000 f7, ia h11 k10 32000 f10, ia h12 k11 4 (upd f11 1 0), ia h21 k20 11 (fun _ => 0), ia h23 k22 28 f22, ia h24 k23 28 f23, ia h26 k25 4 f25, ia h27 k26 8 (fun _ => 0), ia h30 k29 4 (fun _ => 0)]) hP hD rfl hS hA [0, 2, 3, 4, 5, 6, 7, 8, 9, 10, 11] (by decide +kernel) rfl
  have hKc := hK.sub (tys' := [(k6, .int), (k7, .short), (k10, .int), (k11, .int), (k20, .int), (k22, .boolean), (k23, .boolean), (k25, .int), (k26, .int), (k29, .int)]) [1, 2, 3, 4, 5, 6, 7, 8, 9, 10] rfl
  refine va_callv (va_runV (As := [.int 0]) (rest := []) ⟨hx, hb, hml, hown, hw⟩ (c_Ref_choose_v2 l dC dI h0 p2 h1 h2 h3 h4 h5 h6 h7 h8 h9 h10 h11 h12 p3 h13 h14 h15 h16 p4 p5 h17 h18 h19 p6 h20 p7 p8 h21 h22 h23 h24 h25 h26 h27 h28 h29 h30 h31 h32 h33 h34 h35 h36 p11 h37 k6 k7 f7 k10 f10 k11 (upd f11 1 0) k20 k22 f22 k23 f23 k25 f25 k26 k29 H.size) (cw_V 1 hw g_Ref_choose rfl rfl rfl (hw _ m_109) (hw _ m_1193) (hw _ m_1195) (hw _ m_79) (by decide +kernel) ⟨Nat.le_of_ble_eq_true rfl, Nat.le_of_ble_eq_true rfl⟩) ⟨fun a U g mk q => by obtain ⟨q0, q1, qP, qK, qD, qN⟩ := q; exact ⟨q0, q1, qP, va_K.moved (u := U) (U := U.calling g mk a) (Vm.Alike.refl U.vm) qK, qD, nw_call qN⟩, va_recv hKc hPc (ci := 8) (q0 := 0) rfl rfl, fun U hU hW => ⟨rfl, by rw [hU], by rw [hU]; exact hPc, va_K.moved hW.alike hKc, hDc.weaken (fun _ _ _ _ => trivial), nw_warm hW hn⟩⟩ rfl rfl hl.1 rfl (lv_room (Nat.le_of_ble_eq_true rfl)) d_Ref_findGraphs_125 ⟨Nat.le_of_ble_eq_true rfl, Nat.le_of_ble_eq_true rfl⟩) hS (fun q _ h => hFc q h) hFc ?_
  intro u t H1 locs1 ht hvm hw1 hB hz1 hk1 hS1
  obtain ⟨hP1, hK1, hD1⟩ := hB
  rw [ht] at hP1
  replace hK1 := va_K.moved hvm.symm hK1
  have hPD := join3 hP hD rfl [0, 2, 3, 4, 5, 6, 7, 8, 9, 10, 11] [1] rfl (by rfl) (by decide +kernel) (by decide +kernel) hk1 hFc hP1 hD1
  replace hK : va_K (dC, dI) classes [(k5, .boolean), (k6, .int), (k7, .short), (k10, .int), (k11, .int), (k20, .int), (k22, .boolean), (k23, .boolean), (k25, .int), (k26, .int), (k29, .int)] s := hK.app hK1
  clear hP1 hK1 hD1 hk1 hz1 hFc hKc hDc hPc hvm ht hP hS t locs H
  have hP : va_P (dC, dI) classes [ia h6 k5 8 (upd (fun _ => 0) 5 1), oc h0 8 [.int 0, .int p2, .ref h1, .ref h2, .ref h3, .ref h4, .ref h5, .ref h6, .ref h7, .ref h8, .ref h9, .ref h10, .ref h11, .ref h12, .int p3, .ref h13, .ref h14, .ref h15, .ref h16, .int p4, .int p5, .ref h17, .ref h18, .ref h19, .int p6, .ref h20, .int p7, .int p8, .ref h21, .ref h22, .ref h23, .ref h24, .ref h25, .ref h26, .ref h27, .ref h28, .int 0, .int 1, .ref h29, .ref h30, .ref h31, .ref h32, .ref h33, .ref h34, .ref h35, .ref h36, .int 0, .ref h37], ia h7 k6 8 (upd (fun _ => 0) 5 1), ia h8 k7 352000 (upd (upd (upd (upd (upd (upd (upd (upd (upd (upd (upd f7 220000 0) 220001 0) 220002 0) 220003 0) 220004 0) 220005 0) 220006 0) 220007 0) 220008 0) 220009 0) 220010 0), ia h11 k10 32000 (upd f10 20000 0), ia h12 k11 4 (upd (upd f11 1 0) 1 ((0 : Int32) + (1 : Int32))), ia h21 k20 11 (fun _ => 0), ia h23 k22 28 (upd (upd (upd (upd (upd (upd (upd (upd (upd (upd (upd (upd (upd (upd (upd (upd (upd (upd (upd (upd (upd (upd (upd (upd (upd (upd (upd (upd f22 0 0) 1 0) 2 0) 3 0) 4 0) 5 0) 6 0) 7 0) 8 0) 9 0) 10 0) 11 0) 12 0) 13 0) 14 0) 15 0) 16 0) 17 0) 18 0) 19 0) 20 0) 21 0) 22 0) 23 0) 24 0) 25 0) 26 0) 27 0), ia h24 k23 28 (upd (upd (upd (upd (upd (upd (upd (upd (upd (upd (upd (upd (upd (upd (upd (upd (upd (upd (upd (upd (upd (upd (upd (upd (upd (upd (upd (upd f23 0 0) 1 0) 2 0) 3 0) 4 0) 5 0) 6 0) 7 0) 8 0) 9 0) 10 0) 11 0) 12 0) 13 0) 14 0) 15 0) 16 0) 17 0) 18 0) 19 0) 20 0) 21 0) 22 0) 23 0) 24 0) 25 0) 26 0) 27 0), ia h26 k25 4 (upd (upd (upd (upd f25 0 0) 1 0) 2 0) 3 0), ia h27 k26 8 (upd (upd (upd (upd (upd (upd (upd (upd (fun _ => 0) 0 0) 1 0) 2 0) 3 0) 4 0) 5 0) 6 0) 7 0), ia h30 k29 4 (fun _ => 0)] H1 := hPD.1
  rw [show (((0 : Int32) + (1 : Int32) : Int32)) = 1 from by decide] at hP
  replace hD : dd A [h6, h0, h7, h8, h11, h12, h21, h23, h24, h26, h27, h30] := dd_of hPD.2 rfl
  clear hPD
  revert H1 locs1
  intro H locs hS hP
  clear hw1 u
  refine tp_pc (pc' := 128) (by rfl) ?_
  obtain ⟨hP9, hD9, -⟩ := cut3 (wc := [oc h0 8 [.int 0, .int p2, .ref h1, .ref h2, .ref h3, .ref h4, .ref h5, .ref h6, .ref h7, .ref h8, .ref h9, .ref h10, .ref h11, .ref h12, .int p3, .ref h13, .ref h14, .ref h15, .ref h16, .int p4, .int p5, .ref h17, .ref h18, .ref h19, .int p6, .ref h20, .int p7, .int p8, .ref h21, .ref h22, .ref h23, .ref h24, .ref h25, .ref h26, .ref h27, .ref h28, .int 0, .int 1, .ref h29, .ref h30, .ref h31, .ref h32, .ref h33, .ref h34, .ref h35, .ref h36, .int 0, .ref h37], ia h6 k5 8 (upd (fun _ => 0) 5 1), ia h7 k6 8 (upd (fun _ => 0) 5 1), ia h8 k7 352000 (upd (upd (upd (upd (upd (upd (upd (upd (upd (upd (upd f7 220000 0) 220001 0) 220002 0) 220003 0) 220004 0) 220005 0) 220006 0) 220007 0) 220008 0) 220009 0) 220010 0), ia h11 k10 32000 (upd f10 20000 0), ia h12 k11 4 (upd (upd f11 1 0) 1 1), ia h21 k20 11 (fun _ => 0), ia h23 k22 28 (upd (upd (upd (upd (upd (upd (upd (upd (upd (upd (upd (upd (upd (upd (upd (upd (upd (upd (upd (upd (upd (upd (upd (upd (upd (upd (upd (upd f22 0 0) 1 0) 2 0) 3 0) 4 0) 5 0) 6 0) 7 0) 8 0) 9 0) 10 0) 11 0) 12 0) 13 0) 14 0) 15 0) 16 0) 17 0) 18 0) 19 0) 20 0) 21 0) 22 0) 23 0) 24 0) 25 0) 26 0) 27 0), ia h24 k23 28 (upd (upd (upd (upd (upd (upd (upd (upd (upd (upd (upd (upd (upd (upd (upd (upd (upd (upd (upd (upd (upd (upd (upd (upd (upd (upd (upd (upd f23 0 0) 1 0) 2 0) 3 0) 4 0) 5 0) 6 0) 7 0) 8 0) 9 0) 10 0) 11 0) 12 0) 13 0) 14 0) 15 0) 16 0) 17 0) 18 0) 19 0) 20 0) 21 0) 22 0) 23 0) 24 0) 25 0) 26 0) 27 0), ia h26 k25 4 (upd (upd (upd (upd f25 0 0) 1 0) 2 0) 3 0), ia h27 k26 8 (upd (upd (upd (upd (upd (upd (upd (upd (fun _ => 0) 0 0) 1 0) 2 0) 3 0) 4 0) 5 0) 6 0) 7 0), ia h30 k29 4 (fun _ => 0)]) hP hD rfl hS hA [1, 0, 2, 3, 4, 5, 6, 7, 8, 9, 10, 11] (by decide +kernel) rfl
  have hK9 := hK.sub (tys' := []) [] rfl
  refine W.widen (k := 0) (n := 0) (by exact Nat.le_of_ble_eq_true rfl) (by exact Nat.le_of_ble_eq_true rfl) ?_
  exact W.vret hx hb hr (fun t ht hW => ⟨⟨(), rfl, trivial, by rw [ht]; exact hP9, va_K.moved hW.alike hK9, hD9⟩, hS.F ht⟩) hS.2.2 d_Ref_findGraphs_128
set_option maxHeartbeats 4000000 in
set_option maxRecDepth 100000 in
theorem c_Ref_stands_v3 (l : Launch) (dC : Nat → ClassId) (dI : Nat → Nat → Nat) (h0 : Nat) (p0 : Int32) (p1 : Int32) (h1 : Nat) (h2 : Nat) (h3 : Nat) (h4 : Nat) (h5 : Nat) (h6 : Nat) (h7 : Nat) (h8 : Nat) (h9 : Nat) (h10 : Nat) (h11 : Nat) (h12 : Nat) (p2 : Int32) (h13 : Nat) (h14 : Nat) (h15 : Nat) (h16 : Nat) (p3 : Int32) (p4 : Int32) (h17 : Nat) (h18 : Nat) (h19 : Nat) (p5 : Int32) (h20 : Nat) (p6 : Int32) (p7 : Int32) (h21 : Nat) (h22 : Nat) (h23 : Nat) (h24 : Nat) (h25 : Nat) (h26 : Nat) (h27 : Nat) (h28 : Nat) (p8 : Int32) (h29 : Nat) (h30 : Nat) (h31 : Nat) (h32 : Nat) (h33 : Nat) (h34 : Nat) (h35 : Nat) (h36 : Nat) (h37 : Nat) (sz : Nat) : Met l y_Ref_stands w_Ref_stands ({ frames := 1, cells := 0, slots := 0, locals := 22 }) (va_Pc [.ref h0] (fun U => U.heap.size = sz ∧ va_P (dC, dI) classes [oc h0 8 [.int p0, .int p1, .ref h1, .ref h2, .ref h3, .ref h4, .ref h5, .ref h6, .ref h7, .ref h8, .ref h9, .ref h10, .ref h11, .ref h12, .int p2, .ref h13, .ref h14, .ref h15, .ref h16, .int p3, .int p4, .ref h17, .ref h18, .ref h19, .int p5, .ref h20, .int p6, .int p7, .ref h21, .ref h22, .ref h23, .ref h24, .ref h25, .ref h26, .ref h27, .ref h28, .int p8, .int 2, .ref h29, .ref h30, .ref h31, .ref h32, .ref h33, .ref h34, .ref h35, .ref h36, .int 0, .ref h37]] U.heap ∧ va_K (dC, dI) classes [] U ∧ va_D (fun _ => True) [oc h0 8 [.int p0, .int p1, .ref h1, .ref h2, .ref h3, .ref h4, .ref h5, .ref h6, .ref h7, .ref h8, .ref h9, .ref h10, .ref h11, .ref h12, .int p2, .ref h13, .ref h14, .ref h15, .ref h16, .int p3, .int p4, .ref h17, .ref h18, .ref h19, .int p5, .ref h20, .int p6, .int p7, .ref h21, .ref h22, .ref h23, .ref h24, .ref h25, .ref h26, .ref h27, .ref h28, .int p8, .int 2, .ref h29, .ref h30, .ref h31, .ref h32, .ref h33, .ref h34, .ref h35, .ref h36, .int 0, .ref h37]] ∧ nw U)) (va_Qi (fun (r : Int32) (_ : Unit) => r = 1) (fun _ t => va_P (dC, dI) classes [oc h0 8 [.int p0, .int p1, .ref h1, .ref h2, .ref h3, .ref h4, .ref h5, .ref h6, .ref h7, .ref h8, .ref h9, .ref h10, .ref h11, .ref h12, .int p2, .ref h13, .ref h14, .ref h15, .ref h16, .int p3, .int p4, .ref h17, .ref h18, .ref h19, .int p5, .ref h20, .int p6, .int p7, .ref h21, .ref h22, .ref h23, .ref h24, .ref h25, .ref h26, .ref h27, .ref h28, .int p8, .int 2, .ref h29, .ref h30, .ref h31, .ref h32, .ref h33, .ref h34, .ref h35, .ref h36, .int 0, .ref h37]] t.heap ∧ va_K (dC, dI) classes [] t ∧ va_D (va_A [oc h0 8 [.int p0, .int p1, .ref h1, .ref h2, .ref h3, .ref h4, .ref h5, .ref h6, .ref h7, .ref h8, .ref h9, .ref h10, .ref h11, .ref h12, .int p2, .ref h13, .ref h14, .ref h15, .ref h16, .int p3, .int p4, .ref h17, .ref h18, .ref h19, .int p5, .ref h20, .int p6, .int p7, .ref h21, .ref h22, .ref h23, .ref h24, .ref h25, .ref h26, .ref h27, .ref h28, .int p8, .int 2, .ref h29, .ref h30, .ref h31, .ref h32, .ref h33, .ref h34, .ref h35, .ref h36, .int 0, .ref h37]] sz) [oc h0 8 [.int p0, .int p1, .ref h1, .ref h2, .ref h3, .ref h4, .ref h5, .ref h6, .ref h7, .ref h8, .ref h9, .ref h10, .ref h11, .ref h12, .int p2, .ref h13, .ref h14, .ref h15, .ref h16, .int p3, .int p4, .ref h17, .ref h18, .ref h19, .int p5, .ref h20, .int p6, .int p7, .ref h21, .ref h22, .ref h23, .ref h24, .ref h25, .ref h26, .ref h27, .ref h28, .int p8, .int 2, .ref h29, .ref h30, .ref h31, .ref h32, .ref h33, .ref h34, .ref h35, .ref h36, .int 0, .ref h37]]) (va_A [oc h0 8 [.int p0, .int p1, .ref h1, .ref h2, .ref h3, .ref h4, .ref h5, .ref h6, .ref h7, .ref h8, .ref h9, .ref h10, .ref h11, .ref h12, .int p2, .ref h13, .ref h14, .ref h15, .ref h16, .int p3, .int p4, .ref h17, .ref h18, .ref h19, .int p5, .ref h20, .int p6, .int p7, .ref h21, .ref h22, .ref h23, .ref h24, .ref h25, .ref h26, .ref h27, .ref h28, .int p8, .int 2, .ref h29, .ref h30, .ref h31, .ref h32, .ref h33, .ref h34, .ref h35, .ref h36, .int 0, .ref h37]] sz)) 0 0 (va_A [oc h0 8 [.int p0, .int p1, .ref h1, .ref h2, .ref h3, .ref h4, .ref h5, .ref h6, .ref h7, .ref h8, .ref h9, .ref h10, .ref h11, .ref h12, .int p2, .ref h13, .ref h14, .ref h15, .ref h16, .int p3, .int p4, .ref h17, .ref h18, .ref h19, .int p5, .ref h20, .int p6, .int p7, .ref h21, .ref h22, .ref h23, .ref h24, .ref h25, .ref h26, .ref h27, .ref h28, .int p8, .int 2, .ref h29, .ref h30, .ref h31, .ref h32, .ref h33, .ref h34, .ref h35, .ref h36, .int 0, .ref h37]] sz) := by
  refine Met.ofW (cc := b_Ref_stands) (maxL := 5) (ret := (some .boolean)) (by decide) rfl ?_
  intro p e s m args below meth c s₁ B hml hv
  obtain ⟨rfl, hsz, hP, hK, hD0, hn⟩ := hv
  have hx := B.exec
  have hb := B.bytes
  have hr := B.returns
  have hw := fun w (h : w ∈ wt) => atoms_spec (ws := w_Ref_stands) B.pre w (List.mem_cons_of_mem _ h)
  have hown : s.vm.findClass R_Ref = some m.cls := findClass_of_methodNamed B.named
  have hlocks := B.notSynchronized
  subst hsz
  have hD1 := hD0.self (sz := s.heap.size)
  generalize hAe : va_A [oc h0 8 [.int p0, .int p1, .ref h1, .ref h2, .ref h3, .ref h4, .ref h5, .ref h6, .ref h7, .ref h8, .ref h9, .ref h10, .ref h11, .ref h12, .int p2, .ref h13, .ref h14, .ref h15, .ref h16, .int p3, .int p4, .ref h17, .ref h18, .ref h19, .int p5, .ref h20, .int p6, .int p7, .ref h21, .ref h22, .ref h23, .ref h24, .ref h25, .ref h26, .ref h27, .ref h28, .int p8, .int 2, .ref h29, .ref h30, .ref h31, .ref h32, .ref h33, .ref h34, .ref h35, .ref h36, .int 0, .ref h37]] s.heap.size = A at hD1 ⊢
  have hA : ∀ q : Nat, s.heap.size ≤ q → A q := fun q h => by rw [← hAe]; exact Or.inr h
  have hD : dd A [h0] := dd_of hD1 rfl
  clear hAe hD0 hD1
  have hS : va_S A s.heap s.heap [] := va_S.rf
  replace hP : va_P (dC, dI) classes [oc h0 8 [.int p0, .int p1, .ref h1, .ref h2, .ref h3, .ref h4, .ref h5, .ref h6, .ref h7, .ref h8, .ref h9, .ref h10, .ref h11, .ref h12, .int p2, .ref h13, .ref h14, .ref h15, .ref h16, .int p3, .int p4, .ref h17, .ref h18, .ref h19, .int p5, .ref h20, .int p6, .int p7, .ref h21, .ref h22, .ref h23, .ref h24, .ref h25, .ref h26, .ref h27, .ref h28, .int p8, .int 2, .ref h29, .ref h30, .ref h31, .ref h32, .ref h33, .ref h34, .ref h35, .ref h36, .int 0, .ref h37]] s.heap := hP
  have hl := lv_entry ([.ref h0]) (n := 5) (Nat.le_of_ble_eq_true rfl)
  rw [lg_entry_eq]
  generalize (lg_sl ([.ref h0]) ++ List.replicate (5 - (lg_sl ([.ref h0])).length) Slot.unset).toArray = ls at hl ⊢
  replace hl : lv_has ls 5 [(0, .ref h0)] := hl
  refine lv_aload_n hx hb d_Ref_stands_0 rfl (lv_at hl 0 rfl) ?_
  refine va_get (D := (dC, dI)) (ci := 8) (v := .int 2) (C := R_Ref) (T := F_Ref) (N := 48) hx hb hw i_Ref hown hK hP 0 rfl rfl 37 (by decide) (hw _ m_936) (fun _ h9 => h9) rfl d_Ref_stands_1 ?_
  refine lv_if_ne (tgt := 69) hx hb d_Ref_stands_4 (by decide) (fun c_1 => ?_) (fun c_1 => absurd c_1 (by decide))
  refine tp_pc (pc' := 69) (by rfl) ?_
  refine lv_aload_n hx hb d_Ref_stands_69 rfl (lv_at hl 0 rfl) ?_
  refine va_get (D := (dC, dI)) (ci := 8) (v := .int 2) (C := R_Ref) (T := F_Ref) (N := 48) hx hb hw i_Ref hown hK hP 0 rfl rfl 37 (by decide) (hw _ m_936) (fun _ h9 => h9) rfl d_Ref_stands_70 ?_
  refine lv_iconst (v := 3) hx hb d_Ref_stands_73 (by decide) ?_
  refine lv_icmp_ne (tgt := 82) hx hb d_Ref_stands_74 (by decide) (fun c_2 => ?_) (fun c_2 => absurd c_2 (by decide))
  refine tp_pc (pc' := 82) (by rfl) ?_
  refine lv_iconst (v := 0) hx hb d_Ref_stands_82 (by decide) ?_
  refine lv_istore_n (lv' := [(1, .int 0), (0, .ref h0)]) hx hb d_Ref_stands_83 rfl hl (by decide) rfl ?_
  clear hl ls
  intro ls hl
  refine lv_iload_n hx hb d_Ref_stands_84 rfl (lv_at hl 0 rfl) ?_
  refine lv_aload_n hx hb d_Ref_stands_85 rfl (lv_at hl 1 rfl) ?_
  refine va_get (D := (dC, dI)) (ci := 8) (v := .int 0) (C := R_Ref) (T := F_Ref) (N := 48) hx hb hw i_Ref hown hK hP 0 rfl rfl 46 (by decide) (hw _ m_945) (fun _ h9 => h9) rfl d_Ref_stands_86 ?_
  refine lv_icmp_ge (tgt := 216) hx hb d_Ref_stands_89 (by decide) (fun c_3 => ?_) (fun c_3 => absurd c_3 (by decide))
  refine tp_pc (pc' := 216) (by rfl) ?_
  refine lv_aload_n hx hb d_Ref_stands_216 rfl (lv_at hl 1 rfl) ?_
  obtain ⟨hPc, hDc, hFc⟩ := cut3 (wc := [oc h0 8 [.int p0, .int p1, .ref h1, .ref h2, .ref h3, .ref h4, .ref h5, .ref h6, .ref h7, .ref h8, .ref h9, .ref h10, .ref h11, .ref h12, .int p2, .ref h13, .ref h14, .ref h15, .ref h16, .int p3, .int p4, .ref h17, .ref h18, .ref h19, .int p5, .ref h20, .int p6, .int p7, .ref h21, .ref h22, .ref h23, .ref h24, .ref h25, .ref h26, .ref h27, .ref h28, .int p8, .int 2, .ref h29, .ref h30, .ref h31, .ref h32, .ref h33, .ref h34, .ref h35, .ref h36, .int 0, .ref h37]]) hP hD rfl hS hA [0] (by decide +kernel) rfl
  have hKc := hK.sub (tys' := []) [] rfl
  refine va_calli (va_runV (As := []) (rest := []) ⟨hx, hb, hml, hown, hw⟩ (c_Ref_hasRing l dC dI h0 p0 p1 h1 h2 h3 h4 h5 h6 h7 h8 h9 h10 h11 h12 p2 h13 h14 h15 h16 p3 p4 h17 h18 h19 p5 h20 p6 p7 h21 h22 h23 h24 h25 h26 h27 h28 p8 2 h29 h30 h31 h32 h33 h34 h35 h36 h37 s.heap.size) (cw_V 0 hw g_Ref_hasRing rfl rfl rfl (hw _ m_109) (hw _ m_1233) (hw _ m_1235) (hw _ m_89) (by decide +kernel) ⟨Nat.le_of_ble_eq_true rfl, Nat.le_of_ble_eq_true rfl⟩) ⟨fun a U g mk q => by obtain ⟨q0, q1, qP, qK, qD, qN⟩ := q; exact ⟨q0, q1, qP, va_K.moved (u := U) (U := U.calling g mk a) (Vm.Alike.refl U.vm) qK, qD, nw_call qN⟩, va_recv hKc hPc (ci := 8) (q0 := 0) rfl rfl, fun U hU hW => ⟨rfl, by rw [hU], by rw [hU]; exact hPc, va_K.moved hW.alike hKc, hDc.weaken (fun _ _ _ _ => trivial), nw_warm hW hn⟩⟩ rfl rfl hl.1 rfl (lv_room (Nat.le_of_ble_eq_true rfl)) d_Ref_stands_217 ⟨Nat.le_of_ble_eq_true rfl, Nat.le_of_ble_eq_true rfl⟩) hS (fun q _ h => hFc q h) hFc ?_
  intro r_4 u t H1 locs1 ht hvm hw1 hB hz1 hk1 hS1
  obtain ⟨hP1, hK1, hD1⟩ := hB
  rw [ht] at hP1
  replace hK1 := va_K.moved hvm.symm hK1
  have hPD := join3 hP hD rfl [0] [] rfl (by rfl) (by decide +kernel) (by decide +kernel) hk1 hFc hP1 hD1
  replace hK : va_K (dC, dI) classes [] s := hK.app hK1
  clear hP1 hK1 hD1 hk1 hz1 hFc hKc hDc hPc hvm ht hP hS t
  have hP : va_P (dC, dI) classes [oc h0 8 [.int p0, .int p1, .ref h1, .ref h2, .ref h3, .ref h4, .ref h5, .ref h6, .ref h7, .ref h8, .ref h9, .ref h10, .ref h11, .ref h12, .int p2, .ref h13, .ref h14, .ref h15, .ref h16, .int p3, .int p4, .ref h17, .ref h18, .ref h19, .int p5, .ref h20, .int p6, .int p7, .ref h21, .ref h22, .ref h23, .ref h24, .ref h25, .ref h26, .ref h27, .ref h28, .int p8, .int 2, .ref h29, .ref h30, .ref h31, .ref h32, .ref h33, .ref h34, .ref h35, .ref h36, .int 0, .ref h37]] H1 := hPD.1
  replace hD : dd A [h0] := dd_of hPD.2 rfl
  clear hPD
  revert H1 locs1
  intro H locs hS hP
  refine tp_i (y := 0) hw1 ?_
  clear hw1 r_4 u
  refine tp_pc (pc' := 220) (by rfl) ?_
  refine lv_if_eq (tgt := 225) hx hb d_Ref_stands_220 (by decide) (fun c_5 => ?_) (fun c_5 => absurd c_5 (by decide))
  refine tp_pc (pc' := 225) (by rfl) ?_
  refine lv_iconst (v := 0) hx hb d_Ref_stands_225 (by decide) ?_
  refine lv_istore_n (lv' := [(1, .int 0), (0, .ref h0)]) hx hb d_Ref_stands_226 rfl hl (by decide) rfl ?_
  clear hl ls
  intro ls hl
  refine lv_iload_n hx hb d_Ref_stands_227 rfl (lv_at hl 0 rfl) ?_
  refine lv_aload_n hx hb d_Ref_stands_228 rfl (lv_at hl 1 rfl) ?_
  refine va_get (D := (dC, dI)) (ci := 8) (v := .int 0) (C := R_Ref) (T := F_Ref) (N := 48) hx hb hw i_Ref hown hK hP 0 rfl rfl 46 (by decide) (hw _ m_945) (fun _ h9 => h9) rfl d_Ref_stands_229 ?_
  refine lv_icmp_ge (tgt := 351) hx hb d_Ref_stands_232 (by decide) (fun c_6 => ?_) (fun c_6 => absurd c_6 (by decide))
  refine tp_pc (pc' := 351) (by rfl) ?_
  refine lv_aload_n hx hb d_Ref_stands_351 rfl (lv_at hl 1 rfl) ?_
  obtain ⟨hPc, hDc, hFc⟩ := cut3 (wc := [oc h0 8 [.int p0, .int p1, .ref h1, .ref h2, .ref h3, .ref h4, .ref h5, .ref h6, .ref h7, .ref h8, .ref h9, .ref h10, .ref h11, .ref h12, .int p2, .ref h13, .ref h14, .ref h15, .ref h16, .int p3, .int p4, .ref h17, .ref h18, .ref h19, .int p5, .ref h20, .int p6, .int p7, .ref h21, .ref h22, .ref h23, .ref h24, .ref h25, .ref h26, .ref h27, .ref h28, .int p8, .int 2, .ref h29, .ref h30, .ref h31, .ref h32, .ref h33, .ref h34, .ref h35, .ref h36, .int 0, .ref h37]]) hP hD rfl hS hA [0] (by decide +kernel) rfl
  have hKc := hK.sub (tys' := []) [] rfl
  refine va_calli (va_runV (As := []) (rest := []) ⟨hx, hb, hml, hown, hw⟩ (c_Ref_hasRing l dC dI h0 p0 p1 h1 h2 h3 h4 h5 h6 h7 h8 h9 h10 h11 h12 p2 h13 h14 h15 h16 p3 p4 h17 h18 h19 p5 h20 p6 p7 h21 h22 h23 h24 h25 h26 h27 h28 p8 2 h29 h30 h31 h32 h33 h34 h35 h36 h37 H.size) (cw_V 0 hw g_Ref_hasRing rfl rfl rfl (hw _ m_109) (hw _ m_1233) (hw _ m_1235) (hw _ m_89) (by decide +kernel) ⟨Nat.le_of_ble_eq_true rfl, Nat.le_of_ble_eq_true rfl⟩) ⟨fun a U g mk q => by obtain ⟨q0, q1, qP, qK, qD, qN⟩ := q; exact ⟨q0, q1, qP, va_K.moved (u := U) (U := U.calling g mk a) (Vm.Alike.refl U.vm) qK, qD, nw_call qN⟩, va_recv hKc hPc (ci := 8) (q0 := 0) rfl rfl, fun U hU hW => ⟨rfl, by rw [hU], by rw [hU]; exact hPc, va_K.moved hW.alike hKc, hDc.weaken (fun _ _ _ _ => trivial), nw_warm hW hn⟩⟩ rfl rfl hl.1 rfl (lv_room (Nat.le_of_ble_eq_true rfl)) d_Ref_stands_352 ⟨Nat.le_of_ble_eq_true rfl, Nat.le_of_ble_eq_true rfl⟩) hS (fun q _ h => hFc q h) hFc ?_
  intro r_7 u t H1 locs1 ht hvm hw1 hB hz1 hk1 hS1
  obtain ⟨hP1, hK1, hD1⟩ := hB
  rw [ht] at hP1
  replace hK1 := va_K.moved hvm.symm hK1
  have hPD := join3 hP hD rfl [0] [] rfl (by rfl) (by decide +kernel) (by decide +kernel) hk1 hFc hP1 hD1
  replace hK : va_K (dC, dI) classes [] s := hK.app hK1
  clear hP1 hK1 hD1 hk1 hz1 hFc hKc hDc hPc hvm ht hP hS t locs H
  have hP : va_P (dC, dI) classes [oc h0 8 [.int p0, .int p1, .ref h1, .ref h2, .ref h3, .ref h4, .ref h5, .ref h6, .ref h7, .ref h8, .ref h9, .ref h10, .ref h11, .ref h12, .int p2, .ref h13, .ref h14, .ref h15, .ref h16, .int p3, .int p4, .ref h17, .ref h18, .ref h19, .int p5, .ref h20, .int p6, .int p7, .ref h21, .ref h22, .ref h23, .ref h24, .ref h25, .ref h26, .ref h27, .ref h28, .int p8, .int 2, .ref h29, .ref h30, .ref h31, .ref h32, .ref h33, .ref h34, .ref h35, .ref h36, .int 0, .ref h37]] H1 := hPD.1
  replace hD : dd A [h0] := dd_of hPD.2 rfl
  clear hPD
  revert H1 locs1
  intro H locs hS hP
  refine tp_i (y := 0) hw1 ?_
  clear hw1 r_7 u
  refine tp_pc (pc' := 355) (by rfl) ?_
  refine lv_if_ne (tgt := 362) hx hb d_Ref_stands_355 (by decide) (fun c_8 => absurd c_8 (by decide)) (fun c_8 => ?_)
  refine tp_pc (pc' := 358) (by rfl) ?_
  refine lv_iconst (v := 1) hx hb d_Ref_stands_358 (by decide) ?_
  refine lv_goto (tgt := 363) hx hb d_Ref_stands_359 (by decide) ?_
  refine tp_pc (pc' := 363) (by rfl) ?_
  obtain ⟨hP9, hD9, -⟩ := cut3 (wc := [oc h0 8 [.int p0, .int p1, .ref h1, .ref h2, .ref h3, .ref h4, .ref h5, .ref h6, .ref h7, .ref h8, .ref h9, .ref h10, .ref h11, .ref h12, .int p2, .ref h13, .ref h14, .ref h15, .ref h16, .int p3, .int p4, .ref h17, .ref h18, .ref h19, .int p5, .ref h20, .int p6, .int p7, .ref h21, .ref h22, .ref h23, .ref h24, .ref h25, .ref h26, .ref h27, .ref h28, .int p8, .int 2, .ref h29, .ref h30, .ref h31, .ref h32, .ref h33, .ref h34, .ref h35, .ref h36, .int 0, .ref h37]]) hP hD rfl hS hA [0] (by decide +kernel) rfl
  have hK9 := hK.sub (tys' := []) [] rfl
  refine W.widen (k := 0) (n := 0) (by exact Nat.le_of_ble_eq_true rfl) (by exact Nat.le_of_ble_eq_true rfl) ?_
  exact W.zret (v := 1) (ty := .boolean) hx hb hr (by decide) (fun t ht hW => ⟨⟨1, (), rfl, rfl, by rw [ht]; exact hP9, va_K.moved hW.alike hK9, hD9⟩, hS.F ht⟩) hS.2.2 d_Ref_stands_363
set_option maxHeartbeats 4000000 in
set_option maxRecDepth 100000 in
theorem c_Ref_addOutcome_v7 (l : Launch) (dC : Nat → ClassId) (dI : Nat → Nat → Nat) (h0 : Nat) (p1 : Int32) (p2 : Int32) (h1 : Nat) (h2 : Nat) (h3 : Nat) (h4 : Nat) (h5 : Nat) (h6 : Nat) (h7 : Nat) (h8 : Nat) (h9 : Nat) (h10 : Nat) (h11 : Nat) (h12 : Nat) (p3 : Int32) (h13 : Nat) (h14 : Nat) (h15 : Nat) (h16 : Nat) (p4 : Int32) (p5 : Int32) (h17 : Nat) (h18 : Nat) (h19 : Nat) (p6 : Int32) (h20 : Nat) (p7 : Int32) (p8 : Int32) (h21 : Nat) (h22 : Nat) (h23 : Nat) (h24 : Nat) (h25 : Nat) (h26 : Nat) (h27 : Nat) (h28 : Nat) (p9 : Int32) (p10 : Int32) (h29 : Nat) (h30 : Nat) (h31 : Nat) (h32 : Nat) (h33 : Nat) (h34 : Nat) (h35 : Nat) (h36 : Nat) (p11 : Int32) (h37 : Nat) (k6 : ClassId) (k7 : ClassId) (f7 : Nat → Int32) (k10 : ClassId) (f10 : Nat → Int32) (k20 : ClassId) (sz : Nat) : Met l y_Ref_addOutcome w_Ref_addOutcome ({ frames := 0, cells := 0, slots := 0, locals := 0 }) (va_Pc [.ref h0, .int 6] (fun U => U.heap.size = sz ∧ va_P (dC, dI) classes [oc h0 8 [.int p1, .int p2, .ref h1, .ref h2, .ref h3, .ref h4, .ref h5, .ref h6, .ref h7, .ref h8, .ref h9, .ref h10, .ref h11, .ref h12, .int p3, .ref h13, .ref h14, .ref h15, .ref h16, .int p4, .int p5, .ref h17, .ref h18, .ref h19, .int p6, .ref h20, .int p7, .int p8, .ref h21, .ref h22, .ref h23, .ref h24, .ref h25, .ref h26, .ref h27, .ref h28, .int p9, .int p10, .ref h29, .ref h30, .ref h31, .ref h32, .ref h33, .ref h34, .ref h35, .ref h36, .int p11, .ref h37], ia h7 k6 8 (fun _ => 0), ia h8 k7 352000 f7, ia h11 k10 32000 f10, ia h21 k20 11 (fun _ => 0)] U.heap ∧ va_K (dC, dI) classes [(k6, .int), (k7, .short), (k10, .int), (k20, .int)] U ∧ va_D (fun _ => True) [oc h0 8 [.int p1, .int p2, .ref h1, .ref h2, .ref h3, .ref h4, .ref h5, .ref h6, .ref h7, .ref h8, .ref h9, .ref h10, .ref h11, .ref h12, .int p3, .ref h13, .ref h14, .ref h15, .ref h16, .int p4, .int p5, .ref h17, .ref h18, .ref h19, .int p6, .ref h20, .int p7, .int p8, .ref h21, .ref h22, .ref h23, .ref h24, .ref h25, .ref h26, .ref h27, .ref h28, .int p9, .int p10, .ref h29, .ref h30, .ref h31, .ref h32, .ref h33, .ref h34, .ref h35, .ref h36, .int p11, .ref h37], ia h7 k6 8 (fun _ => 0), ia h8 k7 352000 f7, ia h11 k10 32000 f10, ia h21 k20 11 (fun _ => 0)] ∧ nw U)) (va_Qi (fun (r : Int32) (_ : Unit) => r = 0) (fun _ t => va_P (dC, dI) classes [oc h0 8 [.int p1, .int p2, .ref h1, .ref h2, .ref h3, .ref h4, .ref h5, .ref h6, .ref h7, .ref h8, .ref h9, .ref h10, .ref h11, .ref h12, .int p3, .ref h13, .ref h14, .ref h15, .ref h16, .int p4, .int p5, .ref h17, .ref h18, .ref h19, .int p6, .ref h20, .int p7, .int p8, .ref h21, .ref h22, .ref h23, .ref h24, .ref h25, .ref h26, .ref h27, .ref h28, .int p9, .int p10, .ref h29, .ref h30, .ref h31, .ref h32, .ref h33, .ref h34, .ref h35, .ref h36, .int p11, .ref h37], ia h7 k6 8 (upd (fun _ => 0) 6 1), ia h8 k7 352000 (upd (upd (upd (upd (upd (upd (upd (upd (upd (upd (upd f7 264000 0) 264001 0) 264002 0) 264003 0) 264004 0) 264005 0) 264006 0) 264007 0) 264008 0) 264009 0) 264010 0), ia h11 k10 32000 (upd f10 24000 0), ia h21 k20 11 (fun _ => 0)] t.heap ∧ va_K (dC, dI) classes [] t ∧ va_D (va_A [oc h0 8 [.int p1, .int p2, .ref h1, .ref h2, .ref h3, .ref h4, .ref h5, .ref h6, .ref h7, .ref h8, .ref h9, .ref h10, .ref h11, .ref h12, .int p3, .ref h13, .ref h14, .ref h15, .ref h16, .int p4, .int p5, .ref h17, .ref h18, .ref h19, .int p6, .ref h20, .int p7, .int p8, .ref h21, .ref h22, .ref h23, .ref h24, .ref h25, .ref h26, .ref h27, .ref h28, .int p9, .int p10, .ref h29, .ref h30, .ref h31, .ref h32, .ref h33, .ref h34, .ref h35, .ref h36, .int p11, .ref h37], ia h7 k6 8 (fun _ => 0), ia h8 k7 352000 f7, ia h11 k10 32000 f10, ia h21 k20 11 (fun _ => 0)] sz) [oc h0 8 [.int p1, .int p2, .ref h1, .ref h2, .ref h3, .ref h4, .ref h5, .ref h6, .ref h7, .ref h8, .ref h9, .ref h10, .ref h11, .ref h12, .int p3, .ref h13, .ref h14, .ref h15, .ref h16, .int p4, .int p5, .ref h17, .ref h18, .ref h19, .int p6, .ref h20, .int p7, .int p8, .ref h21, .ref h22, .ref h23, .ref h24, .ref h25, .ref h26, .ref h27, .ref h28, .int p9, .int p10, .ref h29, .ref h30, .ref h31, .ref h32, .ref h33, .ref h34, .ref h35, .ref h36, .int p11, .ref h37], ia h7 k6 8 (upd (fun _ => 0) 6 1), ia h8 k7 352000 (upd (upd (upd (upd (upd (upd (upd (upd (upd (upd (upd f7 264000 0) 264001 0) 264002 0) 264003 0) 264004 0) 264005 0) 264006 0) 264007 0) 264008 0) 264009 0) 264010 0), ia h11 k10 32000 (upd f10 24000 0), ia h21 k20 11 (fun _ => 0)]) (va_A [oc h0 8 [.int p1, .int p2, .ref h1, .ref h2, .ref h3, .ref h4, .ref h5, .ref h6, .ref h7, .ref h8, .ref h9, .ref h10, .ref h11, .ref h12, .int p3, .ref h13, .ref h14, .ref h15, .ref h16, .int p4, .int p5, .ref h17, .ref h18, .ref h19, .int p6, .ref h20, .int p7, .int p8, .ref h21, .ref h22, .ref h23, .ref h24, .ref h25, .ref h26, .ref h27, .ref h28, .int p9, .int p10, .ref h29, .ref h30, .ref h31, .ref h32, .ref h33, .ref h34, .ref h35, .ref h36, .int p11, .ref h37], ia h7 k6 8 (fun _ => 0), ia h8 k7 352000 f7, ia h11 k10 32000 f10, ia h21 k20 11 (fun _ => 0)] sz)) 0 0 (va_A [oc h0 8 [.int p1, .int p2, .ref h1, .ref h2, .ref h3, .ref h4, .ref h5, .ref h6, .ref h7, .ref h8, .ref h9, .ref h10, .ref h11, .ref h12, .int p3, .ref h13, .ref h14, .ref h15, .ref h16, .int p4, .int p5, .ref h17, .ref h18, .ref h19, .int p6, .ref h20, .int p7, .int p8, .ref h21, .ref h22, .ref h23, .ref h24, .ref h25, .ref h26, .ref h27, .ref h28, .int p9, .int p10, .ref h29, .ref h30, .ref h31, .ref h32, .ref h33, .ref h34, .ref h35, .ref h36, .int p11, .ref h37], ia h7 k6 8 (fun _ => 0), ia h8 k7 352000 f7, ia h11 k10 32000 f10, ia h21 k20 11 (fun _ => 0)] sz) := by
  refine Met.ofW (cc := b_Ref_addOutcome) (maxL := 7) (ret := (some .int)) (by decide) rfl ?_
  intro p e s m args below meth c s₁ B hml hv
  obtain ⟨rfl, hsz, hP, hK, hD0, hn⟩ := hv
  have hx := B.exec
  have hb := B.bytes
  have hr := B.returns
  have hw := fun w (h : w ∈ wt) => atoms_spec (ws := w_Ref_addOutcome) B.pre w (List.mem_cons_of_mem _ h)
  have hown : s.vm.findClass R_Ref = some m.cls := findClass_of_methodNamed B.named
  have hlocks := B.notSynchronized
  subst hsz
  have hD1 := hD0.self (sz := s.heap.size)
  generalize hAe : va_A [oc h0 8 [.int p1, .int p2, .ref h1, .ref h2, .ref h3, .ref h4, .ref h5, .ref h6, .ref h7, .ref h8, .ref h9, .ref h10, .ref h11, .ref h12, .int p3, .ref h13, .ref h14, .ref h15, .ref h16, .int p4, .int p5, .ref h17, .ref h18, .ref h19, .int p6, .ref h20, .int p7, .int p8, .ref h21, .ref h22, .ref h23, .ref h24, .ref h25, .ref h26, .ref h27, .ref h28, .int p9, .int p10, .ref h29, .ref h30, .ref h31, .ref h32, .ref h33, .ref h34, .ref h35, .ref h36, .int p11, .ref h37], ia h7 k6 8 (fun _ => 0), ia h8 k7 352000 f7, ia h11 k10 32000 f10, ia h21 k20 11 (fun _ => 0)] s.heap.size = A at hD1 ⊢
  have hA : ∀ q : Nat, s.heap.size ≤ q → A q := fun q h => by rw [← hAe]; exact Or.inr h
  have hD : dd A [h0, h7, h8, h11, h21] := dd_of hD1 rfl
  clear hAe hD0 hD1
  have hS : va_S A s.heap s.heap [] := va_S.rf
  replace hP : va_P (dC, dI) classes [oc h0 8 [.int p1, .int p2, .ref h1, .ref h2, .ref h3, .ref h4, .ref h5, .ref h6, .ref h7, .ref h8, .ref h9, .ref h10, .ref h11, .ref h12, .int p3, .ref h13, .ref h14, .ref h15, .ref h16, .int p4, .int p5, .ref h17, .ref h18, .ref h19, .int p6, .ref h20, .int p7, .int p8, .ref h21, .ref h22, .ref h23, .ref h24, .ref h25, .ref h26, .ref h27, .ref h28, .int p9, .int p10, .ref h29, .ref h30, .ref h31, .ref h32, .ref h33, .ref h34, .ref h35, .ref h36, .int p11, .ref h37], ia h7 k6 8 (fun _ => 0), ia h8 k7 352000 f7, ia h11 k10 32000 f10, ia h21 k20 11 (fun _ => 0)] s.heap := hP
  have hl := lv_entry ([.ref h0, .int 6]) (n := 7) (Nat.le_of_ble_eq_true rfl)
  rw [lg_entry_eq]
  generalize (lg_sl ([.ref h0, .int 6]) ++ List.replicate (7 - (lg_sl ([.ref h0, .int 6])).length) Slot.unset).toArray = ls at hl ⊢
  replace hl : lv_has ls 7 [(0, .ref h0), (1, .int 6)] := hl
  refine lv_sipush (v := 4000) hx hb d_Ref_addOutcome_0 (by decide) ?_
  refine lv_iload_n hx hb d_Ref_addOutcome_3 rfl (lv_at hl 1 rfl) ?_
  refine lv_imul hx hb d_Ref_addOutcome_4 ?_
  refine tp_i (y := 24000) (by first | rfl | decide) ?_
  refine lv_istore_n (lv' := [(2, .int 24000), (0, .ref h0), (1, .int 6)]) hx hb d_Ref_addOutcome_5 rfl hl (by decide) rfl ?_
  clear hl ls
  intro ls hl
  refine lv_iconst (v := 0) hx hb d_Ref_addOutcome_6 (by decide) ?_
  refine lv_istore_n (lv' := [(3, .int 0), (2, .int 24000), (0, .ref h0), (1, .int 6)]) hx hb d_Ref_addOutcome_7 rfl hl (by decide) rfl ?_
  clear hl ls
  intro ls hl
  refine lv_aload_n hx hb d_Ref_addOutcome_8 rfl (lv_at hl 2 rfl) ?_
  refine va_get (D := (dC, dI)) (ci := 8) (v := .ref h7) (C := R_Ref) (T := F_Ref) (N := 48) hx hb hw i_Ref hown hK hP 0 rfl rfl 8 (by decide) (hw _ m_907) (fun _ h9 => h9) rfl d_Ref_addOutcome_9 ?_
  refine lv_iload_n hx hb d_Ref_addOutcome_12 rfl (lv_at hl 3 rfl) ?_
  refine va_iald (D := (dC, dI)) hx hb hK hP 1 0 rfl rfl (i := 6) (vp_c (by decide)) d_Ref_addOutcome_13 ?_
  refine tp_i (y := 0) (by first | rfl | decide) ?_
  refine lv_istore (lv' := [(4, .int 0), (3, .int 0), (2, .int 24000), (0, .ref h0), (1, .int 6)]) hx hb d_Ref_addOutcome_14 hl (by decide) rfl ?_
  clear hl ls
  intro ls hl
  refine lv_iload_n hx hb d_Ref_addOutcome_16 rfl (lv_at hl 1 rfl) ?_
  refine lv_iload hx hb d_Ref_addOutcome_17 (lv_at hl 0 rfl) ?_
  refine lv_icmp_ge (tgt := 62) hx hb d_Ref_addOutcome_19 (by decide) (fun c_1 => ?_) (fun c_1 => absurd c_1 (by decide))
  refine tp_pc (pc' := 62) (by rfl) ?_
  refine lv_aload_n hx hb d_Ref_addOutcome_62 rfl (lv_at hl 3 rfl) ?_
  refine va_get (D := (dC, dI)) (ci := 8) (v := .ref h7) (C := R_Ref) (T := F_Ref) (N := 48) hx hb hw i_Ref hown hK hP 0 rfl rfl 8 (by decide) (hw _ m_907) (fun _ h9 => h9) rfl d_Ref_addOutcome_63 ?_
  refine lv_iload_n hx hb d_Ref_addOutcome_66 rfl (lv_at hl 4 rfl) ?_
  refine va_iald (D := (dC, dI)) hx hb hK hP 1 0 rfl rfl (i := 6) (vp_c (by decide)) d_Ref_addOutcome_67 ?_
  refine tp_i (y := 0) (by first | rfl | decide) ?_
  refine lv_istore (lv' := [(5, .int 0), (4, .int 0), (3, .int 0), (2, .int 24000), (0, .ref h0), (1, .int 6)]) hx hb d_Ref_addOutcome_68 hl (by decide) rfl ?_
  clear hl ls
  intro ls hl
  refine lv_iload_n hx hb d_Ref_addOutcome_70 rfl (lv_at hl 2 rfl) ?_
  refine lv_iload hx hb d_Ref_addOutcome_71 (lv_at hl 0 rfl) ?_
  refine lv_icmp_ge (tgt := 92) hx hb d_Ref_addOutcome_73 (by decide) (fun c_2 => ?_) (fun c_2 => absurd c_2 (by decide))
  refine tp_pc (pc' := 92) (by rfl) ?_
  refine lv_iload hx hb d_Ref_addOutcome_92 (lv_at hl 0 rfl) ?_
  refine lv_sipush (v := 4000) hx hb d_Ref_addOutcome_94 (by decide) ?_
  refine lv_icmp_ne (tgt := 102) hx hb d_Ref_addOutcome_97 (by decide) (fun c_3 => ?_) (fun c_3 => absurd c_3 (by decide))
  refine tp_pc (pc' := 102) (by rfl) ?_
  refine lv_iload hx hb d_Ref_addOutcome_102 (lv_at hl 0 rfl) ?_
  refine lv_istore (lv' := [(6, .int 0), (5, .int 0), (4, .int 0), (3, .int 0), (2, .int 24000), (0, .ref h0), (1, .int 6)]) hx hb d_Ref_addOutcome_104 hl (by decide) rfl ?_
  clear hl ls
  intro ls hl
  refine lv_iload hx hb d_Ref_addOutcome_106 (lv_at hl 0 rfl) ?_
  refine lv_iload_n hx hb d_Ref_addOutcome_108 rfl (lv_at hl 3 rfl) ?_
  refine lv_icmp_le (tgt := 138) hx hb d_Ref_addOutcome_109 (by decide) (fun c_4 => ?_) (fun c_4 => absurd c_4 (by decide))
  refine tp_pc (pc' := 138) (by rfl) ?_
  refine lv_aload_n hx hb d_Ref_addOutcome_138 rfl (lv_at hl 5 rfl) ?_
  refine va_get (D := (dC, dI)) (ci := 8) (v := .ref h11) (C := R_Ref) (T := F_Ref) (N := 48) hx hb hw i_Ref hown hK hP 0 rfl rfl 12 (by decide) (hw _ m_911) (fun _ h9 => h9) rfl d_Ref_addOutcome_139 ?_
  refine lv_iload_n hx hb d_Ref_addOutcome_142 rfl (lv_at hl 4 rfl) ?_
  refine lv_iload_n hx hb d_Ref_addOutcome_143 rfl (lv_at hl 3 rfl) ?_
  refine lv_iadd hx hb d_Ref_addOutcome_144 ?_
  refine tp_i (y := 24000) (by first | rfl | decide) ?_
  refine lv_iload hx hb d_Ref_addOutcome_145 (lv_at hl 1 rfl) ?_
  refine va_iast (D := (dC, dI)) hx hb hK hP (dd_D hD rfl) hS 3 2 rfl rfl (i := 24000) (x := 0) (vp_c (by decide)) d_Ref_addOutcome_147 ?_
  clear hP hS
  intro H locs (hP : va_P (dC, dI) classes [oc h0 8 [.int p1, .int p2, .ref h1, .ref h2, .ref h3, .ref h4, .ref h5, .ref h6, .ref h7, .ref h8, .ref h9, .ref h10, .ref h11, .ref h12, .int p3, .ref h13, .ref h14, .ref h15, .ref h16, .int p4, .int p5, .ref h17, .ref h18, .ref h19, .int p6, .ref h20, .int p7, .int p8, .ref h21, .ref h22, .ref h23, .ref h24, .ref h25, .ref h26, .ref h27, .ref h28, .int p9, .int p10, .ref h29, .ref h30, .ref h31, .ref h32, .ref h33, .ref h34, .ref h35, .ref h36, .int p11, .ref h37], ia h7 k6 8 (fun _ => 0), ia h8 k7 352000 f7, ia h11 k10 32000 (upd f10 24000 0), ia h21 k20 11 (fun _ => 0)] H) _ hS
  refine tp_pc (pc' := 148) (by rfl) ?_
  refine lv_aload_n hx hb d_Ref_addOutcome_148 rfl (lv_at hl 5 rfl) ?_
  refine va_get (D := (dC, dI)) (ci := 8) (v := .ref h7) (C := R_Ref) (T := F_Ref) (N := 48) hx hb hw i_Ref hown hK hP 0 rfl rfl 8 (by decide) (hw _ m_907) (fun _ h9 => h9) rfl d_Ref_addOutcome_149 ?_
  refine lv_iload_n hx hb d_Ref_addOutcome_152 rfl (lv_at hl 6 rfl) ?_
  refine lv_dup2_11 hx hb d_Ref_addOutcome_153 rfl rfl ?_
  refine va_iald (D := (dC, dI)) hx hb hK hP 1 0 rfl rfl (i := 6) (vp_c (by decide)) d_Ref_addOutcome_154 ?_
  refine tp_i (y := 0) (by first | rfl | decide) ?_
  refine lv_iconst (v := 1) hx hb d_Ref_addOutcome_155 (by decide) ?_
  refine lv_iadd hx hb d_Ref_addOutcome_156 ?_
  refine tp_i (y := 1) (by first | rfl | decide) ?_
  refine va_iast (D := (dC, dI)) hx hb hK hP (dd_D hD rfl) hS 1 0 rfl rfl (i := 6) (x := 1) (vp_c (by decide)) d_Ref_addOutcome_157 ?_
  clear hP hS locs H
  intro H locs (hP : va_P (dC, dI) classes [oc h0 8 [.int p1, .int p2, .ref h1, .ref h2, .ref h3, .ref h4, .ref h5, .ref h6, .ref h7, .ref h8, .ref h9, .ref h10, .ref h11, .ref h12, .int p3, .ref h13, .ref h14, .ref h15, .ref h16, .int p4, .int p5, .ref h17, .ref h18, .ref h19, .int p6, .ref h20, .int p7, .int p8, .ref h21, .ref h22, .ref h23, .ref h24, .ref h25, .ref h26, .ref h27, .ref h28, .int p9, .int p10, .ref h29, .ref h30, .ref h31, .ref h32, .ref h33, .ref h34, .ref h35, .ref h36, .int p11, .ref h37], ia h7 k6 8 (upd (fun _ => 0) 6 1), ia h8 k7 352000 f7, ia h11 k10 32000 (upd f10 24000 0), ia h21 k20 11 (fun _ => 0)] H) _ hS
  refine tp_pc (pc' := 158) (by rfl) ?_
  refine lv_iconst (v := 0) hx hb d_Ref_addOutcome_158 (by decide) ?_
  refine lv_istore (lv' := [(6, .int 0), (5, .int 0), (4, .int 0), (3, .int 0), (2, .int 24000), (0, .ref h0), (1, .int 6)]) hx hb d_Ref_addOutcome_159 hl (by decide) rfl ?_
  clear hl ls
  intro ls hl
  refine lv_iload hx hb d_Ref_addOutcome_161 (lv_at hl 0 rfl) ?_
  refine lv_bipush (v := 11) hx hb d_Ref_addOutcome_163 (by decide) ?_
  refine lv_icmp_ge (tgt := 197) hx hb d_Ref_addOutcome_165 (by decide) (fun c_5 => absurd c_5 (by decide)) (fun c_5 => ?_)
  refine tp_pc (pc' := 168) (by rfl) ?_
  refine lv_aload_n hx hb d_Ref_addOutcome_168 rfl (lv_at hl 5 rfl) ?_
  refine va_get (D := (dC, dI)) (ci := 8) (v := .ref h8) (C := R_Ref) (T := F_Ref) (N := 48) hx hb hw i_Ref hown hK hP 0 rfl rfl 9 (by decide) (hw _ m_908) (fun _ h9 => h9) rfl d_Ref_addOutcome_169 ?_
  refine lv_bipush (v := 11) hx hb d_Ref_addOutcome_172 (by decide) ?_
  refine lv_iload_n hx hb d_Ref_addOutcome_174 rfl (lv_at hl 4 rfl) ?_
  refine lv_iload hx hb d_Ref_addOutcome_175 (lv_at hl 1 rfl) ?_
  refine lv_iadd hx hb d_Ref_addOutcome_177 ?_
  refine tp_i (y := 24000) (by first | rfl | decide) ?_
  refine lv_imul hx hb d_Ref_addOutcome_178 ?_
  refine tp_i (y := 264000) (by first | rfl | decide) ?_
  refine lv_iload hx hb d_Ref_addOutcome_179 (lv_at hl 0 rfl) ?_
  refine lv_iadd hx hb d_Ref_addOutcome_181 ?_
  refine tp_i (y := 264000) (by first | rfl | decide) ?_
  refine lv_aload_n hx hb d_Ref_addOutcome_182 rfl (lv_at hl 5 rfl) ?_
  refine va_get (D := (dC, dI)) (ci := 8) (v := .ref h21) (C := R_Ref) (T := F_Ref) (N := 48) hx hb hw i_Ref hown hK hP 0 rfl rfl 28 (by decide) (hw _ m_927) (fun _ h9 => h9) rfl d_Ref_addOutcome_183 ?_
  refine lv_iload hx hb d_Ref_addOutcome_186 (lv_at hl 0 rfl) ?_
  refine va_iald (D := (dC, dI)) hx hb hK hP 4 3 rfl rfl (i := 0) (vp_c (by decide)) d_Ref_addOutcome_188 ?_
  refine tp_i (y := 0) (by first | rfl | decide) ?_
  refine lv_i2s (v := 0) hx hb d_Ref_addOutcome_189 (by decide) ?_
  refine va_sast (D := (dC, dI)) hx hb hK hP (dd_D hD rfl) hS 2 1 rfl rfl (i := 264000) (x := 0) (vp_c (by decide)) d_Ref_addOutcome_190 ?_
  clear hP hS locs H
  intro H locs (hP : va_P (dC, dI) classes [oc h0 8 [.int p1, .int p2, .ref h1, .ref h2, .ref h3, .ref h4, .ref h5, .ref h6, .ref h7, .ref h8, .ref h9, .ref h10, .ref h11, .ref h12, .int p3, .ref h13, .ref h14, .ref h15, .ref h16, .int p4, .int p5, .ref h17, .ref h18, .ref h19, .int p6, .ref h20, .int p7, .int p8, .ref h21, .ref h22, .ref h23, .ref h24, .ref h25, .ref h26, .ref h27, .ref h28, .int p9, .int p10, .ref h29, .ref h30, .ref h31, .ref h32, .ref h33, .ref h34, .ref h35, .ref h36, .int p11, .ref h37], ia h7 k6 8 (upd (fun _ => 0) 6 1), ia h8 k7 352000 (upd f7 264000 0), ia h11 k10 32000 (upd f10 24000 0), ia h21 k20 11 (fun _ => 0)] H) _ hS
  refine tp_pc (pc' := 191) (by rfl) ?_
  refine lv_iinc (v := 1) (lv' := [(6, .int 1), (5, .int 0), (4, .int 0), (3, .int 0), (2, .int 24000), (0, .ref h0), (1, .int 6)]) hx hb d_Ref_addOutcome_191 hl (k := 0) rfl (by first | rfl | decide) (by decide) rfl ?_
  clear hl ls
  intro ls hl
  refine lv_goto (tgt := 161) hx hb d_Ref_addOutcome_194 (by decide) ?_
  refine tp_pc (pc' := 161) (by rfl) ?_
  refine lv_iload hx hb d_Ref_addOutcome_161 (lv_at hl 0 rfl) ?_
  refine lv_bipush (v := 11) hx hb d_Ref_addOutcome_163 (by decide) ?_
  refine lv_icmp_ge (tgt := 197) hx hb d_Ref_addOutcome_165 (by decide) (fun c_6 => absurd c_6 (by decide)) (fun c_6 => ?_)
  refine tp_pc (pc' := 168) (by rfl) ?_
  refine lv_aload_n hx hb d_Ref_addOutcome_168 rfl (lv_at hl 5 rfl) ?_
  refine va_get (D := (dC, dI)) (ci := 8) (v := .ref h8) (C := R_Ref) (T := F_Ref) (N := 48) hx hb hw i_Ref hown hK hP 0 rfl rfl 9 (by decide) (hw _ m_908) (fun _ h9 => h9) rfl d_Ref_addOutcome_169 ?_
  refine lv_bipush (v := 11) hx hb d_Ref_addOutcome_172 (by decide) ?_
  refine lv_iload_n hx hb d_Ref_addOutcome_174 rfl (lv_at hl 4 rfl) ?_
  refine lv_iload hx hb d_Ref_addOutcome_175 (lv_at hl 1 rfl) ?_
  refine lv_iadd hx hb d_Ref_addOutcome_177 ?_
  refine tp_i (y := 24000) (by first | rfl | decide) ?_
  refine lv_imul hx hb d_Ref_addOutcome_178 ?_
  refine tp_i (y := 264000) (by first | rfl | decide) ?_
  refine lv_iload hx hb d_Ref_addOutcome_179 (lv_at hl 0 rfl) ?_
  refine lv_iadd hx hb d_Ref_addOutcome_181 ?_
  refine tp_i (y := 264001) (by first | rfl | decide) ?_
  refine lv_aload_n hx hb d_Ref_addOutcome_182 rfl (lv_at hl 5 rfl) ?_
  refine va_get (D := (dC, dI)) (ci := 8) (v := .ref h21) (C := R_Ref) (T := F_Ref) (N := 48) hx hb hw i_Ref hown hK hP 0 rfl rfl 28 (by decide) (hw _ m_927) (fun _ h9 => h9) rfl d_Ref_addOutcome_183 ?_
  refine lv_iload hx hb d_Ref_addOutcome_186 (lv_at hl 0 rfl) ?_
  refine va_iald (D := (dC, dI)) hx hb hK hP 4 3 rfl rfl (i := 1) (vp_c (by decide)) d_Ref_addOutcome_188 ?_
  refine tp_i (y := 0) (by first | rfl | decide) ?_
  refine lv_i2s (v := 0) hx hb d_Ref_addOutcome_189 (by decide) ?_
  refine va_sast (D := (dC, dI)) hx hb hK hP (dd_D hD rfl) hS 2 1 rfl rfl (i := 264001) (x := 0) (vp_c (by decide)) d_Ref_addOutcome_190 ?_
  clear hP hS locs H
  intro H locs (hP : va_P (dC, dI) classes [oc h0 8 [.int p1, .int p2, .ref h1, .ref h2, .ref h3, .ref h4, .ref h5, .ref h6, .ref h7, .ref h8, .ref h9, .ref h10, .ref h11, .ref h12, .int p3, .ref h13, .ref h14, .ref h15, .ref h16, .int p4, .int p5, .ref h17, .ref h18, .ref h19, .int p6, .ref h20, .int p7, .int p8, .ref h21, .ref h22, .ref h23, .ref h24, .ref h25, .ref h26, .ref h27, .ref h28, .int p9, .int p10, .ref h29, .ref h30, .ref h31, .ref h32, .ref h33, .ref h34, .ref h35, .ref h36, .int p11, .ref h37], ia h7 k6 8 (upd (fun _ => 0) 6 1), ia h8 k7 352000 (upd (upd f7 264000 0) 264001 0), ia h11 k10 32000 (upd f10 24000 0), ia h21 k20 11 (fun _ => 0)] H) _ hS
  refine tp_pc (pc' := 191) (by rfl) ?_
  refine lv_iinc (v := 2) (lv' := [(6, .int 2), (5, .int 0), (4, .int 0), (3, .int 0), (2, .int 24000), (0, .ref h0), (1, .int 6)]) hx hb d_Ref_addOutcome_191 hl (k := 0) rfl (by first | rfl | decide) (by decide) rfl ?_
  clear hl ls
  intro ls hl
  refine lv_goto (tgt := 161) hx hb d_Ref_addOutcome_194 (by decide) ?_
  refine tp_pc (pc' := 161) (by rfl) ?_
  refine lv_iload hx hb d_Ref_addOutcome_161 (lv_at hl 0 rfl) ?_
  refine lv_bipush (v := 11) hx hb d_Ref_addOutcome_163 (by decide) ?_
  refine lv_icmp_ge (tgt := 197) hx hb d_Ref_addOutcome_165 (by decide) (fun c_7 => absurd c_7 (by decide)) (fun c_7 => ?_)
  refine tp_pc (pc' := 168) (by rfl) ?_
  refine lv_aload_n hx hb d_Ref_addOutcome_168 rfl (lv_at hl 5 rfl) ?_
  refine va_get (D := (dC, dI)) (ci := 8) (v := .ref h8) (C := R_Ref) (T := F_Ref) (N := 48) hx hb hw i_Ref hown hK hP 0 rfl rfl 9 (by decide) (hw _ m_908) (fun _ h9 => h9) rfl d_Ref_addOutcome_169 ?_
  refine lv_bipush (v := 11) hx hb d_Ref_addOutcome_172 (by decide) ?_
  refine lv_iload_n hx hb d_Ref_addOutcome_174 rfl (lv_at hl 4 rfl) ?_
  refine lv_iload hx hb d_Ref_addOutcome_175 (lv_at hl 1 rfl) ?_
  refine lv_iadd hx hb d_Ref_addOutcome_177 ?_
  refine tp_i (y := 24000) (by first | rfl | decide) ?_
  refine lv_imul hx hb d_Ref_addOutcome_178 ?_
  refine tp_i (y := 264000) (by first | rfl | decide) ?_
  refine lv_iload hx hb d_Ref_addOutcome_179 (lv_at hl 0 rfl) ?_
  refine lv_iadd hx hb d_Ref_addOutcome_181 ?_
  refine tp_i (y := 264002) (by first | rfl | decide) ?_
  refine lv_aload_n hx hb d_Ref_addOutcome_182 rfl (lv_at hl 5 rfl) ?_
  refine va_get (D := (dC, dI)) (ci := 8) (v := .ref h21) (C := R_Ref) (T := F_Ref) (N := 48) hx hb hw i_Ref hown hK hP 0 rfl rfl 28 (by decide) (hw _ m_927) (fun _ h9 => h9) rfl d_Ref_addOutcome_183 ?_
  refine lv_iload hx hb d_Ref_addOutcome_186 (lv_at hl 0 rfl) ?_
  refine va_iald (D := (dC, dI)) hx hb hK hP 4 3 rfl rfl (i := 2) (vp_c (by decide)) d_Ref_addOutcome_188 ?_
  refine tp_i (y := 0) (by first | rfl | decide) ?_
  refine lv_i2s (v := 0) hx hb d_Ref_addOutcome_189 (by decide) ?_
  refine va_sast (D := (dC, dI)) hx hb hK hP (dd_D hD rfl) hS 2 1 rfl rfl (i := 264002) (x := 0) (vp_c (by decide)) d_Ref_addOutcome_190 ?_
  clear hP hS locs H
  intro H locs (hP : va_P (dC, dI) classes [oc h0 8 [.int p1, .int p2, .ref h1, .ref h2, .ref h3, .ref h4, .ref h5, .ref h6, .ref h7, .ref h8, .ref h9, .ref h10, .ref h11, .ref h12, .int p3, .ref h13, .ref h14, .ref h15, .ref h16, .int p4, .int p5, .ref h17, .ref h18, .ref h19, .int p6, .ref h20, .int p7, .int p8, .ref h21, .ref h22, .ref h23, .ref h24, .ref h25, .ref h26, .ref h27, .ref h28, .int p9, .int p10, .ref h29, .ref h30, .ref h31, .ref h32, .ref h33, .ref h34, .ref h35, .ref h36, .int p11, .ref h37], ia h7 k6 8 (upd (fun _ => 0) 6 1), ia h8 k7 352000 (upd (upd (upd f7 264000 0) 264001 0) 264002 0), ia h11 k10 32000 (upd f10 24000 0), ia h21 k20 11 (fun _ => 0)] H) _ hS
  refine tp_pc (pc' := 191) (by rfl) ?_
  refine lv_iinc (v := 3) (lv' := [(6, .int 3), (5, .int 0), (4, .int 0), (3, .int 0), (2, .int 24000), (0, .ref h0), (1, .int 6)]) hx hb d_Ref_addOutcome_191 hl (k := 0) rfl (by first | rfl | decide) (by decide) rfl ?_
  clear hl ls
  intro ls hl
  refine lv_goto (tgt := 161) hx hb d_Ref_addOutcome_194 (by decide) ?_
  refine tp_pc (pc' := 161) (by rfl) ?_
  refine lv_iload hx hb d_Ref_addOutcome_161 (lv_at hl 0 rfl) ?_
  refine lv_bipush (v := 11) hx hb d_Ref_addOutcome_163 (by decide) ?_
  refine lv_icmp_ge (tgt := 197) hx hb d_Ref_addOutcome_165 (by decide) (fun c_8 => absurd c_8 (by decide)) (fun c_8 => ?_)
  refine tp_pc (pc' := 168) (by rfl) ?_
  refine lv_aload_n hx hb d_Ref_addOutcome_168 rfl (lv_at hl 5 rfl) ?_
  refine va_get (D := (dC, dI)) (ci := 8) (v := .ref h8) (C := R_Ref) (T := F_Ref) (N := 48) hx hb hw i_Ref hown hK hP 0 rfl rfl 9 (by decide) (hw _ m_908) (fun _ h9 => h9) rfl d_Ref_addOutcome_169 ?_
  refine lv_bipush (v := 11) hx hb d_Ref_addOutcome_172 (by decide) ?_
  refine lv_iload_n hx hb d_Ref_addOutcome_174 rfl (lv_at hl 4 rfl) ?_
  refine lv_iload hx hb d_Ref_addOutcome_175 (lv_at hl 1 rfl) ?_
  refine lv_iadd hx hb d_Ref_addOutcome_177 ?_
  refine tp_i (y := 24000) (by first | rfl | decide) ?_
  refine lv_imul hx hb d_Ref_addOutcome_178 ?_
  refine tp_i (y := 264000) (by first | rfl | decide) ?_
  refine lv_iload hx hb d_Ref_addOutcome_179 (lv_at hl 0 rfl) ?_
  refine lv_iadd hx hb d_Ref_addOutcome_181 ?_
  refine tp_i (y := 264003) (by first | rfl | decide) ?_
  refine lv_aload_n hx hb d_Ref_addOutcome_182 rfl (lv_at hl 5 rfl) ?_
  refine va_get (D := (dC, dI)) (ci := 8) (v := .ref h21) (C := R_Ref) (T := F_Ref) (N := 48) hx hb hw i_Ref hown hK hP 0 rfl rfl 28 (by decide) (hw _ m_927) (fun _ h9 => h9) rfl d_Ref_addOutcome_183 ?_
  refine lv_iload hx hb d_Ref_addOutcome_186 (lv_at hl 0 rfl) ?_
  refine va_iald (D := (dC, dI)) hx hb hK hP 4 3 rfl rfl (i := 3) (vp_c (by decide)) d_Ref_addOutcome_188 ?_
  refine tp_i (y := 0) (by first | rfl | decide) ?_
  refine lv_i2s (v := 0) hx hb d_Ref_addOutcome_189 (by decide) ?_
  refine va_sast (D := (dC, dI)) hx hb hK hP (dd_D hD rfl) hS 2 1 rfl rfl (i := 264003) (x := 0) (vp_c (by decide)) d_Ref_addOutcome_190 ?_
  clear hP hS locs H
  intro H locs (hP : va_P (dC, dI) classes [oc h0 8 [.int p1, .int p2, .ref h1, .ref h2, .ref h3, .ref h4, .ref h5, .ref h6, .ref h7, .ref h8, .ref h9, .ref h10, .ref h11, .ref h12, .int p3, .ref h13, .ref h14, .ref h15, .ref h16, .int p4, .int p5, .ref h17, .ref h18, .ref h19, .int p6, .ref h20, .int p7, .int p8, .ref h21, .ref h22, .ref h23, .ref h24, .ref h25, .ref h26, .ref h27, .ref h28, .int p9, .int p10, .ref h29, .ref h30, .ref h31, .ref h32, .ref h33, .ref h34, .ref h35, .ref h36, .int p11, .ref h37], ia h7 k6 8 (upd (fun _ => 0) 6 1), ia h8 k7 352000 (upd (upd (upd (upd f7 264000 0) 264001 0) 264002 0) 264003 0), ia h11 k10 32000 (upd f10 24000 0), ia h21 k20 11 (fun _ => 0)] H) _ hS
  refine tp_pc (pc' := 191) (by rfl) ?_
  refine lv_iinc (v := 4) (lv' := [(6, .int 4), (5, .int 0), (4, .int 0), (3, .int 0), (2, .int 24000), (0, .ref h0), (1, .int 6)]) hx hb d_Ref_addOutcome_191 hl (k := 0) rfl (by first | rfl | decide) (by decide) rfl ?_
  clear hl ls
  intro ls hl
  refine lv_goto (tgt := 161) hx hb d_Ref_addOutcome_194 (by decide) ?_
  refine tp_pc (pc' := 161) (by rfl) ?_
  refine lv_iload hx hb d_Ref_addOutcome_161 (lv_at hl 0 rfl) ?_
  refine lv_bipush (v := 11) hx hb d_Ref_addOutcome_163 (by decide) ?_
  refine lv_icmp_ge (tgt := 197) hx hb d_Ref_addOutcome_165 (by decide) (fun c_9 => absurd c_9 (by decide)) (fun c_9 => ?_)
  refine tp_pc (pc' := 168) (by rfl) ?_
  refine lv_aload_n hx hb d_Ref_addOutcome_168 rfl (lv_at hl 5 rfl) ?_
  refine va_get (D := (dC, dI)) (ci := 8) (v := .ref h8) (C := R_Ref) (T := F_Ref) (N := 48) hx hb hw i_Ref hown hK hP 0 rfl rfl 9 (by decide) (hw _ m_908) (fun _ h9 => h9) rfl d_Ref_addOutcome_169 ?_
  refine lv_bipush (v := 11) hx hb d_Ref_addOutcome_172 (by decide) ?_
  refine lv_iload_n hx hb d_Ref_addOutcome_174 rfl (lv_at hl 4 rfl) ?_
  refine lv_iload hx hb d_Ref_addOutcome_175 (lv_at hl 1 rfl) ?_
  refine lv_iadd hx hb d_Ref_addOutcome_177 ?_
  refine tp_i (y := 24000) (by first | rfl | decide) ?_
  refine lv_imul hx hb d_Ref_addOutcome_178 ?_
  refine tp_i (y := 264000) (by first | rfl | decide) ?_
  refine lv_iload hx hb d_Ref_addOutcome_179 (lv_at hl 0 rfl) ?_
  refine lv_iadd hx hb d_Ref_addOutcome_181 ?_
  refine tp_i (y := 264004) (by first | rfl | decide) ?_
  refine lv_aload_n hx hb d_Ref_addOutcome_182 rfl (lv_at hl 5 rfl) ?_
  refine va_get (D := (dC, dI)) (ci := 8) (v := .ref h21) (C := R_Ref) (T := F_Ref) (N := 48) hx hb hw i_Ref hown hK hP 0 rfl rfl 28 (by decide) (hw _ m_927) (fun _ h9 => h9) rfl d_Ref_addOutcome_183 ?_
  refine lv_iload hx hb d_Ref_addOutcome_186 (lv_at hl 0 rfl) ?_
  refine va_iald (D := (dC, dI)) hx hb hK hP 4 3 rfl rfl (i := 4) (vp_c (by decide)) d_Ref_addOutcome_188 ?_
  refine tp_i (y := 0) (by first | rfl | decide) ?_
  refine lv_i2s (v := 0) hx hb d_Ref_addOutcome_189 (by decide) ?_
  refine va_sast (D := (dC, dI)) hx hb hK hP (dd_D hD rfl) hS 2 1 rfl rfl (i := 264004) (x := 0) (vp_c (by decide)) d_Ref_addOutcome_190 ?_
  clear hP hS locs H
  intro H locs (hP : va_P (dC, dI) classes [oc h0 8 [.int p1, .int p2, .ref h1, .ref h2, .ref h3, .ref h4, .ref h5, .ref h6, .ref h7, .ref h8, .ref h9, .ref h10, .ref h11, .ref h12, .int p3, .ref h13, .ref h14, .ref h15, .ref h16, .int p4, .int p5, .ref h17, .ref h18, .ref h19, .int p6, .ref h20, .int p7, .int p8, .ref h21, .ref h22, .ref h23, .ref h24, .ref h25, .ref h26, .ref h27, .ref h28, .int p9, .int p10, .ref h29, .ref h30, .ref h31, .ref h32, .ref h33, .ref h34, .ref h35, .ref h36, .int p11, .ref h37], ia h7 k6 8 (upd (fun _ => 0) 6 1), ia h8 k7 352000 (upd (upd (upd (upd (upd f7 264000 0) 264001 0) 264002 0) 264003 0) 264004 0), ia h11 k10 32000 (upd f10 24000 0), ia h21 k20 11 (fun _ => 0)] H) _ hS
  refine tp_pc (pc' := 191) (by rfl) ?_
  refine lv_iinc (v := 5) (lv' := [(6, .int 5), (5, .int 0), (4, .int 0), (3, .int 0), (2, .int 24000), (0, .ref h0), (1, .int 6)]) hx hb d_Ref_addOutcome_191 hl (k := 0) rfl (by first | rfl | decide) (by decide) rfl ?_
  clear hl ls
  intro ls hl
  refine lv_goto (tgt := 161) hx hb d_Ref_addOutcome_194 (by decide) ?_
  refine tp_pc (pc' := 161) (by rfl) ?_
  refine lv_iload hx hb d_Ref_addOutcome_161 (lv_at hl 0 rfl) ?_
  refine lv_bipush (v := 11) hx hb d_Ref_addOutcome_163 (by decide) ?_
  refine lv_icmp_ge (tgt := 197) hx hb d_Ref_addOutcome_165 (by decide) (fun c_10 => absurd c_10 (by decide)) (fun c_10 => ?_)
  refine tp_pc (pc' := 168) (by rfl) ?_
  refine lv_aload_n hx hb d_Ref_addOutcome_168 rfl (lv_at hl 5 rfl) ?_
  refine va_get (D := (dC, dI)) (ci := 8) (v := .ref h8) (C := R_Ref) (T := F_Ref) (N := 48) hx hb hw i_Ref hown hK hP 0 rfl rfl 9 (by decide) (hw _ m_908) (fun _ h9 => h9) rfl d_Ref_addOutcome_169 ?_
  refine lv_bipush (v := 11) hx hb d_Ref_addOutcome_172 (by decide) ?_
  refine lv_iload_n hx hb d_Ref_addOutcome_174 rfl (lv_at hl 4 rfl) ?_
  refine lv_iload hx hb d_Ref_addOutcome_175 (lv_at hl 1 rfl) ?_
  refine lv_iadd hx hb d_Ref_addOutcome_177 ?_
  refine tp_i (y := 24000) (by first | rfl | decide) ?_
  refine lv_imul hx hb d_Ref_addOutcome_178 ?_
  refine tp_i (y := 264000) (by first | rfl | decide) ?_
  refine lv_iload hx hb d_Ref_addOutcome_179 (lv_at hl 0 rfl) ?_
  refine lv_iadd hx hb d_Ref_addOutcome_181 ?_
  refine tp_i (y := 264005) (by first | rfl | decide) ?_
  refine lv_aload_n hx hb d_Ref_addOutcome_182 rfl (lv_at hl 5 rfl) ?_
  refine va_get (D := (dC, dI)) (ci := 8) (v := .ref h21) (C := R_Ref) (T := F_Ref) (N := 48) hx hb hw i_Ref hown hK hP 0 rfl rfl 28 (by decide) (hw _ m_927) (fun _ h9 => h9) rfl d_Ref_addOutcome_183 ?_
  refine lv_iload hx hb d_Ref_addOutcome_186 (lv_at hl 0 rfl) ?_
  refine va_iald (D := (dC, dI)) hx hb hK hP 4 3 rfl rfl (i := 5) (vp_c (by decide)) d_Ref_addOutcome_188 ?_
  refine tp_i (y := 0) (by first | rfl | decide) ?_
  refine lv_i2s (v := 0) hx hb d_Ref_addOutcome_189 (by decide) ?_
  refine va_sast (D := (dC, dI)) hx hb hK hP (dd_D hD rfl) hS 2 1 rfl rfl (i := 264005) (x := 0) (vp_c (by decide)) d_Ref_addOutcome_190 ?_
  clear hP hS locs H
  intro H locs (hP : va_P (dC, dI) classes [oc h0 8 [.int p1, .int p2, .ref h1, .ref h2, .ref h3, .ref h4, .ref h5, .ref h6, .ref h7, .ref h8, .ref h9, .ref h10, .ref h11, .ref h12, .int p3, .ref h13, .ref h14, .ref h15, .ref h16, .int p4, .int p5, .ref h17, .ref h18, .ref h19, .int p6, .ref h20, .int p7, .int p8, .ref h21, .ref h22, .ref h23, .ref h24, .ref h25, .ref h26, .ref h27, .ref h28, .int p9, .int p10, .ref h29, .ref h30, .ref h31, .ref h32, .ref h33, .ref h34, .ref h35, .ref h36, .int p11, .ref h37], ia h7 k6 8 (upd (fun _ => 0) 6 1), ia h8 k7 352000 (upd (upd (upd (upd (upd (upd f7 264000 0) 264001 0) 264002 0) 264003 0) 264004 0) 264005 0), ia h11 k10 32000 (upd f10 24000 0), ia h21 k20 11 (fun _ => 0)] H) _ hS
  refine tp_pc (pc' := 191) (by rfl) ?_
  refine lv_iinc (v := 6) (lv' := [(6, .int 6), (5, .int 0), (4, .int 0), (3, .int 0), (2, .int 24000), (0, .ref h0), (1, .int 6)]) hx hb d_Ref_addOutcome_191 hl (k := 0) rfl (by first | rfl | decide) (by decide) rfl ?_
  clear hl ls
  intro ls hl
  refine lv_goto (tgt := 161) hx hb d_Ref_addOutcome_194 (by decide) ?_
  refine tp_pc (pc' := 161) (by rfl) ?_
  refine lv_iload hx hb d_Ref_addOutcome_161 (lv_at hl 0 rfl) ?_
  refine lv_bipush (v := 11) hx hb d_Ref_addOutcome_163 (by decide) ?_
  refine lv_icmp_ge (tgt := 197) hx hb d_Ref_addOutcome_165 (by decide) (fun c_11 => absurd c_11 (by decide)) (fun c_11 => ?_)
  refine tp_pc (pc' := 168) (by rfl) ?_
  refine lv_aload_n hx hb d_Ref_addOutcome_168 rfl (lv_at hl 5 rfl) ?_
  refine va_get (D := (dC, dI)) (ci := 8) (v := .ref h8) (C := R_Ref) (T := F_Ref) (N := 48) hx hb hw i_Ref hown hK hP 0 rfl rfl 9 (by decide) (hw _ m_908) (fun _ h9 => h9) rfl d_Ref_addOutcome_169 ?_
  refine lv_bipush (v := 11) hx hb d_Ref_addOutcome_172 (by decide) ?_
  refine lv_iload_n hx hb d_Ref_addOutcome_174 rfl (lv_at hl 4 rfl) ?_
  refine lv_iload hx hb d_Ref_addOutcome_175 (lv_at hl 1 rfl) ?_
  refine lv_iadd hx hb d_Ref_addOutcome_177 ?_
  refine tp_i (y := 24000) (by first | rfl | decide) ?_
  refine lv_imul hx hb d_Ref_addOutcome_178 ?_
  refine tp_i (y := 264000) (by first | rfl | decide) ?_
  refine lv_iload hx hb d_Ref_addOutcome_179 (lv_at hl 0 rfl) ?_
  refine lv_iadd hx hb d_Ref_addOutcome_181 ?_
  refine tp_i (y := 264006) (by first | rfl | decide) ?_
  refine lv_aload_n hx hb d_Ref_addOutcome_182 rfl (lv_at hl 5 rfl) ?_
  refine va_get (D := (dC, dI)) (ci := 8) (v := .ref h21) (C := R_Ref) (T := F_Ref) (N := 48) hx hb hw i_Ref hown hK hP 0 rfl rfl 28 (by decide) (hw _ m_927) (fun _ h9 => h9) rfl d_Ref_addOutcome_183 ?_
  refine lv_iload hx hb d_Ref_addOutcome_186 (lv_at hl 0 rfl) ?_
  refine va_iald (D := (dC, dI)) hx hb hK hP 4 3 rfl rfl (i := 6) (vp_c (by decide)) d_Ref_addOutcome_188 ?_
  refine tp_i (y := 0) (by first | rfl | decide) ?_
  refine lv_i2s (v := 0) hx hb d_Ref_addOutcome_189 (by decide) ?_
  refine va_sast (D := (dC, dI)) hx hb hK hP (dd_D hD rfl) hS 2 1 rfl rfl (i := 264006) (x := 0) (vp_c (by decide)) d_Ref_addOutcome_190 ?_
  clear hP hS locs H
  intro H locs (hP : va_P (dC, dI) classes [oc h0 8 [.int p1, .int p2, .ref h1, .ref h2, .ref h3, .ref h4, .ref h5, .ref h6, .ref h7, .ref h8, .ref h9, .ref h10, .ref h11, .ref h12, .int p3, .ref h13, .ref h14, .ref h15, .ref h16, .int p4, .int p5, .ref h17, .ref h18, .ref h19, .int p6, .ref h20, .int p7, .int p8, .ref h21, .ref h22, .ref h23, .ref h24, .ref h25, .ref h26, .ref h27, .ref h28, .int p9, .int p10, .ref h29, .ref h30, .ref h31, .ref h32, .ref h33, .ref h34, .ref h35, .ref h36, .int p11, .ref h37], ia h7 k6 8 (upd (fun _ => 0) 6 1), ia h8 k7 352000 (upd (upd (upd (upd (upd (upd (upd f7 264000 0) 264001 0) 264002 0) 264003 0) 264004 0) 264005 0) 264006 0), ia h11 k10 32000 (upd f10 24000 0), ia h21 k20 11 (fun _ => 0)] H) _ hS
  refine tp_pc (pc' := 191) (by rfl) ?_
  refine lv_iinc (v := 7) (lv' := [(6, .int 7), (5, .int 0), (4, .int 0), (3, .int 0), (2, .int 24000), (0, .ref h0), (1, .int 6)]) hx hb d_Ref_addOutcome_191 hl (k := 0) rfl (by first | rfl | decide) (by decide) rfl ?_
  clear hl ls
  intro ls hl
  refine lv_goto (tgt := 161) hx hb d_Ref_addOutcome_194 (by decide) ?_
  refine tp_pc (pc' := 161) (by rfl) ?_
  refine lv_iload hx hb d_Ref_addOutcome_161 (lv_at hl 0 rfl) ?_
  refine lv_bipush (v := 11) hx hb d_Ref_addOutcome_163 (by decide) ?_
  refine lv_icmp_ge (tgt := 197) hx hb d_Ref_addOutcome_165 (by decide) (fun c_12 => absurd c_12 (by decide)) (fun c_12 => ?_)
  refine tp_pc (pc' := 168) (by rfl) ?_
  refine lv_aload_n hx hb d_Ref_addOutcome_168 rfl (lv_at hl 5 rfl) ?_
  refine va_get (D := (dC, dI)) (ci := 8) (v := .ref h8) (C := R_Ref) (T := F_Ref) (N := 48) hx hb hw i_Ref hown hK hP 0 rfl rfl 9 (by decide) (hw _ m_908) (fun _ h9 => h9) rfl d_Ref_addOutcome_169 ?_
  refine lv_bipush (v := 11) hx hb d_Ref_addOutcome_172 (by decide) ?_
  refine lv_iload_n hx hb d_Ref_addOutcome_174 rfl (lv_at hl 4 rfl) ?_
  refine lv_iload hx hb d_Ref_addOutcome_175 (lv_at hl 1 rfl) ?_
  refine lv_iadd hx hb d_Ref_addOutcome_177 ?_
  refine tp_i (y := 24000) (by first | rfl | decide) ?_
  refine lv_imul hx hb d_Ref_addOutcome_178 ?_
  refine tp_i (y := 264000) (by first | rfl | decide) ?_
  refine lv_iload hx hb d_Ref_addOutcome_179 (lv_at hl 0 rfl) ?_
  refine lv_iadd hx hb d_Ref_addOutcome_181 ?_
  refine tp_i (y := 264007) (by first | rfl | decide) ?_
  refine lv_aload_n hx hb d_Ref_addOutcome_182 rfl (lv_at hl 5 rfl) ?_
  refine va_get (D := (dC, dI)) (ci := 8) (v := .ref h21) (C := R_Ref) (T := F_Ref) (N := 48) hx hb hw i_Ref hown hK hP 0 rfl rfl 28 (by decide) (hw _ m_927) (fun _ h9 => h9) rfl d_Ref_addOutcome_183 ?_
  refine lv_iload hx hb d_Ref_addOutcome_186 (lv_at hl 0 rfl) ?_
  refine va_iald (D := (dC, dI)) hx hb hK hP 4 3 rfl rfl (i := 7) (vp_c (by decide)) d_Ref_addOutcome_188 ?_
  refine tp_i (y := 0) (by first | rfl | decide) ?_
  refine lv_i2s (v := 0) hx hb d_Ref_addOutcome_189 (by decide) ?_
  refine va_sast (D := (dC, dI)) hx hb hK hP (dd_D hD rfl) hS 2 1 rfl rfl (i := 264007) (x := 0) (vp_c (by decide)) d_Ref_addOutcome_190 ?_
  clear hP hS locs H
  intro H locs (hP : va_P (dC, dI) classes [oc h0 8 [.int p1, .int p2, .ref h1, .ref h2, .ref h3, .ref h4, .ref h5, .ref h6, .ref h7, .ref h8, .ref h9, .ref h10, .ref h11, .ref h12, .int p3, .ref h13, .ref h14, .ref h15, .ref h16, .int p4, .int p5, .ref h17, .ref h18, .ref h19, .int p6, .ref h20, .int p7, .int p8, .ref h21, .ref h22, .ref h23, .ref h24, .ref h25, .ref h26, .ref h27, .ref h28, .int p9, .int p10, .ref h29, .ref h30, .ref h31, .ref h32, .ref h33, .ref h34, .ref h35, .ref h36, .int p11, .ref h37], ia h7 k6 8 (upd (fun _ => 0) 6 1), ia h8 k7 352000 (upd (upd (upd (upd (upd (upd (upd (upd f7 264000 0) 264001 0) 264002 0) 264003 0) 264004 0) 264005 0) 264006 0) 264007 0), ia h11 k10 32000 (upd f10 24000 0), ia h21 k20 11 (fun _ => 0)] H) _ hS
  refine tp_pc (pc' := 191) (by rfl) ?_
  refine lv_iinc (v := 8) (lv' := [(6, .int 8), (5, .int 0), (4, .int 0), (3, .int 0), (2, .int 24000), (0, .ref h0), (1, .int 6)]) hx hb d_Ref_addOutcome_191 hl (k := 0) rfl (by first | rfl | decide) (by decide) rfl ?_
  clear hl ls
  intro ls hl
  refine lv_goto (tgt := 161) hx hb d_Ref_addOutcome_194 (by decide) ?_
  refine tp_pc (pc' := 161) (by rfl) ?_
  refine lv_iload hx hb d_Ref_addOutcome_161 (lv_at hl 0 rfl) ?_
  refine lv_bipush (v := 11) hx hb d_Ref_addOutcome_163 (by decide) ?_
  refine lv_icmp_ge (tgt := 197) hx hb d_Ref_addOutcome_165 (by decide) (fun c_13 => absurd c_13 (by decide)) (fun c_13 => ?_)
  refine tp_pc (pc' := 168) (by rfl) ?_
  refine lv_aload_n hx hb d_Ref_addOutcome_168 rfl (lv_at hl 5 rfl) ?_
  refine va_get (D := (dC, dI)) (ci := 8) (v := .ref h8) (C := R_Ref) (T := F_Ref) (N := 48) hx hb hw i_Ref hown hK hP 0 rfl rfl 9 (by decide) (hw _ m_908) (fun _ h9 => h9) rfl d_Ref_addOutcome_169 ?_
  refine lv_bipush (v := 11) hx hb d_Ref_addOutcome_172 (by decide) ?_
  refine lv_iload_n hx hb d_Ref_addOutcome_174 rfl (lv_at hl 4 rfl) ?_
  refine lv_iload hx hb d_Ref_addOutcome_175 (lv_at hl 1 rfl) ?_
  refine lv_iadd hx hb d_Ref_addOutcome_177 ?_
  refine tp_i (y := 24000) (by first | rfl | decide) ?_
  refine lv_imul hx hb d_Ref_addOutcome_178 ?_
  refine tp_i (y := 264000) (by first | rfl | decide) ?_
  refine lv_iload hx hb d_Ref_addOutcome_179 (lv_at hl 0 rfl) ?_
  refine lv_iadd hx hb d_Ref_addOutcome_181 ?_
  refine tp_i (y := 264008) (by first | rfl | decide) ?_
  refine lv_aload_n hx hb d_Ref_addOutcome_182 rfl (lv_at hl 5 rfl) ?_
  refine va_get (D := (dC, dI)) (ci := 8) (v := .ref h21) (C := R_Ref) (T := F_Ref) (N := 48) hx hb hw i_Ref hown hK hP 0 rfl rfl 28 (by decide) (hw _ m_927) (fun _ h9 => h9) rfl d_Ref_addOutcome_183 ?_
  refine lv_iload hx hb d_Ref_addOutcome_186 (lv_at hl 0 rfl) ?_
  refine va_iald (D := (dC, dI)) hx hb hK hP 4 3 rfl rfl (i := 8) (vp_c (by decide)) d_Ref_addOutcome_188 ?_
  refine tp_i (y := 0) (by first | rfl | decide) ?_
  refine lv_i2s (v := 0) hx hb d_Ref_addOutcome_189 (by decide) ?_
  refine va_sast (D := (dC, dI)) hx hb hK hP (dd_D hD rfl) hS 2 1 rfl rfl (i := 264008) (x := 0) (vp_c (by decide)) d_Ref_addOutcome_190 ?_
  clear hP hS locs H
  intro H locs (hP : va_P (dC, dI) classes [oc h0 8 [.int p1, .int p2, .ref h1, .ref h2, .ref h3, .ref h4, .ref h5, .ref h6, .ref h7, .ref h8, .ref h9, .ref h10, .ref h11, .ref h12, .int p3, .ref h13, .ref h14, .ref h15, .ref h16, .int p4, .int p5, .ref h17, .ref h18, .ref h19, .int p6, .ref h20, .int p7, .int p8, .ref h21, .ref h22, .ref h23, .ref h24, .ref h25, .ref h26, .ref h27, .ref h28, .int p9, .int p10, .ref h29, .ref h30, .ref h31, .ref h32, .ref h33, .ref h34, .ref h35, .ref h36, .int p11, .ref h37], ia h7 k6 8 (upd (fun _ => 0) 6 1), ia h8 k7 352000 (upd (upd (upd (upd (upd (upd (upd (upd (upd f7 264000 0) 264001 0) 264002 0) 264003 0) 264004 0) 264005 0) 264006 0) 264007 0) 264008 0), ia h11 k10 32000 (upd f10 24000 0), ia h21 k20 11 (fun _ => 0)] H) _ hS
  refine tp_pc (pc' := 191) (by rfl) ?_
  refine lv_iinc (v := 9) (lv' := [(6, .int 9), (5, .int 0), (4, .int 0), (3, .int 0), (2, .int 24000), (0, .ref h0), (1, .int 6)]) hx hb d_Ref_addOutcome_191 hl (k := 0) rfl (by first | rfl | decide) (by decide) rfl ?_
  clear hl ls
  intro ls hl
  refine lv_goto (tgt := 161) hx hb d_Ref_addOutcome_194 (by decide) ?_
  refine tp_pc (pc' := 161) (by rfl) ?_
  refine lv_iload hx hb d_Ref_addOutcome_161 (lv_at hl 0 rfl) ?_
  refine lv_bipush (v := 11) hx hb d_Ref_addOutcome_163 (by decide) ?_
  refine lv_icmp_ge (tgt := 197) hx hb d_Ref_addOutcome_165 (by decide) (fun c_14 => absurd c_14 (by decide)) (fun c_14 => ?_)
  refine tp_pc (pc' := 168) (by rfl) ?_
  refine lv_aload_n hx hb d_Ref_addOutcome_168 rfl (lv_at hl 5 rfl) ?_
  refine va_get (D := (dC, dI)) (ci := 8) (v := .ref h8) (C := R_Ref) (T := F_Ref) (N := 48) hx hb hw i_Ref hown hK hP 0 rfl rfl 9 (by decide) (hw _ m_908) (fun _ h9 => h9) rfl d_Ref_addOutcome_169 ?_
  refine lv_bipush (v := 11) hx hb d_Ref_addOutcome_172 (by decide) ?_
  refine lv_iload_n hx hb d_Ref_addOutcome_174 rfl (lv_at hl 4 rfl) ?_
  refine lv_iload hx hb d_Ref_addOutcome_175 (lv_at hl 1 rfl) ?_
  refine lv_iadd hx hb d_Ref_addOutcome_177 ?_
  refine tp_i (y := 24000) (by first | rfl | decide) ?_
  refine lv_imul hx hb d_Ref_addOutcome_178 ?_
  refine tp_i (y := 264000) (by first | rfl | decide) ?_
  refine lv_iload hx hb d_Ref_addOutcome_179 (lv_at hl 0 rfl) ?_
  refine lv_iadd hx hb d_Ref_addOutcome_181 ?_
  refine tp_i (y := 264009) (by first | rfl | decide) ?_
  refine lv_aload_n hx hb d_Ref_addOutcome_182 rfl (lv_at hl 5 rfl) ?_
  refine va_get (D := (dC, dI)) (ci := 8) (v := .ref h21) (C := R_Ref) (T := F_Ref) (N := 48) hx hb hw i_Ref hown hK hP 0 rfl rfl 28 (by decide) (hw _ m_927) (fun _ h9 => h9) rfl d_Ref_addOutcome_183 ?_
  refine lv_iload hx hb d_Ref_addOutcome_186 (lv_at hl 0 rfl) ?_
  refine va_iald (D := (dC, dI)) hx hb hK hP 4 3 rfl rfl (i := 9) (vp_c (by decide)) d_Ref_addOutcome_188 ?_
  refine tp_i (y := 0) (by first | rfl | decide) ?_
  refine lv_i2s (v := 0) hx hb d_Ref_addOutcome_189 (by decide) ?_
  refine va_sast (D := (dC, dI)) hx hb hK hP (dd_D hD rfl) hS 2 1 rfl rfl (i := 264009) (x := 0) (vp_c (by decide)) d_Ref_addOutcome_190 ?_
  clear hP hS locs H
  intro H locs (hP : va_P (dC, dI) classes [oc h0 8 [.int p1, .int p2, .ref h1, .ref h2, .ref h3, .ref h4, .ref h5, .ref h6, .ref h7, .ref h8, .ref h9, .ref h10, .ref h11, .ref h12, .int p3, .ref h13, .ref h14, .ref h15, .ref h16, .int p4, .int p5, .ref h17, .ref h18, .ref h19, .int p6, .ref h20, .int p7, .int p8, .ref h21, .ref h22, .ref h23, .ref h24, .ref h25, .ref h26, .ref h27, .ref h28, .int p9, .int p10, .ref h29, .ref h30, .ref h31, .ref h32, .ref h33, .ref h34, .ref h35, .ref h36, .int p11, .ref h37], ia h7 k6 8 (upd (fun _ => 0) 6 1), ia h8 k7 352000 (upd (upd (upd (upd (upd (upd (upd (upd (upd (upd f7 264000 0) 264001 0) 264002 0) 264003 0) 264004 0) 264005 0) 264006 0) 264007 0) 264008 0) 264009 0), ia h11 k10 32000 (upd f10 24000 0), ia h21 k20 11 (fun _ => 0)] H) _ hS
  refine tp_pc (pc' := 191) (by rfl) ?_
  refine lv_iinc (v := 10) (lv' := [(6, .int 10), (5, .int 0), (4, .int 0), (3, .int 0), (2, .int 24000), (0, .ref h0), (1, .int 6)]) hx hb d_Ref_addOutcome_191 hl (k := 0) rfl (by first | rfl | decide) (by decide) rfl ?_
  clear hl ls
  intro ls hl
  refine lv_goto (tgt := 161) hx hb d_Ref_addOutcome_194 (by decide) ?_
  refine tp_pc (pc' := 161) (by rfl) ?_
  refine lv_iload hx hb d_Ref_addOutcome_161 (lv_at hl 0 rfl) ?_
  refine lv_bipush (v := 11) hx hb d_Ref_addOutcome_163 (by decide) ?_
  refine lv_icmp_ge (tgt := 197) hx hb d_Ref_addOutcome_165 (by decide) (fun c_15 => absurd c_15 (by decide)) (fun c_15 => ?_)
  refine tp_pc (pc' := 168) (by rfl) ?_
  refine lv_aload_n hx hb d_Ref_addOutcome_168 rfl (lv_at hl 5 rfl) ?_
  refine va_get (D := (dC, dI)) (ci := 8) (v := .ref h8) (C := R_Ref) (T := F_Ref) (N := 48) hx hb hw i_Ref hown hK hP 0 rfl rfl 9 (by decide) (hw _ m_908) (fun _ h9 => h9) rfl d_Ref_addOutcome_169 ?_
  refine lv_bipush (v := 11) hx hb d_Ref_addOutcome_172 (by decide) ?_
  refine lv_iload_n hx hb d_Ref_addOutcome_174 rfl (lv_at hl 4 rfl) ?_
  refine lv_iload hx hb d_Ref_addOutcome_175 (lv_at hl 1 rfl) ?_
  refine lv_iadd hx hb d_Ref_addOutcome_177 ?_
  refine tp_i (y := 24000) (by first | rfl | decide) ?_
  refine lv_imul hx hb d_Ref_addOutcome_178 ?_
  refine tp_i (y := 264000) (by first | rfl | decide) ?_
  refine lv_iload hx hb d_Ref_addOutcome_179 (lv_at hl 0 rfl) ?_
  refine lv_iadd hx hb d_Ref_addOutcome_181 ?_
  refine tp_i (y := 264010) (by first | rfl | decide) ?_
  refine lv_aload_n hx hb d_Ref_addOutcome_182 rfl (lv_at hl 5 rfl) ?_
  refine va_get (D := (dC, dI)) (ci := 8) (v := .ref h21) (C := R_Ref) (T := F_Ref) (N := 48) hx hb hw i_Ref hown hK hP 0 rfl rfl 28 (by decide) (hw _ m_927) (fun _ h9 => h9) rfl d_Ref_addOutcome_183 ?_
  refine lv_iload hx hb d_Ref_addOutcome_186 (lv_at hl 0 rfl) ?_
  refine va_iald (D := (dC, dI)) hx hb hK hP 4 3 rfl rfl (i := 10) (vp_c (by decide)) d_Ref_addOutcome_188 ?_
  refine tp_i (y := 0) (by first | rfl | decide) ?_
  refine lv_i2s (v := 0) hx hb d_Ref_addOutcome_189 (by decide) ?_
  refine va_sast (D := (dC, dI)) hx hb hK hP (dd_D hD rfl) hS 2 1 rfl rfl (i := 264010) (x := 0) (vp_c (by decide)) d_Ref_addOutcome_190 ?_
  clear hP hS locs H
  intro H locs (hP : va_P (dC, dI) classes [oc h0 8 [.int p1, .int p2, .ref h1, .ref h2, .ref h3, .ref h4, .ref h5, .ref h6, .ref h7, .ref h8, .ref h9, .ref h10, .ref h11, .ref h12, .int p3, .ref h13, .ref h14, .ref h15, .ref h16, .int p4, .int p5, .ref h17, .ref h18, .ref h19, .int p6, .ref h20, .int p7, .int p8, .ref h21, .ref h22, .ref h23, .ref h24, .ref h25, .ref h26, .ref h27, .ref h28, .int p9, .int p10, .ref h29, .ref h30, .ref h31, .ref h32, .ref h33, .ref h34, .ref h35, .ref h36, .int p11, .ref h37], ia h7 k6 8 (upd (fun _ => 0) 6 1), ia h8 k7 352000 (upd (upd (upd (upd (upd (upd (upd (upd (upd (upd (upd f7 264000 0) 264001 0) 264002 0) 264003 0) 264004 0) 264005 0) 264006 0) 264007 0) 264008 0) 264009 0) 264010 0), ia h11 k10 32000 (upd f10 24000 0), ia h21 k20 11 (fun _ => 0)] H) _ hS
  refine tp_pc (pc' := 191) (by rfl) ?_
  refine lv_iinc (v := 11) (lv' := [(6, .int 11), (5, .int 0), (4, .int 0), (3, .int 0), (2, .int 24000), (0, .ref h0), (1, .int 6)]) hx hb d_Ref_addOutcome_191 hl (k := 0) rfl (by first | rfl | decide) (by decide) rfl ?_
  clear hl ls
  intro ls hl
  refine lv_goto (tgt := 161) hx hb d_Ref_addOutcome_194 (by decide) ?_
  refine tp_pc (pc' := 161) (by rfl) ?_
  refine lv_iload hx hb d_Ref_addOutcome_161 (lv_at hl 0 rfl) ?_
  refine lv_bipush (v := 11) hx hb d_Ref_addOutcome_163 (by decide) ?_
  refine lv_icmp_ge (tgt := 197) hx hb d_Ref_addOutcome_165 (by decide) (fun c_16 => ?_) (fun c_16 => absurd c_16 (by decide))
  refine tp_pc (pc' := 197) (by rfl) ?_
  refine lv_iload hx hb d_Ref_addOutcome_197 (lv_at hl 1 rfl) ?_
  obtain ⟨hP9, hD9, -⟩ := cut3 (wc := [oc h0 8 [.int p1, .int p2, .ref h1, .ref h2, .ref h3, .ref h4, .ref h5, .ref h6, .ref h7, .ref h8, .ref h9, .ref h10, .ref h11, .ref h12, .int p3, .ref h13, .ref h14, .ref h15, .ref h16, .int p4, .int p5, .ref h17, .ref h18, .ref h19, .int p6, .ref h20, .int p7, .int p8, .ref h21, .ref h22, .ref h23, .ref h24, .ref h25, .ref h26, .ref h27, .ref h28, .int p9, .int p10, .ref h29, .ref h30, .ref h31, .ref h32, .ref h33, .ref h34, .ref h35, .ref h36, .int p11, .ref h37], ia h7 k6 8 (upd (fun _ => 0) 6 1), ia h8 k7 352000 (upd (upd (upd (upd (upd (upd (upd (upd (upd (upd (upd f7 264000 0) 264001 0) 264002 0) 264003 0) 264004 0) 264005 0) 264006 0) 264007 0) 264008 0) 264009 0) 264010 0), ia h11 k10 32000 (upd f10 24000 0), ia h21 k20 11 (fun _ => 0)]) hP hD rfl hS hA [0, 1, 2, 3, 4] (by decide +kernel) rfl
  have hK9 := hK.sub (tys' := []) [] rfl
  refine W.widen (k := 0) (n := 0) (by exact Nat.le_of_ble_eq_true rfl) (by exact Nat.le_of_ble_eq_true rfl) ?_
  exact W.iret (v := 0) hx hb hr (fun t ht hW => ⟨⟨0, (), rfl, rfl, by rw [ht]; exact hP9, va_K.moved hW.alike hK9, hD9⟩, hS.F ht⟩) hS.2.2 d_Ref_addOutcome_199
