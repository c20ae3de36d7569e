set_option maxHeartbeats 4000000 in
set_option maxRecDepth 100000 in
theorem c_Ref_encode_v4 (l : Launch) (dC : Nat → ClassId) (dI : Nat → Nat → Nat) (h0 : Nat) (p1 : Int32) (h1 : Nat) (h2 : Nat) (h3 : Nat) (h4 : Nat) (h5 : Nat) (h6 : Nat) (h7 : Nat) (h8 : Nat) (h9 : Nat) (h10 : Nat) (h11 : Nat) (h12 : Nat) (p2 : Int32) (h13 : Nat) (h14 : Nat) (h15 : Nat) (h16 : Nat) (p4 : Int32) (h17 : Nat) (h18 : Nat) (h19 : Nat) (p5 : Int32) (h20 : Nat) (p6 : Int32) (p7 : Int32) (h21 : Nat) (h22 : Nat) (h23 : Nat) (h24 : Nat) (h25 : Nat) (h26 : Nat) (h27 : Nat) (h28 : Nat) (p8 : Int32) (p9 : Int32) (h29 : Nat) (h30 : Nat) (h31 : Nat) (h32 : Nat) (h33 : Nat) (h34 : Nat) (h35 : Nat) (h36 : Nat) (p10 : Int32) (h37 : Nat) (k13 : ClassId) (k19 : ClassId) (f19 : Nat → Int64) (sz : Nat) : Met l y_Ref_encode w_Ref_encode ({ frames := 2, cells := 0, slots := 0, locals := 49 }) (va_Pc [.ref h0] (fun U => U.heap.size = sz ∧ va_P (dC, dI) classes [oc h0 8 [.int 0, .int p1, .ref h1, .ref h2, .ref h3, .ref h4, .ref h5, .ref h6, .ref h7, .ref h8, .ref h9, .ref h10, .ref h11, .ref h12, .int p2, .ref h13, .ref h14, .ref h15, .ref h16, .int 3, .int p4, .ref h17, .ref h18, .ref h19, .int p5, .ref h20, .int p6, .int p7, .ref h21, .ref h22, .ref h23, .ref h24, .ref h25, .ref h26, .ref h27, .ref h28, .int p8, .int p9, .ref h29, .ref h30, .ref h31, .ref h32, .ref h33, .ref h34, .ref h35, .ref h36, .int p10, .ref h37], ia h14 k13 155 (upd (upd (upd (upd (upd (upd (upd (upd (upd (upd (upd (upd (upd (upd (upd (upd (upd (upd (upd (upd (upd (upd (upd (upd (upd (upd (upd (upd (upd (upd (upd (upd (fun _ => 0) 37 1) 96 1) 97 2) 98 3) 38 1) 49 1) 140 1) 100 1) 144 1) 101 2) 148 1) 102 3) 152 1) 39 1) 57 2) 141 2) 104 1) 145 2) 105 2) 149 2) 106 3) 153 2) 40 1) 65 3) 142 3) 108 1) 146 3) 109 2) 150 3) 110 3) 154 3) 15 4), la h20 k19 5 f19] U.heap ∧ va_K (dC, dI) classes [(k13, .int), (k19, .long)] U ∧ va_D (fun _ => True) [oc h0 8 [.int 0, .int p1, .ref h1, .ref h2, .ref h3, .ref h4, .ref h5, .ref h6, .ref h7, .ref h8, .ref h9, .ref h10, .ref h11, .ref h12, .int p2, .ref h13, .ref h14, .ref h15, .ref h16, .int 3, .int p4, .ref h17, .ref h18, .ref h19, .int p5, .ref h20, .int p6, .int p7, .ref h21, .ref h22, .ref h23, .ref h24, .ref h25, .ref h26, .ref h27, .ref h28, .int p8, .int p9, .ref h29, .ref h30, .ref h31, .ref h32, .ref h33, .ref h34, .ref h35, .ref h36, .int p10, .ref h37], ia h14 k13 155 (upd (upd (upd (upd (upd (upd (upd (upd (upd (upd (upd (upd (upd (upd (upd (upd (upd (upd (upd (upd (upd (upd (upd (upd (upd (upd (upd (upd (upd (upd (upd (upd (fun _ => 0) 37 1) 96 1) 97 2) 98 3) 38 1) 49 1) 140 1) 100 1) 144 1) 101 2) 148 1) 102 3) 152 1) 39 1) 57 2) 141 2) 104 1) 145 2) 105 2) 149 2) 106 3) 153 2) 40 1) 65 3) 142 3) 108 1) 146 3) 109 2) 150 3) 110 3) 154 3) 15 4), la h20 k19 5 f19] ∧ nw U)) (va_Qv (fun _ : Unit => True) (fun _ t => va_P (dC, dI) classes [oc h0 8 [.int 0, .int p1, .ref h1, .ref h2, .ref h3, .ref h4, .ref h5, .ref h6, .ref h7, .ref h8, .ref h9, .ref h10, .ref h11, .ref h12, .int p2, .ref h13, .ref h14, .ref h15, .ref h16, .int 3, .int p4, .ref h17, .ref h18, .ref h19, .int p5, .ref h20, .int 84, .int p7, .ref h21, .ref h22, .ref h23, .ref h24, .ref h25, .ref h26, .ref h27, .ref h28, .int p8, .int p9, .ref h29, .ref h30, .ref h31, .ref h32, .ref h33, .ref h34, .ref h35, .ref h36, .int p10, .ref h37], ia h14 k13 155 (upd (upd (upd (upd (upd (upd (upd (upd (upd (upd (upd (upd (upd (upd (upd (upd (upd (upd (upd (upd (upd (upd (upd (upd (upd (upd (upd (upd (upd (upd (upd (upd (fun _ => 0) 37 1) 96 1) 97 2) 98 3) 38 1) 49 1) 140 1) 100 1) 144 1) 101 2) 148 1) 102 3) 152 1) 39 1) 57 2) 141 2) 104 1) 145 2) 105 2) 149 2) 106 3) 153 2) 40 1) 65 3) 142 3) 108 1) 146 3) 109 2) 150 3) 110 3) 154 3) 15 4), la h20 k19 5 (vp_updL (vp_updL (vp_updL (vp_updL (vp_updL (vp_updL (vp_updL (vp_updL (vp_updL (vp_updL (vp_updL (vp_updL (vp_updL (vp_updL (vp_updL (vp_updL (vp_updL (vp_updL (vp_updL (vp_updL (vp_updL (vp_updL f19 0 0) 1 0) 2 0) 3 0) 4 0) 0 0) 0 0) 0 0) 0 0) 0 262144) 0 33816576) 0 4328783872) 0 554084597760) 0 70922828775424) 0 9078122083516416) 0 1161999626690363392) 0 1161999626690363392) 1 8) 1 24) 1 280) 1 4376) 1 69912)] t.heap ∧ va_K (dC, dI) classes [] t ∧ va_D (va_A [oc h0 8 [.int 0, .int p1, .ref h1, .ref h2, .ref h3, .ref h4, .ref h5, .ref h6, .ref h7, .ref h8, .ref h9, .ref h10, .ref h11, .ref h12, .int p2, .ref h13, .ref h14, .ref h15, .ref h16, .int 3, .int p4, .ref h17, .ref h18, .ref h19, .int p5, .ref h20, .int p6, .int p7, .ref h21, .ref h22, .ref h23, .ref h24, .ref h25, .ref h26, .ref h27, .ref h28, .int p8, .int p9, .ref h29, .ref h30, .ref h31, .ref h32, .ref h33, .ref h34, .ref h35, .ref h36, .int p10, .ref h37], ia h14 k13 155 (upd (upd (upd (upd (upd (upd (upd (upd (upd (upd (upd (upd (upd (upd (upd (upd (upd (upd (upd (upd (upd (upd (upd (upd (upd (upd (upd (upd (upd (upd (upd (upd (fun _ => 0) 37 1) 96 1) 97 2) 98 3) 38 1) 49 1) 140 1) 100 1) 144 1) 101 2) 148 1) 102 3) 152 1) 39 1) 57 2) 141 2) 104 1) 145 2) 105 2) 149 2) 106 3) 153 2) 40 1) 65 3) 142 3) 108 1) 146 3) 109 2) 150 3) 110 3) 154 3) 15 4), la h20 k19 5 f19] sz) [oc h0 8 [.int 0, .int p1, .ref h1, .ref h2, .ref h3, .ref h4, .ref h5, .ref h6, .ref h7, .ref h8, .ref h9, .ref h10, .ref h11, .ref h12, .int p2, .ref h13, .ref h14, .ref h15, .ref h16, .int 3, .int p4, .ref h17, .ref h18, .ref h19, .int p5, .ref h20, .int 84, .int p7, .ref h21, .ref h22, .ref h23, .ref h24, .ref h25, .ref h26, .ref h27, .ref h28, .int p8, .int p9, .ref h29, .ref h30, .ref h31, .ref h32, .ref h33, .ref h34, .ref h35, .ref h36, .int p10, .ref h37], ia h14 k13 155 (upd (upd (upd (upd (upd (upd (upd (upd (upd (upd (upd (upd (upd (upd (upd (upd (upd (upd (upd (upd (upd (upd (upd (upd (upd (upd (upd (upd (upd (upd (upd (upd (fun _ => 0) 37 1) 96 1) 97 2) 98 3) 38 1) 49 1) 140 1) 100 1) 144 1) 101 2) 148 1) 102 3) 152 1) 39 1) 57 2) 141 2) 104 1) 145 2) 105 2) 149 2) 106 3) 153 2) 40 1) 65 3) 142 3) 108 1) 146 3) 109 2) 150 3) 110 3) 154 3) 15 4), la h20 k19 5 (vp_updL (vp_updL (vp_updL (vp_updL (vp_updL (vp_updL (vp_updL (vp_updL (vp_updL (vp_updL (vp_updL (vp_updL (vp_updL (vp_updL (vp_updL (vp_updL (vp_updL (vp_updL (vp_updL (vp_updL (vp_updL (vp_updL f19 0 0) 1 0) 2 0) 3 0) 4 0) 0 0) 0 0) 0 0) 0 0) 0 262144) 0 33816576) 0 4328783872) 0 554084597760) 0 70922828775424) 0 9078122083516416) 0 1161999626690363392) 0 1161999626690363392) 1 8) 1 24) 1 280) 1 4376) 1 69912)]) (va_A [oc h0 8 [.int 0, .int p1, .ref h1, .ref h2, .ref h3, .ref h4, .ref h5, .ref h6, .ref h7, .ref h8, .ref h9, .ref h10, .ref h11, .ref h12, .int p2, .ref h13, .ref h14, .ref h15, .ref h16, .int 3, .int p4, .ref h17, .ref h18, .ref h19, .int p5, .ref h20, .int p6, .int p7, .ref h21, .ref h22, .ref h23, .ref h24, .ref h25, .ref h26, .ref h27, .ref h28, .int p8, .int p9, .ref h29, .ref h30, .ref h31, .ref h32, .ref h33, .ref h34, .ref h35, .ref h36, .int p10, .ref h37], ia h14 k13 155 (upd (upd (upd (upd (upd (upd (upd (upd (upd (upd (upd (upd (upd (upd (upd (upd (upd (upd (upd (upd (upd (upd (upd (upd (upd (upd (upd (upd (upd (upd (upd (upd (fun _ => 0) 37 1) 96 1) 97 2) 98 3) 38 1) 49 1) 140 1) 100 1) 144 1) 101 2) 148 1) 102 3) 152 1) 39 1) 57 2) 141 2) 104 1) 145 2) 105 2) 149 2) 106 3) 153 2) 40 1) 65 3) 142 3) 108 1) 146 3) 109 2) 150 3) 110 3) 154 3) 15 4), la h20 k19 5 f19] sz)) 0 0 (va_A [oc h0 8 [.int 0, .int p1, .ref h1, .ref h2, .ref h3, .ref h4, .ref h5, .ref h6, .ref h7, .ref h8, .ref h9, .ref h10, .ref h11, .ref h12, .int p2, .ref h13, .ref h14, .ref h15, .ref h16, .int 3, .int p4, .ref h17, .ref h18, .ref h19, .int p5, .ref h20, .int p6, .int p7, .ref h21, .ref h22, .ref h23, .ref h24, .ref h25, .ref h26, .ref h27, .ref h28, .int p8, .int p9, .ref h29, .ref h30, .ref h31, .ref h32, .ref h33, .ref h34, .ref h35, .ref h36, .int p10, .ref h37], ia h14 k13 155 (upd (upd (upd (upd (upd (upd (upd (upd (upd (upd (upd (upd (upd (upd (upd (upd (upd (upd (upd (upd (upd (upd (upd (upd (upd (upd (upd (upd (upd (upd (upd (upd (fun _ => 0) 37 1) 96 1) 97 2) 98 3) 38 1) 49 1) 140 1) 100 1) 144 1) 101 2) 148 1) 102 3) 152 1) 39 1) 57 2) 141 2) 104 1) 145 2) 105 2) 149 2) 106 3) 153 2) 40 1) 65 3) 142 3) 108 1) 146 3) 109 2) 150 3) 110 3) 154 3) 15 4), la h20 k19 5 f19] sz) := by
  refine Met.ofW (cc := b_Ref_encode) (maxL := 7) (ret := none) (by decide) rfl ?_
  intro p e s m args below meth c s₁ B hml hv
  obtain ⟨rfl, hsz, hP, hK, hD0, hn⟩ := hv
  have hx := B.exec
  have hb := B.bytes
  have hr := B.returns
  have hw := fun w (h : w ∈ wt) => atoms_spec (ws := w_Ref_encode) B.pre w (List.mem_cons_of_mem _ h)
  have hown : s.vm.findClass R_Ref = some m.cls := findClass_of_methodNamed B.named
  have hlocks := B.notSynchronized
  subst hsz
  have hD1 := hD0.self (sz := s.heap.size)
  generalize hAe : va_A [oc h0 8 [.int 0, .int p1, .ref h1, .ref h2, .ref h3, .ref h4, .ref h5, .ref h6, .ref h7, .ref h8, .ref h9, .ref h10, .ref h11, .ref h12, .int p2, .ref h13, .ref h14, .ref h15, .ref h16, .int 3, .int p4, .ref h17, .ref h18, .ref h19, .int p5, .ref h20, .int p6, .int p7, .ref h21, .ref h22, .ref h23, .ref h24, .ref h25, .ref h26, .ref h27, .ref h28, .int p8, .int p9, .ref h29, .ref h30, .ref h31, .ref h32, .ref h33, .ref h34, .ref h35, .ref h36, .int p10, .ref h37], ia h14 k13 155 (upd (upd (upd (upd (upd (upd (upd (upd (upd (upd (upd (upd (upd (upd (upd (upd (upd (upd (upd (upd (upd (upd (upd (upd (upd (upd (upd (upd (upd (upd (upd (upd (fun _ => 0) 37 1) 96 1) 97 2) 98 3) 38 1) 49 1) 140 1) 100 1) 144 1) 101 2) 148 1) 102 3) 152 1) 39 1) 57 2) 141 2) 104 1) 145 2) 105 2) 149 2) 106 3) 153 2) 40 1) 65 3) 142 3) 108 1) 146 3) 109 2) 150 3) 110 3) 154 3) 15 4), la h20 k19 5 f19] s.heap.size = A at hD1 ⊢
  have hA : ∀ q : Nat, s.heap.size ≤ q → A q := fun q h => by rw [← hAe]; exact Or.inr h
  have hD : dd A [h0, h14, h20] := dd_of hD1 rfl
  clear hAe hD0 hD1
  have hS : va_S A s.heap s.heap [] := va_S.rf
  replace hP : va_P (dC, dI) classes [oc h0 8 [.int 0, .int p1, .ref h1, .ref h2, .ref h3, .ref h4, .ref h5, .ref h6, .ref h7, .ref h8, .ref h9, .ref h10, .ref h11, .ref h12, .int p2, .ref h13, .ref h14, .ref h15, .ref h16, .int 3, .int p4, .ref h17, .ref h18, .ref h19, .int p5, .ref h20, .int p6, .int p7, .ref h21, .ref h22, .ref h23, .ref h24, .ref h25, .ref h26, .ref h27, .ref h28, .int p8, .int p9, .ref h29, .ref h30, .ref h31, .ref h32, .ref h33, .ref h34, .ref h35, .ref h36, .int p10, .ref h37], ia h14 k13 155 (upd (upd (upd (upd (upd (upd (upd (upd (upd (upd (upd (upd (upd (upd (upd (upd (upd (upd (upd (upd (upd (upd (upd (upd (upd (upd (upd (upd (upd (upd (upd (upd (fun _ => 0) 37 1) 96 1) 97 2) 98 3) 38 1) 49 1) 140 1) 100 1) 144 1) 101 2) 148 1) 102 3) 152 1) 39 1) 57 2) 141 2) 104 1) 145 2) 105 2) 149 2) 106 3) 153 2) 40 1) 65 3) 142 3) 108 1) 146 3) 109 2) 150 3) 110 3) 154 3) 15 4), la h20 k19 5 f19] s.heap := hP
  have hl := lv_entry ([.ref h0]) (n := 7) (Nat.le_of_ble_eq_true rfl)
  rw [lg_entry_eq]
  generalize (lg_sl ([.ref h0]) ++ List.replicate (7 - (lg_sl ([.ref h0])).length) Slot.unset).toArray = ls at hl ⊢
  replace hl : lv_has ls 7 [(0, .ref h0)] := hl
  refine lv_iconst (v := 0) hx hb d_Ref_encode_0 (by decide) ?_
  refine lv_istore_n (lv' := [(1, .int 0), (0, .ref h0)]) hx hb d_Ref_encode_1 rfl hl (by decide) rfl ?_
  clear hl ls
  intro ls hl
  refine lv_iload_n hx hb d_Ref_encode_2 rfl (lv_at hl 0 rfl) ?_
  refine lv_iconst (v := 5) hx hb d_Ref_encode_3 (by decide) ?_
  refine lv_icmp_ge (tgt := 20) hx hb d_Ref_encode_4 (by decide) (fun c_1 => absurd c_1 (by decide)) (fun c_1 => ?_)
  refine tp_pc (pc' := 7) (by rfl) ?_
  refine lv_aload_n hx hb d_Ref_encode_7 rfl (lv_at hl 1 rfl) ?_
  refine va_get (D := (dC, dI)) (ci := 8) (v := .ref h20) (C := R_Ref) (T := F_Ref) (N := 48) hx hb hw i_Ref hown hK hP 0 rfl rfl 25 (by decide) (hw _ m_924) (fun _ h9 => h9) rfl d_Ref_encode_8 ?_
  refine lv_iload_n hx hb d_Ref_encode_11 rfl (lv_at hl 0 rfl) ?_
  refine lv_lconst (v := 0) hx hb d_Ref_encode_12 (by decide) ?_
  refine va_last (D := (dC, dI)) hx hb hK hP (dd_D hD rfl) hS 2 1 rfl rfl (i := 0) (x := 0) (vp_c (by decide)) d_Ref_encode_13 ?_
  clear hP hS
  intro H locs (hP : va_P (dC, dI) classes [oc h0 8 [.int 0, .int p1, .ref h1, .ref h2, .ref h3, .ref h4, .ref h5, .ref h6, .ref h7, .ref h8, .ref h9, .ref h10, .ref h11, .ref h12, .int p2, .ref h13, .ref h14, .ref h15, .ref h16, .int 3, .int p4, .ref h17, .ref h18, .ref h19, .int p5, .ref h20, .int p6, .int p7, .ref h21, .ref h22, .ref h23, .ref h24, .ref h25, .ref h26, .ref h27, .ref h28, .int p8, .int p9, .ref h29, .ref h30, .ref h31, .ref h32, .ref h33, .ref h34, .ref h35, .ref h36, .int p10, .ref h37], ia h14 k13 155 (upd (upd (upd (upd (upd (upd (upd (upd (upd (upd (upd (upd (upd (upd (upd (upd (upd (upd (upd (upd (upd (upd (upd (upd (upd (upd (upd (upd (upd (upd (upd (upd (fun _ => 0) 37 1) 96 1) 97 2) 98 3) 38 1) 49 1) 140 1) 100 1) 144 1) 101 2) 148 1) 102 3) 152 1) 39 1) 57 2) 141 2) 104 1) 145 2) 105 2) 149 2) 106 3) 153 2) 40 1) 65 3) 142 3) 108 1) 146 3) 109 2) 150 3) 110 3) 154 3) 15 4), la h20 k19 5 (vp_updL f19 0 0)] H) _ hS
  refine tp_pc (pc' := 14) (by rfl) ?_
  refine lv_iinc (v := 1) (lv' := [(1, .int 1), (0, .ref h0)]) hx hb d_Ref_encode_14 hl (k := 0) rfl (by first | rfl | decide) (by decide) rfl ?_
  clear hl ls
  intro ls hl
  refine lv_goto (tgt := 2) hx hb d_Ref_encode_17 (by decide) ?_
  refine tp_pc (pc' := 2) (by rfl) ?_
  refine lv_iload_n hx hb d_Ref_encode_2 rfl (lv_at hl 0 rfl) ?_
  refine lv_iconst (v := 5) hx hb d_Ref_encode_3 (by decide) ?_
  refine lv_icmp_ge (tgt := 20) hx hb d_Ref_encode_4 (by decide) (fun c_2 => absurd c_2 (by decide)) (fun c_2 => ?_)
  refine tp_pc (pc' := 7) (by rfl) ?_
  refine lv_aload_n hx hb d_Ref_encode_7 rfl (lv_at hl 1 rfl) ?_
  refine va_get (D := (dC, dI)) (ci := 8) (v := .ref h20) (C := R_Ref) (T := F_Ref) (N := 48) hx hb hw i_Ref hown hK hP 0 rfl rfl 25 (by decide) (hw _ m_924) (fun _ h9 => h9) rfl d_Ref_encode_8 ?_
  refine lv_iload_n hx hb d_Ref_encode_11 rfl (lv_at hl 0 rfl) ?_
  refine lv_lconst (v := 0) hx hb d_Ref_encode_12 (by decide) ?_
  refine va_last (D := (dC, dI)) hx hb hK hP (dd_D hD rfl) hS 2 1 rfl rfl (i := 1) (x := 0) (vp_c (by decide)) d_Ref_encode_13 ?_
  clear hP hS locs H
  intro H locs (hP : va_P (dC, dI) classes [oc h0 8 [.int 0, .int p1, .ref h1, .ref h2, .ref h3, .ref h4, .ref h5, .ref h6, .ref h7, .ref h8, .ref h9, .ref h10, .ref h11, .ref h12, .int p2, .ref h13, .ref h14, .ref h15, .ref h16, .int 3, .int p4, .ref h17, .ref h18, .ref h19, .int p5, .ref h20, .int p6, .int p7, .ref h21, .ref h22, .ref h23, .ref h24, .ref h25, .ref h26, .ref h27, .ref h28, .int p8, .int p9, .ref h29, .ref h30, .ref h31, .ref h32, .ref h33, .ref h34, .ref h35, .ref h36, .int p10, .ref h37], ia h14 k13 155 (upd (upd (upd (upd (upd (upd (upd (upd (upd (upd (upd (upd (upd (upd (upd (upd (upd (upd (upd (upd (upd (upd (upd (upd (upd (upd (upd (upd (upd (upd (upd (upd (fun _ => 0) 37 1) 96 1) 97 2) 98 3) 38 1) 49 1) 140 1) 100 1) 144 1) 101 2) 148 1) 102 3) 152 1) 39 1) 57 2) 141 2) 104 1) 145 2) 105 2) 149 2) 106 3) 153 2) 40 1) 65 3) 142 3) 108 1) 146 3) 109 2) 150 3) 110 3) 154 3) 15 4), la h20 k19 5 (vp_updL (vp_updL f19 0 0) 1 0)] H) _ hS
  refine tp_pc (pc' := 14) (by rfl) ?_
  refine lv_iinc (v := 2) (lv' := [(1, .int 2), (0, .ref h0)]) hx hb d_Ref_encode_14 hl (k := 0) rfl (by first | rfl | decide) (by decide) rfl ?_
  clear hl ls
  intro ls hl
  refine lv_goto (tgt := 2) hx hb d_Ref_encode_17 (by decide) ?_
  refine tp_pc (pc' := 2) (by rfl) ?_
  refine lv_iload_n hx hb d_Ref_encode_2 rfl (lv_at hl 0 rfl) ?_
  refine lv_iconst (v := 5) hx hb d_Ref_encode_3 (by decide) ?_
  refine lv_icmp_ge (tgt := 20) hx hb d_Ref_encode_4 (by decide) (fun c_3 => absurd c_3 (by decide)) (fun c_3 => ?_)
  refine tp_pc (pc' := 7) (by rfl) ?_
  refine lv_aload_n hx hb d_Ref_encode_7 rfl (lv_at hl 1 rfl) ?_
  refine va_get (D := (dC, dI)) (ci := 8) (v := .ref h20) (C := R_Ref) (T := F_Ref) (N := 48) hx hb hw i_Ref hown hK hP 0 rfl rfl 25 (by decide) (hw _ m_924) (fun _ h9 => h9) rfl d_Ref_encode_8 ?_
  refine lv_iload_n hx hb d_Ref_encode_11 rfl (lv_at hl 0 rfl) ?_
  refine lv_lconst (v := 0) hx hb d_Ref_encode_12 (by decide) ?_
  refine va_last (D := (dC, dI)) hx hb hK hP (dd_D hD rfl) hS 2 1 rfl rfl (i := 2) (x := 0) (vp_c (by decide)) d_Ref_encode_13 ?_
  clear hP hS locs H
  intro H locs (hP : va_P (dC, dI) classes [oc h0 8 [.int 0, .int p1, .ref h1, .ref h2, .ref h3, .ref h4, .ref h5, .ref h6, .ref h7, .ref h8, .ref h9, .ref h10, .ref h11, .ref h12, .int p2, .ref h13, .ref h14, .ref h15, .ref h16, .int 3, .int p4, .ref h17, .ref h18, .ref h19, .int p5, .ref h20, .int p6, .int p7, .ref h21, .ref h22, .ref h23, .ref h24, .ref h25, .ref h26, .ref h27, .ref h28, .int p8, .int p9, .ref h29, .ref h30, .ref h31, .ref h32, .ref h33, .ref h34, .ref h35, .ref h36, .int p10, .ref h37], ia h14 k13 155 (upd (upd (upd (upd (upd (upd (upd (upd (upd (upd (upd (upd (upd (upd (upd (upd (upd (upd (upd (upd (upd (upd (upd (upd (upd (upd (upd (upd (upd (upd (upd (upd (fun _ => 0) 37 1) 96 1) 97 2) 98 3) 38 1) 49 1) 140 1) 100 1) 144 1) 101 2) 148 1) 102 3) 152 1) 39 1) 57 2) 141 2) 104 1) 145 2) 105 2) 149 2) 106 3) 153 2) 40 1) 65 3) 142 3) 108 1) 146 3) 109 2) 150 3) 110 3) 154 3) 15 4), la h20 k19 5 (vp_updL (vp_updL (vp_updL f19 0 0) 1 0) 2 0)] H) _ hS
  refine tp_pc (pc' := 14) (by rfl) ?_
  refine lv_iinc (v := 3) (lv' := [(1, .int 3), (0, .ref h0)]) hx hb d_Ref_encode_14 hl (k := 0) rfl (by first | rfl | decide) (by decide) rfl ?_
  clear hl ls
  intro ls hl
  refine lv_goto (tgt := 2) hx hb d_Ref_encode_17 (by decide) ?_
  refine tp_pc (pc' := 2) (by rfl) ?_
  refine lv_iload_n hx hb d_Ref_encode_2 rfl (lv_at hl 0 rfl) ?_
  refine lv_iconst (v := 5) hx hb d_Ref_encode_3 (by decide) ?_
  refine lv_icmp_ge (tgt := 20) hx hb d_Ref_encode_4 (by decide) (fun c_4 => absurd c_4 (by decide)) (fun c_4 => ?_)
  refine tp_pc (pc' := 7) (by rfl) ?_
  refine lv_aload_n hx hb d_Ref_encode_7 rfl (lv_at hl 1 rfl) ?_
  refine va_get (D := (dC, dI)) (ci := 8) (v := .ref h20) (C := R_Ref) (T := F_Ref) (N := 48) hx hb hw i_Ref hown hK hP 0 rfl rfl 25 (by decide) (hw _ m_924) (fun _ h9 => h9) rfl d_Ref_encode_8 ?_
  refine lv_iload_n hx hb d_Ref_encode_11 rfl (lv_at hl 0 rfl) ?_
  refine lv_lconst (v := 0) hx hb d_Ref_encode_12 (by decide) ?_
  refine va_last (D := (dC, dI)) hx hb hK hP (dd_D hD rfl) hS 2 1 rfl rfl (i := 3) (x := 0) (vp_c (by decide)) d_Ref_encode_13 ?_
  clear hP hS locs H
  intro H locs (hP : va_P (dC, dI) classes [oc h0 8 [.int 0, .int p1, .ref h1, .ref h2, .ref h3, .ref h4, .ref h5, .ref h6, .ref h7, .ref h8, .ref h9, .ref h10, .ref h11, .ref h12, .int p2, .ref h13, .ref h14, .ref h15, .ref h16, .int 3, .int p4, .ref h17, .ref h18, .ref h19, .int p5, .ref h20, .int p6, .int p7, .ref h21, .ref h22, .ref h23, .ref h24, .ref h25, .ref h26, .ref h27, .ref h28, .int p8, .int p9, .ref h29, .ref h30, .ref h31, .ref h32, .ref h33, .ref h34, .ref h35, .ref h36, .int p10, .ref h37], ia h14 k13 155 (upd (upd (upd (upd (upd (upd (upd (upd (upd (upd (upd (upd (upd (upd (upd (upd (upd (upd (upd (upd (upd (upd (upd (upd (upd (upd (upd (upd (upd (upd (upd (upd (fun _ => 0) 37 1) 96 1) 97 2) 98 3) 38 1) 49 1) 140 1) 100 1) 144 1) 101 2) 148 1) 102 3) 152 1) 39 1) 57 2) 141 2) 104 1) 145 2) 105 2) 149 2) 106 3) 153 2) 40 1) 65 3) 142 3) 108 1) 146 3) 109 2) 150 3) 110 3) 154 3) 15 4), la h20 k19 5 (vp_updL (vp_updL (vp_updL (vp_updL f19 0 0) 1 0) 2 0) 3 0)] H) _ hS
  refine tp_pc (pc' := 14) (by rfl) ?_
  refine lv_iinc (v := 4) (lv' := [(1, .int 4), (0, .ref h0)]) hx hb d_Ref_encode_14 hl (k := 0) rfl (by first | rfl | decide) (by decide) rfl ?_
  clear hl ls
  intro ls hl
  refine lv_goto (tgt := 2) hx hb d_Ref_encode_17 (by decide) ?_
  refine tp_pc (pc' := 2) (by rfl) ?_
  refine lv_iload_n hx hb d_Ref_encode_2 rfl (lv_at hl 0 rfl) ?_
  refine lv_iconst (v := 5) hx hb d_Ref_encode_3 (by decide) ?_
  refine lv_icmp_ge (tgt := 20) hx hb d_Ref_encode_4 (by decide) (fun c_5 => absurd c_5 (by decide)) (fun c_5 => ?_)
  refine tp_pc (pc' := 7) (by rfl) ?_
  refine lv_aload_n hx hb d_Ref_encode_7 rfl (lv_at hl 1 rfl) ?_
  refine va_get (D := (dC, dI)) (ci := 8) (v := .ref h20) (C := R_Ref) (T := F_Ref) (N := 48) hx hb hw i_Ref hown hK hP 0 rfl rfl 25 (by decide) (hw _ m_924) (fun _ h9 => h9) rfl d_Ref_encode_8 ?_
  refine lv_iload_n hx hb d_Ref_encode_11 rfl (lv_at hl 0 rfl) ?_
  refine lv_lconst (v := 0) hx hb d_Ref_encode_12 (by decide) ?_
  refine va_last (D := (dC, dI)) hx hb hK hP (dd_D hD rfl) hS 2 1 rfl rfl (i := 4) (x := 0) (vp_c (by decide)) d_Ref_encode_13 ?_
  clear hP hS locs H
  intro H locs (hP : va_P (dC, dI) classes [oc h0 8 [.int 0, .int p1, .ref h1, .ref h2, .ref h3, .ref h4, .ref h5, .ref h6, .ref h7, .ref h8, .ref h9, .ref h10, .ref h11, .ref h12, .int p2, .ref h13, .ref h14, .ref h15, .ref h16, .int 3, .int p4, .ref h17, .ref h18, .ref h19, .int p5, .ref h20, .int p6, .int p7, .ref h21, .ref h22, .ref h23, .ref h24, .ref h25, .ref h26, .ref h27, .ref h28, .int p8, .int p9, .ref h29, .ref h30, .ref h31, .ref h32, .ref h33, .ref h34, .ref h35, .ref h36, .int p10, .ref h37], ia h14 k13 155 (upd (upd (upd (upd (upd (upd (upd (upd (upd (upd (upd (upd (upd (upd (upd (upd (upd (upd (upd (upd (upd (upd (upd (upd (upd (upd (upd (upd (upd (upd (upd (upd (fun _ => 0) 37 1) 96 1) 97 2) 98 3) 38 1) 49 1) 140 1) 100 1) 144 1) 101 2) 148 1) 102 3) 152 1) 39 1) 57 2) 141 2) 104 1) 145 2) 105 2) 149 2) 106 3) 153 2) 40 1) 65 3) 142 3) 108 1) 146 3) 109 2) 150 3) 110 3) 154 3) 15 4), la h20 k19 5 (vp_updL (vp_updL (vp_updL (vp_updL (vp_updL f19 0 0) 1 0) 2 0) 3 0) 4 0)] H) _ hS
  refine tp_pc (pc' := 14) (by rfl) ?_
  refine lv_iinc (v := 5) (lv' := [(1, .int 5), (0, .ref h0)]) hx hb d_Ref_encode_14 hl (k := 0) rfl (by first | rfl | decide) (by decide) rfl ?_
  clear hl ls
  intro ls hl
  refine lv_goto (tgt := 2) hx hb d_Ref_encode_17 (by decide) ?_
  refine tp_pc (pc' := 2) (by rfl) ?_
  refine lv_iload_n hx hb d_Ref_encode_2 rfl (lv_at hl 0 rfl) ?_
  refine lv_iconst (v := 5) hx hb d_Ref_encode_3 (by decide) ?_
  refine lv_icmp_ge (tgt := 20) hx hb d_Ref_encode_4 (by decide) (fun c_6 => ?_) (fun c_6 => absurd c_6 (by decide))
  refine tp_pc (pc' := 20) (by rfl) ?_
  refine lv_aload_n hx hb d_Ref_encode_20 rfl (lv_at hl 1 rfl) ?_
  refine lv_iconst (v := 0) hx hb d_Ref_encode_21 (by decide) ?_
  refine va_put (D := (dC, dI)) (ci := 8) (v := .int 0) (ty := .int) (C := R_Ref) (T := F_Ref) (N := 48) hx hb hw i_Ref t_Ref t_Ref_ok n_Ref hown hK hP (dd_D hD rfl) hS 0 rfl rfl 26 (by decide) (hw _ m_925) (fun _ h9 => h9) rfl (by decide +kernel) rfl rfl (Nat.le_of_ble_eq_true rfl) d_Ref_encode_22 ?_
  clear hP hS locs H
  intro H locs (hP : va_P (dC, dI) classes [oc h0 8 [.int 0, .int p1, .ref h1, .ref h2, .ref h3, .ref h4, .ref h5, .ref h6, .ref h7, .ref h8, .ref h9, .ref h10, .ref h11, .ref h12, .int p2, .ref h13, .ref h14, .ref h15, .ref h16, .int 3, .int p4, .ref h17, .ref h18, .ref h19, .int p5, .ref h20, .int 0, .int p7, .ref h21, .ref h22, .ref h23, .ref h24, .ref h25, .ref h26, .ref h27, .ref h28, .int p8, .int p9, .ref h29, .ref h30, .ref h31, .ref h32, .ref h33, .ref h34, .ref h35, .ref h36, .int p10, .ref h37], ia h14 k13 155 (upd (upd (upd (upd (upd (upd (upd (upd (upd (upd (upd (upd (upd (upd (upd (upd (upd (upd (upd (upd (upd (upd (upd (upd (upd (upd (upd (upd (upd (upd (upd (upd (fun _ => 0) 37 1) 96 1) 97 2) 98 3) 38 1) 49 1) 140 1) 100 1) 144 1) 101 2) 148 1) 102 3) 152 1) 39 1) 57 2) 141 2) 104 1) 145 2) 105 2) 149 2) 106 3) 153 2) 40 1) 65 3) 142 3) 108 1) 146 3) 109 2) 150 3) 110 3) 154 3) 15 4), la h20 k19 5 (vp_updL (vp_updL (vp_updL (vp_updL (vp_updL f19 0 0) 1 0) 2 0) 3 0) 4 0)] H) _ hS
  refine tp_pc (pc' := 25) (by rfl) ?_
  refine lv_iconst (v := 0) hx hb d_Ref_encode_25 (by decide) ?_
  refine lv_istore_n (lv' := [(1, .int 0), (0, .ref h0)]) hx hb d_Ref_encode_26 rfl hl (by decide) rfl ?_
  clear hl ls
  intro ls hl
  refine lv_iload_n hx hb d_Ref_encode_27 rfl (lv_at hl 0 rfl) ?_
  refine lv_iconst (v := 4) hx hb d_Ref_encode_28 (by decide) ?_
  refine lv_icmp_ge (tgt := 50) hx hb d_Ref_encode_29 (by decide) (fun c_7 => absurd c_7 (by decide)) (fun c_7 => ?_)
  refine tp_pc (pc' := 32) (by rfl) ?_
  refine lv_aload_n hx hb d_Ref_encode_32 rfl (lv_at hl 1 rfl) ?_
  refine lv_aload_n hx hb d_Ref_encode_33 rfl (lv_at hl 1 rfl) ?_
  refine va_get (D := (dC, dI)) (ci := 8) (v := .ref h14) (C := R_Ref) (T := F_Ref) (N := 48) hx hb hw i_Ref hown hK hP 0 rfl rfl 16 (by decide) (hw _ m_915) (fun _ h9 => h9) rfl d_Ref_encode_34 ?_
  refine lv_iload_n hx hb d_Ref_encode_37 rfl (lv_at hl 0 rfl) ?_
  refine va_iald (D := (dC, dI)) hx hb hK hP 1 0 rfl rfl (i := 0) (vp_c (by decide)) d_Ref_encode_38 ?_
  refine tp_i (y := 0) (by first | rfl | decide) ?_
  refine lv_i2l (v := 0) hx hb d_Ref_encode_39 (by decide) ?_
  refine lv_iconst (v := 3) hx hb d_Ref_encode_40 (by decide) ?_
  obtain ⟨hPc, hDc, hFc⟩ := cut3 (wc := [oc h0 8 [.int 0, .int p1, .ref h1, .ref h2, .ref h3, .ref h4, .ref h5, .ref h6, .ref h7, .ref h8, .ref h9, .ref h10, .ref h11, .ref h12, .int p2, .ref h13, .ref h14, .ref h15, .ref h16, .int 3, .int p4, .ref h17, .ref h18, .ref h19, .int p5, .ref h20, .int 0, .int p7, .ref h21, .ref h22, .ref h23, .ref h24, .ref h25, .ref h26, .ref h27, .ref h28, .int p8, .int p9, .ref h29, .ref h30, .ref h31, .ref h32, .ref h33, .ref h34, .ref h35, .ref h36, .int p10, .ref h37], la h20 k19 5 (vp_updL (vp_updL (vp_updL (vp_updL (vp_updL f19 0 0) 1 0) 2 0) 3 0) 4 0)]) hP hD rfl hS hA [0, 2] (by decide +kernel) rfl
  have hKc := hK.sub (tys' := [(k19, .long)]) [1] rfl
  refine va_callv (va_runV (As := [.long 0, .int 3]) (rest := []) ⟨hx, hb, hml, hown, hw⟩ (c_Ref_bits l dC dI h0 0 0 p1 h1 h2 h3 h4 h5 h6 h7 h8 h9 h10 h11 h12 p2 h13 h14 h15 h16 3 p4 h17 h18 h19 p5 h20 p7 h21 h22 h23 h24 h25 h26 h27 h28 p8 p9 h29 h30 h31 h32 h33 h34 h35 h36 p10 h37 k19 (vp_updL (vp_updL (vp_updL (vp_updL (vp_updL f19 0 0) 1 0) 2 0) 3 0) 4 0) H.size) (cw_V 2 hw g_Ref_bits rfl rfl rfl (hw _ m_109) (hw _ m_1093) (hw _ m_1095) (hw _ m_58) (by decide +kernel) ⟨Nat.le_of_ble_eq_true rfl, Nat.le_of_ble_eq_true rfl⟩) ⟨fun a U g mk q => by obtain ⟨q0, q1, qP, qK, qD, qN⟩ := q; exact ⟨q0, q1, qP, va_K.moved (u := U) (U := U.calling g mk a) (Vm.Alike.refl U.vm) qK, qD, nw_call qN⟩, va_recv hKc hPc (ci := 8) (q0 := 0) rfl rfl, fun U hU hW => ⟨rfl, by rw [hU], by rw [hU]; exact hPc, va_K.moved hW.alike hKc, hDc.weaken (fun _ _ _ _ => trivial), nw_warm hW hn⟩⟩ rfl rfl hl.1 rfl (lv_room (Nat.le_of_ble_eq_true rfl)) d_Ref_encode_41 ⟨Nat.le_of_ble_eq_true rfl, Nat.le_of_ble_eq_true rfl⟩) hS (fun q _ h => hFc q h) hFc ?_
  intro u t H1 locs1 ht hvm hw1 hB hz1 hk1 hS1
  obtain ⟨hP1, hK1, hD1⟩ := hB
  rw [ht] at hP1
  replace hK1 := va_K.moved hvm.symm hK1
  have hPD := join3 hP hD rfl [0, 2] [1] rfl (by rfl) (by decide +kernel) (by decide +kernel) hk1 hFc hP1 hD1
  replace hK : va_K (dC, dI) classes [(k13, .int), (k19, .long)] s := hK.app hK1
  clear hP1 hK1 hD1 hk1 hz1 hFc hKc hDc hPc hvm ht hP hS t locs H
  have hP : va_P (dC, dI) classes [ia h14 k13 155 (upd (upd (upd (upd (upd (upd (upd (upd (upd (upd (upd (upd (upd (upd (upd (upd (upd (upd (upd (upd (upd (upd (upd (upd (upd (upd (upd (upd (upd (upd (upd (upd (fun _ => 0) 37 1) 96 1) 97 2) 98 3) 38 1) 49 1) 140 1) 100 1) 144 1) 101 2) 148 1) 102 3) 152 1) 39 1) 57 2) 141 2) 104 1) 145 2) 105 2) 149 2) 106 3) 153 2) 40 1) 65 3) 142 3) 108 1) 146 3) 109 2) 150 3) 110 3) 154 3) 15 4), oc h0 8 [.int 0, .int p1, .ref h1, .ref h2, .ref h3, .ref h4, .ref h5, .ref h6, .ref h7, .ref h8, .ref h9, .ref h10, .ref h11, .ref h12, .int p2, .ref h13, .ref h14, .ref h15, .ref h16, .int 3, .int p4, .ref h17, .ref h18, .ref h19, .int p5, .ref h20, .int 3, .int p7, .ref h21, .ref h22, .ref h23, .ref h24, .ref h25, .ref h26, .ref h27, .ref h28, .int p8, .int p9, .ref h29, .ref h30, .ref h31, .ref h32, .ref h33, .ref h34, .ref h35, .ref h36, .int p10, .ref h37], la h20 k19 5 (vp_updL (vp_updL (vp_updL (vp_updL (vp_updL (vp_updL f19 0 0) 1 0) 2 0) 3 0) 4 0) 0 ((0 : Int64) ||| ((0 : Int64) <<< (((0 : Int32) : Int32).toInt64 &&& 63))))] H1 := hPD.1
  rw [show (((0 : Int64) ||| ((0 : Int64) <<< (((0 : Int32) : Int32).toInt64 &&& 63)) : Int64)) = 0 from by decide] at hP
  replace hD : dd A [h14, h0, h20] := dd_of hPD.2 rfl
  clear hPD
  revert H1 locs1
  intro H locs hS hP
  clear hw1 u
  refine tp_pc (pc' := 44) (by rfl) ?_
  refine lv_iinc (v := 1) (lv' := [(1, .int 1), (0, .ref h0)]) hx hb d_Ref_encode_44 hl (k := 0) rfl (by first | rfl | decide) (by decide) rfl ?_
  clear hl ls
  intro ls hl
  refine lv_goto (tgt := 27) hx hb d_Ref_encode_47 (by decide) ?_
  refine tp_pc (pc' := 27) (by rfl) ?_
  refine lv_iload_n hx hb d_Ref_encode_27 rfl (lv_at hl 0 rfl) ?_
  refine lv_iconst (v := 4) hx hb d_Ref_encode_28 (by decide) ?_
  refine lv_icmp_ge (tgt := 50) hx hb d_Ref_encode_29 (by decide) (fun c_9 => absurd c_9 (by decide)) (fun c_9 => ?_)
  refine tp_pc (pc' := 32) (by rfl) ?_
  refine lv_aload_n hx hb d_Ref_encode_32 rfl (lv_at hl 1 rfl) ?_
  refine lv_aload_n hx hb d_Ref_encode_33 rfl (lv_at hl 1 rfl) ?_
  refine va_get (D := (dC, dI)) (ci := 8) (v := .ref h14) (C := R_Ref) (T := F_Ref) (N := 48) hx hb hw i_Ref hown hK hP 1 rfl rfl 16 (by decide) (hw _ m_915) (fun _ h9 => h9) rfl d_Ref_encode_34 ?_
  refine lv_iload_n hx hb d_Ref_encode_37 rfl (lv_at hl 0 rfl) ?_
  refine va_iald (D := (dC, dI)) hx hb hK hP 0 0 rfl rfl (i := 1) (vp_c (by decide)) d_Ref_encode_38 ?_
  refine tp_i (y := 0) (by first | rfl | decide) ?_
  refine lv_i2l (v := 0) hx hb d_Ref_encode_39 (by decide) ?_
  refine lv_iconst (v := 3) hx hb d_Ref_encode_40 (by decide) ?_
  obtain ⟨hPc, hDc, hFc⟩ := cut3 (wc := [oc h0 8 [.int 0, .int p1, .ref h1, .ref h2, .ref h3, .ref h4, .ref h5, .ref h6, .ref h7, .ref h8, .ref h9, .ref h10, .ref h11, .ref h12, .int p2, .ref h13, .ref h14, .ref h15, .ref h16, .int 3, .int p4, .ref h17, .ref h18, .ref h19, .int p5, .ref h20, .int 3, .int p7, .ref h21, .ref h22, .ref h23, .ref h24, .ref h25, .ref h26, .ref h27, .ref h28, .int p8, .int p9, .ref h29, .ref h30, .ref h31, .ref h32, .ref h33, .ref h34, .ref h35, .ref h36, .int p10, .ref h37], la h20 k19 5 (vp_updL (vp_updL (vp_updL (vp_updL (vp_updL (vp_updL f19 0 0) 1 0) 2 0) 3 0) 4 0) 0 0)]) hP hD rfl hS hA [1, 2] (by decide +kernel) rfl
  have hKc := hK.sub (tys' := [(k19, .long)]) [1] rfl
  refine va_callv (va_runV (As := [.long 0, .int 3]) (rest := []) ⟨hx, hb, hml, hown, hw⟩ (c_Ref_bits_v2 l dC dI h0 0 0 p1 h1 h2 h3 h4 h5 h6 h7 h8 h9 h10 h11 h12 p2 h13 h14 h15 h16 3 p4 h17 h18 h19 p5 h20 p7 h21 h22 h23 h24 h25 h26 h27 h28 p8 p9 h29 h30 h31 h32 h33 h34 h35 h36 p10 h37 k19 (vp_updL (vp_updL (vp_updL (vp_updL (vp_updL (vp_updL f19 0 0) 1 0) 2 0) 3 0) 4 0) 0 0) H.size) (cw_V 2 hw g_Ref_bits rfl rfl rfl (hw _ m_109) (hw _ m_1093) (hw _ m_1095) (hw _ m_58) (by decide +kernel) ⟨Nat.le_of_ble_eq_true rfl, Nat.le_of_ble_eq_true rfl⟩) ⟨fun a U g mk q => by obtain ⟨q0, q1, qP, qK, qD, qN⟩ := q; exact ⟨q0, q1, qP, va_K.moved (u := U) (U := U.calling g mk a) (Vm.Alike.refl U.vm) qK, qD, nw_call qN⟩, va_recv hKc hPc (ci := 8) (q0 := 0) rfl rfl, fun U hU hW => ⟨rfl, by rw [hU], by rw [hU]; exact hPc, va_K.moved hW.alike hKc, hDc.weaken (fun _ _ _ _ => trivial), nw_warm hW hn⟩⟩ rfl rfl hl.1 rfl (lv_room (Nat.le_of_ble_eq_true rfl)) d_Ref_encode_41 ⟨Nat.le_of_ble_eq_true rfl, Nat.le_of_ble_eq_true rfl⟩) hS (fun q _ h => hFc q h) hFc ?_
  intro u t H1 locs1 ht hvm hw1 hB hz1 hk1 hS1
  obtain ⟨hP1, hK1, hD1⟩ := hB
  rw [ht] at hP1
  replace hK1 := va_K.moved hvm.symm hK1
  have hPD := join3 hP hD rfl [1, 2] [0] rfl (by rfl) (by decide +kernel) (by decide +kernel) hk1 hFc hP1 hD1
  replace hK : va_K (dC, dI) classes [(k13, .int), (k19, .long)] s := hK.app hK1
  clear hP1 hK1 hD1 hk1 hz1 hFc hKc hDc hPc hvm ht hP hS t locs H
  have hP : va_P (dC, dI) classes [ia h14 k13 155 (upd (upd (upd (upd (upd (upd (upd (upd (upd (upd (upd (upd (upd (upd (upd (upd (upd (upd (upd (upd (upd (upd (upd (upd (upd (upd (upd (upd (upd (upd (upd (upd (fun _ => 0) 37 1) 96 1) 97 2) 98 3) 38 1) 49 1) 140 1) 100 1) 144 1) 101 2) 148 1) 102 3) 152 1) 39 1) 57 2) 141 2) 104 1) 145 2) 105 2) 149 2) 106 3) 153 2) 40 1) 65 3) 142 3) 108 1) 146 3) 109 2) 150 3) 110 3) 154 3) 15 4), oc h0 8 [.int 0, .int p1, .ref h1, .ref h2, .ref h3, .ref h4, .ref h5, .ref h6, .ref h7, .ref h8, .ref h9, .ref h10, .ref h11, .ref h12, .int p2, .ref h13, .ref h14, .ref h15, .ref h16, .int 3, .int p4, .ref h17, .ref h18, .ref h19, .int p5, .ref h20, .int 6, .int p7, .ref h21, .ref h22, .ref h23, .ref h24, .ref h25, .ref h26, .ref h27, .ref h28, .int p8, .int p9, .ref h29, .ref h30, .ref h31, .ref h32, .ref h33, .ref h34, .ref h35, .ref h36, .int p10, .ref h37], la h20 k19 5 (vp_updL (vp_updL (vp_updL (vp_updL (vp_updL (vp_updL (vp_updL f19 0 0) 1 0) 2 0) 3 0) 4 0) 0 0) 0 ((0 : Int64) ||| ((0 : Int64) <<< (((3 : Int32) : Int32).toInt64 &&& 63))))] H1 := hPD.1
  rw [show (((0 : Int64) ||| ((0 : Int64) <<< (((3 : Int32) : Int32).toInt64 &&& 63)) : Int64)) = 0 from by decide] at hP
  replace hD : dd A [h14, h0, h20] := dd_of hPD.2 rfl
  clear hPD
  revert H1 locs1
  intro H locs hS hP
  clear hw1 u
  refine tp_pc (pc' := 44) (by rfl) ?_
  refine lv_iinc (v := 2) (lv' := [(1, .int 2), (0, .ref h0)]) hx hb d_Ref_encode_44 hl (k := 0) rfl (by first | rfl | decide) (by decide) rfl ?_
  clear hl ls
  intro ls hl
  refine lv_goto (tgt := 27) hx hb d_Ref_encode_47 (by decide) ?_
  refine tp_pc (pc' := 27) (by rfl) ?_
  refine lv_iload_n hx hb d_Ref_encode_27 rfl (lv_at hl 0 rfl) ?_
  refine lv_iconst (v := 4) hx hb d_Ref_encode_28 (by decide) ?_
  refine lv_icmp_ge (tgt := 50) hx hb d_Ref_encode_29 (by decide) (fun c_11 => absurd c_11 (by decide)) (fun c_11 => ?_)
  refine tp_pc (pc' := 32) (by rfl) ?_
  refine lv_aload_n hx hb d_Ref_encode_32 rfl (lv_at hl 1 rfl) ?_
  refine lv_aload_n hx hb d_Ref_encode_33 rfl (lv_at hl 1 rfl) ?_
  refine va_get (D := (dC, dI)) (ci := 8) (v := .ref h14) (C := R_Ref) (T := F_Ref) (N := 48) hx hb hw i_Ref hown hK hP 1 rfl rfl 16 (by decide) (hw _ m_915) (fun _ h9 => h9) rfl d_Ref_encode_34 ?_
  refine lv_iload_n hx hb d_Ref_encode_37 rfl (lv_at hl 0 rfl) ?_
  refine va_iald (D := (dC, dI)) hx hb hK hP 0 0 rfl rfl (i := 2) (vp_c (by decide)) d_Ref_encode_38 ?_
  refine tp_i (y := 0) (by first | rfl | decide) ?_
  refine lv_i2l (v := 0) hx hb d_Ref_encode_39 (by decide) ?_
  refine lv_iconst (v := 3) hx hb d_Ref_encode_40 (by decide) ?_
  obtain ⟨hPc, hDc, hFc⟩ := cut3 (wc := [oc h0 8 [.int 0, .int p1, .ref h1, .ref h2, .ref h3, .ref h4, .ref h5, .ref h6, .ref h7, .ref h8, .ref h9, .ref h10, .ref h11, .ref h12, .int p2, .ref h13, .ref h14, .ref h15, .ref h16, .int 3, .int p4, .ref h17, .ref h18, .ref h19, .int p5, .ref h20, .int 6, .int p7, .ref h21, .ref h22, .ref h23, .ref h24, .ref h25, .ref h26, .ref h27, .ref h28, .int p8, .int p9, .ref h29, .ref h30, .ref h31, .ref h32, .ref h33, .ref h34, .ref h35, .ref h36, .int p10, .ref h37], la h20 k19 5 (vp_updL (vp_updL (vp_updL (vp_updL (vp_updL (vp_updL (vp_updL f19 0 0) 1 0) 2 0) 3 0) 4 0) 0 0) 0 0)]) hP hD rfl hS hA [1, 2] (by decide +kernel) rfl
  have hKc := hK.sub (tys' := [(k19, .long)]) [1] rfl
  refine va_callv (va_runV (As := [.long 0, .int 3]) (rest := []) ⟨hx, hb, hml, hown, hw⟩ (c_Ref_bits_v3 l dC dI h0 0 0 p1 h1 h2 h3 h4 h5 h6 h7 h8 h9 h10 h11 h12 p2 h13 h14 h15 h16 3 p4 h17 h18 h19 p5 h20 p7 h21 h22 h23 h24 h25 h26 h27 h28 p8 p9 h29 h30 h31 h32 h33 h34 h35 h36 p10 h37 k19 (vp_updL (vp_updL (vp_updL (vp_updL (vp_updL (vp_updL (vp_updL f19 0 0) 1 0) 2 0) 3 0) 4 0) 0 0) 0 0) H.size) (cw_V 2 hw g_Ref_bits rfl rfl rfl (hw _ m_109) (hw _ m_1093) (hw _ m_1095) (hw _ m_58) (by decide +kernel) ⟨Nat.le_of_ble_eq_true rfl, Nat.le_of_ble_eq_true rfl⟩) ⟨fun a U g mk q => by obtain ⟨q0, q1, qP, qK, qD, qN⟩ := q; exact ⟨q0, q1, qP, va_K.moved (u := U) (U := U.calling g mk a) (Vm.Alike.refl U.vm) qK, qD, nw_call qN⟩, va_recv hKc hPc (ci := 8) (q0 := 0) rfl rfl, fun U hU hW => ⟨rfl, by rw [hU], by rw [hU]; exact hPc, va_K.moved hW.alike hKc, hDc.weaken (fun _ _ _ _ => trivial), nw_warm hW hn⟩⟩ rfl rfl hl.1 rfl (lv_room (Nat.le_of_ble_eq_true rfl)) d_Ref_encode_41 ⟨Nat.le_of_ble_eq_true rfl, Nat.le_of_ble_eq_true rfl⟩) hS (fun q _ h => hFc q h) hFc ?_
  intro u t H1 locs1 ht hvm hw1 hB hz1 hk1 hS1
  obtain ⟨hP1, hK1, hD1⟩ := hB
  rw [ht] at hP1
  replace hK1 := va_K.moved hvm.symm hK1
  have hPD := join3 hP hD rfl [1, 2] [0] rfl (by rfl) (by decide +kernel) (by decide +kernel) hk1 hFc hP1 hD1
  replace hK : va_K (dC, dI) classes [(k13, .int), (k19, .long)] s := hK.app hK1
  clear hP1 hK1 hD1 hk1 hz1 hFc hKc hDc hPc hvm ht hP hS t locs H
  have hP : va_P (dC, dI) classes [ia h14 k13 155 (upd (upd (upd (upd (upd (upd (upd (upd (upd (upd (upd (upd (upd (upd (upd (upd (upd (upd (upd (upd (upd (upd (upd (upd (upd (upd (upd (upd (upd (upd (upd (upd (fun _ => 0) 37 1) 96 1) 97 2) 98 3) 38 1) 49 1) 140 1) 100 1) 144 1) 101 2) 148 1) 102 3) 152 1) 39 1) 57 2) 141 2) 104 1) 145 2) 105 2) 149 2) 106 3) 153 2) 40 1) 65 3) 142 3) 108 1) 146 3) 109 2) 150 3) 110 3) 154 3) 15 4), oc h0 8 [.int 0, .int p1, .ref h1, .ref h2, .ref h3, .ref h4, .ref h5, .ref h6, .ref h7, .ref h8, .ref h9, .ref h10, .ref h11, .ref h12, .int p2, .ref h13, .ref h14, .ref h15, .ref h16, .int 3, .int p4, .ref h17, .ref h18, .ref h19, .int p5, .ref h20, .int 9, .int p7, .ref h21, .ref h22, .ref h23, .ref h24, .ref h25, .ref h26, .ref h27, .ref h28, .int p8, .int p9, .ref h29, .ref h30, .ref h31, .ref h32, .ref h33, .ref h34, .ref h35, .ref h36, .int p10, .ref h37], la h20 k19 5 (vp_updL (vp_updL (vp_updL (vp_updL (vp_updL (vp_updL (vp_updL (vp_updL f19 0 0) 1 0) 2 0) 3 0) 4 0) 0 0) 0 0) 0 ((0 : Int64) ||| ((0 : Int64) <<< (((6 : Int32) : Int32).toInt64 &&& 63))))] H1 := hPD.1
  rw [show (((0 : Int64) ||| ((0 : Int64) <<< (((6 : Int32) : Int32).toInt64 &&& 63)) : Int64)) = 0 from by decide] at hP
  replace hD : dd A [h14, h0, h20] := dd_of hPD.2 rfl
  clear hPD
  revert H1 locs1
  intro H locs hS hP
  clear hw1 u
  refine tp_pc (pc' := 44) (by rfl) ?_
  refine lv_iinc (v := 3) (lv' := [(1, .int 3), (0, .ref h0)]) hx hb d_Ref_encode_44 hl (k := 0) rfl (by first | rfl | decide) (by decide) rfl ?_
  clear hl ls
  intro ls hl
  refine lv_goto (tgt := 27) hx hb d_Ref_encode_47 (by decide) ?_
  refine tp_pc (pc' := 27) (by rfl) ?_
  refine lv_iload_n hx hb d_Ref_encode_27 rfl (lv_at hl 0 rfl) ?_
  refine lv_iconst (v := 4) hx hb d_Ref_encode_28 (by decide) ?_
  refine lv_icmp_ge (tgt := 50) hx hb d_Ref_encode_29 (by decide) (fun c_13 => absurd c_13 (by decide)) (fun c_13 => ?_)
  refine tp_pc (pc' := 32) (by rfl) ?_
  refine lv_aload_n hx hb d_Ref_encode_32 rfl (lv_at hl 1 rfl) ?_
  refine lv_aload_n hx hb d_Ref_encode_33 rfl (lv_at hl 1 rfl) ?_
  refine va_get (D := (dC, dI)) (ci := 8) (v := .ref h14) (C := R_Ref) (T := F_Ref) (N := 48) hx hb hw i_Ref hown hK hP 1 rfl rfl 16 (by decide) (hw _ m_915) (fun _ h9 => h9) rfl d_Ref_encode_34 ?_
  refine lv_iload_n hx hb d_Ref_encode_37 rfl (lv_at hl 0 rfl) ?_
  refine va_iald (D := (dC, dI)) hx hb hK hP 0 0 rfl rfl (i := 3) (vp_c (by decide)) d_Ref_encode_38 ?_
  refine tp_i (y := 0) (by first | rfl | decide) ?_
  refine lv_i2l (v := 0) hx hb d_Ref_encode_39 (by decide) ?_
  refine lv_iconst (v := 3) hx hb d_Ref_encode_40 (by decide) ?_
  obtain ⟨hPc, hDc, hFc⟩ := cut3 (wc := [oc h0 8 [.int 0, .int p1, .ref h1, .ref h2, .ref h3, .ref h4, .ref h5, .ref h6, .ref h7, .ref h8, .ref h9, .ref h10, .ref h11, .ref h12, .int p2, .ref h13, .ref h14, .ref h15, .ref h16, .int 3, .int p4, .ref h17, .ref h18, .ref h19, .int p5, .ref h20, .int 9, .int p7, .ref h21, .ref h22, .ref h23, .ref h24, .ref h25, .ref h26, .ref h27, .ref h28, .int p8, .int p9, .ref h29, .ref h30, .ref h31, .ref h32, .ref h33, .ref h34, .ref h35, .ref h36, .int p10, .ref h37], la h20 k19 5 (vp_updL (vp_updL (vp_updL (vp_updL (vp_updL (vp_updL (vp_updL (vp_updL f19 0 0) 1 0) 2 0) 3 0) 4 0) 0 0) 0 0) 0 0)]) hP hD rfl hS hA [1, 2] (by decide +kernel) rfl
  have hKc := hK.sub (tys' := [(k19, .long)]) [1] rfl
  refine va_callv (va_runV (As := [.long 0, .int 3]) (rest := []) ⟨hx, hb, hml, hown, hw⟩ (c_Ref_bits_v4 l dC dI h0 0 0 p1 h1 h2 h3 h4 h5 h6 h7 h8 h9 h10 h11 h12 p2 h13 h14 h15 h16 3 p4 h17 h18 h19 p5 h20 p7 h21 h22 h23 h24 h25 h26 h27 h28 p8 p9 h29 h30 h31 h32 h33 h34 h35 h36 p10 h37 k19 (vp_updL (vp_updL (vp_updL (vp_updL (vp_updL (vp_updL (vp_updL (vp_updL f19 0 0) 1 0) 2 0) 3 0) 4 0) 0 0) 0 0) 0 0) H.size) (cw_V 2 hw g_Ref_bits rfl rfl rfl (hw _ m_109) (hw _ m_1093) (hw _ m_1095) (hw _ m_58) (by decide +kernel) ⟨Nat.le_of_ble_eq_true rfl, Nat.le_of_ble_eq_true rfl⟩) ⟨fun a U g mk q => by obtain ⟨q0, q1, qP, qK, qD, qN⟩ := q; exact ⟨q0, q1, qP, va_K.moved (u := U) (U := U.calling g mk a) (Vm.Alike.refl U.vm) qK, qD, nw_call qN⟩, va_recv hKc hPc (ci := 8) (q0 := 0) rfl rfl, fun U hU hW => ⟨rfl, by rw [hU], by rw [hU]; exact hPc, va_K.moved hW.alike hKc, hDc.weaken (fun _ _ _ _ => trivial), nw_warm hW hn⟩⟩ rfl rfl hl.1 rfl (lv_room (Nat.le_of_ble_eq_true rfl)) d_Ref_encode_41 ⟨Nat.le_of_ble_eq_true rfl, Nat.le_of_ble_eq_true rfl⟩) hS (fun q _ h => hFc q h) hFc ?_
  intro u t H1 locs1 ht hvm hw1 hB hz1 hk1 hS1
  obtain ⟨hP1, hK1, hD1⟩ := hB
  rw [ht] at hP1
  replace hK1 := va_K.moved hvm.symm hK1
  have hPD := join3 hP hD rfl [1, 2] [0] rfl (by rfl) (by decide +kernel) (by decide +kernel) hk1 hFc hP1 hD1
  replace hK : va_K (dC, dI) classes [(k13, .int), (k19, .long)] s := hK.app hK1
  clear hP1 hK1 hD1 hk1 hz1 hFc hKc hDc hPc hvm ht hP hS t locs H
  have hP : va_P (dC, dI) classes [ia h14 k13 155 (upd (upd (upd (upd (upd (upd (upd (upd (upd (upd (upd (upd (upd (upd (upd (upd (upd (upd (upd (upd (upd (upd (upd (upd (upd (upd (upd (upd (upd (upd (upd (upd (fun _ => 0) 37 1) 96 1) 97 2) 98 3) 38 1) 49 1) 140 1) 100 1) 144 1) 101 2) 148 1) 102 3) 152 1) 39 1) 57 2) 141 2) 104 1) 145 2) 105 2) 149 2) 106 3) 153 2) 40 1) 65 3) 142 3) 108 1) 146 3) 109 2) 150 3) 110 3) 154 3) 15 4), oc h0 8 [.int 0, .int p1, .ref h1, .ref h2, .ref h3, .ref h4, .ref h5, .ref h6, .ref h7, .ref h8, .ref h9, .ref h10, .ref h11, .ref h12, .int p2, .ref h13, .ref h14, .ref h15, .ref h16, .int 3, .int p4, .ref h17, .ref h18, .ref h19, .int p5, .ref h20, .int 12, .int p7, .ref h21, .ref h22, .ref h23, .ref h24, .ref h25, .ref h26, .ref h27, .ref h28, .int p8, .int p9, .ref h29, .ref h30, .ref h31, .ref h32, .ref h33, .ref h34, .ref h35, .ref h36, .int p10, .ref h37], la h20 k19 5 (vp_updL (vp_updL (vp_updL (vp_updL (vp_updL (vp_updL (vp_updL (vp_updL (vp_updL f19 0 0) 1 0) 2 0) 3 0) 4 0) 0 0) 0 0) 0 0) 0 ((0 : Int64) ||| ((0 : Int64) <<< (((9 : Int32) : Int32).toInt64 &&& 63))))] H1 := hPD.1
  rw [show (((0 : Int64) ||| ((0 : Int64) <<< (((9 : Int32) : Int32).toInt64 &&& 63)) : Int64)) = 0 from by decide] at hP
  replace hD : dd A [h14, h0, h20] := dd_of hPD.2 rfl
  clear hPD
  revert H1 locs1
  intro H locs hS hP
  clear hw1 u
  refine tp_pc (pc' := 44) (by rfl) ?_
  refine lv_iinc (v := 4) (lv' := [(1, .int 4), (0, .ref h0)]) hx hb d_Ref_encode_44 hl (k := 0) rfl (by first | rfl | decide) (by decide) rfl ?_
  clear hl ls
  intro ls hl
  refine lv_goto (tgt := 27) hx hb d_Ref_encode_47 (by decide) ?_
  refine tp_pc (pc' := 27) (by rfl) ?_
  refine lv_iload_n hx hb d_Ref_encode_27 rfl (lv_at hl 0 rfl) ?_
  refine lv_iconst (v := 4) hx hb d_Ref_encode_28 (by decide) ?_
  refine lv_icmp_ge (tgt := 50) hx hb d_Ref_encode_29 (by decide) (fun c_15 => ?_) (fun c_15 => absurd c_15 (by decide))
  refine tp_pc (pc' := 50) (by rfl) ?_
  refine lv_iconst (v := 0) hx hb d_Ref_encode_50 (by decide) ?_
  refine lv_istore_n (lv' := [(1, .int 0), (0, .ref h0)]) hx hb d_Ref_encode_51 rfl hl (by decide) rfl ?_
  clear hl ls
  intro ls hl
  refine lv_iload_n hx hb d_Ref_encode_52 rfl (lv_at hl 0 rfl) ?_
  refine lv_bipush (v := 8) hx hb d_Ref_encode_53 (by decide) ?_
  refine lv_icmp_ge (tgt := 82) hx hb d_Ref_encode_55 (by decide) (fun c_16 => absurd c_16 (by decide)) (fun c_16 => ?_)
  refine tp_pc (pc' := 58) (by rfl) ?_
  refine lv_aload_n hx hb d_Ref_encode_58 rfl (lv_at hl 1 rfl) ?_
  refine lv_aload_n hx hb d_Ref_encode_59 rfl (lv_at hl 1 rfl) ?_
  refine va_get (D := (dC, dI)) (ci := 8) (v := .ref h14) (C := R_Ref) (T := F_Ref) (N := 48) hx hb hw i_Ref hown hK hP 1 rfl rfl 16 (by decide) (hw _ m_915) (fun _ h9 => h9) rfl d_Ref_encode_60 ?_
  refine lv_iconst (v := 4) hx hb d_Ref_encode_63 (by decide) ?_
  refine lv_iload_n hx hb d_Ref_encode_64 rfl (lv_at hl 0 rfl) ?_
  refine lv_iadd hx hb d_Ref_encode_65 ?_
  refine tp_i (y := 4) (by first | rfl | decide) ?_
  refine va_iald (D := (dC, dI)) hx hb hK hP 0 0 rfl rfl (i := 4) (vp_c (by decide)) d_Ref_encode_66 ?_
  refine tp_i (y := 0) (by first | rfl | decide) ?_
  refine lv_bipush (v := 64) hx hb d_Ref_encode_67 (by decide) ?_
  refine lv_iadd hx hb d_Ref_encode_69 ?_
  refine tp_i (y := 64) (by first | rfl | decide) ?_
  refine lv_i2l (v := 64) hx hb d_Ref_encode_70 (by decide) ?_
  refine lv_bipush (v := 7) hx hb d_Ref_encode_71 (by decide) ?_
  obtain ⟨hPc, hDc, hFc⟩ := cut3 (wc := [oc h0 8 [.int 0, .int p1, .ref h1, .ref h2, .ref h3, .ref h4, .ref h5, .ref h6, .ref h7, .ref h8, .ref h9, .ref h10, .ref h11, .ref h12, .int p2, .ref h13, .ref h14, .ref h15, .ref h16, .int 3, .int p4, .ref h17, .ref h18, .ref h19, .int p5, .ref h20, .int 12, .int p7, .ref h21, .ref h22, .ref h23, .ref h24, .ref h25, .ref h26, .ref h27, .ref h28, .int p8, .int p9, .ref h29, .ref h30, .ref h31, .ref h32, .ref h33, .ref h34, .ref h35, .ref h36, .int p10, .ref h37], la h20 k19 5 (vp_updL (vp_updL (vp_updL (vp_updL (vp_updL (vp_updL (vp_updL (vp_updL (vp_updL f19 0 0) 1 0) 2 0) 3 0) 4 0) 0 0) 0 0) 0 0) 0 0)]) hP hD rfl hS hA [1, 2] (by decide +kernel) rfl
  have hKc := hK.sub (tys' := [(k19, .long)]) [1] rfl
  refine va_callv (va_runV (As := [.long 64, .int 7]) (rest := []) ⟨hx, hb, hml, hown, hw⟩ (c_Ref_bits_v5 l dC dI h0 64 0 p1 h1 h2 h3 h4 h5 h6 h7 h8 h9 h10 h11 h12 p2 h13 h14 h15 h16 3 p4 h17 h18 h19 p5 h20 p7 h21 h22 h23 h24 h25 h26 h27 h28 p8 p9 h29 h30 h31 h32 h33 h34 h35 h36 p10 h37 k19 (vp_updL (vp_updL (vp_updL (vp_updL (vp_updL (vp_updL (vp_updL (vp_updL (vp_updL f19 0 0) 1 0) 2 0) 3 0) 4 0) 0 0) 0 0) 0 0) 0 0) H.size) (cw_V 2 hw g_Ref_bits rfl rfl rfl (hw _ m_109) (hw _ m_1093) (hw _ m_1095) (hw _ m_58) (by decide +kernel) ⟨Nat.le_of_ble_eq_true rfl, Nat.le_of_ble_eq_true rfl⟩) ⟨fun a U g mk q => by obtain ⟨q0, q1, qP, qK, qD, qN⟩ := q; exact ⟨q0, q1, qP, va_K.moved (u := U) (U := U.calling g mk a) (Vm.Alike.refl U.vm) qK, qD, nw_call qN⟩, va_recv hKc hPc (ci := 8) (q0 := 0) rfl rfl, fun U hU hW => ⟨rfl, by rw [hU], by rw [hU]; exact hPc, va_K.moved hW.alike hKc, hDc.weaken (fun _ _ _ _ => trivial), nw_warm hW hn⟩⟩ rfl rfl hl.1 rfl (lv_room (Nat.le_of_ble_eq_true rfl)) d_Ref_encode_73 ⟨Nat.le_of_ble_eq_true rfl, Nat.le_of_ble_eq_true rfl⟩) hS (fun q _ h => hFc q h) hFc ?_
  intro u t H1 locs1 ht hvm hw1 hB hz1 hk1 hS1
  obtain ⟨hP1, hK1, hD1⟩ := hB
  rw [ht] at hP1
  replace hK1 := va_K.moved hvm.symm hK1
  have hPD := join3 hP hD rfl [1, 2] [0] rfl (by rfl) (by decide +kernel) (by decide +kernel) hk1 hFc hP1 hD1
  replace hK : va_K (dC, dI) classes [(k13, .int), (k19, .long)] s := hK.app hK1
  clear hP1 hK1 hD1 hk1 hz1 hFc hKc hDc hPc hvm ht hP hS t locs H
  have hP : va_P (dC, dI) classes [ia h14 k13 155 (upd (upd (upd (upd (upd (upd (upd (upd (upd (upd (upd (upd (upd (upd (upd (upd (upd (upd (upd (upd (upd (upd (upd (upd (upd (upd (upd (upd (upd (upd (upd (upd (fun _ => 0) 37 1) 96 1) 97 2) 98 3) 38 1) 49 1) 140 1) 100 1) 144 1) 101 2) 148 1) 102 3) 152 1) 39 1) 57 2) 141 2) 104 1) 145 2) 105 2) 149 2) 106 3) 153 2) 40 1) 65 3) 142 3) 108 1) 146 3) 109 2) 150 3) 110 3) 154 3) 15 4), oc h0 8 [.int 0, .int p1, .ref h1, .ref h2, .ref h3, .ref h4, .ref h5, .ref h6, .ref h7, .ref h8, .ref h9, .ref h10, .ref h11, .ref h12, .int p2, .ref h13, .ref h14, .ref h15, .ref h16, .int 3, .int p4, .ref h17, .ref h18, .ref h19, .int p5, .ref h20, .int 19, .int p7, .ref h21, .ref h22, .ref h23, .ref h24, .ref h25, .ref h26, .ref h27, .ref h28, .int p8, .int p9, .ref h29, .ref h30, .ref h31, .ref h32, .ref h33, .ref h34, .ref h35, .ref h36, .int p10, .ref h37], la h20 k19 5 (vp_updL (vp_updL (vp_updL (vp_updL (vp_updL (vp_updL (vp_updL (vp_updL (vp_updL (vp_updL f19 0 0) 1 0) 2 0) 3 0) 4 0) 0 0) 0 0) 0 0) 0 0) 0 ((0 : Int64) ||| ((64 : Int64) <<< (((12 : Int32) : Int32).toInt64 &&& 63))))] H1 := hPD.1
  rw [show (((0 : Int64) ||| ((64 : Int64) <<< (((12 : Int32) : Int32).toInt64 &&& 63)) : Int64)) = 262144 from by decide] at hP
  replace hD : dd A [h14, h0, h20] := dd_of hPD.2 rfl
  clear hPD
  revert H1 locs1
  intro H locs hS hP
  clear hw1 u
  refine tp_pc (pc' := 76) (by rfl) ?_
  refine lv_iinc (v := 1) (lv' := [(1, .int 1), (0, .ref h0)]) hx hb d_Ref_encode_76 hl (k := 0) rfl (by first | rfl | decide) (by decide) rfl ?_
  clear hl ls
  intro ls hl
  refine lv_goto (tgt := 52) hx hb d_Ref_encode_79 (by decide) ?_
  refine tp_pc (pc' := 52) (by rfl) ?_
  refine lv_iload_n hx hb d_Ref_encode_52 rfl (lv_at hl 0 rfl) ?_
  refine lv_bipush (v := 8) hx hb d_Ref_encode_53 (by decide) ?_
  refine lv_icmp_ge (tgt := 82) hx hb d_Ref_encode_55 (by decide) (fun c_18 => absurd c_18 (by decide)) (fun c_18 => ?_)
  refine tp_pc (pc' := 58) (by rfl) ?_
  refine lv_aload_n hx hb d_Ref_encode_58 rfl (lv_at hl 1 rfl) ?_
  refine lv_aload_n hx hb d_Ref_encode_59 rfl (lv_at hl 1 rfl) ?_
  refine va_get (D := (dC, dI)) (ci := 8) (v := .ref h14) (C := R_Ref) (T := F_Ref) (N := 48) hx hb hw i_Ref hown hK hP 1 rfl rfl 16 (by decide) (hw _ m_915) (fun _ h9 => h9) rfl d_Ref_encode_60 ?_
  refine lv_iconst (v := 4) hx hb d_Ref_encode_63 (by decide) ?_
  refine lv_iload_n hx hb d_Ref_encode_64 rfl (lv_at hl 0 rfl) ?_
  refine lv_iadd hx hb d_Ref_encode_65 ?_
  refine tp_i (y := 5) (by first | rfl | decide) ?_
  refine va_iald (D := (dC, dI)) hx hb hK hP 0 0 rfl rfl (i := 5) (vp_c (by decide)) d_Ref_encode_66 ?_
  refine tp_i (y := 0) (by first | rfl | decide) ?_
  refine lv_bipush (v := 64) hx hb d_Ref_encode_67 (by decide) ?_
  refine lv_iadd hx hb d_Ref_encode_69 ?_
  refine tp_i (y := 64) (by first | rfl | decide) ?_
  refine lv_i2l (v := 64) hx hb d_Ref_encode_70 (by decide) ?_
  refine lv_bipush (v := 7) hx hb d_Ref_encode_71 (by decide) ?_
  obtain ⟨hPc, hDc, hFc⟩ := cut3 (wc := [oc h0 8 [.int 0, .int p1, .ref h1, .ref h2, .ref h3, .ref h4, .ref h5, .ref h6, .ref h7, .ref h8, .ref h9, .ref h10, .ref h11, .ref h12, .int p2, .ref h13, .ref h14, .ref h15, .ref h16, .int 3, .int p4, .ref h17, .ref h18, .ref h19, .int p5, .ref h20, .int 19, .int p7, .ref h21, .ref h22, .ref h23, .ref h24, .ref h25, .ref h26, .ref h27, .ref h28, .int p8, .int p9, .ref h29, .ref h30, .ref h31, .ref h32, .ref h33, .ref h34, .ref h35, .ref h36, .int p10, .ref h37], la h20 k19 5 (vp_updL (vp_updL (vp_updL (vp_updL (vp_updL (vp_updL (vp_updL (vp_updL (vp_updL (vp_updL f19 0 0) 1 0) 2 0) 3 0) 4 0) 0 0) 0 0) 0 0) 0 0) 0 262144)]) hP hD rfl hS hA [1, 2] (by decide +kernel) rfl
  have hKc := hK.sub (tys' := [(k19, .long)]) [1] rfl
  refine va_callv (va_runV (As := [.long 64, .int 7]) (rest := []) ⟨hx, hb, hml, hown, hw⟩ (c_Ref_bits_v6 l dC dI h0 64 0 p1 h1 h2 h3 h4 h5 h6 h7 h8 h9 h10 h11 h12 p2 h13 h14 h15 h16 3 p4 h17 h18 h19 p5 h20 p7 h21 h22 h23 h24 h25 h26 h27 h28 p8 p9 h29 h30 h31 h32 h33 h34 h35 h36 p10 h37 k19 (vp_updL (vp_updL (vp_updL (vp_updL (vp_updL (vp_updL (vp_updL (vp_updL (vp_updL (vp_updL f19 0 0) 1 0) 2 0) 3 0) 4 0) 0 0) 0 0) 0 0) 0 0) 0 262144) H.size) (cw_V 2 hw g_Ref_bits rfl rfl rfl (hw _ m_109) (hw _ m_1093) (hw _ m_1095) (hw _ m_58) (by decide +kernel) ⟨Nat.le_of_ble_eq_true rfl, Nat.le_of_ble_eq_true rfl⟩) ⟨fun a U g mk q => by obtain ⟨q0, q1, qP, qK, qD, qN⟩ := q; exact ⟨q0, q1, qP, va_K.moved (u := U) (U := U.calling g mk a) (Vm.Alike.refl U.vm) qK, qD, nw_call qN⟩, va_recv hKc hPc (ci := 8) (q0 := 0) rfl rfl, fun U hU hW => ⟨rfl, by rw [hU], by rw [hU]; exact hPc, va_K.moved hW.alike hKc, hDc.weaken (fun _ _ _ _ => trivial), nw_warm hW hn⟩⟩ rfl rfl hl.1 rfl (lv_room (Nat.le_of_ble_eq_true rfl)) d_Ref_encode_73 ⟨Nat.le_of_ble_eq_true rfl, Nat.le_of_ble_eq_true rfl⟩) hS (fun q _ h => hFc q h) hFc ?_
  intro u t H1 locs1 ht hvm hw1 hB hz1 hk1 hS1
  obtain ⟨hP1, hK1, hD1⟩ := hB
  rw [ht] at hP1
  replace hK1 := va_K.moved hvm.symm hK1
  have hPD := join3 hP hD rfl [1, 2] [0] rfl (by rfl) (by decide +kernel) (by decide +kernel) hk1 hFc hP1 hD1
  replace hK : va_K (dC, dI) classes [(k13, .int), (k19, .long)] s := hK.app hK1
  clear hP1 hK1 hD1 hk1 hz1 hFc hKc hDc hPc hvm ht hP hS t locs H
  have hP : va_P (dC, dI) classes [ia h14 k13 155 (upd (upd (upd (upd (upd (upd (upd (upd (upd (upd (upd (upd (upd (upd (upd (upd (upd (upd (upd (upd (upd (upd (upd (upd (upd (upd (upd (upd (upd (upd (upd (upd (fun _ => 0) 37 1) 96 1) 97 2) 98 3) 38 1) 49 1) 140 1) 100 1) 144 1) 101 2) 148 1) 102 3) 152 1) 39 1) 57 2) 141 2) 104 1) 145 2) 105 2) 149 2) 106 3) 153 2) 40 1) 65 3) 142 3) 108 1) 146 3) 109 2) 150 3) 110 3) 154 3) 15 4), oc h0 8 [.int 0, .int p1, .ref h1, .ref h2, .ref h3, .ref h4, .ref h5, .ref h6, .ref h7, .ref h8, .ref h9, .ref h10, .ref h11, .ref h12, .int p2, .ref h13, .ref h14, .ref h15, .ref h16, .int 3, .int p4, .ref h17, .ref h18, .ref h19, .int p5, .ref h20, .int 26, .int p7, .ref h21, .ref h22, .ref h23, .ref h24, .ref h25, .ref h26, .ref h27, .ref h28, .int p8, .int p9, .ref h29, .ref h30, .ref h31, .ref h32, .ref h33, .ref h34, .ref h35, .ref h36, .int p10, .ref h37], la h20 k19 5 (vp_updL (vp_updL (vp_updL (vp_updL (vp_updL (vp_updL (vp_updL (vp_updL (vp_updL (vp_updL (vp_updL f19 0 0) 1 0) 2 0) 3 0) 4 0) 0 0) 0 0) 0 0) 0 0) 0 262144) 0 ((262144 : Int64) ||| ((64 : Int64) <<< (((19 : Int32) : Int32).toInt64 &&& 63))))] H1 := hPD.1
  rw [show (((262144 : Int64) ||| ((64 : Int64) <<< (((19 : Int32) : Int32).toInt64 &&& 63)) : Int64)) = 33816576 from by decide] at hP
  replace hD : dd A [h14, h0, h20] := dd_of hPD.2 rfl
  clear hPD
  revert H1 locs1
  intro H locs hS hP
  clear hw1 u
  refine tp_pc (pc' := 76) (by rfl) ?_
  refine lv_iinc (v := 2) (lv' := [(1, .int 2), (0, .ref h0)]) hx hb d_Ref_encode_76 hl (k := 0) rfl (by first | rfl | decide) (by decide) rfl ?_
  clear hl ls
  intro ls hl
  refine lv_goto (tgt := 52) hx hb d_Ref_encode_79 (by decide) ?_
  refine tp_pc (pc' := 52) (by rfl) ?_
  refine lv_iload_n hx hb d_Ref_encode_52 rfl (lv_at hl 0 rfl) ?_
  refine lv_bipush (v := 8) hx hb d_Ref_encode_53 (by decide) ?_
  refine lv_icmp_ge (tgt := 82) hx hb d_Ref_encode_55 (by decide) (fun c_20 => absurd c_20 (by decide)) (fun c_20 => ?_)
  refine tp_pc (pc' := 58) (by rfl) ?_
  refine lv_aload_n hx hb d_Ref_encode_58 rfl (lv_at hl 1 rfl) ?_
  refine lv_aload_n hx hb d_Ref_encode_59 rfl (lv_at hl 1 rfl) ?_
  refine va_get (D := (dC, dI)) (ci := 8) (v := .ref h14) (C := R_Ref) (T := F_Ref) (N := 48) hx hb hw i_Ref hown hK hP 1 rfl rfl 16 (by decide) (hw _ m_915) (fun _ h9 => h9) rfl d_Ref_encode_60 ?_
  refine lv_iconst (v := 4) hx hb d_Ref_encode_63 (by decide) ?_
  refine lv_iload_n hx hb d_Ref_encode_64 rfl (lv_at hl 0 rfl) ?_
  refine lv_iadd hx hb d_Ref_encode_65 ?_
  refine tp_i (y := 6) (by first | rfl | decide) ?_
  refine va_iald (D := (dC, dI)) hx hb hK hP 0 0 rfl rfl (i := 6) (vp_c (by decide)) d_Ref_encode_66 ?_
  refine tp_i (y := 0) (by first | rfl | decide) ?_
  refine lv_bipush (v := 64) hx hb d_Ref_encode_67 (by decide) ?_
  refine lv_iadd hx hb d_Ref_encode_69 ?_
  refine tp_i (y := 64) (by first | rfl | decide) ?_
  refine lv_i2l (v := 64) hx hb d_Ref_encode_70 (by decide) ?_
  refine lv_bipush (v := 7) hx hb d_Ref_encode_71 (by decide) ?_
  obtain ⟨hPc, hDc, hFc⟩ := cut3 (wc := [oc h0 8 [.int 0, .int p1, .ref h1, .ref h2, .ref h3, .ref h4, .ref h5, .ref h6, .ref h7, .ref h8, .ref h9, .ref h10, .ref h11, .ref h12, .int p2, .ref h13, .ref h14, .ref h15, .ref h16, .int 3, .int p4, .ref h17, .ref h18, .ref h19, .int p5, .ref h20, .int 26, .int p7, .ref h21, .ref h22, .ref h23, .ref h24, .ref h25, .ref h26, .ref h27, .ref h28, .int p8, .int p9, .ref h29, .ref h30, .ref h31, .ref h32, .ref h33, .ref h34, .ref h35, .ref h36, .int p10, .ref h37], la h20 k19 5 (vp_updL (vp_updL (vp_updL (vp_updL (vp_updL (vp_updL (vp_updL (vp_updL (vp_updL (vp_updL (vp_updL f19 0 0) 1 0) 2 0) 3 0) 4 0) 0 0) 0 0) 0 0) 0 0) 0 262144) 0 33816576)]) hP hD rfl hS hA [1, 2] (by decide +kernel) rfl
  have hKc := hK.sub (tys' := [(k19, .long)]) [1] rfl
  refine va_callv (va_runV (As := [.long 64, .int 7]) (rest := []) ⟨hx, hb, hml, hown, hw⟩ (c_Ref_bits_v7 l dC dI h0 64 0 p1 h1 h2 h3 h4 h5 h6 h7 h8 h9 h10 h11 h12 p2 h13 h14 h15 h16 3 p4 h17 h18 h19 p5 h20 p7 h21 h22 h23 h24 h25 h26 h27 h28 p8 p9 h29 h30 h31 h32 h33 h34 h35 h36 p10 h37 k19 (vp_updL (vp_updL (vp_updL (vp_updL (vp_updL (vp_updL (vp_updL (vp_updL (vp_updL (vp_updL (vp_updL f19 0 0) 1 0) 2 0) 3 0) 4 0) 0 0) 0 0) 0 0) 0 0) 0 262144) 0 33816576) H.size) (cw_V 2 hw g_Ref_bits rfl rfl rfl (hw _ m_109) (hw _ m_1093) (hw _ m_1095) (hw _ m_58) (by decide +kernel) ⟨Nat.le_of_ble_eq_true rfl, Nat.le_of_ble_eq_true rfl⟩) ⟨fun a U g mk q => by obtain ⟨q0, q1, qP, qK, qD, qN⟩ := q; exact ⟨q0, q1, qP, va_K.moved (u := U) (U := U.calling g mk a) (Vm.Alike.refl U.vm) qK, qD, nw_call qN⟩, va_recv hKc hPc (ci := 8) (q0 := 0) rfl rfl, fun U hU hW => ⟨rfl, by rw [hU], by rw [hU]; exact hPc, va_K.moved hW.alike hKc, hDc.weaken (fun _ _ _ _ => trivial), nw_warm hW hn⟩⟩ rfl rfl hl.1 rfl (lv_room (Nat.le_of_ble_eq_true rfl)) d_Ref_encode_73 ⟨Nat.le_of_ble_eq_true rfl, Nat.le_of_ble_eq_true rfl⟩) hS (fun q _ h => hFc q h) hFc ?_
  intro u t H1 locs1 ht hvm hw1 hB hz1 hk1 hS1
  obtain ⟨hP1, hK1, hD1⟩ := hB
  rw [ht] at hP1
  replace hK1 := va_K.moved hvm.symm hK1
  have hPD := join3 hP hD rfl [1, 2] [0] rfl (by rfl) (by decide +kernel) (by decide +kernel) hk1 hFc hP1 hD1
  replace hK : va_K (dC, dI) classes [(k13, .int), (k19, .long)] s := hK.app hK1
  clear hP1 hK1 hD1 hk1 hz1 hFc hKc hDc hPc hvm ht hP hS t locs H
  have hP : va_P (dC, dI) classes [ia h14 k13 155 (upd (upd (upd (upd (upd (upd (upd (upd (upd (upd (upd (upd (upd (upd (upd (upd (upd (upd (upd (upd (upd (upd (upd (upd (upd (upd (upd (upd (upd (upd (upd (upd (fun _ => 0) 37 1) 96 1) 97 2) 98 3) 38 1) 49 1) 140 1) 100 1) 144 1) 101 2) 148 1) 102 3) 152 1) 39 1) 57 2) 141 2) 104 1) 145 2) 105 2) 149 2) 106 3) 153 2) 40 1) 65 3) 142 3) 108 1) 146 3) 109 2) 150 3) 110 3) 154 3) 15 4), oc h0 8 [.int 0, .int p1, .ref h1, .ref h2, .ref h3, .ref h4, .ref h5, .ref h6, .ref h7, .ref h8, .ref h9, .ref h10, .ref h11, .ref h12, .int p2, .ref h13, .ref h14, .ref h15, .ref h16, .int 3, .int p4, .ref h17, .ref h18, .ref h19, .int p5, .ref h20, .int 33, .int p7, .ref h21, .ref h22, .ref h23, .ref h24, .ref h25, .ref h26, .ref h27, .ref h28, .int p8, .int p9, .ref h29, .ref h30, .ref h31, .ref h32, .ref h33, .ref h34, .ref h35, .ref h36, .int p10, .ref h37], la h20 k19 5 (vp_updL (vp_updL (vp_updL (vp_updL (vp_updL (vp_updL (vp_updL (vp_updL (vp_updL (vp_updL (vp_updL (vp_updL f19 0 0) 1 0) 2 0) 3 0) 4 0) 0 0) 0 0) 0 0) 0 0) 0 262144) 0 33816576) 0 ((33816576 : Int64) ||| ((64 : Int64) <<< (((26 : Int32) : Int32).toInt64 &&& 63))))] H1 := hPD.1
  rw [show (((33816576 : Int64) ||| ((64 : Int64) <<< (((26 : Int32) : Int32).toInt64 &&& 63)) : Int64)) = 4328783872 from by decide] at hP
  replace hD : dd A [h14, h0, h20] := dd_of hPD.2 rfl
  clear hPD
  revert H1 locs1
  intro H locs hS hP
  clear hw1 u
  refine tp_pc (pc' := 76) (by rfl) ?_
  refine lv_iinc (v := 3) (lv' := [(1, .int 3), (0, .ref h0)]) hx hb d_Ref_encode_76 hl (k := 0) rfl (by first | rfl | decide) (by decide) rfl ?_
  clear hl ls
  intro ls hl
  refine lv_goto (tgt := 52) hx hb d_Ref_encode_79 (by decide) ?_
  refine tp_pc (pc' := 52) (by rfl) ?_
  refine lv_iload_n hx hb d_Ref_encode_52 rfl (lv_at hl 0 rfl) ?_
  refine lv_bipush (v := 8) hx hb d_Ref_encode_53 (by decide) ?_
  refine lv_icmp_ge (tgt := 82) hx hb d_Ref_encode_55 (by decide) (fun c_22 => absurd c_22 (by decide)) (fun c_22 => ?_)
  refine tp_pc (pc' := 58) (by rfl) ?_
  refine lv_aload_n hx hb d_Ref_encode_58 rfl (lv_at hl 1 rfl) ?_
  refine lv_aload_n hx hb d_Ref_encode_59 rfl (lv_at hl 1 rfl) ?_
  refine va_get (D := (dC, dI)) (ci := 8) (v := .ref h14) (C := R_Ref) (T := F_Ref) (N := 48) hx hb hw i_Ref hown hK hP 1 rfl rfl 16 (by decide) (hw _ m_915) (fun _ h9 => h9) rfl d_Ref_encode_60 ?_
  refine lv_iconst (v := 4) hx hb d_Ref_encode_63 (by decide) ?_
  refine lv_iload_n hx hb d_Ref_encode_64 rfl (lv_at hl 0 rfl) ?_
  refine lv_iadd hx hb d_Ref_encode_65 ?_
  refine tp_i (y := 7) (by first | rfl | decide) ?_
  refine va_iald (D := (dC, dI)) hx hb hK hP 0 0 rfl rfl (i := 7) (vp_c (by decide)) d_Ref_encode_66 ?_
  refine tp_i (y := 0) (by first | rfl | decide) ?_
  refine lv_bipush (v := 64) hx hb d_Ref_encode_67 (by decide) ?_
  refine lv_iadd hx hb d_Ref_encode_69 ?_
  refine tp_i (y := 64) (by first | rfl | decide) ?_
  refine lv_i2l (v := 64) hx hb d_Ref_encode_70 (by decide) ?_
  refine lv_bipush (v := 7) hx hb d_Ref_encode_71 (by decide) ?_
  obtain ⟨hPc, hDc, hFc⟩ := cut3 (wc := [oc h0 8 [.int 0, .int p1, .ref h1, .ref h2, .ref h3, .ref h4, .ref h5, .ref h6, .ref h7, .ref h8, .ref h9, .ref h10, .ref h11, .ref h12, .int p2, .ref h13, .ref h14, .ref h15, .ref h16, .int 3, .int p4, .ref h17, .ref h18, .ref h19, .int p5, .ref h20, .int 33, .int p7, .ref h21, .ref h22, .ref h23, .ref h24, .ref h25, .ref h26, .ref h27, .ref h28, .int p8, .int p9, .ref h29, .ref h30, .ref h31, .ref h32, .ref h33, .ref h34, .ref h35, .ref h36, .int p10, .ref h37], la h20 k19 5 (vp_updL (vp_updL (vp_updL (vp_updL (vp_updL (vp_updL (vp_updL (vp_updL (vp_updL (vp_updL (vp_updL (vp_updL f19 0 0) 1 0) 2 0) 3 0) 4 0) 0 0) 0 0) 0 0) 0 0) 0 262144) 0 33816576) 0 4328783872)]) hP hD rfl hS hA [1, 2] (by decide +kernel) rfl
  have hKc := hK.sub (tys' := [(k19, .long)]) [1] rfl
  refine va_callv (va_runV (As := [.long 64, .int 7]) (rest := []) ⟨hx, hb, hml, hown, hw⟩ (c_Ref_bits_v8 l dC dI h0 64 0 p1 h1 h2 h3 h4 h5 h6 h7 h8 h9 h10 h11 h12 p2 h13 h14 h15 h16 3 p4 h17 h18 h19 p5 h20 p7 h21 h22 h23 h24 h25 h26 h27 h28 p8 p9 h29 h30 h31 h32 h33 h34 h35 h36 p10 h37 k19 (vp_updL (vp_updL (vp_updL (vp_updL (vp_updL (vp_updL (vp_updL (vp_updL (vp_updL (vp_updL (vp_updL (vp_updL f19 0 0) 1 0) 2 0) 3 0) 4 0) 0 0) 0 0) 0 0) 0 0) 0 262144) 0 33816576) 0 4328783872) H.size) (cw_V 2 hw g_Ref_bits rfl rfl rfl (hw _ m_109) (hw _ m_1093) (hw _ m_1095) (hw _ m_58) (by decide +kernel) ⟨Nat.le_of_ble_eq_true rfl, Nat.le_of_ble_eq_true rfl⟩) ⟨fun a U g mk q => by obtain ⟨q0, q1, qP, qK, qD, qN⟩ := q; exact ⟨q0, q1, qP, va_K.moved (u := U) (U := U.calling g mk a) (Vm.Alike.refl U.vm) qK, qD, nw_call qN⟩, va_recv hKc hPc (ci := 8) (q0 := 0) rfl rfl, fun U hU hW => ⟨rfl, by rw [hU], by rw [hU]; exact hPc, va_K.moved hW.alike hKc, hDc.weaken (fun _ _ _ _ => trivial), nw_warm hW hn⟩⟩ rfl rfl hl.1 rfl (lv_room (Nat.le_of_ble_eq_true rfl)) d_Ref_encode_73 ⟨Nat.le_of_ble_eq_true rfl, Nat.le_of_ble_eq_true rfl⟩) hS (fun q _ h => hFc q h) hFc ?_
  intro u t H1 locs1 ht hvm hw1 hB hz1 hk1 hS1
  obtain ⟨hP1, hK1, hD1⟩ := hB
  rw [ht] at hP1
  replace hK1 := va_K.moved hvm.symm hK1
  have hPD := join3 hP hD rfl [1, 2] [0] rfl (by rfl) (by decide +kernel) (by decide +kernel) hk1 hFc hP1 hD1
  replace hK : va_K (dC, dI) classes [(k13, .int), (k19, .long)] s := hK.app hK1
  clear hP1 hK1 hD1 hk1 hz1 hFc hKc hDc hPc hvm ht hP hS t locs H
  have hP : va_P (dC, dI) classes [ia h14 k13 155 (upd (upd (upd (upd (upd (upd (upd (upd (upd (upd (upd (upd (upd (upd (upd (upd (upd (upd (upd (upd (upd (upd (upd (upd (upd (upd (upd (upd (upd (upd (upd (upd (fun _ => 0) 37 1) 96 1) 97 2) 98 3) 38 1) 49 1) 140 1) 100 1) 144 1) 101 2) 148 1) 102 3) 152 1) 39 1) 57 2) 141 2) 104 1) 145 2) 105 2) 149 2) 106 3) 153 2) 40 1) 65 3) 142 3) 108 1) 146 3) 109 2) 150 3) 110 3) 154 3) 15 4), oc h0 8 [.int 0, .int p1, .ref h1, .ref h2, .ref h3, .ref h4, .ref h5, .ref h6, .ref h7, .ref h8, .ref h9, .ref h10, .ref h11, .ref h12, .int p2, .ref h13, .ref h14, .ref h15, .ref h16, .int 3, .int p4, .ref h17, .ref h18, .ref h19, .int p5, .ref h20, .int 40, .int p7, .ref h21, .ref h22, .ref h23, .ref h24, .ref h25, .ref h26, .ref h27, .ref h28, .int p8, .int p9, .ref h29, .ref h30, .ref h31, .ref h32, .ref h33, .ref h34, .ref h35, .ref h36, .int p10, .ref h37], la h20 k19 5 (vp_updL (vp_updL (vp_updL (vp_updL (vp_updL (vp_updL (vp_updL (vp_updL (vp_updL (vp_updL (vp_updL (vp_updL (vp_updL f19 0 0) 1 0) 2 0) 3 0) 4 0) 0 0) 0 0) 0 0) 0 0) 0 262144) 0 33816576) 0 4328783872) 0 ((4328783872 : Int64) ||| ((64 : Int64) <<< (((33 : Int32) : Int32).toInt64 &&& 63))))] H1 := hPD.1
  rw [show (((4328783872 : Int64) ||| ((64 : Int64) <<< (((33 : Int32) : Int32).toInt64 &&& 63)) : Int64)) = 554084597760 from by decide] at hP
  replace hD : dd A [h14, h0, h20] := dd_of hPD.2 rfl
  clear hPD
  revert H1 locs1
  intro H locs hS hP
  clear hw1 u
  refine tp_pc (pc' := 76) (by rfl) ?_
  refine lv_iinc (v := 4) (lv' := [(1, .int 4), (0, .ref h0)]) hx hb d_Ref_encode_76 hl (k := 0) rfl (by first | rfl | decide) (by decide) rfl ?_
  clear hl ls
  intro ls hl
  refine lv_goto (tgt := 52) hx hb d_Ref_encode_79 (by decide) ?_
  refine tp_pc (pc' := 52) (by rfl) ?_
  refine lv_iload_n hx hb d_Ref_encode_52 rfl (lv_at hl 0 rfl) ?_
  refine lv_bipush (v := 8) hx hb d_Ref_encode_53 (by decide) ?_
  refine lv_icmp_ge (tgt := 82) hx hb d_Ref_encode_55 (by decide) (fun c_24 => absurd c_24 (by decide)) (fun c_24 => ?_)
  refine tp_pc (pc' := 58) (by rfl) ?_
  refine lv_aload_n hx hb d_Ref_encode_58 rfl (lv_at hl 1 rfl) ?_
  refine lv_aload_n hx hb d_Ref_encode_59 rfl (lv_at hl 1 rfl) ?_
  refine va_get (D := (dC, dI)) (ci := 8) (v := .ref h14) (C := R_Ref) (T := F_Ref) (N := 48) hx hb hw i_Ref hown hK hP 1 rfl rfl 16 (by decide) (hw _ m_915) (fun _ h9 => h9) rfl d_Ref_encode_60 ?_
  refine lv_iconst (v := 4) hx hb d_Ref_encode_63 (by decide) ?_
  refine lv_iload_n hx hb d_Ref_encode_64 rfl (lv_at hl 0 rfl) ?_
  refine lv_iadd hx hb d_Ref_encode_65 ?_
  refine tp_i (y := 8) (by first | rfl | decide) ?_
  refine va_iald (D := (dC, dI)) hx hb hK hP 0 0 rfl rfl (i := 8) (vp_c (by decide)) d_Ref_encode_66 ?_
  refine tp_i (y := 0) (by first | rfl | decide) ?_
  refine lv_bipush (v := 64) hx hb d_Ref_encode_67 (by decide) ?_
  refine lv_iadd hx hb d_Ref_encode_69 ?_
  refine tp_i (y := 64) (by first | rfl | decide) ?_
  refine lv_i2l (v := 64) hx hb d_Ref_encode_70 (by decide) ?_
  refine lv_bipush (v := 7) hx hb d_Ref_encode_71 (by decide) ?_
  obtain ⟨hPc, hDc, hFc⟩ := cut3 (wc := [oc h0 8 [.int 0, .int p1, .ref h1, .ref h2, .ref h3, .ref h4, .ref h5, .ref h6, .ref h7, .ref h8, .ref h9, .ref h10, .ref h11, .ref h12, .int p2, .ref h13, .ref h14, .ref h15, .ref h16, .int 3, .int p4, .ref h17, .ref h18, .ref h19, .int p5, .ref h20, .int 40, .int p7, .ref h21, .ref h22, .ref h23, .ref h24, .ref h25, .ref h26, .ref h27, .ref h28, .int p8, .int p9, .ref h29, .ref h30, .ref h31, .ref h32, .ref h33, .ref h34, .ref h35, .ref h36, .int p10, .ref h37], la h20 k19 5 (vp_updL (vp_updL (vp_updL (vp_updL (vp_updL (vp_updL (vp_updL (vp_updL (vp_updL (vp_updL (vp_updL (vp_updL (vp_updL f19 0 0) 1 0) 2 0) 3 0) 4 0) 0 0) 0 0) 0 0) 0 0) 0 262144) 0 33816576) 0 4328783872) 0 554084597760)]) hP hD rfl hS hA [1, 2] (by decide +kernel) rfl
  have hKc := hK.sub (tys' := [(k19, .long)]) [1] rfl
  refine va_callv (va_runV (As := [.long 64, .int 7]) (rest := []) ⟨hx, hb, hml, hown, hw⟩ (c_Ref_bits_v9 l dC dI h0 64 0 p1 h1 h2 h3 h4 h5 h6 h7 h8 h9 h10 h11 h12 p2 h13 h14 h15 h16 3 p4 h17 h18 h19 p5 h20 p7 h21 h22 h23 h24 h25 h26 h27 h28 p8 p9 h29 h30 h31 h32 h33 h34 h35 h36 p10 h37 k19 (vp_updL (vp_updL (vp_updL (vp_updL (vp_updL (vp_updL (vp_updL (vp_updL (vp_updL (vp_updL (vp_updL (vp_updL (vp_updL f19 0 0) 1 0) 2 0) 3 0) 4 0) 0 0) 0 0) 0 0) 0 0) 0 262144) 0 33816576) 0 4328783872) 0 554084597760) H.size) (cw_V 2 hw g_Ref_bits rfl rfl rfl (hw _ m_109) (hw _ m_1093) (hw _ m_1095) (hw _ m_58) (by decide +kernel) ⟨Nat.le_of_ble_eq_true rfl, Nat.le_of_ble_eq_true rfl⟩) ⟨fun a U g mk q => by obtain ⟨q0, q1, qP, qK, qD, qN⟩ := q; exact ⟨q0, q1, qP, va_K.moved (u := U) (U := U.calling g mk a) (Vm.Alike.refl U.vm) qK, qD, nw_call qN⟩, va_recv hKc hPc (ci := 8) (q0 := 0) rfl rfl, fun U hU hW => ⟨rfl, by rw [hU], by rw [hU]; exact hPc, va_K.moved hW.alike hKc, hDc.weaken (fun _ _ _ _ => trivial), nw_warm hW hn⟩⟩ rfl rfl hl.1 rfl (lv_room (Nat.le_of_ble_eq_true rfl)) d_Ref_encode_73 ⟨Nat.le_of_ble_eq_true rfl, Nat.le_of_ble_eq_true rfl⟩) hS (fun q _ h => hFc q h) hFc ?_
  intro u t H1 locs1 ht hvm hw1 hB hz1 hk1 hS1
  obtain ⟨hP1, hK1, hD1⟩ := hB
  rw [ht] at hP1
  replace hK1 := va_K.moved hvm.symm hK1
  have hPD := join3 hP hD rfl [1, 2] [0] rfl (by rfl) (by decide +kernel) (by decide +kernel) hk1 hFc hP1 hD1
  replace hK : va_K (dC, dI) classes [(k13, .int), (k19, .long)] s := hK.app hK1
  clear hP1 hK1 hD1 hk1 hz1 hFc hKc hDc hPc hvm ht hP hS t locs H
  have hP : va_P (dC, dI) classes [ia h14 k13 155 (upd (upd (upd (upd (upd (upd (upd (upd (upd (upd (upd (upd (upd (upd (upd (upd (upd (upd (upd (upd (upd (upd (upd (upd (upd (upd (upd (upd (upd (upd (upd (upd (fun _ => 0) 37 1) 96 1) 97 2) 98 3) 38 1) 49 1) 140 1) 100 1) 144 1) 101 2) 148 1) 102 3) 152 1) 39 1) 57 2) 141 2) 104 1) 145 2) 105 2) 149 2) 106 3) 153 2) 40 1) 65 3) 142 3) 108 1) 146 3) 109 2) 150 3) 110 3) 154 3) 15 4), oc h0 8 [.int 0, .int p1, .ref h1, .ref h2, .ref h3, .ref h4, .ref h5, .ref h6, .ref h7, .ref h8, .ref h9, .ref h10, .ref h11, .ref h12, .int p2, .ref h13, .ref h14, .ref h15, .ref h16, .int 3, .int p4, .ref h17, .ref h18, .ref h19, .int p5, .ref h20, .int 47, .int p7, .ref h21, .ref h22, .ref h23, .ref h24, .ref h25, .ref h26, .ref h27, .ref h28, .int p8, .int p9, .ref h29, .ref h30, .ref h31, .ref h32, .ref h33, .ref h34, .ref h35, .ref h36, .int p10, .ref h37], la h20 k19 5 (vp_updL (vp_updL (vp_updL (vp_updL (vp_updL (vp_updL (vp_updL (vp_updL (vp_updL (vp_updL (vp_updL (vp_updL (vp_updL (vp_updL f19 0 0) 1 0) 2 0) 3 0) 4 0) 0 0) 0 0) 0 0) 0 0) 0 262144) 0 33816576) 0 4328783872) 0 554084597760) 0 ((554084597760 : Int64) ||| ((64 : Int64) <<< (((40 : Int32) : Int32).toInt64 &&& 63))))] H1 := hPD.1
  rw [show (((554084597760 : Int64) ||| ((64 : Int64) <<< (((40 : Int32) : Int32).toInt64 &&& 63)) : Int64)) = 70922828775424 from by decide] at hP
  replace hD : dd A [h14, h0, h20] := dd_of hPD.2 rfl
  clear hPD
  revert H1 locs1
  intro H locs hS hP
  clear hw1 u
  refine tp_pc (pc' := 76) (by rfl) ?_
  refine lv_iinc (v := 5) (lv' := [(1, .int 5), (0, .ref h0)]) hx hb d_Ref_encode_76 hl (k := 0) rfl (by first | rfl | decide) (by decide) rfl ?_
  clear hl ls
  intro ls hl
  refine lv_goto (tgt := 52) hx hb d_Ref_encode_79 (by decide) ?_
  refine tp_pc (pc' := 52) (by rfl) ?_
  refine lv_iload_n hx hb d_Ref_encode_52 rfl (lv_at hl 0 rfl) ?_
  refine lv_bipush (v := 8) hx hb d_Ref_encode_53 (by decide) ?_
  refine lv_icmp_ge (tgt := 82) hx hb d_Ref_encode_55 (by decide) (fun c_26 => absurd c_26 (by decide)) (fun c_26 => ?_)
  refine tp_pc (pc' := 58) (by rfl) ?_
  refine lv_aload_n hx hb d_Ref_encode_58 rfl (lv_at hl 1 rfl) ?_
  refine lv_aload_n hx hb d_Ref_encode_59 rfl (lv_at hl 1 rfl) ?_
  refine va_get (D := (dC, dI)) (ci := 8) (v := .ref h14) (C := R_Ref) (T := F_Ref) (N := 48) hx hb hw i_Ref hown hK hP 1 rfl rfl 16 (by decide) (hw _ m_915) (fun _ h9 => h9) rfl d_Ref_encode_60 ?_
  refine lv_iconst (v := 4) hx hb d_Ref_encode_63 (by decide) ?_
  refine lv_iload_n hx hb d_Ref_encode_64 rfl (lv_at hl 0 rfl) ?_
  refine lv_iadd hx hb d_Ref_encode_65 ?_
  refine tp_i (y := 9) (by first | rfl | decide) ?_
  refine va_iald (D := (dC, dI)) hx hb hK hP 0 0 rfl rfl (i := 9) (vp_c (by decide)) d_Ref_encode_66 ?_
  refine tp_i (y := 0) (by first | rfl | decide) ?_
  refine lv_bipush (v := 64) hx hb d_Ref_encode_67 (by decide) ?_
  refine lv_iadd hx hb d_Ref_encode_69 ?_
  refine tp_i (y := 64) (by first | rfl | decide) ?_
  refine lv_i2l (v := 64) hx hb d_Ref_encode_70 (by decide) ?_
  refine lv_bipush (v := 7) hx hb d_Ref_encode_71 (by decide) ?_
  obtain ⟨hPc, hDc, hFc⟩ := cut3 (wc := [oc h0 8 [.int 0, .int p1, .ref h1, .ref h2, .ref h3, .ref h4, .ref h5, .ref h6, .ref h7, .ref h8, .ref h9, .ref h10, .ref h11, .ref h12, .int p2, .ref h13, .ref h14, .ref h15, .ref h16, .int 3, .int p4, .ref h17, .ref h18, .ref h19, .int p5, .ref h20, .int 47, .int p7, .ref h21, .ref h22, .ref h23, .ref h24, .ref h25, .ref h26, .ref h27, .ref h28, .int p8, .int p9, .ref h29, .ref h30, .ref h31, .ref h32, .ref h33, .ref h34, .ref h35, .ref h36, .int p10, .ref h37], la h20 k19 5 (vp_updL (vp_updL (vp_updL (vp_updL (vp_updL (vp_updL (vp_updL (vp_updL (vp_updL (vp_updL (vp_updL (vp_updL (vp_updL (vp_updL f19 0 0) 1 0) 2 0) 3 0) 4 0) 0 0) 0 0) 0 0) 0 0) 0 262144) 0 33816576) 0 4328783872) 0 554084597760) 0 70922828775424)]) hP hD rfl hS hA [1, 2] (by decide +kernel) rfl
  have hKc := hK.sub (tys' := [(k19, .long)]) [1] rfl
  refine va_callv (va_runV (As := [.long 64, .int 7]) (rest := []) ⟨hx, hb, hml, hown, hw⟩ (c_Ref_bits_v10 l dC dI h0 64 0 p1 h1 h2 h3 h4 h5 h6 h7 h8 h9 h10 h11 h12 p2 h13 h14 h15 h16 3 p4 h17 h18 h19 p5 h20 p7 h21 h22 h23 h24 h25 h26 h27 h28 p8 p9 h29 h30 h31 h32 h33 h34 h35 h36 p10 h37 k19 (vp_updL (vp_updL (vp_updL (vp_updL (vp_updL (vp_updL (vp_updL (vp_updL (vp_updL (vp_updL (vp_updL (vp_updL (vp_updL (vp_updL f19 0 0) 1 0) 2 0) 3 0) 4 0) 0 0) 0 0) 0 0) 0 0) 0 262144) 0 33816576) 0 4328783872) 0 554084597760) 0 70922828775424) H.size) (cw_V 2 hw g_Ref_bits rfl rfl rfl (hw _ m_109) (hw _ m_1093) (hw _ m_1095) (hw _ m_58) (by decide +kernel) ⟨Nat.le_of_ble_eq_true rfl, Nat.le_of_ble_eq_true rfl⟩) ⟨fun a U g mk q => by obtain ⟨q0, q1, qP, qK, qD, qN⟩ := q; exact ⟨q0, q1, qP, va_K.moved (u := U) (U := U.calling g mk a) (Vm.Alike.refl U.vm) qK, qD, nw_call qN⟩, va_recv hKc hPc (ci := 8) (q0 := 0) rfl rfl, fun U hU hW => ⟨rfl, by rw [hU], by rw [hU]; exact hPc, va_K.moved hW.alike hKc, hDc.weaken (fun _ _ _ _ => trivial), nw_warm hW hn⟩⟩ rfl rfl hl.1 rfl (lv_room (Nat.le_of_ble_eq_true rfl)) d_Ref_encode_73 ⟨Nat.le_of_ble_eq_true rfl, Nat.le_of_ble_eq_true rfl⟩) hS (fun q _ h => hFc q h) hFc ?_
  intro u t H1 locs1 ht hvm hw1 hB hz1 hk1 hS1
  obtain ⟨hP1, hK1, hD1⟩ := hB
  rw [ht] at hP1
  replace hK1 := va_K.moved hvm.symm hK1
  have hPD := join3 hP hD rfl [1, 2] [0] rfl (by rfl) (by decide +kernel) (by decide +kernel) hk1 hFc hP1 hD1
  replace hK : va_K (dC, dI) classes [(k13, .int), (k19, .long)] s := hK.app hK1
  clear hP1 hK1 hD1 hk1 hz1 hFc hKc hDc hPc hvm ht hP hS t locs H
  have hP : va_P (dC, dI) classes [ia h14 k13 155 (upd (upd (upd (upd (upd (upd (upd (upd (upd (upd (upd (upd (upd (upd (upd (upd (upd (upd (upd (upd (upd (upd (upd (upd (upd (upd (upd (upd (upd (upd (upd (upd (fun _ => 0) 37 1) 96 1) 97 2) 98 3) 38 1) 49 1) 140 1) 100 1) 144 1) 101 2) 148 1) 102 3) 152 1) 39 1) 57 2) 141 2) 104 1) 145 2) 105 2) 149 2) 106 3) 153 2) 40 1) 65 3) 142 3) 108 1) 146 3) 109 2) 150 3) 110 3) 154 3) 15 4), oc h0 8 [.int 0, .int p1, .ref h1, .ref h2, .ref h3, .ref h4, .ref h5, .ref h6, .ref h7, .ref h8, .ref h9, .ref h10, .ref h11, .ref h12, .int p2, .ref h13, .ref h14, .ref h15, .ref h16, .int 3, .int p4, .ref h17, .ref h18, .ref h19, .int p5, .ref h20, .int 54, .int p7, .ref h21, .ref h22, .ref h23, .ref h24, .ref h25, .ref h26, .ref h27, .ref h28, .int p8, .int p9, .ref h29, .ref h30, .ref h31, .ref h32, .ref h33, .ref h34, .ref h35, .ref h36, .int p10, .ref h37], la h20 k19 5 (vp_updL (vp_updL (vp_updL (vp_updL (vp_updL (vp_updL (vp_updL (vp_updL (vp_updL (vp_updL (vp_updL (vp_updL (vp_updL (vp_updL (vp_updL f19 0 0) 1 0) 2 0) 3 0) 4 0) 0 0) 0 0) 0 0) 0 0) 0 262144) 0 33816576) 0 4328783872) 0 554084597760) 0 70922828775424) 0 ((70922828775424 : Int64) ||| ((64 : Int64) <<< (((47 : Int32) : Int32).toInt64 &&& 63))))] H1 := hPD.1
  rw [show (((70922828775424 : Int64) ||| ((64 : Int64) <<< (((47 : Int32) : Int32).toInt64 &&& 63)) : Int64)) = 9078122083516416 from by decide] at hP
  replace hD : dd A [h14, h0, h20] := dd_of hPD.2 rfl
  clear hPD
  revert H1 locs1
  intro H locs hS hP
  clear hw1 u
  refine tp_pc (pc' := 76) (by rfl) ?_
  refine lv_iinc (v := 6) (lv' := [(1, .int 6), (0, .ref h0)]) hx hb d_Ref_encode_76 hl (k := 0) rfl (by first | rfl | decide) (by decide) rfl ?_
  clear hl ls
  intro ls hl
  refine lv_goto (tgt := 52) hx hb d_Ref_encode_79 (by decide) ?_
  refine tp_pc (pc' := 52) (by rfl) ?_
  refine lv_iload_n hx hb d_Ref_encode_52 rfl (lv_at hl 0 rfl) ?_
  refine lv_bipush (v := 8) hx hb d_Ref_encode_53 (by decide) ?_
  refine lv_icmp_ge (tgt := 82) hx hb d_Ref_encode_55 (by decide) (fun c_28 => absurd c_28 (by decide)) (fun c_28 => ?_)
  refine tp_pc (pc' := 58) (by rfl) ?_
  refine lv_aload_n hx hb d_Ref_encode_58 rfl (lv_at hl 1 rfl) ?_
  refine lv_aload_n hx hb d_Ref_encode_59 rfl (lv_at hl 1 rfl) ?_
  refine va_get (D := (dC, dI)) (ci := 8) (v := .ref h14) (C := R_Ref) (T := F_Ref) (N := 48) hx hb hw i_Ref hown hK hP 1 rfl rfl 16 (by decide) (hw _ m_915) (fun _ h9 => h9) rfl d_Ref_encode_60 ?_
  refine lv_iconst (v := 4) hx hb d_Ref_encode_63 (by decide) ?_
  refine lv_iload_n hx hb d_Ref_encode_64 rfl (lv_at hl 0 rfl) ?_
  refine lv_iadd hx hb d_Ref_encode_65 ?_
  refine tp_i (y := 10) (by first | rfl | decide) ?_
  refine va_iald (D := (dC, dI)) hx hb hK hP 0 0 rfl rfl (i := 10) (vp_c (by decide)) d_Ref_encode_66 ?_
  refine tp_i (y := 0) (by first | rfl | decide) ?_
  refine lv_bipush (v := 64) hx hb d_Ref_encode_67 (by decide) ?_
  refine lv_iadd hx hb d_Ref_encode_69 ?_
  refine tp_i (y := 64) (by first | rfl | decide) ?_
  refine lv_i2l (v := 64) hx hb d_Ref_encode_70 (by decide) ?_
  refine lv_bipush (v := 7) hx hb d_Ref_encode_71 (by decide) ?_
  obtain ⟨hPc, hDc, hFc⟩ := cut3 (wc := [oc h0 8 [.int 0, .int p1, .ref h1, .ref h2, .ref h3, .ref h4, .ref h5, .ref h6, .ref h7, .ref h8, .ref h9, .ref h10, .ref h11, .ref h12, .int p2, .ref h13, .ref h14, .ref h15, .ref h16, .int 3, .int p4, .ref h17, .ref h18, .ref h19, .int p5, .ref h20, .int 54, .int p7, .ref h21, .ref h22, .ref h23, .ref h24, .ref h25, .ref h26, .ref h27, .ref h28, .int p8, .int p9, .ref h29, .ref h30, .ref h31, .ref h32, .ref h33, .ref h34, .ref h35, .ref h36, .int p10, .ref h37], la h20 k19 5 (vp_updL (vp_updL (vp_updL (vp_updL (vp_updL (vp_updL (vp_updL (vp_updL (vp_updL (vp_updL (vp_updL (vp_updL (vp_updL (vp_updL (vp_updL f19 0 0) 1 0) 2 0) 3 0) 4 0) 0 0) 0 0) 0 0) 0 0) 0 262144) 0 33816576) 0 4328783872) 0 554084597760) 0 70922828775424) 0 9078122083516416)]) hP hD rfl hS hA [1, 2] (by decide +kernel) rfl
  have hKc := hK.sub (tys' := [(k19, .long)]) [1] rfl
  refine va_callv (va_runV (As := [.long 64, .int 7]) (rest := []) ⟨hx, hb, hml, hown, hw⟩ (c_Ref_bits_v11 l dC dI h0 64 0 p1 h1 h2 h3 h4 h5 h6 h7 h8 h9 h10 h11 h12 p2 h13 h14 h15 h16 3 p4 h17 h18 h19 p5 h20 p7 h21 h22 h23 h24 h25 h26 h27 h28 p8 p9 h29 h30 h31 h32 h33 h34 h35 h36 p10 h37 k19 (vp_updL (vp_updL (vp_updL (vp_updL (vp_updL (vp_updL (vp_updL (vp_updL (vp_updL (vp_updL (vp_updL (vp_updL (vp_updL (vp_updL (vp_updL f19 0 0) 1 0) 2 0) 3 0) 4 0) 0 0) 0 0) 0 0) 0 0) 0 262144) 0 33816576) 0 4328783872) 0 554084597760) 0 70922828775424) 0 9078122083516416) H.size) (cw_V 2 hw g_Ref_bits rfl rfl rfl (hw _ m_109) (hw _ m_1093) (hw _ m_1095) (hw _ m_58) (by decide +kernel) ⟨Nat.le_of_ble_eq_true rfl, Nat.le_of_ble_eq_true rfl⟩) ⟨fun a U g mk q => by obtain ⟨q0, q1, qP, qK, qD, qN⟩ := q; exact ⟨q0, q1, qP, va_K.moved (u := U) (U := U.calling g mk a) (Vm.Alike.refl U.vm) qK, qD, nw_call qN⟩, va_recv hKc hPc (ci := 8) (q0 := 0) rfl rfl, fun U hU hW => ⟨rfl, by rw [hU], by rw [hU]; exact hPc, va_K.moved hW.alike hKc, hDc.weaken (fun _ _ _ _ => trivial), nw_warm hW hn⟩⟩ rfl rfl hl.1 rfl (lv_room (Nat.le_of_ble_eq_true rfl)) d_Ref_encode_73 ⟨Nat.le_of_ble_eq_true rfl, Nat.le_of_ble_eq_true rfl⟩) hS (fun q _ h => hFc q h) hFc ?_
  intro u t H1 locs1 ht hvm hw1 hB hz1 hk1 hS1
  obtain ⟨hP1, hK1, hD1⟩ := hB
  rw [ht] at hP1
  replace hK1 := va_K.moved hvm.symm hK1
  have hPD := join3 hP hD rfl [1, 2] [0] rfl (by rfl) (by decide +kernel) (by decide +kernel) hk1 hFc hP1 hD1
  replace hK : va_K (dC, dI) classes [(k13, .int), (k19, .long)] s := hK.app hK1
  clear hP1 hK1 hD1 hk1 hz1 hFc hKc hDc hPc hvm ht hP hS t locs H
  have hP : va_P (dC, dI) classes [ia h14 k13 155 (upd (upd (upd (upd (upd (upd (upd (upd (upd (upd (upd (upd (upd (upd (upd (upd (upd (upd (upd (upd (upd (upd (upd (upd (upd (upd (upd (upd (upd (upd (upd (upd (fun _ => 0) 37 1) 96 1) 97 2) 98 3) 38 1) 49 1) 140 1) 100 1) 144 1) 101 2) 148 1) 102 3) 152 1) 39 1) 57 2) 141 2) 104 1) 145 2) 105 2) 149 2) 106 3) 153 2) 40 1) 65 3) 142 3) 108 1) 146 3) 109 2) 150 3) 110 3) 154 3) 15 4), oc h0 8 [.int 0, .int p1, .ref h1, .ref h2, .ref h3, .ref h4, .ref h5, .ref h6, .ref h7, .ref h8, .ref h9, .ref h10, .ref h11, .ref h12, .int p2, .ref h13, .ref h14, .ref h15, .ref h16, .int 3, .int p4, .ref h17, .ref h18, .ref h19, .int p5, .ref h20, .int 61, .int p7, .ref h21, .ref h22, .ref h23, .ref h24, .ref h25, .ref h26, .ref h27, .ref h28, .int p8, .int p9, .ref h29, .ref h30, .ref h31, .ref h32, .ref h33, .ref h34, .ref h35, .ref h36, .int p10, .ref h37], la h20 k19 5 (vp_updL (vp_updL (vp_updL (vp_updL (vp_updL (vp_updL (vp_updL (vp_updL (vp_updL (vp_updL (vp_updL (vp_updL (vp_updL (vp_updL (vp_updL (vp_updL f19 0 0) 1 0) 2 0) 3 0) 4 0) 0 0) 0 0) 0 0) 0 0) 0 262144) 0 33816576) 0 4328783872) 0 554084597760) 0 70922828775424) 0 9078122083516416) 0 ((9078122083516416 : Int64) ||| ((64 : Int64) <<< (((54 : Int32) : Int32).toInt64 &&& 63))))] H1 := hPD.1
  rw [show (((9078122083516416 : Int64) ||| ((64 : Int64) <<< (((54 : Int32) : Int32).toInt64 &&& 63)) : Int64)) = 1161999626690363392 from by decide] at hP
  replace hD : dd A [h14, h0, h20] := dd_of hPD.2 rfl
  clear hPD
  revert H1 locs1
  intro H locs hS hP
  clear hw1 u
  refine tp_pc (pc' := 76) (by rfl) ?_
  refine lv_iinc (v := 7) (lv' := [(1, .int 7), (0, .ref h0)]) hx hb d_Ref_encode_76 hl (k := 0) rfl (by first | rfl | decide) (by decide) rfl ?_
  clear hl ls
  intro ls hl
  refine lv_goto (tgt := 52) hx hb d_Ref_encode_79 (by decide) ?_
  refine tp_pc (pc' := 52) (by rfl) ?_
  refine lv_iload_n hx hb d_Ref_encode_52 rfl (lv_at hl 0 rfl) ?_
  refine lv_bipush (v := 8) hx hb d_Ref_encode_53 (by decide) ?_
  refine lv_icmp_ge (tgt := 82) hx hb d_Ref_encode_55 (by decide) (fun c_30 => absurd c_30 (by decide)) (fun c_30 => ?_)
  refine tp_pc (pc' := 58) (by rfl) ?_
  refine lv_aload_n hx hb d_Ref_encode_58 rfl (lv_at hl 1 rfl) ?_
  refine lv_aload_n hx hb d_Ref_encode_59 rfl (lv_at hl 1 rfl) ?_
  refine va_get (D := (dC, dI)) (ci := 8) (v := .ref h14) (C := R_Ref) (T := F_Ref) (N := 48) hx hb hw i_Ref hown hK hP 1 rfl rfl 16 (by decide) (hw _ m_915) (fun _ h9 => h9) rfl d_Ref_encode_60 ?_
  refine lv_iconst (v := 4) hx hb d_Ref_encode_63 (by decide) ?_
  refine lv_iload_n hx hb d_Ref_encode_64 rfl (lv_at hl 0 rfl) ?_
  refine lv_iadd hx hb d_Ref_encode_65 ?_
  refine tp_i (y := 11) (by first | rfl | decide) ?_
  refine va_iald (D := (dC, dI)) hx hb hK hP 0 0 rfl rfl (i := 11) (vp_c (by decide)) d_Ref_encode_66 ?_
  refine tp_i (y := 0) (by first | rfl | decide) ?_
  refine lv_bipush (v := 64) hx hb d_Ref_encode_67 (by decide) ?_
  refine lv_iadd hx hb d_Ref_encode_69 ?_
  refine tp_i (y := 64) (by first | rfl | decide) ?_
  refine lv_i2l (v := 64) hx hb d_Ref_encode_70 (by decide) ?_
  refine lv_bipush (v := 7) hx hb d_Ref_encode_71 (by decide) ?_
  obtain ⟨hPc, hDc, hFc⟩ := cut3 (wc := [oc h0 8 [.int 0, .int p1, .ref h1, .ref h2, .ref h3, .ref h4, .ref h5, .ref h6, .ref h7, .ref h8, .ref h9, .ref h10, .ref h11, .ref h12, .int p2, .ref h13, .ref h14, .ref h15, .ref h16, .int 3, .int p4, .ref h17, .ref h18, .ref h19, .int p5, .ref h20, .int 61, .int p7, .ref h21, .ref h22, .ref h23, .ref h24, .ref h25, .ref h26, .ref h27, .ref h28, .int p8, .int p9, .ref h29, .ref h30, .ref h31, .ref h32, .ref h33, .ref h34, .ref h35, .ref h36, .int p10, .ref h37], la h20 k19 5 (vp_updL (vp_updL (vp_updL (vp_updL (vp_updL (vp_updL (vp_updL (vp_updL (vp_updL (vp_updL (vp_updL (vp_updL (vp_updL (vp_updL (vp_updL (vp_updL f19 0 0) 1 0) 2 0) 3 0) 4 0) 0 0) 0 0) 0 0) 0 0) 0 262144) 0 33816576) 0 4328783872) 0 554084597760) 0 70922828775424) 0 9078122083516416) 0 1161999626690363392)]) hP hD rfl hS hA [1, 2] (by decide +kernel) rfl
  have hKc := hK.sub (tys' := [(k19, .long)]) [1] rfl
  refine va_callv (va_runV (As := [.long 64, .int 7]) (rest := []) ⟨hx, hb, hml, hown, hw⟩ (c_Ref_bits_v12 l dC dI h0 64 0 p1 h1 h2 h3 h4 h5 h6 h7 h8 h9 h10 h11 h12 p2 h13 h14 h15 h16 3 p4 h17 h18 h19 p5 h20 p7 h21 h22 h23 h24 h25 h26 h27 h28 p8 p9 h29 h30 h31 h32 h33 h34 h35 h36 p10 h37 k19 (vp_updL (vp_updL (vp_updL (vp_updL (vp_updL (vp_updL (vp_updL (vp_updL (vp_updL (vp_updL (vp_updL (vp_updL (vp_updL (vp_updL (vp_updL (vp_updL f19 0 0) 1 0) 2 0) 3 0) 4 0) 0 0) 0 0) 0 0) 0 0) 0 262144) 0 33816576) 0 4328783872) 0 554084597760) 0 70922828775424) 0 9078122083516416) 0 1161999626690363392) H.size) (cw_V 2 hw g_Ref_bits rfl rfl rfl (hw _ m_109) (hw _ m_1093) (hw _ m_1095) (hw _ m_58) (by decide +kernel) ⟨Nat.le_of_ble_eq_true rfl, Nat.le_of_ble_eq_true rfl⟩) ⟨fun a U g mk q => by obtain ⟨q0, q1, qP, qK, qD, qN⟩ := q; exact ⟨q0, q1, qP, va_K.moved (u := U) (U := U.calling g mk a) (Vm.Alike.refl U.vm) qK, qD, nw_call qN⟩, va_recv hKc hPc (ci := 8) (q0 := 0) rfl rfl, fun U hU hW => ⟨rfl, by rw [hU], by rw [hU]; exact hPc, va_K.moved hW.alike hKc, hDc.weaken (fun _ _ _ _ => trivial), nw_warm hW hn⟩⟩ rfl rfl hl.1 rfl (lv_room (Nat.le_of_ble_eq_true rfl)) d_Ref_encode_73 ⟨Nat.le_of_ble_eq_true rfl, Nat.le_of_ble_eq_true rfl⟩) hS (fun q _ h => hFc q h) hFc ?_
  intro u t H1 locs1 ht hvm hw1 hB hz1 hk1 hS1
  obtain ⟨hP1, hK1, hD1⟩ := hB
  rw [ht] at hP1
  replace hK1 := va_K.moved hvm.symm hK1
  have hPD := join3 hP hD rfl [1, 2] [0] rfl (by rfl) (by decide +kernel) (by decide +kernel) hk1 hFc hP1 hD1
  replace hK : va_K (dC, dI) classes [(k13, .int), (k19, .long)] s := hK.app hK1
  clear hP1 hK1 hD1 hk1 hz1 hFc hKc hDc hPc hvm ht hP hS t locs H
  have hP : va_P (dC, dI) classes [ia h14 k13 155 (upd (upd (upd (upd (upd (upd (upd (upd (upd (upd (upd (upd (upd (upd (upd (upd (upd (upd (upd (upd (upd (upd (upd (upd (upd (upd (upd (upd (upd (upd (upd (upd (fun _ => 0) 37 1) 96 1) 97 2) 98 3) 38 1) 49 1) 140 1) 100 1) 144 1) 101 2) 148 1) 102 3) 152 1) 39 1) 57 2) 141 2) 104 1) 145 2) 105 2) 149 2) 106 3) 153 2) 40 1) 65 3) 142 3) 108 1) 146 3) 109 2) 150 3) 110 3) 154 3) 15 4), oc h0 8 [.int 0, .int p1, .ref h1, .ref h2, .ref h3, .ref h4, .ref h5, .ref h6, .ref h7, .ref h8, .ref h9, .ref h10, .ref h11, .ref h12, .int p2, .ref h13, .ref h14, .ref h15, .ref h16, .int 3, .int p4, .ref h17, .ref h18, .ref h19, .int p5, .ref h20, .int 68, .int p7, .ref h21, .ref h22, .ref h23, .ref h24, .ref h25, .ref h26, .ref h27, .ref h28, .int p8, .int p9, .ref h29, .ref h30, .ref h31, .ref h32, .ref h33, .ref h34, .ref h35, .ref h36, .int p10, .ref h37], la h20 k19 5 (vp_updL (vp_updL (vp_updL (vp_updL (vp_updL (vp_updL (vp_updL (vp_updL (vp_updL (vp_updL (vp_updL (vp_updL (vp_updL (vp_updL (vp_updL (vp_updL (vp_updL (vp_updL f19 0 0) 1 0) 2 0) 3 0) 4 0) 0 0) 0 0) 0 0) 0 0) 0 262144) 0 33816576) 0 4328783872) 0 554084597760) 0 70922828775424) 0 9078122083516416) 0 1161999626690363392) 0 ((1161999626690363392 : Int64) ||| ((64 : Int64) <<< (((61 : Int32) : Int32).toInt64 &&& 63)))) 1 ((0 : Int64) ||| (((64 : Int64).toUInt64 >>> (((3 : Int32) : Int32).toInt64.toUInt64 &&& Int64.toUInt64 63)).toInt64)))] H1 := hPD.1
  rw [show (((0 : Int64) ||| (((64 : Int64).toUInt64 >>> (((3 : Int32) : Int32).toInt64.toUInt64 &&& Int64.toUInt64 63)).toInt64) : Int64)) = 8 from by decide] at hP
  rw [show (((1161999626690363392 : Int64) ||| ((64 : Int64) <<< (((61 : Int32) : Int32).toInt64 &&& 63)) : Int64)) = 1161999626690363392 from by decide] at hP
  replace hD : dd A [h14, h0, h20] := dd_of hPD.2 rfl
  clear hPD
  revert H1 locs1
  intro H locs hS hP
  clear hw1 u
  refine tp_pc (pc' := 76) (by rfl) ?_
  refine lv_iinc (v := 8) (lv' := [(1, .int 8), (0, .ref h0)]) hx hb d_Ref_encode_76 hl (k := 0) rfl (by first | rfl | decide) (by decide) rfl ?_
  clear hl ls
  intro ls hl
  refine lv_goto (tgt := 52) hx hb d_Ref_encode_79 (by decide) ?_
  refine tp_pc (pc' := 52) (by rfl) ?_
  refine lv_iload_n hx hb d_Ref_encode_52 rfl (lv_at hl 0 rfl) ?_
  refine lv_bipush (v := 8) hx hb d_Ref_encode_53 (by decide) ?_
  refine lv_icmp_ge (tgt := 82) hx hb d_Ref_encode_55 (by decide) (fun c_32 => ?_) (fun c_32 => absurd c_32 (by decide))
  refine tp_pc (pc' := 82) (by rfl) ?_
  refine lv_aload_n hx hb d_Ref_encode_82 rfl (lv_at hl 1 rfl) ?_
  refine va_get (D := (dC, dI)) (ci := 8) (v := .int 3) (C := R_Ref) (T := F_Ref) (N := 48) hx hb hw i_Ref hown hK hP 1 rfl rfl 19 (by decide) (hw _ m_918) (fun _ h9 => h9) rfl d_Ref_encode_83 ?_
  refine lv_iconst (v := 3) hx hb d_Ref_encode_86 (by decide) ?_
  refine lv_icmp_ne (tgt := 95) hx hb d_Ref_encode_87 (by decide) (fun c_33 => absurd c_33 (by decide)) (fun c_33 => ?_)
  refine tp_pc (pc' := 90) (by rfl) ?_
  refine lv_aload_n hx hb d_Ref_encode_90 rfl (lv_at hl 1 rfl) ?_
  obtain ⟨hPc, hDc, hFc⟩ := cut3 (wc := [oc h0 8 [.int 0, .int p1, .ref h1, .ref h2, .ref h3, .ref h4, .ref h5, .ref h6, .ref h7, .ref h8, .ref h9, .ref h10, .ref h11, .ref h12, .int p2, .ref h13, .ref h14, .ref h15, .ref h16, .int 3, .int p4, .ref h17, .ref h18, .ref h19, .int p5, .ref h20, .int 68, .int p7, .ref h21, .ref h22, .ref h23, .ref h24, .ref h25, .ref h26, .ref h27, .ref h28, .int p8, .int p9, .ref h29, .ref h30, .ref h31, .ref h32, .ref h33, .ref h34, .ref h35, .ref h36, .int p10, .ref h37], ia h14 k13 155 (upd (upd (upd (upd (upd (upd (upd (upd (upd (upd (upd (upd (upd (upd (upd (upd (upd (upd (upd (upd (upd (upd (upd (upd (upd (upd (upd (upd (upd (upd (upd (upd (fun _ => 0) 37 1) 96 1) 97 2) 98 3) 38 1) 49 1) 140 1) 100 1) 144 1) 101 2) 148 1) 102 3) 152 1) 39 1) 57 2) 141 2) 104 1) 145 2) 105 2) 149 2) 106 3) 153 2) 40 1) 65 3) 142 3) 108 1) 146 3) 109 2) 150 3) 110 3) 154 3) 15 4), la h20 k19 5 (vp_updL (vp_updL (vp_updL (vp_updL (vp_updL (vp_updL (vp_updL (vp_updL (vp_updL (vp_updL (vp_updL (vp_updL (vp_updL (vp_updL (vp_updL (vp_updL (vp_updL (vp_updL f19 0 0) 1 0) 2 0) 3 0) 4 0) 0 0) 0 0) 0 0) 0 0) 0 262144) 0 33816576) 0 4328783872) 0 554084597760) 0 70922828775424) 0 9078122083516416) 0 1161999626690363392) 0 1161999626690363392) 1 8)]) hP hD rfl hS hA [1, 0, 2] (by decide +kernel) rfl
  have hKc := hK.sub (tys' := [(k13, .int), (k19, .long)]) [0, 1] rfl
  refine va_callv (va_runV (As := []) (rest := []) ⟨hx, hb, hml, hown, hw⟩ (c_Ref_encodeRows l dC dI h0 p1 h1 h2 h3 h4 h5 h6 h7 h8 h9 h10 h11 h12 p2 h13 h14 h15 h16 3 p4 h17 h18 h19 p5 h20 p7 h21 h22 h23 h24 h25 h26 h27 h28 p8 p9 h29 h30 h31 h32 h33 h34 h35 h36 p10 h37 k13 k19 (vp_updL (vp_updL (vp_updL (vp_updL (vp_updL (vp_updL (vp_updL (vp_updL (vp_updL (vp_updL (vp_updL (vp_updL (vp_updL (vp_updL (vp_updL (vp_updL (vp_updL (vp_updL f19 0 0) 1 0) 2 0) 3 0) 4 0) 0 0) 0 0) 0 0) 0 0) 0 262144) 0 33816576) 0 4328783872) 0 554084597760) 0 70922828775424) 0 9078122083516416) 0 1161999626690363392) 0 1161999626690363392) 1 8) H.size) (cw_V 0 hw g_Ref_encodeRows rfl rfl rfl (hw _ m_109) (hw _ m_1097) (hw _ m_1099) (hw _ m_59) (by decide +kernel) ⟨Nat.le_of_ble_eq_true rfl, Nat.le_of_ble_eq_true rfl⟩) ⟨fun a U g mk q => by obtain ⟨q0, q1, qP, qK, qD, qN⟩ := q; exact ⟨q0, q1, qP, va_K.moved (u := U) (U := U.calling g mk a) (Vm.Alike.refl U.vm) qK, qD, nw_call qN⟩, va_recv hKc hPc (ci := 8) (q0 := 0) rfl rfl, fun U hU hW => ⟨rfl, by rw [hU], by rw [hU]; exact hPc, va_K.moved hW.alike hKc, hDc.weaken (fun _ _ _ _ => trivial), nw_warm hW hn⟩⟩ rfl rfl hl.1 rfl (lv_room (Nat.le_of_ble_eq_true rfl)) d_Ref_encode_91 ⟨Nat.le_of_ble_eq_true rfl, Nat.le_of_ble_eq_true rfl⟩) hS (fun q _ h => hFc q h) hFc ?_
  intro u t H1 locs1 ht hvm hw1 hB hz1 hk1 hS1
  obtain ⟨hP1, hK1, hD1⟩ := hB
  rw [ht] at hP1
  replace hK1 := va_K.moved hvm.symm hK1
  have hPD := join3 hP hD rfl [1, 0, 2] [] rfl (by rfl) (by decide +kernel) (by decide +kernel) hk1 hFc hP1 hD1
  replace hK : va_K (dC, dI) classes [(k13, .int), (k19, .long)] s := hK.app hK1
  clear hP1 hK1 hD1 hk1 hz1 hFc hKc hDc hPc hvm ht hP hS t locs H
  have hP : va_P (dC, dI) classes [oc h0 8 [.int 0, .int p1, .ref h1, .ref h2, .ref h3, .ref h4, .ref h5, .ref h6, .ref h7, .ref h8, .ref h9, .ref h10, .ref h11, .ref h12, .int p2, .ref h13, .ref h14, .ref h15, .ref h16, .int 3, .int p4, .ref h17, .ref h18, .ref h19, .int p5, .ref h20, .int 84, .int p7, .ref h21, .ref h22, .ref h23, .ref h24, .ref h25, .ref h26, .ref h27, .ref h28, .int p8, .int p9, .ref h29, .ref h30, .ref h31, .ref h32, .ref h33, .ref h34, .ref h35, .ref h36, .int p10, .ref h37], ia h14 k13 155 (upd (upd (upd (upd (upd (upd (upd (upd (upd (upd (upd (upd (upd (upd (upd (upd (upd (upd (upd (upd (upd (upd (upd (upd (upd (upd (upd (upd (upd (upd (upd (upd (fun _ => 0) 37 1) 96 1) 97 2) 98 3) 38 1) 49 1) 140 1) 100 1) 144 1) 101 2) 148 1) 102 3) 152 1) 39 1) 57 2) 141 2) 104 1) 145 2) 105 2) 149 2) 106 3) 153 2) 40 1) 65 3) 142 3) 108 1) 146 3) 109 2) 150 3) 110 3) 154 3) 15 4), la h20 k19 5 (vp_updL (vp_updL (vp_updL (vp_updL (vp_updL (vp_updL (vp_updL (vp_updL (vp_updL (vp_updL (vp_updL (vp_updL (vp_updL (vp_updL (vp_updL (vp_updL (vp_updL (vp_updL (vp_updL (vp_updL (vp_updL (vp_updL f19 0 0) 1 0) 2 0) 3 0) 4 0) 0 0) 0 0) 0 0) 0 0) 0 262144) 0 33816576) 0 4328783872) 0 554084597760) 0 70922828775424) 0 9078122083516416) 0 1161999626690363392) 0 1161999626690363392) 1 8) 1 ((8 : Int64) ||| (16 : Int64))) 1 (((8 : Int64) ||| (16 : Int64)) ||| (256 : Int64))) 1 ((((8 : Int64) ||| (16 : Int64)) ||| (256 : Int64)) ||| (4096 : Int64))) 1 (((((8 : Int64) ||| (16 : Int64)) ||| (256 : Int64)) ||| (4096 : Int64)) ||| (65536 : Int64)))] H1 := hPD.1
  rw [show ((((((8 : Int64) ||| (16 : Int64)) ||| (256 : Int64)) ||| (4096 : Int64)) ||| (65536 : Int64) : Int64)) = 69912 from by decide] at hP
  rw [show (((((8 : Int64) ||| (16 : Int64)) ||| (256 : Int64)) ||| (4096 : Int64) : Int64)) = 4376 from by decide] at hP
  rw [show ((((8 : Int64) ||| (16 : Int64)) ||| (256 : Int64) : Int64)) = 280 from by decide] at hP
  rw [show (((8 : Int64) ||| (16 : Int64) : Int64)) = 24 from by decide] at hP
  replace hD : dd A [h0, h14, h20] := dd_of hPD.2 rfl
  clear hPD
  revert H1 locs1
  intro H locs hS hP
  clear hw1 u
  refine tp_pc (pc' := 94) (by rfl) ?_
  obtain ⟨hP9, hD9, -⟩ := cut3 (wc := [oc h0 8 [.int 0, .int p1, .ref h1, .ref h2, .ref h3, .ref h4, .ref h5, .ref h6, .ref h7, .ref h8, .ref h9, .ref h10, .ref h11, .ref h12, .int p2, .ref h13, .ref h14, .ref h15, .ref h16, .int 3, .int p4, .ref h17, .ref h18, .ref h19, .int p5, .ref h20, .int 84, .int p7, .ref h21, .ref h22, .ref h23, .ref h24, .ref h25, .ref h26, .ref h27, .ref h28, .int p8, .int p9, .ref h29, .ref h30, .ref h31, .ref h32, .ref h33, .ref h34, .ref h35, .ref h36, .int p10, .ref h37], ia h14 k13 155 (upd (upd (upd (upd (upd (upd (upd (upd (upd (upd (upd (upd (upd (upd (upd (upd (upd (upd (upd (upd (upd (upd (upd (upd (upd (upd (upd (upd (upd (upd (upd (upd (fun _ => 0) 37 1) 96 1) 97 2) 98 3) 38 1) 49 1) 140 1) 100 1) 144 1) 101 2) 148 1) 102 3) 152 1) 39 1) 57 2) 141 2) 104 1) 145 2) 105 2) 149 2) 106 3) 153 2) 40 1) 65 3) 142 3) 108 1) 146 3) 109 2) 150 3) 110 3) 154 3) 15 4), la h20 k19 5 (vp_updL (vp_updL (vp_updL (vp_updL (vp_updL (vp_updL (vp_updL (vp_updL (vp_updL (vp_updL (vp_updL (vp_updL (vp_updL (vp_updL (vp_updL (vp_updL (vp_updL (vp_updL (vp_updL (vp_updL (vp_updL (vp_updL f19 0 0) 1 0) 2 0) 3 0) 4 0) 0 0) 0 0) 0 0) 0 0) 0 262144) 0 33816576) 0 4328783872) 0 554084597760) 0 70922828775424) 0 9078122083516416) 0 1161999626690363392) 0 1161999626690363392) 1 8) 1 24) 1 280) 1 4376) 1 69912)]) hP hD rfl hS hA [0, 1, 2] (by decide +kernel) rfl
  have hK9 := hK.sub (tys' := []) [] rfl
  refine W.widen (k := 0) (n := 0) (by exact Nat.le_of_ble_eq_true rfl) (by exact Nat.le_of_ble_eq_true rfl) ?_
  exact W.vret hx hb hr (fun t ht hW => ⟨⟨(), rfl, trivial, by rw [ht]; exact hP9, va_K.moved hW.alike hK9, hD9⟩, hS.F ht⟩) hS.2.2 d_Ref_encode_94
