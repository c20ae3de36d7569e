set_option maxHeartbeats 4000000 in
set_option maxRecDepth 100000 in
theorem c_Ref_beginState_v4 (l : Launch) (dC : Nat → ClassId) (dI : Nat → Nat → Nat) (h0 : Nat) (p0 : Int32) (p1 : Int32) (h1 : Nat) (h2 : Nat) (h3 : Nat) (h4 : Nat) (h5 : Nat) (h6 : Nat) (h7 : Nat) (h8 : Nat) (h9 : Nat) (h10 : Nat) (h11 : Nat) (h12 : Nat) (p2 : Int32) (h13 : Nat) (h14 : Nat) (h15 : Nat) (h16 : Nat) (p4 : Int32) (h17 : Nat) (h18 : Nat) (h19 : Nat) (p5 : Int32) (h20 : Nat) (p6 : Int32) (p7 : Int32) (h21 : Nat) (h22 : Nat) (h23 : Nat) (h24 : Nat) (h25 : Nat) (h26 : Nat) (h27 : Nat) (h28 : Nat) (p8 : Int32) (p9 : Int32) (h29 : Nat) (h30 : Nat) (h31 : Nat) (h32 : Nat) (h33 : Nat) (h34 : Nat) (h35 : Nat) (h36 : Nat) (p10 : Int32) (h37 : Nat) (k13 : ClassId) (f13 : Nat → Int32) (sz : Nat) : Met l y_Ref_beginState w_Ref_beginState ({ frames := 0, cells := 0, slots := 0, locals := 0 }) (va_Pc [.ref h0] (fun U => U.heap.size = sz ∧ va_P (dC, dI) classes [oc h0 8 [.int p0, .int p1, .ref h1, .ref h2, .ref h3, .ref h4, .ref h5, .ref h6, .ref h7, .ref h8, .ref h9, .ref h10, .ref h11, .ref h12, .int p2, .ref h13, .ref h14, .ref h15, .ref h16, .int 3, .int p4, .ref h17, .ref h18, .ref h19, .int p5, .ref h20, .int p6, .int p7, .ref h21, .ref h22, .ref h23, .ref h24, .ref h25, .ref h26, .ref h27, .ref h28, .int p8, .int p9, .ref h29, .ref h30, .ref h31, .ref h32, .ref h33, .ref h34, .ref h35, .ref h36, .int p10, .ref h37], ia h14 k13 155 f13] U.heap ∧ va_K (dC, dI) classes [(k13, .int)] U ∧ va_D (fun _ => True) [oc h0 8 [.int p0, .int p1, .ref h1, .ref h2, .ref h3, .ref h4, .ref h5, .ref h6, .ref h7, .ref h8, .ref h9, .ref h10, .ref h11, .ref h12, .int p2, .ref h13, .ref h14, .ref h15, .ref h16, .int 3, .int p4, .ref h17, .ref h18, .ref h19, .int p5, .ref h20, .int p6, .int p7, .ref h21, .ref h22, .ref h23, .ref h24, .ref h25, .ref h26, .ref h27, .ref h28, .int p8, .int p9, .ref h29, .ref h30, .ref h31, .ref h32, .ref h33, .ref h34, .ref h35, .ref h36, .int p10, .ref h37], ia h14 k13 155 f13] ∧ nw U)) (va_Qv (fun _ : Unit => True) (fun _ t => va_P (dC, dI) classes [oc h0 8 [.int p0, .int p1, .ref h1, .ref h2, .ref h3, .ref h4, .ref h5, .ref h6, .ref h7, .ref h8, .ref h9, .ref h10, .ref h11, .ref h12, .int p2, .ref h13, .ref h14, .ref h15, .ref h16, .int 3, .int p4, .ref h17, .ref h18, .ref h19, .int p5, .ref h20, .int p6, .int p7, .ref h21, .ref h22, .ref h23, .ref h24, .ref h25, .ref h26, .ref h27, .ref h28, .int p8, .int p9, .ref h29, .ref h30, .ref h31, .ref h32, .ref h33, .ref h34, .ref h35, .ref h36, .int p10, .ref h37], ia h14 k13 155 (upd (upd (upd (upd (upd (upd (upd (upd (upd (upd (upd (upd (upd (upd (upd (upd (upd (upd (upd (upd (upd (upd (upd (upd (upd (upd (upd (upd (upd (upd (upd (upd (fun _ => 0) 37 1) 96 1) 97 2) 98 3) 38 1) 49 1) 140 1) 100 1) 144 1) 101 2) 148 1) 102 3) 152 1) 39 1) 57 2) 141 2) 104 1) 145 2) 105 2) 149 2) 106 3) 153 2) 40 1) 65 3) 142 3) 108 1) 146 3) 109 2) 150 3) 110 3) 154 3) 15 4)] t.heap ∧ va_K (dC, dI) classes [] t ∧ va_D (va_A [oc h0 8 [.int p0, .int p1, .ref h1, .ref h2, .ref h3, .ref h4, .ref h5, .ref h6, .ref h7, .ref h8, .ref h9, .ref h10, .ref h11, .ref h12, .int p2, .ref h13, .ref h14, .ref h15, .ref h16, .int 3, .int p4, .ref h17, .ref h18, .ref h19, .int p5, .ref h20, .int p6, .int p7, .ref h21, .ref h22, .ref h23, .ref h24, .ref h25, .ref h26, .ref h27, .ref h28, .int p8, .int p9, .ref h29, .ref h30, .ref h31, .ref h32, .ref h33, .ref h34, .ref h35, .ref h36, .int p10, .ref h37], ia h14 k13 155 f13] sz) [oc h0 8 [.int p0, .int p1, .ref h1, .ref h2, .ref h3, .ref h4, .ref h5, .ref h6, .ref h7, .ref h8, .ref h9, .ref h10, .ref h11, .ref h12, .int p2, .ref h13, .ref h14, .ref h15, .ref h16, .int 3, .int p4, .ref h17, .ref h18, .ref h19, .int p5, .ref h20, .int p6, .int p7, .ref h21, .ref h22, .ref h23, .ref h24, .ref h25, .ref h26, .ref h27, .ref h28, .int p8, .int p9, .ref h29, .ref h30, .ref h31, .ref h32, .ref h33, .ref h34, .ref h35, .ref h36, .int p10, .ref h37], ia h14 k13 155 (upd (upd (upd (upd (upd (upd (upd (upd (upd (upd (upd (upd (upd (upd (upd (upd (upd (upd (upd (upd (upd (upd (upd (upd (upd (upd (upd (upd (upd (upd (upd (upd (fun _ => 0) 37 1) 96 1) 97 2) 98 3) 38 1) 49 1) 140 1) 100 1) 144 1) 101 2) 148 1) 102 3) 152 1) 39 1) 57 2) 141 2) 104 1) 145 2) 105 2) 149 2) 106 3) 153 2) 40 1) 65 3) 142 3) 108 1) 146 3) 109 2) 150 3) 110 3) 154 3) 15 4)]) (va_A [oc h0 8 [.int p0, .int p1, .ref h1, .ref h2, .ref h3, .ref h4, .ref h5, .ref h6, .ref h7, .ref h8, .ref h9, .ref h10, .ref h11, .ref h12, .int p2, .ref h13, .ref h14, .ref h15, .ref h16, .int 3, .int p4, .ref h17, .ref h18, .ref h19, .int p5, .ref h20, .int p6, .int p7, .ref h21, .ref h22, .ref h23, .ref h24, .ref h25, .ref h26, .ref h27, .ref h28, .int p8, .int p9, .ref h29, .ref h30, .ref h31, .ref h32, .ref h33, .ref h34, .ref h35, .ref h36, .int p10, .ref h37], ia h14 k13 155 f13] sz)) 0 0 (va_A [oc h0 8 [.int p0, .int p1, .ref h1, .ref h2, .ref h3, .ref h4, .ref h5, .ref h6, .ref h7, .ref h8, .ref h9, .ref h10, .ref h11, .ref h12, .int p2, .ref h13, .ref h14, .ref h15, .ref h16, .int 3, .int p4, .ref h17, .ref h18, .ref h19, .int p5, .ref h20, .int p6, .int p7, .ref h21, .ref h22, .ref h23, .ref h24, .ref h25, .ref h26, .ref h27, .ref h28, .int p8, .int p9, .ref h29, .ref h30, .ref h31, .ref h32, .ref h33, .ref h34, .ref h35, .ref h36, .int p10, .ref h37], ia h14 k13 155 f13] sz) := by
  refine Met.ofW (cc := b_Ref_beginState) (maxL := 3) (ret := none) (by decide) rfl ?_
  intro p e s m args below meth c s₁ B hml hv
  obtain ⟨rfl, hsz, hP, hK, hD0, hn⟩ := hv
  have hx := B.exec
  have hb := B.bytes
  have hr := B.returns
  have hw := fun w (h : w ∈ wt) => atoms_spec (ws := w_Ref_beginState) B.pre w (List.mem_cons_of_mem _ h)
  have hown : s.vm.findClass R_Ref = some m.cls := findClass_of_methodNamed B.named
  have hlocks := B.notSynchronized
  subst hsz
  have hD1 := hD0.self (sz := s.heap.size)
  generalize hAe : va_A [oc h0 8 [.int p0, .int p1, .ref h1, .ref h2, .ref h3, .ref h4, .ref h5, .ref h6, .ref h7, .ref h8, .ref h9, .ref h10, .ref h11, .ref h12, .int p2, .ref h13, .ref h14, .ref h15, .ref h16, .int 3, .int p4, .ref h17, .ref h18, .ref h19, .int p5, .ref h20, .int p6, .int p7, .ref h21, .ref h22, .ref h23, .ref h24, .ref h25, .ref h26, .ref h27, .ref h28, .int p8, .int p9, .ref h29, .ref h30, .ref h31, .ref h32, .ref h33, .ref h34, .ref h35, .ref h36, .int p10, .ref h37], ia h14 k13 155 f13] s.heap.size = A at hD1 ⊢
  have hA : ∀ q : Nat, s.heap.size ≤ q → A q := fun q h => by rw [← hAe]; exact Or.inr h
  have hD : dd A [h0, h14] := dd_of hD1 rfl
  clear hAe hD0 hD1
  have hS : va_S A s.heap s.heap [] := va_S.rf
  replace hP : va_P (dC, dI) classes [oc h0 8 [.int p0, .int p1, .ref h1, .ref h2, .ref h3, .ref h4, .ref h5, .ref h6, .ref h7, .ref h8, .ref h9, .ref h10, .ref h11, .ref h12, .int p2, .ref h13, .ref h14, .ref h15, .ref h16, .int 3, .int p4, .ref h17, .ref h18, .ref h19, .int p5, .ref h20, .int p6, .int p7, .ref h21, .ref h22, .ref h23, .ref h24, .ref h25, .ref h26, .ref h27, .ref h28, .int p8, .int p9, .ref h29, .ref h30, .ref h31, .ref h32, .ref h33, .ref h34, .ref h35, .ref h36, .int p10, .ref h37], ia h14 k13 155 f13] s.heap := hP
  have hl := lv_entry ([.ref h0]) (n := 3) (Nat.le_of_ble_eq_true rfl)
  rw [lg_entry_eq]
  generalize (lg_sl ([.ref h0]) ++ List.replicate (3 - (lg_sl ([.ref h0])).length) Slot.unset).toArray = ls at hl ⊢
  replace hl : lv_has ls 3 [(0, .ref h0)] := hl
  refine lv_iconst (v := 0) hx hb d_Ref_beginState_0 (by decide) ?_
  refine lv_istore_n (lv' := [(1, .int 0), (0, .ref h0)]) hx hb d_Ref_beginState_1 rfl hl (by decide) rfl ?_
  clear hl ls
  intro ls hl
  refine lp_n 155 (fun i H locs ls => ∃ g : Nat → Int32, (∀ j, j < i → g j = 0) ∧ va_P (dC, dI) classes [oc h0 8 [.int p0, .int p1, .ref h1, .ref h2, .ref h3, .ref h4, .ref h5, .ref h6, .ref h7, .ref h8, .ref h9, .ref h10, .ref h11, .ref h12, .int p2, .ref h13, .ref h14, .ref h15, .ref h16, .int 3, .int p4, .ref h17, .ref h18, .ref h19, .int p5, .ref h20, .int p6, .int p7, .ref h21, .ref h22, .ref h23, .ref h24, .ref h25, .ref h26, .ref h27, .ref h28, .int p8, .int p9, .ref h29, .ref h30, .ref h31, .ref h32, .ref h33, .ref h34, .ref h35, .ref h36, .int p10, .ref h37], ia h14 k13 155 g] H ∧ va_S A s.heap H locs ∧ lv_has ls 3 [(1, .int (nI i)), (0, .ref h0)]) ⟨f13, fun j hj => absurd hj (Nat.not_lt_zero j), hP, hS, hl⟩ ?_ ?_
  · intro i H locs ls hi hI ih
    obtain ⟨g, hg, hP, hS, hl⟩ := hI
    refine lv_iload_n hx hb d_Ref_beginState_2 rfl (lv_at hl 0 rfl) ?_
    refine lv_sipush (v := 155) hx hb d_Ref_beginState_3 (by decide) ?_
    refine lv_icmp_ge (tgt := 22) hx hb d_Ref_beginState_6 (by decide) (fun c9 => absurd c9 (nI_ge hi (by decide))) (fun _ => ?_)
    refine lv_aload_n hx hb d_Ref_beginState_9 rfl (lv_at hl 1 rfl) ?_
    refine va_get (D := (dC, dI)) (ci := 8) (v := .ref h14) (C := R_Ref) (T := F_Ref) (N := 48) hx hb hw i_Ref hown hK hP 0 rfl rfl 16 (by decide) (hw _ m_915) (fun _ h9 => h9) rfl d_Ref_beginState_10 ?_
    refine lv_iload_n hx hb d_Ref_beginState_13 rfl (lv_at hl 0 rfl) ?_
    refine lv_iconst (v := 0) hx hb d_Ref_beginState_14 (by decide) ?_
    refine va_iast (D := (dC, dI)) hx hb hK hP (dd_D hD rfl) hS 1 0 rfl rfl (i := nI i) (x := 0) (vp_in_nI hi (by decide)) d_Ref_beginState_15 ?_
    intro H locs hP _ hS
    rw [nI_clamp (Nat.lt_trans hi (by decide))] at hP
    refine lv_iinc (v := nI (i + 1)) (lv' := [(1, .int (nI (i + 1))), (0, .ref h0)]) hx hb d_Ref_beginState_16 hl (k := 0) rfl (nI_1 i) (by decide) rfl ?_
    intro ls hl
    refine lv_goto (tgt := 2) hx hb d_Ref_beginState_19 (by decide) ?_
    exact ih _ _ _ ⟨upd g i 0, fun j hj => by by_cases e9 : j = i; (subst e9; simp [upd]); (simp [upd, e9]; exact hg j (by omega)), hP, hS, lv_sub hl [0, 1] rfl⟩
  · intro H locs ls hI
    obtain ⟨g, hg, hP, hS, hl⟩ := hI
    replace hP : va_P (dC, dI) classes [oc h0 8 [.int p0, .int p1, .ref h1, .ref h2, .ref h3, .ref h4, .ref h5, .ref h6, .ref h7, .ref h8, .ref h9, .ref h10, .ref h11, .ref h12, .int p2, .ref h13, .ref h14, .ref h15, .ref h16, .int 3, .int p4, .ref h17, .ref h18, .ref h19, .int p5, .ref h20, .int p6, .int p7, .ref h21, .ref h22, .ref h23, .ref h24, .ref h25, .ref h26, .ref h27, .ref h28, .int p8, .int p9, .ref h29, .ref h30, .ref h31, .ref h32, .ref h33, .ref h34, .ref h35, .ref h36, .int p10, .ref h37], ia h14 k13 155 (fun _ => 0)] H := P_cg 1 rfl hg hP
    replace hl : lv_has ls 3 [(1, .int 155), (0, .ref h0)] := hl
    refine lv_iload_n hx hb d_Ref_beginState_2 rfl (lv_at hl 0 rfl) ?_
    refine lv_sipush (v := 155) hx hb d_Ref_beginState_3 (by decide) ?_
    refine lv_icmp_ge (tgt := 22) hx hb d_Ref_beginState_6 (by decide) (fun c_1 => ?_) (fun c_1 => absurd c_1 (by decide))
    refine tp_pc (pc' := 22) (by rfl) ?_
    refine lv_aload_n hx hb d_Ref_beginState_22 rfl (lv_at hl 1 rfl) ?_
    refine va_get (D := (dC, dI)) (ci := 8) (v := .int 3) (C := R_Ref) (T := F_Ref) (N := 48) hx hb hw i_Ref hown hK hP 0 rfl rfl 19 (by decide) (hw _ m_918) (fun _ h9 => h9) rfl d_Ref_beginState_23 ?_
    refine lv_iconst (v := 3) hx hb d_Ref_beginState_26 (by decide) ?_
    refine lv_icmp_ne (tgt := 116) hx hb d_Ref_beginState_27 (by decide) (fun c_2 => absurd c_2 (by decide)) (fun c_2 => ?_)
    refine tp_pc (pc' := 30) (by rfl) ?_
    refine lv_iconst (v := 0) hx hb d_Ref_beginState_30 (by decide) ?_
    refine lv_istore_n (lv' := [(1, .int 0), (0, .ref h0)]) hx hb d_Ref_beginState_31 rfl hl (by decide) rfl ?_
    clear hl ls
    intro ls hl
    refine lv_iload_n hx hb d_Ref_beginState_32 rfl (lv_at hl 0 rfl) ?_
    refine lv_iconst (v := 4) hx hb d_Ref_beginState_33 (by decide) ?_
    refine lv_icmp_ge (tgt := 108) hx hb d_Ref_beginState_34 (by decide) (fun c_3 => absurd c_3 (by decide)) (fun c_3 => ?_)
    refine tp_pc (pc' := 37) (by rfl) ?_
    refine lv_aload_n hx hb d_Ref_beginState_37 rfl (lv_at hl 1 rfl) ?_
    refine va_get (D := (dC, dI)) (ci := 8) (v := .ref h14) (C := R_Ref) (T := F_Ref) (N := 48) hx hb hw i_Ref hown hK hP 0 rfl rfl 16 (by decide) (hw _ m_915) (fun _ h9 => h9) rfl d_Ref_beginState_38 ?_
    refine lv_bipush (v := 37) hx hb d_Ref_beginState_41 (by decide) ?_
    refine lv_iload_n hx hb d_Ref_beginState_43 rfl (lv_at hl 0 rfl) ?_
    refine lv_iadd hx hb d_Ref_beginState_44 ?_
    refine tp_i (y := 37) (by first | rfl | decide) ?_
    refine lv_iconst (v := 1) hx hb d_Ref_beginState_45 (by decide) ?_
    refine va_iast (D := (dC, dI)) hx hb hK hP (dd_D hD rfl) hS 1 0 rfl rfl (i := 37) (x := 1) (vp_c (by decide)) d_Ref_beginState_46 ?_
    clear hP hS locs H
    intro H locs (hP : va_P (dC, dI) classes [oc h0 8 [.int p0, .int p1, .ref h1, .ref h2, .ref h3, .ref h4, .ref h5, .ref h6, .ref h7, .ref h8, .ref h9, .ref h10, .ref h11, .ref h12, .int p2, .ref h13, .ref h14, .ref h15, .ref h16, .int 3, .int p4, .ref h17, .ref h18, .ref h19, .int p5, .ref h20, .int p6, .int p7, .ref h21, .ref h22, .ref h23, .ref h24, .ref h25, .ref h26, .ref h27, .ref h28, .int p8, .int p9, .ref h29, .ref h30, .ref h31, .ref h32, .ref h33, .ref h34, .ref h35, .ref h36, .int p10, .ref h37], ia h14 k13 155 (upd (fun _ => 0) 37 1)] H) _ hS
    refine tp_pc (pc' := 47) (by rfl) ?_
    refine lv_aload_n hx hb d_Ref_beginState_47 rfl (lv_at hl 1 rfl) ?_
    refine va_get (D := (dC, dI)) (ci := 8) (v := .ref h14) (C := R_Ref) (T := F_Ref) (N := 48) hx hb hw i_Ref hown hK hP 0 rfl rfl 16 (by decide) (hw _ m_915) (fun _ h9 => h9) rfl d_Ref_beginState_48 ?_
    refine lv_bipush (v := 41) hx hb d_Ref_beginState_51 (by decide) ?_
    refine lv_bipush (v := 8) hx hb d_Ref_beginState_53 (by decide) ?_
    refine lv_iload_n hx hb d_Ref_beginState_55 rfl (lv_at hl 0 rfl) ?_
    refine lv_imul hx hb d_Ref_beginState_56 ?_
    refine tp_i (y := 0) (by first | rfl | decide) ?_
    refine lv_iadd hx hb d_Ref_beginState_57 ?_
    refine tp_i (y := 41) (by first | rfl | decide) ?_
    refine lv_iload_n hx hb d_Ref_beginState_58 rfl (lv_at hl 0 rfl) ?_
    refine va_iast (D := (dC, dI)) hx hb hK hP (dd_D hD rfl) hS 1 0 rfl rfl (i := 41) (x := 0) (vp_c (by decide)) d_Ref_beginState_59 ?_
    clear hP hS locs H
    intro H locs hP _ hS
    replace hP : va_P (dC, dI) classes [oc h0 8 [.int p0, .int p1, .ref h1, .ref h2, .ref h3, .ref h4, .ref h5, .ref h6, .ref h7, .ref h8, .ref h9, .ref h10, .ref h11, .ref h12, .int p2, .ref h13, .ref h14, .ref h15, .ref h16, .int 3, .int p4, .ref h17, .ref h18, .ref h19, .int p5, .ref h20, .int p6, .int p7, .ref h21, .ref h22, .ref h23, .ref h24, .ref h25, .ref h26, .ref h27, .ref h28, .int p8, .int p9, .ref h29, .ref h30, .ref h31, .ref h32, .ref h33, .ref h34, .ref h35, .ref h36, .int p10, .ref h37], ia h14 k13 155 (upd (fun _ => 0) 37 1)] H := P_cg 1 rfl (up_pt (by first | rfl | decide)) hP
    refine tp_pc (pc' := 60) (by rfl) ?_
    refine lv_iconst (v := 0) hx hb d_Ref_beginState_60 (by decide) ?_
    refine lv_istore_n (lv' := [(2, .int 0), (1, .int 0), (0, .ref h0)]) hx hb d_Ref_beginState_61 rfl hl (by decide) rfl ?_
    clear hl ls
    intro ls hl
    refine lv_iload_n hx hb d_Ref_beginState_62 rfl (lv_at hl 0 rfl) ?_
    refine lv_iconst (v := 4) hx hb d_Ref_beginState_63 (by decide) ?_
    refine lv_icmp_ge (tgt := 102) hx hb d_Ref_beginState_64 (by decide) (fun c_4 => absurd c_4 (by decide)) (fun c_4 => ?_)
    refine tp_pc (pc' := 67) (by rfl) ?_
    refine lv_aload_n hx hb d_Ref_beginState_67 rfl (lv_at hl 2 rfl) ?_
    refine va_get (D := (dC, dI)) (ci := 8) (v := .ref h14) (C := R_Ref) (T := F_Ref) (N := 48) hx hb hw i_Ref hown hK hP 0 rfl rfl 16 (by decide) (hw _ m_915) (fun _ h9 => h9) rfl d_Ref_beginState_68 ?_
    refine lv_bipush (v := 95) hx hb d_Ref_beginState_71 (by decide) ?_
    refine lv_iconst (v := 4) hx hb d_Ref_beginState_73 (by decide) ?_
    refine lv_iload_n hx hb d_Ref_beginState_74 rfl (lv_at hl 1 rfl) ?_
    refine lv_imul hx hb d_Ref_beginState_75 ?_
    refine tp_i (y := 0) (by first | rfl | decide) ?_
    refine lv_iadd hx hb d_Ref_beginState_76 ?_
    refine tp_i (y := 95) (by first | rfl | decide) ?_
    refine lv_iload_n hx hb d_Ref_beginState_77 rfl (lv_at hl 0 rfl) ?_
    refine lv_iadd hx hb d_Ref_beginState_78 ?_
    refine tp_i (y := 95) (by first | rfl | decide) ?_
    refine lv_iload_n hx hb d_Ref_beginState_79 rfl (lv_at hl 0 rfl) ?_
    refine va_iast (D := (dC, dI)) hx hb hK hP (dd_D hD rfl) hS 1 0 rfl rfl (i := 95) (x := 0) (vp_c (by decide)) d_Ref_beginState_80 ?_
    clear hP hS locs H
    intro H locs hP _ hS
    replace hP : va_P (dC, dI) classes [oc h0 8 [.int p0, .int p1, .ref h1, .ref h2, .ref h3, .ref h4, .ref h5, .ref h6, .ref h7, .ref h8, .ref h9, .ref h10, .ref h11, .ref h12, .int p2, .ref h13, .ref h14, .ref h15, .ref h16, .int 3, .int p4, .ref h17, .ref h18, .ref h19, .int p5, .ref h20, .int p6, .int p7, .ref h21, .ref h22, .ref h23, .ref h24, .ref h25, .ref h26, .ref h27, .ref h28, .int p8, .int p9, .ref h29, .ref h30, .ref h31, .ref h32, .ref h33, .ref h34, .ref h35, .ref h36, .int p10, .ref h37], ia h14 k13 155 (upd (fun _ => 0) 37 1)] H := P_cg 1 rfl (up_pt (by first | rfl | decide)) hP
    refine tp_pc (pc' := 81) (by rfl) ?_
    refine lv_aload_n hx hb d_Ref_beginState_81 rfl (lv_at hl 2 rfl) ?_
    refine va_get (D := (dC, dI)) (ci := 8) (v := .ref h14) (C := R_Ref) (T := F_Ref) (N := 48) hx hb hw i_Ref hown hK hP 0 rfl rfl 16 (by decide) (hw _ m_915) (fun _ h9 => h9) rfl d_Ref_beginState_82 ?_
    refine lv_sipush (v := 139) hx hb d_Ref_beginState_85 (by decide) ?_
    refine lv_iconst (v := 4) hx hb d_Ref_beginState_88 (by decide) ?_
    refine lv_iload_n hx hb d_Ref_beginState_89 rfl (lv_at hl 0 rfl) ?_
    refine lv_imul hx hb d_Ref_beginState_90 ?_
    refine tp_i (y := 0) (by first | rfl | decide) ?_
    refine lv_iadd hx hb d_Ref_beginState_91 ?_
    refine tp_i (y := 139) (by first | rfl | decide) ?_
    refine lv_iload_n hx hb d_Ref_beginState_92 rfl (lv_at hl 1 rfl) ?_
    refine lv_iadd hx hb d_Ref_beginState_93 ?_
    refine tp_i (y := 139) (by first | rfl | decide) ?_
    refine lv_iload_n hx hb d_Ref_beginState_94 rfl (lv_at hl 1 rfl) ?_
    refine va_iast (D := (dC, dI)) hx hb hK hP (dd_D hD rfl) hS 1 0 rfl rfl (i := 139) (x := 0) (vp_c (by decide)) d_Ref_beginState_95 ?_
    clear hP hS locs H
    intro H locs hP _ hS
    replace hP : va_P (dC, dI) classes [oc h0 8 [.int p0, .int p1, .ref h1, .ref h2, .ref h3, .ref h4, .ref h5, .ref h6, .ref h7, .ref h8, .ref h9, .ref h10, .ref h11, .ref h12, .int p2, .ref h13, .ref h14, .ref h15, .ref h16, .int 3, .int p4, .ref h17, .ref h18, .ref h19, .int p5, .ref h20, .int p6, .int p7, .ref h21, .ref h22, .ref h23, .ref h24, .ref h25, .ref h26, .ref h27, .ref h28, .int p8, .int p9, .ref h29, .ref h30, .ref h31, .ref h32, .ref h33, .ref h34, .ref h35, .ref h36, .int p10, .ref h37], ia h14 k13 155 (upd (fun _ => 0) 37 1)] H := P_cg 1 rfl (up_pt (by first | rfl | decide)) hP
    refine tp_pc (pc' := 96) (by rfl) ?_
    refine lv_iinc (v := 1) (lv' := [(2, .int 1), (1, .int 0), (0, .ref h0)]) hx hb d_Ref_beginState_96 hl (k := 0) rfl (by first | rfl | decide) (by decide) rfl ?_
    clear hl ls
    intro ls hl
    refine lv_goto (tgt := 62) hx hb d_Ref_beginState_99 (by decide) ?_
    refine tp_pc (pc' := 62) (by rfl) ?_
    refine lv_iload_n hx hb d_Ref_beginState_62 rfl (lv_at hl 0 rfl) ?_
    refine lv_iconst (v := 4) hx hb d_Ref_beginState_63 (by decide) ?_
    refine lv_icmp_ge (tgt := 102) hx hb d_Ref_beginState_64 (by decide) (fun c_5 => absurd c_5 (by decide)) (fun c_5 => ?_)
    refine tp_pc (pc' := 67) (by rfl) ?_
    refine lv_aload_n hx hb d_Ref_beginState_67 rfl (lv_at hl 2 rfl) ?_
    refine va_get (D := (dC, dI)) (ci := 8) (v := .ref h14) (C := R_Ref) (T := F_Ref) (N := 48) hx hb hw i_Ref hown hK hP 0 rfl rfl 16 (by decide) (hw _ m_915) (fun _ h9 => h9) rfl d_Ref_beginState_68 ?_
    refine lv_bipush (v := 95) hx hb d_Ref_beginState_71 (by decide) ?_
    refine lv_iconst (v := 4) hx hb d_Ref_beginState_73 (by decide) ?_
    refine lv_iload_n hx hb d_Ref_beginState_74 rfl (lv_at hl 1 rfl) ?_
    refine lv_imul hx hb d_Ref_beginState_75 ?_
    refine tp_i (y := 0) (by first | rfl | decide) ?_
    refine lv_iadd hx hb d_Ref_beginState_76 ?_
    refine tp_i (y := 95) (by first | rfl | decide) ?_
    refine lv_iload_n hx hb d_Ref_beginState_77 rfl (lv_at hl 0 rfl) ?_
    refine lv_iadd hx hb d_Ref_beginState_78 ?_
    refine tp_i (y := 96) (by first | rfl | decide) ?_
    refine lv_iload_n hx hb d_Ref_beginState_79 rfl (lv_at hl 0 rfl) ?_
    refine va_iast (D := (dC, dI)) hx hb hK hP (dd_D hD rfl) hS 1 0 rfl rfl (i := 96) (x := 1) (vp_c (by decide)) d_Ref_beginState_80 ?_
    clear hP hS locs H
    intro H locs (hP : va_P (dC, dI) classes [oc h0 8 [.int p0, .int p1, .ref h1, .ref h2, .ref h3, .ref h4, .ref h5, .ref h6, .ref h7, .ref h8, .ref h9, .ref h10, .ref h11, .ref h12, .int p2, .ref h13, .ref h14, .ref h15, .ref h16, .int 3, .int p4, .ref h17, .ref h18, .ref h19, .int p5, .ref h20, .int p6, .int p7, .ref h21, .ref h22, .ref h23, .ref h24, .ref h25, .ref h26, .ref h27, .ref h28, .int p8, .int p9, .ref h29, .ref h30, .ref h31, .ref h32, .ref h33, .ref h34, .ref h35, .ref h36, .int p10, .ref h37], ia h14 k13 155 (upd (upd (fun _ => 0) 37 1) 96 1)] H) _ hS
    refine tp_pc (pc' := 81) (by rfl) ?_
    refine lv_aload_n hx hb d_Ref_beginState_81 rfl (lv_at hl 2 rfl) ?_
    refine va_get (D := (dC, dI)) (ci := 8) (v := .ref h14) (C := R_Ref) (T := F_Ref) (N := 48) hx hb hw i_Ref hown hK hP 0 rfl rfl 16 (by decide) (hw _ m_915) (fun _ h9 => h9) rfl d_Ref_beginState_82 ?_
    refine lv_sipush (v := 139) hx hb d_Ref_beginState_85 (by decide) ?_
    refine lv_iconst (v := 4) hx hb d_Ref_beginState_88 (by decide) ?_
    refine lv_iload_n hx hb d_Ref_beginState_89 rfl (lv_at hl 0 rfl) ?_
    refine lv_imul hx hb d_Ref_beginState_90 ?_
    refine tp_i (y := 4) (by first | rfl | decide) ?_
    refine lv_iadd hx hb d_Ref_beginState_91 ?_
    refine tp_i (y := 143) (by first | rfl | decide) ?_
    refine lv_iload_n hx hb d_Ref_beginState_92 rfl (lv_at hl 1 rfl) ?_
    refine lv_iadd hx hb d_Ref_beginState_93 ?_
    refine tp_i (y := 143) (by first | rfl | decide) ?_
    refine lv_iload_n hx hb d_Ref_beginState_94 rfl (lv_at hl 1 rfl) ?_
    refine va_iast (D := (dC, dI)) hx hb hK hP (dd_D hD rfl) hS 1 0 rfl rfl (i := 143) (x := 0) (vp_c (by decide)) d_Ref_beginState_95 ?_
    clear hP hS locs H
    intro H locs hP _ hS
    replace hP : va_P (dC, dI) classes [oc h0 8 [.int p0, .int p1, .ref h1, .ref h2, .ref h3, .ref h4, .ref h5, .ref h6, .ref h7, .ref h8, .ref h9, .ref h10, .ref h11, .ref h12, .int p2, .ref h13, .ref h14, .ref h15, .ref h16, .int 3, .int p4, .ref h17, .ref h18, .ref h19, .int p5, .ref h20, .int p6, .int p7, .ref h21, .ref h22, .ref h23, .ref h24, .ref h25, .ref h26, .ref h27, .ref h28, .int p8, .int p9, .ref h29, .ref h30, .ref h31, .ref h32, .ref h33, .ref h34, .ref h35, .ref h36, .int p10, .ref h37], ia h14 k13 155 (upd (upd (fun _ => 0) 37 1) 96 1)] H := P_cg 1 rfl (up_pt (by first | rfl | decide)) hP
    refine tp_pc (pc' := 96) (by rfl) ?_
    refine lv_iinc (v := 2) (lv' := [(2, .int 2), (1, .int 0), (0, .ref h0)]) hx hb d_Ref_beginState_96 hl (k := 0) rfl (by first | rfl | decide) (by decide) rfl ?_
    clear hl ls
    intro ls hl
    refine lv_goto (tgt := 62) hx hb d_Ref_beginState_99 (by decide) ?_
    refine tp_pc (pc' := 62) (by rfl) ?_
    refine lv_iload_n hx hb d_Ref_beginState_62 rfl (lv_at hl 0 rfl) ?_
    refine lv_iconst (v := 4) hx hb d_Ref_beginState_63 (by decide) ?_
    refine lv_icmp_ge (tgt := 102) hx hb d_Ref_beginState_64 (by decide) (fun c_6 => absurd c_6 (by decide)) (fun c_6 => ?_)
    refine tp_pc (pc' := 67) (by rfl) ?_
    refine lv_aload_n hx hb d_Ref_beginState_67 rfl (lv_at hl 2 rfl) ?_
    refine va_get (D := (dC, dI)) (ci := 8) (v := .ref h14) (C := R_Ref) (T := F_Ref) (N := 48) hx hb hw i_Ref hown hK hP 0 rfl rfl 16 (by decide) (hw _ m_915) (fun _ h9 => h9) rfl d_Ref_beginState_68 ?_
    refine lv_bipush (v := 95) hx hb d_Ref_beginState_71 (by decide) ?_
    refine lv_iconst (v := 4) hx hb d_Ref_beginState_73 (by decide) ?_
    refine lv_iload_n hx hb d_Ref_beginState_74 rfl (lv_at hl 1 rfl) ?_
    refine lv_imul hx hb d_Ref_beginState_75 ?_
    refine tp_i (y := 0) (by first | rfl | decide) ?_
    refine lv_iadd hx hb d_Ref_beginState_76 ?_
    refine tp_i (y := 95) (by first | rfl | decide) ?_
    refine lv_iload_n hx hb d_Ref_beginState_77 rfl (lv_at hl 0 rfl) ?_
    refine lv_iadd hx hb d_Ref_beginState_78 ?_
    refine tp_i (y := 97) (by first | rfl | decide) ?_
    refine lv_iload_n hx hb d_Ref_beginState_79 rfl (lv_at hl 0 rfl) ?_
    refine va_iast (D := (dC, dI)) hx hb hK hP (dd_D hD rfl) hS 1 0 rfl rfl (i := 97) (x := 2) (vp_c (by decide)) d_Ref_beginState_80 ?_
    clear hP hS locs H
    intro H locs (hP : va_P (dC, dI) classes [oc h0 8 [.int p0, .int p1, .ref h1, .ref h2, .ref h3, .ref h4, .ref h5, .ref h6, .ref h7, .ref h8, .ref h9, .ref h10, .ref h11, .ref h12, .int p2, .ref h13, .ref h14, .ref h15, .ref h16, .int 3, .int p4, .ref h17, .ref h18, .ref h19, .int p5, .ref h20, .int p6, .int p7, .ref h21, .ref h22, .ref h23, .ref h24, .ref h25, .ref h26, .ref h27, .ref h28, .int p8, .int p9, .ref h29, .ref h30, .ref h31, .ref h32, .ref h33, .ref h34, .ref h35, .ref h36, .int p10, .ref h37], ia h14 k13 155 (upd (upd (upd (fun _ => 0) 37 1) 96 1) 97 2)] H) _ hS
    refine tp_pc (pc' := 81) (by rfl) ?_
    refine lv_aload_n hx hb d_Ref_beginState_81 rfl (lv_at hl 2 rfl) ?_
    refine va_get (D := (dC, dI)) (ci := 8) (v := .ref h14) (C := R_Ref) (T := F_Ref) (N := 48) hx hb hw i_Ref hown hK hP 0 rfl rfl 16 (by decide) (hw _ m_915) (fun _ h9 => h9) rfl d_Ref_beginState_82 ?_
    refine lv_sipush (v := 139) hx hb d_Ref_beginState_85 (by decide) ?_
    refine lv_iconst (v := 4) hx hb d_Ref_beginState_88 (by decide) ?_
    refine lv_iload_n hx hb d_Ref_beginState_89 rfl (lv_at hl 0 rfl) ?_
    refine lv_imul hx hb d_Ref_beginState_90 ?_
    refine tp_i (y := 8) (by first | rfl | decide) ?_
    refine lv_iadd hx hb d_Ref_beginState_91 ?_
    refine tp_i (y := 147) (by first | rfl | decide) ?_
    refine lv_iload_n hx hb d_Ref_beginState_92 rfl (lv_at hl 1 rfl) ?_
    refine lv_iadd hx hb d_Ref_beginState_93 ?_
    refine tp_i (y := 147) (by first | rfl | decide) ?_
    refine lv_iload_n hx hb d_Ref_beginState_94 rfl (lv_at hl 1 rfl) ?_
    refine va_iast (D := (dC, dI)) hx hb hK hP (dd_D hD rfl) hS 1 0 rfl rfl (i := 147) (x := 0) (vp_c (by decide)) d_Ref_beginState_95 ?_
    clear hP hS locs H
    intro H locs hP _ hS
    replace hP : va_P (dC, dI) classes [oc h0 8 [.int p0, .int p1, .ref h1, .ref h2, .ref h3, .ref h4, .ref h5, .ref h6, .ref h7, .ref h8, .ref h9, .ref h10, .ref h11, .ref h12, .int p2, .ref h13, .ref h14, .ref h15, .ref h16, .int 3, .int p4, .ref h17, .ref h18, .ref h19, .int p5, .ref h20, .int p6, .int p7, .ref h21, .ref h22, .ref h23, .ref h24, .ref h25, .ref h26, .ref h27, .ref h28, .int p8, .int p9, .ref h29, .ref h30, .ref h31, .ref h32, .ref h33, .ref h34, .ref h35, .ref h36, .int p10, .ref h37], ia h14 k13 155 (upd (upd (upd (fun _ => 0) 37 1) 96 1) 97 2)] H := P_cg 1 rfl (up_pt (by first | rfl | decide)) hP
    refine tp_pc (pc' := 96) (by rfl) ?_
    refine lv_iinc (v := 3) (lv' := [(2, .int 3), (1, .int 0), (0, .ref h0)]) hx hb d_Ref_beginState_96 hl (k := 0) rfl (by first | rfl | decide) (by decide) rfl ?_
    clear hl ls
    intro ls hl
    refine lv_goto (tgt := 62) hx hb d_Ref_beginState_99 (by decide) ?_
    refine tp_pc (pc' := 62) (by rfl) ?_
    refine lv_iload_n hx hb d_Ref_beginState_62 rfl (lv_at hl 0 rfl) ?_
    refine lv_iconst (v := 4) hx hb d_Ref_beginState_63 (by decide) ?_
    refine lv_icmp_ge (tgt := 102) hx hb d_Ref_beginState_64 (by decide) (fun c_7 => absurd c_7 (by decide)) (fun c_7 => ?_)
    refine tp_pc (pc' := 67) (by rfl) ?_
    refine lv_aload_n hx hb d_Ref_beginState_67 rfl (lv_at hl 2 rfl) ?_
    refine va_get (D := (dC, dI)) (ci := 8) (v := .ref h14) (C := R_Ref) (T := F_Ref) (N := 48) hx hb hw i_Ref hown hK hP 0 rfl rfl 16 (by decide) (hw _ m_915) (fun _ h9 => h9) rfl d_Ref_beginState_68 ?_
    refine lv_bipush (v := 95) hx hb d_Ref_beginState_71 (by decide) ?_
    refine lv_iconst (v := 4) hx hb d_Ref_beginState_73 (by decide) ?_
    refine lv_iload_n hx hb d_Ref_beginState_74 rfl (lv_at hl 1 rfl) ?_
    refine lv_imul hx hb d_Ref_beginState_75 ?_
    refine tp_i (y := 0) (by first | rfl | decide) ?_
    refine lv_iadd hx hb d_Ref_beginState_76 ?_
    refine tp_i (y := 95) (by first | rfl | decide) ?_
    refine lv_iload_n hx hb d_Ref_beginState_77 rfl (lv_at hl 0 rfl) ?_
    refine lv_iadd hx hb d_Ref_beginState_78 ?_
    refine tp_i (y := 98) (by first | rfl | decide) ?_
    refine lv_iload_n hx hb d_Ref_beginState_79 rfl (lv_at hl 0 rfl) ?_
    refine va_iast (D := (dC, dI)) hx hb hK hP (dd_D hD rfl) hS 1 0 rfl rfl (i := 98) (x := 3) (vp_c (by decide)) d_Ref_beginState_80 ?_
    clear hP hS locs H
    intro H locs (hP : va_P (dC, dI) classes [oc h0 8 [.int p0, .int p1, .ref h1, .ref h2, .ref h3, .ref h4, .ref h5, .ref h6, .ref h7, .ref h8, .ref h9, .ref h10, .ref h11, .ref h12, .int p2, .ref h13, .ref h14, .ref h15, .ref h16, .int 3, .int p4, .ref h17, .ref h18, .ref h19, .int p5, .ref h20, .int p6, .int p7, .ref h21, .ref h22, .ref h23, .ref h24, .ref h25, .ref h26, .ref h27, .ref h28, .int p8, .int p9, .ref h29, .ref h30, .ref h31, .ref h32, .ref h33, .ref h34, .ref h35, .ref h36, .int p10, .ref h37], ia h14 k13 155 (upd (upd (upd (upd (fun _ => 0) 37 1) 96 1) 97 2) 98 3)] H) _ hS
    refine tp_pc (pc' := 81) (by rfl) ?_
    refine lv_aload_n hx hb d_Ref_beginState_81 rfl (lv_at hl 2 rfl) ?_
    refine va_get (D := (dC, dI)) (ci := 8) (v := .ref h14) (C := R_Ref) (T := F_Ref) (N := 48) hx hb hw i_Ref hown hK hP 0 rfl rfl 16 (by decide) (hw _ m_915) (fun _ h9 => h9) rfl d_Ref_beginState_82 ?_
    refine lv_sipush (v := 139) hx hb d_Ref_beginState_85 (by decide) ?_
    refine lv_iconst (v := 4) hx hb d_Ref_beginState_88 (by decide) ?_
    refine lv_iload_n hx hb d_Ref_beginState_89 rfl (lv_at hl 0 rfl) ?_
    refine lv_imul hx hb d_Ref_beginState_90 ?_
    refine tp_i (y := 12) (by first | rfl | decide) ?_
    refine lv_iadd hx hb d_Ref_beginState_91 ?_
    refine tp_i (y := 151) (by first | rfl | decide) ?_
    refine lv_iload_n hx hb d_Ref_beginState_92 rfl (lv_at hl 1 rfl) ?_
    refine lv_iadd hx hb d_Ref_beginState_93 ?_
    refine tp_i (y := 151) (by first | rfl | decide) ?_
    refine lv_iload_n hx hb d_Ref_beginState_94 rfl (lv_at hl 1 rfl) ?_
    refine va_iast (D := (dC, dI)) hx hb hK hP (dd_D hD rfl) hS 1 0 rfl rfl (i := 151) (x := 0) (vp_c (by decide)) d_Ref_beginState_95 ?_
    clear hP hS locs H
    intro H locs hP _ hS
    replace hP : va_P (dC, dI) classes [oc h0 8 [.int p0, .int p1, .ref h1, .ref h2, .ref h3, .ref h4, .ref h5, .ref h6, .ref h7, .ref h8, .ref h9, .ref h10, .ref h11, .ref h12, .int p2, .ref h13, .ref h14, .ref h15, .ref h16, .int 3, .int p4, .ref h17, .ref h18, .ref h19, .int p5, .ref h20, .int p6, .int p7, .ref h21, .ref h22, .ref h23, .ref h24, .ref h25, .ref h26, .ref h27, .ref h28, .int p8, .int p9, .ref h29, .ref h30, .ref h31, .ref h32, .ref h33, .ref h34, .ref h35, .ref h36, .int p10, .ref h37], ia h14 k13 155 (upd (upd (upd (upd (fun _ => 0) 37 1) 96 1) 97 2) 98 3)] H := P_cg 1 rfl (up_pt (by first | rfl | decide)) hP
    refine tp_pc (pc' := 96) (by rfl) ?_
    refine lv_iinc (v := 4) (lv' := [(2, .int 4), (1, .int 0), (0, .ref h0)]) hx hb d_Ref_beginState_96 hl (k := 0) rfl (by first | rfl | decide) (by decide) rfl ?_
    clear hl ls
    intro ls hl
    refine lv_goto (tgt := 62) hx hb d_Ref_beginState_99 (by decide) ?_
    refine tp_pc (pc' := 62) (by rfl) ?_
    refine lv_iload_n hx hb d_Ref_beginState_62 rfl (lv_at hl 0 rfl) ?_
    refine lv_iconst (v := 4) hx hb d_Ref_beginState_63 (by decide) ?_
    refine lv_icmp_ge (tgt := 102) hx hb d_Ref_beginState_64 (by decide) (fun c_8 => ?_) (fun c_8 => absurd c_8 (by decide))
    refine tp_pc (pc' := 102) (by rfl) ?_
    refine lv_iinc (v := 1) (lv' := [(1, .int 1), (2, .int 4), (0, .ref h0)]) hx hb d_Ref_beginState_102 hl (k := 1) rfl (by first | rfl | decide) (by decide) rfl ?_
    clear hl ls
    intro ls hl
    refine lv_goto (tgt := 32) hx hb d_Ref_beginState_105 (by decide) ?_
    refine tp_pc (pc' := 32) (by rfl) ?_
    refine lv_iload_n hx hb d_Ref_beginState_32 rfl (lv_at hl 0 rfl) ?_
    refine lv_iconst (v := 4) hx hb d_Ref_beginState_33 (by decide) ?_
    refine lv_icmp_ge (tgt := 108) hx hb d_Ref_beginState_34 (by decide) (fun c_9 => absurd c_9 (by decide)) (fun c_9 => ?_)
    refine tp_pc (pc' := 37) (by rfl) ?_
    refine lv_aload_n hx hb d_Ref_beginState_37 rfl (lv_at hl 2 rfl) ?_
    refine va_get (D := (dC, dI)) (ci := 8) (v := .ref h14) (C := R_Ref) (T := F_Ref) (N := 48) hx hb hw i_Ref hown hK hP 0 rfl rfl 16 (by decide) (hw _ m_915) (fun _ h9 => h9) rfl d_Ref_beginState_38 ?_
    refine lv_bipush (v := 37) hx hb d_Ref_beginState_41 (by decide) ?_
    refine lv_iload_n hx hb d_Ref_beginState_43 rfl (lv_at hl 0 rfl) ?_
    refine lv_iadd hx hb d_Ref_beginState_44 ?_
    refine tp_i (y := 38) (by first | rfl | decide) ?_
    refine lv_iconst (v := 1) hx hb d_Ref_beginState_45 (by decide) ?_
    refine va_iast (D := (dC, dI)) hx hb hK hP (dd_D hD rfl) hS 1 0 rfl rfl (i := 38) (x := 1) (vp_c (by decide)) d_Ref_beginState_46 ?_
    clear hP hS locs H
    intro H locs (hP : va_P (dC, dI) classes [oc h0 8 [.int p0, .int p1, .ref h1, .ref h2, .ref h3, .ref h4, .ref h5, .ref h6, .ref h7, .ref h8, .ref h9, .ref h10, .ref h11, .ref h12, .int p2, .ref h13, .ref h14, .ref h15, .ref h16, .int 3, .int p4, .ref h17, .ref h18, .ref h19, .int p5, .ref h20, .int p6, .int p7, .ref h21, .ref h22, .ref h23, .ref h24, .ref h25, .ref h26, .ref h27, .ref h28, .int p8, .int p9, .ref h29, .ref h30, .ref h31, .ref h32, .ref h33, .ref h34, .ref h35, .ref h36, .int p10, .ref h37], ia h14 k13 155 (upd (upd (upd (upd (upd (fun _ => 0) 37 1) 96 1) 97 2) 98 3) 38 1)] H) _ hS
    refine tp_pc (pc' := 47) (by rfl) ?_
    refine lv_aload_n hx hb d_Ref_beginState_47 rfl (lv_at hl 2 rfl) ?_
    refine va_get (D := (dC, dI)) (ci := 8) (v := .ref h14) (C := R_Ref) (T := F_Ref) (N := 48) hx hb hw i_Ref hown hK hP 0 rfl rfl 16 (by decide) (hw _ m_915) (fun _ h9 => h9) rfl d_Ref_beginState_48 ?_
    refine lv_bipush (v := 41) hx hb d_Ref_beginState_51 (by decide) ?_
    refine lv_bipush (v := 8) hx hb d_Ref_beginState_53 (by decide) ?_
    refine lv_iload_n hx hb d_Ref_beginState_55 rfl (lv_at hl 0 rfl) ?_
    refine lv_imul hx hb d_Ref_beginState_56 ?_
    refine tp_i (y := 8) (by first | rfl | decide) ?_
    refine lv_iadd hx hb d_Ref_beginState_57 ?_
    refine tp_i (y := 49) (by first | rfl | decide) ?_
    refine lv_iload_n hx hb d_Ref_beginState_58 rfl (lv_at hl 0 rfl) ?_
    refine va_iast (D := (dC, dI)) hx hb hK hP (dd_D hD rfl) hS 1 0 rfl rfl (i := 49) (x := 1) (vp_c (by decide)) d_Ref_beginState_59 ?_
    clear hP hS locs H
    intro H locs (hP : va_P (dC, dI) classes [oc h0 8 [.int p0, .int p1, .ref h1, .ref h2, .ref h3, .ref h4, .ref h5, .ref h6, .ref h7, .ref h8, .ref h9, .ref h10, .ref h11, .ref h12, .int p2, .ref h13, .ref h14, .ref h15, .ref h16, .int 3, .int p4, .ref h17, .ref h18, .ref h19, .int p5, .ref h20, .int p6, .int p7, .ref h21, .ref h22, .ref h23, .ref h24, .ref h25, .ref h26, .ref h27, .ref h28, .int p8, .int p9, .ref h29, .ref h30, .ref h31, .ref h32, .ref h33, .ref h34, .ref h35, .ref h36, .int p10, .ref h37], ia h14 k13 155 (upd (upd (upd (upd (upd (upd (fun _ => 0) 37 1) 96 1) 97 2) 98 3) 38 1) 49 1)] H) _ hS
    refine tp_pc (pc' := 60) (by rfl) ?_
    refine lv_iconst (v := 0) hx hb d_Ref_beginState_60 (by decide) ?_
    refine lv_istore_n (lv' := [(2, .int 0), (1, .int 1), (0, .ref h0)]) hx hb d_Ref_beginState_61 rfl hl (by decide) rfl ?_
    clear hl ls
    intro ls hl
    refine lv_iload_n hx hb d_Ref_beginState_62 rfl (lv_at hl 0 rfl) ?_
    refine lv_iconst (v := 4) hx hb d_Ref_beginState_63 (by decide) ?_
    refine lv_icmp_ge (tgt := 102) hx hb d_Ref_beginState_64 (by decide) (fun c_10 => absurd c_10 (by decide)) (fun c_10 => ?_)
    refine tp_pc (pc' := 67) (by rfl) ?_
    refine lv_aload_n hx hb d_Ref_beginState_67 rfl (lv_at hl 2 rfl) ?_
    refine va_get (D := (dC, dI)) (ci := 8) (v := .ref h14) (C := R_Ref) (T := F_Ref) (N := 48) hx hb hw i_Ref hown hK hP 0 rfl rfl 16 (by decide) (hw _ m_915) (fun _ h9 => h9) rfl d_Ref_beginState_68 ?_
    refine lv_bipush (v := 95) hx hb d_Ref_beginState_71 (by decide) ?_
    refine lv_iconst (v := 4) hx hb d_Ref_beginState_73 (by decide) ?_
    refine lv_iload_n hx hb d_Ref_beginState_74 rfl (lv_at hl 1 rfl) ?_
    refine lv_imul hx hb d_Ref_beginState_75 ?_
    refine tp_i (y := 4) (by first | rfl | decide) ?_
    refine lv_iadd hx hb d_Ref_beginState_76 ?_
    refine tp_i (y := 99) (by first | rfl | decide) ?_
    refine lv_iload_n hx hb d_Ref_beginState_77 rfl (lv_at hl 0 rfl) ?_
    refine lv_iadd hx hb d_Ref_beginState_78 ?_
    refine tp_i (y := 99) (by first | rfl | decide) ?_
    refine lv_iload_n hx hb d_Ref_beginState_79 rfl (lv_at hl 0 rfl) ?_
    refine va_iast (D := (dC, dI)) hx hb hK hP (dd_D hD rfl) hS 1 0 rfl rfl (i := 99) (x := 0) (vp_c (by decide)) d_Ref_beginState_80 ?_
    clear hP hS locs H
    intro H locs hP _ hS
    replace hP : va_P (dC, dI) classes [oc h0 8 [.int p0, .int p1, .ref h1, .ref h2, .ref h3, .ref h4, .ref h5, .ref h6, .ref h7, .ref h8, .ref h9, .ref h10, .ref h11, .ref h12, .int p2, .ref h13, .ref h14, .ref h15, .ref h16, .int 3, .int p4, .ref h17, .ref h18, .ref h19, .int p5, .ref h20, .int p6, .int p7, .ref h21, .ref h22, .ref h23, .ref h24, .ref h25, .ref h26, .ref h27, .ref h28, .int p8, .int p9, .ref h29, .ref h30, .ref h31, .ref h32, .ref h33, .ref h34, .ref h35, .ref h36, .int p10, .ref h37], ia h14 k13 155 (upd (upd (upd (upd (upd (upd (fun _ => 0) 37 1) 96 1) 97 2) 98 3) 38 1) 49 1)] H := P_cg 1 rfl (up_pt (by first | rfl | decide)) hP
    refine tp_pc (pc' := 81) (by rfl) ?_
    refine lv_aload_n hx hb d_Ref_beginState_81 rfl (lv_at hl 2 rfl) ?_
    refine va_get (D := (dC, dI)) (ci := 8) (v := .ref h14) (C := R_Ref) (T := F_Ref) (N := 48) hx hb hw i_Ref hown hK hP 0 rfl rfl 16 (by decide) (hw _ m_915) (fun _ h9 => h9) rfl d_Ref_beginState_82 ?_
    refine lv_sipush (v := 139) hx hb d_Ref_beginState_85 (by decide) ?_
    refine lv_iconst (v := 4) hx hb d_Ref_beginState_88 (by decide) ?_
    refine lv_iload_n hx hb d_Ref_beginState_89 rfl (lv_at hl 0 rfl) ?_
    refine lv_imul hx hb d_Ref_beginState_90 ?_
    refine tp_i (y := 0) (by first | rfl | decide) ?_
    refine lv_iadd hx hb d_Ref_beginState_91 ?_
    refine tp_i (y := 139) (by first | rfl | decide) ?_
    refine lv_iload_n hx hb d_Ref_beginState_92 rfl (lv_at hl 1 rfl) ?_
    refine lv_iadd hx hb d_Ref_beginState_93 ?_
    refine tp_i (y := 140) (by first | rfl | decide) ?_
    refine lv_iload_n hx hb d_Ref_beginState_94 rfl (lv_at hl 1 rfl) ?_
    refine va_iast (D := (dC, dI)) hx hb hK hP (dd_D hD rfl) hS 1 0 rfl rfl (i := 140) (x := 1) (vp_c (by decide)) d_Ref_beginState_95 ?_
    clear hP hS locs H
    intro H locs (hP : va_P (dC, dI) classes [oc h0 8 [.int p0, .int p1, .ref h1, .ref h2, .ref h3, .ref h4, .ref h5, .ref h6, .ref h7, .ref h8, .ref h9, .ref h10, .ref h11, .ref h12, .int p2, .ref h13, .ref h14, .ref h15, .ref h16, .int 3, .int p4, .ref h17, .ref h18, .ref h19, .int p5, .ref h20, .int p6, .int p7, .ref h21, .ref h22, .ref h23, .ref h24, .ref h25, .ref h26, .ref h27, .ref h28, .int p8, .int p9, .ref h29, .ref h30, .ref h31, .ref h32, .ref h33, .ref h34, .ref h35, .ref h36, .int p10, .ref h37], ia h14 k13 155 (upd (upd (upd (upd (upd (upd (upd (fun _ => 0) 37 1) 96 1) 97 2) 98 3) 38 1) 49 1) 140 1)] H) _ hS
    refine tp_pc (pc' := 96) (by rfl) ?_
    refine lv_iinc (v := 1) (lv' := [(2, .int 1), (1, .int 1), (0, .ref h0)]) hx hb d_Ref_beginState_96 hl (k := 0) rfl (by first | rfl | decide) (by decide) rfl ?_
    clear hl ls
    intro ls hl
    refine lv_goto (tgt := 62) hx hb d_Ref_beginState_99 (by decide) ?_
    refine tp_pc (pc' := 62) (by rfl) ?_
    refine lv_iload_n hx hb d_Ref_beginState_62 rfl (lv_at hl 0 rfl) ?_
    refine lv_iconst (v := 4) hx hb d_Ref_beginState_63 (by decide) ?_
    refine lv_icmp_ge (tgt := 102) hx hb d_Ref_beginState_64 (by decide) (fun c_11 => absurd c_11 (by decide)) (fun c_11 => ?_)
    refine tp_pc (pc' := 67) (by rfl) ?_
    refine lv_aload_n hx hb d_Ref_beginState_67 rfl (lv_at hl 2 rfl) ?_
    refine va_get (D := (dC, dI)) (ci := 8) (v := .ref h14) (C := R_Ref) (T := F_Ref) (N := 48) hx hb hw i_Ref hown hK hP 0 rfl rfl 16 (by decide) (hw _ m_915) (fun _ h9 => h9) rfl d_Ref_beginState_68 ?_
    refine lv_bipush (v := 95) hx hb d_Ref_beginState_71 (by decide) ?_
    refine lv_iconst (v := 4) hx hb d_Ref_beginState_73 (by decide) ?_
    refine lv_iload_n hx hb d_Ref_beginState_74 rfl (lv_at hl 1 rfl) ?_
    refine lv_imul hx hb d_Ref_beginState_75 ?_
    refine tp_i (y := 4) (by first | rfl | decide) ?_
    refine lv_iadd hx hb d_Ref_beginState_76 ?_
    refine tp_i (y := 99) (by first | rfl | decide) ?_
    refine lv_iload_n hx hb d_Ref_beginState_77 rfl (lv_at hl 0 rfl) ?_
    refine lv_iadd hx hb d_Ref_beginState_78 ?_
    refine tp_i (y := 100) (by first | rfl | decide) ?_
    refine lv_iload_n hx hb d_Ref_beginState_79 rfl (lv_at hl 0 rfl) ?_
    refine va_iast (D := (dC, dI)) hx hb hK hP (dd_D hD rfl) hS 1 0 rfl rfl (i := 100) (x := 1) (vp_c (by decide)) d_Ref_beginState_80 ?_
    clear hP hS locs H
    intro H locs (hP : va_P (dC, dI) classes [oc h0 8 [.int p0, .int p1, .ref h1, .ref h2, .ref h3, .ref h4, .ref h5, .ref h6, .ref h7, .ref h8, .ref h9, .ref h10, .ref h11, .ref h12, .int p2, .ref h13, .ref h14, .ref h15, .ref h16, .int 3, .int p4, .ref h17, .ref h18, .ref h19, .int p5, .ref h20, .int p6, .int p7, .ref h21, .ref h22, .ref h23, .ref h24, .ref h25, .ref h26, .ref h27, .ref h28, .int p8, .int p9, .ref h29, .ref h30, .ref h31, .ref h32, .ref h33, .ref h34, .ref h35, .ref h36, .int p10, .ref h37], ia h14 k13 155 (upd (upd (upd (upd (upd (upd (upd (upd (fun _ => 0) 37 1) 96 1) 97 2) 98 3) 38 1) 49 1) 140 1) 100 1)] H) _ hS
    refine tp_pc (pc' := 81) (by rfl) ?_
    refine lv_aload_n hx hb d_Ref_beginState_81 rfl (lv_at hl 2 rfl) ?_
    refine va_get (D := (dC, dI)) (ci := 8) (v := .ref h14) (C := R_Ref) (T := F_Ref) (N := 48) hx hb hw i_Ref hown hK hP 0 rfl rfl 16 (by decide) (hw _ m_915) (fun _ h9 => h9) rfl d_Ref_beginState_82 ?_
    refine lv_sipush (v := 139) hx hb d_Ref_beginState_85 (by decide) ?_
    refine lv_iconst (v := 4) hx hb d_Ref_beginState_88 (by decide) ?_
    refine lv_iload_n hx hb d_Ref_beginState_89 rfl (lv_at hl 0 rfl) ?_
    refine lv_imul hx hb d_Ref_beginState_90 ?_
    refine tp_i (y := 4) (by first | rfl | decide) ?_
    refine lv_iadd hx hb d_Ref_beginState_91 ?_
    refine tp_i (y := 143) (by first | rfl | decide) ?_
    refine lv_iload_n hx hb d_Ref_beginState_92 rfl (lv_at hl 1 rfl) ?_
    refine lv_iadd hx hb d_Ref_beginState_93 ?_
    refine tp_i (y := 144) (by first | rfl | decide) ?_
    refine lv_iload_n hx hb d_Ref_beginState_94 rfl (lv_at hl 1 rfl) ?_
    refine va_iast (D := (dC, dI)) hx hb hK hP (dd_D hD rfl) hS 1 0 rfl rfl (i := 144) (x := 1) (vp_c (by decide)) d_Ref_beginState_95 ?_
    clear hP hS locs H
    intro H locs (hP : va_P (dC, dI) classes [oc h0 8 [.int p0, .int p1, .ref h1, .ref h2, .ref h3, .ref h4, .ref h5, .ref h6, .ref h7, .ref h8, .ref h9, .ref h10, .ref h11, .ref h12, .int p2, .ref h13, .ref h14, .ref h15, .ref h16, .int 3, .int p4, .ref h17, .ref h18, .ref h19, .int p5, .ref h20, .int p6, .int p7, .ref h21, .ref h22, .ref h23, .ref h24, .ref h25, .ref h26, .ref h27, .ref h28, .int p8, .int p9, .ref h29, .ref h30, .ref h31, .ref h32, .ref h33, .ref h34, .ref h35, .ref h36, .int p10, .ref h37], ia h14 k13 155 (upd (upd (upd (upd (upd (upd (upd (upd (upd (fun _ => 0) 37 1) 96 1) 97 2) 98 3) 38 1) 49 1) 140 1) 100 1) 144 1)] H) _ hS
    refine tp_pc (pc' := 96) (by rfl) ?_
    refine lv_iinc (v := 2) (lv' := [(2, .int 2), (1, .int 1), (0, .ref h0)]) hx hb d_Ref_beginState_96 hl (k := 0) rfl (by first | rfl | decide) (by decide) rfl ?_
    clear hl ls
    intro ls hl
    refine lv_goto (tgt := 62) hx hb d_Ref_beginState_99 (by decide) ?_
    refine tp_pc (pc' := 62) (by rfl) ?_
    refine lv_iload_n hx hb d_Ref_beginState_62 rfl (lv_at hl 0 rfl) ?_
    refine lv_iconst (v := 4) hx hb d_Ref_beginState_63 (by decide) ?_
    refine lv_icmp_ge (tgt := 102) hx hb d_Ref_beginState_64 (by decide) (fun c_12 => absurd c_12 (by decide)) (fun c_12 => ?_)
    refine tp_pc (pc' := 67) (by rfl) ?_
    refine lv_aload_n hx hb d_Ref_beginState_67 rfl (lv_at hl 2 rfl) ?_
    refine va_get (D := (dC, dI)) (ci := 8) (v := .ref h14) (C := R_Ref) (T := F_Ref) (N := 48) hx hb hw i_Ref hown hK hP 0 rfl rfl 16 (by decide) (hw _ m_915) (fun _ h9 => h9) rfl d_Ref_beginState_68 ?_
    refine lv_bipush (v := 95) hx hb d_Ref_beginState_71 (by decide) ?_
    refine lv_iconst (v := 4) hx hb d_Ref_beginState_73 (by decide) ?_
    refine lv_iload_n hx hb d_Ref_beginState_74 rfl (lv_at hl 1 rfl) ?_
    refine lv_imul hx hb d_Ref_beginState_75 ?_
    refine tp_i (y := 4) (by first | rfl | decide) ?_
    refine lv_iadd hx hb d_Ref_beginState_76 ?_
    refine tp_i (y := 99) (by first | rfl | decide) ?_
    refine lv_iload_n hx hb d_Ref_beginState_77 rfl (lv_at hl 0 rfl) ?_
    refine lv_iadd hx hb d_Ref_beginState_78 ?_
    refine tp_i (y := 101) (by first | rfl | decide) ?_
    refine lv_iload_n hx hb d_Ref_beginState_79 rfl (lv_at hl 0 rfl) ?_
    refine va_iast (D := (dC, dI)) hx hb hK hP (dd_D hD rfl) hS 1 0 rfl rfl (i := 101) (x := 2) (vp_c (by decide)) d_Ref_beginState_80 ?_
    clear hP hS locs H
    intro H locs (hP : va_P (dC, dI) classes [oc h0 8 [.int p0, .int p1, .ref h1, .ref h2, .ref h3, .ref h4, .ref h5, .ref h6, .ref h7, .ref h8, .ref h9, .ref h10, .ref h11, .ref h12, .int p2, .ref h13, .ref h14, .ref h15, .ref h16, .int 3, .int p4, .ref h17, .ref h18, .ref h19, .int p5, .ref h20, .int p6, .int p7, .ref h21, .ref h22, .ref h23, .ref h24, .ref h25, .ref h26, .ref h27, .ref h28, .int p8, .int p9, .ref h29, .ref h30, .ref h31, .ref h32, .ref h33, .ref h34, .ref h35, .ref h36, .int p10, .ref h37], ia h14 k13 155 (upd (upd (upd (upd (upd (upd (upd (upd (upd (upd (fun _ => 0) 37 1) 96 1) 97 2) 98 3) 38 1) 49 1) 140 1) 100 1) 144 1) 101 2)] H) _ hS
    refine tp_pc (pc' := 81) (by rfl) ?_
    refine lv_aload_n hx hb d_Ref_beginState_81 rfl (lv_at hl 2 rfl) ?_
    refine va_get (D := (dC, dI)) (ci := 8) (v := .ref h14) (C := R_Ref) (T := F_Ref) (N := 48) hx hb hw i_Ref hown hK hP 0 rfl rfl 16 (by decide) (hw _ m_915) (fun _ h9 => h9) rfl d_Ref_beginState_82 ?_
    refine lv_sipush (v := 139) hx hb d_Ref_beginState_85 (by decide) ?_
    refine lv_iconst (v := 4) hx hb d_Ref_beginState_88 (by decide) ?_
    refine lv_iload_n hx hb d_Ref_beginState_89 rfl (lv_at hl 0 rfl) ?_
    refine lv_imul hx hb d_Ref_beginState_90 ?_
    refine tp_i (y := 8) (by first | rfl | decide) ?_
    refine lv_iadd hx hb d_Ref_beginState_91 ?_
    refine tp_i (y := 147) (by first | rfl | decide) ?_
    refine lv_iload_n hx hb d_Ref_beginState_92 rfl (lv_at hl 1 rfl) ?_
    refine lv_iadd hx hb d_Ref_beginState_93 ?_
    refine tp_i (y := 148) (by first | rfl | decide) ?_
    refine lv_iload_n hx hb d_Ref_beginState_94 rfl (lv_at hl 1 rfl) ?_
    refine va_iast (D := (dC, dI)) hx hb hK hP (dd_D hD rfl) hS 1 0 rfl rfl (i := 148) (x := 1) (vp_c (by decide)) d_Ref_beginState_95 ?_
    clear hP hS locs H
    intro H locs (hP : va_P (dC, dI) classes [oc h0 8 [.int p0, .int p1, .ref h1, .ref h2, .ref h3, .ref h4, .ref h5, .ref h6, .ref h7, .ref h8, .ref h9, .ref h10, .ref h11, .ref h12, .int p2, .ref h13, .ref h14, .ref h15, .ref h16, .int 3, .int p4, .ref h17, .ref h18, .ref h19, .int p5, .ref h20, .int p6, .int p7, .ref h21, .ref h22, .ref h23, .ref h24, .ref h25, .ref h26, .ref h27, .ref h28, .int p8, .int p9, .ref h29, .ref h30, .ref h31, .ref h32, .ref h33, .ref h34, .ref h35, .ref h36, .int p10, .ref h37], ia h14 k13 155 (upd (upd (upd (upd (upd (upd (upd (upd (upd (upd (upd (fun _ => 0) 37 1) 96 1) 97 2) 98 3) 38 1) 49 1) 140 1) 100 1) 144 1) 101 2) 148 1)] H) _ hS
    refine tp_pc (pc' := 96) (by rfl) ?_
    refine lv_iinc (v := 3) (lv' := [(2, .int 3), (1, .int 1), (0, .ref h0)]) hx hb d_Ref_beginState_96 hl (k := 0) rfl (by first | rfl | decide) (by decide) rfl ?_
    clear hl ls
    intro ls hl
    refine lv_goto (tgt := 62) hx hb d_Ref_beginState_99 (by decide) ?_
    refine tp_pc (pc' := 62) (by rfl) ?_
    refine lv_iload_n hx hb d_Ref_beginState_62 rfl (lv_at hl 0 rfl) ?_
    refine lv_iconst (v := 4) hx hb d_Ref_beginState_63 (by decide) ?_
    refine lv_icmp_ge (tgt := 102) hx hb d_Ref_beginState_64 (by decide) (fun c_13 => absurd c_13 (by decide)) (fun c_13 => ?_)
    refine tp_pc (pc' := 67) (by rfl) ?_
    refine lv_aload_n hx hb d_Ref_beginState_67 rfl (lv_at hl 2 rfl) ?_
    refine va_get (D := (dC, dI)) (ci := 8) (v := .ref h14) (C := R_Ref) (T := F_Ref) (N := 48) hx hb hw i_Ref hown hK hP 0 rfl rfl 16 (by decide) (hw _ m_915) (fun _ h9 => h9) rfl d_Ref_beginState_68 ?_
    refine lv_bipush (v := 95) hx hb d_Ref_beginState_71 (by decide) ?_
    refine lv_iconst (v := 4) hx hb d_Ref_beginState_73 (by decide) ?_
    refine lv_iload_n hx hb d_Ref_beginState_74 rfl (lv_at hl 1 rfl) ?_
    refine lv_imul hx hb d_Ref_beginState_75 ?_
    refine tp_i (y := 4) (by first | rfl | decide) ?_
    refine lv_iadd hx hb d_Ref_beginState_76 ?_
    refine tp_i (y := 99) (by first | rfl | decide) ?_
    refine lv_iload_n hx hb d_Ref_beginState_77 rfl (lv_at hl 0 rfl) ?_
    refine lv_iadd hx hb d_Ref_beginState_78 ?_
    refine tp_i (y := 102) (by first | rfl | decide) ?_
    refine lv_iload_n hx hb d_Ref_beginState_79 rfl (lv_at hl 0 rfl) ?_
    refine va_iast (D := (dC, dI)) hx hb hK hP (dd_D hD rfl) hS 1 0 rfl rfl (i := 102) (x := 3) (vp_c (by decide)) d_Ref_beginState_80 ?_
    clear hP hS locs H
    intro H locs (hP : va_P (dC, dI) classes [oc h0 8 [.int p0, .int p1, .ref h1, .ref h2, .ref h3, .ref h4, .ref h5, .ref h6, .ref h7, .ref h8, .ref h9, .ref h10, .ref h11, .ref h12, .int p2, .ref h13, .ref h14, .ref h15, .ref h16, .int 3, .int p4, .ref h17, .ref h18, .ref h19, .int p5, .ref h20, .int p6, .int p7, .ref h21, .ref h22, .ref h23, .ref h24, .ref h25, .ref h26, .ref h27, .ref h28, .int p8, .int p9, .ref h29, .ref h30, .ref h31, .ref h32, .ref h33, .ref h34, .ref h35, .ref h36, .int p10, .ref h37], ia h14 k13 155 (upd (upd (upd (upd (upd (upd (upd (upd (upd (upd (upd (upd (fun _ => 0) 37 1) 96 1) 97 2) 98 3) 38 1) 49 1) 140 1) 100 1) 144 1) 101 2) 148 1) 102 3)] H) _ hS
    refine tp_pc (pc' := 81) (by rfl) ?_
    refine lv_aload_n hx hb d_Ref_beginState_81 rfl (lv_at hl 2 rfl) ?_
    refine va_get (D := (dC, dI)) (ci := 8) (v := .ref h14) (C := R_Ref) (T := F_Ref) (N := 48) hx hb hw i_Ref hown hK hP 0 rfl rfl 16 (by decide) (hw _ m_915) (fun _ h9 => h9) rfl d_Ref_beginState_82 ?_
    refine lv_sipush (v := 139) hx hb d_Ref_beginState_85 (by decide) ?_
    refine lv_iconst (v := 4) hx hb d_Ref_beginState_88 (by decide) ?_
    refine lv_iload_n hx hb d_Ref_beginState_89 rfl (lv_at hl 0 rfl) ?_
    refine lv_imul hx hb d_Ref_beginState_90 ?_
    refine tp_i (y := 12) (by first | rfl | decide) ?_
    refine lv_iadd hx hb d_Ref_beginState_91 ?_
    refine tp_i (y := 151) (by first | rfl | decide) ?_
    refine lv_iload_n hx hb d_Ref_beginState_92 rfl (lv_at hl 1 rfl) ?_
    refine lv_iadd hx hb d_Ref_beginState_93 ?_
    refine tp_i (y := 152) (by first | rfl | decide) ?_
    refine lv_iload_n hx hb d_Ref_beginState_94 rfl (lv_at hl 1 rfl) ?_
    refine va_iast (D := (dC, dI)) hx hb hK hP (dd_D hD rfl) hS 1 0 rfl rfl (i := 152) (x := 1) (vp_c (by decide)) d_Ref_beginState_95 ?_
    clear hP hS locs H
    intro H locs (hP : va_P (dC, dI) classes [oc h0 8 [.int p0, .int p1, .ref h1, .ref h2, .ref h3, .ref h4, .ref h5, .ref h6, .ref h7, .ref h8, .ref h9, .ref h10, .ref h11, .ref h12, .int p2, .ref h13, .ref h14, .ref h15, .ref h16, .int 3, .int p4, .ref h17, .ref h18, .ref h19, .int p5, .ref h20, .int p6, .int p7, .ref h21, .ref h22, .ref h23, .ref h24, .ref h25, .ref h26, .ref h27, .ref h28, .int p8, .int p9, .ref h29, .ref h30, .ref h31, .ref h32, .ref h33, .ref h34, .ref h35, .ref h36, .int p10, .ref h37], ia h14 k13 155 (upd (upd (upd (upd (upd (upd (upd (upd (upd (upd (upd (upd (upd (fun _ => 0) 37 1) 96 1) 97 2) 98 3) 38 1) 49 1) 140 1) 100 1) 144 1) 101 2) 148 1) 102 3) 152 1)] H) _ hS
    refine tp_pc (pc' := 96) (by rfl) ?_
    refine lv_iinc (v := 4) (lv' := [(2, .int 4), (1, .int 1), (0, .ref h0)]) hx hb d_Ref_beginState_96 hl (k := 0) rfl (by first | rfl | decide) (by decide) rfl ?_
    clear hl ls
    intro ls hl
    refine lv_goto (tgt := 62) hx hb d_Ref_beginState_99 (by decide) ?_
    refine tp_pc (pc' := 62) (by rfl) ?_
    refine lv_iload_n hx hb d_Ref_beginState_62 rfl (lv_at hl 0 rfl) ?_
    refine lv_iconst (v := 4) hx hb d_Ref_beginState_63 (by decide) ?_
    refine lv_icmp_ge (tgt := 102) hx hb d_Ref_beginState_64 (by decide) (fun c_14 => ?_) (fun c_14 => absurd c_14 (by decide))
    refine tp_pc (pc' := 102) (by rfl) ?_
    refine lv_iinc (v := 2) (lv' := [(1, .int 2), (2, .int 4), (0, .ref h0)]) hx hb d_Ref_beginState_102 hl (k := 1) rfl (by first | rfl | decide) (by decide) rfl ?_
    clear hl ls
    intro ls hl
    refine lv_goto (tgt := 32) hx hb d_Ref_beginState_105 (by decide) ?_
    refine tp_pc (pc' := 32) (by rfl) ?_
    refine lv_iload_n hx hb d_Ref_beginState_32 rfl (lv_at hl 0 rfl) ?_
    refine lv_iconst (v := 4) hx hb d_Ref_beginState_33 (by decide) ?_
    refine lv_icmp_ge (tgt := 108) hx hb d_Ref_beginState_34 (by decide) (fun c_15 => absurd c_15 (by decide)) (fun c_15 => ?_)
    refine tp_pc (pc' := 37) (by rfl) ?_
    refine lv_aload_n hx hb d_Ref_beginState_37 rfl (lv_at hl 2 rfl) ?_
    refine va_get (D := (dC, dI)) (ci := 8) (v := .ref h14) (C := R_Ref) (T := F_Ref) (N := 48) hx hb hw i_Ref hown hK hP 0 rfl rfl 16 (by decide) (hw _ m_915) (fun _ h9 => h9) rfl d_Ref_beginState_38 ?_
    refine lv_bipush (v := 37) hx hb d_Ref_beginState_41 (by decide) ?_
    refine lv_iload_n hx hb d_Ref_beginState_43 rfl (lv_at hl 0 rfl) ?_
    refine lv_iadd hx hb d_Ref_beginState_44 ?_
    refine tp_i (y := 39) (by first | rfl | decide) ?_
    refine lv_iconst (v := 1) hx hb d_Ref_beginState_45 (by decide) ?_
    refine va_iast (D := (dC, dI)) hx hb hK hP (dd_D hD rfl) hS 1 0 rfl rfl (i := 39) (x := 1) (vp_c (by decide)) d_Ref_beginState_46 ?_
    clear hP hS locs H
    intro H locs (hP : va_P (dC, dI) classes [oc h0 8 [.int p0, .int p1, .ref h1, .ref h2, .ref h3, .ref h4, .ref h5, .ref h6, .ref h7, .ref h8, .ref h9, .ref h10, .ref h11, .ref h12, .int p2, .ref h13, .ref h14, .ref h15, .ref h16, .int 3, .int p4, .ref h17, .ref h18, .ref h19, .int p5, .ref h20, .int p6, .int p7, .ref h21, .ref h22, .ref h23, .ref h24, .ref h25, .ref h26, .ref h27, .ref h28, .int p8, .int p9, .ref h29, .ref h30, .ref h31, .ref h32, .ref h33, .ref h34, .ref h35, .ref h36, .int p10, .ref h37], ia h14 k13 155 (upd (upd (upd (upd (upd (upd (upd (upd (upd (upd (upd (upd (upd (upd (fun _ => 0) 37 1) 96 1) 97 2) 98 3) 38 1) 49 1) 140 1) 100 1) 144 1) 101 2) 148 1) 102 3) 152 1) 39 1)] H) _ hS
    refine tp_pc (pc' := 47) (by rfl) ?_
    refine lv_aload_n hx hb d_Ref_beginState_47 rfl (lv_at hl 2 rfl) ?_
    refine va_get (D := (dC, dI)) (ci := 8) (v := .ref h14) (C := R_Ref) (T := F_Ref) (N := 48) hx hb hw i_Ref hown hK hP 0 rfl rfl 16 (by decide) (hw _ m_915) (fun _ h9 => h9) rfl d_Ref_beginState_48 ?_
    refine lv_bipush (v := 41) hx hb d_Ref_beginState_51 (by decide) ?_
    refine lv_bipush (v := 8) hx hb d_Ref_beginState_53 (by decide) ?_
    refine lv_iload_n hx hb d_Ref_beginState_55 rfl (lv_at hl 0 rfl) ?_
    refine lv_imul hx hb d_Ref_beginState_56 ?_
    refine tp_i (y := 16) (by first | rfl | decide) ?_
    refine lv_iadd hx hb d_Ref_beginState_57 ?_
    refine tp_i (y := 57) (by first | rfl | decide) ?_
    refine lv_iload_n hx hb d_Ref_beginState_58 rfl (lv_at hl 0 rfl) ?_
    refine va_iast (D := (dC, dI)) hx hb hK hP (dd_D hD rfl) hS 1 0 rfl rfl (i := 57) (x := 2) (vp_c (by decide)) d_Ref_beginState_59 ?_
    clear hP hS locs H
    intro H locs (hP : va_P (dC, dI) classes [oc h0 8 [.int p0, .int p1, .ref h1, .ref h2, .ref h3, .ref h4, .ref h5, .ref h6, .ref h7, .ref h8, .ref h9, .ref h10, .ref h11, .ref h12, .int p2, .ref h13, .ref h14, .ref h15, .ref h16, .int 3, .int p4, .ref h17, .ref h18, .ref h19, .int p5, .ref h20, .int p6, .int p7, .ref h21, .ref h22, .ref h23, .ref h24, .ref h25, .ref h26, .ref h27, .ref h28, .int p8, .int p9, .ref h29, .ref h30, .ref h31, .ref h32, .ref h33, .ref h34, .ref h35, .ref h36, .int p10, .ref h37], ia h14 k13 155 (upd (upd (upd (upd (upd (upd (upd (upd (upd (upd (upd (upd (upd (upd (upd (fun _ => 0) 37 1) 96 1) 97 2) 98 3) 38 1) 49 1) 140 1) 100 1) 144 1) 101 2) 148 1) 102 3) 152 1) 39 1) 57 2)] H) _ hS
    refine tp_pc (pc' := 60) (by rfl) ?_
    refine lv_iconst (v := 0) hx hb d_Ref_beginState_60 (by decide) ?_
    refine lv_istore_n (lv' := [(2, .int 0), (1, .int 2), (0, .ref h0)]) hx hb d_Ref_beginState_61 rfl hl (by decide) rfl ?_
    clear hl ls
    intro ls hl
    refine lv_iload_n hx hb d_Ref_beginState_62 rfl (lv_at hl 0 rfl) ?_
    refine lv_iconst (v := 4) hx hb d_Ref_beginState_63 (by decide) ?_
    refine lv_icmp_ge (tgt := 102) hx hb d_Ref_beginState_64 (by decide) (fun c_16 => absurd c_16 (by decide)) (fun c_16 => ?_)
    refine tp_pc (pc' := 67) (by rfl) ?_
    refine lv_aload_n hx hb d_Ref_beginState_67 rfl (lv_at hl 2 rfl) ?_
    refine va_get (D := (dC, dI)) (ci := 8) (v := .ref h14) (C := R_Ref) (T := F_Ref) (N := 48) hx hb hw i_Ref hown hK hP 0 rfl rfl 16 (by decide) (hw _ m_915) (fun _ h9 => h9) rfl d_Ref_beginState_68 ?_
    refine lv_bipush (v := 95) hx hb d_Ref_beginState_71 (by decide) ?_
    refine lv_iconst (v := 4) hx hb d_Ref_beginState_73 (by decide) ?_
    refine lv_iload_n hx hb d_Ref_beginState_74 rfl (lv_at hl 1 rfl) ?_
    refine lv_imul hx hb d_Ref_beginState_75 ?_
    refine tp_i (y := 8) (by first | rfl | decide) ?_
    refine lv_iadd hx hb d_Ref_beginState_76 ?_
    refine tp_i (y := 103) (by first | rfl | decide) ?_
    refine lv_iload_n hx hb d_Ref_beginState_77 rfl (lv_at hl 0 rfl) ?_
    refine lv_iadd hx hb d_Ref_beginState_78 ?_
    refine tp_i (y := 103) (by first | rfl | decide) ?_
    refine lv_iload_n hx hb d_Ref_beginState_79 rfl (lv_at hl 0 rfl) ?_
    refine va_iast (D := (dC, dI)) hx hb hK hP (dd_D hD rfl) hS 1 0 rfl rfl (i := 103) (x := 0) (vp_c (by decide)) d_Ref_beginState_80 ?_
    clear hP hS locs H
    intro H locs hP _ hS
    replace hP : va_P (dC, dI) classes [oc h0 8 [.int p0, .int p1, .ref h1, .ref h2, .ref h3, .ref h4, .ref h5, .ref h6, .ref h7, .ref h8, .ref h9, .ref h10, .ref h11, .ref h12, .int p2, .ref h13, .ref h14, .ref h15, .ref h16, .int 3, .int p4, .ref h17, .ref h18, .ref h19, .int p5, .ref h20, .int p6, .int p7, .ref h21, .ref h22, .ref h23, .ref h24, .ref h25, .ref h26, .ref h27, .ref h28, .int p8, .int p9, .ref h29, .ref h30, .ref h31, .ref h32, .ref h33, .ref h34, .ref h35, .ref h36, .int p10, .ref h37], ia h14 k13 155 (upd (upd (upd (upd (upd (upd (upd (upd (upd (upd (upd (upd (upd (upd (upd (fun _ => 0) 37 1) 96 1) 97 2) 98 3) 38 1) 49 1) 140 1) 100 1) 144 1) 101 2) 148 1) 102 3) 152 1) 39 1) 57 2)] H := P_cg 1 rfl (up_pt (by first | rfl | decide)) hP
    refine tp_pc (pc' := 81) (by rfl) ?_
    refine lv_aload_n hx hb d_Ref_beginState_81 rfl (lv_at hl 2 rfl) ?_
    refine va_get (D := (dC, dI)) (ci := 8) (v := .ref h14) (C := R_Ref) (T := F_Ref) (N := 48) hx hb hw i_Ref hown hK hP 0 rfl rfl 16 (by decide) (hw _ m_915) (fun _ h9 => h9) rfl d_Ref_beginState_82 ?_
    refine lv_sipush (v := 139) hx hb d_Ref_beginState_85 (by decide) ?_
    refine lv_iconst (v := 4) hx hb d_Ref_beginState_88 (by decide) ?_
    refine lv_iload_n hx hb d_Ref_beginState_89 rfl (lv_at hl 0 rfl) ?_
    refine lv_imul hx hb d_Ref_beginState_90 ?_
    refine tp_i (y := 0) (by first | rfl | decide) ?_
    refine lv_iadd hx hb d_Ref_beginState_91 ?_
    refine tp_i (y := 139) (by first | rfl | decide) ?_
    refine lv_iload_n hx hb d_Ref_beginState_92 rfl (lv_at hl 1 rfl) ?_
    refine lv_iadd hx hb d_Ref_beginState_93 ?_
    refine tp_i (y := 141) (by first | rfl | decide) ?_
    refine lv_iload_n hx hb d_Ref_beginState_94 rfl (lv_at hl 1 rfl) ?_
    refine va_iast (D := (dC, dI)) hx hb hK hP (dd_D hD rfl) hS 1 0 rfl rfl (i := 141) (x := 2) (vp_c (by decide)) d_Ref_beginState_95 ?_
    clear hP hS locs H
    intro H locs (hP : va_P (dC, dI) classes [oc h0 8 [.int p0, .int p1, .ref h1, .ref h2, .ref h3, .ref h4, .ref h5, .ref h6, .ref h7, .ref h8, .ref h9, .ref h10, .ref h11, .ref h12, .int p2, .ref h13, .ref h14, .ref h15, .ref h16, .int 3, .int p4, .ref h17, .ref h18, .ref h19, .int p5, .ref h20, .int p6, .int p7, .ref h21, .ref h22, .ref h23, .ref h24, .ref h25, .ref h26, .ref h27, .ref h28, .int p8, .int p9, .ref h29, .ref h30, .ref h31, .ref h32, .ref h33, .ref h34, .ref h35, .ref h36, .int p10, .ref h37], ia h14 k13 155 (upd (upd (upd (upd (upd (upd (upd (upd (upd (upd (upd (upd (upd (upd (upd (upd (fun _ => 0) 37 1) 96 1) 97 2) 98 3) 38 1) 49 1) 140 1) 100 1) 144 1) 101 2) 148 1) 102 3) 152 1) 39 1) 57 2) 141 2)] H) _ hS
    refine tp_pc (pc' := 96) (by rfl) ?_
    refine lv_iinc (v := 1) (lv' := [(2, .int 1), (1, .int 2), (0, .ref h0)]) hx hb d_Ref_beginState_96 hl (k := 0) rfl (by first | rfl | decide) (by decide) rfl ?_
    clear hl ls
    intro ls hl
    refine lv_goto (tgt := 62) hx hb d_Ref_beginState_99 (by decide) ?_
    refine tp_pc (pc' := 62) (by rfl) ?_
    refine lv_iload_n hx hb d_Ref_beginState_62 rfl (lv_at hl 0 rfl) ?_
    refine lv_iconst (v := 4) hx hb d_Ref_beginState_63 (by decide) ?_
    refine lv_icmp_ge (tgt := 102) hx hb d_Ref_beginState_64 (by decide) (fun c_17 => absurd c_17 (by decide)) (fun c_17 => ?_)
    refine tp_pc (pc' := 67) (by rfl) ?_
    refine lv_aload_n hx hb d_Ref_beginState_67 rfl (lv_at hl 2 rfl) ?_
    refine va_get (D := (dC, dI)) (ci := 8) (v := .ref h14) (C := R_Ref) (T := F_Ref) (N := 48) hx hb hw i_Ref hown hK hP 0 rfl rfl 16 (by decide) (hw _ m_915) (fun _ h9 => h9) rfl d_Ref_beginState_68 ?_
    refine lv_bipush (v := 95) hx hb d_Ref_beginState_71 (by decide) ?_
    refine lv_iconst (v := 4) hx hb d_Ref_beginState_73 (by decide) ?_
    refine lv_iload_n hx hb d_Ref_beginState_74 rfl (lv_at hl 1 rfl) ?_
    refine lv_imul hx hb d_Ref_beginState_75 ?_
    refine tp_i (y := 8) (by first | rfl | decide) ?_
    refine lv_iadd hx hb d_Ref_beginState_76 ?_
    refine tp_i (y := 103) (by first | rfl | decide) ?_
    refine lv_iload_n hx hb d_Ref_beginState_77 rfl (lv_at hl 0 rfl) ?_
    refine lv_iadd hx hb d_Ref_beginState_78 ?_
    refine tp_i (y := 104) (by first | rfl | decide) ?_
    refine lv_iload_n hx hb d_Ref_beginState_79 rfl (lv_at hl 0 rfl) ?_
    refine va_iast (D := (dC, dI)) hx hb hK hP (dd_D hD rfl) hS 1 0 rfl rfl (i := 104) (x := 1) (vp_c (by decide)) d_Ref_beginState_80 ?_
    clear hP hS locs H
    intro H locs (hP : va_P (dC, dI) classes [oc h0 8 [.int p0, .int p1, .ref h1, .ref h2, .ref h3, .ref h4, .ref h5, .ref h6, .ref h7, .ref h8, .ref h9, .ref h10, .ref h11, .ref h12, .int p2, .ref h13, .ref h14, .ref h15, .ref h16, .int 3, .int p4, .ref h17, .ref h18, .ref h19, .int p5, .ref h20, .int p6, .int p7, .ref h21, .ref h22, .ref h23, .ref h24, .ref h25, .ref h26, .ref h27, .ref h28, .int p8, .int p9, .ref h29, .ref h30, .ref h31, .ref h32, .ref h33, .ref h34, .ref h35, .ref h36, .int p10, .ref h37], ia h14 k13 155 (upd (upd (upd (upd (upd (upd (upd (upd (upd (upd (upd (upd (upd (upd (upd (upd (upd (fun _ => 0) 37 1) 96 1) 97 2) 98 3) 38 1) 49 1) 140 1) 100 1) 144 1) 101 2) 148 1) 102 3) 152 1) 39 1) 57 2) 141 2) 104 1)] H) _ hS
    refine tp_pc (pc' := 81) (by rfl) ?_
    refine lv_aload_n hx hb d_Ref_beginState_81 rfl (lv_at hl 2 rfl) ?_
    refine va_get (D := (dC, dI)) (ci := 8) (v := .ref h14) (C := R_Ref) (T := F_Ref) (N := 48) hx hb hw i_Ref hown hK hP 0 rfl rfl 16 (by decide) (hw _ m_915) (fun _ h9 => h9) rfl d_Ref_beginState_82 ?_
    refine lv_sipush (v := 139) hx hb d_Ref_beginState_85 (by decide) ?_
    refine lv_iconst (v := 4) hx hb d_Ref_beginState_88 (by decide) ?_
    refine lv_iload_n hx hb d_Ref_beginState_89 rfl (lv_at hl 0 rfl) ?_
    refine lv_imul hx hb d_Ref_beginState_90 ?_
    refine tp_i (y := 4) (by first | rfl | decide) ?_
    refine lv_iadd hx hb d_Ref_beginState_91 ?_
    refine tp_i (y := 143) (by first | rfl | decide) ?_
    refine lv_iload_n hx hb d_Ref_beginState_92 rfl (lv_at hl 1 rfl) ?_
    refine lv_iadd hx hb d_Ref_beginState_93 ?_
    refine tp_i (y := 145) (by first | rfl | decide) ?_
    refine lv_iload_n hx hb d_Ref_beginState_94 rfl (lv_at hl 1 rfl) ?_
    refine va_iast (D := (dC, dI)) hx hb hK hP (dd_D hD rfl) hS 1 0 rfl rfl (i := 145) (x := 2) (vp_c (by decide)) d_Ref_beginState_95 ?_
    clear hP hS locs H
    intro H locs (hP : va_P (dC, dI) classes [oc h0 8 [.int p0, .int p1, .ref h1, .ref h2, .ref h3, .ref h4, .ref h5, .ref h6, .ref h7, .ref h8, .ref h9, .ref h10, .ref h11, .ref h12, .int p2, .ref h13, .ref h14, .ref h15, .ref h16, .int 3, .int p4, .ref h17, .ref h18, .ref h19, .int p5, .ref h20, .int p6, .int p7, .ref h21, .ref h22, .ref h23, .ref h24, .ref h25, .ref h26, .ref h27, .ref h28, .int p8, .int p9, .ref h29, .ref h30, .ref h31, .ref h32, .ref h33, .ref h34, .ref h35, .ref h36, .int p10, .ref h37], ia h14 k13 155 (upd (upd (upd (upd (upd (upd (upd (upd (upd (upd (upd (upd (upd (upd (upd (upd (upd (upd (fun _ => 0) 37 1) 96 1) 97 2) 98 3) 38 1) 49 1) 140 1) 100 1) 144 1) 101 2) 148 1) 102 3) 152 1) 39 1) 57 2) 141 2) 104 1) 145 2)] H) _ hS
    refine tp_pc (pc' := 96) (by rfl) ?_
    refine lv_iinc (v := 2) (lv' := [(2, .int 2), (1, .int 2), (0, .ref h0)]) hx hb d_Ref_beginState_96 hl (k := 0) rfl (by first | rfl | decide) (by decide) rfl ?_
    clear hl ls
    intro ls hl
    refine lv_goto (tgt := 62) hx hb d_Ref_beginState_99 (by decide) ?_
    refine tp_pc (pc' := 62) (by rfl) ?_
    refine lv_iload_n hx hb d_Ref_beginState_62 rfl (lv_at hl 0 rfl) ?_
    refine lv_iconst (v := 4) hx hb d_Ref_beginState_63 (by decide) ?_
    refine lv_icmp_ge (tgt := 102) hx hb d_Ref_beginState_64 (by decide) (fun c_18 => absurd c_18 (by decide)) (fun c_18 => ?_)
    refine tp_pc (pc' := 67) (by rfl) ?_
    refine lv_aload_n hx hb d_Ref_beginState_67 rfl (lv_at hl 2 rfl) ?_
    refine va_get (D := (dC, dI)) (ci := 8) (v := .ref h14) (C := R_Ref) (T := F_Ref) (N := 48) hx hb hw i_Ref hown hK hP 0 rfl rfl 16 (by decide) (hw _ m_915) (fun _ h9 => h9) rfl d_Ref_beginState_68 ?_
    refine lv_bipush (v := 95) hx hb d_Ref_beginState_71 (by decide) ?_
    refine lv_iconst (v := 4) hx hb d_Ref_beginState_73 (by decide) ?_
    refine lv_iload_n hx hb d_Ref_beginState_74 rfl (lv_at hl 1 rfl) ?_
    refine lv_imul hx hb d_Ref_beginState_75 ?_
    refine tp_i (y := 8) (by first | rfl | decide) ?_
    refine lv_iadd hx hb d_Ref_beginState_76 ?_
    refine tp_i (y := 103) (by first | rfl | decide) ?_
    refine lv_iload_n hx hb d_Ref_beginState_77 rfl (lv_at hl 0 rfl) ?_
    refine lv_iadd hx hb d_Ref_beginState_78 ?_
    refine tp_i (y := 105) (by first | rfl | decide) ?_
    refine lv_iload_n hx hb d_Ref_beginState_79 rfl (lv_at hl 0 rfl) ?_
    refine va_iast (D := (dC, dI)) hx hb hK hP (dd_D hD rfl) hS 1 0 rfl rfl (i := 105) (x := 2) (vp_c (by decide)) d_Ref_beginState_80 ?_
    clear hP hS locs H
    intro H locs (hP : va_P (dC, dI) classes [oc h0 8 [.int p0, .int p1, .ref h1, .ref h2, .ref h3, .ref h4, .ref h5, .ref h6, .ref h7, .ref h8, .ref h9, .ref h10, .ref h11, .ref h12, .int p2, .ref h13, .ref h14, .ref h15, .ref h16, .int 3, .int p4, .ref h17, .ref h18, .ref h19, .int p5, .ref h20, .int p6, .int p7, .ref h21, .ref h22, .ref h23, .ref h24, .ref h25, .ref h26, .ref h27, .ref h28, .int p8, .int p9, .ref h29, .ref h30, .ref h31, .ref h32, .ref h33, .ref h34, .ref h35, .ref h36, .int p10, .ref h37], ia h14 k13 155 (upd (upd (upd (upd (upd (upd (upd (upd (upd (upd (upd (upd (upd (upd (upd (upd (upd (upd (upd (fun _ => 0) 37 1) 96 1) 97 2) 98 3) 38 1) 49 1) 140 1) 100 1) 144 1) 101 2) 148 1) 102 3) 152 1) 39 1) 57 2) 141 2) 104 1) 145 2) 105 2)] H) _ hS
    refine tp_pc (pc' := 81) (by rfl) ?_
    refine lv_aload_n hx hb d_Ref_beginState_81 rfl (lv_at hl 2 rfl) ?_
    refine va_get (D := (dC, dI)) (ci := 8) (v := .ref h14) (C := R_Ref) (T := F_Ref) (N := 48) hx hb hw i_Ref hown hK hP 0 rfl rfl 16 (by decide) (hw _ m_915) (fun _ h9 => h9) rfl d_Ref_beginState_82 ?_
    refine lv_sipush (v := 139) hx hb d_Ref_beginState_85 (by decide) ?_
    refine lv_iconst (v := 4) hx hb d_Ref_beginState_88 (by decide) ?_
    refine lv_iload_n hx hb d_Ref_beginState_89 rfl (lv_at hl 0 rfl) ?_
    refine lv_imul hx hb d_Ref_beginState_90 ?_
    refine tp_i (y := 8) (by first | rfl | decide) ?_
    refine lv_iadd hx hb d_Ref_beginState_91 ?_
    refine tp_i (y := 147) (by first | rfl | decide) ?_
    refine lv_iload_n hx hb d_Ref_beginState_92 rfl (lv_at hl 1 rfl) ?_
    refine lv_iadd hx hb d_Ref_beginState_93 ?_
    refine tp_i (y := 149) (by first | rfl | decide) ?_
    refine lv_iload_n hx hb d_Ref_beginState_94 rfl (lv_at hl 1 rfl) ?_
    refine va_iast (D := (dC, dI)) hx hb hK hP (dd_D hD rfl) hS 1 0 rfl rfl (i := 149) (x := 2) (vp_c (by decide)) d_Ref_beginState_95 ?_
    clear hP hS locs H
    intro H locs (hP : va_P (dC, dI) classes [oc h0 8 [.int p0, .int p1, .ref h1, .ref h2, .ref h3, .ref h4, .ref h5, .ref h6, .ref h7, .ref h8, .ref h9, .ref h10, .ref h11, .ref h12, .int p2, .ref h13, .ref h14, .ref h15, .ref h16, .int 3, .int p4, .ref h17, .ref h18, .ref h19, .int p5, .ref h20, .int p6, .int p7, .ref h21, .ref h22, .ref h23, .ref h24, .ref h25, .ref h26, .ref h27, .ref h28, .int p8, .int p9, .ref h29, .ref h30, .ref h31, .ref h32, .ref h33, .ref h34, .ref h35, .ref h36, .int p10, .ref h37], ia h14 k13 155 (upd (upd (upd (upd (upd (upd (upd (upd (upd (upd (upd (upd (upd (upd (upd (upd (upd (upd (upd (upd (fun _ => 0) 37 1) 96 1) 97 2) 98 3) 38 1) 49 1) 140 1) 100 1) 144 1) 101 2) 148 1) 102 3) 152 1) 39 1) 57 2) 141 2) 104 1) 145 2) 105 2) 149 2)] H) _ hS
    refine tp_pc (pc' := 96) (by rfl) ?_
    refine lv_iinc (v := 3) (lv' := [(2, .int 3), (1, .int 2), (0, .ref h0)]) hx hb d_Ref_beginState_96 hl (k := 0) rfl (by first | rfl | decide) (by decide) rfl ?_
    clear hl ls
    intro ls hl
    refine lv_goto (tgt := 62) hx hb d_Ref_beginState_99 (by decide) ?_
    refine tp_pc (pc' := 62) (by rfl) ?_
    refine lv_iload_n hx hb d_Ref_beginState_62 rfl (lv_at hl 0 rfl) ?_
    refine lv_iconst (v := 4) hx hb d_Ref_beginState_63 (by decide) ?_
    refine lv_icmp_ge (tgt := 102) hx hb d_Ref_beginState_64 (by decide) (fun c_19 => absurd c_19 (by decide)) (fun c_19 => ?_)
    refine tp_pc (pc' := 67) (by rfl) ?_
    refine lv_aload_n hx hb d_Ref_beginState_67 rfl (lv_at hl 2 rfl) ?_
    refine va_get (D := (dC, dI)) (ci := 8) (v := .ref h14) (C := R_Ref) (T := F_Ref) (N := 48) hx hb hw i_Ref hown hK hP 0 rfl rfl 16 (by decide) (hw _ m_915) (fun _ h9 => h9) rfl d_Ref_beginState_68 ?_
    refine lv_bipush (v := 95) hx hb d_Ref_beginState_71 (by decide) ?_
    refine lv_iconst (v := 4) hx hb d_Ref_beginState_73 (by decide) ?_
    refine lv_iload_n hx hb d_Ref_beginState_74 rfl (lv_at hl 1 rfl) ?_
    refine lv_imul hx hb d_Ref_beginState_75 ?_
    refine tp_i (y := 8) (by first | rfl | decide) ?_
    refine lv_iadd hx hb d_Ref_beginState_76 ?_
    refine tp_i (y := 103) (by first | rfl | decide) ?_
    refine lv_iload_n hx hb d_Ref_beginState_77 rfl (lv_at hl 0 rfl) ?_
    refine lv_iadd hx hb d_Ref_beginState_78 ?_
    refine tp_i (y := 106) (by first | rfl | decide) ?_
    refine lv_iload_n hx hb d_Ref_beginState_79 rfl (lv_at hl 0 rfl) ?_
    refine va_iast (D := (dC, dI)) hx hb hK hP (dd_D hD rfl) hS 1 0 rfl rfl (i := 106) (x := 3) (vp_c (by decide)) d_Ref_beginState_80 ?_
    clear hP hS locs H
    intro H locs (hP : va_P (dC, dI) classes [oc h0 8 [.int p0, .int p1, .ref h1, .ref h2, .ref h3, .ref h4, .ref h5, .ref h6, .ref h7, .ref h8, .ref h9, .ref h10, .ref h11, .ref h12, .int p2, .ref h13, .ref h14, .ref h15, .ref h16, .int 3, .int p4, .ref h17, .ref h18, .ref h19, .int p5, .ref h20, .int p6, .int p7, .ref h21, .ref h22, .ref h23, .ref h24, .ref h25, .ref h26, .ref h27, .ref h28, .int p8, .int p9, .ref h29, .ref h30, .ref h31, .ref h32, .ref h33, .ref h34, .ref h35, .ref h36, .int p10, .ref h37], ia h14 k13 155 (upd (upd (upd (upd (upd (upd (upd (upd (upd (upd (upd (upd (upd (upd (upd (upd (upd (upd (upd (upd (upd (fun _ => 0) 37 1) 96 1) 97 2) 98 3) 38 1) 49 1) 140 1) 100 1) 144 1) 101 2) 148 1) 102 3) 152 1) 39 1) 57 2) 141 2) 104 1) 145 2) 105 2) 149 2) 106 3)] H) _ hS
    refine tp_pc (pc' := 81) (by rfl) ?_
    refine lv_aload_n hx hb d_Ref_beginState_81 rfl (lv_at hl 2 rfl) ?_
    refine va_get (D := (dC, dI)) (ci := 8) (v := .ref h14) (C := R_Ref) (T := F_Ref) (N := 48) hx hb hw i_Ref hown hK hP 0 rfl rfl 16 (by decide) (hw _ m_915) (fun _ h9 => h9) rfl d_Ref_beginState_82 ?_
    refine lv_sipush (v := 139) hx hb d_Ref_beginState_85 (by decide) ?_
    refine lv_iconst (v := 4) hx hb d_Ref_beginState_88 (by decide) ?_
    refine lv_iload_n hx hb d_Ref_beginState_89 rfl (lv_at hl 0 rfl) ?_
    refine lv_imul hx hb d_Ref_beginState_90 ?_
    refine tp_i (y := 12) (by first | rfl | decide) ?_
    refine lv_iadd hx hb d_Ref_beginState_91 ?_
    refine tp_i (y := 151) (by first | rfl | decide) ?_
    refine lv_iload_n hx hb d_Ref_beginState_92 rfl (lv_at hl 1 rfl) ?_
    refine lv_iadd hx hb d_Ref_beginState_93 ?_
    refine tp_i (y := 153) (by first | rfl | decide) ?_
    refine lv_iload_n hx hb d_Ref_beginState_94 rfl (lv_at hl 1 rfl) ?_
    refine va_iast (D := (dC, dI)) hx hb hK hP (dd_D hD rfl) hS 1 0 rfl rfl (i := 153) (x := 2) (vp_c (by decide)) d_Ref_beginState_95 ?_
    clear hP hS locs H
    intro H locs (hP : va_P (dC, dI) classes [oc h0 8 [.int p0, .int p1, .ref h1, .ref h2, .ref h3, .ref h4, .ref h5, .ref h6, .ref h7, .ref h8, .ref h9, .ref h10, .ref h11, .ref h12, .int p2, .ref h13, .ref h14, .ref h15, .ref h16, .int 3, .int p4, .ref h17, .ref h18, .ref h19, .int p5, .ref h20, .int p6, .int p7, .ref h21, .ref h22, .ref h23, .ref h24, .ref h25, .ref h26, .ref h27, .ref h28, .int p8, .int p9, .ref h29, .ref h30, .ref h31, .ref h32, .ref h33, .ref h34, .ref h35, .ref h36, .int p10, .ref h37], ia h14 k13 155 (upd (upd (upd (upd (upd (upd (upd (upd (upd (upd (upd (upd (upd (upd (upd (upd (upd (upd (upd (upd (upd (upd (fun _ => 0) 37 1) 96 1) 97 2) 98 3) 38 1) 49 1) 140 1) 100 1) 144 1) 101 2) 148 1) 102 3) 152 1) 39 1) 57 2) 141 2) 104 1) 145 2) 105 2) 149 2) 106 3) 153 2)] H) _ hS
    refine tp_pc (pc' := 96) (by rfl) ?_
    refine lv_iinc (v := 4) (lv' := [(2, .int 4), (1, .int 2), (0, .ref h0)]) hx hb d_Ref_beginState_96 hl (k := 0) rfl (by first | rfl | decide) (by decide) rfl ?_
    clear hl ls
    intro ls hl
    refine lv_goto (tgt := 62) hx hb d_Ref_beginState_99 (by decide) ?_
    refine tp_pc (pc' := 62) (by rfl) ?_
    refine lv_iload_n hx hb d_Ref_beginState_62 rfl (lv_at hl 0 rfl) ?_
    refine lv_iconst (v := 4) hx hb d_Ref_beginState_63 (by decide) ?_
    refine lv_icmp_ge (tgt := 102) hx hb d_Ref_beginState_64 (by decide) (fun c_20 => ?_) (fun c_20 => absurd c_20 (by decide))
    refine tp_pc (pc' := 102) (by rfl) ?_
    refine lv_iinc (v := 3) (lv' := [(1, .int 3), (2, .int 4), (0, .ref h0)]) hx hb d_Ref_beginState_102 hl (k := 1) rfl (by first | rfl | decide) (by decide) rfl ?_
    clear hl ls
    intro ls hl
    refine lv_goto (tgt := 32) hx hb d_Ref_beginState_105 (by decide) ?_
    refine tp_pc (pc' := 32) (by rfl) ?_
    refine lv_iload_n hx hb d_Ref_beginState_32 rfl (lv_at hl 0 rfl) ?_
    refine lv_iconst (v := 4) hx hb d_Ref_beginState_33 (by decide) ?_
    refine lv_icmp_ge (tgt := 108) hx hb d_Ref_beginState_34 (by decide) (fun c_21 => absurd c_21 (by decide)) (fun c_21 => ?_)
    refine tp_pc (pc' := 37) (by rfl) ?_
    refine lv_aload_n hx hb d_Ref_beginState_37 rfl (lv_at hl 2 rfl) ?_
    refine va_get (D := (dC, dI)) (ci := 8) (v := .ref h14) (C := R_Ref) (T := F_Ref) (N := 48) hx hb hw i_Ref hown hK hP 0 rfl rfl 16 (by decide) (hw _ m_915) (fun _ h9 => h9) rfl d_Ref_beginState_38 ?_
    refine lv_bipush (v := 37) hx hb d_Ref_beginState_41 (by decide) ?_
    refine lv_iload_n hx hb d_Ref_beginState_43 rfl (lv_at hl 0 rfl) ?_
    refine lv_iadd hx hb d_Ref_beginState_44 ?_
    refine tp_i (y := 40) (by first | rfl | decide) ?_
    refine lv_iconst (v := 1) hx hb d_Ref_beginState_45 (by decide) ?_
    refine va_iast (D := (dC, dI)) hx hb hK hP (dd_D hD rfl) hS 1 0 rfl rfl (i := 40) (x := 1) (vp_c (by decide)) d_Ref_beginState_46 ?_
    clear hP hS locs H
    intro H locs (hP : va_P (dC, dI) classes [oc h0 8 [.int p0, .int p1, .ref h1, .ref h2, .ref h3, .ref h4, .ref h5, .ref h6, .ref h7, .ref h8, .ref h9, .ref h10, .ref h11, .ref h12, .int p2, .ref h13, .ref h14, .ref h15, .ref h16, .int 3, .int p4, .ref h17, .ref h18, .ref h19, .int p5, .ref h20, .int p6, .int p7, .ref h21, .ref h22, .ref h23, .ref h24, .ref h25, .ref h26, .ref h27, .ref h28, .int p8, .int p9, .ref h29, .ref h30, .ref h31, .ref h32, .ref h33, .ref h34, .ref h35, .ref h36, .int p10, .ref h37], ia h14 k13 155 (upd (upd (upd (upd (upd (upd (upd (upd (upd (upd (upd (upd (upd (upd (upd (upd (upd (upd (upd (upd (upd (upd (upd (fun _ => 0) 37 1) 96 1) 97 2) 98 3) 38 1) 49 1) 140 1) 100 1) 144 1) 101 2) 148 1) 102 3) 152 1) 39 1) 57 2) 141 2) 104 1) 145 2) 105 2) 149 2) 106 3) 153 2) 40 1)] H) _ hS
    refine tp_pc (pc' := 47) (by rfl) ?_
    refine lv_aload_n hx hb d_Ref_beginState_47 rfl (lv_at hl 2 rfl) ?_
    refine va_get (D := (dC, dI)) (ci := 8) (v := .ref h14) (C := R_Ref) (T := F_Ref) (N := 48) hx hb hw i_Ref hown hK hP 0 rfl rfl 16 (by decide) (hw _ m_915) (fun _ h9 => h9) rfl d_Ref_beginState_48 ?_
    refine lv_bipush (v := 41) hx hb d_Ref_beginState_51 (by decide) ?_
    refine lv_bipush (v := 8) hx hb d_Ref_beginState_53 (by decide) ?_
    refine lv_iload_n hx hb d_Ref_beginState_55 rfl (lv_at hl 0 rfl) ?_
    refine lv_imul hx hb d_Ref_beginState_56 ?_
    refine tp_i (y := 24) (by first | rfl | decide) ?_
    refine lv_iadd hx hb d_Ref_beginState_57 ?_
    refine tp_i (y := 65) (by first | rfl | decide) ?_
    refine lv_iload_n hx hb d_Ref_beginState_58 rfl (lv_at hl 0 rfl) ?_
    refine va_iast (D := (dC, dI)) hx hb hK hP (dd_D hD rfl) hS 1 0 rfl rfl (i := 65) (x := 3) (vp_c (by decide)) d_Ref_beginState_59 ?_
    clear hP hS locs H
    intro H locs (hP : va_P (dC, dI) classes [oc h0 8 [.int p0, .int p1, .ref h1, .ref h2, .ref h3, .ref h4, .ref h5, .ref h6, .ref h7, .ref h8, .ref h9, .ref h10, .ref h11, .ref h12, .int p2, .ref h13, .ref h14, .ref h15, .ref h16, .int 3, .int p4, .ref h17, .ref h18, .ref h19, .int p5, .ref h20, .int p6, .int p7, .ref h21, .ref h22, .ref h23, .ref h24, .ref h25, .ref h26, .ref h27, .ref h28, .int p8, .int p9, .ref h29, .ref h30, .ref h31, .ref h32, .ref h33, .ref h34, .ref h35, .ref h36, .int p10, .ref h37], ia h14 k13 155 (upd (upd (upd (upd (upd (upd (upd (upd (upd (upd (upd (upd (upd (upd (upd (upd (upd (upd (upd (upd (upd (upd (upd (upd (fun _ => 0) 37 1) 96 1) 97 2) 98 3) 38 1) 49 1) 140 1) 100 1) 144 1) 101 2) 148 1) 102 3) 152 1) 39 1) 57 2) 141 2) 104 1) 145 2) 105 2) 149 2) 106 3) 153 2) 40 1) 65 3)] H) _ hS
    refine tp_pc (pc' := 60) (by rfl) ?_
    refine lv_iconst (v := 0) hx hb d_Ref_beginState_60 (by decide) ?_
    refine lv_istore_n (lv' := [(2, .int 0), (1, .int 3), (0, .ref h0)]) hx hb d_Ref_beginState_61 rfl hl (by decide) rfl ?_
    clear hl ls
    intro ls hl
    refine lv_iload_n hx hb d_Ref_beginState_62 rfl (lv_at hl 0 rfl) ?_
    refine lv_iconst (v := 4) hx hb d_Ref_beginState_63 (by decide) ?_
    refine lv_icmp_ge (tgt := 102) hx hb d_Ref_beginState_64 (by decide) (fun c_22 => absurd c_22 (by decide)) (fun c_22 => ?_)
    refine tp_pc (pc' := 67) (by rfl) ?_
    refine lv_aload_n hx hb d_Ref_beginState_67 rfl (lv_at hl 2 rfl) ?_
    refine va_get (D := (dC, dI)) (ci := 8) (v := .ref h14) (C := R_Ref) (T := F_Ref) (N := 48) hx hb hw i_Ref hown hK hP 0 rfl rfl 16 (by decide) (hw _ m_915) (fun _ h9 => h9) rfl d_Ref_beginState_68 ?_
    refine lv_bipush (v := 95) hx hb d_Ref_beginState_71 (by decide) ?_
    refine lv_iconst (v := 4) hx hb d_Ref_beginState_73 (by decide) ?_
    refine lv_iload_n hx hb d_Ref_beginState_74 rfl (lv_at hl 1 rfl) ?_
    refine lv_imul hx hb d_Ref_beginState_75 ?_
    refine tp_i (y := 12) (by first | rfl | decide) ?_
    refine lv_iadd hx hb d_Ref_beginState_76 ?_
    refine tp_i (y := 107) (by first | rfl | decide) ?_
    refine lv_iload_n hx hb d_Ref_beginState_77 rfl (lv_at hl 0 rfl) ?_
    refine lv_iadd hx hb d_Ref_beginState_78 ?_
    refine tp_i (y := 107) (by first | rfl | decide) ?_
    refine lv_iload_n hx hb d_Ref_beginState_79 rfl (lv_at hl 0 rfl) ?_
    refine va_iast (D := (dC, dI)) hx hb hK hP (dd_D hD rfl) hS 1 0 rfl rfl (i := 107) (x := 0) (vp_c (by decide)) d_Ref_beginState_80 ?_
    clear hP hS locs H
    intro H locs hP _ hS
    replace hP : va_P (dC, dI) classes [oc h0 8 [.int p0, .int p1, .ref h1, .ref h2, .ref h3, .ref h4, .ref h5, .ref h6, .ref h7, .ref h8, .ref h9, .ref h10, .ref h11, .ref h12, .int p2, .ref h13, .ref h14, .ref h15, .ref h16, .int 3, .int p4, .ref h17, .ref h18, .ref h19, .int p5, .ref h20, .int p6, .int p7, .ref h21, .ref h22, .ref h23, .ref h24, .ref h25, .ref h26, .ref h27, .ref h28, .int p8, .int p9, .ref h29, .ref h30, .ref h31, .ref h32, .ref h33, .ref h34, .ref h35, .ref h36, .int p10, .ref h37], ia h14 k13 155 (upd (upd (upd (upd (upd (upd (upd (upd (upd (upd (upd (upd (upd (upd (upd (upd (upd (upd (upd (upd (upd (upd (upd (upd (fun _ => 0) 37 1) 96 1) 97 2) 98 3) 38 1) 49 1) 140 1) 100 1) 144 1) 101 2) 148 1) 102 3) 152 1) 39 1) 57 2) 141 2) 104 1) 145 2) 105 2) 149 2) 106 3) 153 2) 40 1) 65 3)] H := P_cg 1 rfl (up_pt (by first | rfl | decide)) hP
    refine tp_pc (pc' := 81) (by rfl) ?_
    refine lv_aload_n hx hb d_Ref_beginState_81 rfl (lv_at hl 2 rfl) ?_
    refine va_get (D := (dC, dI)) (ci := 8) (v := .ref h14) (C := R_Ref) (T := F_Ref) (N := 48) hx hb hw i_Ref hown hK hP 0 rfl rfl 16 (by decide) (hw _ m_915) (fun _ h9 => h9) rfl d_Ref_beginState_82 ?_
    refine lv_sipush (v := 139) hx hb d_Ref_beginState_85 (by decide) ?_
    refine lv_iconst (v := 4) hx hb d_Ref_beginState_88 (by decide) ?_
    refine lv_iload_n hx hb d_Ref_beginState_89 rfl (lv_at hl 0 rfl) ?_
    refine lv_imul hx hb d_Ref_beginState_90 ?_
    refine tp_i (y := 0) (by first | rfl | decide) ?_
    refine lv_iadd hx hb d_Ref_beginState_91 ?_
    refine tp_i (y := 139) (by first | rfl | decide) ?_
    refine lv_iload_n hx hb d_Ref_beginState_92 rfl (lv_at hl 1 rfl) ?_
    refine lv_iadd hx hb d_Ref_beginState_93 ?_
    refine tp_i (y := 142) (by first | rfl | decide) ?_
    refine lv_iload_n hx hb d_Ref_beginState_94 rfl (lv_at hl 1 rfl) ?_
    refine va_iast (D := (dC, dI)) hx hb hK hP (dd_D hD rfl) hS 1 0 rfl rfl (i := 142) (x := 3) (vp_c (by decide)) d_Ref_beginState_95 ?_
    clear hP hS locs H
    intro H locs (hP : va_P (dC, dI) classes [oc h0 8 [.int p0, .int p1, .ref h1, .ref h2, .ref h3, .ref h4, .ref h5, .ref h6, .ref h7, .ref h8, .ref h9, .ref h10, .ref h11, .ref h12, .int p2, .ref h13, .ref h14, .ref h15, .ref h16, .int 3, .int p4, .ref h17, .ref h18, .ref h19, .int p5, .ref h20, .int p6, .int p7, .ref h21, .ref h22, .ref h23, .ref h24, .ref h25, .ref h26, .ref h27, .ref h28, .int p8, .int p9, .ref h29, .ref h30, .ref h31, .ref h32, .ref h33, .ref h34, .ref h35, .ref h36, .int p10, .ref h37], ia h14 k13 155 (upd (upd (upd (upd (upd (upd (upd (upd (upd (upd (upd (upd (upd (upd (upd (upd (upd (upd (upd (upd (upd (upd (upd (upd (upd (fun _ => 0) 37 1) 96 1) 97 2) 98 3) 38 1) 49 1) 140 1) 100 1) 144 1) 101 2) 148 1) 102 3) 152 1) 39 1) 57 2) 141 2) 104 1) 145 2) 105 2) 149 2) 106 3) 153 2) 40 1) 65 3) 142 3)] H) _ hS
    refine tp_pc (pc' := 96) (by rfl) ?_
    refine lv_iinc (v := 1) (lv' := [(2, .int 1), (1, .int 3), (0, .ref h0)]) hx hb d_Ref_beginState_96 hl (k := 0) rfl (by first | rfl | decide) (by decide) rfl ?_
    clear hl ls
    intro ls hl
    refine lv_goto (tgt := 62) hx hb d_Ref_beginState_99 (by decide) ?_
    refine tp_pc (pc' := 62) (by rfl) ?_
    refine lv_iload_n hx hb d_Ref_beginState_62 rfl (lv_at hl 0 rfl) ?_
    refine lv_iconst (v := 4) hx hb d_Ref_beginState_63 (by decide) ?_
    refine lv_icmp_ge (tgt := 102) hx hb d_Ref_beginState_64 (by decide) (fun c_23 => absurd c_23 (by decide)) (fun c_23 => ?_)
    refine tp_pc (pc' := 67) (by rfl) ?_
    refine lv_aload_n hx hb d_Ref_beginState_67 rfl (lv_at hl 2 rfl) ?_
    refine va_get (D := (dC, dI)) (ci := 8) (v := .ref h14) (C := R_Ref) (T := F_Ref) (N := 48) hx hb hw i_Ref hown hK hP 0 rfl rfl 16 (by decide) (hw _ m_915) (fun _ h9 => h9) rfl d_Ref_beginState_68 ?_
    refine lv_bipush (v := 95) hx hb d_Ref_beginState_71 (by decide) ?_
    refine lv_iconst (v := 4) hx hb d_Ref_beginState_73 (by decide) ?_
    refine lv_iload_n hx hb d_Ref_beginState_74 rfl (lv_at hl 1 rfl) ?_
    refine lv_imul hx hb d_Ref_beginState_75 ?_
    refine tp_i (y := 12) (by first | rfl | decide) ?_
    refine lv_iadd hx hb d_Ref_beginState_76 ?_
    refine tp_i (y := 107) (by first | rfl | decide) ?_
    refine lv_iload_n hx hb d_Ref_beginState_77 rfl (lv_at hl 0 rfl) ?_
    refine lv_iadd hx hb d_Ref_beginState_78 ?_
    refine tp_i (y := 108) (by first | rfl | decide) ?_
    refine lv_iload_n hx hb d_Ref_beginState_79 rfl (lv_at hl 0 rfl) ?_
    refine va_iast (D := (dC, dI)) hx hb hK hP (dd_D hD rfl) hS 1 0 rfl rfl (i := 108) (x := 1) (vp_c (by decide)) d_Ref_beginState_80 ?_
    clear hP hS locs H
    intro H locs (hP : va_P (dC, dI) classes [oc h0 8 [.int p0, .int p1, .ref h1, .ref h2, .ref h3, .ref h4, .ref h5, .ref h6, .ref h7, .ref h8, .ref h9, .ref h10, .ref h11, .ref h12, .int p2, .ref h13, .ref h14, .ref h15, .ref h16, .int 3, .int p4, .ref h17, .ref h18, .ref h19, .int p5, .ref h20, .int p6, .int p7, .ref h21, .ref h22, .ref h23, .ref h24, .ref h25, .ref h26, .ref h27, .ref h28, .int p8, .int p9, .ref h29, .ref h30, .ref h31, .ref h32, .ref h33, .ref h34, .ref h35, .ref h36, .int p10, .ref h37], ia h14 k13 155 (upd (upd (upd (upd (upd (upd (upd (upd (upd (upd (upd (upd (upd (upd (upd (upd (upd (upd (upd (upd (upd (upd (upd (upd (upd (upd (fun _ => 0) 37 1) 96 1) 97 2) 98 3) 38 1) 49 1) 140 1) 100 1) 144 1) 101 2) 148 1) 102 3) 152 1) 39 1) 57 2) 141 2) 104 1) 145 2) 105 2) 149 2) 106 3) 153 2) 40 1) 65 3) 142 3) 108 1)] H) _ hS
    refine tp_pc (pc' := 81) (by rfl) ?_
    refine lv_aload_n hx hb d_Ref_beginState_81 rfl (lv_at hl 2 rfl) ?_
    refine va_get (D := (dC, dI)) (ci := 8) (v := .ref h14) (C := R_Ref) (T := F_Ref) (N := 48) hx hb hw i_Ref hown hK hP 0 rfl rfl 16 (by decide) (hw _ m_915) (fun _ h9 => h9) rfl d_Ref_beginState_82 ?_
    refine lv_sipush (v := 139) hx hb d_Ref_beginState_85 (by decide) ?_
    refine lv_iconst (v := 4) hx hb d_Ref_beginState_88 (by decide) ?_
    refine lv_iload_n hx hb d_Ref_beginState_89 rfl (lv_at hl 0 rfl) ?_
    refine lv_imul hx hb d_Ref_beginState_90 ?_
    refine tp_i (y := 4) (by first | rfl | decide) ?_
    refine lv_iadd hx hb d_Ref_beginState_91 ?_
    refine tp_i (y := 143) (by first | rfl | decide) ?_
    refine lv_iload_n hx hb d_Ref_beginState_92 rfl (lv_at hl 1 rfl) ?_
    refine lv_iadd hx hb d_Ref_beginState_93 ?_
    refine tp_i (y := 146) (by first | rfl | decide) ?_
    refine lv_iload_n hx hb d_Ref_beginState_94 rfl (lv_at hl 1 rfl) ?_
    refine va_iast (D := (dC, dI)) hx hb hK hP (dd_D hD rfl) hS 1 0 rfl rfl (i := 146) (x := 3) (vp_c (by decide)) d_Ref_beginState_95 ?_
    clear hP hS locs H
    intro H locs (hP : va_P (dC, dI) classes [oc h0 8 [.int p0, .int p1, .ref h1, .ref h2, .ref h3, .ref h4, .ref h5, .ref h6, .ref h7, .ref h8, .ref h9, .ref h10, .ref h11, .ref h12, .int p2, .ref h13, .ref h14, .ref h15, .ref h16, .int 3, .int p4, .ref h17, .ref h18, .ref h19, .int p5, .ref h20, .int p6, .int p7, .ref h21, .ref h22, .ref h23, .ref h24, .ref h25, .ref h26, .ref h27, .ref h28, .int p8, .int p9, .ref h29, .ref h30, .ref h31, .ref h32, .ref h33, .ref h34, .ref h35, .ref h36, .int p10, .ref h37], ia h14 k13 155 (upd (upd (upd (upd (upd (upd (upd (upd (upd (upd (upd (upd (upd (upd (upd (upd (upd (upd (upd (upd (upd (upd (upd (upd (upd (upd (upd (fun _ => 0) 37 1) 96 1) 97 2) 98 3) 38 1) 49 1) 140 1) 100 1) 144 1) 101 2) 148 1) 102 3) 152 1) 39 1) 57 2) 141 2) 104 1) 145 2) 105 2) 149 2) 106 3) 153 2) 40 1) 65 3) 142 3) 108 1) 146 3)] H) _ hS
    refine tp_pc (pc' := 96) (by rfl) ?_
    refine lv_iinc (v := 2) (lv' := [(2, .int 2), (1, .int 3), (0, .ref h0)]) hx hb d_Ref_beginState_96 hl (k := 0) rfl (by first | rfl | decide) (by decide) rfl ?_
    clear hl ls
    intro ls hl
    refine lv_goto (tgt := 62) hx hb d_Ref_beginState_99 (by decide) ?_
    refine tp_pc (pc' := 62) (by rfl) ?_
    refine lv_iload_n hx hb d_Ref_beginState_62 rfl (lv_at hl 0 rfl) ?_
    refine lv_iconst (v := 4) hx hb d_Ref_beginState_63 (by decide) ?_
    refine lv_icmp_ge (tgt := 102) hx hb d_Ref_beginState_64 (by decide) (fun c_24 => absurd c_24 (by decide)) (fun c_24 => ?_)
    refine tp_pc (pc' := 67) (by rfl) ?_
    refine lv_aload_n hx hb d_Ref_beginState_67 rfl (lv_at hl 2 rfl) ?_
    refine va_get (D := (dC, dI)) (ci := 8) (v := .ref h14) (C := R_Ref) (T := F_Ref) (N := 48) hx hb hw i_Ref hown hK hP 0 rfl rfl 16 (by decide) (hw _ m_915) (fun _ h9 => h9) rfl d_Ref_beginState_68 ?_
    refine lv_bipush (v := 95) hx hb d_Ref_beginState_71 (by decide) ?_
    refine lv_iconst (v := 4) hx hb d_Ref_beginState_73 (by decide) ?_
    refine lv_iload_n hx hb d_Ref_beginState_74 rfl (lv_at hl 1 rfl) ?_
    refine lv_imul hx hb d_Ref_beginState_75 ?_
    refine tp_i (y := 12) (by first | rfl | decide) ?_
    refine lv_iadd hx hb d_Ref_beginState_76 ?_
    refine tp_i (y := 107) (by first | rfl | decide) ?_
    refine lv_iload_n hx hb d_Ref_beginState_77 rfl (lv_at hl 0 rfl) ?_
    refine lv_iadd hx hb d_Ref_beginState_78 ?_
    refine tp_i (y := 109) (by first | rfl | decide) ?_
    refine lv_iload_n hx hb d_Ref_beginState_79 rfl (lv_at hl 0 rfl) ?_
    refine va_iast (D := (dC, dI)) hx hb hK hP (dd_D hD rfl) hS 1 0 rfl rfl (i := 109) (x := 2) (vp_c (by decide)) d_Ref_beginState_80 ?_
    clear hP hS locs H
    intro H locs (hP : va_P (dC, dI) classes [oc h0 8 [.int p0, .int p1, .ref h1, .ref h2, .ref h3, .ref h4, .ref h5, .ref h6, .ref h7, .ref h8, .ref h9, .ref h10, .ref h11, .ref h12, .int p2, .ref h13, .ref h14, .ref h15, .ref h16, .int 3, .int p4, .ref h17, .ref h18, .ref h19, .int p5, .ref h20, .int p6, .int p7, .ref h21, .ref h22, .ref h23, .ref h24, .ref h25, .ref h26, .ref h27, .ref h28, .int p8, .int p9, .ref h29, .ref h30, .ref h31, .ref h32, .ref h33, .ref h34, .ref h35, .ref h36, .int p10, .ref h37], ia h14 k13 155 (upd (upd (upd (upd (upd (upd (upd (upd (upd (upd (upd (upd (upd (upd (upd (upd (upd (upd (upd (upd (upd (upd (upd (upd (upd (upd (upd (upd (fun _ => 0) 37 1) 96 1) 97 2) 98 3) 38 1) 49 1) 140 1) 100 1) 144 1) 101 2) 148 1) 102 3) 152 1) 39 1) 57 2) 141 2) 104 1) 145 2) 105 2) 149 2) 106 3) 153 2) 40 1) 65 3) 142 3) 108 1) 146 3) 109 2)] H) _ hS
    refine tp_pc (pc' := 81) (by rfl) ?_
    refine lv_aload_n hx hb d_Ref_beginState_81 rfl (lv_at hl 2 rfl) ?_
    refine va_get (D := (dC, dI)) (ci := 8) (v := .ref h14) (C := R_Ref) (T := F_Ref) (N := 48) hx hb hw i_Ref hown hK hP 0 rfl rfl 16 (by decide) (hw _ m_915) (fun _ h9 => h9) rfl d_Ref_beginState_82 ?_
    refine lv_sipush (v := 139) hx hb d_Ref_beginState_85 (by decide) ?_
    refine lv_iconst (v := 4) hx hb d_Ref_beginState_88 (by decide) ?_
    refine lv_iload_n hx hb d_Ref_beginState_89 rfl (lv_at hl 0 rfl) ?_
    refine lv_imul hx hb d_Ref_beginState_90 ?_
    refine tp_i (y := 8) (by first | rfl | decide) ?_
    refine lv_iadd hx hb d_Ref_beginState_91 ?_
    refine tp_i (y := 147) (by first | rfl | decide) ?_
    refine lv_iload_n hx hb d_Ref_beginState_92 rfl (lv_at hl 1 rfl) ?_
    refine lv_iadd hx hb d_Ref_beginState_93 ?_
    refine tp_i (y := 150) (by first | rfl | decide) ?_
    refine lv_iload_n hx hb d_Ref_beginState_94 rfl (lv_at hl 1 rfl) ?_
    refine va_iast (D := (dC, dI)) hx hb hK hP (dd_D hD rfl) hS 1 0 rfl rfl (i := 150) (x := 3) (vp_c (by decide)) d_Ref_beginState_95 ?_
    clear hP hS locs H
    intro H locs (hP : va_P (dC, dI) classes [oc h0 8 [.int p0, .int p1, .ref h1, .ref h2, .ref h3, .ref h4, .ref h5, .ref h6, .ref h7, .ref h8, .ref h9, .ref h10, .ref h11, .ref h12, .int p2, .ref h13, .ref h14, .ref h15, .ref h16, .int 3, .int p4, .ref h17, .ref h18, .ref h19, .int p5, .ref h20, .int p6, .int p7, .ref h21, .ref h22, .ref h23, .ref h24, .ref h25, .ref h26, .ref h27, .ref h28, .int p8, .int p9, .ref h29, .ref h30, .ref h31, .ref h32, .ref h33, .ref h34, .ref h35, .ref h36, .int p10, .ref h37], ia h14 k13 155 (upd (upd (upd (upd (upd (upd (upd (upd (upd (upd (upd (upd (upd (upd (upd (upd (upd (upd (upd (upd (upd (upd (upd (upd (upd (upd (upd (upd (upd (fun _ => 0) 37 1) 96 1) 97 2) 98 3) 38 1) 49 1) 140 1) 100 1) 144 1) 101 2) 148 1) 102 3) 152 1) 39 1) 57 2) 141 2) 104 1) 145 2) 105 2) 149 2) 106 3) 153 2) 40 1) 65 3) 142 3) 108 1) 146 3) 109 2) 150 3)] H) _ hS
    refine tp_pc (pc' := 96) (by rfl) ?_
    refine lv_iinc (v := 3) (lv' := [(2, .int 3), (1, .int 3), (0, .ref h0)]) hx hb d_Ref_beginState_96 hl (k := 0) rfl (by first | rfl | decide) (by decide) rfl ?_
    clear hl ls
    intro ls hl
    refine lv_goto (tgt := 62) hx hb d_Ref_beginState_99 (by decide) ?_
    refine tp_pc (pc' := 62) (by rfl) ?_
    refine lv_iload_n hx hb d_Ref_beginState_62 rfl (lv_at hl 0 rfl) ?_
    refine lv_iconst (v := 4) hx hb d_Ref_beginState_63 (by decide) ?_
    refine lv_icmp_ge (tgt := 102) hx hb d_Ref_beginState_64 (by decide) (fun c_25 => absurd c_25 (by decide)) (fun c_25 => ?_)
    refine tp_pc (pc' := 67) (by rfl) ?_
    refine lv_aload_n hx hb d_Ref_beginState_67 rfl (lv_at hl 2 rfl) ?_
    refine va_get (D := (dC, dI)) (ci := 8) (v := .ref h14) (C := R_Ref) (T := F_Ref) (N := 48) hx hb hw i_Ref hown hK hP 0 rfl rfl 16 (by decide) (hw _ m_915) (fun _ h9 => h9) rfl d_Ref_beginState_68 ?_
    refine lv_bipush (v := 95) hx hb d_Ref_beginState_71 (by decide) ?_
    refine lv_iconst (v := 4) hx hb d_Ref_beginState_73 (by decide) ?_
    refine lv_iload_n hx hb d_Ref_beginState_74 rfl (lv_at hl 1 rfl) ?_
    refine lv_imul hx hb d_Ref_beginState_75 ?_
    refine tp_i (y := 12) (by first | rfl | decide) ?_
    refine lv_iadd hx hb d_Ref_beginState_76 ?_
    refine tp_i (y := 107) (by first | rfl | decide) ?_
    refine lv_iload_n hx hb d_Ref_beginState_77 rfl (lv_at hl 0 rfl) ?_
    refine lv_iadd hx hb d_Ref_beginState_78 ?_
    refine tp_i (y := 110) (by first | rfl | decide) ?_
    refine lv_iload_n hx hb d_Ref_beginState_79 rfl (lv_at hl 0 rfl) ?_
    refine va_iast (D := (dC, dI)) hx hb hK hP (dd_D hD rfl) hS 1 0 rfl rfl (i := 110) (x := 3) (vp_c (by decide)) d_Ref_beginState_80 ?_
    clear hP hS locs H
    intro H locs (hP : va_P (dC, dI) classes [oc h0 8 [.int p0, .int p1, .ref h1, .ref h2, .ref h3, .ref h4, .ref h5, .ref h6, .ref h7, .ref h8, .ref h9, .ref h10, .ref h11, .ref h12, .int p2, .ref h13, .ref h14, .ref h15, .ref h16, .int 3, .int p4, .ref h17, .ref h18, .ref h19, .int p5, .ref h20, .int p6, .int p7, .ref h21, .ref h22, .ref h23, .ref h24, .ref h25, .ref h26, .ref h27, .ref h28, .int p8, .int p9, .ref h29, .ref h30, .ref h31, .ref h32, .ref h33, .ref h34, .ref h35, .ref h36, .int p10, .ref h37], ia h14 k13 155 (upd (upd (upd (upd (upd (upd (upd (upd (upd (upd (upd (upd (upd (upd (upd (upd (upd (upd (upd (upd (upd (upd (upd (upd (upd (upd (upd (upd (upd (upd (fun _ => 0) 37 1) 96 1) 97 2) 98 3) 38 1) 49 1) 140 1) 100 1) 144 1) 101 2) 148 1) 102 3) 152 1) 39 1) 57 2) 141 2) 104 1) 145 2) 105 2) 149 2) 106 3) 153 2) 40 1) 65 3) 142 3) 108 1) 146 3) 109 2) 150 3) 110 3)] H) _ hS
    refine tp_pc (pc' := 81) (by rfl) ?_
    refine lv_aload_n hx hb d_Ref_beginState_81 rfl (lv_at hl 2 rfl) ?_
    refine va_get (D := (dC, dI)) (ci := 8) (v := .ref h14) (C := R_Ref) (T := F_Ref) (N := 48) hx hb hw i_Ref hown hK hP 0 rfl rfl 16 (by decide) (hw _ m_915) (fun _ h9 => h9) rfl d_Ref_beginState_82 ?_
    refine lv_sipush (v := 139) hx hb d_Ref_beginState_85 (by decide) ?_
    refine lv_iconst (v := 4) hx hb d_Ref_beginState_88 (by decide) ?_
    refine lv_iload_n hx hb d_Ref_beginState_89 rfl (lv_at hl 0 rfl) ?_
    refine lv_imul hx hb d_Ref_beginState_90 ?_
    refine tp_i (y := 12) (by first | rfl | decide) ?_
    refine lv_iadd hx hb d_Ref_beginState_91 ?_
    refine tp_i (y := 151) (by first | rfl | decide) ?_
    refine lv_iload_n hx hb d_Ref_beginState_92 rfl (lv_at hl 1 rfl) ?_
    refine lv_iadd hx hb d_Ref_beginState_93 ?_
    refine tp_i (y := 154) (by first | rfl | decide) ?_
    refine lv_iload_n hx hb d_Ref_beginState_94 rfl (lv_at hl 1 rfl) ?_
    refine va_iast (D := (dC, dI)) hx hb hK hP (dd_D hD rfl) hS 1 0 rfl rfl (i := 154) (x := 3) (vp_c (by decide)) d_Ref_beginState_95 ?_
    clear hP hS locs H
    intro H locs (hP : va_P (dC, dI) classes [oc h0 8 [.int p0, .int p1, .ref h1, .ref h2, .ref h3, .ref h4, .ref h5, .ref h6, .ref h7, .ref h8, .ref h9, .ref h10, .ref h11, .ref h12, .int p2, .ref h13, .ref h14, .ref h15, .ref h16, .int 3, .int p4, .ref h17, .ref h18, .ref h19, .int p5, .ref h20, .int p6, .int p7, .ref h21, .ref h22, .ref h23, .ref h24, .ref h25, .ref h26, .ref h27, .ref h28, .int p8, .int p9, .ref h29, .ref h30, .ref h31, .ref h32, .ref h33, .ref h34, .ref h35, .ref h36, .int p10, .ref h37], ia h14 k13 155 (upd (upd (upd (upd (upd (upd (upd (upd (upd (upd (upd (upd (upd (upd (upd (upd (upd (upd (upd (upd (upd (upd (upd (upd (upd (upd (upd (upd (upd (upd (upd (fun _ => 0) 37 1) 96 1) 97 2) 98 3) 38 1) 49 1) 140 1) 100 1) 144 1) 101 2) 148 1) 102 3) 152 1) 39 1) 57 2) 141 2) 104 1) 145 2) 105 2) 149 2) 106 3) 153 2) 40 1) 65 3) 142 3) 108 1) 146 3) 109 2) 150 3) 110 3) 154 3)] H) _ hS
    refine tp_pc (pc' := 96) (by rfl) ?_
    refine lv_iinc (v := 4) (lv' := [(2, .int 4), (1, .int 3), (0, .ref h0)]) hx hb d_Ref_beginState_96 hl (k := 0) rfl (by first | rfl | decide) (by decide) rfl ?_
    clear hl ls
    intro ls hl
    refine lv_goto (tgt := 62) hx hb d_Ref_beginState_99 (by decide) ?_
    refine tp_pc (pc' := 62) (by rfl) ?_
    refine lv_iload_n hx hb d_Ref_beginState_62 rfl (lv_at hl 0 rfl) ?_
    refine lv_iconst (v := 4) hx hb d_Ref_beginState_63 (by decide) ?_
    refine lv_icmp_ge (tgt := 102) hx hb d_Ref_beginState_64 (by decide) (fun c_26 => ?_) (fun c_26 => absurd c_26 (by decide))
    refine tp_pc (pc' := 102) (by rfl) ?_
    refine lv_iinc (v := 4) (lv' := [(1, .int 4), (2, .int 4), (0, .ref h0)]) hx hb d_Ref_beginState_102 hl (k := 1) rfl (by first | rfl | decide) (by decide) rfl ?_
    clear hl ls
    intro ls hl
    refine lv_goto (tgt := 32) hx hb d_Ref_beginState_105 (by decide) ?_
    refine tp_pc (pc' := 32) (by rfl) ?_
    refine lv_iload_n hx hb d_Ref_beginState_32 rfl (lv_at hl 0 rfl) ?_
    refine lv_iconst (v := 4) hx hb d_Ref_beginState_33 (by decide) ?_
    refine lv_icmp_ge (tgt := 108) hx hb d_Ref_beginState_34 (by decide) (fun c_27 => ?_) (fun c_27 => absurd c_27 (by decide))
    refine tp_pc (pc' := 108) (by rfl) ?_
    refine lv_aload_n hx hb d_Ref_beginState_108 rfl (lv_at hl 2 rfl) ?_
    refine va_get (D := (dC, dI)) (ci := 8) (v := .ref h14) (C := R_Ref) (T := F_Ref) (N := 48) hx hb hw i_Ref hown hK hP 0 rfl rfl 16 (by decide) (hw _ m_915) (fun _ h9 => h9) rfl d_Ref_beginState_109 ?_
    refine lv_bipush (v := 15) hx hb d_Ref_beginState_112 (by decide) ?_
    refine lv_iconst (v := 4) hx hb d_Ref_beginState_114 (by decide) ?_
    refine va_iast (D := (dC, dI)) hx hb hK hP (dd_D hD rfl) hS 1 0 rfl rfl (i := 15) (x := 4) (vp_c (by decide)) d_Ref_beginState_115 ?_
    clear hP hS locs H
    intro H locs (hP : va_P (dC, dI) classes [oc h0 8 [.int p0, .int p1, .ref h1, .ref h2, .ref h3, .ref h4, .ref h5, .ref h6, .ref h7, .ref h8, .ref h9, .ref h10, .ref h11, .ref h12, .int p2, .ref h13, .ref h14, .ref h15, .ref h16, .int 3, .int p4, .ref h17, .ref h18, .ref h19, .int p5, .ref h20, .int p6, .int p7, .ref h21, .ref h22, .ref h23, .ref h24, .ref h25, .ref h26, .ref h27, .ref h28, .int p8, .int p9, .ref h29, .ref h30, .ref h31, .ref h32, .ref h33, .ref h34, .ref h35, .ref h36, .int p10, .ref h37], ia h14 k13 155 (upd (upd (upd (upd (upd (upd (upd (upd (upd (upd (upd (upd (upd (upd (upd (upd (upd (upd (upd (upd (upd (upd (upd (upd (upd (upd (upd (upd (upd (upd (upd (upd (fun _ => 0) 37 1) 96 1) 97 2) 98 3) 38 1) 49 1) 140 1) 100 1) 144 1) 101 2) 148 1) 102 3) 152 1) 39 1) 57 2) 141 2) 104 1) 145 2) 105 2) 149 2) 106 3) 153 2) 40 1) 65 3) 142 3) 108 1) 146 3) 109 2) 150 3) 110 3) 154 3) 15 4)] H) _ hS
    refine tp_pc (pc' := 116) (by rfl) ?_
    obtain ⟨hP9, hD9, -⟩ := cut3 (wc := [oc h0 8 [.int p0, .int p1, .ref h1, .ref h2, .ref h3, .ref h4, .ref h5, .ref h6, .ref h7, .ref h8, .ref h9, .ref h10, .ref h11, .ref h12, .int p2, .ref h13, .ref h14, .ref h15, .ref h16, .int 3, .int p4, .ref h17, .ref h18, .ref h19, .int p5, .ref h20, .int p6, .int p7, .ref h21, .ref h22, .ref h23, .ref h24, .ref h25, .ref h26, .ref h27, .ref h28, .int p8, .int p9, .ref h29, .ref h30, .ref h31, .ref h32, .ref h33, .ref h34, .ref h35, .ref h36, .int p10, .ref h37], ia h14 k13 155 (upd (upd (upd (upd (upd (upd (upd (upd (upd (upd (upd (upd (upd (upd (upd (upd (upd (upd (upd (upd (upd (upd (upd (upd (upd (upd (upd (upd (upd (upd (upd (upd (fun _ => 0) 37 1) 96 1) 97 2) 98 3) 38 1) 49 1) 140 1) 100 1) 144 1) 101 2) 148 1) 102 3) 152 1) 39 1) 57 2) 141 2) 104 1) 145 2) 105 2) 149 2) 106 3) 153 2) 40 1) 65 3) 142 3) 108 1) 146 3) 109 2) 150 3) 110 3) 154 3) 15 4)]) hP hD rfl hS hA [0, 1] (by decide +kernel) rfl
    have hK9 := hK.sub (tys' := []) [] rfl
    refine W.widen (k := 0) (n := 0) (by exact Nat.le_of_ble_eq_true rfl) (by exact Nat.le_of_ble_eq_true rfl) ?_
    exact W.vret hx hb hr (fun t ht hW => ⟨⟨(), rfl, trivial, by rw [ht]; exact hP9, va_K.moved hW.alike hK9, hD9⟩, hS.F ht⟩) hS.2.2 d_Ref_beginState_116
set_option maxHeartbeats 4000000 in
set_option maxRecDepth 100000 in
theorem c_Ref_bits_v28 (l : Launch) (dC : Nat → ClassId) (dI : Nat → Nat → Nat) (h0 : Nat) (p0 : Int64) (p2 : Int32) (p3 : Int32) (h1 : Nat) (h2 : Nat) (h3 : Nat) (h4 : Nat) (h5 : Nat) (h6 : Nat) (h7 : Nat) (h8 : Nat) (h9 : Nat) (h10 : Nat) (h11 : Nat) (h12 : Nat) (p4 : Int32) (h13 : Nat) (h14 : Nat) (h15 : Nat) (h16 : Nat) (p5 : Int32) (p6 : Int32) (h17 : Nat) (h18 : Nat) (h19 : Nat) (p7 : Int32) (h20 : Nat) (p9 : Int32) (h21 : Nat) (h22 : Nat) (h23 : Nat) (h24 : Nat) (h25 : Nat) (h26 : Nat) (h27 : Nat) (h28 : Nat) (p10 : Int32) (p11 : Int32) (h29 : Nat) (h30 : Nat) (h31 : Nat) (h32 : Nat) (h33 : Nat) (h34 : Nat) (h35 : Nat) (h36 : Nat) (p12 : Int32) (h37 : Nat) (k19 : ClassId) (f19 : Nat → Int64) (sz : Nat) : Met l y_Ref_bits w_Ref_bits ({ frames := 0, cells := 0, slots := 0, locals := 0 }) (va_Pc [.ref h0, .long p0, .int 4] (fun U => U.heap.size = sz ∧ va_P (dC, dI) classes [oc h0 8 [.int p2, .int p3, .ref h1, .ref h2, .ref h3, .ref h4, .ref h5, .ref h6, .ref h7, .ref h8, .ref h9, .ref h10, .ref h11, .ref h12, .int p4, .ref h13, .ref h14, .ref h15, .ref h16, .int p5, .int p6, .ref h17, .ref h18, .ref h19, .int p7, .ref h20, .int 68, .int p9, .ref h21, .ref h22, .ref h23, .ref h24, .ref h25, .ref h26, .ref h27, .ref h28, .int p10, .int p11, .ref h29, .ref h30, .ref h31, .ref h32, .ref h33, .ref h34, .ref h35, .ref h36, .int p12, .ref h37], la h20 k19 5 f19] U.heap ∧ va_K (dC, dI) classes [(k19, .long)] U ∧ va_D (fun _ => True) [oc h0 8 [.int p2, .int p3, .ref h1, .ref h2, .ref h3, .ref h4, .ref h5, .ref h6, .ref h7, .ref h8, .ref h9, .ref h10, .ref h11, .ref h12, .int p4, .ref h13, .ref h14, .ref h15, .ref h16, .int p5, .int p6, .ref h17, .ref h18, .ref h19, .int p7, .ref h20, .int 68, .int p9, .ref h21, .ref h22, .ref h23, .ref h24, .ref h25, .ref h26, .ref h27, .ref h28, .int p10, .int p11, .ref h29, .ref h30, .ref h31, .ref h32, .ref h33, .ref h34, .ref h35, .ref h36, .int p12, .ref h37], la h20 k19 5 f19] ∧ nw U)) (va_Qv (fun _ : Unit => True) (fun _ t => va_P (dC, dI) classes [oc h0 8 [.int p2, .int p3, .ref h1, .ref h2, .ref h3, .ref h4, .ref h5, .ref h6, .ref h7, .ref h8, .ref h9, .ref h10, .ref h11, .ref h12, .int p4, .ref h13, .ref h14, .ref h15, .ref h16, .int p5, .int p6, .ref h17, .ref h18, .ref h19, .int p7, .ref h20, .int 72, .int p9, .ref h21, .ref h22, .ref h23, .ref h24, .ref h25, .ref h26, .ref h27, .ref h28, .int p10, .int p11, .ref h29, .ref h30, .ref h31, .ref h32, .ref h33, .ref h34, .ref h35, .ref h36, .int p12, .ref h37], la h20 k19 5 (vp_updL f19 1 ((f19 1) ||| (p0 <<< ((4 : Int32).toInt64 &&& 63))))] t.heap ∧ va_K (dC, dI) classes [] t ∧ va_D (va_A [oc h0 8 [.int p2, .int p3, .ref h1, .ref h2, .ref h3, .ref h4, .ref h5, .ref h6, .ref h7, .ref h8, .ref h9, .ref h10, .ref h11, .ref h12, .int p4, .ref h13, .ref h14, .ref h15, .ref h16, .int p5, .int p6, .ref h17, .ref h18, .ref h19, .int p7, .ref h20, .int 68, .int p9, .ref h21, .ref h22, .ref h23, .ref h24, .ref h25, .ref h26, .ref h27, .ref h28, .int p10, .int p11, .ref h29, .ref h30, .ref h31, .ref h32, .ref h33, .ref h34, .ref h35, .ref h36, .int p12, .ref h37], la h20 k19 5 f19] sz) [oc h0 8 [.int p2, .int p3, .ref h1, .ref h2, .ref h3, .ref h4, .ref h5, .ref h6, .ref h7, .ref h8, .ref h9, .ref h10, .ref h11, .ref h12, .int p4, .ref h13, .ref h14, .ref h15, .ref h16, .int p5, .int p6, .ref h17, .ref h18, .ref h19, .int p7, .ref h20, .int 72, .int p9, .ref h21, .ref h22, .ref h23, .ref h24, .ref h25, .ref h26, .ref h27, .ref h28, .int p10, .int p11, .ref h29, .ref h30, .ref h31, .ref h32, .ref h33, .ref h34, .ref h35, .ref h36, .int p12, .ref h37], la h20 k19 5 (vp_updL f19 1 ((f19 1) ||| (p0 <<< ((4 : Int32).toInt64 &&& 63))))]) (va_A [oc h0 8 [.int p2, .int p3, .ref h1, .ref h2, .ref h3, .ref h4, .ref h5, .ref h6, .ref h7, .ref h8, .ref h9, .ref h10, .ref h11, .ref h12, .int p4, .ref h13, .ref h14, .ref h15, .ref h16, .int p5, .int p6, .ref h17, .ref h18, .ref h19, .int p7, .ref h20, .int 68, .int p9, .ref h21, .ref h22, .ref h23, .ref h24, .ref h25, .ref h26, .ref h27, .ref h28, .int p10, .int p11, .ref h29, .ref h30, .ref h31, .ref h32, .ref h33, .ref h34, .ref h35, .ref h36, .int p12, .ref h37], la h20 k19 5 f19] sz)) 0 0 (va_A [oc h0 8 [.int p2, .int p3, .ref h1, .ref h2, .ref h3, .ref h4, .ref h5, .ref h6, .ref h7, .ref h8, .ref h9, .ref h10, .ref h11, .ref h12, .int p4, .ref h13, .ref h14, .ref h15, .ref h16, .int p5, .int p6, .ref h17, .ref h18, .ref h19, .int p7, .ref h20, .int 68, .int p9, .ref h21, .ref h22, .ref h23, .ref h24, .ref h25, .ref h26, .ref h27, .ref h28, .int p10, .int p11, .ref h29, .ref h30, .ref h31, .ref h32, .ref h33, .ref h34, .ref h35, .ref h36, .int p12, .ref h37], la h20 k19 5 f19] sz) := by
  refine Met.ofW (cc := b_Ref_bits) (maxL := 6) (ret := none) (by decide) rfl ?_
  intro p e s m args below meth c s₁ B hml hv
  obtain ⟨rfl, hsz, hP, hK, hD0, hn⟩ := hv
  have hx := B.exec
  have hb := B.bytes
  have hr := B.returns
  have hw := fun w (h : w ∈ wt) => atoms_spec (ws := w_Ref_bits) B.pre w (List.mem_cons_of_mem _ h)
  have hown : s.vm.findClass R_Ref = some m.cls := findClass_of_methodNamed B.named
  have hlocks := B.notSynchronized
  subst hsz
  have hD1 := hD0.self (sz := s.heap.size)
  generalize hAe : va_A [oc h0 8 [.int p2, .int p3, .ref h1, .ref h2, .ref h3, .ref h4, .ref h5, .ref h6, .ref h7, .ref h8, .ref h9, .ref h10, .ref h11, .ref h12, .int p4, .ref h13, .ref h14, .ref h15, .ref h16, .int p5, .int p6, .ref h17, .ref h18, .ref h19, .int p7, .ref h20, .int 68, .int p9, .ref h21, .ref h22, .ref h23, .ref h24, .ref h25, .ref h26, .ref h27, .ref h28, .int p10, .int p11, .ref h29, .ref h30, .ref h31, .ref h32, .ref h33, .ref h34, .ref h35, .ref h36, .int p12, .ref h37], la h20 k19 5 f19] s.heap.size = A at hD1 ⊢
  have hA : ∀ q : Nat, s.heap.size ≤ q → A q := fun q h => by rw [← hAe]; exact Or.inr h
  have hD : dd A [h0, h20] := dd_of hD1 rfl
  clear hAe hD0 hD1
  have hS : va_S A s.heap s.heap [] := va_S.rf
  replace hP : va_P (dC, dI) classes [oc h0 8 [.int p2, .int p3, .ref h1, .ref h2, .ref h3, .ref h4, .ref h5, .ref h6, .ref h7, .ref h8, .ref h9, .ref h10, .ref h11, .ref h12, .int p4, .ref h13, .ref h14, .ref h15, .ref h16, .int p5, .int p6, .ref h17, .ref h18, .ref h19, .int p7, .ref h20, .int 68, .int p9, .ref h21, .ref h22, .ref h23, .ref h24, .ref h25, .ref h26, .ref h27, .ref h28, .int p10, .int p11, .ref h29, .ref h30, .ref h31, .ref h32, .ref h33, .ref h34, .ref h35, .ref h36, .int p12, .ref h37], la h20 k19 5 f19] s.heap := hP
  have hl := lv_entry ([.ref h0, .long p0, .int 4]) (n := 6) (Nat.le_of_ble_eq_true rfl)
  rw [lg_entry_eq]
  generalize (lg_sl ([.ref h0, .long p0, .int 4]) ++ List.replicate (6 - (lg_sl ([.ref h0, .long p0, .int 4])).length) Slot.unset).toArray = ls at hl ⊢
  replace hl : lv_has ls 6 [(0, .ref h0), (1, .long p0), (3, .int 4)] := hl
  refine lv_aload_n hx hb d_Ref_bits_0 rfl (lv_at hl 0 rfl) ?_
  refine va_get (D := (dC, dI)) (ci := 8) (v := .int 68) (C := R_Ref) (T := F_Ref) (N := 48) hx hb hw i_Ref hown hK hP 0 rfl rfl 26 (by decide) (hw _ m_925) (fun _ h9 => h9) rfl d_Ref_bits_1 ?_
  refine lv_bipush (v := 64) hx hb d_Ref_bits_4 (by decide) ?_
  refine lv_idiv hx hb d_Ref_bits_6 (by decide) ?_
  refine tp_i (y := 1) (by first | rfl | decide) ?_
  refine lv_istore (lv' := [(4, .int 1), (0, .ref h0), (1, .long p0), (3, .int 4)]) hx hb d_Ref_bits_7 hl (by decide) rfl ?_
  clear hl ls
  intro ls hl
  refine lv_aload_n hx hb d_Ref_bits_9 rfl (lv_at hl 1 rfl) ?_
  refine va_get (D := (dC, dI)) (ci := 8) (v := .int 68) (C := R_Ref) (T := F_Ref) (N := 48) hx hb hw i_Ref hown hK hP 0 rfl rfl 26 (by decide) (hw _ m_925) (fun _ h9 => h9) rfl d_Ref_bits_10 ?_
  refine lv_bipush (v := 64) hx hb d_Ref_bits_13 (by decide) ?_
  refine lv_irem hx hb d_Ref_bits_15 (by decide) ?_
  refine tp_i (y := 4) (by first | rfl | decide) ?_
  refine lv_istore (lv' := [(5, .int 4), (4, .int 1), (0, .ref h0), (1, .long p0), (3, .int 4)]) hx hb d_Ref_bits_16 hl (by decide) rfl ?_
  clear hl ls
  intro ls hl
  refine lv_aload_n hx hb d_Ref_bits_18 rfl (lv_at hl 2 rfl) ?_
  refine va_get (D := (dC, dI)) (ci := 8) (v := .ref h20) (C := R_Ref) (T := F_Ref) (N := 48) hx hb hw i_Ref hown hK hP 0 rfl rfl 25 (by decide) (hw _ m_924) (fun _ h9 => h9) rfl d_Ref_bits_19 ?_
  refine lv_iload hx hb d_Ref_bits_22 (lv_at hl 1 rfl) ?_
  refine lv_dup2_11 hx hb d_Ref_bits_24 rfl rfl ?_
  refine va_lald (D := (dC, dI)) hx hb hK hP 1 0 rfl rfl (i := 1) (vp_c (by decide)) d_Ref_bits_25 ?_
  refine tp_l (y := f19 1) (by first | rfl | decide) ?_
  refine lv_lload_n hx hb d_Ref_bits_26 rfl (lv_at hl 3 rfl) ?_
  refine lv_iload hx hb d_Ref_bits_27 (lv_at hl 0 rfl) ?_
  refine lv_lshl (v := p0 <<< ((4 : Int32).toInt64 &&& 63)) hx hb d_Ref_bits_29 (by first | rfl | decide) ?_
  refine lv_lor hx hb d_Ref_bits_30 ?_
  refine tp_l (y := (f19 1) ||| (p0 <<< ((4 : Int32).toInt64 &&& 63))) (by first | rfl | decide) ?_
  refine va_last (D := (dC, dI)) hx hb hK hP (dd_D hD rfl) hS 1 0 rfl rfl (i := 1) (x := (f19 1) ||| (p0 <<< ((4 : Int32).toInt64 &&& 63))) (vp_c (by decide)) d_Ref_bits_31 ?_
  clear hP hS
  intro H locs (hP : va_P (dC, dI) classes [oc h0 8 [.int p2, .int p3, .ref h1, .ref h2, .ref h3, .ref h4, .ref h5, .ref h6, .ref h7, .ref h8, .ref h9, .ref h10, .ref h11, .ref h12, .int p4, .ref h13, .ref h14, .ref h15, .ref h16, .int p5, .int p6, .ref h17, .ref h18, .ref h19, .int p7, .ref h20, .int 68, .int p9, .ref h21, .ref h22, .ref h23, .ref h24, .ref h25, .ref h26, .ref h27, .ref h28, .int p10, .int p11, .ref h29, .ref h30, .ref h31, .ref h32, .ref h33, .ref h34, .ref h35, .ref h36, .int p12, .ref h37], la h20 k19 5 (vp_updL f19 1 ((f19 1) ||| (p0 <<< ((4 : Int32).toInt64 &&& 63))))] H) _ hS
  refine tp_pc (pc' := 32) (by rfl) ?_
  refine lv_iload hx hb d_Ref_bits_32 (lv_at hl 0 rfl) ?_
  refine lv_iload_n hx hb d_Ref_bits_34 rfl (lv_at hl 4 rfl) ?_
  refine lv_iadd hx hb d_Ref_bits_35 ?_
  refine tp_i (y := 8) (by first | rfl | decide) ?_
  refine lv_bipush (v := 64) hx hb d_Ref_bits_36 (by decide) ?_
  refine lv_icmp_le (tgt := 60) hx hb d_Ref_bits_38 (by decide) (fun c_1 => ?_) (fun c_1 => absurd c_1 (by decide))
  refine tp_pc (pc' := 60) (by rfl) ?_
  refine lv_aload_n hx hb d_Ref_bits_60 rfl (lv_at hl 2 rfl) ?_
  refine lv_dup hx hb d_Ref_bits_61 rfl ?_
  refine va_get (D := (dC, dI)) (ci := 8) (v := .int 68) (C := R_Ref) (T := F_Ref) (N := 48) hx hb hw i_Ref hown hK hP 0 rfl rfl 26 (by decide) (hw _ m_925) (fun _ h9 => h9) rfl d_Ref_bits_62 ?_
  refine lv_iload_n hx hb d_Ref_bits_65 rfl (lv_at hl 4 rfl) ?_
  refine lv_iadd hx hb d_Ref_bits_66 ?_
  refine tp_i (y := 72) (by first | rfl | decide) ?_
  refine va_put (D := (dC, dI)) (ci := 8) (v := .int 72) (ty := .int) (C := R_Ref) (T := F_Ref) (N := 48) hx hb hw i_Ref t_Ref t_Ref_ok n_Ref hown hK hP (dd_D hD rfl) hS 0 rfl rfl 26 (by decide) (hw _ m_925) (fun _ h9 => h9) rfl (by decide +kernel) rfl rfl (Nat.le_of_ble_eq_true rfl) d_Ref_bits_67 ?_
  clear hP hS locs H
  intro H locs (hP : va_P (dC, dI) classes [oc h0 8 [.int p2, .int p3, .ref h1, .ref h2, .ref h3, .ref h4, .ref h5, .ref h6, .ref h7, .ref h8, .ref h9, .ref h10, .ref h11, .ref h12, .int p4, .ref h13, .ref h14, .ref h15, .ref h16, .int p5, .int p6, .ref h17, .ref h18, .ref h19, .int p7, .ref h20, .int 72, .int p9, .ref h21, .ref h22, .ref h23, .ref h24, .ref h25, .ref h26, .ref h27, .ref h28, .int p10, .int p11, .ref h29, .ref h30, .ref h31, .ref h32, .ref h33, .ref h34, .ref h35, .ref h36, .int p12, .ref h37], la h20 k19 5 (vp_updL f19 1 ((f19 1) ||| (p0 <<< ((4 : Int32).toInt64 &&& 63))))] H) _ hS
  refine tp_pc (pc' := 70) (by rfl) ?_
  obtain ⟨hP9, hD9, -⟩ := cut3 (wc := [oc h0 8 [.int p2, .int p3, .ref h1, .ref h2, .ref h3, .ref h4, .ref h5, .ref h6, .ref h7, .ref h8, .ref h9, .ref h10, .ref h11, .ref h12, .int p4, .ref h13, .ref h14, .ref h15, .ref h16, .int p5, .int p6, .ref h17, .ref h18, .ref h19, .int p7, .ref h20, .int 72, .int p9, .ref h21, .ref h22, .ref h23, .ref h24, .ref h25, .ref h26, .ref h27, .ref h28, .int p10, .int p11, .ref h29, .ref h30, .ref h31, .ref h32, .ref h33, .ref h34, .ref h35, .ref h36, .int p12, .ref h37], la h20 k19 5 (vp_updL f19 1 ((f19 1) ||| (p0 <<< ((4 : Int32).toInt64 &&& 63))))]) hP hD rfl hS hA [0, 1] (by decide +kernel) rfl
  have hK9 := hK.sub (tys' := []) [] rfl
  refine W.widen (k := 0) (n := 0) (by exact Nat.le_of_ble_eq_true rfl) (by exact Nat.le_of_ble_eq_true rfl) ?_
  exact W.vret hx hb hr (fun t ht hW => ⟨⟨(), rfl, trivial, by rw [ht]; exact hP9, va_K.moved hW.alike hK9, hD9⟩, hS.F ht⟩) hS.2.2 d_Ref_bits_70
