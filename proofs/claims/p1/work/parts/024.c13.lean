set_option maxHeartbeats 4000000 in
set_option maxRecDepth 100000 in
theorem c_OutcomeSet_valueOf (l : Launch) (dC : Nat → ClassId) (dI : Nat → Nat → Nat) (h0 : Nat) (p0 : Int32) (p1 : Int32) (p2 : Int32) (h1 : Nat) (h2 : Nat) (h3 : Nat) (h4 : Nat) (h5 : Nat) (p4 : Int32) (p5 : Int32) (k0 : ClassId) (k1 : ClassId) (k4 : ClassId) (sz : Nat) : Met l y_OutcomeSet_valueOf w_OutcomeSet_valueOf ({ frames := 0, cells := 0, slots := 0, locals := 0 }) (va_Pc [.ref h0, .int p0, .int p1] (fun U => U.heap.size = sz ∧ va_P (dC, dI) classes [oc h0 3 [.int p2, .ref h1, .ref h2, .ref h3, .ref h4, .ref h5, .int 1, .int p4, .int p5], la h1 k0 8 (vp_updL (fun _ => 0) 0 36312488334073920), ia h2 k1 8 (upd (fun _ => 0) 0 1056832), ia h5 k4 8 (fun _ => 0)] U.heap ∧ va_K (dC, dI) classes [(k0, .long), (k1, .int), (k4, .int)] U ∧ va_D (fun _ => True) [oc h0 3 [.int p2, .ref h1, .ref h2, .ref h3, .ref h4, .ref h5, .int 1, .int p4, .int p5], la h1 k0 8 (vp_updL (fun _ => 0) 0 36312488334073920), ia h2 k1 8 (upd (fun _ => 0) 0 1056832), ia h5 k4 8 (fun _ => 0)] ∧ nw U)) (va_Qi (fun (r : Int32) (_ : Unit) => r = (fv p0 p1)) (fun _ t => va_P (dC, dI) classes [oc h0 3 [.int p2, .ref h1, .ref h2, .ref h3, .ref h4, .ref h5, .int 1, .int p4, .int p5], la h1 k0 8 (vp_updL (fun _ => 0) 0 36312488334073920), ia h2 k1 8 (upd (fun _ => 0) 0 1056832), ia h5 k4 8 (fun _ => 0)] t.heap ∧ va_K (dC, dI) classes [] t ∧ va_D (va_A [oc h0 3 [.int p2, .ref h1, .ref h2, .ref h3, .ref h4, .ref h5, .int 1, .int p4, .int p5], la h1 k0 8 (vp_updL (fun _ => 0) 0 36312488334073920), ia h2 k1 8 (upd (fun _ => 0) 0 1056832), ia h5 k4 8 (fun _ => 0)] sz) [oc h0 3 [.int p2, .ref h1, .ref h2, .ref h3, .ref h4, .ref h5, .int 1, .int p4, .int p5], la h1 k0 8 (vp_updL (fun _ => 0) 0 36312488334073920), ia h2 k1 8 (upd (fun _ => 0) 0 1056832), ia h5 k4 8 (fun _ => 0)]) (va_A [oc h0 3 [.int p2, .ref h1, .ref h2, .ref h3, .ref h4, .ref h5, .int 1, .int p4, .int p5], la h1 k0 8 (vp_updL (fun _ => 0) 0 36312488334073920), ia h2 k1 8 (upd (fun _ => 0) 0 1056832), ia h5 k4 8 (fun _ => 0)] sz)) 0 0 (va_A [oc h0 3 [.int p2, .ref h1, .ref h2, .ref h3, .ref h4, .ref h5, .int 1, .int p4, .int p5], la h1 k0 8 (vp_updL (fun _ => 0) 0 36312488334073920), ia h2 k1 8 (upd (fun _ => 0) 0 1056832), ia h5 k4 8 (fun _ => 0)] sz) := by
  refine Met.ofW (cc := b_OutcomeSet_valueOf) (maxL := 7) (ret := (some .int)) (by decide) rfl ?_
  intro p e s m args below meth c s₁ B hml hv
  obtain ⟨rfl, hsz, hP, hK, hD0, hn⟩ := hv
  have hx := B.exec
  have hb := B.bytes
  have hr := B.returns
  have hw := fun w (h : w ∈ wt) => atoms_spec (ws := w_OutcomeSet_valueOf) B.pre w (List.mem_cons_of_mem _ h)
  have hown : s.vm.findClass R_OutcomeSet = some m.cls := findClass_of_methodNamed B.named
  have hlocks := B.notSynchronized
  subst hsz
  have hD1 := hD0.self (sz := s.heap.size)
  generalize hAe : va_A [oc h0 3 [.int p2, .ref h1, .ref h2, .ref h3, .ref h4, .ref h5, .int 1, .int p4, .int p5], la h1 k0 8 (vp_updL (fun _ => 0) 0 36312488334073920), ia h2 k1 8 (upd (fun _ => 0) 0 1056832), ia h5 k4 8 (fun _ => 0)] s.heap.size = A at hD1 ⊢
  have hA : ∀ q : Nat, s.heap.size ≤ q → A q := fun q h => by rw [← hAe]; exact Or.inr h
  have hD : dd A [h0, h1, h2, h5] := dd_of hD1 rfl
  clear hAe hD0 hD1
  have hS : va_S A s.heap s.heap [] := va_S.rf
  replace hP : va_P (dC, dI) classes [oc h0 3 [.int p2, .ref h1, .ref h2, .ref h3, .ref h4, .ref h5, .int 1, .int p4, .int p5], la h1 k0 8 (vp_updL (fun _ => 0) 0 36312488334073920), ia h2 k1 8 (upd (fun _ => 0) 0 1056832), ia h5 k4 8 (fun _ => 0)] s.heap := hP
  have hl := lv_entry ([.ref h0, .int p0, .int p1]) (n := 7) (Nat.le_of_ble_eq_true rfl)
  rw [lg_entry_eq]
  generalize (lg_sl ([.ref h0, .int p0, .int p1]) ++ List.replicate (7 - (lg_sl ([.ref h0, .int p0, .int p1])).length) Slot.unset).toArray = ls at hl ⊢
  replace hl : lv_has ls 7 [(0, .ref h0), (1, .int p0), (2, .int p1)] := hl
  rcases sw_0_0 p0 with rfl | hs_1
  · skip
    rcases sw_0_10 p1 with rfl | rfl | rfl | rfl | rfl | rfl | rfl | rfl | rfl | rfl | rfl | hs_2
    · skip
      refine lv_iload_n hx hb d_OutcomeSet_valueOf_0 rfl (lv_at hl 1 rfl) ?_
      refine lv_if_lt (tgt := 22) hx hb d_OutcomeSet_valueOf_1 (by decide) (fun c_3 => absurd c_3 (by decide)) (fun c_3 => ?_)
      refine tp_pc (pc' := 4) (by rfl) ?_
      refine lv_iload_n hx hb d_OutcomeSet_valueOf_4 rfl (lv_at hl 1 rfl) ?_
      refine lv_aload_n hx hb d_OutcomeSet_valueOf_5 rfl (lv_at hl 0 rfl) ?_
      refine va_get (D := (dC, dI)) (ci := 3) (v := .int 1) (C := R_OutcomeSet) (T := F_OutcomeSet) (N := 9) hx hb hw i_OutcomeSet hown hK hP 0 rfl rfl 6 (by decide) (hw _ m_384) (fun _ h9 => h9) rfl d_OutcomeSet_valueOf_6 ?_
      refine lv_icmp_ge (tgt := 22) hx hb d_OutcomeSet_valueOf_9 (by decide) (fun c_4 => absurd c_4 (by decide)) (fun c_4 => ?_)
      refine tp_pc (pc' := 12) (by rfl) ?_
      refine lv_iload_n hx hb d_OutcomeSet_valueOf_12 rfl (lv_at hl 2 rfl) ?_
      refine lv_if_lt (tgt := 22) hx hb d_OutcomeSet_valueOf_13 (by decide) (fun c_5 => absurd c_5 (by decide)) (fun c_5 => ?_)
      refine tp_pc (pc' := 16) (by rfl) ?_
      refine lv_iload_n hx hb d_OutcomeSet_valueOf_16 rfl (lv_at hl 2 rfl) ?_
      refine lv_bipush (v := 11) hx hb d_OutcomeSet_valueOf_17 (by decide) ?_
      refine lv_icmp_lt (tgt := 26) hx hb d_OutcomeSet_valueOf_19 (by decide) (fun c_6 => ?_) (fun c_6 => absurd c_6 (by decide))
      refine tp_pc (pc' := 26) (by rfl) ?_
      refine lv_aload_n hx hb d_OutcomeSet_valueOf_26 rfl (lv_at hl 0 rfl) ?_
      refine va_get (D := (dC, dI)) (ci := 3) (v := .ref h5) (C := R_OutcomeSet) (T := F_OutcomeSet) (N := 9) hx hb hw i_OutcomeSet hown hK hP 0 rfl rfl 5 (by decide) (hw _ m_383) (fun _ h9 => h9) rfl d_OutcomeSet_valueOf_27 ?_
      refine lv_iload_n hx hb d_OutcomeSet_valueOf_30 rfl (lv_at hl 1 rfl) ?_
      refine va_iald (D := (dC, dI)) hx hb hK hP 3 2 rfl rfl (i := 0) (vp_c (by decide)) d_OutcomeSet_valueOf_31 ?_
      refine tp_i (y := 0) (by first | rfl | decide) ?_
      refine lv_istore_n (lv' := [(3, .int 0), (0, .ref h0), (1, .int 0), (2, .int 0)]) hx hb d_OutcomeSet_valueOf_32 rfl hl (by decide) rfl ?_
      clear hl ls
      intro ls hl
      refine lv_iload_n hx hb d_OutcomeSet_valueOf_33 rfl (lv_at hl 3 rfl) ?_
      refine lv_bipush (v := 8) hx hb d_OutcomeSet_valueOf_34 (by decide) ?_
      refine lv_icmp_ge (tgt := 48) hx hb d_OutcomeSet_valueOf_36 (by decide) (fun c_7 => absurd c_7 (by decide)) (fun c_7 => ?_)
      refine tp_pc (pc' := 39) (by rfl) ?_
      refine lv_aload_n hx hb d_OutcomeSet_valueOf_39 rfl (lv_at hl 1 rfl) ?_
      refine va_get (D := (dC, dI)) (ci := 3) (v := .ref h1) (C := R_OutcomeSet) (T := F_OutcomeSet) (N := 9) hx hb hw i_OutcomeSet hown hK hP 0 rfl rfl 1 (by decide) (hw _ m_379) (fun _ h9 => h9) rfl d_OutcomeSet_valueOf_40 ?_
      refine lv_iload_n hx hb d_OutcomeSet_valueOf_43 rfl (lv_at hl 0 rfl) ?_
      refine va_lald (D := (dC, dI)) hx hb hK hP 1 0 rfl rfl (i := 0) (vp_c (by decide)) d_OutcomeSet_valueOf_44 ?_
      refine tp_l (y := 36312488334073920) (by first | rfl | decide) ?_
      refine lv_goto (tgt := 55) hx hb d_OutcomeSet_valueOf_45 (by decide) ?_
      refine tp_pc (pc' := 55) (by rfl) ?_
      refine lv_lstore (lv' := [(4, .long 36312488334073920), (3, .int 0), (0, .ref h0), (1, .int 0), (2, .int 0)]) hx hb d_OutcomeSet_valueOf_55 hl (by decide) rfl ?_
      clear hl ls
      intro ls hl
      refine lv_iload_n hx hb d_OutcomeSet_valueOf_57 rfl (lv_at hl 4 rfl) ?_
      refine lv_bipush (v := 8) hx hb d_OutcomeSet_valueOf_58 (by decide) ?_
      refine lv_icmp_ge (tgt := 68) hx hb d_OutcomeSet_valueOf_60 (by decide) (fun c_8 => absurd c_8 (by decide)) (fun c_8 => ?_)
      refine tp_pc (pc' := 63) (by rfl) ?_
      refine lv_bipush (v := 8) hx hb d_OutcomeSet_valueOf_63 (by decide) ?_
      refine lv_goto (tgt := 70) hx hb d_OutcomeSet_valueOf_65 (by decide) ?_
      refine tp_pc (pc' := 70) (by rfl) ?_
      refine lv_iconst (v := 1) hx hb d_OutcomeSet_valueOf_70 (by decide) ?_
      refine lv_isub hx hb d_OutcomeSet_valueOf_71 ?_
      refine tp_i (y := 7) (by first | rfl | decide) ?_
      refine lv_iload_n hx hb d_OutcomeSet_valueOf_72 rfl (lv_at hl 4 rfl) ?_
      refine lv_isub hx hb d_OutcomeSet_valueOf_73 ?_
      refine tp_i (y := 7) (by first | rfl | decide) ?_
      refine lv_istore (lv' := [(6, .int 7), (4, .long 36312488334073920), (3, .int 0), (0, .ref h0), (1, .int 0), (2, .int 0)]) hx hb d_OutcomeSet_valueOf_74 hl (by decide) rfl ?_
      clear hl ls
      intro ls hl
      refine lv_lload hx hb d_OutcomeSet_valueOf_76 (lv_at hl 1 rfl) ?_
      refine lv_bipush (v := 7) hx hb d_OutcomeSet_valueOf_78 (by decide) ?_
      refine lv_iload hx hb d_OutcomeSet_valueOf_80 (lv_at hl 0 rfl) ?_
      refine lv_imul hx hb d_OutcomeSet_valueOf_82 ?_
      refine tp_i (y := 49) (by first | rfl | decide) ?_
      refine lv_lshr (v := 64) hx hb d_OutcomeSet_valueOf_83 (by first | rfl | decide) ?_
      refine lv_ldc2 hx hb hown (hw _ m_724) d_OutcomeSet_valueOf_84 ?_
      refine lv_land hx hb d_OutcomeSet_valueOf_87 ?_
      refine tp_l (y := 64) (by first | rfl | decide) ?_
      refine lv_l2i (v := 64) hx hb d_OutcomeSet_valueOf_88 (by decide) ?_
      refine lv_bipush (v := 64) hx hb d_OutcomeSet_valueOf_89 (by decide) ?_
      refine lv_isub hx hb d_OutcomeSet_valueOf_91 ?_
      refine tp_i (y := 0) (by first | rfl | decide) ?_
      obtain ⟨hP9, hD9, -⟩ := cut3 (wc := [oc h0 3 [.int p2, .ref h1, .ref h2, .ref h3, .ref h4, .ref h5, .int 1, .int p4, .int p5], la h1 k0 8 (vp_updL (fun _ => 0) 0 36312488334073920), ia h2 k1 8 (upd (fun _ => 0) 0 1056832), ia h5 k4 8 (fun _ => 0)]) hP hD rfl hS hA [0, 1, 2, 3] (by decide +kernel) rfl
      have hK9 := hK.sub (tys' := []) [] rfl
      refine W.widen (k := 0) (n := 0) (by exact Nat.le_of_ble_eq_true rfl) (by exact Nat.le_of_ble_eq_true rfl) ?_
      exact W.iret (v := 0) hx hb hr (fun t ht hW => ⟨⟨0, (), rfl, (by first | decide | exact (fv_i (by assumption)).symm | exact (fv_w (by assumption)).symm), by rw [ht]; exact hP9, va_K.moved hW.alike hK9, hD9⟩, hS.F ht⟩) hS.2.2 d_OutcomeSet_valueOf_92
    · skip
      refine lv_iload_n hx hb d_OutcomeSet_valueOf_0 rfl (lv_at hl 1 rfl) ?_
      refine lv_if_lt (tgt := 22) hx hb d_OutcomeSet_valueOf_1 (by decide) (fun c_9 => absurd c_9 (by decide)) (fun c_9 => ?_)
      refine tp_pc (pc' := 4) (by rfl) ?_
      refine lv_iload_n hx hb d_OutcomeSet_valueOf_4 rfl (lv_at hl 1 rfl) ?_
      refine lv_aload_n hx hb d_OutcomeSet_valueOf_5 rfl (lv_at hl 0 rfl) ?_
      refine va_get (D := (dC, dI)) (ci := 3) (v := .int 1) (C := R_OutcomeSet) (T := F_OutcomeSet) (N := 9) hx hb hw i_OutcomeSet hown hK hP 0 rfl rfl 6 (by decide) (hw _ m_384) (fun _ h9 => h9) rfl d_OutcomeSet_valueOf_6 ?_
      refine lv_icmp_ge (tgt := 22) hx hb d_OutcomeSet_valueOf_9 (by decide) (fun c_10 => absurd c_10 (by decide)) (fun c_10 => ?_)
      refine tp_pc (pc' := 12) (by rfl) ?_
      refine lv_iload_n hx hb d_OutcomeSet_valueOf_12 rfl (lv_at hl 2 rfl) ?_
      refine lv_if_lt (tgt := 22) hx hb d_OutcomeSet_valueOf_13 (by decide) (fun c_11 => absurd c_11 (by decide)) (fun c_11 => ?_)
      refine tp_pc (pc' := 16) (by rfl) ?_
      refine lv_iload_n hx hb d_OutcomeSet_valueOf_16 rfl (lv_at hl 2 rfl) ?_
      refine lv_bipush (v := 11) hx hb d_OutcomeSet_valueOf_17 (by decide) ?_
      refine lv_icmp_lt (tgt := 26) hx hb d_OutcomeSet_valueOf_19 (by decide) (fun c_12 => ?_) (fun c_12 => absurd c_12 (by decide))
      refine tp_pc (pc' := 26) (by rfl) ?_
      refine lv_aload_n hx hb d_OutcomeSet_valueOf_26 rfl (lv_at hl 0 rfl) ?_
      refine va_get (D := (dC, dI)) (ci := 3) (v := .ref h5) (C := R_OutcomeSet) (T := F_OutcomeSet) (N := 9) hx hb hw i_OutcomeSet hown hK hP 0 rfl rfl 5 (by decide) (hw _ m_383) (fun _ h9 => h9) rfl d_OutcomeSet_valueOf_27 ?_
      refine lv_iload_n hx hb d_OutcomeSet_valueOf_30 rfl (lv_at hl 1 rfl) ?_
      refine va_iald (D := (dC, dI)) hx hb hK hP 3 2 rfl rfl (i := 0) (vp_c (by decide)) d_OutcomeSet_valueOf_31 ?_
      refine tp_i (y := 0) (by first | rfl | decide) ?_
      refine lv_istore_n (lv' := [(3, .int 0), (0, .ref h0), (1, .int 0), (2, .int 1)]) hx hb d_OutcomeSet_valueOf_32 rfl hl (by decide) rfl ?_
      clear hl ls
      intro ls hl
      refine lv_iload_n hx hb d_OutcomeSet_valueOf_33 rfl (lv_at hl 3 rfl) ?_
      refine lv_bipush (v := 8) hx hb d_OutcomeSet_valueOf_34 (by decide) ?_
      refine lv_icmp_ge (tgt := 48) hx hb d_OutcomeSet_valueOf_36 (by decide) (fun c_13 => absurd c_13 (by decide)) (fun c_13 => ?_)
      refine tp_pc (pc' := 39) (by rfl) ?_
      refine lv_aload_n hx hb d_OutcomeSet_valueOf_39 rfl (lv_at hl 1 rfl) ?_
      refine va_get (D := (dC, dI)) (ci := 3) (v := .ref h1) (C := R_OutcomeSet) (T := F_OutcomeSet) (N := 9) hx hb hw i_OutcomeSet hown hK hP 0 rfl rfl 1 (by decide) (hw _ m_379) (fun _ h9 => h9) rfl d_OutcomeSet_valueOf_40 ?_
      refine lv_iload_n hx hb d_OutcomeSet_valueOf_43 rfl (lv_at hl 0 rfl) ?_
      refine va_lald (D := (dC, dI)) hx hb hK hP 1 0 rfl rfl (i := 0) (vp_c (by decide)) d_OutcomeSet_valueOf_44 ?_
      refine tp_l (y := 36312488334073920) (by first | rfl | decide) ?_
      refine lv_goto (tgt := 55) hx hb d_OutcomeSet_valueOf_45 (by decide) ?_
      refine tp_pc (pc' := 55) (by rfl) ?_
      refine lv_lstore (lv' := [(4, .long 36312488334073920), (3, .int 0), (0, .ref h0), (1, .int 0), (2, .int 1)]) hx hb d_OutcomeSet_valueOf_55 hl (by decide) rfl ?_
      clear hl ls
      intro ls hl
      refine lv_iload_n hx hb d_OutcomeSet_valueOf_57 rfl (lv_at hl 4 rfl) ?_
      refine lv_bipush (v := 8) hx hb d_OutcomeSet_valueOf_58 (by decide) ?_
      refine lv_icmp_ge (tgt := 68) hx hb d_OutcomeSet_valueOf_60 (by decide) (fun c_14 => absurd c_14 (by decide)) (fun c_14 => ?_)
      refine tp_pc (pc' := 63) (by rfl) ?_
      refine lv_bipush (v := 8) hx hb d_OutcomeSet_valueOf_63 (by decide) ?_
      refine lv_goto (tgt := 70) hx hb d_OutcomeSet_valueOf_65 (by decide) ?_
      refine tp_pc (pc' := 70) (by rfl) ?_
      refine lv_iconst (v := 1) hx hb d_OutcomeSet_valueOf_70 (by decide) ?_
      refine lv_isub hx hb d_OutcomeSet_valueOf_71 ?_
      refine tp_i (y := 7) (by first | rfl | decide) ?_
      refine lv_iload_n hx hb d_OutcomeSet_valueOf_72 rfl (lv_at hl 4 rfl) ?_
      refine lv_isub hx hb d_OutcomeSet_valueOf_73 ?_
      refine tp_i (y := 6) (by first | rfl | decide) ?_
      refine lv_istore (lv' := [(6, .int 6), (4, .long 36312488334073920), (3, .int 0), (0, .ref h0), (1, .int 0), (2, .int 1)]) hx hb d_OutcomeSet_valueOf_74 hl (by decide) rfl ?_
      clear hl ls
      intro ls hl
      refine lv_lload hx hb d_OutcomeSet_valueOf_76 (lv_at hl 1 rfl) ?_
      refine lv_bipush (v := 7) hx hb d_OutcomeSet_valueOf_78 (by decide) ?_
      refine lv_iload hx hb d_OutcomeSet_valueOf_80 (lv_at hl 0 rfl) ?_
      refine lv_imul hx hb d_OutcomeSet_valueOf_82 ?_
      refine tp_i (y := 42) (by first | rfl | decide) ?_
      refine lv_lshr (v := 8256) hx hb d_OutcomeSet_valueOf_83 (by first | rfl | decide) ?_
      refine lv_ldc2 hx hb hown (hw _ m_724) d_OutcomeSet_valueOf_84 ?_
      refine lv_land hx hb d_OutcomeSet_valueOf_87 ?_
      refine tp_l (y := 64) (by first | rfl | decide) ?_
      refine lv_l2i (v := 64) hx hb d_OutcomeSet_valueOf_88 (by decide) ?_
      refine lv_bipush (v := 64) hx hb d_OutcomeSet_valueOf_89 (by decide) ?_
      refine lv_isub hx hb d_OutcomeSet_valueOf_91 ?_
      refine tp_i (y := 0) (by first | rfl | decide) ?_
      obtain ⟨hP9, hD9, -⟩ := cut3 (wc := [oc h0 3 [.int p2, .ref h1, .ref h2, .ref h3, .ref h4, .ref h5, .int 1, .int p4, .int p5], la h1 k0 8 (vp_updL (fun _ => 0) 0 36312488334073920), ia h2 k1 8 (upd (fun _ => 0) 0 1056832), ia h5 k4 8 (fun _ => 0)]) hP hD rfl hS hA [0, 1, 2, 3] (by decide +kernel) rfl
      have hK9 := hK.sub (tys' := []) [] rfl
      refine W.widen (k := 0) (n := 0) (by exact Nat.le_of_ble_eq_true rfl) (by exact Nat.le_of_ble_eq_true rfl) ?_
      exact W.iret (v := 0) hx hb hr (fun t ht hW => ⟨⟨0, (), rfl, (by first | decide | exact (fv_i (by assumption)).symm | exact (fv_w (by assumption)).symm), by rw [ht]; exact hP9, va_K.moved hW.alike hK9, hD9⟩, hS.F ht⟩) hS.2.2 d_OutcomeSet_valueOf_92
    · skip
      refine lv_iload_n hx hb d_OutcomeSet_valueOf_0 rfl (lv_at hl 1 rfl) ?_
      refine lv_if_lt (tgt := 22) hx hb d_OutcomeSet_valueOf_1 (by decide) (fun c_15 => absurd c_15 (by decide)) (fun c_15 => ?_)
      refine tp_pc (pc' := 4) (by rfl) ?_
      refine lv_iload_n hx hb d_OutcomeSet_valueOf_4 rfl (lv_at hl 1 rfl) ?_
      refine lv_aload_n hx hb d_OutcomeSet_valueOf_5 rfl (lv_at hl 0 rfl) ?_
      refine va_get (D := (dC, dI)) (ci := 3) (v := .int 1) (C := R_OutcomeSet) (T := F_OutcomeSet) (N := 9) hx hb hw i_OutcomeSet hown hK hP 0 rfl rfl 6 (by decide) (hw _ m_384) (fun _ h9 => h9) rfl d_OutcomeSet_valueOf_6 ?_
      refine lv_icmp_ge (tgt := 22) hx hb d_OutcomeSet_valueOf_9 (by decide) (fun c_16 => absurd c_16 (by decide)) (fun c_16 => ?_)
      refine tp_pc (pc' := 12) (by rfl) ?_
      refine lv_iload_n hx hb d_OutcomeSet_valueOf_12 rfl (lv_at hl 2 rfl) ?_
      refine lv_if_lt (tgt := 22) hx hb d_OutcomeSet_valueOf_13 (by decide) (fun c_17 => absurd c_17 (by decide)) (fun c_17 => ?_)
      refine tp_pc (pc' := 16) (by rfl) ?_
      refine lv_iload_n hx hb d_OutcomeSet_valueOf_16 rfl (lv_at hl 2 rfl) ?_
      refine lv_bipush (v := 11) hx hb d_OutcomeSet_valueOf_17 (by decide) ?_
      refine lv_icmp_lt (tgt := 26) hx hb d_OutcomeSet_valueOf_19 (by decide) (fun c_18 => ?_) (fun c_18 => absurd c_18 (by decide))
      refine tp_pc (pc' := 26) (by rfl) ?_
      refine lv_aload_n hx hb d_OutcomeSet_valueOf_26 rfl (lv_at hl 0 rfl) ?_
      refine va_get (D := (dC, dI)) (ci := 3) (v := .ref h5) (C := R_OutcomeSet) (T := F_OutcomeSet) (N := 9) hx hb hw i_OutcomeSet hown hK hP 0 rfl rfl 5 (by decide) (hw _ m_383) (fun _ h9 => h9) rfl d_OutcomeSet_valueOf_27 ?_
      refine lv_iload_n hx hb d_OutcomeSet_valueOf_30 rfl (lv_at hl 1 rfl) ?_
      refine va_iald (D := (dC, dI)) hx hb hK hP 3 2 rfl rfl (i := 0) (vp_c (by decide)) d_OutcomeSet_valueOf_31 ?_
      refine tp_i (y := 0) (by first | rfl | decide) ?_
      refine lv_istore_n (lv' := [(3, .int 0), (0, .ref h0), (1, .int 0), (2, .int 2)]) hx hb d_OutcomeSet_valueOf_32 rfl hl (by decide) rfl ?_
      clear hl ls
      intro ls hl
      refine lv_iload_n hx hb d_OutcomeSet_valueOf_33 rfl (lv_at hl 3 rfl) ?_
      refine lv_bipush (v := 8) hx hb d_OutcomeSet_valueOf_34 (by decide) ?_
      refine lv_icmp_ge (tgt := 48) hx hb d_OutcomeSet_valueOf_36 (by decide) (fun c_19 => absurd c_19 (by decide)) (fun c_19 => ?_)
      refine tp_pc (pc' := 39) (by rfl) ?_
      refine lv_aload_n hx hb d_OutcomeSet_valueOf_39 rfl (lv_at hl 1 rfl) ?_
      refine va_get (D := (dC, dI)) (ci := 3) (v := .ref h1) (C := R_OutcomeSet) (T := F_OutcomeSet) (N := 9) hx hb hw i_OutcomeSet hown hK hP 0 rfl rfl 1 (by decide) (hw _ m_379) (fun _ h9 => h9) rfl d_OutcomeSet_valueOf_40 ?_
      refine lv_iload_n hx hb d_OutcomeSet_valueOf_43 rfl (lv_at hl 0 rfl) ?_
      refine va_lald (D := (dC, dI)) hx hb hK hP 1 0 rfl rfl (i := 0) (vp_c (by decide)) d_OutcomeSet_valueOf_44 ?_
      refine tp_l (y := 36312488334073920) (by first | rfl | decide) ?_
      refine lv_goto (tgt := 55) hx hb d_OutcomeSet_valueOf_45 (by decide) ?_
      refine tp_pc (pc' := 55) (by rfl) ?_
      refine lv_lstore (lv' := [(4, .long 36312488334073920), (3, .int 0), (0, .ref h0), (1, .int 0), (2, .int 2)]) hx hb d_OutcomeSet_valueOf_55 hl (by decide) rfl ?_
      clear hl ls
      intro ls hl
      refine lv_iload_n hx hb d_OutcomeSet_valueOf_57 rfl (lv_at hl 4 rfl) ?_
      refine lv_bipush (v := 8) hx hb d_OutcomeSet_valueOf_58 (by decide) ?_
      refine lv_icmp_ge (tgt := 68) hx hb d_OutcomeSet_valueOf_60 (by decide) (fun c_20 => absurd c_20 (by decide)) (fun c_20 => ?_)
      refine tp_pc (pc' := 63) (by rfl) ?_
      refine lv_bipush (v := 8) hx hb d_OutcomeSet_valueOf_63 (by decide) ?_
      refine lv_goto (tgt := 70) hx hb d_OutcomeSet_valueOf_65 (by decide) ?_
      refine tp_pc (pc' := 70) (by rfl) ?_
      refine lv_iconst (v := 1) hx hb d_OutcomeSet_valueOf_70 (by decide) ?_
      refine lv_isub hx hb d_OutcomeSet_valueOf_71 ?_
      refine tp_i (y := 7) (by first | rfl | decide) ?_
      refine lv_iload_n hx hb d_OutcomeSet_valueOf_72 rfl (lv_at hl 4 rfl) ?_
      refine lv_isub hx hb d_OutcomeSet_valueOf_73 ?_
      refine tp_i (y := 5) (by first | rfl | decide) ?_
      refine lv_istore (lv' := [(6, .int 5), (4, .long 36312488334073920), (3, .int 0), (0, .ref h0), (1, .int 0), (2, .int 2)]) hx hb d_OutcomeSet_valueOf_74 hl (by decide) rfl ?_
      clear hl ls
      intro ls hl
      refine lv_lload hx hb d_OutcomeSet_valueOf_76 (lv_at hl 1 rfl) ?_
      refine lv_bipush (v := 7) hx hb d_OutcomeSet_valueOf_78 (by decide) ?_
      refine lv_iload hx hb d_OutcomeSet_valueOf_80 (lv_at hl 0 rfl) ?_
      refine lv_imul hx hb d_OutcomeSet_valueOf_82 ?_
      refine tp_i (y := 35) (by first | rfl | decide) ?_
      refine lv_lshr (v := 1056832) hx hb d_OutcomeSet_valueOf_83 (by first | rfl | decide) ?_
      refine lv_ldc2 hx hb hown (hw _ m_724) d_OutcomeSet_valueOf_84 ?_
      refine lv_land hx hb d_OutcomeSet_valueOf_87 ?_
      refine tp_l (y := 64) (by first | rfl | decide) ?_
      refine lv_l2i (v := 64) hx hb d_OutcomeSet_valueOf_88 (by decide) ?_
      refine lv_bipush (v := 64) hx hb d_OutcomeSet_valueOf_89 (by decide) ?_
      refine lv_isub hx hb d_OutcomeSet_valueOf_91 ?_
      refine tp_i (y := 0) (by first | rfl | decide) ?_
      obtain ⟨hP9, hD9, -⟩ := cut3 (wc := [oc h0 3 [.int p2, .ref h1, .ref h2, .ref h3, .ref h4, .ref h5, .int 1, .int p4, .int p5], la h1 k0 8 (vp_updL (fun _ => 0) 0 36312488334073920), ia h2 k1 8 (upd (fun _ => 0) 0 1056832), ia h5 k4 8 (fun _ => 0)]) hP hD rfl hS hA [0, 1, 2, 3] (by decide +kernel) rfl
      have hK9 := hK.sub (tys' := []) [] rfl
      refine W.widen (k := 0) (n := 0) (by exact Nat.le_of_ble_eq_true rfl) (by exact Nat.le_of_ble_eq_true rfl) ?_
      exact W.iret (v := 0) hx hb hr (fun t ht hW => ⟨⟨0, (), rfl, (by first | decide | exact (fv_i (by assumption)).symm | exact (fv_w (by assumption)).symm), by rw [ht]; exact hP9, va_K.moved hW.alike hK9, hD9⟩, hS.F ht⟩) hS.2.2 d_OutcomeSet_valueOf_92
    · skip
      refine lv_iload_n hx hb d_OutcomeSet_valueOf_0 rfl (lv_at hl 1 rfl) ?_
      refine lv_if_lt (tgt := 22) hx hb d_OutcomeSet_valueOf_1 (by decide) (fun c_21 => absurd c_21 (by decide)) (fun c_21 => ?_)
      refine tp_pc (pc' := 4) (by rfl) ?_
      refine lv_iload_n hx hb d_OutcomeSet_valueOf_4 rfl (lv_at hl 1 rfl) ?_
      refine lv_aload_n hx hb d_OutcomeSet_valueOf_5 rfl (lv_at hl 0 rfl) ?_
      refine va_get (D := (dC, dI)) (ci := 3) (v := .int 1) (C := R_OutcomeSet) (T := F_OutcomeSet) (N := 9) hx hb hw i_OutcomeSet hown hK hP 0 rfl rfl 6 (by decide) (hw _ m_384) (fun _ h9 => h9) rfl d_OutcomeSet_valueOf_6 ?_
      refine lv_icmp_ge (tgt := 22) hx hb d_OutcomeSet_valueOf_9 (by decide) (fun c_22 => absurd c_22 (by decide)) (fun c_22 => ?_)
      refine tp_pc (pc' := 12) (by rfl) ?_
      refine lv_iload_n hx hb d_OutcomeSet_valueOf_12 rfl (lv_at hl 2 rfl) ?_
      refine lv_if_lt (tgt := 22) hx hb d_OutcomeSet_valueOf_13 (by decide) (fun c_23 => absurd c_23 (by decide)) (fun c_23 => ?_)
      refine tp_pc (pc' := 16) (by rfl) ?_
      refine lv_iload_n hx hb d_OutcomeSet_valueOf_16 rfl (lv_at hl 2 rfl) ?_
      refine lv_bipush (v := 11) hx hb d_OutcomeSet_valueOf_17 (by decide) ?_
      refine lv_icmp_lt (tgt := 26) hx hb d_OutcomeSet_valueOf_19 (by decide) (fun c_24 => ?_) (fun c_24 => absurd c_24 (by decide))
      refine tp_pc (pc' := 26) (by rfl) ?_
      refine lv_aload_n hx hb d_OutcomeSet_valueOf_26 rfl (lv_at hl 0 rfl) ?_
      refine va_get (D := (dC, dI)) (ci := 3) (v := .ref h5) (C := R_OutcomeSet) (T := F_OutcomeSet) (N := 9) hx hb hw i_OutcomeSet hown hK hP 0 rfl rfl 5 (by decide) (hw _ m_383) (fun _ h9 => h9) rfl d_OutcomeSet_valueOf_27 ?_
      refine lv_iload_n hx hb d_OutcomeSet_valueOf_30 rfl (lv_at hl 1 rfl) ?_
      refine va_iald (D := (dC, dI)) hx hb hK hP 3 2 rfl rfl (i := 0) (vp_c (by decide)) d_OutcomeSet_valueOf_31 ?_
      refine tp_i (y := 0) (by first | rfl | decide) ?_
      refine lv_istore_n (lv' := [(3, .int 0), (0, .ref h0), (1, .int 0), (2, .int 3)]) hx hb d_OutcomeSet_valueOf_32 rfl hl (by decide) rfl ?_
      clear hl ls
      intro ls hl
      refine lv_iload_n hx hb d_OutcomeSet_valueOf_33 rfl (lv_at hl 3 rfl) ?_
      refine lv_bipush (v := 8) hx hb d_OutcomeSet_valueOf_34 (by decide) ?_
      refine lv_icmp_ge (tgt := 48) hx hb d_OutcomeSet_valueOf_36 (by decide) (fun c_25 => absurd c_25 (by decide)) (fun c_25 => ?_)
      refine tp_pc (pc' := 39) (by rfl) ?_
      refine lv_aload_n hx hb d_OutcomeSet_valueOf_39 rfl (lv_at hl 1 rfl) ?_
      refine va_get (D := (dC, dI)) (ci := 3) (v := .ref h1) (C := R_OutcomeSet) (T := F_OutcomeSet) (N := 9) hx hb hw i_OutcomeSet hown hK hP 0 rfl rfl 1 (by decide) (hw _ m_379) (fun _ h9 => h9) rfl d_OutcomeSet_valueOf_40 ?_
      refine lv_iload_n hx hb d_OutcomeSet_valueOf_43 rfl (lv_at hl 0 rfl) ?_
      refine va_lald (D := (dC, dI)) hx hb hK hP 1 0 rfl rfl (i := 0) (vp_c (by decide)) d_OutcomeSet_valueOf_44 ?_
      refine tp_l (y := 36312488334073920) (by first | rfl | decide) ?_
      refine lv_goto (tgt := 55) hx hb d_OutcomeSet_valueOf_45 (by decide) ?_
      refine tp_pc (pc' := 55) (by rfl) ?_
      refine lv_lstore (lv' := [(4, .long 36312488334073920), (3, .int 0), (0, .ref h0), (1, .int 0), (2, .int 3)]) hx hb d_OutcomeSet_valueOf_55 hl (by decide) rfl ?_
      clear hl ls
      intro ls hl
      refine lv_iload_n hx hb d_OutcomeSet_valueOf_57 rfl (lv_at hl 4 rfl) ?_
      refine lv_bipush (v := 8) hx hb d_OutcomeSet_valueOf_58 (by decide) ?_
      refine lv_icmp_ge (tgt := 68) hx hb d_OutcomeSet_valueOf_60 (by decide) (fun c_26 => absurd c_26 (by decide)) (fun c_26 => ?_)
      refine tp_pc (pc' := 63) (by rfl) ?_
      refine lv_bipush (v := 8) hx hb d_OutcomeSet_valueOf_63 (by decide) ?_
      refine lv_goto (tgt := 70) hx hb d_OutcomeSet_valueOf_65 (by decide) ?_
      refine tp_pc (pc' := 70) (by rfl) ?_
      refine lv_iconst (v := 1) hx hb d_OutcomeSet_valueOf_70 (by decide) ?_
      refine lv_isub hx hb d_OutcomeSet_valueOf_71 ?_
      refine tp_i (y := 7) (by first | rfl | decide) ?_
      refine lv_iload_n hx hb d_OutcomeSet_valueOf_72 rfl (lv_at hl 4 rfl) ?_
      refine lv_isub hx hb d_OutcomeSet_valueOf_73 ?_
      refine tp_i (y := 4) (by first | rfl | decide) ?_
      refine lv_istore (lv' := [(6, .int 4), (4, .long 36312488334073920), (3, .int 0), (0, .ref h0), (1, .int 0), (2, .int 3)]) hx hb d_OutcomeSet_valueOf_74 hl (by decide) rfl ?_
      clear hl ls
      intro ls hl
      refine lv_lload hx hb d_OutcomeSet_valueOf_76 (lv_at hl 1 rfl) ?_
      refine lv_bipush (v := 7) hx hb d_OutcomeSet_valueOf_78 (by decide) ?_
      refine lv_iload hx hb d_OutcomeSet_valueOf_80 (lv_at hl 0 rfl) ?_
      refine lv_imul hx hb d_OutcomeSet_valueOf_82 ?_
      refine tp_i (y := 28) (by first | rfl | decide) ?_
      refine lv_lshr (v := 135274560) hx hb d_OutcomeSet_valueOf_83 (by first | rfl | decide) ?_
      refine lv_ldc2 hx hb hown (hw _ m_724) d_OutcomeSet_valueOf_84 ?_
      refine lv_land hx hb d_OutcomeSet_valueOf_87 ?_
      refine tp_l (y := 64) (by first | rfl | decide) ?_
      refine lv_l2i (v := 64) hx hb d_OutcomeSet_valueOf_88 (by decide) ?_
      refine lv_bipush (v := 64) hx hb d_OutcomeSet_valueOf_89 (by decide) ?_
      refine lv_isub hx hb d_OutcomeSet_valueOf_91 ?_
      refine tp_i (y := 0) (by first | rfl | decide) ?_
      obtain ⟨hP9, hD9, -⟩ := cut3 (wc := [oc h0 3 [.int p2, .ref h1, .ref h2, .ref h3, .ref h4, .ref h5, .int 1, .int p4, .int p5], la h1 k0 8 (vp_updL (fun _ => 0) 0 36312488334073920), ia h2 k1 8 (upd (fun _ => 0) 0 1056832), ia h5 k4 8 (fun _ => 0)]) hP hD rfl hS hA [0, 1, 2, 3] (by decide +kernel) rfl
      have hK9 := hK.sub (tys' := []) [] rfl
      refine W.widen (k := 0) (n := 0) (by exact Nat.le_of_ble_eq_true rfl) (by exact Nat.le_of_ble_eq_true rfl) ?_
      exact W.iret (v := 0) hx hb hr (fun t ht hW => ⟨⟨0, (), rfl, (by first | decide | exact (fv_i (by assumption)).symm | exact (fv_w (by assumption)).symm), by rw [ht]; exact hP9, va_K.moved hW.alike hK9, hD9⟩, hS.F ht⟩) hS.2.2 d_OutcomeSet_valueOf_92
    · skip
      refine lv_iload_n hx hb d_OutcomeSet_valueOf_0 rfl (lv_at hl 1 rfl) ?_
      refine lv_if_lt (tgt := 22) hx hb d_OutcomeSet_valueOf_1 (by decide) (fun c_27 => absurd c_27 (by decide)) (fun c_27 => ?_)
      refine tp_pc (pc' := 4) (by rfl) ?_
      refine lv_iload_n hx hb d_OutcomeSet_valueOf_4 rfl (lv_at hl 1 rfl) ?_
      refine lv_aload_n hx hb d_OutcomeSet_valueOf_5 rfl (lv_at hl 0 rfl) ?_
      refine va_get (D := (dC, dI)) (ci := 3) (v := .int 1) (C := R_OutcomeSet) (T := F_OutcomeSet) (N := 9) hx hb hw i_OutcomeSet hown hK hP 0 rfl rfl 6 (by decide) (hw _ m_384) (fun _ h9 => h9) rfl d_OutcomeSet_valueOf_6 ?_
      refine lv_icmp_ge (tgt := 22) hx hb d_OutcomeSet_valueOf_9 (by decide) (fun c_28 => absurd c_28 (by decide)) (fun c_28 => ?_)
      refine tp_pc (pc' := 12) (by rfl) ?_
      refine lv_iload_n hx hb d_OutcomeSet_valueOf_12 rfl (lv_at hl 2 rfl) ?_
      refine lv_if_lt (tgt := 22) hx hb d_OutcomeSet_valueOf_13 (by decide) (fun c_29 => absurd c_29 (by decide)) (fun c_29 => ?_)
      refine tp_pc (pc' := 16) (by rfl) ?_
      refine lv_iload_n hx hb d_OutcomeSet_valueOf_16 rfl (lv_at hl 2 rfl) ?_
      refine lv_bipush (v := 11) hx hb d_OutcomeSet_valueOf_17 (by decide) ?_
      refine lv_icmp_lt (tgt := 26) hx hb d_OutcomeSet_valueOf_19 (by decide) (fun c_30 => ?_) (fun c_30 => absurd c_30 (by decide))
      refine tp_pc (pc' := 26) (by rfl) ?_
      refine lv_aload_n hx hb d_OutcomeSet_valueOf_26 rfl (lv_at hl 0 rfl) ?_
      refine va_get (D := (dC, dI)) (ci := 3) (v := .ref h5) (C := R_OutcomeSet) (T := F_OutcomeSet) (N := 9) hx hb hw i_OutcomeSet hown hK hP 0 rfl rfl 5 (by decide) (hw _ m_383) (fun _ h9 => h9) rfl d_OutcomeSet_valueOf_27 ?_
      refine lv_iload_n hx hb d_OutcomeSet_valueOf_30 rfl (lv_at hl 1 rfl) ?_
      refine va_iald (D := (dC, dI)) hx hb hK hP 3 2 rfl rfl (i := 0) (vp_c (by decide)) d_OutcomeSet_valueOf_31 ?_
      refine tp_i (y := 0) (by first | rfl | decide) ?_
      refine lv_istore_n (lv' := [(3, .int 0), (0, .ref h0), (1, .int 0), (2, .int 4)]) hx hb d_OutcomeSet_valueOf_32 rfl hl (by decide) rfl ?_
      clear hl ls
      intro ls hl
      refine lv_iload_n hx hb d_OutcomeSet_valueOf_33 rfl (lv_at hl 3 rfl) ?_
      refine lv_bipush (v := 8) hx hb d_OutcomeSet_valueOf_34 (by decide) ?_
      refine lv_icmp_ge (tgt := 48) hx hb d_OutcomeSet_valueOf_36 (by decide) (fun c_31 => absurd c_31 (by decide)) (fun c_31 => ?_)
      refine tp_pc (pc' := 39) (by rfl) ?_
      refine lv_aload_n hx hb d_OutcomeSet_valueOf_39 rfl (lv_at hl 1 rfl) ?_
      refine va_get (D := (dC, dI)) (ci := 3) (v := .ref h1) (C := R_OutcomeSet) (T := F_OutcomeSet) (N := 9) hx hb hw i_OutcomeSet hown hK hP 0 rfl rfl 1 (by decide) (hw _ m_379) (fun _ h9 => h9) rfl d_OutcomeSet_valueOf_40 ?_
      refine lv_iload_n hx hb d_OutcomeSet_valueOf_43 rfl (lv_at hl 0 rfl) ?_
      refine va_lald (D := (dC, dI)) hx hb hK hP 1 0 rfl rfl (i := 0) (vp_c (by decide)) d_OutcomeSet_valueOf_44 ?_
      refine tp_l (y := 36312488334073920) (by first | rfl | decide) ?_
      refine lv_goto (tgt := 55) hx hb d_OutcomeSet_valueOf_45 (by decide) ?_
      refine tp_pc (pc' := 55) (by rfl) ?_
      refine lv_lstore (lv' := [(4, .long 36312488334073920), (3, .int 0), (0, .ref h0), (1, .int 0), (2, .int 4)]) hx hb d_OutcomeSet_valueOf_55 hl (by decide) rfl ?_
      clear hl ls
      intro ls hl
      refine lv_iload_n hx hb d_OutcomeSet_valueOf_57 rfl (lv_at hl 4 rfl) ?_
      refine lv_bipush (v := 8) hx hb d_OutcomeSet_valueOf_58 (by decide) ?_
      refine lv_icmp_ge (tgt := 68) hx hb d_OutcomeSet_valueOf_60 (by decide) (fun c_32 => absurd c_32 (by decide)) (fun c_32 => ?_)
      refine tp_pc (pc' := 63) (by rfl) ?_
      refine lv_bipush (v := 8) hx hb d_OutcomeSet_valueOf_63 (by decide) ?_
      refine lv_goto (tgt := 70) hx hb d_OutcomeSet_valueOf_65 (by decide) ?_
      refine tp_pc (pc' := 70) (by rfl) ?_
      refine lv_iconst (v := 1) hx hb d_OutcomeSet_valueOf_70 (by decide) ?_
      refine lv_isub hx hb d_OutcomeSet_valueOf_71 ?_
      refine tp_i (y := 7) (by first | rfl | decide) ?_
      refine lv_iload_n hx hb d_OutcomeSet_valueOf_72 rfl (lv_at hl 4 rfl) ?_
      refine lv_isub hx hb d_OutcomeSet_valueOf_73 ?_
      refine tp_i (y := 3) (by first | rfl | decide) ?_
      refine lv_istore (lv' := [(6, .int 3), (4, .long 36312488334073920), (3, .int 0), (0, .ref h0), (1, .int 0), (2, .int 4)]) hx hb d_OutcomeSet_valueOf_74 hl (by decide) rfl ?_
      clear hl ls
      intro ls hl
      refine lv_lload hx hb d_OutcomeSet_valueOf_76 (lv_at hl 1 rfl) ?_
      refine lv_bipush (v := 7) hx hb d_OutcomeSet_valueOf_78 (by decide) ?_
      refine lv_iload hx hb d_OutcomeSet_valueOf_80 (lv_at hl 0 rfl) ?_
      refine lv_imul hx hb d_OutcomeSet_valueOf_82 ?_
      refine tp_i (y := 21) (by first | rfl | decide) ?_
      refine lv_lshr (v := 17315143744) hx hb d_OutcomeSet_valueOf_83 (by first | rfl | decide) ?_
      refine lv_ldc2 hx hb hown (hw _ m_724) d_OutcomeSet_valueOf_84 ?_
      refine lv_land hx hb d_OutcomeSet_valueOf_87 ?_
      refine tp_l (y := 64) (by first | rfl | decide) ?_
      refine lv_l2i (v := 64) hx hb d_OutcomeSet_valueOf_88 (by decide) ?_
      refine lv_bipush (v := 64) hx hb d_OutcomeSet_valueOf_89 (by decide) ?_
      refine lv_isub hx hb d_OutcomeSet_valueOf_91 ?_
      refine tp_i (y := 0) (by first | rfl | decide) ?_
      obtain ⟨hP9, hD9, -⟩ := cut3 (wc := [oc h0 3 [.int p2, .ref h1, .ref h2, .ref h3, .ref h4, .ref h5, .int 1, .int p4, .int p5], la h1 k0 8 (vp_updL (fun _ => 0) 0 36312488334073920), ia h2 k1 8 (upd (fun _ => 0) 0 1056832), ia h5 k4 8 (fun _ => 0)]) hP hD rfl hS hA [0, 1, 2, 3] (by decide +kernel) rfl
      have hK9 := hK.sub (tys' := []) [] rfl
      refine W.widen (k := 0) (n := 0) (by exact Nat.le_of_ble_eq_true rfl) (by exact Nat.le_of_ble_eq_true rfl) ?_
      exact W.iret (v := 0) hx hb hr (fun t ht hW => ⟨⟨0, (), rfl, (by first | decide | exact (fv_i (by assumption)).symm | exact (fv_w (by assumption)).symm), by rw [ht]; exact hP9, va_K.moved hW.alike hK9, hD9⟩, hS.F ht⟩) hS.2.2 d_OutcomeSet_valueOf_92
    · skip
      refine lv_iload_n hx hb d_OutcomeSet_valueOf_0 rfl (lv_at hl 1 rfl) ?_
      refine lv_if_lt (tgt := 22) hx hb d_OutcomeSet_valueOf_1 (by decide) (fun c_33 => absurd c_33 (by decide)) (fun c_33 => ?_)
      refine tp_pc (pc' := 4) (by rfl) ?_
      refine lv_iload_n hx hb d_OutcomeSet_valueOf_4 rfl (lv_at hl 1 rfl) ?_
      refine lv_aload_n hx hb d_OutcomeSet_valueOf_5 rfl (lv_at hl 0 rfl) ?_
      refine va_get (D := (dC, dI)) (ci := 3) (v := .int 1) (C := R_OutcomeSet) (T := F_OutcomeSet) (N := 9) hx hb hw i_OutcomeSet hown hK hP 0 rfl rfl 6 (by decide) (hw _ m_384) (fun _ h9 => h9) rfl d_OutcomeSet_valueOf_6 ?_
      refine lv_icmp_ge (tgt := 22) hx hb d_OutcomeSet_valueOf_9 (by decide) (fun c_34 => absurd c_34 (by decide)) (fun c_34 => ?_)
      refine tp_pc (pc' := 12) (by rfl) ?_
      refine lv_iload_n hx hb d_OutcomeSet_valueOf_12 rfl (lv_at hl 2 rfl) ?_
      refine lv_if_lt (tgt := 22) hx hb d_OutcomeSet_valueOf_13 (by decide) (fun c_35 => absurd c_35 (by decide)) (fun c_35 => ?_)
      refine tp_pc (pc' := 16) (by rfl) ?_
      refine lv_iload_n hx hb d_OutcomeSet_valueOf_16 rfl (lv_at hl 2 rfl) ?_
      refine lv_bipush (v := 11) hx hb d_OutcomeSet_valueOf_17 (by decide) ?_
      refine lv_icmp_lt (tgt := 26) hx hb d_OutcomeSet_valueOf_19 (by decide) (fun c_36 => ?_) (fun c_36 => absurd c_36 (by decide))
      refine tp_pc (pc' := 26) (by rfl) ?_
      refine lv_aload_n hx hb d_OutcomeSet_valueOf_26 rfl (lv_at hl 0 rfl) ?_
      refine va_get (D := (dC, dI)) (ci := 3) (v := .ref h5) (C := R_OutcomeSet) (T := F_OutcomeSet) (N := 9) hx hb hw i_OutcomeSet hown hK hP 0 rfl rfl 5 (by decide) (hw _ m_383) (fun _ h9 => h9) rfl d_OutcomeSet_valueOf_27 ?_
      refine lv_iload_n hx hb d_OutcomeSet_valueOf_30 rfl (lv_at hl 1 rfl) ?_
      refine va_iald (D := (dC, dI)) hx hb hK hP 3 2 rfl rfl (i := 0) (vp_c (by decide)) d_OutcomeSet_valueOf_31 ?_
      refine tp_i (y := 0) (by first | rfl | decide) ?_
      refine lv_istore_n (lv' := [(3, .int 0), (0, .ref h0), (1, .int 0), (2, .int 5)]) hx hb d_OutcomeSet_valueOf_32 rfl hl (by decide) rfl ?_
      clear hl ls
      intro ls hl
      refine lv_iload_n hx hb d_OutcomeSet_valueOf_33 rfl (lv_at hl 3 rfl) ?_
      refine lv_bipush (v := 8) hx hb d_OutcomeSet_valueOf_34 (by decide) ?_
      refine lv_icmp_ge (tgt := 48) hx hb d_OutcomeSet_valueOf_36 (by decide) (fun c_37 => absurd c_37 (by decide)) (fun c_37 => ?_)
      refine tp_pc (pc' := 39) (by rfl) ?_
      refine lv_aload_n hx hb d_OutcomeSet_valueOf_39 rfl (lv_at hl 1 rfl) ?_
      refine va_get (D := (dC, dI)) (ci := 3) (v := .ref h1) (C := R_OutcomeSet) (T := F_OutcomeSet) (N := 9) hx hb hw i_OutcomeSet hown hK hP 0 rfl rfl 1 (by decide) (hw _ m_379) (fun _ h9 => h9) rfl d_OutcomeSet_valueOf_40 ?_
      refine lv_iload_n hx hb d_OutcomeSet_valueOf_43 rfl (lv_at hl 0 rfl) ?_
      refine va_lald (D := (dC, dI)) hx hb hK hP 1 0 rfl rfl (i := 0) (vp_c (by decide)) d_OutcomeSet_valueOf_44 ?_
      refine tp_l (y := 36312488334073920) (by first | rfl | decide) ?_
      refine lv_goto (tgt := 55) hx hb d_OutcomeSet_valueOf_45 (by decide) ?_
      refine tp_pc (pc' := 55) (by rfl) ?_
      refine lv_lstore (lv' := [(4, .long 36312488334073920), (3, .int 0), (0, .ref h0), (1, .int 0), (2, .int 5)]) hx hb d_OutcomeSet_valueOf_55 hl (by decide) rfl ?_
      clear hl ls
      intro ls hl
      refine lv_iload_n hx hb d_OutcomeSet_valueOf_57 rfl (lv_at hl 4 rfl) ?_
      refine lv_bipush (v := 8) hx hb d_OutcomeSet_valueOf_58 (by decide) ?_
      refine lv_icmp_ge (tgt := 68) hx hb d_OutcomeSet_valueOf_60 (by decide) (fun c_38 => absurd c_38 (by decide)) (fun c_38 => ?_)
      refine tp_pc (pc' := 63) (by rfl) ?_
      refine lv_bipush (v := 8) hx hb d_OutcomeSet_valueOf_63 (by decide) ?_
      refine lv_goto (tgt := 70) hx hb d_OutcomeSet_valueOf_65 (by decide) ?_
      refine tp_pc (pc' := 70) (by rfl) ?_
      refine lv_iconst (v := 1) hx hb d_OutcomeSet_valueOf_70 (by decide) ?_
      refine lv_isub hx hb d_OutcomeSet_valueOf_71 ?_
      refine tp_i (y := 7) (by first | rfl | decide) ?_
      refine lv_iload_n hx hb d_OutcomeSet_valueOf_72 rfl (lv_at hl 4 rfl) ?_
      refine lv_isub hx hb d_OutcomeSet_valueOf_73 ?_
      refine tp_i (y := 2) (by first | rfl | decide) ?_
      refine lv_istore (lv' := [(6, .int 2), (4, .long 36312488334073920), (3, .int 0), (0, .ref h0), (1, .int 0), (2, .int 5)]) hx hb d_OutcomeSet_valueOf_74 hl (by decide) rfl ?_
      clear hl ls
      intro ls hl
      refine lv_lload hx hb d_OutcomeSet_valueOf_76 (lv_at hl 1 rfl) ?_
      refine lv_bipush (v := 7) hx hb d_OutcomeSet_valueOf_78 (by decide) ?_
      refine lv_iload hx hb d_OutcomeSet_valueOf_80 (lv_at hl 0 rfl) ?_
      refine lv_imul hx hb d_OutcomeSet_valueOf_82 ?_
      refine tp_i (y := 14) (by first | rfl | decide) ?_
      refine lv_lshr (v := 2216338399296) hx hb d_OutcomeSet_valueOf_83 (by first | rfl | decide) ?_
      refine lv_ldc2 hx hb hown (hw _ m_724) d_OutcomeSet_valueOf_84 ?_
      refine lv_land hx hb d_OutcomeSet_valueOf_87 ?_
      refine tp_l (y := 64) (by first | rfl | decide) ?_
      refine lv_l2i (v := 64) hx hb d_OutcomeSet_valueOf_88 (by decide) ?_
      refine lv_bipush (v := 64) hx hb d_OutcomeSet_valueOf_89 (by decide) ?_
      refine lv_isub hx hb d_OutcomeSet_valueOf_91 ?_
      refine tp_i (y := 0) (by first | rfl | decide) ?_
      obtain ⟨hP9, hD9, -⟩ := cut3 (wc := [oc h0 3 [.int p2, .ref h1, .ref h2, .ref h3, .ref h4, .ref h5, .int 1, .int p4, .int p5], la h1 k0 8 (vp_updL (fun _ => 0) 0 36312488334073920), ia h2 k1 8 (upd (fun _ => 0) 0 1056832), ia h5 k4 8 (fun _ => 0)]) hP hD rfl hS hA [0, 1, 2, 3] (by decide +kernel) rfl
      have hK9 := hK.sub (tys' := []) [] rfl
      refine W.widen (k := 0) (n := 0) (by exact Nat.le_of_ble_eq_true rfl) (by exact Nat.le_of_ble_eq_true rfl) ?_
      exact W.iret (v := 0) hx hb hr (fun t ht hW => ⟨⟨0, (), rfl, (by first | decide | exact (fv_i (by assumption)).symm | exact (fv_w (by assumption)).symm), by rw [ht]; exact hP9, va_K.moved hW.alike hK9, hD9⟩, hS.F ht⟩) hS.2.2 d_OutcomeSet_valueOf_92
    · skip
      refine lv_iload_n hx hb d_OutcomeSet_valueOf_0 rfl (lv_at hl 1 rfl) ?_
      refine lv_if_lt (tgt := 22) hx hb d_OutcomeSet_valueOf_1 (by decide) (fun c_39 => absurd c_39 (by decide)) (fun c_39 => ?_)
      refine tp_pc (pc' := 4) (by rfl) ?_
      refine lv_iload_n hx hb d_OutcomeSet_valueOf_4 rfl (lv_at hl 1 rfl) ?_
      refine lv_aload_n hx hb d_OutcomeSet_valueOf_5 rfl (lv_at hl 0 rfl) ?_
      refine va_get (D := (dC, dI)) (ci := 3) (v := .int 1) (C := R_OutcomeSet) (T := F_OutcomeSet) (N := 9) hx hb hw i_OutcomeSet hown hK hP 0 rfl rfl 6 (by decide) (hw _ m_384) (fun _ h9 => h9) rfl d_OutcomeSet_valueOf_6 ?_
      refine lv_icmp_ge (tgt := 22) hx hb d_OutcomeSet_valueOf_9 (by decide) (fun c_40 => absurd c_40 (by decide)) (fun c_40 => ?_)
      refine tp_pc (pc' := 12) (by rfl) ?_
      refine lv_iload_n hx hb d_OutcomeSet_valueOf_12 rfl (lv_at hl 2 rfl) ?_
      refine lv_if_lt (tgt := 22) hx hb d_OutcomeSet_valueOf_13 (by decide) (fun c_41 => absurd c_41 (by decide)) (fun c_41 => ?_)
      refine tp_pc (pc' := 16) (by rfl) ?_
      refine lv_iload_n hx hb d_OutcomeSet_valueOf_16 rfl (lv_at hl 2 rfl) ?_
      refine lv_bipush (v := 11) hx hb d_OutcomeSet_valueOf_17 (by decide) ?_
      refine lv_icmp_lt (tgt := 26) hx hb d_OutcomeSet_valueOf_19 (by decide) (fun c_42 => ?_) (fun c_42 => absurd c_42 (by decide))
      refine tp_pc (pc' := 26) (by rfl) ?_
      refine lv_aload_n hx hb d_OutcomeSet_valueOf_26 rfl (lv_at hl 0 rfl) ?_
      refine va_get (D := (dC, dI)) (ci := 3) (v := .ref h5) (C := R_OutcomeSet) (T := F_OutcomeSet) (N := 9) hx hb hw i_OutcomeSet hown hK hP 0 rfl rfl 5 (by decide) (hw _ m_383) (fun _ h9 => h9) rfl d_OutcomeSet_valueOf_27 ?_
      refine lv_iload_n hx hb d_OutcomeSet_valueOf_30 rfl (lv_at hl 1 rfl) ?_
      refine va_iald (D := (dC, dI)) hx hb hK hP 3 2 rfl rfl (i := 0) (vp_c (by decide)) d_OutcomeSet_valueOf_31 ?_
      refine tp_i (y := 0) (by first | rfl | decide) ?_
      refine lv_istore_n (lv' := [(3, .int 0), (0, .ref h0), (1, .int 0), (2, .int 6)]) hx hb d_OutcomeSet_valueOf_32 rfl hl (by decide) rfl ?_
      clear hl ls
      intro ls hl
      refine lv_iload_n hx hb d_OutcomeSet_valueOf_33 rfl (lv_at hl 3 rfl) ?_
      refine lv_bipush (v := 8) hx hb d_OutcomeSet_valueOf_34 (by decide) ?_
      refine lv_icmp_ge (tgt := 48) hx hb d_OutcomeSet_valueOf_36 (by decide) (fun c_43 => absurd c_43 (by decide)) (fun c_43 => ?_)
      refine tp_pc (pc' := 39) (by rfl) ?_
      refine lv_aload_n hx hb d_OutcomeSet_valueOf_39 rfl (lv_at hl 1 rfl) ?_
      refine va_get (D := (dC, dI)) (ci := 3) (v := .ref h1) (C := R_OutcomeSet) (T := F_OutcomeSet) (N := 9) hx hb hw i_OutcomeSet hown hK hP 0 rfl rfl 1 (by decide) (hw _ m_379) (fun _ h9 => h9) rfl d_OutcomeSet_valueOf_40 ?_
      refine lv_iload_n hx hb d_OutcomeSet_valueOf_43 rfl (lv_at hl 0 rfl) ?_
      refine va_lald (D := (dC, dI)) hx hb hK hP 1 0 rfl rfl (i := 0) (vp_c (by decide)) d_OutcomeSet_valueOf_44 ?_
      refine tp_l (y := 36312488334073920) (by first | rfl | decide) ?_
      refine lv_goto (tgt := 55) hx hb d_OutcomeSet_valueOf_45 (by decide) ?_
      refine tp_pc (pc' := 55) (by rfl) ?_
      refine lv_lstore (lv' := [(4, .long 36312488334073920), (3, .int 0), (0, .ref h0), (1, .int 0), (2, .int 6)]) hx hb d_OutcomeSet_valueOf_55 hl (by decide) rfl ?_
      clear hl ls
      intro ls hl
      refine lv_iload_n hx hb d_OutcomeSet_valueOf_57 rfl (lv_at hl 4 rfl) ?_
      refine lv_bipush (v := 8) hx hb d_OutcomeSet_valueOf_58 (by decide) ?_
      refine lv_icmp_ge (tgt := 68) hx hb d_OutcomeSet_valueOf_60 (by decide) (fun c_44 => absurd c_44 (by decide)) (fun c_44 => ?_)
      refine tp_pc (pc' := 63) (by rfl) ?_
      refine lv_bipush (v := 8) hx hb d_OutcomeSet_valueOf_63 (by decide) ?_
      refine lv_goto (tgt := 70) hx hb d_OutcomeSet_valueOf_65 (by decide) ?_
      refine tp_pc (pc' := 70) (by rfl) ?_
      refine lv_iconst (v := 1) hx hb d_OutcomeSet_valueOf_70 (by decide) ?_
      refine lv_isub hx hb d_OutcomeSet_valueOf_71 ?_
      refine tp_i (y := 7) (by first | rfl | decide) ?_
      refine lv_iload_n hx hb d_OutcomeSet_valueOf_72 rfl (lv_at hl 4 rfl) ?_
      refine lv_isub hx hb d_OutcomeSet_valueOf_73 ?_
      refine tp_i (y := 1) (by first | rfl | decide) ?_
      refine lv_istore (lv' := [(6, .int 1), (4, .long 36312488334073920), (3, .int 0), (0, .ref h0), (1, .int 0), (2, .int 6)]) hx hb d_OutcomeSet_valueOf_74 hl (by decide) rfl ?_
      clear hl ls
      intro ls hl
      refine lv_lload hx hb d_OutcomeSet_valueOf_76 (lv_at hl 1 rfl) ?_
      refine lv_bipush (v := 7) hx hb d_OutcomeSet_valueOf_78 (by decide) ?_
      refine lv_iload hx hb d_OutcomeSet_valueOf_80 (lv_at hl 0 rfl) ?_
      refine lv_imul hx hb d_OutcomeSet_valueOf_82 ?_
      refine tp_i (y := 7) (by first | rfl | decide) ?_
      refine lv_lshr (v := 283691315109952) hx hb d_OutcomeSet_valueOf_83 (by first | rfl | decide) ?_
      refine lv_ldc2 hx hb hown (hw _ m_724) d_OutcomeSet_valueOf_84 ?_
      refine lv_land hx hb d_OutcomeSet_valueOf_87 ?_
      refine tp_l (y := 64) (by first | rfl | decide) ?_
      refine lv_l2i (v := 64) hx hb d_OutcomeSet_valueOf_88 (by decide) ?_
      refine lv_bipush (v := 64) hx hb d_OutcomeSet_valueOf_89 (by decide) ?_
      refine lv_isub hx hb d_OutcomeSet_valueOf_91 ?_
      refine tp_i (y := 0) (by first | rfl | decide) ?_
      obtain ⟨hP9, hD9, -⟩ := cut3 (wc := [oc h0 3 [.int p2, .ref h1, .ref h2, .ref h3, .ref h4, .ref h5, .int 1, .int p4, .int p5], la h1 k0 8 (vp_updL (fun _ => 0) 0 36312488334073920), ia h2 k1 8 (upd (fun _ => 0) 0 1056832), ia h5 k4 8 (fun _ => 0)]) hP hD rfl hS hA [0, 1, 2, 3] (by decide +kernel) rfl
      have hK9 := hK.sub (tys' := []) [] rfl
      refine W.widen (k := 0) (n := 0) (by exact Nat.le_of_ble_eq_true rfl) (by exact Nat.le_of_ble_eq_true rfl) ?_
      exact W.iret (v := 0) hx hb hr (fun t ht hW => ⟨⟨0, (), rfl, (by first | decide | exact (fv_i (by assumption)).symm | exact (fv_w (by assumption)).symm), by rw [ht]; exact hP9, va_K.moved hW.alike hK9, hD9⟩, hS.F ht⟩) hS.2.2 d_OutcomeSet_valueOf_92
    · skip
      refine lv_iload_n hx hb d_OutcomeSet_valueOf_0 rfl (lv_at hl 1 rfl) ?_
      refine lv_if_lt (tgt := 22) hx hb d_OutcomeSet_valueOf_1 (by decide) (fun c_45 => absurd c_45 (by decide)) (fun c_45 => ?_)
      refine tp_pc (pc' := 4) (by rfl) ?_
      refine lv_iload_n hx hb d_OutcomeSet_valueOf_4 rfl (lv_at hl 1 rfl) ?_
      refine lv_aload_n hx hb d_OutcomeSet_valueOf_5 rfl (lv_at hl 0 rfl) ?_
      refine va_get (D := (dC, dI)) (ci := 3) (v := .int 1) (C := R_OutcomeSet) (T := F_OutcomeSet) (N := 9) hx hb hw i_OutcomeSet hown hK hP 0 rfl rfl 6 (by decide) (hw _ m_384) (fun _ h9 => h9) rfl d_OutcomeSet_valueOf_6 ?_
      refine lv_icmp_ge (tgt := 22) hx hb d_OutcomeSet_valueOf_9 (by decide) (fun c_46 => absurd c_46 (by decide)) (fun c_46 => ?_)
      refine tp_pc (pc' := 12) (by rfl) ?_
      refine lv_iload_n hx hb d_OutcomeSet_valueOf_12 rfl (lv_at hl 2 rfl) ?_
      refine lv_if_lt (tgt := 22) hx hb d_OutcomeSet_valueOf_13 (by decide) (fun c_47 => absurd c_47 (by decide)) (fun c_47 => ?_)
      refine tp_pc (pc' := 16) (by rfl) ?_
      refine lv_iload_n hx hb d_OutcomeSet_valueOf_16 rfl (lv_at hl 2 rfl) ?_
      refine lv_bipush (v := 11) hx hb d_OutcomeSet_valueOf_17 (by decide) ?_
      refine lv_icmp_lt (tgt := 26) hx hb d_OutcomeSet_valueOf_19 (by decide) (fun c_48 => ?_) (fun c_48 => absurd c_48 (by decide))
      refine tp_pc (pc' := 26) (by rfl) ?_
      refine lv_aload_n hx hb d_OutcomeSet_valueOf_26 rfl (lv_at hl 0 rfl) ?_
      refine va_get (D := (dC, dI)) (ci := 3) (v := .ref h5) (C := R_OutcomeSet) (T := F_OutcomeSet) (N := 9) hx hb hw i_OutcomeSet hown hK hP 0 rfl rfl 5 (by decide) (hw _ m_383) (fun _ h9 => h9) rfl d_OutcomeSet_valueOf_27 ?_
      refine lv_iload_n hx hb d_OutcomeSet_valueOf_30 rfl (lv_at hl 1 rfl) ?_
      refine va_iald (D := (dC, dI)) hx hb hK hP 3 2 rfl rfl (i := 0) (vp_c (by decide)) d_OutcomeSet_valueOf_31 ?_
      refine tp_i (y := 0) (by first | rfl | decide) ?_
      refine lv_istore_n (lv' := [(3, .int 0), (0, .ref h0), (1, .int 0), (2, .int 7)]) hx hb d_OutcomeSet_valueOf_32 rfl hl (by decide) rfl ?_
      clear hl ls
      intro ls hl
      refine lv_iload_n hx hb d_OutcomeSet_valueOf_33 rfl (lv_at hl 3 rfl) ?_
      refine lv_bipush (v := 8) hx hb d_OutcomeSet_valueOf_34 (by decide) ?_
      refine lv_icmp_ge (tgt := 48) hx hb d_OutcomeSet_valueOf_36 (by decide) (fun c_49 => absurd c_49 (by decide)) (fun c_49 => ?_)
      refine tp_pc (pc' := 39) (by rfl) ?_
      refine lv_aload_n hx hb d_OutcomeSet_valueOf_39 rfl (lv_at hl 1 rfl) ?_
      refine va_get (D := (dC, dI)) (ci := 3) (v := .ref h1) (C := R_OutcomeSet) (T := F_OutcomeSet) (N := 9) hx hb hw i_OutcomeSet hown hK hP 0 rfl rfl 1 (by decide) (hw _ m_379) (fun _ h9 => h9) rfl d_OutcomeSet_valueOf_40 ?_
      refine lv_iload_n hx hb d_OutcomeSet_valueOf_43 rfl (lv_at hl 0 rfl) ?_
      refine va_lald (D := (dC, dI)) hx hb hK hP 1 0 rfl rfl (i := 0) (vp_c (by decide)) d_OutcomeSet_valueOf_44 ?_
      refine tp_l (y := 36312488334073920) (by first | rfl | decide) ?_
      refine lv_goto (tgt := 55) hx hb d_OutcomeSet_valueOf_45 (by decide) ?_
      refine tp_pc (pc' := 55) (by rfl) ?_
      refine lv_lstore (lv' := [(4, .long 36312488334073920), (3, .int 0), (0, .ref h0), (1, .int 0), (2, .int 7)]) hx hb d_OutcomeSet_valueOf_55 hl (by decide) rfl ?_
      clear hl ls
      intro ls hl
      refine lv_iload_n hx hb d_OutcomeSet_valueOf_57 rfl (lv_at hl 4 rfl) ?_
      refine lv_bipush (v := 8) hx hb d_OutcomeSet_valueOf_58 (by decide) ?_
      refine lv_icmp_ge (tgt := 68) hx hb d_OutcomeSet_valueOf_60 (by decide) (fun c_50 => absurd c_50 (by decide)) (fun c_50 => ?_)
      refine tp_pc (pc' := 63) (by rfl) ?_
      refine lv_bipush (v := 8) hx hb d_OutcomeSet_valueOf_63 (by decide) ?_
      refine lv_goto (tgt := 70) hx hb d_OutcomeSet_valueOf_65 (by decide) ?_
      refine tp_pc (pc' := 70) (by rfl) ?_
      refine lv_iconst (v := 1) hx hb d_OutcomeSet_valueOf_70 (by decide) ?_
      refine lv_isub hx hb d_OutcomeSet_valueOf_71 ?_
      refine tp_i (y := 7) (by first | rfl | decide) ?_
      refine lv_iload_n hx hb d_OutcomeSet_valueOf_72 rfl (lv_at hl 4 rfl) ?_
      refine lv_isub hx hb d_OutcomeSet_valueOf_73 ?_
      refine tp_i (y := 0) (by first | rfl | decide) ?_
      refine lv_istore (lv' := [(6, .int 0), (4, .long 36312488334073920), (3, .int 0), (0, .ref h0), (1, .int 0), (2, .int 7)]) hx hb d_OutcomeSet_valueOf_74 hl (by decide) rfl ?_
      clear hl ls
      intro ls hl
      refine lv_lload hx hb d_OutcomeSet_valueOf_76 (lv_at hl 1 rfl) ?_
      refine lv_bipush (v := 7) hx hb d_OutcomeSet_valueOf_78 (by decide) ?_
      refine lv_iload hx hb d_OutcomeSet_valueOf_80 (lv_at hl 0 rfl) ?_
      refine lv_imul hx hb d_OutcomeSet_valueOf_82 ?_
      refine tp_i (y := 0) (by first | rfl | decide) ?_
      refine lv_lshr (v := 36312488334073920) hx hb d_OutcomeSet_valueOf_83 (by first | rfl | decide) ?_
      refine lv_ldc2 hx hb hown (hw _ m_724) d_OutcomeSet_valueOf_84 ?_
      refine lv_land hx hb d_OutcomeSet_valueOf_87 ?_
      refine tp_l (y := 64) (by first | rfl | decide) ?_
      refine lv_l2i (v := 64) hx hb d_OutcomeSet_valueOf_88 (by decide) ?_
      refine lv_bipush (v := 64) hx hb d_OutcomeSet_valueOf_89 (by decide) ?_
      refine lv_isub hx hb d_OutcomeSet_valueOf_91 ?_
      refine tp_i (y := 0) (by first | rfl | decide) ?_
      obtain ⟨hP9, hD9, -⟩ := cut3 (wc := [oc h0 3 [.int p2, .ref h1, .ref h2, .ref h3, .ref h4, .ref h5, .int 1, .int p4, .int p5], la h1 k0 8 (vp_updL (fun _ => 0) 0 36312488334073920), ia h2 k1 8 (upd (fun _ => 0) 0 1056832), ia h5 k4 8 (fun _ => 0)]) hP hD rfl hS hA [0, 1, 2, 3] (by decide +kernel) rfl
      have hK9 := hK.sub (tys' := []) [] rfl
      refine W.widen (k := 0) (n := 0) (by exact Nat.le_of_ble_eq_true rfl) (by exact Nat.le_of_ble_eq_true rfl) ?_
      exact W.iret (v := 0) hx hb hr (fun t ht hW => ⟨⟨0, (), rfl, (by first | decide | exact (fv_i (by assumption)).symm | exact (fv_w (by assumption)).symm), by rw [ht]; exact hP9, va_K.moved hW.alike hK9, hD9⟩, hS.F ht⟩) hS.2.2 d_OutcomeSet_valueOf_92
    · skip
      refine lv_iload_n hx hb d_OutcomeSet_valueOf_0 rfl (lv_at hl 1 rfl) ?_
      refine lv_if_lt (tgt := 22) hx hb d_OutcomeSet_valueOf_1 (by decide) (fun c_51 => absurd c_51 (by decide)) (fun c_51 => ?_)
      refine tp_pc (pc' := 4) (by rfl) ?_
      refine lv_iload_n hx hb d_OutcomeSet_valueOf_4 rfl (lv_at hl 1 rfl) ?_
      refine lv_aload_n hx hb d_OutcomeSet_valueOf_5 rfl (lv_at hl 0 rfl) ?_
      refine va_get (D := (dC, dI)) (ci := 3) (v := .int 1) (C := R_OutcomeSet) (T := F_OutcomeSet) (N := 9) hx hb hw i_OutcomeSet hown hK hP 0 rfl rfl 6 (by decide) (hw _ m_384) (fun _ h9 => h9) rfl d_OutcomeSet_valueOf_6 ?_
      refine lv_icmp_ge (tgt := 22) hx hb d_OutcomeSet_valueOf_9 (by decide) (fun c_52 => absurd c_52 (by decide)) (fun c_52 => ?_)
      refine tp_pc (pc' := 12) (by rfl) ?_
      refine lv_iload_n hx hb d_OutcomeSet_valueOf_12 rfl (lv_at hl 2 rfl) ?_
      refine lv_if_lt (tgt := 22) hx hb d_OutcomeSet_valueOf_13 (by decide) (fun c_53 => absurd c_53 (by decide)) (fun c_53 => ?_)
      refine tp_pc (pc' := 16) (by rfl) ?_
      refine lv_iload_n hx hb d_OutcomeSet_valueOf_16 rfl (lv_at hl 2 rfl) ?_
      refine lv_bipush (v := 11) hx hb d_OutcomeSet_valueOf_17 (by decide) ?_
      refine lv_icmp_lt (tgt := 26) hx hb d_OutcomeSet_valueOf_19 (by decide) (fun c_54 => ?_) (fun c_54 => absurd c_54 (by decide))
      refine tp_pc (pc' := 26) (by rfl) ?_
      refine lv_aload_n hx hb d_OutcomeSet_valueOf_26 rfl (lv_at hl 0 rfl) ?_
      refine va_get (D := (dC, dI)) (ci := 3) (v := .ref h5) (C := R_OutcomeSet) (T := F_OutcomeSet) (N := 9) hx hb hw i_OutcomeSet hown hK hP 0 rfl rfl 5 (by decide) (hw _ m_383) (fun _ h9 => h9) rfl d_OutcomeSet_valueOf_27 ?_
      refine lv_iload_n hx hb d_OutcomeSet_valueOf_30 rfl (lv_at hl 1 rfl) ?_
      refine va_iald (D := (dC, dI)) hx hb hK hP 3 2 rfl rfl (i := 0) (vp_c (by decide)) d_OutcomeSet_valueOf_31 ?_
      refine tp_i (y := 0) (by first | rfl | decide) ?_
      refine lv_istore_n (lv' := [(3, .int 0), (0, .ref h0), (1, .int 0), (2, .int 8)]) hx hb d_OutcomeSet_valueOf_32 rfl hl (by decide) rfl ?_
      clear hl ls
      intro ls hl
      refine lv_iload_n hx hb d_OutcomeSet_valueOf_33 rfl (lv_at hl 3 rfl) ?_
      refine lv_bipush (v := 8) hx hb d_OutcomeSet_valueOf_34 (by decide) ?_
      refine lv_icmp_ge (tgt := 48) hx hb d_OutcomeSet_valueOf_36 (by decide) (fun c_55 => ?_) (fun c_55 => absurd c_55 (by decide))
      refine tp_pc (pc' := 48) (by rfl) ?_
      refine lv_aload_n hx hb d_OutcomeSet_valueOf_48 rfl (lv_at hl 1 rfl) ?_
      refine va_get (D := (dC, dI)) (ci := 3) (v := .ref h2) (C := R_OutcomeSet) (T := F_OutcomeSet) (N := 9) hx hb hw i_OutcomeSet hown hK hP 0 rfl rfl 2 (by decide) (hw _ m_380) (fun _ h9 => h9) rfl d_OutcomeSet_valueOf_49 ?_
      refine lv_iload_n hx hb d_OutcomeSet_valueOf_52 rfl (lv_at hl 0 rfl) ?_
      refine va_iald (D := (dC, dI)) hx hb hK hP 2 1 rfl rfl (i := 0) (vp_c (by decide)) d_OutcomeSet_valueOf_53 ?_
      refine tp_i (y := 1056832) (by first | rfl | decide) ?_
      refine lv_i2l (v := 1056832) hx hb d_OutcomeSet_valueOf_54 (by decide) ?_
      refine lv_lstore (lv' := [(4, .long 1056832), (3, .int 0), (0, .ref h0), (1, .int 0), (2, .int 8)]) hx hb d_OutcomeSet_valueOf_55 hl (by decide) rfl ?_
      clear hl ls
      intro ls hl
      refine lv_iload_n hx hb d_OutcomeSet_valueOf_57 rfl (lv_at hl 4 rfl) ?_
      refine lv_bipush (v := 8) hx hb d_OutcomeSet_valueOf_58 (by decide) ?_
      refine lv_icmp_ge (tgt := 68) hx hb d_OutcomeSet_valueOf_60 (by decide) (fun c_56 => ?_) (fun c_56 => absurd c_56 (by decide))
      refine tp_pc (pc' := 68) (by rfl) ?_
      refine lv_bipush (v := 11) hx hb d_OutcomeSet_valueOf_68 (by decide) ?_
      refine lv_iconst (v := 1) hx hb d_OutcomeSet_valueOf_70 (by decide) ?_
      refine lv_isub hx hb d_OutcomeSet_valueOf_71 ?_
      refine tp_i (y := 10) (by first | rfl | decide) ?_
      refine lv_iload_n hx hb d_OutcomeSet_valueOf_72 rfl (lv_at hl 4 rfl) ?_
      refine lv_isub hx hb d_OutcomeSet_valueOf_73 ?_
      refine tp_i (y := 2) (by first | rfl | decide) ?_
      refine lv_istore (lv' := [(6, .int 2), (4, .long 1056832), (3, .int 0), (0, .ref h0), (1, .int 0), (2, .int 8)]) hx hb d_OutcomeSet_valueOf_74 hl (by decide) rfl ?_
      clear hl ls
      intro ls hl
      refine lv_lload hx hb d_OutcomeSet_valueOf_76 (lv_at hl 1 rfl) ?_
      refine lv_bipush (v := 7) hx hb d_OutcomeSet_valueOf_78 (by decide) ?_
      refine lv_iload hx hb d_OutcomeSet_valueOf_80 (lv_at hl 0 rfl) ?_
      refine lv_imul hx hb d_OutcomeSet_valueOf_82 ?_
      refine tp_i (y := 14) (by first | rfl | decide) ?_
      refine lv_lshr (v := 64) hx hb d_OutcomeSet_valueOf_83 (by first | rfl | decide) ?_
      refine lv_ldc2 hx hb hown (hw _ m_724) d_OutcomeSet_valueOf_84 ?_
      refine lv_land hx hb d_OutcomeSet_valueOf_87 ?_
      refine tp_l (y := 64) (by first | rfl | decide) ?_
      refine lv_l2i (v := 64) hx hb d_OutcomeSet_valueOf_88 (by decide) ?_
      refine lv_bipush (v := 64) hx hb d_OutcomeSet_valueOf_89 (by decide) ?_
      refine lv_isub hx hb d_OutcomeSet_valueOf_91 ?_
      refine tp_i (y := 0) (by first | rfl | decide) ?_
      obtain ⟨hP9, hD9, -⟩ := cut3 (wc := [oc h0 3 [.int p2, .ref h1, .ref h2, .ref h3, .ref h4, .ref h5, .int 1, .int p4, .int p5], la h1 k0 8 (vp_updL (fun _ => 0) 0 36312488334073920), ia h2 k1 8 (upd (fun _ => 0) 0 1056832), ia h5 k4 8 (fun _ => 0)]) hP hD rfl hS hA [0, 1, 2, 3] (by decide +kernel) rfl
      have hK9 := hK.sub (tys' := []) [] rfl
      refine W.widen (k := 0) (n := 0) (by exact Nat.le_of_ble_eq_true rfl) (by exact Nat.le_of_ble_eq_true rfl) ?_
      exact W.iret (v := 0) hx hb hr (fun t ht hW => ⟨⟨0, (), rfl, (by first | decide | exact (fv_i (by assumption)).symm | exact (fv_w (by assumption)).symm), by rw [ht]; exact hP9, va_K.moved hW.alike hK9, hD9⟩, hS.F ht⟩) hS.2.2 d_OutcomeSet_valueOf_92
    · skip
      refine lv_iload_n hx hb d_OutcomeSet_valueOf_0 rfl (lv_at hl 1 rfl) ?_
      refine lv_if_lt (tgt := 22) hx hb d_OutcomeSet_valueOf_1 (by decide) (fun c_57 => absurd c_57 (by decide)) (fun c_57 => ?_)
      refine tp_pc (pc' := 4) (by rfl) ?_
      refine lv_iload_n hx hb d_OutcomeSet_valueOf_4 rfl (lv_at hl 1 rfl) ?_
      refine lv_aload_n hx hb d_OutcomeSet_valueOf_5 rfl (lv_at hl 0 rfl) ?_
      refine va_get (D := (dC, dI)) (ci := 3) (v := .int 1) (C := R_OutcomeSet) (T := F_OutcomeSet) (N := 9) hx hb hw i_OutcomeSet hown hK hP 0 rfl rfl 6 (by decide) (hw _ m_384) (fun _ h9 => h9) rfl d_OutcomeSet_valueOf_6 ?_
      refine lv_icmp_ge (tgt := 22) hx hb d_OutcomeSet_valueOf_9 (by decide) (fun c_58 => absurd c_58 (by decide)) (fun c_58 => ?_)
      refine tp_pc (pc' := 12) (by rfl) ?_
      refine lv_iload_n hx hb d_OutcomeSet_valueOf_12 rfl (lv_at hl 2 rfl) ?_
      refine lv_if_lt (tgt := 22) hx hb d_OutcomeSet_valueOf_13 (by decide) (fun c_59 => absurd c_59 (by decide)) (fun c_59 => ?_)
      refine tp_pc (pc' := 16) (by rfl) ?_
      refine lv_iload_n hx hb d_OutcomeSet_valueOf_16 rfl (lv_at hl 2 rfl) ?_
      refine lv_bipush (v := 11) hx hb d_OutcomeSet_valueOf_17 (by decide) ?_
      refine lv_icmp_lt (tgt := 26) hx hb d_OutcomeSet_valueOf_19 (by decide) (fun c_60 => ?_) (fun c_60 => absurd c_60 (by decide))
      refine tp_pc (pc' := 26) (by rfl) ?_
      refine lv_aload_n hx hb d_OutcomeSet_valueOf_26 rfl (lv_at hl 0 rfl) ?_
      refine va_get (D := (dC, dI)) (ci := 3) (v := .ref h5) (C := R_OutcomeSet) (T := F_OutcomeSet) (N := 9) hx hb hw i_OutcomeSet hown hK hP 0 rfl rfl 5 (by decide) (hw _ m_383) (fun _ h9 => h9) rfl d_OutcomeSet_valueOf_27 ?_
      refine lv_iload_n hx hb d_OutcomeSet_valueOf_30 rfl (lv_at hl 1 rfl) ?_
      refine va_iald (D := (dC, dI)) hx hb hK hP 3 2 rfl rfl (i := 0) (vp_c (by decide)) d_OutcomeSet_valueOf_31 ?_
      refine tp_i (y := 0) (by first | rfl | decide) ?_
      refine lv_istore_n (lv' := [(3, .int 0), (0, .ref h0), (1, .int 0), (2, .int 9)]) hx hb d_OutcomeSet_valueOf_32 rfl hl (by decide) rfl ?_
      clear hl ls
      intro ls hl
      refine lv_iload_n hx hb d_OutcomeSet_valueOf_33 rfl (lv_at hl 3 rfl) ?_
      refine lv_bipush (v := 8) hx hb d_OutcomeSet_valueOf_34 (by decide) ?_
      refine lv_icmp_ge (tgt := 48) hx hb d_OutcomeSet_valueOf_36 (by decide) (fun c_61 => ?_) (fun c_61 => absurd c_61 (by decide))
      refine tp_pc (pc' := 48) (by rfl) ?_
      refine lv_aload_n hx hb d_OutcomeSet_valueOf_48 rfl (lv_at hl 1 rfl) ?_
      refine va_get (D := (dC, dI)) (ci := 3) (v := .ref h2) (C := R_OutcomeSet) (T := F_OutcomeSet) (N := 9) hx hb hw i_OutcomeSet hown hK hP 0 rfl rfl 2 (by decide) (hw _ m_380) (fun _ h9 => h9) rfl d_OutcomeSet_valueOf_49 ?_
      refine lv_iload_n hx hb d_OutcomeSet_valueOf_52 rfl (lv_at hl 0 rfl) ?_
      refine va_iald (D := (dC, dI)) hx hb hK hP 2 1 rfl rfl (i := 0) (vp_c (by decide)) d_OutcomeSet_valueOf_53 ?_
      refine tp_i (y := 1056832) (by first | rfl | decide) ?_
      refine lv_i2l (v := 1056832) hx hb d_OutcomeSet_valueOf_54 (by decide) ?_
      refine lv_lstore (lv' := [(4, .long 1056832), (3, .int 0), (0, .ref h0), (1, .int 0), (2, .int 9)]) hx hb d_OutcomeSet_valueOf_55 hl (by decide) rfl ?_
      clear hl ls
      intro ls hl
      refine lv_iload_n hx hb d_OutcomeSet_valueOf_57 rfl (lv_at hl 4 rfl) ?_
      refine lv_bipush (v := 8) hx hb d_OutcomeSet_valueOf_58 (by decide) ?_
      refine lv_icmp_ge (tgt := 68) hx hb d_OutcomeSet_valueOf_60 (by decide) (fun c_62 => ?_) (fun c_62 => absurd c_62 (by decide))
      refine tp_pc (pc' := 68) (by rfl) ?_
      refine lv_bipush (v := 11) hx hb d_OutcomeSet_valueOf_68 (by decide) ?_
      refine lv_iconst (v := 1) hx hb d_OutcomeSet_valueOf_70 (by decide) ?_
      refine lv_isub hx hb d_OutcomeSet_valueOf_71 ?_
      refine tp_i (y := 10) (by first | rfl | decide) ?_
      refine lv_iload_n hx hb d_OutcomeSet_valueOf_72 rfl (lv_at hl 4 rfl) ?_
      refine lv_isub hx hb d_OutcomeSet_valueOf_73 ?_
      refine tp_i (y := 1) (by first | rfl | decide) ?_
      refine lv_istore (lv' := [(6, .int 1), (4, .long 1056832), (3, .int 0), (0, .ref h0), (1, .int 0), (2, .int 9)]) hx hb d_OutcomeSet_valueOf_74 hl (by decide) rfl ?_
      clear hl ls
      intro ls hl
      refine lv_lload hx hb d_OutcomeSet_valueOf_76 (lv_at hl 1 rfl) ?_
      refine lv_bipush (v := 7) hx hb d_OutcomeSet_valueOf_78 (by decide) ?_
      refine lv_iload hx hb d_OutcomeSet_valueOf_80 (lv_at hl 0 rfl) ?_
      refine lv_imul hx hb d_OutcomeSet_valueOf_82 ?_
      refine tp_i (y := 7) (by first | rfl | decide) ?_
      refine lv_lshr (v := 8256) hx hb d_OutcomeSet_valueOf_83 (by first | rfl | decide) ?_
      refine lv_ldc2 hx hb hown (hw _ m_724) d_OutcomeSet_valueOf_84 ?_
      refine lv_land hx hb d_OutcomeSet_valueOf_87 ?_
      refine tp_l (y := 64) (by first | rfl | decide) ?_
      refine lv_l2i (v := 64) hx hb d_OutcomeSet_valueOf_88 (by decide) ?_
      refine lv_bipush (v := 64) hx hb d_OutcomeSet_valueOf_89 (by decide) ?_
      refine lv_isub hx hb d_OutcomeSet_valueOf_91 ?_
      refine tp_i (y := 0) (by first | rfl | decide) ?_
      obtain ⟨hP9, hD9, -⟩ := cut3 (wc := [oc h0 3 [.int p2, .ref h1, .ref h2, .ref h3, .ref h4, .ref h5, .int 1, .int p4, .int p5], la h1 k0 8 (vp_updL (fun _ => 0) 0 36312488334073920), ia h2 k1 8 (upd (fun _ => 0) 0 1056832), ia h5 k4 8 (fun _ => 0)]) hP hD rfl hS hA [0, 1, 2, 3] (by decide +kernel) rfl
      have hK9 := hK.sub (tys' := []) [] rfl
      refine W.widen (k := 0) (n := 0) (by exact Nat.le_of_ble_eq_true rfl) (by exact Nat.le_of_ble_eq_true rfl) ?_
      exact W.iret (v := 0) hx hb hr (fun t ht hW => ⟨⟨0, (), rfl, (by first | decide | exact (fv_i (by assumption)).symm | exact (fv_w (by assumption)).symm), by rw [ht]; exact hP9, va_K.moved hW.alike hK9, hD9⟩, hS.F ht⟩) hS.2.2 d_OutcomeSet_valueOf_92
    · skip
      refine lv_iload_n hx hb d_OutcomeSet_valueOf_0 rfl (lv_at hl 1 rfl) ?_
      refine lv_if_lt (tgt := 22) hx hb d_OutcomeSet_valueOf_1 (by decide) (fun c_63 => absurd c_63 (by decide)) (fun c_63 => ?_)
      refine tp_pc (pc' := 4) (by rfl) ?_
      refine lv_iload_n hx hb d_OutcomeSet_valueOf_4 rfl (lv_at hl 1 rfl) ?_
      refine lv_aload_n hx hb d_OutcomeSet_valueOf_5 rfl (lv_at hl 0 rfl) ?_
      refine va_get (D := (dC, dI)) (ci := 3) (v := .int 1) (C := R_OutcomeSet) (T := F_OutcomeSet) (N := 9) hx hb hw i_OutcomeSet hown hK hP 0 rfl rfl 6 (by decide) (hw _ m_384) (fun _ h9 => h9) rfl d_OutcomeSet_valueOf_6 ?_
      refine lv_icmp_ge (tgt := 22) hx hb d_OutcomeSet_valueOf_9 (by decide) (fun c_64 => absurd c_64 (by decide)) (fun c_64 => ?_)
      refine tp_pc (pc' := 12) (by rfl) ?_
      refine lv_iload_n hx hb d_OutcomeSet_valueOf_12 rfl (lv_at hl 2 rfl) ?_
      refine lv_if_lt (tgt := 22) hx hb d_OutcomeSet_valueOf_13 (by decide) (fun c_65 => absurd c_65 (by decide)) (fun c_65 => ?_)
      refine tp_pc (pc' := 16) (by rfl) ?_
      refine lv_iload_n hx hb d_OutcomeSet_valueOf_16 rfl (lv_at hl 2 rfl) ?_
      refine lv_bipush (v := 11) hx hb d_OutcomeSet_valueOf_17 (by decide) ?_
      refine lv_icmp_lt (tgt := 26) hx hb d_OutcomeSet_valueOf_19 (by decide) (fun c_66 => ?_) (fun c_66 => absurd c_66 (by decide))
      refine tp_pc (pc' := 26) (by rfl) ?_
      refine lv_aload_n hx hb d_OutcomeSet_valueOf_26 rfl (lv_at hl 0 rfl) ?_
      refine va_get (D := (dC, dI)) (ci := 3) (v := .ref h5) (C := R_OutcomeSet) (T := F_OutcomeSet) (N := 9) hx hb hw i_OutcomeSet hown hK hP 0 rfl rfl 5 (by decide) (hw _ m_383) (fun _ h9 => h9) rfl d_OutcomeSet_valueOf_27 ?_
      refine lv_iload_n hx hb d_OutcomeSet_valueOf_30 rfl (lv_at hl 1 rfl) ?_
      refine va_iald (D := (dC, dI)) hx hb hK hP 3 2 rfl rfl (i := 0) (vp_c (by decide)) d_OutcomeSet_valueOf_31 ?_
      refine tp_i (y := 0) (by first | rfl | decide) ?_
      refine lv_istore_n (lv' := [(3, .int 0), (0, .ref h0), (1, .int 0), (2, .int 10)]) hx hb d_OutcomeSet_valueOf_32 rfl hl (by decide) rfl ?_
      clear hl ls
      intro ls hl
      refine lv_iload_n hx hb d_OutcomeSet_valueOf_33 rfl (lv_at hl 3 rfl) ?_
      refine lv_bipush (v := 8) hx hb d_OutcomeSet_valueOf_34 (by decide) ?_
      refine lv_icmp_ge (tgt := 48) hx hb d_OutcomeSet_valueOf_36 (by decide) (fun c_67 => ?_) (fun c_67 => absurd c_67 (by decide))
      refine tp_pc (pc' := 48) (by rfl) ?_
      refine lv_aload_n hx hb d_OutcomeSet_valueOf_48 rfl (lv_at hl 1 rfl) ?_
      refine va_get (D := (dC, dI)) (ci := 3) (v := .ref h2) (C := R_OutcomeSet) (T := F_OutcomeSet) (N := 9) hx hb hw i_OutcomeSet hown hK hP 0 rfl rfl 2 (by decide) (hw _ m_380) (fun _ h9 => h9) rfl d_OutcomeSet_valueOf_49 ?_
      refine lv_iload_n hx hb d_OutcomeSet_valueOf_52 rfl (lv_at hl 0 rfl) ?_
      refine va_iald (D := (dC, dI)) hx hb hK hP 2 1 rfl rfl (i := 0) (vp_c (by decide)) d_OutcomeSet_valueOf_53 ?_
      refine tp_i (y := 1056832) (by first | rfl | decide) ?_
      refine lv_i2l (v := 1056832) hx hb d_OutcomeSet_valueOf_54 (by decide) ?_
      refine lv_lstore (lv' := [(4, .long 1056832), (3, .int 0), (0, .ref h0), (1, .int 0), (2, .int 10)]) hx hb d_OutcomeSet_valueOf_55 hl (by decide) rfl ?_
      clear hl ls
      intro ls hl
      refine lv_iload_n hx hb d_OutcomeSet_valueOf_57 rfl (lv_at hl 4 rfl) ?_
      refine lv_bipush (v := 8) hx hb d_OutcomeSet_valueOf_58 (by decide) ?_
      refine lv_icmp_ge (tgt := 68) hx hb d_OutcomeSet_valueOf_60 (by decide) (fun c_68 => ?_) (fun c_68 => absurd c_68 (by decide))
      refine tp_pc (pc' := 68) (by rfl) ?_
      refine lv_bipush (v := 11) hx hb d_OutcomeSet_valueOf_68 (by decide) ?_
      refine lv_iconst (v := 1) hx hb d_OutcomeSet_valueOf_70 (by decide) ?_
      refine lv_isub hx hb d_OutcomeSet_valueOf_71 ?_
      refine tp_i (y := 10) (by first | rfl | decide) ?_
      refine lv_iload_n hx hb d_OutcomeSet_valueOf_72 rfl (lv_at hl 4 rfl) ?_
      refine lv_isub hx hb d_OutcomeSet_valueOf_73 ?_
      refine tp_i (y := 0) (by first | rfl | decide) ?_
      refine lv_istore (lv' := [(6, .int 0), (4, .long 1056832), (3, .int 0), (0, .ref h0), (1, .int 0), (2, .int 10)]) hx hb d_OutcomeSet_valueOf_74 hl (by decide) rfl ?_
      clear hl ls
      intro ls hl
      refine lv_lload hx hb d_OutcomeSet_valueOf_76 (lv_at hl 1 rfl) ?_
      refine lv_bipush (v := 7) hx hb d_OutcomeSet_valueOf_78 (by decide) ?_
      refine lv_iload hx hb d_OutcomeSet_valueOf_80 (lv_at hl 0 rfl) ?_
      refine lv_imul hx hb d_OutcomeSet_valueOf_82 ?_
      refine tp_i (y := 0) (by first | rfl | decide) ?_
      refine lv_lshr (v := 1056832) hx hb d_OutcomeSet_valueOf_83 (by first | rfl | decide) ?_
      refine lv_ldc2 hx hb hown (hw _ m_724) d_OutcomeSet_valueOf_84 ?_
      refine lv_land hx hb d_OutcomeSet_valueOf_87 ?_
      refine tp_l (y := 64) (by first | rfl | decide) ?_
      refine lv_l2i (v := 64) hx hb d_OutcomeSet_valueOf_88 (by decide) ?_
      refine lv_bipush (v := 64) hx hb d_OutcomeSet_valueOf_89 (by decide) ?_
      refine lv_isub hx hb d_OutcomeSet_valueOf_91 ?_
      refine tp_i (y := 0) (by first | rfl | decide) ?_
      obtain ⟨hP9, hD9, -⟩ := cut3 (wc := [oc h0 3 [.int p2, .ref h1, .ref h2, .ref h3, .ref h4, .ref h5, .int 1, .int p4, .int p5], la h1 k0 8 (vp_updL (fun _ => 0) 0 36312488334073920), ia h2 k1 8 (upd (fun _ => 0) 0 1056832), ia h5 k4 8 (fun _ => 0)]) hP hD rfl hS hA [0, 1, 2, 3] (by decide +kernel) rfl
      have hK9 := hK.sub (tys' := []) [] rfl
      refine W.widen (k := 0) (n := 0) (by exact Nat.le_of_ble_eq_true rfl) (by exact Nat.le_of_ble_eq_true rfl) ?_
      exact W.iret (v := 0) hx hb hr (fun t ht hW => ⟨⟨0, (), rfl, (by first | decide | exact (fv_i (by assumption)).symm | exact (fv_w (by assumption)).symm), by rw [ht]; exact hP9, va_K.moved hW.alike hK9, hD9⟩, hS.F ht⟩) hS.2.2 d_OutcomeSet_valueOf_92
    · skip
      refine lv_iload_n hx hb d_OutcomeSet_valueOf_0 rfl (lv_at hl 1 rfl) ?_
      refine lv_if_lt (tgt := 22) hx hb d_OutcomeSet_valueOf_1 (by decide) (fun c_69 => absurd c_69 (by decide)) (fun c_69 => ?_)
      refine tp_pc (pc' := 4) (by rfl) ?_
      refine lv_iload_n hx hb d_OutcomeSet_valueOf_4 rfl (lv_at hl 1 rfl) ?_
      refine lv_aload_n hx hb d_OutcomeSet_valueOf_5 rfl (lv_at hl 0 rfl) ?_
      refine va_get (D := (dC, dI)) (ci := 3) (v := .int 1) (C := R_OutcomeSet) (T := F_OutcomeSet) (N := 9) hx hb hw i_OutcomeSet hown hK hP 0 rfl rfl 6 (by decide) (hw _ m_384) (fun _ h9 => h9) rfl d_OutcomeSet_valueOf_6 ?_
      refine lv_icmp_ge (tgt := 22) hx hb d_OutcomeSet_valueOf_9 (by decide) (fun c_70 => absurd c_70 (by decide)) (fun c_70 => ?_)
      refine tp_pc (pc' := 12) (by rfl) ?_
      refine lv_iload_n hx hb d_OutcomeSet_valueOf_12 rfl (lv_at hl 2 rfl) ?_
      refine lv_if_lt (tgt := 22) hx hb d_OutcomeSet_valueOf_13 (by decide) (fun c_71 => ?_) (fun c_71 => ?_)
      · skip
        refine lv_sipush (v := (-1000)) hx hb d_OutcomeSet_valueOf_22 (by decide) ?_
        obtain ⟨hP9, hD9, -⟩ := cut3 (wc := [oc h0 3 [.int p2, .ref h1, .ref h2, .ref h3, .ref h4, .ref h5, .int 1, .int p4, .int p5], la h1 k0 8 (vp_updL (fun _ => 0) 0 36312488334073920), ia h2 k1 8 (upd (fun _ => 0) 0 1056832), ia h5 k4 8 (fun _ => 0)]) hP hD rfl hS hA [0, 1, 2, 3] (by decide +kernel) rfl
        have hK9 := hK.sub (tys' := []) [] rfl
        refine W.widen (k := 0) (n := 0) (by exact Nat.le_of_ble_eq_true rfl) (by exact Nat.le_of_ble_eq_true rfl) ?_
        exact W.iret (v := (-1000)) hx hb hr (fun t ht hW => ⟨⟨(-1000), (), rfl, (by first | decide | exact (fv_i (by assumption)).symm | exact (fv_w (by assumption)).symm), by rw [ht]; exact hP9, va_K.moved hW.alike hK9, hD9⟩, hS.F ht⟩) hS.2.2 d_OutcomeSet_valueOf_25
      · skip
        refine lv_iload_n hx hb d_OutcomeSet_valueOf_16 rfl (lv_at hl 2 rfl) ?_
        refine lv_bipush (v := 11) hx hb d_OutcomeSet_valueOf_17 (by decide) ?_
        refine lv_icmp_lt (tgt := 26) hx hb d_OutcomeSet_valueOf_19 (by decide) (fun c_72 => ?_) (fun c_72 => ?_)
        · skip
          exfalso
          simp only [Int32.lt_iff_toInt_lt, Int32.le_iff_toInt_le, ← Int32.toInt_inj] at c_71 c_72
          have k0 : (0 : Int32).toInt = 0 := by decide
          have k11 : (11 : Int32).toInt = 11 := by decide
          omega
        · skip
          refine lv_sipush (v := (-1000)) hx hb d_OutcomeSet_valueOf_22 (by decide) ?_
          obtain ⟨hP9, hD9, -⟩ := cut3 (wc := [oc h0 3 [.int p2, .ref h1, .ref h2, .ref h3, .ref h4, .ref h5, .int 1, .int p4, .int p5], la h1 k0 8 (vp_updL (fun _ => 0) 0 36312488334073920), ia h2 k1 8 (upd (fun _ => 0) 0 1056832), ia h5 k4 8 (fun _ => 0)]) hP hD rfl hS hA [0, 1, 2, 3] (by decide +kernel) rfl
          have hK9 := hK.sub (tys' := []) [] rfl
          refine W.widen (k := 0) (n := 0) (by exact Nat.le_of_ble_eq_true rfl) (by exact Nat.le_of_ble_eq_true rfl) ?_
          exact W.iret (v := (-1000)) hx hb hr (fun t ht hW => ⟨⟨(-1000), (), rfl, (by first | decide | exact (fv_i (by assumption)).symm | exact (fv_w (by assumption)).symm), by rw [ht]; exact hP9, va_K.moved hW.alike hK9, hD9⟩, hS.F ht⟩) hS.2.2 d_OutcomeSet_valueOf_25
  · skip
    rcases sw_0_10 p1 with rfl | rfl | rfl | rfl | rfl | rfl | rfl | rfl | rfl | rfl | rfl | hs_73
    · skip
      refine lv_iload_n hx hb d_OutcomeSet_valueOf_0 rfl (lv_at hl 1 rfl) ?_
      refine lv_if_lt (tgt := 22) hx hb d_OutcomeSet_valueOf_1 (by decide) (fun c_74 => ?_) (fun c_74 => ?_)
      · skip
        refine lv_sipush (v := (-1000)) hx hb d_OutcomeSet_valueOf_22 (by decide) ?_
        obtain ⟨hP9, hD9, -⟩ := cut3 (wc := [oc h0 3 [.int p2, .ref h1, .ref h2, .ref h3, .ref h4, .ref h5, .int 1, .int p4, .int p5], la h1 k0 8 (vp_updL (fun _ => 0) 0 36312488334073920), ia h2 k1 8 (upd (fun _ => 0) 0 1056832), ia h5 k4 8 (fun _ => 0)]) hP hD rfl hS hA [0, 1, 2, 3] (by decide +kernel) rfl
        have hK9 := hK.sub (tys' := []) [] rfl
        refine W.widen (k := 0) (n := 0) (by exact Nat.le_of_ble_eq_true rfl) (by exact Nat.le_of_ble_eq_true rfl) ?_
        exact W.iret (v := (-1000)) hx hb hr (fun t ht hW => ⟨⟨(-1000), (), rfl, (by first | decide | exact (fv_i (by assumption)).symm | exact (fv_w (by assumption)).symm), by rw [ht]; exact hP9, va_K.moved hW.alike hK9, hD9⟩, hS.F ht⟩) hS.2.2 d_OutcomeSet_valueOf_25
      · skip
        refine lv_iload_n hx hb d_OutcomeSet_valueOf_4 rfl (lv_at hl 1 rfl) ?_
        refine lv_aload_n hx hb d_OutcomeSet_valueOf_5 rfl (lv_at hl 0 rfl) ?_
        refine va_get (D := (dC, dI)) (ci := 3) (v := .int 1) (C := R_OutcomeSet) (T := F_OutcomeSet) (N := 9) hx hb hw i_OutcomeSet hown hK hP 0 rfl rfl 6 (by decide) (hw _ m_384) (fun _ h9 => h9) rfl d_OutcomeSet_valueOf_6 ?_
        refine lv_icmp_ge (tgt := 22) hx hb d_OutcomeSet_valueOf_9 (by decide) (fun c_75 => ?_) (fun c_75 => ?_)
        · skip
          refine lv_sipush (v := (-1000)) hx hb d_OutcomeSet_valueOf_22 (by decide) ?_
          obtain ⟨hP9, hD9, -⟩ := cut3 (wc := [oc h0 3 [.int p2, .ref h1, .ref h2, .ref h3, .ref h4, .ref h5, .int 1, .int p4, .int p5], la h1 k0 8 (vp_updL (fun _ => 0) 0 36312488334073920), ia h2 k1 8 (upd (fun _ => 0) 0 1056832), ia h5 k4 8 (fun _ => 0)]) hP hD rfl hS hA [0, 1, 2, 3] (by decide +kernel) rfl
          have hK9 := hK.sub (tys' := []) [] rfl
          refine W.widen (k := 0) (n := 0) (by exact Nat.le_of_ble_eq_true rfl) (by exact Nat.le_of_ble_eq_true rfl) ?_
          exact W.iret (v := (-1000)) hx hb hr (fun t ht hW => ⟨⟨(-1000), (), rfl, (by first | decide | exact (fv_i (by assumption)).symm | exact (fv_w (by assumption)).symm), by rw [ht]; exact hP9, va_K.moved hW.alike hK9, hD9⟩, hS.F ht⟩) hS.2.2 d_OutcomeSet_valueOf_25
        · skip
          exfalso
          simp only [Int32.lt_iff_toInt_lt, Int32.le_iff_toInt_le, ← Int32.toInt_inj] at c_74 c_75
          have k0 : (0 : Int32).toInt = 0 := by decide
          have k1 : (1 : Int32).toInt = 1 := by decide
          omega
    · skip
      refine lv_iload_n hx hb d_OutcomeSet_valueOf_0 rfl (lv_at hl 1 rfl) ?_
      refine lv_if_lt (tgt := 22) hx hb d_OutcomeSet_valueOf_1 (by decide) (fun c_76 => ?_) (fun c_76 => ?_)
      · skip
        refine lv_sipush (v := (-1000)) hx hb d_OutcomeSet_valueOf_22 (by decide) ?_
        obtain ⟨hP9, hD9, -⟩ := cut3 (wc := [oc h0 3 [.int p2, .ref h1, .ref h2, .ref h3, .ref h4, .ref h5, .int 1, .int p4, .int p5], la h1 k0 8 (vp_updL (fun _ => 0) 0 36312488334073920), ia h2 k1 8 (upd (fun _ => 0) 0 1056832), ia h5 k4 8 (fun _ => 0)]) hP hD rfl hS hA [0, 1, 2, 3] (by decide +kernel) rfl
        have hK9 := hK.sub (tys' := []) [] rfl
        refine W.widen (k := 0) (n := 0) (by exact Nat.le_of_ble_eq_true rfl) (by exact Nat.le_of_ble_eq_true rfl) ?_
        exact W.iret (v := (-1000)) hx hb hr (fun t ht hW => ⟨⟨(-1000), (), rfl, (by first | decide | exact (fv_i (by assumption)).symm | exact (fv_w (by assumption)).symm), by rw [ht]; exact hP9, va_K.moved hW.alike hK9, hD9⟩, hS.F ht⟩) hS.2.2 d_OutcomeSet_valueOf_25
      · skip
        refine lv_iload_n hx hb d_OutcomeSet_valueOf_4 rfl (lv_at hl 1 rfl) ?_
        refine lv_aload_n hx hb d_OutcomeSet_valueOf_5 rfl (lv_at hl 0 rfl) ?_
        refine va_get (D := (dC, dI)) (ci := 3) (v := .int 1) (C := R_OutcomeSet) (T := F_OutcomeSet) (N := 9) hx hb hw i_OutcomeSet hown hK hP 0 rfl rfl 6 (by decide) (hw _ m_384) (fun _ h9 => h9) rfl d_OutcomeSet_valueOf_6 ?_
        refine lv_icmp_ge (tgt := 22) hx hb d_OutcomeSet_valueOf_9 (by decide) (fun c_77 => ?_) (fun c_77 => ?_)
        · skip
          refine lv_sipush (v := (-1000)) hx hb d_OutcomeSet_valueOf_22 (by decide) ?_
          obtain ⟨hP9, hD9, -⟩ := cut3 (wc := [oc h0 3 [.int p2, .ref h1, .ref h2, .ref h3, .ref h4, .ref h5, .int 1, .int p4, .int p5], la h1 k0 8 (vp_updL (fun _ => 0) 0 36312488334073920), ia h2 k1 8 (upd (fun _ => 0) 0 1056832), ia h5 k4 8 (fun _ => 0)]) hP hD rfl hS hA [0, 1, 2, 3] (by decide +kernel) rfl
          have hK9 := hK.sub (tys' := []) [] rfl
          refine W.widen (k := 0) (n := 0) (by exact Nat.le_of_ble_eq_true rfl) (by exact Nat.le_of_ble_eq_true rfl) ?_
          exact W.iret (v := (-1000)) hx hb hr (fun t ht hW => ⟨⟨(-1000), (), rfl, (by first | decide | exact (fv_i (by assumption)).symm | exact (fv_w (by assumption)).symm), by rw [ht]; exact hP9, va_K.moved hW.alike hK9, hD9⟩, hS.F ht⟩) hS.2.2 d_OutcomeSet_valueOf_25
        · skip
          exfalso
          simp only [Int32.lt_iff_toInt_lt, Int32.le_iff_toInt_le, ← Int32.toInt_inj] at c_76 c_77
          have k0 : (0 : Int32).toInt = 0 := by decide
          have k1 : (1 : Int32).toInt = 1 := by decide
          omega
    · skip
      refine lv_iload_n hx hb d_OutcomeSet_valueOf_0 rfl (lv_at hl 1 rfl) ?_
      refine lv_if_lt (tgt := 22) hx hb d_OutcomeSet_valueOf_1 (by decide) (fun c_78 => ?_) (fun c_78 => ?_)
      · skip
        refine lv_sipush (v := (-1000)) hx hb d_OutcomeSet_valueOf_22 (by decide) ?_
        obtain ⟨hP9, hD9, -⟩ := cut3 (wc := [oc h0 3 [.int p2, .ref h1, .ref h2, .ref h3, .ref h4, .ref h5, .int 1, .int p4, .int p5], la h1 k0 8 (vp_updL (fun _ => 0) 0 36312488334073920), ia h2 k1 8 (upd (fun _ => 0) 0 1056832), ia h5 k4 8 (fun _ => 0)]) hP hD rfl hS hA [0, 1, 2, 3] (by decide +kernel) rfl
        have hK9 := hK.sub (tys' := []) [] rfl
        refine W.widen (k := 0) (n := 0) (by exact Nat.le_of_ble_eq_true rfl) (by exact Nat.le_of_ble_eq_true rfl) ?_
        exact W.iret (v := (-1000)) hx hb hr (fun t ht hW => ⟨⟨(-1000), (), rfl, (by first | decide | exact (fv_i (by assumption)).symm | exact (fv_w (by assumption)).symm), by rw [ht]; exact hP9, va_K.moved hW.alike hK9, hD9⟩, hS.F ht⟩) hS.2.2 d_OutcomeSet_valueOf_25
      · skip
        refine lv_iload_n hx hb d_OutcomeSet_valueOf_4 rfl (lv_at hl 1 rfl) ?_
        refine lv_aload_n hx hb d_OutcomeSet_valueOf_5 rfl (lv_at hl 0 rfl) ?_
        refine va_get (D := (dC, dI)) (ci := 3) (v := .int 1) (C := R_OutcomeSet) (T := F_OutcomeSet) (N := 9) hx hb hw i_OutcomeSet hown hK hP 0 rfl rfl 6 (by decide) (hw _ m_384) (fun _ h9 => h9) rfl d_OutcomeSet_valueOf_6 ?_
        refine lv_icmp_ge (tgt := 22) hx hb d_OutcomeSet_valueOf_9 (by decide) (fun c_79 => ?_) (fun c_79 => ?_)
        · skip
          refine lv_sipush (v := (-1000)) hx hb d_OutcomeSet_valueOf_22 (by decide) ?_
          obtain ⟨hP9, hD9, -⟩ := cut3 (wc := [oc h0 3 [.int p2, .ref h1, .ref h2, .ref h3, .ref h4, .ref h5, .int 1, .int p4, .int p5], la h1 k0 8 (vp_updL (fun _ => 0) 0 36312488334073920), ia h2 k1 8 (upd (fun _ => 0) 0 1056832), ia h5 k4 8 (fun _ => 0)]) hP hD rfl hS hA [0, 1, 2, 3] (by decide +kernel) rfl
          have hK9 := hK.sub (tys' := []) [] rfl
          refine W.widen (k := 0) (n := 0) (by exact Nat.le_of_ble_eq_true rfl) (by exact Nat.le_of_ble_eq_true rfl) ?_
          exact W.iret (v := (-1000)) hx hb hr (fun t ht hW => ⟨⟨(-1000), (), rfl, (by first | decide | exact (fv_i (by assumption)).symm | exact (fv_w (by assumption)).symm), by rw [ht]; exact hP9, va_K.moved hW.alike hK9, hD9⟩, hS.F ht⟩) hS.2.2 d_OutcomeSet_valueOf_25
        · skip
          exfalso
          simp only [Int32.lt_iff_toInt_lt, Int32.le_iff_toInt_le, ← Int32.toInt_inj] at c_78 c_79
          have k0 : (0 : Int32).toInt = 0 := by decide
          have k1 : (1 : Int32).toInt = 1 := by decide
          omega
    · skip
      refine lv_iload_n hx hb d_OutcomeSet_valueOf_0 rfl (lv_at hl 1 rfl) ?_
      refine lv_if_lt (tgt := 22) hx hb d_OutcomeSet_valueOf_1 (by decide) (fun c_80 => ?_) (fun c_80 => ?_)
      · skip
        refine lv_sipush (v := (-1000)) hx hb d_OutcomeSet_valueOf_22 (by decide) ?_
        obtain ⟨hP9, hD9, -⟩ := cut3 (wc := [oc h0 3 [.int p2, .ref h1, .ref h2, .ref h3, .ref h4, .ref h5, .int 1, .int p4, .int p5], la h1 k0 8 (vp_updL (fun _ => 0) 0 36312488334073920), ia h2 k1 8 (upd (fun _ => 0) 0 1056832), ia h5 k4 8 (fun _ => 0)]) hP hD rfl hS hA [0, 1, 2, 3] (by decide +kernel) rfl
        have hK9 := hK.sub (tys' := []) [] rfl
        refine W.widen (k := 0) (n := 0) (by exact Nat.le_of_ble_eq_true rfl) (by exact Nat.le_of_ble_eq_true rfl) ?_
        exact W.iret (v := (-1000)) hx hb hr (fun t ht hW => ⟨⟨(-1000), (), rfl, (by first | decide | exact (fv_i (by assumption)).symm | exact (fv_w (by assumption)).symm), by rw [ht]; exact hP9, va_K.moved hW.alike hK9, hD9⟩, hS.F ht⟩) hS.2.2 d_OutcomeSet_valueOf_25
      · skip
        refine lv_iload_n hx hb d_OutcomeSet_valueOf_4 rfl (lv_at hl 1 rfl) ?_
        refine lv_aload_n hx hb d_OutcomeSet_valueOf_5 rfl (lv_at hl 0 rfl) ?_
        refine va_get (D := (dC, dI)) (ci := 3) (v := .int 1) (C := R_OutcomeSet) (T := F_OutcomeSet) (N := 9) hx hb hw i_OutcomeSet hown hK hP 0 rfl rfl 6 (by decide) (hw _ m_384) (fun _ h9 => h9) rfl d_OutcomeSet_valueOf_6 ?_
        refine lv_icmp_ge (tgt := 22) hx hb d_OutcomeSet_valueOf_9 (by decide) (fun c_81 => ?_) (fun c_81 => ?_)
        · skip
          refine lv_sipush (v := (-1000)) hx hb d_OutcomeSet_valueOf_22 (by decide) ?_
          obtain ⟨hP9, hD9, -⟩ := cut3 (wc := [oc h0 3 [.int p2, .ref h1, .ref h2, .ref h3, .ref h4, .ref h5, .int 1, .int p4, .int p5], la h1 k0 8 (vp_updL (fun _ => 0) 0 36312488334073920), ia h2 k1 8 (upd (fun _ => 0) 0 1056832), ia h5 k4 8 (fun _ => 0)]) hP hD rfl hS hA [0, 1, 2, 3] (by decide +kernel) rfl
          have hK9 := hK.sub (tys' := []) [] rfl
          refine W.widen (k := 0) (n := 0) (by exact Nat.le_of_ble_eq_true rfl) (by exact Nat.le_of_ble_eq_true rfl) ?_
          exact W.iret (v := (-1000)) hx hb hr (fun t ht hW => ⟨⟨(-1000), (), rfl, (by first | decide | exact (fv_i (by assumption)).symm | exact (fv_w (by assumption)).symm), by rw [ht]; exact hP9, va_K.moved hW.alike hK9, hD9⟩, hS.F ht⟩) hS.2.2 d_OutcomeSet_valueOf_25
        · skip
          exfalso
          simp only [Int32.lt_iff_toInt_lt, Int32.le_iff_toInt_le, ← Int32.toInt_inj] at c_80 c_81
          have k0 : (0 : Int32).toInt = 0 := by decide
          have k1 : (1 : Int32).toInt = 1 := by decide
          omega
    · skip
      refine lv_iload_n hx hb d_OutcomeSet_valueOf_0 rfl (lv_at hl 1 rfl) ?_
      refine lv_if_lt (tgt := 22) hx hb d_OutcomeSet_valueOf_1 (by decide) (fun c_82 => ?_) (fun c_82 => ?_)
      · skip
        refine lv_sipush (v := (-1000)) hx hb d_OutcomeSet_valueOf_22 (by decide) ?_
        obtain ⟨hP9, hD9, -⟩ := cut3 (wc := [oc h0 3 [.int p2, .ref h1, .ref h2, .ref h3, .ref h4, .ref h5, .int 1, .int p4, .int p5], la h1 k0 8 (vp_updL (fun _ => 0) 0 36312488334073920), ia h2 k1 8 (upd (fun _ => 0) 0 1056832), ia h5 k4 8 (fun _ => 0)]) hP hD rfl hS hA [0, 1, 2, 3] (by decide +kernel) rfl
        have hK9 := hK.sub (tys' := []) [] rfl
        refine W.widen (k := 0) (n := 0) (by exact Nat.le_of_ble_eq_true rfl) (by exact Nat.le_of_ble_eq_true rfl) ?_
        exact W.iret (v := (-1000)) hx hb hr (fun t ht hW => ⟨⟨(-1000), (), rfl, (by first | decide | exact (fv_i (by assumption)).symm | exact (fv_w (by assumption)).symm), by rw [ht]; exact hP9, va_K.moved hW.alike hK9, hD9⟩, hS.F ht⟩) hS.2.2 d_OutcomeSet_valueOf_25
      · skip
        refine lv_iload_n hx hb d_OutcomeSet_valueOf_4 rfl (lv_at hl 1 rfl) ?_
        refine lv_aload_n hx hb d_OutcomeSet_valueOf_5 rfl (lv_at hl 0 rfl) ?_
        refine va_get (D := (dC, dI)) (ci := 3) (v := .int 1) (C := R_OutcomeSet) (T := F_OutcomeSet) (N := 9) hx hb hw i_OutcomeSet hown hK hP 0 rfl rfl 6 (by decide) (hw _ m_384) (fun _ h9 => h9) rfl d_OutcomeSet_valueOf_6 ?_
        refine lv_icmp_ge (tgt := 22) hx hb d_OutcomeSet_valueOf_9 (by decide) (fun c_83 => ?_) (fun c_83 => ?_)
        · skip
          refine lv_sipush (v := (-1000)) hx hb d_OutcomeSet_valueOf_22 (by decide) ?_
          obtain ⟨hP9, hD9, -⟩ := cut3 (wc := [oc h0 3 [.int p2, .ref h1, .ref h2, .ref h3, .ref h4, .ref h5, .int 1, .int p4, .int p5], la h1 k0 8 (vp_updL (fun _ => 0) 0 36312488334073920), ia h2 k1 8 (upd (fun _ => 0) 0 1056832), ia h5 k4 8 (fun _ => 0)]) hP hD rfl hS hA [0, 1, 2, 3] (by decide +kernel) rfl
          have hK9 := hK.sub (tys' := []) [] rfl
          refine W.widen (k := 0) (n := 0) (by exact Nat.le_of_ble_eq_true rfl) (by exact Nat.le_of_ble_eq_true rfl) ?_
          exact W.iret (v := (-1000)) hx hb hr (fun t ht hW => ⟨⟨(-1000), (), rfl, (by first | decide | exact (fv_i (by assumption)).symm | exact (fv_w (by assumption)).symm), by rw [ht]; exact hP9, va_K.moved hW.alike hK9, hD9⟩, hS.F ht⟩) hS.2.2 d_OutcomeSet_valueOf_25
        · skip
          exfalso
          simp only [Int32.lt_iff_toInt_lt, Int32.le_iff_toInt_le, ← Int32.toInt_inj] at c_82 c_83
          have k0 : (0 : Int32).toInt = 0 := by decide
          have k1 : (1 : Int32).toInt = 1 := by decide
          omega
    · skip
      refine lv_iload_n hx hb d_OutcomeSet_valueOf_0 rfl (lv_at hl 1 rfl) ?_
      refine lv_if_lt (tgt := 22) hx hb d_OutcomeSet_valueOf_1 (by decide) (fun c_84 => ?_) (fun c_84 => ?_)
      · skip
        refine lv_sipush (v := (-1000)) hx hb d_OutcomeSet_valueOf_22 (by decide) ?_
        obtain ⟨hP9, hD9, -⟩ := cut3 (wc := [oc h0 3 [.int p2, .ref h1, .ref h2, .ref h3, .ref h4, .ref h5, .int 1, .int p4, .int p5], la h1 k0 8 (vp_updL (fun _ => 0) 0 36312488334073920), ia h2 k1 8 (upd (fun _ => 0) 0 1056832), ia h5 k4 8 (fun _ => 0)]) hP hD rfl hS hA [0, 1, 2, 3] (by decide +kernel) rfl
        have hK9 := hK.sub (tys' := []) [] rfl
        refine W.widen (k := 0) (n := 0) (by exact Nat.le_of_ble_eq_true rfl) (by exact Nat.le_of_ble_eq_true rfl) ?_
        exact W.iret (v := (-1000)) hx hb hr (fun t ht hW => ⟨⟨(-1000), (), rfl, (by first | decide | exact (fv_i (by assumption)).symm | exact (fv_w (by assumption)).symm), by rw [ht]; exact hP9, va_K.moved hW.alike hK9, hD9⟩, hS.F ht⟩) hS.2.2 d_OutcomeSet_valueOf_25
      · skip
        refine lv_iload_n hx hb d_OutcomeSet_valueOf_4 rfl (lv_at hl 1 rfl) ?_
        refine lv_aload_n hx hb d_OutcomeSet_valueOf_5 rfl (lv_at hl 0 rfl) ?_
        refine va_get (D := (dC, dI)) (ci := 3) (v := .int 1) (C := R_OutcomeSet) (T := F_OutcomeSet) (N := 9) hx hb hw i_OutcomeSet hown hK hP 0 rfl rfl 6 (by decide) (hw _ m_384) (fun _ h9 => h9) rfl d_OutcomeSet_valueOf_6 ?_
        refine lv_icmp_ge (tgt := 22) hx hb d_OutcomeSet_valueOf_9 (by decide) (fun c_85 => ?_) (fun c_85 => ?_)
        · skip
          refine lv_sipush (v := (-1000)) hx hb d_OutcomeSet_valueOf_22 (by decide) ?_
          obtain ⟨hP9, hD9, -⟩ := cut3 (wc := [oc h0 3 [.int p2, .ref h1, .ref h2, .ref h3, .ref h4, .ref h5, .int 1, .int p4, .int p5], la h1 k0 8 (vp_updL (fun _ => 0) 0 36312488334073920), ia h2 k1 8 (upd (fun _ => 0) 0 1056832), ia h5 k4 8 (fun _ => 0)]) hP hD rfl hS hA [0, 1, 2, 3] (by decide +kernel) rfl
          have hK9 := hK.sub (tys' := []) [] rfl
          refine W.widen (k := 0) (n := 0) (by exact Nat.le_of_ble_eq_true rfl) (by exact Nat.le_of_ble_eq_true rfl) ?_
          exact W.iret (v := (-1000)) hx hb hr (fun t ht hW => ⟨⟨(-1000), (), rfl, (by first | decide | exact (fv_i (by assumption)).symm | exact (fv_w (by assumption)).symm), by rw [ht]; exact hP9, va_K.moved hW.alike hK9, hD9⟩, hS.F ht⟩) hS.2.2 d_OutcomeSet_valueOf_25
        · skip
          exfalso
          simp only [Int32.lt_iff_toInt_lt, Int32.le_iff_toInt_le, ← Int32.toInt_inj] at c_84 c_85
          have k0 : (0 : Int32).toInt = 0 := by decide
          have k1 : (1 : Int32).toInt = 1 := by decide
          omega
    · skip
      refine lv_iload_n hx hb d_OutcomeSet_valueOf_0 rfl (lv_at hl 1 rfl) ?_
      refine lv_if_lt (tgt := 22) hx hb d_OutcomeSet_valueOf_1 (by decide) (fun c_86 => ?_) (fun c_86 => ?_)
      · skip
        refine lv_sipush (v := (-1000)) hx hb d_OutcomeSet_valueOf_22 (by decide) ?_
        obtain ⟨hP9, hD9, -⟩ := cut3 (wc := [oc h0 3 [.int p2, .ref h1, .ref h2, .ref h3, .ref h4, .ref h5, .int 1, .int p4, .int p5], la h1 k0 8 (vp_updL (fun _ => 0) 0 36312488334073920), ia h2 k1 8 (upd (fun _ => 0) 0 1056832), ia h5 k4 8 (fun _ => 0)]) hP hD rfl hS hA [0, 1, 2, 3] (by decide +kernel) rfl
        have hK9 := hK.sub (tys' := []) [] rfl
        refine W.widen (k := 0) (n := 0) (by exact Nat.le_of_ble_eq_true rfl) (by exact Nat.le_of_ble_eq_true rfl) ?_
        exact W.iret (v := (-1000)) hx hb hr (fun t ht hW => ⟨⟨(-1000), (), rfl, (by first | decide | exact (fv_i (by assumption)).symm | exact (fv_w (by assumption)).symm), by rw [ht]; exact hP9, va_K.moved hW.alike hK9, hD9⟩, hS.F ht⟩) hS.2.2 d_OutcomeSet_valueOf_25
      · skip
        refine lv_iload_n hx hb d_OutcomeSet_valueOf_4 rfl (lv_at hl 1 rfl) ?_
        refine lv_aload_n hx hb d_OutcomeSet_valueOf_5 rfl (lv_at hl 0 rfl) ?_
        refine va_get (D := (dC, dI)) (ci := 3) (v := .int 1) (C := R_OutcomeSet) (T := F_OutcomeSet) (N := 9) hx hb hw i_OutcomeSet hown hK hP 0 rfl rfl 6 (by decide) (hw _ m_384) (fun _ h9 => h9) rfl d_OutcomeSet_valueOf_6 ?_
        refine lv_icmp_ge (tgt := 22) hx hb d_OutcomeSet_valueOf_9 (by decide) (fun c_87 => ?_) (fun c_87 => ?_)
        · skip
          refine lv_sipush (v := (-1000)) hx hb d_OutcomeSet_valueOf_22 (by decide) ?_
          obtain ⟨hP9, hD9, -⟩ := cut3 (wc := [oc h0 3 [.int p2, .ref h1, .ref h2, .ref h3, .ref h4, .ref h5, .int 1, .int p4, .int p5], la h1 k0 8 (vp_updL (fun _ => 0) 0 36312488334073920), ia h2 k1 8 (upd (fun _ => 0) 0 1056832), ia h5 k4 8 (fun _ => 0)]) hP hD rfl hS hA [0, 1, 2, 3] (by decide +kernel) rfl
          have hK9 := hK.sub (tys' := []) [] rfl
          refine W.widen (k := 0) (n := 0) (by exact Nat.le_of_ble_eq_true rfl) (by exact Nat.le_of_ble_eq_true rfl) ?_
          exact W.iret (v := (-1000)) hx hb hr (fun t ht hW => ⟨⟨(-1000), (), rfl, (by first | decide | exact (fv_i (by assumption)).symm | exact (fv_w (by assumption)).symm), by rw [ht]; exact hP9, va_K.moved hW.alike hK9, hD9⟩, hS.F ht⟩) hS.2.2 d_OutcomeSet_valueOf_25
        · skip
          exfalso
          simp only [Int32.lt_iff_toInt_lt, Int32.le_iff_toInt_le, ← Int32.toInt_inj] at c_86 c_87
          have k0 : (0 : Int32).toInt = 0 := by decide
          have k1 : (1 : Int32).toInt = 1 := by decide
          omega
    · skip
      refine lv_iload_n hx hb d_OutcomeSet_valueOf_0 rfl (lv_at hl 1 rfl) ?_
      refine lv_if_lt (tgt := 22) hx hb d_OutcomeSet_valueOf_1 (by decide) (fun c_88 => ?_) (fun c_88 => ?_)
      · skip
        refine lv_sipush (v := (-1000)) hx hb d_OutcomeSet_valueOf_22 (by decide) ?_
        obtain ⟨hP9, hD9, -⟩ := cut3 (wc := [oc h0 3 [.int p2, .ref h1, .ref h2, .ref h3, .ref h4, .ref h5, .int 1, .int p4, .int p5], la h1 k0 8 (vp_updL (fun _ => 0) 0 36312488334073920), ia h2 k1 8 (upd (fun _ => 0) 0 1056832), ia h5 k4 8 (fun _ => 0)]) hP hD rfl hS hA [0, 1, 2, 3] (by decide +kernel) rfl
        have hK9 := hK.sub (tys' := []) [] rfl
        refine W.widen (k := 0) (n := 0) (by exact Nat.le_of_ble_eq_true rfl) (by exact Nat.le_of_ble_eq_true rfl) ?_
        exact W.iret (v := (-1000)) hx hb hr (fun t ht hW => ⟨⟨(-1000), (), rfl, (by first | decide | exact (fv_i (by assumption)).symm | exact (fv_w (by assumption)).symm), by rw [ht]; exact hP9, va_K.moved hW.alike hK9, hD9⟩, hS.F ht⟩) hS.2.2 d_OutcomeSet_valueOf_25
      · skip
        refine lv_iload_n hx hb d_OutcomeSet_valueOf_4 rfl (lv_at hl 1 rfl) ?_
        refine lv_aload_n hx hb d_OutcomeSet_valueOf_5 rfl (lv_at hl 0 rfl) ?_
        refine va_get (D := (dC, dI)) (ci := 3) (v := .int 1) (C := R_OutcomeSet) (T := F_OutcomeSet) (N := 9) hx hb hw i_OutcomeSet hown hK hP 0 rfl rfl 6 (by decide) (hw _ m_384) (fun _ h9 => h9) rfl d_OutcomeSet_valueOf_6 ?_
        refine lv_icmp_ge (tgt := 22) hx hb d_OutcomeSet_valueOf_9 (by decide) (fun c_89 => ?_) (fun c_89 => ?_)
        · skip
          refine lv_sipush (v := (-1000)) hx hb d_OutcomeSet_valueOf_22 (by decide) ?_
          obtain ⟨hP9, hD9, -⟩ := cut3 (wc := [oc h0 3 [.int p2, .ref h1, .ref h2, .ref h3, .ref h4, .ref h5, .int 1, .int p4, .int p5], la h1 k0 8 (vp_updL (fun _ => 0) 0 36312488334073920), ia h2 k1 8 (upd (fun _ => 0) 0 1056832), ia h5 k4 8 (fun _ => 0)]) hP hD rfl hS hA [0, 1, 2, 3] (by decide +kernel) rfl
          have hK9 := hK.sub (tys' := []) [] rfl
          refine W.widen (k := 0) (n := 0) (by exact Nat.le_of_ble_eq_true rfl) (by exact Nat.le_of_ble_eq_true rfl) ?_
          exact W.iret (v := (-1000)) hx hb hr (fun t ht hW => ⟨⟨(-1000), (), rfl, (by first | decide | exact (fv_i (by assumption)).symm | exact (fv_w (by assumption)).symm), by rw [ht]; exact hP9, va_K.moved hW.alike hK9, hD9⟩, hS.F ht⟩) hS.2.2 d_OutcomeSet_valueOf_25
        · skip
          exfalso
          simp only [Int32.lt_iff_toInt_lt, Int32.le_iff_toInt_le, ← Int32.toInt_inj] at c_88 c_89
          have k0 : (0 : Int32).toInt = 0 := by decide
          have k1 : (1 : Int32).toInt = 1 := by decide
          omega
    · skip
      refine lv_iload_n hx hb d_OutcomeSet_valueOf_0 rfl (lv_at hl 1 rfl) ?_
      refine lv_if_lt (tgt := 22) hx hb d_OutcomeSet_valueOf_1 (by decide) (fun c_90 => ?_) (fun c_90 => ?_)
      · skip
        refine lv_sipush (v := (-1000)) hx hb d_OutcomeSet_valueOf_22 (by decide) ?_
        obtain ⟨hP9, hD9, -⟩ := cut3 (wc := [oc h0 3 [.int p2, .ref h1, .ref h2, .ref h3, .ref h4, .ref h5, .int 1, .int p4, .int p5], la h1 k0 8 (vp_updL (fun _ => 0) 0 36312488334073920), ia h2 k1 8 (upd (fun _ => 0) 0 1056832), ia h5 k4 8 (fun _ => 0)]) hP hD rfl hS hA [0, 1, 2, 3] (by decide +kernel) rfl
        have hK9 := hK.sub (tys' := []) [] rfl
        refine W.widen (k := 0) (n := 0) (by exact Nat.le_of_ble_eq_true rfl) (by exact Nat.le_of_ble_eq_true rfl) ?_
        exact W.iret (v := (-1000)) hx hb hr (fun t ht hW => ⟨⟨(-1000), (), rfl, (by first | decide | exact (fv_i (by assumption)).symm | exact (fv_w (by assumption)).symm), by rw [ht]; exact hP9, va_K.moved hW.alike hK9, hD9⟩, hS.F ht⟩) hS.2.2 d_OutcomeSet_valueOf_25
      · skip
        refine lv_iload_n hx hb d_OutcomeSet_valueOf_4 rfl (lv_at hl 1 rfl) ?_
        refine lv_aload_n hx hb d_OutcomeSet_valueOf_5 rfl (lv_at hl 0 rfl) ?_
        refine va_get (D := (dC, dI)) (ci := 3) (v := .int 1) (C := R_OutcomeSet) (T := F_OutcomeSet) (N := 9) hx hb hw i_OutcomeSet hown hK hP 0 rfl rfl 6 (by decide) (hw _ m_384) (fun _ h9 => h9) rfl d_OutcomeSet_valueOf_6 ?_
        refine lv_icmp_ge (tgt := 22) hx hb d_OutcomeSet_valueOf_9 (by decide) (fun c_91 => ?_) (fun c_91 => ?_)
        · skip
          refine lv_sipush (v := (-1000)) hx hb d_OutcomeSet_valueOf_22 (by decide) ?_
          obtain ⟨hP9, hD9, -⟩ := cut3 (wc := [oc h0 3 [.int p2, .ref h1, .ref h2, .ref h3, .ref h4, .ref h5, .int 1, .int p4, .int p5], la h1 k0 8 (vp_updL (fun _ => 0) 0 36312488334073920), ia h2 k1 8 (upd (fun _ => 0) 0 1056832), ia h5 k4 8 (fun _ => 0)]) hP hD rfl hS hA [0, 1, 2, 3] (by decide +kernel) rfl
          have hK9 := hK.sub (tys' := []) [] rfl
          refine W.widen (k := 0) (n := 0) (by exact Nat.le_of_ble_eq_true rfl) (by exact Nat.le_of_ble_eq_true rfl) ?_
          exact W.iret (v := (-1000)) hx hb hr (fun t ht hW => ⟨⟨(-1000), (), rfl, (by first | decide | exact (fv_i (by assumption)).symm | exact (fv_w (by assumption)).symm), by rw [ht]; exact hP9, va_K.moved hW.alike hK9, hD9⟩, hS.F ht⟩) hS.2.2 d_OutcomeSet_valueOf_25
        · skip
          exfalso
          simp only [Int32.lt_iff_toInt_lt, Int32.le_iff_toInt_le, ← Int32.toInt_inj] at c_90 c_91
          have k0 : (0 : Int32).toInt = 0 := by decide
          have k1 : (1 : Int32).toInt = 1 := by decide
          omega
    · skip
      refine lv_iload_n hx hb d_OutcomeSet_valueOf_0 rfl (lv_at hl 1 rfl) ?_
      refine lv_if_lt (tgt := 22) hx hb d_OutcomeSet_valueOf_1 (by decide) (fun c_92 => ?_) (fun c_92 => ?_)
      · skip
        refine lv_sipush (v := (-1000)) hx hb d_OutcomeSet_valueOf_22 (by decide) ?_
        obtain ⟨hP9, hD9, -⟩ := cut3 (wc := [oc h0 3 [.int p2, .ref h1, .ref h2, .ref h3, .ref h4, .ref h5, .int 1, .int p4, .int p5], la h1 k0 8 (vp_updL (fun _ => 0) 0 36312488334073920), ia h2 k1 8 (upd (fun _ => 0) 0 1056832), ia h5 k4 8 (fun _ => 0)]) hP hD rfl hS hA [0, 1, 2, 3] (by decide +kernel) rfl
        have hK9 := hK.sub (tys' := []) [] rfl
        refine W.widen (k := 0) (n := 0) (by exact Nat.le_of_ble_eq_true rfl) (by exact Nat.le_of_ble_eq_true rfl) ?_
        exact W.iret (v := (-1000)) hx hb hr (fun t ht hW => ⟨⟨(-1000), (), rfl, (by first | decide | exact (fv_i (by assumption)).symm | exact (fv_w (by assumption)).symm), by rw [ht]; exact hP9, va_K.moved hW.alike hK9, hD9⟩, hS.F ht⟩) hS.2.2 d_OutcomeSet_valueOf_25
      · skip
        refine lv_iload_n hx hb d_OutcomeSet_valueOf_4 rfl (lv_at hl 1 rfl) ?_
        refine lv_aload_n hx hb d_OutcomeSet_valueOf_5 rfl (lv_at hl 0 rfl) ?_
        refine va_get (D := (dC, dI)) (ci := 3) (v := .int 1) (C := R_OutcomeSet) (T := F_OutcomeSet) (N := 9) hx hb hw i_OutcomeSet hown hK hP 0 rfl rfl 6 (by decide) (hw _ m_384) (fun _ h9 => h9) rfl d_OutcomeSet_valueOf_6 ?_
        refine lv_icmp_ge (tgt := 22) hx hb d_OutcomeSet_valueOf_9 (by decide) (fun c_93 => ?_) (fun c_93 => ?_)
        · skip
          refine lv_sipush (v := (-1000)) hx hb d_OutcomeSet_valueOf_22 (by decide) ?_
          obtain ⟨hP9, hD9, -⟩ := cut3 (wc := [oc h0 3 [.int p2, .ref h1, .ref h2, .ref h3, .ref h4, .ref h5, .int 1, .int p4, .int p5], la h1 k0 8 (vp_updL (fun _ => 0) 0 36312488334073920), ia h2 k1 8 (upd (fun _ => 0) 0 1056832), ia h5 k4 8 (fun _ => 0)]) hP hD rfl hS hA [0, 1, 2, 3] (by decide +kernel) rfl
          have hK9 := hK.sub (tys' := []) [] rfl
          refine W.widen (k := 0) (n := 0) (by exact Nat.le_of_ble_eq_true rfl) (by exact Nat.le_of_ble_eq_true rfl) ?_
          exact W.iret (v := (-1000)) hx hb hr (fun t ht hW => ⟨⟨(-1000), (), rfl, (by first | decide | exact (fv_i (by assumption)).symm | exact (fv_w (by assumption)).symm), by rw [ht]; exact hP9, va_K.moved hW.alike hK9, hD9⟩, hS.F ht⟩) hS.2.2 d_OutcomeSet_valueOf_25
        · skip
          exfalso
          simp only [Int32.lt_iff_toInt_lt, Int32.le_iff_toInt_le, ← Int32.toInt_inj] at c_92 c_93
          have k0 : (0 : Int32).toInt = 0 := by decide
          have k1 : (1 : Int32).toInt = 1 := by decide
          omega
    · skip
      refine lv_iload_n hx hb d_OutcomeSet_valueOf_0 rfl (lv_at hl 1 rfl) ?_
      refine lv_if_lt (tgt := 22) hx hb d_OutcomeSet_valueOf_1 (by decide) (fun c_94 => ?_) (fun c_94 => ?_)
      · skip
        refine lv_sipush (v := (-1000)) hx hb d_OutcomeSet_valueOf_22 (by decide) ?_
        obtain ⟨hP9, hD9, -⟩ := cut3 (wc := [oc h0 3 [.int p2, .ref h1, .ref h2, .ref h3, .ref h4, .ref h5, .int 1, .int p4, .int p5], la h1 k0 8 (vp_updL (fun _ => 0) 0 36312488334073920), ia h2 k1 8 (upd (fun _ => 0) 0 1056832), ia h5 k4 8 (fun _ => 0)]) hP hD rfl hS hA [0, 1, 2, 3] (by decide +kernel) rfl
        have hK9 := hK.sub (tys' := []) [] rfl
        refine W.widen (k := 0) (n := 0) (by exact Nat.le_of_ble_eq_true rfl) (by exact Nat.le_of_ble_eq_true rfl) ?_
        exact W.iret (v := (-1000)) hx hb hr (fun t ht hW => ⟨⟨(-1000), (), rfl, (by first | decide | exact (fv_i (by assumption)).symm | exact (fv_w (by assumption)).symm), by rw [ht]; exact hP9, va_K.moved hW.alike hK9, hD9⟩, hS.F ht⟩) hS.2.2 d_OutcomeSet_valueOf_25
      · skip
        refine lv_iload_n hx hb d_OutcomeSet_valueOf_4 rfl (lv_at hl 1 rfl) ?_
        refine lv_aload_n hx hb d_OutcomeSet_valueOf_5 rfl (lv_at hl 0 rfl) ?_
        refine va_get (D := (dC, dI)) (ci := 3) (v := .int 1) (C := R_OutcomeSet) (T := F_OutcomeSet) (N := 9) hx hb hw i_OutcomeSet hown hK hP 0 rfl rfl 6 (by decide) (hw _ m_384) (fun _ h9 => h9) rfl d_OutcomeSet_valueOf_6 ?_
        refine lv_icmp_ge (tgt := 22) hx hb d_OutcomeSet_valueOf_9 (by decide) (fun c_95 => ?_) (fun c_95 => ?_)
        · skip
          refine lv_sipush (v := (-1000)) hx hb d_OutcomeSet_valueOf_22 (by decide) ?_
          obtain ⟨hP9, hD9, -⟩ := cut3 (wc := [oc h0 3 [.int p2, .ref h1, .ref h2, .ref h3, .ref h4, .ref h5, .int 1, .int p4, .int p5], la h1 k0 8 (vp_updL (fun _ => 0) 0 36312488334073920), ia h2 k1 8 (upd (fun _ => 0) 0 1056832), ia h5 k4 8 (fun _ => 0)]) hP hD rfl hS hA [0, 1, 2, 3] (by decide +kernel) rfl
          have hK9 := hK.sub (tys' := []) [] rfl
          refine W.widen (k := 0) (n := 0) (by exact Nat.le_of_ble_eq_true rfl) (by exact Nat.le_of_ble_eq_true rfl) ?_
          exact W.iret (v := (-1000)) hx hb hr (fun t ht hW => ⟨⟨(-1000), (), rfl, (by first | decide | exact (fv_i (by assumption)).symm | exact (fv_w (by assumption)).symm), by rw [ht]; exact hP9, va_K.moved hW.alike hK9, hD9⟩, hS.F ht⟩) hS.2.2 d_OutcomeSet_valueOf_25
        · skip
          exfalso
          simp only [Int32.lt_iff_toInt_lt, Int32.le_iff_toInt_le, ← Int32.toInt_inj] at c_94 c_95
          have k0 : (0 : Int32).toInt = 0 := by decide
          have k1 : (1 : Int32).toInt = 1 := by decide
          omega
    · skip
      refine lv_iload_n hx hb d_OutcomeSet_valueOf_0 rfl (lv_at hl 1 rfl) ?_
      refine lv_if_lt (tgt := 22) hx hb d_OutcomeSet_valueOf_1 (by decide) (fun c_96 => ?_) (fun c_96 => ?_)
      · skip
        refine lv_sipush (v := (-1000)) hx hb d_OutcomeSet_valueOf_22 (by decide) ?_
        obtain ⟨hP9, hD9, -⟩ := cut3 (wc := [oc h0 3 [.int p2, .ref h1, .ref h2, .ref h3, .ref h4, .ref h5, .int 1, .int p4, .int p5], la h1 k0 8 (vp_updL (fun _ => 0) 0 36312488334073920), ia h2 k1 8 (upd (fun _ => 0) 0 1056832), ia h5 k4 8 (fun _ => 0)]) hP hD rfl hS hA [0, 1, 2, 3] (by decide +kernel) rfl
        have hK9 := hK.sub (tys' := []) [] rfl
        refine W.widen (k := 0) (n := 0) (by exact Nat.le_of_ble_eq_true rfl) (by exact Nat.le_of_ble_eq_true rfl) ?_
        exact W.iret (v := (-1000)) hx hb hr (fun t ht hW => ⟨⟨(-1000), (), rfl, (by first | decide | exact (fv_i (by assumption)).symm | exact (fv_w (by assumption)).symm), by rw [ht]; exact hP9, va_K.moved hW.alike hK9, hD9⟩, hS.F ht⟩) hS.2.2 d_OutcomeSet_valueOf_25
      · skip
        refine lv_iload_n hx hb d_OutcomeSet_valueOf_4 rfl (lv_at hl 1 rfl) ?_
        refine lv_aload_n hx hb d_OutcomeSet_valueOf_5 rfl (lv_at hl 0 rfl) ?_
        refine va_get (D := (dC, dI)) (ci := 3) (v := .int 1) (C := R_OutcomeSet) (T := F_OutcomeSet) (N := 9) hx hb hw i_OutcomeSet hown hK hP 0 rfl rfl 6 (by decide) (hw _ m_384) (fun _ h9 => h9) rfl d_OutcomeSet_valueOf_6 ?_
        refine lv_icmp_ge (tgt := 22) hx hb d_OutcomeSet_valueOf_9 (by decide) (fun c_97 => ?_) (fun c_97 => ?_)
        · skip
          refine lv_sipush (v := (-1000)) hx hb d_OutcomeSet_valueOf_22 (by decide) ?_
          obtain ⟨hP9, hD9, -⟩ := cut3 (wc := [oc h0 3 [.int p2, .ref h1, .ref h2, .ref h3, .ref h4, .ref h5, .int 1, .int p4, .int p5], la h1 k0 8 (vp_updL (fun _ => 0) 0 36312488334073920), ia h2 k1 8 (upd (fun _ => 0) 0 1056832), ia h5 k4 8 (fun _ => 0)]) hP hD rfl hS hA [0, 1, 2, 3] (by decide +kernel) rfl
          have hK9 := hK.sub (tys' := []) [] rfl
          refine W.widen (k := 0) (n := 0) (by exact Nat.le_of_ble_eq_true rfl) (by exact Nat.le_of_ble_eq_true rfl) ?_
          exact W.iret (v := (-1000)) hx hb hr (fun t ht hW => ⟨⟨(-1000), (), rfl, (by first | decide | exact (fv_i (by assumption)).symm | exact (fv_w (by assumption)).symm), by rw [ht]; exact hP9, va_K.moved hW.alike hK9, hD9⟩, hS.F ht⟩) hS.2.2 d_OutcomeSet_valueOf_25
        · skip
          exfalso
          simp only [Int32.lt_iff_toInt_lt, Int32.le_iff_toInt_le, ← Int32.toInt_inj] at c_96 c_97
          have k0 : (0 : Int32).toInt = 0 := by decide
          have k1 : (1 : Int32).toInt = 1 := by decide
          omega
