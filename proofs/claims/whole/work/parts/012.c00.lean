set_option maxHeartbeats 4000000 in
set_option maxRecDepth 100000 in
theorem c_Program_init (l : Launch) (dC : Nat → ClassId) (dI : Nat → Nat → Nat) (h0 : Nat) (p0 : Int32) (p1 : Int32) (sz : Nat) : Met l y_Program_init w_Program_init ({ frames := 1, cells := 11, slots := 87, locals := 12 }) (va_Pc [.ref h0] (fun U => U.heap.size = sz ∧ va_P (dC, dI) classes [oc h0 0 [.null, .null, .null, .null, .null, .null, .null, .null, .null, .null, .null, .int p0, .int p1]] U.heap ∧ va_K (dC, dI) classes [] U ∧ va_D (fun _ => True) [oc h0 0 [.null, .null, .null, .null, .null, .null, .null, .null, .null, .null, .null, .int p0, .int p1]] ∧ nw U)) (va_Qv (fun _ : Unit => True) (fun _ t => ∃ (q_1 q_3 q_5 q_7 q_9 q_11 q_13 q_15 q_17 q_19 q_21 : Nat) (k_2 k_4 k_6 k_8 k_10 k_12 k_14 k_16 k_18 k_20 k_22 : ClassId), va_P (dC, dI) classes [oc h0 0 [.ref q_1, .ref q_3, .ref q_5, .ref q_7, .ref q_9, .ref q_11, .ref q_13, .ref q_15, .ref q_17, .ref q_19, .ref q_21, .int p0, .int p1], ia q_1 k_2 4 (fun _ => 0), ia q_3 k_4 28 (fun _ => 0), ia q_5 k_6 7 (fun _ => 0), ia q_7 k_8 7 (fun _ => 0), ia q_9 k_10 7 (fun _ => 0), ia q_11 k_12 7 (fun _ => 0), ia q_13 k_14 7 (fun _ => 0), ia q_15 k_16 7 (fun _ => 0), ia q_17 k_18 4 (fun _ => 0), ia q_19 k_20 6 (fun _ => 0), ia q_21 k_22 3 (fun _ => 0)] t.heap ∧ va_K (dC, dI) classes [(k_2, .int), (k_4, .int), (k_6, .int), (k_8, .int), (k_10, .int), (k_12, .int), (k_14, .int), (k_16, .int), (k_18, .int), (k_20, .int), (k_22, .int)] t ∧ va_D (va_A [oc h0 0 [.null, .null, .null, .null, .null, .null, .null, .null, .null, .null, .null, .int p0, .int p1]] sz) [oc h0 0 [.ref q_1, .ref q_3, .ref q_5, .ref q_7, .ref q_9, .ref q_11, .ref q_13, .ref q_15, .ref q_17, .ref q_19, .ref q_21, .int p0, .int p1], ia q_1 k_2 4 (fun _ => 0), ia q_3 k_4 28 (fun _ => 0), ia q_5 k_6 7 (fun _ => 0), ia q_7 k_8 7 (fun _ => 0), ia q_9 k_10 7 (fun _ => 0), ia q_11 k_12 7 (fun _ => 0), ia q_13 k_14 7 (fun _ => 0), ia q_15 k_16 7 (fun _ => 0), ia q_17 k_18 4 (fun _ => 0), ia q_19 k_20 6 (fun _ => 0), ia q_21 k_22 3 (fun _ => 0)]) (va_A [oc h0 0 [.null, .null, .null, .null, .null, .null, .null, .null, .null, .null, .null, .int p0, .int p1]] sz)) 11 87 (va_A [oc h0 0 [.null, .null, .null, .null, .null, .null, .null, .null, .null, .null, .null, .int p0, .int p1]] sz) := by
  refine Met.ofW (cc := b_Program_init) (maxL := 1) (ret := none) (by decide) rfl ?_
  intro p e s m args below meth c s₁ B hml hv
  obtain ⟨rfl, hsz, hP, hK, hD0, hn⟩ := hv
  have hx := B.exec
  have hb := B.bytes
  have hr := B.returns
  have hw := fun w (h : w ∈ wt) => atoms_spec (ws := w_Program_init) B.pre w (List.mem_cons_of_mem _ h)
  have hown : s.vm.findClass R_Program = some m.cls := findClass_of_methodNamed B.named
  have hlocks := B.notSynchronized
  have hin : meth.name = "<init>" := (name_of_methodNamed B.named B.method).1
  subst hsz
  have hD1 := hD0.self (sz := s.heap.size)
  generalize hAe : va_A [oc h0 0 [.null, .null, .null, .null, .null, .null, .null, .null, .null, .null, .null, .int p0, .int p1]] s.heap.size = A at hD1 ⊢
  have hA : ∀ q : Nat, s.heap.size ≤ q → A q := fun q h => by rw [← hAe]; exact Or.inr h
  have hD : dd A [h0] := dd_of hD1 rfl
  clear hAe hD0 hD1
  have hS : va_S A s.heap s.heap [] := va_S.rf
  replace hP : va_P (dC, dI) classes [oc h0 0 [.null, .null, .null, .null, .null, .null, .null, .null, .null, .null, .null, .int p0, .int p1]] s.heap := hP
  have hl := lv_entry ([.ref h0]) (n := 1) (Nat.le_of_ble_eq_true rfl)
  rw [lg_entry_eq]
  generalize (lg_sl ([.ref h0]) ++ List.replicate (1 - (lg_sl ([.ref h0])).length) Slot.unset).toArray = ls at hl ⊢
  replace hl : lv_has ls 1 [(0, .ref h0)] := hl
  refine lv_aload_n hx hb d_Program_init_0 rfl (lv_at hl 0 rfl) ?_
  refine W.objInit hx hb hown (hw _ m_127) (hw _ m_120) (hw _ m_121) rfl (by rw [hml]; exact hl.1) rfl d_Program_init_1 (Nat.le_of_ble_eq_true rfl) (Nat.le_of_ble_eq_true rfl) ?_
  refine W.eq (g2 := F0 m 4 ls []) rfl ?_
  refine lv_aload_n hx hb d_Program_init_4 rfl (lv_at hl 0 rfl) ?_
  refine lv_iconst (v := 4) hx hb d_Program_init_5 (by decide) ?_
  refine va_newa (atype := .int) (a0 := (4, .inl (fun _ => 0))) (N' := 4) hx hb (hw _ m_196) rfl hK hP (dd_D hD rfl) hS hA (fun _ => rfl) (by decide) (by decide) (Nat.le_of_ble_eq_true rfl) (Nat.le_of_ble_eq_true rfl) (Nat.le_of_ble_eq_true rfl) d_Program_init_6 ?_
  clear hP hS hK
  intro q_1 k_2 H1 (hK : va_K (dC, dI) classes [(k_2, .int)] s) (hP : va_P (dC, dI) classes [oc h0 0 [.null, .null, .null, .null, .null, .null, .null, .null, .null, .null, .null, .int p0, .int p1], ia q_1 k_2 4 (fun _ => 0)] H1) hD1 hS
  replace hD : dd A [h0, q_1] := dd_of hD1 rfl
  clear hD1
  revert H1
  intro H hP hS
  refine W.widen (k := 1) (n := 4) (by exact Nat.le_of_ble_eq_true rfl) (by exact Nat.le_of_ble_eq_true rfl) ?_
  refine tp_pc (pc' := 8) (by rfl) ?_
  refine va_putF (D := (dC, dI)) (ci := 0) (v := .ref q_1) (ty := .array .int) (C := R_Program) (T := F_Program) (N := 13) hx hb hw i_Program t_Program t_Program_ok n_Program hown hK hP (dd_D hD rfl) hS 0 rfl rfl 0 (by decide) (hw _ m_128) (fun _ h9 => h9) rfl hin rfl (by decide +kernel) rfl rfl (Nat.le_of_ble_eq_true rfl) d_Program_init_8 ?_
  clear hP hS H
  intro H locs (hP : va_P (dC, dI) classes [oc h0 0 [.ref q_1, .null, .null, .null, .null, .null, .null, .null, .null, .null, .null, .int p0, .int p1], ia q_1 k_2 4 (fun _ => 0)] H) _ hS
  refine tp_pc (pc' := 11) (by rfl) ?_
  refine lv_aload_n hx hb d_Program_init_11 rfl (lv_at hl 0 rfl) ?_
  refine lv_bipush (v := 28) hx hb d_Program_init_12 (by decide) ?_
  refine va_newa (atype := .int) (a0 := (28, .inl (fun _ => 0))) (N' := 28) hx hb (hw _ m_196) rfl hK hP (dd_D hD rfl) hS hA (fun _ => rfl) (by decide) (by decide) (Nat.le_of_ble_eq_true rfl) (Nat.le_of_ble_eq_true rfl) (Nat.le_of_ble_eq_true rfl) d_Program_init_14 ?_
  clear hP hS hK
  intro q_3 k_4 H1 (hK : va_K (dC, dI) classes [(k_2, .int), (k_4, .int)] s) (hP : va_P (dC, dI) classes [oc h0 0 [.ref q_1, .null, .null, .null, .null, .null, .null, .null, .null, .null, .null, .int p0, .int p1], ia q_1 k_2 4 (fun _ => 0), ia q_3 k_4 28 (fun _ => 0)] H1) hD1 hS
  replace hD : dd A [h0, q_1, q_3] := dd_of hD1 rfl
  clear hD1
  clear H
  revert H1
  intro H hP hS
  refine W.widen (k := 2) (n := 32) (by exact Nat.le_of_ble_eq_true rfl) (by exact Nat.le_of_ble_eq_true rfl) ?_
  refine tp_pc (pc' := 16) (by rfl) ?_
  refine va_putF (D := (dC, dI)) (ci := 0) (v := .ref q_3) (ty := .array .int) (C := R_Program) (T := F_Program) (N := 13) hx hb hw i_Program t_Program t_Program_ok n_Program hown hK hP (dd_D hD rfl) hS 0 rfl rfl 1 (by decide) (hw _ m_129) (fun _ h9 => h9) rfl hin rfl (by decide +kernel) rfl rfl (Nat.le_of_ble_eq_true rfl) d_Program_init_16 ?_
  clear hP hS locs H
  intro H locs (hP : va_P (dC, dI) classes [oc h0 0 [.ref q_1, .ref q_3, .null, .null, .null, .null, .null, .null, .null, .null, .null, .int p0, .int p1], ia q_1 k_2 4 (fun _ => 0), ia q_3 k_4 28 (fun _ => 0)] H) _ hS
  refine tp_pc (pc' := 19) (by rfl) ?_
  refine lv_aload_n hx hb d_Program_init_19 rfl (lv_at hl 0 rfl) ?_
  refine lv_bipush (v := 7) hx hb d_Program_init_20 (by decide) ?_
  refine va_newa (atype := .int) (a0 := (7, .inl (fun _ => 0))) (N' := 7) hx hb (hw _ m_196) rfl hK hP (dd_D hD rfl) hS hA (fun _ => rfl) (by decide) (by decide) (Nat.le_of_ble_eq_true rfl) (Nat.le_of_ble_eq_true rfl) (Nat.le_of_ble_eq_true rfl) d_Program_init_22 ?_
  clear hP hS hK
  intro q_5 k_6 H1 (hK : va_K (dC, dI) classes [(k_2, .int), (k_4, .int), (k_6, .int)] s) (hP : va_P (dC, dI) classes [oc h0 0 [.ref q_1, .ref q_3, .null, .null, .null, .null, .null, .null, .null, .null, .null, .int p0, .int p1], ia q_1 k_2 4 (fun _ => 0), ia q_3 k_4 28 (fun _ => 0), ia q_5 k_6 7 (fun _ => 0)] H1) hD1 hS
  replace hD : dd A [h0, q_1, q_3, q_5] := dd_of hD1 rfl
  clear hD1
  clear H
  revert H1
  intro H hP hS
  refine W.widen (k := 3) (n := 39) (by exact Nat.le_of_ble_eq_true rfl) (by exact Nat.le_of_ble_eq_true rfl) ?_
  refine tp_pc (pc' := 24) (by rfl) ?_
  refine va_putF (D := (dC, dI)) (ci := 0) (v := .ref q_5) (ty := .array .int) (C := R_Program) (T := F_Program) (N := 13) hx hb hw i_Program t_Program t_Program_ok n_Program hown hK hP (dd_D hD rfl) hS 0 rfl rfl 2 (by decide) (hw _ m_130) (fun _ h9 => h9) rfl hin rfl (by decide +kernel) rfl rfl (Nat.le_of_ble_eq_true rfl) d_Program_init_24 ?_
  clear hP hS locs H
  intro H locs (hP : va_P (dC, dI) classes [oc h0 0 [.ref q_1, .ref q_3, .ref q_5, .null, .null, .null, .null, .null, .null, .null, .null, .int p0, .int p1], ia q_1 k_2 4 (fun _ => 0), ia q_3 k_4 28 (fun _ => 0), ia q_5 k_6 7 (fun _ => 0)] H) _ hS
  refine tp_pc (pc' := 27) (by rfl) ?_
  refine lv_aload_n hx hb d_Program_init_27 rfl (lv_at hl 0 rfl) ?_
  refine lv_bipush (v := 7) hx hb d_Program_init_28 (by decide) ?_
  refine va_newa (atype := .int) (a0 := (7, .inl (fun _ => 0))) (N' := 7) hx hb (hw _ m_196) rfl hK hP (dd_D hD rfl) hS hA (fun _ => rfl) (by decide) (by decide) (Nat.le_of_ble_eq_true rfl) (Nat.le_of_ble_eq_true rfl) (Nat.le_of_ble_eq_true rfl) d_Program_init_30 ?_
  clear hP hS hK
  intro q_7 k_8 H1 (hK : va_K (dC, dI) classes [(k_2, .int), (k_4, .int), (k_6, .int), (k_8, .int)] s) (hP : va_P (dC, dI) classes [oc h0 0 [.ref q_1, .ref q_3, .ref q_5, .null, .null, .null, .null, .null, .null, .null, .null, .int p0, .int p1], ia q_1 k_2 4 (fun _ => 0), ia q_3 k_4 28 (fun _ => 0), ia q_5 k_6 7 (fun _ => 0), ia q_7 k_8 7 (fun _ => 0)] H1) hD1 hS
  replace hD : dd A [h0, q_1, q_3, q_5, q_7] := dd_of hD1 rfl
  clear hD1
  clear H
  revert H1
  intro H hP hS
  refine W.widen (k := 4) (n := 46) (by exact Nat.le_of_ble_eq_true rfl) (by exact Nat.le_of_ble_eq_true rfl) ?_
  refine tp_pc (pc' := 32) (by rfl) ?_
  refine va_putF (D := (dC, dI)) (ci := 0) (v := .ref q_7) (ty := .array .int) (C := R_Program) (T := F_Program) (N := 13) hx hb hw i_Program t_Program t_Program_ok n_Program hown hK hP (dd_D hD rfl) hS 0 rfl rfl 3 (by decide) (hw _ m_135) (fun _ h9 => h9) rfl hin rfl (by decide +kernel) rfl rfl (Nat.le_of_ble_eq_true rfl) d_Program_init_32 ?_
  clear hP hS locs H
  intro H locs (hP : va_P (dC, dI) classes [oc h0 0 [.ref q_1, .ref q_3, .ref q_5, .ref q_7, .null, .null, .null, .null, .null, .null, .null, .int p0, .int p1], ia q_1 k_2 4 (fun _ => 0), ia q_3 k_4 28 (fun _ => 0), ia q_5 k_6 7 (fun _ => 0), ia q_7 k_8 7 (fun _ => 0)] H) _ hS
  refine tp_pc (pc' := 35) (by rfl) ?_
  refine lv_aload_n hx hb d_Program_init_35 rfl (lv_at hl 0 rfl) ?_
  refine lv_bipush (v := 7) hx hb d_Program_init_36 (by decide) ?_
  refine va_newa (atype := .int) (a0 := (7, .inl (fun _ => 0))) (N' := 7) hx hb (hw _ m_196) rfl hK hP (dd_D hD rfl) hS hA (fun _ => rfl) (by decide) (by decide) (Nat.le_of_ble_eq_true rfl) (Nat.le_of_ble_eq_true rfl) (Nat.le_of_ble_eq_true rfl) d_Program_init_38 ?_
  clear hP hS hK
  intro q_9 k_10 H1 (hK : va_K (dC, dI) classes [(k_2, .int), (k_4, .int), (k_6, .int), (k_8, .int), (k_10, .int)] s) (hP : va_P (dC, dI) classes [oc h0 0 [.ref q_1, .ref q_3, .ref q_5, .ref q_7, .null, .null, .null, .null, .null, .null, .null, .int p0, .int p1], ia q_1 k_2 4 (fun _ => 0), ia q_3 k_4 28 (fun _ => 0), ia q_5 k_6 7 (fun _ => 0), ia q_7 k_8 7 (fun _ => 0), ia q_9 k_10 7 (fun _ => 0)] H1) hD1 hS
  replace hD : dd A [h0, q_1, q_3, q_5, q_7, q_9] := dd_of hD1 rfl
  clear hD1
  clear H
  revert H1
  intro H hP hS
  refine W.widen (k := 5) (n := 53) (by exact Nat.le_of_ble_eq_true rfl) (by exact Nat.le_of_ble_eq_true rfl) ?_
  refine tp_pc (pc' := 40) (by rfl) ?_
  refine va_putF (D := (dC, dI)) (ci := 0) (v := .ref q_9) (ty := .array .int) (C := R_Program) (T := F_Program) (N := 13) hx hb hw i_Program t_Program t_Program_ok n_Program hown hK hP (dd_D hD rfl) hS 0 rfl rfl 4 (by decide) (hw _ m_138) (fun _ h9 => h9) rfl hin rfl (by decide +kernel) rfl rfl (Nat.le_of_ble_eq_true rfl) d_Program_init_40 ?_
  clear hP hS locs H
  intro H locs (hP : va_P (dC, dI) classes [oc h0 0 [.ref q_1, .ref q_3, .ref q_5, .ref q_7, .ref q_9, .null, .null, .null, .null, .null, .null, .int p0, .int p1], ia q_1 k_2 4 (fun _ => 0), ia q_3 k_4 28 (fun _ => 0), ia q_5 k_6 7 (fun _ => 0), ia q_7 k_8 7 (fun _ => 0), ia q_9 k_10 7 (fun _ => 0)] H) _ hS
  refine tp_pc (pc' := 43) (by rfl) ?_
  refine lv_aload_n hx hb d_Program_init_43 rfl (lv_at hl 0 rfl) ?_
  refine lv_bipush (v := 7) hx hb d_Program_init_44 (by decide) ?_
  refine va_newa (atype := .int) (a0 := (7, .inl (fun _ => 0))) (N' := 7) hx hb (hw _ m_196) rfl hK hP (dd_D hD rfl) hS hA (fun _ => rfl) (by decide) (by decide) (Nat.le_of_ble_eq_true rfl) (Nat.le_of_ble_eq_true rfl) (Nat.le_of_ble_eq_true rfl) d_Program_init_46 ?_
  clear hP hS hK
  intro q_11 k_12 H1 (hK : va_K (dC, dI) classes [(k_2, .int), (k_4, .int), (k_6, .int), (k_8, .int), (k_10, .int), (k_12, .int)] s) (hP : va_P (dC, dI) classes [oc h0 0 [.ref q_1, .ref q_3, .ref q_5, .ref q_7, .ref q_9, .null, .null, .null, .null, .null, .null, .int p0, .int p1], ia q_1 k_2 4 (fun _ => 0), ia q_3 k_4 28 (fun _ => 0), ia q_5 k_6 7 (fun _ => 0), ia q_7 k_8 7 (fun _ => 0), ia q_9 k_10 7 (fun _ => 0), ia q_11 k_12 7 (fun _ => 0)] H1) hD1 hS
  replace hD : dd A [h0, q_1, q_3, q_5, q_7, q_9, q_11] := dd_of hD1 rfl
  clear hD1
  clear H
  revert H1
  intro H hP hS
  refine W.widen (k := 6) (n := 60) (by exact Nat.le_of_ble_eq_true rfl) (by exact Nat.le_of_ble_eq_true rfl) ?_
  refine tp_pc (pc' := 48) (by rfl) ?_
  refine va_putF (D := (dC, dI)) (ci := 0) (v := .ref q_11) (ty := .array .int) (C := R_Program) (T := F_Program) (N := 13) hx hb hw i_Program t_Program t_Program_ok n_Program hown hK hP (dd_D hD rfl) hS 0 rfl rfl 5 (by decide) (hw _ m_143) (fun _ h9 => h9) rfl hin rfl (by decide +kernel) rfl rfl (Nat.le_of_ble_eq_true rfl) d_Program_init_48 ?_
  clear hP hS locs H
  intro H locs (hP : va_P (dC, dI) classes [oc h0 0 [.ref q_1, .ref q_3, .ref q_5, .ref q_7, .ref q_9, .ref q_11, .null, .null, .null, .null, .null, .int p0, .int p1], ia q_1 k_2 4 (fun _ => 0), ia q_3 k_4 28 (fun _ => 0), ia q_5 k_6 7 (fun _ => 0), ia q_7 k_8 7 (fun _ => 0), ia q_9 k_10 7 (fun _ => 0), ia q_11 k_12 7 (fun _ => 0)] H) _ hS
  refine tp_pc (pc' := 51) (by rfl) ?_
  refine lv_aload_n hx hb d_Program_init_51 rfl (lv_at hl 0 rfl) ?_
  refine lv_bipush (v := 7) hx hb d_Program_init_52 (by decide) ?_
  refine va_newa (atype := .int) (a0 := (7, .inl (fun _ => 0))) (N' := 7) hx hb (hw _ m_196) rfl hK hP (dd_D hD rfl) hS hA (fun _ => rfl) (by decide) (by decide) (Nat.le_of_ble_eq_true rfl) (Nat.le_of_ble_eq_true rfl) (Nat.le_of_ble_eq_true rfl) d_Program_init_54 ?_
  clear hP hS hK
  intro q_13 k_14 H1 (hK : va_K (dC, dI) classes [(k_2, .int), (k_4, .int), (k_6, .int), (k_8, .int), (k_10, .int), (k_12, .int), (k_14, .int)] s) (hP : va_P (dC, dI) classes [oc h0 0 [.ref q_1, .ref q_3, .ref q_5, .ref q_7, .ref q_9, .ref q_11, .null, .null, .null, .null, .null, .int p0, .int p1], ia q_1 k_2 4 (fun _ => 0), ia q_3 k_4 28 (fun _ => 0), ia q_5 k_6 7 (fun _ => 0), ia q_7 k_8 7 (fun _ => 0), ia q_9 k_10 7 (fun _ => 0), ia q_11 k_12 7 (fun _ => 0), ia q_13 k_14 7 (fun _ => 0)] H1) hD1 hS
  replace hD : dd A [h0, q_1, q_3, q_5, q_7, q_9, q_11, q_13] := dd_of hD1 rfl
  clear hD1
  clear H
  revert H1
  intro H hP hS
  refine W.widen (k := 7) (n := 67) (by exact Nat.le_of_ble_eq_true rfl) (by exact Nat.le_of_ble_eq_true rfl) ?_
  refine tp_pc (pc' := 56) (by rfl) ?_
  refine va_putF (D := (dC, dI)) (ci := 0) (v := .ref q_13) (ty := .array .int) (C := R_Program) (T := F_Program) (N := 13) hx hb hw i_Program t_Program t_Program_ok n_Program hown hK hP (dd_D hD rfl) hS 0 rfl rfl 6 (by decide) (hw _ m_148) (fun _ h9 => h9) rfl hin rfl (by decide +kernel) rfl rfl (Nat.le_of_ble_eq_true rfl) d_Program_init_56 ?_
  clear hP hS locs H
  intro H locs (hP : va_P (dC, dI) classes [oc h0 0 [.ref q_1, .ref q_3, .ref q_5, .ref q_7, .ref q_9, .ref q_11, .ref q_13, .null, .null, .null, .null, .int p0, .int p1], ia q_1 k_2 4 (fun _ => 0), ia q_3 k_4 28 (fun _ => 0), ia q_5 k_6 7 (fun _ => 0), ia q_7 k_8 7 (fun _ => 0), ia q_9 k_10 7 (fun _ => 0), ia q_11 k_12 7 (fun _ => 0), ia q_13 k_14 7 (fun _ => 0)] H) _ hS
  refine tp_pc (pc' := 59) (by rfl) ?_
  refine lv_aload_n hx hb d_Program_init_59 rfl (lv_at hl 0 rfl) ?_
  refine lv_bipush (v := 7) hx hb d_Program_init_60 (by decide) ?_
  refine va_newa (atype := .int) (a0 := (7, .inl (fun _ => 0))) (N' := 7) hx hb (hw _ m_196) rfl hK hP (dd_D hD rfl) hS hA (fun _ => rfl) (by decide) (by decide) (Nat.le_of_ble_eq_true rfl) (Nat.le_of_ble_eq_true rfl) (Nat.le_of_ble_eq_true rfl) d_Program_init_62 ?_
  clear hP hS hK
  intro q_15 k_16 H1 (hK : va_K (dC, dI) classes [(k_2, .int), (k_4, .int), (k_6, .int), (k_8, .int), (k_10, .int), (k_12, .int), (k_14, .int), (k_16, .int)] s) (hP : va_P (dC, dI) classes [oc h0 0 [.ref q_1, .ref q_3, .ref q_5, .ref q_7, .ref q_9, .ref q_11, .ref q_13, .null, .null, .null, .null, .int p0, .int p1], ia q_1 k_2 4 (fun _ => 0), ia q_3 k_4 28 (fun _ => 0), ia q_5 k_6 7 (fun _ => 0), ia q_7 k_8 7 (fun _ => 0), ia q_9 k_10 7 (fun _ => 0), ia q_11 k_12 7 (fun _ => 0), ia q_13 k_14 7 (fun _ => 0), ia q_15 k_16 7 (fun _ => 0)] H1) hD1 hS
  replace hD : dd A [h0, q_1, q_3, q_5, q_7, q_9, q_11, q_13, q_15] := dd_of hD1 rfl
  clear hD1
  clear H
  revert H1
  intro H hP hS
  refine W.widen (k := 8) (n := 74) (by exact Nat.le_of_ble_eq_true rfl) (by exact Nat.le_of_ble_eq_true rfl) ?_
  refine tp_pc (pc' := 64) (by rfl) ?_
  refine va_putF (D := (dC, dI)) (ci := 0) (v := .ref q_15) (ty := .array .int) (C := R_Program) (T := F_Program) (N := 13) hx hb hw i_Program t_Program t_Program_ok n_Program hown hK hP (dd_D hD rfl) hS 0 rfl rfl 7 (by decide) (hw _ m_150) (fun _ h9 => h9) rfl hin rfl (by decide +kernel) rfl rfl (Nat.le_of_ble_eq_true rfl) d_Program_init_64 ?_
  clear hP hS locs H
  intro H locs (hP : va_P (dC, dI) classes [oc h0 0 [.ref q_1, .ref q_3, .ref q_5, .ref q_7, .ref q_9, .ref q_11, .ref q_13, .ref q_15, .null, .null, .null, .int p0, .int p1], ia q_1 k_2 4 (fun _ => 0), ia q_3 k_4 28 (fun _ => 0), ia q_5 k_6 7 (fun _ => 0), ia q_7 k_8 7 (fun _ => 0), ia q_9 k_10 7 (fun _ => 0), ia q_11 k_12 7 (fun _ => 0), ia q_13 k_14 7 (fun _ => 0), ia q_15 k_16 7 (fun _ => 0)] H) _ hS
  refine tp_pc (pc' := 67) (by rfl) ?_
  refine lv_aload_n hx hb d_Program_init_67 rfl (lv_at hl 0 rfl) ?_
  refine lv_iconst (v := 4) hx hb d_Program_init_68 (by decide) ?_
  refine va_newa (atype := .int) (a0 := (4, .inl (fun _ => 0))) (N' := 4) hx hb (hw _ m_196) rfl hK hP (dd_D hD rfl) hS hA (fun _ => rfl) (by decide) (by decide) (Nat.le_of_ble_eq_true rfl) (Nat.le_of_ble_eq_true rfl) (Nat.le_of_ble_eq_true rfl) d_Program_init_69 ?_
  clear hP hS hK
  intro q_17 k_18 H1 (hK : va_K (dC, dI) classes [(k_2, .int), (k_4, .int), (k_6, .int), (k_8, .int), (k_10, .int), (k_12, .int), (k_14, .int), (k_16, .int), (k_18, .int)] s) (hP : va_P (dC, dI) classes [oc h0 0 [.ref q_1, .ref q_3, .ref q_5, .ref q_7, .ref q_9, .ref q_11, .ref q_13, .ref q_15, .null, .null, .null, .int p0, .int p1], ia q_1 k_2 4 (fun _ => 0), ia q_3 k_4 28 (fun _ => 0), ia q_5 k_6 7 (fun _ => 0), ia q_7 k_8 7 (fun _ => 0), ia q_9 k_10 7 (fun _ => 0), ia q_11 k_12 7 (fun _ => 0), ia q_13 k_14 7 (fun _ => 0), ia q_15 k_16 7 (fun _ => 0), ia q_17 k_18 4 (fun _ => 0)] H1) hD1 hS
  replace hD : dd A [h0, q_1, q_3, q_5, q_7, q_9, q_11, q_13, q_15, q_17] := dd_of hD1 rfl
  clear hD1
  clear H
  revert H1
  intro H hP hS
  refine W.widen (k := 9) (n := 78) (by exact Nat.le_of_ble_eq_true rfl) (by exact Nat.le_of_ble_eq_true rfl) ?_
  refine tp_pc (pc' := 71) (by rfl) ?_
  refine va_putF (D := (dC, dI)) (ci := 0) (v := .ref q_17) (ty := .array .int) (C := R_Program) (T := F_Program) (N := 13) hx hb hw i_Program t_Program t_Program_ok n_Program hown hK hP (dd_D hD rfl) hS 0 rfl rfl 8 (by decide) (hw _ m_152) (fun _ h9 => h9) rfl hin rfl (by decide +kernel) rfl rfl (Nat.le_of_ble_eq_true rfl) d_Program_init_71 ?_
  clear hP hS locs H
  intro H locs (hP : va_P (dC, dI) classes [oc h0 0 [.ref q_1, .ref q_3, .ref q_5, .ref q_7, .ref q_9, .ref q_11, .ref q_13, .ref q_15, .ref q_17, .null, .null, .int p0, .int p1], ia q_1 k_2 4 (fun _ => 0), ia q_3 k_4 28 (fun _ => 0), ia q_5 k_6 7 (fun _ => 0), ia q_7 k_8 7 (fun _ => 0), ia q_9 k_10 7 (fun _ => 0), ia q_11 k_12 7 (fun _ => 0), ia q_13 k_14 7 (fun _ => 0), ia q_15 k_16 7 (fun _ => 0), ia q_17 k_18 4 (fun _ => 0)] H) _ hS
  refine tp_pc (pc' := 74) (by rfl) ?_
  refine lv_aload_n hx hb d_Program_init_74 rfl (lv_at hl 0 rfl) ?_
  refine lv_bipush (v := 6) hx hb d_Program_init_75 (by decide) ?_
  refine va_newa (atype := .int) (a0 := (6, .inl (fun _ => 0))) (N' := 6) hx hb (hw _ m_196) rfl hK hP (dd_D hD rfl) hS hA (fun _ => rfl) (by decide) (by decide) (Nat.le_of_ble_eq_true rfl) (Nat.le_of_ble_eq_true rfl) (Nat.le_of_ble_eq_true rfl) d_Program_init_77 ?_
  clear hP hS hK
  intro q_19 k_20 H1 (hK : va_K (dC, dI) classes [(k_2, .int), (k_4, .int), (k_6, .int), (k_8, .int), (k_10, .int), (k_12, .int), (k_14, .int), (k_16, .int), (k_18, .int), (k_20, .int)] s) (hP : va_P (dC, dI) classes [oc h0 0 [.ref q_1, .ref q_3, .ref q_5, .ref q_7, .ref q_9, .ref q_11, .ref q_13, .ref q_15, .ref q_17, .null, .null, .int p0, .int p1], ia q_1 k_2 4 (fun _ => 0), ia q_3 k_4 28 (fun _ => 0), ia q_5 k_6 7 (fun _ => 0), ia q_7 k_8 7 (fun _ => 0), ia q_9 k_10 7 (fun _ => 0), ia q_11 k_12 7 (fun _ => 0), ia q_13 k_14 7 (fun _ => 0), ia q_15 k_16 7 (fun _ => 0), ia q_17 k_18 4 (fun _ => 0), ia q_19 k_20 6 (fun _ => 0)] H1) hD1 hS
  replace hD : dd A [h0, q_1, q_3, q_5, q_7, q_9, q_11, q_13, q_15, q_17, q_19] := dd_of hD1 rfl
  clear hD1
  clear H
  revert H1
  intro H hP hS
  refine W.widen (k := 10) (n := 84) (by exact Nat.le_of_ble_eq_true rfl) (by exact Nat.le_of_ble_eq_true rfl) ?_
  refine tp_pc (pc' := 79) (by rfl) ?_
  refine va_putF (D := (dC, dI)) (ci := 0) (v := .ref q_19) (ty := .array .int) (C := R_Program) (T := F_Program) (N := 13) hx hb hw i_Program t_Program t_Program_ok n_Program hown hK hP (dd_D hD rfl) hS 0 rfl rfl 9 (by decide) (hw _ m_155) (fun _ h9 => h9) rfl hin rfl (by decide +kernel) rfl rfl (Nat.le_of_ble_eq_true rfl) d_Program_init_79 ?_
  clear hP hS locs H
  intro H locs (hP : va_P (dC, dI) classes [oc h0 0 [.ref q_1, .ref q_3, .ref q_5, .ref q_7, .ref q_9, .ref q_11, .ref q_13, .ref q_15, .ref q_17, .ref q_19, .null, .int p0, .int p1], ia q_1 k_2 4 (fun _ => 0), ia q_3 k_4 28 (fun _ => 0), ia q_5 k_6 7 (fun _ => 0), ia q_7 k_8 7 (fun _ => 0), ia q_9 k_10 7 (fun _ => 0), ia q_11 k_12 7 (fun _ => 0), ia q_13 k_14 7 (fun _ => 0), ia q_15 k_16 7 (fun _ => 0), ia q_17 k_18 4 (fun _ => 0), ia q_19 k_20 6 (fun _ => 0)] H) _ hS
  refine tp_pc (pc' := 82) (by rfl) ?_
  refine lv_aload_n hx hb d_Program_init_82 rfl (lv_at hl 0 rfl) ?_
  refine lv_iconst (v := 3) hx hb d_Program_init_83 (by decide) ?_
  refine va_newa (atype := .int) (a0 := (3, .inl (fun _ => 0))) (N' := 3) hx hb (hw _ m_196) rfl hK hP (dd_D hD rfl) hS hA (fun _ => rfl) (by decide) (by decide) (Nat.le_of_ble_eq_true rfl) (Nat.le_of_ble_eq_true rfl) (Nat.le_of_ble_eq_true rfl) d_Program_init_84 ?_
  clear hP hS hK
  intro q_21 k_22 H1 (hK : va_K (dC, dI) classes [(k_2, .int), (k_4, .int), (k_6, .int), (k_8, .int), (k_10, .int), (k_12, .int), (k_14, .int), (k_16, .int), (k_18, .int), (k_20, .int), (k_22, .int)] s) (hP : va_P (dC, dI) classes [oc h0 0 [.ref q_1, .ref q_3, .ref q_5, .ref q_7, .ref q_9, .ref q_11, .ref q_13, .ref q_15, .ref q_17, .ref q_19, .null, .int p0, .int p1], ia q_1 k_2 4 (fun _ => 0), ia q_3 k_4 28 (fun _ => 0), ia q_5 k_6 7 (fun _ => 0), ia q_7 k_8 7 (fun _ => 0), ia q_9 k_10 7 (fun _ => 0), ia q_11 k_12 7 (fun _ => 0), ia q_13 k_14 7 (fun _ => 0), ia q_15 k_16 7 (fun _ => 0), ia q_17 k_18 4 (fun _ => 0), ia q_19 k_20 6 (fun _ => 0), ia q_21 k_22 3 (fun _ => 0)] H1) hD1 hS
  replace hD : dd A [h0, q_1, q_3, q_5, q_7, q_9, q_11, q_13, q_15, q_17, q_19, q_21] := dd_of hD1 rfl
  clear hD1
  clear H
  revert H1
  intro H hP hS
  refine W.widen (k := 11) (n := 87) (by exact Nat.le_of_ble_eq_true rfl) (by exact Nat.le_of_ble_eq_true rfl) ?_
  refine tp_pc (pc' := 86) (by rfl) ?_
  refine va_putF (D := (dC, dI)) (ci := 0) (v := .ref q_21) (ty := .array .int) (C := R_Program) (T := F_Program) (N := 13) hx hb hw i_Program t_Program t_Program_ok n_Program hown hK hP (dd_D hD rfl) hS 0 rfl rfl 10 (by decide) (hw _ m_157) (fun _ h9 => h9) rfl hin rfl (by decide +kernel) rfl rfl (Nat.le_of_ble_eq_true rfl) d_Program_init_86 ?_
  clear hP hS locs H
  intro H locs (hP : va_P (dC, dI) classes [oc h0 0 [.ref q_1, .ref q_3, .ref q_5, .ref q_7, .ref q_9, .ref q_11, .ref q_13, .ref q_15, .ref q_17, .ref q_19, .ref q_21, .int p0, .int p1], ia q_1 k_2 4 (fun _ => 0), ia q_3 k_4 28 (fun _ => 0), ia q_5 k_6 7 (fun _ => 0), ia q_7 k_8 7 (fun _ => 0), ia q_9 k_10 7 (fun _ => 0), ia q_11 k_12 7 (fun _ => 0), ia q_13 k_14 7 (fun _ => 0), ia q_15 k_16 7 (fun _ => 0), ia q_17 k_18 4 (fun _ => 0), ia q_19 k_20 6 (fun _ => 0), ia q_21 k_22 3 (fun _ => 0)] H) _ hS
  refine tp_pc (pc' := 89) (by rfl) ?_
  obtain ⟨hP9, hD9, -⟩ := cut3 (wc := [oc h0 0 [.ref q_1, .ref q_3, .ref q_5, .ref q_7, .ref q_9, .ref q_11, .ref q_13, .ref q_15, .ref q_17, .ref q_19, .ref q_21, .int p0, .int p1], ia q_1 k_2 4 (fun _ => 0), ia q_3 k_4 28 (fun _ => 0), ia q_5 k_6 7 (fun _ => 0), ia q_7 k_8 7 (fun _ => 0), ia q_9 k_10 7 (fun _ => 0), ia q_11 k_12 7 (fun _ => 0), ia q_13 k_14 7 (fun _ => 0), ia q_15 k_16 7 (fun _ => 0), ia q_17 k_18 4 (fun _ => 0), ia q_19 k_20 6 (fun _ => 0), ia q_21 k_22 3 (fun _ => 0)]) hP hD rfl hS hA [0, 1, 2, 3, 4, 5, 6, 7, 8, 9, 10, 11] (by decide +kernel) rfl
  have hK9 := hK.sub (tys' := [(k_2, .int), (k_4, .int), (k_6, .int), (k_8, .int), (k_10, .int), (k_12, .int), (k_14, .int), (k_16, .int), (k_18, .int), (k_20, .int), (k_22, .int)]) [0, 1, 2, 3, 4, 5, 6, 7, 8, 9, 10] rfl
  refine W.widen (k := 11) (n := 87) (by exact Nat.le_of_ble_eq_true rfl) (by exact Nat.le_of_ble_eq_true rfl) ?_
  exact W.vret hx hb hr (fun t ht hW => ⟨⟨(), rfl, trivial, q_1, q_3, q_5, q_7, q_9, q_11, q_13, q_15, q_17, q_19, q_21, k_2, k_4, k_6, k_8, k_10, k_12, k_14, k_16, k_18, k_20, k_22, by rw [ht]; exact hP9, va_K.moved hW.alike hK9, hD9⟩, hS.F ht⟩) hS.2.2 d_Program_init_89
set_option maxHeartbeats 4000000 in
set_option maxRecDepth 100000 in
theorem c_Progress_init (l : Launch) (dC : Nat → ClassId) (dI : Nat → Nat → Nat) (h0 : Nat) (h1 : Nat) (p0 : Int32) (p1 : Int64) (sz : Nat) : Met l y_Progress_init w_Progress_init ({ frames := 1, cells := 3, slots := 20, locals := 12 }) (va_Pc [.ref h0, .ref h1] (fun U => U.heap.size = sz ∧ va_P (dC, dI) classes [oc h0 1 [.null, .null, .null, .null, .int p0, .long p1]] U.heap ∧ va_K (dC, dI) classes [] U ∧ va_D (fun _ => True) [oc h0 1 [.null, .null, .null, .null, .int p0, .long p1]] ∧ nw U)) (va_Qv (fun _ : Unit => True) (fun _ t => ∃ (q_1 q_3 q_5 : Nat) (k_2 k_4 k_6 : ClassId), va_P (dC, dI) classes [oc h0 1 [.ref h1, .ref q_1, .ref q_3, .ref q_5, .int p0, .long p1], ia q_1 k_2 4 (fun _ => 0), ia q_3 k_4 8 (fun _ => 0), ia q_5 k_6 8 (fun _ => 0)] t.heap ∧ va_K (dC, dI) classes [(k_2, .int), (k_4, .int), (k_6, .int)] t ∧ va_D (va_A [oc h0 1 [.null, .null, .null, .null, .int p0, .long p1]] sz) [oc h0 1 [.ref h1, .ref q_1, .ref q_3, .ref q_5, .int p0, .long p1], ia q_1 k_2 4 (fun _ => 0), ia q_3 k_4 8 (fun _ => 0), ia q_5 k_6 8 (fun _ => 0)]) (va_A [oc h0 1 [.null, .null, .null, .null, .int p0, .long p1]] sz)) 3 20 (va_A [oc h0 1 [.null, .null, .null, .null, .int p0, .long p1]] sz) := by
  refine Met.ofW (cc := b_Progress_init) (maxL := 2) (ret := none) (by decide) rfl ?_
  intro p e s m args below meth c s₁ B hml hv
  obtain ⟨rfl, hsz, hP, hK, hD0, hn⟩ := hv
  have hx := B.exec
  have hb := B.bytes
  have hr := B.returns
  have hw := fun w (h : w ∈ wt) => atoms_spec (ws := w_Progress_init) B.pre w (List.mem_cons_of_mem _ h)
  have hown : s.vm.findClass R_Progress = some m.cls := findClass_of_methodNamed B.named
  have hlocks := B.notSynchronized
  have hin : meth.name = "<init>" := (name_of_methodNamed B.named B.method).1
  subst hsz
  have hD1 := hD0.self (sz := s.heap.size)
  generalize hAe : va_A [oc h0 1 [.null, .null, .null, .null, .int p0, .long p1]] s.heap.size = A at hD1 ⊢
  have hA : ∀ q : Nat, s.heap.size ≤ q → A q := fun q h => by rw [← hAe]; exact Or.inr h
  have hD : dd A [h0] := dd_of hD1 rfl
  clear hAe hD0 hD1
  have hS : va_S A s.heap s.heap [] := va_S.rf
  replace hP : va_P (dC, dI) classes [oc h0 1 [.null, .null, .null, .null, .int p0, .long p1]] s.heap := hP
  have hl := lv_entry ([.ref h0, .ref h1]) (n := 2) (Nat.le_of_ble_eq_true rfl)
  rw [lg_entry_eq]
  generalize (lg_sl ([.ref h0, .ref h1]) ++ List.replicate (2 - (lg_sl ([.ref h0, .ref h1])).length) Slot.unset).toArray = ls at hl ⊢
  replace hl : lv_has ls 2 [(0, .ref h0), (1, .ref h1)] := hl
  refine lv_aload_n hx hb d_Progress_init_0 rfl (lv_at hl 0 rfl) ?_
  refine W.objInit hx hb hown (hw _ m_202) (hw _ m_120) (hw _ m_121) rfl (by rw [hml]; exact hl.1) rfl d_Progress_init_1 (Nat.le_of_ble_eq_true rfl) (Nat.le_of_ble_eq_true rfl) ?_
  refine W.eq (g2 := F0 m 4 ls []) rfl ?_
  refine lv_aload_n hx hb d_Progress_init_4 rfl (lv_at hl 0 rfl) ?_
  refine lv_iconst (v := 4) hx hb d_Progress_init_5 (by decide) ?_
  refine va_newa (atype := .int) (a0 := (4, .inl (fun _ => 0))) (N' := 4) hx hb (hw _ m_196) rfl hK hP (dd_D hD rfl) hS hA (fun _ => rfl) (by decide) (by decide) (Nat.le_of_ble_eq_true rfl) (Nat.le_of_ble_eq_true rfl) (Nat.le_of_ble_eq_true rfl) d_Progress_init_6 ?_
  clear hP hS hK
  intro q_1 k_2 H1 (hK : va_K (dC, dI) classes [(k_2, .int)] s) (hP : va_P (dC, dI) classes [oc h0 1 [.null, .null, .null, .null, .int p0, .long p1], ia q_1 k_2 4 (fun _ => 0)] H1) hD1 hS
  replace hD : dd A [h0, q_1] := dd_of hD1 rfl
  clear hD1
  revert H1
  intro H hP hS
  refine W.widen (k := 1) (n := 4) (by exact Nat.le_of_ble_eq_true rfl) (by exact Nat.le_of_ble_eq_true rfl) ?_
  refine tp_pc (pc' := 8) (by rfl) ?_
  refine va_putF (D := (dC, dI)) (ci := 1) (v := .ref q_1) (ty := .array .int) (C := R_Progress) (T := F_Progress) (N := 6) hx hb hw i_Progress t_Progress t_Progress_ok n_Progress hown hK hP (dd_D hD rfl) hS 0 rfl rfl 1 (by decide) (hw _ m_204) (fun _ h9 => h9) rfl hin rfl (by decide +kernel) rfl rfl (Nat.le_of_ble_eq_true rfl) d_Progress_init_8 ?_
  clear hP hS H
  intro H locs (hP : va_P (dC, dI) classes [oc h0 1 [.null, .ref q_1, .null, .null, .int p0, .long p1], ia q_1 k_2 4 (fun _ => 0)] H) _ hS
  refine tp_pc (pc' := 11) (by rfl) ?_
  refine lv_aload_n hx hb d_Progress_init_11 rfl (lv_at hl 0 rfl) ?_
  refine lv_bipush (v := 8) hx hb d_Progress_init_12 (by decide) ?_
  refine va_newa (atype := .int) (a0 := (8, .inl (fun _ => 0))) (N' := 8) hx hb (hw _ m_196) rfl hK hP (dd_D hD rfl) hS hA (fun _ => rfl) (by decide) (by decide) (Nat.le_of_ble_eq_true rfl) (Nat.le_of_ble_eq_true rfl) (Nat.le_of_ble_eq_true rfl) d_Progress_init_14 ?_
  clear hP hS hK
  intro q_3 k_4 H1 (hK : va_K (dC, dI) classes [(k_2, .int), (k_4, .int)] s) (hP : va_P (dC, dI) classes [oc h0 1 [.null, .ref q_1, .null, .null, .int p0, .long p1], ia q_1 k_2 4 (fun _ => 0), ia q_3 k_4 8 (fun _ => 0)] H1) hD1 hS
  replace hD : dd A [h0, q_1, q_3] := dd_of hD1 rfl
  clear hD1
  clear H
  revert H1
  intro H hP hS
  refine W.widen (k := 2) (n := 12) (by exact Nat.le_of_ble_eq_true rfl) (by exact Nat.le_of_ble_eq_true rfl) ?_
  refine tp_pc (pc' := 16) (by rfl) ?_
  refine va_putF (D := (dC, dI)) (ci := 1) (v := .ref q_3) (ty := .array .int) (C := R_Progress) (T := F_Progress) (N := 6) hx hb hw i_Progress t_Progress t_Progress_ok n_Progress hown hK hP (dd_D hD rfl) hS 0 rfl rfl 2 (by decide) (hw _ m_206) (fun _ h9 => h9) rfl hin rfl (by decide +kernel) rfl rfl (Nat.le_of_ble_eq_true rfl) d_Progress_init_16 ?_
  clear hP hS locs H
  intro H locs (hP : va_P (dC, dI) classes [oc h0 1 [.null, .ref q_1, .ref q_3, .null, .int p0, .long p1], ia q_1 k_2 4 (fun _ => 0), ia q_3 k_4 8 (fun _ => 0)] H) _ hS
  refine tp_pc (pc' := 19) (by rfl) ?_
  refine lv_aload_n hx hb d_Progress_init_19 rfl (lv_at hl 0 rfl) ?_
  refine lv_bipush (v := 8) hx hb d_Progress_init_20 (by decide) ?_
  refine va_newa (atype := .int) (a0 := (8, .inl (fun _ => 0))) (N' := 8) hx hb (hw _ m_196) rfl hK hP (dd_D hD rfl) hS hA (fun _ => rfl) (by decide) (by decide) (Nat.le_of_ble_eq_true rfl) (Nat.le_of_ble_eq_true rfl) (Nat.le_of_ble_eq_true rfl) d_Progress_init_22 ?_
  clear hP hS hK
  intro q_5 k_6 H1 (hK : va_K (dC, dI) classes [(k_2, .int), (k_4, .int), (k_6, .int)] s) (hP : va_P (dC, dI) classes [oc h0 1 [.null, .ref q_1, .ref q_3, .null, .int p0, .long p1], ia q_1 k_2 4 (fun _ => 0), ia q_3 k_4 8 (fun _ => 0), ia q_5 k_6 8 (fun _ => 0)] H1) hD1 hS
  replace hD : dd A [h0, q_1, q_3, q_5] := dd_of hD1 rfl
  clear hD1
  clear H
  revert H1
  intro H hP hS
  refine W.widen (k := 3) (n := 20) (by exact Nat.le_of_ble_eq_true rfl) (by exact Nat.le_of_ble_eq_true rfl) ?_
  refine tp_pc (pc' := 24) (by rfl) ?_
  refine va_putF (D := (dC, dI)) (ci := 1) (v := .ref q_5) (ty := .array .int) (C := R_Progress) (T := F_Progress) (N := 6) hx hb hw i_Progress t_Progress t_Progress_ok n_Progress hown hK hP (dd_D hD rfl) hS 0 rfl rfl 3 (by decide) (hw _ m_207) (fun _ h9 => h9) rfl hin rfl (by decide +kernel) rfl rfl (Nat.le_of_ble_eq_true rfl) d_Progress_init_24 ?_
  clear hP hS locs H
  intro H locs (hP : va_P (dC, dI) classes [oc h0 1 [.null, .ref q_1, .ref q_3, .ref q_5, .int p0, .long p1], ia q_1 k_2 4 (fun _ => 0), ia q_3 k_4 8 (fun _ => 0), ia q_5 k_6 8 (fun _ => 0)] H) _ hS
  refine tp_pc (pc' := 27) (by rfl) ?_
  refine lv_aload_n hx hb d_Progress_init_27 rfl (lv_at hl 0 rfl) ?_
  refine lv_aload_n hx hb d_Progress_init_28 rfl (lv_at hl 1 rfl) ?_
  refine va_putF (D := (dC, dI)) (ci := 1) (v := .ref h1) (ty := .object "OrderModels$Program") (C := R_Progress) (T := F_Progress) (N := 6) hx hb hw i_Progress t_Progress t_Progress_ok n_Progress hown hK hP (dd_D hD rfl) hS 0 rfl rfl 0 (by decide) (hw _ m_203) (fun _ h9 => h9) rfl hin rfl (by decide +kernel) rfl rfl (Nat.le_of_ble_eq_true rfl) d_Progress_init_29 ?_
  clear hP hS locs H
  intro H locs (hP : va_P (dC, dI) classes [oc h0 1 [.ref h1, .ref q_1, .ref q_3, .ref q_5, .int p0, .long p1], ia q_1 k_2 4 (fun _ => 0), ia q_3 k_4 8 (fun _ => 0), ia q_5 k_6 8 (fun _ => 0)] H) _ hS
  refine tp_pc (pc' := 32) (by rfl) ?_
  obtain ⟨hP9, hD9, -⟩ := cut3 (wc := [oc h0 1 [.ref h1, .ref q_1, .ref q_3, .ref q_5, .int p0, .long p1], ia q_1 k_2 4 (fun _ => 0), ia q_3 k_4 8 (fun _ => 0), ia q_5 k_6 8 (fun _ => 0)]) hP hD rfl hS hA [0, 1, 2, 3] (by decide +kernel) rfl
  have hK9 := hK.sub (tys' := [(k_2, .int), (k_4, .int), (k_6, .int)]) [0, 1, 2] rfl
  refine W.widen (k := 3) (n := 20) (by exact Nat.le_of_ble_eq_true rfl) (by exact Nat.le_of_ble_eq_true rfl) ?_
  exact W.vret hx hb hr (fun t ht hW => ⟨⟨(), rfl, trivial, q_1, q_3, q_5, k_2, k_4, k_6, by rw [ht]; exact hP9, va_K.moved hW.alike hK9, hD9⟩, hS.F ht⟩) hS.2.2 d_Progress_init_32
set_option maxHeartbeats 4000000 in
set_option maxRecDepth 100000 in
theorem c_StateSet_init (l : Launch) (dC : Nat → ClassId) (dI : Nat → Nat → Nat) (h0 : Nat) (p0 : Int32) (p1 : Int32) (sz : Nat) : Met l y_StateSet_init w_StateSet_init ({ frames := 1, cells := 2, slots := 0, locals := 12 }) (va_Pc [.ref h0] (fun U => U.heap.size = sz ∧ va_P (dC, dI) classes [oc h0 2 [.null, .null, .int p0, .int p1]] U.heap ∧ va_K (dC, dI) classes [] U ∧ va_D (fun _ => True) [oc h0 2 [.null, .null, .int p0, .int p1]] ∧ nw U)) (va_Qv (fun _ : Unit => True) (fun _ t => ∃ (q_1 q_3 : Nat) (k_2 k_4 : ClassId), va_P (dC, dI) classes [oc h0 2 [.ref q_1, .ref q_3, .int p0, .int p1], la q_1 k_2 0 (fun _ => 0), ia q_3 k_4 0 (fun _ => 0)] t.heap ∧ va_K (dC, dI) classes [(k_2, .long), (k_4, .int)] t ∧ va_D (va_A [oc h0 2 [.null, .null, .int p0, .int p1]] sz) [oc h0 2 [.ref q_1, .ref q_3, .int p0, .int p1], la q_1 k_2 0 (fun _ => 0), ia q_3 k_4 0 (fun _ => 0)]) (va_A [oc h0 2 [.null, .null, .int p0, .int p1]] sz)) 2 0 (va_A [oc h0 2 [.null, .null, .int p0, .int p1]] sz) := by
  refine Met.ofW (cc := b_StateSet_init) (maxL := 1) (ret := none) (by decide) rfl ?_
  intro p e s m args below meth c s₁ B hml hv
  obtain ⟨rfl, hsz, hP, hK, hD0, hn⟩ := hv
  have hx := B.exec
  have hb := B.bytes
  have hr := B.returns
  have hw := fun w (h : w ∈ wt) => atoms_spec (ws := w_StateSet_init) B.pre w (List.mem_cons_of_mem _ h)
  have hown : s.vm.findClass R_StateSet = some m.cls := findClass_of_methodNamed B.named
  have hlocks := B.notSynchronized
  have hin : meth.name = "<init>" := (name_of_methodNamed B.named B.method).1
  subst hsz
  have hD1 := hD0.self (sz := s.heap.size)
  generalize hAe : va_A [oc h0 2 [.null, .null, .int p0, .int p1]] s.heap.size = A at hD1 ⊢
  have hA : ∀ q : Nat, s.heap.size ≤ q → A q := fun q h => by rw [← hAe]; exact Or.inr h
  have hD : dd A [h0] := dd_of hD1 rfl
  clear hAe hD0 hD1
  have hS : va_S A s.heap s.heap [] := va_S.rf
  replace hP : va_P (dC, dI) classes [oc h0 2 [.null, .null, .int p0, .int p1]] s.heap := hP
  have hl := lv_entry ([.ref h0]) (n := 1) (Nat.le_of_ble_eq_true rfl)
  rw [lg_entry_eq]
  generalize (lg_sl ([.ref h0]) ++ List.replicate (1 - (lg_sl ([.ref h0])).length) Slot.unset).toArray = ls at hl ⊢
  replace hl : lv_has ls 1 [(0, .ref h0)] := hl
  refine lv_aload_n hx hb d_StateSet_init_0 rfl (lv_at hl 0 rfl) ?_
  refine W.objInit hx hb hown (hw _ m_229) (hw _ m_120) (hw _ m_121) rfl (by rw [hml]; exact hl.1) rfl d_StateSet_init_1 (Nat.le_of_ble_eq_true rfl) (Nat.le_of_ble_eq_true rfl) ?_
  refine W.eq (g2 := F0 m 4 ls []) rfl ?_
  refine lv_aload_n hx hb d_StateSet_init_4 rfl (lv_at hl 0 rfl) ?_
  refine lv_iconst (v := 0) hx hb d_StateSet_init_5 (by decide) ?_
  refine va_newa (atype := .long) (a0 := (0, .inr (.inl (fun _ => 0)))) (N' := 0) hx hb (hw _ m_243) rfl hK hP (dd_D hD rfl) hS hA (fun _ => rfl) (by decide) (by decide) (Nat.le_of_ble_eq_true rfl) (Nat.le_of_ble_eq_true rfl) (Nat.le_of_ble_eq_true rfl) d_StateSet_init_6 ?_
  clear hP hS hK
  intro q_1 k_2 H1 (hK : va_K (dC, dI) classes [(k_2, .long)] s) (hP : va_P (dC, dI) classes [oc h0 2 [.null, .null, .int p0, .int p1], la q_1 k_2 0 (fun _ => 0)] H1) hD1 hS
  replace hD : dd A [h0, q_1] := dd_of hD1 rfl
  clear hD1
  revert H1
  intro H hP hS
  refine W.widen (k := 1) (n := 0) (by exact Nat.le_of_ble_eq_true rfl) (by exact Nat.le_of_ble_eq_true rfl) ?_
  refine tp_pc (pc' := 8) (by rfl) ?_
  refine va_put (D := (dC, dI)) (ci := 2) (v := .ref q_1) (ty := .array .long) (C := R_StateSet) (T := F_StateSet) (N := 4) hx hb hw i_StateSet t_StateSet t_StateSet_ok n_StateSet hown hK hP (dd_D hD rfl) hS 0 rfl rfl 0 (by decide) (hw _ m_230) (fun _ h9 => h9) rfl (by decide +kernel) rfl rfl (Nat.le_of_ble_eq_true rfl) d_StateSet_init_8 ?_
  clear hP hS H
  intro H locs (hP : va_P (dC, dI) classes [oc h0 2 [.ref q_1, .null, .int p0, .int p1], la q_1 k_2 0 (fun _ => 0)] H) _ hS
  refine tp_pc (pc' := 11) (by rfl) ?_
  refine lv_aload_n hx hb d_StateSet_init_11 rfl (lv_at hl 0 rfl) ?_
  refine lv_iconst (v := 0) hx hb d_StateSet_init_12 (by decide) ?_
  refine va_newa (atype := .int) (a0 := (0, .inl (fun _ => 0))) (N' := 0) hx hb (hw _ m_196) rfl hK hP (dd_D hD rfl) hS hA (fun _ => rfl) (by decide) (by decide) (Nat.le_of_ble_eq_true rfl) (Nat.le_of_ble_eq_true rfl) (Nat.le_of_ble_eq_true rfl) d_StateSet_init_13 ?_
  clear hP hS hK
  intro q_3 k_4 H1 (hK : va_K (dC, dI) classes [(k_2, .long), (k_4, .int)] s) (hP : va_P (dC, dI) classes [oc h0 2 [.ref q_1, .null, .int p0, .int p1], la q_1 k_2 0 (fun _ => 0), ia q_3 k_4 0 (fun _ => 0)] H1) hD1 hS
  replace hD : dd A [h0, q_1, q_3] := dd_of hD1 rfl
  clear hD1
  clear H
  revert H1
  intro H hP hS
  refine W.widen (k := 2) (n := 0) (by exact Nat.le_of_ble_eq_true rfl) (by exact Nat.le_of_ble_eq_true rfl) ?_
  refine tp_pc (pc' := 15) (by rfl) ?_
  refine va_put (D := (dC, dI)) (ci := 2) (v := .ref q_3) (ty := .array .int) (C := R_StateSet) (T := F_StateSet) (N := 4) hx hb hw i_StateSet t_StateSet t_StateSet_ok n_StateSet hown hK hP (dd_D hD rfl) hS 0 rfl rfl 1 (by decide) (hw _ m_231) (fun _ h9 => h9) rfl (by decide +kernel) rfl rfl (Nat.le_of_ble_eq_true rfl) d_StateSet_init_15 ?_
  clear hP hS locs H
  intro H locs (hP : va_P (dC, dI) classes [oc h0 2 [.ref q_1, .ref q_3, .int p0, .int p1], la q_1 k_2 0 (fun _ => 0), ia q_3 k_4 0 (fun _ => 0)] H) _ hS
  refine tp_pc (pc' := 18) (by rfl) ?_
  obtain ⟨hP9, hD9, -⟩ := cut3 (wc := [oc h0 2 [.ref q_1, .ref q_3, .int p0, .int p1], la q_1 k_2 0 (fun _ => 0), ia q_3 k_4 0 (fun _ => 0)]) hP hD rfl hS hA [0, 1, 2] (by decide +kernel) rfl
  have hK9 := hK.sub (tys' := [(k_2, .long), (k_4, .int)]) [0, 1] rfl
  refine W.widen (k := 2) (n := 0) (by exact Nat.le_of_ble_eq_true rfl) (by exact Nat.le_of_ble_eq_true rfl) ?_
  exact W.vret hx hb hr (fun t ht hW => ⟨⟨(), rfl, trivial, q_1, q_3, k_2, k_4, by rw [ht]; exact hP9, va_K.moved hW.alike hK9, hD9⟩, hS.F ht⟩) hS.2.2 d_StateSet_init_18
set_option maxHeartbeats 4000000 in
set_option maxRecDepth 100000 in
theorem c_BufferWalk_init (l : Launch) (dC : Nat → ClassId) (dI : Nat → Nat → Nat) (h0 : Nat) (h1 : Nat) (h2 : Nat) (h3 : Nat) (p0 : Int32) (p1 : Int32) (p2 : Int32) (sz : Nat) : Met l y_BufferWalk_init w_BufferWalk_init ({ frames := 1, cells := 2, slots := 21, locals := 12 }) (va_Pc [.ref h0, .ref h1, .ref h2, .ref h3] (fun U => U.heap.size = sz ∧ va_P (dC, dI) classes [oc h0 4 [.null, .null, .null, .null, .null, .null, .int p0, .int p1, .int p2]] U.heap ∧ va_K (dC, dI) classes [] U ∧ va_D (fun _ => True) [oc h0 4 [.null, .null, .null, .null, .null, .null, .int p0, .int p1, .int p2]] ∧ nw U)) (va_Qv (fun _ : Unit => True) (fun _ t => ∃ (q_1 q_3 : Nat) (k_2 k_4 : ClassId), va_P (dC, dI) classes [oc h0 4 [.ref h1, .ref h2, .ref h3, .ref q_1, .ref q_3, .null, .int p0, .int p1, .int p2], ia q_1 k_2 14 (fun _ => 0), ia q_3 k_4 7 (fun _ => 0)] t.heap ∧ va_K (dC, dI) classes [(k_2, .int), (k_4, .int)] t ∧ va_D (va_A [oc h0 4 [.null, .null, .null, .null, .null, .null, .int p0, .int p1, .int p2]] sz) [oc h0 4 [.ref h1, .ref h2, .ref h3, .ref q_1, .ref q_3, .null, .int p0, .int p1, .int p2], ia q_1 k_2 14 (fun _ => 0), ia q_3 k_4 7 (fun _ => 0)]) (va_A [oc h0 4 [.null, .null, .null, .null, .null, .null, .int p0, .int p1, .int p2]] sz)) 2 21 (va_A [oc h0 4 [.null, .null, .null, .null, .null, .null, .int p0, .int p1, .int p2]] sz) := by
  refine Met.ofW (cc := b_BufferWalk_init) (maxL := 4) (ret := none) (by decide) rfl ?_
  intro p e s m args below meth c s₁ B hml hv
  obtain ⟨rfl, hsz, hP, hK, hD0, hn⟩ := hv
  have hx := B.exec
  have hb := B.bytes
  have hr := B.returns
  have hw := fun w (h : w ∈ wt) => atoms_spec (ws := w_BufferWalk_init) B.pre w (List.mem_cons_of_mem _ h)
  have hown : s.vm.findClass R_BufferWalk = some m.cls := findClass_of_methodNamed B.named
  have hlocks := B.notSynchronized
  have hin : meth.name = "<init>" := (name_of_methodNamed B.named B.method).1
  subst hsz
  have hD1 := hD0.self (sz := s.heap.size)
  generalize hAe : va_A [oc h0 4 [.null, .null, .null, .null, .null, .null, .int p0, .int p1, .int p2]] s.heap.size = A at hD1 ⊢
  have hA : ∀ q : Nat, s.heap.size ≤ q → A q := fun q h => by rw [← hAe]; exact Or.inr h
  have hD : dd A [h0] := dd_of hD1 rfl
  clear hAe hD0 hD1
  have hS : va_S A s.heap s.heap [] := va_S.rf
  replace hP : va_P (dC, dI) classes [oc h0 4 [.null, .null, .null, .null, .null, .null, .int p0, .int p1, .int p2]] s.heap := hP
  have hl := lv_entry ([.ref h0, .ref h1, .ref h2, .ref h3]) (n := 4) (Nat.le_of_ble_eq_true rfl)
  rw [lg_entry_eq]
  generalize (lg_sl ([.ref h0, .ref h1, .ref h2, .ref h3]) ++ List.replicate (4 - (lg_sl ([.ref h0, .ref h1, .ref h2, .ref h3])).length) Slot.unset).toArray = ls at hl ⊢
  replace hl : lv_has ls 4 [(0, .ref h0), (1, .ref h1), (2, .ref h2), (3, .ref h3)] := hl
  refine lv_aload_n hx hb d_BufferWalk_init_0 rfl (lv_at hl 0 rfl) ?_
  refine W.objInit hx hb hown (hw _ m_249) (hw _ m_120) (hw _ m_121) rfl (by rw [hml]; exact hl.1) rfl d_BufferWalk_init_1 (Nat.le_of_ble_eq_true rfl) (Nat.le_of_ble_eq_true rfl) ?_
  refine W.eq (g2 := F0 m 4 ls []) rfl ?_
  refine lv_aload_n hx hb d_BufferWalk_init_4 rfl (lv_at hl 0 rfl) ?_
  refine lv_bipush (v := 14) hx hb d_BufferWalk_init_5 (by decide) ?_
  refine va_newa (atype := .int) (a0 := (14, .inl (fun _ => 0))) (N' := 14) hx hb (hw _ m_196) rfl hK hP (dd_D hD rfl) hS hA (fun _ => rfl) (by decide) (by decide) (Nat.le_of_ble_eq_true rfl) (Nat.le_of_ble_eq_true rfl) (Nat.le_of_ble_eq_true rfl) d_BufferWalk_init_7 ?_
  clear hP hS hK
  intro q_1 k_2 H1 (hK : va_K (dC, dI) classes [(k_2, .int)] s) (hP : va_P (dC, dI) classes [oc h0 4 [.null, .null, .null, .null, .null, .null, .int p0, .int p1, .int p2], ia q_1 k_2 14 (fun _ => 0)] H1) hD1 hS
  replace hD : dd A [h0, q_1] := dd_of hD1 rfl
  clear hD1
  revert H1
  intro H hP hS
  refine W.widen (k := 1) (n := 14) (by exact Nat.le_of_ble_eq_true rfl) (by exact Nat.le_of_ble_eq_true rfl) ?_
  refine tp_pc (pc' := 9) (by rfl) ?_
  refine va_putF (D := (dC, dI)) (ci := 4) (v := .ref q_1) (ty := .array .int) (C := R_BufferWalk) (T := F_BufferWalk) (N := 9) hx hb hw i_BufferWalk t_BufferWalk t_BufferWalk_ok n_BufferWalk hown hK hP (dd_D hD rfl) hS 0 rfl rfl 3 (by decide) (hw _ m_253) (fun _ h9 => h9) rfl hin rfl (by decide +kernel) rfl rfl (Nat.le_of_ble_eq_true rfl) d_BufferWalk_init_9 ?_
  clear hP hS H
  intro H locs (hP : va_P (dC, dI) classes [oc h0 4 [.null, .null, .null, .ref q_1, .null, .null, .int p0, .int p1, .int p2], ia q_1 k_2 14 (fun _ => 0)] H) _ hS
  refine tp_pc (pc' := 12) (by rfl) ?_
  refine lv_aload_n hx hb d_BufferWalk_init_12 rfl (lv_at hl 0 rfl) ?_
  refine lv_bipush (v := 7) hx hb d_BufferWalk_init_13 (by decide) ?_
  refine va_newa (atype := .int) (a0 := (7, .inl (fun _ => 0))) (N' := 7) hx hb (hw _ m_196) rfl hK hP (dd_D hD rfl) hS hA (fun _ => rfl) (by decide) (by decide) (Nat.le_of_ble_eq_true rfl) (Nat.le_of_ble_eq_true rfl) (Nat.le_of_ble_eq_true rfl) d_BufferWalk_init_15 ?_
  clear hP hS hK
  intro q_3 k_4 H1 (hK : va_K (dC, dI) classes [(k_2, .int), (k_4, .int)] s) (hP : va_P (dC, dI) classes [oc h0 4 [.null, .null, .null, .ref q_1, .null, .null, .int p0, .int p1, .int p2], ia q_1 k_2 14 (fun _ => 0), ia q_3 k_4 7 (fun _ => 0)] H1) hD1 hS
  replace hD : dd A [h0, q_1, q_3] := dd_of hD1 rfl
  clear hD1
  clear H
  revert H1
  intro H hP hS
  refine W.widen (k := 2) (n := 21) (by exact Nat.le_of_ble_eq_true rfl) (by exact Nat.le_of_ble_eq_true rfl) ?_
  refine tp_pc (pc' := 17) (by rfl) ?_
  refine va_putF (D := (dC, dI)) (ci := 4) (v := .ref q_3) (ty := .array .int) (C := R_BufferWalk) (T := F_BufferWalk) (N := 9) hx hb hw i_BufferWalk t_BufferWalk t_BufferWalk_ok n_BufferWalk hown hK hP (dd_D hD rfl) hS 0 rfl rfl 4 (by decide) (hw _ m_254) (fun _ h9 => h9) rfl hin rfl (by decide +kernel) rfl rfl (Nat.le_of_ble_eq_true rfl) d_BufferWalk_init_17 ?_
  clear hP hS locs H
  intro H locs (hP : va_P (dC, dI) classes [oc h0 4 [.null, .null, .null, .ref q_1, .ref q_3, .null, .int p0, .int p1, .int p2], ia q_1 k_2 14 (fun _ => 0), ia q_3 k_4 7 (fun _ => 0)] H) _ hS
  refine tp_pc (pc' := 20) (by rfl) ?_
  refine lv_aload_n hx hb d_BufferWalk_init_20 rfl (lv_at hl 0 rfl) ?_
  refine lv_aload_n hx hb d_BufferWalk_init_21 rfl (lv_at hl 1 rfl) ?_
  refine va_putF (D := (dC, dI)) (ci := 4) (v := .ref h1) (ty := .object "OrderModels$Program") (C := R_BufferWalk) (T := F_BufferWalk) (N := 9) hx hb hw i_BufferWalk t_BufferWalk t_BufferWalk_ok n_BufferWalk hown hK hP (dd_D hD rfl) hS 0 rfl rfl 0 (by decide) (hw _ m_250) (fun _ h9 => h9) rfl hin rfl (by decide +kernel) rfl rfl (Nat.le_of_ble_eq_true rfl) d_BufferWalk_init_22 ?_
  clear hP hS locs H
  intro H locs (hP : va_P (dC, dI) classes [oc h0 4 [.ref h1, .null, .null, .ref q_1, .ref q_3, .null, .int p0, .int p1, .int p2], ia q_1 k_2 14 (fun _ => 0), ia q_3 k_4 7 (fun _ => 0)] H) _ hS
  refine tp_pc (pc' := 25) (by rfl) ?_
  refine lv_aload_n hx hb d_BufferWalk_init_25 rfl (lv_at hl 0 rfl) ?_
  refine lv_aload_n hx hb d_BufferWalk_init_26 rfl (lv_at hl 2 rfl) ?_
  refine va_putF (D := (dC, dI)) (ci := 4) (v := .ref h2) (ty := .object "OrderModels$Progress") (C := R_BufferWalk) (T := F_BufferWalk) (N := 9) hx hb hw i_BufferWalk t_BufferWalk t_BufferWalk_ok n_BufferWalk hown hK hP (dd_D hD rfl) hS 0 rfl rfl 1 (by decide) (hw _ m_251) (fun _ h9 => h9) rfl hin rfl (by decide +kernel) rfl rfl (Nat.le_of_ble_eq_true rfl) d_BufferWalk_init_27 ?_
  clear hP hS locs H
  intro H locs (hP : va_P (dC, dI) classes [oc h0 4 [.ref h1, .ref h2, .null, .ref q_1, .ref q_3, .null, .int p0, .int p1, .int p2], ia q_1 k_2 14 (fun _ => 0), ia q_3 k_4 7 (fun _ => 0)] H) _ hS
  refine tp_pc (pc' := 30) (by rfl) ?_
  refine lv_aload_n hx hb d_BufferWalk_init_30 rfl (lv_at hl 0 rfl) ?_
  refine lv_aload_n hx hb d_BufferWalk_init_31 rfl (lv_at hl 3 rfl) ?_
  refine va_putF (D := (dC, dI)) (ci := 4) (v := .ref h3) (ty := .object "OrderModels$StateSet") (C := R_BufferWalk) (T := F_BufferWalk) (N := 9) hx hb hw i_BufferWalk t_BufferWalk t_BufferWalk_ok n_BufferWalk hown hK hP (dd_D hD rfl) hS 0 rfl rfl 2 (by decide) (hw _ m_252) (fun _ h9 => h9) rfl hin rfl (by decide +kernel) rfl rfl (Nat.le_of_ble_eq_true rfl) d_BufferWalk_init_32 ?_
  clear hP hS locs H
  intro H locs (hP : va_P (dC, dI) classes [oc h0 4 [.ref h1, .ref h2, .ref h3, .ref q_1, .ref q_3, .null, .int p0, .int p1, .int p2], ia q_1 k_2 14 (fun _ => 0), ia q_3 k_4 7 (fun _ => 0)] H) _ hS
  refine tp_pc (pc' := 35) (by rfl) ?_
  obtain ⟨hP9, hD9, -⟩ := cut3 (wc := [oc h0 4 [.ref h1, .ref h2, .ref h3, .ref q_1, .ref q_3, .null, .int p0, .int p1, .int p2], ia q_1 k_2 14 (fun _ => 0), ia q_3 k_4 7 (fun _ => 0)]) hP hD rfl hS hA [0, 1, 2] (by decide +kernel) rfl
  have hK9 := hK.sub (tys' := [(k_2, .int), (k_4, .int)]) [0, 1] rfl
  refine W.widen (k := 2) (n := 21) (by exact Nat.le_of_ble_eq_true rfl) (by exact Nat.le_of_ble_eq_true rfl) ?_
  exact W.vret hx hb hr (fun t ht hW => ⟨⟨(), rfl, trivial, q_1, q_3, k_2, k_4, by rw [ht]; exact hP9, va_K.moved hW.alike hK9, hD9⟩, hS.F ht⟩) hS.2.2 d_BufferWalk_init_35
set_option maxHeartbeats 4000000 in
set_option maxRecDepth 100000 in
theorem c_KnowledgeWalk_init (l : Launch) (dC : Nat → ClassId) (dI : Nat → Nat → Nat) (h0 : Nat) (h1 : Nat) (h2 : Nat) (h3 : Nat) (sz : Nat) : Met l y_KnowledgeWalk_init w_KnowledgeWalk_init ({ frames := 1, cells := 5, slots := 34, locals := 12 }) (va_Pc [.ref h0, .ref h1, .ref h2, .ref h3] (fun U => U.heap.size = sz ∧ va_P (dC, dI) classes [oc h0 5 [.null, .null, .null, .null, .null, .null, .null, .null, .null]] U.heap ∧ va_K (dC, dI) classes [] U ∧ va_D (fun _ => True) [oc h0 5 [.null, .null, .null, .null, .null, .null, .null, .null, .null]] ∧ nw U)) (va_Qv (fun _ : Unit => True) (fun _ t => ∃ (q_1 q_3 q_5 q_7 q_9 : Nat) (k_2 k_4 k_6 k_8 k_10 : ClassId), va_P (dC, dI) classes [oc h0 5 [.ref h1, .ref h2, .ref h3, .ref q_1, .ref q_3, .ref q_5, .ref q_7, .ref q_9, .null], ia q_1 k_2 14 (fun _ => 0), ia q_3 k_4 4 (fun _ => 0), ia q_5 k_6 4 (fun _ => 0), ia q_7 k_8 4 (fun _ => 0), ia q_9 k_10 8 (fun _ => 0)] t.heap ∧ va_K (dC, dI) classes [(k_2, .int), (k_4, .int), (k_6, .int), (k_8, .int), (k_10, .int)] t ∧ va_D (va_A [oc h0 5 [.null, .null, .null, .null, .null, .null, .null, .null, .null]] sz) [oc h0 5 [.ref h1, .ref h2, .ref h3, .ref q_1, .ref q_3, .ref q_5, .ref q_7, .ref q_9, .null], ia q_1 k_2 14 (fun _ => 0), ia q_3 k_4 4 (fun _ => 0), ia q_5 k_6 4 (fun _ => 0), ia q_7 k_8 4 (fun _ => 0), ia q_9 k_10 8 (fun _ => 0)]) (va_A [oc h0 5 [.null, .null, .null, .null, .null, .null, .null, .null, .null]] sz)) 5 34 (va_A [oc h0 5 [.null, .null, .null, .null, .null, .null, .null, .null, .null]] sz) := by
  refine Met.ofW (cc := b_KnowledgeWalk_init) (maxL := 4) (ret := none) (by decide) rfl ?_
  intro p e s m args below meth c s₁ B hml hv
  obtain ⟨rfl, hsz, hP, hK, hD0, hn⟩ := hv
  have hx := B.exec
  have hb := B.bytes
  have hr := B.returns
  have hw := fun w (h : w ∈ wt) => atoms_spec (ws := w_KnowledgeWalk_init) B.pre w (List.mem_cons_of_mem _ h)
  have hown : s.vm.findClass R_KnowledgeWalk = some m.cls := findClass_of_methodNamed B.named
  have hlocks := B.notSynchronized
  have hin : meth.name = "<init>" := (name_of_methodNamed B.named B.method).1
  subst hsz
  have hD1 := hD0.self (sz := s.heap.size)
  generalize hAe : va_A [oc h0 5 [.null, .null, .null, .null, .null, .null, .null, .null, .null]] s.heap.size = A at hD1 ⊢
  have hA : ∀ q : Nat, s.heap.size ≤ q → A q := fun q h => by rw [← hAe]; exact Or.inr h
  have hD : dd A [h0] := dd_of hD1 rfl
  clear hAe hD0 hD1
  have hS : va_S A s.heap s.heap [] := va_S.rf
  replace hP : va_P (dC, dI) classes [oc h0 5 [.null, .null, .null, .null, .null, .null, .null, .null, .null]] s.heap := hP
  have hl := lv_entry ([.ref h0, .ref h1, .ref h2, .ref h3]) (n := 4) (Nat.le_of_ble_eq_true rfl)
  rw [lg_entry_eq]
  generalize (lg_sl ([.ref h0, .ref h1, .ref h2, .ref h3]) ++ List.replicate (4 - (lg_sl ([.ref h0, .ref h1, .ref h2, .ref h3])).length) Slot.unset).toArray = ls at hl ⊢
  replace hl : lv_has ls 4 [(0, .ref h0), (1, .ref h1), (2, .ref h2), (3, .ref h3)] := hl
  refine lv_aload_n hx hb d_KnowledgeWalk_init_0 rfl (lv_at hl 0 rfl) ?_
  refine W.objInit hx hb hown (hw _ m_284) (hw _ m_120) (hw _ m_121) rfl (by rw [hml]; exact hl.1) rfl d_KnowledgeWalk_init_1 (Nat.le_of_ble_eq_true rfl) (Nat.le_of_ble_eq_true rfl) ?_
  refine W.eq (g2 := F0 m 4 ls []) rfl ?_
  refine lv_aload_n hx hb d_KnowledgeWalk_init_4 rfl (lv_at hl 0 rfl) ?_
  refine lv_bipush (v := 14) hx hb d_KnowledgeWalk_init_5 (by decide) ?_
  refine va_newa (atype := .int) (a0 := (14, .inl (fun _ => 0))) (N' := 14) hx hb (hw _ m_196) rfl hK hP (dd_D hD rfl) hS hA (fun _ => rfl) (by decide) (by decide) (Nat.le_of_ble_eq_true rfl) (Nat.le_of_ble_eq_true rfl) (Nat.le_of_ble_eq_true rfl) d_KnowledgeWalk_init_7 ?_
  clear hP hS hK
  intro q_1 k_2 H1 (hK : va_K (dC, dI) classes [(k_2, .int)] s) (hP : va_P (dC, dI) classes [oc h0 5 [.null, .null, .null, .null, .null, .null, .null, .null, .null], ia q_1 k_2 14 (fun _ => 0)] H1) hD1 hS
  replace hD : dd A [h0, q_1] := dd_of hD1 rfl
  clear hD1
  revert H1
  intro H hP hS
  refine W.widen (k := 1) (n := 14) (by exact Nat.le_of_ble_eq_true rfl) (by exact Nat.le_of_ble_eq_true rfl) ?_
  refine tp_pc (pc' := 9) (by rfl) ?_
  refine va_putF (D := (dC, dI)) (ci := 5) (v := .ref q_1) (ty := .array .int) (C := R_KnowledgeWalk) (T := F_KnowledgeWalk) (N := 9) hx hb hw i_KnowledgeWalk t_KnowledgeWalk t_KnowledgeWalk_ok n_KnowledgeWalk hown hK hP (dd_D hD rfl) hS 0 rfl rfl 3 (by decide) (hw _ m_288) (fun _ h9 => h9) rfl hin rfl (by decide +kernel) rfl rfl (Nat.le_of_ble_eq_true rfl) d_KnowledgeWalk_init_9 ?_
  clear hP hS H
  intro H locs (hP : va_P (dC, dI) classes [oc h0 5 [.null, .null, .null, .ref q_1, .null, .null, .null, .null, .null], ia q_1 k_2 14 (fun _ => 0)] H) _ hS
  refine tp_pc (pc' := 12) (by rfl) ?_
  refine lv_aload_n hx hb d_KnowledgeWalk_init_12 rfl (lv_at hl 0 rfl) ?_
  refine lv_iconst (v := 4) hx hb d_KnowledgeWalk_init_13 (by decide) ?_
  refine va_newa (atype := .int) (a0 := (4, .inl (fun _ => 0))) (N' := 4) hx hb (hw _ m_196) rfl hK hP (dd_D hD rfl) hS hA (fun _ => rfl) (by decide) (by decide) (Nat.le_of_ble_eq_true rfl) (Nat.le_of_ble_eq_true rfl) (Nat.le_of_ble_eq_true rfl) d_KnowledgeWalk_init_14 ?_
  clear hP hS hK
  intro q_3 k_4 H1 (hK : va_K (dC, dI) classes [(k_2, .int), (k_4, .int)] s) (hP : va_P (dC, dI) classes [oc h0 5 [.null, .null, .null, .ref q_1, .null, .null, .null, .null, .null], ia q_1 k_2 14 (fun _ => 0), ia q_3 k_4 4 (fun _ => 0)] H1) hD1 hS
  replace hD : dd A [h0, q_1, q_3] := dd_of hD1 rfl
  clear hD1
  clear H
  revert H1
  intro H hP hS
  refine W.widen (k := 2) (n := 18) (by exact Nat.le_of_ble_eq_true rfl) (by exact Nat.le_of_ble_eq_true rfl) ?_
  refine tp_pc (pc' := 16) (by rfl) ?_
  refine va_putF (D := (dC, dI)) (ci := 5) (v := .ref q_3) (ty := .array .int) (C := R_KnowledgeWalk) (T := F_KnowledgeWalk) (N := 9) hx hb hw i_KnowledgeWalk t_KnowledgeWalk t_KnowledgeWalk_ok n_KnowledgeWalk hown hK hP (dd_D hD rfl) hS 0 rfl rfl 4 (by decide) (hw _ m_289) (fun _ h9 => h9) rfl hin rfl (by decide +kernel) rfl rfl (Nat.le_of_ble_eq_true rfl) d_KnowledgeWalk_init_16 ?_
  clear hP hS locs H
  intro H locs (hP : va_P (dC, dI) classes [oc h0 5 [.null, .null, .null, .ref q_1, .ref q_3, .null, .null, .null, .null], ia q_1 k_2 14 (fun _ => 0), ia q_3 k_4 4 (fun _ => 0)] H) _ hS
  refine tp_pc (pc' := 19) (by rfl) ?_
  refine lv_aload_n hx hb d_KnowledgeWalk_init_19 rfl (lv_at hl 0 rfl) ?_
  refine lv_iconst (v := 4) hx hb d_KnowledgeWalk_init_20 (by decide) ?_
  refine va_newa (atype := .int) (a0 := (4, .inl (fun _ => 0))) (N' := 4) hx hb (hw _ m_196) rfl hK hP (dd_D hD rfl) hS hA (fun _ => rfl) (by decide) (by decide) (Nat.le_of_ble_eq_true rfl) (Nat.le_of_ble_eq_true rfl) (Nat.le_of_ble_eq_true rfl) d_KnowledgeWalk_init_21 ?_
  clear hP hS hK
  intro q_5 k_6 H1 (hK : va_K (dC, dI) classes [(k_2, .int), (k_4, .int), (k_6, .int)] s) (hP : va_P (dC, dI) classes [oc h0 5 [.null, .null, .null, .ref q_1, .ref q_3, .null, .null, .null, .null], ia q_1 k_2 14 (fun _ => 0), ia q_3 k_4 4 (fun _ => 0), ia q_5 k_6 4 (fun _ => 0)] H1) hD1 hS
  replace hD : dd A [h0, q_1, q_3, q_5] := dd_of hD1 rfl
  clear hD1
  clear H
  revert H1
  intro H hP hS
  refine W.widen (k := 3) (n := 22) (by exact Nat.le_of_ble_eq_true rfl) (by exact Nat.le_of_ble_eq_true rfl) ?_
  refine tp_pc (pc' := 23) (by rfl) ?_
  refine va_putF (D := (dC, dI)) (ci := 5) (v := .ref q_5) (ty := .array .int) (C := R_KnowledgeWalk) (T := F_KnowledgeWalk) (N := 9) hx hb hw i_KnowledgeWalk t_KnowledgeWalk t_KnowledgeWalk_ok n_KnowledgeWalk hown hK hP (dd_D hD rfl) hS 0 rfl rfl 5 (by decide) (hw _ m_290) (fun _ h9 => h9) rfl hin rfl (by decide +kernel) rfl rfl (Nat.le_of_ble_eq_true rfl) d_KnowledgeWalk_init_23 ?_
  clear hP hS locs H
  intro H locs (hP : va_P (dC, dI) classes [oc h0 5 [.null, .null, .null, .ref q_1, .ref q_3, .ref q_5, .null, .null, .null], ia q_1 k_2 14 (fun _ => 0), ia q_3 k_4 4 (fun _ => 0), ia q_5 k_6 4 (fun _ => 0)] H) _ hS
  refine tp_pc (pc' := 26) (by rfl) ?_
  refine lv_aload_n hx hb d_KnowledgeWalk_init_26 rfl (lv_at hl 0 rfl) ?_
  refine lv_iconst (v := 4) hx hb d_KnowledgeWalk_init_27 (by decide) ?_
  refine va_newa (atype := .int) (a0 := (4, .inl (fun _ => 0))) (N' := 4) hx hb (hw _ m_196) rfl hK hP (dd_D hD rfl) hS hA (fun _ => rfl) (by decide) (by decide) (Nat.le_of_ble_eq_true rfl) (Nat.le_of_ble_eq_true rfl) (Nat.le_of_ble_eq_true rfl) d_KnowledgeWalk_init_28 ?_
  clear hP hS hK
  intro q_7 k_8 H1 (hK : va_K (dC, dI) classes [(k_2, .int), (k_4, .int), (k_6, .int), (k_8, .int)] s) (hP : va_P (dC, dI) classes [oc h0 5 [.null, .null, .null, .ref q_1, .ref q_3, .ref q_5, .null, .null, .null], ia q_1 k_2 14 (fun _ => 0), ia q_3 k_4 4 (fun _ => 0), ia q_5 k_6 4 (fun _ => 0), ia q_7 k_8 4 (fun _ => 0)] H1) hD1 hS
  replace hD : dd A [h0, q_1, q_3, q_5, q_7] := dd_of hD1 rfl
  clear hD1
  clear H
  revert H1
  intro H hP hS
  refine W.widen (k := 4) (n := 26) (by exact Nat.le_of_ble_eq_true rfl) (by exact Nat.le_of_ble_eq_true rfl) ?_
  refine tp_pc (pc' := 30) (by rfl) ?_
  refine va_putF (D := (dC, dI)) (ci := 5) (v := .ref q_7) (ty := .array .int) (C := R_KnowledgeWalk) (T := F_KnowledgeWalk) (N := 9) hx hb hw i_KnowledgeWalk t_KnowledgeWalk t_KnowledgeWalk_ok n_KnowledgeWalk hown hK hP (dd_D hD rfl) hS 0 rfl rfl 6 (by decide) (hw _ m_291) (fun _ h9 => h9) rfl hin rfl (by decide +kernel) rfl rfl (Nat.le_of_ble_eq_true rfl) d_KnowledgeWalk_init_30 ?_
  clear hP hS locs H
  intro H locs (hP : va_P (dC, dI) classes [oc h0 5 [.null, .null, .null, .ref q_1, .ref q_3, .ref q_5, .ref q_7, .null, .null], ia q_1 k_2 14 (fun _ => 0), ia q_3 k_4 4 (fun _ => 0), ia q_5 k_6 4 (fun _ => 0), ia q_7 k_8 4 (fun _ => 0)] H) _ hS
  refine tp_pc (pc' := 33) (by rfl) ?_
  refine lv_aload_n hx hb d_KnowledgeWalk_init_33 rfl (lv_at hl 0 rfl) ?_
  refine lv_bipush (v := 8) hx hb d_KnowledgeWalk_init_34 (by decide) ?_
  refine va_newa (atype := .int) (a0 := (8, .inl (fun _ => 0))) (N' := 8) hx hb (hw _ m_196) rfl hK hP (dd_D hD rfl) hS hA (fun _ => rfl) (by decide) (by decide) (Nat.le_of_ble_eq_true rfl) (Nat.le_of_ble_eq_true rfl) (Nat.le_of_ble_eq_true rfl) d_KnowledgeWalk_init_36 ?_
  clear hP hS hK
  intro q_9 k_10 H1 (hK : va_K (dC, dI) classes [(k_2, .int), (k_4, .int), (k_6, .int), (k_8, .int), (k_10, .int)] s) (hP : va_P (dC, dI) classes [oc h0 5 [.null, .null, .null, .ref q_1, .ref q_3, .ref q_5, .ref q_7, .null, .null], ia q_1 k_2 14 (fun _ => 0), ia q_3 k_4 4 (fun _ => 0), ia q_5 k_6 4 (fun _ => 0), ia q_7 k_8 4 (fun _ => 0), ia q_9 k_10 8 (fun _ => 0)] H1) hD1 hS
  replace hD : dd A [h0, q_1, q_3, q_5, q_7, q_9] := dd_of hD1 rfl
  clear hD1
  clear H
  revert H1
  intro H hP hS
  refine W.widen (k := 5) (n := 34) (by exact Nat.le_of_ble_eq_true rfl) (by exact Nat.le_of_ble_eq_true rfl) ?_
  refine tp_pc (pc' := 38) (by rfl) ?_
  refine va_putF (D := (dC, dI)) (ci := 5) (v := .ref q_9) (ty := .array .int) (C := R_KnowledgeWalk) (T := F_KnowledgeWalk) (N := 9) hx hb hw i_KnowledgeWalk t_KnowledgeWalk t_KnowledgeWalk_ok n_KnowledgeWalk hown hK hP (dd_D hD rfl) hS 0 rfl rfl 7 (by decide) (hw _ m_292) (fun _ h9 => h9) rfl hin rfl (by decide +kernel) rfl rfl (Nat.le_of_ble_eq_true rfl) d_KnowledgeWalk_init_38 ?_
  clear hP hS locs H
  intro H locs (hP : va_P (dC, dI) classes [oc h0 5 [.null, .null, .null, .ref q_1, .ref q_3, .ref q_5, .ref q_7, .ref q_9, .null], ia q_1 k_2 14 (fun _ => 0), ia q_3 k_4 4 (fun _ => 0), ia q_5 k_6 4 (fun _ => 0), ia q_7 k_8 4 (fun _ => 0), ia q_9 k_10 8 (fun _ => 0)] H) _ hS
  refine tp_pc (pc' := 41) (by rfl) ?_
  refine lv_aload_n hx hb d_KnowledgeWalk_init_41 rfl (lv_at hl 0 rfl) ?_
  refine lv_aload_n hx hb d_KnowledgeWalk_init_42 rfl (lv_at hl 1 rfl) ?_
  refine va_putF (D := (dC, dI)) (ci := 5) (v := .ref h1) (ty := .object "OrderModels$Program") (C := R_KnowledgeWalk) (T := F_KnowledgeWalk) (N := 9) hx hb hw i_KnowledgeWalk t_KnowledgeWalk t_KnowledgeWalk_ok n_KnowledgeWalk hown hK hP (dd_D hD rfl) hS 0 rfl rfl 0 (by decide) (hw _ m_285) (fun _ h9 => h9) rfl hin rfl (by decide +kernel) rfl rfl (Nat.le_of_ble_eq_true rfl) d_KnowledgeWalk_init_43 ?_
  clear hP hS locs H
  intro H locs (hP : va_P (dC, dI) classes [oc h0 5 [.ref h1, .null, .null, .ref q_1, .ref q_3, .ref q_5, .ref q_7, .ref q_9, .null], ia q_1 k_2 14 (fun _ => 0), ia q_3 k_4 4 (fun _ => 0), ia q_5 k_6 4 (fun _ => 0), ia q_7 k_8 4 (fun _ => 0), ia q_9 k_10 8 (fun _ => 0)] H) _ hS
  refine tp_pc (pc' := 46) (by rfl) ?_
  refine lv_aload_n hx hb d_KnowledgeWalk_init_46 rfl (lv_at hl 0 rfl) ?_
  refine lv_aload_n hx hb d_KnowledgeWalk_init_47 rfl (lv_at hl 2 rfl) ?_
  refine va_putF (D := (dC, dI)) (ci := 5) (v := .ref h2) (ty := .object "OrderModels$Progress") (C := R_KnowledgeWalk) (T := F_KnowledgeWalk) (N := 9) hx hb hw i_KnowledgeWalk t_KnowledgeWalk t_KnowledgeWalk_ok n_KnowledgeWalk hown hK hP (dd_D hD rfl) hS 0 rfl rfl 1 (by decide) (hw _ m_286) (fun _ h9 => h9) rfl hin rfl (by decide +kernel) rfl rfl (Nat.le_of_ble_eq_true rfl) d_KnowledgeWalk_init_48 ?_
  clear hP hS locs H
  intro H locs (hP : va_P (dC, dI) classes [oc h0 5 [.ref h1, .ref h2, .null, .ref q_1, .ref q_3, .ref q_5, .ref q_7, .ref q_9, .null], ia q_1 k_2 14 (fun _ => 0), ia q_3 k_4 4 (fun _ => 0), ia q_5 k_6 4 (fun _ => 0), ia q_7 k_8 4 (fun _ => 0), ia q_9 k_10 8 (fun _ => 0)] H) _ hS
  refine tp_pc (pc' := 51) (by rfl) ?_
  refine lv_aload_n hx hb d_KnowledgeWalk_init_51 rfl (lv_at hl 0 rfl) ?_
  refine lv_aload_n hx hb d_KnowledgeWalk_init_52 rfl (lv_at hl 3 rfl) ?_
  refine va_putF (D := (dC, dI)) (ci := 5) (v := .ref h3) (ty := .object "OrderModels$StateSet") (C := R_KnowledgeWalk) (T := F_KnowledgeWalk) (N := 9) hx hb hw i_KnowledgeWalk t_KnowledgeWalk t_KnowledgeWalk_ok n_KnowledgeWalk hown hK hP (dd_D hD rfl) hS 0 rfl rfl 2 (by decide) (hw _ m_287) (fun _ h9 => h9) rfl hin rfl (by decide +kernel) rfl rfl (Nat.le_of_ble_eq_true rfl) d_KnowledgeWalk_init_53 ?_
  clear hP hS locs H
  intro H locs (hP : va_P (dC, dI) classes [oc h0 5 [.ref h1, .ref h2, .ref h3, .ref q_1, .ref q_3, .ref q_5, .ref q_7, .ref q_9, .null], ia q_1 k_2 14 (fun _ => 0), ia q_3 k_4 4 (fun _ => 0), ia q_5 k_6 4 (fun _ => 0), ia q_7 k_8 4 (fun _ => 0), ia q_9 k_10 8 (fun _ => 0)] H) _ hS
  refine tp_pc (pc' := 56) (by rfl) ?_
  obtain ⟨hP9, hD9, -⟩ := cut3 (wc := [oc h0 5 [.ref h1, .ref h2, .ref h3, .ref q_1, .ref q_3, .ref q_5, .ref q_7, .ref q_9, .null], ia q_1 k_2 14 (fun _ => 0), ia q_3 k_4 4 (fun _ => 0), ia q_5 k_6 4 (fun _ => 0), ia q_7 k_8 4 (fun _ => 0), ia q_9 k_10 8 (fun _ => 0)]) hP hD rfl hS hA [0, 1, 2, 3, 4, 5] (by decide +kernel) rfl
  have hK9 := hK.sub (tys' := [(k_2, .int), (k_4, .int), (k_6, .int), (k_8, .int), (k_10, .int)]) [0, 1, 2, 3, 4] rfl
  refine W.widen (k := 5) (n := 34) (by exact Nat.le_of_ble_eq_true rfl) (by exact Nat.le_of_ble_eq_true rfl) ?_
  exact W.vret hx hb hr (fun t ht hW => ⟨⟨(), rfl, trivial, q_1, q_3, q_5, q_7, q_9, k_2, k_4, k_6, k_8, k_10, by rw [ht]; exact hP9, va_K.moved hW.alike hK9, hD9⟩, hS.F ht⟩) hS.2.2 d_KnowledgeWalk_init_56
set_option maxHeartbeats 4000000 in
set_option maxRecDepth 100000 in
theorem c_GraphSearch_init (l : Launch) (dC : Nat → ClassId) (dI : Nat → Nat → Nat) (h0 : Nat) (h1 : Nat) (h2 : Nat) (p0 : Int32) (p1 : Int32) (sz : Nat) : Met l y_GraphSearch_init w_GraphSearch_init ({ frames := 1, cells := 12, slots := 72, locals := 12 }) (va_Pc [.ref h0, .ref h1, .ref h2] (fun U => U.heap.size = sz ∧ va_P (dC, dI) classes [oc h0 6 [.null, .null, .null, .null, .null, .null, .null, .null, .null, .null, .null, .null, .null, .null, .null, .int p0, .int p1]] U.heap ∧ va_K (dC, dI) classes [] U ∧ va_D (fun _ => True) [oc h0 6 [.null, .null, .null, .null, .null, .null, .null, .null, .null, .null, .null, .null, .null, .null, .null, .int p0, .int p1]] ∧ nw U)) (va_Qv (fun _ : Unit => True) (fun _ t => ∃ (q_1 q_3 q_5 q_7 q_9 q_11 q_13 q_15 q_17 q_19 q_21 q_23 : Nat) (k_2 k_4 k_6 k_8 k_10 k_12 k_14 k_16 k_18 k_20 k_22 k_24 : ClassId), va_P (dC, dI) classes [oc h0 6 [.ref h1, .ref h2, .ref q_1, .ref q_3, .ref q_5, .ref q_7, .ref q_9, .ref q_11, .ref q_13, .ref q_15, .ref q_17, .ref q_19, .ref q_21, .ref q_23, .null, .int p0, .int p1], ia q_1 k_2 7 (fun _ => 0), ia q_3 k_4 4 (fun _ => 0), ia q_5 k_6 3 (fun _ => 0), ia q_7 k_8 7 (fun _ => 0), ia q_9 k_10 7 (fun _ => 0), ia q_11 k_12 7 (fun _ => 0), ia q_13 k_14 8 (fun _ => 0), ia q_15 k_16 4 (fun _ => 0), ia q_17 k_18 4 (fun _ => 0), ia q_19 k_20 7 (fun _ => 0), ia q_21 k_22 7 (fun _ => 0), ia q_23 k_24 7 (fun _ => 0)] t.heap ∧ va_K (dC, dI) classes [(k_2, .int), (k_4, .int), (k_6, .int), (k_8, .int), (k_10, .int), (k_12, .int), (k_14, .int), (k_16, .int), (k_18, .int), (k_20, .int), (k_22, .int), (k_24, .int)] t ∧ va_D (va_A [oc h0 6 [.null, .null, .null, .null, .null, .null, .null, .null, .null, .null, .null, .null, .null, .null, .null, .int p0, .int p1]] sz) [oc h0 6 [.ref h1, .ref h2, .ref q_1, .ref q_3, .ref q_5, .ref q_7, .ref q_9, .ref q_11, .ref q_13, .ref q_15, .ref q_17, .ref q_19, .ref q_21, .ref q_23, .null, .int p0, .int p1], ia q_1 k_2 7 (fun _ => 0), ia q_3 k_4 4 (fun _ => 0), ia q_5 k_6 3 (fun _ => 0), ia q_7 k_8 7 (fun _ => 0), ia q_9 k_10 7 (fun _ => 0), ia q_11 k_12 7 (fun _ => 0), ia q_13 k_14 8 (fun _ => 0), ia q_15 k_16 4 (fun _ => 0), ia q_17 k_18 4 (fun _ => 0), ia q_19 k_20 7 (fun _ => 0), ia q_21 k_22 7 (fun _ => 0), ia q_23 k_24 7 (fun _ => 0)]) (va_A [oc h0 6 [.null, .null, .null, .null, .null, .null, .null, .null, .null, .null, .null, .null, .null, .null, .null, .int p0, .int p1]] sz)) 12 72 (va_A [oc h0 6 [.null, .null, .null, .null, .null, .null, .null, .null, .null, .null, .null, .null, .null, .null, .null, .int p0, .int p1]] sz) := by
  refine Met.ofW (cc := b_GraphSearch_init) (maxL := 3) (ret := none) (by decide) rfl ?_
  intro p e s m args below meth c s₁ B hml hv
  obtain ⟨rfl, hsz, hP, hK, hD0, hn⟩ := hv
  have hx := B.exec
  have hb := B.bytes
  have hr := B.returns
  have hw := fun w (h : w ∈ wt) => atoms_spec (ws := w_GraphSearch_init) B.pre w (List.mem_cons_of_mem _ h)
  have hown : s.vm.findClass R_GraphSearch = some m.cls := findClass_of_methodNamed B.named
  have hlocks := B.notSynchronized
  have hin : meth.name = "<init>" := (name_of_methodNamed B.named B.method).1
  subst hsz
  have hD1 := hD0.self (sz := s.heap.size)
  generalize hAe : va_A [oc h0 6 [.null, .null, .null, .null, .null, .null, .null, .null, .null, .null, .null, .null, .null, .null, .null, .int p0, .int p1]] s.heap.size = A at hD1 ⊢
  have hA : ∀ q : Nat, s.heap.size ≤ q → A q := fun q h => by rw [← hAe]; exact Or.inr h
  have hD : dd A [h0] := dd_of hD1 rfl
  clear hAe hD0 hD1
  have hS : va_S A s.heap s.heap [] := va_S.rf
  replace hP : va_P (dC, dI) classes [oc h0 6 [.null, .null, .null, .null, .null, .null, .null, .null, .null, .null, .null, .null, .null, .null, .null, .int p0, .int p1]] s.heap := hP
  have hl := lv_entry ([.ref h0, .ref h1, .ref h2]) (n := 3) (Nat.le_of_ble_eq_true rfl)
  rw [lg_entry_eq]
  generalize (lg_sl ([.ref h0, .ref h1, .ref h2]) ++ List.replicate (3 - (lg_sl ([.ref h0, .ref h1, .ref h2])).length) Slot.unset).toArray = ls at hl ⊢
  replace hl : lv_has ls 3 [(0, .ref h0), (1, .ref h1), (2, .ref h2)] := hl
  refine lv_aload_n hx hb d_GraphSearch_init_0 rfl (lv_at hl 0 rfl) ?_
  refine W.objInit hx hb hown (hw _ m_318) (hw _ m_120) (hw _ m_121) rfl (by rw [hml]; exact hl.1) rfl d_GraphSearch_init_1 (Nat.le_of_ble_eq_true rfl) (Nat.le_of_ble_eq_true rfl) ?_
  refine W.eq (g2 := F0 m 4 ls []) rfl ?_
  refine lv_aload_n hx hb d_GraphSearch_init_4 rfl (lv_at hl 0 rfl) ?_
  refine lv_bipush (v := 7) hx hb d_GraphSearch_init_5 (by decide) ?_
  refine va_newa (atype := .int) (a0 := (7, .inl (fun _ => 0))) (N' := 7) hx hb (hw _ m_196) rfl hK hP (dd_D hD rfl) hS hA (fun _ => rfl) (by decide) (by decide) (Nat.le_of_ble_eq_true rfl) (Nat.le_of_ble_eq_true rfl) (Nat.le_of_ble_eq_true rfl) d_GraphSearch_init_7 ?_
  clear hP hS hK
  intro q_1 k_2 H1 (hK : va_K (dC, dI) classes [(k_2, .int)] s) (hP : va_P (dC, dI) classes [oc h0 6 [.null, .null, .null, .null, .null, .null, .null, .null, .null, .null, .null, .null, .null, .null, .null, .int p0, .int p1], ia q_1 k_2 7 (fun _ => 0)] H1) hD1 hS
  replace hD : dd A [h0, q_1] := dd_of hD1 rfl
  clear hD1
  revert H1
  intro H hP hS
  refine W.widen (k := 1) (n := 7) (by exact Nat.le_of_ble_eq_true rfl) (by exact Nat.le_of_ble_eq_true rfl) ?_
  refine tp_pc (pc' := 9) (by rfl) ?_
  refine va_putF (D := (dC, dI)) (ci := 6) (v := .ref q_1) (ty := .array .int) (C := R_GraphSearch) (T := F_GraphSearch) (N := 17) hx hb hw i_GraphSearch t_GraphSearch t_GraphSearch_ok n_GraphSearch hown hK hP (dd_D hD rfl) hS 0 rfl rfl 2 (by decide) (hw _ m_321) (fun _ h9 => h9) rfl hin rfl (by decide +kernel) rfl rfl (Nat.le_of_ble_eq_true rfl) d_GraphSearch_init_9 ?_
  clear hP hS H
  intro H locs (hP : va_P (dC, dI) classes [oc h0 6 [.null, .null, .ref q_1, .null, .null, .null, .null, .null, .null, .null, .null, .null, .null, .null, .null, .int p0, .int p1], ia q_1 k_2 7 (fun _ => 0)] H) _ hS
  refine tp_pc (pc' := 12) (by rfl) ?_
  refine lv_aload_n hx hb d_GraphSearch_init_12 rfl (lv_at hl 0 rfl) ?_
  refine lv_iconst (v := 4) hx hb d_GraphSearch_init_13 (by decide) ?_
  refine va_newa (atype := .int) (a0 := (4, .inl (fun _ => 0))) (N' := 4) hx hb (hw _ m_196) rfl hK hP (dd_D hD rfl) hS hA (fun _ => rfl) (by decide) (by decide) (Nat.le_of_ble_eq_true rfl) (Nat.le_of_ble_eq_true rfl) (Nat.le_of_ble_eq_true rfl) d_GraphSearch_init_14 ?_
  clear hP hS hK
  intro q_3 k_4 H1 (hK : va_K (dC, dI) classes [(k_2, .int), (k_4, .int)] s) (hP : va_P (dC, dI) classes [oc h0 6 [.null, .null, .ref q_1, .null, .null, .null, .null, .null, .null, .null, .null, .null, .null, .null, .null, .int p0, .int p1], ia q_1 k_2 7 (fun _ => 0), ia q_3 k_4 4 (fun _ => 0)] H1) hD1 hS
  replace hD : dd A [h0, q_1, q_3] := dd_of hD1 rfl
  clear hD1
  clear H
  revert H1
  intro H hP hS
  refine W.widen (k := 2) (n := 11) (by exact Nat.le_of_ble_eq_true rfl) (by exact Nat.le_of_ble_eq_true rfl) ?_
  refine tp_pc (pc' := 16) (by rfl) ?_
  refine va_putF (D := (dC, dI)) (ci := 6) (v := .ref q_3) (ty := .array .int) (C := R_GraphSearch) (T := F_GraphSearch) (N := 17) hx hb hw i_GraphSearch t_GraphSearch t_GraphSearch_ok n_GraphSearch hown hK hP (dd_D hD rfl) hS 0 rfl rfl 3 (by decide) (hw _ m_322) (fun _ h9 => h9) rfl hin rfl (by decide +kernel) rfl rfl (Nat.le_of_ble_eq_true rfl) d_GraphSearch_init_16 ?_
  clear hP hS locs H
  intro H locs (hP : va_P (dC, dI) classes [oc h0 6 [.null, .null, .ref q_1, .ref q_3, .null, .null, .null, .null, .null, .null, .null, .null, .null, .null, .null, .int p0, .int p1], ia q_1 k_2 7 (fun _ => 0), ia q_3 k_4 4 (fun _ => 0)] H) _ hS
  refine tp_pc (pc' := 19) (by rfl) ?_
  refine lv_aload_n hx hb d_GraphSearch_init_19 rfl (lv_at hl 0 rfl) ?_
  refine lv_iconst (v := 3) hx hb d_GraphSearch_init_20 (by decide) ?_
  refine va_newa (atype := .int) (a0 := (3, .inl (fun _ => 0))) (N' := 3) hx hb (hw _ m_196) rfl hK hP (dd_D hD rfl) hS hA (fun _ => rfl) (by decide) (by decide) (Nat.le_of_ble_eq_true rfl) (Nat.le_of_ble_eq_true rfl) (Nat.le_of_ble_eq_true rfl) d_GraphSearch_init_21 ?_
  clear hP hS hK
  intro q_5 k_6 H1 (hK : va_K (dC, dI) classes [(k_2, .int), (k_4, .int), (k_6, .int)] s) (hP : va_P (dC, dI) classes [oc h0 6 [.null, .null, .ref q_1, .ref q_3, .null, .null, .null, .null, .null, .null, .null, .null, .null, .null, .null, .int p0, .int p1], ia q_1 k_2 7 (fun _ => 0), ia q_3 k_4 4 (fun _ => 0), ia q_5 k_6 3 (fun _ => 0)] H1) hD1 hS
  replace hD : dd A [h0, q_1, q_3, q_5] := dd_of hD1 rfl
  clear hD1
  clear H
  revert H1
  intro H hP hS
  refine W.widen (k := 3) (n := 14) (by exact Nat.le_of_ble_eq_true rfl) (by exact Nat.le_of_ble_eq_true rfl) ?_
  refine tp_pc (pc' := 23) (by rfl) ?_
  refine va_putF (D := (dC, dI)) (ci := 6) (v := .ref q_5) (ty := .array .int) (C := R_GraphSearch) (T := F_GraphSearch) (N := 17) hx hb hw i_GraphSearch t_GraphSearch t_GraphSearch_ok n_GraphSearch hown hK hP (dd_D hD rfl) hS 0 rfl rfl 4 (by decide) (hw _ m_323) (fun _ h9 => h9) rfl hin rfl (by decide +kernel) rfl rfl (Nat.le_of_ble_eq_true rfl) d_GraphSearch_init_23 ?_
  clear hP hS locs H
  intro H locs (hP : va_P (dC, dI) classes [oc h0 6 [.null, .null, .ref q_1, .ref q_3, .ref q_5, .null, .null, .null, .null, .null, .null, .null, .null, .null, .null, .int p0, .int p1], ia q_1 k_2 7 (fun _ => 0), ia q_3 k_4 4 (fun _ => 0), ia q_5 k_6 3 (fun _ => 0)] H) _ hS
  refine tp_pc (pc' := 26) (by rfl) ?_
  refine lv_aload_n hx hb d_GraphSearch_init_26 rfl (lv_at hl 0 rfl) ?_
  refine lv_bipush (v := 7) hx hb d_GraphSearch_init_27 (by decide) ?_
  refine va_newa (atype := .int) (a0 := (7, .inl (fun _ => 0))) (N' := 7) hx hb (hw _ m_196) rfl hK hP (dd_D hD rfl) hS hA (fun _ => rfl) (by decide) (by decide) (Nat.le_of_ble_eq_true rfl) (Nat.le_of_ble_eq_true rfl) (Nat.le_of_ble_eq_true rfl) d_GraphSearch_init_29 ?_
  clear hP hS hK
  intro q_7 k_8 H1 (hK : va_K (dC, dI) classes [(k_2, .int), (k_4, .int), (k_6, .int), (k_8, .int)] s) (hP : va_P (dC, dI) classes [oc h0 6 [.null, .null, .ref q_1, .ref q_3, .ref q_5, .null, .null, .null, .null, .null, .null, .null, .null, .null, .null, .int p0, .int p1], ia q_1 k_2 7 (fun _ => 0), ia q_3 k_4 4 (fun _ => 0), ia q_5 k_6 3 (fun _ => 0), ia q_7 k_8 7 (fun _ => 0)] H1) hD1 hS
  replace hD : dd A [h0, q_1, q_3, q_5, q_7] := dd_of hD1 rfl
  clear hD1
  clear H
  revert H1
  intro H hP hS
  refine W.widen (k := 4) (n := 21) (by exact Nat.le_of_ble_eq_true rfl) (by exact Nat.le_of_ble_eq_true rfl) ?_
  refine tp_pc (pc' := 31) (by rfl) ?_
  refine va_putF (D := (dC, dI)) (ci := 6) (v := .ref q_7) (ty := .array .int) (C := R_GraphSearch) (T := F_GraphSearch) (N := 17) hx hb hw i_GraphSearch t_GraphSearch t_GraphSearch_ok n_GraphSearch hown hK hP (dd_D hD rfl) hS 0 rfl rfl 5 (by decide) (hw _ m_324) (fun _ h9 => h9) rfl hin rfl (by decide +kernel) rfl rfl (Nat.le_of_ble_eq_true rfl) d_GraphSearch_init_31 ?_
  clear hP hS locs H
  intro H locs (hP : va_P (dC, dI) classes [oc h0 6 [.null, .null, .ref q_1, .ref q_3, .ref q_5, .ref q_7, .null, .null, .null, .null, .null, .null, .null, .null, .null, .int p0, .int p1], ia q_1 k_2 7 (fun _ => 0), ia q_3 k_4 4 (fun _ => 0), ia q_5 k_6 3 (fun _ => 0), ia q_7 k_8 7 (fun _ => 0)] H) _ hS
  refine tp_pc (pc' := 34) (by rfl) ?_
  refine lv_aload_n hx hb d_GraphSearch_init_34 rfl (lv_at hl 0 rfl) ?_
  refine lv_bipush (v := 7) hx hb d_GraphSearch_init_35 (by decide) ?_
  refine va_newa (atype := .int) (a0 := (7, .inl (fun _ => 0))) (N' := 7) hx hb (hw _ m_196) rfl hK hP (dd_D hD rfl) hS hA (fun _ => rfl) (by decide) (by decide) (Nat.le_of_ble_eq_true rfl) (Nat.le_of_ble_eq_true rfl) (Nat.le_of_ble_eq_true rfl) d_GraphSearch_init_37 ?_
  clear hP hS hK
  intro q_9 k_10 H1 (hK : va_K (dC, dI) classes [(k_2, .int), (k_4, .int), (k_6, .int), (k_8, .int), (k_10, .int)] s) (hP : va_P (dC, dI) classes [oc h0 6 [.null, .null, .ref q_1, .ref q_3, .ref q_5, .ref q_7, .null, .null, .null, .null, .null, .null, .null, .null, .null, .int p0, .int p1], ia q_1 k_2 7 (fun _ => 0), ia q_3 k_4 4 (fun _ => 0), ia q_5 k_6 3 (fun _ => 0), ia q_7 k_8 7 (fun _ => 0), ia q_9 k_10 7 (fun _ => 0)] H1) hD1 hS
  replace hD : dd A [h0, q_1, q_3, q_5, q_7, q_9] := dd_of hD1 rfl
  clear hD1
  clear H
  revert H1
  intro H hP hS
  refine W.widen (k := 5) (n := 28) (by exact Nat.le_of_ble_eq_true rfl) (by exact Nat.le_of_ble_eq_true rfl) ?_
  refine tp_pc (pc' := 39) (by rfl) ?_
  refine va_putF (D := (dC, dI)) (ci := 6) (v := .ref q_9) (ty := .array .int) (C := R_GraphSearch) (T := F_GraphSearch) (N := 17) hx hb hw i_GraphSearch t_GraphSearch t_GraphSearch_ok n_GraphSearch hown hK hP (dd_D hD rfl) hS 0 rfl rfl 6 (by decide) (hw _ m_325) (fun _ h9 => h9) rfl hin rfl (by decide +kernel) rfl rfl (Nat.le_of_ble_eq_true rfl) d_GraphSearch_init_39 ?_
  clear hP hS locs H
  intro H locs (hP : va_P (dC, dI) classes [oc h0 6 [.null, .null, .ref q_1, .ref q_3, .ref q_5, .ref q_7, .ref q_9, .null, .null, .null, .null, .null, .null, .null, .null, .int p0, .int p1], ia q_1 k_2 7 (fun _ => 0), ia q_3 k_4 4 (fun _ => 0), ia q_5 k_6 3 (fun _ => 0), ia q_7 k_8 7 (fun _ => 0), ia q_9 k_10 7 (fun _ => 0)] H) _ hS
  refine tp_pc (pc' := 42) (by rfl) ?_
  refine lv_aload_n hx hb d_GraphSearch_init_42 rfl (lv_at hl 0 rfl) ?_
  refine lv_bipush (v := 7) hx hb d_GraphSearch_init_43 (by decide) ?_
  refine va_newa (atype := .int) (a0 := (7, .inl (fun _ => 0))) (N' := 7) hx hb (hw _ m_196) rfl hK hP (dd_D hD rfl) hS hA (fun _ => rfl) (by decide) (by decide) (Nat.le_of_ble_eq_true rfl) (Nat.le_of_ble_eq_true rfl) (Nat.le_of_ble_eq_true rfl) d_GraphSearch_init_45 ?_
  clear hP hS hK
  intro q_11 k_12 H1 (hK : va_K (dC, dI) classes [(k_2, .int), (k_4, .int), (k_6, .int), (k_8, .int), (k_10, .int), (k_12, .int)] s) (hP : va_P (dC, dI) classes [oc h0 6 [.null, .null, .ref q_1, .ref q_3, .ref q_5, .ref q_7, .ref q_9, .null, .null, .null, .null, .null, .null, .null, .null, .int p0, .int p1], ia q_1 k_2 7 (fun _ => 0), ia q_3 k_4 4 (fun _ => 0), ia q_5 k_6 3 (fun _ => 0), ia q_7 k_8 7 (fun _ => 0), ia q_9 k_10 7 (fun _ => 0), ia q_11 k_12 7 (fun _ => 0)] H1) hD1 hS
  replace hD : dd A [h0, q_1, q_3, q_5, q_7, q_9, q_11] := dd_of hD1 rfl
  clear hD1
  clear H
  revert H1
  intro H hP hS
  refine W.widen (k := 6) (n := 35) (by exact Nat.le_of_ble_eq_true rfl) (by exact Nat.le_of_ble_eq_true rfl) ?_
  refine tp_pc (pc' := 47) (by rfl) ?_
  refine va_putF (D := (dC, dI)) (ci := 6) (v := .ref q_11) (ty := .array .int) (C := R_GraphSearch) (T := F_GraphSearch) (N := 17) hx hb hw i_GraphSearch t_GraphSearch t_GraphSearch_ok n_GraphSearch hown hK hP (dd_D hD rfl) hS 0 rfl rfl 7 (by decide) (hw _ m_326) (fun _ h9 => h9) rfl hin rfl (by decide +kernel) rfl rfl (Nat.le_of_ble_eq_true rfl) d_GraphSearch_init_47 ?_
  clear hP hS locs H
  intro H locs (hP : va_P (dC, dI) classes [oc h0 6 [.null, .null, .ref q_1, .ref q_3, .ref q_5, .ref q_7, .ref q_9, .ref q_11, .null, .null, .null, .null, .null, .null, .null, .int p0, .int p1], ia q_1 k_2 7 (fun _ => 0), ia q_3 k_4 4 (fun _ => 0), ia q_5 k_6 3 (fun _ => 0), ia q_7 k_8 7 (fun _ => 0), ia q_9 k_10 7 (fun _ => 0), ia q_11 k_12 7 (fun _ => 0)] H) _ hS
  refine tp_pc (pc' := 50) (by rfl) ?_
  refine lv_aload_n hx hb d_GraphSearch_init_50 rfl (lv_at hl 0 rfl) ?_
  refine lv_bipush (v := 8) hx hb d_GraphSearch_init_51 (by decide) ?_
  refine va_newa (atype := .int) (a0 := (8, .inl (fun _ => 0))) (N' := 8) hx hb (hw _ m_196) rfl hK hP (dd_D hD rfl) hS hA (fun _ => rfl) (by decide) (by decide) (Nat.le_of_ble_eq_true rfl) (Nat.le_of_ble_eq_true rfl) (Nat.le_of_ble_eq_true rfl) d_GraphSearch_init_53 ?_
  clear hP hS hK
  intro q_13 k_14 H1 (hK : va_K (dC, dI) classes [(k_2, .int), (k_4, .int), (k_6, .int), (k_8, .int), (k_10, .int), (k_12, .int), (k_14, .int)] s) (hP : va_P (dC, dI) classes [oc h0 6 [.null, .null, .ref q_1, .ref q_3, .ref q_5, .ref q_7, .ref q_9, .ref q_11, .null, .null, .null, .null, .null, .null, .null, .int p0, .int p1], ia q_1 k_2 7 (fun _ => 0), ia q_3 k_4 4 (fun _ => 0), ia q_5 k_6 3 (fun _ => 0), ia q_7 k_8 7 (fun _ => 0), ia q_9 k_10 7 (fun _ => 0), ia q_11 k_12 7 (fun _ => 0), ia q_13 k_14 8 (fun _ => 0)] H1) hD1 hS
  replace hD : dd A [h0, q_1, q_3, q_5, q_7, q_9, q_11, q_13] := dd_of hD1 rfl
  clear hD1
  clear H
  revert H1
  intro H hP hS
  refine W.widen (k := 7) (n := 43) (by exact Nat.le_of_ble_eq_true rfl) (by exact Nat.le_of_ble_eq_true rfl) ?_
  refine tp_pc (pc' := 55) (by rfl) ?_
  refine va_putF (D := (dC, dI)) (ci := 6) (v := .ref q_13) (ty := .array .int) (C := R_GraphSearch) (T := F_GraphSearch) (N := 17) hx hb hw i_GraphSearch t_GraphSearch t_GraphSearch_ok n_GraphSearch hown hK hP (dd_D hD rfl) hS 0 rfl rfl 8 (by decide) (hw _ m_327) (fun _ h9 => h9) rfl hin rfl (by decide +kernel) rfl rfl (Nat.le_of_ble_eq_true rfl) d_GraphSearch_init_55 ?_
  clear hP hS locs H
  intro H locs (hP : va_P (dC, dI) classes [oc h0 6 [.null, .null, .ref q_1, .ref q_3, .ref q_5, .ref q_7, .ref q_9, .ref q_11, .ref q_13, .null, .null, .null, .null, .null, .null, .int p0, .int p1], ia q_1 k_2 7 (fun _ => 0), ia q_3 k_4 4 (fun _ => 0), ia q_5 k_6 3 (fun _ => 0), ia q_7 k_8 7 (fun _ => 0), ia q_9 k_10 7 (fun _ => 0), ia q_11 k_12 7 (fun _ => 0), ia q_13 k_14 8 (fun _ => 0)] H) _ hS
  refine tp_pc (pc' := 58) (by rfl) ?_
  refine lv_aload_n hx hb d_GraphSearch_init_58 rfl (lv_at hl 0 rfl) ?_
  refine lv_iconst (v := 4) hx hb d_GraphSearch_init_59 (by decide) ?_
  refine va_newa (atype := .int) (a0 := (4, .inl (fun _ => 0))) (N' := 4) hx hb (hw _ m_196) rfl hK hP (dd_D hD rfl) hS hA (fun _ => rfl) (by decide) (by decide) (Nat.le_of_ble_eq_true rfl) (Nat.le_of_ble_eq_true rfl) (Nat.le_of_ble_eq_true rfl) d_GraphSearch_init_60 ?_
  clear hP hS hK
  intro q_15 k_16 H1 (hK : va_K (dC, dI) classes [(k_2, .int), (k_4, .int), (k_6, .int), (k_8, .int), (k_10, .int), (k_12, .int), (k_14, .int), (k_16, .int)] s) (hP : va_P (dC, dI) classes [oc h0 6 [.null, .null, .ref q_1, .ref q_3, .ref q_5, .ref q_7, .ref q_9, .ref q_11, .ref q_13, .null, .null, .null, .null, .null, .null, .int p0, .int p1], ia q_1 k_2 7 (fun _ => 0), ia q_3 k_4 4 (fun _ => 0), ia q_5 k_6 3 (fun _ => 0), ia q_7 k_8 7 (fun _ => 0), ia q_9 k_10 7 (fun _ => 0), ia q_11 k_12 7 (fun _ => 0), ia q_13 k_14 8 (fun _ => 0), ia q_15 k_16 4 (fun _ => 0)] H1) hD1 hS
  replace hD : dd A [h0, q_1, q_3, q_5, q_7, q_9, q_11, q_13, q_15] := dd_of hD1 rfl
  clear hD1
  clear H
  revert H1
  intro H hP hS
  refine W.widen (k := 8) (n := 47) (by exact Nat.le_of_ble_eq_true rfl) (by exact Nat.le_of_ble_eq_true rfl) ?_
  refine tp_pc (pc' := 62) (by rfl) ?_
  refine va_putF (D := (dC, dI)) (ci := 6) (v := .ref q_15) (ty := .array .int) (C := R_GraphSearch) (T := F_GraphSearch) (N := 17) hx hb hw i_GraphSearch t_GraphSearch t_GraphSearch_ok n_GraphSearch hown hK hP (dd_D hD rfl) hS 0 rfl rfl 9 (by decide) (hw _ m_328) (fun _ h9 => h9) rfl hin rfl (by decide +kernel) rfl rfl (Nat.le_of_ble_eq_true rfl) d_GraphSearch_init_62 ?_
  clear hP hS locs H
  intro H locs (hP : va_P (dC, dI) classes [oc h0 6 [.null, .null, .ref q_1, .ref q_3, .ref q_5, .ref q_7, .ref q_9, .ref q_11, .ref q_13, .ref q_15, .null, .null, .null, .null, .null, .int p0, .int p1], ia q_1 k_2 7 (fun _ => 0), ia q_3 k_4 4 (fun _ => 0), ia q_5 k_6 3 (fun _ => 0), ia q_7 k_8 7 (fun _ => 0), ia q_9 k_10 7 (fun _ => 0), ia q_11 k_12 7 (fun _ => 0), ia q_13 k_14 8 (fun _ => 0), ia q_15 k_16 4 (fun _ => 0)] H) _ hS
  refine tp_pc (pc' := 65) (by rfl) ?_
  refine lv_aload_n hx hb d_GraphSearch_init_65 rfl (lv_at hl 0 rfl) ?_
  refine lv_iconst (v := 4) hx hb d_GraphSearch_init_66 (by decide) ?_
  refine va_newa (atype := .int) (a0 := (4, .inl (fun _ => 0))) (N' := 4) hx hb (hw _ m_196) rfl hK hP (dd_D hD rfl) hS hA (fun _ => rfl) (by decide) (by decide) (Nat.le_of_ble_eq_true rfl) (Nat.le_of_ble_eq_true rfl) (Nat.le_of_ble_eq_true rfl) d_GraphSearch_init_67 ?_
  clear hP hS hK
  intro q_17 k_18 H1 (hK : va_K (dC, dI) classes [(k_2, .int), (k_4, .int), (k_6, .int), (k_8, .int), (k_10, .int), (k_12, .int), (k_14, .int), (k_16, .int), (k_18, .int)] s) (hP : va_P (dC, dI) classes [oc h0 6 [.null, .null, .ref q_1, .ref q_3, .ref q_5, .ref q_7, .ref q_9, .ref q_11, .ref q_13, .ref q_15, .null, .null, .null, .null, .null, .int p0, .int p1], ia q_1 k_2 7 (fun _ => 0), ia q_3 k_4 4 (fun _ => 0), ia q_5 k_6 3 (fun _ => 0), ia q_7 k_8 7 (fun _ => 0), ia q_9 k_10 7 (fun _ => 0), ia q_11 k_12 7 (fun _ => 0), ia q_13 k_14 8 (fun _ => 0), ia q_15 k_16 4 (fun _ => 0), ia q_17 k_18 4 (fun _ => 0)] H1) hD1 hS
  replace hD : dd A [h0, q_1, q_3, q_5, q_7, q_9, q_11, q_13, q_15, q_17] := dd_of hD1 rfl
  clear hD1
  clear H
  revert H1
  intro H hP hS
  refine W.widen (k := 9) (n := 51) (by exact Nat.le_of_ble_eq_true rfl) (by exact Nat.le_of_ble_eq_true rfl) ?_
  refine tp_pc (pc' := 69) (by rfl) ?_
  refine va_putF (D := (dC, dI)) (ci := 6) (v := .ref q_17) (ty := .array .int) (C := R_GraphSearch) (T := F_GraphSearch) (N := 17) hx hb hw i_GraphSearch t_GraphSearch t_GraphSearch_ok n_GraphSearch hown hK hP (dd_D hD rfl) hS 0 rfl rfl 10 (by decide) (hw _ m_329) (fun _ h9 => h9) rfl hin rfl (by decide +kernel) rfl rfl (Nat.le_of_ble_eq_true rfl) d_GraphSearch_init_69 ?_
  clear hP hS locs H
  intro H locs (hP : va_P (dC, dI) classes [oc h0 6 [.null, .null, .ref q_1, .ref q_3, .ref q_5, .ref q_7, .ref q_9, .ref q_11, .ref q_13, .ref q_15, .ref q_17, .null, .null, .null, .null, .int p0, .int p1], ia q_1 k_2 7 (fun _ => 0), ia q_3 k_4 4 (fun _ => 0), ia q_5 k_6 3 (fun _ => 0), ia q_7 k_8 7 (fun _ => 0), ia q_9 k_10 7 (fun _ => 0), ia q_11 k_12 7 (fun _ => 0), ia q_13 k_14 8 (fun _ => 0), ia q_15 k_16 4 (fun _ => 0), ia q_17 k_18 4 (fun _ => 0)] H) _ hS
  refine tp_pc (pc' := 72) (by rfl) ?_
  refine lv_aload_n hx hb d_GraphSearch_init_72 rfl (lv_at hl 0 rfl) ?_
  refine lv_bipush (v := 7) hx hb d_GraphSearch_init_73 (by decide) ?_
  refine va_newa (atype := .int) (a0 := (7, .inl (fun _ => 0))) (N' := 7) hx hb (hw _ m_196) rfl hK hP (dd_D hD rfl) hS hA (fun _ => rfl) (by decide) (by decide) (Nat.le_of_ble_eq_true rfl) (Nat.le_of_ble_eq_true rfl) (Nat.le_of_ble_eq_true rfl) d_GraphSearch_init_75 ?_
  clear hP hS hK
  intro q_19 k_20 H1 (hK : va_K (dC, dI) classes [(k_2, .int), (k_4, .int), (k_6, .int), (k_8, .int), (k_10, .int), (k_12, .int), (k_14, .int), (k_16, .int), (k_18, .int), (k_20, .int)] s) (hP : va_P (dC, dI) classes [oc h0 6 [.null, .null, .ref q_1, .ref q_3, .ref q_5, .ref q_7, .ref q_9, .ref q_11, .ref q_13, .ref q_15, .ref q_17, .null, .null, .null, .null, .int p0, .int p1], ia q_1 k_2 7 (fun _ => 0), ia q_3 k_4 4 (fun _ => 0), ia q_5 k_6 3 (fun _ => 0), ia q_7 k_8 7 (fun _ => 0), ia q_9 k_10 7 (fun _ => 0), ia q_11 k_12 7 (fun _ => 0), ia q_13 k_14 8 (fun _ => 0), ia q_15 k_16 4 (fun _ => 0), ia q_17 k_18 4 (fun _ => 0), ia q_19 k_20 7 (fun _ => 0)] H1) hD1 hS
  replace hD : dd A [h0, q_1, q_3, q_5, q_7, q_9, q_11, q_13, q_15, q_17, q_19] := dd_of hD1 rfl
  clear hD1
  clear H
  revert H1
  intro H hP hS
  refine W.widen (k := 10) (n := 58) (by exact Nat.le_of_ble_eq_true rfl) (by exact Nat.le_of_ble_eq_true rfl) ?_
  refine tp_pc (pc' := 77) (by rfl) ?_
  refine va_putF (D := (dC, dI)) (ci := 6) (v := .ref q_19) (ty := .array .int) (C := R_GraphSearch) (T := F_GraphSearch) (N := 17) hx hb hw i_GraphSearch t_GraphSearch t_GraphSearch_ok n_GraphSearch hown hK hP (dd_D hD rfl) hS 0 rfl rfl 11 (by decide) (hw _ m_330) (fun _ h9 => h9) rfl hin rfl (by decide +kernel) rfl rfl (Nat.le_of_ble_eq_true rfl) d_GraphSearch_init_77 ?_
  clear hP hS locs H
  intro H locs (hP : va_P (dC, dI) classes [oc h0 6 [.null, .null, .ref q_1, .ref q_3, .ref q_5, .ref q_7, .ref q_9, .ref q_11, .ref q_13, .ref q_15, .ref q_17, .ref q_19, .null, .null, .null, .int p0, .int p1], ia q_1 k_2 7 (fun _ => 0), ia q_3 k_4 4 (fun _ => 0), ia q_5 k_6 3 (fun _ => 0), ia q_7 k_8 7 (fun _ => 0), ia q_9 k_10 7 (fun _ => 0), ia q_11 k_12 7 (fun _ => 0), ia q_13 k_14 8 (fun _ => 0), ia q_15 k_16 4 (fun _ => 0), ia q_17 k_18 4 (fun _ => 0), ia q_19 k_20 7 (fun _ => 0)] H) _ hS
  refine tp_pc (pc' := 80) (by rfl) ?_
  refine lv_aload_n hx hb d_GraphSearch_init_80 rfl (lv_at hl 0 rfl) ?_
  refine lv_bipush (v := 7) hx hb d_GraphSearch_init_81 (by decide) ?_
  refine va_newa (atype := .int) (a0 := (7, .inl (fun _ => 0))) (N' := 7) hx hb (hw _ m_196) rfl hK hP (dd_D hD rfl) hS hA (fun _ => rfl) (by decide) (by decide) (Nat.le_of_ble_eq_true rfl) (Nat.le_of_ble_eq_true rfl) (Nat.le_of_ble_eq_true rfl) d_GraphSearch_init_83 ?_
  clear hP hS hK
  intro q_21 k_22 H1 (hK : va_K (dC, dI) classes [(k_2, .int), (k_4, .int), (k_6, .int), (k_8, .int), (k_10, .int), (k_12, .int), (k_14, .int), (k_16, .int), (k_18, .int), (k_20, .int), (k_22, .int)] s) (hP : va_P (dC, dI) classes [oc h0 6 [.null, .null, .ref q_1, .ref q_3, .ref q_5, .ref q_7, .ref q_9, .ref q_11, .ref q_13, .ref q_15, .ref q_17, .ref q_19, .null, .null, .null, .int p0, .int p1], ia q_1 k_2 7 (fun _ => 0), ia q_3 k_4 4 (fun _ => 0), ia q_5 k_6 3 (fun _ => 0), ia q_7 k_8 7 (fun _ => 0), ia q_9 k_10 7 (fun _ => 0), ia q_11 k_12 7 (fun _ => 0), ia q_13 k_14 8 (fun _ => 0), ia q_15 k_16 4 (fun _ => 0), ia q_17 k_18 4 (fun _ => 0), ia q_19 k_20 7 (fun _ => 0), ia q_21 k_22 7 (fun _ => 0)] H1) hD1 hS
  replace hD : dd A [h0, q_1, q_3, q_5, q_7, q_9, q_11, q_13, q_15, q_17, q_19, q_21] := dd_of hD1 rfl
  clear hD1
  clear H
  revert H1
  intro H hP hS
  refine W.widen (k := 11) (n := 65) (by exact Nat.le_of_ble_eq_true rfl) (by exact Nat.le_of_ble_eq_true rfl) ?_
  refine tp_pc (pc' := 85) (by rfl) ?_
  refine va_putF (D := (dC, dI)) (ci := 6) (v := .ref q_21) (ty := .array .int) (C := R_GraphSearch) (T := F_GraphSearch) (N := 17) hx hb hw i_GraphSearch t_GraphSearch t_GraphSearch_ok n_GraphSearch hown hK hP (dd_D hD rfl) hS 0 rfl rfl 12 (by decide) (hw _ m_331) (fun _ h9 => h9) rfl hin rfl (by decide +kernel) rfl rfl (Nat.le_of_ble_eq_true rfl) d_GraphSearch_init_85 ?_
  clear hP hS locs H
  intro H locs (hP : va_P (dC, dI) classes [oc h0 6 [.null, .null, .ref q_1, .ref q_3, .ref q_5, .ref q_7, .ref q_9, .ref q_11, .ref q_13, .ref q_15, .ref q_17, .ref q_19, .ref q_21, .null, .null, .int p0, .int p1], ia q_1 k_2 7 (fun _ => 0), ia q_3 k_4 4 (fun _ => 0), ia q_5 k_6 3 (fun _ => 0), ia q_7 k_8 7 (fun _ => 0), ia q_9 k_10 7 (fun _ => 0), ia q_11 k_12 7 (fun _ => 0), ia q_13 k_14 8 (fun _ => 0), ia q_15 k_16 4 (fun _ => 0), ia q_17 k_18 4 (fun _ => 0), ia q_19 k_20 7 (fun _ => 0), ia q_21 k_22 7 (fun _ => 0)] H) _ hS
  refine tp_pc (pc' := 88) (by rfl) ?_
  refine lv_aload_n hx hb d_GraphSearch_init_88 rfl (lv_at hl 0 rfl) ?_
  refine lv_bipush (v := 7) hx hb d_GraphSearch_init_89 (by decide) ?_
  refine va_newa (atype := .int) (a0 := (7, .inl (fun _ => 0))) (N' := 7) hx hb (hw _ m_196) rfl hK hP (dd_D hD rfl) hS hA (fun _ => rfl) (by decide) (by decide) (Nat.le_of_ble_eq_true rfl) (Nat.le_of_ble_eq_true rfl) (Nat.le_of_ble_eq_true rfl) d_GraphSearch_init_91 ?_
  clear hP hS hK
  intro q_23 k_24 H1 (hK : va_K (dC, dI) classes [(k_2, .int), (k_4, .int), (k_6, .int), (k_8, .int), (k_10, .int), (k_12, .int), (k_14, .int), (k_16, .int), (k_18, .int), (k_20, .int), (k_22, .int), (k_24, .int)] s) (hP : va_P (dC, dI) classes [oc h0 6 [.null, .null, .ref q_1, .ref q_3, .ref q_5, .ref q_7, .ref q_9, .ref q_11, .ref q_13, .ref q_15, .ref q_17, .ref q_19, .ref q_21, .null, .null, .int p0, .int p1], ia q_1 k_2 7 (fun _ => 0), ia q_3 k_4 4 (fun _ => 0), ia q_5 k_6 3 (fun _ => 0), ia q_7 k_8 7 (fun _ => 0), ia q_9 k_10 7 (fun _ => 0), ia q_11 k_12 7 (fun _ => 0), ia q_13 k_14 8 (fun _ => 0), ia q_15 k_16 4 (fun _ => 0), ia q_17 k_18 4 (fun _ => 0), ia q_19 k_20 7 (fun _ => 0), ia q_21 k_22 7 (fun _ => 0), ia q_23 k_24 7 (fun _ => 0)] H1) hD1 hS
  replace hD : dd A [h0, q_1, q_3, q_5, q_7, q_9, q_11, q_13, q_15, q_17, q_19, q_21, q_23] := dd_of hD1 rfl
  clear hD1
  clear H
  revert H1
  intro H hP hS
  refine W.widen (k := 12) (n := 72) (by exact Nat.le_of_ble_eq_true rfl) (by exact Nat.le_of_ble_eq_true rfl) ?_
  refine tp_pc (pc' := 93) (by rfl) ?_
  refine va_putF (D := (dC, dI)) (ci := 6) (v := .ref q_23) (ty := .array .int) (C := R_GraphSearch) (T := F_GraphSearch) (N := 17) hx hb hw i_GraphSearch t_GraphSearch t_GraphSearch_ok n_GraphSearch hown hK hP (dd_D hD rfl) hS 0 rfl rfl 13 (by decide) (hw _ m_332) (fun _ h9 => h9) rfl hin rfl (by decide +kernel) rfl rfl (Nat.le_of_ble_eq_true rfl) d_GraphSearch_init_93 ?_
  clear hP hS locs H
  intro H locs (hP : va_P (dC, dI) classes [oc h0 6 [.null, .null, .ref q_1, .ref q_3, .ref q_5, .ref q_7, .ref q_9, .ref q_11, .ref q_13, .ref q_15, .ref q_17, .ref q_19, .ref q_21, .ref q_23, .null, .int p0, .int p1], ia q_1 k_2 7 (fun _ => 0), ia q_3 k_4 4 (fun _ => 0), ia q_5 k_6 3 (fun _ => 0), ia q_7 k_8 7 (fun _ => 0), ia q_9 k_10 7 (fun _ => 0), ia q_11 k_12 7 (fun _ => 0), ia q_13 k_14 8 (fun _ => 0), ia q_15 k_16 4 (fun _ => 0), ia q_17 k_18 4 (fun _ => 0), ia q_19 k_20 7 (fun _ => 0), ia q_21 k_22 7 (fun _ => 0), ia q_23 k_24 7 (fun _ => 0)] H) _ hS
  refine tp_pc (pc' := 96) (by rfl) ?_
  refine lv_aload_n hx hb d_GraphSearch_init_96 rfl (lv_at hl 0 rfl) ?_
  refine lv_aload_n hx hb d_GraphSearch_init_97 rfl (lv_at hl 1 rfl) ?_
  refine va_putF (D := (dC, dI)) (ci := 6) (v := .ref h1) (ty := .object "OrderModels$Program") (C := R_GraphSearch) (T := F_GraphSearch) (N := 17) hx hb hw i_GraphSearch t_GraphSearch t_GraphSearch_ok n_GraphSearch hown hK hP (dd_D hD rfl) hS 0 rfl rfl 0 (by decide) (hw _ m_319) (fun _ h9 => h9) rfl hin rfl (by decide +kernel) rfl rfl (Nat.le_of_ble_eq_true rfl) d_GraphSearch_init_98 ?_
  clear hP hS locs H
  intro H locs (hP : va_P (dC, dI) classes [oc h0 6 [.ref h1, .null, .ref q_1, .ref q_3, .ref q_5, .ref q_7, .ref q_9, .ref q_11, .ref q_13, .ref q_15, .ref q_17, .ref q_19, .ref q_21, .ref q_23, .null, .int p0, .int p1], ia q_1 k_2 7 (fun _ => 0), ia q_3 k_4 4 (fun _ => 0), ia q_5 k_6 3 (fun _ => 0), ia q_7 k_8 7 (fun _ => 0), ia q_9 k_10 7 (fun _ => 0), ia q_11 k_12 7 (fun _ => 0), ia q_13 k_14 8 (fun _ => 0), ia q_15 k_16 4 (fun _ => 0), ia q_17 k_18 4 (fun _ => 0), ia q_19 k_20 7 (fun _ => 0), ia q_21 k_22 7 (fun _ => 0), ia q_23 k_24 7 (fun _ => 0)] H) _ hS
  refine tp_pc (pc' := 101) (by rfl) ?_
  refine lv_aload_n hx hb d_GraphSearch_init_101 rfl (lv_at hl 0 rfl) ?_
  refine lv_aload_n hx hb d_GraphSearch_init_102 rfl (lv_at hl 2 rfl) ?_
  refine va_putF (D := (dC, dI)) (ci := 6) (v := .ref h2) (ty := .object "OrderModels$Progress") (C := R_GraphSearch) (T := F_GraphSearch) (N := 17) hx hb hw i_GraphSearch t_GraphSearch t_GraphSearch_ok n_GraphSearch hown hK hP (dd_D hD rfl) hS 0 rfl rfl 1 (by decide) (hw _ m_320) (fun _ h9 => h9) rfl hin rfl (by decide +kernel) rfl rfl (Nat.le_of_ble_eq_true rfl) d_GraphSearch_init_103 ?_
  clear hP hS locs H
  intro H locs (hP : va_P (dC, dI) classes [oc h0 6 [.ref h1, .ref h2, .ref q_1, .ref q_3, .ref q_5, .ref q_7, .ref q_9, .ref q_11, .ref q_13, .ref q_15, .ref q_17, .ref q_19, .ref q_21, .ref q_23, .null, .int p0, .int p1], ia q_1 k_2 7 (fun _ => 0), ia q_3 k_4 4 (fun _ => 0), ia q_5 k_6 3 (fun _ => 0), ia q_7 k_8 7 (fun _ => 0), ia q_9 k_10 7 (fun _ => 0), ia q_11 k_12 7 (fun _ => 0), ia q_13 k_14 8 (fun _ => 0), ia q_15 k_16 4 (fun _ => 0), ia q_17 k_18 4 (fun _ => 0), ia q_19 k_20 7 (fun _ => 0), ia q_21 k_22 7 (fun _ => 0), ia q_23 k_24 7 (fun _ => 0)] H) _ hS
  refine tp_pc (pc' := 106) (by rfl) ?_
  obtain ⟨hP9, hD9, -⟩ := cut3 (wc := [oc h0 6 [.ref h1, .ref h2, .ref q_1, .ref q_3, .ref q_5, .ref q_7, .ref q_9, .ref q_11, .ref q_13, .ref q_15, .ref q_17, .ref q_19, .ref q_21, .ref q_23, .null, .int p0, .int p1], ia q_1 k_2 7 (fun _ => 0), ia q_3 k_4 4 (fun _ => 0), ia q_5 k_6 3 (fun _ => 0), ia q_7 k_8 7 (fun _ => 0), ia q_9 k_10 7 (fun _ => 0), ia q_11 k_12 7 (fun _ => 0), ia q_13 k_14 8 (fun _ => 0), ia q_15 k_16 4 (fun _ => 0), ia q_17 k_18 4 (fun _ => 0), ia q_19 k_20 7 (fun _ => 0), ia q_21 k_22 7 (fun _ => 0), ia q_23 k_24 7 (fun _ => 0)]) hP hD rfl hS hA [0, 1, 2, 3, 4, 5, 6, 7, 8, 9, 10, 11, 12] (by decide +kernel) rfl
  have hK9 := hK.sub (tys' := [(k_2, .int), (k_4, .int), (k_6, .int), (k_8, .int), (k_10, .int), (k_12, .int), (k_14, .int), (k_16, .int), (k_18, .int), (k_20, .int), (k_22, .int), (k_24, .int)]) [0, 1, 2, 3, 4, 5, 6, 7, 8, 9, 10, 11] rfl
  refine W.widen (k := 12) (n := 72) (by exact Nat.le_of_ble_eq_true rfl) (by exact Nat.le_of_ble_eq_true rfl) ?_
  exact W.vret hx hb hr (fun t ht hW => ⟨⟨(), rfl, trivial, q_1, q_3, q_5, q_7, q_9, q_11, q_13, q_15, q_17, q_19, q_21, q_23, k_2, k_4, k_6, k_8, k_10, k_12, k_14, k_16, k_18, k_20, k_22, k_24, by rw [ht]; exact hP9, va_K.moved hW.alike hK9, hD9⟩, hS.F ht⟩) hS.2.2 d_GraphSearch_init_106
set_option maxHeartbeats 4000000 in
set_option maxRecDepth 100000 in
theorem c_OutcomeSet_init (l : Launch) (dC : Nat → ClassId) (dI : Nat → Nat → Nat) (h0 : Nat) (p0 : Int32) (p1 : Int32) (p2 : Int32) (p3 : Int32) (p4 : Int32) (sz : Nat) : Met l y_OutcomeSet_init w_OutcomeSet_init ({ frames := 1, cells := 5, slots := 0, locals := 12 }) (va_Pc [.ref h0, .int p0] (fun U => U.heap.size = sz ∧ va_P (dC, dI) classes [oc h0 3 [.int p1, .null, .null, .null, .null, .null, .int p2, .int p3, .int p4]] U.heap ∧ va_K (dC, dI) classes [] U ∧ va_D (fun _ => True) [oc h0 3 [.int p1, .null, .null, .null, .null, .null, .int p2, .int p3, .int p4]] ∧ nw U)) (va_Qv (fun _ : Unit => True) (fun _ t => ∃ (q_1 q_3 q_5 q_7 q_9 : Nat) (k_2 k_4 k_6 k_8 k_10 : ClassId), va_P (dC, dI) classes [oc h0 3 [.int p0, .ref q_1, .ref q_3, .ref q_5, .ref q_7, .ref q_9, .int p2, .int p3, .int p4], la q_1 k_2 0 (fun _ => 0), ia q_3 k_4 0 (fun _ => 0), ia q_5 k_6 0 (fun _ => 0), ia q_7 k_8 0 (fun _ => 0), ia q_9 k_10 0 (fun _ => 0)] t.heap ∧ va_K (dC, dI) classes [(k_2, .long), (k_4, .int), (k_6, .int), (k_8, .int), (k_10, .int)] t ∧ va_D (va_A [oc h0 3 [.int p1, .null, .null, .null, .null, .null, .int p2, .int p3, .int p4]] sz) [oc h0 3 [.int p0, .ref q_1, .ref q_3, .ref q_5, .ref q_7, .ref q_9, .int p2, .int p3, .int p4], la q_1 k_2 0 (fun _ => 0), ia q_3 k_4 0 (fun _ => 0), ia q_5 k_6 0 (fun _ => 0), ia q_7 k_8 0 (fun _ => 0), ia q_9 k_10 0 (fun _ => 0)]) (va_A [oc h0 3 [.int p1, .null, .null, .null, .null, .null, .int p2, .int p3, .int p4]] sz)) 5 0 (va_A [oc h0 3 [.int p1, .null, .null, .null, .null, .null, .int p2, .int p3, .int p4]] sz) := by
  refine Met.ofW (cc := b_OutcomeSet_init) (maxL := 2) (ret := none) (by decide) rfl ?_
  intro p e s m args below meth c s₁ B hml hv
  obtain ⟨rfl, hsz, hP, hK, hD0, hn⟩ := hv
  have hx := B.exec
  have hb := B.bytes
  have hr := B.returns
  have hw := fun w (h : w ∈ wt) => atoms_spec (ws := w_OutcomeSet_init) B.pre w (List.mem_cons_of_mem _ h)
  have hown : s.vm.findClass R_OutcomeSet = some m.cls := findClass_of_methodNamed B.named
  have hlocks := B.notSynchronized
  have hin : meth.name = "<init>" := (name_of_methodNamed B.named B.method).1
  subst hsz
  have hD1 := hD0.self (sz := s.heap.size)
  generalize hAe : va_A [oc h0 3 [.int p1, .null, .null, .null, .null, .null, .int p2, .int p3, .int p4]] s.heap.size = A at hD1 ⊢
  have hA : ∀ q : Nat, s.heap.size ≤ q → A q := fun q h => by rw [← hAe]; exact Or.inr h
  have hD : dd A [h0] := dd_of hD1 rfl
  clear hAe hD0 hD1
  have hS : va_S A s.heap s.heap [] := va_S.rf
  replace hP : va_P (dC, dI) classes [oc h0 3 [.int p1, .null, .null, .null, .null, .null, .int p2, .int p3, .int p4]] s.heap := hP
  have hl := lv_entry ([.ref h0, .int p0]) (n := 2) (Nat.le_of_ble_eq_true rfl)
  rw [lg_entry_eq]
  generalize (lg_sl ([.ref h0, .int p0]) ++ List.replicate (2 - (lg_sl ([.ref h0, .int p0])).length) Slot.unset).toArray = ls at hl ⊢
  replace hl : lv_has ls 2 [(0, .ref h0), (1, .int p0)] := hl
  refine lv_aload_n hx hb d_OutcomeSet_init_0 rfl (lv_at hl 0 rfl) ?_
  refine W.objInit hx hb hown (hw _ m_377) (hw _ m_120) (hw _ m_121) rfl (by rw [hml]; exact hl.1) rfl d_OutcomeSet_init_1 (Nat.le_of_ble_eq_true rfl) (Nat.le_of_ble_eq_true rfl) ?_
  refine W.eq (g2 := F0 m 4 ls []) rfl ?_
  refine lv_aload_n hx hb d_OutcomeSet_init_4 rfl (lv_at hl 0 rfl) ?_
  refine lv_iconst (v := 0) hx hb d_OutcomeSet_init_5 (by decide) ?_
  refine va_newa (atype := .long) (a0 := (0, .inr (.inl (fun _ => 0)))) (N' := 0) hx hb (hw _ m_243) rfl hK hP (dd_D hD rfl) hS hA (fun _ => rfl) (by decide) (by decide) (Nat.le_of_ble_eq_true rfl) (Nat.le_of_ble_eq_true rfl) (Nat.le_of_ble_eq_true rfl) d_OutcomeSet_init_6 ?_
  clear hP hS hK
  intro q_1 k_2 H1 (hK : va_K (dC, dI) classes [(k_2, .long)] s) (hP : va_P (dC, dI) classes [oc h0 3 [.int p1, .null, .null, .null, .null, .null, .int p2, .int p3, .int p4], la q_1 k_2 0 (fun _ => 0)] H1) hD1 hS
  replace hD : dd A [h0, q_1] := dd_of hD1 rfl
  clear hD1
  revert H1
  intro H hP hS
  refine W.widen (k := 1) (n := 0) (by exact Nat.le_of_ble_eq_true rfl) (by exact Nat.le_of_ble_eq_true rfl) ?_
  refine tp_pc (pc' := 8) (by rfl) ?_
  refine va_put (D := (dC, dI)) (ci := 3) (v := .ref q_1) (ty := .array .long) (C := R_OutcomeSet) (T := F_OutcomeSet) (N := 9) hx hb hw i_OutcomeSet t_OutcomeSet t_OutcomeSet_ok n_OutcomeSet hown hK hP (dd_D hD rfl) hS 0 rfl rfl 1 (by decide) (hw _ m_379) (fun _ h9 => h9) rfl (by decide +kernel) rfl rfl (Nat.le_of_ble_eq_true rfl) d_OutcomeSet_init_8 ?_
  clear hP hS H
  intro H locs (hP : va_P (dC, dI) classes [oc h0 3 [.int p1, .ref q_1, .null, .null, .null, .null, .int p2, .int p3, .int p4], la q_1 k_2 0 (fun _ => 0)] H) _ hS
  refine tp_pc (pc' := 11) (by rfl) ?_
  refine lv_aload_n hx hb d_OutcomeSet_init_11 rfl (lv_at hl 0 rfl) ?_
  refine lv_iconst (v := 0) hx hb d_OutcomeSet_init_12 (by decide) ?_
  refine va_newa (atype := .int) (a0 := (0, .inl (fun _ => 0))) (N' := 0) hx hb (hw _ m_196) rfl hK hP (dd_D hD rfl) hS hA (fun _ => rfl) (by decide) (by decide) (Nat.le_of_ble_eq_true rfl) (Nat.le_of_ble_eq_true rfl) (Nat.le_of_ble_eq_true rfl) d_OutcomeSet_init_13 ?_
  clear hP hS hK
  intro q_3 k_4 H1 (hK : va_K (dC, dI) classes [(k_2, .long), (k_4, .int)] s) (hP : va_P (dC, dI) classes [oc h0 3 [.int p1, .ref q_1, .null, .null, .null, .null, .int p2, .int p3, .int p4], la q_1 k_2 0 (fun _ => 0), ia q_3 k_4 0 (fun _ => 0)] H1) hD1 hS
  replace hD : dd A [h0, q_1, q_3] := dd_of hD1 rfl
  clear hD1
  clear H
  revert H1
  intro H hP hS
  refine W.widen (k := 2) (n := 0) (by exact Nat.le_of_ble_eq_true rfl) (by exact Nat.le_of_ble_eq_true rfl) ?_
  refine tp_pc (pc' := 15) (by rfl) ?_
  refine va_put (D := (dC, dI)) (ci := 3) (v := .ref q_3) (ty := .array .int) (C := R_OutcomeSet) (T := F_OutcomeSet) (N := 9) hx hb hw i_OutcomeSet t_OutcomeSet t_OutcomeSet_ok n_OutcomeSet hown hK hP (dd_D hD rfl) hS 0 rfl rfl 2 (by decide) (hw _ m_380) (fun _ h9 => h9) rfl (by decide +kernel) rfl rfl (Nat.le_of_ble_eq_true rfl) d_OutcomeSet_init_15 ?_
  clear hP hS locs H
  intro H locs (hP : va_P (dC, dI) classes [oc h0 3 [.int p1, .ref q_1, .ref q_3, .null, .null, .null, .int p2, .int p3, .int p4], la q_1 k_2 0 (fun _ => 0), ia q_3 k_4 0 (fun _ => 0)] H) _ hS
  refine tp_pc (pc' := 18) (by rfl) ?_
  refine lv_aload_n hx hb d_OutcomeSet_init_18 rfl (lv_at hl 0 rfl) ?_
  refine lv_iconst (v := 0) hx hb d_OutcomeSet_init_19 (by decide) ?_
  refine va_newa (atype := .int) (a0 := (0, .inl (fun _ => 0))) (N' := 0) hx hb (hw _ m_196) rfl hK hP (dd_D hD rfl) hS hA (fun _ => rfl) (by decide) (by decide) (Nat.le_of_ble_eq_true rfl) (Nat.le_of_ble_eq_true rfl) (Nat.le_of_ble_eq_true rfl) d_OutcomeSet_init_20 ?_
  clear hP hS hK
  intro q_5 k_6 H1 (hK : va_K (dC, dI) classes [(k_2, .long), (k_4, .int), (k_6, .int)] s) (hP : va_P (dC, dI) classes [oc h0 3 [.int p1, .ref q_1, .ref q_3, .null, .null, .null, .int p2, .int p3, .int p4], la q_1 k_2 0 (fun _ => 0), ia q_3 k_4 0 (fun _ => 0), ia q_5 k_6 0 (fun _ => 0)] H1) hD1 hS
  replace hD : dd A [h0, q_1, q_3, q_5] := dd_of hD1 rfl
  clear hD1
  clear H
  revert H1
  intro H hP hS
  refine W.widen (k := 3) (n := 0) (by exact Nat.le_of_ble_eq_true rfl) (by exact Nat.le_of_ble_eq_true rfl) ?_
  refine tp_pc (pc' := 22) (by rfl) ?_
  refine va_put (D := (dC, dI)) (ci := 3) (v := .ref q_5) (ty := .array .int) (C := R_OutcomeSet) (T := F_OutcomeSet) (N := 9) hx hb hw i_OutcomeSet t_OutcomeSet t_OutcomeSet_ok n_OutcomeSet hown hK hP (dd_D hD rfl) hS 0 rfl rfl 3 (by decide) (hw _ m_381) (fun _ h9 => h9) rfl (by decide +kernel) rfl rfl (Nat.le_of_ble_eq_true rfl) d_OutcomeSet_init_22 ?_
  clear hP hS locs H
  intro H locs (hP : va_P (dC, dI) classes [oc h0 3 [.int p1, .ref q_1, .ref q_3, .ref q_5, .null, .null, .int p2, .int p3, .int p4], la q_1 k_2 0 (fun _ => 0), ia q_3 k_4 0 (fun _ => 0), ia q_5 k_6 0 (fun _ => 0)] H) _ hS
  refine tp_pc (pc' := 25) (by rfl) ?_
  refine lv_aload_n hx hb d_OutcomeSet_init_25 rfl (lv_at hl 0 rfl) ?_
  refine lv_iconst (v := 0) hx hb d_OutcomeSet_init_26 (by decide) ?_
  refine va_newa (atype := .int) (a0 := (0, .inl (fun _ => 0))) (N' := 0) hx hb (hw _ m_196) rfl hK hP (dd_D hD rfl) hS hA (fun _ => rfl) (by decide) (by decide) (Nat.le_of_ble_eq_true rfl) (Nat.le_of_ble_eq_true rfl) (Nat.le_of_ble_eq_true rfl) d_OutcomeSet_init_27 ?_
  clear hP hS hK
  intro q_7 k_8 H1 (hK : va_K (dC, dI) classes [(k_2, .long), (k_4, .int), (k_6, .int), (k_8, .int)] s) (hP : va_P (dC, dI) classes [oc h0 3 [.int p1, .ref q_1, .ref q_3, .ref q_5, .null, .null, .int p2, .int p3, .int p4], la q_1 k_2 0 (fun _ => 0), ia q_3 k_4 0 (fun _ => 0), ia q_5 k_6 0 (fun _ => 0), ia q_7 k_8 0 (fun _ => 0)] H1) hD1 hS
  replace hD : dd A [h0, q_1, q_3, q_5, q_7] := dd_of hD1 rfl
  clear hD1
  clear H
  revert H1
  intro H hP hS
  refine W.widen (k := 4) (n := 0) (by exact Nat.le_of_ble_eq_true rfl) (by exact Nat.le_of_ble_eq_true rfl) ?_
  refine tp_pc (pc' := 29) (by rfl) ?_
  refine va_put (D := (dC, dI)) (ci := 3) (v := .ref q_7) (ty := .array .int) (C := R_OutcomeSet) (T := F_OutcomeSet) (N := 9) hx hb hw i_OutcomeSet t_OutcomeSet t_OutcomeSet_ok n_OutcomeSet hown hK hP (dd_D hD rfl) hS 0 rfl rfl 4 (by decide) (hw _ m_382) (fun _ h9 => h9) rfl (by decide +kernel) rfl rfl (Nat.le_of_ble_eq_true rfl) d_OutcomeSet_init_29 ?_
  clear hP hS locs H
  intro H locs (hP : va_P (dC, dI) classes [oc h0 3 [.int p1, .ref q_1, .ref q_3, .ref q_5, .ref q_7, .null, .int p2, .int p3, .int p4], la q_1 k_2 0 (fun _ => 0), ia q_3 k_4 0 (fun _ => 0), ia q_5 k_6 0 (fun _ => 0), ia q_7 k_8 0 (fun _ => 0)] H) _ hS
  refine tp_pc (pc' := 32) (by rfl) ?_
  refine lv_aload_n hx hb d_OutcomeSet_init_32 rfl (lv_at hl 0 rfl) ?_
  refine lv_iconst (v := 0) hx hb d_OutcomeSet_init_33 (by decide) ?_
  refine va_newa (atype := .int) (a0 := (0, .inl (fun _ => 0))) (N' := 0) hx hb (hw _ m_196) rfl hK hP (dd_D hD rfl) hS hA (fun _ => rfl) (by decide) (by decide) (Nat.le_of_ble_eq_true rfl) (Nat.le_of_ble_eq_true rfl) (Nat.le_of_ble_eq_true rfl) d_OutcomeSet_init_34 ?_
  clear hP hS hK
  intro q_9 k_10 H1 (hK : va_K (dC, dI) classes [(k_2, .long), (k_4, .int), (k_6, .int), (k_8, .int), (k_10, .int)] s) (hP : va_P (dC, dI) classes [oc h0 3 [.int p1, .ref q_1, .ref q_3, .ref q_5, .ref q_7, .null, .int p2, .int p3, .int p4], la q_1 k_2 0 (fun _ => 0), ia q_3 k_4 0 (fun _ => 0), ia q_5 k_6 0 (fun _ => 0), ia q_7 k_8 0 (fun _ => 0), ia q_9 k_10 0 (fun _ => 0)] H1) hD1 hS
  replace hD : dd A [h0, q_1, q_3, q_5, q_7, q_9] := dd_of hD1 rfl
  clear hD1
  clear H
  revert H1
  intro H hP hS
  refine W.widen (k := 5) (n := 0) (by exact Nat.le_of_ble_eq_true rfl) (by exact Nat.le_of_ble_eq_true rfl) ?_
  refine tp_pc (pc' := 36) (by rfl) ?_
  refine va_put (D := (dC, dI)) (ci := 3) (v := .ref q_9) (ty := .array .int) (C := R_OutcomeSet) (T := F_OutcomeSet) (N := 9) hx hb hw i_OutcomeSet t_OutcomeSet t_OutcomeSet_ok n_OutcomeSet hown hK hP (dd_D hD rfl) hS 0 rfl rfl 5 (by decide) (hw _ m_383) (fun _ h9 => h9) rfl (by decide +kernel) rfl rfl (Nat.le_of_ble_eq_true rfl) d_OutcomeSet_init_36 ?_
  clear hP hS locs H
  intro H locs (hP : va_P (dC, dI) classes [oc h0 3 [.int p1, .ref q_1, .ref q_3, .ref q_5, .ref q_7, .ref q_9, .int p2, .int p3, .int p4], la q_1 k_2 0 (fun _ => 0), ia q_3 k_4 0 (fun _ => 0), ia q_5 k_6 0 (fun _ => 0), ia q_7 k_8 0 (fun _ => 0), ia q_9 k_10 0 (fun _ => 0)] H) _ hS
  refine tp_pc (pc' := 39) (by rfl) ?_
  refine lv_aload_n hx hb d_OutcomeSet_init_39 rfl (lv_at hl 0 rfl) ?_
  refine lv_iload_n hx hb d_OutcomeSet_init_40 rfl (lv_at hl 1 rfl) ?_
  refine va_putF (D := (dC, dI)) (ci := 3) (v := .int p0) (ty := .int) (C := R_OutcomeSet) (T := F_OutcomeSet) (N := 9) hx hb hw i_OutcomeSet t_OutcomeSet t_OutcomeSet_ok n_OutcomeSet hown hK hP (dd_D hD rfl) hS 0 rfl rfl 0 (by decide) (hw _ m_378) (fun _ h9 => h9) rfl hin rfl (by decide +kernel) rfl rfl (Nat.le_of_ble_eq_true rfl) d_OutcomeSet_init_41 ?_
  clear hP hS locs H
  intro H locs (hP : va_P (dC, dI) classes [oc h0 3 [.int p0, .ref q_1, .ref q_3, .ref q_5, .ref q_7, .ref q_9, .int p2, .int p3, .int p4], la q_1 k_2 0 (fun _ => 0), ia q_3 k_4 0 (fun _ => 0), ia q_5 k_6 0 (fun _ => 0), ia q_7 k_8 0 (fun _ => 0), ia q_9 k_10 0 (fun _ => 0)] H) _ hS
  refine tp_pc (pc' := 44) (by rfl) ?_
  obtain ⟨hP9, hD9, -⟩ := cut3 (wc := [oc h0 3 [.int p0, .ref q_1, .ref q_3, .ref q_5, .ref q_7, .ref q_9, .int p2, .int p3, .int p4], la q_1 k_2 0 (fun _ => 0), ia q_3 k_4 0 (fun _ => 0), ia q_5 k_6 0 (fun _ => 0), ia q_7 k_8 0 (fun _ => 0), ia q_9 k_10 0 (fun _ => 0)]) hP hD rfl hS hA [0, 1, 2, 3, 4, 5] (by decide +kernel) rfl
  have hK9 := hK.sub (tys' := [(k_2, .long), (k_4, .int), (k_6, .int), (k_8, .int), (k_10, .int)]) [0, 1, 2, 3, 4] rfl
  refine W.widen (k := 5) (n := 0) (by exact Nat.le_of_ble_eq_true rfl) (by exact Nat.le_of_ble_eq_true rfl) ?_
  exact W.vret hx hb hr (fun t ht hW => ⟨⟨(), rfl, trivial, q_1, q_3, q_5, q_7, q_9, k_2, k_4, k_6, k_8, k_10, by rw [ht]; exact hP9, va_K.moved hW.alike hK9, hD9⟩, hS.F ht⟩) hS.2.2 d_OutcomeSet_init_44
