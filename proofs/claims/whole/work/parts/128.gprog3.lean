set_option maxHeartbeats 4000000 in
set_option maxRecDepth 100000 in
theorem gen_Program_addAction_v (l : Launch) (dC : Nat → ClassId) (dI : Nat → Nat → Nat) (pa : Nat) (pA : Nat → Nat) (pK : Nat → ClassId) (T Ac : Nat) (pg : Nat → Nat → Nat) (nm : Nat → Int32) (t k x rn : Nat) (v : Int32) (hT : T ≤ 4) (ht : t < T) (hA7 : Ac < 7) (hl6 : pg 0 t ≤ 6) (hk6 : k < 6) (hx9 : x < 4) (hr2 : rn < 2) (h8 : pg 8 t < 128) (h9 : pg 9 k < 128) (hk4 : k < 4) (hx3 : x < 3) (h10 : pg 10 x < 128) (sz : Nat) : Met l y_Program_addAction w_Program_addAction ({ frames := 0, cells := 0, slots := 0, locals := 0 }) (va_Pc [.ref pa, .int (nI t), .int (nI k), .int (nI x), .int (nI rn), .int v] (fun U => U.heap.size = sz ∧ va_P (dC, dI) classes [oc pa 0 [.ref (pA 0), .ref (pA 1), .ref (pA 2), .ref (pA 3), .ref (pA 4), .ref (pA 5), .ref (pA 6), .ref (pA 7), .ref (pA 8), .ref (pA 9), .ref (pA 10), .int (nI T), .int (nI Ac)], ia (pA 0) (pK 0) 4 (fun i => nI ((pg 0) i)), ia (pA 1) (pK 1) 28 (fun i => nI ((pg 1) i)), ia (pA 2) (pK 2) 7 (fun i => nI ((pg 2) i)), ia (pA 3) (pK 3) 7 (fun i => nI ((pg 3) i)), ia (pA 4) (pK 4) 7 (fun i => nI ((pg 4) i)), ia (pA 5) (pK 5) 7 (fun i => nI ((pg 5) i)), ia (pA 6) (pK 6) 7 (fun i => nI ((pg 6) i)), ia (pA 7) (pK 7) 7 nm, ia (pA 8) (pK 8) 4 (fun i => nI ((pg 8) i)), ia (pA 9) (pK 9) 6 (fun i => nI ((pg 9) i)), ia (pA 10) (pK 10) 3 (fun i => nI ((pg 10) i))] U.heap ∧ va_K (dC, dI) classes [((pK 0), .int), ((pK 1), .int), ((pK 2), .int), ((pK 3), .int), ((pK 4), .int), ((pK 5), .int), ((pK 6), .int), ((pK 7), .int), ((pK 8), .int), ((pK 9), .int), ((pK 10), .int)] U ∧ va_D (fun _ => True) [oc pa 0 [.ref (pA 0), .ref (pA 1), .ref (pA 2), .ref (pA 3), .ref (pA 4), .ref (pA 5), .ref (pA 6), .ref (pA 7), .ref (pA 8), .ref (pA 9), .ref (pA 10), .int (nI T), .int (nI Ac)], ia (pA 0) (pK 0) 4 (fun i => nI ((pg 0) i)), ia (pA 1) (pK 1) 28 (fun i => nI ((pg 1) i)), ia (pA 2) (pK 2) 7 (fun i => nI ((pg 2) i)), ia (pA 3) (pK 3) 7 (fun i => nI ((pg 3) i)), ia (pA 4) (pK 4) 7 (fun i => nI ((pg 4) i)), ia (pA 5) (pK 5) 7 (fun i => nI ((pg 5) i)), ia (pA 6) (pK 6) 7 (fun i => nI ((pg 6) i)), ia (pA 7) (pK 7) 7 nm, ia (pA 8) (pK 8) 4 (fun i => nI ((pg 8) i)), ia (pA 9) (pK 9) 6 (fun i => nI ((pg 9) i)), ia (pA 10) (pK 10) 3 (fun i => nI ((pg 10) i))] ∧ nw U)) (va_Qi (fun (r : Int32) (_ : Unit) => r = nI (pg 0 t + 1)) (fun _ t9 => va_P (dC, dI) classes [oc pa 0 [.ref (pA 0), .ref (pA 1), .ref (pA 2), .ref (pA 3), .ref (pA 4), .ref (pA 5), .ref (pA 6), .ref (pA 7), .ref (pA 8), .ref (pA 9), .ref (pA 10), .int (nI T), .int (nI (Ac + 1))], ia (pA 0) (pK 0) 4 (fun i => nI ((addA pg t Ac k x rn 0) i)), ia (pA 1) (pK 1) 28 (fun i => nI ((addA pg t Ac k x rn 1) i)), ia (pA 2) (pK 2) 7 (fun i => nI ((addA pg t Ac k x rn 2) i)), ia (pA 3) (pK 3) 7 (fun i => nI ((addA pg t Ac k x rn 3) i)), ia (pA 4) (pK 4) 7 (fun i => nI ((addA pg t Ac k x rn 4) i)), ia (pA 5) (pK 5) 7 (fun i => nI ((addA pg t Ac k x rn 5) i)), ia (pA 6) (pK 6) 7 (fun i => nI ((addA pg t Ac k x rn 6) i)), ia (pA 7) (pK 7) 7 (upd nm Ac v), ia (pA 8) (pK 8) 4 (fun i => nI ((addA pg t Ac k x rn 8) i)), ia (pA 9) (pK 9) 6 (fun i => nI ((addA pg t Ac k x rn 9) i)), ia (pA 10) (pK 10) 3 (fun i => nI ((addA pg t Ac k x rn 10) i))] t9.heap ∧ va_K (dC, dI) classes [] t9 ∧ va_D (va_A [oc pa 0 [.ref (pA 0), .ref (pA 1), .ref (pA 2), .ref (pA 3), .ref (pA 4), .ref (pA 5), .ref (pA 6), .ref (pA 7), .ref (pA 8), .ref (pA 9), .ref (pA 10), .int (nI T), .int (nI Ac)], ia (pA 0) (pK 0) 4 (fun i => nI ((pg 0) i)), ia (pA 1) (pK 1) 28 (fun i => nI ((pg 1) i)), ia (pA 2) (pK 2) 7 (fun i => nI ((pg 2) i)), ia (pA 3) (pK 3) 7 (fun i => nI ((pg 3) i)), ia (pA 4) (pK 4) 7 (fun i => nI ((pg 4) i)), ia (pA 5) (pK 5) 7 (fun i => nI ((pg 5) i)), ia (pA 6) (pK 6) 7 (fun i => nI ((pg 6) i)), ia (pA 7) (pK 7) 7 nm, ia (pA 8) (pK 8) 4 (fun i => nI ((pg 8) i)), ia (pA 9) (pK 9) 6 (fun i => nI ((pg 9) i)), ia (pA 10) (pK 10) 3 (fun i => nI ((pg 10) i))] sz) [oc pa 0 [.ref (pA 0), .ref (pA 1), .ref (pA 2), .ref (pA 3), .ref (pA 4), .ref (pA 5), .ref (pA 6), .ref (pA 7), .ref (pA 8), .ref (pA 9), .ref (pA 10), .int (nI T), .int (nI (Ac + 1))], ia (pA 0) (pK 0) 4 (fun i => nI ((addA pg t Ac k x rn 0) i)), ia (pA 1) (pK 1) 28 (fun i => nI ((addA pg t Ac k x rn 1) i)), ia (pA 2) (pK 2) 7 (fun i => nI ((addA pg t Ac k x rn 2) i)), ia (pA 3) (pK 3) 7 (fun i => nI ((addA pg t Ac k x rn 3) i)), ia (pA 4) (pK 4) 7 (fun i => nI ((addA pg t Ac k x rn 4) i)), ia (pA 5) (pK 5) 7 (fun i => nI ((addA pg t Ac k x rn 5) i)), ia (pA 6) (pK 6) 7 (fun i => nI ((addA pg t Ac k x rn 6) i)), ia (pA 7) (pK 7) 7 (upd nm Ac v), ia (pA 8) (pK 8) 4 (fun i => nI ((addA pg t Ac k x rn 8) i)), ia (pA 9) (pK 9) 6 (fun i => nI ((addA pg t Ac k x rn 9) i)), ia (pA 10) (pK 10) 3 (fun i => nI ((addA pg t Ac k x rn 10) i))]) (va_A [oc pa 0 [.ref (pA 0), .ref (pA 1), .ref (pA 2), .ref (pA 3), .ref (pA 4), .ref (pA 5), .ref (pA 6), .ref (pA 7), .ref (pA 8), .ref (pA 9), .ref (pA 10), .int (nI T), .int (nI Ac)], ia (pA 0) (pK 0) 4 (fun i => nI ((pg 0) i)), ia (pA 1) (pK 1) 28 (fun i => nI ((pg 1) i)), ia (pA 2) (pK 2) 7 (fun i => nI ((pg 2) i)), ia (pA 3) (pK 3) 7 (fun i => nI ((pg 3) i)), ia (pA 4) (pK 4) 7 (fun i => nI ((pg 4) i)), ia (pA 5) (pK 5) 7 (fun i => nI ((pg 5) i)), ia (pA 6) (pK 6) 7 (fun i => nI ((pg 6) i)), ia (pA 7) (pK 7) 7 nm, ia (pA 8) (pK 8) 4 (fun i => nI ((pg 8) i)), ia (pA 9) (pK 9) 6 (fun i => nI ((pg 9) i)), ia (pA 10) (pK 10) 3 (fun i => nI ((pg 10) i))] sz)) 0 0 (va_A [oc pa 0 [.ref (pA 0), .ref (pA 1), .ref (pA 2), .ref (pA 3), .ref (pA 4), .ref (pA 5), .ref (pA 6), .ref (pA 7), .ref (pA 8), .ref (pA 9), .ref (pA 10), .int (nI T), .int (nI Ac)], ia (pA 0) (pK 0) 4 (fun i => nI ((pg 0) i)), ia (pA 1) (pK 1) 28 (fun i => nI ((pg 1) i)), ia (pA 2) (pK 2) 7 (fun i => nI ((pg 2) i)), ia (pA 3) (pK 3) 7 (fun i => nI ((pg 3) i)), ia (pA 4) (pK 4) 7 (fun i => nI ((pg 4) i)), ia (pA 5) (pK 5) 7 (fun i => nI ((pg 5) i)), ia (pA 6) (pK 6) 7 (fun i => nI ((pg 6) i)), ia (pA 7) (pK 7) 7 nm, ia (pA 8) (pK 8) 4 (fun i => nI ((pg 8) i)), ia (pA 9) (pK 9) 6 (fun i => nI ((pg 9) i)), ia (pA 10) (pK 10) 3 (fun i => nI ((pg 10) i))] sz) := by
  refine Met.ofW (cc := b_Program_addAction) (maxL := 8) (ret := (some .int)) (by decide) rfl ?_
  intro p e0 s m args below meth c s₁ B hml hv
  obtain ⟨rfl, hsz, hP, hK, hD0, hn⟩ := hv
  have hx := B.exec
  have hb := B.bytes
  have hr := B.returns
  have hw := fun w (h : w ∈ wt) => atoms_spec (ws := w_Program_addAction) B.pre w (List.mem_cons_of_mem _ h)
  have hown : s.vm.findClass R_Program = some m.cls := findClass_of_methodNamed B.named
  have hlocks := B.notSynchronized
  subst hsz
  have hD1 := hD0.self (sz := s.heap.size)
  generalize hAe : va_A [oc pa 0 [.ref (pA 0), .ref (pA 1), .ref (pA 2), .ref (pA 3), .ref (pA 4), .ref (pA 5), .ref (pA 6), .ref (pA 7), .ref (pA 8), .ref (pA 9), .ref (pA 10), .int (nI T), .int (nI Ac)], ia (pA 0) (pK 0) 4 (fun i => nI ((pg 0) i)), ia (pA 1) (pK 1) 28 (fun i => nI ((pg 1) i)), ia (pA 2) (pK 2) 7 (fun i => nI ((pg 2) i)), ia (pA 3) (pK 3) 7 (fun i => nI ((pg 3) i)), ia (pA 4) (pK 4) 7 (fun i => nI ((pg 4) i)), ia (pA 5) (pK 5) 7 (fun i => nI ((pg 5) i)), ia (pA 6) (pK 6) 7 (fun i => nI ((pg 6) i)), ia (pA 7) (pK 7) 7 nm, ia (pA 8) (pK 8) 4 (fun i => nI ((pg 8) i)), ia (pA 9) (pK 9) 6 (fun i => nI ((pg 9) i)), ia (pA 10) (pK 10) 3 (fun i => nI ((pg 10) i))] s.heap.size = A at hD1 ⊢
  have hA : ∀ q : Nat, s.heap.size ≤ q → A q := fun q h => by rw [← hAe]; exact Or.inr h
  have hD : dd A [pa, (pA 0), (pA 1), (pA 2), (pA 3), (pA 4), (pA 5), (pA 6), (pA 7), (pA 8), (pA 9), (pA 10)] := dd_of hD1 rfl
  clear hAe hD0 hD1
  have hS : va_S A s.heap s.heap [] := va_S.rf
  replace hP : va_P (dC, dI) classes [oc pa 0 [.ref (pA 0), .ref (pA 1), .ref (pA 2), .ref (pA 3), .ref (pA 4), .ref (pA 5), .ref (pA 6), .ref (pA 7), .ref (pA 8), .ref (pA 9), .ref (pA 10), .int (nI T), .int (nI Ac)], ia (pA 0) (pK 0) 4 (fun i => nI ((pg 0) i)), ia (pA 1) (pK 1) 28 (fun i => nI ((pg 1) i)), ia (pA 2) (pK 2) 7 (fun i => nI ((pg 2) i)), ia (pA 3) (pK 3) 7 (fun i => nI ((pg 3) i)), ia (pA 4) (pK 4) 7 (fun i => nI ((pg 4) i)), ia (pA 5) (pK 5) 7 (fun i => nI ((pg 5) i)), ia (pA 6) (pK 6) 7 (fun i => nI ((pg 6) i)), ia (pA 7) (pK 7) 7 nm, ia (pA 8) (pK 8) 4 (fun i => nI ((pg 8) i)), ia (pA 9) (pK 9) 6 (fun i => nI ((pg 9) i)), ia (pA 10) (pK 10) 3 (fun i => nI ((pg 10) i))] s.heap := hP
  have hl := lv_entry ([.ref pa, .int (nI t), .int (nI k), .int (nI x), .int (nI rn), .int v]) (n := 8) (Nat.le_of_ble_eq_true rfl)
  rw [lg_entry_eq]
  generalize (lg_sl ([.ref pa, .int (nI t), .int (nI k), .int (nI x), .int (nI rn), .int v]) ++ List.replicate (8 - (lg_sl ([.ref pa, .int (nI t), .int (nI k), .int (nI x), .int (nI rn), .int v])).length) Slot.unset).toArray = ls at hl ⊢
  replace hl : lv_has ls 8 [(0, .ref pa), (1, .int (nI t)), (2, .int (nI k)), (3, .int (nI x)), (4, .int (nI rn)), (5, .int v)] := hl
  refine lv_iload_n hx hb d_Program_addAction_0 rfl (lv_at hl 1 rfl) ?_
  refine lv_if_lt (tgt := 21) hx hb d_Program_addAction_1 (by decide) (fun c9 => absurd c9 (nI_pos (by omega))) (fun c9 => ?_)
  refine tp_pc (pc' := 4) (by rfl) ?_
  refine lv_iload_n hx hb d_Program_addAction_4 rfl (lv_at hl 1 rfl) ?_
  refine lv_aload_n hx hb d_Program_addAction_5 rfl (lv_at hl 0 rfl) ?_
  refine va_get (D := (dC, dI)) (ci := 0) (v := .int (nI T)) (C := R_Program) (T := F_Program) (N := 13) hx hb hw i_Program hown hK hP 0 rfl rfl 11 (by decide) (hw _ m_160) (fun _ h9 => h9) rfl d_Program_addAction_6 ?_
  refine lv_icmp_ge (tgt := 21) hx hb d_Program_addAction_9 (by decide) (fun c9 => absurd c9 (nI_ge ht (by omega))) (fun c9 => ?_)
  refine tp_pc (pc' := 12) (by rfl) ?_
  refine lv_aload_n hx hb d_Program_addAction_12 rfl (lv_at hl 0 rfl) ?_
  refine va_get (D := (dC, dI)) (ci := 0) (v := .int (nI Ac)) (C := R_Program) (T := F_Program) (N := 13) hx hb hw i_Program hown hK hP 0 rfl rfl 12 (by decide) (hw _ m_165) (fun _ h9 => h9) rfl d_Program_addAction_13 ?_
  refine lv_bipush (v := 7) hx hb d_Program_addAction_16 (by decide) ?_
  refine lv_icmp_lt (tgt := 23) hx hb d_Program_addAction_18 (by decide) (fun c9 => ?_) (fun c9 => absurd ((nI_ltI (a := Ac) (b := 7) (by omega) (by omega)).mpr hA7) c9)
  refine tp_pc (pc' := 23) (by rfl) ?_
  refine lv_aload_n hx hb d_Program_addAction_23 rfl (lv_at hl 0 rfl) ?_
  refine va_get (D := (dC, dI)) (ci := 0) (v := .int (nI Ac)) (C := R_Program) (T := F_Program) (N := 13) hx hb hw i_Program hown hK hP 0 rfl rfl 12 (by decide) (hw _ m_165) (fun _ h9 => h9) rfl d_Program_addAction_24 ?_
  refine lv_istore (lv' := [(6, .int (nI Ac)), (0, .ref pa), (1, .int (nI t)), (2, .int (nI k)), (3, .int (nI x)), (4, .int (nI rn)), (5, .int v)]) hx hb d_Program_addAction_27 hl (by decide) rfl ?_
  clear hl ls
  intro ls hl
  refine lv_iconst (v := 1) hx hb d_Program_addAction_29 (by decide) ?_
  refine lv_iload hx hb d_Program_addAction_30 (lv_at hl 0 rfl) ?_
  refine lv_ishl hx hb d_Program_addAction_32 ?_
  refine tp_i (y := 1 <<< ((nI Ac) &&& 31)) rfl ?_
  refine lv_istore (lv' := [(7, .int (1 <<< ((nI Ac) &&& 31))), (6, .int (nI Ac)), (0, .ref pa), (1, .int (nI t)), (2, .int (nI k)), (3, .int (nI x)), (4, .int (nI rn)), (5, .int v)]) hx hb d_Program_addAction_33 hl (by decide) rfl ?_
  clear hl ls
  intro ls hl
  refine lv_aload_n hx hb d_Program_addAction_35 rfl (lv_at hl 2 rfl) ?_
  refine va_get (D := (dC, dI)) (ci := 0) (v := .ref (pA 1)) (C := R_Program) (T := F_Program) (N := 13) hx hb hw i_Program hown hK hP 0 rfl rfl 1 (by decide) (hw _ m_129) (fun _ h9 => h9) rfl d_Program_addAction_36 ?_
  refine lv_iload_n hx hb d_Program_addAction_39 rfl (lv_at hl 3 rfl) ?_
  refine lv_bipush (v := 7) hx hb d_Program_addAction_40 (by decide) ?_
  refine lv_imul hx hb d_Program_addAction_42 ?_
  refine tp_i (y := nI (t * 7)) (by exact pk_mul t 7) ?_
  refine lv_aload_n hx hb d_Program_addAction_43 rfl (lv_at hl 2 rfl) ?_
  refine va_get (D := (dC, dI)) (ci := 0) (v := .ref (pA 0)) (C := R_Program) (T := F_Program) (N := 13) hx hb hw i_Program hown hK hP 0 rfl rfl 0 (by decide) (hw _ m_128) (fun _ h9 => h9) rfl d_Program_addAction_44 ?_
  refine lv_iload_n hx hb d_Program_addAction_47 rfl (lv_at hl 3 rfl) ?_
  refine va_iald (D := (dC, dI)) hx hb hK hP 1 0 rfl rfl (i := nI t) (pk_in t 4 (by omega)) d_Program_addAction_48 ?_
  refine tp_i (y := nI ((pg 0) t)) (by rw [show (nI t : Int32).toNatClampNeg = t from pk_cl t]) ?_
  refine lv_iadd hx hb d_Program_addAction_49 ?_
  refine tp_i (y := nI (t * 7 + ((pg 0) t))) (by exact nI_add (t * 7) ((pg 0) t)) ?_
  refine lv_iload hx hb d_Program_addAction_50 (lv_at hl 1 rfl) ?_
  refine va_iast (D := (dC, dI)) hx hb hK hP (dd_D hD rfl) hS 2 1 rfl rfl (i := nI (t * 7 + ((pg 0) t))) (x := nI Ac) (pk_in (t * 7 + ((pg 0) t)) 28 (by omega)) d_Program_addAction_52 ?_
  clear hP hS
  intro H locs hP _ hS
  rw [show (nI (t * 7 + ((pg 0) t)) : Int32).toNatClampNeg = t * 7 + ((pg 0) t) from pk_cl (t * 7 + ((pg 0) t))] at hP
  rw [show upd (fun i => nI ((pg 1) i)) (t * 7 + ((pg 0) t)) (nI Ac) = fun i => nI (updN (pg 1) (t * 7 + ((pg 0) t)) Ac i) from upd_nI] at hP
  replace hP : va_P (dC, dI) classes [oc pa 0 [.ref (pA 0), .ref (pA 1), .ref (pA 2), .ref (pA 3), .ref (pA 4), .ref (pA 5), .ref (pA 6), .ref (pA 7), .ref (pA 8), .ref (pA 9), .ref (pA 10), .int (nI T), .int (nI Ac)], ia (pA 0) (pK 0) 4 (fun i => nI ((pg 0) i)), ia (pA 1) (pK 1) 28 (fun i => nI ((updN (pg 1) (t * 7 + ((pg 0) t)) Ac) i)), ia (pA 2) (pK 2) 7 (fun i => nI ((pg 2) i)), ia (pA 3) (pK 3) 7 (fun i => nI ((pg 3) i)), ia (pA 4) (pK 4) 7 (fun i => nI ((pg 4) i)), ia (pA 5) (pK 5) 7 (fun i => nI ((pg 5) i)), ia (pA 6) (pK 6) 7 (fun i => nI ((pg 6) i)), ia (pA 7) (pK 7) 7 nm, ia (pA 8) (pK 8) 4 (fun i => nI ((pg 8) i)), ia (pA 9) (pK 9) 6 (fun i => nI ((pg 9) i)), ia (pA 10) (pK 10) 3 (fun i => nI ((pg 10) i))] H := hP
  refine tp_pc (pc' := 53) (by rfl) ?_
  refine lv_aload_n hx hb d_Program_addAction_53 rfl (lv_at hl 2 rfl) ?_
  refine va_get (D := (dC, dI)) (ci := 0) (v := .ref (pA 2)) (C := R_Program) (T := F_Program) (N := 13) hx hb hw i_Program hown hK hP 0 rfl rfl 2 (by decide) (hw _ m_130) (fun _ h9 => h9) rfl d_Program_addAction_54 ?_
  refine lv_iload hx hb d_Program_addAction_57 (lv_at hl 1 rfl) ?_
  refine lv_iload_n hx hb d_Program_addAction_59 rfl (lv_at hl 3 rfl) ?_
  refine va_iast (D := (dC, dI)) hx hb hK hP (dd_D hD rfl) hS 3 2 rfl rfl (i := nI Ac) (x := nI t) (pk_in Ac 7 (by omega)) d_Program_addAction_60 ?_
  clear hP hS locs H
  intro H locs hP _ hS
  rw [show (nI Ac : Int32).toNatClampNeg = Ac from pk_cl Ac] at hP
  rw [show upd (fun i => nI ((pg 2) i)) Ac (nI t) = fun i => nI (updN (pg 2) Ac t i) from upd_nI] at hP
  replace hP : va_P (dC, dI) classes [oc pa 0 [.ref (pA 0), .ref (pA 1), .ref (pA 2), .ref (pA 3), .ref (pA 4), .ref (pA 5), .ref (pA 6), .ref (pA 7), .ref (pA 8), .ref (pA 9), .ref (pA 10), .int (nI T), .int (nI Ac)], ia (pA 0) (pK 0) 4 (fun i => nI ((pg 0) i)), ia (pA 1) (pK 1) 28 (fun i => nI ((updN (pg 1) (t * 7 + ((pg 0) t)) Ac) i)), ia (pA 2) (pK 2) 7 (fun i => nI ((updN (pg 2) Ac t) i)), ia (pA 3) (pK 3) 7 (fun i => nI ((pg 3) i)), ia (pA 4) (pK 4) 7 (fun i => nI ((pg 4) i)), ia (pA 5) (pK 5) 7 (fun i => nI ((pg 5) i)), ia (pA 6) (pK 6) 7 (fun i => nI ((pg 6) i)), ia (pA 7) (pK 7) 7 nm, ia (pA 8) (pK 8) 4 (fun i => nI ((pg 8) i)), ia (pA 9) (pK 9) 6 (fun i => nI ((pg 9) i)), ia (pA 10) (pK 10) 3 (fun i => nI ((pg 10) i))] H := hP
  refine tp_pc (pc' := 61) (by rfl) ?_
  refine lv_aload_n hx hb d_Program_addAction_61 rfl (lv_at hl 2 rfl) ?_
  refine va_get (D := (dC, dI)) (ci := 0) (v := .ref (pA 3)) (C := R_Program) (T := F_Program) (N := 13) hx hb hw i_Program hown hK hP 0 rfl rfl 3 (by decide) (hw _ m_135) (fun _ h9 => h9) rfl d_Program_addAction_62 ?_
  refine lv_iload hx hb d_Program_addAction_65 (lv_at hl 1 rfl) ?_
  refine lv_aload_n hx hb d_Program_addAction_67 rfl (lv_at hl 2 rfl) ?_
  refine va_get (D := (dC, dI)) (ci := 0) (v := .ref (pA 0)) (C := R_Program) (T := F_Program) (N := 13) hx hb hw i_Program hown hK hP 0 rfl rfl 0 (by decide) (hw _ m_128) (fun _ h9 => h9) rfl d_Program_addAction_68 ?_
  refine lv_iload_n hx hb d_Program_addAction_71 rfl (lv_at hl 3 rfl) ?_
  refine va_iald (D := (dC, dI)) hx hb hK hP 1 0 rfl rfl (i := nI t) (pk_in t 4 (by omega)) d_Program_addAction_72 ?_
  refine tp_i (y := nI ((pg 0) t)) (by rw [show (nI t : Int32).toNatClampNeg = t from pk_cl t]) ?_
  refine va_iast (D := (dC, dI)) hx hb hK hP (dd_D hD rfl) hS 4 3 rfl rfl (i := nI Ac) (x := nI ((pg 0) t)) (pk_in Ac 7 (by omega)) d_Program_addAction_73 ?_
  clear hP hS locs H
  intro H locs hP _ hS
  rw [show (nI Ac : Int32).toNatClampNeg = Ac from pk_cl Ac] at hP
  rw [show upd (fun i => nI ((pg 3) i)) Ac (nI ((pg 0) t)) = fun i => nI (updN (pg 3) Ac ((pg 0) t) i) from upd_nI] at hP
  replace hP : va_P (dC, dI) classes [oc pa 0 [.ref (pA 0), .ref (pA 1), .ref (pA 2), .ref (pA 3), .ref (pA 4), .ref (pA 5), .ref (pA 6), .ref (pA 7), .ref (pA 8), .ref (pA 9), .ref (pA 10), .int (nI T), .int (nI Ac)], ia (pA 0) (pK 0) 4 (fun i => nI ((pg 0) i)), ia (pA 1) (pK 1) 28 (fun i => nI ((updN (pg 1) (t * 7 + ((pg 0) t)) Ac) i)), ia (pA 2) (pK 2) 7 (fun i => nI ((updN (pg 2) Ac t) i)), ia (pA 3) (pK 3) 7 (fun i => nI ((updN (pg 3) Ac ((pg 0) t)) i)), ia (pA 4) (pK 4) 7 (fun i => nI ((pg 4) i)), ia (pA 5) (pK 5) 7 (fun i => nI ((pg 5) i)), ia (pA 6) (pK 6) 7 (fun i => nI ((pg 6) i)), ia (pA 7) (pK 7) 7 nm, ia (pA 8) (pK 8) 4 (fun i => nI ((pg 8) i)), ia (pA 9) (pK 9) 6 (fun i => nI ((pg 9) i)), ia (pA 10) (pK 10) 3 (fun i => nI ((pg 10) i))] H := hP
  refine tp_pc (pc' := 74) (by rfl) ?_
  refine lv_aload_n hx hb d_Program_addAction_74 rfl (lv_at hl 2 rfl) ?_
  refine va_get (D := (dC, dI)) (ci := 0) (v := .ref (pA 4)) (C := R_Program) (T := F_Program) (N := 13) hx hb hw i_Program hown hK hP 0 rfl rfl 4 (by decide) (hw _ m_138) (fun _ h9 => h9) rfl d_Program_addAction_75 ?_
  refine lv_iload hx hb d_Program_addAction_78 (lv_at hl 1 rfl) ?_
  refine lv_iload_n hx hb d_Program_addAction_80 rfl (lv_at hl 4 rfl) ?_
  refine va_iast (D := (dC, dI)) hx hb hK hP (dd_D hD rfl) hS 5 4 rfl rfl (i := nI Ac) (x := nI k) (pk_in Ac 7 (by omega)) d_Program_addAction_81 ?_
  clear hP hS locs H
  intro H locs hP _ hS
  rw [show (nI Ac : Int32).toNatClampNeg = Ac from pk_cl Ac] at hP
  rw [show upd (fun i => nI ((pg 4) i)) Ac (nI k) = fun i => nI (updN (pg 4) Ac k i) from upd_nI] at hP
  replace hP : va_P (dC, dI) classes [oc pa 0 [.ref (pA 0), .ref (pA 1), .ref (pA 2), .ref (pA 3), .ref (pA 4), .ref (pA 5), .ref (pA 6), .ref (pA 7), .ref (pA 8), .ref (pA 9), .ref (pA 10), .int (nI T), .int (nI Ac)], ia (pA 0) (pK 0) 4 (fun i => nI ((pg 0) i)), ia (pA 1) (pK 1) 28 (fun i => nI ((updN (pg 1) (t * 7 + ((pg 0) t)) Ac) i)), ia (pA 2) (pK 2) 7 (fun i => nI ((updN (pg 2) Ac t) i)), ia (pA 3) (pK 3) 7 (fun i => nI ((updN (pg 3) Ac ((pg 0) t)) i)), ia (pA 4) (pK 4) 7 (fun i => nI ((updN (pg 4) Ac k) i)), ia (pA 5) (pK 5) 7 (fun i => nI ((pg 5) i)), ia (pA 6) (pK 6) 7 (fun i => nI ((pg 6) i)), ia (pA 7) (pK 7) 7 nm, ia (pA 8) (pK 8) 4 (fun i => nI ((pg 8) i)), ia (pA 9) (pK 9) 6 (fun i => nI ((pg 9) i)), ia (pA 10) (pK 10) 3 (fun i => nI ((pg 10) i))] H := hP
  refine tp_pc (pc' := 82) (by rfl) ?_
  refine lv_aload_n hx hb d_Program_addAction_82 rfl (lv_at hl 2 rfl) ?_
  refine va_get (D := (dC, dI)) (ci := 0) (v := .ref (pA 5)) (C := R_Program) (T := F_Program) (N := 13) hx hb hw i_Program hown hK hP 0 rfl rfl 5 (by decide) (hw _ m_143) (fun _ h9 => h9) rfl d_Program_addAction_83 ?_
  refine lv_iload hx hb d_Program_addAction_86 (lv_at hl 1 rfl) ?_
  refine lv_iload_n hx hb d_Program_addAction_88 rfl (lv_at hl 5 rfl) ?_
  refine va_iast (D := (dC, dI)) hx hb hK hP (dd_D hD rfl) hS 6 5 rfl rfl (i := nI Ac) (x := nI x) (pk_in Ac 7 (by omega)) d_Program_addAction_89 ?_
  clear hP hS locs H
  intro H locs hP _ hS
  rw [show (nI Ac : Int32).toNatClampNeg = Ac from pk_cl Ac] at hP
  rw [show upd (fun i => nI ((pg 5) i)) Ac (nI x) = fun i => nI (updN (pg 5) Ac x i) from upd_nI] at hP
  replace hP : va_P (dC, dI) classes [oc pa 0 [.ref (pA 0), .ref (pA 1), .ref (pA 2), .ref (pA 3), .ref (pA 4), .ref (pA 5), .ref (pA 6), .ref (pA 7), .ref (pA 8), .ref (pA 9), .ref (pA 10), .int (nI T), .int (nI Ac)], ia (pA 0) (pK 0) 4 (fun i => nI ((pg 0) i)), ia (pA 1) (pK 1) 28 (fun i => nI ((updN (pg 1) (t * 7 + ((pg 0) t)) Ac) i)), ia (pA 2) (pK 2) 7 (fun i => nI ((updN (pg 2) Ac t) i)), ia (pA 3) (pK 3) 7 (fun i => nI ((updN (pg 3) Ac ((pg 0) t)) i)), ia (pA 4) (pK 4) 7 (fun i => nI ((updN (pg 4) Ac k) i)), ia (pA 5) (pK 5) 7 (fun i => nI ((updN (pg 5) Ac x) i)), ia (pA 6) (pK 6) 7 (fun i => nI ((pg 6) i)), ia (pA 7) (pK 7) 7 nm, ia (pA 8) (pK 8) 4 (fun i => nI ((pg 8) i)), ia (pA 9) (pK 9) 6 (fun i => nI ((pg 9) i)), ia (pA 10) (pK 10) 3 (fun i => nI ((pg 10) i))] H := hP
  refine tp_pc (pc' := 90) (by rfl) ?_
  refine lv_aload_n hx hb d_Program_addAction_90 rfl (lv_at hl 2 rfl) ?_
  refine va_get (D := (dC, dI)) (ci := 0) (v := .ref (pA 6)) (C := R_Program) (T := F_Program) (N := 13) hx hb hw i_Program hown hK hP 0 rfl rfl 6 (by decide) (hw _ m_148) (fun _ h9 => h9) rfl d_Program_addAction_91 ?_
  refine lv_iload hx hb d_Program_addAction_94 (lv_at hl 1 rfl) ?_
  refine lv_iload_n hx hb d_Program_addAction_96 rfl (lv_at hl 3 rfl) ?_
  refine lv_iconst (v := 2) hx hb d_Program_addAction_97 (by decide) ?_
  refine lv_imul hx hb d_Program_addAction_98 ?_
  refine tp_i (y := nI (t * 2)) (by exact pk_mul t 2) ?_
  refine lv_iload hx hb d_Program_addAction_99 (lv_at hl 6 rfl) ?_
  refine lv_iadd hx hb d_Program_addAction_101 ?_
  refine tp_i (y := nI (t * 2 + rn)) (by exact nI_add (t * 2) rn) ?_
  refine va_iast (D := (dC, dI)) hx hb hK hP (dd_D hD rfl) hS 7 6 rfl rfl (i := nI Ac) (x := nI (t * 2 + rn)) (pk_in Ac 7 (by omega)) d_Program_addAction_102 ?_
  clear hP hS locs H
  intro H locs hP _ hS
  rw [show (nI Ac : Int32).toNatClampNeg = Ac from pk_cl Ac] at hP
  rw [show upd (fun i => nI ((pg 6) i)) Ac (nI (t * 2 + rn)) = fun i => nI (updN (pg 6) Ac (t * 2 + rn) i) from upd_nI] at hP
  replace hP : va_P (dC, dI) classes [oc pa 0 [.ref (pA 0), .ref (pA 1), .ref (pA 2), .ref (pA 3), .ref (pA 4), .ref (pA 5), .ref (pA 6), .ref (pA 7), .ref (pA 8), .ref (pA 9), .ref (pA 10), .int (nI T), .int (nI Ac)], ia (pA 0) (pK 0) 4 (fun i => nI ((pg 0) i)), ia (pA 1) (pK 1) 28 (fun i => nI ((updN (pg 1) (t * 7 + ((pg 0) t)) Ac) i)), ia (pA 2) (pK 2) 7 (fun i => nI ((updN (pg 2) Ac t) i)), ia (pA 3) (pK 3) 7 (fun i => nI ((updN (pg 3) Ac ((pg 0) t)) i)), ia (pA 4) (pK 4) 7 (fun i => nI ((updN (pg 4) Ac k) i)), ia (pA 5) (pK 5) 7 (fun i => nI ((updN (pg 5) Ac x) i)), ia (pA 6) (pK 6) 7 (fun i => nI ((updN (pg 6) Ac (t * 2 + rn)) i)), ia (pA 7) (pK 7) 7 nm, ia (pA 8) (pK 8) 4 (fun i => nI ((pg 8) i)), ia (pA 9) (pK 9) 6 (fun i => nI ((pg 9) i)), ia (pA 10) (pK 10) 3 (fun i => nI ((pg 10) i))] H := hP
  refine tp_pc (pc' := 103) (by rfl) ?_
  refine lv_aload_n hx hb d_Program_addAction_103 rfl (lv_at hl 2 rfl) ?_
  refine va_get (D := (dC, dI)) (ci := 0) (v := .ref (pA 7)) (C := R_Program) (T := F_Program) (N := 13) hx hb hw i_Program hown hK hP 0 rfl rfl 7 (by decide) (hw _ m_150) (fun _ h9 => h9) rfl d_Program_addAction_104 ?_
  refine lv_iload hx hb d_Program_addAction_107 (lv_at hl 1 rfl) ?_
  refine lv_iload hx hb d_Program_addAction_109 (lv_at hl 7 rfl) ?_
  refine va_iast (D := (dC, dI)) hx hb hK hP (dd_D hD rfl) hS 8 7 rfl rfl (i := nI Ac) (x := v) (pk_in Ac 7 (by omega)) d_Program_addAction_111 ?_
  clear hP hS locs H
  intro H locs hP _ hS
  rw [show (nI Ac : Int32).toNatClampNeg = Ac from pk_cl Ac] at hP
  replace hP : va_P (dC, dI) classes [oc pa 0 [.ref (pA 0), .ref (pA 1), .ref (pA 2), .ref (pA 3), .ref (pA 4), .ref (pA 5), .ref (pA 6), .ref (pA 7), .ref (pA 8), .ref (pA 9), .ref (pA 10), .int (nI T), .int (nI Ac)], ia (pA 0) (pK 0) 4 (fun i => nI ((pg 0) i)), ia (pA 1) (pK 1) 28 (fun i => nI ((updN (pg 1) (t * 7 + ((pg 0) t)) Ac) i)), ia (pA 2) (pK 2) 7 (fun i => nI ((updN (pg 2) Ac t) i)), ia (pA 3) (pK 3) 7 (fun i => nI ((updN (pg 3) Ac ((pg 0) t)) i)), ia (pA 4) (pK 4) 7 (fun i => nI ((updN (pg 4) Ac k) i)), ia (pA 5) (pK 5) 7 (fun i => nI ((updN (pg 5) Ac x) i)), ia (pA 6) (pK 6) 7 (fun i => nI ((updN (pg 6) Ac (t * 2 + rn)) i)), ia (pA 7) (pK 7) 7 (upd nm Ac v), ia (pA 8) (pK 8) 4 (fun i => nI ((pg 8) i)), ia (pA 9) (pK 9) 6 (fun i => nI ((pg 9) i)), ia (pA 10) (pK 10) 3 (fun i => nI ((pg 10) i))] H := hP
  refine tp_pc (pc' := 112) (by rfl) ?_
  refine lv_aload_n hx hb d_Program_addAction_112 rfl (lv_at hl 2 rfl) ?_
  refine va_get (D := (dC, dI)) (ci := 0) (v := .ref (pA 8)) (C := R_Program) (T := F_Program) (N := 13) hx hb hw i_Program hown hK hP 0 rfl rfl 8 (by decide) (hw _ m_152) (fun _ h9 => h9) rfl d_Program_addAction_113 ?_
  refine lv_iload_n hx hb d_Program_addAction_116 rfl (lv_at hl 3 rfl) ?_
  refine lv_dup2_11 hx hb d_Program_addAction_117 rfl rfl ?_
  refine va_iald (D := (dC, dI)) hx hb hK hP 9 8 rfl rfl (i := nI t) (pk_in t 4 (by omega)) d_Program_addAction_118 ?_
  refine tp_i (y := nI ((pg 8) t)) (by rw [show (nI t : Int32).toNatClampNeg = t from pk_cl t]) ?_
  refine lv_iload hx hb d_Program_addAction_119 (lv_at hl 0 rfl) ?_
  refine lv_ior hx hb d_Program_addAction_121 ?_
  refine tp_i (y := (nI ((pg 8) t)) ||| (1 <<< ((nI Ac) &&& 31))) rfl ?_
  refine tp_i (y := nI (pg 8 t ||| 2 ^ Ac)) (set_eq _ h8 _ hA7) ?_
  refine va_iast (D := (dC, dI)) hx hb hK hP (dd_D hD rfl) hS 9 8 rfl rfl (i := nI t) (x := nI (pg 8 t ||| 2 ^ Ac)) (pk_in t 4 (by omega)) d_Program_addAction_122 ?_
  clear hP hS locs H
  intro H locs hP _ hS
  rw [show (nI t : Int32).toNatClampNeg = t from pk_cl t] at hP
  rw [show upd (fun i => nI ((pg 8) i)) t (nI (pg 8 t ||| 2 ^ Ac)) = fun i => nI (updN (pg 8) t (pg 8 t ||| 2 ^ Ac) i) from upd_nI] at hP
  replace hP : va_P (dC, dI) classes [oc pa 0 [.ref (pA 0), .ref (pA 1), .ref (pA 2), .ref (pA 3), .ref (pA 4), .ref (pA 5), .ref (pA 6), .ref (pA 7), .ref (pA 8), .ref (pA 9), .ref (pA 10), .int (nI T), .int (nI Ac)], ia (pA 0) (pK 0) 4 (fun i => nI ((pg 0) i)), ia (pA 1) (pK 1) 28 (fun i => nI ((updN (pg 1) (t * 7 + ((pg 0) t)) Ac) i)), ia (pA 2) (pK 2) 7 (fun i => nI ((updN (pg 2) Ac t) i)), ia (pA 3) (pK 3) 7 (fun i => nI ((updN (pg 3) Ac ((pg 0) t)) i)), ia (pA 4) (pK 4) 7 (fun i => nI ((updN (pg 4) Ac k) i)), ia (pA 5) (pK 5) 7 (fun i => nI ((updN (pg 5) Ac x) i)), ia (pA 6) (pK 6) 7 (fun i => nI ((updN (pg 6) Ac (t * 2 + rn)) i)), ia (pA 7) (pK 7) 7 (upd nm Ac v), ia (pA 8) (pK 8) 4 (fun i => nI ((updN (pg 8) t (pg 8 t ||| 2 ^ Ac)) i)), ia (pA 9) (pK 9) 6 (fun i => nI ((pg 9) i)), ia (pA 10) (pK 10) 3 (fun i => nI ((pg 10) i))] H := hP
  refine tp_pc (pc' := 123) (by rfl) ?_
  refine lv_aload_n hx hb d_Program_addAction_123 rfl (lv_at hl 2 rfl) ?_
  refine va_get (D := (dC, dI)) (ci := 0) (v := .ref (pA 9)) (C := R_Program) (T := F_Program) (N := 13) hx hb hw i_Program hown hK hP 0 rfl rfl 9 (by decide) (hw _ m_155) (fun _ h9 => h9) rfl d_Program_addAction_124 ?_
  refine lv_iload_n hx hb d_Program_addAction_127 rfl (lv_at hl 4 rfl) ?_
  refine lv_dup2_11 hx hb d_Program_addAction_128 rfl rfl ?_
  refine va_iald (D := (dC, dI)) hx hb hK hP 10 9 rfl rfl (i := nI k) (pk_in k 6 (by omega)) d_Program_addAction_129 ?_
  refine tp_i (y := nI ((pg 9) k)) (by rw [show (nI k : Int32).toNatClampNeg = k from pk_cl k]) ?_
  refine lv_iload hx hb d_Program_addAction_130 (lv_at hl 0 rfl) ?_
  refine lv_ior hx hb d_Program_addAction_132 ?_
  refine tp_i (y := (nI ((pg 9) k)) ||| (1 <<< ((nI Ac) &&& 31))) rfl ?_
  refine tp_i (y := nI (pg 9 k ||| 2 ^ Ac)) (set_eq _ h9 _ hA7) ?_
  refine va_iast (D := (dC, dI)) hx hb hK hP (dd_D hD rfl) hS 10 9 rfl rfl (i := nI k) (x := nI (pg 9 k ||| 2 ^ Ac)) (pk_in k 6 (by omega)) d_Program_addAction_133 ?_
  clear hP hS locs H
  intro H locs hP _ hS
  rw [show (nI k : Int32).toNatClampNeg = k from pk_cl k] at hP
  rw [show upd (fun i => nI ((pg 9) i)) k (nI (pg 9 k ||| 2 ^ Ac)) = fun i => nI (updN (pg 9) k (pg 9 k ||| 2 ^ Ac) i) from upd_nI] at hP
  replace hP : va_P (dC, dI) classes [oc pa 0 [.ref (pA 0), .ref (pA 1), .ref (pA 2), .ref (pA 3), .ref (pA 4), .ref (pA 5), .ref (pA 6), .ref (pA 7), .ref (pA 8), .ref (pA 9), .ref (pA 10), .int (nI T), .int (nI Ac)], ia (pA 0) (pK 0) 4 (fun i => nI ((pg 0) i)), ia (pA 1) (pK 1) 28 (fun i => nI ((updN (pg 1) (t * 7 + ((pg 0) t)) Ac) i)), ia (pA 2) (pK 2) 7 (fun i => nI ((updN (pg 2) Ac t) i)), ia (pA 3) (pK 3) 7 (fun i => nI ((updN (pg 3) Ac ((pg 0) t)) i)), ia (pA 4) (pK 4) 7 (fun i => nI ((updN (pg 4) Ac k) i)), ia (pA 5) (pK 5) 7 (fun i => nI ((updN (pg 5) Ac x) i)), ia (pA 6) (pK 6) 7 (fun i => nI ((updN (pg 6) Ac (t * 2 + rn)) i)), ia (pA 7) (pK 7) 7 (upd nm Ac v), ia (pA 8) (pK 8) 4 (fun i => nI ((updN (pg 8) t (pg 8 t ||| 2 ^ Ac)) i)), ia (pA 9) (pK 9) 6 (fun i => nI ((updN (pg 9) k (pg 9 k ||| 2 ^ Ac)) i)), ia (pA 10) (pK 10) 3 (fun i => nI ((pg 10) i))] H := hP
  refine tp_pc (pc' := 134) (by rfl) ?_
  refine lv_iload_n hx hb d_Program_addAction_134 rfl (lv_at hl 4 rfl) ?_
  refine lv_iconst (v := 4) hx hb d_Program_addAction_135 (by decide) ?_
  refine lv_icmp_ge (tgt := 150) hx hb d_Program_addAction_136 (by decide) (fun c9 => absurd ((nI_leI (a := 4) (b := k) (by omega) (by omega)).mp c9) (by omega)) (fun c9 => ?_)
  refine tp_pc (pc' := 139) (by rfl) ?_
  refine lv_aload_n hx hb d_Program_addAction_139 rfl (lv_at hl 2 rfl) ?_
  refine va_get (D := (dC, dI)) (ci := 0) (v := .ref (pA 10)) (C := R_Program) (T := F_Program) (N := 13) hx hb hw i_Program hown hK hP 0 rfl rfl 10 (by decide) (hw _ m_157) (fun _ h9 => h9) rfl d_Program_addAction_140 ?_
  refine lv_iload_n hx hb d_Program_addAction_143 rfl (lv_at hl 5 rfl) ?_
  refine lv_dup2_11 hx hb d_Program_addAction_144 rfl rfl ?_
  refine va_iald (D := (dC, dI)) hx hb hK hP 11 10 rfl rfl (i := nI x) (pk_in x 3 (by omega)) d_Program_addAction_145 ?_
  refine tp_i (y := nI ((pg 10) x)) (by rw [show (nI x : Int32).toNatClampNeg = x from pk_cl x]) ?_
  refine lv_iload hx hb d_Program_addAction_146 (lv_at hl 0 rfl) ?_
  refine lv_ior hx hb d_Program_addAction_148 ?_
  refine tp_i (y := (nI ((pg 10) x)) ||| (1 <<< ((nI Ac) &&& 31))) rfl ?_
  refine tp_i (y := nI (pg 10 x ||| 2 ^ Ac)) (set_eq _ h10 _ hA7) ?_
  refine va_iast (D := (dC, dI)) hx hb hK hP (dd_D hD rfl) hS 11 10 rfl rfl (i := nI x) (x := nI (pg 10 x ||| 2 ^ Ac)) (pk_in x 3 (by omega)) d_Program_addAction_149 ?_
  clear hP hS locs H
  intro H locs hP _ hS
  rw [show (nI x : Int32).toNatClampNeg = x from pk_cl x] at hP
  rw [show upd (fun i => nI ((pg 10) i)) x (nI (pg 10 x ||| 2 ^ Ac)) = fun i => nI (updN (pg 10) x (pg 10 x ||| 2 ^ Ac) i) from upd_nI] at hP
  replace hP : va_P (dC, dI) classes [oc pa 0 [.ref (pA 0), .ref (pA 1), .ref (pA 2), .ref (pA 3), .ref (pA 4), .ref (pA 5), .ref (pA 6), .ref (pA 7), .ref (pA 8), .ref (pA 9), .ref (pA 10), .int (nI T), .int (nI Ac)], ia (pA 0) (pK 0) 4 (fun i => nI ((pg 0) i)), ia (pA 1) (pK 1) 28 (fun i => nI ((updN (pg 1) (t * 7 + ((pg 0) t)) Ac) i)), ia (pA 2) (pK 2) 7 (fun i => nI ((updN (pg 2) Ac t) i)), ia (pA 3) (pK 3) 7 (fun i => nI ((updN (pg 3) Ac ((pg 0) t)) i)), ia (pA 4) (pK 4) 7 (fun i => nI ((updN (pg 4) Ac k) i)), ia (pA 5) (pK 5) 7 (fun i => nI ((updN (pg 5) Ac x) i)), ia (pA 6) (pK 6) 7 (fun i => nI ((updN (pg 6) Ac (t * 2 + rn)) i)), ia (pA 7) (pK 7) 7 (upd nm Ac v), ia (pA 8) (pK 8) 4 (fun i => nI ((updN (pg 8) t (pg 8 t ||| 2 ^ Ac)) i)), ia (pA 9) (pK 9) 6 (fun i => nI ((updN (pg 9) k (pg 9 k ||| 2 ^ Ac)) i)), ia (pA 10) (pK 10) 3 (fun i => nI ((updN (pg 10) x (pg 10 x ||| 2 ^ Ac)) i))] H := hP
  refine tp_pc (pc' := 150) (by rfl) ?_
  refine lv_aload_n hx hb d_Program_addAction_150 rfl (lv_at hl 2 rfl) ?_
  refine lv_dup hx hb d_Program_addAction_151 rfl ?_
  refine va_get (D := (dC, dI)) (ci := 0) (v := .int (nI Ac)) (C := R_Program) (T := F_Program) (N := 13) hx hb hw i_Program hown hK hP 0 rfl rfl 12 (by decide) (hw _ m_165) (fun _ h9 => h9) rfl d_Program_addAction_152 ?_
  refine lv_iconst (v := 1) hx hb d_Program_addAction_155 (by decide) ?_
  refine lv_iadd hx hb d_Program_addAction_156 ?_
  refine tp_i (y := nI (Ac + 1)) (by exact nI_add Ac 1) ?_
  refine va_put (D := (dC, dI)) (ci := 0) (v := .int (nI (Ac + 1))) (ty := .int) (C := R_Program) (T := F_Program) (N := 13) hx hb hw i_Program t_Program t_Program_ok n_Program hown hK hP (dd_D hD rfl) hS 0 rfl rfl 12 (by decide) (hw _ m_165) (fun _ h9 => h9) rfl (by decide +kernel) rfl rfl (Nat.le_of_ble_eq_true rfl) d_Program_addAction_157 ?_
  clear hP hS locs H
  intro H locs (hP : va_P (dC, dI) classes [oc pa 0 [.ref (pA 0), .ref (pA 1), .ref (pA 2), .ref (pA 3), .ref (pA 4), .ref (pA 5), .ref (pA 6), .ref (pA 7), .ref (pA 8), .ref (pA 9), .ref (pA 10), .int (nI T), .int (nI (Ac + 1))], ia (pA 0) (pK 0) 4 (fun i => nI ((pg 0) i)), ia (pA 1) (pK 1) 28 (fun i => nI ((updN (pg 1) (t * 7 + ((pg 0) t)) Ac) i)), ia (pA 2) (pK 2) 7 (fun i => nI ((updN (pg 2) Ac t) i)), ia (pA 3) (pK 3) 7 (fun i => nI ((updN (pg 3) Ac ((pg 0) t)) i)), ia (pA 4) (pK 4) 7 (fun i => nI ((updN (pg 4) Ac k) i)), ia (pA 5) (pK 5) 7 (fun i => nI ((updN (pg 5) Ac x) i)), ia (pA 6) (pK 6) 7 (fun i => nI ((updN (pg 6) Ac (t * 2 + rn)) i)), ia (pA 7) (pK 7) 7 (upd nm Ac v), ia (pA 8) (pK 8) 4 (fun i => nI ((updN (pg 8) t (pg 8 t ||| 2 ^ Ac)) i)), ia (pA 9) (pK 9) 6 (fun i => nI ((updN (pg 9) k (pg 9 k ||| 2 ^ Ac)) i)), ia (pA 10) (pK 10) 3 (fun i => nI ((updN (pg 10) x (pg 10 x ||| 2 ^ Ac)) i))] H) _ hS
  refine tp_pc (pc' := 160) (by rfl) ?_
  refine lv_aload_n hx hb d_Program_addAction_160 rfl (lv_at hl 2 rfl) ?_
  refine va_get (D := (dC, dI)) (ci := 0) (v := .ref (pA 0)) (C := R_Program) (T := F_Program) (N := 13) hx hb hw i_Program hown hK hP 0 rfl rfl 0 (by decide) (hw _ m_128) (fun _ h9 => h9) rfl d_Program_addAction_161 ?_
  refine lv_iload_n hx hb d_Program_addAction_164 rfl (lv_at hl 3 rfl) ?_
  refine lv_dup2_11 hx hb d_Program_addAction_165 rfl rfl ?_
  refine va_iald (D := (dC, dI)) hx hb hK hP 1 0 rfl rfl (i := nI t) (pk_in t 4 (by omega)) d_Program_addAction_166 ?_
  refine tp_i (y := nI ((pg 0) t)) (by rw [show (nI t : Int32).toNatClampNeg = t from pk_cl t]) ?_
  refine lv_iconst (v := 1) hx hb d_Program_addAction_167 (by decide) ?_
  refine lv_iadd hx hb d_Program_addAction_168 ?_
  refine tp_i (y := nI ((pg 0) t + 1)) (by exact nI_add ((pg 0) t) 1) ?_
  refine va_iast (D := (dC, dI)) hx hb hK hP (dd_D hD rfl) hS 1 0 rfl rfl (i := nI t) (x := nI ((pg 0) t + 1)) (pk_in t 4 (by omega)) d_Program_addAction_169 ?_
  clear hP hS locs H
  intro H locs hP _ hS
  rw [show (nI t : Int32).toNatClampNeg = t from pk_cl t] at hP
  rw [show upd (fun i => nI ((pg 0) i)) t (nI ((pg 0) t + 1)) = fun i => nI (updN (pg 0) t ((pg 0) t + 1) i) from upd_nI] at hP
  replace hP : va_P (dC, dI) classes [oc pa 0 [.ref (pA 0), .ref (pA 1), .ref (pA 2), .ref (pA 3), .ref (pA 4), .ref (pA 5), .ref (pA 6), .ref (pA 7), .ref (pA 8), .ref (pA 9), .ref (pA 10), .int (nI T), .int (nI (Ac + 1))], ia (pA 0) (pK 0) 4 (fun i => nI ((updN (pg 0) t ((pg 0) t + 1)) i)), ia (pA 1) (pK 1) 28 (fun i => nI ((updN (pg 1) (t * 7 + ((pg 0) t)) Ac) i)), ia (pA 2) (pK 2) 7 (fun i => nI ((updN (pg 2) Ac t) i)), ia (pA 3) (pK 3) 7 (fun i => nI ((updN (pg 3) Ac ((pg 0) t)) i)), ia (pA 4) (pK 4) 7 (fun i => nI ((updN (pg 4) Ac k) i)), ia (pA 5) (pK 5) 7 (fun i => nI ((updN (pg 5) Ac x) i)), ia (pA 6) (pK 6) 7 (fun i => nI ((updN (pg 6) Ac (t * 2 + rn)) i)), ia (pA 7) (pK 7) 7 (upd nm Ac v), ia (pA 8) (pK 8) 4 (fun i => nI ((updN (pg 8) t (pg 8 t ||| 2 ^ Ac)) i)), ia (pA 9) (pK 9) 6 (fun i => nI ((updN (pg 9) k (pg 9 k ||| 2 ^ Ac)) i)), ia (pA 10) (pK 10) 3 (fun i => nI ((updN (pg 10) x (pg 10 x ||| 2 ^ Ac)) i))] H := hP
  refine tp_pc (pc' := 170) (by rfl) ?_
  refine lv_aload_n hx hb d_Program_addAction_170 rfl (lv_at hl 2 rfl) ?_
  refine va_get (D := (dC, dI)) (ci := 0) (v := .ref (pA 0)) (C := R_Program) (T := F_Program) (N := 13) hx hb hw i_Program hown hK hP 0 rfl rfl 0 (by decide) (hw _ m_128) (fun _ h9 => h9) rfl d_Program_addAction_171 ?_
  refine lv_iload_n hx hb d_Program_addAction_174 rfl (lv_at hl 3 rfl) ?_
  refine va_iald (D := (dC, dI)) hx hb hK hP 1 0 rfl rfl (i := nI t) (pk_in t 4 (by omega)) d_Program_addAction_175 ?_
  refine tp_i (y := nI ((updN (pg 0) t ((pg 0) t + 1)) t)) (by rw [show (nI t : Int32).toNatClampNeg = t from pk_cl t]) ?_
  refine tp_i (y := nI (pg 0 t + 1)) (congrArg nI (if_pos rfl)) ?_
  have hx10 : updN (pg 10) x (pg 10 x ||| 2 ^ Ac) = addA pg t Ac k x rn 10 := by simp [addA, hk4]
  rw [hx10] at hP
  replace hP : va_P (dC, dI) classes [oc pa 0 [.ref (pA 0), .ref (pA 1), .ref (pA 2), .ref (pA 3), .ref (pA 4), .ref (pA 5), .ref (pA 6), .ref (pA 7), .ref (pA 8), .ref (pA 9), .ref (pA 10), .int (nI T), .int (nI (Ac + 1))], ia (pA 0) (pK 0) 4 (fun i => nI ((addA pg t Ac k x rn 0) i)), ia (pA 1) (pK 1) 28 (fun i => nI ((addA pg t Ac k x rn 1) i)), ia (pA 2) (pK 2) 7 (fun i => nI ((addA pg t Ac k x rn 2) i)), ia (pA 3) (pK 3) 7 (fun i => nI ((addA pg t Ac k x rn 3) i)), ia (pA 4) (pK 4) 7 (fun i => nI ((addA pg t Ac k x rn 4) i)), ia (pA 5) (pK 5) 7 (fun i => nI ((addA pg t Ac k x rn 5) i)), ia (pA 6) (pK 6) 7 (fun i => nI ((addA pg t Ac k x rn 6) i)), ia (pA 7) (pK 7) 7 (upd nm Ac v), ia (pA 8) (pK 8) 4 (fun i => nI ((addA pg t Ac k x rn 8) i)), ia (pA 9) (pK 9) 6 (fun i => nI ((addA pg t Ac k x rn 9) i)), ia (pA 10) (pK 10) 3 (fun i => nI ((addA pg t Ac k x rn 10) i))] H := hP
  obtain ⟨hP9, hD9, -⟩ := cut3 (wc := [oc pa 0 [.ref (pA 0), .ref (pA 1), .ref (pA 2), .ref (pA 3), .ref (pA 4), .ref (pA 5), .ref (pA 6), .ref (pA 7), .ref (pA 8), .ref (pA 9), .ref (pA 10), .int (nI T), .int (nI (Ac + 1))], ia (pA 0) (pK 0) 4 (fun i => nI ((addA pg t Ac k x rn 0) i)), ia (pA 1) (pK 1) 28 (fun i => nI ((addA pg t Ac k x rn 1) i)), ia (pA 2) (pK 2) 7 (fun i => nI ((addA pg t Ac k x rn 2) i)), ia (pA 3) (pK 3) 7 (fun i => nI ((addA pg t Ac k x rn 3) i)), ia (pA 4) (pK 4) 7 (fun i => nI ((addA pg t Ac k x rn 4) i)), ia (pA 5) (pK 5) 7 (fun i => nI ((addA pg t Ac k x rn 5) i)), ia (pA 6) (pK 6) 7 (fun i => nI ((addA pg t Ac k x rn 6) i)), ia (pA 7) (pK 7) 7 (upd nm Ac v), ia (pA 8) (pK 8) 4 (fun i => nI ((addA pg t Ac k x rn 8) i)), ia (pA 9) (pK 9) 6 (fun i => nI ((addA pg t Ac k x rn 9) i)), ia (pA 10) (pK 10) 3 (fun i => nI ((addA pg t Ac k x rn 10) i))]) hP hD rfl hS hA [0, 1, 2, 3, 4, 5, 6, 7, 8, 9, 10, 11] (by decide +kernel) rfl
  have hK9 := hK.sub (tys' := []) [] rfl
  refine W.widen (k := 0) (n := 0) (by exact Nat.le_of_ble_eq_true rfl) (by exact Nat.le_of_ble_eq_true rfl) ?_
  exact W.iret (v := (nI (pg 0 t + 1))) hx hb hr (fun t9 ht9 hW => ⟨⟨nI (pg 0 t + 1), (), rfl, rfl, by rw [ht9]; exact hP9, va_K.moved hW.alike hK9, hD9⟩, hS.F ht9⟩) hS.2.2 d_Program_addAction_176
set_option maxHeartbeats 4000000 in
set_option maxRecDepth 100000 in
theorem gen_Program_addAction_o (l : Launch) (dC : Nat → ClassId) (dI : Nat → Nat → Nat) (pa : Nat) (pA : Nat → Nat) (pK : Nat → ClassId) (T Ac : Nat) (pg : Nat → Nat → Nat) (nm : Nat → Int32) (t k x rn : Nat) (v : Int32) (hT : T ≤ 4) (ht : t < T) (hA7 : Ac < 7) (hl6 : pg 0 t ≤ 6) (hk6 : k < 6) (hx9 : x < 4) (hr2 : rn < 2) (h8 : pg 8 t < 128) (h9 : pg 9 k < 128) (hk4 : 4 ≤ k) (sz : Nat) : Met l y_Program_addAction w_Program_addAction ({ frames := 0, cells := 0, slots := 0, locals := 0 }) (va_Pc [.ref pa, .int (nI t), .int (nI k), .int (nI x), .int (nI rn), .int v] (fun U => U.heap.size = sz ∧ va_P (dC, dI) classes [oc pa 0 [.ref (pA 0), .ref (pA 1), .ref (pA 2), .ref (pA 3), .ref (pA 4), .ref (pA 5), .ref (pA 6), .ref (pA 7), .ref (pA 8), .ref (pA 9), .ref (pA 10), .int (nI T), .int (nI Ac)], ia (pA 0) (pK 0) 4 (fun i => nI ((pg 0) i)), ia (pA 1) (pK 1) 28 (fun i => nI ((pg 1) i)), ia (pA 2) (pK 2) 7 (fun i => nI ((pg 2) i)), ia (pA 3) (pK 3) 7 (fun i => nI ((pg 3) i)), ia (pA 4) (pK 4) 7 (fun i => nI ((pg 4) i)), ia (pA 5) (pK 5) 7 (fun i => nI ((pg 5) i)), ia (pA 6) (pK 6) 7 (fun i => nI ((pg 6) i)), ia (pA 7) (pK 7) 7 nm, ia (pA 8) (pK 8) 4 (fun i => nI ((pg 8) i)), ia (pA 9) (pK 9) 6 (fun i => nI ((pg 9) i)), ia (pA 10) (pK 10) 3 (fun i => nI ((pg 10) i))] U.heap ∧ va_K (dC, dI) classes [((pK 0), .int), ((pK 1), .int), ((pK 2), .int), ((pK 3), .int), ((pK 4), .int), ((pK 5), .int), ((pK 6), .int), ((pK 7), .int), ((pK 8), .int), ((pK 9), .int), ((pK 10), .int)] U ∧ va_D (fun _ => True) [oc pa 0 [.ref (pA 0), .ref (pA 1), .ref (pA 2), .ref (pA 3), .ref (pA 4), .ref (pA 5), .ref (pA 6), .ref (pA 7), .ref (pA 8), .ref (pA 9), .ref (pA 10), .int (nI T), .int (nI Ac)], ia (pA 0) (pK 0) 4 (fun i => nI ((pg 0) i)), ia (pA 1) (pK 1) 28 (fun i => nI ((pg 1) i)), ia (pA 2) (pK 2) 7 (fun i => nI ((pg 2) i)), ia (pA 3) (pK 3) 7 (fun i => nI ((pg 3) i)), ia (pA 4) (pK 4) 7 (fun i => nI ((pg 4) i)), ia (pA 5) (pK 5) 7 (fun i => nI ((pg 5) i)), ia (pA 6) (pK 6) 7 (fun i => nI ((pg 6) i)), ia (pA 7) (pK 7) 7 nm, ia (pA 8) (pK 8) 4 (fun i => nI ((pg 8) i)), ia (pA 9) (pK 9) 6 (fun i => nI ((pg 9) i)), ia (pA 10) (pK 10) 3 (fun i => nI ((pg 10) i))] ∧ nw U)) (va_Qi (fun (r : Int32) (_ : Unit) => r = nI (pg 0 t + 1)) (fun _ t9 => va_P (dC, dI) classes [oc pa 0 [.ref (pA 0), .ref (pA 1), .ref (pA 2), .ref (pA 3), .ref (pA 4), .ref (pA 5), .ref (pA 6), .ref (pA 7), .ref (pA 8), .ref (pA 9), .ref (pA 10), .int (nI T), .int (nI (Ac + 1))], ia (pA 0) (pK 0) 4 (fun i => nI ((addA pg t Ac k x rn 0) i)), ia (pA 1) (pK 1) 28 (fun i => nI ((addA pg t Ac k x rn 1) i)), ia (pA 2) (pK 2) 7 (fun i => nI ((addA pg t Ac k x rn 2) i)), ia (pA 3) (pK 3) 7 (fun i => nI ((addA pg t Ac k x rn 3) i)), ia (pA 4) (pK 4) 7 (fun i => nI ((addA pg t Ac k x rn 4) i)), ia (pA 5) (pK 5) 7 (fun i => nI ((addA pg t Ac k x rn 5) i)), ia (pA 6) (pK 6) 7 (fun i => nI ((addA pg t Ac k x rn 6) i)), ia (pA 7) (pK 7) 7 (upd nm Ac v), ia (pA 8) (pK 8) 4 (fun i => nI ((addA pg t Ac k x rn 8) i)), ia (pA 9) (pK 9) 6 (fun i => nI ((addA pg t Ac k x rn 9) i)), ia (pA 10) (pK 10) 3 (fun i => nI ((addA pg t Ac k x rn 10) i))] t9.heap ∧ va_K (dC, dI) classes [] t9 ∧ va_D (va_A [oc pa 0 [.ref (pA 0), .ref (pA 1), .ref (pA 2), .ref (pA 3), .ref (pA 4), .ref (pA 5), .ref (pA 6), .ref (pA 7), .ref (pA 8), .ref (pA 9), .ref (pA 10), .int (nI T), .int (nI Ac)], ia (pA 0) (pK 0) 4 (fun i => nI ((pg 0) i)), ia (pA 1) (pK 1) 28 (fun i => nI ((pg 1) i)), ia (pA 2) (pK 2) 7 (fun i => nI ((pg 2) i)), ia (pA 3) (pK 3) 7 (fun i => nI ((pg 3) i)), ia (pA 4) (pK 4) 7 (fun i => nI ((pg 4) i)), ia (pA 5) (pK 5) 7 (fun i => nI ((pg 5) i)), ia (pA 6) (pK 6) 7 (fun i => nI ((pg 6) i)), ia (pA 7) (pK 7) 7 nm, ia (pA 8) (pK 8) 4 (fun i => nI ((pg 8) i)), ia (pA 9) (pK 9) 6 (fun i => nI ((pg 9) i)), ia (pA 10) (pK 10) 3 (fun i => nI ((pg 10) i))] sz) [oc pa 0 [.ref (pA 0), .ref (pA 1), .ref (pA 2), .ref (pA 3), .ref (pA 4), .ref (pA 5), .ref (pA 6), .ref (pA 7), .ref (pA 8), .ref (pA 9), .ref (pA 10), .int (nI T), .int (nI (Ac + 1))], ia (pA 0) (pK 0) 4 (fun i => nI ((addA pg t Ac k x rn 0) i)), ia (pA 1) (pK 1) 28 (fun i => nI ((addA pg t Ac k x rn 1) i)), ia (pA 2) (pK 2) 7 (fun i => nI ((addA pg t Ac k x rn 2) i)), ia (pA 3) (pK 3) 7 (fun i => nI ((addA pg t Ac k x rn 3) i)), ia (pA 4) (pK 4) 7 (fun i => nI ((addA pg t Ac k x rn 4) i)), ia (pA 5) (pK 5) 7 (fun i => nI ((addA pg t Ac k x rn 5) i)), ia (pA 6) (pK 6) 7 (fun i => nI ((addA pg t Ac k x rn 6) i)), ia (pA 7) (pK 7) 7 (upd nm Ac v), ia (pA 8) (pK 8) 4 (fun i => nI ((addA pg t Ac k x rn 8) i)), ia (pA 9) (pK 9) 6 (fun i => nI ((addA pg t Ac k x rn 9) i)), ia (pA 10) (pK 10) 3 (fun i => nI ((addA pg t Ac k x rn 10) i))]) (va_A [oc pa 0 [.ref (pA 0), .ref (pA 1), .ref (pA 2), .ref (pA 3), .ref (pA 4), .ref (pA 5), .ref (pA 6), .ref (pA 7), .ref (pA 8), .ref (pA 9), .ref (pA 10), .int (nI T), .int (nI Ac)], ia (pA 0) (pK 0) 4 (fun i => nI ((pg 0) i)), ia (pA 1) (pK 1) 28 (fun i => nI ((pg 1) i)), ia (pA 2) (pK 2) 7 (fun i => nI ((pg 2) i)), ia (pA 3) (pK 3) 7 (fun i => nI ((pg 3) i)), ia (pA 4) (pK 4) 7 (fun i => nI ((pg 4) i)), ia (pA 5) (pK 5) 7 (fun i => nI ((pg 5) i)), ia (pA 6) (pK 6) 7 (fun i => nI ((pg 6) i)), ia (pA 7) (pK 7) 7 nm, ia (pA 8) (pK 8) 4 (fun i => nI ((pg 8) i)), ia (pA 9) (pK 9) 6 (fun i => nI ((pg 9) i)), ia (pA 10) (pK 10) 3 (fun i => nI ((pg 10) i))] sz)) 0 0 (va_A [oc pa 0 [.ref (pA 0), .ref (pA 1), .ref (pA 2), .ref (pA 3), .ref (pA 4), .ref (pA 5), .ref (pA 6), .ref (pA 7), .ref (pA 8), .ref (pA 9), .ref (pA 10), .int (nI T), .int (nI Ac)], ia (pA 0) (pK 0) 4 (fun i => nI ((pg 0) i)), ia (pA 1) (pK 1) 28 (fun i => nI ((pg 1) i)), ia (pA 2) (pK 2) 7 (fun i => nI ((pg 2) i)), ia (pA 3) (pK 3) 7 (fun i => nI ((pg 3) i)), ia (pA 4) (pK 4) 7 (fun i => nI ((pg 4) i)), ia (pA 5) (pK 5) 7 (fun i => nI ((pg 5) i)), ia (pA 6) (pK 6) 7 (fun i => nI ((pg 6) i)), ia (pA 7) (pK 7) 7 nm, ia (pA 8) (pK 8) 4 (fun i => nI ((pg 8) i)), ia (pA 9) (pK 9) 6 (fun i => nI ((pg 9) i)), ia (pA 10) (pK 10) 3 (fun i => nI ((pg 10) i))] sz) := by
  refine Met.ofW (cc := b_Program_addAction) (maxL := 8) (ret := (some .int)) (by decide) rfl ?_
  intro p e0 s m args below meth c s₁ B hml hv
  obtain ⟨rfl, hsz, hP, hK, hD0, hn⟩ := hv
  have hx := B.exec
  have hb := B.bytes
  have hr := B.returns
  have hw := fun w (h : w ∈ wt) => atoms_spec (ws := w_Program_addAction) B.pre w (List.mem_cons_of_mem _ h)
  have hown : s.vm.findClass R_Program = some m.cls := findClass_of_methodNamed B.named
  have hlocks := B.notSynchronized
  subst hsz
  have hD1 := hD0.self (sz := s.heap.size)
  generalize hAe : va_A [oc pa 0 [.ref (pA 0), .ref (pA 1), .ref (pA 2), .ref (pA 3), .ref (pA 4), .ref (pA 5), .ref (pA 6), .ref (pA 7), .ref (pA 8), .ref (pA 9), .ref (pA 10), .int (nI T), .int (nI Ac)], ia (pA 0) (pK 0) 4 (fun i => nI ((pg 0) i)), ia (pA 1) (pK 1) 28 (fun i => nI ((pg 1) i)), ia (pA 2) (pK 2) 7 (fun i => nI ((pg 2) i)), ia (pA 3) (pK 3) 7 (fun i => nI ((pg 3) i)), ia (pA 4) (pK 4) 7 (fun i => nI ((pg 4) i)), ia (pA 5) (pK 5) 7 (fun i => nI ((pg 5) i)), ia (pA 6) (pK 6) 7 (fun i => nI ((pg 6) i)), ia (pA 7) (pK 7) 7 nm, ia (pA 8) (pK 8) 4 (fun i => nI ((pg 8) i)), ia (pA 9) (pK 9) 6 (fun i => nI ((pg 9) i)), ia (pA 10) (pK 10) 3 (fun i => nI ((pg 10) i))] s.heap.size = A at hD1 ⊢
  have hA : ∀ q : Nat, s.heap.size ≤ q → A q := fun q h => by rw [← hAe]; exact Or.inr h
  have hD : dd A [pa, (pA 0), (pA 1), (pA 2), (pA 3), (pA 4), (pA 5), (pA 6), (pA 7), (pA 8), (pA 9), (pA 10)] := dd_of hD1 rfl
  clear hAe hD0 hD1
  have hS : va_S A s.heap s.heap [] := va_S.rf
  replace hP : va_P (dC, dI) classes [oc pa 0 [.ref (pA 0), .ref (pA 1), .ref (pA 2), .ref (pA 3), .ref (pA 4), .ref (pA 5), .ref (pA 6), .ref (pA 7), .ref (pA 8), .ref (pA 9), .ref (pA 10), .int (nI T), .int (nI Ac)], ia (pA 0) (pK 0) 4 (fun i => nI ((pg 0) i)), ia (pA 1) (pK 1) 28 (fun i => nI ((pg 1) i)), ia (pA 2) (pK 2) 7 (fun i => nI ((pg 2) i)), ia (pA 3) (pK 3) 7 (fun i => nI ((pg 3) i)), ia (pA 4) (pK 4) 7 (fun i => nI ((pg 4) i)), ia (pA 5) (pK 5) 7 (fun i => nI ((pg 5) i)), ia (pA 6) (pK 6) 7 (fun i => nI ((pg 6) i)), ia (pA 7) (pK 7) 7 nm, ia (pA 8) (pK 8) 4 (fun i => nI ((pg 8) i)), ia (pA 9) (pK 9) 6 (fun i => nI ((pg 9) i)), ia (pA 10) (pK 10) 3 (fun i => nI ((pg 10) i))] s.heap := hP
  have hl := lv_entry ([.ref pa, .int (nI t), .int (nI k), .int (nI x), .int (nI rn), .int v]) (n := 8) (Nat.le_of_ble_eq_true rfl)
  rw [lg_entry_eq]
  generalize (lg_sl ([.ref pa, .int (nI t), .int (nI k), .int (nI x), .int (nI rn), .int v]) ++ List.replicate (8 - (lg_sl ([.ref pa, .int (nI t), .int (nI k), .int (nI x), .int (nI rn), .int v])).length) Slot.unset).toArray = ls at hl ⊢
  replace hl : lv_has ls 8 [(0, .ref pa), (1, .int (nI t)), (2, .int (nI k)), (3, .int (nI x)), (4, .int (nI rn)), (5, .int v)] := hl
  refine lv_iload_n hx hb d_Program_addAction_0 rfl (lv_at hl 1 rfl) ?_
  refine lv_if_lt (tgt := 21) hx hb d_Program_addAction_1 (by decide) (fun c9 => absurd c9 (nI_pos (by omega))) (fun c9 => ?_)
  refine tp_pc (pc' := 4) (by rfl) ?_
  refine lv_iload_n hx hb d_Program_addAction_4 rfl (lv_at hl 1 rfl) ?_
  refine lv_aload_n hx hb d_Program_addAction_5 rfl (lv_at hl 0 rfl) ?_
  refine va_get (D := (dC, dI)) (ci := 0) (v := .int (nI T)) (C := R_Program) (T := F_Program) (N := 13) hx hb hw i_Program hown hK hP 0 rfl rfl 11 (by decide) (hw _ m_160) (fun _ h9 => h9) rfl d_Program_addAction_6 ?_
  refine lv_icmp_ge (tgt := 21) hx hb d_Program_addAction_9 (by decide) (fun c9 => absurd c9 (nI_ge ht (by omega))) (fun c9 => ?_)
  refine tp_pc (pc' := 12) (by rfl) ?_
  refine lv_aload_n hx hb d_Program_addAction_12 rfl (lv_at hl 0 rfl) ?_
  refine va_get (D := (dC, dI)) (ci := 0) (v := .int (nI Ac)) (C := R_Program) (T := F_Program) (N := 13) hx hb hw i_Program hown hK hP 0 rfl rfl 12 (by decide) (hw _ m_165) (fun _ h9 => h9) rfl d_Program_addAction_13 ?_
  refine lv_bipush (v := 7) hx hb d_Program_addAction_16 (by decide) ?_
  refine lv_icmp_lt (tgt := 23) hx hb d_Program_addAction_18 (by decide) (fun c9 => ?_) (fun c9 => absurd ((nI_ltI (a := Ac) (b := 7) (by omega) (by omega)).mpr hA7) c9)
  refine tp_pc (pc' := 23) (by rfl) ?_
  refine lv_aload_n hx hb d_Program_addAction_23 rfl (lv_at hl 0 rfl) ?_
  refine va_get (D := (dC, dI)) (ci := 0) (v := .int (nI Ac)) (C := R_Program) (T := F_Program) (N := 13) hx hb hw i_Program hown hK hP 0 rfl rfl 12 (by decide) (hw _ m_165) (fun _ h9 => h9) rfl d_Program_addAction_24 ?_
  refine lv_istore (lv' := [(6, .int (nI Ac)), (0, .ref pa), (1, .int (nI t)), (2, .int (nI k)), (3, .int (nI x)), (4, .int (nI rn)), (5, .int v)]) hx hb d_Program_addAction_27 hl (by decide) rfl ?_
  clear hl ls
  intro ls hl
  refine lv_iconst (v := 1) hx hb d_Program_addAction_29 (by decide) ?_
  refine lv_iload hx hb d_Program_addAction_30 (lv_at hl 0 rfl) ?_
  refine lv_ishl hx hb d_Program_addAction_32 ?_
  refine tp_i (y := 1 <<< ((nI Ac) &&& 31)) rfl ?_
  refine lv_istore (lv' := [(7, .int (1 <<< ((nI Ac) &&& 31))), (6, .int (nI Ac)), (0, .ref pa), (1, .int (nI t)), (2, .int (nI k)), (3, .int (nI x)), (4, .int (nI rn)), (5, .int v)]) hx hb d_Program_addAction_33 hl (by decide) rfl ?_
  clear hl ls
  intro ls hl
  refine lv_aload_n hx hb d_Program_addAction_35 rfl (lv_at hl 2 rfl) ?_
  refine va_get (D := (dC, dI)) (ci := 0) (v := .ref (pA 1)) (C := R_Program) (T := F_Program) (N := 13) hx hb hw i_Program hown hK hP 0 rfl rfl 1 (by decide) (hw _ m_129) (fun _ h9 => h9) rfl d_Program_addAction_36 ?_
  refine lv_iload_n hx hb d_Program_addAction_39 rfl (lv_at hl 3 rfl) ?_
  refine lv_bipush (v := 7) hx hb d_Program_addAction_40 (by decide) ?_
  refine lv_imul hx hb d_Program_addAction_42 ?_
  refine tp_i (y := nI (t * 7)) (by exact pk_mul t 7) ?_
  refine lv_aload_n hx hb d_Program_addAction_43 rfl (lv_at hl 2 rfl) ?_
  refine va_get (D := (dC, dI)) (ci := 0) (v := .ref (pA 0)) (C := R_Program) (T := F_Program) (N := 13) hx hb hw i_Program hown hK hP 0 rfl rfl 0 (by decide) (hw _ m_128) (fun _ h9 => h9) rfl d_Program_addAction_44 ?_
  refine lv_iload_n hx hb d_Program_addAction_47 rfl (lv_at hl 3 rfl) ?_
  refine va_iald (D := (dC, dI)) hx hb hK hP 1 0 rfl rfl (i := nI t) (pk_in t 4 (by omega)) d_Program_addAction_48 ?_
  refine tp_i (y := nI ((pg 0) t)) (by rw [show (nI t : Int32).toNatClampNeg = t from pk_cl t]) ?_
  refine lv_iadd hx hb d_Program_addAction_49 ?_
  refine tp_i (y := nI (t * 7 + ((pg 0) t))) (by exact nI_add (t * 7) ((pg 0) t)) ?_
  refine lv_iload hx hb d_Program_addAction_50 (lv_at hl 1 rfl) ?_
  refine va_iast (D := (dC, dI)) hx hb hK hP (dd_D hD rfl) hS 2 1 rfl rfl (i := nI (t * 7 + ((pg 0) t))) (x := nI Ac) (pk_in (t * 7 + ((pg 0) t)) 28 (by omega)) d_Program_addAction_52 ?_
  clear hP hS
  intro H locs hP _ hS
  rw [show (nI (t * 7 + ((pg 0) t)) : Int32).toNatClampNeg = t * 7 + ((pg 0) t) from pk_cl (t * 7 + ((pg 0) t))] at hP
  rw [show upd (fun i => nI ((pg 1) i)) (t * 7 + ((pg 0) t)) (nI Ac) = fun i => nI (updN (pg 1) (t * 7 + ((pg 0) t)) Ac i) from upd_nI] at hP
  replace hP : va_P (dC, dI) classes [oc pa 0 [.ref (pA 0), .ref (pA 1), .ref (pA 2), .ref (pA 3), .ref (pA 4), .ref (pA 5), .ref (pA 6), .ref (pA 7), .ref (pA 8), .ref (pA 9), .ref (pA 10), .int (nI T), .int (nI Ac)], ia (pA 0) (pK 0) 4 (fun i => nI ((pg 0) i)), ia (pA 1) (pK 1) 28 (fun i => nI ((updN (pg 1) (t * 7 + ((pg 0) t)) Ac) i)), ia (pA 2) (pK 2) 7 (fun i => nI ((pg 2) i)), ia (pA 3) (pK 3) 7 (fun i => nI ((pg 3) i)), ia (pA 4) (pK 4) 7 (fun i => nI ((pg 4) i)), ia (pA 5) (pK 5) 7 (fun i => nI ((pg 5) i)), ia (pA 6) (pK 6) 7 (fun i => nI ((pg 6) i)), ia (pA 7) (pK 7) 7 nm, ia (pA 8) (pK 8) 4 (fun i => nI ((pg 8) i)), ia (pA 9) (pK 9) 6 (fun i => nI ((pg 9) i)), ia (pA 10) (pK 10) 3 (fun i => nI ((pg 10) i))] H := hP
  refine tp_pc (pc' := 53) (by rfl) ?_
  refine lv_aload_n hx hb d_Program_addAction_53 rfl (lv_at hl 2 rfl) ?_
  refine va_get (D := (dC, dI)) (ci := 0) (v := .ref (pA 2)) (C := R_Program) (T := F_Program) (N := 13) hx hb hw i_Program hown hK hP 0 rfl rfl 2 (by decide) (hw _ m_130) (fun _ h9 => h9) rfl d_Program_addAction_54 ?_
  refine lv_iload hx hb d_Program_addAction_57 (lv_at hl 1 rfl) ?_
  refine lv_iload_n hx hb d_Program_addAction_59 rfl (lv_at hl 3 rfl) ?_
  refine va_iast (D := (dC, dI)) hx hb hK hP (dd_D hD rfl) hS 3 2 rfl rfl (i := nI Ac) (x := nI t) (pk_in Ac 7 (by omega)) d_Program_addAction_60 ?_
  clear hP hS locs H
  intro H locs hP _ hS
  rw [show (nI Ac : Int32).toNatClampNeg = Ac from pk_cl Ac] at hP
  rw [show upd (fun i => nI ((pg 2) i)) Ac (nI t) = fun i => nI (updN (pg 2) Ac t i) from upd_nI] at hP
  replace hP : va_P (dC, dI) classes [oc pa 0 [.ref (pA 0), .ref (pA 1), .ref (pA 2), .ref (pA 3), .ref (pA 4), .ref (pA 5), .ref (pA 6), .ref (pA 7), .ref (pA 8), .ref (pA 9), .ref (pA 10), .int (nI T), .int (nI Ac)], ia (pA 0) (pK 0) 4 (fun i => nI ((pg 0) i)), ia (pA 1) (pK 1) 28 (fun i => nI ((updN (pg 1) (t * 7 + ((pg 0) t)) Ac) i)), ia (pA 2) (pK 2) 7 (fun i => nI ((updN (pg 2) Ac t) i)), ia (pA 3) (pK 3) 7 (fun i => nI ((pg 3) i)), ia (pA 4) (pK 4) 7 (fun i => nI ((pg 4) i)), ia (pA 5) (pK 5) 7 (fun i => nI ((pg 5) i)), ia (pA 6) (pK 6) 7 (fun i => nI ((pg 6) i)), ia (pA 7) (pK 7) 7 nm, ia (pA 8) (pK 8) 4 (fun i => nI ((pg 8) i)), ia (pA 9) (pK 9) 6 (fun i => nI ((pg 9) i)), ia (pA 10) (pK 10) 3 (fun i => nI ((pg 10) i))] H := hP
  refine tp_pc (pc' := 61) (by rfl) ?_
  refine lv_aload_n hx hb d_Program_addAction_61 rfl (lv_at hl 2 rfl) ?_
  refine va_get (D := (dC, dI)) (ci := 0) (v := .ref (pA 3)) (C := R_Program) (T := F_Program) (N := 13) hx hb hw i_Program hown hK hP 0 rfl rfl 3 (by decide) (hw _ m_135) (fun _ h9 => h9) rfl d_Program_addAction_62 ?_
  refine lv_iload hx hb d_Program_addAction_65 (lv_at hl 1 rfl) ?_
  refine lv_aload_n hx hb d_Program_addAction_67 rfl (lv_at hl 2 rfl) ?_
  refine va_get (D := (dC, dI)) (ci := 0) (v := .ref (pA 0)) (C := R_Program) (T := F_Program) (N := 13) hx hb hw i_Program hown hK hP 0 rfl rfl 0 (by decide) (hw _ m_128) (fun _ h9 => h9) rfl d_Program_addAction_68 ?_
  refine lv_iload_n hx hb d_Program_addAction_71 rfl (lv_at hl 3 rfl) ?_
  refine va_iald (D := (dC, dI)) hx hb hK hP 1 0 rfl rfl (i := nI t) (pk_in t 4 (by omega)) d_Program_addAction_72 ?_
  refine tp_i (y := nI ((pg 0) t)) (by rw [show (nI t : Int32).toNatClampNeg = t from pk_cl t]) ?_
  refine va_iast (D := (dC, dI)) hx hb hK hP (dd_D hD rfl) hS 4 3 rfl rfl (i := nI Ac) (x := nI ((pg 0) t)) (pk_in Ac 7 (by omega)) d_Program_addAction_73 ?_
  clear hP hS locs H
  intro H locs hP _ hS
  rw [show (nI Ac : Int32).toNatClampNeg = Ac from pk_cl Ac] at hP
  rw [show upd (fun i => nI ((pg 3) i)) Ac (nI ((pg 0) t)) = fun i => nI (updN (pg 3) Ac ((pg 0) t) i) from upd_nI] at hP
  replace hP : va_P (dC, dI) classes [oc pa 0 [.ref (pA 0), .ref (pA 1), .ref (pA 2), .ref (pA 3), .ref (pA 4), .ref (pA 5), .ref (pA 6), .ref (pA 7), .ref (pA 8), .ref (pA 9), .ref (pA 10), .int (nI T), .int (nI Ac)], ia (pA 0) (pK 0) 4 (fun i => nI ((pg 0) i)), ia (pA 1) (pK 1) 28 (fun i => nI ((updN (pg 1) (t * 7 + ((pg 0) t)) Ac) i)), ia (pA 2) (pK 2) 7 (fun i => nI ((updN (pg 2) Ac t) i)), ia (pA 3) (pK 3) 7 (fun i => nI ((updN (pg 3) Ac ((pg 0) t)) i)), ia (pA 4) (pK 4) 7 (fun i => nI ((pg 4) i)), ia (pA 5) (pK 5) 7 (fun i => nI ((pg 5) i)), ia (pA 6) (pK 6) 7 (fun i => nI ((pg 6) i)), ia (pA 7) (pK 7) 7 nm, ia (pA 8) (pK 8) 4 (fun i => nI ((pg 8) i)), ia (pA 9) (pK 9) 6 (fun i => nI ((pg 9) i)), ia (pA 10) (pK 10) 3 (fun i => nI ((pg 10) i))] H := hP
  refine tp_pc (pc' := 74) (by rfl) ?_
  refine lv_aload_n hx hb d_Program_addAction_74 rfl (lv_at hl 2 rfl) ?_
  refine va_get (D := (dC, dI)) (ci := 0) (v := .ref (pA 4)) (C := R_Program) (T := F_Program) (N := 13) hx hb hw i_Program hown hK hP 0 rfl rfl 4 (by decide) (hw _ m_138) (fun _ h9 => h9) rfl d_Program_addAction_75 ?_
  refine lv_iload hx hb d_Program_addAction_78 (lv_at hl 1 rfl) ?_
  refine lv_iload_n hx hb d_Program_addAction_80 rfl (lv_at hl 4 rfl) ?_
  refine va_iast (D := (dC, dI)) hx hb hK hP (dd_D hD rfl) hS 5 4 rfl rfl (i := nI Ac) (x := nI k) (pk_in Ac 7 (by omega)) d_Program_addAction_81 ?_
  clear hP hS locs H
  intro H locs hP _ hS
  rw [show (nI Ac : Int32).toNatClampNeg = Ac from pk_cl Ac] at hP
  rw [show upd (fun i => nI ((pg 4) i)) Ac (nI k) = fun i => nI (updN (pg 4) Ac k i) from upd_nI] at hP
  replace hP : va_P (dC, dI) classes [oc pa 0 [.ref (pA 0), .ref (pA 1), .ref (pA 2), .ref (pA 3), .ref (pA 4), .ref (pA 5), .ref (pA 6), .ref (pA 7), .ref (pA 8), .ref (pA 9), .ref (pA 10), .int (nI T), .int (nI Ac)], ia (pA 0) (pK 0) 4 (fun i => nI ((pg 0) i)), ia (pA 1) (pK 1) 28 (fun i => nI ((updN (pg 1) (t * 7 + ((pg 0) t)) Ac) i)), ia (pA 2) (pK 2) 7 (fun i => nI ((updN (pg 2) Ac t) i)), ia (pA 3) (pK 3) 7 (fun i => nI ((updN (pg 3) Ac ((pg 0) t)) i)), ia (pA 4) (pK 4) 7 (fun i => nI ((updN (pg 4) Ac k) i)), ia (pA 5) (pK 5) 7 (fun i => nI ((pg 5) i)), ia (pA 6) (pK 6) 7 (fun i => nI ((pg 6) i)), ia (pA 7) (pK 7) 7 nm, ia (pA 8) (pK 8) 4 (fun i => nI ((pg 8) i)), ia (pA 9) (pK 9) 6 (fun i => nI ((pg 9) i)), ia (pA 10) (pK 10) 3 (fun i => nI ((pg 10) i))] H := hP
  refine tp_pc (pc' := 82) (by rfl) ?_
  refine lv_aload_n hx hb d_Program_addAction_82 rfl (lv_at hl 2 rfl) ?_
  refine va_get (D := (dC, dI)) (ci := 0) (v := .ref (pA 5)) (C := R_Program) (T := F_Program) (N := 13) hx hb hw i_Program hown hK hP 0 rfl rfl 5 (by decide) (hw _ m_143) (fun _ h9 => h9) rfl d_Program_addAction_83 ?_
  refine lv_iload hx hb d_Program_addAction_86 (lv_at hl 1 rfl) ?_
  refine lv_iload_n hx hb d_Program_addAction_88 rfl (lv_at hl 5 rfl) ?_
  refine va_iast (D := (dC, dI)) hx hb hK hP (dd_D hD rfl) hS 6 5 rfl rfl (i := nI Ac) (x := nI x) (pk_in Ac 7 (by omega)) d_Program_addAction_89 ?_
  clear hP hS locs H
  intro H locs hP _ hS
  rw [show (nI Ac : Int32).toNatClampNeg = Ac from pk_cl Ac] at hP
  rw [show upd (fun i => nI ((pg 5) i)) Ac (nI x) = fun i => nI (updN (pg 5) Ac x i) from upd_nI] at hP
  replace hP : va_P (dC, dI) classes [oc pa 0 [.ref (pA 0), .ref (pA 1), .ref (pA 2), .ref (pA 3), .ref (pA 4), .ref (pA 5), .ref (pA 6), .ref (pA 7), .ref (pA 8), .ref (pA 9), .ref (pA 10), .int (nI T), .int (nI Ac)], ia (pA 0) (pK 0) 4 (fun i => nI ((pg 0) i)), ia (pA 1) (pK 1) 28 (fun i => nI ((updN (pg 1) (t * 7 + ((pg 0) t)) Ac) i)), ia (pA 2) (pK 2) 7 (fun i => nI ((updN (pg 2) Ac t) i)), ia (pA 3) (pK 3) 7 (fun i => nI ((updN (pg 3) Ac ((pg 0) t)) i)), ia (pA 4) (pK 4) 7 (fun i => nI ((updN (pg 4) Ac k) i)), ia (pA 5) (pK 5) 7 (fun i => nI ((updN (pg 5) Ac x) i)), ia (pA 6) (pK 6) 7 (fun i => nI ((pg 6) i)), ia (pA 7) (pK 7) 7 nm, ia (pA 8) (pK 8) 4 (fun i => nI ((pg 8) i)), ia (pA 9) (pK 9) 6 (fun i => nI ((pg 9) i)), ia (pA 10) (pK 10) 3 (fun i => nI ((pg 10) i))] H := hP
  refine tp_pc (pc' := 90) (by rfl) ?_
  refine lv_aload_n hx hb d_Program_addAction_90 rfl (lv_at hl 2 rfl) ?_
  refine va_get (D := (dC, dI)) (ci := 0) (v := .ref (pA 6)) (C := R_Program) (T := F_Program) (N := 13) hx hb hw i_Program hown hK hP 0 rfl rfl 6 (by decide) (hw _ m_148) (fun _ h9 => h9) rfl d_Program_addAction_91 ?_
  refine lv_iload hx hb d_Program_addAction_94 (lv_at hl 1 rfl) ?_
  refine lv_iload_n hx hb d_Program_addAction_96 rfl (lv_at hl 3 rfl) ?_
  refine lv_iconst (v := 2) hx hb d_Program_addAction_97 (by decide) ?_
  refine lv_imul hx hb d_Program_addAction_98 ?_
  refine tp_i (y := nI (t * 2)) (by exact pk_mul t 2) ?_
  refine lv_iload hx hb d_Program_addAction_99 (lv_at hl 6 rfl) ?_
  refine lv_iadd hx hb d_Program_addAction_101 ?_
  refine tp_i (y := nI (t * 2 + rn)) (by exact nI_add (t * 2) rn) ?_
  refine va_iast (D := (dC, dI)) hx hb hK hP (dd_D hD rfl) hS 7 6 rfl rfl (i := nI Ac) (x := nI (t * 2 + rn)) (pk_in Ac 7 (by omega)) d_Program_addAction_102 ?_
  clear hP hS locs H
  intro H locs hP _ hS
  rw [show (nI Ac : Int32).toNatClampNeg = Ac from pk_cl Ac] at hP
  rw [show upd (fun i => nI ((pg 6) i)) Ac (nI (t * 2 + rn)) = fun i => nI (updN (pg 6) Ac (t * 2 + rn) i) from upd_nI] at hP
  replace hP : va_P (dC, dI) classes [oc pa 0 [.ref (pA 0), .ref (pA 1), .ref (pA 2), .ref (pA 3), .ref (pA 4), .ref (pA 5), .ref (pA 6), .ref (pA 7), .ref (pA 8), .ref (pA 9), .ref (pA 10), .int (nI T), .int (nI Ac)], ia (pA 0) (pK 0) 4 (fun i => nI ((pg 0) i)), ia (pA 1) (pK 1) 28 (fun i => nI ((updN (pg 1) (t * 7 + ((pg 0) t)) Ac) i)), ia (pA 2) (pK 2) 7 (fun i => nI ((updN (pg 2) Ac t) i)), ia (pA 3) (pK 3) 7 (fun i => nI ((updN (pg 3) Ac ((pg 0) t)) i)), ia (pA 4) (pK 4) 7 (fun i => nI ((updN (pg 4) Ac k) i)), ia (pA 5) (pK 5) 7 (fun i => nI ((updN (pg 5) Ac x) i)), ia (pA 6) (pK 6) 7 (fun i => nI ((updN (pg 6) Ac (t * 2 + rn)) i)), ia (pA 7) (pK 7) 7 nm, ia (pA 8) (pK 8) 4 (fun i => nI ((pg 8) i)), ia (pA 9) (pK 9) 6 (fun i => nI ((pg 9) i)), ia (pA 10) (pK 10) 3 (fun i => nI ((pg 10) i))] H := hP
  refine tp_pc (pc' := 103) (by rfl) ?_
  refine lv_aload_n hx hb d_Program_addAction_103 rfl (lv_at hl 2 rfl) ?_
  refine va_get (D := (dC, dI)) (ci := 0) (v := .ref (pA 7)) (C := R_Program) (T := F_Program) (N := 13) hx hb hw i_Program hown hK hP 0 rfl rfl 7 (by decide) (hw _ m_150) (fun _ h9 => h9) rfl d_Program_addAction_104 ?_
  refine lv_iload hx hb d_Program_addAction_107 (lv_at hl 1 rfl) ?_
  refine lv_iload hx hb d_Program_addAction_109 (lv_at hl 7 rfl) ?_
  refine va_iast (D := (dC, dI)) hx hb hK hP (dd_D hD rfl) hS 8 7 rfl rfl (i := nI Ac) (x := v) (pk_in Ac 7 (by omega)) d_Program_addAction_111 ?_
  clear hP hS locs H
  intro H locs hP _ hS
  rw [show (nI Ac : Int32).toNatClampNeg = Ac from pk_cl Ac] at hP
  replace hP : va_P (dC, dI) classes [oc pa 0 [.ref (pA 0), .ref (pA 1), .ref (pA 2), .ref (pA 3), .ref (pA 4), .ref (pA 5), .ref (pA 6), .ref (pA 7), .ref (pA 8), .ref (pA 9), .ref (pA 10), .int (nI T), .int (nI Ac)], ia (pA 0) (pK 0) 4 (fun i => nI ((pg 0) i)), ia (pA 1) (pK 1) 28 (fun i => nI ((updN (pg 1) (t * 7 + ((pg 0) t)) Ac) i)), ia (pA 2) (pK 2) 7 (fun i => nI ((updN (pg 2) Ac t) i)), ia (pA 3) (pK 3) 7 (fun i => nI ((updN (pg 3) Ac ((pg 0) t)) i)), ia (pA 4) (pK 4) 7 (fun i => nI ((updN (pg 4) Ac k) i)), ia (pA 5) (pK 5) 7 (fun i => nI ((updN (pg 5) Ac x) i)), ia (pA 6) (pK 6) 7 (fun i => nI ((updN (pg 6) Ac (t * 2 + rn)) i)), ia (pA 7) (pK 7) 7 (upd nm Ac v), ia (pA 8) (pK 8) 4 (fun i => nI ((pg 8) i)), ia (pA 9) (pK 9) 6 (fun i => nI ((pg 9) i)), ia (pA 10) (pK 10) 3 (fun i => nI ((pg 10) i))] H := hP
  refine tp_pc (pc' := 112) (by rfl) ?_
  refine lv_aload_n hx hb d_Program_addAction_112 rfl (lv_at hl 2 rfl) ?_
  refine va_get (D := (dC, dI)) (ci := 0) (v := .ref (pA 8)) (C := R_Program) (T := F_Program) (N := 13) hx hb hw i_Program hown hK hP 0 rfl rfl 8 (by decide) (hw _ m_152) (fun _ h9 => h9) rfl d_Program_addAction_113 ?_
  refine lv_iload_n hx hb d_Program_addAction_116 rfl (lv_at hl 3 rfl) ?_
  refine lv_dup2_11 hx hb d_Program_addAction_117 rfl rfl ?_
  refine va_iald (D := (dC, dI)) hx hb hK hP 9 8 rfl rfl (i := nI t) (pk_in t 4 (by omega)) d_Program_addAction_118 ?_
  refine tp_i (y := nI ((pg 8) t)) (by rw [show (nI t : Int32).toNatClampNeg = t from pk_cl t]) ?_
  refine lv_iload hx hb d_Program_addAction_119 (lv_at hl 0 rfl) ?_
  refine lv_ior hx hb d_Program_addAction_121 ?_
  refine tp_i (y := (nI ((pg 8) t)) ||| (1 <<< ((nI Ac) &&& 31))) rfl ?_
  refine tp_i (y := nI (pg 8 t ||| 2 ^ Ac)) (set_eq _ h8 _ hA7) ?_
  refine va_iast (D := (dC, dI)) hx hb hK hP (dd_D hD rfl) hS 9 8 rfl rfl (i := nI t) (x := nI (pg 8 t ||| 2 ^ Ac)) (pk_in t 4 (by omega)) d_Program_addAction_122 ?_
  clear hP hS locs H
  intro H locs hP _ hS
  rw [show (nI t : Int32).toNatClampNeg = t from pk_cl t] at hP
  rw [show upd (fun i => nI ((pg 8) i)) t (nI (pg 8 t ||| 2 ^ Ac)) = fun i => nI (updN (pg 8) t (pg 8 t ||| 2 ^ Ac) i) from upd_nI] at hP
  replace hP : va_P (dC, dI) classes [oc pa 0 [.ref (pA 0), .ref (pA 1), .ref (pA 2), .ref (pA 3), .ref (pA 4), .ref (pA 5), .ref (pA 6), .ref (pA 7), .ref (pA 8), .ref (pA 9), .ref (pA 10), .int (nI T), .int (nI Ac)], ia (pA 0) (pK 0) 4 (fun i => nI ((pg 0) i)), ia (pA 1) (pK 1) 28 (fun i => nI ((updN (pg 1) (t * 7 + ((pg 0) t)) Ac) i)), ia (pA 2) (pK 2) 7 (fun i => nI ((updN (pg 2) Ac t) i)), ia (pA 3) (pK 3) 7 (fun i => nI ((updN (pg 3) Ac ((pg 0) t)) i)), ia (pA 4) (pK 4) 7 (fun i => nI ((updN (pg 4) Ac k) i)), ia (pA 5) (pK 5) 7 (fun i => nI ((updN (pg 5) Ac x) i)), ia (pA 6) (pK 6) 7 (fun i => nI ((updN (pg 6) Ac (t * 2 + rn)) i)), ia (pA 7) (pK 7) 7 (upd nm Ac v), ia (pA 8) (pK 8) 4 (fun i => nI ((updN (pg 8) t (pg 8 t ||| 2 ^ Ac)) i)), ia (pA 9) (pK 9) 6 (fun i => nI ((pg 9) i)), ia (pA 10) (pK 10) 3 (fun i => nI ((pg 10) i))] H := hP
  refine tp_pc (pc' := 123) (by rfl) ?_
  refine lv_aload_n hx hb d_Program_addAction_123 rfl (lv_at hl 2 rfl) ?_
  refine va_get (D := (dC, dI)) (ci := 0) (v := .ref (pA 9)) (C := R_Program) (T := F_Program) (N := 13) hx hb hw i_Program hown hK hP 0 rfl rfl 9 (by decide) (hw _ m_155) (fun _ h9 => h9) rfl d_Program_addAction_124 ?_
  refine lv_iload_n hx hb d_Program_addAction_127 rfl (lv_at hl 4 rfl) ?_
  refine lv_dup2_11 hx hb d_Program_addAction_128 rfl rfl ?_
  refine va_iald (D := (dC, dI)) hx hb hK hP 10 9 rfl rfl (i := nI k) (pk_in k 6 (by omega)) d_Program_addAction_129 ?_
  refine tp_i (y := nI ((pg 9) k)) (by rw [show (nI k : Int32).toNatClampNeg = k from pk_cl k]) ?_
  refine lv_iload hx hb d_Program_addAction_130 (lv_at hl 0 rfl) ?_
  refine lv_ior hx hb d_Program_addAction_132 ?_
  refine tp_i (y := (nI ((pg 9) k)) ||| (1 <<< ((nI Ac) &&& 31))) rfl ?_
  refine tp_i (y := nI (pg 9 k ||| 2 ^ Ac)) (set_eq _ h9 _ hA7) ?_
  refine va_iast (D := (dC, dI)) hx hb hK hP (dd_D hD rfl) hS 10 9 rfl rfl (i := nI k) (x := nI (pg 9 k ||| 2 ^ Ac)) (pk_in k 6 (by omega)) d_Program_addAction_133 ?_
  clear hP hS locs H
  intro H locs hP _ hS
  rw [show (nI k : Int32).toNatClampNeg = k from pk_cl k] at hP
  rw [show upd (fun i => nI ((pg 9) i)) k (nI (pg 9 k ||| 2 ^ Ac)) = fun i => nI (updN (pg 9) k (pg 9 k ||| 2 ^ Ac) i) from upd_nI] at hP
  replace hP : va_P (dC, dI) classes [oc pa 0 [.ref (pA 0), .ref (pA 1), .ref (pA 2), .ref (pA 3), .ref (pA 4), .ref (pA 5), .ref (pA 6), .ref (pA 7), .ref (pA 8), .ref (pA 9), .ref (pA 10), .int (nI T), .int (nI Ac)], ia (pA 0) (pK 0) 4 (fun i => nI ((pg 0) i)), ia (pA 1) (pK 1) 28 (fun i => nI ((updN (pg 1) (t * 7 + ((pg 0) t)) Ac) i)), ia (pA 2) (pK 2) 7 (fun i => nI ((updN (pg 2) Ac t) i)), ia (pA 3) (pK 3) 7 (fun i => nI ((updN (pg 3) Ac ((pg 0) t)) i)), ia (pA 4) (pK 4) 7 (fun i => nI ((updN (pg 4) Ac k) i)), ia (pA 5) (pK 5) 7 (fun i => nI ((updN (pg 5) Ac x) i)), ia (pA 6) (pK 6) 7 (fun i => nI ((updN (pg 6) Ac (t * 2 + rn)) i)), ia (pA 7) (pK 7) 7 (upd nm Ac v), ia (pA 8) (pK 8) 4 (fun i => nI ((updN (pg 8) t (pg 8 t ||| 2 ^ Ac)) i)), ia (pA 9) (pK 9) 6 (fun i => nI ((updN (pg 9) k (pg 9 k ||| 2 ^ Ac)) i)), ia (pA 10) (pK 10) 3 (fun i => nI ((pg 10) i))] H := hP
  refine tp_pc (pc' := 134) (by rfl) ?_
  refine lv_iload_n hx hb d_Program_addAction_134 rfl (lv_at hl 4 rfl) ?_
  refine lv_iconst (v := 4) hx hb d_Program_addAction_135 (by decide) ?_
  refine lv_icmp_ge (tgt := 150) hx hb d_Program_addAction_136 (by decide) (fun c9 => ?_) (fun c9 => absurd ((nI_leI (a := 4) (b := k) (by omega) (by omega)).mpr hk4) c9)
  refine tp_pc (pc' := 150) (by rfl) ?_
  refine lv_aload_n hx hb d_Program_addAction_150 rfl (lv_at hl 2 rfl) ?_
  refine lv_dup hx hb d_Program_addAction_151 rfl ?_
  refine va_get (D := (dC, dI)) (ci := 0) (v := .int (nI Ac)) (C := R_Program) (T := F_Program) (N := 13) hx hb hw i_Program hown hK hP 0 rfl rfl 12 (by decide) (hw _ m_165) (fun _ h9 => h9) rfl d_Program_addAction_152 ?_
  refine lv_iconst (v := 1) hx hb d_Program_addAction_155 (by decide) ?_
  refine lv_iadd hx hb d_Program_addAction_156 ?_
  refine tp_i (y := nI (Ac + 1)) (by exact nI_add Ac 1) ?_
  refine va_put (D := (dC, dI)) (ci := 0) (v := .int (nI (Ac + 1))) (ty := .int) (C := R_Program) (T := F_Program) (N := 13) hx hb hw i_Program t_Program t_Program_ok n_Program hown hK hP (dd_D hD rfl) hS 0 rfl rfl 12 (by decide) (hw _ m_165) (fun _ h9 => h9) rfl (by decide +kernel) rfl rfl (Nat.le_of_ble_eq_true rfl) d_Program_addAction_157 ?_
  clear hP hS locs H
  intro H locs (hP : va_P (dC, dI) classes [oc pa 0 [.ref (pA 0), .ref (pA 1), .ref (pA 2), .ref (pA 3), .ref (pA 4), .ref (pA 5), .ref (pA 6), .ref (pA 7), .ref (pA 8), .ref (pA 9), .ref (pA 10), .int (nI T), .int (nI (Ac + 1))], ia (pA 0) (pK 0) 4 (fun i => nI ((pg 0) i)), ia (pA 1) (pK 1) 28 (fun i => nI ((updN (pg 1) (t * 7 + ((pg 0) t)) Ac) i)), ia (pA 2) (pK 2) 7 (fun i => nI ((updN (pg 2) Ac t) i)), ia (pA 3) (pK 3) 7 (fun i => nI ((updN (pg 3) Ac ((pg 0) t)) i)), ia (pA 4) (pK 4) 7 (fun i => nI ((updN (pg 4) Ac k) i)), ia (pA 5) (pK 5) 7 (fun i => nI ((updN (pg 5) Ac x) i)), ia (pA 6) (pK 6) 7 (fun i => nI ((updN (pg 6) Ac (t * 2 + rn)) i)), ia (pA 7) (pK 7) 7 (upd nm Ac v), ia (pA 8) (pK 8) 4 (fun i => nI ((updN (pg 8) t (pg 8 t ||| 2 ^ Ac)) i)), ia (pA 9) (pK 9) 6 (fun i => nI ((updN (pg 9) k (pg 9 k ||| 2 ^ Ac)) i)), ia (pA 10) (pK 10) 3 (fun i => nI ((pg 10) i))] H) _ hS
  refine tp_pc (pc' := 160) (by rfl) ?_
  refine lv_aload_n hx hb d_Program_addAction_160 rfl (lv_at hl 2 rfl) ?_
  refine va_get (D := (dC, dI)) (ci := 0) (v := .ref (pA 0)) (C := R_Program) (T := F_Program) (N := 13) hx hb hw i_Program hown hK hP 0 rfl rfl 0 (by decide) (hw _ m_128) (fun _ h9 => h9) rfl d_Program_addAction_161 ?_
  refine lv_iload_n hx hb d_Program_addAction_164 rfl (lv_at hl 3 rfl) ?_
  refine lv_dup2_11 hx hb d_Program_addAction_165 rfl rfl ?_
  refine va_iald (D := (dC, dI)) hx hb hK hP 1 0 rfl rfl (i := nI t) (pk_in t 4 (by omega)) d_Program_addAction_166 ?_
  refine tp_i (y := nI ((pg 0) t)) (by rw [show (nI t : Int32).toNatClampNeg = t from pk_cl t]) ?_
  refine lv_iconst (v := 1) hx hb d_Program_addAction_167 (by decide) ?_
  refine lv_iadd hx hb d_Program_addAction_168 ?_
  refine tp_i (y := nI ((pg 0) t + 1)) (by exact nI_add ((pg 0) t) 1) ?_
  refine va_iast (D := (dC, dI)) hx hb hK hP (dd_D hD rfl) hS 1 0 rfl rfl (i := nI t) (x := nI ((pg 0) t + 1)) (pk_in t 4 (by omega)) d_Program_addAction_169 ?_
  clear hP hS locs H
  intro H locs hP _ hS
  rw [show (nI t : Int32).toNatClampNeg = t from pk_cl t] at hP
  rw [show upd (fun i => nI ((pg 0) i)) t (nI ((pg 0) t + 1)) = fun i => nI (updN (pg 0) t ((pg 0) t + 1) i) from upd_nI] at hP
  replace hP : va_P (dC, dI) classes [oc pa 0 [.ref (pA 0), .ref (pA 1), .ref (pA 2), .ref (pA 3), .ref (pA 4), .ref (pA 5), .ref (pA 6), .ref (pA 7), .ref (pA 8), .ref (pA 9), .ref (pA 10), .int (nI T), .int (nI (Ac + 1))], ia (pA 0) (pK 0) 4 (fun i => nI ((updN (pg 0) t ((pg 0) t + 1)) i)), ia (pA 1) (pK 1) 28 (fun i => nI ((updN (pg 1) (t * 7 + ((pg 0) t)) Ac) i)), ia (pA 2) (pK 2) 7 (fun i => nI ((updN (pg 2) Ac t) i)), ia (pA 3) (pK 3) 7 (fun i => nI ((updN (pg 3) Ac ((pg 0) t)) i)), ia (pA 4) (pK 4) 7 (fun i => nI ((updN (pg 4) Ac k) i)), ia (pA 5) (pK 5) 7 (fun i => nI ((updN (pg 5) Ac x) i)), ia (pA 6) (pK 6) 7 (fun i => nI ((updN (pg 6) Ac (t * 2 + rn)) i)), ia (pA 7) (pK 7) 7 (upd nm Ac v), ia (pA 8) (pK 8) 4 (fun i => nI ((updN (pg 8) t (pg 8 t ||| 2 ^ Ac)) i)), ia (pA 9) (pK 9) 6 (fun i => nI ((updN (pg 9) k (pg 9 k ||| 2 ^ Ac)) i)), ia (pA 10) (pK 10) 3 (fun i => nI ((pg 10) i))] H := hP
  refine tp_pc (pc' := 170) (by rfl) ?_
  refine lv_aload_n hx hb d_Program_addAction_170 rfl (lv_at hl 2 rfl) ?_
  refine va_get (D := (dC, dI)) (ci := 0) (v := .ref (pA 0)) (C := R_Program) (T := F_Program) (N := 13) hx hb hw i_Program hown hK hP 0 rfl rfl 0 (by decide) (hw _ m_128) (fun _ h9 => h9) rfl d_Program_addAction_171 ?_
  refine lv_iload_n hx hb d_Program_addAction_174 rfl (lv_at hl 3 rfl) ?_
  refine va_iald (D := (dC, dI)) hx hb hK hP 1 0 rfl rfl (i := nI t) (pk_in t 4 (by omega)) d_Program_addAction_175 ?_
  refine tp_i (y := nI ((updN (pg 0) t ((pg 0) t + 1)) t)) (by rw [show (nI t : Int32).toNatClampNeg = t from pk_cl t]) ?_
  refine tp_i (y := nI (pg 0 t + 1)) (congrArg nI (if_pos rfl)) ?_
  have hx10 : pg 10 = addA pg t Ac k x rn 10 := by simp [addA, show ¬ k < 4 from by omega]
  rw [hx10] at hP
  replace hP : va_P (dC, dI) classes [oc pa 0 [.ref (pA 0), .ref (pA 1), .ref (pA 2), .ref (pA 3), .ref (pA 4), .ref (pA 5), .ref (pA 6), .ref (pA 7), .ref (pA 8), .ref (pA 9), .ref (pA 10), .int (nI T), .int (nI (Ac + 1))], ia (pA 0) (pK 0) 4 (fun i => nI ((addA pg t Ac k x rn 0) i)), ia (pA 1) (pK 1) 28 (fun i => nI ((addA pg t Ac k x rn 1) i)), ia (pA 2) (pK 2) 7 (fun i => nI ((addA pg t Ac k x rn 2) i)), ia (pA 3) (pK 3) 7 (fun i => nI ((addA pg t Ac k x rn 3) i)), ia (pA 4) (pK 4) 7 (fun i => nI ((addA pg t Ac k x rn 4) i)), ia (pA 5) (pK 5) 7 (fun i => nI ((addA pg t Ac k x rn 5) i)), ia (pA 6) (pK 6) 7 (fun i => nI ((addA pg t Ac k x rn 6) i)), ia (pA 7) (pK 7) 7 (upd nm Ac v), ia (pA 8) (pK 8) 4 (fun i => nI ((addA pg t Ac k x rn 8) i)), ia (pA 9) (pK 9) 6 (fun i => nI ((addA pg t Ac k x rn 9) i)), ia (pA 10) (pK 10) 3 (fun i => nI ((addA pg t Ac k x rn 10) i))] H := hP
  obtain ⟨hP9, hD9, -⟩ := cut3 (wc := [oc pa 0 [.ref (pA 0), .ref (pA 1), .ref (pA 2), .ref (pA 3), .ref (pA 4), .ref (pA 5), .ref (pA 6), .ref (pA 7), .ref (pA 8), .ref (pA 9), .ref (pA 10), .int (nI T), .int (nI (Ac + 1))], ia (pA 0) (pK 0) 4 (fun i => nI ((addA pg t Ac k x rn 0) i)), ia (pA 1) (pK 1) 28 (fun i => nI ((addA pg t Ac k x rn 1) i)), ia (pA 2) (pK 2) 7 (fun i => nI ((addA pg t Ac k x rn 2) i)), ia (pA 3) (pK 3) 7 (fun i => nI ((addA pg t Ac k x rn 3) i)), ia (pA 4) (pK 4) 7 (fun i => nI ((addA pg t Ac k x rn 4) i)), ia (pA 5) (pK 5) 7 (fun i => nI ((addA pg t Ac k x rn 5) i)), ia (pA 6) (pK 6) 7 (fun i => nI ((addA pg t Ac k x rn 6) i)), ia (pA 7) (pK 7) 7 (upd nm Ac v), ia (pA 8) (pK 8) 4 (fun i => nI ((addA pg t Ac k x rn 8) i)), ia (pA 9) (pK 9) 6 (fun i => nI ((addA pg t Ac k x rn 9) i)), ia (pA 10) (pK 10) 3 (fun i => nI ((addA pg t Ac k x rn 10) i))]) hP hD rfl hS hA [0, 1, 2, 3, 4, 5, 6, 7, 8, 9, 10, 11] (by decide +kernel) rfl
  have hK9 := hK.sub (tys' := []) [] rfl
  refine W.widen (k := 0) (n := 0) (by exact Nat.le_of_ble_eq_true rfl) (by exact Nat.le_of_ble_eq_true rfl) ?_
  exact W.iret (v := (nI (pg 0 t + 1))) hx hb hr (fun t9 ht9 hW => ⟨⟨nI (pg 0 t + 1), (), rfl, rfl, by rw [ht9]; exact hP9, va_K.moved hW.alike hK9, hD9⟩, hS.F ht9⟩) hS.2.2 d_Program_addAction_176
