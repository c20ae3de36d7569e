set_option maxHeartbeats 4000000 in
set_option maxRecDepth 100000 in
theorem gen_Program_idAt (l : Launch) (dC : Nat → ClassId) (dI : Nat → Nat → Nat) (pa : Nat) (pA : Nat → Nat) (pK : Nat → ClassId) (T Ac : Nat) (pg : Nat → Nat → Nat) (nm : Nat → Int32) (t q : Nat) (hT : T ≤ 4) (ht : t < T) (hq : q < 1000) (hl7 : pg 0 t ≤ 7) (sz : Nat) : Met l y_Program_idAt w_Program_idAt ({ frames := 0, cells := 0, slots := 0, locals := 0 }) (va_Pc [.ref pa, .int (nI t), .int (nI q)] (fun U => U.heap.size = sz ∧ va_P (dC, dI) classes [oc pa 0 [.ref (pA 0), .ref (pA 1), .ref (pA 2), .ref (pA 3), .ref (pA 4), .ref (pA 5), .ref (pA 6), .ref (pA 7), .ref (pA 8), .ref (pA 9), .ref (pA 10), .int (nI T), .int (nI Ac)], ia (pA 0) (pK 0) 4 (fun i => nI ((pg 0) i)), ia (pA 1) (pK 1) 28 (fun i => nI ((pg 1) i))] U.heap ∧ va_K (dC, dI) classes [((pK 0), .int), ((pK 1), .int)] U ∧ va_D (fun _ => True) [oc pa 0 [.ref (pA 0), .ref (pA 1), .ref (pA 2), .ref (pA 3), .ref (pA 4), .ref (pA 5), .ref (pA 6), .ref (pA 7), .ref (pA 8), .ref (pA 9), .ref (pA 10), .int (nI T), .int (nI Ac)], ia (pA 0) (pK 0) 4 (fun i => nI ((pg 0) i)), ia (pA 1) (pK 1) 28 (fun i => nI ((pg 1) i))] ∧ nw U)) (va_Qi (fun (r : Int32) (_ : Unit) => (q < pg 0 t ∧ r = nI (pg 1 (t * 7 + q))) ∨ (pg 0 t ≤ q ∧ r = -1)) (fun _ t9 => va_P (dC, dI) classes [oc pa 0 [.ref (pA 0), .ref (pA 1), .ref (pA 2), .ref (pA 3), .ref (pA 4), .ref (pA 5), .ref (pA 6), .ref (pA 7), .ref (pA 8), .ref (pA 9), .ref (pA 10), .int (nI T), .int (nI Ac)], ia (pA 0) (pK 0) 4 (fun i => nI ((pg 0) i)), ia (pA 1) (pK 1) 28 (fun i => nI ((pg 1) i))] t9.heap ∧ va_K (dC, dI) classes [] t9 ∧ va_D (va_A [oc pa 0 [.ref (pA 0), .ref (pA 1), .ref (pA 2), .ref (pA 3), .ref (pA 4), .ref (pA 5), .ref (pA 6), .ref (pA 7), .ref (pA 8), .ref (pA 9), .ref (pA 10), .int (nI T), .int (nI Ac)], ia (pA 0) (pK 0) 4 (fun i => nI ((pg 0) i)), ia (pA 1) (pK 1) 28 (fun i => nI ((pg 1) i))] sz) [oc pa 0 [.ref (pA 0), .ref (pA 1), .ref (pA 2), .ref (pA 3), .ref (pA 4), .ref (pA 5), .ref (pA 6), .ref (pA 7), .ref (pA 8), .ref (pA 9), .ref (pA 10), .int (nI T), .int (nI Ac)], ia (pA 0) (pK 0) 4 (fun i => nI ((pg 0) i)), ia (pA 1) (pK 1) 28 (fun i => nI ((pg 1) i))]) (va_A [oc pa 0 [.ref (pA 0), .ref (pA 1), .ref (pA 2), .ref (pA 3), .ref (pA 4), .ref (pA 5), .ref (pA 6), .ref (pA 7), .ref (pA 8), .ref (pA 9), .ref (pA 10), .int (nI T), .int (nI Ac)], ia (pA 0) (pK 0) 4 (fun i => nI ((pg 0) i)), ia (pA 1) (pK 1) 28 (fun i => nI ((pg 1) i))] sz)) 0 0 (va_A [oc pa 0 [.ref (pA 0), .ref (pA 1), .ref (pA 2), .ref (pA 3), .ref (pA 4), .ref (pA 5), .ref (pA 6), .ref (pA 7), .ref (pA 8), .ref (pA 9), .ref (pA 10), .int (nI T), .int (nI Ac)], ia (pA 0) (pK 0) 4 (fun i => nI ((pg 0) i)), ia (pA 1) (pK 1) 28 (fun i => nI ((pg 1) i))] sz) := by
  refine Met.ofW (cc := b_Program_idAt) (maxL := 3) (ret := (some .int)) (by decide) rfl ?_
  intro p e0 s m args below meth c s₁ B hml hv
  obtain ⟨rfl, hsz, hP, hK, hD0, hn⟩ := hv
  have hx := B.exec
  have hb := B.bytes
  have hr := B.returns
  have hw := fun w (h : w ∈ wt) => atoms_spec (ws := w_Program_idAt) B.pre w (List.mem_cons_of_mem _ h)
  have hown : s.vm.findClass R_Program = some m.cls := findClass_of_methodNamed B.named
  have hlocks := B.notSynchronized
  subst hsz
  have hD1 := hD0.self (sz := s.heap.size)
  generalize hAe : va_A [oc pa 0 [.ref (pA 0), .ref (pA 1), .ref (pA 2), .ref (pA 3), .ref (pA 4), .ref (pA 5), .ref (pA 6), .ref (pA 7), .ref (pA 8), .ref (pA 9), .ref (pA 10), .int (nI T), .int (nI Ac)], ia (pA 0) (pK 0) 4 (fun i => nI ((pg 0) i)), ia (pA 1) (pK 1) 28 (fun i => nI ((pg 1) i))] s.heap.size = A at hD1 ⊢
  have hA : ∀ q : Nat, s.heap.size ≤ q → A q := fun q h => by rw [← hAe]; exact Or.inr h
  have hD : dd A [pa, (pA 0), (pA 1)] := dd_of hD1 rfl
  clear hAe hD0 hD1
  have hS : va_S A s.heap s.heap [] := va_S.rf
  replace hP : va_P (dC, dI) classes [oc pa 0 [.ref (pA 0), .ref (pA 1), .ref (pA 2), .ref (pA 3), .ref (pA 4), .ref (pA 5), .ref (pA 6), .ref (pA 7), .ref (pA 8), .ref (pA 9), .ref (pA 10), .int (nI T), .int (nI Ac)], ia (pA 0) (pK 0) 4 (fun i => nI ((pg 0) i)), ia (pA 1) (pK 1) 28 (fun i => nI ((pg 1) i))] s.heap := hP
  have hl := lv_entry ([.ref pa, .int (nI t), .int (nI q)]) (n := 3) (Nat.le_of_ble_eq_true rfl)
  rw [lg_entry_eq]
  generalize (lg_sl ([.ref pa, .int (nI t), .int (nI q)]) ++ List.replicate (3 - (lg_sl ([.ref pa, .int (nI t), .int (nI q)])).length) Slot.unset).toArray = ls at hl ⊢
  replace hl : lv_has ls 3 [(0, .ref pa), (1, .int (nI t)), (2, .int (nI q))] := hl
  refine lv_iload_n hx hb d_Program_idAt_0 rfl (lv_at hl 1 rfl) ?_
  refine lv_if_lt (tgt := 26) hx hb d_Program_idAt_1 (by decide) (fun c9 => absurd c9 (nI_pos (by omega))) (fun c9 => ?_)
  refine tp_pc (pc' := 4) (by rfl) ?_
  refine lv_iload_n hx hb d_Program_idAt_4 rfl (lv_at hl 1 rfl) ?_
  refine lv_aload_n hx hb d_Program_idAt_5 rfl (lv_at hl 0 rfl) ?_
  refine va_get (D := (dC, dI)) (ci := 0) (v := .int (nI T)) (C := R_Program) (T := F_Program) (N := 13) hx hb hw i_Program hown hK hP 0 rfl rfl 11 (by decide) (hw _ m_160) (fun _ h9 => h9) rfl d_Program_idAt_6 ?_
  refine lv_icmp_ge (tgt := 26) hx hb d_Program_idAt_9 (by decide) (fun c9 => absurd c9 (nI_ge ht (by omega))) (fun c9 => ?_)
  refine tp_pc (pc' := 12) (by rfl) ?_
  refine lv_iload_n hx hb d_Program_idAt_12 rfl (lv_at hl 2 rfl) ?_
  refine lv_if_lt (tgt := 26) hx hb d_Program_idAt_13 (by decide) (fun c9 => absurd c9 (nI_pos (by omega))) (fun c9 => ?_)
  refine tp_pc (pc' := 16) (by rfl) ?_
  refine lv_iload_n hx hb d_Program_idAt_16 rfl (lv_at hl 2 rfl) ?_
  refine lv_aload_n hx hb d_Program_idAt_17 rfl (lv_at hl 0 rfl) ?_
  refine va_get (D := (dC, dI)) (ci := 0) (v := .ref (pA 0)) (C := R_Program) (T := F_Program) (N := 13) hx hb hw i_Program hown hK hP 0 rfl rfl 0 (by decide) (hw _ m_128) (fun _ h9 => h9) rfl d_Program_idAt_18 ?_
  refine lv_iload_n hx hb d_Program_idAt_21 rfl (lv_at hl 1 rfl) ?_
  refine va_iald (D := (dC, dI)) hx hb hK hP 1 0 rfl rfl (i := nI t) (pk_in t 4 (by omega)) d_Program_idAt_22 ?_
  refine tp_i (y := nI ((pg 0) t)) (by rw [show (nI t : Int32).toNatClampNeg = t from pk_cl t]) ?_
  refine lv_icmp_lt (tgt := 28) hx hb d_Program_idAt_23 (by decide) (fun c1 => ?_) (fun c1 => ?_)
  · skip
    have hc1 : q < (pg 0) t := (nI_ltI (a := q) (b := (pg 0) t) (by omega) (by omega)).mp c1
    refine tp_pc (pc' := 28) (by rfl) ?_
    refine lv_aload_n hx hb d_Program_idAt_28 rfl (lv_at hl 0 rfl) ?_
    refine va_get (D := (dC, dI)) (ci := 0) (v := .ref (pA 1)) (C := R_Program) (T := F_Program) (N := 13) hx hb hw i_Program hown hK hP 0 rfl rfl 1 (by decide) (hw _ m_129) (fun _ h9 => h9) rfl d_Program_idAt_29 ?_
    refine lv_iload_n hx hb d_Program_idAt_32 rfl (lv_at hl 1 rfl) ?_
    refine lv_bipush (v := 7) hx hb d_Program_idAt_33 (by decide) ?_
    refine lv_imul hx hb d_Program_idAt_35 ?_
    refine tp_i (y := nI (t * 7)) (by exact pk_mul t 7) ?_
    refine lv_iload_n hx hb d_Program_idAt_36 rfl (lv_at hl 2 rfl) ?_
    refine lv_iadd hx hb d_Program_idAt_37 ?_
    refine tp_i (y := nI (t * 7 + q)) (by exact nI_add (t * 7) q) ?_
    refine va_iald (D := (dC, dI)) hx hb hK hP 2 1 rfl rfl (i := nI (t * 7 + q)) (pk_in (t * 7 + q) 28 (by omega)) d_Program_idAt_38 ?_
    refine tp_i (y := nI ((pg 1) (t * 7 + q))) (by rw [show (nI (t * 7 + q) : Int32).toNatClampNeg = t * 7 + q from pk_cl (t * 7 + q)]) ?_
    obtain ⟨hP9, hD9, -⟩ := cut3 (wc := [oc pa 0 [.ref (pA 0), .ref (pA 1), .ref (pA 2), .ref (pA 3), .ref (pA 4), .ref (pA 5), .ref (pA 6), .ref (pA 7), .ref (pA 8), .ref (pA 9), .ref (pA 10), .int (nI T), .int (nI Ac)], ia (pA 0) (pK 0) 4 (fun i => nI ((pg 0) i)), ia (pA 1) (pK 1) 28 (fun i => nI ((pg 1) i))]) hP hD rfl hS hA [0, 1, 2] (by decide +kernel) rfl
    have hK9 := hK.sub (tys' := []) [] rfl
    refine W.widen (k := 0) (n := 0) (by exact Nat.le_of_ble_eq_true rfl) (by exact Nat.le_of_ble_eq_true rfl) ?_
    exact W.iret (v := (nI ((pg 1) (t * 7 + q)))) hx hb hr (fun t9 ht9 hW => ⟨⟨nI ((pg 1) (t * 7 + q)), (), rfl, Or.inl ⟨hc1, rfl⟩, by rw [ht9]; exact hP9, va_K.moved hW.alike hK9, hD9⟩, hS.F ht9⟩) hS.2.2 d_Program_idAt_39
  · skip
    have hc1 : ¬ (q < (pg 0) t) := fun q9 => c1 ((nI_ltI (a := q) (b := (pg 0) t) (by omega) (by omega)).mpr q9)
    refine tp_pc (pc' := 26) (by rfl) ?_
    refine lv_iconst (v := (-1)) hx hb d_Program_idAt_26 (by decide) ?_
    obtain ⟨hP9, hD9, -⟩ := cut3 (wc := [oc pa 0 [.ref (pA 0), .ref (pA 1), .ref (pA 2), .ref (pA 3), .ref (pA 4), .ref (pA 5), .ref (pA 6), .ref (pA 7), .ref (pA 8), .ref (pA 9), .ref (pA 10), .int (nI T), .int (nI Ac)], ia (pA 0) (pK 0) 4 (fun i => nI ((pg 0) i)), ia (pA 1) (pK 1) 28 (fun i => nI ((pg 1) i))]) hP hD rfl hS hA [0, 1, 2] (by decide +kernel) rfl
    have hK9 := hK.sub (tys' := []) [] rfl
    refine W.widen (k := 0) (n := 0) (by exact Nat.le_of_ble_eq_true rfl) (by exact Nat.le_of_ble_eq_true rfl) ?_
    exact W.iret (v := (-1)) hx hb hr (fun t9 ht9 hW => ⟨⟨(-1), (), rfl, Or.inr ⟨by omega, rfl⟩, by rw [ht9]; exact hP9, va_K.moved hW.alike hK9, hD9⟩, hS.F ht9⟩) hS.2.2 d_Program_idAt_27
set_option maxHeartbeats 4000000 in
set_option maxRecDepth 100000 in
theorem gen_Program_takesValue (l : Launch) (dC : Nat → ClassId) (dI : Nat → Nat → Nat) (pa : Nat) (pA : Nat → Nat) (pK : Nat → ClassId) (T Ac : Nat) (pg : Nat → Nat → Nat) (nm : Nat → Int32) (a : Nat) (ha : a < 7) (hk : pg 4 a < 6) (sz : Nat) : Met l y_Program_takesValue w_Program_takesValue ({ frames := 0, cells := 0, slots := 0, locals := 0 }) (va_Pc [.ref pa, .int (nI a)] (fun U => U.heap.size = sz ∧ va_P (dC, dI) classes [oc pa 0 [.ref (pA 0), .ref (pA 1), .ref (pA 2), .ref (pA 3), .ref (pA 4), .ref (pA 5), .ref (pA 6), .ref (pA 7), .ref (pA 8), .ref (pA 9), .ref (pA 10), .int (nI T), .int (nI Ac)], ia (pA 4) (pK 4) 7 (fun i => nI ((pg 4) i))] U.heap ∧ va_K (dC, dI) classes [((pK 4), .int)] U ∧ va_D (fun _ => True) [oc pa 0 [.ref (pA 0), .ref (pA 1), .ref (pA 2), .ref (pA 3), .ref (pA 4), .ref (pA 5), .ref (pA 6), .ref (pA 7), .ref (pA 8), .ref (pA 9), .ref (pA 10), .int (nI T), .int (nI Ac)], ia (pA 4) (pK 4) 7 (fun i => nI ((pg 4) i))] ∧ nw U)) (va_Qi (fun (r : Int32) (_ : Unit) => r = if pg 4 a = 0 ∨ pg 4 a = 3 then 1 else 0) (fun _ t9 => va_P (dC, dI) classes [oc pa 0 [.ref (pA 0), .ref (pA 1), .ref (pA 2), .ref (pA 3), .ref (pA 4), .ref (pA 5), .ref (pA 6), .ref (pA 7), .ref (pA 8), .ref (pA 9), .ref (pA 10), .int (nI T), .int (nI Ac)], ia (pA 4) (pK 4) 7 (fun i => nI ((pg 4) i))] t9.heap ∧ va_K (dC, dI) classes [] t9 ∧ va_D (va_A [oc pa 0 [.ref (pA 0), .ref (pA 1), .ref (pA 2), .ref (pA 3), .ref (pA 4), .ref (pA 5), .ref (pA 6), .ref (pA 7), .ref (pA 8), .ref (pA 9), .ref (pA 10), .int (nI T), .int (nI Ac)], ia (pA 4) (pK 4) 7 (fun i => nI ((pg 4) i))] sz) [oc pa 0 [.ref (pA 0), .ref (pA 1), .ref (pA 2), .ref (pA 3), .ref (pA 4), .ref (pA 5), .ref (pA 6), .ref (pA 7), .ref (pA 8), .ref (pA 9), .ref (pA 10), .int (nI T), .int (nI Ac)], ia (pA 4) (pK 4) 7 (fun i => nI ((pg 4) i))]) (va_A [oc pa 0 [.ref (pA 0), .ref (pA 1), .ref (pA 2), .ref (pA 3), .ref (pA 4), .ref (pA 5), .ref (pA 6), .ref (pA 7), .ref (pA 8), .ref (pA 9), .ref (pA 10), .int (nI T), .int (nI Ac)], ia (pA 4) (pK 4) 7 (fun i => nI ((pg 4) i))] sz)) 0 0 (va_A [oc pa 0 [.ref (pA 0), .ref (pA 1), .ref (pA 2), .ref (pA 3), .ref (pA 4), .ref (pA 5), .ref (pA 6), .ref (pA 7), .ref (pA 8), .ref (pA 9), .ref (pA 10), .int (nI T), .int (nI Ac)], ia (pA 4) (pK 4) 7 (fun i => nI ((pg 4) i))] sz) := by
  refine Met.ofW (cc := b_Program_takesValue) (maxL := 2) (ret := (some .boolean)) (by decide) rfl ?_
  intro p e0 s m args below meth c s₁ B hml hv
  obtain ⟨rfl, hsz, hP, hK, hD0, hn⟩ := hv
  have hx := B.exec
  have hb := B.bytes
  have hr := B.returns
  have hw := fun w (h : w ∈ wt) => atoms_spec (ws := w_Program_takesValue) B.pre w (List.mem_cons_of_mem _ h)
  have hown : s.vm.findClass R_Program = some m.cls := findClass_of_methodNamed B.named
  have hlocks := B.notSynchronized
  subst hsz
  have hD1 := hD0.self (sz := s.heap.size)
  generalize hAe : va_A [oc pa 0 [.ref (pA 0), .ref (pA 1), .ref (pA 2), .ref (pA 3), .ref (pA 4), .ref (pA 5), .ref (pA 6), .ref (pA 7), .ref (pA 8), .ref (pA 9), .ref (pA 10), .int (nI T), .int (nI Ac)], ia (pA 4) (pK 4) 7 (fun i => nI ((pg 4) i))] s.heap.size = A at hD1 ⊢
  have hA : ∀ q : Nat, s.heap.size ≤ q → A q := fun q h => by rw [← hAe]; exact Or.inr h
  have hD : dd A [pa, (pA 4)] := dd_of hD1 rfl
  clear hAe hD0 hD1
  have hS : va_S A s.heap s.heap [] := va_S.rf
  replace hP : va_P (dC, dI) classes [oc pa 0 [.ref (pA 0), .ref (pA 1), .ref (pA 2), .ref (pA 3), .ref (pA 4), .ref (pA 5), .ref (pA 6), .ref (pA 7), .ref (pA 8), .ref (pA 9), .ref (pA 10), .int (nI T), .int (nI Ac)], ia (pA 4) (pK 4) 7 (fun i => nI ((pg 4) i))] s.heap := hP
  have hl := lv_entry ([.ref pa, .int (nI a)]) (n := 2) (Nat.le_of_ble_eq_true rfl)
  rw [lg_entry_eq]
  generalize (lg_sl ([.ref pa, .int (nI a)]) ++ List.replicate (2 - (lg_sl ([.ref pa, .int (nI a)])).length) Slot.unset).toArray = ls at hl ⊢
  replace hl : lv_has ls 2 [(0, .ref pa), (1, .int (nI a))] := hl
  refine lv_aload_n hx hb d_Program_takesValue_0 rfl (lv_at hl 0 rfl) ?_
  refine va_get (D := (dC, dI)) (ci := 0) (v := .ref (pA 4)) (C := R_Program) (T := F_Program) (N := 13) hx hb hw i_Program hown hK hP 0 rfl rfl 4 (by decide) (hw _ m_138) (fun _ h9 => h9) rfl d_Program_takesValue_1 ?_
  refine lv_iload_n hx hb d_Program_takesValue_4 rfl (lv_at hl 1 rfl) ?_
  refine va_iald (D := (dC, dI)) hx hb hK hP 1 0 rfl rfl (i := nI a) (pk_in a 7 (by omega)) d_Program_takesValue_5 ?_
  refine tp_i (y := nI ((pg 4) a)) (by rw [show (nI a : Int32).toNatClampNeg = a from pk_cl a]) ?_
  refine lv_if_eq (tgt := 19) hx hb d_Program_takesValue_6 (by decide) (fun c1 => ?_) (fun c1 => ?_)
  · skip
    have hc1 : (pg 4) a = 0 := (nI_eq (a := (pg 4) a) (b := 0) (by omega) (by omega)).mp c1
    refine tp_pc (pc' := 19) (by rfl) ?_
    refine lv_iconst (v := 1) hx hb d_Program_takesValue_19 (by decide) ?_
    refine lv_goto (tgt := 24) hx hb d_Program_takesValue_20 (by decide) ?_
    refine tp_pc (pc' := 24) (by rfl) ?_
    obtain ⟨hP9, hD9, -⟩ := cut3 (wc := [oc pa 0 [.ref (pA 0), .ref (pA 1), .ref (pA 2), .ref (pA 3), .ref (pA 4), .ref (pA 5), .ref (pA 6), .ref (pA 7), .ref (pA 8), .ref (pA 9), .ref (pA 10), .int (nI T), .int (nI Ac)], ia (pA 4) (pK 4) 7 (fun i => nI ((pg 4) i))]) hP hD rfl hS hA [0, 1] (by decide +kernel) rfl
    have hK9 := hK.sub (tys' := []) [] rfl
    refine W.widen (k := 0) (n := 0) (by exact Nat.le_of_ble_eq_true rfl) (by exact Nat.le_of_ble_eq_true rfl) ?_
    exact W.zret (v := 1) (ty := .boolean) hx hb hr (by decide) (fun t9 ht9 hW => ⟨⟨1, (), rfl, (if_pos (Or.inl hc1)).symm, by rw [ht9]; exact hP9, va_K.moved hW.alike hK9, hD9⟩, hS.F ht9⟩) hS.2.2 d_Program_takesValue_24
  · skip
    have hc1 : ¬ ((pg 4) a = 0) := fun q9 => c1 ((nI_eq (a := (pg 4) a) (b := 0) (by omega) (by omega)).mpr q9)
    refine tp_pc (pc' := 9) (by rfl) ?_
    refine lv_aload_n hx hb d_Program_takesValue_9 rfl (lv_at hl 0 rfl) ?_
    refine va_get (D := (dC, dI)) (ci := 0) (v := .ref (pA 4)) (C := R_Program) (T := F_Program) (N := 13) hx hb hw i_Program hown hK hP 0 rfl rfl 4 (by decide) (hw _ m_138) (fun _ h9 => h9) rfl d_Program_takesValue_10 ?_
    refine lv_iload_n hx hb d_Program_takesValue_13 rfl (lv_at hl 1 rfl) ?_
    refine va_iald (D := (dC, dI)) hx hb hK hP 1 0 rfl rfl (i := nI a) (pk_in a 7 (by omega)) d_Program_takesValue_14 ?_
    refine tp_i (y := nI ((pg 4) a)) (by rw [show (nI a : Int32).toNatClampNeg = a from pk_cl a]) ?_
    refine lv_iconst (v := 3) hx hb d_Program_takesValue_15 (by decide) ?_
    refine lv_icmp_ne (tgt := 23) hx hb d_Program_takesValue_16 (by decide) (fun c2 => ?_) (fun c2 => ?_)
    · skip
      have hc2 : ¬ ((pg 4) a = 3) := fun q9 => c2 ((nI_eq (a := (pg 4) a) (b := 3) (by omega) (by omega)).mpr q9)
      refine tp_pc (pc' := 23) (by rfl) ?_
      refine lv_iconst (v := 0) hx hb d_Program_takesValue_23 (by decide) ?_
      obtain ⟨hP9, hD9, -⟩ := cut3 (wc := [oc pa 0 [.ref (pA 0), .ref (pA 1), .ref (pA 2), .ref (pA 3), .ref (pA 4), .ref (pA 5), .ref (pA 6), .ref (pA 7), .ref (pA 8), .ref (pA 9), .ref (pA 10), .int (nI T), .int (nI Ac)], ia (pA 4) (pK 4) 7 (fun i => nI ((pg 4) i))]) hP hD rfl hS hA [0, 1] (by decide +kernel) rfl
      have hK9 := hK.sub (tys' := []) [] rfl
      refine W.widen (k := 0) (n := 0) (by exact Nat.le_of_ble_eq_true rfl) (by exact Nat.le_of_ble_eq_true rfl) ?_
      exact W.zret (v := 0) (ty := .boolean) hx hb hr (by decide) (fun t9 ht9 hW => ⟨⟨0, (), rfl, (if_neg (fun q => q.elim hc1 hc2)).symm, by rw [ht9]; exact hP9, va_K.moved hW.alike hK9, hD9⟩, hS.F ht9⟩) hS.2.2 d_Program_takesValue_24
    · skip
      have hc2 : (pg 4) a = 3 := (nI_eq (a := (pg 4) a) (b := 3) (by omega) (by omega)).mp c2
      refine tp_pc (pc' := 19) (by rfl) ?_
      refine lv_iconst (v := 1) hx hb d_Program_takesValue_19 (by decide) ?_
      refine lv_goto (tgt := 24) hx hb d_Program_takesValue_20 (by decide) ?_
      refine tp_pc (pc' := 24) (by rfl) ?_
      obtain ⟨hP9, hD9, -⟩ := cut3 (wc := [oc pa 0 [.ref (pA 0), .ref (pA 1), .ref (pA 2), .ref (pA 3), .ref (pA 4), .ref (pA 5), .ref (pA 6), .ref (pA 7), .ref (pA 8), .ref (pA 9), .ref (pA 10), .int (nI T), .int (nI Ac)], ia (pA 4) (pK 4) 7 (fun i => nI ((pg 4) i))]) hP hD rfl hS hA [0, 1] (by decide +kernel) rfl
      have hK9 := hK.sub (tys' := []) [] rfl
      refine W.widen (k := 0) (n := 0) (by exact Nat.le_of_ble_eq_true rfl) (by exact Nat.le_of_ble_eq_true rfl) ?_
      exact W.zret (v := 1) (ty := .boolean) hx hb hr (by decide) (fun t9 ht9 hW => ⟨⟨1, (), rfl, (if_pos (Or.inr hc2)).symm, by rw [ht9]; exact hP9, va_K.moved hW.alike hK9, hD9⟩, hS.F ht9⟩) hS.2.2 d_Program_takesValue_24
set_option maxHeartbeats 4000000 in
set_option maxRecDepth 100000 in
theorem gen_Progress_next (l : Launch) (dC : Nat → ClassId) (dI : Nat → Nat → Nat) (pa : Nat) (pA : Nat → Nat) (pK : Nat → ClassId) (T Ac : Nat) (pg : Nat → Nat → Nat) (nm : Nat → Int32) (ga g1 g2 g3 : Nat) (l1 l2 l3 : ClassId) (dn : Nat) (so : Int64) (pl : Nat → Nat) (rg vl : Nat → Int32) (t : Nat) (hT : T ≤ 4) (ht : t < T) (hq : pl t < 1000) (hl7 : pg 0 t ≤ 7) (sz : Nat) : Met l y_Progress_next w_Progress_next ({ frames := 1, cells := 0, slots := 0, locals := 30 }) (va_Pc [.ref ga, .int (nI t)] (fun U => U.heap.size = sz ∧ va_P (dC, dI) classes [oc ga 1 [.ref pa, .ref g1, .ref g2, .ref g3, .int (nI dn), .long so], ia g1 l1 4 (fun i => nI (pl i)), oc pa 0 [.ref (pA 0), .ref (pA 1), .ref (pA 2), .ref (pA 3), .ref (pA 4), .ref (pA 5), .ref (pA 6), .ref (pA 7), .ref (pA 8), .ref (pA 9), .ref (pA 10), .int (nI T), .int (nI Ac)], ia (pA 0) (pK 0) 4 (fun i => nI ((pg 0) i)), ia (pA 1) (pK 1) 28 (fun i => nI ((pg 1) i))] U.heap ∧ va_K (dC, dI) classes [(l1, .int), ((pK 0), .int), ((pK 1), .int)] U ∧ va_D (fun _ => True) [oc ga 1 [.ref pa, .ref g1, .ref g2, .ref g3, .int (nI dn), .long so], ia g1 l1 4 (fun i => nI (pl i)), oc pa 0 [.ref (pA 0), .ref (pA 1), .ref (pA 2), .ref (pA 3), .ref (pA 4), .ref (pA 5), .ref (pA 6), .ref (pA 7), .ref (pA 8), .ref (pA 9), .ref (pA 10), .int (nI T), .int (nI Ac)], ia (pA 0) (pK 0) 4 (fun i => nI ((pg 0) i)), ia (pA 1) (pK 1) 28 (fun i => nI ((pg 1) i))] ∧ nw U)) (va_Qi (fun (r : Int32) (_ : Unit) => (pl t < pg 0 t ∧ r = nI (pg 1 (t * 7 + pl t))) ∨ (pg 0 t ≤ pl t ∧ r = -1)) (fun _ t9 => va_P (dC, dI) classes [oc ga 1 [.ref pa, .ref g1, .ref g2, .ref g3, .int (nI dn), .long so], ia g1 l1 4 (fun i => nI (pl i)), oc pa 0 [.ref (pA 0), .ref (pA 1), .ref (pA 2), .ref (pA 3), .ref (pA 4), .ref (pA 5), .ref (pA 6), .ref (pA 7), .ref (pA 8), .ref (pA 9), .ref (pA 10), .int (nI T), .int (nI Ac)], ia (pA 0) (pK 0) 4 (fun i => nI ((pg 0) i)), ia (pA 1) (pK 1) 28 (fun i => nI ((pg 1) i))] t9.heap ∧ va_K (dC, dI) classes [] t9 ∧ va_D (va_A [oc ga 1 [.ref pa, .ref g1, .ref g2, .ref g3, .int (nI dn), .long so], ia g1 l1 4 (fun i => nI (pl i)), oc pa 0 [.ref (pA 0), .ref (pA 1), .ref (pA 2), .ref (pA 3), .ref (pA 4), .ref (pA 5), .ref (pA 6), .ref (pA 7), .ref (pA 8), .ref (pA 9), .ref (pA 10), .int (nI T), .int (nI Ac)], ia (pA 0) (pK 0) 4 (fun i => nI ((pg 0) i)), ia (pA 1) (pK 1) 28 (fun i => nI ((pg 1) i))] sz) [oc ga 1 [.ref pa, .ref g1, .ref g2, .ref g3, .int (nI dn), .long so], ia g1 l1 4 (fun i => nI (pl i)), oc pa 0 [.ref (pA 0), .ref (pA 1), .ref (pA 2), .ref (pA 3), .ref (pA 4), .ref (pA 5), .ref (pA 6), .ref (pA 7), .ref (pA 8), .ref (pA 9), .ref (pA 10), .int (nI T), .int (nI Ac)], ia (pA 0) (pK 0) 4 (fun i => nI ((pg 0) i)), ia (pA 1) (pK 1) 28 (fun i => nI ((pg 1) i))]) (va_A [oc ga 1 [.ref pa, .ref g1, .ref g2, .ref g3, .int (nI dn), .long so], ia g1 l1 4 (fun i => nI (pl i)), oc pa 0 [.ref (pA 0), .ref (pA 1), .ref (pA 2), .ref (pA 3), .ref (pA 4), .ref (pA 5), .ref (pA 6), .ref (pA 7), .ref (pA 8), .ref (pA 9), .ref (pA 10), .int (nI T), .int (nI Ac)], ia (pA 0) (pK 0) 4 (fun i => nI ((pg 0) i)), ia (pA 1) (pK 1) 28 (fun i => nI ((pg 1) i))] sz)) 0 0 (va_A [oc ga 1 [.ref pa, .ref g1, .ref g2, .ref g3, .int (nI dn), .long so], ia g1 l1 4 (fun i => nI (pl i)), oc pa 0 [.ref (pA 0), .ref (pA 1), .ref (pA 2), .ref (pA 3), .ref (pA 4), .ref (pA 5), .ref (pA 6), .ref (pA 7), .ref (pA 8), .ref (pA 9), .ref (pA 10), .int (nI T), .int (nI Ac)], ia (pA 0) (pK 0) 4 (fun i => nI ((pg 0) i)), ia (pA 1) (pK 1) 28 (fun i => nI ((pg 1) i))] sz) := by
  refine Met.ofW (cc := b_Progress_next) (maxL := 2) (ret := (some .int)) (by decide) rfl ?_
  intro p e0 s m args below meth c s₁ B hml hv
  obtain ⟨rfl, hsz, hP, hK, hD0, hn⟩ := hv
  have hx := B.exec
  have hb := B.bytes
  have hr := B.returns
  have hw := fun w (h : w ∈ wt) => atoms_spec (ws := w_Progress_next) B.pre w (List.mem_cons_of_mem _ h)
  have hown : s.vm.findClass R_Progress = some m.cls := findClass_of_methodNamed B.named
  have hlocks := B.notSynchronized
  subst hsz
  have hD1 := hD0.self (sz := s.heap.size)
  generalize hAe : va_A [oc ga 1 [.ref pa, .ref g1, .ref g2, .ref g3, .int (nI dn), .long so], ia g1 l1 4 (fun i => nI (pl i)), oc pa 0 [.ref (pA 0), .ref (pA 1), .ref (pA 2), .ref (pA 3), .ref (pA 4), .ref (pA 5), .ref (pA 6), .ref (pA 7), .ref (pA 8), .ref (pA 9), .ref (pA 10), .int (nI T), .int (nI Ac)], ia (pA 0) (pK 0) 4 (fun i => nI ((pg 0) i)), ia (pA 1) (pK 1) 28 (fun i => nI ((pg 1) i))] s.heap.size = A at hD1 ⊢
  have hA : ∀ q : Nat, s.heap.size ≤ q → A q := fun q h => by rw [← hAe]; exact Or.inr h
  have hD : dd A [ga, g1, pa, (pA 0), (pA 1)] := dd_of hD1 rfl
  clear hAe hD0 hD1
  have hS : va_S A s.heap s.heap [] := va_S.rf
  replace hP : va_P (dC, dI) classes [oc ga 1 [.ref pa, .ref g1, .ref g2, .ref g3, .int (nI dn), .long so], ia g1 l1 4 (fun i => nI (pl i)), oc pa 0 [.ref (pA 0), .ref (pA 1), .ref (pA 2), .ref (pA 3), .ref (pA 4), .ref (pA 5), .ref (pA 6), .ref (pA 7), .ref (pA 8), .ref (pA 9), .ref (pA 10), .int (nI T), .int (nI Ac)], ia (pA 0) (pK 0) 4 (fun i => nI ((pg 0) i)), ia (pA 1) (pK 1) 28 (fun i => nI ((pg 1) i))] s.heap := hP
  have hl := lv_entry ([.ref ga, .int (nI t)]) (n := 2) (Nat.le_of_ble_eq_true rfl)
  rw [lg_entry_eq]
  generalize (lg_sl ([.ref ga, .int (nI t)]) ++ List.replicate (2 - (lg_sl ([.ref ga, .int (nI t)])).length) Slot.unset).toArray = ls at hl ⊢
  replace hl : lv_has ls 2 [(0, .ref ga), (1, .int (nI t))] := hl
  refine lv_aload_n hx hb d_Progress_next_0 rfl (lv_at hl 0 rfl) ?_
  refine va_get (D := (dC, dI)) (ci := 1) (v := .ref pa) (C := R_Progress) (T := F_Progress) (N := 6) hx hb hw i_Progress hown hK hP 0 rfl rfl 0 (by decide) (hw _ m_203) (fun _ h9 => h9) rfl d_Progress_next_1 ?_
  refine lv_iload_n hx hb d_Progress_next_4 rfl (lv_at hl 1 rfl) ?_
  refine lv_aload_n hx hb d_Progress_next_5 rfl (lv_at hl 0 rfl) ?_
  refine va_get (D := (dC, dI)) (ci := 1) (v := .ref g1) (C := R_Progress) (T := F_Progress) (N := 6) hx hb hw i_Progress hown hK hP 0 rfl rfl 1 (by decide) (hw _ m_204) (fun _ h9 => h9) rfl d_Progress_next_6 ?_
  refine lv_iload_n hx hb d_Progress_next_9 rfl (lv_at hl 1 rfl) ?_
  refine va_iald (D := (dC, dI)) hx hb hK hP 1 0 rfl rfl (i := nI t) (pk_in t 4 (by omega)) d_Progress_next_10 ?_
  refine tp_i (y := nI (pl t)) (by rw [show (nI t : Int32).toNatClampNeg = t from pk_cl t]) ?_
  obtain ⟨hPc, hDc, hFc⟩ := cut3 (wc := [oc pa 0 [.ref (pA 0), .ref (pA 1), .ref (pA 2), .ref (pA 3), .ref (pA 4), .ref (pA 5), .ref (pA 6), .ref (pA 7), .ref (pA 8), .ref (pA 9), .ref (pA 10), .int (nI T), .int (nI Ac)], ia (pA 0) (pK 0) 4 (fun i => nI ((pg 0) i)), ia (pA 1) (pK 1) 28 (fun i => nI ((pg 1) i))]) hP hD rfl hS hA [2, 3, 4] (by decide +kernel) rfl
  have hKc := hK.sub (tys' := [((pK 0), .int), ((pK 1), .int)]) [1, 2] rfl
  refine va_calli (va_runV (As := [.int (nI t), .int (nI (pl t))]) (rest := []) ⟨hx, hb, hml, hown, hw⟩ (gen_Program_idAt l dC dI pa pA pK T Ac pg nm t (pl t) hT ht hq hl7 s.heap.size) (cw_V 2 hw g_Program_idAt rfl rfl rfl (hw _ m_102) (hw _ m_539) (hw _ m_540) (hw _ m_541) (by decide +kernel) ⟨Nat.le_of_ble_eq_true rfl, Nat.le_of_ble_eq_true rfl⟩) ⟨fun a U g mk q => by obtain ⟨q0, q1, qP, qK, qD, qN⟩ := q; exact ⟨q0, q1, qP, va_K.moved (u := U) (U := U.calling g mk a) (Vm.Alike.refl U.vm) qK, qD, nw_call qN⟩, va_recv hKc hPc (ci := 0) (q0 := 0) rfl rfl, fun U hU hW => ⟨rfl, by rw [hU], by rw [hU]; exact hPc, va_K.moved hW.alike hKc, hDc.weaken (fun _ _ _ _ => trivial), nw_warm hW hn⟩⟩ rfl rfl hl.1 rfl (lv_room (Nat.le_of_ble_eq_true rfl)) d_Progress_next_11 ⟨Nat.le_of_ble_eq_true rfl, Nat.le_of_ble_eq_true rfl⟩) hS (fun q _ h => hFc q h) hFc ?_
  intro r_1 u t9 H1 locs1 ht9 hvm hw1 hB hz1 hk1 hS1
  obtain ⟨hP1, hK1, hD1⟩ := hB
  rw [ht9] at hP1
  replace hK1 := va_K.moved hvm.symm hK1
  have hPD := join3 hP hD rfl [2, 3, 4] [0, 1] rfl (by rfl) (by decide +kernel) (by decide +kernel) hk1 hFc hP1 hD1
  replace hK : va_K (dC, dI) classes [(l1, .int), ((pK 0), .int), ((pK 1), .int)] s := hK.app hK1
  clear hP1 hK1 hD1 hk1 hz1 hFc hKc hDc hPc hvm ht9 hP hS t9
  have hP : va_P (dC, dI) classes [oc ga 1 [.ref pa, .ref g1, .ref g2, .ref g3, .int (nI dn), .long so], ia g1 l1 4 (fun i => nI (pl i)), oc pa 0 [.ref (pA 0), .ref (pA 1), .ref (pA 2), .ref (pA 3), .ref (pA 4), .ref (pA 5), .ref (pA 6), .ref (pA 7), .ref (pA 8), .ref (pA 9), .ref (pA 10), .int (nI T), .int (nI Ac)], ia (pA 0) (pK 0) 4 (fun i => nI ((pg 0) i)), ia (pA 1) (pK 1) 28 (fun i => nI ((pg 1) i))] H1 := hPD.1
  replace hD : dd A [ga, g1, pa, (pA 0), (pA 1)] := dd_of hPD.2 rfl
  clear hPD
  revert H1 locs1
  intro H locs hS hP
  refine tp_pc (pc' := 14) (by rfl) ?_
  obtain ⟨hP9, hD9, -⟩ := cut3 (wc := [oc ga 1 [.ref pa, .ref g1, .ref g2, .ref g3, .int (nI dn), .long so], ia g1 l1 4 (fun i => nI (pl i)), oc pa 0 [.ref (pA 0), .ref (pA 1), .ref (pA 2), .ref (pA 3), .ref (pA 4), .ref (pA 5), .ref (pA 6), .ref (pA 7), .ref (pA 8), .ref (pA 9), .ref (pA 10), .int (nI T), .int (nI Ac)], ia (pA 0) (pK 0) 4 (fun i => nI ((pg 0) i)), ia (pA 1) (pK 1) 28 (fun i => nI ((pg 1) i))]) hP hD rfl hS hA [0, 1, 2, 3, 4] (by decide +kernel) rfl
  have hK9 := hK.sub (tys' := []) [] rfl
  refine W.widen (k := 0) (n := 0) (by exact Nat.le_of_ble_eq_true rfl) (by exact Nat.le_of_ble_eq_true rfl) ?_
  exact W.iret (v := r_1) hx hb hr (fun t9 ht9 hW => ⟨⟨r_1, (), rfl, hw1, by rw [ht9]; exact hP9, va_K.moved hW.alike hK9, hD9⟩, hS.F ht9⟩) hS.2.2 d_Progress_next_14
set_option maxHeartbeats 4000000 in
set_option maxRecDepth 100000 in
theorem gen_Progress_registerOf (l : Launch) (dC : Nat → ClassId) (dI : Nat → Nat → Nat) (pa : Nat) (pA : Nat → Nat) (pK : Nat → ClassId) (T Ac : Nat) (pg : Nat → Nat → Nat) (nm : Nat → Int32) (ga g1 g2 g3 : Nat) (l1 l2 l3 : ClassId) (dn : Nat) (so : Int64) (pl : Nat → Nat) (rg vl : Nat → Int32) (a : Nat) (ha : a < 7) (h8 : pg 6 a < 8) (sz : Nat) : Met l y_Progress_registerOf w_Progress_registerOf ({ frames := 0, cells := 0, slots := 0, locals := 0 }) (va_Pc [.ref ga, .int (nI a)] (fun U => U.heap.size = sz ∧ va_P (dC, dI) classes [oc ga 1 [.ref pa, .ref g1, .ref g2, .ref g3, .int (nI dn), .long so], ia g2 l2 8 rg, oc pa 0 [.ref (pA 0), .ref (pA 1), .ref (pA 2), .ref (pA 3), .ref (pA 4), .ref (pA 5), .ref (pA 6), .ref (pA 7), .ref (pA 8), .ref (pA 9), .ref (pA 10), .int (nI T), .int (nI Ac)], ia (pA 6) (pK 6) 7 (fun i => nI ((pg 6) i))] U.heap ∧ va_K (dC, dI) classes [(l2, .int), ((pK 6), .int)] U ∧ va_D (fun _ => True) [oc ga 1 [.ref pa, .ref g1, .ref g2, .ref g3, .int (nI dn), .long so], ia g2 l2 8 rg, oc pa 0 [.ref (pA 0), .ref (pA 1), .ref (pA 2), .ref (pA 3), .ref (pA 4), .ref (pA 5), .ref (pA 6), .ref (pA 7), .ref (pA 8), .ref (pA 9), .ref (pA 10), .int (nI T), .int (nI Ac)], ia (pA 6) (pK 6) 7 (fun i => nI ((pg 6) i))] ∧ nw U)) (va_Qi (fun (r : Int32) (_ : Unit) => r = rg (pg 6 a)) (fun _ t9 => va_P (dC, dI) classes [oc ga 1 [.ref pa, .ref g1, .ref g2, .ref g3, .int (nI dn), .long so], ia g2 l2 8 rg, oc pa 0 [.ref (pA 0), .ref (pA 1), .ref (pA 2), .ref (pA 3), .ref (pA 4), .ref (pA 5), .ref (pA 6), .ref (pA 7), .ref (pA 8), .ref (pA 9), .ref (pA 10), .int (nI T), .int (nI Ac)], ia (pA 6) (pK 6) 7 (fun i => nI ((pg 6) i))] t9.heap ∧ va_K (dC, dI) classes [] t9 ∧ va_D (va_A [oc ga 1 [.ref pa, .ref g1, .ref g2, .ref g3, .int (nI dn), .long so], ia g2 l2 8 rg, oc pa 0 [.ref (pA 0), .ref (pA 1), .ref (pA 2), .ref (pA 3), .ref (pA 4), .ref (pA 5), .ref (pA 6), .ref (pA 7), .ref (pA 8), .ref (pA 9), .ref (pA 10), .int (nI T), .int (nI Ac)], ia (pA 6) (pK 6) 7 (fun i => nI ((pg 6) i))] sz) [oc ga 1 [.ref pa, .ref g1, .ref g2, .ref g3, .int (nI dn), .long so], ia g2 l2 8 rg, oc pa 0 [.ref (pA 0), .ref (pA 1), .ref (pA 2), .ref (pA 3), .ref (pA 4), .ref (pA 5), .ref (pA 6), .ref (pA 7), .ref (pA 8), .ref (pA 9), .ref (pA 10), .int (nI T), .int (nI Ac)], ia (pA 6) (pK 6) 7 (fun i => nI ((pg 6) i))]) (va_A [oc ga 1 [.ref pa, .ref g1, .ref g2, .ref g3, .int (nI dn), .long so], ia g2 l2 8 rg, oc pa 0 [.ref (pA 0), .ref (pA 1), .ref (pA 2), .ref (pA 3), .ref (pA 4), .ref (pA 5), .ref (pA 6), .ref (pA 7), .ref (pA 8), .ref (pA 9), .ref (pA 10), .int (nI T), .int (nI Ac)], ia (pA 6) (pK 6) 7 (fun i => nI ((pg 6) i))] sz)) 0 0 (va_A [oc ga 1 [.ref pa, .ref g1, .ref g2, .ref g3, .int (nI dn), .long so], ia g2 l2 8 rg, oc pa 0 [.ref (pA 0), .ref (pA 1), .ref (pA 2), .ref (pA 3), .ref (pA 4), .ref (pA 5), .ref (pA 6), .ref (pA 7), .ref (pA 8), .ref (pA 9), .ref (pA 10), .int (nI T), .int (nI Ac)], ia (pA 6) (pK 6) 7 (fun i => nI ((pg 6) i))] sz) := by
  refine Met.ofW (cc := b_Progress_registerOf) (maxL := 2) (ret := (some .int)) (by decide) rfl ?_
  intro p e0 s m args below meth c s₁ B hml hv
  obtain ⟨rfl, hsz, hP, hK, hD0, hn⟩ := hv
  have hx := B.exec
  have hb := B.bytes
  have hr := B.returns
  have hw := fun w (h : w ∈ wt) => atoms_spec (ws := w_Progress_registerOf) B.pre w (List.mem_cons_of_mem _ h)
  have hown : s.vm.findClass R_Progress = some m.cls := findClass_of_methodNamed B.named
  have hlocks := B.notSynchronized
  subst hsz
  have hD1 := hD0.self (sz := s.heap.size)
  generalize hAe : va_A [oc ga 1 [.ref pa, .ref g1, .ref g2, .ref g3, .int (nI dn), .long so], ia g2 l2 8 rg, oc pa 0 [.ref (pA 0), .ref (pA 1), .ref (pA 2), .ref (pA 3), .ref (pA 4), .ref (pA 5), .ref (pA 6), .ref (pA 7), .ref (pA 8), .ref (pA 9), .ref (pA 10), .int (nI T), .int (nI Ac)], ia (pA 6) (pK 6) 7 (fun i => nI ((pg 6) i))] s.heap.size = A at hD1 ⊢
  have hA : ∀ q : Nat, s.heap.size ≤ q → A q := fun q h => by rw [← hAe]; exact Or.inr h
  have hD : dd A [ga, g2, pa, (pA 6)] := dd_of hD1 rfl
  clear hAe hD0 hD1
  have hS : va_S A s.heap s.heap [] := va_S.rf
  replace hP : va_P (dC, dI) classes [oc ga 1 [.ref pa, .ref g1, .ref g2, .ref g3, .int (nI dn), .long so], ia g2 l2 8 rg, oc pa 0 [.ref (pA 0), .ref (pA 1), .ref (pA 2), .ref (pA 3), .ref (pA 4), .ref (pA 5), .ref (pA 6), .ref (pA 7), .ref (pA 8), .ref (pA 9), .ref (pA 10), .int (nI T), .int (nI Ac)], ia (pA 6) (pK 6) 7 (fun i => nI ((pg 6) i))] s.heap := hP
  have hl := lv_entry ([.ref ga, .int (nI a)]) (n := 2) (Nat.le_of_ble_eq_true rfl)
  rw [lg_entry_eq]
  generalize (lg_sl ([.ref ga, .int (nI a)]) ++ List.replicate (2 - (lg_sl ([.ref ga, .int (nI a)])).length) Slot.unset).toArray = ls at hl ⊢
  replace hl : lv_has ls 2 [(0, .ref ga), (1, .int (nI a))] := hl
  refine lv_aload_n hx hb d_Progress_registerOf_0 rfl (lv_at hl 0 rfl) ?_
  refine va_get (D := (dC, dI)) (ci := 1) (v := .ref g2) (C := R_Progress) (T := F_Progress) (N := 6) hx hb hw i_Progress hown hK hP 0 rfl rfl 2 (by decide) (hw _ m_206) (fun _ h9 => h9) rfl d_Progress_registerOf_1 ?_
  refine lv_aload_n hx hb d_Progress_registerOf_4 rfl (lv_at hl 0 rfl) ?_
  refine va_get (D := (dC, dI)) (ci := 1) (v := .ref pa) (C := R_Progress) (T := F_Progress) (N := 6) hx hb hw i_Progress hown hK hP 0 rfl rfl 0 (by decide) (hw _ m_203) (fun _ h9 => h9) rfl d_Progress_registerOf_5 ?_
  refine va_get (D := (dC, dI)) (ci := 0) (v := .ref (pA 6)) (C := R_Program) (T := F_Program) (N := 13) hx hb hw i_Program hown hK hP 2 rfl rfl 6 (by decide) (hw _ m_149) (fun _ h9 => h9) rfl d_Progress_registerOf_8 ?_
  refine lv_iload_n hx hb d_Progress_registerOf_11 rfl (lv_at hl 1 rfl) ?_
  refine va_iald (D := (dC, dI)) hx hb hK hP 3 1 rfl rfl (i := nI a) (pk_in a 7 (by omega)) d_Progress_registerOf_12 ?_
  refine tp_i (y := nI ((pg 6) a)) (by rw [show (nI a : Int32).toNatClampNeg = a from pk_cl a]) ?_
  refine va_iald (D := (dC, dI)) hx hb hK hP 1 0 rfl rfl (i := nI ((pg 6) a)) (pk_in ((pg 6) a) 8 (by omega)) d_Progress_registerOf_13 ?_
  refine tp_i (y := rg ((pg 6) a)) (by rw [show (nI ((pg 6) a) : Int32).toNatClampNeg = (pg 6) a from pk_cl ((pg 6) a)]) ?_
  obtain ⟨hP9, hD9, -⟩ := cut3 (wc := [oc ga 1 [.ref pa, .ref g1, .ref g2, .ref g3, .int (nI dn), .long so], ia g2 l2 8 rg, oc pa 0 [.ref (pA 0), .ref (pA 1), .ref (pA 2), .ref (pA 3), .ref (pA 4), .ref (pA 5), .ref (pA 6), .ref (pA 7), .ref (pA 8), .ref (pA 9), .ref (pA 10), .int (nI T), .int (nI Ac)], ia (pA 6) (pK 6) 7 (fun i => nI ((pg 6) i))]) hP hD rfl hS hA [0, 1, 2, 3] (by decide +kernel) rfl
  have hK9 := hK.sub (tys' := []) [] rfl
  refine W.widen (k := 0) (n := 0) (by exact Nat.le_of_ble_eq_true rfl) (by exact Nat.le_of_ble_eq_true rfl) ?_
  exact W.iret (v := (rg ((pg 6) a))) hx hb hr (fun t9 ht9 hW => ⟨⟨rg ((pg 6) a), (), rfl, rfl, by rw [ht9]; exact hP9, va_K.moved hW.alike hK9, hD9⟩, hS.F ht9⟩) hS.2.2 d_Progress_registerOf_14
set_option maxHeartbeats 4000000 in
set_option maxRecDepth 100000 in
theorem gen_Progress_key (l : Launch) (dC : Nat → ClassId) (dI : Nat → Nat → Nat) (ga g1 g2 g3 : Nat) (l1 l2 l3 : ClassId) (dn : Nat) (so : Int64) (pl : Nat → Nat) (rg vl : Nat → Int32) (pa : Nat)  (sz : Nat) : Met l y_Progress_key w_Progress_key ({ frames := 0, cells := 0, slots := 0, locals := 0 }) (va_Pc [.ref ga] (fun U => U.heap.size = sz ∧ va_P (dC, dI) classes [oc ga 1 [.ref pa, .ref g1, .ref g2, .ref g3, .int (nI dn), .long so]] U.heap ∧ va_K (dC, dI) classes [] U ∧ va_D (fun _ => True) [oc ga 1 [.ref pa, .ref g1, .ref g2, .ref g3, .int (nI dn), .long so]] ∧ nw U)) (va_Ql (fun (r : Int64) (_ : Unit) => r = keyP so dn) (fun _ t9 => va_P (dC, dI) classes [oc ga 1 [.ref pa, .ref g1, .ref g2, .ref g3, .int (nI dn), .long so]] t9.heap ∧ va_K (dC, dI) classes [] t9 ∧ va_D (va_A [oc ga 1 [.ref pa, .ref g1, .ref g2, .ref g3, .int (nI dn), .long so]] sz) [oc ga 1 [.ref pa, .ref g1, .ref g2, .ref g3, .int (nI dn), .long so]]) (va_A [oc ga 1 [.ref pa, .ref g1, .ref g2, .ref g3, .int (nI dn), .long so]] sz)) 0 0 (va_A [oc ga 1 [.ref pa, .ref g1, .ref g2, .ref g3, .int (nI dn), .long so]] sz) := by
  refine Met.ofW (cc := b_Progress_key) (maxL := 1) (ret := (some .long)) (by decide) rfl ?_
  intro p e0 s m args below meth c s₁ B hml hv
  obtain ⟨rfl, hsz, hP, hK, hD0, hn⟩ := hv
  have hx := B.exec
  have hb := B.bytes
  have hr := B.returns
  have hw := fun w (h : w ∈ wt) => atoms_spec (ws := w_Progress_key) B.pre w (List.mem_cons_of_mem _ h)
  have hown : s.vm.findClass R_Progress = some m.cls := findClass_of_methodNamed B.named
  have hlocks := B.notSynchronized
  subst hsz
  have hD1 := hD0.self (sz := s.heap.size)
  generalize hAe : va_A [oc ga 1 [.ref pa, .ref g1, .ref g2, .ref g3, .int (nI dn), .long so]] s.heap.size = A at hD1 ⊢
  have hA : ∀ q : Nat, s.heap.size ≤ q → A q := fun q h => by rw [← hAe]; exact Or.inr h
  have hD : dd A [ga] := dd_of hD1 rfl
  clear hAe hD0 hD1
  have hS : va_S A s.heap s.heap [] := va_S.rf
  replace hP : va_P (dC, dI) classes [oc ga 1 [.ref pa, .ref g1, .ref g2, .ref g3, .int (nI dn), .long so]] s.heap := hP
  have hl := lv_entry ([.ref ga]) (n := 1) (Nat.le_of_ble_eq_true rfl)
  rw [lg_entry_eq]
  generalize (lg_sl ([.ref ga]) ++ List.replicate (1 - (lg_sl ([.ref ga])).length) Slot.unset).toArray = ls at hl ⊢
  replace hl : lv_has ls 1 [(0, .ref ga)] := hl
  refine lv_aload_n hx hb d_Progress_key_0 rfl (lv_at hl 0 rfl) ?_
  refine va_get (D := (dC, dI)) (ci := 1) (v := .long so) (C := R_Progress) (T := F_Progress) (N := 6) hx hb hw i_Progress hown hK hP 0 rfl rfl 5 (by decide) (hw _ m_210) (fun _ h9 => h9) rfl d_Progress_key_1 ?_
  refine lv_bipush (v := 7) hx hb d_Progress_key_4 (by decide) ?_
  refine lv_lshl (v := so <<< ((7 : Int32).toInt64 &&& 63)) hx hb d_Progress_key_6 rfl ?_
  refine lv_aload_n hx hb d_Progress_key_7 rfl (lv_at hl 0 rfl) ?_
  refine va_get (D := (dC, dI)) (ci := 1) (v := .int (nI dn)) (C := R_Progress) (T := F_Progress) (N := 6) hx hb hw i_Progress hown hK hP 0 rfl rfl 4 (by decide) (hw _ m_208) (fun _ h9 => h9) rfl d_Progress_key_8 ?_
  refine lv_i2l (v := (nI dn).toInt64) hx hb d_Progress_key_11 rfl ?_
  refine lv_lor hx hb d_Progress_key_12 ?_
  refine tp_l (y := (so <<< ((7 : Int32).toInt64 &&& 63)) ||| ((nI dn).toInt64)) rfl ?_
  obtain ⟨hP9, hD9, -⟩ := cut3 (wc := [oc ga 1 [.ref pa, .ref g1, .ref g2, .ref g3, .int (nI dn), .long so]]) hP hD rfl hS hA [0] (by decide +kernel) rfl
  have hK9 := hK.sub (tys' := []) [] rfl
  refine W.widen (k := 0) (n := 0) (by exact Nat.le_of_ble_eq_true rfl) (by exact Nat.le_of_ble_eq_true rfl) ?_
  exact W.lret (v := ((so <<< ((7 : Int32).toInt64 &&& 63)) ||| ((nI dn).toInt64))) hx hb hr (fun t9 ht9 hW => ⟨⟨(so <<< ((7 : Int32).toInt64 &&& 63)) ||| ((nI dn).toInt64), (), rfl, rfl, by rw [ht9]; exact hP9, va_K.moved hW.alike hK9, hD9⟩, hS.F ht9⟩) hS.2.2 d_Progress_key_13
set_option maxHeartbeats 4000000 in
set_option maxRecDepth 100000 in
theorem gen_Progress_undo (l : Launch) (dC : Nat → ClassId) (dI : Nat → Nat → Nat) (pa : Nat) (pA : Nat → Nat) (pK : Nat → ClassId) (T Ac : Nat) (pg : Nat → Nat → Nat) (nm : Nat → Int32) (ga g1 g2 g3 : Nat) (l1 l2 l3 : ClassId) (dn : Nat) (so : Int64) (pl : Nat → Nat) (rg vl : Nat → Int32) (a : Nat) (old : Int32) (ha : a < 7) (hdn : dn < 128) (h2 : pg 2 a < 4) (h3 : pg 3 a < 1000) (h8 : pg 6 a < 8) (sz : Nat) : Met l y_Progress_undo w_Progress_undo ({ frames := 0, cells := 0, slots := 0, locals := 0 }) (va_Pc [.ref ga, .int (nI a), .int old] (fun U => U.heap.size = sz ∧ va_P (dC, dI) classes [oc ga 1 [.ref pa, .ref g1, .ref g2, .ref g3, .int (nI dn), .long so], ia g1 l1 4 (fun i => nI (pl i)), ia g2 l2 8 rg, oc pa 0 [.ref (pA 0), .ref (pA 1), .ref (pA 2), .ref (pA 3), .ref (pA 4), .ref (pA 5), .ref (pA 6), .ref (pA 7), .ref (pA 8), .ref (pA 9), .ref (pA 10), .int (nI T), .int (nI Ac)], ia (pA 2) (pK 2) 7 (fun i => nI ((pg 2) i)), ia (pA 3) (pK 3) 7 (fun i => nI ((pg 3) i)), ia (pA 6) (pK 6) 7 (fun i => nI ((pg 6) i))] U.heap ∧ va_K (dC, dI) classes [(l1, .int), (l2, .int), ((pK 2), .int), ((pK 3), .int), ((pK 6), .int)] U ∧ va_D (fun _ => True) [oc ga 1 [.ref pa, .ref g1, .ref g2, .ref g3, .int (nI dn), .long so], ia g1 l1 4 (fun i => nI (pl i)), ia g2 l2 8 rg, oc pa 0 [.ref (pA 0), .ref (pA 1), .ref (pA 2), .ref (pA 3), .ref (pA 4), .ref (pA 5), .ref (pA 6), .ref (pA 7), .ref (pA 8), .ref (pA 9), .ref (pA 10), .int (nI T), .int (nI Ac)], ia (pA 2) (pK 2) 7 (fun i => nI ((pg 2) i)), ia (pA 3) (pK 3) 7 (fun i => nI ((pg 3) i)), ia (pA 6) (pK 6) 7 (fun i => nI ((pg 6) i))] ∧ nw U)) (va_Qv (fun _ : Unit => True) (fun _ t9 => va_P (dC, dI) classes [oc ga 1 [.ref pa, .ref g1, .ref g2, .ref g3, .int (nI (clr dn a)), .long (srcU so a)], ia g1 l1 4 (fun i => nI ((updN pl (pg 2 a) (pg 3 a)) i)), ia g2 l2 8 (upd rg (pg 6 a) old), oc pa 0 [.ref (pA 0), .ref (pA 1), .ref (pA 2), .ref (pA 3), .ref (pA 4), .ref (pA 5), .ref (pA 6), .ref (pA 7), .ref (pA 8), .ref (pA 9), .ref (pA 10), .int (nI T), .int (nI Ac)], ia (pA 2) (pK 2) 7 (fun i => nI ((pg 2) i)), ia (pA 3) (pK 3) 7 (fun i => nI ((pg 3) i)), ia (pA 6) (pK 6) 7 (fun i => nI ((pg 6) i))] t9.heap ∧ va_K (dC, dI) classes [] t9 ∧ va_D (va_A [oc ga 1 [.ref pa, .ref g1, .ref g2, .ref g3, .int (nI dn), .long so], ia g1 l1 4 (fun i => nI (pl i)), ia g2 l2 8 rg, oc pa 0 [.ref (pA 0), .ref (pA 1), .ref (pA 2), .ref (pA 3), .ref (pA 4), .ref (pA 5), .ref (pA 6), .ref (pA 7), .ref (pA 8), .ref (pA 9), .ref (pA 10), .int (nI T), .int (nI Ac)], ia (pA 2) (pK 2) 7 (fun i => nI ((pg 2) i)), ia (pA 3) (pK 3) 7 (fun i => nI ((pg 3) i)), ia (pA 6) (pK 6) 7 (fun i => nI ((pg 6) i))] sz) [oc ga 1 [.ref pa, .ref g1, .ref g2, .ref g3, .int (nI (clr dn a)), .long (srcU so a)], ia g1 l1 4 (fun i => nI ((updN pl (pg 2 a) (pg 3 a)) i)), ia g2 l2 8 (upd rg (pg 6 a) old), oc pa 0 [.ref (pA 0), .ref (pA 1), .ref (pA 2), .ref (pA 3), .ref (pA 4), .ref (pA 5), .ref (pA 6), .ref (pA 7), .ref (pA 8), .ref (pA 9), .ref (pA 10), .int (nI T), .int (nI Ac)], ia (pA 2) (pK 2) 7 (fun i => nI ((pg 2) i)), ia (pA 3) (pK 3) 7 (fun i => nI ((pg 3) i)), ia (pA 6) (pK 6) 7 (fun i => nI ((pg 6) i))]) (va_A [oc ga 1 [.ref pa, .ref g1, .ref g2, .ref g3, .int (nI dn), .long so], ia g1 l1 4 (fun i => nI (pl i)), ia g2 l2 8 rg, oc pa 0 [.ref (pA 0), .ref (pA 1), .ref (pA 2), .ref (pA 3), .ref (pA 4), .ref (pA 5), .ref (pA 6), .ref (pA 7), .ref (pA 8), .ref (pA 9), .ref (pA 10), .int (nI T), .int (nI Ac)], ia (pA 2) (pK 2) 7 (fun i => nI ((pg 2) i)), ia (pA 3) (pK 3) 7 (fun i => nI ((pg 3) i)), ia (pA 6) (pK 6) 7 (fun i => nI ((pg 6) i))] sz)) 0 0 (va_A [oc ga 1 [.ref pa, .ref g1, .ref g2, .ref g3, .int (nI dn), .long so], ia g1 l1 4 (fun i => nI (pl i)), ia g2 l2 8 rg, oc pa 0 [.ref (pA 0), .ref (pA 1), .ref (pA 2), .ref (pA 3), .ref (pA 4), .ref (pA 5), .ref (pA 6), .ref (pA 7), .ref (pA 8), .ref (pA 9), .ref (pA 10), .int (nI T), .int (nI Ac)], ia (pA 2) (pK 2) 7 (fun i => nI ((pg 2) i)), ia (pA 3) (pK 3) 7 (fun i => nI ((pg 3) i)), ia (pA 6) (pK 6) 7 (fun i => nI ((pg 6) i))] sz) := by
  refine Met.ofW (cc := b_Progress_undo) (maxL := 3) (ret := none) (by decide) rfl ?_
  intro p e0 s m args below meth c s₁ B hml hv
  obtain ⟨rfl, hsz, hP, hK, hD0, hn⟩ := hv
  have hx := B.exec
  have hb := B.bytes
  have hr := B.returns
  have hw := fun w (h : w ∈ wt) => atoms_spec (ws := w_Progress_undo) B.pre w (List.mem_cons_of_mem _ h)
  have hown : s.vm.findClass R_Progress = some m.cls := findClass_of_methodNamed B.named
  have hlocks := B.notSynchronized
  subst hsz
  have hD1 := hD0.self (sz := s.heap.size)
  generalize hAe : va_A [oc ga 1 [.ref pa, .ref g1, .ref g2, .ref g3, .int (nI dn), .long so], ia g1 l1 4 (fun i => nI (pl i)), ia g2 l2 8 rg, oc pa 0 [.ref (pA 0), .ref (pA 1), .ref (pA 2), .ref (pA 3), .ref (pA 4), .ref (pA 5), .ref (pA 6), .ref (pA 7), .ref (pA 8), .ref (pA 9), .ref (pA 10), .int (nI T), .int (nI Ac)], ia (pA 2) (pK 2) 7 (fun i => nI ((pg 2) i)), ia (pA 3) (pK 3) 7 (fun i => nI ((pg 3) i)), ia (pA 6) (pK 6) 7 (fun i => nI ((pg 6) i))] s.heap.size = A at hD1 ⊢
  have hA : ∀ q : Nat, s.heap.size ≤ q → A q := fun q h => by rw [← hAe]; exact Or.inr h
  have hD : dd A [ga, g1, g2, pa, (pA 2), (pA 3), (pA 6)] := dd_of hD1 rfl
  clear hAe hD0 hD1
  have hS : va_S A s.heap s.heap [] := va_S.rf
  replace hP : va_P (dC, dI) classes [oc ga 1 [.ref pa, .ref g1, .ref g2, .ref g3, .int (nI dn), .long so], ia g1 l1 4 (fun i => nI (pl i)), ia g2 l2 8 rg, oc pa 0 [.ref (pA 0), .ref (pA 1), .ref (pA 2), .ref (pA 3), .ref (pA 4), .ref (pA 5), .ref (pA 6), .ref (pA 7), .ref (pA 8), .ref (pA 9), .ref (pA 10), .int (nI T), .int (nI Ac)], ia (pA 2) (pK 2) 7 (fun i => nI ((pg 2) i)), ia (pA 3) (pK 3) 7 (fun i => nI ((pg 3) i)), ia (pA 6) (pK 6) 7 (fun i => nI ((pg 6) i))] s.heap := hP
  have hl := lv_entry ([.ref ga, .int (nI a), .int old]) (n := 3) (Nat.le_of_ble_eq_true rfl)
  rw [lg_entry_eq]
  generalize (lg_sl ([.ref ga, .int (nI a), .int old]) ++ List.replicate (3 - (lg_sl ([.ref ga, .int (nI a), .int old])).length) Slot.unset).toArray = ls at hl ⊢
  replace hl : lv_has ls 3 [(0, .ref ga), (1, .int (nI a)), (2, .int old)] := hl
  refine lv_aload_n hx hb d_Progress_undo_0 rfl (lv_at hl 0 rfl) ?_
  refine va_get (D := (dC, dI)) (ci := 1) (v := .ref g2) (C := R_Progress) (T := F_Progress) (N := 6) hx hb hw i_Progress hown hK hP 0 rfl rfl 2 (by decide) (hw _ m_206) (fun _ h9 => h9) rfl d_Progress_undo_1 ?_
  refine lv_aload_n hx hb d_Progress_undo_4 rfl (lv_at hl 0 rfl) ?_
  refine va_get (D := (dC, dI)) (ci := 1) (v := .ref pa) (C := R_Progress) (T := F_Progress) (N := 6) hx hb hw i_Progress hown hK hP 0 rfl rfl 0 (by decide) (hw _ m_203) (fun _ h9 => h9) rfl d_Progress_undo_5 ?_
  refine va_get (D := (dC, dI)) (ci := 0) (v := .ref (pA 6)) (C := R_Program) (T := F_Program) (N := 13) hx hb hw i_Program hown hK hP 3 rfl rfl 6 (by decide) (hw _ m_149) (fun _ h9 => h9) rfl d_Progress_undo_8 ?_
  refine lv_iload_n hx hb d_Progress_undo_11 rfl (lv_at hl 1 rfl) ?_
  refine va_iald (D := (dC, dI)) hx hb hK hP 6 4 rfl rfl (i := nI a) (pk_in a 7 (by omega)) d_Progress_undo_12 ?_
  refine tp_i (y := nI ((pg 6) a)) (by rw [show (nI a : Int32).toNatClampNeg = a from pk_cl a]) ?_
  refine lv_iload_n hx hb d_Progress_undo_13 rfl (lv_at hl 2 rfl) ?_
  refine va_iast (D := (dC, dI)) hx hb hK hP (dd_D hD rfl) hS 2 1 rfl rfl (i := nI ((pg 6) a)) (x := old) (pk_in ((pg 6) a) 8 (by omega)) d_Progress_undo_14 ?_
  clear hP hS
  intro H locs hP _ hS
  rw [show (nI ((pg 6) a) : Int32).toNatClampNeg = (pg 6) a from pk_cl ((pg 6) a)] at hP
  replace hP : va_P (dC, dI) classes [oc ga 1 [.ref pa, .ref g1, .ref g2, .ref g3, .int (nI dn), .long so], ia g1 l1 4 (fun i => nI (pl i)), ia g2 l2 8 (upd rg ((pg 6) a) old), oc pa 0 [.ref (pA 0), .ref (pA 1), .ref (pA 2), .ref (pA 3), .ref (pA 4), .ref (pA 5), .ref (pA 6), .ref (pA 7), .ref (pA 8), .ref (pA 9), .ref (pA 10), .int (nI T), .int (nI Ac)], ia (pA 2) (pK 2) 7 (fun i => nI ((pg 2) i)), ia (pA 3) (pK 3) 7 (fun i => nI ((pg 3) i)), ia (pA 6) (pK 6) 7 (fun i => nI ((pg 6) i))] H := hP
  refine tp_pc (pc' := 15) (by rfl) ?_
  refine lv_aload_n hx hb d_Progress_undo_15 rfl (lv_at hl 0 rfl) ?_
  refine va_get (D := (dC, dI)) (ci := 1) (v := .ref g1) (C := R_Progress) (T := F_Progress) (N := 6) hx hb hw i_Progress hown hK hP 0 rfl rfl 1 (by decide) (hw _ m_204) (fun _ h9 => h9) rfl d_Progress_undo_16 ?_
  refine lv_aload_n hx hb d_Progress_undo_19 rfl (lv_at hl 0 rfl) ?_
  refine va_get (D := (dC, dI)) (ci := 1) (v := .ref pa) (C := R_Progress) (T := F_Progress) (N := 6) hx hb hw i_Progress hown hK hP 0 rfl rfl 0 (by decide) (hw _ m_203) (fun _ h9 => h9) rfl d_Progress_undo_20 ?_
  refine va_get (D := (dC, dI)) (ci := 0) (v := .ref (pA 2)) (C := R_Program) (T := F_Program) (N := 13) hx hb hw i_Program hown hK hP 3 rfl rfl 2 (by decide) (hw _ m_132) (fun _ h9 => h9) rfl d_Progress_undo_23 ?_
  refine lv_iload_n hx hb d_Progress_undo_26 rfl (lv_at hl 1 rfl) ?_
  refine va_iald (D := (dC, dI)) hx hb hK hP 4 2 rfl rfl (i := nI a) (pk_in a 7 (by omega)) d_Progress_undo_27 ?_
  refine tp_i (y := nI ((pg 2) a)) (by rw [show (nI a : Int32).toNatClampNeg = a from pk_cl a]) ?_
  refine lv_aload_n hx hb d_Progress_undo_28 rfl (lv_at hl 0 rfl) ?_
  refine va_get (D := (dC, dI)) (ci := 1) (v := .ref pa) (C := R_Progress) (T := F_Progress) (N := 6) hx hb hw i_Progress hown hK hP 0 rfl rfl 0 (by decide) (hw _ m_203) (fun _ h9 => h9) rfl d_Progress_undo_29 ?_
  refine va_get (D := (dC, dI)) (ci := 0) (v := .ref (pA 3)) (C := R_Program) (T := F_Program) (N := 13) hx hb hw i_Program hown hK hP 3 rfl rfl 3 (by decide) (hw _ m_136) (fun _ h9 => h9) rfl d_Progress_undo_32 ?_
  refine lv_iload_n hx hb d_Progress_undo_35 rfl (lv_at hl 1 rfl) ?_
  refine va_iald (D := (dC, dI)) hx hb hK hP 5 3 rfl rfl (i := nI a) (pk_in a 7 (by omega)) d_Progress_undo_36 ?_
  refine tp_i (y := nI ((pg 3) a)) (by rw [show (nI a : Int32).toNatClampNeg = a from pk_cl a]) ?_
  refine va_iast (D := (dC, dI)) hx hb hK hP (dd_D hD rfl) hS 1 0 rfl rfl (i := nI ((pg 2) a)) (x := nI ((pg 3) a)) (pk_in ((pg 2) a) 4 (by omega)) d_Progress_undo_37 ?_
  clear hP hS locs H
  intro H locs hP _ hS
  rw [show (nI ((pg 2) a) : Int32).toNatClampNeg = (pg 2) a from pk_cl ((pg 2) a)] at hP
  rw [show upd (fun i => nI (pl i)) ((pg 2) a) (nI ((pg 3) a)) = fun i => nI (updN pl ((pg 2) a) ((pg 3) a) i) from upd_nI] at hP
  replace hP : va_P (dC, dI) classes [oc ga 1 [.ref pa, .ref g1, .ref g2, .ref g3, .int (nI dn), .long so], ia g1 l1 4 (fun i => nI ((updN pl ((pg 2) a) ((pg 3) a)) i)), ia g2 l2 8 (upd rg ((pg 6) a) old), oc pa 0 [.ref (pA 0), .ref (pA 1), .ref (pA 2), .ref (pA 3), .ref (pA 4), .ref (pA 5), .ref (pA 6), .ref (pA 7), .ref (pA 8), .ref (pA 9), .ref (pA 10), .int (nI T), .int (nI Ac)], ia (pA 2) (pK 2) 7 (fun i => nI ((pg 2) i)), ia (pA 3) (pK 3) 7 (fun i => nI ((pg 3) i)), ia (pA 6) (pK 6) 7 (fun i => nI ((pg 6) i))] H := hP
  refine tp_pc (pc' := 38) (by rfl) ?_
  refine lv_aload_n hx hb d_Progress_undo_38 rfl (lv_at hl 0 rfl) ?_
  refine lv_dup hx hb d_Progress_undo_39 rfl ?_
  refine va_get (D := (dC, dI)) (ci := 1) (v := .int (nI dn)) (C := R_Progress) (T := F_Progress) (N := 6) hx hb hw i_Progress hown hK hP 0 rfl rfl 4 (by decide) (hw _ m_208) (fun _ h9 => h9) rfl d_Progress_undo_40 ?_
  refine lv_iconst (v := 1) hx hb d_Progress_undo_43 (by decide) ?_
  refine lv_iload_n hx hb d_Progress_undo_44 rfl (lv_at hl 1 rfl) ?_
  refine lv_ishl hx hb d_Progress_undo_45 ?_
  refine tp_i (y := 1 <<< ((nI a) &&& 31)) rfl ?_
  refine lv_iconst (v := (-1)) hx hb d_Progress_undo_46 (by decide) ?_
  refine lv_ixor hx hb d_Progress_undo_47 ?_
  refine tp_i (y := (1 <<< ((nI a) &&& 31)) ^^^ (-1)) rfl ?_
  refine lv_iand hx hb d_Progress_undo_48 ?_
  refine tp_i (y := (nI dn) &&& ((1 <<< ((nI a) &&& 31)) ^^^ (-1))) rfl ?_
  refine tp_i (y := nI (clr dn a)) (clr_eq dn hdn a ha) ?_
  refine va_put (D := (dC, dI)) (ci := 1) (v := .int (nI (clr dn a))) (ty := .int) (C := R_Progress) (T := F_Progress) (N := 6) hx hb hw i_Progress t_Progress t_Progress_ok n_Progress hown hK hP (dd_D hD rfl) hS 0 rfl rfl 4 (by decide) (hw _ m_208) (fun _ h9 => h9) rfl (by decide +kernel) rfl rfl (Nat.le_of_ble_eq_true rfl) d_Progress_undo_49 ?_
  clear hP hS locs H
  intro H locs (hP : va_P (dC, dI) classes [oc ga 1 [.ref pa, .ref g1, .ref g2, .ref g3, .int (nI (clr dn a)), .long so], ia g1 l1 4 (fun i => nI ((updN pl ((pg 2) a) ((pg 3) a)) i)), ia g2 l2 8 (upd rg ((pg 6) a) old), oc pa 0 [.ref (pA 0), .ref (pA 1), .ref (pA 2), .ref (pA 3), .ref (pA 4), .ref (pA 5), .ref (pA 6), .ref (pA 7), .ref (pA 8), .ref (pA 9), .ref (pA 10), .int (nI T), .int (nI Ac)], ia (pA 2) (pK 2) 7 (fun i => nI ((pg 2) i)), ia (pA 3) (pK 3) 7 (fun i => nI ((pg 3) i)), ia (pA 6) (pK 6) 7 (fun i => nI ((pg 6) i))] H) _ hS
  refine tp_pc (pc' := 52) (by rfl) ?_
  refine lv_aload_n hx hb d_Progress_undo_52 rfl (lv_at hl 0 rfl) ?_
  refine lv_dup hx hb d_Progress_undo_53 rfl ?_
  refine va_get (D := (dC, dI)) (ci := 1) (v := .long so) (C := R_Progress) (T := F_Progress) (N := 6) hx hb hw i_Progress hown hK hP 0 rfl rfl 5 (by decide) (hw _ m_210) (fun _ h9 => h9) rfl d_Progress_undo_54 ?_
  refine lv_ldc2 hx hb hown (hw _ m_586) d_Progress_undo_57 ?_
  refine lv_iconst (v := 3) hx hb d_Progress_undo_60 (by decide) ?_
  refine lv_iload_n hx hb d_Progress_undo_61 rfl (lv_at hl 1 rfl) ?_
  refine lv_imul hx hb d_Progress_undo_62 ?_
  refine tp_i (y := nI (3 * a)) (by exact pk_mul 3 a) ?_
  refine lv_lshl (v := 7 <<< (((nI (3 * a)) : Int32).toInt64 &&& 63)) hx hb d_Progress_undo_63 rfl ?_
  refine lv_ldc2 hx hb hown (hw _ m_587) d_Progress_undo_64 ?_
  refine lv_lxor hx hb d_Progress_undo_67 ?_
  refine tp_l (y := (7 <<< (((nI (3 * a)) : Int32).toInt64 &&& 63)) ^^^ (-1)) rfl ?_
  refine lv_land hx hb d_Progress_undo_68 ?_
  refine tp_l (y := so &&& ((7 <<< (((nI (3 * a)) : Int32).toInt64 &&& 63)) ^^^ (-1))) rfl ?_
  refine tp_l (y := srcU so a) rfl ?_
  refine va_put (D := (dC, dI)) (ci := 1) (v := .long (srcU so a)) (ty := .long) (C := R_Progress) (T := F_Progress) (N := 6) hx hb hw i_Progress t_Progress t_Progress_ok n_Progress hown hK hP (dd_D hD rfl) hS 0 rfl rfl 5 (by decide) (hw _ m_210) (fun _ h9 => h9) rfl (by decide +kernel) rfl rfl (Nat.le_of_ble_eq_true rfl) d_Progress_undo_69 ?_
  clear hP hS locs H
  intro H locs (hP : va_P (dC, dI) classes [oc ga 1 [.ref pa, .ref g1, .ref g2, .ref g3, .int (nI (clr dn a)), .long (srcU so a)], ia g1 l1 4 (fun i => nI ((updN pl ((pg 2) a) ((pg 3) a)) i)), ia g2 l2 8 (upd rg ((pg 6) a) old), oc pa 0 [.ref (pA 0), .ref (pA 1), .ref (pA 2), .ref (pA 3), .ref (pA 4), .ref (pA 5), .ref (pA 6), .ref (pA 7), .ref (pA 8), .ref (pA 9), .ref (pA 10), .int (nI T), .int (nI Ac)], ia (pA 2) (pK 2) 7 (fun i => nI ((pg 2) i)), ia (pA 3) (pK 3) 7 (fun i => nI ((pg 3) i)), ia (pA 6) (pK 6) 7 (fun i => nI ((pg 6) i))] H) _ hS
  refine tp_pc (pc' := 72) (by rfl) ?_
  obtain ⟨hP9, hD9, -⟩ := cut3 (wc := [oc ga 1 [.ref pa, .ref g1, .ref g2, .ref g3, .int (nI (clr dn a)), .long (srcU so a)], ia g1 l1 4 (fun i => nI ((updN pl ((pg 2) a) ((pg 3) a)) i)), ia g2 l2 8 (upd rg ((pg 6) a) old), oc pa 0 [.ref (pA 0), .ref (pA 1), .ref (pA 2), .ref (pA 3), .ref (pA 4), .ref (pA 5), .ref (pA 6), .ref (pA 7), .ref (pA 8), .ref (pA 9), .ref (pA 10), .int (nI T), .int (nI Ac)], ia (pA 2) (pK 2) 7 (fun i => nI ((pg 2) i)), ia (pA 3) (pK 3) 7 (fun i => nI ((pg 3) i)), ia (pA 6) (pK 6) 7 (fun i => nI ((pg 6) i))]) hP hD rfl hS hA [0, 1, 2, 3, 4, 5, 6] (by decide +kernel) rfl
  have hK9 := hK.sub (tys' := []) [] rfl
  refine W.widen (k := 0) (n := 0) (by exact Nat.le_of_ble_eq_true rfl) (by exact Nat.le_of_ble_eq_true rfl) ?_
  exact W.vret hx hb hr (fun t9 ht9 hW => ⟨⟨(), rfl, trivial, by rw [ht9]; exact hP9, va_K.moved hW.alike hK9, hD9⟩, hS.F ht9⟩) hS.2.2 d_Progress_undo_72
