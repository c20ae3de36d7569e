set_option maxHeartbeats 4000000 in
set_option maxRecDepth 100000 in
theorem gen_Program_stores (l : Launch) (dC : Nat → ClassId) (dI : Nat → Nat → Nat) (pa : Nat) (pA : Nat → Nat) (pK : Nat → ClassId) (T Ac : Nat) (pg : Nat → Nat → Nat) (nm : Nat → Int32) (h1 : pg 9 1 < 128) (h2 : pg 9 2 < 128) (sz : Nat) : Met l y_Program_stores w_Program_stores ({ frames := 0, cells := 0, slots := 0, locals := 0 }) (va_Pc [.ref pa] (fun U => U.heap.size = sz ∧ va_P (dC, dI) classes [oc pa 0 [.ref (pA 0), .ref (pA 1), .ref (pA 2), .ref (pA 3), .ref (pA 4), .ref (pA 5), .ref (pA 6), .ref (pA 7), .ref (pA 8), .ref (pA 9), .ref (pA 10), .int (nI T), .int (nI Ac)], ia (pA 9) (pK 9) 6 (fun i => nI ((pg 9) i))] U.heap ∧ va_K (dC, dI) classes [((pK 9), .int)] U ∧ va_D (fun _ => True) [oc pa 0 [.ref (pA 0), .ref (pA 1), .ref (pA 2), .ref (pA 3), .ref (pA 4), .ref (pA 5), .ref (pA 6), .ref (pA 7), .ref (pA 8), .ref (pA 9), .ref (pA 10), .int (nI T), .int (nI Ac)], ia (pA 9) (pK 9) 6 (fun i => nI ((pg 9) i))] ∧ nw U)) (va_Qi (fun (r : Int32) (_ : Unit) => r = nI (pg 9 1 ||| pg 9 2)) (fun _ t9 => va_P (dC, dI) classes [oc pa 0 [.ref (pA 0), .ref (pA 1), .ref (pA 2), .ref (pA 3), .ref (pA 4), .ref (pA 5), .ref (pA 6), .ref (pA 7), .ref (pA 8), .ref (pA 9), .ref (pA 10), .int (nI T), .int (nI Ac)], ia (pA 9) (pK 9) 6 (fun i => nI ((pg 9) i))] t9.heap ∧ va_K (dC, dI) classes [] t9 ∧ va_D (va_A [oc pa 0 [.ref (pA 0), .ref (pA 1), .ref (pA 2), .ref (pA 3), .ref (pA 4), .ref (pA 5), .ref (pA 6), .ref (pA 7), .ref (pA 8), .ref (pA 9), .ref (pA 10), .int (nI T), .int (nI Ac)], ia (pA 9) (pK 9) 6 (fun i => nI ((pg 9) i))] sz) [oc pa 0 [.ref (pA 0), .ref (pA 1), .ref (pA 2), .ref (pA 3), .ref (pA 4), .ref (pA 5), .ref (pA 6), .ref (pA 7), .ref (pA 8), .ref (pA 9), .ref (pA 10), .int (nI T), .int (nI Ac)], ia (pA 9) (pK 9) 6 (fun i => nI ((pg 9) i))]) (va_A [oc pa 0 [.ref (pA 0), .ref (pA 1), .ref (pA 2), .ref (pA 3), .ref (pA 4), .ref (pA 5), .ref (pA 6), .ref (pA 7), .ref (pA 8), .ref (pA 9), .ref (pA 10), .int (nI T), .int (nI Ac)], ia (pA 9) (pK 9) 6 (fun i => nI ((pg 9) i))] sz)) 0 0 (va_A [oc pa 0 [.ref (pA 0), .ref (pA 1), .ref (pA 2), .ref (pA 3), .ref (pA 4), .ref (pA 5), .ref (pA 6), .ref (pA 7), .ref (pA 8), .ref (pA 9), .ref (pA 10), .int (nI T), .int (nI Ac)], ia (pA 9) (pK 9) 6 (fun i => nI ((pg 9) i))] sz) := by
  refine Met.ofW (cc := b_Program_stores) (maxL := 1) (ret := (some .int)) (by decide) rfl ?_
  intro p e0 s m args below meth c s₁ B hml hv
  obtain ⟨rfl, hsz, hP, hK, hD0, hn⟩ := hv
  have hx := B.exec
  have hb := B.bytes
  have hr := B.returns
  have hw := fun w (h : w ∈ wt) => atoms_spec (ws := w_Program_stores) B.pre w (List.mem_cons_of_mem _ h)
  have hown : s.vm.findClass R_Program = some m.cls := findClass_of_methodNamed B.named
  have hlocks := B.notSynchronized
  subst hsz
  have hD1 := hD0.self (sz := s.heap.size)
  generalize hAe : va_A [oc pa 0 [.ref (pA 0), .ref (pA 1), .ref (pA 2), .ref (pA 3), .ref (pA 4), .ref (pA 5), .ref (pA 6), .ref (pA 7), .ref (pA 8), .ref (pA 9), .ref (pA 10), .int (nI T), .int (nI Ac)], ia (pA 9) (pK 9) 6 (fun i => nI ((pg 9) i))] s.heap.size = A at hD1 ⊢
  have hA : ∀ q : Nat, s.heap.size ≤ q → A q := fun q h => by rw [← hAe]; exact Or.inr h
  have hD : dd A [pa, (pA 9)] := dd_of hD1 rfl
  clear hAe hD0 hD1
  have hS : va_S A s.heap s.heap [] := va_S.rf
  replace hP : va_P (dC, dI) classes [oc pa 0 [.ref (pA 0), .ref (pA 1), .ref (pA 2), .ref (pA 3), .ref (pA 4), .ref (pA 5), .ref (pA 6), .ref (pA 7), .ref (pA 8), .ref (pA 9), .ref (pA 10), .int (nI T), .int (nI Ac)], ia (pA 9) (pK 9) 6 (fun i => nI ((pg 9) i))] s.heap := hP
  have hl := lv_entry ([.ref pa]) (n := 1) (Nat.le_of_ble_eq_true rfl)
  rw [lg_entry_eq]
  generalize (lg_sl ([.ref pa]) ++ List.replicate (1 - (lg_sl ([.ref pa])).length) Slot.unset).toArray = ls at hl ⊢
  replace hl : lv_has ls 1 [(0, .ref pa)] := hl
  refine lv_aload_n hx hb d_Program_stores_0 rfl (lv_at hl 0 rfl) ?_
  refine va_get (D := (dC, dI)) (ci := 0) (v := .ref (pA 9)) (C := R_Program) (T := F_Program) (N := 13) hx hb hw i_Program hown hK hP 0 rfl rfl 9 (by decide) (hw _ m_155) (fun _ h9 => h9) rfl d_Program_stores_1 ?_
  refine lv_iconst (v := 1) hx hb d_Program_stores_4 (by decide) ?_
  refine va_iald (D := (dC, dI)) hx hb hK hP 1 0 rfl rfl (i := 1) (pk_in 1 6 (by omega)) d_Program_stores_5 ?_
  refine tp_i (y := nI ((pg 9) 1)) (by rw [show (1 : Int32).toNatClampNeg = 1 from pk_cl 1]) ?_
  refine lv_aload_n hx hb d_Program_stores_6 rfl (lv_at hl 0 rfl) ?_
  refine va_get (D := (dC, dI)) (ci := 0) (v := .ref (pA 9)) (C := R_Program) (T := F_Program) (N := 13) hx hb hw i_Program hown hK hP 0 rfl rfl 9 (by decide) (hw _ m_155) (fun _ h9 => h9) rfl d_Program_stores_7 ?_
  refine lv_iconst (v := 2) hx hb d_Program_stores_10 (by decide) ?_
  refine va_iald (D := (dC, dI)) hx hb hK hP 1 0 rfl rfl (i := 2) (pk_in 2 6 (by omega)) d_Program_stores_11 ?_
  refine tp_i (y := nI ((pg 9) 2)) (by rw [show (2 : Int32).toNatClampNeg = 2 from pk_cl 2]) ?_
  refine lv_ior hx hb d_Program_stores_12 ?_
  refine tp_i (y := (nI ((pg 9) 1)) ||| (nI ((pg 9) 2))) rfl ?_
  refine tp_i (y := nI (pg 9 1 ||| pg 9 2)) (or_eq _ h1 _ h2) ?_
  obtain ⟨hP9, hD9, -⟩ := cut3 (wc := [oc pa 0 [.ref (pA 0), .ref (pA 1), .ref (pA 2), .ref (pA 3), .ref (pA 4), .ref (pA 5), .ref (pA 6), .ref (pA 7), .ref (pA 8), .ref (pA 9), .ref (pA 10), .int (nI T), .int (nI Ac)], ia (pA 9) (pK 9) 6 (fun i => nI ((pg 9) i))]) hP hD rfl hS hA [0, 1] (by decide +kernel) rfl
  have hK9 := hK.sub (tys' := []) [] rfl
  refine W.widen (k := 0) (n := 0) (by exact Nat.le_of_ble_eq_true rfl) (by exact Nat.le_of_ble_eq_true rfl) ?_
  exact W.iret (v := (nI (pg 9 1 ||| pg 9 2))) hx hb hr (fun t9 ht9 hW => ⟨⟨nI (pg 9 1 ||| pg 9 2), (), rfl, rfl, by rw [ht9]; exact hP9, va_K.moved hW.alike hK9, hD9⟩, hS.F ht9⟩) hS.2.2 d_Program_stores_13
set_option maxHeartbeats 4000000 in
set_option maxRecDepth 100000 in
theorem gen_Program_ownBefore (l : Launch) (dC : Nat → ClassId) (dI : Nat → Nat → Nat) (pa : Nat) (pA : Nat → Nat) (pK : Nat → ClassId) (T Ac : Nat) (pg : Nat → Nat → Nat) (nm : Nat → Int32) (a : Nat) (ha : a < 7) (h2 : pg 2 a < 4) (h8 : pg 8 (pg 2 a) < 128) (sz : Nat) : Met l y_Program_ownBefore w_Program_ownBefore ({ frames := 0, cells := 0, slots := 0, locals := 0 }) (va_Pc [.ref pa, .int (nI a)] (fun U => U.heap.size = sz ∧ va_P (dC, dI) classes [oc pa 0 [.ref (pA 0), .ref (pA 1), .ref (pA 2), .ref (pA 3), .ref (pA 4), .ref (pA 5), .ref (pA 6), .ref (pA 7), .ref (pA 8), .ref (pA 9), .ref (pA 10), .int (nI T), .int (nI Ac)], ia (pA 2) (pK 2) 7 (fun i => nI ((pg 2) i)), ia (pA 8) (pK 8) 4 (fun i => nI ((pg 8) i))] U.heap ∧ va_K (dC, dI) classes [((pK 2), .int), ((pK 8), .int)] U ∧ va_D (fun _ => True) [oc pa 0 [.ref (pA 0), .ref (pA 1), .ref (pA 2), .ref (pA 3), .ref (pA 4), .ref (pA 5), .ref (pA 6), .ref (pA 7), .ref (pA 8), .ref (pA 9), .ref (pA 10), .int (nI T), .int (nI Ac)], ia (pA 2) (pK 2) 7 (fun i => nI ((pg 2) i)), ia (pA 8) (pK 8) 4 (fun i => nI ((pg 8) i))] ∧ nw U)) (va_Qi (fun (r : Int32) (_ : Unit) => r = nI (pg 8 (pg 2 a) % 2 ^ a)) (fun _ t9 => va_P (dC, dI) classes [oc pa 0 [.ref (pA 0), .ref (pA 1), .ref (pA 2), .ref (pA 3), .ref (pA 4), .ref (pA 5), .ref (pA 6), .ref (pA 7), .ref (pA 8), .ref (pA 9), .ref (pA 10), .int (nI T), .int (nI Ac)], ia (pA 2) (pK 2) 7 (fun i => nI ((pg 2) i)), ia (pA 8) (pK 8) 4 (fun i => nI ((pg 8) i))] t9.heap ∧ va_K (dC, dI) classes [] t9 ∧ va_D (va_A [oc pa 0 [.ref (pA 0), .ref (pA 1), .ref (pA 2), .ref (pA 3), .ref (pA 4), .ref (pA 5), .ref (pA 6), .ref (pA 7), .ref (pA 8), .ref (pA 9), .ref (pA 10), .int (nI T), .int (nI Ac)], ia (pA 2) (pK 2) 7 (fun i => nI ((pg 2) i)), ia (pA 8) (pK 8) 4 (fun i => nI ((pg 8) i))] sz) [oc pa 0 [.ref (pA 0), .ref (pA 1), .ref (pA 2), .ref (pA 3), .ref (pA 4), .ref (pA 5), .ref (pA 6), .ref (pA 7), .ref (pA 8), .ref (pA 9), .ref (pA 10), .int (nI T), .int (nI Ac)], ia (pA 2) (pK 2) 7 (fun i => nI ((pg 2) i)), ia (pA 8) (pK 8) 4 (fun i => nI ((pg 8) i))]) (va_A [oc pa 0 [.ref (pA 0), .ref (pA 1), .ref (pA 2), .ref (pA 3), .ref (pA 4), .ref (pA 5), .ref (pA 6), .ref (pA 7), .ref (pA 8), .ref (pA 9), .ref (pA 10), .int (nI T), .int (nI Ac)], ia (pA 2) (pK 2) 7 (fun i => nI ((pg 2) i)), ia (pA 8) (pK 8) 4 (fun i => nI ((pg 8) i))] sz)) 0 0 (va_A [oc pa 0 [.ref (pA 0), .ref (pA 1), .ref (pA 2), .ref (pA 3), .ref (pA 4), .ref (pA 5), .ref (pA 6), .ref (pA 7), .ref (pA 8), .ref (pA 9), .ref (pA 10), .int (nI T), .int (nI Ac)], ia (pA 2) (pK 2) 7 (fun i => nI ((pg 2) i)), ia (pA 8) (pK 8) 4 (fun i => nI ((pg 8) i))] sz) := by
  refine Met.ofW (cc := b_Program_ownBefore) (maxL := 2) (ret := (some .int)) (by decide) rfl ?_
  intro p e0 s m args below meth c s₁ B hml hv
  obtain ⟨rfl, hsz, hP, hK, hD0, hn⟩ := hv
  have hx := B.exec
  have hb := B.bytes
  have hr := B.returns
  have hw := fun w (h : w ∈ wt) => atoms_spec (ws := w_Program_ownBefore) B.pre w (List.mem_cons_of_mem _ h)
  have hown : s.vm.findClass R_Program = some m.cls := findClass_of_methodNamed B.named
  have hlocks := B.notSynchronized
  subst hsz
  have hD1 := hD0.self (sz := s.heap.size)
  generalize hAe : va_A [oc pa 0 [.ref (pA 0), .ref (pA 1), .ref (pA 2), .ref (pA 3), .ref (pA 4), .ref (pA 5), .ref (pA 6), .ref (pA 7), .ref (pA 8), .ref (pA 9), .ref (pA 10), .int (nI T), .int (nI Ac)], ia (pA 2) (pK 2) 7 (fun i => nI ((pg 2) i)), ia (pA 8) (pK 8) 4 (fun i => nI ((pg 8) i))] s.heap.size = A at hD1 ⊢
  have hA : ∀ q : Nat, s.heap.size ≤ q → A q := fun q h => by rw [← hAe]; exact Or.inr h
  have hD : dd A [pa, (pA 2), (pA 8)] := dd_of hD1 rfl
  clear hAe hD0 hD1
  have hS : va_S A s.heap s.heap [] := va_S.rf
  replace hP : va_P (dC, dI) classes [oc pa 0 [.ref (pA 0), .ref (pA 1), .ref (pA 2), .ref (pA 3), .ref (pA 4), .ref (pA 5), .ref (pA 6), .ref (pA 7), .ref (pA 8), .ref (pA 9), .ref (pA 10), .int (nI T), .int (nI Ac)], ia (pA 2) (pK 2) 7 (fun i => nI ((pg 2) i)), ia (pA 8) (pK 8) 4 (fun i => nI ((pg 8) i))] s.heap := hP
  have hl := lv_entry ([.ref pa, .int (nI a)]) (n := 2) (Nat.le_of_ble_eq_true rfl)
  rw [lg_entry_eq]
  generalize (lg_sl ([.ref pa, .int (nI a)]) ++ List.replicate (2 - (lg_sl ([.ref pa, .int (nI a)])).length) Slot.unset).toArray = ls at hl ⊢
  replace hl : lv_has ls 2 [(0, .ref pa), (1, .int (nI a))] := hl
  refine lv_aload_n hx hb d_Program_ownBefore_0 rfl (lv_at hl 0 rfl) ?_
  refine va_get (D := (dC, dI)) (ci := 0) (v := .ref (pA 8)) (C := R_Program) (T := F_Program) (N := 13) hx hb hw i_Program hown hK hP 0 rfl rfl 8 (by decide) (hw _ m_152) (fun _ h9 => h9) rfl d_Program_ownBefore_1 ?_
  refine lv_aload_n hx hb d_Program_ownBefore_4 rfl (lv_at hl 0 rfl) ?_
  refine va_get (D := (dC, dI)) (ci := 0) (v := .ref (pA 2)) (C := R_Program) (T := F_Program) (N := 13) hx hb hw i_Program hown hK hP 0 rfl rfl 2 (by decide) (hw _ m_130) (fun _ h9 => h9) rfl d_Program_ownBefore_5 ?_
  refine lv_iload_n hx hb d_Program_ownBefore_8 rfl (lv_at hl 1 rfl) ?_
  refine va_iald (D := (dC, dI)) hx hb hK hP 1 0 rfl rfl (i := nI a) (pk_in a 7 (by omega)) d_Program_ownBefore_9 ?_
  refine tp_i (y := nI ((pg 2) a)) (by rw [show (nI a : Int32).toNatClampNeg = a from pk_cl a]) ?_
  refine va_iald (D := (dC, dI)) hx hb hK hP 2 1 rfl rfl (i := nI ((pg 2) a)) (pk_in ((pg 2) a) 4 (by omega)) d_Program_ownBefore_10 ?_
  refine tp_i (y := nI ((pg 8) ((pg 2) a))) (by rw [show (nI ((pg 2) a) : Int32).toNatClampNeg = (pg 2) a from pk_cl ((pg 2) a)]) ?_
  refine lv_iconst (v := 1) hx hb d_Program_ownBefore_11 (by decide) ?_
  refine lv_iload_n hx hb d_Program_ownBefore_12 rfl (lv_at hl 1 rfl) ?_
  refine lv_ishl hx hb d_Program_ownBefore_13 ?_
  refine tp_i (y := 1 <<< ((nI a) &&& 31)) rfl ?_
  refine lv_iconst (v := 1) hx hb d_Program_ownBefore_14 (by decide) ?_
  refine lv_isub hx hb d_Program_ownBefore_15 ?_
  refine tp_i (y := (1 <<< ((nI a) &&& 31)) - 1) rfl ?_
  refine lv_iand hx hb d_Program_ownBefore_16 ?_
  refine tp_i (y := (nI ((pg 8) ((pg 2) a))) &&& ((1 <<< ((nI a) &&& 31)) - 1)) rfl ?_
  refine tp_i (y := nI (pg 8 (pg 2 a) % 2 ^ a)) (bef_eq _ h8 _ ha) ?_
  obtain ⟨hP9, hD9, -⟩ := cut3 (wc := [oc pa 0 [.ref (pA 0), .ref (pA 1), .ref (pA 2), .ref (pA 3), .ref (pA 4), .ref (pA 5), .ref (pA 6), .ref (pA 7), .ref (pA 8), .ref (pA 9), .ref (pA 10), .int (nI T), .int (nI Ac)], ia (pA 2) (pK 2) 7 (fun i => nI ((pg 2) i)), ia (pA 8) (pK 8) 4 (fun i => nI ((pg 8) i))]) hP hD rfl hS hA [0, 1, 2] (by decide +kernel) rfl
  have hK9 := hK.sub (tys' := []) [] rfl
  refine W.widen (k := 0) (n := 0) (by exact Nat.le_of_ble_eq_true rfl) (by exact Nat.le_of_ble_eq_true rfl) ?_
  exact W.iret (v := (nI (pg 8 (pg 2 a) % 2 ^ a))) hx hb hr (fun t9 ht9 hW => ⟨⟨nI (pg 8 (pg 2 a) % 2 ^ a), (), rfl, rfl, by rw [ht9]; exact hP9, va_K.moved hW.alike hK9, hD9⟩, hS.F ht9⟩) hS.2.2 d_Program_ownBefore_17
set_option maxHeartbeats 4000000 in
set_option maxRecDepth 100000 in
theorem gen_Program_ownAfter (l : Launch) (dC : Nat → ClassId) (dI : Nat → Nat → Nat) (pa : Nat) (pA : Nat → Nat) (pK : Nat → ClassId) (T Ac : Nat) (pg : Nat → Nat → Nat) (nm : Nat → Int32) (a : Nat) (ha : a < 7) (h2 : pg 2 a < 4) (h8 : pg 8 (pg 2 a) < 128) (sz : Nat) : Met l y_Program_ownAfter w_Program_ownAfter ({ frames := 0, cells := 0, slots := 0, locals := 0 }) (va_Pc [.ref pa, .int (nI a)] (fun U => U.heap.size = sz ∧ va_P (dC, dI) classes [oc pa 0 [.ref (pA 0), .ref (pA 1), .ref (pA 2), .ref (pA 3), .ref (pA 4), .ref (pA 5), .ref (pA 6), .ref (pA 7), .ref (pA 8), .ref (pA 9), .ref (pA 10), .int (nI T), .int (nI Ac)], ia (pA 2) (pK 2) 7 (fun i => nI ((pg 2) i)), ia (pA 8) (pK 8) 4 (fun i => nI ((pg 8) i))] U.heap ∧ va_K (dC, dI) classes [((pK 2), .int), ((pK 8), .int)] U ∧ va_D (fun _ => True) [oc pa 0 [.ref (pA 0), .ref (pA 1), .ref (pA 2), .ref (pA 3), .ref (pA 4), .ref (pA 5), .ref (pA 6), .ref (pA 7), .ref (pA 8), .ref (pA 9), .ref (pA 10), .int (nI T), .int (nI Ac)], ia (pA 2) (pK 2) 7 (fun i => nI ((pg 2) i)), ia (pA 8) (pK 8) 4 (fun i => nI ((pg 8) i))] ∧ nw U)) (va_Qi (fun (r : Int32) (_ : Unit) => r = nI (pg 8 (pg 2 a) - pg 8 (pg 2 a) % 2 ^ (a + 1))) (fun _ t9 => va_P (dC, dI) classes [oc pa 0 [.ref (pA 0), .ref (pA 1), .ref (pA 2), .ref (pA 3), .ref (pA 4), .ref (pA 5), .ref (pA 6), .ref (pA 7), .ref (pA 8), .ref (pA 9), .ref (pA 10), .int (nI T), .int (nI Ac)], ia (pA 2) (pK 2) 7 (fun i => nI ((pg 2) i)), ia (pA 8) (pK 8) 4 (fun i => nI ((pg 8) i))] t9.heap ∧ va_K (dC, dI) classes [] t9 ∧ va_D (va_A [oc pa 0 [.ref (pA 0), .ref (pA 1), .ref (pA 2), .ref (pA 3), .ref (pA 4), .ref (pA 5), .ref (pA 6), .ref (pA 7), .ref (pA 8), .ref (pA 9), .ref (pA 10), .int (nI T), .int (nI Ac)], ia (pA 2) (pK 2) 7 (fun i => nI ((pg 2) i)), ia (pA 8) (pK 8) 4 (fun i => nI ((pg 8) i))] sz) [oc pa 0 [.ref (pA 0), .ref (pA 1), .ref (pA 2), .ref (pA 3), .ref (pA 4), .ref (pA 5), .ref (pA 6), .ref (pA 7), .ref (pA 8), .ref (pA 9), .ref (pA 10), .int (nI T), .int (nI Ac)], ia (pA 2) (pK 2) 7 (fun i => nI ((pg 2) i)), ia (pA 8) (pK 8) 4 (fun i => nI ((pg 8) i))]) (va_A [oc pa 0 [.ref (pA 0), .ref (pA 1), .ref (pA 2), .ref (pA 3), .ref (pA 4), .ref (pA 5), .ref (pA 6), .ref (pA 7), .ref (pA 8), .ref (pA 9), .ref (pA 10), .int (nI T), .int (nI Ac)], ia (pA 2) (pK 2) 7 (fun i => nI ((pg 2) i)), ia (pA 8) (pK 8) 4 (fun i => nI ((pg 8) i))] sz)) 0 0 (va_A [oc pa 0 [.ref (pA 0), .ref (pA 1), .ref (pA 2), .ref (pA 3), .ref (pA 4), .ref (pA 5), .ref (pA 6), .ref (pA 7), .ref (pA 8), .ref (pA 9), .ref (pA 10), .int (nI T), .int (nI Ac)], ia (pA 2) (pK 2) 7 (fun i => nI ((pg 2) i)), ia (pA 8) (pK 8) 4 (fun i => nI ((pg 8) i))] sz) := by
  refine Met.ofW (cc := b_Program_ownAfter) (maxL := 2) (ret := (some .int)) (by decide) rfl ?_
  intro p e0 s m args below meth c s₁ B hml hv
  obtain ⟨rfl, hsz, hP, hK, hD0, hn⟩ := hv
  have hx := B.exec
  have hb := B.bytes
  have hr := B.returns
  have hw := fun w (h : w ∈ wt) => atoms_spec (ws := w_Program_ownAfter) B.pre w (List.mem_cons_of_mem _ h)
  have hown : s.vm.findClass R_Program = some m.cls := findClass_of_methodNamed B.named
  have hlocks := B.notSynchronized
  subst hsz
  have hD1 := hD0.self (sz := s.heap.size)
  generalize hAe : va_A [oc pa 0 [.ref (pA 0), .ref (pA 1), .ref (pA 2), .ref (pA 3), .ref (pA 4), .ref (pA 5), .ref (pA 6), .ref (pA 7), .ref (pA 8), .ref (pA 9), .ref (pA 10), .int (nI T), .int (nI Ac)], ia (pA 2) (pK 2) 7 (fun i => nI ((pg 2) i)), ia (pA 8) (pK 8) 4 (fun i => nI ((pg 8) i))] s.heap.size = A at hD1 ⊢
  have hA : ∀ q : Nat, s.heap.size ≤ q → A q := fun q h => by rw [← hAe]; exact Or.inr h
  have hD : dd A [pa, (pA 2), (pA 8)] := dd_of hD1 rfl
  clear hAe hD0 hD1
  have hS : va_S A s.heap s.heap [] := va_S.rf
  replace hP : va_P (dC, dI) classes [oc pa 0 [.ref (pA 0), .ref (pA 1), .ref (pA 2), .ref (pA 3), .ref (pA 4), .ref (pA 5), .ref (pA 6), .ref (pA 7), .ref (pA 8), .ref (pA 9), .ref (pA 10), .int (nI T), .int (nI Ac)], ia (pA 2) (pK 2) 7 (fun i => nI ((pg 2) i)), ia (pA 8) (pK 8) 4 (fun i => nI ((pg 8) i))] s.heap := hP
  have hl := lv_entry ([.ref pa, .int (nI a)]) (n := 2) (Nat.le_of_ble_eq_true rfl)
  rw [lg_entry_eq]
  generalize (lg_sl ([.ref pa, .int (nI a)]) ++ List.replicate (2 - (lg_sl ([.ref pa, .int (nI a)])).length) Slot.unset).toArray = ls at hl ⊢
  replace hl : lv_has ls 2 [(0, .ref pa), (1, .int (nI a))] := hl
  refine lv_aload_n hx hb d_Program_ownAfter_0 rfl (lv_at hl 0 rfl) ?_
  refine va_get (D := (dC, dI)) (ci := 0) (v := .ref (pA 8)) (C := R_Program) (T := F_Program) (N := 13) hx hb hw i_Program hown hK hP 0 rfl rfl 8 (by decide) (hw _ m_152) (fun _ h9 => h9) rfl d_Program_ownAfter_1 ?_
  refine lv_aload_n hx hb d_Program_ownAfter_4 rfl (lv_at hl 0 rfl) ?_
  refine va_get (D := (dC, dI)) (ci := 0) (v := .ref (pA 2)) (C := R_Program) (T := F_Program) (N := 13) hx hb hw i_Program hown hK hP 0 rfl rfl 2 (by decide) (hw _ m_130) (fun _ h9 => h9) rfl d_Program_ownAfter_5 ?_
  refine lv_iload_n hx hb d_Program_ownAfter_8 rfl (lv_at hl 1 rfl) ?_
  refine va_iald (D := (dC, dI)) hx hb hK hP 1 0 rfl rfl (i := nI a) (pk_in a 7 (by omega)) d_Program_ownAfter_9 ?_
  refine tp_i (y := nI ((pg 2) a)) (by rw [show (nI a : Int32).toNatClampNeg = a from pk_cl a]) ?_
  refine va_iald (D := (dC, dI)) hx hb hK hP 2 1 rfl rfl (i := nI ((pg 2) a)) (pk_in ((pg 2) a) 4 (by omega)) d_Program_ownAfter_10 ?_
  refine tp_i (y := nI ((pg 8) ((pg 2) a))) (by rw [show (nI ((pg 2) a) : Int32).toNatClampNeg = (pg 2) a from pk_cl ((pg 2) a)]) ?_
  refine lv_iconst (v := 2) hx hb d_Program_ownAfter_11 (by decide) ?_
  refine lv_iload_n hx hb d_Program_ownAfter_12 rfl (lv_at hl 1 rfl) ?_
  refine lv_ishl hx hb d_Program_ownAfter_13 ?_
  refine tp_i (y := 2 <<< ((nI a) &&& 31)) rfl ?_
  refine lv_iconst (v := 1) hx hb d_Program_ownAfter_14 (by decide) ?_
  refine lv_isub hx hb d_Program_ownAfter_15 ?_
  refine tp_i (y := (2 <<< ((nI a) &&& 31)) - 1) rfl ?_
  refine lv_iconst (v := (-1)) hx hb d_Program_ownAfter_16 (by decide) ?_
  refine lv_ixor hx hb d_Program_ownAfter_17 ?_
  refine tp_i (y := ((2 <<< ((nI a) &&& 31)) - 1) ^^^ (-1)) rfl ?_
  refine lv_iand hx hb d_Program_ownAfter_18 ?_
  refine tp_i (y := (nI ((pg 8) ((pg 2) a))) &&& (((2 <<< ((nI a) &&& 31)) - 1) ^^^ (-1))) rfl ?_
  refine tp_i (y := nI (pg 8 (pg 2 a) - pg 8 (pg 2 a) % 2 ^ (a + 1))) (aft_eq _ h8 _ ha) ?_
  obtain ⟨hP9, hD9, -⟩ := cut3 (wc := [oc pa 0 [.ref (pA 0), .ref (pA 1), .ref (pA 2), .ref (pA 3), .ref (pA 4), .ref (pA 5), .ref (pA 6), .ref (pA 7), .ref (pA 8), .ref (pA 9), .ref (pA 10), .int (nI T), .int (nI Ac)], ia (pA 2) (pK 2) 7 (fun i => nI ((pg 2) i)), ia (pA 8) (pK 8) 4 (fun i => nI ((pg 8) i))]) hP hD rfl hS hA [0, 1, 2] (by decide +kernel) rfl
  have hK9 := hK.sub (tys' := []) [] rfl
  refine W.widen (k := 0) (n := 0) (by exact Nat.le_of_ble_eq_true rfl) (by exact Nat.le_of_ble_eq_true rfl) ?_
  exact W.iret (v := (nI (pg 8 (pg 2 a) - pg 8 (pg 2 a) % 2 ^ (a + 1)))) hx hb hr (fun t9 ht9 hW => ⟨⟨nI (pg 8 (pg 2 a) - pg 8 (pg 2 a) % 2 ^ (a + 1)), (), rfl, rfl, by rw [ht9]; exact hP9, va_K.moved hW.alike hK9, hD9⟩, hS.F ht9⟩) hS.2.2 d_Program_ownAfter_19
set_option maxHeartbeats 4000000 in
set_option maxRecDepth 100000 in
theorem gen_Program_rowOf (l : Launch) (dC : Nat → ClassId) (dI : Nat → Nat → Nat) (pa : Nat) (pA : Nat → Nat) (pK : Nat → ClassId) (T Ac : Nat) (pg : Nat → Nat → Nat) (nm : Nat → Int32) (a : Nat) (ha : a < 7) (hk : pg 4 a < 6) (sz : Nat) : Met l y_Program_rowOf w_Program_rowOf ({ frames := 0, cells := 0, slots := 0, locals := 0 }) (va_Pc [.ref pa, .int (nI a)] (fun U => U.heap.size = sz ∧ va_P (dC, dI) classes [oc pa 0 [.ref (pA 0), .ref (pA 1), .ref (pA 2), .ref (pA 3), .ref (pA 4), .ref (pA 5), .ref (pA 6), .ref (pA 7), .ref (pA 8), .ref (pA 9), .ref (pA 10), .int (nI T), .int (nI Ac)], ia (pA 4) (pK 4) 7 (fun i => nI ((pg 4) i)), ia (pA 5) (pK 5) 7 (fun i => nI ((pg 5) i))] U.heap ∧ va_K (dC, dI) classes [((pK 4), .int), ((pK 5), .int)] U ∧ va_D (fun _ => True) [oc pa 0 [.ref (pA 0), .ref (pA 1), .ref (pA 2), .ref (pA 3), .ref (pA 4), .ref (pA 5), .ref (pA 6), .ref (pA 7), .ref (pA 8), .ref (pA 9), .ref (pA 10), .int (nI T), .int (nI Ac)], ia (pA 4) (pK 4) 7 (fun i => nI ((pg 4) i)), ia (pA 5) (pK 5) 7 (fun i => nI ((pg 5) i))] ∧ nw U)) (va_Qi (fun (r : Int32) (_ : Unit) => r = nI (if pg 4 a < 4 then pg 5 a else 3)) (fun _ t9 => va_P (dC, dI) classes [oc pa 0 [.ref (pA 0), .ref (pA 1), .ref (pA 2), .ref (pA 3), .ref (pA 4), .ref (pA 5), .ref (pA 6), .ref (pA 7), .ref (pA 8), .ref (pA 9), .ref (pA 10), .int (nI T), .int (nI Ac)], ia (pA 4) (pK 4) 7 (fun i => nI ((pg 4) i)), ia (pA 5) (pK 5) 7 (fun i => nI ((pg 5) i))] t9.heap ∧ va_K (dC, dI) classes [] t9 ∧ va_D (va_A [oc pa 0 [.ref (pA 0), .ref (pA 1), .ref (pA 2), .ref (pA 3), .ref (pA 4), .ref (pA 5), .ref (pA 6), .ref (pA 7), .ref (pA 8), .ref (pA 9), .ref (pA 10), .int (nI T), .int (nI Ac)], ia (pA 4) (pK 4) 7 (fun i => nI ((pg 4) i)), ia (pA 5) (pK 5) 7 (fun i => nI ((pg 5) i))] sz) [oc pa 0 [.ref (pA 0), .ref (pA 1), .ref (pA 2), .ref (pA 3), .ref (pA 4), .ref (pA 5), .ref (pA 6), .ref (pA 7), .ref (pA 8), .ref (pA 9), .ref (pA 10), .int (nI T), .int (nI Ac)], ia (pA 4) (pK 4) 7 (fun i => nI ((pg 4) i)), ia (pA 5) (pK 5) 7 (fun i => nI ((pg 5) i))]) (va_A [oc pa 0 [.ref (pA 0), .ref (pA 1), .ref (pA 2), .ref (pA 3), .ref (pA 4), .ref (pA 5), .ref (pA 6), .ref (pA 7), .ref (pA 8), .ref (pA 9), .ref (pA 10), .int (nI T), .int (nI Ac)], ia (pA 4) (pK 4) 7 (fun i => nI ((pg 4) i)), ia (pA 5) (pK 5) 7 (fun i => nI ((pg 5) i))] sz)) 0 0 (va_A [oc pa 0 [.ref (pA 0), .ref (pA 1), .ref (pA 2), .ref (pA 3), .ref (pA 4), .ref (pA 5), .ref (pA 6), .ref (pA 7), .ref (pA 8), .ref (pA 9), .ref (pA 10), .int (nI T), .int (nI Ac)], ia (pA 4) (pK 4) 7 (fun i => nI ((pg 4) i)), ia (pA 5) (pK 5) 7 (fun i => nI ((pg 5) i))] sz) := by
  refine Met.ofW (cc := b_Program_rowOf) (maxL := 2) (ret := (some .int)) (by decide) rfl ?_
  intro p e0 s m args below meth c s₁ B hml hv
  obtain ⟨rfl, hsz, hP, hK, hD0, hn⟩ := hv
  have hx := B.exec
  have hb := B.bytes
  have hr := B.returns
  have hw := fun w (h : w ∈ wt) => atoms_spec (ws := w_Program_rowOf) B.pre w (List.mem_cons_of_mem _ h)
  have hown : s.vm.findClass R_Program = some m.cls := findClass_of_methodNamed B.named
  have hlocks := B.notSynchronized
  subst hsz
  have hD1 := hD0.self (sz := s.heap.size)
  generalize hAe : va_A [oc pa 0 [.ref (pA 0), .ref (pA 1), .ref (pA 2), .ref (pA 3), .ref (pA 4), .ref (pA 5), .ref (pA 6), .ref (pA 7), .ref (pA 8), .ref (pA 9), .ref (pA 10), .int (nI T), .int (nI Ac)], ia (pA 4) (pK 4) 7 (fun i => nI ((pg 4) i)), ia (pA 5) (pK 5) 7 (fun i => nI ((pg 5) i))] s.heap.size = A at hD1 ⊢
  have hA : ∀ q : Nat, s.heap.size ≤ q → A q := fun q h => by rw [← hAe]; exact Or.inr h
  have hD : dd A [pa, (pA 4), (pA 5)] := dd_of hD1 rfl
  clear hAe hD0 hD1
  have hS : va_S A s.heap s.heap [] := va_S.rf
  replace hP : va_P (dC, dI) classes [oc pa 0 [.ref (pA 0), .ref (pA 1), .ref (pA 2), .ref (pA 3), .ref (pA 4), .ref (pA 5), .ref (pA 6), .ref (pA 7), .ref (pA 8), .ref (pA 9), .ref (pA 10), .int (nI T), .int (nI Ac)], ia (pA 4) (pK 4) 7 (fun i => nI ((pg 4) i)), ia (pA 5) (pK 5) 7 (fun i => nI ((pg 5) i))] s.heap := hP
  have hl := lv_entry ([.ref pa, .int (nI a)]) (n := 2) (Nat.le_of_ble_eq_true rfl)
  rw [lg_entry_eq]
  generalize (lg_sl ([.ref pa, .int (nI a)]) ++ List.replicate (2 - (lg_sl ([.ref pa, .int (nI a)])).length) Slot.unset).toArray = ls at hl ⊢
  replace hl : lv_has ls 2 [(0, .ref pa), (1, .int (nI a))] := hl
  refine lv_aload_n hx hb d_Program_rowOf_0 rfl (lv_at hl 0 rfl) ?_
  refine va_get (D := (dC, dI)) (ci := 0) (v := .ref (pA 4)) (C := R_Program) (T := F_Program) (N := 13) hx hb hw i_Program hown hK hP 0 rfl rfl 4 (by decide) (hw _ m_138) (fun _ h9 => h9) rfl d_Program_rowOf_1 ?_
  refine lv_iload_n hx hb d_Program_rowOf_4 rfl (lv_at hl 1 rfl) ?_
  refine va_iald (D := (dC, dI)) hx hb hK hP 1 0 rfl rfl (i := nI a) (pk_in a 7 (by omega)) d_Program_rowOf_5 ?_
  refine tp_i (y := nI ((pg 4) a)) (by rw [show (nI a : Int32).toNatClampNeg = a from pk_cl a]) ?_
  refine lv_iconst (v := 4) hx hb d_Program_rowOf_6 (by decide) ?_
  refine lv_icmp_ge (tgt := 19) hx hb d_Program_rowOf_7 (by decide) (fun c1 => ?_) (fun c1 => ?_)
  · skip
    have hc1 : 4 ≤ (pg 4) a := (nI_leI (a := 4) (b := (pg 4) a) (by omega) (by omega)).mp c1
    refine tp_pc (pc' := 19) (by rfl) ?_
    refine lv_iconst (v := 3) hx hb d_Program_rowOf_19 (by decide) ?_
    obtain ⟨hP9, hD9, -⟩ := cut3 (wc := [oc pa 0 [.ref (pA 0), .ref (pA 1), .ref (pA 2), .ref (pA 3), .ref (pA 4), .ref (pA 5), .ref (pA 6), .ref (pA 7), .ref (pA 8), .ref (pA 9), .ref (pA 10), .int (nI T), .int (nI Ac)], ia (pA 4) (pK 4) 7 (fun i => nI ((pg 4) i)), ia (pA 5) (pK 5) 7 (fun i => nI ((pg 5) i))]) hP hD rfl hS hA [0, 1, 2] (by decide +kernel) rfl
    have hK9 := hK.sub (tys' := []) [] rfl
    refine W.widen (k := 0) (n := 0) (by exact Nat.le_of_ble_eq_true rfl) (by exact Nat.le_of_ble_eq_true rfl) ?_
    exact W.iret (v := 3) hx hb hr (fun t9 ht9 hW => ⟨⟨3, (), rfl, by rw [if_neg (by omega)]; rfl, by rw [ht9]; exact hP9, va_K.moved hW.alike hK9, hD9⟩, hS.F ht9⟩) hS.2.2 d_Program_rowOf_20
  · skip
    have hc1 : ¬ (4 ≤ (pg 4) a) := fun q9 => c1 ((nI_leI (a := 4) (b := (pg 4) a) (by omega) (by omega)).mpr q9)
    refine tp_pc (pc' := 10) (by rfl) ?_
    refine lv_aload_n hx hb d_Program_rowOf_10 rfl (lv_at hl 0 rfl) ?_
    refine va_get (D := (dC, dI)) (ci := 0) (v := .ref (pA 5)) (C := R_Program) (T := F_Program) (N := 13) hx hb hw i_Program hown hK hP 0 rfl rfl 5 (by decide) (hw _ m_143) (fun _ h9 => h9) rfl d_Program_rowOf_11 ?_
    refine lv_iload_n hx hb d_Program_rowOf_14 rfl (lv_at hl 1 rfl) ?_
    refine va_iald (D := (dC, dI)) hx hb hK hP 2 1 rfl rfl (i := nI a) (pk_in a 7 (by omega)) d_Program_rowOf_15 ?_
    refine tp_i (y := nI ((pg 5) a)) (by rw [show (nI a : Int32).toNatClampNeg = a from pk_cl a]) ?_
    refine lv_goto (tgt := 20) hx hb d_Program_rowOf_16 (by decide) ?_
    refine tp_pc (pc' := 20) (by rfl) ?_
    obtain ⟨hP9, hD9, -⟩ := cut3 (wc := [oc pa 0 [.ref (pA 0), .ref (pA 1), .ref (pA 2), .ref (pA 3), .ref (pA 4), .ref (pA 5), .ref (pA 6), .ref (pA 7), .ref (pA 8), .ref (pA 9), .ref (pA 10), .int (nI T), .int (nI Ac)], ia (pA 4) (pK 4) 7 (fun i => nI ((pg 4) i)), ia (pA 5) (pK 5) 7 (fun i => nI ((pg 5) i))]) hP hD rfl hS hA [0, 1, 2] (by decide +kernel) rfl
    have hK9 := hK.sub (tys' := []) [] rfl
    refine W.widen (k := 0) (n := 0) (by exact Nat.le_of_ble_eq_true rfl) (by exact Nat.le_of_ble_eq_true rfl) ?_
    exact W.iret (v := (nI ((pg 5) a))) hx hb hr (fun t9 ht9 hW => ⟨⟨nI ((pg 5) a), (), rfl, by rw [if_pos (by omega)], by rw [ht9]; exact hP9, va_K.moved hW.alike hK9, hD9⟩, hS.F ht9⟩) hS.2.2 d_Program_rowOf_20
set_option maxHeartbeats 4000000 in
set_option maxRecDepth 100000 in
theorem gen_Program_writersOf (l : Launch) (dC : Nat → ClassId) (dI : Nat → Nat → Nat) (pa : Nat) (pA : Nat → Nat) (pK : Nat → ClassId) (T Ac : Nat) (pg : Nat → Nat → Nat) (nm : Nat → Int32) (x : Nat) (hx4 : x < 4) (h9 : pg 9 0 < 128) (h10 : x < 3 → pg 10 x < 128) (sz : Nat) : Met l y_Program_writersOf w_Program_writersOf ({ frames := 0, cells := 0, slots := 0, locals := 0 }) (va_Pc [.ref pa, .int (nI x)] (fun U => U.heap.size = sz ∧ va_P (dC, dI) classes [oc pa 0 [.ref (pA 0), .ref (pA 1), .ref (pA 2), .ref (pA 3), .ref (pA 4), .ref (pA 5), .ref (pA 6), .ref (pA 7), .ref (pA 8), .ref (pA 9), .ref (pA 10), .int (nI T), .int (nI Ac)], ia (pA 9) (pK 9) 6 (fun i => nI ((pg 9) i)), ia (pA 10) (pK 10) 3 (fun i => nI ((pg 10) i))] U.heap ∧ va_K (dC, dI) classes [((pK 9), .int), ((pK 10), .int)] U ∧ va_D (fun _ => True) [oc pa 0 [.ref (pA 0), .ref (pA 1), .ref (pA 2), .ref (pA 3), .ref (pA 4), .ref (pA 5), .ref (pA 6), .ref (pA 7), .ref (pA 8), .ref (pA 9), .ref (pA 10), .int (nI T), .int (nI Ac)], ia (pA 9) (pK 9) 6 (fun i => nI ((pg 9) i)), ia (pA 10) (pK 10) 3 (fun i => nI ((pg 10) i))] ∧ nw U)) (va_Qi (fun (r : Int32) (_ : Unit) => r = nI (if x = 3 then pg 9 4 else andn (pg 10 x) (pg 9 0))) (fun _ t9 => va_P (dC, dI) classes [oc pa 0 [.ref (pA 0), .ref (pA 1), .ref (pA 2), .ref (pA 3), .ref (pA 4), .ref (pA 5), .ref (pA 6), .ref (pA 7), .ref (pA 8), .ref (pA 9), .ref (pA 10), .int (nI T), .int (nI Ac)], ia (pA 9) (pK 9) 6 (fun i => nI ((pg 9) i)), ia (pA 10) (pK 10) 3 (fun i => nI ((pg 10) i))] t9.heap ∧ va_K (dC, dI) classes [] t9 ∧ va_D (va_A [oc pa 0 [.ref (pA 0), .ref (pA 1), .ref (pA 2), .ref (pA 3), .ref (pA 4), .ref (pA 5), .ref (pA 6), .ref (pA 7), .ref (pA 8), .ref (pA 9), .ref (pA 10), .int (nI T), .int (nI Ac)], ia (pA 9) (pK 9) 6 (fun i => nI ((pg 9) i)), ia (pA 10) (pK 10) 3 (fun i => nI ((pg 10) i))] sz) [oc pa 0 [.ref (pA 0), .ref (pA 1), .ref (pA 2), .ref (pA 3), .ref (pA 4), .ref (pA 5), .ref (pA 6), .ref (pA 7), .ref (pA 8), .ref (pA 9), .ref (pA 10), .int (nI T), .int (nI Ac)], ia (pA 9) (pK 9) 6 (fun i => nI ((pg 9) i)), ia (pA 10) (pK 10) 3 (fun i => nI ((pg 10) i))]) (va_A [oc pa 0 [.ref (pA 0), .ref (pA 1), .ref (pA 2), .ref (pA 3), .ref (pA 4), .ref (pA 5), .ref (pA 6), .ref (pA 7), .ref (pA 8), .ref (pA 9), .ref (pA 10), .int (nI T), .int (nI Ac)], ia (pA 9) (pK 9) 6 (fun i => nI ((pg 9) i)), ia (pA 10) (pK 10) 3 (fun i => nI ((pg 10) i))] sz)) 0 0 (va_A [oc pa 0 [.ref (pA 0), .ref (pA 1), .ref (pA 2), .ref (pA 3), .ref (pA 4), .ref (pA 5), .ref (pA 6), .ref (pA 7), .ref (pA 8), .ref (pA 9), .ref (pA 10), .int (nI T), .int (nI Ac)], ia (pA 9) (pK 9) 6 (fun i => nI ((pg 9) i)), ia (pA 10) (pK 10) 3 (fun i => nI ((pg 10) i))] sz) := by
  refine Met.ofW (cc := b_Program_writersOf) (maxL := 2) (ret := (some .int)) (by decide) rfl ?_
  intro p e0 s m args below meth c s₁ B hml hv
  obtain ⟨rfl, hsz, hP, hK, hD0, hn⟩ := hv
  have hx := B.exec
  have hb := B.bytes
  have hr := B.returns
  have hw := fun w (h : w ∈ wt) => atoms_spec (ws := w_Program_writersOf) B.pre w (List.mem_cons_of_mem _ h)
  have hown : s.vm.findClass R_Program = some m.cls := findClass_of_methodNamed B.named
  have hlocks := B.notSynchronized
  subst hsz
  have hD1 := hD0.self (sz := s.heap.size)
  generalize hAe : va_A [oc pa 0 [.ref (pA 0), .ref (pA 1), .ref (pA 2), .ref (pA 3), .ref (pA 4), .ref (pA 5), .ref (pA 6), .ref (pA 7), .ref (pA 8), .ref (pA 9), .ref (pA 10), .int (nI T), .int (nI Ac)], ia (pA 9) (pK 9) 6 (fun i => nI ((pg 9) i)), ia (pA 10) (pK 10) 3 (fun i => nI ((pg 10) i))] s.heap.size = A at hD1 ⊢
  have hA : ∀ q : Nat, s.heap.size ≤ q → A q := fun q h => by rw [← hAe]; exact Or.inr h
  have hD : dd A [pa, (pA 9), (pA 10)] := dd_of hD1 rfl
  clear hAe hD0 hD1
  have hS : va_S A s.heap s.heap [] := va_S.rf
  replace hP : va_P (dC, dI) classes [oc pa 0 [.ref (pA 0), .ref (pA 1), .ref (pA 2), .ref (pA 3), .ref (pA 4), .ref (pA 5), .ref (pA 6), .ref (pA 7), .ref (pA 8), .ref (pA 9), .ref (pA 10), .int (nI T), .int (nI Ac)], ia (pA 9) (pK 9) 6 (fun i => nI ((pg 9) i)), ia (pA 10) (pK 10) 3 (fun i => nI ((pg 10) i))] s.heap := hP
  have hl := lv_entry ([.ref pa, .int (nI x)]) (n := 2) (Nat.le_of_ble_eq_true rfl)
  rw [lg_entry_eq]
  generalize (lg_sl ([.ref pa, .int (nI x)]) ++ List.replicate (2 - (lg_sl ([.ref pa, .int (nI x)])).length) Slot.unset).toArray = ls at hl ⊢
  replace hl : lv_has ls 2 [(0, .ref pa), (1, .int (nI x))] := hl
  refine lv_iload_n hx hb d_Program_writersOf_0 rfl (lv_at hl 1 rfl) ?_
  refine lv_iconst (v := 3) hx hb d_Program_writersOf_1 (by decide) ?_
  refine lv_icmp_ne (tgt := 14) hx hb d_Program_writersOf_2 (by decide) (fun c1 => ?_) (fun c1 => ?_)
  · skip
    have hc1 : ¬ (x = 3) := fun q9 => c1 ((nI_eq (a := x) (b := 3) (by omega) (by omega)).mpr q9)
    refine tp_pc (pc' := 14) (by rfl) ?_
    refine lv_aload_n hx hb d_Program_writersOf_14 rfl (lv_at hl 0 rfl) ?_
    refine va_get (D := (dC, dI)) (ci := 0) (v := .ref (pA 10)) (C := R_Program) (T := F_Program) (N := 13) hx hb hw i_Program hown hK hP 0 rfl rfl 10 (by decide) (hw _ m_157) (fun _ h9 => h9) rfl d_Program_writersOf_15 ?_
    refine lv_iload_n hx hb d_Program_writersOf_18 rfl (lv_at hl 1 rfl) ?_
    refine va_iald (D := (dC, dI)) hx hb hK hP 2 1 rfl rfl (i := nI x) (pk_in x 3 (by omega)) d_Program_writersOf_19 ?_
    refine tp_i (y := nI ((pg 10) x)) (by rw [show (nI x : Int32).toNatClampNeg = x from pk_cl x]) ?_
    refine lv_aload_n hx hb d_Program_writersOf_20 rfl (lv_at hl 0 rfl) ?_
    refine va_get (D := (dC, dI)) (ci := 0) (v := .ref (pA 9)) (C := R_Program) (T := F_Program) (N := 13) hx hb hw i_Program hown hK hP 0 rfl rfl 9 (by decide) (hw _ m_155) (fun _ h9 => h9) rfl d_Program_writersOf_21 ?_
    refine lv_iconst (v := 0) hx hb d_Program_writersOf_24 (by decide) ?_
    refine va_iald (D := (dC, dI)) hx hb hK hP 1 0 rfl rfl (i := 0) (pk_in 0 6 (by omega)) d_Program_writersOf_25 ?_
    refine tp_i (y := nI ((pg 9) 0)) (by rw [show (0 : Int32).toNatClampNeg = 0 from pk_cl 0]) ?_
    refine lv_iconst (v := (-1)) hx hb d_Program_writersOf_26 (by decide) ?_
    refine lv_ixor hx hb d_Program_writersOf_27 ?_
    refine tp_i (y := (nI ((pg 9) 0)) ^^^ (-1)) rfl ?_
    refine lv_iand hx hb d_Program_writersOf_28 ?_
    refine tp_i (y := (nI ((pg 10) x)) &&& ((nI ((pg 9) 0)) ^^^ (-1))) rfl ?_
    refine tp_i (y := nI (andn (pg 10 x) (pg 9 0))) (andn_eq _ (h10 (by omega)) _ h9) ?_
    obtain ⟨hP9, hD9, -⟩ := cut3 (wc := [oc pa 0 [.ref (pA 0), .ref (pA 1), .ref (pA 2), .ref (pA 3), .ref (pA 4), .ref (pA 5), .ref (pA 6), .ref (pA 7), .ref (pA 8), .ref (pA 9), .ref (pA 10), .int (nI T), .int (nI Ac)], ia (pA 9) (pK 9) 6 (fun i => nI ((pg 9) i)), ia (pA 10) (pK 10) 3 (fun i => nI ((pg 10) i))]) hP hD rfl hS hA [0, 1, 2] (by decide +kernel) rfl
    have hK9 := hK.sub (tys' := []) [] rfl
    refine W.widen (k := 0) (n := 0) (by exact Nat.le_of_ble_eq_true rfl) (by exact Nat.le_of_ble_eq_true rfl) ?_
    exact W.iret (v := (nI (andn (pg 10 x) (pg 9 0)))) hx hb hr (fun t9 ht9 hW => ⟨⟨nI (andn (pg 10 x) (pg 9 0)), (), rfl, by rw [if_neg hc1], by rw [ht9]; exact hP9, va_K.moved hW.alike hK9, hD9⟩, hS.F ht9⟩) hS.2.2 d_Program_writersOf_29
  · skip
    have hc1 : x = 3 := (nI_eq (a := x) (b := 3) (by omega) (by omega)).mp c1
    refine tp_pc (pc' := 5) (by rfl) ?_
    refine lv_aload_n hx hb d_Program_writersOf_5 rfl (lv_at hl 0 rfl) ?_
    refine va_get (D := (dC, dI)) (ci := 0) (v := .ref (pA 9)) (C := R_Program) (T := F_Program) (N := 13) hx hb hw i_Program hown hK hP 0 rfl rfl 9 (by decide) (hw _ m_155) (fun _ h9 => h9) rfl d_Program_writersOf_6 ?_
    refine lv_iconst (v := 4) hx hb d_Program_writersOf_9 (by decide) ?_
    refine va_iald (D := (dC, dI)) hx hb hK hP 1 0 rfl rfl (i := 4) (pk_in 4 6 (by omega)) d_Program_writersOf_10 ?_
    refine tp_i (y := nI ((pg 9) 4)) (by rw [show (4 : Int32).toNatClampNeg = 4 from pk_cl 4]) ?_
    refine lv_goto (tgt := 29) hx hb d_Program_writersOf_11 (by decide) ?_
    refine tp_pc (pc' := 29) (by rfl) ?_
    obtain ⟨hP9, hD9, -⟩ := cut3 (wc := [oc pa 0 [.ref (pA 0), .ref (pA 1), .ref (pA 2), .ref (pA 3), .ref (pA 4), .ref (pA 5), .ref (pA 6), .ref (pA 7), .ref (pA 8), .ref (pA 9), .ref (pA 10), .int (nI T), .int (nI Ac)], ia (pA 9) (pK 9) 6 (fun i => nI ((pg 9) i)), ia (pA 10) (pK 10) 3 (fun i => nI ((pg 10) i))]) hP hD rfl hS hA [0, 1, 2] (by decide +kernel) rfl
    have hK9 := hK.sub (tys' := []) [] rfl
    refine W.widen (k := 0) (n := 0) (by exact Nat.le_of_ble_eq_true rfl) (by exact Nat.le_of_ble_eq_true rfl) ?_
    exact W.iret (v := (nI ((pg 9) 4))) hx hb hr (fun t9 ht9 hW => ⟨⟨nI ((pg 9) 4), (), rfl, by rw [if_pos hc1], by rw [ht9]; exact hP9, va_K.moved hW.alike hK9, hD9⟩, hS.F ht9⟩) hS.2.2 d_Program_writersOf_29
set_option maxHeartbeats 4000000 in
set_option maxRecDepth 100000 in
theorem gen_Program_rivalsOf (l : Launch) (dC : Nat → ClassId) (dI : Nat → Nat → Nat) (pa : Nat) (pA : Nat → Nat) (pK : Nat → ClassId) (T Ac : Nat) (pg : Nat → Nat → Nat) (nm : Nat → Int32) (a : Nat) (ha : a < 7) (hk : pg 4 a < 6) (h2 : pg 2 a < 4) (hx3 : pg 4 a < 4 → pg 5 a < 3) (h8 : pg 8 (pg 2 a) < 128) (h9 : ∀ i, pg 9 i < 128) (h10 : ∀ i, pg 10 i < 128) (sz : Nat) : Met l y_Program_rivalsOf w_Program_rivalsOf ({ frames := 0, cells := 0, slots := 0, locals := 0 }) (va_Pc [.ref pa, .int (nI a)] (fun U => U.heap.size = sz ∧ va_P (dC, dI) classes [oc pa 0 [.ref (pA 0), .ref (pA 1), .ref (pA 2), .ref (pA 3), .ref (pA 4), .ref (pA 5), .ref (pA 6), .ref (pA 7), .ref (pA 8), .ref (pA 9), .ref (pA 10), .int (nI T), .int (nI Ac)], ia (pA 2) (pK 2) 7 (fun i => nI ((pg 2) i)), ia (pA 4) (pK 4) 7 (fun i => nI ((pg 4) i)), ia (pA 5) (pK 5) 7 (fun i => nI ((pg 5) i)), ia (pA 8) (pK 8) 4 (fun i => nI ((pg 8) i)), ia (pA 9) (pK 9) 6 (fun i => nI ((pg 9) i)), ia (pA 10) (pK 10) 3 (fun i => nI ((pg 10) i))] U.heap ∧ va_K (dC, dI) classes [((pK 2), .int), ((pK 4), .int), ((pK 5), .int), ((pK 8), .int), ((pK 9), .int), ((pK 10), .int)] U ∧ va_D (fun _ => True) [oc pa 0 [.ref (pA 0), .ref (pA 1), .ref (pA 2), .ref (pA 3), .ref (pA 4), .ref (pA 5), .ref (pA 6), .ref (pA 7), .ref (pA 8), .ref (pA 9), .ref (pA 10), .int (nI T), .int (nI Ac)], ia (pA 2) (pK 2) 7 (fun i => nI ((pg 2) i)), ia (pA 4) (pK 4) 7 (fun i => nI ((pg 4) i)), ia (pA 5) (pK 5) 7 (fun i => nI ((pg 5) i)), ia (pA 8) (pK 8) 4 (fun i => nI ((pg 8) i)), ia (pA 9) (pK 9) 6 (fun i => nI ((pg 9) i)), ia (pA 10) (pK 10) 3 (fun i => nI ((pg 10) i))] ∧ nw U)) (va_Qi (fun (r : Int32) (_ : Unit) => r = nI (rivS (pg 4 a) (pg 10 (pg 5 a)) (pg 8 (pg 2 a)) (pg 9 0) (pg 9 3))) (fun _ t9 => va_P (dC, dI) classes [oc pa 0 [.ref (pA 0), .ref (pA 1), .ref (pA 2), .ref (pA 3), .ref (pA 4), .ref (pA 5), .ref (pA 6), .ref (pA 7), .ref (pA 8), .ref (pA 9), .ref (pA 10), .int (nI T), .int (nI Ac)], ia (pA 2) (pK 2) 7 (fun i => nI ((pg 2) i)), ia (pA 4) (pK 4) 7 (fun i => nI ((pg 4) i)), ia (pA 5) (pK 5) 7 (fun i => nI ((pg 5) i)), ia (pA 8) (pK 8) 4 (fun i => nI ((pg 8) i)), ia (pA 9) (pK 9) 6 (fun i => nI ((pg 9) i)), ia (pA 10) (pK 10) 3 (fun i => nI ((pg 10) i))] t9.heap ∧ va_K (dC, dI) classes [] t9 ∧ va_D (va_A [oc pa 0 [.ref (pA 0), .ref (pA 1), .ref (pA 2), .ref (pA 3), .ref (pA 4), .ref (pA 5), .ref (pA 6), .ref (pA 7), .ref (pA 8), .ref (pA 9), .ref (pA 10), .int (nI T), .int (nI Ac)], ia (pA 2) (pK 2) 7 (fun i => nI ((pg 2) i)), ia (pA 4) (pK 4) 7 (fun i => nI ((pg 4) i)), ia (pA 5) (pK 5) 7 (fun i => nI ((pg 5) i)), ia (pA 8) (pK 8) 4 (fun i => nI ((pg 8) i)), ia (pA 9) (pK 9) 6 (fun i => nI ((pg 9) i)), ia (pA 10) (pK 10) 3 (fun i => nI ((pg 10) i))] sz) [oc pa 0 [.ref (pA 0), .ref (pA 1), .ref (pA 2), .ref (pA 3), .ref (pA 4), .ref (pA 5), .ref (pA 6), .ref (pA 7), .ref (pA 8), .ref (pA 9), .ref (pA 10), .int (nI T), .int (nI Ac)], ia (pA 2) (pK 2) 7 (fun i => nI ((pg 2) i)), ia (pA 4) (pK 4) 7 (fun i => nI ((pg 4) i)), ia (pA 5) (pK 5) 7 (fun i => nI ((pg 5) i)), ia (pA 8) (pK 8) 4 (fun i => nI ((pg 8) i)), ia (pA 9) (pK 9) 6 (fun i => nI ((pg 9) i)), ia (pA 10) (pK 10) 3 (fun i => nI ((pg 10) i))]) (va_A [oc pa 0 [.ref (pA 0), .ref (pA 1), .ref (pA 2), .ref (pA 3), .ref (pA 4), .ref (pA 5), .ref (pA 6), .ref (pA 7), .ref (pA 8), .ref (pA 9), .ref (pA 10), .int (nI T), .int (nI Ac)], ia (pA 2) (pK 2) 7 (fun i => nI ((pg 2) i)), ia (pA 4) (pK 4) 7 (fun i => nI ((pg 4) i)), ia (pA 5) (pK 5) 7 (fun i => nI ((pg 5) i)), ia (pA 8) (pK 8) 4 (fun i => nI ((pg 8) i)), ia (pA 9) (pK 9) 6 (fun i => nI ((pg 9) i)), ia (pA 10) (pK 10) 3 (fun i => nI ((pg 10) i))] sz)) 0 0 (va_A [oc pa 0 [.ref (pA 0), .ref (pA 1), .ref (pA 2), .ref (pA 3), .ref (pA 4), .ref (pA 5), .ref (pA 6), .ref (pA 7), .ref (pA 8), .ref (pA 9), .ref (pA 10), .int (nI T), .int (nI Ac)], ia (pA 2) (pK 2) 7 (fun i => nI ((pg 2) i)), ia (pA 4) (pK 4) 7 (fun i => nI ((pg 4) i)), ia (pA 5) (pK 5) 7 (fun i => nI ((pg 5) i)), ia (pA 8) (pK 8) 4 (fun i => nI ((pg 8) i)), ia (pA 9) (pK 9) 6 (fun i => nI ((pg 9) i)), ia (pA 10) (pK 10) 3 (fun i => nI ((pg 10) i))] sz) := by
  refine Met.ofW (cc := b_Program_rivalsOf) (maxL := 4) (ret := (some .int)) (by decide) rfl ?_
  intro p e0 s m args below meth c s₁ B hml hv
  obtain ⟨rfl, hsz, hP, hK, hD0, hn⟩ := hv
  have hx := B.exec
  have hb := B.bytes
  have hr := B.returns
  have hw := fun w (h : w ∈ wt) => atoms_spec (ws := w_Program_rivalsOf) B.pre w (List.mem_cons_of_mem _ h)
  have hown : s.vm.findClass R_Program = some m.cls := findClass_of_methodNamed B.named
  have hlocks := B.notSynchronized
  subst hsz
  have hD1 := hD0.self (sz := s.heap.size)
  generalize hAe : va_A [oc pa 0 [.ref (pA 0), .ref (pA 1), .ref (pA 2), .ref (pA 3), .ref (pA 4), .ref (pA 5), .ref (pA 6), .ref (pA 7), .ref (pA 8), .ref (pA 9), .ref (pA 10), .int (nI T), .int (nI Ac)], ia (pA 2) (pK 2) 7 (fun i => nI ((pg 2) i)), ia (pA 4) (pK 4) 7 (fun i => nI ((pg 4) i)), ia (pA 5) (pK 5) 7 (fun i => nI ((pg 5) i)), ia (pA 8) (pK 8) 4 (fun i => nI ((pg 8) i)), ia (pA 9) (pK 9) 6 (fun i => nI ((pg 9) i)), ia (pA 10) (pK 10) 3 (fun i => nI ((pg 10) i))] s.heap.size = A at hD1 ⊢
  have hA : ∀ q : Nat, s.heap.size ≤ q → A q := fun q h => by rw [← hAe]; exact Or.inr h
  have hD : dd A [pa, (pA 2), (pA 4), (pA 5), (pA 8), (pA 9), (pA 10)] := dd_of hD1 rfl
  clear hAe hD0 hD1
  have hS : va_S A s.heap s.heap [] := va_S.rf
  replace hP : va_P (dC, dI) classes [oc pa 0 [.ref (pA 0), .ref (pA 1), .ref (pA 2), .ref (pA 3), .ref (pA 4), .ref (pA 5), .ref (pA 6), .ref (pA 7), .ref (pA 8), .ref (pA 9), .ref (pA 10), .int (nI T), .int (nI Ac)], ia (pA 2) (pK 2) 7 (fun i => nI ((pg 2) i)), ia (pA 4) (pK 4) 7 (fun i => nI ((pg 4) i)), ia (pA 5) (pK 5) 7 (fun i => nI ((pg 5) i)), ia (pA 8) (pK 8) 4 (fun i => nI ((pg 8) i)), ia (pA 9) (pK 9) 6 (fun i => nI ((pg 9) i)), ia (pA 10) (pK 10) 3 (fun i => nI ((pg 10) i))] s.heap := hP
  have hl := lv_entry ([.ref pa, .int (nI a)]) (n := 4) (Nat.le_of_ble_eq_true rfl)
  rw [lg_entry_eq]
  generalize (lg_sl ([.ref pa, .int (nI a)]) ++ List.replicate (4 - (lg_sl ([.ref pa, .int (nI a)])).length) Slot.unset).toArray = ls at hl ⊢
  replace hl : lv_has ls 4 [(0, .ref pa), (1, .int (nI a))] := hl
  refine lv_aload_n hx hb d_Program_rivalsOf_0 rfl (lv_at hl 0 rfl) ?_
  refine va_get (D := (dC, dI)) (ci := 0) (v := .ref (pA 4)) (C := R_Program) (T := F_Program) (N := 13) hx hb hw i_Program hown hK hP 0 rfl rfl 4 (by decide) (hw _ m_138) (fun _ h9 => h9) rfl d_Program_rivalsOf_1 ?_
  refine lv_iload_n hx hb d_Program_rivalsOf_4 rfl (lv_at hl 1 rfl) ?_
  refine va_iald (D := (dC, dI)) hx hb hK hP 2 1 rfl rfl (i := nI a) (pk_in a 7 (by omega)) d_Program_rivalsOf_5 ?_
  refine tp_i (y := nI ((pg 4) a)) (by rw [show (nI a : Int32).toNatClampNeg = a from pk_cl a]) ?_
  refine lv_istore_n (lv' := [(2, .int (nI ((pg 4) a))), (0, .ref pa), (1, .int (nI a))]) hx hb d_Program_rivalsOf_6 rfl hl (by decide) rfl ?_
  clear hl ls
  intro ls hl
  refine lv_iload_n hx hb d_Program_rivalsOf_7 rfl (lv_at hl 0 rfl) ?_
  refine lv_iconst (v := 4) hx hb d_Program_rivalsOf_8 (by decide) ?_
  refine lv_icmp_lt (tgt := 14) hx hb d_Program_rivalsOf_9 (by decide) (fun c1 => ?_) (fun c1 => ?_)
  · skip
    have hc1 : (pg 4) a < 4 := (nI_ltI (a := (pg 4) a) (b := 4) (by omega) (by omega)).mp c1
    have hx4 := hx3 hc1
    refine tp_pc (pc' := 14) (by rfl) ?_
    refine lv_aload_n hx hb d_Program_rivalsOf_14 rfl (lv_at hl 1 rfl) ?_
    refine va_get (D := (dC, dI)) (ci := 0) (v := .ref (pA 10)) (C := R_Program) (T := F_Program) (N := 13) hx hb hw i_Program hown hK hP 0 rfl rfl 10 (by decide) (hw _ m_157) (fun _ h9 => h9) rfl d_Program_rivalsOf_15 ?_
    refine lv_aload_n hx hb d_Program_rivalsOf_18 rfl (lv_at hl 1 rfl) ?_
    refine va_get (D := (dC, dI)) (ci := 0) (v := .ref (pA 5)) (C := R_Program) (T := F_Program) (N := 13) hx hb hw i_Program hown hK hP 0 rfl rfl 5 (by decide) (hw _ m_143) (fun _ h9 => h9) rfl d_Program_rivalsOf_19 ?_
    refine lv_iload_n hx hb d_Program_rivalsOf_22 rfl (lv_at hl 2 rfl) ?_
    refine va_iald (D := (dC, dI)) hx hb hK hP 3 2 rfl rfl (i := nI a) (pk_in a 7 (by omega)) d_Program_rivalsOf_23 ?_
    refine tp_i (y := nI ((pg 5) a)) (by rw [show (nI a : Int32).toNatClampNeg = a from pk_cl a]) ?_
    refine va_iald (D := (dC, dI)) hx hb hK hP 6 5 rfl rfl (i := nI ((pg 5) a)) (pk_in ((pg 5) a) 3 (by omega)) d_Program_rivalsOf_24 ?_
    refine tp_i (y := nI ((pg 10) ((pg 5) a))) (by rw [show (nI ((pg 5) a) : Int32).toNatClampNeg = (pg 5) a from pk_cl ((pg 5) a)]) ?_
    refine lv_aload_n hx hb d_Program_rivalsOf_25 rfl (lv_at hl 1 rfl) ?_
    refine va_get (D := (dC, dI)) (ci := 0) (v := .ref (pA 8)) (C := R_Program) (T := F_Program) (N := 13) hx hb hw i_Program hown hK hP 0 rfl rfl 8 (by decide) (hw _ m_152) (fun _ h9 => h9) rfl d_Program_rivalsOf_26 ?_
    refine lv_aload_n hx hb d_Program_rivalsOf_29 rfl (lv_at hl 1 rfl) ?_
    refine va_get (D := (dC, dI)) (ci := 0) (v := .ref (pA 2)) (C := R_Program) (T := F_Program) (N := 13) hx hb hw i_Program hown hK hP 0 rfl rfl 2 (by decide) (hw _ m_130) (fun _ h9 => h9) rfl d_Program_rivalsOf_30 ?_
    refine lv_iload_n hx hb d_Program_rivalsOf_33 rfl (lv_at hl 2 rfl) ?_
    refine va_iald (D := (dC, dI)) hx hb hK hP 1 0 rfl rfl (i := nI a) (pk_in a 7 (by omega)) d_Program_rivalsOf_34 ?_
    refine tp_i (y := nI ((pg 2) a)) (by rw [show (nI a : Int32).toNatClampNeg = a from pk_cl a]) ?_
    refine va_iald (D := (dC, dI)) hx hb hK hP 4 3 rfl rfl (i := nI ((pg 2) a)) (pk_in ((pg 2) a) 4 (by omega)) d_Program_rivalsOf_35 ?_
    refine tp_i (y := nI ((pg 8) ((pg 2) a))) (by rw [show (nI ((pg 2) a) : Int32).toNatClampNeg = (pg 2) a from pk_cl ((pg 2) a)]) ?_
    refine lv_iconst (v := (-1)) hx hb d_Program_rivalsOf_36 (by decide) ?_
    refine lv_ixor hx hb d_Program_rivalsOf_37 ?_
    refine tp_i (y := (nI ((pg 8) ((pg 2) a))) ^^^ (-1)) rfl ?_
    refine lv_iand hx hb d_Program_rivalsOf_38 ?_
    refine tp_i (y := (nI ((pg 10) ((pg 5) a))) &&& ((nI ((pg 8) ((pg 2) a))) ^^^ (-1))) rfl ?_
    refine tp_i (y := nI (andn (pg 10 (pg 5 a)) (pg 8 (pg 2 a)))) (andn_eq _ (h10 _) _ h8) ?_
    have hB : andn (pg 10 (pg 5 a)) (pg 8 (pg 2 a)) < 128 := andn_lt (h10 _)
    refine lv_istore_n (lv' := [(3, .int (nI (andn (pg 10 (pg 5 a)) (pg 8 (pg 2 a))))), (2, .int (nI ((pg 4) a))), (0, .ref pa), (1, .int (nI a))]) hx hb d_Program_rivalsOf_39 rfl hl (by decide) rfl ?_
    clear hl ls
    intro ls hl
    refine lv_iload_n hx hb d_Program_rivalsOf_40 rfl (lv_at hl 1 rfl) ?_
    refine lv_if_ne (tgt := 55) hx hb d_Program_rivalsOf_41 (by decide) (fun c2 => ?_) (fun c2 => ?_)
    · skip
      have hc2 : ¬ ((pg 4) a = 0) := fun q9 => c2 ((nI_eq (a := (pg 4) a) (b := 0) (by omega) (by omega)).mpr q9)
      refine tp_pc (pc' := 55) (by rfl) ?_
      refine lv_iload_n hx hb d_Program_rivalsOf_55 rfl (lv_at hl 1 rfl) ?_
      refine lv_iconst (v := 3) hx hb d_Program_rivalsOf_56 (by decide) ?_
      refine lv_icmp_ne (tgt := 73) hx hb d_Program_rivalsOf_57 (by decide) (fun c3 => ?_) (fun c3 => ?_)
      · skip
        have hc3 : ¬ ((pg 4) a = 3) := fun q9 => c3 ((nI_eq (a := (pg 4) a) (b := 3) (by omega) (by omega)).mpr q9)
        refine tp_pc (pc' := 73) (by rfl) ?_
        refine lv_iload_n hx hb d_Program_rivalsOf_73 rfl (lv_at hl 0 rfl) ?_
        obtain ⟨hP9, hD9, -⟩ := cut3 (wc := [oc pa 0 [.ref (pA 0), .ref (pA 1), .ref (pA 2), .ref (pA 3), .ref (pA 4), .ref (pA 5), .ref (pA 6), .ref (pA 7), .ref (pA 8), .ref (pA 9), .ref (pA 10), .int (nI T), .int (nI Ac)], ia (pA 2) (pK 2) 7 (fun i => nI ((pg 2) i)), ia (pA 4) (pK 4) 7 (fun i => nI ((pg 4) i)), ia (pA 5) (pK 5) 7 (fun i => nI ((pg 5) i)), ia (pA 8) (pK 8) 4 (fun i => nI ((pg 8) i)), ia (pA 9) (pK 9) 6 (fun i => nI ((pg 9) i)), ia (pA 10) (pK 10) 3 (fun i => nI ((pg 10) i))]) hP hD rfl hS hA [0, 1, 2, 3, 4, 5, 6] (by decide +kernel) rfl
        have hK9 := hK.sub (tys' := []) [] rfl
        refine W.widen (k := 0) (n := 0) (by exact Nat.le_of_ble_eq_true rfl) (by exact Nat.le_of_ble_eq_true rfl) ?_
        exact W.iret (v := (nI (andn (pg 10 (pg 5 a)) (pg 8 (pg 2 a))))) hx hb hr (fun t9 ht9 hW => ⟨⟨nI (andn (pg 10 (pg 5 a)) (pg 8 (pg 2 a))), (), rfl, by unfold rivS; rw [if_neg (by omega), if_neg hc2, if_neg hc3], by rw [ht9]; exact hP9, va_K.moved hW.alike hK9, hD9⟩, hS.F ht9⟩) hS.2.2 d_Program_rivalsOf_74
      · skip
        have hc3 : (pg 4) a = 3 := (nI_eq (a := (pg 4) a) (b := 3) (by omega) (by omega)).mp c3
        refine tp_pc (pc' := 60) (by rfl) ?_
        refine lv_iload_n hx hb d_Program_rivalsOf_60 rfl (lv_at hl 0 rfl) ?_
        refine lv_aload_n hx hb d_Program_rivalsOf_61 rfl (lv_at hl 2 rfl) ?_
        refine va_get (D := (dC, dI)) (ci := 0) (v := .ref (pA 9)) (C := R_Program) (T := F_Program) (N := 13) hx hb hw i_Program hown hK hP 0 rfl rfl 9 (by decide) (hw _ m_155) (fun _ h9 => h9) rfl d_Program_rivalsOf_62 ?_
        refine lv_iconst (v := 3) hx hb d_Program_rivalsOf_65 (by decide) ?_
        refine va_iald (D := (dC, dI)) hx hb hK hP 5 4 rfl rfl (i := 3) (pk_in 3 6 (by omega)) d_Program_rivalsOf_66 ?_
        refine tp_i (y := nI ((pg 9) 3)) (by rw [show (3 : Int32).toNatClampNeg = 3 from pk_cl 3]) ?_
        refine lv_iconst (v := (-1)) hx hb d_Program_rivalsOf_67 (by decide) ?_
        refine lv_ixor hx hb d_Program_rivalsOf_68 ?_
        refine tp_i (y := (nI ((pg 9) 3)) ^^^ (-1)) rfl ?_
        refine lv_iand hx hb d_Program_rivalsOf_69 ?_
        refine tp_i (y := (nI (andn (pg 10 (pg 5 a)) (pg 8 (pg 2 a)))) &&& ((nI ((pg 9) 3)) ^^^ (-1))) rfl ?_
        refine lv_goto (tgt := 74) hx hb d_Program_rivalsOf_70 (by decide) ?_
        refine tp_pc (pc' := 74) (by rfl) ?_
        refine tp_i (y := nI (andn (andn (pg 10 (pg 5 a)) (pg 8 (pg 2 a))) (pg 9 3))) (andn_eq _ hB _ (h9 3)) ?_
        obtain ⟨hP9, hD9, -⟩ := cut3 (wc := [oc pa 0 [.ref (pA 0), .ref (pA 1), .ref (pA 2), .ref (pA 3), .ref (pA 4), .ref (pA 5), .ref (pA 6), .ref (pA 7), .ref (pA 8), .ref (pA 9), .ref (pA 10), .int (nI T), .int (nI Ac)], ia (pA 2) (pK 2) 7 (fun i => nI ((pg 2) i)), ia (pA 4) (pK 4) 7 (fun i => nI ((pg 4) i)), ia (pA 5) (pK 5) 7 (fun i => nI ((pg 5) i)), ia (pA 8) (pK 8) 4 (fun i => nI ((pg 8) i)), ia (pA 9) (pK 9) 6 (fun i => nI ((pg 9) i)), ia (pA 10) (pK 10) 3 (fun i => nI ((pg 10) i))]) hP hD rfl hS hA [0, 1, 2, 3, 4, 5, 6] (by decide +kernel) rfl
        have hK9 := hK.sub (tys' := []) [] rfl
        refine W.widen (k := 0) (n := 0) (by exact Nat.le_of_ble_eq_true rfl) (by exact Nat.le_of_ble_eq_true rfl) ?_
        exact W.iret (v := (nI (andn (andn (pg 10 (pg 5 a)) (pg 8 (pg 2 a))) (pg 9 3)))) hx hb hr (fun t9 ht9 hW => ⟨⟨nI (andn (andn (pg 10 (pg 5 a)) (pg 8 (pg 2 a))) (pg 9 3)), (), rfl, by unfold rivS; rw [if_neg (by omega), if_neg hc2, if_pos hc3], by rw [ht9]; exact hP9, va_K.moved hW.alike hK9, hD9⟩, hS.F ht9⟩) hS.2.2 d_Program_rivalsOf_74
    · skip
      have hc2 : (pg 4) a = 0 := (nI_eq (a := (pg 4) a) (b := 0) (by omega) (by omega)).mp c2
      refine tp_pc (pc' := 44) (by rfl) ?_
      refine lv_iload_n hx hb d_Program_rivalsOf_44 rfl (lv_at hl 0 rfl) ?_
      refine lv_aload_n hx hb d_Program_rivalsOf_45 rfl (lv_at hl 2 rfl) ?_
      refine va_get (D := (dC, dI)) (ci := 0) (v := .ref (pA 9)) (C := R_Program) (T := F_Program) (N := 13) hx hb hw i_Program hown hK hP 0 rfl rfl 9 (by decide) (hw _ m_155) (fun _ h9 => h9) rfl d_Program_rivalsOf_46 ?_
      refine lv_iconst (v := 0) hx hb d_Program_rivalsOf_49 (by decide) ?_
      refine va_iald (D := (dC, dI)) hx hb hK hP 5 4 rfl rfl (i := 0) (pk_in 0 6 (by omega)) d_Program_rivalsOf_50 ?_
      refine tp_i (y := nI ((pg 9) 0)) (by rw [show (0 : Int32).toNatClampNeg = 0 from pk_cl 0]) ?_
      refine lv_iconst (v := (-1)) hx hb d_Program_rivalsOf_51 (by decide) ?_
      refine lv_ixor hx hb d_Program_rivalsOf_52 ?_
      refine tp_i (y := (nI ((pg 9) 0)) ^^^ (-1)) rfl ?_
      refine lv_iand hx hb d_Program_rivalsOf_53 ?_
      refine tp_i (y := (nI (andn (pg 10 (pg 5 a)) (pg 8 (pg 2 a)))) &&& ((nI ((pg 9) 0)) ^^^ (-1))) rfl ?_
      refine tp_i (y := nI (andn (andn (pg 10 (pg 5 a)) (pg 8 (pg 2 a))) (pg 9 0))) (andn_eq _ hB _ (h9 0)) ?_
      obtain ⟨hP9, hD9, -⟩ := cut3 (wc := [oc pa 0 [.ref (pA 0), .ref (pA 1), .ref (pA 2), .ref (pA 3), .ref (pA 4), .ref (pA 5), .ref (pA 6), .ref (pA 7), .ref (pA 8), .ref (pA 9), .ref (pA 10), .int (nI T), .int (nI Ac)], ia (pA 2) (pK 2) 7 (fun i => nI ((pg 2) i)), ia (pA 4) (pK 4) 7 (fun i => nI ((pg 4) i)), ia (pA 5) (pK 5) 7 (fun i => nI ((pg 5) i)), ia (pA 8) (pK 8) 4 (fun i => nI ((pg 8) i)), ia (pA 9) (pK 9) 6 (fun i => nI ((pg 9) i)), ia (pA 10) (pK 10) 3 (fun i => nI ((pg 10) i))]) hP hD rfl hS hA [0, 1, 2, 3, 4, 5, 6] (by decide +kernel) rfl
      have hK9 := hK.sub (tys' := []) [] rfl
      refine W.widen (k := 0) (n := 0) (by exact Nat.le_of_ble_eq_true rfl) (by exact Nat.le_of_ble_eq_true rfl) ?_
      exact W.iret (v := (nI (andn (andn (pg 10 (pg 5 a)) (pg 8 (pg 2 a))) (pg 9 0)))) hx hb hr (fun t9 ht9 hW => ⟨⟨nI (andn (andn (pg 10 (pg 5 a)) (pg 8 (pg 2 a))) (pg 9 0)), (), rfl, by unfold rivS; rw [if_neg (by omega), if_pos hc2], by rw [ht9]; exact hP9, va_K.moved hW.alike hK9, hD9⟩, hS.F ht9⟩) hS.2.2 d_Program_rivalsOf_54
  · skip
    have hc1 : ¬ ((pg 4) a < 4) := fun q9 => c1 ((nI_ltI (a := (pg 4) a) (b := 4) (by omega) (by omega)).mpr q9)
    refine tp_pc (pc' := 12) (by rfl) ?_
    refine lv_iconst (v := 0) hx hb d_Program_rivalsOf_12 (by decide) ?_
    obtain ⟨hP9, hD9, -⟩ := cut3 (wc := [oc pa 0 [.ref (pA 0), .ref (pA 1), .ref (pA 2), .ref (pA 3), .ref (pA 4), .ref (pA 5), .ref (pA 6), .ref (pA 7), .ref (pA 8), .ref (pA 9), .ref (pA 10), .int (nI T), .int (nI Ac)], ia (pA 2) (pK 2) 7 (fun i => nI ((pg 2) i)), ia (pA 4) (pK 4) 7 (fun i => nI ((pg 4) i)), ia (pA 5) (pK 5) 7 (fun i => nI ((pg 5) i)), ia (pA 8) (pK 8) 4 (fun i => nI ((pg 8) i)), ia (pA 9) (pK 9) 6 (fun i => nI ((pg 9) i)), ia (pA 10) (pK 10) 3 (fun i => nI ((pg 10) i))]) hP hD rfl hS hA [0, 1, 2, 3, 4, 5, 6] (by decide +kernel) rfl
    have hK9 := hK.sub (tys' := []) [] rfl
    refine W.widen (k := 0) (n := 0) (by exact Nat.le_of_ble_eq_true rfl) (by exact Nat.le_of_ble_eq_true rfl) ?_
    exact W.iret (v := 0) hx hb hr (fun t9 ht9 hW => ⟨⟨0, (), rfl, by unfold rivS; rw [if_pos (by omega)]; rfl, by rw [ht9]; exact hP9, va_K.moved hW.alike hK9, hD9⟩, hS.F ht9⟩) hS.2.2 d_Program_rivalsOf_13
