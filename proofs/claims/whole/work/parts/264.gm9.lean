set_option maxHeartbeats 4000000 in
set_option maxRecDepth 100000 in
theorem gen_Program_idAt_any (l : Launch) (dC : Nat → ClassId) (dI : Nat → Nat → Nat) (pa : Nat) (pA : Nat → Nat) (pK : Nat → ClassId) (T Ac : Nat) (pg : Nat → Nat → Nat) (nm : Nat → Int32) (t9x i9 : Int32) (hT : T ≤ 4) (hl7 : ∀ t, t < T → pg 0 t ≤ 7) (sz : Nat) : Met l y_Program_idAt w_Program_idAt ({ frames := 0, cells := 0, slots := 0, locals := 0 }) (va_Pc [.ref pa, .int t9x, .int i9] (fun U => U.heap.size = sz ∧ va_P (dC, dI) classes [oc pa 0 [.ref (pA 0), .ref (pA 1), .ref (pA 2), .ref (pA 3), .ref (pA 4), .ref (pA 5), .ref (pA 6), .ref (pA 7), .ref (pA 8), .ref (pA 9), .ref (pA 10), .int (nI T), .int (nI Ac)], ia (pA 0) (pK 0) 4 (fun i => nI ((pg 0) i)), ia (pA 1) (pK 1) 28 (fun i => nI ((pg 1) i))] U.heap ∧ va_K (dC, dI) classes [((pK 0), .int), ((pK 1), .int)] U ∧ va_D (fun _ => True) [oc pa 0 [.ref (pA 0), .ref (pA 1), .ref (pA 2), .ref (pA 3), .ref (pA 4), .ref (pA 5), .ref (pA 6), .ref (pA 7), .ref (pA 8), .ref (pA 9), .ref (pA 10), .int (nI T), .int (nI Ac)], ia (pA 0) (pK 0) 4 (fun i => nI ((pg 0) i)), ia (pA 1) (pK 1) 28 (fun i => nI ((pg 1) i))] ∧ nw U)) (va_Qi (fun (r : Int32) (_ : Unit) => r = if ¬ t9x < 0 ∧ t9x.toNatClampNeg < T ∧ ¬ i9 < 0 ∧ i9.toNatClampNeg < pg 0 t9x.toNatClampNeg then nI (pg 1 (t9x.toNatClampNeg * 7 + i9.toNatClampNeg)) else -1) (fun _ t9 => va_P (dC, dI) classes [oc pa 0 [.ref (pA 0), .ref (pA 1), .ref (pA 2), .ref (pA 3), .ref (pA 4), .ref (pA 5), .ref (pA 6), .ref (pA 7), .ref (pA 8), .ref (pA 9), .ref (pA 10), .int (nI T), .int (nI Ac)], ia (pA 0) (pK 0) 4 (fun i => nI ((pg 0) i)), ia (pA 1) (pK 1) 28 (fun i => nI ((pg 1) i))] t9.heap ∧ va_K (dC, dI) classes [] t9 ∧ va_D (va_A [oc pa 0 [.ref (pA 0), .ref (pA 1), .ref (pA 2), .ref (pA 3), .ref (pA 4), .ref (pA 5), .ref (pA 6), .ref (pA 7), .ref (pA 8), .ref (pA 9), .ref (pA 10), .int (nI T), .int (nI Ac)], ia (pA 0) (pK 0) 4 (fun i => nI ((pg 0) i)), ia (pA 1) (pK 1) 28 (fun i => nI ((pg 1) i))] sz) [oc pa 0 [.ref (pA 0), .ref (pA 1), .ref (pA 2), .ref (pA 3), .ref (pA 4), .ref (pA 5), .ref (pA 6), .ref (pA 7), .ref (pA 8), .ref (pA 9), .ref (pA 10), .int (nI T), .int (nI Ac)], ia (pA 0) (pK 0) 4 (fun i => nI ((pg 0) i)), ia (pA 1) (pK 1) 28 (fun i => nI ((pg 1) i))]) (va_A [oc pa 0 [.ref (pA 0), .ref (pA 1), .ref (pA 2), .ref (pA 3), .ref (pA 4), .ref (pA 5), .ref (pA 6), .ref (pA 7), .ref (pA 8), .ref (pA 9), .ref (pA 10), .int (nI T), .int (nI Ac)], ia (pA 0) (pK 0) 4 (fun i => nI ((pg 0) i)), ia (pA 1) (pK 1) 28 (fun i => nI ((pg 1) i))] sz)) 0 0 (va_A [oc pa 0 [.ref (pA 0), .ref (pA 1), .ref (pA 2), .ref (pA 3), .ref (pA 4), .ref (pA 5), .ref (pA 6), .ref (pA 7), .ref (pA 8), .ref (pA 9), .ref (pA 10), .int (nI T), .int (nI Ac)], ia (pA 0) (pK 0) 4 (fun i => nI ((pg 0) i)), ia (pA 1) (pK 1) 28 (fun i => nI ((pg 1) i))] sz) := by
  refine Met.ofW (cc := b_Program_idAt) (maxL := 3) (ret := (some .int)) (by decide) rfl ?_
  intro p e0 s m args below meth c s₁ B hml hv
  obtain ⟨rfl, hsz, hP, hK, hD0, hn⟩ := hv
  have hx := B.exec
  have hb := B.bytes
  have hr := B.returns
  have hw := fun w (h : w ∈ wt) => atoms_spec (ws := w_Program_idAt) B.pre w (List.mem_cons_of_mem _ h)
  have hown : s.vm.findClass R_Program = some m.cls := findClass_of_methodNamed B.named
  have hlocks := B.notSynchronized
  subst hsz
  have hD1 := hD0.self (sz := s.heap.size)
  generalize hAe : va_A [oc pa 0 [.ref (pA 0), .ref (pA 1), .ref (pA 2), .ref (pA 3), .ref (pA 4), .ref (pA 5), .ref (pA 6), .ref (pA 7), .ref (pA 8), .ref (pA 9), .ref (pA 10), .int (nI T), .int (nI Ac)], ia (pA 0) (pK 0) 4 (fun i => nI ((pg 0) i)), ia (pA 1) (pK 1) 28 (fun i => nI ((pg 1) i))] s.heap.size = A at hD1 ⊢
  have hA : ∀ q : Nat, s.heap.size ≤ q → A q := fun q h => by rw [← hAe]; exact Or.inr h
  have hD : dd A [pa, (pA 0), (pA 1)] := dd_of hD1 rfl
  clear hAe hD0 hD1
  have hS : va_S A s.heap s.heap [] := va_S.rf
  replace hP : va_P (dC, dI) classes [oc pa 0 [.ref (pA 0), .ref (pA 1), .ref (pA 2), .ref (pA 3), .ref (pA 4), .ref (pA 5), .ref (pA 6), .ref (pA 7), .ref (pA 8), .ref (pA 9), .ref (pA 10), .int (nI T), .int (nI Ac)], ia (pA 0) (pK 0) 4 (fun i => nI ((pg 0) i)), ia (pA 1) (pK 1) 28 (fun i => nI ((pg 1) i))] s.heap := hP
  have hl := lv_entry ([.ref pa, .int t9x, .int i9]) (n := 3) (Nat.le_of_ble_eq_true rfl)
  rw [lg_entry_eq]
  generalize (lg_sl ([.ref pa, .int t9x, .int i9]) ++ List.replicate (3 - (lg_sl ([.ref pa, .int t9x, .int i9])).length) Slot.unset).toArray = ls at hl ⊢
  replace hl : lv_has ls 3 [(0, .ref pa), (1, .int t9x), (2, .int i9)] := hl
  refine lv_iload_n hx hb d_Program_idAt_0 rfl (lv_at hl 1 rfl) ?_
  refine lv_if_lt (tgt := 26) hx hb d_Program_idAt_1 (by decide) (fun c1 => ?_) (fun c1 => ?_)
  · skip
    refine tp_pc (pc' := 26) (by rfl) ?_
    refine lv_iconst (v := (-1)) hx hb d_Program_idAt_26 (by decide) ?_
    obtain ⟨hP9, hD9, -⟩ := cut3 (wc := [oc pa 0 [.ref (pA 0), .ref (pA 1), .ref (pA 2), .ref (pA 3), .ref (pA 4), .ref (pA 5), .ref (pA 6), .ref (pA 7), .ref (pA 8), .ref (pA 9), .ref (pA 10), .int (nI T), .int (nI Ac)], ia (pA 0) (pK 0) 4 (fun i => nI ((pg 0) i)), ia (pA 1) (pK 1) 28 (fun i => nI ((pg 1) i))]) hP hD rfl hS hA [0, 1, 2] (by decide +kernel) rfl
    have hK9 := hK.sub (tys' := []) [] rfl
    refine W.widen (k := 0) (n := 0) (by exact Nat.le_of_ble_eq_true rfl) (by exact Nat.le_of_ble_eq_true rfl) ?_
    exact W.iret (v := (-1)) hx hb hr (fun t9 ht9 hW => ⟨⟨(-1), (), rfl, by rw [if_neg (fun q => q.1 c1)], by rw [ht9]; exact hP9, va_K.moved hW.alike hK9, hD9⟩, hS.F ht9⟩) hS.2.2 d_Program_idAt_27
  · skip
    obtain ⟨j, hj, ej⟩ := nI_of c1
    subst ej
    replace hl : lv_has ls 3 [(0, .ref pa), (1, .int (nI j)), (2, .int i9)] := hl
    refine tp_pc (pc' := 4) (by rfl) ?_
    refine lv_iload_n hx hb d_Program_idAt_4 rfl (lv_at hl 1 rfl) ?_
    refine lv_aload_n hx hb d_Program_idAt_5 rfl (lv_at hl 0 rfl) ?_
    refine va_get (D := (dC, dI)) (ci := 0) (v := .int (nI T)) (C := R_Program) (T := F_Program) (N := 13) hx hb hw i_Program hown hK hP 0 rfl rfl 11 (by decide) (hw _ m_160) (fun _ h9 => h9) rfl d_Program_idAt_6 ?_
    refine lv_icmp_ge (tgt := 26) hx hb d_Program_idAt_9 (by decide) (fun c2 => ?_) (fun c2 => ?_)
    · skip
      have hc2 : T ≤ j := (nI_leI (a := T) (b := j) (by omega) (by omega)).mp c2
      refine tp_pc (pc' := 26) (by rfl) ?_
      refine lv_iconst (v := (-1)) hx hb d_Program_idAt_26 (by decide) ?_
      obtain ⟨hP9, hD9, -⟩ := cut3 (wc := [oc pa 0 [.ref (pA 0), .ref (pA 1), .ref (pA 2), .ref (pA 3), .ref (pA 4), .ref (pA 5), .ref (pA 6), .ref (pA 7), .ref (pA 8), .ref (pA 9), .ref (pA 10), .int (nI T), .int (nI Ac)], ia (pA 0) (pK 0) 4 (fun i => nI ((pg 0) i)), ia (pA 1) (pK 1) 28 (fun i => nI ((pg 1) i))]) hP hD rfl hS hA [0, 1, 2] (by decide +kernel) rfl
      have hK9 := hK.sub (tys' := []) [] rfl
      refine W.widen (k := 0) (n := 0) (by exact Nat.le_of_ble_eq_true rfl) (by exact Nat.le_of_ble_eq_true rfl) ?_
      exact W.iret (v := (-1)) hx hb hr (fun t9 ht9 hW => ⟨⟨(-1), (), rfl, by rw [if_neg (fun q => absurd q.2.1 (by rw [nI_clamp hj]; omega))], by rw [ht9]; exact hP9, va_K.moved hW.alike hK9, hD9⟩, hS.F ht9⟩) hS.2.2 d_Program_idAt_27
    · skip
      have hc2 : ¬ (T ≤ j) := fun q9 => c2 ((nI_leI (a := T) (b := j) (by omega) (by omega)).mpr q9)
      have hzj := hl7 j (by omega)
      refine tp_pc (pc' := 12) (by rfl) ?_
      refine lv_iload_n hx hb d_Program_idAt_12 rfl (lv_at hl 2 rfl) ?_
      refine lv_if_lt (tgt := 26) hx hb d_Program_idAt_13 (by decide) (fun c3 => ?_) (fun c3 => ?_)
      · skip
        refine tp_pc (pc' := 26) (by rfl) ?_
        refine lv_iconst (v := (-1)) hx hb d_Program_idAt_26 (by decide) ?_
        obtain ⟨hP9, hD9, -⟩ := cut3 (wc := [oc pa 0 [.ref (pA 0), .ref (pA 1), .ref (pA 2), .ref (pA 3), .ref (pA 4), .ref (pA 5), .ref (pA 6), .ref (pA 7), .ref (pA 8), .ref (pA 9), .ref (pA 10), .int (nI T), .int (nI Ac)], ia (pA 0) (pK 0) 4 (fun i => nI ((pg 0) i)), ia (pA 1) (pK 1) 28 (fun i => nI ((pg 1) i))]) hP hD rfl hS hA [0, 1, 2] (by decide +kernel) rfl
        have hK9 := hK.sub (tys' := []) [] rfl
        refine W.widen (k := 0) (n := 0) (by exact Nat.le_of_ble_eq_true rfl) (by exact Nat.le_of_ble_eq_true rfl) ?_
        exact W.iret (v := (-1)) hx hb hr (fun t9 ht9 hW => ⟨⟨(-1), (), rfl, by rw [if_neg (fun q => q.2.2.1 c3)], by rw [ht9]; exact hP9, va_K.moved hW.alike hK9, hD9⟩, hS.F ht9⟩) hS.2.2 d_Program_idAt_27
      · skip
        obtain ⟨k, hk, ek⟩ := nI_of c3
        subst ek
        replace hl : lv_has ls 3 [(0, .ref pa), (1, .int (nI j)), (2, .int (nI k))] := hl
        refine tp_pc (pc' := 16) (by rfl) ?_
        refine lv_iload_n hx hb d_Program_idAt_16 rfl (lv_at hl 2 rfl) ?_
        refine lv_aload_n hx hb d_Program_idAt_17 rfl (lv_at hl 0 rfl) ?_
        refine va_get (D := (dC, dI)) (ci := 0) (v := .ref (pA 0)) (C := R_Program) (T := F_Program) (N := 13) hx hb hw i_Program hown hK hP 0 rfl rfl 0 (by decide) (hw _ m_128) (fun _ h9 => h9) rfl d_Program_idAt_18 ?_
        refine lv_iload_n hx hb d_Program_idAt_21 rfl (lv_at hl 1 rfl) ?_
        refine va_iald (D := (dC, dI)) hx hb hK hP 1 0 rfl rfl (i := nI j) (pk_in j 4 (by omega)) d_Program_idAt_22 ?_
        refine tp_i (y := nI ((pg 0) j)) (by rw [show (nI j : Int32).toNatClampNeg = j from pk_cl j]) ?_
        refine lv_icmp_lt (tgt := 28) hx hb d_Program_idAt_23 (by decide) (fun c4 => ?_) (fun c4 => ?_)
        · skip
          have hc4 : k < (pg 0) j := (nI_ltI (a := k) (b := (pg 0) j) (by omega) (by omega)).mp c4
          refine tp_pc (pc' := 28) (by rfl) ?_
          refine lv_aload_n hx hb d_Program_idAt_28 rfl (lv_at hl 0 rfl) ?_
          refine va_get (D := (dC, dI)) (ci := 0) (v := .ref (pA 1)) (C := R_Program) (T := F_Program) (N := 13) hx hb hw i_Program hown hK hP 0 rfl rfl 1 (by decide) (hw _ m_129) (fun _ h9 => h9) rfl d_Program_idAt_29 ?_
          refine lv_iload_n hx hb d_Program_idAt_32 rfl (lv_at hl 1 rfl) ?_
          refine lv_bipush (v := 7) hx hb d_Program_idAt_33 (by decide) ?_
          refine lv_imul hx hb d_Program_idAt_35 ?_
          refine tp_i (y := nI (j * 7)) (by exact pk_mul j 7) ?_
          refine lv_iload_n hx hb d_Program_idAt_36 rfl (lv_at hl 2 rfl) ?_
          refine lv_iadd hx hb d_Program_idAt_37 ?_
          refine tp_i (y := nI (j * 7 + k)) (by exact nI_add (j * 7) k) ?_
          refine va_iald (D := (dC, dI)) hx hb hK hP 2 1 rfl rfl (i := nI (j * 7 + k)) (pk_in (j * 7 + k) 28 (by omega)) d_Program_idAt_38 ?_
          refine tp_i (y := nI ((pg 1) (j * 7 + k))) (by rw [show (nI (j * 7 + k) : Int32).toNatClampNeg = j * 7 + k from pk_cl (j * 7 + k)]) ?_
          obtain ⟨hP9, hD9, -⟩ := cut3 (wc := [oc pa 0 [.ref (pA 0), .ref (pA 1), .ref (pA 2), .ref (pA 3), .ref (pA 4), .ref (pA 5), .ref (pA 6), .ref (pA 7), .ref (pA 8), .ref (pA 9), .ref (pA 10), .int (nI T), .int (nI Ac)], ia (pA 0) (pK 0) 4 (fun i => nI ((pg 0) i)), ia (pA 1) (pK 1) 28 (fun i => nI ((pg 1) i))]) hP hD rfl hS hA [0, 1, 2] (by decide +kernel) rfl
          have hK9 := hK.sub (tys' := []) [] rfl
          refine W.widen (k := 0) (n := 0) (by exact Nat.le_of_ble_eq_true rfl) (by exact Nat.le_of_ble_eq_true rfl) ?_
          exact W.iret (v := (nI ((pg 1) (j * 7 + k)))) hx hb hr (fun t9 ht9 hW => ⟨⟨nI ((pg 1) (j * 7 + k)), (), rfl, by rw [if_pos ⟨c1, by rw [nI_clamp hj]; omega, c3, by rw [nI_clamp hj, nI_clamp hk]; omega⟩, nI_clamp hj, nI_clamp hk], by rw [ht9]; exact hP9, va_K.moved hW.alike hK9, hD9⟩, hS.F ht9⟩) hS.2.2 d_Program_idAt_39
        · skip
          have hc4 : ¬ (k < (pg 0) j) := fun q9 => c4 ((nI_ltI (a := k) (b := (pg 0) j) (by omega) (by omega)).mpr q9)
          refine tp_pc (pc' := 26) (by rfl) ?_
          refine lv_iconst (v := (-1)) hx hb d_Program_idAt_26 (by decide) ?_
          obtain ⟨hP9, hD9, -⟩ := cut3 (wc := [oc pa 0 [.ref (pA 0), .ref (pA 1), .ref (pA 2), .ref (pA 3), .ref (pA 4), .ref (pA 5), .ref (pA 6), .ref (pA 7), .ref (pA 8), .ref (pA 9), .ref (pA 10), .int (nI T), .int (nI Ac)], ia (pA 0) (pK 0) 4 (fun i => nI ((pg 0) i)), ia (pA 1) (pK 1) 28 (fun i => nI ((pg 1) i))]) hP hD rfl hS hA [0, 1, 2] (by decide +kernel) rfl
          have hK9 := hK.sub (tys' := []) [] rfl
          refine W.widen (k := 0) (n := 0) (by exact Nat.le_of_ble_eq_true rfl) (by exact Nat.le_of_ble_eq_true rfl) ?_
          exact W.iret (v := (-1)) hx hb hr (fun t9 ht9 hW => ⟨⟨(-1), (), rfl, by rw [if_neg (fun q => absurd q.2.2.2 (by rw [nI_clamp hj, nI_clamp hk]; omega))], by rw [ht9]; exact hP9, va_K.moved hW.alike hK9, hD9⟩, hS.F ht9⟩) hS.2.2 d_Program_idAt_27
