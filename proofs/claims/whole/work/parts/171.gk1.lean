set_option maxHeartbeats 4000000 in
set_option maxRecDepth 100000 in
theorem gen_KW_sourceAt (l : Launch) (dC : Nat → ClassId) (dI : Nat → Nat → Nat) (pa : Nat) (ka ga sa b1 q1 q2 q3 q4 fa : Nat) (n1 n2 n3 n4 : ClassId) (rw zs le tl : Nat → Nat) (x p9 : Nat) (hx4 : x < 4) (hp9 : p9 ≤ 8) (hr9 : rw x < 2 ^ 21) (hz9 : zs x ≤ 7) (sz : Nat) : Met l y_KnowledgeWalk_sourceAt w_KnowledgeWalk_sourceAt ({ frames := 0, cells := 0, slots := 0, locals := 0 }) (va_Pc [.ref ka, .int (nI x), .int (nI p9)] (fun U => U.heap.size = sz ∧ va_P (dC, dI) classes [oc ka 5 [.ref pa, .ref ga, .ref sa, .ref b1, .ref q1, .ref q2, .ref q3, .ref q4, .ref fa], ia q1 n1 4 (fun i => nI (rw i)), ia q2 n2 4 (fun i => nI (zs i))] U.heap ∧ va_K (dC, dI) classes [(n1, .int), (n2, .int)] U ∧ va_D (fun _ => True) [oc ka 5 [.ref pa, .ref ga, .ref sa, .ref b1, .ref q1, .ref q2, .ref q3, .ref q4, .ref fa], ia q1 n1 4 (fun i => nI (rw i)), ia q2 n2 4 (fun i => nI (zs i))] ∧ nw U)) (va_Qi (fun (r : Int32) (_ : Unit) => r = nI (srA rw zs x p9)) (fun _ t9 => va_P (dC, dI) classes [oc ka 5 [.ref pa, .ref ga, .ref sa, .ref b1, .ref q1, .ref q2, .ref q3, .ref q4, .ref fa], ia q1 n1 4 (fun i => nI (rw i)), ia q2 n2 4 (fun i => nI (zs i))] t9.heap ∧ va_K (dC, dI) classes [] t9 ∧ va_D (va_A [oc ka 5 [.ref pa, .ref ga, .ref sa, .ref b1, .ref q1, .ref q2, .ref q3, .ref q4, .ref fa], ia q1 n1 4 (fun i => nI (rw i)), ia q2 n2 4 (fun i => nI (zs i))] sz) [oc ka 5 [.ref pa, .ref ga, .ref sa, .ref b1, .ref q1, .ref q2, .ref q3, .ref q4, .ref fa], ia q1 n1 4 (fun i => nI (rw i)), ia q2 n2 4 (fun i => nI (zs i))]) (va_A [oc ka 5 [.ref pa, .ref ga, .ref sa, .ref b1, .ref q1, .ref q2, .ref q3, .ref q4, .ref fa], ia q1 n1 4 (fun i => nI (rw i)), ia q2 n2 4 (fun i => nI (zs i))] sz)) 0 0 (va_A [oc ka 5 [.ref pa, .ref ga, .ref sa, .ref b1, .ref q1, .ref q2, .ref q3, .ref q4, .ref fa], ia q1 n1 4 (fun i => nI (rw i)), ia q2 n2 4 (fun i => nI (zs i))] sz) := by
  refine Met.ofW (cc := b_KnowledgeWalk_sourceAt) (maxL := 3) (ret := (some .int)) (by decide) rfl ?_
  intro p e0 s m args below meth c s₁ B hml hv
  obtain ⟨rfl, hsz, hP, hK, hD0, hn⟩ := hv
  have hx := B.exec
  have hb := B.bytes
  have hr := B.returns
  have hw := fun w (h : w ∈ wt) => atoms_spec (ws := w_KnowledgeWalk_sourceAt) B.pre w (List.mem_cons_of_mem _ h)
  have hown : s.vm.findClass R_KnowledgeWalk = some m.cls := findClass_of_methodNamed B.named
  have hlocks := B.notSynchronized
  subst hsz
  have hD1 := hD0.self (sz := s.heap.size)
  generalize hAe : va_A [oc ka 5 [.ref pa, .ref ga, .ref sa, .ref b1, .ref q1, .ref q2, .ref q3, .ref q4, .ref fa], ia q1 n1 4 (fun i => nI (rw i)), ia q2 n2 4 (fun i => nI (zs i))] s.heap.size = A at hD1 ⊢
  have hA : ∀ q : Nat, s.heap.size ≤ q → A q := fun q h => by rw [← hAe]; exact Or.inr h
  have hD : dd A [ka, q1, q2] := dd_of hD1 rfl
  clear hAe hD0 hD1
  have hS : va_S A s.heap s.heap [] := va_S.rf
  replace hP : va_P (dC, dI) classes [oc ka 5 [.ref pa, .ref ga, .ref sa, .ref b1, .ref q1, .ref q2, .ref q3, .ref q4, .ref fa], ia q1 n1 4 (fun i => nI (rw i)), ia q2 n2 4 (fun i => nI (zs i))] s.heap := hP
  have hl := lv_entry ([.ref ka, .int (nI x), .int (nI p9)]) (n := 3) (Nat.le_of_ble_eq_true rfl)
  rw [lg_entry_eq]
  generalize (lg_sl ([.ref ka, .int (nI x), .int (nI p9)]) ++ List.replicate (3 - (lg_sl ([.ref ka, .int (nI x), .int (nI p9)])).length) Slot.unset).toArray = ls at hl ⊢
  replace hl : lv_has ls 3 [(0, .ref ka), (1, .int (nI x)), (2, .int (nI p9))] := hl
  refine lv_iload_n hx hb d_KnowledgeWalk_sourceAt_0 rfl (lv_at hl 2 rfl) ?_
  refine lv_iconst (v := 1) hx hb d_KnowledgeWalk_sourceAt_1 (by decide) ?_
  refine lv_icmp_lt (tgt := 15) hx hb d_KnowledgeWalk_sourceAt_2 (by decide) (fun c1 => ?_) (fun c1 => ?_)
  · skip
    have hc1 : p9 < 1 := (nI_ltI (a := p9) (b := 1) (by omega) (by omega)).mp c1
    refine tp_pc (pc' := 15) (by rfl) ?_
    refine lv_iconst (v := 0) hx hb d_KnowledgeWalk_sourceAt_15 (by decide) ?_
    obtain ⟨hP9, hD9, -⟩ := cut3 (wc := [oc ka 5 [.ref pa, .ref ga, .ref sa, .ref b1, .ref q1, .ref q2, .ref q3, .ref q4, .ref fa], ia q1 n1 4 (fun i => nI (rw i)), ia q2 n2 4 (fun i => nI (zs i))]) hP hD rfl hS hA [0, 1, 2] (by decide +kernel) rfl
    have hK9 := hK.sub (tys' := []) [] rfl
    refine W.widen (k := 0) (n := 0) (by exact Nat.le_of_ble_eq_true rfl) (by exact Nat.le_of_ble_eq_true rfl) ?_
    exact W.iret (v := 0) hx hb hr (fun t9 ht9 hW => ⟨⟨0, (), rfl, by rw [srA, if_pos (Or.inl hc1)]; rfl, by rw [ht9]; exact hP9, va_K.moved hW.alike hK9, hD9⟩, hS.F ht9⟩) hS.2.2 d_KnowledgeWalk_sourceAt_16
  · skip
    have hc1 : ¬ (p9 < 1) := fun q9 => c1 ((nI_ltI (a := p9) (b := 1) (by omega) (by omega)).mpr q9)
    refine tp_pc (pc' := 5) (by rfl) ?_
    refine lv_iload_n hx hb d_KnowledgeWalk_sourceAt_5 rfl (lv_at hl 2 rfl) ?_
    refine lv_aload_n hx hb d_KnowledgeWalk_sourceAt_6 rfl (lv_at hl 0 rfl) ?_
    refine va_get (D := (dC, dI)) (ci := 5) (v := .ref q2) (C := R_KnowledgeWalk) (T := F_KnowledgeWalk) (N := 9) hx hb hw i_KnowledgeWalk hown hK hP 0 rfl rfl 5 (by decide) (hw _ m_290) (fun _ h9 => h9) rfl d_KnowledgeWalk_sourceAt_7 ?_
    refine lv_iload_n hx hb d_KnowledgeWalk_sourceAt_10 rfl (lv_at hl 1 rfl) ?_
    refine va_iald (D := (dC, dI)) hx hb hK hP 2 1 rfl rfl (i := nI x) (pk_in x 4 (by omega)) d_KnowledgeWalk_sourceAt_11 ?_
    refine tp_i (y := nI (zs x)) (by rw [show (nI x : Int32).toNatClampNeg = x from pk_cl x]) ?_
    refine lv_icmp_le (tgt := 17) hx hb d_KnowledgeWalk_sourceAt_12 (by decide) (fun c2 => ?_) (fun c2 => ?_)
    · skip
      have hc2 : p9 ≤ zs x := (nI_leI (a := p9) (b := zs x) (by omega) (by omega)).mp c2
      refine tp_pc (pc' := 17) (by rfl) ?_
      refine lv_aload_n hx hb d_KnowledgeWalk_sourceAt_17 rfl (lv_at hl 0 rfl) ?_
      refine va_get (D := (dC, dI)) (ci := 5) (v := .ref q1) (C := R_KnowledgeWalk) (T := F_KnowledgeWalk) (N := 9) hx hb hw i_KnowledgeWalk hown hK hP 0 rfl rfl 4 (by decide) (hw _ m_289) (fun _ h9 => h9) rfl d_KnowledgeWalk_sourceAt_18 ?_
      refine lv_iload_n hx hb d_KnowledgeWalk_sourceAt_21 rfl (lv_at hl 1 rfl) ?_
      refine va_iald (D := (dC, dI)) hx hb hK hP 1 0 rfl rfl (i := nI x) (pk_in x 4 (by omega)) d_KnowledgeWalk_sourceAt_22 ?_
      refine tp_i (y := nI (rw x)) (by rw [show (nI x : Int32).toNatClampNeg = x from pk_cl x]) ?_
      refine lv_iconst (v := 3) hx hb d_KnowledgeWalk_sourceAt_23 (by decide) ?_
      refine lv_iload_n hx hb d_KnowledgeWalk_sourceAt_24 rfl (lv_at hl 2 rfl) ?_
      refine lv_iconst (v := 1) hx hb d_KnowledgeWalk_sourceAt_25 (by decide) ?_
      refine lv_isub hx hb d_KnowledgeWalk_sourceAt_26 ?_
      refine tp_i (y := nI (p9 - 1)) (by exact pk_sub (a := p9) (b := 1) (by omega)) ?_
      refine lv_imul hx hb d_KnowledgeWalk_sourceAt_27 ?_
      refine tp_i (y := nI (3 * (p9 - 1))) (by exact pk_mul 3 (p9 - 1)) ?_
      refine lv_ishr hx hb d_KnowledgeWalk_sourceAt_28 ?_
      refine tp_i (y := (nI (rw x)) >>> ((nI (3 * (p9 - 1))) &&& 31)) rfl ?_
      refine lv_bipush (v := 7) hx hb d_KnowledgeWalk_sourceAt_29 (by decide) ?_
      refine lv_iand hx hb d_KnowledgeWalk_sourceAt_31 ?_
      refine tp_i (y := ((nI (rw x)) >>> ((nI (3 * (p9 - 1))) &&& 31)) &&& 7) rfl ?_
      refine tp_i (y := nI (rw x / 2 ^ (3 * (p9 - 1)) % 8)) (sh7_eq (by omega) (by omega)) ?_
      obtain ⟨hP9, hD9, -⟩ := cut3 (wc := [oc ka 5 [.ref pa, .ref ga, .ref sa, .ref b1, .ref q1, .ref q2, .ref q3, .ref q4, .ref fa], ia q1 n1 4 (fun i => nI (rw i)), ia q2 n2 4 (fun i => nI (zs i))]) hP hD rfl hS hA [0, 1, 2] (by decide +kernel) rfl
      have hK9 := hK.sub (tys' := []) [] rfl
      refine W.widen (k := 0) (n := 0) (by exact Nat.le_of_ble_eq_true rfl) (by exact Nat.le_of_ble_eq_true rfl) ?_
      exact W.iret (v := (nI (rw x / 2 ^ (3 * (p9 - 1)) % 8))) hx hb hr (fun t9 ht9 hW => ⟨⟨nI (rw x / 2 ^ (3 * (p9 - 1)) % 8), (), rfl, by rw [srA, if_neg (by omega)], by rw [ht9]; exact hP9, va_K.moved hW.alike hK9, hD9⟩, hS.F ht9⟩) hS.2.2 d_KnowledgeWalk_sourceAt_32
    · skip
      have hc2 : ¬ (p9 ≤ zs x) := fun q9 => c2 ((nI_leI (a := p9) (b := zs x) (by omega) (by omega)).mpr q9)
      refine tp_pc (pc' := 15) (by rfl) ?_
      refine lv_iconst (v := 0) hx hb d_KnowledgeWalk_sourceAt_15 (by decide) ?_
      obtain ⟨hP9, hD9, -⟩ := cut3 (wc := [oc ka 5 [.ref pa, .ref ga, .ref sa, .ref b1, .ref q1, .ref q2, .ref q3, .ref q4, .ref fa], ia q1 n1 4 (fun i => nI (rw i)), ia q2 n2 4 (fun i => nI (zs i))]) hP hD rfl hS hA [0, 1, 2] (by decide +kernel) rfl
      have hK9 := hK.sub (tys' := []) [] rfl
      refine W.widen (k := 0) (n := 0) (by exact Nat.le_of_ble_eq_true rfl) (by exact Nat.le_of_ble_eq_true rfl) ?_
      exact W.iret (v := 0) hx hb hr (fun t9 ht9 hW => ⟨⟨0, (), rfl, by rw [srA, if_pos (by omega)]; rfl, by rw [ht9]; exact hP9, va_K.moved hW.alike hK9, hD9⟩, hS.F ht9⟩) hS.2.2 d_KnowledgeWalk_sourceAt_16
set_option maxHeartbeats 4000000 in
set_option maxRecDepth 100000 in
theorem gen_KW_lastIn (l : Launch) (dC : Nat → ClassId) (dI : Nat → Nat → Nat) (pa : Nat) (ka ga sa b1 q1 q2 q3 q4 fa : Nat) (n1 n2 n3 n4 : ClassId) (rw zs le tl : Nat → Nat) (x : Nat) (hx4 : x < 4) (hr9 : rw x < 2 ^ 21) (hz9 : zs x ≤ 7) (sz : Nat) : Met l y_KnowledgeWalk_lastIn w_KnowledgeWalk_lastIn ({ frames := 1, cells := 0, slots := 0, locals := 30 }) (va_Pc [.ref ka, .int (nI x)] (fun U => U.heap.size = sz ∧ va_P (dC, dI) classes [oc ka 5 [.ref pa, .ref ga, .ref sa, .ref b1, .ref q1, .ref q2, .ref q3, .ref q4, .ref fa], ia q1 n1 4 (fun i => nI (rw i)), ia q2 n2 4 (fun i => nI (zs i))] U.heap ∧ va_K (dC, dI) classes [(n1, .int), (n2, .int)] U ∧ va_D (fun _ => True) [oc ka 5 [.ref pa, .ref ga, .ref sa, .ref b1, .ref q1, .ref q2, .ref q3, .ref q4, .ref fa], ia q1 n1 4 (fun i => nI (rw i)), ia q2 n2 4 (fun i => nI (zs i))] ∧ nw U)) (va_Qi (fun (r : Int32) (_ : Unit) => r = nI (srA rw zs x (zs x))) (fun _ t9 => va_P (dC, dI) classes [oc ka 5 [.ref pa, .ref ga, .ref sa, .ref b1, .ref q1, .ref q2, .ref q3, .ref q4, .ref fa], ia q1 n1 4 (fun i => nI (rw i)), ia q2 n2 4 (fun i => nI (zs i))] t9.heap ∧ va_K (dC, dI) classes [] t9 ∧ va_D (va_A [oc ka 5 [.ref pa, .ref ga, .ref sa, .ref b1, .ref q1, .ref q2, .ref q3, .ref q4, .ref fa], ia q1 n1 4 (fun i => nI (rw i)), ia q2 n2 4 (fun i => nI (zs i))] sz) [oc ka 5 [.ref pa, .ref ga, .ref sa, .ref b1, .ref q1, .ref q2, .ref q3, .ref q4, .ref fa], ia q1 n1 4 (fun i => nI (rw i)), ia q2 n2 4 (fun i => nI (zs i))]) (va_A [oc ka 5 [.ref pa, .ref ga, .ref sa, .ref b1, .ref q1, .ref q2, .ref q3, .ref q4, .ref fa], ia q1 n1 4 (fun i => nI (rw i)), ia q2 n2 4 (fun i => nI (zs i))] sz)) 0 0 (va_A [oc ka 5 [.ref pa, .ref ga, .ref sa, .ref b1, .ref q1, .ref q2, .ref q3, .ref q4, .ref fa], ia q1 n1 4 (fun i => nI (rw i)), ia q2 n2 4 (fun i => nI (zs i))] sz) := by
  refine Met.ofW (cc := b_KnowledgeWalk_lastIn) (maxL := 2) (ret := (some .int)) (by decide) rfl ?_
  intro p e0 s m args below meth c s₁ B hml hv
  obtain ⟨rfl, hsz, hP, hK, hD0, hn⟩ := hv
  have hx := B.exec
  have hb := B.bytes
  have hr := B.returns
  have hw := fun w (h : w ∈ wt) => atoms_spec (ws := w_KnowledgeWalk_lastIn) B.pre w (List.mem_cons_of_mem _ h)
  have hown : s.vm.findClass R_KnowledgeWalk = some m.cls := findClass_of_methodNamed B.named
  have hlocks := B.notSynchronized
  subst hsz
  have hD1 := hD0.self (sz := s.heap.size)
  generalize hAe : va_A [oc ka 5 [.ref pa, .ref ga, .ref sa, .ref b1, .ref q1, .ref q2, .ref q3, .ref q4, .ref fa], ia q1 n1 4 (fun i => nI (rw i)), ia q2 n2 4 (fun i => nI (zs i))] s.heap.size = A at hD1 ⊢
  have hA : ∀ q : Nat, s.heap.size ≤ q → A q := fun q h => by rw [← hAe]; exact Or.inr h
  have hD : dd A [ka, q1, q2] := dd_of hD1 rfl
  clear hAe hD0 hD1
  have hS : va_S A s.heap s.heap [] := va_S.rf
  replace hP : va_P (dC, dI) classes [oc ka 5 [.ref pa, .ref ga, .ref sa, .ref b1, .ref q1, .ref q2, .ref q3, .ref q4, .ref fa], ia q1 n1 4 (fun i => nI (rw i)), ia q2 n2 4 (fun i => nI (zs i))] s.heap := hP
  have hl := lv_entry ([.ref ka, .int (nI x)]) (n := 2) (Nat.le_of_ble_eq_true rfl)
  rw [lg_entry_eq]
  generalize (lg_sl ([.ref ka, .int (nI x)]) ++ List.replicate (2 - (lg_sl ([.ref ka, .int (nI x)])).length) Slot.unset).toArray = ls at hl ⊢
  replace hl : lv_has ls 2 [(0, .ref ka), (1, .int (nI x))] := hl
  refine lv_aload_n hx hb d_KnowledgeWalk_lastIn_0 rfl (lv_at hl 0 rfl) ?_
  refine lv_iload_n hx hb d_KnowledgeWalk_lastIn_1 rfl (lv_at hl 1 rfl) ?_
  refine lv_aload_n hx hb d_KnowledgeWalk_lastIn_2 rfl (lv_at hl 0 rfl) ?_
  refine va_get (D := (dC, dI)) (ci := 5) (v := .ref q2) (C := R_KnowledgeWalk) (T := F_KnowledgeWalk) (N := 9) hx hb hw i_KnowledgeWalk hown hK hP 0 rfl rfl 5 (by decide) (hw _ m_290) (fun _ h9 => h9) rfl d_KnowledgeWalk_lastIn_3 ?_
  refine lv_iload_n hx hb d_KnowledgeWalk_lastIn_6 rfl (lv_at hl 1 rfl) ?_
  refine va_iald (D := (dC, dI)) hx hb hK hP 2 1 rfl rfl (i := nI x) (pk_in x 4 (by omega)) d_KnowledgeWalk_lastIn_7 ?_
  refine tp_i (y := nI (zs x)) (by rw [show (nI x : Int32).toNatClampNeg = x from pk_cl x]) ?_
  obtain ⟨hPc, hDc, hFc⟩ := cut3 (wc := [oc ka 5 [.ref pa, .ref ga, .ref sa, .ref b1, .ref q1, .ref q2, .ref q3, .ref q4, .ref fa], ia q1 n1 4 (fun i => nI (rw i)), ia q2 n2 4 (fun i => nI (zs i))]) hP hD rfl hS hA [0, 1, 2] (by decide +kernel) rfl
  have hKc := hK.sub (tys' := [(n1, .int), (n2, .int)]) [0, 1] rfl
  refine va_calli (va_runV (As := [.int (nI x), .int (nI (zs x))]) (rest := []) ⟨hx, hb, hml, hown, hw⟩ (gen_KW_sourceAt l dC dI pa ka ga sa b1 q1 q2 q3 q4 fa n1 n2 n3 n4 rw zs le tl x (zs x) hx4 (by omega) hr9 hz9 s.heap.size) (cw_V 2 hw g_KnowledgeWalk_sourceAt rfl rfl rfl (hw _ m_106) (hw _ m_555) (hw _ m_557) (hw _ m_9) (by decide +kernel) ⟨Nat.le_of_ble_eq_true rfl, Nat.le_of_ble_eq_true rfl⟩) ⟨fun a U g mk q => by obtain ⟨q0, q1, qP, qK, qD, qN⟩ := q; exact ⟨q0, q1, qP, va_K.moved (u := U) (U := U.calling g mk a) (Vm.Alike.refl U.vm) qK, qD, nw_call qN⟩, va_recv hKc hPc (ci := 5) (q0 := 0) rfl rfl, fun U hU hW => ⟨rfl, by rw [hU], by rw [hU]; exact hPc, va_K.moved hW.alike hKc, hDc.weaken (fun _ _ _ _ => trivial), nw_warm hW hn⟩⟩ rfl rfl hl.1 rfl (lv_room (Nat.le_of_ble_eq_true rfl)) d_KnowledgeWalk_lastIn_8 ⟨Nat.le_of_ble_eq_true rfl, Nat.le_of_ble_eq_true rfl⟩) hS (fun q _ h => hFc q h) hFc ?_
  intro r_1 u t9 H1 locs1 ht9 hvm hw1 hB hz1 hk1 hS1
  obtain ⟨hP1, hK1, hD1⟩ := hB
  rw [ht9] at hP1
  replace hK1 := va_K.moved hvm.symm hK1
  have hPD := join3 hP hD rfl [0, 1, 2] [] rfl (by rfl) (by decide +kernel) (by decide +kernel) hk1 hFc hP1 hD1
  replace hK : va_K (dC, dI) classes [(n1, .int), (n2, .int)] s := hK.app hK1
  clear hP1 hK1 hD1 hk1 hz1 hFc hKc hDc hPc hvm ht9 hP hS t9
  have hP : va_P (dC, dI) classes [oc ka 5 [.ref pa, .ref ga, .ref sa, .ref b1, .ref q1, .ref q2, .ref q3, .ref q4, .ref fa], ia q1 n1 4 (fun i => nI (rw i)), ia q2 n2 4 (fun i => nI (zs i))] H1 := hPD.1
  replace hD : dd A [ka, q1, q2] := dd_of hPD.2 rfl
  clear hPD
  revert H1 locs1
  intro H locs hS hP
  refine tp_i (y := nI (srA rw zs x (zs x))) (hw1) ?_
  clear hw1 r_1 u
  refine tp_pc (pc' := 11) (by rfl) ?_
  obtain ⟨hP9, hD9, -⟩ := cut3 (wc := [oc ka 5 [.ref pa, .ref ga, .ref sa, .ref b1, .ref q1, .ref q2, .ref q3, .ref q4, .ref fa], ia q1 n1 4 (fun i => nI (rw i)), ia q2 n2 4 (fun i => nI (zs i))]) hP hD rfl hS hA [0, 1, 2] (by decide +kernel) rfl
  have hK9 := hK.sub (tys' := []) [] rfl
  refine W.widen (k := 0) (n := 0) (by exact Nat.le_of_ble_eq_true rfl) (by exact Nat.le_of_ble_eq_true rfl) ?_
  exact W.iret (v := (nI (srA rw zs x (zs x)))) hx hb hr (fun t9 ht9 hW => ⟨⟨nI (srA rw zs x (zs x)), (), rfl, rfl, by rw [ht9]; exact hP9, va_K.moved hW.alike hK9, hD9⟩, hS.F ht9⟩) hS.2.2 d_KnowledgeWalk_lastIn_11
set_option maxHeartbeats 4000000 in
set_option maxRecDepth 100000 in
theorem gen_KW_isAddAt (l : Launch) (dC : Nat → ClassId) (dI : Nat → Nat → Nat) (pa : Nat) (pA : Nat → Nat) (pK : Nat → ClassId) (T Ac : Nat) (pg : Nat → Nat → Nat) (nm : Nat → Int32) (ka ga sa b1 q1 q2 q3 q4 fa : Nat) (n1 n2 n3 n4 : ClassId) (rw zs le tl : Nat → Nat) (x p9 : Nat) (hx4 : x < 4) (hp9 : p9 ≤ 8) (hr9 : rw x < 2 ^ 21) (hz9 : zs x ≤ 7) (hk : srA rw zs x p9 ≠ 0 → pg 4 (srA rw zs x p9 - 1) < 1000) (sz : Nat) : Met l y_KnowledgeWalk_isAddAt w_KnowledgeWalk_isAddAt ({ frames := 1, cells := 0, slots := 0, locals := 30 }) (va_Pc [.ref ka, .int (nI x), .int (nI p9)] (fun U => U.heap.size = sz ∧ va_P (dC, dI) classes [oc ka 5 [.ref pa, .ref ga, .ref sa, .ref b1, .ref q1, .ref q2, .ref q3, .ref q4, .ref fa], ia q1 n1 4 (fun i => nI (rw i)), ia q2 n2 4 (fun i => nI (zs i)), oc pa 0 [.ref (pA 0), .ref (pA 1), .ref (pA 2), .ref (pA 3), .ref (pA 4), .ref (pA 5), .ref (pA 6), .ref (pA 7), .ref (pA 8), .ref (pA 9), .ref (pA 10), .int (nI T), .int (nI Ac)], ia (pA 4) (pK 4) 7 (fun i => nI ((pg 4) i))] U.heap ∧ va_K (dC, dI) classes [(n1, .int), (n2, .int), ((pK 4), .int)] U ∧ va_D (fun _ => True) [oc ka 5 [.ref pa, .ref ga, .ref sa, .ref b1, .ref q1, .ref q2, .ref q3, .ref q4, .ref fa], ia q1 n1 4 (fun i => nI (rw i)), ia q2 n2 4 (fun i => nI (zs i)), oc pa 0 [.ref (pA 0), .ref (pA 1), .ref (pA 2), .ref (pA 3), .ref (pA 4), .ref (pA 5), .ref (pA 6), .ref (pA 7), .ref (pA 8), .ref (pA 9), .ref (pA 10), .int (nI T), .int (nI Ac)], ia (pA 4) (pK 4) 7 (fun i => nI ((pg 4) i))] ∧ nw U)) (va_Qi (fun (r : Int32) (_ : Unit) => r = if srA rw zs x p9 ≠ 0 ∧ pg 4 (srA rw zs x p9 - 1) = 3 then 1 else 0) (fun _ t9 => va_P (dC, dI) classes [oc ka 5 [.ref pa, .ref ga, .ref sa, .ref b1, .ref q1, .ref q2, .ref q3, .ref q4, .ref fa], ia q1 n1 4 (fun i => nI (rw i)), ia q2 n2 4 (fun i => nI (zs i)), oc pa 0 [.ref (pA 0), .ref (pA 1), .ref (pA 2), .ref (pA 3), .ref (pA 4), .ref (pA 5), .ref (pA 6), .ref (pA 7), .ref (pA 8), .ref (pA 9), .ref (pA 10), .int (nI T), .int (nI Ac)], ia (pA 4) (pK 4) 7 (fun i => nI ((pg 4) i))] t9.heap ∧ va_K (dC, dI) classes [] t9 ∧ va_D (va_A [oc ka 5 [.ref pa, .ref ga, .ref sa, .ref b1, .ref q1, .ref q2, .ref q3, .ref q4, .ref fa], ia q1 n1 4 (fun i => nI (rw i)), ia q2 n2 4 (fun i => nI (zs i)), oc pa 0 [.ref (pA 0), .ref (pA 1), .ref (pA 2), .ref (pA 3), .ref (pA 4), .ref (pA 5), .ref (pA 6), .ref (pA 7), .ref (pA 8), .ref (pA 9), .ref (pA 10), .int (nI T), .int (nI Ac)], ia (pA 4) (pK 4) 7 (fun i => nI ((pg 4) i))] sz) [oc ka 5 [.ref pa, .ref ga, .ref sa, .ref b1, .ref q1, .ref q2, .ref q3, .ref q4, .ref fa], ia q1 n1 4 (fun i => nI (rw i)), ia q2 n2 4 (fun i => nI (zs i)), oc pa 0 [.ref (pA 0), .ref (pA 1), .ref (pA 2), .ref (pA 3), .ref (pA 4), .ref (pA 5), .ref (pA 6), .ref (pA 7), .ref (pA 8), .ref (pA 9), .ref (pA 10), .int (nI T), .int (nI Ac)], ia (pA 4) (pK 4) 7 (fun i => nI ((pg 4) i))]) (va_A [oc ka 5 [.ref pa, .ref ga, .ref sa, .ref b1, .ref q1, .ref q2, .ref q3, .ref q4, .ref fa], ia q1 n1 4 (fun i => nI (rw i)), ia q2 n2 4 (fun i => nI (zs i)), oc pa 0 [.ref (pA 0), .ref (pA 1), .ref (pA 2), .ref (pA 3), .ref (pA 4), .ref (pA 5), .ref (pA 6), .ref (pA 7), .ref (pA 8), .ref (pA 9), .ref (pA 10), .int (nI T), .int (nI Ac)], ia (pA 4) (pK 4) 7 (fun i => nI ((pg 4) i))] sz)) 0 0 (va_A [oc ka 5 [.ref pa, .ref ga, .ref sa, .ref b1, .ref q1, .ref q2, .ref q3, .ref q4, .ref fa], ia q1 n1 4 (fun i => nI (rw i)), ia q2 n2 4 (fun i => nI (zs i)), oc pa 0 [.ref (pA 0), .ref (pA 1), .ref (pA 2), .ref (pA 3), .ref (pA 4), .ref (pA 5), .ref (pA 6), .ref (pA 7), .ref (pA 8), .ref (pA 9), .ref (pA 10), .int (nI T), .int (nI Ac)], ia (pA 4) (pK 4) 7 (fun i => nI ((pg 4) i))] sz) := by
  refine Met.ofW (cc := b_KnowledgeWalk_isAddAt) (maxL := 4) (ret := (some .boolean)) (by decide) rfl ?_
  intro p e0 s m args below meth c s₁ B hml hv
  obtain ⟨rfl, hsz, hP, hK, hD0, hn⟩ := hv
  have hx := B.exec
  have hb := B.bytes
  have hr := B.returns
  have hw := fun w (h : w ∈ wt) => atoms_spec (ws := w_KnowledgeWalk_isAddAt) B.pre w (List.mem_cons_of_mem _ h)
  have hown : s.vm.findClass R_KnowledgeWalk = some m.cls := findClass_of_methodNamed B.named
  have hlocks := B.notSynchronized
  subst hsz
  have hD1 := hD0.self (sz := s.heap.size)
  generalize hAe : va_A [oc ka 5 [.ref pa, .ref ga, .ref sa, .ref b1, .ref q1, .ref q2, .ref q3, .ref q4, .ref fa], ia q1 n1 4 (fun i => nI (rw i)), ia q2 n2 4 (fun i => nI (zs i)), oc pa 0 [.ref (pA 0), .ref (pA 1), .ref (pA 2), .ref (pA 3), .ref (pA 4), .ref (pA 5), .ref (pA 6), .ref (pA 7), .ref (pA 8), .ref (pA 9), .ref (pA 10), .int (nI T), .int (nI Ac)], ia (pA 4) (pK 4) 7 (fun i => nI ((pg 4) i))] s.heap.size = A at hD1 ⊢
  have hA : ∀ q : Nat, s.heap.size ≤ q → A q := fun q h => by rw [← hAe]; exact Or.inr h
  have hD : dd A [ka, q1, q2, pa, (pA 4)] := dd_of hD1 rfl
  clear hAe hD0 hD1
  have hS : va_S A s.heap s.heap [] := va_S.rf
  replace hP : va_P (dC, dI) classes [oc ka 5 [.ref pa, .ref ga, .ref sa, .ref b1, .ref q1, .ref q2, .ref q3, .ref q4, .ref fa], ia q1 n1 4 (fun i => nI (rw i)), ia q2 n2 4 (fun i => nI (zs i)), oc pa 0 [.ref (pA 0), .ref (pA 1), .ref (pA 2), .ref (pA 3), .ref (pA 4), .ref (pA 5), .ref (pA 6), .ref (pA 7), .ref (pA 8), .ref (pA 9), .ref (pA 10), .int (nI T), .int (nI Ac)], ia (pA 4) (pK 4) 7 (fun i => nI ((pg 4) i))] s.heap := hP
  have hl := lv_entry ([.ref ka, .int (nI x), .int (nI p9)]) (n := 4) (Nat.le_of_ble_eq_true rfl)
  rw [lg_entry_eq]
  generalize (lg_sl ([.ref ka, .int (nI x), .int (nI p9)]) ++ List.replicate (4 - (lg_sl ([.ref ka, .int (nI x), .int (nI p9)])).length) Slot.unset).toArray = ls at hl ⊢
  replace hl : lv_has ls 4 [(0, .ref ka), (1, .int (nI x)), (2, .int (nI p9))] := hl
  refine lv_aload_n hx hb d_KnowledgeWalk_isAddAt_0 rfl (lv_at hl 0 rfl) ?_
  refine lv_iload_n hx hb d_KnowledgeWalk_isAddAt_1 rfl (lv_at hl 1 rfl) ?_
  refine lv_iload_n hx hb d_KnowledgeWalk_isAddAt_2 rfl (lv_at hl 2 rfl) ?_
  obtain ⟨sq, hq9⟩ : ∃ sq, sq = srA rw zs x p9 := ⟨_, rfl⟩
  have hq8 : sq < 8 := by rw [hq9]; exact srA_lt
  obtain ⟨hPc, hDc, hFc⟩ := cut3 (wc := [oc ka 5 [.ref pa, .ref ga, .ref sa, .ref b1, .ref q1, .ref q2, .ref q3, .ref q4, .ref fa], ia q1 n1 4 (fun i => nI (rw i)), ia q2 n2 4 (fun i => nI (zs i))]) hP hD rfl hS hA [0, 1, 2] (by decide +kernel) rfl
  have hKc := hK.sub (tys' := [(n1, .int), (n2, .int)]) [0, 1] rfl
  refine va_calli (va_runV (As := [.int (nI x), .int (nI p9)]) (rest := []) ⟨hx, hb, hml, hown, hw⟩ (gen_KW_sourceAt l dC dI pa ka ga sa b1 q1 q2 q3 q4 fa n1 n2 n3 n4 rw zs le tl x p9 hx4 hp9 hr9 hz9 s.heap.size) (cw_V 2 hw g_KnowledgeWalk_sourceAt rfl rfl rfl (hw _ m_106) (hw _ m_555) (hw _ m_557) (hw _ m_9) (by decide +kernel) ⟨Nat.le_of_ble_eq_true rfl, Nat.le_of_ble_eq_true rfl⟩) ⟨fun a U g mk q => by obtain ⟨q0, q1, qP, qK, qD, qN⟩ := q; exact ⟨q0, q1, qP, va_K.moved (u := U) (U := U.calling g mk a) (Vm.Alike.refl U.vm) qK, qD, nw_call qN⟩, va_recv hKc hPc (ci := 5) (q0 := 0) rfl rfl, fun U hU hW => ⟨rfl, by rw [hU], by rw [hU]; exact hPc, va_K.moved hW.alike hKc, hDc.weaken (fun _ _ _ _ => trivial), nw_warm hW hn⟩⟩ rfl rfl hl.1 rfl (lv_room (Nat.le_of_ble_eq_true rfl)) d_KnowledgeWalk_isAddAt_3 ⟨Nat.le_of_ble_eq_true rfl, Nat.le_of_ble_eq_true rfl⟩) hS (fun q _ h => hFc q h) hFc ?_
  intro r_1 u t9 H1 locs1 ht9 hvm hw1 hB hz1 hk1 hS1
  obtain ⟨hP1, hK1, hD1⟩ := hB
  rw [ht9] at hP1
  replace hK1 := va_K.moved hvm.symm hK1
  have hPD := join3 hP hD rfl [0, 1, 2] [3, 4] rfl (by rfl) (by decide +kernel) (by decide +kernel) hk1 hFc hP1 hD1
  replace hK : va_K (dC, dI) classes [(n1, .int), (n2, .int), ((pK 4), .int)] s := hK.app hK1
  clear hP1 hK1 hD1 hk1 hz1 hFc hKc hDc hPc hvm ht9 hP hS t9
  have hP : va_P (dC, dI) classes [oc pa 0 [.ref (pA 0), .ref (pA 1), .ref (pA 2), .ref (pA 3), .ref (pA 4), .ref (pA 5), .ref (pA 6), .ref (pA 7), .ref (pA 8), .ref (pA 9), .ref (pA 10), .int (nI T), .int (nI Ac)], ia (pA 4) (pK 4) 7 (fun i => nI ((pg 4) i)), oc ka 5 [.ref pa, .ref ga, .ref sa, .ref b1, .ref q1, .ref q2, .ref q3, .ref q4, .ref fa], ia q1 n1 4 (fun i => nI (rw i)), ia q2 n2 4 (fun i => nI (zs i))] H1 := hPD.1
  replace hD : dd A [pa, (pA 4), ka, q1, q2] := dd_of hPD.2 rfl
  clear hPD
  revert H1 locs1
  intro H locs hS hP
  refine tp_i (y := nI sq) (by rw [hw1, hq9]) ?_
  clear hw1 r_1 u
  refine tp_pc (pc' := 6) (by rfl) ?_
  refine lv_istore_n (lv' := [(3, .int (nI sq)), (0, .ref ka), (1, .int (nI x)), (2, .int (nI p9))]) hx hb d_KnowledgeWalk_isAddAt_6 rfl hl (by decide) rfl ?_
  clear hl ls
  intro ls hl
  refine lv_iload_n hx hb d_KnowledgeWalk_isAddAt_7 rfl (lv_at hl 0 rfl) ?_
  refine lv_if_eq (tgt := 30) hx hb d_KnowledgeWalk_isAddAt_8 (by decide) (fun c1 => ?_) (fun c1 => ?_)
  · skip
    have hc1 : sq = 0 := (nI_eq (a := sq) (b := 0) (by omega) (by omega)).mp c1
    refine tp_pc (pc' := 30) (by rfl) ?_
    refine lv_iconst (v := 0) hx hb d_KnowledgeWalk_isAddAt_30 (by decide) ?_
    obtain ⟨hP9, hD9, -⟩ := cut3 (wc := [oc ka 5 [.ref pa, .ref ga, .ref sa, .ref b1, .ref q1, .ref q2, .ref q3, .ref q4, .ref fa], ia q1 n1 4 (fun i => nI (rw i)), ia q2 n2 4 (fun i => nI (zs i)), oc pa 0 [.ref (pA 0), .ref (pA 1), .ref (pA 2), .ref (pA 3), .ref (pA 4), .ref (pA 5), .ref (pA 6), .ref (pA 7), .ref (pA 8), .ref (pA 9), .ref (pA 10), .int (nI T), .int (nI Ac)], ia (pA 4) (pK 4) 7 (fun i => nI ((pg 4) i))]) hP hD rfl hS hA [2, 3, 4, 0, 1] (by decide +kernel) rfl
    have hK9 := hK.sub (tys' := []) [] rfl
    refine W.widen (k := 0) (n := 0) (by exact Nat.le_of_ble_eq_true rfl) (by exact Nat.le_of_ble_eq_true rfl) ?_
    exact W.zret (v := 0) (ty := .boolean) hx hb hr (by decide) (fun t9 ht9 hW => ⟨⟨0, (), rfl, by rw [← hq9]; exact (if_neg (fun q => q.1 hc1)).symm, by rw [ht9]; exact hP9, va_K.moved hW.alike hK9, hD9⟩, hS.F ht9⟩) hS.2.2 d_KnowledgeWalk_isAddAt_31
  · skip
    have hc1 : ¬ (sq = 0) := fun q9 => c1 ((nI_eq (a := sq) (b := 0) (by omega) (by omega)).mpr q9)
    have hk1 := hk (by rw [← hq9]; exact hc1)
    rw [← hq9] at hk1
    refine tp_pc (pc' := 11) (by rfl) ?_
    refine lv_aload_n hx hb d_KnowledgeWalk_isAddAt_11 rfl (lv_at hl 1 rfl) ?_
    refine va_get (D := (dC, dI)) (ci := 5) (v := .ref pa) (C := R_KnowledgeWalk) (T := F_KnowledgeWalk) (N := 9) hx hb hw i_KnowledgeWalk hown hK hP 2 rfl rfl 0 (by decide) (hw _ m_285) (fun _ h9 => h9) rfl d_KnowledgeWalk_isAddAt_12 ?_
    refine va_get (D := (dC, dI)) (ci := 0) (v := .ref (pA 4)) (C := R_Program) (T := F_Program) (N := 13) hx hb hw i_Program hown hK hP 0 rfl rfl 4 (by decide) (hw _ m_140) (fun _ h9 => h9) rfl d_KnowledgeWalk_isAddAt_15 ?_
    refine lv_iload_n hx hb d_KnowledgeWalk_isAddAt_18 rfl (lv_at hl 0 rfl) ?_
    refine lv_iconst (v := 1) hx hb d_KnowledgeWalk_isAddAt_19 (by decide) ?_
    refine lv_isub hx hb d_KnowledgeWalk_isAddAt_20 ?_
    refine tp_i (y := nI (sq - 1)) (by exact pk_sub (a := sq) (b := 1) (by omega)) ?_
    refine va_iald (D := (dC, dI)) hx hb hK hP 1 2 rfl rfl (i := nI (sq - 1)) (pk_in (sq - 1) 7 (by omega)) d_KnowledgeWalk_isAddAt_21 ?_
    refine tp_i (y := nI ((pg 4) (sq - 1))) (by rw [show (nI (sq - 1) : Int32).toNatClampNeg = sq - 1 from pk_cl (sq - 1)]) ?_
    refine lv_iconst (v := 3) hx hb d_KnowledgeWalk_isAddAt_22 (by decide) ?_
    refine lv_icmp_ne (tgt := 30) hx hb d_KnowledgeWalk_isAddAt_23 (by decide) (fun c2 => ?_) (fun c2 => ?_)
    · skip
      have hc2 : ¬ ((pg 4) (sq - 1) = 3) := fun q9 => c2 ((nI_eq (a := (pg 4) (sq - 1)) (b := 3) (by omega) (by omega)).mpr q9)
      refine tp_pc (pc' := 30) (by rfl) ?_
      refine lv_iconst (v := 0) hx hb d_KnowledgeWalk_isAddAt_30 (by decide) ?_
      obtain ⟨hP9, hD9, -⟩ := cut3 (wc := [oc ka 5 [.ref pa, .ref ga, .ref sa, .ref b1, .ref q1, .ref q2, .ref q3, .ref q4, .ref fa], ia q1 n1 4 (fun i => nI (rw i)), ia q2 n2 4 (fun i => nI (zs i)), oc pa 0 [.ref (pA 0), .ref (pA 1), .ref (pA 2), .ref (pA 3), .ref (pA 4), .ref (pA 5), .ref (pA 6), .ref (pA 7), .ref (pA 8), .ref (pA 9), .ref (pA 10), .int (nI T), .int (nI Ac)], ia (pA 4) (pK 4) 7 (fun i => nI ((pg 4) i))]) hP hD rfl hS hA [2, 3, 4, 0, 1] (by decide +kernel) rfl
      have hK9 := hK.sub (tys' := []) [] rfl
      refine W.widen (k := 0) (n := 0) (by exact Nat.le_of_ble_eq_true rfl) (by exact Nat.le_of_ble_eq_true rfl) ?_
      exact W.zret (v := 0) (ty := .boolean) hx hb hr (by decide) (fun t9 ht9 hW => ⟨⟨0, (), rfl, by rw [← hq9]; exact (if_neg (fun q => hc2 q.2)).symm, by rw [ht9]; exact hP9, va_K.moved hW.alike hK9, hD9⟩, hS.F ht9⟩) hS.2.2 d_KnowledgeWalk_isAddAt_31
    · skip
      have hc2 : (pg 4) (sq - 1) = 3 := (nI_eq (a := (pg 4) (sq - 1)) (b := 3) (by omega) (by omega)).mp c2
      refine tp_pc (pc' := 26) (by rfl) ?_
      refine lv_iconst (v := 1) hx hb d_KnowledgeWalk_isAddAt_26 (by decide) ?_
      refine lv_goto (tgt := 31) hx hb d_KnowledgeWalk_isAddAt_27 (by decide) ?_
      refine tp_pc (pc' := 31) (by rfl) ?_
      obtain ⟨hP9, hD9, -⟩ := cut3 (wc := [oc ka 5 [.ref pa, .ref ga, .ref sa, .ref b1, .ref q1, .ref q2, .ref q3, .ref q4, .ref fa], ia q1 n1 4 (fun i => nI (rw i)), ia q2 n2 4 (fun i => nI (zs i)), oc pa 0 [.ref (pA 0), .ref (pA 1), .ref (pA 2), .ref (pA 3), .ref (pA 4), .ref (pA 5), .ref (pA 6), .ref (pA 7), .ref (pA 8), .ref (pA 9), .ref (pA 10), .int (nI T), .int (nI Ac)], ia (pA 4) (pK 4) 7 (fun i => nI ((pg 4) i))]) hP hD rfl hS hA [2, 3, 4, 0, 1] (by decide +kernel) rfl
      have hK9 := hK.sub (tys' := []) [] rfl
      refine W.widen (k := 0) (n := 0) (by exact Nat.le_of_ble_eq_true rfl) (by exact Nat.le_of_ble_eq_true rfl) ?_
      exact W.zret (v := 1) (ty := .boolean) hx hb hr (by decide) (fun t9 ht9 hW => ⟨⟨1, (), rfl, by rw [← hq9]; exact (if_pos ⟨hc1, hc2⟩).symm, by rw [ht9]; exact hP9, va_K.moved hW.alike hK9, hD9⟩, hS.F ht9⟩) hS.2.2 d_KnowledgeWalk_isAddAt_31
set_option maxHeartbeats 4000000 in
set_option maxRecDepth 100000 in
theorem gen_KW_knownPlace (l : Launch) (dC : Nat → ClassId) (dI : Nat → Nat → Nat) (pa : Nat) (pA : Nat → Nat) (pK : Nat → ClassId) (T Ac : Nat) (pg : Nat → Nat → Nat) (nm : Nat → Int32) (ka ga sa b1 q1 q2 q3 q4 fa : Nat) (n1 n2 n3 n4 : ClassId) (rw zs le tl : Nat → Nat) (a : Nat) (ha : a < 7) (h2 : pg 2 a < 4) (hx3 : pg 5 a < 3) (hr9 : rw (pg 5 a) < 2 ^ 21) (hz9 : zs (pg 5 a) ≤ 7) (hle : le (pg 2 a) < 128) (hsr : ∀ p9, 1 ≤ p9 → p9 ≤ zs (pg 5 a) → 1 ≤ srA rw zs (pg 5 a) p9) (sz : Nat) : Met l y_KnowledgeWalk_knownPlace w_KnowledgeWalk_knownPlace ({ frames := 1, cells := 0, slots := 0, locals := 40 }) (va_Pc [.ref ka, .int (nI a)] (fun U => U.heap.size = sz ∧ va_P (dC, dI) classes [oc ka 5 [.ref pa, .ref ga, .ref sa, .ref b1, .ref q1, .ref q2, .ref q3, .ref q4, .ref fa], ia q1 n1 4 (fun i => nI (rw i)), ia q2 n2 4 (fun i => nI (zs i)), ia q3 n3 4 (fun i => nI (le i)), oc pa 0 [.ref (pA 0), .ref (pA 1), .ref (pA 2), .ref (pA 3), .ref (pA 4), .ref (pA 5), .ref (pA 6), .ref (pA 7), .ref (pA 8), .ref (pA 9), .ref (pA 10), .int (nI T), .int (nI Ac)], ia (pA 2) (pK 2) 7 (fun i => nI ((pg 2) i)), ia (pA 5) (pK 5) 7 (fun i => nI ((pg 5) i))] U.heap ∧ va_K (dC, dI) classes [(n1, .int), (n2, .int), (n3, .int), ((pK 2), .int), ((pK 5), .int)] U ∧ va_D (fun _ => True) [oc ka 5 [.ref pa, .ref ga, .ref sa, .ref b1, .ref q1, .ref q2, .ref q3, .ref q4, .ref fa], ia q1 n1 4 (fun i => nI (rw i)), ia q2 n2 4 (fun i => nI (zs i)), ia q3 n3 4 (fun i => nI (le i)), oc pa 0 [.ref (pA 0), .ref (pA 1), .ref (pA 2), .ref (pA 3), .ref (pA 4), .ref (pA 5), .ref (pA 6), .ref (pA 7), .ref (pA 8), .ref (pA 9), .ref (pA 10), .int (nI T), .int (nI Ac)], ia (pA 2) (pK 2) 7 (fun i => nI ((pg 2) i)), ia (pA 5) (pK 5) 7 (fun i => nI ((pg 5) i))] ∧ nw U)) (va_Qi (fun (r : Int32) (_ : Unit) => r = nI (knP (le (pg 2 a)) (srA rw zs (pg 5 a)) (zs (pg 5 a)))) (fun _ t9 => va_P (dC, dI) classes [oc ka 5 [.ref pa, .ref ga, .ref sa, .ref b1, .ref q1, .ref q2, .ref q3, .ref q4, .ref fa], ia q1 n1 4 (fun i => nI (rw i)), ia q2 n2 4 (fun i => nI (zs i)), ia q3 n3 4 (fun i => nI (le i)), oc pa 0 [.ref (pA 0), .ref (pA 1), .ref (pA 2), .ref (pA 3), .ref (pA 4), .ref (pA 5), .ref (pA 6), .ref (pA 7), .ref (pA 8), .ref (pA 9), .ref (pA 10), .int (nI T), .int (nI Ac)], ia (pA 2) (pK 2) 7 (fun i => nI ((pg 2) i)), ia (pA 5) (pK 5) 7 (fun i => nI ((pg 5) i))] t9.heap ∧ va_K (dC, dI) classes [] t9 ∧ va_D (va_A [oc ka 5 [.ref pa, .ref ga, .ref sa, .ref b1, .ref q1, .ref q2, .ref q3, .ref q4, .ref fa], ia q1 n1 4 (fun i => nI (rw i)), ia q2 n2 4 (fun i => nI (zs i)), ia q3 n3 4 (fun i => nI (le i)), oc pa 0 [.ref (pA 0), .ref (pA 1), .ref (pA 2), .ref (pA 3), .ref (pA 4), .ref (pA 5), .ref (pA 6), .ref (pA 7), .ref (pA 8), .ref (pA 9), .ref (pA 10), .int (nI T), .int (nI Ac)], ia (pA 2) (pK 2) 7 (fun i => nI ((pg 2) i)), ia (pA 5) (pK 5) 7 (fun i => nI ((pg 5) i))] sz) [oc ka 5 [.ref pa, .ref ga, .ref sa, .ref b1, .ref q1, .ref q2, .ref q3, .ref q4, .ref fa], ia q1 n1 4 (fun i => nI (rw i)), ia q2 n2 4 (fun i => nI (zs i)), ia q3 n3 4 (fun i => nI (le i)), oc pa 0 [.ref (pA 0), .ref (pA 1), .ref (pA 2), .ref (pA 3), .ref (pA 4), .ref (pA 5), .ref (pA 6), .ref (pA 7), .ref (pA 8), .ref (pA 9), .ref (pA 10), .int (nI T), .int (nI Ac)], ia (pA 2) (pK 2) 7 (fun i => nI ((pg 2) i)), ia (pA 5) (pK 5) 7 (fun i => nI ((pg 5) i))]) (va_A [oc ka 5 [.ref pa, .ref ga, .ref sa, .ref b1, .ref q1, .ref q2, .ref q3, .ref q4, .ref fa], ia q1 n1 4 (fun i => nI (rw i)), ia q2 n2 4 (fun i => nI (zs i)), ia q3 n3 4 (fun i => nI (le i)), oc pa 0 [.ref (pA 0), .ref (pA 1), .ref (pA 2), .ref (pA 3), .ref (pA 4), .ref (pA 5), .ref (pA 6), .ref (pA 7), .ref (pA 8), .ref (pA 9), .ref (pA 10), .int (nI T), .int (nI Ac)], ia (pA 2) (pK 2) 7 (fun i => nI ((pg 2) i)), ia (pA 5) (pK 5) 7 (fun i => nI ((pg 5) i))] sz)) 0 0 (va_A [oc ka 5 [.ref pa, .ref ga, .ref sa, .ref b1, .ref q1, .ref q2, .ref q3, .ref q4, .ref fa], ia q1 n1 4 (fun i => nI (rw i)), ia q2 n2 4 (fun i => nI (zs i)), ia q3 n3 4 (fun i => nI (le i)), oc pa 0 [.ref (pA 0), .ref (pA 1), .ref (pA 2), .ref (pA 3), .ref (pA 4), .ref (pA 5), .ref (pA 6), .ref (pA 7), .ref (pA 8), .ref (pA 9), .ref (pA 10), .int (nI T), .int (nI Ac)], ia (pA 2) (pK 2) 7 (fun i => nI ((pg 2) i)), ia (pA 5) (pK 5) 7 (fun i => nI ((pg 5) i))] sz) := by
  refine Met.ofW (cc := b_KnowledgeWalk_knownPlace) (maxL := 5) (ret := (some .int)) (by decide) rfl ?_
  intro p e0 s m args below meth c s₁ B hml hv
  obtain ⟨rfl, hsz, hP, hK, hD0, hn⟩ := hv
  have hx := B.exec
  have hb := B.bytes
  have hr := B.returns
  have hw := fun w (h : w ∈ wt) => atoms_spec (ws := w_KnowledgeWalk_knownPlace) B.pre w (List.mem_cons_of_mem _ h)
  have hown : s.vm.findClass R_KnowledgeWalk = some m.cls := findClass_of_methodNamed B.named
  have hlocks := B.notSynchronized
  subst hsz
  have hD1 := hD0.self (sz := s.heap.size)
  generalize hAe : va_A [oc ka 5 [.ref pa, .ref ga, .ref sa, .ref b1, .ref q1, .ref q2, .ref q3, .ref q4, .ref fa], ia q1 n1 4 (fun i => nI (rw i)), ia q2 n2 4 (fun i => nI (zs i)), ia q3 n3 4 (fun i => nI (le i)), oc pa 0 [.ref (pA 0), .ref (pA 1), .ref (pA 2), .ref (pA 3), .ref (pA 4), .ref (pA 5), .ref (pA 6), .ref (pA 7), .ref (pA 8), .ref (pA 9), .ref (pA 10), .int (nI T), .int (nI Ac)], ia (pA 2) (pK 2) 7 (fun i => nI ((pg 2) i)), ia (pA 5) (pK 5) 7 (fun i => nI ((pg 5) i))] s.heap.size = A at hD1 ⊢
  have hA : ∀ q : Nat, s.heap.size ≤ q → A q := fun q h => by rw [← hAe]; exact Or.inr h
  have hD : dd A [ka, q1, q2, q3, pa, (pA 2), (pA 5)] := dd_of hD1 rfl
  clear hAe hD0 hD1
  have hS : va_S A s.heap s.heap [] := va_S.rf
  replace hP : va_P (dC, dI) classes [oc ka 5 [.ref pa, .ref ga, .ref sa, .ref b1, .ref q1, .ref q2, .ref q3, .ref q4, .ref fa], ia q1 n1 4 (fun i => nI (rw i)), ia q2 n2 4 (fun i => nI (zs i)), ia q3 n3 4 (fun i => nI (le i)), oc pa 0 [.ref (pA 0), .ref (pA 1), .ref (pA 2), .ref (pA 3), .ref (pA 4), .ref (pA 5), .ref (pA 6), .ref (pA 7), .ref (pA 8), .ref (pA 9), .ref (pA 10), .int (nI T), .int (nI Ac)], ia (pA 2) (pK 2) 7 (fun i => nI ((pg 2) i)), ia (pA 5) (pK 5) 7 (fun i => nI ((pg 5) i))] s.heap := hP
  have hl := lv_entry ([.ref ka, .int (nI a)]) (n := 5) (Nat.le_of_ble_eq_true rfl)
  rw [lg_entry_eq]
  generalize (lg_sl ([.ref ka, .int (nI a)]) ++ List.replicate (5 - (lg_sl ([.ref ka, .int (nI a)])).length) Slot.unset).toArray = ls at hl ⊢
  replace hl : lv_has ls 5 [(0, .ref ka), (1, .int (nI a))] := hl
  refine lv_aload_n hx hb d_KnowledgeWalk_knownPlace_0 rfl (lv_at hl 0 rfl) ?_
  refine va_get (D := (dC, dI)) (ci := 5) (v := .ref pa) (C := R_KnowledgeWalk) (T := F_KnowledgeWalk) (N := 9) hx hb hw i_KnowledgeWalk hown hK hP 0 rfl rfl 0 (by decide) (hw _ m_285) (fun _ h9 => h9) rfl d_KnowledgeWalk_knownPlace_1 ?_
  refine va_get (D := (dC, dI)) (ci := 0) (v := .ref (pA 5)) (C := R_Program) (T := F_Program) (N := 13) hx hb hw i_Program hown hK hP 4 rfl rfl 5 (by decide) (hw _ m_146) (fun _ h9 => h9) rfl d_KnowledgeWalk_knownPlace_4 ?_
  refine lv_iload_n hx hb d_KnowledgeWalk_knownPlace_7 rfl (lv_at hl 1 rfl) ?_
  refine va_iald (D := (dC, dI)) hx hb hK hP 6 4 rfl rfl (i := nI a) (pk_in a 7 (by omega)) d_KnowledgeWalk_knownPlace_8 ?_
  refine tp_i (y := nI ((pg 5) a)) (by rw [show (nI a : Int32).toNatClampNeg = a from pk_cl a]) ?_
  refine lv_istore_n (lv' := [(2, .int (nI ((pg 5) a))), (0, .ref ka), (1, .int (nI a))]) hx hb d_KnowledgeWalk_knownPlace_9 rfl hl (by decide) rfl ?_
  clear hl ls
  intro ls hl
  refine lv_aload_n hx hb d_KnowledgeWalk_knownPlace_10 rfl (lv_at hl 1 rfl) ?_
  refine va_get (D := (dC, dI)) (ci := 5) (v := .ref q3) (C := R_KnowledgeWalk) (T := F_KnowledgeWalk) (N := 9) hx hb hw i_KnowledgeWalk hown hK hP 0 rfl rfl 6 (by decide) (hw _ m_291) (fun _ h9 => h9) rfl d_KnowledgeWalk_knownPlace_11 ?_
  refine lv_aload_n hx hb d_KnowledgeWalk_knownPlace_14 rfl (lv_at hl 1 rfl) ?_
  refine va_get (D := (dC, dI)) (ci := 5) (v := .ref pa) (C := R_KnowledgeWalk) (T := F_KnowledgeWalk) (N := 9) hx hb hw i_KnowledgeWalk hown hK hP 0 rfl rfl 0 (by decide) (hw _ m_285) (fun _ h9 => h9) rfl d_KnowledgeWalk_knownPlace_15 ?_
  refine va_get (D := (dC, dI)) (ci := 0) (v := .ref (pA 2)) (C := R_Program) (T := F_Program) (N := 13) hx hb hw i_Program hown hK hP 4 rfl rfl 2 (by decide) (hw _ m_133) (fun _ h9 => h9) rfl d_KnowledgeWalk_knownPlace_18 ?_
  refine lv_iload_n hx hb d_KnowledgeWalk_knownPlace_21 rfl (lv_at hl 2 rfl) ?_
  refine va_iald (D := (dC, dI)) hx hb hK hP 5 3 rfl rfl (i := nI a) (pk_in a 7 (by omega)) d_KnowledgeWalk_knownPlace_22 ?_
  refine tp_i (y := nI ((pg 2) a)) (by rw [show (nI a : Int32).toNatClampNeg = a from pk_cl a]) ?_
  refine va_iald (D := (dC, dI)) hx hb hK hP 3 2 rfl rfl (i := nI ((pg 2) a)) (pk_in ((pg 2) a) 4 (by omega)) d_KnowledgeWalk_knownPlace_23 ?_
  refine tp_i (y := nI (le ((pg 2) a))) (by rw [show (nI ((pg 2) a) : Int32).toNatClampNeg = (pg 2) a from pk_cl ((pg 2) a)]) ?_
  refine lv_istore_n (lv' := [(3, .int (nI (le ((pg 2) a)))), (2, .int (nI ((pg 5) a))), (0, .ref ka), (1, .int (nI a))]) hx hb d_KnowledgeWalk_knownPlace_24 rfl hl (by decide) rfl ?_
  clear hl ls
  intro ls hl
  refine lv_aload_n hx hb d_KnowledgeWalk_knownPlace_25 rfl (lv_at hl 2 rfl) ?_
  refine va_get (D := (dC, dI)) (ci := 5) (v := .ref q2) (C := R_KnowledgeWalk) (T := F_KnowledgeWalk) (N := 9) hx hb hw i_KnowledgeWalk hown hK hP 0 rfl rfl 5 (by decide) (hw _ m_290) (fun _ h9 => h9) rfl d_KnowledgeWalk_knownPlace_26 ?_
  refine lv_iload_n hx hb d_KnowledgeWalk_knownPlace_29 rfl (lv_at hl 1 rfl) ?_
  refine va_iald (D := (dC, dI)) hx hb hK hP 2 1 rfl rfl (i := nI ((pg 5) a)) (pk_in ((pg 5) a) 4 (by omega)) d_KnowledgeWalk_knownPlace_30 ?_
  refine tp_i (y := nI (zs ((pg 5) a))) (by rw [show (nI ((pg 5) a) : Int32).toNatClampNeg = (pg 5) a from pk_cl ((pg 5) a)]) ?_
  refine lv_istore (lv' := [(4, .int (nI (zs ((pg 5) a)))), (3, .int (nI (le ((pg 2) a)))), (2, .int (nI ((pg 5) a))), (0, .ref ka), (1, .int (nI a))]) hx hb d_KnowledgeWalk_knownPlace_31 hl (by decide) rfl ?_
  clear hl ls
  intro ls hl
  refine lp_nd (zs (pg 5 a)) (fun i H locs ls => knP (le (pg 2 a)) (srA rw zs (pg 5 a)) i = knP (le (pg 2 a)) (srA rw zs (pg 5 a)) (zs (pg 5 a)) ∧ i ≤ zs (pg 5 a) ∧ va_P (dC, dI) classes [oc ka 5 [.ref pa, .ref ga, .ref sa, .ref b1, .ref q1, .ref q2, .ref q3, .ref q4, .ref fa], ia q1 n1 4 (fun i => nI (rw i)), ia q2 n2 4 (fun i => nI (zs i)), ia q3 n3 4 (fun i => nI (le i)), oc pa 0 [.ref (pA 0), .ref (pA 1), .ref (pA 2), .ref (pA 3), .ref (pA 4), .ref (pA 5), .ref (pA 6), .ref (pA 7), .ref (pA 8), .ref (pA 9), .ref (pA 10), .int (nI T), .int (nI Ac)], ia (pA 2) (pK 2) 7 (fun i => nI ((pg 2) i)), ia (pA 5) (pK 5) 7 (fun i => nI ((pg 5) i))] H ∧ va_S A s.heap H locs ∧ lv_has ls 5 [(4, .int (nI i)), (3, .int (nI (le ((pg 2) a)))), (2, .int (nI ((pg 5) a))), (0, .ref ka), (1, .int (nI a))]) ⟨rfl, Nat.le_refl _, hP, hS, hl⟩ ?_ ?_
  · intro i H locs ls hI ih
    obtain ⟨hkn, hiz, hP, hS, hl⟩ := hI
    obtain ⟨sq, hq9⟩ : ∃ sq, sq = srA rw zs (pg 5 a) (i + 1) := ⟨_, rfl⟩
    have hq8 : sq < 8 := by rw [hq9]; exact srA_lt
    have hq1 : 1 ≤ sq := by rw [hq9]; exact hsr _ (by omega) hiz
    obtain ⟨b9, hb9⟩ : ∃ b9, b9 = le (pg 2 a) / 2 ^ (sq - 1) % 2 := ⟨_, rfl⟩
    have hb2 : b9 < 2 := by rw [hb9]; exact Nat.mod_lt _ (by decide)
    refine lv_iload hx hb d_KnowledgeWalk_knownPlace_33 (lv_at hl 0 rfl) ?_
    refine lv_if_le (tgt := 63) hx hb d_KnowledgeWalk_knownPlace_35 (by decide) (fun c9 => absurd ((nI_leI (a := i + 1) (b := 0) (by omega) (by omega)).mp c9) (by omega)) (fun c9 => ?_)
    refine tp_pc (pc' := 38) (by rfl) ?_
    refine lv_iload_n hx hb d_KnowledgeWalk_knownPlace_38 rfl (lv_at hl 1 rfl) ?_
    refine lv_aload_n hx hb d_KnowledgeWalk_knownPlace_39 rfl (lv_at hl 3 rfl) ?_
    refine lv_iload_n hx hb d_KnowledgeWalk_knownPlace_40 rfl (lv_at hl 2 rfl) ?_
    refine lv_iload hx hb d_KnowledgeWalk_knownPlace_41 (lv_at hl 0 rfl) ?_
    obtain ⟨hPc, hDc, hFc⟩ := cut3 (wc := [oc ka 5 [.ref pa, .ref ga, .ref sa, .ref b1, .ref q1, .ref q2, .ref q3, .ref q4, .ref fa], ia q1 n1 4 (fun i => nI (rw i)), ia q2 n2 4 (fun i => nI (zs i))]) hP hD rfl hS hA [0, 1, 2] (by decide +kernel) rfl
    have hKc := hK.sub (tys' := [(n1, .int), (n2, .int)]) [0, 1] rfl
    refine va_calli (va_runV (As := [.int (nI ((pg 5) a)), .int (nI (i + 1))]) (rest := [.int (nI (le ((pg 2) a)))]) ⟨hx, hb, hml, hown, hw⟩ (gen_KW_sourceAt l dC dI pa ka ga sa b1 q1 q2 q3 q4 fa n1 n2 n3 n4 rw zs le tl (pg 5 a) (i + 1) (by omega) (by omega) hr9 hz9 H.size) (cw_V 2 hw g_KnowledgeWalk_sourceAt rfl rfl rfl (hw _ m_106) (hw _ m_555) (hw _ m_557) (hw _ m_9) (by decide +kernel) ⟨Nat.le_of_ble_eq_true rfl, Nat.le_of_ble_eq_true rfl⟩) ⟨fun a U g mk q => by obtain ⟨q0, q1, qP, qK, qD, qN⟩ := q; exact ⟨q0, q1, qP, va_K.moved (u := U) (U := U.calling g mk a) (Vm.Alike.refl U.vm) qK, qD, nw_call qN⟩, va_recv hKc hPc (ci := 5) (q0 := 0) rfl rfl, fun U hU hW => ⟨rfl, by rw [hU], by rw [hU]; exact hPc, va_K.moved hW.alike hKc, hDc.weaken (fun _ _ _ _ => trivial), nw_warm hW hn⟩⟩ rfl rfl hl.1 rfl (lv_room (Nat.le_of_ble_eq_true rfl)) d_KnowledgeWalk_knownPlace_43 ⟨Nat.le_of_ble_eq_true rfl, Nat.le_of_ble_eq_true rfl⟩) hS (fun q _ h => hFc q h) hFc ?_
    intro r_1 u t9 H1 locs1 ht9 hvm hw1 hB hz1 hk1 hS1
    obtain ⟨hP1, hK1, hD1⟩ := hB
    rw [ht9] at hP1
    replace hK1 := va_K.moved hvm.symm hK1
    have hPD := join3 hP hD rfl [0, 1, 2] [3, 4, 5, 6] rfl (by rfl) (by decide +kernel) (by decide +kernel) hk1 hFc hP1 hD1
    replace hK : va_K (dC, dI) classes [(n1, .int), (n2, .int), (n3, .int), ((pK 2), .int), ((pK 5), .int)] s := hK.app hK1
    clear hP1 hK1 hD1 hk1 hz1 hFc hKc hDc hPc hvm ht9 hP hS t9 locs H
    have hP : va_P (dC, dI) classes [ia q3 n3 4 (fun i => nI (le i)), oc pa 0 [.ref (pA 0), .ref (pA 1), .ref (pA 2), .ref (pA 3), .ref (pA 4), .ref (pA 5), .ref (pA 6), .ref (pA 7), .ref (pA 8), .ref (pA 9), .ref (pA 10), .int (nI T), .int (nI Ac)], ia (pA 2) (pK 2) 7 (fun i => nI ((pg 2) i)), ia (pA 5) (pK 5) 7 (fun i => nI ((pg 5) i)), oc ka 5 [.ref pa, .ref ga, .ref sa, .ref b1, .ref q1, .ref q2, .ref q3, .ref q4, .ref fa], ia q1 n1 4 (fun i => nI (rw i)), ia q2 n2 4 (fun i => nI (zs i))] H1 := hPD.1
    replace hD : dd A [q3, pa, (pA 2), (pA 5), ka, q1, q2] := dd_of hPD.2 rfl
    clear hPD
    revert H1 locs1
    intro H locs hS hP
    refine tp_i (y := nI sq) (by rw [hw1, hq9]) ?_
    clear hw1 r_1 u
    refine tp_pc (pc' := 46) (by rfl) ?_
    refine lv_iconst (v := 1) hx hb d_KnowledgeWalk_knownPlace_46 (by decide) ?_
    refine lv_isub hx hb d_KnowledgeWalk_knownPlace_47 ?_
    refine tp_i (y := nI (sq - 1)) (by exact pk_sub (a := sq) (b := 1) (by omega)) ?_
    obtain ⟨hPc, hDc, hFc⟩ := cut3 (wc := []) hP hD rfl hS hA [] (by decide +kernel) rfl
    have hKc := hK.sub (tys' := []) [] rfl
    refine va_calli (va_runSN (As := [.int (nI (le ((pg 2) a))), .int (nI (sq - 1))]) (rest := []) ⟨hx, hb, hml, hown, hw⟩ (gen_isIn l dC dI (le (pg 2 a)) (sq - 1) (by omega) (by omega) H.size) (⟨va_cnB 2 hw g_OM_isIn rfl rfl rfl (hn.1 (R_KnowledgeWalk, 154, y_OM_isIn, "OrderModels") (nq 4 (by rfl))) (hw _ m_101) (by decide +kernel) ⟨Nat.le_of_ble_eq_true rfl, Nat.le_of_ble_eq_true rfl⟩, hw _ m_560, trivial⟩) ⟨fun a U g mk q => by obtain ⟨q0, q1, qP, qK, qD, qN⟩ := q; exact ⟨q0, q1, qP, va_K.moved (u := U) (U := U.calling g mk a) (Vm.Alike.refl U.vm) qK, qD, nw_call qN⟩, fun U hU hW => ⟨rfl, by rw [hU], by rw [hU]; exact hPc, va_K.moved hW.alike hKc, hDc.weaken (fun _ _ _ _ => trivial), nw_warm hW hn⟩⟩ rfl rfl hl.1 rfl (lv_room (Nat.le_of_ble_eq_true rfl)) d_KnowledgeWalk_knownPlace_48 ⟨Nat.le_of_ble_eq_true rfl, Nat.le_of_ble_eq_true rfl⟩) hS (fun q _ h => hFc q h) hFc ?_
    intro r_2 u t9 H1 locs1 ht9 hvm hw1 hB hz1 hk1 hS1
    obtain ⟨hP1, hK1, hD1⟩ := hB
    rw [ht9] at hP1
    replace hK1 := va_K.moved hvm.symm hK1
    have hPD := join3 hP hD rfl [] [0, 1, 2, 3, 4, 5, 6] rfl (by rfl) (by decide +kernel) (by decide +kernel) hk1 hFc hP1 hD1
    replace hK : va_K (dC, dI) classes [(n1, .int), (n2, .int), (n3, .int), ((pK 2), .int), ((pK 5), .int)] s := hK.app hK1
    clear hP1 hK1 hD1 hk1 hz1 hFc hKc hDc hPc hvm ht9 hP hS t9 locs H
    have hP : va_P (dC, dI) classes [ia q3 n3 4 (fun i => nI (le i)), oc pa 0 [.ref (pA 0), .ref (pA 1), .ref (pA 2), .ref (pA 3), .ref (pA 4), .ref (pA 5), .ref (pA 6), .ref (pA 7), .ref (pA 8), .ref (pA 9), .ref (pA 10), .int (nI T), .int (nI Ac)], ia (pA 2) (pK 2) 7 (fun i => nI ((pg 2) i)), ia (pA 5) (pK 5) 7 (fun i => nI ((pg 5) i)), oc ka 5 [.ref pa, .ref ga, .ref sa, .ref b1, .ref q1, .ref q2, .ref q3, .ref q4, .ref fa], ia q1 n1 4 (fun i => nI (rw i)), ia q2 n2 4 (fun i => nI (zs i))] H1 := hPD.1
    replace hD : dd A [q3, pa, (pA 2), (pA 5), ka, q1, q2] := dd_of hPD.2 rfl
    clear hPD
    revert H1 locs1
    intro H locs hS hP
    refine tp_i (y := nI b9) (by rw [hw1, hb9]) ?_
    clear hw1 r_2 u
    refine tp_pc (pc' := 51) (by rfl) ?_
    refine lv_if_eq (tgt := 57) hx hb d_KnowledgeWalk_knownPlace_51 (by decide) (fun c1 => ?_) (fun c1 => ?_)
    · skip
      have hc1 : b9 = 0 := (nI_eq (a := b9) (b := 0) (by omega) (by omega)).mp c1
      refine tp_pc (pc' := 57) (by rfl) ?_
      refine lv_iinc (v := nI i) (lv' := [(4, .int (nI i)), (3, .int (nI (le ((pg 2) a)))), (2, .int (nI ((pg 5) a))), (0, .ref ka), (1, .int (nI a))]) hx hb d_KnowledgeWalk_knownPlace_57 hl (k := 0) rfl (by exact pk_m1 i) (by decide) rfl ?_
      clear hl ls
      intro ls hl
      refine lv_goto (tgt := 33) hx hb d_KnowledgeWalk_knownPlace_60 (by decide) ?_
      refine tp_pc (pc' := 33) (by rfl) ?_
      obtain ⟨hP8, -, -⟩ := cut3 (wc := [oc ka 5 [.ref pa, .ref ga, .ref sa, .ref b1, .ref q1, .ref q2, .ref q3, .ref q4, .ref fa], ia q1 n1 4 (fun i => nI (rw i)), ia q2 n2 4 (fun i => nI (zs i)), ia q3 n3 4 (fun i => nI (le i)), oc pa 0 [.ref (pA 0), .ref (pA 1), .ref (pA 2), .ref (pA 3), .ref (pA 4), .ref (pA 5), .ref (pA 6), .ref (pA 7), .ref (pA 8), .ref (pA 9), .ref (pA 10), .int (nI T), .int (nI Ac)], ia (pA 2) (pK 2) 7 (fun i => nI ((pg 2) i)), ia (pA 5) (pK 5) 7 (fun i => nI ((pg 5) i))]) hP hD rfl hS hA [4, 5, 6, 0, 1, 2, 3] (by decide +kernel) rfl
      exact ih _ _ _ ⟨by rw [← hkn, knP, if_neg (fun q => by rw [← hq9, ← hb9] at q; omega)], by omega, hP8, hS, lv_sub hl [0, 1, 2, 3, 4] rfl⟩
    · skip
      have hc1 : ¬ (b9 = 0) := fun q9 => c1 ((nI_eq (a := b9) (b := 0) (by omega) (by omega)).mpr q9)
      refine tp_pc (pc' := 54) (by rfl) ?_
      refine lv_iload hx hb d_KnowledgeWalk_knownPlace_54 (lv_at hl 0 rfl) ?_
      obtain ⟨hP9, hD9, -⟩ := cut3 (wc := [oc ka 5 [.ref pa, .ref ga, .ref sa, .ref b1, .ref q1, .ref q2, .ref q3, .ref q4, .ref fa], ia q1 n1 4 (fun i => nI (rw i)), ia q2 n2 4 (fun i => nI (zs i)), ia q3 n3 4 (fun i => nI (le i)), oc pa 0 [.ref (pA 0), .ref (pA 1), .ref (pA 2), .ref (pA 3), .ref (pA 4), .ref (pA 5), .ref (pA 6), .ref (pA 7), .ref (pA 8), .ref (pA 9), .ref (pA 10), .int (nI T), .int (nI Ac)], ia (pA 2) (pK 2) 7 (fun i => nI ((pg 2) i)), ia (pA 5) (pK 5) 7 (fun i => nI ((pg 5) i))]) hP hD rfl hS hA [4, 5, 6, 0, 1, 2, 3] (by decide +kernel) rfl
      have hK9 := hK.sub (tys' := []) [] rfl
      refine W.widen (k := 0) (n := 0) (by exact Nat.le_of_ble_eq_true rfl) (by exact Nat.le_of_ble_eq_true rfl) ?_
      exact W.iret (v := (nI (i + 1))) hx hb hr (fun t9 ht9 hW => ⟨⟨nI (i + 1), (), rfl, by rw [← hkn, knP, if_pos (by rw [← hq9, ← hb9]; omega)], by rw [ht9]; exact hP9, va_K.moved hW.alike hK9, hD9⟩, hS.F ht9⟩) hS.2.2 d_KnowledgeWalk_knownPlace_56
  · intro H locs ls hI
    obtain ⟨hkn, -, hP, hS, hl⟩ := hI
    refine lv_iload hx hb d_KnowledgeWalk_knownPlace_33 (lv_at hl 0 rfl) ?_
    refine lv_if_le (tgt := 63) hx hb d_KnowledgeWalk_knownPlace_35 (by decide) (fun c9 => ?_) (fun c9 => absurd (nI_le (Nat.le_refl 0) (by decide)) c9)
    refine tp_pc (pc' := 63) (by rfl) ?_
    refine lv_iconst (v := 0) hx hb d_KnowledgeWalk_knownPlace_63 (by decide) ?_
    obtain ⟨hP9, hD9, -⟩ := cut3 (wc := [oc ka 5 [.ref pa, .ref ga, .ref sa, .ref b1, .ref q1, .ref q2, .ref q3, .ref q4, .ref fa], ia q1 n1 4 (fun i => nI (rw i)), ia q2 n2 4 (fun i => nI (zs i)), ia q3 n3 4 (fun i => nI (le i)), oc pa 0 [.ref (pA 0), .ref (pA 1), .ref (pA 2), .ref (pA 3), .ref (pA 4), .ref (pA 5), .ref (pA 6), .ref (pA 7), .ref (pA 8), .ref (pA 9), .ref (pA 10), .int (nI T), .int (nI Ac)], ia (pA 2) (pK 2) 7 (fun i => nI ((pg 2) i)), ia (pA 5) (pK 5) 7 (fun i => nI ((pg 5) i))]) hP hD rfl hS hA [0, 1, 2, 3, 4, 5, 6] (by decide +kernel) rfl
    have hK9 := hK.sub (tys' := []) [] rfl
    refine W.widen (k := 0) (n := 0) (by exact Nat.le_of_ble_eq_true rfl) (by exact Nat.le_of_ble_eq_true rfl) ?_
    exact W.iret (v := 0) hx hb hr (fun t9 ht9 hW => ⟨⟨0, (), rfl, by rw [← hkn]; rfl, by rw [ht9]; exact hP9, va_K.moved hW.alike hK9, hD9⟩, hS.F ht9⟩) hS.2.2 d_KnowledgeWalk_knownPlace_64
