set_option maxHeartbeats 4000000 in
set_option maxRecDepth 100000 in
theorem gen_BufferWalk_keepWritten_3 (l : Launch) (dC : Nat → ClassId) (dI : Nat → Nat → Nat) (pa : Nat) (pA : Nat → Nat) (pK : Nat → ClassId) (T Ac : Nat) (pg : Nat → Nat → Nat) (nm : Nat → Int32) (ba ga sa b1 b2 fa : Nat) (md mm hd : Nat) (a : Nat) (ha : a < 7) (hk : pg 4 a = 3) (hm : mm < 512) (hh : hd < 128) (hmd : md < 4) (hx3 : pg 5 a < 3) (sz : Nat) : Met l y_BufferWalk_keepWritten w_BufferWalk_keepWritten ({ frames := 1, cells := 0, slots := 0, locals := 30 }) (va_Pc [.ref ba, .int (nI a)] (fun U => U.heap.size = sz ∧ va_P (dC, dI) classes [oc ba 4 [.ref pa, .ref ga, .ref sa, .ref b1, .ref b2, .ref fa, .int (nI md), .int (nI mm), .int (nI hd)], oc pa 0 [.ref (pA 0), .ref (pA 1), .ref (pA 2), .ref (pA 3), .ref (pA 4), .ref (pA 5), .ref (pA 6), .ref (pA 7), .ref (pA 8), .ref (pA 9), .ref (pA 10), .int (nI T), .int (nI Ac)], ia (pA 4) (pK 4) 7 (fun i => nI ((pg 4) i)), ia (pA 5) (pK 5) 7 (fun i => nI ((pg 5) i))] U.heap ∧ va_K (dC, dI) classes [((pK 4), .int), ((pK 5), .int)] U ∧ va_D (fun _ => True) [oc ba 4 [.ref pa, .ref ga, .ref sa, .ref b1, .ref b2, .ref fa, .int (nI md), .int (nI mm), .int (nI hd)], oc pa 0 [.ref (pA 0), .ref (pA 1), .ref (pA 2), .ref (pA 3), .ref (pA 4), .ref (pA 5), .ref (pA 6), .ref (pA 7), .ref (pA 8), .ref (pA 9), .ref (pA 10), .int (nI T), .int (nI Ac)], ia (pA 4) (pK 4) 7 (fun i => nI ((pg 4) i)), ia (pA 5) (pK 5) 7 (fun i => nI ((pg 5) i))] ∧ nw U)) (va_Qv (fun _ : Unit => True) (fun _ t9 => va_P (dC, dI) classes [oc ba 4 [.ref pa, .ref ga, .ref sa, .ref b1, .ref b2, .ref fa, .int (nI md), .int (nI (putM mm (pg 5 a) a)), .int (nI hd)], oc pa 0 [.ref (pA 0), .ref (pA 1), .ref (pA 2), .ref (pA 3), .ref (pA 4), .ref (pA 5), .ref (pA 6), .ref (pA 7), .ref (pA 8), .ref (pA 9), .ref (pA 10), .int (nI T), .int (nI Ac)], ia (pA 4) (pK 4) 7 (fun i => nI ((pg 4) i)), ia (pA 5) (pK 5) 7 (fun i => nI ((pg 5) i))] t9.heap ∧ va_K (dC, dI) classes [] t9 ∧ va_D (va_A [oc ba 4 [.ref pa, .ref ga, .ref sa, .ref b1, .ref b2, .ref fa, .int (nI md), .int (nI mm), .int (nI hd)], oc pa 0 [.ref (pA 0), .ref (pA 1), .ref (pA 2), .ref (pA 3), .ref (pA 4), .ref (pA 5), .ref (pA 6), .ref (pA 7), .ref (pA 8), .ref (pA 9), .ref (pA 10), .int (nI T), .int (nI Ac)], ia (pA 4) (pK 4) 7 (fun i => nI ((pg 4) i)), ia (pA 5) (pK 5) 7 (fun i => nI ((pg 5) i))] sz) [oc ba 4 [.ref pa, .ref ga, .ref sa, .ref b1, .ref b2, .ref fa, .int (nI md), .int (nI (putM mm (pg 5 a) a)), .int (nI hd)], oc pa 0 [.ref (pA 0), .ref (pA 1), .ref (pA 2), .ref (pA 3), .ref (pA 4), .ref (pA 5), .ref (pA 6), .ref (pA 7), .ref (pA 8), .ref (pA 9), .ref (pA 10), .int (nI T), .int (nI Ac)], ia (pA 4) (pK 4) 7 (fun i => nI ((pg 4) i)), ia (pA 5) (pK 5) 7 (fun i => nI ((pg 5) i))]) (va_A [oc ba 4 [.ref pa, .ref ga, .ref sa, .ref b1, .ref b2, .ref fa, .int (nI md), .int (nI mm), .int (nI hd)], oc pa 0 [.ref (pA 0), .ref (pA 1), .ref (pA 2), .ref (pA 3), .ref (pA 4), .ref (pA 5), .ref (pA 6), .ref (pA 7), .ref (pA 8), .ref (pA 9), .ref (pA 10), .int (nI T), .int (nI Ac)], ia (pA 4) (pK 4) 7 (fun i => nI ((pg 4) i)), ia (pA 5) (pK 5) 7 (fun i => nI ((pg 5) i))] sz)) 0 0 (va_A [oc ba 4 [.ref pa, .ref ga, .ref sa, .ref b1, .ref b2, .ref fa, .int (nI md), .int (nI mm), .int (nI hd)], oc pa 0 [.ref (pA 0), .ref (pA 1), .ref (pA 2), .ref (pA 3), .ref (pA 4), .ref (pA 5), .ref (pA 6), .ref (pA 7), .ref (pA 8), .ref (pA 9), .ref (pA 10), .int (nI T), .int (nI Ac)], ia (pA 4) (pK 4) 7 (fun i => nI ((pg 4) i)), ia (pA 5) (pK 5) 7 (fun i => nI ((pg 5) i))] sz) := by
  refine Met.ofW (cc := b_BufferWalk_keepWritten) (maxL := 3) (ret := none) (by decide) rfl ?_
  intro p e0 s m args below meth c s₁ B hml hv
  obtain ⟨rfl, hsz, hP, hK, hD0, hn⟩ := hv
  have hx := B.exec
  have hb := B.bytes
  have hr := B.returns
  have hw := fun w (h : w ∈ wt) => atoms_spec (ws := w_BufferWalk_keepWritten) B.pre w (List.mem_cons_of_mem _ h)
  have hown : s.vm.findClass R_BufferWalk = some m.cls := findClass_of_methodNamed B.named
  have hlocks := B.notSynchronized
  subst hsz
  have hD1 := hD0.self (sz := s.heap.size)
  generalize hAe : va_A [oc ba 4 [.ref pa, .ref ga, .ref sa, .ref b1, .ref b2, .ref fa, .int (nI md), .int (nI mm), .int (nI hd)], oc pa 0 [.ref (pA 0), .ref (pA 1), .ref (pA 2), .ref (pA 3), .ref (pA 4), .ref (pA 5), .ref (pA 6), .ref (pA 7), .ref (pA 8), .ref (pA 9), .ref (pA 10), .int (nI T), .int (nI Ac)], ia (pA 4) (pK 4) 7 (fun i => nI ((pg 4) i)), ia (pA 5) (pK 5) 7 (fun i => nI ((pg 5) i))] s.heap.size = A at hD1 ⊢
  have hA : ∀ q : Nat, s.heap.size ≤ q → A q := fun q h => by rw [← hAe]; exact Or.inr h
  have hD : dd A [ba, pa, (pA 4), (pA 5)] := dd_of hD1 rfl
  clear hAe hD0 hD1
  have hS : va_S A s.heap s.heap [] := va_S.rf
  replace hP : va_P (dC, dI) classes [oc ba 4 [.ref pa, .ref ga, .ref sa, .ref b1, .ref b2, .ref fa, .int (nI md), .int (nI mm), .int (nI hd)], oc pa 0 [.ref (pA 0), .ref (pA 1), .ref (pA 2), .ref (pA 3), .ref (pA 4), .ref (pA 5), .ref (pA 6), .ref (pA 7), .ref (pA 8), .ref (pA 9), .ref (pA 10), .int (nI T), .int (nI Ac)], ia (pA 4) (pK 4) 7 (fun i => nI ((pg 4) i)), ia (pA 5) (pK 5) 7 (fun i => nI ((pg 5) i))] s.heap := hP
  have hl := lv_entry ([.ref ba, .int (nI a)]) (n := 3) (Nat.le_of_ble_eq_true rfl)
  rw [lg_entry_eq]
  generalize (lg_sl ([.ref ba, .int (nI a)]) ++ List.replicate (3 - (lg_sl ([.ref ba, .int (nI a)])).length) Slot.unset).toArray = ls at hl ⊢
  replace hl : lv_has ls 3 [(0, .ref ba), (1, .int (nI a))] := hl
  refine lv_aload_n hx hb d_BufferWalk_keepWritten_0 rfl (lv_at hl 0 rfl) ?_
  refine va_get (D := (dC, dI)) (ci := 4) (v := .ref pa) (C := R_BufferWalk) (T := F_BufferWalk) (N := 9) hx hb hw i_BufferWalk hown hK hP 0 rfl rfl 0 (by decide) (hw _ m_250) (fun _ h9 => h9) rfl d_BufferWalk_keepWritten_1 ?_
  refine va_get (D := (dC, dI)) (ci := 0) (v := .ref (pA 4)) (C := R_Program) (T := F_Program) (N := 13) hx hb hw i_Program hown hK hP 1 rfl rfl 4 (by decide) (hw _ m_141) (fun _ h9 => h9) rfl d_BufferWalk_keepWritten_4 ?_
  refine lv_iload_n hx hb d_BufferWalk_keepWritten_7 rfl (lv_at hl 1 rfl) ?_
  refine va_iald (D := (dC, dI)) hx hb hK hP 2 0 rfl rfl (i := nI a) (pk_in a 7 (by omega)) d_BufferWalk_keepWritten_8 ?_
  refine tp_i (y := nI ((pg 4) a)) (by rw [show (nI a : Int32).toNatClampNeg = a from pk_cl a]) ?_
  refine tp_i (y := 3) (by rw [hk]; rfl) ?_
  refine lv_istore_n (lv' := [(2, .int 3), (0, .ref ba), (1, .int (nI a))]) hx hb d_BufferWalk_keepWritten_9 rfl hl (by decide) rfl ?_
  clear hl ls
  intro ls hl
  refine lv_iload_n hx hb d_BufferWalk_keepWritten_10 rfl (lv_at hl 0 rfl) ?_
  refine lv_iconst (v := 3) hx hb d_BufferWalk_keepWritten_11 (by decide) ?_
  refine lv_icmp_eq (tgt := 32) hx hb d_BufferWalk_keepWritten_12 (by decide) (fun c_1 => ?_) (fun c_1 => absurd c_1 (by decide))
  refine tp_pc (pc' := 32) (by rfl) ?_
  refine lv_aload_n hx hb d_BufferWalk_keepWritten_32 rfl (lv_at hl 1 rfl) ?_
  refine lv_iload_n hx hb d_BufferWalk_keepWritten_33 rfl (lv_at hl 2 rfl) ?_
  obtain ⟨hPc, hDc, hFc⟩ := cut3 (wc := [oc ba 4 [.ref pa, .ref ga, .ref sa, .ref b1, .ref b2, .ref fa, .int (nI md), .int (nI mm), .int (nI hd)], oc pa 0 [.ref (pA 0), .ref (pA 1), .ref (pA 2), .ref (pA 3), .ref (pA 4), .ref (pA 5), .ref (pA 6), .ref (pA 7), .ref (pA 8), .ref (pA 9), .ref (pA 10), .int (nI T), .int (nI Ac)], ia (pA 5) (pK 5) 7 (fun i => nI ((pg 5) i))]) hP hD rfl hS hA [0, 1, 3] (by decide +kernel) rfl
  have hKc := hK.sub (tys' := [((pK 5), .int)]) [1] rfl
  refine va_callv (va_runV (As := [.int (nI a)]) (rest := []) ⟨hx, hb, hml, hown, hw⟩ (gen_BufferWalk_putIntoMemory l dC dI pa pA pK T Ac pg nm ba ga sa b1 b2 fa md mm hd a hm ha hx3 s.heap.size) (cw_V 1 hw g_BufferWalk_putIntoMemory rfl rfl rfl (hw _ m_105) (hw _ m_694) (hw _ m_696) (hw _ m_27) (by decide +kernel) ⟨Nat.le_of_ble_eq_true rfl, Nat.le_of_ble_eq_true rfl⟩) ⟨fun a U g mk q => by obtain ⟨q0, q1, qP, qK, qD, qN⟩ := q; exact ⟨q0, q1, qP, va_K.moved (u := U) (U := U.calling g mk a) (Vm.Alike.refl U.vm) qK, qD, nw_call qN⟩, va_recv hKc hPc (ci := 4) (q0 := 0) rfl rfl, fun U hU hW => ⟨rfl, by rw [hU], by rw [hU]; exact hPc, va_K.moved hW.alike hKc, hDc.weaken (fun _ _ _ _ => trivial), nw_warm hW hn⟩⟩ rfl rfl hl.1 rfl (lv_room (Nat.le_of_ble_eq_true rfl)) d_BufferWalk_keepWritten_34 ⟨Nat.le_of_ble_eq_true rfl, Nat.le_of_ble_eq_true rfl⟩) hS (fun q _ h => hFc q h) hFc ?_
  intro u t9 H1 locs1 ht9 hvm hw1 hB hz1 hk1 hS1
  obtain ⟨hP1, hK1, hD1⟩ := hB
  rw [ht9] at hP1
  replace hK1 := va_K.moved hvm.symm hK1
  have hPD := join3 hP hD rfl [0, 1, 3] [2] rfl (by rfl) (by decide +kernel) (by decide +kernel) hk1 hFc hP1 hD1
  replace hK : va_K (dC, dI) classes [((pK 4), .int), ((pK 5), .int)] s := hK.app hK1
  clear hP1 hK1 hD1 hk1 hz1 hFc hKc hDc hPc hvm ht9 hP hS t9
  have hP : va_P (dC, dI) classes [ia (pA 4) (pK 4) 7 (fun i => nI ((pg 4) i)), oc ba 4 [.ref pa, .ref ga, .ref sa, .ref b1, .ref b2, .ref fa, .int (nI md), .int (nI (putM mm (pg 5 a) a)), .int (nI hd)], oc pa 0 [.ref (pA 0), .ref (pA 1), .ref (pA 2), .ref (pA 3), .ref (pA 4), .ref (pA 5), .ref (pA 6), .ref (pA 7), .ref (pA 8), .ref (pA 9), .ref (pA 10), .int (nI T), .int (nI Ac)], ia (pA 5) (pK 5) 7 (fun i => nI ((pg 5) i))] H1 := hPD.1
  replace hD : dd A [(pA 4), ba, pa, (pA 5)] := dd_of hPD.2 rfl
  clear hPD
  revert H1 locs1
  intro H locs hS hP
  clear hw1 u
  refine tp_pc (pc' := 37) (by rfl) ?_
  refine lv_goto (tgt := 62) hx hb d_BufferWalk_keepWritten_37 (by decide) ?_
  refine tp_pc (pc' := 62) (by rfl) ?_
  obtain ⟨hP9, hD9, -⟩ := cut3 (wc := [oc ba 4 [.ref pa, .ref ga, .ref sa, .ref b1, .ref b2, .ref fa, .int (nI md), .int (nI (putM mm (pg 5 a) a)), .int (nI hd)], oc pa 0 [.ref (pA 0), .ref (pA 1), .ref (pA 2), .ref (pA 3), .ref (pA 4), .ref (pA 5), .ref (pA 6), .ref (pA 7), .ref (pA 8), .ref (pA 9), .ref (pA 10), .int (nI T), .int (nI Ac)], ia (pA 4) (pK 4) 7 (fun i => nI ((pg 4) i)), ia (pA 5) (pK 5) 7 (fun i => nI ((pg 5) i))]) hP hD rfl hS hA [1, 2, 0, 3] (by decide +kernel) rfl
  have hK9 := hK.sub (tys' := []) [] rfl
  refine W.widen (k := 0) (n := 0) (by exact Nat.le_of_ble_eq_true rfl) (by exact Nat.le_of_ble_eq_true rfl) ?_
  exact W.vret hx hb hr (fun t9 ht9 hW => ⟨⟨(), rfl, trivial, by rw [ht9]; exact hP9, va_K.moved hW.alike hK9, hD9⟩, hS.F ht9⟩) hS.2.2 d_BufferWalk_keepWritten_62
set_option maxHeartbeats 4000000 in
set_option maxRecDepth 100000 in
theorem gen_BufferWalk_keepWritten_0 (l : Launch) (dC : Nat → ClassId) (dI : Nat → Nat → Nat) (pa : Nat) (pA : Nat → Nat) (pK : Nat → ClassId) (T Ac : Nat) (pg : Nat → Nat → Nat) (nm : Nat → Int32) (ba ga sa b1 b2 fa : Nat) (md mm hd : Nat) (a : Nat) (ha : a < 7) (hk : pg 4 a = 0) (hm : mm < 512) (hh : hd < 128) (hmd : md < 4) (sz : Nat) : Met l y_BufferWalk_keepWritten w_BufferWalk_keepWritten ({ frames := 1, cells := 0, slots := 0, locals := 30 }) (va_Pc [.ref ba, .int (nI a)] (fun U => U.heap.size = sz ∧ va_P (dC, dI) classes [oc ba 4 [.ref pa, .ref ga, .ref sa, .ref b1, .ref b2, .ref fa, .int (nI md), .int (nI mm), .int (nI hd)], oc pa 0 [.ref (pA 0), .ref (pA 1), .ref (pA 2), .ref (pA 3), .ref (pA 4), .ref (pA 5), .ref (pA 6), .ref (pA 7), .ref (pA 8), .ref (pA 9), .ref (pA 10), .int (nI T), .int (nI Ac)], ia (pA 4) (pK 4) 7 (fun i => nI ((pg 4) i)), ia (pA 5) (pK 5) 7 (fun i => nI ((pg 5) i))] U.heap ∧ va_K (dC, dI) classes [((pK 4), .int), ((pK 5), .int)] U ∧ va_D (fun _ => True) [oc ba 4 [.ref pa, .ref ga, .ref sa, .ref b1, .ref b2, .ref fa, .int (nI md), .int (nI mm), .int (nI hd)], oc pa 0 [.ref (pA 0), .ref (pA 1), .ref (pA 2), .ref (pA 3), .ref (pA 4), .ref (pA 5), .ref (pA 6), .ref (pA 7), .ref (pA 8), .ref (pA 9), .ref (pA 10), .int (nI T), .int (nI Ac)], ia (pA 4) (pK 4) 7 (fun i => nI ((pg 4) i)), ia (pA 5) (pK 5) 7 (fun i => nI ((pg 5) i))] ∧ nw U)) (va_Qv (fun _ : Unit => True) (fun _ t9 => va_P (dC, dI) classes [oc ba 4 [.ref pa, .ref ga, .ref sa, .ref b1, .ref b2, .ref fa, .int (nI md), .int (nI mm), .int (nI hd)], oc pa 0 [.ref (pA 0), .ref (pA 1), .ref (pA 2), .ref (pA 3), .ref (pA 4), .ref (pA 5), .ref (pA 6), .ref (pA 7), .ref (pA 8), .ref (pA 9), .ref (pA 10), .int (nI T), .int (nI Ac)], ia (pA 4) (pK 4) 7 (fun i => nI ((pg 4) i)), ia (pA 5) (pK 5) 7 (fun i => nI ((pg 5) i))] t9.heap ∧ va_K (dC, dI) classes [] t9 ∧ va_D (va_A [oc ba 4 [.ref pa, .ref ga, .ref sa, .ref b1, .ref b2, .ref fa, .int (nI md), .int (nI mm), .int (nI hd)], oc pa 0 [.ref (pA 0), .ref (pA 1), .ref (pA 2), .ref (pA 3), .ref (pA 4), .ref (pA 5), .ref (pA 6), .ref (pA 7), .ref (pA 8), .ref (pA 9), .ref (pA 10), .int (nI T), .int (nI Ac)], ia (pA 4) (pK 4) 7 (fun i => nI ((pg 4) i)), ia (pA 5) (pK 5) 7 (fun i => nI ((pg 5) i))] sz) [oc ba 4 [.ref pa, .ref ga, .ref sa, .ref b1, .ref b2, .ref fa, .int (nI md), .int (nI mm), .int (nI hd)], oc pa 0 [.ref (pA 0), .ref (pA 1), .ref (pA 2), .ref (pA 3), .ref (pA 4), .ref (pA 5), .ref (pA 6), .ref (pA 7), .ref (pA 8), .ref (pA 9), .ref (pA 10), .int (nI T), .int (nI Ac)], ia (pA 4) (pK 4) 7 (fun i => nI ((pg 4) i)), ia (pA 5) (pK 5) 7 (fun i => nI ((pg 5) i))]) (va_A [oc ba 4 [.ref pa, .ref ga, .ref sa, .ref b1, .ref b2, .ref fa, .int (nI md), .int (nI mm), .int (nI hd)], oc pa 0 [.ref (pA 0), .ref (pA 1), .ref (pA 2), .ref (pA 3), .ref (pA 4), .ref (pA 5), .ref (pA 6), .ref (pA 7), .ref (pA 8), .ref (pA 9), .ref (pA 10), .int (nI T), .int (nI Ac)], ia (pA 4) (pK 4) 7 (fun i => nI ((pg 4) i)), ia (pA 5) (pK 5) 7 (fun i => nI ((pg 5) i))] sz)) 0 0 (va_A [oc ba 4 [.ref pa, .ref ga, .ref sa, .ref b1, .ref b2, .ref fa, .int (nI md), .int (nI mm), .int (nI hd)], oc pa 0 [.ref (pA 0), .ref (pA 1), .ref (pA 2), .ref (pA 3), .ref (pA 4), .ref (pA 5), .ref (pA 6), .ref (pA 7), .ref (pA 8), .ref (pA 9), .ref (pA 10), .int (nI T), .int (nI Ac)], ia (pA 4) (pK 4) 7 (fun i => nI ((pg 4) i)), ia (pA 5) (pK 5) 7 (fun i => nI ((pg 5) i))] sz) := by
  refine Met.ofW (cc := b_BufferWalk_keepWritten) (maxL := 3) (ret := none) (by decide) rfl ?_
  intro p e0 s m args below meth c s₁ B hml hv
  obtain ⟨rfl, hsz, hP, hK, hD0, hn⟩ := hv
  have hx := B.exec
  have hb := B.bytes
  have hr := B.returns
  have hw := fun w (h : w ∈ wt) => atoms_spec (ws := w_BufferWalk_keepWritten) B.pre w (List.mem_cons_of_mem _ h)
  have hown : s.vm.findClass R_BufferWalk = some m.cls := findClass_of_methodNamed B.named
  have hlocks := B.notSynchronized
  subst hsz
  have hD1 := hD0.self (sz := s.heap.size)
  generalize hAe : va_A [oc ba 4 [.ref pa, .ref ga, .ref sa, .ref b1, .ref b2, .ref fa, .int (nI md), .int (nI mm), .int (nI hd)], oc pa 0 [.ref (pA 0), .ref (pA 1), .ref (pA 2), .ref (pA 3), .ref (pA 4), .ref (pA 5), .ref (pA 6), .ref (pA 7), .ref (pA 8), .ref (pA 9), .ref (pA 10), .int (nI T), .int (nI Ac)], ia (pA 4) (pK 4) 7 (fun i => nI ((pg 4) i)), ia (pA 5) (pK 5) 7 (fun i => nI ((pg 5) i))] s.heap.size = A at hD1 ⊢
  have hA : ∀ q : Nat, s.heap.size ≤ q → A q := fun q h => by rw [← hAe]; exact Or.inr h
  have hD : dd A [ba, pa, (pA 4), (pA 5)] := dd_of hD1 rfl
  clear hAe hD0 hD1
  have hS : va_S A s.heap s.heap [] := va_S.rf
  replace hP : va_P (dC, dI) classes [oc ba 4 [.ref pa, .ref ga, .ref sa, .ref b1, .ref b2, .ref fa, .int (nI md), .int (nI mm), .int (nI hd)], oc pa 0 [.ref (pA 0), .ref (pA 1), .ref (pA 2), .ref (pA 3), .ref (pA 4), .ref (pA 5), .ref (pA 6), .ref (pA 7), .ref (pA 8), .ref (pA 9), .ref (pA 10), .int (nI T), .int (nI Ac)], ia (pA 4) (pK 4) 7 (fun i => nI ((pg 4) i)), ia (pA 5) (pK 5) 7 (fun i => nI ((pg 5) i))] s.heap := hP
  have hl := lv_entry ([.ref ba, .int (nI a)]) (n := 3) (Nat.le_of_ble_eq_true rfl)
  rw [lg_entry_eq]
  generalize (lg_sl ([.ref ba, .int (nI a)]) ++ List.replicate (3 - (lg_sl ([.ref ba, .int (nI a)])).length) Slot.unset).toArray = ls at hl ⊢
  replace hl : lv_has ls 3 [(0, .ref ba), (1, .int (nI a))] := hl
  refine lv_aload_n hx hb d_BufferWalk_keepWritten_0 rfl (lv_at hl 0 rfl) ?_
  refine va_get (D := (dC, dI)) (ci := 4) (v := .ref pa) (C := R_BufferWalk) (T := F_BufferWalk) (N := 9) hx hb hw i_BufferWalk hown hK hP 0 rfl rfl 0 (by decide) (hw _ m_250) (fun _ h9 => h9) rfl d_BufferWalk_keepWritten_1 ?_
  refine va_get (D := (dC, dI)) (ci := 0) (v := .ref (pA 4)) (C := R_Program) (T := F_Program) (N := 13) hx hb hw i_Program hown hK hP 1 rfl rfl 4 (by decide) (hw _ m_141) (fun _ h9 => h9) rfl d_BufferWalk_keepWritten_4 ?_
  refine lv_iload_n hx hb d_BufferWalk_keepWritten_7 rfl (lv_at hl 1 rfl) ?_
  refine va_iald (D := (dC, dI)) hx hb hK hP 2 0 rfl rfl (i := nI a) (pk_in a 7 (by omega)) d_BufferWalk_keepWritten_8 ?_
  refine tp_i (y := nI ((pg 4) a)) (by rw [show (nI a : Int32).toNatClampNeg = a from pk_cl a]) ?_
  refine tp_i (y := 0) (by rw [hk]; rfl) ?_
  refine lv_istore_n (lv' := [(2, .int 0), (0, .ref ba), (1, .int (nI a))]) hx hb d_BufferWalk_keepWritten_9 rfl hl (by decide) rfl ?_
  clear hl ls
  intro ls hl
  refine lv_iload_n hx hb d_BufferWalk_keepWritten_10 rfl (lv_at hl 0 rfl) ?_
  refine lv_iconst (v := 3) hx hb d_BufferWalk_keepWritten_11 (by decide) ?_
  refine lv_icmp_eq (tgt := 32) hx hb d_BufferWalk_keepWritten_12 (by decide) (fun c_1 => absurd c_1 (by decide)) (fun c_1 => ?_)
  refine tp_pc (pc' := 15) (by rfl) ?_
  refine lv_aload_n hx hb d_BufferWalk_keepWritten_15 rfl (lv_at hl 1 rfl) ?_
  refine va_get (D := (dC, dI)) (ci := 4) (v := .int (nI md)) (C := R_BufferWalk) (T := F_BufferWalk) (N := 9) hx hb hw i_BufferWalk hown hK hP 0 rfl rfl 6 (by decide) (hw _ m_257) (fun _ h9 => h9) rfl d_BufferWalk_keepWritten_16 ?_
  refine lv_if_ne (tgt := 40) hx hb d_BufferWalk_keepWritten_19 (by decide) (fun c1 => ?_) (fun c1 => ?_)
  · skip
    refine tp_pc (pc' := 40) (by rfl) ?_
    refine lv_iload_n hx hb d_BufferWalk_keepWritten_40 rfl (lv_at hl 0 rfl) ?_
    refine lv_iconst (v := 1) hx hb d_BufferWalk_keepWritten_41 (by decide) ?_
    refine lv_icmp_eq (tgt := 50) hx hb d_BufferWalk_keepWritten_42 (by decide) (fun c_2 => absurd c_2 (by decide)) (fun c_2 => ?_)
    refine tp_pc (pc' := 45) (by rfl) ?_
    refine lv_iload_n hx hb d_BufferWalk_keepWritten_45 rfl (lv_at hl 0 rfl) ?_
    refine lv_iconst (v := 2) hx hb d_BufferWalk_keepWritten_46 (by decide) ?_
    refine lv_icmp_ne (tgt := 62) hx hb d_BufferWalk_keepWritten_47 (by decide) (fun c_3 => ?_) (fun c_3 => absurd c_3 (by decide))
    refine tp_pc (pc' := 62) (by rfl) ?_
    obtain ⟨hP9, hD9, -⟩ := cut3 (wc := [oc ba 4 [.ref pa, .ref ga, .ref sa, .ref b1, .ref b2, .ref fa, .int (nI md), .int (nI mm), .int (nI hd)], oc pa 0 [.ref (pA 0), .ref (pA 1), .ref (pA 2), .ref (pA 3), .ref (pA 4), .ref (pA 5), .ref (pA 6), .ref (pA 7), .ref (pA 8), .ref (pA 9), .ref (pA 10), .int (nI T), .int (nI Ac)], ia (pA 4) (pK 4) 7 (fun i => nI ((pg 4) i)), ia (pA 5) (pK 5) 7 (fun i => nI ((pg 5) i))]) hP hD rfl hS hA [0, 1, 2, 3] (by decide +kernel) rfl
    have hK9 := hK.sub (tys' := []) [] rfl
    refine W.widen (k := 0) (n := 0) (by exact Nat.le_of_ble_eq_true rfl) (by exact Nat.le_of_ble_eq_true rfl) ?_
    exact W.vret hx hb hr (fun t9 ht9 hW => ⟨⟨(), rfl, trivial, by rw [ht9]; exact hP9, va_K.moved hW.alike hK9, hD9⟩, hS.F ht9⟩) hS.2.2 d_BufferWalk_keepWritten_62
  · skip
    refine tp_pc (pc' := 22) (by rfl) ?_
    refine lv_iload_n hx hb d_BufferWalk_keepWritten_22 rfl (lv_at hl 0 rfl) ?_
    refine lv_iconst (v := 1) hx hb d_BufferWalk_keepWritten_23 (by decide) ?_
    refine lv_icmp_eq (tgt := 32) hx hb d_BufferWalk_keepWritten_24 (by decide) (fun c_4 => absurd c_4 (by decide)) (fun c_4 => ?_)
    refine tp_pc (pc' := 27) (by rfl) ?_
    refine lv_iload_n hx hb d_BufferWalk_keepWritten_27 rfl (lv_at hl 0 rfl) ?_
    refine lv_iconst (v := 2) hx hb d_BufferWalk_keepWritten_28 (by decide) ?_
    refine lv_icmp_ne (tgt := 40) hx hb d_BufferWalk_keepWritten_29 (by decide) (fun c_5 => ?_) (fun c_5 => absurd c_5 (by decide))
    refine tp_pc (pc' := 40) (by rfl) ?_
    refine lv_iload_n hx hb d_BufferWalk_keepWritten_40 rfl (lv_at hl 0 rfl) ?_
    refine lv_iconst (v := 1) hx hb d_BufferWalk_keepWritten_41 (by decide) ?_
    refine lv_icmp_eq (tgt := 50) hx hb d_BufferWalk_keepWritten_42 (by decide) (fun c_6 => absurd c_6 (by decide)) (fun c_6 => ?_)
    refine tp_pc (pc' := 45) (by rfl) ?_
    refine lv_iload_n hx hb d_BufferWalk_keepWritten_45 rfl (lv_at hl 0 rfl) ?_
    refine lv_iconst (v := 2) hx hb d_BufferWalk_keepWritten_46 (by decide) ?_
    refine lv_icmp_ne (tgt := 62) hx hb d_BufferWalk_keepWritten_47 (by decide) (fun c_7 => ?_) (fun c_7 => absurd c_7 (by decide))
    refine tp_pc (pc' := 62) (by rfl) ?_
    obtain ⟨hP9, hD9, -⟩ := cut3 (wc := [oc ba 4 [.ref pa, .ref ga, .ref sa, .ref b1, .ref b2, .ref fa, .int (nI md), .int (nI mm), .int (nI hd)], oc pa 0 [.ref (pA 0), .ref (pA 1), .ref (pA 2), .ref (pA 3), .ref (pA 4), .ref (pA 5), .ref (pA 6), .ref (pA 7), .ref (pA 8), .ref (pA 9), .ref (pA 10), .int (nI T), .int (nI Ac)], ia (pA 4) (pK 4) 7 (fun i => nI ((pg 4) i)), ia (pA 5) (pK 5) 7 (fun i => nI ((pg 5) i))]) hP hD rfl hS hA [0, 1, 2, 3] (by decide +kernel) rfl
    have hK9 := hK.sub (tys' := []) [] rfl
    refine W.widen (k := 0) (n := 0) (by exact Nat.le_of_ble_eq_true rfl) (by exact Nat.le_of_ble_eq_true rfl) ?_
    exact W.vret hx hb hr (fun t9 ht9 hW => ⟨⟨(), rfl, trivial, by rw [ht9]; exact hP9, va_K.moved hW.alike hK9, hD9⟩, hS.F ht9⟩) hS.2.2 d_BufferWalk_keepWritten_62
set_option maxHeartbeats 4000000 in
set_option maxRecDepth 100000 in
theorem gen_BufferWalk_keepWritten_4 (l : Launch) (dC : Nat → ClassId) (dI : Nat → Nat → Nat) (pa : Nat) (pA : Nat → Nat) (pK : Nat → ClassId) (T Ac : Nat) (pg : Nat → Nat → Nat) (nm : Nat → Int32) (ba ga sa b1 b2 fa : Nat) (md mm hd : Nat) (a : Nat) (ha : a < 7) (hk : pg 4 a = 4) (hm : mm < 512) (hh : hd < 128) (hmd : md < 4) (sz : Nat) : Met l y_BufferWalk_keepWritten w_BufferWalk_keepWritten ({ frames := 1, cells := 0, slots := 0, locals := 30 }) (va_Pc [.ref ba, .int (nI a)] (fun U => U.heap.size = sz ∧ va_P (dC, dI) classes [oc ba 4 [.ref pa, .ref ga, .ref sa, .ref b1, .ref b2, .ref fa, .int (nI md), .int (nI mm), .int (nI hd)], oc pa 0 [.ref (pA 0), .ref (pA 1), .ref (pA 2), .ref (pA 3), .ref (pA 4), .ref (pA 5), .ref (pA 6), .ref (pA 7), .ref (pA 8), .ref (pA 9), .ref (pA 10), .int (nI T), .int (nI Ac)], ia (pA 4) (pK 4) 7 (fun i => nI ((pg 4) i)), ia (pA 5) (pK 5) 7 (fun i => nI ((pg 5) i))] U.heap ∧ va_K (dC, dI) classes [((pK 4), .int), ((pK 5), .int)] U ∧ va_D (fun _ => True) [oc ba 4 [.ref pa, .ref ga, .ref sa, .ref b1, .ref b2, .ref fa, .int (nI md), .int (nI mm), .int (nI hd)], oc pa 0 [.ref (pA 0), .ref (pA 1), .ref (pA 2), .ref (pA 3), .ref (pA 4), .ref (pA 5), .ref (pA 6), .ref (pA 7), .ref (pA 8), .ref (pA 9), .ref (pA 10), .int (nI T), .int (nI Ac)], ia (pA 4) (pK 4) 7 (fun i => nI ((pg 4) i)), ia (pA 5) (pK 5) 7 (fun i => nI ((pg 5) i))] ∧ nw U)) (va_Qv (fun _ : Unit => True) (fun _ t9 => va_P (dC, dI) classes [oc ba 4 [.ref pa, .ref ga, .ref sa, .ref b1, .ref b2, .ref fa, .int (nI md), .int (nI mm), .int (nI hd)], oc pa 0 [.ref (pA 0), .ref (pA 1), .ref (pA 2), .ref (pA 3), .ref (pA 4), .ref (pA 5), .ref (pA 6), .ref (pA 7), .ref (pA 8), .ref (pA 9), .ref (pA 10), .int (nI T), .int (nI Ac)], ia (pA 4) (pK 4) 7 (fun i => nI ((pg 4) i)), ia (pA 5) (pK 5) 7 (fun i => nI ((pg 5) i))] t9.heap ∧ va_K (dC, dI) classes [] t9 ∧ va_D (va_A [oc ba 4 [.ref pa, .ref ga, .ref sa, .ref b1, .ref b2, .ref fa, .int (nI md), .int (nI mm), .int (nI hd)], oc pa 0 [.ref (pA 0), .ref (pA 1), .ref (pA 2), .ref (pA 3), .ref (pA 4), .ref (pA 5), .ref (pA 6), .ref (pA 7), .ref (pA 8), .ref (pA 9), .ref (pA 10), .int (nI T), .int (nI Ac)], ia (pA 4) (pK 4) 7 (fun i => nI ((pg 4) i)), ia (pA 5) (pK 5) 7 (fun i => nI ((pg 5) i))] sz) [oc ba 4 [.ref pa, .ref ga, .ref sa, .ref b1, .ref b2, .ref fa, .int (nI md), .int (nI mm), .int (nI hd)], oc pa 0 [.ref (pA 0), .ref (pA 1), .ref (pA 2), .ref (pA 3), .ref (pA 4), .ref (pA 5), .ref (pA 6), .ref (pA 7), .ref (pA 8), .ref (pA 9), .ref (pA 10), .int (nI T), .int (nI Ac)], ia (pA 4) (pK 4) 7 (fun i => nI ((pg 4) i)), ia (pA 5) (pK 5) 7 (fun i => nI ((pg 5) i))]) (va_A [oc ba 4 [.ref pa, .ref ga, .ref sa, .ref b1, .ref b2, .ref fa, .int (nI md), .int (nI mm), .int (nI hd)], oc pa 0 [.ref (pA 0), .ref (pA 1), .ref (pA 2), .ref (pA 3), .ref (pA 4), .ref (pA 5), .ref (pA 6), .ref (pA 7), .ref (pA 8), .ref (pA 9), .ref (pA 10), .int (nI T), .int (nI Ac)], ia (pA 4) (pK 4) 7 (fun i => nI ((pg 4) i)), ia (pA 5) (pK 5) 7 (fun i => nI ((pg 5) i))] sz)) 0 0 (va_A [oc ba 4 [.ref pa, .ref ga, .ref sa, .ref b1, .ref b2, .ref fa, .int (nI md), .int (nI mm), .int (nI hd)], oc pa 0 [.ref (pA 0), .ref (pA 1), .ref (pA 2), .ref (pA 3), .ref (pA 4), .ref (pA 5), .ref (pA 6), .ref (pA 7), .ref (pA 8), .ref (pA 9), .ref (pA 10), .int (nI T), .int (nI Ac)], ia (pA 4) (pK 4) 7 (fun i => nI ((pg 4) i)), ia (pA 5) (pK 5) 7 (fun i => nI ((pg 5) i))] sz) := by
  refine Met.ofW (cc := b_BufferWalk_keepWritten) (maxL := 3) (ret := none) (by decide) rfl ?_
  intro p e0 s m args below meth c s₁ B hml hv
  obtain ⟨rfl, hsz, hP, hK, hD0, hn⟩ := hv
  have hx := B.exec
  have hb := B.bytes
  have hr := B.returns
  have hw := fun w (h : w ∈ wt) => atoms_spec (ws := w_BufferWalk_keepWritten) B.pre w (List.mem_cons_of_mem _ h)
  have hown : s.vm.findClass R_BufferWalk = some m.cls := findClass_of_methodNamed B.named
  have hlocks := B.notSynchronized
  subst hsz
  have hD1 := hD0.self (sz := s.heap.size)
  generalize hAe : va_A [oc ba 4 [.ref pa, .ref ga, .ref sa, .ref b1, .ref b2, .ref fa, .int (nI md), .int (nI mm), .int (nI hd)], oc pa 0 [.ref (pA 0), .ref (pA 1), .ref (pA 2), .ref (pA 3), .ref (pA 4), .ref (pA 5), .ref (pA 6), .ref (pA 7), .ref (pA 8), .ref (pA 9), .ref (pA 10), .int (nI T), .int (nI Ac)], ia (pA 4) (pK 4) 7 (fun i => nI ((pg 4) i)), ia (pA 5) (pK 5) 7 (fun i => nI ((pg 5) i))] s.heap.size = A at hD1 ⊢
  have hA : ∀ q : Nat, s.heap.size ≤ q → A q := fun q h => by rw [← hAe]; exact Or.inr h
  have hD : dd A [ba, pa, (pA 4), (pA 5)] := dd_of hD1 rfl
  clear hAe hD0 hD1
  have hS : va_S A s.heap s.heap [] := va_S.rf
  replace hP : va_P (dC, dI) classes [oc ba 4 [.ref pa, .ref ga, .ref sa, .ref b1, .ref b2, .ref fa, .int (nI md), .int (nI mm), .int (nI hd)], oc pa 0 [.ref (pA 0), .ref (pA 1), .ref (pA 2), .ref (pA 3), .ref (pA 4), .ref (pA 5), .ref (pA 6), .ref (pA 7), .ref (pA 8), .ref (pA 9), .ref (pA 10), .int (nI T), .int (nI Ac)], ia (pA 4) (pK 4) 7 (fun i => nI ((pg 4) i)), ia (pA 5) (pK 5) 7 (fun i => nI ((pg 5) i))] s.heap := hP
  have hl := lv_entry ([.ref ba, .int (nI a)]) (n := 3) (Nat.le_of_ble_eq_true rfl)
  rw [lg_entry_eq]
  generalize (lg_sl ([.ref ba, .int (nI a)]) ++ List.replicate (3 - (lg_sl ([.ref ba, .int (nI a)])).length) Slot.unset).toArray = ls at hl ⊢
  replace hl : lv_has ls 3 [(0, .ref ba), (1, .int (nI a))] := hl
  refine lv_aload_n hx hb d_BufferWalk_keepWritten_0 rfl (lv_at hl 0 rfl) ?_
  refine va_get (D := (dC, dI)) (ci := 4) (v := .ref pa) (C := R_BufferWalk) (T := F_BufferWalk) (N := 9) hx hb hw i_BufferWalk hown hK hP 0 rfl rfl 0 (by decide) (hw _ m_250) (fun _ h9 => h9) rfl d_BufferWalk_keepWritten_1 ?_
  refine va_get (D := (dC, dI)) (ci := 0) (v := .ref (pA 4)) (C := R_Program) (T := F_Program) (N := 13) hx hb hw i_Program hown hK hP 1 rfl rfl 4 (by decide) (hw _ m_141) (fun _ h9 => h9) rfl d_BufferWalk_keepWritten_4 ?_
  refine lv_iload_n hx hb d_BufferWalk_keepWritten_7 rfl (lv_at hl 1 rfl) ?_
  refine va_iald (D := (dC, dI)) hx hb hK hP 2 0 rfl rfl (i := nI a) (pk_in a 7 (by omega)) d_BufferWalk_keepWritten_8 ?_
  refine tp_i (y := nI ((pg 4) a)) (by rw [show (nI a : Int32).toNatClampNeg = a from pk_cl a]) ?_
  refine tp_i (y := 4) (by rw [hk]; rfl) ?_
  refine lv_istore_n (lv' := [(2, .int 4), (0, .ref ba), (1, .int (nI a))]) hx hb d_BufferWalk_keepWritten_9 rfl hl (by decide) rfl ?_
  clear hl ls
  intro ls hl
  refine lv_iload_n hx hb d_BufferWalk_keepWritten_10 rfl (lv_at hl 0 rfl) ?_
  refine lv_iconst (v := 3) hx hb d_BufferWalk_keepWritten_11 (by decide) ?_
  refine lv_icmp_eq (tgt := 32) hx hb d_BufferWalk_keepWritten_12 (by decide) (fun c_1 => absurd c_1 (by decide)) (fun c_1 => ?_)
  refine tp_pc (pc' := 15) (by rfl) ?_
  refine lv_aload_n hx hb d_BufferWalk_keepWritten_15 rfl (lv_at hl 1 rfl) ?_
  refine va_get (D := (dC, dI)) (ci := 4) (v := .int (nI md)) (C := R_BufferWalk) (T := F_BufferWalk) (N := 9) hx hb hw i_BufferWalk hown hK hP 0 rfl rfl 6 (by decide) (hw _ m_257) (fun _ h9 => h9) rfl d_BufferWalk_keepWritten_16 ?_
  refine lv_if_ne (tgt := 40) hx hb d_BufferWalk_keepWritten_19 (by decide) (fun c1 => ?_) (fun c1 => ?_)
  · skip
    refine tp_pc (pc' := 40) (by rfl) ?_
    refine lv_iload_n hx hb d_BufferWalk_keepWritten_40 rfl (lv_at hl 0 rfl) ?_
    refine lv_iconst (v := 1) hx hb d_BufferWalk_keepWritten_41 (by decide) ?_
    refine lv_icmp_eq (tgt := 50) hx hb d_BufferWalk_keepWritten_42 (by decide) (fun c_2 => absurd c_2 (by decide)) (fun c_2 => ?_)
    refine tp_pc (pc' := 45) (by rfl) ?_
    refine lv_iload_n hx hb d_BufferWalk_keepWritten_45 rfl (lv_at hl 0 rfl) ?_
    refine lv_iconst (v := 2) hx hb d_BufferWalk_keepWritten_46 (by decide) ?_
    refine lv_icmp_ne (tgt := 62) hx hb d_BufferWalk_keepWritten_47 (by decide) (fun c_3 => ?_) (fun c_3 => absurd c_3 (by decide))
    refine tp_pc (pc' := 62) (by rfl) ?_
    obtain ⟨hP9, hD9, -⟩ := cut3 (wc := [oc ba 4 [.ref pa, .ref ga, .ref sa, .ref b1, .ref b2, .ref fa, .int (nI md), .int (nI mm), .int (nI hd)], oc pa 0 [.ref (pA 0), .ref (pA 1), .ref (pA 2), .ref (pA 3), .ref (pA 4), .ref (pA 5), .ref (pA 6), .ref (pA 7), .ref (pA 8), .ref (pA 9), .ref (pA 10), .int (nI T), .int (nI Ac)], ia (pA 4) (pK 4) 7 (fun i => nI ((pg 4) i)), ia (pA 5) (pK 5) 7 (fun i => nI ((pg 5) i))]) hP hD rfl hS hA [0, 1, 2, 3] (by decide +kernel) rfl
    have hK9 := hK.sub (tys' := []) [] rfl
    refine W.widen (k := 0) (n := 0) (by exact Nat.le_of_ble_eq_true rfl) (by exact Nat.le_of_ble_eq_true rfl) ?_
    exact W.vret hx hb hr (fun t9 ht9 hW => ⟨⟨(), rfl, trivial, by rw [ht9]; exact hP9, va_K.moved hW.alike hK9, hD9⟩, hS.F ht9⟩) hS.2.2 d_BufferWalk_keepWritten_62
  · skip
    refine tp_pc (pc' := 22) (by rfl) ?_
    refine lv_iload_n hx hb d_BufferWalk_keepWritten_22 rfl (lv_at hl 0 rfl) ?_
    refine lv_iconst (v := 1) hx hb d_BufferWalk_keepWritten_23 (by decide) ?_
    refine lv_icmp_eq (tgt := 32) hx hb d_BufferWalk_keepWritten_24 (by decide) (fun c_4 => absurd c_4 (by decide)) (fun c_4 => ?_)
    refine tp_pc (pc' := 27) (by rfl) ?_
    refine lv_iload_n hx hb d_BufferWalk_keepWritten_27 rfl (lv_at hl 0 rfl) ?_
    refine lv_iconst (v := 2) hx hb d_BufferWalk_keepWritten_28 (by decide) ?_
    refine lv_icmp_ne (tgt := 40) hx hb d_BufferWalk_keepWritten_29 (by decide) (fun c_5 => ?_) (fun c_5 => absurd c_5 (by decide))
    refine tp_pc (pc' := 40) (by rfl) ?_
    refine lv_iload_n hx hb d_BufferWalk_keepWritten_40 rfl (lv_at hl 0 rfl) ?_
    refine lv_iconst (v := 1) hx hb d_BufferWalk_keepWritten_41 (by decide) ?_
    refine lv_icmp_eq (tgt := 50) hx hb d_BufferWalk_keepWritten_42 (by decide) (fun c_6 => absurd c_6 (by decide)) (fun c_6 => ?_)
    refine tp_pc (pc' := 45) (by rfl) ?_
    refine lv_iload_n hx hb d_BufferWalk_keepWritten_45 rfl (lv_at hl 0 rfl) ?_
    refine lv_iconst (v := 2) hx hb d_BufferWalk_keepWritten_46 (by decide) ?_
    refine lv_icmp_ne (tgt := 62) hx hb d_BufferWalk_keepWritten_47 (by decide) (fun c_7 => ?_) (fun c_7 => absurd c_7 (by decide))
    refine tp_pc (pc' := 62) (by rfl) ?_
    obtain ⟨hP9, hD9, -⟩ := cut3 (wc := [oc ba 4 [.ref pa, .ref ga, .ref sa, .ref b1, .ref b2, .ref fa, .int (nI md), .int (nI mm), .int (nI hd)], oc pa 0 [.ref (pA 0), .ref (pA 1), .ref (pA 2), .ref (pA 3), .ref (pA 4), .ref (pA 5), .ref (pA 6), .ref (pA 7), .ref (pA 8), .ref (pA 9), .ref (pA 10), .int (nI T), .int (nI Ac)], ia (pA 4) (pK 4) 7 (fun i => nI ((pg 4) i)), ia (pA 5) (pK 5) 7 (fun i => nI ((pg 5) i))]) hP hD rfl hS hA [0, 1, 2, 3] (by decide +kernel) rfl
    have hK9 := hK.sub (tys' := []) [] rfl
    refine W.widen (k := 0) (n := 0) (by exact Nat.le_of_ble_eq_true rfl) (by exact Nat.le_of_ble_eq_true rfl) ?_
    exact W.vret hx hb hr (fun t9 ht9 hW => ⟨⟨(), rfl, trivial, by rw [ht9]; exact hP9, va_K.moved hW.alike hK9, hD9⟩, hS.F ht9⟩) hS.2.2 d_BufferWalk_keepWritten_62
set_option maxHeartbeats 4000000 in
set_option maxRecDepth 100000 in
theorem gen_BufferWalk_keepWritten_5 (l : Launch) (dC : Nat → ClassId) (dI : Nat → Nat → Nat) (pa : Nat) (pA : Nat → Nat) (pK : Nat → ClassId) (T Ac : Nat) (pg : Nat → Nat → Nat) (nm : Nat → Int32) (ba ga sa b1 b2 fa : Nat) (md mm hd : Nat) (a : Nat) (ha : a < 7) (hk : pg 4 a = 5) (hm : mm < 512) (hh : hd < 128) (hmd : md < 4) (sz : Nat) : Met l y_BufferWalk_keepWritten w_BufferWalk_keepWritten ({ frames := 1, cells := 0, slots := 0, locals := 30 }) (va_Pc [.ref ba, .int (nI a)] (fun U => U.heap.size = sz ∧ va_P (dC, dI) classes [oc ba 4 [.ref pa, .ref ga, .ref sa, .ref b1, .ref b2, .ref fa, .int (nI md), .int (nI mm), .int (nI hd)], oc pa 0 [.ref (pA 0), .ref (pA 1), .ref (pA 2), .ref (pA 3), .ref (pA 4), .ref (pA 5), .ref (pA 6), .ref (pA 7), .ref (pA 8), .ref (pA 9), .ref (pA 10), .int (nI T), .int (nI Ac)], ia (pA 4) (pK 4) 7 (fun i => nI ((pg 4) i)), ia (pA 5) (pK 5) 7 (fun i => nI ((pg 5) i))] U.heap ∧ va_K (dC, dI) classes [((pK 4), .int), ((pK 5), .int)] U ∧ va_D (fun _ => True) [oc ba 4 [.ref pa, .ref ga, .ref sa, .ref b1, .ref b2, .ref fa, .int (nI md), .int (nI mm), .int (nI hd)], oc pa 0 [.ref (pA 0), .ref (pA 1), .ref (pA 2), .ref (pA 3), .ref (pA 4), .ref (pA 5), .ref (pA 6), .ref (pA 7), .ref (pA 8), .ref (pA 9), .ref (pA 10), .int (nI T), .int (nI Ac)], ia (pA 4) (pK 4) 7 (fun i => nI ((pg 4) i)), ia (pA 5) (pK 5) 7 (fun i => nI ((pg 5) i))] ∧ nw U)) (va_Qv (fun _ : Unit => True) (fun _ t9 => va_P (dC, dI) classes [oc ba 4 [.ref pa, .ref ga, .ref sa, .ref b1, .ref b2, .ref fa, .int (nI md), .int (nI mm), .int (nI hd)], oc pa 0 [.ref (pA 0), .ref (pA 1), .ref (pA 2), .ref (pA 3), .ref (pA 4), .ref (pA 5), .ref (pA 6), .ref (pA 7), .ref (pA 8), .ref (pA 9), .ref (pA 10), .int (nI T), .int (nI Ac)], ia (pA 4) (pK 4) 7 (fun i => nI ((pg 4) i)), ia (pA 5) (pK 5) 7 (fun i => nI ((pg 5) i))] t9.heap ∧ va_K (dC, dI) classes [] t9 ∧ va_D (va_A [oc ba 4 [.ref pa, .ref ga, .ref sa, .ref b1, .ref b2, .ref fa, .int (nI md), .int (nI mm), .int (nI hd)], oc pa 0 [.ref (pA 0), .ref (pA 1), .ref (pA 2), .ref (pA 3), .ref (pA 4), .ref (pA 5), .ref (pA 6), .ref (pA 7), .ref (pA 8), .ref (pA 9), .ref (pA 10), .int (nI T), .int (nI Ac)], ia (pA 4) (pK 4) 7 (fun i => nI ((pg 4) i)), ia (pA 5) (pK 5) 7 (fun i => nI ((pg 5) i))] sz) [oc ba 4 [.ref pa, .ref ga, .ref sa, .ref b1, .ref b2, .ref fa, .int (nI md), .int (nI mm), .int (nI hd)], oc pa 0 [.ref (pA 0), .ref (pA 1), .ref (pA 2), .ref (pA 3), .ref (pA 4), .ref (pA 5), .ref (pA 6), .ref (pA 7), .ref (pA 8), .ref (pA 9), .ref (pA 10), .int (nI T), .int (nI Ac)], ia (pA 4) (pK 4) 7 (fun i => nI ((pg 4) i)), ia (pA 5) (pK 5) 7 (fun i => nI ((pg 5) i))]) (va_A [oc ba 4 [.ref pa, .ref ga, .ref sa, .ref b1, .ref b2, .ref fa, .int (nI md), .int (nI mm), .int (nI hd)], oc pa 0 [.ref (pA 0), .ref (pA 1), .ref (pA 2), .ref (pA 3), .ref (pA 4), .ref (pA 5), .ref (pA 6), .ref (pA 7), .ref (pA 8), .ref (pA 9), .ref (pA 10), .int (nI T), .int (nI Ac)], ia (pA 4) (pK 4) 7 (fun i => nI ((pg 4) i)), ia (pA 5) (pK 5) 7 (fun i => nI ((pg 5) i))] sz)) 0 0 (va_A [oc ba 4 [.ref pa, .ref ga, .ref sa, .ref b1, .ref b2, .ref fa, .int (nI md), .int (nI mm), .int (nI hd)], oc pa 0 [.ref (pA 0), .ref (pA 1), .ref (pA 2), .ref (pA 3), .ref (pA 4), .ref (pA 5), .ref (pA 6), .ref (pA 7), .ref (pA 8), .ref (pA 9), .ref (pA 10), .int (nI T), .int (nI Ac)], ia (pA 4) (pK 4) 7 (fun i => nI ((pg 4) i)), ia (pA 5) (pK 5) 7 (fun i => nI ((pg 5) i))] sz) := by
  refine Met.ofW (cc := b_BufferWalk_keepWritten) (maxL := 3) (ret := none) (by decide) rfl ?_
  intro p e0 s m args below meth c s₁ B hml hv
  obtain ⟨rfl, hsz, hP, hK, hD0, hn⟩ := hv
  have hx := B.exec
  have hb := B.bytes
  have hr := B.returns
  have hw := fun w (h : w ∈ wt) => atoms_spec (ws := w_BufferWalk_keepWritten) B.pre w (List.mem_cons_of_mem _ h)
  have hown : s.vm.findClass R_BufferWalk = some m.cls := findClass_of_methodNamed B.named
  have hlocks := B.notSynchronized
  subst hsz
  have hD1 := hD0.self (sz := s.heap.size)
  generalize hAe : va_A [oc ba 4 [.ref pa, .ref ga, .ref sa, .ref b1, .ref b2, .ref fa, .int (nI md), .int (nI mm), .int (nI hd)], oc pa 0 [.ref (pA 0), .ref (pA 1), .ref (pA 2), .ref (pA 3), .ref (pA 4), .ref (pA 5), .ref (pA 6), .ref (pA 7), .ref (pA 8), .ref (pA 9), .ref (pA 10), .int (nI T), .int (nI Ac)], ia (pA 4) (pK 4) 7 (fun i => nI ((pg 4) i)), ia (pA 5) (pK 5) 7 (fun i => nI ((pg 5) i))] s.heap.size = A at hD1 ⊢
  have hA : ∀ q : Nat, s.heap.size ≤ q → A q := fun q h => by rw [← hAe]; exact Or.inr h
  have hD : dd A [ba, pa, (pA 4), (pA 5)] := dd_of hD1 rfl
  clear hAe hD0 hD1
  have hS : va_S A s.heap s.heap [] := va_S.rf
  replace hP : va_P (dC, dI) classes [oc ba 4 [.ref pa, .ref ga, .ref sa, .ref b1, .ref b2, .ref fa, .int (nI md), .int (nI mm), .int (nI hd)], oc pa 0 [.ref (pA 0), .ref (pA 1), .ref (pA 2), .ref (pA 3), .ref (pA 4), .ref (pA 5), .ref (pA 6), .ref (pA 7), .ref (pA 8), .ref (pA 9), .ref (pA 10), .int (nI T), .int (nI Ac)], ia (pA 4) (pK 4) 7 (fun i => nI ((pg 4) i)), ia (pA 5) (pK 5) 7 (fun i => nI ((pg 5) i))] s.heap := hP
  have hl := lv_entry ([.ref ba, .int (nI a)]) (n := 3) (Nat.le_of_ble_eq_true rfl)
  rw [lg_entry_eq]
  generalize (lg_sl ([.ref ba, .int (nI a)]) ++ List.replicate (3 - (lg_sl ([.ref ba, .int (nI a)])).length) Slot.unset).toArray = ls at hl ⊢
  replace hl : lv_has ls 3 [(0, .ref ba), (1, .int (nI a))] := hl
  refine lv_aload_n hx hb d_BufferWalk_keepWritten_0 rfl (lv_at hl 0 rfl) ?_
  refine va_get (D := (dC, dI)) (ci := 4) (v := .ref pa) (C := R_BufferWalk) (T := F_BufferWalk) (N := 9) hx hb hw i_BufferWalk hown hK hP 0 rfl rfl 0 (by decide) (hw _ m_250) (fun _ h9 => h9) rfl d_BufferWalk_keepWritten_1 ?_
  refine va_get (D := (dC, dI)) (ci := 0) (v := .ref (pA 4)) (C := R_Program) (T := F_Program) (N := 13) hx hb hw i_Program hown hK hP 1 rfl rfl 4 (by decide) (hw _ m_141) (fun _ h9 => h9) rfl d_BufferWalk_keepWritten_4 ?_
  refine lv_iload_n hx hb d_BufferWalk_keepWritten_7 rfl (lv_at hl 1 rfl) ?_
  refine va_iald (D := (dC, dI)) hx hb hK hP 2 0 rfl rfl (i := nI a) (pk_in a 7 (by omega)) d_BufferWalk_keepWritten_8 ?_
  refine tp_i (y := nI ((pg 4) a)) (by rw [show (nI a : Int32).toNatClampNeg = a from pk_cl a]) ?_
  refine tp_i (y := 5) (by rw [hk]; rfl) ?_
  refine lv_istore_n (lv' := [(2, .int 5), (0, .ref ba), (1, .int (nI a))]) hx hb d_BufferWalk_keepWritten_9 rfl hl (by decide) rfl ?_
  clear hl ls
  intro ls hl
  refine lv_iload_n hx hb d_BufferWalk_keepWritten_10 rfl (lv_at hl 0 rfl) ?_
  refine lv_iconst (v := 3) hx hb d_BufferWalk_keepWritten_11 (by decide) ?_
  refine lv_icmp_eq (tgt := 32) hx hb d_BufferWalk_keepWritten_12 (by decide) (fun c_1 => absurd c_1 (by decide)) (fun c_1 => ?_)
  refine tp_pc (pc' := 15) (by rfl) ?_
  refine lv_aload_n hx hb d_BufferWalk_keepWritten_15 rfl (lv_at hl 1 rfl) ?_
  refine va_get (D := (dC, dI)) (ci := 4) (v := .int (nI md)) (C := R_BufferWalk) (T := F_BufferWalk) (N := 9) hx hb hw i_BufferWalk hown hK hP 0 rfl rfl 6 (by decide) (hw _ m_257) (fun _ h9 => h9) rfl d_BufferWalk_keepWritten_16 ?_
  refine lv_if_ne (tgt := 40) hx hb d_BufferWalk_keepWritten_19 (by decide) (fun c1 => ?_) (fun c1 => ?_)
  · skip
    refine tp_pc (pc' := 40) (by rfl) ?_
    refine lv_iload_n hx hb d_BufferWalk_keepWritten_40 rfl (lv_at hl 0 rfl) ?_
    refine lv_iconst (v := 1) hx hb d_BufferWalk_keepWritten_41 (by decide) ?_
    refine lv_icmp_eq (tgt := 50) hx hb d_BufferWalk_keepWritten_42 (by decide) (fun c_2 => absurd c_2 (by decide)) (fun c_2 => ?_)
    refine tp_pc (pc' := 45) (by rfl) ?_
    refine lv_iload_n hx hb d_BufferWalk_keepWritten_45 rfl (lv_at hl 0 rfl) ?_
    refine lv_iconst (v := 2) hx hb d_BufferWalk_keepWritten_46 (by decide) ?_
    refine lv_icmp_ne (tgt := 62) hx hb d_BufferWalk_keepWritten_47 (by decide) (fun c_3 => ?_) (fun c_3 => absurd c_3 (by decide))
    refine tp_pc (pc' := 62) (by rfl) ?_
    obtain ⟨hP9, hD9, -⟩ := cut3 (wc := [oc ba 4 [.ref pa, .ref ga, .ref sa, .ref b1, .ref b2, .ref fa, .int (nI md), .int (nI mm), .int (nI hd)], oc pa 0 [.ref (pA 0), .ref (pA 1), .ref (pA 2), .ref (pA 3), .ref (pA 4), .ref (pA 5), .ref (pA 6), .ref (pA 7), .ref (pA 8), .ref (pA 9), .ref (pA 10), .int (nI T), .int (nI Ac)], ia (pA 4) (pK 4) 7 (fun i => nI ((pg 4) i)), ia (pA 5) (pK 5) 7 (fun i => nI ((pg 5) i))]) hP hD rfl hS hA [0, 1, 2, 3] (by decide +kernel) rfl
    have hK9 := hK.sub (tys' := []) [] rfl
    refine W.widen (k := 0) (n := 0) (by exact Nat.le_of_ble_eq_true rfl) (by exact Nat.le_of_ble_eq_true rfl) ?_
    exact W.vret hx hb hr (fun t9 ht9 hW => ⟨⟨(), rfl, trivial, by rw [ht9]; exact hP9, va_K.moved hW.alike hK9, hD9⟩, hS.F ht9⟩) hS.2.2 d_BufferWalk_keepWritten_62
  · skip
    refine tp_pc (pc' := 22) (by rfl) ?_
    refine lv_iload_n hx hb d_BufferWalk_keepWritten_22 rfl (lv_at hl 0 rfl) ?_
    refine lv_iconst (v := 1) hx hb d_BufferWalk_keepWritten_23 (by decide) ?_
    refine lv_icmp_eq (tgt := 32) hx hb d_BufferWalk_keepWritten_24 (by decide) (fun c_4 => absurd c_4 (by decide)) (fun c_4 => ?_)
    refine tp_pc (pc' := 27) (by rfl) ?_
    refine lv_iload_n hx hb d_BufferWalk_keepWritten_27 rfl (lv_at hl 0 rfl) ?_
    refine lv_iconst (v := 2) hx hb d_BufferWalk_keepWritten_28 (by decide) ?_
    refine lv_icmp_ne (tgt := 40) hx hb d_BufferWalk_keepWritten_29 (by decide) (fun c_5 => ?_) (fun c_5 => absurd c_5 (by decide))
    refine tp_pc (pc' := 40) (by rfl) ?_
    refine lv_iload_n hx hb d_BufferWalk_keepWritten_40 rfl (lv_at hl 0 rfl) ?_
    refine lv_iconst (v := 1) hx hb d_BufferWalk_keepWritten_41 (by decide) ?_
    refine lv_icmp_eq (tgt := 50) hx hb d_BufferWalk_keepWritten_42 (by decide) (fun c_6 => absurd c_6 (by decide)) (fun c_6 => ?_)
    refine tp_pc (pc' := 45) (by rfl) ?_
    refine lv_iload_n hx hb d_BufferWalk_keepWritten_45 rfl (lv_at hl 0 rfl) ?_
    refine lv_iconst (v := 2) hx hb d_BufferWalk_keepWritten_46 (by decide) ?_
    refine lv_icmp_ne (tgt := 62) hx hb d_BufferWalk_keepWritten_47 (by decide) (fun c_7 => ?_) (fun c_7 => absurd c_7 (by decide))
    refine tp_pc (pc' := 62) (by rfl) ?_
    obtain ⟨hP9, hD9, -⟩ := cut3 (wc := [oc ba 4 [.ref pa, .ref ga, .ref sa, .ref b1, .ref b2, .ref fa, .int (nI md), .int (nI mm), .int (nI hd)], oc pa 0 [.ref (pA 0), .ref (pA 1), .ref (pA 2), .ref (pA 3), .ref (pA 4), .ref (pA 5), .ref (pA 6), .ref (pA 7), .ref (pA 8), .ref (pA 9), .ref (pA 10), .int (nI T), .int (nI Ac)], ia (pA 4) (pK 4) 7 (fun i => nI ((pg 4) i)), ia (pA 5) (pK 5) 7 (fun i => nI ((pg 5) i))]) hP hD rfl hS hA [0, 1, 2, 3] (by decide +kernel) rfl
    have hK9 := hK.sub (tys' := []) [] rfl
    refine W.widen (k := 0) (n := 0) (by exact Nat.le_of_ble_eq_true rfl) (by exact Nat.le_of_ble_eq_true rfl) ?_
    exact W.vret hx hb hr (fun t9 ht9 hW => ⟨⟨(), rfl, trivial, by rw [ht9]; exact hP9, va_K.moved hW.alike hK9, hD9⟩, hS.F ht9⟩) hS.2.2 d_BufferWalk_keepWritten_62
set_option maxHeartbeats 4000000 in
set_option maxRecDepth 100000 in
theorem gen_BufferWalk_keepWritten_1z (l : Launch) (dC : Nat → ClassId) (dI : Nat → Nat → Nat) (pa : Nat) (pA : Nat → Nat) (pK : Nat → ClassId) (T Ac : Nat) (pg : Nat → Nat → Nat) (nm : Nat → Int32) (ba ga sa b1 b2 fa : Nat) (md mm hd : Nat) (a : Nat) (ha : a < 7) (hk : pg 4 a = 1) (hm : mm < 512) (hh : hd < 128) (hmd : md < 4) (hx3 : pg 5 a < 3) (hmd0 : md = 0) (sz : Nat) : Met l y_BufferWalk_keepWritten w_BufferWalk_keepWritten ({ frames := 1, cells := 0, slots := 0, locals := 30 }) (va_Pc [.ref ba, .int (nI a)] (fun U => U.heap.size = sz ∧ va_P (dC, dI) classes [oc ba 4 [.ref pa, .ref ga, .ref sa, .ref b1, .ref b2, .ref fa, .int (nI md), .int (nI mm), .int (nI hd)], oc pa 0 [.ref (pA 0), .ref (pA 1), .ref (pA 2), .ref (pA 3), .ref (pA 4), .ref (pA 5), .ref (pA 6), .ref (pA 7), .ref (pA 8), .ref (pA 9), .ref (pA 10), .int (nI T), .int (nI Ac)], ia (pA 4) (pK 4) 7 (fun i => nI ((pg 4) i)), ia (pA 5) (pK 5) 7 (fun i => nI ((pg 5) i))] U.heap ∧ va_K (dC, dI) classes [((pK 4), .int), ((pK 5), .int)] U ∧ va_D (fun _ => True) [oc ba 4 [.ref pa, .ref ga, .ref sa, .ref b1, .ref b2, .ref fa, .int (nI md), .int (nI mm), .int (nI hd)], oc pa 0 [.ref (pA 0), .ref (pA 1), .ref (pA 2), .ref (pA 3), .ref (pA 4), .ref (pA 5), .ref (pA 6), .ref (pA 7), .ref (pA 8), .ref (pA 9), .ref (pA 10), .int (nI T), .int (nI Ac)], ia (pA 4) (pK 4) 7 (fun i => nI ((pg 4) i)), ia (pA 5) (pK 5) 7 (fun i => nI ((pg 5) i))] ∧ nw U)) (va_Qv (fun _ : Unit => True) (fun _ t9 => va_P (dC, dI) classes [oc ba 4 [.ref pa, .ref ga, .ref sa, .ref b1, .ref b2, .ref fa, .int (nI md), .int (nI (putM mm (pg 5 a) a)), .int (nI hd)], oc pa 0 [.ref (pA 0), .ref (pA 1), .ref (pA 2), .ref (pA 3), .ref (pA 4), .ref (pA 5), .ref (pA 6), .ref (pA 7), .ref (pA 8), .ref (pA 9), .ref (pA 10), .int (nI T), .int (nI Ac)], ia (pA 4) (pK 4) 7 (fun i => nI ((pg 4) i)), ia (pA 5) (pK 5) 7 (fun i => nI ((pg 5) i))] t9.heap ∧ va_K (dC, dI) classes [] t9 ∧ va_D (va_A [oc ba 4 [.ref pa, .ref ga, .ref sa, .ref b1, .ref b2, .ref fa, .int (nI md), .int (nI mm), .int (nI hd)], oc pa 0 [.ref (pA 0), .ref (pA 1), .ref (pA 2), .ref (pA 3), .ref (pA 4), .ref (pA 5), .ref (pA 6), .ref (pA 7), .ref (pA 8), .ref (pA 9), .ref (pA 10), .int (nI T), .int (nI Ac)], ia (pA 4) (pK 4) 7 (fun i => nI ((pg 4) i)), ia (pA 5) (pK 5) 7 (fun i => nI ((pg 5) i))] sz) [oc ba 4 [.ref pa, .ref ga, .ref sa, .ref b1, .ref b2, .ref fa, .int (nI md), .int (nI (putM mm (pg 5 a) a)), .int (nI hd)], oc pa 0 [.ref (pA 0), .ref (pA 1), .ref (pA 2), .ref (pA 3), .ref (pA 4), .ref (pA 5), .ref (pA 6), .ref (pA 7), .ref (pA 8), .ref (pA 9), .ref (pA 10), .int (nI T), .int (nI Ac)], ia (pA 4) (pK 4) 7 (fun i => nI ((pg 4) i)), ia (pA 5) (pK 5) 7 (fun i => nI ((pg 5) i))]) (va_A [oc ba 4 [.ref pa, .ref ga, .ref sa, .ref b1, .ref b2, .ref fa, .int (nI md), .int (nI mm), .int (nI hd)], oc pa 0 [.ref (pA 0), .ref (pA 1), .ref (pA 2), .ref (pA 3), .ref (pA 4), .ref (pA 5), .ref (pA 6), .ref (pA 7), .ref (pA 8), .ref (pA 9), .ref (pA 10), .int (nI T), .int (nI Ac)], ia (pA 4) (pK 4) 7 (fun i => nI ((pg 4) i)), ia (pA 5) (pK 5) 7 (fun i => nI ((pg 5) i))] sz)) 0 0 (va_A [oc ba 4 [.ref pa, .ref ga, .ref sa, .ref b1, .ref b2, .ref fa, .int (nI md), .int (nI mm), .int (nI hd)], oc pa 0 [.ref (pA 0), .ref (pA 1), .ref (pA 2), .ref (pA 3), .ref (pA 4), .ref (pA 5), .ref (pA 6), .ref (pA 7), .ref (pA 8), .ref (pA 9), .ref (pA 10), .int (nI T), .int (nI Ac)], ia (pA 4) (pK 4) 7 (fun i => nI ((pg 4) i)), ia (pA 5) (pK 5) 7 (fun i => nI ((pg 5) i))] sz) := by
  refine Met.ofW (cc := b_BufferWalk_keepWritten) (maxL := 3) (ret := none) (by decide) rfl ?_
  intro p e0 s m args below meth c s₁ B hml hv
  obtain ⟨rfl, hsz, hP, hK, hD0, hn⟩ := hv
  have hx := B.exec
  have hb := B.bytes
  have hr := B.returns
  have hw := fun w (h : w ∈ wt) => atoms_spec (ws := w_BufferWalk_keepWritten) B.pre w (List.mem_cons_of_mem _ h)
  have hown : s.vm.findClass R_BufferWalk = some m.cls := findClass_of_methodNamed B.named
  have hlocks := B.notSynchronized
  subst hsz
  have hD1 := hD0.self (sz := s.heap.size)
  generalize hAe : va_A [oc ba 4 [.ref pa, .ref ga, .ref sa, .ref b1, .ref b2, .ref fa, .int (nI md), .int (nI mm), .int (nI hd)], oc pa 0 [.ref (pA 0), .ref (pA 1), .ref (pA 2), .ref (pA 3), .ref (pA 4), .ref (pA 5), .ref (pA 6), .ref (pA 7), .ref (pA 8), .ref (pA 9), .ref (pA 10), .int (nI T), .int (nI Ac)], ia (pA 4) (pK 4) 7 (fun i => nI ((pg 4) i)), ia (pA 5) (pK 5) 7 (fun i => nI ((pg 5) i))] s.heap.size = A at hD1 ⊢
  have hA : ∀ q : Nat, s.heap.size ≤ q → A q := fun q h => by rw [← hAe]; exact Or.inr h
  have hD : dd A [ba, pa, (pA 4), (pA 5)] := dd_of hD1 rfl
  clear hAe hD0 hD1
  have hS : va_S A s.heap s.heap [] := va_S.rf
  replace hP : va_P (dC, dI) classes [oc ba 4 [.ref pa, .ref ga, .ref sa, .ref b1, .ref b2, .ref fa, .int (nI md), .int (nI mm), .int (nI hd)], oc pa 0 [.ref (pA 0), .ref (pA 1), .ref (pA 2), .ref (pA 3), .ref (pA 4), .ref (pA 5), .ref (pA 6), .ref (pA 7), .ref (pA 8), .ref (pA 9), .ref (pA 10), .int (nI T), .int (nI Ac)], ia (pA 4) (pK 4) 7 (fun i => nI ((pg 4) i)), ia (pA 5) (pK 5) 7 (fun i => nI ((pg 5) i))] s.heap := hP
  have hl := lv_entry ([.ref ba, .int (nI a)]) (n := 3) (Nat.le_of_ble_eq_true rfl)
  rw [lg_entry_eq]
  generalize (lg_sl ([.ref ba, .int (nI a)]) ++ List.replicate (3 - (lg_sl ([.ref ba, .int (nI a)])).length) Slot.unset).toArray = ls at hl ⊢
  replace hl : lv_has ls 3 [(0, .ref ba), (1, .int (nI a))] := hl
  refine lv_aload_n hx hb d_BufferWalk_keepWritten_0 rfl (lv_at hl 0 rfl) ?_
  refine va_get (D := (dC, dI)) (ci := 4) (v := .ref pa) (C := R_BufferWalk) (T := F_BufferWalk) (N := 9) hx hb hw i_BufferWalk hown hK hP 0 rfl rfl 0 (by decide) (hw _ m_250) (fun _ h9 => h9) rfl d_BufferWalk_keepWritten_1 ?_
  refine va_get (D := (dC, dI)) (ci := 0) (v := .ref (pA 4)) (C := R_Program) (T := F_Program) (N := 13) hx hb hw i_Program hown hK hP 1 rfl rfl 4 (by decide) (hw _ m_141) (fun _ h9 => h9) rfl d_BufferWalk_keepWritten_4 ?_
  refine lv_iload_n hx hb d_BufferWalk_keepWritten_7 rfl (lv_at hl 1 rfl) ?_
  refine va_iald (D := (dC, dI)) hx hb hK hP 2 0 rfl rfl (i := nI a) (pk_in a 7 (by omega)) d_BufferWalk_keepWritten_8 ?_
  refine tp_i (y := nI ((pg 4) a)) (by rw [show (nI a : Int32).toNatClampNeg = a from pk_cl a]) ?_
  refine tp_i (y := 1) (by rw [hk]; rfl) ?_
  refine lv_istore_n (lv' := [(2, .int 1), (0, .ref ba), (1, .int (nI a))]) hx hb d_BufferWalk_keepWritten_9 rfl hl (by decide) rfl ?_
  clear hl ls
  intro ls hl
  refine lv_iload_n hx hb d_BufferWalk_keepWritten_10 rfl (lv_at hl 0 rfl) ?_
  refine lv_iconst (v := 3) hx hb d_BufferWalk_keepWritten_11 (by decide) ?_
  refine lv_icmp_eq (tgt := 32) hx hb d_BufferWalk_keepWritten_12 (by decide) (fun c_1 => absurd c_1 (by decide)) (fun c_1 => ?_)
  refine tp_pc (pc' := 15) (by rfl) ?_
  refine lv_aload_n hx hb d_BufferWalk_keepWritten_15 rfl (lv_at hl 1 rfl) ?_
  refine va_get (D := (dC, dI)) (ci := 4) (v := .int (nI md)) (C := R_BufferWalk) (T := F_BufferWalk) (N := 9) hx hb hw i_BufferWalk hown hK hP 0 rfl rfl 6 (by decide) (hw _ m_257) (fun _ h9 => h9) rfl d_BufferWalk_keepWritten_16 ?_
  refine lv_if_ne (tgt := 40) hx hb d_BufferWalk_keepWritten_19 (by decide) (fun c9 => absurd (by rw [hmd0]; rfl) c9) (fun c9 => ?_)
  refine tp_pc (pc' := 22) (by rfl) ?_
  refine lv_iload_n hx hb d_BufferWalk_keepWritten_22 rfl (lv_at hl 0 rfl) ?_
  refine lv_iconst (v := 1) hx hb d_BufferWalk_keepWritten_23 (by decide) ?_
  refine lv_icmp_eq (tgt := 32) hx hb d_BufferWalk_keepWritten_24 (by decide) (fun c_2 => ?_) (fun c_2 => absurd c_2 (by decide))
  refine tp_pc (pc' := 32) (by rfl) ?_
  refine lv_aload_n hx hb d_BufferWalk_keepWritten_32 rfl (lv_at hl 1 rfl) ?_
  refine lv_iload_n hx hb d_BufferWalk_keepWritten_33 rfl (lv_at hl 2 rfl) ?_
  obtain ⟨hPc, hDc, hFc⟩ := cut3 (wc := [oc ba 4 [.ref pa, .ref ga, .ref sa, .ref b1, .ref b2, .ref fa, .int (nI md), .int (nI mm), .int (nI hd)], oc pa 0 [.ref (pA 0), .ref (pA 1), .ref (pA 2), .ref (pA 3), .ref (pA 4), .ref (pA 5), .ref (pA 6), .ref (pA 7), .ref (pA 8), .ref (pA 9), .ref (pA 10), .int (nI T), .int (nI Ac)], ia (pA 5) (pK 5) 7 (fun i => nI ((pg 5) i))]) hP hD rfl hS hA [0, 1, 3] (by decide +kernel) rfl
  have hKc := hK.sub (tys' := [((pK 5), .int)]) [1] rfl
  refine va_callv (va_runV (As := [.int (nI a)]) (rest := []) ⟨hx, hb, hml, hown, hw⟩ (gen_BufferWalk_putIntoMemory l dC dI pa pA pK T Ac pg nm ba ga sa b1 b2 fa md mm hd a hm ha hx3 s.heap.size) (cw_V 1 hw g_BufferWalk_putIntoMemory rfl rfl rfl (hw _ m_105) (hw _ m_694) (hw _ m_696) (hw _ m_27) (by decide +kernel) ⟨Nat.le_of_ble_eq_true rfl, Nat.le_of_ble_eq_true rfl⟩) ⟨fun a U g mk q => by obtain ⟨q0, q1, qP, qK, qD, qN⟩ := q; exact ⟨q0, q1, qP, va_K.moved (u := U) (U := U.calling g mk a) (Vm.Alike.refl U.vm) qK, qD, nw_call qN⟩, va_recv hKc hPc (ci := 4) (q0 := 0) rfl rfl, fun U hU hW => ⟨rfl, by rw [hU], by rw [hU]; exact hPc, va_K.moved hW.alike hKc, hDc.weaken (fun _ _ _ _ => trivial), nw_warm hW hn⟩⟩ rfl rfl hl.1 rfl (lv_room (Nat.le_of_ble_eq_true rfl)) d_BufferWalk_keepWritten_34 ⟨Nat.le_of_ble_eq_true rfl, Nat.le_of_ble_eq_true rfl⟩) hS (fun q _ h => hFc q h) hFc ?_
  intro u t9 H1 locs1 ht9 hvm hw1 hB hz1 hk1 hS1
  obtain ⟨hP1, hK1, hD1⟩ := hB
  rw [ht9] at hP1
  replace hK1 := va_K.moved hvm.symm hK1
  have hPD := join3 hP hD rfl [0, 1, 3] [2] rfl (by rfl) (by decide +kernel) (by decide +kernel) hk1 hFc hP1 hD1
  replace hK : va_K (dC, dI) classes [((pK 4), .int), ((pK 5), .int)] s := hK.app hK1
  clear hP1 hK1 hD1 hk1 hz1 hFc hKc hDc hPc hvm ht9 hP hS t9
  have hP : va_P (dC, dI) classes [ia (pA 4) (pK 4) 7 (fun i => nI ((pg 4) i)), oc ba 4 [.ref pa, .ref ga, .ref sa, .ref b1, .ref b2, .ref fa, .int (nI md), .int (nI (putM mm (pg 5 a) a)), .int (nI hd)], oc pa 0 [.ref (pA 0), .ref (pA 1), .ref (pA 2), .ref (pA 3), .ref (pA 4), .ref (pA 5), .ref (pA 6), .ref (pA 7), .ref (pA 8), .ref (pA 9), .ref (pA 10), .int (nI T), .int (nI Ac)], ia (pA 5) (pK 5) 7 (fun i => nI ((pg 5) i))] H1 := hPD.1
  replace hD : dd A [(pA 4), ba, pa, (pA 5)] := dd_of hPD.2 rfl
  clear hPD
  revert H1 locs1
  intro H locs hS hP
  clear hw1 u
  refine tp_pc (pc' := 37) (by rfl) ?_
  refine lv_goto (tgt := 62) hx hb d_BufferWalk_keepWritten_37 (by decide) ?_
  refine tp_pc (pc' := 62) (by rfl) ?_
  obtain ⟨hP9, hD9, -⟩ := cut3 (wc := [oc ba 4 [.ref pa, .ref ga, .ref sa, .ref b1, .ref b2, .ref fa, .int (nI md), .int (nI (putM mm (pg 5 a) a)), .int (nI hd)], oc pa 0 [.ref (pA 0), .ref (pA 1), .ref (pA 2), .ref (pA 3), .ref (pA 4), .ref (pA 5), .ref (pA 6), .ref (pA 7), .ref (pA 8), .ref (pA 9), .ref (pA 10), .int (nI T), .int (nI Ac)], ia (pA 4) (pK 4) 7 (fun i => nI ((pg 4) i)), ia (pA 5) (pK 5) 7 (fun i => nI ((pg 5) i))]) hP hD rfl hS hA [1, 2, 0, 3] (by decide +kernel) rfl
  have hK9 := hK.sub (tys' := []) [] rfl
  refine W.widen (k := 0) (n := 0) (by exact Nat.le_of_ble_eq_true rfl) (by exact Nat.le_of_ble_eq_true rfl) ?_
  exact W.vret hx hb hr (fun t9 ht9 hW => ⟨⟨(), rfl, trivial, by rw [ht9]; exact hP9, va_K.moved hW.alike hK9, hD9⟩, hS.F ht9⟩) hS.2.2 d_BufferWalk_keepWritten_62
set_option maxHeartbeats 4000000 in
set_option maxRecDepth 100000 in
theorem gen_BufferWalk_keepWritten_1b (l : Launch) (dC : Nat → ClassId) (dI : Nat → Nat → Nat) (pa : Nat) (pA : Nat → Nat) (pK : Nat → ClassId) (T Ac : Nat) (pg : Nat → Nat → Nat) (nm : Nat → Int32) (ba ga sa b1 b2 fa : Nat) (md mm hd : Nat) (a : Nat) (ha : a < 7) (hk : pg 4 a = 1) (hm : mm < 512) (hh : hd < 128) (hmd : md < 4) (hmd0 : md ≠ 0) (sz : Nat) : Met l y_BufferWalk_keepWritten w_BufferWalk_keepWritten ({ frames := 1, cells := 0, slots := 0, locals := 30 }) (va_Pc [.ref ba, .int (nI a)] (fun U => U.heap.size = sz ∧ va_P (dC, dI) classes [oc ba 4 [.ref pa, .ref ga, .ref sa, .ref b1, .ref b2, .ref fa, .int (nI md), .int (nI mm), .int (nI hd)], oc pa 0 [.ref (pA 0), .ref (pA 1), .ref (pA 2), .ref (pA 3), .ref (pA 4), .ref (pA 5), .ref (pA 6), .ref (pA 7), .ref (pA 8), .ref (pA 9), .ref (pA 10), .int (nI T), .int (nI Ac)], ia (pA 4) (pK 4) 7 (fun i => nI ((pg 4) i)), ia (pA 5) (pK 5) 7 (fun i => nI ((pg 5) i))] U.heap ∧ va_K (dC, dI) classes [((pK 4), .int), ((pK 5), .int)] U ∧ va_D (fun _ => True) [oc ba 4 [.ref pa, .ref ga, .ref sa, .ref b1, .ref b2, .ref fa, .int (nI md), .int (nI mm), .int (nI hd)], oc pa 0 [.ref (pA 0), .ref (pA 1), .ref (pA 2), .ref (pA 3), .ref (pA 4), .ref (pA 5), .ref (pA 6), .ref (pA 7), .ref (pA 8), .ref (pA 9), .ref (pA 10), .int (nI T), .int (nI Ac)], ia (pA 4) (pK 4) 7 (fun i => nI ((pg 4) i)), ia (pA 5) (pK 5) 7 (fun i => nI ((pg 5) i))] ∧ nw U)) (va_Qv (fun _ : Unit => True) (fun _ t9 => va_P (dC, dI) classes [oc ba 4 [.ref pa, .ref ga, .ref sa, .ref b1, .ref b2, .ref fa, .int (nI md), .int (nI mm), .int (nI (hd ||| 2 ^ a))], oc pa 0 [.ref (pA 0), .ref (pA 1), .ref (pA 2), .ref (pA 3), .ref (pA 4), .ref (pA 5), .ref (pA 6), .ref (pA 7), .ref (pA 8), .ref (pA 9), .ref (pA 10), .int (nI T), .int (nI Ac)], ia (pA 4) (pK 4) 7 (fun i => nI ((pg 4) i)), ia (pA 5) (pK 5) 7 (fun i => nI ((pg 5) i))] t9.heap ∧ va_K (dC, dI) classes [] t9 ∧ va_D (va_A [oc ba 4 [.ref pa, .ref ga, .ref sa, .ref b1, .ref b2, .ref fa, .int (nI md), .int (nI mm), .int (nI hd)], oc pa 0 [.ref (pA 0), .ref (pA 1), .ref (pA 2), .ref (pA 3), .ref (pA 4), .ref (pA 5), .ref (pA 6), .ref (pA 7), .ref (pA 8), .ref (pA 9), .ref (pA 10), .int (nI T), .int (nI Ac)], ia (pA 4) (pK 4) 7 (fun i => nI ((pg 4) i)), ia (pA 5) (pK 5) 7 (fun i => nI ((pg 5) i))] sz) [oc ba 4 [.ref pa, .ref ga, .ref sa, .ref b1, .ref b2, .ref fa, .int (nI md), .int (nI mm), .int (nI (hd ||| 2 ^ a))], oc pa 0 [.ref (pA 0), .ref (pA 1), .ref (pA 2), .ref (pA 3), .ref (pA 4), .ref (pA 5), .ref (pA 6), .ref (pA 7), .ref (pA 8), .ref (pA 9), .ref (pA 10), .int (nI T), .int (nI Ac)], ia (pA 4) (pK 4) 7 (fun i => nI ((pg 4) i)), ia (pA 5) (pK 5) 7 (fun i => nI ((pg 5) i))]) (va_A [oc ba 4 [.ref pa, .ref ga, .ref sa, .ref b1, .ref b2, .ref fa, .int (nI md), .int (nI mm), .int (nI hd)], oc pa 0 [.ref (pA 0), .ref (pA 1), .ref (pA 2), .ref (pA 3), .ref (pA 4), .ref (pA 5), .ref (pA 6), .ref (pA 7), .ref (pA 8), .ref (pA 9), .ref (pA 10), .int (nI T), .int (nI Ac)], ia (pA 4) (pK 4) 7 (fun i => nI ((pg 4) i)), ia (pA 5) (pK 5) 7 (fun i => nI ((pg 5) i))] sz)) 0 0 (va_A [oc ba 4 [.ref pa, .ref ga, .ref sa, .ref b1, .ref b2, .ref fa, .int (nI md), .int (nI mm), .int (nI hd)], oc pa 0 [.ref (pA 0), .ref (pA 1), .ref (pA 2), .ref (pA 3), .ref (pA 4), .ref (pA 5), .ref (pA 6), .ref (pA 7), .ref (pA 8), .ref (pA 9), .ref (pA 10), .int (nI T), .int (nI Ac)], ia (pA 4) (pK 4) 7 (fun i => nI ((pg 4) i)), ia (pA 5) (pK 5) 7 (fun i => nI ((pg 5) i))] sz) := by
  refine Met.ofW (cc := b_BufferWalk_keepWritten) (maxL := 3) (ret := none) (by decide) rfl ?_
  intro p e0 s m args below meth c s₁ B hml hv
  obtain ⟨rfl, hsz, hP, hK, hD0, hn⟩ := hv
  have hx := B.exec
  have hb := B.bytes
  have hr := B.returns
  have hw := fun w (h : w ∈ wt) => atoms_spec (ws := w_BufferWalk_keepWritten) B.pre w (List.mem_cons_of_mem _ h)
  have hown : s.vm.findClass R_BufferWalk = some m.cls := findClass_of_methodNamed B.named
  have hlocks := B.notSynchronized
  subst hsz
  have hD1 := hD0.self (sz := s.heap.size)
  generalize hAe : va_A [oc ba 4 [.ref pa, .ref ga, .ref sa, .ref b1, .ref b2, .ref fa, .int (nI md), .int (nI mm), .int (nI hd)], oc pa 0 [.ref (pA 0), .ref (pA 1), .ref (pA 2), .ref (pA 3), .ref (pA 4), .ref (pA 5), .ref (pA 6), .ref (pA 7), .ref (pA 8), .ref (pA 9), .ref (pA 10), .int (nI T), .int (nI Ac)], ia (pA 4) (pK 4) 7 (fun i => nI ((pg 4) i)), ia (pA 5) (pK 5) 7 (fun i => nI ((pg 5) i))] s.heap.size = A at hD1 ⊢
  have hA : ∀ q : Nat, s.heap.size ≤ q → A q := fun q h => by rw [← hAe]; exact Or.inr h
  have hD : dd A [ba, pa, (pA 4), (pA 5)] := dd_of hD1 rfl
  clear hAe hD0 hD1
  have hS : va_S A s.heap s.heap [] := va_S.rf
  replace hP : va_P (dC, dI) classes [oc ba 4 [.ref pa, .ref ga, .ref sa, .ref b1, .ref b2, .ref fa, .int (nI md), .int (nI mm), .int (nI hd)], oc pa 0 [.ref (pA 0), .ref (pA 1), .ref (pA 2), .ref (pA 3), .ref (pA 4), .ref (pA 5), .ref (pA 6), .ref (pA 7), .ref (pA 8), .ref (pA 9), .ref (pA 10), .int (nI T), .int (nI Ac)], ia (pA 4) (pK 4) 7 (fun i => nI ((pg 4) i)), ia (pA 5) (pK 5) 7 (fun i => nI ((pg 5) i))] s.heap := hP
  have hl := lv_entry ([.ref ba, .int (nI a)]) (n := 3) (Nat.le_of_ble_eq_true rfl)
  rw [lg_entry_eq]
  generalize (lg_sl ([.ref ba, .int (nI a)]) ++ List.replicate (3 - (lg_sl ([.ref ba, .int (nI a)])).length) Slot.unset).toArray = ls at hl ⊢
  replace hl : lv_has ls 3 [(0, .ref ba), (1, .int (nI a))] := hl
  refine lv_aload_n hx hb d_BufferWalk_keepWritten_0 rfl (lv_at hl 0 rfl) ?_
  refine va_get (D := (dC, dI)) (ci := 4) (v := .ref pa) (C := R_BufferWalk) (T := F_BufferWalk) (N := 9) hx hb hw i_BufferWalk hown hK hP 0 rfl rfl 0 (by decide) (hw _ m_250) (fun _ h9 => h9) rfl d_BufferWalk_keepWritten_1 ?_
  refine va_get (D := (dC, dI)) (ci := 0) (v := .ref (pA 4)) (C := R_Program) (T := F_Program) (N := 13) hx hb hw i_Program hown hK hP 1 rfl rfl 4 (by decide) (hw _ m_141) (fun _ h9 => h9) rfl d_BufferWalk_keepWritten_4 ?_
  refine lv_iload_n hx hb d_BufferWalk_keepWritten_7 rfl (lv_at hl 1 rfl) ?_
  refine va_iald (D := (dC, dI)) hx hb hK hP 2 0 rfl rfl (i := nI a) (pk_in a 7 (by omega)) d_BufferWalk_keepWritten_8 ?_
  refine tp_i (y := nI ((pg 4) a)) (by rw [show (nI a : Int32).toNatClampNeg = a from pk_cl a]) ?_
  refine tp_i (y := 1) (by rw [hk]; rfl) ?_
  refine lv_istore_n (lv' := [(2, .int 1), (0, .ref ba), (1, .int (nI a))]) hx hb d_BufferWalk_keepWritten_9 rfl hl (by decide) rfl ?_
  clear hl ls
  intro ls hl
  refine lv_iload_n hx hb d_BufferWalk_keepWritten_10 rfl (lv_at hl 0 rfl) ?_
  refine lv_iconst (v := 3) hx hb d_BufferWalk_keepWritten_11 (by decide) ?_
  refine lv_icmp_eq (tgt := 32) hx hb d_BufferWalk_keepWritten_12 (by decide) (fun c_1 => absurd c_1 (by decide)) (fun c_1 => ?_)
  refine tp_pc (pc' := 15) (by rfl) ?_
  refine lv_aload_n hx hb d_BufferWalk_keepWritten_15 rfl (lv_at hl 1 rfl) ?_
  refine va_get (D := (dC, dI)) (ci := 4) (v := .int (nI md)) (C := R_BufferWalk) (T := F_BufferWalk) (N := 9) hx hb hw i_BufferWalk hown hK hP 0 rfl rfl 6 (by decide) (hw _ m_257) (fun _ h9 => h9) rfl d_BufferWalk_keepWritten_16 ?_
  refine lv_if_ne (tgt := 40) hx hb d_BufferWalk_keepWritten_19 (by decide) (fun c9 => ?_) (fun c9 => absurd c9 (fun q => hmd0 ((nI_eq (a := md) (b := 0) (by omega) (by omega)).mp q)))
  refine tp_pc (pc' := 40) (by rfl) ?_
  refine lv_iload_n hx hb d_BufferWalk_keepWritten_40 rfl (lv_at hl 0 rfl) ?_
  refine lv_iconst (v := 1) hx hb d_BufferWalk_keepWritten_41 (by decide) ?_
  refine lv_icmp_eq (tgt := 50) hx hb d_BufferWalk_keepWritten_42 (by decide) (fun c_2 => ?_) (fun c_2 => absurd c_2 (by decide))
  refine tp_pc (pc' := 50) (by rfl) ?_
  refine lv_aload_n hx hb d_BufferWalk_keepWritten_50 rfl (lv_at hl 1 rfl) ?_
  refine lv_dup hx hb d_BufferWalk_keepWritten_51 rfl ?_
  refine va_get (D := (dC, dI)) (ci := 4) (v := .int (nI hd)) (C := R_BufferWalk) (T := F_BufferWalk) (N := 9) hx hb hw i_BufferWalk hown hK hP 0 rfl rfl 8 (by decide) (hw _ m_259) (fun _ h9 => h9) rfl d_BufferWalk_keepWritten_52 ?_
  refine lv_iconst (v := 1) hx hb d_BufferWalk_keepWritten_55 (by decide) ?_
  refine lv_iload_n hx hb d_BufferWalk_keepWritten_56 rfl (lv_at hl 2 rfl) ?_
  refine lv_ishl hx hb d_BufferWalk_keepWritten_57 ?_
  refine tp_i (y := 1 <<< ((nI a) &&& 31)) rfl ?_
  refine lv_ior hx hb d_BufferWalk_keepWritten_58 ?_
  refine tp_i (y := (nI hd) ||| (1 <<< ((nI a) &&& 31))) rfl ?_
  refine tp_i (y := nI (hd ||| 2 ^ a)) (set_eq hd hh a ha) ?_
  refine va_put (D := (dC, dI)) (ci := 4) (v := .int (nI (hd ||| 2 ^ a))) (ty := .int) (C := R_BufferWalk) (T := F_BufferWalk) (N := 9) hx hb hw i_BufferWalk t_BufferWalk t_BufferWalk_ok n_BufferWalk hown hK hP (dd_D hD rfl) hS 0 rfl rfl 8 (by decide) (hw _ m_259) (fun _ h9 => h9) rfl (by decide +kernel) rfl rfl (Nat.le_of_ble_eq_true rfl) d_BufferWalk_keepWritten_59 ?_
  clear hP hS
  intro H locs (hP : va_P (dC, dI) classes [oc ba 4 [.ref pa, .ref ga, .ref sa, .ref b1, .ref b2, .ref fa, .int (nI md), .int (nI mm), .int (nI (hd ||| 2 ^ a))], oc pa 0 [.ref (pA 0), .ref (pA 1), .ref (pA 2), .ref (pA 3), .ref (pA 4), .ref (pA 5), .ref (pA 6), .ref (pA 7), .ref (pA 8), .ref (pA 9), .ref (pA 10), .int (nI T), .int (nI Ac)], ia (pA 4) (pK 4) 7 (fun i => nI ((pg 4) i)), ia (pA 5) (pK 5) 7 (fun i => nI ((pg 5) i))] H) _ hS
  refine tp_pc (pc' := 62) (by rfl) ?_
  obtain ⟨hP9, hD9, -⟩ := cut3 (wc := [oc ba 4 [.ref pa, .ref ga, .ref sa, .ref b1, .ref b2, .ref fa, .int (nI md), .int (nI mm), .int (nI (hd ||| 2 ^ a))], oc pa 0 [.ref (pA 0), .ref (pA 1), .ref (pA 2), .ref (pA 3), .ref (pA 4), .ref (pA 5), .ref (pA 6), .ref (pA 7), .ref (pA 8), .ref (pA 9), .ref (pA 10), .int (nI T), .int (nI Ac)], ia (pA 4) (pK 4) 7 (fun i => nI ((pg 4) i)), ia (pA 5) (pK 5) 7 (fun i => nI ((pg 5) i))]) hP hD rfl hS hA [0, 1, 2, 3] (by decide +kernel) rfl
  have hK9 := hK.sub (tys' := []) [] rfl
  refine W.widen (k := 0) (n := 0) (by exact Nat.le_of_ble_eq_true rfl) (by exact Nat.le_of_ble_eq_true rfl) ?_
  exact W.vret hx hb hr (fun t9 ht9 hW => ⟨⟨(), rfl, trivial, by rw [ht9]; exact hP9, va_K.moved hW.alike hK9, hD9⟩, hS.F ht9⟩) hS.2.2 d_BufferWalk_keepWritten_62
set_option maxHeartbeats 4000000 in
set_option maxRecDepth 100000 in
theorem gen_BufferWalk_keepWritten_2z (l : Launch) (dC : Nat → ClassId) (dI : Nat → Nat → Nat) (pa : Nat) (pA : Nat → Nat) (pK : Nat → ClassId) (T Ac : Nat) (pg : Nat → Nat → Nat) (nm : Nat → Int32) (ba ga sa b1 b2 fa : Nat) (md mm hd : Nat) (a : Nat) (ha : a < 7) (hk : pg 4 a = 2) (hm : mm < 512) (hh : hd < 128) (hmd : md < 4) (hx3 : pg 5 a < 3) (hmd0 : md = 0) (sz : Nat) : Met l y_BufferWalk_keepWritten w_BufferWalk_keepWritten ({ frames := 1, cells := 0, slots := 0, locals := 30 }) (va_Pc [.ref ba, .int (nI a)] (fun U => U.heap.size = sz ∧ va_P (dC, dI) classes [oc ba 4 [.ref pa, .ref ga, .ref sa, .ref b1, .ref b2, .ref fa, .int (nI md), .int (nI mm), .int (nI hd)], oc pa 0 [.ref (pA 0), .ref (pA 1), .ref (pA 2), .ref (pA 3), .ref (pA 4), .ref (pA 5), .ref (pA 6), .ref (pA 7), .ref (pA 8), .ref (pA 9), .ref (pA 10), .int (nI T), .int (nI Ac)], ia (pA 4) (pK 4) 7 (fun i => nI ((pg 4) i)), ia (pA 5) (pK 5) 7 (fun i => nI ((pg 5) i))] U.heap ∧ va_K (dC, dI) classes [((pK 4), .int), ((pK 5), .int)] U ∧ va_D (fun _ => True) [oc ba 4 [.ref pa, .ref ga, .ref sa, .ref b1, .ref b2, .ref fa, .int (nI md), .int (nI mm), .int (nI hd)], oc pa 0 [.ref (pA 0), .ref (pA 1), .ref (pA 2), .ref (pA 3), .ref (pA 4), .ref (pA 5), .ref (pA 6), .ref (pA 7), .ref (pA 8), .ref (pA 9), .ref (pA 10), .int (nI T), .int (nI Ac)], ia (pA 4) (pK 4) 7 (fun i => nI ((pg 4) i)), ia (pA 5) (pK 5) 7 (fun i => nI ((pg 5) i))] ∧ nw U)) (va_Qv (fun _ : Unit => True) (fun _ t9 => va_P (dC, dI) classes [oc ba 4 [.ref pa, .ref ga, .ref sa, .ref b1, .ref b2, .ref fa, .int (nI md), .int (nI (putM mm (pg 5 a) a)), .int (nI hd)], oc pa 0 [.ref (pA 0), .ref (pA 1), .ref (pA 2), .ref (pA 3), .ref (pA 4), .ref (pA 5), .ref (pA 6), .ref (pA 7), .ref (pA 8), .ref (pA 9), .ref (pA 10), .int (nI T), .int (nI Ac)], ia (pA 4) (pK 4) 7 (fun i => nI ((pg 4) i)), ia (pA 5) (pK 5) 7 (fun i => nI ((pg 5) i))] t9.heap ∧ va_K (dC, dI) classes [] t9 ∧ va_D (va_A [oc ba 4 [.ref pa, .ref ga, .ref sa, .ref b1, .ref b2, .ref fa, .int (nI md), .int (nI mm), .int (nI hd)], oc pa 0 [.ref (pA 0), .ref (pA 1), .ref (pA 2), .ref (pA 3), .ref (pA 4), .ref (pA 5), .ref (pA 6), .ref (pA 7), .ref (pA 8), .ref (pA 9), .ref (pA 10), .int (nI T), .int (nI Ac)], ia (pA 4) (pK 4) 7 (fun i => nI ((pg 4) i)), ia (pA 5) (pK 5) 7 (fun i => nI ((pg 5) i))] sz) [oc ba 4 [.ref pa, .ref ga, .ref sa, .ref b1, .ref b2, .ref fa, .int (nI md), .int (nI (putM mm (pg 5 a) a)), .int (nI hd)], oc pa 0 [.ref (pA 0), .ref (pA 1), .ref (pA 2), .ref (pA 3), .ref (pA 4), .ref (pA 5), .ref (pA 6), .ref (pA 7), .ref (pA 8), .ref (pA 9), .ref (pA 10), .int (nI T), .int (nI Ac)], ia (pA 4) (pK 4) 7 (fun i => nI ((pg 4) i)), ia (pA 5) (pK 5) 7 (fun i => nI ((pg 5) i))]) (va_A [oc ba 4 [.ref pa, .ref ga, .ref sa, .ref b1, .ref b2, .ref fa, .int (nI md), .int (nI mm), .int (nI hd)], oc pa 0 [.ref (pA 0), .ref (pA 1), .ref (pA 2), .ref (pA 3), .ref (pA 4), .ref (pA 5), .ref (pA 6), .ref (pA 7), .ref (pA 8), .ref (pA 9), .ref (pA 10), .int (nI T), .int (nI Ac)], ia (pA 4) (pK 4) 7 (fun i => nI ((pg 4) i)), ia (pA 5) (pK 5) 7 (fun i => nI ((pg 5) i))] sz)) 0 0 (va_A [oc ba 4 [.ref pa, .ref ga, .ref sa, .ref b1, .ref b2, .ref fa, .int (nI md), .int (nI mm), .int (nI hd)], oc pa 0 [.ref (pA 0), .ref (pA 1), .ref (pA 2), .ref (pA 3), .ref (pA 4), .ref (pA 5), .ref (pA 6), .ref (pA 7), .ref (pA 8), .ref (pA 9), .ref (pA 10), .int (nI T), .int (nI Ac)], ia (pA 4) (pK 4) 7 (fun i => nI ((pg 4) i)), ia (pA 5) (pK 5) 7 (fun i => nI ((pg 5) i))] sz) := by
  refine Met.ofW (cc := b_BufferWalk_keepWritten) (maxL := 3) (ret := none) (by decide) rfl ?_
  intro p e0 s m args below meth c s₁ B hml hv
  obtain ⟨rfl, hsz, hP, hK, hD0, hn⟩ := hv
  have hx := B.exec
  have hb := B.bytes
  have hr := B.returns
  have hw := fun w (h : w ∈ wt) => atoms_spec (ws := w_BufferWalk_keepWritten) B.pre w (List.mem_cons_of_mem _ h)
  have hown : s.vm.findClass R_BufferWalk = some m.cls := findClass_of_methodNamed B.named
  have hlocks := B.notSynchronized
  subst hsz
  have hD1 := hD0.self (sz := s.heap.size)
  generalize hAe : va_A [oc ba 4 [.ref pa, .ref ga, .ref sa, .ref b1, .ref b2, .ref fa, .int (nI md), .int (nI mm), .int (nI hd)], oc pa 0 [.ref (pA 0), .ref (pA 1), .ref (pA 2), .ref (pA 3), .ref (pA 4), .ref (pA 5), .ref (pA 6), .ref (pA 7), .ref (pA 8), .ref (pA 9), .ref (pA 10), .int (nI T), .int (nI Ac)], ia (pA 4) (pK 4) 7 (fun i => nI ((pg 4) i)), ia (pA 5) (pK 5) 7 (fun i => nI ((pg 5) i))] s.heap.size = A at hD1 ⊢
  have hA : ∀ q : Nat, s.heap.size ≤ q → A q := fun q h => by rw [← hAe]; exact Or.inr h
  have hD : dd A [ba, pa, (pA 4), (pA 5)] := dd_of hD1 rfl
  clear hAe hD0 hD1
  have hS : va_S A s.heap s.heap [] := va_S.rf
  replace hP : va_P (dC, dI) classes [oc ba 4 [.ref pa, .ref ga, .ref sa, .ref b1, .ref b2, .ref fa, .int (nI md), .int (nI mm), .int (nI hd)], oc pa 0 [.ref (pA 0), .ref (pA 1), .ref (pA 2), .ref (pA 3), .ref (pA 4), .ref (pA 5), .ref (pA 6), .ref (pA 7), .ref (pA 8), .ref (pA 9), .ref (pA 10), .int (nI T), .int (nI Ac)], ia (pA 4) (pK 4) 7 (fun i => nI ((pg 4) i)), ia (pA 5) (pK 5) 7 (fun i => nI ((pg 5) i))] s.heap := hP
  have hl := lv_entry ([.ref ba, .int (nI a)]) (n := 3) (Nat.le_of_ble_eq_true rfl)
  rw [lg_entry_eq]
  generalize (lg_sl ([.ref ba, .int (nI a)]) ++ List.replicate (3 - (lg_sl ([.ref ba, .int (nI a)])).length) Slot.unset).toArray = ls at hl ⊢
  replace hl : lv_has ls 3 [(0, .ref ba), (1, .int (nI a))] := hl
  refine lv_aload_n hx hb d_BufferWalk_keepWritten_0 rfl (lv_at hl 0 rfl) ?_
  refine va_get (D := (dC, dI)) (ci := 4) (v := .ref pa) (C := R_BufferWalk) (T := F_BufferWalk) (N := 9) hx hb hw i_BufferWalk hown hK hP 0 rfl rfl 0 (by decide) (hw _ m_250) (fun _ h9 => h9) rfl d_BufferWalk_keepWritten_1 ?_
  refine va_get (D := (dC, dI)) (ci := 0) (v := .ref (pA 4)) (C := R_Program) (T := F_Program) (N := 13) hx hb hw i_Program hown hK hP 1 rfl rfl 4 (by decide) (hw _ m_141) (fun _ h9 => h9) rfl d_BufferWalk_keepWritten_4 ?_
  refine lv_iload_n hx hb d_BufferWalk_keepWritten_7 rfl (lv_at hl 1 rfl) ?_
  refine va_iald (D := (dC, dI)) hx hb hK hP 2 0 rfl rfl (i := nI a) (pk_in a 7 (by omega)) d_BufferWalk_keepWritten_8 ?_
  refine tp_i (y := nI ((pg 4) a)) (by rw [show (nI a : Int32).toNatClampNeg = a from pk_cl a]) ?_
  refine tp_i (y := 2) (by rw [hk]; rfl) ?_
  refine lv_istore_n (lv' := [(2, .int 2), (0, .ref ba), (1, .int (nI a))]) hx hb d_BufferWalk_keepWritten_9 rfl hl (by decide) rfl ?_
  clear hl ls
  intro ls hl
  refine lv_iload_n hx hb d_BufferWalk_keepWritten_10 rfl (lv_at hl 0 rfl) ?_
  refine lv_iconst (v := 3) hx hb d_BufferWalk_keepWritten_11 (by decide) ?_
  refine lv_icmp_eq (tgt := 32) hx hb d_BufferWalk_keepWritten_12 (by decide) (fun c_1 => absurd c_1 (by decide)) (fun c_1 => ?_)
  refine tp_pc (pc' := 15) (by rfl) ?_
  refine lv_aload_n hx hb d_BufferWalk_keepWritten_15 rfl (lv_at hl 1 rfl) ?_
  refine va_get (D := (dC, dI)) (ci := 4) (v := .int (nI md)) (C := R_BufferWalk) (T := F_BufferWalk) (N := 9) hx hb hw i_BufferWalk hown hK hP 0 rfl rfl 6 (by decide) (hw _ m_257) (fun _ h9 => h9) rfl d_BufferWalk_keepWritten_16 ?_
  refine lv_if_ne (tgt := 40) hx hb d_BufferWalk_keepWritten_19 (by decide) (fun c9 => absurd (by rw [hmd0]; rfl) c9) (fun c9 => ?_)
  refine tp_pc (pc' := 22) (by rfl) ?_
  refine lv_iload_n hx hb d_BufferWalk_keepWritten_22 rfl (lv_at hl 0 rfl) ?_
  refine lv_iconst (v := 1) hx hb d_BufferWalk_keepWritten_23 (by decide) ?_
  refine lv_icmp_eq (tgt := 32) hx hb d_BufferWalk_keepWritten_24 (by decide) (fun c_2 => absurd c_2 (by decide)) (fun c_2 => ?_)
  refine tp_pc (pc' := 27) (by rfl) ?_
  refine lv_iload_n hx hb d_BufferWalk_keepWritten_27 rfl (lv_at hl 0 rfl) ?_
  refine lv_iconst (v := 2) hx hb d_BufferWalk_keepWritten_28 (by decide) ?_
  refine lv_icmp_ne (tgt := 40) hx hb d_BufferWalk_keepWritten_29 (by decide) (fun c_3 => absurd c_3 (by decide)) (fun c_3 => ?_)
  refine tp_pc (pc' := 32) (by rfl) ?_
  refine lv_aload_n hx hb d_BufferWalk_keepWritten_32 rfl (lv_at hl 1 rfl) ?_
  refine lv_iload_n hx hb d_BufferWalk_keepWritten_33 rfl (lv_at hl 2 rfl) ?_
  obtain ⟨hPc, hDc, hFc⟩ := cut3 (wc := [oc ba 4 [.ref pa, .ref ga, .ref sa, .ref b1, .ref b2, .ref fa, .int (nI md), .int (nI mm), .int (nI hd)], oc pa 0 [.ref (pA 0), .ref (pA 1), .ref (pA 2), .ref (pA 3), .ref (pA 4), .ref (pA 5), .ref (pA 6), .ref (pA 7), .ref (pA 8), .ref (pA 9), .ref (pA 10), .int (nI T), .int (nI Ac)], ia (pA 5) (pK 5) 7 (fun i => nI ((pg 5) i))]) hP hD rfl hS hA [0, 1, 3] (by decide +kernel) rfl
  have hKc := hK.sub (tys' := [((pK 5), .int)]) [1] rfl
  refine va_callv (va_runV (As := [.int (nI a)]) (rest := []) ⟨hx, hb, hml, hown, hw⟩ (gen_BufferWalk_putIntoMemory l dC dI pa pA pK T Ac pg nm ba ga sa b1 b2 fa md mm hd a hm ha hx3 s.heap.size) (cw_V 1 hw g_BufferWalk_putIntoMemory rfl rfl rfl (hw _ m_105) (hw _ m_694) (hw _ m_696) (hw _ m_27) (by decide +kernel) ⟨Nat.le_of_ble_eq_true rfl, Nat.le_of_ble_eq_true rfl⟩) ⟨fun a U g mk q => by obtain ⟨q0, q1, qP, qK, qD, qN⟩ := q; exact ⟨q0, q1, qP, va_K.moved (u := U) (U := U.calling g mk a) (Vm.Alike.refl U.vm) qK, qD, nw_call qN⟩, va_recv hKc hPc (ci := 4) (q0 := 0) rfl rfl, fun U hU hW => ⟨rfl, by rw [hU], by rw [hU]; exact hPc, va_K.moved hW.alike hKc, hDc.weaken (fun _ _ _ _ => trivial), nw_warm hW hn⟩⟩ rfl rfl hl.1 rfl (lv_room (Nat.le_of_ble_eq_true rfl)) d_BufferWalk_keepWritten_34 ⟨Nat.le_of_ble_eq_true rfl, Nat.le_of_ble_eq_true rfl⟩) hS (fun q _ h => hFc q h) hFc ?_
  intro u t9 H1 locs1 ht9 hvm hw1 hB hz1 hk1 hS1
  obtain ⟨hP1, hK1, hD1⟩ := hB
  rw [ht9] at hP1
  replace hK1 := va_K.moved hvm.symm hK1
  have hPD := join3 hP hD rfl [0, 1, 3] [2] rfl (by rfl) (by decide +kernel) (by decide +kernel) hk1 hFc hP1 hD1
  replace hK : va_K (dC, dI) classes [((pK 4), .int), ((pK 5), .int)] s := hK.app hK1
  clear hP1 hK1 hD1 hk1 hz1 hFc hKc hDc hPc hvm ht9 hP hS t9
  have hP : va_P (dC, dI) classes [ia (pA 4) (pK 4) 7 (fun i => nI ((pg 4) i)), oc ba 4 [.ref pa, .ref ga, .ref sa, .ref b1, .ref b2, .ref fa, .int (nI md), .int (nI (putM mm (pg 5 a) a)), .int (nI hd)], oc pa 0 [.ref (pA 0), .ref (pA 1), .ref (pA 2), .ref (pA 3), .ref (pA 4), .ref (pA 5), .ref (pA 6), .ref (pA 7), .ref (pA 8), .ref (pA 9), .ref (pA 10), .int (nI T), .int (nI Ac)], ia (pA 5) (pK 5) 7 (fun i => nI ((pg 5) i))] H1 := hPD.1
  replace hD : dd A [(pA 4), ba, pa, (pA 5)] := dd_of hPD.2 rfl
  clear hPD
  revert H1 locs1
  intro H locs hS hP
  clear hw1 u
  refine tp_pc (pc' := 37) (by rfl) ?_
  refine lv_goto (tgt := 62) hx hb d_BufferWalk_keepWritten_37 (by decide) ?_
  refine tp_pc (pc' := 62) (by rfl) ?_
  obtain ⟨hP9, hD9, -⟩ := cut3 (wc := [oc ba 4 [.ref pa, .ref ga, .ref sa, .ref b1, .ref b2, .ref fa, .int (nI md), .int (nI (putM mm (pg 5 a) a)), .int (nI hd)], oc pa 0 [.ref (pA 0), .ref (pA 1), .ref (pA 2), .ref (pA 3), .ref (pA 4), .ref (pA 5), .ref (pA 6), .ref (pA 7), .ref (pA 8), .ref (pA 9), .ref (pA 10), .int (nI T), .int (nI Ac)], ia (pA 4) (pK 4) 7 (fun i => nI ((pg 4) i)), ia (pA 5) (pK 5) 7 (fun i => nI ((pg 5) i))]) hP hD rfl hS hA [1, 2, 0, 3] (by decide +kernel) rfl
  have hK9 := hK.sub (tys' := []) [] rfl
  refine W.widen (k := 0) (n := 0) (by exact Nat.le_of_ble_eq_true rfl) (by exact Nat.le_of_ble_eq_true rfl) ?_
  exact W.vret hx hb hr (fun t9 ht9 hW => ⟨⟨(), rfl, trivial, by rw [ht9]; exact hP9, va_K.moved hW.alike hK9, hD9⟩, hS.F ht9⟩) hS.2.2 d_BufferWalk_keepWritten_62
set_option maxHeartbeats 4000000 in
set_option maxRecDepth 100000 in
theorem gen_BufferWalk_keepWritten_2b (l : Launch) (dC : Nat → ClassId) (dI : Nat → Nat → Nat) (pa : Nat) (pA : Nat → Nat) (pK : Nat → ClassId) (T Ac : Nat) (pg : Nat → Nat → Nat) (nm : Nat → Int32) (ba ga sa b1 b2 fa : Nat) (md mm hd : Nat) (a : Nat) (ha : a < 7) (hk : pg 4 a = 2) (hm : mm < 512) (hh : hd < 128) (hmd : md < 4) (hmd0 : md ≠ 0) (sz : Nat) : Met l y_BufferWalk_keepWritten w_BufferWalk_keepWritten ({ frames := 1, cells := 0, slots := 0, locals := 30 }) (va_Pc [.ref ba, .int (nI a)] (fun U => U.heap.size = sz ∧ va_P (dC, dI) classes [oc ba 4 [.ref pa, .ref ga, .ref sa, .ref b1, .ref b2, .ref fa, .int (nI md), .int (nI mm), .int (nI hd)], oc pa 0 [.ref (pA 0), .ref (pA 1), .ref (pA 2), .ref (pA 3), .ref (pA 4), .ref (pA 5), .ref (pA 6), .ref (pA 7), .ref (pA 8), .ref (pA 9), .ref (pA 10), .int (nI T), .int (nI Ac)], ia (pA 4) (pK 4) 7 (fun i => nI ((pg 4) i)), ia (pA 5) (pK 5) 7 (fun i => nI ((pg 5) i))] U.heap ∧ va_K (dC, dI) classes [((pK 4), .int), ((pK 5), .int)] U ∧ va_D (fun _ => True) [oc ba 4 [.ref pa, .ref ga, .ref sa, .ref b1, .ref b2, .ref fa, .int (nI md), .int (nI mm), .int (nI hd)], oc pa 0 [.ref (pA 0), .ref (pA 1), .ref (pA 2), .ref (pA 3), .ref (pA 4), .ref (pA 5), .ref (pA 6), .ref (pA 7), .ref (pA 8), .ref (pA 9), .ref (pA 10), .int (nI T), .int (nI Ac)], ia (pA 4) (pK 4) 7 (fun i => nI ((pg 4) i)), ia (pA 5) (pK 5) 7 (fun i => nI ((pg 5) i))] ∧ nw U)) (va_Qv (fun _ : Unit => True) (fun _ t9 => va_P (dC, dI) classes [oc ba 4 [.ref pa, .ref ga, .ref sa, .ref b1, .ref b2, .ref fa, .int (nI md), .int (nI mm), .int (nI (hd ||| 2 ^ a))], oc pa 0 [.ref (pA 0), .ref (pA 1), .ref (pA 2), .ref (pA 3), .ref (pA 4), .ref (pA 5), .ref (pA 6), .ref (pA 7), .ref (pA 8), .ref (pA 9), .ref (pA 10), .int (nI T), .int (nI Ac)], ia (pA 4) (pK 4) 7 (fun i => nI ((pg 4) i)), ia (pA 5) (pK 5) 7 (fun i => nI ((pg 5) i))] t9.heap ∧ va_K (dC, dI) classes [] t9 ∧ va_D (va_A [oc ba 4 [.ref pa, .ref ga, .ref sa, .ref b1, .ref b2, .ref fa, .int (nI md), .int (nI mm), .int (nI hd)], oc pa 0 [.ref (pA 0), .ref (pA 1), .ref (pA 2), .ref (pA 3), .ref (pA 4), .ref (pA 5), .ref (pA 6), .ref (pA 7), .ref (pA 8), .ref (pA 9), .ref (pA 10), .int (nI T), .int (nI Ac)], ia (pA 4) (pK 4) 7 (fun i => nI ((pg 4) i)), ia (pA 5) (pK 5) 7 (fun i => nI ((pg 5) i))] sz) [oc ba 4 [.ref pa, .ref ga, .ref sa, .ref b1, .ref b2, .ref fa, .int (nI md), .int (nI mm), .int (nI (hd ||| 2 ^ a))], oc pa 0 [.ref (pA 0), .ref (pA 1), .ref (pA 2), .ref (pA 3), .ref (pA 4), .ref (pA 5), .ref (pA 6), .ref (pA 7), .ref (pA 8), .ref (pA 9), .ref (pA 10), .int (nI T), .int (nI Ac)], ia (pA 4) (pK 4) 7 (fun i => nI ((pg 4) i)), ia (pA 5) (pK 5) 7 (fun i => nI ((pg 5) i))]) (va_A [oc ba 4 [.ref pa, .ref ga, .ref sa, .ref b1, .ref b2, .ref fa, .int (nI md), .int (nI mm), .int (nI hd)], oc pa 0 [.ref (pA 0), .ref (pA 1), .ref (pA 2), .ref (pA 3), .ref (pA 4), .ref (pA 5), .ref (pA 6), .ref (pA 7), .ref (pA 8), .ref (pA 9), .ref (pA 10), .int (nI T), .int (nI Ac)], ia (pA 4) (pK 4) 7 (fun i => nI ((pg 4) i)), ia (pA 5) (pK 5) 7 (fun i => nI ((pg 5) i))] sz)) 0 0 (va_A [oc ba 4 [.ref pa, .ref ga, .ref sa, .ref b1, .ref b2, .ref fa, .int (nI md), .int (nI mm), .int (nI hd)], oc pa 0 [.ref (pA 0), .ref (pA 1), .ref (pA 2), .ref (pA 3), .ref (pA 4), .ref (pA 5), .ref (pA 6), .ref (pA 7), .ref (pA 8), .ref (pA 9), .ref (pA 10), .int (nI T), .int (nI Ac)], ia (pA 4) (pK 4) 7 (fun i => nI ((pg 4) i)), ia (pA 5) (pK 5) 7 (fun i => nI ((pg 5) i))] sz) := by
  refine Met.ofW (cc := b_BufferWalk_keepWritten) (maxL := 3) (ret := none) (by decide) rfl ?_
  intro p e0 s m args below meth c s₁ B hml hv
  obtain ⟨rfl, hsz, hP, hK, hD0, hn⟩ := hv
  have hx := B.exec
  have hb := B.bytes
  have hr := B.returns
  have hw := fun w (h : w ∈ wt) => atoms_spec (ws := w_BufferWalk_keepWritten) B.pre w (List.mem_cons_of_mem _ h)
  have hown : s.vm.findClass R_BufferWalk = some m.cls := findClass_of_methodNamed B.named
  have hlocks := B.notSynchronized
  subst hsz
  have hD1 := hD0.self (sz := s.heap.size)
  generalize hAe : va_A [oc ba 4 [.ref pa, .ref ga, .ref sa, .ref b1, .ref b2, .ref fa, .int (nI md), .int (nI mm), .int (nI hd)], oc pa 0 [.ref (pA 0), .ref (pA 1), .ref (pA 2), .ref (pA 3), .ref (pA 4), .ref (pA 5), .ref (pA 6), .ref (pA 7), .ref (pA 8), .ref (pA 9), .ref (pA 10), .int (nI T), .int (nI Ac)], ia (pA 4) (pK 4) 7 (fun i => nI ((pg 4) i)), ia (pA 5) (pK 5) 7 (fun i => nI ((pg 5) i))] s.heap.size = A at hD1 ⊢
  have hA : ∀ q : Nat, s.heap.size ≤ q → A q := fun q h => by rw [← hAe]; exact Or.inr h
  have hD : dd A [ba, pa, (pA 4), (pA 5)] := dd_of hD1 rfl
  clear hAe hD0 hD1
  have hS : va_S A s.heap s.heap [] := va_S.rf
  replace hP : va_P (dC, dI) classes [oc ba 4 [.ref pa, .ref ga, .ref sa, .ref b1, .ref b2, .ref fa, .int (nI md), .int (nI mm), .int (nI hd)], oc pa 0 [.ref (pA 0), .ref (pA 1), .ref (pA 2), .ref (pA 3), .ref (pA 4), .ref (pA 5), .ref (pA 6), .ref (pA 7), .ref (pA 8), .ref (pA 9), .ref (pA 10), .int (nI T), .int (nI Ac)], ia (pA 4) (pK 4) 7 (fun i => nI ((pg 4) i)), ia (pA 5) (pK 5) 7 (fun i => nI ((pg 5) i))] s.heap := hP
  have hl := lv_entry ([.ref ba, .int (nI a)]) (n := 3) (Nat.le_of_ble_eq_true rfl)
  rw [lg_entry_eq]
  generalize (lg_sl ([.ref ba, .int (nI a)]) ++ List.replicate (3 - (lg_sl ([.ref ba, .int (nI a)])).length) Slot.unset).toArray = ls at hl ⊢
  replace hl : lv_has ls 3 [(0, .ref ba), (1, .int (nI a))] := hl
  refine lv_aload_n hx hb d_BufferWalk_keepWritten_0 rfl (lv_at hl 0 rfl) ?_
  refine va_get (D := (dC, dI)) (ci := 4) (v := .ref pa) (C := R_BufferWalk) (T := F_BufferWalk) (N := 9) hx hb hw i_BufferWalk hown hK hP 0 rfl rfl 0 (by decide) (hw _ m_250) (fun _ h9 => h9) rfl d_BufferWalk_keepWritten_1 ?_
  refine va_get (D := (dC, dI)) (ci := 0) (v := .ref (pA 4)) (C := R_Program) (T := F_Program) (N := 13) hx hb hw i_Program hown hK hP 1 rfl rfl 4 (by decide) (hw _ m_141) (fun _ h9 => h9) rfl d_BufferWalk_keepWritten_4 ?_
  refine lv_iload_n hx hb d_BufferWalk_keepWritten_7 rfl (lv_at hl 1 rfl) ?_
  refine va_iald (D := (dC, dI)) hx hb hK hP 2 0 rfl rfl (i := nI a) (pk_in a 7 (by omega)) d_BufferWalk_keepWritten_8 ?_
  refine tp_i (y := nI ((pg 4) a)) (by rw [show (nI a : Int32).toNatClampNeg = a from pk_cl a]) ?_
  refine tp_i (y := 2) (by rw [hk]; rfl) ?_
  refine lv_istore_n (lv' := [(2, .int 2), (0, .ref ba), (1, .int (nI a))]) hx hb d_BufferWalk_keepWritten_9 rfl hl (by decide) rfl ?_
  clear hl ls
  intro ls hl
  refine lv_iload_n hx hb d_BufferWalk_keepWritten_10 rfl (lv_at hl 0 rfl) ?_
  refine lv_iconst (v := 3) hx hb d_BufferWalk_keepWritten_11 (by decide) ?_
  refine lv_icmp_eq (tgt := 32) hx hb d_BufferWalk_keepWritten_12 (by decide) (fun c_1 => absurd c_1 (by decide)) (fun c_1 => ?_)
  refine tp_pc (pc' := 15) (by rfl) ?_
  refine lv_aload_n hx hb d_BufferWalk_keepWritten_15 rfl (lv_at hl 1 rfl) ?_
  refine va_get (D := (dC, dI)) (ci := 4) (v := .int (nI md)) (C := R_BufferWalk) (T := F_BufferWalk) (N := 9) hx hb hw i_BufferWalk hown hK hP 0 rfl rfl 6 (by decide) (hw _ m_257) (fun _ h9 => h9) rfl d_BufferWalk_keepWritten_16 ?_
  refine lv_if_ne (tgt := 40) hx hb d_BufferWalk_keepWritten_19 (by decide) (fun c9 => ?_) (fun c9 => absurd c9 (fun q => hmd0 ((nI_eq (a := md) (b := 0) (by omega) (by omega)).mp q)))
  refine tp_pc (pc' := 40) (by rfl) ?_
  refine lv_iload_n hx hb d_BufferWalk_keepWritten_40 rfl (lv_at hl 0 rfl) ?_
  refine lv_iconst (v := 1) hx hb d_BufferWalk_keepWritten_41 (by decide) ?_
  refine lv_icmp_eq (tgt := 50) hx hb d_BufferWalk_keepWritten_42 (by decide) (fun c_2 => absurd c_2 (by decide)) (fun c_2 => ?_)
  refine tp_pc (pc' := 45) (by rfl) ?_
  refine lv_iload_n hx hb d_BufferWalk_keepWritten_45 rfl (lv_at hl 0 rfl) ?_
  refine lv_iconst (v := 2) hx hb d_BufferWalk_keepWritten_46 (by decide) ?_
  refine lv_icmp_ne (tgt := 62) hx hb d_BufferWalk_keepWritten_47 (by decide) (fun c_3 => absurd c_3 (by decide)) (fun c_3 => ?_)
  refine tp_pc (pc' := 50) (by rfl) ?_
  refine lv_aload_n hx hb d_BufferWalk_keepWritten_50 rfl (lv_at hl 1 rfl) ?_
  refine lv_dup hx hb d_BufferWalk_keepWritten_51 rfl ?_
  refine va_get (D := (dC, dI)) (ci := 4) (v := .int (nI hd)) (C := R_BufferWalk) (T := F_BufferWalk) (N := 9) hx hb hw i_BufferWalk hown hK hP 0 rfl rfl 8 (by decide) (hw _ m_259) (fun _ h9 => h9) rfl d_BufferWalk_keepWritten_52 ?_
  refine lv_iconst (v := 1) hx hb d_BufferWalk_keepWritten_55 (by decide) ?_
  refine lv_iload_n hx hb d_BufferWalk_keepWritten_56 rfl (lv_at hl 2 rfl) ?_
  refine lv_ishl hx hb d_BufferWalk_keepWritten_57 ?_
  refine tp_i (y := 1 <<< ((nI a) &&& 31)) rfl ?_
  refine lv_ior hx hb d_BufferWalk_keepWritten_58 ?_
  refine tp_i (y := (nI hd) ||| (1 <<< ((nI a) &&& 31))) rfl ?_
  refine tp_i (y := nI (hd ||| 2 ^ a)) (set_eq hd hh a ha) ?_
  refine va_put (D := (dC, dI)) (ci := 4) (v := .int (nI (hd ||| 2 ^ a))) (ty := .int) (C := R_BufferWalk) (T := F_BufferWalk) (N := 9) hx hb hw i_BufferWalk t_BufferWalk t_BufferWalk_ok n_BufferWalk hown hK hP (dd_D hD rfl) hS 0 rfl rfl 8 (by decide) (hw _ m_259) (fun _ h9 => h9) rfl (by decide +kernel) rfl rfl (Nat.le_of_ble_eq_true rfl) d_BufferWalk_keepWritten_59 ?_
  clear hP hS
  intro H locs (hP : va_P (dC, dI) classes [oc ba 4 [.ref pa, .ref ga, .ref sa, .ref b1, .ref b2, .ref fa, .int (nI md), .int (nI mm), .int (nI (hd ||| 2 ^ a))], oc pa 0 [.ref (pA 0), .ref (pA 1), .ref (pA 2), .ref (pA 3), .ref (pA 4), .ref (pA 5), .ref (pA 6), .ref (pA 7), .ref (pA 8), .ref (pA 9), .ref (pA 10), .int (nI T), .int (nI Ac)], ia (pA 4) (pK 4) 7 (fun i => nI ((pg 4) i)), ia (pA 5) (pK 5) 7 (fun i => nI ((pg 5) i))] H) _ hS
  refine tp_pc (pc' := 62) (by rfl) ?_
  obtain ⟨hP9, hD9, -⟩ := cut3 (wc := [oc ba 4 [.ref pa, .ref ga, .ref sa, .ref b1, .ref b2, .ref fa, .int (nI md), .int (nI mm), .int (nI (hd ||| 2 ^ a))], oc pa 0 [.ref (pA 0), .ref (pA 1), .ref (pA 2), .ref (pA 3), .ref (pA 4), .ref (pA 5), .ref (pA 6), .ref (pA 7), .ref (pA 8), .ref (pA 9), .ref (pA 10), .int (nI T), .int (nI Ac)], ia (pA 4) (pK 4) 7 (fun i => nI ((pg 4) i)), ia (pA 5) (pK 5) 7 (fun i => nI ((pg 5) i))]) hP hD rfl hS hA [0, 1, 2, 3] (by decide +kernel) rfl
  have hK9 := hK.sub (tys' := []) [] rfl
  refine W.widen (k := 0) (n := 0) (by exact Nat.le_of_ble_eq_true rfl) (by exact Nat.le_of_ble_eq_true rfl) ?_
  exact W.vret hx hb hr (fun t9 ht9 hW => ⟨⟨(), rfl, trivial, by rw [ht9]; exact hP9, va_K.moved hW.alike hK9, hD9⟩, hS.F ht9⟩) hS.2.2 d_BufferWalk_keepWritten_62
