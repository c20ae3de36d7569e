def hi9 (ow : Nat) : Nat := if ow / 2 ^ 6 % 2 = 1 then 7 else if ow / 2 ^ 5 % 2 = 1 then 6 else if ow / 2 ^ 4 % 2 = 1 then 5 else if ow / 2 ^ 3 % 2 = 1 then 4 else if ow / 2 ^ 2 % 2 = 1 then 3 else if ow / 2 ^ 1 % 2 = 1 then 2 else if ow / 2 ^ 0 % 2 = 1 then 1 else 0
/-- where a READ has its value from: the last own one that waits, or memory -/
def srcF (hd mm ofT onV x : Nat) : Nat := if hd &&& ofT &&& onV = 0 then srcM mm x else hi9 (hd &&& ofT &&& onV)
set_option maxHeartbeats 4000000 in
set_option maxRecDepth 100000 in
theorem gen_BufferWalk_sourceFor (l : Launch) (dC : Nat → ClassId) (dI : Nat → Nat → Nat) (pa : Nat) (pA : Nat → Nat) (pK : Nat → ClassId) (T Ac : Nat) (pg : Nat → Nat → Nat) (nm : Nat → Int32) (ba ga sa b1 b2 fa : Nat) (md mm hd : Nat) (a : Nat) (ha : a < 7) (h2 : pg 2 a < 4) (hx3 : pg 5 a < 3) (hh : hd < 128) (ho : pg 8 (pg 2 a) < 128) (hv : pg 10 (pg 5 a) < 128) (hm : mm < 512) (sz : Nat) : Met l y_BufferWalk_sourceFor w_BufferWalk_sourceFor ({ frames := 1, cells := 0, slots := 0, locals := 30 }) (va_Pc [.ref ba, .int (nI a)] (fun U => U.heap.size = sz ∧ va_P (dC, dI) classes [oc ba 4 [.ref pa, .ref ga, .ref sa, .ref b1, .ref b2, .ref fa, .int (nI md), .int (nI mm), .int (nI hd)], oc pa 0 [.ref (pA 0), .ref (pA 1), .ref (pA 2), .ref (pA 3), .ref (pA 4), .ref (pA 5), .ref (pA 6), .ref (pA 7), .ref (pA 8), .ref (pA 9), .ref (pA 10), .int (nI T), .int (nI Ac)], ia (pA 2) (pK 2) 7 (fun i => nI ((pg 2) i)), ia (pA 5) (pK 5) 7 (fun i => nI ((pg 5) i)), ia (pA 8) (pK 8) 4 (fun i => nI ((pg 8) i)), ia (pA 10) (pK 10) 3 (fun i => nI ((pg 10) i))] U.heap ∧ va_K (dC, dI) classes [((pK 2), .int), ((pK 5), .int), ((pK 8), .int), ((pK 10), .int)] U ∧ va_D (fun _ => True) [oc ba 4 [.ref pa, .ref ga, .ref sa, .ref b1, .ref b2, .ref fa, .int (nI md), .int (nI mm), .int (nI hd)], oc pa 0 [.ref (pA 0), .ref (pA 1), .ref (pA 2), .ref (pA 3), .ref (pA 4), .ref (pA 5), .ref (pA 6), .ref (pA 7), .ref (pA 8), .ref (pA 9), .ref (pA 10), .int (nI T), .int (nI Ac)], ia (pA 2) (pK 2) 7 (fun i => nI ((pg 2) i)), ia (pA 5) (pK 5) 7 (fun i => nI ((pg 5) i)), ia (pA 8) (pK 8) 4 (fun i => nI ((pg 8) i)), ia (pA 10) (pK 10) 3 (fun i => nI ((pg 10) i))] ∧ nw U)) (va_Qi (fun (r : Int32) (_ : Unit) => r = nI (srcF hd mm (pg 8 (pg 2 a)) (pg 10 (pg 5 a)) (pg 5 a))) (fun _ t9 => va_P (dC, dI) classes [oc ba 4 [.ref pa, .ref ga, .ref sa, .ref b1, .ref b2, .ref fa, .int (nI md), .int (nI mm), .int (nI hd)], oc pa 0 [.ref (pA 0), .ref (pA 1), .ref (pA 2), .ref (pA 3), .ref (pA 4), .ref (pA 5), .ref (pA 6), .ref (pA 7), .ref (pA 8), .ref (pA 9), .ref (pA 10), .int (nI T), .int (nI Ac)], ia (pA 2) (pK 2) 7 (fun i => nI ((pg 2) i)), ia (pA 5) (pK 5) 7 (fun i => nI ((pg 5) i)), ia (pA 8) (pK 8) 4 (fun i => nI ((pg 8) i)), ia (pA 10) (pK 10) 3 (fun i => nI ((pg 10) i))] t9.heap ∧ va_K (dC, dI) classes [] t9 ∧ va_D (va_A [oc ba 4 [.ref pa, .ref ga, .ref sa, .ref b1, .ref b2, .ref fa, .int (nI md), .int (nI mm), .int (nI hd)], oc pa 0 [.ref (pA 0), .ref (pA 1), .ref (pA 2), .ref (pA 3), .ref (pA 4), .ref (pA 5), .ref (pA 6), .ref (pA 7), .ref (pA 8), .ref (pA 9), .ref (pA 10), .int (nI T), .int (nI Ac)], ia (pA 2) (pK 2) 7 (fun i => nI ((pg 2) i)), ia (pA 5) (pK 5) 7 (fun i => nI ((pg 5) i)), ia (pA 8) (pK 8) 4 (fun i => nI ((pg 8) i)), ia (pA 10) (pK 10) 3 (fun i => nI ((pg 10) i))] sz) [oc ba 4 [.ref pa, .ref ga, .ref sa, .ref b1, .ref b2, .ref fa, .int (nI md), .int (nI mm), .int (nI hd)], oc pa 0 [.ref (pA 0), .ref (pA 1), .ref (pA 2), .ref (pA 3), .ref (pA 4), .ref (pA 5), .ref (pA 6), .ref (pA 7), .ref (pA 8), .ref (pA 9), .ref (pA 10), .int (nI T), .int (nI Ac)], ia (pA 2) (pK 2) 7 (fun i => nI ((pg 2) i)), ia (pA 5) (pK 5) 7 (fun i => nI ((pg 5) i)), ia (pA 8) (pK 8) 4 (fun i => nI ((pg 8) i)), ia (pA 10) (pK 10) 3 (fun i => nI ((pg 10) i))]) (va_A [oc ba 4 [.ref pa, .ref ga, .ref sa, .ref b1, .ref b2, .ref fa, .int (nI md), .int (nI mm), .int (nI hd)], oc pa 0 [.ref (pA 0), .ref (pA 1), .ref (pA 2), .ref (pA 3), .ref (pA 4), .ref (pA 5), .ref (pA 6), .ref (pA 7), .ref (pA 8), .ref (pA 9), .ref (pA 10), .int (nI T), .int (nI Ac)], ia (pA 2) (pK 2) 7 (fun i => nI ((pg 2) i)), ia (pA 5) (pK 5) 7 (fun i => nI ((pg 5) i)), ia (pA 8) (pK 8) 4 (fun i => nI ((pg 8) i)), ia (pA 10) (pK 10) 3 (fun i => nI ((pg 10) i))] sz)) 0 0 (va_A [oc ba 4 [.ref pa, .ref ga, .ref sa, .ref b1, .ref b2, .ref fa, .int (nI md), .int (nI mm), .int (nI hd)], oc pa 0 [.ref (pA 0), .ref (pA 1), .ref (pA 2), .ref (pA 3), .ref (pA 4), .ref (pA 5), .ref (pA 6), .ref (pA 7), .ref (pA 8), .ref (pA 9), .ref (pA 10), .int (nI T), .int (nI Ac)], ia (pA 2) (pK 2) 7 (fun i => nI ((pg 2) i)), ia (pA 5) (pK 5) 7 (fun i => nI ((pg 5) i)), ia (pA 8) (pK 8) 4 (fun i => nI ((pg 8) i)), ia (pA 10) (pK 10) 3 (fun i => nI ((pg 10) i))] sz) := by
  refine Met.ofW (cc := b_BufferWalk_sourceFor) (maxL := 5) (ret := (some .int)) (by decide) rfl ?_
  intro p e0 s m args below meth c s₁ B hml hv
  obtain ⟨rfl, hsz, hP, hK, hD0, hn⟩ := hv
  have hx := B.exec
  have hb := B.bytes
  have hr := B.returns
  have hw := fun w (h : w ∈ wt) => atoms_spec (ws := w_BufferWalk_sourceFor) B.pre w (List.mem_cons_of_mem _ h)
  have hown : s.vm.findClass R_BufferWalk = some m.cls := findClass_of_methodNamed B.named
  have hlocks := B.notSynchronized
  subst hsz
  have hD1 := hD0.self (sz := s.heap.size)
  generalize hAe : va_A [oc ba 4 [.ref pa, .ref ga, .ref sa, .ref b1, .ref b2, .ref fa, .int (nI md), .int (nI mm), .int (nI hd)], oc pa 0 [.ref (pA 0), .ref (pA 1), .ref (pA 2), .ref (pA 3), .ref (pA 4), .ref (pA 5), .ref (pA 6), .ref (pA 7), .ref (pA 8), .ref (pA 9), .ref (pA 10), .int (nI T), .int (nI Ac)], ia (pA 2) (pK 2) 7 (fun i => nI ((pg 2) i)), ia (pA 5) (pK 5) 7 (fun i => nI ((pg 5) i)), ia (pA 8) (pK 8) 4 (fun i => nI ((pg 8) i)), ia (pA 10) (pK 10) 3 (fun i => nI ((pg 10) i))] s.heap.size = A at hD1 ⊢
  have hA : ∀ q : Nat, s.heap.size ≤ q → A q := fun q h => by rw [← hAe]; exact Or.inr h
  have hD : dd A [ba, pa, (pA 2), (pA 5), (pA 8), (pA 10)] := dd_of hD1 rfl
  clear hAe hD0 hD1
  have hS : va_S A s.heap s.heap [] := va_S.rf
  replace hP : va_P (dC, dI) classes [oc ba 4 [.ref pa, .ref ga, .ref sa, .ref b1, .ref b2, .ref fa, .int (nI md), .int (nI mm), .int (nI hd)], oc pa 0 [.ref (pA 0), .ref (pA 1), .ref (pA 2), .ref (pA 3), .ref (pA 4), .ref (pA 5), .ref (pA 6), .ref (pA 7), .ref (pA 8), .ref (pA 9), .ref (pA 10), .int (nI T), .int (nI Ac)], ia (pA 2) (pK 2) 7 (fun i => nI ((pg 2) i)), ia (pA 5) (pK 5) 7 (fun i => nI ((pg 5) i)), ia (pA 8) (pK 8) 4 (fun i => nI ((pg 8) i)), ia (pA 10) (pK 10) 3 (fun i => nI ((pg 10) i))] s.heap := hP
  have hl := lv_entry ([.ref ba, .int (nI a)]) (n := 5) (Nat.le_of_ble_eq_true rfl)
  rw [lg_entry_eq]
  generalize (lg_sl ([.ref ba, .int (nI a)]) ++ List.replicate (5 - (lg_sl ([.ref ba, .int (nI a)])).length) Slot.unset).toArray = ls at hl ⊢
  replace hl : lv_has ls 5 [(0, .ref ba), (1, .int (nI a))] := hl
  refine lv_aload_n hx hb d_BufferWalk_sourceFor_0 rfl (lv_at hl 0 rfl) ?_
  refine va_get (D := (dC, dI)) (ci := 4) (v := .ref pa) (C := R_BufferWalk) (T := F_BufferWalk) (N := 9) hx hb hw i_BufferWalk hown hK hP 0 rfl rfl 0 (by decide) (hw _ m_250) (fun _ h9 => h9) rfl d_BufferWalk_sourceFor_1 ?_
  refine va_get (D := (dC, dI)) (ci := 0) (v := .ref (pA 5)) (C := R_Program) (T := F_Program) (N := 13) hx hb hw i_Program hown hK hP 1 rfl rfl 5 (by decide) (hw _ m_147) (fun _ h9 => h9) rfl d_BufferWalk_sourceFor_4 ?_
  refine lv_iload_n hx hb d_BufferWalk_sourceFor_7 rfl (lv_at hl 1 rfl) ?_
  refine va_iald (D := (dC, dI)) hx hb hK hP 3 1 rfl rfl (i := nI a) (pk_in a 7 (by omega)) d_BufferWalk_sourceFor_8 ?_
  refine tp_i (y := nI ((pg 5) a)) (by rw [show (nI a : Int32).toNatClampNeg = a from pk_cl a]) ?_
  refine lv_istore_n (lv' := [(2, .int (nI ((pg 5) a))), (0, .ref ba), (1, .int (nI a))]) hx hb d_BufferWalk_sourceFor_9 rfl hl (by decide) rfl ?_
  clear hl ls
  intro ls hl
  refine lv_aload_n hx hb d_BufferWalk_sourceFor_10 rfl (lv_at hl 1 rfl) ?_
  refine va_get (D := (dC, dI)) (ci := 4) (v := .int (nI hd)) (C := R_BufferWalk) (T := F_BufferWalk) (N := 9) hx hb hw i_BufferWalk hown hK hP 0 rfl rfl 8 (by decide) (hw _ m_259) (fun _ h9 => h9) rfl d_BufferWalk_sourceFor_11 ?_
  refine lv_aload_n hx hb d_BufferWalk_sourceFor_14 rfl (lv_at hl 1 rfl) ?_
  refine va_get (D := (dC, dI)) (ci := 4) (v := .ref pa) (C := R_BufferWalk) (T := F_BufferWalk) (N := 9) hx hb hw i_BufferWalk hown hK hP 0 rfl rfl 0 (by decide) (hw _ m_250) (fun _ h9 => h9) rfl d_BufferWalk_sourceFor_15 ?_
  refine va_get (D := (dC, dI)) (ci := 0) (v := .ref (pA 8)) (C := R_Program) (T := F_Program) (N := 13) hx hb hw i_Program hown hK hP 1 rfl rfl 8 (by decide) (hw _ m_153) (fun _ h9 => h9) rfl d_BufferWalk_sourceFor_18 ?_
  refine lv_aload_n hx hb d_BufferWalk_sourceFor_21 rfl (lv_at hl 1 rfl) ?_
  refine va_get (D := (dC, dI)) (ci := 4) (v := .ref pa) (C := R_BufferWalk) (T := F_BufferWalk) (N := 9) hx hb hw i_BufferWalk hown hK hP 0 rfl rfl 0 (by decide) (hw _ m_250) (fun _ h9 => h9) rfl d_BufferWalk_sourceFor_22 ?_
  refine va_get (D := (dC, dI)) (ci := 0) (v := .ref (pA 2)) (C := R_Program) (T := F_Program) (N := 13) hx hb hw i_Program hown hK hP 1 rfl rfl 2 (by decide) (hw _ m_131) (fun _ h9 => h9) rfl d_BufferWalk_sourceFor_25 ?_
  refine lv_iload_n hx hb d_BufferWalk_sourceFor_28 rfl (lv_at hl 2 rfl) ?_
  refine va_iald (D := (dC, dI)) hx hb hK hP 2 0 rfl rfl (i := nI a) (pk_in a 7 (by omega)) d_BufferWalk_sourceFor_29 ?_
  refine tp_i (y := nI ((pg 2) a)) (by rw [show (nI a : Int32).toNatClampNeg = a from pk_cl a]) ?_
  refine va_iald (D := (dC, dI)) hx hb hK hP 4 2 rfl rfl (i := nI ((pg 2) a)) (pk_in ((pg 2) a) 4 (by omega)) d_BufferWalk_sourceFor_30 ?_
  refine tp_i (y := nI ((pg 8) ((pg 2) a))) (by rw [show (nI ((pg 2) a) : Int32).toNatClampNeg = (pg 2) a from pk_cl ((pg 2) a)]) ?_
  refine lv_iand hx hb d_BufferWalk_sourceFor_31 ?_
  refine tp_i (y := (nI hd) &&& (nI ((pg 8) ((pg 2) a)))) rfl ?_
  refine tp_i (y := nI (hd &&& pg 8 (pg 2 a))) (and_eq hh ho) ?_
  have ho2 : hd &&& pg 8 (pg 2 a) < 128 := Nat.and_lt_two_pow (n := 7) _ ho
  refine lv_aload_n hx hb d_BufferWalk_sourceFor_32 rfl (lv_at hl 1 rfl) ?_
  refine va_get (D := (dC, dI)) (ci := 4) (v := .ref pa) (C := R_BufferWalk) (T := F_BufferWalk) (N := 9) hx hb hw i_BufferWalk hown hK hP 0 rfl rfl 0 (by decide) (hw _ m_250) (fun _ h9 => h9) rfl d_BufferWalk_sourceFor_33 ?_
  refine va_get (D := (dC, dI)) (ci := 0) (v := .ref (pA 10)) (C := R_Program) (T := F_Program) (N := 13) hx hb hw i_Program hown hK hP 1 rfl rfl 10 (by decide) (hw _ m_159) (fun _ h9 => h9) rfl d_BufferWalk_sourceFor_36 ?_
  refine lv_iload_n hx hb d_BufferWalk_sourceFor_39 rfl (lv_at hl 0 rfl) ?_
  refine va_iald (D := (dC, dI)) hx hb hK hP 5 3 rfl rfl (i := nI ((pg 5) a)) (pk_in ((pg 5) a) 3 (by omega)) d_BufferWalk_sourceFor_40 ?_
  refine tp_i (y := nI ((pg 10) ((pg 5) a))) (by rw [show (nI ((pg 5) a) : Int32).toNatClampNeg = (pg 5) a from pk_cl ((pg 5) a)]) ?_
  refine lv_iand hx hb d_BufferWalk_sourceFor_41 ?_
  refine tp_i (y := (nI (hd &&& pg 8 (pg 2 a))) &&& (nI ((pg 10) ((pg 5) a)))) rfl ?_
  obtain ⟨ow, how⟩ : ∃ ow, ow = hd &&& pg 8 (pg 2 a) &&& pg 10 (pg 5 a) := ⟨_, rfl⟩
  have how2 : ow < 128 := by rw [how]; exact Nat.and_lt_two_pow (n := 7) _ hv
  refine tp_i (y := nI ow) (by rw [how]; exact and_eq ho2 hv) ?_
  have hr9 : ∀ z, z = (if ow = 0 then srcM mm (pg 5 a) else hi9 ow) → z = srcF hd mm (pg 8 (pg 2 a)) (pg 10 (pg 5 a)) (pg 5 a) := fun z hz => by rw [hz, how]; rfl
  refine lv_istore_n (lv' := [(3, .int (nI ow)), (2, .int (nI ((pg 5) a))), (0, .ref ba), (1, .int (nI a))]) hx hb d_BufferWalk_sourceFor_42 rfl hl (by decide) rfl ?_
  clear hl ls
  intro ls hl
  refine lv_bipush (v := 6) hx hb d_BufferWalk_sourceFor_43 (by decide) ?_
  refine lv_istore (lv' := [(4, .int 6), (3, .int (nI ow)), (2, .int (nI ((pg 5) a))), (0, .ref ba), (1, .int (nI a))]) hx hb d_BufferWalk_sourceFor_45 hl (by decide) rfl ?_
  clear hl ls
  intro ls hl
  refine lv_iload hx hb d_BufferWalk_sourceFor_47 (lv_at hl 0 rfl) ?_
  refine lv_if_lt (tgt := 76) hx hb d_BufferWalk_sourceFor_49 (by decide) (fun c_1 => absurd c_1 (by decide)) (fun c_1 => ?_)
  refine tp_pc (pc' := 52) (by rfl) ?_
  refine lv_iload_n hx hb d_BufferWalk_sourceFor_52 rfl (lv_at hl 1 rfl) ?_
  refine lv_if_eq (tgt := 76) hx hb d_BufferWalk_sourceFor_53 (by decide) (fun c0 => ?_) (fun c0 => ?_)
  · skip
    have hc0 : ow = 0 := (nI_eq (a := ow) (b := 0) (by omega) (by omega)).mp c0
    refine tp_pc (pc' := 76) (by rfl) ?_
    refine lv_aload_n hx hb d_BufferWalk_sourceFor_76 rfl (lv_at hl 3 rfl) ?_
    refine lv_iload_n hx hb d_BufferWalk_sourceFor_77 rfl (lv_at hl 2 rfl) ?_
    obtain ⟨hPc, hDc, hFc⟩ := cut3 (wc := [oc ba 4 [.ref pa, .ref ga, .ref sa, .ref b1, .ref b2, .ref fa, .int (nI md), .int (nI mm), .int (nI hd)]]) hP hD rfl hS hA [0] (by decide +kernel) rfl
    have hKc := hK.sub (tys' := []) [] rfl
    refine va_calli (va_runV (As := [.int (nI ((pg 5) a))]) (rest := []) ⟨hx, hb, hml, hown, hw⟩ (gen_BufferWalk_sourceIn l dC dI pa ba ga sa b1 b2 fa md mm hd (pg 5 a) hm hx3 s.heap.size) (cw_V 1 hw g_BufferWalk_sourceIn rfl rfl rfl (hw _ m_105) (hw _ m_685) (hw _ m_687) (hw _ m_25) (by decide +kernel) ⟨Nat.le_of_ble_eq_true rfl, Nat.le_of_ble_eq_true rfl⟩) ⟨fun a U g mk q => by obtain ⟨q0, q1, qP, qK, qD, qN⟩ := q; exact ⟨q0, q1, qP, va_K.moved (u := U) (U := U.calling g mk a) (Vm.Alike.refl U.vm) qK, qD, nw_call qN⟩, va_recv hKc hPc (ci := 4) (q0 := 0) rfl rfl, fun U hU hW => ⟨rfl, by rw [hU], by rw [hU]; exact hPc, va_K.moved hW.alike hKc, hDc.weaken (fun _ _ _ _ => trivial), nw_warm hW hn⟩⟩ rfl rfl hl.1 rfl (lv_room (Nat.le_of_ble_eq_true rfl)) d_BufferWalk_sourceFor_78 ⟨Nat.le_of_ble_eq_true rfl, Nat.le_of_ble_eq_true rfl⟩) hS (fun q _ h => hFc q h) hFc ?_
    intro r_2 u t9 H1 locs1 ht9 hvm hw1 hB hz1 hk1 hS1
    obtain ⟨hP1, hK1, hD1⟩ := hB
    rw [ht9] at hP1
    replace hK1 := va_K.moved hvm.symm hK1
    have hPD := join3 hP hD rfl [0] [1, 2, 3, 4, 5] rfl (by rfl) (by decide +kernel) (by decide +kernel) hk1 hFc hP1 hD1
    replace hK : va_K (dC, dI) classes [((pK 2), .int), ((pK 5), .int), ((pK 8), .int), ((pK 10), .int)] s := hK.app hK1
    clear hP1 hK1 hD1 hk1 hz1 hFc hKc hDc hPc hvm ht9 hP hS t9
    have hP : va_P (dC, dI) classes [oc pa 0 [.ref (pA 0), .ref (pA 1), .ref (pA 2), .ref (pA 3), .ref (pA 4), .ref (pA 5), .ref (pA 6), .ref (pA 7), .ref (pA 8), .ref (pA 9), .ref (pA 10), .int (nI T), .int (nI Ac)], ia (pA 2) (pK 2) 7 (fun i => nI ((pg 2) i)), ia (pA 5) (pK 5) 7 (fun i => nI ((pg 5) i)), ia (pA 8) (pK 8) 4 (fun i => nI ((pg 8) i)), ia (pA 10) (pK 10) 3 (fun i => nI ((pg 10) i)), oc ba 4 [.ref pa, .ref ga, .ref sa, .ref b1, .ref b2, .ref fa, .int (nI md), .int (nI mm), .int (nI hd)]] H1 := hPD.1
    replace hD : dd A [pa, (pA 2), (pA 5), (pA 8), (pA 10), ba] := dd_of hPD.2 rfl
    clear hPD
    revert H1 locs1
    intro H locs hS hP
    refine tp_i (y := nI (srcM mm (pg 5 a))) (hw1) ?_
    clear hw1 r_2 u
    refine tp_pc (pc' := 81) (by rfl) ?_
    obtain ⟨hP9, hD9, -⟩ := cut3 (wc := [oc ba 4 [.ref pa, .ref ga, .ref sa, .ref b1, .ref b2, .ref fa, .int (nI md), .int (nI mm), .int (nI hd)], oc pa 0 [.ref (pA 0), .ref (pA 1), .ref (pA 2), .ref (pA 3), .ref (pA 4), .ref (pA 5), .ref (pA 6), .ref (pA 7), .ref (pA 8), .ref (pA 9), .ref (pA 10), .int (nI T), .int (nI Ac)], ia (pA 2) (pK 2) 7 (fun i => nI ((pg 2) i)), ia (pA 5) (pK 5) 7 (fun i => nI ((pg 5) i)), ia (pA 8) (pK 8) 4 (fun i => nI ((pg 8) i)), ia (pA 10) (pK 10) 3 (fun i => nI ((pg 10) i))]) hP hD rfl hS hA [5, 0, 1, 2, 3, 4] (by decide +kernel) rfl
    have hK9 := hK.sub (tys' := []) [] rfl
    refine W.widen (k := 0) (n := 0) (by exact Nat.le_of_ble_eq_true rfl) (by exact Nat.le_of_ble_eq_true rfl) ?_
    exact W.iret (v := (nI (srcM mm (pg 5 a)))) hx hb hr (fun t9 ht9 hW => ⟨⟨nI (srcM mm (pg 5 a)), (), rfl, congrArg nI (hr9 _ ((if_pos hc0).symm)), by rw [ht9]; exact hP9, va_K.moved hW.alike hK9, hD9⟩, hS.F ht9⟩) hS.2.2 d_BufferWalk_sourceFor_81
  · skip
    have hc0 : ¬ (ow = 0) := fun q9 => c0 ((nI_eq (a := ow) (b := 0) (by omega) (by omega)).mpr q9)
    refine tp_pc (pc' := 56) (by rfl) ?_
    refine lv_iload_n hx hb d_BufferWalk_sourceFor_56 rfl (lv_at hl 1 rfl) ?_
    refine lv_iload hx hb d_BufferWalk_sourceFor_57 (lv_at hl 0 rfl) ?_
    obtain ⟨hPc, hDc, hFc⟩ := cut3 (wc := []) hP hD rfl hS hA [] (by decide +kernel) rfl
    have hKc := hK.sub (tys' := []) [] rfl
    refine va_calli (va_runSN (As := [.int (nI ow), .int 6]) (rest := []) ⟨hx, hb, hml, hown, hw⟩ (gen_isIn l dC dI ow 6 (by omega) (by omega) s.heap.size) (⟨va_cnB 2 hw g_OM_isIn rfl rfl rfl (hn.1 (R_BufferWalk, 146, y_OM_isIn, "OrderModels") (nq 2 (by rfl))) (hw _ m_101) (by decide +kernel) ⟨Nat.le_of_ble_eq_true rfl, Nat.le_of_ble_eq_true rfl⟩, hw _ m_560, trivial⟩) ⟨fun a U g mk q => by obtain ⟨q0, q1, qP, qK, qD, qN⟩ := q; exact ⟨q0, q1, qP, va_K.moved (u := U) (U := U.calling g mk a) (Vm.Alike.refl U.vm) qK, qD, nw_call qN⟩, fun U hU hW => ⟨rfl, by rw [hU], by rw [hU]; exact hPc, va_K.moved hW.alike hKc, hDc.weaken (fun _ _ _ _ => trivial), nw_warm hW hn⟩⟩ rfl rfl hl.1 rfl (lv_room (Nat.le_of_ble_eq_true rfl)) d_BufferWalk_sourceFor_59 ⟨Nat.le_of_ble_eq_true rfl, Nat.le_of_ble_eq_true rfl⟩) hS (fun q _ h => hFc q h) hFc ?_
    intro r_3 u t9 H1 locs1 ht9 hvm hw1 hB hz1 hk1 hS1
    obtain ⟨hP1, hK1, hD1⟩ := hB
    rw [ht9] at hP1
    replace hK1 := va_K.moved hvm.symm hK1
    have hPD := join3 hP hD rfl [] [0, 1, 2, 3, 4, 5] rfl (by rfl) (by decide +kernel) (by decide +kernel) hk1 hFc hP1 hD1
    replace hK : va_K (dC, dI) classes [((pK 2), .int), ((pK 5), .int), ((pK 8), .int), ((pK 10), .int)] s := hK.app hK1
    clear hP1 hK1 hD1 hk1 hz1 hFc hKc hDc hPc hvm ht9 hP hS t9
    have hP : va_P (dC, dI) classes [oc ba 4 [.ref pa, .ref ga, .ref sa, .ref b1, .ref b2, .ref fa, .int (nI md), .int (nI mm), .int (nI hd)], oc pa 0 [.ref (pA 0), .ref (pA 1), .ref (pA 2), .ref (pA 3), .ref (pA 4), .ref (pA 5), .ref (pA 6), .ref (pA 7), .ref (pA 8), .ref (pA 9), .ref (pA 10), .int (nI T), .int (nI Ac)], ia (pA 2) (pK 2) 7 (fun i => nI ((pg 2) i)), ia (pA 5) (pK 5) 7 (fun i => nI ((pg 5) i)), ia (pA 8) (pK 8) 4 (fun i => nI ((pg 8) i)), ia (pA 10) (pK 10) 3 (fun i => nI ((pg 10) i))] H1 := hPD.1
    replace hD : dd A [ba, pa, (pA 2), (pA 5), (pA 8), (pA 10)] := dd_of hPD.2 rfl
    clear hPD
    revert H1 locs1
    intro H locs hS hP
    refine tp_i (y := nI (ow / 2 ^ 6 % 2)) (hw1) ?_
    clear hw1 r_3 u
    refine tp_pc (pc' := 62) (by rfl) ?_
    refine lv_if_eq (tgt := 70) hx hb d_BufferWalk_sourceFor_62 (by decide) (fun d6 => ?_) (fun d6 => ?_)
    · skip
      have hd6 : ow / 2 ^ 6 % 2 = 0 := (nI_eq (a := ow / 2 ^ 6 % 2) (b := 0) (by omega) (by omega)).mp d6
      refine tp_pc (pc' := 70) (by rfl) ?_
      refine lv_iinc (v := 5) (lv' := [(4, .int 5), (3, .int (nI ow)), (2, .int (nI ((pg 5) a))), (0, .ref ba), (1, .int (nI a))]) hx hb d_BufferWalk_sourceFor_70 hl (k := 0) rfl (by first | rfl | decide) (by decide) rfl ?_
      clear hl ls
      intro ls hl
      refine lv_goto (tgt := 47) hx hb d_BufferWalk_sourceFor_73 (by decide) ?_
      refine tp_pc (pc' := 47) (by rfl) ?_
      refine lv_iload hx hb d_BufferWalk_sourceFor_47 (lv_at hl 0 rfl) ?_
      refine lv_if_lt (tgt := 76) hx hb d_BufferWalk_sourceFor_49 (by decide) (fun c_4 => absurd c_4 (by decide)) (fun c_4 => ?_)
      refine tp_pc (pc' := 52) (by rfl) ?_
      refine lv_iload_n hx hb d_BufferWalk_sourceFor_52 rfl (lv_at hl 1 rfl) ?_
      refine lv_if_eq (tgt := 76) hx hb d_BufferWalk_sourceFor_53 (by decide) (fun c9 => absurd ((nI_eq (a := ow) (b := 0) (by omega) (by omega)).mp c9) hc0) (fun c9 => ?_)
      refine tp_pc (pc' := 56) (by rfl) ?_
      refine lv_iload_n hx hb d_BufferWalk_sourceFor_56 rfl (lv_at hl 1 rfl) ?_
      refine lv_iload hx hb d_BufferWalk_sourceFor_57 (lv_at hl 0 rfl) ?_
      obtain ⟨hPc, hDc, hFc⟩ := cut3 (wc := []) hP hD rfl hS hA [] (by decide +kernel) rfl
      have hKc := hK.sub (tys' := []) [] rfl
      refine va_calli (va_runSN (As := [.int (nI ow), .int 5]) (rest := []) ⟨hx, hb, hml, hown, hw⟩ (gen_isIn l dC dI ow 5 (by omega) (by omega) H.size) (⟨va_cnB 2 hw g_OM_isIn rfl rfl rfl (hn.1 (R_BufferWalk, 146, y_OM_isIn, "OrderModels") (nq 2 (by rfl))) (hw _ m_101) (by decide +kernel) ⟨Nat.le_of_ble_eq_true rfl, Nat.le_of_ble_eq_true rfl⟩, hw _ m_560, trivial⟩) ⟨fun a U g mk q => by obtain ⟨q0, q1, qP, qK, qD, qN⟩ := q; exact ⟨q0, q1, qP, va_K.moved (u := U) (U := U.calling g mk a) (Vm.Alike.refl U.vm) qK, qD, nw_call qN⟩, fun U hU hW => ⟨rfl, by rw [hU], by rw [hU]; exact hPc, va_K.moved hW.alike hKc, hDc.weaken (fun _ _ _ _ => trivial), nw_warm hW hn⟩⟩ rfl rfl hl.1 rfl (lv_room (Nat.le_of_ble_eq_true rfl)) d_BufferWalk_sourceFor_59 ⟨Nat.le_of_ble_eq_true rfl, Nat.le_of_ble_eq_true rfl⟩) hS (fun q _ h => hFc q h) hFc ?_
      intro r_5 u t9 H1 locs1 ht9 hvm hw1 hB hz1 hk1 hS1
      obtain ⟨hP1, hK1, hD1⟩ := hB
      rw [ht9] at hP1
      replace hK1 := va_K.moved hvm.symm hK1
      have hPD := join3 hP hD rfl [] [0, 1, 2, 3, 4, 5] rfl (by rfl) (by decide +kernel) (by decide +kernel) hk1 hFc hP1 hD1
      replace hK : va_K (dC, dI) classes [((pK 2), .int), ((pK 5), .int), ((pK 8), .int), ((pK 10), .int)] s := hK.app hK1
      clear hP1 hK1 hD1 hk1 hz1 hFc hKc hDc hPc hvm ht9 hP hS t9 locs H
      have hP : va_P (dC, dI) classes [oc ba 4 [.ref pa, .ref ga, .ref sa, .ref b1, .ref b2, .ref fa, .int (nI md), .int (nI mm), .int (nI hd)], oc pa 0 [.ref (pA 0), .ref (pA 1), .ref (pA 2), .ref (pA 3), .ref (pA 4), .ref (pA 5), .ref (pA 6), .ref (pA 7), .ref (pA 8), .ref (pA 9), .ref (pA 10), .int (nI T), .int (nI Ac)], ia (pA 2) (pK 2) 7 (fun i => nI ((pg 2) i)), ia (pA 5) (pK 5) 7 (fun i => nI ((pg 5) i)), ia (pA 8) (pK 8) 4 (fun i => nI ((pg 8) i)), ia (pA 10) (pK 10) 3 (fun i => nI ((pg 10) i))] H1 := hPD.1
      replace hD : dd A [ba, pa, (pA 2), (pA 5), (pA 8), (pA 10)] := dd_of hPD.2 rfl
      clear hPD
      revert H1 locs1
      intro H locs hS hP
      refine tp_i (y := nI (ow / 2 ^ 5 % 2)) (hw1) ?_
      clear hw1 r_5 u
      refine tp_pc (pc' := 62) (by rfl) ?_
      refine lv_if_eq (tgt := 70) hx hb d_BufferWalk_sourceFor_62 (by decide) (fun d5 => ?_) (fun d5 => ?_)
      · skip
        have hd5 : ow / 2 ^ 5 % 2 = 0 := (nI_eq (a := ow / 2 ^ 5 % 2) (b := 0) (by omega) (by omega)).mp d5
        refine tp_pc (pc' := 70) (by rfl) ?_
        refine lv_iinc (v := 4) (lv' := [(4, .int 4), (3, .int (nI ow)), (2, .int (nI ((pg 5) a))), (0, .ref ba), (1, .int (nI a))]) hx hb d_BufferWalk_sourceFor_70 hl (k := 0) rfl (by first | rfl | decide) (by decide) rfl ?_
        clear hl ls
        intro ls hl
        refine lv_goto (tgt := 47) hx hb d_BufferWalk_sourceFor_73 (by decide) ?_
        refine tp_pc (pc' := 47) (by rfl) ?_
        refine lv_iload hx hb d_BufferWalk_sourceFor_47 (lv_at hl 0 rfl) ?_
        refine lv_if_lt (tgt := 76) hx hb d_BufferWalk_sourceFor_49 (by decide) (fun c_6 => absurd c_6 (by decide)) (fun c_6 => ?_)
        refine tp_pc (pc' := 52) (by rfl) ?_
        refine lv_iload_n hx hb d_BufferWalk_sourceFor_52 rfl (lv_at hl 1 rfl) ?_
        refine lv_if_eq (tgt := 76) hx hb d_BufferWalk_sourceFor_53 (by decide) (fun c9 => absurd ((nI_eq (a := ow) (b := 0) (by omega) (by omega)).mp c9) hc0) (fun c9 => ?_)
        refine tp_pc (pc' := 56) (by rfl) ?_
        refine lv_iload_n hx hb d_BufferWalk_sourceFor_56 rfl (lv_at hl 1 rfl) ?_
        refine lv_iload hx hb d_BufferWalk_sourceFor_57 (lv_at hl 0 rfl) ?_
        obtain ⟨hPc, hDc, hFc⟩ := cut3 (wc := []) hP hD rfl hS hA [] (by decide +kernel) rfl
        have hKc := hK.sub (tys' := []) [] rfl
        refine va_calli (va_runSN (As := [.int (nI ow), .int 4]) (rest := []) ⟨hx, hb, hml, hown, hw⟩ (gen_isIn l dC dI ow 4 (by omega) (by omega) H.size) (⟨va_cnB 2 hw g_OM_isIn rfl rfl rfl (hn.1 (R_BufferWalk, 146, y_OM_isIn, "OrderModels") (nq 2 (by rfl))) (hw _ m_101) (by decide +kernel) ⟨Nat.le_of_ble_eq_true rfl, Nat.le_of_ble_eq_true rfl⟩, hw _ m_560, trivial⟩) ⟨fun a U g mk q => by obtain ⟨q0, q1, qP, qK, qD, qN⟩ := q; exact ⟨q0, q1, qP, va_K.moved (u := U) (U := U.calling g mk a) (Vm.Alike.refl U.vm) qK, qD, nw_call qN⟩, fun U hU hW => ⟨rfl, by rw [hU], by rw [hU]; exact hPc, va_K.moved hW.alike hKc, hDc.weaken (fun _ _ _ _ => trivial), nw_warm hW hn⟩⟩ rfl rfl hl.1 rfl (lv_room (Nat.le_of_ble_eq_true rfl)) d_BufferWalk_sourceFor_59 ⟨Nat.le_of_ble_eq_true rfl, Nat.le_of_ble_eq_true rfl⟩) hS (fun q _ h => hFc q h) hFc ?_
        intro r_7 u t9 H1 locs1 ht9 hvm hw1 hB hz1 hk1 hS1
        obtain ⟨hP1, hK1, hD1⟩ := hB
        rw [ht9] at hP1
        replace hK1 := va_K.moved hvm.symm hK1
        have hPD := join3 hP hD rfl [] [0, 1, 2, 3, 4, 5] rfl (by rfl) (by decide +kernel) (by decide +kernel) hk1 hFc hP1 hD1
        replace hK : va_K (dC, dI) classes [((pK 2), .int), ((pK 5), .int), ((pK 8), .int), ((pK 10), .int)] s := hK.app hK1
        clear hP1 hK1 hD1 hk1 hz1 hFc hKc hDc hPc hvm ht9 hP hS t9 locs H
        have hP : va_P (dC, dI) classes [oc ba 4 [.ref pa, .ref ga, .ref sa, .ref b1, .ref b2, .ref fa, .int (nI md), .int (nI mm), .int (nI hd)], oc pa 0 [.ref (pA 0), .ref (pA 1), .ref (pA 2), .ref (pA 3), .ref (pA 4), .ref (pA 5), .ref (pA 6), .ref (pA 7), .ref (pA 8), .ref (pA 9), .ref (pA 10), .int (nI T), .int (nI Ac)], ia (pA 2) (pK 2) 7 (fun i => nI ((pg 2) i)), ia (pA 5) (pK 5) 7 (fun i => nI ((pg 5) i)), ia (pA 8) (pK 8) 4 (fun i => nI ((pg 8) i)), ia (pA 10) (pK 10) 3 (fun i => nI ((pg 10) i))] H1 := hPD.1
        replace hD : dd A [ba, pa, (pA 2), (pA 5), (pA 8), (pA 10)] := dd_of hPD.2 rfl
        clear hPD
        revert H1 locs1
        intro H locs hS hP
        refine tp_i (y := nI (ow / 2 ^ 4 % 2)) (hw1) ?_
        clear hw1 r_7 u
        refine tp_pc (pc' := 62) (by rfl) ?_
        refine lv_if_eq (tgt := 70) hx hb d_BufferWalk_sourceFor_62 (by decide) (fun d4 => ?_) (fun d4 => ?_)
        · skip
          have hd4 : ow / 2 ^ 4 % 2 = 0 := (nI_eq (a := ow / 2 ^ 4 % 2) (b := 0) (by omega) (by omega)).mp d4
          refine tp_pc (pc' := 70) (by rfl) ?_
          refine lv_iinc (v := 3) (lv' := [(4, .int 3), (3, .int (nI ow)), (2, .int (nI ((pg 5) a))), (0, .ref ba), (1, .int (nI a))]) hx hb d_BufferWalk_sourceFor_70 hl (k := 0) rfl (by first | rfl | decide) (by decide) rfl ?_
          clear hl ls
          intro ls hl
          refine lv_goto (tgt := 47) hx hb d_BufferWalk_sourceFor_73 (by decide) ?_
          refine tp_pc (pc' := 47) (by rfl) ?_
          refine lv_iload hx hb d_BufferWalk_sourceFor_47 (lv_at hl 0 rfl) ?_
          refine lv_if_lt (tgt := 76) hx hb d_BufferWalk_sourceFor_49 (by decide) (fun c_8 => absurd c_8 (by decide)) (fun c_8 => ?_)
          refine tp_pc (pc' := 52) (by rfl) ?_
          refine lv_iload_n hx hb d_BufferWalk_sourceFor_52 rfl (lv_at hl 1 rfl) ?_
          refine lv_if_eq (tgt := 76) hx hb d_BufferWalk_sourceFor_53 (by decide) (fun c9 => absurd ((nI_eq (a := ow) (b := 0) (by omega) (by omega)).mp c9) hc0) (fun c9 => ?_)
          refine tp_pc (pc' := 56) (by rfl) ?_
          refine lv_iload_n hx hb d_BufferWalk_sourceFor_56 rfl (lv_at hl 1 rfl) ?_
          refine lv_iload hx hb d_BufferWalk_sourceFor_57 (lv_at hl 0 rfl) ?_
          obtain ⟨hPc, hDc, hFc⟩ := cut3 (wc := []) hP hD rfl hS hA [] (by decide +kernel) rfl
          have hKc := hK.sub (tys' := []) [] rfl
          refine va_calli (va_runSN (As := [.int (nI ow), .int 3]) (rest := []) ⟨hx, hb, hml, hown, hw⟩ (gen_isIn l dC dI ow 3 (by omega) (by omega) H.size) (⟨va_cnB 2 hw g_OM_isIn rfl rfl rfl (hn.1 (R_BufferWalk, 146, y_OM_isIn, "OrderModels") (nq 2 (by rfl))) (hw _ m_101) (by decide +kernel) ⟨Nat.le_of_ble_eq_true rfl, Nat.le_of_ble_eq_true rfl⟩, hw _ m_560, trivial⟩) ⟨fun a U g mk q => by obtain ⟨q0, q1, qP, qK, qD, qN⟩ := q; exact ⟨q0, q1, qP, va_K.moved (u := U) (U := U.calling g mk a) (Vm.Alike.refl U.vm) qK, qD, nw_call qN⟩, fun U hU hW => ⟨rfl, by rw [hU], by rw [hU]; exact hPc, va_K.moved hW.alike hKc, hDc.weaken (fun _ _ _ _ => trivial), nw_warm hW hn⟩⟩ rfl rfl hl.1 rfl (lv_room (Nat.le_of_ble_eq_true rfl)) d_BufferWalk_sourceFor_59 ⟨Nat.le_of_ble_eq_true rfl, Nat.le_of_ble_eq_true rfl⟩) hS (fun q _ h => hFc q h) hFc ?_
          intro r_9 u t9 H1 locs1 ht9 hvm hw1 hB hz1 hk1 hS1
          obtain ⟨hP1, hK1, hD1⟩ := hB
          rw [ht9] at hP1
          replace hK1 := va_K.moved hvm.symm hK1
          have hPD := join3 hP hD rfl [] [0, 1, 2, 3, 4, 5] rfl (by rfl) (by decide +kernel) (by decide +kernel) hk1 hFc hP1 hD1
          replace hK : va_K (dC, dI) classes [((pK 2), .int), ((pK 5), .int), ((pK 8), .int), ((pK 10), .int)] s := hK.app hK1
          clear hP1 hK1 hD1 hk1 hz1 hFc hKc hDc hPc hvm ht9 hP hS t9 locs H
          have hP : va_P (dC, dI) classes [oc ba 4 [.ref pa, .ref ga, .ref sa, .ref b1, .ref b2, .ref fa, .int (nI md), .int (nI mm), .int (nI hd)], oc pa 0 [.ref (pA 0), .ref (pA 1), .ref (pA 2), .ref (pA 3), .ref (pA 4), .ref (pA 5), .ref (pA 6), .ref (pA 7), .ref (pA 8), .ref (pA 9), .ref (pA 10), .int (nI T), .int (nI Ac)], ia (pA 2) (pK 2) 7 (fun i => nI ((pg 2) i)), ia (pA 5) (pK 5) 7 (fun i => nI ((pg 5) i)), ia (pA 8) (pK 8) 4 (fun i => nI ((pg 8) i)), ia (pA 10) (pK 10) 3 (fun i => nI ((pg 10) i))] H1 := hPD.1
          replace hD : dd A [ba, pa, (pA 2), (pA 5), (pA 8), (pA 10)] := dd_of hPD.2 rfl
          clear hPD
          revert H1 locs1
          intro H locs hS hP
          refine tp_i (y := nI (ow / 2 ^ 3 % 2)) (hw1) ?_
          clear hw1 r_9 u
          refine tp_pc (pc' := 62) (by rfl) ?_
          refine lv_if_eq (tgt := 70) hx hb d_BufferWalk_sourceFor_62 (by decide) (fun d3 => ?_) (fun d3 => ?_)
          · skip
            have hd3 : ow / 2 ^ 3 % 2 = 0 := (nI_eq (a := ow / 2 ^ 3 % 2) (b := 0) (by omega) (by omega)).mp d3
            refine tp_pc (pc' := 70) (by rfl) ?_
            refine lv_iinc (v := 2) (lv' := [(4, .int 2), (3, .int (nI ow)), (2, .int (nI ((pg 5) a))), (0, .ref ba), (1, .int (nI a))]) hx hb d_BufferWalk_sourceFor_70 hl (k := 0) rfl (by first | rfl | decide) (by decide) rfl ?_
            clear hl ls
            intro ls hl
            refine lv_goto (tgt := 47) hx hb d_BufferWalk_sourceFor_73 (by decide) ?_
            refine tp_pc (pc' := 47) (by rfl) ?_
            refine lv_iload hx hb d_BufferWalk_sourceFor_47 (lv_at hl 0 rfl) ?_
            refine lv_if_lt (tgt := 76) hx hb d_BufferWalk_sourceFor_49 (by decide) (fun c_10 => absurd c_10 (by decide)) (fun c_10 => ?_)
            refine tp_pc (pc' := 52) (by rfl) ?_
            refine lv_iload_n hx hb d_BufferWalk_sourceFor_52 rfl (lv_at hl 1 rfl) ?_
            refine lv_if_eq (tgt := 76) hx hb d_BufferWalk_sourceFor_53 (by decide) (fun c9 => absurd ((nI_eq (a := ow) (b := 0) (by omega) (by omega)).mp c9) hc0) (fun c9 => ?_)
            refine tp_pc (pc' := 56) (by rfl) ?_
            refine lv_iload_n hx hb d_BufferWalk_sourceFor_56 rfl (lv_at hl 1 rfl) ?_
            refine lv_iload hx hb d_BufferWalk_sourceFor_57 (lv_at hl 0 rfl) ?_
            obtain ⟨hPc, hDc, hFc⟩ := cut3 (wc := []) hP hD rfl hS hA [] (by decide +kernel) rfl
            have hKc := hK.sub (tys' := []) [] rfl
            refine va_calli (va_runSN (As := [.int (nI ow), .int 2]) (rest := []) ⟨hx, hb, hml, hown, hw⟩ (gen_isIn l dC dI ow 2 (by omega) (by omega) H.size) (⟨va_cnB 2 hw g_OM_isIn rfl rfl rfl (hn.1 (R_BufferWalk, 146, y_OM_isIn, "OrderModels") (nq 2 (by rfl))) (hw _ m_101) (by decide +kernel) ⟨Nat.le_of_ble_eq_true rfl, Nat.le_of_ble_eq_true rfl⟩, hw _ m_560, trivial⟩) ⟨fun a U g mk q => by obtain ⟨q0, q1, qP, qK, qD, qN⟩ := q; exact ⟨q0, q1, qP, va_K.moved (u := U) (U := U.calling g mk a) (Vm.Alike.refl U.vm) qK, qD, nw_call qN⟩, fun U hU hW => ⟨rfl, by rw [hU], by rw [hU]; exact hPc, va_K.moved hW.alike hKc, hDc.weaken (fun _ _ _ _ => trivial), nw_warm hW hn⟩⟩ rfl rfl hl.1 rfl (lv_room (Nat.le_of_ble_eq_true rfl)) d_BufferWalk_sourceFor_59 ⟨Nat.le_of_ble_eq_true rfl, Nat.le_of_ble_eq_true rfl⟩) hS (fun q _ h => hFc q h) hFc ?_
            intro r_11 u t9 H1 locs1 ht9 hvm hw1 hB hz1 hk1 hS1
            obtain ⟨hP1, hK1, hD1⟩ := hB
            rw [ht9] at hP1
            replace hK1 := va_K.moved hvm.symm hK1
            have hPD := join3 hP hD rfl [] [0, 1, 2, 3, 4, 5] rfl (by rfl) (by decide +kernel) (by decide +kernel) hk1 hFc hP1 hD1
            replace hK : va_K (dC, dI) classes [((pK 2), .int), ((pK 5), .int), ((pK 8), .int), ((pK 10), .int)] s := hK.app hK1
            clear hP1 hK1 hD1 hk1 hz1 hFc hKc hDc hPc hvm ht9 hP hS t9 locs H
            have hP : va_P (dC, dI) classes [oc ba 4 [.ref pa, .ref ga, .ref sa, .ref b1, .ref b2, .ref fa, .int (nI md), .int (nI mm), .int (nI hd)], oc pa 0 [.ref (pA 0), .ref (pA 1), .ref (pA 2), .ref (pA 3), .ref (pA 4), .ref (pA 5), .ref (pA 6), .ref (pA 7), .ref (pA 8), .ref (pA 9), .ref (pA 10), .int (nI T), .int (nI Ac)], ia (pA 2) (pK 2) 7 (fun i => nI ((pg 2) i)), ia (pA 5) (pK 5) 7 (fun i => nI ((pg 5) i)), ia (pA 8) (pK 8) 4 (fun i => nI ((pg 8) i)), ia (pA 10) (pK 10) 3 (fun i => nI ((pg 10) i))] H1 := hPD.1
            replace hD : dd A [ba, pa, (pA 2), (pA 5), (pA 8), (pA 10)] := dd_of hPD.2 rfl
            clear hPD
            revert H1 locs1
            intro H locs hS hP
            refine tp_i (y := nI (ow / 2 ^ 2 % 2)) (hw1) ?_
            clear hw1 r_11 u
            refine tp_pc (pc' := 62) (by rfl) ?_
            refine lv_if_eq (tgt := 70) hx hb d_BufferWalk_sourceFor_62 (by decide) (fun d2 => ?_) (fun d2 => ?_)
            · skip
              have hd2 : ow / 2 ^ 2 % 2 = 0 := (nI_eq (a := ow / 2 ^ 2 % 2) (b := 0) (by omega) (by omega)).mp d2
              refine tp_pc (pc' := 70) (by rfl) ?_
              refine lv_iinc (v := 1) (lv' := [(4, .int 1), (3, .int (nI ow)), (2, .int (nI ((pg 5) a))), (0, .ref ba), (1, .int (nI a))]) hx hb d_BufferWalk_sourceFor_70 hl (k := 0) rfl (by first | rfl | decide) (by decide) rfl ?_
              clear hl ls
              intro ls hl
              refine lv_goto (tgt := 47) hx hb d_BufferWalk_sourceFor_73 (by decide) ?_
              refine tp_pc (pc' := 47) (by rfl) ?_
              refine lv_iload hx hb d_BufferWalk_sourceFor_47 (lv_at hl 0 rfl) ?_
              refine lv_if_lt (tgt := 76) hx hb d_BufferWalk_sourceFor_49 (by decide) (fun c_12 => absurd c_12 (by decide)) (fun c_12 => ?_)
              refine tp_pc (pc' := 52) (by rfl) ?_
              refine lv_iload_n hx hb d_BufferWalk_sourceFor_52 rfl (lv_at hl 1 rfl) ?_
              refine lv_if_eq (tgt := 76) hx hb d_BufferWalk_sourceFor_53 (by decide) (fun c9 => absurd ((nI_eq (a := ow) (b := 0) (by omega) (by omega)).mp c9) hc0) (fun c9 => ?_)
              refine tp_pc (pc' := 56) (by rfl) ?_
              refine lv_iload_n hx hb d_BufferWalk_sourceFor_56 rfl (lv_at hl 1 rfl) ?_
              refine lv_iload hx hb d_BufferWalk_sourceFor_57 (lv_at hl 0 rfl) ?_
              obtain ⟨hPc, hDc, hFc⟩ := cut3 (wc := []) hP hD rfl hS hA [] (by decide +kernel) rfl
              have hKc := hK.sub (tys' := []) [] rfl
              refine va_calli (va_runSN (As := [.int (nI ow), .int 1]) (rest := []) ⟨hx, hb, hml, hown, hw⟩ (gen_isIn l dC dI ow 1 (by omega) (by omega) H.size) (⟨va_cnB 2 hw g_OM_isIn rfl rfl rfl (hn.1 (R_BufferWalk, 146, y_OM_isIn, "OrderModels") (nq 2 (by rfl))) (hw _ m_101) (by decide +kernel) ⟨Nat.le_of_ble_eq_true rfl, Nat.le_of_ble_eq_true rfl⟩, hw _ m_560, trivial⟩) ⟨fun a U g mk q => by obtain ⟨q0, q1, qP, qK, qD, qN⟩ := q; exact ⟨q0, q1, qP, va_K.moved (u := U) (U := U.calling g mk a) (Vm.Alike.refl U.vm) qK, qD, nw_call qN⟩, fun U hU hW => ⟨rfl, by rw [hU], by rw [hU]; exact hPc, va_K.moved hW.alike hKc, hDc.weaken (fun _ _ _ _ => trivial), nw_warm hW hn⟩⟩ rfl rfl hl.1 rfl (lv_room (Nat.le_of_ble_eq_true rfl)) d_BufferWalk_sourceFor_59 ⟨Nat.le_of_ble_eq_true rfl, Nat.le_of_ble_eq_true rfl⟩) hS (fun q _ h => hFc q h) hFc ?_
              intro r_13 u t9 H1 locs1 ht9 hvm hw1 hB hz1 hk1 hS1
              obtain ⟨hP1, hK1, hD1⟩ := hB
              rw [ht9] at hP1
              replace hK1 := va_K.moved hvm.symm hK1
              have hPD := join3 hP hD rfl [] [0, 1, 2, 3, 4, 5] rfl (by rfl) (by decide +kernel) (by decide +kernel) hk1 hFc hP1 hD1
              replace hK : va_K (dC, dI) classes [((pK 2), .int), ((pK 5), .int), ((pK 8), .int), ((pK 10), .int)] s := hK.app hK1
              clear hP1 hK1 hD1 hk1 hz1 hFc hKc hDc hPc hvm ht9 hP hS t9 locs H
              have hP : va_P (dC, dI) classes [oc ba 4 [.ref pa, .ref ga, .ref sa, .ref b1, .ref b2, .ref fa, .int (nI md), .int (nI mm), .int (nI hd)], oc pa 0 [.ref (pA 0), .ref (pA 1), .ref (pA 2), .ref (pA 3), .ref (pA 4), .ref (pA 5), .ref (pA 6), .ref (pA 7), .ref (pA 8), .ref (pA 9), .ref (pA 10), .int (nI T), .int (nI Ac)], ia (pA 2) (pK 2) 7 (fun i => nI ((pg 2) i)), ia (pA 5) (pK 5) 7 (fun i => nI ((pg 5) i)), ia (pA 8) (pK 8) 4 (fun i => nI ((pg 8) i)), ia (pA 10) (pK 10) 3 (fun i => nI ((pg 10) i))] H1 := hPD.1
              replace hD : dd A [ba, pa, (pA 2), (pA 5), (pA 8), (pA 10)] := dd_of hPD.2 rfl
              clear hPD
              revert H1 locs1
              intro H locs hS hP
              refine tp_i (y := nI (ow / 2 ^ 1 % 2)) (hw1) ?_
              clear hw1 r_13 u
              refine tp_pc (pc' := 62) (by rfl) ?_
              refine lv_if_eq (tgt := 70) hx hb d_BufferWalk_sourceFor_62 (by decide) (fun d1 => ?_) (fun d1 => ?_)
              · skip
                have hd1 : ow / 2 ^ 1 % 2 = 0 := (nI_eq (a := ow / 2 ^ 1 % 2) (b := 0) (by omega) (by omega)).mp d1
                refine tp_pc (pc' := 70) (by rfl) ?_
                refine lv_iinc (v := 0) (lv' := [(4, .int 0), (3, .int (nI ow)), (2, .int (nI ((pg 5) a))), (0, .ref ba), (1, .int (nI a))]) hx hb d_BufferWalk_sourceFor_70 hl (k := 0) rfl (by first | rfl | decide) (by decide) rfl ?_
                clear hl ls
                intro ls hl
                refine lv_goto (tgt := 47) hx hb d_BufferWalk_sourceFor_73 (by decide) ?_
                refine tp_pc (pc' := 47) (by rfl) ?_
                refine lv_iload hx hb d_BufferWalk_sourceFor_47 (lv_at hl 0 rfl) ?_
                refine lv_if_lt (tgt := 76) hx hb d_BufferWalk_sourceFor_49 (by decide) (fun c_14 => absurd c_14 (by decide)) (fun c_14 => ?_)
                refine tp_pc (pc' := 52) (by rfl) ?_
                refine lv_iload_n hx hb d_BufferWalk_sourceFor_52 rfl (lv_at hl 1 rfl) ?_
                refine lv_if_eq (tgt := 76) hx hb d_BufferWalk_sourceFor_53 (by decide) (fun c9 => absurd ((nI_eq (a := ow) (b := 0) (by omega) (by omega)).mp c9) hc0) (fun c9 => ?_)
                refine tp_pc (pc' := 56) (by rfl) ?_
                refine lv_iload_n hx hb d_BufferWalk_sourceFor_56 rfl (lv_at hl 1 rfl) ?_
                refine lv_iload hx hb d_BufferWalk_sourceFor_57 (lv_at hl 0 rfl) ?_
                obtain ⟨hPc, hDc, hFc⟩ := cut3 (wc := []) hP hD rfl hS hA [] (by decide +kernel) rfl
                have hKc := hK.sub (tys' := []) [] rfl
                refine va_calli (va_runSN (As := [.int (nI ow), .int 0]) (rest := []) ⟨hx, hb, hml, hown, hw⟩ (gen_isIn l dC dI ow 0 (by omega) (by omega) H.size) (⟨va_cnB 2 hw g_OM_isIn rfl rfl rfl (hn.1 (R_BufferWalk, 146, y_OM_isIn, "OrderModels") (nq 2 (by rfl))) (hw _ m_101) (by decide +kernel) ⟨Nat.le_of_ble_eq_true rfl, Nat.le_of_ble_eq_true rfl⟩, hw _ m_560, trivial⟩) ⟨fun a U g mk q => by obtain ⟨q0, q1, qP, qK, qD, qN⟩ := q; exact ⟨q0, q1, qP, va_K.moved (u := U) (U := U.calling g mk a) (Vm.Alike.refl U.vm) qK, qD, nw_call qN⟩, fun U hU hW => ⟨rfl, by rw [hU], by rw [hU]; exact hPc, va_K.moved hW.alike hKc, hDc.weaken (fun _ _ _ _ => trivial), nw_warm hW hn⟩⟩ rfl rfl hl.1 rfl (lv_room (Nat.le_of_ble_eq_true rfl)) d_BufferWalk_sourceFor_59 ⟨Nat.le_of_ble_eq_true rfl, Nat.le_of_ble_eq_true rfl⟩) hS (fun q _ h => hFc q h) hFc ?_
                intro r_15 u t9 H1 locs1 ht9 hvm hw1 hB hz1 hk1 hS1
                obtain ⟨hP1, hK1, hD1⟩ := hB
                rw [ht9] at hP1
                replace hK1 := va_K.moved hvm.symm hK1
                have hPD := join3 hP hD rfl [] [0, 1, 2, 3, 4, 5] rfl (by rfl) (by decide +kernel) (by decide +kernel) hk1 hFc hP1 hD1
                replace hK : va_K (dC, dI) classes [((pK 2), .int), ((pK 5), .int), ((pK 8), .int), ((pK 10), .int)] s := hK.app hK1
                clear hP1 hK1 hD1 hk1 hz1 hFc hKc hDc hPc hvm ht9 hP hS t9 locs H
                have hP : va_P (dC, dI) classes [oc ba 4 [.ref pa, .ref ga, .ref sa, .ref b1, .ref b2, .ref fa, .int (nI md), .int (nI mm), .int (nI hd)], oc pa 0 [.ref (pA 0), .ref (pA 1), .ref (pA 2), .ref (pA 3), .ref (pA 4), .ref (pA 5), .ref (pA 6), .ref (pA 7), .ref (pA 8), .ref (pA 9), .ref (pA 10), .int (nI T), .int (nI Ac)], ia (pA 2) (pK 2) 7 (fun i => nI ((pg 2) i)), ia (pA 5) (pK 5) 7 (fun i => nI ((pg 5) i)), ia (pA 8) (pK 8) 4 (fun i => nI ((pg 8) i)), ia (pA 10) (pK 10) 3 (fun i => nI ((pg 10) i))] H1 := hPD.1
                replace hD : dd A [ba, pa, (pA 2), (pA 5), (pA 8), (pA 10)] := dd_of hPD.2 rfl
                clear hPD
                revert H1 locs1
                intro H locs hS hP
                refine tp_i (y := nI (ow / 2 ^ 0 % 2)) (hw1) ?_
                clear hw1 r_15 u
                refine tp_pc (pc' := 62) (by rfl) ?_
                refine lv_if_eq (tgt := 70) hx hb d_BufferWalk_sourceFor_62 (by decide) (fun d0 => ?_) (fun d0 => ?_)
                · skip
                  have hd0 : ow / 2 ^ 0 % 2 = 0 := (nI_eq (a := ow / 2 ^ 0 % 2) (b := 0) (by omega) (by omega)).mp d0
                  refine tp_pc (pc' := 70) (by rfl) ?_
                  refine lv_iinc (v := (-1)) (lv' := [(4, .int (-1)), (3, .int (nI ow)), (2, .int (nI ((pg 5) a))), (0, .ref ba), (1, .int (nI a))]) hx hb d_BufferWalk_sourceFor_70 hl (k := 0) rfl (by first | rfl | decide) (by decide) rfl ?_
                  clear hl ls
                  intro ls hl
                  refine lv_goto (tgt := 47) hx hb d_BufferWalk_sourceFor_73 (by decide) ?_
                  refine tp_pc (pc' := 47) (by rfl) ?_
                  refine lv_iload hx hb d_BufferWalk_sourceFor_47 (lv_at hl 0 rfl) ?_
                  exfalso
                  omega
                · skip
                  have hd0 : ¬ (ow / 2 ^ 0 % 2 = 0) := fun q9 => d0 ((nI_eq (a := ow / 2 ^ 0 % 2) (b := 0) (by omega) (by omega)).mpr q9)
                  refine tp_pc (pc' := 65) (by rfl) ?_
                  refine lv_iload hx hb d_BufferWalk_sourceFor_65 (lv_at hl 0 rfl) ?_
                  refine lv_iconst (v := 1) hx hb d_BufferWalk_sourceFor_67 (by decide) ?_
                  refine lv_iadd hx hb d_BufferWalk_sourceFor_68 ?_
                  refine tp_i (y := 1) (by first | rfl | decide) ?_
                  obtain ⟨hP9, hD9, -⟩ := cut3 (wc := [oc ba 4 [.ref pa, .ref ga, .ref sa, .ref b1, .ref b2, .ref fa, .int (nI md), .int (nI mm), .int (nI hd)], oc pa 0 [.ref (pA 0), .ref (pA 1), .ref (pA 2), .ref (pA 3), .ref (pA 4), .ref (pA 5), .ref (pA 6), .ref (pA 7), .ref (pA 8), .ref (pA 9), .ref (pA 10), .int (nI T), .int (nI Ac)], ia (pA 2) (pK 2) 7 (fun i => nI ((pg 2) i)), ia (pA 5) (pK 5) 7 (fun i => nI ((pg 5) i)), ia (pA 8) (pK 8) 4 (fun i => nI ((pg 8) i)), ia (pA 10) (pK 10) 3 (fun i => nI ((pg 10) i))]) hP hD rfl hS hA [0, 1, 2, 3, 4, 5] (by decide +kernel) rfl
                  have hK9 := hK.sub (tys' := []) [] rfl
                  refine W.widen (k := 0) (n := 0) (by exact Nat.le_of_ble_eq_true rfl) (by exact Nat.le_of_ble_eq_true rfl) ?_
                  exact W.iret (v := 1) hx hb hr (fun t9 ht9 hW => ⟨⟨1, (), rfl, congrArg nI (hr9 1 (by rw [if_neg hc0]; unfold hi9; rw [if_neg (by omega)]; rw [if_neg (by omega)]; rw [if_neg (by omega)]; rw [if_neg (by omega)]; rw [if_neg (by omega)]; rw [if_neg (by omega)]; rw [if_pos (by omega)])), by rw [ht9]; exact hP9, va_K.moved hW.alike hK9, hD9⟩, hS.F ht9⟩) hS.2.2 d_BufferWalk_sourceFor_69
              · skip
                have hd1 : ¬ (ow / 2 ^ 1 % 2 = 0) := fun q9 => d1 ((nI_eq (a := ow / 2 ^ 1 % 2) (b := 0) (by omega) (by omega)).mpr q9)
                refine tp_pc (pc' := 65) (by rfl) ?_
                refine lv_iload hx hb d_BufferWalk_sourceFor_65 (lv_at hl 0 rfl) ?_
                refine lv_iconst (v := 1) hx hb d_BufferWalk_sourceFor_67 (by decide) ?_
                refine lv_iadd hx hb d_BufferWalk_sourceFor_68 ?_
                refine tp_i (y := 2) (by first | rfl | decide) ?_
                obtain ⟨hP9, hD9, -⟩ := cut3 (wc := [oc ba 4 [.ref pa, .ref ga, .ref sa, .ref b1, .ref b2, .ref fa, .int (nI md), .int (nI mm), .int (nI hd)], oc pa 0 [.ref (pA 0), .ref (pA 1), .ref (pA 2), .ref (pA 3), .ref (pA 4), .ref (pA 5), .ref (pA 6), .ref (pA 7), .ref (pA 8), .ref (pA 9), .ref (pA 10), .int (nI T), .int (nI Ac)], ia (pA 2) (pK 2) 7 (fun i => nI ((pg 2) i)), ia (pA 5) (pK 5) 7 (fun i => nI ((pg 5) i)), ia (pA 8) (pK 8) 4 (fun i => nI ((pg 8) i)), ia (pA 10) (pK 10) 3 (fun i => nI ((pg 10) i))]) hP hD rfl hS hA [0, 1, 2, 3, 4, 5] (by decide +kernel) rfl
                have hK9 := hK.sub (tys' := []) [] rfl
                refine W.widen (k := 0) (n := 0) (by exact Nat.le_of_ble_eq_true rfl) (by exact Nat.le_of_ble_eq_true rfl) ?_
                exact W.iret (v := 2) hx hb hr (fun t9 ht9 hW => ⟨⟨2, (), rfl, congrArg nI (hr9 2 (by rw [if_neg hc0]; unfold hi9; rw [if_neg (by omega)]; rw [if_neg (by omega)]; rw [if_neg (by omega)]; rw [if_neg (by omega)]; rw [if_neg (by omega)]; rw [if_pos (by omega)])), by rw [ht9]; exact hP9, va_K.moved hW.alike hK9, hD9⟩, hS.F ht9⟩) hS.2.2 d_BufferWalk_sourceFor_69
            · skip
              have hd2 : ¬ (ow / 2 ^ 2 % 2 = 0) := fun q9 => d2 ((nI_eq (a := ow / 2 ^ 2 % 2) (b := 0) (by omega) (by omega)).mpr q9)
              refine tp_pc (pc' := 65) (by rfl) ?_
              refine lv_iload hx hb d_BufferWalk_sourceFor_65 (lv_at hl 0 rfl) ?_
              refine lv_iconst (v := 1) hx hb d_BufferWalk_sourceFor_67 (by decide) ?_
              refine lv_iadd hx hb d_BufferWalk_sourceFor_68 ?_
              refine tp_i (y := 3) (by first | rfl | decide) ?_
              obtain ⟨hP9, hD9, -⟩ := cut3 (wc := [oc ba 4 [.ref pa, .ref ga, .ref sa, .ref b1, .ref b2, .ref fa, .int (nI md), .int (nI mm), .int (nI hd)], oc pa 0 [.ref (pA 0), .ref (pA 1), .ref (pA 2), .ref (pA 3), .ref (pA 4), .ref (pA 5), .ref (pA 6), .ref (pA 7), .ref (pA 8), .ref (pA 9), .ref (pA 10), .int (nI T), .int (nI Ac)], ia (pA 2) (pK 2) 7 (fun i => nI ((pg 2) i)), ia (pA 5) (pK 5) 7 (fun i => nI ((pg 5) i)), ia (pA 8) (pK 8) 4 (fun i => nI ((pg 8) i)), ia (pA 10) (pK 10) 3 (fun i => nI ((pg 10) i))]) hP hD rfl hS hA [0, 1, 2, 3, 4, 5] (by decide +kernel) rfl
              have hK9 := hK.sub (tys' := []) [] rfl
              refine W.widen (k := 0) (n := 0) (by exact Nat.le_of_ble_eq_true rfl) (by exact Nat.le_of_ble_eq_true rfl) ?_
              exact W.iret (v := 3) hx hb hr (fun t9 ht9 hW => ⟨⟨3, (), rfl, congrArg nI (hr9 3 (by rw [if_neg hc0]; unfold hi9; rw [if_neg (by omega)]; rw [if_neg (by omega)]; rw [if_neg (by omega)]; rw [if_neg (by omega)]; rw [if_pos (by omega)])), by rw [ht9]; exact hP9, va_K.moved hW.alike hK9, hD9⟩, hS.F ht9⟩) hS.2.2 d_BufferWalk_sourceFor_69
          · skip
            have hd3 : ¬ (ow / 2 ^ 3 % 2 = 0) := fun q9 => d3 ((nI_eq (a := ow / 2 ^ 3 % 2) (b := 0) (by omega) (by omega)).mpr q9)
            refine tp_pc (pc' := 65) (by rfl) ?_
            refine lv_iload hx hb d_BufferWalk_sourceFor_65 (lv_at hl 0 rfl) ?_
            refine lv_iconst (v := 1) hx hb d_BufferWalk_sourceFor_67 (by decide) ?_
            refine lv_iadd hx hb d_BufferWalk_sourceFor_68 ?_
            refine tp_i (y := 4) (by first | rfl | decide) ?_
            obtain ⟨hP9, hD9, -⟩ := cut3 (wc := [oc ba 4 [.ref pa, .ref ga, .ref sa, .ref b1, .ref b2, .ref fa, .int (nI md), .int (nI mm), .int (nI hd)], oc pa 0 [.ref (pA 0), .ref (pA 1), .ref (pA 2), .ref (pA 3), .ref (pA 4), .ref (pA 5), .ref (pA 6), .ref (pA 7), .ref (pA 8), .ref (pA 9), .ref (pA 10), .int (nI T), .int (nI Ac)], ia (pA 2) (pK 2) 7 (fun i => nI ((pg 2) i)), ia (pA 5) (pK 5) 7 (fun i => nI ((pg 5) i)), ia (pA 8) (pK 8) 4 (fun i => nI ((pg 8) i)), ia (pA 10) (pK 10) 3 (fun i => nI ((pg 10) i))]) hP hD rfl hS hA [0, 1, 2, 3, 4, 5] (by decide +kernel) rfl
            have hK9 := hK.sub (tys' := []) [] rfl
            refine W.widen (k := 0) (n := 0) (by exact Nat.le_of_ble_eq_true rfl) (by exact Nat.le_of_ble_eq_true rfl) ?_
            exact W.iret (v := 4) hx hb hr (fun t9 ht9 hW => ⟨⟨4, (), rfl, congrArg nI (hr9 4 (by rw [if_neg hc0]; unfold hi9; rw [if_neg (by omega)]; rw [if_neg (by omega)]; rw [if_neg (by omega)]; rw [if_pos (by omega)])), by rw [ht9]; exact hP9, va_K.moved hW.alike hK9, hD9⟩, hS.F ht9⟩) hS.2.2 d_BufferWalk_sourceFor_69
        · skip
          have hd4 : ¬ (ow / 2 ^ 4 % 2 = 0) := fun q9 => d4 ((nI_eq (a := ow / 2 ^ 4 % 2) (b := 0) (by omega) (by omega)).mpr q9)
          refine tp_pc (pc' := 65) (by rfl) ?_
          refine lv_iload hx hb d_BufferWalk_sourceFor_65 (lv_at hl 0 rfl) ?_
          refine lv_iconst (v := 1) hx hb d_BufferWalk_sourceFor_67 (by decide) ?_
          refine lv_iadd hx hb d_BufferWalk_sourceFor_68 ?_
          refine tp_i (y := 5) (by first | rfl | decide) ?_
          obtain ⟨hP9, hD9, -⟩ := cut3 (wc := [oc ba 4 [.ref pa, .ref ga, .ref sa, .ref b1, .ref b2, .ref fa, .int (nI md), .int (nI mm), .int (nI hd)], oc pa 0 [.ref (pA 0), .ref (pA 1), .ref (pA 2), .ref (pA 3), .ref (pA 4), .ref (pA 5), .ref (pA 6), .ref (pA 7), .ref (pA 8), .ref (pA 9), .ref (pA 10), .int (nI T), .int (nI Ac)], ia (pA 2) (pK 2) 7 (fun i => nI ((pg 2) i)), ia (pA 5) (pK 5) 7 (fun i => nI ((pg 5) i)), ia (pA 8) (pK 8) 4 (fun i => nI ((pg 8) i)), ia (pA 10) (pK 10) 3 (fun i => nI ((pg 10) i))]) hP hD rfl hS hA [0, 1, 2, 3, 4, 5] (by decide +kernel) rfl
          have hK9 := hK.sub (tys' := []) [] rfl
          refine W.widen (k := 0) (n := 0) (by exact Nat.le_of_ble_eq_true rfl) (by exact Nat.le_of_ble_eq_true rfl) ?_
          exact W.iret (v := 5) hx hb hr (fun t9 ht9 hW => ⟨⟨5, (), rfl, congrArg nI (hr9 5 (by rw [if_neg hc0]; unfold hi9; rw [if_neg (by omega)]; rw [if_neg (by omega)]; rw [if_pos (by omega)])), by rw [ht9]; exact hP9, va_K.moved hW.alike hK9, hD9⟩, hS.F ht9⟩) hS.2.2 d_BufferWalk_sourceFor_69
      · skip
        have hd5 : ¬ (ow / 2 ^ 5 % 2 = 0) := fun q9 => d5 ((nI_eq (a := ow / 2 ^ 5 % 2) (b := 0) (by omega) (by omega)).mpr q9)
        refine tp_pc (pc' := 65) (by rfl) ?_
        refine lv_iload hx hb d_BufferWalk_sourceFor_65 (lv_at hl 0 rfl) ?_
        refine lv_iconst (v := 1) hx hb d_BufferWalk_sourceFor_67 (by decide) ?_
        refine lv_iadd hx hb d_BufferWalk_sourceFor_68 ?_
        refine tp_i (y := 6) (by first | rfl | decide) ?_
        obtain ⟨hP9, hD9, -⟩ := cut3 (wc := [oc ba 4 [.ref pa, .ref ga, .ref sa, .ref b1, .ref b2, .ref fa, .int (nI md), .int (nI mm), .int (nI hd)], oc pa 0 [.ref (pA 0), .ref (pA 1), .ref (pA 2), .ref (pA 3), .ref (pA 4), .ref (pA 5), .ref (pA 6), .ref (pA 7), .ref (pA 8), .ref (pA 9), .ref (pA 10), .int (nI T), .int (nI Ac)], ia (pA 2) (pK 2) 7 (fun i => nI ((pg 2) i)), ia (pA 5) (pK 5) 7 (fun i => nI ((pg 5) i)), ia (pA 8) (pK 8) 4 (fun i => nI ((pg 8) i)), ia (pA 10) (pK 10) 3 (fun i => nI ((pg 10) i))]) hP hD rfl hS hA [0, 1, 2, 3, 4, 5] (by decide +kernel) rfl
        have hK9 := hK.sub (tys' := []) [] rfl
        refine W.widen (k := 0) (n := 0) (by exact Nat.le_of_ble_eq_true rfl) (by exact Nat.le_of_ble_eq_true rfl) ?_
        exact W.iret (v := 6) hx hb hr (fun t9 ht9 hW => ⟨⟨6, (), rfl, congrArg nI (hr9 6 (by rw [if_neg hc0]; unfold hi9; rw [if_neg (by omega)]; rw [if_pos (by omega)])), by rw [ht9]; exact hP9, va_K.moved hW.alike hK9, hD9⟩, hS.F ht9⟩) hS.2.2 d_BufferWalk_sourceFor_69
    · skip
      have hd6 : ¬ (ow / 2 ^ 6 % 2 = 0) := fun q9 => d6 ((nI_eq (a := ow / 2 ^ 6 % 2) (b := 0) (by omega) (by omega)).mpr q9)
      refine tp_pc (pc' := 65) (by rfl) ?_
      refine lv_iload hx hb d_BufferWalk_sourceFor_65 (lv_at hl 0 rfl) ?_
      refine lv_iconst (v := 1) hx hb d_BufferWalk_sourceFor_67 (by decide) ?_
      refine lv_iadd hx hb d_BufferWalk_sourceFor_68 ?_
      refine tp_i (y := 7) (by first | rfl | decide) ?_
      obtain ⟨hP9, hD9, -⟩ := cut3 (wc := [oc ba 4 [.ref pa, .ref ga, .ref sa, .ref b1, .ref b2, .ref fa, .int (nI md), .int (nI mm), .int (nI hd)], oc pa 0 [.ref (pA 0), .ref (pA 1), .ref (pA 2), .ref (pA 3), .ref (pA 4), .ref (pA 5), .ref (pA 6), .ref (pA 7), .ref (pA 8), .ref (pA 9), .ref (pA 10), .int (nI T), .int (nI Ac)], ia (pA 2) (pK 2) 7 (fun i => nI ((pg 2) i)), ia (pA 5) (pK 5) 7 (fun i => nI ((pg 5) i)), ia (pA 8) (pK 8) 4 (fun i => nI ((pg 8) i)), ia (pA 10) (pK 10) 3 (fun i => nI ((pg 10) i))]) hP hD rfl hS hA [0, 1, 2, 3, 4, 5] (by decide +kernel) rfl
      have hK9 := hK.sub (tys' := []) [] rfl
      refine W.widen (k := 0) (n := 0) (by exact Nat.le_of_ble_eq_true rfl) (by exact Nat.le_of_ble_eq_true rfl) ?_
      exact W.iret (v := 7) hx hb hr (fun t9 ht9 hW => ⟨⟨7, (), rfl, congrArg nI (hr9 7 (by rw [if_neg hc0]; unfold hi9; rw [if_pos (by omega)])), by rw [ht9]; exact hP9, va_K.moved hW.alike hK9, hD9⟩, hS.F ht9⟩) hS.2.2 d_BufferWalk_sourceFor_69
