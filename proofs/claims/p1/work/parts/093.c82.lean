set_option maxHeartbeats 4000000 in
set_option maxRecDepth 100000 in
theorem c_Ref_ordered (l : Launch) (dC : Nat → ClassId) (dI : Nat → Nat → Nat) (h0 : Nat) (p0 : Int32) (p1 : Int32) (p2 : Int32) (p4 : Int32) (h1 : Nat) (h2 : Nat) (h3 : Nat) (h4 : Nat) (h5 : Nat) (h6 : Nat) (h7 : Nat) (h8 : Nat) (h9 : Nat) (h10 : Nat) (h11 : Nat) (h12 : Nat) (p5 : Int32) (h13 : Nat) (h14 : Nat) (h15 : Nat) (h16 : Nat) (p6 : Int32) (p7 : Int32) (h17 : Nat) (h18 : Nat) (h19 : Nat) (p8 : Int32) (h20 : Nat) (p9 : Int32) (p10 : Int32) (h21 : Nat) (h22 : Nat) (h23 : Nat) (h24 : Nat) (h25 : Nat) (h26 : Nat) (h27 : Nat) (h28 : Nat) (p11 : Int32) (p12 : Int32) (h29 : Nat) (h30 : Nat) (h31 : Nat) (h32 : Nat) (h33 : Nat) (h34 : Nat) (h35 : Nat) (h36 : Nat) (p13 : Int32) (h37 : Nat) (k5 : ClassId) (k6 : ClassId) (k7 : ClassId) (k10 : ClassId) (k11 : ClassId) (f11 : Nat → Int32) (k20 : ClassId) (k22 : ClassId) (f22 : Nat → Int32) (k23 : ClassId) (f23 : Nat → Int32) (k25 : ClassId) (f25 : Nat → Int32) (k26 : ClassId) (k29 : ClassId) (sz : Nat) : Met l y_Ref_ordered w_Ref_ordered ({ frames := 12, cells := 0, slots := 0, locals := 278 }) (va_Pc [.ref h0, .int p0, .int p1, .int p2] (fun U => U.heap.size = sz ∧ va_P (dC, dI) classes [oc h0 8 [.int 0, .int p4, .ref h1, .ref h2, .ref h3, .ref h4, .ref h5, .ref h6, .ref h7, .ref h8, .ref h9, .ref h10, .ref h11, .ref h12, .int p5, .ref h13, .ref h14, .ref h15, .ref h16, .int p6, .int p7, .ref h17, .ref h18, .ref h19, .int p8, .ref h20, .int p9, .int p10, .ref h21, .ref h22, .ref h23, .ref h24, .ref h25, .ref h26, .ref h27, .ref h28, .int p11, .int p12, .ref h29, .ref h30, .ref h31, .ref h32, .ref h33, .ref h34, .ref h35, .ref h36, .int p13, .ref h37], ia h6 k5 8 (fun _ => 0), ia h7 k6 8 (fun _ => 0), ia h8 k7 352000 (fun _ => 0), ia h11 k10 32000 (fun _ => 0), ia h12 k11 4 f11, ia h21 k20 11 (fun _ => 0), ia h23 k22 28 f22, ia h24 k23 28 f23, ia h26 k25 4 f25, ia h27 k26 8 (fun _ => 0), ia h30 k29 4 (fun _ => 0)] U.heap ∧ va_K (dC, dI) classes [(k5, .boolean), (k6, .int), (k7, .short), (k10, .int), (k11, .int), (k20, .int), (k22, .boolean), (k23, .boolean), (k25, .int), (k26, .int), (k29, .int)] U ∧ va_D (fun _ => True) [oc h0 8 [.int 0, .int p4, .ref h1, .ref h2, .ref h3, .ref h4, .ref h5, .ref h6, .ref h7, .ref h8, .ref h9, .ref h10, .ref h11, .ref h12, .int p5, .ref h13, .ref h14, .ref h15, .ref h16, .int p6, .int p7, .ref h17, .ref h18, .ref h19, .int p8, .ref h20, .int p9, .int p10, .ref h21, .ref h22, .ref h23, .ref h24, .ref h25, .ref h26, .ref h27, .ref h28, .int p11, .int p12, .ref h29, .ref h30, .ref h31, .ref h32, .ref h33, .ref h34, .ref h35, .ref h36, .int p13, .ref h37], ia h6 k5 8 (fun _ => 0), ia h7 k6 8 (fun _ => 0), ia h8 k7 352000 (fun _ => 0), ia h11 k10 32000 (fun _ => 0), ia h12 k11 4 f11, ia h21 k20 11 (fun _ => 0), ia h23 k22 28 f22, ia h24 k23 28 f23, ia h26 k25 4 f25, ia h27 k26 8 (fun _ => 0), ia h30 k29 4 (fun _ => 0)] ∧ nw U)) (va_Qi (fun (r : Int32) (_ : Unit) => r = (fo p0 p1 p2)) (fun _ t => va_P (dC, dI) classes [] t.heap ∧ va_K (dC, dI) classes [] t ∧ va_D (va_A [oc h0 8 [.int 0, .int p4, .ref h1, .ref h2, .ref h3, .ref h4, .ref h5, .ref h6, .ref h7, .ref h8, .ref h9, .ref h10, .ref h11, .ref h12, .int p5, .ref h13, .ref h14, .ref h15, .ref h16, .int p6, .int p7, .ref h17, .ref h18, .ref h19, .int p8, .ref h20, .int p9, .int p10, .ref h21, .ref h22, .ref h23, .ref h24, .ref h25, .ref h26, .ref h27, .ref h28, .int p11, .int p12, .ref h29, .ref h30, .ref h31, .ref h32, .ref h33, .ref h34, .ref h35, .ref h36, .int p13, .ref h37], ia h6 k5 8 (fun _ => 0), ia h7 k6 8 (fun _ => 0), ia h8 k7 352000 (fun _ => 0), ia h11 k10 32000 (fun _ => 0), ia h12 k11 4 f11, ia h21 k20 11 (fun _ => 0), ia h23 k22 28 f22, ia h24 k23 28 f23, ia h26 k25 4 f25, ia h27 k26 8 (fun _ => 0), ia h30 k29 4 (fun _ => 0)] sz) []) (va_A [oc h0 8 [.int 0, .int p4, .ref h1, .ref h2, .ref h3, .ref h4, .ref h5, .ref h6, .ref h7, .ref h8, .ref h9, .ref h10, .ref h11, .ref h12, .int p5, .ref h13, .ref h14, .ref h15, .ref h16, .int p6, .int p7, .ref h17, .ref h18, .ref h19, .int p8, .ref h20, .int p9, .int p10, .ref h21, .ref h22, .ref h23, .ref h24, .ref h25, .ref h26, .ref h27, .ref h28, .int p11, .int p12, .ref h29, .ref h30, .ref h31, .ref h32, .ref h33, .ref h34, .ref h35, .ref h36, .int p13, .ref h37], ia h6 k5 8 (fun _ => 0), ia h7 k6 8 (fun _ => 0), ia h8 k7 352000 (fun _ => 0), ia h11 k10 32000 (fun _ => 0), ia h12 k11 4 f11, ia h21 k20 11 (fun _ => 0), ia h23 k22 28 f22, ia h24 k23 28 f23, ia h26 k25 4 f25, ia h27 k26 8 (fun _ => 0), ia h30 k29 4 (fun _ => 0)] sz)) 0 0 (va_A [oc h0 8 [.int 0, .int p4, .ref h1, .ref h2, .ref h3, .ref h4, .ref h5, .ref h6, .ref h7, .ref h8, .ref h9, .ref h10, .ref h11, .ref h12, .int p5, .ref h13, .ref h14, .ref h15, .ref h16, .int p6, .int p7, .ref h17, .ref h18, .ref h19, .int p8, .ref h20, .int p9, .int p10, .ref h21, .ref h22, .ref h23, .ref h24, .ref h25, .ref h26, .ref h27, .ref h28, .int p11, .int p12, .ref h29, .ref h30, .ref h31, .ref h32, .ref h33, .ref h34, .ref h35, .ref h36, .int p13, .ref h37], ia h6 k5 8 (fun _ => 0), ia h7 k6 8 (fun _ => 0), ia h8 k7 352000 (fun _ => 0), ia h11 k10 32000 (fun _ => 0), ia h12 k11 4 f11, ia h21 k20 11 (fun _ => 0), ia h23 k22 28 f22, ia h24 k23 28 f23, ia h26 k25 4 f25, ia h27 k26 8 (fun _ => 0), ia h30 k29 4 (fun _ => 0)] sz) := by
  refine Met.ofW (cc := b_Ref_ordered) (maxL := 4) (ret := (some .int)) (by decide) rfl ?_
  intro p e s m args below meth c s₁ B hml hv
  obtain ⟨rfl, hsz, hP, hK, hD0, hn⟩ := hv
  have hx := B.exec
  have hb := B.bytes
  have hr := B.returns
  have hw := fun w (h : w ∈ wt) => atoms_spec (ws := w_Ref_ordered) B.pre w (List.mem_cons_of_mem _ h)
  have hown : s.vm.findClass R_Ref = some m.cls := findClass_of_methodNamed B.named
  have hlocks := B.notSynchronized
  subst hsz
  have hD1 := hD0.self (sz := s.heap.size)
  generalize hAe : va_A [oc h0 8 [.int 0, .int p4, .ref h1, .ref h2, .ref h3, .ref h4, .ref h5, .ref h6, .ref h7, .ref h8, .ref h9, .ref h10, .ref h11, .ref h12, .int p5, .ref h13, .ref h14, .ref h15, .ref h16, .int p6, .int p7, .ref h17, .ref h18, .ref h19, .int p8, .ref h20, .int p9, .int p10, .ref h21, .ref h22, .ref h23, .ref h24, .ref h25, .ref h26, .ref h27, .ref h28, .int p11, .int p12, .ref h29, .ref h30, .ref h31, .ref h32, .ref h33, .ref h34, .ref h35, .ref h36, .int p13, .ref h37], ia h6 k5 8 (fun _ => 0), ia h7 k6 8 (fun _ => 0), ia h8 k7 352000 (fun _ => 0), ia h11 k10 32000 (fun _ => 0), ia h12 k11 4 f11, ia h21 k20 11 (fun _ => 0), ia h23 k22 28 f22, ia h24 k23 28 f23, ia h26 k25 4 f25, ia h27 k26 8 (fun _ => 0), ia h30 k29 4 (fun _ => 0)] s.heap.size = A at hD1 ⊢
  have hA : ∀ q : Nat, s.heap.size ≤ q → A q := fun q h => by rw [← hAe]; exact Or.inr h
  have hD : dd A [h0, h6, h7, h8, h11, h12, h21, h23, h24, h26, h27, h30] := dd_of hD1 rfl
  clear hAe hD0 hD1
  have hS : va_S A s.heap s.heap [] := va_S.rf
  replace hP : va_P (dC, dI) classes [oc h0 8 [.int 0, .int p4, .ref h1, .ref h2, .ref h3, .ref h4, .ref h5, .ref h6, .ref h7, .ref h8, .ref h9, .ref h10, .ref h11, .ref h12, .int p5, .ref h13, .ref h14, .ref h15, .ref h16, .int p6, .int p7, .ref h17, .ref h18, .ref h19, .int p8, .ref h20, .int p9, .int p10, .ref h21, .ref h22, .ref h23, .ref h24, .ref h25, .ref h26, .ref h27, .ref h28, .int p11, .int p12, .ref h29, .ref h30, .ref h31, .ref h32, .ref h33, .ref h34, .ref h35, .ref h36, .int p13, .ref h37], ia h6 k5 8 (fun _ => 0), ia h7 k6 8 (fun _ => 0), ia h8 k7 352000 (fun _ => 0), ia h11 k10 32000 (fun _ => 0), ia h12 k11 4 f11, ia h21 k20 11 (fun _ => 0), ia h23 k22 28 f22, ia h24 k23 28 f23, ia h26 k25 4 f25, ia h27 k26 8 (fun _ => 0), ia h30 k29 4 (fun _ => 0)] s.heap := hP
  have hl := lv_entry ([.ref h0, .int p0, .int p1, .int p2]) (n := 4) (Nat.le_of_ble_eq_true rfl)
  rw [lg_entry_eq]
  generalize (lg_sl ([.ref h0, .int p0, .int p1, .int p2]) ++ List.replicate (4 - (lg_sl ([.ref h0, .int p0, .int p1, .int p2])).length) Slot.unset).toArray = ls at hl ⊢
  replace hl : lv_has ls 4 [(0, .ref h0), (1, .int p0), (2, .int p1), (3, .int p2)] := hl
  rcases sw_0_3 p0 with rfl | rfl | rfl | rfl | hs_1
  · skip
    refine lv_iload_n hx hb d_Ref_ordered_0 rfl (lv_at hl 1 rfl) ?_
    obtain ⟨hPc, hDc, hFc⟩ := cut3 (wc := []) hP hD rfl hS hA [] (by decide +kernel) rfl
    have hKc := hK.sub (tys' := []) [] rfl
    refine va_calli (va_runS (As := [.int 0]) (rest := []) ⟨hx, hb, hml, hown, hw⟩ (c_Ref_isModel l dC dI  s.heap.size) (cw_S 1 hw g_Ref_isModel rfl rfl rfl (hw _ m_109) (hw _ m_1066) (hw _ m_1067) (by decide +kernel) ⟨Nat.le_of_ble_eq_true rfl, Nat.le_of_ble_eq_true rfl⟩) ⟨fun a U g mk q => by obtain ⟨q0, q1, qP, qK, qD, qN⟩ := q; exact ⟨q0, q1, qP, va_K.moved (u := U) (U := U.calling g mk a) (Vm.Alike.refl U.vm) qK, qD, nw_call qN⟩, fun U hU hW => ⟨rfl, by rw [hU], by rw [hU]; exact hPc, va_K.moved hW.alike hKc, hDc.weaken (fun _ _ _ _ => trivial), nw_warm hW hn⟩⟩ rfl rfl hl.1 rfl (lv_room (Nat.le_of_ble_eq_true rfl)) d_Ref_ordered_1 ⟨Nat.le_of_ble_eq_true rfl, Nat.le_of_ble_eq_true rfl⟩) hS (fun q _ h => hFc q h) hFc ?_
    intro r_2 u t H1 locs1 ht hvm hw1 hB hz1 hk1 hS1
    obtain ⟨hP1, hK1, hD1⟩ := hB
    rw [ht] at hP1
    replace hK1 := va_K.moved hvm.symm hK1
    have hPD := join3 hP hD rfl [] [0, 1, 2, 3, 4, 5, 6, 7, 8, 9, 10, 11] rfl (by rfl) (by decide +kernel) (by decide +kernel) hk1 hFc hP1 hD1
    replace hK : va_K (dC, dI) classes [(k5, .boolean), (k6, .int), (k7, .short), (k10, .int), (k11, .int), (k20, .int), (k22, .boolean), (k23, .boolean), (k25, .int), (k26, .int), (k29, .int)] s := hK.app hK1
    clear hP1 hK1 hD1 hk1 hz1 hFc hKc hDc hPc hvm ht hP hS t
    have hP : va_P (dC, dI) classes [oc h0 8 [.int 0, .int p4, .ref h1, .ref h2, .ref h3, .ref h4, .ref h5, .ref h6, .ref h7, .ref h8, .ref h9, .ref h10, .ref h11, .ref h12, .int p5, .ref h13, .ref h14, .ref h15, .ref h16, .int p6, .int p7, .ref h17, .ref h18, .ref h19, .int p8, .ref h20, .int p9, .int p10, .ref h21, .ref h22, .ref h23, .ref h24, .ref h25, .ref h26, .ref h27, .ref h28, .int p11, .int p12, .ref h29, .ref h30, .ref h31, .ref h32, .ref h33, .ref h34, .ref h35, .ref h36, .int p13, .ref h37], ia h6 k5 8 (fun _ => 0), ia h7 k6 8 (fun _ => 0), ia h8 k7 352000 (fun _ => 0), ia h11 k10 32000 (fun _ => 0), ia h12 k11 4 f11, ia h21 k20 11 (fun _ => 0), ia h23 k22 28 f22, ia h24 k23 28 f23, ia h26 k25 4 f25, ia h27 k26 8 (fun _ => 0), ia h30 k29 4 (fun _ => 0)] H1 := hPD.1
    replace hD : dd A [h0, h6, h7, h8, h11, h12, h21, h23, h24, h26, h27, h30] := dd_of hPD.2 rfl
    clear hPD
    revert H1 locs1
    intro H locs hS hP
    refine tp_i (y := 1) hw1 ?_
    clear hw1 r_2 u
    refine tp_pc (pc' := 4) (by rfl) ?_
    refine lv_if_ne (tgt := 11) hx hb d_Ref_ordered_4 (by decide) (fun c_3 => ?_) (fun c_3 => absurd c_3 (by decide))
    refine tp_pc (pc' := 11) (by rfl) ?_
    refine lv_aload_n hx hb d_Ref_ordered_11 rfl (lv_at hl 0 rfl) ?_
    refine lv_iload_n hx hb d_Ref_ordered_12 rfl (lv_at hl 1 rfl) ?_
    obtain ⟨hPc, hDc, hFc⟩ := cut3 (wc := [oc h0 8 [.int 0, .int p4, .ref h1, .ref h2, .ref h3, .ref h4, .ref h5, .ref h6, .ref h7, .ref h8, .ref h9, .ref h10, .ref h11, .ref h12, .int p5, .ref h13, .ref h14, .ref h15, .ref h16, .int p6, .int p7, .ref h17, .ref h18, .ref h19, .int p8, .ref h20, .int p9, .int p10, .ref h21, .ref h22, .ref h23, .ref h24, .ref h25, .ref h26, .ref h27, .ref h28, .int p11, .int p12, .ref h29, .ref h30, .ref h31, .ref h32, .ref h33, .ref h34, .ref h35, .ref h36, .int p13, .ref h37], ia h6 k5 8 (fun _ => 0), ia h7 k6 8 (fun _ => 0), ia h8 k7 352000 (fun _ => 0), ia h11 k10 32000 (fun _ => 0), ia h12 k11 4 f11, ia h21 k20 11 (fun _ => 0), ia h23 k22 28 f22, ia h24 k23 28 f23, ia h26 k25 4 f25, ia h27 k26 8 (fun _ => 0), ia h30 k29 4 (fun _ => 0)]) hP hD rfl hS hA [0, 1, 2, 3, 4, 5, 6, 7, 8, 9, 10, 11] (by decide +kernel) rfl
    have hKc := hK.sub (tys' := [(k5, .boolean), (k6, .int), (k7, .short), (k10, .int), (k11, .int), (k20, .int), (k22, .boolean), (k23, .boolean), (k25, .int), (k26, .int), (k29, .int)]) [0, 1, 2, 3, 4, 5, 6, 7, 8, 9, 10] rfl
    refine va_callv (va_runV (As := [.int 0]) (rest := []) ⟨hx, hb, hml, hown, hw⟩ (c_Ref_findGraphs l dC dI h0 p4 h1 h2 h3 h4 h5 h6 h7 h8 h9 h10 h11 h12 p5 h13 h14 h15 h16 p6 p7 h17 h18 h19 p8 h20 p9 p10 h21 h22 h23 h24 h25 h26 h27 h28 p11 p12 h29 h30 h31 h32 h33 h34 h35 h36 p13 h37 k5 k6 k7 (fun _ => 0) k10 (fun _ => 0) k11 f11 k20 k22 f22 k23 f23 k25 f25 k26 k29 H.size) (cw_V 1 hw g_Ref_findGraphs rfl rfl rfl (hw _ m_109) (hw _ m_1186) (hw _ m_1188) (hw _ m_78) (by decide +kernel) ⟨Nat.le_of_ble_eq_true rfl, Nat.le_of_ble_eq_true rfl⟩) ⟨fun a U g mk q => by obtain ⟨q0, q1, qP, qK, qD, qN⟩ := q; exact ⟨q0, q1, qP, va_K.moved (u := U) (U := U.calling g mk a) (Vm.Alike.refl U.vm) qK, qD, nw_call qN⟩, va_recv hKc hPc (ci := 8) (q0 := 0) rfl rfl, fun U hU hW => ⟨rfl, by rw [hU], by rw [hU]; exact hPc, va_K.moved hW.alike hKc, hDc.weaken (fun _ _ _ _ => trivial), nw_warm hW hn⟩⟩ rfl rfl hl.1 rfl (lv_room (Nat.le_of_ble_eq_true rfl)) d_Ref_ordered_13 ⟨Nat.le_of_ble_eq_true rfl, Nat.le_of_ble_eq_true rfl⟩) hS (fun q _ h => hFc q h) hFc ?_
    intro u t H1 locs1 ht hvm hw1 hB hz1 hk1 hS1
    obtain ⟨hP1, hK1, hD1⟩ := hB
    rw [ht] at hP1
    replace hK1 := va_K.moved hvm.symm hK1
    have hPD := join3 hP hD rfl [0, 1, 2, 3, 4, 5, 6, 7, 8, 9, 10, 11] [] rfl (by rfl) (by decide +kernel) (by decide +kernel) hk1 hFc hP1 hD1
    replace hK : va_K (dC, dI) classes [(k5, .boolean), (k6, .int), (k7, .short), (k10, .int), (k11, .int), (k20, .int), (k22, .boolean), (k23, .boolean), (k25, .int), (k26, .int), (k29, .int)] s := hK.app hK1
    clear hP1 hK1 hD1 hk1 hz1 hFc hKc hDc hPc hvm ht hP hS t locs H
    have hP : va_P (dC, dI) classes [oc h0 8 [.int 0, .int p4, .ref h1, .ref h2, .ref h3, .ref h4, .ref h5, .ref h6, .ref h7, .ref h8, .ref h9, .ref h10, .ref h11, .ref h12, .int p5, .ref h13, .ref h14, .ref h15, .ref h16, .int p6, .int p7, .ref h17, .ref h18, .ref h19, .int p8, .ref h20, .int p9, .int p10, .ref h21, .ref h22, .ref h23, .ref h24, .ref h25, .ref h26, .ref h27, .ref h28, .int 0, .int 0, .ref h29, .ref h30, .ref h31, .ref h32, .ref h33, .ref h34, .ref h35, .ref h36, .int 0, .ref h37], ia h6 k5 8 (upd (fun _ => 0) 4 1), ia h7 k6 8 (upd (fun _ => 0) 4 1), ia h8 k7 352000 (upd (upd (upd (upd (upd (upd (upd (upd (upd (upd (upd (fun _ => 0) 176000 0) 176001 0) 176002 0) 176003 0) 176004 0) 176005 0) 176006 0) 176007 0) 176008 0) 176009 0) 176010 0), ia h11 k10 32000 (upd (fun _ => 0) 16000 0), ia h12 k11 4 (upd (upd f11 0 0) 0 1), ia h21 k20 11 (fun _ => 0), ia h23 k22 28 (upd (upd (upd (upd (upd (upd (upd (upd (upd (upd (upd (upd (upd (upd (upd (upd (upd (upd (upd (upd (upd (upd (upd (upd (upd (upd (upd (upd f22 0 0) 1 0) 2 0) 3 0) 4 0) 5 0) 6 0) 7 0) 8 0) 9 0) 10 0) 11 0) 12 0) 13 0) 14 0) 15 0) 16 0) 17 0) 18 0) 19 0) 20 0) 21 0) 22 0) 23 0) 24 0) 25 0) 26 0) 27 0), ia h24 k23 28 (upd (upd (upd (upd (upd (upd (upd (upd (upd (upd (upd (upd (upd (upd (upd (upd (upd (upd (upd (upd (upd (upd (upd (upd (upd (upd (upd (upd f23 0 0) 1 0) 2 0) 3 0) 4 0) 5 0) 6 0) 7 0) 8 0) 9 0) 10 0) 11 0) 12 0) 13 0) 14 0) 15 0) 16 0) 17 0) 18 0) 19 0) 20 0) 21 0) 22 0) 23 0) 24 0) 25 0) 26 0) 27 0), ia h26 k25 4 (upd (upd (upd (upd f25 0 0) 1 0) 2 0) 3 0), ia h27 k26 8 (upd (upd (upd (upd (upd (upd (upd (upd (fun _ => 0) 0 0) 1 0) 2 0) 3 0) 4 0) 5 0) 6 0) 7 0), ia h30 k29 4 (fun _ => 0)] H1 := hPD.1
    replace hD : dd A [h0, h6, h7, h8, h11, h12, h21, h23, h24, h26, h27, h30] := dd_of hPD.2 rfl
    clear hPD
    revert H1 locs1
    intro H locs hS hP
    clear hw1 u
    refine tp_pc (pc' := 16) (by rfl) ?_
    refine lv_aload_n hx hb d_Ref_ordered_16 rfl (lv_at hl 0 rfl) ?_
    refine lv_iconst (v := 4) hx hb d_Ref_ordered_17 (by decide) ?_
    refine lv_iload_n hx hb d_Ref_ordered_18 rfl (lv_at hl 1 rfl) ?_
    refine lv_iadd hx hb d_Ref_ordered_19 ?_
    refine tp_i (y := 4) (by first | rfl | decide) ?_
    refine lv_iload_n hx hb d_Ref_ordered_20 rfl (lv_at hl 2 rfl) ?_
    refine lv_iload_n hx hb d_Ref_ordered_21 rfl (lv_at hl 3 rfl) ?_
    obtain ⟨hPc, hDc, hFc⟩ := cut3 (wc := [oc h0 8 [.int 0, .int p4, .ref h1, .ref h2, .ref h3, .ref h4, .ref h5, .ref h6, .ref h7, .ref h8, .ref h9, .ref h10, .ref h11, .ref h12, .int p5, .ref h13, .ref h14, .ref h15, .ref h16, .int p6, .int p7, .ref h17, .ref h18, .ref h19, .int p8, .ref h20, .int p9, .int p10, .ref h21, .ref h22, .ref h23, .ref h24, .ref h25, .ref h26, .ref h27, .ref h28, .int 0, .int 0, .ref h29, .ref h30, .ref h31, .ref h32, .ref h33, .ref h34, .ref h35, .ref h36, .int 0, .ref h37], ia h7 k6 8 (upd (fun _ => 0) 4 1), ia h8 k7 352000 (upd (upd (upd (upd (upd (upd (upd (upd (upd (upd (upd (fun _ => 0) 176000 0) 176001 0) 176002 0) 176003 0) 176004 0) 176005 0) 176006 0) 176007 0) 176008 0) 176009 0) 176010 0), ia h11 k10 32000 (upd (fun _ => 0) 16000 0)]) hP hD rfl hS hA [0, 2, 3, 4] (by decide +kernel) rfl
    have hKc := hK.sub (tys' := [(k6, .int), (k7, .short), (k10, .int)]) [1, 2, 3] rfl
    refine va_calli (va_runV (As := [.int 4, .int p1, .int p2]) (rest := []) ⟨hx, hb, hml, hown, hw⟩ (c_Ref_told_v5 l dC dI h0 p1 p2 0 p4 h1 h2 h3 h4 h5 h6 h7 h8 h9 h10 h11 h12 p5 h13 h14 h15 h16 p6 p7 h17 h18 h19 p8 h20 p9 p10 h21 h22 h23 h24 h25 h26 h27 h28 0 0 h29 h30 h31 h32 h33 h34 h35 h36 0 h37 k6 k7 k10 H.size) (cw_V 3 hw g_Ref_told rfl rfl rfl (hw _ m_109) (hw _ m_1174) (hw _ m_1176) (hw _ m_77) (by decide +kernel) ⟨Nat.le_of_ble_eq_true rfl, Nat.le_of_ble_eq_true rfl⟩) ⟨fun a U g mk q => by obtain ⟨q0, q1, qP, qK, qD, qN⟩ := q; exact ⟨q0, q1, qP, va_K.moved (u := U) (U := U.calling g mk a) (Vm.Alike.refl U.vm) qK, qD, nw_call qN⟩, va_recv hKc hPc (ci := 8) (q0 := 0) rfl rfl, fun U hU hW => ⟨rfl, by rw [hU], by rw [hU]; exact hPc, va_K.moved hW.alike hKc, hDc.weaken (fun _ _ _ _ => trivial), nw_warm hW hn⟩⟩ rfl rfl hl.1 rfl (lv_room (Nat.le_of_ble_eq_true rfl)) d_Ref_ordered_22 ⟨Nat.le_of_ble_eq_true rfl, Nat.le_of_ble_eq_true rfl⟩) hS (fun q _ h => hFc q h) hFc ?_
    intro r_5 u t H1 locs1 ht hvm hw1 hB hz1 hk1 hS1
    obtain ⟨hP1, hK1, hD1⟩ := hB
    rw [ht] at hP1
    replace hK1 := va_K.moved hvm.symm hK1
    have hPD := join3 hP hD rfl [0, 2, 3, 4] [1, 5, 6, 7, 8, 9, 10, 11] rfl (by rfl) (by decide +kernel) (by decide +kernel) hk1 hFc hP1 hD1
    replace hK : va_K (dC, dI) classes [(k5, .boolean), (k6, .int), (k7, .short), (k10, .int), (k11, .int), (k20, .int), (k22, .boolean), (k23, .boolean), (k25, .int), (k26, .int), (k29, .int)] s := hK.app hK1
    clear hP1 hK1 hD1 hk1 hz1 hFc hKc hDc hPc hvm ht hP hS t locs H
    have hP : va_P (dC, dI) classes [ia h6 k5 8 (upd (fun _ => 0) 4 1), ia h12 k11 4 (upd (upd f11 0 0) 0 1), ia h21 k20 11 (fun _ => 0), ia h23 k22 28 (upd (upd (upd (upd (upd (upd (upd (upd (upd (upd (upd (upd (upd (upd (upd (upd (upd (upd (upd (upd (upd (upd (upd (upd (upd (upd (upd (upd f22 0 0) 1 0) 2 0) 3 0) 4 0) 5 0) 6 0) 7 0) 8 0) 9 0) 10 0) 11 0) 12 0) 13 0) 14 0) 15 0) 16 0) 17 0) 18 0) 19 0) 20 0) 21 0) 22 0) 23 0) 24 0) 25 0) 26 0) 27 0), ia h24 k23 28 (upd (upd (upd (upd (upd (upd (upd (upd (upd (upd (upd (upd (upd (upd (upd (upd (upd (upd (upd (upd (upd (upd (upd (upd (upd (upd (upd (upd f23 0 0) 1 0) 2 0) 3 0) 4 0) 5 0) 6 0) 7 0) 8 0) 9 0) 10 0) 11 0) 12 0) 13 0) 14 0) 15 0) 16 0) 17 0) 18 0) 19 0) 20 0) 21 0) 22 0) 23 0) 24 0) 25 0) 26 0) 27 0), ia h26 k25 4 (upd (upd (upd (upd f25 0 0) 1 0) 2 0) 3 0), ia h27 k26 8 (upd (upd (upd (upd (upd (upd (upd (upd (fun _ => 0) 0 0) 1 0) 2 0) 3 0) 4 0) 5 0) 6 0) 7 0), ia h30 k29 4 (fun _ => 0), oc h0 8 [.int 0, .int p4, .ref h1, .ref h2, .ref h3, .ref h4, .ref h5, .ref h6, .ref h7, .ref h8, .ref h9, .ref h10, .ref h11, .ref h12, .int p5, .ref h13, .ref h14, .ref h15, .ref h16, .int p6, .int p7, .ref h17, .ref h18, .ref h19, .int p8, .ref h20, .int p9, .int p10, .ref h21, .ref h22, .ref h23, .ref h24, .ref h25, .ref h26, .ref h27, .ref h28, .int 0, .int 0, .ref h29, .ref h30, .ref h31, .ref h32, .ref h33, .ref h34, .ref h35, .ref h36, .int 0, .ref h37], ia h7 k6 8 (upd (fun _ => 0) 4 1), ia h8 k7 352000 (upd (upd (upd (upd (upd (upd (upd (upd (upd (upd (upd (fun _ => 0) 176000 0) 176001 0) 176002 0) 176003 0) 176004 0) 176005 0) 176006 0) 176007 0) 176008 0) 176009 0) 176010 0), ia h11 k10 32000 (upd (fun _ => 0) 16000 0)] H1 := hPD.1
    replace hD : dd A [h6, h12, h21, h23, h24, h26, h27, h30, h0, h7, h8, h11] := dd_of hPD.2 rfl
    clear hPD
    revert H1 locs1
    intro H locs hS hP
    refine tp_i (y := fv p1 p2) hw1 ?_
    clear hw1 r_5 u
    refine tp_pc (pc' := 25) (by rfl) ?_
    obtain ⟨hP9, hD9, -⟩ := cut3 (wc := []) hP hD rfl hS hA [] (by decide +kernel) rfl
    have hK9 := hK.sub (tys' := []) [] rfl
    refine W.widen (k := 0) (n := 0) (by exact Nat.le_of_ble_eq_true rfl) (by exact Nat.le_of_ble_eq_true rfl) ?_
    exact W.iret (v := (fv p1 p2)) hx hb hr (fun t ht hW => ⟨⟨fv p1 p2, (), rfl, (by first | exact (fo_0 _ _).symm | exact (fo_1 _ _).symm | exact (fo_2 _ _).symm | exact (fo_3 _ _).symm | exact (fo_o (by assumption)).symm), by rw [ht]; exact hP9, va_K.moved hW.alike hK9, hD9⟩, hS.F ht⟩) hS.2.2 d_Ref_ordered_25
  · skip
    refine lv_iload_n hx hb d_Ref_ordered_0 rfl (lv_at hl 1 rfl) ?_
    obtain ⟨hPc, hDc, hFc⟩ := cut3 (wc := []) hP hD rfl hS hA [] (by decide +kernel) rfl
    have hKc := hK.sub (tys' := []) [] rfl
    refine va_calli (va_runS (As := [.int 1]) (rest := []) ⟨hx, hb, hml, hown, hw⟩ (c_Ref_isModel_v2 l dC dI  s.heap.size) (cw_S 1 hw g_Ref_isModel rfl rfl rfl (hw _ m_109) (hw _ m_1066) (hw _ m_1067) (by decide +kernel) ⟨Nat.le_of_ble_eq_true rfl, Nat.le_of_ble_eq_true rfl⟩) ⟨fun a U g mk q => by obtain ⟨q0, q1, qP, qK, qD, qN⟩ := q; exact ⟨q0, q1, qP, va_K.moved (u := U) (U := U.calling g mk a) (Vm.Alike.refl U.vm) qK, qD, nw_call qN⟩, fun U hU hW => ⟨rfl, by rw [hU], by rw [hU]; exact hPc, va_K.moved hW.alike hKc, hDc.weaken (fun _ _ _ _ => trivial), nw_warm hW hn⟩⟩ rfl rfl hl.1 rfl (lv_room (Nat.le_of_ble_eq_true rfl)) d_Ref_ordered_1 ⟨Nat.le_of_ble_eq_true rfl, Nat.le_of_ble_eq_true rfl⟩) hS (fun q _ h => hFc q h) hFc ?_
    intro r_6 u t H1 locs1 ht hvm hw1 hB hz1 hk1 hS1
    obtain ⟨hP1, hK1, hD1⟩ := hB
    rw [ht] at hP1
    replace hK1 := va_K.moved hvm.symm hK1
    have hPD := join3 hP hD rfl [] [0, 1, 2, 3, 4, 5, 6, 7, 8, 9, 10, 11] rfl (by rfl) (by decide +kernel) (by decide +kernel) hk1 hFc hP1 hD1
    replace hK : va_K (dC, dI) classes [(k5, .boolean), (k6, .int), (k7, .short), (k10, .int), (k11, .int), (k20, .int), (k22, .boolean), (k23, .boolean), (k25, .int), (k26, .int), (k29, .int)] s := hK.app hK1
    clear hP1 hK1 hD1 hk1 hz1 hFc hKc hDc hPc hvm ht hP hS t
    have hP : va_P (dC, dI) classes [oc h0 8 [.int 0, .int p4, .ref h1, .ref h2, .ref h3, .ref h4, .ref h5, .ref h6, .ref h7, .ref h8, .ref h9, .ref h10, .ref h11, .ref h12, .int p5, .ref h13, .ref h14, .ref h15, .ref h16, .int p6, .int p7, .ref h17, .ref h18, .ref h19, .int p8, .ref h20, .int p9, .int p10, .ref h21, .ref h22, .ref h23, .ref h24, .ref h25, .ref h26, .ref h27, .ref h28, .int p11, .int p12, .ref h29, .ref h30, .ref h31, .ref h32, .ref h33, .ref h34, .ref h35, .ref h36, .int p13, .ref h37], ia h6 k5 8 (fun _ => 0), ia h7 k6 8 (fun _ => 0), ia h8 k7 352000 (fun _ => 0), ia h11 k10 32000 (fun _ => 0), ia h12 k11 4 f11, ia h21 k20 11 (fun _ => 0), ia h23 k22 28 f22, ia h24 k23 28 f23, ia h26 k25 4 f25, ia h27 k26 8 (fun _ => 0), ia h30 k29 4 (fun _ => 0)] H1 := hPD.1
    replace hD : dd A [h0, h6, h7, h8, h11, h12, h21, h23, h24, h26, h27, h30] := dd_of hPD.2 rfl
    clear hPD
    revert H1 locs1
    intro H locs hS hP
    refine tp_i (y := 1) hw1 ?_
    clear hw1 r_6 u
    refine tp_pc (pc' := 4) (by rfl) ?_
    refine lv_if_ne (tgt := 11) hx hb d_Ref_ordered_4 (by decide) (fun c_7 => ?_) (fun c_7 => absurd c_7 (by decide))
    refine tp_pc (pc' := 11) (by rfl) ?_
    refine lv_aload_n hx hb d_Ref_ordered_11 rfl (lv_at hl 0 rfl) ?_
    refine lv_iload_n hx hb d_Ref_ordered_12 rfl (lv_at hl 1 rfl) ?_
    obtain ⟨hPc, hDc, hFc⟩ := cut3 (wc := [oc h0 8 [.int 0, .int p4, .ref h1, .ref h2, .ref h3, .ref h4, .ref h5, .ref h6, .ref h7, .ref h8, .ref h9, .ref h10, .ref h11, .ref h12, .int p5, .ref h13, .ref h14, .ref h15, .ref h16, .int p6, .int p7, .ref h17, .ref h18, .ref h19, .int p8, .ref h20, .int p9, .int p10, .ref h21, .ref h22, .ref h23, .ref h24, .ref h25, .ref h26, .ref h27, .ref h28, .int p11, .int p12, .ref h29, .ref h30, .ref h31, .ref h32, .ref h33, .ref h34, .ref h35, .ref h36, .int p13, .ref h37], ia h6 k5 8 (fun _ => 0), ia h7 k6 8 (fun _ => 0), ia h8 k7 352000 (fun _ => 0), ia h11 k10 32000 (fun _ => 0), ia h12 k11 4 f11, ia h21 k20 11 (fun _ => 0), ia h23 k22 28 f22, ia h24 k23 28 f23, ia h26 k25 4 f25, ia h27 k26 8 (fun _ => 0), ia h30 k29 4 (fun _ => 0)]) hP hD rfl hS hA [0, 1, 2, 3, 4, 5, 6, 7, 8, 9, 10, 11] (by decide +kernel) rfl
    have hKc := hK.sub (tys' := [(k5, .boolean), (k6, .int), (k7, .short), (k10, .int), (k11, .int), (k20, .int), (k22, .boolean), (k23, .boolean), (k25, .int), (k26, .int), (k29, .int)]) [0, 1, 2, 3, 4, 5, 6, 7, 8, 9, 10] rfl
    refine va_callv (va_runV (As := [.int 1]) (rest := []) ⟨hx, hb, hml, hown, hw⟩ (c_Ref_findGraphs_v2 l dC dI h0 p4 h1 h2 h3 h4 h5 h6 h7 h8 h9 h10 h11 h12 p5 h13 h14 h15 h16 p6 p7 h17 h18 h19 p8 h20 p9 p10 h21 h22 h23 h24 h25 h26 h27 h28 p11 p12 h29 h30 h31 h32 h33 h34 h35 h36 p13 h37 k5 k6 k7 (fun _ => 0) k10 (fun _ => 0) k11 f11 k20 k22 f22 k23 f23 k25 f25 k26 k29 H.size) (cw_V 1 hw g_Ref_findGraphs rfl rfl rfl (hw _ m_109) (hw _ m_1186) (hw _ m_1188) (hw _ m_78) (by decide +kernel) ⟨Nat.le_of_ble_eq_true rfl, Nat.le_of_ble_eq_true rfl⟩) ⟨fun a U g mk q => by obtain ⟨q0, q1, qP, qK, qD, qN⟩ := q; exact ⟨q0, q1, qP, va_K.moved (u := U) (U := U.calling g mk a) (Vm.Alike.refl U.vm) qK, qD, nw_call qN⟩, va_recv hKc hPc (ci := 8) (q0 := 0) rfl rfl, fun U hU hW => ⟨rfl, by rw [hU], by rw [hU]; exact hPc, va_K.moved hW.alike hKc, hDc.weaken (fun _ _ _ _ => trivial), nw_warm hW hn⟩⟩ rfl rfl hl.1 rfl (lv_room (Nat.le_of_ble_eq_true rfl)) d_Ref_ordered_13 ⟨Nat.le_of_ble_eq_true rfl, Nat.le_of_ble_eq_true rfl⟩) hS (fun q _ h => hFc q h) hFc ?_
    intro u t H1 locs1 ht hvm hw1 hB hz1 hk1 hS1
    obtain ⟨hP1, hK1, hD1⟩ := hB
    rw [ht] at hP1
    replace hK1 := va_K.moved hvm.symm hK1
    have hPD := join3 hP hD rfl [0, 1, 2, 3, 4, 5, 6, 7, 8, 9, 10, 11] [] rfl (by rfl) (by decide +kernel) (by decide +kernel) hk1 hFc hP1 hD1
    replace hK : va_K (dC, dI) classes [(k5, .boolean), (k6, .int), (k7, .short), (k10, .int), (k11, .int), (k20, .int), (k22, .boolean), (k23, .boolean), (k25, .int), (k26, .int), (k29, .int)] s := hK.app hK1
    clear hP1 hK1 hD1 hk1 hz1 hFc hKc hDc hPc hvm ht hP hS t locs H
    have hP : va_P (dC, dI) classes [oc h0 8 [.int 0, .int p4, .ref h1, .ref h2, .ref h3, .ref h4, .ref h5, .ref h6, .ref h7, .ref h8, .ref h9, .ref h10, .ref h11, .ref h12, .int p5, .ref h13, .ref h14, .ref h15, .ref h16, .int p6, .int p7, .ref h17, .ref h18, .ref h19, .int p8, .ref h20, .int p9, .int p10, .ref h21, .ref h22, .ref h23, .ref h24, .ref h25, .ref h26, .ref h27, .ref h28, .int 0, .int 1, .ref h29, .ref h30, .ref h31, .ref h32, .ref h33, .ref h34, .ref h35, .ref h36, .int 0, .ref h37], ia h6 k5 8 (upd (fun _ => 0) 5 1), ia h7 k6 8 (upd (fun _ => 0) 5 1), ia h8 k7 352000 (upd (upd (upd (upd (upd (upd (upd (upd (upd (upd (upd (fun _ => 0) 220000 0) 220001 0) 220002 0) 220003 0) 220004 0) 220005 0) 220006 0) 220007 0) 220008 0) 220009 0) 220010 0), ia h11 k10 32000 (upd (fun _ => 0) 20000 0), ia h12 k11 4 (upd (upd f11 1 0) 1 1), ia h21 k20 11 (fun _ => 0), ia h23 k22 28 (upd (upd (upd (upd (upd (upd (upd (upd (upd (upd (upd (upd (upd (upd (upd (upd (upd (upd (upd (upd (upd (upd (upd (upd (upd (upd (upd (upd f22 0 0) 1 0) 2 0) 3 0) 4 0) 5 0) 6 0) 7 0) 8 0) 9 0) 10 0) 11 0) 12 0) 13 0) 14 0) 15 0) 16 0) 17 0) 18 0) 19 0) 20 0) 21 0) 22 0) 23 0) 24 0) 25 0) 26 0) 27 0), ia h24 k23 28 (upd (upd (upd (upd (upd (upd (upd (upd (upd (upd (upd (upd (upd (upd (upd (upd (upd (upd (upd (upd (upd (upd (upd (upd (upd (upd (upd (upd f23 0 0) 1 0) 2 0) 3 0) 4 0) 5 0) 6 0) 7 0) 8 0) 9 0) 10 0) 11 0) 12 0) 13 0) 14 0) 15 0) 16 0) 17 0) 18 0) 19 0) 20 0) 21 0) 22 0) 23 0) 24 0) 25 0) 26 0) 27 0), ia h26 k25 4 (upd (upd (upd (upd f25 0 0) 1 0) 2 0) 3 0), ia h27 k26 8 (upd (upd (upd (upd (upd (upd (upd (upd (fun _ => 0) 0 0) 1 0) 2 0) 3 0) 4 0) 5 0) 6 0) 7 0), ia h30 k29 4 (fun _ => 0)] H1 := hPD.1
    replace hD : dd A [h0, h6, h7, h8, h11, h12, h21, h23, h24, h26, h27, h30] := dd_of hPD.2 rfl
    clear hPD
    revert H1 locs1
    intro H locs hS hP
    clear hw1 u
    refine tp_pc (pc' := 16) (by rfl) ?_
    refine lv_aload_n hx hb d_Ref_ordered_16 rfl (lv_at hl 0 rfl) ?_
    refine lv_iconst (v := 4) hx hb d_Ref_ordered_17 (by decide) ?_
    refine lv_iload_n hx hb d_Ref_ordered_18 rfl (lv_at hl 1 rfl) ?_
    refine lv_iadd hx hb d_Ref_ordered_19 ?_
    refine tp_i (y := 5) (by first | rfl | decide) ?_
    refine lv_iload_n hx hb d_Ref_ordered_20 rfl (lv_at hl 2 rfl) ?_
    refine lv_iload_n hx hb d_Ref_ordered_21 rfl (lv_at hl 3 rfl) ?_
    obtain ⟨hPc, hDc, hFc⟩ := cut3 (wc := [oc h0 8 [.int 0, .int p4, .ref h1, .ref h2, .ref h3, .ref h4, .ref h5, .ref h6, .ref h7, .ref h8, .ref h9, .ref h10, .ref h11, .ref h12, .int p5, .ref h13, .ref h14, .ref h15, .ref h16, .int p6, .int p7, .ref h17, .ref h18, .ref h19, .int p8, .ref h20, .int p9, .int p10, .ref h21, .ref h22, .ref h23, .ref h24, .ref h25, .ref h26, .ref h27, .ref h28, .int 0, .int 1, .ref h29, .ref h30, .ref h31, .ref h32, .ref h33, .ref h34, .ref h35, .ref h36, .int 0, .ref h37], ia h7 k6 8 (upd (fun _ => 0) 5 1), ia h8 k7 352000 (upd (upd (upd (upd (upd (upd (upd (upd (upd (upd (upd (fun _ => 0) 220000 0) 220001 0) 220002 0) 220003 0) 220004 0) 220005 0) 220006 0) 220007 0) 220008 0) 220009 0) 220010 0), ia h11 k10 32000 (upd (fun _ => 0) 20000 0)]) hP hD rfl hS hA [0, 2, 3, 4] (by decide +kernel) rfl
    have hKc := hK.sub (tys' := [(k6, .int), (k7, .short), (k10, .int)]) [1, 2, 3] rfl
    refine va_calli (va_runV (As := [.int 5, .int p1, .int p2]) (rest := []) ⟨hx, hb, hml, hown, hw⟩ (c_Ref_told_v6 l dC dI h0 p1 p2 0 p4 h1 h2 h3 h4 h5 h6 h7 h8 h9 h10 h11 h12 p5 h13 h14 h15 h16 p6 p7 h17 h18 h19 p8 h20 p9 p10 h21 h22 h23 h24 h25 h26 h27 h28 0 1 h29 h30 h31 h32 h33 h34 h35 h36 0 h37 k6 k7 k10 H.size) (cw_V 3 hw g_Ref_told rfl rfl rfl (hw _ m_109) (hw _ m_1174) (hw _ m_1176) (hw _ m_77) (by decide +kernel) ⟨Nat.le_of_ble_eq_true rfl, Nat.le_of_ble_eq_true rfl⟩) ⟨fun a U g mk q => by obtain ⟨q0, q1, qP, qK, qD, qN⟩ := q; exact ⟨q0, q1, qP, va_K.moved (u := U) (U := U.calling g mk a) (Vm.Alike.refl U.vm) qK, qD, nw_call qN⟩, va_recv hKc hPc (ci := 8) (q0 := 0) rfl rfl, fun U hU hW => ⟨rfl, by rw [hU], by rw [hU]; exact hPc, va_K.moved hW.alike hKc, hDc.weaken (fun _ _ _ _ => trivial), nw_warm hW hn⟩⟩ rfl rfl hl.1 rfl (lv_room (Nat.le_of_ble_eq_true rfl)) d_Ref_ordered_22 ⟨Nat.le_of_ble_eq_true rfl, Nat.le_of_ble_eq_true rfl⟩) hS (fun q _ h => hFc q h) hFc ?_
    intro r_9 u t H1 locs1 ht hvm hw1 hB hz1 hk1 hS1
    obtain ⟨hP1, hK1, hD1⟩ := hB
    rw [ht] at hP1
    replace hK1 := va_K.moved hvm.symm hK1
    have hPD := join3 hP hD rfl [0, 2, 3, 4] [1, 5, 6, 7, 8, 9, 10, 11] rfl (by rfl) (by decide +kernel) (by decide +kernel) hk1 hFc hP1 hD1
    replace hK : va_K (dC, dI) classes [(k5, .boolean), (k6, .int), (k7, .short), (k10, .int), (k11, .int), (k20, .int), (k22, .boolean), (k23, .boolean), (k25, .int), (k26, .int), (k29, .int)] s := hK.app hK1
    clear hP1 hK1 hD1 hk1 hz1 hFc hKc hDc hPc hvm ht hP hS t locs H
    have hP : va_P (dC, dI) classes [ia h6 k5 8 (upd (fun _ => 0) 5 1), ia h12 k11 4 (upd (upd f11 1 0) 1 1), ia h21 k20 11 (fun _ => 0), ia h23 k22 28 (upd (upd (upd (upd (upd (upd (upd (upd (upd (upd (upd (upd (upd (upd (upd (upd (upd (upd (upd (upd (upd (upd (upd (upd (upd (upd (upd (upd f22 0 0) 1 0) 2 0) 3 0) 4 0) 5 0) 6 0) 7 0) 8 0) 9 0) 10 0) 11 0) 12 0) 13 0) 14 0) 15 0) 16 0) 17 0) 18 0) 19 0) 20 0) 21 0) 22 0) 23 0) 24 0) 25 0) 26 0) 27 0), ia h24 k23 28 (upd (upd (upd (upd (upd (upd (upd (upd (upd (upd (upd (upd (upd (upd (upd (upd (upd (upd (upd (upd (upd (upd (upd (upd (upd (upd (upd (upd f23 0 0) 1 0) 2 0) 3 0) 4 0) 5 0) 6 0) 7 0) 8 0) 9 0) 10 0) 11 0) 12 0) 13 0) 14 0) 15 0) 16 0) 17 0) 18 0) 19 0) 20 0) 21 0) 22 0) 23 0) 24 0) 25 0) 26 0) 27 0), ia h26 k25 4 (upd (upd (upd (upd f25 0 0) 1 0) 2 0) 3 0), ia h27 k26 8 (upd (upd (upd (upd (upd (upd (upd (upd (fun _ => 0) 0 0) 1 0) 2 0) 3 0) 4 0) 5 0) 6 0) 7 0), ia h30 k29 4 (fun _ => 0), oc h0 8 [.int 0, .int p4, .ref h1, .ref h2, .ref h3, .ref h4, .ref h5, .ref h6, .ref h7, .ref h8, .ref h9, .ref h10, .ref h11, .ref h12, .int p5, .ref h13, .ref h14, .ref h15, .ref h16, .int p6, .int p7, .ref h17, .ref h18, .ref h19, .int p8, .ref h20, .int p9, .int p10, .ref h21, .ref h22, .ref h23, .ref h24, .ref h25, .ref h26, .ref h27, .ref h28, .int 0, .int 1, .ref h29, .ref h30, .ref h31, .ref h32, .ref h33, .ref h34, .ref h35, .ref h36, .int 0, .ref h37], ia h7 k6 8 (upd (fun _ => 0) 5 1), ia h8 k7 352000 (upd (upd (upd (upd (upd (upd (upd (upd (upd (upd (upd (fun _ => 0) 220000 0) 220001 0) 220002 0) 220003 0) 220004 0) 220005 0) 220006 0) 220007 0) 220008 0) 220009 0) 220010 0), ia h11 k10 32000 (upd (fun _ => 0) 20000 0)] H1 := hPD.1
    replace hD : dd A [h6, h12, h21, h23, h24, h26, h27, h30, h0, h7, h8, h11] := dd_of hPD.2 rfl
    clear hPD
    revert H1 locs1
    intro H locs hS hP
    refine tp_i (y := fv p1 p2) hw1 ?_
    clear hw1 r_9 u
    refine tp_pc (pc' := 25) (by rfl) ?_
    obtain ⟨hP9, hD9, -⟩ := cut3 (wc := []) hP hD rfl hS hA [] (by decide +kernel) rfl
    have hK9 := hK.sub (tys' := []) [] rfl
    refine W.widen (k := 0) (n := 0) (by exact Nat.le_of_ble_eq_true rfl) (by exact Nat.le_of_ble_eq_true rfl) ?_
    exact W.iret (v := (fv p1 p2)) hx hb hr (fun t ht hW => ⟨⟨fv p1 p2, (), rfl, (by first | exact (fo_0 _ _).symm | exact (fo_1 _ _).symm | exact (fo_2 _ _).symm | exact (fo_3 _ _).symm | exact (fo_o (by assumption)).symm), by rw [ht]; exact hP9, va_K.moved hW.alike hK9, hD9⟩, hS.F ht⟩) hS.2.2 d_Ref_ordered_25
  · skip
    refine lv_iload_n hx hb d_Ref_ordered_0 rfl (lv_at hl 1 rfl) ?_
    obtain ⟨hPc, hDc, hFc⟩ := cut3 (wc := []) hP hD rfl hS hA [] (by decide +kernel) rfl
    have hKc := hK.sub (tys' := []) [] rfl
    refine va_calli (va_runS (As := [.int 2]) (rest := []) ⟨hx, hb, hml, hown, hw⟩ (c_Ref_isModel_v3 l dC dI  s.heap.size) (cw_S 1 hw g_Ref_isModel rfl rfl rfl (hw _ m_109) (hw _ m_1066) (hw _ m_1067) (by decide +kernel) ⟨Nat.le_of_ble_eq_true rfl, Nat.le_of_ble_eq_true rfl⟩) ⟨fun a U g mk q => by obtain ⟨q0, q1, qP, qK, qD, qN⟩ := q; exact ⟨q0, q1, qP, va_K.moved (u := U) (U := U.calling g mk a) (Vm.Alike.refl U.vm) qK, qD, nw_call qN⟩, fun U hU hW => ⟨rfl, by rw [hU], by rw [hU]; exact hPc, va_K.moved hW.alike hKc, hDc.weaken (fun _ _ _ _ => trivial), nw_warm hW hn⟩⟩ rfl rfl hl.1 rfl (lv_room (Nat.le_of_ble_eq_true rfl)) d_Ref_ordered_1 ⟨Nat.le_of_ble_eq_true rfl, Nat.le_of_ble_eq_true rfl⟩) hS (fun q _ h => hFc q h) hFc ?_
    intro r_10 u t H1 locs1 ht hvm hw1 hB hz1 hk1 hS1
    obtain ⟨hP1, hK1, hD1⟩ := hB
    rw [ht] at hP1
    replace hK1 := va_K.moved hvm.symm hK1
    have hPD := join3 hP hD rfl [] [0, 1, 2, 3, 4, 5, 6, 7, 8, 9, 10, 11] rfl (by rfl) (by decide +kernel) (by decide +kernel) hk1 hFc hP1 hD1
    replace hK : va_K (dC, dI) classes [(k5, .boolean), (k6, .int), (k7, .short), (k10, .int), (k11, .int), (k20, .int), (k22, .boolean), (k23, .boolean), (k25, .int), (k26, .int), (k29, .int)] s := hK.app hK1
    clear hP1 hK1 hD1 hk1 hz1 hFc hKc hDc hPc hvm ht hP hS t
    have hP : va_P (dC, dI) classes [oc h0 8 [.int 0, .int p4, .ref h1, .ref h2, .ref h3, .ref h4, .ref h5, .ref h6, .ref h7, .ref h8, .ref h9, .ref h10, .ref h11, .ref h12, .int p5, .ref h13, .ref h14, .ref h15, .ref h16, .int p6, .int p7, .ref h17, .ref h18, .ref h19, .int p8, .ref h20, .int p9, .int p10, .ref h21, .ref h22, .ref h23, .ref h24, .ref h25, .ref h26, .ref h27, .ref h28, .int p11, .int p12, .ref h29, .ref h30, .ref h31, .ref h32, .ref h33, .ref h34, .ref h35, .ref h36, .int p13, .ref h37], ia h6 k5 8 (fun _ => 0), ia h7 k6 8 (fun _ => 0), ia h8 k7 352000 (fun _ => 0), ia h11 k10 32000 (fun _ => 0), ia h12 k11 4 f11, ia h21 k20 11 (fun _ => 0), ia h23 k22 28 f22, ia h24 k23 28 f23, ia h26 k25 4 f25, ia h27 k26 8 (fun _ => 0), ia h30 k29 4 (fun _ => 0)] H1 := hPD.1
    replace hD : dd A [h0, h6, h7, h8, h11, h12, h21, h23, h24, h26, h27, h30] := dd_of hPD.2 rfl
    clear hPD
    revert H1 locs1
    intro H locs hS hP
    refine tp_i (y := 1) hw1 ?_
    clear hw1 r_10 u
    refine tp_pc (pc' := 4) (by rfl) ?_
    refine lv_if_ne (tgt := 11) hx hb d_Ref_ordered_4 (by decide) (fun c_11 => ?_) (fun c_11 => absurd c_11 (by decide))
    refine tp_pc (pc' := 11) (by rfl) ?_
    refine lv_aload_n hx hb d_Ref_ordered_11 rfl (lv_at hl 0 rfl) ?_
    refine lv_iload_n hx hb d_Ref_ordered_12 rfl (lv_at hl 1 rfl) ?_
    obtain ⟨hPc, hDc, hFc⟩ := cut3 (wc := [oc h0 8 [.int 0, .int p4, .ref h1, .ref h2, .ref h3, .ref h4, .ref h5, .ref h6, .ref h7, .ref h8, .ref h9, .ref h10, .ref h11, .ref h12, .int p5, .ref h13, .ref h14, .ref h15, .ref h16, .int p6, .int p7, .ref h17, .ref h18, .ref h19, .int p8, .ref h20, .int p9, .int p10, .ref h21, .ref h22, .ref h23, .ref h24, .ref h25, .ref h26, .ref h27, .ref h28, .int p11, .int p12, .ref h29, .ref h30, .ref h31, .ref h32, .ref h33, .ref h34, .ref h35, .ref h36, .int p13, .ref h37], ia h6 k5 8 (fun _ => 0), ia h7 k6 8 (fun _ => 0), ia h8 k7 352000 (fun _ => 0), ia h11 k10 32000 (fun _ => 0), ia h12 k11 4 f11, ia h21 k20 11 (fun _ => 0), ia h23 k22 28 f22, ia h24 k23 28 f23, ia h26 k25 4 f25, ia h27 k26 8 (fun _ => 0), ia h30 k29 4 (fun _ => 0)]) hP hD rfl hS hA [0, 1, 2, 3, 4, 5, 6, 7, 8, 9, 10, 11] (by decide +kernel) rfl
    have hKc := hK.sub (tys' := [(k5, .boolean), (k6, .int), (k7, .short), (k10, .int), (k11, .int), (k20, .int), (k22, .boolean), (k23, .boolean), (k25, .int), (k26, .int), (k29, .int)]) [0, 1, 2, 3, 4, 5, 6, 7, 8, 9, 10] rfl
    refine va_callv (va_runV (As := [.int 2]) (rest := []) ⟨hx, hb, hml, hown, hw⟩ (c_Ref_findGraphs_v3 l dC dI h0 p4 h1 h2 h3 h4 h5 h6 h7 h8 h9 h10 h11 h12 p5 h13 h14 h15 h16 p6 p7 h17 h18 h19 p8 h20 p9 p10 h21 h22 h23 h24 h25 h26 h27 h28 p11 p12 h29 h30 h31 h32 h33 h34 h35 h36 p13 h37 k5 k6 k7 (fun _ => 0) k10 (fun _ => 0) k11 f11 k20 k22 f22 k23 f23 k25 f25 k26 k29 H.size) (cw_V 1 hw g_Ref_findGraphs rfl rfl rfl (hw _ m_109) (hw _ m_1186) (hw _ m_1188) (hw _ m_78) (by decide +kernel) ⟨Nat.le_of_ble_eq_true rfl, Nat.le_of_ble_eq_true rfl⟩) ⟨fun a U g mk q => by obtain ⟨q0, q1, qP, qK, qD, qN⟩ := q; exact ⟨q0, q1, qP, va_K.moved (u := U) (U := U.calling g mk a) (Vm.Alike.refl U.vm) qK, qD, nw_call qN⟩, va_recv hKc hPc (ci := 8) (q0 := 0) rfl rfl, fun U hU hW => ⟨rfl, by rw [hU], by rw [hU]; exact hPc, va_K.moved hW.alike hKc, hDc.weaken (fun _ _ _ _ => trivial), nw_warm hW hn⟩⟩ rfl rfl hl.1 rfl (lv_room (Nat.le_of_ble_eq_true rfl)) d_Ref_ordered_13 ⟨Nat.le_of_ble_eq_true rfl, Nat.le_of_ble_eq_true rfl⟩) hS (fun q _ h => hFc q h) hFc ?_
    intro u t H1 locs1 ht hvm hw1 hB hz1 hk1 hS1
    obtain ⟨hP1, hK1, hD1⟩ := hB
    rw [ht] at hP1
    replace hK1 := va_K.moved hvm.symm hK1
    have hPD := join3 hP hD rfl [0, 1, 2, 3, 4, 5, 6, 7, 8, 9, 10, 11] [] rfl (by rfl) (by decide +kernel) (by decide +kernel) hk1 hFc hP1 hD1
    replace hK : va_K (dC, dI) classes [(k5, .boolean), (k6, .int), (k7, .short), (k10, .int), (k11, .int), (k20, .int), (k22, .boolean), (k23, .boolean), (k25, .int), (k26, .int), (k29, .int)] s := hK.app hK1
    clear hP1 hK1 hD1 hk1 hz1 hFc hKc hDc hPc hvm ht hP hS t locs H
    have hP : va_P (dC, dI) classes [oc h0 8 [.int 0, .int p4, .ref h1, .ref h2, .ref h3, .ref h4, .ref h5, .ref h6, .ref h7, .ref h8, .ref h9, .ref h10, .ref h11, .ref h12, .int p5, .ref h13, .ref h14, .ref h15, .ref h16, .int p6, .int p7, .ref h17, .ref h18, .ref h19, .int p8, .ref h20, .int p9, .int p10, .ref h21, .ref h22, .ref h23, .ref h24, .ref h25, .ref h26, .ref h27, .ref h28, .int 0, .int 2, .ref h29, .ref h30, .ref h31, .ref h32, .ref h33, .ref h34, .ref h35, .ref h36, .int 0, .ref h37], ia h6 k5 8 (upd (fun _ => 0) 6 1), ia h7 k6 8 (upd (fun _ => 0) 6 1), ia h8 k7 352000 (upd (upd (upd (upd (upd (upd (upd (upd (upd (upd (upd (fun _ => 0) 264000 0) 264001 0) 264002 0) 264003 0) 264004 0) 264005 0) 264006 0) 264007 0) 264008 0) 264009 0) 264010 0), ia h11 k10 32000 (upd (fun _ => 0) 24000 0), ia h12 k11 4 (upd (upd f11 2 0) 2 1), ia h21 k20 11 (fun _ => 0), ia h23 k22 28 (upd (upd (upd (upd (upd (upd (upd (upd (upd (upd (upd (upd (upd (upd (upd (upd (upd (upd (upd (upd (upd (upd (upd (upd (upd (upd (upd (upd f22 0 0) 1 0) 2 0) 3 0) 4 0) 5 0) 6 0) 7 0) 8 0) 9 0) 10 0) 11 0) 12 0) 13 0) 14 0) 15 0) 16 0) 17 0) 18 0) 19 0) 20 0) 21 0) 22 0) 23 0) 24 0) 25 0) 26 0) 27 0), ia h24 k23 28 (upd (upd (upd (upd (upd (upd (upd (upd (upd (upd (upd (upd (upd (upd (upd (upd (upd (upd (upd (upd (upd (upd (upd (upd (upd (upd (upd (upd f23 0 0) 1 0) 2 0) 3 0) 4 0) 5 0) 6 0) 7 0) 8 0) 9 0) 10 0) 11 0) 12 0) 13 0) 14 0) 15 0) 16 0) 17 0) 18 0) 19 0) 20 0) 21 0) 22 0) 23 0) 24 0) 25 0) 26 0) 27 0), ia h26 k25 4 (upd (upd (upd (upd f25 0 0) 1 0) 2 0) 3 0), ia h27 k26 8 (upd (upd (upd (upd (upd (upd (upd (upd (fun _ => 0) 0 0) 1 0) 2 0) 3 0) 4 0) 5 0) 6 0) 7 0), ia h30 k29 4 (fun _ => 0)] H1 := hPD.1
    replace hD : dd A [h0, h6, h7, h8, h11, h12, h21, h23, h24, h26, h27, h30] := dd_of hPD.2 rfl
    clear hPD
    revert H1 locs1
    intro H locs hS hP
    clear hw1 u
    refine tp_pc (pc' := 16) (by rfl) ?_
    refine lv_aload_n hx hb d_Ref_ordered_16 rfl (lv_at hl 0 rfl) ?_
    refine lv_iconst (v := 4) hx hb d_Ref_ordered_17 (by decide) ?_
    refine lv_iload_n hx hb d_Ref_ordered_18 rfl (lv_at hl 1 rfl) ?_
    refine lv_iadd hx hb d_Ref_ordered_19 ?_
    refine tp_i (y := 6) (by first | rfl | decide) ?_
    refine lv_iload_n hx hb d_Ref_ordered_20 rfl (lv_at hl 2 rfl) ?_
    refine lv_iload_n hx hb d_Ref_ordered_21 rfl (lv_at hl 3 rfl) ?_
    obtain ⟨hPc, hDc, hFc⟩ := cut3 (wc := [oc h0 8 [.int 0, .int p4, .ref h1, .ref h2, .ref h3, .ref h4, .ref h5, .ref h6, .ref h7, .ref h8, .ref h9, .ref h10, .ref h11, .ref h12, .int p5, .ref h13, .ref h14, .ref h15, .ref h16, .int p6, .int p7, .ref h17, .ref h18, .ref h19, .int p8, .ref h20, .int p9, .int p10, .ref h21, .ref h22, .ref h23, .ref h24, .ref h25, .ref h26, .ref h27, .ref h28, .int 0, .int 2, .ref h29, .ref h30, .ref h31, .ref h32, .ref h33, .ref h34, .ref h35, .ref h36, .int 0, .ref h37], ia h7 k6 8 (upd (fun _ => 0) 6 1), ia h8 k7 352000 (upd (upd (upd (upd (upd (upd (upd (upd (upd (upd (upd (fun _ => 0) 264000 0) 264001 0) 264002 0) 264003 0) 264004 0) 264005 0) 264006 0) 264007 0) 264008 0) 264009 0) 264010 0), ia h11 k10 32000 (upd (fun _ => 0) 24000 0)]) hP hD rfl hS hA [0, 2, 3, 4] (by decide +kernel) rfl
    have hKc := hK.sub (tys' := [(k6, .int), (k7, .short), (k10, .int)]) [1, 2, 3] rfl
    refine va_calli (va_runV (As := [.int 6, .int p1, .int p2]) (rest := []) ⟨hx, hb, hml, hown, hw⟩ (c_Ref_told_v7 l dC dI h0 p1 p2 0 p4 h1 h2 h3 h4 h5 h6 h7 h8 h9 h10 h11 h12 p5 h13 h14 h15 h16 p6 p7 h17 h18 h19 p8 h20 p9 p10 h21 h22 h23 h24 h25 h26 h27 h28 0 2 h29 h30 h31 h32 h33 h34 h35 h36 0 h37 k6 k7 k10 H.size) (cw_V 3 hw g_Ref_told rfl rfl rfl (hw _ m_109) (hw _ m_1174) (hw _ m_1176) (hw _ m_77) (by decide +kernel) ⟨Nat.le_of_ble_eq_true rfl, Nat.le_of_ble_eq_true rfl⟩) ⟨fun a U g mk q => by obtain ⟨q0, q1, qP, qK, qD, qN⟩ := q; exact ⟨q0, q1, qP, va_K.moved (u := U) (U := U.calling g mk a) (Vm.Alike.refl U.vm) qK, qD, nw_call qN⟩, va_recv hKc hPc (ci := 8) (q0 := 0) rfl rfl, fun U hU hW => ⟨rfl, by rw [hU], by rw [hU]; exact hPc, va_K.moved hW.alike hKc, hDc.weaken (fun _ _ _ _ => trivial), nw_warm hW hn⟩⟩ rfl rfl hl.1 rfl (lv_room (Nat.le_of_ble_eq_true rfl)) d_Ref_ordered_22 ⟨Nat.le_of_ble_eq_true rfl, Nat.le_of_ble_eq_true rfl⟩) hS (fun q _ h => hFc q h) hFc ?_
    intro r_13 u t H1 locs1 ht hvm hw1 hB hz1 hk1 hS1
    obtain ⟨hP1, hK1, hD1⟩ := hB
    rw [ht] at hP1
    replace hK1 := va_K.moved hvm.symm hK1
    have hPD := join3 hP hD rfl [0, 2, 3, 4] [1, 5, 6, 7, 8, 9, 10, 11] rfl (by rfl) (by decide +kernel) (by decide +kernel) hk1 hFc hP1 hD1
    replace hK : va_K (dC, dI) classes [(k5, .boolean), (k6, .int), (k7, .short), (k10, .int), (k11, .int), (k20, .int), (k22, .boolean), (k23, .boolean), (k25, .int), (k26, .int), (k29, .int)] s := hK.app hK1
    clear hP1 hK1 hD1 hk1 hz1 hFc hKc hDc hPc hvm ht hP hS t locs H
    have hP : va_P (dC, dI) classes [ia h6 k5 8 (upd (fun _ => 0) 6 1), ia h12 k11 4 (upd (upd f11 2 0) 2 1), ia h21 k20 11 (fun _ => 0), ia h23 k22 28 (upd (upd (upd (upd (upd (upd (upd (upd (upd (upd (upd (upd (upd (upd (upd (upd (upd (upd (upd (upd (upd (upd (upd (upd (upd (upd (upd (upd f22 0 0) 1 0) 2 0) 3 0) 4 0) 5 0) 6 0) 7 0) 8 0) 9 0) 10 0) 11 0) 12 0) 13 0) 14 0) 15 0) 16 0) 17 0) 18 0) 19 0) 20 0) 21 0) 22 0) 23 0) 24 0) 25 0) 26 0) 27 0), ia h24 k23 28 (upd (upd (upd (upd (upd (upd (upd (upd (upd (upd (upd (upd (upd (upd (upd (upd (upd (upd (upd (upd (upd (upd (upd (upd (upd (upd (upd (upd f23 0 0) 1 0) 2 0) 3 0) 4 0) 5 0) 6 0) 7 0) 8 0) 9 0) 10 0) 11 0) 12 0) 13 0) 14 0) 15 0) 16 0) 17 0) 18 0) 19 0) 20 0) 21 0) 22 0) 23 0) 24 0) 25 0) 26 0) 27 0), ia h26 k25 4 (upd (upd (upd (upd f25 0 0) 1 0) 2 0) 3 0), ia h27 k26 8 (upd (upd (upd (upd (upd (upd (upd (upd (fun _ => 0) 0 0) 1 0) 2 0) 3 0) 4 0) 5 0) 6 0) 7 0), ia h30 k29 4 (fun _ => 0), oc h0 8 [.int 0, .int p4, .ref h1, .ref h2, .ref h3, .ref h4, .ref h5, .ref h6, .ref h7, .ref h8, .ref h9, .ref h10, .ref h11, .ref h12, .int p5, .ref h13, .ref h14, .ref h15, .ref h16, .int p6, .int p7, .ref h17, .ref h18, .ref h19, .int p8, .ref h20, .int p9, .int p10, .ref h21, .ref h22, .ref h23, .ref h24, .ref h25, .ref h26, .ref h27, .ref h28, .int 0, .int 2, .ref h29, .ref h30, .ref h31, .ref h32, .ref h33, .ref h34, .ref h35, .ref h36, .int 0, .ref h37], ia h7 k6 8 (upd (fun _ => 0) 6 1), ia h8 k7 352000 (upd (upd (upd (upd (upd (upd (upd (upd (upd (upd (upd (fun _ => 0) 264000 0) 264001 0) 264002 0) 264003 0) 264004 0) 264005 0) 264006 0) 264007 0) 264008 0) 264009 0) 264010 0), ia h11 k10 32000 (upd (fun _ => 0) 24000 0)] H1 := hPD.1
    replace hD : dd A [h6, h12, h21, h23, h24, h26, h27, h30, h0, h7, h8, h11] := dd_of hPD.2 rfl
    clear hPD
    revert H1 locs1
    intro H locs hS hP
    refine tp_i (y := fv p1 p2) hw1 ?_
    clear hw1 r_13 u
    refine tp_pc (pc' := 25) (by rfl) ?_
    obtain ⟨hP9, hD9, -⟩ := cut3 (wc := []) hP hD rfl hS hA [] (by decide +kernel) rfl
    have hK9 := hK.sub (tys' := []) [] rfl
    refine W.widen (k := 0) (n := 0) (by exact Nat.le_of_ble_eq_true rfl) (by exact Nat.le_of_ble_eq_true rfl) ?_
    exact W.iret (v := (fv p1 p2)) hx hb hr (fun t ht hW => ⟨⟨fv p1 p2, (), rfl, (by first | exact (fo_0 _ _).symm | exact (fo_1 _ _).symm | exact (fo_2 _ _).symm | exact (fo_3 _ _).symm | exact (fo_o (by assumption)).symm), by rw [ht]; exact hP9, va_K.moved hW.alike hK9, hD9⟩, hS.F ht⟩) hS.2.2 d_Ref_ordered_25
  · skip
    refine lv_iload_n hx hb d_Ref_ordered_0 rfl (lv_at hl 1 rfl) ?_
    obtain ⟨hPc, hDc, hFc⟩ := cut3 (wc := []) hP hD rfl hS hA [] (by decide +kernel) rfl
    have hKc := hK.sub (tys' := []) [] rfl
    refine va_calli (va_runS (As := [.int 3]) (rest := []) ⟨hx, hb, hml, hown, hw⟩ (c_Ref_isModel_v4 l dC dI  s.heap.size) (cw_S 1 hw g_Ref_isModel rfl rfl rfl (hw _ m_109) (hw _ m_1066) (hw _ m_1067) (by decide +kernel) ⟨Nat.le_of_ble_eq_true rfl, Nat.le_of_ble_eq_true rfl⟩) ⟨fun a U g mk q => by obtain ⟨q0, q1, qP, qK, qD, qN⟩ := q; exact ⟨q0, q1, qP, va_K.moved (u := U) (U := U.calling g mk a) (Vm.Alike.refl U.vm) qK, qD, nw_call qN⟩, fun U hU hW => ⟨rfl, by rw [hU], by rw [hU]; exact hPc, va_K.moved hW.alike hKc, hDc.weaken (fun _ _ _ _ => trivial), nw_warm hW hn⟩⟩ rfl rfl hl.1 rfl (lv_room (Nat.le_of_ble_eq_true rfl)) d_Ref_ordered_1 ⟨Nat.le_of_ble_eq_true rfl, Nat.le_of_ble_eq_true rfl⟩) hS (fun q _ h => hFc q h) hFc ?_
    intro r_14 u t H1 locs1 ht hvm hw1 hB hz1 hk1 hS1
    obtain ⟨hP1, hK1, hD1⟩ := hB
    rw [ht] at hP1
    replace hK1 := va_K.moved hvm.symm hK1
    have hPD := join3 hP hD rfl [] [0, 1, 2, 3, 4, 5, 6, 7, 8, 9, 10, 11] rfl (by rfl) (by decide +kernel) (by decide +kernel) hk1 hFc hP1 hD1
    replace hK : va_K (dC, dI) classes [(k5, .boolean), (k6, .int), (k7, .short), (k10, .int), (k11, .int), (k20, .int), (k22, .boolean), (k23, .boolean), (k25, .int), (k26, .int), (k29, .int)] s := hK.app hK1
    clear hP1 hK1 hD1 hk1 hz1 hFc hKc hDc hPc hvm ht hP hS t
    have hP : va_P (dC, dI) classes [oc h0 8 [.int 0, .int p4, .ref h1, .ref h2, .ref h3, .ref h4, .ref h5, .ref h6, .ref h7, .ref h8, .ref h9, .ref h10, .ref h11, .ref h12, .int p5, .ref h13, .ref h14, .ref h15, .ref h16, .int p6, .int p7, .ref h17, .ref h18, .ref h19, .int p8, .ref h20, .int p9, .int p10, .ref h21, .ref h22, .ref h23, .ref h24, .ref h25, .ref h26, .ref h27, .ref h28, .int p11, .int p12, .ref h29, .ref h30, .ref h31, .ref h32, .ref h33, .ref h34, .ref h35, .ref h36, .int p13, .ref h37], ia h6 k5 8 (fun _ => 0), ia h7 k6 8 (fun _ => 0), ia h8 k7 352000 (fun _ => 0), ia h11 k10 32000 (fun _ => 0), ia h12 k11 4 f11, ia h21 k20 11 (fun _ => 0), ia h23 k22 28 f22, ia h24 k23 28 f23, ia h26 k25 4 f25, ia h27 k26 8 (fun _ => 0), ia h30 k29 4 (fun _ => 0)] H1 := hPD.1
    replace hD : dd A [h0, h6, h7, h8, h11, h12, h21, h23, h24, h26, h27, h30] := dd_of hPD.2 rfl
    clear hPD
    revert H1 locs1
    intro H locs hS hP
    refine tp_i (y := 1) hw1 ?_
    clear hw1 r_14 u
    refine tp_pc (pc' := 4) (by rfl) ?_
    refine lv_if_ne (tgt := 11) hx hb d_Ref_ordered_4 (by decide) (fun c_15 => ?_) (fun c_15 => absurd c_15 (by decide))
    refine tp_pc (pc' := 11) (by rfl) ?_
    refine lv_aload_n hx hb d_Ref_ordered_11 rfl (lv_at hl 0 rfl) ?_
    refine lv_iload_n hx hb d_Ref_ordered_12 rfl (lv_at hl 1 rfl) ?_
    obtain ⟨hPc, hDc, hFc⟩ := cut3 (wc := [oc h0 8 [.int 0, .int p4, .ref h1, .ref h2, .ref h3, .ref h4, .ref h5, .ref h6, .ref h7, .ref h8, .ref h9, .ref h10, .ref h11, .ref h12, .int p5, .ref h13, .ref h14, .ref h15, .ref h16, .int p6, .int p7, .ref h17, .ref h18, .ref h19, .int p8, .ref h20, .int p9, .int p10, .ref h21, .ref h22, .ref h23, .ref h24, .ref h25, .ref h26, .ref h27, .ref h28, .int p11, .int p12, .ref h29, .ref h30, .ref h31, .ref h32, .ref h33, .ref h34, .ref h35, .ref h36, .int p13, .ref h37], ia h6 k5 8 (fun _ => 0), ia h7 k6 8 (fun _ => 0), ia h8 k7 352000 (fun _ => 0), ia h11 k10 32000 (fun _ => 0), ia h12 k11 4 f11, ia h21 k20 11 (fun _ => 0), ia h23 k22 28 f22, ia h24 k23 28 f23, ia h26 k25 4 f25, ia h27 k26 8 (fun _ => 0), ia h30 k29 4 (fun _ => 0)]) hP hD rfl hS hA [0, 1, 2, 3, 4, 5, 6, 7, 8, 9, 10, 11] (by decide +kernel) rfl
    have hKc := hK.sub (tys' := [(k5, .boolean), (k6, .int), (k7, .short), (k10, .int), (k11, .int), (k20, .int), (k22, .boolean), (k23, .boolean), (k25, .int), (k26, .int), (k29, .int)]) [0, 1, 2, 3, 4, 5, 6, 7, 8, 9, 10] rfl
    refine va_callv (va_runV (As := [.int 3]) (rest := []) ⟨hx, hb, hml, hown, hw⟩ (c_Ref_findGraphs_v4 l dC dI h0 p4 h1 h2 h3 h4 h5 h6 h7 h8 h9 h10 h11 h12 p5 h13 h14 h15 h16 p6 p7 h17 h18 h19 p8 h20 p9 p10 h21 h22 h23 h24 h25 h26 h27 h28 p11 p12 h29 h30 h31 h32 h33 h34 h35 h36 p13 h37 k5 k6 k7 (fun _ => 0) k10 (fun _ => 0) k11 f11 k20 k22 f22 k23 f23 k25 f25 k26 k29 H.size) (cw_V 1 hw g_Ref_findGraphs rfl rfl rfl (hw _ m_109) (hw _ m_1186) (hw _ m_1188) (hw _ m_78) (by decide +kernel) ⟨Nat.le_of_ble_eq_true rfl, Nat.le_of_ble_eq_true rfl⟩) ⟨fun a U g mk q => by obtain ⟨q0, q1, qP, qK, qD, qN⟩ := q; exact ⟨q0, q1, qP, va_K.moved (u := U) (U := U.calling g mk a) (Vm.Alike.refl U.vm) qK, qD, nw_call qN⟩, va_recv hKc hPc (ci := 8) (q0 := 0) rfl rfl, fun U hU hW => ⟨rfl, by rw [hU], by rw [hU]; exact hPc, va_K.moved hW.alike hKc, hDc.weaken (fun _ _ _ _ => trivial), nw_warm hW hn⟩⟩ rfl rfl hl.1 rfl (lv_room (Nat.le_of_ble_eq_true rfl)) d_Ref_ordered_13 ⟨Nat.le_of_ble_eq_true rfl, Nat.le_of_ble_eq_true rfl⟩) hS (fun q _ h => hFc q h) hFc ?_
    intro u t H1 locs1 ht hvm hw1 hB hz1 hk1 hS1
    obtain ⟨hP1, hK1, hD1⟩ := hB
    rw [ht] at hP1
    replace hK1 := va_K.moved hvm.symm hK1
    have hPD := join3 hP hD rfl [0, 1, 2, 3, 4, 5, 6, 7, 8, 9, 10, 11] [] rfl (by rfl) (by decide +kernel) (by decide +kernel) hk1 hFc hP1 hD1
    replace hK : va_K (dC, dI) classes [(k5, .boolean), (k6, .int), (k7, .short), (k10, .int), (k11, .int), (k20, .int), (k22, .boolean), (k23, .boolean), (k25, .int), (k26, .int), (k29, .int)] s := hK.app hK1
    clear hP1 hK1 hD1 hk1 hz1 hFc hKc hDc hPc hvm ht hP hS t locs H
    have hP : va_P (dC, dI) classes [oc h0 8 [.int 0, .int p4, .ref h1, .ref h2, .ref h3, .ref h4, .ref h5, .ref h6, .ref h7, .ref h8, .ref h9, .ref h10, .ref h11, .ref h12, .int p5, .ref h13, .ref h14, .ref h15, .ref h16, .int p6, .int p7, .ref h17, .ref h18, .ref h19, .int p8, .ref h20, .int p9, .int p10, .ref h21, .ref h22, .ref h23, .ref h24, .ref h25, .ref h26, .ref h27, .ref h28, .int 0, .int 3, .ref h29, .ref h30, .ref h31, .ref h32, .ref h33, .ref h34, .ref h35, .ref h36, .int 0, .ref h37], ia h6 k5 8 (upd (fun _ => 0) 7 1), ia h7 k6 8 (upd (fun _ => 0) 7 1), ia h8 k7 352000 (upd (upd (upd (upd (upd (upd (upd (upd (upd (upd (upd (fun _ => 0) 308000 0) 308001 0) 308002 0) 308003 0) 308004 0) 308005 0) 308006 0) 308007 0) 308008 0) 308009 0) 308010 0), ia h11 k10 32000 (upd (fun _ => 0) 28000 0), ia h12 k11 4 (upd (upd f11 3 0) 3 1), ia h21 k20 11 (fun _ => 0), ia h23 k22 28 (upd (upd (upd (upd (upd (upd (upd (upd (upd (upd (upd (upd (upd (upd (upd (upd (upd (upd (upd (upd (upd (upd (upd (upd (upd (upd (upd (upd f22 0 0) 1 0) 2 0) 3 0) 4 0) 5 0) 6 0) 7 0) 8 0) 9 0) 10 0) 11 0) 12 0) 13 0) 14 0) 15 0) 16 0) 17 0) 18 0) 19 0) 20 0) 21 0) 22 0) 23 0) 24 0) 25 0) 26 0) 27 0), ia h24 k23 28 (upd (upd (upd (upd (upd (upd (upd (upd (upd (upd (upd (upd (upd (upd (upd (upd (upd (upd (upd (upd (upd (upd (upd (upd (upd (upd (upd (upd f23 0 0) 1 0) 2 0) 3 0) 4 0) 5 0) 6 0) 7 0) 8 0) 9 0) 10 0) 11 0) 12 0) 13 0) 14 0) 15 0) 16 0) 17 0) 18 0) 19 0) 20 0) 21 0) 22 0) 23 0) 24 0) 25 0) 26 0) 27 0), ia h26 k25 4 (upd (upd (upd (upd f25 0 0) 1 0) 2 0) 3 0), ia h27 k26 8 (upd (upd (upd (upd (upd (upd (upd (upd (fun _ => 0) 0 0) 1 0) 2 0) 3 0) 4 0) 5 0) 6 0) 7 0), ia h30 k29 4 (fun _ => 0)] H1 := hPD.1
    replace hD : dd A [h0, h6, h7, h8, h11, h12, h21, h23, h24, h26, h27, h30] := dd_of hPD.2 rfl
    clear hPD
    revert H1 locs1
    intro H locs hS hP
    clear hw1 u
    refine tp_pc (pc' := 16) (by rfl) ?_
    refine lv_aload_n hx hb d_Ref_ordered_16 rfl (lv_at hl 0 rfl) ?_
    refine lv_iconst (v := 4) hx hb d_Ref_ordered_17 (by decide) ?_
    refine lv_iload_n hx hb d_Ref_ordered_18 rfl (lv_at hl 1 rfl) ?_
    refine lv_iadd hx hb d_Ref_ordered_19 ?_
    refine tp_i (y := 7) (by first | rfl | decide) ?_
    refine lv_iload_n hx hb d_Ref_ordered_20 rfl (lv_at hl 2 rfl) ?_
    refine lv_iload_n hx hb d_Ref_ordered_21 rfl (lv_at hl 3 rfl) ?_
    obtain ⟨hPc, hDc, hFc⟩ := cut3 (wc := [oc h0 8 [.int 0, .int p4, .ref h1, .ref h2, .ref h3, .ref h4, .ref h5, .ref h6, .ref h7, .ref h8, .ref h9, .ref h10, .ref h11, .ref h12, .int p5, .ref h13, .ref h14, .ref h15, .ref h16, .int p6, .int p7, .ref h17, .ref h18, .ref h19, .int p8, .ref h20, .int p9, .int p10, .ref h21, .ref h22, .ref h23, .ref h24, .ref h25, .ref h26, .ref h27, .ref h28, .int 0, .int 3, .ref h29, .ref h30, .ref h31, .ref h32, .ref h33, .ref h34, .ref h35, .ref h36, .int 0, .ref h37], ia h7 k6 8 (upd (fun _ => 0) 7 1), ia h8 k7 352000 (upd (upd (upd (upd (upd (upd (upd (upd (upd (upd (upd (fun _ => 0) 308000 0) 308001 0) 308002 0) 308003 0) 308004 0) 308005 0) 308006 0) 308007 0) 308008 0) 308009 0) 308010 0), ia h11 k10 32000 (upd (fun _ => 0) 28000 0)]) hP hD rfl hS hA [0, 2, 3, 4] (by decide +kernel) rfl
    have hKc := hK.sub (tys' := [(k6, .int), (k7, .short), (k10, .int)]) [1, 2, 3] rfl
    refine va_calli (va_runV (As := [.int 7, .int p1, .int p2]) (rest := []) ⟨hx, hb, hml, hown, hw⟩ (c_Ref_told_v8 l dC dI h0 p1 p2 0 p4 h1 h2 h3 h4 h5 h6 h7 h8 h9 h10 h11 h12 p5 h13 h14 h15 h16 p6 p7 h17 h18 h19 p8 h20 p9 p10 h21 h22 h23 h24 h25 h26 h27 h28 0 3 h29 h30 h31 h32 h33 h34 h35 h36 0 h37 k6 k7 k10 H.size) (cw_V 3 hw g_Ref_told rfl rfl rfl (hw _ m_109) (hw _ m_1174) (hw _ m_1176) (hw _ m_77) (by decide +kernel) ⟨Nat.le_of_ble_eq_true rfl, Nat.le_of_ble_eq_true rfl⟩) ⟨fun a U g mk q => by obtain ⟨q0, q1, qP, qK, qD, qN⟩ := q; exact ⟨q0, q1, qP, va_K.moved (u := U) (U := U.calling g mk a) (Vm.Alike.refl U.vm) qK, qD, nw_call qN⟩, va_recv hKc hPc (ci := 8) (q0 := 0) rfl rfl, fun U hU hW => ⟨rfl, by rw [hU], by rw [hU]; exact hPc, va_K.moved hW.alike hKc, hDc.weaken (fun _ _ _ _ => trivial), nw_warm hW hn⟩⟩ rfl rfl hl.1 rfl (lv_room (Nat.le_of_ble_eq_true rfl)) d_Ref_ordered_22 ⟨Nat.le_of_ble_eq_true rfl, Nat.le_of_ble_eq_true rfl⟩) hS (fun q _ h => hFc q h) hFc ?_
    intro r_17 u t H1 locs1 ht hvm hw1 hB hz1 hk1 hS1
    obtain ⟨hP1, hK1, hD1⟩ := hB
    rw [ht] at hP1
    replace hK1 := va_K.moved hvm.symm hK1
    have hPD := join3 hP hD rfl [0, 2, 3, 4] [1, 5, 6, 7, 8, 9, 10, 11] rfl (by rfl) (by decide +kernel) (by decide +kernel) hk1 hFc hP1 hD1
    replace hK : va_K (dC, dI) classes [(k5, .boolean), (k6, .int), (k7, .short), (k10, .int), (k11, .int), (k20, .int), (k22, .boolean), (k23, .boolean), (k25, .int), (k26, .int), (k29, .int)] s := hK.app hK1
    clear hP1 hK1 hD1 hk1 hz1 hFc hKc hDc hPc hvm ht hP hS t locs H
    have hP : va_P (dC, dI) classes [ia h6 k5 8 (upd (fun _ => 0) 7 1), ia h12 k11 4 (upd (upd f11 3 0) 3 1), ia h21 k20 11 (fun _ => 0), ia h23 k22 28 (upd (upd (upd (upd (upd (upd (upd (upd (upd (upd (upd (upd (upd (upd (upd (upd (upd (upd (upd (upd (upd (upd (upd (upd (upd (upd (upd (upd f22 0 0) 1 0) 2 0) 3 0) 4 0) 5 0) 6 0) 7 0) 8 0) 9 0) 10 0) 11 0) 12 0) 13 0) 14 0) 15 0) 16 0) 17 0) 18 0) 19 0) 20 0) 21 0) 22 0) 23 0) 24 0) 25 0) 26 0) 27 0), ia h24 k23 28 (upd (upd (upd (upd (upd (upd (upd (upd (upd (upd (upd (upd (upd (upd (upd (upd (upd (upd (upd (upd (upd (upd (upd (upd (upd (upd (upd (upd f23 0 0) 1 0) 2 0) 3 0) 4 0) 5 0) 6 0) 7 0) 8 0) 9 0) 10 0) 11 0) 12 0) 13 0) 14 0) 15 0) 16 0) 17 0) 18 0) 19 0) 20 0) 21 0) 22 0) 23 0) 24 0) 25 0) 26 0) 27 0), ia h26 k25 4 (upd (upd (upd (upd f25 0 0) 1 0) 2 0) 3 0), ia h27 k26 8 (upd (upd (upd (upd (upd (upd (upd (upd (fun _ => 0) 0 0) 1 0) 2 0) 3 0) 4 0) 5 0) 6 0) 7 0), ia h30 k29 4 (fun _ => 0), oc h0 8 [.int 0, .int p4, .ref h1, .ref h2, .ref h3, .ref h4, .ref h5, .ref h6, .ref h7, .ref h8, .ref h9, .ref h10, .ref h11, .ref h12, .int p5, .ref h13, .ref h14, .ref h15, .ref h16, .int p6, .int p7, .ref h17, .ref h18, .ref h19, .int p8, .ref h20, .int p9, .int p10, .ref h21, .ref h22, .ref h23, .ref h24, .ref h25, .ref h26, .ref h27, .ref h28, .int 0, .int 3, .ref h29, .ref h30, .ref h31, .ref h32, .ref h33, .ref h34, .ref h35, .ref h36, .int 0, .ref h37], ia h7 k6 8 (upd (fun _ => 0) 7 1), ia h8 k7 352000 (upd (upd (upd (upd (upd (upd (upd (upd (upd (upd (upd (fun _ => 0) 308000 0) 308001 0) 308002 0) 308003 0) 308004 0) 308005 0) 308006 0) 308007 0) 308008 0) 308009 0) 308010 0), ia h11 k10 32000 (upd (fun _ => 0) 28000 0)] H1 := hPD.1
    replace hD : dd A [h6, h12, h21, h23, h24, h26, h27, h30, h0, h7, h8, h11] := dd_of hPD.2 rfl
    clear hPD
    revert H1 locs1
    intro H locs hS hP
    refine tp_i (y := fv p1 p2) hw1 ?_
    clear hw1 r_17 u
    refine tp_pc (pc' := 25) (by rfl) ?_
    obtain ⟨hP9, hD9, -⟩ := cut3 (wc := []) hP hD rfl hS hA [] (by decide +kernel) rfl
    have hK9 := hK.sub (tys' := []) [] rfl
    refine W.widen (k := 0) (n := 0) (by exact Nat.le_of_ble_eq_true rfl) (by exact Nat.le_of_ble_eq_true rfl) ?_
    exact W.iret (v := (fv p1 p2)) hx hb hr (fun t ht hW => ⟨⟨fv p1 p2, (), rfl, (by first | exact (fo_0 _ _).symm | exact (fo_1 _ _).symm | exact (fo_2 _ _).symm | exact (fo_3 _ _).symm | exact (fo_o (by assumption)).symm), by rw [ht]; exact hP9, va_K.moved hW.alike hK9, hD9⟩, hS.F ht⟩) hS.2.2 d_Ref_ordered_25
  · skip
    refine lv_iload_n hx hb d_Ref_ordered_0 rfl (lv_at hl 1 rfl) ?_
    obtain ⟨hPc, hDc, hFc⟩ := cut3 (wc := []) hP hD rfl hS hA [] (by decide +kernel) rfl
    have hKc := hK.sub (tys' := []) [] rfl
    refine va_calli (va_runS (As := [.int p0]) (rest := []) ⟨hx, hb, hml, hown, hw⟩ (c_Ref_isModel_v5 l dC dI p0 hs_1 s.heap.size) (cw_S 1 hw g_Ref_isModel rfl rfl rfl (hw _ m_109) (hw _ m_1066) (hw _ m_1067) (by decide +kernel) ⟨Nat.le_of_ble_eq_true rfl, Nat.le_of_ble_eq_true rfl⟩) ⟨fun a U g mk q => by obtain ⟨q0, q1, qP, qK, qD, qN⟩ := q; exact ⟨q0, q1, qP, va_K.moved (u := U) (U := U.calling g mk a) (Vm.Alike.refl U.vm) qK, qD, nw_call qN⟩, fun U hU hW => ⟨rfl, by rw [hU], by rw [hU]; exact hPc, va_K.moved hW.alike hKc, hDc.weaken (fun _ _ _ _ => trivial), nw_warm hW hn⟩⟩ rfl rfl hl.1 rfl (lv_room (Nat.le_of_ble_eq_true rfl)) d_Ref_ordered_1 ⟨Nat.le_of_ble_eq_true rfl, Nat.le_of_ble_eq_true rfl⟩) hS (fun q _ h => hFc q h) hFc ?_
    intro r_18 u t H1 locs1 ht hvm hw1 hB hz1 hk1 hS1
    obtain ⟨hP1, hK1, hD1⟩ := hB
    rw [ht] at hP1
    replace hK1 := va_K.moved hvm.symm hK1
    have hPD := join3 hP hD rfl [] [0, 1, 2, 3, 4, 5, 6, 7, 8, 9, 10, 11] rfl (by rfl) (by decide +kernel) (by decide +kernel) hk1 hFc hP1 hD1
    replace hK : va_K (dC, dI) classes [(k5, .boolean), (k6, .int), (k7, .short), (k10, .int), (k11, .int), (k20, .int), (k22, .boolean), (k23, .boolean), (k25, .int), (k26, .int), (k29, .int)] s := hK.app hK1
    clear hP1 hK1 hD1 hk1 hz1 hFc hKc hDc hPc hvm ht hP hS t
    have hP : va_P (dC, dI) classes [oc h0 8 [.int 0, .int p4, .ref h1, .ref h2, .ref h3, .ref h4, .ref h5, .ref h6, .ref h7, .ref h8, .ref h9, .ref h10, .ref h11, .ref h12, .int p5, .ref h13, .ref h14, .ref h15, .ref h16, .int p6, .int p7, .ref h17, .ref h18, .ref h19, .int p8, .ref h20, .int p9, .int p10, .ref h21, .ref h22, .ref h23, .ref h24, .ref h25, .ref h26, .ref h27, .ref h28, .int p11, .int p12, .ref h29, .ref h30, .ref h31, .ref h32, .ref h33, .ref h34, .ref h35, .ref h36, .int p13, .ref h37], ia h6 k5 8 (fun _ => 0), ia h7 k6 8 (fun _ => 0), ia h8 k7 352000 (fun _ => 0), ia h11 k10 32000 (fun _ => 0), ia h12 k11 4 f11, ia h21 k20 11 (fun _ => 0), ia h23 k22 28 f22, ia h24 k23 28 f23, ia h26 k25 4 f25, ia h27 k26 8 (fun _ => 0), ia h30 k29 4 (fun _ => 0)] H1 := hPD.1
    replace hD : dd A [h0, h6, h7, h8, h11, h12, h21, h23, h24, h26, h27, h30] := dd_of hPD.2 rfl
    clear hPD
    revert H1 locs1
    intro H locs hS hP
    refine tp_i (y := 0) hw1 ?_
    clear hw1 r_18 u
    refine tp_pc (pc' := 4) (by rfl) ?_
    refine lv_if_ne (tgt := 11) hx hb d_Ref_ordered_4 (by decide) (fun c_19 => absurd c_19 (by decide)) (fun c_19 => ?_)
    refine tp_pc (pc' := 7) (by rfl) ?_
    refine lv_sipush (v := (-1000)) hx hb d_Ref_ordered_7 (by decide) ?_
    obtain ⟨hP9, hD9, -⟩ := cut3 (wc := []) hP hD rfl hS hA [] (by decide +kernel) rfl
    have hK9 := hK.sub (tys' := []) [] rfl
    refine W.widen (k := 0) (n := 0) (by exact Nat.le_of_ble_eq_true rfl) (by exact Nat.le_of_ble_eq_true rfl) ?_
    exact W.iret (v := (-1000)) hx hb hr (fun t ht hW => ⟨⟨(-1000), (), rfl, (by first | exact (fo_0 _ _).symm | exact (fo_1 _ _).symm | exact (fo_2 _ _).symm | exact (fo_3 _ _).symm | exact (fo_o (by assumption)).symm), by rw [ht]; exact hP9, va_K.moved hW.alike hK9, hD9⟩, hS.F ht⟩) hS.2.2 d_Ref_ordered_10
set_option maxHeartbeats 4000000 in
set_option maxRecDepth 100000 in
theorem c_Ref_graphs (l : Launch) (dC : Nat → ClassId) (dI : Nat → Nat → Nat) (h0 : Nat) (p0 : Int32) (p2 : Int32) (h1 : Nat) (h2 : Nat) (h3 : Nat) (h4 : Nat) (h5 : Nat) (h6 : Nat) (h7 : Nat) (h8 : Nat) (h9 : Nat) (h10 : Nat) (h11 : Nat) (h12 : Nat) (p3 : Int32) (h13 : Nat) (h14 : Nat) (h15 : Nat) (h16 : Nat) (p4 : Int32) (p5 : Int32) (h17 : Nat) (h18 : Nat) (h19 : Nat) (p6 : Int32) (h20 : Nat) (p7 : Int32) (p8 : Int32) (h21 : Nat) (h22 : Nat) (h23 : Nat) (h24 : Nat) (h25 : Nat) (h26 : Nat) (h27 : Nat) (h28 : Nat) (p9 : Int32) (p10 : Int32) (h29 : Nat) (h30 : Nat) (h31 : Nat) (h32 : Nat) (h33 : Nat) (h34 : Nat) (h35 : Nat) (h36 : Nat) (p11 : Int32) (h37 : Nat) (k5 : ClassId) (k6 : ClassId) (k7 : ClassId) (f7 : Nat → Int32) (k10 : ClassId) (f10 : Nat → Int32) (k11 : ClassId) (f11 : Nat → Int32) (k20 : ClassId) (k22 : ClassId) (f22 : Nat → Int32) (k23 : ClassId) (f23 : Nat → Int32) (k25 : ClassId) (f25 : Nat → Int32) (k26 : ClassId) (k29 : ClassId) (sz : Nat) : Met l y_Ref_graphs w_Ref_graphs ({ frames := 12, cells := 0, slots := 0, locals := 278 }) (va_Pc [.ref h0, .int p0] (fun U => U.heap.size = sz ∧ va_P (dC, dI) classes [oc h0 8 [.int 0, .int p2, .ref h1, .ref h2, .ref h3, .ref h4, .ref h5, .ref h6, .ref h7, .ref h8, .ref h9, .ref h10, .ref h11, .ref h12, .int p3, .ref h13, .ref h14, .ref h15, .ref h16, .int p4, .int p5, .ref h17, .ref h18, .ref h19, .int p6, .ref h20, .int p7, .int p8, .ref h21, .ref h22, .ref h23, .ref h24, .ref h25, .ref h26, .ref h27, .ref h28, .int p9, .int p10, .ref h29, .ref h30, .ref h31, .ref h32, .ref h33, .ref h34, .ref h35, .ref h36, .int p11, .ref h37], ia h6 k5 8 (fun _ => 0), ia h7 k6 8 (fun _ => 0), ia h8 k7 352000 f7, ia h11 k10 32000 f10, ia h12 k11 4 f11, ia h21 k20 11 (fun _ => 0), ia h23 k22 28 f22, ia h24 k23 28 f23, ia h26 k25 4 f25, ia h27 k26 8 (fun _ => 0), ia h30 k29 4 (fun _ => 0)] U.heap ∧ va_K (dC, dI) classes [(k5, .boolean), (k6, .int), (k7, .short), (k10, .int), (k11, .int), (k20, .int), (k22, .boolean), (k23, .boolean), (k25, .int), (k26, .int), (k29, .int)] U ∧ va_D (fun _ => True) [oc h0 8 [.int 0, .int p2, .ref h1, .ref h2, .ref h3, .ref h4, .ref h5, .ref h6, .ref h7, .ref h8, .ref h9, .ref h10, .ref h11, .ref h12, .int p3, .ref h13, .ref h14, .ref h15, .ref h16, .int p4, .int p5, .ref h17, .ref h18, .ref h19, .int p6, .ref h20, .int p7, .int p8, .ref h21, .ref h22, .ref h23, .ref h24, .ref h25, .ref h26, .ref h27, .ref h28, .int p9, .int p10, .ref h29, .ref h30, .ref h31, .ref h32, .ref h33, .ref h34, .ref h35, .ref h36, .int p11, .ref h37], ia h6 k5 8 (fun _ => 0), ia h7 k6 8 (fun _ => 0), ia h8 k7 352000 f7, ia h11 k10 32000 f10, ia h12 k11 4 f11, ia h21 k20 11 (fun _ => 0), ia h23 k22 28 f22, ia h24 k23 28 f23, ia h26 k25 4 f25, ia h27 k26 8 (fun _ => 0), ia h30 k29 4 (fun _ => 0)] ∧ nw U)) (va_Qi (fun (r : Int32) (_ : Unit) => r = (fr p0)) (fun _ t => va_P (dC, dI) classes [] t.heap ∧ va_K (dC, dI) classes [] t ∧ va_D (va_A [oc h0 8 [.int 0, .int p2, .ref h1, .ref h2, .ref h3, .ref h4, .ref h5, .ref h6, .ref h7, .ref h8, .ref h9, .ref h10, .ref h11, .ref h12, .int p3, .ref h13, .ref h14, .ref h15, .ref h16, .int p4, .int p5, .ref h17, .ref h18, .ref h19, .int p6, .ref h20, .int p7, .int p8, .ref h21, .ref h22, .ref h23, .ref h24, .ref h25, .ref h26, .ref h27, .ref h28, .int p9, .int p10, .ref h29, .ref h30, .ref h31, .ref h32, .ref h33, .ref h34, .ref h35, .ref h36, .int p11, .ref h37], ia h6 k5 8 (fun _ => 0), ia h7 k6 8 (fun _ => 0), ia h8 k7 352000 f7, ia h11 k10 32000 f10, ia h12 k11 4 f11, ia h21 k20 11 (fun _ => 0), ia h23 k22 28 f22, ia h24 k23 28 f23, ia h26 k25 4 f25, ia h27 k26 8 (fun _ => 0), ia h30 k29 4 (fun _ => 0)] sz) []) (va_A [oc h0 8 [.int 0, .int p2, .ref h1, .ref h2, .ref h3, .ref h4, .ref h5, .ref h6, .ref h7, .ref h8, .ref h9, .ref h10, .ref h11, .ref h12, .int p3, .ref h13, .ref h14, .ref h15, .ref h16, .int p4, .int p5, .ref h17, .ref h18, .ref h19, .int p6, .ref h20, .int p7, .int p8, .ref h21, .ref h22, .ref h23, .ref h24, .ref h25, .ref h26, .ref h27, .ref h28, .int p9, .int p10, .ref h29, .ref h30, .ref h31, .ref h32, .ref h33, .ref h34, .ref h35, .ref h36, .int p11, .ref h37], ia h6 k5 8 (fun _ => 0), ia h7 k6 8 (fun _ => 0), ia h8 k7 352000 f7, ia h11 k10 32000 f10, ia h12 k11 4 f11, ia h21 k20 11 (fun _ => 0), ia h23 k22 28 f22, ia h24 k23 28 f23, ia h26 k25 4 f25, ia h27 k26 8 (fun _ => 0), ia h30 k29 4 (fun _ => 0)] sz)) 0 0 (va_A [oc h0 8 [.int 0, .int p2, .ref h1, .ref h2, .ref h3, .ref h4, .ref h5, .ref h6, .ref h7, .ref h8, .ref h9, .ref h10, .ref h11, .ref h12, .int p3, .ref h13, .ref h14, .ref h15, .ref h16, .int p4, .int p5, .ref h17, .ref h18, .ref h19, .int p6, .ref h20, .int p7, .int p8, .ref h21, .ref h22, .ref h23, .ref h24, .ref h25, .ref h26, .ref h27, .ref h28, .int p9, .int p10, .ref h29, .ref h30, .ref h31, .ref h32, .ref h33, .ref h34, .ref h35, .ref h36, .int p11, .ref h37], ia h6 k5 8 (fun _ => 0), ia h7 k6 8 (fun _ => 0), ia h8 k7 352000 f7, ia h11 k10 32000 f10, ia h12 k11 4 f11, ia h21 k20 11 (fun _ => 0), ia h23 k22 28 f22, ia h24 k23 28 f23, ia h26 k25 4 f25, ia h27 k26 8 (fun _ => 0), ia h30 k29 4 (fun _ => 0)] sz) := by
  refine Met.ofW (cc := b_Ref_graphs) (maxL := 2) (ret := (some .int)) (by decide) rfl ?_
  intro p e s m args below meth c s₁ B hml hv
  obtain ⟨rfl, hsz, hP, hK, hD0, hn⟩ := hv
  have hx := B.exec
  have hb := B.bytes
  have hr := B.returns
  have hw := fun w (h : w ∈ wt) => atoms_spec (ws := w_Ref_graphs) B.pre w (List.mem_cons_of_mem _ h)
  have hown : s.vm.findClass R_Ref = some m.cls := findClass_of_methodNamed B.named
  have hlocks := B.notSynchronized
  subst hsz
  have hD1 := hD0.self (sz := s.heap.size)
  generalize hAe : va_A [oc h0 8 [.int 0, .int p2, .ref h1, .ref h2, .ref h3, .ref h4, .ref h5, .ref h6, .ref h7, .ref h8, .ref h9, .ref h10, .ref h11, .ref h12, .int p3, .ref h13, .ref h14, .ref h15, .ref h16, .int p4, .int p5, .ref h17, .ref h18, .ref h19, .int p6, .ref h20, .int p7, .int p8, .ref h21, .ref h22, .ref h23, .ref h24, .ref h25, .ref h26, .ref h27, .ref h28, .int p9, .int p10, .ref h29, .ref h30, .ref h31, .ref h32, .ref h33, .ref h34, .ref h35, .ref h36, .int p11, .ref h37], ia h6 k5 8 (fun _ => 0), ia h7 k6 8 (fun _ => 0), ia h8 k7 352000 f7, ia h11 k10 32000 f10, ia h12 k11 4 f11, ia h21 k20 11 (fun _ => 0), ia h23 k22 28 f22, ia h24 k23 28 f23, ia h26 k25 4 f25, ia h27 k26 8 (fun _ => 0), ia h30 k29 4 (fun _ => 0)] s.heap.size = A at hD1 ⊢
  have hA : ∀ q : Nat, s.heap.size ≤ q → A q := fun q h => by rw [← hAe]; exact Or.inr h
  have hD : dd A [h0, h6, h7, h8, h11, h12, h21, h23, h24, h26, h27, h30] := dd_of hD1 rfl
  clear hAe hD0 hD1
  have hS : va_S A s.heap s.heap [] := va_S.rf
  replace hP : va_P (dC, dI) classes [oc h0 8 [.int 0, .int p2, .ref h1, .ref h2, .ref h3, .ref h4, .ref h5, .ref h6, .ref h7, .ref h8, .ref h9, .ref h10, .ref h11, .ref h12, .int p3, .ref h13, .ref h14, .ref h15, .ref h16, .int p4, .int p5, .ref h17, .ref h18, .ref h19, .int p6, .ref h20, .int p7, .int p8, .ref h21, .ref h22, .ref h23, .ref h24, .ref h25, .ref h26, .ref h27, .ref h28, .int p9, .int p10, .ref h29, .ref h30, .ref h31, .ref h32, .ref h33, .ref h34, .ref h35, .ref h36, .int p11, .ref h37], ia h6 k5 8 (fun _ => 0), ia h7 k6 8 (fun _ => 0), ia h8 k7 352000 f7, ia h11 k10 32000 f10, ia h12 k11 4 f11, ia h21 k20 11 (fun _ => 0), ia h23 k22 28 f22, ia h24 k23 28 f23, ia h26 k25 4 f25, ia h27 k26 8 (fun _ => 0), ia h30 k29 4 (fun _ => 0)] s.heap := hP
  have hl := lv_entry ([.ref h0, .int p0]) (n := 2) (Nat.le_of_ble_eq_true rfl)
  rw [lg_entry_eq]
  generalize (lg_sl ([.ref h0, .int p0]) ++ List.replicate (2 - (lg_sl ([.ref h0, .int p0])).length) Slot.unset).toArray = ls at hl ⊢
  replace hl : lv_has ls 2 [(0, .ref h0), (1, .int p0)] := hl
  rcases sw_0_3 p0 with rfl | rfl | rfl | rfl | hs_1
  · skip
    refine lv_iload_n hx hb d_Ref_graphs_0 rfl (lv_at hl 1 rfl) ?_
    obtain ⟨hPc, hDc, hFc⟩ := cut3 (wc := []) hP hD rfl hS hA [] (by decide +kernel) rfl
    have hKc := hK.sub (tys' := []) [] rfl
    refine va_calli (va_runS (As := [.int 0]) (rest := []) ⟨hx, hb, hml, hown, hw⟩ (c_Ref_isModel l dC dI  s.heap.size) (cw_S 1 hw g_Ref_isModel rfl rfl rfl (hw _ m_109) (hw _ m_1066) (hw _ m_1067) (by decide +kernel) ⟨Nat.le_of_ble_eq_true rfl, Nat.le_of_ble_eq_true rfl⟩) ⟨fun a U g mk q => by obtain ⟨q0, q1, qP, qK, qD, qN⟩ := q; exact ⟨q0, q1, qP, va_K.moved (u := U) (U := U.calling g mk a) (Vm.Alike.refl U.vm) qK, qD, nw_call qN⟩, fun U hU hW => ⟨rfl, by rw [hU], by rw [hU]; exact hPc, va_K.moved hW.alike hKc, hDc.weaken (fun _ _ _ _ => trivial), nw_warm hW hn⟩⟩ rfl rfl hl.1 rfl (lv_room (Nat.le_of_ble_eq_true rfl)) d_Ref_graphs_1 ⟨Nat.le_of_ble_eq_true rfl, Nat.le_of_ble_eq_true rfl⟩) hS (fun q _ h => hFc q h) hFc ?_
    intro r_2 u t H1 locs1 ht hvm hw1 hB hz1 hk1 hS1
    obtain ⟨hP1, hK1, hD1⟩ := hB
    rw [ht] at hP1
    replace hK1 := va_K.moved hvm.symm hK1
    have hPD := join3 hP hD rfl [] [0, 1, 2, 3, 4, 5, 6, 7, 8, 9, 10, 11] rfl (by rfl) (by decide +kernel) (by decide +kernel) hk1 hFc hP1 hD1
    replace hK : va_K (dC, dI) classes [(k5, .boolean), (k6, .int), (k7, .short), (k10, .int), (k11, .int), (k20, .int), (k22, .boolean), (k23, .boolean), (k25, .int), (k26, .int), (k29, .int)] s := hK.app hK1
    clear hP1 hK1 hD1 hk1 hz1 hFc hKc hDc hPc hvm ht hP hS t
    have hP : va_P (dC, dI) classes [oc h0 8 [.int 0, .int p2, .ref h1, .ref h2, .ref h3, .ref h4, .ref h5, .ref h6, .ref h7, .ref h8, .ref h9, .ref h10, .ref h11, .ref h12, .int p3, .ref h13, .ref h14, .ref h15, .ref h16, .int p4, .int p5, .ref h17, .ref h18, .ref h19, .int p6, .ref h20, .int p7, .int p8, .ref h21, .ref h22, .ref h23, .ref h24, .ref h25, .ref h26, .ref h27, .ref h28, .int p9, .int p10, .ref h29, .ref h30, .ref h31, .ref h32, .ref h33, .ref h34, .ref h35, .ref h36, .int p11, .ref h37], ia h6 k5 8 (fun _ => 0), ia h7 k6 8 (fun _ => 0), ia h8 k7 352000 f7, ia h11 k10 32000 f10, ia h12 k11 4 f11, ia h21 k20 11 (fun _ => 0), ia h23 k22 28 f22, ia h24 k23 28 f23, ia h26 k25 4 f25, ia h27 k26 8 (fun _ => 0), ia h30 k29 4 (fun _ => 0)] H1 := hPD.1
    replace hD : dd A [h0, h6, h7, h8, h11, h12, h21, h23, h24, h26, h27, h30] := dd_of hPD.2 rfl
    clear hPD
    revert H1 locs1
    intro H locs hS hP
    refine tp_i (y := 1) hw1 ?_
    clear hw1 r_2 u
    refine tp_pc (pc' := 4) (by rfl) ?_
    refine lv_if_ne (tgt := 9) hx hb d_Ref_graphs_4 (by decide) (fun c_3 => ?_) (fun c_3 => absurd c_3 (by decide))
    refine tp_pc (pc' := 9) (by rfl) ?_
    refine lv_aload_n hx hb d_Ref_graphs_9 rfl (lv_at hl 0 rfl) ?_
    refine lv_iload_n hx hb d_Ref_graphs_10 rfl (lv_at hl 1 rfl) ?_
    obtain ⟨hPc, hDc, hFc⟩ := cut3 (wc := [oc h0 8 [.int 0, .int p2, .ref h1, .ref h2, .ref h3, .ref h4, .ref h5, .ref h6, .ref h7, .ref h8, .ref h9, .ref h10, .ref h11, .ref h12, .int p3, .ref h13, .ref h14, .ref h15, .ref h16, .int p4, .int p5, .ref h17, .ref h18, .ref h19, .int p6, .ref h20, .int p7, .int p8, .ref h21, .ref h22, .ref h23, .ref h24, .ref h25, .ref h26, .ref h27, .ref h28, .int p9, .int p10, .ref h29, .ref h30, .ref h31, .ref h32, .ref h33, .ref h34, .ref h35, .ref h36, .int p11, .ref h37], ia h6 k5 8 (fun _ => 0), ia h7 k6 8 (fun _ => 0), ia h8 k7 352000 f7, ia h11 k10 32000 f10, ia h12 k11 4 f11, ia h21 k20 11 (fun _ => 0), ia h23 k22 28 f22, ia h24 k23 28 f23, ia h26 k25 4 f25, ia h27 k26 8 (fun _ => 0), ia h30 k29 4 (fun _ => 0)]) hP hD rfl hS hA [0, 1, 2, 3, 4, 5, 6, 7, 8, 9, 10, 11] (by decide +kernel) rfl
    have hKc := hK.sub (tys' := [(k5, .boolean), (k6, .int), (k7, .short), (k10, .int), (k11, .int), (k20, .int), (k22, .boolean), (k23, .boolean), (k25, .int), (k26, .int), (k29, .int)]) [0, 1, 2, 3, 4, 5, 6, 7, 8, 9, 10] rfl
    refine va_callv (va_runV (As := [.int 0]) (rest := []) ⟨hx, hb, hml, hown, hw⟩ (c_Ref_findGraphs l dC dI h0 p2 h1 h2 h3 h4 h5 h6 h7 h8 h9 h10 h11 h12 p3 h13 h14 h15 h16 p4 p5 h17 h18 h19 p6 h20 p7 p8 h21 h22 h23 h24 h25 h26 h27 h28 p9 p10 h29 h30 h31 h32 h33 h34 h35 h36 p11 h37 k5 k6 k7 f7 k10 f10 k11 f11 k20 k22 f22 k23 f23 k25 f25 k26 k29 H.size) (cw_V 1 hw g_Ref_findGraphs rfl rfl rfl (hw _ m_109) (hw _ m_1186) (hw _ m_1188) (hw _ m_78) (by decide +kernel) ⟨Nat.le_of_ble_eq_true rfl, Nat.le_of_ble_eq_true rfl⟩) ⟨fun a U g mk q => by obtain ⟨q0, q1, qP, qK, qD, qN⟩ := q; exact ⟨q0, q1, qP, va_K.moved (u := U) (U := U.calling g mk a) (Vm.Alike.refl U.vm) qK, qD, nw_call qN⟩, va_recv hKc hPc (ci := 8) (q0 := 0) rfl rfl, fun U hU hW => ⟨rfl, by rw [hU], by rw [hU]; exact hPc, va_K.moved hW.alike hKc, hDc.weaken (fun _ _ _ _ => trivial), nw_warm hW hn⟩⟩ rfl rfl hl.1 rfl (lv_room (Nat.le_of_ble_eq_true rfl)) d_Ref_graphs_11 ⟨Nat.le_of_ble_eq_true rfl, Nat.le_of_ble_eq_true rfl⟩) hS (fun q _ h => hFc q h) hFc ?_
    intro u t H1 locs1 ht hvm hw1 hB hz1 hk1 hS1
    obtain ⟨hP1, hK1, hD1⟩ := hB
    rw [ht] at hP1
    replace hK1 := va_K.moved hvm.symm hK1
    have hPD := join3 hP hD rfl [0, 1, 2, 3, 4, 5, 6, 7, 8, 9, 10, 11] [] rfl (by rfl) (by decide +kernel) (by decide +kernel) hk1 hFc hP1 hD1
    replace hK : va_K (dC, dI) classes [(k5, .boolean), (k6, .int), (k7, .short), (k10, .int), (k11, .int), (k20, .int), (k22, .boolean), (k23, .boolean), (k25, .int), (k26, .int), (k29, .int)] s := hK.app hK1
    clear hP1 hK1 hD1 hk1 hz1 hFc hKc hDc hPc hvm ht hP hS t locs H
    have hP : va_P (dC, dI) classes [oc h0 8 [.int 0, .int p2, .ref h1, .ref h2, .ref h3, .ref h4, .ref h5, .ref h6, .ref h7, .ref h8, .ref h9, .ref h10, .ref h11, .ref h12, .int p3, .ref h13, .ref h14, .ref h15, .ref h16, .int p4, .int p5, .ref h17, .ref h18, .ref h19, .int p6, .ref h20, .int p7, .int p8, .ref h21, .ref h22, .ref h23, .ref h24, .ref h25, .ref h26, .ref h27, .ref h28, .int 0, .int 0, .ref h29, .ref h30, .ref h31, .ref h32, .ref h33, .ref h34, .ref h35, .ref h36, .int 0, .ref h37], ia h6 k5 8 (upd (fun _ => 0) 4 1), ia h7 k6 8 (upd (fun _ => 0) 4 1), ia h8 k7 352000 (upd (upd (upd (upd (upd (upd (upd (upd (upd (upd (upd f7 176000 0) 176001 0) 176002 0) 176003 0) 176004 0) 176005 0) 176006 0) 176007 0) 176008 0) 176009 0) 176010 0), ia h11 k10 32000 (upd f10 16000 0), ia h12 k11 4 (upd (upd f11 0 0) 0 1), ia h21 k20 11 (fun _ => 0), ia h23 k22 28 (upd (upd (upd (upd (upd (upd (upd (upd (upd (upd (upd (upd (upd (upd (upd (upd (upd (upd (upd (upd (upd (upd (upd (upd (upd (upd (upd (upd f22 0 0) 1 0) 2 0) 3 0) 4 0) 5 0) 6 0) 7 0) 8 0) 9 0) 10 0) 11 0) 12 0) 13 0) 14 0) 15 0) 16 0) 17 0) 18 0) 19 0) 20 0) 21 0) 22 0) 23 0) 24 0) 25 0) 26 0) 27 0), ia h24 k23 28 (upd (upd (upd (upd (upd (upd (upd (upd (upd (upd (upd (upd (upd (upd (upd (upd (upd (upd (upd (upd (upd (upd (upd (upd (upd (upd (upd (upd f23 0 0) 1 0) 2 0) 3 0) 4 0) 5 0) 6 0) 7 0) 8 0) 9 0) 10 0) 11 0) 12 0) 13 0) 14 0) 15 0) 16 0) 17 0) 18 0) 19 0) 20 0) 21 0) 22 0) 23 0) 24 0) 25 0) 26 0) 27 0), ia h26 k25 4 (upd (upd (upd (upd f25 0 0) 1 0) 2 0) 3 0), ia h27 k26 8 (upd (upd (upd (upd (upd (upd (upd (upd (fun _ => 0) 0 0) 1 0) 2 0) 3 0) 4 0) 5 0) 6 0) 7 0), ia h30 k29 4 (fun _ => 0)] H1 := hPD.1
    replace hD : dd A [h0, h6, h7, h8, h11, h12, h21, h23, h24, h26, h27, h30] := dd_of hPD.2 rfl
    clear hPD
    revert H1 locs1
    intro H locs hS hP
    clear hw1 u
    refine tp_pc (pc' := 14) (by rfl) ?_
    refine lv_aload_n hx hb d_Ref_graphs_14 rfl (lv_at hl 0 rfl) ?_
    refine va_get (D := (dC, dI)) (ci := 8) (v := .ref h12) (C := R_Ref) (T := F_Ref) (N := 48) hx hb hw i_Ref hown hK hP 0 rfl rfl 13 (by decide) (hw _ m_912) (fun _ h9 => h9) rfl d_Ref_graphs_15 ?_
    refine lv_iload_n hx hb d_Ref_graphs_18 rfl (lv_at hl 1 rfl) ?_
    refine va_iald (D := (dC, dI)) hx hb hK hP 5 4 rfl rfl (i := 0) (vp_c (by decide)) d_Ref_graphs_19 ?_
    refine tp_i (y := 1) (by first | rfl | decide) ?_
    obtain ⟨hP9, hD9, -⟩ := cut3 (wc := []) hP hD rfl hS hA [] (by decide +kernel) rfl
    have hK9 := hK.sub (tys' := []) [] rfl
    refine W.widen (k := 0) (n := 0) (by exact Nat.le_of_ble_eq_true rfl) (by exact Nat.le_of_ble_eq_true rfl) ?_
    exact W.iret (v := 1) hx hb hr (fun t ht hW => ⟨⟨1, (), rfl, (by first | decide | exact (fr_o (by assumption)).symm), by rw [ht]; exact hP9, va_K.moved hW.alike hK9, hD9⟩, hS.F ht⟩) hS.2.2 d_Ref_graphs_20
  · skip
    refine lv_iload_n hx hb d_Ref_graphs_0 rfl (lv_at hl 1 rfl) ?_
    obtain ⟨hPc, hDc, hFc⟩ := cut3 (wc := []) hP hD rfl hS hA [] (by decide +kernel) rfl
    have hKc := hK.sub (tys' := []) [] rfl
    refine va_calli (va_runS (As := [.int 1]) (rest := []) ⟨hx, hb, hml, hown, hw⟩ (c_Ref_isModel_v2 l dC dI  s.heap.size) (cw_S 1 hw g_Ref_isModel rfl rfl rfl (hw _ m_109) (hw _ m_1066) (hw _ m_1067) (by decide +kernel) ⟨Nat.le_of_ble_eq_true rfl, Nat.le_of_ble_eq_true rfl⟩) ⟨fun a U g mk q => by obtain ⟨q0, q1, qP, qK, qD, qN⟩ := q; exact ⟨q0, q1, qP, va_K.moved (u := U) (U := U.calling g mk a) (Vm.Alike.refl U.vm) qK, qD, nw_call qN⟩, fun U hU hW => ⟨rfl, by rw [hU], by rw [hU]; exact hPc, va_K.moved hW.alike hKc, hDc.weaken (fun _ _ _ _ => trivial), nw_warm hW hn⟩⟩ rfl rfl hl.1 rfl (lv_room (Nat.le_of_ble_eq_true rfl)) d_Ref_graphs_1 ⟨Nat.le_of_ble_eq_true rfl, Nat.le_of_ble_eq_true rfl⟩) hS (fun q _ h => hFc q h) hFc ?_
    intro r_5 u t H1 locs1 ht hvm hw1 hB hz1 hk1 hS1
    obtain ⟨hP1, hK1, hD1⟩ := hB
    rw [ht] at hP1
    replace hK1 := va_K.moved hvm.symm hK1
    have hPD := join3 hP hD rfl [] [0, 1, 2, 3, 4, 5, 6, 7, 8, 9, 10, 11] rfl (by rfl) (by decide +kernel) (by decide +kernel) hk1 hFc hP1 hD1
    replace hK : va_K (dC, dI) classes [(k5, .boolean), (k6, .int), (k7, .short), (k10, .int), (k11, .int), (k20, .int), (k22, .boolean), (k23, .boolean), (k25, .int), (k26, .int), (k29, .int)] s := hK.app hK1
    clear hP1 hK1 hD1 hk1 hz1 hFc hKc hDc hPc hvm ht hP hS t
    have hP : va_P (dC, dI) classes [oc h0 8 [.int 0, .int p2, .ref h1, .ref h2, .ref h3, .ref h4, .ref h5, .ref h6, .ref h7, .ref h8, .ref h9, .ref h10, .ref h11, .ref h12, .int p3, .ref h13, .ref h14, .ref h15, .ref h16, .int p4, .int p5, .ref h17, .ref h18, .ref h19, .int p6, .ref h20, .int p7, .int p8, .ref h21, .ref h22, .ref h23, .ref h24, .ref h25, .ref h26, .ref h27, .ref h28, .int p9, .int p10, .ref h29, .ref h30, .ref h31, .ref h32, .ref h33, .ref h34, .ref h35, .ref h36, .int p11, .ref h37], ia h6 k5 8 (fun _ => 0), ia h7 k6 8 (fun _ => 0), ia h8 k7 352000 f7, ia h11 k10 32000 f10, ia h12 k11 4 f11, ia h21 k20 11 (fun _ => 0), ia h23 k22 28 f22, ia h24 k23 28 f23, ia h26 k25 4 f25, ia h27 k26 8 (fun _ => 0), ia h30 k29 4 (fun _ => 0)] H1 := hPD.1
    replace hD : dd A [h0, h6, h7, h8, h11, h12, h21, h23, h24, h26, h27, h30] := dd_of hPD.2 rfl
    clear hPD
    revert H1 locs1
    intro H locs hS hP
    refine tp_i (y := 1) hw1 ?_
    clear hw1 r_5 u
    refine tp_pc (pc' := 4) (by rfl) ?_
    refine lv_if_ne (tgt := 9) hx hb d_Ref_graphs_4 (by decide) (fun c_6 => ?_) (fun c_6 => absurd c_6 (by decide))
    refine tp_pc (pc' := 9) (by rfl) ?_
    refine lv_aload_n hx hb d_Ref_graphs_9 rfl (lv_at hl 0 rfl) ?_
    refine lv_iload_n hx hb d_Ref_graphs_10 rfl (lv_at hl 1 rfl) ?_
    obtain ⟨hPc, hDc, hFc⟩ := cut3 (wc := [oc h0 8 [.int 0, .int p2, .ref h1, .ref h2, .ref h3, .ref h4, .ref h5, .ref h6, .ref h7, .ref h8, .ref h9, .ref h10, .ref h11, .ref h12, .int p3, .ref h13, .ref h14, .ref h15, .ref h16, .int p4, .int p5, .ref h17, .ref h18, .ref h19, .int p6, .ref h20, .int p7, .int p8, .ref h21, .ref h22, .ref h23, .ref h24, .ref h25, .ref h26, .ref h27, .ref h28, .int p9, .int p10, .ref h29, .ref h30, .ref h31, .ref h32, .ref h33, .ref h34, .ref h35, .ref h36, .int p11, .ref h37], ia h6 k5 8 (fun _ => 0), ia h7 k6 8 (fun _ => 0), ia h8 k7 352000 f7, ia h11 k10 32000 f10, ia h12 k11 4 f11, ia h21 k20 11 (fun _ => 0), ia h23 k22 28 f22, ia h24 k23 28 f23, ia h26 k25 4 f25, ia h27 k26 8 (fun _ => 0), ia h30 k29 4 (fun _ => 0)]) hP hD rfl hS hA [0, 1, 2, 3, 4, 5, 6, 7, 8, 9, 10, 11] (by decide +kernel) rfl
    have hKc := hK.sub (tys' := [(k5, .boolean), (k6, .int), (k7, .short), (k10, .int), (k11, .int), (k20, .int), (k22, .boolean), (k23, .boolean), (k25, .int), (k26, .int), (k29, .int)]) [0, 1, 2, 3, 4, 5, 6, 7, 8, 9, 10] rfl
    refine va_callv (va_runV (As := [.int 1]) (rest := []) ⟨hx, hb, hml, hown, hw⟩ (c_Ref_findGraphs_v2 l dC dI h0 p2 h1 h2 h3 h4 h5 h6 h7 h8 h9 h10 h11 h12 p3 h13 h14 h15 h16 p4 p5 h17 h18 h19 p6 h20 p7 p8 h21 h22 h23 h24 h25 h26 h27 h28 p9 p10 h29 h30 h31 h32 h33 h34 h35 h36 p11 h37 k5 k6 k7 f7 k10 f10 k11 f11 k20 k22 f22 k23 f23 k25 f25 k26 k29 H.size) (cw_V 1 hw g_Ref_findGraphs rfl rfl rfl (hw _ m_109) (hw _ m_1186) (hw _ m_1188) (hw _ m_78) (by decide +kernel) ⟨Nat.le_of_ble_eq_true rfl, Nat.le_of_ble_eq_true rfl⟩) ⟨fun a U g mk q => by obtain ⟨q0, q1, qP, qK, qD, qN⟩ := q; exact ⟨q0, q1, qP, va_K.moved (u := U) (U := U.calling g mk a) (Vm.Alike.refl U.vm) qK, qD, nw_call qN⟩, va_recv hKc hPc (ci := 8) (q0 := 0) rfl rfl, fun U hU hW => ⟨rfl, by rw [hU], by rw [hU]; exact hPc, va_K.moved hW.alike hKc, hDc.weaken (fun _ _ _ _ => trivial), nw_warm hW hn⟩⟩ rfl rfl hl.1 rfl (lv_room (Nat.le_of_ble_eq_true rfl)) d_Ref_graphs_11 ⟨Nat.le_of_ble_eq_true rfl, Nat.le_of_ble_eq_true rfl⟩) hS (fun q _ h => hFc q h) hFc ?_
    intro u t H1 locs1 ht hvm hw1 hB hz1 hk1 hS1
    obtain ⟨hP1, hK1, hD1⟩ := hB
    rw [ht] at hP1
    replace hK1 := va_K.moved hvm.symm hK1
    have hPD := join3 hP hD rfl [0, 1, 2, 3, 4, 5, 6, 7, 8, 9, 10, 11] [] rfl (by rfl) (by decide +kernel) (by decide +kernel) hk1 hFc hP1 hD1
    replace hK : va_K (dC, dI) classes [(k5, .boolean), (k6, .int), (k7, .short), (k10, .int), (k11, .int), (k20, .int), (k22, .boolean), (k23, .boolean), (k25, .int), (k26, .int), (k29, .int)] s := hK.app hK1
    clear hP1 hK1 hD1 hk1 hz1 hFc hKc hDc hPc hvm ht hP hS t locs H
    have hP : va_P (dC, dI) classes [oc h0 8 [.int 0, .int p2, .ref h1, .ref h2, .ref h3, .ref h4, .ref h5, .ref h6, .ref h7, .ref h8, .ref h9, .ref h10, .ref h11, .ref h12, .int p3, .ref h13, .ref h14, .ref h15, .ref h16, .int p4, .int p5, .ref h17, .ref h18, .ref h19, .int p6, .ref h20, .int p7, .int p8, .ref h21, .ref h22, .ref h23, .ref h24, .ref h25, .ref h26, .ref h27, .ref h28, .int 0, .int 1, .ref h29, .ref h30, .ref h31, .ref h32, .ref h33, .ref h34, .ref h35, .ref h36, .int 0, .ref h37], ia h6 k5 8 (upd (fun _ => 0) 5 1), ia h7 k6 8 (upd (fun _ => 0) 5 1), ia h8 k7 352000 (upd (upd (upd (upd (upd (upd (upd (upd (upd (upd (upd f7 220000 0) 220001 0) 220002 0) 220003 0) 220004 0) 220005 0) 220006 0) 220007 0) 220008 0) 220009 0) 220010 0), ia h11 k10 32000 (upd f10 20000 0), ia h12 k11 4 (upd (upd f11 1 0) 1 1), ia h21 k20 11 (fun _ => 0), ia h23 k22 28 (upd (upd (upd (upd (upd (upd (upd (upd (upd (upd (upd (upd (upd (upd (upd (upd (upd (upd (upd (upd (upd (upd (upd (upd (upd (upd (upd (upd f22 0 0) 1 0) 2 0) 3 0) 4 0) 5 0) 6 0) 7 0) 8 0) 9 0) 10 0) 11 0) 12 0) 13 0) 14 0) 15 0) 16 0) 17 0) 18 0) 19 0) 20 0) 21 0) 22 0) 23 0) 24 0) 25 0) 26 0) 27 0), ia h24 k23 28 (upd (upd (upd (upd (upd (upd (upd (upd (upd (upd (upd (upd (upd (upd (upd (upd (upd (upd (upd (upd (upd (upd (upd (upd (upd (upd (upd (upd f23 0 0) 1 0) 2 0) 3 0) 4 0) 5 0) 6 0) 7 0) 8 0) 9 0) 10 0) 11 0) 12 0) 13 0) 14 0) 15 0) 16 0) 17 0) 18 0) 19 0) 20 0) 21 0) 22 0) 23 0) 24 0) 25 0) 26 0) 27 0), ia h26 k25 4 (upd (upd (upd (upd f25 0 0) 1 0) 2 0) 3 0), ia h27 k26 8 (upd (upd (upd (upd (upd (upd (upd (upd (fun _ => 0) 0 0) 1 0) 2 0) 3 0) 4 0) 5 0) 6 0) 7 0), ia h30 k29 4 (fun _ => 0)] H1 := hPD.1
    replace hD : dd A [h0, h6, h7, h8, h11, h12, h21, h23, h24, h26, h27, h30] := dd_of hPD.2 rfl
    clear hPD
    revert H1 locs1
    intro H locs hS hP
    clear hw1 u
    refine tp_pc (pc' := 14) (by rfl) ?_
    refine lv_aload_n hx hb d_Ref_graphs_14 rfl (lv_at hl 0 rfl) ?_
    refine va_get (D := (dC, dI)) (ci := 8) (v := .ref h12) (C := R_Ref) (T := F_Ref) (N := 48) hx hb hw i_Ref hown hK hP 0 rfl rfl 13 (by decide) (hw _ m_912) (fun _ h9 => h9) rfl d_Ref_graphs_15 ?_
    refine lv_iload_n hx hb d_Ref_graphs_18 rfl (lv_at hl 1 rfl) ?_
    refine va_iald (D := (dC, dI)) hx hb hK hP 5 4 rfl rfl (i := 1) (vp_c (by decide)) d_Ref_graphs_19 ?_
    refine tp_i (y := 1) (by first | rfl | decide) ?_
    obtain ⟨hP9, hD9, -⟩ := cut3 (wc := []) hP hD rfl hS hA [] (by decide +kernel) rfl
    have hK9 := hK.sub (tys' := []) [] rfl
    refine W.widen (k := 0) (n := 0) (by exact Nat.le_of_ble_eq_true rfl) (by exact Nat.le_of_ble_eq_true rfl) ?_
    exact W.iret (v := 1) hx hb hr (fun t ht hW => ⟨⟨1, (), rfl, (by first | decide | exact (fr_o (by assumption)).symm), by rw [ht]; exact hP9, va_K.moved hW.alike hK9, hD9⟩, hS.F ht⟩) hS.2.2 d_Ref_graphs_20
  · skip
    refine lv_iload_n hx hb d_Ref_graphs_0 rfl (lv_at hl 1 rfl) ?_
    obtain ⟨hPc, hDc, hFc⟩ := cut3 (wc := []) hP hD rfl hS hA [] (by decide +kernel) rfl
    have hKc := hK.sub (tys' := []) [] rfl
    refine va_calli (va_runS (As := [.int 2]) (rest := []) ⟨hx, hb, hml, hown, hw⟩ (c_Ref_isModel_v3 l dC dI  s.heap.size) (cw_S 1 hw g_Ref_isModel rfl rfl rfl (hw _ m_109) (hw _ m_1066) (hw _ m_1067) (by decide +kernel) ⟨Nat.le_of_ble_eq_true rfl, Nat.le_of_ble_eq_true rfl⟩) ⟨fun a U g mk q => by obtain ⟨q0, q1, qP, qK, qD, qN⟩ := q; exact ⟨q0, q1, qP, va_K.moved (u := U) (U := U.calling g mk a) (Vm.Alike.refl U.vm) qK, qD, nw_call qN⟩, fun U hU hW => ⟨rfl, by rw [hU], by rw [hU]; exact hPc, va_K.moved hW.alike hKc, hDc.weaken (fun _ _ _ _ => trivial), nw_warm hW hn⟩⟩ rfl rfl hl.1 rfl (lv_room (Nat.le_of_ble_eq_true rfl)) d_Ref_graphs_1 ⟨Nat.le_of_ble_eq_true rfl, Nat.le_of_ble_eq_true rfl⟩) hS (fun q _ h => hFc q h) hFc ?_
    intro r_8 u t H1 locs1 ht hvm hw1 hB hz1 hk1 hS1
    obtain ⟨hP1, hK1, hD1⟩ := hB
    rw [ht] at hP1
    replace hK1 := va_K.moved hvm.symm hK1
    have hPD := join3 hP hD rfl [] [0, 1, 2, 3, 4, 5, 6, 7, 8, 9, 10, 11] rfl (by rfl) (by decide +kernel) (by decide +kernel) hk1 hFc hP1 hD1
    replace hK : va_K (dC, dI) classes [(k5, .boolean), (k6, .int), (k7, .short), (k10, .int), (k11, .int), (k20, .int), (k22, .boolean), (k23, .boolean), (k25, .int), (k26, .int), (k29, .int)] s := hK.app hK1
    clear hP1 hK1 hD1 hk1 hz1 hFc hKc hDc hPc hvm ht hP hS t
    have hP : va_P (dC, dI) classes [oc h0 8 [.int 0, .int p2, .ref h1, .ref h2, .ref h3, .ref h4, .ref h5, .ref h6, .ref h7, .ref h8, .ref h9, .ref h10, .ref h11, .ref h12, .int p3, .ref h13, .ref h14, .ref h15, .ref h16, .int p4, .int p5, .ref h17, .ref h18, .ref h19, .int p6, .ref h20, .int p7, .int p8, .ref h21, .ref h22, .ref h23, .ref h24, .ref h25, .ref h26, .ref h27, .ref h28, .int p9, .int p10, .ref h29, .ref h30, .ref h31, .ref h32, .ref h33, .ref h34, .ref h35, .ref h36, .int p11, .ref h37], ia h6 k5 8 (fun _ => 0), ia h7 k6 8 (fun _ => 0), ia h8 k7 352000 f7, ia h11 k10 32000 f10, ia h12 k11 4 f11, ia h21 k20 11 (fun _ => 0), ia h23 k22 28 f22, ia h24 k23 28 f23, ia h26 k25 4 f25, ia h27 k26 8 (fun _ => 0), ia h30 k29 4 (fun _ => 0)] H1 := hPD.1
    replace hD : dd A [h0, h6, h7, h8, h11, h12, h21, h23, h24, h26, h27, h30] := dd_of hPD.2 rfl
    clear hPD
    revert H1 locs1
    intro H locs hS hP
    refine tp_i (y := 1) hw1 ?_
    clear hw1 r_8 u
    refine tp_pc (pc' := 4) (by rfl) ?_
    refine lv_if_ne (tgt := 9) hx hb d_Ref_graphs_4 (by decide) (fun c_9 => ?_) (fun c_9 => absurd c_9 (by decide))
    refine tp_pc (pc' := 9) (by rfl) ?_
    refine lv_aload_n hx hb d_Ref_graphs_9 rfl (lv_at hl 0 rfl) ?_
    refine lv_iload_n hx hb d_Ref_graphs_10 rfl (lv_at hl 1 rfl) ?_
    obtain ⟨hPc, hDc, hFc⟩ := cut3 (wc := [oc h0 8 [.int 0, .int p2, .ref h1, .ref h2, .ref h3, .ref h4, .ref h5, .ref h6, .ref h7, .ref h8, .ref h9, .ref h10, .ref h11, .ref h12, .int p3, .ref h13, .ref h14, .ref h15, .ref h16, .int p4, .int p5, .ref h17, .ref h18, .ref h19, .int p6, .ref h20, .int p7, .int p8, .ref h21, .ref h22, .ref h23, .ref h24, .ref h25, .ref h26, .ref h27, .ref h28, .int p9, .int p10, .ref h29, .ref h30, .ref h31, .ref h32, .ref h33, .ref h34, .ref h35, .ref h36, .int p11, .ref h37], ia h6 k5 8 (fun _ => 0), ia h7 k6 8 (fun _ => 0), ia h8 k7 352000 f7, ia h11 k10 32000 f10, ia h12 k11 4 f11, ia h21 k20 11 (fun _ => 0), ia h23 k22 28 f22, ia h24 k23 28 f23, ia h26 k25 4 f25, ia h27 k26 8 (fun _ => 0), ia h30 k29 4 (fun _ => 0)]) hP hD rfl hS hA [0, 1, 2, 3, 4, 5, 6, 7, 8, 9, 10, 11] (by decide +kernel) rfl
    have hKc := hK.sub (tys' := [(k5, .boolean), (k6, .int), (k7, .short), (k10, .int), (k11, .int), (k20, .int), (k22, .boolean), (k23, .boolean), (k25, .int), (k26, .int), (k29, .int)]) [0, 1, 2, 3, 4, 5, 6, 7, 8, 9, 10] rfl
    refine va_callv (va_runV (As := [.int 2]) (rest := []) ⟨hx, hb, hml, hown, hw⟩ (c_Ref_findGraphs_v3 l dC dI h0 p2 h1 h2 h3 h4 h5 h6 h7 h8 h9 h10 h11 h12 p3 h13 h14 h15 h16 p4 p5 h17 h18 h19 p6 h20 p7 p8 h21 h22 h23 h24 h25 h26 h27 h28 p9 p10 h29 h30 h31 h32 h33 h34 h35 h36 p11 h37 k5 k6 k7 f7 k10 f10 k11 f11 k20 k22 f22 k23 f23 k25 f25 k26 k29 H.size) (cw_V 1 hw g_Ref_findGraphs rfl rfl rfl (hw _ m_109) (hw _ m_1186) (hw _ m_1188) (hw _ m_78) (by decide +kernel) ⟨Nat.le_of_ble_eq_true rfl, Nat.le_of_ble_eq_true rfl⟩) ⟨fun a U g mk q => by obtain ⟨q0, q1, qP, qK, qD, qN⟩ := q; exact ⟨q0, q1, qP, va_K.moved (u := U) (U := U.calling g mk a) (Vm.Alike.refl U.vm) qK, qD, nw_call qN⟩, va_recv hKc hPc (ci := 8) (q0 := 0) rfl rfl, fun U hU hW => ⟨rfl, by rw [hU], by rw [hU]; exact hPc, va_K.moved hW.alike hKc, hDc.weaken (fun _ _ _ _ => trivial), nw_warm hW hn⟩⟩ rfl rfl hl.1 rfl (lv_room (Nat.le_of_ble_eq_true rfl)) d_Ref_graphs_11 ⟨Nat.le_of_ble_eq_true rfl, Nat.le_of_ble_eq_true rfl⟩) hS (fun q _ h => hFc q h) hFc ?_
    intro u t H1 locs1 ht hvm hw1 hB hz1 hk1 hS1
    obtain ⟨hP1, hK1, hD1⟩ := hB
    rw [ht] at hP1
    replace hK1 := va_K.moved hvm.symm hK1
    have hPD := join3 hP hD rfl [0, 1, 2, 3, 4, 5, 6, 7, 8, 9, 10, 11] [] rfl (by rfl) (by decide +kernel) (by decide +kernel) hk1 hFc hP1 hD1
    replace hK : va_K (dC, dI) classes [(k5, .boolean), (k6, .int), (k7, .short), (k10, .int), (k11, .int), (k20, .int), (k22, .boolean), (k23, .boolean), (k25, .int), (k26, .int), (k29, .int)] s := hK.app hK1
    clear hP1 hK1 hD1 hk1 hz1 hFc hKc hDc hPc hvm ht hP hS t locs H
    have hP : va_P (dC, dI) classes [oc h0 8 [.int 0, .int p2, .ref h1, .ref h2, .ref h3, .ref h4, .ref h5, .ref h6, .ref h7, .ref h8, .ref h9, .ref h10, .ref h11, .ref h12, .int p3, .ref h13, .ref h14, .ref h15, .ref h16, .int p4, .int p5, .ref h17, .ref h18, .ref h19, .int p6, .ref h20, .int p7, .int p8, .ref h21, .ref h22, .ref h23, .ref h24, .ref h25, .ref h26, .ref h27, .ref h28, .int 0, .int 2, .ref h29, .ref h30, .ref h31, .ref h32, .ref h33, .ref h34, .ref h35, .ref h36, .int 0, .ref h37], ia h6 k5 8 (upd (fun _ => 0) 6 1), ia h7 k6 8 (upd (fun _ => 0) 6 1), ia h8 k7 352000 (upd (upd (upd (upd (upd (upd (upd (upd (upd (upd (upd f7 264000 0) 264001 0) 264002 0) 264003 0) 264004 0) 264005 0) 264006 0) 264007 0) 264008 0) 264009 0) 264010 0), ia h11 k10 32000 (upd f10 24000 0), ia h12 k11 4 (upd (upd f11 2 0) 2 1), ia h21 k20 11 (fun _ => 0), ia h23 k22 28 (upd (upd (upd (upd (upd (upd (upd (upd (upd (upd (upd (upd (upd (upd (upd (upd (upd (upd (upd (upd (upd (upd (upd (upd (upd (upd (upd (upd f22 0 0) 1 0) 2 0) 3 0) 4 0) 5 0) 6 0) 7 0) 8 0) 9 0) 10 0) 11 0) 12 0) 13 0) 14 0) 15 0) 16 0) 17 0) 18 0) 19 0) 20 0) 21 0) 22 0) 23 0) 24 0) 25 0) 26 0) 27 0), ia h24 k23 28 (upd (upd (upd (upd (upd (upd (upd (upd (upd (upd (upd (upd (upd (upd (upd (upd (upd (upd (upd (upd (upd (upd (upd (upd (upd (upd (upd (upd f23 0 0) 1 0) 2 0) 3 0) 4 0) 5 0) 6 0) 7 0) 8 0) 9 0) 10 0) 11 0) 12 0) 13 0) 14 0) 15 0) 16 0) 17 0) 18 0) 19 0) 20 0) 21 0) 22 0) 23 0) 24 0) 25 0) 26 0) 27 0), ia h26 k25 4 (upd (upd (upd (upd f25 0 0) 1 0) 2 0) 3 0), ia h27 k26 8 (upd (upd (upd (upd (upd (upd (upd (upd (fun _ => 0) 0 0) 1 0) 2 0) 3 0) 4 0) 5 0) 6 0) 7 0), ia h30 k29 4 (fun _ => 0)] H1 := hPD.1
    replace hD : dd A [h0, h6, h7, h8, h11, h12, h21, h23, h24, h26, h27, h30] := dd_of hPD.2 rfl
    clear hPD
    revert H1 locs1
    intro H locs hS hP
    clear hw1 u
    refine tp_pc (pc' := 14) (by rfl) ?_
    refine lv_aload_n hx hb d_Ref_graphs_14 rfl (lv_at hl 0 rfl) ?_
    refine va_get (D := (dC, dI)) (ci := 8) (v := .ref h12) (C := R_Ref) (T := F_Ref) (N := 48) hx hb hw i_Ref hown hK hP 0 rfl rfl 13 (by decide) (hw _ m_912) (fun _ h9 => h9) rfl d_Ref_graphs_15 ?_
    refine lv_iload_n hx hb d_Ref_graphs_18 rfl (lv_at hl 1 rfl) ?_
    refine va_iald (D := (dC, dI)) hx hb hK hP 5 4 rfl rfl (i := 2) (vp_c (by decide)) d_Ref_graphs_19 ?_
    refine tp_i (y := 1) (by first | rfl | decide) ?_
    obtain ⟨hP9, hD9, -⟩ := cut3 (wc := []) hP hD rfl hS hA [] (by decide +kernel) rfl
    have hK9 := hK.sub (tys' := []) [] rfl
    refine W.widen (k := 0) (n := 0) (by exact Nat.le_of_ble_eq_true rfl) (by exact Nat.le_of_ble_eq_true rfl) ?_
    exact W.iret (v := 1) hx hb hr (fun t ht hW => ⟨⟨1, (), rfl, (by first | decide | exact (fr_o (by assumption)).symm), by rw [ht]; exact hP9, va_K.moved hW.alike hK9, hD9⟩, hS.F ht⟩) hS.2.2 d_Ref_graphs_20
  · skip
    refine lv_iload_n hx hb d_Ref_graphs_0 rfl (lv_at hl 1 rfl) ?_
    obtain ⟨hPc, hDc, hFc⟩ := cut3 (wc := []) hP hD rfl hS hA [] (by decide +kernel) rfl
    have hKc := hK.sub (tys' := []) [] rfl
    refine va_calli (va_runS (As := [.int 3]) (rest := []) ⟨hx, hb, hml, hown, hw⟩ (c_Ref_isModel_v4 l dC dI  s.heap.size) (cw_S 1 hw g_Ref_isModel rfl rfl rfl (hw _ m_109) (hw _ m_1066) (hw _ m_1067) (by decide +kernel) ⟨Nat.le_of_ble_eq_true rfl, Nat.le_of_ble_eq_true rfl⟩) ⟨fun a U g mk q => by obtain ⟨q0, q1, qP, qK, qD, qN⟩ := q; exact ⟨q0, q1, qP, va_K.moved (u := U) (U := U.calling g mk a) (Vm.Alike.refl U.vm) qK, qD, nw_call qN⟩, fun U hU hW => ⟨rfl, by rw [hU], by rw [hU]; exact hPc, va_K.moved hW.alike hKc, hDc.weaken (fun _ _ _ _ => trivial), nw_warm hW hn⟩⟩ rfl rfl hl.1 rfl (lv_room (Nat.le_of_ble_eq_true rfl)) d_Ref_graphs_1 ⟨Nat.le_of_ble_eq_true rfl, Nat.le_of_ble_eq_true rfl⟩) hS (fun q _ h => hFc q h) hFc ?_
    intro r_11 u t H1 locs1 ht hvm hw1 hB hz1 hk1 hS1
    obtain ⟨hP1, hK1, hD1⟩ := hB
    rw [ht] at hP1
    replace hK1 := va_K.moved hvm.symm hK1
    have hPD := join3 hP hD rfl [] [0, 1, 2, 3, 4, 5, 6, 7, 8, 9, 10, 11] rfl (by rfl) (by decide +kernel) (by decide +kernel) hk1 hFc hP1 hD1
    replace hK : va_K (dC, dI) classes [(k5, .boolean), (k6, .int), (k7, .short), (k10, .int), (k11, .int), (k20, .int), (k22, .boolean), (k23, .boolean), (k25, .int), (k26, .int), (k29, .int)] s := hK.app hK1
    clear hP1 hK1 hD1 hk1 hz1 hFc hKc hDc hPc hvm ht hP hS t
    have hP : va_P (dC, dI) classes [oc h0 8 [.int 0, .int p2, .ref h1, .ref h2, .ref h3, .ref h4, .ref h5, .ref h6, .ref h7, .ref h8, .ref h9, .ref h10, .ref h11, .ref h12, .int p3, .ref h13, .ref h14, .ref h15, .ref h16, .int p4, .int p5, .ref h17, .ref h18, .ref h19, .int p6, .ref h20, .int p7, .int p8, .ref h21, .ref h22, .ref h23, .ref h24, .ref h25, .ref h26, .ref h27, .ref h28, .int p9, .int p10, .ref h29, .ref h30, .ref h31, .ref h32, .ref h33, .ref h34, .ref h35, .ref h36, .int p11, .ref h37], ia h6 k5 8 (fun _ => 0), ia h7 k6 8 (fun _ => 0), ia h8 k7 352000 f7, ia h11 k10 32000 f10, ia h12 k11 4 f11, ia h21 k20 11 (fun _ => 0), ia h23 k22 28 f22, ia h24 k23 28 f23, ia h26 k25 4 f25, ia h27 k26 8 (fun _ => 0), ia h30 k29 4 (fun _ => 0)] H1 := hPD.1
    replace hD : dd A [h0, h6, h7, h8, h11, h12, h21, h23, h24, h26, h27, h30] := dd_of hPD.2 rfl
    clear hPD
    revert H1 locs1
    intro H locs hS hP
    refine tp_i (y := 1) hw1 ?_
    clear hw1 r_11 u
    refine tp_pc (pc' := 4) (by rfl) ?_
    refine lv_if_ne (tgt := 9) hx hb d_Ref_graphs_4 (by decide) (fun c_12 => ?_) (fun c_12 => absurd c_12 (by decide))
    refine tp_pc (pc' := 9) (by rfl) ?_
    refine lv_aload_n hx hb d_Ref_graphs_9 rfl (lv_at hl 0 rfl) ?_
    refine lv_iload_n hx hb d_Ref_graphs_10 rfl (lv_at hl 1 rfl) ?_
    obtain ⟨hPc, hDc, hFc⟩ := cut3 (wc := [oc h0 8 [.int 0, .int p2, .ref h1, .ref h2, .ref h3, .ref h4, .ref h5, .ref h6, .ref h7, .ref h8, .ref h9, .ref h10, .ref h11, .ref h12, .int p3, .ref h13, .ref h14, .ref h15, .ref h16, .int p4, .int p5, .ref h17, .ref h18, .ref h19, .int p6, .ref h20, .int p7, .int p8, .ref h21, .ref h22, .ref h23, .ref h24, .ref h25, .ref h26, .ref h27, .ref h28, .int p9, .int p10, .ref h29, .ref h30, .ref h31, .ref h32, .ref h33, .ref h34, .ref h35, .ref h36, .int p11, .ref h37], ia h6 k5 8 (fun _ => 0), ia h7 k6 8 (fun _ => 0), ia h8 k7 352000 f7, ia h11 k10 32000 f10, ia h12 k11 4 f11, ia h21 k20 11 (fun _ => 0), ia h23 k22 28 f22, ia h24 k23 28 f23, ia h26 k25 4 f25, ia h27 k26 8 (fun _ => 0), ia h30 k29 4 (fun _ => 0)]) hP hD rfl hS hA [0, 1, 2, 3, 4, 5, 6, 7, 8, 9, 10, 11] (by decide +kernel) rfl
    have hKc := hK.sub (tys' := [(k5, .boolean), (k6, .int), (k7, .short), (k10, .int), (k11, .int), (k20, .int), (k22, .boolean), (k23, .boolean), (k25, .int), (k26, .int), (k29, .int)]) [0, 1, 2, 3, 4, 5, 6, 7, 8, 9, 10] rfl
    refine va_callv (va_runV (As := [.int 3]) (rest := []) ⟨hx, hb, hml, hown, hw⟩ (c_Ref_findGraphs_v4 l dC dI h0 p2 h1 h2 h3 h4 h5 h6 h7 h8 h9 h10 h11 h12 p3 h13 h14 h15 h16 p4 p5 h17 h18 h19 p6 h20 p7 p8 h21 h22 h23 h24 h25 h26 h27 h28 p9 p10 h29 h30 h31 h32 h33 h34 h35 h36 p11 h37 k5 k6 k7 f7 k10 f10 k11 f11 k20 k22 f22 k23 f23 k25 f25 k26 k29 H.size) (cw_V 1 hw g_Ref_findGraphs rfl rfl rfl (hw _ m_109) (hw _ m_1186) (hw _ m_1188) (hw _ m_78) (by decide +kernel) ⟨Nat.le_of_ble_eq_true rfl, Nat.le_of_ble_eq_true rfl⟩) ⟨fun a U g mk q => by obtain ⟨q0, q1, qP, qK, qD, qN⟩ := q; exact ⟨q0, q1, qP, va_K.moved (u := U) (U := U.calling g mk a) (Vm.Alike.refl U.vm) qK, qD, nw_call qN⟩, va_recv hKc hPc (ci := 8) (q0 := 0) rfl rfl, fun U hU hW => ⟨rfl, by rw [hU], by rw [hU]; exact hPc, va_K.moved hW.alike hKc, hDc.weaken (fun _ _ _ _ => trivial), nw_warm hW hn⟩⟩ rfl rfl hl.1 rfl (lv_room (Nat.le_of_ble_eq_true rfl)) d_Ref_graphs_11 ⟨Nat.le_of_ble_eq_true rfl, Nat.le_of_ble_eq_true rfl⟩) hS (fun q _ h => hFc q h) hFc ?_
    intro u t H1 locs1 ht hvm hw1 hB hz1 hk1 hS1
    obtain ⟨hP1, hK1, hD1⟩ := hB
    rw [ht] at hP1
    replace hK1 := va_K.moved hvm.symm hK1
    have hPD := join3 hP hD rfl [0, 1, 2, 3, 4, 5, 6, 7, 8, 9, 10, 11] [] rfl (by rfl) (by decide +kernel) (by decide +kernel) hk1 hFc hP1 hD1
    replace hK : va_K (dC, dI) classes [(k5, .boolean), (k6, .int), (k7, .short), (k10, .int), (k11, .int), (k20, .int), (k22, .boolean), (k23, .boolean), (k25, .int), (k26, .int), (k29, .int)] s := hK.app hK1
    clear hP1 hK1 hD1 hk1 hz1 hFc hKc hDc hPc hvm ht hP hS t locs H
    have hP : va_P (dC, dI) classes [oc h0 8 [.int 0, .int p2, .ref h1, .ref h2, .ref h3, .ref h4, .ref h5, .ref h6, .ref h7, .ref h8, .ref h9, .ref h10, .ref h11, .ref h12, .int p3, .ref h13, .ref h14, .ref h15, .ref h16, .int p4, .int p5, .ref h17, .ref h18, .ref h19, .int p6, .ref h20, .int p7, .int p8, .ref h21, .ref h22, .ref h23, .ref h24, .ref h25, .ref h26, .ref h27, .ref h28, .int 0, .int 3, .ref h29, .ref h30, .ref h31, .ref h32, .ref h33, .ref h34, .ref h35, .ref h36, .int 0, .ref h37], ia h6 k5 8 (upd (fun _ => 0) 7 1), ia h7 k6 8 (upd (fun _ => 0) 7 1), ia h8 k7 352000 (upd (upd (upd (upd (upd (upd (upd (upd (upd (upd (upd f7 308000 0) 308001 0) 308002 0) 308003 0) 308004 0) 308005 0) 308006 0) 308007 0) 308008 0) 308009 0) 308010 0), ia h11 k10 32000 (upd f10 28000 0), ia h12 k11 4 (upd (upd f11 3 0) 3 1), ia h21 k20 11 (fun _ => 0), ia h23 k22 28 (upd (upd (upd (upd (upd (upd (upd (upd (upd (upd (upd (upd (upd (upd (upd (upd (upd (upd (upd (upd (upd (upd (upd (upd (upd (upd (upd (upd f22 0 0) 1 0) 2 0) 3 0) 4 0) 5 0) 6 0) 7 0) 8 0) 9 0) 10 0) 11 0) 12 0) 13 0) 14 0) 15 0) 16 0) 17 0) 18 0) 19 0) 20 0) 21 0) 22 0) 23 0) 24 0) 25 0) 26 0) 27 0), ia h24 k23 28 (upd (upd (upd (upd (upd (upd (upd (upd (upd (upd (upd (upd (upd (upd (upd (upd (upd (upd (upd (upd (upd (upd (upd (upd (upd (upd (upd (upd f23 0 0) 1 0) 2 0) 3 0) 4 0) 5 0) 6 0) 7 0) 8 0) 9 0) 10 0) 11 0) 12 0) 13 0) 14 0) 15 0) 16 0) 17 0) 18 0) 19 0) 20 0) 21 0) 22 0) 23 0) 24 0) 25 0) 26 0) 27 0), ia h26 k25 4 (upd (upd (upd (upd f25 0 0) 1 0) 2 0) 3 0), ia h27 k26 8 (upd (upd (upd (upd (upd (upd (upd (upd (fun _ => 0) 0 0) 1 0) 2 0) 3 0) 4 0) 5 0) 6 0) 7 0), ia h30 k29 4 (fun _ => 0)] H1 := hPD.1
    replace hD : dd A [h0, h6, h7, h8, h11, h12, h21, h23, h24, h26, h27, h30] := dd_of hPD.2 rfl
    clear hPD
    revert H1 locs1
    intro H locs hS hP
    clear hw1 u
    refine tp_pc (pc' := 14) (by rfl) ?_
    refine lv_aload_n hx hb d_Ref_graphs_14 rfl (lv_at hl 0 rfl) ?_
    refine va_get (D := (dC, dI)) (ci := 8) (v := .ref h12) (C := R_Ref) (T := F_Ref) (N := 48) hx hb hw i_Ref hown hK hP 0 rfl rfl 13 (by decide) (hw _ m_912) (fun _ h9 => h9) rfl d_Ref_graphs_15 ?_
    refine lv_iload_n hx hb d_Ref_graphs_18 rfl (lv_at hl 1 rfl) ?_
    refine va_iald (D := (dC, dI)) hx hb hK hP 5 4 rfl rfl (i := 3) (vp_c (by decide)) d_Ref_graphs_19 ?_
    refine tp_i (y := 1) (by first | rfl | decide) ?_
    obtain ⟨hP9, hD9, -⟩ := cut3 (wc := []) hP hD rfl hS hA [] (by decide +kernel) rfl
    have hK9 := hK.sub (tys' := []) [] rfl
    refine W.widen (k := 0) (n := 0) (by exact Nat.le_of_ble_eq_true rfl) (by exact Nat.le_of_ble_eq_true rfl) ?_
    exact W.iret (v := 1) hx hb hr (fun t ht hW => ⟨⟨1, (), rfl, (by first | decide | exact (fr_o (by assumption)).symm), by rw [ht]; exact hP9, va_K.moved hW.alike hK9, hD9⟩, hS.F ht⟩) hS.2.2 d_Ref_graphs_20
  · skip
    refine lv_iload_n hx hb d_Ref_graphs_0 rfl (lv_at hl 1 rfl) ?_
    obtain ⟨hPc, hDc, hFc⟩ := cut3 (wc := []) hP hD rfl hS hA [] (by decide +kernel) rfl
    have hKc := hK.sub (tys' := []) [] rfl
    refine va_calli (va_runS (As := [.int p0]) (rest := []) ⟨hx, hb, hml, hown, hw⟩ (c_Ref_isModel_v5 l dC dI p0 hs_1 s.heap.size) (cw_S 1 hw g_Ref_isModel rfl rfl rfl (hw _ m_109) (hw _ m_1066) (hw _ m_1067) (by decide +kernel) ⟨Nat.le_of_ble_eq_true rfl, Nat.le_of_ble_eq_true rfl⟩) ⟨fun a U g mk q => by obtain ⟨q0, q1, qP, qK, qD, qN⟩ := q; exact ⟨q0, q1, qP, va_K.moved (u := U) (U := U.calling g mk a) (Vm.Alike.refl U.vm) qK, qD, nw_call qN⟩, fun U hU hW => ⟨rfl, by rw [hU], by rw [hU]; exact hPc, va_K.moved hW.alike hKc, hDc.weaken (fun _ _ _ _ => trivial), nw_warm hW hn⟩⟩ rfl rfl hl.1 rfl (lv_room (Nat.le_of_ble_eq_true rfl)) d_Ref_graphs_1 ⟨Nat.le_of_ble_eq_true rfl, Nat.le_of_ble_eq_true rfl⟩) hS (fun q _ h => hFc q h) hFc ?_
    intro r_14 u t H1 locs1 ht hvm hw1 hB hz1 hk1 hS1
    obtain ⟨hP1, hK1, hD1⟩ := hB
    rw [ht] at hP1
    replace hK1 := va_K.moved hvm.symm hK1
    have hPD := join3 hP hD rfl [] [0, 1, 2, 3, 4, 5, 6, 7, 8, 9, 10, 11] rfl (by rfl) (by decide +kernel) (by decide +kernel) hk1 hFc hP1 hD1
    replace hK : va_K (dC, dI) classes [(k5, .boolean), (k6, .int), (k7, .short), (k10, .int), (k11, .int), (k20, .int), (k22, .boolean), (k23, .boolean), (k25, .int), (k26, .int), (k29, .int)] s := hK.app hK1
    clear hP1 hK1 hD1 hk1 hz1 hFc hKc hDc hPc hvm ht hP hS t
    have hP : va_P (dC, dI) classes [oc h0 8 [.int 0, .int p2, .ref h1, .ref h2, .ref h3, .ref h4, .ref h5, .ref h6, .ref h7, .ref h8, .ref h9, .ref h10, .ref h11, .ref h12, .int p3, .ref h13, .ref h14, .ref h15, .ref h16, .int p4, .int p5, .ref h17, .ref h18, .ref h19, .int p6, .ref h20, .int p7, .int p8, .ref h21, .ref h22, .ref h23, .ref h24, .ref h25, .ref h26, .ref h27, .ref h28, .int p9, .int p10, .ref h29, .ref h30, .ref h31, .ref h32, .ref h33, .ref h34, .ref h35, .ref h36, .int p11, .ref h37], ia h6 k5 8 (fun _ => 0), ia h7 k6 8 (fun _ => 0), ia h8 k7 352000 f7, ia h11 k10 32000 f10, ia h12 k11 4 f11, ia h21 k20 11 (fun _ => 0), ia h23 k22 28 f22, ia h24 k23 28 f23, ia h26 k25 4 f25, ia h27 k26 8 (fun _ => 0), ia h30 k29 4 (fun _ => 0)] H1 := hPD.1
    replace hD : dd A [h0, h6, h7, h8, h11, h12, h21, h23, h24, h26, h27, h30] := dd_of hPD.2 rfl
    clear hPD
    revert H1 locs1
    intro H locs hS hP
    refine tp_i (y := 0) hw1 ?_
    clear hw1 r_14 u
    refine tp_pc (pc' := 4) (by rfl) ?_
    refine lv_if_ne (tgt := 9) hx hb d_Ref_graphs_4 (by decide) (fun c_15 => absurd c_15 (by decide)) (fun c_15 => ?_)
    refine tp_pc (pc' := 7) (by rfl) ?_
    refine lv_iconst (v := (-1)) hx hb d_Ref_graphs_7 (by decide) ?_
    obtain ⟨hP9, hD9, -⟩ := cut3 (wc := []) hP hD rfl hS hA [] (by decide +kernel) rfl
    have hK9 := hK.sub (tys' := []) [] rfl
    refine W.widen (k := 0) (n := 0) (by exact Nat.le_of_ble_eq_true rfl) (by exact Nat.le_of_ble_eq_true rfl) ?_
    exact W.iret (v := (-1)) hx hb hr (fun t ht hW => ⟨⟨(-1), (), rfl, (by first | decide | exact (fr_o (by assumption)).symm), by rw [ht]; exact hP9, va_K.moved hW.alike hK9, hD9⟩, hS.F ht⟩) hS.2.2 d_Ref_graphs_8
set_option maxHeartbeats 4000000 in
set_option maxRecDepth 100000 in
theorem c_Ref_markRaces (l : Launch) (dC : Nat → ClassId) (dI : Nat → Nat → Nat) (h0 : Nat) (p1 : Int32) (h1 : Nat) (h2 : Nat) (h3 : Nat) (h4 : Nat) (h5 : Nat) (h6 : Nat) (h7 : Nat) (h8 : Nat) (h9 : Nat) (h10 : Nat) (h11 : Nat) (h12 : Nat) (p2 : Int32) (h13 : Nat) (h14 : Nat) (h15 : Nat) (h16 : Nat) (p3 : Int32) (p4 : Int32) (h17 : Nat) (h18 : Nat) (h19 : Nat) (p5 : Int32) (h20 : Nat) (p6 : Int32) (p7 : Int32) (h21 : Nat) (h22 : Nat) (h23 : Nat) (h24 : Nat) (h25 : Nat) (h26 : Nat) (h27 : Nat) (h28 : Nat) (p8 : Int32) (p9 : Int32) (h29 : Nat) (h30 : Nat) (h31 : Nat) (h32 : Nat) (h33 : Nat) (h34 : Nat) (h35 : Nat) (h36 : Nat) (p10 : Int32) (h37 : Nat) (sz : Nat) : Met l y_Ref_markRaces w_Ref_markRaces ({ frames := 0, cells := 0, slots := 0, locals := 0 }) (va_Pc [.ref h0] (fun U => U.heap.size = sz ∧ va_P (dC, dI) classes [oc h0 8 [.int 0, .int p1, .ref h1, .ref h2, .ref h3, .ref h4, .ref h5, .ref h6, .ref h7, .ref h8, .ref h9, .ref h10, .ref h11, .ref h12, .int p2, .ref h13, .ref h14, .ref h15, .ref h16, .int p3, .int p4, .ref h17, .ref h18, .ref h19, .int p5, .ref h20, .int p6, .int p7, .ref h21, .ref h22, .ref h23, .ref h24, .ref h25, .ref h26, .ref h27, .ref h28, .int p8, .int p9, .ref h29, .ref h30, .ref h31, .ref h32, .ref h33, .ref h34, .ref h35, .ref h36, .int p10, .ref h37]] U.heap ∧ va_K (dC, dI) classes [] U ∧ va_D (fun _ => True) [oc h0 8 [.int 0, .int p1, .ref h1, .ref h2, .ref h3, .ref h4, .ref h5, .ref h6, .ref h7, .ref h8, .ref h9, .ref h10, .ref h11, .ref h12, .int p2, .ref h13, .ref h14, .ref h15, .ref h16, .int p3, .int p4, .ref h17, .ref h18, .ref h19, .int p5, .ref h20, .int p6, .int p7, .ref h21, .ref h22, .ref h23, .ref h24, .ref h25, .ref h26, .ref h27, .ref h28, .int p8, .int p9, .ref h29, .ref h30, .ref h31, .ref h32, .ref h33, .ref h34, .ref h35, .ref h36, .int p10, .ref h37]] ∧ nw U)) (va_Qv (fun _ : Unit => True) (fun _ t => va_P (dC, dI) classes [oc h0 8 [.int 0, .int p1, .ref h1, .ref h2, .ref h3, .ref h4, .ref h5, .ref h6, .ref h7, .ref h8, .ref h9, .ref h10, .ref h11, .ref h12, .int p2, .ref h13, .ref h14, .ref h15, .ref h16, .int p3, .int p4, .ref h17, .ref h18, .ref h19, .int p5, .ref h20, .int p6, .int p7, .ref h21, .ref h22, .ref h23, .ref h24, .ref h25, .ref h26, .ref h27, .ref h28, .int p8, .int p9, .ref h29, .ref h30, .ref h31, .ref h32, .ref h33, .ref h34, .ref h35, .ref h36, .int p10, .ref h37]] t.heap ∧ va_K (dC, dI) classes [] t ∧ va_D (va_A [oc h0 8 [.int 0, .int p1, .ref h1, .ref h2, .ref h3, .ref h4, .ref h5, .ref h6, .ref h7, .ref h8, .ref h9, .ref h10, .ref h11, .ref h12, .int p2, .ref h13, .ref h14, .ref h15, .ref h16, .int p3, .int p4, .ref h17, .ref h18, .ref h19, .int p5, .ref h20, .int p6, .int p7, .ref h21, .ref h22, .ref h23, .ref h24, .ref h25, .ref h26, .ref h27, .ref h28, .int p8, .int p9, .ref h29, .ref h30, .ref h31, .ref h32, .ref h33, .ref h34, .ref h35, .ref h36, .int p10, .ref h37]] sz) [oc h0 8 [.int 0, .int p1, .ref h1, .ref h2, .ref h3, .ref h4, .ref h5, .ref h6, .ref h7, .ref h8, .ref h9, .ref h10, .ref h11, .ref h12, .int p2, .ref h13, .ref h14, .ref h15, .ref h16, .int p3, .int p4, .ref h17, .ref h18, .ref h19, .int p5, .ref h20, .int p6, .int p7, .ref h21, .ref h22, .ref h23, .ref h24, .ref h25, .ref h26, .ref h27, .ref h28, .int p8, .int p9, .ref h29, .ref h30, .ref h31, .ref h32, .ref h33, .ref h34, .ref h35, .ref h36, .int p10, .ref h37]]) (va_A [oc h0 8 [.int 0, .int p1, .ref h1, .ref h2, .ref h3, .ref h4, .ref h5, .ref h6, .ref h7, .ref h8, .ref h9, .ref h10, .ref h11, .ref h12, .int p2, .ref h13, .ref h14, .ref h15, .ref h16, .int p3, .int p4, .ref h17, .ref h18, .ref h19, .int p5, .ref h20, .int p6, .int p7, .ref h21, .ref h22, .ref h23, .ref h24, .ref h25, .ref h26, .ref h27, .ref h28, .int p8, .int p9, .ref h29, .ref h30, .ref h31, .ref h32, .ref h33, .ref h34, .ref h35, .ref h36, .int p10, .ref h37]] sz)) 0 0 (va_A [oc h0 8 [.int 0, .int p1, .ref h1, .ref h2, .ref h3, .ref h4, .ref h5, .ref h6, .ref h7, .ref h8, .ref h9, .ref h10, .ref h11, .ref h12, .int p2, .ref h13, .ref h14, .ref h15, .ref h16, .int p3, .int p4, .ref h17, .ref h18, .ref h19, .int p5, .ref h20, .int p6, .int p7, .ref h21, .ref h22, .ref h23, .ref h24, .ref h25, .ref h26, .ref h27, .ref h28, .int p8, .int p9, .ref h29, .ref h30, .ref h31, .ref h32, .ref h33, .ref h34, .ref h35, .ref h36, .int p10, .ref h37]] sz) := by
  refine Met.ofW (cc := b_Ref_markRaces) (maxL := 6) (ret := none) (by decide) rfl ?_
  intro p e s m args below meth c s₁ B hml hv
  obtain ⟨rfl, hsz, hP, hK, hD0, hn⟩ := hv
  have hx := B.exec
  have hb := B.bytes
  have hr := B.returns
  have hw := fun w (h : w ∈ wt) => atoms_spec (ws := w_Ref_markRaces) B.pre w (List.mem_cons_of_mem _ h)
  have hown : s.vm.findClass R_Ref = some m.cls := findClass_of_methodNamed B.named
  have hlocks := B.notSynchronized
  subst hsz
  have hD1 := hD0.self (sz := s.heap.size)
  generalize hAe : va_A [oc h0 8 [.int 0, .int p1, .ref h1, .ref h2, .ref h3, .ref h4, .ref h5, .ref h6, .ref h7, .ref h8, .ref h9, .ref h10, .ref h11, .ref h12, .int p2, .ref h13, .ref h14, .ref h15, .ref h16, .int p3, .int p4, .ref h17, .ref h18, .ref h19, .int p5, .ref h20, .int p6, .int p7, .ref h21, .ref h22, .ref h23, .ref h24, .ref h25, .ref h26, .ref h27, .ref h28, .int p8, .int p9, .ref h29, .ref h30, .ref h31, .ref h32, .ref h33, .ref h34, .ref h35, .ref h36, .int p10, .ref h37]] s.heap.size = A at hD1 ⊢
  have hA : ∀ q : Nat, s.heap.size ≤ q → A q := fun q h => by rw [← hAe]; exact Or.inr h
  have hD : dd A [h0] := dd_of hD1 rfl
  clear hAe hD0 hD1
  have hS : va_S A s.heap s.heap [] := va_S.rf
  replace hP : va_P (dC, dI) classes [oc h0 8 [.int 0, .int p1, .ref h1, .ref h2, .ref h3, .ref h4, .ref h5, .ref h6, .ref h7, .ref h8, .ref h9, .ref h10, .ref h11, .ref h12, .int p2, .ref h13, .ref h14, .ref h15, .ref h16, .int p3, .int p4, .ref h17, .ref h18, .ref h19, .int p5, .ref h20, .int p6, .int p7, .ref h21, .ref h22, .ref h23, .ref h24, .ref h25, .ref h26, .ref h27, .ref h28, .int p8, .int p9, .ref h29, .ref h30, .ref h31, .ref h32, .ref h33, .ref h34, .ref h35, .ref h36, .int p10, .ref h37]] s.heap := hP
  have hl := lv_entry ([.ref h0]) (n := 6) (Nat.le_of_ble_eq_true rfl)
  rw [lg_entry_eq]
  generalize (lg_sl ([.ref h0]) ++ List.replicate (6 - (lg_sl ([.ref h0])).length) Slot.unset).toArray = ls at hl ⊢
  replace hl : lv_has ls 6 [(0, .ref h0)] := hl
  refine lv_iconst (v := 0) hx hb d_Ref_markRaces_0 (by decide) ?_
  refine lv_istore_n (lv' := [(1, .int 0), (0, .ref h0)]) hx hb d_Ref_markRaces_1 rfl hl (by decide) rfl ?_
  clear hl ls
  intro ls hl
  refine lv_iload_n hx hb d_Ref_markRaces_2 rfl (lv_at hl 0 rfl) ?_
  refine lv_aload_n hx hb d_Ref_markRaces_3 rfl (lv_at hl 1 rfl) ?_
  refine va_get (D := (dC, dI)) (ci := 8) (v := .int 0) (C := R_Ref) (T := F_Ref) (N := 48) hx hb hw i_Ref hown hK hP 0 rfl rfl 0 (by decide) (hw _ m_899) (fun _ h9 => h9) rfl d_Ref_markRaces_4 ?_
  refine lv_icmp_ge (tgt := 204) hx hb d_Ref_markRaces_7 (by decide) (fun c_1 => ?_) (fun c_1 => absurd c_1 (by decide))
  refine tp_pc (pc' := 204) (by rfl) ?_
  obtain ⟨hP9, hD9, -⟩ := cut3 (wc := [oc h0 8 [.int 0, .int p1, .ref h1, .ref h2, .ref h3, .ref h4, .ref h5, .ref h6, .ref h7, .ref h8, .ref h9, .ref h10, .ref h11, .ref h12, .int p2, .ref h13, .ref h14, .ref h15, .ref h16, .int p3, .int p4, .ref h17, .ref h18, .ref h19, .int p5, .ref h20, .int p6, .int p7, .ref h21, .ref h22, .ref h23, .ref h24, .ref h25, .ref h26, .ref h27, .ref h28, .int p8, .int p9, .ref h29, .ref h30, .ref h31, .ref h32, .ref h33, .ref h34, .ref h35, .ref h36, .int p10, .ref h37]]) hP hD rfl hS hA [0] (by decide +kernel) rfl
  have hK9 := hK.sub (tys' := []) [] rfl
  refine W.widen (k := 0) (n := 0) (by exact Nat.le_of_ble_eq_true rfl) (by exact Nat.le_of_ble_eq_true rfl) ?_
  exact W.vret hx hb hr (fun t ht hW => ⟨⟨(), rfl, trivial, by rw [ht]; exact hP9, va_K.moved hW.alike hK9, hD9⟩, hS.F ht⟩) hS.2.2 d_Ref_markRaces_204
