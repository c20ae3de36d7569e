theorem min_nI {a b : Nat} (h : a ≤ b) (ha : a < 2 ^ 31) (hb : b < 2 ^ 31) : (if nI b < nI a then nI b else nI a) = nI a := if_neg (nI_nlt h hb)
set_option maxHeartbeats 4000000 in
set_option maxRecDepth 100000 in
theorem gen_OutcomeSet_begin (l : Launch) (dC : Nat → ClassId) (dI : Nat → Nat → Nat) (h0 : Nat) (ad : Nat → Nat) (E : Nat) (z0 sd rd : Int32)  (sz : Nat) : Met l y_OutcomeSet_begin w_OutcomeSet_begin ({ frames := 0, cells := 0, slots := 0, locals := 0 }) (va_Pc [.ref h0] (fun U => U.heap.size = sz ∧ va_P (dC, dI) classes [oc h0 3 [.int (nI E), .ref (ad 1), .ref (ad 2), .ref (ad 3), .ref (ad 4), .ref (ad 5), .int z0, .int sd, .int rd]] U.heap ∧ va_K (dC, dI) classes [] U ∧ va_D (fun _ => True) [oc h0 3 [.int (nI E), .ref (ad 1), .ref (ad 2), .ref (ad 3), .ref (ad 4), .ref (ad 5), .int z0, .int sd, .int rd]] ∧ nw U)) (va_Qv (fun _ : Unit => True) (fun _ t9 => va_P (dC, dI) classes [oc h0 3 [.int (nI E), .ref (ad 1), .ref (ad 2), .ref (ad 3), .ref (ad 4), .ref (ad 5), .int 0, .int 0, .int rd]] t9.heap ∧ va_K (dC, dI) classes [] t9 ∧ va_D (va_A [oc h0 3 [.int (nI E), .ref (ad 1), .ref (ad 2), .ref (ad 3), .ref (ad 4), .ref (ad 5), .int z0, .int sd, .int rd]] sz) [oc h0 3 [.int (nI E), .ref (ad 1), .ref (ad 2), .ref (ad 3), .ref (ad 4), .ref (ad 5), .int 0, .int 0, .int rd]]) (va_A [oc h0 3 [.int (nI E), .ref (ad 1), .ref (ad 2), .ref (ad 3), .ref (ad 4), .ref (ad 5), .int z0, .int sd, .int rd]] sz)) 0 0 (va_A [oc h0 3 [.int (nI E), .ref (ad 1), .ref (ad 2), .ref (ad 3), .ref (ad 4), .ref (ad 5), .int z0, .int sd, .int rd]] sz) := by
  refine Met.ofW (cc := b_OutcomeSet_begin) (maxL := 1) (ret := none) (by decide) rfl ?_
  intro p e0 s m args below meth c s₁ B hml hv
  obtain ⟨rfl, hsz, hP, hK, hD0, hn⟩ := hv
  have hx := B.exec
  have hb := B.bytes
  have hr := B.returns
  have hw := fun w (h : w ∈ wt) => atoms_spec (ws := w_OutcomeSet_begin) B.pre w (List.mem_cons_of_mem _ h)
  have hown : s.vm.findClass R_OutcomeSet = some m.cls := findClass_of_methodNamed B.named
  have hlocks := B.notSynchronized
  subst hsz
  have hD1 := hD0.self (sz := s.heap.size)
  generalize hAe : va_A [oc h0 3 [.int (nI E), .ref (ad 1), .ref (ad 2), .ref (ad 3), .ref (ad 4), .ref (ad 5), .int z0, .int sd, .int rd]] s.heap.size = A at hD1 ⊢
  have hA : ∀ q : Nat, s.heap.size ≤ q → A q := fun q h => by rw [← hAe]; exact Or.inr h
  have hD : dd A [h0] := dd_of hD1 rfl
  clear hAe hD0 hD1
  have hS : va_S A s.heap s.heap [] := va_S.rf
  replace hP : va_P (dC, dI) classes [oc h0 3 [.int (nI E), .ref (ad 1), .ref (ad 2), .ref (ad 3), .ref (ad 4), .ref (ad 5), .int z0, .int sd, .int rd]] s.heap := hP
  have hl := lv_entry ([.ref h0]) (n := 1) (Nat.le_of_ble_eq_true rfl)
  rw [lg_entry_eq]
  generalize (lg_sl ([.ref h0]) ++ List.replicate (1 - (lg_sl ([.ref h0])).length) Slot.unset).toArray = ls at hl ⊢
  replace hl : lv_has ls 1 [(0, .ref h0)] := hl
  refine lv_aload_n hx hb d_OutcomeSet_begin_0 rfl (lv_at hl 0 rfl) ?_
  refine lv_iconst (v := 0) hx hb d_OutcomeSet_begin_1 (by decide) ?_
  refine va_put (D := (dC, dI)) (ci := 3) (v := .int 0) (ty := .int) (C := R_OutcomeSet) (T := F_OutcomeSet) (N := 9) hx hb hw i_OutcomeSet t_OutcomeSet t_OutcomeSet_ok n_OutcomeSet hown hK hP (dd_D hD rfl) hS 0 rfl rfl 6 (by decide) (hw _ m_384) (fun _ h9 => h9) rfl (by decide +kernel) rfl rfl (Nat.le_of_ble_eq_true rfl) d_OutcomeSet_begin_2 ?_
  clear hP hS
  intro H locs (hP : va_P (dC, dI) classes [oc h0 3 [.int (nI E), .ref (ad 1), .ref (ad 2), .ref (ad 3), .ref (ad 4), .ref (ad 5), .int 0, .int sd, .int rd]] H) _ hS
  refine tp_pc (pc' := 5) (by rfl) ?_
  refine lv_aload_n hx hb d_OutcomeSet_begin_5 rfl (lv_at hl 0 rfl) ?_
  refine lv_iconst (v := 0) hx hb d_OutcomeSet_begin_6 (by decide) ?_
  refine va_put (D := (dC, dI)) (ci := 3) (v := .int 0) (ty := .int) (C := R_OutcomeSet) (T := F_OutcomeSet) (N := 9) hx hb hw i_OutcomeSet t_OutcomeSet t_OutcomeSet_ok n_OutcomeSet hown hK hP (dd_D hD rfl) hS 0 rfl rfl 7 (by decide) (hw _ m_386) (fun _ h9 => h9) rfl (by decide +kernel) rfl rfl (Nat.le_of_ble_eq_true rfl) d_OutcomeSet_begin_7 ?_
  clear hP hS locs H
  intro H locs (hP : va_P (dC, dI) classes [oc h0 3 [.int (nI E), .ref (ad 1), .ref (ad 2), .ref (ad 3), .ref (ad 4), .ref (ad 5), .int 0, .int 0, .int rd]] H) _ hS
  refine tp_pc (pc' := 10) (by rfl) ?_
  obtain ⟨hP9, hD9, -⟩ := cut3 (wc := [oc h0 3 [.int (nI E), .ref (ad 1), .ref (ad 2), .ref (ad 3), .ref (ad 4), .ref (ad 5), .int 0, .int 0, .int rd]]) hP hD rfl hS hA [0] (by decide +kernel) rfl
  have hK9 := hK.sub (tys' := []) [] rfl
  refine W.widen (k := 0) (n := 0) (by exact Nat.le_of_ble_eq_true rfl) (by exact Nat.le_of_ble_eq_true rfl) ?_
  exact W.vret hx hb hr (fun t9 ht9 hW => ⟨⟨(), rfl, trivial, by rw [ht9]; exact hP9, va_K.moved hW.alike hK9, hD9⟩, hS.F ht9⟩) hS.2.2 d_OutcomeSet_begin_10
set_option maxHeartbeats 4000000 in
set_option maxRecDepth 100000 in
theorem gen_OutcomeSet_addGraph (l : Launch) (dC : Nat → ClassId) (dI : Nat → Nat → Nat) (h0 : Nat) (ad : Nat → Nat) (ck : Nat → ClassId) (E n C : Nat) (rf : Nat → Int64) (vf lf sf : Nat → Int32) (of : Nat → Nat) (s9 : Nat) (rd : Int32) (rk : Int64) (vk : Int32) (hC : C ≤ 65536) (hnC : n ≤ C) (hE2 : E ≤ 16) (hs : srt n rf vf of) (n2 C2 mc ms : Nat) (hst : addO (hasO rf vf of rk vk n) n C E = (n2, C2, mc, ms)) (sz : Nat) : Met l y_OutcomeSet_addGraph w_OutcomeSet_addGraph ({ frames := 4, cells := mc, slots := ms, locals := 150 }) (va_Pc [.ref h0, .long rk, .int vk] (fun U => U.heap.size = sz ∧ va_P (dC, dI) classes [oc h0 3 [.int (nI E), .ref (ad 1), .ref (ad 2), .ref (ad 3), .ref (ad 4), .ref (ad 5), .int (nI n), .int (nI s9), .int rd], la (ad 1) (ck 1) C rf, ia (ad 2) (ck 2) C vf, ia (ad 3) (ck 3) C lf, ia (ad 4) (ck 4) (C * E) sf, ia (ad 5) (ck 5) C (fun i => nI (of i))] U.heap ∧ va_K (dC, dI) classes [((ck 1), .long), ((ck 2), .int), ((ck 3), .int), ((ck 4), .int), ((ck 5), .int)] U ∧ va_D (fun _ => True) [oc h0 3 [.int (nI E), .ref (ad 1), .ref (ad 2), .ref (ad 3), .ref (ad 4), .ref (ad 5), .int (nI n), .int (nI s9), .int rd], la (ad 1) (ck 1) C rf, ia (ad 2) (ck 2) C vf, ia (ad 3) (ck 3) C lf, ia (ad 4) (ck 4) (C * E) sf, ia (ad 5) (ck 5) C (fun i => nI (of i))] ∧ nw U)) (va_Qv (fun _ : Unit => True) (fun _ t9 => ∃ (ad2 : Nat → Nat) (ck2 : Nat → ClassId) (rf2 : Nat → Int64) (vf2 lf2 sf2 : Nat → Int32) (of2 : Nat → Nat), (∀ i, i < n → rf2 i = rf i ∧ vf2 i = vf i ∧ lf2 i = lf i) ∧ (∀ i, i < C * E → sf2 i = sf i) ∧ (hasO rf vf of rk vk n = true → ∀ i, i < n → of2 i = of i) ∧ (hasO rf vf of rk vk n = false → rf2 n = rk ∧ vf2 n = vk) ∧ srt n2 rf2 vf2 of2 ∧ va_P (dC, dI) classes [oc h0 3 [.int (nI E), .ref (ad2 1), .ref (ad2 2), .ref (ad2 3), .ref (ad2 4), .ref (ad2 5), .int (nI n2), .int (nI (s9 + 1)), .int rd], la (ad2 1) (ck2 1) C2 rf2, ia (ad2 2) (ck2 2) C2 vf2, ia (ad2 3) (ck2 3) C2 lf2, ia (ad2 4) (ck2 4) (C2 * E) sf2, ia (ad2 5) (ck2 5) C2 (fun i => nI (of2 i))] t9.heap ∧ va_K (dC, dI) classes [((ck2 1), .long), ((ck2 2), .int), ((ck2 3), .int), ((ck2 4), .int), ((ck2 5), .int)] t9 ∧ va_D (va_A [oc h0 3 [.int (nI E), .ref (ad 1), .ref (ad 2), .ref (ad 3), .ref (ad 4), .ref (ad 5), .int (nI n), .int (nI s9), .int rd], la (ad 1) (ck 1) C rf, ia (ad 2) (ck 2) C vf, ia (ad 3) (ck 3) C lf, ia (ad 4) (ck 4) (C * E) sf, ia (ad 5) (ck 5) C (fun i => nI (of i))] sz) [oc h0 3 [.int (nI E), .ref (ad2 1), .ref (ad2 2), .ref (ad2 3), .ref (ad2 4), .ref (ad2 5), .int (nI n2), .int (nI (s9 + 1)), .int rd], la (ad2 1) (ck2 1) C2 rf2, ia (ad2 2) (ck2 2) C2 vf2, ia (ad2 3) (ck2 3) C2 lf2, ia (ad2 4) (ck2 4) (C2 * E) sf2, ia (ad2 5) (ck2 5) C2 (fun i => nI (of2 i))]) (va_A [oc h0 3 [.int (nI E), .ref (ad 1), .ref (ad 2), .ref (ad 3), .ref (ad 4), .ref (ad 5), .int (nI n), .int (nI s9), .int rd], la (ad 1) (ck 1) C rf, ia (ad 2) (ck 2) C vf, ia (ad 3) (ck 3) C lf, ia (ad 4) (ck 4) (C * E) sf, ia (ad 5) (ck 5) C (fun i => nI (of i))] sz)) mc ms (va_A [oc h0 3 [.int (nI E), .ref (ad 1), .ref (ad 2), .ref (ad 3), .ref (ad 4), .ref (ad 5), .int (nI n), .int (nI s9), .int rd], la (ad 1) (ck 1) C rf, ia (ad 2) (ck 2) C vf, ia (ad 3) (ck 3) C lf, ia (ad 4) (ck 4) (C * E) sf, ia (ad 5) (ck 5) C (fun i => nI (of i))] sz) := by
  refine Met.ofW (cc := b_OutcomeSet_addGraph) (maxL := 4) (ret := none) (by decide) rfl ?_
  intro p e0 s m args below meth c s₁ B hml hv
  obtain ⟨rfl, hsz, hP, hK, hD0, hn⟩ := hv
  have hx := B.exec
  have hb := B.bytes
  have hr := B.returns
  have hw := fun w (h : w ∈ wt) => atoms_spec (ws := w_OutcomeSet_addGraph) B.pre w (List.mem_cons_of_mem _ h)
  have hown : s.vm.findClass R_OutcomeSet = some m.cls := findClass_of_methodNamed B.named
  have hlocks := B.notSynchronized
  subst hsz
  have hD1 := hD0.self (sz := s.heap.size)
  generalize hAe : va_A [oc h0 3 [.int (nI E), .ref (ad 1), .ref (ad 2), .ref (ad 3), .ref (ad 4), .ref (ad 5), .int (nI n), .int (nI s9), .int rd], la (ad 1) (ck 1) C rf, ia (ad 2) (ck 2) C vf, ia (ad 3) (ck 3) C lf, ia (ad 4) (ck 4) (C * E) sf, ia (ad 5) (ck 5) C (fun i => nI (of i))] s.heap.size = A at hD1 ⊢
  have hA : ∀ q : Nat, s.heap.size ≤ q → A q := fun q h => by rw [← hAe]; exact Or.inr h
  have hD : dd A [h0, (ad 1), (ad 2), (ad 3), (ad 4), (ad 5)] := dd_of hD1 rfl
  clear hAe hD0 hD1
  have hS : va_S A s.heap s.heap [] := va_S.rf
  replace hP : va_P (dC, dI) classes [oc h0 3 [.int (nI E), .ref (ad 1), .ref (ad 2), .ref (ad 3), .ref (ad 4), .ref (ad 5), .int (nI n), .int (nI s9), .int rd], la (ad 1) (ck 1) C rf, ia (ad 2) (ck 2) C vf, ia (ad 3) (ck 3) C lf, ia (ad 4) (ck 4) (C * E) sf, ia (ad 5) (ck 5) C (fun i => nI (of i))] s.heap := hP
  have hl := lv_entry ([.ref h0, .long rk, .int vk]) (n := 4) (Nat.le_of_ble_eq_true rfl)
  rw [lg_entry_eq]
  generalize (lg_sl ([.ref h0, .long rk, .int vk]) ++ List.replicate (4 - (lg_sl ([.ref h0, .long rk, .int vk])).length) Slot.unset).toArray = ls at hl ⊢
  replace hl : lv_has ls 4 [(0, .ref h0), (1, .long rk), (3, .int vk)] := hl
  refine lv_aload_n hx hb d_OutcomeSet_addGraph_0 rfl (lv_at hl 0 rfl) ?_
  refine lv_dup hx hb d_OutcomeSet_addGraph_1 rfl ?_
  refine va_get (D := (dC, dI)) (ci := 3) (v := .int (nI s9)) (C := R_OutcomeSet) (T := F_OutcomeSet) (N := 9) hx hb hw i_OutcomeSet hown hK hP 0 rfl rfl 7 (by decide) (hw _ m_386) (fun _ h9 => h9) rfl d_OutcomeSet_addGraph_2 ?_
  refine lv_iconst (v := 1) hx hb d_OutcomeSet_addGraph_5 (by decide) ?_
  refine lv_iadd hx hb d_OutcomeSet_addGraph_6 ?_
  refine tp_i (y := nI (s9 + 1)) (by exact nI_add s9 1) ?_
  refine va_put (D := (dC, dI)) (ci := 3) (v := .int (nI (s9 + 1))) (ty := .int) (C := R_OutcomeSet) (T := F_OutcomeSet) (N := 9) hx hb hw i_OutcomeSet t_OutcomeSet t_OutcomeSet_ok n_OutcomeSet hown hK hP (dd_D hD rfl) hS 0 rfl rfl 7 (by decide) (hw _ m_386) (fun _ h9 => h9) rfl (by decide +kernel) rfl rfl (Nat.le_of_ble_eq_true rfl) d_OutcomeSet_addGraph_7 ?_
  clear hP hS
  intro H locs (hP : va_P (dC, dI) classes [oc h0 3 [.int (nI E), .ref (ad 1), .ref (ad 2), .ref (ad 3), .ref (ad 4), .ref (ad 5), .int (nI n), .int (nI (s9 + 1)), .int rd], la (ad 1) (ck 1) C rf, ia (ad 2) (ck 2) C vf, ia (ad 3) (ck 3) C lf, ia (ad 4) (ck 4) (C * E) sf, ia (ad 5) (ck 5) C (fun i => nI (of i))] H) _ hS
  refine tp_pc (pc' := 10) (by rfl) ?_
  refine lv_aload_n hx hb d_OutcomeSet_addGraph_10 rfl (lv_at hl 0 rfl) ?_
  refine lv_lload_n hx hb d_OutcomeSet_addGraph_11 rfl (lv_at hl 1 rfl) ?_
  refine lv_iload_n hx hb d_OutcomeSet_addGraph_12 rfl (lv_at hl 2 rfl) ?_
  obtain ⟨hPc, hDc, hFc⟩ := cut3 (wc := [oc h0 3 [.int (nI E), .ref (ad 1), .ref (ad 2), .ref (ad 3), .ref (ad 4), .ref (ad 5), .int (nI n), .int (nI (s9 + 1)), .int rd], la (ad 1) (ck 1) C rf, ia (ad 2) (ck 2) C vf, ia (ad 3) (ck 3) C lf, ia (ad 4) (ck 4) (C * E) sf, ia (ad 5) (ck 5) C (fun i => nI (of i))]) hP hD rfl hS hA [0, 1, 2, 3, 4, 5] (by decide +kernel) rfl
  have hKc := hK.sub (tys' := [((ck 1), .long), ((ck 2), .int), ((ck 3), .int), ((ck 4), .int), ((ck 5), .int)]) [0, 1, 2, 3, 4] rfl
  refine va_calli (va_runV (As := [.long rk, .int vk]) (rest := []) ⟨hx, hb, hml, hown, hw⟩ (gen_OutcomeSet_add l dC dI h0 ad ck E n C (nI (s9 + 1)) rd rf vf lf sf of rk vk hC hnC hE2 hs n2 C2 mc ms hst H.size) (cw_V 2 hw g_OutcomeSet_add rfl rfl rfl (hw _ m_108) (hw _ m_616) (hw _ m_618) (hw _ m_16) (by decide +kernel) ⟨Nat.le_of_ble_eq_true rfl, Nat.le_of_ble_eq_true rfl⟩) ⟨fun a U g mk q => by obtain ⟨q0, q1, qP, qK, qD, qN⟩ := q; exact ⟨q0, q1, qP, va_K.moved (u := U) (U := U.calling g mk a) (Vm.Alike.refl U.vm) qK, qD, nw_call qN⟩, va_recv hKc hPc (ci := 3) (q0 := 0) rfl rfl, fun U hU hW => ⟨rfl, by rw [hU], by rw [hU]; exact hPc, va_K.moved hW.alike hKc, hDc.weaken (fun _ _ _ _ => trivial), nw_warm hW hn⟩⟩ rfl rfl hl.1 rfl (lv_room (Nat.le_of_ble_eq_true rfl)) d_OutcomeSet_addGraph_13 ⟨by show 0 + mc ≤ mc; omega, by show 0 + ms ≤ ms; omega⟩) hS (fun q _ h => hFc q h) hFc ?_
  intro r_1 u t9 H1 locs1 ht9 hvm hw1 hB hz1 hk1 hS1
  obtain ⟨ad2, ck2, rf2, vf2, lf2, sf2, of2, f1, f2, f3, f4, f5, hP1, hK1, hD1⟩ := hB
  rw [ht9] at hP1
  replace hK1 := va_K.moved hvm.symm hK1
  have hPD := join3 hP hD rfl [0, 1, 2, 3, 4, 5] [] rfl (by rfl) (by decide +kernel) (by decide +kernel) hk1 hFc hP1 hD1
  replace hK : va_K (dC, dI) classes [((ck 1), .long), ((ck 2), .int), ((ck 3), .int), ((ck 4), .int), ((ck 5), .int), ((ck2 1), .long), ((ck2 2), .int), ((ck2 3), .int), ((ck2 4), .int), ((ck2 5), .int)] s := hK.app hK1
  clear hP1 hK1 hD1 hk1 hz1 hFc hKc hDc hPc hvm ht9 hP hS t9 locs H
  have hP : va_P (dC, dI) classes [oc h0 3 [.int (nI E), .ref (ad2 1), .ref (ad2 2), .ref (ad2 3), .ref (ad2 4), .ref (ad2 5), .int (nI n2), .int (nI (s9 + 1)), .int rd], la (ad2 1) (ck2 1) C2 rf2, ia (ad2 2) (ck2 2) C2 vf2, ia (ad2 3) (ck2 3) C2 lf2, ia (ad2 4) (ck2 4) (C2 * E) sf2, ia (ad2 5) (ck2 5) C2 (fun i => nI (of2 i))] H1 := hPD.1
  replace hD : dd A [h0, (ad2 1), (ad2 2), (ad2 3), (ad2 4), (ad2 5)] := dd_of hPD.2 rfl
  clear hPD
  revert H1 locs1
  intro H locs hS hP
  refine W.widen (k := mc) (n := ms) (by first | exact Nat.le_refl _ | omega) (by first | exact Nat.le_refl _ | omega) ?_
  refine tp_pc (pc' := 16) (by rfl) ?_
  refine lv_pop hx hb d_OutcomeSet_addGraph_16 rfl ?_
  obtain ⟨hP9, hD9, -⟩ := cut3 (wc := [oc h0 3 [.int (nI E), .ref (ad2 1), .ref (ad2 2), .ref (ad2 3), .ref (ad2 4), .ref (ad2 5), .int (nI n2), .int (nI (s9 + 1)), .int rd], la (ad2 1) (ck2 1) C2 rf2, ia (ad2 2) (ck2 2) C2 vf2, ia (ad2 3) (ck2 3) C2 lf2, ia (ad2 4) (ck2 4) (C2 * E) sf2, ia (ad2 5) (ck2 5) C2 (fun i => nI (of2 i))]) hP hD rfl hS hA [0, 1, 2, 3, 4, 5] (by decide +kernel) rfl
  have hK9 := hK.sub (tys' := [((ck2 1), .long), ((ck2 2), .int), ((ck2 3), .int), ((ck2 4), .int), ((ck2 5), .int)]) [5, 6, 7, 8, 9] rfl
  refine W.widen (k := mc) (n := ms) (Nat.le_refl _) (Nat.le_refl _) ?_
  exact W.vret hx hb hr (fun t9 ht9 hW => ⟨⟨(), rfl, trivial, ad2, ck2, rf2, vf2, lf2, sf2, of2, f1, f2, f3, f4, f5, by rw [ht9]; exact hP9, va_K.moved hW.alike hK9, hD9⟩, hS.F ht9⟩) hS.2.2 d_OutcomeSet_addGraph_17
