set_option maxHeartbeats 4000000 in
set_option maxRecDepth 100000 in
theorem gen_OutcomeSet_addRun_has (l : Launch) (dC : Nat → ClassId) (dI : Nat → Nat → Nat) (h0 : Nat) (ad : Nat → Nat) (ck : Nat → ClassId) (E n C : Nat) (rf : Nat → Int64) (vf lf sf : Nat → Int32) (of : Nat → Nat) (sd rd : Int32) (rk : Int64) (vk : Int32) (hp : Nat) (kp : ClassId) (PL d : Nat) (pf : Nat → Int32) (hC : C ≤ 65536) (hnC : n ≤ C) (hE2 : E ≤ 16) (hs : srt n rf vf of) (n2 C2 mc ms : Nat) (hst : addO (hasO rf vf of rk vk n) n C E = (n2, C2, mc, ms)) (hb9 : hasO rf vf of rk vk n = true) (hd : d ≤ E) (hdP : d ≤ PL) (hPL : PL ≤ 1000) (sz : Nat) : Met l y_OutcomeSet_addRun w_OutcomeSet_addRun ({ frames := 4, cells := mc, slots := ms, locals := 150 }) (va_Pc [.ref h0, .long rk, .int vk, .ref hp, .int (nI d)] (fun U => U.heap.size = sz ∧ va_P (dC, dI) classes [oc h0 3 [.int (nI E), .ref (ad 1), .ref (ad 2), .ref (ad 3), .ref (ad 4), .ref (ad 5), .int (nI n), .int sd, .int rd], la (ad 1) (ck 1) C rf, ia (ad 2) (ck 2) C vf, ia (ad 3) (ck 3) C lf, ia (ad 4) (ck 4) (C * E) sf, ia (ad 5) (ck 5) C (fun i => nI (of i)), ia hp kp PL pf] U.heap ∧ va_K (dC, dI) classes [((ck 1), .long), ((ck 2), .int), ((ck 3), .int), ((ck 4), .int), ((ck 5), .int), (kp, .int)] U ∧ va_D (fun _ => True) [oc h0 3 [.int (nI E), .ref (ad 1), .ref (ad 2), .ref (ad 3), .ref (ad 4), .ref (ad 5), .int (nI n), .int sd, .int rd], la (ad 1) (ck 1) C rf, ia (ad 2) (ck 2) C vf, ia (ad 3) (ck 3) C lf, ia (ad 4) (ck 4) (C * E) sf, ia (ad 5) (ck 5) C (fun i => nI (of i)), ia hp kp PL pf] ∧ nw U)) (va_Qv (fun _ : Unit => True) (fun _ t9 => ∃ (ad2 : Nat → Nat) (ck2 : Nat → ClassId) (rf2 : Nat → Int64) (vf2 lf2 sf2 : Nat → Int32) (of2 : Nat → Nat), (∀ i, i < n → rf2 i = rf i ∧ vf2 i = vf i ∧ lf2 i = lf i) ∧ (∀ i, i < C * E → sf2 i = sf i) ∧ (hasO rf vf of rk vk n = true → ∀ i, i < n → of2 i = of i) ∧ (hasO rf vf of rk vk n = false → rf2 n = rk ∧ vf2 n = vk) ∧ srt n2 rf2 vf2 of2 ∧ va_P (dC, dI) classes [oc h0 3 [.int (nI E), .ref (ad2 1), .ref (ad2 2), .ref (ad2 3), .ref (ad2 4), .ref (ad2 5), .int (nI n2), .int sd, .int rd], la (ad2 1) (ck2 1) C2 rf2, ia (ad2 2) (ck2 2) C2 vf2, ia (ad2 3) (ck2 3) C2 lf2, ia (ad2 4) (ck2 4) (C2 * E) sf2, ia (ad2 5) (ck2 5) C2 (fun i => nI (of2 i)), ia hp kp PL pf] t9.heap ∧ va_K (dC, dI) classes [((ck2 1), .long), ((ck2 2), .int), ((ck2 3), .int), ((ck2 4), .int), ((ck2 5), .int)] t9 ∧ va_D (va_A [oc h0 3 [.int (nI E), .ref (ad 1), .ref (ad 2), .ref (ad 3), .ref (ad 4), .ref (ad 5), .int (nI n), .int sd, .int rd], la (ad 1) (ck 1) C rf, ia (ad 2) (ck 2) C vf, ia (ad 3) (ck 3) C lf, ia (ad 4) (ck 4) (C * E) sf, ia (ad 5) (ck 5) C (fun i => nI (of i)), ia hp kp PL pf] sz) [oc h0 3 [.int (nI E), .ref (ad2 1), .ref (ad2 2), .ref (ad2 3), .ref (ad2 4), .ref (ad2 5), .int (nI n2), .int sd, .int rd], la (ad2 1) (ck2 1) C2 rf2, ia (ad2 2) (ck2 2) C2 vf2, ia (ad2 3) (ck2 3) C2 lf2, ia (ad2 4) (ck2 4) (C2 * E) sf2, ia (ad2 5) (ck2 5) C2 (fun i => nI (of2 i)), ia hp kp PL pf]) (va_A [oc h0 3 [.int (nI E), .ref (ad 1), .ref (ad 2), .ref (ad 3), .ref (ad 4), .ref (ad 5), .int (nI n), .int sd, .int rd], la (ad 1) (ck 1) C rf, ia (ad 2) (ck 2) C vf, ia (ad 3) (ck 3) C lf, ia (ad 4) (ck 4) (C * E) sf, ia (ad 5) (ck 5) C (fun i => nI (of i)), ia hp kp PL pf] sz)) mc ms (va_A [oc h0 3 [.int (nI E), .ref (ad 1), .ref (ad 2), .ref (ad 3), .ref (ad 4), .ref (ad 5), .int (nI n), .int sd, .int rd], la (ad 1) (ck 1) C rf, ia (ad 2) (ck 2) C vf, ia (ad 3) (ck 3) C lf, ia (ad 4) (ck 4) (C * E) sf, ia (ad 5) (ck 5) C (fun i => nI (of i)), ia hp kp PL pf] sz) := by
  refine Met.ofW (cc := b_OutcomeSet_addRun) (maxL := 8) (ret := none) (by decide) rfl ?_
  intro p e0 s m args below meth c s₁ B hml hv
  obtain ⟨rfl, hsz, hP, hK, hD0, hn⟩ := hv
  have hx := B.exec
  have hb := B.bytes
  have hr := B.returns
  have hw := fun w (h : w ∈ wt) => atoms_spec (ws := w_OutcomeSet_addRun) B.pre w (List.mem_cons_of_mem _ h)
  have hown : s.vm.findClass R_OutcomeSet = some m.cls := findClass_of_methodNamed B.named
  have hlocks := B.notSynchronized
  subst hsz
  have hD1 := hD0.self (sz := s.heap.size)
  generalize hAe : va_A [oc h0 3 [.int (nI E), .ref (ad 1), .ref (ad 2), .ref (ad 3), .ref (ad 4), .ref (ad 5), .int (nI n), .int sd, .int rd], la (ad 1) (ck 1) C rf, ia (ad 2) (ck 2) C vf, ia (ad 3) (ck 3) C lf, ia (ad 4) (ck 4) (C * E) sf, ia (ad 5) (ck 5) C (fun i => nI (of i)), ia hp kp PL pf] s.heap.size = A at hD1 ⊢
  have hA : ∀ q : Nat, s.heap.size ≤ q → A q := fun q h => by rw [← hAe]; exact Or.inr h
  have hD : dd A [h0, (ad 1), (ad 2), (ad 3), (ad 4), (ad 5), hp] := dd_of hD1 rfl
  clear hAe hD0 hD1
  have hS : va_S A s.heap s.heap [] := va_S.rf
  replace hP : va_P (dC, dI) classes [oc h0 3 [.int (nI E), .ref (ad 1), .ref (ad 2), .ref (ad 3), .ref (ad 4), .ref (ad 5), .int (nI n), .int sd, .int rd], la (ad 1) (ck 1) C rf, ia (ad 2) (ck 2) C vf, ia (ad 3) (ck 3) C lf, ia (ad 4) (ck 4) (C * E) sf, ia (ad 5) (ck 5) C (fun i => nI (of i)), ia hp kp PL pf] s.heap := hP
  have hl := lv_entry ([.ref h0, .long rk, .int vk, .ref hp, .int (nI d)]) (n := 8) (Nat.le_of_ble_eq_true rfl)
  rw [lg_entry_eq]
  generalize (lg_sl ([.ref h0, .long rk, .int vk, .ref hp, .int (nI d)]) ++ List.replicate (8 - (lg_sl ([.ref h0, .long rk, .int vk, .ref hp, .int (nI d)])).length) Slot.unset).toArray = ls at hl ⊢
  replace hl : lv_has ls 8 [(0, .ref h0), (1, .long rk), (3, .int vk), (4, .ref hp), (5, .int (nI d))] := hl
  refine lv_aload_n hx hb d_OutcomeSet_addRun_0 rfl (lv_at hl 0 rfl) ?_
  refine lv_lload_n hx hb d_OutcomeSet_addRun_1 rfl (lv_at hl 1 rfl) ?_
  refine lv_iload_n hx hb d_OutcomeSet_addRun_2 rfl (lv_at hl 2 rfl) ?_
  obtain ⟨hPc, hDc, hFc⟩ := cut3 (wc := [oc h0 3 [.int (nI E), .ref (ad 1), .ref (ad 2), .ref (ad 3), .ref (ad 4), .ref (ad 5), .int (nI n), .int sd, .int rd], la (ad 1) (ck 1) C rf, ia (ad 2) (ck 2) C vf, ia (ad 3) (ck 3) C lf, ia (ad 4) (ck 4) (C * E) sf, ia (ad 5) (ck 5) C (fun i => nI (of i))]) hP hD rfl hS hA [0, 1, 2, 3, 4, 5] (by decide +kernel) rfl
  have hKc := hK.sub (tys' := [((ck 1), .long), ((ck 2), .int), ((ck 3), .int), ((ck 4), .int), ((ck 5), .int)]) [0, 1, 2, 3, 4] rfl
  refine va_calli (va_runV (As := [.long rk, .int vk]) (rest := []) ⟨hx, hb, hml, hown, hw⟩ (gen_OutcomeSet_add l dC dI h0 ad ck E n C sd rd rf vf lf sf of rk vk hC hnC hE2 hs n2 C2 mc ms hst s.heap.size) (cw_V 2 hw g_OutcomeSet_add rfl rfl rfl (hw _ m_108) (hw _ m_616) (hw _ m_618) (hw _ m_16) (by decide +kernel) ⟨Nat.le_of_ble_eq_true rfl, Nat.le_of_ble_eq_true rfl⟩) ⟨fun a U g mk q => by obtain ⟨q0, q1, qP, qK, qD, qN⟩ := q; exact ⟨q0, q1, qP, va_K.moved (u := U) (U := U.calling g mk a) (Vm.Alike.refl U.vm) qK, qD, nw_call qN⟩, va_recv hKc hPc (ci := 3) (q0 := 0) rfl rfl, fun U hU hW => ⟨rfl, by rw [hU], by rw [hU]; exact hPc, va_K.moved hW.alike hKc, hDc.weaken (fun _ _ _ _ => trivial), nw_warm hW hn⟩⟩ rfl rfl hl.1 rfl (lv_room (Nat.le_of_ble_eq_true rfl)) d_OutcomeSet_addRun_3 ⟨by show 0 + mc ≤ mc; omega, by show 0 + ms ≤ ms; omega⟩) hS (fun q _ h => hFc q h) hFc ?_
  intro r_1 u t9 H1 locs1 ht9 hvm hw1 hB hz1 hk1 hS1
  obtain ⟨ad2, ck2, rf2, vf2, lf2, sf2, of2, f1, f2, f3, f4, f5, hP1, hK1, hD1⟩ := hB
  rw [ht9] at hP1
  replace hK1 := va_K.moved hvm.symm hK1
  have hPD := join3 hP hD rfl [0, 1, 2, 3, 4, 5] [6] rfl (by rfl) (by decide +kernel) (by decide +kernel) hk1 hFc hP1 hD1
  replace hK : va_K (dC, dI) classes [((ck 1), .long), ((ck 2), .int), ((ck 3), .int), ((ck 4), .int), ((ck 5), .int), (kp, .int), ((ck2 1), .long), ((ck2 2), .int), ((ck2 3), .int), ((ck2 4), .int), ((ck2 5), .int)] s := hK.app hK1
  clear hP1 hK1 hD1 hk1 hz1 hFc hKc hDc hPc hvm ht9 hP hS t9
  have hP : va_P (dC, dI) classes [ia hp kp PL pf, oc h0 3 [.int (nI E), .ref (ad2 1), .ref (ad2 2), .ref (ad2 3), .ref (ad2 4), .ref (ad2 5), .int (nI n2), .int sd, .int rd], la (ad2 1) (ck2 1) C2 rf2, ia (ad2 2) (ck2 2) C2 vf2, ia (ad2 3) (ck2 3) C2 lf2, ia (ad2 4) (ck2 4) (C2 * E) sf2, ia (ad2 5) (ck2 5) C2 (fun i => nI (of2 i))] H1 := hPD.1
  replace hD : dd A [hp, h0, (ad2 1), (ad2 2), (ad2 3), (ad2 4), (ad2 5)] := dd_of hPD.2 rfl
  clear hPD
  revert H1 locs1
  intro H locs hS hP
  refine tp_i (y := 0) (by rw [hw1, hb9]; rfl) ?_
  clear hw1 r_1 u
  refine W.widen (k := mc) (n := ms) (by first | exact Nat.le_refl _ | omega) (by first | exact Nat.le_refl _ | omega) ?_
  refine tp_pc (pc' := 6) (by rfl) ?_
  refine lv_if_ne (tgt := 10) hx hb d_OutcomeSet_addRun_6 (by decide) (fun c_2 => absurd c_2 (by decide)) (fun c_2 => ?_)
  refine tp_pc (pc' := 9) (by rfl) ?_
  obtain ⟨hP9, hD9, -⟩ := cut3 (wc := [oc h0 3 [.int (nI E), .ref (ad2 1), .ref (ad2 2), .ref (ad2 3), .ref (ad2 4), .ref (ad2 5), .int (nI n2), .int sd, .int rd], la (ad2 1) (ck2 1) C2 rf2, ia (ad2 2) (ck2 2) C2 vf2, ia (ad2 3) (ck2 3) C2 lf2, ia (ad2 4) (ck2 4) (C2 * E) sf2, ia (ad2 5) (ck2 5) C2 (fun i => nI (of2 i)), ia hp kp PL pf]) hP hD rfl hS hA [1, 2, 3, 4, 5, 6, 0] (by decide +kernel) rfl
  have hK9 := hK.sub (tys' := [((ck2 1), .long), ((ck2 2), .int), ((ck2 3), .int), ((ck2 4), .int), ((ck2 5), .int)]) [6, 7, 8, 9, 10] rfl
  refine W.widen (k := mc) (n := ms) (Nat.le_refl _) (Nat.le_refl _) ?_
  exact W.vret hx hb hr (fun t9 ht9 hW => ⟨⟨(), rfl, trivial, ad2, ck2, rf2, vf2, lf2, sf2, of2, f1, f2, f3, f4, f5, by rw [ht9]; exact hP9, va_K.moved hW.alike hK9, hD9⟩, hS.F ht9⟩) hS.2.2 d_OutcomeSet_addRun_9
set_option maxHeartbeats 4000000 in
set_option maxRecDepth 100000 in
theorem gen_OutcomeSet_addRun_new (l : Launch) (dC : Nat → ClassId) (dI : Nat → Nat → Nat) (h0 : Nat) (ad : Nat → Nat) (ck : Nat → ClassId) (E n C : Nat) (rf : Nat → Int64) (vf lf sf : Nat → Int32) (of : Nat → Nat) (sd rd : Int32) (rk : Int64) (vk : Int32) (hp : Nat) (kp : ClassId) (PL d : Nat) (pf : Nat → Int32) (hC : C ≤ 65536) (hnC : n ≤ C) (hE2 : E ≤ 16) (hs : srt n rf vf of) (n2 C2 mc ms : Nat) (hst : addO (hasO rf vf of rk vk n) n C E = (n2, C2, mc, ms)) (hb9 : hasO rf vf of rk vk n = false) (hd : d ≤ E) (hdP : d ≤ PL) (hPL : PL ≤ 1000) (sz : Nat) : Met l y_OutcomeSet_addRun w_OutcomeSet_addRun ({ frames := 4, cells := mc, slots := ms, locals := 150 }) (va_Pc [.ref h0, .long rk, .int vk, .ref hp, .int (nI d)] (fun U => U.heap.size = sz ∧ va_P (dC, dI) classes [oc h0 3 [.int (nI E), .ref (ad 1), .ref (ad 2), .ref (ad 3), .ref (ad 4), .ref (ad 5), .int (nI n), .int sd, .int rd], la (ad 1) (ck 1) C rf, ia (ad 2) (ck 2) C vf, ia (ad 3) (ck 3) C lf, ia (ad 4) (ck 4) (C * E) sf, ia (ad 5) (ck 5) C (fun i => nI (of i)), ia hp kp PL pf] U.heap ∧ va_K (dC, dI) classes [((ck 1), .long), ((ck 2), .int), ((ck 3), .int), ((ck 4), .int), ((ck 5), .int), (kp, .int)] U ∧ va_D (fun _ => True) [oc h0 3 [.int (nI E), .ref (ad 1), .ref (ad 2), .ref (ad 3), .ref (ad 4), .ref (ad 5), .int (nI n), .int sd, .int rd], la (ad 1) (ck 1) C rf, ia (ad 2) (ck 2) C vf, ia (ad 3) (ck 3) C lf, ia (ad 4) (ck 4) (C * E) sf, ia (ad 5) (ck 5) C (fun i => nI (of i)), ia hp kp PL pf] ∧ nw U)) (va_Qv (fun _ : Unit => True) (fun _ t9 => ∃ (ad2 : Nat → Nat) (ck2 : Nat → ClassId) (rf2 : Nat → Int64) (vf2 lf2 sf2 : Nat → Int32) (of2 : Nat → Nat), (∀ i, i < n → rf2 i = rf i ∧ vf2 i = vf i ∧ lf2 i = lf i) ∧ (∀ i, i < n * E → sf2 i = sf i) ∧ (rf2 n = rk ∧ vf2 n = vk) ∧ lf2 n = nI d ∧ (∀ k, k < d → sf2 (n * E + k) = pf k) ∧ srt n2 rf2 vf2 of2 ∧ va_P (dC, dI) classes [oc h0 3 [.int (nI E), .ref (ad2 1), .ref (ad2 2), .ref (ad2 3), .ref (ad2 4), .ref (ad2 5), .int (nI n2), .int sd, .int rd], la (ad2 1) (ck2 1) C2 rf2, ia (ad2 2) (ck2 2) C2 vf2, ia (ad2 3) (ck2 3) C2 lf2, ia (ad2 4) (ck2 4) (C2 * E) sf2, ia (ad2 5) (ck2 5) C2 (fun i => nI (of2 i)), ia hp kp PL pf] t9.heap ∧ va_K (dC, dI) classes [((ck2 1), .long), ((ck2 2), .int), ((ck2 3), .int), ((ck2 4), .int), ((ck2 5), .int)] t9 ∧ va_D (va_A [oc h0 3 [.int (nI E), .ref (ad 1), .ref (ad 2), .ref (ad 3), .ref (ad 4), .ref (ad 5), .int (nI n), .int sd, .int rd], la (ad 1) (ck 1) C rf, ia (ad 2) (ck 2) C vf, ia (ad 3) (ck 3) C lf, ia (ad 4) (ck 4) (C * E) sf, ia (ad 5) (ck 5) C (fun i => nI (of i)), ia hp kp PL pf] sz) [oc h0 3 [.int (nI E), .ref (ad2 1), .ref (ad2 2), .ref (ad2 3), .ref (ad2 4), .ref (ad2 5), .int (nI n2), .int sd, .int rd], la (ad2 1) (ck2 1) C2 rf2, ia (ad2 2) (ck2 2) C2 vf2, ia (ad2 3) (ck2 3) C2 lf2, ia (ad2 4) (ck2 4) (C2 * E) sf2, ia (ad2 5) (ck2 5) C2 (fun i => nI (of2 i)), ia hp kp PL pf]) (va_A [oc h0 3 [.int (nI E), .ref (ad 1), .ref (ad 2), .ref (ad 3), .ref (ad 4), .ref (ad 5), .int (nI n), .int sd, .int rd], la (ad 1) (ck 1) C rf, ia (ad 2) (ck 2) C vf, ia (ad 3) (ck 3) C lf, ia (ad 4) (ck 4) (C * E) sf, ia (ad 5) (ck 5) C (fun i => nI (of i)), ia hp kp PL pf] sz)) mc ms (va_A [oc h0 3 [.int (nI E), .ref (ad 1), .ref (ad 2), .ref (ad 3), .ref (ad 4), .ref (ad 5), .int (nI n), .int sd, .int rd], la (ad 1) (ck 1) C rf, ia (ad 2) (ck 2) C vf, ia (ad 3) (ck 3) C lf, ia (ad 4) (ck 4) (C * E) sf, ia (ad 5) (ck 5) C (fun i => nI (of i)), ia hp kp PL pf] sz) := by
  refine Met.ofW (cc := b_OutcomeSet_addRun) (maxL := 8) (ret := none) (by decide) rfl ?_
  intro p e0 s m args below meth c s₁ B hml hv
  obtain ⟨rfl, hsz, hP, hK, hD0, hn⟩ := hv
  have hx := B.exec
  have hb := B.bytes
  have hr := B.returns
  have hw := fun w (h : w ∈ wt) => atoms_spec (ws := w_OutcomeSet_addRun) B.pre w (List.mem_cons_of_mem _ h)
  have hown : s.vm.findClass R_OutcomeSet = some m.cls := findClass_of_methodNamed B.named
  have hlocks := B.notSynchronized
  subst hsz
  have hD1 := hD0.self (sz := s.heap.size)
  generalize hAe : va_A [oc h0 3 [.int (nI E), .ref (ad 1), .ref (ad 2), .ref (ad 3), .ref (ad 4), .ref (ad 5), .int (nI n), .int sd, .int rd], la (ad 1) (ck 1) C rf, ia (ad 2) (ck 2) C vf, ia (ad 3) (ck 3) C lf, ia (ad 4) (ck 4) (C * E) sf, ia (ad 5) (ck 5) C (fun i => nI (of i)), ia hp kp PL pf] s.heap.size = A at hD1 ⊢
  have hA : ∀ q : Nat, s.heap.size ≤ q → A q := fun q h => by rw [← hAe]; exact Or.inr h
  have hD : dd A [h0, (ad 1), (ad 2), (ad 3), (ad 4), (ad 5), hp] := dd_of hD1 rfl
  clear hAe hD0 hD1
  have hS : va_S A s.heap s.heap [] := va_S.rf
  replace hP : va_P (dC, dI) classes [oc h0 3 [.int (nI E), .ref (ad 1), .ref (ad 2), .ref (ad 3), .ref (ad 4), .ref (ad 5), .int (nI n), .int sd, .int rd], la (ad 1) (ck 1) C rf, ia (ad 2) (ck 2) C vf, ia (ad 3) (ck 3) C lf, ia (ad 4) (ck 4) (C * E) sf, ia (ad 5) (ck 5) C (fun i => nI (of i)), ia hp kp PL pf] s.heap := hP
  have hl := lv_entry ([.ref h0, .long rk, .int vk, .ref hp, .int (nI d)]) (n := 8) (Nat.le_of_ble_eq_true rfl)
  rw [lg_entry_eq]
  generalize (lg_sl ([.ref h0, .long rk, .int vk, .ref hp, .int (nI d)]) ++ List.replicate (8 - (lg_sl ([.ref h0, .long rk, .int vk, .ref hp, .int (nI d)])).length) Slot.unset).toArray = ls at hl ⊢
  replace hl : lv_has ls 8 [(0, .ref h0), (1, .long rk), (3, .int vk), (4, .ref hp), (5, .int (nI d))] := hl
  refine lv_aload_n hx hb d_OutcomeSet_addRun_0 rfl (lv_at hl 0 rfl) ?_
  refine lv_lload_n hx hb d_OutcomeSet_addRun_1 rfl (lv_at hl 1 rfl) ?_
  refine lv_iload_n hx hb d_OutcomeSet_addRun_2 rfl (lv_at hl 2 rfl) ?_
  obtain ⟨hPc, hDc, hFc⟩ := cut3 (wc := [oc h0 3 [.int (nI E), .ref (ad 1), .ref (ad 2), .ref (ad 3), .ref (ad 4), .ref (ad 5), .int (nI n), .int sd, .int rd], la (ad 1) (ck 1) C rf, ia (ad 2) (ck 2) C vf, ia (ad 3) (ck 3) C lf, ia (ad 4) (ck 4) (C * E) sf, ia (ad 5) (ck 5) C (fun i => nI (of i))]) hP hD rfl hS hA [0, 1, 2, 3, 4, 5] (by decide +kernel) rfl
  have hKc := hK.sub (tys' := [((ck 1), .long), ((ck 2), .int), ((ck 3), .int), ((ck 4), .int), ((ck 5), .int)]) [0, 1, 2, 3, 4] rfl
  refine va_calli (va_runV (As := [.long rk, .int vk]) (rest := []) ⟨hx, hb, hml, hown, hw⟩ (gen_OutcomeSet_add l dC dI h0 ad ck E n C sd rd rf vf lf sf of rk vk hC hnC hE2 hs n2 C2 mc ms hst s.heap.size) (cw_V 2 hw g_OutcomeSet_add rfl rfl rfl (hw _ m_108) (hw _ m_616) (hw _ m_618) (hw _ m_16) (by decide +kernel) ⟨Nat.le_of_ble_eq_true rfl, Nat.le_of_ble_eq_true rfl⟩) ⟨fun a U g mk q => by obtain ⟨q0, q1, qP, qK, qD, qN⟩ := q; exact ⟨q0, q1, qP, va_K.moved (u := U) (U := U.calling g mk a) (Vm.Alike.refl U.vm) qK, qD, nw_call qN⟩, va_recv hKc hPc (ci := 3) (q0 := 0) rfl rfl, fun U hU hW => ⟨rfl, by rw [hU], by rw [hU]; exact hPc, va_K.moved hW.alike hKc, hDc.weaken (fun _ _ _ _ => trivial), nw_warm hW hn⟩⟩ rfl rfl hl.1 rfl (lv_room (Nat.le_of_ble_eq_true rfl)) d_OutcomeSet_addRun_3 ⟨by show 0 + mc ≤ mc; omega, by show 0 + ms ≤ ms; omega⟩) hS (fun q _ h => hFc q h) hFc ?_
  intro r_1 u t9 H1 locs1 ht9 hvm hw1 hB hz1 hk1 hS1
  obtain ⟨ad2, ck2, rf2, vf2, lf2, sf2, of2, f1, f2, f3, f4, f5, hP1, hK1, hD1⟩ := hB
  rw [ht9] at hP1
  replace hK1 := va_K.moved hvm.symm hK1
  have hPD := join3 hP hD rfl [0, 1, 2, 3, 4, 5] [6] rfl (by rfl) (by decide +kernel) (by decide +kernel) hk1 hFc hP1 hD1
  replace hK : va_K (dC, dI) classes [((ck 1), .long), ((ck 2), .int), ((ck 3), .int), ((ck 4), .int), ((ck 5), .int), (kp, .int), ((ck2 1), .long), ((ck2 2), .int), ((ck2 3), .int), ((ck2 4), .int), ((ck2 5), .int)] s := hK.app hK1
  clear hP1 hK1 hD1 hk1 hz1 hFc hKc hDc hPc hvm ht9 hP hS t9
  have hP : va_P (dC, dI) classes [ia hp kp PL pf, oc h0 3 [.int (nI E), .ref (ad2 1), .ref (ad2 2), .ref (ad2 3), .ref (ad2 4), .ref (ad2 5), .int (nI n2), .int sd, .int rd], la (ad2 1) (ck2 1) C2 rf2, ia (ad2 2) (ck2 2) C2 vf2, ia (ad2 3) (ck2 3) C2 lf2, ia (ad2 4) (ck2 4) (C2 * E) sf2, ia (ad2 5) (ck2 5) C2 (fun i => nI (of2 i))] H1 := hPD.1
  replace hD : dd A [hp, h0, (ad2 1), (ad2 2), (ad2 3), (ad2 4), (ad2 5)] := dd_of hPD.2 rfl
  clear hPD
  revert H1 locs1
  intro H locs hS hP
  refine tp_i (y := 1) (by rw [hw1, hb9]; rfl) ?_
  clear hw1 r_1 u
  refine W.widen (k := mc) (n := ms) (by first | exact Nat.le_refl _ | omega) (by first | exact Nat.le_refl _ | omega) ?_
  obtain ⟨e1, e2⟩ : n2 = n + 1 ∧ n < C2 := by
    rw [hb9] at hst; unfold addO at hst; simp only [] at hst
    by_cases q : n < C
    · rw [if_pos q] at hst; cases hst; exact ⟨rfl, q⟩
    · rw [if_neg q] at hst; cases hst; exact ⟨rfl, by unfold roomO; split <;> omega⟩
  have e4 : C2 ≤ 131072 := by
    rw [hb9] at hst; unfold addO at hst; simp only [] at hst
    by_cases q : n < C
    · rw [if_pos q] at hst; cases hst; omega
    · rw [if_neg q] at hst; cases hst; unfold roomO; split <;> omega
  have e3 : n * E + E ≤ C2 * E := by rw [← Nat.succ_mul]; exact Nat.mul_le_mul_right E e2
  have e5 : C2 * E ≤ 131072 * 16 := Nat.mul_le_mul e4 hE2
  refine tp_pc (pc' := 6) (by rfl) ?_
  refine lv_if_ne (tgt := 10) hx hb d_OutcomeSet_addRun_6 (by decide) (fun c_2 => ?_) (fun c_2 => absurd c_2 (by decide))
  refine tp_pc (pc' := 10) (by rfl) ?_
  refine lv_aload_n hx hb d_OutcomeSet_addRun_10 rfl (lv_at hl 0 rfl) ?_
  refine va_get (D := (dC, dI)) (ci := 3) (v := .int (nI n2)) (C := R_OutcomeSet) (T := F_OutcomeSet) (N := 9) hx hb hw i_OutcomeSet hown hK hP 1 rfl rfl 6 (by decide) (hw _ m_384) (fun _ h9 => h9) rfl d_OutcomeSet_addRun_11 ?_
  refine lv_iconst (v := 1) hx hb d_OutcomeSet_addRun_14 (by decide) ?_
  refine lv_isub hx hb d_OutcomeSet_addRun_15 ?_
  refine tp_i (y := nI (n2 - 1)) (by exact pk_sub (a := n2) (b := 1) (by omega)) ?_
  refine tp_i (y := nI n) (by rw [e1, Nat.add_sub_cancel]) ?_
  refine lv_istore (lv' := [(6, .int (nI n)), (0, .ref h0), (1, .long rk), (3, .int vk), (4, .ref hp), (5, .int (nI d))]) hx hb d_OutcomeSet_addRun_16 hl (by decide) rfl ?_
  clear hl ls
  intro ls hl
  refine lv_aload_n hx hb d_OutcomeSet_addRun_18 rfl (lv_at hl 1 rfl) ?_
  refine va_get (D := (dC, dI)) (ci := 3) (v := .ref (ad2 3)) (C := R_OutcomeSet) (T := F_OutcomeSet) (N := 9) hx hb hw i_OutcomeSet hown hK hP 1 rfl rfl 3 (by decide) (hw _ m_381) (fun _ h9 => h9) rfl d_OutcomeSet_addRun_19 ?_
  refine lv_iload hx hb d_OutcomeSet_addRun_22 (lv_at hl 0 rfl) ?_
  refine lv_iload hx hb d_OutcomeSet_addRun_24 (lv_at hl 5 rfl) ?_
  refine lv_aload hx hb d_OutcomeSet_addRun_26 (lv_at hl 4 rfl) ?_
  refine va_alen (D := (dC, dI)) hx hb hK hP 0 5 rfl rfl (v := nI PL) (by rfl) d_OutcomeSet_addRun_28 ?_
  refine va_mmin hx hb (hml.trans hl.1.symm) hown (hw _ m_643) (hw _ m_530) (hw _ m_111) (hw _ m_531) (Nat.le_of_ble_eq_true rfl) (by exact Nat.le_of_ble_eq_true rfl) (by exact Nat.le_refl _) (by exact Nat.le_refl _) d_OutcomeSet_addRun_29 ?_
  refine tp_i (y := nI d) (min_nI hdP (by omega) (by omega)) ?_
  refine tp_pc (pc' := 32) (by rfl) ?_
  refine lv_aload_n hx hb d_OutcomeSet_addRun_32 rfl (lv_at hl 1 rfl) ?_
  refine va_get (D := (dC, dI)) (ci := 3) (v := .int (nI E)) (C := R_OutcomeSet) (T := F_OutcomeSet) (N := 9) hx hb hw i_OutcomeSet hown hK hP 1 rfl rfl 0 (by decide) (hw _ m_378) (fun _ h9 => h9) rfl d_OutcomeSet_addRun_33 ?_
  refine va_mmin hx hb (hml.trans hl.1.symm) hown (hw _ m_643) (hw _ m_530) (hw _ m_111) (hw _ m_531) (Nat.le_of_ble_eq_true rfl) (by exact Nat.le_of_ble_eq_true rfl) (by exact Nat.le_refl _) (by exact Nat.le_refl _) d_OutcomeSet_addRun_36 ?_
  refine tp_i (y := nI d) (min_nI hd (by omega) (by omega)) ?_
  refine tp_pc (pc' := 39) (by rfl) ?_
  refine va_iast (D := (dC, dI)) hx hb hK hP (dd_D hD rfl) hS 4 8 rfl rfl (i := nI n) (x := nI d) (pk_in n C2 (by omega)) d_OutcomeSet_addRun_39 ?_
  clear hP hS locs H
  intro H locs hP _ hS
  rw [show (nI n : Int32).toNatClampNeg = n from pk_cl n] at hP
  replace hP : va_P (dC, dI) classes [ia hp kp PL pf, oc h0 3 [.int (nI E), .ref (ad2 1), .ref (ad2 2), .ref (ad2 3), .ref (ad2 4), .ref (ad2 5), .int (nI n2), .int sd, .int rd], la (ad2 1) (ck2 1) C2 rf2, ia (ad2 2) (ck2 2) C2 vf2, ia (ad2 3) (ck2 3) C2 (upd lf2 n (nI d)), ia (ad2 4) (ck2 4) (C2 * E) sf2, ia (ad2 5) (ck2 5) C2 (fun i => nI (of2 i))] H := hP
  refine tp_pc (pc' := 40) (by rfl) ?_
  refine lv_iconst (v := 0) hx hb d_OutcomeSet_addRun_40 (by decide) ?_
  refine lv_istore (lv' := [(7, .int 0), (6, .int (nI n)), (0, .ref h0), (1, .long rk), (3, .int vk), (4, .ref hp), (5, .int (nI d))]) hx hb d_OutcomeSet_addRun_41 hl (by decide) rfl ?_
  clear hl ls
  intro ls hl
  refine lp_n d (fun k H locs ls => ∃ sg : Nat → Int32, va_P (dC, dI) classes [ia hp kp PL pf, oc h0 3 [.int (nI E), .ref (ad2 1), .ref (ad2 2), .ref (ad2 3), .ref (ad2 4), .ref (ad2 5), .int (nI n2), .int sd, .int rd], la (ad2 1) (ck2 1) C2 rf2, ia (ad2 2) (ck2 2) C2 vf2, ia (ad2 3) (ck2 3) C2 (upd lf2 n (nI d)), ia (ad2 4) (ck2 4) (C2 * E) sg, ia (ad2 5) (ck2 5) C2 (fun i => nI (of2 i))] H ∧ va_S A s.heap H locs ∧ lv_has ls 8 [(7, .int (nI k)), (6, .int (nI n)), (0, .ref h0), (1, .long rk), (3, .int vk), (4, .ref hp), (5, .int (nI d))] ∧ (∀ i, i < n * E → sg i = sf2 i) ∧ (∀ j, j < k → sg (n * E + j) = pf j)) ⟨sf2, hP, hS, hl, fun _ _ => rfl, fun j hj => absurd hj (Nat.not_lt_zero j)⟩ ?_ ?_
  · intro k H locs ls hk hI ih
    obtain ⟨sg, hP, hS, hl, g1, g2⟩ := hI
    refine lv_iload hx hb d_OutcomeSet_addRun_43 (lv_at hl 0 rfl) ?_
    refine lv_aload_n hx hb d_OutcomeSet_addRun_45 rfl (lv_at hl 2 rfl) ?_
    refine va_get (D := (dC, dI)) (ci := 3) (v := .ref (ad2 3)) (C := R_OutcomeSet) (T := F_OutcomeSet) (N := 9) hx hb hw i_OutcomeSet hown hK hP 1 rfl rfl 3 (by decide) (hw _ m_381) (fun _ h9 => h9) rfl d_OutcomeSet_addRun_46 ?_
    refine lv_iload hx hb d_OutcomeSet_addRun_49 (lv_at hl 1 rfl) ?_
    refine va_iald (D := (dC, dI)) hx hb hK hP 4 8 rfl rfl (i := nI n) (pk_in n C2 (by omega)) d_OutcomeSet_addRun_51 ?_
    refine tp_i (y := nI d) (by rw [nI_clamp (by omega)]; exact pk_us) ?_
    refine lv_icmp_ge (tgt := 81) hx hb d_OutcomeSet_addRun_52 (by decide) (fun c9 => absurd c9 (nI_ge hk (by omega))) (fun c9 => ?_)
    have hc9 : ¬ (d ≤ k) := fun q9 => c9 ((nI_leI (a := d) (b := k) (by omega) (by omega)).mpr q9)
    refine tp_pc (pc' := 55) (by rfl) ?_
    refine lv_aload_n hx hb d_OutcomeSet_addRun_55 rfl (lv_at hl 2 rfl) ?_
    refine va_get (D := (dC, dI)) (ci := 3) (v := .ref (ad2 4)) (C := R_OutcomeSet) (T := F_OutcomeSet) (N := 9) hx hb hw i_OutcomeSet hown hK hP 1 rfl rfl 4 (by decide) (hw _ m_382) (fun _ h9 => h9) rfl d_OutcomeSet_addRun_56 ?_
    refine lv_iload hx hb d_OutcomeSet_addRun_59 (lv_at hl 1 rfl) ?_
    refine lv_aload_n hx hb d_OutcomeSet_addRun_61 rfl (lv_at hl 2 rfl) ?_
    refine va_get (D := (dC, dI)) (ci := 3) (v := .int (nI E)) (C := R_OutcomeSet) (T := F_OutcomeSet) (N := 9) hx hb hw i_OutcomeSet hown hK hP 1 rfl rfl 0 (by decide) (hw _ m_378) (fun _ h9 => h9) rfl d_OutcomeSet_addRun_62 ?_
    refine lv_imul hx hb d_OutcomeSet_addRun_65 ?_
    refine tp_i (y := nI (n * E)) (by exact pk_mul n E) ?_
    refine lv_iload hx hb d_OutcomeSet_addRun_66 (lv_at hl 0 rfl) ?_
    refine lv_iadd hx hb d_OutcomeSet_addRun_68 ?_
    refine tp_i (y := nI (n * E + k)) (by exact nI_add (n * E) k) ?_
    refine lv_aload hx hb d_OutcomeSet_addRun_69 (lv_at hl 5 rfl) ?_
    refine lv_iload hx hb d_OutcomeSet_addRun_71 (lv_at hl 0 rfl) ?_
    refine va_iald (D := (dC, dI)) hx hb hK hP 0 5 rfl rfl (i := nI k) (pk_in k PL (by omega)) d_OutcomeSet_addRun_73 ?_
    refine tp_i (y := pf k) (by rw [show (nI k : Int32).toNatClampNeg = k from pk_cl k]) ?_
    refine va_iast (D := (dC, dI)) hx hb hK hP (dd_D hD rfl) hS 5 9 rfl rfl (i := nI (n * E + k)) (x := pf k) (pk_in (n * E + k) (C2 * E) (by omega)) d_OutcomeSet_addRun_74 ?_
    clear hP hS locs H
    intro H locs hP _ hS
    rw [show (nI (n * E + k) : Int32).toNatClampNeg = n * E + k from pk_cl (n * E + k)] at hP
    replace hP : va_P (dC, dI) classes [ia hp kp PL pf, oc h0 3 [.int (nI E), .ref (ad2 1), .ref (ad2 2), .ref (ad2 3), .ref (ad2 4), .ref (ad2 5), .int (nI n2), .int sd, .int rd], la (ad2 1) (ck2 1) C2 rf2, ia (ad2 2) (ck2 2) C2 vf2, ia (ad2 3) (ck2 3) C2 (upd lf2 n (nI d)), ia (ad2 4) (ck2 4) (C2 * E) (upd sg (n * E + k) (pf k)), ia (ad2 5) (ck2 5) C2 (fun i => nI (of2 i))] H := hP
    refine tp_pc (pc' := 75) (by rfl) ?_
    refine lv_iinc (v := nI (k + 1)) (lv' := [(7, .int (nI (k + 1))), (6, .int (nI n)), (0, .ref h0), (1, .long rk), (3, .int vk), (4, .ref hp), (5, .int (nI d))]) hx hb d_OutcomeSet_addRun_75 hl (k := 0) rfl (by exact nI_1 k) (by decide) rfl ?_
    clear hl ls
    intro ls hl
    refine lv_goto (tgt := 43) hx hb d_OutcomeSet_addRun_78 (by decide) ?_
    refine tp_pc (pc' := 43) (by rfl) ?_
    exact ih _ _ _ ⟨upd sg (n * E + k) (pf k), hP, hS, lv_sub hl [0, 1, 2, 3, 4, 5, 6] rfl, fun i hi => by rw [pk_un (by omega)]; exact g1 i hi, fun j hj => by by_cases q : j = k; (subst q; exact pk_us); (rw [pk_un (by omega)]; exact g2 j (by omega))⟩
  · intro H locs ls hI
    obtain ⟨sg, hP, hS, hl, g1, g2⟩ := hI
    refine lv_iload hx hb d_OutcomeSet_addRun_43 (lv_at hl 0 rfl) ?_
    refine lv_aload_n hx hb d_OutcomeSet_addRun_45 rfl (lv_at hl 2 rfl) ?_
    refine va_get (D := (dC, dI)) (ci := 3) (v := .ref (ad2 3)) (C := R_OutcomeSet) (T := F_OutcomeSet) (N := 9) hx hb hw i_OutcomeSet hown hK hP 1 rfl rfl 3 (by decide) (hw _ m_381) (fun _ h9 => h9) rfl d_OutcomeSet_addRun_46 ?_
    refine lv_iload hx hb d_OutcomeSet_addRun_49 (lv_at hl 1 rfl) ?_
    refine va_iald (D := (dC, dI)) hx hb hK hP 4 8 rfl rfl (i := nI n) (pk_in n C2 (by omega)) d_OutcomeSet_addRun_51 ?_
    refine tp_i (y := nI d) (by rw [nI_clamp (by omega)]; exact pk_us) ?_
    refine lv_icmp_ge (tgt := 81) hx hb d_OutcomeSet_addRun_52 (by decide) (fun c9 => ?_) (fun c9 => absurd (nI_le (Nat.le_refl d) (by omega)) c9)
    have hc9 : d ≤ d := (nI_leI (a := d) (b := d) (by omega) (by omega)).mp c9
    refine tp_pc (pc' := 81) (by rfl) ?_
    obtain ⟨f6, f7⟩ := f4 hb9
    obtain ⟨hP9, hD9, -⟩ := cut3 (wc := [oc h0 3 [.int (nI E), .ref (ad2 1), .ref (ad2 2), .ref (ad2 3), .ref (ad2 4), .ref (ad2 5), .int (nI n2), .int sd, .int rd], la (ad2 1) (ck2 1) C2 rf2, ia (ad2 2) (ck2 2) C2 vf2, ia (ad2 3) (ck2 3) C2 (upd lf2 n (nI d)), ia (ad2 4) (ck2 4) (C2 * E) sg, ia (ad2 5) (ck2 5) C2 (fun i => nI (of2 i)), ia hp kp PL pf]) hP hD rfl hS hA [1, 2, 3, 4, 5, 6, 0] (by decide +kernel) rfl
    have hK9 := hK.sub (tys' := [((ck2 1), .long), ((ck2 2), .int), ((ck2 3), .int), ((ck2 4), .int), ((ck2 5), .int)]) [6, 7, 8, 9, 10] rfl
    refine W.widen (k := mc) (n := ms) (Nat.le_refl _) (Nat.le_refl _) ?_
    exact W.vret hx hb hr (fun t9 ht9 hW => ⟨⟨(), rfl, trivial, ad2, ck2, rf2, vf2, (upd lf2 n (nI d)), sg, of2, (fun i hi => ⟨(f1 i hi).1, (f1 i hi).2.1, by rw [pk_un (by omega)]; exact (f1 i hi).2.2⟩), (fun i hi => by rw [g1 i hi]; exact f2 i (Nat.lt_of_lt_of_le hi (Nat.mul_le_mul_right E hnC))), ⟨f6, f7⟩, pk_us, g2, f5, by rw [ht9]; exact hP9, va_K.moved hW.alike hK9, hD9⟩, hS.F ht9⟩) hS.2.2 d_OutcomeSet_addRun_81
