set_option maxHeartbeats 4000000 in
set_option maxRecDepth 100000 in
theorem gen_OutcomeSet_add_has (l : Launch) (dC : Nat → ClassId) (dI : Nat → Nat → Nat) (h0 h1 h2 h3 h4 h5 : Nat) (E n C : Nat) (sd rd : Int32) (k1 k2 k3 k4 k5 : ClassId) (rf : Nat → Int64) (vf lf sf : Nat → Int32) (of : Nat → Nat) (rk : Int64) (vk : Int32) (hC : C ≤ 65536) (hnC : n ≤ C) (hof : ∀ i, i < n → of i < n) (hmo : ∀ i j, i ≤ j → j < n → ltK (rf (of j)) (vf (of j)) rk vk → ltK (rf (of i)) (vf (of i)) rk vk) (j : Nat) (hj : j < n) (hsrt : ∀ i j, i < j → j < n → rf (of j) = rk → vf (of j) = vk → ltK (rf (of i)) (vf (of i)) rk vk) (hjr : rf (of j) = rk) (hjv : vf (of j) = vk) (sz : Nat) : Met l y_OutcomeSet_add w_OutcomeSet_add ({ frames := 3, cells := 0, slots := 0, locals := 120 }) (va_Pc [.ref h0, .long rk, .int vk] (fun U => U.heap.size = sz ∧ va_P (dC, dI) classes [oc h0 3 [.int (nI E), .ref h1, .ref h2, .ref h3, .ref h4, .ref h5, .int (nI n), .int sd, .int rd], la h1 k1 C rf, ia h2 k2 C vf, ia h3 k3 C lf, ia h4 k4 (C * E) sf, ia h5 k5 C (fun i => nI (of i))] U.heap ∧ va_K (dC, dI) classes [(k1, .long), (k2, .int), (k3, .int), (k4, .int), (k5, .int)] U ∧ va_D (fun _ => True) [oc h0 3 [.int (nI E), .ref h1, .ref h2, .ref h3, .ref h4, .ref h5, .int (nI n), .int sd, .int rd], la h1 k1 C rf, ia h2 k2 C vf, ia h3 k3 C lf, ia h4 k4 (C * E) sf, ia h5 k5 C (fun i => nI (of i))] ∧ nw U)) (va_Qi (fun (r : Int32) (_ : Unit) => r = 0) (fun _ t9 => va_P (dC, dI) classes [oc h0 3 [.int (nI E), .ref h1, .ref h2, .ref h3, .ref h4, .ref h5, .int (nI n), .int sd, .int rd], la h1 k1 C rf, ia h2 k2 C vf, ia h3 k3 C lf, ia h4 k4 (C * E) sf, ia h5 k5 C (fun i => nI (of i))] t9.heap ∧ va_K (dC, dI) classes [(k1, .long), (k2, .int), (k3, .int), (k4, .int), (k5, .int)] t9 ∧ va_D (va_A [oc h0 3 [.int (nI E), .ref h1, .ref h2, .ref h3, .ref h4, .ref h5, .int (nI n), .int sd, .int rd], la h1 k1 C rf, ia h2 k2 C vf, ia h3 k3 C lf, ia h4 k4 (C * E) sf, ia h5 k5 C (fun i => nI (of i))] sz) [oc h0 3 [.int (nI E), .ref h1, .ref h2, .ref h3, .ref h4, .ref h5, .int (nI n), .int sd, .int rd], la h1 k1 C rf, ia h2 k2 C vf, ia h3 k3 C lf, ia h4 k4 (C * E) sf, ia h5 k5 C (fun i => nI (of i))]) (va_A [oc h0 3 [.int (nI E), .ref h1, .ref h2, .ref h3, .ref h4, .ref h5, .int (nI n), .int sd, .int rd], la h1 k1 C rf, ia h2 k2 C vf, ia h3 k3 C lf, ia h4 k4 (C * E) sf, ia h5 k5 C (fun i => nI (of i))] sz)) 0 0 (va_A [oc h0 3 [.int (nI E), .ref h1, .ref h2, .ref h3, .ref h4, .ref h5, .int (nI n), .int sd, .int rd], la h1 k1 C rf, ia h2 k2 C vf, ia h3 k3 C lf, ia h4 k4 (C * E) sf, ia h5 k5 C (fun i => nI (of i))] sz) := by
  refine Met.ofW (cc := b_OutcomeSet_add) (maxL := 5) (ret := (some .boolean)) (by decide) rfl ?_
  intro p e0 s m args below meth c s₁ B hml hv
  obtain ⟨rfl, hsz, hP, hK, hD0, hn⟩ := hv
  have hx := B.exec
  have hb := B.bytes
  have hr := B.returns
  have hw := fun w (h : w ∈ wt) => atoms_spec (ws := w_OutcomeSet_add) B.pre w (List.mem_cons_of_mem _ h)
  have hown : s.vm.findClass R_OutcomeSet = some m.cls := findClass_of_methodNamed B.named
  have hlocks := B.notSynchronized
  subst hsz
  have hD1 := hD0.self (sz := s.heap.size)
  generalize hAe : va_A [oc h0 3 [.int (nI E), .ref h1, .ref h2, .ref h3, .ref h4, .ref h5, .int (nI n), .int sd, .int rd], la h1 k1 C rf, ia h2 k2 C vf, ia h3 k3 C lf, ia h4 k4 (C * E) sf, ia h5 k5 C (fun i => nI (of i))] s.heap.size = A at hD1 ⊢
  have hA : ∀ q : Nat, s.heap.size ≤ q → A q := fun q h => by rw [← hAe]; exact Or.inr h
  have hD : dd A [h0, h1, h2, h3, h4, h5] := dd_of hD1 rfl
  clear hAe hD0 hD1
  have hS : va_S A s.heap s.heap [] := va_S.rf
  replace hP : va_P (dC, dI) classes [oc h0 3 [.int (nI E), .ref h1, .ref h2, .ref h3, .ref h4, .ref h5, .int (nI n), .int sd, .int rd], la h1 k1 C rf, ia h2 k2 C vf, ia h3 k3 C lf, ia h4 k4 (C * E) sf, ia h5 k5 C (fun i => nI (of i))] s.heap := hP
  have hl := lv_entry ([.ref h0, .long rk, .int vk]) (n := 5) (Nat.le_of_ble_eq_true rfl)
  rw [lg_entry_eq]
  generalize (lg_sl ([.ref h0, .long rk, .int vk]) ++ List.replicate (5 - (lg_sl ([.ref h0, .long rk, .int vk])).length) Slot.unset).toArray = ls at hl ⊢
  replace hl : lv_has ls 5 [(0, .ref h0), (1, .long rk), (3, .int vk)] := hl
  refine lv_aload_n hx hb d_OutcomeSet_add_0 rfl (lv_at hl 0 rfl) ?_
  refine lv_lload_n hx hb d_OutcomeSet_add_1 rfl (lv_at hl 1 rfl) ?_
  refine lv_iload_n hx hb d_OutcomeSet_add_2 rfl (lv_at hl 2 rfl) ?_
  obtain ⟨hPc, hDc, hFc⟩ := cut3 (wc := [oc h0 3 [.int (nI E), .ref h1, .ref h2, .ref h3, .ref h4, .ref h5, .int (nI n), .int sd, .int rd], la h1 k1 C rf, ia h2 k2 C vf, ia h5 k5 C (fun i => nI (of i))]) hP hD rfl hS hA [0, 1, 2, 5] (by decide +kernel) rfl
  have hKc := hK.sub (tys' := [(k1, .long), (k2, .int), (k5, .int)]) [0, 1, 4] rfl
  refine va_calli (va_runV (As := [.long rk, .int vk]) (rest := []) ⟨hx, hb, hml, hown, hw⟩ (gen_OutcomeSet_firstNotLess l dC dI h0 h1 h2 h3 h4 h5 E n C sd rd k1 k2 k5 rf vf of rk vk (by omega) hnC hof hmo s.heap.size) (cw_V 2 hw g_OutcomeSet_firstNotLess rfl rfl rfl (hw _ m_108) (hw _ m_620) (hw _ m_622) (hw _ m_17) (by decide +kernel) ⟨Nat.le_of_ble_eq_true rfl, Nat.le_of_ble_eq_true rfl⟩) ⟨fun a U g mk q => by obtain ⟨q0, q1, qP, qK, qD, qN⟩ := q; exact ⟨q0, q1, qP, va_K.moved (u := U) (U := U.calling g mk a) (Vm.Alike.refl U.vm) qK, qD, nw_call qN⟩, va_recv hKc hPc (ci := 3) (q0 := 0) rfl rfl, fun U hU hW => ⟨rfl, by rw [hU], by rw [hU]; exact hPc, va_K.moved hW.alike hKc, hDc.weaken (fun _ _ _ _ => trivial), nw_warm hW hn⟩⟩ rfl rfl hl.1 rfl (lv_room (Nat.le_of_ble_eq_true rfl)) d_OutcomeSet_add_3 ⟨Nat.zero_le _, Nat.zero_le _⟩) hS (fun q _ h => hFc q h) hFc ?_
  intro r_1 u t9 H1 locs1 ht9 hvm hw1 hB hz1 hk1 hS1
  obtain ⟨hP1, hK1, hD1⟩ := hB
  rw [ht9] at hP1
  replace hK1 := va_K.moved hvm.symm hK1
  have hPD := join3 hP hD rfl [0, 1, 2, 5] [3, 4] rfl (by rfl) (by decide +kernel) (by decide +kernel) hk1 hFc hP1 hD1
  replace hK : va_K (dC, dI) classes [(k1, .long), (k2, .int), (k3, .int), (k4, .int), (k5, .int)] s := hK.app hK1
  clear hP1 hK1 hD1 hk1 hz1 hFc hKc hDc hPc hvm ht9 hP hS t9
  have hP : va_P (dC, dI) classes [ia h3 k3 C lf, ia h4 k4 (C * E) sf, oc h0 3 [.int (nI E), .ref h1, .ref h2, .ref h3, .ref h4, .ref h5, .int (nI n), .int sd, .int rd], la h1 k1 C rf, ia h2 k2 C vf, ia h5 k5 C (fun i => nI (of i))] H1 := hPD.1
  replace hD : dd A [h3, h4, h0, h1, h2, h5] := dd_of hPD.2 rfl
  clear hPD
  revert H1 locs1
  intro H locs hS hP
  obtain ⟨p, hrp, hp1, hp2, hp3⟩ := hw1
  refine tp_i (y := nI p) (hrp) ?_
  clear hrp
  refine tp_pc (pc' := 6) (by rfl) ?_
  refine lv_istore (lv' := [(4, .int (nI p)), (0, .ref h0), (1, .long rk), (3, .int vk)]) hx hb d_OutcomeSet_add_6 hl (by decide) rfl ?_
  clear hl ls
  intro ls hl
  refine lv_aload_n hx hb d_OutcomeSet_add_8 rfl (lv_at hl 1 rfl) ?_
  refine lv_iload hx hb d_OutcomeSet_add_9 (lv_at hl 0 rfl) ?_
  refine lv_lload_n hx hb d_OutcomeSet_add_11 rfl (lv_at hl 2 rfl) ?_
  refine lv_iload_n hx hb d_OutcomeSet_add_12 rfl (lv_at hl 3 rfl) ?_
  obtain ⟨hPc, hDc, hFc⟩ := cut3 (wc := [oc h0 3 [.int (nI E), .ref h1, .ref h2, .ref h3, .ref h4, .ref h5, .int (nI n), .int sd, .int rd], la h1 k1 C rf, ia h2 k2 C vf, ia h5 k5 C (fun i => nI (of i))]) hP hD rfl hS hA [2, 3, 4, 5] (by decide +kernel) rfl
  have hKc := hK.sub (tys' := [(k1, .long), (k2, .int), (k5, .int)]) [0, 1, 4] rfl
  refine va_calli (va_runV (As := [.int (nI p), .long rk, .int vk]) (rest := []) ⟨hx, hb, hml, hown, hw⟩ (gen_OutcomeSet_isAt l dC dI h0 h1 h2 h3 h4 h5 E n C sd rd k1 k2 k5 rf vf of rk vk p (by omega) hnC hof hp1 H.size) (cw_V 3 hw g_OutcomeSet_isAt rfl rfl rfl (hw _ m_108) (hw _ m_624) (hw _ m_626) (hw _ m_18) (by decide +kernel) ⟨Nat.le_of_ble_eq_true rfl, Nat.le_of_ble_eq_true rfl⟩) ⟨fun a U g mk q => by obtain ⟨q0, q1, qP, qK, qD, qN⟩ := q; exact ⟨q0, q1, qP, va_K.moved (u := U) (U := U.calling g mk a) (Vm.Alike.refl U.vm) qK, qD, nw_call qN⟩, va_recv hKc hPc (ci := 3) (q0 := 0) rfl rfl, fun U hU hW => ⟨rfl, by rw [hU], by rw [hU]; exact hPc, va_K.moved hW.alike hKc, hDc.weaken (fun _ _ _ _ => trivial), nw_warm hW hn⟩⟩ rfl rfl hl.1 rfl (lv_room (Nat.le_of_ble_eq_true rfl)) d_OutcomeSet_add_13 ⟨Nat.zero_le _, Nat.zero_le _⟩) hS (fun q _ h => hFc q h) hFc ?_
  intro r_2 u t9 H1 locs1 ht9 hvm hw1 hB hz1 hk1 hS1
  obtain ⟨hP1, hK1, hD1⟩ := hB
  rw [ht9] at hP1
  replace hK1 := va_K.moved hvm.symm hK1
  have hPD := join3 hP hD rfl [2, 3, 4, 5] [0, 1] rfl (by rfl) (by decide +kernel) (by decide +kernel) hk1 hFc hP1 hD1
  replace hK : va_K (dC, dI) classes [(k1, .long), (k2, .int), (k3, .int), (k4, .int), (k5, .int)] s := hK.app hK1
  clear hP1 hK1 hD1 hk1 hz1 hFc hKc hDc hPc hvm ht9 hP hS t9 locs H
  have hP : va_P (dC, dI) classes [ia h3 k3 C lf, ia h4 k4 (C * E) sf, oc h0 3 [.int (nI E), .ref h1, .ref h2, .ref h3, .ref h4, .ref h5, .int (nI n), .int sd, .int rd], la h1 k1 C rf, ia h2 k2 C vf, ia h5 k5 C (fun i => nI (of i))] H1 := hPD.1
  replace hD : dd A [h3, h4, h0, h1, h2, h5] := dd_of hPD.2 rfl
  clear hPD
  revert H1 locs1
  intro H locs hS hP
  have hpj : p = j := by
    have nl : ¬ ltK (rf (of j)) (vf (of j)) rk vk := by rw [hjr, hjv]; exact fun q => q.elim (fun q => Int64.lt_irrefl q) (fun q => Int32.lt_irrefl q.2)
    rcases Nat.lt_trichotomy p j with q | q | q
    · exact absurd (hsrt p j q hj hjr hjv) (hp3 p (Nat.le_refl _) (by omega))
    · exact q
    · exact absurd (hp2 j q) nl
  have hr1 : r_2 = 1 := by rcases hw1 with q | q; (exact q.1); (exact absurd ⟨by omega, by rw [hpj]; exact hjr, by rw [hpj]; exact hjv⟩ q.2)
  refine tp_i (y := 1) hr1 ?_
  refine tp_pc (pc' := 16) (by rfl) ?_
  refine lv_if_eq (tgt := 21) hx hb d_OutcomeSet_add_16 (by decide) (fun c_3 => absurd c_3 (by decide)) (fun c_3 => ?_)
  refine tp_pc (pc' := 19) (by rfl) ?_
  refine lv_iconst (v := 0) hx hb d_OutcomeSet_add_19 (by decide) ?_
  obtain ⟨hP9, hD9, -⟩ := cut3 (wc := [oc h0 3 [.int (nI E), .ref h1, .ref h2, .ref h3, .ref h4, .ref h5, .int (nI n), .int sd, .int rd], la h1 k1 C rf, ia h2 k2 C vf, ia h3 k3 C lf, ia h4 k4 (C * E) sf, ia h5 k5 C (fun i => nI (of i))]) hP hD rfl hS hA [2, 3, 4, 0, 1, 5] (by decide +kernel) rfl
  have hK9 := hK.sub (tys' := [(k1, .long), (k2, .int), (k3, .int), (k4, .int), (k5, .int)]) [0, 1, 2, 3, 4] rfl
  refine W.widen (k := 0) (n := 0) (by exact Nat.le_of_ble_eq_true rfl) (by exact Nat.le_of_ble_eq_true rfl) ?_
  exact W.zret (v := 0) (ty := .boolean) hx hb hr (by decide) (fun t9 ht9 hW => ⟨⟨0, (), rfl, rfl, by rw [ht9]; exact hP9, va_K.moved hW.alike hK9, hD9⟩, hS.F ht9⟩) hS.2.2 d_OutcomeSet_add_20
set_option maxHeartbeats 4000000 in
set_option maxRecDepth 100000 in
theorem gen_OutcomeSet_add_keep (l : Launch) (dC : Nat → ClassId) (dI : Nat → Nat → Nat) (h0 h1 h2 h3 h4 h5 : Nat) (E n C : Nat) (sd rd : Int32) (k1 k2 k3 k4 k5 : ClassId) (rf : Nat → Int64) (vf lf sf : Nat → Int32) (of : Nat → Nat) (rk : Int64) (vk : Int32) (hC : C ≤ 65536) (hnC : n ≤ C) (hof : ∀ i, i < n → of i < n) (hmo : ∀ i j, i ≤ j → j < n → ltK (rf (of j)) (vf (of j)) rk vk → ltK (rf (of i)) (vf (of i)) rk vk) (hnn : n < C) (hno : ∀ i, i < n → ¬ (rf (of i) = rk ∧ vf (of i) = vk)) (sz : Nat) : Met l y_OutcomeSet_add w_OutcomeSet_add ({ frames := 3, cells := 0, slots := 0, locals := 120 }) (va_Pc [.ref h0, .long rk, .int vk] (fun U => U.heap.size = sz ∧ va_P (dC, dI) classes [oc h0 3 [.int (nI E), .ref h1, .ref h2, .ref h3, .ref h4, .ref h5, .int (nI n), .int sd, .int rd], la h1 k1 C rf, ia h2 k2 C vf, ia h3 k3 C lf, ia h4 k4 (C * E) sf, ia h5 k5 C (fun i => nI (of i))] U.heap ∧ va_K (dC, dI) classes [(k1, .long), (k2, .int), (k3, .int), (k4, .int), (k5, .int)] U ∧ va_D (fun _ => True) [oc h0 3 [.int (nI E), .ref h1, .ref h2, .ref h3, .ref h4, .ref h5, .int (nI n), .int sd, .int rd], la h1 k1 C rf, ia h2 k2 C vf, ia h3 k3 C lf, ia h4 k4 (C * E) sf, ia h5 k5 C (fun i => nI (of i))] ∧ nw U)) (va_Qi (fun (r : Int32) (_ : Unit) => r = 1) (fun _ t9 => ∃ (rf2 : Nat → Int64) (vf2 lf2 sf2 : Nat → Int32) (of2 : Nat → Nat), (∀ i, i < n → rf2 i = rf i ∧ vf2 i = vf i ∧ lf2 i = lf i) ∧ rf2 n = rk ∧ vf2 n = vk ∧ (∀ i, i < C * E → sf2 i = sf i) ∧ (∃ p, p ≤ n ∧ (∀ i, i < p → ltK (rf (of i)) (vf (of i)) rk vk ∧ of2 i = of i) ∧ of2 p = n ∧ (∀ i, p ≤ i → i < n → ¬ ltK (rf (of i)) (vf (of i)) rk vk ∧ of2 (i + 1) = of i)) ∧ va_P (dC, dI) classes [oc h0 3 [.int (nI E), .ref h1, .ref h2, .ref h3, .ref h4, .ref h5, .int (nI (n + 1)), .int sd, .int rd], la h1 k1 C rf2, ia h2 k2 C vf2, ia h3 k3 C lf2, ia h4 k4 (C * E) sf2, ia h5 k5 C (fun i => nI (of2 i))] t9.heap ∧ va_K (dC, dI) classes [(k1, .long), (k2, .int), (k3, .int), (k4, .int), (k5, .int)] t9 ∧ va_D (va_A [oc h0 3 [.int (nI E), .ref h1, .ref h2, .ref h3, .ref h4, .ref h5, .int (nI n), .int sd, .int rd], la h1 k1 C rf, ia h2 k2 C vf, ia h3 k3 C lf, ia h4 k4 (C * E) sf, ia h5 k5 C (fun i => nI (of i))] sz) [oc h0 3 [.int (nI E), .ref h1, .ref h2, .ref h3, .ref h4, .ref h5, .int (nI (n + 1)), .int sd, .int rd], la h1 k1 C rf2, ia h2 k2 C vf2, ia h3 k3 C lf2, ia h4 k4 (C * E) sf2, ia h5 k5 C (fun i => nI (of2 i))]) (va_A [oc h0 3 [.int (nI E), .ref h1, .ref h2, .ref h3, .ref h4, .ref h5, .int (nI n), .int sd, .int rd], la h1 k1 C rf, ia h2 k2 C vf, ia h3 k3 C lf, ia h4 k4 (C * E) sf, ia h5 k5 C (fun i => nI (of i))] sz)) 0 0 (va_A [oc h0 3 [.int (nI E), .ref h1, .ref h2, .ref h3, .ref h4, .ref h5, .int (nI n), .int sd, .int rd], la h1 k1 C rf, ia h2 k2 C vf, ia h3 k3 C lf, ia h4 k4 (C * E) sf, ia h5 k5 C (fun i => nI (of i))] sz) := by
  refine Met.ofW (cc := b_OutcomeSet_add) (maxL := 5) (ret := (some .boolean)) (by decide) rfl ?_
  intro p e0 s m args below meth c s₁ B hml hv
  obtain ⟨rfl, hsz, hP, hK, hD0, hn⟩ := hv
  have hx := B.exec
  have hb := B.bytes
  have hr := B.returns
  have hw := fun w (h : w ∈ wt) => atoms_spec (ws := w_OutcomeSet_add) B.pre w (List.mem_cons_of_mem _ h)
  have hown : s.vm.findClass R_OutcomeSet = some m.cls := findClass_of_methodNamed B.named
  have hlocks := B.notSynchronized
  subst hsz
  have hD1 := hD0.self (sz := s.heap.size)
  generalize hAe : va_A [oc h0 3 [.int (nI E), .ref h1, .ref h2, .ref h3, .ref h4, .ref h5, .int (nI n), .int sd, .int rd], la h1 k1 C rf, ia h2 k2 C vf, ia h3 k3 C lf, ia h4 k4 (C * E) sf, ia h5 k5 C (fun i => nI (of i))] s.heap.size = A at hD1 ⊢
  have hA : ∀ q : Nat, s.heap.size ≤ q → A q := fun q h => by rw [← hAe]; exact Or.inr h
  have hD : dd A [h0, h1, h2, h3, h4, h5] := dd_of hD1 rfl
  clear hAe hD0 hD1
  have hS : va_S A s.heap s.heap [] := va_S.rf
  replace hP : va_P (dC, dI) classes [oc h0 3 [.int (nI E), .ref h1, .ref h2, .ref h3, .ref h4, .ref h5, .int (nI n), .int sd, .int rd], la h1 k1 C rf, ia h2 k2 C vf, ia h3 k3 C lf, ia h4 k4 (C * E) sf, ia h5 k5 C (fun i => nI (of i))] s.heap := hP
  have hl := lv_entry ([.ref h0, .long rk, .int vk]) (n := 5) (Nat.le_of_ble_eq_true rfl)
  rw [lg_entry_eq]
  generalize (lg_sl ([.ref h0, .long rk, .int vk]) ++ List.replicate (5 - (lg_sl ([.ref h0, .long rk, .int vk])).length) Slot.unset).toArray = ls at hl ⊢
  replace hl : lv_has ls 5 [(0, .ref h0), (1, .long rk), (3, .int vk)] := hl
  refine lv_aload_n hx hb d_OutcomeSet_add_0 rfl (lv_at hl 0 rfl) ?_
  refine lv_lload_n hx hb d_OutcomeSet_add_1 rfl (lv_at hl 1 rfl) ?_
  refine lv_iload_n hx hb d_OutcomeSet_add_2 rfl (lv_at hl 2 rfl) ?_
  obtain ⟨hPc, hDc, hFc⟩ := cut3 (wc := [oc h0 3 [.int (nI E), .ref h1, .ref h2, .ref h3, .ref h4, .ref h5, .int (nI n), .int sd, .int rd], la h1 k1 C rf, ia h2 k2 C vf, ia h5 k5 C (fun i => nI (of i))]) hP hD rfl hS hA [0, 1, 2, 5] (by decide +kernel) rfl
  have hKc := hK.sub (tys' := [(k1, .long), (k2, .int), (k5, .int)]) [0, 1, 4] rfl
  refine va_calli (va_runV (As := [.long rk, .int vk]) (rest := []) ⟨hx, hb, hml, hown, hw⟩ (gen_OutcomeSet_firstNotLess l dC dI h0 h1 h2 h3 h4 h5 E n C sd rd k1 k2 k5 rf vf of rk vk (by omega) hnC hof hmo s.heap.size) (cw_V 2 hw g_OutcomeSet_firstNotLess rfl rfl rfl (hw _ m_108) (hw _ m_620) (hw _ m_622) (hw _ m_17) (by decide +kernel) ⟨Nat.le_of_ble_eq_true rfl, Nat.le_of_ble_eq_true rfl⟩) ⟨fun a U g mk q => by obtain ⟨q0, q1, qP, qK, qD, qN⟩ := q; exact ⟨q0, q1, qP, va_K.moved (u := U) (U := U.calling g mk a) (Vm.Alike.refl U.vm) qK, qD, nw_call qN⟩, va_recv hKc hPc (ci := 3) (q0 := 0) rfl rfl, fun U hU hW => ⟨rfl, by rw [hU], by rw [hU]; exact hPc, va_K.moved hW.alike hKc, hDc.weaken (fun _ _ _ _ => trivial), nw_warm hW hn⟩⟩ rfl rfl hl.1 rfl (lv_room (Nat.le_of_ble_eq_true rfl)) d_OutcomeSet_add_3 ⟨Nat.zero_le _, Nat.zero_le _⟩) hS (fun q _ h => hFc q h) hFc ?_
  intro r_1 u t9 H1 locs1 ht9 hvm hw1 hB hz1 hk1 hS1
  obtain ⟨hP1, hK1, hD1⟩ := hB
  rw [ht9] at hP1
  replace hK1 := va_K.moved hvm.symm hK1
  have hPD := join3 hP hD rfl [0, 1, 2, 5] [3, 4] rfl (by rfl) (by decide +kernel) (by decide +kernel) hk1 hFc hP1 hD1
  replace hK : va_K (dC, dI) classes [(k1, .long), (k2, .int), (k3, .int), (k4, .int), (k5, .int)] s := hK.app hK1
  clear hP1 hK1 hD1 hk1 hz1 hFc hKc hDc hPc hvm ht9 hP hS t9
  have hP : va_P (dC, dI) classes [ia h3 k3 C lf, ia h4 k4 (C * E) sf, oc h0 3 [.int (nI E), .ref h1, .ref h2, .ref h3, .ref h4, .ref h5, .int (nI n), .int sd, .int rd], la h1 k1 C rf, ia h2 k2 C vf, ia h5 k5 C (fun i => nI (of i))] H1 := hPD.1
  replace hD : dd A [h3, h4, h0, h1, h2, h5] := dd_of hPD.2 rfl
  clear hPD
  revert H1 locs1
  intro H locs hS hP
  obtain ⟨p, hrp, hp1, hp2, hp3⟩ := hw1
  refine tp_i (y := nI p) (hrp) ?_
  clear hrp
  refine tp_pc (pc' := 6) (by rfl) ?_
  refine lv_istore (lv' := [(4, .int (nI p)), (0, .ref h0), (1, .long rk), (3, .int vk)]) hx hb d_OutcomeSet_add_6 hl (by decide) rfl ?_
  clear hl ls
  intro ls hl
  refine lv_aload_n hx hb d_OutcomeSet_add_8 rfl (lv_at hl 1 rfl) ?_
  refine lv_iload hx hb d_OutcomeSet_add_9 (lv_at hl 0 rfl) ?_
  refine lv_lload_n hx hb d_OutcomeSet_add_11 rfl (lv_at hl 2 rfl) ?_
  refine lv_iload_n hx hb d_OutcomeSet_add_12 rfl (lv_at hl 3 rfl) ?_
  obtain ⟨hPc, hDc, hFc⟩ := cut3 (wc := [oc h0 3 [.int (nI E), .ref h1, .ref h2, .ref h3, .ref h4, .ref h5, .int (nI n), .int sd, .int rd], la h1 k1 C rf, ia h2 k2 C vf, ia h5 k5 C (fun i => nI (of i))]) hP hD rfl hS hA [2, 3, 4, 5] (by decide +kernel) rfl
  have hKc := hK.sub (tys' := [(k1, .long), (k2, .int), (k5, .int)]) [0, 1, 4] rfl
  refine va_calli (va_runV (As := [.int (nI p), .long rk, .int vk]) (rest := []) ⟨hx, hb, hml, hown, hw⟩ (gen_OutcomeSet_isAt l dC dI h0 h1 h2 h3 h4 h5 E n C sd rd k1 k2 k5 rf vf of rk vk p (by omega) hnC hof hp1 H.size) (cw_V 3 hw g_OutcomeSet_isAt rfl rfl rfl (hw _ m_108) (hw _ m_624) (hw _ m_626) (hw _ m_18) (by decide +kernel) ⟨Nat.le_of_ble_eq_true rfl, Nat.le_of_ble_eq_true rfl⟩) ⟨fun a U g mk q => by obtain ⟨q0, q1, qP, qK, qD, qN⟩ := q; exact ⟨q0, q1, qP, va_K.moved (u := U) (U := U.calling g mk a) (Vm.Alike.refl U.vm) qK, qD, nw_call qN⟩, va_recv hKc hPc (ci := 3) (q0 := 0) rfl rfl, fun U hU hW => ⟨rfl, by rw [hU], by rw [hU]; exact hPc, va_K.moved hW.alike hKc, hDc.weaken (fun _ _ _ _ => trivial), nw_warm hW hn⟩⟩ rfl rfl hl.1 rfl (lv_room (Nat.le_of_ble_eq_true rfl)) d_OutcomeSet_add_13 ⟨Nat.zero_le _, Nat.zero_le _⟩) hS (fun q _ h => hFc q h) hFc ?_
  intro r_2 u t9 H1 locs1 ht9 hvm hw1 hB hz1 hk1 hS1
  obtain ⟨hP1, hK1, hD1⟩ := hB
  rw [ht9] at hP1
  replace hK1 := va_K.moved hvm.symm hK1
  have hPD := join3 hP hD rfl [2, 3, 4, 5] [0, 1] rfl (by rfl) (by decide +kernel) (by decide +kernel) hk1 hFc hP1 hD1
  replace hK : va_K (dC, dI) classes [(k1, .long), (k2, .int), (k3, .int), (k4, .int), (k5, .int)] s := hK.app hK1
  clear hP1 hK1 hD1 hk1 hz1 hFc hKc hDc hPc hvm ht9 hP hS t9 locs H
  have hP : va_P (dC, dI) classes [ia h3 k3 C lf, ia h4 k4 (C * E) sf, oc h0 3 [.int (nI E), .ref h1, .ref h2, .ref h3, .ref h4, .ref h5, .int (nI n), .int sd, .int rd], la h1 k1 C rf, ia h2 k2 C vf, ia h5 k5 C (fun i => nI (of i))] H1 := hPD.1
  replace hD : dd A [h3, h4, h0, h1, h2, h5] := dd_of hPD.2 rfl
  clear hPD
  revert H1 locs1
  intro H locs hS hP
  have hr1 : r_2 = 0 := by rcases hw1 with q | q; (exact absurd q.2.2 (hno p q.2.1)); (exact q.1)
  refine tp_i (y := 0) hr1 ?_
  refine tp_pc (pc' := 16) (by rfl) ?_
  refine lv_if_eq (tgt := 21) hx hb d_OutcomeSet_add_16 (by decide) (fun c_3 => ?_) (fun c_3 => absurd c_3 (by decide))
  refine tp_pc (pc' := 21) (by rfl) ?_
  refine lv_aload_n hx hb d_OutcomeSet_add_21 rfl (lv_at hl 1 rfl) ?_
  refine va_get (D := (dC, dI)) (ci := 3) (v := .int (nI n)) (C := R_OutcomeSet) (T := F_OutcomeSet) (N := 9) hx hb hw i_OutcomeSet hown hK hP 2 rfl rfl 6 (by decide) (hw _ m_384) (fun _ h9 => h9) rfl d_OutcomeSet_add_22 ?_
  refine lv_aload_n hx hb d_OutcomeSet_add_25 rfl (lv_at hl 1 rfl) ?_
  refine va_get (D := (dC, dI)) (ci := 3) (v := .ref h5) (C := R_OutcomeSet) (T := F_OutcomeSet) (N := 9) hx hb hw i_OutcomeSet hown hK hP 2 rfl rfl 5 (by decide) (hw _ m_383) (fun _ h9 => h9) rfl d_OutcomeSet_add_26 ?_
  refine va_alen (D := (dC, dI)) hx hb hK hP 5 4 rfl rfl (v := nI C) (by rfl) d_OutcomeSet_add_29 ?_
  refine lv_icmp_lt (tgt := 37) hx hb d_OutcomeSet_add_30 (by decide) (fun c9 => ?_) (fun c9 => absurd ((nI_ltI (a := n) (b := C) (by omega) (by omega)).mpr hnn) c9)
  have hc9 : n < C := (nI_ltI (a := n) (b := C) (by omega) (by omega)).mp c9
  refine tp_pc (pc' := 37) (by rfl) ?_
  refine lv_aload_n hx hb d_OutcomeSet_add_37 rfl (lv_at hl 1 rfl) ?_
  refine va_get (D := (dC, dI)) (ci := 3) (v := .ref h1) (C := R_OutcomeSet) (T := F_OutcomeSet) (N := 9) hx hb hw i_OutcomeSet hown hK hP 2 rfl rfl 1 (by decide) (hw _ m_379) (fun _ h9 => h9) rfl d_OutcomeSet_add_38 ?_
  refine lv_aload_n hx hb d_OutcomeSet_add_41 rfl (lv_at hl 1 rfl) ?_
  refine va_get (D := (dC, dI)) (ci := 3) (v := .int (nI n)) (C := R_OutcomeSet) (T := F_OutcomeSet) (N := 9) hx hb hw i_OutcomeSet hown hK hP 2 rfl rfl 6 (by decide) (hw _ m_384) (fun _ h9 => h9) rfl d_OutcomeSet_add_42 ?_
  refine lv_lload_n hx hb d_OutcomeSet_add_45 rfl (lv_at hl 2 rfl) ?_
  refine va_last (D := (dC, dI)) hx hb hK hP (dd_D hD rfl) hS 3 0 rfl rfl (i := nI n) (x := rk) (pk_in n C (by omega)) d_OutcomeSet_add_46 ?_
  clear hP hS locs H
  intro H locs hP _ hS
  rw [show (nI n : Int32).toNatClampNeg = n from pk_cl n] at hP
  replace hP : va_P (dC, dI) classes [ia h3 k3 C lf, ia h4 k4 (C * E) sf, oc h0 3 [.int (nI E), .ref h1, .ref h2, .ref h3, .ref h4, .ref h5, .int (nI n), .int sd, .int rd], la h1 k1 C (vp_updL rf n rk), ia h2 k2 C vf, ia h5 k5 C (fun i => nI (of i))] H := hP
  refine tp_pc (pc' := 47) (by rfl) ?_
  refine lv_aload_n hx hb d_OutcomeSet_add_47 rfl (lv_at hl 1 rfl) ?_
  refine va_get (D := (dC, dI)) (ci := 3) (v := .ref h2) (C := R_OutcomeSet) (T := F_OutcomeSet) (N := 9) hx hb hw i_OutcomeSet hown hK hP 2 rfl rfl 2 (by decide) (hw _ m_380) (fun _ h9 => h9) rfl d_OutcomeSet_add_48 ?_
  refine lv_aload_n hx hb d_OutcomeSet_add_51 rfl (lv_at hl 1 rfl) ?_
  refine va_get (D := (dC, dI)) (ci := 3) (v := .int (nI n)) (C := R_OutcomeSet) (T := F_OutcomeSet) (N := 9) hx hb hw i_OutcomeSet hown hK hP 2 rfl rfl 6 (by decide) (hw _ m_384) (fun _ h9 => h9) rfl d_OutcomeSet_add_52 ?_
  refine lv_iload_n hx hb d_OutcomeSet_add_55 rfl (lv_at hl 3 rfl) ?_
  refine va_iast (D := (dC, dI)) hx hb hK hP (dd_D hD rfl) hS 4 1 rfl rfl (i := nI n) (x := vk) (pk_in n C (by omega)) d_OutcomeSet_add_56 ?_
  clear hP hS locs H
  intro H locs hP _ hS
  rw [show (nI n : Int32).toNatClampNeg = n from pk_cl n] at hP
  replace hP : va_P (dC, dI) classes [ia h3 k3 C lf, ia h4 k4 (C * E) sf, oc h0 3 [.int (nI E), .ref h1, .ref h2, .ref h3, .ref h4, .ref h5, .int (nI n), .int sd, .int rd], la h1 k1 C (vp_updL rf n rk), ia h2 k2 C (upd vf n vk), ia h5 k5 C (fun i => nI (of i))] H := hP
  refine tp_pc (pc' := 57) (by rfl) ?_
  refine lv_aload_n hx hb d_OutcomeSet_add_57 rfl (lv_at hl 1 rfl) ?_
  refine va_get (D := (dC, dI)) (ci := 3) (v := .ref h3) (C := R_OutcomeSet) (T := F_OutcomeSet) (N := 9) hx hb hw i_OutcomeSet hown hK hP 2 rfl rfl 3 (by decide) (hw _ m_381) (fun _ h9 => h9) rfl d_OutcomeSet_add_58 ?_
  refine lv_aload_n hx hb d_OutcomeSet_add_61 rfl (lv_at hl 1 rfl) ?_
  refine va_get (D := (dC, dI)) (ci := 3) (v := .int (nI n)) (C := R_OutcomeSet) (T := F_OutcomeSet) (N := 9) hx hb hw i_OutcomeSet hown hK hP 2 rfl rfl 6 (by decide) (hw _ m_384) (fun _ h9 => h9) rfl d_OutcomeSet_add_62 ?_
  refine lv_iconst (v := 0) hx hb d_OutcomeSet_add_65 (by decide) ?_
  refine va_iast (D := (dC, dI)) hx hb hK hP (dd_D hD rfl) hS 0 2 rfl rfl (i := nI n) (x := 0) (pk_in n C (by omega)) d_OutcomeSet_add_66 ?_
  clear hP hS locs H
  intro H locs hP _ hS
  rw [show (nI n : Int32).toNatClampNeg = n from pk_cl n] at hP
  replace hP : va_P (dC, dI) classes [ia h3 k3 C (upd lf n 0), ia h4 k4 (C * E) sf, oc h0 3 [.int (nI E), .ref h1, .ref h2, .ref h3, .ref h4, .ref h5, .int (nI n), .int sd, .int rd], la h1 k1 C (vp_updL rf n rk), ia h2 k2 C (upd vf n vk), ia h5 k5 C (fun i => nI (of i))] H := hP
  refine tp_pc (pc' := 67) (by rfl) ?_
  refine lv_aload_n hx hb d_OutcomeSet_add_67 rfl (lv_at hl 1 rfl) ?_
  refine va_get (D := (dC, dI)) (ci := 3) (v := .ref h5) (C := R_OutcomeSet) (T := F_OutcomeSet) (N := 9) hx hb hw i_OutcomeSet hown hK hP 2 rfl rfl 5 (by decide) (hw _ m_383) (fun _ h9 => h9) rfl d_OutcomeSet_add_68 ?_
  refine lv_iload hx hb d_OutcomeSet_add_71 (lv_at hl 0 rfl) ?_
  refine lv_aload_n hx hb d_OutcomeSet_add_73 rfl (lv_at hl 1 rfl) ?_
  refine va_get (D := (dC, dI)) (ci := 3) (v := .ref h5) (C := R_OutcomeSet) (T := F_OutcomeSet) (N := 9) hx hb hw i_OutcomeSet hown hK hP 2 rfl rfl 5 (by decide) (hw _ m_383) (fun _ h9 => h9) rfl d_OutcomeSet_add_74 ?_
  refine lv_iload hx hb d_OutcomeSet_add_77 (lv_at hl 0 rfl) ?_
  refine lv_iconst (v := 1) hx hb d_OutcomeSet_add_79 (by decide) ?_
  refine lv_iadd hx hb d_OutcomeSet_add_80 ?_
  refine tp_i (y := nI (p + 1)) (by exact nI_add p 1) ?_
  refine lv_aload_n hx hb d_OutcomeSet_add_81 rfl (lv_at hl 1 rfl) ?_
  refine va_get (D := (dC, dI)) (ci := 3) (v := .int (nI n)) (C := R_OutcomeSet) (T := F_OutcomeSet) (N := 9) hx hb hw i_OutcomeSet hown hK hP 2 rfl rfl 6 (by decide) (hw _ m_384) (fun _ h9 => h9) rfl d_OutcomeSet_add_82 ?_
  refine lv_iload hx hb d_OutcomeSet_add_85 (lv_at hl 0 rfl) ?_
  refine lv_isub hx hb d_OutcomeSet_add_87 ?_
  refine tp_i (y := nI (n - p)) (by exact pk_sub (a := n) (b := p) (by omega)) ?_
  refine va_copyi hx hb (hml.trans hl.1.symm) hown (hw _ m_642) (hw _ m_534) (hw _ m_533) (hw _ m_112) hK hP (dd_D hD rfl) hS 5 5 4 4 rfl rfl rfl rfl rfl (sp := nI p) (dp := nI (p + 1)) (n := nI (n - p)) (nI_pos (by omega)) (nI_pos (by omega)) (nI_pos (by omega)) (by rw [nI_clamp (by omega), nI_clamp (by omega)]; omega) (by rw [nI_clamp (by omega), nI_clamp (by omega)]; omega) (fun i hi => rfl) (Nat.le_of_ble_eq_true rfl) (by exact Nat.le_of_ble_eq_true rfl) d_OutcomeSet_add_88 ?_
  clear hP hS locs H
  intro H locs hP _ hS
  rw [nI_clamp (by omega : p < 2 ^ 31), nI_clamp (by omega : p + 1 < 2 ^ 31), nI_clamp (by omega : n - p < 2 ^ 31), cpy_sh] at hP
  replace hP : va_P (dC, dI) classes [ia h3 k3 C (upd lf n 0), ia h4 k4 (C * E) sf, oc h0 3 [.int (nI E), .ref h1, .ref h2, .ref h3, .ref h4, .ref h5, .int (nI n), .int sd, .int rd], la h1 k1 C (vp_updL rf n rk), ia h2 k2 C (upd vf n vk), ia h5 k5 C (fun i => nI ((shN of p (n - p)) i))] H := hP
  refine tp_pc (pc' := 91) (by rfl) ?_
  refine lv_aload_n hx hb d_OutcomeSet_add_91 rfl (lv_at hl 1 rfl) ?_
  refine va_get (D := (dC, dI)) (ci := 3) (v := .ref h5) (C := R_OutcomeSet) (T := F_OutcomeSet) (N := 9) hx hb hw i_OutcomeSet hown hK hP 2 rfl rfl 5 (by decide) (hw _ m_383) (fun _ h9 => h9) rfl d_OutcomeSet_add_92 ?_
  refine lv_iload hx hb d_OutcomeSet_add_95 (lv_at hl 0 rfl) ?_
  refine lv_aload_n hx hb d_OutcomeSet_add_97 rfl (lv_at hl 1 rfl) ?_
  refine va_get (D := (dC, dI)) (ci := 3) (v := .int (nI n)) (C := R_OutcomeSet) (T := F_OutcomeSet) (N := 9) hx hb hw i_OutcomeSet hown hK hP 2 rfl rfl 6 (by decide) (hw _ m_384) (fun _ h9 => h9) rfl d_OutcomeSet_add_98 ?_
  refine va_iast (D := (dC, dI)) hx hb hK hP (dd_D hD rfl) hS 5 4 rfl rfl (i := nI p) (x := nI n) (pk_in p C (by omega)) d_OutcomeSet_add_101 ?_
  clear hP hS locs H
  intro H locs hP _ hS
  rw [show (nI p : Int32).toNatClampNeg = p from pk_cl p] at hP
  rw [show upd (fun i => nI ((shN of p (n - p)) i)) p (nI n) = fun i => nI (updN (shN of p (n - p)) p n i) from upd_nI] at hP
  replace hP : va_P (dC, dI) classes [ia h3 k3 C (upd lf n 0), ia h4 k4 (C * E) sf, oc h0 3 [.int (nI E), .ref h1, .ref h2, .ref h3, .ref h4, .ref h5, .int (nI n), .int sd, .int rd], la h1 k1 C (vp_updL rf n rk), ia h2 k2 C (upd vf n vk), ia h5 k5 C (fun i => nI ((updN (shN of p (n - p)) p n) i))] H := hP
  refine tp_pc (pc' := 102) (by rfl) ?_
  refine lv_aload_n hx hb d_OutcomeSet_add_102 rfl (lv_at hl 1 rfl) ?_
  refine lv_dup hx hb d_OutcomeSet_add_103 rfl ?_
  refine va_get (D := (dC, dI)) (ci := 3) (v := .int (nI n)) (C := R_OutcomeSet) (T := F_OutcomeSet) (N := 9) hx hb hw i_OutcomeSet hown hK hP 2 rfl rfl 6 (by decide) (hw _ m_384) (fun _ h9 => h9) rfl d_OutcomeSet_add_104 ?_
  refine lv_iconst (v := 1) hx hb d_OutcomeSet_add_107 (by decide) ?_
  refine lv_iadd hx hb d_OutcomeSet_add_108 ?_
  refine tp_i (y := nI (n + 1)) (by exact nI_add n 1) ?_
  refine va_put (D := (dC, dI)) (ci := 3) (v := .int (nI (n + 1))) (ty := .int) (C := R_OutcomeSet) (T := F_OutcomeSet) (N := 9) hx hb hw i_OutcomeSet t_OutcomeSet t_OutcomeSet_ok n_OutcomeSet hown hK hP (dd_D hD rfl) hS 2 rfl rfl 6 (by decide) (hw _ m_384) (fun _ h9 => h9) rfl (by decide +kernel) rfl rfl (Nat.le_of_ble_eq_true rfl) d_OutcomeSet_add_109 ?_
  clear hP hS locs H
  intro H locs (hP : va_P (dC, dI) classes [ia h3 k3 C (upd lf n 0), ia h4 k4 (C * E) sf, oc h0 3 [.int (nI E), .ref h1, .ref h2, .ref h3, .ref h4, .ref h5, .int (nI (n + 1)), .int sd, .int rd], la h1 k1 C (vp_updL rf n rk), ia h2 k2 C (upd vf n vk), ia h5 k5 C (fun i => nI ((updN (shN of p (n - p)) p n) i))] H) _ hS
  refine tp_pc (pc' := 112) (by rfl) ?_
  refine lv_iconst (v := 1) hx hb d_OutcomeSet_add_112 (by decide) ?_
  have x1 : ∀ i, i < n → (vp_updL rf n rk) i = rf i ∧ (upd vf n vk) i = vf i ∧ (upd lf n 0) i = lf i := fun i hi => by
    refine ⟨?_, ?_, ?_⟩
    · rw [pk_uLn (by omega)]
    · rw [pk_un (by omega)]
    · rw [pk_un (by omega)]
  have x2 : ∃ y, y ≤ n ∧ (∀ i, i < y → ltK (rf (of i)) (vf (of i)) rk vk ∧ (updN (shN of p (n - p)) p n) i = of i) ∧ (updN (shN of p (n - p)) p n) y = n ∧ (∀ i, y ≤ i → i < n → ¬ ltK (rf (of i)) (vf (of i)) rk vk ∧ (updN (shN of p (n - p)) p n) (i + 1) = of i) := by
    refine ⟨p, hp1, fun i hi => ⟨hp2 i hi, ?_⟩, if_pos rfl, fun i a b => ⟨hp3 i a b, ?_⟩⟩
    · show updN (shN of p (n - p)) p n i = of i; rw [updN, if_neg (by omega), shN, if_neg (by omega)]
    · show updN (shN of p (n - p)) p n (i + 1) = of i; rw [updN, if_neg (by omega), shN, if_pos (by omega), Nat.add_sub_cancel]
  obtain ⟨hP9, hD9, -⟩ := cut3 (wc := [oc h0 3 [.int (nI E), .ref h1, .ref h2, .ref h3, .ref h4, .ref h5, .int (nI (n + 1)), .int sd, .int rd], la h1 k1 C (vp_updL rf n rk), ia h2 k2 C (upd vf n vk), ia h3 k3 C (upd lf n 0), ia h4 k4 (C * E) sf, ia h5 k5 C (fun i => nI ((updN (shN of p (n - p)) p n) i))]) hP hD rfl hS hA [2, 3, 4, 0, 1, 5] (by decide +kernel) rfl
  have hK9 := hK.sub (tys' := [(k1, .long), (k2, .int), (k3, .int), (k4, .int), (k5, .int)]) [0, 1, 2, 3, 4] rfl
  refine W.widen (k := 0) (n := 0) (by first | exact Nat.le_refl _ | omega) (by first | exact Nat.le_refl _ | omega) ?_
  exact W.zret (v := 1) (ty := .boolean) hx hb hr (by decide) (fun t9 ht9 hW => ⟨⟨1, (), rfl, rfl, (vp_updL rf n rk), (upd vf n vk), (upd lf n 0), sf, (updN (shN of p (n - p)) p n), x1, pk_uLs, pk_us, fun _ _ => rfl, x2, by rw [ht9]; exact hP9, va_K.moved hW.alike hK9, hD9⟩, hS.F ht9⟩) hS.2.2 d_OutcomeSet_add_113
set_option maxHeartbeats 4000000 in
set_option maxRecDepth 100000 in
theorem gen_OutcomeSet_add_grow (l : Launch) (dC : Nat → ClassId) (dI : Nat → Nat → Nat) (h0 h1 h2 h3 h4 h5 : Nat) (E n C : Nat) (sd rd : Int32) (k1 k2 k3 k4 k5 : ClassId) (rf : Nat → Int64) (vf lf sf : Nat → Int32) (of : Nat → Nat) (rk : Int64) (vk : Int32) (hC : C ≤ 65536) (hnC : n ≤ C) (hof : ∀ i, i < n → of i < n) (hmo : ∀ i j, i ≤ j → j < n → ltK (rf (of j)) (vf (of j)) rk vk → ltK (rf (of i)) (vf (of i)) rk vk) (hnn : n = C) (hE : 0 < E) (hE2 : E ≤ 16) (hno : ∀ i, i < n → ¬ (rf (of i) = rk ∧ vf (of i) = vk)) (M : Nat) (hM : M = if 8 < 2 * n then 2 * n else 8) (sz : Nat) : Met l y_OutcomeSet_add w_OutcomeSet_add ({ frames := 3, cells := 5, slots := 4 * M + M * E, locals := 120 }) (va_Pc [.ref h0, .long rk, .int vk] (fun U => U.heap.size = sz ∧ va_P (dC, dI) classes [oc h0 3 [.int (nI E), .ref h1, .ref h2, .ref h3, .ref h4, .ref h5, .int (nI n), .int sd, .int rd], la h1 k1 C rf, ia h2 k2 C vf, ia h3 k3 C lf, ia h4 k4 (C * E) sf, ia h5 k5 C (fun i => nI (of i))] U.heap ∧ va_K (dC, dI) classes [(k1, .long), (k2, .int), (k3, .int), (k4, .int), (k5, .int)] U ∧ va_D (fun _ => True) [oc h0 3 [.int (nI E), .ref h1, .ref h2, .ref h3, .ref h4, .ref h5, .int (nI n), .int sd, .int rd], la h1 k1 C rf, ia h2 k2 C vf, ia h3 k3 C lf, ia h4 k4 (C * E) sf, ia h5 k5 C (fun i => nI (of i))] ∧ nw U)) (va_Qi (fun (r : Int32) (_ : Unit) => r = 1) (fun _ t9 => ∃ (q1 q2 q3 q4 q5 : Nat) (j1 j2 j3 j4 j5 : ClassId) (rf2 : Nat → Int64) (vf2 lf2 sf2 : Nat → Int32) (of2 : Nat → Nat), (∀ i, i < n → rf2 i = rf i ∧ vf2 i = vf i ∧ lf2 i = lf i) ∧ rf2 n = rk ∧ vf2 n = vk ∧ (∀ i, i < C * E → sf2 i = sf i) ∧ (∃ p, p ≤ n ∧ (∀ i, i < p → ltK (rf (of i)) (vf (of i)) rk vk ∧ of2 i = of i) ∧ of2 p = n ∧ (∀ i, p ≤ i → i < n → ¬ ltK (rf (of i)) (vf (of i)) rk vk ∧ of2 (i + 1) = of i)) ∧ va_P (dC, dI) classes [oc h0 3 [.int (nI E), .ref q1, .ref q2, .ref q3, .ref q4, .ref q5, .int (nI (n + 1)), .int sd, .int rd], la q1 j1 M rf2, ia q2 j2 M vf2, ia q3 j3 M lf2, ia q4 j4 (M * E) sf2, ia q5 j5 M (fun i => nI (of2 i))] t9.heap ∧ va_K (dC, dI) classes [(j1, .long), (j2, .int), (j3, .int), (j4, .int), (j5, .int)] t9 ∧ va_D (va_A [oc h0 3 [.int (nI E), .ref h1, .ref h2, .ref h3, .ref h4, .ref h5, .int (nI n), .int sd, .int rd], la h1 k1 C rf, ia h2 k2 C vf, ia h3 k3 C lf, ia h4 k4 (C * E) sf, ia h5 k5 C (fun i => nI (of i))] sz) [oc h0 3 [.int (nI E), .ref q1, .ref q2, .ref q3, .ref q4, .ref q5, .int (nI (n + 1)), .int sd, .int rd], la q1 j1 M rf2, ia q2 j2 M vf2, ia q3 j3 M lf2, ia q4 j4 (M * E) sf2, ia q5 j5 M (fun i => nI (of2 i))]) (va_A [oc h0 3 [.int (nI E), .ref h1, .ref h2, .ref h3, .ref h4, .ref h5, .int (nI n), .int sd, .int rd], la h1 k1 C rf, ia h2 k2 C vf, ia h3 k3 C lf, ia h4 k4 (C * E) sf, ia h5 k5 C (fun i => nI (of i))] sz)) 5 (4 * M + M * E) (va_A [oc h0 3 [.int (nI E), .ref h1, .ref h2, .ref h3, .ref h4, .ref h5, .int (nI n), .int sd, .int rd], la h1 k1 C rf, ia h2 k2 C vf, ia h3 k3 C lf, ia h4 k4 (C * E) sf, ia h5 k5 C (fun i => nI (of i))] sz) := by
  refine Met.ofW (cc := b_OutcomeSet_add) (maxL := 5) (ret := (some .boolean)) (by decide) rfl ?_
  intro p e0 s m args below meth c s₁ B hml hv
  obtain ⟨rfl, hsz, hP, hK, hD0, hn⟩ := hv
  have hx := B.exec
  have hb := B.bytes
  have hr := B.returns
  have hw := fun w (h : w ∈ wt) => atoms_spec (ws := w_OutcomeSet_add) B.pre w (List.mem_cons_of_mem _ h)
  have hown : s.vm.findClass R_OutcomeSet = some m.cls := findClass_of_methodNamed B.named
  have hlocks := B.notSynchronized
  subst hsz
  have hD1 := hD0.self (sz := s.heap.size)
  generalize hAe : va_A [oc h0 3 [.int (nI E), .ref h1, .ref h2, .ref h3, .ref h4, .ref h5, .int (nI n), .int sd, .int rd], la h1 k1 C rf, ia h2 k2 C vf, ia h3 k3 C lf, ia h4 k4 (C * E) sf, ia h5 k5 C (fun i => nI (of i))] s.heap.size = A at hD1 ⊢
  have hA : ∀ q : Nat, s.heap.size ≤ q → A q := fun q h => by rw [← hAe]; exact Or.inr h
  have hD : dd A [h0, h1, h2, h3, h4, h5] := dd_of hD1 rfl
  clear hAe hD0 hD1
  have hS : va_S A s.heap s.heap [] := va_S.rf
  replace hP : va_P (dC, dI) classes [oc h0 3 [.int (nI E), .ref h1, .ref h2, .ref h3, .ref h4, .ref h5, .int (nI n), .int sd, .int rd], la h1 k1 C rf, ia h2 k2 C vf, ia h3 k3 C lf, ia h4 k4 (C * E) sf, ia h5 k5 C (fun i => nI (of i))] s.heap := hP
  have hl := lv_entry ([.ref h0, .long rk, .int vk]) (n := 5) (Nat.le_of_ble_eq_true rfl)
  rw [lg_entry_eq]
  generalize (lg_sl ([.ref h0, .long rk, .int vk]) ++ List.replicate (5 - (lg_sl ([.ref h0, .long rk, .int vk])).length) Slot.unset).toArray = ls at hl ⊢
  replace hl : lv_has ls 5 [(0, .ref h0), (1, .long rk), (3, .int vk)] := hl
  refine lv_aload_n hx hb d_OutcomeSet_add_0 rfl (lv_at hl 0 rfl) ?_
  refine lv_lload_n hx hb d_OutcomeSet_add_1 rfl (lv_at hl 1 rfl) ?_
  refine lv_iload_n hx hb d_OutcomeSet_add_2 rfl (lv_at hl 2 rfl) ?_
  obtain ⟨hPc, hDc, hFc⟩ := cut3 (wc := [oc h0 3 [.int (nI E), .ref h1, .ref h2, .ref h3, .ref h4, .ref h5, .int (nI n), .int sd, .int rd], la h1 k1 C rf, ia h2 k2 C vf, ia h5 k5 C (fun i => nI (of i))]) hP hD rfl hS hA [0, 1, 2, 5] (by decide +kernel) rfl
  have hKc := hK.sub (tys' := [(k1, .long), (k2, .int), (k5, .int)]) [0, 1, 4] rfl
  refine va_calli (va_runV (As := [.long rk, .int vk]) (rest := []) ⟨hx, hb, hml, hown, hw⟩ (gen_OutcomeSet_firstNotLess l dC dI h0 h1 h2 h3 h4 h5 E n C sd rd k1 k2 k5 rf vf of rk vk (by omega) hnC hof hmo s.heap.size) (cw_V 2 hw g_OutcomeSet_firstNotLess rfl rfl rfl (hw _ m_108) (hw _ m_620) (hw _ m_622) (hw _ m_17) (by decide +kernel) ⟨Nat.le_of_ble_eq_true rfl, Nat.le_of_ble_eq_true rfl⟩) ⟨fun a U g mk q => by obtain ⟨q0, q1, qP, qK, qD, qN⟩ := q; exact ⟨q0, q1, qP, va_K.moved (u := U) (U := U.calling g mk a) (Vm.Alike.refl U.vm) qK, qD, nw_call qN⟩, va_recv hKc hPc (ci := 3) (q0 := 0) rfl rfl, fun U hU hW => ⟨rfl, by rw [hU], by rw [hU]; exact hPc, va_K.moved hW.alike hKc, hDc.weaken (fun _ _ _ _ => trivial), nw_warm hW hn⟩⟩ rfl rfl hl.1 rfl (lv_room (Nat.le_of_ble_eq_true rfl)) d_OutcomeSet_add_3 ⟨Nat.zero_le _, Nat.zero_le _⟩) hS (fun q _ h => hFc q h) hFc ?_
  intro r_1 u t9 H1 locs1 ht9 hvm hw1 hB hz1 hk1 hS1
  obtain ⟨hP1, hK1, hD1⟩ := hB
  rw [ht9] at hP1
  replace hK1 := va_K.moved hvm.symm hK1
  have hPD := join3 hP hD rfl [0, 1, 2, 5] [3, 4] rfl (by rfl) (by decide +kernel) (by decide +kernel) hk1 hFc hP1 hD1
  replace hK : va_K (dC, dI) classes [(k1, .long), (k2, .int), (k3, .int), (k4, .int), (k5, .int)] s := hK.app hK1
  clear hP1 hK1 hD1 hk1 hz1 hFc hKc hDc hPc hvm ht9 hP hS t9
  have hP : va_P (dC, dI) classes [ia h3 k3 C lf, ia h4 k4 (C * E) sf, oc h0 3 [.int (nI E), .ref h1, .ref h2, .ref h3, .ref h4, .ref h5, .int (nI n), .int sd, .int rd], la h1 k1 C rf, ia h2 k2 C vf, ia h5 k5 C (fun i => nI (of i))] H1 := hPD.1
  replace hD : dd A [h3, h4, h0, h1, h2, h5] := dd_of hPD.2 rfl
  clear hPD
  revert H1 locs1
  intro H locs hS hP
  obtain ⟨p, hrp, hp1, hp2, hp3⟩ := hw1
  refine tp_i (y := nI p) (hrp) ?_
  clear hrp
  refine tp_pc (pc' := 6) (by rfl) ?_
  refine lv_istore (lv' := [(4, .int (nI p)), (0, .ref h0), (1, .long rk), (3, .int vk)]) hx hb d_OutcomeSet_add_6 hl (by decide) rfl ?_
  clear hl ls
  intro ls hl
  refine lv_aload_n hx hb d_OutcomeSet_add_8 rfl (lv_at hl 1 rfl) ?_
  refine lv_iload hx hb d_OutcomeSet_add_9 (lv_at hl 0 rfl) ?_
  refine lv_lload_n hx hb d_OutcomeSet_add_11 rfl (lv_at hl 2 rfl) ?_
  refine lv_iload_n hx hb d_OutcomeSet_add_12 rfl (lv_at hl 3 rfl) ?_
  obtain ⟨hPc, hDc, hFc⟩ := cut3 (wc := [oc h0 3 [.int (nI E), .ref h1, .ref h2, .ref h3, .ref h4, .ref h5, .int (nI n), .int sd, .int rd], la h1 k1 C rf, ia h2 k2 C vf, ia h5 k5 C (fun i => nI (of i))]) hP hD rfl hS hA [2, 3, 4, 5] (by decide +kernel) rfl
  have hKc := hK.sub (tys' := [(k1, .long), (k2, .int), (k5, .int)]) [0, 1, 4] rfl
  refine va_calli (va_runV (As := [.int (nI p), .long rk, .int vk]) (rest := []) ⟨hx, hb, hml, hown, hw⟩ (gen_OutcomeSet_isAt l dC dI h0 h1 h2 h3 h4 h5 E n C sd rd k1 k2 k5 rf vf of rk vk p (by omega) hnC hof hp1 H.size) (cw_V 3 hw g_OutcomeSet_isAt rfl rfl rfl (hw _ m_108) (hw _ m_624) (hw _ m_626) (hw _ m_18) (by decide +kernel) ⟨Nat.le_of_ble_eq_true rfl, Nat.le_of_ble_eq_true rfl⟩) ⟨fun a U g mk q => by obtain ⟨q0, q1, qP, qK, qD, qN⟩ := q; exact ⟨q0, q1, qP, va_K.moved (u := U) (U := U.calling g mk a) (Vm.Alike.refl U.vm) qK, qD, nw_call qN⟩, va_recv hKc hPc (ci := 3) (q0 := 0) rfl rfl, fun U hU hW => ⟨rfl, by rw [hU], by rw [hU]; exact hPc, va_K.moved hW.alike hKc, hDc.weaken (fun _ _ _ _ => trivial), nw_warm hW hn⟩⟩ rfl rfl hl.1 rfl (lv_room (Nat.le_of_ble_eq_true rfl)) d_OutcomeSet_add_13 ⟨Nat.zero_le _, Nat.zero_le _⟩) hS (fun q _ h => hFc q h) hFc ?_
  intro r_2 u t9 H1 locs1 ht9 hvm hw1 hB hz1 hk1 hS1
  obtain ⟨hP1, hK1, hD1⟩ := hB
  rw [ht9] at hP1
  replace hK1 := va_K.moved hvm.symm hK1
  have hPD := join3 hP hD rfl [2, 3, 4, 5] [0, 1] rfl (by rfl) (by decide +kernel) (by decide +kernel) hk1 hFc hP1 hD1
  replace hK : va_K (dC, dI) classes [(k1, .long), (k2, .int), (k3, .int), (k4, .int), (k5, .int)] s := hK.app hK1
  clear hP1 hK1 hD1 hk1 hz1 hFc hKc hDc hPc hvm ht9 hP hS t9 locs H
  have hP : va_P (dC, dI) classes [ia h3 k3 C lf, ia h4 k4 (C * E) sf, oc h0 3 [.int (nI E), .ref h1, .ref h2, .ref h3, .ref h4, .ref h5, .int (nI n), .int sd, .int rd], la h1 k1 C rf, ia h2 k2 C vf, ia h5 k5 C (fun i => nI (of i))] H1 := hPD.1
  replace hD : dd A [h3, h4, h0, h1, h2, h5] := dd_of hPD.2 rfl
  clear hPD
  revert H1 locs1
  intro H locs hS hP
  have hr1 : r_2 = 0 := by rcases hw1 with q | q; (exact absurd q.2.2 (hno p q.2.1)); (exact q.1)
  refine tp_i (y := 0) hr1 ?_
  refine tp_pc (pc' := 16) (by rfl) ?_
  refine lv_if_eq (tgt := 21) hx hb d_OutcomeSet_add_16 (by decide) (fun c_3 => ?_) (fun c_3 => absurd c_3 (by decide))
  refine tp_pc (pc' := 21) (by rfl) ?_
  refine lv_aload_n hx hb d_OutcomeSet_add_21 rfl (lv_at hl 1 rfl) ?_
  refine va_get (D := (dC, dI)) (ci := 3) (v := .int (nI n)) (C := R_OutcomeSet) (T := F_OutcomeSet) (N := 9) hx hb hw i_OutcomeSet hown hK hP 2 rfl rfl 6 (by decide) (hw _ m_384) (fun _ h9 => h9) rfl d_OutcomeSet_add_22 ?_
  refine lv_aload_n hx hb d_OutcomeSet_add_25 rfl (lv_at hl 1 rfl) ?_
  refine va_get (D := (dC, dI)) (ci := 3) (v := .ref h5) (C := R_OutcomeSet) (T := F_OutcomeSet) (N := 9) hx hb hw i_OutcomeSet hown hK hP 2 rfl rfl 5 (by decide) (hw _ m_383) (fun _ h9 => h9) rfl d_OutcomeSet_add_26 ?_
  refine va_alen (D := (dC, dI)) hx hb hK hP 5 4 rfl rfl (v := nI C) (by rfl) d_OutcomeSet_add_29 ?_
  refine lv_icmp_lt (tgt := 37) hx hb d_OutcomeSet_add_30 (by decide) (fun c9 => absurd ((nI_ltI (a := n) (b := C) (by omega) (by omega)).mp c9) (by omega)) (fun c9 => ?_)
  have hc9 : ¬ (n < C) := fun q9 => c9 ((nI_ltI (a := n) (b := C) (by omega) (by omega)).mpr q9)
  have hMn : C < M ∧ M ≤ 131072 := by subst hM; split <;> omega
  refine tp_pc (pc' := 33) (by rfl) ?_
  refine lv_aload_n hx hb d_OutcomeSet_add_33 rfl (lv_at hl 1 rfl) ?_
  obtain ⟨hPc, hDc, hFc⟩ := cut3 (wc := [oc h0 3 [.int (nI E), .ref h1, .ref h2, .ref h3, .ref h4, .ref h5, .int (nI n), .int sd, .int rd], la h1 k1 C rf, ia h2 k2 C vf, ia h3 k3 C lf, ia h4 k4 (C * E) sf, ia h5 k5 C (fun i => nI (of i))]) hP hD rfl hS hA [2, 3, 4, 0, 1, 5] (by decide +kernel) rfl
  have hKc := hK.sub (tys' := [(k1, .long), (k2, .int), (k3, .int), (k4, .int), (k5, .int)]) [0, 1, 2, 3, 4] rfl
  refine va_callv (va_runV (As := []) (rest := []) ⟨hx, hb, hml, hown, hw⟩ (gen_OutcomeSet_grow l dC dI h0 h1 h2 h3 h4 h5 E n C sd rd k1 k2 k3 k4 k5 rf vf lf sf of M hnn hM hC hE hE2 H.size) (cw_V 0 hw g_OutcomeSet_grow rfl rfl rfl (hw _ m_108) (hw _ m_628) (hw _ m_630) (hw _ m_19) (by decide +kernel) ⟨Nat.le_of_ble_eq_true rfl, Nat.le_of_ble_eq_true rfl⟩) ⟨fun a U g mk q => by obtain ⟨q0, q1, qP, qK, qD, qN⟩ := q; exact ⟨q0, q1, qP, va_K.moved (u := U) (U := U.calling g mk a) (Vm.Alike.refl U.vm) qK, qD, nw_call qN⟩, va_recv hKc hPc (ci := 3) (q0 := 0) rfl rfl, fun U hU hW => ⟨rfl, by rw [hU], by rw [hU]; exact hPc, va_K.moved hW.alike hKc, hDc.weaken (fun _ _ _ _ => trivial), nw_warm hW hn⟩⟩ rfl rfl hl.1 rfl (lv_room (Nat.le_of_ble_eq_true rfl)) d_OutcomeSet_add_34 ⟨by show 0 + 5 ≤ 5; omega, by show 0 + (4 * M + M * E) ≤ 4 * M + M * E; omega⟩) hS (fun q _ h => hFc q h) hFc ?_
  intro u t9 H1 locs1 ht9 hvm hw1 hB hz1 hk1 hS1
  obtain ⟨q1, q2, q3, q4, q5, j1, j2, j3, j4, j5, rg, vg, lg, sg, og, gr, gv, gl, gs, go, hP1, hK1, hD1⟩ := hB
  rw [ht9] at hP1
  replace hK1 := va_K.moved hvm.symm hK1
  have hPD := join3 hP hD rfl [2, 3, 4, 0, 1, 5] [] rfl (by rfl) (by decide +kernel) (by decide +kernel) hk1 hFc hP1 hD1
  replace hK : va_K (dC, dI) classes [(k1, .long), (k2, .int), (k3, .int), (k4, .int), (k5, .int), (j1, .long), (j2, .int), (j3, .int), (j4, .int), (j5, .int)] s := hK.app hK1
  clear hP1 hK1 hD1 hk1 hz1 hFc hKc hDc hPc hvm ht9 hP hS t9 locs H
  have hP : va_P (dC, dI) classes [oc h0 3 [.int (nI E), .ref q1, .ref q2, .ref q3, .ref q4, .ref q5, .int (nI n), .int sd, .int rd], la q1 j1 M rg, ia q2 j2 M vg, ia q3 j3 M lg, ia q4 j4 (M * E) sg, ia q5 j5 M (fun i => nI (og i))] H1 := hPD.1
  replace hD : dd A [h0, q1, q2, q3, q4, q5] := dd_of hPD.2 rfl
  clear hPD
  revert H1 locs1
  intro H locs hS hP
  clear hw1 u
  refine W.widen (k := 5) (n := 4 * M + M * E) (by first | exact Nat.le_refl _ | omega) (by first | exact Nat.le_refl _ | omega) ?_
  refine tp_pc (pc' := 37) (by rfl) ?_
  refine lv_aload_n hx hb d_OutcomeSet_add_37 rfl (lv_at hl 1 rfl) ?_
  refine va_get (D := (dC, dI)) (ci := 3) (v := .ref q1) (C := R_OutcomeSet) (T := F_OutcomeSet) (N := 9) hx hb hw i_OutcomeSet hown hK hP 0 rfl rfl 1 (by decide) (hw _ m_379) (fun _ h9 => h9) rfl d_OutcomeSet_add_38 ?_
  refine lv_aload_n hx hb d_OutcomeSet_add_41 rfl (lv_at hl 1 rfl) ?_
  refine va_get (D := (dC, dI)) (ci := 3) (v := .int (nI n)) (C := R_OutcomeSet) (T := F_OutcomeSet) (N := 9) hx hb hw i_OutcomeSet hown hK hP 0 rfl rfl 6 (by decide) (hw _ m_384) (fun _ h9 => h9) rfl d_OutcomeSet_add_42 ?_
  refine lv_lload_n hx hb d_OutcomeSet_add_45 rfl (lv_at hl 2 rfl) ?_
  refine va_last (D := (dC, dI)) hx hb hK hP (dd_D hD rfl) hS 1 5 rfl rfl (i := nI n) (x := rk) (pk_in n M (by omega)) d_OutcomeSet_add_46 ?_
  clear hP hS locs H
  intro H locs hP _ hS
  rw [show (nI n : Int32).toNatClampNeg = n from pk_cl n] at hP
  replace hP : va_P (dC, dI) classes [oc h0 3 [.int (nI E), .ref q1, .ref q2, .ref q3, .ref q4, .ref q5, .int (nI n), .int sd, .int rd], la q1 j1 M (vp_updL rg n rk), ia q2 j2 M vg, ia q3 j3 M lg, ia q4 j4 (M * E) sg, ia q5 j5 M (fun i => nI (og i))] H := hP
  refine tp_pc (pc' := 47) (by rfl) ?_
  refine lv_aload_n hx hb d_OutcomeSet_add_47 rfl (lv_at hl 1 rfl) ?_
  refine va_get (D := (dC, dI)) (ci := 3) (v := .ref q2) (C := R_OutcomeSet) (T := F_OutcomeSet) (N := 9) hx hb hw i_OutcomeSet hown hK hP 0 rfl rfl 2 (by decide) (hw _ m_380) (fun _ h9 => h9) rfl d_OutcomeSet_add_48 ?_
  refine lv_aload_n hx hb d_OutcomeSet_add_51 rfl (lv_at hl 1 rfl) ?_
  refine va_get (D := (dC, dI)) (ci := 3) (v := .int (nI n)) (C := R_OutcomeSet) (T := F_OutcomeSet) (N := 9) hx hb hw i_OutcomeSet hown hK hP 0 rfl rfl 6 (by decide) (hw _ m_384) (fun _ h9 => h9) rfl d_OutcomeSet_add_52 ?_
  refine lv_iload_n hx hb d_OutcomeSet_add_55 rfl (lv_at hl 3 rfl) ?_
  refine va_iast (D := (dC, dI)) hx hb hK hP (dd_D hD rfl) hS 2 6 rfl rfl (i := nI n) (x := vk) (pk_in n M (by omega)) d_OutcomeSet_add_56 ?_
  clear hP hS locs H
  intro H locs hP _ hS
  rw [show (nI n : Int32).toNatClampNeg = n from pk_cl n] at hP
  replace hP : va_P (dC, dI) classes [oc h0 3 [.int (nI E), .ref q1, .ref q2, .ref q3, .ref q4, .ref q5, .int (nI n), .int sd, .int rd], la q1 j1 M (vp_updL rg n rk), ia q2 j2 M (upd vg n vk), ia q3 j3 M lg, ia q4 j4 (M * E) sg, ia q5 j5 M (fun i => nI (og i))] H := hP
  refine tp_pc (pc' := 57) (by rfl) ?_
  refine lv_aload_n hx hb d_OutcomeSet_add_57 rfl (lv_at hl 1 rfl) ?_
  refine va_get (D := (dC, dI)) (ci := 3) (v := .ref q3) (C := R_OutcomeSet) (T := F_OutcomeSet) (N := 9) hx hb hw i_OutcomeSet hown hK hP 0 rfl rfl 3 (by decide) (hw _ m_381) (fun _ h9 => h9) rfl d_OutcomeSet_add_58 ?_
  refine lv_aload_n hx hb d_OutcomeSet_add_61 rfl (lv_at hl 1 rfl) ?_
  refine va_get (D := (dC, dI)) (ci := 3) (v := .int (nI n)) (C := R_OutcomeSet) (T := F_OutcomeSet) (N := 9) hx hb hw i_OutcomeSet hown hK hP 0 rfl rfl 6 (by decide) (hw _ m_384) (fun _ h9 => h9) rfl d_OutcomeSet_add_62 ?_
  refine lv_iconst (v := 0) hx hb d_OutcomeSet_add_65 (by decide) ?_
  refine va_iast (D := (dC, dI)) hx hb hK hP (dd_D hD rfl) hS 3 7 rfl rfl (i := nI n) (x := 0) (pk_in n M (by omega)) d_OutcomeSet_add_66 ?_
  clear hP hS locs H
  intro H locs hP _ hS
  rw [show (nI n : Int32).toNatClampNeg = n from pk_cl n] at hP
  replace hP : va_P (dC, dI) classes [oc h0 3 [.int (nI E), .ref q1, .ref q2, .ref q3, .ref q4, .ref q5, .int (nI n), .int sd, .int rd], la q1 j1 M (vp_updL rg n rk), ia q2 j2 M (upd vg n vk), ia q3 j3 M (upd lg n 0), ia q4 j4 (M * E) sg, ia q5 j5 M (fun i => nI (og i))] H := hP
  refine tp_pc (pc' := 67) (by rfl) ?_
  refine lv_aload_n hx hb d_OutcomeSet_add_67 rfl (lv_at hl 1 rfl) ?_
  refine va_get (D := (dC, dI)) (ci := 3) (v := .ref q5) (C := R_OutcomeSet) (T := F_OutcomeSet) (N := 9) hx hb hw i_OutcomeSet hown hK hP 0 rfl rfl 5 (by decide) (hw _ m_383) (fun _ h9 => h9) rfl d_OutcomeSet_add_68 ?_
  refine lv_iload hx hb d_OutcomeSet_add_71 (lv_at hl 0 rfl) ?_
  refine lv_aload_n hx hb d_OutcomeSet_add_73 rfl (lv_at hl 1 rfl) ?_
  refine va_get (D := (dC, dI)) (ci := 3) (v := .ref q5) (C := R_OutcomeSet) (T := F_OutcomeSet) (N := 9) hx hb hw i_OutcomeSet hown hK hP 0 rfl rfl 5 (by decide) (hw _ m_383) (fun _ h9 => h9) rfl d_OutcomeSet_add_74 ?_
  refine lv_iload hx hb d_OutcomeSet_add_77 (lv_at hl 0 rfl) ?_
  refine lv_iconst (v := 1) hx hb d_OutcomeSet_add_79 (by decide) ?_
  refine lv_iadd hx hb d_OutcomeSet_add_80 ?_
  refine tp_i (y := nI (p + 1)) (by exact nI_add p 1) ?_
  refine lv_aload_n hx hb d_OutcomeSet_add_81 rfl (lv_at hl 1 rfl) ?_
  refine va_get (D := (dC, dI)) (ci := 3) (v := .int (nI n)) (C := R_OutcomeSet) (T := F_OutcomeSet) (N := 9) hx hb hw i_OutcomeSet hown hK hP 0 rfl rfl 6 (by decide) (hw _ m_384) (fun _ h9 => h9) rfl d_OutcomeSet_add_82 ?_
  refine lv_iload hx hb d_OutcomeSet_add_85 (lv_at hl 0 rfl) ?_
  refine lv_isub hx hb d_OutcomeSet_add_87 ?_
  refine tp_i (y := nI (n - p)) (by exact pk_sub (a := n) (b := p) (by omega)) ?_
  refine va_copyi hx hb (hml.trans hl.1.symm) hown (hw _ m_642) (hw _ m_534) (hw _ m_533) (hw _ m_112) hK hP (dd_D hD rfl) hS 5 5 9 9 rfl rfl rfl rfl rfl (sp := nI p) (dp := nI (p + 1)) (n := nI (n - p)) (nI_pos (by omega)) (nI_pos (by omega)) (nI_pos (by omega)) (by rw [nI_clamp (by omega), nI_clamp (by omega)]; omega) (by rw [nI_clamp (by omega), nI_clamp (by omega)]; omega) (fun i hi => rfl) (Nat.le_of_ble_eq_true rfl) (by exact Nat.le_of_ble_eq_true rfl) d_OutcomeSet_add_88 ?_
  clear hP hS locs H
  intro H locs hP _ hS
  rw [nI_clamp (by omega : p < 2 ^ 31), nI_clamp (by omega : p + 1 < 2 ^ 31), nI_clamp (by omega : n - p < 2 ^ 31), cpy_sh] at hP
  replace hP : va_P (dC, dI) classes [oc h0 3 [.int (nI E), .ref q1, .ref q2, .ref q3, .ref q4, .ref q5, .int (nI n), .int sd, .int rd], la q1 j1 M (vp_updL rg n rk), ia q2 j2 M (upd vg n vk), ia q3 j3 M (upd lg n 0), ia q4 j4 (M * E) sg, ia q5 j5 M (fun i => nI ((shN og p (n - p)) i))] H := hP
  refine tp_pc (pc' := 91) (by rfl) ?_
  refine lv_aload_n hx hb d_OutcomeSet_add_91 rfl (lv_at hl 1 rfl) ?_
  refine va_get (D := (dC, dI)) (ci := 3) (v := .ref q5) (C := R_OutcomeSet) (T := F_OutcomeSet) (N := 9) hx hb hw i_OutcomeSet hown hK hP 0 rfl rfl 5 (by decide) (hw _ m_383) (fun _ h9 => h9) rfl d_OutcomeSet_add_92 ?_
  refine lv_iload hx hb d_OutcomeSet_add_95 (lv_at hl 0 rfl) ?_
  refine lv_aload_n hx hb d_OutcomeSet_add_97 rfl (lv_at hl 1 rfl) ?_
  refine va_get (D := (dC, dI)) (ci := 3) (v := .int (nI n)) (C := R_OutcomeSet) (T := F_OutcomeSet) (N := 9) hx hb hw i_OutcomeSet hown hK hP 0 rfl rfl 6 (by decide) (hw _ m_384) (fun _ h9 => h9) rfl d_OutcomeSet_add_98 ?_
  refine va_iast (D := (dC, dI)) hx hb hK hP (dd_D hD rfl) hS 5 9 rfl rfl (i := nI p) (x := nI n) (pk_in p M (by omega)) d_OutcomeSet_add_101 ?_
  clear hP hS locs H
  intro H locs hP _ hS
  rw [show (nI p : Int32).toNatClampNeg = p from pk_cl p] at hP
  rw [show upd (fun i => nI ((shN og p (n - p)) i)) p (nI n) = fun i => nI (updN (shN og p (n - p)) p n i) from upd_nI] at hP
  replace hP : va_P (dC, dI) classes [oc h0 3 [.int (nI E), .ref q1, .ref q2, .ref q3, .ref q4, .ref q5, .int (nI n), .int sd, .int rd], la q1 j1 M (vp_updL rg n rk), ia q2 j2 M (upd vg n vk), ia q3 j3 M (upd lg n 0), ia q4 j4 (M * E) sg, ia q5 j5 M (fun i => nI ((updN (shN og p (n - p)) p n) i))] H := hP
  refine tp_pc (pc' := 102) (by rfl) ?_
  refine lv_aload_n hx hb d_OutcomeSet_add_102 rfl (lv_at hl 1 rfl) ?_
  refine lv_dup hx hb d_OutcomeSet_add_103 rfl ?_
  refine va_get (D := (dC, dI)) (ci := 3) (v := .int (nI n)) (C := R_OutcomeSet) (T := F_OutcomeSet) (N := 9) hx hb hw i_OutcomeSet hown hK hP 0 rfl rfl 6 (by decide) (hw _ m_384) (fun _ h9 => h9) rfl d_OutcomeSet_add_104 ?_
  refine lv_iconst (v := 1) hx hb d_OutcomeSet_add_107 (by decide) ?_
  refine lv_iadd hx hb d_OutcomeSet_add_108 ?_
  refine tp_i (y := nI (n + 1)) (by exact nI_add n 1) ?_
  refine va_put (D := (dC, dI)) (ci := 3) (v := .int (nI (n + 1))) (ty := .int) (C := R_OutcomeSet) (T := F_OutcomeSet) (N := 9) hx hb hw i_OutcomeSet t_OutcomeSet t_OutcomeSet_ok n_OutcomeSet hown hK hP (dd_D hD rfl) hS 0 rfl rfl 6 (by decide) (hw _ m_384) (fun _ h9 => h9) rfl (by decide +kernel) rfl rfl (Nat.le_of_ble_eq_true rfl) d_OutcomeSet_add_109 ?_
  clear hP hS locs H
  intro H locs (hP : va_P (dC, dI) classes [oc h0 3 [.int (nI E), .ref q1, .ref q2, .ref q3, .ref q4, .ref q5, .int (nI (n + 1)), .int sd, .int rd], la q1 j1 M (vp_updL rg n rk), ia q2 j2 M (upd vg n vk), ia q3 j3 M (upd lg n 0), ia q4 j4 (M * E) sg, ia q5 j5 M (fun i => nI ((updN (shN og p (n - p)) p n) i))] H) _ hS
  refine tp_pc (pc' := 112) (by rfl) ?_
  refine lv_iconst (v := 1) hx hb d_OutcomeSet_add_112 (by decide) ?_
  have x1 : ∀ i, i < n → (vp_updL rg n rk) i = rf i ∧ (upd vg n vk) i = vf i ∧ (upd lg n 0) i = lf i := fun i hi => by
    refine ⟨?_, ?_, ?_⟩
    · rw [pk_uLn (by omega)]; exact gr i (by omega)
    · rw [pk_un (by omega)]; exact gv i (by omega)
    · rw [pk_un (by omega)]; exact gl i (by omega)
  have x2 : ∃ y, y ≤ n ∧ (∀ i, i < y → ltK (rf (of i)) (vf (of i)) rk vk ∧ (updN (shN og p (n - p)) p n) i = of i) ∧ (updN (shN og p (n - p)) p n) y = n ∧ (∀ i, y ≤ i → i < n → ¬ ltK (rf (of i)) (vf (of i)) rk vk ∧ (updN (shN og p (n - p)) p n) (i + 1) = of i) := by
    refine ⟨p, hp1, fun i hi => ⟨hp2 i hi, ?_⟩, if_pos rfl, fun i a b => ⟨hp3 i a b, ?_⟩⟩
    · show updN (shN og p (n - p)) p n i = of i; rw [updN, if_neg (by omega), shN, if_neg (by omega)]; exact go i (by omega)
    · show updN (shN og p (n - p)) p n (i + 1) = of i; rw [updN, if_neg (by omega), shN, if_pos (by omega), Nat.add_sub_cancel]; exact go i (by omega)
  obtain ⟨hP9, hD9, -⟩ := cut3 (wc := [oc h0 3 [.int (nI E), .ref q1, .ref q2, .ref q3, .ref q4, .ref q5, .int (nI (n + 1)), .int sd, .int rd], la q1 j1 M (vp_updL rg n rk), ia q2 j2 M (upd vg n vk), ia q3 j3 M (upd lg n 0), ia q4 j4 (M * E) sg, ia q5 j5 M (fun i => nI ((updN (shN og p (n - p)) p n) i))]) hP hD rfl hS hA [0, 1, 2, 3, 4, 5] (by decide +kernel) rfl
  have hK9 := hK.sub (tys' := [(j1, .long), (j2, .int), (j3, .int), (j4, .int), (j5, .int)]) [5, 6, 7, 8, 9] rfl
  refine W.widen (k := 5) (n := 4 * M + M * E) (by first | exact Nat.le_refl _ | omega) (by first | exact Nat.le_refl _ | omega) ?_
  exact W.zret (v := 1) (ty := .boolean) hx hb hr (by decide) (fun t9 ht9 hW => ⟨⟨1, (), rfl, rfl, q1, q2, q3, q4, q5, j1, j2, j3, j4, j5, (vp_updL rg n rk), (upd vg n vk), (upd lg n 0), sg, (updN (shN og p (n - p)) p n), x1, pk_uLs, pk_us, gs, x2, by rw [ht9]; exact hP9, va_K.moved hW.alike hK9, hD9⟩, hS.F ht9⟩) hS.2.2 d_OutcomeSet_add_113
set_option maxHeartbeats 4000000 in
set_option maxRecDepth 100000 in
theorem gen_OutcomeSet_add_grow0 (l : Launch) (dC : Nat → ClassId) (dI : Nat → Nat → Nat) (h0 h1 h2 h3 h4 h5 : Nat) (E n C : Nat) (sd rd : Int32) (k1 k2 k3 k4 k5 : ClassId) (rf : Nat → Int64) (vf lf sf : Nat → Int32) (of : Nat → Nat) (rk : Int64) (vk : Int32) (hC : C ≤ 65536) (hnC : n ≤ C) (hof : ∀ i, i < n → of i < n) (hmo : ∀ i j, i ≤ j → j < n → ltK (rf (of j)) (vf (of j)) rk vk → ltK (rf (of i)) (vf (of i)) rk vk) (hnn : n = C) (hE : E = 0) (hno : ∀ i, i < n → ¬ (rf (of i) = rk ∧ vf (of i) = vk)) (M : Nat) (hM : M = if 8 < 2 * n then 2 * n else 8) (sz : Nat) : Met l y_OutcomeSet_add w_OutcomeSet_add ({ frames := 3, cells := 5, slots := 4 * M + M * E, locals := 120 }) (va_Pc [.ref h0, .long rk, .int vk] (fun U => U.heap.size = sz ∧ va_P (dC, dI) classes [oc h0 3 [.int (nI E), .ref h1, .ref h2, .ref h3, .ref h4, .ref h5, .int (nI n), .int sd, .int rd], la h1 k1 C rf, ia h2 k2 C vf, ia h3 k3 C lf, ia h4 k4 (C * E) sf, ia h5 k5 C (fun i => nI (of i))] U.heap ∧ va_K (dC, dI) classes [(k1, .long), (k2, .int), (k3, .int), (k4, .int), (k5, .int)] U ∧ va_D (fun _ => True) [oc h0 3 [.int (nI E), .ref h1, .ref h2, .ref h3, .ref h4, .ref h5, .int (nI n), .int sd, .int rd], la h1 k1 C rf, ia h2 k2 C vf, ia h3 k3 C lf, ia h4 k4 (C * E) sf, ia h5 k5 C (fun i => nI (of i))] ∧ nw U)) (va_Qi (fun (r : Int32) (_ : Unit) => r = 1) (fun _ t9 => ∃ (q1 q2 q3 q4 q5 : Nat) (j1 j2 j3 j4 j5 : ClassId) (rf2 : Nat → Int64) (vf2 lf2 sf2 : Nat → Int32) (of2 : Nat → Nat), (∀ i, i < n → rf2 i = rf i ∧ vf2 i = vf i ∧ lf2 i = lf i) ∧ rf2 n = rk ∧ vf2 n = vk ∧ (∀ i, i < C * E → sf2 i = sf i) ∧ (∃ p, p ≤ n ∧ (∀ i, i < p → ltK (rf (of i)) (vf (of i)) rk vk ∧ of2 i = of i) ∧ of2 p = n ∧ (∀ i, p ≤ i → i < n → ¬ ltK (rf (of i)) (vf (of i)) rk vk ∧ of2 (i + 1) = of i)) ∧ va_P (dC, dI) classes [oc h0 3 [.int (nI E), .ref q1, .ref q2, .ref q3, .ref q4, .ref q5, .int (nI (n + 1)), .int sd, .int rd], la q1 j1 M rf2, ia q2 j2 M vf2, ia q3 j3 M lf2, ia q4 j4 (M * E) sf2, ia q5 j5 M (fun i => nI (of2 i))] t9.heap ∧ va_K (dC, dI) classes [(j1, .long), (j2, .int), (j3, .int), (j4, .int), (j5, .int)] t9 ∧ va_D (va_A [oc h0 3 [.int (nI E), .ref h1, .ref h2, .ref h3, .ref h4, .ref h5, .int (nI n), .int sd, .int rd], la h1 k1 C rf, ia h2 k2 C vf, ia h3 k3 C lf, ia h4 k4 (C * E) sf, ia h5 k5 C (fun i => nI (of i))] sz) [oc h0 3 [.int (nI E), .ref q1, .ref q2, .ref q3, .ref q4, .ref q5, .int (nI (n + 1)), .int sd, .int rd], la q1 j1 M rf2, ia q2 j2 M vf2, ia q3 j3 M lf2, ia q4 j4 (M * E) sf2, ia q5 j5 M (fun i => nI (of2 i))]) (va_A [oc h0 3 [.int (nI E), .ref h1, .ref h2, .ref h3, .ref h4, .ref h5, .int (nI n), .int sd, .int rd], la h1 k1 C rf, ia h2 k2 C vf, ia h3 k3 C lf, ia h4 k4 (C * E) sf, ia h5 k5 C (fun i => nI (of i))] sz)) 5 (4 * M + M * E) (va_A [oc h0 3 [.int (nI E), .ref h1, .ref h2, .ref h3, .ref h4, .ref h5, .int (nI n), .int sd, .int rd], la h1 k1 C rf, ia h2 k2 C vf, ia h3 k3 C lf, ia h4 k4 (C * E) sf, ia h5 k5 C (fun i => nI (of i))] sz) := by
  refine Met.ofW (cc := b_OutcomeSet_add) (maxL := 5) (ret := (some .boolean)) (by decide) rfl ?_
  intro p e0 s m args below meth c s₁ B hml hv
  obtain ⟨rfl, hsz, hP, hK, hD0, hn⟩ := hv
  have hx := B.exec
  have hb := B.bytes
  have hr := B.returns
  have hw := fun w (h : w ∈ wt) => atoms_spec (ws := w_OutcomeSet_add) B.pre w (List.mem_cons_of_mem _ h)
  have hown : s.vm.findClass R_OutcomeSet = some m.cls := findClass_of_methodNamed B.named
  have hlocks := B.notSynchronized
  subst hsz
  have hD1 := hD0.self (sz := s.heap.size)
  generalize hAe : va_A [oc h0 3 [.int (nI E), .ref h1, .ref h2, .ref h3, .ref h4, .ref h5, .int (nI n), .int sd, .int rd], la h1 k1 C rf, ia h2 k2 C vf, ia h3 k3 C lf, ia h4 k4 (C * E) sf, ia h5 k5 C (fun i => nI (of i))] s.heap.size = A at hD1 ⊢
  have hA : ∀ q : Nat, s.heap.size ≤ q → A q := fun q h => by rw [← hAe]; exact Or.inr h
  have hD : dd A [h0, h1, h2, h3, h4, h5] := dd_of hD1 rfl
  clear hAe hD0 hD1
  have hS : va_S A s.heap s.heap [] := va_S.rf
  replace hP : va_P (dC, dI) classes [oc h0 3 [.int (nI E), .ref h1, .ref h2, .ref h3, .ref h4, .ref h5, .int (nI n), .int sd, .int rd], la h1 k1 C rf, ia h2 k2 C vf, ia h3 k3 C lf, ia h4 k4 (C * E) sf, ia h5 k5 C (fun i => nI (of i))] s.heap := hP
  have hl := lv_entry ([.ref h0, .long rk, .int vk]) (n := 5) (Nat.le_of_ble_eq_true rfl)
  rw [lg_entry_eq]
  generalize (lg_sl ([.ref h0, .long rk, .int vk]) ++ List.replicate (5 - (lg_sl ([.ref h0, .long rk, .int vk])).length) Slot.unset).toArray = ls at hl ⊢
  replace hl : lv_has ls 5 [(0, .ref h0), (1, .long rk), (3, .int vk)] := hl
  refine lv_aload_n hx hb d_OutcomeSet_add_0 rfl (lv_at hl 0 rfl) ?_
  refine lv_lload_n hx hb d_OutcomeSet_add_1 rfl (lv_at hl 1 rfl) ?_
  refine lv_iload_n hx hb d_OutcomeSet_add_2 rfl (lv_at hl 2 rfl) ?_
  obtain ⟨hPc, hDc, hFc⟩ := cut3 (wc := [oc h0 3 [.int (nI E), .ref h1, .ref h2, .ref h3, .ref h4, .ref h5, .int (nI n), .int sd, .int rd], la h1 k1 C rf, ia h2 k2 C vf, ia h5 k5 C (fun i => nI (of i))]) hP hD rfl hS hA [0, 1, 2, 5] (by decide +kernel) rfl
  have hKc := hK.sub (tys' := [(k1, .long), (k2, .int), (k5, .int)]) [0, 1, 4] rfl
  refine va_calli (va_runV (As := [.long rk, .int vk]) (rest := []) ⟨hx, hb, hml, hown, hw⟩ (gen_OutcomeSet_firstNotLess l dC dI h0 h1 h2 h3 h4 h5 E n C sd rd k1 k2 k5 rf vf of rk vk (by omega) hnC hof hmo s.heap.size) (cw_V 2 hw g_OutcomeSet_firstNotLess rfl rfl rfl (hw _ m_108) (hw _ m_620) (hw _ m_622) (hw _ m_17) (by decide +kernel) ⟨Nat.le_of_ble_eq_true rfl, Nat.le_of_ble_eq_true rfl⟩) ⟨fun a U g mk q => by obtain ⟨q0, q1, qP, qK, qD, qN⟩ := q; exact ⟨q0, q1, qP, va_K.moved (u := U) (U := U.calling g mk a) (Vm.Alike.refl U.vm) qK, qD, nw_call qN⟩, va_recv hKc hPc (ci := 3) (q0 := 0) rfl rfl, fun U hU hW => ⟨rfl, by rw [hU], by rw [hU]; exact hPc, va_K.moved hW.alike hKc, hDc.weaken (fun _ _ _ _ => trivial), nw_warm hW hn⟩⟩ rfl rfl hl.1 rfl (lv_room (Nat.le_of_ble_eq_true rfl)) d_OutcomeSet_add_3 ⟨Nat.zero_le _, Nat.zero_le _⟩) hS (fun q _ h => hFc q h) hFc ?_
  intro r_1 u t9 H1 locs1 ht9 hvm hw1 hB hz1 hk1 hS1
  obtain ⟨hP1, hK1, hD1⟩ := hB
  rw [ht9] at hP1
  replace hK1 := va_K.moved hvm.symm hK1
  have hPD := join3 hP hD rfl [0, 1, 2, 5] [3, 4] rfl (by rfl) (by decide +kernel) (by decide +kernel) hk1 hFc hP1 hD1
  replace hK : va_K (dC, dI) classes [(k1, .long), (k2, .int), (k3, .int), (k4, .int), (k5, .int)] s := hK.app hK1
  clear hP1 hK1 hD1 hk1 hz1 hFc hKc hDc hPc hvm ht9 hP hS t9
  have hP : va_P (dC, dI) classes [ia h3 k3 C lf, ia h4 k4 (C * E) sf, oc h0 3 [.int (nI E), .ref h1, .ref h2, .ref h3, .ref h4, .ref h5, .int (nI n), .int sd, .int rd], la h1 k1 C rf, ia h2 k2 C vf, ia h5 k5 C (fun i => nI (of i))] H1 := hPD.1
  replace hD : dd A [h3, h4, h0, h1, h2, h5] := dd_of hPD.2 rfl
  clear hPD
  revert H1 locs1
  intro H locs hS hP
  obtain ⟨p, hrp, hp1, hp2, hp3⟩ := hw1
  refine tp_i (y := nI p) (hrp) ?_
  clear hrp
  refine tp_pc (pc' := 6) (by rfl) ?_
  refine lv_istore (lv' := [(4, .int (nI p)), (0, .ref h0), (1, .long rk), (3, .int vk)]) hx hb d_OutcomeSet_add_6 hl (by decide) rfl ?_
  clear hl ls
  intro ls hl
  refine lv_aload_n hx hb d_OutcomeSet_add_8 rfl (lv_at hl 1 rfl) ?_
  refine lv_iload hx hb d_OutcomeSet_add_9 (lv_at hl 0 rfl) ?_
  refine lv_lload_n hx hb d_OutcomeSet_add_11 rfl (lv_at hl 2 rfl) ?_
  refine lv_iload_n hx hb d_OutcomeSet_add_12 rfl (lv_at hl 3 rfl) ?_
  obtain ⟨hPc, hDc, hFc⟩ := cut3 (wc := [oc h0 3 [.int (nI E), .ref h1, .ref h2, .ref h3, .ref h4, .ref h5, .int (nI n), .int sd, .int rd], la h1 k1 C rf, ia h2 k2 C vf, ia h5 k5 C (fun i => nI (of i))]) hP hD rfl hS hA [2, 3, 4, 5] (by decide +kernel) rfl
  have hKc := hK.sub (tys' := [(k1, .long), (k2, .int), (k5, .int)]) [0, 1, 4] rfl
  refine va_calli (va_runV (As := [.int (nI p), .long rk, .int vk]) (rest := []) ⟨hx, hb, hml, hown, hw⟩ (gen_OutcomeSet_isAt l dC dI h0 h1 h2 h3 h4 h5 E n C sd rd k1 k2 k5 rf vf of rk vk p (by omega) hnC hof hp1 H.size) (cw_V 3 hw g_OutcomeSet_isAt rfl rfl rfl (hw _ m_108) (hw _ m_624) (hw _ m_626) (hw _ m_18) (by decide +kernel) ⟨Nat.le_of_ble_eq_true rfl, Nat.le_of_ble_eq_true rfl⟩) ⟨fun a U g mk q => by obtain ⟨q0, q1, qP, qK, qD, qN⟩ := q; exact ⟨q0, q1, qP, va_K.moved (u := U) (U := U.calling g mk a) (Vm.Alike.refl U.vm) qK, qD, nw_call qN⟩, va_recv hKc hPc (ci := 3) (q0 := 0) rfl rfl, fun U hU hW => ⟨rfl, by rw [hU], by rw [hU]; exact hPc, va_K.moved hW.alike hKc, hDc.weaken (fun _ _ _ _ => trivial), nw_warm hW hn⟩⟩ rfl rfl hl.1 rfl (lv_room (Nat.le_of_ble_eq_true rfl)) d_OutcomeSet_add_13 ⟨Nat.zero_le _, Nat.zero_le _⟩) hS (fun q _ h => hFc q h) hFc ?_
  intro r_2 u t9 H1 locs1 ht9 hvm hw1 hB hz1 hk1 hS1
  obtain ⟨hP1, hK1, hD1⟩ := hB
  rw [ht9] at hP1
  replace hK1 := va_K.moved hvm.symm hK1
  have hPD := join3 hP hD rfl [2, 3, 4, 5] [0, 1] rfl (by rfl) (by decide +kernel) (by decide +kernel) hk1 hFc hP1 hD1
  replace hK : va_K (dC, dI) classes [(k1, .long), (k2, .int), (k3, .int), (k4, .int), (k5, .int)] s := hK.app hK1
  clear hP1 hK1 hD1 hk1 hz1 hFc hKc hDc hPc hvm ht9 hP hS t9 locs H
  have hP : va_P (dC, dI) classes [ia h3 k3 C lf, ia h4 k4 (C * E) sf, oc h0 3 [.int (nI E), .ref h1, .ref h2, .ref h3, .ref h4, .ref h5, .int (nI n), .int sd, .int rd], la h1 k1 C rf, ia h2 k2 C vf, ia h5 k5 C (fun i => nI (of i))] H1 := hPD.1
  replace hD : dd A [h3, h4, h0, h1, h2, h5] := dd_of hPD.2 rfl
  clear hPD
  revert H1 locs1
  intro H locs hS hP
  have hr1 : r_2 = 0 := by rcases hw1 with q | q; (exact absurd q.2.2 (hno p q.2.1)); (exact q.1)
  refine tp_i (y := 0) hr1 ?_
  refine tp_pc (pc' := 16) (by rfl) ?_
  refine lv_if_eq (tgt := 21) hx hb d_OutcomeSet_add_16 (by decide) (fun c_3 => ?_) (fun c_3 => absurd c_3 (by decide))
  refine tp_pc (pc' := 21) (by rfl) ?_
  refine lv_aload_n hx hb d_OutcomeSet_add_21 rfl (lv_at hl 1 rfl) ?_
  refine va_get (D := (dC, dI)) (ci := 3) (v := .int (nI n)) (C := R_OutcomeSet) (T := F_OutcomeSet) (N := 9) hx hb hw i_OutcomeSet hown hK hP 2 rfl rfl 6 (by decide) (hw _ m_384) (fun _ h9 => h9) rfl d_OutcomeSet_add_22 ?_
  refine lv_aload_n hx hb d_OutcomeSet_add_25 rfl (lv_at hl 1 rfl) ?_
  refine va_get (D := (dC, dI)) (ci := 3) (v := .ref h5) (C := R_OutcomeSet) (T := F_OutcomeSet) (N := 9) hx hb hw i_OutcomeSet hown hK hP 2 rfl rfl 5 (by decide) (hw _ m_383) (fun _ h9 => h9) rfl d_OutcomeSet_add_26 ?_
  refine va_alen (D := (dC, dI)) hx hb hK hP 5 4 rfl rfl (v := nI C) (by rfl) d_OutcomeSet_add_29 ?_
  refine lv_icmp_lt (tgt := 37) hx hb d_OutcomeSet_add_30 (by decide) (fun c9 => absurd ((nI_ltI (a := n) (b := C) (by omega) (by omega)).mp c9) (by omega)) (fun c9 => ?_)
  have hc9 : ¬ (n < C) := fun q9 => c9 ((nI_ltI (a := n) (b := C) (by omega) (by omega)).mpr q9)
  have hMn : C < M ∧ M ≤ 131072 := by subst hM; split <;> omega
  refine tp_pc (pc' := 33) (by rfl) ?_
  refine lv_aload_n hx hb d_OutcomeSet_add_33 rfl (lv_at hl 1 rfl) ?_
  obtain ⟨hPc, hDc, hFc⟩ := cut3 (wc := [oc h0 3 [.int (nI E), .ref h1, .ref h2, .ref h3, .ref h4, .ref h5, .int (nI n), .int sd, .int rd], la h1 k1 C rf, ia h2 k2 C vf, ia h3 k3 C lf, ia h4 k4 (C * E) sf, ia h5 k5 C (fun i => nI (of i))]) hP hD rfl hS hA [2, 3, 4, 0, 1, 5] (by decide +kernel) rfl
  have hKc := hK.sub (tys' := [(k1, .long), (k2, .int), (k3, .int), (k4, .int), (k5, .int)]) [0, 1, 2, 3, 4] rfl
  refine va_callv (va_runV (As := []) (rest := []) ⟨hx, hb, hml, hown, hw⟩ (gen_OutcomeSet_grow0 l dC dI h0 h1 h2 h3 h4 h5 E n C sd rd k1 k2 k3 k4 k5 rf vf lf sf of M hnn hM hC hE H.size) (cw_V 0 hw g_OutcomeSet_grow rfl rfl rfl (hw _ m_108) (hw _ m_628) (hw _ m_630) (hw _ m_19) (by decide +kernel) ⟨Nat.le_of_ble_eq_true rfl, Nat.le_of_ble_eq_true rfl⟩) ⟨fun a U g mk q => by obtain ⟨q0, q1, qP, qK, qD, qN⟩ := q; exact ⟨q0, q1, qP, va_K.moved (u := U) (U := U.calling g mk a) (Vm.Alike.refl U.vm) qK, qD, nw_call qN⟩, va_recv hKc hPc (ci := 3) (q0 := 0) rfl rfl, fun U hU hW => ⟨rfl, by rw [hU], by rw [hU]; exact hPc, va_K.moved hW.alike hKc, hDc.weaken (fun _ _ _ _ => trivial), nw_warm hW hn⟩⟩ rfl rfl hl.1 rfl (lv_room (Nat.le_of_ble_eq_true rfl)) d_OutcomeSet_add_34 ⟨by show 0 + 5 ≤ 5; omega, by show 0 + (4 * M + M * E) ≤ 4 * M + M * E; omega⟩) hS (fun q _ h => hFc q h) hFc ?_
  intro u t9 H1 locs1 ht9 hvm hw1 hB hz1 hk1 hS1
  obtain ⟨q1, q2, q3, q4, q5, j1, j2, j3, j4, j5, rg, vg, lg, sg, og, gr, gv, gl, gs, go, hP1, hK1, hD1⟩ := hB
  rw [ht9] at hP1
  replace hK1 := va_K.moved hvm.symm hK1
  have hPD := join3 hP hD rfl [2, 3, 4, 0, 1, 5] [] rfl (by rfl) (by decide +kernel) (by decide +kernel) hk1 hFc hP1 hD1
  replace hK : va_K (dC, dI) classes [(k1, .long), (k2, .int), (k3, .int), (k4, .int), (k5, .int), (j1, .long), (j2, .int), (j3, .int), (j4, .int), (j5, .int)] s := hK.app hK1
  clear hP1 hK1 hD1 hk1 hz1 hFc hKc hDc hPc hvm ht9 hP hS t9 locs H
  have hP : va_P (dC, dI) classes [oc h0 3 [.int (nI E), .ref q1, .ref q2, .ref q3, .ref q4, .ref q5, .int (nI n), .int sd, .int rd], la q1 j1 M rg, ia q2 j2 M vg, ia q3 j3 M lg, ia q4 j4 (M * E) sg, ia q5 j5 M (fun i => nI (og i))] H1 := hPD.1
  replace hD : dd A [h0, q1, q2, q3, q4, q5] := dd_of hPD.2 rfl
  clear hPD
  revert H1 locs1
  intro H locs hS hP
  clear hw1 u
  refine W.widen (k := 5) (n := 4 * M + M * E) (by first | exact Nat.le_refl _ | omega) (by first | exact Nat.le_refl _ | omega) ?_
  refine tp_pc (pc' := 37) (by rfl) ?_
  refine lv_aload_n hx hb d_OutcomeSet_add_37 rfl (lv_at hl 1 rfl) ?_
  refine va_get (D := (dC, dI)) (ci := 3) (v := .ref q1) (C := R_OutcomeSet) (T := F_OutcomeSet) (N := 9) hx hb hw i_OutcomeSet hown hK hP 0 rfl rfl 1 (by decide) (hw _ m_379) (fun _ h9 => h9) rfl d_OutcomeSet_add_38 ?_
  refine lv_aload_n hx hb d_OutcomeSet_add_41 rfl (lv_at hl 1 rfl) ?_
  refine va_get (D := (dC, dI)) (ci := 3) (v := .int (nI n)) (C := R_OutcomeSet) (T := F_OutcomeSet) (N := 9) hx hb hw i_OutcomeSet hown hK hP 0 rfl rfl 6 (by decide) (hw _ m_384) (fun _ h9 => h9) rfl d_OutcomeSet_add_42 ?_
  refine lv_lload_n hx hb d_OutcomeSet_add_45 rfl (lv_at hl 2 rfl) ?_
  refine va_last (D := (dC, dI)) hx hb hK hP (dd_D hD rfl) hS 1 5 rfl rfl (i := nI n) (x := rk) (pk_in n M (by omega)) d_OutcomeSet_add_46 ?_
  clear hP hS locs H
  intro H locs hP _ hS
  rw [show (nI n : Int32).toNatClampNeg = n from pk_cl n] at hP
  replace hP : va_P (dC, dI) classes [oc h0 3 [.int (nI E), .ref q1, .ref q2, .ref q3, .ref q4, .ref q5, .int (nI n), .int sd, .int rd], la q1 j1 M (vp_updL rg n rk), ia q2 j2 M vg, ia q3 j3 M lg, ia q4 j4 (M * E) sg, ia q5 j5 M (fun i => nI (og i))] H := hP
  refine tp_pc (pc' := 47) (by rfl) ?_
  refine lv_aload_n hx hb d_OutcomeSet_add_47 rfl (lv_at hl 1 rfl) ?_
  refine va_get (D := (dC, dI)) (ci := 3) (v := .ref q2) (C := R_OutcomeSet) (T := F_OutcomeSet) (N := 9) hx hb hw i_OutcomeSet hown hK hP 0 rfl rfl 2 (by decide) (hw _ m_380) (fun _ h9 => h9) rfl d_OutcomeSet_add_48 ?_
  refine lv_aload_n hx hb d_OutcomeSet_add_51 rfl (lv_at hl 1 rfl) ?_
  refine va_get (D := (dC, dI)) (ci := 3) (v := .int (nI n)) (C := R_OutcomeSet) (T := F_OutcomeSet) (N := 9) hx hb hw i_OutcomeSet hown hK hP 0 rfl rfl 6 (by decide) (hw _ m_384) (fun _ h9 => h9) rfl d_OutcomeSet_add_52 ?_
  refine lv_iload_n hx hb d_OutcomeSet_add_55 rfl (lv_at hl 3 rfl) ?_
  refine va_iast (D := (dC, dI)) hx hb hK hP (dd_D hD rfl) hS 2 6 rfl rfl (i := nI n) (x := vk) (pk_in n M (by omega)) d_OutcomeSet_add_56 ?_
  clear hP hS locs H
  intro H locs hP _ hS
  rw [show (nI n : Int32).toNatClampNeg = n from pk_cl n] at hP
  replace hP : va_P (dC, dI) classes [oc h0 3 [.int (nI E), .ref q1, .ref q2, .ref q3, .ref q4, .ref q5, .int (nI n), .int sd, .int rd], la q1 j1 M (vp_updL rg n rk), ia q2 j2 M (upd vg n vk), ia q3 j3 M lg, ia q4 j4 (M * E) sg, ia q5 j5 M (fun i => nI (og i))] H := hP
  refine tp_pc (pc' := 57) (by rfl) ?_
  refine lv_aload_n hx hb d_OutcomeSet_add_57 rfl (lv_at hl 1 rfl) ?_
  refine va_get (D := (dC, dI)) (ci := 3) (v := .ref q3) (C := R_OutcomeSet) (T := F_OutcomeSet) (N := 9) hx hb hw i_OutcomeSet hown hK hP 0 rfl rfl 3 (by decide) (hw _ m_381) (fun _ h9 => h9) rfl d_OutcomeSet_add_58 ?_
  refine lv_aload_n hx hb d_OutcomeSet_add_61 rfl (lv_at hl 1 rfl) ?_
  refine va_get (D := (dC, dI)) (ci := 3) (v := .int (nI n)) (C := R_OutcomeSet) (T := F_OutcomeSet) (N := 9) hx hb hw i_OutcomeSet hown hK hP 0 rfl rfl 6 (by decide) (hw _ m_384) (fun _ h9 => h9) rfl d_OutcomeSet_add_62 ?_
  refine lv_iconst (v := 0) hx hb d_OutcomeSet_add_65 (by decide) ?_
  refine va_iast (D := (dC, dI)) hx hb hK hP (dd_D hD rfl) hS 3 7 rfl rfl (i := nI n) (x := 0) (pk_in n M (by omega)) d_OutcomeSet_add_66 ?_
  clear hP hS locs H
  intro H locs hP _ hS
  rw [show (nI n : Int32).toNatClampNeg = n from pk_cl n] at hP
  replace hP : va_P (dC, dI) classes [oc h0 3 [.int (nI E), .ref q1, .ref q2, .ref q3, .ref q4, .ref q5, .int (nI n), .int sd, .int rd], la q1 j1 M (vp_updL rg n rk), ia q2 j2 M (upd vg n vk), ia q3 j3 M (upd lg n 0), ia q4 j4 (M * E) sg, ia q5 j5 M (fun i => nI (og i))] H := hP
  refine tp_pc (pc' := 67) (by rfl) ?_
  refine lv_aload_n hx hb d_OutcomeSet_add_67 rfl (lv_at hl 1 rfl) ?_
  refine va_get (D := (dC, dI)) (ci := 3) (v := .ref q5) (C := R_OutcomeSet) (T := F_OutcomeSet) (N := 9) hx hb hw i_OutcomeSet hown hK hP 0 rfl rfl 5 (by decide) (hw _ m_383) (fun _ h9 => h9) rfl d_OutcomeSet_add_68 ?_
  refine lv_iload hx hb d_OutcomeSet_add_71 (lv_at hl 0 rfl) ?_
  refine lv_aload_n hx hb d_OutcomeSet_add_73 rfl (lv_at hl 1 rfl) ?_
  refine va_get (D := (dC, dI)) (ci := 3) (v := .ref q5) (C := R_OutcomeSet) (T := F_OutcomeSet) (N := 9) hx hb hw i_OutcomeSet hown hK hP 0 rfl rfl 5 (by decide) (hw _ m_383) (fun _ h9 => h9) rfl d_OutcomeSet_add_74 ?_
  refine lv_iload hx hb d_OutcomeSet_add_77 (lv_at hl 0 rfl) ?_
  refine lv_iconst (v := 1) hx hb d_OutcomeSet_add_79 (by decide) ?_
  refine lv_iadd hx hb d_OutcomeSet_add_80 ?_
  refine tp_i (y := nI (p + 1)) (by exact nI_add p 1) ?_
  refine lv_aload_n hx hb d_OutcomeSet_add_81 rfl (lv_at hl 1 rfl) ?_
  refine va_get (D := (dC, dI)) (ci := 3) (v := .int (nI n)) (C := R_OutcomeSet) (T := F_OutcomeSet) (N := 9) hx hb hw i_OutcomeSet hown hK hP 0 rfl rfl 6 (by decide) (hw _ m_384) (fun _ h9 => h9) rfl d_OutcomeSet_add_82 ?_
  refine lv_iload hx hb d_OutcomeSet_add_85 (lv_at hl 0 rfl) ?_
  refine lv_isub hx hb d_OutcomeSet_add_87 ?_
  refine tp_i (y := nI (n - p)) (by exact pk_sub (a := n) (b := p) (by omega)) ?_
  refine va_copyi hx hb (hml.trans hl.1.symm) hown (hw _ m_642) (hw _ m_534) (hw _ m_533) (hw _ m_112) hK hP (dd_D hD rfl) hS 5 5 9 9 rfl rfl rfl rfl rfl (sp := nI p) (dp := nI (p + 1)) (n := nI (n - p)) (nI_pos (by omega)) (nI_pos (by omega)) (nI_pos (by omega)) (by rw [nI_clamp (by omega), nI_clamp (by omega)]; omega) (by rw [nI_clamp (by omega), nI_clamp (by omega)]; omega) (fun i hi => rfl) (Nat.le_of_ble_eq_true rfl) (by exact Nat.le_of_ble_eq_true rfl) d_OutcomeSet_add_88 ?_
  clear hP hS locs H
  intro H locs hP _ hS
  rw [nI_clamp (by omega : p < 2 ^ 31), nI_clamp (by omega : p + 1 < 2 ^ 31), nI_clamp (by omega : n - p < 2 ^ 31), cpy_sh] at hP
  replace hP : va_P (dC, dI) classes [oc h0 3 [.int (nI E), .ref q1, .ref q2, .ref q3, .ref q4, .ref q5, .int (nI n), .int sd, .int rd], la q1 j1 M (vp_updL rg n rk), ia q2 j2 M (upd vg n vk), ia q3 j3 M (upd lg n 0), ia q4 j4 (M * E) sg, ia q5 j5 M (fun i => nI ((shN og p (n - p)) i))] H := hP
  refine tp_pc (pc' := 91) (by rfl) ?_
  refine lv_aload_n hx hb d_OutcomeSet_add_91 rfl (lv_at hl 1 rfl) ?_
  refine va_get (D := (dC, dI)) (ci := 3) (v := .ref q5) (C := R_OutcomeSet) (T := F_OutcomeSet) (N := 9) hx hb hw i_OutcomeSet hown hK hP 0 rfl rfl 5 (by decide) (hw _ m_383) (fun _ h9 => h9) rfl d_OutcomeSet_add_92 ?_
  refine lv_iload hx hb d_OutcomeSet_add_95 (lv_at hl 0 rfl) ?_
  refine lv_aload_n hx hb d_OutcomeSet_add_97 rfl (lv_at hl 1 rfl) ?_
  refine va_get (D := (dC, dI)) (ci := 3) (v := .int (nI n)) (C := R_OutcomeSet) (T := F_OutcomeSet) (N := 9) hx hb hw i_OutcomeSet hown hK hP 0 rfl rfl 6 (by decide) (hw _ m_384) (fun _ h9 => h9) rfl d_OutcomeSet_add_98 ?_
  refine va_iast (D := (dC, dI)) hx hb hK hP (dd_D hD rfl) hS 5 9 rfl rfl (i := nI p) (x := nI n) (pk_in p M (by omega)) d_OutcomeSet_add_101 ?_
  clear hP hS locs H
  intro H locs hP _ hS
  rw [show (nI p : Int32).toNatClampNeg = p from pk_cl p] at hP
  rw [show upd (fun i => nI ((shN og p (n - p)) i)) p (nI n) = fun i => nI (updN (shN og p (n - p)) p n i) from upd_nI] at hP
  replace hP : va_P (dC, dI) classes [oc h0 3 [.int (nI E), .ref q1, .ref q2, .ref q3, .ref q4, .ref q5, .int (nI n), .int sd, .int rd], la q1 j1 M (vp_updL rg n rk), ia q2 j2 M (upd vg n vk), ia q3 j3 M (upd lg n 0), ia q4 j4 (M * E) sg, ia q5 j5 M (fun i => nI ((updN (shN og p (n - p)) p n) i))] H := hP
  refine tp_pc (pc' := 102) (by rfl) ?_
  refine lv_aload_n hx hb d_OutcomeSet_add_102 rfl (lv_at hl 1 rfl) ?_
  refine lv_dup hx hb d_OutcomeSet_add_103 rfl ?_
  refine va_get (D := (dC, dI)) (ci := 3) (v := .int (nI n)) (C := R_OutcomeSet) (T := F_OutcomeSet) (N := 9) hx hb hw i_OutcomeSet hown hK hP 0 rfl rfl 6 (by decide) (hw _ m_384) (fun _ h9 => h9) rfl d_OutcomeSet_add_104 ?_
  refine lv_iconst (v := 1) hx hb d_OutcomeSet_add_107 (by decide) ?_
  refine lv_iadd hx hb d_OutcomeSet_add_108 ?_
  refine tp_i (y := nI (n + 1)) (by exact nI_add n 1) ?_
  refine va_put (D := (dC, dI)) (ci := 3) (v := .int (nI (n + 1))) (ty := .int) (C := R_OutcomeSet) (T := F_OutcomeSet) (N := 9) hx hb hw i_OutcomeSet t_OutcomeSet t_OutcomeSet_ok n_OutcomeSet hown hK hP (dd_D hD rfl) hS 0 rfl rfl 6 (by decide) (hw _ m_384) (fun _ h9 => h9) rfl (by decide +kernel) rfl rfl (Nat.le_of_ble_eq_true rfl) d_OutcomeSet_add_109 ?_
  clear hP hS locs H
  intro H locs (hP : va_P (dC, dI) classes [oc h0 3 [.int (nI E), .ref q1, .ref q2, .ref q3, .ref q4, .ref q5, .int (nI (n + 1)), .int sd, .int rd], la q1 j1 M (vp_updL rg n rk), ia q2 j2 M (upd vg n vk), ia q3 j3 M (upd lg n 0), ia q4 j4 (M * E) sg, ia q5 j5 M (fun i => nI ((updN (shN og p (n - p)) p n) i))] H) _ hS
  refine tp_pc (pc' := 112) (by rfl) ?_
  refine lv_iconst (v := 1) hx hb d_OutcomeSet_add_112 (by decide) ?_
  have x1 : ∀ i, i < n → (vp_updL rg n rk) i = rf i ∧ (upd vg n vk) i = vf i ∧ (upd lg n 0) i = lf i := fun i hi => by
    refine ⟨?_, ?_, ?_⟩
    · rw [pk_uLn (by omega)]; exact gr i (by omega)
    · rw [pk_un (by omega)]; exact gv i (by omega)
    · rw [pk_un (by omega)]; exact gl i (by omega)
  have x2 : ∃ y, y ≤ n ∧ (∀ i, i < y → ltK (rf (of i)) (vf (of i)) rk vk ∧ (updN (shN og p (n - p)) p n) i = of i) ∧ (updN (shN og p (n - p)) p n) y = n ∧ (∀ i, y ≤ i → i < n → ¬ ltK (rf (of i)) (vf (of i)) rk vk ∧ (updN (shN og p (n - p)) p n) (i + 1) = of i) := by
    refine ⟨p, hp1, fun i hi => ⟨hp2 i hi, ?_⟩, if_pos rfl, fun i a b => ⟨hp3 i a b, ?_⟩⟩
    · show updN (shN og p (n - p)) p n i = of i; rw [updN, if_neg (by omega), shN, if_neg (by omega)]; exact go i (by omega)
    · show updN (shN og p (n - p)) p n (i + 1) = of i; rw [updN, if_neg (by omega), shN, if_pos (by omega), Nat.add_sub_cancel]; exact go i (by omega)
  obtain ⟨hP9, hD9, -⟩ := cut3 (wc := [oc h0 3 [.int (nI E), .ref q1, .ref q2, .ref q3, .ref q4, .ref q5, .int (nI (n + 1)), .int sd, .int rd], la q1 j1 M (vp_updL rg n rk), ia q2 j2 M (upd vg n vk), ia q3 j3 M (upd lg n 0), ia q4 j4 (M * E) sg, ia q5 j5 M (fun i => nI ((updN (shN og p (n - p)) p n) i))]) hP hD rfl hS hA [0, 1, 2, 3, 4, 5] (by decide +kernel) rfl
  have hK9 := hK.sub (tys' := [(j1, .long), (j2, .int), (j3, .int), (j4, .int), (j5, .int)]) [5, 6, 7, 8, 9] rfl
  refine W.widen (k := 5) (n := 4 * M + M * E) (by first | exact Nat.le_refl _ | omega) (by first | exact Nat.le_refl _ | omega) ?_
  exact W.zret (v := 1) (ty := .boolean) hx hb hr (by decide) (fun t9 ht9 hW => ⟨⟨1, (), rfl, rfl, q1, q2, q3, q4, q5, j1, j2, j3, j4, j5, (vp_updL rg n rk), (upd vg n vk), (upd lg n 0), sg, (updN (shN og p (n - p)) p n), x1, pk_uLs, pk_us, gs, x2, by rw [ht9]; exact hP9, va_K.moved hW.alike hK9, hD9⟩, hS.F ht9⟩) hS.2.2 d_OutcomeSet_add_113
