set_option maxHeartbeats 4000000 in
set_option maxRecDepth 100000 in
theorem gen_StateSet_add_has (l : Launch) (dC : Nat → ClassId) (dI : Nat → Nat → Nat) (h0 h1 h2 : Nat) (n e : Nat) (kk ks : ClassId) (KL SL : Nat) (kf : Nat → Int64) (sf : Nat → Int32) (g : Nat → Nat) (key : Int64) (he : e ≤ 22) (hSL : 2 ^ e ≤ SL) (hS3 : SL < 2 ^ 31) (hK3 : KL < 2 ^ 23) (hn9 : n ≤ KL) (hn2 : 2 * n ≤ 2 ^ e) (hn20 : n < 1048576) (hg : ∀ i, i < 2 ^ e → sf i = nI (g i)) (hT : inT (2 ^ e) (fun k => hsh k e) n kf g) (j : Nat) (hj : j < n) (hjk : kf j = key) (sz : Nat) : Met l y_StateSet_add w_StateSet_add ({ frames := 2, cells := 0, slots := 0, locals := 80 }) (va_Pc [.ref h0, .long key] (fun U => U.heap.size = sz ∧ va_P (dC, dI) classes [oc h0 2 [.ref h1, .ref h2, .int (nI n), .int (nI (2 ^ e))], la h1 kk KL kf, ia h2 ks SL sf] U.heap ∧ va_K (dC, dI) classes [(kk, .long), (ks, .int)] U ∧ va_D (fun _ => True) [oc h0 2 [.ref h1, .ref h2, .int (nI n), .int (nI (2 ^ e))], la h1 kk KL kf, ia h2 ks SL sf] ∧ nw U)) (va_Qi (fun (r : Int32) (_ : Unit) => r = 0) (fun _ t9 => va_P (dC, dI) classes [oc h0 2 [.ref h1, .ref h2, .int (nI n), .int (nI (2 ^ e))], la h1 kk KL kf, ia h2 ks SL sf] t9.heap ∧ va_K (dC, dI) classes [(kk, .long), (ks, .int)] t9 ∧ va_D (va_A [oc h0 2 [.ref h1, .ref h2, .int (nI n), .int (nI (2 ^ e))], la h1 kk KL kf, ia h2 ks SL sf] sz) [oc h0 2 [.ref h1, .ref h2, .int (nI n), .int (nI (2 ^ e))], la h1 kk KL kf, ia h2 ks SL sf]) (va_A [oc h0 2 [.ref h1, .ref h2, .int (nI n), .int (nI (2 ^ e))], la h1 kk KL kf, ia h2 ks SL sf] sz)) 0 0 (va_A [oc h0 2 [.ref h1, .ref h2, .int (nI n), .int (nI (2 ^ e))], la h1 kk KL kf, ia h2 ks SL sf] sz) := by
  refine Met.ofW (cc := b_StateSet_add) (maxL := 4) (ret := (some .boolean)) (by decide) rfl ?_
  intro p e0 s m args below meth c s₁ B hml hv
  obtain ⟨rfl, hsz, hP, hK, hD0, hn⟩ := hv
  have hx := B.exec
  have hb := B.bytes
  have hr := B.returns
  have hw := fun w (h : w ∈ wt) => atoms_spec (ws := w_StateSet_add) B.pre w (List.mem_cons_of_mem _ h)
  have hown : s.vm.findClass R_StateSet = some m.cls := findClass_of_methodNamed B.named
  have hlocks := B.notSynchronized
  subst hsz
  have hD1 := hD0.self (sz := s.heap.size)
  generalize hAe : va_A [oc h0 2 [.ref h1, .ref h2, .int (nI n), .int (nI (2 ^ e))], la h1 kk KL kf, ia h2 ks SL sf] s.heap.size = A at hD1 ⊢
  have hA : ∀ q : Nat, s.heap.size ≤ q → A q := fun q h => by rw [← hAe]; exact Or.inr h
  have hD : dd A [h0, h1, h2] := dd_of hD1 rfl
  clear hAe hD0 hD1
  have hS : va_S A s.heap s.heap [] := va_S.rf
  replace hP : va_P (dC, dI) classes [oc h0 2 [.ref h1, .ref h2, .int (nI n), .int (nI (2 ^ e))], la h1 kk KL kf, ia h2 ks SL sf] s.heap := hP
  have hl := lv_entry ([.ref h0, .long key]) (n := 4) (Nat.le_of_ble_eq_true rfl)
  rw [lg_entry_eq]
  generalize (lg_sl ([.ref h0, .long key]) ++ List.replicate (4 - (lg_sl ([.ref h0, .long key])).length) Slot.unset).toArray = ls at hl ⊢
  replace hl : lv_has ls 4 [(0, .ref h0), (1, .long key)] := hl
  have hp1 : 2 ^ e ≤ 2 ^ 22 := Nat.pow_le_pow_right (by decide) he
  have hp0 : 0 < 2 ^ e := Nat.two_pow_pos e
  obtain ⟨a, ha, hpr, hga⟩ : ∃ a, a < 2 ^ e ∧ pr (2 ^ e) sf kf key (2 ^ e) (hsh key e) = a ∧ g a = j + 1 := by subst hjk; exact inT_old hT (by omega) (by omega) hg hj (Nat.mod_lt _ hp0)
  refine lv_aload_n hx hb d_StateSet_add_0 rfl (lv_at hl 0 rfl) ?_
  refine lv_lload_n hx hb d_StateSet_add_1 rfl (lv_at hl 1 rfl) ?_
  obtain ⟨hPc, hDc, hFc⟩ := cut3 (wc := [oc h0 2 [.ref h1, .ref h2, .int (nI n), .int (nI (2 ^ e))], la h1 kk KL kf, ia h2 ks SL sf]) hP hD rfl hS hA [0, 1, 2] (by decide +kernel) rfl
  have hKc := hK.sub (tys' := [(kk, .long), (ks, .int)]) [0, 1] rfl
  refine va_calli (va_runV (As := [.long key]) (rest := []) ⟨hx, hb, hml, hown, hw⟩ (gen_StateSet_slotOf l dC dI h0 h1 h2 (nI n) e key kk ks KL SL kf sf (by omega) hSL hS3 (by omega) (fun k hk => ⟨g k, by have := hT.1 k hk; omega, hg k hk⟩) s.heap.size) (cw_V 1 hw g_StateSet_slotOf rfl rfl rfl (hw _ m_104) (hw _ m_488) (hw _ m_490) (hw _ m_3) (by decide +kernel) ⟨Nat.le_of_ble_eq_true rfl, Nat.le_of_ble_eq_true rfl⟩) ⟨fun a U g mk q => by obtain ⟨q0, q1, qP, qK, qD, qN⟩ := q; exact ⟨q0, q1, qP, va_K.moved (u := U) (U := U.calling g mk a) (Vm.Alike.refl U.vm) qK, qD, nw_call qN⟩, va_recv hKc hPc (ci := 2) (q0 := 0) rfl rfl, fun U hU hW => ⟨rfl, by rw [hU], by rw [hU]; exact hPc, va_K.moved hW.alike hKc, hDc.weaken (fun _ _ _ _ => trivial), nw_warm hW hn⟩⟩ rfl rfl hl.1 rfl (lv_room (Nat.le_of_ble_eq_true rfl)) d_StateSet_add_2 ⟨Nat.le_of_ble_eq_true rfl, Nat.le_of_ble_eq_true rfl⟩) hS (fun q _ h => hFc q h) hFc ?_
  intro r_1 u t9 H1 locs1 ht9 hvm hw1 hB hz1 hk1 hS1
  obtain ⟨hP1, hK1, hD1⟩ := hB
  rw [ht9] at hP1
  replace hK1 := va_K.moved hvm.symm hK1
  have hPD := join3 hP hD rfl [0, 1, 2] [] rfl (by rfl) (by decide +kernel) (by decide +kernel) hk1 hFc hP1 hD1
  replace hK : va_K (dC, dI) classes [(kk, .long), (ks, .int)] s := hK.app hK1
  clear hP1 hK1 hD1 hk1 hz1 hFc hKc hDc hPc hvm ht9 hP hS t9
  have hP : va_P (dC, dI) classes [oc h0 2 [.ref h1, .ref h2, .int (nI n), .int (nI (2 ^ e))], la h1 kk KL kf, ia h2 ks SL sf] H1 := hPD.1
  replace hD : dd A [h0, h1, h2] := dd_of hPD.2 rfl
  clear hPD
  revert H1 locs1
  intro H locs hS hP
  refine tp_i (y := nI a) (hw1.trans (congrArg nI hpr)) ?_
  clear hw1 r_1 u
  refine tp_pc (pc' := 5) (by rfl) ?_
  refine lv_istore_n (lv' := [(3, .int (nI a)), (0, .ref h0), (1, .long key)]) hx hb d_StateSet_add_5 rfl hl (by decide) rfl ?_
  clear hl ls
  intro ls hl
  refine lv_aload_n hx hb d_StateSet_add_6 rfl (lv_at hl 1 rfl) ?_
  refine va_get (D := (dC, dI)) (ci := 2) (v := .ref h2) (C := R_StateSet) (T := F_StateSet) (N := 4) hx hb hw i_StateSet hown hK hP 0 rfl rfl 1 (by decide) (hw _ m_231) (fun _ h9 => h9) rfl d_StateSet_add_7 ?_
  refine lv_iload_n hx hb d_StateSet_add_10 rfl (lv_at hl 0 rfl) ?_
  refine va_iald (D := (dC, dI)) hx hb hK hP 2 1 rfl rfl (i := nI a) (pk_in a SL (by omega)) d_StateSet_add_11 ?_
  refine tp_i (y := sf a) (by rw [show (nI a : Int32).toNatClampNeg = a from pk_cl a]) ?_
  refine tp_i (y := nI (j + 1)) (by rw [hg a ha, hga]) ?_
  refine lv_if_ne (tgt := 24) hx hb d_StateSet_add_12 (by decide) (fun c9 => ?_) (fun c9 => absurd c9 (nI_ne0 (Nat.succ_pos j) (by omega)))
  refine tp_pc (pc' := 24) (by rfl) ?_
  refine lv_iconst (v := 0) hx hb d_StateSet_add_24 (by decide) ?_
  obtain ⟨hP9, hD9, -⟩ := cut3 (wc := [oc h0 2 [.ref h1, .ref h2, .int (nI n), .int (nI (2 ^ e))], la h1 kk KL kf, ia h2 ks SL sf]) hP hD rfl hS hA [0, 1, 2] (by decide +kernel) rfl
  have hK9 := hK.sub (tys' := [(kk, .long), (ks, .int)]) [0, 1] rfl
  refine W.widen (k := 0) (n := 0) (by exact Nat.le_of_ble_eq_true rfl) (by exact Nat.le_of_ble_eq_true rfl) ?_
  exact W.zret (v := 0) (ty := .boolean) hx hb hr (by decide) (fun t9 ht9 hW => ⟨⟨0, (), rfl, rfl, by rw [ht9]; exact hP9, va_K.moved hW.alike hK9, hD9⟩, hS.F ht9⟩) hS.2.2 d_StateSet_add_25
set_option maxHeartbeats 4000000 in
set_option maxRecDepth 100000 in
theorem gen_StateSet_empty_new (l : Launch) (dC : Nat → ClassId) (dI : Nat → Nat → Nat) (h0 h1 h2 : Nat) (z0 z1 : Int32) (kk ks : ClassId) (KL SL : Nat) (kf : Nat → Int64) (sf : Nat → Int32) (hS3 : SL < 2 ^ 31) (hK3 : KL < 2 ^ 31) (hlt : SL < 2 ^ 8) (sz : Nat) : Met l y_StateSet_empty w_StateSet_empty ({ frames := 2, cells := 1, slots := 2 ^ 8, locals := 60 }) (va_Pc [.ref h0] (fun U => U.heap.size = sz ∧ va_P (dC, dI) classes [oc h0 2 [.ref h1, .ref h2, .int z0, .int z1], la h1 kk KL kf, ia h2 ks SL sf] U.heap ∧ va_K (dC, dI) classes [(kk, .long), (ks, .int)] U ∧ va_D (fun _ => True) [oc h0 2 [.ref h1, .ref h2, .int z0, .int z1], la h1 kk KL kf, ia h2 ks SL sf] ∧ nw U)) (va_Qv (fun _ : Unit => True) (fun _ t9 => ∃ (q : Nat) (kq : ClassId) (sf2 : Nat → Int32) (g : Nat → Nat), (∀ i, i < 2 ^ 8 → sf2 i = nI (g i)) ∧ inT (2 ^ 8) (fun k => hsh k 8) 0 kf g ∧ va_P (dC, dI) classes [oc h0 2 [.ref h1, .ref q, .int (nI 0), .int (nI (2 ^ 8))], la h1 kk KL kf, ia q kq (2 ^ 8) sf2] t9.heap ∧ va_K (dC, dI) classes [(kq, .int)] t9 ∧ va_D (va_A [oc h0 2 [.ref h1, .ref h2, .int z0, .int z1], la h1 kk KL kf, ia h2 ks SL sf] sz) [oc h0 2 [.ref h1, .ref q, .int (nI 0), .int (nI (2 ^ 8))], la h1 kk KL kf, ia q kq (2 ^ 8) sf2]) (va_A [oc h0 2 [.ref h1, .ref h2, .int z0, .int z1], la h1 kk KL kf, ia h2 ks SL sf] sz)) 1 (2 ^ 8) (va_A [oc h0 2 [.ref h1, .ref h2, .int z0, .int z1], la h1 kk KL kf, ia h2 ks SL sf] sz) := by
  refine Met.ofW (cc := b_StateSet_empty) (maxL := 1) (ret := none) (by decide) rfl ?_
  intro p e0 s m args below meth c s₁ B hml hv
  obtain ⟨rfl, hsz, hP, hK, hD0, hn⟩ := hv
  have hx := B.exec
  have hb := B.bytes
  have hr := B.returns
  have hw := fun w (h : w ∈ wt) => atoms_spec (ws := w_StateSet_empty) B.pre w (List.mem_cons_of_mem _ h)
  have hown : s.vm.findClass R_StateSet = some m.cls := findClass_of_methodNamed B.named
  have hlocks := B.notSynchronized
  subst hsz
  have hD1 := hD0.self (sz := s.heap.size)
  generalize hAe : va_A [oc h0 2 [.ref h1, .ref h2, .int z0, .int z1], la h1 kk KL kf, ia h2 ks SL sf] s.heap.size = A at hD1 ⊢
  have hA : ∀ q : Nat, s.heap.size ≤ q → A q := fun q h => by rw [← hAe]; exact Or.inr h
  have hD : dd A [h0, h1, h2] := dd_of hD1 rfl
  clear hAe hD0 hD1
  have hS : va_S A s.heap s.heap [] := va_S.rf
  replace hP : va_P (dC, dI) classes [oc h0 2 [.ref h1, .ref h2, .int z0, .int z1], la h1 kk KL kf, ia h2 ks SL sf] s.heap := hP
  have hl := lv_entry ([.ref h0]) (n := 1) (Nat.le_of_ble_eq_true rfl)
  rw [lg_entry_eq]
  generalize (lg_sl ([.ref h0]) ++ List.replicate (1 - (lg_sl ([.ref h0])).length) Slot.unset).toArray = ls at hl ⊢
  replace hl : lv_has ls 1 [(0, .ref h0)] := hl
  refine lv_aload_n hx hb d_StateSet_empty_0 rfl (lv_at hl 0 rfl) ?_
  refine lv_iconst (v := 0) hx hb d_StateSet_empty_1 (by decide) ?_
  refine va_put (D := (dC, dI)) (ci := 2) (v := .int 0) (ty := .int) (C := R_StateSet) (T := F_StateSet) (N := 4) hx hb hw i_StateSet t_StateSet t_StateSet_ok n_StateSet hown hK hP (dd_D hD rfl) hS 0 rfl rfl 2 (by decide) (hw _ m_232) (fun _ h9 => h9) rfl (by decide +kernel) rfl rfl (Nat.le_of_ble_eq_true rfl) d_StateSet_empty_2 ?_
  clear hP hS
  intro H locs (hP : va_P (dC, dI) classes [oc h0 2 [.ref h1, .ref h2, .int 0, .int z1], la h1 kk KL kf, ia h2 ks SL sf] H) _ hS
  refine tp_pc (pc' := 5) (by rfl) ?_
  refine lv_aload_n hx hb d_StateSet_empty_5 rfl (lv_at hl 0 rfl) ?_
  refine lv_sipush (v := 256) hx hb d_StateSet_empty_6 (by decide) ?_
  refine tp_i (y := nI (2 ^ 8)) (by decide) ?_
  replace hP : va_P (dC, dI) classes [oc h0 2 [.ref h1, .ref h2, .int (nI 0), .int z1], la h1 kk KL kf, ia h2 ks SL sf] H := hP
  obtain ⟨hPc, hDc, hFc⟩ := cut3 (wc := [oc h0 2 [.ref h1, .ref h2, .int (nI 0), .int z1], la h1 kk KL kf, ia h2 ks SL sf]) hP hD rfl hS hA [0, 1, 2] (by decide +kernel) rfl
  have hKc := hK.sub (tys' := [(kk, .long), (ks, .int)]) [0, 1] rfl
  refine va_callv (va_runV (As := [.int (nI (2 ^ 8))]) (rest := []) ⟨hx, hb, hml, hown, hw⟩ (gen_StateSet_makeRoom_new l dC dI h0 h1 h2 z1 0 8 kk ks KL SL kf sf (by omega) hS3 hK3 (Nat.zero_le _) (by decide) (fun i j h => absurd h (Nat.not_lt_zero i)) hlt H.size) (cw_V 1 hw g_StateSet_makeRoom rfl rfl rfl (hw _ m_104) (hw _ m_484) (hw _ m_486) (hw _ m_2) (by decide +kernel) ⟨Nat.le_of_ble_eq_true rfl, Nat.le_of_ble_eq_true rfl⟩) ⟨fun a U g mk q => by obtain ⟨q0, q1, qP, qK, qD, qN⟩ := q; exact ⟨q0, q1, qP, va_K.moved (u := U) (U := U.calling g mk a) (Vm.Alike.refl U.vm) qK, qD, nw_call qN⟩, va_recv hKc hPc (ci := 2) (q0 := 0) rfl rfl, fun U hU hW => ⟨rfl, by rw [hU], by rw [hU]; exact hPc, va_K.moved hW.alike hKc, hDc.weaken (fun _ _ _ _ => trivial), nw_warm hW hn⟩⟩ rfl rfl hl.1 rfl (lv_room (Nat.le_of_ble_eq_true rfl)) d_StateSet_empty_9 ⟨by show 0 + 1 ≤ 1; omega, by show 0 + 2 ^ 8 ≤ 2 ^ 8; omega⟩) hS (fun q _ h => hFc q h) hFc ?_
  intro u t9 H1 locs1 ht9 hvm hw1 hB hz1 hk1 hS1
  obtain ⟨q, kq, sf2, g, hg3, hT3, hP1, hK1, hD1⟩ := hB
  rw [ht9] at hP1
  replace hK1 := va_K.moved hvm.symm hK1
  have hPD := join3 hP hD rfl [0, 1, 2] [] rfl (by rfl) (by decide +kernel) (by decide +kernel) hk1 hFc hP1 hD1
  replace hK : va_K (dC, dI) classes [(kk, .long), (ks, .int), (kq, .int)] s := hK.app hK1
  clear hP1 hK1 hD1 hk1 hz1 hFc hKc hDc hPc hvm ht9 hP hS t9 locs H
  have hP : va_P (dC, dI) classes [oc h0 2 [.ref h1, .ref q, .int (nI 0), .int (nI (2 ^ 8))], la h1 kk KL kf, ia q kq (2 ^ 8) sf2] H1 := hPD.1
  replace hD : dd A [h0, h1, q] := dd_of hPD.2 rfl
  clear hPD
  revert H1 locs1
  intro H locs hS hP
  clear hw1 u
  refine tp_pc (pc' := 12) (by rfl) ?_
  obtain ⟨hP9, hD9, -⟩ := cut3 (wc := [oc h0 2 [.ref h1, .ref q, .int (nI 0), .int (nI (2 ^ 8))], la h1 kk KL kf, ia q kq (2 ^ 8) sf2]) hP hD rfl hS hA [0, 1, 2] (by decide +kernel) rfl
  have hK9 := hK.sub (tys' := [(kq, .int)]) [2] rfl
  refine W.widen (k := 1) (n := 2 ^ 8) (by first | exact Nat.le_refl _ | omega) (by first | exact Nat.le_refl _ | omega) ?_
  exact W.vret hx hb hr (fun t9 ht9 hW => ⟨⟨(), rfl, trivial, q, kq, sf2, g, hg3, hT3, by rw [ht9]; exact hP9, va_K.moved hW.alike hK9, hD9⟩, hS.F ht9⟩) hS.2.2 d_StateSet_empty_12
set_option maxHeartbeats 4000000 in
set_option maxRecDepth 100000 in
theorem gen_StateSet_empty_old (l : Launch) (dC : Nat → ClassId) (dI : Nat → Nat → Nat) (h0 h1 h2 : Nat) (z0 z1 : Int32) (kk ks : ClassId) (KL SL : Nat) (kf : Nat → Int64) (sf : Nat → Int32) (hS3 : SL < 2 ^ 31) (hK3 : KL < 2 ^ 31) (hlt : 2 ^ 8 ≤ SL) (sz : Nat) : Met l y_StateSet_empty w_StateSet_empty ({ frames := 2, cells := 0, slots := 0, locals := 60 }) (va_Pc [.ref h0] (fun U => U.heap.size = sz ∧ va_P (dC, dI) classes [oc h0 2 [.ref h1, .ref h2, .int z0, .int z1], la h1 kk KL kf, ia h2 ks SL sf] U.heap ∧ va_K (dC, dI) classes [(kk, .long), (ks, .int)] U ∧ va_D (fun _ => True) [oc h0 2 [.ref h1, .ref h2, .int z0, .int z1], la h1 kk KL kf, ia h2 ks SL sf] ∧ nw U)) (va_Qv (fun _ : Unit => True) (fun _ t9 => ∃ (sf2 : Nat → Int32) (g : Nat → Nat), (∀ i, i < 2 ^ 8 → sf2 i = nI (g i)) ∧ inT (2 ^ 8) (fun k => hsh k 8) 0 kf g ∧ va_P (dC, dI) classes [oc h0 2 [.ref h1, .ref h2, .int (nI 0), .int (nI (2 ^ 8))], la h1 kk KL kf, ia h2 ks SL sf2] t9.heap ∧ va_K (dC, dI) classes [(ks, .int)] t9 ∧ va_D (va_A [oc h0 2 [.ref h1, .ref h2, .int z0, .int z1], la h1 kk KL kf, ia h2 ks SL sf] sz) [oc h0 2 [.ref h1, .ref h2, .int (nI 0), .int (nI (2 ^ 8))], la h1 kk KL kf, ia h2 ks SL sf2]) (va_A [oc h0 2 [.ref h1, .ref h2, .int z0, .int z1], la h1 kk KL kf, ia h2 ks SL sf] sz)) 0 0 (va_A [oc h0 2 [.ref h1, .ref h2, .int z0, .int z1], la h1 kk KL kf, ia h2 ks SL sf] sz) := by
  refine Met.ofW (cc := b_StateSet_empty) (maxL := 1) (ret := none) (by decide) rfl ?_
  intro p e0 s m args below meth c s₁ B hml hv
  obtain ⟨rfl, hsz, hP, hK, hD0, hn⟩ := hv
  have hx := B.exec
  have hb := B.bytes
  have hr := B.returns
  have hw := fun w (h : w ∈ wt) => atoms_spec (ws := w_StateSet_empty) B.pre w (List.mem_cons_of_mem _ h)
  have hown : s.vm.findClass R_StateSet = some m.cls := findClass_of_methodNamed B.named
  have hlocks := B.notSynchronized
  subst hsz
  have hD1 := hD0.self (sz := s.heap.size)
  generalize hAe : va_A [oc h0 2 [.ref h1, .ref h2, .int z0, .int z1], la h1 kk KL kf, ia h2 ks SL sf] s.heap.size = A at hD1 ⊢
  have hA : ∀ q : Nat, s.heap.size ≤ q → A q := fun q h => by rw [← hAe]; exact Or.inr h
  have hD : dd A [h0, h1, h2] := dd_of hD1 rfl
  clear hAe hD0 hD1
  have hS : va_S A s.heap s.heap [] := va_S.rf
  replace hP : va_P (dC, dI) classes [oc h0 2 [.ref h1, .ref h2, .int z0, .int z1], la h1 kk KL kf, ia h2 ks SL sf] s.heap := hP
  have hl := lv_entry ([.ref h0]) (n := 1) (Nat.le_of_ble_eq_true rfl)
  rw [lg_entry_eq]
  generalize (lg_sl ([.ref h0]) ++ List.replicate (1 - (lg_sl ([.ref h0])).length) Slot.unset).toArray = ls at hl ⊢
  replace hl : lv_has ls 1 [(0, .ref h0)] := hl
  refine lv_aload_n hx hb d_StateSet_empty_0 rfl (lv_at hl 0 rfl) ?_
  refine lv_iconst (v := 0) hx hb d_StateSet_empty_1 (by decide) ?_
  refine va_put (D := (dC, dI)) (ci := 2) (v := .int 0) (ty := .int) (C := R_StateSet) (T := F_StateSet) (N := 4) hx hb hw i_StateSet t_StateSet t_StateSet_ok n_StateSet hown hK hP (dd_D hD rfl) hS 0 rfl rfl 2 (by decide) (hw _ m_232) (fun _ h9 => h9) rfl (by decide +kernel) rfl rfl (Nat.le_of_ble_eq_true rfl) d_StateSet_empty_2 ?_
  clear hP hS
  intro H locs (hP : va_P (dC, dI) classes [oc h0 2 [.ref h1, .ref h2, .int 0, .int z1], la h1 kk KL kf, ia h2 ks SL sf] H) _ hS
  refine tp_pc (pc' := 5) (by rfl) ?_
  refine lv_aload_n hx hb d_StateSet_empty_5 rfl (lv_at hl 0 rfl) ?_
  refine lv_sipush (v := 256) hx hb d_StateSet_empty_6 (by decide) ?_
  refine tp_i (y := nI (2 ^ 8)) (by decide) ?_
  replace hP : va_P (dC, dI) classes [oc h0 2 [.ref h1, .ref h2, .int (nI 0), .int z1], la h1 kk KL kf, ia h2 ks SL sf] H := hP
  obtain ⟨hPc, hDc, hFc⟩ := cut3 (wc := [oc h0 2 [.ref h1, .ref h2, .int (nI 0), .int z1], la h1 kk KL kf, ia h2 ks SL sf]) hP hD rfl hS hA [0, 1, 2] (by decide +kernel) rfl
  have hKc := hK.sub (tys' := [(kk, .long), (ks, .int)]) [0, 1] rfl
  refine va_callv (va_runV (As := [.int (nI (2 ^ 8))]) (rest := []) ⟨hx, hb, hml, hown, hw⟩ (gen_StateSet_makeRoom_old l dC dI h0 h1 h2 z1 0 8 kk ks KL SL kf sf (by omega) hS3 hK3 (Nat.zero_le _) (by decide) (fun i j h => absurd h (Nat.not_lt_zero i)) hlt H.size) (cw_V 1 hw g_StateSet_makeRoom rfl rfl rfl (hw _ m_104) (hw _ m_484) (hw _ m_486) (hw _ m_2) (by decide +kernel) ⟨Nat.le_of_ble_eq_true rfl, Nat.le_of_ble_eq_true rfl⟩) ⟨fun a U g mk q => by obtain ⟨q0, q1, qP, qK, qD, qN⟩ := q; exact ⟨q0, q1, qP, va_K.moved (u := U) (U := U.calling g mk a) (Vm.Alike.refl U.vm) qK, qD, nw_call qN⟩, va_recv hKc hPc (ci := 2) (q0 := 0) rfl rfl, fun U hU hW => ⟨rfl, by rw [hU], by rw [hU]; exact hPc, va_K.moved hW.alike hKc, hDc.weaken (fun _ _ _ _ => trivial), nw_warm hW hn⟩⟩ rfl rfl hl.1 rfl (lv_room (Nat.le_of_ble_eq_true rfl)) d_StateSet_empty_9 ⟨by show 0 + 0 ≤ 0; omega, by show 0 + 0 ≤ 0; omega⟩) hS (fun q _ h => hFc q h) hFc ?_
  intro u t9 H1 locs1 ht9 hvm hw1 hB hz1 hk1 hS1
  obtain ⟨sf2, g, hg3, hT3, hP1, hK1, hD1⟩ := hB
  rw [ht9] at hP1
  replace hK1 := va_K.moved hvm.symm hK1
  have hPD := join3 hP hD rfl [0, 1, 2] [] rfl (by rfl) (by decide +kernel) (by decide +kernel) hk1 hFc hP1 hD1
  replace hK : va_K (dC, dI) classes [(kk, .long), (ks, .int)] s := hK.app hK1
  clear hP1 hK1 hD1 hk1 hz1 hFc hKc hDc hPc hvm ht9 hP hS t9 locs H
  have hP : va_P (dC, dI) classes [oc h0 2 [.ref h1, .ref h2, .int (nI 0), .int (nI (2 ^ 8))], la h1 kk KL kf, ia h2 ks SL sf2] H1 := hPD.1
  replace hD : dd A [h0, h1, h2] := dd_of hPD.2 rfl
  clear hPD
  revert H1 locs1
  intro H locs hS hP
  clear hw1 u
  refine tp_pc (pc' := 12) (by rfl) ?_
  obtain ⟨hP9, hD9, -⟩ := cut3 (wc := [oc h0 2 [.ref h1, .ref h2, .int (nI 0), .int (nI (2 ^ 8))], la h1 kk KL kf, ia h2 ks SL sf2]) hP hD rfl hS hA [0, 1, 2] (by decide +kernel) rfl
  have hK9 := hK.sub (tys' := [(ks, .int)]) [1] rfl
  refine W.widen (k := 0) (n := 0) (by first | exact Nat.le_refl _ | omega) (by first | exact Nat.le_refl _ | omega) ?_
  exact W.vret hx hb hr (fun t9 ht9 hW => ⟨⟨(), rfl, trivial, sf2, g, hg3, hT3, by rw [ht9]; exact hP9, va_K.moved hW.alike hK9, hD9⟩, hS.F ht9⟩) hS.2.2 d_StateSet_empty_12
set_option maxHeartbeats 4000000 in
set_option maxRecDepth 100000 in
theorem gen_StateSet_add_00 (l : Launch) (dC : Nat → ClassId) (dI : Nat → Nat → Nat) (h0 h1 h2 : Nat) (n e : Nat) (kk ks : ClassId) (KL SL : Nat) (kf : Nat → Int64) (sf : Nat → Int32) (g : Nat → Nat) (key : Int64) (he : e ≤ 22) (hSL : 2 ^ e ≤ SL) (hS3 : SL < 2 ^ 31) (hK3 : KL < 2 ^ 23) (hn9 : n ≤ KL) (hn2 : 2 * n ≤ 2 ^ e) (hn20 : n < 1048576) (hg : ∀ i, i < 2 ^ e → sf i = nI (g i)) (hT : inT (2 ^ e) (fun k => hsh k e) n kf g) (hk : ∀ j, j < n → kf j ≠ key) (hnK : n < KL) (hge : 2 * (n + 1) ≤ 2 ^ e) (sz : Nat) : Met l y_StateSet_add w_StateSet_add ({ frames := 2, cells := 0, slots := 0, locals := 80 }) (va_Pc [.ref h0, .long key] (fun U => U.heap.size = sz ∧ va_P (dC, dI) classes [oc h0 2 [.ref h1, .ref h2, .int (nI n), .int (nI (2 ^ e))], la h1 kk KL kf, ia h2 ks SL sf] U.heap ∧ va_K (dC, dI) classes [(kk, .long), (ks, .int)] U ∧ va_D (fun _ => True) [oc h0 2 [.ref h1, .ref h2, .int (nI n), .int (nI (2 ^ e))], la h1 kk KL kf, ia h2 ks SL sf] ∧ nw U)) (va_Qi (fun (r : Int32) (_ : Unit) => r = 1) (fun _ t9 => ∃ (kf2 : Nat → Int64) (sf2 : Nat → Int32) (g2 : Nat → Nat), (∀ j, j < n → kf2 j = kf j) ∧ kf2 n = key ∧ (∀ i, i < 2 ^ e → sf2 i = nI (g2 i)) ∧ inT (2 ^ e) (fun k => hsh k e) (n + 1) kf2 g2 ∧ va_P (dC, dI) classes [oc h0 2 [.ref h1, .ref h2, .int (nI (n + 1)), .int (nI (2 ^ e))], la h1 kk KL kf2, ia h2 ks SL sf2] t9.heap ∧ va_K (dC, dI) classes [(kk, .long), (ks, .int)] t9 ∧ va_D (va_A [oc h0 2 [.ref h1, .ref h2, .int (nI n), .int (nI (2 ^ e))], la h1 kk KL kf, ia h2 ks SL sf] sz) [oc h0 2 [.ref h1, .ref h2, .int (nI (n + 1)), .int (nI (2 ^ e))], la h1 kk KL kf2, ia h2 ks SL sf2]) (va_A [oc h0 2 [.ref h1, .ref h2, .int (nI n), .int (nI (2 ^ e))], la h1 kk KL kf, ia h2 ks SL sf] sz)) 0 0 (va_A [oc h0 2 [.ref h1, .ref h2, .int (nI n), .int (nI (2 ^ e))], la h1 kk KL kf, ia h2 ks SL sf] sz) := by
  refine Met.ofW (cc := b_StateSet_add) (maxL := 4) (ret := (some .boolean)) (by decide) rfl ?_
  intro p e0 s m args below meth c s₁ B hml hv
  obtain ⟨rfl, hsz, hP, hK, hD0, hn⟩ := hv
  have hx := B.exec
  have hb := B.bytes
  have hr := B.returns
  have hw := fun w (h : w ∈ wt) => atoms_spec (ws := w_StateSet_add) B.pre w (List.mem_cons_of_mem _ h)
  have hown : s.vm.findClass R_StateSet = some m.cls := findClass_of_methodNamed B.named
  have hlocks := B.notSynchronized
  subst hsz
  have hD1 := hD0.self (sz := s.heap.size)
  generalize hAe : va_A [oc h0 2 [.ref h1, .ref h2, .int (nI n), .int (nI (2 ^ e))], la h1 kk KL kf, ia h2 ks SL sf] s.heap.size = A at hD1 ⊢
  have hA : ∀ q : Nat, s.heap.size ≤ q → A q := fun q h => by rw [← hAe]; exact Or.inr h
  have hD : dd A [h0, h1, h2] := dd_of hD1 rfl
  clear hAe hD0 hD1
  have hS : va_S A s.heap s.heap [] := va_S.rf
  replace hP : va_P (dC, dI) classes [oc h0 2 [.ref h1, .ref h2, .int (nI n), .int (nI (2 ^ e))], la h1 kk KL kf, ia h2 ks SL sf] s.heap := hP
  have hl := lv_entry ([.ref h0, .long key]) (n := 4) (Nat.le_of_ble_eq_true rfl)
  rw [lg_entry_eq]
  generalize (lg_sl ([.ref h0, .long key]) ++ List.replicate (4 - (lg_sl ([.ref h0, .long key])).length) Slot.unset).toArray = ls at hl ⊢
  replace hl : lv_has ls 4 [(0, .ref h0), (1, .long key)] := hl
  have hp1 : 2 ^ e ≤ 2 ^ 22 := Nat.pow_le_pow_right (by decide) he
  have hp0 : 0 < 2 ^ e := Nat.two_pow_pos e
  obtain ⟨a, d, had, ha, hd, hpr, hg0, hgl⟩ : ∃ a d, a = (hsh key e + d) % 2 ^ e ∧ a < 2 ^ e ∧ d < 2 ^ e ∧ pr (2 ^ e) sf kf key (2 ^ e) (hsh key e) = a ∧ g a = 0 ∧ ∀ c, c < d → g ((hsh key e + c) % 2 ^ e) ≠ 0 := by
    obtain ⟨d, hd, h1, h2, h3⟩ := inT_new (key := key) hT (by omega) (by omega) hg (Nat.mod_lt _ hp0) hk
    exact ⟨_, d, rfl, Nat.mod_lt _ hp0, hd, h1, h2, h3⟩
  refine lv_aload_n hx hb d_StateSet_add_0 rfl (lv_at hl 0 rfl) ?_
  refine lv_lload_n hx hb d_StateSet_add_1 rfl (lv_at hl 1 rfl) ?_
  obtain ⟨hPc, hDc, hFc⟩ := cut3 (wc := [oc h0 2 [.ref h1, .ref h2, .int (nI n), .int (nI (2 ^ e))], la h1 kk KL kf, ia h2 ks SL sf]) hP hD rfl hS hA [0, 1, 2] (by decide +kernel) rfl
  have hKc := hK.sub (tys' := [(kk, .long), (ks, .int)]) [0, 1] rfl
  refine va_calli (va_runV (As := [.long key]) (rest := []) ⟨hx, hb, hml, hown, hw⟩ (gen_StateSet_slotOf l dC dI h0 h1 h2 (nI n) e key kk ks KL SL kf sf (by omega) hSL hS3 (by omega) (fun k hk => ⟨g k, by have := hT.1 k hk; omega, hg k hk⟩) s.heap.size) (cw_V 1 hw g_StateSet_slotOf rfl rfl rfl (hw _ m_104) (hw _ m_488) (hw _ m_490) (hw _ m_3) (by decide +kernel) ⟨Nat.le_of_ble_eq_true rfl, Nat.le_of_ble_eq_true rfl⟩) ⟨fun a U g mk q => by obtain ⟨q0, q1, qP, qK, qD, qN⟩ := q; exact ⟨q0, q1, qP, va_K.moved (u := U) (U := U.calling g mk a) (Vm.Alike.refl U.vm) qK, qD, nw_call qN⟩, va_recv hKc hPc (ci := 2) (q0 := 0) rfl rfl, fun U hU hW => ⟨rfl, by rw [hU], by rw [hU]; exact hPc, va_K.moved hW.alike hKc, hDc.weaken (fun _ _ _ _ => trivial), nw_warm hW hn⟩⟩ rfl rfl hl.1 rfl (lv_room (Nat.le_of_ble_eq_true rfl)) d_StateSet_add_2 ⟨Nat.zero_le _, Nat.zero_le _⟩) hS (fun q _ h => hFc q h) hFc ?_
  intro r_1 u t9 H1 locs1 ht9 hvm hw1 hB hz1 hk1 hS1
  obtain ⟨hP1, hK1, hD1⟩ := hB
  rw [ht9] at hP1
  replace hK1 := va_K.moved hvm.symm hK1
  have hPD := join3 hP hD rfl [0, 1, 2] [] rfl (by rfl) (by decide +kernel) (by decide +kernel) hk1 hFc hP1 hD1
  replace hK : va_K (dC, dI) classes [(kk, .long), (ks, .int)] s := hK.app hK1
  clear hP1 hK1 hD1 hk1 hz1 hFc hKc hDc hPc hvm ht9 hP hS t9
  have hP : va_P (dC, dI) classes [oc h0 2 [.ref h1, .ref h2, .int (nI n), .int (nI (2 ^ e))], la h1 kk KL kf, ia h2 ks SL sf] H1 := hPD.1
  replace hD : dd A [h0, h1, h2] := dd_of hPD.2 rfl
  clear hPD
  revert H1 locs1
  intro H locs hS hP
  refine tp_i (y := nI a) (hw1.trans (congrArg nI hpr)) ?_
  clear hw1 r_1 u
  refine tp_pc (pc' := 5) (by rfl) ?_
  refine lv_istore_n (lv' := [(3, .int (nI a)), (0, .ref h0), (1, .long key)]) hx hb d_StateSet_add_5 rfl hl (by decide) rfl ?_
  clear hl ls
  intro ls hl
  refine lv_aload_n hx hb d_StateSet_add_6 rfl (lv_at hl 1 rfl) ?_
  refine va_get (D := (dC, dI)) (ci := 2) (v := .ref h2) (C := R_StateSet) (T := F_StateSet) (N := 4) hx hb hw i_StateSet hown hK hP 0 rfl rfl 1 (by decide) (hw _ m_231) (fun _ h9 => h9) rfl d_StateSet_add_7 ?_
  refine lv_iload_n hx hb d_StateSet_add_10 rfl (lv_at hl 0 rfl) ?_
  refine va_iald (D := (dC, dI)) hx hb hK hP 2 1 rfl rfl (i := nI a) (pk_in a SL (by omega)) d_StateSet_add_11 ?_
  refine tp_i (y := sf a) (by rw [show (nI a : Int32).toNatClampNeg = a from pk_cl a]) ?_
  refine tp_i (y := 0) (by rw [hg a ha, hg0]; rfl) ?_
  refine lv_if_ne (tgt := 24) hx hb d_StateSet_add_12 (by decide) (fun c_2 => absurd c_2 (by decide)) (fun c_2 => ?_)
  refine tp_pc (pc' := 15) (by rfl) ?_
  refine lv_aload_n hx hb d_StateSet_add_15 rfl (lv_at hl 1 rfl) ?_
  refine va_get (D := (dC, dI)) (ci := 2) (v := .int (nI n)) (C := R_StateSet) (T := F_StateSet) (N := 4) hx hb hw i_StateSet hown hK hP 0 rfl rfl 2 (by decide) (hw _ m_232) (fun _ h9 => h9) rfl d_StateSet_add_16 ?_
  refine lv_ldc hx hb hown (hw _ m_515) d_StateSet_add_19 ?_
  refine lv_icmp_lt (tgt := 26) hx hb d_StateSet_add_21 (by decide) (fun c9 => ?_) (fun c9 => absurd ((nI_ltI (a := n) (b := 1048576) (by omega) (by omega)).mpr hn20) c9)
  have hc9 : n < 1048576 := (nI_ltI (a := n) (b := 1048576) (by omega) (by omega)).mp c9
  refine tp_pc (pc' := 26) (by rfl) ?_
  refine lv_aload_n hx hb d_StateSet_add_26 rfl (lv_at hl 1 rfl) ?_
  refine va_get (D := (dC, dI)) (ci := 2) (v := .int (nI n)) (C := R_StateSet) (T := F_StateSet) (N := 4) hx hb hw i_StateSet hown hK hP 0 rfl rfl 2 (by decide) (hw _ m_232) (fun _ h9 => h9) rfl d_StateSet_add_27 ?_
  refine lv_aload_n hx hb d_StateSet_add_30 rfl (lv_at hl 1 rfl) ?_
  refine va_get (D := (dC, dI)) (ci := 2) (v := .ref h1) (C := R_StateSet) (T := F_StateSet) (N := 4) hx hb hw i_StateSet hown hK hP 0 rfl rfl 0 (by decide) (hw _ m_230) (fun _ h9 => h9) rfl d_StateSet_add_31 ?_
  refine va_alen (D := (dC, dI)) hx hb hK hP 1 0 rfl rfl (v := nI KL) (by rfl) d_StateSet_add_34 ?_
  refine lv_icmp_lt (tgt := 61) hx hb d_StateSet_add_35 (by decide) (fun c9 => ?_) (fun c9 => absurd ((nI_ltI (a := n) (b := KL) (by omega) (by omega)).mpr hnK) c9)
  have hc9 : n < KL := (nI_ltI (a := n) (b := KL) (by omega) (by omega)).mp c9
  refine tp_pc (pc' := 61) (by rfl) ?_
  refine lv_aload_n hx hb d_StateSet_add_61 rfl (lv_at hl 1 rfl) ?_
  refine va_get (D := (dC, dI)) (ci := 2) (v := .ref h1) (C := R_StateSet) (T := F_StateSet) (N := 4) hx hb hw i_StateSet hown hK hP 0 rfl rfl 0 (by decide) (hw _ m_230) (fun _ h9 => h9) rfl d_StateSet_add_62 ?_
  refine lv_aload_n hx hb d_StateSet_add_65 rfl (lv_at hl 1 rfl) ?_
  refine va_get (D := (dC, dI)) (ci := 2) (v := .int (nI n)) (C := R_StateSet) (T := F_StateSet) (N := 4) hx hb hw i_StateSet hown hK hP 0 rfl rfl 2 (by decide) (hw _ m_232) (fun _ h9 => h9) rfl d_StateSet_add_66 ?_
  refine lv_lload_n hx hb d_StateSet_add_69 rfl (lv_at hl 2 rfl) ?_
  refine va_last (D := (dC, dI)) hx hb hK hP (dd_D hD rfl) hS 1 0 rfl rfl (i := nI n) (x := key) (pk_in n KL (by omega)) d_StateSet_add_70 ?_
  clear hP hS locs H
  intro H locs hP _ hS
  rw [show (nI n : Int32).toNatClampNeg = n from pk_cl n] at hP
  replace hP : va_P (dC, dI) classes [oc h0 2 [.ref h1, .ref h2, .int (nI n), .int (nI (2 ^ e))], la h1 kk KL (vp_updL kf n key), ia h2 ks SL sf] H := hP
  refine tp_pc (pc' := 71) (by rfl) ?_
  refine lv_aload_n hx hb d_StateSet_add_71 rfl (lv_at hl 1 rfl) ?_
  refine lv_dup hx hb d_StateSet_add_72 rfl ?_
  refine va_get (D := (dC, dI)) (ci := 2) (v := .int (nI n)) (C := R_StateSet) (T := F_StateSet) (N := 4) hx hb hw i_StateSet hown hK hP 0 rfl rfl 2 (by decide) (hw _ m_232) (fun _ h9 => h9) rfl d_StateSet_add_73 ?_
  refine lv_iconst (v := 1) hx hb d_StateSet_add_76 (by decide) ?_
  refine lv_iadd hx hb d_StateSet_add_77 ?_
  refine tp_i (y := nI (n + 1)) (by exact nI_add n 1) ?_
  refine va_put (D := (dC, dI)) (ci := 2) (v := .int (nI (n + 1))) (ty := .int) (C := R_StateSet) (T := F_StateSet) (N := 4) hx hb hw i_StateSet t_StateSet t_StateSet_ok n_StateSet hown hK hP (dd_D hD rfl) hS 0 rfl rfl 2 (by decide) (hw _ m_232) (fun _ h9 => h9) rfl (by decide +kernel) rfl rfl (Nat.le_of_ble_eq_true rfl) d_StateSet_add_78 ?_
  clear hP hS locs H
  intro H locs (hP : va_P (dC, dI) classes [oc h0 2 [.ref h1, .ref h2, .int (nI (n + 1)), .int (nI (2 ^ e))], la h1 kk KL (vp_updL kf n key), ia h2 ks SL sf] H) _ hS
  refine tp_pc (pc' := 81) (by rfl) ?_
  refine lv_aload_n hx hb d_StateSet_add_81 rfl (lv_at hl 1 rfl) ?_
  refine va_get (D := (dC, dI)) (ci := 2) (v := .ref h2) (C := R_StateSet) (T := F_StateSet) (N := 4) hx hb hw i_StateSet hown hK hP 0 rfl rfl 1 (by decide) (hw _ m_231) (fun _ h9 => h9) rfl d_StateSet_add_82 ?_
  refine lv_iload_n hx hb d_StateSet_add_85 rfl (lv_at hl 0 rfl) ?_
  refine lv_aload_n hx hb d_StateSet_add_86 rfl (lv_at hl 1 rfl) ?_
  refine va_get (D := (dC, dI)) (ci := 2) (v := .int (nI (n + 1))) (C := R_StateSet) (T := F_StateSet) (N := 4) hx hb hw i_StateSet hown hK hP 0 rfl rfl 2 (by decide) (hw _ m_232) (fun _ h9 => h9) rfl d_StateSet_add_87 ?_
  refine va_iast (D := (dC, dI)) hx hb hK hP (dd_D hD rfl) hS 2 1 rfl rfl (i := nI a) (x := nI (n + 1)) (pk_in a SL (by omega)) d_StateSet_add_90 ?_
  clear hP hS locs H
  intro H locs hP _ hS
  rw [show (nI a : Int32).toNatClampNeg = a from pk_cl a] at hP
  replace hP : va_P (dC, dI) classes [oc h0 2 [.ref h1, .ref h2, .int (nI (n + 1)), .int (nI (2 ^ e))], la h1 kk KL (vp_updL kf n key), ia h2 ks SL (upd sf a (nI (n + 1)))] H := hP
  refine tp_pc (pc' := 91) (by rfl) ?_
  refine lv_iconst (v := 2) hx hb d_StateSet_add_91 (by decide) ?_
  refine lv_aload_n hx hb d_StateSet_add_92 rfl (lv_at hl 1 rfl) ?_
  refine va_get (D := (dC, dI)) (ci := 2) (v := .int (nI (n + 1))) (C := R_StateSet) (T := F_StateSet) (N := 4) hx hb hw i_StateSet hown hK hP 0 rfl rfl 2 (by decide) (hw _ m_232) (fun _ h9 => h9) rfl d_StateSet_add_93 ?_
  refine lv_imul hx hb d_StateSet_add_96 ?_
  refine tp_i (y := nI (2 * (n + 1))) (by exact pk_mul 2 (n + 1)) ?_
  refine lv_aload_n hx hb d_StateSet_add_97 rfl (lv_at hl 1 rfl) ?_
  refine va_get (D := (dC, dI)) (ci := 2) (v := .int (nI (2 ^ e))) (C := R_StateSet) (T := F_StateSet) (N := 4) hx hb hw i_StateSet hown hK hP 0 rfl rfl 3 (by decide) (hw _ m_233) (fun _ h9 => h9) rfl d_StateSet_add_98 ?_
  have hf1 : ∀ j, j < n → (vp_updL kf n key) j = kf j := fun j hj => by
    rw [pk_uLn (by omega)]
  have hf2 : (vp_updL kf n key) n = key := pk_uLs
  have hT2 : inT (2 ^ e) (fun k => hsh k e) (n + 1) (vp_updL kf n key) (fun i => if i = a then n + 1 else g i) := inT_put (key := key) hT hd (by rw [← had]; exact hg0) hgl hk hf1 hf2 (fun k _ => by rw [← had])
  have hg2 : ∀ i, i < 2 ^ e → upd sf a (nI (n + 1)) i = nI (if i = a then n + 1 else g i) := fun i hi => by
    simp only [upd]; by_cases e9 : i = a; (rw [if_pos e9, if_pos e9]); (rw [if_neg e9, if_neg e9]; exact hg i hi)
  refine lv_icmp_le (tgt := 114) hx hb d_StateSet_add_101 (by decide) (fun c9 => ?_) (fun c9 => absurd ((nI_leI (a := 2 * (n + 1)) (b := 2 ^ e) (by omega) (by omega)).mpr hge) c9)
  have hc9 : 2 * (n + 1) ≤ 2 ^ e := (nI_leI (a := 2 * (n + 1)) (b := 2 ^ e) (by omega) (by omega)).mp c9
  refine tp_pc (pc' := 114) (by rfl) ?_
  refine lv_iconst (v := 1) hx hb d_StateSet_add_114 (by decide) ?_
  obtain ⟨hP9, hD9, -⟩ := cut3 (wc := [oc h0 2 [.ref h1, .ref h2, .int (nI (n + 1)), .int (nI (2 ^ e))], la h1 kk KL (vp_updL kf n key), ia h2 ks SL (upd sf a (nI (n + 1)))]) hP hD rfl hS hA [0, 1, 2] (by decide +kernel) rfl
  have hK9 := hK.sub (tys' := [(kk, .long), (ks, .int)]) [0, 1] rfl
  refine W.widen (k := 0) (n := 0) (by first | exact Nat.le_refl _ | omega) (by first | exact Nat.le_refl _ | omega) ?_
  exact W.zret (v := 1) (ty := .boolean) hx hb hr (by decide) (fun t9 ht9 hW => ⟨⟨1, (), rfl, rfl, (vp_updL kf n key), upd sf a (nI (n + 1)), fun i => if i = a then n + 1 else g i, hf1, hf2, hg2, hT2, by rw [ht9]; exact hP9, va_K.moved hW.alike hK9, hD9⟩, hS.F ht9⟩) hS.2.2 d_StateSet_add_115
set_option maxHeartbeats 4000000 in
set_option maxRecDepth 100000 in
theorem gen_StateSet_add_01 (l : Launch) (dC : Nat → ClassId) (dI : Nat → Nat → Nat) (h0 h1 h2 : Nat) (n e : Nat) (kk ks : ClassId) (KL SL : Nat) (kf : Nat → Int64) (sf : Nat → Int32) (g : Nat → Nat) (key : Int64) (he : e ≤ 22) (hSL : 2 ^ e ≤ SL) (hS3 : SL < 2 ^ 31) (hK3 : KL < 2 ^ 23) (hn9 : n ≤ KL) (hn2 : 2 * n ≤ 2 ^ e) (hn20 : n < 1048576) (hg : ∀ i, i < 2 ^ e → sf i = nI (g i)) (hT : inT (2 ^ e) (fun k => hsh k e) n kf g) (hk : ∀ j, j < n → kf j ≠ key) (hnK : n < KL) (hge : 2 ^ e < 2 * (n + 1)) (hSe : SL < 2 ^ (e + 1)) (sz : Nat) : Met l y_StateSet_add w_StateSet_add ({ frames := 2, cells := 1, slots := 2 ^ (e + 1), locals := 80 }) (va_Pc [.ref h0, .long key] (fun U => U.heap.size = sz ∧ va_P (dC, dI) classes [oc h0 2 [.ref h1, .ref h2, .int (nI n), .int (nI (2 ^ e))], la h1 kk KL kf, ia h2 ks SL sf] U.heap ∧ va_K (dC, dI) classes [(kk, .long), (ks, .int)] U ∧ va_D (fun _ => True) [oc h0 2 [.ref h1, .ref h2, .int (nI n), .int (nI (2 ^ e))], la h1 kk KL kf, ia h2 ks SL sf] ∧ nw U)) (va_Qi (fun (r : Int32) (_ : Unit) => r = 1) (fun _ t9 => ∃ (q2 : Nat) (kq2 : ClassId) (kf2 : Nat → Int64) (sf2 : Nat → Int32) (g2 : Nat → Nat), (∀ j, j < n → kf2 j = kf j) ∧ kf2 n = key ∧ (∀ i, i < 2 ^ (e + 1) → sf2 i = nI (g2 i)) ∧ inT (2 ^ (e + 1)) (fun k => hsh k (e + 1)) (n + 1) kf2 g2 ∧ va_P (dC, dI) classes [oc h0 2 [.ref h1, .ref q2, .int (nI (n + 1)), .int (nI (2 ^ (e + 1)))], la h1 kk KL kf2, ia q2 kq2 (2 ^ (e + 1)) sf2] t9.heap ∧ va_K (dC, dI) classes [(kk, .long), (kq2, .int)] t9 ∧ va_D (va_A [oc h0 2 [.ref h1, .ref h2, .int (nI n), .int (nI (2 ^ e))], la h1 kk KL kf, ia h2 ks SL sf] sz) [oc h0 2 [.ref h1, .ref q2, .int (nI (n + 1)), .int (nI (2 ^ (e + 1)))], la h1 kk KL kf2, ia q2 kq2 (2 ^ (e + 1)) sf2]) (va_A [oc h0 2 [.ref h1, .ref h2, .int (nI n), .int (nI (2 ^ e))], la h1 kk KL kf, ia h2 ks SL sf] sz)) 1 (2 ^ (e + 1)) (va_A [oc h0 2 [.ref h1, .ref h2, .int (nI n), .int (nI (2 ^ e))], la h1 kk KL kf, ia h2 ks SL sf] sz) := by
  refine Met.ofW (cc := b_StateSet_add) (maxL := 4) (ret := (some .boolean)) (by decide) rfl ?_
  intro p e0 s m args below meth c s₁ B hml hv
  obtain ⟨rfl, hsz, hP, hK, hD0, hn⟩ := hv
  have hx := B.exec
  have hb := B.bytes
  have hr := B.returns
  have hw := fun w (h : w ∈ wt) => atoms_spec (ws := w_StateSet_add) B.pre w (List.mem_cons_of_mem _ h)
  have hown : s.vm.findClass R_StateSet = some m.cls := findClass_of_methodNamed B.named
  have hlocks := B.notSynchronized
  subst hsz
  have hD1 := hD0.self (sz := s.heap.size)
  generalize hAe : va_A [oc h0 2 [.ref h1, .ref h2, .int (nI n), .int (nI (2 ^ e))], la h1 kk KL kf, ia h2 ks SL sf] s.heap.size = A at hD1 ⊢
  have hA : ∀ q : Nat, s.heap.size ≤ q → A q := fun q h => by rw [← hAe]; exact Or.inr h
  have hD : dd A [h0, h1, h2] := dd_of hD1 rfl
  clear hAe hD0 hD1
  have hS : va_S A s.heap s.heap [] := va_S.rf
  replace hP : va_P (dC, dI) classes [oc h0 2 [.ref h1, .ref h2, .int (nI n), .int (nI (2 ^ e))], la h1 kk KL kf, ia h2 ks SL sf] s.heap := hP
  have hl := lv_entry ([.ref h0, .long key]) (n := 4) (Nat.le_of_ble_eq_true rfl)
  rw [lg_entry_eq]
  generalize (lg_sl ([.ref h0, .long key]) ++ List.replicate (4 - (lg_sl ([.ref h0, .long key])).length) Slot.unset).toArray = ls at hl ⊢
  replace hl : lv_has ls 4 [(0, .ref h0), (1, .long key)] := hl
  have hp1 : 2 ^ e ≤ 2 ^ 22 := Nat.pow_le_pow_right (by decide) he
  have hp0 : 0 < 2 ^ e := Nat.two_pow_pos e
  have hpe : 2 ^ (e + 1) = 2 * 2 ^ e := by rw [Nat.pow_succ]; omega
  obtain ⟨a, d, had, ha, hd, hpr, hg0, hgl⟩ : ∃ a d, a = (hsh key e + d) % 2 ^ e ∧ a < 2 ^ e ∧ d < 2 ^ e ∧ pr (2 ^ e) sf kf key (2 ^ e) (hsh key e) = a ∧ g a = 0 ∧ ∀ c, c < d → g ((hsh key e + c) % 2 ^ e) ≠ 0 := by
    obtain ⟨d, hd, h1, h2, h3⟩ := inT_new (key := key) hT (by omega) (by omega) hg (Nat.mod_lt _ hp0) hk
    exact ⟨_, d, rfl, Nat.mod_lt _ hp0, hd, h1, h2, h3⟩
  refine lv_aload_n hx hb d_StateSet_add_0 rfl (lv_at hl 0 rfl) ?_
  refine lv_lload_n hx hb d_StateSet_add_1 rfl (lv_at hl 1 rfl) ?_
  obtain ⟨hPc, hDc, hFc⟩ := cut3 (wc := [oc h0 2 [.ref h1, .ref h2, .int (nI n), .int (nI (2 ^ e))], la h1 kk KL kf, ia h2 ks SL sf]) hP hD rfl hS hA [0, 1, 2] (by decide +kernel) rfl
  have hKc := hK.sub (tys' := [(kk, .long), (ks, .int)]) [0, 1] rfl
  refine va_calli (va_runV (As := [.long key]) (rest := []) ⟨hx, hb, hml, hown, hw⟩ (gen_StateSet_slotOf l dC dI h0 h1 h2 (nI n) e key kk ks KL SL kf sf (by omega) hSL hS3 (by omega) (fun k hk => ⟨g k, by have := hT.1 k hk; omega, hg k hk⟩) s.heap.size) (cw_V 1 hw g_StateSet_slotOf rfl rfl rfl (hw _ m_104) (hw _ m_488) (hw _ m_490) (hw _ m_3) (by decide +kernel) ⟨Nat.le_of_ble_eq_true rfl, Nat.le_of_ble_eq_true rfl⟩) ⟨fun a U g mk q => by obtain ⟨q0, q1, qP, qK, qD, qN⟩ := q; exact ⟨q0, q1, qP, va_K.moved (u := U) (U := U.calling g mk a) (Vm.Alike.refl U.vm) qK, qD, nw_call qN⟩, va_recv hKc hPc (ci := 2) (q0 := 0) rfl rfl, fun U hU hW => ⟨rfl, by rw [hU], by rw [hU]; exact hPc, va_K.moved hW.alike hKc, hDc.weaken (fun _ _ _ _ => trivial), nw_warm hW hn⟩⟩ rfl rfl hl.1 rfl (lv_room (Nat.le_of_ble_eq_true rfl)) d_StateSet_add_2 ⟨Nat.zero_le _, Nat.zero_le _⟩) hS (fun q _ h => hFc q h) hFc ?_
  intro r_1 u t9 H1 locs1 ht9 hvm hw1 hB hz1 hk1 hS1
  obtain ⟨hP1, hK1, hD1⟩ := hB
  rw [ht9] at hP1
  replace hK1 := va_K.moved hvm.symm hK1
  have hPD := join3 hP hD rfl [0, 1, 2] [] rfl (by rfl) (by decide +kernel) (by decide +kernel) hk1 hFc hP1 hD1
  replace hK : va_K (dC, dI) classes [(kk, .long), (ks, .int)] s := hK.app hK1
  clear hP1 hK1 hD1 hk1 hz1 hFc hKc hDc hPc hvm ht9 hP hS t9
  have hP : va_P (dC, dI) classes [oc h0 2 [.ref h1, .ref h2, .int (nI n), .int (nI (2 ^ e))], la h1 kk KL kf, ia h2 ks SL sf] H1 := hPD.1
  replace hD : dd A [h0, h1, h2] := dd_of hPD.2 rfl
  clear hPD
  revert H1 locs1
  intro H locs hS hP
  refine tp_i (y := nI a) (hw1.trans (congrArg nI hpr)) ?_
  clear hw1 r_1 u
  refine tp_pc (pc' := 5) (by rfl) ?_
  refine lv_istore_n (lv' := [(3, .int (nI a)), (0, .ref h0), (1, .long key)]) hx hb d_StateSet_add_5 rfl hl (by decide) rfl ?_
  clear hl ls
  intro ls hl
  refine lv_aload_n hx hb d_StateSet_add_6 rfl (lv_at hl 1 rfl) ?_
  refine va_get (D := (dC, dI)) (ci := 2) (v := .ref h2) (C := R_StateSet) (T := F_StateSet) (N := 4) hx hb hw i_StateSet hown hK hP 0 rfl rfl 1 (by decide) (hw _ m_231) (fun _ h9 => h9) rfl d_StateSet_add_7 ?_
  refine lv_iload_n hx hb d_StateSet_add_10 rfl (lv_at hl 0 rfl) ?_
  refine va_iald (D := (dC, dI)) hx hb hK hP 2 1 rfl rfl (i := nI a) (pk_in a SL (by omega)) d_StateSet_add_11 ?_
  refine tp_i (y := sf a) (by rw [show (nI a : Int32).toNatClampNeg = a from pk_cl a]) ?_
  refine tp_i (y := 0) (by rw [hg a ha, hg0]; rfl) ?_
  refine lv_if_ne (tgt := 24) hx hb d_StateSet_add_12 (by decide) (fun c_2 => absurd c_2 (by decide)) (fun c_2 => ?_)
  refine tp_pc (pc' := 15) (by rfl) ?_
  refine lv_aload_n hx hb d_StateSet_add_15 rfl (lv_at hl 1 rfl) ?_
  refine va_get (D := (dC, dI)) (ci := 2) (v := .int (nI n)) (C := R_StateSet) (T := F_StateSet) (N := 4) hx hb hw i_StateSet hown hK hP 0 rfl rfl 2 (by decide) (hw _ m_232) (fun _ h9 => h9) rfl d_StateSet_add_16 ?_
  refine lv_ldc hx hb hown (hw _ m_515) d_StateSet_add_19 ?_
  refine lv_icmp_lt (tgt := 26) hx hb d_StateSet_add_21 (by decide) (fun c9 => ?_) (fun c9 => absurd ((nI_ltI (a := n) (b := 1048576) (by omega) (by omega)).mpr hn20) c9)
  have hc9 : n < 1048576 := (nI_ltI (a := n) (b := 1048576) (by omega) (by omega)).mp c9
  refine tp_pc (pc' := 26) (by rfl) ?_
  refine lv_aload_n hx hb d_StateSet_add_26 rfl (lv_at hl 1 rfl) ?_
  refine va_get (D := (dC, dI)) (ci := 2) (v := .int (nI n)) (C := R_StateSet) (T := F_StateSet) (N := 4) hx hb hw i_StateSet hown hK hP 0 rfl rfl 2 (by decide) (hw _ m_232) (fun _ h9 => h9) rfl d_StateSet_add_27 ?_
  refine lv_aload_n hx hb d_StateSet_add_30 rfl (lv_at hl 1 rfl) ?_
  refine va_get (D := (dC, dI)) (ci := 2) (v := .ref h1) (C := R_StateSet) (T := F_StateSet) (N := 4) hx hb hw i_StateSet hown hK hP 0 rfl rfl 0 (by decide) (hw _ m_230) (fun _ h9 => h9) rfl d_StateSet_add_31 ?_
  refine va_alen (D := (dC, dI)) hx hb hK hP 1 0 rfl rfl (v := nI KL) (by rfl) d_StateSet_add_34 ?_
  refine lv_icmp_lt (tgt := 61) hx hb d_StateSet_add_35 (by decide) (fun c9 => ?_) (fun c9 => absurd ((nI_ltI (a := n) (b := KL) (by omega) (by omega)).mpr hnK) c9)
  have hc9 : n < KL := (nI_ltI (a := n) (b := KL) (by omega) (by omega)).mp c9
  refine tp_pc (pc' := 61) (by rfl) ?_
  refine lv_aload_n hx hb d_StateSet_add_61 rfl (lv_at hl 1 rfl) ?_
  refine va_get (D := (dC, dI)) (ci := 2) (v := .ref h1) (C := R_StateSet) (T := F_StateSet) (N := 4) hx hb hw i_StateSet hown hK hP 0 rfl rfl 0 (by decide) (hw _ m_230) (fun _ h9 => h9) rfl d_StateSet_add_62 ?_
  refine lv_aload_n hx hb d_StateSet_add_65 rfl (lv_at hl 1 rfl) ?_
  refine va_get (D := (dC, dI)) (ci := 2) (v := .int (nI n)) (C := R_StateSet) (T := F_StateSet) (N := 4) hx hb hw i_StateSet hown hK hP 0 rfl rfl 2 (by decide) (hw _ m_232) (fun _ h9 => h9) rfl d_StateSet_add_66 ?_
  refine lv_lload_n hx hb d_StateSet_add_69 rfl (lv_at hl 2 rfl) ?_
  refine va_last (D := (dC, dI)) hx hb hK hP (dd_D hD rfl) hS 1 0 rfl rfl (i := nI n) (x := key) (pk_in n KL (by omega)) d_StateSet_add_70 ?_
  clear hP hS locs H
  intro H locs hP _ hS
  rw [show (nI n : Int32).toNatClampNeg = n from pk_cl n] at hP
  replace hP : va_P (dC, dI) classes [oc h0 2 [.ref h1, .ref h2, .int (nI n), .int (nI (2 ^ e))], la h1 kk KL (vp_updL kf n key), ia h2 ks SL sf] H := hP
  refine tp_pc (pc' := 71) (by rfl) ?_
  refine lv_aload_n hx hb d_StateSet_add_71 rfl (lv_at hl 1 rfl) ?_
  refine lv_dup hx hb d_StateSet_add_72 rfl ?_
  refine va_get (D := (dC, dI)) (ci := 2) (v := .int (nI n)) (C := R_StateSet) (T := F_StateSet) (N := 4) hx hb hw i_StateSet hown hK hP 0 rfl rfl 2 (by decide) (hw _ m_232) (fun _ h9 => h9) rfl d_StateSet_add_73 ?_
  refine lv_iconst (v := 1) hx hb d_StateSet_add_76 (by decide) ?_
  refine lv_iadd hx hb d_StateSet_add_77 ?_
  refine tp_i (y := nI (n + 1)) (by exact nI_add n 1) ?_
  refine va_put (D := (dC, dI)) (ci := 2) (v := .int (nI (n + 1))) (ty := .int) (C := R_StateSet) (T := F_StateSet) (N := 4) hx hb hw i_StateSet t_StateSet t_StateSet_ok n_StateSet hown hK hP (dd_D hD rfl) hS 0 rfl rfl 2 (by decide) (hw _ m_232) (fun _ h9 => h9) rfl (by decide +kernel) rfl rfl (Nat.le_of_ble_eq_true rfl) d_StateSet_add_78 ?_
  clear hP hS locs H
  intro H locs (hP : va_P (dC, dI) classes [oc h0 2 [.ref h1, .ref h2, .int (nI (n + 1)), .int (nI (2 ^ e))], la h1 kk KL (vp_updL kf n key), ia h2 ks SL sf] H) _ hS
  refine tp_pc (pc' := 81) (by rfl) ?_
  refine lv_aload_n hx hb d_StateSet_add_81 rfl (lv_at hl 1 rfl) ?_
  refine va_get (D := (dC, dI)) (ci := 2) (v := .ref h2) (C := R_StateSet) (T := F_StateSet) (N := 4) hx hb hw i_StateSet hown hK hP 0 rfl rfl 1 (by decide) (hw _ m_231) (fun _ h9 => h9) rfl d_StateSet_add_82 ?_
  refine lv_iload_n hx hb d_StateSet_add_85 rfl (lv_at hl 0 rfl) ?_
  refine lv_aload_n hx hb d_StateSet_add_86 rfl (lv_at hl 1 rfl) ?_
  refine va_get (D := (dC, dI)) (ci := 2) (v := .int (nI (n + 1))) (C := R_StateSet) (T := F_StateSet) (N := 4) hx hb hw i_StateSet hown hK hP 0 rfl rfl 2 (by decide) (hw _ m_232) (fun _ h9 => h9) rfl d_StateSet_add_87 ?_
  refine va_iast (D := (dC, dI)) hx hb hK hP (dd_D hD rfl) hS 2 1 rfl rfl (i := nI a) (x := nI (n + 1)) (pk_in a SL (by omega)) d_StateSet_add_90 ?_
  clear hP hS locs H
  intro H locs hP _ hS
  rw [show (nI a : Int32).toNatClampNeg = a from pk_cl a] at hP
  replace hP : va_P (dC, dI) classes [oc h0 2 [.ref h1, .ref h2, .int (nI (n + 1)), .int (nI (2 ^ e))], la h1 kk KL (vp_updL kf n key), ia h2 ks SL (upd sf a (nI (n + 1)))] H := hP
  refine tp_pc (pc' := 91) (by rfl) ?_
  refine lv_iconst (v := 2) hx hb d_StateSet_add_91 (by decide) ?_
  refine lv_aload_n hx hb d_StateSet_add_92 rfl (lv_at hl 1 rfl) ?_
  refine va_get (D := (dC, dI)) (ci := 2) (v := .int (nI (n + 1))) (C := R_StateSet) (T := F_StateSet) (N := 4) hx hb hw i_StateSet hown hK hP 0 rfl rfl 2 (by decide) (hw _ m_232) (fun _ h9 => h9) rfl d_StateSet_add_93 ?_
  refine lv_imul hx hb d_StateSet_add_96 ?_
  refine tp_i (y := nI (2 * (n + 1))) (by exact pk_mul 2 (n + 1)) ?_
  refine lv_aload_n hx hb d_StateSet_add_97 rfl (lv_at hl 1 rfl) ?_
  refine va_get (D := (dC, dI)) (ci := 2) (v := .int (nI (2 ^ e))) (C := R_StateSet) (T := F_StateSet) (N := 4) hx hb hw i_StateSet hown hK hP 0 rfl rfl 3 (by decide) (hw _ m_233) (fun _ h9 => h9) rfl d_StateSet_add_98 ?_
  have hf1 : ∀ j, j < n → (vp_updL kf n key) j = kf j := fun j hj => by
    rw [pk_uLn (by omega)]
  have hf2 : (vp_updL kf n key) n = key := pk_uLs
  have hT2 : inT (2 ^ e) (fun k => hsh k e) (n + 1) (vp_updL kf n key) (fun i => if i = a then n + 1 else g i) := inT_put (key := key) hT hd (by rw [← had]; exact hg0) hgl hk hf1 hf2 (fun k _ => by rw [← had])
  have hg2 : ∀ i, i < 2 ^ e → upd sf a (nI (n + 1)) i = nI (if i = a then n + 1 else g i) := fun i hi => by
    simp only [upd]; by_cases e9 : i = a; (rw [if_pos e9, if_pos e9]); (rw [if_neg e9, if_neg e9]; exact hg i hi)
  refine lv_icmp_le (tgt := 114) hx hb d_StateSet_add_101 (by decide) (fun c9 => absurd ((nI_leI (a := 2 * (n + 1)) (b := 2 ^ e) (by omega) (by omega)).mp c9) (by omega)) (fun c9 => ?_)
  have hc9 : ¬ (2 * (n + 1) ≤ 2 ^ e) := fun q9 => c9 ((nI_leI (a := 2 * (n + 1)) (b := 2 ^ e) (by omega) (by omega)).mpr q9)
  refine tp_pc (pc' := 104) (by rfl) ?_
  refine lv_aload_n hx hb d_StateSet_add_104 rfl (lv_at hl 1 rfl) ?_
  refine lv_iconst (v := 2) hx hb d_StateSet_add_105 (by decide) ?_
  refine lv_aload_n hx hb d_StateSet_add_106 rfl (lv_at hl 1 rfl) ?_
  refine va_get (D := (dC, dI)) (ci := 2) (v := .int (nI (2 ^ e))) (C := R_StateSet) (T := F_StateSet) (N := 4) hx hb hw i_StateSet hown hK hP 0 rfl rfl 3 (by decide) (hw _ m_233) (fun _ h9 => h9) rfl d_StateSet_add_107 ?_
  refine lv_imul hx hb d_StateSet_add_110 ?_
  refine tp_i (y := nI (2 * (2 ^ e))) (by exact pk_mul 2 (2 ^ e)) ?_
  refine tp_i (y := nI (2 ^ (e + 1))) (by rw [hpe]) ?_
  obtain ⟨hPc, hDc, hFc⟩ := cut3 (wc := [oc h0 2 [.ref h1, .ref h2, .int (nI (n + 1)), .int (nI (2 ^ e))], la h1 kk KL (vp_updL kf n key), ia h2 ks SL (upd sf a (nI (n + 1)))]) hP hD rfl hS hA [0, 1, 2] (by decide +kernel) rfl
  have hKc := hK.sub (tys' := [(kk, .long), (ks, .int)]) [0, 1] rfl
  refine va_callv (va_runV (As := [.int (nI (2 ^ (e + 1)))]) (rest := []) ⟨hx, hb, hml, hown, hw⟩ (gen_StateSet_makeRoom_new l dC dI h0 h1 h2 (nI (2 ^ e)) (n + 1) (e + 1) kk ks KL SL (vp_updL kf n key) (upd sf a (nI (n + 1))) (by omega) hS3 (by omega) (by omega) (by omega) hT2.2.2.2 hSe H.size) (cw_V 1 hw g_StateSet_makeRoom rfl rfl rfl (hw _ m_104) (hw _ m_484) (hw _ m_486) (hw _ m_2) (by decide +kernel) ⟨Nat.le_of_ble_eq_true rfl, Nat.le_of_ble_eq_true rfl⟩) ⟨fun a U g mk q => by obtain ⟨q0, q1, qP, qK, qD, qN⟩ := q; exact ⟨q0, q1, qP, va_K.moved (u := U) (U := U.calling g mk a) (Vm.Alike.refl U.vm) qK, qD, nw_call qN⟩, va_recv hKc hPc (ci := 2) (q0 := 0) rfl rfl, fun U hU hW => ⟨rfl, by rw [hU], by rw [hU]; exact hPc, va_K.moved hW.alike hKc, hDc.weaken (fun _ _ _ _ => trivial), nw_warm hW hn⟩⟩ rfl rfl hl.1 rfl (lv_room (Nat.le_of_ble_eq_true rfl)) d_StateSet_add_111 ⟨by show 0 + 1 ≤ 1; omega, by show 0 + 2 ^ (e + 1) ≤ 2 ^ (e + 1); omega⟩) hS (fun q _ h => hFc q h) hFc ?_
  intro u t9 H1 locs1 ht9 hvm hw1 hB hz1 hk1 hS1
  obtain ⟨q2, kq2, sf2, g2, hg3, hT3, hP1, hK1, hD1⟩ := hB
  rw [ht9] at hP1
  replace hK1 := va_K.moved hvm.symm hK1
  have hPD := join3 hP hD rfl [0, 1, 2] [] rfl (by rfl) (by decide +kernel) (by decide +kernel) hk1 hFc hP1 hD1
  replace hK : va_K (dC, dI) classes [(kk, .long), (ks, .int), (kq2, .int)] s := hK.app hK1
  clear hP1 hK1 hD1 hk1 hz1 hFc hKc hDc hPc hvm ht9 hP hS t9 locs H
  have hP : va_P (dC, dI) classes [oc h0 2 [.ref h1, .ref q2, .int (nI (n + 1)), .int (nI (2 ^ (e + 1)))], la h1 kk KL (vp_updL kf n key), ia q2 kq2 (2 ^ (e + 1)) sf2] H1 := hPD.1
  replace hD : dd A [h0, h1, q2] := dd_of hPD.2 rfl
  clear hPD
  revert H1 locs1
  intro H locs hS hP
  clear hw1 u
  refine tp_pc (pc' := 114) (by rfl) ?_
  refine lv_iconst (v := 1) hx hb d_StateSet_add_114 (by decide) ?_
  obtain ⟨hP9, hD9, -⟩ := cut3 (wc := [oc h0 2 [.ref h1, .ref q2, .int (nI (n + 1)), .int (nI (2 ^ (e + 1)))], la h1 kk KL (vp_updL kf n key), ia q2 kq2 (2 ^ (e + 1)) sf2]) hP hD rfl hS hA [0, 1, 2] (by decide +kernel) rfl
  have hK9 := hK.sub (tys' := [(kk, .long), (kq2, .int)]) [0, 2] rfl
  refine W.widen (k := 1) (n := 2 ^ (e + 1)) (by first | exact Nat.le_refl _ | omega) (by first | exact Nat.le_refl _ | omega) ?_
  exact W.zret (v := 1) (ty := .boolean) hx hb hr (by decide) (fun t9 ht9 hW => ⟨⟨1, (), rfl, rfl, q2, kq2, (vp_updL kf n key), sf2, g2, hf1, hf2, hg3, hT3, by rw [ht9]; exact hP9, va_K.moved hW.alike hK9, hD9⟩, hS.F ht9⟩) hS.2.2 d_StateSet_add_115
set_option maxHeartbeats 4000000 in
set_option maxRecDepth 100000 in
theorem gen_StateSet_add_02 (l : Launch) (dC : Nat → ClassId) (dI : Nat → Nat → Nat) (h0 h1 h2 : Nat) (n e : Nat) (kk ks : ClassId) (KL SL : Nat) (kf : Nat → Int64) (sf : Nat → Int32) (g : Nat → Nat) (key : Int64) (he : e ≤ 22) (hSL : 2 ^ e ≤ SL) (hS3 : SL < 2 ^ 31) (hK3 : KL < 2 ^ 23) (hn9 : n ≤ KL) (hn2 : 2 * n ≤ 2 ^ e) (hn20 : n < 1048576) (hg : ∀ i, i < 2 ^ e → sf i = nI (g i)) (hT : inT (2 ^ e) (fun k => hsh k e) n kf g) (hk : ∀ j, j < n → kf j ≠ key) (hnK : n < KL) (hge : 2 ^ e < 2 * (n + 1)) (hSe : 2 ^ (e + 1) ≤ SL) (sz : Nat) : Met l y_StateSet_add w_StateSet_add ({ frames := 2, cells := 0, slots := 0, locals := 80 }) (va_Pc [.ref h0, .long key] (fun U => U.heap.size = sz ∧ va_P (dC, dI) classes [oc h0 2 [.ref h1, .ref h2, .int (nI n), .int (nI (2 ^ e))], la h1 kk KL kf, ia h2 ks SL sf] U.heap ∧ va_K (dC, dI) classes [(kk, .long), (ks, .int)] U ∧ va_D (fun _ => True) [oc h0 2 [.ref h1, .ref h2, .int (nI n), .int (nI (2 ^ e))], la h1 kk KL kf, ia h2 ks SL sf] ∧ nw U)) (va_Qi (fun (r : Int32) (_ : Unit) => r = 1) (fun _ t9 => ∃ (kf2 : Nat → Int64) (sf2 : Nat → Int32) (g2 : Nat → Nat), (∀ j, j < n → kf2 j = kf j) ∧ kf2 n = key ∧ (∀ i, i < 2 ^ (e + 1) → sf2 i = nI (g2 i)) ∧ inT (2 ^ (e + 1)) (fun k => hsh k (e + 1)) (n + 1) kf2 g2 ∧ va_P (dC, dI) classes [oc h0 2 [.ref h1, .ref h2, .int (nI (n + 1)), .int (nI (2 ^ (e + 1)))], la h1 kk KL kf2, ia h2 ks SL sf2] t9.heap ∧ va_K (dC, dI) classes [(kk, .long), (ks, .int)] t9 ∧ va_D (va_A [oc h0 2 [.ref h1, .ref h2, .int (nI n), .int (nI (2 ^ e))], la h1 kk KL kf, ia h2 ks SL sf] sz) [oc h0 2 [.ref h1, .ref h2, .int (nI (n + 1)), .int (nI (2 ^ (e + 1)))], la h1 kk KL kf2, ia h2 ks SL sf2]) (va_A [oc h0 2 [.ref h1, .ref h2, .int (nI n), .int (nI (2 ^ e))], la h1 kk KL kf, ia h2 ks SL sf] sz)) 0 0 (va_A [oc h0 2 [.ref h1, .ref h2, .int (nI n), .int (nI (2 ^ e))], la h1 kk KL kf, ia h2 ks SL sf] sz) := by
  refine Met.ofW (cc := b_StateSet_add) (maxL := 4) (ret := (some .boolean)) (by decide) rfl ?_
  intro p e0 s m args below meth c s₁ B hml hv
  obtain ⟨rfl, hsz, hP, hK, hD0, hn⟩ := hv
  have hx := B.exec
  have hb := B.bytes
  have hr := B.returns
  have hw := fun w (h : w ∈ wt) => atoms_spec (ws := w_StateSet_add) B.pre w (List.mem_cons_of_mem _ h)
  have hown : s.vm.findClass R_StateSet = some m.cls := findClass_of_methodNamed B.named
  have hlocks := B.notSynchronized
  subst hsz
  have hD1 := hD0.self (sz := s.heap.size)
  generalize hAe : va_A [oc h0 2 [.ref h1, .ref h2, .int (nI n), .int (nI (2 ^ e))], la h1 kk KL kf, ia h2 ks SL sf] s.heap.size = A at hD1 ⊢
  have hA : ∀ q : Nat, s.heap.size ≤ q → A q := fun q h => by rw [← hAe]; exact Or.inr h
  have hD : dd A [h0, h1, h2] := dd_of hD1 rfl
  clear hAe hD0 hD1
  have hS : va_S A s.heap s.heap [] := va_S.rf
  replace hP : va_P (dC, dI) classes [oc h0 2 [.ref h1, .ref h2, .int (nI n), .int (nI (2 ^ e))], la h1 kk KL kf, ia h2 ks SL sf] s.heap := hP
  have hl := lv_entry ([.ref h0, .long key]) (n := 4) (Nat.le_of_ble_eq_true rfl)
  rw [lg_entry_eq]
  generalize (lg_sl ([.ref h0, .long key]) ++ List.replicate (4 - (lg_sl ([.ref h0, .long key])).length) Slot.unset).toArray = ls at hl ⊢
  replace hl : lv_has ls 4 [(0, .ref h0), (1, .long key)] := hl
  have hp1 : 2 ^ e ≤ 2 ^ 22 := Nat.pow_le_pow_right (by decide) he
  have hp0 : 0 < 2 ^ e := Nat.two_pow_pos e
  have hpe : 2 ^ (e + 1) = 2 * 2 ^ e := by rw [Nat.pow_succ]; omega
  obtain ⟨a, d, had, ha, hd, hpr, hg0, hgl⟩ : ∃ a d, a = (hsh key e + d) % 2 ^ e ∧ a < 2 ^ e ∧ d < 2 ^ e ∧ pr (2 ^ e) sf kf key (2 ^ e) (hsh key e) = a ∧ g a = 0 ∧ ∀ c, c < d → g ((hsh key e + c) % 2 ^ e) ≠ 0 := by
    obtain ⟨d, hd, h1, h2, h3⟩ := inT_new (key := key) hT (by omega) (by omega) hg (Nat.mod_lt _ hp0) hk
    exact ⟨_, d, rfl, Nat.mod_lt _ hp0, hd, h1, h2, h3⟩
  refine lv_aload_n hx hb d_StateSet_add_0 rfl (lv_at hl 0 rfl) ?_
  refine lv_lload_n hx hb d_StateSet_add_1 rfl (lv_at hl 1 rfl) ?_
  obtain ⟨hPc, hDc, hFc⟩ := cut3 (wc := [oc h0 2 [.ref h1, .ref h2, .int (nI n), .int (nI (2 ^ e))], la h1 kk KL kf, ia h2 ks SL sf]) hP hD rfl hS hA [0, 1, 2] (by decide +kernel) rfl
  have hKc := hK.sub (tys' := [(kk, .long), (ks, .int)]) [0, 1] rfl
  refine va_calli (va_runV (As := [.long key]) (rest := []) ⟨hx, hb, hml, hown, hw⟩ (gen_StateSet_slotOf l dC dI h0 h1 h2 (nI n) e key kk ks KL SL kf sf (by omega) hSL hS3 (by omega) (fun k hk => ⟨g k, by have := hT.1 k hk; omega, hg k hk⟩) s.heap.size) (cw_V 1 hw g_StateSet_slotOf rfl rfl rfl (hw _ m_104) (hw _ m_488) (hw _ m_490) (hw _ m_3) (by decide +kernel) ⟨Nat.le_of_ble_eq_true rfl, Nat.le_of_ble_eq_true rfl⟩) ⟨fun a U g mk q => by obtain ⟨q0, q1, qP, qK, qD, qN⟩ := q; exact ⟨q0, q1, qP, va_K.moved (u := U) (U := U.calling g mk a) (Vm.Alike.refl U.vm) qK, qD, nw_call qN⟩, va_recv hKc hPc (ci := 2) (q0 := 0) rfl rfl, fun U hU hW => ⟨rfl, by rw [hU], by rw [hU]; exact hPc, va_K.moved hW.alike hKc, hDc.weaken (fun _ _ _ _ => trivial), nw_warm hW hn⟩⟩ rfl rfl hl.1 rfl (lv_room (Nat.le_of_ble_eq_true rfl)) d_StateSet_add_2 ⟨Nat.zero_le _, Nat.zero_le _⟩) hS (fun q _ h => hFc q h) hFc ?_
  intro r_1 u t9 H1 locs1 ht9 hvm hw1 hB hz1 hk1 hS1
  obtain ⟨hP1, hK1, hD1⟩ := hB
  rw [ht9] at hP1
  replace hK1 := va_K.moved hvm.symm hK1
  have hPD := join3 hP hD rfl [0, 1, 2] [] rfl (by rfl) (by decide +kernel) (by decide +kernel) hk1 hFc hP1 hD1
  replace hK : va_K (dC, dI) classes [(kk, .long), (ks, .int)] s := hK.app hK1
  clear hP1 hK1 hD1 hk1 hz1 hFc hKc hDc hPc hvm ht9 hP hS t9
  have hP : va_P (dC, dI) classes [oc h0 2 [.ref h1, .ref h2, .int (nI n), .int (nI (2 ^ e))], la h1 kk KL kf, ia h2 ks SL sf] H1 := hPD.1
  replace hD : dd A [h0, h1, h2] := dd_of hPD.2 rfl
  clear hPD
  revert H1 locs1
  intro H locs hS hP
  refine tp_i (y := nI a) (hw1.trans (congrArg nI hpr)) ?_
  clear hw1 r_1 u
  refine tp_pc (pc' := 5) (by rfl) ?_
  refine lv_istore_n (lv' := [(3, .int (nI a)), (0, .ref h0), (1, .long key)]) hx hb d_StateSet_add_5 rfl hl (by decide) rfl ?_
  clear hl ls
  intro ls hl
  refine lv_aload_n hx hb d_StateSet_add_6 rfl (lv_at hl 1 rfl) ?_
  refine va_get (D := (dC, dI)) (ci := 2) (v := .ref h2) (C := R_StateSet) (T := F_StateSet) (N := 4) hx hb hw i_StateSet hown hK hP 0 rfl rfl 1 (by decide) (hw _ m_231) (fun _ h9 => h9) rfl d_StateSet_add_7 ?_
  refine lv_iload_n hx hb d_StateSet_add_10 rfl (lv_at hl 0 rfl) ?_
  refine va_iald (D := (dC, dI)) hx hb hK hP 2 1 rfl rfl (i := nI a) (pk_in a SL (by omega)) d_StateSet_add_11 ?_
  refine tp_i (y := sf a) (by rw [show (nI a : Int32).toNatClampNeg = a from pk_cl a]) ?_
  refine tp_i (y := 0) (by rw [hg a ha, hg0]; rfl) ?_
  refine lv_if_ne (tgt := 24) hx hb d_StateSet_add_12 (by decide) (fun c_2 => absurd c_2 (by decide)) (fun c_2 => ?_)
  refine tp_pc (pc' := 15) (by rfl) ?_
  refine lv_aload_n hx hb d_StateSet_add_15 rfl (lv_at hl 1 rfl) ?_
  refine va_get (D := (dC, dI)) (ci := 2) (v := .int (nI n)) (C := R_StateSet) (T := F_StateSet) (N := 4) hx hb hw i_StateSet hown hK hP 0 rfl rfl 2 (by decide) (hw _ m_232) (fun _ h9 => h9) rfl d_StateSet_add_16 ?_
  refine lv_ldc hx hb hown (hw _ m_515) d_StateSet_add_19 ?_
  refine lv_icmp_lt (tgt := 26) hx hb d_StateSet_add_21 (by decide) (fun c9 => ?_) (fun c9 => absurd ((nI_ltI (a := n) (b := 1048576) (by omega) (by omega)).mpr hn20) c9)
  have hc9 : n < 1048576 := (nI_ltI (a := n) (b := 1048576) (by omega) (by omega)).mp c9
  refine tp_pc (pc' := 26) (by rfl) ?_
  refine lv_aload_n hx hb d_StateSet_add_26 rfl (lv_at hl 1 rfl) ?_
  refine va_get (D := (dC, dI)) (ci := 2) (v := .int (nI n)) (C := R_StateSet) (T := F_StateSet) (N := 4) hx hb hw i_StateSet hown hK hP 0 rfl rfl 2 (by decide) (hw _ m_232) (fun _ h9 => h9) rfl d_StateSet_add_27 ?_
  refine lv_aload_n hx hb d_StateSet_add_30 rfl (lv_at hl 1 rfl) ?_
  refine va_get (D := (dC, dI)) (ci := 2) (v := .ref h1) (C := R_StateSet) (T := F_StateSet) (N := 4) hx hb hw i_StateSet hown hK hP 0 rfl rfl 0 (by decide) (hw _ m_230) (fun _ h9 => h9) rfl d_StateSet_add_31 ?_
  refine va_alen (D := (dC, dI)) hx hb hK hP 1 0 rfl rfl (v := nI KL) (by rfl) d_StateSet_add_34 ?_
  refine lv_icmp_lt (tgt := 61) hx hb d_StateSet_add_35 (by decide) (fun c9 => ?_) (fun c9 => absurd ((nI_ltI (a := n) (b := KL) (by omega) (by omega)).mpr hnK) c9)
  have hc9 : n < KL := (nI_ltI (a := n) (b := KL) (by omega) (by omega)).mp c9
  refine tp_pc (pc' := 61) (by rfl) ?_
  refine lv_aload_n hx hb d_StateSet_add_61 rfl (lv_at hl 1 rfl) ?_
  refine va_get (D := (dC, dI)) (ci := 2) (v := .ref h1) (C := R_StateSet) (T := F_StateSet) (N := 4) hx hb hw i_StateSet hown hK hP 0 rfl rfl 0 (by decide) (hw _ m_230) (fun _ h9 => h9) rfl d_StateSet_add_62 ?_
  refine lv_aload_n hx hb d_StateSet_add_65 rfl (lv_at hl 1 rfl) ?_
  refine va_get (D := (dC, dI)) (ci := 2) (v := .int (nI n)) (C := R_StateSet) (T := F_StateSet) (N := 4) hx hb hw i_StateSet hown hK hP 0 rfl rfl 2 (by decide) (hw _ m_232) (fun _ h9 => h9) rfl d_StateSet_add_66 ?_
  refine lv_lload_n hx hb d_StateSet_add_69 rfl (lv_at hl 2 rfl) ?_
  refine va_last (D := (dC, dI)) hx hb hK hP (dd_D hD rfl) hS 1 0 rfl rfl (i := nI n) (x := key) (pk_in n KL (by omega)) d_StateSet_add_70 ?_
  clear hP hS locs H
  intro H locs hP _ hS
  rw [show (nI n : Int32).toNatClampNeg = n from pk_cl n] at hP
  replace hP : va_P (dC, dI) classes [oc h0 2 [.ref h1, .ref h2, .int (nI n), .int (nI (2 ^ e))], la h1 kk KL (vp_updL kf n key), ia h2 ks SL sf] H := hP
  refine tp_pc (pc' := 71) (by rfl) ?_
  refine lv_aload_n hx hb d_StateSet_add_71 rfl (lv_at hl 1 rfl) ?_
  refine lv_dup hx hb d_StateSet_add_72 rfl ?_
  refine va_get (D := (dC, dI)) (ci := 2) (v := .int (nI n)) (C := R_StateSet) (T := F_StateSet) (N := 4) hx hb hw i_StateSet hown hK hP 0 rfl rfl 2 (by decide) (hw _ m_232) (fun _ h9 => h9) rfl d_StateSet_add_73 ?_
  refine lv_iconst (v := 1) hx hb d_StateSet_add_76 (by decide) ?_
  refine lv_iadd hx hb d_StateSet_add_77 ?_
  refine tp_i (y := nI (n + 1)) (by exact nI_add n 1) ?_
  refine va_put (D := (dC, dI)) (ci := 2) (v := .int (nI (n + 1))) (ty := .int) (C := R_StateSet) (T := F_StateSet) (N := 4) hx hb hw i_StateSet t_StateSet t_StateSet_ok n_StateSet hown hK hP (dd_D hD rfl) hS 0 rfl rfl 2 (by decide) (hw _ m_232) (fun _ h9 => h9) rfl (by decide +kernel) rfl rfl (Nat.le_of_ble_eq_true rfl) d_StateSet_add_78 ?_
  clear hP hS locs H
  intro H locs (hP : va_P (dC, dI) classes [oc h0 2 [.ref h1, .ref h2, .int (nI (n + 1)), .int (nI (2 ^ e))], la h1 kk KL (vp_updL kf n key), ia h2 ks SL sf] H) _ hS
  refine tp_pc (pc' := 81) (by rfl) ?_
  refine lv_aload_n hx hb d_StateSet_add_81 rfl (lv_at hl 1 rfl) ?_
  refine va_get (D := (dC, dI)) (ci := 2) (v := .ref h2) (C := R_StateSet) (T := F_StateSet) (N := 4) hx hb hw i_StateSet hown hK hP 0 rfl rfl 1 (by decide) (hw _ m_231) (fun _ h9 => h9) rfl d_StateSet_add_82 ?_
  refine lv_iload_n hx hb d_StateSet_add_85 rfl (lv_at hl 0 rfl) ?_
  refine lv_aload_n hx hb d_StateSet_add_86 rfl (lv_at hl 1 rfl) ?_
  refine va_get (D := (dC, dI)) (ci := 2) (v := .int (nI (n + 1))) (C := R_StateSet) (T := F_StateSet) (N := 4) hx hb hw i_StateSet hown hK hP 0 rfl rfl 2 (by decide) (hw _ m_232) (fun _ h9 => h9) rfl d_StateSet_add_87 ?_
  refine va_iast (D := (dC, dI)) hx hb hK hP (dd_D hD rfl) hS 2 1 rfl rfl (i := nI a) (x := nI (n + 1)) (pk_in a SL (by omega)) d_StateSet_add_90 ?_
  clear hP hS locs H
  intro H locs hP _ hS
  rw [show (nI a : Int32).toNatClampNeg = a from pk_cl a] at hP
  replace hP : va_P (dC, dI) classes [oc h0 2 [.ref h1, .ref h2, .int (nI (n + 1)), .int (nI (2 ^ e))], la h1 kk KL (vp_updL kf n key), ia h2 ks SL (upd sf a (nI (n + 1)))] H := hP
  refine tp_pc (pc' := 91) (by rfl) ?_
  refine lv_iconst (v := 2) hx hb d_StateSet_add_91 (by decide) ?_
  refine lv_aload_n hx hb d_StateSet_add_92 rfl (lv_at hl 1 rfl) ?_
  refine va_get (D := (dC, dI)) (ci := 2) (v := .int (nI (n + 1))) (C := R_StateSet) (T := F_StateSet) (N := 4) hx hb hw i_StateSet hown hK hP 0 rfl rfl 2 (by decide) (hw _ m_232) (fun _ h9 => h9) rfl d_StateSet_add_93 ?_
  refine lv_imul hx hb d_StateSet_add_96 ?_
  refine tp_i (y := nI (2 * (n + 1))) (by exact pk_mul 2 (n + 1)) ?_
  refine lv_aload_n hx hb d_StateSet_add_97 rfl (lv_at hl 1 rfl) ?_
  refine va_get (D := (dC, dI)) (ci := 2) (v := .int (nI (2 ^ e))) (C := R_StateSet) (T := F_StateSet) (N := 4) hx hb hw i_StateSet hown hK hP 0 rfl rfl 3 (by decide) (hw _ m_233) (fun _ h9 => h9) rfl d_StateSet_add_98 ?_
  have hf1 : ∀ j, j < n → (vp_updL kf n key) j = kf j := fun j hj => by
    rw [pk_uLn (by omega)]
  have hf2 : (vp_updL kf n key) n = key := pk_uLs
  have hT2 : inT (2 ^ e) (fun k => hsh k e) (n + 1) (vp_updL kf n key) (fun i => if i = a then n + 1 else g i) := inT_put (key := key) hT hd (by rw [← had]; exact hg0) hgl hk hf1 hf2 (fun k _ => by rw [← had])
  have hg2 : ∀ i, i < 2 ^ e → upd sf a (nI (n + 1)) i = nI (if i = a then n + 1 else g i) := fun i hi => by
    simp only [upd]; by_cases e9 : i = a; (rw [if_pos e9, if_pos e9]); (rw [if_neg e9, if_neg e9]; exact hg i hi)
  refine lv_icmp_le (tgt := 114) hx hb d_StateSet_add_101 (by decide) (fun c9 => absurd ((nI_leI (a := 2 * (n + 1)) (b := 2 ^ e) (by omega) (by omega)).mp c9) (by omega)) (fun c9 => ?_)
  have hc9 : ¬ (2 * (n + 1) ≤ 2 ^ e) := fun q9 => c9 ((nI_leI (a := 2 * (n + 1)) (b := 2 ^ e) (by omega) (by omega)).mpr q9)
  refine tp_pc (pc' := 104) (by rfl) ?_
  refine lv_aload_n hx hb d_StateSet_add_104 rfl (lv_at hl 1 rfl) ?_
  refine lv_iconst (v := 2) hx hb d_StateSet_add_105 (by decide) ?_
  refine lv_aload_n hx hb d_StateSet_add_106 rfl (lv_at hl 1 rfl) ?_
  refine va_get (D := (dC, dI)) (ci := 2) (v := .int (nI (2 ^ e))) (C := R_StateSet) (T := F_StateSet) (N := 4) hx hb hw i_StateSet hown hK hP 0 rfl rfl 3 (by decide) (hw _ m_233) (fun _ h9 => h9) rfl d_StateSet_add_107 ?_
  refine lv_imul hx hb d_StateSet_add_110 ?_
  refine tp_i (y := nI (2 * (2 ^ e))) (by exact pk_mul 2 (2 ^ e)) ?_
  refine tp_i (y := nI (2 ^ (e + 1))) (by rw [hpe]) ?_
  obtain ⟨hPc, hDc, hFc⟩ := cut3 (wc := [oc h0 2 [.ref h1, .ref h2, .int (nI (n + 1)), .int (nI (2 ^ e))], la h1 kk KL (vp_updL kf n key), ia h2 ks SL (upd sf a (nI (n + 1)))]) hP hD rfl hS hA [0, 1, 2] (by decide +kernel) rfl
  have hKc := hK.sub (tys' := [(kk, .long), (ks, .int)]) [0, 1] rfl
  refine va_callv (va_runV (As := [.int (nI (2 ^ (e + 1)))]) (rest := []) ⟨hx, hb, hml, hown, hw⟩ (gen_StateSet_makeRoom_old l dC dI h0 h1 h2 (nI (2 ^ e)) (n + 1) (e + 1) kk ks KL SL (vp_updL kf n key) (upd sf a (nI (n + 1))) (by omega) hS3 (by omega) (by omega) (by omega) hT2.2.2.2 hSe H.size) (cw_V 1 hw g_StateSet_makeRoom rfl rfl rfl (hw _ m_104) (hw _ m_484) (hw _ m_486) (hw _ m_2) (by decide +kernel) ⟨Nat.le_of_ble_eq_true rfl, Nat.le_of_ble_eq_true rfl⟩) ⟨fun a U g mk q => by obtain ⟨q0, q1, qP, qK, qD, qN⟩ := q; exact ⟨q0, q1, qP, va_K.moved (u := U) (U := U.calling g mk a) (Vm.Alike.refl U.vm) qK, qD, nw_call qN⟩, va_recv hKc hPc (ci := 2) (q0 := 0) rfl rfl, fun U hU hW => ⟨rfl, by rw [hU], by rw [hU]; exact hPc, va_K.moved hW.alike hKc, hDc.weaken (fun _ _ _ _ => trivial), nw_warm hW hn⟩⟩ rfl rfl hl.1 rfl (lv_room (Nat.le_of_ble_eq_true rfl)) d_StateSet_add_111 ⟨by show 0 + 0 ≤ 0; omega, by show 0 + 0 ≤ 0; omega⟩) hS (fun q _ h => hFc q h) hFc ?_
  intro u t9 H1 locs1 ht9 hvm hw1 hB hz1 hk1 hS1
  obtain ⟨sf2, g2, hg3, hT3, hP1, hK1, hD1⟩ := hB
  rw [ht9] at hP1
  replace hK1 := va_K.moved hvm.symm hK1
  have hPD := join3 hP hD rfl [0, 1, 2] [] rfl (by rfl) (by decide +kernel) (by decide +kernel) hk1 hFc hP1 hD1
  replace hK : va_K (dC, dI) classes [(kk, .long), (ks, .int)] s := hK.app hK1
  clear hP1 hK1 hD1 hk1 hz1 hFc hKc hDc hPc hvm ht9 hP hS t9 locs H
  have hP : va_P (dC, dI) classes [oc h0 2 [.ref h1, .ref h2, .int (nI (n + 1)), .int (nI (2 ^ (e + 1)))], la h1 kk KL (vp_updL kf n key), ia h2 ks SL sf2] H1 := hPD.1
  replace hD : dd A [h0, h1, h2] := dd_of hPD.2 rfl
  clear hPD
  revert H1 locs1
  intro H locs hS hP
  clear hw1 u
  refine tp_pc (pc' := 114) (by rfl) ?_
  refine lv_iconst (v := 1) hx hb d_StateSet_add_114 (by decide) ?_
  obtain ⟨hP9, hD9, -⟩ := cut3 (wc := [oc h0 2 [.ref h1, .ref h2, .int (nI (n + 1)), .int (nI (2 ^ (e + 1)))], la h1 kk KL (vp_updL kf n key), ia h2 ks SL sf2]) hP hD rfl hS hA [0, 1, 2] (by decide +kernel) rfl
  have hK9 := hK.sub (tys' := [(kk, .long), (ks, .int)]) [0, 1] rfl
  refine W.widen (k := 0) (n := 0) (by first | exact Nat.le_refl _ | omega) (by first | exact Nat.le_refl _ | omega) ?_
  exact W.zret (v := 1) (ty := .boolean) hx hb hr (by decide) (fun t9 ht9 hW => ⟨⟨1, (), rfl, rfl, (vp_updL kf n key), sf2, g2, hf1, hf2, hg3, hT3, by rw [ht9]; exact hP9, va_K.moved hW.alike hK9, hD9⟩, hS.F ht9⟩) hS.2.2 d_StateSet_add_115
set_option maxHeartbeats 4000000 in
set_option maxRecDepth 100000 in
theorem gen_StateSet_add_10 (l : Launch) (dC : Nat → ClassId) (dI : Nat → Nat → Nat) (h0 h1 h2 : Nat) (n e : Nat) (kk ks : ClassId) (KL SL : Nat) (kf : Nat → Int64) (sf : Nat → Int32) (g : Nat → Nat) (key : Int64) (he : e ≤ 22) (hSL : 2 ^ e ≤ SL) (hS3 : SL < 2 ^ 31) (hK3 : KL < 2 ^ 23) (hn9 : n ≤ KL) (hn2 : 2 * n ≤ 2 ^ e) (hn20 : n < 1048576) (hg : ∀ i, i < 2 ^ e → sf i = nI (g i)) (hT : inT (2 ^ e) (fun k => hsh k e) n kf g) (hk : ∀ j, j < n → kf j ≠ key) (M : Nat) (hM : M = if 256 < 2 * n then 2 * n else 256) (hnK : n = KL) (hge : 2 * (n + 1) ≤ 2 ^ e) (sz : Nat) : Met l y_StateSet_add w_StateSet_add ({ frames := 2, cells := 1, slots := M, locals := 80 }) (va_Pc [.ref h0, .long key] (fun U => U.heap.size = sz ∧ va_P (dC, dI) classes [oc h0 2 [.ref h1, .ref h2, .int (nI n), .int (nI (2 ^ e))], la h1 kk KL kf, ia h2 ks SL sf] U.heap ∧ va_K (dC, dI) classes [(kk, .long), (ks, .int)] U ∧ va_D (fun _ => True) [oc h0 2 [.ref h1, .ref h2, .int (nI n), .int (nI (2 ^ e))], la h1 kk KL kf, ia h2 ks SL sf] ∧ nw U)) (va_Qi (fun (r : Int32) (_ : Unit) => r = 1) (fun _ t9 => ∃ (q : Nat) (kq : ClassId) (kf2 : Nat → Int64) (sf2 : Nat → Int32) (g2 : Nat → Nat), (∀ j, j < n → kf2 j = kf j) ∧ kf2 n = key ∧ (∀ i, i < 2 ^ e → sf2 i = nI (g2 i)) ∧ inT (2 ^ e) (fun k => hsh k e) (n + 1) kf2 g2 ∧ va_P (dC, dI) classes [oc h0 2 [.ref q, .ref h2, .int (nI (n + 1)), .int (nI (2 ^ e))], la q kq M kf2, ia h2 ks SL sf2] t9.heap ∧ va_K (dC, dI) classes [(kq, .long), (ks, .int)] t9 ∧ va_D (va_A [oc h0 2 [.ref h1, .ref h2, .int (nI n), .int (nI (2 ^ e))], la h1 kk KL kf, ia h2 ks SL sf] sz) [oc h0 2 [.ref q, .ref h2, .int (nI (n + 1)), .int (nI (2 ^ e))], la q kq M kf2, ia h2 ks SL sf2]) (va_A [oc h0 2 [.ref h1, .ref h2, .int (nI n), .int (nI (2 ^ e))], la h1 kk KL kf, ia h2 ks SL sf] sz)) 1 M (va_A [oc h0 2 [.ref h1, .ref h2, .int (nI n), .int (nI (2 ^ e))], la h1 kk KL kf, ia h2 ks SL sf] sz) := by
  refine Met.ofW (cc := b_StateSet_add) (maxL := 4) (ret := (some .boolean)) (by decide) rfl ?_
  intro p e0 s m args below meth c s₁ B hml hv
  obtain ⟨rfl, hsz, hP, hK, hD0, hn⟩ := hv
  have hx := B.exec
  have hb := B.bytes
  have hr := B.returns
  have hw := fun w (h : w ∈ wt) => atoms_spec (ws := w_StateSet_add) B.pre w (List.mem_cons_of_mem _ h)
  have hown : s.vm.findClass R_StateSet = some m.cls := findClass_of_methodNamed B.named
  have hlocks := B.notSynchronized
  subst hsz
  have hD1 := hD0.self (sz := s.heap.size)
  generalize hAe : va_A [oc h0 2 [.ref h1, .ref h2, .int (nI n), .int (nI (2 ^ e))], la h1 kk KL kf, ia h2 ks SL sf] s.heap.size = A at hD1 ⊢
  have hA : ∀ q : Nat, s.heap.size ≤ q → A q := fun q h => by rw [← hAe]; exact Or.inr h
  have hD : dd A [h0, h1, h2] := dd_of hD1 rfl
  clear hAe hD0 hD1
  have hS : va_S A s.heap s.heap [] := va_S.rf
  replace hP : va_P (dC, dI) classes [oc h0 2 [.ref h1, .ref h2, .int (nI n), .int (nI (2 ^ e))], la h1 kk KL kf, ia h2 ks SL sf] s.heap := hP
  have hl := lv_entry ([.ref h0, .long key]) (n := 4) (Nat.le_of_ble_eq_true rfl)
  rw [lg_entry_eq]
  generalize (lg_sl ([.ref h0, .long key]) ++ List.replicate (4 - (lg_sl ([.ref h0, .long key])).length) Slot.unset).toArray = ls at hl ⊢
  replace hl : lv_has ls 4 [(0, .ref h0), (1, .long key)] := hl
  have hp1 : 2 ^ e ≤ 2 ^ 22 := Nat.pow_le_pow_right (by decide) he
  have hp0 : 0 < 2 ^ e := Nat.two_pow_pos e
  have hMn : n < M ∧ M ≤ 2097152 := by subst hM; split <;> omega
  obtain ⟨a, d, had, ha, hd, hpr, hg0, hgl⟩ : ∃ a d, a = (hsh key e + d) % 2 ^ e ∧ a < 2 ^ e ∧ d < 2 ^ e ∧ pr (2 ^ e) sf kf key (2 ^ e) (hsh key e) = a ∧ g a = 0 ∧ ∀ c, c < d → g ((hsh key e + c) % 2 ^ e) ≠ 0 := by
    obtain ⟨d, hd, h1, h2, h3⟩ := inT_new (key := key) hT (by omega) (by omega) hg (Nat.mod_lt _ hp0) hk
    exact ⟨_, d, rfl, Nat.mod_lt _ hp0, hd, h1, h2, h3⟩
  refine lv_aload_n hx hb d_StateSet_add_0 rfl (lv_at hl 0 rfl) ?_
  refine lv_lload_n hx hb d_StateSet_add_1 rfl (lv_at hl 1 rfl) ?_
  obtain ⟨hPc, hDc, hFc⟩ := cut3 (wc := [oc h0 2 [.ref h1, .ref h2, .int (nI n), .int (nI (2 ^ e))], la h1 kk KL kf, ia h2 ks SL sf]) hP hD rfl hS hA [0, 1, 2] (by decide +kernel) rfl
  have hKc := hK.sub (tys' := [(kk, .long), (ks, .int)]) [0, 1] rfl
  refine va_calli (va_runV (As := [.long key]) (rest := []) ⟨hx, hb, hml, hown, hw⟩ (gen_StateSet_slotOf l dC dI h0 h1 h2 (nI n) e key kk ks KL SL kf sf (by omega) hSL hS3 (by omega) (fun k hk => ⟨g k, by have := hT.1 k hk; omega, hg k hk⟩) s.heap.size) (cw_V 1 hw g_StateSet_slotOf rfl rfl rfl (hw _ m_104) (hw _ m_488) (hw _ m_490) (hw _ m_3) (by decide +kernel) ⟨Nat.le_of_ble_eq_true rfl, Nat.le_of_ble_eq_true rfl⟩) ⟨fun a U g mk q => by obtain ⟨q0, q1, qP, qK, qD, qN⟩ := q; exact ⟨q0, q1, qP, va_K.moved (u := U) (U := U.calling g mk a) (Vm.Alike.refl U.vm) qK, qD, nw_call qN⟩, va_recv hKc hPc (ci := 2) (q0 := 0) rfl rfl, fun U hU hW => ⟨rfl, by rw [hU], by rw [hU]; exact hPc, va_K.moved hW.alike hKc, hDc.weaken (fun _ _ _ _ => trivial), nw_warm hW hn⟩⟩ rfl rfl hl.1 rfl (lv_room (Nat.le_of_ble_eq_true rfl)) d_StateSet_add_2 ⟨Nat.zero_le _, Nat.zero_le _⟩) hS (fun q _ h => hFc q h) hFc ?_
  intro r_1 u t9 H1 locs1 ht9 hvm hw1 hB hz1 hk1 hS1
  obtain ⟨hP1, hK1, hD1⟩ := hB
  rw [ht9] at hP1
  replace hK1 := va_K.moved hvm.symm hK1
  have hPD := join3 hP hD rfl [0, 1, 2] [] rfl (by rfl) (by decide +kernel) (by decide +kernel) hk1 hFc hP1 hD1
  replace hK : va_K (dC, dI) classes [(kk, .long), (ks, .int)] s := hK.app hK1
  clear hP1 hK1 hD1 hk1 hz1 hFc hKc hDc hPc hvm ht9 hP hS t9
  have hP : va_P (dC, dI) classes [oc h0 2 [.ref h1, .ref h2, .int (nI n), .int (nI (2 ^ e))], la h1 kk KL kf, ia h2 ks SL sf] H1 := hPD.1
  replace hD : dd A [h0, h1, h2] := dd_of hPD.2 rfl
  clear hPD
  revert H1 locs1
  intro H locs hS hP
  refine tp_i (y := nI a) (hw1.trans (congrArg nI hpr)) ?_
  clear hw1 r_1 u
  refine tp_pc (pc' := 5) (by rfl) ?_
  refine lv_istore_n (lv' := [(3, .int (nI a)), (0, .ref h0), (1, .long key)]) hx hb d_StateSet_add_5 rfl hl (by decide) rfl ?_
  clear hl ls
  intro ls hl
  refine lv_aload_n hx hb d_StateSet_add_6 rfl (lv_at hl 1 rfl) ?_
  refine va_get (D := (dC, dI)) (ci := 2) (v := .ref h2) (C := R_StateSet) (T := F_StateSet) (N := 4) hx hb hw i_StateSet hown hK hP 0 rfl rfl 1 (by decide) (hw _ m_231) (fun _ h9 => h9) rfl d_StateSet_add_7 ?_
  refine lv_iload_n hx hb d_StateSet_add_10 rfl (lv_at hl 0 rfl) ?_
  refine va_iald (D := (dC, dI)) hx hb hK hP 2 1 rfl rfl (i := nI a) (pk_in a SL (by omega)) d_StateSet_add_11 ?_
  refine tp_i (y := sf a) (by rw [show (nI a : Int32).toNatClampNeg = a from pk_cl a]) ?_
  refine tp_i (y := 0) (by rw [hg a ha, hg0]; rfl) ?_
  refine lv_if_ne (tgt := 24) hx hb d_StateSet_add_12 (by decide) (fun c_2 => absurd c_2 (by decide)) (fun c_2 => ?_)
  refine tp_pc (pc' := 15) (by rfl) ?_
  refine lv_aload_n hx hb d_StateSet_add_15 rfl (lv_at hl 1 rfl) ?_
  refine va_get (D := (dC, dI)) (ci := 2) (v := .int (nI n)) (C := R_StateSet) (T := F_StateSet) (N := 4) hx hb hw i_StateSet hown hK hP 0 rfl rfl 2 (by decide) (hw _ m_232) (fun _ h9 => h9) rfl d_StateSet_add_16 ?_
  refine lv_ldc hx hb hown (hw _ m_515) d_StateSet_add_19 ?_
  refine lv_icmp_lt (tgt := 26) hx hb d_StateSet_add_21 (by decide) (fun c9 => ?_) (fun c9 => absurd ((nI_ltI (a := n) (b := 1048576) (by omega) (by omega)).mpr hn20) c9)
  have hc9 : n < 1048576 := (nI_ltI (a := n) (b := 1048576) (by omega) (by omega)).mp c9
  refine tp_pc (pc' := 26) (by rfl) ?_
  refine lv_aload_n hx hb d_StateSet_add_26 rfl (lv_at hl 1 rfl) ?_
  refine va_get (D := (dC, dI)) (ci := 2) (v := .int (nI n)) (C := R_StateSet) (T := F_StateSet) (N := 4) hx hb hw i_StateSet hown hK hP 0 rfl rfl 2 (by decide) (hw _ m_232) (fun _ h9 => h9) rfl d_StateSet_add_27 ?_
  refine lv_aload_n hx hb d_StateSet_add_30 rfl (lv_at hl 1 rfl) ?_
  refine va_get (D := (dC, dI)) (ci := 2) (v := .ref h1) (C := R_StateSet) (T := F_StateSet) (N := 4) hx hb hw i_StateSet hown hK hP 0 rfl rfl 0 (by decide) (hw _ m_230) (fun _ h9 => h9) rfl d_StateSet_add_31 ?_
  refine va_alen (D := (dC, dI)) hx hb hK hP 1 0 rfl rfl (v := nI KL) (by rfl) d_StateSet_add_34 ?_
  refine lv_icmp_lt (tgt := 61) hx hb d_StateSet_add_35 (by decide) (fun c9 => absurd ((nI_ltI (a := n) (b := KL) (by omega) (by omega)).mp c9) (by omega)) (fun c9 => ?_)
  have hc9 : ¬ (n < KL) := fun q9 => c9 ((nI_ltI (a := n) (b := KL) (by omega) (by omega)).mpr q9)
  refine tp_pc (pc' := 38) (by rfl) ?_
  refine lv_aload_n hx hb d_StateSet_add_38 rfl (lv_at hl 1 rfl) ?_
  refine lv_aload_n hx hb d_StateSet_add_39 rfl (lv_at hl 1 rfl) ?_
  refine va_get (D := (dC, dI)) (ci := 2) (v := .ref h1) (C := R_StateSet) (T := F_StateSet) (N := 4) hx hb hw i_StateSet hown hK hP 0 rfl rfl 0 (by decide) (hw _ m_230) (fun _ h9 => h9) rfl d_StateSet_add_40 ?_
  refine lv_sipush (v := 256) hx hb d_StateSet_add_43 (by decide) ?_
  refine lv_iconst (v := 2) hx hb d_StateSet_add_46 (by decide) ?_
  refine lv_aload_n hx hb d_StateSet_add_47 rfl (lv_at hl 1 rfl) ?_
  refine va_get (D := (dC, dI)) (ci := 2) (v := .int (nI n)) (C := R_StateSet) (T := F_StateSet) (N := 4) hx hb hw i_StateSet hown hK hP 0 rfl rfl 2 (by decide) (hw _ m_232) (fun _ h9 => h9) rfl d_StateSet_add_48 ?_
  refine lv_imul hx hb d_StateSet_add_51 ?_
  refine tp_i (y := nI (2 * n)) (by exact pk_mul 2 n) ?_
  refine va_mmax hx hb (hml.trans hl.1.symm) hown (hw _ m_516) (hw _ m_517) (hw _ m_111) (hw _ m_518) (Nat.le_of_ble_eq_true rfl) (by exact Nat.le_of_ble_eq_true rfl) (by exact Nat.zero_le _) (by exact Nat.zero_le _) d_StateSet_add_52 ?_
  refine tp_i (y := nI M) (by subst hM; by_cases h9 : 256 < 2 * n; (rw [if_pos h9, if_pos]; exact (nI_ltI (a := 256) (b := 2 * n) (by omega) (by omega)).mpr h9); (rw [if_neg h9, if_neg]; rfl; exact fun q9 => h9 ((nI_ltI (a := 256) (b := 2 * n) (by omega) (by omega)).mp q9))) ?_
  refine tp_pc (pc' := 55) (by rfl) ?_
  obtain ⟨hPc, hDc, hFc⟩ := cut3 (wc := [la h1 kk KL kf]) hP hD rfl hS hA [1] (by decide +kernel) rfl
  have hKc := hK.sub (tys' := [(kk, .long)]) [0] rfl
  refine va_callr (va_runS (As := [.ref h1, .int (nI M)]) (rest := [.ref h0]) ⟨hx, hb, hml, hown, hw⟩ (gen_copyOf_long l dC dI h1 kk KL M kf (by omega) (by omega) H.size) (cw_S 2 hw g_Arrays_copyOf2 rfl rfl rfl (hw _ m_110) (hw _ m_519) (hw _ m_520) (by decide +kernel) ⟨Nat.le_of_ble_eq_true rfl, Nat.le_of_ble_eq_true rfl⟩) ⟨fun a U g mk q => by obtain ⟨q0, q1, qP, qK, qD, qN⟩ := q; exact ⟨q0, q1, qP, va_K.moved (u := U) (U := U.calling g mk a) (Vm.Alike.refl U.vm) qK, qD, nw_call qN⟩, fun U hU hW => ⟨rfl, by rw [hU], by rw [hU]; exact hPc, va_K.moved hW.alike hKc, hDc.weaken (fun _ _ _ _ => trivial), nw_warm hW hn⟩⟩ rfl rfl hl.1 rfl (lv_room (Nat.le_of_ble_eq_true rfl)) d_StateSet_add_55 ⟨by show 0 + 1 ≤ 1; omega, by show 0 + M ≤ M; omega⟩) hS (fun q _ h => hFc q h) hFc ?_
  intro u r_3 t9 H1 locs1 ht9 hvm hw1 hB hz1 hk1 hS1
  obtain ⟨q, kq, hra, hP1, hK1, hD1⟩ := hB
  rw [ht9] at hP1
  replace hK1 := va_K.moved hvm.symm hK1
  have hPD := join3 hP hD rfl [1] [0, 2] rfl (by rfl) (by decide +kernel) (by decide +kernel) hk1 hFc hP1 hD1
  replace hK : va_K (dC, dI) classes [(kk, .long), (ks, .int), (kq, .long)] s := hK.app hK1
  clear hP1 hK1 hD1 hk1 hz1 hFc hKc hDc hPc hvm ht9 hP hS t9 locs H
  have hP : va_P (dC, dI) classes [oc h0 2 [.ref h1, .ref h2, .int (nI n), .int (nI (2 ^ e))], ia h2 ks SL sf, la h1 kk KL kf, la q kq M (va_cpy kf (fun _ => 0) 0 0 KL)] H1 := hPD.1
  replace hD : dd A [h0, h2, h1, q] := dd_of hPD.2 rfl
  clear hPD
  revert H1 locs1
  intro H locs hS hP
  refine tp_r (y := q) hra ?_
  clear hra hw1 r_3 u
  refine W.widen (k := 1) (n := M) (by first | exact Nat.le_refl _ | omega) (by first | exact Nat.le_refl _ | omega) ?_
  refine tp_pc (pc' := 58) (by rfl) ?_
  refine va_put (D := (dC, dI)) (ci := 2) (v := .ref q) (ty := .array .long) (C := R_StateSet) (T := F_StateSet) (N := 4) hx hb hw i_StateSet t_StateSet t_StateSet_ok n_StateSet hown hK hP (dd_D hD rfl) hS 0 rfl rfl 0 (by decide) (hw _ m_230) (fun _ h9 => h9) rfl (by decide +kernel) rfl rfl (Nat.le_of_ble_eq_true rfl) d_StateSet_add_58 ?_
  clear hP hS locs H
  intro H locs (hP : va_P (dC, dI) classes [oc h0 2 [.ref q, .ref h2, .int (nI n), .int (nI (2 ^ e))], ia h2 ks SL sf, la h1 kk KL kf, la q kq M (va_cpy kf (fun _ => 0) 0 0 KL)] H) _ hS
  refine tp_pc (pc' := 61) (by rfl) ?_
  refine lv_aload_n hx hb d_StateSet_add_61 rfl (lv_at hl 1 rfl) ?_
  refine va_get (D := (dC, dI)) (ci := 2) (v := .ref q) (C := R_StateSet) (T := F_StateSet) (N := 4) hx hb hw i_StateSet hown hK hP 0 rfl rfl 0 (by decide) (hw _ m_230) (fun _ h9 => h9) rfl d_StateSet_add_62 ?_
  refine lv_aload_n hx hb d_StateSet_add_65 rfl (lv_at hl 1 rfl) ?_
  refine va_get (D := (dC, dI)) (ci := 2) (v := .int (nI n)) (C := R_StateSet) (T := F_StateSet) (N := 4) hx hb hw i_StateSet hown hK hP 0 rfl rfl 2 (by decide) (hw _ m_232) (fun _ h9 => h9) rfl d_StateSet_add_66 ?_
  refine lv_lload_n hx hb d_StateSet_add_69 rfl (lv_at hl 2 rfl) ?_
  refine va_last (D := (dC, dI)) hx hb hK hP (dd_D hD rfl) hS 3 2 rfl rfl (i := nI n) (x := key) (pk_in n M (by omega)) d_StateSet_add_70 ?_
  clear hP hS locs H
  intro H locs hP _ hS
  rw [show (nI n : Int32).toNatClampNeg = n from pk_cl n] at hP
  replace hP : va_P (dC, dI) classes [oc h0 2 [.ref q, .ref h2, .int (nI n), .int (nI (2 ^ e))], ia h2 ks SL sf, la h1 kk KL kf, la q kq M (vp_updL (va_cpy kf (fun _ => 0) 0 0 KL) n key)] H := hP
  refine tp_pc (pc' := 71) (by rfl) ?_
  refine lv_aload_n hx hb d_StateSet_add_71 rfl (lv_at hl 1 rfl) ?_
  refine lv_dup hx hb d_StateSet_add_72 rfl ?_
  refine va_get (D := (dC, dI)) (ci := 2) (v := .int (nI n)) (C := R_StateSet) (T := F_StateSet) (N := 4) hx hb hw i_StateSet hown hK hP 0 rfl rfl 2 (by decide) (hw _ m_232) (fun _ h9 => h9) rfl d_StateSet_add_73 ?_
  refine lv_iconst (v := 1) hx hb d_StateSet_add_76 (by decide) ?_
  refine lv_iadd hx hb d_StateSet_add_77 ?_
  refine tp_i (y := nI (n + 1)) (by exact nI_add n 1) ?_
  refine va_put (D := (dC, dI)) (ci := 2) (v := .int (nI (n + 1))) (ty := .int) (C := R_StateSet) (T := F_StateSet) (N := 4) hx hb hw i_StateSet t_StateSet t_StateSet_ok n_StateSet hown hK hP (dd_D hD rfl) hS 0 rfl rfl 2 (by decide) (hw _ m_232) (fun _ h9 => h9) rfl (by decide +kernel) rfl rfl (Nat.le_of_ble_eq_true rfl) d_StateSet_add_78 ?_
  clear hP hS locs H
  intro H locs (hP : va_P (dC, dI) classes [oc h0 2 [.ref q, .ref h2, .int (nI (n + 1)), .int (nI (2 ^ e))], ia h2 ks SL sf, la h1 kk KL kf, la q kq M (vp_updL (va_cpy kf (fun _ => 0) 0 0 KL) n key)] H) _ hS
  refine tp_pc (pc' := 81) (by rfl) ?_
  refine lv_aload_n hx hb d_StateSet_add_81 rfl (lv_at hl 1 rfl) ?_
  refine va_get (D := (dC, dI)) (ci := 2) (v := .ref h2) (C := R_StateSet) (T := F_StateSet) (N := 4) hx hb hw i_StateSet hown hK hP 0 rfl rfl 1 (by decide) (hw _ m_231) (fun _ h9 => h9) rfl d_StateSet_add_82 ?_
  refine lv_iload_n hx hb d_StateSet_add_85 rfl (lv_at hl 0 rfl) ?_
  refine lv_aload_n hx hb d_StateSet_add_86 rfl (lv_at hl 1 rfl) ?_
  refine va_get (D := (dC, dI)) (ci := 2) (v := .int (nI (n + 1))) (C := R_StateSet) (T := F_StateSet) (N := 4) hx hb hw i_StateSet hown hK hP 0 rfl rfl 2 (by decide) (hw _ m_232) (fun _ h9 => h9) rfl d_StateSet_add_87 ?_
  refine va_iast (D := (dC, dI)) hx hb hK hP (dd_D hD rfl) hS 1 1 rfl rfl (i := nI a) (x := nI (n + 1)) (pk_in a SL (by omega)) d_StateSet_add_90 ?_
  clear hP hS locs H
  intro H locs hP _ hS
  rw [show (nI a : Int32).toNatClampNeg = a from pk_cl a] at hP
  replace hP : va_P (dC, dI) classes [oc h0 2 [.ref q, .ref h2, .int (nI (n + 1)), .int (nI (2 ^ e))], ia h2 ks SL (upd sf a (nI (n + 1))), la h1 kk KL kf, la q kq M (vp_updL (va_cpy kf (fun _ => 0) 0 0 KL) n key)] H := hP
  refine tp_pc (pc' := 91) (by rfl) ?_
  refine lv_iconst (v := 2) hx hb d_StateSet_add_91 (by decide) ?_
  refine lv_aload_n hx hb d_StateSet_add_92 rfl (lv_at hl 1 rfl) ?_
  refine va_get (D := (dC, dI)) (ci := 2) (v := .int (nI (n + 1))) (C := R_StateSet) (T := F_StateSet) (N := 4) hx hb hw i_StateSet hown hK hP 0 rfl rfl 2 (by decide) (hw _ m_232) (fun _ h9 => h9) rfl d_StateSet_add_93 ?_
  refine lv_imul hx hb d_StateSet_add_96 ?_
  refine tp_i (y := nI (2 * (n + 1))) (by exact pk_mul 2 (n + 1)) ?_
  refine lv_aload_n hx hb d_StateSet_add_97 rfl (lv_at hl 1 rfl) ?_
  refine va_get (D := (dC, dI)) (ci := 2) (v := .int (nI (2 ^ e))) (C := R_StateSet) (T := F_StateSet) (N := 4) hx hb hw i_StateSet hown hK hP 0 rfl rfl 3 (by decide) (hw _ m_233) (fun _ h9 => h9) rfl d_StateSet_add_98 ?_
  have hf1 : ∀ j, j < n → (vp_updL (va_cpy kf (fun _ => 0) 0 0 KL) n key) j = kf j := fun j hj => by
    rw [pk_uLn (by omega)]; rw [pk_cpy_in (by omega) (by omega)]; congr 1; omega
  have hf2 : (vp_updL (va_cpy kf (fun _ => 0) 0 0 KL) n key) n = key := pk_uLs
  have hT2 : inT (2 ^ e) (fun k => hsh k e) (n + 1) (vp_updL (va_cpy kf (fun _ => 0) 0 0 KL) n key) (fun i => if i = a then n + 1 else g i) := inT_put (key := key) hT hd (by rw [← had]; exact hg0) hgl hk hf1 hf2 (fun k _ => by rw [← had])
  have hg2 : ∀ i, i < 2 ^ e → upd sf a (nI (n + 1)) i = nI (if i = a then n + 1 else g i) := fun i hi => by
    simp only [upd]; by_cases e9 : i = a; (rw [if_pos e9, if_pos e9]); (rw [if_neg e9, if_neg e9]; exact hg i hi)
  refine lv_icmp_le (tgt := 114) hx hb d_StateSet_add_101 (by decide) (fun c9 => ?_) (fun c9 => absurd ((nI_leI (a := 2 * (n + 1)) (b := 2 ^ e) (by omega) (by omega)).mpr hge) c9)
  have hc9 : 2 * (n + 1) ≤ 2 ^ e := (nI_leI (a := 2 * (n + 1)) (b := 2 ^ e) (by omega) (by omega)).mp c9
  refine tp_pc (pc' := 114) (by rfl) ?_
  refine lv_iconst (v := 1) hx hb d_StateSet_add_114 (by decide) ?_
  obtain ⟨hP9, hD9, -⟩ := cut3 (wc := [oc h0 2 [.ref q, .ref h2, .int (nI (n + 1)), .int (nI (2 ^ e))], la q kq M (vp_updL (va_cpy kf (fun _ => 0) 0 0 KL) n key), ia h2 ks SL (upd sf a (nI (n + 1)))]) hP hD rfl hS hA [0, 3, 1] (by decide +kernel) rfl
  have hK9 := hK.sub (tys' := [(kq, .long), (ks, .int)]) [2, 1] rfl
  refine W.widen (k := 1) (n := M) (by first | exact Nat.le_refl _ | omega) (by first | exact Nat.le_refl _ | omega) ?_
  exact W.zret (v := 1) (ty := .boolean) hx hb hr (by decide) (fun t9 ht9 hW => ⟨⟨1, (), rfl, rfl, q, kq, (vp_updL (va_cpy kf (fun _ => 0) 0 0 KL) n key), upd sf a (nI (n + 1)), fun i => if i = a then n + 1 else g i, hf1, hf2, hg2, hT2, by rw [ht9]; exact hP9, va_K.moved hW.alike hK9, hD9⟩, hS.F ht9⟩) hS.2.2 d_StateSet_add_115
set_option maxHeartbeats 4000000 in
set_option maxRecDepth 100000 in
theorem gen_StateSet_add_11 (l : Launch) (dC : Nat → ClassId) (dI : Nat → Nat → Nat) (h0 h1 h2 : Nat) (n e : Nat) (kk ks : ClassId) (KL SL : Nat) (kf : Nat → Int64) (sf : Nat → Int32) (g : Nat → Nat) (key : Int64) (he : e ≤ 22) (hSL : 2 ^ e ≤ SL) (hS3 : SL < 2 ^ 31) (hK3 : KL < 2 ^ 23) (hn9 : n ≤ KL) (hn2 : 2 * n ≤ 2 ^ e) (hn20 : n < 1048576) (hg : ∀ i, i < 2 ^ e → sf i = nI (g i)) (hT : inT (2 ^ e) (fun k => hsh k e) n kf g) (hk : ∀ j, j < n → kf j ≠ key) (M : Nat) (hM : M = if 256 < 2 * n then 2 * n else 256) (hnK : n = KL) (hge : 2 ^ e < 2 * (n + 1)) (hSe : SL < 2 ^ (e + 1)) (sz : Nat) : Met l y_StateSet_add w_StateSet_add ({ frames := 2, cells := 2, slots := M + 2 ^ (e + 1), locals := 80 }) (va_Pc [.ref h0, .long key] (fun U => U.heap.size = sz ∧ va_P (dC, dI) classes [oc h0 2 [.ref h1, .ref h2, .int (nI n), .int (nI (2 ^ e))], la h1 kk KL kf, ia h2 ks SL sf] U.heap ∧ va_K (dC, dI) classes [(kk, .long), (ks, .int)] U ∧ va_D (fun _ => True) [oc h0 2 [.ref h1, .ref h2, .int (nI n), .int (nI (2 ^ e))], la h1 kk KL kf, ia h2 ks SL sf] ∧ nw U)) (va_Qi (fun (r : Int32) (_ : Unit) => r = 1) (fun _ t9 => ∃ (q : Nat) (kq : ClassId) (q2 : Nat) (kq2 : ClassId) (kf2 : Nat → Int64) (sf2 : Nat → Int32) (g2 : Nat → Nat), (∀ j, j < n → kf2 j = kf j) ∧ kf2 n = key ∧ (∀ i, i < 2 ^ (e + 1) → sf2 i = nI (g2 i)) ∧ inT (2 ^ (e + 1)) (fun k => hsh k (e + 1)) (n + 1) kf2 g2 ∧ va_P (dC, dI) classes [oc h0 2 [.ref q, .ref q2, .int (nI (n + 1)), .int (nI (2 ^ (e + 1)))], la q kq M kf2, ia q2 kq2 (2 ^ (e + 1)) sf2] t9.heap ∧ va_K (dC, dI) classes [(kq, .long), (kq2, .int)] t9 ∧ va_D (va_A [oc h0 2 [.ref h1, .ref h2, .int (nI n), .int (nI (2 ^ e))], la h1 kk KL kf, ia h2 ks SL sf] sz) [oc h0 2 [.ref q, .ref q2, .int (nI (n + 1)), .int (nI (2 ^ (e + 1)))], la q kq M kf2, ia q2 kq2 (2 ^ (e + 1)) sf2]) (va_A [oc h0 2 [.ref h1, .ref h2, .int (nI n), .int (nI (2 ^ e))], la h1 kk KL kf, ia h2 ks SL sf] sz)) 2 (M + 2 ^ (e + 1)) (va_A [oc h0 2 [.ref h1, .ref h2, .int (nI n), .int (nI (2 ^ e))], la h1 kk KL kf, ia h2 ks SL sf] sz) := by
  refine Met.ofW (cc := b_StateSet_add) (maxL := 4) (ret := (some .boolean)) (by decide) rfl ?_
  intro p e0 s m args below meth c s₁ B hml hv
  obtain ⟨rfl, hsz, hP, hK, hD0, hn⟩ := hv
  have hx := B.exec
  have hb := B.bytes
  have hr := B.returns
  have hw := fun w (h : w ∈ wt) => atoms_spec (ws := w_StateSet_add) B.pre w (List.mem_cons_of_mem _ h)
  have hown : s.vm.findClass R_StateSet = some m.cls := findClass_of_methodNamed B.named
  have hlocks := B.notSynchronized
  subst hsz
  have hD1 := hD0.self (sz := s.heap.size)
  generalize hAe : va_A [oc h0 2 [.ref h1, .ref h2, .int (nI n), .int (nI (2 ^ e))], la h1 kk KL kf, ia h2 ks SL sf] s.heap.size = A at hD1 ⊢
  have hA : ∀ q : Nat, s.heap.size ≤ q → A q := fun q h => by rw [← hAe]; exact Or.inr h
  have hD : dd A [h0, h1, h2] := dd_of hD1 rfl
  clear hAe hD0 hD1
  have hS : va_S A s.heap s.heap [] := va_S.rf
  replace hP : va_P (dC, dI) classes [oc h0 2 [.ref h1, .ref h2, .int (nI n), .int (nI (2 ^ e))], la h1 kk KL kf, ia h2 ks SL sf] s.heap := hP
  have hl := lv_entry ([.ref h0, .long key]) (n := 4) (Nat.le_of_ble_eq_true rfl)
  rw [lg_entry_eq]
  generalize (lg_sl ([.ref h0, .long key]) ++ List.replicate (4 - (lg_sl ([.ref h0, .long key])).length) Slot.unset).toArray = ls at hl ⊢
  replace hl : lv_has ls 4 [(0, .ref h0), (1, .long key)] := hl
  have hp1 : 2 ^ e ≤ 2 ^ 22 := Nat.pow_le_pow_right (by decide) he
  have hp0 : 0 < 2 ^ e := Nat.two_pow_pos e
  have hpe : 2 ^ (e + 1) = 2 * 2 ^ e := by rw [Nat.pow_succ]; omega
  have hMn : n < M ∧ M ≤ 2097152 := by subst hM; split <;> omega
  obtain ⟨a, d, had, ha, hd, hpr, hg0, hgl⟩ : ∃ a d, a = (hsh key e + d) % 2 ^ e ∧ a < 2 ^ e ∧ d < 2 ^ e ∧ pr (2 ^ e) sf kf key (2 ^ e) (hsh key e) = a ∧ g a = 0 ∧ ∀ c, c < d → g ((hsh key e + c) % 2 ^ e) ≠ 0 := by
    obtain ⟨d, hd, h1, h2, h3⟩ := inT_new (key := key) hT (by omega) (by omega) hg (Nat.mod_lt _ hp0) hk
    exact ⟨_, d, rfl, Nat.mod_lt _ hp0, hd, h1, h2, h3⟩
  refine lv_aload_n hx hb d_StateSet_add_0 rfl (lv_at hl 0 rfl) ?_
  refine lv_lload_n hx hb d_StateSet_add_1 rfl (lv_at hl 1 rfl) ?_
  obtain ⟨hPc, hDc, hFc⟩ := cut3 (wc := [oc h0 2 [.ref h1, .ref h2, .int (nI n), .int (nI (2 ^ e))], la h1 kk KL kf, ia h2 ks SL sf]) hP hD rfl hS hA [0, 1, 2] (by decide +kernel) rfl
  have hKc := hK.sub (tys' := [(kk, .long), (ks, .int)]) [0, 1] rfl
  refine va_calli (va_runV (As := [.long key]) (rest := []) ⟨hx, hb, hml, hown, hw⟩ (gen_StateSet_slotOf l dC dI h0 h1 h2 (nI n) e key kk ks KL SL kf sf (by omega) hSL hS3 (by omega) (fun k hk => ⟨g k, by have := hT.1 k hk; omega, hg k hk⟩) s.heap.size) (cw_V 1 hw g_StateSet_slotOf rfl rfl rfl (hw _ m_104) (hw _ m_488) (hw _ m_490) (hw _ m_3) (by decide +kernel) ⟨Nat.le_of_ble_eq_true rfl, Nat.le_of_ble_eq_true rfl⟩) ⟨fun a U g mk q => by obtain ⟨q0, q1, qP, qK, qD, qN⟩ := q; exact ⟨q0, q1, qP, va_K.moved (u := U) (U := U.calling g mk a) (Vm.Alike.refl U.vm) qK, qD, nw_call qN⟩, va_recv hKc hPc (ci := 2) (q0 := 0) rfl rfl, fun U hU hW => ⟨rfl, by rw [hU], by rw [hU]; exact hPc, va_K.moved hW.alike hKc, hDc.weaken (fun _ _ _ _ => trivial), nw_warm hW hn⟩⟩ rfl rfl hl.1 rfl (lv_room (Nat.le_of_ble_eq_true rfl)) d_StateSet_add_2 ⟨Nat.zero_le _, Nat.zero_le _⟩) hS (fun q _ h => hFc q h) hFc ?_
  intro r_1 u t9 H1 locs1 ht9 hvm hw1 hB hz1 hk1 hS1
  obtain ⟨hP1, hK1, hD1⟩ := hB
  rw [ht9] at hP1
  replace hK1 := va_K.moved hvm.symm hK1
  have hPD := join3 hP hD rfl [0, 1, 2] [] rfl (by rfl) (by decide +kernel) (by decide +kernel) hk1 hFc hP1 hD1
  replace hK : va_K (dC, dI) classes [(kk, .long), (ks, .int)] s := hK.app hK1
  clear hP1 hK1 hD1 hk1 hz1 hFc hKc hDc hPc hvm ht9 hP hS t9
  have hP : va_P (dC, dI) classes [oc h0 2 [.ref h1, .ref h2, .int (nI n), .int (nI (2 ^ e))], la h1 kk KL kf, ia h2 ks SL sf] H1 := hPD.1
  replace hD : dd A [h0, h1, h2] := dd_of hPD.2 rfl
  clear hPD
  revert H1 locs1
  intro H locs hS hP
  refine tp_i (y := nI a) (hw1.trans (congrArg nI hpr)) ?_
  clear hw1 r_1 u
  refine tp_pc (pc' := 5) (by rfl) ?_
  refine lv_istore_n (lv' := [(3, .int (nI a)), (0, .ref h0), (1, .long key)]) hx hb d_StateSet_add_5 rfl hl (by decide) rfl ?_
  clear hl ls
  intro ls hl
  refine lv_aload_n hx hb d_StateSet_add_6 rfl (lv_at hl 1 rfl) ?_
  refine va_get (D := (dC, dI)) (ci := 2) (v := .ref h2) (C := R_StateSet) (T := F_StateSet) (N := 4) hx hb hw i_StateSet hown hK hP 0 rfl rfl 1 (by decide) (hw _ m_231) (fun _ h9 => h9) rfl d_StateSet_add_7 ?_
  refine lv_iload_n hx hb d_StateSet_add_10 rfl (lv_at hl 0 rfl) ?_
  refine va_iald (D := (dC, dI)) hx hb hK hP 2 1 rfl rfl (i := nI a) (pk_in a SL (by omega)) d_StateSet_add_11 ?_
  refine tp_i (y := sf a) (by rw [show (nI a : Int32).toNatClampNeg = a from pk_cl a]) ?_
  refine tp_i (y := 0) (by rw [hg a ha, hg0]; rfl) ?_
  refine lv_if_ne (tgt := 24) hx hb d_StateSet_add_12 (by decide) (fun c_2 => absurd c_2 (by decide)) (fun c_2 => ?_)
  refine tp_pc (pc' := 15) (by rfl) ?_
  refine lv_aload_n hx hb d_StateSet_add_15 rfl (lv_at hl 1 rfl) ?_
  refine va_get (D := (dC, dI)) (ci := 2) (v := .int (nI n)) (C := R_StateSet) (T := F_StateSet) (N := 4) hx hb hw i_StateSet hown hK hP 0 rfl rfl 2 (by decide) (hw _ m_232) (fun _ h9 => h9) rfl d_StateSet_add_16 ?_
  refine lv_ldc hx hb hown (hw _ m_515) d_StateSet_add_19 ?_
  refine lv_icmp_lt (tgt := 26) hx hb d_StateSet_add_21 (by decide) (fun c9 => ?_) (fun c9 => absurd ((nI_ltI (a := n) (b := 1048576) (by omega) (by omega)).mpr hn20) c9)
  have hc9 : n < 1048576 := (nI_ltI (a := n) (b := 1048576) (by omega) (by omega)).mp c9
  refine tp_pc (pc' := 26) (by rfl) ?_
  refine lv_aload_n hx hb d_StateSet_add_26 rfl (lv_at hl 1 rfl) ?_
  refine va_get (D := (dC, dI)) (ci := 2) (v := .int (nI n)) (C := R_StateSet) (T := F_StateSet) (N := 4) hx hb hw i_StateSet hown hK hP 0 rfl rfl 2 (by decide) (hw _ m_232) (fun _ h9 => h9) rfl d_StateSet_add_27 ?_
  refine lv_aload_n hx hb d_StateSet_add_30 rfl (lv_at hl 1 rfl) ?_
  refine va_get (D := (dC, dI)) (ci := 2) (v := .ref h1) (C := R_StateSet) (T := F_StateSet) (N := 4) hx hb hw i_StateSet hown hK hP 0 rfl rfl 0 (by decide) (hw _ m_230) (fun _ h9 => h9) rfl d_StateSet_add_31 ?_
  refine va_alen (D := (dC, dI)) hx hb hK hP 1 0 rfl rfl (v := nI KL) (by rfl) d_StateSet_add_34 ?_
  refine lv_icmp_lt (tgt := 61) hx hb d_StateSet_add_35 (by decide) (fun c9 => absurd ((nI_ltI (a := n) (b := KL) (by omega) (by omega)).mp c9) (by omega)) (fun c9 => ?_)
  have hc9 : ¬ (n < KL) := fun q9 => c9 ((nI_ltI (a := n) (b := KL) (by omega) (by omega)).mpr q9)
  refine tp_pc (pc' := 38) (by rfl) ?_
  refine lv_aload_n hx hb d_StateSet_add_38 rfl (lv_at hl 1 rfl) ?_
  refine lv_aload_n hx hb d_StateSet_add_39 rfl (lv_at hl 1 rfl) ?_
  refine va_get (D := (dC, dI)) (ci := 2) (v := .ref h1) (C := R_StateSet) (T := F_StateSet) (N := 4) hx hb hw i_StateSet hown hK hP 0 rfl rfl 0 (by decide) (hw _ m_230) (fun _ h9 => h9) rfl d_StateSet_add_40 ?_
  refine lv_sipush (v := 256) hx hb d_StateSet_add_43 (by decide) ?_
  refine lv_iconst (v := 2) hx hb d_StateSet_add_46 (by decide) ?_
  refine lv_aload_n hx hb d_StateSet_add_47 rfl (lv_at hl 1 rfl) ?_
  refine va_get (D := (dC, dI)) (ci := 2) (v := .int (nI n)) (C := R_StateSet) (T := F_StateSet) (N := 4) hx hb hw i_StateSet hown hK hP 0 rfl rfl 2 (by decide) (hw _ m_232) (fun _ h9 => h9) rfl d_StateSet_add_48 ?_
  refine lv_imul hx hb d_StateSet_add_51 ?_
  refine tp_i (y := nI (2 * n)) (by exact pk_mul 2 n) ?_
  refine va_mmax hx hb (hml.trans hl.1.symm) hown (hw _ m_516) (hw _ m_517) (hw _ m_111) (hw _ m_518) (Nat.le_of_ble_eq_true rfl) (by exact Nat.le_of_ble_eq_true rfl) (by exact Nat.zero_le _) (by exact Nat.zero_le _) d_StateSet_add_52 ?_
  refine tp_i (y := nI M) (by subst hM; by_cases h9 : 256 < 2 * n; (rw [if_pos h9, if_pos]; exact (nI_ltI (a := 256) (b := 2 * n) (by omega) (by omega)).mpr h9); (rw [if_neg h9, if_neg]; rfl; exact fun q9 => h9 ((nI_ltI (a := 256) (b := 2 * n) (by omega) (by omega)).mp q9))) ?_
  refine tp_pc (pc' := 55) (by rfl) ?_
  obtain ⟨hPc, hDc, hFc⟩ := cut3 (wc := [la h1 kk KL kf]) hP hD rfl hS hA [1] (by decide +kernel) rfl
  have hKc := hK.sub (tys' := [(kk, .long)]) [0] rfl
  refine va_callr (va_runS (As := [.ref h1, .int (nI M)]) (rest := [.ref h0]) ⟨hx, hb, hml, hown, hw⟩ (gen_copyOf_long l dC dI h1 kk KL M kf (by omega) (by omega) H.size) (cw_S 2 hw g_Arrays_copyOf2 rfl rfl rfl (hw _ m_110) (hw _ m_519) (hw _ m_520) (by decide +kernel) ⟨Nat.le_of_ble_eq_true rfl, Nat.le_of_ble_eq_true rfl⟩) ⟨fun a U g mk q => by obtain ⟨q0, q1, qP, qK, qD, qN⟩ := q; exact ⟨q0, q1, qP, va_K.moved (u := U) (U := U.calling g mk a) (Vm.Alike.refl U.vm) qK, qD, nw_call qN⟩, fun U hU hW => ⟨rfl, by rw [hU], by rw [hU]; exact hPc, va_K.moved hW.alike hKc, hDc.weaken (fun _ _ _ _ => trivial), nw_warm hW hn⟩⟩ rfl rfl hl.1 rfl (lv_room (Nat.le_of_ble_eq_true rfl)) d_StateSet_add_55 ⟨by show 0 + 1 ≤ 2; omega, by show 0 + M ≤ M + 2 ^ (e + 1); omega⟩) hS (fun q _ h => hFc q h) hFc ?_
  intro u r_3 t9 H1 locs1 ht9 hvm hw1 hB hz1 hk1 hS1
  obtain ⟨q, kq, hra, hP1, hK1, hD1⟩ := hB
  rw [ht9] at hP1
  replace hK1 := va_K.moved hvm.symm hK1
  have hPD := join3 hP hD rfl [1] [0, 2] rfl (by rfl) (by decide +kernel) (by decide +kernel) hk1 hFc hP1 hD1
  replace hK : va_K (dC, dI) classes [(kk, .long), (ks, .int), (kq, .long)] s := hK.app hK1
  clear hP1 hK1 hD1 hk1 hz1 hFc hKc hDc hPc hvm ht9 hP hS t9 locs H
  have hP : va_P (dC, dI) classes [oc h0 2 [.ref h1, .ref h2, .int (nI n), .int (nI (2 ^ e))], ia h2 ks SL sf, la h1 kk KL kf, la q kq M (va_cpy kf (fun _ => 0) 0 0 KL)] H1 := hPD.1
  replace hD : dd A [h0, h2, h1, q] := dd_of hPD.2 rfl
  clear hPD
  revert H1 locs1
  intro H locs hS hP
  refine tp_r (y := q) hra ?_
  clear hra hw1 r_3 u
  refine W.widen (k := 1) (n := M) (by first | exact Nat.le_refl _ | omega) (by first | exact Nat.le_refl _ | omega) ?_
  refine tp_pc (pc' := 58) (by rfl) ?_
  refine va_put (D := (dC, dI)) (ci := 2) (v := .ref q) (ty := .array .long) (C := R_StateSet) (T := F_StateSet) (N := 4) hx hb hw i_StateSet t_StateSet t_StateSet_ok n_StateSet hown hK hP (dd_D hD rfl) hS 0 rfl rfl 0 (by decide) (hw _ m_230) (fun _ h9 => h9) rfl (by decide +kernel) rfl rfl (Nat.le_of_ble_eq_true rfl) d_StateSet_add_58 ?_
  clear hP hS locs H
  intro H locs (hP : va_P (dC, dI) classes [oc h0 2 [.ref q, .ref h2, .int (nI n), .int (nI (2 ^ e))], ia h2 ks SL sf, la h1 kk KL kf, la q kq M (va_cpy kf (fun _ => 0) 0 0 KL)] H) _ hS
  refine tp_pc (pc' := 61) (by rfl) ?_
  refine lv_aload_n hx hb d_StateSet_add_61 rfl (lv_at hl 1 rfl) ?_
  refine va_get (D := (dC, dI)) (ci := 2) (v := .ref q) (C := R_StateSet) (T := F_StateSet) (N := 4) hx hb hw i_StateSet hown hK hP 0 rfl rfl 0 (by decide) (hw _ m_230) (fun _ h9 => h9) rfl d_StateSet_add_62 ?_
  refine lv_aload_n hx hb d_StateSet_add_65 rfl (lv_at hl 1 rfl) ?_
  refine va_get (D := (dC, dI)) (ci := 2) (v := .int (nI n)) (C := R_StateSet) (T := F_StateSet) (N := 4) hx hb hw i_StateSet hown hK hP 0 rfl rfl 2 (by decide) (hw _ m_232) (fun _ h9 => h9) rfl d_StateSet_add_66 ?_
  refine lv_lload_n hx hb d_StateSet_add_69 rfl (lv_at hl 2 rfl) ?_
  refine va_last (D := (dC, dI)) hx hb hK hP (dd_D hD rfl) hS 3 2 rfl rfl (i := nI n) (x := key) (pk_in n M (by omega)) d_StateSet_add_70 ?_
  clear hP hS locs H
  intro H locs hP _ hS
  rw [show (nI n : Int32).toNatClampNeg = n from pk_cl n] at hP
  replace hP : va_P (dC, dI) classes [oc h0 2 [.ref q, .ref h2, .int (nI n), .int (nI (2 ^ e))], ia h2 ks SL sf, la h1 kk KL kf, la q kq M (vp_updL (va_cpy kf (fun _ => 0) 0 0 KL) n key)] H := hP
  refine tp_pc (pc' := 71) (by rfl) ?_
  refine lv_aload_n hx hb d_StateSet_add_71 rfl (lv_at hl 1 rfl) ?_
  refine lv_dup hx hb d_StateSet_add_72 rfl ?_
  refine va_get (D := (dC, dI)) (ci := 2) (v := .int (nI n)) (C := R_StateSet) (T := F_StateSet) (N := 4) hx hb hw i_StateSet hown hK hP 0 rfl rfl 2 (by decide) (hw _ m_232) (fun _ h9 => h9) rfl d_StateSet_add_73 ?_
  refine lv_iconst (v := 1) hx hb d_StateSet_add_76 (by decide) ?_
  refine lv_iadd hx hb d_StateSet_add_77 ?_
  refine tp_i (y := nI (n + 1)) (by exact nI_add n 1) ?_
  refine va_put (D := (dC, dI)) (ci := 2) (v := .int (nI (n + 1))) (ty := .int) (C := R_StateSet) (T := F_StateSet) (N := 4) hx hb hw i_StateSet t_StateSet t_StateSet_ok n_StateSet hown hK hP (dd_D hD rfl) hS 0 rfl rfl 2 (by decide) (hw _ m_232) (fun _ h9 => h9) rfl (by decide +kernel) rfl rfl (Nat.le_of_ble_eq_true rfl) d_StateSet_add_78 ?_
  clear hP hS locs H
  intro H locs (hP : va_P (dC, dI) classes [oc h0 2 [.ref q, .ref h2, .int (nI (n + 1)), .int (nI (2 ^ e))], ia h2 ks SL sf, la h1 kk KL kf, la q kq M (vp_updL (va_cpy kf (fun _ => 0) 0 0 KL) n key)] H) _ hS
  refine tp_pc (pc' := 81) (by rfl) ?_
  refine lv_aload_n hx hb d_StateSet_add_81 rfl (lv_at hl 1 rfl) ?_
  refine va_get (D := (dC, dI)) (ci := 2) (v := .ref h2) (C := R_StateSet) (T := F_StateSet) (N := 4) hx hb hw i_StateSet hown hK hP 0 rfl rfl 1 (by decide) (hw _ m_231) (fun _ h9 => h9) rfl d_StateSet_add_82 ?_
  refine lv_iload_n hx hb d_StateSet_add_85 rfl (lv_at hl 0 rfl) ?_
  refine lv_aload_n hx hb d_StateSet_add_86 rfl (lv_at hl 1 rfl) ?_
  refine va_get (D := (dC, dI)) (ci := 2) (v := .int (nI (n + 1))) (C := R_StateSet) (T := F_StateSet) (N := 4) hx hb hw i_StateSet hown hK hP 0 rfl rfl 2 (by decide) (hw _ m_232) (fun _ h9 => h9) rfl d_StateSet_add_87 ?_
  refine va_iast (D := (dC, dI)) hx hb hK hP (dd_D hD rfl) hS 1 1 rfl rfl (i := nI a) (x := nI (n + 1)) (pk_in a SL (by omega)) d_StateSet_add_90 ?_
  clear hP hS locs H
  intro H locs hP _ hS
  rw [show (nI a : Int32).toNatClampNeg = a from pk_cl a] at hP
  replace hP : va_P (dC, dI) classes [oc h0 2 [.ref q, .ref h2, .int (nI (n + 1)), .int (nI (2 ^ e))], ia h2 ks SL (upd sf a (nI (n + 1))), la h1 kk KL kf, la q kq M (vp_updL (va_cpy kf (fun _ => 0) 0 0 KL) n key)] H := hP
  refine tp_pc (pc' := 91) (by rfl) ?_
  refine lv_iconst (v := 2) hx hb d_StateSet_add_91 (by decide) ?_
  refine lv_aload_n hx hb d_StateSet_add_92 rfl (lv_at hl 1 rfl) ?_
  refine va_get (D := (dC, dI)) (ci := 2) (v := .int (nI (n + 1))) (C := R_StateSet) (T := F_StateSet) (N := 4) hx hb hw i_StateSet hown hK hP 0 rfl rfl 2 (by decide) (hw _ m_232) (fun _ h9 => h9) rfl d_StateSet_add_93 ?_
  refine lv_imul hx hb d_StateSet_add_96 ?_
  refine tp_i (y := nI (2 * (n + 1))) (by exact pk_mul 2 (n + 1)) ?_
  refine lv_aload_n hx hb d_StateSet_add_97 rfl (lv_at hl 1 rfl) ?_
  refine va_get (D := (dC, dI)) (ci := 2) (v := .int (nI (2 ^ e))) (C := R_StateSet) (T := F_StateSet) (N := 4) hx hb hw i_StateSet hown hK hP 0 rfl rfl 3 (by decide) (hw _ m_233) (fun _ h9 => h9) rfl d_StateSet_add_98 ?_
  have hf1 : ∀ j, j < n → (vp_updL (va_cpy kf (fun _ => 0) 0 0 KL) n key) j = kf j := fun j hj => by
    rw [pk_uLn (by omega)]; rw [pk_cpy_in (by omega) (by omega)]; congr 1; omega
  have hf2 : (vp_updL (va_cpy kf (fun _ => 0) 0 0 KL) n key) n = key := pk_uLs
  have hT2 : inT (2 ^ e) (fun k => hsh k e) (n + 1) (vp_updL (va_cpy kf (fun _ => 0) 0 0 KL) n key) (fun i => if i = a then n + 1 else g i) := inT_put (key := key) hT hd (by rw [← had]; exact hg0) hgl hk hf1 hf2 (fun k _ => by rw [← had])
  have hg2 : ∀ i, i < 2 ^ e → upd sf a (nI (n + 1)) i = nI (if i = a then n + 1 else g i) := fun i hi => by
    simp only [upd]; by_cases e9 : i = a; (rw [if_pos e9, if_pos e9]); (rw [if_neg e9, if_neg e9]; exact hg i hi)
  refine lv_icmp_le (tgt := 114) hx hb d_StateSet_add_101 (by decide) (fun c9 => absurd ((nI_leI (a := 2 * (n + 1)) (b := 2 ^ e) (by omega) (by omega)).mp c9) (by omega)) (fun c9 => ?_)
  have hc9 : ¬ (2 * (n + 1) ≤ 2 ^ e) := fun q9 => c9 ((nI_leI (a := 2 * (n + 1)) (b := 2 ^ e) (by omega) (by omega)).mpr q9)
  refine tp_pc (pc' := 104) (by rfl) ?_
  refine lv_aload_n hx hb d_StateSet_add_104 rfl (lv_at hl 1 rfl) ?_
  refine lv_iconst (v := 2) hx hb d_StateSet_add_105 (by decide) ?_
  refine lv_aload_n hx hb d_StateSet_add_106 rfl (lv_at hl 1 rfl) ?_
  refine va_get (D := (dC, dI)) (ci := 2) (v := .int (nI (2 ^ e))) (C := R_StateSet) (T := F_StateSet) (N := 4) hx hb hw i_StateSet hown hK hP 0 rfl rfl 3 (by decide) (hw _ m_233) (fun _ h9 => h9) rfl d_StateSet_add_107 ?_
  refine lv_imul hx hb d_StateSet_add_110 ?_
  refine tp_i (y := nI (2 * (2 ^ e))) (by exact pk_mul 2 (2 ^ e)) ?_
  refine tp_i (y := nI (2 ^ (e + 1))) (by rw [hpe]) ?_
  obtain ⟨hPc, hDc, hFc⟩ := cut3 (wc := [oc h0 2 [.ref q, .ref h2, .int (nI (n + 1)), .int (nI (2 ^ e))], la q kq M (vp_updL (va_cpy kf (fun _ => 0) 0 0 KL) n key), ia h2 ks SL (upd sf a (nI (n + 1)))]) hP hD rfl hS hA [0, 3, 1] (by decide +kernel) rfl
  have hKc := hK.sub (tys' := [(kq, .long), (ks, .int)]) [2, 1] rfl
  refine va_callv (va_runV (As := [.int (nI (2 ^ (e + 1)))]) (rest := []) ⟨hx, hb, hml, hown, hw⟩ (gen_StateSet_makeRoom_new l dC dI h0 q h2 (nI (2 ^ e)) (n + 1) (e + 1) kq ks M SL (vp_updL (va_cpy kf (fun _ => 0) 0 0 KL) n key) (upd sf a (nI (n + 1))) (by omega) hS3 (by omega) (by omega) (by omega) hT2.2.2.2 hSe H.size) (cw_V 1 hw g_StateSet_makeRoom rfl rfl rfl (hw _ m_104) (hw _ m_484) (hw _ m_486) (hw _ m_2) (by decide +kernel) ⟨Nat.le_of_ble_eq_true rfl, Nat.le_of_ble_eq_true rfl⟩) ⟨fun a U g mk q => by obtain ⟨q0, q1, qP, qK, qD, qN⟩ := q; exact ⟨q0, q1, qP, va_K.moved (u := U) (U := U.calling g mk a) (Vm.Alike.refl U.vm) qK, qD, nw_call qN⟩, va_recv hKc hPc (ci := 2) (q0 := 0) rfl rfl, fun U hU hW => ⟨rfl, by rw [hU], by rw [hU]; exact hPc, va_K.moved hW.alike hKc, hDc.weaken (fun _ _ _ _ => trivial), nw_warm hW hn⟩⟩ rfl rfl hl.1 rfl (lv_room (Nat.le_of_ble_eq_true rfl)) d_StateSet_add_111 ⟨by show 1 + 1 ≤ 2; omega, by show M + 2 ^ (e + 1) ≤ M + 2 ^ (e + 1); omega⟩) hS (fun q _ h => hFc q h) hFc ?_
  intro u t9 H1 locs1 ht9 hvm hw1 hB hz1 hk1 hS1
  obtain ⟨q2, kq2, sf2, g2, hg3, hT3, hP1, hK1, hD1⟩ := hB
  rw [ht9] at hP1
  replace hK1 := va_K.moved hvm.symm hK1
  have hPD := join3 hP hD rfl [0, 3, 1] [2] rfl (by rfl) (by decide +kernel) (by decide +kernel) hk1 hFc hP1 hD1
  replace hK : va_K (dC, dI) classes [(kk, .long), (ks, .int), (kq, .long), (kq2, .int)] s := hK.app hK1
  clear hP1 hK1 hD1 hk1 hz1 hFc hKc hDc hPc hvm ht9 hP hS t9 locs H
  have hP : va_P (dC, dI) classes [la h1 kk KL kf, oc h0 2 [.ref q, .ref q2, .int (nI (n + 1)), .int (nI (2 ^ (e + 1)))], la q kq M (vp_updL (va_cpy kf (fun _ => 0) 0 0 KL) n key), ia q2 kq2 (2 ^ (e + 1)) sf2] H1 := hPD.1
  replace hD : dd A [h1, h0, q, q2] := dd_of hPD.2 rfl
  clear hPD
  revert H1 locs1
  intro H locs hS hP
  clear hw1 u
  refine tp_pc (pc' := 114) (by rfl) ?_
  refine lv_iconst (v := 1) hx hb d_StateSet_add_114 (by decide) ?_
  obtain ⟨hP9, hD9, -⟩ := cut3 (wc := [oc h0 2 [.ref q, .ref q2, .int (nI (n + 1)), .int (nI (2 ^ (e + 1)))], la q kq M (vp_updL (va_cpy kf (fun _ => 0) 0 0 KL) n key), ia q2 kq2 (2 ^ (e + 1)) sf2]) hP hD rfl hS hA [1, 2, 3] (by decide +kernel) rfl
  have hK9 := hK.sub (tys' := [(kq, .long), (kq2, .int)]) [2, 3] rfl
  refine W.widen (k := 2) (n := M + 2 ^ (e + 1)) (by first | exact Nat.le_refl _ | omega) (by first | exact Nat.le_refl _ | omega) ?_
  exact W.zret (v := 1) (ty := .boolean) hx hb hr (by decide) (fun t9 ht9 hW => ⟨⟨1, (), rfl, rfl, q, kq, q2, kq2, (vp_updL (va_cpy kf (fun _ => 0) 0 0 KL) n key), sf2, g2, hf1, hf2, hg3, hT3, by rw [ht9]; exact hP9, va_K.moved hW.alike hK9, hD9⟩, hS.F ht9⟩) hS.2.2 d_StateSet_add_115
set_option maxHeartbeats 4000000 in
set_option maxRecDepth 100000 in
theorem gen_StateSet_add_12 (l : Launch) (dC : Nat → ClassId) (dI : Nat → Nat → Nat) (h0 h1 h2 : Nat) (n e : Nat) (kk ks : ClassId) (KL SL : Nat) (kf : Nat → Int64) (sf : Nat → Int32) (g : Nat → Nat) (key : Int64) (he : e ≤ 22) (hSL : 2 ^ e ≤ SL) (hS3 : SL < 2 ^ 31) (hK3 : KL < 2 ^ 23) (hn9 : n ≤ KL) (hn2 : 2 * n ≤ 2 ^ e) (hn20 : n < 1048576) (hg : ∀ i, i < 2 ^ e → sf i = nI (g i)) (hT : inT (2 ^ e) (fun k => hsh k e) n kf g) (hk : ∀ j, j < n → kf j ≠ key) (M : Nat) (hM : M = if 256 < 2 * n then 2 * n else 256) (hnK : n = KL) (hge : 2 ^ e < 2 * (n + 1)) (hSe : 2 ^ (e + 1) ≤ SL) (sz : Nat) : Met l y_StateSet_add w_StateSet_add ({ frames := 2, cells := 1, slots := M, locals := 80 }) (va_Pc [.ref h0, .long key] (fun U => U.heap.size = sz ∧ va_P (dC, dI) classes [oc h0 2 [.ref h1, .ref h2, .int (nI n), .int (nI (2 ^ e))], la h1 kk KL kf, ia h2 ks SL sf] U.heap ∧ va_K (dC, dI) classes [(kk, .long), (ks, .int)] U ∧ va_D (fun _ => True) [oc h0 2 [.ref h1, .ref h2, .int (nI n), .int (nI (2 ^ e))], la h1 kk KL kf, ia h2 ks SL sf] ∧ nw U)) (va_Qi (fun (r : Int32) (_ : Unit) => r = 1) (fun _ t9 => ∃ (q : Nat) (kq : ClassId) (kf2 : Nat → Int64) (sf2 : Nat → Int32) (g2 : Nat → Nat), (∀ j, j < n → kf2 j = kf j) ∧ kf2 n = key ∧ (∀ i, i < 2 ^ (e + 1) → sf2 i = nI (g2 i)) ∧ inT (2 ^ (e + 1)) (fun k => hsh k (e + 1)) (n + 1) kf2 g2 ∧ va_P (dC, dI) classes [oc h0 2 [.ref q, .ref h2, .int (nI (n + 1)), .int (nI (2 ^ (e + 1)))], la q kq M kf2, ia h2 ks SL sf2] t9.heap ∧ va_K (dC, dI) classes [(kq, .long), (ks, .int)] t9 ∧ va_D (va_A [oc h0 2 [.ref h1, .ref h2, .int (nI n), .int (nI (2 ^ e))], la h1 kk KL kf, ia h2 ks SL sf] sz) [oc h0 2 [.ref q, .ref h2, .int (nI (n + 1)), .int (nI (2 ^ (e + 1)))], la q kq M kf2, ia h2 ks SL sf2]) (va_A [oc h0 2 [.ref h1, .ref h2, .int (nI n), .int (nI (2 ^ e))], la h1 kk KL kf, ia h2 ks SL sf] sz)) 1 M (va_A [oc h0 2 [.ref h1, .ref h2, .int (nI n), .int (nI (2 ^ e))], la h1 kk KL kf, ia h2 ks SL sf] sz) := by
  refine Met.ofW (cc := b_StateSet_add) (maxL := 4) (ret := (some .boolean)) (by decide) rfl ?_
  intro p e0 s m args below meth c s₁ B hml hv
  obtain ⟨rfl, hsz, hP, hK, hD0, hn⟩ := hv
  have hx := B.exec
  have hb := B.bytes
  have hr := B.returns
  have hw := fun w (h : w ∈ wt) => atoms_spec (ws := w_StateSet_add) B.pre w (List.mem_cons_of_mem _ h)
  have hown : s.vm.findClass R_StateSet = some m.cls := findClass_of_methodNamed B.named
  have hlocks := B.notSynchronized
  subst hsz
  have hD1 := hD0.self (sz := s.heap.size)
  generalize hAe : va_A [oc h0 2 [.ref h1, .ref h2, .int (nI n), .int (nI (2 ^ e))], la h1 kk KL kf, ia h2 ks SL sf] s.heap.size = A at hD1 ⊢
  have hA : ∀ q : Nat, s.heap.size ≤ q → A q := fun q h => by rw [← hAe]; exact Or.inr h
  have hD : dd A [h0, h1, h2] := dd_of hD1 rfl
  clear hAe hD0 hD1
  have hS : va_S A s.heap s.heap [] := va_S.rf
  replace hP : va_P (dC, dI) classes [oc h0 2 [.ref h1, .ref h2, .int (nI n), .int (nI (2 ^ e))], la h1 kk KL kf, ia h2 ks SL sf] s.heap := hP
  have hl := lv_entry ([.ref h0, .long key]) (n := 4) (Nat.le_of_ble_eq_true rfl)
  rw [lg_entry_eq]
  generalize (lg_sl ([.ref h0, .long key]) ++ List.replicate (4 - (lg_sl ([.ref h0, .long key])).length) Slot.unset).toArray = ls at hl ⊢
  replace hl : lv_has ls 4 [(0, .ref h0), (1, .long key)] := hl
  have hp1 : 2 ^ e ≤ 2 ^ 22 := Nat.pow_le_pow_right (by decide) he
  have hp0 : 0 < 2 ^ e := Nat.two_pow_pos e
  have hpe : 2 ^ (e + 1) = 2 * 2 ^ e := by rw [Nat.pow_succ]; omega
  have hMn : n < M ∧ M ≤ 2097152 := by subst hM; split <;> omega
  obtain ⟨a, d, had, ha, hd, hpr, hg0, hgl⟩ : ∃ a d, a = (hsh key e + d) % 2 ^ e ∧ a < 2 ^ e ∧ d < 2 ^ e ∧ pr (2 ^ e) sf kf key (2 ^ e) (hsh key e) = a ∧ g a = 0 ∧ ∀ c, c < d → g ((hsh key e + c) % 2 ^ e) ≠ 0 := by
    obtain ⟨d, hd, h1, h2, h3⟩ := inT_new (key := key) hT (by omega) (by omega) hg (Nat.mod_lt _ hp0) hk
    exact ⟨_, d, rfl, Nat.mod_lt _ hp0, hd, h1, h2, h3⟩
  refine lv_aload_n hx hb d_StateSet_add_0 rfl (lv_at hl 0 rfl) ?_
  refine lv_lload_n hx hb d_StateSet_add_1 rfl (lv_at hl 1 rfl) ?_
  obtain ⟨hPc, hDc, hFc⟩ := cut3 (wc := [oc h0 2 [.ref h1, .ref h2, .int (nI n), .int (nI (2 ^ e))], la h1 kk KL kf, ia h2 ks SL sf]) hP hD rfl hS hA [0, 1, 2] (by decide +kernel) rfl
  have hKc := hK.sub (tys' := [(kk, .long), (ks, .int)]) [0, 1] rfl
  refine va_calli (va_runV (As := [.long key]) (rest := []) ⟨hx, hb, hml, hown, hw⟩ (gen_StateSet_slotOf l dC dI h0 h1 h2 (nI n) e key kk ks KL SL kf sf (by omega) hSL hS3 (by omega) (fun k hk => ⟨g k, by have := hT.1 k hk; omega, hg k hk⟩) s.heap.size) (cw_V 1 hw g_StateSet_slotOf rfl rfl rfl (hw _ m_104) (hw _ m_488) (hw _ m_490) (hw _ m_3) (by decide +kernel) ⟨Nat.le_of_ble_eq_true rfl, Nat.le_of_ble_eq_true rfl⟩) ⟨fun a U g mk q => by obtain ⟨q0, q1, qP, qK, qD, qN⟩ := q; exact ⟨q0, q1, qP, va_K.moved (u := U) (U := U.calling g mk a) (Vm.Alike.refl U.vm) qK, qD, nw_call qN⟩, va_recv hKc hPc (ci := 2) (q0 := 0) rfl rfl, fun U hU hW => ⟨rfl, by rw [hU], by rw [hU]; exact hPc, va_K.moved hW.alike hKc, hDc.weaken (fun _ _ _ _ => trivial), nw_warm hW hn⟩⟩ rfl rfl hl.1 rfl (lv_room (Nat.le_of_ble_eq_true rfl)) d_StateSet_add_2 ⟨Nat.zero_le _, Nat.zero_le _⟩) hS (fun q _ h => hFc q h) hFc ?_
  intro r_1 u t9 H1 locs1 ht9 hvm hw1 hB hz1 hk1 hS1
  obtain ⟨hP1, hK1, hD1⟩ := hB
  rw [ht9] at hP1
  replace hK1 := va_K.moved hvm.symm hK1
  have hPD := join3 hP hD rfl [0, 1, 2] [] rfl (by rfl) (by decide +kernel) (by decide +kernel) hk1 hFc hP1 hD1
  replace hK : va_K (dC, dI) classes [(kk, .long), (ks, .int)] s := hK.app hK1
  clear hP1 hK1 hD1 hk1 hz1 hFc hKc hDc hPc hvm ht9 hP hS t9
  have hP : va_P (dC, dI) classes [oc h0 2 [.ref h1, .ref h2, .int (nI n), .int (nI (2 ^ e))], la h1 kk KL kf, ia h2 ks SL sf] H1 := hPD.1
  replace hD : dd A [h0, h1, h2] := dd_of hPD.2 rfl
  clear hPD
  revert H1 locs1
  intro H locs hS hP
  refine tp_i (y := nI a) (hw1.trans (congrArg nI hpr)) ?_
  clear hw1 r_1 u
  refine tp_pc (pc' := 5) (by rfl) ?_
  refine lv_istore_n (lv' := [(3, .int (nI a)), (0, .ref h0), (1, .long key)]) hx hb d_StateSet_add_5 rfl hl (by decide) rfl ?_
  clear hl ls
  intro ls hl
  refine lv_aload_n hx hb d_StateSet_add_6 rfl (lv_at hl 1 rfl) ?_
  refine va_get (D := (dC, dI)) (ci := 2) (v := .ref h2) (C := R_StateSet) (T := F_StateSet) (N := 4) hx hb hw i_StateSet hown hK hP 0 rfl rfl 1 (by decide) (hw _ m_231) (fun _ h9 => h9) rfl d_StateSet_add_7 ?_
  refine lv_iload_n hx hb d_StateSet_add_10 rfl (lv_at hl 0 rfl) ?_
  refine va_iald (D := (dC, dI)) hx hb hK hP 2 1 rfl rfl (i := nI a) (pk_in a SL (by omega)) d_StateSet_add_11 ?_
  refine tp_i (y := sf a) (by rw [show (nI a : Int32).toNatClampNeg = a from pk_cl a]) ?_
  refine tp_i (y := 0) (by rw [hg a ha, hg0]; rfl) ?_
  refine lv_if_ne (tgt := 24) hx hb d_StateSet_add_12 (by decide) (fun c_2 => absurd c_2 (by decide)) (fun c_2 => ?_)
  refine tp_pc (pc' := 15) (by rfl) ?_
  refine lv_aload_n hx hb d_StateSet_add_15 rfl (lv_at hl 1 rfl) ?_
  refine va_get (D := (dC, dI)) (ci := 2) (v := .int (nI n)) (C := R_StateSet) (T := F_StateSet) (N := 4) hx hb hw i_StateSet hown hK hP 0 rfl rfl 2 (by decide) (hw _ m_232) (fun _ h9 => h9) rfl d_StateSet_add_16 ?_
  refine lv_ldc hx hb hown (hw _ m_515) d_StateSet_add_19 ?_
  refine lv_icmp_lt (tgt := 26) hx hb d_StateSet_add_21 (by decide) (fun c9 => ?_) (fun c9 => absurd ((nI_ltI (a := n) (b := 1048576) (by omega) (by omega)).mpr hn20) c9)
  have hc9 : n < 1048576 := (nI_ltI (a := n) (b := 1048576) (by omega) (by omega)).mp c9
  refine tp_pc (pc' := 26) (by rfl) ?_
  refine lv_aload_n hx hb d_StateSet_add_26 rfl (lv_at hl 1 rfl) ?_
  refine va_get (D := (dC, dI)) (ci := 2) (v := .int (nI n)) (C := R_StateSet) (T := F_StateSet) (N := 4) hx hb hw i_StateSet hown hK hP 0 rfl rfl 2 (by decide) (hw _ m_232) (fun _ h9 => h9) rfl d_StateSet_add_27 ?_
  refine lv_aload_n hx hb d_StateSet_add_30 rfl (lv_at hl 1 rfl) ?_
  refine va_get (D := (dC, dI)) (ci := 2) (v := .ref h1) (C := R_StateSet) (T := F_StateSet) (N := 4) hx hb hw i_StateSet hown hK hP 0 rfl rfl 0 (by decide) (hw _ m_230) (fun _ h9 => h9) rfl d_StateSet_add_31 ?_
  refine va_alen (D := (dC, dI)) hx hb hK hP 1 0 rfl rfl (v := nI KL) (by rfl) d_StateSet_add_34 ?_
  refine lv_icmp_lt (tgt := 61) hx hb d_StateSet_add_35 (by decide) (fun c9 => absurd ((nI_ltI (a := n) (b := KL) (by omega) (by omega)).mp c9) (by omega)) (fun c9 => ?_)
  have hc9 : ¬ (n < KL) := fun q9 => c9 ((nI_ltI (a := n) (b := KL) (by omega) (by omega)).mpr q9)
  refine tp_pc (pc' := 38) (by rfl) ?_
  refine lv_aload_n hx hb d_StateSet_add_38 rfl (lv_at hl 1 rfl) ?_
  refine lv_aload_n hx hb d_StateSet_add_39 rfl (lv_at hl 1 rfl) ?_
  refine va_get (D := (dC, dI)) (ci := 2) (v := .ref h1) (C := R_StateSet) (T := F_StateSet) (N := 4) hx hb hw i_StateSet hown hK hP 0 rfl rfl 0 (by decide) (hw _ m_230) (fun _ h9 => h9) rfl d_StateSet_add_40 ?_
  refine lv_sipush (v := 256) hx hb d_StateSet_add_43 (by decide) ?_
  refine lv_iconst (v := 2) hx hb d_StateSet_add_46 (by decide) ?_
  refine lv_aload_n hx hb d_StateSet_add_47 rfl (lv_at hl 1 rfl) ?_
  refine va_get (D := (dC, dI)) (ci := 2) (v := .int (nI n)) (C := R_StateSet) (T := F_StateSet) (N := 4) hx hb hw i_StateSet hown hK hP 0 rfl rfl 2 (by decide) (hw _ m_232) (fun _ h9 => h9) rfl d_StateSet_add_48 ?_
  refine lv_imul hx hb d_StateSet_add_51 ?_
  refine tp_i (y := nI (2 * n)) (by exact pk_mul 2 n) ?_
  refine va_mmax hx hb (hml.trans hl.1.symm) hown (hw _ m_516) (hw _ m_517) (hw _ m_111) (hw _ m_518) (Nat.le_of_ble_eq_true rfl) (by exact Nat.le_of_ble_eq_true rfl) (by exact Nat.zero_le _) (by exact Nat.zero_le _) d_StateSet_add_52 ?_
  refine tp_i (y := nI M) (by subst hM; by_cases h9 : 256 < 2 * n; (rw [if_pos h9, if_pos]; exact (nI_ltI (a := 256) (b := 2 * n) (by omega) (by omega)).mpr h9); (rw [if_neg h9, if_neg]; rfl; exact fun q9 => h9 ((nI_ltI (a := 256) (b := 2 * n) (by omega) (by omega)).mp q9))) ?_
  refine tp_pc (pc' := 55) (by rfl) ?_
  obtain ⟨hPc, hDc, hFc⟩ := cut3 (wc := [la h1 kk KL kf]) hP hD rfl hS hA [1] (by decide +kernel) rfl
  have hKc := hK.sub (tys' := [(kk, .long)]) [0] rfl
  refine va_callr (va_runS (As := [.ref h1, .int (nI M)]) (rest := [.ref h0]) ⟨hx, hb, hml, hown, hw⟩ (gen_copyOf_long l dC dI h1 kk KL M kf (by omega) (by omega) H.size) (cw_S 2 hw g_Arrays_copyOf2 rfl rfl rfl (hw _ m_110) (hw _ m_519) (hw _ m_520) (by decide +kernel) ⟨Nat.le_of_ble_eq_true rfl, Nat.le_of_ble_eq_true rfl⟩) ⟨fun a U g mk q => by obtain ⟨q0, q1, qP, qK, qD, qN⟩ := q; exact ⟨q0, q1, qP, va_K.moved (u := U) (U := U.calling g mk a) (Vm.Alike.refl U.vm) qK, qD, nw_call qN⟩, fun U hU hW => ⟨rfl, by rw [hU], by rw [hU]; exact hPc, va_K.moved hW.alike hKc, hDc.weaken (fun _ _ _ _ => trivial), nw_warm hW hn⟩⟩ rfl rfl hl.1 rfl (lv_room (Nat.le_of_ble_eq_true rfl)) d_StateSet_add_55 ⟨by show 0 + 1 ≤ 1; omega, by show 0 + M ≤ M; omega⟩) hS (fun q _ h => hFc q h) hFc ?_
  intro u r_3 t9 H1 locs1 ht9 hvm hw1 hB hz1 hk1 hS1
  obtain ⟨q, kq, hra, hP1, hK1, hD1⟩ := hB
  rw [ht9] at hP1
  replace hK1 := va_K.moved hvm.symm hK1
  have hPD := join3 hP hD rfl [1] [0, 2] rfl (by rfl) (by decide +kernel) (by decide +kernel) hk1 hFc hP1 hD1
  replace hK : va_K (dC, dI) classes [(kk, .long), (ks, .int), (kq, .long)] s := hK.app hK1
  clear hP1 hK1 hD1 hk1 hz1 hFc hKc hDc hPc hvm ht9 hP hS t9 locs H
  have hP : va_P (dC, dI) classes [oc h0 2 [.ref h1, .ref h2, .int (nI n), .int (nI (2 ^ e))], ia h2 ks SL sf, la h1 kk KL kf, la q kq M (va_cpy kf (fun _ => 0) 0 0 KL)] H1 := hPD.1
  replace hD : dd A [h0, h2, h1, q] := dd_of hPD.2 rfl
  clear hPD
  revert H1 locs1
  intro H locs hS hP
  refine tp_r (y := q) hra ?_
  clear hra hw1 r_3 u
  refine W.widen (k := 1) (n := M) (by first | exact Nat.le_refl _ | omega) (by first | exact Nat.le_refl _ | omega) ?_
  refine tp_pc (pc' := 58) (by rfl) ?_
  refine va_put (D := (dC, dI)) (ci := 2) (v := .ref q) (ty := .array .long) (C := R_StateSet) (T := F_StateSet) (N := 4) hx hb hw i_StateSet t_StateSet t_StateSet_ok n_StateSet hown hK hP (dd_D hD rfl) hS 0 rfl rfl 0 (by decide) (hw _ m_230) (fun _ h9 => h9) rfl (by decide +kernel) rfl rfl (Nat.le_of_ble_eq_true rfl) d_StateSet_add_58 ?_
  clear hP hS locs H
  intro H locs (hP : va_P (dC, dI) classes [oc h0 2 [.ref q, .ref h2, .int (nI n), .int (nI (2 ^ e))], ia h2 ks SL sf, la h1 kk KL kf, la q kq M (va_cpy kf (fun _ => 0) 0 0 KL)] H) _ hS
  refine tp_pc (pc' := 61) (by rfl) ?_
  refine lv_aload_n hx hb d_StateSet_add_61 rfl (lv_at hl 1 rfl) ?_
  refine va_get (D := (dC, dI)) (ci := 2) (v := .ref q) (C := R_StateSet) (T := F_StateSet) (N := 4) hx hb hw i_StateSet hown hK hP 0 rfl rfl 0 (by decide) (hw _ m_230) (fun _ h9 => h9) rfl d_StateSet_add_62 ?_
  refine lv_aload_n hx hb d_StateSet_add_65 rfl (lv_at hl 1 rfl) ?_
  refine va_get (D := (dC, dI)) (ci := 2) (v := .int (nI n)) (C := R_StateSet) (T := F_StateSet) (N := 4) hx hb hw i_StateSet hown hK hP 0 rfl rfl 2 (by decide) (hw _ m_232) (fun _ h9 => h9) rfl d_StateSet_add_66 ?_
  refine lv_lload_n hx hb d_StateSet_add_69 rfl (lv_at hl 2 rfl) ?_
  refine va_last (D := (dC, dI)) hx hb hK hP (dd_D hD rfl) hS 3 2 rfl rfl (i := nI n) (x := key) (pk_in n M (by omega)) d_StateSet_add_70 ?_
  clear hP hS locs H
  intro H locs hP _ hS
  rw [show (nI n : Int32).toNatClampNeg = n from pk_cl n] at hP
  replace hP : va_P (dC, dI) classes [oc h0 2 [.ref q, .ref h2, .int (nI n), .int (nI (2 ^ e))], ia h2 ks SL sf, la h1 kk KL kf, la q kq M (vp_updL (va_cpy kf (fun _ => 0) 0 0 KL) n key)] H := hP
  refine tp_pc (pc' := 71) (by rfl) ?_
  refine lv_aload_n hx hb d_StateSet_add_71 rfl (lv_at hl 1 rfl) ?_
  refine lv_dup hx hb d_StateSet_add_72 rfl ?_
  refine va_get (D := (dC, dI)) (ci := 2) (v := .int (nI n)) (C := R_StateSet) (T := F_StateSet) (N := 4) hx hb hw i_StateSet hown hK hP 0 rfl rfl 2 (by decide) (hw _ m_232) (fun _ h9 => h9) rfl d_StateSet_add_73 ?_
  refine lv_iconst (v := 1) hx hb d_StateSet_add_76 (by decide) ?_
  refine lv_iadd hx hb d_StateSet_add_77 ?_
  refine tp_i (y := nI (n + 1)) (by exact nI_add n 1) ?_
  refine va_put (D := (dC, dI)) (ci := 2) (v := .int (nI (n + 1))) (ty := .int) (C := R_StateSet) (T := F_StateSet) (N := 4) hx hb hw i_StateSet t_StateSet t_StateSet_ok n_StateSet hown hK hP (dd_D hD rfl) hS 0 rfl rfl 2 (by decide) (hw _ m_232) (fun _ h9 => h9) rfl (by decide +kernel) rfl rfl (Nat.le_of_ble_eq_true rfl) d_StateSet_add_78 ?_
  clear hP hS locs H
  intro H locs (hP : va_P (dC, dI) classes [oc h0 2 [.ref q, .ref h2, .int (nI (n + 1)), .int (nI (2 ^ e))], ia h2 ks SL sf, la h1 kk KL kf, la q kq M (vp_updL (va_cpy kf (fun _ => 0) 0 0 KL) n key)] H) _ hS
  refine tp_pc (pc' := 81) (by rfl) ?_
  refine lv_aload_n hx hb d_StateSet_add_81 rfl (lv_at hl 1 rfl) ?_
  refine va_get (D := (dC, dI)) (ci := 2) (v := .ref h2) (C := R_StateSet) (T := F_StateSet) (N := 4) hx hb hw i_StateSet hown hK hP 0 rfl rfl 1 (by decide) (hw _ m_231) (fun _ h9 => h9) rfl d_StateSet_add_82 ?_
  refine lv_iload_n hx hb d_StateSet_add_85 rfl (lv_at hl 0 rfl) ?_
  refine lv_aload_n hx hb d_StateSet_add_86 rfl (lv_at hl 1 rfl) ?_
  refine va_get (D := (dC, dI)) (ci := 2) (v := .int (nI (n + 1))) (C := R_StateSet) (T := F_StateSet) (N := 4) hx hb hw i_StateSet hown hK hP 0 rfl rfl 2 (by decide) (hw _ m_232) (fun _ h9 => h9) rfl d_StateSet_add_87 ?_
  refine va_iast (D := (dC, dI)) hx hb hK hP (dd_D hD rfl) hS 1 1 rfl rfl (i := nI a) (x := nI (n + 1)) (pk_in a SL (by omega)) d_StateSet_add_90 ?_
  clear hP hS locs H
  intro H locs hP _ hS
  rw [show (nI a : Int32).toNatClampNeg = a from pk_cl a] at hP
  replace hP : va_P (dC, dI) classes [oc h0 2 [.ref q, .ref h2, .int (nI (n + 1)), .int (nI (2 ^ e))], ia h2 ks SL (upd sf a (nI (n + 1))), la h1 kk KL kf, la q kq M (vp_updL (va_cpy kf (fun _ => 0) 0 0 KL) n key)] H := hP
  refine tp_pc (pc' := 91) (by rfl) ?_
  refine lv_iconst (v := 2) hx hb d_StateSet_add_91 (by decide) ?_
  refine lv_aload_n hx hb d_StateSet_add_92 rfl (lv_at hl 1 rfl) ?_
  refine va_get (D := (dC, dI)) (ci := 2) (v := .int (nI (n + 1))) (C := R_StateSet) (T := F_StateSet) (N := 4) hx hb hw i_StateSet hown hK hP 0 rfl rfl 2 (by decide) (hw _ m_232) (fun _ h9 => h9) rfl d_StateSet_add_93 ?_
  refine lv_imul hx hb d_StateSet_add_96 ?_
  refine tp_i (y := nI (2 * (n + 1))) (by exact pk_mul 2 (n + 1)) ?_
  refine lv_aload_n hx hb d_StateSet_add_97 rfl (lv_at hl 1 rfl) ?_
  refine va_get (D := (dC, dI)) (ci := 2) (v := .int (nI (2 ^ e))) (C := R_StateSet) (T := F_StateSet) (N := 4) hx hb hw i_StateSet hown hK hP 0 rfl rfl 3 (by decide) (hw _ m_233) (fun _ h9 => h9) rfl d_StateSet_add_98 ?_
  have hf1 : ∀ j, j < n → (vp_updL (va_cpy kf (fun _ => 0) 0 0 KL) n key) j = kf j := fun j hj => by
    rw [pk_uLn (by omega)]; rw [pk_cpy_in (by omega) (by omega)]; congr 1; omega
  have hf2 : (vp_updL (va_cpy kf (fun _ => 0) 0 0 KL) n key) n = key := pk_uLs
  have hT2 : inT (2 ^ e) (fun k => hsh k e) (n + 1) (vp_updL (va_cpy kf (fun _ => 0) 0 0 KL) n key) (fun i => if i = a then n + 1 else g i) := inT_put (key := key) hT hd (by rw [← had]; exact hg0) hgl hk hf1 hf2 (fun k _ => by rw [← had])
  have hg2 : ∀ i, i < 2 ^ e → upd sf a (nI (n + 1)) i = nI (if i = a then n + 1 else g i) := fun i hi => by
    simp only [upd]; by_cases e9 : i = a; (rw [if_pos e9, if_pos e9]); (rw [if_neg e9, if_neg e9]; exact hg i hi)
  refine lv_icmp_le (tgt := 114) hx hb d_StateSet_add_101 (by decide) (fun c9 => absurd ((nI_leI (a := 2 * (n + 1)) (b := 2 ^ e) (by omega) (by omega)).mp c9) (by omega)) (fun c9 => ?_)
  have hc9 : ¬ (2 * (n + 1) ≤ 2 ^ e) := fun q9 => c9 ((nI_leI (a := 2 * (n + 1)) (b := 2 ^ e) (by omega) (by omega)).mpr q9)
  refine tp_pc (pc' := 104) (by rfl) ?_
  refine lv_aload_n hx hb d_StateSet_add_104 rfl (lv_at hl 1 rfl) ?_
  refine lv_iconst (v := 2) hx hb d_StateSet_add_105 (by decide) ?_
  refine lv_aload_n hx hb d_StateSet_add_106 rfl (lv_at hl 1 rfl) ?_
  refine va_get (D := (dC, dI)) (ci := 2) (v := .int (nI (2 ^ e))) (C := R_StateSet) (T := F_StateSet) (N := 4) hx hb hw i_StateSet hown hK hP 0 rfl rfl 3 (by decide) (hw _ m_233) (fun _ h9 => h9) rfl d_StateSet_add_107 ?_
  refine lv_imul hx hb d_StateSet_add_110 ?_
  refine tp_i (y := nI (2 * (2 ^ e))) (by exact pk_mul 2 (2 ^ e)) ?_
  refine tp_i (y := nI (2 ^ (e + 1))) (by rw [hpe]) ?_
  obtain ⟨hPc, hDc, hFc⟩ := cut3 (wc := [oc h0 2 [.ref q, .ref h2, .int (nI (n + 1)), .int (nI (2 ^ e))], la q kq M (vp_updL (va_cpy kf (fun _ => 0) 0 0 KL) n key), ia h2 ks SL (upd sf a (nI (n + 1)))]) hP hD rfl hS hA [0, 3, 1] (by decide +kernel) rfl
  have hKc := hK.sub (tys' := [(kq, .long), (ks, .int)]) [2, 1] rfl
  refine va_callv (va_runV (As := [.int (nI (2 ^ (e + 1)))]) (rest := []) ⟨hx, hb, hml, hown, hw⟩ (gen_StateSet_makeRoom_old l dC dI h0 q h2 (nI (2 ^ e)) (n + 1) (e + 1) kq ks M SL (vp_updL (va_cpy kf (fun _ => 0) 0 0 KL) n key) (upd sf a (nI (n + 1))) (by omega) hS3 (by omega) (by omega) (by omega) hT2.2.2.2 hSe H.size) (cw_V 1 hw g_StateSet_makeRoom rfl rfl rfl (hw _ m_104) (hw _ m_484) (hw _ m_486) (hw _ m_2) (by decide +kernel) ⟨Nat.le_of_ble_eq_true rfl, Nat.le_of_ble_eq_true rfl⟩) ⟨fun a U g mk q => by obtain ⟨q0, q1, qP, qK, qD, qN⟩ := q; exact ⟨q0, q1, qP, va_K.moved (u := U) (U := U.calling g mk a) (Vm.Alike.refl U.vm) qK, qD, nw_call qN⟩, va_recv hKc hPc (ci := 2) (q0 := 0) rfl rfl, fun U hU hW => ⟨rfl, by rw [hU], by rw [hU]; exact hPc, va_K.moved hW.alike hKc, hDc.weaken (fun _ _ _ _ => trivial), nw_warm hW hn⟩⟩ rfl rfl hl.1 rfl (lv_room (Nat.le_of_ble_eq_true rfl)) d_StateSet_add_111 ⟨by show 1 + 0 ≤ 1; omega, by show M + 0 ≤ M; omega⟩) hS (fun q _ h => hFc q h) hFc ?_
  intro u t9 H1 locs1 ht9 hvm hw1 hB hz1 hk1 hS1
  obtain ⟨sf2, g2, hg3, hT3, hP1, hK1, hD1⟩ := hB
  rw [ht9] at hP1
  replace hK1 := va_K.moved hvm.symm hK1
  have hPD := join3 hP hD rfl [0, 3, 1] [2] rfl (by rfl) (by decide +kernel) (by decide +kernel) hk1 hFc hP1 hD1
  replace hK : va_K (dC, dI) classes [(kk, .long), (ks, .int), (kq, .long)] s := hK.app hK1
  clear hP1 hK1 hD1 hk1 hz1 hFc hKc hDc hPc hvm ht9 hP hS t9 locs H
  have hP : va_P (dC, dI) classes [la h1 kk KL kf, oc h0 2 [.ref q, .ref h2, .int (nI (n + 1)), .int (nI (2 ^ (e + 1)))], la q kq M (vp_updL (va_cpy kf (fun _ => 0) 0 0 KL) n key), ia h2 ks SL sf2] H1 := hPD.1
  replace hD : dd A [h1, h0, q, h2] := dd_of hPD.2 rfl
  clear hPD
  revert H1 locs1
  intro H locs hS hP
  clear hw1 u
  refine tp_pc (pc' := 114) (by rfl) ?_
  refine lv_iconst (v := 1) hx hb d_StateSet_add_114 (by decide) ?_
  obtain ⟨hP9, hD9, -⟩ := cut3 (wc := [oc h0 2 [.ref q, .ref h2, .int (nI (n + 1)), .int (nI (2 ^ (e + 1)))], la q kq M (vp_updL (va_cpy kf (fun _ => 0) 0 0 KL) n key), ia h2 ks SL sf2]) hP hD rfl hS hA [1, 2, 3] (by decide +kernel) rfl
  have hK9 := hK.sub (tys' := [(kq, .long), (ks, .int)]) [2, 1] rfl
  refine W.widen (k := 1) (n := M) (by first | exact Nat.le_refl _ | omega) (by first | exact Nat.le_refl _ | omega) ?_
  exact W.zret (v := 1) (ty := .boolean) hx hb hr (by decide) (fun t9 ht9 hW => ⟨⟨1, (), rfl, rfl, q, kq, (vp_updL (va_cpy kf (fun _ => 0) 0 0 KL) n key), sf2, g2, hf1, hf2, hg3, hT3, by rw [ht9]; exact hP9, va_K.moved hW.alike hK9, hD9⟩, hS.F ht9⟩) hS.2.2 d_StateSet_add_115
