set_option maxHeartbeats 4000000 in
set_option maxRecDepth 100000 in
theorem gen_copyOf_int_00 (l : Launch) (dC : Nat → ClassId) (dI : Nat → Nat → Nat) (h0 : Nat) (k0 : ClassId) (f : Nat → Int32)  (sz : Nat) : Met l y_Arrays_copyOf w_Arrays_copyOf ({ frames := 1, cells := 1, slots := 0, locals := 48 }) (va_Pc [.ref h0, .int (nI 0)] (fun U => U.heap.size = sz ∧ va_P (dC, dI) classes [ia h0 k0 0 f] U.heap ∧ va_K (dC, dI) classes [(k0, .int)] U ∧ va_D (fun _ => True) [ia h0 k0 0 f] ∧ nw U)) (va_Qr (fun _ : Unit => True) (fun _ a t9 => ∃ (q : Nat) (kq : ClassId) (f2 : Nat → Int32), a = q ∧ va_P (dC, dI) classes [ia h0 k0 0 f, ia q kq 0 f2] t9.heap ∧ va_K (dC, dI) classes [(kq, .int)] t9 ∧ va_D (va_A [ia h0 k0 0 f] sz) [ia h0 k0 0 f, ia q kq 0 f2]) (va_A [ia h0 k0 0 f] sz)) 1 0 (va_A [ia h0 k0 0 f] sz) := by
  refine Met.ofW (cc := b_Arrays_copyOf) (maxL := 3) (ret := (some (.array .int))) (by decide) rfl ?_
  intro p e0 s m args below meth c s₁ B hml hv
  obtain ⟨rfl, hsz, hP, hK, hD0, hn⟩ := hv
  have hx := B.exec
  have hb := B.bytes
  have hr := B.returns
  have hw := fun w (h : w ∈ wt) => atoms_spec (ws := w_Arrays_copyOf) B.pre w (List.mem_cons_of_mem _ h)
  have hown : s.vm.findClass R_Arrays = some m.cls := findClass_of_methodNamed B.named
  have hlocks := B.notSynchronized
  subst hsz
  have hD1 := hD0.self (sz := s.heap.size)
  generalize hAe : va_A [ia h0 k0 0 f] s.heap.size = A at hD1 ⊢
  have hA : ∀ q : Nat, s.heap.size ≤ q → A q := fun q h => by rw [← hAe]; exact Or.inr h
  have hD : dd A [h0] := dd_of hD1 rfl
  clear hAe hD0 hD1
  have hS : va_S A s.heap s.heap [] := va_S.rf
  replace hP : va_P (dC, dI) classes [ia h0 k0 0 f] s.heap := hP
  have hl := lv_entry ([.ref h0, .int (nI 0)]) (n := 3) (Nat.le_of_ble_eq_true rfl)
  rw [lg_entry_eq]
  generalize (lg_sl ([.ref h0, .int (nI 0)]) ++ List.replicate (3 - (lg_sl ([.ref h0, .int (nI 0)])).length) Slot.unset).toArray = ls at hl ⊢
  replace hl : lv_has ls 3 [(0, .ref h0), (1, .int (nI 0))] := hl
  refine lv_iload_n hx hb d_Arrays_copyOf_0 rfl (lv_at hl 1 rfl) ?_
  refine lv_aload_n hx hb d_Arrays_copyOf_1 rfl (lv_at hl 0 rfl) ?_
  refine va_alen (D := (dC, dI)) hx hb hK hP 0 0 rfl rfl (v := nI 0) (by rfl) d_Arrays_copyOf_2 ?_
  refine lv_icmp_ne (tgt := 14) hx hb d_Arrays_copyOf_3 (by decide) (fun c9 => absurd rfl c9) (fun c9 => ?_)
  refine tp_pc (pc' := 6) (by rfl) ?_
  refine lv_aload_n hx hb d_Arrays_copyOf_6 rfl (lv_at hl 0 rfl) ?_
  refine va_clone hx hb (hml.trans hl.1.symm) hown (hw _ m_637) (hw _ m_638) (hw _ m_524) (hw _ m_525) (hw _ m_639) hn.2.2.1 hK hP (dd_D hD rfl) hS hA 0 0 rfl rfl (ra_int (hK.2 0 _ rfl).2) (fun i v h => by rw [vp_cell_i] at h; simp [arrV] at h) (Nat.le_of_ble_eq_true rfl) (by exact Nat.le_of_ble_eq_true rfl) (by exact Nat.le_of_ble_eq_true rfl) (by exact Nat.le_of_ble_eq_true rfl) d_Arrays_copyOf_7 ?_
  clear hP hS hK
  intro q H1 (hK : va_K (dC, dI) classes [(k0, .int), (k0, .int)] s) (hP : va_P (dC, dI) classes [ia h0 k0 0 f, ia q k0 0 f] H1) hD1 hS
  replace hD : dd A [h0, q] := dd_of hD1 rfl
  clear hD1
  revert H1
  intro H hP hS
  refine W.widen (k := 1) (n := 0) (by exact Nat.le_refl _) (by exact Nat.le_refl _) ?_
  refine tp_pc (pc' := 10) (by rfl) ?_
  refine va_castA (D := (dC, dI)) (cl := classes) hx hb hown (hw _ m_641) hP 1 rfl (ra_int (hK.2 0 _ rfl).2) d_Arrays_copyOf_10 ?_
  obtain ⟨hP9, hD9, -⟩ := cut3 (wc := [ia h0 k0 0 f, ia q k0 0 f]) hP hD rfl hS hA [0, 1] (by decide +kernel) rfl
  have hK9 := hK.sub (tys' := [(k0, .int)]) [1] rfl
  exact W.aret hx hb hr (by first | exact Or.inl ⟨_, rfl⟩ | exact Or.inr ⟨_, rfl⟩) (Or.inr ⟨_, rfl⟩) (fun t9 ht9 hW => ⟨⟨(), q, rfl, trivial, q, k0, f, rfl, by rw [ht9]; exact hP9, va_K.moved hW.alike hK9, hD9⟩, hS.F ht9⟩) hS.2.2 d_Arrays_copyOf_13
set_option maxHeartbeats 4000000 in
set_option maxRecDepth 100000 in
theorem gen_copyOf_int_0 (l : Launch) (dC : Nat → ClassId) (dI : Nat → Nat → Nat) (h0 : Nat) (k0 : ClassId) (N M : Nat) (f : Nat → Int32) (hN : N = 0) (hM : M = 0) (sz : Nat) : Met l y_Arrays_copyOf w_Arrays_copyOf ({ frames := 1, cells := 1, slots := M, locals := 48 }) (va_Pc [.ref h0, .int (nI M)] (fun U => U.heap.size = sz ∧ va_P (dC, dI) classes [ia h0 k0 N f] U.heap ∧ va_K (dC, dI) classes [(k0, .int)] U ∧ va_D (fun _ => True) [ia h0 k0 N f] ∧ nw U)) (va_Qr (fun _ : Unit => True) (fun _ a t9 => ∃ (q : Nat) (kq : ClassId) (f2 : Nat → Int32), a = q ∧ va_P (dC, dI) classes [ia h0 k0 N f, ia q kq M f2] t9.heap ∧ va_K (dC, dI) classes [(kq, .int)] t9 ∧ va_D (va_A [ia h0 k0 N f] sz) [ia h0 k0 N f, ia q kq M f2]) (va_A [ia h0 k0 N f] sz)) 1 M (va_A [ia h0 k0 N f] sz) := by
  subst hN hM
  exact gen_copyOf_int_00 l dC dI h0 k0 f sz
set_option maxHeartbeats 4000000 in
set_option maxRecDepth 100000 in
theorem gen_OutcomeSet_grow0 (l : Launch) (dC : Nat → ClassId) (dI : Nat → Nat → Nat) (h0 h1 h2 h3 h4 h5 : Nat) (E n C : Nat) (sd rd : Int32) (k1 k2 k3 k4 k5 : ClassId) (rf : Nat → Int64) (vf lf sf : Nat → Int32) (of : Nat → Nat) (M : Nat) (hnC : n = C) (hM : M = if 8 < 2 * n then 2 * n else 8) (hC : C ≤ 65536) (hE : E = 0) (sz : Nat) : Met l y_OutcomeSet_grow w_OutcomeSet_grow ({ frames := 2, cells := 5, slots := 4 * M + M * E, locals := 80 }) (va_Pc [.ref h0] (fun U => U.heap.size = sz ∧ va_P (dC, dI) classes [oc h0 3 [.int (nI E), .ref h1, .ref h2, .ref h3, .ref h4, .ref h5, .int (nI n), .int sd, .int rd], la h1 k1 C rf, ia h2 k2 C vf, ia h3 k3 C lf, ia h4 k4 (C * E) sf, ia h5 k5 C (fun i => nI (of i))] U.heap ∧ va_K (dC, dI) classes [(k1, .long), (k2, .int), (k3, .int), (k4, .int), (k5, .int)] U ∧ va_D (fun _ => True) [oc h0 3 [.int (nI E), .ref h1, .ref h2, .ref h3, .ref h4, .ref h5, .int (nI n), .int sd, .int rd], la h1 k1 C rf, ia h2 k2 C vf, ia h3 k3 C lf, ia h4 k4 (C * E) sf, ia h5 k5 C (fun i => nI (of i))] ∧ nw U)) (va_Qv (fun _ : Unit => True) (fun _ t9 => ∃ (q1 q2 q3 q4 q5 : Nat) (j1 j2 j3 j4 j5 : ClassId) (rf2 : Nat → Int64) (vf2 lf2 sf2 : Nat → Int32) (of2 : Nat → Nat), (∀ i, i < C → rf2 i = rf i) ∧ (∀ i, i < C → vf2 i = vf i) ∧ (∀ i, i < C → lf2 i = lf i) ∧ (∀ i, i < C * E → sf2 i = sf i) ∧ (∀ i, i < C → of2 i = of i) ∧ va_P (dC, dI) classes [oc h0 3 [.int (nI E), .ref q1, .ref q2, .ref q3, .ref q4, .ref q5, .int (nI n), .int sd, .int rd], la q1 j1 M rf2, ia q2 j2 M vf2, ia q3 j3 M lf2, ia q4 j4 (M * E) sf2, ia q5 j5 M (fun i => nI (of2 i))] t9.heap ∧ va_K (dC, dI) classes [(j1, .long), (j2, .int), (j3, .int), (j4, .int), (j5, .int)] t9 ∧ va_D (va_A [oc h0 3 [.int (nI E), .ref h1, .ref h2, .ref h3, .ref h4, .ref h5, .int (nI n), .int sd, .int rd], la h1 k1 C rf, ia h2 k2 C vf, ia h3 k3 C lf, ia h4 k4 (C * E) sf, ia h5 k5 C (fun i => nI (of i))] sz) [oc h0 3 [.int (nI E), .ref q1, .ref q2, .ref q3, .ref q4, .ref q5, .int (nI n), .int sd, .int rd], la q1 j1 M rf2, ia q2 j2 M vf2, ia q3 j3 M lf2, ia q4 j4 (M * E) sf2, ia q5 j5 M (fun i => nI (of2 i))]) (va_A [oc h0 3 [.int (nI E), .ref h1, .ref h2, .ref h3, .ref h4, .ref h5, .int (nI n), .int sd, .int rd], la h1 k1 C rf, ia h2 k2 C vf, ia h3 k3 C lf, ia h4 k4 (C * E) sf, ia h5 k5 C (fun i => nI (of i))] sz)) 5 (4 * M + M * E) (va_A [oc h0 3 [.int (nI E), .ref h1, .ref h2, .ref h3, .ref h4, .ref h5, .int (nI n), .int sd, .int rd], la h1 k1 C rf, ia h2 k2 C vf, ia h3 k3 C lf, ia h4 k4 (C * E) sf, ia h5 k5 C (fun i => nI (of i))] sz) := by
  refine Met.ofW (cc := b_OutcomeSet_grow) (maxL := 2) (ret := none) (by decide) rfl ?_
  intro p e0 s m args below meth c s₁ B hml hv
  obtain ⟨rfl, hsz, hP, hK, hD0, hn⟩ := hv
  have hx := B.exec
  have hb := B.bytes
  have hr := B.returns
  have hw := fun w (h : w ∈ wt) => atoms_spec (ws := w_OutcomeSet_grow) B.pre w (List.mem_cons_of_mem _ h)
  have hown : s.vm.findClass R_OutcomeSet = some m.cls := findClass_of_methodNamed B.named
  have hlocks := B.notSynchronized
  subst hsz
  have hD1 := hD0.self (sz := s.heap.size)
  generalize hAe : va_A [oc h0 3 [.int (nI E), .ref h1, .ref h2, .ref h3, .ref h4, .ref h5, .int (nI n), .int sd, .int rd], la h1 k1 C rf, ia h2 k2 C vf, ia h3 k3 C lf, ia h4 k4 (C * E) sf, ia h5 k5 C (fun i => nI (of i))] s.heap.size = A at hD1 ⊢
  have hA : ∀ q : Nat, s.heap.size ≤ q → A q := fun q h => by rw [← hAe]; exact Or.inr h
  have hD : dd A [h0, h1, h2, h3, h4, h5] := dd_of hD1 rfl
  clear hAe hD0 hD1
  have hS : va_S A s.heap s.heap [] := va_S.rf
  replace hP : va_P (dC, dI) classes [oc h0 3 [.int (nI E), .ref h1, .ref h2, .ref h3, .ref h4, .ref h5, .int (nI n), .int sd, .int rd], la h1 k1 C rf, ia h2 k2 C vf, ia h3 k3 C lf, ia h4 k4 (C * E) sf, ia h5 k5 C (fun i => nI (of i))] s.heap := hP
  have hl := lv_entry ([.ref h0]) (n := 2) (Nat.le_of_ble_eq_true rfl)
  rw [lg_entry_eq]
  generalize (lg_sl ([.ref h0]) ++ List.replicate (2 - (lg_sl ([.ref h0])).length) Slot.unset).toArray = ls at hl ⊢
  replace hl : lv_has ls 2 [(0, .ref h0)] := hl
  have hMn : C < M ∧ M ≤ 131072 := by subst hM; split <;> omega
  have hME : M * E ≤ 131072 * 16 := Nat.mul_le_mul hMn.2 (by omega)
  refine lv_bipush (v := 8) hx hb d_OutcomeSet_grow_0 (by decide) ?_
  refine lv_iconst (v := 2) hx hb d_OutcomeSet_grow_2 (by decide) ?_
  refine lv_aload_n hx hb d_OutcomeSet_grow_3 rfl (lv_at hl 0 rfl) ?_
  refine va_get (D := (dC, dI)) (ci := 3) (v := .int (nI n)) (C := R_OutcomeSet) (T := F_OutcomeSet) (N := 9) hx hb hw i_OutcomeSet hown hK hP 0 rfl rfl 6 (by decide) (hw _ m_384) (fun _ h9 => h9) rfl d_OutcomeSet_grow_4 ?_
  refine lv_imul hx hb d_OutcomeSet_grow_7 ?_
  refine tp_i (y := nI (2 * n)) (by exact pk_mul 2 n) ?_
  refine va_mmax hx hb (hml.trans hl.1.symm) hown (hw _ m_632) (hw _ m_517) (hw _ m_111) (hw _ m_518) (Nat.le_of_ble_eq_true rfl) (by exact Nat.le_of_ble_eq_true rfl) (by exact Nat.zero_le _) (by exact Nat.zero_le _) d_OutcomeSet_grow_8 ?_
  refine tp_i (y := nI M) (by subst hM; by_cases h9 : 8 < 2 * n; (rw [if_pos h9, if_pos]; exact (nI_ltI (a := 8) (b := 2 * n) (by omega) (by omega)).mpr h9); (rw [if_neg h9, if_neg]; rfl; exact fun q9 => h9 ((nI_ltI (a := 8) (b := 2 * n) (by omega) (by omega)).mp q9))) ?_
  refine tp_pc (pc' := 11) (by rfl) ?_
  refine lv_istore_n (lv' := [(1, .int (nI M)), (0, .ref h0)]) hx hb d_OutcomeSet_grow_11 rfl hl (by decide) rfl ?_
  clear hl ls
  intro ls hl
  refine lv_aload_n hx hb d_OutcomeSet_grow_12 rfl (lv_at hl 1 rfl) ?_
  refine lv_aload_n hx hb d_OutcomeSet_grow_13 rfl (lv_at hl 1 rfl) ?_
  refine va_get (D := (dC, dI)) (ci := 3) (v := .ref h1) (C := R_OutcomeSet) (T := F_OutcomeSet) (N := 9) hx hb hw i_OutcomeSet hown hK hP 0 rfl rfl 1 (by decide) (hw _ m_379) (fun _ h9 => h9) rfl d_OutcomeSet_grow_14 ?_
  refine lv_iload_n hx hb d_OutcomeSet_grow_17 rfl (lv_at hl 0 rfl) ?_
  obtain ⟨hPc, hDc, hFc⟩ := cut3 (wc := [la h1 k1 C rf]) hP hD rfl hS hA [1] (by decide +kernel) rfl
  have hKc := hK.sub (tys' := [(k1, .long)]) [0] rfl
  refine va_callr (va_runS (As := [.ref h1, .int (nI M)]) (rest := [.ref h0]) ⟨hx, hb, hml, hown, hw⟩ (gen_copyOf_long l dC dI h1 k1 C M rf (by omega) (by omega) s.heap.size) (cw_S 2 hw g_Arrays_copyOf2 rfl rfl rfl (hw _ m_110) (hw _ m_633) (hw _ m_520) (by decide +kernel) ⟨Nat.le_of_ble_eq_true rfl, Nat.le_of_ble_eq_true rfl⟩) ⟨fun a U g mk q => by obtain ⟨q0, q1, qP, qK, qD, qN⟩ := q; exact ⟨q0, q1, qP, va_K.moved (u := U) (U := U.calling g mk a) (Vm.Alike.refl U.vm) qK, qD, nw_call qN⟩, fun U hU hW => ⟨rfl, by rw [hU], by rw [hU]; exact hPc, va_K.moved hW.alike hKc, hDc.weaken (fun _ _ _ _ => trivial), nw_warm hW hn⟩⟩ rfl rfl hl.1 rfl (lv_room (Nat.le_of_ble_eq_true rfl)) d_OutcomeSet_grow_18 ⟨by show 0 + 1 ≤ 5; omega, by show 0 + M ≤ 4 * M + M * E; omega⟩) hS (fun q _ h => hFc q h) hFc ?_
  intro u r_1 t9 H1 locs1 ht9 hvm hw1 hB hz1 hk1 hS1
  obtain ⟨q1, j1, hra, hP1, hK1, hD1⟩ := hB
  rw [ht9] at hP1
  replace hK1 := va_K.moved hvm.symm hK1
  have hPD := join3 hP hD rfl [1] [0, 2, 3, 4, 5] rfl (by rfl) (by decide +kernel) (by decide +kernel) hk1 hFc hP1 hD1
  replace hK : va_K (dC, dI) classes [(k1, .long), (k2, .int), (k3, .int), (k4, .int), (k5, .int), (j1, .long)] s := hK.app hK1
  clear hP1 hK1 hD1 hk1 hz1 hFc hKc hDc hPc hvm ht9 hP hS t9
  have hP : va_P (dC, dI) classes [oc h0 3 [.int (nI E), .ref h1, .ref h2, .ref h3, .ref h4, .ref h5, .int (nI n), .int sd, .int rd], ia h2 k2 C vf, ia h3 k3 C lf, ia h4 k4 (C * E) sf, ia h5 k5 C (fun i => nI (of i)), la h1 k1 C rf, la q1 j1 M (va_cpy rf (fun _ => 0) 0 0 C)] H1 := hPD.1
  replace hD : dd A [h0, h2, h3, h4, h5, h1, q1] := dd_of hPD.2 rfl
  clear hPD
  revert H1 locs1
  intro H locs hS hP
  refine tp_r (y := q1) hra ?_
  clear hra hw1 r_1 u
  refine W.widen (k := 1) (n := M) (by first | exact Nat.le_refl _ | omega) (by first | exact Nat.le_refl _ | omega) ?_
  refine tp_pc (pc' := 21) (by rfl) ?_
  refine va_put (D := (dC, dI)) (ci := 3) (v := .ref q1) (ty := .array .long) (C := R_OutcomeSet) (T := F_OutcomeSet) (N := 9) hx hb hw i_OutcomeSet t_OutcomeSet t_OutcomeSet_ok n_OutcomeSet hown hK hP (dd_D hD rfl) hS 0 rfl rfl 1 (by decide) (hw _ m_379) (fun _ h9 => h9) rfl (by decide +kernel) rfl rfl (Nat.le_of_ble_eq_true rfl) d_OutcomeSet_grow_21 ?_
  clear hP hS locs H
  intro H locs (hP : va_P (dC, dI) classes [oc h0 3 [.int (nI E), .ref q1, .ref h2, .ref h3, .ref h4, .ref h5, .int (nI n), .int sd, .int rd], ia h2 k2 C vf, ia h3 k3 C lf, ia h4 k4 (C * E) sf, ia h5 k5 C (fun i => nI (of i)), la h1 k1 C rf, la q1 j1 M (va_cpy rf (fun _ => 0) 0 0 C)] H) _ hS
  refine tp_pc (pc' := 24) (by rfl) ?_
  refine lv_aload_n hx hb d_OutcomeSet_grow_24 rfl (lv_at hl 1 rfl) ?_
  refine lv_aload_n hx hb d_OutcomeSet_grow_25 rfl (lv_at hl 1 rfl) ?_
  refine va_get (D := (dC, dI)) (ci := 3) (v := .ref h2) (C := R_OutcomeSet) (T := F_OutcomeSet) (N := 9) hx hb hw i_OutcomeSet hown hK hP 0 rfl rfl 2 (by decide) (hw _ m_380) (fun _ h9 => h9) rfl d_OutcomeSet_grow_26 ?_
  refine lv_iload_n hx hb d_OutcomeSet_grow_29 rfl (lv_at hl 0 rfl) ?_
  obtain ⟨hPc, hDc, hFc⟩ := cut3 (wc := [ia h2 k2 C vf]) hP hD rfl hS hA [1] (by decide +kernel) rfl
  have hKc := hK.sub (tys' := [(k2, .int)]) [1] rfl
  refine va_callr (va_runS (As := [.ref h2, .int (nI M)]) (rest := [.ref h0]) ⟨hx, hb, hml, hown, hw⟩ (gen_copyOf_int l dC dI h2 k2 C M vf (by omega) (by omega) H.size) (cw_S 2 hw g_Arrays_copyOf rfl rfl rfl (hw _ m_110) (hw _ m_634) (hw _ m_635) (by decide +kernel) ⟨Nat.le_of_ble_eq_true rfl, Nat.le_of_ble_eq_true rfl⟩) ⟨fun a U g mk q => by obtain ⟨q0, q1, qP, qK, qD, qN⟩ := q; exact ⟨q0, q1, qP, va_K.moved (u := U) (U := U.calling g mk a) (Vm.Alike.refl U.vm) qK, qD, nw_call qN⟩, fun U hU hW => ⟨rfl, by rw [hU], by rw [hU]; exact hPc, va_K.moved hW.alike hKc, hDc.weaken (fun _ _ _ _ => trivial), nw_warm hW hn⟩⟩ rfl rfl hl.1 rfl (lv_room (Nat.le_of_ble_eq_true rfl)) d_OutcomeSet_grow_30 ⟨by show 1 + 1 ≤ 5; omega, by show M + M ≤ 4 * M + M * E; omega⟩) hS (fun q _ h => hFc q h) hFc ?_
  intro u r_2 t9 H1 locs1 ht9 hvm hw1 hB hz1 hk1 hS1
  obtain ⟨q2, j2, hra, hP1, hK1, hD1⟩ := hB
  rw [ht9] at hP1
  replace hK1 := va_K.moved hvm.symm hK1
  have hPD := join3 hP hD rfl [1] [0, 2, 3, 4, 5, 6] rfl (by rfl) (by decide +kernel) (by decide +kernel) hk1 hFc hP1 hD1
  replace hK : va_K (dC, dI) classes [(k1, .long), (k2, .int), (k3, .int), (k4, .int), (k5, .int), (j1, .long), (j2, .int)] s := hK.app hK1
  clear hP1 hK1 hD1 hk1 hz1 hFc hKc hDc hPc hvm ht9 hP hS t9 locs H
  have hP : va_P (dC, dI) classes [oc h0 3 [.int (nI E), .ref q1, .ref h2, .ref h3, .ref h4, .ref h5, .int (nI n), .int sd, .int rd], ia h3 k3 C lf, ia h4 k4 (C * E) sf, ia h5 k5 C (fun i => nI (of i)), la h1 k1 C rf, la q1 j1 M (va_cpy rf (fun _ => 0) 0 0 C), ia h2 k2 C vf, ia q2 j2 M (va_cpy vf (fun _ => 0) 0 0 C)] H1 := hPD.1
  replace hD : dd A [h0, h3, h4, h5, h1, q1, h2, q2] := dd_of hPD.2 rfl
  clear hPD
  revert H1 locs1
  intro H locs hS hP
  refine tp_r (y := q2) hra ?_
  clear hra hw1 r_2 u
  refine W.widen (k := 2) (n := M + M) (by first | exact Nat.le_refl _ | omega) (by first | exact Nat.le_refl _ | omega) ?_
  refine tp_pc (pc' := 33) (by rfl) ?_
  refine va_put (D := (dC, dI)) (ci := 3) (v := .ref q2) (ty := .array .int) (C := R_OutcomeSet) (T := F_OutcomeSet) (N := 9) hx hb hw i_OutcomeSet t_OutcomeSet t_OutcomeSet_ok n_OutcomeSet hown hK hP (dd_D hD rfl) hS 0 rfl rfl 2 (by decide) (hw _ m_380) (fun _ h9 => h9) rfl (by decide +kernel) rfl rfl (Nat.le_of_ble_eq_true rfl) d_OutcomeSet_grow_33 ?_
  clear hP hS locs H
  intro H locs (hP : va_P (dC, dI) classes [oc h0 3 [.int (nI E), .ref q1, .ref q2, .ref h3, .ref h4, .ref h5, .int (nI n), .int sd, .int rd], ia h3 k3 C lf, ia h4 k4 (C * E) sf, ia h5 k5 C (fun i => nI (of i)), la h1 k1 C rf, la q1 j1 M (va_cpy rf (fun _ => 0) 0 0 C), ia h2 k2 C vf, ia q2 j2 M (va_cpy vf (fun _ => 0) 0 0 C)] H) _ hS
  refine tp_pc (pc' := 36) (by rfl) ?_
  refine lv_aload_n hx hb d_OutcomeSet_grow_36 rfl (lv_at hl 1 rfl) ?_
  refine lv_aload_n hx hb d_OutcomeSet_grow_37 rfl (lv_at hl 1 rfl) ?_
  refine va_get (D := (dC, dI)) (ci := 3) (v := .ref h3) (C := R_OutcomeSet) (T := F_OutcomeSet) (N := 9) hx hb hw i_OutcomeSet hown hK hP 0 rfl rfl 3 (by decide) (hw _ m_381) (fun _ h9 => h9) rfl d_OutcomeSet_grow_38 ?_
  refine lv_iload_n hx hb d_OutcomeSet_grow_41 rfl (lv_at hl 0 rfl) ?_
  obtain ⟨hPc, hDc, hFc⟩ := cut3 (wc := [ia h3 k3 C lf]) hP hD rfl hS hA [1] (by decide +kernel) rfl
  have hKc := hK.sub (tys' := [(k3, .int)]) [2] rfl
  refine va_callr (va_runS (As := [.ref h3, .int (nI M)]) (rest := [.ref h0]) ⟨hx, hb, hml, hown, hw⟩ (gen_copyOf_int l dC dI h3 k3 C M lf (by omega) (by omega) H.size) (cw_S 2 hw g_Arrays_copyOf rfl rfl rfl (hw _ m_110) (hw _ m_634) (hw _ m_635) (by decide +kernel) ⟨Nat.le_of_ble_eq_true rfl, Nat.le_of_ble_eq_true rfl⟩) ⟨fun a U g mk q => by obtain ⟨q0, q1, qP, qK, qD, qN⟩ := q; exact ⟨q0, q1, qP, va_K.moved (u := U) (U := U.calling g mk a) (Vm.Alike.refl U.vm) qK, qD, nw_call qN⟩, fun U hU hW => ⟨rfl, by rw [hU], by rw [hU]; exact hPc, va_K.moved hW.alike hKc, hDc.weaken (fun _ _ _ _ => trivial), nw_warm hW hn⟩⟩ rfl rfl hl.1 rfl (lv_room (Nat.le_of_ble_eq_true rfl)) d_OutcomeSet_grow_42 ⟨by show 2 + 1 ≤ 5; omega, by show M + M + M ≤ 4 * M + M * E; omega⟩) hS (fun q _ h => hFc q h) hFc ?_
  intro u r_3 t9 H1 locs1 ht9 hvm hw1 hB hz1 hk1 hS1
  obtain ⟨q3, j3, hra, hP1, hK1, hD1⟩ := hB
  rw [ht9] at hP1
  replace hK1 := va_K.moved hvm.symm hK1
  have hPD := join3 hP hD rfl [1] [0, 2, 3, 4, 5, 6, 7] rfl (by rfl) (by decide +kernel) (by decide +kernel) hk1 hFc hP1 hD1
  replace hK : va_K (dC, dI) classes [(k1, .long), (k2, .int), (k3, .int), (k4, .int), (k5, .int), (j1, .long), (j2, .int), (j3, .int)] s := hK.app hK1
  clear hP1 hK1 hD1 hk1 hz1 hFc hKc hDc hPc hvm ht9 hP hS t9 locs H
  have hP : va_P (dC, dI) classes [oc h0 3 [.int (nI E), .ref q1, .ref q2, .ref h3, .ref h4, .ref h5, .int (nI n), .int sd, .int rd], ia h4 k4 (C * E) sf, ia h5 k5 C (fun i => nI (of i)), la h1 k1 C rf, la q1 j1 M (va_cpy rf (fun _ => 0) 0 0 C), ia h2 k2 C vf, ia q2 j2 M (va_cpy vf (fun _ => 0) 0 0 C), ia h3 k3 C lf, ia q3 j3 M (va_cpy lf (fun _ => 0) 0 0 C)] H1 := hPD.1
  replace hD : dd A [h0, h4, h5, h1, q1, h2, q2, h3, q3] := dd_of hPD.2 rfl
  clear hPD
  revert H1 locs1
  intro H locs hS hP
  refine tp_r (y := q3) hra ?_
  clear hra hw1 r_3 u
  refine W.widen (k := 3) (n := M + M + M) (by first | exact Nat.le_refl _ | omega) (by first | exact Nat.le_refl _ | omega) ?_
  refine tp_pc (pc' := 45) (by rfl) ?_
  refine va_put (D := (dC, dI)) (ci := 3) (v := .ref q3) (ty := .array .int) (C := R_OutcomeSet) (T := F_OutcomeSet) (N := 9) hx hb hw i_OutcomeSet t_OutcomeSet t_OutcomeSet_ok n_OutcomeSet hown hK hP (dd_D hD rfl) hS 0 rfl rfl 3 (by decide) (hw _ m_381) (fun _ h9 => h9) rfl (by decide +kernel) rfl rfl (Nat.le_of_ble_eq_true rfl) d_OutcomeSet_grow_45 ?_
  clear hP hS locs H
  intro H locs (hP : va_P (dC, dI) classes [oc h0 3 [.int (nI E), .ref q1, .ref q2, .ref q3, .ref h4, .ref h5, .int (nI n), .int sd, .int rd], ia h4 k4 (C * E) sf, ia h5 k5 C (fun i => nI (of i)), la h1 k1 C rf, la q1 j1 M (va_cpy rf (fun _ => 0) 0 0 C), ia h2 k2 C vf, ia q2 j2 M (va_cpy vf (fun _ => 0) 0 0 C), ia h3 k3 C lf, ia q3 j3 M (va_cpy lf (fun _ => 0) 0 0 C)] H) _ hS
  refine tp_pc (pc' := 48) (by rfl) ?_
  refine lv_aload_n hx hb d_OutcomeSet_grow_48 rfl (lv_at hl 1 rfl) ?_
  refine lv_aload_n hx hb d_OutcomeSet_grow_49 rfl (lv_at hl 1 rfl) ?_
  refine va_get (D := (dC, dI)) (ci := 3) (v := .ref h5) (C := R_OutcomeSet) (T := F_OutcomeSet) (N := 9) hx hb hw i_OutcomeSet hown hK hP 0 rfl rfl 5 (by decide) (hw _ m_383) (fun _ h9 => h9) rfl d_OutcomeSet_grow_50 ?_
  refine lv_iload_n hx hb d_OutcomeSet_grow_53 rfl (lv_at hl 0 rfl) ?_
  obtain ⟨hPc, hDc, hFc⟩ := cut3 (wc := [ia h5 k5 C (fun i => nI (of i))]) hP hD rfl hS hA [2] (by decide +kernel) rfl
  have hKc := hK.sub (tys' := [(k5, .int)]) [4] rfl
  refine va_callr (va_runS (As := [.ref h5, .int (nI M)]) (rest := [.ref h0]) ⟨hx, hb, hml, hown, hw⟩ (gen_copyOf_int l dC dI h5 k5 C M (fun i => nI (of i)) (by omega) (by omega) H.size) (cw_S 2 hw g_Arrays_copyOf rfl rfl rfl (hw _ m_110) (hw _ m_634) (hw _ m_635) (by decide +kernel) ⟨Nat.le_of_ble_eq_true rfl, Nat.le_of_ble_eq_true rfl⟩) ⟨fun a U g mk q => by obtain ⟨q0, q1, qP, qK, qD, qN⟩ := q; exact ⟨q0, q1, qP, va_K.moved (u := U) (U := U.calling g mk a) (Vm.Alike.refl U.vm) qK, qD, nw_call qN⟩, fun U hU hW => ⟨rfl, by rw [hU], by rw [hU]; exact hPc, va_K.moved hW.alike hKc, hDc.weaken (fun _ _ _ _ => trivial), nw_warm hW hn⟩⟩ rfl rfl hl.1 rfl (lv_room (Nat.le_of_ble_eq_true rfl)) d_OutcomeSet_grow_54 ⟨by show 3 + 1 ≤ 5; omega, by show M + M + M + M ≤ 4 * M + M * E; omega⟩) hS (fun q _ h => hFc q h) hFc ?_
  intro u r_4 t9 H1 locs1 ht9 hvm hw1 hB hz1 hk1 hS1
  obtain ⟨q5, j5, hra, hP1, hK1, hD1⟩ := hB
  rw [ht9] at hP1
  replace hK1 := va_K.moved hvm.symm hK1
  have hPD := join3 hP hD rfl [2] [0, 1, 3, 4, 5, 6, 7, 8] rfl (by rfl) (by decide +kernel) (by decide +kernel) hk1 hFc hP1 hD1
  replace hK : va_K (dC, dI) classes [(k1, .long), (k2, .int), (k3, .int), (k4, .int), (k5, .int), (j1, .long), (j2, .int), (j3, .int), (j5, .int)] s := hK.app hK1
  clear hP1 hK1 hD1 hk1 hz1 hFc hKc hDc hPc hvm ht9 hP hS t9 locs H
  have hP : va_P (dC, dI) classes [oc h0 3 [.int (nI E), .ref q1, .ref q2, .ref q3, .ref h4, .ref h5, .int (nI n), .int sd, .int rd], ia h4 k4 (C * E) sf, la h1 k1 C rf, la q1 j1 M (va_cpy rf (fun _ => 0) 0 0 C), ia h2 k2 C vf, ia q2 j2 M (va_cpy vf (fun _ => 0) 0 0 C), ia h3 k3 C lf, ia q3 j3 M (va_cpy lf (fun _ => 0) 0 0 C), ia h5 k5 C (fun i => nI (of i)), ia q5 j5 M (va_cpy (fun i => nI (of i)) (fun _ => 0) 0 0 C)] H1 := hPD.1
  replace hD : dd A [h0, h4, h1, q1, h2, q2, h3, q3, h5, q5] := dd_of hPD.2 rfl
  clear hPD
  revert H1 locs1
  intro H locs hS hP
  refine tp_r (y := q5) hra ?_
  clear hra hw1 r_4 u
  refine W.widen (k := 4) (n := M + M + M + M) (by first | exact Nat.le_refl _ | omega) (by first | exact Nat.le_refl _ | omega) ?_
  refine tp_pc (pc' := 57) (by rfl) ?_
  refine va_put (D := (dC, dI)) (ci := 3) (v := .ref q5) (ty := .array .int) (C := R_OutcomeSet) (T := F_OutcomeSet) (N := 9) hx hb hw i_OutcomeSet t_OutcomeSet t_OutcomeSet_ok n_OutcomeSet hown hK hP (dd_D hD rfl) hS 0 rfl rfl 5 (by decide) (hw _ m_383) (fun _ h9 => h9) rfl (by decide +kernel) rfl rfl (Nat.le_of_ble_eq_true rfl) d_OutcomeSet_grow_57 ?_
  clear hP hS locs H
  intro H locs (hP : va_P (dC, dI) classes [oc h0 3 [.int (nI E), .ref q1, .ref q2, .ref q3, .ref h4, .ref q5, .int (nI n), .int sd, .int rd], ia h4 k4 (C * E) sf, la h1 k1 C rf, la q1 j1 M (va_cpy rf (fun _ => 0) 0 0 C), ia h2 k2 C vf, ia q2 j2 M (va_cpy vf (fun _ => 0) 0 0 C), ia h3 k3 C lf, ia q3 j3 M (va_cpy lf (fun _ => 0) 0 0 C), ia h5 k5 C (fun i => nI (of i)), ia q5 j5 M (va_cpy (fun i => nI (of i)) (fun _ => 0) 0 0 C)] H) _ hS
  refine tp_pc (pc' := 60) (by rfl) ?_
  refine lv_aload_n hx hb d_OutcomeSet_grow_60 rfl (lv_at hl 1 rfl) ?_
  refine lv_aload_n hx hb d_OutcomeSet_grow_61 rfl (lv_at hl 1 rfl) ?_
  refine va_get (D := (dC, dI)) (ci := 3) (v := .ref h4) (C := R_OutcomeSet) (T := F_OutcomeSet) (N := 9) hx hb hw i_OutcomeSet hown hK hP 0 rfl rfl 4 (by decide) (hw _ m_382) (fun _ h9 => h9) rfl d_OutcomeSet_grow_62 ?_
  refine lv_iload_n hx hb d_OutcomeSet_grow_65 rfl (lv_at hl 0 rfl) ?_
  refine lv_aload_n hx hb d_OutcomeSet_grow_66 rfl (lv_at hl 1 rfl) ?_
  refine va_get (D := (dC, dI)) (ci := 3) (v := .int (nI E)) (C := R_OutcomeSet) (T := F_OutcomeSet) (N := 9) hx hb hw i_OutcomeSet hown hK hP 0 rfl rfl 0 (by decide) (hw _ m_378) (fun _ h9 => h9) rfl d_OutcomeSet_grow_67 ?_
  refine lv_imul hx hb d_OutcomeSet_grow_70 ?_
  refine tp_i (y := nI (M * E)) (by exact pk_mul M E) ?_
  obtain ⟨hPc, hDc, hFc⟩ := cut3 (wc := [ia h4 k4 (C * E) sf]) hP hD rfl hS hA [1] (by decide +kernel) rfl
  have hKc := hK.sub (tys' := [(k4, .int)]) [3] rfl
  refine va_callr (va_runS (As := [.ref h4, .int (nI (M * E))]) (rest := [.ref h0]) ⟨hx, hb, hml, hown, hw⟩ (gen_copyOf_int_0 l dC dI h4 k4 (C * E) (M * E) sf (by subst hE; omega) (by subst hE; omega) H.size) (cw_S 2 hw g_Arrays_copyOf rfl rfl rfl (hw _ m_110) (hw _ m_634) (hw _ m_635) (by decide +kernel) ⟨Nat.le_of_ble_eq_true rfl, Nat.le_of_ble_eq_true rfl⟩) ⟨fun a U g mk q => by obtain ⟨q0, q1, qP, qK, qD, qN⟩ := q; exact ⟨q0, q1, qP, va_K.moved (u := U) (U := U.calling g mk a) (Vm.Alike.refl U.vm) qK, qD, nw_call qN⟩, fun U hU hW => ⟨rfl, by rw [hU], by rw [hU]; exact hPc, va_K.moved hW.alike hKc, hDc.weaken (fun _ _ _ _ => trivial), nw_warm hW hn⟩⟩ rfl rfl hl.1 rfl (lv_room (Nat.le_of_ble_eq_true rfl)) d_OutcomeSet_grow_71 ⟨by show 4 + 1 ≤ 5; omega, by show M + M + M + M + M * E ≤ 4 * M + M * E; omega⟩) hS (fun q _ h => hFc q h) hFc ?_
  intro u r_5 t9 H1 locs1 ht9 hvm hw1 hB hz1 hk1 hS1
  obtain ⟨q4, j4, sf2, hra, hP1, hK1, hD1⟩ := hB
  rw [ht9] at hP1
  replace hK1 := va_K.moved hvm.symm hK1
  have hPD := join3 hP hD rfl [1] [0, 2, 3, 4, 5, 6, 7, 8, 9] rfl (by rfl) (by decide +kernel) (by decide +kernel) hk1 hFc hP1 hD1
  replace hK : va_K (dC, dI) classes [(k1, .long), (k2, .int), (k3, .int), (k4, .int), (k5, .int), (j1, .long), (j2, .int), (j3, .int), (j5, .int), (j4, .int)] s := hK.app hK1
  clear hP1 hK1 hD1 hk1 hz1 hFc hKc hDc hPc hvm ht9 hP hS t9 locs H
  have hP : va_P (dC, dI) classes [oc h0 3 [.int (nI E), .ref q1, .ref q2, .ref q3, .ref h4, .ref q5, .int (nI n), .int sd, .int rd], la h1 k1 C rf, la q1 j1 M (va_cpy rf (fun _ => 0) 0 0 C), ia h2 k2 C vf, ia q2 j2 M (va_cpy vf (fun _ => 0) 0 0 C), ia h3 k3 C lf, ia q3 j3 M (va_cpy lf (fun _ => 0) 0 0 C), ia h5 k5 C (fun i => nI (of i)), ia q5 j5 M (va_cpy (fun i => nI (of i)) (fun _ => 0) 0 0 C), ia h4 k4 (C * E) sf, ia q4 j4 (M * E) sf2] H1 := hPD.1
  replace hD : dd A [h0, h1, q1, h2, q2, h3, q3, h5, q5, h4, q4] := dd_of hPD.2 rfl
  clear hPD
  revert H1 locs1
  intro H locs hS hP
  refine tp_r (y := q4) hra ?_
  clear hra hw1 r_5 u
  refine W.widen (k := 5) (n := M + M + M + M + M * E) (by first | exact Nat.le_refl _ | omega) (by first | exact Nat.le_refl _ | omega) ?_
  refine tp_pc (pc' := 74) (by rfl) ?_
  refine va_put (D := (dC, dI)) (ci := 3) (v := .ref q4) (ty := .array .int) (C := R_OutcomeSet) (T := F_OutcomeSet) (N := 9) hx hb hw i_OutcomeSet t_OutcomeSet t_OutcomeSet_ok n_OutcomeSet hown hK hP (dd_D hD rfl) hS 0 rfl rfl 4 (by decide) (hw _ m_382) (fun _ h9 => h9) rfl (by decide +kernel) rfl rfl (Nat.le_of_ble_eq_true rfl) d_OutcomeSet_grow_74 ?_
  clear hP hS locs H
  intro H locs (hP : va_P (dC, dI) classes [oc h0 3 [.int (nI E), .ref q1, .ref q2, .ref q3, .ref q4, .ref q5, .int (nI n), .int sd, .int rd], la h1 k1 C rf, la q1 j1 M (va_cpy rf (fun _ => 0) 0 0 C), ia h2 k2 C vf, ia q2 j2 M (va_cpy vf (fun _ => 0) 0 0 C), ia h3 k3 C lf, ia q3 j3 M (va_cpy lf (fun _ => 0) 0 0 C), ia h5 k5 C (fun i => nI (of i)), ia q5 j5 M (va_cpy (fun i => nI (of i)) (fun _ => 0) 0 0 C), ia h4 k4 (C * E) sf, ia q4 j4 (M * E) sf2] H) _ hS
  refine tp_pc (pc' := 77) (by rfl) ?_
  rw [cpy_nI] at hP
  replace hP : va_P (dC, dI) classes [oc h0 3 [.int (nI E), .ref q1, .ref q2, .ref q3, .ref q4, .ref q5, .int (nI n), .int sd, .int rd], la h1 k1 C rf, la q1 j1 M (va_cpy rf (fun _ => 0) 0 0 C), ia h2 k2 C vf, ia q2 j2 M (va_cpy vf (fun _ => 0) 0 0 C), ia h3 k3 C lf, ia q3 j3 M (va_cpy lf (fun _ => 0) 0 0 C), ia h5 k5 C (fun i => nI (of i)), ia q5 j5 M (fun i => nI ((fun i => if i < C then of i else 0) i)), ia h4 k4 (C * E) sf, ia q4 j4 (M * E) sf2] H := hP
  obtain ⟨hP9, hD9, -⟩ := cut3 (wc := [oc h0 3 [.int (nI E), .ref q1, .ref q2, .ref q3, .ref q4, .ref q5, .int (nI n), .int sd, .int rd], la q1 j1 M (va_cpy rf (fun _ => 0) 0 0 C), ia q2 j2 M (va_cpy vf (fun _ => 0) 0 0 C), ia q3 j3 M (va_cpy lf (fun _ => 0) 0 0 C), ia q4 j4 (M * E) sf2, ia q5 j5 M (fun i => nI ((fun i => if i < C then of i else 0) i))]) hP hD rfl hS hA [0, 2, 4, 6, 10, 8] (by decide +kernel) rfl
  have hK9 := hK.sub (tys' := [(j1, .long), (j2, .int), (j3, .int), (j4, .int), (j5, .int)]) [5, 6, 7, 9, 8] rfl
  refine W.widen (k := 5) (n := 4 * M + M * E) (by omega) (by omega) ?_
  exact W.vret hx hb hr (fun t9 ht9 hW => ⟨⟨(), rfl, trivial, q1, q2, q3, q4, q5, j1, j2, j3, j4, j5, va_cpy rf (fun _ => 0) 0 0 C, va_cpy vf (fun _ => 0) 0 0 C, va_cpy lf (fun _ => 0) 0 0 C, sf2, (fun i => if i < C then of i else 0), fun i hi => by rw [pk_cpy_in (by omega) (by omega)]; congr 1; omega, fun i hi => by rw [pk_cpy_in (by omega) (by omega)]; congr 1; omega, fun i hi => by rw [pk_cpy_in (by omega) (by omega)]; congr 1; omega, fun i hi => absurd hi (by subst hE; omega), fun i hi => if_pos hi, by rw [ht9]; exact hP9, va_K.moved hW.alike hK9, hD9⟩, hS.F ht9⟩) hS.2.2 d_OutcomeSet_grow_77
