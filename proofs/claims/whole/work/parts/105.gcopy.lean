set_option maxHeartbeats 4000000 in
set_option maxRecDepth 100000 in
theorem gen_copyOf_long (l : Launch) (dC : Nat → ClassId) (dI : Nat → Nat → Nat) (h0 : Nat) (k0 : ClassId) (N M : Nat) (f : Nat → Int64) (hNM : N < M) (hM : M ≤ 33554432) (sz : Nat) : Met l y_Arrays_copyOf2 w_Arrays_copyOf2 ({ frames := 1, cells := 1, slots := M, locals := 48 }) (va_Pc [.ref h0, .int (nI M)] (fun U => U.heap.size = sz ∧ va_P (dC, dI) classes [la h0 k0 N f] U.heap ∧ va_K (dC, dI) classes [(k0, .long)] U ∧ va_D (fun _ => True) [la h0 k0 N f] ∧ nw U)) (va_Qr (fun _ : Unit => True) (fun _ a t9 => ∃ (q : Nat) (kq : ClassId), a = q ∧ va_P (dC, dI) classes [la h0 k0 N f, la q kq M (va_cpy f (fun _ => 0) 0 0 N)] t9.heap ∧ va_K (dC, dI) classes [(kq, .long)] t9 ∧ va_D (va_A [la h0 k0 N f] sz) [la h0 k0 N f, la q kq M (va_cpy f (fun _ => 0) 0 0 N)]) (va_A [la h0 k0 N f] sz)) 1 M (va_A [la h0 k0 N f] sz) := by
  refine Met.ofW (cc := b_Arrays_copyOf2) (maxL := 3) (ret := (some (.array .long))) (by decide) rfl ?_
  intro p e0 s m args below meth c s₁ B hml hv
  obtain ⟨rfl, hsz, hP, hK, hD0, hn⟩ := hv
  have hx := B.exec
  have hb := B.bytes
  have hr := B.returns
  have hw := fun w (h : w ∈ wt) => atoms_spec (ws := w_Arrays_copyOf2) B.pre w (List.mem_cons_of_mem _ h)
  have hown : s.vm.findClass R_Arrays = some m.cls := findClass_of_methodNamed B.named
  have hlocks := B.notSynchronized
  subst hsz
  have hD1 := hD0.self (sz := s.heap.size)
  generalize hAe : va_A [la h0 k0 N f] s.heap.size = A at hD1 ⊢
  have hA : ∀ q : Nat, s.heap.size ≤ q → A q := fun q h => by rw [← hAe]; exact Or.inr h
  have hD : dd A [h0] := dd_of hD1 rfl
  clear hAe hD0 hD1
  have hS : va_S A s.heap s.heap [] := va_S.rf
  replace hP : va_P (dC, dI) classes [la h0 k0 N f] s.heap := hP
  have hl := lv_entry ([.ref h0, .int (nI M)]) (n := 3) (Nat.le_of_ble_eq_true rfl)
  rw [lg_entry_eq]
  generalize (lg_sl ([.ref h0, .int (nI M)]) ++ List.replicate (3 - (lg_sl ([.ref h0, .int (nI M)])).length) Slot.unset).toArray = ls at hl ⊢
  replace hl : lv_has ls 3 [(0, .ref h0), (1, .int (nI M))] := hl
  refine lv_iload_n hx hb d_Arrays_copyOf2_0 rfl (lv_at hl 1 rfl) ?_
  refine lv_aload_n hx hb d_Arrays_copyOf2_1 rfl (lv_at hl 0 rfl) ?_
  refine va_alen (D := (dC, dI)) hx hb hK hP 0 0 rfl rfl (v := nI N) (by rfl) d_Arrays_copyOf2_2 ?_
  refine lv_icmp_ne (tgt := 14) hx hb d_Arrays_copyOf2_3 (by decide) (fun c9 => ?_) (fun c9 => absurd ((nI_eq (a := M) (b := N) (by omega) (by omega)).mp c9) (by omega))
  have hc9 : ¬ (M = N) := fun q9 => c9 ((nI_eq (a := M) (b := N) (by omega) (by omega)).mpr q9)
  refine tp_pc (pc' := 14) (by rfl) ?_
  refine lv_iload_n hx hb d_Arrays_copyOf2_14 rfl (lv_at hl 1 rfl) ?_
  refine va_newa (atype := .long) (a0 := (M, .inr (.inl (fun _ => 0)))) (N' := M) hx hb (hw _ m_243) rfl hK hP (dd_D hD rfl) hS hA (fun _ => rfl) (nI_pos (by omega)) (nI_clamp (by omega)) (by show M * 8 ≤ 536870912; omega) (Nat.le_of_ble_eq_true rfl) (by show 0 + M ≤ M; omega) d_Arrays_copyOf2_15 ?_
  clear hP hS hK
  intro q kq H1 (hK : va_K (dC, dI) classes [(k0, .long), (kq, .long)] s) (hP : va_P (dC, dI) classes [la h0 k0 N f, la q kq M (fun _ => 0)] H1) hD1 hS
  replace hD : dd A [h0, q] := dd_of hD1 rfl
  clear hD1
  revert H1
  intro H hP hS
  refine W.widen (k := 1) (n := M) (by first | exact Nat.le_refl _ | omega) (by first | exact Nat.le_refl _ | omega) ?_
  refine tp_pc (pc' := 17) (by rfl) ?_
  refine lv_astore_n (lv' := [(2, .ref q), (0, .ref h0), (1, .int (nI M))]) hx hb d_Arrays_copyOf2_17 rfl hl (by decide) rfl ?_
  clear hl ls
  intro ls hl
  refine lv_aload_n hx hb d_Arrays_copyOf2_18 rfl (lv_at hl 1 rfl) ?_
  refine lv_iconst (v := 0) hx hb d_Arrays_copyOf2_19 (by decide) ?_
  refine lv_aload_n hx hb d_Arrays_copyOf2_20 rfl (lv_at hl 0 rfl) ?_
  refine lv_iconst (v := 0) hx hb d_Arrays_copyOf2_21 (by decide) ?_
  refine lv_aload_n hx hb d_Arrays_copyOf2_22 rfl (lv_at hl 1 rfl) ?_
  refine va_alen (D := (dC, dI)) hx hb hK hP 0 0 rfl rfl (v := nI N) (by rfl) d_Arrays_copyOf2_23 ?_
  refine lv_iload_n hx hb d_Arrays_copyOf2_24 rfl (lv_at hl 2 rfl) ?_
  refine va_mmin hx hb (hml.trans hl.1.symm) hown (hw _ m_529) (hw _ m_530) (hw _ m_111) (hw _ m_531) (Nat.le_of_ble_eq_true rfl) (by exact Nat.le_of_ble_eq_true rfl) (by exact Nat.le_refl _) (by exact Nat.le_refl _) d_Arrays_copyOf2_25 ?_
  refine tp_i (y := nI N) (if_neg (nI_nlt (by omega) (by omega))) ?_
  refine tp_pc (pc' := 28) (by rfl) ?_
  refine va_copyl hx hb (hml.trans hl.1.symm) hown (hw _ m_532) (hw _ m_534) (hw _ m_533) (hw _ m_112) hK hP (dd_D hD rfl) hS 0 1 0 1 rfl rfl rfl rfl rfl (sp := 0) (dp := 0) (n := nI N) (by decide) (by decide) (nI_pos (by omega)) (by rw [nI_clamp (by omega)]; show 0 + N ≤ N; omega) (by rw [nI_clamp (by omega)]; show 0 + N ≤ M; omega) (fun i hi => rfl) (Nat.le_of_ble_eq_true rfl) (by exact Nat.le_of_ble_eq_true rfl) d_Arrays_copyOf2_28 ?_
  clear hP hS H
  intro H locs hP _ hS
  rw [nI_clamp (by omega : N < 2 ^ 31)] at hP
  replace hP : va_P (dC, dI) classes [la h0 k0 N f, la q kq M (va_cpy f (fun _ => 0) 0 0 N)] H := hP
  refine tp_pc (pc' := 31) (by rfl) ?_
  refine lv_aload_n hx hb d_Arrays_copyOf2_31 rfl (lv_at hl 0 rfl) ?_
  obtain ⟨hP9, hD9, -⟩ := cut3 (wc := [la h0 k0 N f, la q kq M (va_cpy f (fun _ => 0) 0 0 N)]) hP hD rfl hS hA [0, 1] (by decide +kernel) rfl
  have hK9 := hK.sub (tys' := [(kq, .long)]) [1] rfl
  exact W.aret hx hb hr (by first | exact Or.inl ⟨_, rfl⟩ | exact Or.inr ⟨_, rfl⟩) (Or.inr ⟨_, rfl⟩) (fun t9 ht9 hW => ⟨⟨(), q, rfl, trivial, q, kq, rfl, by rw [ht9]; exact hP9, va_K.moved hW.alike hK9, hD9⟩, hS.F ht9⟩) hS.2.2 d_Arrays_copyOf2_32
set_option maxHeartbeats 4000000 in
set_option maxRecDepth 100000 in
theorem gen_copyOf_int (l : Launch) (dC : Nat → ClassId) (dI : Nat → Nat → Nat) (h0 : Nat) (k0 : ClassId) (N M : Nat) (f : Nat → Int32) (hNM : N < M) (hM : M ≤ 33554432) (sz : Nat) : Met l y_Arrays_copyOf w_Arrays_copyOf ({ frames := 1, cells := 1, slots := M, locals := 48 }) (va_Pc [.ref h0, .int (nI M)] (fun U => U.heap.size = sz ∧ va_P (dC, dI) classes [ia h0 k0 N f] U.heap ∧ va_K (dC, dI) classes [(k0, .int)] U ∧ va_D (fun _ => True) [ia h0 k0 N f] ∧ nw U)) (va_Qr (fun _ : Unit => True) (fun _ a t9 => ∃ (q : Nat) (kq : ClassId), a = q ∧ va_P (dC, dI) classes [ia h0 k0 N f, ia q kq M (va_cpy f (fun _ => 0) 0 0 N)] t9.heap ∧ va_K (dC, dI) classes [(kq, .int)] t9 ∧ va_D (va_A [ia h0 k0 N f] sz) [ia h0 k0 N f, ia q kq M (va_cpy f (fun _ => 0) 0 0 N)]) (va_A [ia h0 k0 N f] sz)) 1 M (va_A [ia h0 k0 N f] sz) := by
  refine Met.ofW (cc := b_Arrays_copyOf) (maxL := 3) (ret := (some (.array .int))) (by decide) rfl ?_
  intro p e0 s m args below meth c s₁ B hml hv
  obtain ⟨rfl, hsz, hP, hK, hD0, hn⟩ := hv
  have hx := B.exec
  have hb := B.bytes
  have hr := B.returns
  have hw := fun w (h : w ∈ wt) => atoms_spec (ws := w_Arrays_copyOf) B.pre w (List.mem_cons_of_mem _ h)
  have hown : s.vm.findClass R_Arrays = some m.cls := findClass_of_methodNamed B.named
  have hlocks := B.notSynchronized
  subst hsz
  have hD1 := hD0.self (sz := s.heap.size)
  generalize hAe : va_A [ia h0 k0 N f] s.heap.size = A at hD1 ⊢
  have hA : ∀ q : Nat, s.heap.size ≤ q → A q := fun q h => by rw [← hAe]; exact Or.inr h
  have hD : dd A [h0] := dd_of hD1 rfl
  clear hAe hD0 hD1
  have hS : va_S A s.heap s.heap [] := va_S.rf
  replace hP : va_P (dC, dI) classes [ia h0 k0 N f] s.heap := hP
  have hl := lv_entry ([.ref h0, .int (nI M)]) (n := 3) (Nat.le_of_ble_eq_true rfl)
  rw [lg_entry_eq]
  generalize (lg_sl ([.ref h0, .int (nI M)]) ++ List.replicate (3 - (lg_sl ([.ref h0, .int (nI M)])).length) Slot.unset).toArray = ls at hl ⊢
  replace hl : lv_has ls 3 [(0, .ref h0), (1, .int (nI M))] := hl
  refine lv_iload_n hx hb d_Arrays_copyOf_0 rfl (lv_at hl 1 rfl) ?_
  refine lv_aload_n hx hb d_Arrays_copyOf_1 rfl (lv_at hl 0 rfl) ?_
  refine va_alen (D := (dC, dI)) hx hb hK hP 0 0 rfl rfl (v := nI N) (by rfl) d_Arrays_copyOf_2 ?_
  refine lv_icmp_ne (tgt := 14) hx hb d_Arrays_copyOf_3 (by decide) (fun c9 => ?_) (fun c9 => absurd ((nI_eq (a := M) (b := N) (by omega) (by omega)).mp c9) (by omega))
  have hc9 : ¬ (M = N) := fun q9 => c9 ((nI_eq (a := M) (b := N) (by omega) (by omega)).mpr q9)
  refine tp_pc (pc' := 14) (by rfl) ?_
  refine lv_iload_n hx hb d_Arrays_copyOf_14 rfl (lv_at hl 1 rfl) ?_
  refine va_newa (atype := .int) (a0 := (M, .inl (fun _ => 0))) (N' := M) hx hb (hw _ m_196) rfl hK hP (dd_D hD rfl) hS hA (fun _ => rfl) (nI_pos (by omega)) (nI_clamp (by omega)) (by show M * 4 ≤ 536870912; omega) (Nat.le_of_ble_eq_true rfl) (by show 0 + M ≤ M; omega) d_Arrays_copyOf_15 ?_
  clear hP hS hK
  intro q kq H1 (hK : va_K (dC, dI) classes [(k0, .int), (kq, .int)] s) (hP : va_P (dC, dI) classes [ia h0 k0 N f, ia q kq M (fun _ => 0)] H1) hD1 hS
  replace hD : dd A [h0, q] := dd_of hD1 rfl
  clear hD1
  revert H1
  intro H hP hS
  refine W.widen (k := 1) (n := M) (by first | exact Nat.le_refl _ | omega) (by first | exact Nat.le_refl _ | omega) ?_
  refine tp_pc (pc' := 17) (by rfl) ?_
  refine lv_astore_n (lv' := [(2, .ref q), (0, .ref h0), (1, .int (nI M))]) hx hb d_Arrays_copyOf_17 rfl hl (by decide) rfl ?_
  clear hl ls
  intro ls hl
  refine lv_aload_n hx hb d_Arrays_copyOf_18 rfl (lv_at hl 1 rfl) ?_
  refine lv_iconst (v := 0) hx hb d_Arrays_copyOf_19 (by decide) ?_
  refine lv_aload_n hx hb d_Arrays_copyOf_20 rfl (lv_at hl 0 rfl) ?_
  refine lv_iconst (v := 0) hx hb d_Arrays_copyOf_21 (by decide) ?_
  refine lv_aload_n hx hb d_Arrays_copyOf_22 rfl (lv_at hl 1 rfl) ?_
  refine va_alen (D := (dC, dI)) hx hb hK hP 0 0 rfl rfl (v := nI N) (by rfl) d_Arrays_copyOf_23 ?_
  refine lv_iload_n hx hb d_Arrays_copyOf_24 rfl (lv_at hl 2 rfl) ?_
  refine va_mmin hx hb (hml.trans hl.1.symm) hown (hw _ m_529) (hw _ m_530) (hw _ m_111) (hw _ m_531) (Nat.le_of_ble_eq_true rfl) (by exact Nat.le_of_ble_eq_true rfl) (by exact Nat.le_refl _) (by exact Nat.le_refl _) d_Arrays_copyOf_25 ?_
  refine tp_i (y := nI N) (if_neg (nI_nlt (by omega) (by omega))) ?_
  refine tp_pc (pc' := 28) (by rfl) ?_
  refine va_copyi hx hb (hml.trans hl.1.symm) hown (hw _ m_532) (hw _ m_534) (hw _ m_533) (hw _ m_112) hK hP (dd_D hD rfl) hS 0 1 0 1 rfl rfl rfl rfl rfl (sp := 0) (dp := 0) (n := nI N) (by decide) (by decide) (nI_pos (by omega)) (by rw [nI_clamp (by omega)]; show 0 + N ≤ N; omega) (by rw [nI_clamp (by omega)]; show 0 + N ≤ M; omega) (fun i hi => rfl) (Nat.le_of_ble_eq_true rfl) (by exact Nat.le_of_ble_eq_true rfl) d_Arrays_copyOf_28 ?_
  clear hP hS H
  intro H locs hP _ hS
  rw [nI_clamp (by omega : N < 2 ^ 31)] at hP
  replace hP : va_P (dC, dI) classes [ia h0 k0 N f, ia q kq M (va_cpy f (fun _ => 0) 0 0 N)] H := hP
  refine tp_pc (pc' := 31) (by rfl) ?_
  refine lv_aload_n hx hb d_Arrays_copyOf_31 rfl (lv_at hl 0 rfl) ?_
  obtain ⟨hP9, hD9, -⟩ := cut3 (wc := [ia h0 k0 N f, ia q kq M (va_cpy f (fun _ => 0) 0 0 N)]) hP hD rfl hS hA [0, 1] (by decide +kernel) rfl
  have hK9 := hK.sub (tys' := [(kq, .int)]) [1] rfl
  exact W.aret hx hb hr (by first | exact Or.inl ⟨_, rfl⟩ | exact Or.inr ⟨_, rfl⟩) (Or.inr ⟨_, rfl⟩) (fun t9 ht9 hW => ⟨⟨(), q, rfl, trivial, q, kq, rfl, by rw [ht9]; exact hP9, va_K.moved hW.alike hK9, hD9⟩, hS.F ht9⟩) hS.2.2 d_Arrays_copyOf_32
