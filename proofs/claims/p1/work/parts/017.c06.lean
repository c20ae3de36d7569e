set_option maxHeartbeats 4000000 in
set_option maxRecDepth 100000 in
theorem c_Arrays_fill_v5 (l : Launch) (dC : Nat → ClassId) (dI : Nat → Nat → Nat) (h0 : Nat) (p0 : Int32) (k0 : ClassId) (f0 : Nat → Int32) (sz : Nat) : Met l y_Arrays_fill w_Arrays_fill ({ frames := 0, cells := 0, slots := 0, locals := 0 }) (va_Pc [.ref h0, .int p0] (fun U => U.heap.size = sz ∧ va_P (dC, dI) classes [ia h0 k0 7 f0] U.heap ∧ va_K (dC, dI) classes [(k0, .int)] U ∧ va_D (fun _ => True) [ia h0 k0 7 f0] ∧ nw U)) (va_Qv (fun _ : Unit => True) (fun _ t => va_P (dC, dI) classes [ia h0 k0 7 (upd (upd (upd (upd (upd (upd (upd f0 0 p0) 1 p0) 2 p0) 3 p0) 4 p0) 5 p0) 6 p0)] t.heap ∧ va_K (dC, dI) classes [] t ∧ va_D (va_A [ia h0 k0 7 f0] sz) [ia h0 k0 7 (upd (upd (upd (upd (upd (upd (upd f0 0 p0) 1 p0) 2 p0) 3 p0) 4 p0) 5 p0) 6 p0)]) (va_A [ia h0 k0 7 f0] sz)) 0 0 (va_A [ia h0 k0 7 f0] sz) := by
  refine Met.ofW (cc := b_Arrays_fill) (maxL := 4) (ret := none) (by decide) rfl ?_
  intro p e s m args below meth c s₁ B hml hv
  obtain ⟨rfl, hsz, hP, hK, hD0, hn⟩ := hv
  have hx := B.exec
  have hb := B.bytes
  have hr := B.returns
  have hw := fun w (h : w ∈ wt) => atoms_spec (ws := w_Arrays_fill) B.pre w (List.mem_cons_of_mem _ h)
  have hown : s.vm.findClass R_Arrays = some m.cls := findClass_of_methodNamed B.named
  have hlocks := B.notSynchronized
  subst hsz
  have hD1 := hD0.self (sz := s.heap.size)
  generalize hAe : va_A [ia h0 k0 7 f0] s.heap.size = A at hD1 ⊢
  have hA : ∀ q : Nat, s.heap.size ≤ q → A q := fun q h => by rw [← hAe]; exact Or.inr h
  have hD : dd A [h0] := dd_of hD1 rfl
  clear hAe hD0 hD1
  have hS : va_S A s.heap s.heap [] := va_S.rf
  replace hP : va_P (dC, dI) classes [ia h0 k0 7 f0] s.heap := hP
  have hl := lv_entry ([.ref h0, .int p0]) (n := 4) (Nat.le_of_ble_eq_true rfl)
  rw [lg_entry_eq]
  generalize (lg_sl ([.ref h0, .int p0]) ++ List.replicate (4 - (lg_sl ([.ref h0, .int p0])).length) Slot.unset).toArray = ls at hl ⊢
  replace hl : lv_has ls 4 [(0, .ref h0), (1, .int p0)] := hl
  refine lv_iconst (v := 0) hx hb d_Arrays_fill_0 (by decide) ?_
  refine lv_istore_n (lv' := [(2, .int 0), (0, .ref h0), (1, .int p0)]) hx hb d_Arrays_fill_1 rfl hl (by decide) rfl ?_
  clear hl ls
  intro ls hl
  refine lv_aload_n hx hb d_Arrays_fill_2 rfl (lv_at hl 1 rfl) ?_
  refine va_alen (D := (dC, dI)) hx hb hK hP 0 0 rfl rfl (v := 7) (by rfl) d_Arrays_fill_3 ?_
  refine lv_istore_n (lv' := [(3, .int 7), (2, .int 0), (0, .ref h0), (1, .int p0)]) hx hb d_Arrays_fill_4 rfl hl (by decide) rfl ?_
  clear hl ls
  intro ls hl
  refine lv_iload_n hx hb d_Arrays_fill_5 rfl (lv_at hl 1 rfl) ?_
  refine lv_iload_n hx hb d_Arrays_fill_6 rfl (lv_at hl 0 rfl) ?_
  refine lv_icmp_ge (tgt := 20) hx hb d_Arrays_fill_7 (by decide) (fun c_1 => absurd c_1 (by decide)) (fun c_1 => ?_)
  refine tp_pc (pc' := 10) (by rfl) ?_
  refine lv_aload_n hx hb d_Arrays_fill_10 rfl (lv_at hl 2 rfl) ?_
  refine lv_iload_n hx hb d_Arrays_fill_11 rfl (lv_at hl 1 rfl) ?_
  refine lv_iload_n hx hb d_Arrays_fill_12 rfl (lv_at hl 3 rfl) ?_
  refine va_iast (D := (dC, dI)) hx hb hK hP (dd_D hD rfl) hS 0 0 rfl rfl (i := 0) (x := p0) (vp_c (by decide)) d_Arrays_fill_13 ?_
  clear hP hS
  intro H locs (hP : va_P (dC, dI) classes [ia h0 k0 7 (upd f0 0 p0)] H) _ hS
  refine tp_pc (pc' := 14) (by rfl) ?_
  refine lv_iinc (v := 1) (lv' := [(2, .int 1), (3, .int 7), (0, .ref h0), (1, .int p0)]) hx hb d_Arrays_fill_14 hl (k := 1) rfl (by first | rfl | decide) (by decide) rfl ?_
  clear hl ls
  intro ls hl
  refine lv_goto (tgt := 5) hx hb d_Arrays_fill_17 (by decide) ?_
  refine tp_pc (pc' := 5) (by rfl) ?_
  refine lv_iload_n hx hb d_Arrays_fill_5 rfl (lv_at hl 0 rfl) ?_
  refine lv_iload_n hx hb d_Arrays_fill_6 rfl (lv_at hl 1 rfl) ?_
  refine lv_icmp_ge (tgt := 20) hx hb d_Arrays_fill_7 (by decide) (fun c_2 => absurd c_2 (by decide)) (fun c_2 => ?_)
  refine tp_pc (pc' := 10) (by rfl) ?_
  refine lv_aload_n hx hb d_Arrays_fill_10 rfl (lv_at hl 2 rfl) ?_
  refine lv_iload_n hx hb d_Arrays_fill_11 rfl (lv_at hl 0 rfl) ?_
  refine lv_iload_n hx hb d_Arrays_fill_12 rfl (lv_at hl 3 rfl) ?_
  refine va_iast (D := (dC, dI)) hx hb hK hP (dd_D hD rfl) hS 0 0 rfl rfl (i := 1) (x := p0) (vp_c (by decide)) d_Arrays_fill_13 ?_
  clear hP hS locs H
  intro H locs (hP : va_P (dC, dI) classes [ia h0 k0 7 (upd (upd f0 0 p0) 1 p0)] H) _ hS
  refine tp_pc (pc' := 14) (by rfl) ?_
  refine lv_iinc (v := 2) (lv' := [(2, .int 2), (3, .int 7), (0, .ref h0), (1, .int p0)]) hx hb d_Arrays_fill_14 hl (k := 0) rfl (by first | rfl | decide) (by decide) rfl ?_
  clear hl ls
  intro ls hl
  refine lv_goto (tgt := 5) hx hb d_Arrays_fill_17 (by decide) ?_
  refine tp_pc (pc' := 5) (by rfl) ?_
  refine lv_iload_n hx hb d_Arrays_fill_5 rfl (lv_at hl 0 rfl) ?_
  refine lv_iload_n hx hb d_Arrays_fill_6 rfl (lv_at hl 1 rfl) ?_
  refine lv_icmp_ge (tgt := 20) hx hb d_Arrays_fill_7 (by decide) (fun c_3 => absurd c_3 (by decide)) (fun c_3 => ?_)
  refine tp_pc (pc' := 10) (by rfl) ?_
  refine lv_aload_n hx hb d_Arrays_fill_10 rfl (lv_at hl 2 rfl) ?_
  refine lv_iload_n hx hb d_Arrays_fill_11 rfl (lv_at hl 0 rfl) ?_
  refine lv_iload_n hx hb d_Arrays_fill_12 rfl (lv_at hl 3 rfl) ?_
  refine va_iast (D := (dC, dI)) hx hb hK hP (dd_D hD rfl) hS 0 0 rfl rfl (i := 2) (x := p0) (vp_c (by decide)) d_Arrays_fill_13 ?_
  clear hP hS locs H
  intro H locs (hP : va_P (dC, dI) classes [ia h0 k0 7 (upd (upd (upd f0 0 p0) 1 p0) 2 p0)] H) _ hS
  refine tp_pc (pc' := 14) (by rfl) ?_
  refine lv_iinc (v := 3) (lv' := [(2, .int 3), (3, .int 7), (0, .ref h0), (1, .int p0)]) hx hb d_Arrays_fill_14 hl (k := 0) rfl (by first | rfl | decide) (by decide) rfl ?_
  clear hl ls
  intro ls hl
  refine lv_goto (tgt := 5) hx hb d_Arrays_fill_17 (by decide) ?_
  refine tp_pc (pc' := 5) (by rfl) ?_
  refine lv_iload_n hx hb d_Arrays_fill_5 rfl (lv_at hl 0 rfl) ?_
  refine lv_iload_n hx hb d_Arrays_fill_6 rfl (lv_at hl 1 rfl) ?_
  refine lv_icmp_ge (tgt := 20) hx hb d_Arrays_fill_7 (by decide) (fun c_4 => absurd c_4 (by decide)) (fun c_4 => ?_)
  refine tp_pc (pc' := 10) (by rfl) ?_
  refine lv_aload_n hx hb d_Arrays_fill_10 rfl (lv_at hl 2 rfl) ?_
  refine lv_iload_n hx hb d_Arrays_fill_11 rfl (lv_at hl 0 rfl) ?_
  refine lv_iload_n hx hb d_Arrays_fill_12 rfl (lv_at hl 3 rfl) ?_
  refine va_iast (D := (dC, dI)) hx hb hK hP (dd_D hD rfl) hS 0 0 rfl rfl (i := 3) (x := p0) (vp_c (by decide)) d_Arrays_fill_13 ?_
  clear hP hS locs H
  intro H locs (hP : va_P (dC, dI) classes [ia h0 k0 7 (upd (upd (upd (upd f0 0 p0) 1 p0) 2 p0) 3 p0)] H) _ hS
  refine tp_pc (pc' := 14) (by rfl) ?_
  refine lv_iinc (v := 4) (lv' := [(2, .int 4), (3, .int 7), (0, .ref h0), (1, .int p0)]) hx hb d_Arrays_fill_14 hl (k := 0) rfl (by first | rfl | decide) (by decide) rfl ?_
  clear hl ls
  intro ls hl
  refine lv_goto (tgt := 5) hx hb d_Arrays_fill_17 (by decide) ?_
  refine tp_pc (pc' := 5) (by rfl) ?_
  refine lv_iload_n hx hb d_Arrays_fill_5 rfl (lv_at hl 0 rfl) ?_
  refine lv_iload_n hx hb d_Arrays_fill_6 rfl (lv_at hl 1 rfl) ?_
  refine lv_icmp_ge (tgt := 20) hx hb d_Arrays_fill_7 (by decide) (fun c_5 => absurd c_5 (by decide)) (fun c_5 => ?_)
  refine tp_pc (pc' := 10) (by rfl) ?_
  refine lv_aload_n hx hb d_Arrays_fill_10 rfl (lv_at hl 2 rfl) ?_
  refine lv_iload_n hx hb d_Arrays_fill_11 rfl (lv_at hl 0 rfl) ?_
  refine lv_iload_n hx hb d_Arrays_fill_12 rfl (lv_at hl 3 rfl) ?_
  refine va_iast (D := (dC, dI)) hx hb hK hP (dd_D hD rfl) hS 0 0 rfl rfl (i := 4) (x := p0) (vp_c (by decide)) d_Arrays_fill_13 ?_
  clear hP hS locs H
  intro H locs (hP : va_P (dC, dI) classes [ia h0 k0 7 (upd (upd (upd (upd (upd f0 0 p0) 1 p0) 2 p0) 3 p0) 4 p0)] H) _ hS
  refine tp_pc (pc' := 14) (by rfl) ?_
  refine lv_iinc (v := 5) (lv' := [(2, .int 5), (3, .int 7), (0, .ref h0), (1, .int p0)]) hx hb d_Arrays_fill_14 hl (k := 0) rfl (by first | rfl | decide) (by decide) rfl ?_
  clear hl ls
  intro ls hl
  refine lv_goto (tgt := 5) hx hb d_Arrays_fill_17 (by decide) ?_
  refine tp_pc (pc' := 5) (by rfl) ?_
  refine lv_iload_n hx hb d_Arrays_fill_5 rfl (lv_at hl 0 rfl) ?_
  refine lv_iload_n hx hb d_Arrays_fill_6 rfl (lv_at hl 1 rfl) ?_
  refine lv_icmp_ge (tgt := 20) hx hb d_Arrays_fill_7 (by decide) (fun c_6 => absurd c_6 (by decide)) (fun c_6 => ?_)
  refine tp_pc (pc' := 10) (by rfl) ?_
  refine lv_aload_n hx hb d_Arrays_fill_10 rfl (lv_at hl 2 rfl) ?_
  refine lv_iload_n hx hb d_Arrays_fill_11 rfl (lv_at hl 0 rfl) ?_
  refine lv_iload_n hx hb d_Arrays_fill_12 rfl (lv_at hl 3 rfl) ?_
  refine va_iast (D := (dC, dI)) hx hb hK hP (dd_D hD rfl) hS 0 0 rfl rfl (i := 5) (x := p0) (vp_c (by decide)) d_Arrays_fill_13 ?_
  clear hP hS locs H
  intro H locs (hP : va_P (dC, dI) classes [ia h0 k0 7 (upd (upd (upd (upd (upd (upd f0 0 p0) 1 p0) 2 p0) 3 p0) 4 p0) 5 p0)] H) _ hS
  refine tp_pc (pc' := 14) (by rfl) ?_
  refine lv_iinc (v := 6) (lv' := [(2, .int 6), (3, .int 7), (0, .ref h0), (1, .int p0)]) hx hb d_Arrays_fill_14 hl (k := 0) rfl (by first | rfl | decide) (by decide) rfl ?_
  clear hl ls
  intro ls hl
  refine lv_goto (tgt := 5) hx hb d_Arrays_fill_17 (by decide) ?_
  refine tp_pc (pc' := 5) (by rfl) ?_
  refine lv_iload_n hx hb d_Arrays_fill_5 rfl (lv_at hl 0 rfl) ?_
  refine lv_iload_n hx hb d_Arrays_fill_6 rfl (lv_at hl 1 rfl) ?_
  refine lv_icmp_ge (tgt := 20) hx hb d_Arrays_fill_7 (by decide) (fun c_7 => absurd c_7 (by decide)) (fun c_7 => ?_)
  refine tp_pc (pc' := 10) (by rfl) ?_
  refine lv_aload_n hx hb d_Arrays_fill_10 rfl (lv_at hl 2 rfl) ?_
  refine lv_iload_n hx hb d_Arrays_fill_11 rfl (lv_at hl 0 rfl) ?_
  refine lv_iload_n hx hb d_Arrays_fill_12 rfl (lv_at hl 3 rfl) ?_
  refine va_iast (D := (dC, dI)) hx hb hK hP (dd_D hD rfl) hS 0 0 rfl rfl (i := 6) (x := p0) (vp_c (by decide)) d_Arrays_fill_13 ?_
  clear hP hS locs H
  intro H locs (hP : va_P (dC, dI) classes [ia h0 k0 7 (upd (upd (upd (upd (upd (upd (upd f0 0 p0) 1 p0) 2 p0) 3 p0) 4 p0) 5 p0) 6 p0)] H) _ hS
  refine tp_pc (pc' := 14) (by rfl) ?_
  refine lv_iinc (v := 7) (lv' := [(2, .int 7), (3, .int 7), (0, .ref h0), (1, .int p0)]) hx hb d_Arrays_fill_14 hl (k := 0) rfl (by first | rfl | decide) (by decide) rfl ?_
  clear hl ls
  intro ls hl
  refine lv_goto (tgt := 5) hx hb d_Arrays_fill_17 (by decide) ?_
  refine tp_pc (pc' := 5) (by rfl) ?_
  refine lv_iload_n hx hb d_Arrays_fill_5 rfl (lv_at hl 0 rfl) ?_
  refine lv_iload_n hx hb d_Arrays_fill_6 rfl (lv_at hl 1 rfl) ?_
  refine lv_icmp_ge (tgt := 20) hx hb d_Arrays_fill_7 (by decide) (fun c_8 => ?_) (fun c_8 => absurd c_8 (by decide))
  refine tp_pc (pc' := 20) (by rfl) ?_
  obtain ⟨hP9, hD9, -⟩ := cut3 (wc := [ia h0 k0 7 (upd (upd (upd (upd (upd (upd (upd f0 0 p0) 1 p0) 2 p0) 3 p0) 4 p0) 5 p0) 6 p0)]) hP hD rfl hS hA [0] (by decide +kernel) rfl
  have hK9 := hK.sub (tys' := []) [] rfl
  refine W.widen (k := 0) (n := 0) (by exact Nat.le_of_ble_eq_true rfl) (by exact Nat.le_of_ble_eq_true rfl) ?_
  exact W.vret hx hb hr (fun t ht hW => ⟨⟨(), rfl, trivial, by rw [ht]; exact hP9, va_K.moved hW.alike hK9, hD9⟩, hS.F ht⟩) hS.2.2 d_Arrays_fill_20
set_option maxHeartbeats 4000000 in
set_option maxRecDepth 100000 in
theorem c_Progress_key (l : Launch) (dC : Nat → ClassId) (dI : Nat → Nat → Nat) (h0 : Nat) (h1 : Nat) (h2 : Nat) (h3 : Nat) (h4 : Nat) (p1 : Int64) (sz : Nat) : Met l y_Progress_key w_Progress_key ({ frames := 0, cells := 0, slots := 0, locals := 0 }) (va_Pc [.ref h0] (fun U => U.heap.size = sz ∧ va_P (dC, dI) classes [oc h0 1 [.ref h1, .ref h2, .ref h3, .ref h4, .int 0, .long p1]] U.heap ∧ va_K (dC, dI) classes [] U ∧ va_D (fun _ => True) [oc h0 1 [.ref h1, .ref h2, .ref h3, .ref h4, .int 0, .long p1]] ∧ nw U)) (va_Ql (fun (r : Int64) (_ : Unit) => r = ((p1 <<< ((7 : Int32).toInt64 &&& 63)) ||| 0)) (fun _ t => va_P (dC, dI) classes [oc h0 1 [.ref h1, .ref h2, .ref h3, .ref h4, .int 0, .long p1]] t.heap ∧ va_K (dC, dI) classes [] t ∧ va_D (va_A [oc h0 1 [.ref h1, .ref h2, .ref h3, .ref h4, .int 0, .long p1]] sz) [oc h0 1 [.ref h1, .ref h2, .ref h3, .ref h4, .int 0, .long p1]]) (va_A [oc h0 1 [.ref h1, .ref h2, .ref h3, .ref h4, .int 0, .long p1]] sz)) 0 0 (va_A [oc h0 1 [.ref h1, .ref h2, .ref h3, .ref h4, .int 0, .long p1]] sz) := by
  refine Met.ofW (cc := b_Progress_key) (maxL := 1) (ret := (some .long)) (by decide) rfl ?_
  intro p e s m args below meth c s₁ B hml hv
  obtain ⟨rfl, hsz, hP, hK, hD0, hn⟩ := hv
  have hx := B.exec
  have hb := B.bytes
  have hr := B.returns
  have hw := fun w (h : w ∈ wt) => atoms_spec (ws := w_Progress_key) B.pre w (List.mem_cons_of_mem _ h)
  have hown : s.vm.findClass R_Progress = some m.cls := findClass_of_methodNamed B.named
  have hlocks := B.notSynchronized
  subst hsz
  have hD1 := hD0.self (sz := s.heap.size)
  generalize hAe : va_A [oc h0 1 [.ref h1, .ref h2, .ref h3, .ref h4, .int 0, .long p1]] s.heap.size = A at hD1 ⊢
  have hA : ∀ q : Nat, s.heap.size ≤ q → A q := fun q h => by rw [← hAe]; exact Or.inr h
  have hD : dd A [h0] := dd_of hD1 rfl
  clear hAe hD0 hD1
  have hS : va_S A s.heap s.heap [] := va_S.rf
  replace hP : va_P (dC, dI) classes [oc h0 1 [.ref h1, .ref h2, .ref h3, .ref h4, .int 0, .long p1]] s.heap := hP
  have hl := lv_entry ([.ref h0]) (n := 1) (Nat.le_of_ble_eq_true rfl)
  rw [lg_entry_eq]
  generalize (lg_sl ([.ref h0]) ++ List.replicate (1 - (lg_sl ([.ref h0])).length) Slot.unset).toArray = ls at hl ⊢
  replace hl : lv_has ls 1 [(0, .ref h0)] := hl
  refine lv_aload_n hx hb d_Progress_key_0 rfl (lv_at hl 0 rfl) ?_
  refine va_get (D := (dC, dI)) (ci := 1) (v := .long p1) (C := R_Progress) (T := F_Progress) (N := 6) hx hb hw i_Progress hown hK hP 0 rfl rfl 5 (by decide) (hw _ m_210) (fun _ h9 => h9) rfl d_Progress_key_1 ?_
  refine lv_bipush (v := 7) hx hb d_Progress_key_4 (by decide) ?_
  refine lv_lshl (v := p1 <<< ((7 : Int32).toInt64 &&& 63)) hx hb d_Progress_key_6 (by first | rfl | decide) ?_
  refine lv_aload_n hx hb d_Progress_key_7 rfl (lv_at hl 0 rfl) ?_
  refine va_get (D := (dC, dI)) (ci := 1) (v := .int 0) (C := R_Progress) (T := F_Progress) (N := 6) hx hb hw i_Progress hown hK hP 0 rfl rfl 4 (by decide) (hw _ m_208) (fun _ h9 => h9) rfl d_Progress_key_8 ?_
  refine lv_i2l (v := 0) hx hb d_Progress_key_11 (by decide) ?_
  refine lv_lor hx hb d_Progress_key_12 ?_
  refine tp_l (y := (p1 <<< ((7 : Int32).toInt64 &&& 63)) ||| 0) (by first | rfl | decide) ?_
  obtain ⟨hP9, hD9, -⟩ := cut3 (wc := [oc h0 1 [.ref h1, .ref h2, .ref h3, .ref h4, .int 0, .long p1]]) hP hD rfl hS hA [0] (by decide +kernel) rfl
  have hK9 := hK.sub (tys' := []) [] rfl
  refine W.widen (k := 0) (n := 0) (by exact Nat.le_of_ble_eq_true rfl) (by exact Nat.le_of_ble_eq_true rfl) ?_
  exact W.lret (v := ((p1 <<< ((7 : Int32).toInt64 &&& 63)) ||| 0)) hx hb hr (fun t ht hW => ⟨⟨(p1 <<< ((7 : Int32).toInt64 &&& 63)) ||| 0, (), rfl, rfl, by rw [ht]; exact hP9, va_K.moved hW.alike hK9, hD9⟩, hS.F ht⟩) hS.2.2 d_Progress_key_13
set_option maxHeartbeats 4000000 in
set_option maxRecDepth 100000 in
theorem c_StateSet_slotOf (l : Launch) (dC : Nat → ClassId) (dI : Nat → Nat → Nat) (h0 : Nat) (h1 : Nat) (h2 : Nat) (p1 : Int32) (k1 : ClassId) (sz : Nat) : Met l y_StateSet_slotOf w_StateSet_slotOf ({ frames := 0, cells := 0, slots := 0, locals := 0 }) (va_Pc [.ref h0, .long 0] (fun U => U.heap.size = sz ∧ va_P (dC, dI) classes [oc h0 2 [.ref h1, .ref h2, .int p1, .int 256], ia h2 k1 256 (fun _ => 0)] U.heap ∧ va_K (dC, dI) classes [(k1, .int)] U ∧ va_D (fun _ => True) [oc h0 2 [.ref h1, .ref h2, .int p1, .int 256], ia h2 k1 256 (fun _ => 0)] ∧ nw U)) (va_Qi (fun (r : Int32) (_ : Unit) => r = 0) (fun _ t => va_P (dC, dI) classes [oc h0 2 [.ref h1, .ref h2, .int p1, .int 256], ia h2 k1 256 (fun _ => 0)] t.heap ∧ va_K (dC, dI) classes [] t ∧ va_D (va_A [oc h0 2 [.ref h1, .ref h2, .int p1, .int 256], ia h2 k1 256 (fun _ => 0)] sz) [oc h0 2 [.ref h1, .ref h2, .int p1, .int 256], ia h2 k1 256 (fun _ => 0)]) (va_A [oc h0 2 [.ref h1, .ref h2, .int p1, .int 256], ia h2 k1 256 (fun _ => 0)] sz)) 0 0 (va_A [oc h0 2 [.ref h1, .ref h2, .int p1, .int 256], ia h2 k1 256 (fun _ => 0)] sz) := by
  refine Met.ofW (cc := b_StateSet_slotOf) (maxL := 6) (ret := (some .int)) (by decide) rfl ?_
  intro p e s m args below meth c s₁ B hml hv
  obtain ⟨rfl, hsz, hP, hK, hD0, hn⟩ := hv
  have hx := B.exec
  have hb := B.bytes
  have hr := B.returns
  have hw := fun w (h : w ∈ wt) => atoms_spec (ws := w_StateSet_slotOf) B.pre w (List.mem_cons_of_mem _ h)
  have hown : s.vm.findClass R_StateSet = some m.cls := findClass_of_methodNamed B.named
  have hlocks := B.notSynchronized
  subst hsz
  have hD1 := hD0.self (sz := s.heap.size)
  generalize hAe : va_A [oc h0 2 [.ref h1, .ref h2, .int p1, .int 256], ia h2 k1 256 (fun _ => 0)] s.heap.size = A at hD1 ⊢
  have hA : ∀ q : Nat, s.heap.size ≤ q → A q := fun q h => by rw [← hAe]; exact Or.inr h
  have hD : dd A [h0, h2] := dd_of hD1 rfl
  clear hAe hD0 hD1
  have hS : va_S A s.heap s.heap [] := va_S.rf
  replace hP : va_P (dC, dI) classes [oc h0 2 [.ref h1, .ref h2, .int p1, .int 256], ia h2 k1 256 (fun _ => 0)] s.heap := hP
  have hl := lv_entry ([.ref h0, .long 0]) (n := 6) (Nat.le_of_ble_eq_true rfl)
  rw [lg_entry_eq]
  generalize (lg_sl ([.ref h0, .long 0]) ++ List.replicate (6 - (lg_sl ([.ref h0, .long 0])).length) Slot.unset).toArray = ls at hl ⊢
  replace hl : lv_has ls 6 [(0, .ref h0), (1, .long 0)] := hl
  refine lv_lload_n hx hb d_StateSet_slotOf_0 rfl (lv_at hl 1 rfl) ?_
  refine lv_ldc2 hx hb hown (hw _ m_492) d_StateSet_slotOf_1 ?_
  refine lv_lmul hx hb d_StateSet_slotOf_4 ?_
  refine tp_l (y := 0) (by first | rfl | decide) ?_
  refine lv_bipush (v := 40) hx hb d_StateSet_slotOf_5 (by decide) ?_
  refine lv_lushr (v := 0) hx hb d_StateSet_slotOf_7 (by first | rfl | decide) ?_
  refine lv_l2i (v := 0) hx hb d_StateSet_slotOf_8 (by decide) ?_
  refine lv_aload_n hx hb d_StateSet_slotOf_9 rfl (lv_at hl 0 rfl) ?_
  refine va_get (D := (dC, dI)) (ci := 2) (v := .int 256) (C := R_StateSet) (T := F_StateSet) (N := 4) hx hb hw i_StateSet hown hK hP 0 rfl rfl 3 (by decide) (hw _ m_233) (fun _ h9 => h9) rfl d_StateSet_slotOf_10 ?_
  refine lv_iconst (v := 1) hx hb d_StateSet_slotOf_13 (by decide) ?_
  refine lv_isub hx hb d_StateSet_slotOf_14 ?_
  refine tp_i (y := 255) (by first | rfl | decide) ?_
  refine lv_iand hx hb d_StateSet_slotOf_15 ?_
  refine tp_i (y := 0) (by first | rfl | decide) ?_
  refine lv_istore_n (lv' := [(3, .int 0), (0, .ref h0), (1, .long 0)]) hx hb d_StateSet_slotOf_16 rfl hl (by decide) rfl ?_
  clear hl ls
  intro ls hl
  refine lv_iconst (v := 0) hx hb d_StateSet_slotOf_17 (by decide) ?_
  refine lv_istore (lv' := [(4, .int 0), (3, .int 0), (0, .ref h0), (1, .long 0)]) hx hb d_StateSet_slotOf_18 hl (by decide) rfl ?_
  clear hl ls
  intro ls hl
  refine lv_iload hx hb d_StateSet_slotOf_20 (lv_at hl 0 rfl) ?_
  refine lv_aload_n hx hb d_StateSet_slotOf_22 rfl (lv_at hl 2 rfl) ?_
  refine va_get (D := (dC, dI)) (ci := 2) (v := .int 256) (C := R_StateSet) (T := F_StateSet) (N := 4) hx hb hw i_StateSet hown hK hP 0 rfl rfl 3 (by decide) (hw _ m_233) (fun _ h9 => h9) rfl d_StateSet_slotOf_23 ?_
  refine lv_icmp_ge (tgt := 75) hx hb d_StateSet_slotOf_26 (by decide) (fun c_1 => absurd c_1 (by decide)) (fun c_1 => ?_)
  refine tp_pc (pc' := 29) (by rfl) ?_
  refine lv_aload_n hx hb d_StateSet_slotOf_29 rfl (lv_at hl 2 rfl) ?_
  refine va_get (D := (dC, dI)) (ci := 2) (v := .ref h2) (C := R_StateSet) (T := F_StateSet) (N := 4) hx hb hw i_StateSet hown hK hP 0 rfl rfl 1 (by decide) (hw _ m_231) (fun _ h9 => h9) rfl d_StateSet_slotOf_30 ?_
  refine lv_iload_n hx hb d_StateSet_slotOf_33 rfl (lv_at hl 1 rfl) ?_
  refine va_iald (D := (dC, dI)) hx hb hK hP 1 0 rfl rfl (i := 0) (vp_c (by decide)) d_StateSet_slotOf_34 ?_
  refine tp_i (y := 0) (by first | rfl | decide) ?_
  refine lv_istore (lv' := [(5, .int 0), (4, .int 0), (3, .int 0), (0, .ref h0), (1, .long 0)]) hx hb d_StateSet_slotOf_35 hl (by decide) rfl ?_
  clear hl ls
  intro ls hl
  refine lv_iload hx hb d_StateSet_slotOf_37 (lv_at hl 0 rfl) ?_
  refine lv_if_eq (tgt := 56) hx hb d_StateSet_slotOf_39 (by decide) (fun c_2 => ?_) (fun c_2 => absurd c_2 (by decide))
  refine tp_pc (pc' := 56) (by rfl) ?_
  refine lv_iload_n hx hb d_StateSet_slotOf_56 rfl (lv_at hl 2 rfl) ?_
  obtain ⟨hP9, hD9, -⟩ := cut3 (wc := [oc h0 2 [.ref h1, .ref h2, .int p1, .int 256], ia h2 k1 256 (fun _ => 0)]) hP hD rfl hS hA [0, 1] (by decide +kernel) rfl
  have hK9 := hK.sub (tys' := []) [] rfl
  refine W.widen (k := 0) (n := 0) (by exact Nat.le_of_ble_eq_true rfl) (by exact Nat.le_of_ble_eq_true rfl) ?_
  exact W.iret (v := 0) hx hb hr (fun t ht hW => ⟨⟨0, (), rfl, rfl, by rw [ht]; exact hP9, va_K.moved hW.alike hK9, hD9⟩, hS.F ht⟩) hS.2.2 d_StateSet_slotOf_57
set_option maxHeartbeats 4000000 in
set_option maxRecDepth 100000 in
theorem c_Arrays_copyOf2 (l : Launch) (dC : Nat → ClassId) (dI : Nat → Nat → Nat) (h0 : Nat) (k0 : ClassId) (f0 : Nat → Int64) (sz : Nat) : Met l y_Arrays_copyOf2 w_Arrays_copyOf2 ({ frames := 1, cells := 1, slots := 256, locals := 48 }) (va_Pc [.ref h0, .int 256] (fun U => U.heap.size = sz ∧ va_P (dC, dI) classes [la h0 k0 0 f0] U.heap ∧ va_K (dC, dI) classes [(k0, .long)] U ∧ va_D (fun _ => True) [la h0 k0 0 f0] ∧ nw U)) (va_Qr (fun _ : Unit => True) (fun _ a t => ∃ (q_2 : Nat) (k_3 : ClassId), a = q_2 ∧ va_P (dC, dI) classes [la h0 k0 0 f0, la q_2 k_3 256 (fun _ => 0)] t.heap ∧ va_K (dC, dI) classes [(k_3, .long)] t ∧ va_D (va_A [la h0 k0 0 f0] sz) [la h0 k0 0 f0, la q_2 k_3 256 (fun _ => 0)]) (va_A [la h0 k0 0 f0] sz)) 1 256 (va_A [la h0 k0 0 f0] sz) := by
  refine Met.ofW (cc := b_Arrays_copyOf2) (maxL := 3) (ret := (some (.array .long))) (by decide) rfl ?_
  intro p e s m args below meth c s₁ B hml hv
  obtain ⟨rfl, hsz, hP, hK, hD0, hn⟩ := hv
  have hx := B.exec
  have hb := B.bytes
  have hr := B.returns
  have hw := fun w (h : w ∈ wt) => atoms_spec (ws := w_Arrays_copyOf2) B.pre w (List.mem_cons_of_mem _ h)
  have hown : s.vm.findClass R_Arrays = some m.cls := findClass_of_methodNamed B.named
  have hlocks := B.notSynchronized
  subst hsz
  have hD1 := hD0.self (sz := s.heap.size)
  generalize hAe : va_A [la h0 k0 0 f0] s.heap.size = A at hD1 ⊢
  have hA : ∀ q : Nat, s.heap.size ≤ q → A q := fun q h => by rw [← hAe]; exact Or.inr h
  have hD : dd A [h0] := dd_of hD1 rfl
  clear hAe hD0 hD1
  have hS : va_S A s.heap s.heap [] := va_S.rf
  replace hP : va_P (dC, dI) classes [la h0 k0 0 f0] s.heap := hP
  have hl := lv_entry ([.ref h0, .int 256]) (n := 3) (Nat.le_of_ble_eq_true rfl)
  rw [lg_entry_eq]
  generalize (lg_sl ([.ref h0, .int 256]) ++ List.replicate (3 - (lg_sl ([.ref h0, .int 256])).length) Slot.unset).toArray = ls at hl ⊢
  replace hl : lv_has ls 3 [(0, .ref h0), (1, .int 256)] := hl
  refine lv_iload_n hx hb d_Arrays_copyOf2_0 rfl (lv_at hl 1 rfl) ?_
  refine lv_aload_n hx hb d_Arrays_copyOf2_1 rfl (lv_at hl 0 rfl) ?_
  refine va_alen (D := (dC, dI)) hx hb hK hP 0 0 rfl rfl (v := 0) (by rfl) d_Arrays_copyOf2_2 ?_
  refine lv_icmp_ne (tgt := 14) hx hb d_Arrays_copyOf2_3 (by decide) (fun c_1 => ?_) (fun c_1 => absurd c_1 (by decide))
  refine tp_pc (pc' := 14) (by rfl) ?_
  refine lv_iload_n hx hb d_Arrays_copyOf2_14 rfl (lv_at hl 1 rfl) ?_
  refine va_newa (atype := .long) (a0 := (256, .inr (.inl (fun _ => 0)))) (N' := 256) hx hb (hw _ m_243) rfl hK hP (dd_D hD rfl) hS hA (fun _ => rfl) (by decide) (by decide) (Nat.le_of_ble_eq_true rfl) (Nat.le_of_ble_eq_true rfl) (Nat.le_of_ble_eq_true rfl) d_Arrays_copyOf2_15 ?_
  clear hP hS hK
  intro q_2 k_3 H1 (hK : va_K (dC, dI) classes [(k0, .long), (k_3, .long)] s) (hP : va_P (dC, dI) classes [la h0 k0 0 f0, la q_2 k_3 256 (fun _ => 0)] H1) hD1 hS
  replace hD : dd A [h0, q_2] := dd_of hD1 rfl
  clear hD1
  revert H1
  intro H hP hS
  refine W.widen (k := 1) (n := 256) (by exact Nat.le_of_ble_eq_true rfl) (by exact Nat.le_of_ble_eq_true rfl) ?_
  refine tp_pc (pc' := 17) (by rfl) ?_
  refine lv_astore_n (lv' := [(2, .ref q_2), (0, .ref h0), (1, .int 256)]) hx hb d_Arrays_copyOf2_17 rfl hl (by decide) rfl ?_
  clear hl ls
  intro ls hl
  refine lv_aload_n hx hb d_Arrays_copyOf2_18 rfl (lv_at hl 1 rfl) ?_
  refine lv_iconst (v := 0) hx hb d_Arrays_copyOf2_19 (by decide) ?_
  refine lv_aload_n hx hb d_Arrays_copyOf2_20 rfl (lv_at hl 0 rfl) ?_
  refine lv_iconst (v := 0) hx hb d_Arrays_copyOf2_21 (by decide) ?_
  refine lv_aload_n hx hb d_Arrays_copyOf2_22 rfl (lv_at hl 1 rfl) ?_
  refine va_alen (D := (dC, dI)) hx hb hK hP 0 0 rfl rfl (v := 0) (by rfl) d_Arrays_copyOf2_23 ?_
  refine lv_iload_n hx hb d_Arrays_copyOf2_24 rfl (lv_at hl 2 rfl) ?_
  refine va_mmin hx hb (hml.trans hl.1.symm) hown (hw _ m_529) (hw _ m_530) (hw _ m_111) (hw _ m_531) (Nat.le_of_ble_eq_true rfl) (by exact Nat.le_of_ble_eq_true rfl) (by exact Nat.le_of_ble_eq_true rfl) (by exact Nat.le_of_ble_eq_true rfl) d_Arrays_copyOf2_25 ?_
  refine tp_i (y := 0) (by first | rfl | decide) ?_
  refine tp_pc (pc' := 28) (by rfl) ?_
  refine va_copyl hx hb (hml.trans hl.1.symm) hown (hw _ m_532) (hw _ m_534) (hw _ m_533) (hw _ m_112) hK hP (dd_D hD rfl) hS 0 1 0 1 rfl rfl rfl rfl rfl (sp := 0) (dp := 0) (n := 0) (by decide) (by decide) (by decide) (by decide) (by decide) (fun i hi => absurd hi (by simp)) (Nat.le_of_ble_eq_true rfl) (by exact Nat.le_of_ble_eq_true rfl) d_Arrays_copyOf2_28 ?_
  clear hP hS H
  intro H locs hP _ hS
  replace hP : va_P (dC, dI) classes [la h0 k0 0 f0, la q_2 k_3 256 (fun _ => 0)] H := P_cgL 1 rfl cp_pt hP
  refine tp_pc (pc' := 31) (by rfl) ?_
  refine lv_aload_n hx hb d_Arrays_copyOf2_31 rfl (lv_at hl 0 rfl) ?_
  obtain ⟨hP9, hD9, -⟩ := cut3 (wc := [la h0 k0 0 f0, la q_2 k_3 256 (fun _ => 0)]) hP hD rfl hS hA [0, 1] (by decide +kernel) rfl
  have hK9 := hK.sub (tys' := [(k_3, .long)]) [1] rfl
  refine W.widen (k := 1) (n := 256) (by exact Nat.le_of_ble_eq_true rfl) (by exact Nat.le_of_ble_eq_true rfl) ?_
  exact W.aret hx hb hr (by first | exact Or.inl ⟨_, rfl⟩ | exact Or.inr ⟨_, rfl⟩) (Or.inr ⟨_, rfl⟩) (fun t ht hW => ⟨⟨(), q_2, rfl, trivial, q_2, k_3, rfl, by rw [ht]; exact hP9, va_K.moved hW.alike hK9, hD9⟩, hS.F ht⟩) hS.2.2 d_Arrays_copyOf2_32
set_option maxHeartbeats 4000000 in
set_option maxRecDepth 100000 in
theorem c_StateSet_add (l : Launch) (dC : Nat → ClassId) (dI : Nat → Nat → Nat) (h0 : Nat) (h1 : Nat) (h2 : Nat) (k0 : ClassId) (f0 : Nat → Int64) (k1 : ClassId) (sz : Nat) : Met l y_StateSet_add w_StateSet_add ({ frames := 2, cells := 1, slots := 256, locals := 70 }) (va_Pc [.ref h0, .long 0] (fun U => U.heap.size = sz ∧ va_P (dC, dI) classes [oc h0 2 [.ref h1, .ref h2, .int 0, .int 256], la h1 k0 0 f0, ia h2 k1 256 (fun _ => 0)] U.heap ∧ va_K (dC, dI) classes [(k0, .long), (k1, .int)] U ∧ va_D (fun _ => True) [oc h0 2 [.ref h1, .ref h2, .int 0, .int 256], la h1 k0 0 f0, ia h2 k1 256 (fun _ => 0)] ∧ nw U)) (va_Qi (fun (r : Int32) (_ : Unit) => r = 1) (fun _ t => ∃ (q_5 : Nat) (k_6 : ClassId), va_P (dC, dI) classes [oc h0 2 [.ref q_5, .ref h2, .int 1, .int 256], la h1 k0 0 f0, ia h2 k1 256 (upd (fun _ => 0) 0 1), la q_5 k_6 256 (fun _ => 0)] t.heap ∧ va_K (dC, dI) classes [(k_6, .long)] t ∧ va_D (va_A [oc h0 2 [.ref h1, .ref h2, .int 0, .int 256], la h1 k0 0 f0, ia h2 k1 256 (fun _ => 0)] sz) [oc h0 2 [.ref q_5, .ref h2, .int 1, .int 256], la h1 k0 0 f0, ia h2 k1 256 (upd (fun _ => 0) 0 1), la q_5 k_6 256 (fun _ => 0)]) (va_A [oc h0 2 [.ref h1, .ref h2, .int 0, .int 256], la h1 k0 0 f0, ia h2 k1 256 (fun _ => 0)] sz)) 1 256 (va_A [oc h0 2 [.ref h1, .ref h2, .int 0, .int 256], la h1 k0 0 f0, ia h2 k1 256 (fun _ => 0)] sz) := by
  refine Met.ofW (cc := b_StateSet_add) (maxL := 4) (ret := (some .boolean)) (by decide) rfl ?_
  intro p e s m args below meth c s₁ B hml hv
  obtain ⟨rfl, hsz, hP, hK, hD0, hn⟩ := hv
  have hx := B.exec
  have hb := B.bytes
  have hr := B.returns
  have hw := fun w (h : w ∈ wt) => atoms_spec (ws := w_StateSet_add) B.pre w (List.mem_cons_of_mem _ h)
  have hown : s.vm.findClass R_StateSet = some m.cls := findClass_of_methodNamed B.named
  have hlocks := B.notSynchronized
  subst hsz
  have hD1 := hD0.self (sz := s.heap.size)
  generalize hAe : va_A [oc h0 2 [.ref h1, .ref h2, .int 0, .int 256], la h1 k0 0 f0, ia h2 k1 256 (fun _ => 0)] s.heap.size = A at hD1 ⊢
  have hA : ∀ q : Nat, s.heap.size ≤ q → A q := fun q h => by rw [← hAe]; exact Or.inr h
  have hD : dd A [h0, h1, h2] := dd_of hD1 rfl
  clear hAe hD0 hD1
  have hS : va_S A s.heap s.heap [] := va_S.rf
  replace hP : va_P (dC, dI) classes [oc h0 2 [.ref h1, .ref h2, .int 0, .int 256], la h1 k0 0 f0, ia h2 k1 256 (fun _ => 0)] s.heap := hP
  have hl := lv_entry ([.ref h0, .long 0]) (n := 4) (Nat.le_of_ble_eq_true rfl)
  rw [lg_entry_eq]
  generalize (lg_sl ([.ref h0, .long 0]) ++ List.replicate (4 - (lg_sl ([.ref h0, .long 0])).length) Slot.unset).toArray = ls at hl ⊢
  replace hl : lv_has ls 4 [(0, .ref h0), (1, .long 0)] := hl
  refine lv_aload_n hx hb d_StateSet_add_0 rfl (lv_at hl 0 rfl) ?_
  refine lv_lload_n hx hb d_StateSet_add_1 rfl (lv_at hl 1 rfl) ?_
  obtain ⟨hPc, hDc, hFc⟩ := cut3 (wc := [oc h0 2 [.ref h1, .ref h2, .int 0, .int 256], ia h2 k1 256 (fun _ => 0)]) hP hD rfl hS hA [0, 2] (by decide +kernel) rfl
  have hKc := hK.sub (tys' := [(k1, .int)]) [1] rfl
  refine va_calli (va_runV (As := [.long 0]) (rest := []) ⟨hx, hb, hml, hown, hw⟩ (c_StateSet_slotOf l dC dI h0 h1 h2 0 k1 s.heap.size) (cw_V 1 hw g_StateSet_slotOf rfl rfl rfl (hw _ m_104) (hw _ m_488) (hw _ m_490) (hw _ m_3) (by decide +kernel) ⟨Nat.le_of_ble_eq_true rfl, Nat.le_of_ble_eq_true rfl⟩) ⟨fun a U g mk q => by obtain ⟨q0, q1, qP, qK, qD, qN⟩ := q; exact ⟨q0, q1, qP, va_K.moved (u := U) (U := U.calling g mk a) (Vm.Alike.refl U.vm) qK, qD, nw_call qN⟩, va_recv hKc hPc (ci := 2) (q0 := 0) rfl rfl, fun U hU hW => ⟨rfl, by rw [hU], by rw [hU]; exact hPc, va_K.moved hW.alike hKc, hDc.weaken (fun _ _ _ _ => trivial), nw_warm hW hn⟩⟩ rfl rfl hl.1 rfl (lv_room (Nat.le_of_ble_eq_true rfl)) d_StateSet_add_2 ⟨Nat.le_of_ble_eq_true rfl, Nat.le_of_ble_eq_true rfl⟩) hS (fun q _ h => hFc q h) hFc ?_
  intro r_1 u t H1 locs1 ht hvm hw1 hB hz1 hk1 hS1
  obtain ⟨hP1, hK1, hD1⟩ := hB
  rw [ht] at hP1
  replace hK1 := va_K.moved hvm.symm hK1
  have hPD := join3 hP hD rfl [0, 2] [1] rfl (by rfl) (by decide +kernel) (by decide +kernel) hk1 hFc hP1 hD1
  replace hK : va_K (dC, dI) classes [(k0, .long), (k1, .int)] s := hK.app hK1
  clear hP1 hK1 hD1 hk1 hz1 hFc hKc hDc hPc hvm ht hP hS t
  have hP : va_P (dC, dI) classes [la h1 k0 0 f0, oc h0 2 [.ref h1, .ref h2, .int 0, .int 256], ia h2 k1 256 (fun _ => 0)] H1 := hPD.1
  replace hD : dd A [h1, h0, h2] := dd_of hPD.2 rfl
  clear hPD
  revert H1 locs1
  intro H locs hS hP
  refine tp_i (y := 0) hw1 ?_
  clear hw1 r_1 u
  refine tp_pc (pc' := 5) (by rfl) ?_
  refine lv_istore_n (lv' := [(3, .int 0), (0, .ref h0), (1, .long 0)]) hx hb d_StateSet_add_5 rfl hl (by decide) rfl ?_
  clear hl ls
  intro ls hl
  refine lv_aload_n hx hb d_StateSet_add_6 rfl (lv_at hl 1 rfl) ?_
  refine va_get (D := (dC, dI)) (ci := 2) (v := .ref h2) (C := R_StateSet) (T := F_StateSet) (N := 4) hx hb hw i_StateSet hown hK hP 1 rfl rfl 1 (by decide) (hw _ m_231) (fun _ h9 => h9) rfl d_StateSet_add_7 ?_
  refine lv_iload_n hx hb d_StateSet_add_10 rfl (lv_at hl 0 rfl) ?_
  refine va_iald (D := (dC, dI)) hx hb hK hP 2 1 rfl rfl (i := 0) (vp_c (by decide)) d_StateSet_add_11 ?_
  refine tp_i (y := 0) (by first | rfl | decide) ?_
  refine lv_if_ne (tgt := 24) hx hb d_StateSet_add_12 (by decide) (fun c_2 => absurd c_2 (by decide)) (fun c_2 => ?_)
  refine tp_pc (pc' := 15) (by rfl) ?_
  refine lv_aload_n hx hb d_StateSet_add_15 rfl (lv_at hl 1 rfl) ?_
  refine va_get (D := (dC, dI)) (ci := 2) (v := .int 0) (C := R_StateSet) (T := F_StateSet) (N := 4) hx hb hw i_StateSet hown hK hP 1 rfl rfl 2 (by decide) (hw _ m_232) (fun _ h9 => h9) rfl d_StateSet_add_16 ?_
  refine lv_ldc hx hb hown (hw _ m_515) d_StateSet_add_19 ?_
  refine lv_icmp_lt (tgt := 26) hx hb d_StateSet_add_21 (by decide) (fun c_3 => ?_) (fun c_3 => absurd c_3 (by decide))
  refine tp_pc (pc' := 26) (by rfl) ?_
  refine lv_aload_n hx hb d_StateSet_add_26 rfl (lv_at hl 1 rfl) ?_
  refine va_get (D := (dC, dI)) (ci := 2) (v := .int 0) (C := R_StateSet) (T := F_StateSet) (N := 4) hx hb hw i_StateSet hown hK hP 1 rfl rfl 2 (by decide) (hw _ m_232) (fun _ h9 => h9) rfl d_StateSet_add_27 ?_
  refine lv_aload_n hx hb d_StateSet_add_30 rfl (lv_at hl 1 rfl) ?_
  refine va_get (D := (dC, dI)) (ci := 2) (v := .ref h1) (C := R_StateSet) (T := F_StateSet) (N := 4) hx hb hw i_StateSet hown hK hP 1 rfl rfl 0 (by decide) (hw _ m_230) (fun _ h9 => h9) rfl d_StateSet_add_31 ?_
  refine va_alen (D := (dC, dI)) hx hb hK hP 0 0 rfl rfl (v := 0) (by rfl) d_StateSet_add_34 ?_
  refine lv_icmp_lt (tgt := 61) hx hb d_StateSet_add_35 (by decide) (fun c_4 => absurd c_4 (by decide)) (fun c_4 => ?_)
  refine tp_pc (pc' := 38) (by rfl) ?_
  refine lv_aload_n hx hb d_StateSet_add_38 rfl (lv_at hl 1 rfl) ?_
  refine lv_aload_n hx hb d_StateSet_add_39 rfl (lv_at hl 1 rfl) ?_
  refine va_get (D := (dC, dI)) (ci := 2) (v := .ref h1) (C := R_StateSet) (T := F_StateSet) (N := 4) hx hb hw i_StateSet hown hK hP 1 rfl rfl 0 (by decide) (hw _ m_230) (fun _ h9 => h9) rfl d_StateSet_add_40 ?_
  refine lv_sipush (v := 256) hx hb d_StateSet_add_43 (by decide) ?_
  refine lv_iconst (v := 2) hx hb d_StateSet_add_46 (by decide) ?_
  refine lv_aload_n hx hb d_StateSet_add_47 rfl (lv_at hl 1 rfl) ?_
  refine va_get (D := (dC, dI)) (ci := 2) (v := .int 0) (C := R_StateSet) (T := F_StateSet) (N := 4) hx hb hw i_StateSet hown hK hP 1 rfl rfl 2 (by decide) (hw _ m_232) (fun _ h9 => h9) rfl d_StateSet_add_48 ?_
  refine lv_imul hx hb d_StateSet_add_51 ?_
  refine tp_i (y := 0) (by first | rfl | decide) ?_
  refine va_mmax hx hb (hml.trans hl.1.symm) hown (hw _ m_516) (hw _ m_517) (hw _ m_111) (hw _ m_518) (Nat.le_of_ble_eq_true rfl) (by exact Nat.le_of_ble_eq_true rfl) (by exact Nat.le_of_ble_eq_true rfl) (by exact Nat.le_of_ble_eq_true rfl) d_StateSet_add_52 ?_
  refine tp_i (y := 256) (by first | rfl | decide) ?_
  refine tp_pc (pc' := 55) (by rfl) ?_
  obtain ⟨hPc, hDc, hFc⟩ := cut3 (wc := [la h1 k0 0 f0]) hP hD rfl hS hA [0] (by decide +kernel) rfl
  have hKc := hK.sub (tys' := [(k0, .long)]) [0] rfl
  refine va_callr (va_runS (As := [.ref h1, .int 256]) (rest := [.ref h0]) ⟨hx, hb, hml, hown, hw⟩ (c_Arrays_copyOf2 l dC dI h1 k0 f0 H.size) (cw_S 2 hw g_Arrays_copyOf2 rfl rfl rfl (hw _ m_110) (hw _ m_519) (hw _ m_520) (by decide +kernel) ⟨Nat.le_of_ble_eq_true rfl, Nat.le_of_ble_eq_true rfl⟩) ⟨fun a U g mk q => by obtain ⟨q0, q1, qP, qK, qD, qN⟩ := q; exact ⟨q0, q1, qP, va_K.moved (u := U) (U := U.calling g mk a) (Vm.Alike.refl U.vm) qK, qD, nw_call qN⟩, fun U hU hW => ⟨rfl, by rw [hU], by rw [hU]; exact hPc, va_K.moved hW.alike hKc, hDc.weaken (fun _ _ _ _ => trivial), nw_warm hW hn⟩⟩ rfl rfl hl.1 rfl (lv_room (Nat.le_of_ble_eq_true rfl)) d_StateSet_add_55 ⟨Nat.le_of_ble_eq_true rfl, Nat.le_of_ble_eq_true rfl⟩) hS (fun q _ h => hFc q h) hFc ?_
  intro u r_7 t H1 locs1 ht hvm hw1 hB hz1 hk1 hS1
  obtain ⟨q_5, k_6, hra, hP1, hK1, hD1⟩ := hB
  rw [ht] at hP1
  replace hK1 := va_K.moved hvm.symm hK1
  have hPD := join3 hP hD rfl [0] [1, 2] rfl (by rfl) (by decide +kernel) (by decide +kernel) hk1 hFc hP1 hD1
  replace hK : va_K (dC, dI) classes [(k0, .long), (k1, .int), (k_6, .long)] s := hK.app hK1
  clear hP1 hK1 hD1 hk1 hz1 hFc hKc hDc hPc hvm ht hP hS t locs H
  have hP : va_P (dC, dI) classes [oc h0 2 [.ref h1, .ref h2, .int 0, .int 256], ia h2 k1 256 (fun _ => 0), la h1 k0 0 f0, la q_5 k_6 256 (fun _ => 0)] H1 := hPD.1
  replace hD : dd A [h0, h2, h1, q_5] := dd_of hPD.2 rfl
  clear hPD
  revert H1 locs1
  intro H locs hS hP
  refine W.widen (k := 1) (n := 256) (by exact Nat.le_of_ble_eq_true rfl) (by exact Nat.le_of_ble_eq_true rfl) ?_
  refine tp_r (y := q_5) hra ?_
  clear hra hw1 r_7 u
  refine tp_pc (pc' := 58) (by rfl) ?_
  refine va_put (D := (dC, dI)) (ci := 2) (v := .ref q_5) (ty := .array .long) (C := R_StateSet) (T := F_StateSet) (N := 4) hx hb hw i_StateSet t_StateSet t_StateSet_ok n_StateSet hown hK hP (dd_D hD rfl) hS 0 rfl rfl 0 (by decide) (hw _ m_230) (fun _ h9 => h9) rfl (by decide +kernel) rfl rfl (Nat.le_of_ble_eq_true rfl) d_StateSet_add_58 ?_
  clear hP hS locs H
  intro H locs (hP : va_P (dC, dI) classes [oc h0 2 [.ref q_5, .ref h2, .int 0, .int 256], ia h2 k1 256 (fun _ => 0), la h1 k0 0 f0, la q_5 k_6 256 (fun _ => 0)] H) _ hS
  refine tp_pc (pc' := 61) (by rfl) ?_
  refine lv_aload_n hx hb d_StateSet_add_61 rfl (lv_at hl 1 rfl) ?_
  refine va_get (D := (dC, dI)) (ci := 2) (v := .ref q_5) (C := R_StateSet) (T := F_StateSet) (N := 4) hx hb hw i_StateSet hown hK hP 0 rfl rfl 0 (by decide) (hw _ m_230) (fun _ h9 => h9) rfl d_StateSet_add_62 ?_
  refine lv_aload_n hx hb d_StateSet_add_65 rfl (lv_at hl 1 rfl) ?_
  refine va_get (D := (dC, dI)) (ci := 2) (v := .int 0) (C := R_StateSet) (T := F_StateSet) (N := 4) hx hb hw i_StateSet hown hK hP 0 rfl rfl 2 (by decide) (hw _ m_232) (fun _ h9 => h9) rfl d_StateSet_add_66 ?_
  refine lv_lload_n hx hb d_StateSet_add_69 rfl (lv_at hl 2 rfl) ?_
  refine va_last (D := (dC, dI)) hx hb hK hP (dd_D hD rfl) hS 3 2 rfl rfl (i := 0) (x := 0) (vp_c (by decide)) d_StateSet_add_70 ?_
  clear hP hS locs H
  intro H locs hP _ hS
  replace hP : va_P (dC, dI) classes [oc h0 2 [.ref q_5, .ref h2, .int 0, .int 256], ia h2 k1 256 (fun _ => 0), la h1 k0 0 f0, la q_5 k_6 256 (fun _ => 0)] H := P_cgL 3 rfl (up_ptL (by first | rfl | decide)) hP
  refine tp_pc (pc' := 71) (by rfl) ?_
  refine lv_aload_n hx hb d_StateSet_add_71 rfl (lv_at hl 1 rfl) ?_
  refine lv_dup hx hb d_StateSet_add_72 rfl ?_
  refine va_get (D := (dC, dI)) (ci := 2) (v := .int 0) (C := R_StateSet) (T := F_StateSet) (N := 4) hx hb hw i_StateSet hown hK hP 0 rfl rfl 2 (by decide) (hw _ m_232) (fun _ h9 => h9) rfl d_StateSet_add_73 ?_
  refine lv_iconst (v := 1) hx hb d_StateSet_add_76 (by decide) ?_
  refine lv_iadd hx hb d_StateSet_add_77 ?_
  refine tp_i (y := 1) (by first | rfl | decide) ?_
  refine va_put (D := (dC, dI)) (ci := 2) (v := .int 1) (ty := .int) (C := R_StateSet) (T := F_StateSet) (N := 4) hx hb hw i_StateSet t_StateSet t_StateSet_ok n_StateSet hown hK hP (dd_D hD rfl) hS 0 rfl rfl 2 (by decide) (hw _ m_232) (fun _ h9 => h9) rfl (by decide +kernel) rfl rfl (Nat.le_of_ble_eq_true rfl) d_StateSet_add_78 ?_
  clear hP hS locs H
  intro H locs (hP : va_P (dC, dI) classes [oc h0 2 [.ref q_5, .ref h2, .int 1, .int 256], ia h2 k1 256 (fun _ => 0), la h1 k0 0 f0, la q_5 k_6 256 (fun _ => 0)] H) _ hS
  refine tp_pc (pc' := 81) (by rfl) ?_
  refine lv_aload_n hx hb d_StateSet_add_81 rfl (lv_at hl 1 rfl) ?_
  refine va_get (D := (dC, dI)) (ci := 2) (v := .ref h2) (C := R_StateSet) (T := F_StateSet) (N := 4) hx hb hw i_StateSet hown hK hP 0 rfl rfl 1 (by decide) (hw _ m_231) (fun _ h9 => h9) rfl d_StateSet_add_82 ?_
  refine lv_iload_n hx hb d_StateSet_add_85 rfl (lv_at hl 0 rfl) ?_
  refine lv_aload_n hx hb d_StateSet_add_86 rfl (lv_at hl 1 rfl) ?_
  refine va_get (D := (dC, dI)) (ci := 2) (v := .int 1) (C := R_StateSet) (T := F_StateSet) (N := 4) hx hb hw i_StateSet hown hK hP 0 rfl rfl 2 (by decide) (hw _ m_232) (fun _ h9 => h9) rfl d_StateSet_add_87 ?_
  refine va_iast (D := (dC, dI)) hx hb hK hP (dd_D hD rfl) hS 1 1 rfl rfl (i := 0) (x := 1) (vp_c (by decide)) d_StateSet_add_90 ?_
  clear hP hS locs H
  intro H locs (hP : va_P (dC, dI) classes [oc h0 2 [.ref q_5, .ref h2, .int 1, .int 256], ia h2 k1 256 (upd (fun _ => 0) 0 1), la h1 k0 0 f0, la q_5 k_6 256 (fun _ => 0)] H) _ hS
  refine tp_pc (pc' := 91) (by rfl) ?_
  refine lv_iconst (v := 2) hx hb d_StateSet_add_91 (by decide) ?_
  refine lv_aload_n hx hb d_StateSet_add_92 rfl (lv_at hl 1 rfl) ?_
  refine va_get (D := (dC, dI)) (ci := 2) (v := .int 1) (C := R_StateSet) (T := F_StateSet) (N := 4) hx hb hw i_StateSet hown hK hP 0 rfl rfl 2 (by decide) (hw _ m_232) (fun _ h9 => h9) rfl d_StateSet_add_93 ?_
  refine lv_imul hx hb d_StateSet_add_96 ?_
  refine tp_i (y := 2) (by first | rfl | decide) ?_
  refine lv_aload_n hx hb d_StateSet_add_97 rfl (lv_at hl 1 rfl) ?_
  refine va_get (D := (dC, dI)) (ci := 2) (v := .int 256) (C := R_StateSet) (T := F_StateSet) (N := 4) hx hb hw i_StateSet hown hK hP 0 rfl rfl 3 (by decide) (hw _ m_233) (fun _ h9 => h9) rfl d_StateSet_add_98 ?_
  refine lv_icmp_le (tgt := 114) hx hb d_StateSet_add_101 (by decide) (fun c_8 => ?_) (fun c_8 => absurd c_8 (by decide))
  refine tp_pc (pc' := 114) (by rfl) ?_
  refine lv_iconst (v := 1) hx hb d_StateSet_add_114 (by decide) ?_
  obtain ⟨hP9, hD9, -⟩ := cut3 (wc := [oc h0 2 [.ref q_5, .ref h2, .int 1, .int 256], la h1 k0 0 f0, ia h2 k1 256 (upd (fun _ => 0) 0 1), la q_5 k_6 256 (fun _ => 0)]) hP hD rfl hS hA [0, 2, 1, 3] (by decide +kernel) rfl
  have hK9 := hK.sub (tys' := [(k_6, .long)]) [2] rfl
  refine W.widen (k := 1) (n := 256) (by exact Nat.le_of_ble_eq_true rfl) (by exact Nat.le_of_ble_eq_true rfl) ?_
  exact W.zret (v := 1) (ty := .boolean) hx hb hr (by decide) (fun t ht hW => ⟨⟨1, (), rfl, rfl, q_5, k_6, by rw [ht]; exact hP9, va_K.moved hW.alike hK9, hD9⟩, hS.F ht⟩) hS.2.2 d_StateSet_add_115
set_option maxHeartbeats 4000000 in
set_option maxRecDepth 100000 in
theorem c_BufferWalk_noteRaces (l : Launch) (dC : Nat → ClassId) (dI : Nat → Nat → Nat) (h0 : Nat) (h1 : Nat) (h2 : Nat) (h3 : Nat) (h4 : Nat) (h5 : Nat) (h6 : Nat) (p0 : Int32) (p1 : Int32) (p2 : Int32) (h7 : Nat) (h8 : Nat) (h9 : Nat) (h10 : Nat) (h11 : Nat) (h12 : Nat) (h13 : Nat) (h14 : Nat) (h15 : Nat) (h16 : Nat) (h17 : Nat) (sz : Nat) : Met l y_BufferWalk_noteRaces w_BufferWalk_noteRaces ({ frames := 0, cells := 0, slots := 0, locals := 0 }) (va_Pc [.ref h0] (fun U => U.heap.size = sz ∧ va_P (dC, dI) classes [oc h0 4 [.ref h1, .ref h2, .ref h3, .ref h4, .ref h5, .ref h6, .int p0, .int p1, .int p2], oc h1 0 [.ref h7, .ref h8, .ref h9, .ref h10, .ref h11, .ref h12, .ref h13, .ref h14, .ref h15, .ref h16, .ref h17, .int 0, .int 0]] U.heap ∧ va_K (dC, dI) classes [] U ∧ va_D (fun _ => True) [oc h0 4 [.ref h1, .ref h2, .ref h3, .ref h4, .ref h5, .ref h6, .int p0, .int p1, .int p2], oc h1 0 [.ref h7, .ref h8, .ref h9, .ref h10, .ref h11, .ref h12, .ref h13, .ref h14, .ref h15, .ref h16, .ref h17, .int 0, .int 0]] ∧ nw U)) (va_Qv (fun _ : Unit => True) (fun _ t => va_P (dC, dI) classes [oc h0 4 [.ref h1, .ref h2, .ref h3, .ref h4, .ref h5, .ref h6, .int p0, .int p1, .int p2], oc h1 0 [.ref h7, .ref h8, .ref h9, .ref h10, .ref h11, .ref h12, .ref h13, .ref h14, .ref h15, .ref h16, .ref h17, .int 0, .int 0]] t.heap ∧ va_K (dC, dI) classes [] t ∧ va_D (va_A [oc h0 4 [.ref h1, .ref h2, .ref h3, .ref h4, .ref h5, .ref h6, .int p0, .int p1, .int p2], oc h1 0 [.ref h7, .ref h8, .ref h9, .ref h10, .ref h11, .ref h12, .ref h13, .ref h14, .ref h15, .ref h16, .ref h17, .int 0, .int 0]] sz) [oc h0 4 [.ref h1, .ref h2, .ref h3, .ref h4, .ref h5, .ref h6, .int p0, .int p1, .int p2], oc h1 0 [.ref h7, .ref h8, .ref h9, .ref h10, .ref h11, .ref h12, .ref h13, .ref h14, .ref h15, .ref h16, .ref h17, .int 0, .int 0]]) (va_A [oc h0 4 [.ref h1, .ref h2, .ref h3, .ref h4, .ref h5, .ref h6, .int p0, .int p1, .int p2], oc h1 0 [.ref h7, .ref h8, .ref h9, .ref h10, .ref h11, .ref h12, .ref h13, .ref h14, .ref h15, .ref h16, .ref h17, .int 0, .int 0]] sz)) 0 0 (va_A [oc h0 4 [.ref h1, .ref h2, .ref h3, .ref h4, .ref h5, .ref h6, .int p0, .int p1, .int p2], oc h1 0 [.ref h7, .ref h8, .ref h9, .ref h10, .ref h11, .ref h12, .ref h13, .ref h14, .ref h15, .ref h16, .ref h17, .int 0, .int 0]] sz) := by
  refine Met.ofW (cc := b_BufferWalk_noteRaces) (maxL := 4) (ret := none) (by decide) rfl ?_
  intro p e s m args below meth c s₁ B hml hv
  obtain ⟨rfl, hsz, hP, hK, hD0, hn⟩ := hv
  have hx := B.exec
  have hb := B.bytes
  have hr := B.returns
  have hw := fun w (h : w ∈ wt) => atoms_spec (ws := w_BufferWalk_noteRaces) B.pre w (List.mem_cons_of_mem _ h)
  have hown : s.vm.findClass R_BufferWalk = some m.cls := findClass_of_methodNamed B.named
  have hlocks := B.notSynchronized
  subst hsz
  have hD1 := hD0.self (sz := s.heap.size)
  generalize hAe : va_A [oc h0 4 [.ref h1, .ref h2, .ref h3, .ref h4, .ref h5, .ref h6, .int p0, .int p1, .int p2], oc h1 0 [.ref h7, .ref h8, .ref h9, .ref h10, .ref h11, .ref h12, .ref h13, .ref h14, .ref h15, .ref h16, .ref h17, .int 0, .int 0]] s.heap.size = A at hD1 ⊢
  have hA : ∀ q : Nat, s.heap.size ≤ q → A q := fun q h => by rw [← hAe]; exact Or.inr h
  have hD : dd A [h0, h1] := dd_of hD1 rfl
  clear hAe hD0 hD1
  have hS : va_S A s.heap s.heap [] := va_S.rf
  replace hP : va_P (dC, dI) classes [oc h0 4 [.ref h1, .ref h2, .ref h3, .ref h4, .ref h5, .ref h6, .int p0, .int p1, .int p2], oc h1 0 [.ref h7, .ref h8, .ref h9, .ref h10, .ref h11, .ref h12, .ref h13, .ref h14, .ref h15, .ref h16, .ref h17, .int 0, .int 0]] s.heap := hP
  have hl := lv_entry ([.ref h0]) (n := 4) (Nat.le_of_ble_eq_true rfl)
  rw [lg_entry_eq]
  generalize (lg_sl ([.ref h0]) ++ List.replicate (4 - (lg_sl ([.ref h0])).length) Slot.unset).toArray = ls at hl ⊢
  replace hl : lv_has ls 4 [(0, .ref h0)] := hl
  refine lv_iconst (v := 0) hx hb d_BufferWalk_noteRaces_0 (by decide) ?_
  refine lv_istore_n (lv' := [(1, .int 0), (0, .ref h0)]) hx hb d_BufferWalk_noteRaces_1 rfl hl (by decide) rfl ?_
  clear hl ls
  intro ls hl
  refine lv_iconst (v := 0) hx hb d_BufferWalk_noteRaces_2 (by decide) ?_
  refine lv_istore_n (lv' := [(2, .int 0), (1, .int 0), (0, .ref h0)]) hx hb d_BufferWalk_noteRaces_3 rfl hl (by decide) rfl ?_
  clear hl ls
  intro ls hl
  refine lv_iload_n hx hb d_BufferWalk_noteRaces_4 rfl (lv_at hl 0 rfl) ?_
  refine lv_aload_n hx hb d_BufferWalk_noteRaces_5 rfl (lv_at hl 2 rfl) ?_
  refine va_get (D := (dC, dI)) (ci := 4) (v := .ref h1) (C := R_BufferWalk) (T := F_BufferWalk) (N := 9) hx hb hw i_BufferWalk hown hK hP 0 rfl rfl 0 (by decide) (hw _ m_250) (fun _ h9 => h9) rfl d_BufferWalk_noteRaces_6 ?_
  refine va_get (D := (dC, dI)) (ci := 0) (v := .int 0) (C := R_Program) (T := F_Program) (N := 13) hx hb hw i_Program hown hK hP 1 rfl rfl 11 (by decide) (hw _ m_162) (fun _ h9 => h9) rfl d_BufferWalk_noteRaces_9 ?_
  refine lv_icmp_ge (tgt := 45) hx hb d_BufferWalk_noteRaces_12 (by decide) (fun c_1 => ?_) (fun c_1 => absurd c_1 (by decide))
  refine tp_pc (pc' := 45) (by rfl) ?_
  refine lv_iconst (v := 0) hx hb d_BufferWalk_noteRaces_45 (by decide) ?_
  refine lv_istore_n (lv' := [(2, .int 0), (1, .int 0), (0, .ref h0)]) hx hb d_BufferWalk_noteRaces_46 rfl hl (by decide) rfl ?_
  clear hl ls
  intro ls hl
  refine lv_iload_n hx hb d_BufferWalk_noteRaces_47 rfl (lv_at hl 0 rfl) ?_
  refine lv_aload_n hx hb d_BufferWalk_noteRaces_48 rfl (lv_at hl 2 rfl) ?_
  refine va_get (D := (dC, dI)) (ci := 4) (v := .ref h1) (C := R_BufferWalk) (T := F_BufferWalk) (N := 9) hx hb hw i_BufferWalk hown hK hP 0 rfl rfl 0 (by decide) (hw _ m_250) (fun _ h9 => h9) rfl d_BufferWalk_noteRaces_49 ?_
  refine va_get (D := (dC, dI)) (ci := 0) (v := .int 0) (C := R_Program) (T := F_Program) (N := 13) hx hb hw i_Program hown hK hP 1 rfl rfl 12 (by decide) (hw _ m_168) (fun _ h9 => h9) rfl d_BufferWalk_noteRaces_52 ?_
  refine lv_icmp_ge (tgt := 91) hx hb d_BufferWalk_noteRaces_55 (by decide) (fun c_2 => ?_) (fun c_2 => absurd c_2 (by decide))
  refine tp_pc (pc' := 91) (by rfl) ?_
  obtain ⟨hP9, hD9, -⟩ := cut3 (wc := [oc h0 4 [.ref h1, .ref h2, .ref h3, .ref h4, .ref h5, .ref h6, .int p0, .int p1, .int p2], oc h1 0 [.ref h7, .ref h8, .ref h9, .ref h10, .ref h11, .ref h12, .ref h13, .ref h14, .ref h15, .ref h16, .ref h17, .int 0, .int 0]]) hP hD rfl hS hA [0, 1] (by decide +kernel) rfl
  have hK9 := hK.sub (tys' := []) [] rfl
  refine W.widen (k := 0) (n := 0) (by exact Nat.le_of_ble_eq_true rfl) (by exact Nat.le_of_ble_eq_true rfl) ?_
  exact W.vret hx hb hr (fun t ht hW => ⟨⟨(), rfl, trivial, by rw [ht]; exact hP9, va_K.moved hW.alike hK9, hD9⟩, hS.F ht⟩) hS.2.2 d_BufferWalk_noteRaces_91
set_option maxHeartbeats 4000000 in
set_option maxRecDepth 100000 in
theorem c_BufferWalk_sourceIn (l : Launch) (dC : Nat → ClassId) (dI : Nat → Nat → Nat) (h0 : Nat) (p0 : Int32) (h1 : Nat) (h2 : Nat) (h3 : Nat) (h4 : Nat) (h5 : Nat) (h6 : Nat) (p1 : Int32) (p2 : Int32) (p3 : Int32) (sz : Nat) : Met l y_BufferWalk_sourceIn w_BufferWalk_sourceIn ({ frames := 0, cells := 0, slots := 0, locals := 0 }) (va_Pc [.ref h0, .int p0] (fun U => U.heap.size = sz ∧ va_P (dC, dI) classes [oc h0 4 [.ref h1, .ref h2, .ref h3, .ref h4, .ref h5, .ref h6, .int p1, .int p2, .int p3]] U.heap ∧ va_K (dC, dI) classes [] U ∧ va_D (fun _ => True) [oc h0 4 [.ref h1, .ref h2, .ref h3, .ref h4, .ref h5, .ref h6, .int p1, .int p2, .int p3]] ∧ nw U)) (va_Qi (fun (r : Int32) (_ : Unit) => r = ((p2 >>> ((3 * p0) &&& 31)) &&& 7)) (fun _ t => va_P (dC, dI) classes [oc h0 4 [.ref h1, .ref h2, .ref h3, .ref h4, .ref h5, .ref h6, .int p1, .int p2, .int p3]] t.heap ∧ va_K (dC, dI) classes [] t ∧ va_D (va_A [oc h0 4 [.ref h1, .ref h2, .ref h3, .ref h4, .ref h5, .ref h6, .int p1, .int p2, .int p3]] sz) [oc h0 4 [.ref h1, .ref h2, .ref h3, .ref h4, .ref h5, .ref h6, .int p1, .int p2, .int p3]]) (va_A [oc h0 4 [.ref h1, .ref h2, .ref h3, .ref h4, .ref h5, .ref h6, .int p1, .int p2, .int p3]] sz)) 0 0 (va_A [oc h0 4 [.ref h1, .ref h2, .ref h3, .ref h4, .ref h5, .ref h6, .int p1, .int p2, .int p3]] sz) := by
  refine Met.ofW (cc := b_BufferWalk_sourceIn) (maxL := 2) (ret := (some .int)) (by decide) rfl ?_
  intro p e s m args below meth c s₁ B hml hv
  obtain ⟨rfl, hsz, hP, hK, hD0, hn⟩ := hv
  have hx := B.exec
  have hb := B.bytes
  have hr := B.returns
  have hw := fun w (h : w ∈ wt) => atoms_spec (ws := w_BufferWalk_sourceIn) B.pre w (List.mem_cons_of_mem _ h)
  have hown : s.vm.findClass R_BufferWalk = some m.cls := findClass_of_methodNamed B.named
  have hlocks := B.notSynchronized
  subst hsz
  have hD1 := hD0.self (sz := s.heap.size)
  generalize hAe : va_A [oc h0 4 [.ref h1, .ref h2, .ref h3, .ref h4, .ref h5, .ref h6, .int p1, .int p2, .int p3]] s.heap.size = A at hD1 ⊢
  have hA : ∀ q : Nat, s.heap.size ≤ q → A q := fun q h => by rw [← hAe]; exact Or.inr h
  have hD : dd A [h0] := dd_of hD1 rfl
  clear hAe hD0 hD1
  have hS : va_S A s.heap s.heap [] := va_S.rf
  replace hP : va_P (dC, dI) classes [oc h0 4 [.ref h1, .ref h2, .ref h3, .ref h4, .ref h5, .ref h6, .int p1, .int p2, .int p3]] s.heap := hP
  have hl := lv_entry ([.ref h0, .int p0]) (n := 2) (Nat.le_of_ble_eq_true rfl)
  rw [lg_entry_eq]
  generalize (lg_sl ([.ref h0, .int p0]) ++ List.replicate (2 - (lg_sl ([.ref h0, .int p0])).length) Slot.unset).toArray = ls at hl ⊢
  replace hl : lv_has ls 2 [(0, .ref h0), (1, .int p0)] := hl
  refine lv_aload_n hx hb d_BufferWalk_sourceIn_0 rfl (lv_at hl 0 rfl) ?_
  refine va_get (D := (dC, dI)) (ci := 4) (v := .int p2) (C := R_BufferWalk) (T := F_BufferWalk) (N := 9) hx hb hw i_BufferWalk hown hK hP 0 rfl rfl 7 (by decide) (hw _ m_258) (fun _ h9 => h9) rfl d_BufferWalk_sourceIn_1 ?_
  refine lv_iconst (v := 3) hx hb d_BufferWalk_sourceIn_4 (by decide) ?_
  refine lv_iload_n hx hb d_BufferWalk_sourceIn_5 rfl (lv_at hl 1 rfl) ?_
  refine lv_imul hx hb d_BufferWalk_sourceIn_6 ?_
  refine tp_i (y := 3 * p0) (by first | rfl | decide) ?_
  refine lv_ishr hx hb d_BufferWalk_sourceIn_7 ?_
  refine tp_i (y := p2 >>> ((3 * p0) &&& 31)) (by first | rfl | decide) ?_
  refine lv_bipush (v := 7) hx hb d_BufferWalk_sourceIn_8 (by decide) ?_
  refine lv_iand hx hb d_BufferWalk_sourceIn_10 ?_
  refine tp_i (y := (p2 >>> ((3 * p0) &&& 31)) &&& 7) (by first | rfl | decide) ?_
  obtain ⟨hP9, hD9, -⟩ := cut3 (wc := [oc h0 4 [.ref h1, .ref h2, .ref h3, .ref h4, .ref h5, .ref h6, .int p1, .int p2, .int p3]]) hP hD rfl hS hA [0] (by decide +kernel) rfl
  have hK9 := hK.sub (tys' := []) [] rfl
  refine W.widen (k := 0) (n := 0) (by exact Nat.le_of_ble_eq_true rfl) (by exact Nat.le_of_ble_eq_true rfl) ?_
  exact W.iret (v := ((p2 >>> ((3 * p0) &&& 31)) &&& 7)) hx hb hr (fun t ht hW => ⟨⟨(p2 >>> ((3 * p0) &&& 31)) &&& 7, (), rfl, rfl, by rw [ht]; exact hP9, va_K.moved hW.alike hK9, hD9⟩, hS.F ht⟩) hS.2.2 d_BufferWalk_sourceIn_11
set_option maxHeartbeats 4000000 in
set_option maxRecDepth 100000 in
theorem c_Progress_variablesKey (l : Launch) (dC : Nat → ClassId) (dI : Nat → Nat → Nat) (h0 : Nat) (h1 : Nat) (h2 : Nat) (h3 : Nat) (h4 : Nat) (p3 : Int32) (p4 : Int64) (k2 : ClassId) (f2 : Nat → Int32) (sz : Nat) : Met l y_Progress_variablesKey w_Progress_variablesKey ({ frames := 0, cells := 0, slots := 0, locals := 0 }) (va_Pc [.ref h0, .int 0, .int 0, .int 0] (fun U => U.heap.size = sz ∧ va_P (dC, dI) classes [oc h0 1 [.ref h1, .ref h2, .ref h3, .ref h4, .int p3, .long p4], ia h4 k2 8 f2] U.heap ∧ va_K (dC, dI) classes [(k2, .int)] U ∧ va_D (fun _ => True) [oc h0 1 [.ref h1, .ref h2, .ref h3, .ref h4, .int p3, .long p4], ia h4 k2 8 f2] ∧ nw U)) (va_Qi (fun (r : Int32) (_ : Unit) => r = ((((((f2 0) + 64) <<< (7 &&& 31)) ||| ((f2 0) + 64)) <<< (7 &&& 31)) ||| ((f2 0) + 64))) (fun _ t => va_P (dC, dI) classes [oc h0 1 [.ref h1, .ref h2, .ref h3, .ref h4, .int p3, .long p4], ia h4 k2 8 f2] t.heap ∧ va_K (dC, dI) classes [] t ∧ va_D (va_A [oc h0 1 [.ref h1, .ref h2, .ref h3, .ref h4, .int p3, .long p4], ia h4 k2 8 f2] sz) [oc h0 1 [.ref h1, .ref h2, .ref h3, .ref h4, .int p3, .long p4], ia h4 k2 8 f2]) (va_A [oc h0 1 [.ref h1, .ref h2, .ref h3, .ref h4, .int p3, .long p4], ia h4 k2 8 f2] sz)) 0 0 (va_A [oc h0 1 [.ref h1, .ref h2, .ref h3, .ref h4, .int p3, .long p4], ia h4 k2 8 f2] sz) := by
  refine Met.ofW (cc := b_Progress_variablesKey) (maxL := 5) (ret := (some .int)) (by decide) rfl ?_
  intro p e s m args below meth c s₁ B hml hv
  obtain ⟨rfl, hsz, hP, hK, hD0, hn⟩ := hv
  have hx := B.exec
  have hb := B.bytes
  have hr := B.returns
  have hw := fun w (h : w ∈ wt) => atoms_spec (ws := w_Progress_variablesKey) B.pre w (List.mem_cons_of_mem _ h)
  have hown : s.vm.findClass R_Progress = some m.cls := findClass_of_methodNamed B.named
  have hlocks := B.notSynchronized
  subst hsz
  have hD1 := hD0.self (sz := s.heap.size)
  generalize hAe : va_A [oc h0 1 [.ref h1, .ref h2, .ref h3, .ref h4, .int p3, .long p4], ia h4 k2 8 f2] s.heap.size = A at hD1 ⊢
  have hA : ∀ q : Nat, s.heap.size ≤ q → A q := fun q h => by rw [← hAe]; exact Or.inr h
  have hD : dd A [h0, h4] := dd_of hD1 rfl
  clear hAe hD0 hD1
  have hS : va_S A s.heap s.heap [] := va_S.rf
  replace hP : va_P (dC, dI) classes [oc h0 1 [.ref h1, .ref h2, .ref h3, .ref h4, .int p3, .long p4], ia h4 k2 8 f2] s.heap := hP
  have hl := lv_entry ([.ref h0, .int 0, .int 0, .int 0]) (n := 5) (Nat.le_of_ble_eq_true rfl)
  rw [lg_entry_eq]
  generalize (lg_sl ([.ref h0, .int 0, .int 0, .int 0]) ++ List.replicate (5 - (lg_sl ([.ref h0, .int 0, .int 0, .int 0])).length) Slot.unset).toArray = ls at hl ⊢
  replace hl : lv_has ls 5 [(0, .ref h0), (1, .int 0), (2, .int 0), (3, .int 0)] := hl
  refine lv_aload_n hx hb d_Progress_variablesKey_0 rfl (lv_at hl 0 rfl) ?_
  refine va_get (D := (dC, dI)) (ci := 1) (v := .ref h4) (C := R_Progress) (T := F_Progress) (N := 6) hx hb hw i_Progress hown hK hP 0 rfl rfl 3 (by decide) (hw _ m_207) (fun _ h9 => h9) rfl d_Progress_variablesKey_1 ?_
  refine lv_iload_n hx hb d_Progress_variablesKey_4 rfl (lv_at hl 1 rfl) ?_
  refine va_iald (D := (dC, dI)) hx hb hK hP 1 0 rfl rfl (i := 0) (vp_c (by decide)) d_Progress_variablesKey_5 ?_
  refine tp_i (y := f2 0) (by first | rfl | decide) ?_
  refine lv_bipush (v := 64) hx hb d_Progress_variablesKey_6 (by decide) ?_
  refine lv_iadd hx hb d_Progress_variablesKey_8 ?_
  refine tp_i (y := (f2 0) + 64) (by first | rfl | decide) ?_
  refine lv_istore (lv' := [(4, .int ((f2 0) + 64)), (0, .ref h0), (1, .int 0), (2, .int 0), (3, .int 0)]) hx hb d_Progress_variablesKey_9 hl (by decide) rfl ?_
  clear hl ls
  intro ls hl
  refine lv_iload hx hb d_Progress_variablesKey_11 (lv_at hl 0 rfl) ?_
  refine lv_bipush (v := 7) hx hb d_Progress_variablesKey_13 (by decide) ?_
  refine lv_ishl hx hb d_Progress_variablesKey_15 ?_
  refine tp_i (y := ((f2 0) + 64) <<< (7 &&& 31)) (by first | rfl | decide) ?_
  refine lv_aload_n hx hb d_Progress_variablesKey_16 rfl (lv_at hl 1 rfl) ?_
  refine va_get (D := (dC, dI)) (ci := 1) (v := .ref h4) (C := R_Progress) (T := F_Progress) (N := 6) hx hb hw i_Progress hown hK hP 0 rfl rfl 3 (by decide) (hw _ m_207) (fun _ h9 => h9) rfl d_Progress_variablesKey_17 ?_
  refine lv_iload_n hx hb d_Progress_variablesKey_20 rfl (lv_at hl 3 rfl) ?_
  refine va_iald (D := (dC, dI)) hx hb hK hP 1 0 rfl rfl (i := 0) (vp_c (by decide)) d_Progress_variablesKey_21 ?_
  refine tp_i (y := f2 0) (by first | rfl | decide) ?_
  refine lv_bipush (v := 64) hx hb d_Progress_variablesKey_22 (by decide) ?_
  refine lv_iadd hx hb d_Progress_variablesKey_24 ?_
  refine tp_i (y := (f2 0) + 64) (by first | rfl | decide) ?_
  refine lv_ior hx hb d_Progress_variablesKey_25 ?_
  refine tp_i (y := (((f2 0) + 64) <<< (7 &&& 31)) ||| ((f2 0) + 64)) (by first | rfl | decide) ?_
  refine lv_istore (lv' := [(4, .int ((((f2 0) + 64) <<< (7 &&& 31)) ||| ((f2 0) + 64))), (0, .ref h0), (1, .int 0), (2, .int 0), (3, .int 0)]) hx hb d_Progress_variablesKey_26 hl (by decide) rfl ?_
  clear hl ls
  intro ls hl
  refine lv_iload hx hb d_Progress_variablesKey_28 (lv_at hl 0 rfl) ?_
  refine lv_bipush (v := 7) hx hb d_Progress_variablesKey_30 (by decide) ?_
  refine lv_ishl hx hb d_Progress_variablesKey_32 ?_
  refine tp_i (y := ((((f2 0) + 64) <<< (7 &&& 31)) ||| ((f2 0) + 64)) <<< (7 &&& 31)) (by first | rfl | decide) ?_
  refine lv_aload_n hx hb d_Progress_variablesKey_33 rfl (lv_at hl 1 rfl) ?_
  refine va_get (D := (dC, dI)) (ci := 1) (v := .ref h4) (C := R_Progress) (T := F_Progress) (N := 6) hx hb hw i_Progress hown hK hP 0 rfl rfl 3 (by decide) (hw _ m_207) (fun _ h9 => h9) rfl d_Progress_variablesKey_34 ?_
  refine lv_iload_n hx hb d_Progress_variablesKey_37 rfl (lv_at hl 4 rfl) ?_
  refine va_iald (D := (dC, dI)) hx hb hK hP 1 0 rfl rfl (i := 0) (vp_c (by decide)) d_Progress_variablesKey_38 ?_
  refine tp_i (y := f2 0) (by first | rfl | decide) ?_
  refine lv_bipush (v := 64) hx hb d_Progress_variablesKey_39 (by decide) ?_
  refine lv_iadd hx hb d_Progress_variablesKey_41 ?_
  refine tp_i (y := (f2 0) + 64) (by first | rfl | decide) ?_
  refine lv_ior hx hb d_Progress_variablesKey_42 ?_
  refine tp_i (y := (((((f2 0) + 64) <<< (7 &&& 31)) ||| ((f2 0) + 64)) <<< (7 &&& 31)) ||| ((f2 0) + 64)) (by first | rfl | decide) ?_
  obtain ⟨hP9, hD9, -⟩ := cut3 (wc := [oc h0 1 [.ref h1, .ref h2, .ref h3, .ref h4, .int p3, .long p4], ia h4 k2 8 f2]) hP hD rfl hS hA [0, 1] (by decide +kernel) rfl
  have hK9 := hK.sub (tys' := []) [] rfl
  refine W.widen (k := 0) (n := 0) (by exact Nat.le_of_ble_eq_true rfl) (by exact Nat.le_of_ble_eq_true rfl) ?_
  exact W.iret (v := ((((((f2 0) + 64) <<< (7 &&& 31)) ||| ((f2 0) + 64)) <<< (7 &&& 31)) ||| ((f2 0) + 64))) hx hb hr (fun t ht hW => ⟨⟨(((((f2 0) + 64) <<< (7 &&& 31)) ||| ((f2 0) + 64)) <<< (7 &&& 31)) ||| ((f2 0) + 64), (), rfl, rfl, by rw [ht]; exact hP9, va_K.moved hW.alike hK9, hD9⟩, hS.F ht⟩) hS.2.2 d_Progress_variablesKey_43
set_option maxHeartbeats 4000000 in
set_option maxRecDepth 100000 in
theorem c_Progress_registersKey (l : Launch) (dC : Nat → ClassId) (dI : Nat → Nat → Nat) (h0 : Nat) (h1 : Nat) (h2 : Nat) (h3 : Nat) (h4 : Nat) (p0 : Int32) (p1 : Int64) (k1 : ClassId) (sz : Nat) : Met l y_Progress_registersKey w_Progress_registersKey ({ frames := 0, cells := 0, slots := 0, locals := 0 }) (va_Pc [.ref h0] (fun U => U.heap.size = sz ∧ va_P (dC, dI) classes [oc h0 1 [.ref h1, .ref h2, .ref h3, .ref h4, .int p0, .long p1], ia h3 k1 8 (upd (upd (upd (upd (upd (upd (upd (upd (fun _ => 0) 0 0) 1 0) 2 0) 3 0) 4 0) 5 0) 6 0) 7 0)] U.heap ∧ va_K (dC, dI) classes [(k1, .int)] U ∧ va_D (fun _ => True) [oc h0 1 [.ref h1, .ref h2, .ref h3, .ref h4, .int p0, .long p1], ia h3 k1 8 (upd (upd (upd (upd (upd (upd (upd (upd (fun _ => 0) 0 0) 1 0) 2 0) 3 0) 4 0) 5 0) 6 0) 7 0)] ∧ nw U)) (va_Ql (fun (r : Int64) (_ : Unit) => r = 36312488334073920) (fun _ t => va_P (dC, dI) classes [oc h0 1 [.ref h1, .ref h2, .ref h3, .ref h4, .int p0, .long p1], ia h3 k1 8 (upd (upd (upd (upd (upd (upd (upd (upd (fun _ => 0) 0 0) 1 0) 2 0) 3 0) 4 0) 5 0) 6 0) 7 0)] t.heap ∧ va_K (dC, dI) classes [] t ∧ va_D (va_A [oc h0 1 [.ref h1, .ref h2, .ref h3, .ref h4, .int p0, .long p1], ia h3 k1 8 (upd (upd (upd (upd (upd (upd (upd (upd (fun _ => 0) 0 0) 1 0) 2 0) 3 0) 4 0) 5 0) 6 0) 7 0)] sz) [oc h0 1 [.ref h1, .ref h2, .ref h3, .ref h4, .int p0, .long p1], ia h3 k1 8 (upd (upd (upd (upd (upd (upd (upd (upd (fun _ => 0) 0 0) 1 0) 2 0) 3 0) 4 0) 5 0) 6 0) 7 0)]) (va_A [oc h0 1 [.ref h1, .ref h2, .ref h3, .ref h4, .int p0, .long p1], ia h3 k1 8 (upd (upd (upd (upd (upd (upd (upd (upd (fun _ => 0) 0 0) 1 0) 2 0) 3 0) 4 0) 5 0) 6 0) 7 0)] sz)) 0 0 (va_A [oc h0 1 [.ref h1, .ref h2, .ref h3, .ref h4, .int p0, .long p1], ia h3 k1 8 (upd (upd (upd (upd (upd (upd (upd (upd (fun _ => 0) 0 0) 1 0) 2 0) 3 0) 4 0) 5 0) 6 0) 7 0)] sz) := by
  refine Met.ofW (cc := b_Progress_registersKey) (maxL := 4) (ret := (some .long)) (by decide) rfl ?_
  intro p e s m args below meth c s₁ B hml hv
  obtain ⟨rfl, hsz, hP, hK, hD0, hn⟩ := hv
  have hx := B.exec
  have hb := B.bytes
  have hr := B.returns
  have hw := fun w (h : w ∈ wt) => atoms_spec (ws := w_Progress_registersKey) B.pre w (List.mem_cons_of_mem _ h)
  have hown : s.vm.findClass R_Progress = some m.cls := findClass_of_methodNamed B.named
  have hlocks := B.notSynchronized
  subst hsz
  have hD1 := hD0.self (sz := s.heap.size)
  generalize hAe : va_A [oc h0 1 [.ref h1, .ref h2, .ref h3, .ref h4, .int p0, .long p1], ia h3 k1 8 (upd (upd (upd (upd (upd (upd (upd (upd (fun _ => 0) 0 0) 1 0) 2 0) 3 0) 4 0) 5 0) 6 0) 7 0)] s.heap.size = A at hD1 ⊢
  have hA : ∀ q : Nat, s.heap.size ≤ q → A q := fun q h => by rw [← hAe]; exact Or.inr h
  have hD : dd A [h0, h3] := dd_of hD1 rfl
  clear hAe hD0 hD1
  have hS : va_S A s.heap s.heap [] := va_S.rf
  replace hP : va_P (dC, dI) classes [oc h0 1 [.ref h1, .ref h2, .ref h3, .ref h4, .int p0, .long p1], ia h3 k1 8 (upd (upd (upd (upd (upd (upd (upd (upd (fun _ => 0) 0 0) 1 0) 2 0) 3 0) 4 0) 5 0) 6 0) 7 0)] s.heap := hP
  have hl := lv_entry ([.ref h0]) (n := 4) (Nat.le_of_ble_eq_true rfl)
  rw [lg_entry_eq]
  generalize (lg_sl ([.ref h0]) ++ List.replicate (4 - (lg_sl ([.ref h0])).length) Slot.unset).toArray = ls at hl ⊢
  replace hl : lv_has ls 4 [(0, .ref h0)] := hl
  refine lv_lconst (v := 0) hx hb d_Progress_registersKey_0 (by decide) ?_
  refine lv_lstore_n (lv' := [(1, .long 0), (0, .ref h0)]) hx hb d_Progress_registersKey_1 rfl hl (by decide) rfl ?_
  clear hl ls
  intro ls hl
  refine lv_iconst (v := 0) hx hb d_Progress_registersKey_2 (by decide) ?_
  refine lv_istore_n (lv' := [(3, .int 0), (1, .long 0), (0, .ref h0)]) hx hb d_Progress_registersKey_3 rfl hl (by decide) rfl ?_
  clear hl ls
  intro ls hl
  refine lv_iload_n hx hb d_Progress_registersKey_4 rfl (lv_at hl 0 rfl) ?_
  refine lv_bipush (v := 8) hx hb d_Progress_registersKey_5 (by decide) ?_
  refine lv_icmp_ge (tgt := 32) hx hb d_Progress_registersKey_7 (by decide) (fun c_1 => absurd c_1 (by decide)) (fun c_1 => ?_)
  refine tp_pc (pc' := 10) (by rfl) ?_
  refine lv_lload_n hx hb d_Progress_registersKey_10 rfl (lv_at hl 1 rfl) ?_
  refine lv_bipush (v := 7) hx hb d_Progress_registersKey_11 (by decide) ?_
  refine lv_lshl (v := 0) hx hb d_Progress_registersKey_13 (by first | rfl | decide) ?_
  refine lv_aload_n hx hb d_Progress_registersKey_14 rfl (lv_at hl 2 rfl) ?_
  refine va_get (D := (dC, dI)) (ci := 1) (v := .ref h3) (C := R_Progress) (T := F_Progress) (N := 6) hx hb hw i_Progress hown hK hP 0 rfl rfl 2 (by decide) (hw _ m_206) (fun _ h9 => h9) rfl d_Progress_registersKey_15 ?_
  refine lv_iload_n hx hb d_Progress_registersKey_18 rfl (lv_at hl 0 rfl) ?_
  refine va_iald (D := (dC, dI)) hx hb hK hP 1 0 rfl rfl (i := 0) (vp_c (by decide)) d_Progress_registersKey_19 ?_
  refine tp_i (y := 0) (by first | rfl | decide) ?_
  refine lv_bipush (v := 64) hx hb d_Progress_registersKey_20 (by decide) ?_
  refine lv_iadd hx hb d_Progress_registersKey_22 ?_
  refine tp_i (y := 64) (by first | rfl | decide) ?_
  refine lv_i2l (v := 64) hx hb d_Progress_registersKey_23 (by decide) ?_
  refine lv_lor hx hb d_Progress_registersKey_24 ?_
  refine tp_l (y := 64) (by first | rfl | decide) ?_
  refine lv_lstore_n (lv' := [(1, .long 64), (3, .int 0), (0, .ref h0)]) hx hb d_Progress_registersKey_25 rfl hl (by decide) rfl ?_
  clear hl ls
  intro ls hl
  refine lv_iinc (v := 1) (lv' := [(3, .int 1), (1, .long 64), (0, .ref h0)]) hx hb d_Progress_registersKey_26 hl (k := 1) rfl (by first | rfl | decide) (by decide) rfl ?_
  clear hl ls
  intro ls hl
  refine lv_goto (tgt := 4) hx hb d_Progress_registersKey_29 (by decide) ?_
  refine tp_pc (pc' := 4) (by rfl) ?_
  refine lv_iload_n hx hb d_Progress_registersKey_4 rfl (lv_at hl 0 rfl) ?_
  refine lv_bipush (v := 8) hx hb d_Progress_registersKey_5 (by decide) ?_
  refine lv_icmp_ge (tgt := 32) hx hb d_Progress_registersKey_7 (by decide) (fun c_2 => absurd c_2 (by decide)) (fun c_2 => ?_)
  refine tp_pc (pc' := 10) (by rfl) ?_
  refine lv_lload_n hx hb d_Progress_registersKey_10 rfl (lv_at hl 1 rfl) ?_
  refine lv_bipush (v := 7) hx hb d_Progress_registersKey_11 (by decide) ?_
  refine lv_lshl (v := 8192) hx hb d_Progress_registersKey_13 (by first | rfl | decide) ?_
  refine lv_aload_n hx hb d_Progress_registersKey_14 rfl (lv_at hl 2 rfl) ?_
  refine va_get (D := (dC, dI)) (ci := 1) (v := .ref h3) (C := R_Progress) (T := F_Progress) (N := 6) hx hb hw i_Progress hown hK hP 0 rfl rfl 2 (by decide) (hw _ m_206) (fun _ h9 => h9) rfl d_Progress_registersKey_15 ?_
  refine lv_iload_n hx hb d_Progress_registersKey_18 rfl (lv_at hl 0 rfl) ?_
  refine va_iald (D := (dC, dI)) hx hb hK hP 1 0 rfl rfl (i := 1) (vp_c (by decide)) d_Progress_registersKey_19 ?_
  refine tp_i (y := 0) (by first | rfl | decide) ?_
  refine lv_bipush (v := 64) hx hb d_Progress_registersKey_20 (by decide) ?_
  refine lv_iadd hx hb d_Progress_registersKey_22 ?_
  refine tp_i (y := 64) (by first | rfl | decide) ?_
  refine lv_i2l (v := 64) hx hb d_Progress_registersKey_23 (by decide) ?_
  refine lv_lor hx hb d_Progress_registersKey_24 ?_
  refine tp_l (y := 8256) (by first | rfl | decide) ?_
  refine lv_lstore_n (lv' := [(1, .long 8256), (3, .int 1), (0, .ref h0)]) hx hb d_Progress_registersKey_25 rfl hl (by decide) rfl ?_
  clear hl ls
  intro ls hl
  refine lv_iinc (v := 2) (lv' := [(3, .int 2), (1, .long 8256), (0, .ref h0)]) hx hb d_Progress_registersKey_26 hl (k := 1) rfl (by first | rfl | decide) (by decide) rfl ?_
  clear hl ls
  intro ls hl
  refine lv_goto (tgt := 4) hx hb d_Progress_registersKey_29 (by decide) ?_
  refine tp_pc (pc' := 4) (by rfl) ?_
  refine lv_iload_n hx hb d_Progress_registersKey_4 rfl (lv_at hl 0 rfl) ?_
  refine lv_bipush (v := 8) hx hb d_Progress_registersKey_5 (by decide) ?_
  refine lv_icmp_ge (tgt := 32) hx hb d_Progress_registersKey_7 (by decide) (fun c_3 => absurd c_3 (by decide)) (fun c_3 => ?_)
  refine tp_pc (pc' := 10) (by rfl) ?_
  refine lv_lload_n hx hb d_Progress_registersKey_10 rfl (lv_at hl 1 rfl) ?_
  refine lv_bipush (v := 7) hx hb d_Progress_registersKey_11 (by decide) ?_
  refine lv_lshl (v := 1056768) hx hb d_Progress_registersKey_13 (by first | rfl | decide) ?_
  refine lv_aload_n hx hb d_Progress_registersKey_14 rfl (lv_at hl 2 rfl) ?_
  refine va_get (D := (dC, dI)) (ci := 1) (v := .ref h3) (C := R_Progress) (T := F_Progress) (N := 6) hx hb hw i_Progress hown hK hP 0 rfl rfl 2 (by decide) (hw _ m_206) (fun _ h9 => h9) rfl d_Progress_registersKey_15 ?_
  refine lv_iload_n hx hb d_Progress_registersKey_18 rfl (lv_at hl 0 rfl) ?_
  refine va_iald (D := (dC, dI)) hx hb hK hP 1 0 rfl rfl (i := 2) (vp_c (by decide)) d_Progress_registersKey_19 ?_
  refine tp_i (y := 0) (by first | rfl | decide) ?_
  refine lv_bipush (v := 64) hx hb d_Progress_registersKey_20 (by decide) ?_
  refine lv_iadd hx hb d_Progress_registersKey_22 ?_
  refine tp_i (y := 64) (by first | rfl | decide) ?_
  refine lv_i2l (v := 64) hx hb d_Progress_registersKey_23 (by decide) ?_
  refine lv_lor hx hb d_Progress_registersKey_24 ?_
  refine tp_l (y := 1056832) (by first | rfl | decide) ?_
  refine lv_lstore_n (lv' := [(1, .long 1056832), (3, .int 2), (0, .ref h0)]) hx hb d_Progress_registersKey_25 rfl hl (by decide) rfl ?_
  clear hl ls
  intro ls hl
  refine lv_iinc (v := 3) (lv' := [(3, .int 3), (1, .long 1056832), (0, .ref h0)]) hx hb d_Progress_registersKey_26 hl (k := 1) rfl (by first | rfl | decide) (by decide) rfl ?_
  clear hl ls
  intro ls hl
  refine lv_goto (tgt := 4) hx hb d_Progress_registersKey_29 (by decide) ?_
  refine tp_pc (pc' := 4) (by rfl) ?_
  refine lv_iload_n hx hb d_Progress_registersKey_4 rfl (lv_at hl 0 rfl) ?_
  refine lv_bipush (v := 8) hx hb d_Progress_registersKey_5 (by decide) ?_
  refine lv_icmp_ge (tgt := 32) hx hb d_Progress_registersKey_7 (by decide) (fun c_4 => absurd c_4 (by decide)) (fun c_4 => ?_)
  refine tp_pc (pc' := 10) (by rfl) ?_
  refine lv_lload_n hx hb d_Progress_registersKey_10 rfl (lv_at hl 1 rfl) ?_
  refine lv_bipush (v := 7) hx hb d_Progress_registersKey_11 (by decide) ?_
  refine lv_lshl (v := 135274496) hx hb d_Progress_registersKey_13 (by first | rfl | decide) ?_
  refine lv_aload_n hx hb d_Progress_registersKey_14 rfl (lv_at hl 2 rfl) ?_
  refine va_get (D := (dC, dI)) (ci := 1) (v := .ref h3) (C := R_Progress) (T := F_Progress) (N := 6) hx hb hw i_Progress hown hK hP 0 rfl rfl 2 (by decide) (hw _ m_206) (fun _ h9 => h9) rfl d_Progress_registersKey_15 ?_
  refine lv_iload_n hx hb d_Progress_registersKey_18 rfl (lv_at hl 0 rfl) ?_
  refine va_iald (D := (dC, dI)) hx hb hK hP 1 0 rfl rfl (i := 3) (vp_c (by decide)) d_Progress_registersKey_19 ?_
  refine tp_i (y := 0) (by first | rfl | decide) ?_
  refine lv_bipush (v := 64) hx hb d_Progress_registersKey_20 (by decide) ?_
  refine lv_iadd hx hb d_Progress_registersKey_22 ?_
  refine tp_i (y := 64) (by first | rfl | decide) ?_
  refine lv_i2l (v := 64) hx hb d_Progress_registersKey_23 (by decide) ?_
  refine lv_lor hx hb d_Progress_registersKey_24 ?_
  refine tp_l (y := 135274560) (by first | rfl | decide) ?_
  refine lv_lstore_n (lv' := [(1, .long 135274560), (3, .int 3), (0, .ref h0)]) hx hb d_Progress_registersKey_25 rfl hl (by decide) rfl ?_
  clear hl ls
  intro ls hl
  refine lv_iinc (v := 4) (lv' := [(3, .int 4), (1, .long 135274560), (0, .ref h0)]) hx hb d_Progress_registersKey_26 hl (k := 1) rfl (by first | rfl | decide) (by decide) rfl ?_
  clear hl ls
  intro ls hl
  refine lv_goto (tgt := 4) hx hb d_Progress_registersKey_29 (by decide) ?_
  refine tp_pc (pc' := 4) (by rfl) ?_
  refine lv_iload_n hx hb d_Progress_registersKey_4 rfl (lv_at hl 0 rfl) ?_
  refine lv_bipush (v := 8) hx hb d_Progress_registersKey_5 (by decide) ?_
  refine lv_icmp_ge (tgt := 32) hx hb d_Progress_registersKey_7 (by decide) (fun c_5 => absurd c_5 (by decide)) (fun c_5 => ?_)
  refine tp_pc (pc' := 10) (by rfl) ?_
  refine lv_lload_n hx hb d_Progress_registersKey_10 rfl (lv_at hl 1 rfl) ?_
  refine lv_bipush (v := 7) hx hb d_Progress_registersKey_11 (by decide) ?_
  refine lv_lshl (v := 17315143680) hx hb d_Progress_registersKey_13 (by first | rfl | decide) ?_
  refine lv_aload_n hx hb d_Progress_registersKey_14 rfl (lv_at hl 2 rfl) ?_
  refine va_get (D := (dC, dI)) (ci := 1) (v := .ref h3) (C := R_Progress) (T := F_Progress) (N := 6) hx hb hw i_Progress hown hK hP 0 rfl rfl 2 (by decide) (hw _ m_206) (fun _ h9 => h9) rfl d_Progress_registersKey_15 ?_
  refine lv_iload_n hx hb d_Progress_registersKey_18 rfl (lv_at hl 0 rfl) ?_
  refine va_iald (D := (dC, dI)) hx hb hK hP 1 0 rfl rfl (i := 4) (vp_c (by decide)) d_Progress_registersKey_19 ?_
  refine tp_i (y := 0) (by first | rfl | decide) ?_
  refine lv_bipush (v := 64) hx hb d_Progress_registersKey_20 (by decide) ?_
  refine lv_iadd hx hb d_Progress_registersKey_22 ?_
  refine tp_i (y := 64) (by first | rfl | decide) ?_
  refine lv_i2l (v := 64) hx hb d_Progress_registersKey_23 (by decide) ?_
  refine lv_lor hx hb d_Progress_registersKey_24 ?_
  refine tp_l (y := 17315143744) (by first | rfl | decide) ?_
  refine lv_lstore_n (lv' := [(1, .long 17315143744), (3, .int 4), (0, .ref h0)]) hx hb d_Progress_registersKey_25 rfl hl (by decide) rfl ?_
  clear hl ls
  intro ls hl
  refine lv_iinc (v := 5) (lv' := [(3, .int 5), (1, .long 17315143744), (0, .ref h0)]) hx hb d_Progress_registersKey_26 hl (k := 1) rfl (by first | rfl | decide) (by decide) rfl ?_
  clear hl ls
  intro ls hl
  refine lv_goto (tgt := 4) hx hb d_Progress_registersKey_29 (by decide) ?_
  refine tp_pc (pc' := 4) (by rfl) ?_
  refine lv_iload_n hx hb d_Progress_registersKey_4 rfl (lv_at hl 0 rfl) ?_
  refine lv_bipush (v := 8) hx hb d_Progress_registersKey_5 (by decide) ?_
  refine lv_icmp_ge (tgt := 32) hx hb d_Progress_registersKey_7 (by decide) (fun c_6 => absurd c_6 (by decide)) (fun c_6 => ?_)
  refine tp_pc (pc' := 10) (by rfl) ?_
  refine lv_lload_n hx hb d_Progress_registersKey_10 rfl (lv_at hl 1 rfl) ?_
  refine lv_bipush (v := 7) hx hb d_Progress_registersKey_11 (by decide) ?_
  refine lv_lshl (v := 2216338399232) hx hb d_Progress_registersKey_13 (by first | rfl | decide) ?_
  refine lv_aload_n hx hb d_Progress_registersKey_14 rfl (lv_at hl 2 rfl) ?_
  refine va_get (D := (dC, dI)) (ci := 1) (v := .ref h3) (C := R_Progress) (T := F_Progress) (N := 6) hx hb hw i_Progress hown hK hP 0 rfl rfl 2 (by decide) (hw _ m_206) (fun _ h9 => h9) rfl d_Progress_registersKey_15 ?_
  refine lv_iload_n hx hb d_Progress_registersKey_18 rfl (lv_at hl 0 rfl) ?_
  refine va_iald (D := (dC, dI)) hx hb hK hP 1 0 rfl rfl (i := 5) (vp_c (by decide)) d_Progress_registersKey_19 ?_
  refine tp_i (y := 0) (by first | rfl | decide) ?_
  refine lv_bipush (v := 64) hx hb d_Progress_registersKey_20 (by decide) ?_
  refine lv_iadd hx hb d_Progress_registersKey_22 ?_
  refine tp_i (y := 64) (by first | rfl | decide) ?_
  refine lv_i2l (v := 64) hx hb d_Progress_registersKey_23 (by decide) ?_
  refine lv_lor hx hb d_Progress_registersKey_24 ?_
  refine tp_l (y := 2216338399296) (by first | rfl | decide) ?_
  refine lv_lstore_n (lv' := [(1, .long 2216338399296), (3, .int 5), (0, .ref h0)]) hx hb d_Progress_registersKey_25 rfl hl (by decide) rfl ?_
  clear hl ls
  intro ls hl
  refine lv_iinc (v := 6) (lv' := [(3, .int 6), (1, .long 2216338399296), (0, .ref h0)]) hx hb d_Progress_registersKey_26 hl (k := 1) rfl (by first | rfl | decide) (by decide) rfl ?_
  clear hl ls
  intro ls hl
  refine lv_goto (tgt := 4) hx hb d_Progress_registersKey_29 (by decide) ?_
  refine tp_pc (pc' := 4) (by rfl) ?_
  refine lv_iload_n hx hb d_Progress_registersKey_4 rfl (lv_at hl 0 rfl) ?_
  refine lv_bipush (v := 8) hx hb d_Progress_registersKey_5 (by decide) ?_
  refine lv_icmp_ge (tgt := 32) hx hb d_Progress_registersKey_7 (by decide) (fun c_7 => absurd c_7 (by decide)) (fun c_7 => ?_)
  refine tp_pc (pc' := 10) (by rfl) ?_
  refine lv_lload_n hx hb d_Progress_registersKey_10 rfl (lv_at hl 1 rfl) ?_
  refine lv_bipush (v := 7) hx hb d_Progress_registersKey_11 (by decide) ?_
  refine lv_lshl (v := 283691315109888) hx hb d_Progress_registersKey_13 (by first | rfl | decide) ?_
  refine lv_aload_n hx hb d_Progress_registersKey_14 rfl (lv_at hl 2 rfl) ?_
  refine va_get (D := (dC, dI)) (ci := 1) (v := .ref h3) (C := R_Progress) (T := F_Progress) (N := 6) hx hb hw i_Progress hown hK hP 0 rfl rfl 2 (by decide) (hw _ m_206) (fun _ h9 => h9) rfl d_Progress_registersKey_15 ?_
  refine lv_iload_n hx hb d_Progress_registersKey_18 rfl (lv_at hl 0 rfl) ?_
  refine va_iald (D := (dC, dI)) hx hb hK hP 1 0 rfl rfl (i := 6) (vp_c (by decide)) d_Progress_registersKey_19 ?_
  refine tp_i (y := 0) (by first | rfl | decide) ?_
  refine lv_bipush (v := 64) hx hb d_Progress_registersKey_20 (by decide) ?_
  refine lv_iadd hx hb d_Progress_registersKey_22 ?_
  refine tp_i (y := 64) (by first | rfl | decide) ?_
  refine lv_i2l (v := 64) hx hb d_Progress_registersKey_23 (by decide) ?_
  refine lv_lor hx hb d_Progress_registersKey_24 ?_
  refine tp_l (y := 283691315109952) (by first | rfl | decide) ?_
  refine lv_lstore_n (lv' := [(1, .long 283691315109952), (3, .int 6), (0, .ref h0)]) hx hb d_Progress_registersKey_25 rfl hl (by decide) rfl ?_
  clear hl ls
  intro ls hl
  refine lv_iinc (v := 7) (lv' := [(3, .int 7), (1, .long 283691315109952), (0, .ref h0)]) hx hb d_Progress_registersKey_26 hl (k := 1) rfl (by first | rfl | decide) (by decide) rfl ?_
  clear hl ls
  intro ls hl
  refine lv_goto (tgt := 4) hx hb d_Progress_registersKey_29 (by decide) ?_
  refine tp_pc (pc' := 4) (by rfl) ?_
  refine lv_iload_n hx hb d_Progress_registersKey_4 rfl (lv_at hl 0 rfl) ?_
  refine lv_bipush (v := 8) hx hb d_Progress_registersKey_5 (by decide) ?_
  refine lv_icmp_ge (tgt := 32) hx hb d_Progress_registersKey_7 (by decide) (fun c_8 => absurd c_8 (by decide)) (fun c_8 => ?_)
  refine tp_pc (pc' := 10) (by rfl) ?_
  refine lv_lload_n hx hb d_Progress_registersKey_10 rfl (lv_at hl 1 rfl) ?_
  refine lv_bipush (v := 7) hx hb d_Progress_registersKey_11 (by decide) ?_
  refine lv_lshl (v := 36312488334073856) hx hb d_Progress_registersKey_13 (by first | rfl | decide) ?_
  refine lv_aload_n hx hb d_Progress_registersKey_14 rfl (lv_at hl 2 rfl) ?_
  refine va_get (D := (dC, dI)) (ci := 1) (v := .ref h3) (C := R_Progress) (T := F_Progress) (N := 6) hx hb hw i_Progress hown hK hP 0 rfl rfl 2 (by decide) (hw _ m_206) (fun _ h9 => h9) rfl d_Progress_registersKey_15 ?_
  refine lv_iload_n hx hb d_Progress_registersKey_18 rfl (lv_at hl 0 rfl) ?_
  refine va_iald (D := (dC, dI)) hx hb hK hP 1 0 rfl rfl (i := 7) (vp_c (by decide)) d_Progress_registersKey_19 ?_
  refine tp_i (y := 0) (by first | rfl | decide) ?_
  refine lv_bipush (v := 64) hx hb d_Progress_registersKey_20 (by decide) ?_
  refine lv_iadd hx hb d_Progress_registersKey_22 ?_
  refine tp_i (y := 64) (by first | rfl | decide) ?_
  refine lv_i2l (v := 64) hx hb d_Progress_registersKey_23 (by decide) ?_
  refine lv_lor hx hb d_Progress_registersKey_24 ?_
  refine tp_l (y := 36312488334073920) (by first | rfl | decide) ?_
  refine lv_lstore_n (lv' := [(1, .long 36312488334073920), (3, .int 7), (0, .ref h0)]) hx hb d_Progress_registersKey_25 rfl hl (by decide) rfl ?_
  clear hl ls
  intro ls hl
  refine lv_iinc (v := 8) (lv' := [(3, .int 8), (1, .long 36312488334073920), (0, .ref h0)]) hx hb d_Progress_registersKey_26 hl (k := 1) rfl (by first | rfl | decide) (by decide) rfl ?_
  clear hl ls
  intro ls hl
  refine lv_goto (tgt := 4) hx hb d_Progress_registersKey_29 (by decide) ?_
  refine tp_pc (pc' := 4) (by rfl) ?_
  refine lv_iload_n hx hb d_Progress_registersKey_4 rfl (lv_at hl 0 rfl) ?_
  refine lv_bipush (v := 8) hx hb d_Progress_registersKey_5 (by decide) ?_
  refine lv_icmp_ge (tgt := 32) hx hb d_Progress_registersKey_7 (by decide) (fun c_9 => ?_) (fun c_9 => absurd c_9 (by decide))
  refine tp_pc (pc' := 32) (by rfl) ?_
  refine lv_lload_n hx hb d_Progress_registersKey_32 rfl (lv_at hl 1 rfl) ?_
  obtain ⟨hP9, hD9, -⟩ := cut3 (wc := [oc h0 1 [.ref h1, .ref h2, .ref h3, .ref h4, .int p0, .long p1], ia h3 k1 8 (upd (upd (upd (upd (upd (upd (upd (upd (fun _ => 0) 0 0) 1 0) 2 0) 3 0) 4 0) 5 0) 6 0) 7 0)]) hP hD rfl hS hA [0, 1] (by decide +kernel) rfl
  have hK9 := hK.sub (tys' := []) [] rfl
  refine W.widen (k := 0) (n := 0) (by exact Nat.le_of_ble_eq_true rfl) (by exact Nat.le_of_ble_eq_true rfl) ?_
  exact W.lret (v := 36312488334073920) hx hb hr (fun t ht hW => ⟨⟨36312488334073920, (), rfl, rfl, by rw [ht]; exact hP9, va_K.moved hW.alike hK9, hD9⟩, hS.F ht⟩) hS.2.2 d_Progress_registersKey_33
set_option maxHeartbeats 4000000 in
set_option maxRecDepth 100000 in
theorem c_OutcomeSet_firstNotLess (l : Launch) (dC : Nat → ClassId) (dI : Nat → Nat → Nat) (h0 : Nat) (p0 : Int64) (p1 : Int32) (p2 : Int32) (h1 : Nat) (h2 : Nat) (h3 : Nat) (h4 : Nat) (h5 : Nat) (p4 : Int32) (p5 : Int32) (sz : Nat) : Met l y_OutcomeSet_firstNotLess w_OutcomeSet_firstNotLess ({ frames := 0, cells := 0, slots := 0, locals := 0 }) (va_Pc [.ref h0, .long p0, .int p1] (fun U => U.heap.size = sz ∧ va_P (dC, dI) classes [oc h0 3 [.int p2, .ref h1, .ref h2, .ref h3, .ref h4, .ref h5, .int 0, .int p4, .int p5]] U.heap ∧ va_K (dC, dI) classes [] U ∧ va_D (fun _ => True) [oc h0 3 [.int p2, .ref h1, .ref h2, .ref h3, .ref h4, .ref h5, .int 0, .int p4, .int p5]] ∧ nw U)) (va_Qi (fun (r : Int32) (_ : Unit) => r = 0) (fun _ t => va_P (dC, dI) classes [oc h0 3 [.int p2, .ref h1, .ref h2, .ref h3, .ref h4, .ref h5, .int 0, .int p4, .int p5]] t.heap ∧ va_K (dC, dI) classes [] t ∧ va_D (va_A [oc h0 3 [.int p2, .ref h1, .ref h2, .ref h3, .ref h4, .ref h5, .int 0, .int p4, .int p5]] sz) [oc h0 3 [.int p2, .ref h1, .ref h2, .ref h3, .ref h4, .ref h5, .int 0, .int p4, .int p5]]) (va_A [oc h0 3 [.int p2, .ref h1, .ref h2, .ref h3, .ref h4, .ref h5, .int 0, .int p4, .int p5]] sz)) 0 0 (va_A [oc h0 3 [.int p2, .ref h1, .ref h2, .ref h3, .ref h4, .ref h5, .int 0, .int p4, .int p5]] sz) := by
  refine Met.ofW (cc := b_OutcomeSet_firstNotLess) (maxL := 10) (ret := (some .int)) (by decide) rfl ?_
  intro p e s m args below meth c s₁ B hml hv
  obtain ⟨rfl, hsz, hP, hK, hD0, hn⟩ := hv
  have hx := B.exec
  have hb := B.bytes
  have hr := B.returns
  have hw := fun w (h : w ∈ wt) => atoms_spec (ws := w_OutcomeSet_firstNotLess) B.pre w (List.mem_cons_of_mem _ h)
  have hown : s.vm.findClass R_OutcomeSet = some m.cls := findClass_of_methodNamed B.named
  have hlocks := B.notSynchronized
  subst hsz
  have hD1 := hD0.self (sz := s.heap.size)
  generalize hAe : va_A [oc h0 3 [.int p2, .ref h1, .ref h2, .ref h3, .ref h4, .ref h5, .int 0, .int p4, .int p5]] s.heap.size = A at hD1 ⊢
  have hA : ∀ q : Nat, s.heap.size ≤ q → A q := fun q h => by rw [← hAe]; exact Or.inr h
  have hD : dd A [h0] := dd_of hD1 rfl
  clear hAe hD0 hD1
  have hS : va_S A s.heap s.heap [] := va_S.rf
  replace hP : va_P (dC, dI) classes [oc h0 3 [.int p2, .ref h1, .ref h2, .ref h3, .ref h4, .ref h5, .int 0, .int p4, .int p5]] s.heap := hP
  have hl := lv_entry ([.ref h0, .long p0, .int p1]) (n := 10) (Nat.le_of_ble_eq_true rfl)
  rw [lg_entry_eq]
  generalize (lg_sl ([.ref h0, .long p0, .int p1]) ++ List.replicate (10 - (lg_sl ([.ref h0, .long p0, .int p1])).length) Slot.unset).toArray = ls at hl ⊢
  replace hl : lv_has ls 10 [(0, .ref h0), (1, .long p0), (3, .int p1)] := hl
  refine lv_iconst (v := 0) hx hb d_OutcomeSet_firstNotLess_0 (by decide) ?_
  refine lv_istore (lv' := [(4, .int 0), (0, .ref h0), (1, .long p0), (3, .int p1)]) hx hb d_OutcomeSet_firstNotLess_1 hl (by decide) rfl ?_
  clear hl ls
  intro ls hl
  refine lv_aload_n hx hb d_OutcomeSet_firstNotLess_3 rfl (lv_at hl 1 rfl) ?_
  refine va_get (D := (dC, dI)) (ci := 3) (v := .int 0) (C := R_OutcomeSet) (T := F_OutcomeSet) (N := 9) hx hb hw i_OutcomeSet hown hK hP 0 rfl rfl 6 (by decide) (hw _ m_384) (fun _ h9 => h9) rfl d_OutcomeSet_firstNotLess_4 ?_
  refine lv_istore (lv' := [(5, .int 0), (4, .int 0), (0, .ref h0), (1, .long p0), (3, .int p1)]) hx hb d_OutcomeSet_firstNotLess_7 hl (by decide) rfl ?_
  clear hl ls
  intro ls hl
  refine lv_iconst (v := 0) hx hb d_OutcomeSet_firstNotLess_9 (by decide) ?_
  refine lv_istore (lv' := [(6, .int 0), (5, .int 0), (4, .int 0), (0, .ref h0), (1, .long p0), (3, .int p1)]) hx hb d_OutcomeSet_firstNotLess_10 hl (by decide) rfl ?_
  clear hl ls
  intro ls hl
  refine lv_iload hx hb d_OutcomeSet_firstNotLess_12 (lv_at hl 0 rfl) ?_
  refine lv_bipush (v := 32) hx hb d_OutcomeSet_firstNotLess_14 (by decide) ?_
  refine lv_icmp_ge (tgt := 110) hx hb d_OutcomeSet_firstNotLess_16 (by decide) (fun c_1 => absurd c_1 (by decide)) (fun c_1 => ?_)
  refine tp_pc (pc' := 19) (by rfl) ?_
  refine lv_iload hx hb d_OutcomeSet_firstNotLess_19 (lv_at hl 2 rfl) ?_
  refine lv_iload hx hb d_OutcomeSet_firstNotLess_21 (lv_at hl 1 rfl) ?_
  refine lv_icmp_ge (tgt := 110) hx hb d_OutcomeSet_firstNotLess_23 (by decide) (fun c_2 => ?_) (fun c_2 => absurd c_2 (by decide))
  refine tp_pc (pc' := 110) (by rfl) ?_
  refine lv_iload hx hb d_OutcomeSet_firstNotLess_110 (lv_at hl 2 rfl) ?_
  obtain ⟨hP9, hD9, -⟩ := cut3 (wc := [oc h0 3 [.int p2, .ref h1, .ref h2, .ref h3, .ref h4, .ref h5, .int 0, .int p4, .int p5]]) hP hD rfl hS hA [0] (by decide +kernel) rfl
  have hK9 := hK.sub (tys' := []) [] rfl
  refine W.widen (k := 0) (n := 0) (by exact Nat.le_of_ble_eq_true rfl) (by exact Nat.le_of_ble_eq_true rfl) ?_
  exact W.iret (v := 0) hx hb hr (fun t ht hW => ⟨⟨0, (), rfl, rfl, by rw [ht]; exact hP9, va_K.moved hW.alike hK9, hD9⟩, hS.F ht⟩) hS.2.2 d_OutcomeSet_firstNotLess_112
set_option maxHeartbeats 4000000 in
set_option maxRecDepth 100000 in
theorem c_OutcomeSet_isAt (l : Launch) (dC : Nat → ClassId) (dI : Nat → Nat → Nat) (h0 : Nat) (p1 : Int64) (p2 : Int32) (p3 : Int32) (h1 : Nat) (h2 : Nat) (h3 : Nat) (h4 : Nat) (h5 : Nat) (p5 : Int32) (p6 : Int32) (sz : Nat) : Met l y_OutcomeSet_isAt w_OutcomeSet_isAt ({ frames := 0, cells := 0, slots := 0, locals := 0 }) (va_Pc [.ref h0, .int 0, .long p1, .int p2] (fun U => U.heap.size = sz ∧ va_P (dC, dI) classes [oc h0 3 [.int p3, .ref h1, .ref h2, .ref h3, .ref h4, .ref h5, .int 0, .int p5, .int p6]] U.heap ∧ va_K (dC, dI) classes [] U ∧ va_D (fun _ => True) [oc h0 3 [.int p3, .ref h1, .ref h2, .ref h3, .ref h4, .ref h5, .int 0, .int p5, .int p6]] ∧ nw U)) (va_Qi (fun (r : Int32) (_ : Unit) => r = 0) (fun _ t => va_P (dC, dI) classes [oc h0 3 [.int p3, .ref h1, .ref h2, .ref h3, .ref h4, .ref h5, .int 0, .int p5, .int p6]] t.heap ∧ va_K (dC, dI) classes [] t ∧ va_D (va_A [oc h0 3 [.int p3, .ref h1, .ref h2, .ref h3, .ref h4, .ref h5, .int 0, .int p5, .int p6]] sz) [oc h0 3 [.int p3, .ref h1, .ref h2, .ref h3, .ref h4, .ref h5, .int 0, .int p5, .int p6]]) (va_A [oc h0 3 [.int p3, .ref h1, .ref h2, .ref h3, .ref h4, .ref h5, .int 0, .int p5, .int p6]] sz)) 0 0 (va_A [oc h0 3 [.int p3, .ref h1, .ref h2, .ref h3, .ref h4, .ref h5, .int 0, .int p5, .int p6]] sz) := by
  refine Met.ofW (cc := b_OutcomeSet_isAt) (maxL := 6) (ret := (some .boolean)) (by decide) rfl ?_
  intro p e s m args below meth c s₁ B hml hv
  obtain ⟨rfl, hsz, hP, hK, hD0, hn⟩ := hv
  have hx := B.exec
  have hb := B.bytes
  have hr := B.returns
  have hw := fun w (h : w ∈ wt) => atoms_spec (ws := w_OutcomeSet_isAt) B.pre w (List.mem_cons_of_mem _ h)
  have hown : s.vm.findClass R_OutcomeSet = some m.cls := findClass_of_methodNamed B.named
  have hlocks := B.notSynchronized
  subst hsz
  have hD1 := hD0.self (sz := s.heap.size)
  generalize hAe : va_A [oc h0 3 [.int p3, .ref h1, .ref h2, .ref h3, .ref h4, .ref h5, .int 0, .int p5, .int p6]] s.heap.size = A at hD1 ⊢
  have hA : ∀ q : Nat, s.heap.size ≤ q → A q := fun q h => by rw [← hAe]; exact Or.inr h
  have hD : dd A [h0] := dd_of hD1 rfl
  clear hAe hD0 hD1
  have hS : va_S A s.heap s.heap [] := va_S.rf
  replace hP : va_P (dC, dI) classes [oc h0 3 [.int p3, .ref h1, .ref h2, .ref h3, .ref h4, .ref h5, .int 0, .int p5, .int p6]] s.heap := hP
  have hl := lv_entry ([.ref h0, .int 0, .long p1, .int p2]) (n := 6) (Nat.le_of_ble_eq_true rfl)
  rw [lg_entry_eq]
  generalize (lg_sl ([.ref h0, .int 0, .long p1, .int p2]) ++ List.replicate (6 - (lg_sl ([.ref h0, .int 0, .long p1, .int p2])).length) Slot.unset).toArray = ls at hl ⊢
  replace hl : lv_has ls 6 [(0, .ref h0), (1, .int 0), (2, .long p1), (4, .int p2)] := hl
  refine lv_iload_n hx hb d_OutcomeSet_isAt_0 rfl (lv_at hl 1 rfl) ?_
  refine lv_aload_n hx hb d_OutcomeSet_isAt_1 rfl (lv_at hl 0 rfl) ?_
  refine va_get (D := (dC, dI)) (ci := 3) (v := .int 0) (C := R_OutcomeSet) (T := F_OutcomeSet) (N := 9) hx hb hw i_OutcomeSet hown hK hP 0 rfl rfl 6 (by decide) (hw _ m_384) (fun _ h9 => h9) rfl d_OutcomeSet_isAt_2 ?_
  refine lv_icmp_lt (tgt := 10) hx hb d_OutcomeSet_isAt_5 (by decide) (fun c_1 => absurd c_1 (by decide)) (fun c_1 => ?_)
  refine tp_pc (pc' := 8) (by rfl) ?_
  refine lv_iconst (v := 0) hx hb d_OutcomeSet_isAt_8 (by decide) ?_
  obtain ⟨hP9, hD9, -⟩ := cut3 (wc := [oc h0 3 [.int p3, .ref h1, .ref h2, .ref h3, .ref h4, .ref h5, .int 0, .int p5, .int p6]]) hP hD rfl hS hA [0] (by decide +kernel) rfl
  have hK9 := hK.sub (tys' := []) [] rfl
  refine W.widen (k := 0) (n := 0) (by exact Nat.le_of_ble_eq_true rfl) (by exact Nat.le_of_ble_eq_true rfl) ?_
  exact W.zret (v := 0) (ty := .boolean) hx hb hr (by decide) (fun t ht hW => ⟨⟨0, (), rfl, rfl, by rw [ht]; exact hP9, va_K.moved hW.alike hK9, hD9⟩, hS.F ht⟩) hS.2.2 d_OutcomeSet_isAt_9
set_option maxHeartbeats 4000000 in
set_option maxRecDepth 100000 in
theorem c_Arrays_copyOf2_v2 (l : Launch) (dC : Nat → ClassId) (dI : Nat → Nat → Nat) (h0 : Nat) (k0 : ClassId) (f0 : Nat → Int64) (sz : Nat) : Met l y_Arrays_copyOf2 w_Arrays_copyOf2 ({ frames := 1, cells := 1, slots := 8, locals := 48 }) (va_Pc [.ref h0, .int 8] (fun U => U.heap.size = sz ∧ va_P (dC, dI) classes [la h0 k0 0 f0] U.heap ∧ va_K (dC, dI) classes [(k0, .long)] U ∧ va_D (fun _ => True) [la h0 k0 0 f0] ∧ nw U)) (va_Qr (fun _ : Unit => True) (fun _ a t => ∃ (q_2 : Nat) (k_3 : ClassId), a = q_2 ∧ va_P (dC, dI) classes [la h0 k0 0 f0, la q_2 k_3 8 (fun _ => 0)] t.heap ∧ va_K (dC, dI) classes [(k_3, .long)] t ∧ va_D (va_A [la h0 k0 0 f0] sz) [la h0 k0 0 f0, la q_2 k_3 8 (fun _ => 0)]) (va_A [la h0 k0 0 f0] sz)) 1 8 (va_A [la h0 k0 0 f0] sz) := by
  refine Met.ofW (cc := b_Arrays_copyOf2) (maxL := 3) (ret := (some (.array .long))) (by decide) rfl ?_
  intro p e s m args below meth c s₁ B hml hv
  obtain ⟨rfl, hsz, hP, hK, hD0, hn⟩ := hv
  have hx := B.exec
  have hb := B.bytes
  have hr := B.returns
  have hw := fun w (h : w ∈ wt) => atoms_spec (ws := w_Arrays_copyOf2) B.pre w (List.mem_cons_of_mem _ h)
  have hown : s.vm.findClass R_Arrays = some m.cls := findClass_of_methodNamed B.named
  have hlocks := B.notSynchronized
  subst hsz
  have hD1 := hD0.self (sz := s.heap.size)
  generalize hAe : va_A [la h0 k0 0 f0] s.heap.size = A at hD1 ⊢
  have hA : ∀ q : Nat, s.heap.size ≤ q → A q := fun q h => by rw [← hAe]; exact Or.inr h
  have hD : dd A [h0] := dd_of hD1 rfl
  clear hAe hD0 hD1
  have hS : va_S A s.heap s.heap [] := va_S.rf
  replace hP : va_P (dC, dI) classes [la h0 k0 0 f0] s.heap := hP
  have hl := lv_entry ([.ref h0, .int 8]) (n := 3) (Nat.le_of_ble_eq_true rfl)
  rw [lg_entry_eq]
  generalize (lg_sl ([.ref h0, .int 8]) ++ List.replicate (3 - (lg_sl ([.ref h0, .int 8])).length) Slot.unset).toArray = ls at hl ⊢
  replace hl : lv_has ls 3 [(0, .ref h0), (1, .int 8)] := hl
  refine lv_iload_n hx hb d_Arrays_copyOf2_0 rfl (lv_at hl 1 rfl) ?_
  refine lv_aload_n hx hb d_Arrays_copyOf2_1 rfl (lv_at hl 0 rfl) ?_
  refine va_alen (D := (dC, dI)) hx hb hK hP 0 0 rfl rfl (v := 0) (by rfl) d_Arrays_copyOf2_2 ?_
  refine lv_icmp_ne (tgt := 14) hx hb d_Arrays_copyOf2_3 (by decide) (fun c_1 => ?_) (fun c_1 => absurd c_1 (by decide))
  refine tp_pc (pc' := 14) (by rfl) ?_
  refine lv_iload_n hx hb d_Arrays_copyOf2_14 rfl (lv_at hl 1 rfl) ?_
  refine va_newa (atype := .long) (a0 := (8, .inr (.inl (fun _ => 0)))) (N' := 8) hx hb (hw _ m_243) rfl hK hP (dd_D hD rfl) hS hA (fun _ => rfl) (by decide) (by decide) (Nat.le_of_ble_eq_true rfl) (Nat.le_of_ble_eq_true rfl) (Nat.le_of_ble_eq_true rfl) d_Arrays_copyOf2_15 ?_
  clear hP hS hK
  intro q_2 k_3 H1 (hK : va_K (dC, dI) classes [(k0, .long), (k_3, .long)] s) (hP : va_P (dC, dI) classes [la h0 k0 0 f0, la q_2 k_3 8 (fun _ => 0)] H1) hD1 hS
  replace hD : dd A [h0, q_2] := dd_of hD1 rfl
  clear hD1
  revert H1
  intro H hP hS
  refine W.widen (k := 1) (n := 8) (by exact Nat.le_of_ble_eq_true rfl) (by exact Nat.le_of_ble_eq_true rfl) ?_
  refine tp_pc (pc' := 17) (by rfl) ?_
  refine lv_astore_n (lv' := [(2, .ref q_2), (0, .ref h0), (1, .int 8)]) hx hb d_Arrays_copyOf2_17 rfl hl (by decide) rfl ?_
  clear hl ls
  intro ls hl
  refine lv_aload_n hx hb d_Arrays_copyOf2_18 rfl (lv_at hl 1 rfl) ?_
  refine lv_iconst (v := 0) hx hb d_Arrays_copyOf2_19 (by decide) ?_
  refine lv_aload_n hx hb d_Arrays_copyOf2_20 rfl (lv_at hl 0 rfl) ?_
  refine lv_iconst (v := 0) hx hb d_Arrays_copyOf2_21 (by decide) ?_
  refine lv_aload_n hx hb d_Arrays_copyOf2_22 rfl (lv_at hl 1 rfl) ?_
  refine va_alen (D := (dC, dI)) hx hb hK hP 0 0 rfl rfl (v := 0) (by rfl) d_Arrays_copyOf2_23 ?_
  refine lv_iload_n hx hb d_Arrays_copyOf2_24 rfl (lv_at hl 2 rfl) ?_
  refine va_mmin hx hb (hml.trans hl.1.symm) hown (hw _ m_529) (hw _ m_530) (hw _ m_111) (hw _ m_531) (Nat.le_of_ble_eq_true rfl) (by exact Nat.le_of_ble_eq_true rfl) (by exact Nat.le_of_ble_eq_true rfl) (by exact Nat.le_of_ble_eq_true rfl) d_Arrays_copyOf2_25 ?_
  refine tp_i (y := 0) (by first | rfl | decide) ?_
  refine tp_pc (pc' := 28) (by rfl) ?_
  refine va_copyl hx hb (hml.trans hl.1.symm) hown (hw _ m_532) (hw _ m_534) (hw _ m_533) (hw _ m_112) hK hP (dd_D hD rfl) hS 0 1 0 1 rfl rfl rfl rfl rfl (sp := 0) (dp := 0) (n := 0) (by decide) (by decide) (by decide) (by decide) (by decide) (fun i hi => absurd hi (by simp)) (Nat.le_of_ble_eq_true rfl) (by exact Nat.le_of_ble_eq_true rfl) d_Arrays_copyOf2_28 ?_
  clear hP hS H
  intro H locs hP _ hS
  replace hP : va_P (dC, dI) classes [la h0 k0 0 f0, la q_2 k_3 8 (fun _ => 0)] H := P_cgL 1 rfl cp_pt hP
  refine tp_pc (pc' := 31) (by rfl) ?_
  refine lv_aload_n hx hb d_Arrays_copyOf2_31 rfl (lv_at hl 0 rfl) ?_
  obtain ⟨hP9, hD9, -⟩ := cut3 (wc := [la h0 k0 0 f0, la q_2 k_3 8 (fun _ => 0)]) hP hD rfl hS hA [0, 1] (by decide +kernel) rfl
  have hK9 := hK.sub (tys' := [(k_3, .long)]) [1] rfl
  refine W.widen (k := 1) (n := 8) (by exact Nat.le_of_ble_eq_true rfl) (by exact Nat.le_of_ble_eq_true rfl) ?_
  exact W.aret hx hb hr (by first | exact Or.inl ⟨_, rfl⟩ | exact Or.inr ⟨_, rfl⟩) (Or.inr ⟨_, rfl⟩) (fun t ht hW => ⟨⟨(), q_2, rfl, trivial, q_2, k_3, rfl, by rw [ht]; exact hP9, va_K.moved hW.alike hK9, hD9⟩, hS.F ht⟩) hS.2.2 d_Arrays_copyOf2_32
set_option maxHeartbeats 4000000 in
set_option maxRecDepth 100000 in
theorem c_Arrays_copyOf (l : Launch) (dC : Nat → ClassId) (dI : Nat → Nat → Nat) (h0 : Nat) (k0 : ClassId) (f0 : Nat → Int32) (sz : Nat) : Met l y_Arrays_copyOf w_Arrays_copyOf ({ frames := 1, cells := 1, slots := 8, locals := 48 }) (va_Pc [.ref h0, .int 8] (fun U => U.heap.size = sz ∧ va_P (dC, dI) classes [ia h0 k0 0 f0] U.heap ∧ va_K (dC, dI) classes [(k0, .int)] U ∧ va_D (fun _ => True) [ia h0 k0 0 f0] ∧ nw U)) (va_Qr (fun _ : Unit => True) (fun _ a t => ∃ (q_2 : Nat) (k_3 : ClassId), a = q_2 ∧ va_P (dC, dI) classes [ia h0 k0 0 f0, ia q_2 k_3 8 (fun _ => 0)] t.heap ∧ va_K (dC, dI) classes [(k_3, .int)] t ∧ va_D (va_A [ia h0 k0 0 f0] sz) [ia h0 k0 0 f0, ia q_2 k_3 8 (fun _ => 0)]) (va_A [ia h0 k0 0 f0] sz)) 1 8 (va_A [ia h0 k0 0 f0] sz) := by
  refine Met.ofW (cc := b_Arrays_copyOf) (maxL := 3) (ret := (some (.array .int))) (by decide) rfl ?_
  intro p e s m args below meth c s₁ B hml hv
  obtain ⟨rfl, hsz, hP, hK, hD0, hn⟩ := hv
  have hx := B.exec
  have hb := B.bytes
  have hr := B.returns
  have hw := fun w (h : w ∈ wt) => atoms_spec (ws := w_Arrays_copyOf) B.pre w (List.mem_cons_of_mem _ h)
  have hown : s.vm.findClass R_Arrays = some m.cls := findClass_of_methodNamed B.named
  have hlocks := B.notSynchronized
  subst hsz
  have hD1 := hD0.self (sz := s.heap.size)
  generalize hAe : va_A [ia h0 k0 0 f0] s.heap.size = A at hD1 ⊢
  have hA : ∀ q : Nat, s.heap.size ≤ q → A q := fun q h => by rw [← hAe]; exact Or.inr h
  have hD : dd A [h0] := dd_of hD1 rfl
  clear hAe hD0 hD1
  have hS : va_S A s.heap s.heap [] := va_S.rf
  replace hP : va_P (dC, dI) classes [ia h0 k0 0 f0] s.heap := hP
  have hl := lv_entry ([.ref h0, .int 8]) (n := 3) (Nat.le_of_ble_eq_true rfl)
  rw [lg_entry_eq]
  generalize (lg_sl ([.ref h0, .int 8]) ++ List.replicate (3 - (lg_sl ([.ref h0, .int 8])).length) Slot.unset).toArray = ls at hl ⊢
  replace hl : lv_has ls 3 [(0, .ref h0), (1, .int 8)] := hl
  refine lv_iload_n hx hb d_Arrays_copyOf_0 rfl (lv_at hl 1 rfl) ?_
  refine lv_aload_n hx hb d_Arrays_copyOf_1 rfl (lv_at hl 0 rfl) ?_
  refine va_alen (D := (dC, dI)) hx hb hK hP 0 0 rfl rfl (v := 0) (by rfl) d_Arrays_copyOf_2 ?_
  refine lv_icmp_ne (tgt := 14) hx hb d_Arrays_copyOf_3 (by decide) (fun c_1 => ?_) (fun c_1 => absurd c_1 (by decide))
  refine tp_pc (pc' := 14) (by rfl) ?_
  refine lv_iload_n hx hb d_Arrays_copyOf_14 rfl (lv_at hl 1 rfl) ?_
  refine va_newa (atype := .int) (a0 := (8, .inl (fun _ => 0))) (N' := 8) hx hb (hw _ m_196) rfl hK hP (dd_D hD rfl) hS hA (fun _ => rfl) (by decide) (by decide) (Nat.le_of_ble_eq_true rfl) (Nat.le_of_ble_eq_true rfl) (Nat.le_of_ble_eq_true rfl) d_Arrays_copyOf_15 ?_
  clear hP hS hK
  intro q_2 k_3 H1 (hK : va_K (dC, dI) classes [(k0, .int), (k_3, .int)] s) (hP : va_P (dC, dI) classes [ia h0 k0 0 f0, ia q_2 k_3 8 (fun _ => 0)] H1) hD1 hS
  replace hD : dd A [h0, q_2] := dd_of hD1 rfl
  clear hD1
  revert H1
  intro H hP hS
  refine W.widen (k := 1) (n := 8) (by exact Nat.le_of_ble_eq_true rfl) (by exact Nat.le_of_ble_eq_true rfl) ?_
  refine tp_pc (pc' := 17) (by rfl) ?_
  refine lv_astore_n (lv' := [(2, .ref q_2), (0, .ref h0), (1, .int 8)]) hx hb d_Arrays_copyOf_17 rfl hl (by decide) rfl ?_
  clear hl ls
  intro ls hl
  refine lv_aload_n hx hb d_Arrays_copyOf_18 rfl (lv_at hl 1 rfl) ?_
  refine lv_iconst (v := 0) hx hb d_Arrays_copyOf_19 (by decide) ?_
  refine lv_aload_n hx hb d_Arrays_copyOf_20 rfl (lv_at hl 0 rfl) ?_
  refine lv_iconst (v := 0) hx hb d_Arrays_copyOf_21 (by decide) ?_
  refine lv_aload_n hx hb d_Arrays_copyOf_22 rfl (lv_at hl 1 rfl) ?_
  refine va_alen (D := (dC, dI)) hx hb hK hP 0 0 rfl rfl (v := 0) (by rfl) d_Arrays_copyOf_23 ?_
  refine lv_iload_n hx hb d_Arrays_copyOf_24 rfl (lv_at hl 2 rfl) ?_
  refine va_mmin hx hb (hml.trans hl.1.symm) hown (hw _ m_529) (hw _ m_530) (hw _ m_111) (hw _ m_531) (Nat.le_of_ble_eq_true rfl) (by exact Nat.le_of_ble_eq_true rfl) (by exact Nat.le_of_ble_eq_true rfl) (by exact Nat.le_of_ble_eq_true rfl) d_Arrays_copyOf_25 ?_
  refine tp_i (y := 0) (by first | rfl | decide) ?_
  refine tp_pc (pc' := 28) (by rfl) ?_
  refine va_copyi hx hb (hml.trans hl.1.symm) hown (hw _ m_532) (hw _ m_534) (hw _ m_533) (hw _ m_112) hK hP (dd_D hD rfl) hS 0 1 0 1 rfl rfl rfl rfl rfl (sp := 0) (dp := 0) (n := 0) (by decide) (by decide) (by decide) (by decide) (by decide) (fun i hi => absurd hi (by simp)) (Nat.le_of_ble_eq_true rfl) (by exact Nat.le_of_ble_eq_true rfl) d_Arrays_copyOf_28 ?_
  clear hP hS H
  intro H locs hP _ hS
  replace hP : va_P (dC, dI) classes [ia h0 k0 0 f0, ia q_2 k_3 8 (fun _ => 0)] H := P_cg 1 rfl cp_pt hP
  refine tp_pc (pc' := 31) (by rfl) ?_
  refine lv_aload_n hx hb d_Arrays_copyOf_31 rfl (lv_at hl 0 rfl) ?_
  obtain ⟨hP9, hD9, -⟩ := cut3 (wc := [ia h0 k0 0 f0, ia q_2 k_3 8 (fun _ => 0)]) hP hD rfl hS hA [0, 1] (by decide +kernel) rfl
  have hK9 := hK.sub (tys' := [(k_3, .int)]) [1] rfl
  refine W.widen (k := 1) (n := 8) (by exact Nat.le_of_ble_eq_true rfl) (by exact Nat.le_of_ble_eq_true rfl) ?_
  exact W.aret hx hb hr (by first | exact Or.inl ⟨_, rfl⟩ | exact Or.inr ⟨_, rfl⟩) (Or.inr ⟨_, rfl⟩) (fun t ht hW => ⟨⟨(), q_2, rfl, trivial, q_2, k_3, rfl, by rw [ht]; exact hP9, va_K.moved hW.alike hK9, hD9⟩, hS.F ht⟩) hS.2.2 d_Arrays_copyOf_32
set_option maxHeartbeats 4000000 in
set_option maxRecDepth 100000 in
theorem c_Arrays_copyOf_v2 (l : Launch) (dC : Nat → ClassId) (dI : Nat → Nat → Nat) (h0 : Nat) (k0 : ClassId) (f0 : Nat → Int32) (sz : Nat) : Met l y_Arrays_copyOf w_Arrays_copyOf ({ frames := 1, cells := 1, slots := 56, locals := 48 }) (va_Pc [.ref h0, .int 56] (fun U => U.heap.size = sz ∧ va_P (dC, dI) classes [ia h0 k0 0 f0] U.heap ∧ va_K (dC, dI) classes [(k0, .int)] U ∧ va_D (fun _ => True) [ia h0 k0 0 f0] ∧ nw U)) (va_Qr (fun _ : Unit => True) (fun _ a t => ∃ (q_2 : Nat) (k_3 : ClassId), a = q_2 ∧ va_P (dC, dI) classes [ia h0 k0 0 f0, ia q_2 k_3 56 (fun _ => 0)] t.heap ∧ va_K (dC, dI) classes [(k_3, .int)] t ∧ va_D (va_A [ia h0 k0 0 f0] sz) [ia h0 k0 0 f0, ia q_2 k_3 56 (fun _ => 0)]) (va_A [ia h0 k0 0 f0] sz)) 1 56 (va_A [ia h0 k0 0 f0] sz) := by
  refine Met.ofW (cc := b_Arrays_copyOf) (maxL := 3) (ret := (some (.array .int))) (by decide) rfl ?_
  intro p e s m args below meth c s₁ B hml hv
  obtain ⟨rfl, hsz, hP, hK, hD0, hn⟩ := hv
  have hx := B.exec
  have hb := B.bytes
  have hr := B.returns
  have hw := fun w (h : w ∈ wt) => atoms_spec (ws := w_Arrays_copyOf) B.pre w (List.mem_cons_of_mem _ h)
  have hown : s.vm.findClass R_Arrays = some m.cls := findClass_of_methodNamed B.named
  have hlocks := B.notSynchronized
  subst hsz
  have hD1 := hD0.self (sz := s.heap.size)
  generalize hAe : va_A [ia h0 k0 0 f0] s.heap.size = A at hD1 ⊢
  have hA : ∀ q : Nat, s.heap.size ≤ q → A q := fun q h => by rw [← hAe]; exact Or.inr h
  have hD : dd A [h0] := dd_of hD1 rfl
  clear hAe hD0 hD1
  have hS : va_S A s.heap s.heap [] := va_S.rf
  replace hP : va_P (dC, dI) classes [ia h0 k0 0 f0] s.heap := hP
  have hl := lv_entry ([.ref h0, .int 56]) (n := 3) (Nat.le_of_ble_eq_true rfl)
  rw [lg_entry_eq]
  generalize (lg_sl ([.ref h0, .int 56]) ++ List.replicate (3 - (lg_sl ([.ref h0, .int 56])).length) Slot.unset).toArray = ls at hl ⊢
  replace hl : lv_has ls 3 [(0, .ref h0), (1, .int 56)] := hl
  refine lv_iload_n hx hb d_Arrays_copyOf_0 rfl (lv_at hl 1 rfl) ?_
  refine lv_aload_n hx hb d_Arrays_copyOf_1 rfl (lv_at hl 0 rfl) ?_
  refine va_alen (D := (dC, dI)) hx hb hK hP 0 0 rfl rfl (v := 0) (by rfl) d_Arrays_copyOf_2 ?_
  refine lv_icmp_ne (tgt := 14) hx hb d_Arrays_copyOf_3 (by decide) (fun c_1 => ?_) (fun c_1 => absurd c_1 (by decide))
  refine tp_pc (pc' := 14) (by rfl) ?_
  refine lv_iload_n hx hb d_Arrays_copyOf_14 rfl (lv_at hl 1 rfl) ?_
  refine va_newa (atype := .int) (a0 := (56, .inl (fun _ => 0))) (N' := 56) hx hb (hw _ m_196) rfl hK hP (dd_D hD rfl) hS hA (fun _ => rfl) (by decide) (by decide) (Nat.le_of_ble_eq_true rfl) (Nat.le_of_ble_eq_true rfl) (Nat.le_of_ble_eq_true rfl) d_Arrays_copyOf_15 ?_
  clear hP hS hK
  intro q_2 k_3 H1 (hK : va_K (dC, dI) classes [(k0, .int), (k_3, .int)] s) (hP : va_P (dC, dI) classes [ia h0 k0 0 f0, ia q_2 k_3 56 (fun _ => 0)] H1) hD1 hS
  replace hD : dd A [h0, q_2] := dd_of hD1 rfl
  clear hD1
  revert H1
  intro H hP hS
  refine W.widen (k := 1) (n := 56) (by exact Nat.le_of_ble_eq_true rfl) (by exact Nat.le_of_ble_eq_true rfl) ?_
  refine tp_pc (pc' := 17) (by rfl) ?_
  refine lv_astore_n (lv' := [(2, .ref q_2), (0, .ref h0), (1, .int 56)]) hx hb d_Arrays_copyOf_17 rfl hl (by decide) rfl ?_
  clear hl ls
  intro ls hl
  refine lv_aload_n hx hb d_Arrays_copyOf_18 rfl (lv_at hl 1 rfl) ?_
  refine lv_iconst (v := 0) hx hb d_Arrays_copyOf_19 (by decide) ?_
  refine lv_aload_n hx hb d_Arrays_copyOf_20 rfl (lv_at hl 0 rfl) ?_
  refine lv_iconst (v := 0) hx hb d_Arrays_copyOf_21 (by decide) ?_
  refine lv_aload_n hx hb d_Arrays_copyOf_22 rfl (lv_at hl 1 rfl) ?_
  refine va_alen (D := (dC, dI)) hx hb hK hP 0 0 rfl rfl (v := 0) (by rfl) d_Arrays_copyOf_23 ?_
  refine lv_iload_n hx hb d_Arrays_copyOf_24 rfl (lv_at hl 2 rfl) ?_
  refine va_mmin hx hb (hml.trans hl.1.symm) hown (hw _ m_529) (hw _ m_530) (hw _ m_111) (hw _ m_531) (Nat.le_of_ble_eq_true rfl) (by exact Nat.le_of_ble_eq_true rfl) (by exact Nat.le_of_ble_eq_true rfl) (by exact Nat.le_of_ble_eq_true rfl) d_Arrays_copyOf_25 ?_
  refine tp_i (y := 0) (by first | rfl | decide) ?_
  refine tp_pc (pc' := 28) (by rfl) ?_
  refine va_copyi hx hb (hml.trans hl.1.symm) hown (hw _ m_532) (hw _ m_534) (hw _ m_533) (hw _ m_112) hK hP (dd_D hD rfl) hS 0 1 0 1 rfl rfl rfl rfl rfl (sp := 0) (dp := 0) (n := 0) (by decide) (by decide) (by decide) (by decide) (by decide) (fun i hi => absurd hi (by simp)) (Nat.le_of_ble_eq_true rfl) (by exact Nat.le_of_ble_eq_true rfl) d_Arrays_copyOf_28 ?_
  clear hP hS H
  intro H locs hP _ hS
  replace hP : va_P (dC, dI) classes [ia h0 k0 0 f0, ia q_2 k_3 56 (fun _ => 0)] H := P_cg 1 rfl cp_pt hP
  refine tp_pc (pc' := 31) (by rfl) ?_
  refine lv_aload_n hx hb d_Arrays_copyOf_31 rfl (lv_at hl 0 rfl) ?_
  obtain ⟨hP9, hD9, -⟩ := cut3 (wc := [ia h0 k0 0 f0, ia q_2 k_3 56 (fun _ => 0)]) hP hD rfl hS hA [0, 1] (by decide +kernel) rfl
  have hK9 := hK.sub (tys' := [(k_3, .int)]) [1] rfl
  refine W.widen (k := 1) (n := 56) (by exact Nat.le_of_ble_eq_true rfl) (by exact Nat.le_of_ble_eq_true rfl) ?_
  exact W.aret hx hb hr (by first | exact Or.inl ⟨_, rfl⟩ | exact Or.inr ⟨_, rfl⟩) (Or.inr ⟨_, rfl⟩) (fun t ht hW => ⟨⟨(), q_2, rfl, trivial, q_2, k_3, rfl, by rw [ht]; exact hP9, va_K.moved hW.alike hK9, hD9⟩, hS.F ht⟩) hS.2.2 d_Arrays_copyOf_32
