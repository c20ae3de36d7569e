set_option maxHeartbeats 4000000 in
set_option maxRecDepth 100000 in
theorem gen_fill (l : Launch) (dC : Nat → ClassId) (dI : Nat → Nat → Nat) (h0 : Nat) (k0 : ClassId) (n9 : Nat) (f : Nat → Int32) (v : Int32) (hN : n9 < 2 ^ 31) (sz : Nat) : Met l y_Arrays_fill w_Arrays_fill ({ frames := 0, cells := 0, slots := 0, locals := 0 }) (va_Pc [.ref h0, .int v] (fun U => U.heap.size = sz ∧ va_P (dC, dI) classes [ia h0 k0 n9 f] U.heap ∧ va_K (dC, dI) classes [(k0, .int)] U ∧ va_D (fun _ => True) [ia h0 k0 n9 f] ∧ nw U)) (va_Qv (fun _ : Unit => True) (fun _ t9 => va_P (dC, dI) classes [ia h0 k0 n9 (fun _ => v)] t9.heap ∧ va_K (dC, dI) classes [] t9 ∧ va_D (va_A [ia h0 k0 n9 f] sz) [ia h0 k0 n9 (fun _ => v)]) (va_A [ia h0 k0 n9 f] sz)) 0 0 (va_A [ia h0 k0 n9 f] sz) := by
  refine Met.ofW (cc := b_Arrays_fill) (maxL := 4) (ret := none) (by decide) rfl ?_
  intro p e0 s m args below meth c s₁ B hml hv
  obtain ⟨rfl, hsz, hP, hK, hD0, hn⟩ := hv
  have hx := B.exec
  have hb := B.bytes
  have hr := B.returns
  have hw := fun w (h : w ∈ wt) => atoms_spec (ws := w_Arrays_fill) B.pre w (List.mem_cons_of_mem _ h)
  have hown : s.vm.findClass R_Arrays = some m.cls := findClass_of_methodNamed B.named
  have hlocks := B.notSynchronized
  subst hsz
  have hD1 := hD0.self (sz := s.heap.size)
  generalize hAe : va_A [ia h0 k0 n9 f] s.heap.size = A at hD1 ⊢
  have hA : ∀ q : Nat, s.heap.size ≤ q → A q := fun q h => by rw [← hAe]; exact Or.inr h
  have hD : dd A [h0] := dd_of hD1 rfl
  clear hAe hD0 hD1
  have hS : va_S A s.heap s.heap [] := va_S.rf
  replace hP : va_P (dC, dI) classes [ia h0 k0 n9 f] s.heap := hP
  have hl := lv_entry ([.ref h0, .int v]) (n := 4) (Nat.le_of_ble_eq_true rfl)
  rw [lg_entry_eq]
  generalize (lg_sl ([.ref h0, .int v]) ++ List.replicate (4 - (lg_sl ([.ref h0, .int v])).length) Slot.unset).toArray = ls at hl ⊢
  replace hl : lv_has ls 4 [(0, .ref h0), (1, .int v)] := hl
  refine lv_iconst (v := 0) hx hb d_Arrays_fill_0 (by decide) ?_
  refine lv_istore_n (lv' := [(2, .int 0), (0, .ref h0), (1, .int v)]) hx hb d_Arrays_fill_1 rfl hl (by decide) rfl ?_
  clear hl ls
  intro ls hl
  refine lv_aload_n hx hb d_Arrays_fill_2 rfl (lv_at hl 1 rfl) ?_
  refine va_alen (D := (dC, dI)) hx hb hK hP 0 0 rfl rfl (v := nI n9) (by rfl) d_Arrays_fill_3 ?_
  refine lv_istore_n (lv' := [(3, .int (nI n9)), (2, .int 0), (0, .ref h0), (1, .int v)]) hx hb d_Arrays_fill_4 rfl hl (by decide) rfl ?_
  clear hl ls
  intro ls hl
  refine lp_n n9 (fun i H locs ls => ∃ g : Nat → Int32, (∀ j, j < i → g j = v) ∧ va_P (dC, dI) classes [ia h0 k0 n9 g] H ∧ va_S A s.heap H locs ∧ lv_has ls 4 [(3, .int (nI n9)), (2, .int (nI i)), (0, .ref h0), (1, .int v)]) ⟨f, fun j hj => absurd hj (Nat.not_lt_zero j), hP, hS, hl⟩ ?_ ?_
  · intro i H locs ls hi hI ih
    obtain ⟨g, hg, hP, hS, hl⟩ := hI
    refine lv_iload_n hx hb d_Arrays_fill_5 rfl (lv_at hl 1 rfl) ?_
    refine lv_iload_n hx hb d_Arrays_fill_6 rfl (lv_at hl 0 rfl) ?_
    refine lv_icmp_ge (tgt := 20) hx hb d_Arrays_fill_7 (by decide) (fun c9 => absurd c9 (nI_ge hi hN)) (fun c9 => ?_)
    refine tp_pc (pc' := 10) (by rfl) ?_
    refine lv_aload_n hx hb d_Arrays_fill_10 rfl (lv_at hl 2 rfl) ?_
    refine lv_iload_n hx hb d_Arrays_fill_11 rfl (lv_at hl 1 rfl) ?_
    refine lv_iload_n hx hb d_Arrays_fill_12 rfl (lv_at hl 3 rfl) ?_
    refine va_iast (D := (dC, dI)) hx hb hK hP (dd_D hD rfl) hS 0 0 rfl rfl (i := nI i) (x := v) (pk_in i n9 (by omega)) d_Arrays_fill_13 ?_
    clear hP hS locs H
    intro H locs hP _ hS
    rw [show (nI i : Int32).toNatClampNeg = i from pk_cl i] at hP
    replace hP : va_P (dC, dI) classes [ia h0 k0 n9 (upd g i v)] H := hP
    refine tp_pc (pc' := 14) (by rfl) ?_
    refine lv_iinc (v := nI (i + 1)) (lv' := [(2, .int (nI (i + 1))), (3, .int (nI n9)), (0, .ref h0), (1, .int v)]) hx hb d_Arrays_fill_14 hl (k := 1) rfl (by exact nI_1 i) (by decide) rfl ?_
    clear hl ls
    intro ls hl
    refine lv_goto (tgt := 5) hx hb d_Arrays_fill_17 (by decide) ?_
    refine tp_pc (pc' := 5) (by rfl) ?_
    exact ih _ _ _ ⟨_, fun j hj => by by_cases e9 : j = i; (subst e9; exact pk_us); (rw [pk_un e9]; exact hg j (by omega)), hP, hS, lv_sub hl [1, 0, 2, 3] rfl⟩
  · intro H locs ls hI
    obtain ⟨g, hg, hP, hS, hl⟩ := hI
    refine lv_iload_n hx hb d_Arrays_fill_5 rfl (lv_at hl 1 rfl) ?_
    refine lv_iload_n hx hb d_Arrays_fill_6 rfl (lv_at hl 0 rfl) ?_
    refine lv_icmp_ge (tgt := 20) hx hb d_Arrays_fill_7 (by decide) (fun c9 => ?_) (fun c9 => absurd (nI_le (Nat.le_refl _) hN) c9)
    refine tp_pc (pc' := 20) (by rfl) ?_
    replace hP : va_P (dC, dI) classes [ia h0 k0 n9 (fun _ => v)] H := P_cg 0 rfl hg hP
    obtain ⟨hP9, hD9, -⟩ := cut3 (wc := [ia h0 k0 n9 (fun _ => v)]) hP hD rfl hS hA [0] (by decide +kernel) rfl
    have hK9 := hK.sub (tys' := []) [] rfl
    refine W.widen (k := 0) (n := 0) (by exact Nat.le_of_ble_eq_true rfl) (by exact Nat.le_of_ble_eq_true rfl) ?_
    exact W.vret hx hb hr (fun t9 ht9 hW => ⟨⟨(), rfl, trivial, by rw [ht9]; exact hP9, va_K.moved hW.alike hK9, hD9⟩, hS.F ht9⟩) hS.2.2 d_Arrays_fill_20
set_option maxHeartbeats 4000000 in
set_option maxRecDepth 100000 in
theorem gen_Progress_begin (l : Launch) (dC : Nat → ClassId) (dI : Nat → Nat → Nat) (ga g1 g2 g3 : Nat) (l1 l2 l3 : ClassId) (dn : Nat) (so : Int64) (pl : Nat → Nat) (rg vl : Nat → Int32) (pa : Nat)  (sz : Nat) : Met l y_Progress_begin w_Progress_begin ({ frames := 1, cells := 0, slots := 0, locals := 30 }) (va_Pc [.ref ga] (fun U => U.heap.size = sz ∧ va_P (dC, dI) classes [oc ga 1 [.ref pa, .ref g1, .ref g2, .ref g3, .int (nI dn), .long so], ia g1 l1 4 (fun i => nI (pl i)), ia g2 l2 8 rg] U.heap ∧ va_K (dC, dI) classes [(l1, .int), (l2, .int)] U ∧ va_D (fun _ => True) [oc ga 1 [.ref pa, .ref g1, .ref g2, .ref g3, .int (nI dn), .long so], ia g1 l1 4 (fun i => nI (pl i)), ia g2 l2 8 rg] ∧ nw U)) (va_Qv (fun _ : Unit => True) (fun _ t9 => va_P (dC, dI) classes [oc ga 1 [.ref pa, .ref g1, .ref g2, .ref g3, .int (nI 0), .long 0], ia g1 l1 4 (fun i => nI ((fun _ => 0) i)), ia g2 l2 8 (fun _ => 0)] t9.heap ∧ va_K (dC, dI) classes [] t9 ∧ va_D (va_A [oc ga 1 [.ref pa, .ref g1, .ref g2, .ref g3, .int (nI dn), .long so], ia g1 l1 4 (fun i => nI (pl i)), ia g2 l2 8 rg] sz) [oc ga 1 [.ref pa, .ref g1, .ref g2, .ref g3, .int (nI 0), .long 0], ia g1 l1 4 (fun i => nI ((fun _ => 0) i)), ia g2 l2 8 (fun _ => 0)]) (va_A [oc ga 1 [.ref pa, .ref g1, .ref g2, .ref g3, .int (nI dn), .long so], ia g1 l1 4 (fun i => nI (pl i)), ia g2 l2 8 rg] sz)) 0 0 (va_A [oc ga 1 [.ref pa, .ref g1, .ref g2, .ref g3, .int (nI dn), .long so], ia g1 l1 4 (fun i => nI (pl i)), ia g2 l2 8 rg] sz) := by
  refine Met.ofW (cc := b_Progress_begin) (maxL := 1) (ret := none) (by decide) rfl ?_
  intro p e0 s m args below meth c s₁ B hml hv
  obtain ⟨rfl, hsz, hP, hK, hD0, hn⟩ := hv
  have hx := B.exec
  have hb := B.bytes
  have hr := B.returns
  have hw := fun w (h : w ∈ wt) => atoms_spec (ws := w_Progress_begin) B.pre w (List.mem_cons_of_mem _ h)
  have hown : s.vm.findClass R_Progress = some m.cls := findClass_of_methodNamed B.named
  have hlocks := B.notSynchronized
  subst hsz
  have hD1 := hD0.self (sz := s.heap.size)
  generalize hAe : va_A [oc ga 1 [.ref pa, .ref g1, .ref g2, .ref g3, .int (nI dn), .long so], ia g1 l1 4 (fun i => nI (pl i)), ia g2 l2 8 rg] s.heap.size = A at hD1 ⊢
  have hA : ∀ q : Nat, s.heap.size ≤ q → A q := fun q h => by rw [← hAe]; exact Or.inr h
  have hD : dd A [ga, g1, g2] := dd_of hD1 rfl
  clear hAe hD0 hD1
  have hS : va_S A s.heap s.heap [] := va_S.rf
  replace hP : va_P (dC, dI) classes [oc ga 1 [.ref pa, .ref g1, .ref g2, .ref g3, .int (nI dn), .long so], ia g1 l1 4 (fun i => nI (pl i)), ia g2 l2 8 rg] s.heap := hP
  have hl := lv_entry ([.ref ga]) (n := 1) (Nat.le_of_ble_eq_true rfl)
  rw [lg_entry_eq]
  generalize (lg_sl ([.ref ga]) ++ List.replicate (1 - (lg_sl ([.ref ga])).length) Slot.unset).toArray = ls at hl ⊢
  replace hl : lv_has ls 1 [(0, .ref ga)] := hl
  refine lv_aload_n hx hb d_Progress_begin_0 rfl (lv_at hl 0 rfl) ?_
  refine va_get (D := (dC, dI)) (ci := 1) (v := .ref g1) (C := R_Progress) (T := F_Progress) (N := 6) hx hb hw i_Progress hown hK hP 0 rfl rfl 1 (by decide) (hw _ m_204) (fun _ h9 => h9) rfl d_Progress_begin_1 ?_
  refine lv_iconst (v := 0) hx hb d_Progress_begin_4 (by decide) ?_
  obtain ⟨hPc, hDc, hFc⟩ := cut3 (wc := [ia g1 l1 4 (fun i => nI (pl i))]) hP hD rfl hS hA [1] (by decide +kernel) rfl
  have hKc := hK.sub (tys' := [(l1, .int)]) [0] rfl
  refine va_callv (va_runS (As := [.ref g1, .int 0]) (rest := []) ⟨hx, hb, hml, hown, hw⟩ (gen_fill l dC dI g1 l1 4 (fun i => nI (pl i)) 0 (by decide) s.heap.size) (cw_S 2 hw g_Arrays_fill rfl rfl rfl (hw _ m_110) (hw _ m_497) (hw _ m_459) (by decide +kernel) ⟨Nat.le_of_ble_eq_true rfl, Nat.le_of_ble_eq_true rfl⟩) ⟨fun a U g mk q => by obtain ⟨q0, q1, qP, qK, qD, qN⟩ := q; exact ⟨q0, q1, qP, va_K.moved (u := U) (U := U.calling g mk a) (Vm.Alike.refl U.vm) qK, qD, nw_call qN⟩, fun U hU hW => ⟨rfl, by rw [hU], by rw [hU]; exact hPc, va_K.moved hW.alike hKc, hDc.weaken (fun _ _ _ _ => trivial), nw_warm hW hn⟩⟩ rfl rfl hl.1 rfl (lv_room (Nat.le_of_ble_eq_true rfl)) d_Progress_begin_5 ⟨Nat.le_of_ble_eq_true rfl, Nat.le_of_ble_eq_true rfl⟩) hS (fun q _ h => hFc q h) hFc ?_
  intro u t9 H1 locs1 ht9 hvm hw1 hB hz1 hk1 hS1
  obtain ⟨hP1, hK1, hD1⟩ := hB
  rw [ht9] at hP1
  replace hK1 := va_K.moved hvm.symm hK1
  have hPD := join3 hP hD rfl [1] [0, 2] rfl (by rfl) (by decide +kernel) (by decide +kernel) hk1 hFc hP1 hD1
  replace hK : va_K (dC, dI) classes [(l1, .int), (l2, .int)] s := hK.app hK1
  clear hP1 hK1 hD1 hk1 hz1 hFc hKc hDc hPc hvm ht9 hP hS t9
  have hP : va_P (dC, dI) classes [oc ga 1 [.ref pa, .ref g1, .ref g2, .ref g3, .int (nI dn), .long so], ia g2 l2 8 rg, ia g1 l1 4 (fun _ => 0)] H1 := hPD.1
  replace hD : dd A [ga, g2, g1] := dd_of hPD.2 rfl
  clear hPD
  revert H1 locs1
  intro H locs hS hP
  clear hw1 u
  refine tp_pc (pc' := 8) (by rfl) ?_
  refine lv_aload_n hx hb d_Progress_begin_8 rfl (lv_at hl 0 rfl) ?_
  refine va_get (D := (dC, dI)) (ci := 1) (v := .ref g2) (C := R_Progress) (T := F_Progress) (N := 6) hx hb hw i_Progress hown hK hP 0 rfl rfl 2 (by decide) (hw _ m_206) (fun _ h9 => h9) rfl d_Progress_begin_9 ?_
  refine lv_iconst (v := 0) hx hb d_Progress_begin_12 (by decide) ?_
  obtain ⟨hPc, hDc, hFc⟩ := cut3 (wc := [ia g2 l2 8 rg]) hP hD rfl hS hA [1] (by decide +kernel) rfl
  have hKc := hK.sub (tys' := [(l2, .int)]) [1] rfl
  refine va_callv (va_runS (As := [.ref g2, .int 0]) (rest := []) ⟨hx, hb, hml, hown, hw⟩ (gen_fill l dC dI g2 l2 8 rg 0 (by decide) H.size) (cw_S 2 hw g_Arrays_fill rfl rfl rfl (hw _ m_110) (hw _ m_497) (hw _ m_459) (by decide +kernel) ⟨Nat.le_of_ble_eq_true rfl, Nat.le_of_ble_eq_true rfl⟩) ⟨fun a U g mk q => by obtain ⟨q0, q1, qP, qK, qD, qN⟩ := q; exact ⟨q0, q1, qP, va_K.moved (u := U) (U := U.calling g mk a) (Vm.Alike.refl U.vm) qK, qD, nw_call qN⟩, fun U hU hW => ⟨rfl, by rw [hU], by rw [hU]; exact hPc, va_K.moved hW.alike hKc, hDc.weaken (fun _ _ _ _ => trivial), nw_warm hW hn⟩⟩ rfl rfl hl.1 rfl (lv_room (Nat.le_of_ble_eq_true rfl)) d_Progress_begin_13 ⟨Nat.le_of_ble_eq_true rfl, Nat.le_of_ble_eq_true rfl⟩) hS (fun q _ h => hFc q h) hFc ?_
  intro u t9 H1 locs1 ht9 hvm hw1 hB hz1 hk1 hS1
  obtain ⟨hP1, hK1, hD1⟩ := hB
  rw [ht9] at hP1
  replace hK1 := va_K.moved hvm.symm hK1
  have hPD := join3 hP hD rfl [1] [0, 2] rfl (by rfl) (by decide +kernel) (by decide +kernel) hk1 hFc hP1 hD1
  replace hK : va_K (dC, dI) classes [(l1, .int), (l2, .int)] s := hK.app hK1
  clear hP1 hK1 hD1 hk1 hz1 hFc hKc hDc hPc hvm ht9 hP hS t9 locs H
  have hP : va_P (dC, dI) classes [oc ga 1 [.ref pa, .ref g1, .ref g2, .ref g3, .int (nI dn), .long so], ia g1 l1 4 (fun _ => 0), ia g2 l2 8 (fun _ => 0)] H1 := hPD.1
  replace hD : dd A [ga, g1, g2] := dd_of hPD.2 rfl
  clear hPD
  revert H1 locs1
  intro H locs hS hP
  clear hw1 u
  refine tp_pc (pc' := 16) (by rfl) ?_
  refine lv_aload_n hx hb d_Progress_begin_16 rfl (lv_at hl 0 rfl) ?_
  refine lv_iconst (v := 0) hx hb d_Progress_begin_17 (by decide) ?_
  refine va_put (D := (dC, dI)) (ci := 1) (v := .int 0) (ty := .int) (C := R_Progress) (T := F_Progress) (N := 6) hx hb hw i_Progress t_Progress t_Progress_ok n_Progress hown hK hP (dd_D hD rfl) hS 0 rfl rfl 4 (by decide) (hw _ m_208) (fun _ h9 => h9) rfl (by decide +kernel) rfl rfl (Nat.le_of_ble_eq_true rfl) d_Progress_begin_18 ?_
  clear hP hS locs H
  intro H locs (hP : va_P (dC, dI) classes [oc ga 1 [.ref pa, .ref g1, .ref g2, .ref g3, .int 0, .long so], ia g1 l1 4 (fun _ => 0), ia g2 l2 8 (fun _ => 0)] H) _ hS
  refine tp_pc (pc' := 21) (by rfl) ?_
  refine lv_aload_n hx hb d_Progress_begin_21 rfl (lv_at hl 0 rfl) ?_
  refine lv_lconst (v := 0) hx hb d_Progress_begin_22 (by decide) ?_
  refine va_put (D := (dC, dI)) (ci := 1) (v := .long 0) (ty := .long) (C := R_Progress) (T := F_Progress) (N := 6) hx hb hw i_Progress t_Progress t_Progress_ok n_Progress hown hK hP (dd_D hD rfl) hS 0 rfl rfl 5 (by decide) (hw _ m_210) (fun _ h9 => h9) rfl (by decide +kernel) rfl rfl (Nat.le_of_ble_eq_true rfl) d_Progress_begin_23 ?_
  clear hP hS locs H
  intro H locs (hP : va_P (dC, dI) classes [oc ga 1 [.ref pa, .ref g1, .ref g2, .ref g3, .int 0, .long 0], ia g1 l1 4 (fun _ => 0), ia g2 l2 8 (fun _ => 0)] H) _ hS
  refine tp_pc (pc' := 26) (by rfl) ?_
  replace hP : va_P (dC, dI) classes [oc ga 1 [.ref pa, .ref g1, .ref g2, .ref g3, .int (nI 0), .long 0], ia g1 l1 4 (fun i => nI ((fun _ => 0) i)), ia g2 l2 8 (fun _ => 0)] H := hP
  obtain ⟨hP9, hD9, -⟩ := cut3 (wc := [oc ga 1 [.ref pa, .ref g1, .ref g2, .ref g3, .int (nI 0), .long 0], ia g1 l1 4 (fun i => nI ((fun _ => 0) i)), ia g2 l2 8 (fun _ => 0)]) hP hD rfl hS hA [0, 1, 2] (by decide +kernel) rfl
  have hK9 := hK.sub (tys' := []) [] rfl
  refine W.widen (k := 0) (n := 0) (by exact Nat.le_of_ble_eq_true rfl) (by exact Nat.le_of_ble_eq_true rfl) ?_
  exact W.vret hx hb hr (fun t9 ht9 hW => ⟨⟨(), rfl, trivial, by rw [ht9]; exact hP9, va_K.moved hW.alike hK9, hD9⟩, hS.F ht9⟩) hS.2.2 d_Progress_begin_26
set_option maxHeartbeats 4000000 in
set_option maxRecDepth 100000 in
theorem gen_isIn (l : Launch) (dC : Nat → ClassId) (dI : Nat → Nat → Nat) (q a : Nat) (hq : q < 2 ^ 31) (ha : a < 31) (sz : Nat) : Met l y_OM_isIn w_OM_isIn ({ frames := 0, cells := 0, slots := 0, locals := 0 }) (va_Pc [.int (nI q), .int (nI a)] (fun U => U.heap.size = sz ∧ va_P (dC, dI) classes [] U.heap ∧ va_K (dC, dI) classes [] U ∧ va_D (fun _ => True) [] ∧ nw U)) (va_Qi (fun (r : Int32) (_ : Unit) => r = nI (q / 2 ^ a % 2)) (fun _ t9 => va_P (dC, dI) classes [] t9.heap ∧ va_K (dC, dI) classes [] t9 ∧ va_D (va_A [] sz) []) (va_A [] sz)) 0 0 (va_A [] sz) := by
  refine Met.ofW (cc := b_OM_isIn) (maxL := 2) (ret := (some .boolean)) (by decide) rfl ?_
  intro p e0 s m args below meth c s₁ B hml hv
  obtain ⟨rfl, hsz, hP, hK, hD0, hn⟩ := hv
  have hx := B.exec
  have hb := B.bytes
  have hr := B.returns
  have hw := fun w (h : w ∈ wt) => atoms_spec (ws := w_OM_isIn) B.pre w (List.mem_cons_of_mem _ h)
  have hown : s.vm.findClass R_OM = some m.cls := findClass_of_methodNamed B.named
  have hlocks := B.notSynchronized
  subst hsz
  have hD1 := hD0.self (sz := s.heap.size)
  generalize hAe : va_A [] s.heap.size = A at hD1 ⊢
  have hA : ∀ q : Nat, s.heap.size ≤ q → A q := fun q h => by rw [← hAe]; exact Or.inr h
  have hD : dd A [] := dd_of hD1 rfl
  clear hAe hD0 hD1
  have hS : va_S A s.heap s.heap [] := va_S.rf
  replace hP : va_P (dC, dI) classes [] s.heap := hP
  have hl := lv_entry ([.int (nI q), .int (nI a)]) (n := 2) (Nat.le_of_ble_eq_true rfl)
  rw [lg_entry_eq]
  generalize (lg_sl ([.int (nI q), .int (nI a)]) ++ List.replicate (2 - (lg_sl ([.int (nI q), .int (nI a)])).length) Slot.unset).toArray = ls at hl ⊢
  replace hl : lv_has ls 2 [(0, .int (nI q)), (1, .int (nI a))] := hl
  refine lv_iload_n hx hb d_OM_isIn_0 rfl (lv_at hl 0 rfl) ?_
  refine lv_iload_n hx hb d_OM_isIn_1 rfl (lv_at hl 1 rfl) ?_
  refine lv_ishr hx hb d_OM_isIn_2 ?_
  refine tp_i (y := (nI q) >>> ((nI a) &&& 31)) rfl ?_
  refine lv_iconst (v := 1) hx hb d_OM_isIn_3 (by decide) ?_
  refine lv_iand hx hb d_OM_isIn_4 ?_
  refine tp_i (y := ((nI q) >>> ((nI a) &&& 31)) &&& 1) rfl ?_
  obtain ⟨b9, hb9⟩ : ∃ b9, b9 = q / 2 ^ a % 2 := ⟨_, rfl⟩
  have hb2 : b9 < 2 := by omega
  refine tp_i (y := nI b9) (by rw [hb9]; exact bit_eq hq ha) ?_
  refine lv_if_eq (tgt := 12) hx hb d_OM_isIn_5 (by decide) (fun c1 => ?_) (fun c1 => ?_)
  · skip
    have hc1 : b9 = 0 := (nI_eq (a := b9) (b := 0) (by omega) (by omega)).mp c1
    refine tp_pc (pc' := 12) (by rfl) ?_
    refine lv_iconst (v := 0) hx hb d_OM_isIn_12 (by decide) ?_
    obtain ⟨hP9, hD9, -⟩ := cut3 (wc := []) hP hD rfl hS hA [] (by decide +kernel) rfl
    have hK9 := hK.sub (tys' := []) [] rfl
    refine W.widen (k := 0) (n := 0) (by exact Nat.le_of_ble_eq_true rfl) (by exact Nat.le_of_ble_eq_true rfl) ?_
    exact W.zret (v := 0) (ty := .boolean) hx hb hr (by decide) (fun t9 ht9 hW => ⟨⟨0, (), rfl, by rw [← hb9, hc1]; rfl, by rw [ht9]; exact hP9, va_K.moved hW.alike hK9, hD9⟩, hS.F ht9⟩) hS.2.2 d_OM_isIn_13
  · skip
    have hc1 : ¬ (b9 = 0) := fun q9 => c1 ((nI_eq (a := b9) (b := 0) (by omega) (by omega)).mpr q9)
    refine tp_pc (pc' := 8) (by rfl) ?_
    refine lv_iconst (v := 1) hx hb d_OM_isIn_8 (by decide) ?_
    refine lv_goto (tgt := 13) hx hb d_OM_isIn_9 (by decide) ?_
    refine tp_pc (pc' := 13) (by rfl) ?_
    obtain ⟨hP9, hD9, -⟩ := cut3 (wc := []) hP hD rfl hS hA [] (by decide +kernel) rfl
    have hK9 := hK.sub (tys' := []) [] rfl
    refine W.widen (k := 0) (n := 0) (by exact Nat.le_of_ble_eq_true rfl) (by exact Nat.le_of_ble_eq_true rfl) ?_
    exact W.zret (v := 1) (ty := .boolean) hx hb hr (by decide) (fun t9 ht9 hW => ⟨⟨1, (), rfl, by rw [← hb9, show b9 = 1 from by omega]; rfl, by rw [ht9]; exact hP9, va_K.moved hW.alike hK9, hD9⟩, hS.F ht9⟩) hS.2.2 d_OM_isIn_13
set_option maxHeartbeats 4000000 in
set_option maxRecDepth 100000 in
theorem gen_BufferWalk_sourceIn (l : Launch) (dC : Nat → ClassId) (dI : Nat → Nat → Nat) (pa : Nat) (ba ga sa b1 b2 fa : Nat) (md mm hd : Nat) (x : Nat) (hm : mm < 512) (hx3 : x < 3) (sz : Nat) : Met l y_BufferWalk_sourceIn w_BufferWalk_sourceIn ({ frames := 0, cells := 0, slots := 0, locals := 0 }) (va_Pc [.ref ba, .int (nI x)] (fun U => U.heap.size = sz ∧ va_P (dC, dI) classes [oc ba 4 [.ref pa, .ref ga, .ref sa, .ref b1, .ref b2, .ref fa, .int (nI md), .int (nI mm), .int (nI hd)]] U.heap ∧ va_K (dC, dI) classes [] U ∧ va_D (fun _ => True) [oc ba 4 [.ref pa, .ref ga, .ref sa, .ref b1, .ref b2, .ref fa, .int (nI md), .int (nI mm), .int (nI hd)]] ∧ nw U)) (va_Qi (fun (r : Int32) (_ : Unit) => r = nI (srcM mm x)) (fun _ t9 => va_P (dC, dI) classes [oc ba 4 [.ref pa, .ref ga, .ref sa, .ref b1, .ref b2, .ref fa, .int (nI md), .int (nI mm), .int (nI hd)]] t9.heap ∧ va_K (dC, dI) classes [] t9 ∧ va_D (va_A [oc ba 4 [.ref pa, .ref ga, .ref sa, .ref b1, .ref b2, .ref fa, .int (nI md), .int (nI mm), .int (nI hd)]] sz) [oc ba 4 [.ref pa, .ref ga, .ref sa, .ref b1, .ref b2, .ref fa, .int (nI md), .int (nI mm), .int (nI hd)]]) (va_A [oc ba 4 [.ref pa, .ref ga, .ref sa, .ref b1, .ref b2, .ref fa, .int (nI md), .int (nI mm), .int (nI hd)]] sz)) 0 0 (va_A [oc ba 4 [.ref pa, .ref ga, .ref sa, .ref b1, .ref b2, .ref fa, .int (nI md), .int (nI mm), .int (nI hd)]] sz) := by
  refine Met.ofW (cc := b_BufferWalk_sourceIn) (maxL := 2) (ret := (some .int)) (by decide) rfl ?_
  intro p e0 s m args below meth c s₁ B hml hv
  obtain ⟨rfl, hsz, hP, hK, hD0, hn⟩ := hv
  have hx := B.exec
  have hb := B.bytes
  have hr := B.returns
  have hw := fun w (h : w ∈ wt) => atoms_spec (ws := w_BufferWalk_sourceIn) B.pre w (List.mem_cons_of_mem _ h)
  have hown : s.vm.findClass R_BufferWalk = some m.cls := findClass_of_methodNamed B.named
  have hlocks := B.notSynchronized
  subst hsz
  have hD1 := hD0.self (sz := s.heap.size)
  generalize hAe : va_A [oc ba 4 [.ref pa, .ref ga, .ref sa, .ref b1, .ref b2, .ref fa, .int (nI md), .int (nI mm), .int (nI hd)]] s.heap.size = A at hD1 ⊢
  have hA : ∀ q : Nat, s.heap.size ≤ q → A q := fun q h => by rw [← hAe]; exact Or.inr h
  have hD : dd A [ba] := dd_of hD1 rfl
  clear hAe hD0 hD1
  have hS : va_S A s.heap s.heap [] := va_S.rf
  replace hP : va_P (dC, dI) classes [oc ba 4 [.ref pa, .ref ga, .ref sa, .ref b1, .ref b2, .ref fa, .int (nI md), .int (nI mm), .int (nI hd)]] s.heap := hP
  have hl := lv_entry ([.ref ba, .int (nI x)]) (n := 2) (Nat.le_of_ble_eq_true rfl)
  rw [lg_entry_eq]
  generalize (lg_sl ([.ref ba, .int (nI x)]) ++ List.replicate (2 - (lg_sl ([.ref ba, .int (nI x)])).length) Slot.unset).toArray = ls at hl ⊢
  replace hl : lv_has ls 2 [(0, .ref ba), (1, .int (nI x))] := hl
  refine lv_aload_n hx hb d_BufferWalk_sourceIn_0 rfl (lv_at hl 0 rfl) ?_
  refine va_get (D := (dC, dI)) (ci := 4) (v := .int (nI mm)) (C := R_BufferWalk) (T := F_BufferWalk) (N := 9) hx hb hw i_BufferWalk hown hK hP 0 rfl rfl 7 (by decide) (hw _ m_258) (fun _ h9 => h9) rfl d_BufferWalk_sourceIn_1 ?_
  refine lv_iconst (v := 3) hx hb d_BufferWalk_sourceIn_4 (by decide) ?_
  refine lv_iload_n hx hb d_BufferWalk_sourceIn_5 rfl (lv_at hl 1 rfl) ?_
  refine lv_imul hx hb d_BufferWalk_sourceIn_6 ?_
  refine tp_i (y := nI (3 * x)) (by exact pk_mul 3 x) ?_
  refine lv_ishr hx hb d_BufferWalk_sourceIn_7 ?_
  refine tp_i (y := (nI mm) >>> ((nI (3 * x)) &&& 31)) rfl ?_
  refine lv_bipush (v := 7) hx hb d_BufferWalk_sourceIn_8 (by decide) ?_
  refine lv_iand hx hb d_BufferWalk_sourceIn_10 ?_
  refine tp_i (y := ((nI mm) >>> ((nI (3 * x)) &&& 31)) &&& 7) rfl ?_
  refine tp_i (y := nI (srcM mm x)) (srcM_eq mm hm x hx3) ?_
  obtain ⟨hP9, hD9, -⟩ := cut3 (wc := [oc ba 4 [.ref pa, .ref ga, .ref sa, .ref b1, .ref b2, .ref fa, .int (nI md), .int (nI mm), .int (nI hd)]]) hP hD rfl hS hA [0] (by decide +kernel) rfl
  have hK9 := hK.sub (tys' := []) [] rfl
  refine W.widen (k := 0) (n := 0) (by exact Nat.le_of_ble_eq_true rfl) (by exact Nat.le_of_ble_eq_true rfl) ?_
  exact W.iret (v := (nI (srcM mm x))) hx hb hr (fun t9 ht9 hW => ⟨⟨nI (srcM mm x), (), rfl, rfl, by rw [ht9]; exact hP9, va_K.moved hW.alike hK9, hD9⟩, hS.F ht9⟩) hS.2.2 d_BufferWalk_sourceIn_11
set_option maxHeartbeats 4000000 in
set_option maxRecDepth 100000 in
theorem gen_BufferWalk_putIntoMemory (l : Launch) (dC : Nat → ClassId) (dI : Nat → Nat → Nat) (pa : Nat) (pA : Nat → Nat) (pK : Nat → ClassId) (T Ac : Nat) (pg : Nat → Nat → Nat) (nm : Nat → Int32) (ba ga sa b1 b2 fa : Nat) (md mm hd : Nat) (a : Nat) (hm : mm < 512) (ha : a < 7) (hx3 : pg 5 a < 3) (sz : Nat) : Met l y_BufferWalk_putIntoMemory w_BufferWalk_putIntoMemory ({ frames := 0, cells := 0, slots := 0, locals := 0 }) (va_Pc [.ref ba, .int (nI a)] (fun U => U.heap.size = sz ∧ va_P (dC, dI) classes [oc ba 4 [.ref pa, .ref ga, .ref sa, .ref b1, .ref b2, .ref fa, .int (nI md), .int (nI mm), .int (nI hd)], oc pa 0 [.ref (pA 0), .ref (pA 1), .ref (pA 2), .ref (pA 3), .ref (pA 4), .ref (pA 5), .ref (pA 6), .ref (pA 7), .ref (pA 8), .ref (pA 9), .ref (pA 10), .int (nI T), .int (nI Ac)], ia (pA 5) (pK 5) 7 (fun i => nI ((pg 5) i))] U.heap ∧ va_K (dC, dI) classes [((pK 5), .int)] U ∧ va_D (fun _ => True) [oc ba 4 [.ref pa, .ref ga, .ref sa, .ref b1, .ref b2, .ref fa, .int (nI md), .int (nI mm), .int (nI hd)], oc pa 0 [.ref (pA 0), .ref (pA 1), .ref (pA 2), .ref (pA 3), .ref (pA 4), .ref (pA 5), .ref (pA 6), .ref (pA 7), .ref (pA 8), .ref (pA 9), .ref (pA 10), .int (nI T), .int (nI Ac)], ia (pA 5) (pK 5) 7 (fun i => nI ((pg 5) i))] ∧ nw U)) (va_Qv (fun _ : Unit => True) (fun _ t9 => va_P (dC, dI) classes [oc ba 4 [.ref pa, .ref ga, .ref sa, .ref b1, .ref b2, .ref fa, .int (nI md), .int (nI (putM mm (pg 5 a) a)), .int (nI hd)], oc pa 0 [.ref (pA 0), .ref (pA 1), .ref (pA 2), .ref (pA 3), .ref (pA 4), .ref (pA 5), .ref (pA 6), .ref (pA 7), .ref (pA 8), .ref (pA 9), .ref (pA 10), .int (nI T), .int (nI Ac)], ia (pA 5) (pK 5) 7 (fun i => nI ((pg 5) i))] t9.heap ∧ va_K (dC, dI) classes [] t9 ∧ va_D (va_A [oc ba 4 [.ref pa, .ref ga, .ref sa, .ref b1, .ref b2, .ref fa, .int (nI md), .int (nI mm), .int (nI hd)], oc pa 0 [.ref (pA 0), .ref (pA 1), .ref (pA 2), .ref (pA 3), .ref (pA 4), .ref (pA 5), .ref (pA 6), .ref (pA 7), .ref (pA 8), .ref (pA 9), .ref (pA 10), .int (nI T), .int (nI Ac)], ia (pA 5) (pK 5) 7 (fun i => nI ((pg 5) i))] sz) [oc ba 4 [.ref pa, .ref ga, .ref sa, .ref b1, .ref b2, .ref fa, .int (nI md), .int (nI (putM mm (pg 5 a) a)), .int (nI hd)], oc pa 0 [.ref (pA 0), .ref (pA 1), .ref (pA 2), .ref (pA 3), .ref (pA 4), .ref (pA 5), .ref (pA 6), .ref (pA 7), .ref (pA 8), .ref (pA 9), .ref (pA 10), .int (nI T), .int (nI Ac)], ia (pA 5) (pK 5) 7 (fun i => nI ((pg 5) i))]) (va_A [oc ba 4 [.ref pa, .ref ga, .ref sa, .ref b1, .ref b2, .ref fa, .int (nI md), .int (nI mm), .int (nI hd)], oc pa 0 [.ref (pA 0), .ref (pA 1), .ref (pA 2), .ref (pA 3), .ref (pA 4), .ref (pA 5), .ref (pA 6), .ref (pA 7), .ref (pA 8), .ref (pA 9), .ref (pA 10), .int (nI T), .int (nI Ac)], ia (pA 5) (pK 5) 7 (fun i => nI ((pg 5) i))] sz)) 0 0 (va_A [oc ba 4 [.ref pa, .ref ga, .ref sa, .ref b1, .ref b2, .ref fa, .int (nI md), .int (nI mm), .int (nI hd)], oc pa 0 [.ref (pA 0), .ref (pA 1), .ref (pA 2), .ref (pA 3), .ref (pA 4), .ref (pA 5), .ref (pA 6), .ref (pA 7), .ref (pA 8), .ref (pA 9), .ref (pA 10), .int (nI T), .int (nI Ac)], ia (pA 5) (pK 5) 7 (fun i => nI ((pg 5) i))] sz) := by
  refine Met.ofW (cc := b_BufferWalk_putIntoMemory) (maxL := 3) (ret := none) (by decide) rfl ?_
  intro p e0 s m args below meth c s₁ B hml hv
  obtain ⟨rfl, hsz, hP, hK, hD0, hn⟩ := hv
  have hx := B.exec
  have hb := B.bytes
  have hr := B.returns
  have hw := fun w (h : w ∈ wt) => atoms_spec (ws := w_BufferWalk_putIntoMemory) B.pre w (List.mem_cons_of_mem _ h)
  have hown : s.vm.findClass R_BufferWalk = some m.cls := findClass_of_methodNamed B.named
  have hlocks := B.notSynchronized
  subst hsz
  have hD1 := hD0.self (sz := s.heap.size)
  generalize hAe : va_A [oc ba 4 [.ref pa, .ref ga, .ref sa, .ref b1, .ref b2, .ref fa, .int (nI md), .int (nI mm), .int (nI hd)], oc pa 0 [.ref (pA 0), .ref (pA 1), .ref (pA 2), .ref (pA 3), .ref (pA 4), .ref (pA 5), .ref (pA 6), .ref (pA 7), .ref (pA 8), .ref (pA 9), .ref (pA 10), .int (nI T), .int (nI Ac)], ia (pA 5) (pK 5) 7 (fun i => nI ((pg 5) i))] s.heap.size = A at hD1 ⊢
  have hA : ∀ q : Nat, s.heap.size ≤ q → A q := fun q h => by rw [← hAe]; exact Or.inr h
  have hD : dd A [ba, pa, (pA 5)] := dd_of hD1 rfl
  clear hAe hD0 hD1
  have hS : va_S A s.heap s.heap [] := va_S.rf
  replace hP : va_P (dC, dI) classes [oc ba 4 [.ref pa, .ref ga, .ref sa, .ref b1, .ref b2, .ref fa, .int (nI md), .int (nI mm), .int (nI hd)], oc pa 0 [.ref (pA 0), .ref (pA 1), .ref (pA 2), .ref (pA 3), .ref (pA 4), .ref (pA 5), .ref (pA 6), .ref (pA 7), .ref (pA 8), .ref (pA 9), .ref (pA 10), .int (nI T), .int (nI Ac)], ia (pA 5) (pK 5) 7 (fun i => nI ((pg 5) i))] s.heap := hP
  have hl := lv_entry ([.ref ba, .int (nI a)]) (n := 3) (Nat.le_of_ble_eq_true rfl)
  rw [lg_entry_eq]
  generalize (lg_sl ([.ref ba, .int (nI a)]) ++ List.replicate (3 - (lg_sl ([.ref ba, .int (nI a)])).length) Slot.unset).toArray = ls at hl ⊢
  replace hl : lv_has ls 3 [(0, .ref ba), (1, .int (nI a))] := hl
  refine lv_iconst (v := 3) hx hb d_BufferWalk_putIntoMemory_0 (by decide) ?_
  refine lv_aload_n hx hb d_BufferWalk_putIntoMemory_1 rfl (lv_at hl 0 rfl) ?_
  refine va_get (D := (dC, dI)) (ci := 4) (v := .ref pa) (C := R_BufferWalk) (T := F_BufferWalk) (N := 9) hx hb hw i_BufferWalk hown hK hP 0 rfl rfl 0 (by decide) (hw _ m_250) (fun _ h9 => h9) rfl d_BufferWalk_putIntoMemory_2 ?_
  refine va_get (D := (dC, dI)) (ci := 0) (v := .ref (pA 5)) (C := R_Program) (T := F_Program) (N := 13) hx hb hw i_Program hown hK hP 1 rfl rfl 5 (by decide) (hw _ m_147) (fun _ h9 => h9) rfl d_BufferWalk_putIntoMemory_5 ?_
  refine lv_iload_n hx hb d_BufferWalk_putIntoMemory_8 rfl (lv_at hl 1 rfl) ?_
  refine va_iald (D := (dC, dI)) hx hb hK hP 2 0 rfl rfl (i := nI a) (pk_in a 7 (by omega)) d_BufferWalk_putIntoMemory_9 ?_
  refine tp_i (y := nI ((pg 5) a)) (by rw [show (nI a : Int32).toNatClampNeg = a from pk_cl a]) ?_
  refine lv_imul hx hb d_BufferWalk_putIntoMemory_10 ?_
  refine tp_i (y := nI (3 * ((pg 5) a))) (by exact pk_mul 3 ((pg 5) a)) ?_
  refine lv_istore_n (lv' := [(2, .int (nI (3 * ((pg 5) a)))), (0, .ref ba), (1, .int (nI a))]) hx hb d_BufferWalk_putIntoMemory_11 rfl hl (by decide) rfl ?_
  clear hl ls
  intro ls hl
  refine lv_aload_n hx hb d_BufferWalk_putIntoMemory_12 rfl (lv_at hl 1 rfl) ?_
  refine lv_aload_n hx hb d_BufferWalk_putIntoMemory_13 rfl (lv_at hl 1 rfl) ?_
  refine va_get (D := (dC, dI)) (ci := 4) (v := .int (nI mm)) (C := R_BufferWalk) (T := F_BufferWalk) (N := 9) hx hb hw i_BufferWalk hown hK hP 0 rfl rfl 7 (by decide) (hw _ m_258) (fun _ h9 => h9) rfl d_BufferWalk_putIntoMemory_14 ?_
  refine lv_bipush (v := 7) hx hb d_BufferWalk_putIntoMemory_17 (by decide) ?_
  refine lv_iload_n hx hb d_BufferWalk_putIntoMemory_19 rfl (lv_at hl 0 rfl) ?_
  refine lv_ishl hx hb d_BufferWalk_putIntoMemory_20 ?_
  refine tp_i (y := 7 <<< ((nI (3 * ((pg 5) a))) &&& 31)) rfl ?_
  refine lv_iconst (v := (-1)) hx hb d_BufferWalk_putIntoMemory_21 (by decide) ?_
  refine lv_ixor hx hb d_BufferWalk_putIntoMemory_22 ?_
  refine tp_i (y := (7 <<< ((nI (3 * ((pg 5) a))) &&& 31)) ^^^ (-1)) rfl ?_
  refine lv_iand hx hb d_BufferWalk_putIntoMemory_23 ?_
  refine tp_i (y := (nI mm) &&& ((7 <<< ((nI (3 * ((pg 5) a))) &&& 31)) ^^^ (-1))) rfl ?_
  refine lv_iload_n hx hb d_BufferWalk_putIntoMemory_24 rfl (lv_at hl 2 rfl) ?_
  refine lv_iconst (v := 1) hx hb d_BufferWalk_putIntoMemory_25 (by decide) ?_
  refine lv_iadd hx hb d_BufferWalk_putIntoMemory_26 ?_
  refine tp_i (y := nI (a + 1)) (by exact nI_add a 1) ?_
  refine lv_iload_n hx hb d_BufferWalk_putIntoMemory_27 rfl (lv_at hl 0 rfl) ?_
  refine lv_ishl hx hb d_BufferWalk_putIntoMemory_28 ?_
  refine tp_i (y := (nI (a + 1)) <<< ((nI (3 * ((pg 5) a))) &&& 31)) rfl ?_
  refine lv_ior hx hb d_BufferWalk_putIntoMemory_29 ?_
  refine tp_i (y := ((nI mm) &&& ((7 <<< ((nI (3 * ((pg 5) a))) &&& 31)) ^^^ (-1))) ||| ((nI (a + 1)) <<< ((nI (3 * ((pg 5) a))) &&& 31))) rfl ?_
  refine tp_i (y := nI (putM mm (pg 5 a) a)) (putM_eq mm hm (pg 5 a) hx3 a ha) ?_
  refine va_put (D := (dC, dI)) (ci := 4) (v := .int (nI (putM mm (pg 5 a) a))) (ty := .int) (C := R_BufferWalk) (T := F_BufferWalk) (N := 9) hx hb hw i_BufferWalk t_BufferWalk t_BufferWalk_ok n_BufferWalk hown hK hP (dd_D hD rfl) hS 0 rfl rfl 7 (by decide) (hw _ m_258) (fun _ h9 => h9) rfl (by decide +kernel) rfl rfl (Nat.le_of_ble_eq_true rfl) d_BufferWalk_putIntoMemory_30 ?_
  clear hP hS
  intro H locs (hP : va_P (dC, dI) classes [oc ba 4 [.ref pa, .ref ga, .ref sa, .ref b1, .ref b2, .ref fa, .int (nI md), .int (nI (putM mm (pg 5 a) a)), .int (nI hd)], oc pa 0 [.ref (pA 0), .ref (pA 1), .ref (pA 2), .ref (pA 3), .ref (pA 4), .ref (pA 5), .ref (pA 6), .ref (pA 7), .ref (pA 8), .ref (pA 9), .ref (pA 10), .int (nI T), .int (nI Ac)], ia (pA 5) (pK 5) 7 (fun i => nI ((pg 5) i))] H) _ hS
  refine tp_pc (pc' := 33) (by rfl) ?_
  obtain ⟨hP9, hD9, -⟩ := cut3 (wc := [oc ba 4 [.ref pa, .ref ga, .ref sa, .ref b1, .ref b2, .ref fa, .int (nI md), .int (nI (putM mm (pg 5 a) a)), .int (nI hd)], oc pa 0 [.ref (pA 0), .ref (pA 1), .ref (pA 2), .ref (pA 3), .ref (pA 4), .ref (pA 5), .ref (pA 6), .ref (pA 7), .ref (pA 8), .ref (pA 9), .ref (pA 10), .int (nI T), .int (nI Ac)], ia (pA 5) (pK 5) 7 (fun i => nI ((pg 5) i))]) hP hD rfl hS hA [0, 1, 2] (by decide +kernel) rfl
  have hK9 := hK.sub (tys' := []) [] rfl
  refine W.widen (k := 0) (n := 0) (by exact Nat.le_of_ble_eq_true rfl) (by exact Nat.le_of_ble_eq_true rfl) ?_
  exact W.vret hx hb hr (fun t9 ht9 hW => ⟨⟨(), rfl, trivial, by rw [ht9]; exact hP9, va_K.moved hW.alike hK9, hD9⟩, hS.F ht9⟩) hS.2.2 d_BufferWalk_putIntoMemory_33
set_option maxHeartbeats 4000000 in
set_option maxRecDepth 100000 in
theorem gen_BufferWalk_waitsForBuffers (l : Launch) (dC : Nat → ClassId) (dI : Nat → Nat → Nat) (pa : Nat) (pA : Nat → Nat) (pK : Nat → ClassId) (T Ac : Nat) (pg : Nat → Nat → Nat) (nm : Nat → Int32) (ba ga sa b1 b2 fa : Nat) (md mm hd : Nat) (a : Nat) (ha : a < 7) (hk : pg 4 a < 6) (h2 : pg 2 a < 4) (hh : hd < 128) (ho : pg 8 (pg 2 a) < 128) (sz : Nat) : Met l y_BufferWalk_waitsForBuffers w_BufferWalk_waitsForBuffers ({ frames := 0, cells := 0, slots := 0, locals := 0 }) (va_Pc [.ref ba, .int (nI a)] (fun U => U.heap.size = sz ∧ va_P (dC, dI) classes [oc ba 4 [.ref pa, .ref ga, .ref sa, .ref b1, .ref b2, .ref fa, .int (nI md), .int (nI mm), .int (nI hd)], oc pa 0 [.ref (pA 0), .ref (pA 1), .ref (pA 2), .ref (pA 3), .ref (pA 4), .ref (pA 5), .ref (pA 6), .ref (pA 7), .ref (pA 8), .ref (pA 9), .ref (pA 10), .int (nI T), .int (nI Ac)], ia (pA 2) (pK 2) 7 (fun i => nI ((pg 2) i)), ia (pA 4) (pK 4) 7 (fun i => nI ((pg 4) i)), ia (pA 8) (pK 8) 4 (fun i => nI ((pg 8) i))] U.heap ∧ va_K (dC, dI) classes [((pK 2), .int), ((pK 4), .int), ((pK 8), .int)] U ∧ va_D (fun _ => True) [oc ba 4 [.ref pa, .ref ga, .ref sa, .ref b1, .ref b2, .ref fa, .int (nI md), .int (nI mm), .int (nI hd)], oc pa 0 [.ref (pA 0), .ref (pA 1), .ref (pA 2), .ref (pA 3), .ref (pA 4), .ref (pA 5), .ref (pA 6), .ref (pA 7), .ref (pA 8), .ref (pA 9), .ref (pA 10), .int (nI T), .int (nI Ac)], ia (pA 2) (pK 2) 7 (fun i => nI ((pg 2) i)), ia (pA 4) (pK 4) 7 (fun i => nI ((pg 4) i)), ia (pA 8) (pK 8) 4 (fun i => nI ((pg 8) i))] ∧ nw U)) (va_Qi (fun (r : Int32) (_ : Unit) => r = if (pg 4 a = 4 ∨ pg 4 a = 3) ∧ hd &&& pg 8 (pg 2 a) ≠ 0 then 1 else 0) (fun _ t9 => va_P (dC, dI) classes [oc ba 4 [.ref pa, .ref ga, .ref sa, .ref b1, .ref b2, .ref fa, .int (nI md), .int (nI mm), .int (nI hd)], oc pa 0 [.ref (pA 0), .ref (pA 1), .ref (pA 2), .ref (pA 3), .ref (pA 4), .ref (pA 5), .ref (pA 6), .ref (pA 7), .ref (pA 8), .ref (pA 9), .ref (pA 10), .int (nI T), .int (nI Ac)], ia (pA 2) (pK 2) 7 (fun i => nI ((pg 2) i)), ia (pA 4) (pK 4) 7 (fun i => nI ((pg 4) i)), ia (pA 8) (pK 8) 4 (fun i => nI ((pg 8) i))] t9.heap ∧ va_K (dC, dI) classes [] t9 ∧ va_D (va_A [oc ba 4 [.ref pa, .ref ga, .ref sa, .ref b1, .ref b2, .ref fa, .int (nI md), .int (nI mm), .int (nI hd)], oc pa 0 [.ref (pA 0), .ref (pA 1), .ref (pA 2), .ref (pA 3), .ref (pA 4), .ref (pA 5), .ref (pA 6), .ref (pA 7), .ref (pA 8), .ref (pA 9), .ref (pA 10), .int (nI T), .int (nI Ac)], ia (pA 2) (pK 2) 7 (fun i => nI ((pg 2) i)), ia (pA 4) (pK 4) 7 (fun i => nI ((pg 4) i)), ia (pA 8) (pK 8) 4 (fun i => nI ((pg 8) i))] sz) [oc ba 4 [.ref pa, .ref ga, .ref sa, .ref b1, .ref b2, .ref fa, .int (nI md), .int (nI mm), .int (nI hd)], oc pa 0 [.ref (pA 0), .ref (pA 1), .ref (pA 2), .ref (pA 3), .ref (pA 4), .ref (pA 5), .ref (pA 6), .ref (pA 7), .ref (pA 8), .ref (pA 9), .ref (pA 10), .int (nI T), .int (nI Ac)], ia (pA 2) (pK 2) 7 (fun i => nI ((pg 2) i)), ia (pA 4) (pK 4) 7 (fun i => nI ((pg 4) i)), ia (pA 8) (pK 8) 4 (fun i => nI ((pg 8) i))]) (va_A [oc ba 4 [.ref pa, .ref ga, .ref sa, .ref b1, .ref b2, .ref fa, .int (nI md), .int (nI mm), .int (nI hd)], oc pa 0 [.ref (pA 0), .ref (pA 1), .ref (pA 2), .ref (pA 3), .ref (pA 4), .ref (pA 5), .ref (pA 6), .ref (pA 7), .ref (pA 8), .ref (pA 9), .ref (pA 10), .int (nI T), .int (nI Ac)], ia (pA 2) (pK 2) 7 (fun i => nI ((pg 2) i)), ia (pA 4) (pK 4) 7 (fun i => nI ((pg 4) i)), ia (pA 8) (pK 8) 4 (fun i => nI ((pg 8) i))] sz)) 0 0 (va_A [oc ba 4 [.ref pa, .ref ga, .ref sa, .ref b1, .ref b2, .ref fa, .int (nI md), .int (nI mm), .int (nI hd)], oc pa 0 [.ref (pA 0), .ref (pA 1), .ref (pA 2), .ref (pA 3), .ref (pA 4), .ref (pA 5), .ref (pA 6), .ref (pA 7), .ref (pA 8), .ref (pA 9), .ref (pA 10), .int (nI T), .int (nI Ac)], ia (pA 2) (pK 2) 7 (fun i => nI ((pg 2) i)), ia (pA 4) (pK 4) 7 (fun i => nI ((pg 4) i)), ia (pA 8) (pK 8) 4 (fun i => nI ((pg 8) i))] sz) := by
  refine Met.ofW (cc := b_BufferWalk_waitsForBuffers) (maxL := 3) (ret := (some .boolean)) (by decide) rfl ?_
  intro p e0 s m args below meth c s₁ B hml hv
  obtain ⟨rfl, hsz, hP, hK, hD0, hn⟩ := hv
  have hx := B.exec
  have hb := B.bytes
  have hr := B.returns
  have hw := fun w (h : w ∈ wt) => atoms_spec (ws := w_BufferWalk_waitsForBuffers) B.pre w (List.mem_cons_of_mem _ h)
  have hown : s.vm.findClass R_BufferWalk = some m.cls := findClass_of_methodNamed B.named
  have hlocks := B.notSynchronized
  subst hsz
  have hD1 := hD0.self (sz := s.heap.size)
  generalize hAe : va_A [oc ba 4 [.ref pa, .ref ga, .ref sa, .ref b1, .ref b2, .ref fa, .int (nI md), .int (nI mm), .int (nI hd)], oc pa 0 [.ref (pA 0), .ref (pA 1), .ref (pA 2), .ref (pA 3), .ref (pA 4), .ref (pA 5), .ref (pA 6), .ref (pA 7), .ref (pA 8), .ref (pA 9), .ref (pA 10), .int (nI T), .int (nI Ac)], ia (pA 2) (pK 2) 7 (fun i => nI ((pg 2) i)), ia (pA 4) (pK 4) 7 (fun i => nI ((pg 4) i)), ia (pA 8) (pK 8) 4 (fun i => nI ((pg 8) i))] s.heap.size = A at hD1 ⊢
  have hA : ∀ q : Nat, s.heap.size ≤ q → A q := fun q h => by rw [← hAe]; exact Or.inr h
  have hD : dd A [ba, pa, (pA 2), (pA 4), (pA 8)] := dd_of hD1 rfl
  clear hAe hD0 hD1
  have hS : va_S A s.heap s.heap [] := va_S.rf
  replace hP : va_P (dC, dI) classes [oc ba 4 [.ref pa, .ref ga, .ref sa, .ref b1, .ref b2, .ref fa, .int (nI md), .int (nI mm), .int (nI hd)], oc pa 0 [.ref (pA 0), .ref (pA 1), .ref (pA 2), .ref (pA 3), .ref (pA 4), .ref (pA 5), .ref (pA 6), .ref (pA 7), .ref (pA 8), .ref (pA 9), .ref (pA 10), .int (nI T), .int (nI Ac)], ia (pA 2) (pK 2) 7 (fun i => nI ((pg 2) i)), ia (pA 4) (pK 4) 7 (fun i => nI ((pg 4) i)), ia (pA 8) (pK 8) 4 (fun i => nI ((pg 8) i))] s.heap := hP
  have hl := lv_entry ([.ref ba, .int (nI a)]) (n := 3) (Nat.le_of_ble_eq_true rfl)
  rw [lg_entry_eq]
  generalize (lg_sl ([.ref ba, .int (nI a)]) ++ List.replicate (3 - (lg_sl ([.ref ba, .int (nI a)])).length) Slot.unset).toArray = ls at hl ⊢
  replace hl : lv_has ls 3 [(0, .ref ba), (1, .int (nI a))] := hl
  refine lv_aload_n hx hb d_BufferWalk_waitsForBuffers_0 rfl (lv_at hl 0 rfl) ?_
  refine va_get (D := (dC, dI)) (ci := 4) (v := .ref pa) (C := R_BufferWalk) (T := F_BufferWalk) (N := 9) hx hb hw i_BufferWalk hown hK hP 0 rfl rfl 0 (by decide) (hw _ m_250) (fun _ h9 => h9) rfl d_BufferWalk_waitsForBuffers_1 ?_
  refine va_get (D := (dC, dI)) (ci := 0) (v := .ref (pA 4)) (C := R_Program) (T := F_Program) (N := 13) hx hb hw i_Program hown hK hP 1 rfl rfl 4 (by decide) (hw _ m_141) (fun _ h9 => h9) rfl d_BufferWalk_waitsForBuffers_4 ?_
  refine lv_iload_n hx hb d_BufferWalk_waitsForBuffers_7 rfl (lv_at hl 1 rfl) ?_
  refine va_iald (D := (dC, dI)) hx hb hK hP 3 1 rfl rfl (i := nI a) (pk_in a 7 (by omega)) d_BufferWalk_waitsForBuffers_8 ?_
  refine tp_i (y := nI ((pg 4) a)) (by rw [show (nI a : Int32).toNatClampNeg = a from pk_cl a]) ?_
  refine lv_istore_n (lv' := [(2, .int (nI ((pg 4) a))), (0, .ref ba), (1, .int (nI a))]) hx hb d_BufferWalk_waitsForBuffers_9 rfl hl (by decide) rfl ?_
  clear hl ls
  intro ls hl
  refine lv_iload_n hx hb d_BufferWalk_waitsForBuffers_10 rfl (lv_at hl 0 rfl) ?_
  refine lv_iconst (v := 4) hx hb d_BufferWalk_waitsForBuffers_11 (by decide) ?_
  refine lv_icmp_eq (tgt := 20) hx hb d_BufferWalk_waitsForBuffers_12 (by decide) (fun c1 => ?_) (fun c1 => ?_)
  · skip
    have hc1 : (pg 4) a = 4 := (nI_eq (a := (pg 4) a) (b := 4) (by omega) (by omega)).mp c1
    refine tp_pc (pc' := 20) (by rfl) ?_
    refine lv_aload_n hx hb d_BufferWalk_waitsForBuffers_20 rfl (lv_at hl 1 rfl) ?_
    refine va_get (D := (dC, dI)) (ci := 4) (v := .int (nI hd)) (C := R_BufferWalk) (T := F_BufferWalk) (N := 9) hx hb hw i_BufferWalk hown hK hP 0 rfl rfl 8 (by decide) (hw _ m_259) (fun _ h9 => h9) rfl d_BufferWalk_waitsForBuffers_21 ?_
    refine lv_aload_n hx hb d_BufferWalk_waitsForBuffers_24 rfl (lv_at hl 1 rfl) ?_
    refine va_get (D := (dC, dI)) (ci := 4) (v := .ref pa) (C := R_BufferWalk) (T := F_BufferWalk) (N := 9) hx hb hw i_BufferWalk hown hK hP 0 rfl rfl 0 (by decide) (hw _ m_250) (fun _ h9 => h9) rfl d_BufferWalk_waitsForBuffers_25 ?_
    refine va_get (D := (dC, dI)) (ci := 0) (v := .ref (pA 8)) (C := R_Program) (T := F_Program) (N := 13) hx hb hw i_Program hown hK hP 1 rfl rfl 8 (by decide) (hw _ m_153) (fun _ h9 => h9) rfl d_BufferWalk_waitsForBuffers_28 ?_
    refine lv_aload_n hx hb d_BufferWalk_waitsForBuffers_31 rfl (lv_at hl 1 rfl) ?_
    refine va_get (D := (dC, dI)) (ci := 4) (v := .ref pa) (C := R_BufferWalk) (T := F_BufferWalk) (N := 9) hx hb hw i_BufferWalk hown hK hP 0 rfl rfl 0 (by decide) (hw _ m_250) (fun _ h9 => h9) rfl d_BufferWalk_waitsForBuffers_32 ?_
    refine va_get (D := (dC, dI)) (ci := 0) (v := .ref (pA 2)) (C := R_Program) (T := F_Program) (N := 13) hx hb hw i_Program hown hK hP 1 rfl rfl 2 (by decide) (hw _ m_131) (fun _ h9 => h9) rfl d_BufferWalk_waitsForBuffers_35 ?_
    refine lv_iload_n hx hb d_BufferWalk_waitsForBuffers_38 rfl (lv_at hl 2 rfl) ?_
    refine va_iald (D := (dC, dI)) hx hb hK hP 2 0 rfl rfl (i := nI a) (pk_in a 7 (by omega)) d_BufferWalk_waitsForBuffers_39 ?_
    refine tp_i (y := nI ((pg 2) a)) (by rw [show (nI a : Int32).toNatClampNeg = a from pk_cl a]) ?_
    refine va_iald (D := (dC, dI)) hx hb hK hP 4 2 rfl rfl (i := nI ((pg 2) a)) (pk_in ((pg 2) a) 4 (by omega)) d_BufferWalk_waitsForBuffers_40 ?_
    refine tp_i (y := nI ((pg 8) ((pg 2) a))) (by rw [show (nI ((pg 2) a) : Int32).toNatClampNeg = (pg 2) a from pk_cl ((pg 2) a)]) ?_
    refine lv_iand hx hb d_BufferWalk_waitsForBuffers_41 ?_
    refine tp_i (y := (nI hd) &&& (nI ((pg 8) ((pg 2) a)))) rfl ?_
    obtain ⟨b9, hb9⟩ : ∃ b9, b9 = hd &&& pg 8 (pg 2 a) := ⟨_, rfl⟩
    have hb2 : b9 < 128 := by rw [hb9]; exact Nat.and_lt_two_pow (n := 7) _ ho
    refine tp_i (y := nI b9) (by rw [hb9]; exact and_eq hh ho) ?_
    refine lv_if_eq (tgt := 49) hx hb d_BufferWalk_waitsForBuffers_42 (by decide) (fun c7 => ?_) (fun c7 => ?_)
    · skip
      have hc7 : b9 = 0 := (nI_eq (a := b9) (b := 0) (by omega) (by omega)).mp c7
      refine tp_pc (pc' := 49) (by rfl) ?_
      refine lv_iconst (v := 0) hx hb d_BufferWalk_waitsForBuffers_49 (by decide) ?_
      obtain ⟨hP9, hD9, -⟩ := cut3 (wc := [oc ba 4 [.ref pa, .ref ga, .ref sa, .ref b1, .ref b2, .ref fa, .int (nI md), .int (nI mm), .int (nI hd)], oc pa 0 [.ref (pA 0), .ref (pA 1), .ref (pA 2), .ref (pA 3), .ref (pA 4), .ref (pA 5), .ref (pA 6), .ref (pA 7), .ref (pA 8), .ref (pA 9), .ref (pA 10), .int (nI T), .int (nI Ac)], ia (pA 2) (pK 2) 7 (fun i => nI ((pg 2) i)), ia (pA 4) (pK 4) 7 (fun i => nI ((pg 4) i)), ia (pA 8) (pK 8) 4 (fun i => nI ((pg 8) i))]) hP hD rfl hS hA [0, 1, 2, 3, 4] (by decide +kernel) rfl
      have hK9 := hK.sub (tys' := []) [] rfl
      refine W.widen (k := 0) (n := 0) (by exact Nat.le_of_ble_eq_true rfl) (by exact Nat.le_of_ble_eq_true rfl) ?_
      exact W.zret (v := 0) (ty := .boolean) hx hb hr (by decide) (fun t9 ht9 hW => ⟨⟨0, (), rfl, by rw [← hb9]; exact (if_neg (fun q => q.2 hc7)).symm, by rw [ht9]; exact hP9, va_K.moved hW.alike hK9, hD9⟩, hS.F ht9⟩) hS.2.2 d_BufferWalk_waitsForBuffers_50
    · skip
      have hc7 : ¬ (b9 = 0) := fun q9 => c7 ((nI_eq (a := b9) (b := 0) (by omega) (by omega)).mpr q9)
      refine tp_pc (pc' := 45) (by rfl) ?_
      refine lv_iconst (v := 1) hx hb d_BufferWalk_waitsForBuffers_45 (by decide) ?_
      refine lv_goto (tgt := 50) hx hb d_BufferWalk_waitsForBuffers_46 (by decide) ?_
      refine tp_pc (pc' := 50) (by rfl) ?_
      obtain ⟨hP9, hD9, -⟩ := cut3 (wc := [oc ba 4 [.ref pa, .ref ga, .ref sa, .ref b1, .ref b2, .ref fa, .int (nI md), .int (nI mm), .int (nI hd)], oc pa 0 [.ref (pA 0), .ref (pA 1), .ref (pA 2), .ref (pA 3), .ref (pA 4), .ref (pA 5), .ref (pA 6), .ref (pA 7), .ref (pA 8), .ref (pA 9), .ref (pA 10), .int (nI T), .int (nI Ac)], ia (pA 2) (pK 2) 7 (fun i => nI ((pg 2) i)), ia (pA 4) (pK 4) 7 (fun i => nI ((pg 4) i)), ia (pA 8) (pK 8) 4 (fun i => nI ((pg 8) i))]) hP hD rfl hS hA [0, 1, 2, 3, 4] (by decide +kernel) rfl
      have hK9 := hK.sub (tys' := []) [] rfl
      refine W.widen (k := 0) (n := 0) (by exact Nat.le_of_ble_eq_true rfl) (by exact Nat.le_of_ble_eq_true rfl) ?_
      exact W.zret (v := 1) (ty := .boolean) hx hb hr (by decide) (fun t9 ht9 hW => ⟨⟨1, (), rfl, by rw [← hb9]; exact (if_pos ⟨Or.inl hc1, hc7⟩).symm, by rw [ht9]; exact hP9, va_K.moved hW.alike hK9, hD9⟩, hS.F ht9⟩) hS.2.2 d_BufferWalk_waitsForBuffers_50
  · skip
    have hc1 : ¬ ((pg 4) a = 4) := fun q9 => c1 ((nI_eq (a := (pg 4) a) (b := 4) (by omega) (by omega)).mpr q9)
    refine tp_pc (pc' := 15) (by rfl) ?_
    refine lv_iload_n hx hb d_BufferWalk_waitsForBuffers_15 rfl (lv_at hl 0 rfl) ?_
    refine lv_iconst (v := 3) hx hb d_BufferWalk_waitsForBuffers_16 (by decide) ?_
    refine lv_icmp_ne (tgt := 49) hx hb d_BufferWalk_waitsForBuffers_17 (by decide) (fun c2 => ?_) (fun c2 => ?_)
    · skip
      have hc2 : ¬ ((pg 4) a = 3) := fun q9 => c2 ((nI_eq (a := (pg 4) a) (b := 3) (by omega) (by omega)).mpr q9)
      refine tp_pc (pc' := 49) (by rfl) ?_
      refine lv_iconst (v := 0) hx hb d_BufferWalk_waitsForBuffers_49 (by decide) ?_
      obtain ⟨hP9, hD9, -⟩ := cut3 (wc := [oc ba 4 [.ref pa, .ref ga, .ref sa, .ref b1, .ref b2, .ref fa, .int (nI md), .int (nI mm), .int (nI hd)], oc pa 0 [.ref (pA 0), .ref (pA 1), .ref (pA 2), .ref (pA 3), .ref (pA 4), .ref (pA 5), .ref (pA 6), .ref (pA 7), .ref (pA 8), .ref (pA 9), .ref (pA 10), .int (nI T), .int (nI Ac)], ia (pA 2) (pK 2) 7 (fun i => nI ((pg 2) i)), ia (pA 4) (pK 4) 7 (fun i => nI ((pg 4) i)), ia (pA 8) (pK 8) 4 (fun i => nI ((pg 8) i))]) hP hD rfl hS hA [0, 1, 2, 3, 4] (by decide +kernel) rfl
      have hK9 := hK.sub (tys' := []) [] rfl
      refine W.widen (k := 0) (n := 0) (by exact Nat.le_of_ble_eq_true rfl) (by exact Nat.le_of_ble_eq_true rfl) ?_
      exact W.zret (v := 0) (ty := .boolean) hx hb hr (by decide) (fun t9 ht9 hW => ⟨⟨0, (), rfl, (if_neg (fun q => q.1.elim hc1 hc2)).symm, by rw [ht9]; exact hP9, va_K.moved hW.alike hK9, hD9⟩, hS.F ht9⟩) hS.2.2 d_BufferWalk_waitsForBuffers_50
    · skip
      have hc2 : (pg 4) a = 3 := (nI_eq (a := (pg 4) a) (b := 3) (by omega) (by omega)).mp c2
      refine tp_pc (pc' := 20) (by rfl) ?_
      refine lv_aload_n hx hb d_BufferWalk_waitsForBuffers_20 rfl (lv_at hl 1 rfl) ?_
      refine va_get (D := (dC, dI)) (ci := 4) (v := .int (nI hd)) (C := R_BufferWalk) (T := F_BufferWalk) (N := 9) hx hb hw i_BufferWalk hown hK hP 0 rfl rfl 8 (by decide) (hw _ m_259) (fun _ h9 => h9) rfl d_BufferWalk_waitsForBuffers_21 ?_
      refine lv_aload_n hx hb d_BufferWalk_waitsForBuffers_24 rfl (lv_at hl 1 rfl) ?_
      refine va_get (D := (dC, dI)) (ci := 4) (v := .ref pa) (C := R_BufferWalk) (T := F_BufferWalk) (N := 9) hx hb hw i_BufferWalk hown hK hP 0 rfl rfl 0 (by decide) (hw _ m_250) (fun _ h9 => h9) rfl d_BufferWalk_waitsForBuffers_25 ?_
      refine va_get (D := (dC, dI)) (ci := 0) (v := .ref (pA 8)) (C := R_Program) (T := F_Program) (N := 13) hx hb hw i_Program hown hK hP 1 rfl rfl 8 (by decide) (hw _ m_153) (fun _ h9 => h9) rfl d_BufferWalk_waitsForBuffers_28 ?_
      refine lv_aload_n hx hb d_BufferWalk_waitsForBuffers_31 rfl (lv_at hl 1 rfl) ?_
      refine va_get (D := (dC, dI)) (ci := 4) (v := .ref pa) (C := R_BufferWalk) (T := F_BufferWalk) (N := 9) hx hb hw i_BufferWalk hown hK hP 0 rfl rfl 0 (by decide) (hw _ m_250) (fun _ h9 => h9) rfl d_BufferWalk_waitsForBuffers_32 ?_
      refine va_get (D := (dC, dI)) (ci := 0) (v := .ref (pA 2)) (C := R_Program) (T := F_Program) (N := 13) hx hb hw i_Program hown hK hP 1 rfl rfl 2 (by decide) (hw _ m_131) (fun _ h9 => h9) rfl d_BufferWalk_waitsForBuffers_35 ?_
      refine lv_iload_n hx hb d_BufferWalk_waitsForBuffers_38 rfl (lv_at hl 2 rfl) ?_
      refine va_iald (D := (dC, dI)) hx hb hK hP 2 0 rfl rfl (i := nI a) (pk_in a 7 (by omega)) d_BufferWalk_waitsForBuffers_39 ?_
      refine tp_i (y := nI ((pg 2) a)) (by rw [show (nI a : Int32).toNatClampNeg = a from pk_cl a]) ?_
      refine va_iald (D := (dC, dI)) hx hb hK hP 4 2 rfl rfl (i := nI ((pg 2) a)) (pk_in ((pg 2) a) 4 (by omega)) d_BufferWalk_waitsForBuffers_40 ?_
      refine tp_i (y := nI ((pg 8) ((pg 2) a))) (by rw [show (nI ((pg 2) a) : Int32).toNatClampNeg = (pg 2) a from pk_cl ((pg 2) a)]) ?_
      refine lv_iand hx hb d_BufferWalk_waitsForBuffers_41 ?_
      refine tp_i (y := (nI hd) &&& (nI ((pg 8) ((pg 2) a)))) rfl ?_
      obtain ⟨b9, hb9⟩ : ∃ b9, b9 = hd &&& pg 8 (pg 2 a) := ⟨_, rfl⟩
      have hb2 : b9 < 128 := by rw [hb9]; exact Nat.and_lt_two_pow (n := 7) _ ho
      refine tp_i (y := nI b9) (by rw [hb9]; exact and_eq hh ho) ?_
      refine lv_if_eq (tgt := 49) hx hb d_BufferWalk_waitsForBuffers_42 (by decide) (fun c7 => ?_) (fun c7 => ?_)
      · skip
        have hc7 : b9 = 0 := (nI_eq (a := b9) (b := 0) (by omega) (by omega)).mp c7
        refine tp_pc (pc' := 49) (by rfl) ?_
        refine lv_iconst (v := 0) hx hb d_BufferWalk_waitsForBuffers_49 (by decide) ?_
        obtain ⟨hP9, hD9, -⟩ := cut3 (wc := [oc ba 4 [.ref pa, .ref ga, .ref sa, .ref b1, .ref b2, .ref fa, .int (nI md), .int (nI mm), .int (nI hd)], oc pa 0 [.ref (pA 0), .ref (pA 1), .ref (pA 2), .ref (pA 3), .ref (pA 4), .ref (pA 5), .ref (pA 6), .ref (pA 7), .ref (pA 8), .ref (pA 9), .ref (pA 10), .int (nI T), .int (nI Ac)], ia (pA 2) (pK 2) 7 (fun i => nI ((pg 2) i)), ia (pA 4) (pK 4) 7 (fun i => nI ((pg 4) i)), ia (pA 8) (pK 8) 4 (fun i => nI ((pg 8) i))]) hP hD rfl hS hA [0, 1, 2, 3, 4] (by decide +kernel) rfl
        have hK9 := hK.sub (tys' := []) [] rfl
        refine W.widen (k := 0) (n := 0) (by exact Nat.le_of_ble_eq_true rfl) (by exact Nat.le_of_ble_eq_true rfl) ?_
        exact W.zret (v := 0) (ty := .boolean) hx hb hr (by decide) (fun t9 ht9 hW => ⟨⟨0, (), rfl, by rw [← hb9]; exact (if_neg (fun q => q.2 hc7)).symm, by rw [ht9]; exact hP9, va_K.moved hW.alike hK9, hD9⟩, hS.F ht9⟩) hS.2.2 d_BufferWalk_waitsForBuffers_50
      · skip
        have hc7 : ¬ (b9 = 0) := fun q9 => c7 ((nI_eq (a := b9) (b := 0) (by omega) (by omega)).mpr q9)
        refine tp_pc (pc' := 45) (by rfl) ?_
        refine lv_iconst (v := 1) hx hb d_BufferWalk_waitsForBuffers_45 (by decide) ?_
        refine lv_goto (tgt := 50) hx hb d_BufferWalk_waitsForBuffers_46 (by decide) ?_
        refine tp_pc (pc' := 50) (by rfl) ?_
        obtain ⟨hP9, hD9, -⟩ := cut3 (wc := [oc ba 4 [.ref pa, .ref ga, .ref sa, .ref b1, .ref b2, .ref fa, .int (nI md), .int (nI mm), .int (nI hd)], oc pa 0 [.ref (pA 0), .ref (pA 1), .ref (pA 2), .ref (pA 3), .ref (pA 4), .ref (pA 5), .ref (pA 6), .ref (pA 7), .ref (pA 8), .ref (pA 9), .ref (pA 10), .int (nI T), .int (nI Ac)], ia (pA 2) (pK 2) 7 (fun i => nI ((pg 2) i)), ia (pA 4) (pK 4) 7 (fun i => nI ((pg 4) i)), ia (pA 8) (pK 8) 4 (fun i => nI ((pg 8) i))]) hP hD rfl hS hA [0, 1, 2, 3, 4] (by decide +kernel) rfl
        have hK9 := hK.sub (tys' := []) [] rfl
        refine W.widen (k := 0) (n := 0) (by exact Nat.le_of_ble_eq_true rfl) (by exact Nat.le_of_ble_eq_true rfl) ?_
        exact W.zret (v := 1) (ty := .boolean) hx hb hr (by decide) (fun t9 ht9 hW => ⟨⟨1, (), rfl, by rw [← hb9]; exact (if_pos ⟨Or.inr hc2, hc7⟩).symm, by rw [ht9]; exact hP9, va_K.moved hW.alike hK9, hD9⟩, hS.F ht9⟩) hS.2.2 d_BufferWalk_waitsForBuffers_50
