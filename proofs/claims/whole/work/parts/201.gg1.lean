set_option maxHeartbeats 4000000 in
set_option maxRecDepth 100000 in
theorem gen_Progress_isWritten (l : Launch) (dC : Nat → ClassId) (dI : Nat → Nat → Nat) (ga g1 g2 g3 : Nat) (l1 l2 l3 : ClassId) (dn : Nat) (so : Int64) (pl : Nat → Nat) (rg vl : Nat → Int32) (pa q : Nat) (hq8 : q < 8) (hdn : dn < 128) (sz : Nat) : Met l y_Progress_isWritten w_Progress_isWritten ({ frames := 1, cells := 0, slots := 0, locals := 30 }) (va_Pc [.ref ga, .int (nI q)] (fun U => U.heap.size = sz ∧ va_P (dC, dI) classes [oc ga 1 [.ref pa, .ref g1, .ref g2, .ref g3, .int (nI dn), .long so]] U.heap ∧ va_K (dC, dI) classes [] U ∧ va_D (fun _ => True) [oc ga 1 [.ref pa, .ref g1, .ref g2, .ref g3, .int (nI dn), .long so]] ∧ nw U)) (va_Qi (fun (r : Int32) (_ : Unit) => r = if wrb dn q then 1 else 0) (fun _ t9 => va_P (dC, dI) classes [oc ga 1 [.ref pa, .ref g1, .ref g2, .ref g3, .int (nI dn), .long so]] t9.heap ∧ va_K (dC, dI) classes [] t9 ∧ va_D (va_A [oc ga 1 [.ref pa, .ref g1, .ref g2, .ref g3, .int (nI dn), .long so]] sz) [oc ga 1 [.ref pa, .ref g1, .ref g2, .ref g3, .int (nI dn), .long so]]) (va_A [oc ga 1 [.ref pa, .ref g1, .ref g2, .ref g3, .int (nI dn), .long so]] sz)) 0 0 (va_A [oc ga 1 [.ref pa, .ref g1, .ref g2, .ref g3, .int (nI dn), .long so]] sz) := by
  refine Met.ofW (cc := b_Progress_isWritten) (maxL := 2) (ret := (some .boolean)) (by decide) rfl ?_
  intro p e0 s m args below meth c s₁ B hml hv
  obtain ⟨rfl, hsz, hP, hK, hD0, hn⟩ := hv
  have hx := B.exec
  have hb := B.bytes
  have hr := B.returns
  have hw := fun w (h : w ∈ wt) => atoms_spec (ws := w_Progress_isWritten) B.pre w (List.mem_cons_of_mem _ h)
  have hown : s.vm.findClass R_Progress = some m.cls := findClass_of_methodNamed B.named
  have hlocks := B.notSynchronized
  subst hsz
  have hD1 := hD0.self (sz := s.heap.size)
  generalize hAe : va_A [oc ga 1 [.ref pa, .ref g1, .ref g2, .ref g3, .int (nI dn), .long so]] s.heap.size = A at hD1 ⊢
  have hA : ∀ q : Nat, s.heap.size ≤ q → A q := fun q h => by rw [← hAe]; exact Or.inr h
  have hD : dd A [ga] := dd_of hD1 rfl
  clear hAe hD0 hD1
  have hS : va_S A s.heap s.heap [] := va_S.rf
  replace hP : va_P (dC, dI) classes [oc ga 1 [.ref pa, .ref g1, .ref g2, .ref g3, .int (nI dn), .long so]] s.heap := hP
  have hl := lv_entry ([.ref ga, .int (nI q)]) (n := 2) (Nat.le_of_ble_eq_true rfl)
  rw [lg_entry_eq]
  generalize (lg_sl ([.ref ga, .int (nI q)]) ++ List.replicate (2 - (lg_sl ([.ref ga, .int (nI q)])).length) Slot.unset).toArray = ls at hl ⊢
  replace hl : lv_has ls 2 [(0, .ref ga), (1, .int (nI q))] := hl
  refine lv_iload_n hx hb d_Progress_isWritten_0 rfl (lv_at hl 1 rfl) ?_
  refine lv_if_eq (tgt := 17) hx hb d_Progress_isWritten_1 (by decide) (fun c1 => ?_) (fun c1 => ?_)
  · skip
    have hc1 : q = 0 := (nI_eq (a := q) (b := 0) (by omega) (by omega)).mp c1
    refine tp_pc (pc' := 17) (by rfl) ?_
    refine lv_iconst (v := 1) hx hb d_Progress_isWritten_17 (by decide) ?_
    refine lv_goto (tgt := 22) hx hb d_Progress_isWritten_18 (by decide) ?_
    refine tp_pc (pc' := 22) (by rfl) ?_
    obtain ⟨hP9, hD9, -⟩ := cut3 (wc := [oc ga 1 [.ref pa, .ref g1, .ref g2, .ref g3, .int (nI dn), .long so]]) hP hD rfl hS hA [0] (by decide +kernel) rfl
    have hK9 := hK.sub (tys' := []) [] rfl
    refine W.widen (k := 0) (n := 0) (by exact Nat.le_of_ble_eq_true rfl) (by exact Nat.le_of_ble_eq_true rfl) ?_
    exact W.zret (v := 1) (ty := .boolean) hx hb hr (by decide) (fun t9 ht9 hW => ⟨⟨1, (), rfl, by rw [hc1]; rfl, by rw [ht9]; exact hP9, va_K.moved hW.alike hK9, hD9⟩, hS.F ht9⟩) hS.2.2 d_Progress_isWritten_22
  · skip
    have hc1 : ¬ (q = 0) := fun q9 => c1 ((nI_eq (a := q) (b := 0) (by omega) (by omega)).mpr q9)
    obtain ⟨b9, hb9⟩ : ∃ b9, b9 = dn / 2 ^ (q - 1) % 2 := ⟨_, rfl⟩
    have hb2 : b9 < 2 := by rw [hb9]; exact Nat.mod_lt _ (by decide)
    have hwb : wrb dn q = (b9 == 1) := by unfold wrb; rw [← hb9, show (q == 0) = false from by simpa using hc1]; rfl
    refine tp_pc (pc' := 4) (by rfl) ?_
    refine lv_aload_n hx hb d_Progress_isWritten_4 rfl (lv_at hl 0 rfl) ?_
    refine va_get (D := (dC, dI)) (ci := 1) (v := .int (nI dn)) (C := R_Progress) (T := F_Progress) (N := 6) hx hb hw i_Progress hown hK hP 0 rfl rfl 4 (by decide) (hw _ m_208) (fun _ h9 => h9) rfl d_Progress_isWritten_5 ?_
    refine lv_iload_n hx hb d_Progress_isWritten_8 rfl (lv_at hl 1 rfl) ?_
    refine lv_iconst (v := 1) hx hb d_Progress_isWritten_9 (by decide) ?_
    refine lv_isub hx hb d_Progress_isWritten_10 ?_
    refine tp_i (y := nI (q - 1)) (by exact pk_sub (a := q) (b := 1) (by omega)) ?_
    obtain ⟨hPc, hDc, hFc⟩ := cut3 (wc := []) hP hD rfl hS hA [] (by decide +kernel) rfl
    have hKc := hK.sub (tys' := []) [] rfl
    refine va_calli (va_runSN (As := [.int (nI dn), .int (nI (q - 1))]) (rest := []) ⟨hx, hb, hml, hown, hw⟩ (gen_isIn l dC dI dn (q - 1) (by omega) (by omega) s.heap.size) (⟨va_cnB 2 hw g_OM_isIn rfl rfl rfl (hn.1 (R_Progress, 67, y_OM_isIn, "OrderModels") (nq 5 (by rfl))) (hw _ m_101) (by decide +kernel) ⟨Nat.le_of_ble_eq_true rfl, Nat.le_of_ble_eq_true rfl⟩, hw _ m_560, trivial⟩) ⟨fun a U g mk q => by obtain ⟨q0, q1, qP, qK, qD, qN⟩ := q; exact ⟨q0, q1, qP, va_K.moved (u := U) (U := U.calling g mk a) (Vm.Alike.refl U.vm) qK, qD, nw_call qN⟩, fun U hU hW => ⟨rfl, by rw [hU], by rw [hU]; exact hPc, va_K.moved hW.alike hKc, hDc.weaken (fun _ _ _ _ => trivial), nw_warm hW hn⟩⟩ rfl rfl hl.1 rfl (lv_room (Nat.le_of_ble_eq_true rfl)) d_Progress_isWritten_11 ⟨Nat.le_of_ble_eq_true rfl, Nat.le_of_ble_eq_true rfl⟩) hS (fun q _ h => hFc q h) hFc ?_
    intro r_1 u t9 H1 locs1 ht9 hvm hw1 hB hz1 hk1 hS1
    obtain ⟨hP1, hK1, hD1⟩ := hB
    rw [ht9] at hP1
    replace hK1 := va_K.moved hvm.symm hK1
    have hPD := join3 hP hD rfl [] [0] rfl (by rfl) (by decide +kernel) (by decide +kernel) hk1 hFc hP1 hD1
    replace hK : va_K (dC, dI) classes [] s := hK.app hK1
    clear hP1 hK1 hD1 hk1 hz1 hFc hKc hDc hPc hvm ht9 hP hS t9
    have hP : va_P (dC, dI) classes [oc ga 1 [.ref pa, .ref g1, .ref g2, .ref g3, .int (nI dn), .long so]] H1 := hPD.1
    replace hD : dd A [ga] := dd_of hPD.2 rfl
    clear hPD
    revert H1 locs1
    intro H locs hS hP
    refine tp_i (y := nI b9) (by rw [hw1, hb9]) ?_
    clear hw1 r_1 u
    refine tp_pc (pc' := 14) (by rfl) ?_
    refine lv_if_eq (tgt := 21) hx hb d_Progress_isWritten_14 (by decide) (fun c2 => ?_) (fun c2 => ?_)
    · skip
      have hc2 : b9 = 0 := (nI_eq (a := b9) (b := 0) (by omega) (by omega)).mp c2
      refine tp_pc (pc' := 21) (by rfl) ?_
      refine lv_iconst (v := 0) hx hb d_Progress_isWritten_21 (by decide) ?_
      obtain ⟨hP9, hD9, -⟩ := cut3 (wc := [oc ga 1 [.ref pa, .ref g1, .ref g2, .ref g3, .int (nI dn), .long so]]) hP hD rfl hS hA [0] (by decide +kernel) rfl
      have hK9 := hK.sub (tys' := []) [] rfl
      refine W.widen (k := 0) (n := 0) (by exact Nat.le_of_ble_eq_true rfl) (by exact Nat.le_of_ble_eq_true rfl) ?_
      exact W.zret (v := 0) (ty := .boolean) hx hb hr (by decide) (fun t9 ht9 hW => ⟨⟨0, (), rfl, by rw [hwb, hc2]; rfl, by rw [ht9]; exact hP9, va_K.moved hW.alike hK9, hD9⟩, hS.F ht9⟩) hS.2.2 d_Progress_isWritten_22
    · skip
      have hc2 : ¬ (b9 = 0) := fun q9 => c2 ((nI_eq (a := b9) (b := 0) (by omega) (by omega)).mpr q9)
      refine tp_pc (pc' := 17) (by rfl) ?_
      refine lv_iconst (v := 1) hx hb d_Progress_isWritten_17 (by decide) ?_
      refine lv_goto (tgt := 22) hx hb d_Progress_isWritten_18 (by decide) ?_
      refine tp_pc (pc' := 22) (by rfl) ?_
      obtain ⟨hP9, hD9, -⟩ := cut3 (wc := [oc ga 1 [.ref pa, .ref g1, .ref g2, .ref g3, .int (nI dn), .long so]]) hP hD rfl hS hA [0] (by decide +kernel) rfl
      have hK9 := hK.sub (tys' := []) [] rfl
      refine W.widen (k := 0) (n := 0) (by exact Nat.le_of_ble_eq_true rfl) (by exact Nat.le_of_ble_eq_true rfl) ?_
      exact W.zret (v := 1) (ty := .boolean) hx hb hr (by decide) (fun t9 ht9 hW => ⟨⟨1, (), rfl, by rw [hwb, bit0 hb2 hc2]; rfl, by rw [ht9]; exact hP9, va_K.moved hW.alike hK9, hD9⟩, hS.F ht9⟩) hS.2.2 d_Progress_isWritten_22
set_option maxHeartbeats 4000000 in
set_option maxRecDepth 100000 in
theorem gen_GS_isBlocked (l : Launch) (dC : Nat → ClassId) (dI : Nat → Nat → Nat) (pa g1 g2 g3 dn : Nat) (so : Int64) (xa ga fa : Nat) (xA : Nat → Nat) (xK : Nat → ClassId) (md mb : Nat) (fm wm : Nat → Nat) (sc : Nat → Nat → Nat) (t : Nat) (ht4 : t < 4) (hw8 : wm t ≤ 8) (hdn : dn < 128) (sz : Nat) : Met l y_GraphSearch_isBlocked w_GraphSearch_isBlocked ({ frames := 2, cells := 0, slots := 0, locals := 60 }) (va_Pc [.ref xa, .int (nI t)] (fun U => U.heap.size = sz ∧ va_P (dC, dI) classes [oc xa 6 [.ref pa, .ref ga, .ref (xA 0), .ref (xA 1), .ref (xA 2), .ref (xA 3), .ref (xA 4), .ref (xA 5), .ref (xA 6), .ref (xA 7), .ref (xA 8), .ref (xA 9), .ref (xA 10), .ref (xA 11), .ref fa, .int (nI md), .int (nI mb)], ia (xA 1) (xK 1) 4 (fun i0 => mN (wm i0)), oc ga 1 [.ref pa, .ref g1, .ref g2, .ref g3, .int (nI dn), .long so]] U.heap ∧ va_K (dC, dI) classes [((xK 1), .int)] U ∧ va_D (fun _ => True) [oc xa 6 [.ref pa, .ref ga, .ref (xA 0), .ref (xA 1), .ref (xA 2), .ref (xA 3), .ref (xA 4), .ref (xA 5), .ref (xA 6), .ref (xA 7), .ref (xA 8), .ref (xA 9), .ref (xA 10), .ref (xA 11), .ref fa, .int (nI md), .int (nI mb)], ia (xA 1) (xK 1) 4 (fun i0 => mN (wm i0)), oc ga 1 [.ref pa, .ref g1, .ref g2, .ref g3, .int (nI dn), .long so]] ∧ nw U)) (va_Qi (fun (r : Int32) (_ : Unit) => r = if blk dn wm t then 1 else 0) (fun _ t9 => va_P (dC, dI) classes [oc xa 6 [.ref pa, .ref ga, .ref (xA 0), .ref (xA 1), .ref (xA 2), .ref (xA 3), .ref (xA 4), .ref (xA 5), .ref (xA 6), .ref (xA 7), .ref (xA 8), .ref (xA 9), .ref (xA 10), .ref (xA 11), .ref fa, .int (nI md), .int (nI mb)], ia (xA 1) (xK 1) 4 (fun i0 => mN (wm i0)), oc ga 1 [.ref pa, .ref g1, .ref g2, .ref g3, .int (nI dn), .long so]] t9.heap ∧ va_K (dC, dI) classes [] t9 ∧ va_D (va_A [oc xa 6 [.ref pa, .ref ga, .ref (xA 0), .ref (xA 1), .ref (xA 2), .ref (xA 3), .ref (xA 4), .ref (xA 5), .ref (xA 6), .ref (xA 7), .ref (xA 8), .ref (xA 9), .ref (xA 10), .ref (xA 11), .ref fa, .int (nI md), .int (nI mb)], ia (xA 1) (xK 1) 4 (fun i0 => mN (wm i0)), oc ga 1 [.ref pa, .ref g1, .ref g2, .ref g3, .int (nI dn), .long so]] sz) [oc xa 6 [.ref pa, .ref ga, .ref (xA 0), .ref (xA 1), .ref (xA 2), .ref (xA 3), .ref (xA 4), .ref (xA 5), .ref (xA 6), .ref (xA 7), .ref (xA 8), .ref (xA 9), .ref (xA 10), .ref (xA 11), .ref fa, .int (nI md), .int (nI mb)], ia (xA 1) (xK 1) 4 (fun i0 => mN (wm i0)), oc ga 1 [.ref pa, .ref g1, .ref g2, .ref g3, .int (nI dn), .long so]]) (va_A [oc xa 6 [.ref pa, .ref ga, .ref (xA 0), .ref (xA 1), .ref (xA 2), .ref (xA 3), .ref (xA 4), .ref (xA 5), .ref (xA 6), .ref (xA 7), .ref (xA 8), .ref (xA 9), .ref (xA 10), .ref (xA 11), .ref fa, .int (nI md), .int (nI mb)], ia (xA 1) (xK 1) 4 (fun i0 => mN (wm i0)), oc ga 1 [.ref pa, .ref g1, .ref g2, .ref g3, .int (nI dn), .long so]] sz)) 0 0 (va_A [oc xa 6 [.ref pa, .ref ga, .ref (xA 0), .ref (xA 1), .ref (xA 2), .ref (xA 3), .ref (xA 4), .ref (xA 5), .ref (xA 6), .ref (xA 7), .ref (xA 8), .ref (xA 9), .ref (xA 10), .ref (xA 11), .ref fa, .int (nI md), .int (nI mb)], ia (xA 1) (xK 1) 4 (fun i0 => mN (wm i0)), oc ga 1 [.ref pa, .ref g1, .ref g2, .ref g3, .int (nI dn), .long so]] sz) := by
  refine Met.ofW (cc := b_GraphSearch_isBlocked) (maxL := 2) (ret := (some .boolean)) (by decide) rfl ?_
  intro p e0 s m args below meth c s₁ B hml hv
  obtain ⟨rfl, hsz, hP, hK, hD0, hn⟩ := hv
  have hx := B.exec
  have hb := B.bytes
  have hr := B.returns
  have hw := fun w (h : w ∈ wt) => atoms_spec (ws := w_GraphSearch_isBlocked) B.pre w (List.mem_cons_of_mem _ h)
  have hown : s.vm.findClass R_GraphSearch = some m.cls := findClass_of_methodNamed B.named
  have hlocks := B.notSynchronized
  subst hsz
  have hD1 := hD0.self (sz := s.heap.size)
  generalize hAe : va_A [oc xa 6 [.ref pa, .ref ga, .ref (xA 0), .ref (xA 1), .ref (xA 2), .ref (xA 3), .ref (xA 4), .ref (xA 5), .ref (xA 6), .ref (xA 7), .ref (xA 8), .ref (xA 9), .ref (xA 10), .ref (xA 11), .ref fa, .int (nI md), .int (nI mb)], ia (xA 1) (xK 1) 4 (fun i0 => mN (wm i0)), oc ga 1 [.ref pa, .ref g1, .ref g2, .ref g3, .int (nI dn), .long so]] s.heap.size = A at hD1 ⊢
  have hA : ∀ q : Nat, s.heap.size ≤ q → A q := fun q h => by rw [← hAe]; exact Or.inr h
  have hD : dd A [xa, (xA 1), ga] := dd_of hD1 rfl
  clear hAe hD0 hD1
  have hS : va_S A s.heap s.heap [] := va_S.rf
  replace hP : va_P (dC, dI) classes [oc xa 6 [.ref pa, .ref ga, .ref (xA 0), .ref (xA 1), .ref (xA 2), .ref (xA 3), .ref (xA 4), .ref (xA 5), .ref (xA 6), .ref (xA 7), .ref (xA 8), .ref (xA 9), .ref (xA 10), .ref (xA 11), .ref fa, .int (nI md), .int (nI mb)], ia (xA 1) (xK 1) 4 (fun i0 => mN (wm i0)), oc ga 1 [.ref pa, .ref g1, .ref g2, .ref g3, .int (nI dn), .long so]] s.heap := hP
  have hl := lv_entry ([.ref xa, .int (nI t)]) (n := 2) (Nat.le_of_ble_eq_true rfl)
  rw [lg_entry_eq]
  generalize (lg_sl ([.ref xa, .int (nI t)]) ++ List.replicate (2 - (lg_sl ([.ref xa, .int (nI t)])).length) Slot.unset).toArray = ls at hl ⊢
  replace hl : lv_has ls 2 [(0, .ref xa), (1, .int (nI t))] := hl
  refine lv_aload_n hx hb d_GraphSearch_isBlocked_0 rfl (lv_at hl 0 rfl) ?_
  refine va_get (D := (dC, dI)) (ci := 6) (v := .ref (xA 1)) (C := R_GraphSearch) (T := F_GraphSearch) (N := 17) hx hb hw i_GraphSearch hown hK hP 0 rfl rfl 3 (by decide) (hw _ m_322) (fun _ h9 => h9) rfl d_GraphSearch_isBlocked_1 ?_
  refine lv_iload_n hx hb d_GraphSearch_isBlocked_4 rfl (lv_at hl 1 rfl) ?_
  refine va_iald (D := (dC, dI)) hx hb hK hP 1 0 rfl rfl (i := nI t) (pk_in t 4 (by omega)) d_GraphSearch_isBlocked_5 ?_
  refine tp_i (y := (fun i0 => mN (wm i0)) t) (by rw [show (nI t : Int32).toNatClampNeg = t from pk_cl t]) ?_
  refine tp_i (y := mN (wm t)) rfl ?_
  by_cases e0 : wm t = 0
  · skip
    rw [e0, mN_0]
    refine lv_iconst (v := (-1)) hx hb d_GraphSearch_isBlocked_6 (by decide) ?_
    refine lv_icmp_eq (tgt := 30) hx hb d_GraphSearch_isBlocked_7 (by decide) (fun c_1 => ?_) (fun c_1 => absurd c_1 (by decide))
    refine tp_pc (pc' := 30) (by rfl) ?_
    refine lv_iconst (v := 0) hx hb d_GraphSearch_isBlocked_30 (by decide) ?_
    obtain ⟨hP9, hD9, -⟩ := cut3 (wc := [oc xa 6 [.ref pa, .ref ga, .ref (xA 0), .ref (xA 1), .ref (xA 2), .ref (xA 3), .ref (xA 4), .ref (xA 5), .ref (xA 6), .ref (xA 7), .ref (xA 8), .ref (xA 9), .ref (xA 10), .ref (xA 11), .ref fa, .int (nI md), .int (nI mb)], ia (xA 1) (xK 1) 4 (fun i0 => mN (wm i0)), oc ga 1 [.ref pa, .ref g1, .ref g2, .ref g3, .int (nI dn), .long so]]) hP hD rfl hS hA [0, 1, 2] (by decide +kernel) rfl
    have hK9 := hK.sub (tys' := []) [] rfl
    refine W.widen (k := 0) (n := 0) (by exact Nat.le_of_ble_eq_true rfl) (by exact Nat.le_of_ble_eq_true rfl) ?_
    exact W.zret (v := 0) (ty := .boolean) hx hb hr (by decide) (fun t9 ht9 hW => ⟨⟨0, (), rfl, by unfold blk; rw [e0]; rfl, by rw [ht9]; exact hP9, va_K.moved hW.alike hK9, hD9⟩, hS.F ht9⟩) hS.2.2 d_GraphSearch_isBlocked_31
  · skip
    rw [mN_s e0]
    refine lv_iconst (v := (-1)) hx hb d_GraphSearch_isBlocked_6 (by decide) ?_
    refine lv_icmp_eq (tgt := 30) hx hb d_GraphSearch_isBlocked_7 (by decide) (fun c9 => absurd c9 (nI_m1 _ (by omega))) (fun c9 => ?_)
    refine tp_pc (pc' := 10) (by rfl) ?_
    refine lv_aload_n hx hb d_GraphSearch_isBlocked_10 rfl (lv_at hl 0 rfl) ?_
    refine va_get (D := (dC, dI)) (ci := 6) (v := .ref ga) (C := R_GraphSearch) (T := F_GraphSearch) (N := 17) hx hb hw i_GraphSearch hown hK hP 0 rfl rfl 1 (by decide) (hw _ m_320) (fun _ h9 => h9) rfl d_GraphSearch_isBlocked_11 ?_
    refine lv_aload_n hx hb d_GraphSearch_isBlocked_14 rfl (lv_at hl 0 rfl) ?_
    refine va_get (D := (dC, dI)) (ci := 6) (v := .ref (xA 1)) (C := R_GraphSearch) (T := F_GraphSearch) (N := 17) hx hb hw i_GraphSearch hown hK hP 0 rfl rfl 3 (by decide) (hw _ m_322) (fun _ h9 => h9) rfl d_GraphSearch_isBlocked_15 ?_
    refine lv_iload_n hx hb d_GraphSearch_isBlocked_18 rfl (lv_at hl 1 rfl) ?_
    refine va_iald (D := (dC, dI)) hx hb hK hP 1 0 rfl rfl (i := nI t) (pk_in t 4 (by omega)) d_GraphSearch_isBlocked_19 ?_
    refine tp_i (y := (fun i0 => mN (wm i0)) t) (by rw [show (nI t : Int32).toNatClampNeg = t from pk_cl t]) ?_
    refine tp_i (y := nI (wm t - 1)) (mN_s e0) ?_
    obtain ⟨hPc, hDc, hFc⟩ := cut3 (wc := [oc ga 1 [.ref pa, .ref g1, .ref g2, .ref g3, .int (nI dn), .long so]]) hP hD rfl hS hA [2] (by decide +kernel) rfl
    have hKc := hK.sub (tys' := []) [] rfl
    refine va_calli (va_runV (As := [.int (nI (wm t - 1))]) (rest := []) ⟨hx, hb, hml, hown, hw⟩ (gen_Progress_isWritten l dC dI ga g1 g2 g3 0 0 0 dn so (fun _ => 0) (fun _ => 0) (fun _ => 0) pa (wm t - 1) (by omega) hdn s.heap.size) (cw_V 1 hw g_Progress_isWritten rfl rfl rfl (hw _ m_103) (hw _ m_773) (hw _ m_774) (hw _ m_775) (by decide +kernel) ⟨Nat.le_of_ble_eq_true rfl, Nat.le_of_ble_eq_true rfl⟩) ⟨fun a U g mk q => by obtain ⟨q0, q1, qP, qK, qD, qN⟩ := q; exact ⟨q0, q1, qP, va_K.moved (u := U) (U := U.calling g mk a) (Vm.Alike.refl U.vm) qK, qD, nw_call qN⟩, va_recv hKc hPc (ci := 1) (q0 := 0) rfl rfl, fun U hU hW => ⟨rfl, by rw [hU], by rw [hU]; exact hPc, va_K.moved hW.alike hKc, hDc.weaken (fun _ _ _ _ => trivial), nw_warm hW hn⟩⟩ rfl rfl hl.1 rfl (lv_room (Nat.le_of_ble_eq_true rfl)) d_GraphSearch_isBlocked_20 ⟨Nat.le_of_ble_eq_true rfl, Nat.le_of_ble_eq_true rfl⟩) hS (fun q _ h => hFc q h) hFc ?_
    intro r_2 u t9 H1 locs1 ht9 hvm hw1 hB hz1 hk1 hS1
    obtain ⟨hP1, hK1, hD1⟩ := hB
    rw [ht9] at hP1
    replace hK1 := va_K.moved hvm.symm hK1
    have hPD := join3 hP hD rfl [2] [0, 1] rfl (by rfl) (by decide +kernel) (by decide +kernel) hk1 hFc hP1 hD1
    replace hK : va_K (dC, dI) classes [((xK 1), .int)] s := hK.app hK1
    clear hP1 hK1 hD1 hk1 hz1 hFc hKc hDc hPc hvm ht9 hP hS t9
    have hP : va_P (dC, dI) classes [oc xa 6 [.ref pa, .ref ga, .ref (xA 0), .ref (xA 1), .ref (xA 2), .ref (xA 3), .ref (xA 4), .ref (xA 5), .ref (xA 6), .ref (xA 7), .ref (xA 8), .ref (xA 9), .ref (xA 10), .ref (xA 11), .ref fa, .int (nI md), .int (nI mb)], ia (xA 1) (xK 1) 4 (fun i0 => mN (wm i0)), oc ga 1 [.ref pa, .ref g1, .ref g2, .ref g3, .int (nI dn), .long so]] H1 := hPD.1
    replace hD : dd A [xa, (xA 1), ga] := dd_of hPD.2 rfl
    clear hPD
    revert H1 locs1
    intro H locs hS hP
    refine tp_i (y := (if wrb dn (wm t - 1) then 1 else 0)) (hw1) ?_
    clear hw1 r_2 u
    have hbk : blk dn wm t = !wrb dn (wm t - 1) := by unfold blk; rw [show (wm t != 0) = true from by simpa using e0]; rfl
    cases hwb : wrb dn (wm t - 1) with
    | true =>
      rw [if_pos (rfl : true = true)]
      refine tp_pc (pc' := 23) (by rfl) ?_
      refine lv_if_ne (tgt := 30) hx hb d_GraphSearch_isBlocked_23 (by decide) (fun c_3 => ?_) (fun c_3 => absurd c_3 (by decide))
      refine tp_pc (pc' := 30) (by rfl) ?_
      refine lv_iconst (v := 0) hx hb d_GraphSearch_isBlocked_30 (by decide) ?_
      obtain ⟨hP9, hD9, -⟩ := cut3 (wc := [oc xa 6 [.ref pa, .ref ga, .ref (xA 0), .ref (xA 1), .ref (xA 2), .ref (xA 3), .ref (xA 4), .ref (xA 5), .ref (xA 6), .ref (xA 7), .ref (xA 8), .ref (xA 9), .ref (xA 10), .ref (xA 11), .ref fa, .int (nI md), .int (nI mb)], ia (xA 1) (xK 1) 4 (fun i0 => mN (wm i0)), oc ga 1 [.ref pa, .ref g1, .ref g2, .ref g3, .int (nI dn), .long so]]) hP hD rfl hS hA [0, 1, 2] (by decide +kernel) rfl
      have hK9 := hK.sub (tys' := []) [] rfl
      refine W.widen (k := 0) (n := 0) (by exact Nat.le_of_ble_eq_true rfl) (by exact Nat.le_of_ble_eq_true rfl) ?_
      exact W.zret (v := 0) (ty := .boolean) hx hb hr (by decide) (fun t9 ht9 hW => ⟨⟨0, (), rfl, by rw [hbk, hwb]; rfl, by rw [ht9]; exact hP9, va_K.moved hW.alike hK9, hD9⟩, hS.F ht9⟩) hS.2.2 d_GraphSearch_isBlocked_31
    | false =>
      rw [if_neg (by decide : ¬ (false = true))]
      refine tp_pc (pc' := 23) (by rfl) ?_
      refine lv_if_ne (tgt := 30) hx hb d_GraphSearch_isBlocked_23 (by decide) (fun c_4 => absurd c_4 (by decide)) (fun c_4 => ?_)
      refine tp_pc (pc' := 26) (by rfl) ?_
      refine lv_iconst (v := 1) hx hb d_GraphSearch_isBlocked_26 (by decide) ?_
      refine lv_goto (tgt := 31) hx hb d_GraphSearch_isBlocked_27 (by decide) ?_
      refine tp_pc (pc' := 31) (by rfl) ?_
      obtain ⟨hP9, hD9, -⟩ := cut3 (wc := [oc xa 6 [.ref pa, .ref ga, .ref (xA 0), .ref (xA 1), .ref (xA 2), .ref (xA 3), .ref (xA 4), .ref (xA 5), .ref (xA 6), .ref (xA 7), .ref (xA 8), .ref (xA 9), .ref (xA 10), .ref (xA 11), .ref fa, .int (nI md), .int (nI mb)], ia (xA 1) (xK 1) 4 (fun i0 => mN (wm i0)), oc ga 1 [.ref pa, .ref g1, .ref g2, .ref g3, .int (nI dn), .long so]]) hP hD rfl hS hA [0, 1, 2] (by decide +kernel) rfl
      have hK9 := hK.sub (tys' := []) [] rfl
      refine W.widen (k := 0) (n := 0) (by exact Nat.le_of_ble_eq_true rfl) (by exact Nat.le_of_ble_eq_true rfl) ?_
      exact W.zret (v := 1) (ty := .boolean) hx hb hr (by decide) (fun t9 ht9 hW => ⟨⟨1, (), rfl, by rw [hbk, hwb]; rfl, by rw [ht9]; exact hP9, va_K.moved hW.alike hK9, hD9⟩, hS.F ht9⟩) hS.2.2 d_GraphSearch_isBlocked_31
set_option maxHeartbeats 4000000 in
set_option maxRecDepth 100000 in
theorem gen_GS_freeThread (l : Launch) (dC : Nat → ClassId) (dI : Nat → Nat → Nat) (pa : Nat) (pA : Nat → Nat) (pK : Nat → ClassId) (T Ac : Nat) (pg : Nat → Nat → Nat) (nm : Nat → Int32) (g1 g2 g3 : Nat) (l1 : ClassId) (dn : Nat) (so : Int64) (pl : Nat → Nat) (xa ga fa : Nat) (xA : Nat → Nat) (xK : Nat → ClassId) (md mb : Nat) (fm wm : Nat → Nat) (sc : Nat → Nat → Nat) (hPg : PgOk T Ac pg) (hpl : ∀ t, t < T → pl t ≤ 10) (hwm : ∀ t, t < T → wm t ≤ 8) (hdn : dn < 128) (sz : Nat) : Met l y_GraphSearch_freeThread w_GraphSearch_freeThread ({ frames := 3, cells := 0, slots := 0, locals := 100 }) (va_Pc [.ref xa] (fun U => U.heap.size = sz ∧ va_P (dC, dI) classes [oc xa 6 [.ref pa, .ref ga, .ref (xA 0), .ref (xA 1), .ref (xA 2), .ref (xA 3), .ref (xA 4), .ref (xA 5), .ref (xA 6), .ref (xA 7), .ref (xA 8), .ref (xA 9), .ref (xA 10), .ref (xA 11), .ref fa, .int (nI md), .int (nI mb)], ia (xA 1) (xK 1) 4 (fun i0 => mN (wm i0)), oc ga 1 [.ref pa, .ref g1, .ref g2, .ref g3, .int (nI dn), .long so], ia g1 l1 4 (fun i => nI (pl i)), oc pa 0 [.ref (pA 0), .ref (pA 1), .ref (pA 2), .ref (pA 3), .ref (pA 4), .ref (pA 5), .ref (pA 6), .ref (pA 7), .ref (pA 8), .ref (pA 9), .ref (pA 10), .int (nI T), .int (nI Ac)], ia (pA 0) (pK 0) 4 (fun i => nI ((pg 0) i)), ia (pA 1) (pK 1) 28 (fun i => nI ((pg 1) i))] U.heap ∧ va_K (dC, dI) classes [((xK 1), .int), (l1, .int), ((pK 0), .int), ((pK 1), .int)] U ∧ va_D (fun _ => True) [oc xa 6 [.ref pa, .ref ga, .ref (xA 0), .ref (xA 1), .ref (xA 2), .ref (xA 3), .ref (xA 4), .ref (xA 5), .ref (xA 6), .ref (xA 7), .ref (xA 8), .ref (xA 9), .ref (xA 10), .ref (xA 11), .ref fa, .int (nI md), .int (nI mb)], ia (xA 1) (xK 1) 4 (fun i0 => mN (wm i0)), oc ga 1 [.ref pa, .ref g1, .ref g2, .ref g3, .int (nI dn), .long so], ia g1 l1 4 (fun i => nI (pl i)), oc pa 0 [.ref (pA 0), .ref (pA 1), .ref (pA 2), .ref (pA 3), .ref (pA 4), .ref (pA 5), .ref (pA 6), .ref (pA 7), .ref (pA 8), .ref (pA 9), .ref (pA 10), .int (nI T), .int (nI Ac)], ia (pA 0) (pK 0) 4 (fun i => nI ((pg 0) i)), ia (pA 1) (pK 1) 28 (fun i => nI ((pg 1) i))] ∧ nw U)) (va_Qi (fun (r : Int32) (_ : Unit) => r = mN (fF (fre pg pl dn wm) T 0)) (fun _ t9 => va_P (dC, dI) classes [oc xa 6 [.ref pa, .ref ga, .ref (xA 0), .ref (xA 1), .ref (xA 2), .ref (xA 3), .ref (xA 4), .ref (xA 5), .ref (xA 6), .ref (xA 7), .ref (xA 8), .ref (xA 9), .ref (xA 10), .ref (xA 11), .ref fa, .int (nI md), .int (nI mb)], ia (xA 1) (xK 1) 4 (fun i0 => mN (wm i0)), oc ga 1 [.ref pa, .ref g1, .ref g2, .ref g3, .int (nI dn), .long so], ia g1 l1 4 (fun i => nI (pl i)), oc pa 0 [.ref (pA 0), .ref (pA 1), .ref (pA 2), .ref (pA 3), .ref (pA 4), .ref (pA 5), .ref (pA 6), .ref (pA 7), .ref (pA 8), .ref (pA 9), .ref (pA 10), .int (nI T), .int (nI Ac)], ia (pA 0) (pK 0) 4 (fun i => nI ((pg 0) i)), ia (pA 1) (pK 1) 28 (fun i => nI ((pg 1) i))] t9.heap ∧ va_K (dC, dI) classes [] t9 ∧ va_D (va_A [oc xa 6 [.ref pa, .ref ga, .ref (xA 0), .ref (xA 1), .ref (xA 2), .ref (xA 3), .ref (xA 4), .ref (xA 5), .ref (xA 6), .ref (xA 7), .ref (xA 8), .ref (xA 9), .ref (xA 10), .ref (xA 11), .ref fa, .int (nI md), .int (nI mb)], ia (xA 1) (xK 1) 4 (fun i0 => mN (wm i0)), oc ga 1 [.ref pa, .ref g1, .ref g2, .ref g3, .int (nI dn), .long so], ia g1 l1 4 (fun i => nI (pl i)), oc pa 0 [.ref (pA 0), .ref (pA 1), .ref (pA 2), .ref (pA 3), .ref (pA 4), .ref (pA 5), .ref (pA 6), .ref (pA 7), .ref (pA 8), .ref (pA 9), .ref (pA 10), .int (nI T), .int (nI Ac)], ia (pA 0) (pK 0) 4 (fun i => nI ((pg 0) i)), ia (pA 1) (pK 1) 28 (fun i => nI ((pg 1) i))] sz) [oc xa 6 [.ref pa, .ref ga, .ref (xA 0), .ref (xA 1), .ref (xA 2), .ref (xA 3), .ref (xA 4), .ref (xA 5), .ref (xA 6), .ref (xA 7), .ref (xA 8), .ref (xA 9), .ref (xA 10), .ref (xA 11), .ref fa, .int (nI md), .int (nI mb)], ia (xA 1) (xK 1) 4 (fun i0 => mN (wm i0)), oc ga 1 [.ref pa, .ref g1, .ref g2, .ref g3, .int (nI dn), .long so], ia g1 l1 4 (fun i => nI (pl i)), oc pa 0 [.ref (pA 0), .ref (pA 1), .ref (pA 2), .ref (pA 3), .ref (pA 4), .ref (pA 5), .ref (pA 6), .ref (pA 7), .ref (pA 8), .ref (pA 9), .ref (pA 10), .int (nI T), .int (nI Ac)], ia (pA 0) (pK 0) 4 (fun i => nI ((pg 0) i)), ia (pA 1) (pK 1) 28 (fun i => nI ((pg 1) i))]) (va_A [oc xa 6 [.ref pa, .ref ga, .ref (xA 0), .ref (xA 1), .ref (xA 2), .ref (xA 3), .ref (xA 4), .ref (xA 5), .ref (xA 6), .ref (xA 7), .ref (xA 8), .ref (xA 9), .ref (xA 10), .ref (xA 11), .ref fa, .int (nI md), .int (nI mb)], ia (xA 1) (xK 1) 4 (fun i0 => mN (wm i0)), oc ga 1 [.ref pa, .ref g1, .ref g2, .ref g3, .int (nI dn), .long so], ia g1 l1 4 (fun i => nI (pl i)), oc pa 0 [.ref (pA 0), .ref (pA 1), .ref (pA 2), .ref (pA 3), .ref (pA 4), .ref (pA 5), .ref (pA 6), .ref (pA 7), .ref (pA 8), .ref (pA 9), .ref (pA 10), .int (nI T), .int (nI Ac)], ia (pA 0) (pK 0) 4 (fun i => nI ((pg 0) i)), ia (pA 1) (pK 1) 28 (fun i => nI ((pg 1) i))] sz)) 0 0 (va_A [oc xa 6 [.ref pa, .ref ga, .ref (xA 0), .ref (xA 1), .ref (xA 2), .ref (xA 3), .ref (xA 4), .ref (xA 5), .ref (xA 6), .ref (xA 7), .ref (xA 8), .ref (xA 9), .ref (xA 10), .ref (xA 11), .ref fa, .int (nI md), .int (nI mb)], ia (xA 1) (xK 1) 4 (fun i0 => mN (wm i0)), oc ga 1 [.ref pa, .ref g1, .ref g2, .ref g3, .int (nI dn), .long so], ia g1 l1 4 (fun i => nI (pl i)), oc pa 0 [.ref (pA 0), .ref (pA 1), .ref (pA 2), .ref (pA 3), .ref (pA 4), .ref (pA 5), .ref (pA 6), .ref (pA 7), .ref (pA 8), .ref (pA 9), .ref (pA 10), .int (nI T), .int (nI Ac)], ia (pA 0) (pK 0) 4 (fun i => nI ((pg 0) i)), ia (pA 1) (pK 1) 28 (fun i => nI ((pg 1) i))] sz) := by
  refine Met.ofW (cc := b_GraphSearch_freeThread) (maxL := 2) (ret := (some .int)) (by decide) rfl ?_
  intro p e0 s m args below meth c s₁ B hml hv
  obtain ⟨rfl, hsz, hP, hK, hD0, hn⟩ := hv
  have hx := B.exec
  have hb := B.bytes
  have hr := B.returns
  have hw := fun w (h : w ∈ wt) => atoms_spec (ws := w_GraphSearch_freeThread) B.pre w (List.mem_cons_of_mem _ h)
  have hown : s.vm.findClass R_GraphSearch = some m.cls := findClass_of_methodNamed B.named
  have hlocks := B.notSynchronized
  subst hsz
  have hD1 := hD0.self (sz := s.heap.size)
  generalize hAe : va_A [oc xa 6 [.ref pa, .ref ga, .ref (xA 0), .ref (xA 1), .ref (xA 2), .ref (xA 3), .ref (xA 4), .ref (xA 5), .ref (xA 6), .ref (xA 7), .ref (xA 8), .ref (xA 9), .ref (xA 10), .ref (xA 11), .ref fa, .int (nI md), .int (nI mb)], ia (xA 1) (xK 1) 4 (fun i0 => mN (wm i0)), oc ga 1 [.ref pa, .ref g1, .ref g2, .ref g3, .int (nI dn), .long so], ia g1 l1 4 (fun i => nI (pl i)), oc pa 0 [.ref (pA 0), .ref (pA 1), .ref (pA 2), .ref (pA 3), .ref (pA 4), .ref (pA 5), .ref (pA 6), .ref (pA 7), .ref (pA 8), .ref (pA 9), .ref (pA 10), .int (nI T), .int (nI Ac)], ia (pA 0) (pK 0) 4 (fun i => nI ((pg 0) i)), ia (pA 1) (pK 1) 28 (fun i => nI ((pg 1) i))] s.heap.size = A at hD1 ⊢
  have hA : ∀ q : Nat, s.heap.size ≤ q → A q := fun q h => by rw [← hAe]; exact Or.inr h
  have hD : dd A [xa, (xA 1), ga, g1, pa, (pA 0), (pA 1)] := dd_of hD1 rfl
  clear hAe hD0 hD1
  have hS : va_S A s.heap s.heap [] := va_S.rf
  replace hP : va_P (dC, dI) classes [oc xa 6 [.ref pa, .ref ga, .ref (xA 0), .ref (xA 1), .ref (xA 2), .ref (xA 3), .ref (xA 4), .ref (xA 5), .ref (xA 6), .ref (xA 7), .ref (xA 8), .ref (xA 9), .ref (xA 10), .ref (xA 11), .ref fa, .int (nI md), .int (nI mb)], ia (xA 1) (xK 1) 4 (fun i0 => mN (wm i0)), oc ga 1 [.ref pa, .ref g1, .ref g2, .ref g3, .int (nI dn), .long so], ia g1 l1 4 (fun i => nI (pl i)), oc pa 0 [.ref (pA 0), .ref (pA 1), .ref (pA 2), .ref (pA 3), .ref (pA 4), .ref (pA 5), .ref (pA 6), .ref (pA 7), .ref (pA 8), .ref (pA 9), .ref (pA 10), .int (nI T), .int (nI Ac)], ia (pA 0) (pK 0) 4 (fun i => nI ((pg 0) i)), ia (pA 1) (pK 1) 28 (fun i => nI ((pg 1) i))] s.heap := hP
  have hl := lv_entry ([.ref xa]) (n := 2) (Nat.le_of_ble_eq_true rfl)
  rw [lg_entry_eq]
  generalize (lg_sl ([.ref xa]) ++ List.replicate (2 - (lg_sl ([.ref xa])).length) Slot.unset).toArray = ls at hl ⊢
  replace hl : lv_has ls 2 [(0, .ref xa)] := hl
  have hPg3 := hPg
  obtain ⟨p1, p2, p3, p4, p5, p6, p7, p8, p9, p10, p11⟩ := hPg3
  refine lv_iconst (v := 0) hx hb d_GraphSearch_freeThread_0 (by decide) ?_
  refine lv_istore_n (lv' := [(1, .int 0), (0, .ref xa)]) hx hb d_GraphSearch_freeThread_1 rfl hl (by decide) rfl ?_
  clear hl ls
  intro ls hl
  replace hP : va_P (dC, dI) classes [oc xa 6 [.ref pa, .ref ga, .ref (xA 0), .ref (xA 1), .ref (xA 2), .ref (xA 3), .ref (xA 4), .ref (xA 5), .ref (xA 6), .ref (xA 7), .ref (xA 8), .ref (xA 9), .ref (xA 10), .ref (xA 11), .ref fa, .int (nI md), .int (nI mb)], ia (xA 1) (xK 1) 4 (fun i0 => mN (wm i0)), oc ga 1 [.ref pa, .ref g1, .ref g2, .ref g3, .int (nI dn), .long so], ia g1 l1 4 (fun i => nI (pl i)), oc pa 0 [.ref (pA 0), .ref (pA 1), .ref (pA 2), .ref (pA 3), .ref (pA 4), .ref (pA 5), .ref (pA 6), .ref (pA 7), .ref (pA 8), .ref (pA 9), .ref (pA 10), .int (nI T), .int (nI Ac)], ia (pA 0) (pK 0) 4 (fun i => nI ((pg 0) i)), ia (pA 1) (pK 1) 28 (fun i => nI ((pg 1) i))] s.heap := hP
  replace hl : lv_has ls 2 [(1, .int (nI 0)), (0, .ref xa)] := hl
  refine lp_n T (fun i H locs ls => fF (fre pg pl dn wm) (T - i) i = fF (fre pg pl dn wm) T 0 ∧ va_P (dC, dI) classes [oc xa 6 [.ref pa, .ref ga, .ref (xA 0), .ref (xA 1), .ref (xA 2), .ref (xA 3), .ref (xA 4), .ref (xA 5), .ref (xA 6), .ref (xA 7), .ref (xA 8), .ref (xA 9), .ref (xA 10), .ref (xA 11), .ref fa, .int (nI md), .int (nI mb)], ia (xA 1) (xK 1) 4 (fun i0 => mN (wm i0)), oc ga 1 [.ref pa, .ref g1, .ref g2, .ref g3, .int (nI dn), .long so], ia g1 l1 4 (fun i => nI (pl i)), oc pa 0 [.ref (pA 0), .ref (pA 1), .ref (pA 2), .ref (pA 3), .ref (pA 4), .ref (pA 5), .ref (pA 6), .ref (pA 7), .ref (pA 8), .ref (pA 9), .ref (pA 10), .int (nI T), .int (nI Ac)], ia (pA 0) (pK 0) 4 (fun i => nI ((pg 0) i)), ia (pA 1) (pK 1) 28 (fun i => nI ((pg 1) i))] H ∧ va_S A s.heap H locs ∧ lv_has ls 2 [(1, .int (nI i)), (0, .ref xa)]) ⟨rfl, hP, hS, hl⟩ ?_ ?_
  · intro i H locs ls hi hI ih
    obtain ⟨hinv, hP, hS, hl⟩ := hI
    refine lv_iload_n hx hb d_GraphSearch_freeThread_2 rfl (lv_at hl 0 rfl) ?_
    refine lv_aload_n hx hb d_GraphSearch_freeThread_3 rfl (lv_at hl 1 rfl) ?_
    refine va_get (D := (dC, dI)) (ci := 6) (v := .ref pa) (C := R_GraphSearch) (T := F_GraphSearch) (N := 17) hx hb hw i_GraphSearch hown hK hP 0 rfl rfl 0 (by decide) (hw _ m_319) (fun _ h9 => h9) rfl d_GraphSearch_freeThread_4 ?_
    refine va_get (D := (dC, dI)) (ci := 0) (v := .int (nI T)) (C := R_Program) (T := F_Program) (N := 13) hx hb hw i_Program hown hK hP 4 rfl rfl 11 (by decide) (hw _ m_164) (fun _ h9 => h9) rfl d_GraphSearch_freeThread_7 ?_
    refine lv_icmp_ge (tgt := 41) hx hb d_GraphSearch_freeThread_10 (by decide) (fun c9 => absurd c9 (nI_ge hi (by omega))) (fun c9 => ?_)
    rw [show T - i = (T - (i + 1)) + 1 from by omega, fF] at hinv
    refine tp_pc (pc' := 13) (by rfl) ?_
    refine lv_aload_n hx hb d_GraphSearch_freeThread_13 rfl (lv_at hl 1 rfl) ?_
    refine va_get (D := (dC, dI)) (ci := 6) (v := .ref ga) (C := R_GraphSearch) (T := F_GraphSearch) (N := 17) hx hb hw i_GraphSearch hown hK hP 0 rfl rfl 1 (by decide) (hw _ m_320) (fun _ h9 => h9) rfl d_GraphSearch_freeThread_14 ?_
    refine lv_iload_n hx hb d_GraphSearch_freeThread_17 rfl (lv_at hl 0 rfl) ?_
    obtain ⟨hPc, hDc, hFc⟩ := cut3 (wc := [oc ga 1 [.ref pa, .ref g1, .ref g2, .ref g3, .int (nI dn), .long so], ia g1 l1 4 (fun i => nI (pl i)), oc pa 0 [.ref (pA 0), .ref (pA 1), .ref (pA 2), .ref (pA 3), .ref (pA 4), .ref (pA 5), .ref (pA 6), .ref (pA 7), .ref (pA 8), .ref (pA 9), .ref (pA 10), .int (nI T), .int (nI Ac)], ia (pA 0) (pK 0) 4 (fun i => nI ((pg 0) i)), ia (pA 1) (pK 1) 28 (fun i => nI ((pg 1) i))]) hP hD rfl hS hA [2, 3, 4, 5, 6] (by decide +kernel) rfl
    have hKc := hK.sub (tys' := [(l1, .int), ((pK 0), .int), ((pK 1), .int)]) [1, 2, 3] rfl
    refine va_calli (va_runV (As := [.int (nI i)]) (rest := []) ⟨hx, hb, hml, hown, hw⟩ (gen_Progress_next l dC dI pa pA pK T Ac pg nm ga g1 g2 g3 l1 0 0 dn so pl (fun _ => 0) (fun _ => 0) i p1 hi (by have := hpl i hi; omega) (p3 i hi) H.size) (cw_V 1 hw g_Progress_next rfl rfl rfl (hw _ m_103) (hw _ m_768) (hw _ m_536) (hw _ m_537) (by decide +kernel) ⟨Nat.le_of_ble_eq_true rfl, Nat.le_of_ble_eq_true rfl⟩) ⟨fun a U g mk q => by obtain ⟨q0, q1, qP, qK, qD, qN⟩ := q; exact ⟨q0, q1, qP, va_K.moved (u := U) (U := U.calling g mk a) (Vm.Alike.refl U.vm) qK, qD, nw_call qN⟩, va_recv hKc hPc (ci := 1) (q0 := 0) rfl rfl, fun U hU hW => ⟨rfl, by rw [hU], by rw [hU]; exact hPc, va_K.moved hW.alike hKc, hDc.weaken (fun _ _ _ _ => trivial), nw_warm hW hn⟩⟩ rfl rfl hl.1 rfl (lv_room (Nat.le_of_ble_eq_true rfl)) d_GraphSearch_freeThread_18 ⟨Nat.le_of_ble_eq_true rfl, Nat.le_of_ble_eq_true rfl⟩) hS (fun q _ h => hFc q h) hFc ?_
    intro r_1 u t9 H1 locs1 ht9 hvm hw1 hB hz1 hk1 hS1
    obtain ⟨hP1, hK1, hD1⟩ := hB
    rw [ht9] at hP1
    replace hK1 := va_K.moved hvm.symm hK1
    have hPD := join3 hP hD rfl [2, 3, 4, 5, 6] [0, 1] rfl (by rfl) (by decide +kernel) (by decide +kernel) hk1 hFc hP1 hD1
    replace hK : va_K (dC, dI) classes [((xK 1), .int), (l1, .int), ((pK 0), .int), ((pK 1), .int)] s := hK.app hK1
    clear hP1 hK1 hD1 hk1 hz1 hFc hKc hDc hPc hvm ht9 hP hS t9 locs H
    have hP : va_P (dC, dI) classes [oc xa 6 [.ref pa, .ref ga, .ref (xA 0), .ref (xA 1), .ref (xA 2), .ref (xA 3), .ref (xA 4), .ref (xA 5), .ref (xA 6), .ref (xA 7), .ref (xA 8), .ref (xA 9), .ref (xA 10), .ref (xA 11), .ref fa, .int (nI md), .int (nI mb)], ia (xA 1) (xK 1) 4 (fun i0 => mN (wm i0)), oc ga 1 [.ref pa, .ref g1, .ref g2, .ref g3, .int (nI dn), .long so], ia g1 l1 4 (fun i => nI (pl i)), oc pa 0 [.ref (pA 0), .ref (pA 1), .ref (pA 2), .ref (pA 3), .ref (pA 4), .ref (pA 5), .ref (pA 6), .ref (pA 7), .ref (pA 8), .ref (pA 9), .ref (pA 10), .int (nI T), .int (nI Ac)], ia (pA 0) (pK 0) 4 (fun i => nI ((pg 0) i)), ia (pA 1) (pK 1) 28 (fun i => nI ((pg 1) i))] H1 := hPD.1
    replace hD : dd A [xa, (xA 1), ga, g1, pa, (pA 0), (pA 1)] := dd_of hPD.2 rfl
    clear hPD
    revert H1 locs1
    intro H locs hS hP
    rcases hw1 with ⟨hq1, hr1⟩ | ⟨hq1, hr1⟩
    · skip
      subst hr1
      have a7 : pg 1 (i * 7 + pl i) < 7 := by have := (p4 i _ hi hq1).1; omega
      refine tp_pc (pc' := 21) (by rfl) ?_
      refine lv_iconst (v := (-1)) hx hb d_GraphSearch_freeThread_21 (by decide) ?_
      refine lv_icmp_eq (tgt := 35) hx hb d_GraphSearch_freeThread_22 (by decide) (fun c9 => absurd c9 (nI_m1 _ (by omega))) (fun c9 => ?_)
      refine tp_pc (pc' := 25) (by rfl) ?_
      refine lv_aload_n hx hb d_GraphSearch_freeThread_25 rfl (lv_at hl 1 rfl) ?_
      refine lv_iload_n hx hb d_GraphSearch_freeThread_26 rfl (lv_at hl 0 rfl) ?_
      obtain ⟨hPc, hDc, hFc⟩ := cut3 (wc := [oc xa 6 [.ref pa, .ref ga, .ref (xA 0), .ref (xA 1), .ref (xA 2), .ref (xA 3), .ref (xA 4), .ref (xA 5), .ref (xA 6), .ref (xA 7), .ref (xA 8), .ref (xA 9), .ref (xA 10), .ref (xA 11), .ref fa, .int (nI md), .int (nI mb)], ia (xA 1) (xK 1) 4 (fun i0 => mN (wm i0)), oc ga 1 [.ref pa, .ref g1, .ref g2, .ref g3, .int (nI dn), .long so]]) hP hD rfl hS hA [0, 1, 2] (by decide +kernel) rfl
      have hKc := hK.sub (tys' := [((xK 1), .int)]) [0] rfl
      refine va_calli (va_runV (As := [.int (nI i)]) (rest := []) ⟨hx, hb, hml, hown, hw⟩ (gen_GS_isBlocked l dC dI pa g1 g2 g3 dn so xa ga fa xA xK md mb fm wm sc i (by omega) (hwm i hi) hdn H.size) (cw_V 1 hw g_GraphSearch_isBlocked rfl rfl rfl (hw _ m_107) (hw _ m_769) (hw _ m_771) (hw _ m_34) (by decide +kernel) ⟨Nat.le_of_ble_eq_true rfl, Nat.le_of_ble_eq_true rfl⟩) ⟨fun a U g mk q => by obtain ⟨q0, q1, qP, qK, qD, qN⟩ := q; exact ⟨q0, q1, qP, va_K.moved (u := U) (U := U.calling g mk a) (Vm.Alike.refl U.vm) qK, qD, nw_call qN⟩, va_recv hKc hPc (ci := 6) (q0 := 0) rfl rfl, fun U hU hW => ⟨rfl, by rw [hU], by rw [hU]; exact hPc, va_K.moved hW.alike hKc, hDc.weaken (fun _ _ _ _ => trivial), nw_warm hW hn⟩⟩ rfl rfl hl.1 rfl (lv_room (Nat.le_of_ble_eq_true rfl)) d_GraphSearch_freeThread_27 ⟨Nat.le_of_ble_eq_true rfl, Nat.le_of_ble_eq_true rfl⟩) hS (fun q _ h => hFc q h) hFc ?_
      intro r_2 u t9 H1 locs1 ht9 hvm hw1 hB hz1 hk1 hS1
      obtain ⟨hP1, hK1, hD1⟩ := hB
      rw [ht9] at hP1
      replace hK1 := va_K.moved hvm.symm hK1
      have hPD := join3 hP hD rfl [0, 1, 2] [3, 4, 5, 6] rfl (by rfl) (by decide +kernel) (by decide +kernel) hk1 hFc hP1 hD1
      replace hK : va_K (dC, dI) classes [((xK 1), .int), (l1, .int), ((pK 0), .int), ((pK 1), .int)] s := hK.app hK1
      clear hP1 hK1 hD1 hk1 hz1 hFc hKc hDc hPc hvm ht9 hP hS t9 locs H
      have hP : va_P (dC, dI) classes [ia g1 l1 4 (fun i => nI (pl i)), oc pa 0 [.ref (pA 0), .ref (pA 1), .ref (pA 2), .ref (pA 3), .ref (pA 4), .ref (pA 5), .ref (pA 6), .ref (pA 7), .ref (pA 8), .ref (pA 9), .ref (pA 10), .int (nI T), .int (nI Ac)], ia (pA 0) (pK 0) 4 (fun i => nI ((pg 0) i)), ia (pA 1) (pK 1) 28 (fun i => nI ((pg 1) i)), oc xa 6 [.ref pa, .ref ga, .ref (xA 0), .ref (xA 1), .ref (xA 2), .ref (xA 3), .ref (xA 4), .ref (xA 5), .ref (xA 6), .ref (xA 7), .ref (xA 8), .ref (xA 9), .ref (xA 10), .ref (xA 11), .ref fa, .int (nI md), .int (nI mb)], ia (xA 1) (xK 1) 4 (fun i0 => mN (wm i0)), oc ga 1 [.ref pa, .ref g1, .ref g2, .ref g3, .int (nI dn), .long so]] H1 := hPD.1
      replace hD : dd A [g1, pa, (pA 0), (pA 1), xa, (xA 1), ga] := dd_of hPD.2 rfl
      clear hPD
      revert H1 locs1
      intro H locs hS hP
      refine tp_i (y := (if blk dn wm i then 1 else 0)) (hw1) ?_
      clear hw1 r_2 u
      have hfr : fre pg pl dn wm i = !blk dn wm i := by unfold fre; rw [show decide (pl i < pg 0 i) = true from by simpa using hq1]; rfl
      rw [hfr] at hinv
      cases hbk : blk dn wm i with
      | true =>
        rw [if_pos (rfl : true = true)]
        rw [hbk] at hinv
        replace hinv : fF (fre pg pl dn wm) (T - (i + 1)) (i + 1) = fF (fre pg pl dn wm) T 0 := hinv
        refine tp_pc (pc' := 30) (by rfl) ?_
        refine lv_if_ne (tgt := 35) hx hb d_GraphSearch_freeThread_30 (by decide) (fun c_3 => ?_) (fun c_3 => absurd c_3 (by decide))
        refine tp_pc (pc' := 35) (by rfl) ?_
        refine lv_iinc (v := nI (i + 1)) (lv' := [(1, .int (nI (i + 1))), (0, .ref xa)]) hx hb d_GraphSearch_freeThread_35 hl (k := 0) rfl (by exact nI_1 i) (by decide) rfl ?_
        clear hl ls
        intro ls hl
        refine lv_goto (tgt := 2) hx hb d_GraphSearch_freeThread_38 (by decide) ?_
        refine tp_pc (pc' := 2) (by rfl) ?_
        obtain ⟨hP8, -, -⟩ := cut3 (wc := [oc xa 6 [.ref pa, .ref ga, .ref (xA 0), .ref (xA 1), .ref (xA 2), .ref (xA 3), .ref (xA 4), .ref (xA 5), .ref (xA 6), .ref (xA 7), .ref (xA 8), .ref (xA 9), .ref (xA 10), .ref (xA 11), .ref fa, .int (nI md), .int (nI mb)], ia (xA 1) (xK 1) 4 (fun i0 => mN (wm i0)), oc ga 1 [.ref pa, .ref g1, .ref g2, .ref g3, .int (nI dn), .long so], ia g1 l1 4 (fun i => nI (pl i)), oc pa 0 [.ref (pA 0), .ref (pA 1), .ref (pA 2), .ref (pA 3), .ref (pA 4), .ref (pA 5), .ref (pA 6), .ref (pA 7), .ref (pA 8), .ref (pA 9), .ref (pA 10), .int (nI T), .int (nI Ac)], ia (pA 0) (pK 0) 4 (fun i => nI ((pg 0) i)), ia (pA 1) (pK 1) 28 (fun i => nI ((pg 1) i))]) hP hD rfl hS hA [4, 5, 6, 0, 1, 2, 3] (by decide +kernel) rfl
        exact ih _ _ _ ⟨hinv, hP8, hS, lv_sub hl [0, 1] rfl⟩
      | false =>
        rw [if_neg (by decide : ¬ (false = true))]
        rw [hbk] at hinv
        replace hinv : i + 1 = fF (fre pg pl dn wm) T 0 := hinv
        refine tp_pc (pc' := 30) (by rfl) ?_
        refine lv_if_ne (tgt := 35) hx hb d_GraphSearch_freeThread_30 (by decide) (fun c_4 => absurd c_4 (by decide)) (fun c_4 => ?_)
        refine tp_pc (pc' := 33) (by rfl) ?_
        refine lv_iload_n hx hb d_GraphSearch_freeThread_33 rfl (lv_at hl 0 rfl) ?_
        obtain ⟨hP9, hD9, -⟩ := cut3 (wc := [oc xa 6 [.ref pa, .ref ga, .ref (xA 0), .ref (xA 1), .ref (xA 2), .ref (xA 3), .ref (xA 4), .ref (xA 5), .ref (xA 6), .ref (xA 7), .ref (xA 8), .ref (xA 9), .ref (xA 10), .ref (xA 11), .ref fa, .int (nI md), .int (nI mb)], ia (xA 1) (xK 1) 4 (fun i0 => mN (wm i0)), oc ga 1 [.ref pa, .ref g1, .ref g2, .ref g3, .int (nI dn), .long so], ia g1 l1 4 (fun i => nI (pl i)), oc pa 0 [.ref (pA 0), .ref (pA 1), .ref (pA 2), .ref (pA 3), .ref (pA 4), .ref (pA 5), .ref (pA 6), .ref (pA 7), .ref (pA 8), .ref (pA 9), .ref (pA 10), .int (nI T), .int (nI Ac)], ia (pA 0) (pK 0) 4 (fun i => nI ((pg 0) i)), ia (pA 1) (pK 1) 28 (fun i => nI ((pg 1) i))]) hP hD rfl hS hA [4, 5, 6, 0, 1, 2, 3] (by decide +kernel) rfl
        have hK9 := hK.sub (tys' := []) [] rfl
        refine W.widen (k := 0) (n := 0) (by exact Nat.le_of_ble_eq_true rfl) (by exact Nat.le_of_ble_eq_true rfl) ?_
        exact W.iret (v := (nI i)) hx hb hr (fun t9 ht9 hW => ⟨⟨nI i, (), rfl, by rw [← hinv, mN_s (by omega), Nat.add_sub_cancel], by rw [ht9]; exact hP9, va_K.moved hW.alike hK9, hD9⟩, hS.F ht9⟩) hS.2.2 d_GraphSearch_freeThread_34
    · skip
      subst hr1
      rw [show fre pg pl dn wm i = false from by unfold fre; rw [show decide (pl i < pg 0 i) = false from by simpa using hq1]; rfl] at hinv
      replace hinv : fF (fre pg pl dn wm) (T - (i + 1)) (i + 1) = fF (fre pg pl dn wm) T 0 := hinv
      refine tp_pc (pc' := 21) (by rfl) ?_
      refine lv_iconst (v := (-1)) hx hb d_GraphSearch_freeThread_21 (by decide) ?_
      refine lv_icmp_eq (tgt := 35) hx hb d_GraphSearch_freeThread_22 (by decide) (fun c_5 => ?_) (fun c_5 => absurd c_5 (by decide))
      refine tp_pc (pc' := 35) (by rfl) ?_
      refine lv_iinc (v := nI (i + 1)) (lv' := [(1, .int (nI (i + 1))), (0, .ref xa)]) hx hb d_GraphSearch_freeThread_35 hl (k := 0) rfl (by exact nI_1 i) (by decide) rfl ?_
      clear hl ls
      intro ls hl
      refine lv_goto (tgt := 2) hx hb d_GraphSearch_freeThread_38 (by decide) ?_
      refine tp_pc (pc' := 2) (by rfl) ?_
      obtain ⟨hP8, -, -⟩ := cut3 (wc := [oc xa 6 [.ref pa, .ref ga, .ref (xA 0), .ref (xA 1), .ref (xA 2), .ref (xA 3), .ref (xA 4), .ref (xA 5), .ref (xA 6), .ref (xA 7), .ref (xA 8), .ref (xA 9), .ref (xA 10), .ref (xA 11), .ref fa, .int (nI md), .int (nI mb)], ia (xA 1) (xK 1) 4 (fun i0 => mN (wm i0)), oc ga 1 [.ref pa, .ref g1, .ref g2, .ref g3, .int (nI dn), .long so], ia g1 l1 4 (fun i => nI (pl i)), oc pa 0 [.ref (pA 0), .ref (pA 1), .ref (pA 2), .ref (pA 3), .ref (pA 4), .ref (pA 5), .ref (pA 6), .ref (pA 7), .ref (pA 8), .ref (pA 9), .ref (pA 10), .int (nI T), .int (nI Ac)], ia (pA 0) (pK 0) 4 (fun i => nI ((pg 0) i)), ia (pA 1) (pK 1) 28 (fun i => nI ((pg 1) i))]) hP hD rfl hS hA [0, 1, 2, 3, 4, 5, 6] (by decide +kernel) rfl
      exact ih _ _ _ ⟨hinv, hP8, hS, lv_sub hl [0, 1] rfl⟩
  · intro H locs ls hI
    obtain ⟨hinv, hP, hS, hl⟩ := hI
    refine lv_iload_n hx hb d_GraphSearch_freeThread_2 rfl (lv_at hl 0 rfl) ?_
    refine lv_aload_n hx hb d_GraphSearch_freeThread_3 rfl (lv_at hl 1 rfl) ?_
    refine va_get (D := (dC, dI)) (ci := 6) (v := .ref pa) (C := R_GraphSearch) (T := F_GraphSearch) (N := 17) hx hb hw i_GraphSearch hown hK hP 0 rfl rfl 0 (by decide) (hw _ m_319) (fun _ h9 => h9) rfl d_GraphSearch_freeThread_4 ?_
    refine va_get (D := (dC, dI)) (ci := 0) (v := .int (nI T)) (C := R_Program) (T := F_Program) (N := 13) hx hb hw i_Program hown hK hP 4 rfl rfl 11 (by decide) (hw _ m_164) (fun _ h9 => h9) rfl d_GraphSearch_freeThread_7 ?_
    refine lv_icmp_ge (tgt := 41) hx hb d_GraphSearch_freeThread_10 (by decide) (fun c9 => ?_) (fun c9 => absurd (nI_le (Nat.le_refl _) (by omega)) c9)
    rw [Nat.sub_self] at hinv
    replace hinv : 0 = fF (fre pg pl dn wm) T 0 := hinv
    refine tp_pc (pc' := 41) (by rfl) ?_
    refine lv_iconst (v := (-1)) hx hb d_GraphSearch_freeThread_41 (by decide) ?_
    obtain ⟨hP9, hD9, -⟩ := cut3 (wc := [oc xa 6 [.ref pa, .ref ga, .ref (xA 0), .ref (xA 1), .ref (xA 2), .ref (xA 3), .ref (xA 4), .ref (xA 5), .ref (xA 6), .ref (xA 7), .ref (xA 8), .ref (xA 9), .ref (xA 10), .ref (xA 11), .ref fa, .int (nI md), .int (nI mb)], ia (xA 1) (xK 1) 4 (fun i0 => mN (wm i0)), oc ga 1 [.ref pa, .ref g1, .ref g2, .ref g3, .int (nI dn), .long so], ia g1 l1 4 (fun i => nI (pl i)), oc pa 0 [.ref (pA 0), .ref (pA 1), .ref (pA 2), .ref (pA 3), .ref (pA 4), .ref (pA 5), .ref (pA 6), .ref (pA 7), .ref (pA 8), .ref (pA 9), .ref (pA 10), .int (nI T), .int (nI Ac)], ia (pA 0) (pK 0) 4 (fun i => nI ((pg 0) i)), ia (pA 1) (pK 1) 28 (fun i => nI ((pg 1) i))]) hP hD rfl hS hA [0, 1, 2, 3, 4, 5, 6] (by decide +kernel) rfl
    have hK9 := hK.sub (tys' := []) [] rfl
    refine W.widen (k := 0) (n := 0) (by exact Nat.le_of_ble_eq_true rfl) (by exact Nat.le_of_ble_eq_true rfl) ?_
    exact W.iret (v := (-1)) hx hb hr (fun t9 ht9 hW => ⟨⟨(-1), (), rfl, by rw [← hinv]; rfl, by rw [ht9]; exact hP9, va_K.moved hW.alike hK9, hD9⟩, hS.F ht9⟩) hS.2.2 d_GraphSearch_freeThread_42
set_option maxHeartbeats 4000000 in
set_option maxRecDepth 100000 in
theorem gen_GS_allEnded (l : Launch) (dC : Nat → ClassId) (dI : Nat → Nat → Nat) (pa : Nat) (pA : Nat → Nat) (pK : Nat → ClassId) (T Ac : Nat) (pg : Nat → Nat → Nat) (nm : Nat → Int32) (g1 g2 g3 : Nat) (l1 : ClassId) (dn : Nat) (so : Int64) (pl : Nat → Nat) (xa ga fa : Nat) (xA : Nat → Nat) (xK : Nat → ClassId) (md mb : Nat) (fm wm : Nat → Nat) (sc : Nat → Nat → Nat) (hPg : PgOk T Ac pg) (hpl : ∀ t, t < T → pl t ≤ 10) (sz : Nat) : Met l y_GraphSearch_allEnded w_GraphSearch_allEnded ({ frames := 2, cells := 0, slots := 0, locals := 80 }) (va_Pc [.ref xa] (fun U => U.heap.size = sz ∧ va_P (dC, dI) classes [oc xa 6 [.ref pa, .ref ga, .ref (xA 0), .ref (xA 1), .ref (xA 2), .ref (xA 3), .ref (xA 4), .ref (xA 5), .ref (xA 6), .ref (xA 7), .ref (xA 8), .ref (xA 9), .ref (xA 10), .ref (xA 11), .ref fa, .int (nI md), .int (nI mb)], oc ga 1 [.ref pa, .ref g1, .ref g2, .ref g3, .int (nI dn), .long so], ia g1 l1 4 (fun i => nI (pl i)), oc pa 0 [.ref (pA 0), .ref (pA 1), .ref (pA 2), .ref (pA 3), .ref (pA 4), .ref (pA 5), .ref (pA 6), .ref (pA 7), .ref (pA 8), .ref (pA 9), .ref (pA 10), .int (nI T), .int (nI Ac)], ia (pA 0) (pK 0) 4 (fun i => nI ((pg 0) i)), ia (pA 1) (pK 1) 28 (fun i => nI ((pg 1) i))] U.heap ∧ va_K (dC, dI) classes [(l1, .int), ((pK 0), .int), ((pK 1), .int)] U ∧ va_D (fun _ => True) [oc xa 6 [.ref pa, .ref ga, .ref (xA 0), .ref (xA 1), .ref (xA 2), .ref (xA 3), .ref (xA 4), .ref (xA 5), .ref (xA 6), .ref (xA 7), .ref (xA 8), .ref (xA 9), .ref (xA 10), .ref (xA 11), .ref fa, .int (nI md), .int (nI mb)], oc ga 1 [.ref pa, .ref g1, .ref g2, .ref g3, .int (nI dn), .long so], ia g1 l1 4 (fun i => nI (pl i)), oc pa 0 [.ref (pA 0), .ref (pA 1), .ref (pA 2), .ref (pA 3), .ref (pA 4), .ref (pA 5), .ref (pA 6), .ref (pA 7), .ref (pA 8), .ref (pA 9), .ref (pA 10), .int (nI T), .int (nI Ac)], ia (pA 0) (pK 0) 4 (fun i => nI ((pg 0) i)), ia (pA 1) (pK 1) 28 (fun i => nI ((pg 1) i))] ∧ nw U)) (va_Qi (fun (r : Int32) (_ : Unit) => r = if fF (fun t => decide (pl t < pg 0 t)) T 0 = 0 then 1 else 0) (fun _ t9 => va_P (dC, dI) classes [oc xa 6 [.ref pa, .ref ga, .ref (xA 0), .ref (xA 1), .ref (xA 2), .ref (xA 3), .ref (xA 4), .ref (xA 5), .ref (xA 6), .ref (xA 7), .ref (xA 8), .ref (xA 9), .ref (xA 10), .ref (xA 11), .ref fa, .int (nI md), .int (nI mb)], oc ga 1 [.ref pa, .ref g1, .ref g2, .ref g3, .int (nI dn), .long so], ia g1 l1 4 (fun i => nI (pl i)), oc pa 0 [.ref (pA 0), .ref (pA 1), .ref (pA 2), .ref (pA 3), .ref (pA 4), .ref (pA 5), .ref (pA 6), .ref (pA 7), .ref (pA 8), .ref (pA 9), .ref (pA 10), .int (nI T), .int (nI Ac)], ia (pA 0) (pK 0) 4 (fun i => nI ((pg 0) i)), ia (pA 1) (pK 1) 28 (fun i => nI ((pg 1) i))] t9.heap ∧ va_K (dC, dI) classes [] t9 ∧ va_D (va_A [oc xa 6 [.ref pa, .ref ga, .ref (xA 0), .ref (xA 1), .ref (xA 2), .ref (xA 3), .ref (xA 4), .ref (xA 5), .ref (xA 6), .ref (xA 7), .ref (xA 8), .ref (xA 9), .ref (xA 10), .ref (xA 11), .ref fa, .int (nI md), .int (nI mb)], oc ga 1 [.ref pa, .ref g1, .ref g2, .ref g3, .int (nI dn), .long so], ia g1 l1 4 (fun i => nI (pl i)), oc pa 0 [.ref (pA 0), .ref (pA 1), .ref (pA 2), .ref (pA 3), .ref (pA 4), .ref (pA 5), .ref (pA 6), .ref (pA 7), .ref (pA 8), .ref (pA 9), .ref (pA 10), .int (nI T), .int (nI Ac)], ia (pA 0) (pK 0) 4 (fun i => nI ((pg 0) i)), ia (pA 1) (pK 1) 28 (fun i => nI ((pg 1) i))] sz) [oc xa 6 [.ref pa, .ref ga, .ref (xA 0), .ref (xA 1), .ref (xA 2), .ref (xA 3), .ref (xA 4), .ref (xA 5), .ref (xA 6), .ref (xA 7), .ref (xA 8), .ref (xA 9), .ref (xA 10), .ref (xA 11), .ref fa, .int (nI md), .int (nI mb)], oc ga 1 [.ref pa, .ref g1, .ref g2, .ref g3, .int (nI dn), .long so], ia g1 l1 4 (fun i => nI (pl i)), oc pa 0 [.ref (pA 0), .ref (pA 1), .ref (pA 2), .ref (pA 3), .ref (pA 4), .ref (pA 5), .ref (pA 6), .ref (pA 7), .ref (pA 8), .ref (pA 9), .ref (pA 10), .int (nI T), .int (nI Ac)], ia (pA 0) (pK 0) 4 (fun i => nI ((pg 0) i)), ia (pA 1) (pK 1) 28 (fun i => nI ((pg 1) i))]) (va_A [oc xa 6 [.ref pa, .ref ga, .ref (xA 0), .ref (xA 1), .ref (xA 2), .ref (xA 3), .ref (xA 4), .ref (xA 5), .ref (xA 6), .ref (xA 7), .ref (xA 8), .ref (xA 9), .ref (xA 10), .ref (xA 11), .ref fa, .int (nI md), .int (nI mb)], oc ga 1 [.ref pa, .ref g1, .ref g2, .ref g3, .int (nI dn), .long so], ia g1 l1 4 (fun i => nI (pl i)), oc pa 0 [.ref (pA 0), .ref (pA 1), .ref (pA 2), .ref (pA 3), .ref (pA 4), .ref (pA 5), .ref (pA 6), .ref (pA 7), .ref (pA 8), .ref (pA 9), .ref (pA 10), .int (nI T), .int (nI Ac)], ia (pA 0) (pK 0) 4 (fun i => nI ((pg 0) i)), ia (pA 1) (pK 1) 28 (fun i => nI ((pg 1) i))] sz)) 0 0 (va_A [oc xa 6 [.ref pa, .ref ga, .ref (xA 0), .ref (xA 1), .ref (xA 2), .ref (xA 3), .ref (xA 4), .ref (xA 5), .ref (xA 6), .ref (xA 7), .ref (xA 8), .ref (xA 9), .ref (xA 10), .ref (xA 11), .ref fa, .int (nI md), .int (nI mb)], oc ga 1 [.ref pa, .ref g1, .ref g2, .ref g3, .int (nI dn), .long so], ia g1 l1 4 (fun i => nI (pl i)), oc pa 0 [.ref (pA 0), .ref (pA 1), .ref (pA 2), .ref (pA 3), .ref (pA 4), .ref (pA 5), .ref (pA 6), .ref (pA 7), .ref (pA 8), .ref (pA 9), .ref (pA 10), .int (nI T), .int (nI Ac)], ia (pA 0) (pK 0) 4 (fun i => nI ((pg 0) i)), ia (pA 1) (pK 1) 28 (fun i => nI ((pg 1) i))] sz) := by
  refine Met.ofW (cc := b_GraphSearch_allEnded) (maxL := 2) (ret := (some .boolean)) (by decide) rfl ?_
  intro p e0 s m args below meth c s₁ B hml hv
  obtain ⟨rfl, hsz, hP, hK, hD0, hn⟩ := hv
  have hx := B.exec
  have hb := B.bytes
  have hr := B.returns
  have hw := fun w (h : w ∈ wt) => atoms_spec (ws := w_GraphSearch_allEnded) B.pre w (List.mem_cons_of_mem _ h)
  have hown : s.vm.findClass R_GraphSearch = some m.cls := findClass_of_methodNamed B.named
  have hlocks := B.notSynchronized
  subst hsz
  have hD1 := hD0.self (sz := s.heap.size)
  generalize hAe : va_A [oc xa 6 [.ref pa, .ref ga, .ref (xA 0), .ref (xA 1), .ref (xA 2), .ref (xA 3), .ref (xA 4), .ref (xA 5), .ref (xA 6), .ref (xA 7), .ref (xA 8), .ref (xA 9), .ref (xA 10), .ref (xA 11), .ref fa, .int (nI md), .int (nI mb)], oc ga 1 [.ref pa, .ref g1, .ref g2, .ref g3, .int (nI dn), .long so], ia g1 l1 4 (fun i => nI (pl i)), oc pa 0 [.ref (pA 0), .ref (pA 1), .ref (pA 2), .ref (pA 3), .ref (pA 4), .ref (pA 5), .ref (pA 6), .ref (pA 7), .ref (pA 8), .ref (pA 9), .ref (pA 10), .int (nI T), .int (nI Ac)], ia (pA 0) (pK 0) 4 (fun i => nI ((pg 0) i)), ia (pA 1) (pK 1) 28 (fun i => nI ((pg 1) i))] s.heap.size = A at hD1 ⊢
  have hA : ∀ q : Nat, s.heap.size ≤ q → A q := fun q h => by rw [← hAe]; exact Or.inr h
  have hD : dd A [xa, ga, g1, pa, (pA 0), (pA 1)] := dd_of hD1 rfl
  clear hAe hD0 hD1
  have hS : va_S A s.heap s.heap [] := va_S.rf
  replace hP : va_P (dC, dI) classes [oc xa 6 [.ref pa, .ref ga, .ref (xA 0), .ref (xA 1), .ref (xA 2), .ref (xA 3), .ref (xA 4), .ref (xA 5), .ref (xA 6), .ref (xA 7), .ref (xA 8), .ref (xA 9), .ref (xA 10), .ref (xA 11), .ref fa, .int (nI md), .int (nI mb)], oc ga 1 [.ref pa, .ref g1, .ref g2, .ref g3, .int (nI dn), .long so], ia g1 l1 4 (fun i => nI (pl i)), oc pa 0 [.ref (pA 0), .ref (pA 1), .ref (pA 2), .ref (pA 3), .ref (pA 4), .ref (pA 5), .ref (pA 6), .ref (pA 7), .ref (pA 8), .ref (pA 9), .ref (pA 10), .int (nI T), .int (nI Ac)], ia (pA 0) (pK 0) 4 (fun i => nI ((pg 0) i)), ia (pA 1) (pK 1) 28 (fun i => nI ((pg 1) i))] s.heap := hP
  have hl := lv_entry ([.ref xa]) (n := 2) (Nat.le_of_ble_eq_true rfl)
  rw [lg_entry_eq]
  generalize (lg_sl ([.ref xa]) ++ List.replicate (2 - (lg_sl ([.ref xa])).length) Slot.unset).toArray = ls at hl ⊢
  replace hl : lv_has ls 2 [(0, .ref xa)] := hl
  have hPg3 := hPg
  obtain ⟨p1, p2, p3, p4, p5, p6, p7, p8, p9, p10, p11⟩ := hPg3
  refine lv_iconst (v := 0) hx hb d_GraphSearch_allEnded_0 (by decide) ?_
  refine lv_istore_n (lv' := [(1, .int 0), (0, .ref xa)]) hx hb d_GraphSearch_allEnded_1 rfl hl (by decide) rfl ?_
  clear hl ls
  intro ls hl
  replace hP : va_P (dC, dI) classes [oc xa 6 [.ref pa, .ref ga, .ref (xA 0), .ref (xA 1), .ref (xA 2), .ref (xA 3), .ref (xA 4), .ref (xA 5), .ref (xA 6), .ref (xA 7), .ref (xA 8), .ref (xA 9), .ref (xA 10), .ref (xA 11), .ref fa, .int (nI md), .int (nI mb)], oc ga 1 [.ref pa, .ref g1, .ref g2, .ref g3, .int (nI dn), .long so], ia g1 l1 4 (fun i => nI (pl i)), oc pa 0 [.ref (pA 0), .ref (pA 1), .ref (pA 2), .ref (pA 3), .ref (pA 4), .ref (pA 5), .ref (pA 6), .ref (pA 7), .ref (pA 8), .ref (pA 9), .ref (pA 10), .int (nI T), .int (nI Ac)], ia (pA 0) (pK 0) 4 (fun i => nI ((pg 0) i)), ia (pA 1) (pK 1) 28 (fun i => nI ((pg 1) i))] s.heap := hP
  replace hl : lv_has ls 2 [(1, .int (nI 0)), (0, .ref xa)] := hl
  refine lp_n T (fun i H locs ls => fF (fun t => decide (pl t < pg 0 t)) (T - i) i = fF (fun t => decide (pl t < pg 0 t)) T 0 ∧ va_P (dC, dI) classes [oc xa 6 [.ref pa, .ref ga, .ref (xA 0), .ref (xA 1), .ref (xA 2), .ref (xA 3), .ref (xA 4), .ref (xA 5), .ref (xA 6), .ref (xA 7), .ref (xA 8), .ref (xA 9), .ref (xA 10), .ref (xA 11), .ref fa, .int (nI md), .int (nI mb)], oc ga 1 [.ref pa, .ref g1, .ref g2, .ref g3, .int (nI dn), .long so], ia g1 l1 4 (fun i => nI (pl i)), oc pa 0 [.ref (pA 0), .ref (pA 1), .ref (pA 2), .ref (pA 3), .ref (pA 4), .ref (pA 5), .ref (pA 6), .ref (pA 7), .ref (pA 8), .ref (pA 9), .ref (pA 10), .int (nI T), .int (nI Ac)], ia (pA 0) (pK 0) 4 (fun i => nI ((pg 0) i)), ia (pA 1) (pK 1) 28 (fun i => nI ((pg 1) i))] H ∧ va_S A s.heap H locs ∧ lv_has ls 2 [(1, .int (nI i)), (0, .ref xa)]) ⟨rfl, hP, hS, hl⟩ ?_ ?_
  · intro i H locs ls hi hI ih
    obtain ⟨hinv, hP, hS, hl⟩ := hI
    refine lv_iload_n hx hb d_GraphSearch_allEnded_2 rfl (lv_at hl 0 rfl) ?_
    refine lv_aload_n hx hb d_GraphSearch_allEnded_3 rfl (lv_at hl 1 rfl) ?_
    refine va_get (D := (dC, dI)) (ci := 6) (v := .ref pa) (C := R_GraphSearch) (T := F_GraphSearch) (N := 17) hx hb hw i_GraphSearch hown hK hP 0 rfl rfl 0 (by decide) (hw _ m_319) (fun _ h9 => h9) rfl d_GraphSearch_allEnded_4 ?_
    refine va_get (D := (dC, dI)) (ci := 0) (v := .int (nI T)) (C := R_Program) (T := F_Program) (N := 13) hx hb hw i_Program hown hK hP 3 rfl rfl 11 (by decide) (hw _ m_164) (fun _ h9 => h9) rfl d_GraphSearch_allEnded_7 ?_
    refine lv_icmp_ge (tgt := 33) hx hb d_GraphSearch_allEnded_10 (by decide) (fun c9 => absurd c9 (nI_ge hi (by omega))) (fun c9 => ?_)
    rw [show T - i = (T - (i + 1)) + 1 from by omega, fF] at hinv
    refine tp_pc (pc' := 13) (by rfl) ?_
    refine lv_aload_n hx hb d_GraphSearch_allEnded_13 rfl (lv_at hl 1 rfl) ?_
    refine va_get (D := (dC, dI)) (ci := 6) (v := .ref ga) (C := R_GraphSearch) (T := F_GraphSearch) (N := 17) hx hb hw i_GraphSearch hown hK hP 0 rfl rfl 1 (by decide) (hw _ m_320) (fun _ h9 => h9) rfl d_GraphSearch_allEnded_14 ?_
    refine lv_iload_n hx hb d_GraphSearch_allEnded_17 rfl (lv_at hl 0 rfl) ?_
    obtain ⟨hPc, hDc, hFc⟩ := cut3 (wc := [oc ga 1 [.ref pa, .ref g1, .ref g2, .ref g3, .int (nI dn), .long so], ia g1 l1 4 (fun i => nI (pl i)), oc pa 0 [.ref (pA 0), .ref (pA 1), .ref (pA 2), .ref (pA 3), .ref (pA 4), .ref (pA 5), .ref (pA 6), .ref (pA 7), .ref (pA 8), .ref (pA 9), .ref (pA 10), .int (nI T), .int (nI Ac)], ia (pA 0) (pK 0) 4 (fun i => nI ((pg 0) i)), ia (pA 1) (pK 1) 28 (fun i => nI ((pg 1) i))]) hP hD rfl hS hA [1, 2, 3, 4, 5] (by decide +kernel) rfl
    have hKc := hK.sub (tys' := [(l1, .int), ((pK 0), .int), ((pK 1), .int)]) [0, 1, 2] rfl
    refine va_calli (va_runV (As := [.int (nI i)]) (rest := []) ⟨hx, hb, hml, hown, hw⟩ (gen_Progress_next l dC dI pa pA pK T Ac pg nm ga g1 g2 g3 l1 0 0 dn so pl (fun _ => 0) (fun _ => 0) i p1 hi (by have := hpl i hi; omega) (p3 i hi) H.size) (cw_V 1 hw g_Progress_next rfl rfl rfl (hw _ m_103) (hw _ m_768) (hw _ m_536) (hw _ m_537) (by decide +kernel) ⟨Nat.le_of_ble_eq_true rfl, Nat.le_of_ble_eq_true rfl⟩) ⟨fun a U g mk q => by obtain ⟨q0, q1, qP, qK, qD, qN⟩ := q; exact ⟨q0, q1, qP, va_K.moved (u := U) (U := U.calling g mk a) (Vm.Alike.refl U.vm) qK, qD, nw_call qN⟩, va_recv hKc hPc (ci := 1) (q0 := 0) rfl rfl, fun U hU hW => ⟨rfl, by rw [hU], by rw [hU]; exact hPc, va_K.moved hW.alike hKc, hDc.weaken (fun _ _ _ _ => trivial), nw_warm hW hn⟩⟩ rfl rfl hl.1 rfl (lv_room (Nat.le_of_ble_eq_true rfl)) d_GraphSearch_allEnded_18 ⟨Nat.le_of_ble_eq_true rfl, Nat.le_of_ble_eq_true rfl⟩) hS (fun q _ h => hFc q h) hFc ?_
    intro r_1 u t9 H1 locs1 ht9 hvm hw1 hB hz1 hk1 hS1
    obtain ⟨hP1, hK1, hD1⟩ := hB
    rw [ht9] at hP1
    replace hK1 := va_K.moved hvm.symm hK1
    have hPD := join3 hP hD rfl [1, 2, 3, 4, 5] [0] rfl (by rfl) (by decide +kernel) (by decide +kernel) hk1 hFc hP1 hD1
    replace hK : va_K (dC, dI) classes [(l1, .int), ((pK 0), .int), ((pK 1), .int)] s := hK.app hK1
    clear hP1 hK1 hD1 hk1 hz1 hFc hKc hDc hPc hvm ht9 hP hS t9 locs H
    have hP : va_P (dC, dI) classes [oc xa 6 [.ref pa, .ref ga, .ref (xA 0), .ref (xA 1), .ref (xA 2), .ref (xA 3), .ref (xA 4), .ref (xA 5), .ref (xA 6), .ref (xA 7), .ref (xA 8), .ref (xA 9), .ref (xA 10), .ref (xA 11), .ref fa, .int (nI md), .int (nI mb)], oc ga 1 [.ref pa, .ref g1, .ref g2, .ref g3, .int (nI dn), .long so], ia g1 l1 4 (fun i => nI (pl i)), oc pa 0 [.ref (pA 0), .ref (pA 1), .ref (pA 2), .ref (pA 3), .ref (pA 4), .ref (pA 5), .ref (pA 6), .ref (pA 7), .ref (pA 8), .ref (pA 9), .ref (pA 10), .int (nI T), .int (nI Ac)], ia (pA 0) (pK 0) 4 (fun i => nI ((pg 0) i)), ia (pA 1) (pK 1) 28 (fun i => nI ((pg 1) i))] H1 := hPD.1
    replace hD : dd A [xa, ga, g1, pa, (pA 0), (pA 1)] := dd_of hPD.2 rfl
    clear hPD
    revert H1 locs1
    intro H locs hS hP
    rcases hw1 with ⟨hq1, hr1⟩ | ⟨hq1, hr1⟩
    · skip
      subst hr1
      have a7 : pg 1 (i * 7 + pl i) < 7 := by have := (p4 i _ hi hq1).1; omega
      refine tp_pc (pc' := 21) (by rfl) ?_
      refine lv_iconst (v := (-1)) hx hb d_GraphSearch_allEnded_21 (by decide) ?_
      refine lv_icmp_eq (tgt := 27) hx hb d_GraphSearch_allEnded_22 (by decide) (fun c9 => absurd c9 (nI_m1 _ (by omega))) (fun c9 => ?_)
      rw [if_pos (by simpa using hq1)] at hinv
      refine tp_pc (pc' := 25) (by rfl) ?_
      refine lv_iconst (v := 0) hx hb d_GraphSearch_allEnded_25 (by decide) ?_
      obtain ⟨hP9, hD9, -⟩ := cut3 (wc := [oc xa 6 [.ref pa, .ref ga, .ref (xA 0), .ref (xA 1), .ref (xA 2), .ref (xA 3), .ref (xA 4), .ref (xA 5), .ref (xA 6), .ref (xA 7), .ref (xA 8), .ref (xA 9), .ref (xA 10), .ref (xA 11), .ref fa, .int (nI md), .int (nI mb)], oc ga 1 [.ref pa, .ref g1, .ref g2, .ref g3, .int (nI dn), .long so], ia g1 l1 4 (fun i => nI (pl i)), oc pa 0 [.ref (pA 0), .ref (pA 1), .ref (pA 2), .ref (pA 3), .ref (pA 4), .ref (pA 5), .ref (pA 6), .ref (pA 7), .ref (pA 8), .ref (pA 9), .ref (pA 10), .int (nI T), .int (nI Ac)], ia (pA 0) (pK 0) 4 (fun i => nI ((pg 0) i)), ia (pA 1) (pK 1) 28 (fun i => nI ((pg 1) i))]) hP hD rfl hS hA [0, 1, 2, 3, 4, 5] (by decide +kernel) rfl
      have hK9 := hK.sub (tys' := []) [] rfl
      refine W.widen (k := 0) (n := 0) (by exact Nat.le_of_ble_eq_true rfl) (by exact Nat.le_of_ble_eq_true rfl) ?_
      exact W.zret (v := 0) (ty := .boolean) hx hb hr (by decide) (fun t9 ht9 hW => ⟨⟨0, (), rfl, by rw [← hinv, if_neg (by omega)], by rw [ht9]; exact hP9, va_K.moved hW.alike hK9, hD9⟩, hS.F ht9⟩) hS.2.2 d_GraphSearch_allEnded_26
    · skip
      subst hr1
      rw [if_neg (by simpa using hq1)] at hinv
      refine tp_pc (pc' := 21) (by rfl) ?_
      refine lv_iconst (v := (-1)) hx hb d_GraphSearch_allEnded_21 (by decide) ?_
      refine lv_icmp_eq (tgt := 27) hx hb d_GraphSearch_allEnded_22 (by decide) (fun c_2 => ?_) (fun c_2 => absurd c_2 (by decide))
      refine tp_pc (pc' := 27) (by rfl) ?_
      refine lv_iinc (v := nI (i + 1)) (lv' := [(1, .int (nI (i + 1))), (0, .ref xa)]) hx hb d_GraphSearch_allEnded_27 hl (k := 0) rfl (by exact nI_1 i) (by decide) rfl ?_
      clear hl ls
      intro ls hl
      refine lv_goto (tgt := 2) hx hb d_GraphSearch_allEnded_30 (by decide) ?_
      refine tp_pc (pc' := 2) (by rfl) ?_
      obtain ⟨hP8, -, -⟩ := cut3 (wc := [oc xa 6 [.ref pa, .ref ga, .ref (xA 0), .ref (xA 1), .ref (xA 2), .ref (xA 3), .ref (xA 4), .ref (xA 5), .ref (xA 6), .ref (xA 7), .ref (xA 8), .ref (xA 9), .ref (xA 10), .ref (xA 11), .ref fa, .int (nI md), .int (nI mb)], oc ga 1 [.ref pa, .ref g1, .ref g2, .ref g3, .int (nI dn), .long so], ia g1 l1 4 (fun i => nI (pl i)), oc pa 0 [.ref (pA 0), .ref (pA 1), .ref (pA 2), .ref (pA 3), .ref (pA 4), .ref (pA 5), .ref (pA 6), .ref (pA 7), .ref (pA 8), .ref (pA 9), .ref (pA 10), .int (nI T), .int (nI Ac)], ia (pA 0) (pK 0) 4 (fun i => nI ((pg 0) i)), ia (pA 1) (pK 1) 28 (fun i => nI ((pg 1) i))]) hP hD rfl hS hA [0, 1, 2, 3, 4, 5] (by decide +kernel) rfl
      exact ih _ _ _ ⟨hinv, hP8, hS, lv_sub hl [0, 1] rfl⟩
  · intro H locs ls hI
    obtain ⟨hinv, hP, hS, hl⟩ := hI
    refine lv_iload_n hx hb d_GraphSearch_allEnded_2 rfl (lv_at hl 0 rfl) ?_
    refine lv_aload_n hx hb d_GraphSearch_allEnded_3 rfl (lv_at hl 1 rfl) ?_
    refine va_get (D := (dC, dI)) (ci := 6) (v := .ref pa) (C := R_GraphSearch) (T := F_GraphSearch) (N := 17) hx hb hw i_GraphSearch hown hK hP 0 rfl rfl 0 (by decide) (hw _ m_319) (fun _ h9 => h9) rfl d_GraphSearch_allEnded_4 ?_
    refine va_get (D := (dC, dI)) (ci := 0) (v := .int (nI T)) (C := R_Program) (T := F_Program) (N := 13) hx hb hw i_Program hown hK hP 3 rfl rfl 11 (by decide) (hw _ m_164) (fun _ h9 => h9) rfl d_GraphSearch_allEnded_7 ?_
    refine lv_icmp_ge (tgt := 33) hx hb d_GraphSearch_allEnded_10 (by decide) (fun c9 => ?_) (fun c9 => absurd (nI_le (Nat.le_refl _) (by omega)) c9)
    rw [Nat.sub_self] at hinv
    replace hinv : 0 = fF (fun t => decide (pl t < pg 0 t)) T 0 := hinv
    refine tp_pc (pc' := 33) (by rfl) ?_
    refine lv_iconst (v := 1) hx hb d_GraphSearch_allEnded_33 (by decide) ?_
    obtain ⟨hP9, hD9, -⟩ := cut3 (wc := [oc xa 6 [.ref pa, .ref ga, .ref (xA 0), .ref (xA 1), .ref (xA 2), .ref (xA 3), .ref (xA 4), .ref (xA 5), .ref (xA 6), .ref (xA 7), .ref (xA 8), .ref (xA 9), .ref (xA 10), .ref (xA 11), .ref fa, .int (nI md), .int (nI mb)], oc ga 1 [.ref pa, .ref g1, .ref g2, .ref g3, .int (nI dn), .long so], ia g1 l1 4 (fun i => nI (pl i)), oc pa 0 [.ref (pA 0), .ref (pA 1), .ref (pA 2), .ref (pA 3), .ref (pA 4), .ref (pA 5), .ref (pA 6), .ref (pA 7), .ref (pA 8), .ref (pA 9), .ref (pA 10), .int (nI T), .int (nI Ac)], ia (pA 0) (pK 0) 4 (fun i => nI ((pg 0) i)), ia (pA 1) (pK 1) 28 (fun i => nI ((pg 1) i))]) hP hD rfl hS hA [0, 1, 2, 3, 4, 5] (by decide +kernel) rfl
    have hK9 := hK.sub (tys' := []) [] rfl
    refine W.widen (k := 0) (n := 0) (by exact Nat.le_of_ble_eq_true rfl) (by exact Nat.le_of_ble_eq_true rfl) ?_
    exact W.zret (v := 1) (ty := .boolean) hx hb hr (by decide) (fun t9 ht9 hW => ⟨⟨1, (), rfl, by rw [← hinv]; rfl, by rw [ht9]; exact hP9, va_K.moved hW.alike hK9, hD9⟩, hS.F ht9⟩) hS.2.2 d_GraphSearch_allEnded_34
