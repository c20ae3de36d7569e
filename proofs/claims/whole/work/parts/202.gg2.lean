set_option maxHeartbeats 4000000 in
set_option maxRecDepth 100000 in
theorem gen_GS_isBehind (l : Launch) (dC : Nat → ClassId) (dI : Nat → Nat → Nat) (pa : Nat) (pA : Nat → Nat) (pK : Nat → ClassId) (T Ac : Nat) (pg : Nat → Nat → Nat) (nm : Nat → Int32) (xa ga fa : Nat) (xA : Nat → Nat) (xK : Nat → ClassId) (md mb : Nat) (fm wm : Nat → Nat) (sc : Nat → Nat → Nat) (wq q : Nat) (hw7 : wq < 7) (hf8 : fm wq ≤ 8) (hq1 : 1 ≤ q) (hq8 : q < 8) (h2 : pg 2 (q - 1) < 4) (h8 : ∀ i, pg 8 i < 128) (sz : Nat) : Met l y_GraphSearch_isBehind w_GraphSearch_isBehind ({ frames := 1, cells := 0, slots := 0, locals := 40 }) (va_Pc [.ref xa, .int (nI wq), .int (nI q)] (fun U => U.heap.size = sz ∧ va_P (dC, dI) classes [oc xa 6 [.ref pa, .ref ga, .ref (xA 0), .ref (xA 1), .ref (xA 2), .ref (xA 3), .ref (xA 4), .ref (xA 5), .ref (xA 6), .ref (xA 7), .ref (xA 8), .ref (xA 9), .ref (xA 10), .ref (xA 11), .ref fa, .int (nI md), .int (nI mb)], ia (xA 0) (xK 0) 7 (fun i0 => mN (fm i0)), oc pa 0 [.ref (pA 0), .ref (pA 1), .ref (pA 2), .ref (pA 3), .ref (pA 4), .ref (pA 5), .ref (pA 6), .ref (pA 7), .ref (pA 8), .ref (pA 9), .ref (pA 10), .int (nI T), .int (nI Ac)], ia (pA 2) (pK 2) 7 (fun i => nI ((pg 2) i)), ia (pA 8) (pK 8) 4 (fun i => nI ((pg 8) i))] U.heap ∧ va_K (dC, dI) classes [((xK 0), .int), ((pK 2), .int), ((pK 8), .int)] U ∧ va_D (fun _ => True) [oc xa 6 [.ref pa, .ref ga, .ref (xA 0), .ref (xA 1), .ref (xA 2), .ref (xA 3), .ref (xA 4), .ref (xA 5), .ref (xA 6), .ref (xA 7), .ref (xA 8), .ref (xA 9), .ref (xA 10), .ref (xA 11), .ref fa, .int (nI md), .int (nI mb)], ia (xA 0) (xK 0) 7 (fun i0 => mN (fm i0)), oc pa 0 [.ref (pA 0), .ref (pA 1), .ref (pA 2), .ref (pA 3), .ref (pA 4), .ref (pA 5), .ref (pA 6), .ref (pA 7), .ref (pA 8), .ref (pA 9), .ref (pA 10), .int (nI T), .int (nI Ac)], ia (pA 2) (pK 2) 7 (fun i => nI ((pg 2) i)), ia (pA 8) (pK 8) 4 (fun i => nI ((pg 8) i))] ∧ nw U)) (va_Qi (fun (r : Int32) (_ : Unit) => r = if beh pg fm wq q then 1 else 0) (fun _ t9 => va_P (dC, dI) classes [oc xa 6 [.ref pa, .ref ga, .ref (xA 0), .ref (xA 1), .ref (xA 2), .ref (xA 3), .ref (xA 4), .ref (xA 5), .ref (xA 6), .ref (xA 7), .ref (xA 8), .ref (xA 9), .ref (xA 10), .ref (xA 11), .ref fa, .int (nI md), .int (nI mb)], ia (xA 0) (xK 0) 7 (fun i0 => mN (fm i0)), oc pa 0 [.ref (pA 0), .ref (pA 1), .ref (pA 2), .ref (pA 3), .ref (pA 4), .ref (pA 5), .ref (pA 6), .ref (pA 7), .ref (pA 8), .ref (pA 9), .ref (pA 10), .int (nI T), .int (nI Ac)], ia (pA 2) (pK 2) 7 (fun i => nI ((pg 2) i)), ia (pA 8) (pK 8) 4 (fun i => nI ((pg 8) i))] t9.heap ∧ va_K (dC, dI) classes [] t9 ∧ va_D (va_A [oc xa 6 [.ref pa, .ref ga, .ref (xA 0), .ref (xA 1), .ref (xA 2), .ref (xA 3), .ref (xA 4), .ref (xA 5), .ref (xA 6), .ref (xA 7), .ref (xA 8), .ref (xA 9), .ref (xA 10), .ref (xA 11), .ref fa, .int (nI md), .int (nI mb)], ia (xA 0) (xK 0) 7 (fun i0 => mN (fm i0)), oc pa 0 [.ref (pA 0), .ref (pA 1), .ref (pA 2), .ref (pA 3), .ref (pA 4), .ref (pA 5), .ref (pA 6), .ref (pA 7), .ref (pA 8), .ref (pA 9), .ref (pA 10), .int (nI T), .int (nI Ac)], ia (pA 2) (pK 2) 7 (fun i => nI ((pg 2) i)), ia (pA 8) (pK 8) 4 (fun i => nI ((pg 8) i))] sz) [oc xa 6 [.ref pa, .ref ga, .ref (xA 0), .ref (xA 1), .ref (xA 2), .ref (xA 3), .ref (xA 4), .ref (xA 5), .ref (xA 6), .ref (xA 7), .ref (xA 8), .ref (xA 9), .ref (xA 10), .ref (xA 11), .ref fa, .int (nI md), .int (nI mb)], ia (xA 0) (xK 0) 7 (fun i0 => mN (fm i0)), oc pa 0 [.ref (pA 0), .ref (pA 1), .ref (pA 2), .ref (pA 3), .ref (pA 4), .ref (pA 5), .ref (pA 6), .ref (pA 7), .ref (pA 8), .ref (pA 9), .ref (pA 10), .int (nI T), .int (nI Ac)], ia (pA 2) (pK 2) 7 (fun i => nI ((pg 2) i)), ia (pA 8) (pK 8) 4 (fun i => nI ((pg 8) i))]) (va_A [oc xa 6 [.ref pa, .ref ga, .ref (xA 0), .ref (xA 1), .ref (xA 2), .ref (xA 3), .ref (xA 4), .ref (xA 5), .ref (xA 6), .ref (xA 7), .ref (xA 8), .ref (xA 9), .ref (xA 10), .ref (xA 11), .ref fa, .int (nI md), .int (nI mb)], ia (xA 0) (xK 0) 7 (fun i0 => mN (fm i0)), oc pa 0 [.ref (pA 0), .ref (pA 1), .ref (pA 2), .ref (pA 3), .ref (pA 4), .ref (pA 5), .ref (pA 6), .ref (pA 7), .ref (pA 8), .ref (pA 9), .ref (pA 10), .int (nI T), .int (nI Ac)], ia (pA 2) (pK 2) 7 (fun i => nI ((pg 2) i)), ia (pA 8) (pK 8) 4 (fun i => nI ((pg 8) i))] sz)) 0 0 (va_A [oc xa 6 [.ref pa, .ref ga, .ref (xA 0), .ref (xA 1), .ref (xA 2), .ref (xA 3), .ref (xA 4), .ref (xA 5), .ref (xA 6), .ref (xA 7), .ref (xA 8), .ref (xA 9), .ref (xA 10), .ref (xA 11), .ref fa, .int (nI md), .int (nI mb)], ia (xA 0) (xK 0) 7 (fun i0 => mN (fm i0)), oc pa 0 [.ref (pA 0), .ref (pA 1), .ref (pA 2), .ref (pA 3), .ref (pA 4), .ref (pA 5), .ref (pA 6), .ref (pA 7), .ref (pA 8), .ref (pA 9), .ref (pA 10), .int (nI T), .int (nI Ac)], ia (pA 2) (pK 2) 7 (fun i => nI ((pg 2) i)), ia (pA 8) (pK 8) 4 (fun i => nI ((pg 8) i))] sz) := by
  refine Met.ofW (cc := b_GraphSearch_isBehind) (maxL := 3) (ret := (some .boolean)) (by decide) rfl ?_
  intro p e0 s m args below meth c s₁ B hml hv
  obtain ⟨rfl, hsz, hP, hK, hD0, hn⟩ := hv
  have hx := B.exec
  have hb := B.bytes
  have hr := B.returns
  have hw := fun w (h : w ∈ wt) => atoms_spec (ws := w_GraphSearch_isBehind) B.pre w (List.mem_cons_of_mem _ h)
  have hown : s.vm.findClass R_GraphSearch = some m.cls := findClass_of_methodNamed B.named
  have hlocks := B.notSynchronized
  subst hsz
  have hD1 := hD0.self (sz := s.heap.size)
  generalize hAe : va_A [oc xa 6 [.ref pa, .ref ga, .ref (xA 0), .ref (xA 1), .ref (xA 2), .ref (xA 3), .ref (xA 4), .ref (xA 5), .ref (xA 6), .ref (xA 7), .ref (xA 8), .ref (xA 9), .ref (xA 10), .ref (xA 11), .ref fa, .int (nI md), .int (nI mb)], ia (xA 0) (xK 0) 7 (fun i0 => mN (fm i0)), oc pa 0 [.ref (pA 0), .ref (pA 1), .ref (pA 2), .ref (pA 3), .ref (pA 4), .ref (pA 5), .ref (pA 6), .ref (pA 7), .ref (pA 8), .ref (pA 9), .ref (pA 10), .int (nI T), .int (nI Ac)], ia (pA 2) (pK 2) 7 (fun i => nI ((pg 2) i)), ia (pA 8) (pK 8) 4 (fun i => nI ((pg 8) i))] s.heap.size = A at hD1 ⊢
  have hA : ∀ q : Nat, s.heap.size ≤ q → A q := fun q h => by rw [← hAe]; exact Or.inr h
  have hD : dd A [xa, (xA 0), pa, (pA 2), (pA 8)] := dd_of hD1 rfl
  clear hAe hD0 hD1
  have hS : va_S A s.heap s.heap [] := va_S.rf
  replace hP : va_P (dC, dI) classes [oc xa 6 [.ref pa, .ref ga, .ref (xA 0), .ref (xA 1), .ref (xA 2), .ref (xA 3), .ref (xA 4), .ref (xA 5), .ref (xA 6), .ref (xA 7), .ref (xA 8), .ref (xA 9), .ref (xA 10), .ref (xA 11), .ref fa, .int (nI md), .int (nI mb)], ia (xA 0) (xK 0) 7 (fun i0 => mN (fm i0)), oc pa 0 [.ref (pA 0), .ref (pA 1), .ref (pA 2), .ref (pA 3), .ref (pA 4), .ref (pA 5), .ref (pA 6), .ref (pA 7), .ref (pA 8), .ref (pA 9), .ref (pA 10), .int (nI T), .int (nI Ac)], ia (pA 2) (pK 2) 7 (fun i => nI ((pg 2) i)), ia (pA 8) (pK 8) 4 (fun i => nI ((pg 8) i))] s.heap := hP
  have hl := lv_entry ([.ref xa, .int (nI wq), .int (nI q)]) (n := 3) (Nat.le_of_ble_eq_true rfl)
  rw [lg_entry_eq]
  generalize (lg_sl ([.ref xa, .int (nI wq), .int (nI q)]) ++ List.replicate (3 - (lg_sl ([.ref xa, .int (nI wq), .int (nI q)])).length) Slot.unset).toArray = ls at hl ⊢
  replace hl : lv_has ls 3 [(0, .ref xa), (1, .int (nI wq)), (2, .int (nI q))] := hl
  refine lv_aload_n hx hb d_GraphSearch_isBehind_0 rfl (lv_at hl 0 rfl) ?_
  refine va_get (D := (dC, dI)) (ci := 6) (v := .ref (xA 0)) (C := R_GraphSearch) (T := F_GraphSearch) (N := 17) hx hb hw i_GraphSearch hown hK hP 0 rfl rfl 2 (by decide) (hw _ m_321) (fun _ h9 => h9) rfl d_GraphSearch_isBehind_1 ?_
  refine lv_iload_n hx hb d_GraphSearch_isBehind_4 rfl (lv_at hl 1 rfl) ?_
  refine va_iald (D := (dC, dI)) hx hb hK hP 1 0 rfl rfl (i := nI wq) (pk_in wq 7 (by omega)) d_GraphSearch_isBehind_5 ?_
  refine tp_i (y := (fun i0 => mN (fm i0)) wq) (by rw [show (nI wq : Int32).toNatClampNeg = wq from pk_cl wq]) ?_
  have af8 : aft pg (q - 1) < 128 := Nat.lt_of_le_of_lt (Nat.sub_le _ _) (h8 _)
  refine tp_i (y := mN (fm wq)) rfl ?_
  by_cases e0 : fm wq = 0
  · skip
    rw [e0, mN_0]
    refine lv_iload_n hx hb d_GraphSearch_isBehind_6 rfl (lv_at hl 2 rfl) ?_
    refine lv_icmp_eq (tgt := 27) hx hb d_GraphSearch_isBehind_7 (by decide) (fun c9 => absurd c9.symm (nI_m1 q (by omega))) (fun c9 => ?_)
    have hne : ¬ fm wq = q + 1 := by omega
    refine tp_pc (pc' := 10) (by rfl) ?_
    refine lv_aload_n hx hb d_GraphSearch_isBehind_10 rfl (lv_at hl 0 rfl) ?_
    refine va_get (D := (dC, dI)) (ci := 6) (v := .ref pa) (C := R_GraphSearch) (T := F_GraphSearch) (N := 17) hx hb hw i_GraphSearch hown hK hP 0 rfl rfl 0 (by decide) (hw _ m_319) (fun _ h9 => h9) rfl d_GraphSearch_isBehind_11 ?_
    refine lv_iload_n hx hb d_GraphSearch_isBehind_14 rfl (lv_at hl 2 rfl) ?_
    refine lv_iconst (v := 1) hx hb d_GraphSearch_isBehind_15 (by decide) ?_
    refine lv_isub hx hb d_GraphSearch_isBehind_16 ?_
    refine tp_i (y := nI (q - 1)) (by exact pk_sub (a := q) (b := 1) (by omega)) ?_
    obtain ⟨hPc, hDc, hFc⟩ := cut3 (wc := [oc pa 0 [.ref (pA 0), .ref (pA 1), .ref (pA 2), .ref (pA 3), .ref (pA 4), .ref (pA 5), .ref (pA 6), .ref (pA 7), .ref (pA 8), .ref (pA 9), .ref (pA 10), .int (nI T), .int (nI Ac)], ia (pA 2) (pK 2) 7 (fun i => nI ((pg 2) i)), ia (pA 8) (pK 8) 4 (fun i => nI ((pg 8) i))]) hP hD rfl hS hA [2, 3, 4] (by decide +kernel) rfl
    have hKc := hK.sub (tys' := [((pK 2), .int), ((pK 8), .int)]) [1, 2] rfl
    refine va_calli (va_runV (As := [.int (nI (q - 1))]) (rest := []) ⟨hx, hb, hml, hown, hw⟩ (gen_Program_ownAfter l dC dI pa pA pK T Ac pg nm (q - 1) (by omega) h2 (h8 _) s.heap.size) (cw_V 1 hw g_Program_ownAfter rfl rfl rfl (hw _ m_102) (hw _ m_800) (hw _ m_801) (hw _ m_802) (by decide +kernel) ⟨Nat.le_of_ble_eq_true rfl, Nat.le_of_ble_eq_true rfl⟩) ⟨fun a U g mk q => by obtain ⟨q0, q1, qP, qK, qD, qN⟩ := q; exact ⟨q0, q1, qP, va_K.moved (u := U) (U := U.calling g mk a) (Vm.Alike.refl U.vm) qK, qD, nw_call qN⟩, va_recv hKc hPc (ci := 0) (q0 := 0) rfl rfl, fun U hU hW => ⟨rfl, by rw [hU], by rw [hU]; exact hPc, va_K.moved hW.alike hKc, hDc.weaken (fun _ _ _ _ => trivial), nw_warm hW hn⟩⟩ rfl rfl hl.1 rfl (lv_room (Nat.le_of_ble_eq_true rfl)) d_GraphSearch_isBehind_17 ⟨Nat.le_of_ble_eq_true rfl, Nat.le_of_ble_eq_true rfl⟩) hS (fun q _ h => hFc q h) hFc ?_
    intro r_1 u t9 H1 locs1 ht9 hvm hw1 hB hz1 hk1 hS1
    obtain ⟨hP1, hK1, hD1⟩ := hB
    rw [ht9] at hP1
    replace hK1 := va_K.moved hvm.symm hK1
    have hPD := join3 hP hD rfl [2, 3, 4] [0, 1] rfl (by rfl) (by decide +kernel) (by decide +kernel) hk1 hFc hP1 hD1
    replace hK : va_K (dC, dI) classes [((xK 0), .int), ((pK 2), .int), ((pK 8), .int)] s := hK.app hK1
    clear hP1 hK1 hD1 hk1 hz1 hFc hKc hDc hPc hvm ht9 hP hS t9
    have hP : va_P (dC, dI) classes [oc xa 6 [.ref pa, .ref ga, .ref (xA 0), .ref (xA 1), .ref (xA 2), .ref (xA 3), .ref (xA 4), .ref (xA 5), .ref (xA 6), .ref (xA 7), .ref (xA 8), .ref (xA 9), .ref (xA 10), .ref (xA 11), .ref fa, .int (nI md), .int (nI mb)], ia (xA 0) (xK 0) 7 (fun i0 => mN (fm i0)), oc pa 0 [.ref (pA 0), .ref (pA 1), .ref (pA 2), .ref (pA 3), .ref (pA 4), .ref (pA 5), .ref (pA 6), .ref (pA 7), .ref (pA 8), .ref (pA 9), .ref (pA 10), .int (nI T), .int (nI Ac)], ia (pA 2) (pK 2) 7 (fun i => nI ((pg 2) i)), ia (pA 8) (pK 8) 4 (fun i => nI ((pg 8) i))] H1 := hPD.1
    replace hD : dd A [xa, (xA 0), pa, (pA 2), (pA 8)] := dd_of hPD.2 rfl
    clear hPD
    revert H1 locs1
    intro H locs hS hP
    refine tp_i (y := nI (aft pg (q - 1))) (hw1) ?_
    clear hw1 r_1 u
    refine tp_pc (pc' := 20) (by rfl) ?_
    refine lv_iload_n hx hb d_GraphSearch_isBehind_20 rfl (lv_at hl 1 rfl) ?_
    obtain ⟨b9, hb9⟩ : ∃ b9, b9 = aft pg (q - 1) / 2 ^ wq % 2 := ⟨_, rfl⟩
    have hb92 : b9 < 2 := by rw [hb9]; exact Nat.mod_lt _ (by decide)
    obtain ⟨hPc, hDc, hFc⟩ := cut3 (wc := []) hP hD rfl hS hA [] (by decide +kernel) rfl
    have hKc := hK.sub (tys' := []) [] rfl
    refine va_calli (va_runSN (As := [.int (nI (aft pg (q - 1))), .int (nI wq)]) (rest := []) ⟨hx, hb, hml, hown, hw⟩ (gen_isIn l dC dI (aft pg (q - 1)) wq (by omega) (by omega) H.size) (⟨va_cnB 2 hw g_OM_isIn rfl rfl rfl (hn.1 (R_GraphSearch, 166, y_OM_isIn, "OrderModels") (nq 3 (by rfl))) (hw _ m_101) (by decide +kernel) ⟨Nat.le_of_ble_eq_true rfl, Nat.le_of_ble_eq_true rfl⟩, hw _ m_560, trivial⟩) ⟨fun a U g mk q => by obtain ⟨q0, q1, qP, qK, qD, qN⟩ := q; exact ⟨q0, q1, qP, va_K.moved (u := U) (U := U.calling g mk a) (Vm.Alike.refl U.vm) qK, qD, nw_call qN⟩, fun U hU hW => ⟨rfl, by rw [hU], by rw [hU]; exact hPc, va_K.moved hW.alike hKc, hDc.weaken (fun _ _ _ _ => trivial), nw_warm hW hn⟩⟩ rfl rfl hl.1 rfl (lv_room (Nat.le_of_ble_eq_true rfl)) d_GraphSearch_isBehind_21 ⟨Nat.le_of_ble_eq_true rfl, Nat.le_of_ble_eq_true rfl⟩) hS (fun q _ h => hFc q h) hFc ?_
    intro r_2 u t9 H1 locs1 ht9 hvm hw1 hB hz1 hk1 hS1
    obtain ⟨hP1, hK1, hD1⟩ := hB
    rw [ht9] at hP1
    replace hK1 := va_K.moved hvm.symm hK1
    have hPD := join3 hP hD rfl [] [0, 1, 2, 3, 4] rfl (by rfl) (by decide +kernel) (by decide +kernel) hk1 hFc hP1 hD1
    replace hK : va_K (dC, dI) classes [((xK 0), .int), ((pK 2), .int), ((pK 8), .int)] s := hK.app hK1
    clear hP1 hK1 hD1 hk1 hz1 hFc hKc hDc hPc hvm ht9 hP hS t9 locs H
    have hP : va_P (dC, dI) classes [oc xa 6 [.ref pa, .ref ga, .ref (xA 0), .ref (xA 1), .ref (xA 2), .ref (xA 3), .ref (xA 4), .ref (xA 5), .ref (xA 6), .ref (xA 7), .ref (xA 8), .ref (xA 9), .ref (xA 10), .ref (xA 11), .ref fa, .int (nI md), .int (nI mb)], ia (xA 0) (xK 0) 7 (fun i0 => mN (fm i0)), oc pa 0 [.ref (pA 0), .ref (pA 1), .ref (pA 2), .ref (pA 3), .ref (pA 4), .ref (pA 5), .ref (pA 6), .ref (pA 7), .ref (pA 8), .ref (pA 9), .ref (pA 10), .int (nI T), .int (nI Ac)], ia (pA 2) (pK 2) 7 (fun i => nI ((pg 2) i)), ia (pA 8) (pK 8) 4 (fun i => nI ((pg 8) i))] H1 := hPD.1
    replace hD : dd A [xa, (xA 0), pa, (pA 2), (pA 8)] := dd_of hPD.2 rfl
    clear hPD
    revert H1 locs1
    intro H locs hS hP
    refine tp_i (y := nI b9) (by rw [hw1, hb9]) ?_
    clear hw1 r_2 u
    have hbh : beh pg fm wq q = (b9 == 1) := by unfold beh; rw [← hb9, show (fm wq == q + 1) = false from by simpa using hne]; rfl
    refine tp_pc (pc' := 24) (by rfl) ?_
    refine lv_if_eq (tgt := 31) hx hb d_GraphSearch_isBehind_24 (by decide) (fun c2 => ?_) (fun c2 => ?_)
    · skip
      have hc2 : b9 = 0 := (nI_eq (a := b9) (b := 0) (by omega) (by omega)).mp c2
      refine tp_pc (pc' := 31) (by rfl) ?_
      refine lv_iconst (v := 0) hx hb d_GraphSearch_isBehind_31 (by decide) ?_
      obtain ⟨hP9, hD9, -⟩ := cut3 (wc := [oc xa 6 [.ref pa, .ref ga, .ref (xA 0), .ref (xA 1), .ref (xA 2), .ref (xA 3), .ref (xA 4), .ref (xA 5), .ref (xA 6), .ref (xA 7), .ref (xA 8), .ref (xA 9), .ref (xA 10), .ref (xA 11), .ref fa, .int (nI md), .int (nI mb)], ia (xA 0) (xK 0) 7 (fun i0 => mN (fm i0)), oc pa 0 [.ref (pA 0), .ref (pA 1), .ref (pA 2), .ref (pA 3), .ref (pA 4), .ref (pA 5), .ref (pA 6), .ref (pA 7), .ref (pA 8), .ref (pA 9), .ref (pA 10), .int (nI T), .int (nI Ac)], ia (pA 2) (pK 2) 7 (fun i => nI ((pg 2) i)), ia (pA 8) (pK 8) 4 (fun i => nI ((pg 8) i))]) hP hD rfl hS hA [0, 1, 2, 3, 4] (by decide +kernel) rfl
      have hK9 := hK.sub (tys' := []) [] rfl
      refine W.widen (k := 0) (n := 0) (by exact Nat.le_of_ble_eq_true rfl) (by exact Nat.le_of_ble_eq_true rfl) ?_
      exact W.zret (v := 0) (ty := .boolean) hx hb hr (by decide) (fun t9 ht9 hW => ⟨⟨0, (), rfl, by rw [hbh, hc2]; rfl, by rw [ht9]; exact hP9, va_K.moved hW.alike hK9, hD9⟩, hS.F ht9⟩) hS.2.2 d_GraphSearch_isBehind_32
    · skip
      have hc2 : ¬ (b9 = 0) := fun q9 => c2 ((nI_eq (a := b9) (b := 0) (by omega) (by omega)).mpr q9)
      refine tp_pc (pc' := 27) (by rfl) ?_
      refine lv_iconst (v := 1) hx hb d_GraphSearch_isBehind_27 (by decide) ?_
      refine lv_goto (tgt := 32) hx hb d_GraphSearch_isBehind_28 (by decide) ?_
      refine tp_pc (pc' := 32) (by rfl) ?_
      obtain ⟨hP9, hD9, -⟩ := cut3 (wc := [oc xa 6 [.ref pa, .ref ga, .ref (xA 0), .ref (xA 1), .ref (xA 2), .ref (xA 3), .ref (xA 4), .ref (xA 5), .ref (xA 6), .ref (xA 7), .ref (xA 8), .ref (xA 9), .ref (xA 10), .ref (xA 11), .ref fa, .int (nI md), .int (nI mb)], ia (xA 0) (xK 0) 7 (fun i0 => mN (fm i0)), oc pa 0 [.ref (pA 0), .ref (pA 1), .ref (pA 2), .ref (pA 3), .ref (pA 4), .ref (pA 5), .ref (pA 6), .ref (pA 7), .ref (pA 8), .ref (pA 9), .ref (pA 10), .int (nI T), .int (nI Ac)], ia (pA 2) (pK 2) 7 (fun i => nI ((pg 2) i)), ia (pA 8) (pK 8) 4 (fun i => nI ((pg 8) i))]) hP hD rfl hS hA [0, 1, 2, 3, 4] (by decide +kernel) rfl
      have hK9 := hK.sub (tys' := []) [] rfl
      refine W.widen (k := 0) (n := 0) (by exact Nat.le_of_ble_eq_true rfl) (by exact Nat.le_of_ble_eq_true rfl) ?_
      exact W.zret (v := 1) (ty := .boolean) hx hb hr (by decide) (fun t9 ht9 hW => ⟨⟨1, (), rfl, by rw [hbh, bit0 hb92 hc2]; rfl, by rw [ht9]; exact hP9, va_K.moved hW.alike hK9, hD9⟩, hS.F ht9⟩) hS.2.2 d_GraphSearch_isBehind_32
  · skip
    rw [mN_s e0]
    refine lv_iload_n hx hb d_GraphSearch_isBehind_6 rfl (lv_at hl 2 rfl) ?_
    refine lv_icmp_eq (tgt := 27) hx hb d_GraphSearch_isBehind_7 (by decide) (fun c1 => ?_) (fun c1 => ?_)
    · skip
      have hc1 : fm wq - 1 = q := (nI_eq (a := fm wq - 1) (b := q) (by omega) (by omega)).mp c1
      have heq : fm wq = q + 1 := by omega
      refine tp_pc (pc' := 27) (by rfl) ?_
      refine lv_iconst (v := 1) hx hb d_GraphSearch_isBehind_27 (by decide) ?_
      refine lv_goto (tgt := 32) hx hb d_GraphSearch_isBehind_28 (by decide) ?_
      refine tp_pc (pc' := 32) (by rfl) ?_
      obtain ⟨hP9, hD9, -⟩ := cut3 (wc := [oc xa 6 [.ref pa, .ref ga, .ref (xA 0), .ref (xA 1), .ref (xA 2), .ref (xA 3), .ref (xA 4), .ref (xA 5), .ref (xA 6), .ref (xA 7), .ref (xA 8), .ref (xA 9), .ref (xA 10), .ref (xA 11), .ref fa, .int (nI md), .int (nI mb)], ia (xA 0) (xK 0) 7 (fun i0 => mN (fm i0)), oc pa 0 [.ref (pA 0), .ref (pA 1), .ref (pA 2), .ref (pA 3), .ref (pA 4), .ref (pA 5), .ref (pA 6), .ref (pA 7), .ref (pA 8), .ref (pA 9), .ref (pA 10), .int (nI T), .int (nI Ac)], ia (pA 2) (pK 2) 7 (fun i => nI ((pg 2) i)), ia (pA 8) (pK 8) 4 (fun i => nI ((pg 8) i))]) hP hD rfl hS hA [0, 1, 2, 3, 4] (by decide +kernel) rfl
      have hK9 := hK.sub (tys' := []) [] rfl
      refine W.widen (k := 0) (n := 0) (by exact Nat.le_of_ble_eq_true rfl) (by exact Nat.le_of_ble_eq_true rfl) ?_
      exact W.zret (v := 1) (ty := .boolean) hx hb hr (by decide) (fun t9 ht9 hW => ⟨⟨1, (), rfl, by unfold beh; rw [show (fm wq == q + 1) = true from by simpa using heq]; rfl, by rw [ht9]; exact hP9, va_K.moved hW.alike hK9, hD9⟩, hS.F ht9⟩) hS.2.2 d_GraphSearch_isBehind_32
    · skip
      have hc1 : ¬ (fm wq - 1 = q) := fun q9 => c1 ((nI_eq (a := fm wq - 1) (b := q) (by omega) (by omega)).mpr q9)
      have hne : ¬ fm wq = q + 1 := by omega
      refine tp_pc (pc' := 10) (by rfl) ?_
      refine lv_aload_n hx hb d_GraphSearch_isBehind_10 rfl (lv_at hl 0 rfl) ?_
      refine va_get (D := (dC, dI)) (ci := 6) (v := .ref pa) (C := R_GraphSearch) (T := F_GraphSearch) (N := 17) hx hb hw i_GraphSearch hown hK hP 0 rfl rfl 0 (by decide) (hw _ m_319) (fun _ h9 => h9) rfl d_GraphSearch_isBehind_11 ?_
      refine lv_iload_n hx hb d_GraphSearch_isBehind_14 rfl (lv_at hl 2 rfl) ?_
      refine lv_iconst (v := 1) hx hb d_GraphSearch_isBehind_15 (by decide) ?_
      refine lv_isub hx hb d_GraphSearch_isBehind_16 ?_
      refine tp_i (y := nI (q - 1)) (by exact pk_sub (a := q) (b := 1) (by omega)) ?_
      obtain ⟨hPc, hDc, hFc⟩ := cut3 (wc := [oc pa 0 [.ref (pA 0), .ref (pA 1), .ref (pA 2), .ref (pA 3), .ref (pA 4), .ref (pA 5), .ref (pA 6), .ref (pA 7), .ref (pA 8), .ref (pA 9), .ref (pA 10), .int (nI T), .int (nI Ac)], ia (pA 2) (pK 2) 7 (fun i => nI ((pg 2) i)), ia (pA 8) (pK 8) 4 (fun i => nI ((pg 8) i))]) hP hD rfl hS hA [2, 3, 4] (by decide +kernel) rfl
      have hKc := hK.sub (tys' := [((pK 2), .int), ((pK 8), .int)]) [1, 2] rfl
      refine va_calli (va_runV (As := [.int (nI (q - 1))]) (rest := []) ⟨hx, hb, hml, hown, hw⟩ (gen_Program_ownAfter l dC dI pa pA pK T Ac pg nm (q - 1) (by omega) h2 (h8 _) s.heap.size) (cw_V 1 hw g_Program_ownAfter rfl rfl rfl (hw _ m_102) (hw _ m_800) (hw _ m_801) (hw _ m_802) (by decide +kernel) ⟨Nat.le_of_ble_eq_true rfl, Nat.le_of_ble_eq_true rfl⟩) ⟨fun a U g mk q => by obtain ⟨q0, q1, qP, qK, qD, qN⟩ := q; exact ⟨q0, q1, qP, va_K.moved (u := U) (U := U.calling g mk a) (Vm.Alike.refl U.vm) qK, qD, nw_call qN⟩, va_recv hKc hPc (ci := 0) (q0 := 0) rfl rfl, fun U hU hW => ⟨rfl, by rw [hU], by rw [hU]; exact hPc, va_K.moved hW.alike hKc, hDc.weaken (fun _ _ _ _ => trivial), nw_warm hW hn⟩⟩ rfl rfl hl.1 rfl (lv_room (Nat.le_of_ble_eq_true rfl)) d_GraphSearch_isBehind_17 ⟨Nat.le_of_ble_eq_true rfl, Nat.le_of_ble_eq_true rfl⟩) hS (fun q _ h => hFc q h) hFc ?_
      intro r_3 u t9 H1 locs1 ht9 hvm hw1 hB hz1 hk1 hS1
      obtain ⟨hP1, hK1, hD1⟩ := hB
      rw [ht9] at hP1
      replace hK1 := va_K.moved hvm.symm hK1
      have hPD := join3 hP hD rfl [2, 3, 4] [0, 1] rfl (by rfl) (by decide +kernel) (by decide +kernel) hk1 hFc hP1 hD1
      replace hK : va_K (dC, dI) classes [((xK 0), .int), ((pK 2), .int), ((pK 8), .int)] s := hK.app hK1
      clear hP1 hK1 hD1 hk1 hz1 hFc hKc hDc hPc hvm ht9 hP hS t9
      have hP : va_P (dC, dI) classes [oc xa 6 [.ref pa, .ref ga, .ref (xA 0), .ref (xA 1), .ref (xA 2), .ref (xA 3), .ref (xA 4), .ref (xA 5), .ref (xA 6), .ref (xA 7), .ref (xA 8), .ref (xA 9), .ref (xA 10), .ref (xA 11), .ref fa, .int (nI md), .int (nI mb)], ia (xA 0) (xK 0) 7 (fun i0 => mN (fm i0)), oc pa 0 [.ref (pA 0), .ref (pA 1), .ref (pA 2), .ref (pA 3), .ref (pA 4), .ref (pA 5), .ref (pA 6), .ref (pA 7), .ref (pA 8), .ref (pA 9), .ref (pA 10), .int (nI T), .int (nI Ac)], ia (pA 2) (pK 2) 7 (fun i => nI ((pg 2) i)), ia (pA 8) (pK 8) 4 (fun i => nI ((pg 8) i))] H1 := hPD.1
      replace hD : dd A [xa, (xA 0), pa, (pA 2), (pA 8)] := dd_of hPD.2 rfl
      clear hPD
      revert H1 locs1
      intro H locs hS hP
      refine tp_i (y := nI (aft pg (q - 1))) (hw1) ?_
      clear hw1 r_3 u
      refine tp_pc (pc' := 20) (by rfl) ?_
      refine lv_iload_n hx hb d_GraphSearch_isBehind_20 rfl (lv_at hl 1 rfl) ?_
      obtain ⟨b9, hb9⟩ : ∃ b9, b9 = aft pg (q - 1) / 2 ^ wq % 2 := ⟨_, rfl⟩
      have hb92 : b9 < 2 := by rw [hb9]; exact Nat.mod_lt _ (by decide)
      obtain ⟨hPc, hDc, hFc⟩ := cut3 (wc := []) hP hD rfl hS hA [] (by decide +kernel) rfl
      have hKc := hK.sub (tys' := []) [] rfl
      refine va_calli (va_runSN (As := [.int (nI (aft pg (q - 1))), .int (nI wq)]) (rest := []) ⟨hx, hb, hml, hown, hw⟩ (gen_isIn l dC dI (aft pg (q - 1)) wq (by omega) (by omega) H.size) (⟨va_cnB 2 hw g_OM_isIn rfl rfl rfl (hn.1 (R_GraphSearch, 166, y_OM_isIn, "OrderModels") (nq 3 (by rfl))) (hw _ m_101) (by decide +kernel) ⟨Nat.le_of_ble_eq_true rfl, Nat.le_of_ble_eq_true rfl⟩, hw _ m_560, trivial⟩) ⟨fun a U g mk q => by obtain ⟨q0, q1, qP, qK, qD, qN⟩ := q; exact ⟨q0, q1, qP, va_K.moved (u := U) (U := U.calling g mk a) (Vm.Alike.refl U.vm) qK, qD, nw_call qN⟩, fun U hU hW => ⟨rfl, by rw [hU], by rw [hU]; exact hPc, va_K.moved hW.alike hKc, hDc.weaken (fun _ _ _ _ => trivial), nw_warm hW hn⟩⟩ rfl rfl hl.1 rfl (lv_room (Nat.le_of_ble_eq_true rfl)) d_GraphSearch_isBehind_21 ⟨Nat.le_of_ble_eq_true rfl, Nat.le_of_ble_eq_true rfl⟩) hS (fun q _ h => hFc q h) hFc ?_
      intro r_4 u t9 H1 locs1 ht9 hvm hw1 hB hz1 hk1 hS1
      obtain ⟨hP1, hK1, hD1⟩ := hB
      rw [ht9] at hP1
      replace hK1 := va_K.moved hvm.symm hK1
      have hPD := join3 hP hD rfl [] [0, 1, 2, 3, 4] rfl (by rfl) (by decide +kernel) (by decide +kernel) hk1 hFc hP1 hD1
      replace hK : va_K (dC, dI) classes [((xK 0), .int), ((pK 2), .int), ((pK 8), .int)] s := hK.app hK1
      clear hP1 hK1 hD1 hk1 hz1 hFc hKc hDc hPc hvm ht9 hP hS t9 locs H
      have hP : va_P (dC, dI) classes [oc xa 6 [.ref pa, .ref ga, .ref (xA 0), .ref (xA 1), .ref (xA 2), .ref (xA 3), .ref (xA 4), .ref (xA 5), .ref (xA 6), .ref (xA 7), .ref (xA 8), .ref (xA 9), .ref (xA 10), .ref (xA 11), .ref fa, .int (nI md), .int (nI mb)], ia (xA 0) (xK 0) 7 (fun i0 => mN (fm i0)), oc pa 0 [.ref (pA 0), .ref (pA 1), .ref (pA 2), .ref (pA 3), .ref (pA 4), .ref (pA 5), .ref (pA 6), .ref (pA 7), .ref (pA 8), .ref (pA 9), .ref (pA 10), .int (nI T), .int (nI Ac)], ia (pA 2) (pK 2) 7 (fun i => nI ((pg 2) i)), ia (pA 8) (pK 8) 4 (fun i => nI ((pg 8) i))] H1 := hPD.1
      replace hD : dd A [xa, (xA 0), pa, (pA 2), (pA 8)] := dd_of hPD.2 rfl
      clear hPD
      revert H1 locs1
      intro H locs hS hP
      refine tp_i (y := nI b9) (by rw [hw1, hb9]) ?_
      clear hw1 r_4 u
      have hbh : beh pg fm wq q = (b9 == 1) := by unfold beh; rw [← hb9, show (fm wq == q + 1) = false from by simpa using hne]; rfl
      refine tp_pc (pc' := 24) (by rfl) ?_
      refine lv_if_eq (tgt := 31) hx hb d_GraphSearch_isBehind_24 (by decide) (fun c2 => ?_) (fun c2 => ?_)
      · skip
        have hc2 : b9 = 0 := (nI_eq (a := b9) (b := 0) (by omega) (by omega)).mp c2
        refine tp_pc (pc' := 31) (by rfl) ?_
        refine lv_iconst (v := 0) hx hb d_GraphSearch_isBehind_31 (by decide) ?_
        obtain ⟨hP9, hD9, -⟩ := cut3 (wc := [oc xa 6 [.ref pa, .ref ga, .ref (xA 0), .ref (xA 1), .ref (xA 2), .ref (xA 3), .ref (xA 4), .ref (xA 5), .ref (xA 6), .ref (xA 7), .ref (xA 8), .ref (xA 9), .ref (xA 10), .ref (xA 11), .ref fa, .int (nI md), .int (nI mb)], ia (xA 0) (xK 0) 7 (fun i0 => mN (fm i0)), oc pa 0 [.ref (pA 0), .ref (pA 1), .ref (pA 2), .ref (pA 3), .ref (pA 4), .ref (pA 5), .ref (pA 6), .ref (pA 7), .ref (pA 8), .ref (pA 9), .ref (pA 10), .int (nI T), .int (nI Ac)], ia (pA 2) (pK 2) 7 (fun i => nI ((pg 2) i)), ia (pA 8) (pK 8) 4 (fun i => nI ((pg 8) i))]) hP hD rfl hS hA [0, 1, 2, 3, 4] (by decide +kernel) rfl
        have hK9 := hK.sub (tys' := []) [] rfl
        refine W.widen (k := 0) (n := 0) (by exact Nat.le_of_ble_eq_true rfl) (by exact Nat.le_of_ble_eq_true rfl) ?_
        exact W.zret (v := 0) (ty := .boolean) hx hb hr (by decide) (fun t9 ht9 hW => ⟨⟨0, (), rfl, by rw [hbh, hc2]; rfl, by rw [ht9]; exact hP9, va_K.moved hW.alike hK9, hD9⟩, hS.F ht9⟩) hS.2.2 d_GraphSearch_isBehind_32
      · skip
        have hc2 : ¬ (b9 = 0) := fun q9 => c2 ((nI_eq (a := b9) (b := 0) (by omega) (by omega)).mpr q9)
        refine tp_pc (pc' := 27) (by rfl) ?_
        refine lv_iconst (v := 1) hx hb d_GraphSearch_isBehind_27 (by decide) ?_
        refine lv_goto (tgt := 32) hx hb d_GraphSearch_isBehind_28 (by decide) ?_
        refine tp_pc (pc' := 32) (by rfl) ?_
        obtain ⟨hP9, hD9, -⟩ := cut3 (wc := [oc xa 6 [.ref pa, .ref ga, .ref (xA 0), .ref (xA 1), .ref (xA 2), .ref (xA 3), .ref (xA 4), .ref (xA 5), .ref (xA 6), .ref (xA 7), .ref (xA 8), .ref (xA 9), .ref (xA 10), .ref (xA 11), .ref fa, .int (nI md), .int (nI mb)], ia (xA 0) (xK 0) 7 (fun i0 => mN (fm i0)), oc pa 0 [.ref (pA 0), .ref (pA 1), .ref (pA 2), .ref (pA 3), .ref (pA 4), .ref (pA 5), .ref (pA 6), .ref (pA 7), .ref (pA 8), .ref (pA 9), .ref (pA 10), .int (nI T), .int (nI Ac)], ia (pA 2) (pK 2) 7 (fun i => nI ((pg 2) i)), ia (pA 8) (pK 8) 4 (fun i => nI ((pg 8) i))]) hP hD rfl hS hA [0, 1, 2, 3, 4] (by decide +kernel) rfl
        have hK9 := hK.sub (tys' := []) [] rfl
        refine W.widen (k := 0) (n := 0) (by exact Nat.le_of_ble_eq_true rfl) (by exact Nat.le_of_ble_eq_true rfl) ?_
        exact W.zret (v := 1) (ty := .boolean) hx hb hr (by decide) (fun t9 ht9 hW => ⟨⟨1, (), rfl, by rw [hbh, bit0 hb92 hc2]; rfl, by rw [ht9]; exact hP9, va_K.moved hW.alike hK9, hD9⟩, hS.F ht9⟩) hS.2.2 d_GraphSearch_isBehind_32
set_option maxHeartbeats 4000000 in
set_option maxRecDepth 100000 in
theorem gen_GS_isPast (l : Launch) (dC : Nat → ClassId) (dI : Nat → Nat → Nat) (pa : Nat) (pA : Nat → Nat) (pK : Nat → ClassId) (T Ac : Nat) (pg : Nat → Nat → Nat) (nm : Nat → Int32) (g1 g2 g3 dn : Nat) (so : Int64) (xa ga fa : Nat) (xA : Nat → Nat) (xK : Nat → ClassId) (md mb : Nat) (fm wm : Nat → Nat) (sc : Nat → Nat → Nat) (a q : Nat) (ha : a < 7) (hs4 : sc 4 a < 128) (hdn : dn < 128) (hfm : ∀ i, i < 7 → fm i ≤ 8) (hk : ∀ i, i < a → pg 4 i < 6) (hq8 : q < 8) (h2 : 1 ≤ q → pg 2 (q - 1) < 4) (h8 : ∀ i, pg 8 i < 128) (sz : Nat) : Met l y_GraphSearch_isPast w_GraphSearch_isPast ({ frames := 2, cells := 0, slots := 0, locals := 80 }) (va_Pc [.ref xa, .int (nI a), .int (nI q)] (fun U => U.heap.size = sz ∧ va_P (dC, dI) classes [oc xa 6 [.ref pa, .ref ga, .ref (xA 0), .ref (xA 1), .ref (xA 2), .ref (xA 3), .ref (xA 4), .ref (xA 5), .ref (xA 6), .ref (xA 7), .ref (xA 8), .ref (xA 9), .ref (xA 10), .ref (xA 11), .ref fa, .int (nI md), .int (nI mb)], ia (xA 0) (xK 0) 7 (fun i0 => mN (fm i0)), ia (xA 4) (xK 4) 7 (fun i => nI ((sc 4) i)), oc ga 1 [.ref pa, .ref g1, .ref g2, .ref g3, .int (nI dn), .long so], oc pa 0 [.ref (pA 0), .ref (pA 1), .ref (pA 2), .ref (pA 3), .ref (pA 4), .ref (pA 5), .ref (pA 6), .ref (pA 7), .ref (pA 8), .ref (pA 9), .ref (pA 10), .int (nI T), .int (nI Ac)], ia (pA 2) (pK 2) 7 (fun i => nI ((pg 2) i)), ia (pA 4) (pK 4) 7 (fun i => nI ((pg 4) i)), ia (pA 8) (pK 8) 4 (fun i => nI ((pg 8) i))] U.heap ∧ va_K (dC, dI) classes [((xK 0), .int), ((xK 4), .int), ((pK 2), .int), ((pK 4), .int), ((pK 8), .int)] U ∧ va_D (fun _ => True) [oc xa 6 [.ref pa, .ref ga, .ref (xA 0), .ref (xA 1), .ref (xA 2), .ref (xA 3), .ref (xA 4), .ref (xA 5), .ref (xA 6), .ref (xA 7), .ref (xA 8), .ref (xA 9), .ref (xA 10), .ref (xA 11), .ref fa, .int (nI md), .int (nI mb)], ia (xA 0) (xK 0) 7 (fun i0 => mN (fm i0)), ia (xA 4) (xK 4) 7 (fun i => nI ((sc 4) i)), oc ga 1 [.ref pa, .ref g1, .ref g2, .ref g3, .int (nI dn), .long so], oc pa 0 [.ref (pA 0), .ref (pA 1), .ref (pA 2), .ref (pA 3), .ref (pA 4), .ref (pA 5), .ref (pA 6), .ref (pA 7), .ref (pA 8), .ref (pA 9), .ref (pA 10), .int (nI T), .int (nI Ac)], ia (pA 2) (pK 2) 7 (fun i => nI ((pg 2) i)), ia (pA 4) (pK 4) 7 (fun i => nI ((pg 4) i)), ia (pA 8) (pK 8) 4 (fun i => nI ((pg 8) i))] ∧ nw U)) (va_Qi (fun (r : Int32) (_ : Unit) => r = if fF (pst pg fm (sc 4 a &&& dn) q) a 0 = 0 then 0 else 1) (fun _ t9 => va_P (dC, dI) classes [oc xa 6 [.ref pa, .ref ga, .ref (xA 0), .ref (xA 1), .ref (xA 2), .ref (xA 3), .ref (xA 4), .ref (xA 5), .ref (xA 6), .ref (xA 7), .ref (xA 8), .ref (xA 9), .ref (xA 10), .ref (xA 11), .ref fa, .int (nI md), .int (nI mb)], ia (xA 0) (xK 0) 7 (fun i0 => mN (fm i0)), ia (xA 4) (xK 4) 7 (fun i => nI ((sc 4) i)), oc ga 1 [.ref pa, .ref g1, .ref g2, .ref g3, .int (nI dn), .long so], oc pa 0 [.ref (pA 0), .ref (pA 1), .ref (pA 2), .ref (pA 3), .ref (pA 4), .ref (pA 5), .ref (pA 6), .ref (pA 7), .ref (pA 8), .ref (pA 9), .ref (pA 10), .int (nI T), .int (nI Ac)], ia (pA 2) (pK 2) 7 (fun i => nI ((pg 2) i)), ia (pA 4) (pK 4) 7 (fun i => nI ((pg 4) i)), ia (pA 8) (pK 8) 4 (fun i => nI ((pg 8) i))] t9.heap ∧ va_K (dC, dI) classes [] t9 ∧ va_D (va_A [oc xa 6 [.ref pa, .ref ga, .ref (xA 0), .ref (xA 1), .ref (xA 2), .ref (xA 3), .ref (xA 4), .ref (xA 5), .ref (xA 6), .ref (xA 7), .ref (xA 8), .ref (xA 9), .ref (xA 10), .ref (xA 11), .ref fa, .int (nI md), .int (nI mb)], ia (xA 0) (xK 0) 7 (fun i0 => mN (fm i0)), ia (xA 4) (xK 4) 7 (fun i => nI ((sc 4) i)), oc ga 1 [.ref pa, .ref g1, .ref g2, .ref g3, .int (nI dn), .long so], oc pa 0 [.ref (pA 0), .ref (pA 1), .ref (pA 2), .ref (pA 3), .ref (pA 4), .ref (pA 5), .ref (pA 6), .ref (pA 7), .ref (pA 8), .ref (pA 9), .ref (pA 10), .int (nI T), .int (nI Ac)], ia (pA 2) (pK 2) 7 (fun i => nI ((pg 2) i)), ia (pA 4) (pK 4) 7 (fun i => nI ((pg 4) i)), ia (pA 8) (pK 8) 4 (fun i => nI ((pg 8) i))] sz) [oc xa 6 [.ref pa, .ref ga, .ref (xA 0), .ref (xA 1), .ref (xA 2), .ref (xA 3), .ref (xA 4), .ref (xA 5), .ref (xA 6), .ref (xA 7), .ref (xA 8), .ref (xA 9), .ref (xA 10), .ref (xA 11), .ref fa, .int (nI md), .int (nI mb)], ia (xA 0) (xK 0) 7 (fun i0 => mN (fm i0)), ia (xA 4) (xK 4) 7 (fun i => nI ((sc 4) i)), oc ga 1 [.ref pa, .ref g1, .ref g2, .ref g3, .int (nI dn), .long so], oc pa 0 [.ref (pA 0), .ref (pA 1), .ref (pA 2), .ref (pA 3), .ref (pA 4), .ref (pA 5), .ref (pA 6), .ref (pA 7), .ref (pA 8), .ref (pA 9), .ref (pA 10), .int (nI T), .int (nI Ac)], ia (pA 2) (pK 2) 7 (fun i => nI ((pg 2) i)), ia (pA 4) (pK 4) 7 (fun i => nI ((pg 4) i)), ia (pA 8) (pK 8) 4 (fun i => nI ((pg 8) i))]) (va_A [oc xa 6 [.ref pa, .ref ga, .ref (xA 0), .ref (xA 1), .ref (xA 2), .ref (xA 3), .ref (xA 4), .ref (xA 5), .ref (xA 6), .ref (xA 7), .ref (xA 8), .ref (xA 9), .ref (xA 10), .ref (xA 11), .ref fa, .int (nI md), .int (nI mb)], ia (xA 0) (xK 0) 7 (fun i0 => mN (fm i0)), ia (xA 4) (xK 4) 7 (fun i => nI ((sc 4) i)), oc ga 1 [.ref pa, .ref g1, .ref g2, .ref g3, .int (nI dn), .long so], oc pa 0 [.ref (pA 0), .ref (pA 1), .ref (pA 2), .ref (pA 3), .ref (pA 4), .ref (pA 5), .ref (pA 6), .ref (pA 7), .ref (pA 8), .ref (pA 9), .ref (pA 10), .int (nI T), .int (nI Ac)], ia (pA 2) (pK 2) 7 (fun i => nI ((pg 2) i)), ia (pA 4) (pK 4) 7 (fun i => nI ((pg 4) i)), ia (pA 8) (pK 8) 4 (fun i => nI ((pg 8) i))] sz)) 0 0 (va_A [oc xa 6 [.ref pa, .ref ga, .ref (xA 0), .ref (xA 1), .ref (xA 2), .ref (xA 3), .ref (xA 4), .ref (xA 5), .ref (xA 6), .ref (xA 7), .ref (xA 8), .ref (xA 9), .ref (xA 10), .ref (xA 11), .ref fa, .int (nI md), .int (nI mb)], ia (xA 0) (xK 0) 7 (fun i0 => mN (fm i0)), ia (xA 4) (xK 4) 7 (fun i => nI ((sc 4) i)), oc ga 1 [.ref pa, .ref g1, .ref g2, .ref g3, .int (nI dn), .long so], oc pa 0 [.ref (pA 0), .ref (pA 1), .ref (pA 2), .ref (pA 3), .ref (pA 4), .ref (pA 5), .ref (pA 6), .ref (pA 7), .ref (pA 8), .ref (pA 9), .ref (pA 10), .int (nI T), .int (nI Ac)], ia (pA 2) (pK 2) 7 (fun i => nI ((pg 2) i)), ia (pA 4) (pK 4) 7 (fun i => nI ((pg 4) i)), ia (pA 8) (pK 8) 4 (fun i => nI ((pg 8) i))] sz) := by
  refine Met.ofW (cc := b_GraphSearch_isPast) (maxL := 6) (ret := (some .boolean)) (by decide) rfl ?_
  intro p e0 s m args below meth c s₁ B hml hv
  obtain ⟨rfl, hsz, hP, hK, hD0, hn⟩ := hv
  have hx := B.exec
  have hb := B.bytes
  have hr := B.returns
  have hw := fun w (h : w ∈ wt) => atoms_spec (ws := w_GraphSearch_isPast) B.pre w (List.mem_cons_of_mem _ h)
  have hown : s.vm.findClass R_GraphSearch = some m.cls := findClass_of_methodNamed B.named
  have hlocks := B.notSynchronized
  subst hsz
  have hD1 := hD0.self (sz := s.heap.size)
  generalize hAe : va_A [oc xa 6 [.ref pa, .ref ga, .ref (xA 0), .ref (xA 1), .ref (xA 2), .ref (xA 3), .ref (xA 4), .ref (xA 5), .ref (xA 6), .ref (xA 7), .ref (xA 8), .ref (xA 9), .ref (xA 10), .ref (xA 11), .ref fa, .int (nI md), .int (nI mb)], ia (xA 0) (xK 0) 7 (fun i0 => mN (fm i0)), ia (xA 4) (xK 4) 7 (fun i => nI ((sc 4) i)), oc ga 1 [.ref pa, .ref g1, .ref g2, .ref g3, .int (nI dn), .long so], oc pa 0 [.ref (pA 0), .ref (pA 1), .ref (pA 2), .ref (pA 3), .ref (pA 4), .ref (pA 5), .ref (pA 6), .ref (pA 7), .ref (pA 8), .ref (pA 9), .ref (pA 10), .int (nI T), .int (nI Ac)], ia (pA 2) (pK 2) 7 (fun i => nI ((pg 2) i)), ia (pA 4) (pK 4) 7 (fun i => nI ((pg 4) i)), ia (pA 8) (pK 8) 4 (fun i => nI ((pg 8) i))] s.heap.size = A at hD1 ⊢
  have hA : ∀ q : Nat, s.heap.size ≤ q → A q := fun q h => by rw [← hAe]; exact Or.inr h
  have hD : dd A [xa, (xA 0), (xA 4), ga, pa, (pA 2), (pA 4), (pA 8)] := dd_of hD1 rfl
  clear hAe hD0 hD1
  have hS : va_S A s.heap s.heap [] := va_S.rf
  replace hP : va_P (dC, dI) classes [oc xa 6 [.ref pa, .ref ga, .ref (xA 0), .ref (xA 1), .ref (xA 2), .ref (xA 3), .ref (xA 4), .ref (xA 5), .ref (xA 6), .ref (xA 7), .ref (xA 8), .ref (xA 9), .ref (xA 10), .ref (xA 11), .ref fa, .int (nI md), .int (nI mb)], ia (xA 0) (xK 0) 7 (fun i0 => mN (fm i0)), ia (xA 4) (xK 4) 7 (fun i => nI ((sc 4) i)), oc ga 1 [.ref pa, .ref g1, .ref g2, .ref g3, .int (nI dn), .long so], oc pa 0 [.ref (pA 0), .ref (pA 1), .ref (pA 2), .ref (pA 3), .ref (pA 4), .ref (pA 5), .ref (pA 6), .ref (pA 7), .ref (pA 8), .ref (pA 9), .ref (pA 10), .int (nI T), .int (nI Ac)], ia (pA 2) (pK 2) 7 (fun i => nI ((pg 2) i)), ia (pA 4) (pK 4) 7 (fun i => nI ((pg 4) i)), ia (pA 8) (pK 8) 4 (fun i => nI ((pg 8) i))] s.heap := hP
  have hl := lv_entry ([.ref xa, .int (nI a), .int (nI q)]) (n := 6) (Nat.le_of_ble_eq_true rfl)
  rw [lg_entry_eq]
  generalize (lg_sl ([.ref xa, .int (nI a), .int (nI q)]) ++ List.replicate (6 - (lg_sl ([.ref xa, .int (nI a), .int (nI q)])).length) Slot.unset).toArray = ls at hl ⊢
  replace hl : lv_has ls 6 [(0, .ref xa), (1, .int (nI a)), (2, .int (nI q))] := hl
  refine lv_aload_n hx hb d_GraphSearch_isPast_0 rfl (lv_at hl 0 rfl) ?_
  refine va_get (D := (dC, dI)) (ci := 6) (v := .ref (xA 4)) (C := R_GraphSearch) (T := F_GraphSearch) (N := 17) hx hb hw i_GraphSearch hown hK hP 0 rfl rfl 6 (by decide) (hw _ m_325) (fun _ h9 => h9) rfl d_GraphSearch_isPast_1 ?_
  refine lv_iload_n hx hb d_GraphSearch_isPast_4 rfl (lv_at hl 1 rfl) ?_
  refine va_iald (D := (dC, dI)) hx hb hK hP 2 1 rfl rfl (i := nI a) (pk_in a 7 (by omega)) d_GraphSearch_isPast_5 ?_
  refine tp_i (y := nI ((sc 4) a)) (by rw [show (nI a : Int32).toNatClampNeg = a from pk_cl a]) ?_
  refine lv_aload_n hx hb d_GraphSearch_isPast_6 rfl (lv_at hl 0 rfl) ?_
  refine va_get (D := (dC, dI)) (ci := 6) (v := .ref ga) (C := R_GraphSearch) (T := F_GraphSearch) (N := 17) hx hb hw i_GraphSearch hown hK hP 0 rfl rfl 1 (by decide) (hw _ m_320) (fun _ h9 => h9) rfl d_GraphSearch_isPast_7 ?_
  refine va_get (D := (dC, dI)) (ci := 1) (v := .int (nI dn)) (C := R_Progress) (T := F_Progress) (N := 6) hx hb hw i_Progress hown hK hP 3 rfl rfl 4 (by decide) (hw _ m_209) (fun _ h9 => h9) rfl d_GraphSearch_isPast_10 ?_
  refine lv_iand hx hb d_GraphSearch_isPast_13 ?_
  refine tp_i (y := (nI ((sc 4) a)) &&& (nI dn)) rfl ?_
  obtain ⟨ah, hah⟩ : ∃ ah, ah = sc 4 a &&& dn := ⟨_, rfl⟩
  have ah8 : ah < 128 := by rw [hah]; exact Nat.and_lt_two_pow (n := 7) _ hdn
  refine tp_i (y := nI ah) (by rw [hah]; exact and_eq hs4 hdn) ?_
  rw [← hah]
  refine lv_istore_n (lv' := [(3, .int (nI ah)), (0, .ref xa), (1, .int (nI a)), (2, .int (nI q))]) hx hb d_GraphSearch_isPast_14 rfl hl (by decide) rfl ?_
  clear hl ls
  intro ls hl
  refine lv_iconst (v := 0) hx hb d_GraphSearch_isPast_15 (by decide) ?_
  refine lv_istore (lv' := [(4, .int 0), (3, .int (nI ah)), (0, .ref xa), (1, .int (nI a)), (2, .int (nI q))]) hx hb d_GraphSearch_isPast_16 hl (by decide) rfl ?_
  clear hl ls
  intro ls hl
  replace hP : va_P (dC, dI) classes [oc xa 6 [.ref pa, .ref ga, .ref (xA 0), .ref (xA 1), .ref (xA 2), .ref (xA 3), .ref (xA 4), .ref (xA 5), .ref (xA 6), .ref (xA 7), .ref (xA 8), .ref (xA 9), .ref (xA 10), .ref (xA 11), .ref fa, .int (nI md), .int (nI mb)], ia (xA 0) (xK 0) 7 (fun i0 => mN (fm i0)), ia (xA 4) (xK 4) 7 (fun i => nI ((sc 4) i)), oc ga 1 [.ref pa, .ref g1, .ref g2, .ref g3, .int (nI dn), .long so], oc pa 0 [.ref (pA 0), .ref (pA 1), .ref (pA 2), .ref (pA 3), .ref (pA 4), .ref (pA 5), .ref (pA 6), .ref (pA 7), .ref (pA 8), .ref (pA 9), .ref (pA 10), .int (nI T), .int (nI Ac)], ia (pA 2) (pK 2) 7 (fun i => nI ((pg 2) i)), ia (pA 4) (pK 4) 7 (fun i => nI ((pg 4) i)), ia (pA 8) (pK 8) 4 (fun i => nI ((pg 8) i))] s.heap := hP
  replace hl : lv_has ls 6 [(4, .int (nI 0)), (3, .int (nI ah)), (0, .ref xa), (1, .int (nI a)), (2, .int (nI q))] := hl
  refine lp_n a (fun i H locs ls => fF (pst pg fm ah q) (a - i) i = fF (pst pg fm ah q) a 0 ∧ va_P (dC, dI) classes [oc xa 6 [.ref pa, .ref ga, .ref (xA 0), .ref (xA 1), .ref (xA 2), .ref (xA 3), .ref (xA 4), .ref (xA 5), .ref (xA 6), .ref (xA 7), .ref (xA 8), .ref (xA 9), .ref (xA 10), .ref (xA 11), .ref fa, .int (nI md), .int (nI mb)], ia (xA 0) (xK 0) 7 (fun i0 => mN (fm i0)), ia (xA 4) (xK 4) 7 (fun i => nI ((sc 4) i)), oc ga 1 [.ref pa, .ref g1, .ref g2, .ref g3, .int (nI dn), .long so], oc pa 0 [.ref (pA 0), .ref (pA 1), .ref (pA 2), .ref (pA 3), .ref (pA 4), .ref (pA 5), .ref (pA 6), .ref (pA 7), .ref (pA 8), .ref (pA 9), .ref (pA 10), .int (nI T), .int (nI Ac)], ia (pA 2) (pK 2) 7 (fun i => nI ((pg 2) i)), ia (pA 4) (pK 4) 7 (fun i => nI ((pg 4) i)), ia (pA 8) (pK 8) 4 (fun i => nI ((pg 8) i))] H ∧ va_S A s.heap H locs ∧ lv_has ls 6 [(4, .int (nI i)), (3, .int (nI ah)), (0, .ref xa), (1, .int (nI a)), (2, .int (nI q))]) ⟨rfl, hP, hS, hl⟩ ?_ ?_
  · intro i H locs ls hi hI ih
    obtain ⟨hinv, hP, hS, hl⟩ := hI
    refine lv_iload hx hb d_GraphSearch_isPast_18 (lv_at hl 0 rfl) ?_
    refine lv_iload_n hx hb d_GraphSearch_isPast_20 rfl (lv_at hl 3 rfl) ?_
    refine lv_icmp_ge (tgt := 91) hx hb d_GraphSearch_isPast_21 (by decide) (fun c9 => absurd c9 (nI_ge hi (by omega))) (fun c9 => ?_)
    rw [show a - i = (a - (i + 1)) + 1 from by omega, fF] at hinv
    have hki := hk i hi
    have hfi := hfm i (by omega)
    refine tp_pc (pc' := 24) (by rfl) ?_
    refine lv_iload_n hx hb d_GraphSearch_isPast_24 rfl (lv_at hl 1 rfl) ?_
    refine lv_iload hx hb d_GraphSearch_isPast_25 (lv_at hl 0 rfl) ?_
    obtain ⟨b9, hb9⟩ : ∃ b9, b9 = ah / 2 ^ i % 2 := ⟨_, rfl⟩
    have hb92 : b9 < 2 := by rw [hb9]; exact Nat.mod_lt _ (by decide)
    obtain ⟨hPc, hDc, hFc⟩ := cut3 (wc := []) hP hD rfl hS hA [] (by decide +kernel) rfl
    have hKc := hK.sub (tys' := []) [] rfl
    refine va_calli (va_runSN (As := [.int (nI ah), .int (nI i)]) (rest := []) ⟨hx, hb, hml, hown, hw⟩ (gen_isIn l dC dI ah i (by omega) (by omega) H.size) (⟨va_cnB 2 hw g_OM_isIn rfl rfl rfl (hn.1 (R_GraphSearch, 166, y_OM_isIn, "OrderModels") (nq 3 (by rfl))) (hw _ m_101) (by decide +kernel) ⟨Nat.le_of_ble_eq_true rfl, Nat.le_of_ble_eq_true rfl⟩, hw _ m_560, trivial⟩) ⟨fun a U g mk q => by obtain ⟨q0, q1, qP, qK, qD, qN⟩ := q; exact ⟨q0, q1, qP, va_K.moved (u := U) (U := U.calling g mk a) (Vm.Alike.refl U.vm) qK, qD, nw_call qN⟩, fun U hU hW => ⟨rfl, by rw [hU], by rw [hU]; exact hPc, va_K.moved hW.alike hKc, hDc.weaken (fun _ _ _ _ => trivial), nw_warm hW hn⟩⟩ rfl rfl hl.1 rfl (lv_room (Nat.le_of_ble_eq_true rfl)) d_GraphSearch_isPast_27 ⟨Nat.le_of_ble_eq_true rfl, Nat.le_of_ble_eq_true rfl⟩) hS (fun q _ h => hFc q h) hFc ?_
    intro r_1 u t9 H1 locs1 ht9 hvm hw1 hB hz1 hk1 hS1
    obtain ⟨hP1, hK1, hD1⟩ := hB
    rw [ht9] at hP1
    replace hK1 := va_K.moved hvm.symm hK1
    have hPD := join3 hP hD rfl [] [0, 1, 2, 3, 4, 5, 6, 7] rfl (by rfl) (by decide +kernel) (by decide +kernel) hk1 hFc hP1 hD1
    replace hK : va_K (dC, dI) classes [((xK 0), .int), ((xK 4), .int), ((pK 2), .int), ((pK 4), .int), ((pK 8), .int)] s := hK.app hK1
    clear hP1 hK1 hD1 hk1 hz1 hFc hKc hDc hPc hvm ht9 hP hS t9 locs H
    have hP : va_P (dC, dI) classes [oc xa 6 [.ref pa, .ref ga, .ref (xA 0), .ref (xA 1), .ref (xA 2), .ref (xA 3), .ref (xA 4), .ref (xA 5), .ref (xA 6), .ref (xA 7), .ref (xA 8), .ref (xA 9), .ref (xA 10), .ref (xA 11), .ref fa, .int (nI md), .int (nI mb)], ia (xA 0) (xK 0) 7 (fun i0 => mN (fm i0)), ia (xA 4) (xK 4) 7 (fun i => nI ((sc 4) i)), oc ga 1 [.ref pa, .ref g1, .ref g2, .ref g3, .int (nI dn), .long so], oc pa 0 [.ref (pA 0), .ref (pA 1), .ref (pA 2), .ref (pA 3), .ref (pA 4), .ref (pA 5), .ref (pA 6), .ref (pA 7), .ref (pA 8), .ref (pA 9), .ref (pA 10), .int (nI T), .int (nI Ac)], ia (pA 2) (pK 2) 7 (fun i => nI ((pg 2) i)), ia (pA 4) (pK 4) 7 (fun i => nI ((pg 4) i)), ia (pA 8) (pK 8) 4 (fun i => nI ((pg 8) i))] H1 := hPD.1
    replace hD : dd A [xa, (xA 0), (xA 4), ga, pa, (pA 2), (pA 4), (pA 8)] := dd_of hPD.2 rfl
    clear hPD
    revert H1 locs1
    intro H locs hS hP
    refine tp_i (y := nI b9) (by rw [hw1, hb9]) ?_
    clear hw1 r_1 u
    refine tp_pc (pc' := 30) (by rfl) ?_
    refine lv_if_eq (tgt := 85) hx hb d_GraphSearch_isPast_30 (by decide) (fun c1 => ?_) (fun c1 => ?_)
    · skip
      have hc1 : b9 = 0 := (nI_eq (a := b9) (b := 0) (by omega) (by omega)).mp c1
      rw [if_neg (by unfold pst; rw [← hb9, hc1]; simp)] at hinv
      refine tp_pc (pc' := 85) (by rfl) ?_
      refine lv_iinc (v := nI (i + 1)) (lv' := [(4, .int (nI (i + 1))), (3, .int (nI ah)), (0, .ref xa), (1, .int (nI a)), (2, .int (nI q))]) hx hb d_GraphSearch_isPast_85 hl (k := 0) rfl (by exact nI_1 i) (by decide) rfl ?_
      clear hl ls
      intro ls hl
      refine lv_goto (tgt := 18) hx hb d_GraphSearch_isPast_88 (by decide) ?_
      refine tp_pc (pc' := 18) (by rfl) ?_
      obtain ⟨hP8, -, -⟩ := cut3 (wc := [oc xa 6 [.ref pa, .ref ga, .ref (xA 0), .ref (xA 1), .ref (xA 2), .ref (xA 3), .ref (xA 4), .ref (xA 5), .ref (xA 6), .ref (xA 7), .ref (xA 8), .ref (xA 9), .ref (xA 10), .ref (xA 11), .ref fa, .int (nI md), .int (nI mb)], ia (xA 0) (xK 0) 7 (fun i0 => mN (fm i0)), ia (xA 4) (xK 4) 7 (fun i => nI ((sc 4) i)), oc ga 1 [.ref pa, .ref g1, .ref g2, .ref g3, .int (nI dn), .long so], oc pa 0 [.ref (pA 0), .ref (pA 1), .ref (pA 2), .ref (pA 3), .ref (pA 4), .ref (pA 5), .ref (pA 6), .ref (pA 7), .ref (pA 8), .ref (pA 9), .ref (pA 10), .int (nI T), .int (nI Ac)], ia (pA 2) (pK 2) 7 (fun i => nI ((pg 2) i)), ia (pA 4) (pK 4) 7 (fun i => nI ((pg 4) i)), ia (pA 8) (pK 8) 4 (fun i => nI ((pg 8) i))]) hP hD rfl hS hA [0, 1, 2, 3, 4, 5, 6, 7] (by decide +kernel) rfl
      exact ih _ _ _ ⟨hinv, hP8, hS, lv_sub hl [0, 1, 2, 3, 4] rfl⟩
    · skip
      have hc1 : ¬ (b9 = 0) := fun q9 => c1 ((nI_eq (a := b9) (b := 0) (by omega) (by omega)).mpr q9)
      have hb1 := bit0 hb92 hc1
      have hps : pst pg fm ah q i = (shw pg fm i != 0 && (q == 0 || beh pg fm (shw pg fm i - 1) q)) := by unfold pst; rw [← hb9, hb1]; rfl
      rw [hps] at hinv
      obtain ⟨sh, hsh⟩ : ∃ sh, sh = shw pg fm i := ⟨_, rfl⟩
      rw [← hsh] at hinv
      refine tp_pc (pc' := 33) (by rfl) ?_
      refine lv_aload_n hx hb d_GraphSearch_isPast_33 rfl (lv_at hl 2 rfl) ?_
      refine va_get (D := (dC, dI)) (ci := 6) (v := .ref pa) (C := R_GraphSearch) (T := F_GraphSearch) (N := 17) hx hb hw i_GraphSearch hown hK hP 0 rfl rfl 0 (by decide) (hw _ m_319) (fun _ h9 => h9) rfl d_GraphSearch_isPast_34 ?_
      refine va_get (D := (dC, dI)) (ci := 0) (v := .ref (pA 4)) (C := R_Program) (T := F_Program) (N := 13) hx hb hw i_Program hown hK hP 4 rfl rfl 4 (by decide) (hw _ m_139) (fun _ h9 => h9) rfl d_GraphSearch_isPast_37 ?_
      refine lv_iload hx hb d_GraphSearch_isPast_40 (lv_at hl 0 rfl) ?_
      refine va_iald (D := (dC, dI)) hx hb hK hP 6 3 rfl rfl (i := nI i) (pk_in i 7 (by omega)) d_GraphSearch_isPast_42 ?_
      refine tp_i (y := nI ((pg 4) i)) (by rw [show (nI i : Int32).toNatClampNeg = i from pk_cl i]) ?_
      refine lv_if_ne (tgt := 56) hx hb d_GraphSearch_isPast_43 (by decide) (fun c2 => ?_) (fun c2 => ?_)
      · skip
        have hc2 : ¬ ((pg 4) i = 0) := fun q9 => c2 ((nI_eq (a := (pg 4) i) (b := 0) (by omega) (by omega)).mpr q9)
        have hse : sh = i + 1 := by rw [hsh, shw, if_neg hc2]
        refine tp_pc (pc' := 56) (by rfl) ?_
        refine lv_iload hx hb d_GraphSearch_isPast_56 (lv_at hl 0 rfl) ?_
        refine lv_iconst (v := 1) hx hb d_GraphSearch_isPast_58 (by decide) ?_
        refine lv_iadd hx hb d_GraphSearch_isPast_59 ?_
        refine tp_i (y := nI (i + 1)) (by exact nI_add i 1) ?_
        refine tp_i (y := nI sh) (by rw [hse]) ?_
        refine lv_istore (lv' := [(5, .int (nI sh)), (4, .int (nI i)), (3, .int (nI ah)), (0, .ref xa), (1, .int (nI a)), (2, .int (nI q))]) hx hb d_GraphSearch_isPast_60 hl (by decide) rfl ?_
        clear hl ls
        intro ls hl
        refine lv_iload hx hb d_GraphSearch_isPast_62 (lv_at hl 0 rfl) ?_
        refine lv_if_le (tgt := 85) hx hb d_GraphSearch_isPast_64 (by decide) (fun c3 => ?_) (fun c3 => ?_)
        · skip
          have hc3 : sh ≤ 0 := (nI_leI (a := sh) (b := 0) (by omega) (by omega)).mp c3
          rw [if_neg (by rw [show sh = 0 from by omega]; simp)] at hinv
          refine tp_pc (pc' := 85) (by rfl) ?_
          refine lv_iinc (v := nI (i + 1)) (lv' := [(4, .int (nI (i + 1))), (5, .int (nI sh)), (3, .int (nI ah)), (0, .ref xa), (1, .int (nI a)), (2, .int (nI q))]) hx hb d_GraphSearch_isPast_85 hl (k := 1) rfl (by exact nI_1 i) (by decide) rfl ?_
          clear hl ls
          intro ls hl
          refine lv_goto (tgt := 18) hx hb d_GraphSearch_isPast_88 (by decide) ?_
          refine tp_pc (pc' := 18) (by rfl) ?_
          obtain ⟨hP8, -, -⟩ := cut3 (wc := [oc xa 6 [.ref pa, .ref ga, .ref (xA 0), .ref (xA 1), .ref (xA 2), .ref (xA 3), .ref (xA 4), .ref (xA 5), .ref (xA 6), .ref (xA 7), .ref (xA 8), .ref (xA 9), .ref (xA 10), .ref (xA 11), .ref fa, .int (nI md), .int (nI mb)], ia (xA 0) (xK 0) 7 (fun i0 => mN (fm i0)), ia (xA 4) (xK 4) 7 (fun i => nI ((sc 4) i)), oc ga 1 [.ref pa, .ref g1, .ref g2, .ref g3, .int (nI dn), .long so], oc pa 0 [.ref (pA 0), .ref (pA 1), .ref (pA 2), .ref (pA 3), .ref (pA 4), .ref (pA 5), .ref (pA 6), .ref (pA 7), .ref (pA 8), .ref (pA 9), .ref (pA 10), .int (nI T), .int (nI Ac)], ia (pA 2) (pK 2) 7 (fun i => nI ((pg 2) i)), ia (pA 4) (pK 4) 7 (fun i => nI ((pg 4) i)), ia (pA 8) (pK 8) 4 (fun i => nI ((pg 8) i))]) hP hD rfl hS hA [0, 1, 2, 3, 4, 5, 6, 7] (by decide +kernel) rfl
          exact ih _ _ _ ⟨hinv, hP8, hS, lv_sub hl [0, 2, 3, 4, 5] rfl⟩
        · skip
          have hc3 : ¬ (sh ≤ 0) := fun q9 => c3 ((nI_leI (a := sh) (b := 0) (by omega) (by omega)).mpr q9)
          have sh1 : (sh != 0) = true := by simp; omega
          rw [sh1, Bool.true_and] at hinv
          refine tp_pc (pc' := 67) (by rfl) ?_
          refine lv_iload_n hx hb d_GraphSearch_isPast_67 rfl (lv_at hl 5 rfl) ?_
          refine lv_if_eq (tgt := 83) hx hb d_GraphSearch_isPast_68 (by decide) (fun c4 => ?_) (fun c4 => ?_)
          · skip
            have hc4 : q = 0 := (nI_eq (a := q) (b := 0) (by omega) (by omega)).mp c4
            rw [if_pos (by rw [hc4]; rfl)] at hinv
            refine tp_pc (pc' := 83) (by rfl) ?_
            refine lv_iconst (v := 1) hx hb d_GraphSearch_isPast_83 (by decide) ?_
            obtain ⟨hP9, hD9, -⟩ := cut3 (wc := [oc xa 6 [.ref pa, .ref ga, .ref (xA 0), .ref (xA 1), .ref (xA 2), .ref (xA 3), .ref (xA 4), .ref (xA 5), .ref (xA 6), .ref (xA 7), .ref (xA 8), .ref (xA 9), .ref (xA 10), .ref (xA 11), .ref fa, .int (nI md), .int (nI mb)], ia (xA 0) (xK 0) 7 (fun i0 => mN (fm i0)), ia (xA 4) (xK 4) 7 (fun i => nI ((sc 4) i)), oc ga 1 [.ref pa, .ref g1, .ref g2, .ref g3, .int (nI dn), .long so], oc pa 0 [.ref (pA 0), .ref (pA 1), .ref (pA 2), .ref (pA 3), .ref (pA 4), .ref (pA 5), .ref (pA 6), .ref (pA 7), .ref (pA 8), .ref (pA 9), .ref (pA 10), .int (nI T), .int (nI Ac)], ia (pA 2) (pK 2) 7 (fun i => nI ((pg 2) i)), ia (pA 4) (pK 4) 7 (fun i => nI ((pg 4) i)), ia (pA 8) (pK 8) 4 (fun i => nI ((pg 8) i))]) hP hD rfl hS hA [0, 1, 2, 3, 4, 5, 6, 7] (by decide +kernel) rfl
            have hK9 := hK.sub (tys' := []) [] rfl
            refine W.widen (k := 0) (n := 0) (by exact Nat.le_of_ble_eq_true rfl) (by exact Nat.le_of_ble_eq_true rfl) ?_
            exact W.zret (v := 1) (ty := .boolean) hx hb hr (by decide) (fun t9 ht9 hW => ⟨⟨1, (), rfl, by rw [← hinv, if_neg (by omega)], by rw [ht9]; exact hP9, va_K.moved hW.alike hK9, hD9⟩, hS.F ht9⟩) hS.2.2 d_GraphSearch_isPast_84
          · skip
            have hc4 : ¬ (q = 0) := fun q9 => c4 ((nI_eq (a := q) (b := 0) (by omega) (by omega)).mpr q9)
            rw [show (q == 0) = false from by simpa using hc4, Bool.false_or] at hinv
            refine tp_pc (pc' := 71) (by rfl) ?_
            refine lv_aload_n hx hb d_GraphSearch_isPast_71 rfl (lv_at hl 3 rfl) ?_
            refine lv_iload hx hb d_GraphSearch_isPast_72 (lv_at hl 0 rfl) ?_
            refine lv_iconst (v := 1) hx hb d_GraphSearch_isPast_74 (by decide) ?_
            refine lv_isub hx hb d_GraphSearch_isPast_75 ?_
            refine tp_i (y := nI (sh - 1)) (by exact pk_sub (a := sh) (b := 1) (by omega)) ?_
            refine lv_iload_n hx hb d_GraphSearch_isPast_76 rfl (lv_at hl 5 rfl) ?_
            obtain ⟨hPc, hDc, hFc⟩ := cut3 (wc := [oc xa 6 [.ref pa, .ref ga, .ref (xA 0), .ref (xA 1), .ref (xA 2), .ref (xA 3), .ref (xA 4), .ref (xA 5), .ref (xA 6), .ref (xA 7), .ref (xA 8), .ref (xA 9), .ref (xA 10), .ref (xA 11), .ref fa, .int (nI md), .int (nI mb)], ia (xA 0) (xK 0) 7 (fun i0 => mN (fm i0)), oc pa 0 [.ref (pA 0), .ref (pA 1), .ref (pA 2), .ref (pA 3), .ref (pA 4), .ref (pA 5), .ref (pA 6), .ref (pA 7), .ref (pA 8), .ref (pA 9), .ref (pA 10), .int (nI T), .int (nI Ac)], ia (pA 2) (pK 2) 7 (fun i => nI ((pg 2) i)), ia (pA 8) (pK 8) 4 (fun i => nI ((pg 8) i))]) hP hD rfl hS hA [0, 1, 4, 5, 7] (by decide +kernel) rfl
            have hKc := hK.sub (tys' := [((xK 0), .int), ((pK 2), .int), ((pK 8), .int)]) [0, 2, 4] rfl
            refine va_calli (va_runV (As := [.int (nI (sh - 1)), .int (nI q)]) (rest := []) ⟨hx, hb, hml, hown, hw⟩ (gen_GS_isBehind l dC dI pa pA pK T Ac pg nm xa ga fa xA xK md mb fm wm sc (sh - 1) q (by omega) (hfm _ (by omega)) (by omega) hq8 (h2 (by omega)) h8 H.size) (cw_V 2 hw g_GraphSearch_isBehind rfl rfl rfl (hw _ m_107) (hw _ m_853) (hw _ m_855) (hw _ m_49) (by decide +kernel) ⟨Nat.le_of_ble_eq_true rfl, Nat.le_of_ble_eq_true rfl⟩) ⟨fun a U g mk q => by obtain ⟨q0, q1, qP, qK, qD, qN⟩ := q; exact ⟨q0, q1, qP, va_K.moved (u := U) (U := U.calling g mk a) (Vm.Alike.refl U.vm) qK, qD, nw_call qN⟩, va_recv hKc hPc (ci := 6) (q0 := 0) rfl rfl, fun U hU hW => ⟨rfl, by rw [hU], by rw [hU]; exact hPc, va_K.moved hW.alike hKc, hDc.weaken (fun _ _ _ _ => trivial), nw_warm hW hn⟩⟩ rfl rfl hl.1 rfl (lv_room (Nat.le_of_ble_eq_true rfl)) d_GraphSearch_isPast_77 ⟨Nat.le_of_ble_eq_true rfl, Nat.le_of_ble_eq_true rfl⟩) hS (fun q _ h => hFc q h) hFc ?_
            intro r_2 u t9 H1 locs1 ht9 hvm hw1 hB hz1 hk1 hS1
            obtain ⟨hP1, hK1, hD1⟩ := hB
            rw [ht9] at hP1
            replace hK1 := va_K.moved hvm.symm hK1
            have hPD := join3 hP hD rfl [0, 1, 4, 5, 7] [2, 3, 6] rfl (by rfl) (by decide +kernel) (by decide +kernel) hk1 hFc hP1 hD1
            replace hK : va_K (dC, dI) classes [((xK 0), .int), ((xK 4), .int), ((pK 2), .int), ((pK 4), .int), ((pK 8), .int)] s := hK.app hK1
            clear hP1 hK1 hD1 hk1 hz1 hFc hKc hDc hPc hvm ht9 hP hS t9 locs H
            have hP : va_P (dC, dI) classes [ia (xA 4) (xK 4) 7 (fun i => nI ((sc 4) i)), oc ga 1 [.ref pa, .ref g1, .ref g2, .ref g3, .int (nI dn), .long so], ia (pA 4) (pK 4) 7 (fun i => nI ((pg 4) i)), oc xa 6 [.ref pa, .ref ga, .ref (xA 0), .ref (xA 1), .ref (xA 2), .ref (xA 3), .ref (xA 4), .ref (xA 5), .ref (xA 6), .ref (xA 7), .ref (xA 8), .ref (xA 9), .ref (xA 10), .ref (xA 11), .ref fa, .int (nI md), .int (nI mb)], ia (xA 0) (xK 0) 7 (fun i0 => mN (fm i0)), oc pa 0 [.ref (pA 0), .ref (pA 1), .ref (pA 2), .ref (pA 3), .ref (pA 4), .ref (pA 5), .ref (pA 6), .ref (pA 7), .ref (pA 8), .ref (pA 9), .ref (pA 10), .int (nI T), .int (nI Ac)], ia (pA 2) (pK 2) 7 (fun i => nI ((pg 2) i)), ia (pA 8) (pK 8) 4 (fun i => nI ((pg 8) i))] H1 := hPD.1
            replace hD : dd A [(xA 4), ga, (pA 4), xa, (xA 0), pa, (pA 2), (pA 8)] := dd_of hPD.2 rfl
            clear hPD
            revert H1 locs1
            intro H locs hS hP
            refine tp_i (y := (if beh pg fm (sh - 1) q then 1 else 0)) (hw1) ?_
            clear hw1 r_2 u
            cases hbe : beh pg fm (sh - 1) q with
            | true =>
              rw [if_pos (rfl : true = true)]
              rw [if_pos (by exact hbe)] at hinv
              refine tp_pc (pc' := 80) (by rfl) ?_
              refine lv_if_eq (tgt := 85) hx hb d_GraphSearch_isPast_80 (by decide) (fun c_3 => absurd c_3 (by decide)) (fun c_3 => ?_)
              refine tp_pc (pc' := 83) (by rfl) ?_
              refine lv_iconst (v := 1) hx hb d_GraphSearch_isPast_83 (by decide) ?_
              obtain ⟨hP9, hD9, -⟩ := cut3 (wc := [oc xa 6 [.ref pa, .ref ga, .ref (xA 0), .ref (xA 1), .ref (xA 2), .ref (xA 3), .ref (xA 4), .ref (xA 5), .ref (xA 6), .ref (xA 7), .ref (xA 8), .ref (xA 9), .ref (xA 10), .ref (xA 11), .ref fa, .int (nI md), .int (nI mb)], ia (xA 0) (xK 0) 7 (fun i0 => mN (fm i0)), ia (xA 4) (xK 4) 7 (fun i => nI ((sc 4) i)), oc ga 1 [.ref pa, .ref g1, .ref g2, .ref g3, .int (nI dn), .long so], oc pa 0 [.ref (pA 0), .ref (pA 1), .ref (pA 2), .ref (pA 3), .ref (pA 4), .ref (pA 5), .ref (pA 6), .ref (pA 7), .ref (pA 8), .ref (pA 9), .ref (pA 10), .int (nI T), .int (nI Ac)], ia (pA 2) (pK 2) 7 (fun i => nI ((pg 2) i)), ia (pA 4) (pK 4) 7 (fun i => nI ((pg 4) i)), ia (pA 8) (pK 8) 4 (fun i => nI ((pg 8) i))]) hP hD rfl hS hA [3, 4, 0, 1, 5, 6, 2, 7] (by decide +kernel) rfl
              have hK9 := hK.sub (tys' := []) [] rfl
              refine W.widen (k := 0) (n := 0) (by exact Nat.le_of_ble_eq_true rfl) (by exact Nat.le_of_ble_eq_true rfl) ?_
              exact W.zret (v := 1) (ty := .boolean) hx hb hr (by decide) (fun t9 ht9 hW => ⟨⟨1, (), rfl, by rw [← hinv, if_neg (by omega)], by rw [ht9]; exact hP9, va_K.moved hW.alike hK9, hD9⟩, hS.F ht9⟩) hS.2.2 d_GraphSearch_isPast_84
            | false =>
              rw [if_neg (by decide : ¬ (false = true))]
              rw [if_neg (by rw [hbe]; decide)] at hinv
              refine tp_pc (pc' := 80) (by rfl) ?_
              refine lv_if_eq (tgt := 85) hx hb d_GraphSearch_isPast_80 (by decide) (fun c_4 => ?_) (fun c_4 => absurd c_4 (by decide))
              refine tp_pc (pc' := 85) (by rfl) ?_
              refine lv_iinc (v := nI (i + 1)) (lv' := [(4, .int (nI (i + 1))), (5, .int (nI sh)), (3, .int (nI ah)), (0, .ref xa), (1, .int (nI a)), (2, .int (nI q))]) hx hb d_GraphSearch_isPast_85 hl (k := 1) rfl (by exact nI_1 i) (by decide) rfl ?_
              clear hl ls
              intro ls hl
              refine lv_goto (tgt := 18) hx hb d_GraphSearch_isPast_88 (by decide) ?_
              refine tp_pc (pc' := 18) (by rfl) ?_
              obtain ⟨hP8, -, -⟩ := cut3 (wc := [oc xa 6 [.ref pa, .ref ga, .ref (xA 0), .ref (xA 1), .ref (xA 2), .ref (xA 3), .ref (xA 4), .ref (xA 5), .ref (xA 6), .ref (xA 7), .ref (xA 8), .ref (xA 9), .ref (xA 10), .ref (xA 11), .ref fa, .int (nI md), .int (nI mb)], ia (xA 0) (xK 0) 7 (fun i0 => mN (fm i0)), ia (xA 4) (xK 4) 7 (fun i => nI ((sc 4) i)), oc ga 1 [.ref pa, .ref g1, .ref g2, .ref g3, .int (nI dn), .long so], oc pa 0 [.ref (pA 0), .ref (pA 1), .ref (pA 2), .ref (pA 3), .ref (pA 4), .ref (pA 5), .ref (pA 6), .ref (pA 7), .ref (pA 8), .ref (pA 9), .ref (pA 10), .int (nI T), .int (nI Ac)], ia (pA 2) (pK 2) 7 (fun i => nI ((pg 2) i)), ia (pA 4) (pK 4) 7 (fun i => nI ((pg 4) i)), ia (pA 8) (pK 8) 4 (fun i => nI ((pg 8) i))]) hP hD rfl hS hA [3, 4, 0, 1, 5, 6, 2, 7] (by decide +kernel) rfl
              exact ih _ _ _ ⟨hinv, hP8, hS, lv_sub hl [0, 2, 3, 4, 5] rfl⟩
      · skip
        have hc2 : (pg 4) i = 0 := (nI_eq (a := (pg 4) i) (b := 0) (by omega) (by omega)).mp c2
        have hse : sh = fm i - 1 := by rw [hsh, shw, if_pos hc2]
        refine tp_pc (pc' := 46) (by rfl) ?_
        refine lv_aload_n hx hb d_GraphSearch_isPast_46 rfl (lv_at hl 2 rfl) ?_
        refine va_get (D := (dC, dI)) (ci := 6) (v := .ref (xA 0)) (C := R_GraphSearch) (T := F_GraphSearch) (N := 17) hx hb hw i_GraphSearch hown hK hP 0 rfl rfl 2 (by decide) (hw _ m_321) (fun _ h9 => h9) rfl d_GraphSearch_isPast_47 ?_
        refine lv_iload hx hb d_GraphSearch_isPast_50 (lv_at hl 0 rfl) ?_
        refine va_iald (D := (dC, dI)) hx hb hK hP 1 0 rfl rfl (i := nI i) (pk_in i 7 (by omega)) d_GraphSearch_isPast_52 ?_
        refine tp_i (y := (fun i0 => mN (fm i0)) i) (by rw [show (nI i : Int32).toNatClampNeg = i from pk_cl i]) ?_
        refine tp_i (y := mN (fm i)) rfl ?_
        by_cases e0 : fm i = 0
        · skip
          rw [e0, mN_0]
          refine lv_goto (tgt := 60) hx hb d_GraphSearch_isPast_53 (by decide) ?_
          refine tp_pc (pc' := 60) (by rfl) ?_
          refine lv_istore (lv' := [(5, .int (-1)), (4, .int (nI i)), (3, .int (nI ah)), (0, .ref xa), (1, .int (nI a)), (2, .int (nI q))]) hx hb d_GraphSearch_isPast_60 hl (by decide) rfl ?_
          clear hl ls
          intro ls hl
          refine lv_iload hx hb d_GraphSearch_isPast_62 (lv_at hl 0 rfl) ?_
          refine lv_if_le (tgt := 85) hx hb d_GraphSearch_isPast_64 (by decide) (fun c_5 => ?_) (fun c_5 => absurd c_5 (by decide))
          refine tp_pc (pc' := 85) (by rfl) ?_
          refine lv_iinc (v := nI (i + 1)) (lv' := [(4, .int (nI (i + 1))), (5, .int (-1)), (3, .int (nI ah)), (0, .ref xa), (1, .int (nI a)), (2, .int (nI q))]) hx hb d_GraphSearch_isPast_85 hl (k := 1) rfl (by exact nI_1 i) (by decide) rfl ?_
          clear hl ls
          intro ls hl
          refine lv_goto (tgt := 18) hx hb d_GraphSearch_isPast_88 (by decide) ?_
          refine tp_pc (pc' := 18) (by rfl) ?_
          rw [if_neg (by rw [show sh = 0 from by omega]; simp)] at hinv
          obtain ⟨hP8, -, -⟩ := cut3 (wc := [oc xa 6 [.ref pa, .ref ga, .ref (xA 0), .ref (xA 1), .ref (xA 2), .ref (xA 3), .ref (xA 4), .ref (xA 5), .ref (xA 6), .ref (xA 7), .ref (xA 8), .ref (xA 9), .ref (xA 10), .ref (xA 11), .ref fa, .int (nI md), .int (nI mb)], ia (xA 0) (xK 0) 7 (fun i0 => mN (fm i0)), ia (xA 4) (xK 4) 7 (fun i => nI ((sc 4) i)), oc ga 1 [.ref pa, .ref g1, .ref g2, .ref g3, .int (nI dn), .long so], oc pa 0 [.ref (pA 0), .ref (pA 1), .ref (pA 2), .ref (pA 3), .ref (pA 4), .ref (pA 5), .ref (pA 6), .ref (pA 7), .ref (pA 8), .ref (pA 9), .ref (pA 10), .int (nI T), .int (nI Ac)], ia (pA 2) (pK 2) 7 (fun i => nI ((pg 2) i)), ia (pA 4) (pK 4) 7 (fun i => nI ((pg 4) i)), ia (pA 8) (pK 8) 4 (fun i => nI ((pg 8) i))]) hP hD rfl hS hA [0, 1, 2, 3, 4, 5, 6, 7] (by decide +kernel) rfl
          exact ih _ _ _ ⟨hinv, hP8, hS, lv_sub hl [0, 2, 3, 4, 5] rfl⟩
        · skip
          rw [mN_s e0]
          refine tp_i (y := nI sh) (by rw [hse]) ?_
          refine lv_goto (tgt := 60) hx hb d_GraphSearch_isPast_53 (by decide) ?_
          refine tp_pc (pc' := 60) (by rfl) ?_
          refine lv_istore (lv' := [(5, .int (nI sh)), (4, .int (nI i)), (3, .int (nI ah)), (0, .ref xa), (1, .int (nI a)), (2, .int (nI q))]) hx hb d_GraphSearch_isPast_60 hl (by decide) rfl ?_
          clear hl ls
          intro ls hl
          refine lv_iload hx hb d_GraphSearch_isPast_62 (lv_at hl 0 rfl) ?_
          refine lv_if_le (tgt := 85) hx hb d_GraphSearch_isPast_64 (by decide) (fun c3 => ?_) (fun c3 => ?_)
          · skip
            have hc3 : sh ≤ 0 := (nI_leI (a := sh) (b := 0) (by omega) (by omega)).mp c3
            rw [if_neg (by rw [show sh = 0 from by omega]; simp)] at hinv
            refine tp_pc (pc' := 85) (by rfl) ?_
            refine lv_iinc (v := nI (i + 1)) (lv' := [(4, .int (nI (i + 1))), (5, .int (nI sh)), (3, .int (nI ah)), (0, .ref xa), (1, .int (nI a)), (2, .int (nI q))]) hx hb d_GraphSearch_isPast_85 hl (k := 1) rfl (by exact nI_1 i) (by decide) rfl ?_
            clear hl ls
            intro ls hl
            refine lv_goto (tgt := 18) hx hb d_GraphSearch_isPast_88 (by decide) ?_
            refine tp_pc (pc' := 18) (by rfl) ?_
            obtain ⟨hP8, -, -⟩ := cut3 (wc := [oc xa 6 [.ref pa, .ref ga, .ref (xA 0), .ref (xA 1), .ref (xA 2), .ref (xA 3), .ref (xA 4), .ref (xA 5), .ref (xA 6), .ref (xA 7), .ref (xA 8), .ref (xA 9), .ref (xA 10), .ref (xA 11), .ref fa, .int (nI md), .int (nI mb)], ia (xA 0) (xK 0) 7 (fun i0 => mN (fm i0)), ia (xA 4) (xK 4) 7 (fun i => nI ((sc 4) i)), oc ga 1 [.ref pa, .ref g1, .ref g2, .ref g3, .int (nI dn), .long so], oc pa 0 [.ref (pA 0), .ref (pA 1), .ref (pA 2), .ref (pA 3), .ref (pA 4), .ref (pA 5), .ref (pA 6), .ref (pA 7), .ref (pA 8), .ref (pA 9), .ref (pA 10), .int (nI T), .int (nI Ac)], ia (pA 2) (pK 2) 7 (fun i => nI ((pg 2) i)), ia (pA 4) (pK 4) 7 (fun i => nI ((pg 4) i)), ia (pA 8) (pK 8) 4 (fun i => nI ((pg 8) i))]) hP hD rfl hS hA [0, 1, 2, 3, 4, 5, 6, 7] (by decide +kernel) rfl
            exact ih _ _ _ ⟨hinv, hP8, hS, lv_sub hl [0, 2, 3, 4, 5] rfl⟩
          · skip
            have hc3 : ¬ (sh ≤ 0) := fun q9 => c3 ((nI_leI (a := sh) (b := 0) (by omega) (by omega)).mpr q9)
            have sh1 : (sh != 0) = true := by simp; omega
            rw [sh1, Bool.true_and] at hinv
            refine tp_pc (pc' := 67) (by rfl) ?_
            refine lv_iload_n hx hb d_GraphSearch_isPast_67 rfl (lv_at hl 5 rfl) ?_
            refine lv_if_eq (tgt := 83) hx hb d_GraphSearch_isPast_68 (by decide) (fun c4 => ?_) (fun c4 => ?_)
            · skip
              have hc4 : q = 0 := (nI_eq (a := q) (b := 0) (by omega) (by omega)).mp c4
              rw [if_pos (by rw [hc4]; rfl)] at hinv
              refine tp_pc (pc' := 83) (by rfl) ?_
              refine lv_iconst (v := 1) hx hb d_GraphSearch_isPast_83 (by decide) ?_
              obtain ⟨hP9, hD9, -⟩ := cut3 (wc := [oc xa 6 [.ref pa, .ref ga, .ref (xA 0), .ref (xA 1), .ref (xA 2), .ref (xA 3), .ref (xA 4), .ref (xA 5), .ref (xA 6), .ref (xA 7), .ref (xA 8), .ref (xA 9), .ref (xA 10), .ref (xA 11), .ref fa, .int (nI md), .int (nI mb)], ia (xA 0) (xK 0) 7 (fun i0 => mN (fm i0)), ia (xA 4) (xK 4) 7 (fun i => nI ((sc 4) i)), oc ga 1 [.ref pa, .ref g1, .ref g2, .ref g3, .int (nI dn), .long so], oc pa 0 [.ref (pA 0), .ref (pA 1), .ref (pA 2), .ref (pA 3), .ref (pA 4), .ref (pA 5), .ref (pA 6), .ref (pA 7), .ref (pA 8), .ref (pA 9), .ref (pA 10), .int (nI T), .int (nI Ac)], ia (pA 2) (pK 2) 7 (fun i => nI ((pg 2) i)), ia (pA 4) (pK 4) 7 (fun i => nI ((pg 4) i)), ia (pA 8) (pK 8) 4 (fun i => nI ((pg 8) i))]) hP hD rfl hS hA [0, 1, 2, 3, 4, 5, 6, 7] (by decide +kernel) rfl
              have hK9 := hK.sub (tys' := []) [] rfl
              refine W.widen (k := 0) (n := 0) (by exact Nat.le_of_ble_eq_true rfl) (by exact Nat.le_of_ble_eq_true rfl) ?_
              exact W.zret (v := 1) (ty := .boolean) hx hb hr (by decide) (fun t9 ht9 hW => ⟨⟨1, (), rfl, by rw [← hinv, if_neg (by omega)], by rw [ht9]; exact hP9, va_K.moved hW.alike hK9, hD9⟩, hS.F ht9⟩) hS.2.2 d_GraphSearch_isPast_84
            · skip
              have hc4 : ¬ (q = 0) := fun q9 => c4 ((nI_eq (a := q) (b := 0) (by omega) (by omega)).mpr q9)
              rw [show (q == 0) = false from by simpa using hc4, Bool.false_or] at hinv
              refine tp_pc (pc' := 71) (by rfl) ?_
              refine lv_aload_n hx hb d_GraphSearch_isPast_71 rfl (lv_at hl 3 rfl) ?_
              refine lv_iload hx hb d_GraphSearch_isPast_72 (lv_at hl 0 rfl) ?_
              refine lv_iconst (v := 1) hx hb d_GraphSearch_isPast_74 (by decide) ?_
              refine lv_isub hx hb d_GraphSearch_isPast_75 ?_
              refine tp_i (y := nI (sh - 1)) (by exact pk_sub (a := sh) (b := 1) (by omega)) ?_
              refine lv_iload_n hx hb d_GraphSearch_isPast_76 rfl (lv_at hl 5 rfl) ?_
              obtain ⟨hPc, hDc, hFc⟩ := cut3 (wc := [oc xa 6 [.ref pa, .ref ga, .ref (xA 0), .ref (xA 1), .ref (xA 2), .ref (xA 3), .ref (xA 4), .ref (xA 5), .ref (xA 6), .ref (xA 7), .ref (xA 8), .ref (xA 9), .ref (xA 10), .ref (xA 11), .ref fa, .int (nI md), .int (nI mb)], ia (xA 0) (xK 0) 7 (fun i0 => mN (fm i0)), oc pa 0 [.ref (pA 0), .ref (pA 1), .ref (pA 2), .ref (pA 3), .ref (pA 4), .ref (pA 5), .ref (pA 6), .ref (pA 7), .ref (pA 8), .ref (pA 9), .ref (pA 10), .int (nI T), .int (nI Ac)], ia (pA 2) (pK 2) 7 (fun i => nI ((pg 2) i)), ia (pA 8) (pK 8) 4 (fun i => nI ((pg 8) i))]) hP hD rfl hS hA [0, 1, 4, 5, 7] (by decide +kernel) rfl
              have hKc := hK.sub (tys' := [((xK 0), .int), ((pK 2), .int), ((pK 8), .int)]) [0, 2, 4] rfl
              refine va_calli (va_runV (As := [.int (nI (sh - 1)), .int (nI q)]) (rest := []) ⟨hx, hb, hml, hown, hw⟩ (gen_GS_isBehind l dC dI pa pA pK T Ac pg nm xa ga fa xA xK md mb fm wm sc (sh - 1) q (by omega) (hfm _ (by omega)) (by omega) hq8 (h2 (by omega)) h8 H.size) (cw_V 2 hw g_GraphSearch_isBehind rfl rfl rfl (hw _ m_107) (hw _ m_853) (hw _ m_855) (hw _ m_49) (by decide +kernel) ⟨Nat.le_of_ble_eq_true rfl, Nat.le_of_ble_eq_true rfl⟩) ⟨fun a U g mk q => by obtain ⟨q0, q1, qP, qK, qD, qN⟩ := q; exact ⟨q0, q1, qP, va_K.moved (u := U) (U := U.calling g mk a) (Vm.Alike.refl U.vm) qK, qD, nw_call qN⟩, va_recv hKc hPc (ci := 6) (q0 := 0) rfl rfl, fun U hU hW => ⟨rfl, by rw [hU], by rw [hU]; exact hPc, va_K.moved hW.alike hKc, hDc.weaken (fun _ _ _ _ => trivial), nw_warm hW hn⟩⟩ rfl rfl hl.1 rfl (lv_room (Nat.le_of_ble_eq_true rfl)) d_GraphSearch_isPast_77 ⟨Nat.le_of_ble_eq_true rfl, Nat.le_of_ble_eq_true rfl⟩) hS (fun q _ h => hFc q h) hFc ?_
              intro r_6 u t9 H1 locs1 ht9 hvm hw1 hB hz1 hk1 hS1
              obtain ⟨hP1, hK1, hD1⟩ := hB
              rw [ht9] at hP1
              replace hK1 := va_K.moved hvm.symm hK1
              have hPD := join3 hP hD rfl [0, 1, 4, 5, 7] [2, 3, 6] rfl (by rfl) (by decide +kernel) (by decide +kernel) hk1 hFc hP1 hD1
              replace hK : va_K (dC, dI) classes [((xK 0), .int), ((xK 4), .int), ((pK 2), .int), ((pK 4), .int), ((pK 8), .int)] s := hK.app hK1
              clear hP1 hK1 hD1 hk1 hz1 hFc hKc hDc hPc hvm ht9 hP hS t9 locs H
              have hP : va_P (dC, dI) classes [ia (xA 4) (xK 4) 7 (fun i => nI ((sc 4) i)), oc ga 1 [.ref pa, .ref g1, .ref g2, .ref g3, .int (nI dn), .long so], ia (pA 4) (pK 4) 7 (fun i => nI ((pg 4) i)), oc xa 6 [.ref pa, .ref ga, .ref (xA 0), .ref (xA 1), .ref (xA 2), .ref (xA 3), .ref (xA 4), .ref (xA 5), .ref (xA 6), .ref (xA 7), .ref (xA 8), .ref (xA 9), .ref (xA 10), .ref (xA 11), .ref fa, .int (nI md), .int (nI mb)], ia (xA 0) (xK 0) 7 (fun i0 => mN (fm i0)), oc pa 0 [.ref (pA 0), .ref (pA 1), .ref (pA 2), .ref (pA 3), .ref (pA 4), .ref (pA 5), .ref (pA 6), .ref (pA 7), .ref (pA 8), .ref (pA 9), .ref (pA 10), .int (nI T), .int (nI Ac)], ia (pA 2) (pK 2) 7 (fun i => nI ((pg 2) i)), ia (pA 8) (pK 8) 4 (fun i => nI ((pg 8) i))] H1 := hPD.1
              replace hD : dd A [(xA 4), ga, (pA 4), xa, (xA 0), pa, (pA 2), (pA 8)] := dd_of hPD.2 rfl
              clear hPD
              revert H1 locs1
              intro H locs hS hP
              refine tp_i (y := (if beh pg fm (sh - 1) q then 1 else 0)) (hw1) ?_
              clear hw1 r_6 u
              cases hbe : beh pg fm (sh - 1) q with
              | true =>
                rw [if_pos (rfl : true = true)]
                rw [if_pos (by exact hbe)] at hinv
                refine tp_pc (pc' := 80) (by rfl) ?_
                refine lv_if_eq (tgt := 85) hx hb d_GraphSearch_isPast_80 (by decide) (fun c_7 => absurd c_7 (by decide)) (fun c_7 => ?_)
                refine tp_pc (pc' := 83) (by rfl) ?_
                refine lv_iconst (v := 1) hx hb d_GraphSearch_isPast_83 (by decide) ?_
                obtain ⟨hP9, hD9, -⟩ := cut3 (wc := [oc xa 6 [.ref pa, .ref ga, .ref (xA 0), .ref (xA 1), .ref (xA 2), .ref (xA 3), .ref (xA 4), .ref (xA 5), .ref (xA 6), .ref (xA 7), .ref (xA 8), .ref (xA 9), .ref (xA 10), .ref (xA 11), .ref fa, .int (nI md), .int (nI mb)], ia (xA 0) (xK 0) 7 (fun i0 => mN (fm i0)), ia (xA 4) (xK 4) 7 (fun i => nI ((sc 4) i)), oc ga 1 [.ref pa, .ref g1, .ref g2, .ref g3, .int (nI dn), .long so], oc pa 0 [.ref (pA 0), .ref (pA 1), .ref (pA 2), .ref (pA 3), .ref (pA 4), .ref (pA 5), .ref (pA 6), .ref (pA 7), .ref (pA 8), .ref (pA 9), .ref (pA 10), .int (nI T), .int (nI Ac)], ia (pA 2) (pK 2) 7 (fun i => nI ((pg 2) i)), ia (pA 4) (pK 4) 7 (fun i => nI ((pg 4) i)), ia (pA 8) (pK 8) 4 (fun i => nI ((pg 8) i))]) hP hD rfl hS hA [3, 4, 0, 1, 5, 6, 2, 7] (by decide +kernel) rfl
                have hK9 := hK.sub (tys' := []) [] rfl
                refine W.widen (k := 0) (n := 0) (by exact Nat.le_of_ble_eq_true rfl) (by exact Nat.le_of_ble_eq_true rfl) ?_
                exact W.zret (v := 1) (ty := .boolean) hx hb hr (by decide) (fun t9 ht9 hW => ⟨⟨1, (), rfl, by rw [← hinv, if_neg (by omega)], by rw [ht9]; exact hP9, va_K.moved hW.alike hK9, hD9⟩, hS.F ht9⟩) hS.2.2 d_GraphSearch_isPast_84
              | false =>
                rw [if_neg (by decide : ¬ (false = true))]
                rw [if_neg (by rw [hbe]; decide)] at hinv
                refine tp_pc (pc' := 80) (by rfl) ?_
                refine lv_if_eq (tgt := 85) hx hb d_GraphSearch_isPast_80 (by decide) (fun c_8 => ?_) (fun c_8 => absurd c_8 (by decide))
                refine tp_pc (pc' := 85) (by rfl) ?_
                refine lv_iinc (v := nI (i + 1)) (lv' := [(4, .int (nI (i + 1))), (5, .int (nI sh)), (3, .int (nI ah)), (0, .ref xa), (1, .int (nI a)), (2, .int (nI q))]) hx hb d_GraphSearch_isPast_85 hl (k := 1) rfl (by exact nI_1 i) (by decide) rfl ?_
                clear hl ls
                intro ls hl
                refine lv_goto (tgt := 18) hx hb d_GraphSearch_isPast_88 (by decide) ?_
                refine tp_pc (pc' := 18) (by rfl) ?_
                obtain ⟨hP8, -, -⟩ := cut3 (wc := [oc xa 6 [.ref pa, .ref ga, .ref (xA 0), .ref (xA 1), .ref (xA 2), .ref (xA 3), .ref (xA 4), .ref (xA 5), .ref (xA 6), .ref (xA 7), .ref (xA 8), .ref (xA 9), .ref (xA 10), .ref (xA 11), .ref fa, .int (nI md), .int (nI mb)], ia (xA 0) (xK 0) 7 (fun i0 => mN (fm i0)), ia (xA 4) (xK 4) 7 (fun i => nI ((sc 4) i)), oc ga 1 [.ref pa, .ref g1, .ref g2, .ref g3, .int (nI dn), .long so], oc pa 0 [.ref (pA 0), .ref (pA 1), .ref (pA 2), .ref (pA 3), .ref (pA 4), .ref (pA 5), .ref (pA 6), .ref (pA 7), .ref (pA 8), .ref (pA 9), .ref (pA 10), .int (nI T), .int (nI Ac)], ia (pA 2) (pK 2) 7 (fun i => nI ((pg 2) i)), ia (pA 4) (pK 4) 7 (fun i => nI ((pg 4) i)), ia (pA 8) (pK 8) 4 (fun i => nI ((pg 8) i))]) hP hD rfl hS hA [3, 4, 0, 1, 5, 6, 2, 7] (by decide +kernel) rfl
                exact ih _ _ _ ⟨hinv, hP8, hS, lv_sub hl [0, 2, 3, 4, 5] rfl⟩
  · intro H locs ls hI
    obtain ⟨hinv, hP, hS, hl⟩ := hI
    refine lv_iload hx hb d_GraphSearch_isPast_18 (lv_at hl 0 rfl) ?_
    refine lv_iload_n hx hb d_GraphSearch_isPast_20 rfl (lv_at hl 3 rfl) ?_
    refine lv_icmp_ge (tgt := 91) hx hb d_GraphSearch_isPast_21 (by decide) (fun c9 => ?_) (fun c9 => absurd (nI_le (Nat.le_refl _) (by omega)) c9)
    rw [Nat.sub_self] at hinv
    replace hinv : 0 = fF (pst pg fm ah q) a 0 := hinv
    refine tp_pc (pc' := 91) (by rfl) ?_
    refine lv_iconst (v := 0) hx hb d_GraphSearch_isPast_91 (by decide) ?_
    obtain ⟨hP9, hD9, -⟩ := cut3 (wc := [oc xa 6 [.ref pa, .ref ga, .ref (xA 0), .ref (xA 1), .ref (xA 2), .ref (xA 3), .ref (xA 4), .ref (xA 5), .ref (xA 6), .ref (xA 7), .ref (xA 8), .ref (xA 9), .ref (xA 10), .ref (xA 11), .ref fa, .int (nI md), .int (nI mb)], ia (xA 0) (xK 0) 7 (fun i0 => mN (fm i0)), ia (xA 4) (xK 4) 7 (fun i => nI ((sc 4) i)), oc ga 1 [.ref pa, .ref g1, .ref g2, .ref g3, .int (nI dn), .long so], oc pa 0 [.ref (pA 0), .ref (pA 1), .ref (pA 2), .ref (pA 3), .ref (pA 4), .ref (pA 5), .ref (pA 6), .ref (pA 7), .ref (pA 8), .ref (pA 9), .ref (pA 10), .int (nI T), .int (nI Ac)], ia (pA 2) (pK 2) 7 (fun i => nI ((pg 2) i)), ia (pA 4) (pK 4) 7 (fun i => nI ((pg 4) i)), ia (pA 8) (pK 8) 4 (fun i => nI ((pg 8) i))]) hP hD rfl hS hA [0, 1, 2, 3, 4, 5, 6, 7] (by decide +kernel) rfl
    have hK9 := hK.sub (tys' := []) [] rfl
    refine W.widen (k := 0) (n := 0) (by exact Nat.le_of_ble_eq_true rfl) (by exact Nat.le_of_ble_eq_true rfl) ?_
    exact W.zret (v := 0) (ty := .boolean) hx hb hr (by decide) (fun t9 ht9 hW => ⟨⟨0, (), rfl, by rw [← hinv]; rfl, by rw [ht9]; exact hP9, va_K.moved hW.alike hK9, hD9⟩, hS.F ht9⟩) hS.2.2 d_GraphSearch_isPast_92
