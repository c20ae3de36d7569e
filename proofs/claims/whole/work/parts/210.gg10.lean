set_option maxHeartbeats 4000000 in
set_option maxRecDepth 100000 in
theorem gen_GS_stands (l : Launch) (dC : Nat → ClassId) (dI : Nat → Nat → Nat) (pa : Nat) (pA : Nat → Nat) (pK : Nat → ClassId) (T Ac : Nat) (pg : Nat → Nat → Nat) (nm : Nat → Int32) (xa ga fa : Nat) (xA : Nat → Nat) (xK : Nat → ClassId) (md mb : Nat) (fm wm : Nat → Nat) (sc : Nat → Nat → Nat) (hPg : PgOk T Ac pg) (hmd : md < 4) (hmb : mb < 128) (hs3 : ∀ i, i < Ac → sc 3 i < 128) (hs4 : ∀ i, i < Ac → sc 4 i < 128) (hs5 : ∀ i, i < Ac → sc 5 i < 128) (h9 : ∀ i, sc 9 i < 128) (h10 : ∀ i, sc 10 i < 128) (h11 : ∀ i, sc 11 i < 128) (sz : Nat) : Met l y_GraphSearch_stands w_GraphSearch_stands ({ frames := 2, cells := 0, slots := 0, locals := 80 }) (va_Pc [.ref xa] (fun U => U.heap.size = sz ∧ va_P (dC, dI) classes [oc xa 6 [.ref pa, .ref ga, .ref (xA 0), .ref (xA 1), .ref (xA 2), .ref (xA 3), .ref (xA 4), .ref (xA 5), .ref (xA 6), .ref (xA 7), .ref (xA 8), .ref (xA 9), .ref (xA 10), .ref (xA 11), .ref fa, .int (nI md), .int (nI mb)], ia (xA 3) (xK 3) 7 (fun i => nI ((sc 3) i)), ia (xA 4) (xK 4) 7 (fun i => nI ((sc 4) i)), ia (xA 5) (xK 5) 7 (fun i => nI ((sc 5) i)), ia (xA 9) (xK 9) 7 (fun i => nI ((sc 9) i)), ia (xA 10) (xK 10) 7 (fun i => nI ((sc 10) i)), ia (xA 11) (xK 11) 7 (fun i => nI ((sc 11) i)), oc pa 0 [.ref (pA 0), .ref (pA 1), .ref (pA 2), .ref (pA 3), .ref (pA 4), .ref (pA 5), .ref (pA 6), .ref (pA 7), .ref (pA 8), .ref (pA 9), .ref (pA 10), .int (nI T), .int (nI Ac)], ia (pA 2) (pK 2) 7 (fun i => nI ((pg 2) i)), ia (pA 4) (pK 4) 7 (fun i => nI ((pg 4) i)), ia (pA 8) (pK 8) 4 (fun i => nI ((pg 8) i)), ia (pA 9) (pK 9) 6 (fun i => nI ((pg 9) i))] U.heap ∧ va_K (dC, dI) classes [((xK 3), .int), ((xK 4), .int), ((xK 5), .int), ((xK 9), .int), ((xK 10), .int), ((xK 11), .int), ((pK 2), .int), ((pK 4), .int), ((pK 8), .int), ((pK 9), .int)] U ∧ va_D (fun _ => True) [oc xa 6 [.ref pa, .ref ga, .ref (xA 0), .ref (xA 1), .ref (xA 2), .ref (xA 3), .ref (xA 4), .ref (xA 5), .ref (xA 6), .ref (xA 7), .ref (xA 8), .ref (xA 9), .ref (xA 10), .ref (xA 11), .ref fa, .int (nI md), .int (nI mb)], ia (xA 3) (xK 3) 7 (fun i => nI ((sc 3) i)), ia (xA 4) (xK 4) 7 (fun i => nI ((sc 4) i)), ia (xA 5) (xK 5) 7 (fun i => nI ((sc 5) i)), ia (xA 9) (xK 9) 7 (fun i => nI ((sc 9) i)), ia (xA 10) (xK 10) 7 (fun i => nI ((sc 10) i)), ia (xA 11) (xK 11) 7 (fun i => nI ((sc 11) i)), oc pa 0 [.ref (pA 0), .ref (pA 1), .ref (pA 2), .ref (pA 3), .ref (pA 4), .ref (pA 5), .ref (pA 6), .ref (pA 7), .ref (pA 8), .ref (pA 9), .ref (pA 10), .int (nI T), .int (nI Ac)], ia (pA 2) (pK 2) 7 (fun i => nI ((pg 2) i)), ia (pA 4) (pK 4) 7 (fun i => nI ((pg 4) i)), ia (pA 8) (pK 8) 4 (fun i => nI ((pg 8) i)), ia (pA 9) (pK 9) 6 (fun i => nI ((pg 9) i))] ∧ nw U)) (va_Qi (fun (r : Int32) (_ : Unit) => r = if stB pg md Ac mb sc then 1 else 0) (fun _ t9 => va_P (dC, dI) classes [oc xa 6 [.ref pa, .ref ga, .ref (xA 0), .ref (xA 1), .ref (xA 2), .ref (xA 3), .ref (xA 4), .ref (xA 5), .ref (xA 6), .ref (xA 7), .ref (xA 8), .ref (xA 9), .ref (xA 10), .ref (xA 11), .ref fa, .int (nI md), .int (nI mb)], ia (xA 3) (xK 3) 7 (fun i => nI ((sc 3) i)), ia (xA 4) (xK 4) 7 (fun i => nI ((sc 4) i)), ia (xA 5) (xK 5) 7 (fun i => nI ((sc 5) i)), ia (xA 9) (xK 9) 7 (fun i => nI ((sc 9) i)), ia (xA 10) (xK 10) 7 (fun i => nI ((ouG pg md Ac sc) i)), ia (xA 11) (xK 11) 7 (fun i => nI ((sc 11) i)), oc pa 0 [.ref (pA 0), .ref (pA 1), .ref (pA 2), .ref (pA 3), .ref (pA 4), .ref (pA 5), .ref (pA 6), .ref (pA 7), .ref (pA 8), .ref (pA 9), .ref (pA 10), .int (nI T), .int (nI Ac)], ia (pA 2) (pK 2) 7 (fun i => nI ((pg 2) i)), ia (pA 4) (pK 4) 7 (fun i => nI ((pg 4) i)), ia (pA 8) (pK 8) 4 (fun i => nI ((pg 8) i)), ia (pA 9) (pK 9) 6 (fun i => nI ((pg 9) i))] t9.heap ∧ va_K (dC, dI) classes [] t9 ∧ va_D (va_A [oc xa 6 [.ref pa, .ref ga, .ref (xA 0), .ref (xA 1), .ref (xA 2), .ref (xA 3), .ref (xA 4), .ref (xA 5), .ref (xA 6), .ref (xA 7), .ref (xA 8), .ref (xA 9), .ref (xA 10), .ref (xA 11), .ref fa, .int (nI md), .int (nI mb)], ia (xA 3) (xK 3) 7 (fun i => nI ((sc 3) i)), ia (xA 4) (xK 4) 7 (fun i => nI ((sc 4) i)), ia (xA 5) (xK 5) 7 (fun i => nI ((sc 5) i)), ia (xA 9) (xK 9) 7 (fun i => nI ((sc 9) i)), ia (xA 10) (xK 10) 7 (fun i => nI ((sc 10) i)), ia (xA 11) (xK 11) 7 (fun i => nI ((sc 11) i)), oc pa 0 [.ref (pA 0), .ref (pA 1), .ref (pA 2), .ref (pA 3), .ref (pA 4), .ref (pA 5), .ref (pA 6), .ref (pA 7), .ref (pA 8), .ref (pA 9), .ref (pA 10), .int (nI T), .int (nI Ac)], ia (pA 2) (pK 2) 7 (fun i => nI ((pg 2) i)), ia (pA 4) (pK 4) 7 (fun i => nI ((pg 4) i)), ia (pA 8) (pK 8) 4 (fun i => nI ((pg 8) i)), ia (pA 9) (pK 9) 6 (fun i => nI ((pg 9) i))] sz) [oc xa 6 [.ref pa, .ref ga, .ref (xA 0), .ref (xA 1), .ref (xA 2), .ref (xA 3), .ref (xA 4), .ref (xA 5), .ref (xA 6), .ref (xA 7), .ref (xA 8), .ref (xA 9), .ref (xA 10), .ref (xA 11), .ref fa, .int (nI md), .int (nI mb)], ia (xA 3) (xK 3) 7 (fun i => nI ((sc 3) i)), ia (xA 4) (xK 4) 7 (fun i => nI ((sc 4) i)), ia (xA 5) (xK 5) 7 (fun i => nI ((sc 5) i)), ia (xA 9) (xK 9) 7 (fun i => nI ((sc 9) i)), ia (xA 10) (xK 10) 7 (fun i => nI ((ouG pg md Ac sc) i)), ia (xA 11) (xK 11) 7 (fun i => nI ((sc 11) i)), oc pa 0 [.ref (pA 0), .ref (pA 1), .ref (pA 2), .ref (pA 3), .ref (pA 4), .ref (pA 5), .ref (pA 6), .ref (pA 7), .ref (pA 8), .ref (pA 9), .ref (pA 10), .int (nI T), .int (nI Ac)], ia (pA 2) (pK 2) 7 (fun i => nI ((pg 2) i)), ia (pA 4) (pK 4) 7 (fun i => nI ((pg 4) i)), ia (pA 8) (pK 8) 4 (fun i => nI ((pg 8) i)), ia (pA 9) (pK 9) 6 (fun i => nI ((pg 9) i))]) (va_A [oc xa 6 [.ref pa, .ref ga, .ref (xA 0), .ref (xA 1), .ref (xA 2), .ref (xA 3), .ref (xA 4), .ref (xA 5), .ref (xA 6), .ref (xA 7), .ref (xA 8), .ref (xA 9), .ref (xA 10), .ref (xA 11), .ref fa, .int (nI md), .int (nI mb)], ia (xA 3) (xK 3) 7 (fun i => nI ((sc 3) i)), ia (xA 4) (xK 4) 7 (fun i => nI ((sc 4) i)), ia (xA 5) (xK 5) 7 (fun i => nI ((sc 5) i)), ia (xA 9) (xK 9) 7 (fun i => nI ((sc 9) i)), ia (xA 10) (xK 10) 7 (fun i => nI ((sc 10) i)), ia (xA 11) (xK 11) 7 (fun i => nI ((sc 11) i)), oc pa 0 [.ref (pA 0), .ref (pA 1), .ref (pA 2), .ref (pA 3), .ref (pA 4), .ref (pA 5), .ref (pA 6), .ref (pA 7), .ref (pA 8), .ref (pA 9), .ref (pA 10), .int (nI T), .int (nI Ac)], ia (pA 2) (pK 2) 7 (fun i => nI ((pg 2) i)), ia (pA 4) (pK 4) 7 (fun i => nI ((pg 4) i)), ia (pA 8) (pK 8) 4 (fun i => nI ((pg 8) i)), ia (pA 9) (pK 9) 6 (fun i => nI ((pg 9) i))] sz)) 0 0 (va_A [oc xa 6 [.ref pa, .ref ga, .ref (xA 0), .ref (xA 1), .ref (xA 2), .ref (xA 3), .ref (xA 4), .ref (xA 5), .ref (xA 6), .ref (xA 7), .ref (xA 8), .ref (xA 9), .ref (xA 10), .ref (xA 11), .ref fa, .int (nI md), .int (nI mb)], ia (xA 3) (xK 3) 7 (fun i => nI ((sc 3) i)), ia (xA 4) (xK 4) 7 (fun i => nI ((sc 4) i)), ia (xA 5) (xK 5) 7 (fun i => nI ((sc 5) i)), ia (xA 9) (xK 9) 7 (fun i => nI ((sc 9) i)), ia (xA 10) (xK 10) 7 (fun i => nI ((sc 10) i)), ia (xA 11) (xK 11) 7 (fun i => nI ((sc 11) i)), oc pa 0 [.ref (pA 0), .ref (pA 1), .ref (pA 2), .ref (pA 3), .ref (pA 4), .ref (pA 5), .ref (pA 6), .ref (pA 7), .ref (pA 8), .ref (pA 9), .ref (pA 10), .int (nI T), .int (nI Ac)], ia (pA 2) (pK 2) 7 (fun i => nI ((pg 2) i)), ia (pA 4) (pK 4) 7 (fun i => nI ((pg 4) i)), ia (pA 8) (pK 8) 4 (fun i => nI ((pg 8) i)), ia (pA 9) (pK 9) 6 (fun i => nI ((pg 9) i))] sz) := by
  refine Met.ofW (cc := b_GraphSearch_stands) (maxL := 1) (ret := (some .boolean)) (by decide) rfl ?_
  intro p e0 s m args below meth c s₁ B hml hv
  obtain ⟨rfl, hsz, hP, hK, hD0, hn⟩ := hv
  have hx := B.exec
  have hb := B.bytes
  have hr := B.returns
  have hw := fun w (h : w ∈ wt) => atoms_spec (ws := w_GraphSearch_stands) B.pre w (List.mem_cons_of_mem _ h)
  have hown : s.vm.findClass R_GraphSearch = some m.cls := findClass_of_methodNamed B.named
  have hlocks := B.notSynchronized
  subst hsz
  have hD1 := hD0.self (sz := s.heap.size)
  generalize hAe : va_A [oc xa 6 [.ref pa, .ref ga, .ref (xA 0), .ref (xA 1), .ref (xA 2), .ref (xA 3), .ref (xA 4), .ref (xA 5), .ref (xA 6), .ref (xA 7), .ref (xA 8), .ref (xA 9), .ref (xA 10), .ref (xA 11), .ref fa, .int (nI md), .int (nI mb)], ia (xA 3) (xK 3) 7 (fun i => nI ((sc 3) i)), ia (xA 4) (xK 4) 7 (fun i => nI ((sc 4) i)), ia (xA 5) (xK 5) 7 (fun i => nI ((sc 5) i)), ia (xA 9) (xK 9) 7 (fun i => nI ((sc 9) i)), ia (xA 10) (xK 10) 7 (fun i => nI ((sc 10) i)), ia (xA 11) (xK 11) 7 (fun i => nI ((sc 11) i)), oc pa 0 [.ref (pA 0), .ref (pA 1), .ref (pA 2), .ref (pA 3), .ref (pA 4), .ref (pA 5), .ref (pA 6), .ref (pA 7), .ref (pA 8), .ref (pA 9), .ref (pA 10), .int (nI T), .int (nI Ac)], ia (pA 2) (pK 2) 7 (fun i => nI ((pg 2) i)), ia (pA 4) (pK 4) 7 (fun i => nI ((pg 4) i)), ia (pA 8) (pK 8) 4 (fun i => nI ((pg 8) i)), ia (pA 9) (pK 9) 6 (fun i => nI ((pg 9) i))] s.heap.size = A at hD1 ⊢
  have hA : ∀ q : Nat, s.heap.size ≤ q → A q := fun q h => by rw [← hAe]; exact Or.inr h
  have hD : dd A [xa, (xA 3), (xA 4), (xA 5), (xA 9), (xA 10), (xA 11), pa, (pA 2), (pA 4), (pA 8), (pA 9)] := dd_of hD1 rfl
  clear hAe hD0 hD1
  have hS : va_S A s.heap s.heap [] := va_S.rf
  replace hP : va_P (dC, dI) classes [oc xa 6 [.ref pa, .ref ga, .ref (xA 0), .ref (xA 1), .ref (xA 2), .ref (xA 3), .ref (xA 4), .ref (xA 5), .ref (xA 6), .ref (xA 7), .ref (xA 8), .ref (xA 9), .ref (xA 10), .ref (xA 11), .ref fa, .int (nI md), .int (nI mb)], ia (xA 3) (xK 3) 7 (fun i => nI ((sc 3) i)), ia (xA 4) (xK 4) 7 (fun i => nI ((sc 4) i)), ia (xA 5) (xK 5) 7 (fun i => nI ((sc 5) i)), ia (xA 9) (xK 9) 7 (fun i => nI ((sc 9) i)), ia (xA 10) (xK 10) 7 (fun i => nI ((sc 10) i)), ia (xA 11) (xK 11) 7 (fun i => nI ((sc 11) i)), oc pa 0 [.ref (pA 0), .ref (pA 1), .ref (pA 2), .ref (pA 3), .ref (pA 4), .ref (pA 5), .ref (pA 6), .ref (pA 7), .ref (pA 8), .ref (pA 9), .ref (pA 10), .int (nI T), .int (nI Ac)], ia (pA 2) (pK 2) 7 (fun i => nI ((pg 2) i)), ia (pA 4) (pK 4) 7 (fun i => nI ((pg 4) i)), ia (pA 8) (pK 8) 4 (fun i => nI ((pg 8) i)), ia (pA 9) (pK 9) 6 (fun i => nI ((pg 9) i))] s.heap := hP
  have hl := lv_entry ([.ref xa]) (n := 1) (Nat.le_of_ble_eq_true rfl)
  rw [lg_entry_eq]
  generalize (lg_sl ([.ref xa]) ++ List.replicate (1 - (lg_sl ([.ref xa])).length) Slot.unset).toArray = ls at hl ⊢
  replace hl : lv_has ls 1 [(0, .ref xa)] := hl
  have hPg3 := hPg
  obtain ⟨p1, p2, p3, p4, p5, p6, p7, p8, p9, p10, p11⟩ := hPg3
  refine lv_aload_n hx hb d_GraphSearch_stands_0 rfl (lv_at hl 0 rfl) ?_
  refine va_get (D := (dC, dI)) (ci := 6) (v := .int (nI md)) (C := R_GraphSearch) (T := F_GraphSearch) (N := 17) hx hb hw i_GraphSearch hown hK hP 0 rfl rfl 15 (by decide) (hw _ m_334) (fun _ h9 => h9) rfl d_GraphSearch_stands_1 ?_
  rcases (by omega : md = 0 ∨ md = 1 ∨ md = 2 ∨ md = 3) with hk | hk | hk | hk
  · skip
    refine tp_i (y := 0) (by rw [hk]; rfl) ?_
    refine lv_lookup (x := 0) (off := 28) (tgt := 32) hx hb d_GraphSearch_stands_4 (by decide) (by decide) (by decide) ?_
    refine tp_pc (pc' := 32) (by rfl) ?_
    refine lv_aload_n hx hb d_GraphSearch_stands_32 rfl (lv_at hl 0 rfl) ?_
    refine lv_aload_n hx hb d_GraphSearch_stands_33 rfl (lv_at hl 0 rfl) ?_
    refine va_get (D := (dC, dI)) (ci := 6) (v := .ref (xA 3)) (C := R_GraphSearch) (T := F_GraphSearch) (N := 17) hx hb hw i_GraphSearch hown hK hP 0 rfl rfl 5 (by decide) (hw _ m_324) (fun _ h9 => h9) rfl d_GraphSearch_stands_34 ?_
    refine lv_aload_n hx hb d_GraphSearch_stands_37 rfl (lv_at hl 0 rfl) ?_
    refine va_get (D := (dC, dI)) (ci := 6) (v := .ref (xA 9)) (C := R_GraphSearch) (T := F_GraphSearch) (N := 17) hx hb hw i_GraphSearch hown hK hP 0 rfl rfl 11 (by decide) (hw _ m_330) (fun _ h9 => h9) rfl d_GraphSearch_stands_38 ?_
    refine lv_aload_n hx hb d_GraphSearch_stands_41 rfl (lv_at hl 0 rfl) ?_
    refine va_get (D := (dC, dI)) (ci := 6) (v := .int (nI mb)) (C := R_GraphSearch) (T := F_GraphSearch) (N := 17) hx hb hw i_GraphSearch hown hK hP 0 rfl rfl 16 (by decide) (hw _ m_335) (fun _ h9 => h9) rfl d_GraphSearch_stands_42 ?_
    obtain ⟨hPc, hDc, hFc⟩ := cut3 (wc := [oc xa 6 [.ref pa, .ref ga, .ref (xA 0), .ref (xA 1), .ref (xA 2), .ref (xA 3), .ref (xA 4), .ref (xA 5), .ref (xA 6), .ref (xA 7), .ref (xA 8), .ref (xA 9), .ref (xA 10), .ref (xA 11), .ref fa, .int (nI md), .int (nI mb)], ia (xA 3) (xK 3) 7 (fun i => nI ((sc 3) i)), ia (xA 9) (xK 9) 7 (fun i => nI ((sc 9) i)), oc pa 0 [.ref (pA 0), .ref (pA 1), .ref (pA 2), .ref (pA 3), .ref (pA 4), .ref (pA 5), .ref (pA 6), .ref (pA 7), .ref (pA 8), .ref (pA 9), .ref (pA 10), .int (nI T), .int (nI Ac)]]) hP hD rfl hS hA [0, 1, 4, 7] (by decide +kernel) rfl
    have hKc := hK.sub (tys' := [((xK 3), .int), ((xK 9), .int)]) [0, 3] rfl
    refine va_calli (va_runV (As := [.ref (xA 3), .ref (xA 9), .int (nI mb)]) (rest := []) ⟨hx, hb, hml, hown, hw⟩ (gen_GS_hasNoRing l dC dI pa pA pK T Ac pg nm xa ga fa xA xK md mb fm wm sc (xA 3) (xA 9) (xK 3) (xK 9) (sc 3) (sc 9) (mb) p2 hs3 (fun i _ => h9 i) hmb s.heap.size) (cw_V 3 hw g_GraphSearch_hasNoRing rfl rfl rfl (hw _ m_107) (hw _ m_816) (hw _ m_818) (hw _ m_42) (by decide +kernel) ⟨Nat.le_of_ble_eq_true rfl, Nat.le_of_ble_eq_true rfl⟩) ⟨fun a U g mk q => by obtain ⟨q0, q1, qP, qK, qD, qN⟩ := q; exact ⟨q0, q1, qP, va_K.moved (u := U) (U := U.calling g mk a) (Vm.Alike.refl U.vm) qK, qD, nw_call qN⟩, va_recv hKc hPc (ci := 6) (q0 := 0) rfl rfl, fun U hU hW => ⟨rfl, by rw [hU], by rw [hU]; exact hPc, va_K.moved hW.alike hKc, hDc.weaken (fun _ _ _ _ => trivial), nw_warm hW hn⟩⟩ rfl rfl hl.1 rfl (lv_room (Nat.le_of_ble_eq_true rfl)) d_GraphSearch_stands_45 ⟨Nat.le_of_ble_eq_true rfl, Nat.le_of_ble_eq_true rfl⟩) hS (fun q _ h => hFc q h) hFc ?_
    intro r_1 u t9 H1 locs1 ht9 hvm hw1 hB hz1 hk1 hS1
    obtain ⟨hP1, hK1, hD1⟩ := hB
    rw [ht9] at hP1
    replace hK1 := va_K.moved hvm.symm hK1
    have hPD := join3 hP hD rfl [0, 1, 4, 7] [2, 3, 5, 6, 8, 9, 10, 11] rfl (by rfl) (by decide +kernel) (by decide +kernel) hk1 hFc hP1 hD1
    replace hK : va_K (dC, dI) classes [((xK 3), .int), ((xK 4), .int), ((xK 5), .int), ((xK 9), .int), ((xK 10), .int), ((xK 11), .int), ((pK 2), .int), ((pK 4), .int), ((pK 8), .int), ((pK 9), .int)] s := hK.app hK1
    clear hP1 hK1 hD1 hk1 hz1 hFc hKc hDc hPc hvm ht9 hP hS t9
    have hP : va_P (dC, dI) classes [ia (xA 4) (xK 4) 7 (fun i => nI ((sc 4) i)), ia (xA 5) (xK 5) 7 (fun i => nI ((sc 5) i)), ia (xA 10) (xK 10) 7 (fun i => nI ((sc 10) i)), ia (xA 11) (xK 11) 7 (fun i => nI ((sc 11) i)), ia (pA 2) (pK 2) 7 (fun i => nI ((pg 2) i)), ia (pA 4) (pK 4) 7 (fun i => nI ((pg 4) i)), ia (pA 8) (pK 8) 4 (fun i => nI ((pg 8) i)), ia (pA 9) (pK 9) 6 (fun i => nI ((pg 9) i)), oc xa 6 [.ref pa, .ref ga, .ref (xA 0), .ref (xA 1), .ref (xA 2), .ref (xA 3), .ref (xA 4), .ref (xA 5), .ref (xA 6), .ref (xA 7), .ref (xA 8), .ref (xA 9), .ref (xA 10), .ref (xA 11), .ref fa, .int (nI md), .int (nI mb)], ia (xA 3) (xK 3) 7 (fun i => nI ((sc 3) i)), ia (xA 9) (xK 9) 7 (fun i => nI ((sc 9) i)), oc pa 0 [.ref (pA 0), .ref (pA 1), .ref (pA 2), .ref (pA 3), .ref (pA 4), .ref (pA 5), .ref (pA 6), .ref (pA 7), .ref (pA 8), .ref (pA 9), .ref (pA 10), .int (nI T), .int (nI Ac)]] H1 := hPD.1
    replace hD : dd A [(xA 4), (xA 5), (xA 10), (xA 11), (pA 2), (pA 4), (pA 8), (pA 9), xa, (xA 3), (xA 9), pa] := dd_of hPD.2 rfl
    clear hPD
    revert H1 locs1
    intro H locs hS hP
    refine tp_i (y := (if itR (sc 3) (sc 9) Ac 7 (mb) = 0 then 1 else 0)) (hw1) ?_
    clear hw1 r_1 u
    rw [show (fun i => nI (sc 10 i)) = fun i => nI (ouG pg md Ac sc i) from by rw [ouG, if_pos (by omega)]] at hP
    replace hP : va_P (dC, dI) classes [ia (xA 4) (xK 4) 7 (fun i => nI ((sc 4) i)), ia (xA 5) (xK 5) 7 (fun i => nI ((sc 5) i)), ia (xA 10) (xK 10) 7 (fun i => nI ((ouG pg md Ac sc) i)), ia (xA 11) (xK 11) 7 (fun i => nI ((sc 11) i)), ia (pA 2) (pK 2) 7 (fun i => nI ((pg 2) i)), ia (pA 4) (pK 4) 7 (fun i => nI ((pg 4) i)), ia (pA 8) (pK 8) 4 (fun i => nI ((pg 8) i)), ia (pA 9) (pK 9) 6 (fun i => nI ((pg 9) i)), oc xa 6 [.ref pa, .ref ga, .ref (xA 0), .ref (xA 1), .ref (xA 2), .ref (xA 3), .ref (xA 4), .ref (xA 5), .ref (xA 6), .ref (xA 7), .ref (xA 8), .ref (xA 9), .ref (xA 10), .ref (xA 11), .ref fa, .int (nI md), .int (nI mb)], ia (xA 3) (xK 3) 7 (fun i => nI ((sc 3) i)), ia (xA 9) (xK 9) 7 (fun i => nI ((sc 9) i)), oc pa 0 [.ref (pA 0), .ref (pA 1), .ref (pA 2), .ref (pA 3), .ref (pA 4), .ref (pA 5), .ref (pA 6), .ref (pA 7), .ref (pA 8), .ref (pA 9), .ref (pA 10), .int (nI T), .int (nI Ac)]] H := hP
    by_cases q0 : itR (sc 3) (sc 9) Ac 7 mb = 0
    · skip
      rw [if_pos q0]
      refine tp_pc (pc' := 48) (by rfl) ?_
      obtain ⟨hP9, hD9, -⟩ := cut3 (wc := [oc xa 6 [.ref pa, .ref ga, .ref (xA 0), .ref (xA 1), .ref (xA 2), .ref (xA 3), .ref (xA 4), .ref (xA 5), .ref (xA 6), .ref (xA 7), .ref (xA 8), .ref (xA 9), .ref (xA 10), .ref (xA 11), .ref fa, .int (nI md), .int (nI mb)], ia (xA 3) (xK 3) 7 (fun i => nI ((sc 3) i)), ia (xA 4) (xK 4) 7 (fun i => nI ((sc 4) i)), ia (xA 5) (xK 5) 7 (fun i => nI ((sc 5) i)), ia (xA 9) (xK 9) 7 (fun i => nI ((sc 9) i)), ia (xA 10) (xK 10) 7 (fun i => nI ((ouG pg md Ac sc) i)), ia (xA 11) (xK 11) 7 (fun i => nI ((sc 11) i)), oc pa 0 [.ref (pA 0), .ref (pA 1), .ref (pA 2), .ref (pA 3), .ref (pA 4), .ref (pA 5), .ref (pA 6), .ref (pA 7), .ref (pA 8), .ref (pA 9), .ref (pA 10), .int (nI T), .int (nI Ac)], ia (pA 2) (pK 2) 7 (fun i => nI ((pg 2) i)), ia (pA 4) (pK 4) 7 (fun i => nI ((pg 4) i)), ia (pA 8) (pK 8) 4 (fun i => nI ((pg 8) i)), ia (pA 9) (pK 9) 6 (fun i => nI ((pg 9) i))]) hP hD rfl hS hA [8, 9, 0, 1, 10, 2, 3, 11, 4, 5, 6, 7] (by decide +kernel) rfl
      have hK9 := hK.sub (tys' := []) [] rfl
      refine W.widen (k := 0) (n := 0) (by exact Nat.le_of_ble_eq_true rfl) (by exact Nat.le_of_ble_eq_true rfl) ?_
      exact W.zret (v := 1) (ty := .boolean) hx hb hr (by decide) (fun t9 ht9 hW => ⟨⟨1, (), rfl, by rw [stB, if_pos hk, decide_eq_true q0]; rfl, by rw [ht9]; exact hP9, va_K.moved hW.alike hK9, hD9⟩, hS.F ht9⟩) hS.2.2 d_GraphSearch_stands_48
    · skip
      rw [if_neg q0]
      refine tp_pc (pc' := 48) (by rfl) ?_
      obtain ⟨hP9, hD9, -⟩ := cut3 (wc := [oc xa 6 [.ref pa, .ref ga, .ref (xA 0), .ref (xA 1), .ref (xA 2), .ref (xA 3), .ref (xA 4), .ref (xA 5), .ref (xA 6), .ref (xA 7), .ref (xA 8), .ref (xA 9), .ref (xA 10), .ref (xA 11), .ref fa, .int (nI md), .int (nI mb)], ia (xA 3) (xK 3) 7 (fun i => nI ((sc 3) i)), ia (xA 4) (xK 4) 7 (fun i => nI ((sc 4) i)), ia (xA 5) (xK 5) 7 (fun i => nI ((sc 5) i)), ia (xA 9) (xK 9) 7 (fun i => nI ((sc 9) i)), ia (xA 10) (xK 10) 7 (fun i => nI ((ouG pg md Ac sc) i)), ia (xA 11) (xK 11) 7 (fun i => nI ((sc 11) i)), oc pa 0 [.ref (pA 0), .ref (pA 1), .ref (pA 2), .ref (pA 3), .ref (pA 4), .ref (pA 5), .ref (pA 6), .ref (pA 7), .ref (pA 8), .ref (pA 9), .ref (pA 10), .int (nI T), .int (nI Ac)], ia (pA 2) (pK 2) 7 (fun i => nI ((pg 2) i)), ia (pA 4) (pK 4) 7 (fun i => nI ((pg 4) i)), ia (pA 8) (pK 8) 4 (fun i => nI ((pg 8) i)), ia (pA 9) (pK 9) 6 (fun i => nI ((pg 9) i))]) hP hD rfl hS hA [8, 9, 0, 1, 10, 2, 3, 11, 4, 5, 6, 7] (by decide +kernel) rfl
      have hK9 := hK.sub (tys' := []) [] rfl
      refine W.widen (k := 0) (n := 0) (by exact Nat.le_of_ble_eq_true rfl) (by exact Nat.le_of_ble_eq_true rfl) ?_
      exact W.zret (v := 0) (ty := .boolean) hx hb hr (by decide) (fun t9 ht9 hW => ⟨⟨0, (), rfl, by rw [stB, if_pos hk, decide_eq_false q0]; rfl, by rw [ht9]; exact hP9, va_K.moved hW.alike hK9, hD9⟩, hS.F ht9⟩) hS.2.2 d_GraphSearch_stands_48
  · skip
    refine tp_i (y := 1) (by rw [hk]; rfl) ?_
    refine lv_lookup (x := 1) (off := 50) (tgt := 54) hx hb d_GraphSearch_stands_4 (by decide) (by decide) (by decide) ?_
    refine tp_pc (pc' := 54) (by rfl) ?_
    refine lv_aload_n hx hb d_GraphSearch_stands_54 rfl (lv_at hl 0 rfl) ?_
    obtain ⟨hPc, hDc, hFc⟩ := cut3 (wc := [oc xa 6 [.ref pa, .ref ga, .ref (xA 0), .ref (xA 1), .ref (xA 2), .ref (xA 3), .ref (xA 4), .ref (xA 5), .ref (xA 6), .ref (xA 7), .ref (xA 8), .ref (xA 9), .ref (xA 10), .ref (xA 11), .ref fa, .int (nI md), .int (nI mb)], ia (xA 9) (xK 9) 7 (fun i => nI ((sc 9) i)), ia (xA 10) (xK 10) 7 (fun i => nI ((sc 10) i)), oc pa 0 [.ref (pA 0), .ref (pA 1), .ref (pA 2), .ref (pA 3), .ref (pA 4), .ref (pA 5), .ref (pA 6), .ref (pA 7), .ref (pA 8), .ref (pA 9), .ref (pA 10), .int (nI T), .int (nI Ac)], ia (pA 2) (pK 2) 7 (fun i => nI ((pg 2) i)), ia (pA 4) (pK 4) 7 (fun i => nI ((pg 4) i)), ia (pA 8) (pK 8) 4 (fun i => nI ((pg 8) i))]) hP hD rfl hS hA [0, 4, 5, 7, 8, 9, 10] (by decide +kernel) rfl
    have hKc := hK.sub (tys' := [((xK 9), .int), ((xK 10), .int), ((pK 2), .int), ((pK 4), .int), ((pK 8), .int)]) [3, 4, 6, 7, 8] rfl
    refine va_callv (va_runV (As := []) (rest := []) ⟨hx, hb, hml, hown, hw⟩ (gen_GS_tellOuter l dC dI pa pA pK T Ac pg nm xa ga fa xA xK md mb fm wm sc hPg h9 s.heap.size) (cw_V 0 hw g_GraphSearch_tellOuter rfl rfl rfl (hw _ m_107) (hw _ m_824) (hw _ m_826) (hw _ m_44) (by decide +kernel) ⟨Nat.le_of_ble_eq_true rfl, Nat.le_of_ble_eq_true rfl⟩) ⟨fun a U g mk q => by obtain ⟨q0, q1, qP, qK, qD, qN⟩ := q; exact ⟨q0, q1, qP, va_K.moved (u := U) (U := U.calling g mk a) (Vm.Alike.refl U.vm) qK, qD, nw_call qN⟩, va_recv hKc hPc (ci := 6) (q0 := 0) rfl rfl, fun U hU hW => ⟨rfl, by rw [hU], by rw [hU]; exact hPc, va_K.moved hW.alike hKc, hDc.weaken (fun _ _ _ _ => trivial), nw_warm hW hn⟩⟩ rfl rfl hl.1 rfl (lv_room (Nat.le_of_ble_eq_true rfl)) d_GraphSearch_stands_55 ⟨Nat.le_of_ble_eq_true rfl, Nat.le_of_ble_eq_true rfl⟩) hS (fun q _ h => hFc q h) hFc ?_
    intro u t9 H1 locs1 ht9 hvm hw1 hB hz1 hk1 hS1
    obtain ⟨hP1, hK1, hD1⟩ := hB
    rw [ht9] at hP1
    replace hK1 := va_K.moved hvm.symm hK1
    have hPD := join3 hP hD rfl [0, 4, 5, 7, 8, 9, 10] [1, 2, 3, 6, 11] rfl (by rfl) (by decide +kernel) (by decide +kernel) hk1 hFc hP1 hD1
    replace hK : va_K (dC, dI) classes [((xK 3), .int), ((xK 4), .int), ((xK 5), .int), ((xK 9), .int), ((xK 10), .int), ((xK 11), .int), ((pK 2), .int), ((pK 4), .int), ((pK 8), .int), ((pK 9), .int)] s := hK.app hK1
    clear hP1 hK1 hD1 hk1 hz1 hFc hKc hDc hPc hvm ht9 hP hS t9
    have hP : va_P (dC, dI) classes [ia (xA 3) (xK 3) 7 (fun i => nI ((sc 3) i)), ia (xA 4) (xK 4) 7 (fun i => nI ((sc 4) i)), ia (xA 5) (xK 5) 7 (fun i => nI ((sc 5) i)), ia (xA 11) (xK 11) 7 (fun i => nI ((sc 11) i)), ia (pA 9) (pK 9) 6 (fun i => nI ((pg 9) i)), oc xa 6 [.ref pa, .ref ga, .ref (xA 0), .ref (xA 1), .ref (xA 2), .ref (xA 3), .ref (xA 4), .ref (xA 5), .ref (xA 6), .ref (xA 7), .ref (xA 8), .ref (xA 9), .ref (xA 10), .ref (xA 11), .ref fa, .int (nI md), .int (nI mb)], ia (xA 9) (xK 9) 7 (fun i => nI ((sc 9) i)), ia (xA 10) (xK 10) 7 (fun i => nI ((tuN pg (sc 9) (sc 10) Ac) i)), oc pa 0 [.ref (pA 0), .ref (pA 1), .ref (pA 2), .ref (pA 3), .ref (pA 4), .ref (pA 5), .ref (pA 6), .ref (pA 7), .ref (pA 8), .ref (pA 9), .ref (pA 10), .int (nI T), .int (nI Ac)], ia (pA 2) (pK 2) 7 (fun i => nI ((pg 2) i)), ia (pA 4) (pK 4) 7 (fun i => nI ((pg 4) i)), ia (pA 8) (pK 8) 4 (fun i => nI ((pg 8) i))] H1 := hPD.1
    replace hD : dd A [(xA 3), (xA 4), (xA 5), (xA 11), (pA 9), xa, (xA 9), (xA 10), pa, (pA 2), (pA 4), (pA 8)] := dd_of hPD.2 rfl
    clear hPD
    revert H1 locs1
    intro H locs hS hP
    clear hw1 u
    have hou : ouG pg md Ac sc = tuN pg (sc 9) (sc 10) Ac := by rw [ouG, if_neg (by omega)]
    rw [← hou] at hP
    have ho8 : ∀ i, ouG pg md Ac sc i < 128 := by rw [hou]; exact tuN_lt h9 h10 Ac
    refine tp_pc (pc' := 58) (by rfl) ?_
    refine lv_aload_n hx hb d_GraphSearch_stands_58 rfl (lv_at hl 0 rfl) ?_
    refine lv_aload_n hx hb d_GraphSearch_stands_59 rfl (lv_at hl 0 rfl) ?_
    refine va_get (D := (dC, dI)) (ci := 6) (v := .ref (xA 4)) (C := R_GraphSearch) (T := F_GraphSearch) (N := 17) hx hb hw i_GraphSearch hown hK hP 5 rfl rfl 6 (by decide) (hw _ m_325) (fun _ h9 => h9) rfl d_GraphSearch_stands_60 ?_
    refine lv_aload_n hx hb d_GraphSearch_stands_63 rfl (lv_at hl 0 rfl) ?_
    refine va_get (D := (dC, dI)) (ci := 6) (v := .ref (xA 9)) (C := R_GraphSearch) (T := F_GraphSearch) (N := 17) hx hb hw i_GraphSearch hown hK hP 5 rfl rfl 11 (by decide) (hw _ m_330) (fun _ h9 => h9) rfl d_GraphSearch_stands_64 ?_
    refine lv_aload_n hx hb d_GraphSearch_stands_67 rfl (lv_at hl 0 rfl) ?_
    refine va_get (D := (dC, dI)) (ci := 6) (v := .int (nI mb)) (C := R_GraphSearch) (T := F_GraphSearch) (N := 17) hx hb hw i_GraphSearch hown hK hP 5 rfl rfl 16 (by decide) (hw _ m_335) (fun _ h9 => h9) rfl d_GraphSearch_stands_68 ?_
    refine lv_aload_n hx hb d_GraphSearch_stands_71 rfl (lv_at hl 0 rfl) ?_
    refine va_get (D := (dC, dI)) (ci := 6) (v := .ref pa) (C := R_GraphSearch) (T := F_GraphSearch) (N := 17) hx hb hw i_GraphSearch hown hK hP 5 rfl rfl 0 (by decide) (hw _ m_319) (fun _ h9 => h9) rfl d_GraphSearch_stands_72 ?_
    refine va_get (D := (dC, dI)) (ci := 0) (v := .ref (pA 9)) (C := R_Program) (T := F_Program) (N := 13) hx hb hw i_Program hown hK hP 8 rfl rfl 9 (by decide) (hw _ m_156) (fun _ h9 => h9) rfl d_GraphSearch_stands_75 ?_
    refine lv_iconst (v := 4) hx hb d_GraphSearch_stands_78 (by decide) ?_
    refine va_iald (D := (dC, dI)) hx hb hK hP 4 9 rfl rfl (i := 4) (pk_in 4 6 (by omega)) d_GraphSearch_stands_79 ?_
    refine tp_i (y := nI ((pg 9) 4)) (by rw [show (4 : Int32).toNatClampNeg = 4 from pk_cl 4]) ?_
    refine lv_iconst (v := (-1)) hx hb d_GraphSearch_stands_80 (by decide) ?_
    refine lv_ixor hx hb d_GraphSearch_stands_81 ?_
    refine tp_i (y := (nI ((pg 9) 4)) ^^^ (-1)) rfl ?_
    refine lv_iand hx hb d_GraphSearch_stands_82 ?_
    refine tp_i (y := (nI mb) &&& ((nI ((pg 9) 4)) ^^^ (-1))) rfl ?_
    refine tp_i (y := nI (andn mb (pg 9 4))) (andn_eq _ hmb _ (p7 4)) ?_
    obtain ⟨hPc, hDc, hFc⟩ := cut3 (wc := [oc xa 6 [.ref pa, .ref ga, .ref (xA 0), .ref (xA 1), .ref (xA 2), .ref (xA 3), .ref (xA 4), .ref (xA 5), .ref (xA 6), .ref (xA 7), .ref (xA 8), .ref (xA 9), .ref (xA 10), .ref (xA 11), .ref fa, .int (nI md), .int (nI mb)], ia (xA 4) (xK 4) 7 (fun i => nI ((sc 4) i)), ia (xA 9) (xK 9) 7 (fun i => nI ((sc 9) i)), oc pa 0 [.ref (pA 0), .ref (pA 1), .ref (pA 2), .ref (pA 3), .ref (pA 4), .ref (pA 5), .ref (pA 6), .ref (pA 7), .ref (pA 8), .ref (pA 9), .ref (pA 10), .int (nI T), .int (nI Ac)]]) hP hD rfl hS hA [5, 1, 6, 8] (by decide +kernel) rfl
    have hKc := hK.sub (tys' := [((xK 4), .int), ((xK 9), .int)]) [1, 3] rfl
    refine va_calli (va_runV (As := [.ref (xA 4), .ref (xA 9), .int (nI (andn mb (pg 9 4)))]) (rest := []) ⟨hx, hb, hml, hown, hw⟩ (gen_GS_hasNoRing l dC dI pa pA pK T Ac pg nm xa ga fa xA xK md mb fm wm sc (xA 4) (xA 9) (xK 4) (xK 9) (sc 4) (sc 9) (andn mb (pg 9 4)) p2 hs4 (fun i _ => h9 i) (andn_lt hmb) H.size) (cw_V 3 hw g_GraphSearch_hasNoRing rfl rfl rfl (hw _ m_107) (hw _ m_816) (hw _ m_818) (hw _ m_42) (by decide +kernel) ⟨Nat.le_of_ble_eq_true rfl, Nat.le_of_ble_eq_true rfl⟩) ⟨fun a U g mk q => by obtain ⟨q0, q1, qP, qK, qD, qN⟩ := q; exact ⟨q0, q1, qP, va_K.moved (u := U) (U := U.calling g mk a) (Vm.Alike.refl U.vm) qK, qD, nw_call qN⟩, va_recv hKc hPc (ci := 6) (q0 := 0) rfl rfl, fun U hU hW => ⟨rfl, by rw [hU], by rw [hU]; exact hPc, va_K.moved hW.alike hKc, hDc.weaken (fun _ _ _ _ => trivial), nw_warm hW hn⟩⟩ rfl rfl hl.1 rfl (lv_room (Nat.le_of_ble_eq_true rfl)) d_GraphSearch_stands_83 ⟨Nat.le_of_ble_eq_true rfl, Nat.le_of_ble_eq_true rfl⟩) hS (fun q _ h => hFc q h) hFc ?_
    intro r_3 u t9 H1 locs1 ht9 hvm hw1 hB hz1 hk1 hS1
    obtain ⟨hP1, hK1, hD1⟩ := hB
    rw [ht9] at hP1
    replace hK1 := va_K.moved hvm.symm hK1
    have hPD := join3 hP hD rfl [5, 1, 6, 8] [0, 2, 3, 4, 7, 9, 10, 11] rfl (by rfl) (by decide +kernel) (by decide +kernel) hk1 hFc hP1 hD1
    replace hK : va_K (dC, dI) classes [((xK 3), .int), ((xK 4), .int), ((xK 5), .int), ((xK 9), .int), ((xK 10), .int), ((xK 11), .int), ((pK 2), .int), ((pK 4), .int), ((pK 8), .int), ((pK 9), .int)] s := hK.app hK1
    clear hP1 hK1 hD1 hk1 hz1 hFc hKc hDc hPc hvm ht9 hP hS t9 locs H
    have hP : va_P (dC, dI) classes [ia (xA 3) (xK 3) 7 (fun i => nI ((sc 3) i)), ia (xA 5) (xK 5) 7 (fun i => nI ((sc 5) i)), ia (xA 11) (xK 11) 7 (fun i => nI ((sc 11) i)), ia (pA 9) (pK 9) 6 (fun i => nI ((pg 9) i)), ia (xA 10) (xK 10) 7 (fun i => nI ((ouG pg md Ac sc) i)), ia (pA 2) (pK 2) 7 (fun i => nI ((pg 2) i)), ia (pA 4) (pK 4) 7 (fun i => nI ((pg 4) i)), ia (pA 8) (pK 8) 4 (fun i => nI ((pg 8) i)), oc xa 6 [.ref pa, .ref ga, .ref (xA 0), .ref (xA 1), .ref (xA 2), .ref (xA 3), .ref (xA 4), .ref (xA 5), .ref (xA 6), .ref (xA 7), .ref (xA 8), .ref (xA 9), .ref (xA 10), .ref (xA 11), .ref fa, .int (nI md), .int (nI mb)], ia (xA 4) (xK 4) 7 (fun i => nI ((sc 4) i)), ia (xA 9) (xK 9) 7 (fun i => nI ((sc 9) i)), oc pa 0 [.ref (pA 0), .ref (pA 1), .ref (pA 2), .ref (pA 3), .ref (pA 4), .ref (pA 5), .ref (pA 6), .ref (pA 7), .ref (pA 8), .ref (pA 9), .ref (pA 10), .int (nI T), .int (nI Ac)]] H1 := hPD.1
    replace hD : dd A [(xA 3), (xA 5), (xA 11), (pA 9), (xA 10), (pA 2), (pA 4), (pA 8), xa, (xA 4), (xA 9), pa] := dd_of hPD.2 rfl
    clear hPD
    revert H1 locs1
    intro H locs hS hP
    refine tp_i (y := (if itR (sc 4) (sc 9) Ac 7 (andn mb (pg 9 4)) = 0 then 1 else 0)) (hw1) ?_
    clear hw1 r_3 u
    have hsB : stB pg md Ac mb sc = (decide (itR (sc 4) (sc 9) Ac 7 (andn mb (pg 9 4)) = 0) && decide (itR (sc 5) (ouG pg md Ac sc) Ac 7 mb = 0)) := by rw [stB, if_neg (by omega : ¬ md = 0), if_neg (by omega : ¬ md = 3), hou]
    rw [hsB]
    by_cases q1 : itR (sc 4) (sc 9) Ac 7 (andn mb (pg 9 4)) = 0
    · skip
      rw [if_pos q1]
      refine tp_pc (pc' := 86) (by rfl) ?_
      refine lv_if_eq (tgt := 112) hx hb d_GraphSearch_stands_86 (by decide) (fun c_4 => absurd c_4 (by decide)) (fun c_4 => ?_)
      refine tp_pc (pc' := 89) (by rfl) ?_
      refine lv_aload_n hx hb d_GraphSearch_stands_89 rfl (lv_at hl 0 rfl) ?_
      refine lv_aload_n hx hb d_GraphSearch_stands_90 rfl (lv_at hl 0 rfl) ?_
      refine va_get (D := (dC, dI)) (ci := 6) (v := .ref (xA 5)) (C := R_GraphSearch) (T := F_GraphSearch) (N := 17) hx hb hw i_GraphSearch hown hK hP 8 rfl rfl 7 (by decide) (hw _ m_326) (fun _ h9 => h9) rfl d_GraphSearch_stands_91 ?_
      refine lv_aload_n hx hb d_GraphSearch_stands_94 rfl (lv_at hl 0 rfl) ?_
      refine va_get (D := (dC, dI)) (ci := 6) (v := .ref (xA 10)) (C := R_GraphSearch) (T := F_GraphSearch) (N := 17) hx hb hw i_GraphSearch hown hK hP 8 rfl rfl 12 (by decide) (hw _ m_331) (fun _ h9 => h9) rfl d_GraphSearch_stands_95 ?_
      refine lv_aload_n hx hb d_GraphSearch_stands_98 rfl (lv_at hl 0 rfl) ?_
      refine va_get (D := (dC, dI)) (ci := 6) (v := .int (nI mb)) (C := R_GraphSearch) (T := F_GraphSearch) (N := 17) hx hb hw i_GraphSearch hown hK hP 8 rfl rfl 16 (by decide) (hw _ m_335) (fun _ h9 => h9) rfl d_GraphSearch_stands_99 ?_
      obtain ⟨hPc, hDc, hFc⟩ := cut3 (wc := [oc xa 6 [.ref pa, .ref ga, .ref (xA 0), .ref (xA 1), .ref (xA 2), .ref (xA 3), .ref (xA 4), .ref (xA 5), .ref (xA 6), .ref (xA 7), .ref (xA 8), .ref (xA 9), .ref (xA 10), .ref (xA 11), .ref fa, .int (nI md), .int (nI mb)], ia (xA 5) (xK 5) 7 (fun i => nI ((sc 5) i)), ia (xA 10) (xK 10) 7 (fun i => nI ((ouG pg md Ac sc) i)), oc pa 0 [.ref (pA 0), .ref (pA 1), .ref (pA 2), .ref (pA 3), .ref (pA 4), .ref (pA 5), .ref (pA 6), .ref (pA 7), .ref (pA 8), .ref (pA 9), .ref (pA 10), .int (nI T), .int (nI Ac)]]) hP hD rfl hS hA [8, 1, 4, 11] (by decide +kernel) rfl
      have hKc := hK.sub (tys' := [((xK 5), .int), ((xK 10), .int)]) [2, 4] rfl
      refine va_calli (va_runV (As := [.ref (xA 5), .ref (xA 10), .int (nI mb)]) (rest := []) ⟨hx, hb, hml, hown, hw⟩ (gen_GS_hasNoRing l dC dI pa pA pK T Ac pg nm xa ga fa xA xK md mb fm wm sc (xA 5) (xA 10) (xK 5) (xK 10) (sc 5) (ouG pg md Ac sc) (mb) p2 hs5 (fun i _ => ho8 i) hmb H.size) (cw_V 3 hw g_GraphSearch_hasNoRing rfl rfl rfl (hw _ m_107) (hw _ m_816) (hw _ m_818) (hw _ m_42) (by decide +kernel) ⟨Nat.le_of_ble_eq_true rfl, Nat.le_of_ble_eq_true rfl⟩) ⟨fun a U g mk q => by obtain ⟨q0, q1, qP, qK, qD, qN⟩ := q; exact ⟨q0, q1, qP, va_K.moved (u := U) (U := U.calling g mk a) (Vm.Alike.refl U.vm) qK, qD, nw_call qN⟩, va_recv hKc hPc (ci := 6) (q0 := 0) rfl rfl, fun U hU hW => ⟨rfl, by rw [hU], by rw [hU]; exact hPc, va_K.moved hW.alike hKc, hDc.weaken (fun _ _ _ _ => trivial), nw_warm hW hn⟩⟩ rfl rfl hl.1 rfl (lv_room (Nat.le_of_ble_eq_true rfl)) d_GraphSearch_stands_102 ⟨Nat.le_of_ble_eq_true rfl, Nat.le_of_ble_eq_true rfl⟩) hS (fun q _ h => hFc q h) hFc ?_
      intro r_5 u t9 H1 locs1 ht9 hvm hw1 hB hz1 hk1 hS1
      obtain ⟨hP1, hK1, hD1⟩ := hB
      rw [ht9] at hP1
      replace hK1 := va_K.moved hvm.symm hK1
      have hPD := join3 hP hD rfl [8, 1, 4, 11] [0, 2, 3, 5, 6, 7, 9, 10] rfl (by rfl) (by decide +kernel) (by decide +kernel) hk1 hFc hP1 hD1
      replace hK : va_K (dC, dI) classes [((xK 3), .int), ((xK 4), .int), ((xK 5), .int), ((xK 9), .int), ((xK 10), .int), ((xK 11), .int), ((pK 2), .int), ((pK 4), .int), ((pK 8), .int), ((pK 9), .int)] s := hK.app hK1
      clear hP1 hK1 hD1 hk1 hz1 hFc hKc hDc hPc hvm ht9 hP hS t9 locs H
      have hP : va_P (dC, dI) classes [ia (xA 3) (xK 3) 7 (fun i => nI ((sc 3) i)), ia (xA 11) (xK 11) 7 (fun i => nI ((sc 11) i)), ia (pA 9) (pK 9) 6 (fun i => nI ((pg 9) i)), ia (pA 2) (pK 2) 7 (fun i => nI ((pg 2) i)), ia (pA 4) (pK 4) 7 (fun i => nI ((pg 4) i)), ia (pA 8) (pK 8) 4 (fun i => nI ((pg 8) i)), ia (xA 4) (xK 4) 7 (fun i => nI ((sc 4) i)), ia (xA 9) (xK 9) 7 (fun i => nI ((sc 9) i)), oc xa 6 [.ref pa, .ref ga, .ref (xA 0), .ref (xA 1), .ref (xA 2), .ref (xA 3), .ref (xA 4), .ref (xA 5), .ref (xA 6), .ref (xA 7), .ref (xA 8), .ref (xA 9), .ref (xA 10), .ref (xA 11), .ref fa, .int (nI md), .int (nI mb)], ia (xA 5) (xK 5) 7 (fun i => nI ((sc 5) i)), ia (xA 10) (xK 10) 7 (fun i => nI ((ouG pg md Ac sc) i)), oc pa 0 [.ref (pA 0), .ref (pA 1), .ref (pA 2), .ref (pA 3), .ref (pA 4), .ref (pA 5), .ref (pA 6), .ref (pA 7), .ref (pA 8), .ref (pA 9), .ref (pA 10), .int (nI T), .int (nI Ac)]] H1 := hPD.1
      replace hD : dd A [(xA 3), (xA 11), (pA 9), (pA 2), (pA 4), (pA 8), (xA 4), (xA 9), xa, (xA 5), (xA 10), pa] := dd_of hPD.2 rfl
      clear hPD
      revert H1 locs1
      intro H locs hS hP
      refine tp_i (y := (if itR (sc 5) (ouG pg md Ac sc) Ac 7 (mb) = 0 then 1 else 0)) (hw1) ?_
      clear hw1 r_5 u
      by_cases q2 : itR (sc 5) (ouG pg md Ac sc) Ac 7 mb = 0
      · skip
        rw [if_pos q2]
        refine tp_pc (pc' := 105) (by rfl) ?_
        refine lv_if_eq (tgt := 112) hx hb d_GraphSearch_stands_105 (by decide) (fun c_6 => absurd c_6 (by decide)) (fun c_6 => ?_)
        refine tp_pc (pc' := 108) (by rfl) ?_
        refine lv_iconst (v := 1) hx hb d_GraphSearch_stands_108 (by decide) ?_
        refine lv_goto (tgt := 113) hx hb d_GraphSearch_stands_109 (by decide) ?_
        refine tp_pc (pc' := 113) (by rfl) ?_
        obtain ⟨hP9, hD9, -⟩ := cut3 (wc := [oc xa 6 [.ref pa, .ref ga, .ref (xA 0), .ref (xA 1), .ref (xA 2), .ref (xA 3), .ref (xA 4), .ref (xA 5), .ref (xA 6), .ref (xA 7), .ref (xA 8), .ref (xA 9), .ref (xA 10), .ref (xA 11), .ref fa, .int (nI md), .int (nI mb)], ia (xA 3) (xK 3) 7 (fun i => nI ((sc 3) i)), ia (xA 4) (xK 4) 7 (fun i => nI ((sc 4) i)), ia (xA 5) (xK 5) 7 (fun i => nI ((sc 5) i)), ia (xA 9) (xK 9) 7 (fun i => nI ((sc 9) i)), ia (xA 10) (xK 10) 7 (fun i => nI ((ouG pg md Ac sc) i)), ia (xA 11) (xK 11) 7 (fun i => nI ((sc 11) i)), oc pa 0 [.ref (pA 0), .ref (pA 1), .ref (pA 2), .ref (pA 3), .ref (pA 4), .ref (pA 5), .ref (pA 6), .ref (pA 7), .ref (pA 8), .ref (pA 9), .ref (pA 10), .int (nI T), .int (nI Ac)], ia (pA 2) (pK 2) 7 (fun i => nI ((pg 2) i)), ia (pA 4) (pK 4) 7 (fun i => nI ((pg 4) i)), ia (pA 8) (pK 8) 4 (fun i => nI ((pg 8) i)), ia (pA 9) (pK 9) 6 (fun i => nI ((pg 9) i))]) hP hD rfl hS hA [8, 0, 6, 9, 7, 10, 1, 11, 3, 4, 5, 2] (by decide +kernel) rfl
        have hK9 := hK.sub (tys' := []) [] rfl
        refine W.widen (k := 0) (n := 0) (by exact Nat.le_of_ble_eq_true rfl) (by exact Nat.le_of_ble_eq_true rfl) ?_
        exact W.zret (v := 1) (ty := .boolean) hx hb hr (by decide) (fun t9 ht9 hW => ⟨⟨1, (), rfl, by rw [decide_eq_true q1, decide_eq_true q2]; rfl, by rw [ht9]; exact hP9, va_K.moved hW.alike hK9, hD9⟩, hS.F ht9⟩) hS.2.2 d_GraphSearch_stands_113
      · skip
        rw [if_neg q2]
        refine tp_pc (pc' := 105) (by rfl) ?_
        refine lv_if_eq (tgt := 112) hx hb d_GraphSearch_stands_105 (by decide) (fun c_7 => ?_) (fun c_7 => absurd c_7 (by decide))
        refine tp_pc (pc' := 112) (by rfl) ?_
        refine lv_iconst (v := 0) hx hb d_GraphSearch_stands_112 (by decide) ?_
        obtain ⟨hP9, hD9, -⟩ := cut3 (wc := [oc xa 6 [.ref pa, .ref ga, .ref (xA 0), .ref (xA 1), .ref (xA 2), .ref (xA 3), .ref (xA 4), .ref (xA 5), .ref (xA 6), .ref (xA 7), .ref (xA 8), .ref (xA 9), .ref (xA 10), .ref (xA 11), .ref fa, .int (nI md), .int (nI mb)], ia (xA 3) (xK 3) 7 (fun i => nI ((sc 3) i)), ia (xA 4) (xK 4) 7 (fun i => nI ((sc 4) i)), ia (xA 5) (xK 5) 7 (fun i => nI ((sc 5) i)), ia (xA 9) (xK 9) 7 (fun i => nI ((sc 9) i)), ia (xA 10) (xK 10) 7 (fun i => nI ((ouG pg md Ac sc) i)), ia (xA 11) (xK 11) 7 (fun i => nI ((sc 11) i)), oc pa 0 [.ref (pA 0), .ref (pA 1), .ref (pA 2), .ref (pA 3), .ref (pA 4), .ref (pA 5), .ref (pA 6), .ref (pA 7), .ref (pA 8), .ref (pA 9), .ref (pA 10), .int (nI T), .int (nI Ac)], ia (pA 2) (pK 2) 7 (fun i => nI ((pg 2) i)), ia (pA 4) (pK 4) 7 (fun i => nI ((pg 4) i)), ia (pA 8) (pK 8) 4 (fun i => nI ((pg 8) i)), ia (pA 9) (pK 9) 6 (fun i => nI ((pg 9) i))]) hP hD rfl hS hA [8, 0, 6, 9, 7, 10, 1, 11, 3, 4, 5, 2] (by decide +kernel) rfl
        have hK9 := hK.sub (tys' := []) [] rfl
        refine W.widen (k := 0) (n := 0) (by exact Nat.le_of_ble_eq_true rfl) (by exact Nat.le_of_ble_eq_true rfl) ?_
        exact W.zret (v := 0) (ty := .boolean) hx hb hr (by decide) (fun t9 ht9 hW => ⟨⟨0, (), rfl, by rw [decide_eq_false q2, Bool.and_false]; rfl, by rw [ht9]; exact hP9, va_K.moved hW.alike hK9, hD9⟩, hS.F ht9⟩) hS.2.2 d_GraphSearch_stands_113
    · skip
      rw [if_neg q1]
      refine tp_pc (pc' := 86) (by rfl) ?_
      refine lv_if_eq (tgt := 112) hx hb d_GraphSearch_stands_86 (by decide) (fun c_8 => ?_) (fun c_8 => absurd c_8 (by decide))
      refine tp_pc (pc' := 112) (by rfl) ?_
      refine lv_iconst (v := 0) hx hb d_GraphSearch_stands_112 (by decide) ?_
      obtain ⟨hP9, hD9, -⟩ := cut3 (wc := [oc xa 6 [.ref pa, .ref ga, .ref (xA 0), .ref (xA 1), .ref (xA 2), .ref (xA 3), .ref (xA 4), .ref (xA 5), .ref (xA 6), .ref (xA 7), .ref (xA 8), .ref (xA 9), .ref (xA 10), .ref (xA 11), .ref fa, .int (nI md), .int (nI mb)], ia (xA 3) (xK 3) 7 (fun i => nI ((sc 3) i)), ia (xA 4) (xK 4) 7 (fun i => nI ((sc 4) i)), ia (xA 5) (xK 5) 7 (fun i => nI ((sc 5) i)), ia (xA 9) (xK 9) 7 (fun i => nI ((sc 9) i)), ia (xA 10) (xK 10) 7 (fun i => nI ((ouG pg md Ac sc) i)), ia (xA 11) (xK 11) 7 (fun i => nI ((sc 11) i)), oc pa 0 [.ref (pA 0), .ref (pA 1), .ref (pA 2), .ref (pA 3), .ref (pA 4), .ref (pA 5), .ref (pA 6), .ref (pA 7), .ref (pA 8), .ref (pA 9), .ref (pA 10), .int (nI T), .int (nI Ac)], ia (pA 2) (pK 2) 7 (fun i => nI ((pg 2) i)), ia (pA 4) (pK 4) 7 (fun i => nI ((pg 4) i)), ia (pA 8) (pK 8) 4 (fun i => nI ((pg 8) i)), ia (pA 9) (pK 9) 6 (fun i => nI ((pg 9) i))]) hP hD rfl hS hA [8, 0, 9, 1, 10, 4, 2, 11, 5, 6, 7, 3] (by decide +kernel) rfl
      have hK9 := hK.sub (tys' := []) [] rfl
      refine W.widen (k := 0) (n := 0) (by exact Nat.le_of_ble_eq_true rfl) (by exact Nat.le_of_ble_eq_true rfl) ?_
      exact W.zret (v := 0) (ty := .boolean) hx hb hr (by decide) (fun t9 ht9 hW => ⟨⟨0, (), rfl, by rw [decide_eq_false q1, Bool.false_and]; rfl, by rw [ht9]; exact hP9, va_K.moved hW.alike hK9, hD9⟩, hS.F ht9⟩) hS.2.2 d_GraphSearch_stands_113
  · skip
    refine tp_i (y := 2) (by rw [hk]; rfl) ?_
    refine lv_lookup (x := 2) (off := 50) (tgt := 54) hx hb d_GraphSearch_stands_4 (by decide) (by decide) (by decide) ?_
    refine tp_pc (pc' := 54) (by rfl) ?_
    refine lv_aload_n hx hb d_GraphSearch_stands_54 rfl (lv_at hl 0 rfl) ?_
    obtain ⟨hPc, hDc, hFc⟩ := cut3 (wc := [oc xa 6 [.ref pa, .ref ga, .ref (xA 0), .ref (xA 1), .ref (xA 2), .ref (xA 3), .ref (xA 4), .ref (xA 5), .ref (xA 6), .ref (xA 7), .ref (xA 8), .ref (xA 9), .ref (xA 10), .ref (xA 11), .ref fa, .int (nI md), .int (nI mb)], ia (xA 9) (xK 9) 7 (fun i => nI ((sc 9) i)), ia (xA 10) (xK 10) 7 (fun i => nI ((sc 10) i)), oc pa 0 [.ref (pA 0), .ref (pA 1), .ref (pA 2), .ref (pA 3), .ref (pA 4), .ref (pA 5), .ref (pA 6), .ref (pA 7), .ref (pA 8), .ref (pA 9), .ref (pA 10), .int (nI T), .int (nI Ac)], ia (pA 2) (pK 2) 7 (fun i => nI ((pg 2) i)), ia (pA 4) (pK 4) 7 (fun i => nI ((pg 4) i)), ia (pA 8) (pK 8) 4 (fun i => nI ((pg 8) i))]) hP hD rfl hS hA [0, 4, 5, 7, 8, 9, 10] (by decide +kernel) rfl
    have hKc := hK.sub (tys' := [((xK 9), .int), ((xK 10), .int), ((pK 2), .int), ((pK 4), .int), ((pK 8), .int)]) [3, 4, 6, 7, 8] rfl
    refine va_callv (va_runV (As := []) (rest := []) ⟨hx, hb, hml, hown, hw⟩ (gen_GS_tellOuter l dC dI pa pA pK T Ac pg nm xa ga fa xA xK md mb fm wm sc hPg h9 s.heap.size) (cw_V 0 hw g_GraphSearch_tellOuter rfl rfl rfl (hw _ m_107) (hw _ m_824) (hw _ m_826) (hw _ m_44) (by decide +kernel) ⟨Nat.le_of_ble_eq_true rfl, Nat.le_of_ble_eq_true rfl⟩) ⟨fun a U g mk q => by obtain ⟨q0, q1, qP, qK, qD, qN⟩ := q; exact ⟨q0, q1, qP, va_K.moved (u := U) (U := U.calling g mk a) (Vm.Alike.refl U.vm) qK, qD, nw_call qN⟩, va_recv hKc hPc (ci := 6) (q0 := 0) rfl rfl, fun U hU hW => ⟨rfl, by rw [hU], by rw [hU]; exact hPc, va_K.moved hW.alike hKc, hDc.weaken (fun _ _ _ _ => trivial), nw_warm hW hn⟩⟩ rfl rfl hl.1 rfl (lv_room (Nat.le_of_ble_eq_true rfl)) d_GraphSearch_stands_55 ⟨Nat.le_of_ble_eq_true rfl, Nat.le_of_ble_eq_true rfl⟩) hS (fun q _ h => hFc q h) hFc ?_
    intro u t9 H1 locs1 ht9 hvm hw1 hB hz1 hk1 hS1
    obtain ⟨hP1, hK1, hD1⟩ := hB
    rw [ht9] at hP1
    replace hK1 := va_K.moved hvm.symm hK1
    have hPD := join3 hP hD rfl [0, 4, 5, 7, 8, 9, 10] [1, 2, 3, 6, 11] rfl (by rfl) (by decide +kernel) (by decide +kernel) hk1 hFc hP1 hD1
    replace hK : va_K (dC, dI) classes [((xK 3), .int), ((xK 4), .int), ((xK 5), .int), ((xK 9), .int), ((xK 10), .int), ((xK 11), .int), ((pK 2), .int), ((pK 4), .int), ((pK 8), .int), ((pK 9), .int)] s := hK.app hK1
    clear hP1 hK1 hD1 hk1 hz1 hFc hKc hDc hPc hvm ht9 hP hS t9
    have hP : va_P (dC, dI) classes [ia (xA 3) (xK 3) 7 (fun i => nI ((sc 3) i)), ia (xA 4) (xK 4) 7 (fun i => nI ((sc 4) i)), ia (xA 5) (xK 5) 7 (fun i => nI ((sc 5) i)), ia (xA 11) (xK 11) 7 (fun i => nI ((sc 11) i)), ia (pA 9) (pK 9) 6 (fun i => nI ((pg 9) i)), oc xa 6 [.ref pa, .ref ga, .ref (xA 0), .ref (xA 1), .ref (xA 2), .ref (xA 3), .ref (xA 4), .ref (xA 5), .ref (xA 6), .ref (xA 7), .ref (xA 8), .ref (xA 9), .ref (xA 10), .ref (xA 11), .ref fa, .int (nI md), .int (nI mb)], ia (xA 9) (xK 9) 7 (fun i => nI ((sc 9) i)), ia (xA 10) (xK 10) 7 (fun i => nI ((tuN pg (sc 9) (sc 10) Ac) i)), oc pa 0 [.ref (pA 0), .ref (pA 1), .ref (pA 2), .ref (pA 3), .ref (pA 4), .ref (pA 5), .ref (pA 6), .ref (pA 7), .ref (pA 8), .ref (pA 9), .ref (pA 10), .int (nI T), .int (nI Ac)], ia (pA 2) (pK 2) 7 (fun i => nI ((pg 2) i)), ia (pA 4) (pK 4) 7 (fun i => nI ((pg 4) i)), ia (pA 8) (pK 8) 4 (fun i => nI ((pg 8) i))] H1 := hPD.1
    replace hD : dd A [(xA 3), (xA 4), (xA 5), (xA 11), (pA 9), xa, (xA 9), (xA 10), pa, (pA 2), (pA 4), (pA 8)] := dd_of hPD.2 rfl
    clear hPD
    revert H1 locs1
    intro H locs hS hP
    clear hw1 u
    have hou : ouG pg md Ac sc = tuN pg (sc 9) (sc 10) Ac := by rw [ouG, if_neg (by omega)]
    rw [← hou] at hP
    have ho8 : ∀ i, ouG pg md Ac sc i < 128 := by rw [hou]; exact tuN_lt h9 h10 Ac
    refine tp_pc (pc' := 58) (by rfl) ?_
    refine lv_aload_n hx hb d_GraphSearch_stands_58 rfl (lv_at hl 0 rfl) ?_
    refine lv_aload_n hx hb d_GraphSearch_stands_59 rfl (lv_at hl 0 rfl) ?_
    refine va_get (D := (dC, dI)) (ci := 6) (v := .ref (xA 4)) (C := R_GraphSearch) (T := F_GraphSearch) (N := 17) hx hb hw i_GraphSearch hown hK hP 5 rfl rfl 6 (by decide) (hw _ m_325) (fun _ h9 => h9) rfl d_GraphSearch_stands_60 ?_
    refine lv_aload_n hx hb d_GraphSearch_stands_63 rfl (lv_at hl 0 rfl) ?_
    refine va_get (D := (dC, dI)) (ci := 6) (v := .ref (xA 9)) (C := R_GraphSearch) (T := F_GraphSearch) (N := 17) hx hb hw i_GraphSearch hown hK hP 5 rfl rfl 11 (by decide) (hw _ m_330) (fun _ h9 => h9) rfl d_GraphSearch_stands_64 ?_
    refine lv_aload_n hx hb d_GraphSearch_stands_67 rfl (lv_at hl 0 rfl) ?_
    refine va_get (D := (dC, dI)) (ci := 6) (v := .int (nI mb)) (C := R_GraphSearch) (T := F_GraphSearch) (N := 17) hx hb hw i_GraphSearch hown hK hP 5 rfl rfl 16 (by decide) (hw _ m_335) (fun _ h9 => h9) rfl d_GraphSearch_stands_68 ?_
    refine lv_aload_n hx hb d_GraphSearch_stands_71 rfl (lv_at hl 0 rfl) ?_
    refine va_get (D := (dC, dI)) (ci := 6) (v := .ref pa) (C := R_GraphSearch) (T := F_GraphSearch) (N := 17) hx hb hw i_GraphSearch hown hK hP 5 rfl rfl 0 (by decide) (hw _ m_319) (fun _ h9 => h9) rfl d_GraphSearch_stands_72 ?_
    refine va_get (D := (dC, dI)) (ci := 0) (v := .ref (pA 9)) (C := R_Program) (T := F_Program) (N := 13) hx hb hw i_Program hown hK hP 8 rfl rfl 9 (by decide) (hw _ m_156) (fun _ h9 => h9) rfl d_GraphSearch_stands_75 ?_
    refine lv_iconst (v := 4) hx hb d_GraphSearch_stands_78 (by decide) ?_
    refine va_iald (D := (dC, dI)) hx hb hK hP 4 9 rfl rfl (i := 4) (pk_in 4 6 (by omega)) d_GraphSearch_stands_79 ?_
    refine tp_i (y := nI ((pg 9) 4)) (by rw [show (4 : Int32).toNatClampNeg = 4 from pk_cl 4]) ?_
    refine lv_iconst (v := (-1)) hx hb d_GraphSearch_stands_80 (by decide) ?_
    refine lv_ixor hx hb d_GraphSearch_stands_81 ?_
    refine tp_i (y := (nI ((pg 9) 4)) ^^^ (-1)) rfl ?_
    refine lv_iand hx hb d_GraphSearch_stands_82 ?_
    refine tp_i (y := (nI mb) &&& ((nI ((pg 9) 4)) ^^^ (-1))) rfl ?_
    refine tp_i (y := nI (andn mb (pg 9 4))) (andn_eq _ hmb _ (p7 4)) ?_
    obtain ⟨hPc, hDc, hFc⟩ := cut3 (wc := [oc xa 6 [.ref pa, .ref ga, .ref (xA 0), .ref (xA 1), .ref (xA 2), .ref (xA 3), .ref (xA 4), .ref (xA 5), .ref (xA 6), .ref (xA 7), .ref (xA 8), .ref (xA 9), .ref (xA 10), .ref (xA 11), .ref fa, .int (nI md), .int (nI mb)], ia (xA 4) (xK 4) 7 (fun i => nI ((sc 4) i)), ia (xA 9) (xK 9) 7 (fun i => nI ((sc 9) i)), oc pa 0 [.ref (pA 0), .ref (pA 1), .ref (pA 2), .ref (pA 3), .ref (pA 4), .ref (pA 5), .ref (pA 6), .ref (pA 7), .ref (pA 8), .ref (pA 9), .ref (pA 10), .int (nI T), .int (nI Ac)]]) hP hD rfl hS hA [5, 1, 6, 8] (by decide +kernel) rfl
    have hKc := hK.sub (tys' := [((xK 4), .int), ((xK 9), .int)]) [1, 3] rfl
    refine va_calli (va_runV (As := [.ref (xA 4), .ref (xA 9), .int (nI (andn mb (pg 9 4)))]) (rest := []) ⟨hx, hb, hml, hown, hw⟩ (gen_GS_hasNoRing l dC dI pa pA pK T Ac pg nm xa ga fa xA xK md mb fm wm sc (xA 4) (xA 9) (xK 4) (xK 9) (sc 4) (sc 9) (andn mb (pg 9 4)) p2 hs4 (fun i _ => h9 i) (andn_lt hmb) H.size) (cw_V 3 hw g_GraphSearch_hasNoRing rfl rfl rfl (hw _ m_107) (hw _ m_816) (hw _ m_818) (hw _ m_42) (by decide +kernel) ⟨Nat.le_of_ble_eq_true rfl, Nat.le_of_ble_eq_true rfl⟩) ⟨fun a U g mk q => by obtain ⟨q0, q1, qP, qK, qD, qN⟩ := q; exact ⟨q0, q1, qP, va_K.moved (u := U) (U := U.calling g mk a) (Vm.Alike.refl U.vm) qK, qD, nw_call qN⟩, va_recv hKc hPc (ci := 6) (q0 := 0) rfl rfl, fun U hU hW => ⟨rfl, by rw [hU], by rw [hU]; exact hPc, va_K.moved hW.alike hKc, hDc.weaken (fun _ _ _ _ => trivial), nw_warm hW hn⟩⟩ rfl rfl hl.1 rfl (lv_room (Nat.le_of_ble_eq_true rfl)) d_GraphSearch_stands_83 ⟨Nat.le_of_ble_eq_true rfl, Nat.le_of_ble_eq_true rfl⟩) hS (fun q _ h => hFc q h) hFc ?_
    intro r_10 u t9 H1 locs1 ht9 hvm hw1 hB hz1 hk1 hS1
    obtain ⟨hP1, hK1, hD1⟩ := hB
    rw [ht9] at hP1
    replace hK1 := va_K.moved hvm.symm hK1
    have hPD := join3 hP hD rfl [5, 1, 6, 8] [0, 2, 3, 4, 7, 9, 10, 11] rfl (by rfl) (by decide +kernel) (by decide +kernel) hk1 hFc hP1 hD1
    replace hK : va_K (dC, dI) classes [((xK 3), .int), ((xK 4), .int), ((xK 5), .int), ((xK 9), .int), ((xK 10), .int), ((xK 11), .int), ((pK 2), .int), ((pK 4), .int), ((pK 8), .int), ((pK 9), .int)] s := hK.app hK1
    clear hP1 hK1 hD1 hk1 hz1 hFc hKc hDc hPc hvm ht9 hP hS t9 locs H
    have hP : va_P (dC, dI) classes [ia (xA 3) (xK 3) 7 (fun i => nI ((sc 3) i)), ia (xA 5) (xK 5) 7 (fun i => nI ((sc 5) i)), ia (xA 11) (xK 11) 7 (fun i => nI ((sc 11) i)), ia (pA 9) (pK 9) 6 (fun i => nI ((pg 9) i)), ia (xA 10) (xK 10) 7 (fun i => nI ((ouG pg md Ac sc) i)), ia (pA 2) (pK 2) 7 (fun i => nI ((pg 2) i)), ia (pA 4) (pK 4) 7 (fun i => nI ((pg 4) i)), ia (pA 8) (pK 8) 4 (fun i => nI ((pg 8) i)), oc xa 6 [.ref pa, .ref ga, .ref (xA 0), .ref (xA 1), .ref (xA 2), .ref (xA 3), .ref (xA 4), .ref (xA 5), .ref (xA 6), .ref (xA 7), .ref (xA 8), .ref (xA 9), .ref (xA 10), .ref (xA 11), .ref fa, .int (nI md), .int (nI mb)], ia (xA 4) (xK 4) 7 (fun i => nI ((sc 4) i)), ia (xA 9) (xK 9) 7 (fun i => nI ((sc 9) i)), oc pa 0 [.ref (pA 0), .ref (pA 1), .ref (pA 2), .ref (pA 3), .ref (pA 4), .ref (pA 5), .ref (pA 6), .ref (pA 7), .ref (pA 8), .ref (pA 9), .ref (pA 10), .int (nI T), .int (nI Ac)]] H1 := hPD.1
    replace hD : dd A [(xA 3), (xA 5), (xA 11), (pA 9), (xA 10), (pA 2), (pA 4), (pA 8), xa, (xA 4), (xA 9), pa] := dd_of hPD.2 rfl
    clear hPD
    revert H1 locs1
    intro H locs hS hP
    refine tp_i (y := (if itR (sc 4) (sc 9) Ac 7 (andn mb (pg 9 4)) = 0 then 1 else 0)) (hw1) ?_
    clear hw1 r_10 u
    have hsB : stB pg md Ac mb sc = (decide (itR (sc 4) (sc 9) Ac 7 (andn mb (pg 9 4)) = 0) && decide (itR (sc 5) (ouG pg md Ac sc) Ac 7 mb = 0)) := by rw [stB, if_neg (by omega : ¬ md = 0), if_neg (by omega : ¬ md = 3), hou]
    rw [hsB]
    by_cases q1 : itR (sc 4) (sc 9) Ac 7 (andn mb (pg 9 4)) = 0
    · skip
      rw [if_pos q1]
      refine tp_pc (pc' := 86) (by rfl) ?_
      refine lv_if_eq (tgt := 112) hx hb d_GraphSearch_stands_86 (by decide) (fun c_11 => absurd c_11 (by decide)) (fun c_11 => ?_)
      refine tp_pc (pc' := 89) (by rfl) ?_
      refine lv_aload_n hx hb d_GraphSearch_stands_89 rfl (lv_at hl 0 rfl) ?_
      refine lv_aload_n hx hb d_GraphSearch_stands_90 rfl (lv_at hl 0 rfl) ?_
      refine va_get (D := (dC, dI)) (ci := 6) (v := .ref (xA 5)) (C := R_GraphSearch) (T := F_GraphSearch) (N := 17) hx hb hw i_GraphSearch hown hK hP 8 rfl rfl 7 (by decide) (hw _ m_326) (fun _ h9 => h9) rfl d_GraphSearch_stands_91 ?_
      refine lv_aload_n hx hb d_GraphSearch_stands_94 rfl (lv_at hl 0 rfl) ?_
      refine va_get (D := (dC, dI)) (ci := 6) (v := .ref (xA 10)) (C := R_GraphSearch) (T := F_GraphSearch) (N := 17) hx hb hw i_GraphSearch hown hK hP 8 rfl rfl 12 (by decide) (hw _ m_331) (fun _ h9 => h9) rfl d_GraphSearch_stands_95 ?_
      refine lv_aload_n hx hb d_GraphSearch_stands_98 rfl (lv_at hl 0 rfl) ?_
      refine va_get (D := (dC, dI)) (ci := 6) (v := .int (nI mb)) (C := R_GraphSearch) (T := F_GraphSearch) (N := 17) hx hb hw i_GraphSearch hown hK hP 8 rfl rfl 16 (by decide) (hw _ m_335) (fun _ h9 => h9) rfl d_GraphSearch_stands_99 ?_
      obtain ⟨hPc, hDc, hFc⟩ := cut3 (wc := [oc xa 6 [.ref pa, .ref ga, .ref (xA 0), .ref (xA 1), .ref (xA 2), .ref (xA 3), .ref (xA 4), .ref (xA 5), .ref (xA 6), .ref (xA 7), .ref (xA 8), .ref (xA 9), .ref (xA 10), .ref (xA 11), .ref fa, .int (nI md), .int (nI mb)], ia (xA 5) (xK 5) 7 (fun i => nI ((sc 5) i)), ia (xA 10) (xK 10) 7 (fun i => nI ((ouG pg md Ac sc) i)), oc pa 0 [.ref (pA 0), .ref (pA 1), .ref (pA 2), .ref (pA 3), .ref (pA 4), .ref (pA 5), .ref (pA 6), .ref (pA 7), .ref (pA 8), .ref (pA 9), .ref (pA 10), .int (nI T), .int (nI Ac)]]) hP hD rfl hS hA [8, 1, 4, 11] (by decide +kernel) rfl
      have hKc := hK.sub (tys' := [((xK 5), .int), ((xK 10), .int)]) [2, 4] rfl
      refine va_calli (va_runV (As := [.ref (xA 5), .ref (xA 10), .int (nI mb)]) (rest := []) ⟨hx, hb, hml, hown, hw⟩ (gen_GS_hasNoRing l dC dI pa pA pK T Ac pg nm xa ga fa xA xK md mb fm wm sc (xA 5) (xA 10) (xK 5) (xK 10) (sc 5) (ouG pg md Ac sc) (mb) p2 hs5 (fun i _ => ho8 i) hmb H.size) (cw_V 3 hw g_GraphSearch_hasNoRing rfl rfl rfl (hw _ m_107) (hw _ m_816) (hw _ m_818) (hw _ m_42) (by decide +kernel) ⟨Nat.le_of_ble_eq_true rfl, Nat.le_of_ble_eq_true rfl⟩) ⟨fun a U g mk q => by obtain ⟨q0, q1, qP, qK, qD, qN⟩ := q; exact ⟨q0, q1, qP, va_K.moved (u := U) (U := U.calling g mk a) (Vm.Alike.refl U.vm) qK, qD, nw_call qN⟩, va_recv hKc hPc (ci := 6) (q0 := 0) rfl rfl, fun U hU hW => ⟨rfl, by rw [hU], by rw [hU]; exact hPc, va_K.moved hW.alike hKc, hDc.weaken (fun _ _ _ _ => trivial), nw_warm hW hn⟩⟩ rfl rfl hl.1 rfl (lv_room (Nat.le_of_ble_eq_true rfl)) d_GraphSearch_stands_102 ⟨Nat.le_of_ble_eq_true rfl, Nat.le_of_ble_eq_true rfl⟩) hS (fun q _ h => hFc q h) hFc ?_
      intro r_12 u t9 H1 locs1 ht9 hvm hw1 hB hz1 hk1 hS1
      obtain ⟨hP1, hK1, hD1⟩ := hB
      rw [ht9] at hP1
      replace hK1 := va_K.moved hvm.symm hK1
      have hPD := join3 hP hD rfl [8, 1, 4, 11] [0, 2, 3, 5, 6, 7, 9, 10] rfl (by rfl) (by decide +kernel) (by decide +kernel) hk1 hFc hP1 hD1
      replace hK : va_K (dC, dI) classes [((xK 3), .int), ((xK 4), .int), ((xK 5), .int), ((xK 9), .int), ((xK 10), .int), ((xK 11), .int), ((pK 2), .int), ((pK 4), .int), ((pK 8), .int), ((pK 9), .int)] s := hK.app hK1
      clear hP1 hK1 hD1 hk1 hz1 hFc hKc hDc hPc hvm ht9 hP hS t9 locs H
      have hP : va_P (dC, dI) classes [ia (xA 3) (xK 3) 7 (fun i => nI ((sc 3) i)), ia (xA 11) (xK 11) 7 (fun i => nI ((sc 11) i)), ia (pA 9) (pK 9) 6 (fun i => nI ((pg 9) i)), ia (pA 2) (pK 2) 7 (fun i => nI ((pg 2) i)), ia (pA 4) (pK 4) 7 (fun i => nI ((pg 4) i)), ia (pA 8) (pK 8) 4 (fun i => nI ((pg 8) i)), ia (xA 4) (xK 4) 7 (fun i => nI ((sc 4) i)), ia (xA 9) (xK 9) 7 (fun i => nI ((sc 9) i)), oc xa 6 [.ref pa, .ref ga, .ref (xA 0), .ref (xA 1), .ref (xA 2), .ref (xA 3), .ref (xA 4), .ref (xA 5), .ref (xA 6), .ref (xA 7), .ref (xA 8), .ref (xA 9), .ref (xA 10), .ref (xA 11), .ref fa, .int (nI md), .int (nI mb)], ia (xA 5) (xK 5) 7 (fun i => nI ((sc 5) i)), ia (xA 10) (xK 10) 7 (fun i => nI ((ouG pg md Ac sc) i)), oc pa 0 [.ref (pA 0), .ref (pA 1), .ref (pA 2), .ref (pA 3), .ref (pA 4), .ref (pA 5), .ref (pA 6), .ref (pA 7), .ref (pA 8), .ref (pA 9), .ref (pA 10), .int (nI T), .int (nI Ac)]] H1 := hPD.1
      replace hD : dd A [(xA 3), (xA 11), (pA 9), (pA 2), (pA 4), (pA 8), (xA 4), (xA 9), xa, (xA 5), (xA 10), pa] := dd_of hPD.2 rfl
      clear hPD
      revert H1 locs1
      intro H locs hS hP
      refine tp_i (y := (if itR (sc 5) (ouG pg md Ac sc) Ac 7 (mb) = 0 then 1 else 0)) (hw1) ?_
      clear hw1 r_12 u
      by_cases q2 : itR (sc 5) (ouG pg md Ac sc) Ac 7 mb = 0
      · skip
        rw [if_pos q2]
        refine tp_pc (pc' := 105) (by rfl) ?_
        refine lv_if_eq (tgt := 112) hx hb d_GraphSearch_stands_105 (by decide) (fun c_13 => absurd c_13 (by decide)) (fun c_13 => ?_)
        refine tp_pc (pc' := 108) (by rfl) ?_
        refine lv_iconst (v := 1) hx hb d_GraphSearch_stands_108 (by decide) ?_
        refine lv_goto (tgt := 113) hx hb d_GraphSearch_stands_109 (by decide) ?_
        refine tp_pc (pc' := 113) (by rfl) ?_
        obtain ⟨hP9, hD9, -⟩ := cut3 (wc := [oc xa 6 [.ref pa, .ref ga, .ref (xA 0), .ref (xA 1), .ref (xA 2), .ref (xA 3), .ref (xA 4), .ref (xA 5), .ref (xA 6), .ref (xA 7), .ref (xA 8), .ref (xA 9), .ref (xA 10), .ref (xA 11), .ref fa, .int (nI md), .int (nI mb)], ia (xA 3) (xK 3) 7 (fun i => nI ((sc 3) i)), ia (xA 4) (xK 4) 7 (fun i => nI ((sc 4) i)), ia (xA 5) (xK 5) 7 (fun i => nI ((sc 5) i)), ia (xA 9) (xK 9) 7 (fun i => nI ((sc 9) i)), ia (xA 10) (xK 10) 7 (fun i => nI ((ouG pg md Ac sc) i)), ia (xA 11) (xK 11) 7 (fun i => nI ((sc 11) i)), oc pa 0 [.ref (pA 0), .ref (pA 1), .ref (pA 2), .ref (pA 3), .ref (pA 4), .ref (pA 5), .ref (pA 6), .ref (pA 7), .ref (pA 8), .ref (pA 9), .ref (pA 10), .int (nI T), .int (nI Ac)], ia (pA 2) (pK 2) 7 (fun i => nI ((pg 2) i)), ia (pA 4) (pK 4) 7 (fun i => nI ((pg 4) i)), ia (pA 8) (pK 8) 4 (fun i => nI ((pg 8) i)), ia (pA 9) (pK 9) 6 (fun i => nI ((pg 9) i))]) hP hD rfl hS hA [8, 0, 6, 9, 7, 10, 1, 11, 3, 4, 5, 2] (by decide +kernel) rfl
        have hK9 := hK.sub (tys' := []) [] rfl
        refine W.widen (k := 0) (n := 0) (by exact Nat.le_of_ble_eq_true rfl) (by exact Nat.le_of_ble_eq_true rfl) ?_
        exact W.zret (v := 1) (ty := .boolean) hx hb hr (by decide) (fun t9 ht9 hW => ⟨⟨1, (), rfl, by rw [decide_eq_true q1, decide_eq_true q2]; rfl, by rw [ht9]; exact hP9, va_K.moved hW.alike hK9, hD9⟩, hS.F ht9⟩) hS.2.2 d_GraphSearch_stands_113
      · skip
        rw [if_neg q2]
        refine tp_pc (pc' := 105) (by rfl) ?_
        refine lv_if_eq (tgt := 112) hx hb d_GraphSearch_stands_105 (by decide) (fun c_14 => ?_) (fun c_14 => absurd c_14 (by decide))
        refine tp_pc (pc' := 112) (by rfl) ?_
        refine lv_iconst (v := 0) hx hb d_GraphSearch_stands_112 (by decide) ?_
        obtain ⟨hP9, hD9, -⟩ := cut3 (wc := [oc xa 6 [.ref pa, .ref ga, .ref (xA 0), .ref (xA 1), .ref (xA 2), .ref (xA 3), .ref (xA 4), .ref (xA 5), .ref (xA 6), .ref (xA 7), .ref (xA 8), .ref (xA 9), .ref (xA 10), .ref (xA 11), .ref fa, .int (nI md), .int (nI mb)], ia (xA 3) (xK 3) 7 (fun i => nI ((sc 3) i)), ia (xA 4) (xK 4) 7 (fun i => nI ((sc 4) i)), ia (xA 5) (xK 5) 7 (fun i => nI ((sc 5) i)), ia (xA 9) (xK 9) 7 (fun i => nI ((sc 9) i)), ia (xA 10) (xK 10) 7 (fun i => nI ((ouG pg md Ac sc) i)), ia (xA 11) (xK 11) 7 (fun i => nI ((sc 11) i)), oc pa 0 [.ref (pA 0), .ref (pA 1), .ref (pA 2), .ref (pA 3), .ref (pA 4), .ref (pA 5), .ref (pA 6), .ref (pA 7), .ref (pA 8), .ref (pA 9), .ref (pA 10), .int (nI T), .int (nI Ac)], ia (pA 2) (pK 2) 7 (fun i => nI ((pg 2) i)), ia (pA 4) (pK 4) 7 (fun i => nI ((pg 4) i)), ia (pA 8) (pK 8) 4 (fun i => nI ((pg 8) i)), ia (pA 9) (pK 9) 6 (fun i => nI ((pg 9) i))]) hP hD rfl hS hA [8, 0, 6, 9, 7, 10, 1, 11, 3, 4, 5, 2] (by decide +kernel) rfl
        have hK9 := hK.sub (tys' := []) [] rfl
        refine W.widen (k := 0) (n := 0) (by exact Nat.le_of_ble_eq_true rfl) (by exact Nat.le_of_ble_eq_true rfl) ?_
        exact W.zret (v := 0) (ty := .boolean) hx hb hr (by decide) (fun t9 ht9 hW => ⟨⟨0, (), rfl, by rw [decide_eq_false q2, Bool.and_false]; rfl, by rw [ht9]; exact hP9, va_K.moved hW.alike hK9, hD9⟩, hS.F ht9⟩) hS.2.2 d_GraphSearch_stands_113
    · skip
      rw [if_neg q1]
      refine tp_pc (pc' := 86) (by rfl) ?_
      refine lv_if_eq (tgt := 112) hx hb d_GraphSearch_stands_86 (by decide) (fun c_15 => ?_) (fun c_15 => absurd c_15 (by decide))
      refine tp_pc (pc' := 112) (by rfl) ?_
      refine lv_iconst (v := 0) hx hb d_GraphSearch_stands_112 (by decide) ?_
      obtain ⟨hP9, hD9, -⟩ := cut3 (wc := [oc xa 6 [.ref pa, .ref ga, .ref (xA 0), .ref (xA 1), .ref (xA 2), .ref (xA 3), .ref (xA 4), .ref (xA 5), .ref (xA 6), .ref (xA 7), .ref (xA 8), .ref (xA 9), .ref (xA 10), .ref (xA 11), .ref fa, .int (nI md), .int (nI mb)], ia (xA 3) (xK 3) 7 (fun i => nI ((sc 3) i)), ia (xA 4) (xK 4) 7 (fun i => nI ((sc 4) i)), ia (xA 5) (xK 5) 7 (fun i => nI ((sc 5) i)), ia (xA 9) (xK 9) 7 (fun i => nI ((sc 9) i)), ia (xA 10) (xK 10) 7 (fun i => nI ((ouG pg md Ac sc) i)), ia (xA 11) (xK 11) 7 (fun i => nI ((sc 11) i)), oc pa 0 [.ref (pA 0), .ref (pA 1), .ref (pA 2), .ref (pA 3), .ref (pA 4), .ref (pA 5), .ref (pA 6), .ref (pA 7), .ref (pA 8), .ref (pA 9), .ref (pA 10), .int (nI T), .int (nI Ac)], ia (pA 2) (pK 2) 7 (fun i => nI ((pg 2) i)), ia (pA 4) (pK 4) 7 (fun i => nI ((pg 4) i)), ia (pA 8) (pK 8) 4 (fun i => nI ((pg 8) i)), ia (pA 9) (pK 9) 6 (fun i => nI ((pg 9) i))]) hP hD rfl hS hA [8, 0, 9, 1, 10, 4, 2, 11, 5, 6, 7, 3] (by decide +kernel) rfl
      have hK9 := hK.sub (tys' := []) [] rfl
      refine W.widen (k := 0) (n := 0) (by exact Nat.le_of_ble_eq_true rfl) (by exact Nat.le_of_ble_eq_true rfl) ?_
      exact W.zret (v := 0) (ty := .boolean) hx hb hr (by decide) (fun t9 ht9 hW => ⟨⟨0, (), rfl, by rw [decide_eq_false q1, Bool.false_and]; rfl, by rw [ht9]; exact hP9, va_K.moved hW.alike hK9, hD9⟩, hS.F ht9⟩) hS.2.2 d_GraphSearch_stands_113
  · skip
    refine tp_i (y := 3) (by rw [hk]; rfl) ?_
    refine lv_lookup (x := 3) (off := 45) (tgt := 49) hx hb d_GraphSearch_stands_4 (by decide) (by decide) (by decide) ?_
    refine tp_pc (pc' := 49) (by rfl) ?_
    refine lv_aload_n hx hb d_GraphSearch_stands_49 rfl (lv_at hl 0 rfl) ?_
    obtain ⟨hPc, hDc, hFc⟩ := cut3 (wc := [oc xa 6 [.ref pa, .ref ga, .ref (xA 0), .ref (xA 1), .ref (xA 2), .ref (xA 3), .ref (xA 4), .ref (xA 5), .ref (xA 6), .ref (xA 7), .ref (xA 8), .ref (xA 9), .ref (xA 10), .ref (xA 11), .ref fa, .int (nI md), .int (nI mb)], ia (xA 9) (xK 9) 7 (fun i => nI ((sc 9) i)), ia (xA 11) (xK 11) 7 (fun i => nI ((sc 11) i)), oc pa 0 [.ref (pA 0), .ref (pA 1), .ref (pA 2), .ref (pA 3), .ref (pA 4), .ref (pA 5), .ref (pA 6), .ref (pA 7), .ref (pA 8), .ref (pA 9), .ref (pA 10), .int (nI T), .int (nI Ac)]]) hP hD rfl hS hA [0, 4, 6, 7] (by decide +kernel) rfl
    have hKc := hK.sub (tys' := [((xK 9), .int), ((xK 11), .int)]) [3, 5] rfl
    refine va_calli (va_runV (As := []) (rest := []) ⟨hx, hb, hml, hown, hw⟩ (gen_GS_isKnownInOrder l dC dI pa pA pK T Ac pg nm xa ga fa xA xK md mb fm wm sc p2 hmb h9 h11 s.heap.size) (cw_V 0 hw g_GraphSearch_isKnownInOrder rfl rfl rfl (hw _ m_107) (hw _ m_820) (hw _ m_822) (hw _ m_43) (by decide +kernel) ⟨Nat.le_of_ble_eq_true rfl, Nat.le_of_ble_eq_true rfl⟩) ⟨fun a U g mk q => by obtain ⟨q0, q1, qP, qK, qD, qN⟩ := q; exact ⟨q0, q1, qP, va_K.moved (u := U) (U := U.calling g mk a) (Vm.Alike.refl U.vm) qK, qD, nw_call qN⟩, va_recv hKc hPc (ci := 6) (q0 := 0) rfl rfl, fun U hU hW => ⟨rfl, by rw [hU], by rw [hU]; exact hPc, va_K.moved hW.alike hKc, hDc.weaken (fun _ _ _ _ => trivial), nw_warm hW hn⟩⟩ rfl rfl hl.1 rfl (lv_room (Nat.le_of_ble_eq_true rfl)) d_GraphSearch_stands_50 ⟨Nat.le_of_ble_eq_true rfl, Nat.le_of_ble_eq_true rfl⟩) hS (fun q _ h => hFc q h) hFc ?_
    intro r_16 u t9 H1 locs1 ht9 hvm hw1 hB hz1 hk1 hS1
    obtain ⟨hP1, hK1, hD1⟩ := hB
    rw [ht9] at hP1
    replace hK1 := va_K.moved hvm.symm hK1
    have hPD := join3 hP hD rfl [0, 4, 6, 7] [1, 2, 3, 5, 8, 9, 10, 11] rfl (by rfl) (by decide +kernel) (by decide +kernel) hk1 hFc hP1 hD1
    replace hK : va_K (dC, dI) classes [((xK 3), .int), ((xK 4), .int), ((xK 5), .int), ((xK 9), .int), ((xK 10), .int), ((xK 11), .int), ((pK 2), .int), ((pK 4), .int), ((pK 8), .int), ((pK 9), .int)] s := hK.app hK1
    clear hP1 hK1 hD1 hk1 hz1 hFc hKc hDc hPc hvm ht9 hP hS t9
    have hP : va_P (dC, dI) classes [ia (xA 3) (xK 3) 7 (fun i => nI ((sc 3) i)), ia (xA 4) (xK 4) 7 (fun i => nI ((sc 4) i)), ia (xA 5) (xK 5) 7 (fun i => nI ((sc 5) i)), ia (xA 10) (xK 10) 7 (fun i => nI ((sc 10) i)), ia (pA 2) (pK 2) 7 (fun i => nI ((pg 2) i)), ia (pA 4) (pK 4) 7 (fun i => nI ((pg 4) i)), ia (pA 8) (pK 8) 4 (fun i => nI ((pg 8) i)), ia (pA 9) (pK 9) 6 (fun i => nI ((pg 9) i)), oc xa 6 [.ref pa, .ref ga, .ref (xA 0), .ref (xA 1), .ref (xA 2), .ref (xA 3), .ref (xA 4), .ref (xA 5), .ref (xA 6), .ref (xA 7), .ref (xA 8), .ref (xA 9), .ref (xA 10), .ref (xA 11), .ref fa, .int (nI md), .int (nI mb)], ia (xA 9) (xK 9) 7 (fun i => nI ((sc 9) i)), ia (xA 11) (xK 11) 7 (fun i => nI ((sc 11) i)), oc pa 0 [.ref (pA 0), .ref (pA 1), .ref (pA 2), .ref (pA 3), .ref (pA 4), .ref (pA 5), .ref (pA 6), .ref (pA 7), .ref (pA 8), .ref (pA 9), .ref (pA 10), .int (nI T), .int (nI Ac)]] H1 := hPD.1
    replace hD : dd A [(xA 3), (xA 4), (xA 5), (xA 10), (pA 2), (pA 4), (pA 8), (pA 9), xa, (xA 9), (xA 11), pa] := dd_of hPD.2 rfl
    clear hPD
    revert H1 locs1
    intro H locs hS hP
    refine tp_i (y := (if fF (kno mb (sc 9) (sc 11)) Ac 0 = 0 then 1 else 0)) (hw1) ?_
    clear hw1 r_16 u
    rw [show (fun i => nI (sc 10 i)) = fun i => nI (ouG pg md Ac sc i) from by rw [ouG, if_pos (by omega)]] at hP
    replace hP : va_P (dC, dI) classes [ia (xA 3) (xK 3) 7 (fun i => nI ((sc 3) i)), ia (xA 4) (xK 4) 7 (fun i => nI ((sc 4) i)), ia (xA 5) (xK 5) 7 (fun i => nI ((sc 5) i)), ia (xA 10) (xK 10) 7 (fun i => nI ((ouG pg md Ac sc) i)), ia (pA 2) (pK 2) 7 (fun i => nI ((pg 2) i)), ia (pA 4) (pK 4) 7 (fun i => nI ((pg 4) i)), ia (pA 8) (pK 8) 4 (fun i => nI ((pg 8) i)), ia (pA 9) (pK 9) 6 (fun i => nI ((pg 9) i)), oc xa 6 [.ref pa, .ref ga, .ref (xA 0), .ref (xA 1), .ref (xA 2), .ref (xA 3), .ref (xA 4), .ref (xA 5), .ref (xA 6), .ref (xA 7), .ref (xA 8), .ref (xA 9), .ref (xA 10), .ref (xA 11), .ref fa, .int (nI md), .int (nI mb)], ia (xA 9) (xK 9) 7 (fun i => nI ((sc 9) i)), ia (xA 11) (xK 11) 7 (fun i => nI ((sc 11) i)), oc pa 0 [.ref (pA 0), .ref (pA 1), .ref (pA 2), .ref (pA 3), .ref (pA 4), .ref (pA 5), .ref (pA 6), .ref (pA 7), .ref (pA 8), .ref (pA 9), .ref (pA 10), .int (nI T), .int (nI Ac)]] H := hP
    by_cases q0 : fF (kno mb (sc 9) (sc 11)) Ac 0 = 0
    · skip
      rw [if_pos q0]
      refine tp_pc (pc' := 53) (by rfl) ?_
      obtain ⟨hP9, hD9, -⟩ := cut3 (wc := [oc xa 6 [.ref pa, .ref ga, .ref (xA 0), .ref (xA 1), .ref (xA 2), .ref (xA 3), .ref (xA 4), .ref (xA 5), .ref (xA 6), .ref (xA 7), .ref (xA 8), .ref (xA 9), .ref (xA 10), .ref (xA 11), .ref fa, .int (nI md), .int (nI mb)], ia (xA 3) (xK 3) 7 (fun i => nI ((sc 3) i)), ia (xA 4) (xK 4) 7 (fun i => nI ((sc 4) i)), ia (xA 5) (xK 5) 7 (fun i => nI ((sc 5) i)), ia (xA 9) (xK 9) 7 (fun i => nI ((sc 9) i)), ia (xA 10) (xK 10) 7 (fun i => nI ((ouG pg md Ac sc) i)), ia (xA 11) (xK 11) 7 (fun i => nI ((sc 11) i)), oc pa 0 [.ref (pA 0), .ref (pA 1), .ref (pA 2), .ref (pA 3), .ref (pA 4), .ref (pA 5), .ref (pA 6), .ref (pA 7), .ref (pA 8), .ref (pA 9), .ref (pA 10), .int (nI T), .int (nI Ac)], ia (pA 2) (pK 2) 7 (fun i => nI ((pg 2) i)), ia (pA 4) (pK 4) 7 (fun i => nI ((pg 4) i)), ia (pA 8) (pK 8) 4 (fun i => nI ((pg 8) i)), ia (pA 9) (pK 9) 6 (fun i => nI ((pg 9) i))]) hP hD rfl hS hA [8, 0, 1, 2, 9, 3, 10, 11, 4, 5, 6, 7] (by decide +kernel) rfl
      have hK9 := hK.sub (tys' := []) [] rfl
      refine W.widen (k := 0) (n := 0) (by exact Nat.le_of_ble_eq_true rfl) (by exact Nat.le_of_ble_eq_true rfl) ?_
      exact W.zret (v := 1) (ty := .boolean) hx hb hr (by decide) (fun t9 ht9 hW => ⟨⟨1, (), rfl, by rw [stB, if_neg (by omega : ¬ md = 0), if_pos hk, decide_eq_true q0]; rfl, by rw [ht9]; exact hP9, va_K.moved hW.alike hK9, hD9⟩, hS.F ht9⟩) hS.2.2 d_GraphSearch_stands_53
    · skip
      rw [if_neg q0]
      refine tp_pc (pc' := 53) (by rfl) ?_
      obtain ⟨hP9, hD9, -⟩ := cut3 (wc := [oc xa 6 [.ref pa, .ref ga, .ref (xA 0), .ref (xA 1), .ref (xA 2), .ref (xA 3), .ref (xA 4), .ref (xA 5), .ref (xA 6), .ref (xA 7), .ref (xA 8), .ref (xA 9), .ref (xA 10), .ref (xA 11), .ref fa, .int (nI md), .int (nI mb)], ia (xA 3) (xK 3) 7 (fun i => nI ((sc 3) i)), ia (xA 4) (xK 4) 7 (fun i => nI ((sc 4) i)), ia (xA 5) (xK 5) 7 (fun i => nI ((sc 5) i)), ia (xA 9) (xK 9) 7 (fun i => nI ((sc 9) i)), ia (xA 10) (xK 10) 7 (fun i => nI ((ouG pg md Ac sc) i)), ia (xA 11) (xK 11) 7 (fun i => nI ((sc 11) i)), oc pa 0 [.ref (pA 0), .ref (pA 1), .ref (pA 2), .ref (pA 3), .ref (pA 4), .ref (pA 5), .ref (pA 6), .ref (pA 7), .ref (pA 8), .ref (pA 9), .ref (pA 10), .int (nI T), .int (nI Ac)], ia (pA 2) (pK 2) 7 (fun i => nI ((pg 2) i)), ia (pA 4) (pK 4) 7 (fun i => nI ((pg 4) i)), ia (pA 8) (pK 8) 4 (fun i => nI ((pg 8) i)), ia (pA 9) (pK 9) 6 (fun i => nI ((pg 9) i))]) hP hD rfl hS hA [8, 0, 1, 2, 9, 3, 10, 11, 4, 5, 6, 7] (by decide +kernel) rfl
      have hK9 := hK.sub (tys' := []) [] rfl
      refine W.widen (k := 0) (n := 0) (by exact Nat.le_of_ble_eq_true rfl) (by exact Nat.le_of_ble_eq_true rfl) ?_
      exact W.zret (v := 0) (ty := .boolean) hx hb hr (by decide) (fun t9 ht9 hW => ⟨⟨0, (), rfl, by rw [stB, if_neg (by omega : ¬ md = 0), if_pos hk, decide_eq_false q0]; rfl, by rw [ht9]; exact hP9, va_K.moved hW.alike hK9, hD9⟩, hS.F ht9⟩) hS.2.2 d_GraphSearch_stands_53
