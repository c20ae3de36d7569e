set_option maxHeartbeats 4000000 in
set_option maxRecDepth 100000 in
theorem gen_GS_tellOwn (l : Launch) (dC : Nat → ClassId) (dI : Nat → Nat → Nat) (pa : Nat) (pA : Nat → Nat) (pK : Nat → ClassId) (T Ac : Nat) (pg : Nat → Nat → Nat) (nm : Nat → Int32) (xa ga fa : Nat) (xA : Nat → Nat) (xK : Nat → ClassId) (md mb : Nat) (fm wm : Nat → Nat) (sc : Nat → Nat → Nat) (a : Nat) (hPg : PgOk T Ac pg) (ha : a < Ac) (hmd : md < 4) (sz : Nat) : Met l y_GraphSearch_tellOwn w_GraphSearch_tellOwn ({ frames := 1, cells := 0, slots := 0, locals := 40 }) (va_Pc [.ref xa, .int (nI a)] (fun U => U.heap.size = sz ∧ va_P (dC, dI) classes [oc xa 6 [.ref pa, .ref ga, .ref (xA 0), .ref (xA 1), .ref (xA 2), .ref (xA 3), .ref (xA 4), .ref (xA 5), .ref (xA 6), .ref (xA 7), .ref (xA 8), .ref (xA 9), .ref (xA 10), .ref (xA 11), .ref fa, .int (nI md), .int (nI mb)], ia (xA 3) (xK 3) 7 (fun i => nI ((sc 3) i)), ia (xA 4) (xK 4) 7 (fun i => nI ((sc 4) i)), ia (xA 5) (xK 5) 7 (fun i => nI ((sc 5) i)), oc pa 0 [.ref (pA 0), .ref (pA 1), .ref (pA 2), .ref (pA 3), .ref (pA 4), .ref (pA 5), .ref (pA 6), .ref (pA 7), .ref (pA 8), .ref (pA 9), .ref (pA 10), .int (nI T), .int (nI Ac)], ia (pA 2) (pK 2) 7 (fun i => nI ((pg 2) i)), ia (pA 4) (pK 4) 7 (fun i => nI ((pg 4) i)), ia (pA 5) (pK 5) 7 (fun i => nI ((pg 5) i)), ia (pA 8) (pK 8) 4 (fun i => nI ((pg 8) i)), ia (pA 9) (pK 9) 6 (fun i => nI ((pg 9) i)), ia (pA 10) (pK 10) 3 (fun i => nI ((pg 10) i))] U.heap ∧ va_K (dC, dI) classes [((xK 3), .int), ((xK 4), .int), ((xK 5), .int), ((pK 2), .int), ((pK 4), .int), ((pK 5), .int), ((pK 8), .int), ((pK 9), .int), ((pK 10), .int)] U ∧ va_D (fun _ => True) [oc xa 6 [.ref pa, .ref ga, .ref (xA 0), .ref (xA 1), .ref (xA 2), .ref (xA 3), .ref (xA 4), .ref (xA 5), .ref (xA 6), .ref (xA 7), .ref (xA 8), .ref (xA 9), .ref (xA 10), .ref (xA 11), .ref fa, .int (nI md), .int (nI mb)], ia (xA 3) (xK 3) 7 (fun i => nI ((sc 3) i)), ia (xA 4) (xK 4) 7 (fun i => nI ((sc 4) i)), ia (xA 5) (xK 5) 7 (fun i => nI ((sc 5) i)), oc pa 0 [.ref (pA 0), .ref (pA 1), .ref (pA 2), .ref (pA 3), .ref (pA 4), .ref (pA 5), .ref (pA 6), .ref (pA 7), .ref (pA 8), .ref (pA 9), .ref (pA 10), .int (nI T), .int (nI Ac)], ia (pA 2) (pK 2) 7 (fun i => nI ((pg 2) i)), ia (pA 4) (pK 4) 7 (fun i => nI ((pg 4) i)), ia (pA 5) (pK 5) 7 (fun i => nI ((pg 5) i)), ia (pA 8) (pK 8) 4 (fun i => nI ((pg 8) i)), ia (pA 9) (pK 9) 6 (fun i => nI ((pg 9) i)), ia (pA 10) (pK 10) 3 (fun i => nI ((pg 10) i))] ∧ nw U)) (va_Qv (fun _ : Unit => True) (fun _ t9 => va_P (dC, dI) classes [oc xa 6 [.ref pa, .ref ga, .ref (xA 0), .ref (xA 1), .ref (xA 2), .ref (xA 3), .ref (xA 4), .ref (xA 5), .ref (xA 6), .ref (xA 7), .ref (xA 8), .ref (xA 9), .ref (xA 10), .ref (xA 11), .ref fa, .int (nI md), .int (nI mb)], ia (xA 3) (xK 3) 7 (fun i => nI ((updN (sc 3) a (ownT pg a)) i)), ia (xA 4) (xK 4) 7 (fun i => nI ((updN (sc 4) a (onoT pg a)) i)), ia (xA 5) (xK 5) 7 (fun i => nI ((updN (sc 5) a (okpT pg md a)) i)), oc pa 0 [.ref (pA 0), .ref (pA 1), .ref (pA 2), .ref (pA 3), .ref (pA 4), .ref (pA 5), .ref (pA 6), .ref (pA 7), .ref (pA 8), .ref (pA 9), .ref (pA 10), .int (nI T), .int (nI Ac)], ia (pA 2) (pK 2) 7 (fun i => nI ((pg 2) i)), ia (pA 4) (pK 4) 7 (fun i => nI ((pg 4) i)), ia (pA 5) (pK 5) 7 (fun i => nI ((pg 5) i)), ia (pA 8) (pK 8) 4 (fun i => nI ((pg 8) i)), ia (pA 9) (pK 9) 6 (fun i => nI ((pg 9) i)), ia (pA 10) (pK 10) 3 (fun i => nI ((pg 10) i))] t9.heap ∧ va_K (dC, dI) classes [] t9 ∧ va_D (va_A [oc xa 6 [.ref pa, .ref ga, .ref (xA 0), .ref (xA 1), .ref (xA 2), .ref (xA 3), .ref (xA 4), .ref (xA 5), .ref (xA 6), .ref (xA 7), .ref (xA 8), .ref (xA 9), .ref (xA 10), .ref (xA 11), .ref fa, .int (nI md), .int (nI mb)], ia (xA 3) (xK 3) 7 (fun i => nI ((sc 3) i)), ia (xA 4) (xK 4) 7 (fun i => nI ((sc 4) i)), ia (xA 5) (xK 5) 7 (fun i => nI ((sc 5) i)), oc pa 0 [.ref (pA 0), .ref (pA 1), .ref (pA 2), .ref (pA 3), .ref (pA 4), .ref (pA 5), .ref (pA 6), .ref (pA 7), .ref (pA 8), .ref (pA 9), .ref (pA 10), .int (nI T), .int (nI Ac)], ia (pA 2) (pK 2) 7 (fun i => nI ((pg 2) i)), ia (pA 4) (pK 4) 7 (fun i => nI ((pg 4) i)), ia (pA 5) (pK 5) 7 (fun i => nI ((pg 5) i)), ia (pA 8) (pK 8) 4 (fun i => nI ((pg 8) i)), ia (pA 9) (pK 9) 6 (fun i => nI ((pg 9) i)), ia (pA 10) (pK 10) 3 (fun i => nI ((pg 10) i))] sz) [oc xa 6 [.ref pa, .ref ga, .ref (xA 0), .ref (xA 1), .ref (xA 2), .ref (xA 3), .ref (xA 4), .ref (xA 5), .ref (xA 6), .ref (xA 7), .ref (xA 8), .ref (xA 9), .ref (xA 10), .ref (xA 11), .ref fa, .int (nI md), .int (nI mb)], ia (xA 3) (xK 3) 7 (fun i => nI ((updN (sc 3) a (ownT pg a)) i)), ia (xA 4) (xK 4) 7 (fun i => nI ((updN (sc 4) a (onoT pg a)) i)), ia (xA 5) (xK 5) 7 (fun i => nI ((updN (sc 5) a (okpT pg md a)) i)), oc pa 0 [.ref (pA 0), .ref (pA 1), .ref (pA 2), .ref (pA 3), .ref (pA 4), .ref (pA 5), .ref (pA 6), .ref (pA 7), .ref (pA 8), .ref (pA 9), .ref (pA 10), .int (nI T), .int (nI Ac)], ia (pA 2) (pK 2) 7 (fun i => nI ((pg 2) i)), ia (pA 4) (pK 4) 7 (fun i => nI ((pg 4) i)), ia (pA 5) (pK 5) 7 (fun i => nI ((pg 5) i)), ia (pA 8) (pK 8) 4 (fun i => nI ((pg 8) i)), ia (pA 9) (pK 9) 6 (fun i => nI ((pg 9) i)), ia (pA 10) (pK 10) 3 (fun i => nI ((pg 10) i))]) (va_A [oc xa 6 [.ref pa, .ref ga, .ref (xA 0), .ref (xA 1), .ref (xA 2), .ref (xA 3), .ref (xA 4), .ref (xA 5), .ref (xA 6), .ref (xA 7), .ref (xA 8), .ref (xA 9), .ref (xA 10), .ref (xA 11), .ref fa, .int (nI md), .int (nI mb)], ia (xA 3) (xK 3) 7 (fun i => nI ((sc 3) i)), ia (xA 4) (xK 4) 7 (fun i => nI ((sc 4) i)), ia (xA 5) (xK 5) 7 (fun i => nI ((sc 5) i)), oc pa 0 [.ref (pA 0), .ref (pA 1), .ref (pA 2), .ref (pA 3), .ref (pA 4), .ref (pA 5), .ref (pA 6), .ref (pA 7), .ref (pA 8), .ref (pA 9), .ref (pA 10), .int (nI T), .int (nI Ac)], ia (pA 2) (pK 2) 7 (fun i => nI ((pg 2) i)), ia (pA 4) (pK 4) 7 (fun i => nI ((pg 4) i)), ia (pA 5) (pK 5) 7 (fun i => nI ((pg 5) i)), ia (pA 8) (pK 8) 4 (fun i => nI ((pg 8) i)), ia (pA 9) (pK 9) 6 (fun i => nI ((pg 9) i)), ia (pA 10) (pK 10) 3 (fun i => nI ((pg 10) i))] sz)) 0 0 (va_A [oc xa 6 [.ref pa, .ref ga, .ref (xA 0), .ref (xA 1), .ref (xA 2), .ref (xA 3), .ref (xA 4), .ref (xA 5), .ref (xA 6), .ref (xA 7), .ref (xA 8), .ref (xA 9), .ref (xA 10), .ref (xA 11), .ref fa, .int (nI md), .int (nI mb)], ia (xA 3) (xK 3) 7 (fun i => nI ((sc 3) i)), ia (xA 4) (xK 4) 7 (fun i => nI ((sc 4) i)), ia (xA 5) (xK 5) 7 (fun i => nI ((sc 5) i)), oc pa 0 [.ref (pA 0), .ref (pA 1), .ref (pA 2), .ref (pA 3), .ref (pA 4), .ref (pA 5), .ref (pA 6), .ref (pA 7), .ref (pA 8), .ref (pA 9), .ref (pA 10), .int (nI T), .int (nI Ac)], ia (pA 2) (pK 2) 7 (fun i => nI ((pg 2) i)), ia (pA 4) (pK 4) 7 (fun i => nI ((pg 4) i)), ia (pA 5) (pK 5) 7 (fun i => nI ((pg 5) i)), ia (pA 8) (pK 8) 4 (fun i => nI ((pg 8) i)), ia (pA 9) (pK 9) 6 (fun i => nI ((pg 9) i)), ia (pA 10) (pK 10) 3 (fun i => nI ((pg 10) i))] sz) := by
  refine Met.ofW (cc := b_GraphSearch_tellOwn) (maxL := 4) (ret := none) (by decide) rfl ?_
  intro p e0 s m args below meth c s₁ B hml hv
  obtain ⟨rfl, hsz, hP, hK, hD0, hn⟩ := hv
  have hx := B.exec
  have hb := B.bytes
  have hr := B.returns
  have hw := fun w (h : w ∈ wt) => atoms_spec (ws := w_GraphSearch_tellOwn) B.pre w (List.mem_cons_of_mem _ h)
  have hown : s.vm.findClass R_GraphSearch = some m.cls := findClass_of_methodNamed B.named
  have hlocks := B.notSynchronized
  subst hsz
  have hD1 := hD0.self (sz := s.heap.size)
  generalize hAe : va_A [oc xa 6 [.ref pa, .ref ga, .ref (xA 0), .ref (xA 1), .ref (xA 2), .ref (xA 3), .ref (xA 4), .ref (xA 5), .ref (xA 6), .ref (xA 7), .ref (xA 8), .ref (xA 9), .ref (xA 10), .ref (xA 11), .ref fa, .int (nI md), .int (nI mb)], ia (xA 3) (xK 3) 7 (fun i => nI ((sc 3) i)), ia (xA 4) (xK 4) 7 (fun i => nI ((sc 4) i)), ia (xA 5) (xK 5) 7 (fun i => nI ((sc 5) i)), oc pa 0 [.ref (pA 0), .ref (pA 1), .ref (pA 2), .ref (pA 3), .ref (pA 4), .ref (pA 5), .ref (pA 6), .ref (pA 7), .ref (pA 8), .ref (pA 9), .ref (pA 10), .int (nI T), .int (nI Ac)], ia (pA 2) (pK 2) 7 (fun i => nI ((pg 2) i)), ia (pA 4) (pK 4) 7 (fun i => nI ((pg 4) i)), ia (pA 5) (pK 5) 7 (fun i => nI ((pg 5) i)), ia (pA 8) (pK 8) 4 (fun i => nI ((pg 8) i)), ia (pA 9) (pK 9) 6 (fun i => nI ((pg 9) i)), ia (pA 10) (pK 10) 3 (fun i => nI ((pg 10) i))] s.heap.size = A at hD1 ⊢
  have hA : ∀ q : Nat, s.heap.size ≤ q → A q := fun q h => by rw [← hAe]; exact Or.inr h
  have hD : dd A [xa, (xA 3), (xA 4), (xA 5), pa, (pA 2), (pA 4), (pA 5), (pA 8), (pA 9), (pA 10)] := dd_of hD1 rfl
  clear hAe hD0 hD1
  have hS : va_S A s.heap s.heap [] := va_S.rf
  replace hP : va_P (dC, dI) classes [oc xa 6 [.ref pa, .ref ga, .ref (xA 0), .ref (xA 1), .ref (xA 2), .ref (xA 3), .ref (xA 4), .ref (xA 5), .ref (xA 6), .ref (xA 7), .ref (xA 8), .ref (xA 9), .ref (xA 10), .ref (xA 11), .ref fa, .int (nI md), .int (nI mb)], ia (xA 3) (xK 3) 7 (fun i => nI ((sc 3) i)), ia (xA 4) (xK 4) 7 (fun i => nI ((sc 4) i)), ia (xA 5) (xK 5) 7 (fun i => nI ((sc 5) i)), oc pa 0 [.ref (pA 0), .ref (pA 1), .ref (pA 2), .ref (pA 3), .ref (pA 4), .ref (pA 5), .ref (pA 6), .ref (pA 7), .ref (pA 8), .ref (pA 9), .ref (pA 10), .int (nI T), .int (nI Ac)], ia (pA 2) (pK 2) 7 (fun i => nI ((pg 2) i)), ia (pA 4) (pK 4) 7 (fun i => nI ((pg 4) i)), ia (pA 5) (pK 5) 7 (fun i => nI ((pg 5) i)), ia (pA 8) (pK 8) 4 (fun i => nI ((pg 8) i)), ia (pA 9) (pK 9) 6 (fun i => nI ((pg 9) i)), ia (pA 10) (pK 10) 3 (fun i => nI ((pg 10) i))] s.heap := hP
  have hl := lv_entry ([.ref xa, .int (nI a)]) (n := 4) (Nat.le_of_ble_eq_true rfl)
  rw [lg_entry_eq]
  generalize (lg_sl ([.ref xa, .int (nI a)]) ++ List.replicate (4 - (lg_sl ([.ref xa, .int (nI a)])).length) Slot.unset).toArray = ls at hl ⊢
  replace hl : lv_has ls 4 [(0, .ref xa), (1, .int (nI a))] := hl
  have hPg3 := hPg
  obtain ⟨p1, p2, p3, p4, p5, p6, p7, p8, p9, p10, p11⟩ := hPg3
  obtain ⟨k1, k2, k3, k4, k5, k6⟩ := p5 a ha
  have ow8 : ownT pg a < 128 := Nat.lt_of_le_of_lt (Nat.mod_le _ _) (p6 _)
  have st8 : pg 9 1 ||| pg 9 2 < 128 := Nat.or_lt_two_pow (n := 7) (p7 1) (p7 2)
  refine lv_aload_n hx hb d_GraphSearch_tellOwn_0 rfl (lv_at hl 0 rfl) ?_
  refine va_get (D := (dC, dI)) (ci := 6) (v := .ref pa) (C := R_GraphSearch) (T := F_GraphSearch) (N := 17) hx hb hw i_GraphSearch hown hK hP 0 rfl rfl 0 (by decide) (hw _ m_319) (fun _ h9 => h9) rfl d_GraphSearch_tellOwn_1 ?_
  refine va_get (D := (dC, dI)) (ci := 0) (v := .ref (pA 4)) (C := R_Program) (T := F_Program) (N := 13) hx hb hw i_Program hown hK hP 4 rfl rfl 4 (by decide) (hw _ m_139) (fun _ h9 => h9) rfl d_GraphSearch_tellOwn_4 ?_
  refine lv_iload_n hx hb d_GraphSearch_tellOwn_7 rfl (lv_at hl 1 rfl) ?_
  refine va_iald (D := (dC, dI)) hx hb hK hP 6 4 rfl rfl (i := nI a) (pk_in a 7 (by omega)) d_GraphSearch_tellOwn_8 ?_
  refine tp_i (y := nI ((pg 4) a)) (by rw [show (nI a : Int32).toNatClampNeg = a from pk_cl a]) ?_
  rcases (by omega : pg 4 a = 0 ∨ pg 4 a = 1 ∨ pg 4 a = 2 ∨ pg 4 a = 3 ∨ pg 4 a = 4 ∨ pg 4 a = 5) with hk | hk | hk | hk | hk | hk
  · skip
    refine tp_i (y := 0) (by rw [hk]; rfl) ?_
    refine lv_istore_n (lv' := [(2, .int 0), (0, .ref xa), (1, .int (nI a))]) hx hb d_GraphSearch_tellOwn_9 rfl hl (by decide) rfl ?_
    clear hl ls
    intro ls hl
    refine lv_iconst (v := 0) hx hb d_GraphSearch_tellOwn_10 (by decide) ?_
    refine lv_istore_n (lv' := [(3, .int 0), (2, .int 0), (0, .ref xa), (1, .int (nI a))]) hx hb d_GraphSearch_tellOwn_11 rfl hl (by decide) rfl ?_
    clear hl ls
    intro ls hl
    refine lv_aload_n hx hb d_GraphSearch_tellOwn_12 rfl (lv_at hl 2 rfl) ?_
    refine va_get (D := (dC, dI)) (ci := 6) (v := .ref (xA 3)) (C := R_GraphSearch) (T := F_GraphSearch) (N := 17) hx hb hw i_GraphSearch hown hK hP 0 rfl rfl 5 (by decide) (hw _ m_324) (fun _ h9 => h9) rfl d_GraphSearch_tellOwn_13 ?_
    refine lv_iload_n hx hb d_GraphSearch_tellOwn_16 rfl (lv_at hl 3 rfl) ?_
    refine lv_aload_n hx hb d_GraphSearch_tellOwn_17 rfl (lv_at hl 2 rfl) ?_
    refine va_get (D := (dC, dI)) (ci := 6) (v := .ref pa) (C := R_GraphSearch) (T := F_GraphSearch) (N := 17) hx hb hw i_GraphSearch hown hK hP 0 rfl rfl 0 (by decide) (hw _ m_319) (fun _ h9 => h9) rfl d_GraphSearch_tellOwn_18 ?_
    refine lv_iload_n hx hb d_GraphSearch_tellOwn_21 rfl (lv_at hl 3 rfl) ?_
    obtain ⟨hPc, hDc, hFc⟩ := cut3 (wc := [oc pa 0 [.ref (pA 0), .ref (pA 1), .ref (pA 2), .ref (pA 3), .ref (pA 4), .ref (pA 5), .ref (pA 6), .ref (pA 7), .ref (pA 8), .ref (pA 9), .ref (pA 10), .int (nI T), .int (nI Ac)], ia (pA 2) (pK 2) 7 (fun i => nI ((pg 2) i)), ia (pA 8) (pK 8) 4 (fun i => nI ((pg 8) i))]) hP hD rfl hS hA [4, 5, 8] (by decide +kernel) rfl
    have hKc := hK.sub (tys' := [((pK 2), .int), ((pK 8), .int)]) [3, 6] rfl
    refine va_calli (va_runV (As := [.int (nI a)]) (rest := [.int (nI a), .ref (xA 3)]) ⟨hx, hb, hml, hown, hw⟩ (gen_Program_ownBefore l dC dI pa pA pK T Ac pg nm a (by omega) (by omega) (p6 _) s.heap.size) (cw_V 1 hw g_Program_ownBefore rfl rfl rfl (hw _ m_102) (hw _ m_752) (hw _ m_753) (hw _ m_754) (by decide +kernel) ⟨Nat.le_of_ble_eq_true rfl, Nat.le_of_ble_eq_true rfl⟩) ⟨fun a U g mk q => by obtain ⟨q0, q1, qP, qK, qD, qN⟩ := q; exact ⟨q0, q1, qP, va_K.moved (u := U) (U := U.calling g mk a) (Vm.Alike.refl U.vm) qK, qD, nw_call qN⟩, va_recv hKc hPc (ci := 0) (q0 := 0) rfl rfl, fun U hU hW => ⟨rfl, by rw [hU], by rw [hU]; exact hPc, va_K.moved hW.alike hKc, hDc.weaken (fun _ _ _ _ => trivial), nw_warm hW hn⟩⟩ rfl rfl hl.1 rfl (lv_room (Nat.le_of_ble_eq_true rfl)) d_GraphSearch_tellOwn_22 ⟨Nat.le_of_ble_eq_true rfl, Nat.le_of_ble_eq_true rfl⟩) hS (fun q _ h => hFc q h) hFc ?_
    intro r_1 u t9 H1 locs1 ht9 hvm hw1 hB hz1 hk1 hS1
    obtain ⟨hP1, hK1, hD1⟩ := hB
    rw [ht9] at hP1
    replace hK1 := va_K.moved hvm.symm hK1
    have hPD := join3 hP hD rfl [4, 5, 8] [0, 1, 2, 3, 6, 7, 9, 10] rfl (by rfl) (by decide +kernel) (by decide +kernel) hk1 hFc hP1 hD1
    replace hK : va_K (dC, dI) classes [((xK 3), .int), ((xK 4), .int), ((xK 5), .int), ((pK 2), .int), ((pK 4), .int), ((pK 5), .int), ((pK 8), .int), ((pK 9), .int), ((pK 10), .int)] s := hK.app hK1
    clear hP1 hK1 hD1 hk1 hz1 hFc hKc hDc hPc hvm ht9 hP hS t9
    have hP : va_P (dC, dI) classes [oc xa 6 [.ref pa, .ref ga, .ref (xA 0), .ref (xA 1), .ref (xA 2), .ref (xA 3), .ref (xA 4), .ref (xA 5), .ref (xA 6), .ref (xA 7), .ref (xA 8), .ref (xA 9), .ref (xA 10), .ref (xA 11), .ref fa, .int (nI md), .int (nI mb)], ia (xA 3) (xK 3) 7 (fun i => nI ((sc 3) i)), ia (xA 4) (xK 4) 7 (fun i => nI ((sc 4) i)), ia (xA 5) (xK 5) 7 (fun i => nI ((sc 5) i)), ia (pA 4) (pK 4) 7 (fun i => nI ((pg 4) i)), ia (pA 5) (pK 5) 7 (fun i => nI ((pg 5) i)), ia (pA 9) (pK 9) 6 (fun i => nI ((pg 9) i)), ia (pA 10) (pK 10) 3 (fun i => nI ((pg 10) i)), oc pa 0 [.ref (pA 0), .ref (pA 1), .ref (pA 2), .ref (pA 3), .ref (pA 4), .ref (pA 5), .ref (pA 6), .ref (pA 7), .ref (pA 8), .ref (pA 9), .ref (pA 10), .int (nI T), .int (nI Ac)], ia (pA 2) (pK 2) 7 (fun i => nI ((pg 2) i)), ia (pA 8) (pK 8) 4 (fun i => nI ((pg 8) i))] H1 := hPD.1
    replace hD : dd A [xa, (xA 3), (xA 4), (xA 5), (pA 4), (pA 5), (pA 9), (pA 10), pa, (pA 2), (pA 8)] := dd_of hPD.2 rfl
    clear hPD
    revert H1 locs1
    intro H locs hS hP
    refine tp_i (y := nI (ownT pg a)) (hw1) ?_
    clear hw1 r_1 u
    have hx3 := k4 (by omega)
    refine tp_pc (pc' := 25) (by rfl) ?_
    refine va_iast (D := (dC, dI)) hx hb hK hP (dd_D hD rfl) hS 1 0 rfl rfl (i := nI a) (x := nI (ownT pg a)) (pk_in a 7 (by omega)) d_GraphSearch_tellOwn_25 ?_
    clear hP hS locs H
    intro H locs hP _ hS
    rw [show (nI a : Int32).toNatClampNeg = a from pk_cl a] at hP
    rw [show upd (fun i => nI ((sc 3) i)) a (nI (ownT pg a)) = fun i => nI (updN (sc 3) a (ownT pg a) i) from upd_nI] at hP
    replace hP : va_P (dC, dI) classes [oc xa 6 [.ref pa, .ref ga, .ref (xA 0), .ref (xA 1), .ref (xA 2), .ref (xA 3), .ref (xA 4), .ref (xA 5), .ref (xA 6), .ref (xA 7), .ref (xA 8), .ref (xA 9), .ref (xA 10), .ref (xA 11), .ref fa, .int (nI md), .int (nI mb)], ia (xA 3) (xK 3) 7 (fun i => nI ((updN (sc 3) a (ownT pg a)) i)), ia (xA 4) (xK 4) 7 (fun i => nI ((sc 4) i)), ia (xA 5) (xK 5) 7 (fun i => nI ((sc 5) i)), ia (pA 4) (pK 4) 7 (fun i => nI ((pg 4) i)), ia (pA 5) (pK 5) 7 (fun i => nI ((pg 5) i)), ia (pA 9) (pK 9) 6 (fun i => nI ((pg 9) i)), ia (pA 10) (pK 10) 3 (fun i => nI ((pg 10) i)), oc pa 0 [.ref (pA 0), .ref (pA 1), .ref (pA 2), .ref (pA 3), .ref (pA 4), .ref (pA 5), .ref (pA 6), .ref (pA 7), .ref (pA 8), .ref (pA 9), .ref (pA 10), .int (nI T), .int (nI Ac)], ia (pA 2) (pK 2) 7 (fun i => nI ((pg 2) i)), ia (pA 8) (pK 8) 4 (fun i => nI ((pg 8) i))] H := hP
    refine tp_pc (pc' := 26) (by rfl) ?_
    refine lv_aload_n hx hb d_GraphSearch_tellOwn_26 rfl (lv_at hl 2 rfl) ?_
    refine va_get (D := (dC, dI)) (ci := 6) (v := .ref (xA 4)) (C := R_GraphSearch) (T := F_GraphSearch) (N := 17) hx hb hw i_GraphSearch hown hK hP 0 rfl rfl 6 (by decide) (hw _ m_325) (fun _ h9 => h9) rfl d_GraphSearch_tellOwn_27 ?_
    refine lv_iload_n hx hb d_GraphSearch_tellOwn_30 rfl (lv_at hl 3 rfl) ?_
    refine lv_iconst (v := 0) hx hb d_GraphSearch_tellOwn_31 (by decide) ?_
    refine va_iast (D := (dC, dI)) hx hb hK hP (dd_D hD rfl) hS 2 1 rfl rfl (i := nI a) (x := 0) (pk_in a 7 (by omega)) d_GraphSearch_tellOwn_32 ?_
    clear hP hS locs H
    intro H locs hP _ hS
    rw [show (nI a : Int32).toNatClampNeg = a from pk_cl a] at hP
    rw [show upd (fun i => nI ((sc 4) i)) a 0 = fun i => nI (updN (sc 4) a 0 i) from upd_nI] at hP
    replace hP : va_P (dC, dI) classes [oc xa 6 [.ref pa, .ref ga, .ref (xA 0), .ref (xA 1), .ref (xA 2), .ref (xA 3), .ref (xA 4), .ref (xA 5), .ref (xA 6), .ref (xA 7), .ref (xA 8), .ref (xA 9), .ref (xA 10), .ref (xA 11), .ref fa, .int (nI md), .int (nI mb)], ia (xA 3) (xK 3) 7 (fun i => nI ((updN (sc 3) a (ownT pg a)) i)), ia (xA 4) (xK 4) 7 (fun i => nI ((updN (sc 4) a 0) i)), ia (xA 5) (xK 5) 7 (fun i => nI ((sc 5) i)), ia (pA 4) (pK 4) 7 (fun i => nI ((pg 4) i)), ia (pA 5) (pK 5) 7 (fun i => nI ((pg 5) i)), ia (pA 9) (pK 9) 6 (fun i => nI ((pg 9) i)), ia (pA 10) (pK 10) 3 (fun i => nI ((pg 10) i)), oc pa 0 [.ref (pA 0), .ref (pA 1), .ref (pA 2), .ref (pA 3), .ref (pA 4), .ref (pA 5), .ref (pA 6), .ref (pA 7), .ref (pA 8), .ref (pA 9), .ref (pA 10), .int (nI T), .int (nI Ac)], ia (pA 2) (pK 2) 7 (fun i => nI ((pg 2) i)), ia (pA 8) (pK 8) 4 (fun i => nI ((pg 8) i))] H := hP
    refine tp_pc (pc' := 33) (by rfl) ?_
    refine lv_iload_n hx hb d_GraphSearch_tellOwn_33 rfl (lv_at hl 1 rfl) ?_
    refine lv_iconst (v := 4) hx hb d_GraphSearch_tellOwn_34 (by decide) ?_
    refine lv_icmp_ge (tgt := 68) hx hb d_GraphSearch_tellOwn_35 (by decide) (fun c_2 => absurd c_2 (by decide)) (fun c_2 => ?_)
    refine tp_pc (pc' := 38) (by rfl) ?_
    refine lv_aload_n hx hb d_GraphSearch_tellOwn_38 rfl (lv_at hl 2 rfl) ?_
    refine va_get (D := (dC, dI)) (ci := 6) (v := .ref (xA 4)) (C := R_GraphSearch) (T := F_GraphSearch) (N := 17) hx hb hw i_GraphSearch hown hK hP 0 rfl rfl 6 (by decide) (hw _ m_325) (fun _ h9 => h9) rfl d_GraphSearch_tellOwn_39 ?_
    refine lv_iload_n hx hb d_GraphSearch_tellOwn_42 rfl (lv_at hl 3 rfl) ?_
    refine lv_aload_n hx hb d_GraphSearch_tellOwn_43 rfl (lv_at hl 2 rfl) ?_
    refine va_get (D := (dC, dI)) (ci := 6) (v := .ref (xA 3)) (C := R_GraphSearch) (T := F_GraphSearch) (N := 17) hx hb hw i_GraphSearch hown hK hP 0 rfl rfl 5 (by decide) (hw _ m_324) (fun _ h9 => h9) rfl d_GraphSearch_tellOwn_44 ?_
    refine lv_iload_n hx hb d_GraphSearch_tellOwn_47 rfl (lv_at hl 3 rfl) ?_
    refine va_iald (D := (dC, dI)) hx hb hK hP 1 0 rfl rfl (i := nI a) (pk_in a 7 (by omega)) d_GraphSearch_tellOwn_48 ?_
    refine tp_i (y := nI ((updN (sc 3) a (ownT pg a)) a)) (by rw [show (nI a : Int32).toNatClampNeg = a from pk_cl a]) ?_
    refine lv_aload_n hx hb d_GraphSearch_tellOwn_49 rfl (lv_at hl 2 rfl) ?_
    refine va_get (D := (dC, dI)) (ci := 6) (v := .ref pa) (C := R_GraphSearch) (T := F_GraphSearch) (N := 17) hx hb hw i_GraphSearch hown hK hP 0 rfl rfl 0 (by decide) (hw _ m_319) (fun _ h9 => h9) rfl d_GraphSearch_tellOwn_50 ?_
    refine va_get (D := (dC, dI)) (ci := 0) (v := .ref (pA 10)) (C := R_Program) (T := F_Program) (N := 13) hx hb hw i_Program hown hK hP 8 rfl rfl 10 (by decide) (hw _ m_158) (fun _ h9 => h9) rfl d_GraphSearch_tellOwn_53 ?_
    refine lv_aload_n hx hb d_GraphSearch_tellOwn_56 rfl (lv_at hl 2 rfl) ?_
    refine va_get (D := (dC, dI)) (ci := 6) (v := .ref pa) (C := R_GraphSearch) (T := F_GraphSearch) (N := 17) hx hb hw i_GraphSearch hown hK hP 0 rfl rfl 0 (by decide) (hw _ m_319) (fun _ h9 => h9) rfl d_GraphSearch_tellOwn_57 ?_
    refine va_get (D := (dC, dI)) (ci := 0) (v := .ref (pA 5)) (C := R_Program) (T := F_Program) (N := 13) hx hb hw i_Program hown hK hP 8 rfl rfl 5 (by decide) (hw _ m_144) (fun _ h9 => h9) rfl d_GraphSearch_tellOwn_60 ?_
    refine lv_iload_n hx hb d_GraphSearch_tellOwn_63 rfl (lv_at hl 3 rfl) ?_
    refine va_iald (D := (dC, dI)) hx hb hK hP 5 5 rfl rfl (i := nI a) (pk_in a 7 (by omega)) d_GraphSearch_tellOwn_64 ?_
    refine tp_i (y := nI ((pg 5) a)) (by rw [show (nI a : Int32).toNatClampNeg = a from pk_cl a]) ?_
    refine va_iald (D := (dC, dI)) hx hb hK hP 7 8 rfl rfl (i := nI ((pg 5) a)) (pk_in ((pg 5) a) 3 (by omega)) d_GraphSearch_tellOwn_65 ?_
    refine tp_i (y := nI ((pg 10) ((pg 5) a))) (by rw [show (nI ((pg 5) a) : Int32).toNatClampNeg = (pg 5) a from pk_cl ((pg 5) a)]) ?_
    refine lv_iand hx hb d_GraphSearch_tellOwn_66 ?_
    refine tp_i (y := (nI ((updN (sc 3) a (ownT pg a)) a)) &&& (nI ((pg 10) ((pg 5) a)))) rfl ?_
    refine tp_i (y := nI (ownT pg a &&& pg 10 (pg 5 a))) (by rw [updN_s]; exact and_eq ow8 (p8 _)) ?_
    refine va_iast (D := (dC, dI)) hx hb hK hP (dd_D hD rfl) hS 2 1 rfl rfl (i := nI a) (x := nI (ownT pg a &&& pg 10 (pg 5 a))) (pk_in a 7 (by omega)) d_GraphSearch_tellOwn_67 ?_
    clear hP hS locs H
    intro H locs hP _ hS
    rw [show (nI a : Int32).toNatClampNeg = a from pk_cl a] at hP
    rw [show upd (fun i => nI ((updN (sc 4) a 0) i)) a (nI (ownT pg a &&& pg 10 (pg 5 a))) = fun i => nI (updN (updN (sc 4) a 0) a (ownT pg a &&& pg 10 (pg 5 a)) i) from upd_nI] at hP
    replace hP : va_P (dC, dI) classes [oc xa 6 [.ref pa, .ref ga, .ref (xA 0), .ref (xA 1), .ref (xA 2), .ref (xA 3), .ref (xA 4), .ref (xA 5), .ref (xA 6), .ref (xA 7), .ref (xA 8), .ref (xA 9), .ref (xA 10), .ref (xA 11), .ref fa, .int (nI md), .int (nI mb)], ia (xA 3) (xK 3) 7 (fun i => nI ((updN (sc 3) a (ownT pg a)) i)), ia (xA 4) (xK 4) 7 (fun i => nI ((updN (updN (sc 4) a 0) a (ownT pg a &&& pg 10 (pg 5 a))) i)), ia (xA 5) (xK 5) 7 (fun i => nI ((sc 5) i)), ia (pA 4) (pK 4) 7 (fun i => nI ((pg 4) i)), ia (pA 5) (pK 5) 7 (fun i => nI ((pg 5) i)), ia (pA 9) (pK 9) 6 (fun i => nI ((pg 9) i)), ia (pA 10) (pK 10) 3 (fun i => nI ((pg 10) i)), oc pa 0 [.ref (pA 0), .ref (pA 1), .ref (pA 2), .ref (pA 3), .ref (pA 4), .ref (pA 5), .ref (pA 6), .ref (pA 7), .ref (pA 8), .ref (pA 9), .ref (pA 10), .int (nI T), .int (nI Ac)], ia (pA 2) (pK 2) 7 (fun i => nI ((pg 2) i)), ia (pA 8) (pK 8) 4 (fun i => nI ((pg 8) i))] H := hP
    refine tp_pc (pc' := 68) (by rfl) ?_
    rw [updN_2, show updN (sc 4) a (ownT pg a &&& pg 10 (pg 5 a)) = updN (sc 4) a (onoT pg a) from by rw [onoT, if_pos (by omega)]] at hP
    replace hP : va_P (dC, dI) classes [oc xa 6 [.ref pa, .ref ga, .ref (xA 0), .ref (xA 1), .ref (xA 2), .ref (xA 3), .ref (xA 4), .ref (xA 5), .ref (xA 6), .ref (xA 7), .ref (xA 8), .ref (xA 9), .ref (xA 10), .ref (xA 11), .ref fa, .int (nI md), .int (nI mb)], ia (xA 3) (xK 3) 7 (fun i => nI ((updN (sc 3) a (ownT pg a)) i)), ia (xA 4) (xK 4) 7 (fun i => nI ((updN (sc 4) a (onoT pg a)) i)), ia (xA 5) (xK 5) 7 (fun i => nI ((sc 5) i)), ia (pA 4) (pK 4) 7 (fun i => nI ((pg 4) i)), ia (pA 5) (pK 5) 7 (fun i => nI ((pg 5) i)), ia (pA 9) (pK 9) 6 (fun i => nI ((pg 9) i)), ia (pA 10) (pK 10) 3 (fun i => nI ((pg 10) i)), oc pa 0 [.ref (pA 0), .ref (pA 1), .ref (pA 2), .ref (pA 3), .ref (pA 4), .ref (pA 5), .ref (pA 6), .ref (pA 7), .ref (pA 8), .ref (pA 9), .ref (pA 10), .int (nI T), .int (nI Ac)], ia (pA 2) (pK 2) 7 (fun i => nI ((pg 2) i)), ia (pA 8) (pK 8) 4 (fun i => nI ((pg 8) i))] H := hP
    refine lv_iload_n hx hb d_GraphSearch_tellOwn_68 rfl (lv_at hl 1 rfl) ?_
    refine lv_if_ne (tgt := 83) hx hb d_GraphSearch_tellOwn_69 (by decide) (fun c_3 => absurd c_3 (by decide)) (fun c_3 => ?_)
    refine tp_pc (pc' := 72) (by rfl) ?_
    refine lv_aload_n hx hb d_GraphSearch_tellOwn_72 rfl (lv_at hl 2 rfl) ?_
    refine va_get (D := (dC, dI)) (ci := 6) (v := .ref pa) (C := R_GraphSearch) (T := F_GraphSearch) (N := 17) hx hb hw i_GraphSearch hown hK hP 0 rfl rfl 0 (by decide) (hw _ m_319) (fun _ h9 => h9) rfl d_GraphSearch_tellOwn_73 ?_
    obtain ⟨hPc, hDc, hFc⟩ := cut3 (wc := [oc pa 0 [.ref (pA 0), .ref (pA 1), .ref (pA 2), .ref (pA 3), .ref (pA 4), .ref (pA 5), .ref (pA 6), .ref (pA 7), .ref (pA 8), .ref (pA 9), .ref (pA 10), .int (nI T), .int (nI Ac)], ia (pA 9) (pK 9) 6 (fun i => nI ((pg 9) i))]) hP hD rfl hS hA [8, 6] (by decide +kernel) rfl
    have hKc := hK.sub (tys' := [((pK 9), .int)]) [7] rfl
    refine va_calli (va_runV (As := []) (rest := []) ⟨hx, hb, hml, hown, hw⟩ (gen_Program_stores l dC dI pa pA pK T Ac pg nm (p7 1) (p7 2) H.size) (cw_V 0 hw g_Program_stores rfl rfl rfl (hw _ m_102) (hw _ m_756) (hw _ m_757) (hw _ m_758) (by decide +kernel) ⟨Nat.le_of_ble_eq_true rfl, Nat.le_of_ble_eq_true rfl⟩) ⟨fun a U g mk q => by obtain ⟨q0, q1, qP, qK, qD, qN⟩ := q; exact ⟨q0, q1, qP, va_K.moved (u := U) (U := U.calling g mk a) (Vm.Alike.refl U.vm) qK, qD, nw_call qN⟩, va_recv hKc hPc (ci := 0) (q0 := 0) rfl rfl, fun U hU hW => ⟨rfl, by rw [hU], by rw [hU]; exact hPc, va_K.moved hW.alike hKc, hDc.weaken (fun _ _ _ _ => trivial), nw_warm hW hn⟩⟩ rfl rfl hl.1 rfl (lv_room (Nat.le_of_ble_eq_true rfl)) d_GraphSearch_tellOwn_76 ⟨Nat.le_of_ble_eq_true rfl, Nat.le_of_ble_eq_true rfl⟩) hS (fun q _ h => hFc q h) hFc ?_
    intro r_4 u t9 H1 locs1 ht9 hvm hw1 hB hz1 hk1 hS1
    obtain ⟨hP1, hK1, hD1⟩ := hB
    rw [ht9] at hP1
    replace hK1 := va_K.moved hvm.symm hK1
    have hPD := join3 hP hD rfl [8, 6] [0, 1, 2, 3, 4, 5, 7, 9, 10] rfl (by rfl) (by decide +kernel) (by decide +kernel) hk1 hFc hP1 hD1
    replace hK : va_K (dC, dI) classes [((xK 3), .int), ((xK 4), .int), ((xK 5), .int), ((pK 2), .int), ((pK 4), .int), ((pK 5), .int), ((pK 8), .int), ((pK 9), .int), ((pK 10), .int)] s := hK.app hK1
    clear hP1 hK1 hD1 hk1 hz1 hFc hKc hDc hPc hvm ht9 hP hS t9 locs H
    have hP : va_P (dC, dI) classes [oc xa 6 [.ref pa, .ref ga, .ref (xA 0), .ref (xA 1), .ref (xA 2), .ref (xA 3), .ref (xA 4), .ref (xA 5), .ref (xA 6), .ref (xA 7), .ref (xA 8), .ref (xA 9), .ref (xA 10), .ref (xA 11), .ref fa, .int (nI md), .int (nI mb)], ia (xA 3) (xK 3) 7 (fun i => nI ((updN (sc 3) a (ownT pg a)) i)), ia (xA 4) (xK 4) 7 (fun i => nI ((updN (sc 4) a (onoT pg a)) i)), ia (xA 5) (xK 5) 7 (fun i => nI ((sc 5) i)), ia (pA 4) (pK 4) 7 (fun i => nI ((pg 4) i)), ia (pA 5) (pK 5) 7 (fun i => nI ((pg 5) i)), ia (pA 10) (pK 10) 3 (fun i => nI ((pg 10) i)), ia (pA 2) (pK 2) 7 (fun i => nI ((pg 2) i)), ia (pA 8) (pK 8) 4 (fun i => nI ((pg 8) i)), oc pa 0 [.ref (pA 0), .ref (pA 1), .ref (pA 2), .ref (pA 3), .ref (pA 4), .ref (pA 5), .ref (pA 6), .ref (pA 7), .ref (pA 8), .ref (pA 9), .ref (pA 10), .int (nI T), .int (nI Ac)], ia (pA 9) (pK 9) 6 (fun i => nI ((pg 9) i))] H1 := hPD.1
    replace hD : dd A [xa, (xA 3), (xA 4), (xA 5), (pA 4), (pA 5), (pA 10), (pA 2), (pA 8), pa, (pA 9)] := dd_of hPD.2 rfl
    clear hPD
    revert H1 locs1
    intro H locs hS hP
    refine tp_i (y := nI (pg 9 1 ||| pg 9 2)) (hw1) ?_
    clear hw1 r_4 u
    refine tp_pc (pc' := 79) (by rfl) ?_
    refine lv_istore_n (lv' := [(3, .int (nI (pg 9 1 ||| pg 9 2))), (2, .int 0), (0, .ref xa), (1, .int (nI a))]) hx hb d_GraphSearch_tellOwn_79 rfl hl (by decide) rfl ?_
    clear hl ls
    intro ls hl
    refine lv_goto (tgt := 129) hx hb d_GraphSearch_tellOwn_80 (by decide) ?_
    refine tp_pc (pc' := 129) (by rfl) ?_
    refine lv_aload_n hx hb d_GraphSearch_tellOwn_129 rfl (lv_at hl 2 rfl) ?_
    refine va_get (D := (dC, dI)) (ci := 6) (v := .ref (xA 5)) (C := R_GraphSearch) (T := F_GraphSearch) (N := 17) hx hb hw i_GraphSearch hown hK hP 0 rfl rfl 7 (by decide) (hw _ m_326) (fun _ h9 => h9) rfl d_GraphSearch_tellOwn_130 ?_
    refine lv_iload_n hx hb d_GraphSearch_tellOwn_133 rfl (lv_at hl 3 rfl) ?_
    refine lv_aload_n hx hb d_GraphSearch_tellOwn_134 rfl (lv_at hl 2 rfl) ?_
    refine va_get (D := (dC, dI)) (ci := 6) (v := .ref (xA 3)) (C := R_GraphSearch) (T := F_GraphSearch) (N := 17) hx hb hw i_GraphSearch hown hK hP 0 rfl rfl 5 (by decide) (hw _ m_324) (fun _ h9 => h9) rfl d_GraphSearch_tellOwn_135 ?_
    refine lv_iload_n hx hb d_GraphSearch_tellOwn_138 rfl (lv_at hl 3 rfl) ?_
    refine va_iald (D := (dC, dI)) hx hb hK hP 1 0 rfl rfl (i := nI a) (pk_in a 7 (by omega)) d_GraphSearch_tellOwn_139 ?_
    refine tp_i (y := nI ((updN (sc 3) a (ownT pg a)) a)) (by rw [show (nI a : Int32).toNatClampNeg = a from pk_cl a]) ?_
    refine lv_iload_n hx hb d_GraphSearch_tellOwn_140 rfl (lv_at hl 0 rfl) ?_
    refine lv_iconst (v := (-1)) hx hb d_GraphSearch_tellOwn_141 (by decide) ?_
    refine lv_ixor hx hb d_GraphSearch_tellOwn_142 ?_
    refine tp_i (y := (nI (pg 9 1 ||| pg 9 2)) ^^^ (-1)) rfl ?_
    refine lv_iand hx hb d_GraphSearch_tellOwn_143 ?_
    refine tp_i (y := (nI ((updN (sc 3) a (ownT pg a)) a)) &&& ((nI (pg 9 1 ||| pg 9 2)) ^^^ (-1))) rfl ?_
    refine tp_i (y := nI (okpT pg md a)) (by rw [updN_s, okpT, show lftT pg md a = pg 9 1 ||| pg 9 2 from by rw [lftT, if_pos hk]]; exact andn_eq _ ow8 _ st8) ?_
    refine va_iast (D := (dC, dI)) hx hb hK hP (dd_D hD rfl) hS 3 2 rfl rfl (i := nI a) (x := nI (okpT pg md a)) (pk_in a 7 (by omega)) d_GraphSearch_tellOwn_144 ?_
    clear hP hS locs H
    intro H locs hP _ hS
    rw [show (nI a : Int32).toNatClampNeg = a from pk_cl a] at hP
    rw [show upd (fun i => nI ((sc 5) i)) a (nI (okpT pg md a)) = fun i => nI (updN (sc 5) a (okpT pg md a) i) from upd_nI] at hP
    replace hP : va_P (dC, dI) classes [oc xa 6 [.ref pa, .ref ga, .ref (xA 0), .ref (xA 1), .ref (xA 2), .ref (xA 3), .ref (xA 4), .ref (xA 5), .ref (xA 6), .ref (xA 7), .ref (xA 8), .ref (xA 9), .ref (xA 10), .ref (xA 11), .ref fa, .int (nI md), .int (nI mb)], ia (xA 3) (xK 3) 7 (fun i => nI ((updN (sc 3) a (ownT pg a)) i)), ia (xA 4) (xK 4) 7 (fun i => nI ((updN (sc 4) a (onoT pg a)) i)), ia (xA 5) (xK 5) 7 (fun i => nI ((updN (sc 5) a (okpT pg md a)) i)), ia (pA 4) (pK 4) 7 (fun i => nI ((pg 4) i)), ia (pA 5) (pK 5) 7 (fun i => nI ((pg 5) i)), ia (pA 10) (pK 10) 3 (fun i => nI ((pg 10) i)), ia (pA 2) (pK 2) 7 (fun i => nI ((pg 2) i)), ia (pA 8) (pK 8) 4 (fun i => nI ((pg 8) i)), oc pa 0 [.ref (pA 0), .ref (pA 1), .ref (pA 2), .ref (pA 3), .ref (pA 4), .ref (pA 5), .ref (pA 6), .ref (pA 7), .ref (pA 8), .ref (pA 9), .ref (pA 10), .int (nI T), .int (nI Ac)], ia (pA 9) (pK 9) 6 (fun i => nI ((pg 9) i))] H := hP
    refine tp_pc (pc' := 145) (by rfl) ?_
    obtain ⟨hP9, hD9, -⟩ := cut3 (wc := [oc xa 6 [.ref pa, .ref ga, .ref (xA 0), .ref (xA 1), .ref (xA 2), .ref (xA 3), .ref (xA 4), .ref (xA 5), .ref (xA 6), .ref (xA 7), .ref (xA 8), .ref (xA 9), .ref (xA 10), .ref (xA 11), .ref fa, .int (nI md), .int (nI mb)], ia (xA 3) (xK 3) 7 (fun i => nI ((updN (sc 3) a (ownT pg a)) i)), ia (xA 4) (xK 4) 7 (fun i => nI ((updN (sc 4) a (onoT pg a)) i)), ia (xA 5) (xK 5) 7 (fun i => nI ((updN (sc 5) a (okpT pg md a)) i)), oc pa 0 [.ref (pA 0), .ref (pA 1), .ref (pA 2), .ref (pA 3), .ref (pA 4), .ref (pA 5), .ref (pA 6), .ref (pA 7), .ref (pA 8), .ref (pA 9), .ref (pA 10), .int (nI T), .int (nI Ac)], ia (pA 2) (pK 2) 7 (fun i => nI ((pg 2) i)), ia (pA 4) (pK 4) 7 (fun i => nI ((pg 4) i)), ia (pA 5) (pK 5) 7 (fun i => nI ((pg 5) i)), ia (pA 8) (pK 8) 4 (fun i => nI ((pg 8) i)), ia (pA 9) (pK 9) 6 (fun i => nI ((pg 9) i)), ia (pA 10) (pK 10) 3 (fun i => nI ((pg 10) i))]) hP hD rfl hS hA [0, 1, 2, 3, 9, 7, 4, 5, 8, 10, 6] (by decide +kernel) rfl
    have hK9 := hK.sub (tys' := []) [] rfl
    refine W.widen (k := 0) (n := 0) (by exact Nat.le_of_ble_eq_true rfl) (by exact Nat.le_of_ble_eq_true rfl) ?_
    exact W.vret hx hb hr (fun t9 ht9 hW => ⟨⟨(), rfl, trivial, by rw [ht9]; exact hP9, va_K.moved hW.alike hK9, hD9⟩, hS.F ht9⟩) hS.2.2 d_GraphSearch_tellOwn_145
  · skip
    refine tp_i (y := 1) (by rw [hk]; rfl) ?_
    refine lv_istore_n (lv' := [(2, .int 1), (0, .ref xa), (1, .int (nI a))]) hx hb d_GraphSearch_tellOwn_9 rfl hl (by decide) rfl ?_
    clear hl ls
    intro ls hl
    refine lv_iconst (v := 0) hx hb d_GraphSearch_tellOwn_10 (by decide) ?_
    refine lv_istore_n (lv' := [(3, .int 0), (2, .int 1), (0, .ref xa), (1, .int (nI a))]) hx hb d_GraphSearch_tellOwn_11 rfl hl (by decide) rfl ?_
    clear hl ls
    intro ls hl
    refine lv_aload_n hx hb d_GraphSearch_tellOwn_12 rfl (lv_at hl 2 rfl) ?_
    refine va_get (D := (dC, dI)) (ci := 6) (v := .ref (xA 3)) (C := R_GraphSearch) (T := F_GraphSearch) (N := 17) hx hb hw i_GraphSearch hown hK hP 0 rfl rfl 5 (by decide) (hw _ m_324) (fun _ h9 => h9) rfl d_GraphSearch_tellOwn_13 ?_
    refine lv_iload_n hx hb d_GraphSearch_tellOwn_16 rfl (lv_at hl 3 rfl) ?_
    refine lv_aload_n hx hb d_GraphSearch_tellOwn_17 rfl (lv_at hl 2 rfl) ?_
    refine va_get (D := (dC, dI)) (ci := 6) (v := .ref pa) (C := R_GraphSearch) (T := F_GraphSearch) (N := 17) hx hb hw i_GraphSearch hown hK hP 0 rfl rfl 0 (by decide) (hw _ m_319) (fun _ h9 => h9) rfl d_GraphSearch_tellOwn_18 ?_
    refine lv_iload_n hx hb d_GraphSearch_tellOwn_21 rfl (lv_at hl 3 rfl) ?_
    obtain ⟨hPc, hDc, hFc⟩ := cut3 (wc := [oc pa 0 [.ref (pA 0), .ref (pA 1), .ref (pA 2), .ref (pA 3), .ref (pA 4), .ref (pA 5), .ref (pA 6), .ref (pA 7), .ref (pA 8), .ref (pA 9), .ref (pA 10), .int (nI T), .int (nI Ac)], ia (pA 2) (pK 2) 7 (fun i => nI ((pg 2) i)), ia (pA 8) (pK 8) 4 (fun i => nI ((pg 8) i))]) hP hD rfl hS hA [4, 5, 8] (by decide +kernel) rfl
    have hKc := hK.sub (tys' := [((pK 2), .int), ((pK 8), .int)]) [3, 6] rfl
    refine va_calli (va_runV (As := [.int (nI a)]) (rest := [.int (nI a), .ref (xA 3)]) ⟨hx, hb, hml, hown, hw⟩ (gen_Program_ownBefore l dC dI pa pA pK T Ac pg nm a (by omega) (by omega) (p6 _) s.heap.size) (cw_V 1 hw g_Program_ownBefore rfl rfl rfl (hw _ m_102) (hw _ m_752) (hw _ m_753) (hw _ m_754) (by decide +kernel) ⟨Nat.le_of_ble_eq_true rfl, Nat.le_of_ble_eq_true rfl⟩) ⟨fun a U g mk q => by obtain ⟨q0, q1, qP, qK, qD, qN⟩ := q; exact ⟨q0, q1, qP, va_K.moved (u := U) (U := U.calling g mk a) (Vm.Alike.refl U.vm) qK, qD, nw_call qN⟩, va_recv hKc hPc (ci := 0) (q0 := 0) rfl rfl, fun U hU hW => ⟨rfl, by rw [hU], by rw [hU]; exact hPc, va_K.moved hW.alike hKc, hDc.weaken (fun _ _ _ _ => trivial), nw_warm hW hn⟩⟩ rfl rfl hl.1 rfl (lv_room (Nat.le_of_ble_eq_true rfl)) d_GraphSearch_tellOwn_22 ⟨Nat.le_of_ble_eq_true rfl, Nat.le_of_ble_eq_true rfl⟩) hS (fun q _ h => hFc q h) hFc ?_
    intro r_5 u t9 H1 locs1 ht9 hvm hw1 hB hz1 hk1 hS1
    obtain ⟨hP1, hK1, hD1⟩ := hB
    rw [ht9] at hP1
    replace hK1 := va_K.moved hvm.symm hK1
    have hPD := join3 hP hD rfl [4, 5, 8] [0, 1, 2, 3, 6, 7, 9, 10] rfl (by rfl) (by decide +kernel) (by decide +kernel) hk1 hFc hP1 hD1
    replace hK : va_K (dC, dI) classes [((xK 3), .int), ((xK 4), .int), ((xK 5), .int), ((pK 2), .int), ((pK 4), .int), ((pK 5), .int), ((pK 8), .int), ((pK 9), .int), ((pK 10), .int)] s := hK.app hK1
    clear hP1 hK1 hD1 hk1 hz1 hFc hKc hDc hPc hvm ht9 hP hS t9
    have hP : va_P (dC, dI) classes [oc xa 6 [.ref pa, .ref ga, .ref (xA 0), .ref (xA 1), .ref (xA 2), .ref (xA 3), .ref (xA 4), .ref (xA 5), .ref (xA 6), .ref (xA 7), .ref (xA 8), .ref (xA 9), .ref (xA 10), .ref (xA 11), .ref fa, .int (nI md), .int (nI mb)], ia (xA 3) (xK 3) 7 (fun i => nI ((sc 3) i)), ia (xA 4) (xK 4) 7 (fun i => nI ((sc 4) i)), ia (xA 5) (xK 5) 7 (fun i => nI ((sc 5) i)), ia (pA 4) (pK 4) 7 (fun i => nI ((pg 4) i)), ia (pA 5) (pK 5) 7 (fun i => nI ((pg 5) i)), ia (pA 9) (pK 9) 6 (fun i => nI ((pg 9) i)), ia (pA 10) (pK 10) 3 (fun i => nI ((pg 10) i)), oc pa 0 [.ref (pA 0), .ref (pA 1), .ref (pA 2), .ref (pA 3), .ref (pA 4), .ref (pA 5), .ref (pA 6), .ref (pA 7), .ref (pA 8), .ref (pA 9), .ref (pA 10), .int (nI T), .int (nI Ac)], ia (pA 2) (pK 2) 7 (fun i => nI ((pg 2) i)), ia (pA 8) (pK 8) 4 (fun i => nI ((pg 8) i))] H1 := hPD.1
    replace hD : dd A [xa, (xA 3), (xA 4), (xA 5), (pA 4), (pA 5), (pA 9), (pA 10), pa, (pA 2), (pA 8)] := dd_of hPD.2 rfl
    clear hPD
    revert H1 locs1
    intro H locs hS hP
    refine tp_i (y := nI (ownT pg a)) (hw1) ?_
    clear hw1 r_5 u
    have hx3 := k4 (by omega)
    refine tp_pc (pc' := 25) (by rfl) ?_
    refine va_iast (D := (dC, dI)) hx hb hK hP (dd_D hD rfl) hS 1 0 rfl rfl (i := nI a) (x := nI (ownT pg a)) (pk_in a 7 (by omega)) d_GraphSearch_tellOwn_25 ?_
    clear hP hS locs H
    intro H locs hP _ hS
    rw [show (nI a : Int32).toNatClampNeg = a from pk_cl a] at hP
    rw [show upd (fun i => nI ((sc 3) i)) a (nI (ownT pg a)) = fun i => nI (updN (sc 3) a (ownT pg a) i) from upd_nI] at hP
    replace hP : va_P (dC, dI) classes [oc xa 6 [.ref pa, .ref ga, .ref (xA 0), .ref (xA 1), .ref (xA 2), .ref (xA 3), .ref (xA 4), .ref (xA 5), .ref (xA 6), .ref (xA 7), .ref (xA 8), .ref (xA 9), .ref (xA 10), .ref (xA 11), .ref fa, .int (nI md), .int (nI mb)], ia (xA 3) (xK 3) 7 (fun i => nI ((updN (sc 3) a (ownT pg a)) i)), ia (xA 4) (xK 4) 7 (fun i => nI ((sc 4) i)), ia (xA 5) (xK 5) 7 (fun i => nI ((sc 5) i)), ia (pA 4) (pK 4) 7 (fun i => nI ((pg 4) i)), ia (pA 5) (pK 5) 7 (fun i => nI ((pg 5) i)), ia (pA 9) (pK 9) 6 (fun i => nI ((pg 9) i)), ia (pA 10) (pK 10) 3 (fun i => nI ((pg 10) i)), oc pa 0 [.ref (pA 0), .ref (pA 1), .ref (pA 2), .ref (pA 3), .ref (pA 4), .ref (pA 5), .ref (pA 6), .ref (pA 7), .ref (pA 8), .ref (pA 9), .ref (pA 10), .int (nI T), .int (nI Ac)], ia (pA 2) (pK 2) 7 (fun i => nI ((pg 2) i)), ia (pA 8) (pK 8) 4 (fun i => nI ((pg 8) i))] H := hP
    refine tp_pc (pc' := 26) (by rfl) ?_
    refine lv_aload_n hx hb d_GraphSearch_tellOwn_26 rfl (lv_at hl 2 rfl) ?_
    refine va_get (D := (dC, dI)) (ci := 6) (v := .ref (xA 4)) (C := R_GraphSearch) (T := F_GraphSearch) (N := 17) hx hb hw i_GraphSearch hown hK hP 0 rfl rfl 6 (by decide) (hw _ m_325) (fun _ h9 => h9) rfl d_GraphSearch_tellOwn_27 ?_
    refine lv_iload_n hx hb d_GraphSearch_tellOwn_30 rfl (lv_at hl 3 rfl) ?_
    refine lv_iconst (v := 0) hx hb d_GraphSearch_tellOwn_31 (by decide) ?_
    refine va_iast (D := (dC, dI)) hx hb hK hP (dd_D hD rfl) hS 2 1 rfl rfl (i := nI a) (x := 0) (pk_in a 7 (by omega)) d_GraphSearch_tellOwn_32 ?_
    clear hP hS locs H
    intro H locs hP _ hS
    rw [show (nI a : Int32).toNatClampNeg = a from pk_cl a] at hP
    rw [show upd (fun i => nI ((sc 4) i)) a 0 = fun i => nI (updN (sc 4) a 0 i) from upd_nI] at hP
    replace hP : va_P (dC, dI) classes [oc xa 6 [.ref pa, .ref ga, .ref (xA 0), .ref (xA 1), .ref (xA 2), .ref (xA 3), .ref (xA 4), .ref (xA 5), .ref (xA 6), .ref (xA 7), .ref (xA 8), .ref (xA 9), .ref (xA 10), .ref (xA 11), .ref fa, .int (nI md), .int (nI mb)], ia (xA 3) (xK 3) 7 (fun i => nI ((updN (sc 3) a (ownT pg a)) i)), ia (xA 4) (xK 4) 7 (fun i => nI ((updN (sc 4) a 0) i)), ia (xA 5) (xK 5) 7 (fun i => nI ((sc 5) i)), ia (pA 4) (pK 4) 7 (fun i => nI ((pg 4) i)), ia (pA 5) (pK 5) 7 (fun i => nI ((pg 5) i)), ia (pA 9) (pK 9) 6 (fun i => nI ((pg 9) i)), ia (pA 10) (pK 10) 3 (fun i => nI ((pg 10) i)), oc pa 0 [.ref (pA 0), .ref (pA 1), .ref (pA 2), .ref (pA 3), .ref (pA 4), .ref (pA 5), .ref (pA 6), .ref (pA 7), .ref (pA 8), .ref (pA 9), .ref (pA 10), .int (nI T), .int (nI Ac)], ia (pA 2) (pK 2) 7 (fun i => nI ((pg 2) i)), ia (pA 8) (pK 8) 4 (fun i => nI ((pg 8) i))] H := hP
    refine tp_pc (pc' := 33) (by rfl) ?_
    refine lv_iload_n hx hb d_GraphSearch_tellOwn_33 rfl (lv_at hl 1 rfl) ?_
    refine lv_iconst (v := 4) hx hb d_GraphSearch_tellOwn_34 (by decide) ?_
    refine lv_icmp_ge (tgt := 68) hx hb d_GraphSearch_tellOwn_35 (by decide) (fun c_6 => absurd c_6 (by decide)) (fun c_6 => ?_)
    refine tp_pc (pc' := 38) (by rfl) ?_
    refine lv_aload_n hx hb d_GraphSearch_tellOwn_38 rfl (lv_at hl 2 rfl) ?_
    refine va_get (D := (dC, dI)) (ci := 6) (v := .ref (xA 4)) (C := R_GraphSearch) (T := F_GraphSearch) (N := 17) hx hb hw i_GraphSearch hown hK hP 0 rfl rfl 6 (by decide) (hw _ m_325) (fun _ h9 => h9) rfl d_GraphSearch_tellOwn_39 ?_
    refine lv_iload_n hx hb d_GraphSearch_tellOwn_42 rfl (lv_at hl 3 rfl) ?_
    refine lv_aload_n hx hb d_GraphSearch_tellOwn_43 rfl (lv_at hl 2 rfl) ?_
    refine va_get (D := (dC, dI)) (ci := 6) (v := .ref (xA 3)) (C := R_GraphSearch) (T := F_GraphSearch) (N := 17) hx hb hw i_GraphSearch hown hK hP 0 rfl rfl 5 (by decide) (hw _ m_324) (fun _ h9 => h9) rfl d_GraphSearch_tellOwn_44 ?_
    refine lv_iload_n hx hb d_GraphSearch_tellOwn_47 rfl (lv_at hl 3 rfl) ?_
    refine va_iald (D := (dC, dI)) hx hb hK hP 1 0 rfl rfl (i := nI a) (pk_in a 7 (by omega)) d_GraphSearch_tellOwn_48 ?_
    refine tp_i (y := nI ((updN (sc 3) a (ownT pg a)) a)) (by rw [show (nI a : Int32).toNatClampNeg = a from pk_cl a]) ?_
    refine lv_aload_n hx hb d_GraphSearch_tellOwn_49 rfl (lv_at hl 2 rfl) ?_
    refine va_get (D := (dC, dI)) (ci := 6) (v := .ref pa) (C := R_GraphSearch) (T := F_GraphSearch) (N := 17) hx hb hw i_GraphSearch hown hK hP 0 rfl rfl 0 (by decide) (hw _ m_319) (fun _ h9 => h9) rfl d_GraphSearch_tellOwn_50 ?_
    refine va_get (D := (dC, dI)) (ci := 0) (v := .ref (pA 10)) (C := R_Program) (T := F_Program) (N := 13) hx hb hw i_Program hown hK hP 8 rfl rfl 10 (by decide) (hw _ m_158) (fun _ h9 => h9) rfl d_GraphSearch_tellOwn_53 ?_
    refine lv_aload_n hx hb d_GraphSearch_tellOwn_56 rfl (lv_at hl 2 rfl) ?_
    refine va_get (D := (dC, dI)) (ci := 6) (v := .ref pa) (C := R_GraphSearch) (T := F_GraphSearch) (N := 17) hx hb hw i_GraphSearch hown hK hP 0 rfl rfl 0 (by decide) (hw _ m_319) (fun _ h9 => h9) rfl d_GraphSearch_tellOwn_57 ?_
    refine va_get (D := (dC, dI)) (ci := 0) (v := .ref (pA 5)) (C := R_Program) (T := F_Program) (N := 13) hx hb hw i_Program hown hK hP 8 rfl rfl 5 (by decide) (hw _ m_144) (fun _ h9 => h9) rfl d_GraphSearch_tellOwn_60 ?_
    refine lv_iload_n hx hb d_GraphSearch_tellOwn_63 rfl (lv_at hl 3 rfl) ?_
    refine va_iald (D := (dC, dI)) hx hb hK hP 5 5 rfl rfl (i := nI a) (pk_in a 7 (by omega)) d_GraphSearch_tellOwn_64 ?_
    refine tp_i (y := nI ((pg 5) a)) (by rw [show (nI a : Int32).toNatClampNeg = a from pk_cl a]) ?_
    refine va_iald (D := (dC, dI)) hx hb hK hP 7 8 rfl rfl (i := nI ((pg 5) a)) (pk_in ((pg 5) a) 3 (by omega)) d_GraphSearch_tellOwn_65 ?_
    refine tp_i (y := nI ((pg 10) ((pg 5) a))) (by rw [show (nI ((pg 5) a) : Int32).toNatClampNeg = (pg 5) a from pk_cl ((pg 5) a)]) ?_
    refine lv_iand hx hb d_GraphSearch_tellOwn_66 ?_
    refine tp_i (y := (nI ((updN (sc 3) a (ownT pg a)) a)) &&& (nI ((pg 10) ((pg 5) a)))) rfl ?_
    refine tp_i (y := nI (ownT pg a &&& pg 10 (pg 5 a))) (by rw [updN_s]; exact and_eq ow8 (p8 _)) ?_
    refine va_iast (D := (dC, dI)) hx hb hK hP (dd_D hD rfl) hS 2 1 rfl rfl (i := nI a) (x := nI (ownT pg a &&& pg 10 (pg 5 a))) (pk_in a 7 (by omega)) d_GraphSearch_tellOwn_67 ?_
    clear hP hS locs H
    intro H locs hP _ hS
    rw [show (nI a : Int32).toNatClampNeg = a from pk_cl a] at hP
    rw [show upd (fun i => nI ((updN (sc 4) a 0) i)) a (nI (ownT pg a &&& pg 10 (pg 5 a))) = fun i => nI (updN (updN (sc 4) a 0) a (ownT pg a &&& pg 10 (pg 5 a)) i) from upd_nI] at hP
    replace hP : va_P (dC, dI) classes [oc xa 6 [.ref pa, .ref ga, .ref (xA 0), .ref (xA 1), .ref (xA 2), .ref (xA 3), .ref (xA 4), .ref (xA 5), .ref (xA 6), .ref (xA 7), .ref (xA 8), .ref (xA 9), .ref (xA 10), .ref (xA 11), .ref fa, .int (nI md), .int (nI mb)], ia (xA 3) (xK 3) 7 (fun i => nI ((updN (sc 3) a (ownT pg a)) i)), ia (xA 4) (xK 4) 7 (fun i => nI ((updN (updN (sc 4) a 0) a (ownT pg a &&& pg 10 (pg 5 a))) i)), ia (xA 5) (xK 5) 7 (fun i => nI ((sc 5) i)), ia (pA 4) (pK 4) 7 (fun i => nI ((pg 4) i)), ia (pA 5) (pK 5) 7 (fun i => nI ((pg 5) i)), ia (pA 9) (pK 9) 6 (fun i => nI ((pg 9) i)), ia (pA 10) (pK 10) 3 (fun i => nI ((pg 10) i)), oc pa 0 [.ref (pA 0), .ref (pA 1), .ref (pA 2), .ref (pA 3), .ref (pA 4), .ref (pA 5), .ref (pA 6), .ref (pA 7), .ref (pA 8), .ref (pA 9), .ref (pA 10), .int (nI T), .int (nI Ac)], ia (pA 2) (pK 2) 7 (fun i => nI ((pg 2) i)), ia (pA 8) (pK 8) 4 (fun i => nI ((pg 8) i))] H := hP
    refine tp_pc (pc' := 68) (by rfl) ?_
    rw [updN_2, show updN (sc 4) a (ownT pg a &&& pg 10 (pg 5 a)) = updN (sc 4) a (onoT pg a) from by rw [onoT, if_pos (by omega)]] at hP
    replace hP : va_P (dC, dI) classes [oc xa 6 [.ref pa, .ref ga, .ref (xA 0), .ref (xA 1), .ref (xA 2), .ref (xA 3), .ref (xA 4), .ref (xA 5), .ref (xA 6), .ref (xA 7), .ref (xA 8), .ref (xA 9), .ref (xA 10), .ref (xA 11), .ref fa, .int (nI md), .int (nI mb)], ia (xA 3) (xK 3) 7 (fun i => nI ((updN (sc 3) a (ownT pg a)) i)), ia (xA 4) (xK 4) 7 (fun i => nI ((updN (sc 4) a (onoT pg a)) i)), ia (xA 5) (xK 5) 7 (fun i => nI ((sc 5) i)), ia (pA 4) (pK 4) 7 (fun i => nI ((pg 4) i)), ia (pA 5) (pK 5) 7 (fun i => nI ((pg 5) i)), ia (pA 9) (pK 9) 6 (fun i => nI ((pg 9) i)), ia (pA 10) (pK 10) 3 (fun i => nI ((pg 10) i)), oc pa 0 [.ref (pA 0), .ref (pA 1), .ref (pA 2), .ref (pA 3), .ref (pA 4), .ref (pA 5), .ref (pA 6), .ref (pA 7), .ref (pA 8), .ref (pA 9), .ref (pA 10), .int (nI T), .int (nI Ac)], ia (pA 2) (pK 2) 7 (fun i => nI ((pg 2) i)), ia (pA 8) (pK 8) 4 (fun i => nI ((pg 8) i))] H := hP
    refine lv_iload_n hx hb d_GraphSearch_tellOwn_68 rfl (lv_at hl 1 rfl) ?_
    refine lv_if_ne (tgt := 83) hx hb d_GraphSearch_tellOwn_69 (by decide) (fun c_7 => ?_) (fun c_7 => absurd c_7 (by decide))
    refine tp_pc (pc' := 83) (by rfl) ?_
    refine lv_aload_n hx hb d_GraphSearch_tellOwn_83 rfl (lv_at hl 2 rfl) ?_
    refine va_get (D := (dC, dI)) (ci := 6) (v := .int (nI md)) (C := R_GraphSearch) (T := F_GraphSearch) (N := 17) hx hb hw i_GraphSearch hown hK hP 0 rfl rfl 15 (by decide) (hw _ m_334) (fun _ h9 => h9) rfl d_GraphSearch_tellOwn_84 ?_
    refine lv_iconst (v := 2) hx hb d_GraphSearch_tellOwn_87 (by decide) ?_
    refine lv_icmp_ne (tgt := 129) hx hb d_GraphSearch_tellOwn_88 (by decide) (fun c1 => ?_) (fun c1 => ?_)
    · skip
      have hc1 : ¬ (md = 2) := fun q9 => c1 ((nI_eq (a := md) (b := 2) (by omega) (by omega)).mpr q9)
      refine tp_pc (pc' := 129) (by rfl) ?_
      refine lv_aload_n hx hb d_GraphSearch_tellOwn_129 rfl (lv_at hl 2 rfl) ?_
      refine va_get (D := (dC, dI)) (ci := 6) (v := .ref (xA 5)) (C := R_GraphSearch) (T := F_GraphSearch) (N := 17) hx hb hw i_GraphSearch hown hK hP 0 rfl rfl 7 (by decide) (hw _ m_326) (fun _ h9 => h9) rfl d_GraphSearch_tellOwn_130 ?_
      refine lv_iload_n hx hb d_GraphSearch_tellOwn_133 rfl (lv_at hl 3 rfl) ?_
      refine lv_aload_n hx hb d_GraphSearch_tellOwn_134 rfl (lv_at hl 2 rfl) ?_
      refine va_get (D := (dC, dI)) (ci := 6) (v := .ref (xA 3)) (C := R_GraphSearch) (T := F_GraphSearch) (N := 17) hx hb hw i_GraphSearch hown hK hP 0 rfl rfl 5 (by decide) (hw _ m_324) (fun _ h9 => h9) rfl d_GraphSearch_tellOwn_135 ?_
      refine lv_iload_n hx hb d_GraphSearch_tellOwn_138 rfl (lv_at hl 3 rfl) ?_
      refine va_iald (D := (dC, dI)) hx hb hK hP 1 0 rfl rfl (i := nI a) (pk_in a 7 (by omega)) d_GraphSearch_tellOwn_139 ?_
      refine tp_i (y := nI ((updN (sc 3) a (ownT pg a)) a)) (by rw [show (nI a : Int32).toNatClampNeg = a from pk_cl a]) ?_
      refine lv_iload_n hx hb d_GraphSearch_tellOwn_140 rfl (lv_at hl 0 rfl) ?_
      refine lv_iconst (v := (-1)) hx hb d_GraphSearch_tellOwn_141 (by decide) ?_
      refine lv_ixor hx hb d_GraphSearch_tellOwn_142 ?_
      refine tp_i (y := (-1)) (by first | rfl | decide) ?_
      refine lv_iand hx hb d_GraphSearch_tellOwn_143 ?_
      refine tp_i (y := (nI ((updN (sc 3) a (ownT pg a)) a)) &&& (-1)) rfl ?_
      refine tp_i (y := nI (okpT pg md a)) (by rw [updN_s, okpT, show lftT pg md a = 0 from by rw [lftT, if_neg (by omega), if_neg (fun q => hc1 q.1)]]; exact and_m1 _ ow8) ?_
      refine va_iast (D := (dC, dI)) hx hb hK hP (dd_D hD rfl) hS 3 2 rfl rfl (i := nI a) (x := nI (okpT pg md a)) (pk_in a 7 (by omega)) d_GraphSearch_tellOwn_144 ?_
      clear hP hS locs H
      intro H locs hP _ hS
      rw [show (nI a : Int32).toNatClampNeg = a from pk_cl a] at hP
      rw [show upd (fun i => nI ((sc 5) i)) a (nI (okpT pg md a)) = fun i => nI (updN (sc 5) a (okpT pg md a) i) from upd_nI] at hP
      replace hP : va_P (dC, dI) classes [oc xa 6 [.ref pa, .ref ga, .ref (xA 0), .ref (xA 1), .ref (xA 2), .ref (xA 3), .ref (xA 4), .ref (xA 5), .ref (xA 6), .ref (xA 7), .ref (xA 8), .ref (xA 9), .ref (xA 10), .ref (xA 11), .ref fa, .int (nI md), .int (nI mb)], ia (xA 3) (xK 3) 7 (fun i => nI ((updN (sc 3) a (ownT pg a)) i)), ia (xA 4) (xK 4) 7 (fun i => nI ((updN (sc 4) a (onoT pg a)) i)), ia (xA 5) (xK 5) 7 (fun i => nI ((updN (sc 5) a (okpT pg md a)) i)), ia (pA 4) (pK 4) 7 (fun i => nI ((pg 4) i)), ia (pA 5) (pK 5) 7 (fun i => nI ((pg 5) i)), ia (pA 9) (pK 9) 6 (fun i => nI ((pg 9) i)), ia (pA 10) (pK 10) 3 (fun i => nI ((pg 10) i)), oc pa 0 [.ref (pA 0), .ref (pA 1), .ref (pA 2), .ref (pA 3), .ref (pA 4), .ref (pA 5), .ref (pA 6), .ref (pA 7), .ref (pA 8), .ref (pA 9), .ref (pA 10), .int (nI T), .int (nI Ac)], ia (pA 2) (pK 2) 7 (fun i => nI ((pg 2) i)), ia (pA 8) (pK 8) 4 (fun i => nI ((pg 8) i))] H := hP
      refine tp_pc (pc' := 145) (by rfl) ?_
      obtain ⟨hP9, hD9, -⟩ := cut3 (wc := [oc xa 6 [.ref pa, .ref ga, .ref (xA 0), .ref (xA 1), .ref (xA 2), .ref (xA 3), .ref (xA 4), .ref (xA 5), .ref (xA 6), .ref (xA 7), .ref (xA 8), .ref (xA 9), .ref (xA 10), .ref (xA 11), .ref fa, .int (nI md), .int (nI mb)], ia (xA 3) (xK 3) 7 (fun i => nI ((updN (sc 3) a (ownT pg a)) i)), ia (xA 4) (xK 4) 7 (fun i => nI ((updN (sc 4) a (onoT pg a)) i)), ia (xA 5) (xK 5) 7 (fun i => nI ((updN (sc 5) a (okpT pg md a)) i)), oc pa 0 [.ref (pA 0), .ref (pA 1), .ref (pA 2), .ref (pA 3), .ref (pA 4), .ref (pA 5), .ref (pA 6), .ref (pA 7), .ref (pA 8), .ref (pA 9), .ref (pA 10), .int (nI T), .int (nI Ac)], ia (pA 2) (pK 2) 7 (fun i => nI ((pg 2) i)), ia (pA 4) (pK 4) 7 (fun i => nI ((pg 4) i)), ia (pA 5) (pK 5) 7 (fun i => nI ((pg 5) i)), ia (pA 8) (pK 8) 4 (fun i => nI ((pg 8) i)), ia (pA 9) (pK 9) 6 (fun i => nI ((pg 9) i)), ia (pA 10) (pK 10) 3 (fun i => nI ((pg 10) i))]) hP hD rfl hS hA [0, 1, 2, 3, 8, 9, 4, 5, 10, 6, 7] (by decide +kernel) rfl
      have hK9 := hK.sub (tys' := []) [] rfl
      refine W.widen (k := 0) (n := 0) (by exact Nat.le_of_ble_eq_true rfl) (by exact Nat.le_of_ble_eq_true rfl) ?_
      exact W.vret hx hb hr (fun t9 ht9 hW => ⟨⟨(), rfl, trivial, by rw [ht9]; exact hP9, va_K.moved hW.alike hK9, hD9⟩, hS.F ht9⟩) hS.2.2 d_GraphSearch_tellOwn_145
    · skip
      have hc1 : md = 2 := (nI_eq (a := md) (b := 2) (by omega) (by omega)).mp c1
      refine tp_pc (pc' := 91) (by rfl) ?_
      refine lv_iload_n hx hb d_GraphSearch_tellOwn_91 rfl (lv_at hl 1 rfl) ?_
      refine lv_iconst (v := 1) hx hb d_GraphSearch_tellOwn_92 (by decide) ?_
      refine lv_icmp_eq (tgt := 101) hx hb d_GraphSearch_tellOwn_93 (by decide) (fun c_8 => ?_) (fun c_8 => absurd c_8 (by decide))
      refine tp_pc (pc' := 101) (by rfl) ?_
      refine lv_aload_n hx hb d_GraphSearch_tellOwn_101 rfl (lv_at hl 2 rfl) ?_
      refine va_get (D := (dC, dI)) (ci := 6) (v := .ref pa) (C := R_GraphSearch) (T := F_GraphSearch) (N := 17) hx hb hw i_GraphSearch hown hK hP 0 rfl rfl 0 (by decide) (hw _ m_319) (fun _ h9 => h9) rfl d_GraphSearch_tellOwn_102 ?_
      obtain ⟨hPc, hDc, hFc⟩ := cut3 (wc := [oc pa 0 [.ref (pA 0), .ref (pA 1), .ref (pA 2), .ref (pA 3), .ref (pA 4), .ref (pA 5), .ref (pA 6), .ref (pA 7), .ref (pA 8), .ref (pA 9), .ref (pA 10), .int (nI T), .int (nI Ac)], ia (pA 9) (pK 9) 6 (fun i => nI ((pg 9) i))]) hP hD rfl hS hA [8, 6] (by decide +kernel) rfl
      have hKc := hK.sub (tys' := [((pK 9), .int)]) [7] rfl
      refine va_calli (va_runV (As := []) (rest := []) ⟨hx, hb, hml, hown, hw⟩ (gen_Program_stores l dC dI pa pA pK T Ac pg nm (p7 1) (p7 2) H.size) (cw_V 0 hw g_Program_stores rfl rfl rfl (hw _ m_102) (hw _ m_756) (hw _ m_757) (hw _ m_758) (by decide +kernel) ⟨Nat.le_of_ble_eq_true rfl, Nat.le_of_ble_eq_true rfl⟩) ⟨fun a U g mk q => by obtain ⟨q0, q1, qP, qK, qD, qN⟩ := q; exact ⟨q0, q1, qP, va_K.moved (u := U) (U := U.calling g mk a) (Vm.Alike.refl U.vm) qK, qD, nw_call qN⟩, va_recv hKc hPc (ci := 0) (q0 := 0) rfl rfl, fun U hU hW => ⟨rfl, by rw [hU], by rw [hU]; exact hPc, va_K.moved hW.alike hKc, hDc.weaken (fun _ _ _ _ => trivial), nw_warm hW hn⟩⟩ rfl rfl hl.1 rfl (lv_room (Nat.le_of_ble_eq_true rfl)) d_GraphSearch_tellOwn_105 ⟨Nat.le_of_ble_eq_true rfl, Nat.le_of_ble_eq_true rfl⟩) hS (fun q _ h => hFc q h) hFc ?_
      intro r_9 u t9 H1 locs1 ht9 hvm hw1 hB hz1 hk1 hS1
      obtain ⟨hP1, hK1, hD1⟩ := hB
      rw [ht9] at hP1
      replace hK1 := va_K.moved hvm.symm hK1
      have hPD := join3 hP hD rfl [8, 6] [0, 1, 2, 3, 4, 5, 7, 9, 10] rfl (by rfl) (by decide +kernel) (by decide +kernel) hk1 hFc hP1 hD1
      replace hK : va_K (dC, dI) classes [((xK 3), .int), ((xK 4), .int), ((xK 5), .int), ((pK 2), .int), ((pK 4), .int), ((pK 5), .int), ((pK 8), .int), ((pK 9), .int), ((pK 10), .int)] s := hK.app hK1
      clear hP1 hK1 hD1 hk1 hz1 hFc hKc hDc hPc hvm ht9 hP hS t9 locs H
      have hP : va_P (dC, dI) classes [oc xa 6 [.ref pa, .ref ga, .ref (xA 0), .ref (xA 1), .ref (xA 2), .ref (xA 3), .ref (xA 4), .ref (xA 5), .ref (xA 6), .ref (xA 7), .ref (xA 8), .ref (xA 9), .ref (xA 10), .ref (xA 11), .ref fa, .int (nI md), .int (nI mb)], ia (xA 3) (xK 3) 7 (fun i => nI ((updN (sc 3) a (ownT pg a)) i)), ia (xA 4) (xK 4) 7 (fun i => nI ((updN (sc 4) a (onoT pg a)) i)), ia (xA 5) (xK 5) 7 (fun i => nI ((sc 5) i)), ia (pA 4) (pK 4) 7 (fun i => nI ((pg 4) i)), ia (pA 5) (pK 5) 7 (fun i => nI ((pg 5) i)), ia (pA 10) (pK 10) 3 (fun i => nI ((pg 10) i)), ia (pA 2) (pK 2) 7 (fun i => nI ((pg 2) i)), ia (pA 8) (pK 8) 4 (fun i => nI ((pg 8) i)), oc pa 0 [.ref (pA 0), .ref (pA 1), .ref (pA 2), .ref (pA 3), .ref (pA 4), .ref (pA 5), .ref (pA 6), .ref (pA 7), .ref (pA 8), .ref (pA 9), .ref (pA 10), .int (nI T), .int (nI Ac)], ia (pA 9) (pK 9) 6 (fun i => nI ((pg 9) i))] H1 := hPD.1
      replace hD : dd A [xa, (xA 3), (xA 4), (xA 5), (pA 4), (pA 5), (pA 10), (pA 2), (pA 8), pa, (pA 9)] := dd_of hPD.2 rfl
      clear hPD
      revert H1 locs1
      intro H locs hS hP
      refine tp_i (y := nI (pg 9 1 ||| pg 9 2)) (hw1) ?_
      clear hw1 r_9 u
      have lf8 : andn (pg 9 1 ||| pg 9 2) (pg 10 (pg 5 a)) < 128 := andn_lt st8
      refine tp_pc (pc' := 108) (by rfl) ?_
      refine lv_aload_n hx hb d_GraphSearch_tellOwn_108 rfl (lv_at hl 2 rfl) ?_
      refine va_get (D := (dC, dI)) (ci := 6) (v := .ref pa) (C := R_GraphSearch) (T := F_GraphSearch) (N := 17) hx hb hw i_GraphSearch hown hK hP 0 rfl rfl 0 (by decide) (hw _ m_319) (fun _ h9 => h9) rfl d_GraphSearch_tellOwn_109 ?_
      refine va_get (D := (dC, dI)) (ci := 0) (v := .ref (pA 10)) (C := R_Program) (T := F_Program) (N := 13) hx hb hw i_Program hown hK hP 9 rfl rfl 10 (by decide) (hw _ m_158) (fun _ h9 => h9) rfl d_GraphSearch_tellOwn_112 ?_
      refine lv_aload_n hx hb d_GraphSearch_tellOwn_115 rfl (lv_at hl 2 rfl) ?_
      refine va_get (D := (dC, dI)) (ci := 6) (v := .ref pa) (C := R_GraphSearch) (T := F_GraphSearch) (N := 17) hx hb hw i_GraphSearch hown hK hP 0 rfl rfl 0 (by decide) (hw _ m_319) (fun _ h9 => h9) rfl d_GraphSearch_tellOwn_116 ?_
      refine va_get (D := (dC, dI)) (ci := 0) (v := .ref (pA 5)) (C := R_Program) (T := F_Program) (N := 13) hx hb hw i_Program hown hK hP 9 rfl rfl 5 (by decide) (hw _ m_144) (fun _ h9 => h9) rfl d_GraphSearch_tellOwn_119 ?_
      refine lv_iload_n hx hb d_GraphSearch_tellOwn_122 rfl (lv_at hl 3 rfl) ?_
      refine va_iald (D := (dC, dI)) hx hb hK hP 5 5 rfl rfl (i := nI a) (pk_in a 7 (by omega)) d_GraphSearch_tellOwn_123 ?_
      refine tp_i (y := nI ((pg 5) a)) (by rw [show (nI a : Int32).toNatClampNeg = a from pk_cl a]) ?_
      refine va_iald (D := (dC, dI)) hx hb hK hP 6 8 rfl rfl (i := nI ((pg 5) a)) (pk_in ((pg 5) a) 3 (by omega)) d_GraphSearch_tellOwn_124 ?_
      refine tp_i (y := nI ((pg 10) ((pg 5) a))) (by rw [show (nI ((pg 5) a) : Int32).toNatClampNeg = (pg 5) a from pk_cl ((pg 5) a)]) ?_
      refine lv_iconst (v := (-1)) hx hb d_GraphSearch_tellOwn_125 (by decide) ?_
      refine lv_ixor hx hb d_GraphSearch_tellOwn_126 ?_
      refine tp_i (y := (nI ((pg 10) ((pg 5) a))) ^^^ (-1)) rfl ?_
      refine lv_iand hx hb d_GraphSearch_tellOwn_127 ?_
      refine tp_i (y := (nI (pg 9 1 ||| pg 9 2)) &&& ((nI ((pg 10) ((pg 5) a))) ^^^ (-1))) rfl ?_
      refine tp_i (y := nI (andn (pg 9 1 ||| pg 9 2) (pg 10 (pg 5 a)))) (andn_eq _ st8 _ (p8 _)) ?_
      refine lv_istore_n (lv' := [(3, .int (nI (andn (pg 9 1 ||| pg 9 2) (pg 10 (pg 5 a))))), (2, .int 1), (0, .ref xa), (1, .int (nI a))]) hx hb d_GraphSearch_tellOwn_128 rfl hl (by decide) rfl ?_
      clear hl ls
      intro ls hl
      refine lv_aload_n hx hb d_GraphSearch_tellOwn_129 rfl (lv_at hl 2 rfl) ?_
      refine va_get (D := (dC, dI)) (ci := 6) (v := .ref (xA 5)) (C := R_GraphSearch) (T := F_GraphSearch) (N := 17) hx hb hw i_GraphSearch hown hK hP 0 rfl rfl 7 (by decide) (hw _ m_326) (fun _ h9 => h9) rfl d_GraphSearch_tellOwn_130 ?_
      refine lv_iload_n hx hb d_GraphSearch_tellOwn_133 rfl (lv_at hl 3 rfl) ?_
      refine lv_aload_n hx hb d_GraphSearch_tellOwn_134 rfl (lv_at hl 2 rfl) ?_
      refine va_get (D := (dC, dI)) (ci := 6) (v := .ref (xA 3)) (C := R_GraphSearch) (T := F_GraphSearch) (N := 17) hx hb hw i_GraphSearch hown hK hP 0 rfl rfl 5 (by decide) (hw _ m_324) (fun _ h9 => h9) rfl d_GraphSearch_tellOwn_135 ?_
      refine lv_iload_n hx hb d_GraphSearch_tellOwn_138 rfl (lv_at hl 3 rfl) ?_
      refine va_iald (D := (dC, dI)) hx hb hK hP 1 0 rfl rfl (i := nI a) (pk_in a 7 (by omega)) d_GraphSearch_tellOwn_139 ?_
      refine tp_i (y := nI ((updN (sc 3) a (ownT pg a)) a)) (by rw [show (nI a : Int32).toNatClampNeg = a from pk_cl a]) ?_
      refine lv_iload_n hx hb d_GraphSearch_tellOwn_140 rfl (lv_at hl 0 rfl) ?_
      refine lv_iconst (v := (-1)) hx hb d_GraphSearch_tellOwn_141 (by decide) ?_
      refine lv_ixor hx hb d_GraphSearch_tellOwn_142 ?_
      refine tp_i (y := (nI (andn (pg 9 1 ||| pg 9 2) (pg 10 (pg 5 a)))) ^^^ (-1)) rfl ?_
      refine lv_iand hx hb d_GraphSearch_tellOwn_143 ?_
      refine tp_i (y := (nI ((updN (sc 3) a (ownT pg a)) a)) &&& ((nI (andn (pg 9 1 ||| pg 9 2) (pg 10 (pg 5 a)))) ^^^ (-1))) rfl ?_
      refine tp_i (y := nI (okpT pg md a)) (by rw [updN_s, okpT, show lftT pg md a = andn (pg 9 1 ||| pg 9 2) (pg 10 (pg 5 a)) from by rw [lftT, if_neg (by omega), if_pos ⟨hc1, by omega⟩]]; exact andn_eq _ ow8 _ lf8) ?_
      refine va_iast (D := (dC, dI)) hx hb hK hP (dd_D hD rfl) hS 3 2 rfl rfl (i := nI a) (x := nI (okpT pg md a)) (pk_in a 7 (by omega)) d_GraphSearch_tellOwn_144 ?_
      clear hP hS locs H
      intro H locs hP _ hS
      rw [show (nI a : Int32).toNatClampNeg = a from pk_cl a] at hP
      rw [show upd (fun i => nI ((sc 5) i)) a (nI (okpT pg md a)) = fun i => nI (updN (sc 5) a (okpT pg md a) i) from upd_nI] at hP
      replace hP : va_P (dC, dI) classes [oc xa 6 [.ref pa, .ref ga, .ref (xA 0), .ref (xA 1), .ref (xA 2), .ref (xA 3), .ref (xA 4), .ref (xA 5), .ref (xA 6), .ref (xA 7), .ref (xA 8), .ref (xA 9), .ref (xA 10), .ref (xA 11), .ref fa, .int (nI md), .int (nI mb)], ia (xA 3) (xK 3) 7 (fun i => nI ((updN (sc 3) a (ownT pg a)) i)), ia (xA 4) (xK 4) 7 (fun i => nI ((updN (sc 4) a (onoT pg a)) i)), ia (xA 5) (xK 5) 7 (fun i => nI ((updN (sc 5) a (okpT pg md a)) i)), ia (pA 4) (pK 4) 7 (fun i => nI ((pg 4) i)), ia (pA 5) (pK 5) 7 (fun i => nI ((pg 5) i)), ia (pA 10) (pK 10) 3 (fun i => nI ((pg 10) i)), ia (pA 2) (pK 2) 7 (fun i => nI ((pg 2) i)), ia (pA 8) (pK 8) 4 (fun i => nI ((pg 8) i)), oc pa 0 [.ref (pA 0), .ref (pA 1), .ref (pA 2), .ref (pA 3), .ref (pA 4), .ref (pA 5), .ref (pA 6), .ref (pA 7), .ref (pA 8), .ref (pA 9), .ref (pA 10), .int (nI T), .int (nI Ac)], ia (pA 9) (pK 9) 6 (fun i => nI ((pg 9) i))] H := hP
      refine tp_pc (pc' := 145) (by rfl) ?_
      obtain ⟨hP9, hD9, -⟩ := cut3 (wc := [oc xa 6 [.ref pa, .ref ga, .ref (xA 0), .ref (xA 1), .ref (xA 2), .ref (xA 3), .ref (xA 4), .ref (xA 5), .ref (xA 6), .ref (xA 7), .ref (xA 8), .ref (xA 9), .ref (xA 10), .ref (xA 11), .ref fa, .int (nI md), .int (nI mb)], ia (xA 3) (xK 3) 7 (fun i => nI ((updN (sc 3) a (ownT pg a)) i)), ia (xA 4) (xK 4) 7 (fun i => nI ((updN (sc 4) a (onoT pg a)) i)), ia (xA 5) (xK 5) 7 (fun i => nI ((updN (sc 5) a (okpT pg md a)) i)), oc pa 0 [.ref (pA 0), .ref (pA 1), .ref (pA 2), .ref (pA 3), .ref (pA 4), .ref (pA 5), .ref (pA 6), .ref (pA 7), .ref (pA 8), .ref (pA 9), .ref (pA 10), .int (nI T), .int (nI Ac)], ia (pA 2) (pK 2) 7 (fun i => nI ((pg 2) i)), ia (pA 4) (pK 4) 7 (fun i => nI ((pg 4) i)), ia (pA 5) (pK 5) 7 (fun i => nI ((pg 5) i)), ia (pA 8) (pK 8) 4 (fun i => nI ((pg 8) i)), ia (pA 9) (pK 9) 6 (fun i => nI ((pg 9) i)), ia (pA 10) (pK 10) 3 (fun i => nI ((pg 10) i))]) hP hD rfl hS hA [0, 1, 2, 3, 9, 7, 4, 5, 8, 10, 6] (by decide +kernel) rfl
      have hK9 := hK.sub (tys' := []) [] rfl
      refine W.widen (k := 0) (n := 0) (by exact Nat.le_of_ble_eq_true rfl) (by exact Nat.le_of_ble_eq_true rfl) ?_
      exact W.vret hx hb hr (fun t9 ht9 hW => ⟨⟨(), rfl, trivial, by rw [ht9]; exact hP9, va_K.moved hW.alike hK9, hD9⟩, hS.F ht9⟩) hS.2.2 d_GraphSearch_tellOwn_145
  · skip
    refine tp_i (y := 2) (by rw [hk]; rfl) ?_
    refine lv_istore_n (lv' := [(2, .int 2), (0, .ref xa), (1, .int (nI a))]) hx hb d_GraphSearch_tellOwn_9 rfl hl (by decide) rfl ?_
    clear hl ls
    intro ls hl
    refine lv_iconst (v := 0) hx hb d_GraphSearch_tellOwn_10 (by decide) ?_
    refine lv_istore_n (lv' := [(3, .int 0), (2, .int 2), (0, .ref xa), (1, .int (nI a))]) hx hb d_GraphSearch_tellOwn_11 rfl hl (by decide) rfl ?_
    clear hl ls
    intro ls hl
    refine lv_aload_n hx hb d_GraphSearch_tellOwn_12 rfl (lv_at hl 2 rfl) ?_
    refine va_get (D := (dC, dI)) (ci := 6) (v := .ref (xA 3)) (C := R_GraphSearch) (T := F_GraphSearch) (N := 17) hx hb hw i_GraphSearch hown hK hP 0 rfl rfl 5 (by decide) (hw _ m_324) (fun _ h9 => h9) rfl d_GraphSearch_tellOwn_13 ?_
    refine lv_iload_n hx hb d_GraphSearch_tellOwn_16 rfl (lv_at hl 3 rfl) ?_
    refine lv_aload_n hx hb d_GraphSearch_tellOwn_17 rfl (lv_at hl 2 rfl) ?_
    refine va_get (D := (dC, dI)) (ci := 6) (v := .ref pa) (C := R_GraphSearch) (T := F_GraphSearch) (N := 17) hx hb hw i_GraphSearch hown hK hP 0 rfl rfl 0 (by decide) (hw _ m_319) (fun _ h9 => h9) rfl d_GraphSearch_tellOwn_18 ?_
    refine lv_iload_n hx hb d_GraphSearch_tellOwn_21 rfl (lv_at hl 3 rfl) ?_
    obtain ⟨hPc, hDc, hFc⟩ := cut3 (wc := [oc pa 0 [.ref (pA 0), .ref (pA 1), .ref (pA 2), .ref (pA 3), .ref (pA 4), .ref (pA 5), .ref (pA 6), .ref (pA 7), .ref (pA 8), .ref (pA 9), .ref (pA 10), .int (nI T), .int (nI Ac)], ia (pA 2) (pK 2) 7 (fun i => nI ((pg 2) i)), ia (pA 8) (pK 8) 4 (fun i => nI ((pg 8) i))]) hP hD rfl hS hA [4, 5, 8] (by decide +kernel) rfl
    have hKc := hK.sub (tys' := [((pK 2), .int), ((pK 8), .int)]) [3, 6] rfl
    refine va_calli (va_runV (As := [.int (nI a)]) (rest := [.int (nI a), .ref (xA 3)]) ⟨hx, hb, hml, hown, hw⟩ (gen_Program_ownBefore l dC dI pa pA pK T Ac pg nm a (by omega) (by omega) (p6 _) s.heap.size) (cw_V 1 hw g_Program_ownBefore rfl rfl rfl (hw _ m_102) (hw _ m_752) (hw _ m_753) (hw _ m_754) (by decide +kernel) ⟨Nat.le_of_ble_eq_true rfl, Nat.le_of_ble_eq_true rfl⟩) ⟨fun a U g mk q => by obtain ⟨q0, q1, qP, qK, qD, qN⟩ := q; exact ⟨q0, q1, qP, va_K.moved (u := U) (U := U.calling g mk a) (Vm.Alike.refl U.vm) qK, qD, nw_call qN⟩, va_recv hKc hPc (ci := 0) (q0 := 0) rfl rfl, fun U hU hW => ⟨rfl, by rw [hU], by rw [hU]; exact hPc, va_K.moved hW.alike hKc, hDc.weaken (fun _ _ _ _ => trivial), nw_warm hW hn⟩⟩ rfl rfl hl.1 rfl (lv_room (Nat.le_of_ble_eq_true rfl)) d_GraphSearch_tellOwn_22 ⟨Nat.le_of_ble_eq_true rfl, Nat.le_of_ble_eq_true rfl⟩) hS (fun q _ h => hFc q h) hFc ?_
    intro r_10 u t9 H1 locs1 ht9 hvm hw1 hB hz1 hk1 hS1
    obtain ⟨hP1, hK1, hD1⟩ := hB
    rw [ht9] at hP1
    replace hK1 := va_K.moved hvm.symm hK1
    have hPD := join3 hP hD rfl [4, 5, 8] [0, 1, 2, 3, 6, 7, 9, 10] rfl (by rfl) (by decide +kernel) (by decide +kernel) hk1 hFc hP1 hD1
    replace hK : va_K (dC, dI) classes [((xK 3), .int), ((xK 4), .int), ((xK 5), .int), ((pK 2), .int), ((pK 4), .int), ((pK 5), .int), ((pK 8), .int), ((pK 9), .int), ((pK 10), .int)] s := hK.app hK1
    clear hP1 hK1 hD1 hk1 hz1 hFc hKc hDc hPc hvm ht9 hP hS t9
    have hP : va_P (dC, dI) classes [oc xa 6 [.ref pa, .ref ga, .ref (xA 0), .ref (xA 1), .ref (xA 2), .ref (xA 3), .ref (xA 4), .ref (xA 5), .ref (xA 6), .ref (xA 7), .ref (xA 8), .ref (xA 9), .ref (xA 10), .ref (xA 11), .ref fa, .int (nI md), .int (nI mb)], ia (xA 3) (xK 3) 7 (fun i => nI ((sc 3) i)), ia (xA 4) (xK 4) 7 (fun i => nI ((sc 4) i)), ia (xA 5) (xK 5) 7 (fun i => nI ((sc 5) i)), ia (pA 4) (pK 4) 7 (fun i => nI ((pg 4) i)), ia (pA 5) (pK 5) 7 (fun i => nI ((pg 5) i)), ia (pA 9) (pK 9) 6 (fun i => nI ((pg 9) i)), ia (pA 10) (pK 10) 3 (fun i => nI ((pg 10) i)), oc pa 0 [.ref (pA 0), .ref (pA 1), .ref (pA 2), .ref (pA 3), .ref (pA 4), .ref (pA 5), .ref (pA 6), .ref (pA 7), .ref (pA 8), .ref (pA 9), .ref (pA 10), .int (nI T), .int (nI Ac)], ia (pA 2) (pK 2) 7 (fun i => nI ((pg 2) i)), ia (pA 8) (pK 8) 4 (fun i => nI ((pg 8) i))] H1 := hPD.1
    replace hD : dd A [xa, (xA 3), (xA 4), (xA 5), (pA 4), (pA 5), (pA 9), (pA 10), pa, (pA 2), (pA 8)] := dd_of hPD.2 rfl
    clear hPD
    revert H1 locs1
    intro H locs hS hP
    refine tp_i (y := nI (ownT pg a)) (hw1) ?_
    clear hw1 r_10 u
    have hx3 := k4 (by omega)
    refine tp_pc (pc' := 25) (by rfl) ?_
    refine va_iast (D := (dC, dI)) hx hb hK hP (dd_D hD rfl) hS 1 0 rfl rfl (i := nI a) (x := nI (ownT pg a)) (pk_in a 7 (by omega)) d_GraphSearch_tellOwn_25 ?_
    clear hP hS locs H
    intro H locs hP _ hS
    rw [show (nI a : Int32).toNatClampNeg = a from pk_cl a] at hP
    rw [show upd (fun i => nI ((sc 3) i)) a (nI (ownT pg a)) = fun i => nI (updN (sc 3) a (ownT pg a) i) from upd_nI] at hP
    replace hP : va_P (dC, dI) classes [oc xa 6 [.ref pa, .ref ga, .ref (xA 0), .ref (xA 1), .ref (xA 2), .ref (xA 3), .ref (xA 4), .ref (xA 5), .ref (xA 6), .ref (xA 7), .ref (xA 8), .ref (xA 9), .ref (xA 10), .ref (xA 11), .ref fa, .int (nI md), .int (nI mb)], ia (xA 3) (xK 3) 7 (fun i => nI ((updN (sc 3) a (ownT pg a)) i)), ia (xA 4) (xK 4) 7 (fun i => nI ((sc 4) i)), ia (xA 5) (xK 5) 7 (fun i => nI ((sc 5) i)), ia (pA 4) (pK 4) 7 (fun i => nI ((pg 4) i)), ia (pA 5) (pK 5) 7 (fun i => nI ((pg 5) i)), ia (pA 9) (pK 9) 6 (fun i => nI ((pg 9) i)), ia (pA 10) (pK 10) 3 (fun i => nI ((pg 10) i)), oc pa 0 [.ref (pA 0), .ref (pA 1), .ref (pA 2), .ref (pA 3), .ref (pA 4), .ref (pA 5), .ref (pA 6), .ref (pA 7), .ref (pA 8), .ref (pA 9), .ref (pA 10), .int (nI T), .int (nI Ac)], ia (pA 2) (pK 2) 7 (fun i => nI ((pg 2) i)), ia (pA 8) (pK 8) 4 (fun i => nI ((pg 8) i))] H := hP
    refine tp_pc (pc' := 26) (by rfl) ?_
    refine lv_aload_n hx hb d_GraphSearch_tellOwn_26 rfl (lv_at hl 2 rfl) ?_
    refine va_get (D := (dC, dI)) (ci := 6) (v := .ref (xA 4)) (C := R_GraphSearch) (T := F_GraphSearch) (N := 17) hx hb hw i_GraphSearch hown hK hP 0 rfl rfl 6 (by decide) (hw _ m_325) (fun _ h9 => h9) rfl d_GraphSearch_tellOwn_27 ?_
    refine lv_iload_n hx hb d_GraphSearch_tellOwn_30 rfl (lv_at hl 3 rfl) ?_
    refine lv_iconst (v := 0) hx hb d_GraphSearch_tellOwn_31 (by decide) ?_
    refine va_iast (D := (dC, dI)) hx hb hK hP (dd_D hD rfl) hS 2 1 rfl rfl (i := nI a) (x := 0) (pk_in a 7 (by omega)) d_GraphSearch_tellOwn_32 ?_
    clear hP hS locs H
    intro H locs hP _ hS
    rw [show (nI a : Int32).toNatClampNeg = a from pk_cl a] at hP
    rw [show upd (fun i => nI ((sc 4) i)) a 0 = fun i => nI (updN (sc 4) a 0 i) from upd_nI] at hP
    replace hP : va_P (dC, dI) classes [oc xa 6 [.ref pa, .ref ga, .ref (xA 0), .ref (xA 1), .ref (xA 2), .ref (xA 3), .ref (xA 4), .ref (xA 5), .ref (xA 6), .ref (xA 7), .ref (xA 8), .ref (xA 9), .ref (xA 10), .ref (xA 11), .ref fa, .int (nI md), .int (nI mb)], ia (xA 3) (xK 3) 7 (fun i => nI ((updN (sc 3) a (ownT pg a)) i)), ia (xA 4) (xK 4) 7 (fun i => nI ((updN (sc 4) a 0) i)), ia (xA 5) (xK 5) 7 (fun i => nI ((sc 5) i)), ia (pA 4) (pK 4) 7 (fun i => nI ((pg 4) i)), ia (pA 5) (pK 5) 7 (fun i => nI ((pg 5) i)), ia (pA 9) (pK 9) 6 (fun i => nI ((pg 9) i)), ia (pA 10) (pK 10) 3 (fun i => nI ((pg 10) i)), oc pa 0 [.ref (pA 0), .ref (pA 1), .ref (pA 2), .ref (pA 3), .ref (pA 4), .ref (pA 5), .ref (pA 6), .ref (pA 7), .ref (pA 8), .ref (pA 9), .ref (pA 10), .int (nI T), .int (nI Ac)], ia (pA 2) (pK 2) 7 (fun i => nI ((pg 2) i)), ia (pA 8) (pK 8) 4 (fun i => nI ((pg 8) i))] H := hP
    refine tp_pc (pc' := 33) (by rfl) ?_
    refine lv_iload_n hx hb d_GraphSearch_tellOwn_33 rfl (lv_at hl 1 rfl) ?_
    refine lv_iconst (v := 4) hx hb d_GraphSearch_tellOwn_34 (by decide) ?_
    refine lv_icmp_ge (tgt := 68) hx hb d_GraphSearch_tellOwn_35 (by decide) (fun c_11 => absurd c_11 (by decide)) (fun c_11 => ?_)
    refine tp_pc (pc' := 38) (by rfl) ?_
    refine lv_aload_n hx hb d_GraphSearch_tellOwn_38 rfl (lv_at hl 2 rfl) ?_
    refine va_get (D := (dC, dI)) (ci := 6) (v := .ref (xA 4)) (C := R_GraphSearch) (T := F_GraphSearch) (N := 17) hx hb hw i_GraphSearch hown hK hP 0 rfl rfl 6 (by decide) (hw _ m_325) (fun _ h9 => h9) rfl d_GraphSearch_tellOwn_39 ?_
    refine lv_iload_n hx hb d_GraphSearch_tellOwn_42 rfl (lv_at hl 3 rfl) ?_
    refine lv_aload_n hx hb d_GraphSearch_tellOwn_43 rfl (lv_at hl 2 rfl) ?_
    refine va_get (D := (dC, dI)) (ci := 6) (v := .ref (xA 3)) (C := R_GraphSearch) (T := F_GraphSearch) (N := 17) hx hb hw i_GraphSearch hown hK hP 0 rfl rfl 5 (by decide) (hw _ m_324) (fun _ h9 => h9) rfl d_GraphSearch_tellOwn_44 ?_
    refine lv_iload_n hx hb d_GraphSearch_tellOwn_47 rfl (lv_at hl 3 rfl) ?_
    refine va_iald (D := (dC, dI)) hx hb hK hP 1 0 rfl rfl (i := nI a) (pk_in a 7 (by omega)) d_GraphSearch_tellOwn_48 ?_
    refine tp_i (y := nI ((updN (sc 3) a (ownT pg a)) a)) (by rw [show (nI a : Int32).toNatClampNeg = a from pk_cl a]) ?_
    refine lv_aload_n hx hb d_GraphSearch_tellOwn_49 rfl (lv_at hl 2 rfl) ?_
    refine va_get (D := (dC, dI)) (ci := 6) (v := .ref pa) (C := R_GraphSearch) (T := F_GraphSearch) (N := 17) hx hb hw i_GraphSearch hown hK hP 0 rfl rfl 0 (by decide) (hw _ m_319) (fun _ h9 => h9) rfl d_GraphSearch_tellOwn_50 ?_
    refine va_get (D := (dC, dI)) (ci := 0) (v := .ref (pA 10)) (C := R_Program) (T := F_Program) (N := 13) hx hb hw i_Program hown hK hP 8 rfl rfl 10 (by decide) (hw _ m_158) (fun _ h9 => h9) rfl d_GraphSearch_tellOwn_53 ?_
    refine lv_aload_n hx hb d_GraphSearch_tellOwn_56 rfl (lv_at hl 2 rfl) ?_
    refine va_get (D := (dC, dI)) (ci := 6) (v := .ref pa) (C := R_GraphSearch) (T := F_GraphSearch) (N := 17) hx hb hw i_GraphSearch hown hK hP 0 rfl rfl 0 (by decide) (hw _ m_319) (fun _ h9 => h9) rfl d_GraphSearch_tellOwn_57 ?_
    refine va_get (D := (dC, dI)) (ci := 0) (v := .ref (pA 5)) (C := R_Program) (T := F_Program) (N := 13) hx hb hw i_Program hown hK hP 8 rfl rfl 5 (by decide) (hw _ m_144) (fun _ h9 => h9) rfl d_GraphSearch_tellOwn_60 ?_
    refine lv_iload_n hx hb d_GraphSearch_tellOwn_63 rfl (lv_at hl 3 rfl) ?_
    refine va_iald (D := (dC, dI)) hx hb hK hP 5 5 rfl rfl (i := nI a) (pk_in a 7 (by omega)) d_GraphSearch_tellOwn_64 ?_
    refine tp_i (y := nI ((pg 5) a)) (by rw [show (nI a : Int32).toNatClampNeg = a from pk_cl a]) ?_
    refine va_iald (D := (dC, dI)) hx hb hK hP 7 8 rfl rfl (i := nI ((pg 5) a)) (pk_in ((pg 5) a) 3 (by omega)) d_GraphSearch_tellOwn_65 ?_
    refine tp_i (y := nI ((pg 10) ((pg 5) a))) (by rw [show (nI ((pg 5) a) : Int32).toNatClampNeg = (pg 5) a from pk_cl ((pg 5) a)]) ?_
    refine lv_iand hx hb d_GraphSearch_tellOwn_66 ?_
    refine tp_i (y := (nI ((updN (sc 3) a (ownT pg a)) a)) &&& (nI ((pg 10) ((pg 5) a)))) rfl ?_
    refine tp_i (y := nI (ownT pg a &&& pg 10 (pg 5 a))) (by rw [updN_s]; exact and_eq ow8 (p8 _)) ?_
    refine va_iast (D := (dC, dI)) hx hb hK hP (dd_D hD rfl) hS 2 1 rfl rfl (i := nI a) (x := nI (ownT pg a &&& pg 10 (pg 5 a))) (pk_in a 7 (by omega)) d_GraphSearch_tellOwn_67 ?_
    clear hP hS locs H
    intro H locs hP _ hS
    rw [show (nI a : Int32).toNatClampNeg = a from pk_cl a] at hP
    rw [show upd (fun i => nI ((updN (sc 4) a 0) i)) a (nI (ownT pg a &&& pg 10 (pg 5 a))) = fun i => nI (updN (updN (sc 4) a 0) a (ownT pg a &&& pg 10 (pg 5 a)) i) from upd_nI] at hP
    replace hP : va_P (dC, dI) classes [oc xa 6 [.ref pa, .ref ga, .ref (xA 0), .ref (xA 1), .ref (xA 2), .ref (xA 3), .ref (xA 4), .ref (xA 5), .ref (xA 6), .ref (xA 7), .ref (xA 8), .ref (xA 9), .ref (xA 10), .ref (xA 11), .ref fa, .int (nI md), .int (nI mb)], ia (xA 3) (xK 3) 7 (fun i => nI ((updN (sc 3) a (ownT pg a)) i)), ia (xA 4) (xK 4) 7 (fun i => nI ((updN (updN (sc 4) a 0) a (ownT pg a &&& pg 10 (pg 5 a))) i)), ia (xA 5) (xK 5) 7 (fun i => nI ((sc 5) i)), ia (pA 4) (pK 4) 7 (fun i => nI ((pg 4) i)), ia (pA 5) (pK 5) 7 (fun i => nI ((pg 5) i)), ia (pA 9) (pK 9) 6 (fun i => nI ((pg 9) i)), ia (pA 10) (pK 10) 3 (fun i => nI ((pg 10) i)), oc pa 0 [.ref (pA 0), .ref (pA 1), .ref (pA 2), .ref (pA 3), .ref (pA 4), .ref (pA 5), .ref (pA 6), .ref (pA 7), .ref (pA 8), .ref (pA 9), .ref (pA 10), .int (nI T), .int (nI Ac)], ia (pA 2) (pK 2) 7 (fun i => nI ((pg 2) i)), ia (pA 8) (pK 8) 4 (fun i => nI ((pg 8) i))] H := hP
    refine tp_pc (pc' := 68) (by rfl) ?_
    rw [updN_2, show updN (sc 4) a (ownT pg a &&& pg 10 (pg 5 a)) = updN (sc 4) a (onoT pg a) from by rw [onoT, if_pos (by omega)]] at hP
    replace hP : va_P (dC, dI) classes [oc xa 6 [.ref pa, .ref ga, .ref (xA 0), .ref (xA 1), .ref (xA 2), .ref (xA 3), .ref (xA 4), .ref (xA 5), .ref (xA 6), .ref (xA 7), .ref (xA 8), .ref (xA 9), .ref (xA 10), .ref (xA 11), .ref fa, .int (nI md), .int (nI mb)], ia (xA 3) (xK 3) 7 (fun i => nI ((updN (sc 3) a (ownT pg a)) i)), ia (xA 4) (xK 4) 7 (fun i => nI ((updN (sc 4) a (onoT pg a)) i)), ia (xA 5) (xK 5) 7 (fun i => nI ((sc 5) i)), ia (pA 4) (pK 4) 7 (fun i => nI ((pg 4) i)), ia (pA 5) (pK 5) 7 (fun i => nI ((pg 5) i)), ia (pA 9) (pK 9) 6 (fun i => nI ((pg 9) i)), ia (pA 10) (pK 10) 3 (fun i => nI ((pg 10) i)), oc pa 0 [.ref (pA 0), .ref (pA 1), .ref (pA 2), .ref (pA 3), .ref (pA 4), .ref (pA 5), .ref (pA 6), .ref (pA 7), .ref (pA 8), .ref (pA 9), .ref (pA 10), .int (nI T), .int (nI Ac)], ia (pA 2) (pK 2) 7 (fun i => nI ((pg 2) i)), ia (pA 8) (pK 8) 4 (fun i => nI ((pg 8) i))] H := hP
    refine lv_iload_n hx hb d_GraphSearch_tellOwn_68 rfl (lv_at hl 1 rfl) ?_
    refine lv_if_ne (tgt := 83) hx hb d_GraphSearch_tellOwn_69 (by decide) (fun c_12 => ?_) (fun c_12 => absurd c_12 (by decide))
    refine tp_pc (pc' := 83) (by rfl) ?_
    refine lv_aload_n hx hb d_GraphSearch_tellOwn_83 rfl (lv_at hl 2 rfl) ?_
    refine va_get (D := (dC, dI)) (ci := 6) (v := .int (nI md)) (C := R_GraphSearch) (T := F_GraphSearch) (N := 17) hx hb hw i_GraphSearch hown hK hP 0 rfl rfl 15 (by decide) (hw _ m_334) (fun _ h9 => h9) rfl d_GraphSearch_tellOwn_84 ?_
    refine lv_iconst (v := 2) hx hb d_GraphSearch_tellOwn_87 (by decide) ?_
    refine lv_icmp_ne (tgt := 129) hx hb d_GraphSearch_tellOwn_88 (by decide) (fun c1 => ?_) (fun c1 => ?_)
    · skip
      have hc1 : ¬ (md = 2) := fun q9 => c1 ((nI_eq (a := md) (b := 2) (by omega) (by omega)).mpr q9)
      refine tp_pc (pc' := 129) (by rfl) ?_
      refine lv_aload_n hx hb d_GraphSearch_tellOwn_129 rfl (lv_at hl 2 rfl) ?_
      refine va_get (D := (dC, dI)) (ci := 6) (v := .ref (xA 5)) (C := R_GraphSearch) (T := F_GraphSearch) (N := 17) hx hb hw i_GraphSearch hown hK hP 0 rfl rfl 7 (by decide) (hw _ m_326) (fun _ h9 => h9) rfl d_GraphSearch_tellOwn_130 ?_
      refine lv_iload_n hx hb d_GraphSearch_tellOwn_133 rfl (lv_at hl 3 rfl) ?_
      refine lv_aload_n hx hb d_GraphSearch_tellOwn_134 rfl (lv_at hl 2 rfl) ?_
      refine va_get (D := (dC, dI)) (ci := 6) (v := .ref (xA 3)) (C := R_GraphSearch) (T := F_GraphSearch) (N := 17) hx hb hw i_GraphSearch hown hK hP 0 rfl rfl 5 (by decide) (hw _ m_324) (fun _ h9 => h9) rfl d_GraphSearch_tellOwn_135 ?_
      refine lv_iload_n hx hb d_GraphSearch_tellOwn_138 rfl (lv_at hl 3 rfl) ?_
      refine va_iald (D := (dC, dI)) hx hb hK hP 1 0 rfl rfl (i := nI a) (pk_in a 7 (by omega)) d_GraphSearch_tellOwn_139 ?_
      refine tp_i (y := nI ((updN (sc 3) a (ownT pg a)) a)) (by rw [show (nI a : Int32).toNatClampNeg = a from pk_cl a]) ?_
      refine lv_iload_n hx hb d_GraphSearch_tellOwn_140 rfl (lv_at hl 0 rfl) ?_
      refine lv_iconst (v := (-1)) hx hb d_GraphSearch_tellOwn_141 (by decide) ?_
      refine lv_ixor hx hb d_GraphSearch_tellOwn_142 ?_
      refine tp_i (y := (-1)) (by first | rfl | decide) ?_
      refine lv_iand hx hb d_GraphSearch_tellOwn_143 ?_
      refine tp_i (y := (nI ((updN (sc 3) a (ownT pg a)) a)) &&& (-1)) rfl ?_
      refine tp_i (y := nI (okpT pg md a)) (by rw [updN_s, okpT, show lftT pg md a = 0 from by rw [lftT, if_neg (by omega), if_neg (fun q => hc1 q.1)]]; exact and_m1 _ ow8) ?_
      refine va_iast (D := (dC, dI)) hx hb hK hP (dd_D hD rfl) hS 3 2 rfl rfl (i := nI a) (x := nI (okpT pg md a)) (pk_in a 7 (by omega)) d_GraphSearch_tellOwn_144 ?_
      clear hP hS locs H
      intro H locs hP _ hS
      rw [show (nI a : Int32).toNatClampNeg = a from pk_cl a] at hP
      rw [show upd (fun i => nI ((sc 5) i)) a (nI (okpT pg md a)) = fun i => nI (updN (sc 5) a (okpT pg md a) i) from upd_nI] at hP
      replace hP : va_P (dC, dI) classes [oc xa 6 [.ref pa, .ref ga, .ref (xA 0), .ref (xA 1), .ref (xA 2), .ref (xA 3), .ref (xA 4), .ref (xA 5), .ref (xA 6), .ref (xA 7), .ref (xA 8), .ref (xA 9), .ref (xA 10), .ref (xA 11), .ref fa, .int (nI md), .int (nI mb)], ia (xA 3) (xK 3) 7 (fun i => nI ((updN (sc 3) a (ownT pg a)) i)), ia (xA 4) (xK 4) 7 (fun i => nI ((updN (sc 4) a (onoT pg a)) i)), ia (xA 5) (xK 5) 7 (fun i => nI ((updN (sc 5) a (okpT pg md a)) i)), ia (pA 4) (pK 4) 7 (fun i => nI ((pg 4) i)), ia (pA 5) (pK 5) 7 (fun i => nI ((pg 5) i)), ia (pA 9) (pK 9) 6 (fun i => nI ((pg 9) i)), ia (pA 10) (pK 10) 3 (fun i => nI ((pg 10) i)), oc pa 0 [.ref (pA 0), .ref (pA 1), .ref (pA 2), .ref (pA 3), .ref (pA 4), .ref (pA 5), .ref (pA 6), .ref (pA 7), .ref (pA 8), .ref (pA 9), .ref (pA 10), .int (nI T), .int (nI Ac)], ia (pA 2) (pK 2) 7 (fun i => nI ((pg 2) i)), ia (pA 8) (pK 8) 4 (fun i => nI ((pg 8) i))] H := hP
      refine tp_pc (pc' := 145) (by rfl) ?_
      obtain ⟨hP9, hD9, -⟩ := cut3 (wc := [oc xa 6 [.ref pa, .ref ga, .ref (xA 0), .ref (xA 1), .ref (xA 2), .ref (xA 3), .ref (xA 4), .ref (xA 5), .ref (xA 6), .ref (xA 7), .ref (xA 8), .ref (xA 9), .ref (xA 10), .ref (xA 11), .ref fa, .int (nI md), .int (nI mb)], ia (xA 3) (xK 3) 7 (fun i => nI ((updN (sc 3) a (ownT pg a)) i)), ia (xA 4) (xK 4) 7 (fun i => nI ((updN (sc 4) a (onoT pg a)) i)), ia (xA 5) (xK 5) 7 (fun i => nI ((updN (sc 5) a (okpT pg md a)) i)), oc pa 0 [.ref (pA 0), .ref (pA 1), .ref (pA 2), .ref (pA 3), .ref (pA 4), .ref (pA 5), .ref (pA 6), .ref (pA 7), .ref (pA 8), .ref (pA 9), .ref (pA 10), .int (nI T), .int (nI Ac)], ia (pA 2) (pK 2) 7 (fun i => nI ((pg 2) i)), ia (pA 4) (pK 4) 7 (fun i => nI ((pg 4) i)), ia (pA 5) (pK 5) 7 (fun i => nI ((pg 5) i)), ia (pA 8) (pK 8) 4 (fun i => nI ((pg 8) i)), ia (pA 9) (pK 9) 6 (fun i => nI ((pg 9) i)), ia (pA 10) (pK 10) 3 (fun i => nI ((pg 10) i))]) hP hD rfl hS hA [0, 1, 2, 3, 8, 9, 4, 5, 10, 6, 7] (by decide +kernel) rfl
      have hK9 := hK.sub (tys' := []) [] rfl
      refine W.widen (k := 0) (n := 0) (by exact Nat.le_of_ble_eq_true rfl) (by exact Nat.le_of_ble_eq_true rfl) ?_
      exact W.vret hx hb hr (fun t9 ht9 hW => ⟨⟨(), rfl, trivial, by rw [ht9]; exact hP9, va_K.moved hW.alike hK9, hD9⟩, hS.F ht9⟩) hS.2.2 d_GraphSearch_tellOwn_145
    · skip
      have hc1 : md = 2 := (nI_eq (a := md) (b := 2) (by omega) (by omega)).mp c1
      refine tp_pc (pc' := 91) (by rfl) ?_
      refine lv_iload_n hx hb d_GraphSearch_tellOwn_91 rfl (lv_at hl 1 rfl) ?_
      refine lv_iconst (v := 1) hx hb d_GraphSearch_tellOwn_92 (by decide) ?_
      refine lv_icmp_eq (tgt := 101) hx hb d_GraphSearch_tellOwn_93 (by decide) (fun c_13 => absurd c_13 (by decide)) (fun c_13 => ?_)
      refine tp_pc (pc' := 96) (by rfl) ?_
      refine lv_iload_n hx hb d_GraphSearch_tellOwn_96 rfl (lv_at hl 1 rfl) ?_
      refine lv_iconst (v := 2) hx hb d_GraphSearch_tellOwn_97 (by decide) ?_
      refine lv_icmp_ne (tgt := 129) hx hb d_GraphSearch_tellOwn_98 (by decide) (fun c_14 => absurd c_14 (by decide)) (fun c_14 => ?_)
      refine tp_pc (pc' := 101) (by rfl) ?_
      refine lv_aload_n hx hb d_GraphSearch_tellOwn_101 rfl (lv_at hl 2 rfl) ?_
      refine va_get (D := (dC, dI)) (ci := 6) (v := .ref pa) (C := R_GraphSearch) (T := F_GraphSearch) (N := 17) hx hb hw i_GraphSearch hown hK hP 0 rfl rfl 0 (by decide) (hw _ m_319) (fun _ h9 => h9) rfl d_GraphSearch_tellOwn_102 ?_
      obtain ⟨hPc, hDc, hFc⟩ := cut3 (wc := [oc pa 0 [.ref (pA 0), .ref (pA 1), .ref (pA 2), .ref (pA 3), .ref (pA 4), .ref (pA 5), .ref (pA 6), .ref (pA 7), .ref (pA 8), .ref (pA 9), .ref (pA 10), .int (nI T), .int (nI Ac)], ia (pA 9) (pK 9) 6 (fun i => nI ((pg 9) i))]) hP hD rfl hS hA [8, 6] (by decide +kernel) rfl
      have hKc := hK.sub (tys' := [((pK 9), .int)]) [7] rfl
      refine va_calli (va_runV (As := []) (rest := []) ⟨hx, hb, hml, hown, hw⟩ (gen_Program_stores l dC dI pa pA pK T Ac pg nm (p7 1) (p7 2) H.size) (cw_V 0 hw g_Program_stores rfl rfl rfl (hw _ m_102) (hw _ m_756) (hw _ m_757) (hw _ m_758) (by decide +kernel) ⟨Nat.le_of_ble_eq_true rfl, Nat.le_of_ble_eq_true rfl⟩) ⟨fun a U g mk q => by obtain ⟨q0, q1, qP, qK, qD, qN⟩ := q; exact ⟨q0, q1, qP, va_K.moved (u := U) (U := U.calling g mk a) (Vm.Alike.refl U.vm) qK, qD, nw_call qN⟩, va_recv hKc hPc (ci := 0) (q0 := 0) rfl rfl, fun U hU hW => ⟨rfl, by rw [hU], by rw [hU]; exact hPc, va_K.moved hW.alike hKc, hDc.weaken (fun _ _ _ _ => trivial), nw_warm hW hn⟩⟩ rfl rfl hl.1 rfl (lv_room (Nat.le_of_ble_eq_true rfl)) d_GraphSearch_tellOwn_105 ⟨Nat.le_of_ble_eq_true rfl, Nat.le_of_ble_eq_true rfl⟩) hS (fun q _ h => hFc q h) hFc ?_
      intro r_15 u t9 H1 locs1 ht9 hvm hw1 hB hz1 hk1 hS1
      obtain ⟨hP1, hK1, hD1⟩ := hB
      rw [ht9] at hP1
      replace hK1 := va_K.moved hvm.symm hK1
      have hPD := join3 hP hD rfl [8, 6] [0, 1, 2, 3, 4, 5, 7, 9, 10] rfl (by rfl) (by decide +kernel) (by decide +kernel) hk1 hFc hP1 hD1
      replace hK : va_K (dC, dI) classes [((xK 3), .int), ((xK 4), .int), ((xK 5), .int), ((pK 2), .int), ((pK 4), .int), ((pK 5), .int), ((pK 8), .int), ((pK 9), .int), ((pK 10), .int)] s := hK.app hK1
      clear hP1 hK1 hD1 hk1 hz1 hFc hKc hDc hPc hvm ht9 hP hS t9 locs H
      have hP : va_P (dC, dI) classes [oc xa 6 [.ref pa, .ref ga, .ref (xA 0), .ref (xA 1), .ref (xA 2), .ref (xA 3), .ref (xA 4), .ref (xA 5), .ref (xA 6), .ref (xA 7), .ref (xA 8), .ref (xA 9), .ref (xA 10), .ref (xA 11), .ref fa, .int (nI md), .int (nI mb)], ia (xA 3) (xK 3) 7 (fun i => nI ((updN (sc 3) a (ownT pg a)) i)), ia (xA 4) (xK 4) 7 (fun i => nI ((updN (sc 4) a (onoT pg a)) i)), ia (xA 5) (xK 5) 7 (fun i => nI ((sc 5) i)), ia (pA 4) (pK 4) 7 (fun i => nI ((pg 4) i)), ia (pA 5) (pK 5) 7 (fun i => nI ((pg 5) i)), ia (pA 10) (pK 10) 3 (fun i => nI ((pg 10) i)), ia (pA 2) (pK 2) 7 (fun i => nI ((pg 2) i)), ia (pA 8) (pK 8) 4 (fun i => nI ((pg 8) i)), oc pa 0 [.ref (pA 0), .ref (pA 1), .ref (pA 2), .ref (pA 3), .ref (pA 4), .ref (pA 5), .ref (pA 6), .ref (pA 7), .ref (pA 8), .ref (pA 9), .ref (pA 10), .int (nI T), .int (nI Ac)], ia (pA 9) (pK 9) 6 (fun i => nI ((pg 9) i))] H1 := hPD.1
      replace hD : dd A [xa, (xA 3), (xA 4), (xA 5), (pA 4), (pA 5), (pA 10), (pA 2), (pA 8), pa, (pA 9)] := dd_of hPD.2 rfl
      clear hPD
      revert H1 locs1
      intro H locs hS hP
      refine tp_i (y := nI (pg 9 1 ||| pg 9 2)) (hw1) ?_
      clear hw1 r_15 u
      have lf8 : andn (pg 9 1 ||| pg 9 2) (pg 10 (pg 5 a)) < 128 := andn_lt st8
      refine tp_pc (pc' := 108) (by rfl) ?_
      refine lv_aload_n hx hb d_GraphSearch_tellOwn_108 rfl (lv_at hl 2 rfl) ?_
      refine va_get (D := (dC, dI)) (ci := 6) (v := .ref pa) (C := R_GraphSearch) (T := F_GraphSearch) (N := 17) hx hb hw i_GraphSearch hown hK hP 0 rfl rfl 0 (by decide) (hw _ m_319) (fun _ h9 => h9) rfl d_GraphSearch_tellOwn_109 ?_
      refine va_get (D := (dC, dI)) (ci := 0) (v := .ref (pA 10)) (C := R_Program) (T := F_Program) (N := 13) hx hb hw i_Program hown hK hP 9 rfl rfl 10 (by decide) (hw _ m_158) (fun _ h9 => h9) rfl d_GraphSearch_tellOwn_112 ?_
      refine lv_aload_n hx hb d_GraphSearch_tellOwn_115 rfl (lv_at hl 2 rfl) ?_
      refine va_get (D := (dC, dI)) (ci := 6) (v := .ref pa) (C := R_GraphSearch) (T := F_GraphSearch) (N := 17) hx hb hw i_GraphSearch hown hK hP 0 rfl rfl 0 (by decide) (hw _ m_319) (fun _ h9 => h9) rfl d_GraphSearch_tellOwn_116 ?_
      refine va_get (D := (dC, dI)) (ci := 0) (v := .ref (pA 5)) (C := R_Program) (T := F_Program) (N := 13) hx hb hw i_Program hown hK hP 9 rfl rfl 5 (by decide) (hw _ m_144) (fun _ h9 => h9) rfl d_GraphSearch_tellOwn_119 ?_
      refine lv_iload_n hx hb d_GraphSearch_tellOwn_122 rfl (lv_at hl 3 rfl) ?_
      refine va_iald (D := (dC, dI)) hx hb hK hP 5 5 rfl rfl (i := nI a) (pk_in a 7 (by omega)) d_GraphSearch_tellOwn_123 ?_
      refine tp_i (y := nI ((pg 5) a)) (by rw [show (nI a : Int32).toNatClampNeg = a from pk_cl a]) ?_
      refine va_iald (D := (dC, dI)) hx hb hK hP 6 8 rfl rfl (i := nI ((pg 5) a)) (pk_in ((pg 5) a) 3 (by omega)) d_GraphSearch_tellOwn_124 ?_
      refine tp_i (y := nI ((pg 10) ((pg 5) a))) (by rw [show (nI ((pg 5) a) : Int32).toNatClampNeg = (pg 5) a from pk_cl ((pg 5) a)]) ?_
      refine lv_iconst (v := (-1)) hx hb d_GraphSearch_tellOwn_125 (by decide) ?_
      refine lv_ixor hx hb d_GraphSearch_tellOwn_126 ?_
      refine tp_i (y := (nI ((pg 10) ((pg 5) a))) ^^^ (-1)) rfl ?_
      refine lv_iand hx hb d_GraphSearch_tellOwn_127 ?_
      refine tp_i (y := (nI (pg 9 1 ||| pg 9 2)) &&& ((nI ((pg 10) ((pg 5) a))) ^^^ (-1))) rfl ?_
      refine tp_i (y := nI (andn (pg 9 1 ||| pg 9 2) (pg 10 (pg 5 a)))) (andn_eq _ st8 _ (p8 _)) ?_
      refine lv_istore_n (lv' := [(3, .int (nI (andn (pg 9 1 ||| pg 9 2) (pg 10 (pg 5 a))))), (2, .int 2), (0, .ref xa), (1, .int (nI a))]) hx hb d_GraphSearch_tellOwn_128 rfl hl (by decide) rfl ?_
      clear hl ls
      intro ls hl
      refine lv_aload_n hx hb d_GraphSearch_tellOwn_129 rfl (lv_at hl 2 rfl) ?_
      refine va_get (D := (dC, dI)) (ci := 6) (v := .ref (xA 5)) (C := R_GraphSearch) (T := F_GraphSearch) (N := 17) hx hb hw i_GraphSearch hown hK hP 0 rfl rfl 7 (by decide) (hw _ m_326) (fun _ h9 => h9) rfl d_GraphSearch_tellOwn_130 ?_
      refine lv_iload_n hx hb d_GraphSearch_tellOwn_133 rfl (lv_at hl 3 rfl) ?_
      refine lv_aload_n hx hb d_GraphSearch_tellOwn_134 rfl (lv_at hl 2 rfl) ?_
      refine va_get (D := (dC, dI)) (ci := 6) (v := .ref (xA 3)) (C := R_GraphSearch) (T := F_GraphSearch) (N := 17) hx hb hw i_GraphSearch hown hK hP 0 rfl rfl 5 (by decide) (hw _ m_324) (fun _ h9 => h9) rfl d_GraphSearch_tellOwn_135 ?_
      refine lv_iload_n hx hb d_GraphSearch_tellOwn_138 rfl (lv_at hl 3 rfl) ?_
      refine va_iald (D := (dC, dI)) hx hb hK hP 1 0 rfl rfl (i := nI a) (pk_in a 7 (by omega)) d_GraphSearch_tellOwn_139 ?_
      refine tp_i (y := nI ((updN (sc 3) a (ownT pg a)) a)) (by rw [show (nI a : Int32).toNatClampNeg = a from pk_cl a]) ?_
      refine lv_iload_n hx hb d_GraphSearch_tellOwn_140 rfl (lv_at hl 0 rfl) ?_
      refine lv_iconst (v := (-1)) hx hb d_GraphSearch_tellOwn_141 (by decide) ?_
      refine lv_ixor hx hb d_GraphSearch_tellOwn_142 ?_
      refine tp_i (y := (nI (andn (pg 9 1 ||| pg 9 2) (pg 10 (pg 5 a)))) ^^^ (-1)) rfl ?_
      refine lv_iand hx hb d_GraphSearch_tellOwn_143 ?_
      refine tp_i (y := (nI ((updN (sc 3) a (ownT pg a)) a)) &&& ((nI (andn (pg 9 1 ||| pg 9 2) (pg 10 (pg 5 a)))) ^^^ (-1))) rfl ?_
      refine tp_i (y := nI (okpT pg md a)) (by rw [updN_s, okpT, show lftT pg md a = andn (pg 9 1 ||| pg 9 2) (pg 10 (pg 5 a)) from by rw [lftT, if_neg (by omega), if_pos ⟨hc1, by omega⟩]]; exact andn_eq _ ow8 _ lf8) ?_
      refine va_iast (D := (dC, dI)) hx hb hK hP (dd_D hD rfl) hS 3 2 rfl rfl (i := nI a) (x := nI (okpT pg md a)) (pk_in a 7 (by omega)) d_GraphSearch_tellOwn_144 ?_
      clear hP hS locs H
      intro H locs hP _ hS
      rw [show (nI a : Int32).toNatClampNeg = a from pk_cl a] at hP
      rw [show upd (fun i => nI ((sc 5) i)) a (nI (okpT pg md a)) = fun i => nI (updN (sc 5) a (okpT pg md a) i) from upd_nI] at hP
      replace hP : va_P (dC, dI) classes [oc xa 6 [.ref pa, .ref ga, .ref (xA 0), .ref (xA 1), .ref (xA 2), .ref (xA 3), .ref (xA 4), .ref (xA 5), .ref (xA 6), .ref (xA 7), .ref (xA 8), .ref (xA 9), .ref (xA 10), .ref (xA 11), .ref fa, .int (nI md), .int (nI mb)], ia (xA 3) (xK 3) 7 (fun i => nI ((updN (sc 3) a (ownT pg a)) i)), ia (xA 4) (xK 4) 7 (fun i => nI ((updN (sc 4) a (onoT pg a)) i)), ia (xA 5) (xK 5) 7 (fun i => nI ((updN (sc 5) a (okpT pg md a)) i)), ia (pA 4) (pK 4) 7 (fun i => nI ((pg 4) i)), ia (pA 5) (pK 5) 7 (fun i => nI ((pg 5) i)), ia (pA 10) (pK 10) 3 (fun i => nI ((pg 10) i)), ia (pA 2) (pK 2) 7 (fun i => nI ((pg 2) i)), ia (pA 8) (pK 8) 4 (fun i => nI ((pg 8) i)), oc pa 0 [.ref (pA 0), .ref (pA 1), .ref (pA 2), .ref (pA 3), .ref (pA 4), .ref (pA 5), .ref (pA 6), .ref (pA 7), .ref (pA 8), .ref (pA 9), .ref (pA 10), .int (nI T), .int (nI Ac)], ia (pA 9) (pK 9) 6 (fun i => nI ((pg 9) i))] H := hP
      refine tp_pc (pc' := 145) (by rfl) ?_
      obtain ⟨hP9, hD9, -⟩ := cut3 (wc := [oc xa 6 [.ref pa, .ref ga, .ref (xA 0), .ref (xA 1), .ref (xA 2), .ref (xA 3), .ref (xA 4), .ref (xA 5), .ref (xA 6), .ref (xA 7), .ref (xA 8), .ref (xA 9), .ref (xA 10), .ref (xA 11), .ref fa, .int (nI md), .int (nI mb)], ia (xA 3) (xK 3) 7 (fun i => nI ((updN (sc 3) a (ownT pg a)) i)), ia (xA 4) (xK 4) 7 (fun i => nI ((updN (sc 4) a (onoT pg a)) i)), ia (xA 5) (xK 5) 7 (fun i => nI ((updN (sc 5) a (okpT pg md a)) i)), oc pa 0 [.ref (pA 0), .ref (pA 1), .ref (pA 2), .ref (pA 3), .ref (pA 4), .ref (pA 5), .ref (pA 6), .ref (pA 7), .ref (pA 8), .ref (pA 9), .ref (pA 10), .int (nI T), .int (nI Ac)], ia (pA 2) (pK 2) 7 (fun i => nI ((pg 2) i)), ia (pA 4) (pK 4) 7 (fun i => nI ((pg 4) i)), ia (pA 5) (pK 5) 7 (fun i => nI ((pg 5) i)), ia (pA 8) (pK 8) 4 (fun i => nI ((pg 8) i)), ia (pA 9) (pK 9) 6 (fun i => nI ((pg 9) i)), ia (pA 10) (pK 10) 3 (fun i => nI ((pg 10) i))]) hP hD rfl hS hA [0, 1, 2, 3, 9, 7, 4, 5, 8, 10, 6] (by decide +kernel) rfl
      have hK9 := hK.sub (tys' := []) [] rfl
      refine W.widen (k := 0) (n := 0) (by exact Nat.le_of_ble_eq_true rfl) (by exact Nat.le_of_ble_eq_true rfl) ?_
      exact W.vret hx hb hr (fun t9 ht9 hW => ⟨⟨(), rfl, trivial, by rw [ht9]; exact hP9, va_K.moved hW.alike hK9, hD9⟩, hS.F ht9⟩) hS.2.2 d_GraphSearch_tellOwn_145
  · skip
    refine tp_i (y := 3) (by rw [hk]; rfl) ?_
    refine lv_istore_n (lv' := [(2, .int 3), (0, .ref xa), (1, .int (nI a))]) hx hb d_GraphSearch_tellOwn_9 rfl hl (by decide) rfl ?_
    clear hl ls
    intro ls hl
    refine lv_iconst (v := 0) hx hb d_GraphSearch_tellOwn_10 (by decide) ?_
    refine lv_istore_n (lv' := [(3, .int 0), (2, .int 3), (0, .ref xa), (1, .int (nI a))]) hx hb d_GraphSearch_tellOwn_11 rfl hl (by decide) rfl ?_
    clear hl ls
    intro ls hl
    refine lv_aload_n hx hb d_GraphSearch_tellOwn_12 rfl (lv_at hl 2 rfl) ?_
    refine va_get (D := (dC, dI)) (ci := 6) (v := .ref (xA 3)) (C := R_GraphSearch) (T := F_GraphSearch) (N := 17) hx hb hw i_GraphSearch hown hK hP 0 rfl rfl 5 (by decide) (hw _ m_324) (fun _ h9 => h9) rfl d_GraphSearch_tellOwn_13 ?_
    refine lv_iload_n hx hb d_GraphSearch_tellOwn_16 rfl (lv_at hl 3 rfl) ?_
    refine lv_aload_n hx hb d_GraphSearch_tellOwn_17 rfl (lv_at hl 2 rfl) ?_
    refine va_get (D := (dC, dI)) (ci := 6) (v := .ref pa) (C := R_GraphSearch) (T := F_GraphSearch) (N := 17) hx hb hw i_GraphSearch hown hK hP 0 rfl rfl 0 (by decide) (hw _ m_319) (fun _ h9 => h9) rfl d_GraphSearch_tellOwn_18 ?_
    refine lv_iload_n hx hb d_GraphSearch_tellOwn_21 rfl (lv_at hl 3 rfl) ?_
    obtain ⟨hPc, hDc, hFc⟩ := cut3 (wc := [oc pa 0 [.ref (pA 0), .ref (pA 1), .ref (pA 2), .ref (pA 3), .ref (pA 4), .ref (pA 5), .ref (pA 6), .ref (pA 7), .ref (pA 8), .ref (pA 9), .ref (pA 10), .int (nI T), .int (nI Ac)], ia (pA 2) (pK 2) 7 (fun i => nI ((pg 2) i)), ia (pA 8) (pK 8) 4 (fun i => nI ((pg 8) i))]) hP hD rfl hS hA [4, 5, 8] (by decide +kernel) rfl
    have hKc := hK.sub (tys' := [((pK 2), .int), ((pK 8), .int)]) [3, 6] rfl
    refine va_calli (va_runV (As := [.int (nI a)]) (rest := [.int (nI a), .ref (xA 3)]) ⟨hx, hb, hml, hown, hw⟩ (gen_Program_ownBefore l dC dI pa pA pK T Ac pg nm a (by omega) (by omega) (p6 _) s.heap.size) (cw_V 1 hw g_Program_ownBefore rfl rfl rfl (hw _ m_102) (hw _ m_752) (hw _ m_753) (hw _ m_754) (by decide +kernel) ⟨Nat.le_of_ble_eq_true rfl, Nat.le_of_ble_eq_true rfl⟩) ⟨fun a U g mk q => by obtain ⟨q0, q1, qP, qK, qD, qN⟩ := q; exact ⟨q0, q1, qP, va_K.moved (u := U) (U := U.calling g mk a) (Vm.Alike.refl U.vm) qK, qD, nw_call qN⟩, va_recv hKc hPc (ci := 0) (q0 := 0) rfl rfl, fun U hU hW => ⟨rfl, by rw [hU], by rw [hU]; exact hPc, va_K.moved hW.alike hKc, hDc.weaken (fun _ _ _ _ => trivial), nw_warm hW hn⟩⟩ rfl rfl hl.1 rfl (lv_room (Nat.le_of_ble_eq_true rfl)) d_GraphSearch_tellOwn_22 ⟨Nat.le_of_ble_eq_true rfl, Nat.le_of_ble_eq_true rfl⟩) hS (fun q _ h => hFc q h) hFc ?_
    intro r_16 u t9 H1 locs1 ht9 hvm hw1 hB hz1 hk1 hS1
    obtain ⟨hP1, hK1, hD1⟩ := hB
    rw [ht9] at hP1
    replace hK1 := va_K.moved hvm.symm hK1
    have hPD := join3 hP hD rfl [4, 5, 8] [0, 1, 2, 3, 6, 7, 9, 10] rfl (by rfl) (by decide +kernel) (by decide +kernel) hk1 hFc hP1 hD1
    replace hK : va_K (dC, dI) classes [((xK 3), .int), ((xK 4), .int), ((xK 5), .int), ((pK 2), .int), ((pK 4), .int), ((pK 5), .int), ((pK 8), .int), ((pK 9), .int), ((pK 10), .int)] s := hK.app hK1
    clear hP1 hK1 hD1 hk1 hz1 hFc hKc hDc hPc hvm ht9 hP hS t9
    have hP : va_P (dC, dI) classes [oc xa 6 [.ref pa, .ref ga, .ref (xA 0), .ref (xA 1), .ref (xA 2), .ref (xA 3), .ref (xA 4), .ref (xA 5), .ref (xA 6), .ref (xA 7), .ref (xA 8), .ref (xA 9), .ref (xA 10), .ref (xA 11), .ref fa, .int (nI md), .int (nI mb)], ia (xA 3) (xK 3) 7 (fun i => nI ((sc 3) i)), ia (xA 4) (xK 4) 7 (fun i => nI ((sc 4) i)), ia (xA 5) (xK 5) 7 (fun i => nI ((sc 5) i)), ia (pA 4) (pK 4) 7 (fun i => nI ((pg 4) i)), ia (pA 5) (pK 5) 7 (fun i => nI ((pg 5) i)), ia (pA 9) (pK 9) 6 (fun i => nI ((pg 9) i)), ia (pA 10) (pK 10) 3 (fun i => nI ((pg 10) i)), oc pa 0 [.ref (pA 0), .ref (pA 1), .ref (pA 2), .ref (pA 3), .ref (pA 4), .ref (pA 5), .ref (pA 6), .ref (pA 7), .ref (pA 8), .ref (pA 9), .ref (pA 10), .int (nI T), .int (nI Ac)], ia (pA 2) (pK 2) 7 (fun i => nI ((pg 2) i)), ia (pA 8) (pK 8) 4 (fun i => nI ((pg 8) i))] H1 := hPD.1
    replace hD : dd A [xa, (xA 3), (xA 4), (xA 5), (pA 4), (pA 5), (pA 9), (pA 10), pa, (pA 2), (pA 8)] := dd_of hPD.2 rfl
    clear hPD
    revert H1 locs1
    intro H locs hS hP
    refine tp_i (y := nI (ownT pg a)) (hw1) ?_
    clear hw1 r_16 u
    have hx3 := k4 (by omega)
    refine tp_pc (pc' := 25) (by rfl) ?_
    refine va_iast (D := (dC, dI)) hx hb hK hP (dd_D hD rfl) hS 1 0 rfl rfl (i := nI a) (x := nI (ownT pg a)) (pk_in a 7 (by omega)) d_GraphSearch_tellOwn_25 ?_
    clear hP hS locs H
    intro H locs hP _ hS
    rw [show (nI a : Int32).toNatClampNeg = a from pk_cl a] at hP
    rw [show upd (fun i => nI ((sc 3) i)) a (nI (ownT pg a)) = fun i => nI (updN (sc 3) a (ownT pg a) i) from upd_nI] at hP
    replace hP : va_P (dC, dI) classes [oc xa 6 [.ref pa, .ref ga, .ref (xA 0), .ref (xA 1), .ref (xA 2), .ref (xA 3), .ref (xA 4), .ref (xA 5), .ref (xA 6), .ref (xA 7), .ref (xA 8), .ref (xA 9), .ref (xA 10), .ref (xA 11), .ref fa, .int (nI md), .int (nI mb)], ia (xA 3) (xK 3) 7 (fun i => nI ((updN (sc 3) a (ownT pg a)) i)), ia (xA 4) (xK 4) 7 (fun i => nI ((sc 4) i)), ia (xA 5) (xK 5) 7 (fun i => nI ((sc 5) i)), ia (pA 4) (pK 4) 7 (fun i => nI ((pg 4) i)), ia (pA 5) (pK 5) 7 (fun i => nI ((pg 5) i)), ia (pA 9) (pK 9) 6 (fun i => nI ((pg 9) i)), ia (pA 10) (pK 10) 3 (fun i => nI ((pg 10) i)), oc pa 0 [.ref (pA 0), .ref (pA 1), .ref (pA 2), .ref (pA 3), .ref (pA 4), .ref (pA 5), .ref (pA 6), .ref (pA 7), .ref (pA 8), .ref (pA 9), .ref (pA 10), .int (nI T), .int (nI Ac)], ia (pA 2) (pK 2) 7 (fun i => nI ((pg 2) i)), ia (pA 8) (pK 8) 4 (fun i => nI ((pg 8) i))] H := hP
    refine tp_pc (pc' := 26) (by rfl) ?_
    refine lv_aload_n hx hb d_GraphSearch_tellOwn_26 rfl (lv_at hl 2 rfl) ?_
    refine va_get (D := (dC, dI)) (ci := 6) (v := .ref (xA 4)) (C := R_GraphSearch) (T := F_GraphSearch) (N := 17) hx hb hw i_GraphSearch hown hK hP 0 rfl rfl 6 (by decide) (hw _ m_325) (fun _ h9 => h9) rfl d_GraphSearch_tellOwn_27 ?_
    refine lv_iload_n hx hb d_GraphSearch_tellOwn_30 rfl (lv_at hl 3 rfl) ?_
    refine lv_iconst (v := 0) hx hb d_GraphSearch_tellOwn_31 (by decide) ?_
    refine va_iast (D := (dC, dI)) hx hb hK hP (dd_D hD rfl) hS 2 1 rfl rfl (i := nI a) (x := 0) (pk_in a 7 (by omega)) d_GraphSearch_tellOwn_32 ?_
    clear hP hS locs H
    intro H locs hP _ hS
    rw [show (nI a : Int32).toNatClampNeg = a from pk_cl a] at hP
    rw [show upd (fun i => nI ((sc 4) i)) a 0 = fun i => nI (updN (sc 4) a 0 i) from upd_nI] at hP
    replace hP : va_P (dC, dI) classes [oc xa 6 [.ref pa, .ref ga, .ref (xA 0), .ref (xA 1), .ref (xA 2), .ref (xA 3), .ref (xA 4), .ref (xA 5), .ref (xA 6), .ref (xA 7), .ref (xA 8), .ref (xA 9), .ref (xA 10), .ref (xA 11), .ref fa, .int (nI md), .int (nI mb)], ia (xA 3) (xK 3) 7 (fun i => nI ((updN (sc 3) a (ownT pg a)) i)), ia (xA 4) (xK 4) 7 (fun i => nI ((updN (sc 4) a 0) i)), ia (xA 5) (xK 5) 7 (fun i => nI ((sc 5) i)), ia (pA 4) (pK 4) 7 (fun i => nI ((pg 4) i)), ia (pA 5) (pK 5) 7 (fun i => nI ((pg 5) i)), ia (pA 9) (pK 9) 6 (fun i => nI ((pg 9) i)), ia (pA 10) (pK 10) 3 (fun i => nI ((pg 10) i)), oc pa 0 [.ref (pA 0), .ref (pA 1), .ref (pA 2), .ref (pA 3), .ref (pA 4), .ref (pA 5), .ref (pA 6), .ref (pA 7), .ref (pA 8), .ref (pA 9), .ref (pA 10), .int (nI T), .int (nI Ac)], ia (pA 2) (pK 2) 7 (fun i => nI ((pg 2) i)), ia (pA 8) (pK 8) 4 (fun i => nI ((pg 8) i))] H := hP
    refine tp_pc (pc' := 33) (by rfl) ?_
    refine lv_iload_n hx hb d_GraphSearch_tellOwn_33 rfl (lv_at hl 1 rfl) ?_
    refine lv_iconst (v := 4) hx hb d_GraphSearch_tellOwn_34 (by decide) ?_
    refine lv_icmp_ge (tgt := 68) hx hb d_GraphSearch_tellOwn_35 (by decide) (fun c_17 => absurd c_17 (by decide)) (fun c_17 => ?_)
    refine tp_pc (pc' := 38) (by rfl) ?_
    refine lv_aload_n hx hb d_GraphSearch_tellOwn_38 rfl (lv_at hl 2 rfl) ?_
    refine va_get (D := (dC, dI)) (ci := 6) (v := .ref (xA 4)) (C := R_GraphSearch) (T := F_GraphSearch) (N := 17) hx hb hw i_GraphSearch hown hK hP 0 rfl rfl 6 (by decide) (hw _ m_325) (fun _ h9 => h9) rfl d_GraphSearch_tellOwn_39 ?_
    refine lv_iload_n hx hb d_GraphSearch_tellOwn_42 rfl (lv_at hl 3 rfl) ?_
    refine lv_aload_n hx hb d_GraphSearch_tellOwn_43 rfl (lv_at hl 2 rfl) ?_
    refine va_get (D := (dC, dI)) (ci := 6) (v := .ref (xA 3)) (C := R_GraphSearch) (T := F_GraphSearch) (N := 17) hx hb hw i_GraphSearch hown hK hP 0 rfl rfl 5 (by decide) (hw _ m_324) (fun _ h9 => h9) rfl d_GraphSearch_tellOwn_44 ?_
    refine lv_iload_n hx hb d_GraphSearch_tellOwn_47 rfl (lv_at hl 3 rfl) ?_
    refine va_iald (D := (dC, dI)) hx hb hK hP 1 0 rfl rfl (i := nI a) (pk_in a 7 (by omega)) d_GraphSearch_tellOwn_48 ?_
    refine tp_i (y := nI ((updN (sc 3) a (ownT pg a)) a)) (by rw [show (nI a : Int32).toNatClampNeg = a from pk_cl a]) ?_
    refine lv_aload_n hx hb d_GraphSearch_tellOwn_49 rfl (lv_at hl 2 rfl) ?_
    refine va_get (D := (dC, dI)) (ci := 6) (v := .ref pa) (C := R_GraphSearch) (T := F_GraphSearch) (N := 17) hx hb hw i_GraphSearch hown hK hP 0 rfl rfl 0 (by decide) (hw _ m_319) (fun _ h9 => h9) rfl d_GraphSearch_tellOwn_50 ?_
    refine va_get (D := (dC, dI)) (ci := 0) (v := .ref (pA 10)) (C := R_Program) (T := F_Program) (N := 13) hx hb hw i_Program hown hK hP 8 rfl rfl 10 (by decide) (hw _ m_158) (fun _ h9 => h9) rfl d_GraphSearch_tellOwn_53 ?_
    refine lv_aload_n hx hb d_GraphSearch_tellOwn_56 rfl (lv_at hl 2 rfl) ?_
    refine va_get (D := (dC, dI)) (ci := 6) (v := .ref pa) (C := R_GraphSearch) (T := F_GraphSearch) (N := 17) hx hb hw i_GraphSearch hown hK hP 0 rfl rfl 0 (by decide) (hw _ m_319) (fun _ h9 => h9) rfl d_GraphSearch_tellOwn_57 ?_
    refine va_get (D := (dC, dI)) (ci := 0) (v := .ref (pA 5)) (C := R_Program) (T := F_Program) (N := 13) hx hb hw i_Program hown hK hP 8 rfl rfl 5 (by decide) (hw _ m_144) (fun _ h9 => h9) rfl d_GraphSearch_tellOwn_60 ?_
    refine lv_iload_n hx hb d_GraphSearch_tellOwn_63 rfl (lv_at hl 3 rfl) ?_
    refine va_iald (D := (dC, dI)) hx hb hK hP 5 5 rfl rfl (i := nI a) (pk_in a 7 (by omega)) d_GraphSearch_tellOwn_64 ?_
    refine tp_i (y := nI ((pg 5) a)) (by rw [show (nI a : Int32).toNatClampNeg = a from pk_cl a]) ?_
    refine va_iald (D := (dC, dI)) hx hb hK hP 7 8 rfl rfl (i := nI ((pg 5) a)) (pk_in ((pg 5) a) 3 (by omega)) d_GraphSearch_tellOwn_65 ?_
    refine tp_i (y := nI ((pg 10) ((pg 5) a))) (by rw [show (nI ((pg 5) a) : Int32).toNatClampNeg = (pg 5) a from pk_cl ((pg 5) a)]) ?_
    refine lv_iand hx hb d_GraphSearch_tellOwn_66 ?_
    refine tp_i (y := (nI ((updN (sc 3) a (ownT pg a)) a)) &&& (nI ((pg 10) ((pg 5) a)))) rfl ?_
    refine tp_i (y := nI (ownT pg a &&& pg 10 (pg 5 a))) (by rw [updN_s]; exact and_eq ow8 (p8 _)) ?_
    refine va_iast (D := (dC, dI)) hx hb hK hP (dd_D hD rfl) hS 2 1 rfl rfl (i := nI a) (x := nI (ownT pg a &&& pg 10 (pg 5 a))) (pk_in a 7 (by omega)) d_GraphSearch_tellOwn_67 ?_
    clear hP hS locs H
    intro H locs hP _ hS
    rw [show (nI a : Int32).toNatClampNeg = a from pk_cl a] at hP
    rw [show upd (fun i => nI ((updN (sc 4) a 0) i)) a (nI (ownT pg a &&& pg 10 (pg 5 a))) = fun i => nI (updN (updN (sc 4) a 0) a (ownT pg a &&& pg 10 (pg 5 a)) i) from upd_nI] at hP
    replace hP : va_P (dC, dI) classes [oc xa 6 [.ref pa, .ref ga, .ref (xA 0), .ref (xA 1), .ref (xA 2), .ref (xA 3), .ref (xA 4), .ref (xA 5), .ref (xA 6), .ref (xA 7), .ref (xA 8), .ref (xA 9), .ref (xA 10), .ref (xA 11), .ref fa, .int (nI md), .int (nI mb)], ia (xA 3) (xK 3) 7 (fun i => nI ((updN (sc 3) a (ownT pg a)) i)), ia (xA 4) (xK 4) 7 (fun i => nI ((updN (updN (sc 4) a 0) a (ownT pg a &&& pg 10 (pg 5 a))) i)), ia (xA 5) (xK 5) 7 (fun i => nI ((sc 5) i)), ia (pA 4) (pK 4) 7 (fun i => nI ((pg 4) i)), ia (pA 5) (pK 5) 7 (fun i => nI ((pg 5) i)), ia (pA 9) (pK 9) 6 (fun i => nI ((pg 9) i)), ia (pA 10) (pK 10) 3 (fun i => nI ((pg 10) i)), oc pa 0 [.ref (pA 0), .ref (pA 1), .ref (pA 2), .ref (pA 3), .ref (pA 4), .ref (pA 5), .ref (pA 6), .ref (pA 7), .ref (pA 8), .ref (pA 9), .ref (pA 10), .int (nI T), .int (nI Ac)], ia (pA 2) (pK 2) 7 (fun i => nI ((pg 2) i)), ia (pA 8) (pK 8) 4 (fun i => nI ((pg 8) i))] H := hP
    refine tp_pc (pc' := 68) (by rfl) ?_
    rw [updN_2, show updN (sc 4) a (ownT pg a &&& pg 10 (pg 5 a)) = updN (sc 4) a (onoT pg a) from by rw [onoT, if_pos (by omega)]] at hP
    replace hP : va_P (dC, dI) classes [oc xa 6 [.ref pa, .ref ga, .ref (xA 0), .ref (xA 1), .ref (xA 2), .ref (xA 3), .ref (xA 4), .ref (xA 5), .ref (xA 6), .ref (xA 7), .ref (xA 8), .ref (xA 9), .ref (xA 10), .ref (xA 11), .ref fa, .int (nI md), .int (nI mb)], ia (xA 3) (xK 3) 7 (fun i => nI ((updN (sc 3) a (ownT pg a)) i)), ia (xA 4) (xK 4) 7 (fun i => nI ((updN (sc 4) a (onoT pg a)) i)), ia (xA 5) (xK 5) 7 (fun i => nI ((sc 5) i)), ia (pA 4) (pK 4) 7 (fun i => nI ((pg 4) i)), ia (pA 5) (pK 5) 7 (fun i => nI ((pg 5) i)), ia (pA 9) (pK 9) 6 (fun i => nI ((pg 9) i)), ia (pA 10) (pK 10) 3 (fun i => nI ((pg 10) i)), oc pa 0 [.ref (pA 0), .ref (pA 1), .ref (pA 2), .ref (pA 3), .ref (pA 4), .ref (pA 5), .ref (pA 6), .ref (pA 7), .ref (pA 8), .ref (pA 9), .ref (pA 10), .int (nI T), .int (nI Ac)], ia (pA 2) (pK 2) 7 (fun i => nI ((pg 2) i)), ia (pA 8) (pK 8) 4 (fun i => nI ((pg 8) i))] H := hP
    refine lv_iload_n hx hb d_GraphSearch_tellOwn_68 rfl (lv_at hl 1 rfl) ?_
    refine lv_if_ne (tgt := 83) hx hb d_GraphSearch_tellOwn_69 (by decide) (fun c_18 => ?_) (fun c_18 => absurd c_18 (by decide))
    refine tp_pc (pc' := 83) (by rfl) ?_
    refine lv_aload_n hx hb d_GraphSearch_tellOwn_83 rfl (lv_at hl 2 rfl) ?_
    refine va_get (D := (dC, dI)) (ci := 6) (v := .int (nI md)) (C := R_GraphSearch) (T := F_GraphSearch) (N := 17) hx hb hw i_GraphSearch hown hK hP 0 rfl rfl 15 (by decide) (hw _ m_334) (fun _ h9 => h9) rfl d_GraphSearch_tellOwn_84 ?_
    refine lv_iconst (v := 2) hx hb d_GraphSearch_tellOwn_87 (by decide) ?_
    refine lv_icmp_ne (tgt := 129) hx hb d_GraphSearch_tellOwn_88 (by decide) (fun c1 => ?_) (fun c1 => ?_)
    · skip
      have hc1 : ¬ (md = 2) := fun q9 => c1 ((nI_eq (a := md) (b := 2) (by omega) (by omega)).mpr q9)
      refine tp_pc (pc' := 129) (by rfl) ?_
      refine lv_aload_n hx hb d_GraphSearch_tellOwn_129 rfl (lv_at hl 2 rfl) ?_
      refine va_get (D := (dC, dI)) (ci := 6) (v := .ref (xA 5)) (C := R_GraphSearch) (T := F_GraphSearch) (N := 17) hx hb hw i_GraphSearch hown hK hP 0 rfl rfl 7 (by decide) (hw _ m_326) (fun _ h9 => h9) rfl d_GraphSearch_tellOwn_130 ?_
      refine lv_iload_n hx hb d_GraphSearch_tellOwn_133 rfl (lv_at hl 3 rfl) ?_
      refine lv_aload_n hx hb d_GraphSearch_tellOwn_134 rfl (lv_at hl 2 rfl) ?_
      refine va_get (D := (dC, dI)) (ci := 6) (v := .ref (xA 3)) (C := R_GraphSearch) (T := F_GraphSearch) (N := 17) hx hb hw i_GraphSearch hown hK hP 0 rfl rfl 5 (by decide) (hw _ m_324) (fun _ h9 => h9) rfl d_GraphSearch_tellOwn_135 ?_
      refine lv_iload_n hx hb d_GraphSearch_tellOwn_138 rfl (lv_at hl 3 rfl) ?_
      refine va_iald (D := (dC, dI)) hx hb hK hP 1 0 rfl rfl (i := nI a) (pk_in a 7 (by omega)) d_GraphSearch_tellOwn_139 ?_
      refine tp_i (y := nI ((updN (sc 3) a (ownT pg a)) a)) (by rw [show (nI a : Int32).toNatClampNeg = a from pk_cl a]) ?_
      refine lv_iload_n hx hb d_GraphSearch_tellOwn_140 rfl (lv_at hl 0 rfl) ?_
      refine lv_iconst (v := (-1)) hx hb d_GraphSearch_tellOwn_141 (by decide) ?_
      refine lv_ixor hx hb d_GraphSearch_tellOwn_142 ?_
      refine tp_i (y := (-1)) (by first | rfl | decide) ?_
      refine lv_iand hx hb d_GraphSearch_tellOwn_143 ?_
      refine tp_i (y := (nI ((updN (sc 3) a (ownT pg a)) a)) &&& (-1)) rfl ?_
      refine tp_i (y := nI (okpT pg md a)) (by rw [updN_s, okpT, show lftT pg md a = 0 from by rw [lftT, if_neg (by omega), if_neg (fun q => hc1 q.1)]]; exact and_m1 _ ow8) ?_
      refine va_iast (D := (dC, dI)) hx hb hK hP (dd_D hD rfl) hS 3 2 rfl rfl (i := nI a) (x := nI (okpT pg md a)) (pk_in a 7 (by omega)) d_GraphSearch_tellOwn_144 ?_
      clear hP hS locs H
      intro H locs hP _ hS
      rw [show (nI a : Int32).toNatClampNeg = a from pk_cl a] at hP
      rw [show upd (fun i => nI ((sc 5) i)) a (nI (okpT pg md a)) = fun i => nI (updN (sc 5) a (okpT pg md a) i) from upd_nI] at hP
      replace hP : va_P (dC, dI) classes [oc xa 6 [.ref pa, .ref ga, .ref (xA 0), .ref (xA 1), .ref (xA 2), .ref (xA 3), .ref (xA 4), .ref (xA 5), .ref (xA 6), .ref (xA 7), .ref (xA 8), .ref (xA 9), .ref (xA 10), .ref (xA 11), .ref fa, .int (nI md), .int (nI mb)], ia (xA 3) (xK 3) 7 (fun i => nI ((updN (sc 3) a (ownT pg a)) i)), ia (xA 4) (xK 4) 7 (fun i => nI ((updN (sc 4) a (onoT pg a)) i)), ia (xA 5) (xK 5) 7 (fun i => nI ((updN (sc 5) a (okpT pg md a)) i)), ia (pA 4) (pK 4) 7 (fun i => nI ((pg 4) i)), ia (pA 5) (pK 5) 7 (fun i => nI ((pg 5) i)), ia (pA 9) (pK 9) 6 (fun i => nI ((pg 9) i)), ia (pA 10) (pK 10) 3 (fun i => nI ((pg 10) i)), oc pa 0 [.ref (pA 0), .ref (pA 1), .ref (pA 2), .ref (pA 3), .ref (pA 4), .ref (pA 5), .ref (pA 6), .ref (pA 7), .ref (pA 8), .ref (pA 9), .ref (pA 10), .int (nI T), .int (nI Ac)], ia (pA 2) (pK 2) 7 (fun i => nI ((pg 2) i)), ia (pA 8) (pK 8) 4 (fun i => nI ((pg 8) i))] H := hP
      refine tp_pc (pc' := 145) (by rfl) ?_
      obtain ⟨hP9, hD9, -⟩ := cut3 (wc := [oc xa 6 [.ref pa, .ref ga, .ref (xA 0), .ref (xA 1), .ref (xA 2), .ref (xA 3), .ref (xA 4), .ref (xA 5), .ref (xA 6), .ref (xA 7), .ref (xA 8), .ref (xA 9), .ref (xA 10), .ref (xA 11), .ref fa, .int (nI md), .int (nI mb)], ia (xA 3) (xK 3) 7 (fun i => nI ((updN (sc 3) a (ownT pg a)) i)), ia (xA 4) (xK 4) 7 (fun i => nI ((updN (sc 4) a (onoT pg a)) i)), ia (xA 5) (xK 5) 7 (fun i => nI ((updN (sc 5) a (okpT pg md a)) i)), oc pa 0 [.ref (pA 0), .ref (pA 1), .ref (pA 2), .ref (pA 3), .ref (pA 4), .ref (pA 5), .ref (pA 6), .ref (pA 7), .ref (pA 8), .ref (pA 9), .ref (pA 10), .int (nI T), .int (nI Ac)], ia (pA 2) (pK 2) 7 (fun i => nI ((pg 2) i)), ia (pA 4) (pK 4) 7 (fun i => nI ((pg 4) i)), ia (pA 5) (pK 5) 7 (fun i => nI ((pg 5) i)), ia (pA 8) (pK 8) 4 (fun i => nI ((pg 8) i)), ia (pA 9) (pK 9) 6 (fun i => nI ((pg 9) i)), ia (pA 10) (pK 10) 3 (fun i => nI ((pg 10) i))]) hP hD rfl hS hA [0, 1, 2, 3, 8, 9, 4, 5, 10, 6, 7] (by decide +kernel) rfl
      have hK9 := hK.sub (tys' := []) [] rfl
      refine W.widen (k := 0) (n := 0) (by exact Nat.le_of_ble_eq_true rfl) (by exact Nat.le_of_ble_eq_true rfl) ?_
      exact W.vret hx hb hr (fun t9 ht9 hW => ⟨⟨(), rfl, trivial, by rw [ht9]; exact hP9, va_K.moved hW.alike hK9, hD9⟩, hS.F ht9⟩) hS.2.2 d_GraphSearch_tellOwn_145
    · skip
      have hc1 : md = 2 := (nI_eq (a := md) (b := 2) (by omega) (by omega)).mp c1
      refine tp_pc (pc' := 91) (by rfl) ?_
      refine lv_iload_n hx hb d_GraphSearch_tellOwn_91 rfl (lv_at hl 1 rfl) ?_
      refine lv_iconst (v := 1) hx hb d_GraphSearch_tellOwn_92 (by decide) ?_
      refine lv_icmp_eq (tgt := 101) hx hb d_GraphSearch_tellOwn_93 (by decide) (fun c_19 => absurd c_19 (by decide)) (fun c_19 => ?_)
      refine tp_pc (pc' := 96) (by rfl) ?_
      refine lv_iload_n hx hb d_GraphSearch_tellOwn_96 rfl (lv_at hl 1 rfl) ?_
      refine lv_iconst (v := 2) hx hb d_GraphSearch_tellOwn_97 (by decide) ?_
      refine lv_icmp_ne (tgt := 129) hx hb d_GraphSearch_tellOwn_98 (by decide) (fun c_20 => ?_) (fun c_20 => absurd c_20 (by decide))
      refine tp_pc (pc' := 129) (by rfl) ?_
      refine lv_aload_n hx hb d_GraphSearch_tellOwn_129 rfl (lv_at hl 2 rfl) ?_
      refine va_get (D := (dC, dI)) (ci := 6) (v := .ref (xA 5)) (C := R_GraphSearch) (T := F_GraphSearch) (N := 17) hx hb hw i_GraphSearch hown hK hP 0 rfl rfl 7 (by decide) (hw _ m_326) (fun _ h9 => h9) rfl d_GraphSearch_tellOwn_130 ?_
      refine lv_iload_n hx hb d_GraphSearch_tellOwn_133 rfl (lv_at hl 3 rfl) ?_
      refine lv_aload_n hx hb d_GraphSearch_tellOwn_134 rfl (lv_at hl 2 rfl) ?_
      refine va_get (D := (dC, dI)) (ci := 6) (v := .ref (xA 3)) (C := R_GraphSearch) (T := F_GraphSearch) (N := 17) hx hb hw i_GraphSearch hown hK hP 0 rfl rfl 5 (by decide) (hw _ m_324) (fun _ h9 => h9) rfl d_GraphSearch_tellOwn_135 ?_
      refine lv_iload_n hx hb d_GraphSearch_tellOwn_138 rfl (lv_at hl 3 rfl) ?_
      refine va_iald (D := (dC, dI)) hx hb hK hP 1 0 rfl rfl (i := nI a) (pk_in a 7 (by omega)) d_GraphSearch_tellOwn_139 ?_
      refine tp_i (y := nI ((updN (sc 3) a (ownT pg a)) a)) (by rw [show (nI a : Int32).toNatClampNeg = a from pk_cl a]) ?_
      refine lv_iload_n hx hb d_GraphSearch_tellOwn_140 rfl (lv_at hl 0 rfl) ?_
      refine lv_iconst (v := (-1)) hx hb d_GraphSearch_tellOwn_141 (by decide) ?_
      refine lv_ixor hx hb d_GraphSearch_tellOwn_142 ?_
      refine tp_i (y := (-1)) (by first | rfl | decide) ?_
      refine lv_iand hx hb d_GraphSearch_tellOwn_143 ?_
      refine tp_i (y := (nI ((updN (sc 3) a (ownT pg a)) a)) &&& (-1)) rfl ?_
      refine tp_i (y := nI (okpT pg md a)) (by rw [updN_s, okpT, show lftT pg md a = 0 from by rw [lftT, if_neg (by omega), if_neg (fun q => by omega)]]; exact and_m1 _ ow8) ?_
      refine va_iast (D := (dC, dI)) hx hb hK hP (dd_D hD rfl) hS 3 2 rfl rfl (i := nI a) (x := nI (okpT pg md a)) (pk_in a 7 (by omega)) d_GraphSearch_tellOwn_144 ?_
      clear hP hS locs H
      intro H locs hP _ hS
      rw [show (nI a : Int32).toNatClampNeg = a from pk_cl a] at hP
      rw [show upd (fun i => nI ((sc 5) i)) a (nI (okpT pg md a)) = fun i => nI (updN (sc 5) a (okpT pg md a) i) from upd_nI] at hP
      replace hP : va_P (dC, dI) classes [oc xa 6 [.ref pa, .ref ga, .ref (xA 0), .ref (xA 1), .ref (xA 2), .ref (xA 3), .ref (xA 4), .ref (xA 5), .ref (xA 6), .ref (xA 7), .ref (xA 8), .ref (xA 9), .ref (xA 10), .ref (xA 11), .ref fa, .int (nI md), .int (nI mb)], ia (xA 3) (xK 3) 7 (fun i => nI ((updN (sc 3) a (ownT pg a)) i)), ia (xA 4) (xK 4) 7 (fun i => nI ((updN (sc 4) a (onoT pg a)) i)), ia (xA 5) (xK 5) 7 (fun i => nI ((updN (sc 5) a (okpT pg md a)) i)), ia (pA 4) (pK 4) 7 (fun i => nI ((pg 4) i)), ia (pA 5) (pK 5) 7 (fun i => nI ((pg 5) i)), ia (pA 9) (pK 9) 6 (fun i => nI ((pg 9) i)), ia (pA 10) (pK 10) 3 (fun i => nI ((pg 10) i)), oc pa 0 [.ref (pA 0), .ref (pA 1), .ref (pA 2), .ref (pA 3), .ref (pA 4), .ref (pA 5), .ref (pA 6), .ref (pA 7), .ref (pA 8), .ref (pA 9), .ref (pA 10), .int (nI T), .int (nI Ac)], ia (pA 2) (pK 2) 7 (fun i => nI ((pg 2) i)), ia (pA 8) (pK 8) 4 (fun i => nI ((pg 8) i))] H := hP
      refine tp_pc (pc' := 145) (by rfl) ?_
      obtain ⟨hP9, hD9, -⟩ := cut3 (wc := [oc xa 6 [.ref pa, .ref ga, .ref (xA 0), .ref (xA 1), .ref (xA 2), .ref (xA 3), .ref (xA 4), .ref (xA 5), .ref (xA 6), .ref (xA 7), .ref (xA 8), .ref (xA 9), .ref (xA 10), .ref (xA 11), .ref fa, .int (nI md), .int (nI mb)], ia (xA 3) (xK 3) 7 (fun i => nI ((updN (sc 3) a (ownT pg a)) i)), ia (xA 4) (xK 4) 7 (fun i => nI ((updN (sc 4) a (onoT pg a)) i)), ia (xA 5) (xK 5) 7 (fun i => nI ((updN (sc 5) a (okpT pg md a)) i)), oc pa 0 [.ref (pA 0), .ref (pA 1), .ref (pA 2), .ref (pA 3), .ref (pA 4), .ref (pA 5), .ref (pA 6), .ref (pA 7), .ref (pA 8), .ref (pA 9), .ref (pA 10), .int (nI T), .int (nI Ac)], ia (pA 2) (pK 2) 7 (fun i => nI ((pg 2) i)), ia (pA 4) (pK 4) 7 (fun i => nI ((pg 4) i)), ia (pA 5) (pK 5) 7 (fun i => nI ((pg 5) i)), ia (pA 8) (pK 8) 4 (fun i => nI ((pg 8) i)), ia (pA 9) (pK 9) 6 (fun i => nI ((pg 9) i)), ia (pA 10) (pK 10) 3 (fun i => nI ((pg 10) i))]) hP hD rfl hS hA [0, 1, 2, 3, 8, 9, 4, 5, 10, 6, 7] (by decide +kernel) rfl
      have hK9 := hK.sub (tys' := []) [] rfl
      refine W.widen (k := 0) (n := 0) (by exact Nat.le_of_ble_eq_true rfl) (by exact Nat.le_of_ble_eq_true rfl) ?_
      exact W.vret hx hb hr (fun t9 ht9 hW => ⟨⟨(), rfl, trivial, by rw [ht9]; exact hP9, va_K.moved hW.alike hK9, hD9⟩, hS.F ht9⟩) hS.2.2 d_GraphSearch_tellOwn_145
  · skip
    refine tp_i (y := 4) (by rw [hk]; rfl) ?_
    refine lv_istore_n (lv' := [(2, .int 4), (0, .ref xa), (1, .int (nI a))]) hx hb d_GraphSearch_tellOwn_9 rfl hl (by decide) rfl ?_
    clear hl ls
    intro ls hl
    refine lv_iconst (v := 0) hx hb d_GraphSearch_tellOwn_10 (by decide) ?_
    refine lv_istore_n (lv' := [(3, .int 0), (2, .int 4), (0, .ref xa), (1, .int (nI a))]) hx hb d_GraphSearch_tellOwn_11 rfl hl (by decide) rfl ?_
    clear hl ls
    intro ls hl
    refine lv_aload_n hx hb d_GraphSearch_tellOwn_12 rfl (lv_at hl 2 rfl) ?_
    refine va_get (D := (dC, dI)) (ci := 6) (v := .ref (xA 3)) (C := R_GraphSearch) (T := F_GraphSearch) (N := 17) hx hb hw i_GraphSearch hown hK hP 0 rfl rfl 5 (by decide) (hw _ m_324) (fun _ h9 => h9) rfl d_GraphSearch_tellOwn_13 ?_
    refine lv_iload_n hx hb d_GraphSearch_tellOwn_16 rfl (lv_at hl 3 rfl) ?_
    refine lv_aload_n hx hb d_GraphSearch_tellOwn_17 rfl (lv_at hl 2 rfl) ?_
    refine va_get (D := (dC, dI)) (ci := 6) (v := .ref pa) (C := R_GraphSearch) (T := F_GraphSearch) (N := 17) hx hb hw i_GraphSearch hown hK hP 0 rfl rfl 0 (by decide) (hw _ m_319) (fun _ h9 => h9) rfl d_GraphSearch_tellOwn_18 ?_
    refine lv_iload_n hx hb d_GraphSearch_tellOwn_21 rfl (lv_at hl 3 rfl) ?_
    obtain ⟨hPc, hDc, hFc⟩ := cut3 (wc := [oc pa 0 [.ref (pA 0), .ref (pA 1), .ref (pA 2), .ref (pA 3), .ref (pA 4), .ref (pA 5), .ref (pA 6), .ref (pA 7), .ref (pA 8), .ref (pA 9), .ref (pA 10), .int (nI T), .int (nI Ac)], ia (pA 2) (pK 2) 7 (fun i => nI ((pg 2) i)), ia (pA 8) (pK 8) 4 (fun i => nI ((pg 8) i))]) hP hD rfl hS hA [4, 5, 8] (by decide +kernel) rfl
    have hKc := hK.sub (tys' := [((pK 2), .int), ((pK 8), .int)]) [3, 6] rfl
    refine va_calli (va_runV (As := [.int (nI a)]) (rest := [.int (nI a), .ref (xA 3)]) ⟨hx, hb, hml, hown, hw⟩ (gen_Program_ownBefore l dC dI pa pA pK T Ac pg nm a (by omega) (by omega) (p6 _) s.heap.size) (cw_V 1 hw g_Program_ownBefore rfl rfl rfl (hw _ m_102) (hw _ m_752) (hw _ m_753) (hw _ m_754) (by decide +kernel) ⟨Nat.le_of_ble_eq_true rfl, Nat.le_of_ble_eq_true rfl⟩) ⟨fun a U g mk q => by obtain ⟨q0, q1, qP, qK, qD, qN⟩ := q; exact ⟨q0, q1, qP, va_K.moved (u := U) (U := U.calling g mk a) (Vm.Alike.refl U.vm) qK, qD, nw_call qN⟩, va_recv hKc hPc (ci := 0) (q0 := 0) rfl rfl, fun U hU hW => ⟨rfl, by rw [hU], by rw [hU]; exact hPc, va_K.moved hW.alike hKc, hDc.weaken (fun _ _ _ _ => trivial), nw_warm hW hn⟩⟩ rfl rfl hl.1 rfl (lv_room (Nat.le_of_ble_eq_true rfl)) d_GraphSearch_tellOwn_22 ⟨Nat.le_of_ble_eq_true rfl, Nat.le_of_ble_eq_true rfl⟩) hS (fun q _ h => hFc q h) hFc ?_
    intro r_21 u t9 H1 locs1 ht9 hvm hw1 hB hz1 hk1 hS1
    obtain ⟨hP1, hK1, hD1⟩ := hB
    rw [ht9] at hP1
    replace hK1 := va_K.moved hvm.symm hK1
    have hPD := join3 hP hD rfl [4, 5, 8] [0, 1, 2, 3, 6, 7, 9, 10] rfl (by rfl) (by decide +kernel) (by decide +kernel) hk1 hFc hP1 hD1
    replace hK : va_K (dC, dI) classes [((xK 3), .int), ((xK 4), .int), ((xK 5), .int), ((pK 2), .int), ((pK 4), .int), ((pK 5), .int), ((pK 8), .int), ((pK 9), .int), ((pK 10), .int)] s := hK.app hK1
    clear hP1 hK1 hD1 hk1 hz1 hFc hKc hDc hPc hvm ht9 hP hS t9
    have hP : va_P (dC, dI) classes [oc xa 6 [.ref pa, .ref ga, .ref (xA 0), .ref (xA 1), .ref (xA 2), .ref (xA 3), .ref (xA 4), .ref (xA 5), .ref (xA 6), .ref (xA 7), .ref (xA 8), .ref (xA 9), .ref (xA 10), .ref (xA 11), .ref fa, .int (nI md), .int (nI mb)], ia (xA 3) (xK 3) 7 (fun i => nI ((sc 3) i)), ia (xA 4) (xK 4) 7 (fun i => nI ((sc 4) i)), ia (xA 5) (xK 5) 7 (fun i => nI ((sc 5) i)), ia (pA 4) (pK 4) 7 (fun i => nI ((pg 4) i)), ia (pA 5) (pK 5) 7 (fun i => nI ((pg 5) i)), ia (pA 9) (pK 9) 6 (fun i => nI ((pg 9) i)), ia (pA 10) (pK 10) 3 (fun i => nI ((pg 10) i)), oc pa 0 [.ref (pA 0), .ref (pA 1), .ref (pA 2), .ref (pA 3), .ref (pA 4), .ref (pA 5), .ref (pA 6), .ref (pA 7), .ref (pA 8), .ref (pA 9), .ref (pA 10), .int (nI T), .int (nI Ac)], ia (pA 2) (pK 2) 7 (fun i => nI ((pg 2) i)), ia (pA 8) (pK 8) 4 (fun i => nI ((pg 8) i))] H1 := hPD.1
    replace hD : dd A [xa, (xA 3), (xA 4), (xA 5), (pA 4), (pA 5), (pA 9), (pA 10), pa, (pA 2), (pA 8)] := dd_of hPD.2 rfl
    clear hPD
    revert H1 locs1
    intro H locs hS hP
    refine tp_i (y := nI (ownT pg a)) (hw1) ?_
    clear hw1 r_21 u
    refine tp_pc (pc' := 25) (by rfl) ?_
    refine va_iast (D := (dC, dI)) hx hb hK hP (dd_D hD rfl) hS 1 0 rfl rfl (i := nI a) (x := nI (ownT pg a)) (pk_in a 7 (by omega)) d_GraphSearch_tellOwn_25 ?_
    clear hP hS locs H
    intro H locs hP _ hS
    rw [show (nI a : Int32).toNatClampNeg = a from pk_cl a] at hP
    rw [show upd (fun i => nI ((sc 3) i)) a (nI (ownT pg a)) = fun i => nI (updN (sc 3) a (ownT pg a) i) from upd_nI] at hP
    replace hP : va_P (dC, dI) classes [oc xa 6 [.ref pa, .ref ga, .ref (xA 0), .ref (xA 1), .ref (xA 2), .ref (xA 3), .ref (xA 4), .ref (xA 5), .ref (xA 6), .ref (xA 7), .ref (xA 8), .ref (xA 9), .ref (xA 10), .ref (xA 11), .ref fa, .int (nI md), .int (nI mb)], ia (xA 3) (xK 3) 7 (fun i => nI ((updN (sc 3) a (ownT pg a)) i)), ia (xA 4) (xK 4) 7 (fun i => nI ((sc 4) i)), ia (xA 5) (xK 5) 7 (fun i => nI ((sc 5) i)), ia (pA 4) (pK 4) 7 (fun i => nI ((pg 4) i)), ia (pA 5) (pK 5) 7 (fun i => nI ((pg 5) i)), ia (pA 9) (pK 9) 6 (fun i => nI ((pg 9) i)), ia (pA 10) (pK 10) 3 (fun i => nI ((pg 10) i)), oc pa 0 [.ref (pA 0), .ref (pA 1), .ref (pA 2), .ref (pA 3), .ref (pA 4), .ref (pA 5), .ref (pA 6), .ref (pA 7), .ref (pA 8), .ref (pA 9), .ref (pA 10), .int (nI T), .int (nI Ac)], ia (pA 2) (pK 2) 7 (fun i => nI ((pg 2) i)), ia (pA 8) (pK 8) 4 (fun i => nI ((pg 8) i))] H := hP
    refine tp_pc (pc' := 26) (by rfl) ?_
    refine lv_aload_n hx hb d_GraphSearch_tellOwn_26 rfl (lv_at hl 2 rfl) ?_
    refine va_get (D := (dC, dI)) (ci := 6) (v := .ref (xA 4)) (C := R_GraphSearch) (T := F_GraphSearch) (N := 17) hx hb hw i_GraphSearch hown hK hP 0 rfl rfl 6 (by decide) (hw _ m_325) (fun _ h9 => h9) rfl d_GraphSearch_tellOwn_27 ?_
    refine lv_iload_n hx hb d_GraphSearch_tellOwn_30 rfl (lv_at hl 3 rfl) ?_
    refine lv_iconst (v := 0) hx hb d_GraphSearch_tellOwn_31 (by decide) ?_
    refine va_iast (D := (dC, dI)) hx hb hK hP (dd_D hD rfl) hS 2 1 rfl rfl (i := nI a) (x := 0) (pk_in a 7 (by omega)) d_GraphSearch_tellOwn_32 ?_
    clear hP hS locs H
    intro H locs hP _ hS
    rw [show (nI a : Int32).toNatClampNeg = a from pk_cl a] at hP
    rw [show upd (fun i => nI ((sc 4) i)) a 0 = fun i => nI (updN (sc 4) a 0 i) from upd_nI] at hP
    replace hP : va_P (dC, dI) classes [oc xa 6 [.ref pa, .ref ga, .ref (xA 0), .ref (xA 1), .ref (xA 2), .ref (xA 3), .ref (xA 4), .ref (xA 5), .ref (xA 6), .ref (xA 7), .ref (xA 8), .ref (xA 9), .ref (xA 10), .ref (xA 11), .ref fa, .int (nI md), .int (nI mb)], ia (xA 3) (xK 3) 7 (fun i => nI ((updN (sc 3) a (ownT pg a)) i)), ia (xA 4) (xK 4) 7 (fun i => nI ((updN (sc 4) a 0) i)), ia (xA 5) (xK 5) 7 (fun i => nI ((sc 5) i)), ia (pA 4) (pK 4) 7 (fun i => nI ((pg 4) i)), ia (pA 5) (pK 5) 7 (fun i => nI ((pg 5) i)), ia (pA 9) (pK 9) 6 (fun i => nI ((pg 9) i)), ia (pA 10) (pK 10) 3 (fun i => nI ((pg 10) i)), oc pa 0 [.ref (pA 0), .ref (pA 1), .ref (pA 2), .ref (pA 3), .ref (pA 4), .ref (pA 5), .ref (pA 6), .ref (pA 7), .ref (pA 8), .ref (pA 9), .ref (pA 10), .int (nI T), .int (nI Ac)], ia (pA 2) (pK 2) 7 (fun i => nI ((pg 2) i)), ia (pA 8) (pK 8) 4 (fun i => nI ((pg 8) i))] H := hP
    refine tp_pc (pc' := 33) (by rfl) ?_
    refine lv_iload_n hx hb d_GraphSearch_tellOwn_33 rfl (lv_at hl 1 rfl) ?_
    refine lv_iconst (v := 4) hx hb d_GraphSearch_tellOwn_34 (by decide) ?_
    refine lv_icmp_ge (tgt := 68) hx hb d_GraphSearch_tellOwn_35 (by decide) (fun c_22 => ?_) (fun c_22 => absurd c_22 (by decide))
    refine tp_pc (pc' := 68) (by rfl) ?_
    rw [show updN (sc 4) a 0 = updN (sc 4) a (onoT pg a) from by rw [onoT, if_neg (by omega)]] at hP
    replace hP : va_P (dC, dI) classes [oc xa 6 [.ref pa, .ref ga, .ref (xA 0), .ref (xA 1), .ref (xA 2), .ref (xA 3), .ref (xA 4), .ref (xA 5), .ref (xA 6), .ref (xA 7), .ref (xA 8), .ref (xA 9), .ref (xA 10), .ref (xA 11), .ref fa, .int (nI md), .int (nI mb)], ia (xA 3) (xK 3) 7 (fun i => nI ((updN (sc 3) a (ownT pg a)) i)), ia (xA 4) (xK 4) 7 (fun i => nI ((updN (sc 4) a (onoT pg a)) i)), ia (xA 5) (xK 5) 7 (fun i => nI ((sc 5) i)), ia (pA 4) (pK 4) 7 (fun i => nI ((pg 4) i)), ia (pA 5) (pK 5) 7 (fun i => nI ((pg 5) i)), ia (pA 9) (pK 9) 6 (fun i => nI ((pg 9) i)), ia (pA 10) (pK 10) 3 (fun i => nI ((pg 10) i)), oc pa 0 [.ref (pA 0), .ref (pA 1), .ref (pA 2), .ref (pA 3), .ref (pA 4), .ref (pA 5), .ref (pA 6), .ref (pA 7), .ref (pA 8), .ref (pA 9), .ref (pA 10), .int (nI T), .int (nI Ac)], ia (pA 2) (pK 2) 7 (fun i => nI ((pg 2) i)), ia (pA 8) (pK 8) 4 (fun i => nI ((pg 8) i))] H := hP
    refine lv_iload_n hx hb d_GraphSearch_tellOwn_68 rfl (lv_at hl 1 rfl) ?_
    refine lv_if_ne (tgt := 83) hx hb d_GraphSearch_tellOwn_69 (by decide) (fun c_23 => ?_) (fun c_23 => absurd c_23 (by decide))
    refine tp_pc (pc' := 83) (by rfl) ?_
    refine lv_aload_n hx hb d_GraphSearch_tellOwn_83 rfl (lv_at hl 2 rfl) ?_
    refine va_get (D := (dC, dI)) (ci := 6) (v := .int (nI md)) (C := R_GraphSearch) (T := F_GraphSearch) (N := 17) hx hb hw i_GraphSearch hown hK hP 0 rfl rfl 15 (by decide) (hw _ m_334) (fun _ h9 => h9) rfl d_GraphSearch_tellOwn_84 ?_
    refine lv_iconst (v := 2) hx hb d_GraphSearch_tellOwn_87 (by decide) ?_
    refine lv_icmp_ne (tgt := 129) hx hb d_GraphSearch_tellOwn_88 (by decide) (fun c1 => ?_) (fun c1 => ?_)
    · skip
      have hc1 : ¬ (md = 2) := fun q9 => c1 ((nI_eq (a := md) (b := 2) (by omega) (by omega)).mpr q9)
      refine tp_pc (pc' := 129) (by rfl) ?_
      refine lv_aload_n hx hb d_GraphSearch_tellOwn_129 rfl (lv_at hl 2 rfl) ?_
      refine va_get (D := (dC, dI)) (ci := 6) (v := .ref (xA 5)) (C := R_GraphSearch) (T := F_GraphSearch) (N := 17) hx hb hw i_GraphSearch hown hK hP 0 rfl rfl 7 (by decide) (hw _ m_326) (fun _ h9 => h9) rfl d_GraphSearch_tellOwn_130 ?_
      refine lv_iload_n hx hb d_GraphSearch_tellOwn_133 rfl (lv_at hl 3 rfl) ?_
      refine lv_aload_n hx hb d_GraphSearch_tellOwn_134 rfl (lv_at hl 2 rfl) ?_
      refine va_get (D := (dC, dI)) (ci := 6) (v := .ref (xA 3)) (C := R_GraphSearch) (T := F_GraphSearch) (N := 17) hx hb hw i_GraphSearch hown hK hP 0 rfl rfl 5 (by decide) (hw _ m_324) (fun _ h9 => h9) rfl d_GraphSearch_tellOwn_135 ?_
      refine lv_iload_n hx hb d_GraphSearch_tellOwn_138 rfl (lv_at hl 3 rfl) ?_
      refine va_iald (D := (dC, dI)) hx hb hK hP 1 0 rfl rfl (i := nI a) (pk_in a 7 (by omega)) d_GraphSearch_tellOwn_139 ?_
      refine tp_i (y := nI ((updN (sc 3) a (ownT pg a)) a)) (by rw [show (nI a : Int32).toNatClampNeg = a from pk_cl a]) ?_
      refine lv_iload_n hx hb d_GraphSearch_tellOwn_140 rfl (lv_at hl 0 rfl) ?_
      refine lv_iconst (v := (-1)) hx hb d_GraphSearch_tellOwn_141 (by decide) ?_
      refine lv_ixor hx hb d_GraphSearch_tellOwn_142 ?_
      refine tp_i (y := (-1)) (by first | rfl | decide) ?_
      refine lv_iand hx hb d_GraphSearch_tellOwn_143 ?_
      refine tp_i (y := (nI ((updN (sc 3) a (ownT pg a)) a)) &&& (-1)) rfl ?_
      refine tp_i (y := nI (okpT pg md a)) (by rw [updN_s, okpT, show lftT pg md a = 0 from by rw [lftT, if_neg (by omega), if_neg (fun q => hc1 q.1)]]; exact and_m1 _ ow8) ?_
      refine va_iast (D := (dC, dI)) hx hb hK hP (dd_D hD rfl) hS 3 2 rfl rfl (i := nI a) (x := nI (okpT pg md a)) (pk_in a 7 (by omega)) d_GraphSearch_tellOwn_144 ?_
      clear hP hS locs H
      intro H locs hP _ hS
      rw [show (nI a : Int32).toNatClampNeg = a from pk_cl a] at hP
      rw [show upd (fun i => nI ((sc 5) i)) a (nI (okpT pg md a)) = fun i => nI (updN (sc 5) a (okpT pg md a) i) from upd_nI] at hP
      replace hP : va_P (dC, dI) classes [oc xa 6 [.ref pa, .ref ga, .ref (xA 0), .ref (xA 1), .ref (xA 2), .ref (xA 3), .ref (xA 4), .ref (xA 5), .ref (xA 6), .ref (xA 7), .ref (xA 8), .ref (xA 9), .ref (xA 10), .ref (xA 11), .ref fa, .int (nI md), .int (nI mb)], ia (xA 3) (xK 3) 7 (fun i => nI ((updN (sc 3) a (ownT pg a)) i)), ia (xA 4) (xK 4) 7 (fun i => nI ((updN (sc 4) a (onoT pg a)) i)), ia (xA 5) (xK 5) 7 (fun i => nI ((updN (sc 5) a (okpT pg md a)) i)), ia (pA 4) (pK 4) 7 (fun i => nI ((pg 4) i)), ia (pA 5) (pK 5) 7 (fun i => nI ((pg 5) i)), ia (pA 9) (pK 9) 6 (fun i => nI ((pg 9) i)), ia (pA 10) (pK 10) 3 (fun i => nI ((pg 10) i)), oc pa 0 [.ref (pA 0), .ref (pA 1), .ref (pA 2), .ref (pA 3), .ref (pA 4), .ref (pA 5), .ref (pA 6), .ref (pA 7), .ref (pA 8), .ref (pA 9), .ref (pA 10), .int (nI T), .int (nI Ac)], ia (pA 2) (pK 2) 7 (fun i => nI ((pg 2) i)), ia (pA 8) (pK 8) 4 (fun i => nI ((pg 8) i))] H := hP
      refine tp_pc (pc' := 145) (by rfl) ?_
      obtain ⟨hP9, hD9, -⟩ := cut3 (wc := [oc xa 6 [.ref pa, .ref ga, .ref (xA 0), .ref (xA 1), .ref (xA 2), .ref (xA 3), .ref (xA 4), .ref (xA 5), .ref (xA 6), .ref (xA 7), .ref (xA 8), .ref (xA 9), .ref (xA 10), .ref (xA 11), .ref fa, .int (nI md), .int (nI mb)], ia (xA 3) (xK 3) 7 (fun i => nI ((updN (sc 3) a (ownT pg a)) i)), ia (xA 4) (xK 4) 7 (fun i => nI ((updN (sc 4) a (onoT pg a)) i)), ia (xA 5) (xK 5) 7 (fun i => nI ((updN (sc 5) a (okpT pg md a)) i)), oc pa 0 [.ref (pA 0), .ref (pA 1), .ref (pA 2), .ref (pA 3), .ref (pA 4), .ref (pA 5), .ref (pA 6), .ref (pA 7), .ref (pA 8), .ref (pA 9), .ref (pA 10), .int (nI T), .int (nI Ac)], ia (pA 2) (pK 2) 7 (fun i => nI ((pg 2) i)), ia (pA 4) (pK 4) 7 (fun i => nI ((pg 4) i)), ia (pA 5) (pK 5) 7 (fun i => nI ((pg 5) i)), ia (pA 8) (pK 8) 4 (fun i => nI ((pg 8) i)), ia (pA 9) (pK 9) 6 (fun i => nI ((pg 9) i)), ia (pA 10) (pK 10) 3 (fun i => nI ((pg 10) i))]) hP hD rfl hS hA [0, 1, 2, 3, 8, 9, 4, 5, 10, 6, 7] (by decide +kernel) rfl
      have hK9 := hK.sub (tys' := []) [] rfl
      refine W.widen (k := 0) (n := 0) (by exact Nat.le_of_ble_eq_true rfl) (by exact Nat.le_of_ble_eq_true rfl) ?_
      exact W.vret hx hb hr (fun t9 ht9 hW => ⟨⟨(), rfl, trivial, by rw [ht9]; exact hP9, va_K.moved hW.alike hK9, hD9⟩, hS.F ht9⟩) hS.2.2 d_GraphSearch_tellOwn_145
    · skip
      have hc1 : md = 2 := (nI_eq (a := md) (b := 2) (by omega) (by omega)).mp c1
      refine tp_pc (pc' := 91) (by rfl) ?_
      refine lv_iload_n hx hb d_GraphSearch_tellOwn_91 rfl (lv_at hl 1 rfl) ?_
      refine lv_iconst (v := 1) hx hb d_GraphSearch_tellOwn_92 (by decide) ?_
      refine lv_icmp_eq (tgt := 101) hx hb d_GraphSearch_tellOwn_93 (by decide) (fun c_24 => absurd c_24 (by decide)) (fun c_24 => ?_)
      refine tp_pc (pc' := 96) (by rfl) ?_
      refine lv_iload_n hx hb d_GraphSearch_tellOwn_96 rfl (lv_at hl 1 rfl) ?_
      refine lv_iconst (v := 2) hx hb d_GraphSearch_tellOwn_97 (by decide) ?_
      refine lv_icmp_ne (tgt := 129) hx hb d_GraphSearch_tellOwn_98 (by decide) (fun c_25 => ?_) (fun c_25 => absurd c_25 (by decide))
      refine tp_pc (pc' := 129) (by rfl) ?_
      refine lv_aload_n hx hb d_GraphSearch_tellOwn_129 rfl (lv_at hl 2 rfl) ?_
      refine va_get (D := (dC, dI)) (ci := 6) (v := .ref (xA 5)) (C := R_GraphSearch) (T := F_GraphSearch) (N := 17) hx hb hw i_GraphSearch hown hK hP 0 rfl rfl 7 (by decide) (hw _ m_326) (fun _ h9 => h9) rfl d_GraphSearch_tellOwn_130 ?_
      refine lv_iload_n hx hb d_GraphSearch_tellOwn_133 rfl (lv_at hl 3 rfl) ?_
      refine lv_aload_n hx hb d_GraphSearch_tellOwn_134 rfl (lv_at hl 2 rfl) ?_
      refine va_get (D := (dC, dI)) (ci := 6) (v := .ref (xA 3)) (C := R_GraphSearch) (T := F_GraphSearch) (N := 17) hx hb hw i_GraphSearch hown hK hP 0 rfl rfl 5 (by decide) (hw _ m_324) (fun _ h9 => h9) rfl d_GraphSearch_tellOwn_135 ?_
      refine lv_iload_n hx hb d_GraphSearch_tellOwn_138 rfl (lv_at hl 3 rfl) ?_
      refine va_iald (D := (dC, dI)) hx hb hK hP 1 0 rfl rfl (i := nI a) (pk_in a 7 (by omega)) d_GraphSearch_tellOwn_139 ?_
      refine tp_i (y := nI ((updN (sc 3) a (ownT pg a)) a)) (by rw [show (nI a : Int32).toNatClampNeg = a from pk_cl a]) ?_
      refine lv_iload_n hx hb d_GraphSearch_tellOwn_140 rfl (lv_at hl 0 rfl) ?_
      refine lv_iconst (v := (-1)) hx hb d_GraphSearch_tellOwn_141 (by decide) ?_
      refine lv_ixor hx hb d_GraphSearch_tellOwn_142 ?_
      refine tp_i (y := (-1)) (by first | rfl | decide) ?_
      refine lv_iand hx hb d_GraphSearch_tellOwn_143 ?_
      refine tp_i (y := (nI ((updN (sc 3) a (ownT pg a)) a)) &&& (-1)) rfl ?_
      refine tp_i (y := nI (okpT pg md a)) (by rw [updN_s, okpT, show lftT pg md a = 0 from by rw [lftT, if_neg (by omega), if_neg (fun q => by omega)]]; exact and_m1 _ ow8) ?_
      refine va_iast (D := (dC, dI)) hx hb hK hP (dd_D hD rfl) hS 3 2 rfl rfl (i := nI a) (x := nI (okpT pg md a)) (pk_in a 7 (by omega)) d_GraphSearch_tellOwn_144 ?_
      clear hP hS locs H
      intro H locs hP _ hS
      rw [show (nI a : Int32).toNatClampNeg = a from pk_cl a] at hP
      rw [show upd (fun i => nI ((sc 5) i)) a (nI (okpT pg md a)) = fun i => nI (updN (sc 5) a (okpT pg md a) i) from upd_nI] at hP
      replace hP : va_P (dC, dI) classes [oc xa 6 [.ref pa, .ref ga, .ref (xA 0), .ref (xA 1), .ref (xA 2), .ref (xA 3), .ref (xA 4), .ref (xA 5), .ref (xA 6), .ref (xA 7), .ref (xA 8), .ref (xA 9), .ref (xA 10), .ref (xA 11), .ref fa, .int (nI md), .int (nI mb)], ia (xA 3) (xK 3) 7 (fun i => nI ((updN (sc 3) a (ownT pg a)) i)), ia (xA 4) (xK 4) 7 (fun i => nI ((updN (sc 4) a (onoT pg a)) i)), ia (xA 5) (xK 5) 7 (fun i => nI ((updN (sc 5) a (okpT pg md a)) i)), ia (pA 4) (pK 4) 7 (fun i => nI ((pg 4) i)), ia (pA 5) (pK 5) 7 (fun i => nI ((pg 5) i)), ia (pA 9) (pK 9) 6 (fun i => nI ((pg 9) i)), ia (pA 10) (pK 10) 3 (fun i => nI ((pg 10) i)), oc pa 0 [.ref (pA 0), .ref (pA 1), .ref (pA 2), .ref (pA 3), .ref (pA 4), .ref (pA 5), .ref (pA 6), .ref (pA 7), .ref (pA 8), .ref (pA 9), .ref (pA 10), .int (nI T), .int (nI Ac)], ia (pA 2) (pK 2) 7 (fun i => nI ((pg 2) i)), ia (pA 8) (pK 8) 4 (fun i => nI ((pg 8) i))] H := hP
      refine tp_pc (pc' := 145) (by rfl) ?_
      obtain ⟨hP9, hD9, -⟩ := cut3 (wc := [oc xa 6 [.ref pa, .ref ga, .ref (xA 0), .ref (xA 1), .ref (xA 2), .ref (xA 3), .ref (xA 4), .ref (xA 5), .ref (xA 6), .ref (xA 7), .ref (xA 8), .ref (xA 9), .ref (xA 10), .ref (xA 11), .ref fa, .int (nI md), .int (nI mb)], ia (xA 3) (xK 3) 7 (fun i => nI ((updN (sc 3) a (ownT pg a)) i)), ia (xA 4) (xK 4) 7 (fun i => nI ((updN (sc 4) a (onoT pg a)) i)), ia (xA 5) (xK 5) 7 (fun i => nI ((updN (sc 5) a (okpT pg md a)) i)), oc pa 0 [.ref (pA 0), .ref (pA 1), .ref (pA 2), .ref (pA 3), .ref (pA 4), .ref (pA 5), .ref (pA 6), .ref (pA 7), .ref (pA 8), .ref (pA 9), .ref (pA 10), .int (nI T), .int (nI Ac)], ia (pA 2) (pK 2) 7 (fun i => nI ((pg 2) i)), ia (pA 4) (pK 4) 7 (fun i => nI ((pg 4) i)), ia (pA 5) (pK 5) 7 (fun i => nI ((pg 5) i)), ia (pA 8) (pK 8) 4 (fun i => nI ((pg 8) i)), ia (pA 9) (pK 9) 6 (fun i => nI ((pg 9) i)), ia (pA 10) (pK 10) 3 (fun i => nI ((pg 10) i))]) hP hD rfl hS hA [0, 1, 2, 3, 8, 9, 4, 5, 10, 6, 7] (by decide +kernel) rfl
      have hK9 := hK.sub (tys' := []) [] rfl
      refine W.widen (k := 0) (n := 0) (by exact Nat.le_of_ble_eq_true rfl) (by exact Nat.le_of_ble_eq_true rfl) ?_
      exact W.vret hx hb hr (fun t9 ht9 hW => ⟨⟨(), rfl, trivial, by rw [ht9]; exact hP9, va_K.moved hW.alike hK9, hD9⟩, hS.F ht9⟩) hS.2.2 d_GraphSearch_tellOwn_145
  · skip
    refine tp_i (y := 5) (by rw [hk]; rfl) ?_
    refine lv_istore_n (lv' := [(2, .int 5), (0, .ref xa), (1, .int (nI a))]) hx hb d_GraphSearch_tellOwn_9 rfl hl (by decide) rfl ?_
    clear hl ls
    intro ls hl
    refine lv_iconst (v := 0) hx hb d_GraphSearch_tellOwn_10 (by decide) ?_
    refine lv_istore_n (lv' := [(3, .int 0), (2, .int 5), (0, .ref xa), (1, .int (nI a))]) hx hb d_GraphSearch_tellOwn_11 rfl hl (by decide) rfl ?_
    clear hl ls
    intro ls hl
    refine lv_aload_n hx hb d_GraphSearch_tellOwn_12 rfl (lv_at hl 2 rfl) ?_
    refine va_get (D := (dC, dI)) (ci := 6) (v := .ref (xA 3)) (C := R_GraphSearch) (T := F_GraphSearch) (N := 17) hx hb hw i_GraphSearch hown hK hP 0 rfl rfl 5 (by decide) (hw _ m_324) (fun _ h9 => h9) rfl d_GraphSearch_tellOwn_13 ?_
    refine lv_iload_n hx hb d_GraphSearch_tellOwn_16 rfl (lv_at hl 3 rfl) ?_
    refine lv_aload_n hx hb d_GraphSearch_tellOwn_17 rfl (lv_at hl 2 rfl) ?_
    refine va_get (D := (dC, dI)) (ci := 6) (v := .ref pa) (C := R_GraphSearch) (T := F_GraphSearch) (N := 17) hx hb hw i_GraphSearch hown hK hP 0 rfl rfl 0 (by decide) (hw _ m_319) (fun _ h9 => h9) rfl d_GraphSearch_tellOwn_18 ?_
    refine lv_iload_n hx hb d_GraphSearch_tellOwn_21 rfl (lv_at hl 3 rfl) ?_
    obtain ⟨hPc, hDc, hFc⟩ := cut3 (wc := [oc pa 0 [.ref (pA 0), .ref (pA 1), .ref (pA 2), .ref (pA 3), .ref (pA 4), .ref (pA 5), .ref (pA 6), .ref (pA 7), .ref (pA 8), .ref (pA 9), .ref (pA 10), .int (nI T), .int (nI Ac)], ia (pA 2) (pK 2) 7 (fun i => nI ((pg 2) i)), ia (pA 8) (pK 8) 4 (fun i => nI ((pg 8) i))]) hP hD rfl hS hA [4, 5, 8] (by decide +kernel) rfl
    have hKc := hK.sub (tys' := [((pK 2), .int), ((pK 8), .int)]) [3, 6] rfl
    refine va_calli (va_runV (As := [.int (nI a)]) (rest := [.int (nI a), .ref (xA 3)]) ⟨hx, hb, hml, hown, hw⟩ (gen_Program_ownBefore l dC dI pa pA pK T Ac pg nm a (by omega) (by omega) (p6 _) s.heap.size) (cw_V 1 hw g_Program_ownBefore rfl rfl rfl (hw _ m_102) (hw _ m_752) (hw _ m_753) (hw _ m_754) (by decide +kernel) ⟨Nat.le_of_ble_eq_true rfl, Nat.le_of_ble_eq_true rfl⟩) ⟨fun a U g mk q => by obtain ⟨q0, q1, qP, qK, qD, qN⟩ := q; exact ⟨q0, q1, qP, va_K.moved (u := U) (U := U.calling g mk a) (Vm.Alike.refl U.vm) qK, qD, nw_call qN⟩, va_recv hKc hPc (ci := 0) (q0 := 0) rfl rfl, fun U hU hW => ⟨rfl, by rw [hU], by rw [hU]; exact hPc, va_K.moved hW.alike hKc, hDc.weaken (fun _ _ _ _ => trivial), nw_warm hW hn⟩⟩ rfl rfl hl.1 rfl (lv_room (Nat.le_of_ble_eq_true rfl)) d_GraphSearch_tellOwn_22 ⟨Nat.le_of_ble_eq_true rfl, Nat.le_of_ble_eq_true rfl⟩) hS (fun q _ h => hFc q h) hFc ?_
    intro r_26 u t9 H1 locs1 ht9 hvm hw1 hB hz1 hk1 hS1
    obtain ⟨hP1, hK1, hD1⟩ := hB
    rw [ht9] at hP1
    replace hK1 := va_K.moved hvm.symm hK1
    have hPD := join3 hP hD rfl [4, 5, 8] [0, 1, 2, 3, 6, 7, 9, 10] rfl (by rfl) (by decide +kernel) (by decide +kernel) hk1 hFc hP1 hD1
    replace hK : va_K (dC, dI) classes [((xK 3), .int), ((xK 4), .int), ((xK 5), .int), ((pK 2), .int), ((pK 4), .int), ((pK 5), .int), ((pK 8), .int), ((pK 9), .int), ((pK 10), .int)] s := hK.app hK1
    clear hP1 hK1 hD1 hk1 hz1 hFc hKc hDc hPc hvm ht9 hP hS t9
    have hP : va_P (dC, dI) classes [oc xa 6 [.ref pa, .ref ga, .ref (xA 0), .ref (xA 1), .ref (xA 2), .ref (xA 3), .ref (xA 4), .ref (xA 5), .ref (xA 6), .ref (xA 7), .ref (xA 8), .ref (xA 9), .ref (xA 10), .ref (xA 11), .ref fa, .int (nI md), .int (nI mb)], ia (xA 3) (xK 3) 7 (fun i => nI ((sc 3) i)), ia (xA 4) (xK 4) 7 (fun i => nI ((sc 4) i)), ia (xA 5) (xK 5) 7 (fun i => nI ((sc 5) i)), ia (pA 4) (pK 4) 7 (fun i => nI ((pg 4) i)), ia (pA 5) (pK 5) 7 (fun i => nI ((pg 5) i)), ia (pA 9) (pK 9) 6 (fun i => nI ((pg 9) i)), ia (pA 10) (pK 10) 3 (fun i => nI ((pg 10) i)), oc pa 0 [.ref (pA 0), .ref (pA 1), .ref (pA 2), .ref (pA 3), .ref (pA 4), .ref (pA 5), .ref (pA 6), .ref (pA 7), .ref (pA 8), .ref (pA 9), .ref (pA 10), .int (nI T), .int (nI Ac)], ia (pA 2) (pK 2) 7 (fun i => nI ((pg 2) i)), ia (pA 8) (pK 8) 4 (fun i => nI ((pg 8) i))] H1 := hPD.1
    replace hD : dd A [xa, (xA 3), (xA 4), (xA 5), (pA 4), (pA 5), (pA 9), (pA 10), pa, (pA 2), (pA 8)] := dd_of hPD.2 rfl
    clear hPD
    revert H1 locs1
    intro H locs hS hP
    refine tp_i (y := nI (ownT pg a)) (hw1) ?_
    clear hw1 r_26 u
    refine tp_pc (pc' := 25) (by rfl) ?_
    refine va_iast (D := (dC, dI)) hx hb hK hP (dd_D hD rfl) hS 1 0 rfl rfl (i := nI a) (x := nI (ownT pg a)) (pk_in a 7 (by omega)) d_GraphSearch_tellOwn_25 ?_
    clear hP hS locs H
    intro H locs hP _ hS
    rw [show (nI a : Int32).toNatClampNeg = a from pk_cl a] at hP
    rw [show upd (fun i => nI ((sc 3) i)) a (nI (ownT pg a)) = fun i => nI (updN (sc 3) a (ownT pg a) i) from upd_nI] at hP
    replace hP : va_P (dC, dI) classes [oc xa 6 [.ref pa, .ref ga, .ref (xA 0), .ref (xA 1), .ref (xA 2), .ref (xA 3), .ref (xA 4), .ref (xA 5), .ref (xA 6), .ref (xA 7), .ref (xA 8), .ref (xA 9), .ref (xA 10), .ref (xA 11), .ref fa, .int (nI md), .int (nI mb)], ia (xA 3) (xK 3) 7 (fun i => nI ((updN (sc 3) a (ownT pg a)) i)), ia (xA 4) (xK 4) 7 (fun i => nI ((sc 4) i)), ia (xA 5) (xK 5) 7 (fun i => nI ((sc 5) i)), ia (pA 4) (pK 4) 7 (fun i => nI ((pg 4) i)), ia (pA 5) (pK 5) 7 (fun i => nI ((pg 5) i)), ia (pA 9) (pK 9) 6 (fun i => nI ((pg 9) i)), ia (pA 10) (pK 10) 3 (fun i => nI ((pg 10) i)), oc pa 0 [.ref (pA 0), .ref (pA 1), .ref (pA 2), .ref (pA 3), .ref (pA 4), .ref (pA 5), .ref (pA 6), .ref (pA 7), .ref (pA 8), .ref (pA 9), .ref (pA 10), .int (nI T), .int (nI Ac)], ia (pA 2) (pK 2) 7 (fun i => nI ((pg 2) i)), ia (pA 8) (pK 8) 4 (fun i => nI ((pg 8) i))] H := hP
    refine tp_pc (pc' := 26) (by rfl) ?_
    refine lv_aload_n hx hb d_GraphSearch_tellOwn_26 rfl (lv_at hl 2 rfl) ?_
    refine va_get (D := (dC, dI)) (ci := 6) (v := .ref (xA 4)) (C := R_GraphSearch) (T := F_GraphSearch) (N := 17) hx hb hw i_GraphSearch hown hK hP 0 rfl rfl 6 (by decide) (hw _ m_325) (fun _ h9 => h9) rfl d_GraphSearch_tellOwn_27 ?_
    refine lv_iload_n hx hb d_GraphSearch_tellOwn_30 rfl (lv_at hl 3 rfl) ?_
    refine lv_iconst (v := 0) hx hb d_GraphSearch_tellOwn_31 (by decide) ?_
    refine va_iast (D := (dC, dI)) hx hb hK hP (dd_D hD rfl) hS 2 1 rfl rfl (i := nI a) (x := 0) (pk_in a 7 (by omega)) d_GraphSearch_tellOwn_32 ?_
    clear hP hS locs H
    intro H locs hP _ hS
    rw [show (nI a : Int32).toNatClampNeg = a from pk_cl a] at hP
    rw [show upd (fun i => nI ((sc 4) i)) a 0 = fun i => nI (updN (sc 4) a 0 i) from upd_nI] at hP
    replace hP : va_P (dC, dI) classes [oc xa 6 [.ref pa, .ref ga, .ref (xA 0), .ref (xA 1), .ref (xA 2), .ref (xA 3), .ref (xA 4), .ref (xA 5), .ref (xA 6), .ref (xA 7), .ref (xA 8), .ref (xA 9), .ref (xA 10), .ref (xA 11), .ref fa, .int (nI md), .int (nI mb)], ia (xA 3) (xK 3) 7 (fun i => nI ((updN (sc 3) a (ownT pg a)) i)), ia (xA 4) (xK 4) 7 (fun i => nI ((updN (sc 4) a 0) i)), ia (xA 5) (xK 5) 7 (fun i => nI ((sc 5) i)), ia (pA 4) (pK 4) 7 (fun i => nI ((pg 4) i)), ia (pA 5) (pK 5) 7 (fun i => nI ((pg 5) i)), ia (pA 9) (pK 9) 6 (fun i => nI ((pg 9) i)), ia (pA 10) (pK 10) 3 (fun i => nI ((pg 10) i)), oc pa 0 [.ref (pA 0), .ref (pA 1), .ref (pA 2), .ref (pA 3), .ref (pA 4), .ref (pA 5), .ref (pA 6), .ref (pA 7), .ref (pA 8), .ref (pA 9), .ref (pA 10), .int (nI T), .int (nI Ac)], ia (pA 2) (pK 2) 7 (fun i => nI ((pg 2) i)), ia (pA 8) (pK 8) 4 (fun i => nI ((pg 8) i))] H := hP
    refine tp_pc (pc' := 33) (by rfl) ?_
    refine lv_iload_n hx hb d_GraphSearch_tellOwn_33 rfl (lv_at hl 1 rfl) ?_
    refine lv_iconst (v := 4) hx hb d_GraphSearch_tellOwn_34 (by decide) ?_
    refine lv_icmp_ge (tgt := 68) hx hb d_GraphSearch_tellOwn_35 (by decide) (fun c_27 => ?_) (fun c_27 => absurd c_27 (by decide))
    refine tp_pc (pc' := 68) (by rfl) ?_
    rw [show updN (sc 4) a 0 = updN (sc 4) a (onoT pg a) from by rw [onoT, if_neg (by omega)]] at hP
    replace hP : va_P (dC, dI) classes [oc xa 6 [.ref pa, .ref ga, .ref (xA 0), .ref (xA 1), .ref (xA 2), .ref (xA 3), .ref (xA 4), .ref (xA 5), .ref (xA 6), .ref (xA 7), .ref (xA 8), .ref (xA 9), .ref (xA 10), .ref (xA 11), .ref fa, .int (nI md), .int (nI mb)], ia (xA 3) (xK 3) 7 (fun i => nI ((updN (sc 3) a (ownT pg a)) i)), ia (xA 4) (xK 4) 7 (fun i => nI ((updN (sc 4) a (onoT pg a)) i)), ia (xA 5) (xK 5) 7 (fun i => nI ((sc 5) i)), ia (pA 4) (pK 4) 7 (fun i => nI ((pg 4) i)), ia (pA 5) (pK 5) 7 (fun i => nI ((pg 5) i)), ia (pA 9) (pK 9) 6 (fun i => nI ((pg 9) i)), ia (pA 10) (pK 10) 3 (fun i => nI ((pg 10) i)), oc pa 0 [.ref (pA 0), .ref (pA 1), .ref (pA 2), .ref (pA 3), .ref (pA 4), .ref (pA 5), .ref (pA 6), .ref (pA 7), .ref (pA 8), .ref (pA 9), .ref (pA 10), .int (nI T), .int (nI Ac)], ia (pA 2) (pK 2) 7 (fun i => nI ((pg 2) i)), ia (pA 8) (pK 8) 4 (fun i => nI ((pg 8) i))] H := hP
    refine lv_iload_n hx hb d_GraphSearch_tellOwn_68 rfl (lv_at hl 1 rfl) ?_
    refine lv_if_ne (tgt := 83) hx hb d_GraphSearch_tellOwn_69 (by decide) (fun c_28 => ?_) (fun c_28 => absurd c_28 (by decide))
    refine tp_pc (pc' := 83) (by rfl) ?_
    refine lv_aload_n hx hb d_GraphSearch_tellOwn_83 rfl (lv_at hl 2 rfl) ?_
    refine va_get (D := (dC, dI)) (ci := 6) (v := .int (nI md)) (C := R_GraphSearch) (T := F_GraphSearch) (N := 17) hx hb hw i_GraphSearch hown hK hP 0 rfl rfl 15 (by decide) (hw _ m_334) (fun _ h9 => h9) rfl d_GraphSearch_tellOwn_84 ?_
    refine lv_iconst (v := 2) hx hb d_GraphSearch_tellOwn_87 (by decide) ?_
    refine lv_icmp_ne (tgt := 129) hx hb d_GraphSearch_tellOwn_88 (by decide) (fun c1 => ?_) (fun c1 => ?_)
    · skip
      have hc1 : ¬ (md = 2) := fun q9 => c1 ((nI_eq (a := md) (b := 2) (by omega) (by omega)).mpr q9)
      refine tp_pc (pc' := 129) (by rfl) ?_
      refine lv_aload_n hx hb d_GraphSearch_tellOwn_129 rfl (lv_at hl 2 rfl) ?_
      refine va_get (D := (dC, dI)) (ci := 6) (v := .ref (xA 5)) (C := R_GraphSearch) (T := F_GraphSearch) (N := 17) hx hb hw i_GraphSearch hown hK hP 0 rfl rfl 7 (by decide) (hw _ m_326) (fun _ h9 => h9) rfl d_GraphSearch_tellOwn_130 ?_
      refine lv_iload_n hx hb d_GraphSearch_tellOwn_133 rfl (lv_at hl 3 rfl) ?_
      refine lv_aload_n hx hb d_GraphSearch_tellOwn_134 rfl (lv_at hl 2 rfl) ?_
      refine va_get (D := (dC, dI)) (ci := 6) (v := .ref (xA 3)) (C := R_GraphSearch) (T := F_GraphSearch) (N := 17) hx hb hw i_GraphSearch hown hK hP 0 rfl rfl 5 (by decide) (hw _ m_324) (fun _ h9 => h9) rfl d_GraphSearch_tellOwn_135 ?_
      refine lv_iload_n hx hb d_GraphSearch_tellOwn_138 rfl (lv_at hl 3 rfl) ?_
      refine va_iald (D := (dC, dI)) hx hb hK hP 1 0 rfl rfl (i := nI a) (pk_in a 7 (by omega)) d_GraphSearch_tellOwn_139 ?_
      refine tp_i (y := nI ((updN (sc 3) a (ownT pg a)) a)) (by rw [show (nI a : Int32).toNatClampNeg = a from pk_cl a]) ?_
      refine lv_iload_n hx hb d_GraphSearch_tellOwn_140 rfl (lv_at hl 0 rfl) ?_
      refine lv_iconst (v := (-1)) hx hb d_GraphSearch_tellOwn_141 (by decide) ?_
      refine lv_ixor hx hb d_GraphSearch_tellOwn_142 ?_
      refine tp_i (y := (-1)) (by first | rfl | decide) ?_
      refine lv_iand hx hb d_GraphSearch_tellOwn_143 ?_
      refine tp_i (y := (nI ((updN (sc 3) a (ownT pg a)) a)) &&& (-1)) rfl ?_
      refine tp_i (y := nI (okpT pg md a)) (by rw [updN_s, okpT, show lftT pg md a = 0 from by rw [lftT, if_neg (by omega), if_neg (fun q => hc1 q.1)]]; exact and_m1 _ ow8) ?_
      refine va_iast (D := (dC, dI)) hx hb hK hP (dd_D hD rfl) hS 3 2 rfl rfl (i := nI a) (x := nI (okpT pg md a)) (pk_in a 7 (by omega)) d_GraphSearch_tellOwn_144 ?_
      clear hP hS locs H
      intro H locs hP _ hS
      rw [show (nI a : Int32).toNatClampNeg = a from pk_cl a] at hP
      rw [show upd (fun i => nI ((sc 5) i)) a (nI (okpT pg md a)) = fun i => nI (updN (sc 5) a (okpT pg md a) i) from upd_nI] at hP
      replace hP : va_P (dC, dI) classes [oc xa 6 [.ref pa, .ref ga, .ref (xA 0), .ref (xA 1), .ref (xA 2), .ref (xA 3), .ref (xA 4), .ref (xA 5), .ref (xA 6), .ref (xA 7), .ref (xA 8), .ref (xA 9), .ref (xA 10), .ref (xA 11), .ref fa, .int (nI md), .int (nI mb)], ia (xA 3) (xK 3) 7 (fun i => nI ((updN (sc 3) a (ownT pg a)) i)), ia (xA 4) (xK 4) 7 (fun i => nI ((updN (sc 4) a (onoT pg a)) i)), ia (xA 5) (xK 5) 7 (fun i => nI ((updN (sc 5) a (okpT pg md a)) i)), ia (pA 4) (pK 4) 7 (fun i => nI ((pg 4) i)), ia (pA 5) (pK 5) 7 (fun i => nI ((pg 5) i)), ia (pA 9) (pK 9) 6 (fun i => nI ((pg 9) i)), ia (pA 10) (pK 10) 3 (fun i => nI ((pg 10) i)), oc pa 0 [.ref (pA 0), .ref (pA 1), .ref (pA 2), .ref (pA 3), .ref (pA 4), .ref (pA 5), .ref (pA 6), .ref (pA 7), .ref (pA 8), .ref (pA 9), .ref (pA 10), .int (nI T), .int (nI Ac)], ia (pA 2) (pK 2) 7 (fun i => nI ((pg 2) i)), ia (pA 8) (pK 8) 4 (fun i => nI ((pg 8) i))] H := hP
      refine tp_pc (pc' := 145) (by rfl) ?_
      obtain ⟨hP9, hD9, -⟩ := cut3 (wc := [oc xa 6 [.ref pa, .ref ga, .ref (xA 0), .ref (xA 1), .ref (xA 2), .ref (xA 3), .ref (xA 4), .ref (xA 5), .ref (xA 6), .ref (xA 7), .ref (xA 8), .ref (xA 9), .ref (xA 10), .ref (xA 11), .ref fa, .int (nI md), .int (nI mb)], ia (xA 3) (xK 3) 7 (fun i => nI ((updN (sc 3) a (ownT pg a)) i)), ia (xA 4) (xK 4) 7 (fun i => nI ((updN (sc 4) a (onoT pg a)) i)), ia (xA 5) (xK 5) 7 (fun i => nI ((updN (sc 5) a (okpT pg md a)) i)), oc pa 0 [.ref (pA 0), .ref (pA 1), .ref (pA 2), .ref (pA 3), .ref (pA 4), .ref (pA 5), .ref (pA 6), .ref (pA 7), .ref (pA 8), .ref (pA 9), .ref (pA 10), .int (nI T), .int (nI Ac)], ia (pA 2) (pK 2) 7 (fun i => nI ((pg 2) i)), ia (pA 4) (pK 4) 7 (fun i => nI ((pg 4) i)), ia (pA 5) (pK 5) 7 (fun i => nI ((pg 5) i)), ia (pA 8) (pK 8) 4 (fun i => nI ((pg 8) i)), ia (pA 9) (pK 9) 6 (fun i => nI ((pg 9) i)), ia (pA 10) (pK 10) 3 (fun i => nI ((pg 10) i))]) hP hD rfl hS hA [0, 1, 2, 3, 8, 9, 4, 5, 10, 6, 7] (by decide +kernel) rfl
      have hK9 := hK.sub (tys' := []) [] rfl
      refine W.widen (k := 0) (n := 0) (by exact Nat.le_of_ble_eq_true rfl) (by exact Nat.le_of_ble_eq_true rfl) ?_
      exact W.vret hx hb hr (fun t9 ht9 hW => ⟨⟨(), rfl, trivial, by rw [ht9]; exact hP9, va_K.moved hW.alike hK9, hD9⟩, hS.F ht9⟩) hS.2.2 d_GraphSearch_tellOwn_145
    · skip
      have hc1 : md = 2 := (nI_eq (a := md) (b := 2) (by omega) (by omega)).mp c1
      refine tp_pc (pc' := 91) (by rfl) ?_
      refine lv_iload_n hx hb d_GraphSearch_tellOwn_91 rfl (lv_at hl 1 rfl) ?_
      refine lv_iconst (v := 1) hx hb d_GraphSearch_tellOwn_92 (by decide) ?_
      refine lv_icmp_eq (tgt := 101) hx hb d_GraphSearch_tellOwn_93 (by decide) (fun c_29 => absurd c_29 (by decide)) (fun c_29 => ?_)
      refine tp_pc (pc' := 96) (by rfl) ?_
      refine lv_iload_n hx hb d_GraphSearch_tellOwn_96 rfl (lv_at hl 1 rfl) ?_
      refine lv_iconst (v := 2) hx hb d_GraphSearch_tellOwn_97 (by decide) ?_
      refine lv_icmp_ne (tgt := 129) hx hb d_GraphSearch_tellOwn_98 (by decide) (fun c_30 => ?_) (fun c_30 => absurd c_30 (by decide))
      refine tp_pc (pc' := 129) (by rfl) ?_
      refine lv_aload_n hx hb d_GraphSearch_tellOwn_129 rfl (lv_at hl 2 rfl) ?_
      refine va_get (D := (dC, dI)) (ci := 6) (v := .ref (xA 5)) (C := R_GraphSearch) (T := F_GraphSearch) (N := 17) hx hb hw i_GraphSearch hown hK hP 0 rfl rfl 7 (by decide) (hw _ m_326) (fun _ h9 => h9) rfl d_GraphSearch_tellOwn_130 ?_
      refine lv_iload_n hx hb d_GraphSearch_tellOwn_133 rfl (lv_at hl 3 rfl) ?_
      refine lv_aload_n hx hb d_GraphSearch_tellOwn_134 rfl (lv_at hl 2 rfl) ?_
      refine va_get (D := (dC, dI)) (ci := 6) (v := .ref (xA 3)) (C := R_GraphSearch) (T := F_GraphSearch) (N := 17) hx hb hw i_GraphSearch hown hK hP 0 rfl rfl 5 (by decide) (hw _ m_324) (fun _ h9 => h9) rfl d_GraphSearch_tellOwn_135 ?_
      refine lv_iload_n hx hb d_GraphSearch_tellOwn_138 rfl (lv_at hl 3 rfl) ?_
      refine va_iald (D := (dC, dI)) hx hb hK hP 1 0 rfl rfl (i := nI a) (pk_in a 7 (by omega)) d_GraphSearch_tellOwn_139 ?_
      refine tp_i (y := nI ((updN (sc 3) a (ownT pg a)) a)) (by rw [show (nI a : Int32).toNatClampNeg = a from pk_cl a]) ?_
      refine lv_iload_n hx hb d_GraphSearch_tellOwn_140 rfl (lv_at hl 0 rfl) ?_
      refine lv_iconst (v := (-1)) hx hb d_GraphSearch_tellOwn_141 (by decide) ?_
      refine lv_ixor hx hb d_GraphSearch_tellOwn_142 ?_
      refine tp_i (y := (-1)) (by first | rfl | decide) ?_
      refine lv_iand hx hb d_GraphSearch_tellOwn_143 ?_
      refine tp_i (y := (nI ((updN (sc 3) a (ownT pg a)) a)) &&& (-1)) rfl ?_
      refine tp_i (y := nI (okpT pg md a)) (by rw [updN_s, okpT, show lftT pg md a = 0 from by rw [lftT, if_neg (by omega), if_neg (fun q => by omega)]]; exact and_m1 _ ow8) ?_
      refine va_iast (D := (dC, dI)) hx hb hK hP (dd_D hD rfl) hS 3 2 rfl rfl (i := nI a) (x := nI (okpT pg md a)) (pk_in a 7 (by omega)) d_GraphSearch_tellOwn_144 ?_
      clear hP hS locs H
      intro H locs hP _ hS
      rw [show (nI a : Int32).toNatClampNeg = a from pk_cl a] at hP
      rw [show upd (fun i => nI ((sc 5) i)) a (nI (okpT pg md a)) = fun i => nI (updN (sc 5) a (okpT pg md a) i) from upd_nI] at hP
      replace hP : va_P (dC, dI) classes [oc xa 6 [.ref pa, .ref ga, .ref (xA 0), .ref (xA 1), .ref (xA 2), .ref (xA 3), .ref (xA 4), .ref (xA 5), .ref (xA 6), .ref (xA 7), .ref (xA 8), .ref (xA 9), .ref (xA 10), .ref (xA 11), .ref fa, .int (nI md), .int (nI mb)], ia (xA 3) (xK 3) 7 (fun i => nI ((updN (sc 3) a (ownT pg a)) i)), ia (xA 4) (xK 4) 7 (fun i => nI ((updN (sc 4) a (onoT pg a)) i)), ia (xA 5) (xK 5) 7 (fun i => nI ((updN (sc 5) a (okpT pg md a)) i)), ia (pA 4) (pK 4) 7 (fun i => nI ((pg 4) i)), ia (pA 5) (pK 5) 7 (fun i => nI ((pg 5) i)), ia (pA 9) (pK 9) 6 (fun i => nI ((pg 9) i)), ia (pA 10) (pK 10) 3 (fun i => nI ((pg 10) i)), oc pa 0 [.ref (pA 0), .ref (pA 1), .ref (pA 2), .ref (pA 3), .ref (pA 4), .ref (pA 5), .ref (pA 6), .ref (pA 7), .ref (pA 8), .ref (pA 9), .ref (pA 10), .int (nI T), .int (nI Ac)], ia (pA 2) (pK 2) 7 (fun i => nI ((pg 2) i)), ia (pA 8) (pK 8) 4 (fun i => nI ((pg 8) i))] H := hP
      refine tp_pc (pc' := 145) (by rfl) ?_
      obtain ⟨hP9, hD9, -⟩ := cut3 (wc := [oc xa 6 [.ref pa, .ref ga, .ref (xA 0), .ref (xA 1), .ref (xA 2), .ref (xA 3), .ref (xA 4), .ref (xA 5), .ref (xA 6), .ref (xA 7), .ref (xA 8), .ref (xA 9), .ref (xA 10), .ref (xA 11), .ref fa, .int (nI md), .int (nI mb)], ia (xA 3) (xK 3) 7 (fun i => nI ((updN (sc 3) a (ownT pg a)) i)), ia (xA 4) (xK 4) 7 (fun i => nI ((updN (sc 4) a (onoT pg a)) i)), ia (xA 5) (xK 5) 7 (fun i => nI ((updN (sc 5) a (okpT pg md a)) i)), oc pa 0 [.ref (pA 0), .ref (pA 1), .ref (pA 2), .ref (pA 3), .ref (pA 4), .ref (pA 5), .ref (pA 6), .ref (pA 7), .ref (pA 8), .ref (pA 9), .ref (pA 10), .int (nI T), .int (nI Ac)], ia (pA 2) (pK 2) 7 (fun i => nI ((pg 2) i)), ia (pA 4) (pK 4) 7 (fun i => nI ((pg 4) i)), ia (pA 5) (pK 5) 7 (fun i => nI ((pg 5) i)), ia (pA 8) (pK 8) 4 (fun i => nI ((pg 8) i)), ia (pA 9) (pK 9) 6 (fun i => nI ((pg 9) i)), ia (pA 10) (pK 10) 3 (fun i => nI ((pg 10) i))]) hP hD rfl hS hA [0, 1, 2, 3, 8, 9, 4, 5, 10, 6, 7] (by decide +kernel) rfl
      have hK9 := hK.sub (tys' := []) [] rfl
      refine W.widen (k := 0) (n := 0) (by exact Nat.le_of_ble_eq_true rfl) (by exact Nat.le_of_ble_eq_true rfl) ?_
      exact W.vret hx hb hr (fun t9 ht9 hW => ⟨⟨(), rfl, trivial, by rw [ht9]; exact hP9, va_K.moved hW.alike hK9, hD9⟩, hS.F ht9⟩) hS.2.2 d_GraphSearch_tellOwn_145
set_option maxHeartbeats 4000000 in
set_option maxRecDepth 100000 in
theorem gen_GS_noteReader (l : Launch) (dC : Nat → ClassId) (dI : Nat → Nat → Nat) (pa : Nat) (pA : Nat → Nat) (pK : Nat → ClassId) (T Ac : Nat) (pg : Nat → Nat → Nat) (nm : Nat → Int32) (xa ga fa : Nat) (xA : Nat → Nat) (xK : Nat → ClassId) (md mb : Nat) (fm wm : Nat → Nat) (sc : Nat → Nat → Nat) (a : Nat) (ha : a < 7) (hx3 : pg 5 a < 3) (hf8 : fm a ≤ 8) (h6 : ∀ i, sc 6 i < 128) (h7 : ∀ i, sc 7 i < 128) (sz : Nat) : Met l y_GraphSearch_noteReader w_GraphSearch_noteReader ({ frames := 0, cells := 0, slots := 0, locals := 0 }) (va_Pc [.ref xa, .int (nI a)] (fun U => U.heap.size = sz ∧ va_P (dC, dI) classes [oc xa 6 [.ref pa, .ref ga, .ref (xA 0), .ref (xA 1), .ref (xA 2), .ref (xA 3), .ref (xA 4), .ref (xA 5), .ref (xA 6), .ref (xA 7), .ref (xA 8), .ref (xA 9), .ref (xA 10), .ref (xA 11), .ref fa, .int (nI md), .int (nI mb)], ia (xA 0) (xK 0) 7 (fun i0 => mN (fm i0)), ia (xA 6) (xK 6) 8 (fun i => nI ((sc 6) i)), ia (xA 7) (xK 7) 4 (fun i => nI ((sc 7) i)), ia (xA 9) (xK 9) 7 (fun i => nI ((sc 9) i)), oc pa 0 [.ref (pA 0), .ref (pA 1), .ref (pA 2), .ref (pA 3), .ref (pA 4), .ref (pA 5), .ref (pA 6), .ref (pA 7), .ref (pA 8), .ref (pA 9), .ref (pA 10), .int (nI T), .int (nI Ac)], ia (pA 5) (pK 5) 7 (fun i => nI ((pg 5) i))] U.heap ∧ va_K (dC, dI) classes [((xK 0), .int), ((xK 6), .int), ((xK 7), .int), ((xK 9), .int), ((pK 5), .int)] U ∧ va_D (fun _ => True) [oc xa 6 [.ref pa, .ref ga, .ref (xA 0), .ref (xA 1), .ref (xA 2), .ref (xA 3), .ref (xA 4), .ref (xA 5), .ref (xA 6), .ref (xA 7), .ref (xA 8), .ref (xA 9), .ref (xA 10), .ref (xA 11), .ref fa, .int (nI md), .int (nI mb)], ia (xA 0) (xK 0) 7 (fun i0 => mN (fm i0)), ia (xA 6) (xK 6) 8 (fun i => nI ((sc 6) i)), ia (xA 7) (xK 7) 4 (fun i => nI ((sc 7) i)), ia (xA 9) (xK 9) 7 (fun i => nI ((sc 9) i)), oc pa 0 [.ref (pA 0), .ref (pA 1), .ref (pA 2), .ref (pA 3), .ref (pA 4), .ref (pA 5), .ref (pA 6), .ref (pA 7), .ref (pA 8), .ref (pA 9), .ref (pA 10), .int (nI T), .int (nI Ac)], ia (pA 5) (pK 5) 7 (fun i => nI ((pg 5) i))] ∧ nw U)) (va_Qv (fun _ : Unit => True) (fun _ t9 => va_P (dC, dI) classes [oc xa 6 [.ref pa, .ref ga, .ref (xA 0), .ref (xA 1), .ref (xA 2), .ref (xA 3), .ref (xA 4), .ref (xA 5), .ref (xA 6), .ref (xA 7), .ref (xA 8), .ref (xA 9), .ref (xA 10), .ref (xA 11), .ref fa, .int (nI md), .int (nI mb)], ia (xA 0) (xK 0) 7 (fun i0 => mN (fm i0)), ia (xA 6) (xK 6) 8 (fun i => nI ((nrR fm a (sc 6)) i)), ia (xA 7) (xK 7) 4 (fun i => nI ((nrF pg fm a (sc 7)) i)), ia (xA 9) (xK 9) 7 (fun i => nI ((nrB fm a (sc 9)) i)), oc pa 0 [.ref (pA 0), .ref (pA 1), .ref (pA 2), .ref (pA 3), .ref (pA 4), .ref (pA 5), .ref (pA 6), .ref (pA 7), .ref (pA 8), .ref (pA 9), .ref (pA 10), .int (nI T), .int (nI Ac)], ia (pA 5) (pK 5) 7 (fun i => nI ((pg 5) i))] t9.heap ∧ va_K (dC, dI) classes [] t9 ∧ va_D (va_A [oc xa 6 [.ref pa, .ref ga, .ref (xA 0), .ref (xA 1), .ref (xA 2), .ref (xA 3), .ref (xA 4), .ref (xA 5), .ref (xA 6), .ref (xA 7), .ref (xA 8), .ref (xA 9), .ref (xA 10), .ref (xA 11), .ref fa, .int (nI md), .int (nI mb)], ia (xA 0) (xK 0) 7 (fun i0 => mN (fm i0)), ia (xA 6) (xK 6) 8 (fun i => nI ((sc 6) i)), ia (xA 7) (xK 7) 4 (fun i => nI ((sc 7) i)), ia (xA 9) (xK 9) 7 (fun i => nI ((sc 9) i)), oc pa 0 [.ref (pA 0), .ref (pA 1), .ref (pA 2), .ref (pA 3), .ref (pA 4), .ref (pA 5), .ref (pA 6), .ref (pA 7), .ref (pA 8), .ref (pA 9), .ref (pA 10), .int (nI T), .int (nI Ac)], ia (pA 5) (pK 5) 7 (fun i => nI ((pg 5) i))] sz) [oc xa 6 [.ref pa, .ref ga, .ref (xA 0), .ref (xA 1), .ref (xA 2), .ref (xA 3), .ref (xA 4), .ref (xA 5), .ref (xA 6), .ref (xA 7), .ref (xA 8), .ref (xA 9), .ref (xA 10), .ref (xA 11), .ref fa, .int (nI md), .int (nI mb)], ia (xA 0) (xK 0) 7 (fun i0 => mN (fm i0)), ia (xA 6) (xK 6) 8 (fun i => nI ((nrR fm a (sc 6)) i)), ia (xA 7) (xK 7) 4 (fun i => nI ((nrF pg fm a (sc 7)) i)), ia (xA 9) (xK 9) 7 (fun i => nI ((nrB fm a (sc 9)) i)), oc pa 0 [.ref (pA 0), .ref (pA 1), .ref (pA 2), .ref (pA 3), .ref (pA 4), .ref (pA 5), .ref (pA 6), .ref (pA 7), .ref (pA 8), .ref (pA 9), .ref (pA 10), .int (nI T), .int (nI Ac)], ia (pA 5) (pK 5) 7 (fun i => nI ((pg 5) i))]) (va_A [oc xa 6 [.ref pa, .ref ga, .ref (xA 0), .ref (xA 1), .ref (xA 2), .ref (xA 3), .ref (xA 4), .ref (xA 5), .ref (xA 6), .ref (xA 7), .ref (xA 8), .ref (xA 9), .ref (xA 10), .ref (xA 11), .ref fa, .int (nI md), .int (nI mb)], ia (xA 0) (xK 0) 7 (fun i0 => mN (fm i0)), ia (xA 6) (xK 6) 8 (fun i => nI ((sc 6) i)), ia (xA 7) (xK 7) 4 (fun i => nI ((sc 7) i)), ia (xA 9) (xK 9) 7 (fun i => nI ((sc 9) i)), oc pa 0 [.ref (pA 0), .ref (pA 1), .ref (pA 2), .ref (pA 3), .ref (pA 4), .ref (pA 5), .ref (pA 6), .ref (pA 7), .ref (pA 8), .ref (pA 9), .ref (pA 10), .int (nI T), .int (nI Ac)], ia (pA 5) (pK 5) 7 (fun i => nI ((pg 5) i))] sz)) 0 0 (va_A [oc xa 6 [.ref pa, .ref ga, .ref (xA 0), .ref (xA 1), .ref (xA 2), .ref (xA 3), .ref (xA 4), .ref (xA 5), .ref (xA 6), .ref (xA 7), .ref (xA 8), .ref (xA 9), .ref (xA 10), .ref (xA 11), .ref fa, .int (nI md), .int (nI mb)], ia (xA 0) (xK 0) 7 (fun i0 => mN (fm i0)), ia (xA 6) (xK 6) 8 (fun i => nI ((sc 6) i)), ia (xA 7) (xK 7) 4 (fun i => nI ((sc 7) i)), ia (xA 9) (xK 9) 7 (fun i => nI ((sc 9) i)), oc pa 0 [.ref (pA 0), .ref (pA 1), .ref (pA 2), .ref (pA 3), .ref (pA 4), .ref (pA 5), .ref (pA 6), .ref (pA 7), .ref (pA 8), .ref (pA 9), .ref (pA 10), .int (nI T), .int (nI Ac)], ia (pA 5) (pK 5) 7 (fun i => nI ((pg 5) i))] sz) := by
  refine Met.ofW (cc := b_GraphSearch_noteReader) (maxL := 3) (ret := none) (by decide) rfl ?_
  intro p e0 s m args below meth c s₁ B hml hv
  obtain ⟨rfl, hsz, hP, hK, hD0, hn⟩ := hv
  have hx := B.exec
  have hb := B.bytes
  have hr := B.returns
  have hw := fun w (h : w ∈ wt) => atoms_spec (ws := w_GraphSearch_noteReader) B.pre w (List.mem_cons_of_mem _ h)
  have hown : s.vm.findClass R_GraphSearch = some m.cls := findClass_of_methodNamed B.named
  have hlocks := B.notSynchronized
  subst hsz
  have hD1 := hD0.self (sz := s.heap.size)
  generalize hAe : va_A [oc xa 6 [.ref pa, .ref ga, .ref (xA 0), .ref (xA 1), .ref (xA 2), .ref (xA 3), .ref (xA 4), .ref (xA 5), .ref (xA 6), .ref (xA 7), .ref (xA 8), .ref (xA 9), .ref (xA 10), .ref (xA 11), .ref fa, .int (nI md), .int (nI mb)], ia (xA 0) (xK 0) 7 (fun i0 => mN (fm i0)), ia (xA 6) (xK 6) 8 (fun i => nI ((sc 6) i)), ia (xA 7) (xK 7) 4 (fun i => nI ((sc 7) i)), ia (xA 9) (xK 9) 7 (fun i => nI ((sc 9) i)), oc pa 0 [.ref (pA 0), .ref (pA 1), .ref (pA 2), .ref (pA 3), .ref (pA 4), .ref (pA 5), .ref (pA 6), .ref (pA 7), .ref (pA 8), .ref (pA 9), .ref (pA 10), .int (nI T), .int (nI Ac)], ia (pA 5) (pK 5) 7 (fun i => nI ((pg 5) i))] s.heap.size = A at hD1 ⊢
  have hA : ∀ q : Nat, s.heap.size ≤ q → A q := fun q h => by rw [← hAe]; exact Or.inr h
  have hD : dd A [xa, (xA 0), (xA 6), (xA 7), (xA 9), pa, (pA 5)] := dd_of hD1 rfl
  clear hAe hD0 hD1
  have hS : va_S A s.heap s.heap [] := va_S.rf
  replace hP : va_P (dC, dI) classes [oc xa 6 [.ref pa, .ref ga, .ref (xA 0), .ref (xA 1), .ref (xA 2), .ref (xA 3), .ref (xA 4), .ref (xA 5), .ref (xA 6), .ref (xA 7), .ref (xA 8), .ref (xA 9), .ref (xA 10), .ref (xA 11), .ref fa, .int (nI md), .int (nI mb)], ia (xA 0) (xK 0) 7 (fun i0 => mN (fm i0)), ia (xA 6) (xK 6) 8 (fun i => nI ((sc 6) i)), ia (xA 7) (xK 7) 4 (fun i => nI ((sc 7) i)), ia (xA 9) (xK 9) 7 (fun i => nI ((sc 9) i)), oc pa 0 [.ref (pA 0), .ref (pA 1), .ref (pA 2), .ref (pA 3), .ref (pA 4), .ref (pA 5), .ref (pA 6), .ref (pA 7), .ref (pA 8), .ref (pA 9), .ref (pA 10), .int (nI T), .int (nI Ac)], ia (pA 5) (pK 5) 7 (fun i => nI ((pg 5) i))] s.heap := hP
  have hl := lv_entry ([.ref xa, .int (nI a)]) (n := 3) (Nat.le_of_ble_eq_true rfl)
  rw [lg_entry_eq]
  generalize (lg_sl ([.ref xa, .int (nI a)]) ++ List.replicate (3 - (lg_sl ([.ref xa, .int (nI a)])).length) Slot.unset).toArray = ls at hl ⊢
  replace hl : lv_has ls 3 [(0, .ref xa), (1, .int (nI a))] := hl
  refine lv_aload_n hx hb d_GraphSearch_noteReader_0 rfl (lv_at hl 0 rfl) ?_
  refine va_get (D := (dC, dI)) (ci := 6) (v := .ref (xA 0)) (C := R_GraphSearch) (T := F_GraphSearch) (N := 17) hx hb hw i_GraphSearch hown hK hP 0 rfl rfl 2 (by decide) (hw _ m_321) (fun _ h9 => h9) rfl d_GraphSearch_noteReader_1 ?_
  refine lv_iload_n hx hb d_GraphSearch_noteReader_4 rfl (lv_at hl 1 rfl) ?_
  refine va_iald (D := (dC, dI)) hx hb hK hP 1 0 rfl rfl (i := nI a) (pk_in a 7 (by omega)) d_GraphSearch_noteReader_5 ?_
  refine tp_i (y := (fun i0 => mN (fm i0)) a) (by rw [show (nI a : Int32).toNatClampNeg = a from pk_cl a]) ?_
  refine tp_i (y := mN (fm a)) rfl ?_
  by_cases e0 : fm a = 0
  · skip
    rw [e0, mN_0]
    have n1 : ¬ 1 < fm a := by omega
    refine lv_istore_n (lv' := [(2, .int (-1)), (0, .ref xa), (1, .int (nI a))]) hx hb d_GraphSearch_noteReader_6 rfl hl (by decide) rfl ?_
    clear hl ls
    intro ls hl
    refine lv_iload_n hx hb d_GraphSearch_noteReader_7 rfl (lv_at hl 0 rfl) ?_
    refine lv_if_le (tgt := 37) hx hb d_GraphSearch_noteReader_8 (by decide) (fun c_1 => ?_) (fun c_1 => absurd c_1 (by decide))
    refine tp_pc (pc' := 37) (by rfl) ?_
    refine lv_aload_n hx hb d_GraphSearch_noteReader_37 rfl (lv_at hl 1 rfl) ?_
    refine va_get (D := (dC, dI)) (ci := 6) (v := .ref (xA 7)) (C := R_GraphSearch) (T := F_GraphSearch) (N := 17) hx hb hw i_GraphSearch hown hK hP 0 rfl rfl 9 (by decide) (hw _ m_328) (fun _ h9 => h9) rfl d_GraphSearch_noteReader_38 ?_
    refine lv_aload_n hx hb d_GraphSearch_noteReader_41 rfl (lv_at hl 1 rfl) ?_
    refine va_get (D := (dC, dI)) (ci := 6) (v := .ref pa) (C := R_GraphSearch) (T := F_GraphSearch) (N := 17) hx hb hw i_GraphSearch hown hK hP 0 rfl rfl 0 (by decide) (hw _ m_319) (fun _ h9 => h9) rfl d_GraphSearch_noteReader_42 ?_
    refine va_get (D := (dC, dI)) (ci := 0) (v := .ref (pA 5)) (C := R_Program) (T := F_Program) (N := 13) hx hb hw i_Program hown hK hP 5 rfl rfl 5 (by decide) (hw _ m_144) (fun _ h9 => h9) rfl d_GraphSearch_noteReader_45 ?_
    refine lv_iload_n hx hb d_GraphSearch_noteReader_48 rfl (lv_at hl 2 rfl) ?_
    refine va_iald (D := (dC, dI)) hx hb hK hP 6 4 rfl rfl (i := nI a) (pk_in a 7 (by omega)) d_GraphSearch_noteReader_49 ?_
    refine tp_i (y := nI ((pg 5) a)) (by rw [show (nI a : Int32).toNatClampNeg = a from pk_cl a]) ?_
    refine lv_dup2_11 hx hb d_GraphSearch_noteReader_50 rfl rfl ?_
    refine va_iald (D := (dC, dI)) hx hb hK hP 3 2 rfl rfl (i := nI ((pg 5) a)) (pk_in ((pg 5) a) 4 (by omega)) d_GraphSearch_noteReader_51 ?_
    refine tp_i (y := nI ((sc 7) ((pg 5) a))) (by rw [show (nI ((pg 5) a) : Int32).toNatClampNeg = (pg 5) a from pk_cl ((pg 5) a)]) ?_
    refine lv_iconst (v := 1) hx hb d_GraphSearch_noteReader_52 (by decide) ?_
    refine lv_iload_n hx hb d_GraphSearch_noteReader_53 rfl (lv_at hl 2 rfl) ?_
    refine lv_ishl hx hb d_GraphSearch_noteReader_54 ?_
    refine tp_i (y := 1 <<< ((nI a) &&& 31)) rfl ?_
    refine lv_ior hx hb d_GraphSearch_noteReader_55 ?_
    refine tp_i (y := (nI ((sc 7) ((pg 5) a))) ||| (1 <<< ((nI a) &&& 31))) rfl ?_
    refine tp_i (y := nI (sc 7 (pg 5 a) ||| 2 ^ a)) (set_eq _ (h7 _) a ha) ?_
    refine va_iast (D := (dC, dI)) hx hb hK hP (dd_D hD rfl) hS 3 2 rfl rfl (i := nI ((pg 5) a)) (x := nI (sc 7 (pg 5 a) ||| 2 ^ a)) (pk_in ((pg 5) a) 4 (by omega)) d_GraphSearch_noteReader_56 ?_
    clear hP hS
    intro H locs hP _ hS
    rw [show (nI ((pg 5) a) : Int32).toNatClampNeg = (pg 5) a from pk_cl ((pg 5) a)] at hP
    rw [show upd (fun i => nI ((sc 7) i)) ((pg 5) a) (nI (sc 7 (pg 5 a) ||| 2 ^ a)) = fun i => nI (updN (sc 7) ((pg 5) a) (sc 7 (pg 5 a) ||| 2 ^ a) i) from upd_nI] at hP
    replace hP : va_P (dC, dI) classes [oc xa 6 [.ref pa, .ref ga, .ref (xA 0), .ref (xA 1), .ref (xA 2), .ref (xA 3), .ref (xA 4), .ref (xA 5), .ref (xA 6), .ref (xA 7), .ref (xA 8), .ref (xA 9), .ref (xA 10), .ref (xA 11), .ref fa, .int (nI md), .int (nI mb)], ia (xA 0) (xK 0) 7 (fun i0 => mN (fm i0)), ia (xA 6) (xK 6) 8 (fun i => nI ((sc 6) i)), ia (xA 7) (xK 7) 4 (fun i => nI ((updN (sc 7) ((pg 5) a) (sc 7 (pg 5 a) ||| 2 ^ a)) i)), ia (xA 9) (xK 9) 7 (fun i => nI ((sc 9) i)), oc pa 0 [.ref (pA 0), .ref (pA 1), .ref (pA 2), .ref (pA 3), .ref (pA 4), .ref (pA 5), .ref (pA 6), .ref (pA 7), .ref (pA 8), .ref (pA 9), .ref (pA 10), .int (nI T), .int (nI Ac)], ia (pA 5) (pK 5) 7 (fun i => nI ((pg 5) i))] H := hP
    refine tp_pc (pc' := 57) (by rfl) ?_
    rw [show updN (sc 7) (pg 5 a) (sc 7 (pg 5 a) ||| 2 ^ a) = nrF pg fm a (sc 7) from by rw [nrF, if_neg n1], show (fun i => nI (sc 6 i)) = fun i => nI (nrR fm a (sc 6) i) from by rw [nrR, if_neg n1], show (fun i => nI (sc 9 i)) = fun i => nI (nrB fm a (sc 9) i) from by rw [nrB, if_neg n1]] at hP
    replace hP : va_P (dC, dI) classes [oc xa 6 [.ref pa, .ref ga, .ref (xA 0), .ref (xA 1), .ref (xA 2), .ref (xA 3), .ref (xA 4), .ref (xA 5), .ref (xA 6), .ref (xA 7), .ref (xA 8), .ref (xA 9), .ref (xA 10), .ref (xA 11), .ref fa, .int (nI md), .int (nI mb)], ia (xA 0) (xK 0) 7 (fun i0 => mN (fm i0)), ia (xA 6) (xK 6) 8 (fun i => nI ((nrR fm a (sc 6)) i)), ia (xA 7) (xK 7) 4 (fun i => nI ((nrF pg fm a (sc 7)) i)), ia (xA 9) (xK 9) 7 (fun i => nI ((nrB fm a (sc 9)) i)), oc pa 0 [.ref (pA 0), .ref (pA 1), .ref (pA 2), .ref (pA 3), .ref (pA 4), .ref (pA 5), .ref (pA 6), .ref (pA 7), .ref (pA 8), .ref (pA 9), .ref (pA 10), .int (nI T), .int (nI Ac)], ia (pA 5) (pK 5) 7 (fun i => nI ((pg 5) i))] H := hP
    obtain ⟨hP9, hD9, -⟩ := cut3 (wc := [oc xa 6 [.ref pa, .ref ga, .ref (xA 0), .ref (xA 1), .ref (xA 2), .ref (xA 3), .ref (xA 4), .ref (xA 5), .ref (xA 6), .ref (xA 7), .ref (xA 8), .ref (xA 9), .ref (xA 10), .ref (xA 11), .ref fa, .int (nI md), .int (nI mb)], ia (xA 0) (xK 0) 7 (fun i0 => mN (fm i0)), ia (xA 6) (xK 6) 8 (fun i => nI ((nrR fm a (sc 6)) i)), ia (xA 7) (xK 7) 4 (fun i => nI ((nrF pg fm a (sc 7)) i)), ia (xA 9) (xK 9) 7 (fun i => nI ((nrB fm a (sc 9)) i)), oc pa 0 [.ref (pA 0), .ref (pA 1), .ref (pA 2), .ref (pA 3), .ref (pA 4), .ref (pA 5), .ref (pA 6), .ref (pA 7), .ref (pA 8), .ref (pA 9), .ref (pA 10), .int (nI T), .int (nI Ac)], ia (pA 5) (pK 5) 7 (fun i => nI ((pg 5) i))]) hP hD rfl hS hA [0, 1, 2, 3, 4, 5, 6] (by decide +kernel) rfl
    have hK9 := hK.sub (tys' := []) [] rfl
    refine W.widen (k := 0) (n := 0) (by exact Nat.le_of_ble_eq_true rfl) (by exact Nat.le_of_ble_eq_true rfl) ?_
    exact W.vret hx hb hr (fun t9 ht9 hW => ⟨⟨(), rfl, trivial, by rw [ht9]; exact hP9, va_K.moved hW.alike hK9, hD9⟩, hS.F ht9⟩) hS.2.2 d_GraphSearch_noteReader_57
  · skip
    rw [mN_s e0]
    refine lv_istore_n (lv' := [(2, .int (nI (fm a - 1))), (0, .ref xa), (1, .int (nI a))]) hx hb d_GraphSearch_noteReader_6 rfl hl (by decide) rfl ?_
    clear hl ls
    intro ls hl
    refine lv_iload_n hx hb d_GraphSearch_noteReader_7 rfl (lv_at hl 0 rfl) ?_
    refine lv_if_le (tgt := 37) hx hb d_GraphSearch_noteReader_8 (by decide) (fun c1 => ?_) (fun c1 => ?_)
    · skip
      have hc1 : fm a - 1 ≤ 0 := (nI_leI (a := fm a - 1) (b := 0) (by omega) (by omega)).mp c1
      have n1 : ¬ 1 < fm a := by omega
      refine tp_pc (pc' := 37) (by rfl) ?_
      refine lv_aload_n hx hb d_GraphSearch_noteReader_37 rfl (lv_at hl 1 rfl) ?_
      refine va_get (D := (dC, dI)) (ci := 6) (v := .ref (xA 7)) (C := R_GraphSearch) (T := F_GraphSearch) (N := 17) hx hb hw i_GraphSearch hown hK hP 0 rfl rfl 9 (by decide) (hw _ m_328) (fun _ h9 => h9) rfl d_GraphSearch_noteReader_38 ?_
      refine lv_aload_n hx hb d_GraphSearch_noteReader_41 rfl (lv_at hl 1 rfl) ?_
      refine va_get (D := (dC, dI)) (ci := 6) (v := .ref pa) (C := R_GraphSearch) (T := F_GraphSearch) (N := 17) hx hb hw i_GraphSearch hown hK hP 0 rfl rfl 0 (by decide) (hw _ m_319) (fun _ h9 => h9) rfl d_GraphSearch_noteReader_42 ?_
      refine va_get (D := (dC, dI)) (ci := 0) (v := .ref (pA 5)) (C := R_Program) (T := F_Program) (N := 13) hx hb hw i_Program hown hK hP 5 rfl rfl 5 (by decide) (hw _ m_144) (fun _ h9 => h9) rfl d_GraphSearch_noteReader_45 ?_
      refine lv_iload_n hx hb d_GraphSearch_noteReader_48 rfl (lv_at hl 2 rfl) ?_
      refine va_iald (D := (dC, dI)) hx hb hK hP 6 4 rfl rfl (i := nI a) (pk_in a 7 (by omega)) d_GraphSearch_noteReader_49 ?_
      refine tp_i (y := nI ((pg 5) a)) (by rw [show (nI a : Int32).toNatClampNeg = a from pk_cl a]) ?_
      refine lv_dup2_11 hx hb d_GraphSearch_noteReader_50 rfl rfl ?_
      refine va_iald (D := (dC, dI)) hx hb hK hP 3 2 rfl rfl (i := nI ((pg 5) a)) (pk_in ((pg 5) a) 4 (by omega)) d_GraphSearch_noteReader_51 ?_
      refine tp_i (y := nI ((sc 7) ((pg 5) a))) (by rw [show (nI ((pg 5) a) : Int32).toNatClampNeg = (pg 5) a from pk_cl ((pg 5) a)]) ?_
      refine lv_iconst (v := 1) hx hb d_GraphSearch_noteReader_52 (by decide) ?_
      refine lv_iload_n hx hb d_GraphSearch_noteReader_53 rfl (lv_at hl 2 rfl) ?_
      refine lv_ishl hx hb d_GraphSearch_noteReader_54 ?_
      refine tp_i (y := 1 <<< ((nI a) &&& 31)) rfl ?_
      refine lv_ior hx hb d_GraphSearch_noteReader_55 ?_
      refine tp_i (y := (nI ((sc 7) ((pg 5) a))) ||| (1 <<< ((nI a) &&& 31))) rfl ?_
      refine tp_i (y := nI (sc 7 (pg 5 a) ||| 2 ^ a)) (set_eq _ (h7 _) a ha) ?_
      refine va_iast (D := (dC, dI)) hx hb hK hP (dd_D hD rfl) hS 3 2 rfl rfl (i := nI ((pg 5) a)) (x := nI (sc 7 (pg 5 a) ||| 2 ^ a)) (pk_in ((pg 5) a) 4 (by omega)) d_GraphSearch_noteReader_56 ?_
      clear hP hS
      intro H locs hP _ hS
      rw [show (nI ((pg 5) a) : Int32).toNatClampNeg = (pg 5) a from pk_cl ((pg 5) a)] at hP
      rw [show upd (fun i => nI ((sc 7) i)) ((pg 5) a) (nI (sc 7 (pg 5 a) ||| 2 ^ a)) = fun i => nI (updN (sc 7) ((pg 5) a) (sc 7 (pg 5 a) ||| 2 ^ a) i) from upd_nI] at hP
      replace hP : va_P (dC, dI) classes [oc xa 6 [.ref pa, .ref ga, .ref (xA 0), .ref (xA 1), .ref (xA 2), .ref (xA 3), .ref (xA 4), .ref (xA 5), .ref (xA 6), .ref (xA 7), .ref (xA 8), .ref (xA 9), .ref (xA 10), .ref (xA 11), .ref fa, .int (nI md), .int (nI mb)], ia (xA 0) (xK 0) 7 (fun i0 => mN (fm i0)), ia (xA 6) (xK 6) 8 (fun i => nI ((sc 6) i)), ia (xA 7) (xK 7) 4 (fun i => nI ((updN (sc 7) ((pg 5) a) (sc 7 (pg 5 a) ||| 2 ^ a)) i)), ia (xA 9) (xK 9) 7 (fun i => nI ((sc 9) i)), oc pa 0 [.ref (pA 0), .ref (pA 1), .ref (pA 2), .ref (pA 3), .ref (pA 4), .ref (pA 5), .ref (pA 6), .ref (pA 7), .ref (pA 8), .ref (pA 9), .ref (pA 10), .int (nI T), .int (nI Ac)], ia (pA 5) (pK 5) 7 (fun i => nI ((pg 5) i))] H := hP
      refine tp_pc (pc' := 57) (by rfl) ?_
      rw [show updN (sc 7) (pg 5 a) (sc 7 (pg 5 a) ||| 2 ^ a) = nrF pg fm a (sc 7) from by rw [nrF, if_neg n1], show (fun i => nI (sc 6 i)) = fun i => nI (nrR fm a (sc 6) i) from by rw [nrR, if_neg n1], show (fun i => nI (sc 9 i)) = fun i => nI (nrB fm a (sc 9) i) from by rw [nrB, if_neg n1]] at hP
      replace hP : va_P (dC, dI) classes [oc xa 6 [.ref pa, .ref ga, .ref (xA 0), .ref (xA 1), .ref (xA 2), .ref (xA 3), .ref (xA 4), .ref (xA 5), .ref (xA 6), .ref (xA 7), .ref (xA 8), .ref (xA 9), .ref (xA 10), .ref (xA 11), .ref fa, .int (nI md), .int (nI mb)], ia (xA 0) (xK 0) 7 (fun i0 => mN (fm i0)), ia (xA 6) (xK 6) 8 (fun i => nI ((nrR fm a (sc 6)) i)), ia (xA 7) (xK 7) 4 (fun i => nI ((nrF pg fm a (sc 7)) i)), ia (xA 9) (xK 9) 7 (fun i => nI ((nrB fm a (sc 9)) i)), oc pa 0 [.ref (pA 0), .ref (pA 1), .ref (pA 2), .ref (pA 3), .ref (pA 4), .ref (pA 5), .ref (pA 6), .ref (pA 7), .ref (pA 8), .ref (pA 9), .ref (pA 10), .int (nI T), .int (nI Ac)], ia (pA 5) (pK 5) 7 (fun i => nI ((pg 5) i))] H := hP
      obtain ⟨hP9, hD9, -⟩ := cut3 (wc := [oc xa 6 [.ref pa, .ref ga, .ref (xA 0), .ref (xA 1), .ref (xA 2), .ref (xA 3), .ref (xA 4), .ref (xA 5), .ref (xA 6), .ref (xA 7), .ref (xA 8), .ref (xA 9), .ref (xA 10), .ref (xA 11), .ref fa, .int (nI md), .int (nI mb)], ia (xA 0) (xK 0) 7 (fun i0 => mN (fm i0)), ia (xA 6) (xK 6) 8 (fun i => nI ((nrR fm a (sc 6)) i)), ia (xA 7) (xK 7) 4 (fun i => nI ((nrF pg fm a (sc 7)) i)), ia (xA 9) (xK 9) 7 (fun i => nI ((nrB fm a (sc 9)) i)), oc pa 0 [.ref (pA 0), .ref (pA 1), .ref (pA 2), .ref (pA 3), .ref (pA 4), .ref (pA 5), .ref (pA 6), .ref (pA 7), .ref (pA 8), .ref (pA 9), .ref (pA 10), .int (nI T), .int (nI Ac)], ia (pA 5) (pK 5) 7 (fun i => nI ((pg 5) i))]) hP hD rfl hS hA [0, 1, 2, 3, 4, 5, 6] (by decide +kernel) rfl
      have hK9 := hK.sub (tys' := []) [] rfl
      refine W.widen (k := 0) (n := 0) (by exact Nat.le_of_ble_eq_true rfl) (by exact Nat.le_of_ble_eq_true rfl) ?_
      exact W.vret hx hb hr (fun t9 ht9 hW => ⟨⟨(), rfl, trivial, by rw [ht9]; exact hP9, va_K.moved hW.alike hK9, hD9⟩, hS.F ht9⟩) hS.2.2 d_GraphSearch_noteReader_57
    · skip
      have hc1 : ¬ (fm a - 1 ≤ 0) := fun q9 => c1 ((nI_leI (a := fm a - 1) (b := 0) (by omega) (by omega)).mpr q9)
      have y1 : 1 < fm a := by omega
      refine tp_pc (pc' := 11) (by rfl) ?_
      refine lv_aload_n hx hb d_GraphSearch_noteReader_11 rfl (lv_at hl 1 rfl) ?_
      refine va_get (D := (dC, dI)) (ci := 6) (v := .ref (xA 6)) (C := R_GraphSearch) (T := F_GraphSearch) (N := 17) hx hb hw i_GraphSearch hown hK hP 0 rfl rfl 8 (by decide) (hw _ m_327) (fun _ h9 => h9) rfl d_GraphSearch_noteReader_12 ?_
      refine lv_iload_n hx hb d_GraphSearch_noteReader_15 rfl (lv_at hl 0 rfl) ?_
      refine lv_dup2_11 hx hb d_GraphSearch_noteReader_16 rfl rfl ?_
      refine va_iald (D := (dC, dI)) hx hb hK hP 2 1 rfl rfl (i := nI (fm a - 1)) (pk_in (fm a - 1) 8 (by omega)) d_GraphSearch_noteReader_17 ?_
      refine tp_i (y := nI ((sc 6) (fm a - 1))) (by rw [show (nI (fm a - 1) : Int32).toNatClampNeg = fm a - 1 from pk_cl (fm a - 1)]) ?_
      refine lv_iconst (v := 1) hx hb d_GraphSearch_noteReader_18 (by decide) ?_
      refine lv_iload_n hx hb d_GraphSearch_noteReader_19 rfl (lv_at hl 2 rfl) ?_
      refine lv_ishl hx hb d_GraphSearch_noteReader_20 ?_
      refine tp_i (y := 1 <<< ((nI a) &&& 31)) rfl ?_
      refine lv_ior hx hb d_GraphSearch_noteReader_21 ?_
      refine tp_i (y := (nI ((sc 6) (fm a - 1))) ||| (1 <<< ((nI a) &&& 31))) rfl ?_
      refine tp_i (y := nI (sc 6 (fm a - 1) ||| 2 ^ a)) (set_eq _ (h6 _) a ha) ?_
      refine va_iast (D := (dC, dI)) hx hb hK hP (dd_D hD rfl) hS 2 1 rfl rfl (i := nI (fm a - 1)) (x := nI (sc 6 (fm a - 1) ||| 2 ^ a)) (pk_in (fm a - 1) 8 (by omega)) d_GraphSearch_noteReader_22 ?_
      clear hP hS
      intro H locs hP _ hS
      rw [show (nI (fm a - 1) : Int32).toNatClampNeg = fm a - 1 from pk_cl (fm a - 1)] at hP
      rw [show upd (fun i => nI ((sc 6) i)) (fm a - 1) (nI (sc 6 (fm a - 1) ||| 2 ^ a)) = fun i => nI (updN (sc 6) (fm a - 1) (sc 6 (fm a - 1) ||| 2 ^ a) i) from upd_nI] at hP
      replace hP : va_P (dC, dI) classes [oc xa 6 [.ref pa, .ref ga, .ref (xA 0), .ref (xA 1), .ref (xA 2), .ref (xA 3), .ref (xA 4), .ref (xA 5), .ref (xA 6), .ref (xA 7), .ref (xA 8), .ref (xA 9), .ref (xA 10), .ref (xA 11), .ref fa, .int (nI md), .int (nI mb)], ia (xA 0) (xK 0) 7 (fun i0 => mN (fm i0)), ia (xA 6) (xK 6) 8 (fun i => nI ((updN (sc 6) (fm a - 1) (sc 6 (fm a - 1) ||| 2 ^ a)) i)), ia (xA 7) (xK 7) 4 (fun i => nI ((sc 7) i)), ia (xA 9) (xK 9) 7 (fun i => nI ((sc 9) i)), oc pa 0 [.ref (pA 0), .ref (pA 1), .ref (pA 2), .ref (pA 3), .ref (pA 4), .ref (pA 5), .ref (pA 6), .ref (pA 7), .ref (pA 8), .ref (pA 9), .ref (pA 10), .int (nI T), .int (nI Ac)], ia (pA 5) (pK 5) 7 (fun i => nI ((pg 5) i))] H := hP
      refine tp_pc (pc' := 23) (by rfl) ?_
      refine lv_aload_n hx hb d_GraphSearch_noteReader_23 rfl (lv_at hl 1 rfl) ?_
      refine va_get (D := (dC, dI)) (ci := 6) (v := .ref (xA 9)) (C := R_GraphSearch) (T := F_GraphSearch) (N := 17) hx hb hw i_GraphSearch hown hK hP 0 rfl rfl 11 (by decide) (hw _ m_330) (fun _ h9 => h9) rfl d_GraphSearch_noteReader_24 ?_
      refine lv_iload_n hx hb d_GraphSearch_noteReader_27 rfl (lv_at hl 2 rfl) ?_
      refine lv_iconst (v := 1) hx hb d_GraphSearch_noteReader_28 (by decide) ?_
      refine lv_iload_n hx hb d_GraphSearch_noteReader_29 rfl (lv_at hl 0 rfl) ?_
      refine lv_iconst (v := 1) hx hb d_GraphSearch_noteReader_30 (by decide) ?_
      refine lv_isub hx hb d_GraphSearch_noteReader_31 ?_
      refine tp_i (y := nI (fm a - 1 - 1)) (by exact pk_sub (a := fm a - 1) (b := 1) (by omega)) ?_
      refine lv_ishl hx hb d_GraphSearch_noteReader_32 ?_
      refine tp_i (y := 1 <<< ((nI (fm a - 1 - 1)) &&& 31)) rfl ?_
      refine tp_i (y := nI (2 ^ (fm a - 1 - 1))) (pow_eq _ (by omega)) ?_
      refine va_iast (D := (dC, dI)) hx hb hK hP (dd_D hD rfl) hS 4 3 rfl rfl (i := nI a) (x := nI (2 ^ (fm a - 1 - 1))) (pk_in a 7 (by omega)) d_GraphSearch_noteReader_33 ?_
      clear hP hS locs H
      intro H locs hP _ hS
      rw [show (nI a : Int32).toNatClampNeg = a from pk_cl a] at hP
      rw [show upd (fun i => nI ((sc 9) i)) a (nI (2 ^ (fm a - 1 - 1))) = fun i => nI (updN (sc 9) a (2 ^ (fm a - 1 - 1)) i) from upd_nI] at hP
      replace hP : va_P (dC, dI) classes [oc xa 6 [.ref pa, .ref ga, .ref (xA 0), .ref (xA 1), .ref (xA 2), .ref (xA 3), .ref (xA 4), .ref (xA 5), .ref (xA 6), .ref (xA 7), .ref (xA 8), .ref (xA 9), .ref (xA 10), .ref (xA 11), .ref fa, .int (nI md), .int (nI mb)], ia (xA 0) (xK 0) 7 (fun i0 => mN (fm i0)), ia (xA 6) (xK 6) 8 (fun i => nI ((updN (sc 6) (fm a - 1) (sc 6 (fm a - 1) ||| 2 ^ a)) i)), ia (xA 7) (xK 7) 4 (fun i => nI ((sc 7) i)), ia (xA 9) (xK 9) 7 (fun i => nI ((updN (sc 9) a (2 ^ (fm a - 1 - 1))) i)), oc pa 0 [.ref (pA 0), .ref (pA 1), .ref (pA 2), .ref (pA 3), .ref (pA 4), .ref (pA 5), .ref (pA 6), .ref (pA 7), .ref (pA 8), .ref (pA 9), .ref (pA 10), .int (nI T), .int (nI Ac)], ia (pA 5) (pK 5) 7 (fun i => nI ((pg 5) i))] H := hP
      refine tp_pc (pc' := 34) (by rfl) ?_
      refine lv_goto (tgt := 57) hx hb d_GraphSearch_noteReader_34 (by decide) ?_
      refine tp_pc (pc' := 57) (by rfl) ?_
      rw [show updN (sc 6) (fm a - 1) (sc 6 (fm a - 1) ||| 2 ^ a) = nrR fm a (sc 6) from by rw [nrR, if_pos y1], show updN (sc 9) a (2 ^ (fm a - 1 - 1)) = nrB fm a (sc 9) from by rw [nrB, if_pos y1], show (fun i => nI (sc 7 i)) = fun i => nI (nrF pg fm a (sc 7) i) from by rw [nrF, if_pos y1]] at hP
      replace hP : va_P (dC, dI) classes [oc xa 6 [.ref pa, .ref ga, .ref (xA 0), .ref (xA 1), .ref (xA 2), .ref (xA 3), .ref (xA 4), .ref (xA 5), .ref (xA 6), .ref (xA 7), .ref (xA 8), .ref (xA 9), .ref (xA 10), .ref (xA 11), .ref fa, .int (nI md), .int (nI mb)], ia (xA 0) (xK 0) 7 (fun i0 => mN (fm i0)), ia (xA 6) (xK 6) 8 (fun i => nI ((nrR fm a (sc 6)) i)), ia (xA 7) (xK 7) 4 (fun i => nI ((nrF pg fm a (sc 7)) i)), ia (xA 9) (xK 9) 7 (fun i => nI ((nrB fm a (sc 9)) i)), oc pa 0 [.ref (pA 0), .ref (pA 1), .ref (pA 2), .ref (pA 3), .ref (pA 4), .ref (pA 5), .ref (pA 6), .ref (pA 7), .ref (pA 8), .ref (pA 9), .ref (pA 10), .int (nI T), .int (nI Ac)], ia (pA 5) (pK 5) 7 (fun i => nI ((pg 5) i))] H := hP
      obtain ⟨hP9, hD9, -⟩ := cut3 (wc := [oc xa 6 [.ref pa, .ref ga, .ref (xA 0), .ref (xA 1), .ref (xA 2), .ref (xA 3), .ref (xA 4), .ref (xA 5), .ref (xA 6), .ref (xA 7), .ref (xA 8), .ref (xA 9), .ref (xA 10), .ref (xA 11), .ref fa, .int (nI md), .int (nI mb)], ia (xA 0) (xK 0) 7 (fun i0 => mN (fm i0)), ia (xA 6) (xK 6) 8 (fun i => nI ((nrR fm a (sc 6)) i)), ia (xA 7) (xK 7) 4 (fun i => nI ((nrF pg fm a (sc 7)) i)), ia (xA 9) (xK 9) 7 (fun i => nI ((nrB fm a (sc 9)) i)), oc pa 0 [.ref (pA 0), .ref (pA 1), .ref (pA 2), .ref (pA 3), .ref (pA 4), .ref (pA 5), .ref (pA 6), .ref (pA 7), .ref (pA 8), .ref (pA 9), .ref (pA 10), .int (nI T), .int (nI Ac)], ia (pA 5) (pK 5) 7 (fun i => nI ((pg 5) i))]) hP hD rfl hS hA [0, 1, 2, 3, 4, 5, 6] (by decide +kernel) rfl
      have hK9 := hK.sub (tys' := []) [] rfl
      refine W.widen (k := 0) (n := 0) (by exact Nat.le_of_ble_eq_true rfl) (by exact Nat.le_of_ble_eq_true rfl) ?_
      exact W.vret hx hb hr (fun t9 ht9 hW => ⟨⟨(), rfl, trivial, by rw [ht9]; exact hP9, va_K.moved hW.alike hK9, hD9⟩, hS.F ht9⟩) hS.2.2 d_GraphSearch_noteReader_57
