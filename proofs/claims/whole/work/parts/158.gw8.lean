set_option maxHeartbeats 4000000 in
set_option maxRecDepth 100000 in
theorem gen_BufferWalk_noteRaces (l : Launch) (dC : Nat → ClassId) (dI : Nat → Nat → Nat) (pa : Nat) (pA : Nat → Nat) (pK : Nat → ClassId) (T Ac : Nat) (pg : Nat → Nat → Nat) (nm : Nat → Int32) (ga g1 g2 g3 : Nat) (l1 l2 l3 : ClassId) (dn : Nat) (so : Int64) (pl : Nat → Nat) (rg vl : Nat → Int32) (ba sa b1 b2 fa : Nat) (kb2 : ClassId) (md mm hd : Nat) (rc : Nat → Nat) (hPg : PgOk T Ac pg) (hpl : ∀ t, t < T → pl t ≤ 10) (hrc : ∀ i, rc i < 128) (sz : Nat) : Met l y_BufferWalk_noteRaces w_BufferWalk_noteRaces ({ frames := 2, cells := 0, slots := 0, locals := 80 }) (va_Pc [.ref ba] (fun U => U.heap.size = sz ∧ va_P (dC, dI) classes [oc ba 4 [.ref pa, .ref ga, .ref sa, .ref b1, .ref b2, .ref fa, .int (nI md), .int (nI mm), .int (nI hd)], ia b2 kb2 7 (fun i => nI (rc i)), oc ga 1 [.ref pa, .ref g1, .ref g2, .ref g3, .int (nI dn), .long so], ia g1 l1 4 (fun i => nI (pl i)), oc pa 0 [.ref (pA 0), .ref (pA 1), .ref (pA 2), .ref (pA 3), .ref (pA 4), .ref (pA 5), .ref (pA 6), .ref (pA 7), .ref (pA 8), .ref (pA 9), .ref (pA 10), .int (nI T), .int (nI Ac)], ia (pA 0) (pK 0) 4 (fun i => nI ((pg 0) i)), ia (pA 1) (pK 1) 28 (fun i => nI ((pg 1) i)), ia (pA 2) (pK 2) 7 (fun i => nI ((pg 2) i)), ia (pA 4) (pK 4) 7 (fun i => nI ((pg 4) i)), ia (pA 5) (pK 5) 7 (fun i => nI ((pg 5) i)), ia (pA 8) (pK 8) 4 (fun i => nI ((pg 8) i)), ia (pA 9) (pK 9) 6 (fun i => nI ((pg 9) i)), ia (pA 10) (pK 10) 3 (fun i => nI ((pg 10) i))] U.heap ∧ va_K (dC, dI) classes [(kb2, .int), (l1, .int), ((pK 0), .int), ((pK 1), .int), ((pK 2), .int), ((pK 4), .int), ((pK 5), .int), ((pK 8), .int), ((pK 9), .int), ((pK 10), .int)] U ∧ va_D (fun _ => True) [oc ba 4 [.ref pa, .ref ga, .ref sa, .ref b1, .ref b2, .ref fa, .int (nI md), .int (nI mm), .int (nI hd)], ia b2 kb2 7 (fun i => nI (rc i)), oc ga 1 [.ref pa, .ref g1, .ref g2, .ref g3, .int (nI dn), .long so], ia g1 l1 4 (fun i => nI (pl i)), oc pa 0 [.ref (pA 0), .ref (pA 1), .ref (pA 2), .ref (pA 3), .ref (pA 4), .ref (pA 5), .ref (pA 6), .ref (pA 7), .ref (pA 8), .ref (pA 9), .ref (pA 10), .int (nI T), .int (nI Ac)], ia (pA 0) (pK 0) 4 (fun i => nI ((pg 0) i)), ia (pA 1) (pK 1) 28 (fun i => nI ((pg 1) i)), ia (pA 2) (pK 2) 7 (fun i => nI ((pg 2) i)), ia (pA 4) (pK 4) 7 (fun i => nI ((pg 4) i)), ia (pA 5) (pK 5) 7 (fun i => nI ((pg 5) i)), ia (pA 8) (pK 8) 4 (fun i => nI ((pg 8) i)), ia (pA 9) (pK 9) 6 (fun i => nI ((pg 9) i)), ia (pA 10) (pK 10) 3 (fun i => nI ((pg 10) i))] ∧ nw U)) (va_Qv (fun _ : Unit => True) (fun _ t9 => va_P (dC, dI) classes [oc ba 4 [.ref pa, .ref ga, .ref sa, .ref b1, .ref b2, .ref fa, .int (nI md), .int (nI mm), .int (nI hd)], ia b2 kb2 7 (fun i => nI ((rcN pg (nxM pg pl T) rc Ac) i)), oc ga 1 [.ref pa, .ref g1, .ref g2, .ref g3, .int (nI dn), .long so], ia g1 l1 4 (fun i => nI (pl i)), oc pa 0 [.ref (pA 0), .ref (pA 1), .ref (pA 2), .ref (pA 3), .ref (pA 4), .ref (pA 5), .ref (pA 6), .ref (pA 7), .ref (pA 8), .ref (pA 9), .ref (pA 10), .int (nI T), .int (nI Ac)], ia (pA 0) (pK 0) 4 (fun i => nI ((pg 0) i)), ia (pA 1) (pK 1) 28 (fun i => nI ((pg 1) i)), ia (pA 2) (pK 2) 7 (fun i => nI ((pg 2) i)), ia (pA 4) (pK 4) 7 (fun i => nI ((pg 4) i)), ia (pA 5) (pK 5) 7 (fun i => nI ((pg 5) i)), ia (pA 8) (pK 8) 4 (fun i => nI ((pg 8) i)), ia (pA 9) (pK 9) 6 (fun i => nI ((pg 9) i)), ia (pA 10) (pK 10) 3 (fun i => nI ((pg 10) i))] t9.heap ∧ va_K (dC, dI) classes [] t9 ∧ va_D (va_A [oc ba 4 [.ref pa, .ref ga, .ref sa, .ref b1, .ref b2, .ref fa, .int (nI md), .int (nI mm), .int (nI hd)], ia b2 kb2 7 (fun i => nI (rc i)), oc ga 1 [.ref pa, .ref g1, .ref g2, .ref g3, .int (nI dn), .long so], ia g1 l1 4 (fun i => nI (pl i)), oc pa 0 [.ref (pA 0), .ref (pA 1), .ref (pA 2), .ref (pA 3), .ref (pA 4), .ref (pA 5), .ref (pA 6), .ref (pA 7), .ref (pA 8), .ref (pA 9), .ref (pA 10), .int (nI T), .int (nI Ac)], ia (pA 0) (pK 0) 4 (fun i => nI ((pg 0) i)), ia (pA 1) (pK 1) 28 (fun i => nI ((pg 1) i)), ia (pA 2) (pK 2) 7 (fun i => nI ((pg 2) i)), ia (pA 4) (pK 4) 7 (fun i => nI ((pg 4) i)), ia (pA 5) (pK 5) 7 (fun i => nI ((pg 5) i)), ia (pA 8) (pK 8) 4 (fun i => nI ((pg 8) i)), ia (pA 9) (pK 9) 6 (fun i => nI ((pg 9) i)), ia (pA 10) (pK 10) 3 (fun i => nI ((pg 10) i))] sz) [oc ba 4 [.ref pa, .ref ga, .ref sa, .ref b1, .ref b2, .ref fa, .int (nI md), .int (nI mm), .int (nI hd)], ia b2 kb2 7 (fun i => nI ((rcN pg (nxM pg pl T) rc Ac) i)), oc ga 1 [.ref pa, .ref g1, .ref g2, .ref g3, .int (nI dn), .long so], ia g1 l1 4 (fun i => nI (pl i)), oc pa 0 [.ref (pA 0), .ref (pA 1), .ref (pA 2), .ref (pA 3), .ref (pA 4), .ref (pA 5), .ref (pA 6), .ref (pA 7), .ref (pA 8), .ref (pA 9), .ref (pA 10), .int (nI T), .int (nI Ac)], ia (pA 0) (pK 0) 4 (fun i => nI ((pg 0) i)), ia (pA 1) (pK 1) 28 (fun i => nI ((pg 1) i)), ia (pA 2) (pK 2) 7 (fun i => nI ((pg 2) i)), ia (pA 4) (pK 4) 7 (fun i => nI ((pg 4) i)), ia (pA 5) (pK 5) 7 (fun i => nI ((pg 5) i)), ia (pA 8) (pK 8) 4 (fun i => nI ((pg 8) i)), ia (pA 9) (pK 9) 6 (fun i => nI ((pg 9) i)), ia (pA 10) (pK 10) 3 (fun i => nI ((pg 10) i))]) (va_A [oc ba 4 [.ref pa, .ref ga, .ref sa, .ref b1, .ref b2, .ref fa, .int (nI md), .int (nI mm), .int (nI hd)], ia b2 kb2 7 (fun i => nI (rc i)), oc ga 1 [.ref pa, .ref g1, .ref g2, .ref g3, .int (nI dn), .long so], ia g1 l1 4 (fun i => nI (pl i)), oc pa 0 [.ref (pA 0), .ref (pA 1), .ref (pA 2), .ref (pA 3), .ref (pA 4), .ref (pA 5), .ref (pA 6), .ref (pA 7), .ref (pA 8), .ref (pA 9), .ref (pA 10), .int (nI T), .int (nI Ac)], ia (pA 0) (pK 0) 4 (fun i => nI ((pg 0) i)), ia (pA 1) (pK 1) 28 (fun i => nI ((pg 1) i)), ia (pA 2) (pK 2) 7 (fun i => nI ((pg 2) i)), ia (pA 4) (pK 4) 7 (fun i => nI ((pg 4) i)), ia (pA 5) (pK 5) 7 (fun i => nI ((pg 5) i)), ia (pA 8) (pK 8) 4 (fun i => nI ((pg 8) i)), ia (pA 9) (pK 9) 6 (fun i => nI ((pg 9) i)), ia (pA 10) (pK 10) 3 (fun i => nI ((pg 10) i))] sz)) 0 0 (va_A [oc ba 4 [.ref pa, .ref ga, .ref sa, .ref b1, .ref b2, .ref fa, .int (nI md), .int (nI mm), .int (nI hd)], ia b2 kb2 7 (fun i => nI (rc i)), oc ga 1 [.ref pa, .ref g1, .ref g2, .ref g3, .int (nI dn), .long so], ia g1 l1 4 (fun i => nI (pl i)), oc pa 0 [.ref (pA 0), .ref (pA 1), .ref (pA 2), .ref (pA 3), .ref (pA 4), .ref (pA 5), .ref (pA 6), .ref (pA 7), .ref (pA 8), .ref (pA 9), .ref (pA 10), .int (nI T), .int (nI Ac)], ia (pA 0) (pK 0) 4 (fun i => nI ((pg 0) i)), ia (pA 1) (pK 1) 28 (fun i => nI ((pg 1) i)), ia (pA 2) (pK 2) 7 (fun i => nI ((pg 2) i)), ia (pA 4) (pK 4) 7 (fun i => nI ((pg 4) i)), ia (pA 5) (pK 5) 7 (fun i => nI ((pg 5) i)), ia (pA 8) (pK 8) 4 (fun i => nI ((pg 8) i)), ia (pA 9) (pK 9) 6 (fun i => nI ((pg 9) i)), ia (pA 10) (pK 10) 3 (fun i => nI ((pg 10) i))] sz) := by
  refine Met.ofW (cc := b_BufferWalk_noteRaces) (maxL := 4) (ret := none) (by decide) rfl ?_
  intro p e0 s m args below meth c s₁ B hml hv
  obtain ⟨rfl, hsz, hP, hK, hD0, hn⟩ := hv
  have hx := B.exec
  have hb := B.bytes
  have hr := B.returns
  have hw := fun w (h : w ∈ wt) => atoms_spec (ws := w_BufferWalk_noteRaces) B.pre w (List.mem_cons_of_mem _ h)
  have hown : s.vm.findClass R_BufferWalk = some m.cls := findClass_of_methodNamed B.named
  have hlocks := B.notSynchronized
  subst hsz
  have hD1 := hD0.self (sz := s.heap.size)
  generalize hAe : va_A [oc ba 4 [.ref pa, .ref ga, .ref sa, .ref b1, .ref b2, .ref fa, .int (nI md), .int (nI mm), .int (nI hd)], ia b2 kb2 7 (fun i => nI (rc i)), oc ga 1 [.ref pa, .ref g1, .ref g2, .ref g3, .int (nI dn), .long so], ia g1 l1 4 (fun i => nI (pl i)), oc pa 0 [.ref (pA 0), .ref (pA 1), .ref (pA 2), .ref (pA 3), .ref (pA 4), .ref (pA 5), .ref (pA 6), .ref (pA 7), .ref (pA 8), .ref (pA 9), .ref (pA 10), .int (nI T), .int (nI Ac)], ia (pA 0) (pK 0) 4 (fun i => nI ((pg 0) i)), ia (pA 1) (pK 1) 28 (fun i => nI ((pg 1) i)), ia (pA 2) (pK 2) 7 (fun i => nI ((pg 2) i)), ia (pA 4) (pK 4) 7 (fun i => nI ((pg 4) i)), ia (pA 5) (pK 5) 7 (fun i => nI ((pg 5) i)), ia (pA 8) (pK 8) 4 (fun i => nI ((pg 8) i)), ia (pA 9) (pK 9) 6 (fun i => nI ((pg 9) i)), ia (pA 10) (pK 10) 3 (fun i => nI ((pg 10) i))] s.heap.size = A at hD1 ⊢
  have hA : ∀ q : Nat, s.heap.size ≤ q → A q := fun q h => by rw [← hAe]; exact Or.inr h
  have hD : dd A [ba, b2, ga, g1, pa, (pA 0), (pA 1), (pA 2), (pA 4), (pA 5), (pA 8), (pA 9), (pA 10)] := dd_of hD1 rfl
  clear hAe hD0 hD1
  have hS : va_S A s.heap s.heap [] := va_S.rf
  replace hP : va_P (dC, dI) classes [oc ba 4 [.ref pa, .ref ga, .ref sa, .ref b1, .ref b2, .ref fa, .int (nI md), .int (nI mm), .int (nI hd)], ia b2 kb2 7 (fun i => nI (rc i)), oc ga 1 [.ref pa, .ref g1, .ref g2, .ref g3, .int (nI dn), .long so], ia g1 l1 4 (fun i => nI (pl i)), oc pa 0 [.ref (pA 0), .ref (pA 1), .ref (pA 2), .ref (pA 3), .ref (pA 4), .ref (pA 5), .ref (pA 6), .ref (pA 7), .ref (pA 8), .ref (pA 9), .ref (pA 10), .int (nI T), .int (nI Ac)], ia (pA 0) (pK 0) 4 (fun i => nI ((pg 0) i)), ia (pA 1) (pK 1) 28 (fun i => nI ((pg 1) i)), ia (pA 2) (pK 2) 7 (fun i => nI ((pg 2) i)), ia (pA 4) (pK 4) 7 (fun i => nI ((pg 4) i)), ia (pA 5) (pK 5) 7 (fun i => nI ((pg 5) i)), ia (pA 8) (pK 8) 4 (fun i => nI ((pg 8) i)), ia (pA 9) (pK 9) 6 (fun i => nI ((pg 9) i)), ia (pA 10) (pK 10) 3 (fun i => nI ((pg 10) i))] s.heap := hP
  have hl := lv_entry ([.ref ba]) (n := 4) (Nat.le_of_ble_eq_true rfl)
  rw [lg_entry_eq]
  generalize (lg_sl ([.ref ba]) ++ List.replicate (4 - (lg_sl ([.ref ba])).length) Slot.unset).toArray = ls at hl ⊢
  replace hl : lv_has ls 4 [(0, .ref ba)] := hl
  have hPg3 := hPg
  obtain ⟨p1, p2, p3, p4, p5, p6, p7, p8, p9, p10, p11⟩ := hPg3
  have nx8 : ∀ n, n ≤ T → nxM pg pl n < 128 := nxM_lt hPg
  refine lv_iconst (v := 0) hx hb d_BufferWalk_noteRaces_0 (by decide) ?_
  refine lv_istore_n (lv' := [(1, .int 0), (0, .ref ba)]) hx hb d_BufferWalk_noteRaces_1 rfl hl (by decide) rfl ?_
  clear hl ls
  intro ls hl
  refine lv_iconst (v := 0) hx hb d_BufferWalk_noteRaces_2 (by decide) ?_
  refine lv_istore_n (lv' := [(2, .int 0), (1, .int 0), (0, .ref ba)]) hx hb d_BufferWalk_noteRaces_3 rfl hl (by decide) rfl ?_
  clear hl ls
  intro ls hl
  replace hl : lv_has ls 4 [(2, .int (nI 0)), (1, .int (nI (nxM pg pl 0))), (0, .ref ba)] := hl
  refine lp_n T (fun i H locs ls => va_P (dC, dI) classes [oc ba 4 [.ref pa, .ref ga, .ref sa, .ref b1, .ref b2, .ref fa, .int (nI md), .int (nI mm), .int (nI hd)], ia b2 kb2 7 (fun i => nI (rc i)), oc ga 1 [.ref pa, .ref g1, .ref g2, .ref g3, .int (nI dn), .long so], ia g1 l1 4 (fun i => nI (pl i)), oc pa 0 [.ref (pA 0), .ref (pA 1), .ref (pA 2), .ref (pA 3), .ref (pA 4), .ref (pA 5), .ref (pA 6), .ref (pA 7), .ref (pA 8), .ref (pA 9), .ref (pA 10), .int (nI T), .int (nI Ac)], ia (pA 0) (pK 0) 4 (fun i => nI ((pg 0) i)), ia (pA 1) (pK 1) 28 (fun i => nI ((pg 1) i)), ia (pA 2) (pK 2) 7 (fun i => nI ((pg 2) i)), ia (pA 4) (pK 4) 7 (fun i => nI ((pg 4) i)), ia (pA 5) (pK 5) 7 (fun i => nI ((pg 5) i)), ia (pA 8) (pK 8) 4 (fun i => nI ((pg 8) i)), ia (pA 9) (pK 9) 6 (fun i => nI ((pg 9) i)), ia (pA 10) (pK 10) 3 (fun i => nI ((pg 10) i))] H ∧ va_S A s.heap H locs ∧ lv_has ls 4 [(2, .int (nI i)), (1, .int (nI (nxM pg pl i))), (0, .ref ba)]) ⟨hP, hS, hl⟩ ?_ ?_
  · intro i H locs ls hi hI ih
    obtain ⟨hP, hS, hl⟩ := hI
    have ni8 := nx8 i (by omega)
    refine lv_iload_n hx hb d_BufferWalk_noteRaces_4 rfl (lv_at hl 0 rfl) ?_
    refine lv_aload_n hx hb d_BufferWalk_noteRaces_5 rfl (lv_at hl 2 rfl) ?_
    refine va_get (D := (dC, dI)) (ci := 4) (v := .ref pa) (C := R_BufferWalk) (T := F_BufferWalk) (N := 9) hx hb hw i_BufferWalk hown hK hP 0 rfl rfl 0 (by decide) (hw _ m_250) (fun _ h9 => h9) rfl d_BufferWalk_noteRaces_6 ?_
    refine va_get (D := (dC, dI)) (ci := 0) (v := .int (nI T)) (C := R_Program) (T := F_Program) (N := 13) hx hb hw i_Program hown hK hP 4 rfl rfl 11 (by decide) (hw _ m_162) (fun _ h9 => h9) rfl d_BufferWalk_noteRaces_9 ?_
    refine lv_icmp_ge (tgt := 45) hx hb d_BufferWalk_noteRaces_12 (by decide) (fun c9 => absurd c9 (nI_ge hi (by omega))) (fun c9 => ?_)
    refine tp_pc (pc' := 15) (by rfl) ?_
    refine lv_aload_n hx hb d_BufferWalk_noteRaces_15 rfl (lv_at hl 2 rfl) ?_
    refine va_get (D := (dC, dI)) (ci := 4) (v := .ref ga) (C := R_BufferWalk) (T := F_BufferWalk) (N := 9) hx hb hw i_BufferWalk hown hK hP 0 rfl rfl 1 (by decide) (hw _ m_251) (fun _ h9 => h9) rfl d_BufferWalk_noteRaces_16 ?_
    refine lv_iload_n hx hb d_BufferWalk_noteRaces_19 rfl (lv_at hl 0 rfl) ?_
    obtain ⟨hPc, hDc, hFc⟩ := cut3 (wc := [oc ga 1 [.ref pa, .ref g1, .ref g2, .ref g3, .int (nI dn), .long so], ia g1 l1 4 (fun i => nI (pl i)), oc pa 0 [.ref (pA 0), .ref (pA 1), .ref (pA 2), .ref (pA 3), .ref (pA 4), .ref (pA 5), .ref (pA 6), .ref (pA 7), .ref (pA 8), .ref (pA 9), .ref (pA 10), .int (nI T), .int (nI Ac)], ia (pA 0) (pK 0) 4 (fun i => nI ((pg 0) i)), ia (pA 1) (pK 1) 28 (fun i => nI ((pg 1) i))]) hP hD rfl hS hA [2, 3, 4, 5, 6] (by decide +kernel) rfl
    have hKc := hK.sub (tys' := [(l1, .int), ((pK 0), .int), ((pK 1), .int)]) [1, 2, 3] rfl
    refine va_calli (va_runV (As := [.int (nI i)]) (rest := []) ⟨hx, hb, hml, hown, hw⟩ (gen_Progress_next l dC dI pa pA pK T Ac pg nm ga g1 g2 g3 l1 l2 l3 dn so pl rg vl i p1 hi (by have := hpl i hi; omega) (p3 i hi) H.size) (cw_V 1 hw g_Progress_next rfl rfl rfl (hw _ m_103) (hw _ m_662) (hw _ m_536) (hw _ m_537) (by decide +kernel) ⟨Nat.le_of_ble_eq_true rfl, Nat.le_of_ble_eq_true rfl⟩) ⟨fun a U g mk q => by obtain ⟨q0, q1, qP, qK, qD, qN⟩ := q; exact ⟨q0, q1, qP, va_K.moved (u := U) (U := U.calling g mk a) (Vm.Alike.refl U.vm) qK, qD, nw_call qN⟩, va_recv hKc hPc (ci := 1) (q0 := 0) rfl rfl, fun U hU hW => ⟨rfl, by rw [hU], by rw [hU]; exact hPc, va_K.moved hW.alike hKc, hDc.weaken (fun _ _ _ _ => trivial), nw_warm hW hn⟩⟩ rfl rfl hl.1 rfl (lv_room (Nat.le_of_ble_eq_true rfl)) d_BufferWalk_noteRaces_20 ⟨Nat.le_of_ble_eq_true rfl, Nat.le_of_ble_eq_true rfl⟩) hS (fun q _ h => hFc q h) hFc ?_
    intro r_1 u t9 H1 locs1 ht9 hvm hw1 hB hz1 hk1 hS1
    obtain ⟨hP1, hK1, hD1⟩ := hB
    rw [ht9] at hP1
    replace hK1 := va_K.moved hvm.symm hK1
    have hPD := join3 hP hD rfl [2, 3, 4, 5, 6] [0, 1, 7, 8, 9, 10, 11, 12] rfl (by rfl) (by decide +kernel) (by decide +kernel) hk1 hFc hP1 hD1
    replace hK : va_K (dC, dI) classes [(kb2, .int), (l1, .int), ((pK 0), .int), ((pK 1), .int), ((pK 2), .int), ((pK 4), .int), ((pK 5), .int), ((pK 8), .int), ((pK 9), .int), ((pK 10), .int)] s := hK.app hK1
    clear hP1 hK1 hD1 hk1 hz1 hFc hKc hDc hPc hvm ht9 hP hS t9 locs H
    have hP : va_P (dC, dI) classes [oc ba 4 [.ref pa, .ref ga, .ref sa, .ref b1, .ref b2, .ref fa, .int (nI md), .int (nI mm), .int (nI hd)], ia b2 kb2 7 (fun i => nI (rc i)), ia (pA 2) (pK 2) 7 (fun i => nI ((pg 2) i)), ia (pA 4) (pK 4) 7 (fun i => nI ((pg 4) i)), ia (pA 5) (pK 5) 7 (fun i => nI ((pg 5) i)), ia (pA 8) (pK 8) 4 (fun i => nI ((pg 8) i)), ia (pA 9) (pK 9) 6 (fun i => nI ((pg 9) i)), ia (pA 10) (pK 10) 3 (fun i => nI ((pg 10) i)), oc ga 1 [.ref pa, .ref g1, .ref g2, .ref g3, .int (nI dn), .long so], ia g1 l1 4 (fun i => nI (pl i)), oc pa 0 [.ref (pA 0), .ref (pA 1), .ref (pA 2), .ref (pA 3), .ref (pA 4), .ref (pA 5), .ref (pA 6), .ref (pA 7), .ref (pA 8), .ref (pA 9), .ref (pA 10), .int (nI T), .int (nI Ac)], ia (pA 0) (pK 0) 4 (fun i => nI ((pg 0) i)), ia (pA 1) (pK 1) 28 (fun i => nI ((pg 1) i))] H1 := hPD.1
    replace hD : dd A [ba, b2, (pA 2), (pA 4), (pA 5), (pA 8), (pA 9), (pA 10), ga, g1, pa, (pA 0), (pA 1)] := dd_of hPD.2 rfl
    clear hPD
    revert H1 locs1
    intro H locs hS hP
    rcases hw1 with ⟨hq1, hr1⟩ | ⟨hq1, hr1⟩
    · skip
      subst hr1
      obtain ⟨a, ha⟩ : ∃ a, a = pg 1 (i * 7 + pl i) := ⟨_, rfl⟩
      rw [← ha]
      have a7 : a < 7 := by have := (p4 i _ hi hq1).1; omega
      refine tp_pc (pc' := 23) (by rfl) ?_
      refine lv_istore_n (lv' := [(3, .int (nI a)), (2, .int (nI i)), (1, .int (nI (nxM pg pl i))), (0, .ref ba)]) hx hb d_BufferWalk_noteRaces_23 rfl hl (by decide) rfl ?_
      clear hl ls
      intro ls hl
      refine lv_iload_n hx hb d_BufferWalk_noteRaces_24 rfl (lv_at hl 2 rfl) ?_
      refine lv_iload_n hx hb d_BufferWalk_noteRaces_25 rfl (lv_at hl 0 rfl) ?_
      refine lv_iconst (v := (-1)) hx hb d_BufferWalk_noteRaces_26 (by decide) ?_
      refine lv_icmp_ne (tgt := 34) hx hb d_BufferWalk_noteRaces_27 (by decide) (fun c9 => ?_) (fun c9 => absurd c9 (nI_m1 a (by omega)))
      refine tp_pc (pc' := 34) (by rfl) ?_
      refine lv_iconst (v := 1) hx hb d_BufferWalk_noteRaces_34 (by decide) ?_
      refine lv_iload_n hx hb d_BufferWalk_noteRaces_35 rfl (lv_at hl 0 rfl) ?_
      refine lv_ishl hx hb d_BufferWalk_noteRaces_36 ?_
      refine tp_i (y := 1 <<< ((nI a) &&& 31)) rfl ?_
      refine lv_ior hx hb d_BufferWalk_noteRaces_37 ?_
      refine tp_i (y := (nI (nxM pg pl i)) ||| (1 <<< ((nI a) &&& 31))) rfl ?_
      refine tp_i (y := nI (nxM pg pl (i + 1))) (by rw [nxM, if_pos hq1, ← ha]; exact set_eq _ ni8 a a7) ?_
      refine lv_istore_n (lv' := [(1, .int (nI (nxM pg pl (i + 1)))), (3, .int (nI a)), (2, .int (nI i)), (0, .ref ba)]) hx hb d_BufferWalk_noteRaces_38 rfl hl (by decide) rfl ?_
      clear hl ls
      intro ls hl
      refine lv_iinc (v := nI (i + 1)) (lv' := [(2, .int (nI (i + 1))), (1, .int (nI (nxM pg pl (i + 1)))), (3, .int (nI a)), (0, .ref ba)]) hx hb d_BufferWalk_noteRaces_39 hl (k := 2) rfl (by exact nI_1 i) (by decide) rfl ?_
      clear hl ls
      intro ls hl
      refine lv_goto (tgt := 4) hx hb d_BufferWalk_noteRaces_42 (by decide) ?_
      refine tp_pc (pc' := 4) (by rfl) ?_
      obtain ⟨hP8, -, -⟩ := cut3 (wc := [oc ba 4 [.ref pa, .ref ga, .ref sa, .ref b1, .ref b2, .ref fa, .int (nI md), .int (nI mm), .int (nI hd)], ia b2 kb2 7 (fun i => nI (rc i)), oc ga 1 [.ref pa, .ref g1, .ref g2, .ref g3, .int (nI dn), .long so], ia g1 l1 4 (fun i => nI (pl i)), oc pa 0 [.ref (pA 0), .ref (pA 1), .ref (pA 2), .ref (pA 3), .ref (pA 4), .ref (pA 5), .ref (pA 6), .ref (pA 7), .ref (pA 8), .ref (pA 9), .ref (pA 10), .int (nI T), .int (nI Ac)], ia (pA 0) (pK 0) 4 (fun i => nI ((pg 0) i)), ia (pA 1) (pK 1) 28 (fun i => nI ((pg 1) i)), ia (pA 2) (pK 2) 7 (fun i => nI ((pg 2) i)), ia (pA 4) (pK 4) 7 (fun i => nI ((pg 4) i)), ia (pA 5) (pK 5) 7 (fun i => nI ((pg 5) i)), ia (pA 8) (pK 8) 4 (fun i => nI ((pg 8) i)), ia (pA 9) (pK 9) 6 (fun i => nI ((pg 9) i)), ia (pA 10) (pK 10) 3 (fun i => nI ((pg 10) i))]) hP hD rfl hS hA [0, 1, 8, 9, 10, 11, 12, 2, 3, 4, 5, 6, 7] (by decide +kernel) rfl
      exact ih _ _ _ ⟨hP8, hS, lv_sub hl [0, 1, 3] rfl⟩
    · skip
      subst hr1
      refine tp_pc (pc' := 23) (by rfl) ?_
      refine lv_istore_n (lv' := [(3, .int (-1)), (2, .int (nI i)), (1, .int (nI (nxM pg pl i))), (0, .ref ba)]) hx hb d_BufferWalk_noteRaces_23 rfl hl (by decide) rfl ?_
      clear hl ls
      intro ls hl
      refine lv_iload_n hx hb d_BufferWalk_noteRaces_24 rfl (lv_at hl 2 rfl) ?_
      refine lv_iload_n hx hb d_BufferWalk_noteRaces_25 rfl (lv_at hl 0 rfl) ?_
      refine lv_iconst (v := (-1)) hx hb d_BufferWalk_noteRaces_26 (by decide) ?_
      refine lv_icmp_ne (tgt := 34) hx hb d_BufferWalk_noteRaces_27 (by decide) (fun c_2 => absurd c_2 (by decide)) (fun c_2 => ?_)
      refine tp_pc (pc' := 30) (by rfl) ?_
      refine lv_iconst (v := 0) hx hb d_BufferWalk_noteRaces_30 (by decide) ?_
      refine lv_goto (tgt := 37) hx hb d_BufferWalk_noteRaces_31 (by decide) ?_
      refine tp_pc (pc' := 37) (by rfl) ?_
      refine lv_ior hx hb d_BufferWalk_noteRaces_37 ?_
      refine tp_i (y := (nI (nxM pg pl i)) ||| 0) rfl ?_
      refine tp_i (y := nI (nxM pg pl (i + 1))) (by rw [nxM, if_neg (by omega)]; exact or_eq _ ni8 0 (by decide)) ?_
      refine lv_istore_n (lv' := [(1, .int (nI (nxM pg pl (i + 1)))), (3, .int (-1)), (2, .int (nI i)), (0, .ref ba)]) hx hb d_BufferWalk_noteRaces_38 rfl hl (by decide) rfl ?_
      clear hl ls
      intro ls hl
      refine lv_iinc (v := nI (i + 1)) (lv' := [(2, .int (nI (i + 1))), (1, .int (nI (nxM pg pl (i + 1)))), (3, .int (-1)), (0, .ref ba)]) hx hb d_BufferWalk_noteRaces_39 hl (k := 2) rfl (by exact nI_1 i) (by decide) rfl ?_
      clear hl ls
      intro ls hl
      refine lv_goto (tgt := 4) hx hb d_BufferWalk_noteRaces_42 (by decide) ?_
      refine tp_pc (pc' := 4) (by rfl) ?_
      obtain ⟨hP8, -, -⟩ := cut3 (wc := [oc ba 4 [.ref pa, .ref ga, .ref sa, .ref b1, .ref b2, .ref fa, .int (nI md), .int (nI mm), .int (nI hd)], ia b2 kb2 7 (fun i => nI (rc i)), oc ga 1 [.ref pa, .ref g1, .ref g2, .ref g3, .int (nI dn), .long so], ia g1 l1 4 (fun i => nI (pl i)), oc pa 0 [.ref (pA 0), .ref (pA 1), .ref (pA 2), .ref (pA 3), .ref (pA 4), .ref (pA 5), .ref (pA 6), .ref (pA 7), .ref (pA 8), .ref (pA 9), .ref (pA 10), .int (nI T), .int (nI Ac)], ia (pA 0) (pK 0) 4 (fun i => nI ((pg 0) i)), ia (pA 1) (pK 1) 28 (fun i => nI ((pg 1) i)), ia (pA 2) (pK 2) 7 (fun i => nI ((pg 2) i)), ia (pA 4) (pK 4) 7 (fun i => nI ((pg 4) i)), ia (pA 5) (pK 5) 7 (fun i => nI ((pg 5) i)), ia (pA 8) (pK 8) 4 (fun i => nI ((pg 8) i)), ia (pA 9) (pK 9) 6 (fun i => nI ((pg 9) i)), ia (pA 10) (pK 10) 3 (fun i => nI ((pg 10) i))]) hP hD rfl hS hA [0, 1, 8, 9, 10, 11, 12, 2, 3, 4, 5, 6, 7] (by decide +kernel) rfl
      exact ih _ _ _ ⟨hP8, hS, lv_sub hl [0, 1, 3] rfl⟩
  · intro H locs ls hI
    obtain ⟨hP, hS, hl⟩ := hI
    have M8 := nx8 T (Nat.le_refl T)
    obtain ⟨M, hM⟩ : ∃ M, M = nxM pg pl T := ⟨_, rfl⟩
    rw [← hM] at hl M8 ⊢
    refine lv_iload_n hx hb d_BufferWalk_noteRaces_4 rfl (lv_at hl 0 rfl) ?_
    refine lv_aload_n hx hb d_BufferWalk_noteRaces_5 rfl (lv_at hl 2 rfl) ?_
    refine va_get (D := (dC, dI)) (ci := 4) (v := .ref pa) (C := R_BufferWalk) (T := F_BufferWalk) (N := 9) hx hb hw i_BufferWalk hown hK hP 0 rfl rfl 0 (by decide) (hw _ m_250) (fun _ h9 => h9) rfl d_BufferWalk_noteRaces_6 ?_
    refine va_get (D := (dC, dI)) (ci := 0) (v := .int (nI T)) (C := R_Program) (T := F_Program) (N := 13) hx hb hw i_Program hown hK hP 4 rfl rfl 11 (by decide) (hw _ m_162) (fun _ h9 => h9) rfl d_BufferWalk_noteRaces_9 ?_
    refine lv_icmp_ge (tgt := 45) hx hb d_BufferWalk_noteRaces_12 (by decide) (fun c9 => ?_) (fun c9 => absurd (nI_le (Nat.le_refl _) (by omega)) c9)
    refine tp_pc (pc' := 45) (by rfl) ?_
    refine lv_iconst (v := 0) hx hb d_BufferWalk_noteRaces_45 (by decide) ?_
    refine lv_istore_n (lv' := [(2, .int 0), (1, .int (nI M)), (0, .ref ba)]) hx hb d_BufferWalk_noteRaces_46 rfl hl (by decide) rfl ?_
    clear hl ls
    intro ls hl
    replace hl : lv_has ls 4 [(2, .int (nI 0)), (1, .int (nI M)), (0, .ref ba)] := hl
    refine lp_n Ac (fun k0 H locs ls => va_P (dC, dI) classes [oc ba 4 [.ref pa, .ref ga, .ref sa, .ref b1, .ref b2, .ref fa, .int (nI md), .int (nI mm), .int (nI hd)], ia b2 kb2 7 (fun i => nI ((rcN pg M rc k0) i)), oc ga 1 [.ref pa, .ref g1, .ref g2, .ref g3, .int (nI dn), .long so], ia g1 l1 4 (fun i => nI (pl i)), oc pa 0 [.ref (pA 0), .ref (pA 1), .ref (pA 2), .ref (pA 3), .ref (pA 4), .ref (pA 5), .ref (pA 6), .ref (pA 7), .ref (pA 8), .ref (pA 9), .ref (pA 10), .int (nI T), .int (nI Ac)], ia (pA 0) (pK 0) 4 (fun i => nI ((pg 0) i)), ia (pA 1) (pK 1) 28 (fun i => nI ((pg 1) i)), ia (pA 2) (pK 2) 7 (fun i => nI ((pg 2) i)), ia (pA 4) (pK 4) 7 (fun i => nI ((pg 4) i)), ia (pA 5) (pK 5) 7 (fun i => nI ((pg 5) i)), ia (pA 8) (pK 8) 4 (fun i => nI ((pg 8) i)), ia (pA 9) (pK 9) 6 (fun i => nI ((pg 9) i)), ia (pA 10) (pK 10) 3 (fun i => nI ((pg 10) i))] H ∧ va_S A s.heap H locs ∧ lv_has ls 4 [(2, .int (nI k0)), (1, .int (nI M)), (0, .ref ba)]) ⟨hP, hS, hl⟩ ?_ ?_
    · intro k0 H locs ls hi hI ih
      obtain ⟨hP, hS, hl⟩ := hI
      obtain ⟨k1, k2, k3, k4, k5, k6⟩ := p5 k0 hi
      obtain ⟨b9, hb9⟩ : ∃ b9, b9 = M / 2 ^ k0 % 2 := ⟨_, rfl⟩
      have hb2 : b9 < 2 := by rw [hb9]; exact Nat.mod_lt _ (by decide)
      refine lv_iload_n hx hb d_BufferWalk_noteRaces_47 rfl (lv_at hl 0 rfl) ?_
      refine lv_aload_n hx hb d_BufferWalk_noteRaces_48 rfl (lv_at hl 2 rfl) ?_
      refine va_get (D := (dC, dI)) (ci := 4) (v := .ref pa) (C := R_BufferWalk) (T := F_BufferWalk) (N := 9) hx hb hw i_BufferWalk hown hK hP 0 rfl rfl 0 (by decide) (hw _ m_250) (fun _ h9 => h9) rfl d_BufferWalk_noteRaces_49 ?_
      refine va_get (D := (dC, dI)) (ci := 0) (v := .int (nI Ac)) (C := R_Program) (T := F_Program) (N := 13) hx hb hw i_Program hown hK hP 4 rfl rfl 12 (by decide) (hw _ m_168) (fun _ h9 => h9) rfl d_BufferWalk_noteRaces_52 ?_
      refine lv_icmp_ge (tgt := 91) hx hb d_BufferWalk_noteRaces_55 (by decide) (fun c9 => absurd c9 (nI_ge hi (by omega))) (fun c9 => ?_)
      refine tp_pc (pc' := 58) (by rfl) ?_
      refine lv_iload_n hx hb d_BufferWalk_noteRaces_58 rfl (lv_at hl 1 rfl) ?_
      refine lv_iload_n hx hb d_BufferWalk_noteRaces_59 rfl (lv_at hl 0 rfl) ?_
      obtain ⟨hPc, hDc, hFc⟩ := cut3 (wc := []) hP hD rfl hS hA [] (by decide +kernel) rfl
      have hKc := hK.sub (tys' := []) [] rfl
      refine va_calli (va_runSN (As := [.int (nI M), .int (nI k0)]) (rest := []) ⟨hx, hb, hml, hown, hw⟩ (gen_isIn l dC dI M k0 (by omega) (by omega) H.size) (⟨va_cnB 2 hw g_OM_isIn rfl rfl rfl (hn.1 (R_BufferWalk, 146, y_OM_isIn, "OrderModels") (nq 2 (by rfl))) (hw _ m_101) (by decide +kernel) ⟨Nat.le_of_ble_eq_true rfl, Nat.le_of_ble_eq_true rfl⟩, hw _ m_560, trivial⟩) ⟨fun a U g mk q => by obtain ⟨q0, q1, qP, qK, qD, qN⟩ := q; exact ⟨q0, q1, qP, va_K.moved (u := U) (U := U.calling g mk a) (Vm.Alike.refl U.vm) qK, qD, nw_call qN⟩, fun U hU hW => ⟨rfl, by rw [hU], by rw [hU]; exact hPc, va_K.moved hW.alike hKc, hDc.weaken (fun _ _ _ _ => trivial), nw_warm hW hn⟩⟩ rfl rfl hl.1 rfl (lv_room (Nat.le_of_ble_eq_true rfl)) d_BufferWalk_noteRaces_60 ⟨Nat.le_of_ble_eq_true rfl, Nat.le_of_ble_eq_true rfl⟩) hS (fun q _ h => hFc q h) hFc ?_
      intro r_3 u t9 H1 locs1 ht9 hvm hw1 hB hz1 hk1 hS1
      obtain ⟨hP1, hK1, hD1⟩ := hB
      rw [ht9] at hP1
      replace hK1 := va_K.moved hvm.symm hK1
      have hPD := join3 hP hD rfl [] [0, 1, 2, 3, 4, 5, 6, 7, 8, 9, 10, 11, 12] rfl (by rfl) (by decide +kernel) (by decide +kernel) hk1 hFc hP1 hD1
      replace hK : va_K (dC, dI) classes [(kb2, .int), (l1, .int), ((pK 0), .int), ((pK 1), .int), ((pK 2), .int), ((pK 4), .int), ((pK 5), .int), ((pK 8), .int), ((pK 9), .int), ((pK 10), .int)] s := hK.app hK1
      clear hP1 hK1 hD1 hk1 hz1 hFc hKc hDc hPc hvm ht9 hP hS t9 locs H
      have hP : va_P (dC, dI) classes [oc ba 4 [.ref pa, .ref ga, .ref sa, .ref b1, .ref b2, .ref fa, .int (nI md), .int (nI mm), .int (nI hd)], ia b2 kb2 7 (fun i => nI ((rcN pg M rc k0) i)), oc ga 1 [.ref pa, .ref g1, .ref g2, .ref g3, .int (nI dn), .long so], ia g1 l1 4 (fun i => nI (pl i)), oc pa 0 [.ref (pA 0), .ref (pA 1), .ref (pA 2), .ref (pA 3), .ref (pA 4), .ref (pA 5), .ref (pA 6), .ref (pA 7), .ref (pA 8), .ref (pA 9), .ref (pA 10), .int (nI T), .int (nI Ac)], ia (pA 0) (pK 0) 4 (fun i => nI ((pg 0) i)), ia (pA 1) (pK 1) 28 (fun i => nI ((pg 1) i)), ia (pA 2) (pK 2) 7 (fun i => nI ((pg 2) i)), ia (pA 4) (pK 4) 7 (fun i => nI ((pg 4) i)), ia (pA 5) (pK 5) 7 (fun i => nI ((pg 5) i)), ia (pA 8) (pK 8) 4 (fun i => nI ((pg 8) i)), ia (pA 9) (pK 9) 6 (fun i => nI ((pg 9) i)), ia (pA 10) (pK 10) 3 (fun i => nI ((pg 10) i))] H1 := hPD.1
      replace hD : dd A [ba, b2, ga, g1, pa, (pA 0), (pA 1), (pA 2), (pA 4), (pA 5), (pA 8), (pA 9), (pA 10)] := dd_of hPD.2 rfl
      clear hPD
      revert H1 locs1
      intro H locs hS hP
      refine tp_i (y := nI b9) (by rw [hw1, hb9]) ?_
      clear hw1 r_3 u
      refine tp_pc (pc' := 63) (by rfl) ?_
      refine lv_if_eq (tgt := 85) hx hb d_BufferWalk_noteRaces_63 (by decide) (fun c1 => ?_) (fun c1 => ?_)
      · skip
        have hc1 : b9 = 0 := (nI_eq (a := b9) (b := 0) (by omega) (by omega)).mp c1
        rw [show rcN pg M rc k0 = rcN pg M rc (k0 + 1) from by rw [rcN, if_neg (fun q => by rw [← hb9] at q; omega)]] at hP
        refine tp_pc (pc' := 85) (by rfl) ?_
        refine lv_iinc (v := nI (k0 + 1)) (lv' := [(2, .int (nI (k0 + 1))), (1, .int (nI M)), (0, .ref ba)]) hx hb d_BufferWalk_noteRaces_85 hl (k := 0) rfl (by exact nI_1 k0) (by decide) rfl ?_
        clear hl ls
        intro ls hl
        refine lv_goto (tgt := 47) hx hb d_BufferWalk_noteRaces_88 (by decide) ?_
        refine tp_pc (pc' := 47) (by rfl) ?_
        replace hP : va_P (dC, dI) classes [oc ba 4 [.ref pa, .ref ga, .ref sa, .ref b1, .ref b2, .ref fa, .int (nI md), .int (nI mm), .int (nI hd)], ia b2 kb2 7 (fun i => nI ((rcN pg M rc (k0 + 1)) i)), oc ga 1 [.ref pa, .ref g1, .ref g2, .ref g3, .int (nI dn), .long so], ia g1 l1 4 (fun i => nI (pl i)), oc pa 0 [.ref (pA 0), .ref (pA 1), .ref (pA 2), .ref (pA 3), .ref (pA 4), .ref (pA 5), .ref (pA 6), .ref (pA 7), .ref (pA 8), .ref (pA 9), .ref (pA 10), .int (nI T), .int (nI Ac)], ia (pA 0) (pK 0) 4 (fun i => nI ((pg 0) i)), ia (pA 1) (pK 1) 28 (fun i => nI ((pg 1) i)), ia (pA 2) (pK 2) 7 (fun i => nI ((pg 2) i)), ia (pA 4) (pK 4) 7 (fun i => nI ((pg 4) i)), ia (pA 5) (pK 5) 7 (fun i => nI ((pg 5) i)), ia (pA 8) (pK 8) 4 (fun i => nI ((pg 8) i)), ia (pA 9) (pK 9) 6 (fun i => nI ((pg 9) i)), ia (pA 10) (pK 10) 3 (fun i => nI ((pg 10) i))] H := hP
        obtain ⟨hP8, -, -⟩ := cut3 (wc := [oc ba 4 [.ref pa, .ref ga, .ref sa, .ref b1, .ref b2, .ref fa, .int (nI md), .int (nI mm), .int (nI hd)], ia b2 kb2 7 (fun i => nI ((rcN pg M rc (k0 + 1)) i)), oc ga 1 [.ref pa, .ref g1, .ref g2, .ref g3, .int (nI dn), .long so], ia g1 l1 4 (fun i => nI (pl i)), oc pa 0 [.ref (pA 0), .ref (pA 1), .ref (pA 2), .ref (pA 3), .ref (pA 4), .ref (pA 5), .ref (pA 6), .ref (pA 7), .ref (pA 8), .ref (pA 9), .ref (pA 10), .int (nI T), .int (nI Ac)], ia (pA 0) (pK 0) 4 (fun i => nI ((pg 0) i)), ia (pA 1) (pK 1) 28 (fun i => nI ((pg 1) i)), ia (pA 2) (pK 2) 7 (fun i => nI ((pg 2) i)), ia (pA 4) (pK 4) 7 (fun i => nI ((pg 4) i)), ia (pA 5) (pK 5) 7 (fun i => nI ((pg 5) i)), ia (pA 8) (pK 8) 4 (fun i => nI ((pg 8) i)), ia (pA 9) (pK 9) 6 (fun i => nI ((pg 9) i)), ia (pA 10) (pK 10) 3 (fun i => nI ((pg 10) i))]) hP hD rfl hS hA [0, 1, 2, 3, 4, 5, 6, 7, 8, 9, 10, 11, 12] (by decide +kernel) rfl
        exact ih _ _ _ ⟨hP8, hS, lv_sub hl [0, 1, 2] rfl⟩
      · skip
        have hc1 : ¬ (b9 = 0) := fun q9 => c1 ((nI_eq (a := b9) (b := 0) (by omega) (by omega)).mpr q9)
        refine tp_pc (pc' := 66) (by rfl) ?_
        refine lv_aload_n hx hb d_BufferWalk_noteRaces_66 rfl (lv_at hl 2 rfl) ?_
        refine va_get (D := (dC, dI)) (ci := 4) (v := .ref b2) (C := R_BufferWalk) (T := F_BufferWalk) (N := 9) hx hb hw i_BufferWalk hown hK hP 0 rfl rfl 4 (by decide) (hw _ m_254) (fun _ h9 => h9) rfl d_BufferWalk_noteRaces_67 ?_
        refine lv_iload_n hx hb d_BufferWalk_noteRaces_70 rfl (lv_at hl 0 rfl) ?_
        refine lv_dup2_11 hx hb d_BufferWalk_noteRaces_71 rfl rfl ?_
        refine va_iald (D := (dC, dI)) hx hb hK hP 1 0 rfl rfl (i := nI k0) (pk_in k0 7 (by omega)) d_BufferWalk_noteRaces_72 ?_
        refine tp_i (y := nI ((rcN pg M rc k0) k0)) (by rw [show (nI k0 : Int32).toNatClampNeg = k0 from pk_cl k0]) ?_
        refine lv_iload_n hx hb d_BufferWalk_noteRaces_73 rfl (lv_at hl 1 rfl) ?_
        refine lv_aload_n hx hb d_BufferWalk_noteRaces_74 rfl (lv_at hl 2 rfl) ?_
        refine va_get (D := (dC, dI)) (ci := 4) (v := .ref pa) (C := R_BufferWalk) (T := F_BufferWalk) (N := 9) hx hb hw i_BufferWalk hown hK hP 0 rfl rfl 0 (by decide) (hw _ m_250) (fun _ h9 => h9) rfl d_BufferWalk_noteRaces_75 ?_
        refine lv_iload_n hx hb d_BufferWalk_noteRaces_78 rfl (lv_at hl 0 rfl) ?_
        obtain ⟨hPc, hDc, hFc⟩ := cut3 (wc := [oc pa 0 [.ref (pA 0), .ref (pA 1), .ref (pA 2), .ref (pA 3), .ref (pA 4), .ref (pA 5), .ref (pA 6), .ref (pA 7), .ref (pA 8), .ref (pA 9), .ref (pA 10), .int (nI T), .int (nI Ac)], ia (pA 2) (pK 2) 7 (fun i => nI ((pg 2) i)), ia (pA 4) (pK 4) 7 (fun i => nI ((pg 4) i)), ia (pA 5) (pK 5) 7 (fun i => nI ((pg 5) i)), ia (pA 8) (pK 8) 4 (fun i => nI ((pg 8) i)), ia (pA 9) (pK 9) 6 (fun i => nI ((pg 9) i)), ia (pA 10) (pK 10) 3 (fun i => nI ((pg 10) i))]) hP hD rfl hS hA [4, 7, 8, 9, 10, 11, 12] (by decide +kernel) rfl
        have hKc := hK.sub (tys' := [((pK 2), .int), ((pK 4), .int), ((pK 5), .int), ((pK 8), .int), ((pK 9), .int), ((pK 10), .int)]) [4, 5, 6, 7, 8, 9] rfl
        refine va_calli (va_runV (As := [.int (nI k0)]) (rest := [.int (nI M), .int (nI ((rcN pg M rc k0) k0)), .int (nI k0), .ref b2]) ⟨hx, hb, hml, hown, hw⟩ (gen_Program_rivalsOf l dC dI pa pA pK T Ac pg nm k0 (by omega) k3 (by omega) k4 (p6 _) p7 p8 H.size) (cw_V 1 hw g_Program_rivalsOf rfl rfl rfl (hw _ m_102) (hw _ m_664) (hw _ m_665) (hw _ m_666) (by decide +kernel) ⟨Nat.le_of_ble_eq_true rfl, Nat.le_of_ble_eq_true rfl⟩) ⟨fun a U g mk q => by obtain ⟨q0, q1, qP, qK, qD, qN⟩ := q; exact ⟨q0, q1, qP, va_K.moved (u := U) (U := U.calling g mk a) (Vm.Alike.refl U.vm) qK, qD, nw_call qN⟩, va_recv hKc hPc (ci := 0) (q0 := 0) rfl rfl, fun U hU hW => ⟨rfl, by rw [hU], by rw [hU]; exact hPc, va_K.moved hW.alike hKc, hDc.weaken (fun _ _ _ _ => trivial), nw_warm hW hn⟩⟩ rfl rfl hl.1 rfl (lv_room (Nat.le_of_ble_eq_true rfl)) d_BufferWalk_noteRaces_79 ⟨Nat.le_of_ble_eq_true rfl, Nat.le_of_ble_eq_true rfl⟩) hS (fun q _ h => hFc q h) hFc ?_
        intro r_4 u t9 H1 locs1 ht9 hvm hw1 hB hz1 hk1 hS1
        obtain ⟨hP1, hK1, hD1⟩ := hB
        rw [ht9] at hP1
        replace hK1 := va_K.moved hvm.symm hK1
        have hPD := join3 hP hD rfl [4, 7, 8, 9, 10, 11, 12] [0, 1, 2, 3, 5, 6] rfl (by rfl) (by decide +kernel) (by decide +kernel) hk1 hFc hP1 hD1
        replace hK : va_K (dC, dI) classes [(kb2, .int), (l1, .int), ((pK 0), .int), ((pK 1), .int), ((pK 2), .int), ((pK 4), .int), ((pK 5), .int), ((pK 8), .int), ((pK 9), .int), ((pK 10), .int)] s := hK.app hK1
        clear hP1 hK1 hD1 hk1 hz1 hFc hKc hDc hPc hvm ht9 hP hS t9 locs H
        have hP : va_P (dC, dI) classes [oc ba 4 [.ref pa, .ref ga, .ref sa, .ref b1, .ref b2, .ref fa, .int (nI md), .int (nI mm), .int (nI hd)], ia b2 kb2 7 (fun i => nI ((rcN pg M rc k0) i)), oc ga 1 [.ref pa, .ref g1, .ref g2, .ref g3, .int (nI dn), .long so], ia g1 l1 4 (fun i => nI (pl i)), ia (pA 0) (pK 0) 4 (fun i => nI ((pg 0) i)), ia (pA 1) (pK 1) 28 (fun i => nI ((pg 1) i)), oc pa 0 [.ref (pA 0), .ref (pA 1), .ref (pA 2), .ref (pA 3), .ref (pA 4), .ref (pA 5), .ref (pA 6), .ref (pA 7), .ref (pA 8), .ref (pA 9), .ref (pA 10), .int (nI T), .int (nI Ac)], ia (pA 2) (pK 2) 7 (fun i => nI ((pg 2) i)), ia (pA 4) (pK 4) 7 (fun i => nI ((pg 4) i)), ia (pA 5) (pK 5) 7 (fun i => nI ((pg 5) i)), ia (pA 8) (pK 8) 4 (fun i => nI ((pg 8) i)), ia (pA 9) (pK 9) 6 (fun i => nI ((pg 9) i)), ia (pA 10) (pK 10) 3 (fun i => nI ((pg 10) i))] H1 := hPD.1
        replace hD : dd A [ba, b2, ga, g1, (pA 0), (pA 1), pa, (pA 2), (pA 4), (pA 5), (pA 8), (pA 9), (pA 10)] := dd_of hPD.2 rfl
        clear hPD
        revert H1 locs1
        intro H locs hS hP
        refine tp_i (y := nI (rivS (pg 4 k0) (pg 10 (pg 5 k0)) (pg 8 (pg 2 k0)) (pg 9 0) (pg 9 3))) (hw1) ?_
        clear hw1 r_4 u
        have rv8 : rivS (pg 4 k0) (pg 10 (pg 5 k0)) (pg 8 (pg 2 k0)) (pg 9 0) (pg 9 3) < 128 := rivS_lt (p8 _)
        have mr8 : M &&& rivS (pg 4 k0) (pg 10 (pg 5 k0)) (pg 8 (pg 2 k0)) (pg 9 0) (pg 9 3) < 128 := Nat.and_lt_two_pow (n := 7) _ rv8
        refine tp_pc (pc' := 82) (by rfl) ?_
        refine lv_iand hx hb d_BufferWalk_noteRaces_82 ?_
        refine tp_i (y := (nI M) &&& (nI (rivS (pg 4 k0) (pg 10 (pg 5 k0)) (pg 8 (pg 2 k0)) (pg 9 0) (pg 9 3)))) rfl ?_
        refine tp_i (y := nI (M &&& rivS (pg 4 k0) (pg 10 (pg 5 k0)) (pg 8 (pg 2 k0)) (pg 9 0) (pg 9 3))) (and_eq M8 rv8) ?_
        refine lv_ior hx hb d_BufferWalk_noteRaces_83 ?_
        refine tp_i (y := (nI ((rcN pg M rc k0) k0)) ||| (nI (M &&& rivS (pg 4 k0) (pg 10 (pg 5 k0)) (pg 8 (pg 2 k0)) (pg 9 0) (pg 9 3)))) rfl ?_
        refine tp_i (y := nI (rcN pg M rc k0 k0 ||| (M &&& rivS (pg 4 k0) (pg 10 (pg 5 k0)) (pg 8 (pg 2 k0)) (pg 9 0) (pg 9 3)))) (or_eq _ (rcN_lt hrc M8 p8 k0 k0) _ mr8) ?_
        refine va_iast (D := (dC, dI)) hx hb hK hP (dd_D hD rfl) hS 1 0 rfl rfl (i := nI k0) (x := nI (rcN pg M rc k0 k0 ||| (M &&& rivS (pg 4 k0) (pg 10 (pg 5 k0)) (pg 8 (pg 2 k0)) (pg 9 0) (pg 9 3)))) (pk_in k0 7 (by omega)) d_BufferWalk_noteRaces_84 ?_
        clear hP hS locs H
        intro H locs hP _ hS
        rw [show (nI k0 : Int32).toNatClampNeg = k0 from pk_cl k0] at hP
        rw [show upd (fun i => nI ((rcN pg M rc k0) i)) k0 (nI (rcN pg M rc k0 k0 ||| (M &&& rivS (pg 4 k0) (pg 10 (pg 5 k0)) (pg 8 (pg 2 k0)) (pg 9 0) (pg 9 3)))) = fun i => nI (updN (rcN pg M rc k0) k0 (rcN pg M rc k0 k0 ||| (M &&& rivS (pg 4 k0) (pg 10 (pg 5 k0)) (pg 8 (pg 2 k0)) (pg 9 0) (pg 9 3))) i) from upd_nI] at hP
        replace hP : va_P (dC, dI) classes [oc ba 4 [.ref pa, .ref ga, .ref sa, .ref b1, .ref b2, .ref fa, .int (nI md), .int (nI mm), .int (nI hd)], ia b2 kb2 7 (fun i => nI ((updN (rcN pg M rc k0) k0 (rcN pg M rc k0 k0 ||| (M &&& rivS (pg 4 k0) (pg 10 (pg 5 k0)) (pg 8 (pg 2 k0)) (pg 9 0) (pg 9 3)))) i)), oc ga 1 [.ref pa, .ref g1, .ref g2, .ref g3, .int (nI dn), .long so], ia g1 l1 4 (fun i => nI (pl i)), ia (pA 0) (pK 0) 4 (fun i => nI ((pg 0) i)), ia (pA 1) (pK 1) 28 (fun i => nI ((pg 1) i)), oc pa 0 [.ref (pA 0), .ref (pA 1), .ref (pA 2), .ref (pA 3), .ref (pA 4), .ref (pA 5), .ref (pA 6), .ref (pA 7), .ref (pA 8), .ref (pA 9), .ref (pA 10), .int (nI T), .int (nI Ac)], ia (pA 2) (pK 2) 7 (fun i => nI ((pg 2) i)), ia (pA 4) (pK 4) 7 (fun i => nI ((pg 4) i)), ia (pA 5) (pK 5) 7 (fun i => nI ((pg 5) i)), ia (pA 8) (pK 8) 4 (fun i => nI ((pg 8) i)), ia (pA 9) (pK 9) 6 (fun i => nI ((pg 9) i)), ia (pA 10) (pK 10) 3 (fun i => nI ((pg 10) i))] H := hP
        refine tp_pc (pc' := 85) (by rfl) ?_
        rw [show updN (rcN pg M rc k0) k0 (rcN pg M rc k0 k0 ||| (M &&& rivS (pg 4 k0) (pg 10 (pg 5 k0)) (pg 8 (pg 2 k0)) (pg 9 0) (pg 9 3))) = rcN pg M rc (k0 + 1) from by rw [rcN, if_pos (by rw [← hb9]; omega)]] at hP
        refine lv_iinc (v := nI (k0 + 1)) (lv' := [(2, .int (nI (k0 + 1))), (1, .int (nI M)), (0, .ref ba)]) hx hb d_BufferWalk_noteRaces_85 hl (k := 0) rfl (by exact nI_1 k0) (by decide) rfl ?_
        clear hl ls
        intro ls hl
        refine lv_goto (tgt := 47) hx hb d_BufferWalk_noteRaces_88 (by decide) ?_
        refine tp_pc (pc' := 47) (by rfl) ?_
        replace hP : va_P (dC, dI) classes [oc ba 4 [.ref pa, .ref ga, .ref sa, .ref b1, .ref b2, .ref fa, .int (nI md), .int (nI mm), .int (nI hd)], ia b2 kb2 7 (fun i => nI ((rcN pg M rc (k0 + 1)) i)), oc ga 1 [.ref pa, .ref g1, .ref g2, .ref g3, .int (nI dn), .long so], ia g1 l1 4 (fun i => nI (pl i)), ia (pA 0) (pK 0) 4 (fun i => nI ((pg 0) i)), ia (pA 1) (pK 1) 28 (fun i => nI ((pg 1) i)), oc pa 0 [.ref (pA 0), .ref (pA 1), .ref (pA 2), .ref (pA 3), .ref (pA 4), .ref (pA 5), .ref (pA 6), .ref (pA 7), .ref (pA 8), .ref (pA 9), .ref (pA 10), .int (nI T), .int (nI Ac)], ia (pA 2) (pK 2) 7 (fun i => nI ((pg 2) i)), ia (pA 4) (pK 4) 7 (fun i => nI ((pg 4) i)), ia (pA 5) (pK 5) 7 (fun i => nI ((pg 5) i)), ia (pA 8) (pK 8) 4 (fun i => nI ((pg 8) i)), ia (pA 9) (pK 9) 6 (fun i => nI ((pg 9) i)), ia (pA 10) (pK 10) 3 (fun i => nI ((pg 10) i))] H := hP
        obtain ⟨hP8, -, -⟩ := cut3 (wc := [oc ba 4 [.ref pa, .ref ga, .ref sa, .ref b1, .ref b2, .ref fa, .int (nI md), .int (nI mm), .int (nI hd)], ia b2 kb2 7 (fun i => nI ((rcN pg M rc (k0 + 1)) i)), oc ga 1 [.ref pa, .ref g1, .ref g2, .ref g3, .int (nI dn), .long so], ia g1 l1 4 (fun i => nI (pl i)), oc pa 0 [.ref (pA 0), .ref (pA 1), .ref (pA 2), .ref (pA 3), .ref (pA 4), .ref (pA 5), .ref (pA 6), .ref (pA 7), .ref (pA 8), .ref (pA 9), .ref (pA 10), .int (nI T), .int (nI Ac)], ia (pA 0) (pK 0) 4 (fun i => nI ((pg 0) i)), ia (pA 1) (pK 1) 28 (fun i => nI ((pg 1) i)), ia (pA 2) (pK 2) 7 (fun i => nI ((pg 2) i)), ia (pA 4) (pK 4) 7 (fun i => nI ((pg 4) i)), ia (pA 5) (pK 5) 7 (fun i => nI ((pg 5) i)), ia (pA 8) (pK 8) 4 (fun i => nI ((pg 8) i)), ia (pA 9) (pK 9) 6 (fun i => nI ((pg 9) i)), ia (pA 10) (pK 10) 3 (fun i => nI ((pg 10) i))]) hP hD rfl hS hA [0, 1, 2, 3, 6, 4, 5, 7, 8, 9, 10, 11, 12] (by decide +kernel) rfl
        exact ih _ _ _ ⟨hP8, hS, lv_sub hl [0, 1, 2] rfl⟩
    · intro H locs ls hI
      obtain ⟨hP, hS, hl⟩ := hI
      refine lv_iload_n hx hb d_BufferWalk_noteRaces_47 rfl (lv_at hl 0 rfl) ?_
      refine lv_aload_n hx hb d_BufferWalk_noteRaces_48 rfl (lv_at hl 2 rfl) ?_
      refine va_get (D := (dC, dI)) (ci := 4) (v := .ref pa) (C := R_BufferWalk) (T := F_BufferWalk) (N := 9) hx hb hw i_BufferWalk hown hK hP 0 rfl rfl 0 (by decide) (hw _ m_250) (fun _ h9 => h9) rfl d_BufferWalk_noteRaces_49 ?_
      refine va_get (D := (dC, dI)) (ci := 0) (v := .int (nI Ac)) (C := R_Program) (T := F_Program) (N := 13) hx hb hw i_Program hown hK hP 4 rfl rfl 12 (by decide) (hw _ m_168) (fun _ h9 => h9) rfl d_BufferWalk_noteRaces_52 ?_
      refine lv_icmp_ge (tgt := 91) hx hb d_BufferWalk_noteRaces_55 (by decide) (fun c9 => ?_) (fun c9 => absurd (nI_le (Nat.le_refl _) (by omega)) c9)
      refine tp_pc (pc' := 91) (by rfl) ?_
      obtain ⟨hP9, hD9, -⟩ := cut3 (wc := [oc ba 4 [.ref pa, .ref ga, .ref sa, .ref b1, .ref b2, .ref fa, .int (nI md), .int (nI mm), .int (nI hd)], ia b2 kb2 7 (fun i => nI ((rcN pg M rc Ac) i)), oc ga 1 [.ref pa, .ref g1, .ref g2, .ref g3, .int (nI dn), .long so], ia g1 l1 4 (fun i => nI (pl i)), oc pa 0 [.ref (pA 0), .ref (pA 1), .ref (pA 2), .ref (pA 3), .ref (pA 4), .ref (pA 5), .ref (pA 6), .ref (pA 7), .ref (pA 8), .ref (pA 9), .ref (pA 10), .int (nI T), .int (nI Ac)], ia (pA 0) (pK 0) 4 (fun i => nI ((pg 0) i)), ia (pA 1) (pK 1) 28 (fun i => nI ((pg 1) i)), ia (pA 2) (pK 2) 7 (fun i => nI ((pg 2) i)), ia (pA 4) (pK 4) 7 (fun i => nI ((pg 4) i)), ia (pA 5) (pK 5) 7 (fun i => nI ((pg 5) i)), ia (pA 8) (pK 8) 4 (fun i => nI ((pg 8) i)), ia (pA 9) (pK 9) 6 (fun i => nI ((pg 9) i)), ia (pA 10) (pK 10) 3 (fun i => nI ((pg 10) i))]) hP hD rfl hS hA [0, 1, 2, 3, 4, 5, 6, 7, 8, 9, 10, 11, 12] (by decide +kernel) rfl
      have hK9 := hK.sub (tys' := []) [] rfl
      refine W.widen (k := 0) (n := 0) (by exact Nat.le_of_ble_eq_true rfl) (by exact Nat.le_of_ble_eq_true rfl) ?_
      exact W.vret hx hb hr (fun t9 ht9 hW => ⟨⟨(), rfl, trivial, by rw [ht9]; exact hP9, va_K.moved hW.alike hK9, hD9⟩, hS.F ht9⟩) hS.2.2 d_BufferWalk_noteRaces_91
