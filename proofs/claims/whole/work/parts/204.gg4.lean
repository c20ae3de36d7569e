set_option maxHeartbeats 4000000 in
set_option maxRecDepth 100000 in
theorem gen_GS_canHappen (l : Launch) (dC : Nat → ClassId) (dI : Nat → Nat → Nat) (pa : Nat) (pA : Nat → Nat) (pK : Nat → ClassId) (T Ac : Nat) (pg : Nat → Nat → Nat) (nm : Nat → Int32) (g1 g2 g3 : Nat) (l1 : ClassId) (dn : Nat) (so : Int64) (pl : Nat → Nat) (xa ga fa : Nat) (xA : Nat → Nat) (xK : Nat → ClassId) (md mb : Nat) (fm wm : Nat → Nat) (sc : Nat → Nat → Nat) (q wq : Nat) (hPg : PgOk T Ac pg) (hdn : dn < 128) (hpl : ∀ t, t < T → pl t ≤ 10) (hwm : ∀ t, t < T → wm t ≤ Ac + 1) (hq8 : q ≤ Ac) (hwq : wq < 4) (sz : Nat) : Met l y_GraphSearch_canHappen w_GraphSearch_canHappen ({ frames := 3, cells := 0, slots := 0, locals := 120 }) (va_Pc [.ref xa, .int (nI q), .int (nI wq)] (fun U => U.heap.size = sz ∧ va_P (dC, dI) classes [oc xa 6 [.ref pa, .ref ga, .ref (xA 0), .ref (xA 1), .ref (xA 2), .ref (xA 3), .ref (xA 4), .ref (xA 5), .ref (xA 6), .ref (xA 7), .ref (xA 8), .ref (xA 9), .ref (xA 10), .ref (xA 11), .ref fa, .int (nI md), .int (nI mb)], ia (xA 1) (xK 1) 4 (fun i0 => mN (wm i0)), oc ga 1 [.ref pa, .ref g1, .ref g2, .ref g3, .int (nI dn), .long so], ia g1 l1 4 (fun i => nI (pl i)), oc pa 0 [.ref (pA 0), .ref (pA 1), .ref (pA 2), .ref (pA 3), .ref (pA 4), .ref (pA 5), .ref (pA 6), .ref (pA 7), .ref (pA 8), .ref (pA 9), .ref (pA 10), .int (nI T), .int (nI Ac)], ia (pA 2) (pK 2) 7 (fun i => nI ((pg 2) i)), ia (pA 3) (pK 3) 7 (fun i => nI ((pg 3) i))] U.heap ∧ va_K (dC, dI) classes [((xK 1), .int), (l1, .int), ((pK 2), .int), ((pK 3), .int)] U ∧ va_D (fun _ => True) [oc xa 6 [.ref pa, .ref ga, .ref (xA 0), .ref (xA 1), .ref (xA 2), .ref (xA 3), .ref (xA 4), .ref (xA 5), .ref (xA 6), .ref (xA 7), .ref (xA 8), .ref (xA 9), .ref (xA 10), .ref (xA 11), .ref fa, .int (nI md), .int (nI mb)], ia (xA 1) (xK 1) 4 (fun i0 => mN (wm i0)), oc ga 1 [.ref pa, .ref g1, .ref g2, .ref g3, .int (nI dn), .long so], ia g1 l1 4 (fun i => nI (pl i)), oc pa 0 [.ref (pA 0), .ref (pA 1), .ref (pA 2), .ref (pA 3), .ref (pA 4), .ref (pA 5), .ref (pA 6), .ref (pA 7), .ref (pA 8), .ref (pA 9), .ref (pA 10), .int (nI T), .int (nI Ac)], ia (pA 2) (pK 2) 7 (fun i => nI ((pg 2) i)), ia (pA 3) (pK 3) 7 (fun i => nI ((pg 3) i))] ∧ nw U)) (va_Qi (fun (r : Int32) (_ : Unit) => r = if cHb pg pl dn wm q wq then 1 else 0) (fun _ t9 => va_P (dC, dI) classes [oc xa 6 [.ref pa, .ref ga, .ref (xA 0), .ref (xA 1), .ref (xA 2), .ref (xA 3), .ref (xA 4), .ref (xA 5), .ref (xA 6), .ref (xA 7), .ref (xA 8), .ref (xA 9), .ref (xA 10), .ref (xA 11), .ref fa, .int (nI md), .int (nI mb)], ia (xA 1) (xK 1) 4 (fun i0 => mN (wm i0)), oc ga 1 [.ref pa, .ref g1, .ref g2, .ref g3, .int (nI dn), .long so], ia g1 l1 4 (fun i => nI (pl i)), oc pa 0 [.ref (pA 0), .ref (pA 1), .ref (pA 2), .ref (pA 3), .ref (pA 4), .ref (pA 5), .ref (pA 6), .ref (pA 7), .ref (pA 8), .ref (pA 9), .ref (pA 10), .int (nI T), .int (nI Ac)], ia (pA 2) (pK 2) 7 (fun i => nI ((pg 2) i)), ia (pA 3) (pK 3) 7 (fun i => nI ((pg 3) i))] t9.heap ∧ va_K (dC, dI) classes [] t9 ∧ va_D (va_A [oc xa 6 [.ref pa, .ref ga, .ref (xA 0), .ref (xA 1), .ref (xA 2), .ref (xA 3), .ref (xA 4), .ref (xA 5), .ref (xA 6), .ref (xA 7), .ref (xA 8), .ref (xA 9), .ref (xA 10), .ref (xA 11), .ref fa, .int (nI md), .int (nI mb)], ia (xA 1) (xK 1) 4 (fun i0 => mN (wm i0)), oc ga 1 [.ref pa, .ref g1, .ref g2, .ref g3, .int (nI dn), .long so], ia g1 l1 4 (fun i => nI (pl i)), oc pa 0 [.ref (pA 0), .ref (pA 1), .ref (pA 2), .ref (pA 3), .ref (pA 4), .ref (pA 5), .ref (pA 6), .ref (pA 7), .ref (pA 8), .ref (pA 9), .ref (pA 10), .int (nI T), .int (nI Ac)], ia (pA 2) (pK 2) 7 (fun i => nI ((pg 2) i)), ia (pA 3) (pK 3) 7 (fun i => nI ((pg 3) i))] sz) [oc xa 6 [.ref pa, .ref ga, .ref (xA 0), .ref (xA 1), .ref (xA 2), .ref (xA 3), .ref (xA 4), .ref (xA 5), .ref (xA 6), .ref (xA 7), .ref (xA 8), .ref (xA 9), .ref (xA 10), .ref (xA 11), .ref fa, .int (nI md), .int (nI mb)], ia (xA 1) (xK 1) 4 (fun i0 => mN (wm i0)), oc ga 1 [.ref pa, .ref g1, .ref g2, .ref g3, .int (nI dn), .long so], ia g1 l1 4 (fun i => nI (pl i)), oc pa 0 [.ref (pA 0), .ref (pA 1), .ref (pA 2), .ref (pA 3), .ref (pA 4), .ref (pA 5), .ref (pA 6), .ref (pA 7), .ref (pA 8), .ref (pA 9), .ref (pA 10), .int (nI T), .int (nI Ac)], ia (pA 2) (pK 2) 7 (fun i => nI ((pg 2) i)), ia (pA 3) (pK 3) 7 (fun i => nI ((pg 3) i))]) (va_A [oc xa 6 [.ref pa, .ref ga, .ref (xA 0), .ref (xA 1), .ref (xA 2), .ref (xA 3), .ref (xA 4), .ref (xA 5), .ref (xA 6), .ref (xA 7), .ref (xA 8), .ref (xA 9), .ref (xA 10), .ref (xA 11), .ref fa, .int (nI md), .int (nI mb)], ia (xA 1) (xK 1) 4 (fun i0 => mN (wm i0)), oc ga 1 [.ref pa, .ref g1, .ref g2, .ref g3, .int (nI dn), .long so], ia g1 l1 4 (fun i => nI (pl i)), oc pa 0 [.ref (pA 0), .ref (pA 1), .ref (pA 2), .ref (pA 3), .ref (pA 4), .ref (pA 5), .ref (pA 6), .ref (pA 7), .ref (pA 8), .ref (pA 9), .ref (pA 10), .int (nI T), .int (nI Ac)], ia (pA 2) (pK 2) 7 (fun i => nI ((pg 2) i)), ia (pA 3) (pK 3) 7 (fun i => nI ((pg 3) i))] sz)) 0 0 (va_A [oc xa 6 [.ref pa, .ref ga, .ref (xA 0), .ref (xA 1), .ref (xA 2), .ref (xA 3), .ref (xA 4), .ref (xA 5), .ref (xA 6), .ref (xA 7), .ref (xA 8), .ref (xA 9), .ref (xA 10), .ref (xA 11), .ref fa, .int (nI md), .int (nI mb)], ia (xA 1) (xK 1) 4 (fun i0 => mN (wm i0)), oc ga 1 [.ref pa, .ref g1, .ref g2, .ref g3, .int (nI dn), .long so], ia g1 l1 4 (fun i => nI (pl i)), oc pa 0 [.ref (pA 0), .ref (pA 1), .ref (pA 2), .ref (pA 3), .ref (pA 4), .ref (pA 5), .ref (pA 6), .ref (pA 7), .ref (pA 8), .ref (pA 9), .ref (pA 10), .int (nI T), .int (nI Ac)], ia (pA 2) (pK 2) 7 (fun i => nI ((pg 2) i)), ia (pA 3) (pK 3) 7 (fun i => nI ((pg 3) i))] sz) := by
  refine Met.ofW (cc := b_GraphSearch_canHappen) (maxL := 5) (ret := (some .boolean)) (by decide) rfl ?_
  intro p e0 s m args below meth c s₁ B hml hv
  obtain ⟨rfl, hsz, hP, hK, hD0, hn⟩ := hv
  have hx := B.exec
  have hb := B.bytes
  have hr := B.returns
  have hw := fun w (h : w ∈ wt) => atoms_spec (ws := w_GraphSearch_canHappen) B.pre w (List.mem_cons_of_mem _ h)
  have hown : s.vm.findClass R_GraphSearch = some m.cls := findClass_of_methodNamed B.named
  have hlocks := B.notSynchronized
  subst hsz
  have hD1 := hD0.self (sz := s.heap.size)
  generalize hAe : va_A [oc xa 6 [.ref pa, .ref ga, .ref (xA 0), .ref (xA 1), .ref (xA 2), .ref (xA 3), .ref (xA 4), .ref (xA 5), .ref (xA 6), .ref (xA 7), .ref (xA 8), .ref (xA 9), .ref (xA 10), .ref (xA 11), .ref fa, .int (nI md), .int (nI mb)], ia (xA 1) (xK 1) 4 (fun i0 => mN (wm i0)), oc ga 1 [.ref pa, .ref g1, .ref g2, .ref g3, .int (nI dn), .long so], ia g1 l1 4 (fun i => nI (pl i)), oc pa 0 [.ref (pA 0), .ref (pA 1), .ref (pA 2), .ref (pA 3), .ref (pA 4), .ref (pA 5), .ref (pA 6), .ref (pA 7), .ref (pA 8), .ref (pA 9), .ref (pA 10), .int (nI T), .int (nI Ac)], ia (pA 2) (pK 2) 7 (fun i => nI ((pg 2) i)), ia (pA 3) (pK 3) 7 (fun i => nI ((pg 3) i))] s.heap.size = A at hD1 ⊢
  have hA : ∀ q : Nat, s.heap.size ≤ q → A q := fun q h => by rw [← hAe]; exact Or.inr h
  have hD : dd A [xa, (xA 1), ga, g1, pa, (pA 2), (pA 3)] := dd_of hD1 rfl
  clear hAe hD0 hD1
  have hS : va_S A s.heap s.heap [] := va_S.rf
  replace hP : va_P (dC, dI) classes [oc xa 6 [.ref pa, .ref ga, .ref (xA 0), .ref (xA 1), .ref (xA 2), .ref (xA 3), .ref (xA 4), .ref (xA 5), .ref (xA 6), .ref (xA 7), .ref (xA 8), .ref (xA 9), .ref (xA 10), .ref (xA 11), .ref fa, .int (nI md), .int (nI mb)], ia (xA 1) (xK 1) 4 (fun i0 => mN (wm i0)), oc ga 1 [.ref pa, .ref g1, .ref g2, .ref g3, .int (nI dn), .long so], ia g1 l1 4 (fun i => nI (pl i)), oc pa 0 [.ref (pA 0), .ref (pA 1), .ref (pA 2), .ref (pA 3), .ref (pA 4), .ref (pA 5), .ref (pA 6), .ref (pA 7), .ref (pA 8), .ref (pA 9), .ref (pA 10), .int (nI T), .int (nI Ac)], ia (pA 2) (pK 2) 7 (fun i => nI ((pg 2) i)), ia (pA 3) (pK 3) 7 (fun i => nI ((pg 3) i))] s.heap := hP
  have hl := lv_entry ([.ref xa, .int (nI q), .int (nI wq)]) (n := 5) (Nat.le_of_ble_eq_true rfl)
  rw [lg_entry_eq]
  generalize (lg_sl ([.ref xa, .int (nI q), .int (nI wq)]) ++ List.replicate (5 - (lg_sl ([.ref xa, .int (nI q), .int (nI wq)])).length) Slot.unset).toArray = ls at hl ⊢
  replace hl : lv_has ls 5 [(0, .ref xa), (1, .int (nI q)), (2, .int (nI wq))] := hl
  have hPg3 := hPg
  obtain ⟨p1, p2, p3, p4, p5, p6, p7, p8, p9, p10, p11⟩ := hPg3
  refine lv_aload_n hx hb d_GraphSearch_canHappen_0 rfl (lv_at hl 0 rfl) ?_
  refine va_get (D := (dC, dI)) (ci := 6) (v := .ref ga) (C := R_GraphSearch) (T := F_GraphSearch) (N := 17) hx hb hw i_GraphSearch hown hK hP 0 rfl rfl 1 (by decide) (hw _ m_320) (fun _ h9 => h9) rfl d_GraphSearch_canHappen_1 ?_
  refine lv_iload_n hx hb d_GraphSearch_canHappen_4 rfl (lv_at hl 1 rfl) ?_
  obtain ⟨hPc, hDc, hFc⟩ := cut3 (wc := [oc ga 1 [.ref pa, .ref g1, .ref g2, .ref g3, .int (nI dn), .long so]]) hP hD rfl hS hA [2] (by decide +kernel) rfl
  have hKc := hK.sub (tys' := []) [] rfl
  refine va_calli (va_runV (As := [.int (nI q)]) (rest := []) ⟨hx, hb, hml, hown, hw⟩ (gen_Progress_isWritten l dC dI ga g1 g2 g3 0 0 0 dn so (fun _ => 0) (fun _ => 0) (fun _ => 0) pa q (by omega) hdn s.heap.size) (cw_V 1 hw g_Progress_isWritten rfl rfl rfl (hw _ m_103) (hw _ m_773) (hw _ m_774) (hw _ m_775) (by decide +kernel) ⟨Nat.le_of_ble_eq_true rfl, Nat.le_of_ble_eq_true rfl⟩) ⟨fun a U g mk q => by obtain ⟨q0, q1, qP, qK, qD, qN⟩ := q; exact ⟨q0, q1, qP, va_K.moved (u := U) (U := U.calling g mk a) (Vm.Alike.refl U.vm) qK, qD, nw_call qN⟩, va_recv hKc hPc (ci := 1) (q0 := 0) rfl rfl, fun U hU hW => ⟨rfl, by rw [hU], by rw [hU]; exact hPc, va_K.moved hW.alike hKc, hDc.weaken (fun _ _ _ _ => trivial), nw_warm hW hn⟩⟩ rfl rfl hl.1 rfl (lv_room (Nat.le_of_ble_eq_true rfl)) d_GraphSearch_canHappen_5 ⟨Nat.le_of_ble_eq_true rfl, Nat.le_of_ble_eq_true rfl⟩) hS (fun q _ h => hFc q h) hFc ?_
  intro r_1 u t9 H1 locs1 ht9 hvm hw1 hB hz1 hk1 hS1
  obtain ⟨hP1, hK1, hD1⟩ := hB
  rw [ht9] at hP1
  replace hK1 := va_K.moved hvm.symm hK1
  have hPD := join3 hP hD rfl [2] [0, 1, 3, 4, 5, 6] rfl (by rfl) (by decide +kernel) (by decide +kernel) hk1 hFc hP1 hD1
  replace hK : va_K (dC, dI) classes [((xK 1), .int), (l1, .int), ((pK 2), .int), ((pK 3), .int)] s := hK.app hK1
  clear hP1 hK1 hD1 hk1 hz1 hFc hKc hDc hPc hvm ht9 hP hS t9
  have hP : va_P (dC, dI) classes [oc xa 6 [.ref pa, .ref ga, .ref (xA 0), .ref (xA 1), .ref (xA 2), .ref (xA 3), .ref (xA 4), .ref (xA 5), .ref (xA 6), .ref (xA 7), .ref (xA 8), .ref (xA 9), .ref (xA 10), .ref (xA 11), .ref fa, .int (nI md), .int (nI mb)], ia (xA 1) (xK 1) 4 (fun i0 => mN (wm i0)), ia g1 l1 4 (fun i => nI (pl i)), oc pa 0 [.ref (pA 0), .ref (pA 1), .ref (pA 2), .ref (pA 3), .ref (pA 4), .ref (pA 5), .ref (pA 6), .ref (pA 7), .ref (pA 8), .ref (pA 9), .ref (pA 10), .int (nI T), .int (nI Ac)], ia (pA 2) (pK 2) 7 (fun i => nI ((pg 2) i)), ia (pA 3) (pK 3) 7 (fun i => nI ((pg 3) i)), oc ga 1 [.ref pa, .ref g1, .ref g2, .ref g3, .int (nI dn), .long so]] H1 := hPD.1
  replace hD : dd A [xa, (xA 1), g1, pa, (pA 2), (pA 3), ga] := dd_of hPD.2 rfl
  clear hPD
  revert H1 locs1
  intro H locs hS hP
  refine tp_i (y := (if wrb dn q then 1 else 0)) (hw1) ?_
  clear hw1 r_1 u
  cases hwb : wrb dn q with
  | true =>
    rw [if_pos (rfl : true = true)]
    refine tp_pc (pc' := 8) (by rfl) ?_
    refine lv_if_eq (tgt := 13) hx hb d_GraphSearch_canHappen_8 (by decide) (fun c_2 => absurd c_2 (by decide)) (fun c_2 => ?_)
    refine tp_pc (pc' := 11) (by rfl) ?_
    refine lv_iconst (v := 1) hx hb d_GraphSearch_canHappen_11 (by decide) ?_
    obtain ⟨hP9, hD9, -⟩ := cut3 (wc := [oc xa 6 [.ref pa, .ref ga, .ref (xA 0), .ref (xA 1), .ref (xA 2), .ref (xA 3), .ref (xA 4), .ref (xA 5), .ref (xA 6), .ref (xA 7), .ref (xA 8), .ref (xA 9), .ref (xA 10), .ref (xA 11), .ref fa, .int (nI md), .int (nI mb)], ia (xA 1) (xK 1) 4 (fun i0 => mN (wm i0)), oc ga 1 [.ref pa, .ref g1, .ref g2, .ref g3, .int (nI dn), .long so], ia g1 l1 4 (fun i => nI (pl i)), oc pa 0 [.ref (pA 0), .ref (pA 1), .ref (pA 2), .ref (pA 3), .ref (pA 4), .ref (pA 5), .ref (pA 6), .ref (pA 7), .ref (pA 8), .ref (pA 9), .ref (pA 10), .int (nI T), .int (nI Ac)], ia (pA 2) (pK 2) 7 (fun i => nI ((pg 2) i)), ia (pA 3) (pK 3) 7 (fun i => nI ((pg 3) i))]) hP hD rfl hS hA [0, 1, 6, 2, 3, 4, 5] (by decide +kernel) rfl
    have hK9 := hK.sub (tys' := []) [] rfl
    refine W.widen (k := 0) (n := 0) (by exact Nat.le_of_ble_eq_true rfl) (by exact Nat.le_of_ble_eq_true rfl) ?_
    exact W.zret (v := 1) (ty := .boolean) hx hb hr (by decide) (fun t9 ht9 hW => ⟨⟨1, (), rfl, by rw [cHb, if_pos hwb]; rfl, by rw [ht9]; exact hP9, va_K.moved hW.alike hK9, hD9⟩, hS.F ht9⟩) hS.2.2 d_GraphSearch_canHappen_12
  | false =>
    rw [if_neg (by decide : ¬ (false = true))]
    have hq1 : 1 ≤ q := by rcases Nat.eq_zero_or_pos q with h | h; (rw [h] at hwb; exact absurd hwb (by unfold wrb; simp)); (exact h)
    obtain ⟨k1, k2, k3, k4, k5, k6⟩ := p5 (q - 1) (by omega)
    have hp0 := hpl _ k1
    have nwb : ¬ (wrb dn q = true) := by rw [hwb]; decide
    refine tp_pc (pc' := 8) (by rfl) ?_
    refine lv_if_eq (tgt := 13) hx hb d_GraphSearch_canHappen_8 (by decide) (fun c_3 => ?_) (fun c_3 => absurd c_3 (by decide))
    refine tp_pc (pc' := 13) (by rfl) ?_
    refine lv_aload_n hx hb d_GraphSearch_canHappen_13 rfl (lv_at hl 0 rfl) ?_
    refine va_get (D := (dC, dI)) (ci := 6) (v := .ref pa) (C := R_GraphSearch) (T := F_GraphSearch) (N := 17) hx hb hw i_GraphSearch hown hK hP 0 rfl rfl 0 (by decide) (hw _ m_319) (fun _ h9 => h9) rfl d_GraphSearch_canHappen_14 ?_
    refine va_get (D := (dC, dI)) (ci := 0) (v := .ref (pA 2)) (C := R_Program) (T := F_Program) (N := 13) hx hb hw i_Program hown hK hP 3 rfl rfl 2 (by decide) (hw _ m_134) (fun _ h9 => h9) rfl d_GraphSearch_canHappen_17 ?_
    refine lv_iload_n hx hb d_GraphSearch_canHappen_20 rfl (lv_at hl 1 rfl) ?_
    refine lv_iconst (v := 1) hx hb d_GraphSearch_canHappen_21 (by decide) ?_
    refine lv_isub hx hb d_GraphSearch_canHappen_22 ?_
    refine tp_i (y := nI (q - 1)) (by exact pk_sub (a := q) (b := 1) (by omega)) ?_
    refine va_iald (D := (dC, dI)) hx hb hK hP 4 2 rfl rfl (i := nI (q - 1)) (pk_in (q - 1) 7 (by omega)) d_GraphSearch_canHappen_23 ?_
    refine tp_i (y := nI ((pg 2) (q - 1))) (by rw [show (nI (q - 1) : Int32).toNatClampNeg = q - 1 from pk_cl (q - 1)]) ?_
    refine lv_istore_n (lv' := [(3, .int (nI ((pg 2) (q - 1)))), (0, .ref xa), (1, .int (nI q)), (2, .int (nI wq))]) hx hb d_GraphSearch_canHappen_24 rfl hl (by decide) rfl ?_
    clear hl ls
    intro ls hl
    refine lv_aload_n hx hb d_GraphSearch_canHappen_25 rfl (lv_at hl 1 rfl) ?_
    refine va_get (D := (dC, dI)) (ci := 6) (v := .ref pa) (C := R_GraphSearch) (T := F_GraphSearch) (N := 17) hx hb hw i_GraphSearch hown hK hP 0 rfl rfl 0 (by decide) (hw _ m_319) (fun _ h9 => h9) rfl d_GraphSearch_canHappen_26 ?_
    refine va_get (D := (dC, dI)) (ci := 0) (v := .ref (pA 3)) (C := R_Program) (T := F_Program) (N := 13) hx hb hw i_Program hown hK hP 3 rfl rfl 3 (by decide) (hw _ m_137) (fun _ h9 => h9) rfl d_GraphSearch_canHappen_29 ?_
    refine lv_iload_n hx hb d_GraphSearch_canHappen_32 rfl (lv_at hl 2 rfl) ?_
    refine lv_iconst (v := 1) hx hb d_GraphSearch_canHappen_33 (by decide) ?_
    refine lv_isub hx hb d_GraphSearch_canHappen_34 ?_
    refine tp_i (y := nI (q - 1)) (by exact pk_sub (a := q) (b := 1) (by omega)) ?_
    refine va_iald (D := (dC, dI)) hx hb hK hP 5 3 rfl rfl (i := nI (q - 1)) (pk_in (q - 1) 7 (by omega)) d_GraphSearch_canHappen_35 ?_
    refine tp_i (y := nI ((pg 3) (q - 1))) (by rw [show (nI (q - 1) : Int32).toNatClampNeg = q - 1 from pk_cl (q - 1)]) ?_
    refine lv_aload_n hx hb d_GraphSearch_canHappen_36 rfl (lv_at hl 1 rfl) ?_
    refine va_get (D := (dC, dI)) (ci := 6) (v := .ref ga) (C := R_GraphSearch) (T := F_GraphSearch) (N := 17) hx hb hw i_GraphSearch hown hK hP 0 rfl rfl 1 (by decide) (hw _ m_320) (fun _ h9 => h9) rfl d_GraphSearch_canHappen_37 ?_
    refine va_get (D := (dC, dI)) (ci := 1) (v := .ref g1) (C := R_Progress) (T := F_Progress) (N := 6) hx hb hw i_Progress hown hK hP 6 rfl rfl 1 (by decide) (hw _ m_205) (fun _ h9 => h9) rfl d_GraphSearch_canHappen_40 ?_
    refine lv_iload_n hx hb d_GraphSearch_canHappen_43 rfl (lv_at hl 0 rfl) ?_
    refine va_iald (D := (dC, dI)) hx hb hK hP 2 1 rfl rfl (i := nI ((pg 2) (q - 1))) (pk_in ((pg 2) (q - 1)) 4 (by omega)) d_GraphSearch_canHappen_44 ?_
    refine tp_i (y := nI (pl ((pg 2) (q - 1)))) (by rw [show (nI ((pg 2) (q - 1)) : Int32).toNatClampNeg = (pg 2) (q - 1) from pk_cl ((pg 2) (q - 1))]) ?_
    refine lv_icmp_ge (tgt := 50) hx hb d_GraphSearch_canHappen_45 (by decide) (fun c1 => ?_) (fun c1 => ?_)
    · skip
      have hc1 : pl ((pg 2) (q - 1)) ≤ (pg 3) (q - 1) := (nI_leI (a := pl ((pg 2) (q - 1))) (b := (pg 3) (q - 1)) (by omega) (by omega)).mp c1
      obtain ⟨t9x, et⟩ : ∃ t9x, t9x = pg 2 (q - 1) := ⟨_, rfl⟩
      have hcv : cHb pg pl dn wm q wq = cHp pg dn wm wq 4 t9x := by rw [cHb, if_neg nwb, if_neg (by omega), et]
      have tT : t9x < T := by rw [et]; exact k1
      replace hl : lv_has ls 5 [(3, .int (nI t9x)), (0, .ref xa), (1, .int (nI q)), (2, .int (nI wq))] := by rw [et]; exact hl
      refine tp_pc (pc' := 50) (by rfl) ?_
      refine lv_iconst (v := 0) hx hb d_GraphSearch_canHappen_50 (by decide) ?_
      refine lv_istore (lv' := [(4, .int 0), (3, .int (nI t9x)), (0, .ref xa), (1, .int (nI q)), (2, .int (nI wq))]) hx hb d_GraphSearch_canHappen_51 hl (by decide) rfl ?_
      clear hl ls
      intro ls hl
      rw [cHp] at hcv
      refine lv_iload hx hb d_GraphSearch_canHappen_53 (lv_at hl 0 rfl) ?_
      refine lv_iconst (v := 4) hx hb d_GraphSearch_canHappen_55 (by decide) ?_
      refine lv_icmp_ge (tgt := 99) hx hb d_GraphSearch_canHappen_56 (by decide) (fun c_4 => absurd c_4 (by decide)) (fun c_4 => ?_)
      refine tp_pc (pc' := 59) (by rfl) ?_
      refine lv_iload_n hx hb d_GraphSearch_canHappen_59 rfl (lv_at hl 1 rfl) ?_
      refine lv_iload_n hx hb d_GraphSearch_canHappen_60 rfl (lv_at hl 4 rfl) ?_
      refine lv_icmp_ne (tgt := 66) hx hb d_GraphSearch_canHappen_61 (by decide) (fun d1 => ?_) (fun d1 => ?_)
      · skip
        have hd1 : ¬ (t9x = wq) := fun q9 => d1 ((nI_eq (a := t9x) (b := wq) (by omega) (by omega)).mpr q9)
        rw [if_neg hd1] at hcv
        refine tp_pc (pc' := 66) (by rfl) ?_
        refine lv_aload_n hx hb d_GraphSearch_canHappen_66 rfl (lv_at hl 2 rfl) ?_
        refine lv_iload_n hx hb d_GraphSearch_canHappen_67 rfl (lv_at hl 1 rfl) ?_
        have hwt := hwm _ tT
        obtain ⟨hPc, hDc, hFc⟩ := cut3 (wc := [oc xa 6 [.ref pa, .ref ga, .ref (xA 0), .ref (xA 1), .ref (xA 2), .ref (xA 3), .ref (xA 4), .ref (xA 5), .ref (xA 6), .ref (xA 7), .ref (xA 8), .ref (xA 9), .ref (xA 10), .ref (xA 11), .ref fa, .int (nI md), .int (nI mb)], ia (xA 1) (xK 1) 4 (fun i0 => mN (wm i0)), oc ga 1 [.ref pa, .ref g1, .ref g2, .ref g3, .int (nI dn), .long so]]) hP hD rfl hS hA [0, 1, 6] (by decide +kernel) rfl
        have hKc := hK.sub (tys' := [((xK 1), .int)]) [0] rfl
        refine va_calli (va_runV (As := [.int (nI t9x)]) (rest := []) ⟨hx, hb, hml, hown, hw⟩ (gen_GS_isBlocked l dC dI pa g1 g2 g3 dn so xa ga fa xA xK md mb fm wm sc t9x (by omega) (by omega) hdn H.size) (cw_V 1 hw g_GraphSearch_isBlocked rfl rfl rfl (hw _ m_107) (hw _ m_769) (hw _ m_771) (hw _ m_34) (by decide +kernel) ⟨Nat.le_of_ble_eq_true rfl, Nat.le_of_ble_eq_true rfl⟩) ⟨fun a U g mk q => by obtain ⟨q0, q1, qP, qK, qD, qN⟩ := q; exact ⟨q0, q1, qP, va_K.moved (u := U) (U := U.calling g mk a) (Vm.Alike.refl U.vm) qK, qD, nw_call qN⟩, va_recv hKc hPc (ci := 6) (q0 := 0) rfl rfl, fun U hU hW => ⟨rfl, by rw [hU], by rw [hU]; exact hPc, va_K.moved hW.alike hKc, hDc.weaken (fun _ _ _ _ => trivial), nw_warm hW hn⟩⟩ rfl rfl hl.1 rfl (lv_room (Nat.le_of_ble_eq_true rfl)) d_GraphSearch_canHappen_68 ⟨Nat.le_of_ble_eq_true rfl, Nat.le_of_ble_eq_true rfl⟩) hS (fun q _ h => hFc q h) hFc ?_
        intro r_5 u t9 H1 locs1 ht9 hvm hw1 hB hz1 hk1 hS1
        obtain ⟨hP1, hK1, hD1⟩ := hB
        rw [ht9] at hP1
        replace hK1 := va_K.moved hvm.symm hK1
        have hPD := join3 hP hD rfl [0, 1, 6] [2, 3, 4, 5] rfl (by rfl) (by decide +kernel) (by decide +kernel) hk1 hFc hP1 hD1
        replace hK : va_K (dC, dI) classes [((xK 1), .int), (l1, .int), ((pK 2), .int), ((pK 3), .int)] s := hK.app hK1
        clear hP1 hK1 hD1 hk1 hz1 hFc hKc hDc hPc hvm ht9 hP hS t9 locs H
        have hP : va_P (dC, dI) classes [ia g1 l1 4 (fun i => nI (pl i)), oc pa 0 [.ref (pA 0), .ref (pA 1), .ref (pA 2), .ref (pA 3), .ref (pA 4), .ref (pA 5), .ref (pA 6), .ref (pA 7), .ref (pA 8), .ref (pA 9), .ref (pA 10), .int (nI T), .int (nI Ac)], ia (pA 2) (pK 2) 7 (fun i => nI ((pg 2) i)), ia (pA 3) (pK 3) 7 (fun i => nI ((pg 3) i)), oc xa 6 [.ref pa, .ref ga, .ref (xA 0), .ref (xA 1), .ref (xA 2), .ref (xA 3), .ref (xA 4), .ref (xA 5), .ref (xA 6), .ref (xA 7), .ref (xA 8), .ref (xA 9), .ref (xA 10), .ref (xA 11), .ref fa, .int (nI md), .int (nI mb)], ia (xA 1) (xK 1) 4 (fun i0 => mN (wm i0)), oc ga 1 [.ref pa, .ref g1, .ref g2, .ref g3, .int (nI dn), .long so]] H1 := hPD.1
        replace hD : dd A [g1, pa, (pA 2), (pA 3), xa, (xA 1), ga] := dd_of hPD.2 rfl
        clear hPD
        revert H1 locs1
        intro H locs hS hP
        refine tp_i (y := (if blk dn wm t9x then 1 else 0)) (hw1) ?_
        clear hw1 r_5 u
        cases hbk : blk dn wm t9x with
        | false =>
          rw [if_neg (by decide : ¬ (false = true))]
          rw [if_pos hbk] at hcv
          refine tp_pc (pc' := 71) (by rfl) ?_
          refine lv_if_ne (tgt := 76) hx hb d_GraphSearch_canHappen_71 (by decide) (fun c_6 => absurd c_6 (by decide)) (fun c_6 => ?_)
          refine tp_pc (pc' := 74) (by rfl) ?_
          refine lv_iconst (v := 1) hx hb d_GraphSearch_canHappen_74 (by decide) ?_
          obtain ⟨hP9, hD9, -⟩ := cut3 (wc := [oc xa 6 [.ref pa, .ref ga, .ref (xA 0), .ref (xA 1), .ref (xA 2), .ref (xA 3), .ref (xA 4), .ref (xA 5), .ref (xA 6), .ref (xA 7), .ref (xA 8), .ref (xA 9), .ref (xA 10), .ref (xA 11), .ref fa, .int (nI md), .int (nI mb)], ia (xA 1) (xK 1) 4 (fun i0 => mN (wm i0)), oc ga 1 [.ref pa, .ref g1, .ref g2, .ref g3, .int (nI dn), .long so], ia g1 l1 4 (fun i => nI (pl i)), oc pa 0 [.ref (pA 0), .ref (pA 1), .ref (pA 2), .ref (pA 3), .ref (pA 4), .ref (pA 5), .ref (pA 6), .ref (pA 7), .ref (pA 8), .ref (pA 9), .ref (pA 10), .int (nI T), .int (nI Ac)], ia (pA 2) (pK 2) 7 (fun i => nI ((pg 2) i)), ia (pA 3) (pK 3) 7 (fun i => nI ((pg 3) i))]) hP hD rfl hS hA [4, 5, 6, 0, 1, 2, 3] (by decide +kernel) rfl
          have hK9 := hK.sub (tys' := []) [] rfl
          refine W.widen (k := 0) (n := 0) (by exact Nat.le_of_ble_eq_true rfl) (by exact Nat.le_of_ble_eq_true rfl) ?_
          exact W.zret (v := 1) (ty := .boolean) hx hb hr (by decide) (fun t9 ht9 hW => ⟨⟨1, (), rfl, by rw [hcv]; rfl, by rw [ht9]; exact hP9, va_K.moved hW.alike hK9, hD9⟩, hS.F ht9⟩) hS.2.2 d_GraphSearch_canHappen_75
        | true =>
          rw [if_pos (rfl : true = true)]
          rw [if_neg (by rw [hbk]; decide)] at hcv
          have w2 : 2 ≤ wm t9x := by
            unfold blk at hbk; rw [Bool.and_eq_true] at hbk
            rcases Nat.lt_or_ge (wm t9x) 2 with h | h
            · rcases (by omega : wm t9x = 0 ∨ wm t9x = 1) with h0 | h0 <;> rw [h0] at hbk <;> exact absurd hbk (by unfold wrb; simp)
            · exact h
          refine tp_pc (pc' := 71) (by rfl) ?_
          refine lv_if_ne (tgt := 76) hx hb d_GraphSearch_canHappen_71 (by decide) (fun c_7 => ?_) (fun c_7 => absurd c_7 (by decide))
          refine tp_pc (pc' := 76) (by rfl) ?_
          refine lv_aload_n hx hb d_GraphSearch_canHappen_76 rfl (lv_at hl 2 rfl) ?_
          refine va_get (D := (dC, dI)) (ci := 6) (v := .ref pa) (C := R_GraphSearch) (T := F_GraphSearch) (N := 17) hx hb hw i_GraphSearch hown hK hP 4 rfl rfl 0 (by decide) (hw _ m_319) (fun _ h9 => h9) rfl d_GraphSearch_canHappen_77 ?_
          refine va_get (D := (dC, dI)) (ci := 0) (v := .ref (pA 2)) (C := R_Program) (T := F_Program) (N := 13) hx hb hw i_Program hown hK hP 1 rfl rfl 2 (by decide) (hw _ m_134) (fun _ h9 => h9) rfl d_GraphSearch_canHappen_80 ?_
          refine lv_aload_n hx hb d_GraphSearch_canHappen_83 rfl (lv_at hl 2 rfl) ?_
          refine va_get (D := (dC, dI)) (ci := 6) (v := .ref (xA 1)) (C := R_GraphSearch) (T := F_GraphSearch) (N := 17) hx hb hw i_GraphSearch hown hK hP 4 rfl rfl 3 (by decide) (hw _ m_322) (fun _ h9 => h9) rfl d_GraphSearch_canHappen_84 ?_
          refine lv_iload_n hx hb d_GraphSearch_canHappen_87 rfl (lv_at hl 1 rfl) ?_
          refine va_iald (D := (dC, dI)) hx hb hK hP 5 0 rfl rfl (i := nI t9x) (pk_in t9x 4 (by omega)) d_GraphSearch_canHappen_88 ?_
          refine tp_i (y := (fun i0 => mN (wm i0)) t9x) (by rw [show (nI t9x : Int32).toNatClampNeg = t9x from pk_cl t9x]) ?_
          refine tp_i (y := nI (wm t9x - 1)) (mN_s (by omega)) ?_
          have tT2 := (p5 (wm t9x - 1 - 1) (by omega)).1
          refine lv_iconst (v := 1) hx hb d_GraphSearch_canHappen_89 (by decide) ?_
          refine lv_isub hx hb d_GraphSearch_canHappen_90 ?_
          refine tp_i (y := nI (wm t9x - 1 - 1)) (by exact pk_sub (a := wm t9x - 1) (b := 1) (by omega)) ?_
          refine va_iald (D := (dC, dI)) hx hb hK hP 2 2 rfl rfl (i := nI (wm t9x - 1 - 1)) (pk_in (wm t9x - 1 - 1) 7 (by omega)) d_GraphSearch_canHappen_91 ?_
          refine tp_i (y := nI ((pg 2) (wm t9x - 1 - 1))) (by rw [show (nI (wm t9x - 1 - 1) : Int32).toNatClampNeg = wm t9x - 1 - 1 from pk_cl (wm t9x - 1 - 1)]) ?_
          obtain ⟨t4, et4⟩ : ∃ t4, t4 = pg 2 (wm t9x - 1 - 1) := ⟨_, rfl⟩
          rw [← et4] at tT2 hcv
          refine tp_i (y := nI t4) (by rw [et4]) ?_
          have tT := tT2
          refine lv_istore_n (lv' := [(3, .int (nI t4)), (4, .int 0), (0, .ref xa), (1, .int (nI q)), (2, .int (nI wq))]) hx hb d_GraphSearch_canHappen_92 rfl hl (by decide) rfl ?_
          clear hl ls
          intro ls hl
          refine lv_iinc (v := 1) (lv' := [(4, .int 1), (3, .int (nI t4)), (0, .ref xa), (1, .int (nI q)), (2, .int (nI wq))]) hx hb d_GraphSearch_canHappen_93 hl (k := 1) rfl (by first | rfl | decide) (by decide) rfl ?_
          clear hl ls
          intro ls hl
          refine lv_goto (tgt := 53) hx hb d_GraphSearch_canHappen_96 (by decide) ?_
          refine tp_pc (pc' := 53) (by rfl) ?_
          rw [cHp] at hcv
          refine lv_iload hx hb d_GraphSearch_canHappen_53 (lv_at hl 0 rfl) ?_
          refine lv_iconst (v := 4) hx hb d_GraphSearch_canHappen_55 (by decide) ?_
          refine lv_icmp_ge (tgt := 99) hx hb d_GraphSearch_canHappen_56 (by decide) (fun c_8 => absurd c_8 (by decide)) (fun c_8 => ?_)
          refine tp_pc (pc' := 59) (by rfl) ?_
          refine lv_iload_n hx hb d_GraphSearch_canHappen_59 rfl (lv_at hl 1 rfl) ?_
          refine lv_iload_n hx hb d_GraphSearch_canHappen_60 rfl (lv_at hl 4 rfl) ?_
          refine lv_icmp_ne (tgt := 66) hx hb d_GraphSearch_canHappen_61 (by decide) (fun d1 => ?_) (fun d1 => ?_)
          · skip
            have hd1 : ¬ (t4 = wq) := fun q9 => d1 ((nI_eq (a := t4) (b := wq) (by omega) (by omega)).mpr q9)
            rw [if_neg hd1] at hcv
            refine tp_pc (pc' := 66) (by rfl) ?_
            refine lv_aload_n hx hb d_GraphSearch_canHappen_66 rfl (lv_at hl 2 rfl) ?_
            refine lv_iload_n hx hb d_GraphSearch_canHappen_67 rfl (lv_at hl 1 rfl) ?_
            have hwt := hwm _ tT
            obtain ⟨hPc, hDc, hFc⟩ := cut3 (wc := [oc xa 6 [.ref pa, .ref ga, .ref (xA 0), .ref (xA 1), .ref (xA 2), .ref (xA 3), .ref (xA 4), .ref (xA 5), .ref (xA 6), .ref (xA 7), .ref (xA 8), .ref (xA 9), .ref (xA 10), .ref (xA 11), .ref fa, .int (nI md), .int (nI mb)], ia (xA 1) (xK 1) 4 (fun i0 => mN (wm i0)), oc ga 1 [.ref pa, .ref g1, .ref g2, .ref g3, .int (nI dn), .long so]]) hP hD rfl hS hA [4, 5, 6] (by decide +kernel) rfl
            have hKc := hK.sub (tys' := [((xK 1), .int)]) [0] rfl
            refine va_calli (va_runV (As := [.int (nI t4)]) (rest := []) ⟨hx, hb, hml, hown, hw⟩ (gen_GS_isBlocked l dC dI pa g1 g2 g3 dn so xa ga fa xA xK md mb fm wm sc t4 (by omega) (by omega) hdn H.size) (cw_V 1 hw g_GraphSearch_isBlocked rfl rfl rfl (hw _ m_107) (hw _ m_769) (hw _ m_771) (hw _ m_34) (by decide +kernel) ⟨Nat.le_of_ble_eq_true rfl, Nat.le_of_ble_eq_true rfl⟩) ⟨fun a U g mk q => by obtain ⟨q0, q1, qP, qK, qD, qN⟩ := q; exact ⟨q0, q1, qP, va_K.moved (u := U) (U := U.calling g mk a) (Vm.Alike.refl U.vm) qK, qD, nw_call qN⟩, va_recv hKc hPc (ci := 6) (q0 := 0) rfl rfl, fun U hU hW => ⟨rfl, by rw [hU], by rw [hU]; exact hPc, va_K.moved hW.alike hKc, hDc.weaken (fun _ _ _ _ => trivial), nw_warm hW hn⟩⟩ rfl rfl hl.1 rfl (lv_room (Nat.le_of_ble_eq_true rfl)) d_GraphSearch_canHappen_68 ⟨Nat.le_of_ble_eq_true rfl, Nat.le_of_ble_eq_true rfl⟩) hS (fun q _ h => hFc q h) hFc ?_
            intro r_9 u t9 H1 locs1 ht9 hvm hw1 hB hz1 hk1 hS1
            obtain ⟨hP1, hK1, hD1⟩ := hB
            rw [ht9] at hP1
            replace hK1 := va_K.moved hvm.symm hK1
            have hPD := join3 hP hD rfl [4, 5, 6] [0, 1, 2, 3] rfl (by rfl) (by decide +kernel) (by decide +kernel) hk1 hFc hP1 hD1
            replace hK : va_K (dC, dI) classes [((xK 1), .int), (l1, .int), ((pK 2), .int), ((pK 3), .int)] s := hK.app hK1
            clear hP1 hK1 hD1 hk1 hz1 hFc hKc hDc hPc hvm ht9 hP hS t9 locs H
            have hP : va_P (dC, dI) classes [ia g1 l1 4 (fun i => nI (pl i)), oc pa 0 [.ref (pA 0), .ref (pA 1), .ref (pA 2), .ref (pA 3), .ref (pA 4), .ref (pA 5), .ref (pA 6), .ref (pA 7), .ref (pA 8), .ref (pA 9), .ref (pA 10), .int (nI T), .int (nI Ac)], ia (pA 2) (pK 2) 7 (fun i => nI ((pg 2) i)), ia (pA 3) (pK 3) 7 (fun i => nI ((pg 3) i)), oc xa 6 [.ref pa, .ref ga, .ref (xA 0), .ref (xA 1), .ref (xA 2), .ref (xA 3), .ref (xA 4), .ref (xA 5), .ref (xA 6), .ref (xA 7), .ref (xA 8), .ref (xA 9), .ref (xA 10), .ref (xA 11), .ref fa, .int (nI md), .int (nI mb)], ia (xA 1) (xK 1) 4 (fun i0 => mN (wm i0)), oc ga 1 [.ref pa, .ref g1, .ref g2, .ref g3, .int (nI dn), .long so]] H1 := hPD.1
            replace hD : dd A [g1, pa, (pA 2), (pA 3), xa, (xA 1), ga] := dd_of hPD.2 rfl
            clear hPD
            revert H1 locs1
            intro H locs hS hP
            refine tp_i (y := (if blk dn wm t4 then 1 else 0)) (hw1) ?_
            clear hw1 r_9 u
            cases hbk : blk dn wm t4 with
            | false =>
              rw [if_neg (by decide : ¬ (false = true))]
              rw [if_pos hbk] at hcv
              refine tp_pc (pc' := 71) (by rfl) ?_
              refine lv_if_ne (tgt := 76) hx hb d_GraphSearch_canHappen_71 (by decide) (fun c_10 => absurd c_10 (by decide)) (fun c_10 => ?_)
              refine tp_pc (pc' := 74) (by rfl) ?_
              refine lv_iconst (v := 1) hx hb d_GraphSearch_canHappen_74 (by decide) ?_
              obtain ⟨hP9, hD9, -⟩ := cut3 (wc := [oc xa 6 [.ref pa, .ref ga, .ref (xA 0), .ref (xA 1), .ref (xA 2), .ref (xA 3), .ref (xA 4), .ref (xA 5), .ref (xA 6), .ref (xA 7), .ref (xA 8), .ref (xA 9), .ref (xA 10), .ref (xA 11), .ref fa, .int (nI md), .int (nI mb)], ia (xA 1) (xK 1) 4 (fun i0 => mN (wm i0)), oc ga 1 [.ref pa, .ref g1, .ref g2, .ref g3, .int (nI dn), .long so], ia g1 l1 4 (fun i => nI (pl i)), oc pa 0 [.ref (pA 0), .ref (pA 1), .ref (pA 2), .ref (pA 3), .ref (pA 4), .ref (pA 5), .ref (pA 6), .ref (pA 7), .ref (pA 8), .ref (pA 9), .ref (pA 10), .int (nI T), .int (nI Ac)], ia (pA 2) (pK 2) 7 (fun i => nI ((pg 2) i)), ia (pA 3) (pK 3) 7 (fun i => nI ((pg 3) i))]) hP hD rfl hS hA [4, 5, 6, 0, 1, 2, 3] (by decide +kernel) rfl
              have hK9 := hK.sub (tys' := []) [] rfl
              refine W.widen (k := 0) (n := 0) (by exact Nat.le_of_ble_eq_true rfl) (by exact Nat.le_of_ble_eq_true rfl) ?_
              exact W.zret (v := 1) (ty := .boolean) hx hb hr (by decide) (fun t9 ht9 hW => ⟨⟨1, (), rfl, by rw [hcv]; rfl, by rw [ht9]; exact hP9, va_K.moved hW.alike hK9, hD9⟩, hS.F ht9⟩) hS.2.2 d_GraphSearch_canHappen_75
            | true =>
              rw [if_pos (rfl : true = true)]
              rw [if_neg (by rw [hbk]; decide)] at hcv
              have w2 : 2 ≤ wm t4 := by
                unfold blk at hbk; rw [Bool.and_eq_true] at hbk
                rcases Nat.lt_or_ge (wm t4) 2 with h | h
                · rcases (by omega : wm t4 = 0 ∨ wm t4 = 1) with h0 | h0 <;> rw [h0] at hbk <;> exact absurd hbk (by unfold wrb; simp)
                · exact h
              refine tp_pc (pc' := 71) (by rfl) ?_
              refine lv_if_ne (tgt := 76) hx hb d_GraphSearch_canHappen_71 (by decide) (fun c_11 => ?_) (fun c_11 => absurd c_11 (by decide))
              refine tp_pc (pc' := 76) (by rfl) ?_
              refine lv_aload_n hx hb d_GraphSearch_canHappen_76 rfl (lv_at hl 2 rfl) ?_
              refine va_get (D := (dC, dI)) (ci := 6) (v := .ref pa) (C := R_GraphSearch) (T := F_GraphSearch) (N := 17) hx hb hw i_GraphSearch hown hK hP 4 rfl rfl 0 (by decide) (hw _ m_319) (fun _ h9 => h9) rfl d_GraphSearch_canHappen_77 ?_
              refine va_get (D := (dC, dI)) (ci := 0) (v := .ref (pA 2)) (C := R_Program) (T := F_Program) (N := 13) hx hb hw i_Program hown hK hP 1 rfl rfl 2 (by decide) (hw _ m_134) (fun _ h9 => h9) rfl d_GraphSearch_canHappen_80 ?_
              refine lv_aload_n hx hb d_GraphSearch_canHappen_83 rfl (lv_at hl 2 rfl) ?_
              refine va_get (D := (dC, dI)) (ci := 6) (v := .ref (xA 1)) (C := R_GraphSearch) (T := F_GraphSearch) (N := 17) hx hb hw i_GraphSearch hown hK hP 4 rfl rfl 3 (by decide) (hw _ m_322) (fun _ h9 => h9) rfl d_GraphSearch_canHappen_84 ?_
              refine lv_iload_n hx hb d_GraphSearch_canHappen_87 rfl (lv_at hl 1 rfl) ?_
              refine va_iald (D := (dC, dI)) hx hb hK hP 5 0 rfl rfl (i := nI t4) (pk_in t4 4 (by omega)) d_GraphSearch_canHappen_88 ?_
              refine tp_i (y := (fun i0 => mN (wm i0)) t4) (by rw [show (nI t4 : Int32).toNatClampNeg = t4 from pk_cl t4]) ?_
              refine tp_i (y := nI (wm t4 - 1)) (mN_s (by omega)) ?_
              have tT2 := (p5 (wm t4 - 1 - 1) (by omega)).1
              refine lv_iconst (v := 1) hx hb d_GraphSearch_canHappen_89 (by decide) ?_
              refine lv_isub hx hb d_GraphSearch_canHappen_90 ?_
              refine tp_i (y := nI (wm t4 - 1 - 1)) (by exact pk_sub (a := wm t4 - 1) (b := 1) (by omega)) ?_
              refine va_iald (D := (dC, dI)) hx hb hK hP 2 2 rfl rfl (i := nI (wm t4 - 1 - 1)) (pk_in (wm t4 - 1 - 1) 7 (by omega)) d_GraphSearch_canHappen_91 ?_
              refine tp_i (y := nI ((pg 2) (wm t4 - 1 - 1))) (by rw [show (nI (wm t4 - 1 - 1) : Int32).toNatClampNeg = wm t4 - 1 - 1 from pk_cl (wm t4 - 1 - 1)]) ?_
              obtain ⟨t3, et3⟩ : ∃ t3, t3 = pg 2 (wm t4 - 1 - 1) := ⟨_, rfl⟩
              rw [← et3] at tT2 hcv
              refine tp_i (y := nI t3) (by rw [et3]) ?_
              have tT := tT2
              refine lv_istore_n (lv' := [(3, .int (nI t3)), (4, .int 1), (0, .ref xa), (1, .int (nI q)), (2, .int (nI wq))]) hx hb d_GraphSearch_canHappen_92 rfl hl (by decide) rfl ?_
              clear hl ls
              intro ls hl
              refine lv_iinc (v := 2) (lv' := [(4, .int 2), (3, .int (nI t3)), (0, .ref xa), (1, .int (nI q)), (2, .int (nI wq))]) hx hb d_GraphSearch_canHappen_93 hl (k := 1) rfl (by first | rfl | decide) (by decide) rfl ?_
              clear hl ls
              intro ls hl
              refine lv_goto (tgt := 53) hx hb d_GraphSearch_canHappen_96 (by decide) ?_
              refine tp_pc (pc' := 53) (by rfl) ?_
              rw [cHp] at hcv
              refine lv_iload hx hb d_GraphSearch_canHappen_53 (lv_at hl 0 rfl) ?_
              refine lv_iconst (v := 4) hx hb d_GraphSearch_canHappen_55 (by decide) ?_
              refine lv_icmp_ge (tgt := 99) hx hb d_GraphSearch_canHappen_56 (by decide) (fun c_12 => absurd c_12 (by decide)) (fun c_12 => ?_)
              refine tp_pc (pc' := 59) (by rfl) ?_
              refine lv_iload_n hx hb d_GraphSearch_canHappen_59 rfl (lv_at hl 1 rfl) ?_
              refine lv_iload_n hx hb d_GraphSearch_canHappen_60 rfl (lv_at hl 4 rfl) ?_
              refine lv_icmp_ne (tgt := 66) hx hb d_GraphSearch_canHappen_61 (by decide) (fun d1 => ?_) (fun d1 => ?_)
              · skip
                have hd1 : ¬ (t3 = wq) := fun q9 => d1 ((nI_eq (a := t3) (b := wq) (by omega) (by omega)).mpr q9)
                rw [if_neg hd1] at hcv
                refine tp_pc (pc' := 66) (by rfl) ?_
                refine lv_aload_n hx hb d_GraphSearch_canHappen_66 rfl (lv_at hl 2 rfl) ?_
                refine lv_iload_n hx hb d_GraphSearch_canHappen_67 rfl (lv_at hl 1 rfl) ?_
                have hwt := hwm _ tT
                obtain ⟨hPc, hDc, hFc⟩ := cut3 (wc := [oc xa 6 [.ref pa, .ref ga, .ref (xA 0), .ref (xA 1), .ref (xA 2), .ref (xA 3), .ref (xA 4), .ref (xA 5), .ref (xA 6), .ref (xA 7), .ref (xA 8), .ref (xA 9), .ref (xA 10), .ref (xA 11), .ref fa, .int (nI md), .int (nI mb)], ia (xA 1) (xK 1) 4 (fun i0 => mN (wm i0)), oc ga 1 [.ref pa, .ref g1, .ref g2, .ref g3, .int (nI dn), .long so]]) hP hD rfl hS hA [4, 5, 6] (by decide +kernel) rfl
                have hKc := hK.sub (tys' := [((xK 1), .int)]) [0] rfl
                refine va_calli (va_runV (As := [.int (nI t3)]) (rest := []) ⟨hx, hb, hml, hown, hw⟩ (gen_GS_isBlocked l dC dI pa g1 g2 g3 dn so xa ga fa xA xK md mb fm wm sc t3 (by omega) (by omega) hdn H.size) (cw_V 1 hw g_GraphSearch_isBlocked rfl rfl rfl (hw _ m_107) (hw _ m_769) (hw _ m_771) (hw _ m_34) (by decide +kernel) ⟨Nat.le_of_ble_eq_true rfl, Nat.le_of_ble_eq_true rfl⟩) ⟨fun a U g mk q => by obtain ⟨q0, q1, qP, qK, qD, qN⟩ := q; exact ⟨q0, q1, qP, va_K.moved (u := U) (U := U.calling g mk a) (Vm.Alike.refl U.vm) qK, qD, nw_call qN⟩, va_recv hKc hPc (ci := 6) (q0 := 0) rfl rfl, fun U hU hW => ⟨rfl, by rw [hU], by rw [hU]; exact hPc, va_K.moved hW.alike hKc, hDc.weaken (fun _ _ _ _ => trivial), nw_warm hW hn⟩⟩ rfl rfl hl.1 rfl (lv_room (Nat.le_of_ble_eq_true rfl)) d_GraphSearch_canHappen_68 ⟨Nat.le_of_ble_eq_true rfl, Nat.le_of_ble_eq_true rfl⟩) hS (fun q _ h => hFc q h) hFc ?_
                intro r_13 u t9 H1 locs1 ht9 hvm hw1 hB hz1 hk1 hS1
                obtain ⟨hP1, hK1, hD1⟩ := hB
                rw [ht9] at hP1
                replace hK1 := va_K.moved hvm.symm hK1
                have hPD := join3 hP hD rfl [4, 5, 6] [0, 1, 2, 3] rfl (by rfl) (by decide +kernel) (by decide +kernel) hk1 hFc hP1 hD1
                replace hK : va_K (dC, dI) classes [((xK 1), .int), (l1, .int), ((pK 2), .int), ((pK 3), .int)] s := hK.app hK1
                clear hP1 hK1 hD1 hk1 hz1 hFc hKc hDc hPc hvm ht9 hP hS t9 locs H
                have hP : va_P (dC, dI) classes [ia g1 l1 4 (fun i => nI (pl i)), oc pa 0 [.ref (pA 0), .ref (pA 1), .ref (pA 2), .ref (pA 3), .ref (pA 4), .ref (pA 5), .ref (pA 6), .ref (pA 7), .ref (pA 8), .ref (pA 9), .ref (pA 10), .int (nI T), .int (nI Ac)], ia (pA 2) (pK 2) 7 (fun i => nI ((pg 2) i)), ia (pA 3) (pK 3) 7 (fun i => nI ((pg 3) i)), oc xa 6 [.ref pa, .ref ga, .ref (xA 0), .ref (xA 1), .ref (xA 2), .ref (xA 3), .ref (xA 4), .ref (xA 5), .ref (xA 6), .ref (xA 7), .ref (xA 8), .ref (xA 9), .ref (xA 10), .ref (xA 11), .ref fa, .int (nI md), .int (nI mb)], ia (xA 1) (xK 1) 4 (fun i0 => mN (wm i0)), oc ga 1 [.ref pa, .ref g1, .ref g2, .ref g3, .int (nI dn), .long so]] H1 := hPD.1
                replace hD : dd A [g1, pa, (pA 2), (pA 3), xa, (xA 1), ga] := dd_of hPD.2 rfl
                clear hPD
                revert H1 locs1
                intro H locs hS hP
                refine tp_i (y := (if blk dn wm t3 then 1 else 0)) (hw1) ?_
                clear hw1 r_13 u
                cases hbk : blk dn wm t3 with
                | false =>
                  rw [if_neg (by decide : ¬ (false = true))]
                  rw [if_pos hbk] at hcv
                  refine tp_pc (pc' := 71) (by rfl) ?_
                  refine lv_if_ne (tgt := 76) hx hb d_GraphSearch_canHappen_71 (by decide) (fun c_14 => absurd c_14 (by decide)) (fun c_14 => ?_)
                  refine tp_pc (pc' := 74) (by rfl) ?_
                  refine lv_iconst (v := 1) hx hb d_GraphSearch_canHappen_74 (by decide) ?_
                  obtain ⟨hP9, hD9, -⟩ := cut3 (wc := [oc xa 6 [.ref pa, .ref ga, .ref (xA 0), .ref (xA 1), .ref (xA 2), .ref (xA 3), .ref (xA 4), .ref (xA 5), .ref (xA 6), .ref (xA 7), .ref (xA 8), .ref (xA 9), .ref (xA 10), .ref (xA 11), .ref fa, .int (nI md), .int (nI mb)], ia (xA 1) (xK 1) 4 (fun i0 => mN (wm i0)), oc ga 1 [.ref pa, .ref g1, .ref g2, .ref g3, .int (nI dn), .long so], ia g1 l1 4 (fun i => nI (pl i)), oc pa 0 [.ref (pA 0), .ref (pA 1), .ref (pA 2), .ref (pA 3), .ref (pA 4), .ref (pA 5), .ref (pA 6), .ref (pA 7), .ref (pA 8), .ref (pA 9), .ref (pA 10), .int (nI T), .int (nI Ac)], ia (pA 2) (pK 2) 7 (fun i => nI ((pg 2) i)), ia (pA 3) (pK 3) 7 (fun i => nI ((pg 3) i))]) hP hD rfl hS hA [4, 5, 6, 0, 1, 2, 3] (by decide +kernel) rfl
                  have hK9 := hK.sub (tys' := []) [] rfl
                  refine W.widen (k := 0) (n := 0) (by exact Nat.le_of_ble_eq_true rfl) (by exact Nat.le_of_ble_eq_true rfl) ?_
                  exact W.zret (v := 1) (ty := .boolean) hx hb hr (by decide) (fun t9 ht9 hW => ⟨⟨1, (), rfl, by rw [hcv]; rfl, by rw [ht9]; exact hP9, va_K.moved hW.alike hK9, hD9⟩, hS.F ht9⟩) hS.2.2 d_GraphSearch_canHappen_75
                | true =>
                  rw [if_pos (rfl : true = true)]
                  rw [if_neg (by rw [hbk]; decide)] at hcv
                  have w2 : 2 ≤ wm t3 := by
                    unfold blk at hbk; rw [Bool.and_eq_true] at hbk
                    rcases Nat.lt_or_ge (wm t3) 2 with h | h
                    · rcases (by omega : wm t3 = 0 ∨ wm t3 = 1) with h0 | h0 <;> rw [h0] at hbk <;> exact absurd hbk (by unfold wrb; simp)
                    · exact h
                  refine tp_pc (pc' := 71) (by rfl) ?_
                  refine lv_if_ne (tgt := 76) hx hb d_GraphSearch_canHappen_71 (by decide) (fun c_15 => ?_) (fun c_15 => absurd c_15 (by decide))
                  refine tp_pc (pc' := 76) (by rfl) ?_
                  refine lv_aload_n hx hb d_GraphSearch_canHappen_76 rfl (lv_at hl 2 rfl) ?_
                  refine va_get (D := (dC, dI)) (ci := 6) (v := .ref pa) (C := R_GraphSearch) (T := F_GraphSearch) (N := 17) hx hb hw i_GraphSearch hown hK hP 4 rfl rfl 0 (by decide) (hw _ m_319) (fun _ h9 => h9) rfl d_GraphSearch_canHappen_77 ?_
                  refine va_get (D := (dC, dI)) (ci := 0) (v := .ref (pA 2)) (C := R_Program) (T := F_Program) (N := 13) hx hb hw i_Program hown hK hP 1 rfl rfl 2 (by decide) (hw _ m_134) (fun _ h9 => h9) rfl d_GraphSearch_canHappen_80 ?_
                  refine lv_aload_n hx hb d_GraphSearch_canHappen_83 rfl (lv_at hl 2 rfl) ?_
                  refine va_get (D := (dC, dI)) (ci := 6) (v := .ref (xA 1)) (C := R_GraphSearch) (T := F_GraphSearch) (N := 17) hx hb hw i_GraphSearch hown hK hP 4 rfl rfl 3 (by decide) (hw _ m_322) (fun _ h9 => h9) rfl d_GraphSearch_canHappen_84 ?_
                  refine lv_iload_n hx hb d_GraphSearch_canHappen_87 rfl (lv_at hl 1 rfl) ?_
                  refine va_iald (D := (dC, dI)) hx hb hK hP 5 0 rfl rfl (i := nI t3) (pk_in t3 4 (by omega)) d_GraphSearch_canHappen_88 ?_
                  refine tp_i (y := (fun i0 => mN (wm i0)) t3) (by rw [show (nI t3 : Int32).toNatClampNeg = t3 from pk_cl t3]) ?_
                  refine tp_i (y := nI (wm t3 - 1)) (mN_s (by omega)) ?_
                  have tT2 := (p5 (wm t3 - 1 - 1) (by omega)).1
                  refine lv_iconst (v := 1) hx hb d_GraphSearch_canHappen_89 (by decide) ?_
                  refine lv_isub hx hb d_GraphSearch_canHappen_90 ?_
                  refine tp_i (y := nI (wm t3 - 1 - 1)) (by exact pk_sub (a := wm t3 - 1) (b := 1) (by omega)) ?_
                  refine va_iald (D := (dC, dI)) hx hb hK hP 2 2 rfl rfl (i := nI (wm t3 - 1 - 1)) (pk_in (wm t3 - 1 - 1) 7 (by omega)) d_GraphSearch_canHappen_91 ?_
                  refine tp_i (y := nI ((pg 2) (wm t3 - 1 - 1))) (by rw [show (nI (wm t3 - 1 - 1) : Int32).toNatClampNeg = wm t3 - 1 - 1 from pk_cl (wm t3 - 1 - 1)]) ?_
                  obtain ⟨t2, et2⟩ : ∃ t2, t2 = pg 2 (wm t3 - 1 - 1) := ⟨_, rfl⟩
                  rw [← et2] at tT2 hcv
                  refine tp_i (y := nI t2) (by rw [et2]) ?_
                  have tT := tT2
                  refine lv_istore_n (lv' := [(3, .int (nI t2)), (4, .int 2), (0, .ref xa), (1, .int (nI q)), (2, .int (nI wq))]) hx hb d_GraphSearch_canHappen_92 rfl hl (by decide) rfl ?_
                  clear hl ls
                  intro ls hl
                  refine lv_iinc (v := 3) (lv' := [(4, .int 3), (3, .int (nI t2)), (0, .ref xa), (1, .int (nI q)), (2, .int (nI wq))]) hx hb d_GraphSearch_canHappen_93 hl (k := 1) rfl (by first | rfl | decide) (by decide) rfl ?_
                  clear hl ls
                  intro ls hl
                  refine lv_goto (tgt := 53) hx hb d_GraphSearch_canHappen_96 (by decide) ?_
                  refine tp_pc (pc' := 53) (by rfl) ?_
                  rw [cHp] at hcv
                  refine lv_iload hx hb d_GraphSearch_canHappen_53 (lv_at hl 0 rfl) ?_
                  refine lv_iconst (v := 4) hx hb d_GraphSearch_canHappen_55 (by decide) ?_
                  refine lv_icmp_ge (tgt := 99) hx hb d_GraphSearch_canHappen_56 (by decide) (fun c_16 => absurd c_16 (by decide)) (fun c_16 => ?_)
                  refine tp_pc (pc' := 59) (by rfl) ?_
                  refine lv_iload_n hx hb d_GraphSearch_canHappen_59 rfl (lv_at hl 1 rfl) ?_
                  refine lv_iload_n hx hb d_GraphSearch_canHappen_60 rfl (lv_at hl 4 rfl) ?_
                  refine lv_icmp_ne (tgt := 66) hx hb d_GraphSearch_canHappen_61 (by decide) (fun d1 => ?_) (fun d1 => ?_)
                  · skip
                    have hd1 : ¬ (t2 = wq) := fun q9 => d1 ((nI_eq (a := t2) (b := wq) (by omega) (by omega)).mpr q9)
                    rw [if_neg hd1] at hcv
                    refine tp_pc (pc' := 66) (by rfl) ?_
                    refine lv_aload_n hx hb d_GraphSearch_canHappen_66 rfl (lv_at hl 2 rfl) ?_
                    refine lv_iload_n hx hb d_GraphSearch_canHappen_67 rfl (lv_at hl 1 rfl) ?_
                    have hwt := hwm _ tT
                    obtain ⟨hPc, hDc, hFc⟩ := cut3 (wc := [oc xa 6 [.ref pa, .ref ga, .ref (xA 0), .ref (xA 1), .ref (xA 2), .ref (xA 3), .ref (xA 4), .ref (xA 5), .ref (xA 6), .ref (xA 7), .ref (xA 8), .ref (xA 9), .ref (xA 10), .ref (xA 11), .ref fa, .int (nI md), .int (nI mb)], ia (xA 1) (xK 1) 4 (fun i0 => mN (wm i0)), oc ga 1 [.ref pa, .ref g1, .ref g2, .ref g3, .int (nI dn), .long so]]) hP hD rfl hS hA [4, 5, 6] (by decide +kernel) rfl
                    have hKc := hK.sub (tys' := [((xK 1), .int)]) [0] rfl
                    refine va_calli (va_runV (As := [.int (nI t2)]) (rest := []) ⟨hx, hb, hml, hown, hw⟩ (gen_GS_isBlocked l dC dI pa g1 g2 g3 dn so xa ga fa xA xK md mb fm wm sc t2 (by omega) (by omega) hdn H.size) (cw_V 1 hw g_GraphSearch_isBlocked rfl rfl rfl (hw _ m_107) (hw _ m_769) (hw _ m_771) (hw _ m_34) (by decide +kernel) ⟨Nat.le_of_ble_eq_true rfl, Nat.le_of_ble_eq_true rfl⟩) ⟨fun a U g mk q => by obtain ⟨q0, q1, qP, qK, qD, qN⟩ := q; exact ⟨q0, q1, qP, va_K.moved (u := U) (U := U.calling g mk a) (Vm.Alike.refl U.vm) qK, qD, nw_call qN⟩, va_recv hKc hPc (ci := 6) (q0 := 0) rfl rfl, fun U hU hW => ⟨rfl, by rw [hU], by rw [hU]; exact hPc, va_K.moved hW.alike hKc, hDc.weaken (fun _ _ _ _ => trivial), nw_warm hW hn⟩⟩ rfl rfl hl.1 rfl (lv_room (Nat.le_of_ble_eq_true rfl)) d_GraphSearch_canHappen_68 ⟨Nat.le_of_ble_eq_true rfl, Nat.le_of_ble_eq_true rfl⟩) hS (fun q _ h => hFc q h) hFc ?_
                    intro r_17 u t9 H1 locs1 ht9 hvm hw1 hB hz1 hk1 hS1
                    obtain ⟨hP1, hK1, hD1⟩ := hB
                    rw [ht9] at hP1
                    replace hK1 := va_K.moved hvm.symm hK1
                    have hPD := join3 hP hD rfl [4, 5, 6] [0, 1, 2, 3] rfl (by rfl) (by decide +kernel) (by decide +kernel) hk1 hFc hP1 hD1
                    replace hK : va_K (dC, dI) classes [((xK 1), .int), (l1, .int), ((pK 2), .int), ((pK 3), .int)] s := hK.app hK1
                    clear hP1 hK1 hD1 hk1 hz1 hFc hKc hDc hPc hvm ht9 hP hS t9 locs H
                    have hP : va_P (dC, dI) classes [ia g1 l1 4 (fun i => nI (pl i)), oc pa 0 [.ref (pA 0), .ref (pA 1), .ref (pA 2), .ref (pA 3), .ref (pA 4), .ref (pA 5), .ref (pA 6), .ref (pA 7), .ref (pA 8), .ref (pA 9), .ref (pA 10), .int (nI T), .int (nI Ac)], ia (pA 2) (pK 2) 7 (fun i => nI ((pg 2) i)), ia (pA 3) (pK 3) 7 (fun i => nI ((pg 3) i)), oc xa 6 [.ref pa, .ref ga, .ref (xA 0), .ref (xA 1), .ref (xA 2), .ref (xA 3), .ref (xA 4), .ref (xA 5), .ref (xA 6), .ref (xA 7), .ref (xA 8), .ref (xA 9), .ref (xA 10), .ref (xA 11), .ref fa, .int (nI md), .int (nI mb)], ia (xA 1) (xK 1) 4 (fun i0 => mN (wm i0)), oc ga 1 [.ref pa, .ref g1, .ref g2, .ref g3, .int (nI dn), .long so]] H1 := hPD.1
                    replace hD : dd A [g1, pa, (pA 2), (pA 3), xa, (xA 1), ga] := dd_of hPD.2 rfl
                    clear hPD
                    revert H1 locs1
                    intro H locs hS hP
                    refine tp_i (y := (if blk dn wm t2 then 1 else 0)) (hw1) ?_
                    clear hw1 r_17 u
                    cases hbk : blk dn wm t2 with
                    | false =>
                      rw [if_neg (by decide : ¬ (false = true))]
                      rw [if_pos hbk] at hcv
                      refine tp_pc (pc' := 71) (by rfl) ?_
                      refine lv_if_ne (tgt := 76) hx hb d_GraphSearch_canHappen_71 (by decide) (fun c_18 => absurd c_18 (by decide)) (fun c_18 => ?_)
                      refine tp_pc (pc' := 74) (by rfl) ?_
                      refine lv_iconst (v := 1) hx hb d_GraphSearch_canHappen_74 (by decide) ?_
                      obtain ⟨hP9, hD9, -⟩ := cut3 (wc := [oc xa 6 [.ref pa, .ref ga, .ref (xA 0), .ref (xA 1), .ref (xA 2), .ref (xA 3), .ref (xA 4), .ref (xA 5), .ref (xA 6), .ref (xA 7), .ref (xA 8), .ref (xA 9), .ref (xA 10), .ref (xA 11), .ref fa, .int (nI md), .int (nI mb)], ia (xA 1) (xK 1) 4 (fun i0 => mN (wm i0)), oc ga 1 [.ref pa, .ref g1, .ref g2, .ref g3, .int (nI dn), .long so], ia g1 l1 4 (fun i => nI (pl i)), oc pa 0 [.ref (pA 0), .ref (pA 1), .ref (pA 2), .ref (pA 3), .ref (pA 4), .ref (pA 5), .ref (pA 6), .ref (pA 7), .ref (pA 8), .ref (pA 9), .ref (pA 10), .int (nI T), .int (nI Ac)], ia (pA 2) (pK 2) 7 (fun i => nI ((pg 2) i)), ia (pA 3) (pK 3) 7 (fun i => nI ((pg 3) i))]) hP hD rfl hS hA [4, 5, 6, 0, 1, 2, 3] (by decide +kernel) rfl
                      have hK9 := hK.sub (tys' := []) [] rfl
                      refine W.widen (k := 0) (n := 0) (by exact Nat.le_of_ble_eq_true rfl) (by exact Nat.le_of_ble_eq_true rfl) ?_
                      exact W.zret (v := 1) (ty := .boolean) hx hb hr (by decide) (fun t9 ht9 hW => ⟨⟨1, (), rfl, by rw [hcv]; rfl, by rw [ht9]; exact hP9, va_K.moved hW.alike hK9, hD9⟩, hS.F ht9⟩) hS.2.2 d_GraphSearch_canHappen_75
                    | true =>
                      rw [if_pos (rfl : true = true)]
                      rw [if_neg (by rw [hbk]; decide)] at hcv
                      have w2 : 2 ≤ wm t2 := by
                        unfold blk at hbk; rw [Bool.and_eq_true] at hbk
                        rcases Nat.lt_or_ge (wm t2) 2 with h | h
                        · rcases (by omega : wm t2 = 0 ∨ wm t2 = 1) with h0 | h0 <;> rw [h0] at hbk <;> exact absurd hbk (by unfold wrb; simp)
                        · exact h
                      refine tp_pc (pc' := 71) (by rfl) ?_
                      refine lv_if_ne (tgt := 76) hx hb d_GraphSearch_canHappen_71 (by decide) (fun c_19 => ?_) (fun c_19 => absurd c_19 (by decide))
                      refine tp_pc (pc' := 76) (by rfl) ?_
                      refine lv_aload_n hx hb d_GraphSearch_canHappen_76 rfl (lv_at hl 2 rfl) ?_
                      refine va_get (D := (dC, dI)) (ci := 6) (v := .ref pa) (C := R_GraphSearch) (T := F_GraphSearch) (N := 17) hx hb hw i_GraphSearch hown hK hP 4 rfl rfl 0 (by decide) (hw _ m_319) (fun _ h9 => h9) rfl d_GraphSearch_canHappen_77 ?_
                      refine va_get (D := (dC, dI)) (ci := 0) (v := .ref (pA 2)) (C := R_Program) (T := F_Program) (N := 13) hx hb hw i_Program hown hK hP 1 rfl rfl 2 (by decide) (hw _ m_134) (fun _ h9 => h9) rfl d_GraphSearch_canHappen_80 ?_
                      refine lv_aload_n hx hb d_GraphSearch_canHappen_83 rfl (lv_at hl 2 rfl) ?_
                      refine va_get (D := (dC, dI)) (ci := 6) (v := .ref (xA 1)) (C := R_GraphSearch) (T := F_GraphSearch) (N := 17) hx hb hw i_GraphSearch hown hK hP 4 rfl rfl 3 (by decide) (hw _ m_322) (fun _ h9 => h9) rfl d_GraphSearch_canHappen_84 ?_
                      refine lv_iload_n hx hb d_GraphSearch_canHappen_87 rfl (lv_at hl 1 rfl) ?_
                      refine va_iald (D := (dC, dI)) hx hb hK hP 5 0 rfl rfl (i := nI t2) (pk_in t2 4 (by omega)) d_GraphSearch_canHappen_88 ?_
                      refine tp_i (y := (fun i0 => mN (wm i0)) t2) (by rw [show (nI t2 : Int32).toNatClampNeg = t2 from pk_cl t2]) ?_
                      refine tp_i (y := nI (wm t2 - 1)) (mN_s (by omega)) ?_
                      have tT2 := (p5 (wm t2 - 1 - 1) (by omega)).1
                      refine lv_iconst (v := 1) hx hb d_GraphSearch_canHappen_89 (by decide) ?_
                      refine lv_isub hx hb d_GraphSearch_canHappen_90 ?_
                      refine tp_i (y := nI (wm t2 - 1 - 1)) (by exact pk_sub (a := wm t2 - 1) (b := 1) (by omega)) ?_
                      refine va_iald (D := (dC, dI)) hx hb hK hP 2 2 rfl rfl (i := nI (wm t2 - 1 - 1)) (pk_in (wm t2 - 1 - 1) 7 (by omega)) d_GraphSearch_canHappen_91 ?_
                      refine tp_i (y := nI ((pg 2) (wm t2 - 1 - 1))) (by rw [show (nI (wm t2 - 1 - 1) : Int32).toNatClampNeg = wm t2 - 1 - 1 from pk_cl (wm t2 - 1 - 1)]) ?_
                      obtain ⟨t1, et1⟩ : ∃ t1, t1 = pg 2 (wm t2 - 1 - 1) := ⟨_, rfl⟩
                      rw [← et1] at tT2 hcv
                      refine tp_i (y := nI t1) (by rw [et1]) ?_
                      have tT := tT2
                      refine lv_istore_n (lv' := [(3, .int (nI t1)), (4, .int 3), (0, .ref xa), (1, .int (nI q)), (2, .int (nI wq))]) hx hb d_GraphSearch_canHappen_92 rfl hl (by decide) rfl ?_
                      clear hl ls
                      intro ls hl
                      refine lv_iinc (v := 4) (lv' := [(4, .int 4), (3, .int (nI t1)), (0, .ref xa), (1, .int (nI q)), (2, .int (nI wq))]) hx hb d_GraphSearch_canHappen_93 hl (k := 1) rfl (by first | rfl | decide) (by decide) rfl ?_
                      clear hl ls
                      intro ls hl
                      refine lv_goto (tgt := 53) hx hb d_GraphSearch_canHappen_96 (by decide) ?_
                      refine tp_pc (pc' := 53) (by rfl) ?_
                      refine lv_iload hx hb d_GraphSearch_canHappen_53 (lv_at hl 0 rfl) ?_
                      refine lv_iconst (v := 4) hx hb d_GraphSearch_canHappen_55 (by decide) ?_
                      refine lv_icmp_ge (tgt := 99) hx hb d_GraphSearch_canHappen_56 (by decide) (fun c_20 => ?_) (fun c_20 => absurd c_20 (by decide))
                      refine tp_pc (pc' := 99) (by rfl) ?_
                      refine lv_iconst (v := 0) hx hb d_GraphSearch_canHappen_99 (by decide) ?_
                      obtain ⟨hP9, hD9, -⟩ := cut3 (wc := [oc xa 6 [.ref pa, .ref ga, .ref (xA 0), .ref (xA 1), .ref (xA 2), .ref (xA 3), .ref (xA 4), .ref (xA 5), .ref (xA 6), .ref (xA 7), .ref (xA 8), .ref (xA 9), .ref (xA 10), .ref (xA 11), .ref fa, .int (nI md), .int (nI mb)], ia (xA 1) (xK 1) 4 (fun i0 => mN (wm i0)), oc ga 1 [.ref pa, .ref g1, .ref g2, .ref g3, .int (nI dn), .long so], ia g1 l1 4 (fun i => nI (pl i)), oc pa 0 [.ref (pA 0), .ref (pA 1), .ref (pA 2), .ref (pA 3), .ref (pA 4), .ref (pA 5), .ref (pA 6), .ref (pA 7), .ref (pA 8), .ref (pA 9), .ref (pA 10), .int (nI T), .int (nI Ac)], ia (pA 2) (pK 2) 7 (fun i => nI ((pg 2) i)), ia (pA 3) (pK 3) 7 (fun i => nI ((pg 3) i))]) hP hD rfl hS hA [4, 5, 6, 0, 1, 2, 3] (by decide +kernel) rfl
                      have hK9 := hK.sub (tys' := []) [] rfl
                      refine W.widen (k := 0) (n := 0) (by exact Nat.le_of_ble_eq_true rfl) (by exact Nat.le_of_ble_eq_true rfl) ?_
                      exact W.zret (v := 0) (ty := .boolean) hx hb hr (by decide) (fun t9 ht9 hW => ⟨⟨0, (), rfl, by rw [hcv]; rfl, by rw [ht9]; exact hP9, va_K.moved hW.alike hK9, hD9⟩, hS.F ht9⟩) hS.2.2 d_GraphSearch_canHappen_100
                  · skip
                    have hd1 : t2 = wq := (nI_eq (a := t2) (b := wq) (by omega) (by omega)).mp d1
                    rw [if_pos hd1] at hcv
                    refine tp_pc (pc' := 64) (by rfl) ?_
                    refine lv_iconst (v := 0) hx hb d_GraphSearch_canHappen_64 (by decide) ?_
                    obtain ⟨hP9, hD9, -⟩ := cut3 (wc := [oc xa 6 [.ref pa, .ref ga, .ref (xA 0), .ref (xA 1), .ref (xA 2), .ref (xA 3), .ref (xA 4), .ref (xA 5), .ref (xA 6), .ref (xA 7), .ref (xA 8), .ref (xA 9), .ref (xA 10), .ref (xA 11), .ref fa, .int (nI md), .int (nI mb)], ia (xA 1) (xK 1) 4 (fun i0 => mN (wm i0)), oc ga 1 [.ref pa, .ref g1, .ref g2, .ref g3, .int (nI dn), .long so], ia g1 l1 4 (fun i => nI (pl i)), oc pa 0 [.ref (pA 0), .ref (pA 1), .ref (pA 2), .ref (pA 3), .ref (pA 4), .ref (pA 5), .ref (pA 6), .ref (pA 7), .ref (pA 8), .ref (pA 9), .ref (pA 10), .int (nI T), .int (nI Ac)], ia (pA 2) (pK 2) 7 (fun i => nI ((pg 2) i)), ia (pA 3) (pK 3) 7 (fun i => nI ((pg 3) i))]) hP hD rfl hS hA [4, 5, 6, 0, 1, 2, 3] (by decide +kernel) rfl
                    have hK9 := hK.sub (tys' := []) [] rfl
                    refine W.widen (k := 0) (n := 0) (by exact Nat.le_of_ble_eq_true rfl) (by exact Nat.le_of_ble_eq_true rfl) ?_
                    exact W.zret (v := 0) (ty := .boolean) hx hb hr (by decide) (fun t9 ht9 hW => ⟨⟨0, (), rfl, by rw [hcv]; rfl, by rw [ht9]; exact hP9, va_K.moved hW.alike hK9, hD9⟩, hS.F ht9⟩) hS.2.2 d_GraphSearch_canHappen_65
              · skip
                have hd1 : t3 = wq := (nI_eq (a := t3) (b := wq) (by omega) (by omega)).mp d1
                rw [if_pos hd1] at hcv
                refine tp_pc (pc' := 64) (by rfl) ?_
                refine lv_iconst (v := 0) hx hb d_GraphSearch_canHappen_64 (by decide) ?_
                obtain ⟨hP9, hD9, -⟩ := cut3 (wc := [oc xa 6 [.ref pa, .ref ga, .ref (xA 0), .ref (xA 1), .ref (xA 2), .ref (xA 3), .ref (xA 4), .ref (xA 5), .ref (xA 6), .ref (xA 7), .ref (xA 8), .ref (xA 9), .ref (xA 10), .ref (xA 11), .ref fa, .int (nI md), .int (nI mb)], ia (xA 1) (xK 1) 4 (fun i0 => mN (wm i0)), oc ga 1 [.ref pa, .ref g1, .ref g2, .ref g3, .int (nI dn), .long so], ia g1 l1 4 (fun i => nI (pl i)), oc pa 0 [.ref (pA 0), .ref (pA 1), .ref (pA 2), .ref (pA 3), .ref (pA 4), .ref (pA 5), .ref (pA 6), .ref (pA 7), .ref (pA 8), .ref (pA 9), .ref (pA 10), .int (nI T), .int (nI Ac)], ia (pA 2) (pK 2) 7 (fun i => nI ((pg 2) i)), ia (pA 3) (pK 3) 7 (fun i => nI ((pg 3) i))]) hP hD rfl hS hA [4, 5, 6, 0, 1, 2, 3] (by decide +kernel) rfl
                have hK9 := hK.sub (tys' := []) [] rfl
                refine W.widen (k := 0) (n := 0) (by exact Nat.le_of_ble_eq_true rfl) (by exact Nat.le_of_ble_eq_true rfl) ?_
                exact W.zret (v := 0) (ty := .boolean) hx hb hr (by decide) (fun t9 ht9 hW => ⟨⟨0, (), rfl, by rw [hcv]; rfl, by rw [ht9]; exact hP9, va_K.moved hW.alike hK9, hD9⟩, hS.F ht9⟩) hS.2.2 d_GraphSearch_canHappen_65
          · skip
            have hd1 : t4 = wq := (nI_eq (a := t4) (b := wq) (by omega) (by omega)).mp d1
            rw [if_pos hd1] at hcv
            refine tp_pc (pc' := 64) (by rfl) ?_
            refine lv_iconst (v := 0) hx hb d_GraphSearch_canHappen_64 (by decide) ?_
            obtain ⟨hP9, hD9, -⟩ := cut3 (wc := [oc xa 6 [.ref pa, .ref ga, .ref (xA 0), .ref (xA 1), .ref (xA 2), .ref (xA 3), .ref (xA 4), .ref (xA 5), .ref (xA 6), .ref (xA 7), .ref (xA 8), .ref (xA 9), .ref (xA 10), .ref (xA 11), .ref fa, .int (nI md), .int (nI mb)], ia (xA 1) (xK 1) 4 (fun i0 => mN (wm i0)), oc ga 1 [.ref pa, .ref g1, .ref g2, .ref g3, .int (nI dn), .long so], ia g1 l1 4 (fun i => nI (pl i)), oc pa 0 [.ref (pA 0), .ref (pA 1), .ref (pA 2), .ref (pA 3), .ref (pA 4), .ref (pA 5), .ref (pA 6), .ref (pA 7), .ref (pA 8), .ref (pA 9), .ref (pA 10), .int (nI T), .int (nI Ac)], ia (pA 2) (pK 2) 7 (fun i => nI ((pg 2) i)), ia (pA 3) (pK 3) 7 (fun i => nI ((pg 3) i))]) hP hD rfl hS hA [4, 5, 6, 0, 1, 2, 3] (by decide +kernel) rfl
            have hK9 := hK.sub (tys' := []) [] rfl
            refine W.widen (k := 0) (n := 0) (by exact Nat.le_of_ble_eq_true rfl) (by exact Nat.le_of_ble_eq_true rfl) ?_
            exact W.zret (v := 0) (ty := .boolean) hx hb hr (by decide) (fun t9 ht9 hW => ⟨⟨0, (), rfl, by rw [hcv]; rfl, by rw [ht9]; exact hP9, va_K.moved hW.alike hK9, hD9⟩, hS.F ht9⟩) hS.2.2 d_GraphSearch_canHappen_65
      · skip
        have hd1 : t9x = wq := (nI_eq (a := t9x) (b := wq) (by omega) (by omega)).mp d1
        rw [if_pos hd1] at hcv
        refine tp_pc (pc' := 64) (by rfl) ?_
        refine lv_iconst (v := 0) hx hb d_GraphSearch_canHappen_64 (by decide) ?_
        obtain ⟨hP9, hD9, -⟩ := cut3 (wc := [oc xa 6 [.ref pa, .ref ga, .ref (xA 0), .ref (xA 1), .ref (xA 2), .ref (xA 3), .ref (xA 4), .ref (xA 5), .ref (xA 6), .ref (xA 7), .ref (xA 8), .ref (xA 9), .ref (xA 10), .ref (xA 11), .ref fa, .int (nI md), .int (nI mb)], ia (xA 1) (xK 1) 4 (fun i0 => mN (wm i0)), oc ga 1 [.ref pa, .ref g1, .ref g2, .ref g3, .int (nI dn), .long so], ia g1 l1 4 (fun i => nI (pl i)), oc pa 0 [.ref (pA 0), .ref (pA 1), .ref (pA 2), .ref (pA 3), .ref (pA 4), .ref (pA 5), .ref (pA 6), .ref (pA 7), .ref (pA 8), .ref (pA 9), .ref (pA 10), .int (nI T), .int (nI Ac)], ia (pA 2) (pK 2) 7 (fun i => nI ((pg 2) i)), ia (pA 3) (pK 3) 7 (fun i => nI ((pg 3) i))]) hP hD rfl hS hA [0, 1, 6, 2, 3, 4, 5] (by decide +kernel) rfl
        have hK9 := hK.sub (tys' := []) [] rfl
        refine W.widen (k := 0) (n := 0) (by exact Nat.le_of_ble_eq_true rfl) (by exact Nat.le_of_ble_eq_true rfl) ?_
        exact W.zret (v := 0) (ty := .boolean) hx hb hr (by decide) (fun t9 ht9 hW => ⟨⟨0, (), rfl, by rw [hcv]; rfl, by rw [ht9]; exact hP9, va_K.moved hW.alike hK9, hD9⟩, hS.F ht9⟩) hS.2.2 d_GraphSearch_canHappen_65
    · skip
      have hc1 : ¬ (pl ((pg 2) (q - 1)) ≤ (pg 3) (q - 1)) := fun q9 => c1 ((nI_leI (a := pl ((pg 2) (q - 1))) (b := (pg 3) (q - 1)) (by omega) (by omega)).mpr q9)
      have hcP : pg 3 (q - 1) < pl (pg 2 (q - 1)) := by omega
      refine tp_pc (pc' := 48) (by rfl) ?_
      refine lv_iconst (v := 0) hx hb d_GraphSearch_canHappen_48 (by decide) ?_
      obtain ⟨hP9, hD9, -⟩ := cut3 (wc := [oc xa 6 [.ref pa, .ref ga, .ref (xA 0), .ref (xA 1), .ref (xA 2), .ref (xA 3), .ref (xA 4), .ref (xA 5), .ref (xA 6), .ref (xA 7), .ref (xA 8), .ref (xA 9), .ref (xA 10), .ref (xA 11), .ref fa, .int (nI md), .int (nI mb)], ia (xA 1) (xK 1) 4 (fun i0 => mN (wm i0)), oc ga 1 [.ref pa, .ref g1, .ref g2, .ref g3, .int (nI dn), .long so], ia g1 l1 4 (fun i => nI (pl i)), oc pa 0 [.ref (pA 0), .ref (pA 1), .ref (pA 2), .ref (pA 3), .ref (pA 4), .ref (pA 5), .ref (pA 6), .ref (pA 7), .ref (pA 8), .ref (pA 9), .ref (pA 10), .int (nI T), .int (nI Ac)], ia (pA 2) (pK 2) 7 (fun i => nI ((pg 2) i)), ia (pA 3) (pK 3) 7 (fun i => nI ((pg 3) i))]) hP hD rfl hS hA [0, 1, 6, 2, 3, 4, 5] (by decide +kernel) rfl
      have hK9 := hK.sub (tys' := []) [] rfl
      refine W.widen (k := 0) (n := 0) (by exact Nat.le_of_ble_eq_true rfl) (by exact Nat.le_of_ble_eq_true rfl) ?_
      exact W.zret (v := 0) (ty := .boolean) hx hb hr (by decide) (fun t9 ht9 hW => ⟨⟨0, (), rfl, by rw [cHb, if_neg nwb, if_pos hcP]; rfl, by rw [ht9]; exact hP9, va_K.moved hW.alike hK9, hD9⟩, hS.F ht9⟩) hS.2.2 d_GraphSearch_canHappen_49
