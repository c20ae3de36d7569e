set_option maxHeartbeats 4000000 in
set_option maxRecDepth 100000 in
theorem gen_GS_closeHappens (l : Launch) (dC : Nat → ClassId) (dI : Nat → Nat → Nat) (pa : Nat) (pA : Nat → Nat) (pK : Nat → ClassId) (T Ac : Nat) (pg : Nat → Nat → Nat) (nm : Nat → Int32) (xa ga fa : Nat) (xA : Nat → Nat) (xK : Nat → ClassId) (md mb : Nat) (fm wm : Nat → Nat) (sc : Nat → Nat → Nat) (hPg : PgOk T Ac pg) (hmb : mb < 128) (h6 : ∀ i, sc 6 i < 128) (h9 : ∀ i, sc 9 i < 128) (h11 : ∀ i, sc 11 i < 128) (sz : Nat) : Met l y_GraphSearch_closeHappens w_GraphSearch_closeHappens ({ frames := 1, cells := 0, slots := 0, locals := 40 }) (va_Pc [.ref xa] (fun U => U.heap.size = sz ∧ va_P (dC, dI) classes [oc xa 6 [.ref pa, .ref ga, .ref (xA 0), .ref (xA 1), .ref (xA 2), .ref (xA 3), .ref (xA 4), .ref (xA 5), .ref (xA 6), .ref (xA 7), .ref (xA 8), .ref (xA 9), .ref (xA 10), .ref (xA 11), .ref fa, .int (nI md), .int (nI mb)], ia (xA 6) (xK 6) 8 (fun i => nI ((sc 6) i)), ia (xA 9) (xK 9) 7 (fun i => nI ((sc 9) i)), ia (xA 11) (xK 11) 7 (fun i => nI ((sc 11) i)), oc pa 0 [.ref (pA 0), .ref (pA 1), .ref (pA 2), .ref (pA 3), .ref (pA 4), .ref (pA 5), .ref (pA 6), .ref (pA 7), .ref (pA 8), .ref (pA 9), .ref (pA 10), .int (nI T), .int (nI Ac)], ia (pA 2) (pK 2) 7 (fun i => nI ((pg 2) i)), ia (pA 4) (pK 4) 7 (fun i => nI ((pg 4) i)), ia (pA 8) (pK 8) 4 (fun i => nI ((pg 8) i)), ia (pA 9) (pK 9) 6 (fun i => nI ((pg 9) i))] U.heap ∧ va_K (dC, dI) classes [((xK 6), .int), ((xK 9), .int), ((xK 11), .int), ((pK 2), .int), ((pK 4), .int), ((pK 8), .int), ((pK 9), .int)] U ∧ va_D (fun _ => True) [oc xa 6 [.ref pa, .ref ga, .ref (xA 0), .ref (xA 1), .ref (xA 2), .ref (xA 3), .ref (xA 4), .ref (xA 5), .ref (xA 6), .ref (xA 7), .ref (xA 8), .ref (xA 9), .ref (xA 10), .ref (xA 11), .ref fa, .int (nI md), .int (nI mb)], ia (xA 6) (xK 6) 8 (fun i => nI ((sc 6) i)), ia (xA 9) (xK 9) 7 (fun i => nI ((sc 9) i)), ia (xA 11) (xK 11) 7 (fun i => nI ((sc 11) i)), oc pa 0 [.ref (pA 0), .ref (pA 1), .ref (pA 2), .ref (pA 3), .ref (pA 4), .ref (pA 5), .ref (pA 6), .ref (pA 7), .ref (pA 8), .ref (pA 9), .ref (pA 10), .int (nI T), .int (nI Ac)], ia (pA 2) (pK 2) 7 (fun i => nI ((pg 2) i)), ia (pA 4) (pK 4) 7 (fun i => nI ((pg 4) i)), ia (pA 8) (pK 8) 4 (fun i => nI ((pg 8) i)), ia (pA 9) (pK 9) 6 (fun i => nI ((pg 9) i))] ∧ nw U)) (va_Qv (fun _ : Unit => True) (fun _ t9 => va_P (dC, dI) classes [oc xa 6 [.ref pa, .ref ga, .ref (xA 0), .ref (xA 1), .ref (xA 2), .ref (xA 3), .ref (xA 4), .ref (xA 5), .ref (xA 6), .ref (xA 7), .ref (xA 8), .ref (xA 9), .ref (xA 10), .ref (xA 11), .ref fa, .int (nI md), .int (nI mb)], ia (xA 6) (xK 6) 8 (fun i => nI ((sc 6) i)), ia (xA 9) (xK 9) 7 (fun i => nI ((sc 9) i)), ia (xA 11) (xK 11) 7 (fun i => nI ((coN Ac (hpN pg mb (sc 6) (sc 9) (sc 11) Ac) Ac) i)), oc pa 0 [.ref (pA 0), .ref (pA 1), .ref (pA 2), .ref (pA 3), .ref (pA 4), .ref (pA 5), .ref (pA 6), .ref (pA 7), .ref (pA 8), .ref (pA 9), .ref (pA 10), .int (nI T), .int (nI Ac)], ia (pA 2) (pK 2) 7 (fun i => nI ((pg 2) i)), ia (pA 4) (pK 4) 7 (fun i => nI ((pg 4) i)), ia (pA 8) (pK 8) 4 (fun i => nI ((pg 8) i)), ia (pA 9) (pK 9) 6 (fun i => nI ((pg 9) i))] t9.heap ∧ va_K (dC, dI) classes [] t9 ∧ va_D (va_A [oc xa 6 [.ref pa, .ref ga, .ref (xA 0), .ref (xA 1), .ref (xA 2), .ref (xA 3), .ref (xA 4), .ref (xA 5), .ref (xA 6), .ref (xA 7), .ref (xA 8), .ref (xA 9), .ref (xA 10), .ref (xA 11), .ref fa, .int (nI md), .int (nI mb)], ia (xA 6) (xK 6) 8 (fun i => nI ((sc 6) i)), ia (xA 9) (xK 9) 7 (fun i => nI ((sc 9) i)), ia (xA 11) (xK 11) 7 (fun i => nI ((sc 11) i)), oc pa 0 [.ref (pA 0), .ref (pA 1), .ref (pA 2), .ref (pA 3), .ref (pA 4), .ref (pA 5), .ref (pA 6), .ref (pA 7), .ref (pA 8), .ref (pA 9), .ref (pA 10), .int (nI T), .int (nI Ac)], ia (pA 2) (pK 2) 7 (fun i => nI ((pg 2) i)), ia (pA 4) (pK 4) 7 (fun i => nI ((pg 4) i)), ia (pA 8) (pK 8) 4 (fun i => nI ((pg 8) i)), ia (pA 9) (pK 9) 6 (fun i => nI ((pg 9) i))] sz) [oc xa 6 [.ref pa, .ref ga, .ref (xA 0), .ref (xA 1), .ref (xA 2), .ref (xA 3), .ref (xA 4), .ref (xA 5), .ref (xA 6), .ref (xA 7), .ref (xA 8), .ref (xA 9), .ref (xA 10), .ref (xA 11), .ref fa, .int (nI md), .int (nI mb)], ia (xA 6) (xK 6) 8 (fun i => nI ((sc 6) i)), ia (xA 9) (xK 9) 7 (fun i => nI ((sc 9) i)), ia (xA 11) (xK 11) 7 (fun i => nI ((coN Ac (hpN pg mb (sc 6) (sc 9) (sc 11) Ac) Ac) i)), oc pa 0 [.ref (pA 0), .ref (pA 1), .ref (pA 2), .ref (pA 3), .ref (pA 4), .ref (pA 5), .ref (pA 6), .ref (pA 7), .ref (pA 8), .ref (pA 9), .ref (pA 10), .int (nI T), .int (nI Ac)], ia (pA 2) (pK 2) 7 (fun i => nI ((pg 2) i)), ia (pA 4) (pK 4) 7 (fun i => nI ((pg 4) i)), ia (pA 8) (pK 8) 4 (fun i => nI ((pg 8) i)), ia (pA 9) (pK 9) 6 (fun i => nI ((pg 9) i))]) (va_A [oc xa 6 [.ref pa, .ref ga, .ref (xA 0), .ref (xA 1), .ref (xA 2), .ref (xA 3), .ref (xA 4), .ref (xA 5), .ref (xA 6), .ref (xA 7), .ref (xA 8), .ref (xA 9), .ref (xA 10), .ref (xA 11), .ref fa, .int (nI md), .int (nI mb)], ia (xA 6) (xK 6) 8 (fun i => nI ((sc 6) i)), ia (xA 9) (xK 9) 7 (fun i => nI ((sc 9) i)), ia (xA 11) (xK 11) 7 (fun i => nI ((sc 11) i)), oc pa 0 [.ref (pA 0), .ref (pA 1), .ref (pA 2), .ref (pA 3), .ref (pA 4), .ref (pA 5), .ref (pA 6), .ref (pA 7), .ref (pA 8), .ref (pA 9), .ref (pA 10), .int (nI T), .int (nI Ac)], ia (pA 2) (pK 2) 7 (fun i => nI ((pg 2) i)), ia (pA 4) (pK 4) 7 (fun i => nI ((pg 4) i)), ia (pA 8) (pK 8) 4 (fun i => nI ((pg 8) i)), ia (pA 9) (pK 9) 6 (fun i => nI ((pg 9) i))] sz)) 0 0 (va_A [oc xa 6 [.ref pa, .ref ga, .ref (xA 0), .ref (xA 1), .ref (xA 2), .ref (xA 3), .ref (xA 4), .ref (xA 5), .ref (xA 6), .ref (xA 7), .ref (xA 8), .ref (xA 9), .ref (xA 10), .ref (xA 11), .ref fa, .int (nI md), .int (nI mb)], ia (xA 6) (xK 6) 8 (fun i => nI ((sc 6) i)), ia (xA 9) (xK 9) 7 (fun i => nI ((sc 9) i)), ia (xA 11) (xK 11) 7 (fun i => nI ((sc 11) i)), oc pa 0 [.ref (pA 0), .ref (pA 1), .ref (pA 2), .ref (pA 3), .ref (pA 4), .ref (pA 5), .ref (pA 6), .ref (pA 7), .ref (pA 8), .ref (pA 9), .ref (pA 10), .int (nI T), .int (nI Ac)], ia (pA 2) (pK 2) 7 (fun i => nI ((pg 2) i)), ia (pA 4) (pK 4) 7 (fun i => nI ((pg 4) i)), ia (pA 8) (pK 8) 4 (fun i => nI ((pg 8) i)), ia (pA 9) (pK 9) 6 (fun i => nI ((pg 9) i))] sz) := by
  refine Met.ofW (cc := b_GraphSearch_closeHappens) (maxL := 3) (ret := none) (by decide) rfl ?_
  intro p e0 s m args below meth c s₁ B hml hv
  obtain ⟨rfl, hsz, hP, hK, hD0, hn⟩ := hv
  have hx := B.exec
  have hb := B.bytes
  have hr := B.returns
  have hw := fun w (h : w ∈ wt) => atoms_spec (ws := w_GraphSearch_closeHappens) B.pre w (List.mem_cons_of_mem _ h)
  have hown : s.vm.findClass R_GraphSearch = some m.cls := findClass_of_methodNamed B.named
  have hlocks := B.notSynchronized
  subst hsz
  have hD1 := hD0.self (sz := s.heap.size)
  generalize hAe : va_A [oc xa 6 [.ref pa, .ref ga, .ref (xA 0), .ref (xA 1), .ref (xA 2), .ref (xA 3), .ref (xA 4), .ref (xA 5), .ref (xA 6), .ref (xA 7), .ref (xA 8), .ref (xA 9), .ref (xA 10), .ref (xA 11), .ref fa, .int (nI md), .int (nI mb)], ia (xA 6) (xK 6) 8 (fun i => nI ((sc 6) i)), ia (xA 9) (xK 9) 7 (fun i => nI ((sc 9) i)), ia (xA 11) (xK 11) 7 (fun i => nI ((sc 11) i)), oc pa 0 [.ref (pA 0), .ref (pA 1), .ref (pA 2), .ref (pA 3), .ref (pA 4), .ref (pA 5), .ref (pA 6), .ref (pA 7), .ref (pA 8), .ref (pA 9), .ref (pA 10), .int (nI T), .int (nI Ac)], ia (pA 2) (pK 2) 7 (fun i => nI ((pg 2) i)), ia (pA 4) (pK 4) 7 (fun i => nI ((pg 4) i)), ia (pA 8) (pK 8) 4 (fun i => nI ((pg 8) i)), ia (pA 9) (pK 9) 6 (fun i => nI ((pg 9) i))] s.heap.size = A at hD1 ⊢
  have hA : ∀ q : Nat, s.heap.size ≤ q → A q := fun q h => by rw [← hAe]; exact Or.inr h
  have hD : dd A [xa, (xA 6), (xA 9), (xA 11), pa, (pA 2), (pA 4), (pA 8), (pA 9)] := dd_of hD1 rfl
  clear hAe hD0 hD1
  have hS : va_S A s.heap s.heap [] := va_S.rf
  replace hP : va_P (dC, dI) classes [oc xa 6 [.ref pa, .ref ga, .ref (xA 0), .ref (xA 1), .ref (xA 2), .ref (xA 3), .ref (xA 4), .ref (xA 5), .ref (xA 6), .ref (xA 7), .ref (xA 8), .ref (xA 9), .ref (xA 10), .ref (xA 11), .ref fa, .int (nI md), .int (nI mb)], ia (xA 6) (xK 6) 8 (fun i => nI ((sc 6) i)), ia (xA 9) (xK 9) 7 (fun i => nI ((sc 9) i)), ia (xA 11) (xK 11) 7 (fun i => nI ((sc 11) i)), oc pa 0 [.ref (pA 0), .ref (pA 1), .ref (pA 2), .ref (pA 3), .ref (pA 4), .ref (pA 5), .ref (pA 6), .ref (pA 7), .ref (pA 8), .ref (pA 9), .ref (pA 10), .int (nI T), .int (nI Ac)], ia (pA 2) (pK 2) 7 (fun i => nI ((pg 2) i)), ia (pA 4) (pK 4) 7 (fun i => nI ((pg 4) i)), ia (pA 8) (pK 8) 4 (fun i => nI ((pg 8) i)), ia (pA 9) (pK 9) 6 (fun i => nI ((pg 9) i))] s.heap := hP
  have hl := lv_entry ([.ref xa]) (n := 3) (Nat.le_of_ble_eq_true rfl)
  rw [lg_entry_eq]
  generalize (lg_sl ([.ref xa]) ++ List.replicate (3 - (lg_sl ([.ref xa])).length) Slot.unset).toArray = ls at hl ⊢
  replace hl : lv_has ls 3 [(0, .ref xa)] := hl
  have hPg3 := hPg
  obtain ⟨p1, p2, p3, p4, p5, p6, p7, p8, p9, p10, p11⟩ := hPg3
  refine lv_iconst (v := 0) hx hb d_GraphSearch_closeHappens_0 (by decide) ?_
  refine lv_istore_n (lv' := [(1, .int 0), (0, .ref xa)]) hx hb d_GraphSearch_closeHappens_1 rfl hl (by decide) rfl ?_
  clear hl ls
  intro ls hl
  replace hP : va_P (dC, dI) classes [oc xa 6 [.ref pa, .ref ga, .ref (xA 0), .ref (xA 1), .ref (xA 2), .ref (xA 3), .ref (xA 4), .ref (xA 5), .ref (xA 6), .ref (xA 7), .ref (xA 8), .ref (xA 9), .ref (xA 10), .ref (xA 11), .ref fa, .int (nI md), .int (nI mb)], ia (xA 6) (xK 6) 8 (fun i => nI ((sc 6) i)), ia (xA 9) (xK 9) 7 (fun i => nI ((sc 9) i)), ia (xA 11) (xK 11) 7 (fun i => nI ((hpN pg mb (sc 6) (sc 9) (sc 11) 0) i)), oc pa 0 [.ref (pA 0), .ref (pA 1), .ref (pA 2), .ref (pA 3), .ref (pA 4), .ref (pA 5), .ref (pA 6), .ref (pA 7), .ref (pA 8), .ref (pA 9), .ref (pA 10), .int (nI T), .int (nI Ac)], ia (pA 2) (pK 2) 7 (fun i => nI ((pg 2) i)), ia (pA 4) (pK 4) 7 (fun i => nI ((pg 4) i)), ia (pA 8) (pK 8) 4 (fun i => nI ((pg 8) i)), ia (pA 9) (pK 9) 6 (fun i => nI ((pg 9) i))] s.heap := hP
  replace hl : lv_has ls 3 [(1, .int (nI 0)), (0, .ref xa)] := hl
  refine lp_n Ac (fun i1 H locs ls => va_P (dC, dI) classes [oc xa 6 [.ref pa, .ref ga, .ref (xA 0), .ref (xA 1), .ref (xA 2), .ref (xA 3), .ref (xA 4), .ref (xA 5), .ref (xA 6), .ref (xA 7), .ref (xA 8), .ref (xA 9), .ref (xA 10), .ref (xA 11), .ref fa, .int (nI md), .int (nI mb)], ia (xA 6) (xK 6) 8 (fun i => nI ((sc 6) i)), ia (xA 9) (xK 9) 7 (fun i => nI ((sc 9) i)), ia (xA 11) (xK 11) 7 (fun i => nI ((hpN pg mb (sc 6) (sc 9) (sc 11) i1) i)), oc pa 0 [.ref (pA 0), .ref (pA 1), .ref (pA 2), .ref (pA 3), .ref (pA 4), .ref (pA 5), .ref (pA 6), .ref (pA 7), .ref (pA 8), .ref (pA 9), .ref (pA 10), .int (nI T), .int (nI Ac)], ia (pA 2) (pK 2) 7 (fun i => nI ((pg 2) i)), ia (pA 4) (pK 4) 7 (fun i => nI ((pg 4) i)), ia (pA 8) (pK 8) 4 (fun i => nI ((pg 8) i)), ia (pA 9) (pK 9) 6 (fun i => nI ((pg 9) i))] H ∧ va_S A s.heap H locs ∧ lv_has ls 3 [(1, .int (nI i1)), (0, .ref xa)]) ⟨hP, hS, hl⟩ ?_ ?_
  · intro i1 H locs ls hi1 hI ih_i1
    obtain ⟨hP, hS, hl⟩ := hI
    refine lv_iload_n hx hb d_GraphSearch_closeHappens_2 rfl (lv_at hl 0 rfl) ?_
    refine lv_aload_n hx hb d_GraphSearch_closeHappens_3 rfl (lv_at hl 1 rfl) ?_
    refine va_get (D := (dC, dI)) (ci := 6) (v := .ref pa) (C := R_GraphSearch) (T := F_GraphSearch) (N := 17) hx hb hw i_GraphSearch hown hK hP 0 rfl rfl 0 (by decide) (hw _ m_319) (fun _ h9 => h9) rfl d_GraphSearch_closeHappens_4 ?_
    refine va_get (D := (dC, dI)) (ci := 0) (v := .int (nI Ac)) (C := R_Program) (T := F_Program) (N := 13) hx hb hw i_Program hown hK hP 4 rfl rfl 12 (by decide) (hw _ m_166) (fun _ h9 => h9) rfl d_GraphSearch_closeHappens_7 ?_
    refine lv_icmp_ge (tgt := 98) hx hb d_GraphSearch_closeHappens_10 (by decide) (fun c9 => absurd c9 (nI_ge hi1 (by omega))) (fun c9 => ?_)
    obtain ⟨k1, k2, k3, k4, k5, k6⟩ := p5 i1 hi1
    refine tp_pc (pc' := 13) (by rfl) ?_
    refine lv_aload_n hx hb d_GraphSearch_closeHappens_13 rfl (lv_at hl 1 rfl) ?_
    refine va_get (D := (dC, dI)) (ci := 6) (v := .ref (xA 11)) (C := R_GraphSearch) (T := F_GraphSearch) (N := 17) hx hb hw i_GraphSearch hown hK hP 0 rfl rfl 13 (by decide) (hw _ m_332) (fun _ h9 => h9) rfl d_GraphSearch_closeHappens_14 ?_
    refine lv_iload_n hx hb d_GraphSearch_closeHappens_17 rfl (lv_at hl 0 rfl) ?_
    refine lv_aload_n hx hb d_GraphSearch_closeHappens_18 rfl (lv_at hl 1 rfl) ?_
    refine va_get (D := (dC, dI)) (ci := 6) (v := .ref pa) (C := R_GraphSearch) (T := F_GraphSearch) (N := 17) hx hb hw i_GraphSearch hown hK hP 0 rfl rfl 0 (by decide) (hw _ m_319) (fun _ h9 => h9) rfl d_GraphSearch_closeHappens_19 ?_
    refine lv_iload_n hx hb d_GraphSearch_closeHappens_22 rfl (lv_at hl 0 rfl) ?_
    obtain ⟨hPc, hDc, hFc⟩ := cut3 (wc := [oc pa 0 [.ref (pA 0), .ref (pA 1), .ref (pA 2), .ref (pA 3), .ref (pA 4), .ref (pA 5), .ref (pA 6), .ref (pA 7), .ref (pA 8), .ref (pA 9), .ref (pA 10), .int (nI T), .int (nI Ac)], ia (pA 2) (pK 2) 7 (fun i => nI ((pg 2) i)), ia (pA 8) (pK 8) 4 (fun i => nI ((pg 8) i))]) hP hD rfl hS hA [4, 5, 7] (by decide +kernel) rfl
    have hKc := hK.sub (tys' := [((pK 2), .int), ((pK 8), .int)]) [3, 5] rfl
    refine va_calli (va_runV (As := [.int (nI i1)]) (rest := [.int (nI i1), .ref (xA 11)]) ⟨hx, hb, hml, hown, hw⟩ (gen_Program_ownAfter l dC dI pa pA pK T Ac pg nm i1 (by omega) (by omega) (p6 _) H.size) (cw_V 1 hw g_Program_ownAfter rfl rfl rfl (hw _ m_102) (hw _ m_800) (hw _ m_801) (hw _ m_802) (by decide +kernel) ⟨Nat.le_of_ble_eq_true rfl, Nat.le_of_ble_eq_true rfl⟩) ⟨fun a U g mk q => by obtain ⟨q0, q1, qP, qK, qD, qN⟩ := q; exact ⟨q0, q1, qP, va_K.moved (u := U) (U := U.calling g mk a) (Vm.Alike.refl U.vm) qK, qD, nw_call qN⟩, va_recv hKc hPc (ci := 0) (q0 := 0) rfl rfl, fun U hU hW => ⟨rfl, by rw [hU], by rw [hU]; exact hPc, va_K.moved hW.alike hKc, hDc.weaken (fun _ _ _ _ => trivial), nw_warm hW hn⟩⟩ rfl rfl hl.1 rfl (lv_room (Nat.le_of_ble_eq_true rfl)) d_GraphSearch_closeHappens_23 ⟨Nat.le_of_ble_eq_true rfl, Nat.le_of_ble_eq_true rfl⟩) hS (fun q _ h => hFc q h) hFc ?_
    intro r_1 u t9 H1 locs1 ht9 hvm hw1 hB hz1 hk1 hS1
    obtain ⟨hP1, hK1, hD1⟩ := hB
    rw [ht9] at hP1
    replace hK1 := va_K.moved hvm.symm hK1
    have hPD := join3 hP hD rfl [4, 5, 7] [0, 1, 2, 3, 6, 8] rfl (by rfl) (by decide +kernel) (by decide +kernel) hk1 hFc hP1 hD1
    replace hK : va_K (dC, dI) classes [((xK 6), .int), ((xK 9), .int), ((xK 11), .int), ((pK 2), .int), ((pK 4), .int), ((pK 8), .int), ((pK 9), .int)] s := hK.app hK1
    clear hP1 hK1 hD1 hk1 hz1 hFc hKc hDc hPc hvm ht9 hP hS t9 locs H
    have hP : va_P (dC, dI) classes [oc xa 6 [.ref pa, .ref ga, .ref (xA 0), .ref (xA 1), .ref (xA 2), .ref (xA 3), .ref (xA 4), .ref (xA 5), .ref (xA 6), .ref (xA 7), .ref (xA 8), .ref (xA 9), .ref (xA 10), .ref (xA 11), .ref fa, .int (nI md), .int (nI mb)], ia (xA 6) (xK 6) 8 (fun i => nI ((sc 6) i)), ia (xA 9) (xK 9) 7 (fun i => nI ((sc 9) i)), ia (xA 11) (xK 11) 7 (fun i => nI ((hpN pg mb (sc 6) (sc 9) (sc 11) i1) i)), ia (pA 4) (pK 4) 7 (fun i => nI ((pg 4) i)), ia (pA 9) (pK 9) 6 (fun i => nI ((pg 9) i)), oc pa 0 [.ref (pA 0), .ref (pA 1), .ref (pA 2), .ref (pA 3), .ref (pA 4), .ref (pA 5), .ref (pA 6), .ref (pA 7), .ref (pA 8), .ref (pA 9), .ref (pA 10), .int (nI T), .int (nI Ac)], ia (pA 2) (pK 2) 7 (fun i => nI ((pg 2) i)), ia (pA 8) (pK 8) 4 (fun i => nI ((pg 8) i))] H1 := hPD.1
    replace hD : dd A [xa, (xA 6), (xA 9), (xA 11), (pA 4), (pA 9), pa, (pA 2), (pA 8)] := dd_of hPD.2 rfl
    clear hPD
    revert H1 locs1
    intro H locs hS hP
    refine tp_i (y := nI (aft pg i1)) (hw1) ?_
    clear hw1 r_1 u
    have af8 := aft_lt p6 i1
    have am8 : aft pg i1 &&& mb < 128 := Nat.and_lt_two_pow (n := 7) _ hmb
    refine tp_pc (pc' := 26) (by rfl) ?_
    refine lv_aload_n hx hb d_GraphSearch_closeHappens_26 rfl (lv_at hl 1 rfl) ?_
    refine va_get (D := (dC, dI)) (ci := 6) (v := .int (nI mb)) (C := R_GraphSearch) (T := F_GraphSearch) (N := 17) hx hb hw i_GraphSearch hown hK hP 0 rfl rfl 16 (by decide) (hw _ m_335) (fun _ h9 => h9) rfl d_GraphSearch_closeHappens_27 ?_
    refine lv_iand hx hb d_GraphSearch_closeHappens_30 ?_
    refine tp_i (y := (nI (aft pg i1)) &&& (nI mb)) rfl ?_
    refine tp_i (y := nI (aft pg i1 &&& mb)) (and_eq af8 hmb) ?_
    have x18 : (aft pg i1 &&& mb) ||| sc 6 (i1 + 1) < 128 := Nat.or_lt_two_pow (n := 7) am8 (h6 _)
    refine lv_aload_n hx hb d_GraphSearch_closeHappens_31 rfl (lv_at hl 1 rfl) ?_
    refine va_get (D := (dC, dI)) (ci := 6) (v := .ref (xA 6)) (C := R_GraphSearch) (T := F_GraphSearch) (N := 17) hx hb hw i_GraphSearch hown hK hP 0 rfl rfl 8 (by decide) (hw _ m_327) (fun _ h9 => h9) rfl d_GraphSearch_closeHappens_32 ?_
    refine lv_iload_n hx hb d_GraphSearch_closeHappens_35 rfl (lv_at hl 0 rfl) ?_
    refine lv_iconst (v := 1) hx hb d_GraphSearch_closeHappens_36 (by decide) ?_
    refine lv_iadd hx hb d_GraphSearch_closeHappens_37 ?_
    refine tp_i (y := nI (i1 + 1)) (by exact nI_add i1 1) ?_
    refine va_iald (D := (dC, dI)) hx hb hK hP 1 0 rfl rfl (i := nI (i1 + 1)) (pk_in (i1 + 1) 8 (by omega)) d_GraphSearch_closeHappens_38 ?_
    refine tp_i (y := nI ((sc 6) (i1 + 1))) (by rw [show (nI (i1 + 1) : Int32).toNatClampNeg = i1 + 1 from pk_cl (i1 + 1)]) ?_
    refine lv_ior hx hb d_GraphSearch_closeHappens_39 ?_
    refine tp_i (y := (nI (aft pg i1 &&& mb)) ||| (nI ((sc 6) (i1 + 1)))) rfl ?_
    refine tp_i (y := nI ((aft pg i1 &&& mb) ||| sc 6 (i1 + 1))) (or_eq _ am8 _ (h6 _)) ?_
    refine va_iast (D := (dC, dI)) hx hb hK hP (dd_D hD rfl) hS 3 2 rfl rfl (i := nI i1) (x := nI ((aft pg i1 &&& mb) ||| sc 6 (i1 + 1))) (pk_in i1 7 (by omega)) d_GraphSearch_closeHappens_40 ?_
    clear hP hS locs H
    intro H locs hP _ hS
    rw [show (nI i1 : Int32).toNatClampNeg = i1 from pk_cl i1] at hP
    rw [show upd (fun i => nI ((hpN pg mb (sc 6) (sc 9) (sc 11) i1) i)) i1 (nI ((aft pg i1 &&& mb) ||| sc 6 (i1 + 1))) = fun i => nI (updN (hpN pg mb (sc 6) (sc 9) (sc 11) i1) i1 ((aft pg i1 &&& mb) ||| sc 6 (i1 + 1)) i) from upd_nI] at hP
    replace hP : va_P (dC, dI) classes [oc xa 6 [.ref pa, .ref ga, .ref (xA 0), .ref (xA 1), .ref (xA 2), .ref (xA 3), .ref (xA 4), .ref (xA 5), .ref (xA 6), .ref (xA 7), .ref (xA 8), .ref (xA 9), .ref (xA 10), .ref (xA 11), .ref fa, .int (nI md), .int (nI mb)], ia (xA 6) (xK 6) 8 (fun i => nI ((sc 6) i)), ia (xA 9) (xK 9) 7 (fun i => nI ((sc 9) i)), ia (xA 11) (xK 11) 7 (fun i => nI ((updN (hpN pg mb (sc 6) (sc 9) (sc 11) i1) i1 ((aft pg i1 &&& mb) ||| sc 6 (i1 + 1))) i)), ia (pA 4) (pK 4) 7 (fun i => nI ((pg 4) i)), ia (pA 9) (pK 9) 6 (fun i => nI ((pg 9) i)), oc pa 0 [.ref (pA 0), .ref (pA 1), .ref (pA 2), .ref (pA 3), .ref (pA 4), .ref (pA 5), .ref (pA 6), .ref (pA 7), .ref (pA 8), .ref (pA 9), .ref (pA 10), .int (nI T), .int (nI Ac)], ia (pA 2) (pK 2) 7 (fun i => nI ((pg 2) i)), ia (pA 8) (pK 8) 4 (fun i => nI ((pg 8) i))] H := hP
    refine tp_pc (pc' := 41) (by rfl) ?_
    refine lv_aload_n hx hb d_GraphSearch_closeHappens_41 rfl (lv_at hl 1 rfl) ?_
    refine va_get (D := (dC, dI)) (ci := 6) (v := .ref pa) (C := R_GraphSearch) (T := F_GraphSearch) (N := 17) hx hb hw i_GraphSearch hown hK hP 0 rfl rfl 0 (by decide) (hw _ m_319) (fun _ h9 => h9) rfl d_GraphSearch_closeHappens_42 ?_
    refine va_get (D := (dC, dI)) (ci := 0) (v := .ref (pA 4)) (C := R_Program) (T := F_Program) (N := 13) hx hb hw i_Program hown hK hP 6 rfl rfl 4 (by decide) (hw _ m_139) (fun _ h9 => h9) rfl d_GraphSearch_closeHappens_45 ?_
    refine lv_iload_n hx hb d_GraphSearch_closeHappens_48 rfl (lv_at hl 0 rfl) ?_
    refine va_iald (D := (dC, dI)) hx hb hK hP 4 4 rfl rfl (i := nI i1) (pk_in i1 7 (by omega)) d_GraphSearch_closeHappens_49 ?_
    refine tp_i (y := nI ((pg 4) i1)) (by rw [show (nI i1 : Int32).toNatClampNeg = i1 from pk_cl i1]) ?_
    refine lv_iconst (v := 4) hx hb d_GraphSearch_closeHappens_50 (by decide) ?_
    refine lv_icmp_ne (tgt := 92) hx hb d_GraphSearch_closeHappens_51 (by decide) (fun c1 => ?_) (fun c1 => ?_)
    · skip
      have hc1 : ¬ ((pg 4) i1 = 4) := fun q9 => c1 ((nI_eq (a := (pg 4) i1) (b := 4) (by omega) (by omega)).mpr q9)
      rw [show updN (hpN pg mb (sc 6) (sc 9) (sc 11) i1) i1 ((aft pg i1 &&& mb) ||| sc 6 (i1 + 1)) = hpN pg mb (sc 6) (sc 9) (sc 11) (i1 + 1) from by rw [hpN, hp0, if_neg hc1]] at hP
      replace hP : va_P (dC, dI) classes [oc xa 6 [.ref pa, .ref ga, .ref (xA 0), .ref (xA 1), .ref (xA 2), .ref (xA 3), .ref (xA 4), .ref (xA 5), .ref (xA 6), .ref (xA 7), .ref (xA 8), .ref (xA 9), .ref (xA 10), .ref (xA 11), .ref fa, .int (nI md), .int (nI mb)], ia (xA 6) (xK 6) 8 (fun i => nI ((sc 6) i)), ia (xA 9) (xK 9) 7 (fun i => nI ((sc 9) i)), ia (xA 11) (xK 11) 7 (fun i => nI ((hpN pg mb (sc 6) (sc 9) (sc 11) (i1 + 1)) i)), ia (pA 4) (pK 4) 7 (fun i => nI ((pg 4) i)), ia (pA 9) (pK 9) 6 (fun i => nI ((pg 9) i)), oc pa 0 [.ref (pA 0), .ref (pA 1), .ref (pA 2), .ref (pA 3), .ref (pA 4), .ref (pA 5), .ref (pA 6), .ref (pA 7), .ref (pA 8), .ref (pA 9), .ref (pA 10), .int (nI T), .int (nI Ac)], ia (pA 2) (pK 2) 7 (fun i => nI ((pg 2) i)), ia (pA 8) (pK 8) 4 (fun i => nI ((pg 8) i))] H := hP
      refine tp_pc (pc' := 92) (by rfl) ?_
      refine lv_iinc (v := nI (i1 + 1)) (lv' := [(1, .int (nI (i1 + 1))), (0, .ref xa)]) hx hb d_GraphSearch_closeHappens_92 hl (k := 0) rfl (by exact nI_1 i1) (by decide) rfl ?_
      clear hl ls
      intro ls hl
      refine lv_goto (tgt := 2) hx hb d_GraphSearch_closeHappens_95 (by decide) ?_
      refine tp_pc (pc' := 2) (by rfl) ?_
      obtain ⟨hP8, -, -⟩ := cut3 (wc := [oc xa 6 [.ref pa, .ref ga, .ref (xA 0), .ref (xA 1), .ref (xA 2), .ref (xA 3), .ref (xA 4), .ref (xA 5), .ref (xA 6), .ref (xA 7), .ref (xA 8), .ref (xA 9), .ref (xA 10), .ref (xA 11), .ref fa, .int (nI md), .int (nI mb)], ia (xA 6) (xK 6) 8 (fun i => nI ((sc 6) i)), ia (xA 9) (xK 9) 7 (fun i => nI ((sc 9) i)), ia (xA 11) (xK 11) 7 (fun i => nI ((hpN pg mb (sc 6) (sc 9) (sc 11) (i1 + 1)) i)), oc pa 0 [.ref (pA 0), .ref (pA 1), .ref (pA 2), .ref (pA 3), .ref (pA 4), .ref (pA 5), .ref (pA 6), .ref (pA 7), .ref (pA 8), .ref (pA 9), .ref (pA 10), .int (nI T), .int (nI Ac)], ia (pA 2) (pK 2) 7 (fun i => nI ((pg 2) i)), ia (pA 4) (pK 4) 7 (fun i => nI ((pg 4) i)), ia (pA 8) (pK 8) 4 (fun i => nI ((pg 8) i)), ia (pA 9) (pK 9) 6 (fun i => nI ((pg 9) i))]) hP hD rfl hS hA [0, 1, 2, 3, 6, 7, 4, 8, 5] (by decide +kernel) rfl
      exact ih_i1 _ _ _ ⟨hP8, hS, lv_sub hl [0, 1] rfl⟩
    · skip
      have hc1 : (pg 4) i1 = 4 := (nI_eq (a := (pg 4) i1) (b := 4) (by omega) (by omega)).mp c1
      refine tp_pc (pc' := 54) (by rfl) ?_
      refine lv_aload_n hx hb d_GraphSearch_closeHappens_54 rfl (lv_at hl 1 rfl) ?_
      refine va_get (D := (dC, dI)) (ci := 6) (v := .ref (xA 9)) (C := R_GraphSearch) (T := F_GraphSearch) (N := 17) hx hb hw i_GraphSearch hown hK hP 0 rfl rfl 11 (by decide) (hw _ m_330) (fun _ h9 => h9) rfl d_GraphSearch_closeHappens_55 ?_
      refine lv_iload_n hx hb d_GraphSearch_closeHappens_58 rfl (lv_at hl 0 rfl) ?_
      refine va_iald (D := (dC, dI)) hx hb hK hP 2 1 rfl rfl (i := nI i1) (pk_in i1 7 (by omega)) d_GraphSearch_closeHappens_59 ?_
      refine tp_i (y := nI ((sc 9) i1)) (by rw [show (nI i1 : Int32).toNatClampNeg = i1 from pk_cl i1]) ?_
      refine lv_iconst (v := 1) hx hb d_GraphSearch_closeHappens_60 (by decide) ?_
      refine lv_iload_n hx hb d_GraphSearch_closeHappens_61 rfl (lv_at hl 0 rfl) ?_
      refine lv_ishl hx hb d_GraphSearch_closeHappens_62 ?_
      refine tp_i (y := 1 <<< ((nI i1) &&& 31)) rfl ?_
      refine lv_ior hx hb d_GraphSearch_closeHappens_63 ?_
      refine tp_i (y := (nI ((sc 9) i1)) ||| (1 <<< ((nI i1) &&& 31))) rfl ?_
      refine tp_i (y := nI (sc 9 i1 ||| 2 ^ i1)) (set_eq _ (h9 _) _ (by omega)) ?_
      have b18 : sc 9 i1 ||| 2 ^ i1 < 128 := set_lt _ (h9 _) _ (by omega)
      have mf8 : mb &&& pg 9 4 < 128 := Nat.and_lt_two_pow (n := 7) _ (p7 4)
      refine lv_istore_n (lv' := [(2, .int (nI (sc 9 i1 ||| 2 ^ i1))), (1, .int (nI i1)), (0, .ref xa)]) hx hb d_GraphSearch_closeHappens_64 rfl hl (by decide) rfl ?_
      clear hl ls
      intro ls hl
      refine lv_aload_n hx hb d_GraphSearch_closeHappens_65 rfl (lv_at hl 2 rfl) ?_
      refine va_get (D := (dC, dI)) (ci := 6) (v := .ref (xA 11)) (C := R_GraphSearch) (T := F_GraphSearch) (N := 17) hx hb hw i_GraphSearch hown hK hP 0 rfl rfl 13 (by decide) (hw _ m_332) (fun _ h9 => h9) rfl d_GraphSearch_closeHappens_66 ?_
      refine lv_iload_n hx hb d_GraphSearch_closeHappens_69 rfl (lv_at hl 1 rfl) ?_
      refine lv_dup2_11 hx hb d_GraphSearch_closeHappens_70 rfl rfl ?_
      refine va_iald (D := (dC, dI)) hx hb hK hP 3 2 rfl rfl (i := nI i1) (pk_in i1 7 (by omega)) d_GraphSearch_closeHappens_71 ?_
      refine tp_i (y := nI ((updN (hpN pg mb (sc 6) (sc 9) (sc 11) i1) i1 ((aft pg i1 &&& mb) ||| sc 6 (i1 + 1))) i1)) (by rw [show (nI i1 : Int32).toNatClampNeg = i1 from pk_cl i1]) ?_
      refine lv_aload_n hx hb d_GraphSearch_closeHappens_72 rfl (lv_at hl 2 rfl) ?_
      refine va_get (D := (dC, dI)) (ci := 6) (v := .int (nI mb)) (C := R_GraphSearch) (T := F_GraphSearch) (N := 17) hx hb hw i_GraphSearch hown hK hP 0 rfl rfl 16 (by decide) (hw _ m_335) (fun _ h9 => h9) rfl d_GraphSearch_closeHappens_73 ?_
      refine lv_aload_n hx hb d_GraphSearch_closeHappens_76 rfl (lv_at hl 2 rfl) ?_
      refine va_get (D := (dC, dI)) (ci := 6) (v := .ref pa) (C := R_GraphSearch) (T := F_GraphSearch) (N := 17) hx hb hw i_GraphSearch hown hK hP 0 rfl rfl 0 (by decide) (hw _ m_319) (fun _ h9 => h9) rfl d_GraphSearch_closeHappens_77 ?_
      refine va_get (D := (dC, dI)) (ci := 0) (v := .ref (pA 9)) (C := R_Program) (T := F_Program) (N := 13) hx hb hw i_Program hown hK hP 6 rfl rfl 9 (by decide) (hw _ m_156) (fun _ h9 => h9) rfl d_GraphSearch_closeHappens_80 ?_
      refine lv_iconst (v := 4) hx hb d_GraphSearch_closeHappens_83 (by decide) ?_
      refine va_iald (D := (dC, dI)) hx hb hK hP 5 6 rfl rfl (i := 4) (pk_in 4 6 (by omega)) d_GraphSearch_closeHappens_84 ?_
      refine tp_i (y := nI ((pg 9) 4)) (by rw [show (4 : Int32).toNatClampNeg = 4 from pk_cl 4]) ?_
      refine lv_iand hx hb d_GraphSearch_closeHappens_85 ?_
      refine tp_i (y := (nI mb) &&& (nI ((pg 9) 4))) rfl ?_
      refine tp_i (y := nI (mb &&& pg 9 4)) (and_eq hmb (p7 4)) ?_
      refine lv_iload_n hx hb d_GraphSearch_closeHappens_86 rfl (lv_at hl 0 rfl) ?_
      refine lv_iconst (v := (-1)) hx hb d_GraphSearch_closeHappens_87 (by decide) ?_
      refine lv_ixor hx hb d_GraphSearch_closeHappens_88 ?_
      refine tp_i (y := (nI (sc 9 i1 ||| 2 ^ i1)) ^^^ (-1)) rfl ?_
      refine lv_iand hx hb d_GraphSearch_closeHappens_89 ?_
      refine tp_i (y := (nI (mb &&& pg 9 4)) &&& ((nI (sc 9 i1 ||| 2 ^ i1)) ^^^ (-1))) rfl ?_
      refine tp_i (y := nI (andn (mb &&& pg 9 4) (sc 9 i1 ||| 2 ^ i1))) (andn_eq _ mf8 _ b18) ?_
      refine lv_ior hx hb d_GraphSearch_closeHappens_90 ?_
      refine tp_i (y := (nI ((updN (hpN pg mb (sc 6) (sc 9) (sc 11) i1) i1 ((aft pg i1 &&& mb) ||| sc 6 (i1 + 1))) i1)) ||| (nI (andn (mb &&& pg 9 4) (sc 9 i1 ||| 2 ^ i1)))) rfl ?_
      refine tp_i (y := nI (((aft pg i1 &&& mb) ||| sc 6 (i1 + 1)) ||| andn (mb &&& pg 9 4) (sc 9 i1 ||| 2 ^ i1))) (by rw [updN_s]; exact or_eq _ x18 _ (andn_lt mf8)) ?_
      refine va_iast (D := (dC, dI)) hx hb hK hP (dd_D hD rfl) hS 3 2 rfl rfl (i := nI i1) (x := nI (((aft pg i1 &&& mb) ||| sc 6 (i1 + 1)) ||| andn (mb &&& pg 9 4) (sc 9 i1 ||| 2 ^ i1))) (pk_in i1 7 (by omega)) d_GraphSearch_closeHappens_91 ?_
      clear hP hS locs H
      intro H locs hP _ hS
      rw [show (nI i1 : Int32).toNatClampNeg = i1 from pk_cl i1] at hP
      rw [show upd (fun i => nI ((updN (hpN pg mb (sc 6) (sc 9) (sc 11) i1) i1 ((aft pg i1 &&& mb) ||| sc 6 (i1 + 1))) i)) i1 (nI (((aft pg i1 &&& mb) ||| sc 6 (i1 + 1)) ||| andn (mb &&& pg 9 4) (sc 9 i1 ||| 2 ^ i1))) = fun i => nI (updN (updN (hpN pg mb (sc 6) (sc 9) (sc 11) i1) i1 ((aft pg i1 &&& mb) ||| sc 6 (i1 + 1))) i1 (((aft pg i1 &&& mb) ||| sc 6 (i1 + 1)) ||| andn (mb &&& pg 9 4) (sc 9 i1 ||| 2 ^ i1)) i) from upd_nI] at hP
      replace hP : va_P (dC, dI) classes [oc xa 6 [.ref pa, .ref ga, .ref (xA 0), .ref (xA 1), .ref (xA 2), .ref (xA 3), .ref (xA 4), .ref (xA 5), .ref (xA 6), .ref (xA 7), .ref (xA 8), .ref (xA 9), .ref (xA 10), .ref (xA 11), .ref fa, .int (nI md), .int (nI mb)], ia (xA 6) (xK 6) 8 (fun i => nI ((sc 6) i)), ia (xA 9) (xK 9) 7 (fun i => nI ((sc 9) i)), ia (xA 11) (xK 11) 7 (fun i => nI ((updN (updN (hpN pg mb (sc 6) (sc 9) (sc 11) i1) i1 ((aft pg i1 &&& mb) ||| sc 6 (i1 + 1))) i1 (((aft pg i1 &&& mb) ||| sc 6 (i1 + 1)) ||| andn (mb &&& pg 9 4) (sc 9 i1 ||| 2 ^ i1))) i)), ia (pA 4) (pK 4) 7 (fun i => nI ((pg 4) i)), ia (pA 9) (pK 9) 6 (fun i => nI ((pg 9) i)), oc pa 0 [.ref (pA 0), .ref (pA 1), .ref (pA 2), .ref (pA 3), .ref (pA 4), .ref (pA 5), .ref (pA 6), .ref (pA 7), .ref (pA 8), .ref (pA 9), .ref (pA 10), .int (nI T), .int (nI Ac)], ia (pA 2) (pK 2) 7 (fun i => nI ((pg 2) i)), ia (pA 8) (pK 8) 4 (fun i => nI ((pg 8) i))] H := hP
      refine tp_pc (pc' := 92) (by rfl) ?_
      rw [updN_2] at hP
      rw [show updN (hpN pg mb (sc 6) (sc 9) (sc 11) i1) i1 (((aft pg i1 &&& mb) ||| sc 6 (i1 + 1)) ||| andn (mb &&& pg 9 4) (sc 9 i1 ||| 2 ^ i1)) = hpN pg mb (sc 6) (sc 9) (sc 11) (i1 + 1) from by rw [hpN, hp0, if_pos hc1]] at hP
      replace hP : va_P (dC, dI) classes [oc xa 6 [.ref pa, .ref ga, .ref (xA 0), .ref (xA 1), .ref (xA 2), .ref (xA 3), .ref (xA 4), .ref (xA 5), .ref (xA 6), .ref (xA 7), .ref (xA 8), .ref (xA 9), .ref (xA 10), .ref (xA 11), .ref fa, .int (nI md), .int (nI mb)], ia (xA 6) (xK 6) 8 (fun i => nI ((sc 6) i)), ia (xA 9) (xK 9) 7 (fun i => nI ((sc 9) i)), ia (xA 11) (xK 11) 7 (fun i => nI ((hpN pg mb (sc 6) (sc 9) (sc 11) (i1 + 1)) i)), ia (pA 4) (pK 4) 7 (fun i => nI ((pg 4) i)), ia (pA 9) (pK 9) 6 (fun i => nI ((pg 9) i)), oc pa 0 [.ref (pA 0), .ref (pA 1), .ref (pA 2), .ref (pA 3), .ref (pA 4), .ref (pA 5), .ref (pA 6), .ref (pA 7), .ref (pA 8), .ref (pA 9), .ref (pA 10), .int (nI T), .int (nI Ac)], ia (pA 2) (pK 2) 7 (fun i => nI ((pg 2) i)), ia (pA 8) (pK 8) 4 (fun i => nI ((pg 8) i))] H := hP
      refine lv_iinc (v := nI (i1 + 1)) (lv' := [(1, .int (nI (i1 + 1))), (2, .int (nI (sc 9 i1 ||| 2 ^ i1))), (0, .ref xa)]) hx hb d_GraphSearch_closeHappens_92 hl (k := 1) rfl (by exact nI_1 i1) (by decide) rfl ?_
      clear hl ls
      intro ls hl
      refine lv_goto (tgt := 2) hx hb d_GraphSearch_closeHappens_95 (by decide) ?_
      refine tp_pc (pc' := 2) (by rfl) ?_
      obtain ⟨hP8, -, -⟩ := cut3 (wc := [oc xa 6 [.ref pa, .ref ga, .ref (xA 0), .ref (xA 1), .ref (xA 2), .ref (xA 3), .ref (xA 4), .ref (xA 5), .ref (xA 6), .ref (xA 7), .ref (xA 8), .ref (xA 9), .ref (xA 10), .ref (xA 11), .ref fa, .int (nI md), .int (nI mb)], ia (xA 6) (xK 6) 8 (fun i => nI ((sc 6) i)), ia (xA 9) (xK 9) 7 (fun i => nI ((sc 9) i)), ia (xA 11) (xK 11) 7 (fun i => nI ((hpN pg mb (sc 6) (sc 9) (sc 11) (i1 + 1)) i)), oc pa 0 [.ref (pA 0), .ref (pA 1), .ref (pA 2), .ref (pA 3), .ref (pA 4), .ref (pA 5), .ref (pA 6), .ref (pA 7), .ref (pA 8), .ref (pA 9), .ref (pA 10), .int (nI T), .int (nI Ac)], ia (pA 2) (pK 2) 7 (fun i => nI ((pg 2) i)), ia (pA 4) (pK 4) 7 (fun i => nI ((pg 4) i)), ia (pA 8) (pK 8) 4 (fun i => nI ((pg 8) i)), ia (pA 9) (pK 9) 6 (fun i => nI ((pg 9) i))]) hP hD rfl hS hA [0, 1, 2, 3, 6, 7, 4, 8, 5] (by decide +kernel) rfl
      exact ih_i1 _ _ _ ⟨hP8, hS, lv_sub hl [0, 2] rfl⟩
  · intro H locs ls hI
    obtain ⟨hP, hS, hl⟩ := hI
    refine lv_iload_n hx hb d_GraphSearch_closeHappens_2 rfl (lv_at hl 0 rfl) ?_
    refine lv_aload_n hx hb d_GraphSearch_closeHappens_3 rfl (lv_at hl 1 rfl) ?_
    refine va_get (D := (dC, dI)) (ci := 6) (v := .ref pa) (C := R_GraphSearch) (T := F_GraphSearch) (N := 17) hx hb hw i_GraphSearch hown hK hP 0 rfl rfl 0 (by decide) (hw _ m_319) (fun _ h9 => h9) rfl d_GraphSearch_closeHappens_4 ?_
    refine va_get (D := (dC, dI)) (ci := 0) (v := .int (nI Ac)) (C := R_Program) (T := F_Program) (N := 13) hx hb hw i_Program hown hK hP 4 rfl rfl 12 (by decide) (hw _ m_166) (fun _ h9 => h9) rfl d_GraphSearch_closeHappens_7 ?_
    refine lv_icmp_ge (tgt := 98) hx hb d_GraphSearch_closeHappens_10 (by decide) (fun c9 => ?_) (fun c9 => absurd (nI_le (Nat.le_refl _) (by omega)) c9)
    obtain ⟨F1, hF1⟩ : ∃ F1, F1 = hpN pg mb (sc 6) (sc 9) (sc 11) Ac := ⟨_, rfl⟩
    have f18 : ∀ i, F1 i < 128 := by rw [hF1]; exact hpN_lt p6 hmb h6 h11 Ac
    rw [← hF1] at hP ⊢
    refine tp_pc (pc' := 98) (by rfl) ?_
    refine lv_iconst (v := 0) hx hb d_GraphSearch_closeHappens_98 (by decide) ?_
    refine lv_istore_n (lv' := [(1, .int 0), (0, .ref xa)]) hx hb d_GraphSearch_closeHappens_99 rfl hl (by decide) rfl ?_
    clear hl ls
    intro ls hl
    replace hP : va_P (dC, dI) classes [oc xa 6 [.ref pa, .ref ga, .ref (xA 0), .ref (xA 1), .ref (xA 2), .ref (xA 3), .ref (xA 4), .ref (xA 5), .ref (xA 6), .ref (xA 7), .ref (xA 8), .ref (xA 9), .ref (xA 10), .ref (xA 11), .ref fa, .int (nI md), .int (nI mb)], ia (xA 6) (xK 6) 8 (fun i => nI ((sc 6) i)), ia (xA 9) (xK 9) 7 (fun i => nI ((sc 9) i)), ia (xA 11) (xK 11) 7 (fun i => nI ((coN Ac F1 0) i)), oc pa 0 [.ref (pA 0), .ref (pA 1), .ref (pA 2), .ref (pA 3), .ref (pA 4), .ref (pA 5), .ref (pA 6), .ref (pA 7), .ref (pA 8), .ref (pA 9), .ref (pA 10), .int (nI T), .int (nI Ac)], ia (pA 2) (pK 2) 7 (fun i => nI ((pg 2) i)), ia (pA 4) (pK 4) 7 (fun i => nI ((pg 4) i)), ia (pA 8) (pK 8) 4 (fun i => nI ((pg 8) i)), ia (pA 9) (pK 9) 6 (fun i => nI ((pg 9) i))] H := hP
    replace hl : lv_has ls 3 [(1, .int (nI 0)), (0, .ref xa)] := hl
    refine lp_n Ac (fun m1 H locs ls => va_P (dC, dI) classes [oc xa 6 [.ref pa, .ref ga, .ref (xA 0), .ref (xA 1), .ref (xA 2), .ref (xA 3), .ref (xA 4), .ref (xA 5), .ref (xA 6), .ref (xA 7), .ref (xA 8), .ref (xA 9), .ref (xA 10), .ref (xA 11), .ref fa, .int (nI md), .int (nI mb)], ia (xA 6) (xK 6) 8 (fun i => nI ((sc 6) i)), ia (xA 9) (xK 9) 7 (fun i => nI ((sc 9) i)), ia (xA 11) (xK 11) 7 (fun i => nI ((coN Ac F1 m1) i)), oc pa 0 [.ref (pA 0), .ref (pA 1), .ref (pA 2), .ref (pA 3), .ref (pA 4), .ref (pA 5), .ref (pA 6), .ref (pA 7), .ref (pA 8), .ref (pA 9), .ref (pA 10), .int (nI T), .int (nI Ac)], ia (pA 2) (pK 2) 7 (fun i => nI ((pg 2) i)), ia (pA 4) (pK 4) 7 (fun i => nI ((pg 4) i)), ia (pA 8) (pK 8) 4 (fun i => nI ((pg 8) i)), ia (pA 9) (pK 9) 6 (fun i => nI ((pg 9) i))] H ∧ va_S A s.heap H locs ∧ lv_has ls 3 [(1, .int (nI m1)), (0, .ref xa)]) ⟨hP, hS, hl⟩ ?_ ?_
    · intro m1 H locs ls hm1 hI ih_m1
      obtain ⟨hP, hS, hl⟩ := hI
      refine lv_iload_n hx hb d_GraphSearch_closeHappens_100 rfl (lv_at hl 0 rfl) ?_
      refine lv_aload_n hx hb d_GraphSearch_closeHappens_101 rfl (lv_at hl 1 rfl) ?_
      refine va_get (D := (dC, dI)) (ci := 6) (v := .ref pa) (C := R_GraphSearch) (T := F_GraphSearch) (N := 17) hx hb hw i_GraphSearch hown hK hP 0 rfl rfl 0 (by decide) (hw _ m_319) (fun _ h9 => h9) rfl d_GraphSearch_closeHappens_102 ?_
      refine va_get (D := (dC, dI)) (ci := 0) (v := .int (nI Ac)) (C := R_Program) (T := F_Program) (N := 13) hx hb hw i_Program hown hK hP 4 rfl rfl 12 (by decide) (hw _ m_166) (fun _ h9 => h9) rfl d_GraphSearch_closeHappens_105 ?_
      refine lv_icmp_ge (tgt := 164) hx hb d_GraphSearch_closeHappens_108 (by decide) (fun c9 => absurd c9 (nI_ge hm1 (by omega))) (fun c9 => ?_)
      obtain ⟨Gm, hGm⟩ : ∃ Gm, Gm = coN Ac F1 m1 := ⟨_, rfl⟩
      have g18 : ∀ i, Gm i < 128 := by rw [hGm]; exact coN_lt f18 m1
      rw [← hGm] at hP
      refine tp_pc (pc' := 111) (by rfl) ?_
      refine lv_iconst (v := 0) hx hb d_GraphSearch_closeHappens_111 (by decide) ?_
      refine lv_istore_n (lv' := [(2, .int 0), (1, .int (nI m1)), (0, .ref xa)]) hx hb d_GraphSearch_closeHappens_112 rfl hl (by decide) rfl ?_
      clear hl ls
      intro ls hl
      replace hP : va_P (dC, dI) classes [oc xa 6 [.ref pa, .ref ga, .ref (xA 0), .ref (xA 1), .ref (xA 2), .ref (xA 3), .ref (xA 4), .ref (xA 5), .ref (xA 6), .ref (xA 7), .ref (xA 8), .ref (xA 9), .ref (xA 10), .ref (xA 11), .ref fa, .int (nI md), .int (nI mb)], ia (xA 6) (xK 6) 8 (fun i => nI ((sc 6) i)), ia (xA 9) (xK 9) 7 (fun i => nI ((sc 9) i)), ia (xA 11) (xK 11) 7 (fun i => nI ((ciN m1 Gm 0) i)), oc pa 0 [.ref (pA 0), .ref (pA 1), .ref (pA 2), .ref (pA 3), .ref (pA 4), .ref (pA 5), .ref (pA 6), .ref (pA 7), .ref (pA 8), .ref (pA 9), .ref (pA 10), .int (nI T), .int (nI Ac)], ia (pA 2) (pK 2) 7 (fun i => nI ((pg 2) i)), ia (pA 4) (pK 4) 7 (fun i => nI ((pg 4) i)), ia (pA 8) (pK 8) 4 (fun i => nI ((pg 8) i)), ia (pA 9) (pK 9) 6 (fun i => nI ((pg 9) i))] H := hP
      replace hl : lv_has ls 3 [(2, .int (nI 0)), (1, .int (nI m1)), (0, .ref xa)] := hl
      refine lp_n Ac (fun a1 H locs ls => va_P (dC, dI) classes [oc xa 6 [.ref pa, .ref ga, .ref (xA 0), .ref (xA 1), .ref (xA 2), .ref (xA 3), .ref (xA 4), .ref (xA 5), .ref (xA 6), .ref (xA 7), .ref (xA 8), .ref (xA 9), .ref (xA 10), .ref (xA 11), .ref fa, .int (nI md), .int (nI mb)], ia (xA 6) (xK 6) 8 (fun i => nI ((sc 6) i)), ia (xA 9) (xK 9) 7 (fun i => nI ((sc 9) i)), ia (xA 11) (xK 11) 7 (fun i => nI ((ciN m1 Gm a1) i)), oc pa 0 [.ref (pA 0), .ref (pA 1), .ref (pA 2), .ref (pA 3), .ref (pA 4), .ref (pA 5), .ref (pA 6), .ref (pA 7), .ref (pA 8), .ref (pA 9), .ref (pA 10), .int (nI T), .int (nI Ac)], ia (pA 2) (pK 2) 7 (fun i => nI ((pg 2) i)), ia (pA 4) (pK 4) 7 (fun i => nI ((pg 4) i)), ia (pA 8) (pK 8) 4 (fun i => nI ((pg 8) i)), ia (pA 9) (pK 9) 6 (fun i => nI ((pg 9) i))] H ∧ va_S A s.heap H locs ∧ lv_has ls 3 [(2, .int (nI a1)), (1, .int (nI m1)), (0, .ref xa)]) ⟨hP, hS, hl⟩ ?_ ?_
      · intro a1 H locs ls ha1 hI ih_a1
        obtain ⟨hP, hS, hl⟩ := hI
        refine lv_iload_n hx hb d_GraphSearch_closeHappens_113 rfl (lv_at hl 0 rfl) ?_
        refine lv_aload_n hx hb d_GraphSearch_closeHappens_114 rfl (lv_at hl 2 rfl) ?_
        refine va_get (D := (dC, dI)) (ci := 6) (v := .ref pa) (C := R_GraphSearch) (T := F_GraphSearch) (N := 17) hx hb hw i_GraphSearch hown hK hP 0 rfl rfl 0 (by decide) (hw _ m_319) (fun _ h9 => h9) rfl d_GraphSearch_closeHappens_115 ?_
        refine va_get (D := (dC, dI)) (ci := 0) (v := .int (nI Ac)) (C := R_Program) (T := F_Program) (N := 13) hx hb hw i_Program hown hK hP 4 rfl rfl 12 (by decide) (hw _ m_166) (fun _ h9 => h9) rfl d_GraphSearch_closeHappens_118 ?_
        refine lv_icmp_ge (tgt := 158) hx hb d_GraphSearch_closeHappens_121 (by decide) (fun c9 => absurd c9 (nI_ge ha1 (by omega))) (fun c9 => ?_)
        have c18 := ciN_lt (m := m1) g18 a1
        have ca8 := c18 a1
        obtain ⟨ca, hca⟩ : ∃ ca, ca = ciN m1 Gm a1 a1 := ⟨_, rfl⟩
        rw [← hca] at ca8
        refine tp_pc (pc' := 124) (by rfl) ?_
        refine lv_aload_n hx hb d_GraphSearch_closeHappens_124 rfl (lv_at hl 2 rfl) ?_
        refine va_get (D := (dC, dI)) (ci := 6) (v := .ref (xA 11)) (C := R_GraphSearch) (T := F_GraphSearch) (N := 17) hx hb hw i_GraphSearch hown hK hP 0 rfl rfl 13 (by decide) (hw _ m_332) (fun _ h9 => h9) rfl d_GraphSearch_closeHappens_125 ?_
        refine lv_iload_n hx hb d_GraphSearch_closeHappens_128 rfl (lv_at hl 0 rfl) ?_
        refine va_iald (D := (dC, dI)) hx hb hK hP 3 2 rfl rfl (i := nI a1) (pk_in a1 7 (by omega)) d_GraphSearch_closeHappens_129 ?_
        refine tp_i (y := nI ((ciN m1 Gm a1) a1)) (by rw [show (nI a1 : Int32).toNatClampNeg = a1 from pk_cl a1]) ?_
        refine tp_i (y := nI ca) (by rw [hca]) ?_
        refine lv_iload_n hx hb d_GraphSearch_closeHappens_130 rfl (lv_at hl 1 rfl) ?_
        obtain ⟨b9, hb9⟩ : ∃ b9, b9 = ca / 2 ^ m1 % 2 := ⟨_, rfl⟩
        have hb92 : b9 < 2 := by rw [hb9]; exact Nat.mod_lt _ (by decide)
        obtain ⟨hPc, hDc, hFc⟩ := cut3 (wc := []) hP hD rfl hS hA [] (by decide +kernel) rfl
        have hKc := hK.sub (tys' := []) [] rfl
        refine va_calli (va_runSN (As := [.int (nI ca), .int (nI m1)]) (rest := []) ⟨hx, hb, hml, hown, hw⟩ (gen_isIn l dC dI ca m1 (by omega) (by omega) H.size) (⟨va_cnB 2 hw g_OM_isIn rfl rfl rfl (hn.1 (R_GraphSearch, 166, y_OM_isIn, "OrderModels") (nq 3 (by rfl))) (hw _ m_101) (by decide +kernel) ⟨Nat.le_of_ble_eq_true rfl, Nat.le_of_ble_eq_true rfl⟩, hw _ m_560, trivial⟩) ⟨fun a U g mk q => by obtain ⟨q0, q1, qP, qK, qD, qN⟩ := q; exact ⟨q0, q1, qP, va_K.moved (u := U) (U := U.calling g mk a) (Vm.Alike.refl U.vm) qK, qD, nw_call qN⟩, fun U hU hW => ⟨rfl, by rw [hU], by rw [hU]; exact hPc, va_K.moved hW.alike hKc, hDc.weaken (fun _ _ _ _ => trivial), nw_warm hW hn⟩⟩ rfl rfl hl.1 rfl (lv_room (Nat.le_of_ble_eq_true rfl)) d_GraphSearch_closeHappens_131 ⟨Nat.le_of_ble_eq_true rfl, Nat.le_of_ble_eq_true rfl⟩) hS (fun q _ h => hFc q h) hFc ?_
        intro r_2 u t9 H1 locs1 ht9 hvm hw1 hB hz1 hk1 hS1
        obtain ⟨hP1, hK1, hD1⟩ := hB
        rw [ht9] at hP1
        replace hK1 := va_K.moved hvm.symm hK1
        have hPD := join3 hP hD rfl [] [0, 1, 2, 3, 4, 5, 6, 7, 8] rfl (by rfl) (by decide +kernel) (by decide +kernel) hk1 hFc hP1 hD1
        replace hK : va_K (dC, dI) classes [((xK 6), .int), ((xK 9), .int), ((xK 11), .int), ((pK 2), .int), ((pK 4), .int), ((pK 8), .int), ((pK 9), .int)] s := hK.app hK1
        clear hP1 hK1 hD1 hk1 hz1 hFc hKc hDc hPc hvm ht9 hP hS t9 locs H
        have hP : va_P (dC, dI) classes [oc xa 6 [.ref pa, .ref ga, .ref (xA 0), .ref (xA 1), .ref (xA 2), .ref (xA 3), .ref (xA 4), .ref (xA 5), .ref (xA 6), .ref (xA 7), .ref (xA 8), .ref (xA 9), .ref (xA 10), .ref (xA 11), .ref fa, .int (nI md), .int (nI mb)], ia (xA 6) (xK 6) 8 (fun i => nI ((sc 6) i)), ia (xA 9) (xK 9) 7 (fun i => nI ((sc 9) i)), ia (xA 11) (xK 11) 7 (fun i => nI ((ciN m1 Gm a1) i)), oc pa 0 [.ref (pA 0), .ref (pA 1), .ref (pA 2), .ref (pA 3), .ref (pA 4), .ref (pA 5), .ref (pA 6), .ref (pA 7), .ref (pA 8), .ref (pA 9), .ref (pA 10), .int (nI T), .int (nI Ac)], ia (pA 2) (pK 2) 7 (fun i => nI ((pg 2) i)), ia (pA 4) (pK 4) 7 (fun i => nI ((pg 4) i)), ia (pA 8) (pK 8) 4 (fun i => nI ((pg 8) i)), ia (pA 9) (pK 9) 6 (fun i => nI ((pg 9) i))] H1 := hPD.1
        replace hD : dd A [xa, (xA 6), (xA 9), (xA 11), pa, (pA 2), (pA 4), (pA 8), (pA 9)] := dd_of hPD.2 rfl
        clear hPD
        revert H1 locs1
        intro H locs hS hP
        refine tp_i (y := nI b9) (by rw [hw1, hb9]) ?_
        clear hw1 r_2 u
        refine tp_pc (pc' := 134) (by rfl) ?_
        refine lv_if_eq (tgt := 152) hx hb d_GraphSearch_closeHappens_134 (by decide) (fun c2 => ?_) (fun c2 => ?_)
        · skip
          have hc2 : b9 = 0 := (nI_eq (a := b9) (b := 0) (by omega) (by omega)).mp c2
          rw [show ciN m1 Gm a1 = ciN m1 Gm (a1 + 1) from by rw [ciN, if_neg (by rw [← hca, ← hb9]; omega)]] at hP
          replace hP : va_P (dC, dI) classes [oc xa 6 [.ref pa, .ref ga, .ref (xA 0), .ref (xA 1), .ref (xA 2), .ref (xA 3), .ref (xA 4), .ref (xA 5), .ref (xA 6), .ref (xA 7), .ref (xA 8), .ref (xA 9), .ref (xA 10), .ref (xA 11), .ref fa, .int (nI md), .int (nI mb)], ia (xA 6) (xK 6) 8 (fun i => nI ((sc 6) i)), ia (xA 9) (xK 9) 7 (fun i => nI ((sc 9) i)), ia (xA 11) (xK 11) 7 (fun i => nI ((ciN m1 Gm (a1 + 1)) i)), oc pa 0 [.ref (pA 0), .ref (pA 1), .ref (pA 2), .ref (pA 3), .ref (pA 4), .ref (pA 5), .ref (pA 6), .ref (pA 7), .ref (pA 8), .ref (pA 9), .ref (pA 10), .int (nI T), .int (nI Ac)], ia (pA 2) (pK 2) 7 (fun i => nI ((pg 2) i)), ia (pA 4) (pK 4) 7 (fun i => nI ((pg 4) i)), ia (pA 8) (pK 8) 4 (fun i => nI ((pg 8) i)), ia (pA 9) (pK 9) 6 (fun i => nI ((pg 9) i))] H := hP
          refine tp_pc (pc' := 152) (by rfl) ?_
          refine lv_iinc (v := nI (a1 + 1)) (lv' := [(2, .int (nI (a1 + 1))), (1, .int (nI m1)), (0, .ref xa)]) hx hb d_GraphSearch_closeHappens_152 hl (k := 0) rfl (by exact nI_1 a1) (by decide) rfl ?_
          clear hl ls
          intro ls hl
          refine lv_goto (tgt := 113) hx hb d_GraphSearch_closeHappens_155 (by decide) ?_
          refine tp_pc (pc' := 113) (by rfl) ?_
          obtain ⟨hP8, -, -⟩ := cut3 (wc := [oc xa 6 [.ref pa, .ref ga, .ref (xA 0), .ref (xA 1), .ref (xA 2), .ref (xA 3), .ref (xA 4), .ref (xA 5), .ref (xA 6), .ref (xA 7), .ref (xA 8), .ref (xA 9), .ref (xA 10), .ref (xA 11), .ref fa, .int (nI md), .int (nI mb)], ia (xA 6) (xK 6) 8 (fun i => nI ((sc 6) i)), ia (xA 9) (xK 9) 7 (fun i => nI ((sc 9) i)), ia (xA 11) (xK 11) 7 (fun i => nI ((ciN m1 Gm (a1 + 1)) i)), oc pa 0 [.ref (pA 0), .ref (pA 1), .ref (pA 2), .ref (pA 3), .ref (pA 4), .ref (pA 5), .ref (pA 6), .ref (pA 7), .ref (pA 8), .ref (pA 9), .ref (pA 10), .int (nI T), .int (nI Ac)], ia (pA 2) (pK 2) 7 (fun i => nI ((pg 2) i)), ia (pA 4) (pK 4) 7 (fun i => nI ((pg 4) i)), ia (pA 8) (pK 8) 4 (fun i => nI ((pg 8) i)), ia (pA 9) (pK 9) 6 (fun i => nI ((pg 9) i))]) hP hD rfl hS hA [0, 1, 2, 3, 4, 5, 6, 7, 8] (by decide +kernel) rfl
          exact ih_a1 _ _ _ ⟨hP8, hS, lv_sub hl [0, 1, 2] rfl⟩
        · skip
          have hc2 : ¬ (b9 = 0) := fun q9 => c2 ((nI_eq (a := b9) (b := 0) (by omega) (by omega)).mpr q9)
          refine tp_pc (pc' := 137) (by rfl) ?_
          refine lv_aload_n hx hb d_GraphSearch_closeHappens_137 rfl (lv_at hl 2 rfl) ?_
          refine va_get (D := (dC, dI)) (ci := 6) (v := .ref (xA 11)) (C := R_GraphSearch) (T := F_GraphSearch) (N := 17) hx hb hw i_GraphSearch hown hK hP 0 rfl rfl 13 (by decide) (hw _ m_332) (fun _ h9 => h9) rfl d_GraphSearch_closeHappens_138 ?_
          refine lv_iload_n hx hb d_GraphSearch_closeHappens_141 rfl (lv_at hl 0 rfl) ?_
          refine lv_dup2_11 hx hb d_GraphSearch_closeHappens_142 rfl rfl ?_
          refine va_iald (D := (dC, dI)) hx hb hK hP 3 2 rfl rfl (i := nI a1) (pk_in a1 7 (by omega)) d_GraphSearch_closeHappens_143 ?_
          refine tp_i (y := nI ((ciN m1 Gm a1) a1)) (by rw [show (nI a1 : Int32).toNatClampNeg = a1 from pk_cl a1]) ?_
          refine lv_aload_n hx hb d_GraphSearch_closeHappens_144 rfl (lv_at hl 2 rfl) ?_
          refine va_get (D := (dC, dI)) (ci := 6) (v := .ref (xA 11)) (C := R_GraphSearch) (T := F_GraphSearch) (N := 17) hx hb hw i_GraphSearch hown hK hP 0 rfl rfl 13 (by decide) (hw _ m_332) (fun _ h9 => h9) rfl d_GraphSearch_closeHappens_145 ?_
          refine lv_iload_n hx hb d_GraphSearch_closeHappens_148 rfl (lv_at hl 1 rfl) ?_
          refine va_iald (D := (dC, dI)) hx hb hK hP 3 2 rfl rfl (i := nI m1) (pk_in m1 7 (by omega)) d_GraphSearch_closeHappens_149 ?_
          refine tp_i (y := nI ((ciN m1 Gm a1) m1)) (by rw [show (nI m1 : Int32).toNatClampNeg = m1 from pk_cl m1]) ?_
          refine lv_ior hx hb d_GraphSearch_closeHappens_150 ?_
          refine tp_i (y := (nI ((ciN m1 Gm a1) a1)) ||| (nI ((ciN m1 Gm a1) m1))) rfl ?_
          refine tp_i (y := nI (ciN m1 Gm a1 a1 ||| ciN m1 Gm a1 m1)) (or_eq _ (c18 a1) _ (c18 m1)) ?_
          refine va_iast (D := (dC, dI)) hx hb hK hP (dd_D hD rfl) hS 3 2 rfl rfl (i := nI a1) (x := nI (ciN m1 Gm a1 a1 ||| ciN m1 Gm a1 m1)) (pk_in a1 7 (by omega)) d_GraphSearch_closeHappens_151 ?_
          clear hP hS locs H
          intro H locs hP _ hS
          rw [show (nI a1 : Int32).toNatClampNeg = a1 from pk_cl a1] at hP
          rw [show upd (fun i => nI ((ciN m1 Gm a1) i)) a1 (nI (ciN m1 Gm a1 a1 ||| ciN m1 Gm a1 m1)) = fun i => nI (updN (ciN m1 Gm a1) a1 (ciN m1 Gm a1 a1 ||| ciN m1 Gm a1 m1) i) from upd_nI] at hP
          replace hP : va_P (dC, dI) classes [oc xa 6 [.ref pa, .ref ga, .ref (xA 0), .ref (xA 1), .ref (xA 2), .ref (xA 3), .ref (xA 4), .ref (xA 5), .ref (xA 6), .ref (xA 7), .ref (xA 8), .ref (xA 9), .ref (xA 10), .ref (xA 11), .ref fa, .int (nI md), .int (nI mb)], ia (xA 6) (xK 6) 8 (fun i => nI ((sc 6) i)), ia (xA 9) (xK 9) 7 (fun i => nI ((sc 9) i)), ia (xA 11) (xK 11) 7 (fun i => nI ((updN (ciN m1 Gm a1) a1 (ciN m1 Gm a1 a1 ||| ciN m1 Gm a1 m1)) i)), oc pa 0 [.ref (pA 0), .ref (pA 1), .ref (pA 2), .ref (pA 3), .ref (pA 4), .ref (pA 5), .ref (pA 6), .ref (pA 7), .ref (pA 8), .ref (pA 9), .ref (pA 10), .int (nI T), .int (nI Ac)], ia (pA 2) (pK 2) 7 (fun i => nI ((pg 2) i)), ia (pA 4) (pK 4) 7 (fun i => nI ((pg 4) i)), ia (pA 8) (pK 8) 4 (fun i => nI ((pg 8) i)), ia (pA 9) (pK 9) 6 (fun i => nI ((pg 9) i))] H := hP
          refine tp_pc (pc' := 152) (by rfl) ?_
          rw [show updN (ciN m1 Gm a1) a1 (ciN m1 Gm a1 a1 ||| ciN m1 Gm a1 m1) = ciN m1 Gm (a1 + 1) from by rw [ciN, if_pos (by rw [← hca, ← hb9]; exact bit0 hb92 hc2)]] at hP
          replace hP : va_P (dC, dI) classes [oc xa 6 [.ref pa, .ref ga, .ref (xA 0), .ref (xA 1), .ref (xA 2), .ref (xA 3), .ref (xA 4), .ref (xA 5), .ref (xA 6), .ref (xA 7), .ref (xA 8), .ref (xA 9), .ref (xA 10), .ref (xA 11), .ref fa, .int (nI md), .int (nI mb)], ia (xA 6) (xK 6) 8 (fun i => nI ((sc 6) i)), ia (xA 9) (xK 9) 7 (fun i => nI ((sc 9) i)), ia (xA 11) (xK 11) 7 (fun i => nI ((ciN m1 Gm (a1 + 1)) i)), oc pa 0 [.ref (pA 0), .ref (pA 1), .ref (pA 2), .ref (pA 3), .ref (pA 4), .ref (pA 5), .ref (pA 6), .ref (pA 7), .ref (pA 8), .ref (pA 9), .ref (pA 10), .int (nI T), .int (nI Ac)], ia (pA 2) (pK 2) 7 (fun i => nI ((pg 2) i)), ia (pA 4) (pK 4) 7 (fun i => nI ((pg 4) i)), ia (pA 8) (pK 8) 4 (fun i => nI ((pg 8) i)), ia (pA 9) (pK 9) 6 (fun i => nI ((pg 9) i))] H := hP
          refine lv_iinc (v := nI (a1 + 1)) (lv' := [(2, .int (nI (a1 + 1))), (1, .int (nI m1)), (0, .ref xa)]) hx hb d_GraphSearch_closeHappens_152 hl (k := 0) rfl (by exact nI_1 a1) (by decide) rfl ?_
          clear hl ls
          intro ls hl
          refine lv_goto (tgt := 113) hx hb d_GraphSearch_closeHappens_155 (by decide) ?_
          refine tp_pc (pc' := 113) (by rfl) ?_
          obtain ⟨hP8, -, -⟩ := cut3 (wc := [oc xa 6 [.ref pa, .ref ga, .ref (xA 0), .ref (xA 1), .ref (xA 2), .ref (xA 3), .ref (xA 4), .ref (xA 5), .ref (xA 6), .ref (xA 7), .ref (xA 8), .ref (xA 9), .ref (xA 10), .ref (xA 11), .ref fa, .int (nI md), .int (nI mb)], ia (xA 6) (xK 6) 8 (fun i => nI ((sc 6) i)), ia (xA 9) (xK 9) 7 (fun i => nI ((sc 9) i)), ia (xA 11) (xK 11) 7 (fun i => nI ((ciN m1 Gm (a1 + 1)) i)), oc pa 0 [.ref (pA 0), .ref (pA 1), .ref (pA 2), .ref (pA 3), .ref (pA 4), .ref (pA 5), .ref (pA 6), .ref (pA 7), .ref (pA 8), .ref (pA 9), .ref (pA 10), .int (nI T), .int (nI Ac)], ia (pA 2) (pK 2) 7 (fun i => nI ((pg 2) i)), ia (pA 4) (pK 4) 7 (fun i => nI ((pg 4) i)), ia (pA 8) (pK 8) 4 (fun i => nI ((pg 8) i)), ia (pA 9) (pK 9) 6 (fun i => nI ((pg 9) i))]) hP hD rfl hS hA [0, 1, 2, 3, 4, 5, 6, 7, 8] (by decide +kernel) rfl
          exact ih_a1 _ _ _ ⟨hP8, hS, lv_sub hl [0, 1, 2] rfl⟩
      · intro H locs ls hI
        obtain ⟨hP, hS, hl⟩ := hI
        refine lv_iload_n hx hb d_GraphSearch_closeHappens_113 rfl (lv_at hl 0 rfl) ?_
        refine lv_aload_n hx hb d_GraphSearch_closeHappens_114 rfl (lv_at hl 2 rfl) ?_
        refine va_get (D := (dC, dI)) (ci := 6) (v := .ref pa) (C := R_GraphSearch) (T := F_GraphSearch) (N := 17) hx hb hw i_GraphSearch hown hK hP 0 rfl rfl 0 (by decide) (hw _ m_319) (fun _ h9 => h9) rfl d_GraphSearch_closeHappens_115 ?_
        refine va_get (D := (dC, dI)) (ci := 0) (v := .int (nI Ac)) (C := R_Program) (T := F_Program) (N := 13) hx hb hw i_Program hown hK hP 4 rfl rfl 12 (by decide) (hw _ m_166) (fun _ h9 => h9) rfl d_GraphSearch_closeHappens_118 ?_
        refine lv_icmp_ge (tgt := 158) hx hb d_GraphSearch_closeHappens_121 (by decide) (fun c9 => ?_) (fun c9 => absurd (nI_le (Nat.le_refl _) (by omega)) c9)
        rw [show ciN m1 Gm Ac = coN Ac F1 (m1 + 1) from by rw [coN, hGm]] at hP
        replace hP : va_P (dC, dI) classes [oc xa 6 [.ref pa, .ref ga, .ref (xA 0), .ref (xA 1), .ref (xA 2), .ref (xA 3), .ref (xA 4), .ref (xA 5), .ref (xA 6), .ref (xA 7), .ref (xA 8), .ref (xA 9), .ref (xA 10), .ref (xA 11), .ref fa, .int (nI md), .int (nI mb)], ia (xA 6) (xK 6) 8 (fun i => nI ((sc 6) i)), ia (xA 9) (xK 9) 7 (fun i => nI ((sc 9) i)), ia (xA 11) (xK 11) 7 (fun i => nI ((coN Ac F1 (m1 + 1)) i)), oc pa 0 [.ref (pA 0), .ref (pA 1), .ref (pA 2), .ref (pA 3), .ref (pA 4), .ref (pA 5), .ref (pA 6), .ref (pA 7), .ref (pA 8), .ref (pA 9), .ref (pA 10), .int (nI T), .int (nI Ac)], ia (pA 2) (pK 2) 7 (fun i => nI ((pg 2) i)), ia (pA 4) (pK 4) 7 (fun i => nI ((pg 4) i)), ia (pA 8) (pK 8) 4 (fun i => nI ((pg 8) i)), ia (pA 9) (pK 9) 6 (fun i => nI ((pg 9) i))] H := hP
        refine tp_pc (pc' := 158) (by rfl) ?_
        refine lv_iinc (v := nI (m1 + 1)) (lv' := [(1, .int (nI (m1 + 1))), (2, .int (nI Ac)), (0, .ref xa)]) hx hb d_GraphSearch_closeHappens_158 hl (k := 1) rfl (by exact nI_1 m1) (by decide) rfl ?_
        clear hl ls
        intro ls hl
        refine lv_goto (tgt := 100) hx hb d_GraphSearch_closeHappens_161 (by decide) ?_
        refine tp_pc (pc' := 100) (by rfl) ?_
        obtain ⟨hP8, -, -⟩ := cut3 (wc := [oc xa 6 [.ref pa, .ref ga, .ref (xA 0), .ref (xA 1), .ref (xA 2), .ref (xA 3), .ref (xA 4), .ref (xA 5), .ref (xA 6), .ref (xA 7), .ref (xA 8), .ref (xA 9), .ref (xA 10), .ref (xA 11), .ref fa, .int (nI md), .int (nI mb)], ia (xA 6) (xK 6) 8 (fun i => nI ((sc 6) i)), ia (xA 9) (xK 9) 7 (fun i => nI ((sc 9) i)), ia (xA 11) (xK 11) 7 (fun i => nI ((coN Ac F1 (m1 + 1)) i)), oc pa 0 [.ref (pA 0), .ref (pA 1), .ref (pA 2), .ref (pA 3), .ref (pA 4), .ref (pA 5), .ref (pA 6), .ref (pA 7), .ref (pA 8), .ref (pA 9), .ref (pA 10), .int (nI T), .int (nI Ac)], ia (pA 2) (pK 2) 7 (fun i => nI ((pg 2) i)), ia (pA 4) (pK 4) 7 (fun i => nI ((pg 4) i)), ia (pA 8) (pK 8) 4 (fun i => nI ((pg 8) i)), ia (pA 9) (pK 9) 6 (fun i => nI ((pg 9) i))]) hP hD rfl hS hA [0, 1, 2, 3, 4, 5, 6, 7, 8] (by decide +kernel) rfl
        exact ih_m1 _ _ _ ⟨hP8, hS, lv_sub hl [0, 2] rfl⟩
    · intro H locs ls hI
      obtain ⟨hP, hS, hl⟩ := hI
      refine lv_iload_n hx hb d_GraphSearch_closeHappens_100 rfl (lv_at hl 0 rfl) ?_
      refine lv_aload_n hx hb d_GraphSearch_closeHappens_101 rfl (lv_at hl 1 rfl) ?_
      refine va_get (D := (dC, dI)) (ci := 6) (v := .ref pa) (C := R_GraphSearch) (T := F_GraphSearch) (N := 17) hx hb hw i_GraphSearch hown hK hP 0 rfl rfl 0 (by decide) (hw _ m_319) (fun _ h9 => h9) rfl d_GraphSearch_closeHappens_102 ?_
      refine va_get (D := (dC, dI)) (ci := 0) (v := .int (nI Ac)) (C := R_Program) (T := F_Program) (N := 13) hx hb hw i_Program hown hK hP 4 rfl rfl 12 (by decide) (hw _ m_166) (fun _ h9 => h9) rfl d_GraphSearch_closeHappens_105 ?_
      refine lv_icmp_ge (tgt := 164) hx hb d_GraphSearch_closeHappens_108 (by decide) (fun c9 => ?_) (fun c9 => absurd (nI_le (Nat.le_refl _) (by omega)) c9)
      refine tp_pc (pc' := 164) (by rfl) ?_
      obtain ⟨hP9, hD9, -⟩ := cut3 (wc := [oc xa 6 [.ref pa, .ref ga, .ref (xA 0), .ref (xA 1), .ref (xA 2), .ref (xA 3), .ref (xA 4), .ref (xA 5), .ref (xA 6), .ref (xA 7), .ref (xA 8), .ref (xA 9), .ref (xA 10), .ref (xA 11), .ref fa, .int (nI md), .int (nI mb)], ia (xA 6) (xK 6) 8 (fun i => nI ((sc 6) i)), ia (xA 9) (xK 9) 7 (fun i => nI ((sc 9) i)), ia (xA 11) (xK 11) 7 (fun i => nI ((coN Ac F1 Ac) i)), oc pa 0 [.ref (pA 0), .ref (pA 1), .ref (pA 2), .ref (pA 3), .ref (pA 4), .ref (pA 5), .ref (pA 6), .ref (pA 7), .ref (pA 8), .ref (pA 9), .ref (pA 10), .int (nI T), .int (nI Ac)], ia (pA 2) (pK 2) 7 (fun i => nI ((pg 2) i)), ia (pA 4) (pK 4) 7 (fun i => nI ((pg 4) i)), ia (pA 8) (pK 8) 4 (fun i => nI ((pg 8) i)), ia (pA 9) (pK 9) 6 (fun i => nI ((pg 9) i))]) hP hD rfl hS hA [0, 1, 2, 3, 4, 5, 6, 7, 8] (by decide +kernel) rfl
      have hK9 := hK.sub (tys' := []) [] rfl
      refine W.widen (k := 0) (n := 0) (by exact Nat.le_of_ble_eq_true rfl) (by exact Nat.le_of_ble_eq_true rfl) ?_
      exact W.vret hx hb hr (fun t9 ht9 hW => ⟨⟨(), rfl, trivial, by rw [ht9]; exact hP9, va_K.moved hW.alike hK9, hD9⟩, hS.F ht9⟩) hS.2.2 d_GraphSearch_closeHappens_164
set_option maxHeartbeats 4000000 in
set_option maxRecDepth 100000 in
theorem gen_GS_isKnownInOrder (l : Launch) (dC : Nat → ClassId) (dI : Nat → Nat → Nat) (pa : Nat) (pA : Nat → Nat) (pK : Nat → ClassId) (T Ac : Nat) (pg : Nat → Nat → Nat) (nm : Nat → Int32) (xa ga fa : Nat) (xA : Nat → Nat) (xK : Nat → ClassId) (md mb : Nat) (fm wm : Nat → Nat) (sc : Nat → Nat → Nat) (hA7 : Ac ≤ 7) (hmb : mb < 128) (h9 : ∀ i, sc 9 i < 128) (h11 : ∀ i, sc 11 i < 128) (sz : Nat) : Met l y_GraphSearch_isKnownInOrder w_GraphSearch_isKnownInOrder ({ frames := 1, cells := 0, slots := 0, locals := 40 }) (va_Pc [.ref xa] (fun U => U.heap.size = sz ∧ va_P (dC, dI) classes [oc xa 6 [.ref pa, .ref ga, .ref (xA 0), .ref (xA 1), .ref (xA 2), .ref (xA 3), .ref (xA 4), .ref (xA 5), .ref (xA 6), .ref (xA 7), .ref (xA 8), .ref (xA 9), .ref (xA 10), .ref (xA 11), .ref fa, .int (nI md), .int (nI mb)], ia (xA 9) (xK 9) 7 (fun i => nI ((sc 9) i)), ia (xA 11) (xK 11) 7 (fun i => nI ((sc 11) i)), oc pa 0 [.ref (pA 0), .ref (pA 1), .ref (pA 2), .ref (pA 3), .ref (pA 4), .ref (pA 5), .ref (pA 6), .ref (pA 7), .ref (pA 8), .ref (pA 9), .ref (pA 10), .int (nI T), .int (nI Ac)]] U.heap ∧ va_K (dC, dI) classes [((xK 9), .int), ((xK 11), .int)] U ∧ va_D (fun _ => True) [oc xa 6 [.ref pa, .ref ga, .ref (xA 0), .ref (xA 1), .ref (xA 2), .ref (xA 3), .ref (xA 4), .ref (xA 5), .ref (xA 6), .ref (xA 7), .ref (xA 8), .ref (xA 9), .ref (xA 10), .ref (xA 11), .ref fa, .int (nI md), .int (nI mb)], ia (xA 9) (xK 9) 7 (fun i => nI ((sc 9) i)), ia (xA 11) (xK 11) 7 (fun i => nI ((sc 11) i)), oc pa 0 [.ref (pA 0), .ref (pA 1), .ref (pA 2), .ref (pA 3), .ref (pA 4), .ref (pA 5), .ref (pA 6), .ref (pA 7), .ref (pA 8), .ref (pA 9), .ref (pA 10), .int (nI T), .int (nI Ac)]] ∧ nw U)) (va_Qi (fun (r : Int32) (_ : Unit) => r = if fF (kno mb (sc 9) (sc 11)) Ac 0 = 0 then 1 else 0) (fun _ t9 => va_P (dC, dI) classes [oc xa 6 [.ref pa, .ref ga, .ref (xA 0), .ref (xA 1), .ref (xA 2), .ref (xA 3), .ref (xA 4), .ref (xA 5), .ref (xA 6), .ref (xA 7), .ref (xA 8), .ref (xA 9), .ref (xA 10), .ref (xA 11), .ref fa, .int (nI md), .int (nI mb)], ia (xA 9) (xK 9) 7 (fun i => nI ((sc 9) i)), ia (xA 11) (xK 11) 7 (fun i => nI ((sc 11) i)), oc pa 0 [.ref (pA 0), .ref (pA 1), .ref (pA 2), .ref (pA 3), .ref (pA 4), .ref (pA 5), .ref (pA 6), .ref (pA 7), .ref (pA 8), .ref (pA 9), .ref (pA 10), .int (nI T), .int (nI Ac)]] t9.heap ∧ va_K (dC, dI) classes [] t9 ∧ va_D (va_A [oc xa 6 [.ref pa, .ref ga, .ref (xA 0), .ref (xA 1), .ref (xA 2), .ref (xA 3), .ref (xA 4), .ref (xA 5), .ref (xA 6), .ref (xA 7), .ref (xA 8), .ref (xA 9), .ref (xA 10), .ref (xA 11), .ref fa, .int (nI md), .int (nI mb)], ia (xA 9) (xK 9) 7 (fun i => nI ((sc 9) i)), ia (xA 11) (xK 11) 7 (fun i => nI ((sc 11) i)), oc pa 0 [.ref (pA 0), .ref (pA 1), .ref (pA 2), .ref (pA 3), .ref (pA 4), .ref (pA 5), .ref (pA 6), .ref (pA 7), .ref (pA 8), .ref (pA 9), .ref (pA 10), .int (nI T), .int (nI Ac)]] sz) [oc xa 6 [.ref pa, .ref ga, .ref (xA 0), .ref (xA 1), .ref (xA 2), .ref (xA 3), .ref (xA 4), .ref (xA 5), .ref (xA 6), .ref (xA 7), .ref (xA 8), .ref (xA 9), .ref (xA 10), .ref (xA 11), .ref fa, .int (nI md), .int (nI mb)], ia (xA 9) (xK 9) 7 (fun i => nI ((sc 9) i)), ia (xA 11) (xK 11) 7 (fun i => nI ((sc 11) i)), oc pa 0 [.ref (pA 0), .ref (pA 1), .ref (pA 2), .ref (pA 3), .ref (pA 4), .ref (pA 5), .ref (pA 6), .ref (pA 7), .ref (pA 8), .ref (pA 9), .ref (pA 10), .int (nI T), .int (nI Ac)]]) (va_A [oc xa 6 [.ref pa, .ref ga, .ref (xA 0), .ref (xA 1), .ref (xA 2), .ref (xA 3), .ref (xA 4), .ref (xA 5), .ref (xA 6), .ref (xA 7), .ref (xA 8), .ref (xA 9), .ref (xA 10), .ref (xA 11), .ref fa, .int (nI md), .int (nI mb)], ia (xA 9) (xK 9) 7 (fun i => nI ((sc 9) i)), ia (xA 11) (xK 11) 7 (fun i => nI ((sc 11) i)), oc pa 0 [.ref (pA 0), .ref (pA 1), .ref (pA 2), .ref (pA 3), .ref (pA 4), .ref (pA 5), .ref (pA 6), .ref (pA 7), .ref (pA 8), .ref (pA 9), .ref (pA 10), .int (nI T), .int (nI Ac)]] sz)) 0 0 (va_A [oc xa 6 [.ref pa, .ref ga, .ref (xA 0), .ref (xA 1), .ref (xA 2), .ref (xA 3), .ref (xA 4), .ref (xA 5), .ref (xA 6), .ref (xA 7), .ref (xA 8), .ref (xA 9), .ref (xA 10), .ref (xA 11), .ref fa, .int (nI md), .int (nI mb)], ia (xA 9) (xK 9) 7 (fun i => nI ((sc 9) i)), ia (xA 11) (xK 11) 7 (fun i => nI ((sc 11) i)), oc pa 0 [.ref (pA 0), .ref (pA 1), .ref (pA 2), .ref (pA 3), .ref (pA 4), .ref (pA 5), .ref (pA 6), .ref (pA 7), .ref (pA 8), .ref (pA 9), .ref (pA 10), .int (nI T), .int (nI Ac)]] sz) := by
  refine Met.ofW (cc := b_GraphSearch_isKnownInOrder) (maxL := 2) (ret := (some .boolean)) (by decide) rfl ?_
  intro p e0 s m args below meth c s₁ B hml hv
  obtain ⟨rfl, hsz, hP, hK, hD0, hn⟩ := hv
  have hx := B.exec
  have hb := B.bytes
  have hr := B.returns
  have hw := fun w (h : w ∈ wt) => atoms_spec (ws := w_GraphSearch_isKnownInOrder) B.pre w (List.mem_cons_of_mem _ h)
  have hown : s.vm.findClass R_GraphSearch = some m.cls := findClass_of_methodNamed B.named
  have hlocks := B.notSynchronized
  subst hsz
  have hD1 := hD0.self (sz := s.heap.size)
  generalize hAe : va_A [oc xa 6 [.ref pa, .ref ga, .ref (xA 0), .ref (xA 1), .ref (xA 2), .ref (xA 3), .ref (xA 4), .ref (xA 5), .ref (xA 6), .ref (xA 7), .ref (xA 8), .ref (xA 9), .ref (xA 10), .ref (xA 11), .ref fa, .int (nI md), .int (nI mb)], ia (xA 9) (xK 9) 7 (fun i => nI ((sc 9) i)), ia (xA 11) (xK 11) 7 (fun i => nI ((sc 11) i)), oc pa 0 [.ref (pA 0), .ref (pA 1), .ref (pA 2), .ref (pA 3), .ref (pA 4), .ref (pA 5), .ref (pA 6), .ref (pA 7), .ref (pA 8), .ref (pA 9), .ref (pA 10), .int (nI T), .int (nI Ac)]] s.heap.size = A at hD1 ⊢
  have hA : ∀ q : Nat, s.heap.size ≤ q → A q := fun q h => by rw [← hAe]; exact Or.inr h
  have hD : dd A [xa, (xA 9), (xA 11), pa] := dd_of hD1 rfl
  clear hAe hD0 hD1
  have hS : va_S A s.heap s.heap [] := va_S.rf
  replace hP : va_P (dC, dI) classes [oc xa 6 [.ref pa, .ref ga, .ref (xA 0), .ref (xA 1), .ref (xA 2), .ref (xA 3), .ref (xA 4), .ref (xA 5), .ref (xA 6), .ref (xA 7), .ref (xA 8), .ref (xA 9), .ref (xA 10), .ref (xA 11), .ref fa, .int (nI md), .int (nI mb)], ia (xA 9) (xK 9) 7 (fun i => nI ((sc 9) i)), ia (xA 11) (xK 11) 7 (fun i => nI ((sc 11) i)), oc pa 0 [.ref (pA 0), .ref (pA 1), .ref (pA 2), .ref (pA 3), .ref (pA 4), .ref (pA 5), .ref (pA 6), .ref (pA 7), .ref (pA 8), .ref (pA 9), .ref (pA 10), .int (nI T), .int (nI Ac)]] s.heap := hP
  have hl := lv_entry ([.ref xa]) (n := 2) (Nat.le_of_ble_eq_true rfl)
  rw [lg_entry_eq]
  generalize (lg_sl ([.ref xa]) ++ List.replicate (2 - (lg_sl ([.ref xa])).length) Slot.unset).toArray = ls at hl ⊢
  replace hl : lv_has ls 2 [(0, .ref xa)] := hl
  refine lv_iconst (v := 0) hx hb d_GraphSearch_isKnownInOrder_0 (by decide) ?_
  refine lv_istore_n (lv' := [(1, .int 0), (0, .ref xa)]) hx hb d_GraphSearch_isKnownInOrder_1 rfl hl (by decide) rfl ?_
  clear hl ls
  intro ls hl
  replace hP : va_P (dC, dI) classes [oc xa 6 [.ref pa, .ref ga, .ref (xA 0), .ref (xA 1), .ref (xA 2), .ref (xA 3), .ref (xA 4), .ref (xA 5), .ref (xA 6), .ref (xA 7), .ref (xA 8), .ref (xA 9), .ref (xA 10), .ref (xA 11), .ref fa, .int (nI md), .int (nI mb)], ia (xA 9) (xK 9) 7 (fun i => nI ((sc 9) i)), ia (xA 11) (xK 11) 7 (fun i => nI ((sc 11) i)), oc pa 0 [.ref (pA 0), .ref (pA 1), .ref (pA 2), .ref (pA 3), .ref (pA 4), .ref (pA 5), .ref (pA 6), .ref (pA 7), .ref (pA 8), .ref (pA 9), .ref (pA 10), .int (nI T), .int (nI Ac)]] s.heap := hP
  replace hl : lv_has ls 2 [(1, .int (nI 0)), (0, .ref xa)] := hl
  refine lp_n Ac (fun i1 H locs ls => fF (kno mb (sc 9) (sc 11)) (Ac - i1) i1 = fF (kno mb (sc 9) (sc 11)) Ac 0 ∧ va_P (dC, dI) classes [oc xa 6 [.ref pa, .ref ga, .ref (xA 0), .ref (xA 1), .ref (xA 2), .ref (xA 3), .ref (xA 4), .ref (xA 5), .ref (xA 6), .ref (xA 7), .ref (xA 8), .ref (xA 9), .ref (xA 10), .ref (xA 11), .ref fa, .int (nI md), .int (nI mb)], ia (xA 9) (xK 9) 7 (fun i => nI ((sc 9) i)), ia (xA 11) (xK 11) 7 (fun i => nI ((sc 11) i)), oc pa 0 [.ref (pA 0), .ref (pA 1), .ref (pA 2), .ref (pA 3), .ref (pA 4), .ref (pA 5), .ref (pA 6), .ref (pA 7), .ref (pA 8), .ref (pA 9), .ref (pA 10), .int (nI T), .int (nI Ac)]] H ∧ va_S A s.heap H locs ∧ lv_has ls 2 [(1, .int (nI i1)), (0, .ref xa)]) ⟨rfl, hP, hS, hl⟩ ?_ ?_
  · intro i1 H locs ls hi1 hI ih_i1
    obtain ⟨hinv, hP, hS, hl⟩ := hI
    refine lv_iload_n hx hb d_GraphSearch_isKnownInOrder_2 rfl (lv_at hl 0 rfl) ?_
    refine lv_aload_n hx hb d_GraphSearch_isKnownInOrder_3 rfl (lv_at hl 1 rfl) ?_
    refine va_get (D := (dC, dI)) (ci := 6) (v := .ref pa) (C := R_GraphSearch) (T := F_GraphSearch) (N := 17) hx hb hw i_GraphSearch hown hK hP 0 rfl rfl 0 (by decide) (hw _ m_319) (fun _ h9 => h9) rfl d_GraphSearch_isKnownInOrder_4 ?_
    refine va_get (D := (dC, dI)) (ci := 0) (v := .int (nI Ac)) (C := R_Program) (T := F_Program) (N := 13) hx hb hw i_Program hown hK hP 3 rfl rfl 12 (by decide) (hw _ m_166) (fun _ h9 => h9) rfl d_GraphSearch_isKnownInOrder_7 ?_
    refine lv_icmp_ge (tgt := 48) hx hb d_GraphSearch_isKnownInOrder_10 (by decide) (fun c9 => absurd c9 (nI_ge hi1 (by omega))) (fun c9 => ?_)
    rw [show Ac - i1 = (Ac - (i1 + 1)) + 1 from by omega, fF] at hinv
    refine tp_pc (pc' := 13) (by rfl) ?_
    refine lv_aload_n hx hb d_GraphSearch_isKnownInOrder_13 rfl (lv_at hl 1 rfl) ?_
    refine va_get (D := (dC, dI)) (ci := 6) (v := .int (nI mb)) (C := R_GraphSearch) (T := F_GraphSearch) (N := 17) hx hb hw i_GraphSearch hown hK hP 0 rfl rfl 16 (by decide) (hw _ m_335) (fun _ h9 => h9) rfl d_GraphSearch_isKnownInOrder_14 ?_
    refine lv_iload_n hx hb d_GraphSearch_isKnownInOrder_17 rfl (lv_at hl 0 rfl) ?_
    obtain ⟨b9, hb9⟩ : ∃ b9, b9 = mb / 2 ^ i1 % 2 := ⟨_, rfl⟩
    have hb92 : b9 < 2 := by rw [hb9]; exact Nat.mod_lt _ (by decide)
    obtain ⟨hPc, hDc, hFc⟩ := cut3 (wc := []) hP hD rfl hS hA [] (by decide +kernel) rfl
    have hKc := hK.sub (tys' := []) [] rfl
    refine va_calli (va_runSN (As := [.int (nI mb), .int (nI i1)]) (rest := []) ⟨hx, hb, hml, hown, hw⟩ (gen_isIn l dC dI mb i1 (by omega) (by omega) H.size) (⟨va_cnB 2 hw g_OM_isIn rfl rfl rfl (hn.1 (R_GraphSearch, 166, y_OM_isIn, "OrderModels") (nq 3 (by rfl))) (hw _ m_101) (by decide +kernel) ⟨Nat.le_of_ble_eq_true rfl, Nat.le_of_ble_eq_true rfl⟩, hw _ m_560, trivial⟩) ⟨fun a U g mk q => by obtain ⟨q0, q1, qP, qK, qD, qN⟩ := q; exact ⟨q0, q1, qP, va_K.moved (u := U) (U := U.calling g mk a) (Vm.Alike.refl U.vm) qK, qD, nw_call qN⟩, fun U hU hW => ⟨rfl, by rw [hU], by rw [hU]; exact hPc, va_K.moved hW.alike hKc, hDc.weaken (fun _ _ _ _ => trivial), nw_warm hW hn⟩⟩ rfl rfl hl.1 rfl (lv_room (Nat.le_of_ble_eq_true rfl)) d_GraphSearch_isKnownInOrder_18 ⟨Nat.le_of_ble_eq_true rfl, Nat.le_of_ble_eq_true rfl⟩) hS (fun q _ h => hFc q h) hFc ?_
    intro r_1 u t9 H1 locs1 ht9 hvm hw1 hB hz1 hk1 hS1
    obtain ⟨hP1, hK1, hD1⟩ := hB
    rw [ht9] at hP1
    replace hK1 := va_K.moved hvm.symm hK1
    have hPD := join3 hP hD rfl [] [0, 1, 2, 3] rfl (by rfl) (by decide +kernel) (by decide +kernel) hk1 hFc hP1 hD1
    replace hK : va_K (dC, dI) classes [((xK 9), .int), ((xK 11), .int)] s := hK.app hK1
    clear hP1 hK1 hD1 hk1 hz1 hFc hKc hDc hPc hvm ht9 hP hS t9 locs H
    have hP : va_P (dC, dI) classes [oc xa 6 [.ref pa, .ref ga, .ref (xA 0), .ref (xA 1), .ref (xA 2), .ref (xA 3), .ref (xA 4), .ref (xA 5), .ref (xA 6), .ref (xA 7), .ref (xA 8), .ref (xA 9), .ref (xA 10), .ref (xA 11), .ref fa, .int (nI md), .int (nI mb)], ia (xA 9) (xK 9) 7 (fun i => nI ((sc 9) i)), ia (xA 11) (xK 11) 7 (fun i => nI ((sc 11) i)), oc pa 0 [.ref (pA 0), .ref (pA 1), .ref (pA 2), .ref (pA 3), .ref (pA 4), .ref (pA 5), .ref (pA 6), .ref (pA 7), .ref (pA 8), .ref (pA 9), .ref (pA 10), .int (nI T), .int (nI Ac)]] H1 := hPD.1
    replace hD : dd A [xa, (xA 9), (xA 11), pa] := dd_of hPD.2 rfl
    clear hPD
    revert H1 locs1
    intro H locs hS hP
    refine tp_i (y := nI b9) (by rw [hw1, hb9]) ?_
    clear hw1 r_1 u
    refine tp_pc (pc' := 21) (by rfl) ?_
    refine lv_if_eq (tgt := 42) hx hb d_GraphSearch_isKnownInOrder_21 (by decide) (fun c1 => ?_) (fun c1 => ?_)
    · skip
      have hc1 : b9 = 0 := (nI_eq (a := b9) (b := 0) (by omega) (by omega)).mp c1
      rw [if_neg (by unfold kno; rw [← hb9, hc1]; simp)] at hinv
      refine tp_pc (pc' := 42) (by rfl) ?_
      refine lv_iinc (v := nI (i1 + 1)) (lv' := [(1, .int (nI (i1 + 1))), (0, .ref xa)]) hx hb d_GraphSearch_isKnownInOrder_42 hl (k := 0) rfl (by exact nI_1 i1) (by decide) rfl ?_
      clear hl ls
      intro ls hl
      refine lv_goto (tgt := 2) hx hb d_GraphSearch_isKnownInOrder_45 (by decide) ?_
      refine tp_pc (pc' := 2) (by rfl) ?_
      obtain ⟨hP8, -, -⟩ := cut3 (wc := [oc xa 6 [.ref pa, .ref ga, .ref (xA 0), .ref (xA 1), .ref (xA 2), .ref (xA 3), .ref (xA 4), .ref (xA 5), .ref (xA 6), .ref (xA 7), .ref (xA 8), .ref (xA 9), .ref (xA 10), .ref (xA 11), .ref fa, .int (nI md), .int (nI mb)], ia (xA 9) (xK 9) 7 (fun i => nI ((sc 9) i)), ia (xA 11) (xK 11) 7 (fun i => nI ((sc 11) i)), oc pa 0 [.ref (pA 0), .ref (pA 1), .ref (pA 2), .ref (pA 3), .ref (pA 4), .ref (pA 5), .ref (pA 6), .ref (pA 7), .ref (pA 8), .ref (pA 9), .ref (pA 10), .int (nI T), .int (nI Ac)]]) hP hD rfl hS hA [0, 1, 2, 3] (by decide +kernel) rfl
      exact ih_i1 _ _ _ ⟨hinv, hP8, hS, lv_sub hl [0, 1] rfl⟩
    · skip
      have hc1 : ¬ (b9 = 0) := fun q9 => c1 ((nI_eq (a := b9) (b := 0) (by omega) (by omega)).mpr q9)
      obtain ⟨d9, hd9⟩ : ∃ d9, d9 = sc 9 i1 &&& sc 11 i1 := ⟨_, rfl⟩
      have d98 : d9 < 128 := by rw [hd9]; exact Nat.and_lt_two_pow (n := 7) _ (h11 _)
      have hkn : kno mb (sc 9) (sc 11) i1 = (d9 != 0) := by unfold kno; rw [← hb9, ← hd9, bit0 hb92 hc1]; rfl
      rw [hkn] at hinv
      refine tp_pc (pc' := 24) (by rfl) ?_
      refine lv_aload_n hx hb d_GraphSearch_isKnownInOrder_24 rfl (lv_at hl 1 rfl) ?_
      refine va_get (D := (dC, dI)) (ci := 6) (v := .ref (xA 9)) (C := R_GraphSearch) (T := F_GraphSearch) (N := 17) hx hb hw i_GraphSearch hown hK hP 0 rfl rfl 11 (by decide) (hw _ m_330) (fun _ h9 => h9) rfl d_GraphSearch_isKnownInOrder_25 ?_
      refine lv_iload_n hx hb d_GraphSearch_isKnownInOrder_28 rfl (lv_at hl 0 rfl) ?_
      refine va_iald (D := (dC, dI)) hx hb hK hP 1 0 rfl rfl (i := nI i1) (pk_in i1 7 (by omega)) d_GraphSearch_isKnownInOrder_29 ?_
      refine tp_i (y := nI ((sc 9) i1)) (by rw [show (nI i1 : Int32).toNatClampNeg = i1 from pk_cl i1]) ?_
      refine lv_aload_n hx hb d_GraphSearch_isKnownInOrder_30 rfl (lv_at hl 1 rfl) ?_
      refine va_get (D := (dC, dI)) (ci := 6) (v := .ref (xA 11)) (C := R_GraphSearch) (T := F_GraphSearch) (N := 17) hx hb hw i_GraphSearch hown hK hP 0 rfl rfl 13 (by decide) (hw _ m_332) (fun _ h9 => h9) rfl d_GraphSearch_isKnownInOrder_31 ?_
      refine lv_iload_n hx hb d_GraphSearch_isKnownInOrder_34 rfl (lv_at hl 0 rfl) ?_
      refine va_iald (D := (dC, dI)) hx hb hK hP 2 1 rfl rfl (i := nI i1) (pk_in i1 7 (by omega)) d_GraphSearch_isKnownInOrder_35 ?_
      refine tp_i (y := nI ((sc 11) i1)) (by rw [show (nI i1 : Int32).toNatClampNeg = i1 from pk_cl i1]) ?_
      refine lv_iand hx hb d_GraphSearch_isKnownInOrder_36 ?_
      refine tp_i (y := (nI ((sc 9) i1)) &&& (nI ((sc 11) i1))) rfl ?_
      refine tp_i (y := nI d9) (by rw [hd9]; exact and_eq (h9 _) (h11 _)) ?_
      refine lv_if_eq (tgt := 42) hx hb d_GraphSearch_isKnownInOrder_37 (by decide) (fun c2 => ?_) (fun c2 => ?_)
      · skip
        have hc2 : d9 = 0 := (nI_eq (a := d9) (b := 0) (by omega) (by omega)).mp c2
        rw [if_neg (by rw [hc2]; decide)] at hinv
        refine tp_pc (pc' := 42) (by rfl) ?_
        refine lv_iinc (v := nI (i1 + 1)) (lv' := [(1, .int (nI (i1 + 1))), (0, .ref xa)]) hx hb d_GraphSearch_isKnownInOrder_42 hl (k := 0) rfl (by exact nI_1 i1) (by decide) rfl ?_
        clear hl ls
        intro ls hl
        refine lv_goto (tgt := 2) hx hb d_GraphSearch_isKnownInOrder_45 (by decide) ?_
        refine tp_pc (pc' := 2) (by rfl) ?_
        obtain ⟨hP8, -, -⟩ := cut3 (wc := [oc xa 6 [.ref pa, .ref ga, .ref (xA 0), .ref (xA 1), .ref (xA 2), .ref (xA 3), .ref (xA 4), .ref (xA 5), .ref (xA 6), .ref (xA 7), .ref (xA 8), .ref (xA 9), .ref (xA 10), .ref (xA 11), .ref fa, .int (nI md), .int (nI mb)], ia (xA 9) (xK 9) 7 (fun i => nI ((sc 9) i)), ia (xA 11) (xK 11) 7 (fun i => nI ((sc 11) i)), oc pa 0 [.ref (pA 0), .ref (pA 1), .ref (pA 2), .ref (pA 3), .ref (pA 4), .ref (pA 5), .ref (pA 6), .ref (pA 7), .ref (pA 8), .ref (pA 9), .ref (pA 10), .int (nI T), .int (nI Ac)]]) hP hD rfl hS hA [0, 1, 2, 3] (by decide +kernel) rfl
        exact ih_i1 _ _ _ ⟨hinv, hP8, hS, lv_sub hl [0, 1] rfl⟩
      · skip
        have hc2 : ¬ (d9 = 0) := fun q9 => c2 ((nI_eq (a := d9) (b := 0) (by omega) (by omega)).mpr q9)
        rw [if_pos (by simpa using hc2)] at hinv
        refine tp_pc (pc' := 40) (by rfl) ?_
        refine lv_iconst (v := 0) hx hb d_GraphSearch_isKnownInOrder_40 (by decide) ?_
        obtain ⟨hP9, hD9, -⟩ := cut3 (wc := [oc xa 6 [.ref pa, .ref ga, .ref (xA 0), .ref (xA 1), .ref (xA 2), .ref (xA 3), .ref (xA 4), .ref (xA 5), .ref (xA 6), .ref (xA 7), .ref (xA 8), .ref (xA 9), .ref (xA 10), .ref (xA 11), .ref fa, .int (nI md), .int (nI mb)], ia (xA 9) (xK 9) 7 (fun i => nI ((sc 9) i)), ia (xA 11) (xK 11) 7 (fun i => nI ((sc 11) i)), oc pa 0 [.ref (pA 0), .ref (pA 1), .ref (pA 2), .ref (pA 3), .ref (pA 4), .ref (pA 5), .ref (pA 6), .ref (pA 7), .ref (pA 8), .ref (pA 9), .ref (pA 10), .int (nI T), .int (nI Ac)]]) hP hD rfl hS hA [0, 1, 2, 3] (by decide +kernel) rfl
        have hK9 := hK.sub (tys' := []) [] rfl
        refine W.widen (k := 0) (n := 0) (by exact Nat.le_of_ble_eq_true rfl) (by exact Nat.le_of_ble_eq_true rfl) ?_
        exact W.zret (v := 0) (ty := .boolean) hx hb hr (by decide) (fun t9 ht9 hW => ⟨⟨0, (), rfl, by rw [← hinv, if_neg (by omega)], by rw [ht9]; exact hP9, va_K.moved hW.alike hK9, hD9⟩, hS.F ht9⟩) hS.2.2 d_GraphSearch_isKnownInOrder_41
  · intro H locs ls hI
    obtain ⟨hinv, hP, hS, hl⟩ := hI
    refine lv_iload_n hx hb d_GraphSearch_isKnownInOrder_2 rfl (lv_at hl 0 rfl) ?_
    refine lv_aload_n hx hb d_GraphSearch_isKnownInOrder_3 rfl (lv_at hl 1 rfl) ?_
    refine va_get (D := (dC, dI)) (ci := 6) (v := .ref pa) (C := R_GraphSearch) (T := F_GraphSearch) (N := 17) hx hb hw i_GraphSearch hown hK hP 0 rfl rfl 0 (by decide) (hw _ m_319) (fun _ h9 => h9) rfl d_GraphSearch_isKnownInOrder_4 ?_
    refine va_get (D := (dC, dI)) (ci := 0) (v := .int (nI Ac)) (C := R_Program) (T := F_Program) (N := 13) hx hb hw i_Program hown hK hP 3 rfl rfl 12 (by decide) (hw _ m_166) (fun _ h9 => h9) rfl d_GraphSearch_isKnownInOrder_7 ?_
    refine lv_icmp_ge (tgt := 48) hx hb d_GraphSearch_isKnownInOrder_10 (by decide) (fun c9 => ?_) (fun c9 => absurd (nI_le (Nat.le_refl _) (by omega)) c9)
    rw [Nat.sub_self] at hinv
    replace hinv : 0 = fF (kno mb (sc 9) (sc 11)) Ac 0 := hinv
    refine tp_pc (pc' := 48) (by rfl) ?_
    refine lv_iconst (v := 1) hx hb d_GraphSearch_isKnownInOrder_48 (by decide) ?_
    obtain ⟨hP9, hD9, -⟩ := cut3 (wc := [oc xa 6 [.ref pa, .ref ga, .ref (xA 0), .ref (xA 1), .ref (xA 2), .ref (xA 3), .ref (xA 4), .ref (xA 5), .ref (xA 6), .ref (xA 7), .ref (xA 8), .ref (xA 9), .ref (xA 10), .ref (xA 11), .ref fa, .int (nI md), .int (nI mb)], ia (xA 9) (xK 9) 7 (fun i => nI ((sc 9) i)), ia (xA 11) (xK 11) 7 (fun i => nI ((sc 11) i)), oc pa 0 [.ref (pA 0), .ref (pA 1), .ref (pA 2), .ref (pA 3), .ref (pA 4), .ref (pA 5), .ref (pA 6), .ref (pA 7), .ref (pA 8), .ref (pA 9), .ref (pA 10), .int (nI T), .int (nI Ac)]]) hP hD rfl hS hA [0, 1, 2, 3] (by decide +kernel) rfl
    have hK9 := hK.sub (tys' := []) [] rfl
    refine W.widen (k := 0) (n := 0) (by exact Nat.le_of_ble_eq_true rfl) (by exact Nat.le_of_ble_eq_true rfl) ?_
    exact W.zret (v := 1) (ty := .boolean) hx hb hr (by decide) (fun t9 ht9 hW => ⟨⟨1, (), rfl, by rw [← hinv]; rfl, by rw [ht9]; exact hP9, va_K.moved hW.alike hK9, hD9⟩, hS.F ht9⟩) hS.2.2 d_GraphSearch_isKnownInOrder_49
