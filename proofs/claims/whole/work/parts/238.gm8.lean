set_option maxHeartbeats 4000000 in
set_option maxRecDepth 100000 in
theorem gen_OM_races_ready (l : Launch) (dC : Nat → ClassId) (dI : Nat → Nat → Nat) (oa ba ka xa ra1 ra2 : Nat) (kr1 kr2 : ClassId) (fA fB : Nat → Nat) (fa : Nat) (ad : Nat → Nat) (ee n0 sd : Int32) (pa : Nat) (pA : Nat → Nat) (pK : Nat → ClassId) (T Ac : Nat) (pg : Nat → Nat → Nat) (nm : Nat → Int32) (ga sa b1 b2 : Nat) (kb2 : ClassId) (fv : Value) (m0 x0 x1 : Int32) (rc : Nat → Nat) (hA7 : Ac ≤ 7) (hrc : ∀ i, rc i < 128) (sz : Nat) : Met l y_OM_races w_OM_races ({ frames := 1, cells := 0, slots := 0, locals := 40 }) (va_Pc [.ref oa] (fun U => U.heap.size = sz ∧ va_P (dC, dI) classes [oc oa 7 [.ref pa, .ref ba, .ref ka, .ref xa, .ref ra1, .ref ra2], qa ra1 kr1 4 (va_up (va_up (va_up (va_up (fun _ => none) 0 (some fa)) 1 (some (fA 1))) 2 (some (fA 2))) 3 (some (fA 3))), oc fa 3 [.int ee, .ref (ad 1), .ref (ad 2), .ref (ad 3), .ref (ad 4), .ref (ad 5), .int n0, .int sd, .int 1], oc ba 4 [.ref pa, .ref ga, .ref sa, .ref b1, .ref b2, fv, .int m0, .int x0, .int x1], ia b2 kb2 7 (fun i => nI (rc i)), oc pa 0 [.ref (pA 0), .ref (pA 1), .ref (pA 2), .ref (pA 3), .ref (pA 4), .ref (pA 5), .ref (pA 6), .ref (pA 7), .ref (pA 8), .ref (pA 9), .ref (pA 10), .int (nI T), .int (nI Ac)]] U.heap ∧ va_K (dC, dI) classes [(kr1, .object "OrderModels$OutcomeSet"), (kb2, .int)] U ∧ va_D (fun _ => True) [oc oa 7 [.ref pa, .ref ba, .ref ka, .ref xa, .ref ra1, .ref ra2], qa ra1 kr1 4 (va_up (va_up (va_up (va_up (fun _ => none) 0 (some fa)) 1 (some (fA 1))) 2 (some (fA 2))) 3 (some (fA 3))), oc fa 3 [.int ee, .ref (ad 1), .ref (ad 2), .ref (ad 3), .ref (ad 4), .ref (ad 5), .int n0, .int sd, .int 1], oc ba 4 [.ref pa, .ref ga, .ref sa, .ref b1, .ref b2, fv, .int m0, .int x0, .int x1], ia b2 kb2 7 (fun i => nI (rc i)), oc pa 0 [.ref (pA 0), .ref (pA 1), .ref (pA 2), .ref (pA 3), .ref (pA 4), .ref (pA 5), .ref (pA 6), .ref (pA 7), .ref (pA 8), .ref (pA 9), .ref (pA 10), .int (nI T), .int (nI Ac)]] ∧ nw U)) (va_Qi (fun (r : Int32) (_ : Unit) => r = nI (rcS rc Ac / 2)) (fun _ t9 => va_P (dC, dI) classes [oc oa 7 [.ref pa, .ref ba, .ref ka, .ref xa, .ref ra1, .ref ra2], qa ra1 kr1 4 (va_up (va_up (va_up (va_up (fun _ => none) 0 (some fa)) 1 (some (fA 1))) 2 (some (fA 2))) 3 (some (fA 3))), oc fa 3 [.int ee, .ref (ad 1), .ref (ad 2), .ref (ad 3), .ref (ad 4), .ref (ad 5), .int n0, .int sd, .int 1], oc ba 4 [.ref pa, .ref ga, .ref sa, .ref b1, .ref b2, fv, .int m0, .int x0, .int x1], ia b2 kb2 7 (fun i => nI (rc i)), oc pa 0 [.ref (pA 0), .ref (pA 1), .ref (pA 2), .ref (pA 3), .ref (pA 4), .ref (pA 5), .ref (pA 6), .ref (pA 7), .ref (pA 8), .ref (pA 9), .ref (pA 10), .int (nI T), .int (nI Ac)]] t9.heap ∧ va_K (dC, dI) classes [] t9 ∧ va_D (va_A [oc oa 7 [.ref pa, .ref ba, .ref ka, .ref xa, .ref ra1, .ref ra2], qa ra1 kr1 4 (va_up (va_up (va_up (va_up (fun _ => none) 0 (some fa)) 1 (some (fA 1))) 2 (some (fA 2))) 3 (some (fA 3))), oc fa 3 [.int ee, .ref (ad 1), .ref (ad 2), .ref (ad 3), .ref (ad 4), .ref (ad 5), .int n0, .int sd, .int 1], oc ba 4 [.ref pa, .ref ga, .ref sa, .ref b1, .ref b2, fv, .int m0, .int x0, .int x1], ia b2 kb2 7 (fun i => nI (rc i)), oc pa 0 [.ref (pA 0), .ref (pA 1), .ref (pA 2), .ref (pA 3), .ref (pA 4), .ref (pA 5), .ref (pA 6), .ref (pA 7), .ref (pA 8), .ref (pA 9), .ref (pA 10), .int (nI T), .int (nI Ac)]] sz) [oc oa 7 [.ref pa, .ref ba, .ref ka, .ref xa, .ref ra1, .ref ra2], qa ra1 kr1 4 (va_up (va_up (va_up (va_up (fun _ => none) 0 (some fa)) 1 (some (fA 1))) 2 (some (fA 2))) 3 (some (fA 3))), oc fa 3 [.int ee, .ref (ad 1), .ref (ad 2), .ref (ad 3), .ref (ad 4), .ref (ad 5), .int n0, .int sd, .int 1], oc ba 4 [.ref pa, .ref ga, .ref sa, .ref b1, .ref b2, fv, .int m0, .int x0, .int x1], ia b2 kb2 7 (fun i => nI (rc i)), oc pa 0 [.ref (pA 0), .ref (pA 1), .ref (pA 2), .ref (pA 3), .ref (pA 4), .ref (pA 5), .ref (pA 6), .ref (pA 7), .ref (pA 8), .ref (pA 9), .ref (pA 10), .int (nI T), .int (nI Ac)]]) (va_A [oc oa 7 [.ref pa, .ref ba, .ref ka, .ref xa, .ref ra1, .ref ra2], qa ra1 kr1 4 (va_up (va_up (va_up (va_up (fun _ => none) 0 (some fa)) 1 (some (fA 1))) 2 (some (fA 2))) 3 (some (fA 3))), oc fa 3 [.int ee, .ref (ad 1), .ref (ad 2), .ref (ad 3), .ref (ad 4), .ref (ad 5), .int n0, .int sd, .int 1], oc ba 4 [.ref pa, .ref ga, .ref sa, .ref b1, .ref b2, fv, .int m0, .int x0, .int x1], ia b2 kb2 7 (fun i => nI (rc i)), oc pa 0 [.ref (pA 0), .ref (pA 1), .ref (pA 2), .ref (pA 3), .ref (pA 4), .ref (pA 5), .ref (pA 6), .ref (pA 7), .ref (pA 8), .ref (pA 9), .ref (pA 10), .int (nI T), .int (nI Ac)]] sz)) 0 0 (va_A [oc oa 7 [.ref pa, .ref ba, .ref ka, .ref xa, .ref ra1, .ref ra2], qa ra1 kr1 4 (va_up (va_up (va_up (va_up (fun _ => none) 0 (some fa)) 1 (some (fA 1))) 2 (some (fA 2))) 3 (some (fA 3))), oc fa 3 [.int ee, .ref (ad 1), .ref (ad 2), .ref (ad 3), .ref (ad 4), .ref (ad 5), .int n0, .int sd, .int 1], oc ba 4 [.ref pa, .ref ga, .ref sa, .ref b1, .ref b2, fv, .int m0, .int x0, .int x1], ia b2 kb2 7 (fun i => nI (rc i)), oc pa 0 [.ref (pA 0), .ref (pA 1), .ref (pA 2), .ref (pA 3), .ref (pA 4), .ref (pA 5), .ref (pA 6), .ref (pA 7), .ref (pA 8), .ref (pA 9), .ref (pA 10), .int (nI T), .int (nI Ac)]] sz) := by
  refine Met.ofW (cc := b_OM_races) (maxL := 3) (ret := (some .int)) (by decide) rfl ?_
  intro p e0 s m args below meth c s₁ B hml hv
  obtain ⟨rfl, hsz, hP, hK, hD0, hn⟩ := hv
  have hx := B.exec
  have hb := B.bytes
  have hr := B.returns
  have hw := fun w (h : w ∈ wt) => atoms_spec (ws := w_OM_races) B.pre w (List.mem_cons_of_mem _ h)
  have hown : s.vm.findClass R_OM = some m.cls := findClass_of_methodNamed B.named
  have hlocks := B.notSynchronized
  subst hsz
  have hD1 := hD0.self (sz := s.heap.size)
  generalize hAe : va_A [oc oa 7 [.ref pa, .ref ba, .ref ka, .ref xa, .ref ra1, .ref ra2], qa ra1 kr1 4 (va_up (va_up (va_up (va_up (fun _ => none) 0 (some fa)) 1 (some (fA 1))) 2 (some (fA 2))) 3 (some (fA 3))), oc fa 3 [.int ee, .ref (ad 1), .ref (ad 2), .ref (ad 3), .ref (ad 4), .ref (ad 5), .int n0, .int sd, .int 1], oc ba 4 [.ref pa, .ref ga, .ref sa, .ref b1, .ref b2, fv, .int m0, .int x0, .int x1], ia b2 kb2 7 (fun i => nI (rc i)), oc pa 0 [.ref (pA 0), .ref (pA 1), .ref (pA 2), .ref (pA 3), .ref (pA 4), .ref (pA 5), .ref (pA 6), .ref (pA 7), .ref (pA 8), .ref (pA 9), .ref (pA 10), .int (nI T), .int (nI Ac)]] s.heap.size = A at hD1 ⊢
  have hA : ∀ q : Nat, s.heap.size ≤ q → A q := fun q h => by rw [← hAe]; exact Or.inr h
  have hD : dd A [oa, ra1, fa, ba, b2, pa] := dd_of hD1 rfl
  clear hAe hD0 hD1
  have hS : va_S A s.heap s.heap [] := va_S.rf
  replace hP : va_P (dC, dI) classes [oc oa 7 [.ref pa, .ref ba, .ref ka, .ref xa, .ref ra1, .ref ra2], qa ra1 kr1 4 (va_up (va_up (va_up (va_up (fun _ => none) 0 (some fa)) 1 (some (fA 1))) 2 (some (fA 2))) 3 (some (fA 3))), oc fa 3 [.int ee, .ref (ad 1), .ref (ad 2), .ref (ad 3), .ref (ad 4), .ref (ad 5), .int n0, .int sd, .int 1], oc ba 4 [.ref pa, .ref ga, .ref sa, .ref b1, .ref b2, fv, .int m0, .int x0, .int x1], ia b2 kb2 7 (fun i => nI (rc i)), oc pa 0 [.ref (pA 0), .ref (pA 1), .ref (pA 2), .ref (pA 3), .ref (pA 4), .ref (pA 5), .ref (pA 6), .ref (pA 7), .ref (pA 8), .ref (pA 9), .ref (pA 10), .int (nI T), .int (nI Ac)]] s.heap := hP
  have hl := lv_entry ([.ref oa]) (n := 3) (Nat.le_of_ble_eq_true rfl)
  rw [lg_entry_eq]
  generalize (lg_sl ([.ref oa]) ++ List.replicate (3 - (lg_sl ([.ref oa])).length) Slot.unset).toArray = ls at hl ⊢
  replace hl : lv_has ls 3 [(0, .ref oa)] := hl
  refine lv_aload_n hx hb d_OM_races_0 rfl (lv_at hl 0 rfl) ?_
  refine lv_iconst (v := 0) hx hb d_OM_races_1 (by decide) ?_
  obtain ⟨hPc, hDc, hFc⟩ := cut3 (wc := [oc oa 7 [.ref pa, .ref ba, .ref ka, .ref xa, .ref ra1, .ref ra2], qa ra1 kr1 4 (va_up (va_up (va_up (va_up (fun _ => none) 0 (some fa)) 1 (some (fA 1))) 2 (some (fA 2))) 3 (some (fA 3))), oc fa 3 [.int ee, .ref (ad 1), .ref (ad 2), .ref (ad 3), .ref (ad 4), .ref (ad 5), .int n0, .int sd, .int 1]]) hP hD rfl hS hA [0, 1, 2] (by decide +kernel) rfl
  have hKc := hK.sub (tys' := [(kr1, .object "OrderModels$OutcomeSet")]) [0] rfl
  refine va_callr (va_runV (As := [.int 0]) (rest := []) ⟨hx, hb, hml, hown, hw⟩ (gen_OM_foundByRuns_ready0 l dC dI oa pa ba ka xa ra1 ra2 kr1 kr2 fA fB fa ad ee n0 sd s.heap.size) (cw_V 1 hw g_OM_foundByRuns rfl rfl rfl (hw _ m_101) (hw _ m_468) (hw _ m_470) (hw _ m_1) (by decide +kernel) ⟨Nat.le_of_ble_eq_true rfl, Nat.le_of_ble_eq_true rfl⟩) ⟨fun a U g mk q => by obtain ⟨q0, q1, qP, qK, qD, qN⟩ := q; exact ⟨q0, q1, qP, va_K.moved (u := U) (U := U.calling g mk a) (Vm.Alike.refl U.vm) qK, qD, nw_call qN⟩, va_recv hKc hPc (ci := 7) (q0 := 0) rfl rfl, fun U hU hW => ⟨rfl, by rw [hU], by rw [hU]; exact hPc, va_K.moved hW.alike hKc, hDc.weaken (fun _ _ _ _ => trivial), nw_warm hW hn⟩⟩ rfl rfl hl.1 rfl (lv_room (Nat.le_of_ble_eq_true rfl)) d_OM_races_2 ⟨Nat.le_of_ble_eq_true rfl, Nat.le_of_ble_eq_true rfl⟩) hS (fun q _ h => hFc q h) hFc ?_
  intro u r_1 t9 H1 locs1 ht9 hvm hw1 hB hz1 hk1 hS1
  obtain ⟨hra, hP1, hK1, hD1⟩ := hB
  rw [ht9] at hP1
  replace hK1 := va_K.moved hvm.symm hK1
  have hPD := join3 hP hD rfl [0, 1, 2] [3, 4, 5] rfl (by rfl) (by decide +kernel) (by decide +kernel) hk1 hFc hP1 hD1
  replace hK : va_K (dC, dI) classes [(kr1, .object "OrderModels$OutcomeSet"), (kb2, .int)] s := hK.app hK1
  clear hP1 hK1 hD1 hk1 hz1 hFc hKc hDc hPc hvm ht9 hP hS t9
  have hP : va_P (dC, dI) classes [oc ba 4 [.ref pa, .ref ga, .ref sa, .ref b1, .ref b2, fv, .int m0, .int x0, .int x1], ia b2 kb2 7 (fun i => nI (rc i)), oc pa 0 [.ref (pA 0), .ref (pA 1), .ref (pA 2), .ref (pA 3), .ref (pA 4), .ref (pA 5), .ref (pA 6), .ref (pA 7), .ref (pA 8), .ref (pA 9), .ref (pA 10), .int (nI T), .int (nI Ac)], oc oa 7 [.ref pa, .ref ba, .ref ka, .ref xa, .ref ra1, .ref ra2], qa ra1 kr1 4 (va_up (va_up (va_up (va_up (fun _ => none) 0 (some fa)) 1 (some (fA 1))) 2 (some (fA 2))) 3 (some (fA 3))), oc fa 3 [.int ee, .ref (ad 1), .ref (ad 2), .ref (ad 3), .ref (ad 4), .ref (ad 5), .int n0, .int sd, .int 1]] H1 := hPD.1
  replace hD : dd A [ba, b2, pa, oa, ra1, fa] := dd_of hPD.2 rfl
  clear hPD
  revert H1 locs1
  intro H locs hS hP
  refine tp_r (y := fa) hra ?_
  clear hra hw1 r_1 u
  refine tp_pc (pc' := 5) (by rfl) ?_
  refine lv_pop hx hb d_OM_races_5 rfl ?_
  refine lv_iconst (v := 0) hx hb d_OM_races_6 (by decide) ?_
  refine lv_istore_n (lv' := [(1, .int 0), (0, .ref oa)]) hx hb d_OM_races_7 rfl hl (by decide) rfl ?_
  clear hl ls
  intro ls hl
  refine lv_iconst (v := 0) hx hb d_OM_races_8 (by decide) ?_
  refine lv_istore_n (lv' := [(2, .int 0), (1, .int 0), (0, .ref oa)]) hx hb d_OM_races_9 rfl hl (by decide) rfl ?_
  clear hl ls
  intro ls hl
  obtain ⟨hP8, hD8, -⟩ := cut3 (wc := [oc oa 7 [.ref pa, .ref ba, .ref ka, .ref xa, .ref ra1, .ref ra2], qa ra1 kr1 4 (va_up (va_up (va_up (va_up (fun _ => none) 0 (some fa)) 1 (some (fA 1))) 2 (some (fA 2))) 3 (some (fA 3))), oc fa 3 [.int ee, .ref (ad 1), .ref (ad 2), .ref (ad 3), .ref (ad 4), .ref (ad 5), .int n0, .int sd, .int 1], oc ba 4 [.ref pa, .ref ga, .ref sa, .ref b1, .ref b2, fv, .int m0, .int x0, .int x1], ia b2 kb2 7 (fun i => nI (rc i)), oc pa 0 [.ref (pA 0), .ref (pA 1), .ref (pA 2), .ref (pA 3), .ref (pA 4), .ref (pA 5), .ref (pA 6), .ref (pA 7), .ref (pA 8), .ref (pA 9), .ref (pA 10), .int (nI T), .int (nI Ac)]]) hP hD rfl hS hA [3, 4, 5, 0, 1, 2] (by decide +kernel) rfl
  clear hP
  have hP : va_P (dC, dI) classes [oc oa 7 [.ref pa, .ref ba, .ref ka, .ref xa, .ref ra1, .ref ra2], qa ra1 kr1 4 (va_up (va_up (va_up (va_up (fun _ => none) 0 (some fa)) 1 (some (fA 1))) 2 (some (fA 2))) 3 (some (fA 3))), oc fa 3 [.int ee, .ref (ad 1), .ref (ad 2), .ref (ad 3), .ref (ad 4), .ref (ad 5), .int n0, .int sd, .int 1], oc ba 4 [.ref pa, .ref ga, .ref sa, .ref b1, .ref b2, fv, .int m0, .int x0, .int x1], ia b2 kb2 7 (fun i => nI (rc i)), oc pa 0 [.ref (pA 0), .ref (pA 1), .ref (pA 2), .ref (pA 3), .ref (pA 4), .ref (pA 5), .ref (pA 6), .ref (pA 7), .ref (pA 8), .ref (pA 9), .ref (pA 10), .int (nI T), .int (nI Ac)]] H := hP8
  clear hP8
  replace hD : dd A [oa, ra1, fa, ba, b2, pa] := dd_of hD8 rfl
  clear hD8
  replace hP : va_P (dC, dI) classes [oc oa 7 [.ref pa, .ref ba, .ref ka, .ref xa, .ref ra1, .ref ra2], qa ra1 kr1 4 (va_up (va_up (va_up (va_up (fun _ => none) 0 (some fa)) 1 (some (fA 1))) 2 (some (fA 2))) 3 (some (fA 3))), oc fa 3 [.int ee, .ref (ad 1), .ref (ad 2), .ref (ad 3), .ref (ad 4), .ref (ad 5), .int n0, .int sd, .int 1], oc ba 4 [.ref pa, .ref ga, .ref sa, .ref b1, .ref b2, fv, .int m0, .int x0, .int x1], ia b2 kb2 7 (fun i => nI (rc i)), oc pa 0 [.ref (pA 0), .ref (pA 1), .ref (pA 2), .ref (pA 3), .ref (pA 4), .ref (pA 5), .ref (pA 6), .ref (pA 7), .ref (pA 8), .ref (pA 9), .ref (pA 10), .int (nI T), .int (nI Ac)]] H := hP
  replace hl : lv_has ls 3 [(2, .int (nI 0)), (1, .int (nI (rcS rc 0))), (0, .ref oa)] := hl
  refine lp_n Ac (fun i1 H locs ls => va_P (dC, dI) classes [oc oa 7 [.ref pa, .ref ba, .ref ka, .ref xa, .ref ra1, .ref ra2], qa ra1 kr1 4 (va_up (va_up (va_up (va_up (fun _ => none) 0 (some fa)) 1 (some (fA 1))) 2 (some (fA 2))) 3 (some (fA 3))), oc fa 3 [.int ee, .ref (ad 1), .ref (ad 2), .ref (ad 3), .ref (ad 4), .ref (ad 5), .int n0, .int sd, .int 1], oc ba 4 [.ref pa, .ref ga, .ref sa, .ref b1, .ref b2, fv, .int m0, .int x0, .int x1], ia b2 kb2 7 (fun i => nI (rc i)), oc pa 0 [.ref (pA 0), .ref (pA 1), .ref (pA 2), .ref (pA 3), .ref (pA 4), .ref (pA 5), .ref (pA 6), .ref (pA 7), .ref (pA 8), .ref (pA 9), .ref (pA 10), .int (nI T), .int (nI Ac)]] H ∧ va_S A s.heap H locs ∧ lv_has ls 3 [(2, .int (nI i1)), (1, .int (nI (rcS rc i1))), (0, .ref oa)]) ⟨hP, hS, hl⟩ ?_ ?_
  · intro i1 H locs ls hi1 hI ih_i1
    obtain ⟨hP, hS, hl⟩ := hI
    have hb8 := hrc i1
    refine lv_iload_n hx hb d_OM_races_10 rfl (lv_at hl 0 rfl) ?_
    refine lv_aload_n hx hb d_OM_races_11 rfl (lv_at hl 2 rfl) ?_
    refine va_get (D := (dC, dI)) (ci := 7) (v := .ref pa) (C := R_OM) (T := F_OM) (N := 6) hx hb hw i_OM hown hK hP 0 rfl rfl 0 (by decide) (hw _ m_408) (fun _ h9 => h9) rfl d_OM_races_12 ?_
    refine va_get (D := (dC, dI)) (ci := 0) (v := .int (nI Ac)) (C := R_Program) (T := F_Program) (N := 13) hx hb hw i_Program hown hK hP 5 rfl rfl 12 (by decide) (hw _ m_167) (fun _ h9 => h9) rfl d_OM_races_15 ?_
    refine lv_icmp_ge (tgt := 42) hx hb d_OM_races_18 (by decide) (fun c9 => absurd c9 (nI_ge hi1 (by omega))) (fun c9 => ?_)
    refine tp_pc (pc' := 21) (by rfl) ?_
    refine lv_iload_n hx hb d_OM_races_21 rfl (lv_at hl 1 rfl) ?_
    refine lv_aload_n hx hb d_OM_races_22 rfl (lv_at hl 2 rfl) ?_
    refine va_get (D := (dC, dI)) (ci := 7) (v := .ref ba) (C := R_OM) (T := F_OM) (N := 6) hx hb hw i_OM hown hK hP 0 rfl rfl 1 (by decide) (hw _ m_409) (fun _ h9 => h9) rfl d_OM_races_23 ?_
    refine va_get (D := (dC, dI)) (ci := 4) (v := .ref b2) (C := R_BufferWalk) (T := F_BufferWalk) (N := 9) hx hb hw i_BufferWalk hown hK hP 3 rfl rfl 4 (by decide) (hw _ m_255) (fun _ h9 => h9) rfl d_OM_races_26 ?_
    refine lv_iload_n hx hb d_OM_races_29 rfl (lv_at hl 0 rfl) ?_
    refine va_iald (D := (dC, dI)) hx hb hK hP 4 1 rfl rfl (i := nI i1) (pk_in i1 7 (by omega)) d_OM_races_30 ?_
    refine tp_i (y := nI (rc i1)) (by rw [show (nI i1 : Int32).toNatClampNeg = i1 from pk_cl i1]) ?_
    obtain ⟨hPc, hDc, hFc⟩ := cut3 (wc := []) hP hD rfl hS hA [] (by decide +kernel) rfl
    have hKc := hK.sub (tys' := []) [] rfl
    refine va_calli (va_runS (As := [.int (nI (rc i1))]) (rest := [.int (nI (rcS rc i1))]) ⟨hx, hb, hml, hown, hw⟩ (gen_bitCount l dC dI (rc i1) hb8 H.size) (cw_S 1 hw g_Integer_bitCount rfl rfl rfl (hw _ m_113) (hw _ m_881) (hw _ m_708) (by decide +kernel) ⟨Nat.le_of_ble_eq_true rfl, Nat.le_of_ble_eq_true rfl⟩) ⟨fun a U g mk q => by obtain ⟨q0, q1, qP, qK, qD, qN⟩ := q; exact ⟨q0, q1, qP, va_K.moved (u := U) (U := U.calling g mk a) (Vm.Alike.refl U.vm) qK, qD, nw_call qN⟩, fun U hU hW => ⟨rfl, by rw [hU], by rw [hU]; exact hPc, va_K.moved hW.alike hKc, hDc.weaken (fun _ _ _ _ => trivial), nw_warm hW hn⟩⟩ rfl rfl hl.1 rfl (lv_room (Nat.le_of_ble_eq_true rfl)) d_OM_races_31 ⟨Nat.le_of_ble_eq_true rfl, Nat.le_of_ble_eq_true rfl⟩) hS (fun q _ h => hFc q h) hFc ?_
    intro r_2 u t9 H1 locs1 ht9 hvm hw1 hB hz1 hk1 hS1
    obtain ⟨hP1, hK1, hD1⟩ := hB
    rw [ht9] at hP1
    replace hK1 := va_K.moved hvm.symm hK1
    have hPD := join3 hP hD rfl [] [0, 1, 2, 3, 4, 5] rfl (by rfl) (by decide +kernel) (by decide +kernel) hk1 hFc hP1 hD1
    replace hK : va_K (dC, dI) classes [(kr1, .object "OrderModels$OutcomeSet"), (kb2, .int)] s := hK.app hK1
    clear hP1 hK1 hD1 hk1 hz1 hFc hKc hDc hPc hvm ht9 hP hS t9 locs H
    have hP : va_P (dC, dI) classes [oc oa 7 [.ref pa, .ref ba, .ref ka, .ref xa, .ref ra1, .ref ra2], qa ra1 kr1 4 (va_up (va_up (va_up (va_up (fun _ => none) 0 (some fa)) 1 (some (fA 1))) 2 (some (fA 2))) 3 (some (fA 3))), oc fa 3 [.int ee, .ref (ad 1), .ref (ad 2), .ref (ad 3), .ref (ad 4), .ref (ad 5), .int n0, .int sd, .int 1], oc ba 4 [.ref pa, .ref ga, .ref sa, .ref b1, .ref b2, fv, .int m0, .int x0, .int x1], ia b2 kb2 7 (fun i => nI (rc i)), oc pa 0 [.ref (pA 0), .ref (pA 1), .ref (pA 2), .ref (pA 3), .ref (pA 4), .ref (pA 5), .ref (pA 6), .ref (pA 7), .ref (pA 8), .ref (pA 9), .ref (pA 10), .int (nI T), .int (nI Ac)]] H1 := hPD.1
    replace hD : dd A [oa, ra1, fa, ba, b2, pa] := dd_of hPD.2 rfl
    clear hPD
    revert H1 locs1
    intro H locs hS hP
    refine tp_i (y := nI (pop7 (rc i1))) (hw1) ?_
    clear hw1 r_2 u
    refine tp_pc (pc' := 34) (by rfl) ?_
    refine lv_iadd hx hb d_OM_races_34 ?_
    refine tp_i (y := nI (rcS rc i1 + (pop7 (rc i1)))) (by exact nI_add (rcS rc i1) (pop7 (rc i1))) ?_
    refine tp_i (y := nI (rcS rc (i1 + 1))) rfl ?_
    refine lv_istore_n (lv' := [(1, .int (nI (rcS rc (i1 + 1)))), (2, .int (nI i1)), (0, .ref oa)]) hx hb d_OM_races_35 rfl hl (by decide) rfl ?_
    clear hl ls
    intro ls hl
    refine lv_iinc (v := nI (i1 + 1)) (lv' := [(2, .int (nI (i1 + 1))), (1, .int (nI (rcS rc (i1 + 1)))), (0, .ref oa)]) hx hb d_OM_races_36 hl (k := 1) rfl (by exact nI_1 i1) (by decide) rfl ?_
    clear hl ls
    intro ls hl
    refine lv_goto (tgt := 10) hx hb d_OM_races_39 (by decide) ?_
    refine tp_pc (pc' := 10) (by rfl) ?_
    obtain ⟨hP8, -, -⟩ := cut3 (wc := [oc oa 7 [.ref pa, .ref ba, .ref ka, .ref xa, .ref ra1, .ref ra2], qa ra1 kr1 4 (va_up (va_up (va_up (va_up (fun _ => none) 0 (some fa)) 1 (some (fA 1))) 2 (some (fA 2))) 3 (some (fA 3))), oc fa 3 [.int ee, .ref (ad 1), .ref (ad 2), .ref (ad 3), .ref (ad 4), .ref (ad 5), .int n0, .int sd, .int 1], oc ba 4 [.ref pa, .ref ga, .ref sa, .ref b1, .ref b2, fv, .int m0, .int x0, .int x1], ia b2 kb2 7 (fun i => nI (rc i)), oc pa 0 [.ref (pA 0), .ref (pA 1), .ref (pA 2), .ref (pA 3), .ref (pA 4), .ref (pA 5), .ref (pA 6), .ref (pA 7), .ref (pA 8), .ref (pA 9), .ref (pA 10), .int (nI T), .int (nI Ac)]]) hP hD rfl hS hA [0, 1, 2, 3, 4, 5] (by decide +kernel) rfl
    exact ih_i1 _ _ _ ⟨hP8, hS, lv_sub hl [0, 1, 2] rfl⟩
  · intro H locs ls hI
    obtain ⟨hP, hS, hl⟩ := hI
    have hrl := rcS_le hrc Ac
    refine lv_iload_n hx hb d_OM_races_10 rfl (lv_at hl 0 rfl) ?_
    refine lv_aload_n hx hb d_OM_races_11 rfl (lv_at hl 2 rfl) ?_
    refine va_get (D := (dC, dI)) (ci := 7) (v := .ref pa) (C := R_OM) (T := F_OM) (N := 6) hx hb hw i_OM hown hK hP 0 rfl rfl 0 (by decide) (hw _ m_408) (fun _ h9 => h9) rfl d_OM_races_12 ?_
    refine va_get (D := (dC, dI)) (ci := 0) (v := .int (nI Ac)) (C := R_Program) (T := F_Program) (N := 13) hx hb hw i_Program hown hK hP 5 rfl rfl 12 (by decide) (hw _ m_167) (fun _ h9 => h9) rfl d_OM_races_15 ?_
    refine lv_icmp_ge (tgt := 42) hx hb d_OM_races_18 (by decide) (fun c9 => ?_) (fun c9 => absurd (nI_le (Nat.le_refl _) (by omega)) c9)
    refine tp_pc (pc' := 42) (by rfl) ?_
    refine lv_iload_n hx hb d_OM_races_42 rfl (lv_at hl 1 rfl) ?_
    refine lv_iconst (v := 1) hx hb d_OM_races_43 (by decide) ?_
    refine lv_ishr hx hb d_OM_races_44 ?_
    refine tp_i (y := (nI (rcS rc Ac)) >>> (1 &&& 31)) rfl ?_
    refine tp_i (y := nI (rcS rc Ac / 2)) (pk_shrN (by omega) _ 1 (by decide)) ?_
    obtain ⟨hP9, hD9, -⟩ := cut3 (wc := [oc oa 7 [.ref pa, .ref ba, .ref ka, .ref xa, .ref ra1, .ref ra2], qa ra1 kr1 4 (va_up (va_up (va_up (va_up (fun _ => none) 0 (some fa)) 1 (some (fA 1))) 2 (some (fA 2))) 3 (some (fA 3))), oc fa 3 [.int ee, .ref (ad 1), .ref (ad 2), .ref (ad 3), .ref (ad 4), .ref (ad 5), .int n0, .int sd, .int 1], oc ba 4 [.ref pa, .ref ga, .ref sa, .ref b1, .ref b2, fv, .int m0, .int x0, .int x1], ia b2 kb2 7 (fun i => nI (rc i)), oc pa 0 [.ref (pA 0), .ref (pA 1), .ref (pA 2), .ref (pA 3), .ref (pA 4), .ref (pA 5), .ref (pA 6), .ref (pA 7), .ref (pA 8), .ref (pA 9), .ref (pA 10), .int (nI T), .int (nI Ac)]]) hP hD rfl hS hA [0, 1, 2, 3, 4, 5] (by decide +kernel) rfl
    have hK9 := hK.sub (tys' := []) [] rfl
    refine W.widen (k := 0) (n := 0) (by exact Nat.le_of_ble_eq_true rfl) (by exact Nat.le_of_ble_eq_true rfl) ?_
    exact W.iret (v := (nI (rcS rc Ac / 2))) hx hb hr (fun t9 ht9 hW => ⟨⟨nI (rcS rc Ac / 2), (), rfl, rfl, by rw [ht9]; exact hP9, va_K.moved hW.alike hK9, hD9⟩, hS.F ht9⟩) hS.2.2 d_OM_races_45
