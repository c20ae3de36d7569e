set_option maxHeartbeats 4000000 in
set_option maxRecDepth 100000 in
theorem gen_GS_hasNoRing (l : Launch) (dC : Nat → ClassId) (dI : Nat → Nat → Nat) (pa : Nat) (pA : Nat → Nat) (pK : Nat → ClassId) (T Ac : Nat) (pg : Nat → Nat → Nat) (nm : Nat → Int32) (xa ga fa : Nat) (xA : Nat → Nat) (xK : Nat → ClassId) (md mb : Nat) (fm wm : Nat → Nat) (sc : Nat → Nat → Nat) (u1 u2 : Nat) (v1 v2 : ClassId) (fa1 fa2 : Nat → Nat) (am : Nat) (hA7 : Ac ≤ 7) (h1 : ∀ i, i < Ac → fa1 i < 128) (h2 : ∀ i, i < Ac → fa2 i < 128) (ham : am < 128) (sz : Nat) : Met l y_GraphSearch_hasNoRing w_GraphSearch_hasNoRing ({ frames := 0, cells := 0, slots := 0, locals := 0 }) (va_Pc [.ref xa, .ref u1, .ref u2, .int (nI am)] (fun U => U.heap.size = sz ∧ va_P (dC, dI) classes [oc xa 6 [.ref pa, .ref ga, .ref (xA 0), .ref (xA 1), .ref (xA 2), .ref (xA 3), .ref (xA 4), .ref (xA 5), .ref (xA 6), .ref (xA 7), .ref (xA 8), .ref (xA 9), .ref (xA 10), .ref (xA 11), .ref fa, .int (nI md), .int (nI mb)], ia u1 v1 7 (fun i => nI (fa1 i)), ia u2 v2 7 (fun i => nI (fa2 i)), oc pa 0 [.ref (pA 0), .ref (pA 1), .ref (pA 2), .ref (pA 3), .ref (pA 4), .ref (pA 5), .ref (pA 6), .ref (pA 7), .ref (pA 8), .ref (pA 9), .ref (pA 10), .int (nI T), .int (nI Ac)]] U.heap ∧ va_K (dC, dI) classes [(v1, .int), (v2, .int)] U ∧ va_D (fun _ => True) [oc xa 6 [.ref pa, .ref ga, .ref (xA 0), .ref (xA 1), .ref (xA 2), .ref (xA 3), .ref (xA 4), .ref (xA 5), .ref (xA 6), .ref (xA 7), .ref (xA 8), .ref (xA 9), .ref (xA 10), .ref (xA 11), .ref fa, .int (nI md), .int (nI mb)], ia u1 v1 7 (fun i => nI (fa1 i)), ia u2 v2 7 (fun i => nI (fa2 i)), oc pa 0 [.ref (pA 0), .ref (pA 1), .ref (pA 2), .ref (pA 3), .ref (pA 4), .ref (pA 5), .ref (pA 6), .ref (pA 7), .ref (pA 8), .ref (pA 9), .ref (pA 10), .int (nI T), .int (nI Ac)]] ∧ nw U)) (va_Qi (fun (r : Int32) (_ : Unit) => r = if itR fa1 fa2 Ac 7 am = 0 then 1 else 0) (fun _ t9 => va_P (dC, dI) classes [oc xa 6 [.ref pa, .ref ga, .ref (xA 0), .ref (xA 1), .ref (xA 2), .ref (xA 3), .ref (xA 4), .ref (xA 5), .ref (xA 6), .ref (xA 7), .ref (xA 8), .ref (xA 9), .ref (xA 10), .ref (xA 11), .ref fa, .int (nI md), .int (nI mb)], ia u1 v1 7 (fun i => nI (fa1 i)), ia u2 v2 7 (fun i => nI (fa2 i)), oc pa 0 [.ref (pA 0), .ref (pA 1), .ref (pA 2), .ref (pA 3), .ref (pA 4), .ref (pA 5), .ref (pA 6), .ref (pA 7), .ref (pA 8), .ref (pA 9), .ref (pA 10), .int (nI T), .int (nI Ac)]] t9.heap ∧ va_K (dC, dI) classes [] t9 ∧ va_D (va_A [oc xa 6 [.ref pa, .ref ga, .ref (xA 0), .ref (xA 1), .ref (xA 2), .ref (xA 3), .ref (xA 4), .ref (xA 5), .ref (xA 6), .ref (xA 7), .ref (xA 8), .ref (xA 9), .ref (xA 10), .ref (xA 11), .ref fa, .int (nI md), .int (nI mb)], ia u1 v1 7 (fun i => nI (fa1 i)), ia u2 v2 7 (fun i => nI (fa2 i)), oc pa 0 [.ref (pA 0), .ref (pA 1), .ref (pA 2), .ref (pA 3), .ref (pA 4), .ref (pA 5), .ref (pA 6), .ref (pA 7), .ref (pA 8), .ref (pA 9), .ref (pA 10), .int (nI T), .int (nI Ac)]] sz) [oc xa 6 [.ref pa, .ref ga, .ref (xA 0), .ref (xA 1), .ref (xA 2), .ref (xA 3), .ref (xA 4), .ref (xA 5), .ref (xA 6), .ref (xA 7), .ref (xA 8), .ref (xA 9), .ref (xA 10), .ref (xA 11), .ref fa, .int (nI md), .int (nI mb)], ia u1 v1 7 (fun i => nI (fa1 i)), ia u2 v2 7 (fun i => nI (fa2 i)), oc pa 0 [.ref (pA 0), .ref (pA 1), .ref (pA 2), .ref (pA 3), .ref (pA 4), .ref (pA 5), .ref (pA 6), .ref (pA 7), .ref (pA 8), .ref (pA 9), .ref (pA 10), .int (nI T), .int (nI Ac)]]) (va_A [oc xa 6 [.ref pa, .ref ga, .ref (xA 0), .ref (xA 1), .ref (xA 2), .ref (xA 3), .ref (xA 4), .ref (xA 5), .ref (xA 6), .ref (xA 7), .ref (xA 8), .ref (xA 9), .ref (xA 10), .ref (xA 11), .ref fa, .int (nI md), .int (nI mb)], ia u1 v1 7 (fun i => nI (fa1 i)), ia u2 v2 7 (fun i => nI (fa2 i)), oc pa 0 [.ref (pA 0), .ref (pA 1), .ref (pA 2), .ref (pA 3), .ref (pA 4), .ref (pA 5), .ref (pA 6), .ref (pA 7), .ref (pA 8), .ref (pA 9), .ref (pA 10), .int (nI T), .int (nI Ac)]] sz)) 0 0 (va_A [oc xa 6 [.ref pa, .ref ga, .ref (xA 0), .ref (xA 1), .ref (xA 2), .ref (xA 3), .ref (xA 4), .ref (xA 5), .ref (xA 6), .ref (xA 7), .ref (xA 8), .ref (xA 9), .ref (xA 10), .ref (xA 11), .ref fa, .int (nI md), .int (nI mb)], ia u1 v1 7 (fun i => nI (fa1 i)), ia u2 v2 7 (fun i => nI (fa2 i)), oc pa 0 [.ref (pA 0), .ref (pA 1), .ref (pA 2), .ref (pA 3), .ref (pA 4), .ref (pA 5), .ref (pA 6), .ref (pA 7), .ref (pA 8), .ref (pA 9), .ref (pA 10), .int (nI T), .int (nI Ac)]] sz) := by
  refine Met.ofW (cc := b_GraphSearch_hasNoRing) (maxL := 7) (ret := (some .boolean)) (by decide) rfl ?_
  intro p e0 s m args below meth c s₁ B hml hv
  obtain ⟨rfl, hsz, hP, hK, hD0, hn⟩ := hv
  have hx := B.exec
  have hb := B.bytes
  have hr := B.returns
  have hw := fun w (h : w ∈ wt) => atoms_spec (ws := w_GraphSearch_hasNoRing) B.pre w (List.mem_cons_of_mem _ h)
  have hown : s.vm.findClass R_GraphSearch = some m.cls := findClass_of_methodNamed B.named
  have hlocks := B.notSynchronized
  subst hsz
  have hD1 := hD0.self (sz := s.heap.size)
  generalize hAe : va_A [oc xa 6 [.ref pa, .ref ga, .ref (xA 0), .ref (xA 1), .ref (xA 2), .ref (xA 3), .ref (xA 4), .ref (xA 5), .ref (xA 6), .ref (xA 7), .ref (xA 8), .ref (xA 9), .ref (xA 10), .ref (xA 11), .ref fa, .int (nI md), .int (nI mb)], ia u1 v1 7 (fun i => nI (fa1 i)), ia u2 v2 7 (fun i => nI (fa2 i)), oc pa 0 [.ref (pA 0), .ref (pA 1), .ref (pA 2), .ref (pA 3), .ref (pA 4), .ref (pA 5), .ref (pA 6), .ref (pA 7), .ref (pA 8), .ref (pA 9), .ref (pA 10), .int (nI T), .int (nI Ac)]] s.heap.size = A at hD1 ⊢
  have hA : ∀ q : Nat, s.heap.size ≤ q → A q := fun q h => by rw [← hAe]; exact Or.inr h
  have hD : dd A [xa, u1, u2, pa] := dd_of hD1 rfl
  clear hAe hD0 hD1
  have hS : va_S A s.heap s.heap [] := va_S.rf
  replace hP : va_P (dC, dI) classes [oc xa 6 [.ref pa, .ref ga, .ref (xA 0), .ref (xA 1), .ref (xA 2), .ref (xA 3), .ref (xA 4), .ref (xA 5), .ref (xA 6), .ref (xA 7), .ref (xA 8), .ref (xA 9), .ref (xA 10), .ref (xA 11), .ref fa, .int (nI md), .int (nI mb)], ia u1 v1 7 (fun i => nI (fa1 i)), ia u2 v2 7 (fun i => nI (fa2 i)), oc pa 0 [.ref (pA 0), .ref (pA 1), .ref (pA 2), .ref (pA 3), .ref (pA 4), .ref (pA 5), .ref (pA 6), .ref (pA 7), .ref (pA 8), .ref (pA 9), .ref (pA 10), .int (nI T), .int (nI Ac)]] s.heap := hP
  have hl := lv_entry ([.ref xa, .ref u1, .ref u2, .int (nI am)]) (n := 7) (Nat.le_of_ble_eq_true rfl)
  rw [lg_entry_eq]
  generalize (lg_sl ([.ref xa, .ref u1, .ref u2, .int (nI am)]) ++ List.replicate (7 - (lg_sl ([.ref xa, .ref u1, .ref u2, .int (nI am)])).length) Slot.unset).toArray = ls at hl ⊢
  replace hl : lv_has ls 7 [(0, .ref xa), (1, .ref u1), (2, .ref u2), (3, .int (nI am))] := hl
  refine lv_iload_n hx hb d_GraphSearch_hasNoRing_0 rfl (lv_at hl 3 rfl) ?_
  refine lv_istore (lv' := [(4, .int (nI am)), (0, .ref xa), (1, .ref u1), (2, .ref u2), (3, .int (nI am))]) hx hb d_GraphSearch_hasNoRing_1 hl (by decide) rfl ?_
  clear hl ls
  intro ls hl
  refine lv_iconst (v := 0) hx hb d_GraphSearch_hasNoRing_3 (by decide) ?_
  refine lv_istore (lv' := [(5, .int 0), (4, .int (nI am)), (0, .ref xa), (1, .ref u1), (2, .ref u2), (3, .int (nI am))]) hx hb d_GraphSearch_hasNoRing_4 hl (by decide) rfl ?_
  clear hl ls
  intro ls hl
  replace hP : va_P (dC, dI) classes [oc xa 6 [.ref pa, .ref ga, .ref (xA 0), .ref (xA 1), .ref (xA 2), .ref (xA 3), .ref (xA 4), .ref (xA 5), .ref (xA 6), .ref (xA 7), .ref (xA 8), .ref (xA 9), .ref (xA 10), .ref (xA 11), .ref fa, .int (nI md), .int (nI mb)], ia u1 v1 7 (fun i => nI (fa1 i)), ia u2 v2 7 (fun i => nI (fa2 i)), oc pa 0 [.ref (pA 0), .ref (pA 1), .ref (pA 2), .ref (pA 3), .ref (pA 4), .ref (pA 5), .ref (pA 6), .ref (pA 7), .ref (pA 8), .ref (pA 9), .ref (pA 10), .int (nI T), .int (nI Ac)]] s.heap := hP
  replace hl : lv_has ls 7 [(5, .int (nI 0)), (4, .int (nI (itR fa1 fa2 Ac 0 am))), (0, .ref xa), (1, .ref u1), (2, .ref u2), (3, .int (nI am))] := hl
  refine lp_n 7 (fun n0 H locs ls => va_P (dC, dI) classes [oc xa 6 [.ref pa, .ref ga, .ref (xA 0), .ref (xA 1), .ref (xA 2), .ref (xA 3), .ref (xA 4), .ref (xA 5), .ref (xA 6), .ref (xA 7), .ref (xA 8), .ref (xA 9), .ref (xA 10), .ref (xA 11), .ref fa, .int (nI md), .int (nI mb)], ia u1 v1 7 (fun i => nI (fa1 i)), ia u2 v2 7 (fun i => nI (fa2 i)), oc pa 0 [.ref (pA 0), .ref (pA 1), .ref (pA 2), .ref (pA 3), .ref (pA 4), .ref (pA 5), .ref (pA 6), .ref (pA 7), .ref (pA 8), .ref (pA 9), .ref (pA 10), .int (nI T), .int (nI Ac)]] H ∧ va_S A s.heap H locs ∧ lv_has ls 7 [(5, .int (nI n0)), (4, .int (nI (itR fa1 fa2 Ac n0 am))), (0, .ref xa), (1, .ref u1), (2, .ref u2), (3, .int (nI am))]) ⟨hP, hS, hl⟩ ?_ ?_
  · intro n0 H locs ls hn0 hI ih_n0
    obtain ⟨hP, hS, hl⟩ := hI
    obtain ⟨L9, hL9⟩ : ∃ L9, L9 = itR fa1 fa2 Ac n0 am := ⟨_, rfl⟩
    have L98 : L9 < 128 := by rw [hL9]; exact itR_lt ham n0
    rw [← hL9] at hl
    refine lv_iload hx hb d_GraphSearch_hasNoRing_6 (lv_at hl 0 rfl) ?_
    refine lv_bipush (v := 7) hx hb d_GraphSearch_hasNoRing_8 (by decide) ?_
    refine lv_icmp_ge (tgt := 71) hx hb d_GraphSearch_hasNoRing_10 (by decide) (fun c9 => absurd c9 (nI_ge (a := n0) (b := 7) hn0 (by decide))) (fun c9 => ?_)
    refine tp_pc (pc' := 13) (by rfl) ?_
    refine lv_iload hx hb d_GraphSearch_hasNoRing_13 (lv_at hl 1 rfl) ?_
    refine lv_if_eq (tgt := 71) hx hb d_GraphSearch_hasNoRing_15 (by decide) (fun c1 => ?_) (fun c1 => ?_)
    · skip
      have hc1 : L9 = 0 := (nI_eq (a := L9) (b := 0) (by omega) (by omega)).mp c1
      refine tp_pc (pc' := 71) (by rfl) ?_
      refine lv_iload hx hb d_GraphSearch_hasNoRing_71 (lv_at hl 1 rfl) ?_
      refine lv_if_ne (tgt := 80) hx hb d_GraphSearch_hasNoRing_73 (by decide) (fun c9 => absurd (by rw [hc1]; rfl) c9) (fun c9 => ?_)
      refine tp_pc (pc' := 76) (by rfl) ?_
      refine lv_iconst (v := 1) hx hb d_GraphSearch_hasNoRing_76 (by decide) ?_
      refine lv_goto (tgt := 81) hx hb d_GraphSearch_hasNoRing_77 (by decide) ?_
      refine tp_pc (pc' := 81) (by rfl) ?_
      obtain ⟨hP9, hD9, -⟩ := cut3 (wc := [oc xa 6 [.ref pa, .ref ga, .ref (xA 0), .ref (xA 1), .ref (xA 2), .ref (xA 3), .ref (xA 4), .ref (xA 5), .ref (xA 6), .ref (xA 7), .ref (xA 8), .ref (xA 9), .ref (xA 10), .ref (xA 11), .ref fa, .int (nI md), .int (nI mb)], ia u1 v1 7 (fun i => nI (fa1 i)), ia u2 v2 7 (fun i => nI (fa2 i)), oc pa 0 [.ref (pA 0), .ref (pA 1), .ref (pA 2), .ref (pA 3), .ref (pA 4), .ref (pA 5), .ref (pA 6), .ref (pA 7), .ref (pA 8), .ref (pA 9), .ref (pA 10), .int (nI T), .int (nI Ac)]]) hP hD rfl hS hA [0, 1, 2, 3] (by decide +kernel) rfl
      have hK9 := hK.sub (tys' := []) [] rfl
      refine W.widen (k := 0) (n := 0) (by exact Nat.le_of_ble_eq_true rfl) (by exact Nat.le_of_ble_eq_true rfl) ?_
      exact W.zret (v := 1) (ty := .boolean) hx hb hr (by decide) (fun t9 ht9 hW => ⟨⟨1, (), rfl, by rw [if_pos (itR_0 (by rw [← hL9]; exact hc1) 7 (by omega))], by rw [ht9]; exact hP9, va_K.moved hW.alike hK9, hD9⟩, hS.F ht9⟩) hS.2.2 d_GraphSearch_hasNoRing_81
    · skip
      have hc1 : ¬ (L9 = 0) := fun q9 => c1 ((nI_eq (a := L9) (b := 0) (by omega) (by omega)).mpr q9)
      refine tp_pc (pc' := 18) (by rfl) ?_
      refine lv_iconst (v := 0) hx hb d_GraphSearch_hasNoRing_18 (by decide) ?_
      refine lv_istore (lv' := [(6, .int 0), (5, .int (nI n0)), (4, .int (nI L9)), (0, .ref xa), (1, .ref u1), (2, .ref u2), (3, .int (nI am))]) hx hb d_GraphSearch_hasNoRing_19 hl (by decide) rfl ?_
      clear hl ls
      intro ls hl
      replace hP : va_P (dC, dI) classes [oc xa 6 [.ref pa, .ref ga, .ref (xA 0), .ref (xA 1), .ref (xA 2), .ref (xA 3), .ref (xA 4), .ref (xA 5), .ref (xA 6), .ref (xA 7), .ref (xA 8), .ref (xA 9), .ref (xA 10), .ref (xA 11), .ref fa, .int (nI md), .int (nI mb)], ia u1 v1 7 (fun i => nI (fa1 i)), ia u2 v2 7 (fun i => nI (fa2 i)), oc pa 0 [.ref (pA 0), .ref (pA 1), .ref (pA 2), .ref (pA 3), .ref (pA 4), .ref (pA 5), .ref (pA 6), .ref (pA 7), .ref (pA 8), .ref (pA 9), .ref (pA 10), .int (nI T), .int (nI Ac)]] H := hP
      replace hl : lv_has ls 7 [(6, .int (nI 0)), (5, .int (nI n0)), (4, .int (nI (plI fa1 fa2 0 L9))), (0, .ref xa), (1, .ref u1), (2, .ref u2), (3, .int (nI am))] := hl
      refine lp_n Ac (fun i H locs ls => va_P (dC, dI) classes [oc xa 6 [.ref pa, .ref ga, .ref (xA 0), .ref (xA 1), .ref (xA 2), .ref (xA 3), .ref (xA 4), .ref (xA 5), .ref (xA 6), .ref (xA 7), .ref (xA 8), .ref (xA 9), .ref (xA 10), .ref (xA 11), .ref fa, .int (nI md), .int (nI mb)], ia u1 v1 7 (fun i => nI (fa1 i)), ia u2 v2 7 (fun i => nI (fa2 i)), oc pa 0 [.ref (pA 0), .ref (pA 1), .ref (pA 2), .ref (pA 3), .ref (pA 4), .ref (pA 5), .ref (pA 6), .ref (pA 7), .ref (pA 8), .ref (pA 9), .ref (pA 10), .int (nI T), .int (nI Ac)]] H ∧ va_S A s.heap H locs ∧ lv_has ls 7 [(6, .int (nI i)), (5, .int (nI n0)), (4, .int (nI (plI fa1 fa2 i L9))), (0, .ref xa), (1, .ref u1), (2, .ref u2), (3, .int (nI am))]) ⟨hP, hS, hl⟩ ?_ ?_
      · intro i H locs ls hi hI ih_i
        obtain ⟨hP, hS, hl⟩ := hI
        obtain ⟨L8, hL8⟩ : ∃ L8, L8 = plI fa1 fa2 i L9 := ⟨_, rfl⟩
        have L88 : L8 < 128 := by rw [hL8]; exact plI_lt L98 i
        rw [← hL8] at hl
        have f18 := h1 i hi
        have f28 := h2 i hi
        have fo8 : fa1 i ||| fa2 i < 128 := Nat.or_lt_two_pow (n := 7) f18 f28
        obtain ⟨b9, hb9⟩ : ∃ b9, b9 = (fa1 i ||| fa2 i) &&& L8 := ⟨_, rfl⟩
        have hb2 : b9 < 128 := by rw [hb9]; exact Nat.and_lt_two_pow (n := 7) _ L88
        refine lv_iload hx hb d_GraphSearch_hasNoRing_21 (lv_at hl 0 rfl) ?_
        refine lv_aload_n hx hb d_GraphSearch_hasNoRing_23 rfl (lv_at hl 3 rfl) ?_
        refine va_get (D := (dC, dI)) (ci := 6) (v := .ref pa) (C := R_GraphSearch) (T := F_GraphSearch) (N := 17) hx hb hw i_GraphSearch hown hK hP 0 rfl rfl 0 (by decide) (hw _ m_319) (fun _ h9 => h9) rfl d_GraphSearch_hasNoRing_24 ?_
        refine va_get (D := (dC, dI)) (ci := 0) (v := .int (nI Ac)) (C := R_Program) (T := F_Program) (N := 13) hx hb hw i_Program hown hK hP 3 rfl rfl 12 (by decide) (hw _ m_166) (fun _ h9 => h9) rfl d_GraphSearch_hasNoRing_27 ?_
        refine lv_icmp_ge (tgt := 65) hx hb d_GraphSearch_hasNoRing_30 (by decide) (fun c9 => absurd c9 (nI_ge hi (by omega))) (fun c9 => ?_)
        refine tp_pc (pc' := 33) (by rfl) ?_
        refine lv_aload_n hx hb d_GraphSearch_hasNoRing_33 rfl (lv_at hl 4 rfl) ?_
        refine lv_iload hx hb d_GraphSearch_hasNoRing_34 (lv_at hl 0 rfl) ?_
        refine va_iald (D := (dC, dI)) hx hb hK hP 1 0 rfl rfl (i := nI i) (pk_in i 7 (by omega)) d_GraphSearch_hasNoRing_36 ?_
        refine tp_i (y := nI (fa1 i)) (by rw [show (nI i : Int32).toNatClampNeg = i from pk_cl i]) ?_
        refine lv_aload_n hx hb d_GraphSearch_hasNoRing_37 rfl (lv_at hl 5 rfl) ?_
        refine lv_iload hx hb d_GraphSearch_hasNoRing_38 (lv_at hl 0 rfl) ?_
        refine va_iald (D := (dC, dI)) hx hb hK hP 2 1 rfl rfl (i := nI i) (pk_in i 7 (by omega)) d_GraphSearch_hasNoRing_40 ?_
        refine tp_i (y := nI (fa2 i)) (by rw [show (nI i : Int32).toNatClampNeg = i from pk_cl i]) ?_
        refine lv_ior hx hb d_GraphSearch_hasNoRing_41 ?_
        refine tp_i (y := (nI (fa1 i)) ||| (nI (fa2 i))) rfl ?_
        refine tp_i (y := nI (fa1 i ||| fa2 i)) (or_eq _ f18 _ f28) ?_
        refine lv_iload hx hb d_GraphSearch_hasNoRing_42 (lv_at hl 2 rfl) ?_
        refine lv_iand hx hb d_GraphSearch_hasNoRing_44 ?_
        refine tp_i (y := (nI (fa1 i ||| fa2 i)) &&& (nI L8)) rfl ?_
        refine tp_i (y := nI b9) (by rw [hb9]; exact and_eq fo8 L88) ?_
        refine lv_if_ne (tgt := 59) hx hb d_GraphSearch_hasNoRing_45 (by decide) (fun c2 => ?_) (fun c2 => ?_)
        · skip
          have hc2 : ¬ (b9 = 0) := fun q9 => c2 ((nI_eq (a := b9) (b := 0) (by omega) (by omega)).mpr q9)
          have e9 : plI fa1 fa2 (i + 1) L9 = L8 := by rw [plI, ← hL8, if_neg (by rw [← hb9]; exact hc2)]
          rw [← e9] at hl
          refine tp_pc (pc' := 59) (by rfl) ?_
          refine lv_iinc (v := nI (i + 1)) (lv' := [(6, .int (nI (i + 1))), (5, .int (nI n0)), (4, .int (nI (plI fa1 fa2 (i + 1) L9))), (0, .ref xa), (1, .ref u1), (2, .ref u2), (3, .int (nI am))]) hx hb d_GraphSearch_hasNoRing_59 hl (k := 0) rfl (by exact nI_1 i) (by decide) rfl ?_
          clear hl ls
          intro ls hl
          refine lv_goto (tgt := 21) hx hb d_GraphSearch_hasNoRing_62 (by decide) ?_
          refine tp_pc (pc' := 21) (by rfl) ?_
          obtain ⟨hP8, -, -⟩ := cut3 (wc := [oc xa 6 [.ref pa, .ref ga, .ref (xA 0), .ref (xA 1), .ref (xA 2), .ref (xA 3), .ref (xA 4), .ref (xA 5), .ref (xA 6), .ref (xA 7), .ref (xA 8), .ref (xA 9), .ref (xA 10), .ref (xA 11), .ref fa, .int (nI md), .int (nI mb)], ia u1 v1 7 (fun i => nI (fa1 i)), ia u2 v2 7 (fun i => nI (fa2 i)), oc pa 0 [.ref (pA 0), .ref (pA 1), .ref (pA 2), .ref (pA 3), .ref (pA 4), .ref (pA 5), .ref (pA 6), .ref (pA 7), .ref (pA 8), .ref (pA 9), .ref (pA 10), .int (nI T), .int (nI Ac)]]) hP hD rfl hS hA [0, 1, 2, 3] (by decide +kernel) rfl
          exact ih_i _ _ _ ⟨hP8, hS, lv_sub hl [0, 1, 2, 3, 4, 5, 6] rfl⟩
        · skip
          have hc2 : b9 = 0 := (nI_eq (a := b9) (b := 0) (by omega) (by omega)).mp c2
          have e9 : plI fa1 fa2 (i + 1) L9 = clr L8 i := by rw [plI, ← hL8, if_pos (by rw [← hb9]; exact hc2)]
          refine tp_pc (pc' := 48) (by rfl) ?_
          refine lv_iload hx hb d_GraphSearch_hasNoRing_48 (lv_at hl 2 rfl) ?_
          refine lv_iconst (v := 1) hx hb d_GraphSearch_hasNoRing_50 (by decide) ?_
          refine lv_iload hx hb d_GraphSearch_hasNoRing_51 (lv_at hl 0 rfl) ?_
          refine lv_ishl hx hb d_GraphSearch_hasNoRing_53 ?_
          refine tp_i (y := 1 <<< ((nI i) &&& 31)) rfl ?_
          refine lv_iconst (v := (-1)) hx hb d_GraphSearch_hasNoRing_54 (by decide) ?_
          refine lv_ixor hx hb d_GraphSearch_hasNoRing_55 ?_
          refine tp_i (y := (1 <<< ((nI i) &&& 31)) ^^^ (-1)) rfl ?_
          refine lv_iand hx hb d_GraphSearch_hasNoRing_56 ?_
          refine tp_i (y := (nI L8) &&& ((1 <<< ((nI i) &&& 31)) ^^^ (-1))) rfl ?_
          refine tp_i (y := nI (plI fa1 fa2 (i + 1) L9)) (by rw [e9]; exact clr_eq L8 L88 i (by omega)) ?_
          refine lv_istore (lv' := [(4, .int (nI (plI fa1 fa2 (i + 1) L9))), (6, .int (nI i)), (5, .int (nI n0)), (0, .ref xa), (1, .ref u1), (2, .ref u2), (3, .int (nI am))]) hx hb d_GraphSearch_hasNoRing_57 hl (by decide) rfl ?_
          clear hl ls
          intro ls hl
          refine lv_iinc (v := nI (i + 1)) (lv' := [(6, .int (nI (i + 1))), (4, .int (nI (plI fa1 fa2 (i + 1) L9))), (5, .int (nI n0)), (0, .ref xa), (1, .ref u1), (2, .ref u2), (3, .int (nI am))]) hx hb d_GraphSearch_hasNoRing_59 hl (k := 1) rfl (by exact nI_1 i) (by decide) rfl ?_
          clear hl ls
          intro ls hl
          refine lv_goto (tgt := 21) hx hb d_GraphSearch_hasNoRing_62 (by decide) ?_
          refine tp_pc (pc' := 21) (by rfl) ?_
          obtain ⟨hP8, -, -⟩ := cut3 (wc := [oc xa 6 [.ref pa, .ref ga, .ref (xA 0), .ref (xA 1), .ref (xA 2), .ref (xA 3), .ref (xA 4), .ref (xA 5), .ref (xA 6), .ref (xA 7), .ref (xA 8), .ref (xA 9), .ref (xA 10), .ref (xA 11), .ref fa, .int (nI md), .int (nI mb)], ia u1 v1 7 (fun i => nI (fa1 i)), ia u2 v2 7 (fun i => nI (fa2 i)), oc pa 0 [.ref (pA 0), .ref (pA 1), .ref (pA 2), .ref (pA 3), .ref (pA 4), .ref (pA 5), .ref (pA 6), .ref (pA 7), .ref (pA 8), .ref (pA 9), .ref (pA 10), .int (nI T), .int (nI Ac)]]) hP hD rfl hS hA [0, 1, 2, 3] (by decide +kernel) rfl
          exact ih_i _ _ _ ⟨hP8, hS, lv_sub hl [0, 2, 1, 3, 4, 5, 6] rfl⟩
      · intro H locs ls hI
        obtain ⟨hP, hS, hl⟩ := hI
        refine lv_iload hx hb d_GraphSearch_hasNoRing_21 (lv_at hl 0 rfl) ?_
        refine lv_aload_n hx hb d_GraphSearch_hasNoRing_23 rfl (lv_at hl 3 rfl) ?_
        refine va_get (D := (dC, dI)) (ci := 6) (v := .ref pa) (C := R_GraphSearch) (T := F_GraphSearch) (N := 17) hx hb hw i_GraphSearch hown hK hP 0 rfl rfl 0 (by decide) (hw _ m_319) (fun _ h9 => h9) rfl d_GraphSearch_hasNoRing_24 ?_
        refine va_get (D := (dC, dI)) (ci := 0) (v := .int (nI Ac)) (C := R_Program) (T := F_Program) (N := 13) hx hb hw i_Program hown hK hP 3 rfl rfl 12 (by decide) (hw _ m_166) (fun _ h9 => h9) rfl d_GraphSearch_hasNoRing_27 ?_
        refine lv_icmp_ge (tgt := 65) hx hb d_GraphSearch_hasNoRing_30 (by decide) (fun c9 => ?_) (fun c9 => absurd (nI_le (Nat.le_refl _) (by omega)) c9)
        have e9 : itR fa1 fa2 Ac (n0 + 1) am = plI fa1 fa2 Ac L9 := by rw [itR, ← hL9]
        rw [← e9] at hl
        refine tp_pc (pc' := 65) (by rfl) ?_
        refine lv_iinc (v := nI (n0 + 1)) (lv' := [(5, .int (nI (n0 + 1))), (6, .int (nI Ac)), (4, .int (nI (itR fa1 fa2 Ac (n0 + 1) am))), (0, .ref xa), (1, .ref u1), (2, .ref u2), (3, .int (nI am))]) hx hb d_GraphSearch_hasNoRing_65 hl (k := 1) rfl (by exact nI_1 n0) (by decide) rfl ?_
        clear hl ls
        intro ls hl
        refine lv_goto (tgt := 6) hx hb d_GraphSearch_hasNoRing_68 (by decide) ?_
        refine tp_pc (pc' := 6) (by rfl) ?_
        obtain ⟨hP8, -, -⟩ := cut3 (wc := [oc xa 6 [.ref pa, .ref ga, .ref (xA 0), .ref (xA 1), .ref (xA 2), .ref (xA 3), .ref (xA 4), .ref (xA 5), .ref (xA 6), .ref (xA 7), .ref (xA 8), .ref (xA 9), .ref (xA 10), .ref (xA 11), .ref fa, .int (nI md), .int (nI mb)], ia u1 v1 7 (fun i => nI (fa1 i)), ia u2 v2 7 (fun i => nI (fa2 i)), oc pa 0 [.ref (pA 0), .ref (pA 1), .ref (pA 2), .ref (pA 3), .ref (pA 4), .ref (pA 5), .ref (pA 6), .ref (pA 7), .ref (pA 8), .ref (pA 9), .ref (pA 10), .int (nI T), .int (nI Ac)]]) hP hD rfl hS hA [0, 1, 2, 3] (by decide +kernel) rfl
        exact ih_n0 _ _ _ ⟨hP8, hS, lv_sub hl [0, 2, 3, 4, 5, 6] rfl⟩
  · intro H locs ls hI
    obtain ⟨hP, hS, hl⟩ := hI
    obtain ⟨L9, hL9⟩ : ∃ L9, L9 = itR fa1 fa2 Ac 7 am := ⟨_, rfl⟩
    have L98 : L9 < 128 := by rw [hL9]; exact itR_lt ham 7
    rw [← hL9] at hl ⊢
    replace hl : lv_has ls 7 [(5, .int 7), (4, .int (nI L9)), (0, .ref xa), (1, .ref u1), (2, .ref u2), (3, .int (nI am))] := hl
    refine lv_iload hx hb d_GraphSearch_hasNoRing_6 (lv_at hl 0 rfl) ?_
    refine lv_bipush (v := 7) hx hb d_GraphSearch_hasNoRing_8 (by decide) ?_
    refine lv_icmp_ge (tgt := 71) hx hb d_GraphSearch_hasNoRing_10 (by decide) (fun c_1 => ?_) (fun c_1 => absurd c_1 (by decide))
    refine tp_pc (pc' := 71) (by rfl) ?_
    refine lv_iload hx hb d_GraphSearch_hasNoRing_71 (lv_at hl 1 rfl) ?_
    refine lv_if_ne (tgt := 80) hx hb d_GraphSearch_hasNoRing_73 (by decide) (fun c1 => ?_) (fun c1 => ?_)
    · skip
      have hc1 : ¬ (L9 = 0) := fun q9 => c1 ((nI_eq (a := L9) (b := 0) (by omega) (by omega)).mpr q9)
      refine tp_pc (pc' := 80) (by rfl) ?_
      refine lv_iconst (v := 0) hx hb d_GraphSearch_hasNoRing_80 (by decide) ?_
      obtain ⟨hP9, hD9, -⟩ := cut3 (wc := [oc xa 6 [.ref pa, .ref ga, .ref (xA 0), .ref (xA 1), .ref (xA 2), .ref (xA 3), .ref (xA 4), .ref (xA 5), .ref (xA 6), .ref (xA 7), .ref (xA 8), .ref (xA 9), .ref (xA 10), .ref (xA 11), .ref fa, .int (nI md), .int (nI mb)], ia u1 v1 7 (fun i => nI (fa1 i)), ia u2 v2 7 (fun i => nI (fa2 i)), oc pa 0 [.ref (pA 0), .ref (pA 1), .ref (pA 2), .ref (pA 3), .ref (pA 4), .ref (pA 5), .ref (pA 6), .ref (pA 7), .ref (pA 8), .ref (pA 9), .ref (pA 10), .int (nI T), .int (nI Ac)]]) hP hD rfl hS hA [0, 1, 2, 3] (by decide +kernel) rfl
      have hK9 := hK.sub (tys' := []) [] rfl
      refine W.widen (k := 0) (n := 0) (by exact Nat.le_of_ble_eq_true rfl) (by exact Nat.le_of_ble_eq_true rfl) ?_
      exact W.zret (v := 0) (ty := .boolean) hx hb hr (by decide) (fun t9 ht9 hW => ⟨⟨0, (), rfl, by rw [if_neg hc1], by rw [ht9]; exact hP9, va_K.moved hW.alike hK9, hD9⟩, hS.F ht9⟩) hS.2.2 d_GraphSearch_hasNoRing_81
    · skip
      have hc1 : L9 = 0 := (nI_eq (a := L9) (b := 0) (by omega) (by omega)).mp c1
      refine tp_pc (pc' := 76) (by rfl) ?_
      refine lv_iconst (v := 1) hx hb d_GraphSearch_hasNoRing_76 (by decide) ?_
      refine lv_goto (tgt := 81) hx hb d_GraphSearch_hasNoRing_77 (by decide) ?_
      refine tp_pc (pc' := 81) (by rfl) ?_
      obtain ⟨hP9, hD9, -⟩ := cut3 (wc := [oc xa 6 [.ref pa, .ref ga, .ref (xA 0), .ref (xA 1), .ref (xA 2), .ref (xA 3), .ref (xA 4), .ref (xA 5), .ref (xA 6), .ref (xA 7), .ref (xA 8), .ref (xA 9), .ref (xA 10), .ref (xA 11), .ref fa, .int (nI md), .int (nI mb)], ia u1 v1 7 (fun i => nI (fa1 i)), ia u2 v2 7 (fun i => nI (fa2 i)), oc pa 0 [.ref (pA 0), .ref (pA 1), .ref (pA 2), .ref (pA 3), .ref (pA 4), .ref (pA 5), .ref (pA 6), .ref (pA 7), .ref (pA 8), .ref (pA 9), .ref (pA 10), .int (nI T), .int (nI Ac)]]) hP hD rfl hS hA [0, 1, 2, 3] (by decide +kernel) rfl
      have hK9 := hK.sub (tys' := []) [] rfl
      refine W.widen (k := 0) (n := 0) (by exact Nat.le_of_ble_eq_true rfl) (by exact Nat.le_of_ble_eq_true rfl) ?_
      exact W.zret (v := 1) (ty := .boolean) hx hb hr (by decide) (fun t9 ht9 hW => ⟨⟨1, (), rfl, by rw [if_pos hc1], by rw [ht9]; exact hP9, va_K.moved hW.alike hK9, hD9⟩, hS.F ht9⟩) hS.2.2 d_GraphSearch_hasNoRing_81
