theorem at_has {n p : Nat} {rf : Nat → Int64} {vf : Nat → Int32} {of : Nat → Nat} {rk : Int64} {vk : Int32} (hs : srt n rf vf of) (h1 : ∀ i, i < p → ltK (rf (of i)) (vf (of i)) rk vk) (h2 : ∀ i, p ≤ i → i < n → ¬ ltK (rf (of i)) (vf (of i)) rk vk) :
    (p < n ∧ rf (of p) = rk ∧ vf (of p) = vk) ↔ hasO rf vf of rk vk n = true := by
  constructor
  · intro ⟨q1, q2, q3⟩
    cases hb : hasO rf vf of rk vk n with
    | true => rfl
    | false => exact absurd ⟨q2, q3⟩ (hasO_no hb p q1)
  · intro hb
    obtain ⟨j, hj, e1, e2⟩ := hasO_yes hb
    have hpj : p ≤ j := by
      refine Nat.le_of_not_lt fun q => ?_
      have := h1 j q
      rw [e1, e2] at this
      exact ltK_irr this
    rcases Nat.lt_or_eq_of_le hpj with q | q
    · have := hs.2 p j q hj
      rw [e1, e2] at this
      exact absurd this (h2 p (Nat.le_refl p) (by omega))
    · subst q; exact ⟨hj, e1, e2⟩
/-- how many of the first rows another set has not -/
def msN (rf : Nat → Int64) (vf : Nat → Int32) (rf2 : Nat → Int64) (vf2 : Nat → Int32) (of2 : Nat → Nat) (n2 : Nat) : Nat → Nat
  | 0 => 0
  | i + 1 => if hasO rf2 vf2 of2 (rf i) (vf i) n2 = true then msN rf vf rf2 vf2 of2 n2 i else msN rf vf rf2 vf2 of2 n2 i + 1
theorem msN_le {rf : Nat → Int64} {vf : Nat → Int32} {rf2 : Nat → Int64} {vf2 : Nat → Int32} {of2 : Nat → Nat} {n2 : Nat} : ∀ i, msN rf vf rf2 vf2 of2 n2 i ≤ i
  | 0 => Nat.le_refl 0
  | i + 1 => by
    unfold msN; split
    · exact Nat.le_succ_of_le (msN_le i)
    · exact Nat.succ_le_succ (msN_le i)
/-- the ends of all racing pairs of the actions below i -/
def rcS (rc : Nat → Nat) : Nat → Nat
  | 0 => 0
  | i + 1 => rcS rc i + pop7 (rc i)
theorem rcS_le {rc : Nat → Nat} (h : ∀ i, rc i < 128) : ∀ i, rcS rc i ≤ 7 * i
  | 0 => Nat.le_refl 0
  | i + 1 => by
    unfold rcS
    have := rcS_le h i
    have := pop7_le _ (h i)
    omega
set_option maxHeartbeats 4000000 in
set_option maxRecDepth 100000 in
theorem gen_OutcomeSet_countMissingIn (l : Launch) (dC : Nat → ClassId) (dI : Nat → Nat → Nat) (h0 h1 h2 h3 h4 h5 o0 o1 o2 o3 o4 o5 : Nat) (ee sd rd sd2 rd2 : Int32) (E n C n2 C2 : Nat) (k1 k2 m1 m2 m5 : ClassId) (rf rf2 : Nat → Int64) (vf vf2 : Nat → Int32) (of2 : Nat → Nat) (hC : C ≤ 65536) (hnC : n ≤ C) (hC2 : C2 ≤ 65536) (hnC2 : n2 ≤ C2) (hs2 : srt n2 rf2 vf2 of2) (sz : Nat) : Met l y_OutcomeSet_countMissingIn w_OutcomeSet_countMissingIn ({ frames := 1, cells := 0, slots := 0, locals := 60 }) (va_Pc [.ref h0, .ref o0] (fun U => U.heap.size = sz ∧ va_P (dC, dI) classes [oc h0 3 [.int ee, .ref h1, .ref h2, .ref h3, .ref h4, .ref h5, .int (nI n), .int sd, .int rd], la h1 k1 C rf, ia h2 k2 C vf, oc o0 3 [.int (nI E), .ref o1, .ref o2, .ref o3, .ref o4, .ref o5, .int (nI n2), .int sd2, .int rd2], la o1 m1 C2 rf2, ia o2 m2 C2 vf2, ia o5 m5 C2 (fun i => nI (of2 i))] U.heap ∧ va_K (dC, dI) classes [(k1, .long), (k2, .int), (m1, .long), (m2, .int), (m5, .int)] U ∧ va_D (fun _ => True) [oc h0 3 [.int ee, .ref h1, .ref h2, .ref h3, .ref h4, .ref h5, .int (nI n), .int sd, .int rd], la h1 k1 C rf, ia h2 k2 C vf, oc o0 3 [.int (nI E), .ref o1, .ref o2, .ref o3, .ref o4, .ref o5, .int (nI n2), .int sd2, .int rd2], la o1 m1 C2 rf2, ia o2 m2 C2 vf2, ia o5 m5 C2 (fun i => nI (of2 i))] ∧ nw U)) (va_Qi (fun (r : Int32) (_ : Unit) => r = nI (msN rf vf rf2 vf2 of2 n2 n)) (fun _ t9 => va_P (dC, dI) classes [oc h0 3 [.int ee, .ref h1, .ref h2, .ref h3, .ref h4, .ref h5, .int (nI n), .int sd, .int rd], la h1 k1 C rf, ia h2 k2 C vf, oc o0 3 [.int (nI E), .ref o1, .ref o2, .ref o3, .ref o4, .ref o5, .int (nI n2), .int sd2, .int rd2], la o1 m1 C2 rf2, ia o2 m2 C2 vf2, ia o5 m5 C2 (fun i => nI (of2 i))] t9.heap ∧ va_K (dC, dI) classes [] t9 ∧ va_D (va_A [oc h0 3 [.int ee, .ref h1, .ref h2, .ref h3, .ref h4, .ref h5, .int (nI n), .int sd, .int rd], la h1 k1 C rf, ia h2 k2 C vf, oc o0 3 [.int (nI E), .ref o1, .ref o2, .ref o3, .ref o4, .ref o5, .int (nI n2), .int sd2, .int rd2], la o1 m1 C2 rf2, ia o2 m2 C2 vf2, ia o5 m5 C2 (fun i => nI (of2 i))] sz) [oc h0 3 [.int ee, .ref h1, .ref h2, .ref h3, .ref h4, .ref h5, .int (nI n), .int sd, .int rd], la h1 k1 C rf, ia h2 k2 C vf, oc o0 3 [.int (nI E), .ref o1, .ref o2, .ref o3, .ref o4, .ref o5, .int (nI n2), .int sd2, .int rd2], la o1 m1 C2 rf2, ia o2 m2 C2 vf2, ia o5 m5 C2 (fun i => nI (of2 i))]) (va_A [oc h0 3 [.int ee, .ref h1, .ref h2, .ref h3, .ref h4, .ref h5, .int (nI n), .int sd, .int rd], la h1 k1 C rf, ia h2 k2 C vf, oc o0 3 [.int (nI E), .ref o1, .ref o2, .ref o3, .ref o4, .ref o5, .int (nI n2), .int sd2, .int rd2], la o1 m1 C2 rf2, ia o2 m2 C2 vf2, ia o5 m5 C2 (fun i => nI (of2 i))] sz)) 0 0 (va_A [oc h0 3 [.int ee, .ref h1, .ref h2, .ref h3, .ref h4, .ref h5, .int (nI n), .int sd, .int rd], la h1 k1 C rf, ia h2 k2 C vf, oc o0 3 [.int (nI E), .ref o1, .ref o2, .ref o3, .ref o4, .ref o5, .int (nI n2), .int sd2, .int rd2], la o1 m1 C2 rf2, ia o2 m2 C2 vf2, ia o5 m5 C2 (fun i => nI (of2 i))] sz) := by
  refine Met.ofW (cc := b_OutcomeSet_countMissingIn) (maxL := 5) (ret := (some .int)) (by decide) rfl ?_
  intro p e0 s m args below meth c s₁ B hml hv
  obtain ⟨rfl, hsz, hP, hK, hD0, hn⟩ := hv
  have hx := B.exec
  have hb := B.bytes
  have hr := B.returns
  have hw := fun w (h : w ∈ wt) => atoms_spec (ws := w_OutcomeSet_countMissingIn) B.pre w (List.mem_cons_of_mem _ h)
  have hown : s.vm.findClass R_OutcomeSet = some m.cls := findClass_of_methodNamed B.named
  have hlocks := B.notSynchronized
  subst hsz
  have hD1 := hD0.self (sz := s.heap.size)
  generalize hAe : va_A [oc h0 3 [.int ee, .ref h1, .ref h2, .ref h3, .ref h4, .ref h5, .int (nI n), .int sd, .int rd], la h1 k1 C rf, ia h2 k2 C vf, oc o0 3 [.int (nI E), .ref o1, .ref o2, .ref o3, .ref o4, .ref o5, .int (nI n2), .int sd2, .int rd2], la o1 m1 C2 rf2, ia o2 m2 C2 vf2, ia o5 m5 C2 (fun i => nI (of2 i))] s.heap.size = A at hD1 ⊢
  have hA : ∀ q : Nat, s.heap.size ≤ q → A q := fun q h => by rw [← hAe]; exact Or.inr h
  have hD : dd A [h0, h1, h2, o0, o1, o2, o5] := dd_of hD1 rfl
  clear hAe hD0 hD1
  have hS : va_S A s.heap s.heap [] := va_S.rf
  replace hP : va_P (dC, dI) classes [oc h0 3 [.int ee, .ref h1, .ref h2, .ref h3, .ref h4, .ref h5, .int (nI n), .int sd, .int rd], la h1 k1 C rf, ia h2 k2 C vf, oc o0 3 [.int (nI E), .ref o1, .ref o2, .ref o3, .ref o4, .ref o5, .int (nI n2), .int sd2, .int rd2], la o1 m1 C2 rf2, ia o2 m2 C2 vf2, ia o5 m5 C2 (fun i => nI (of2 i))] s.heap := hP
  have hl := lv_entry ([.ref h0, .ref o0]) (n := 5) (Nat.le_of_ble_eq_true rfl)
  rw [lg_entry_eq]
  generalize (lg_sl ([.ref h0, .ref o0]) ++ List.replicate (5 - (lg_sl ([.ref h0, .ref o0])).length) Slot.unset).toArray = ls at hl ⊢
  replace hl : lv_has ls 5 [(0, .ref h0), (1, .ref o0)] := hl
  refine lv_iconst (v := 0) hx hb d_OutcomeSet_countMissingIn_0 (by decide) ?_
  refine lv_istore_n (lv' := [(2, .int 0), (0, .ref h0), (1, .ref o0)]) hx hb d_OutcomeSet_countMissingIn_1 rfl hl (by decide) rfl ?_
  clear hl ls
  intro ls hl
  refine lv_iconst (v := 0) hx hb d_OutcomeSet_countMissingIn_2 (by decide) ?_
  refine lv_istore_n (lv' := [(3, .int 0), (2, .int 0), (0, .ref h0), (1, .ref o0)]) hx hb d_OutcomeSet_countMissingIn_3 rfl hl (by decide) rfl ?_
  clear hl ls
  intro ls hl
  replace hP : va_P (dC, dI) classes [oc h0 3 [.int ee, .ref h1, .ref h2, .ref h3, .ref h4, .ref h5, .int (nI n), .int sd, .int rd], la h1 k1 C rf, ia h2 k2 C vf, oc o0 3 [.int (nI E), .ref o1, .ref o2, .ref o3, .ref o4, .ref o5, .int (nI n2), .int sd2, .int rd2], la o1 m1 C2 rf2, ia o2 m2 C2 vf2, ia o5 m5 C2 (fun i => nI (of2 i))] s.heap := hP
  replace hl : lv_has ls 5 [(3, .int (nI 0)), (2, .int (nI (msN rf vf rf2 vf2 of2 n2 0))), (0, .ref h0), (1, .ref o0)] := hl
  refine lp_n n (fun i1 H locs ls => va_P (dC, dI) classes [oc h0 3 [.int ee, .ref h1, .ref h2, .ref h3, .ref h4, .ref h5, .int (nI n), .int sd, .int rd], la h1 k1 C rf, ia h2 k2 C vf, oc o0 3 [.int (nI E), .ref o1, .ref o2, .ref o3, .ref o4, .ref o5, .int (nI n2), .int sd2, .int rd2], la o1 m1 C2 rf2, ia o2 m2 C2 vf2, ia o5 m5 C2 (fun i => nI (of2 i))] H ∧ va_S A s.heap H locs ∧ lv_has ls 5 [(3, .int (nI i1)), (2, .int (nI (msN rf vf rf2 vf2 of2 n2 i1))), (0, .ref h0), (1, .ref o0)]) ⟨hP, hS, hl⟩ ?_ ?_
  · intro i1 H locs ls hi1 hI ih_i1
    obtain ⟨hP, hS, hl⟩ := hI
    have ml := msN_le (rf := rf) (vf := vf) (rf2 := rf2) (vf2 := vf2) (of2 := of2) (n2 := n2) i1
    refine lv_iload_n hx hb d_OutcomeSet_countMissingIn_4 rfl (lv_at hl 0 rfl) ?_
    refine lv_aload_n hx hb d_OutcomeSet_countMissingIn_5 rfl (lv_at hl 2 rfl) ?_
    refine va_get (D := (dC, dI)) (ci := 3) (v := .int (nI n)) (C := R_OutcomeSet) (T := F_OutcomeSet) (N := 9) hx hb hw i_OutcomeSet hown hK hP 0 rfl rfl 6 (by decide) (hw _ m_384) (fun _ h9 => h9) rfl d_OutcomeSet_countMissingIn_6 ?_
    refine lv_icmp_ge (tgt := 60) hx hb d_OutcomeSet_countMissingIn_9 (by decide) (fun c9 => absurd c9 (nI_ge hi1 (by omega))) (fun c9 => ?_)
    refine tp_pc (pc' := 12) (by rfl) ?_
    refine lv_aload_n hx hb d_OutcomeSet_countMissingIn_12 rfl (lv_at hl 3 rfl) ?_
    refine lv_aload_n hx hb d_OutcomeSet_countMissingIn_13 rfl (lv_at hl 2 rfl) ?_
    refine va_get (D := (dC, dI)) (ci := 3) (v := .ref h1) (C := R_OutcomeSet) (T := F_OutcomeSet) (N := 9) hx hb hw i_OutcomeSet hown hK hP 0 rfl rfl 1 (by decide) (hw _ m_379) (fun _ h9 => h9) rfl d_OutcomeSet_countMissingIn_14 ?_
    refine lv_iload_n hx hb d_OutcomeSet_countMissingIn_17 rfl (lv_at hl 0 rfl) ?_
    refine va_lald (D := (dC, dI)) hx hb hK hP 1 0 rfl rfl (i := nI i1) (pk_in i1 C (by omega)) d_OutcomeSet_countMissingIn_18 ?_
    refine tp_l (y := rf i1) (by rw [show (nI i1 : Int32).toNatClampNeg = i1 from pk_cl i1]) ?_
    refine lv_aload_n hx hb d_OutcomeSet_countMissingIn_19 rfl (lv_at hl 2 rfl) ?_
    refine va_get (D := (dC, dI)) (ci := 3) (v := .ref h2) (C := R_OutcomeSet) (T := F_OutcomeSet) (N := 9) hx hb hw i_OutcomeSet hown hK hP 0 rfl rfl 2 (by decide) (hw _ m_380) (fun _ h9 => h9) rfl d_OutcomeSet_countMissingIn_20 ?_
    refine lv_iload_n hx hb d_OutcomeSet_countMissingIn_23 rfl (lv_at hl 0 rfl) ?_
    refine va_iald (D := (dC, dI)) hx hb hK hP 2 1 rfl rfl (i := nI i1) (pk_in i1 C (by omega)) d_OutcomeSet_countMissingIn_24 ?_
    refine tp_i (y := vf i1) (by rw [show (nI i1 : Int32).toNatClampNeg = i1 from pk_cl i1]) ?_
    obtain ⟨hPc, hDc, hFc⟩ := cut3 (wc := [oc o0 3 [.int (nI E), .ref o1, .ref o2, .ref o3, .ref o4, .ref o5, .int (nI n2), .int sd2, .int rd2], la o1 m1 C2 rf2, ia o2 m2 C2 vf2, ia o5 m5 C2 (fun i => nI (of2 i))]) hP hD rfl hS hA [3, 4, 5, 6] (by decide +kernel) rfl
    have hKc := hK.sub (tys' := [(m1, .long), (m2, .int), (m5, .int)]) [2, 3, 4] rfl
    refine va_calli (va_runV (As := [.long (rf i1), .int (vf i1)]) (rest := []) ⟨hx, hb, hml, hown, hw⟩ (gen_OutcomeSet_firstNotLess l dC dI o0 o1 o2 o3 o4 o5 E n2 C2 sd2 rd2 m1 m2 m5 rf2 vf2 of2 (rf i1) (vf i1) (by omega) hnC2 hs2.1 (srt_mo hs2) H.size) (cw_V 2 hw g_OutcomeSet_firstNotLess rfl rfl rfl (hw _ m_108) (hw _ m_620) (hw _ m_622) (hw _ m_17) (by decide +kernel) ⟨Nat.le_of_ble_eq_true rfl, Nat.le_of_ble_eq_true rfl⟩) ⟨fun a U g mk q => by obtain ⟨q0, q1, qP, qK, qD, qN⟩ := q; exact ⟨q0, q1, qP, va_K.moved (u := U) (U := U.calling g mk a) (Vm.Alike.refl U.vm) qK, qD, nw_call qN⟩, va_recv hKc hPc (ci := 3) (q0 := 0) rfl rfl, fun U hU hW => ⟨rfl, by rw [hU], by rw [hU]; exact hPc, va_K.moved hW.alike hKc, hDc.weaken (fun _ _ _ _ => trivial), nw_warm hW hn⟩⟩ rfl rfl hl.1 rfl (lv_room (Nat.le_of_ble_eq_true rfl)) d_OutcomeSet_countMissingIn_25 ⟨Nat.le_of_ble_eq_true rfl, Nat.le_of_ble_eq_true rfl⟩) hS (fun q _ h => hFc q h) hFc ?_
    intro r_1 u t9 H1 locs1 ht9 hvm hw1 hB hz1 hk1 hS1
    obtain ⟨hP1, hK1, hD1⟩ := hB
    rw [ht9] at hP1
    replace hK1 := va_K.moved hvm.symm hK1
    have hPD := join3 hP hD rfl [3, 4, 5, 6] [0, 1, 2] rfl (by rfl) (by decide +kernel) (by decide +kernel) hk1 hFc hP1 hD1
    replace hK : va_K (dC, dI) classes [(k1, .long), (k2, .int), (m1, .long), (m2, .int), (m5, .int)] s := hK.app hK1
    clear hP1 hK1 hD1 hk1 hz1 hFc hKc hDc hPc hvm ht9 hP hS t9 locs H
    have hP : va_P (dC, dI) classes [oc h0 3 [.int ee, .ref h1, .ref h2, .ref h3, .ref h4, .ref h5, .int (nI n), .int sd, .int rd], la h1 k1 C rf, ia h2 k2 C vf, oc o0 3 [.int (nI E), .ref o1, .ref o2, .ref o3, .ref o4, .ref o5, .int (nI n2), .int sd2, .int rd2], la o1 m1 C2 rf2, ia o2 m2 C2 vf2, ia o5 m5 C2 (fun i => nI (of2 i))] H1 := hPD.1
    replace hD : dd A [h0, h1, h2, o0, o1, o2, o5] := dd_of hPD.2 rfl
    clear hPD
    revert H1 locs1
    intro H locs hS hP
    obtain ⟨p9, hp0, hp1, hp2, hp3⟩ := hw1
    refine tp_i (y := nI p9) (hp0) ?_
    have hah := at_has hs2 hp2 hp3
    refine tp_pc (pc' := 28) (by rfl) ?_
    refine lv_istore (lv' := [(4, .int (nI p9)), (3, .int (nI i1)), (2, .int (nI (msN rf vf rf2 vf2 of2 n2 i1))), (0, .ref h0), (1, .ref o0)]) hx hb d_OutcomeSet_countMissingIn_28 hl (by decide) rfl ?_
    clear hl ls
    intro ls hl
    refine lv_aload_n hx hb d_OutcomeSet_countMissingIn_30 rfl (lv_at hl 4 rfl) ?_
    refine lv_iload hx hb d_OutcomeSet_countMissingIn_31 (lv_at hl 0 rfl) ?_
    refine lv_aload_n hx hb d_OutcomeSet_countMissingIn_33 rfl (lv_at hl 3 rfl) ?_
    refine va_get (D := (dC, dI)) (ci := 3) (v := .ref h1) (C := R_OutcomeSet) (T := F_OutcomeSet) (N := 9) hx hb hw i_OutcomeSet hown hK hP 0 rfl rfl 1 (by decide) (hw _ m_379) (fun _ h9 => h9) rfl d_OutcomeSet_countMissingIn_34 ?_
    refine lv_iload_n hx hb d_OutcomeSet_countMissingIn_37 rfl (lv_at hl 1 rfl) ?_
    refine va_lald (D := (dC, dI)) hx hb hK hP 1 0 rfl rfl (i := nI i1) (pk_in i1 C (by omega)) d_OutcomeSet_countMissingIn_38 ?_
    refine tp_l (y := rf i1) (by rw [show (nI i1 : Int32).toNatClampNeg = i1 from pk_cl i1]) ?_
    refine lv_aload_n hx hb d_OutcomeSet_countMissingIn_39 rfl (lv_at hl 3 rfl) ?_
    refine va_get (D := (dC, dI)) (ci := 3) (v := .ref h2) (C := R_OutcomeSet) (T := F_OutcomeSet) (N := 9) hx hb hw i_OutcomeSet hown hK hP 0 rfl rfl 2 (by decide) (hw _ m_380) (fun _ h9 => h9) rfl d_OutcomeSet_countMissingIn_40 ?_
    refine lv_iload_n hx hb d_OutcomeSet_countMissingIn_43 rfl (lv_at hl 1 rfl) ?_
    refine va_iald (D := (dC, dI)) hx hb hK hP 2 1 rfl rfl (i := nI i1) (pk_in i1 C (by omega)) d_OutcomeSet_countMissingIn_44 ?_
    refine tp_i (y := vf i1) (by rw [show (nI i1 : Int32).toNatClampNeg = i1 from pk_cl i1]) ?_
    obtain ⟨hPc, hDc, hFc⟩ := cut3 (wc := [oc o0 3 [.int (nI E), .ref o1, .ref o2, .ref o3, .ref o4, .ref o5, .int (nI n2), .int sd2, .int rd2], la o1 m1 C2 rf2, ia o2 m2 C2 vf2, ia o5 m5 C2 (fun i => nI (of2 i))]) hP hD rfl hS hA [3, 4, 5, 6] (by decide +kernel) rfl
    have hKc := hK.sub (tys' := [(m1, .long), (m2, .int), (m5, .int)]) [2, 3, 4] rfl
    refine va_calli (va_runV (As := [.int (nI p9), .long (rf i1), .int (vf i1)]) (rest := []) ⟨hx, hb, hml, hown, hw⟩ (gen_OutcomeSet_isAt l dC dI o0 o1 o2 o3 o4 o5 E n2 C2 sd2 rd2 m1 m2 m5 rf2 vf2 of2 (rf i1) (vf i1) p9 (by omega) hnC2 hs2.1 hp1 H.size) (cw_V 3 hw g_OutcomeSet_isAt rfl rfl rfl (hw _ m_108) (hw _ m_624) (hw _ m_626) (hw _ m_18) (by decide +kernel) ⟨Nat.le_of_ble_eq_true rfl, Nat.le_of_ble_eq_true rfl⟩) ⟨fun a U g mk q => by obtain ⟨q0, q1, qP, qK, qD, qN⟩ := q; exact ⟨q0, q1, qP, va_K.moved (u := U) (U := U.calling g mk a) (Vm.Alike.refl U.vm) qK, qD, nw_call qN⟩, va_recv hKc hPc (ci := 3) (q0 := 0) rfl rfl, fun U hU hW => ⟨rfl, by rw [hU], by rw [hU]; exact hPc, va_K.moved hW.alike hKc, hDc.weaken (fun _ _ _ _ => trivial), nw_warm hW hn⟩⟩ rfl rfl hl.1 rfl (lv_room (Nat.le_of_ble_eq_true rfl)) d_OutcomeSet_countMissingIn_45 ⟨Nat.le_of_ble_eq_true rfl, Nat.le_of_ble_eq_true rfl⟩) hS (fun q _ h => hFc q h) hFc ?_
    intro r_2 u t9 H1 locs1 ht9 hvm hw1 hB hz1 hk1 hS1
    obtain ⟨hP1, hK1, hD1⟩ := hB
    rw [ht9] at hP1
    replace hK1 := va_K.moved hvm.symm hK1
    have hPD := join3 hP hD rfl [3, 4, 5, 6] [0, 1, 2] rfl (by rfl) (by decide +kernel) (by decide +kernel) hk1 hFc hP1 hD1
    replace hK : va_K (dC, dI) classes [(k1, .long), (k2, .int), (m1, .long), (m2, .int), (m5, .int)] s := hK.app hK1
    clear hP1 hK1 hD1 hk1 hz1 hFc hKc hDc hPc hvm ht9 hP hS t9 locs H
    have hP : va_P (dC, dI) classes [oc h0 3 [.int ee, .ref h1, .ref h2, .ref h3, .ref h4, .ref h5, .int (nI n), .int sd, .int rd], la h1 k1 C rf, ia h2 k2 C vf, oc o0 3 [.int (nI E), .ref o1, .ref o2, .ref o3, .ref o4, .ref o5, .int (nI n2), .int sd2, .int rd2], la o1 m1 C2 rf2, ia o2 m2 C2 vf2, ia o5 m5 C2 (fun i => nI (of2 i))] H1 := hPD.1
    replace hD : dd A [h0, h1, h2, o0, o1, o2, o5] := dd_of hPD.2 rfl
    clear hPD
    revert H1 locs1
    intro H locs hS hP
    refine tp_i (y := (if hasO rf2 vf2 of2 (rf i1) (vf i1) n2 = true then 1 else 0)) (by rcases hw1 with h | h; (rw [h.1, if_pos (hah.mp h.2)]); (rw [h.1, if_neg (fun q => h.2 (hah.mpr q))])) ?_
    clear hw1 r_2 u
    by_cases hho : hasO rf2 vf2 of2 (rf i1) (vf i1) n2 = true
    · skip
      rw [if_pos hho]
      have e9 : msN rf vf rf2 vf2 of2 n2 (i1 + 1) = msN rf vf rf2 vf2 of2 n2 i1 := by rw [msN, if_pos hho]
      rw [← e9] at hl
      refine tp_pc (pc' := 48) (by rfl) ?_
      refine lv_if_ne (tgt := 54) hx hb d_OutcomeSet_countMissingIn_48 (by decide) (fun c_3 => ?_) (fun c_3 => absurd c_3 (by decide))
      refine tp_pc (pc' := 54) (by rfl) ?_
      refine lv_iinc (v := nI (i1 + 1)) (lv' := [(3, .int (nI (i1 + 1))), (4, .int (nI p9)), (2, .int (nI (msN rf vf rf2 vf2 of2 n2 (i1 + 1)))), (0, .ref h0), (1, .ref o0)]) hx hb d_OutcomeSet_countMissingIn_54 hl (k := 1) rfl (by exact nI_1 i1) (by decide) rfl ?_
      clear hl ls
      intro ls hl
      refine lv_goto (tgt := 4) hx hb d_OutcomeSet_countMissingIn_57 (by decide) ?_
      refine tp_pc (pc' := 4) (by rfl) ?_
      obtain ⟨hP8, -, -⟩ := cut3 (wc := [oc h0 3 [.int ee, .ref h1, .ref h2, .ref h3, .ref h4, .ref h5, .int (nI n), .int sd, .int rd], la h1 k1 C rf, ia h2 k2 C vf, oc o0 3 [.int (nI E), .ref o1, .ref o2, .ref o3, .ref o4, .ref o5, .int (nI n2), .int sd2, .int rd2], la o1 m1 C2 rf2, ia o2 m2 C2 vf2, ia o5 m5 C2 (fun i => nI (of2 i))]) hP hD rfl hS hA [0, 1, 2, 3, 4, 5, 6] (by decide +kernel) rfl
      exact ih_i1 _ _ _ ⟨hP8, hS, lv_sub hl [0, 2, 3, 4] rfl⟩
    · skip
      rw [if_neg hho]
      have e9 : msN rf vf rf2 vf2 of2 n2 (i1 + 1) = msN rf vf rf2 vf2 of2 n2 i1 + 1 := by rw [msN, if_neg hho]
      refine tp_pc (pc' := 48) (by rfl) ?_
      refine lv_if_ne (tgt := 54) hx hb d_OutcomeSet_countMissingIn_48 (by decide) (fun c_4 => absurd c_4 (by decide)) (fun c_4 => ?_)
      refine tp_pc (pc' := 51) (by rfl) ?_
      refine lv_iinc (v := nI (msN rf vf rf2 vf2 of2 n2 i1 + 1)) (lv' := [(2, .int (nI (msN rf vf rf2 vf2 of2 n2 i1 + 1))), (4, .int (nI p9)), (3, .int (nI i1)), (0, .ref h0), (1, .ref o0)]) hx hb d_OutcomeSet_countMissingIn_51 hl (k := 2) rfl (by exact nI_1 (msN rf vf rf2 vf2 of2 n2 i1)) (by decide) rfl ?_
      clear hl ls
      intro ls hl
      rw [← e9] at hl
      replace hl : lv_has ls 5 [(2, .int (nI (msN rf vf rf2 vf2 of2 n2 (i1 + 1)))), (4, .int (nI p9)), (3, .int (nI i1)), (0, .ref h0), (1, .ref o0)] := hl
      refine lv_iinc (v := nI (i1 + 1)) (lv' := [(3, .int (nI (i1 + 1))), (2, .int (nI (msN rf vf rf2 vf2 of2 n2 (i1 + 1)))), (4, .int (nI p9)), (0, .ref h0), (1, .ref o0)]) hx hb d_OutcomeSet_countMissingIn_54 hl (k := 2) rfl (by exact nI_1 i1) (by decide) rfl ?_
      clear hl ls
      intro ls hl
      refine lv_goto (tgt := 4) hx hb d_OutcomeSet_countMissingIn_57 (by decide) ?_
      refine tp_pc (pc' := 4) (by rfl) ?_
      obtain ⟨hP8, -, -⟩ := cut3 (wc := [oc h0 3 [.int ee, .ref h1, .ref h2, .ref h3, .ref h4, .ref h5, .int (nI n), .int sd, .int rd], la h1 k1 C rf, ia h2 k2 C vf, oc o0 3 [.int (nI E), .ref o1, .ref o2, .ref o3, .ref o4, .ref o5, .int (nI n2), .int sd2, .int rd2], la o1 m1 C2 rf2, ia o2 m2 C2 vf2, ia o5 m5 C2 (fun i => nI (of2 i))]) hP hD rfl hS hA [0, 1, 2, 3, 4, 5, 6] (by decide +kernel) rfl
      exact ih_i1 _ _ _ ⟨hP8, hS, lv_sub hl [0, 1, 3, 4] rfl⟩
  · intro H locs ls hI
    obtain ⟨hP, hS, hl⟩ := hI
    refine lv_iload_n hx hb d_OutcomeSet_countMissingIn_4 rfl (lv_at hl 0 rfl) ?_
    refine lv_aload_n hx hb d_OutcomeSet_countMissingIn_5 rfl (lv_at hl 2 rfl) ?_
    refine va_get (D := (dC, dI)) (ci := 3) (v := .int (nI n)) (C := R_OutcomeSet) (T := F_OutcomeSet) (N := 9) hx hb hw i_OutcomeSet hown hK hP 0 rfl rfl 6 (by decide) (hw _ m_384) (fun _ h9 => h9) rfl d_OutcomeSet_countMissingIn_6 ?_
    refine lv_icmp_ge (tgt := 60) hx hb d_OutcomeSet_countMissingIn_9 (by decide) (fun c9 => ?_) (fun c9 => absurd (nI_le (Nat.le_refl _) (by omega)) c9)
    refine tp_pc (pc' := 60) (by rfl) ?_
    refine lv_iload_n hx hb d_OutcomeSet_countMissingIn_60 rfl (lv_at hl 1 rfl) ?_
    obtain ⟨hP9, hD9, -⟩ := cut3 (wc := [oc h0 3 [.int ee, .ref h1, .ref h2, .ref h3, .ref h4, .ref h5, .int (nI n), .int sd, .int rd], la h1 k1 C rf, ia h2 k2 C vf, oc o0 3 [.int (nI E), .ref o1, .ref o2, .ref o3, .ref o4, .ref o5, .int (nI n2), .int sd2, .int rd2], la o1 m1 C2 rf2, ia o2 m2 C2 vf2, ia o5 m5 C2 (fun i => nI (of2 i))]) hP hD rfl hS hA [0, 1, 2, 3, 4, 5, 6] (by decide +kernel) rfl
    have hK9 := hK.sub (tys' := []) [] rfl
    refine W.widen (k := 0) (n := 0) (by exact Nat.le_of_ble_eq_true rfl) (by exact Nat.le_of_ble_eq_true rfl) ?_
    exact W.iret (v := (nI (msN rf vf rf2 vf2 of2 n2 n))) hx hb hr (fun t9 ht9 hW => ⟨⟨nI (msN rf vf rf2 vf2 of2 n2 n), (), rfl, rfl, by rw [ht9]; exact hP9, va_K.moved hW.alike hK9, hD9⟩, hS.F ht9⟩) hS.2.2 d_OutcomeSet_countMissingIn_61
