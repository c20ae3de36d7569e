/-- a value of seven bits in a key, 64 taken off -/
def dig9 (k : Int64) (b : Nat) : Int32 := ((k >>> ((nI (7 * b)).toInt64 &&& 63)) &&& 127).toInt32 - 64
def valO (n : Nat) (rf : Nat → Int64) (vf : Nat → Int32) (of : Nat → Nat) (i9 w9 : Int32) : Int32 :=
  if ¬ i9 < 0 ∧ i9.toNatClampNeg < n ∧ ¬ w9 < 0 ∧ w9.toNatClampNeg < 11 then
    (if w9.toNatClampNeg < 8 then dig9 (rf (of i9.toNatClampNeg)) (7 - w9.toNatClampNeg) else dig9 (vf (of i9.toNatClampNeg)).toInt64 (10 - w9.toNatClampNeg)) else -1000
def stpO (E n : Nat) (ln : Nat → Nat) (sf : Nat → Int32) (of : Nat → Nat) (i9 w9 : Int32) : Int32 :=
  if ¬ i9 < 0 ∧ i9.toNatClampNeg < n ∧ ¬ w9 < 0 ∧ w9.toNatClampNeg < ln (of i9.toNatClampNeg) then sf (of i9.toNatClampNeg * E + w9.toNatClampNeg) else -1
set_option maxHeartbeats 4000000 in
set_option maxRecDepth 100000 in
theorem gen_OutcomeSet_valueOf (l : Launch) (dC : Nat → ClassId) (dI : Nat → Nat → Nat) (h0 : Nat) (ad : Nat → Nat) (ck : Nat → ClassId) (E n C : Nat) (rf : Nat → Int64) (vf lf sf : Nat → Int32) (of : Nat → Nat) (sd rd : Int32) (i9 w9 : Int32) (hC : C ≤ 65536) (hnC : n ≤ C) (hE2 : E ≤ 16) (hs : srt n rf vf of) (sz : Nat) : Met l y_OutcomeSet_valueOf w_OutcomeSet_valueOf ({ frames := 0, cells := 0, slots := 0, locals := 0 }) (va_Pc [.ref h0, .int i9, .int w9] (fun U => U.heap.size = sz ∧ va_P (dC, dI) classes [oc h0 3 [.int (nI E), .ref (ad 1), .ref (ad 2), .ref (ad 3), .ref (ad 4), .ref (ad 5), .int (nI n), .int sd, .int rd], la (ad 1) (ck 1) C rf, ia (ad 2) (ck 2) C vf, ia (ad 3) (ck 3) C lf, ia (ad 4) (ck 4) (C * E) sf, ia (ad 5) (ck 5) C (fun i => nI (of i))] U.heap ∧ va_K (dC, dI) classes [((ck 1), .long), ((ck 2), .int), ((ck 3), .int), ((ck 4), .int), ((ck 5), .int)] U ∧ va_D (fun _ => True) [oc h0 3 [.int (nI E), .ref (ad 1), .ref (ad 2), .ref (ad 3), .ref (ad 4), .ref (ad 5), .int (nI n), .int sd, .int rd], la (ad 1) (ck 1) C rf, ia (ad 2) (ck 2) C vf, ia (ad 3) (ck 3) C lf, ia (ad 4) (ck 4) (C * E) sf, ia (ad 5) (ck 5) C (fun i => nI (of i))] ∧ nw U)) (va_Qi (fun (r : Int32) (_ : Unit) => r = valO n rf vf of i9 w9) (fun _ t9 => va_P (dC, dI) classes [oc h0 3 [.int (nI E), .ref (ad 1), .ref (ad 2), .ref (ad 3), .ref (ad 4), .ref (ad 5), .int (nI n), .int sd, .int rd], la (ad 1) (ck 1) C rf, ia (ad 2) (ck 2) C vf, ia (ad 3) (ck 3) C lf, ia (ad 4) (ck 4) (C * E) sf, ia (ad 5) (ck 5) C (fun i => nI (of i))] t9.heap ∧ va_K (dC, dI) classes [] t9 ∧ va_D (va_A [oc h0 3 [.int (nI E), .ref (ad 1), .ref (ad 2), .ref (ad 3), .ref (ad 4), .ref (ad 5), .int (nI n), .int sd, .int rd], la (ad 1) (ck 1) C rf, ia (ad 2) (ck 2) C vf, ia (ad 3) (ck 3) C lf, ia (ad 4) (ck 4) (C * E) sf, ia (ad 5) (ck 5) C (fun i => nI (of i))] sz) [oc h0 3 [.int (nI E), .ref (ad 1), .ref (ad 2), .ref (ad 3), .ref (ad 4), .ref (ad 5), .int (nI n), .int sd, .int rd], la (ad 1) (ck 1) C rf, ia (ad 2) (ck 2) C vf, ia (ad 3) (ck 3) C lf, ia (ad 4) (ck 4) (C * E) sf, ia (ad 5) (ck 5) C (fun i => nI (of i))]) (va_A [oc h0 3 [.int (nI E), .ref (ad 1), .ref (ad 2), .ref (ad 3), .ref (ad 4), .ref (ad 5), .int (nI n), .int sd, .int rd], la (ad 1) (ck 1) C rf, ia (ad 2) (ck 2) C vf, ia (ad 3) (ck 3) C lf, ia (ad 4) (ck 4) (C * E) sf, ia (ad 5) (ck 5) C (fun i => nI (of i))] sz)) 0 0 (va_A [oc h0 3 [.int (nI E), .ref (ad 1), .ref (ad 2), .ref (ad 3), .ref (ad 4), .ref (ad 5), .int (nI n), .int sd, .int rd], la (ad 1) (ck 1) C rf, ia (ad 2) (ck 2) C vf, ia (ad 3) (ck 3) C lf, ia (ad 4) (ck 4) (C * E) sf, ia (ad 5) (ck 5) C (fun i => nI (of i))] sz) := by
  refine Met.ofW (cc := b_OutcomeSet_valueOf) (maxL := 7) (ret := (some .int)) (by decide) rfl ?_
  intro p e0 s m args below meth c s₁ B hml hv
  obtain ⟨rfl, hsz, hP, hK, hD0, hn⟩ := hv
  have hx := B.exec
  have hb := B.bytes
  have hr := B.returns
  have hw := fun w (h : w ∈ wt) => atoms_spec (ws := w_OutcomeSet_valueOf) B.pre w (List.mem_cons_of_mem _ h)
  have hown : s.vm.findClass R_OutcomeSet = some m.cls := findClass_of_methodNamed B.named
  have hlocks := B.notSynchronized
  subst hsz
  have hD1 := hD0.self (sz := s.heap.size)
  generalize hAe : va_A [oc h0 3 [.int (nI E), .ref (ad 1), .ref (ad 2), .ref (ad 3), .ref (ad 4), .ref (ad 5), .int (nI n), .int sd, .int rd], la (ad 1) (ck 1) C rf, ia (ad 2) (ck 2) C vf, ia (ad 3) (ck 3) C lf, ia (ad 4) (ck 4) (C * E) sf, ia (ad 5) (ck 5) C (fun i => nI (of i))] s.heap.size = A at hD1 ⊢
  have hA : ∀ q : Nat, s.heap.size ≤ q → A q := fun q h => by rw [← hAe]; exact Or.inr h
  have hD : dd A [h0, (ad 1), (ad 2), (ad 3), (ad 4), (ad 5)] := dd_of hD1 rfl
  clear hAe hD0 hD1
  have hS : va_S A s.heap s.heap [] := va_S.rf
  replace hP : va_P (dC, dI) classes [oc h0 3 [.int (nI E), .ref (ad 1), .ref (ad 2), .ref (ad 3), .ref (ad 4), .ref (ad 5), .int (nI n), .int sd, .int rd], la (ad 1) (ck 1) C rf, ia (ad 2) (ck 2) C vf, ia (ad 3) (ck 3) C lf, ia (ad 4) (ck 4) (C * E) sf, ia (ad 5) (ck 5) C (fun i => nI (of i))] s.heap := hP
  have hl := lv_entry ([.ref h0, .int i9, .int w9]) (n := 7) (Nat.le_of_ble_eq_true rfl)
  rw [lg_entry_eq]
  generalize (lg_sl ([.ref h0, .int i9, .int w9]) ++ List.replicate (7 - (lg_sl ([.ref h0, .int i9, .int w9])).length) Slot.unset).toArray = ls at hl ⊢
  replace hl : lv_has ls 7 [(0, .ref h0), (1, .int i9), (2, .int w9)] := hl
  refine lv_iload_n hx hb d_OutcomeSet_valueOf_0 rfl (lv_at hl 1 rfl) ?_
  refine lv_if_lt (tgt := 22) hx hb d_OutcomeSet_valueOf_1 (by decide) (fun c1 => ?_) (fun c1 => ?_)
  · skip
    refine tp_pc (pc' := 22) (by rfl) ?_
    refine lv_sipush (v := (-1000)) hx hb d_OutcomeSet_valueOf_22 (by decide) ?_
    obtain ⟨hP9, hD9, -⟩ := cut3 (wc := [oc h0 3 [.int (nI E), .ref (ad 1), .ref (ad 2), .ref (ad 3), .ref (ad 4), .ref (ad 5), .int (nI n), .int sd, .int rd], la (ad 1) (ck 1) C rf, ia (ad 2) (ck 2) C vf, ia (ad 3) (ck 3) C lf, ia (ad 4) (ck 4) (C * E) sf, ia (ad 5) (ck 5) C (fun i => nI (of i))]) hP hD rfl hS hA [0, 1, 2, 3, 4, 5] (by decide +kernel) rfl
    have hK9 := hK.sub (tys' := []) [] rfl
    refine W.widen (k := 0) (n := 0) (by exact Nat.le_of_ble_eq_true rfl) (by exact Nat.le_of_ble_eq_true rfl) ?_
    exact W.iret (v := (-1000)) hx hb hr (fun t9 ht9 hW => ⟨⟨(-1000), (), rfl, by rw [valO, if_neg (fun q => q.1 c1)], by rw [ht9]; exact hP9, va_K.moved hW.alike hK9, hD9⟩, hS.F ht9⟩) hS.2.2 d_OutcomeSet_valueOf_25
  · skip
    obtain ⟨j, hj, ej⟩ := nI_of c1
    subst ej
    replace hl : lv_has ls 7 [(0, .ref h0), (1, .int (nI j)), (2, .int w9)] := hl
    refine tp_pc (pc' := 4) (by rfl) ?_
    refine lv_iload_n hx hb d_OutcomeSet_valueOf_4 rfl (lv_at hl 1 rfl) ?_
    refine lv_aload_n hx hb d_OutcomeSet_valueOf_5 rfl (lv_at hl 0 rfl) ?_
    refine va_get (D := (dC, dI)) (ci := 3) (v := .int (nI n)) (C := R_OutcomeSet) (T := F_OutcomeSet) (N := 9) hx hb hw i_OutcomeSet hown hK hP 0 rfl rfl 6 (by decide) (hw _ m_384) (fun _ h9 => h9) rfl d_OutcomeSet_valueOf_6 ?_
    refine lv_icmp_ge (tgt := 22) hx hb d_OutcomeSet_valueOf_9 (by decide) (fun c2 => ?_) (fun c2 => ?_)
    · skip
      have hc2 : n ≤ j := (nI_leI (a := n) (b := j) (by omega) (by omega)).mp c2
      refine tp_pc (pc' := 22) (by rfl) ?_
      refine lv_sipush (v := (-1000)) hx hb d_OutcomeSet_valueOf_22 (by decide) ?_
      obtain ⟨hP9, hD9, -⟩ := cut3 (wc := [oc h0 3 [.int (nI E), .ref (ad 1), .ref (ad 2), .ref (ad 3), .ref (ad 4), .ref (ad 5), .int (nI n), .int sd, .int rd], la (ad 1) (ck 1) C rf, ia (ad 2) (ck 2) C vf, ia (ad 3) (ck 3) C lf, ia (ad 4) (ck 4) (C * E) sf, ia (ad 5) (ck 5) C (fun i => nI (of i))]) hP hD rfl hS hA [0, 1, 2, 3, 4, 5] (by decide +kernel) rfl
      have hK9 := hK.sub (tys' := []) [] rfl
      refine W.widen (k := 0) (n := 0) (by exact Nat.le_of_ble_eq_true rfl) (by exact Nat.le_of_ble_eq_true rfl) ?_
      exact W.iret (v := (-1000)) hx hb hr (fun t9 ht9 hW => ⟨⟨(-1000), (), rfl, by rw [valO, if_neg (fun q => absurd q.2.1 (by rw [nI_clamp hj]; omega))], by rw [ht9]; exact hP9, va_K.moved hW.alike hK9, hD9⟩, hS.F ht9⟩) hS.2.2 d_OutcomeSet_valueOf_25
    · skip
      have hc2 : ¬ (n ≤ j) := fun q9 => c2 ((nI_leI (a := n) (b := j) (by omega) (by omega)).mpr q9)
      refine tp_pc (pc' := 12) (by rfl) ?_
      refine lv_iload_n hx hb d_OutcomeSet_valueOf_12 rfl (lv_at hl 2 rfl) ?_
      refine lv_if_lt (tgt := 22) hx hb d_OutcomeSet_valueOf_13 (by decide) (fun c3 => ?_) (fun c3 => ?_)
      · skip
        refine tp_pc (pc' := 22) (by rfl) ?_
        refine lv_sipush (v := (-1000)) hx hb d_OutcomeSet_valueOf_22 (by decide) ?_
        obtain ⟨hP9, hD9, -⟩ := cut3 (wc := [oc h0 3 [.int (nI E), .ref (ad 1), .ref (ad 2), .ref (ad 3), .ref (ad 4), .ref (ad 5), .int (nI n), .int sd, .int rd], la (ad 1) (ck 1) C rf, ia (ad 2) (ck 2) C vf, ia (ad 3) (ck 3) C lf, ia (ad 4) (ck 4) (C * E) sf, ia (ad 5) (ck 5) C (fun i => nI (of i))]) hP hD rfl hS hA [0, 1, 2, 3, 4, 5] (by decide +kernel) rfl
        have hK9 := hK.sub (tys' := []) [] rfl
        refine W.widen (k := 0) (n := 0) (by exact Nat.le_of_ble_eq_true rfl) (by exact Nat.le_of_ble_eq_true rfl) ?_
        exact W.iret (v := (-1000)) hx hb hr (fun t9 ht9 hW => ⟨⟨(-1000), (), rfl, by rw [valO, if_neg (fun q => q.2.2.1 c3)], by rw [ht9]; exact hP9, va_K.moved hW.alike hK9, hD9⟩, hS.F ht9⟩) hS.2.2 d_OutcomeSet_valueOf_25
      · skip
        obtain ⟨k, hk, ek⟩ := nI_of c3
        subst ek
        replace hl : lv_has ls 7 [(0, .ref h0), (1, .int (nI j)), (2, .int (nI k))] := hl
        refine tp_pc (pc' := 16) (by rfl) ?_
        refine lv_iload_n hx hb d_OutcomeSet_valueOf_16 rfl (lv_at hl 2 rfl) ?_
        refine lv_bipush (v := 11) hx hb d_OutcomeSet_valueOf_17 (by decide) ?_
        refine lv_icmp_lt (tgt := 26) hx hb d_OutcomeSet_valueOf_19 (by decide) (fun c4 => ?_) (fun c4 => ?_)
        · skip
          have hc4 : k < 11 := (nI_ltI (a := k) (b := 11) (by omega) (by omega)).mp c4
          have hoj := hs.1 j (by omega)
          rcases (by omega : k = 0 ∨ k = 1 ∨ k = 2 ∨ k = 3 ∨ k = 4 ∨ k = 5 ∨ k = 6 ∨ k = 7 ∨ k = 8 ∨ k = 9 ∨ k = 10) with rfl | rfl | rfl | rfl | rfl | rfl | rfl | rfl | rfl | rfl | rfl
          · skip
            replace hl : lv_has ls 7 [(0, .ref h0), (1, .int (nI j)), (2, .int 0)] := hl
            refine tp_pc (pc' := 26) (by rfl) ?_
            refine lv_aload_n hx hb d_OutcomeSet_valueOf_26 rfl (lv_at hl 0 rfl) ?_
            refine va_get (D := (dC, dI)) (ci := 3) (v := .ref (ad 5)) (C := R_OutcomeSet) (T := F_OutcomeSet) (N := 9) hx hb hw i_OutcomeSet hown hK hP 0 rfl rfl 5 (by decide) (hw _ m_383) (fun _ h9 => h9) rfl d_OutcomeSet_valueOf_27 ?_
            refine lv_iload_n hx hb d_OutcomeSet_valueOf_30 rfl (lv_at hl 1 rfl) ?_
            refine va_iald (D := (dC, dI)) hx hb hK hP 5 4 rfl rfl (i := nI j) (pk_in j C (by omega)) d_OutcomeSet_valueOf_31 ?_
            refine tp_i (y := nI (of j)) (by rw [show (nI j : Int32).toNatClampNeg = j from pk_cl j]) ?_
            refine lv_istore_n (lv' := [(3, .int (nI (of j))), (0, .ref h0), (1, .int (nI j)), (2, .int 0)]) hx hb d_OutcomeSet_valueOf_32 rfl hl (by decide) rfl ?_
            clear hl ls
            intro ls hl
            refine lv_iload_n hx hb d_OutcomeSet_valueOf_33 rfl (lv_at hl 3 rfl) ?_
            refine lv_bipush (v := 8) hx hb d_OutcomeSet_valueOf_34 (by decide) ?_
            refine lv_icmp_ge (tgt := 48) hx hb d_OutcomeSet_valueOf_36 (by decide) (fun c_1 => absurd c_1 (by decide)) (fun c_1 => ?_)
            refine tp_pc (pc' := 39) (by rfl) ?_
            refine lv_aload_n hx hb d_OutcomeSet_valueOf_39 rfl (lv_at hl 1 rfl) ?_
            refine va_get (D := (dC, dI)) (ci := 3) (v := .ref (ad 1)) (C := R_OutcomeSet) (T := F_OutcomeSet) (N := 9) hx hb hw i_OutcomeSet hown hK hP 0 rfl rfl 1 (by decide) (hw _ m_379) (fun _ h9 => h9) rfl d_OutcomeSet_valueOf_40 ?_
            refine lv_iload_n hx hb d_OutcomeSet_valueOf_43 rfl (lv_at hl 0 rfl) ?_
            refine va_lald (D := (dC, dI)) hx hb hK hP 1 0 rfl rfl (i := nI (of j)) (pk_in (of j) C (by omega)) d_OutcomeSet_valueOf_44 ?_
            refine tp_l (y := rf (of j)) (by rw [show (nI (of j) : Int32).toNatClampNeg = of j from pk_cl (of j)]) ?_
            refine lv_goto (tgt := 55) hx hb d_OutcomeSet_valueOf_45 (by decide) ?_
            refine tp_pc (pc' := 55) (by rfl) ?_
            refine lv_lstore (lv' := [(4, .long (rf (of j))), (3, .int (nI (of j))), (0, .ref h0), (1, .int (nI j)), (2, .int 0)]) hx hb d_OutcomeSet_valueOf_55 hl (by decide) rfl ?_
            clear hl ls
            intro ls hl
            refine lv_iload_n hx hb d_OutcomeSet_valueOf_57 rfl (lv_at hl 4 rfl) ?_
            refine lv_bipush (v := 8) hx hb d_OutcomeSet_valueOf_58 (by decide) ?_
            refine lv_icmp_ge (tgt := 68) hx hb d_OutcomeSet_valueOf_60 (by decide) (fun c_2 => absurd c_2 (by decide)) (fun c_2 => ?_)
            refine tp_pc (pc' := 63) (by rfl) ?_
            refine lv_bipush (v := 8) hx hb d_OutcomeSet_valueOf_63 (by decide) ?_
            refine lv_goto (tgt := 70) hx hb d_OutcomeSet_valueOf_65 (by decide) ?_
            refine tp_pc (pc' := 70) (by rfl) ?_
            refine lv_iconst (v := 1) hx hb d_OutcomeSet_valueOf_70 (by decide) ?_
            refine lv_isub hx hb d_OutcomeSet_valueOf_71 ?_
            refine tp_i (y := 7) (by first | rfl | decide) ?_
            refine lv_iload_n hx hb d_OutcomeSet_valueOf_72 rfl (lv_at hl 4 rfl) ?_
            refine lv_isub hx hb d_OutcomeSet_valueOf_73 ?_
            refine tp_i (y := 7) (by first | rfl | decide) ?_
            refine lv_istore (lv' := [(6, .int 7), (4, .long (rf (of j))), (3, .int (nI (of j))), (0, .ref h0), (1, .int (nI j)), (2, .int 0)]) hx hb d_OutcomeSet_valueOf_74 hl (by decide) rfl ?_
            clear hl ls
            intro ls hl
            refine lv_lload hx hb d_OutcomeSet_valueOf_76 (lv_at hl 1 rfl) ?_
            refine lv_bipush (v := 7) hx hb d_OutcomeSet_valueOf_78 (by decide) ?_
            refine lv_iload hx hb d_OutcomeSet_valueOf_80 (lv_at hl 0 rfl) ?_
            refine lv_imul hx hb d_OutcomeSet_valueOf_82 ?_
            refine tp_i (y := 49) (by first | rfl | decide) ?_
            refine lv_lshr (v := (rf (of j)) >>> ((49 : Int32).toInt64 &&& 63)) hx hb d_OutcomeSet_valueOf_83 rfl ?_
            refine lv_ldc2 hx hb hown (hw _ m_724) d_OutcomeSet_valueOf_84 ?_
            refine lv_land hx hb d_OutcomeSet_valueOf_87 ?_
            refine tp_l (y := ((rf (of j)) >>> ((49 : Int32).toInt64 &&& 63)) &&& 127) rfl ?_
            refine lv_l2i (v := (((rf (of j)) >>> ((49 : Int32).toInt64 &&& 63)) &&& 127).toInt32) hx hb d_OutcomeSet_valueOf_88 rfl ?_
            refine lv_bipush (v := 64) hx hb d_OutcomeSet_valueOf_89 (by decide) ?_
            refine lv_isub hx hb d_OutcomeSet_valueOf_91 ?_
            refine tp_i (y := ((((rf (of j)) >>> ((49 : Int32).toInt64 &&& 63)) &&& 127).toInt32) - 64) rfl ?_
            refine tp_i (y := dig9 (rf (of j)) 7) rfl ?_
            obtain ⟨hP9, hD9, -⟩ := cut3 (wc := [oc h0 3 [.int (nI E), .ref (ad 1), .ref (ad 2), .ref (ad 3), .ref (ad 4), .ref (ad 5), .int (nI n), .int sd, .int rd], la (ad 1) (ck 1) C rf, ia (ad 2) (ck 2) C vf, ia (ad 3) (ck 3) C lf, ia (ad 4) (ck 4) (C * E) sf, ia (ad 5) (ck 5) C (fun i => nI (of i))]) hP hD rfl hS hA [0, 1, 2, 3, 4, 5] (by decide +kernel) rfl
            have hK9 := hK.sub (tys' := []) [] rfl
            refine W.widen (k := 0) (n := 0) (by exact Nat.le_of_ble_eq_true rfl) (by exact Nat.le_of_ble_eq_true rfl) ?_
            exact W.iret (v := (dig9 (rf (of j)) 7)) hx hb hr (fun t9 ht9 hW => ⟨⟨dig9 (rf (of j)) 7, (), rfl, by rw [valO, if_pos ⟨c1, by rw [nI_clamp hj]; omega, c3, by decide⟩, nI_clamp hj]; rfl, by rw [ht9]; exact hP9, va_K.moved hW.alike hK9, hD9⟩, hS.F ht9⟩) hS.2.2 d_OutcomeSet_valueOf_92
          · skip
            replace hl : lv_has ls 7 [(0, .ref h0), (1, .int (nI j)), (2, .int 1)] := hl
            refine tp_pc (pc' := 26) (by rfl) ?_
            refine lv_aload_n hx hb d_OutcomeSet_valueOf_26 rfl (lv_at hl 0 rfl) ?_
            refine va_get (D := (dC, dI)) (ci := 3) (v := .ref (ad 5)) (C := R_OutcomeSet) (T := F_OutcomeSet) (N := 9) hx hb hw i_OutcomeSet hown hK hP 0 rfl rfl 5 (by decide) (hw _ m_383) (fun _ h9 => h9) rfl d_OutcomeSet_valueOf_27 ?_
            refine lv_iload_n hx hb d_OutcomeSet_valueOf_30 rfl (lv_at hl 1 rfl) ?_
            refine va_iald (D := (dC, dI)) hx hb hK hP 5 4 rfl rfl (i := nI j) (pk_in j C (by omega)) d_OutcomeSet_valueOf_31 ?_
            refine tp_i (y := nI (of j)) (by rw [show (nI j : Int32).toNatClampNeg = j from pk_cl j]) ?_
            refine lv_istore_n (lv' := [(3, .int (nI (of j))), (0, .ref h0), (1, .int (nI j)), (2, .int 1)]) hx hb d_OutcomeSet_valueOf_32 rfl hl (by decide) rfl ?_
            clear hl ls
            intro ls hl
            refine lv_iload_n hx hb d_OutcomeSet_valueOf_33 rfl (lv_at hl 3 rfl) ?_
            refine lv_bipush (v := 8) hx hb d_OutcomeSet_valueOf_34 (by decide) ?_
            refine lv_icmp_ge (tgt := 48) hx hb d_OutcomeSet_valueOf_36 (by decide) (fun c_3 => absurd c_3 (by decide)) (fun c_3 => ?_)
            refine tp_pc (pc' := 39) (by rfl) ?_
            refine lv_aload_n hx hb d_OutcomeSet_valueOf_39 rfl (lv_at hl 1 rfl) ?_
            refine va_get (D := (dC, dI)) (ci := 3) (v := .ref (ad 1)) (C := R_OutcomeSet) (T := F_OutcomeSet) (N := 9) hx hb hw i_OutcomeSet hown hK hP 0 rfl rfl 1 (by decide) (hw _ m_379) (fun _ h9 => h9) rfl d_OutcomeSet_valueOf_40 ?_
            refine lv_iload_n hx hb d_OutcomeSet_valueOf_43 rfl (lv_at hl 0 rfl) ?_
            refine va_lald (D := (dC, dI)) hx hb hK hP 1 0 rfl rfl (i := nI (of j)) (pk_in (of j) C (by omega)) d_OutcomeSet_valueOf_44 ?_
            refine tp_l (y := rf (of j)) (by rw [show (nI (of j) : Int32).toNatClampNeg = of j from pk_cl (of j)]) ?_
            refine lv_goto (tgt := 55) hx hb d_OutcomeSet_valueOf_45 (by decide) ?_
            refine tp_pc (pc' := 55) (by rfl) ?_
            refine lv_lstore (lv' := [(4, .long (rf (of j))), (3, .int (nI (of j))), (0, .ref h0), (1, .int (nI j)), (2, .int 1)]) hx hb d_OutcomeSet_valueOf_55 hl (by decide) rfl ?_
            clear hl ls
            intro ls hl
            refine lv_iload_n hx hb d_OutcomeSet_valueOf_57 rfl (lv_at hl 4 rfl) ?_
            refine lv_bipush (v := 8) hx hb d_OutcomeSet_valueOf_58 (by decide) ?_
            refine lv_icmp_ge (tgt := 68) hx hb d_OutcomeSet_valueOf_60 (by decide) (fun c_4 => absurd c_4 (by decide)) (fun c_4 => ?_)
            refine tp_pc (pc' := 63) (by rfl) ?_
            refine lv_bipush (v := 8) hx hb d_OutcomeSet_valueOf_63 (by decide) ?_
            refine lv_goto (tgt := 70) hx hb d_OutcomeSet_valueOf_65 (by decide) ?_
            refine tp_pc (pc' := 70) (by rfl) ?_
            refine lv_iconst (v := 1) hx hb d_OutcomeSet_valueOf_70 (by decide) ?_
            refine lv_isub hx hb d_OutcomeSet_valueOf_71 ?_
            refine tp_i (y := 7) (by first | rfl | decide) ?_
            refine lv_iload_n hx hb d_OutcomeSet_valueOf_72 rfl (lv_at hl 4 rfl) ?_
            refine lv_isub hx hb d_OutcomeSet_valueOf_73 ?_
            refine tp_i (y := 6) (by first | rfl | decide) ?_
            refine lv_istore (lv' := [(6, .int 6), (4, .long (rf (of j))), (3, .int (nI (of j))), (0, .ref h0), (1, .int (nI j)), (2, .int 1)]) hx hb d_OutcomeSet_valueOf_74 hl (by decide) rfl ?_
            clear hl ls
            intro ls hl
            refine lv_lload hx hb d_OutcomeSet_valueOf_76 (lv_at hl 1 rfl) ?_
            refine lv_bipush (v := 7) hx hb d_OutcomeSet_valueOf_78 (by decide) ?_
            refine lv_iload hx hb d_OutcomeSet_valueOf_80 (lv_at hl 0 rfl) ?_
            refine lv_imul hx hb d_OutcomeSet_valueOf_82 ?_
            refine tp_i (y := 42) (by first | rfl | decide) ?_
            refine lv_lshr (v := (rf (of j)) >>> ((42 : Int32).toInt64 &&& 63)) hx hb d_OutcomeSet_valueOf_83 rfl ?_
            refine lv_ldc2 hx hb hown (hw _ m_724) d_OutcomeSet_valueOf_84 ?_
            refine lv_land hx hb d_OutcomeSet_valueOf_87 ?_
            refine tp_l (y := ((rf (of j)) >>> ((42 : Int32).toInt64 &&& 63)) &&& 127) rfl ?_
            refine lv_l2i (v := (((rf (of j)) >>> ((42 : Int32).toInt64 &&& 63)) &&& 127).toInt32) hx hb d_OutcomeSet_valueOf_88 rfl ?_
            refine lv_bipush (v := 64) hx hb d_OutcomeSet_valueOf_89 (by decide) ?_
            refine lv_isub hx hb d_OutcomeSet_valueOf_91 ?_
            refine tp_i (y := ((((rf (of j)) >>> ((42 : Int32).toInt64 &&& 63)) &&& 127).toInt32) - 64) rfl ?_
            refine tp_i (y := dig9 (rf (of j)) 6) rfl ?_
            obtain ⟨hP9, hD9, -⟩ := cut3 (wc := [oc h0 3 [.int (nI E), .ref (ad 1), .ref (ad 2), .ref (ad 3), .ref (ad 4), .ref (ad 5), .int (nI n), .int sd, .int rd], la (ad 1) (ck 1) C rf, ia (ad 2) (ck 2) C vf, ia (ad 3) (ck 3) C lf, ia (ad 4) (ck 4) (C * E) sf, ia (ad 5) (ck 5) C (fun i => nI (of i))]) hP hD rfl hS hA [0, 1, 2, 3, 4, 5] (by decide +kernel) rfl
            have hK9 := hK.sub (tys' := []) [] rfl
            refine W.widen (k := 0) (n := 0) (by exact Nat.le_of_ble_eq_true rfl) (by exact Nat.le_of_ble_eq_true rfl) ?_
            exact W.iret (v := (dig9 (rf (of j)) 6)) hx hb hr (fun t9 ht9 hW => ⟨⟨dig9 (rf (of j)) 6, (), rfl, by rw [valO, if_pos ⟨c1, by rw [nI_clamp hj]; omega, c3, by decide⟩, nI_clamp hj]; rfl, by rw [ht9]; exact hP9, va_K.moved hW.alike hK9, hD9⟩, hS.F ht9⟩) hS.2.2 d_OutcomeSet_valueOf_92
          · skip
            replace hl : lv_has ls 7 [(0, .ref h0), (1, .int (nI j)), (2, .int 2)] := hl
            refine tp_pc (pc' := 26) (by rfl) ?_
            refine lv_aload_n hx hb d_OutcomeSet_valueOf_26 rfl (lv_at hl 0 rfl) ?_
            refine va_get (D := (dC, dI)) (ci := 3) (v := .ref (ad 5)) (C := R_OutcomeSet) (T := F_OutcomeSet) (N := 9) hx hb hw i_OutcomeSet hown hK hP 0 rfl rfl 5 (by decide) (hw _ m_383) (fun _ h9 => h9) rfl d_OutcomeSet_valueOf_27 ?_
            refine lv_iload_n hx hb d_OutcomeSet_valueOf_30 rfl (lv_at hl 1 rfl) ?_
            refine va_iald (D := (dC, dI)) hx hb hK hP 5 4 rfl rfl (i := nI j) (pk_in j C (by omega)) d_OutcomeSet_valueOf_31 ?_
            refine tp_i (y := nI (of j)) (by rw [show (nI j : Int32).toNatClampNeg = j from pk_cl j]) ?_
            refine lv_istore_n (lv' := [(3, .int (nI (of j))), (0, .ref h0), (1, .int (nI j)), (2, .int 2)]) hx hb d_OutcomeSet_valueOf_32 rfl hl (by decide) rfl ?_
            clear hl ls
            intro ls hl
            refine lv_iload_n hx hb d_OutcomeSet_valueOf_33 rfl (lv_at hl 3 rfl) ?_
            refine lv_bipush (v := 8) hx hb d_OutcomeSet_valueOf_34 (by decide) ?_
            refine lv_icmp_ge (tgt := 48) hx hb d_OutcomeSet_valueOf_36 (by decide) (fun c_5 => absurd c_5 (by decide)) (fun c_5 => ?_)
            refine tp_pc (pc' := 39) (by rfl) ?_
            refine lv_aload_n hx hb d_OutcomeSet_valueOf_39 rfl (lv_at hl 1 rfl) ?_
            refine va_get (D := (dC, dI)) (ci := 3) (v := .ref (ad 1)) (C := R_OutcomeSet) (T := F_OutcomeSet) (N := 9) hx hb hw i_OutcomeSet hown hK hP 0 rfl rfl 1 (by decide) (hw _ m_379) (fun _ h9 => h9) rfl d_OutcomeSet_valueOf_40 ?_
            refine lv_iload_n hx hb d_OutcomeSet_valueOf_43 rfl (lv_at hl 0 rfl) ?_
            refine va_lald (D := (dC, dI)) hx hb hK hP 1 0 rfl rfl (i := nI (of j)) (pk_in (of j) C (by omega)) d_OutcomeSet_valueOf_44 ?_
            refine tp_l (y := rf (of j)) (by rw [show (nI (of j) : Int32).toNatClampNeg = of j from pk_cl (of j)]) ?_
            refine lv_goto (tgt := 55) hx hb d_OutcomeSet_valueOf_45 (by decide) ?_
            refine tp_pc (pc' := 55) (by rfl) ?_
            refine lv_lstore (lv' := [(4, .long (rf (of j))), (3, .int (nI (of j))), (0, .ref h0), (1, .int (nI j)), (2, .int 2)]) hx hb d_OutcomeSet_valueOf_55 hl (by decide) rfl ?_
            clear hl ls
            intro ls hl
            refine lv_iload_n hx hb d_OutcomeSet_valueOf_57 rfl (lv_at hl 4 rfl) ?_
            refine lv_bipush (v := 8) hx hb d_OutcomeSet_valueOf_58 (by decide) ?_
            refine lv_icmp_ge (tgt := 68) hx hb d_OutcomeSet_valueOf_60 (by decide) (fun c_6 => absurd c_6 (by decide)) (fun c_6 => ?_)
            refine tp_pc (pc' := 63) (by rfl) ?_
            refine lv_bipush (v := 8) hx hb d_OutcomeSet_valueOf_63 (by decide) ?_
            refine lv_goto (tgt := 70) hx hb d_OutcomeSet_valueOf_65 (by decide) ?_
            refine tp_pc (pc' := 70) (by rfl) ?_
            refine lv_iconst (v := 1) hx hb d_OutcomeSet_valueOf_70 (by decide) ?_
            refine lv_isub hx hb d_OutcomeSet_valueOf_71 ?_
            refine tp_i (y := 7) (by first | rfl | decide) ?_
            refine lv_iload_n hx hb d_OutcomeSet_valueOf_72 rfl (lv_at hl 4 rfl) ?_
            refine lv_isub hx hb d_OutcomeSet_valueOf_73 ?_
            refine tp_i (y := 5) (by first | rfl | decide) ?_
            refine lv_istore (lv' := [(6, .int 5), (4, .long (rf (of j))), (3, .int (nI (of j))), (0, .ref h0), (1, .int (nI j)), (2, .int 2)]) hx hb d_OutcomeSet_valueOf_74 hl (by decide) rfl ?_
            clear hl ls
            intro ls hl
            refine lv_lload hx hb d_OutcomeSet_valueOf_76 (lv_at hl 1 rfl) ?_
            refine lv_bipush (v := 7) hx hb d_OutcomeSet_valueOf_78 (by decide) ?_
            refine lv_iload hx hb d_OutcomeSet_valueOf_80 (lv_at hl 0 rfl) ?_
            refine lv_imul hx hb d_OutcomeSet_valueOf_82 ?_
            refine tp_i (y := 35) (by first | rfl | decide) ?_
            refine lv_lshr (v := (rf (of j)) >>> ((35 : Int32).toInt64 &&& 63)) hx hb d_OutcomeSet_valueOf_83 rfl ?_
            refine lv_ldc2 hx hb hown (hw _ m_724) d_OutcomeSet_valueOf_84 ?_
            refine lv_land hx hb d_OutcomeSet_valueOf_87 ?_
            refine tp_l (y := ((rf (of j)) >>> ((35 : Int32).toInt64 &&& 63)) &&& 127) rfl ?_
            refine lv_l2i (v := (((rf (of j)) >>> ((35 : Int32).toInt64 &&& 63)) &&& 127).toInt32) hx hb d_OutcomeSet_valueOf_88 rfl ?_
            refine lv_bipush (v := 64) hx hb d_OutcomeSet_valueOf_89 (by decide) ?_
            refine lv_isub hx hb d_OutcomeSet_valueOf_91 ?_
            refine tp_i (y := ((((rf (of j)) >>> ((35 : Int32).toInt64 &&& 63)) &&& 127).toInt32) - 64) rfl ?_
            refine tp_i (y := dig9 (rf (of j)) 5) rfl ?_
            obtain ⟨hP9, hD9, -⟩ := cut3 (wc := [oc h0 3 [.int (nI E), .ref (ad 1), .ref (ad 2), .ref (ad 3), .ref (ad 4), .ref (ad 5), .int (nI n), .int sd, .int rd], la (ad 1) (ck 1) C rf, ia (ad 2) (ck 2) C vf, ia (ad 3) (ck 3) C lf, ia (ad 4) (ck 4) (C * E) sf, ia (ad 5) (ck 5) C (fun i => nI (of i))]) hP hD rfl hS hA [0, 1, 2, 3, 4, 5] (by decide +kernel) rfl
            have hK9 := hK.sub (tys' := []) [] rfl
            refine W.widen (k := 0) (n := 0) (by exact Nat.le_of_ble_eq_true rfl) (by exact Nat.le_of_ble_eq_true rfl) ?_
            exact W.iret (v := (dig9 (rf (of j)) 5)) hx hb hr (fun t9 ht9 hW => ⟨⟨dig9 (rf (of j)) 5, (), rfl, by rw [valO, if_pos ⟨c1, by rw [nI_clamp hj]; omega, c3, by decide⟩, nI_clamp hj]; rfl, by rw [ht9]; exact hP9, va_K.moved hW.alike hK9, hD9⟩, hS.F ht9⟩) hS.2.2 d_OutcomeSet_valueOf_92
          · skip
            replace hl : lv_has ls 7 [(0, .ref h0), (1, .int (nI j)), (2, .int 3)] := hl
            refine tp_pc (pc' := 26) (by rfl) ?_
            refine lv_aload_n hx hb d_OutcomeSet_valueOf_26 rfl (lv_at hl 0 rfl) ?_
            refine va_get (D := (dC, dI)) (ci := 3) (v := .ref (ad 5)) (C := R_OutcomeSet) (T := F_OutcomeSet) (N := 9) hx hb hw i_OutcomeSet hown hK hP 0 rfl rfl 5 (by decide) (hw _ m_383) (fun _ h9 => h9) rfl d_OutcomeSet_valueOf_27 ?_
            refine lv_iload_n hx hb d_OutcomeSet_valueOf_30 rfl (lv_at hl 1 rfl) ?_
            refine va_iald (D := (dC, dI)) hx hb hK hP 5 4 rfl rfl (i := nI j) (pk_in j C (by omega)) d_OutcomeSet_valueOf_31 ?_
            refine tp_i (y := nI (of j)) (by rw [show (nI j : Int32).toNatClampNeg = j from pk_cl j]) ?_
            refine lv_istore_n (lv' := [(3, .int (nI (of j))), (0, .ref h0), (1, .int (nI j)), (2, .int 3)]) hx hb d_OutcomeSet_valueOf_32 rfl hl (by decide) rfl ?_
            clear hl ls
            intro ls hl
            refine lv_iload_n hx hb d_OutcomeSet_valueOf_33 rfl (lv_at hl 3 rfl) ?_
            refine lv_bipush (v := 8) hx hb d_OutcomeSet_valueOf_34 (by decide) ?_
            refine lv_icmp_ge (tgt := 48) hx hb d_OutcomeSet_valueOf_36 (by decide) (fun c_7 => absurd c_7 (by decide)) (fun c_7 => ?_)
            refine tp_pc (pc' := 39) (by rfl) ?_
            refine lv_aload_n hx hb d_OutcomeSet_valueOf_39 rfl (lv_at hl 1 rfl) ?_
            refine va_get (D := (dC, dI)) (ci := 3) (v := .ref (ad 1)) (C := R_OutcomeSet) (T := F_OutcomeSet) (N := 9) hx hb hw i_OutcomeSet hown hK hP 0 rfl rfl 1 (by decide) (hw _ m_379) (fun _ h9 => h9) rfl d_OutcomeSet_valueOf_40 ?_
            refine lv_iload_n hx hb d_OutcomeSet_valueOf_43 rfl (lv_at hl 0 rfl) ?_
            refine va_lald (D := (dC, dI)) hx hb hK hP 1 0 rfl rfl (i := nI (of j)) (pk_in (of j) C (by omega)) d_OutcomeSet_valueOf_44 ?_
            refine tp_l (y := rf (of j)) (by rw [show (nI (of j) : Int32).toNatClampNeg = of j from pk_cl (of j)]) ?_
            refine lv_goto (tgt := 55) hx hb d_OutcomeSet_valueOf_45 (by decide) ?_
            refine tp_pc (pc' := 55) (by rfl) ?_
            refine lv_lstore (lv' := [(4, .long (rf (of j))), (3, .int (nI (of j))), (0, .ref h0), (1, .int (nI j)), (2, .int 3)]) hx hb d_OutcomeSet_valueOf_55 hl (by decide) rfl ?_
            clear hl ls
            intro ls hl
            refine lv_iload_n hx hb d_OutcomeSet_valueOf_57 rfl (lv_at hl 4 rfl) ?_
            refine lv_bipush (v := 8) hx hb d_OutcomeSet_valueOf_58 (by decide) ?_
            refine lv_icmp_ge (tgt := 68) hx hb d_OutcomeSet_valueOf_60 (by decide) (fun c_8 => absurd c_8 (by decide)) (fun c_8 => ?_)
            refine tp_pc (pc' := 63) (by rfl) ?_
            refine lv_bipush (v := 8) hx hb d_OutcomeSet_valueOf_63 (by decide) ?_
            refine lv_goto (tgt := 70) hx hb d_OutcomeSet_valueOf_65 (by decide) ?_
            refine tp_pc (pc' := 70) (by rfl) ?_
            refine lv_iconst (v := 1) hx hb d_OutcomeSet_valueOf_70 (by decide) ?_
            refine lv_isub hx hb d_OutcomeSet_valueOf_71 ?_
            refine tp_i (y := 7) (by first | rfl | decide) ?_
            refine lv_iload_n hx hb d_OutcomeSet_valueOf_72 rfl (lv_at hl 4 rfl) ?_
            refine lv_isub hx hb d_OutcomeSet_valueOf_73 ?_
            refine tp_i (y := 4) (by first | rfl | decide) ?_
            refine lv_istore (lv' := [(6, .int 4), (4, .long (rf (of j))), (3, .int (nI (of j))), (0, .ref h0), (1, .int (nI j)), (2, .int 3)]) hx hb d_OutcomeSet_valueOf_74 hl (by decide) rfl ?_
            clear hl ls
            intro ls hl
            refine lv_lload hx hb d_OutcomeSet_valueOf_76 (lv_at hl 1 rfl) ?_
            refine lv_bipush (v := 7) hx hb d_OutcomeSet_valueOf_78 (by decide) ?_
            refine lv_iload hx hb d_OutcomeSet_valueOf_80 (lv_at hl 0 rfl) ?_
            refine lv_imul hx hb d_OutcomeSet_valueOf_82 ?_
            refine tp_i (y := 28) (by first | rfl | decide) ?_
            refine lv_lshr (v := (rf (of j)) >>> ((28 : Int32).toInt64 &&& 63)) hx hb d_OutcomeSet_valueOf_83 rfl ?_
            refine lv_ldc2 hx hb hown (hw _ m_724) d_OutcomeSet_valueOf_84 ?_
            refine lv_land hx hb d_OutcomeSet_valueOf_87 ?_
            refine tp_l (y := ((rf (of j)) >>> ((28 : Int32).toInt64 &&& 63)) &&& 127) rfl ?_
            refine lv_l2i (v := (((rf (of j)) >>> ((28 : Int32).toInt64 &&& 63)) &&& 127).toInt32) hx hb d_OutcomeSet_valueOf_88 rfl ?_
            refine lv_bipush (v := 64) hx hb d_OutcomeSet_valueOf_89 (by decide) ?_
            refine lv_isub hx hb d_OutcomeSet_valueOf_91 ?_
            refine tp_i (y := ((((rf (of j)) >>> ((28 : Int32).toInt64 &&& 63)) &&& 127).toInt32) - 64) rfl ?_
            refine tp_i (y := dig9 (rf (of j)) 4) rfl ?_
            obtain ⟨hP9, hD9, -⟩ := cut3 (wc := [oc h0 3 [.int (nI E), .ref (ad 1), .ref (ad 2), .ref (ad 3), .ref (ad 4), .ref (ad 5), .int (nI n), .int sd, .int rd], la (ad 1) (ck 1) C rf, ia (ad 2) (ck 2) C vf, ia (ad 3) (ck 3) C lf, ia (ad 4) (ck 4) (C * E) sf, ia (ad 5) (ck 5) C (fun i => nI (of i))]) hP hD rfl hS hA [0, 1, 2, 3, 4, 5] (by decide +kernel) rfl
            have hK9 := hK.sub (tys' := []) [] rfl
            refine W.widen (k := 0) (n := 0) (by exact Nat.le_of_ble_eq_true rfl) (by exact Nat.le_of_ble_eq_true rfl) ?_
            exact W.iret (v := (dig9 (rf (of j)) 4)) hx hb hr (fun t9 ht9 hW => ⟨⟨dig9 (rf (of j)) 4, (), rfl, by rw [valO, if_pos ⟨c1, by rw [nI_clamp hj]; omega, c3, by decide⟩, nI_clamp hj]; rfl, by rw [ht9]; exact hP9, va_K.moved hW.alike hK9, hD9⟩, hS.F ht9⟩) hS.2.2 d_OutcomeSet_valueOf_92
          · skip
            replace hl : lv_has ls 7 [(0, .ref h0), (1, .int (nI j)), (2, .int 4)] := hl
            refine tp_pc (pc' := 26) (by rfl) ?_
            refine lv_aload_n hx hb d_OutcomeSet_valueOf_26 rfl (lv_at hl 0 rfl) ?_
            refine va_get (D := (dC, dI)) (ci := 3) (v := .ref (ad 5)) (C := R_OutcomeSet) (T := F_OutcomeSet) (N := 9) hx hb hw i_OutcomeSet hown hK hP 0 rfl rfl 5 (by decide) (hw _ m_383) (fun _ h9 => h9) rfl d_OutcomeSet_valueOf_27 ?_
            refine lv_iload_n hx hb d_OutcomeSet_valueOf_30 rfl (lv_at hl 1 rfl) ?_
            refine va_iald (D := (dC, dI)) hx hb hK hP 5 4 rfl rfl (i := nI j) (pk_in j C (by omega)) d_OutcomeSet_valueOf_31 ?_
            refine tp_i (y := nI (of j)) (by rw [show (nI j : Int32).toNatClampNeg = j from pk_cl j]) ?_
            refine lv_istore_n (lv' := [(3, .int (nI (of j))), (0, .ref h0), (1, .int (nI j)), (2, .int 4)]) hx hb d_OutcomeSet_valueOf_32 rfl hl (by decide) rfl ?_
            clear hl ls
            intro ls hl
            refine lv_iload_n hx hb d_OutcomeSet_valueOf_33 rfl (lv_at hl 3 rfl) ?_
            refine lv_bipush (v := 8) hx hb d_OutcomeSet_valueOf_34 (by decide) ?_
            refine lv_icmp_ge (tgt := 48) hx hb d_OutcomeSet_valueOf_36 (by decide) (fun c_9 => absurd c_9 (by decide)) (fun c_9 => ?_)
            refine tp_pc (pc' := 39) (by rfl) ?_
            refine lv_aload_n hx hb d_OutcomeSet_valueOf_39 rfl (lv_at hl 1 rfl) ?_
            refine va_get (D := (dC, dI)) (ci := 3) (v := .ref (ad 1)) (C := R_OutcomeSet) (T := F_OutcomeSet) (N := 9) hx hb hw i_OutcomeSet hown hK hP 0 rfl rfl 1 (by decide) (hw _ m_379) (fun _ h9 => h9) rfl d_OutcomeSet_valueOf_40 ?_
            refine lv_iload_n hx hb d_OutcomeSet_valueOf_43 rfl (lv_at hl 0 rfl) ?_
            refine va_lald (D := (dC, dI)) hx hb hK hP 1 0 rfl rfl (i := nI (of j)) (pk_in (of j) C (by omega)) d_OutcomeSet_valueOf_44 ?_
            refine tp_l (y := rf (of j)) (by rw [show (nI (of j) : Int32).toNatClampNeg = of j from pk_cl (of j)]) ?_
            refine lv_goto (tgt := 55) hx hb d_OutcomeSet_valueOf_45 (by decide) ?_
            refine tp_pc (pc' := 55) (by rfl) ?_
            refine lv_lstore (lv' := [(4, .long (rf (of j))), (3, .int (nI (of j))), (0, .ref h0), (1, .int (nI j)), (2, .int 4)]) hx hb d_OutcomeSet_valueOf_55 hl (by decide) rfl ?_
            clear hl ls
            intro ls hl
            refine lv_iload_n hx hb d_OutcomeSet_valueOf_57 rfl (lv_at hl 4 rfl) ?_
            refine lv_bipush (v := 8) hx hb d_OutcomeSet_valueOf_58 (by decide) ?_
            refine lv_icmp_ge (tgt := 68) hx hb d_OutcomeSet_valueOf_60 (by decide) (fun c_10 => absurd c_10 (by decide)) (fun c_10 => ?_)
            refine tp_pc (pc' := 63) (by rfl) ?_
            refine lv_bipush (v := 8) hx hb d_OutcomeSet_valueOf_63 (by decide) ?_
            refine lv_goto (tgt := 70) hx hb d_OutcomeSet_valueOf_65 (by decide) ?_
            refine tp_pc (pc' := 70) (by rfl) ?_
            refine lv_iconst (v := 1) hx hb d_OutcomeSet_valueOf_70 (by decide) ?_
            refine lv_isub hx hb d_OutcomeSet_valueOf_71 ?_
            refine tp_i (y := 7) (by first | rfl | decide) ?_
            refine lv_iload_n hx hb d_OutcomeSet_valueOf_72 rfl (lv_at hl 4 rfl) ?_
            refine lv_isub hx hb d_OutcomeSet_valueOf_73 ?_
            refine tp_i (y := 3) (by first | rfl | decide) ?_
            refine lv_istore (lv' := [(6, .int 3), (4, .long (rf (of j))), (3, .int (nI (of j))), (0, .ref h0), (1, .int (nI j)), (2, .int 4)]) hx hb d_OutcomeSet_valueOf_74 hl (by decide) rfl ?_
            clear hl ls
            intro ls hl
            refine lv_lload hx hb d_OutcomeSet_valueOf_76 (lv_at hl 1 rfl) ?_
            refine lv_bipush (v := 7) hx hb d_OutcomeSet_valueOf_78 (by decide) ?_
            refine lv_iload hx hb d_OutcomeSet_valueOf_80 (lv_at hl 0 rfl) ?_
            refine lv_imul hx hb d_OutcomeSet_valueOf_82 ?_
            refine tp_i (y := 21) (by first | rfl | decide) ?_
            refine lv_lshr (v := (rf (of j)) >>> ((21 : Int32).toInt64 &&& 63)) hx hb d_OutcomeSet_valueOf_83 rfl ?_
            refine lv_ldc2 hx hb hown (hw _ m_724) d_OutcomeSet_valueOf_84 ?_
            refine lv_land hx hb d_OutcomeSet_valueOf_87 ?_
            refine tp_l (y := ((rf (of j)) >>> ((21 : Int32).toInt64 &&& 63)) &&& 127) rfl ?_
            refine lv_l2i (v := (((rf (of j)) >>> ((21 : Int32).toInt64 &&& 63)) &&& 127).toInt32) hx hb d_OutcomeSet_valueOf_88 rfl ?_
            refine lv_bipush (v := 64) hx hb d_OutcomeSet_valueOf_89 (by decide) ?_
            refine lv_isub hx hb d_OutcomeSet_valueOf_91 ?_
            refine tp_i (y := ((((rf (of j)) >>> ((21 : Int32).toInt64 &&& 63)) &&& 127).toInt32) - 64) rfl ?_
            refine tp_i (y := dig9 (rf (of j)) 3) rfl ?_
            obtain ⟨hP9, hD9, -⟩ := cut3 (wc := [oc h0 3 [.int (nI E), .ref (ad 1), .ref (ad 2), .ref (ad 3), .ref (ad 4), .ref (ad 5), .int (nI n), .int sd, .int rd], la (ad 1) (ck 1) C rf, ia (ad 2) (ck 2) C vf, ia (ad 3) (ck 3) C lf, ia (ad 4) (ck 4) (C * E) sf, ia (ad 5) (ck 5) C (fun i => nI (of i))]) hP hD rfl hS hA [0, 1, 2, 3, 4, 5] (by decide +kernel) rfl
            have hK9 := hK.sub (tys' := []) [] rfl
            refine W.widen (k := 0) (n := 0) (by exact Nat.le_of_ble_eq_true rfl) (by exact Nat.le_of_ble_eq_true rfl) ?_
            exact W.iret (v := (dig9 (rf (of j)) 3)) hx hb hr (fun t9 ht9 hW => ⟨⟨dig9 (rf (of j)) 3, (), rfl, by rw [valO, if_pos ⟨c1, by rw [nI_clamp hj]; omega, c3, by decide⟩, nI_clamp hj]; rfl, by rw [ht9]; exact hP9, va_K.moved hW.alike hK9, hD9⟩, hS.F ht9⟩) hS.2.2 d_OutcomeSet_valueOf_92
          · skip
            replace hl : lv_has ls 7 [(0, .ref h0), (1, .int (nI j)), (2, .int 5)] := hl
            refine tp_pc (pc' := 26) (by rfl) ?_
            refine lv_aload_n hx hb d_OutcomeSet_valueOf_26 rfl (lv_at hl 0 rfl) ?_
            refine va_get (D := (dC, dI)) (ci := 3) (v := .ref (ad 5)) (C := R_OutcomeSet) (T := F_OutcomeSet) (N := 9) hx hb hw i_OutcomeSet hown hK hP 0 rfl rfl 5 (by decide) (hw _ m_383) (fun _ h9 => h9) rfl d_OutcomeSet_valueOf_27 ?_
            refine lv_iload_n hx hb d_OutcomeSet_valueOf_30 rfl (lv_at hl 1 rfl) ?_
            refine va_iald (D := (dC, dI)) hx hb hK hP 5 4 rfl rfl (i := nI j) (pk_in j C (by omega)) d_OutcomeSet_valueOf_31 ?_
            refine tp_i (y := nI (of j)) (by rw [show (nI j : Int32).toNatClampNeg = j from pk_cl j]) ?_
            refine lv_istore_n (lv' := [(3, .int (nI (of j))), (0, .ref h0), (1, .int (nI j)), (2, .int 5)]) hx hb d_OutcomeSet_valueOf_32 rfl hl (by decide) rfl ?_
            clear hl ls
            intro ls hl
            refine lv_iload_n hx hb d_OutcomeSet_valueOf_33 rfl (lv_at hl 3 rfl) ?_
            refine lv_bipush (v := 8) hx hb d_OutcomeSet_valueOf_34 (by decide) ?_
            refine lv_icmp_ge (tgt := 48) hx hb d_OutcomeSet_valueOf_36 (by decide) (fun c_11 => absurd c_11 (by decide)) (fun c_11 => ?_)
            refine tp_pc (pc' := 39) (by rfl) ?_
            refine lv_aload_n hx hb d_OutcomeSet_valueOf_39 rfl (lv_at hl 1 rfl) ?_
            refine va_get (D := (dC, dI)) (ci := 3) (v := .ref (ad 1)) (C := R_OutcomeSet) (T := F_OutcomeSet) (N := 9) hx hb hw i_OutcomeSet hown hK hP 0 rfl rfl 1 (by decide) (hw _ m_379) (fun _ h9 => h9) rfl d_OutcomeSet_valueOf_40 ?_
            refine lv_iload_n hx hb d_OutcomeSet_valueOf_43 rfl (lv_at hl 0 rfl) ?_
            refine va_lald (D := (dC, dI)) hx hb hK hP 1 0 rfl rfl (i := nI (of j)) (pk_in (of j) C (by omega)) d_OutcomeSet_valueOf_44 ?_
            refine tp_l (y := rf (of j)) (by rw [show (nI (of j) : Int32).toNatClampNeg = of j from pk_cl (of j)]) ?_
            refine lv_goto (tgt := 55) hx hb d_OutcomeSet_valueOf_45 (by decide) ?_
            refine tp_pc (pc' := 55) (by rfl) ?_
            refine lv_lstore (lv' := [(4, .long (rf (of j))), (3, .int (nI (of j))), (0, .ref h0), (1, .int (nI j)), (2, .int 5)]) hx hb d_OutcomeSet_valueOf_55 hl (by decide) rfl ?_
            clear hl ls
            intro ls hl
            refine lv_iload_n hx hb d_OutcomeSet_valueOf_57 rfl (lv_at hl 4 rfl) ?_
            refine lv_bipush (v := 8) hx hb d_OutcomeSet_valueOf_58 (by decide) ?_
            refine lv_icmp_ge (tgt := 68) hx hb d_OutcomeSet_valueOf_60 (by decide) (fun c_12 => absurd c_12 (by decide)) (fun c_12 => ?_)
            refine tp_pc (pc' := 63) (by rfl) ?_
            refine lv_bipush (v := 8) hx hb d_OutcomeSet_valueOf_63 (by decide) ?_
            refine lv_goto (tgt := 70) hx hb d_OutcomeSet_valueOf_65 (by decide) ?_
            refine tp_pc (pc' := 70) (by rfl) ?_
            refine lv_iconst (v := 1) hx hb d_OutcomeSet_valueOf_70 (by decide) ?_
            refine lv_isub hx hb d_OutcomeSet_valueOf_71 ?_
            refine tp_i (y := 7) (by first | rfl | decide) ?_
            refine lv_iload_n hx hb d_OutcomeSet_valueOf_72 rfl (lv_at hl 4 rfl) ?_
            refine lv_isub hx hb d_OutcomeSet_valueOf_73 ?_
            refine tp_i (y := 2) (by first | rfl | decide) ?_
            refine lv_istore (lv' := [(6, .int 2), (4, .long (rf (of j))), (3, .int (nI (of j))), (0, .ref h0), (1, .int (nI j)), (2, .int 5)]) hx hb d_OutcomeSet_valueOf_74 hl (by decide) rfl ?_
            clear hl ls
            intro ls hl
            refine lv_lload hx hb d_OutcomeSet_valueOf_76 (lv_at hl 1 rfl) ?_
            refine lv_bipush (v := 7) hx hb d_OutcomeSet_valueOf_78 (by decide) ?_
            refine lv_iload hx hb d_OutcomeSet_valueOf_80 (lv_at hl 0 rfl) ?_
            refine lv_imul hx hb d_OutcomeSet_valueOf_82 ?_
            refine tp_i (y := 14) (by first | rfl | decide) ?_
            refine lv_lshr (v := (rf (of j)) >>> ((14 : Int32).toInt64 &&& 63)) hx hb d_OutcomeSet_valueOf_83 rfl ?_
            refine lv_ldc2 hx hb hown (hw _ m_724) d_OutcomeSet_valueOf_84 ?_
            refine lv_land hx hb d_OutcomeSet_valueOf_87 ?_
            refine tp_l (y := ((rf (of j)) >>> ((14 : Int32).toInt64 &&& 63)) &&& 127) rfl ?_
            refine lv_l2i (v := (((rf (of j)) >>> ((14 : Int32).toInt64 &&& 63)) &&& 127).toInt32) hx hb d_OutcomeSet_valueOf_88 rfl ?_
            refine lv_bipush (v := 64) hx hb d_OutcomeSet_valueOf_89 (by decide) ?_
            refine lv_isub hx hb d_OutcomeSet_valueOf_91 ?_
            refine tp_i (y := ((((rf (of j)) >>> ((14 : Int32).toInt64 &&& 63)) &&& 127).toInt32) - 64) rfl ?_
            refine tp_i (y := dig9 (rf (of j)) 2) rfl ?_
            obtain ⟨hP9, hD9, -⟩ := cut3 (wc := [oc h0 3 [.int (nI E), .ref (ad 1), .ref (ad 2), .ref (ad 3), .ref (ad 4), .ref (ad 5), .int (nI n), .int sd, .int rd], la (ad 1) (ck 1) C rf, ia (ad 2) (ck 2) C vf, ia (ad 3) (ck 3) C lf, ia (ad 4) (ck 4) (C * E) sf, ia (ad 5) (ck 5) C (fun i => nI (of i))]) hP hD rfl hS hA [0, 1, 2, 3, 4, 5] (by decide +kernel) rfl
            have hK9 := hK.sub (tys' := []) [] rfl
            refine W.widen (k := 0) (n := 0) (by exact Nat.le_of_ble_eq_true rfl) (by exact Nat.le_of_ble_eq_true rfl) ?_
            exact W.iret (v := (dig9 (rf (of j)) 2)) hx hb hr (fun t9 ht9 hW => ⟨⟨dig9 (rf (of j)) 2, (), rfl, by rw [valO, if_pos ⟨c1, by rw [nI_clamp hj]; omega, c3, by decide⟩, nI_clamp hj]; rfl, by rw [ht9]; exact hP9, va_K.moved hW.alike hK9, hD9⟩, hS.F ht9⟩) hS.2.2 d_OutcomeSet_valueOf_92
          · skip
            replace hl : lv_has ls 7 [(0, .ref h0), (1, .int (nI j)), (2, .int 6)] := hl
            refine tp_pc (pc' := 26) (by rfl) ?_
            refine lv_aload_n hx hb d_OutcomeSet_valueOf_26 rfl (lv_at hl 0 rfl) ?_
            refine va_get (D := (dC, dI)) (ci := 3) (v := .ref (ad 5)) (C := R_OutcomeSet) (T := F_OutcomeSet) (N := 9) hx hb hw i_OutcomeSet hown hK hP 0 rfl rfl 5 (by decide) (hw _ m_383) (fun _ h9 => h9) rfl d_OutcomeSet_valueOf_27 ?_
            refine lv_iload_n hx hb d_OutcomeSet_valueOf_30 rfl (lv_at hl 1 rfl) ?_
            refine va_iald (D := (dC, dI)) hx hb hK hP 5 4 rfl rfl (i := nI j) (pk_in j C (by omega)) d_OutcomeSet_valueOf_31 ?_
            refine tp_i (y := nI (of j)) (by rw [show (nI j : Int32).toNatClampNeg = j from pk_cl j]) ?_
            refine lv_istore_n (lv' := [(3, .int (nI (of j))), (0, .ref h0), (1, .int (nI j)), (2, .int 6)]) hx hb d_OutcomeSet_valueOf_32 rfl hl (by decide) rfl ?_
            clear hl ls
            intro ls hl
            refine lv_iload_n hx hb d_OutcomeSet_valueOf_33 rfl (lv_at hl 3 rfl) ?_
            refine lv_bipush (v := 8) hx hb d_OutcomeSet_valueOf_34 (by decide) ?_
            refine lv_icmp_ge (tgt := 48) hx hb d_OutcomeSet_valueOf_36 (by decide) (fun c_13 => absurd c_13 (by decide)) (fun c_13 => ?_)
            refine tp_pc (pc' := 39) (by rfl) ?_
            refine lv_aload_n hx hb d_OutcomeSet_valueOf_39 rfl (lv_at hl 1 rfl) ?_
            refine va_get (D := (dC, dI)) (ci := 3) (v := .ref (ad 1)) (C := R_OutcomeSet) (T := F_OutcomeSet) (N := 9) hx hb hw i_OutcomeSet hown hK hP 0 rfl rfl 1 (by decide) (hw _ m_379) (fun _ h9 => h9) rfl d_OutcomeSet_valueOf_40 ?_
            refine lv_iload_n hx hb d_OutcomeSet_valueOf_43 rfl (lv_at hl 0 rfl) ?_
            refine va_lald (D := (dC, dI)) hx hb hK hP 1 0 rfl rfl (i := nI (of j)) (pk_in (of j) C (by omega)) d_OutcomeSet_valueOf_44 ?_
            refine tp_l (y := rf (of j)) (by rw [show (nI (of j) : Int32).toNatClampNeg = of j from pk_cl (of j)]) ?_
            refine lv_goto (tgt := 55) hx hb d_OutcomeSet_valueOf_45 (by decide) ?_
            refine tp_pc (pc' := 55) (by rfl) ?_
            refine lv_lstore (lv' := [(4, .long (rf (of j))), (3, .int (nI (of j))), (0, .ref h0), (1, .int (nI j)), (2, .int 6)]) hx hb d_OutcomeSet_valueOf_55 hl (by decide) rfl ?_
            clear hl ls
            intro ls hl
            refine lv_iload_n hx hb d_OutcomeSet_valueOf_57 rfl (lv_at hl 4 rfl) ?_
            refine lv_bipush (v := 8) hx hb d_OutcomeSet_valueOf_58 (by decide) ?_
            refine lv_icmp_ge (tgt := 68) hx hb d_OutcomeSet_valueOf_60 (by decide) (fun c_14 => absurd c_14 (by decide)) (fun c_14 => ?_)
            refine tp_pc (pc' := 63) (by rfl) ?_
            refine lv_bipush (v := 8) hx hb d_OutcomeSet_valueOf_63 (by decide) ?_
            refine lv_goto (tgt := 70) hx hb d_OutcomeSet_valueOf_65 (by decide) ?_
            refine tp_pc (pc' := 70) (by rfl) ?_
            refine lv_iconst (v := 1) hx hb d_OutcomeSet_valueOf_70 (by decide) ?_
            refine lv_isub hx hb d_OutcomeSet_valueOf_71 ?_
            refine tp_i (y := 7) (by first | rfl | decide) ?_
            refine lv_iload_n hx hb d_OutcomeSet_valueOf_72 rfl (lv_at hl 4 rfl) ?_
            refine lv_isub hx hb d_OutcomeSet_valueOf_73 ?_
            refine tp_i (y := 1) (by first | rfl | decide) ?_
            refine lv_istore (lv' := [(6, .int 1), (4, .long (rf (of j))), (3, .int (nI (of j))), (0, .ref h0), (1, .int (nI j)), (2, .int 6)]) hx hb d_OutcomeSet_valueOf_74 hl (by decide) rfl ?_
            clear hl ls
            intro ls hl
            refine lv_lload hx hb d_OutcomeSet_valueOf_76 (lv_at hl 1 rfl) ?_
            refine lv_bipush (v := 7) hx hb d_OutcomeSet_valueOf_78 (by decide) ?_
            refine lv_iload hx hb d_OutcomeSet_valueOf_80 (lv_at hl 0 rfl) ?_
            refine lv_imul hx hb d_OutcomeSet_valueOf_82 ?_
            refine tp_i (y := 7) (by first | rfl | decide) ?_
            refine lv_lshr (v := (rf (of j)) >>> ((7 : Int32).toInt64 &&& 63)) hx hb d_OutcomeSet_valueOf_83 rfl ?_
            refine lv_ldc2 hx hb hown (hw _ m_724) d_OutcomeSet_valueOf_84 ?_
            refine lv_land hx hb d_OutcomeSet_valueOf_87 ?_
            refine tp_l (y := ((rf (of j)) >>> ((7 : Int32).toInt64 &&& 63)) &&& 127) rfl ?_
            refine lv_l2i (v := (((rf (of j)) >>> ((7 : Int32).toInt64 &&& 63)) &&& 127).toInt32) hx hb d_OutcomeSet_valueOf_88 rfl ?_
            refine lv_bipush (v := 64) hx hb d_OutcomeSet_valueOf_89 (by decide) ?_
            refine lv_isub hx hb d_OutcomeSet_valueOf_91 ?_
            refine tp_i (y := ((((rf (of j)) >>> ((7 : Int32).toInt64 &&& 63)) &&& 127).toInt32) - 64) rfl ?_
            refine tp_i (y := dig9 (rf (of j)) 1) rfl ?_
            obtain ⟨hP9, hD9, -⟩ := cut3 (wc := [oc h0 3 [.int (nI E), .ref (ad 1), .ref (ad 2), .ref (ad 3), .ref (ad 4), .ref (ad 5), .int (nI n), .int sd, .int rd], la (ad 1) (ck 1) C rf, ia (ad 2) (ck 2) C vf, ia (ad 3) (ck 3) C lf, ia (ad 4) (ck 4) (C * E) sf, ia (ad 5) (ck 5) C (fun i => nI (of i))]) hP hD rfl hS hA [0, 1, 2, 3, 4, 5] (by decide +kernel) rfl
            have hK9 := hK.sub (tys' := []) [] rfl
            refine W.widen (k := 0) (n := 0) (by exact Nat.le_of_ble_eq_true rfl) (by exact Nat.le_of_ble_eq_true rfl) ?_
            exact W.iret (v := (dig9 (rf (of j)) 1)) hx hb hr (fun t9 ht9 hW => ⟨⟨dig9 (rf (of j)) 1, (), rfl, by rw [valO, if_pos ⟨c1, by rw [nI_clamp hj]; omega, c3, by decide⟩, nI_clamp hj]; rfl, by rw [ht9]; exact hP9, va_K.moved hW.alike hK9, hD9⟩, hS.F ht9⟩) hS.2.2 d_OutcomeSet_valueOf_92
          · skip
            replace hl : lv_has ls 7 [(0, .ref h0), (1, .int (nI j)), (2, .int 7)] := hl
            refine tp_pc (pc' := 26) (by rfl) ?_
            refine lv_aload_n hx hb d_OutcomeSet_valueOf_26 rfl (lv_at hl 0 rfl) ?_
            refine va_get (D := (dC, dI)) (ci := 3) (v := .ref (ad 5)) (C := R_OutcomeSet) (T := F_OutcomeSet) (N := 9) hx hb hw i_OutcomeSet hown hK hP 0 rfl rfl 5 (by decide) (hw _ m_383) (fun _ h9 => h9) rfl d_OutcomeSet_valueOf_27 ?_
            refine lv_iload_n hx hb d_OutcomeSet_valueOf_30 rfl (lv_at hl 1 rfl) ?_
            refine va_iald (D := (dC, dI)) hx hb hK hP 5 4 rfl rfl (i := nI j) (pk_in j C (by omega)) d_OutcomeSet_valueOf_31 ?_
            refine tp_i (y := nI (of j)) (by rw [show (nI j : Int32).toNatClampNeg = j from pk_cl j]) ?_
            refine lv_istore_n (lv' := [(3, .int (nI (of j))), (0, .ref h0), (1, .int (nI j)), (2, .int 7)]) hx hb d_OutcomeSet_valueOf_32 rfl hl (by decide) rfl ?_
            clear hl ls
            intro ls hl
            refine lv_iload_n hx hb d_OutcomeSet_valueOf_33 rfl (lv_at hl 3 rfl) ?_
            refine lv_bipush (v := 8) hx hb d_OutcomeSet_valueOf_34 (by decide) ?_
            refine lv_icmp_ge (tgt := 48) hx hb d_OutcomeSet_valueOf_36 (by decide) (fun c_15 => absurd c_15 (by decide)) (fun c_15 => ?_)
            refine tp_pc (pc' := 39) (by rfl) ?_
            refine lv_aload_n hx hb d_OutcomeSet_valueOf_39 rfl (lv_at hl 1 rfl) ?_
            refine va_get (D := (dC, dI)) (ci := 3) (v := .ref (ad 1)) (C := R_OutcomeSet) (T := F_OutcomeSet) (N := 9) hx hb hw i_OutcomeSet hown hK hP 0 rfl rfl 1 (by decide) (hw _ m_379) (fun _ h9 => h9) rfl d_OutcomeSet_valueOf_40 ?_
            refine lv_iload_n hx hb d_OutcomeSet_valueOf_43 rfl (lv_at hl 0 rfl) ?_
            refine va_lald (D := (dC, dI)) hx hb hK hP 1 0 rfl rfl (i := nI (of j)) (pk_in (of j) C (by omega)) d_OutcomeSet_valueOf_44 ?_
            refine tp_l (y := rf (of j)) (by rw [show (nI (of j) : Int32).toNatClampNeg = of j from pk_cl (of j)]) ?_
            refine lv_goto (tgt := 55) hx hb d_OutcomeSet_valueOf_45 (by decide) ?_
            refine tp_pc (pc' := 55) (by rfl) ?_
            refine lv_lstore (lv' := [(4, .long (rf (of j))), (3, .int (nI (of j))), (0, .ref h0), (1, .int (nI j)), (2, .int 7)]) hx hb d_OutcomeSet_valueOf_55 hl (by decide) rfl ?_
            clear hl ls
            intro ls hl
            refine lv_iload_n hx hb d_OutcomeSet_valueOf_57 rfl (lv_at hl 4 rfl) ?_
            refine lv_bipush (v := 8) hx hb d_OutcomeSet_valueOf_58 (by decide) ?_
            refine lv_icmp_ge (tgt := 68) hx hb d_OutcomeSet_valueOf_60 (by decide) (fun c_16 => absurd c_16 (by decide)) (fun c_16 => ?_)
            refine tp_pc (pc' := 63) (by rfl) ?_
            refine lv_bipush (v := 8) hx hb d_OutcomeSet_valueOf_63 (by decide) ?_
            refine lv_goto (tgt := 70) hx hb d_OutcomeSet_valueOf_65 (by decide) ?_
            refine tp_pc (pc' := 70) (by rfl) ?_
            refine lv_iconst (v := 1) hx hb d_OutcomeSet_valueOf_70 (by decide) ?_
            refine lv_isub hx hb d_OutcomeSet_valueOf_71 ?_
            refine tp_i (y := 7) (by first | rfl | decide) ?_
            refine lv_iload_n hx hb d_OutcomeSet_valueOf_72 rfl (lv_at hl 4 rfl) ?_
            refine lv_isub hx hb d_OutcomeSet_valueOf_73 ?_
            refine tp_i (y := 0) (by first | rfl | decide) ?_
            refine lv_istore (lv' := [(6, .int 0), (4, .long (rf (of j))), (3, .int (nI (of j))), (0, .ref h0), (1, .int (nI j)), (2, .int 7)]) hx hb d_OutcomeSet_valueOf_74 hl (by decide) rfl ?_
            clear hl ls
            intro ls hl
            refine lv_lload hx hb d_OutcomeSet_valueOf_76 (lv_at hl 1 rfl) ?_
            refine lv_bipush (v := 7) hx hb d_OutcomeSet_valueOf_78 (by decide) ?_
            refine lv_iload hx hb d_OutcomeSet_valueOf_80 (lv_at hl 0 rfl) ?_
            refine lv_imul hx hb d_OutcomeSet_valueOf_82 ?_
            refine tp_i (y := 0) (by first | rfl | decide) ?_
            refine lv_lshr (v := (rf (of j)) >>> ((0 : Int32).toInt64 &&& 63)) hx hb d_OutcomeSet_valueOf_83 rfl ?_
            refine lv_ldc2 hx hb hown (hw _ m_724) d_OutcomeSet_valueOf_84 ?_
            refine lv_land hx hb d_OutcomeSet_valueOf_87 ?_
            refine tp_l (y := ((rf (of j)) >>> ((0 : Int32).toInt64 &&& 63)) &&& 127) rfl ?_
            refine lv_l2i (v := (((rf (of j)) >>> ((0 : Int32).toInt64 &&& 63)) &&& 127).toInt32) hx hb d_OutcomeSet_valueOf_88 rfl ?_
            refine lv_bipush (v := 64) hx hb d_OutcomeSet_valueOf_89 (by decide) ?_
            refine lv_isub hx hb d_OutcomeSet_valueOf_91 ?_
            refine tp_i (y := ((((rf (of j)) >>> ((0 : Int32).toInt64 &&& 63)) &&& 127).toInt32) - 64) rfl ?_
            refine tp_i (y := dig9 (rf (of j)) 0) rfl ?_
            obtain ⟨hP9, hD9, -⟩ := cut3 (wc := [oc h0 3 [.int (nI E), .ref (ad 1), .ref (ad 2), .ref (ad 3), .ref (ad 4), .ref (ad 5), .int (nI n), .int sd, .int rd], la (ad 1) (ck 1) C rf, ia (ad 2) (ck 2) C vf, ia (ad 3) (ck 3) C lf, ia (ad 4) (ck 4) (C * E) sf, ia (ad 5) (ck 5) C (fun i => nI (of i))]) hP hD rfl hS hA [0, 1, 2, 3, 4, 5] (by decide +kernel) rfl
            have hK9 := hK.sub (tys' := []) [] rfl
            refine W.widen (k := 0) (n := 0) (by exact Nat.le_of_ble_eq_true rfl) (by exact Nat.le_of_ble_eq_true rfl) ?_
            exact W.iret (v := (dig9 (rf (of j)) 0)) hx hb hr (fun t9 ht9 hW => ⟨⟨dig9 (rf (of j)) 0, (), rfl, by rw [valO, if_pos ⟨c1, by rw [nI_clamp hj]; omega, c3, by decide⟩, nI_clamp hj]; rfl, by rw [ht9]; exact hP9, va_K.moved hW.alike hK9, hD9⟩, hS.F ht9⟩) hS.2.2 d_OutcomeSet_valueOf_92
          · skip
            replace hl : lv_has ls 7 [(0, .ref h0), (1, .int (nI j)), (2, .int 8)] := hl
            refine tp_pc (pc' := 26) (by rfl) ?_
            refine lv_aload_n hx hb d_OutcomeSet_valueOf_26 rfl (lv_at hl 0 rfl) ?_
            refine va_get (D := (dC, dI)) (ci := 3) (v := .ref (ad 5)) (C := R_OutcomeSet) (T := F_OutcomeSet) (N := 9) hx hb hw i_OutcomeSet hown hK hP 0 rfl rfl 5 (by decide) (hw _ m_383) (fun _ h9 => h9) rfl d_OutcomeSet_valueOf_27 ?_
            refine lv_iload_n hx hb d_OutcomeSet_valueOf_30 rfl (lv_at hl 1 rfl) ?_
            refine va_iald (D := (dC, dI)) hx hb hK hP 5 4 rfl rfl (i := nI j) (pk_in j C (by omega)) d_OutcomeSet_valueOf_31 ?_
            refine tp_i (y := nI (of j)) (by rw [show (nI j : Int32).toNatClampNeg = j from pk_cl j]) ?_
            refine lv_istore_n (lv' := [(3, .int (nI (of j))), (0, .ref h0), (1, .int (nI j)), (2, .int 8)]) hx hb d_OutcomeSet_valueOf_32 rfl hl (by decide) rfl ?_
            clear hl ls
            intro ls hl
            refine lv_iload_n hx hb d_OutcomeSet_valueOf_33 rfl (lv_at hl 3 rfl) ?_
            refine lv_bipush (v := 8) hx hb d_OutcomeSet_valueOf_34 (by decide) ?_
            refine lv_icmp_ge (tgt := 48) hx hb d_OutcomeSet_valueOf_36 (by decide) (fun c_17 => ?_) (fun c_17 => absurd c_17 (by decide))
            refine tp_pc (pc' := 48) (by rfl) ?_
            refine lv_aload_n hx hb d_OutcomeSet_valueOf_48 rfl (lv_at hl 1 rfl) ?_
            refine va_get (D := (dC, dI)) (ci := 3) (v := .ref (ad 2)) (C := R_OutcomeSet) (T := F_OutcomeSet) (N := 9) hx hb hw i_OutcomeSet hown hK hP 0 rfl rfl 2 (by decide) (hw _ m_380) (fun _ h9 => h9) rfl d_OutcomeSet_valueOf_49 ?_
            refine lv_iload_n hx hb d_OutcomeSet_valueOf_52 rfl (lv_at hl 0 rfl) ?_
            refine va_iald (D := (dC, dI)) hx hb hK hP 2 1 rfl rfl (i := nI (of j)) (pk_in (of j) C (by omega)) d_OutcomeSet_valueOf_53 ?_
            refine tp_i (y := vf (of j)) (by rw [show (nI (of j) : Int32).toNatClampNeg = of j from pk_cl (of j)]) ?_
            refine lv_i2l (v := (vf (of j)).toInt64) hx hb d_OutcomeSet_valueOf_54 rfl ?_
            refine lv_lstore (lv' := [(4, .long ((vf (of j)).toInt64)), (3, .int (nI (of j))), (0, .ref h0), (1, .int (nI j)), (2, .int 8)]) hx hb d_OutcomeSet_valueOf_55 hl (by decide) rfl ?_
            clear hl ls
            intro ls hl
            refine lv_iload_n hx hb d_OutcomeSet_valueOf_57 rfl (lv_at hl 4 rfl) ?_
            refine lv_bipush (v := 8) hx hb d_OutcomeSet_valueOf_58 (by decide) ?_
            refine lv_icmp_ge (tgt := 68) hx hb d_OutcomeSet_valueOf_60 (by decide) (fun c_18 => ?_) (fun c_18 => absurd c_18 (by decide))
            refine tp_pc (pc' := 68) (by rfl) ?_
            refine lv_bipush (v := 11) hx hb d_OutcomeSet_valueOf_68 (by decide) ?_
            refine lv_iconst (v := 1) hx hb d_OutcomeSet_valueOf_70 (by decide) ?_
            refine lv_isub hx hb d_OutcomeSet_valueOf_71 ?_
            refine tp_i (y := 10) (by first | rfl | decide) ?_
            refine lv_iload_n hx hb d_OutcomeSet_valueOf_72 rfl (lv_at hl 4 rfl) ?_
            refine lv_isub hx hb d_OutcomeSet_valueOf_73 ?_
            refine tp_i (y := 2) (by first | rfl | decide) ?_
            refine lv_istore (lv' := [(6, .int 2), (4, .long ((vf (of j)).toInt64)), (3, .int (nI (of j))), (0, .ref h0), (1, .int (nI j)), (2, .int 8)]) hx hb d_OutcomeSet_valueOf_74 hl (by decide) rfl ?_
            clear hl ls
            intro ls hl
            refine lv_lload hx hb d_OutcomeSet_valueOf_76 (lv_at hl 1 rfl) ?_
            refine lv_bipush (v := 7) hx hb d_OutcomeSet_valueOf_78 (by decide) ?_
            refine lv_iload hx hb d_OutcomeSet_valueOf_80 (lv_at hl 0 rfl) ?_
            refine lv_imul hx hb d_OutcomeSet_valueOf_82 ?_
            refine tp_i (y := 14) (by first | rfl | decide) ?_
            refine lv_lshr (v := ((vf (of j)).toInt64) >>> ((14 : Int32).toInt64 &&& 63)) hx hb d_OutcomeSet_valueOf_83 rfl ?_
            refine lv_ldc2 hx hb hown (hw _ m_724) d_OutcomeSet_valueOf_84 ?_
            refine lv_land hx hb d_OutcomeSet_valueOf_87 ?_
            refine tp_l (y := (((vf (of j)).toInt64) >>> ((14 : Int32).toInt64 &&& 63)) &&& 127) rfl ?_
            refine lv_l2i (v := ((((vf (of j)).toInt64) >>> ((14 : Int32).toInt64 &&& 63)) &&& 127).toInt32) hx hb d_OutcomeSet_valueOf_88 rfl ?_
            refine lv_bipush (v := 64) hx hb d_OutcomeSet_valueOf_89 (by decide) ?_
            refine lv_isub hx hb d_OutcomeSet_valueOf_91 ?_
            refine tp_i (y := (((((vf (of j)).toInt64) >>> ((14 : Int32).toInt64 &&& 63)) &&& 127).toInt32) - 64) rfl ?_
            refine tp_i (y := dig9 (vf (of j)).toInt64 2) rfl ?_
            obtain ⟨hP9, hD9, -⟩ := cut3 (wc := [oc h0 3 [.int (nI E), .ref (ad 1), .ref (ad 2), .ref (ad 3), .ref (ad 4), .ref (ad 5), .int (nI n), .int sd, .int rd], la (ad 1) (ck 1) C rf, ia (ad 2) (ck 2) C vf, ia (ad 3) (ck 3) C lf, ia (ad 4) (ck 4) (C * E) sf, ia (ad 5) (ck 5) C (fun i => nI (of i))]) hP hD rfl hS hA [0, 1, 2, 3, 4, 5] (by decide +kernel) rfl
            have hK9 := hK.sub (tys' := []) [] rfl
            refine W.widen (k := 0) (n := 0) (by exact Nat.le_of_ble_eq_true rfl) (by exact Nat.le_of_ble_eq_true rfl) ?_
            exact W.iret (v := (dig9 (vf (of j)).toInt64 2)) hx hb hr (fun t9 ht9 hW => ⟨⟨dig9 (vf (of j)).toInt64 2, (), rfl, by rw [valO, if_pos ⟨c1, by rw [nI_clamp hj]; omega, c3, by decide⟩, nI_clamp hj]; rfl, by rw [ht9]; exact hP9, va_K.moved hW.alike hK9, hD9⟩, hS.F ht9⟩) hS.2.2 d_OutcomeSet_valueOf_92
          · skip
            replace hl : lv_has ls 7 [(0, .ref h0), (1, .int (nI j)), (2, .int 9)] := hl
            refine tp_pc (pc' := 26) (by rfl) ?_
            refine lv_aload_n hx hb d_OutcomeSet_valueOf_26 rfl (lv_at hl 0 rfl) ?_
            refine va_get (D := (dC, dI)) (ci := 3) (v := .ref (ad 5)) (C := R_OutcomeSet) (T := F_OutcomeSet) (N := 9) hx hb hw i_OutcomeSet hown hK hP 0 rfl rfl 5 (by decide) (hw _ m_383) (fun _ h9 => h9) rfl d_OutcomeSet_valueOf_27 ?_
            refine lv_iload_n hx hb d_OutcomeSet_valueOf_30 rfl (lv_at hl 1 rfl) ?_
            refine va_iald (D := (dC, dI)) hx hb hK hP 5 4 rfl rfl (i := nI j) (pk_in j C (by omega)) d_OutcomeSet_valueOf_31 ?_
            refine tp_i (y := nI (of j)) (by rw [show (nI j : Int32).toNatClampNeg = j from pk_cl j]) ?_
            refine lv_istore_n (lv' := [(3, .int (nI (of j))), (0, .ref h0), (1, .int (nI j)), (2, .int 9)]) hx hb d_OutcomeSet_valueOf_32 rfl hl (by decide) rfl ?_
            clear hl ls
            intro ls hl
            refine lv_iload_n hx hb d_OutcomeSet_valueOf_33 rfl (lv_at hl 3 rfl) ?_
            refine lv_bipush (v := 8) hx hb d_OutcomeSet_valueOf_34 (by decide) ?_
            refine lv_icmp_ge (tgt := 48) hx hb d_OutcomeSet_valueOf_36 (by decide) (fun c_19 => ?_) (fun c_19 => absurd c_19 (by decide))
            refine tp_pc (pc' := 48) (by rfl) ?_
            refine lv_aload_n hx hb d_OutcomeSet_valueOf_48 rfl (lv_at hl 1 rfl) ?_
            refine va_get (D := (dC, dI)) (ci := 3) (v := .ref (ad 2)) (C := R_OutcomeSet) (T := F_OutcomeSet) (N := 9) hx hb hw i_OutcomeSet hown hK hP 0 rfl rfl 2 (by decide) (hw _ m_380) (fun _ h9 => h9) rfl d_OutcomeSet_valueOf_49 ?_
            refine lv_iload_n hx hb d_OutcomeSet_valueOf_52 rfl (lv_at hl 0 rfl) ?_
            refine va_iald (D := (dC, dI)) hx hb hK hP 2 1 rfl rfl (i := nI (of j)) (pk_in (of j) C (by omega)) d_OutcomeSet_valueOf_53 ?_
            refine tp_i (y := vf (of j)) (by rw [show (nI (of j) : Int32).toNatClampNeg = of j from pk_cl (of j)]) ?_
            refine lv_i2l (v := (vf (of j)).toInt64) hx hb d_OutcomeSet_valueOf_54 rfl ?_
            refine lv_lstore (lv' := [(4, .long ((vf (of j)).toInt64)), (3, .int (nI (of j))), (0, .ref h0), (1, .int (nI j)), (2, .int 9)]) hx hb d_OutcomeSet_valueOf_55 hl (by decide) rfl ?_
            clear hl ls
            intro ls hl
            refine lv_iload_n hx hb d_OutcomeSet_valueOf_57 rfl (lv_at hl 4 rfl) ?_
            refine lv_bipush (v := 8) hx hb d_OutcomeSet_valueOf_58 (by decide) ?_
            refine lv_icmp_ge (tgt := 68) hx hb d_OutcomeSet_valueOf_60 (by decide) (fun c_20 => ?_) (fun c_20 => absurd c_20 (by decide))
            refine tp_pc (pc' := 68) (by rfl) ?_
            refine lv_bipush (v := 11) hx hb d_OutcomeSet_valueOf_68 (by decide) ?_
            refine lv_iconst (v := 1) hx hb d_OutcomeSet_valueOf_70 (by decide) ?_
            refine lv_isub hx hb d_OutcomeSet_valueOf_71 ?_
            refine tp_i (y := 10) (by first | rfl | decide) ?_
            refine lv_iload_n hx hb d_OutcomeSet_valueOf_72 rfl (lv_at hl 4 rfl) ?_
            refine lv_isub hx hb d_OutcomeSet_valueOf_73 ?_
            refine tp_i (y := 1) (by first | rfl | decide) ?_
            refine lv_istore (lv' := [(6, .int 1), (4, .long ((vf (of j)).toInt64)), (3, .int (nI (of j))), (0, .ref h0), (1, .int (nI j)), (2, .int 9)]) hx hb d_OutcomeSet_valueOf_74 hl (by decide) rfl ?_
            clear hl ls
            intro ls hl
            refine lv_lload hx hb d_OutcomeSet_valueOf_76 (lv_at hl 1 rfl) ?_
            refine lv_bipush (v := 7) hx hb d_OutcomeSet_valueOf_78 (by decide) ?_
            refine lv_iload hx hb d_OutcomeSet_valueOf_80 (lv_at hl 0 rfl) ?_
            refine lv_imul hx hb d_OutcomeSet_valueOf_82 ?_
            refine tp_i (y := 7) (by first | rfl | decide) ?_
            refine lv_lshr (v := ((vf (of j)).toInt64) >>> ((7 : Int32).toInt64 &&& 63)) hx hb d_OutcomeSet_valueOf_83 rfl ?_
            refine lv_ldc2 hx hb hown (hw _ m_724) d_OutcomeSet_valueOf_84 ?_
            refine lv_land hx hb d_OutcomeSet_valueOf_87 ?_
            refine tp_l (y := (((vf (of j)).toInt64) >>> ((7 : Int32).toInt64 &&& 63)) &&& 127) rfl ?_
            refine lv_l2i (v := ((((vf (of j)).toInt64) >>> ((7 : Int32).toInt64 &&& 63)) &&& 127).toInt32) hx hb d_OutcomeSet_valueOf_88 rfl ?_
            refine lv_bipush (v := 64) hx hb d_OutcomeSet_valueOf_89 (by decide) ?_
            refine lv_isub hx hb d_OutcomeSet_valueOf_91 ?_
            refine tp_i (y := (((((vf (of j)).toInt64) >>> ((7 : Int32).toInt64 &&& 63)) &&& 127).toInt32) - 64) rfl ?_
            refine tp_i (y := dig9 (vf (of j)).toInt64 1) rfl ?_
            obtain ⟨hP9, hD9, -⟩ := cut3 (wc := [oc h0 3 [.int (nI E), .ref (ad 1), .ref (ad 2), .ref (ad 3), .ref (ad 4), .ref (ad 5), .int (nI n), .int sd, .int rd], la (ad 1) (ck 1) C rf, ia (ad 2) (ck 2) C vf, ia (ad 3) (ck 3) C lf, ia (ad 4) (ck 4) (C * E) sf, ia (ad 5) (ck 5) C (fun i => nI (of i))]) hP hD rfl hS hA [0, 1, 2, 3, 4, 5] (by decide +kernel) rfl
            have hK9 := hK.sub (tys' := []) [] rfl
            refine W.widen (k := 0) (n := 0) (by exact Nat.le_of_ble_eq_true rfl) (by exact Nat.le_of_ble_eq_true rfl) ?_
            exact W.iret (v := (dig9 (vf (of j)).toInt64 1)) hx hb hr (fun t9 ht9 hW => ⟨⟨dig9 (vf (of j)).toInt64 1, (), rfl, by rw [valO, if_pos ⟨c1, by rw [nI_clamp hj]; omega, c3, by decide⟩, nI_clamp hj]; rfl, by rw [ht9]; exact hP9, va_K.moved hW.alike hK9, hD9⟩, hS.F ht9⟩) hS.2.2 d_OutcomeSet_valueOf_92
          · skip
            replace hl : lv_has ls 7 [(0, .ref h0), (1, .int (nI j)), (2, .int 10)] := hl
            refine tp_pc (pc' := 26) (by rfl) ?_
            refine lv_aload_n hx hb d_OutcomeSet_valueOf_26 rfl (lv_at hl 0 rfl) ?_
            refine va_get (D := (dC, dI)) (ci := 3) (v := .ref (ad 5)) (C := R_OutcomeSet) (T := F_OutcomeSet) (N := 9) hx hb hw i_OutcomeSet hown hK hP 0 rfl rfl 5 (by decide) (hw _ m_383) (fun _ h9 => h9) rfl d_OutcomeSet_valueOf_27 ?_
            refine lv_iload_n hx hb d_OutcomeSet_valueOf_30 rfl (lv_at hl 1 rfl) ?_
            refine va_iald (D := (dC, dI)) hx hb hK hP 5 4 rfl rfl (i := nI j) (pk_in j C (by omega)) d_OutcomeSet_valueOf_31 ?_
            refine tp_i (y := nI (of j)) (by rw [show (nI j : Int32).toNatClampNeg = j from pk_cl j]) ?_
            refine lv_istore_n (lv' := [(3, .int (nI (of j))), (0, .ref h0), (1, .int (nI j)), (2, .int 10)]) hx hb d_OutcomeSet_valueOf_32 rfl hl (by decide) rfl ?_
            clear hl ls
            intro ls hl
            refine lv_iload_n hx hb d_OutcomeSet_valueOf_33 rfl (lv_at hl 3 rfl) ?_
            refine lv_bipush (v := 8) hx hb d_OutcomeSet_valueOf_34 (by decide) ?_
            refine lv_icmp_ge (tgt := 48) hx hb d_OutcomeSet_valueOf_36 (by decide) (fun c_21 => ?_) (fun c_21 => absurd c_21 (by decide))
            refine tp_pc (pc' := 48) (by rfl) ?_
            refine lv_aload_n hx hb d_OutcomeSet_valueOf_48 rfl (lv_at hl 1 rfl) ?_
            refine va_get (D := (dC, dI)) (ci := 3) (v := .ref (ad 2)) (C := R_OutcomeSet) (T := F_OutcomeSet) (N := 9) hx hb hw i_OutcomeSet hown hK hP 0 rfl rfl 2 (by decide) (hw _ m_380) (fun _ h9 => h9) rfl d_OutcomeSet_valueOf_49 ?_
            refine lv_iload_n hx hb d_OutcomeSet_valueOf_52 rfl (lv_at hl 0 rfl) ?_
            refine va_iald (D := (dC, dI)) hx hb hK hP 2 1 rfl rfl (i := nI (of j)) (pk_in (of j) C (by omega)) d_OutcomeSet_valueOf_53 ?_
            refine tp_i (y := vf (of j)) (by rw [show (nI (of j) : Int32).toNatClampNeg = of j from pk_cl (of j)]) ?_
            refine lv_i2l (v := (vf (of j)).toInt64) hx hb d_OutcomeSet_valueOf_54 rfl ?_
            refine lv_lstore (lv' := [(4, .long ((vf (of j)).toInt64)), (3, .int (nI (of j))), (0, .ref h0), (1, .int (nI j)), (2, .int 10)]) hx hb d_OutcomeSet_valueOf_55 hl (by decide) rfl ?_
            clear hl ls
            intro ls hl
            refine lv_iload_n hx hb d_OutcomeSet_valueOf_57 rfl (lv_at hl 4 rfl) ?_
            refine lv_bipush (v := 8) hx hb d_OutcomeSet_valueOf_58 (by decide) ?_
            refine lv_icmp_ge (tgt := 68) hx hb d_OutcomeSet_valueOf_60 (by decide) (fun c_22 => ?_) (fun c_22 => absurd c_22 (by decide))
            refine tp_pc (pc' := 68) (by rfl) ?_
            refine lv_bipush (v := 11) hx hb d_OutcomeSet_valueOf_68 (by decide) ?_
            refine lv_iconst (v := 1) hx hb d_OutcomeSet_valueOf_70 (by decide) ?_
            refine lv_isub hx hb d_OutcomeSet_valueOf_71 ?_
            refine tp_i (y := 10) (by first | rfl | decide) ?_
            refine lv_iload_n hx hb d_OutcomeSet_valueOf_72 rfl (lv_at hl 4 rfl) ?_
            refine lv_isub hx hb d_OutcomeSet_valueOf_73 ?_
            refine tp_i (y := 0) (by first | rfl | decide) ?_
            refine lv_istore (lv' := [(6, .int 0), (4, .long ((vf (of j)).toInt64)), (3, .int (nI (of j))), (0, .ref h0), (1, .int (nI j)), (2, .int 10)]) hx hb d_OutcomeSet_valueOf_74 hl (by decide) rfl ?_
            clear hl ls
            intro ls hl
            refine lv_lload hx hb d_OutcomeSet_valueOf_76 (lv_at hl 1 rfl) ?_
            refine lv_bipush (v := 7) hx hb d_OutcomeSet_valueOf_78 (by decide) ?_
            refine lv_iload hx hb d_OutcomeSet_valueOf_80 (lv_at hl 0 rfl) ?_
            refine lv_imul hx hb d_OutcomeSet_valueOf_82 ?_
            refine tp_i (y := 0) (by first | rfl | decide) ?_
            refine lv_lshr (v := ((vf (of j)).toInt64) >>> ((0 : Int32).toInt64 &&& 63)) hx hb d_OutcomeSet_valueOf_83 rfl ?_
            refine lv_ldc2 hx hb hown (hw _ m_724) d_OutcomeSet_valueOf_84 ?_
            refine lv_land hx hb d_OutcomeSet_valueOf_87 ?_
            refine tp_l (y := (((vf (of j)).toInt64) >>> ((0 : Int32).toInt64 &&& 63)) &&& 127) rfl ?_
            refine lv_l2i (v := ((((vf (of j)).toInt64) >>> ((0 : Int32).toInt64 &&& 63)) &&& 127).toInt32) hx hb d_OutcomeSet_valueOf_88 rfl ?_
            refine lv_bipush (v := 64) hx hb d_OutcomeSet_valueOf_89 (by decide) ?_
            refine lv_isub hx hb d_OutcomeSet_valueOf_91 ?_
            refine tp_i (y := (((((vf (of j)).toInt64) >>> ((0 : Int32).toInt64 &&& 63)) &&& 127).toInt32) - 64) rfl ?_
            refine tp_i (y := dig9 (vf (of j)).toInt64 0) rfl ?_
            obtain ⟨hP9, hD9, -⟩ := cut3 (wc := [oc h0 3 [.int (nI E), .ref (ad 1), .ref (ad 2), .ref (ad 3), .ref (ad 4), .ref (ad 5), .int (nI n), .int sd, .int rd], la (ad 1) (ck 1) C rf, ia (ad 2) (ck 2) C vf, ia (ad 3) (ck 3) C lf, ia (ad 4) (ck 4) (C * E) sf, ia (ad 5) (ck 5) C (fun i => nI (of i))]) hP hD rfl hS hA [0, 1, 2, 3, 4, 5] (by decide +kernel) rfl
            have hK9 := hK.sub (tys' := []) [] rfl
            refine W.widen (k := 0) (n := 0) (by exact Nat.le_of_ble_eq_true rfl) (by exact Nat.le_of_ble_eq_true rfl) ?_
            exact W.iret (v := (dig9 (vf (of j)).toInt64 0)) hx hb hr (fun t9 ht9 hW => ⟨⟨dig9 (vf (of j)).toInt64 0, (), rfl, by rw [valO, if_pos ⟨c1, by rw [nI_clamp hj]; omega, c3, by decide⟩, nI_clamp hj]; rfl, by rw [ht9]; exact hP9, va_K.moved hW.alike hK9, hD9⟩, hS.F ht9⟩) hS.2.2 d_OutcomeSet_valueOf_92
        · skip
          have hc4 : ¬ (k < 11) := fun q9 => c4 ((nI_ltI (a := k) (b := 11) (by omega) (by omega)).mpr q9)
          refine tp_pc (pc' := 22) (by rfl) ?_
          refine lv_sipush (v := (-1000)) hx hb d_OutcomeSet_valueOf_22 (by decide) ?_
          obtain ⟨hP9, hD9, -⟩ := cut3 (wc := [oc h0 3 [.int (nI E), .ref (ad 1), .ref (ad 2), .ref (ad 3), .ref (ad 4), .ref (ad 5), .int (nI n), .int sd, .int rd], la (ad 1) (ck 1) C rf, ia (ad 2) (ck 2) C vf, ia (ad 3) (ck 3) C lf, ia (ad 4) (ck 4) (C * E) sf, ia (ad 5) (ck 5) C (fun i => nI (of i))]) hP hD rfl hS hA [0, 1, 2, 3, 4, 5] (by decide +kernel) rfl
          have hK9 := hK.sub (tys' := []) [] rfl
          refine W.widen (k := 0) (n := 0) (by exact Nat.le_of_ble_eq_true rfl) (by exact Nat.le_of_ble_eq_true rfl) ?_
          exact W.iret (v := (-1000)) hx hb hr (fun t9 ht9 hW => ⟨⟨(-1000), (), rfl, by rw [valO, if_neg (fun q => absurd q.2.2.2 (by rw [nI_clamp hk]; omega))], by rw [ht9]; exact hP9, va_K.moved hW.alike hK9, hD9⟩, hS.F ht9⟩) hS.2.2 d_OutcomeSet_valueOf_25
set_option maxHeartbeats 4000000 in
set_option maxRecDepth 100000 in
theorem gen_OutcomeSet_stepOf (l : Launch) (dC : Nat → ClassId) (dI : Nat → Nat → Nat) (h0 : Nat) (ad : Nat → Nat) (ck : Nat → ClassId) (E n C : Nat) (rf : Nat → Int64) (vf lf sf : Nat → Int32) (of : Nat → Nat) (sd rd : Int32) (i9 w9 : Int32) (ln : Nat → Nat) (hC : C ≤ 65536) (hnC : n ≤ C) (hE2 : E ≤ 16) (hs : srt n rf vf of) (hln : ∀ i, i < n → lf i = nI (ln i) ∧ ln i ≤ E) (sz : Nat) : Met l y_OutcomeSet_stepOf w_OutcomeSet_stepOf ({ frames := 0, cells := 0, slots := 0, locals := 0 }) (va_Pc [.ref h0, .int i9, .int w9] (fun U => U.heap.size = sz ∧ va_P (dC, dI) classes [oc h0 3 [.int (nI E), .ref (ad 1), .ref (ad 2), .ref (ad 3), .ref (ad 4), .ref (ad 5), .int (nI n), .int sd, .int rd], la (ad 1) (ck 1) C rf, ia (ad 2) (ck 2) C vf, ia (ad 3) (ck 3) C lf, ia (ad 4) (ck 4) (C * E) sf, ia (ad 5) (ck 5) C (fun i => nI (of i))] U.heap ∧ va_K (dC, dI) classes [((ck 1), .long), ((ck 2), .int), ((ck 3), .int), ((ck 4), .int), ((ck 5), .int)] U ∧ va_D (fun _ => True) [oc h0 3 [.int (nI E), .ref (ad 1), .ref (ad 2), .ref (ad 3), .ref (ad 4), .ref (ad 5), .int (nI n), .int sd, .int rd], la (ad 1) (ck 1) C rf, ia (ad 2) (ck 2) C vf, ia (ad 3) (ck 3) C lf, ia (ad 4) (ck 4) (C * E) sf, ia (ad 5) (ck 5) C (fun i => nI (of i))] ∧ nw U)) (va_Qi (fun (r : Int32) (_ : Unit) => r = stpO E n ln sf of i9 w9) (fun _ t9 => va_P (dC, dI) classes [oc h0 3 [.int (nI E), .ref (ad 1), .ref (ad 2), .ref (ad 3), .ref (ad 4), .ref (ad 5), .int (nI n), .int sd, .int rd], la (ad 1) (ck 1) C rf, ia (ad 2) (ck 2) C vf, ia (ad 3) (ck 3) C lf, ia (ad 4) (ck 4) (C * E) sf, ia (ad 5) (ck 5) C (fun i => nI (of i))] t9.heap ∧ va_K (dC, dI) classes [] t9 ∧ va_D (va_A [oc h0 3 [.int (nI E), .ref (ad 1), .ref (ad 2), .ref (ad 3), .ref (ad 4), .ref (ad 5), .int (nI n), .int sd, .int rd], la (ad 1) (ck 1) C rf, ia (ad 2) (ck 2) C vf, ia (ad 3) (ck 3) C lf, ia (ad 4) (ck 4) (C * E) sf, ia (ad 5) (ck 5) C (fun i => nI (of i))] sz) [oc h0 3 [.int (nI E), .ref (ad 1), .ref (ad 2), .ref (ad 3), .ref (ad 4), .ref (ad 5), .int (nI n), .int sd, .int rd], la (ad 1) (ck 1) C rf, ia (ad 2) (ck 2) C vf, ia (ad 3) (ck 3) C lf, ia (ad 4) (ck 4) (C * E) sf, ia (ad 5) (ck 5) C (fun i => nI (of i))]) (va_A [oc h0 3 [.int (nI E), .ref (ad 1), .ref (ad 2), .ref (ad 3), .ref (ad 4), .ref (ad 5), .int (nI n), .int sd, .int rd], la (ad 1) (ck 1) C rf, ia (ad 2) (ck 2) C vf, ia (ad 3) (ck 3) C lf, ia (ad 4) (ck 4) (C * E) sf, ia (ad 5) (ck 5) C (fun i => nI (of i))] sz)) 0 0 (va_A [oc h0 3 [.int (nI E), .ref (ad 1), .ref (ad 2), .ref (ad 3), .ref (ad 4), .ref (ad 5), .int (nI n), .int sd, .int rd], la (ad 1) (ck 1) C rf, ia (ad 2) (ck 2) C vf, ia (ad 3) (ck 3) C lf, ia (ad 4) (ck 4) (C * E) sf, ia (ad 5) (ck 5) C (fun i => nI (of i))] sz) := by
  refine Met.ofW (cc := b_OutcomeSet_stepOf) (maxL := 4) (ret := (some .int)) (by decide) rfl ?_
  intro p e0 s m args below meth c s₁ B hml hv
  obtain ⟨rfl, hsz, hP, hK, hD0, hn⟩ := hv
  have hx := B.exec
  have hb := B.bytes
  have hr := B.returns
  have hw := fun w (h : w ∈ wt) => atoms_spec (ws := w_OutcomeSet_stepOf) B.pre w (List.mem_cons_of_mem _ h)
  have hown : s.vm.findClass R_OutcomeSet = some m.cls := findClass_of_methodNamed B.named
  have hlocks := B.notSynchronized
  subst hsz
  have hD1 := hD0.self (sz := s.heap.size)
  generalize hAe : va_A [oc h0 3 [.int (nI E), .ref (ad 1), .ref (ad 2), .ref (ad 3), .ref (ad 4), .ref (ad 5), .int (nI n), .int sd, .int rd], la (ad 1) (ck 1) C rf, ia (ad 2) (ck 2) C vf, ia (ad 3) (ck 3) C lf, ia (ad 4) (ck 4) (C * E) sf, ia (ad 5) (ck 5) C (fun i => nI (of i))] s.heap.size = A at hD1 ⊢
  have hA : ∀ q : Nat, s.heap.size ≤ q → A q := fun q h => by rw [← hAe]; exact Or.inr h
  have hD : dd A [h0, (ad 1), (ad 2), (ad 3), (ad 4), (ad 5)] := dd_of hD1 rfl
  clear hAe hD0 hD1
  have hS : va_S A s.heap s.heap [] := va_S.rf
  replace hP : va_P (dC, dI) classes [oc h0 3 [.int (nI E), .ref (ad 1), .ref (ad 2), .ref (ad 3), .ref (ad 4), .ref (ad 5), .int (nI n), .int sd, .int rd], la (ad 1) (ck 1) C rf, ia (ad 2) (ck 2) C vf, ia (ad 3) (ck 3) C lf, ia (ad 4) (ck 4) (C * E) sf, ia (ad 5) (ck 5) C (fun i => nI (of i))] s.heap := hP
  have hl := lv_entry ([.ref h0, .int i9, .int w9]) (n := 4) (Nat.le_of_ble_eq_true rfl)
  rw [lg_entry_eq]
  generalize (lg_sl ([.ref h0, .int i9, .int w9]) ++ List.replicate (4 - (lg_sl ([.ref h0, .int i9, .int w9])).length) Slot.unset).toArray = ls at hl ⊢
  replace hl : lv_has ls 4 [(0, .ref h0), (1, .int i9), (2, .int w9)] := hl
  refine lv_iload_n hx hb d_OutcomeSet_stepOf_0 rfl (lv_at hl 1 rfl) ?_
  refine lv_if_lt (tgt := 12) hx hb d_OutcomeSet_stepOf_1 (by decide) (fun c1 => ?_) (fun c1 => ?_)
  · skip
    refine tp_pc (pc' := 12) (by rfl) ?_
    refine lv_iconst (v := (-1)) hx hb d_OutcomeSet_stepOf_12 (by decide) ?_
    obtain ⟨hP9, hD9, -⟩ := cut3 (wc := [oc h0 3 [.int (nI E), .ref (ad 1), .ref (ad 2), .ref (ad 3), .ref (ad 4), .ref (ad 5), .int (nI n), .int sd, .int rd], la (ad 1) (ck 1) C rf, ia (ad 2) (ck 2) C vf, ia (ad 3) (ck 3) C lf, ia (ad 4) (ck 4) (C * E) sf, ia (ad 5) (ck 5) C (fun i => nI (of i))]) hP hD rfl hS hA [0, 1, 2, 3, 4, 5] (by decide +kernel) rfl
    have hK9 := hK.sub (tys' := []) [] rfl
    refine W.widen (k := 0) (n := 0) (by exact Nat.le_of_ble_eq_true rfl) (by exact Nat.le_of_ble_eq_true rfl) ?_
    exact W.iret (v := (-1)) hx hb hr (fun t9 ht9 hW => ⟨⟨(-1), (), rfl, by rw [stpO, if_neg (fun q => q.1 c1)], by rw [ht9]; exact hP9, va_K.moved hW.alike hK9, hD9⟩, hS.F ht9⟩) hS.2.2 d_OutcomeSet_stepOf_13
  · skip
    obtain ⟨j, hj, ej⟩ := nI_of c1
    subst ej
    replace hl : lv_has ls 4 [(0, .ref h0), (1, .int (nI j)), (2, .int w9)] := hl
    refine tp_pc (pc' := 4) (by rfl) ?_
    refine lv_iload_n hx hb d_OutcomeSet_stepOf_4 rfl (lv_at hl 1 rfl) ?_
    refine lv_aload_n hx hb d_OutcomeSet_stepOf_5 rfl (lv_at hl 0 rfl) ?_
    refine va_get (D := (dC, dI)) (ci := 3) (v := .int (nI n)) (C := R_OutcomeSet) (T := F_OutcomeSet) (N := 9) hx hb hw i_OutcomeSet hown hK hP 0 rfl rfl 6 (by decide) (hw _ m_384) (fun _ h9 => h9) rfl d_OutcomeSet_stepOf_6 ?_
    refine lv_icmp_lt (tgt := 14) hx hb d_OutcomeSet_stepOf_9 (by decide) (fun c2 => ?_) (fun c2 => ?_)
    · skip
      have hc2 : j < n := (nI_ltI (a := j) (b := n) (by omega) (by omega)).mp c2
      have hoj := hs.1 j hc2
      obtain ⟨g1, g2⟩ := hln _ hoj
      refine tp_pc (pc' := 14) (by rfl) ?_
      refine lv_aload_n hx hb d_OutcomeSet_stepOf_14 rfl (lv_at hl 0 rfl) ?_
      refine va_get (D := (dC, dI)) (ci := 3) (v := .ref (ad 5)) (C := R_OutcomeSet) (T := F_OutcomeSet) (N := 9) hx hb hw i_OutcomeSet hown hK hP 0 rfl rfl 5 (by decide) (hw _ m_383) (fun _ h9 => h9) rfl d_OutcomeSet_stepOf_15 ?_
      refine lv_iload_n hx hb d_OutcomeSet_stepOf_18 rfl (lv_at hl 1 rfl) ?_
      refine va_iald (D := (dC, dI)) hx hb hK hP 5 4 rfl rfl (i := nI j) (pk_in j C (by omega)) d_OutcomeSet_stepOf_19 ?_
      refine tp_i (y := nI (of j)) (by rw [show (nI j : Int32).toNatClampNeg = j from pk_cl j]) ?_
      refine lv_istore_n (lv' := [(3, .int (nI (of j))), (0, .ref h0), (1, .int (nI j)), (2, .int w9)]) hx hb d_OutcomeSet_stepOf_20 rfl hl (by decide) rfl ?_
      clear hl ls
      intro ls hl
      refine lv_iload_n hx hb d_OutcomeSet_stepOf_21 rfl (lv_at hl 3 rfl) ?_
      refine lv_if_lt (tgt := 35) hx hb d_OutcomeSet_stepOf_22 (by decide) (fun c3 => ?_) (fun c3 => ?_)
      · skip
        refine tp_pc (pc' := 35) (by rfl) ?_
        refine lv_iconst (v := (-1)) hx hb d_OutcomeSet_stepOf_35 (by decide) ?_
        obtain ⟨hP9, hD9, -⟩ := cut3 (wc := [oc h0 3 [.int (nI E), .ref (ad 1), .ref (ad 2), .ref (ad 3), .ref (ad 4), .ref (ad 5), .int (nI n), .int sd, .int rd], la (ad 1) (ck 1) C rf, ia (ad 2) (ck 2) C vf, ia (ad 3) (ck 3) C lf, ia (ad 4) (ck 4) (C * E) sf, ia (ad 5) (ck 5) C (fun i => nI (of i))]) hP hD rfl hS hA [0, 1, 2, 3, 4, 5] (by decide +kernel) rfl
        have hK9 := hK.sub (tys' := []) [] rfl
        refine W.widen (k := 0) (n := 0) (by exact Nat.le_of_ble_eq_true rfl) (by exact Nat.le_of_ble_eq_true rfl) ?_
        exact W.iret (v := (-1)) hx hb hr (fun t9 ht9 hW => ⟨⟨(-1), (), rfl, by rw [stpO, if_neg (fun q => q.2.2.1 c3)], by rw [ht9]; exact hP9, va_K.moved hW.alike hK9, hD9⟩, hS.F ht9⟩) hS.2.2 d_OutcomeSet_stepOf_36
      · skip
        obtain ⟨k, hk, ek⟩ := nI_of c3
        subst ek
        replace hl : lv_has ls 4 [(3, .int (nI (of j))), (0, .ref h0), (1, .int (nI j)), (2, .int (nI k))] := hl
        refine tp_pc (pc' := 25) (by rfl) ?_
        refine lv_iload_n hx hb d_OutcomeSet_stepOf_25 rfl (lv_at hl 3 rfl) ?_
        refine lv_aload_n hx hb d_OutcomeSet_stepOf_26 rfl (lv_at hl 1 rfl) ?_
        refine va_get (D := (dC, dI)) (ci := 3) (v := .ref (ad 3)) (C := R_OutcomeSet) (T := F_OutcomeSet) (N := 9) hx hb hw i_OutcomeSet hown hK hP 0 rfl rfl 3 (by decide) (hw _ m_381) (fun _ h9 => h9) rfl d_OutcomeSet_stepOf_27 ?_
        refine lv_iload_n hx hb d_OutcomeSet_stepOf_30 rfl (lv_at hl 0 rfl) ?_
        refine va_iald (D := (dC, dI)) hx hb hK hP 3 2 rfl rfl (i := nI (of j)) (pk_in (of j) C (by omega)) d_OutcomeSet_stepOf_31 ?_
        refine tp_i (y := lf (of j)) (by rw [show (nI (of j) : Int32).toNatClampNeg = of j from pk_cl (of j)]) ?_
        refine tp_i (y := nI (ln (of j))) g1 ?_
        refine lv_icmp_lt (tgt := 37) hx hb d_OutcomeSet_stepOf_32 (by decide) (fun c4 => ?_) (fun c4 => ?_)
        · skip
          have hc4 : k < ln (of j) := (nI_ltI (a := k) (b := ln (of j)) (by omega) (by omega)).mp c4
          have e3 : of j * E + E ≤ C * E := by rw [← Nat.succ_mul]; exact Nat.mul_le_mul_right E (by omega)
          have e5 : C * E ≤ 65536 * 16 := Nat.mul_le_mul hC hE2
          refine tp_pc (pc' := 37) (by rfl) ?_
          refine lv_aload_n hx hb d_OutcomeSet_stepOf_37 rfl (lv_at hl 1 rfl) ?_
          refine va_get (D := (dC, dI)) (ci := 3) (v := .ref (ad 4)) (C := R_OutcomeSet) (T := F_OutcomeSet) (N := 9) hx hb hw i_OutcomeSet hown hK hP 0 rfl rfl 4 (by decide) (hw _ m_382) (fun _ h9 => h9) rfl d_OutcomeSet_stepOf_38 ?_
          refine lv_iload_n hx hb d_OutcomeSet_stepOf_41 rfl (lv_at hl 0 rfl) ?_
          refine lv_aload_n hx hb d_OutcomeSet_stepOf_42 rfl (lv_at hl 1 rfl) ?_
          refine va_get (D := (dC, dI)) (ci := 3) (v := .int (nI E)) (C := R_OutcomeSet) (T := F_OutcomeSet) (N := 9) hx hb hw i_OutcomeSet hown hK hP 0 rfl rfl 0 (by decide) (hw _ m_378) (fun _ h9 => h9) rfl d_OutcomeSet_stepOf_43 ?_
          refine lv_imul hx hb d_OutcomeSet_stepOf_46 ?_
          refine tp_i (y := nI ((of j) * E)) (by exact pk_mul (of j) E) ?_
          refine lv_iload_n hx hb d_OutcomeSet_stepOf_47 rfl (lv_at hl 3 rfl) ?_
          refine lv_iadd hx hb d_OutcomeSet_stepOf_48 ?_
          refine tp_i (y := nI ((of j) * E + k)) (by exact nI_add ((of j) * E) k) ?_
          refine va_iald (D := (dC, dI)) hx hb hK hP 4 3 rfl rfl (i := nI ((of j) * E + k)) (pk_in ((of j) * E + k) (C * E) (by omega)) d_OutcomeSet_stepOf_49 ?_
          refine tp_i (y := sf ((of j) * E + k)) (by rw [show (nI ((of j) * E + k) : Int32).toNatClampNeg = (of j) * E + k from pk_cl ((of j) * E + k)]) ?_
          obtain ⟨hP9, hD9, -⟩ := cut3 (wc := [oc h0 3 [.int (nI E), .ref (ad 1), .ref (ad 2), .ref (ad 3), .ref (ad 4), .ref (ad 5), .int (nI n), .int sd, .int rd], la (ad 1) (ck 1) C rf, ia (ad 2) (ck 2) C vf, ia (ad 3) (ck 3) C lf, ia (ad 4) (ck 4) (C * E) sf, ia (ad 5) (ck 5) C (fun i => nI (of i))]) hP hD rfl hS hA [0, 1, 2, 3, 4, 5] (by decide +kernel) rfl
          have hK9 := hK.sub (tys' := []) [] rfl
          refine W.widen (k := 0) (n := 0) (by exact Nat.le_of_ble_eq_true rfl) (by exact Nat.le_of_ble_eq_true rfl) ?_
          exact W.iret (v := (sf ((of j) * E + k))) hx hb hr (fun t9 ht9 hW => ⟨⟨sf ((of j) * E + k), (), rfl, by rw [stpO, if_pos ⟨c1, by rw [nI_clamp hj]; exact hc2, c3, by rw [nI_clamp hj, nI_clamp hk]; exact hc4⟩, nI_clamp hj, nI_clamp hk], by rw [ht9]; exact hP9, va_K.moved hW.alike hK9, hD9⟩, hS.F ht9⟩) hS.2.2 d_OutcomeSet_stepOf_50
        · skip
          have hc4 : ¬ (k < ln (of j)) := fun q9 => c4 ((nI_ltI (a := k) (b := ln (of j)) (by omega) (by omega)).mpr q9)
          refine tp_pc (pc' := 35) (by rfl) ?_
          refine lv_iconst (v := (-1)) hx hb d_OutcomeSet_stepOf_35 (by decide) ?_
          obtain ⟨hP9, hD9, -⟩ := cut3 (wc := [oc h0 3 [.int (nI E), .ref (ad 1), .ref (ad 2), .ref (ad 3), .ref (ad 4), .ref (ad 5), .int (nI n), .int sd, .int rd], la (ad 1) (ck 1) C rf, ia (ad 2) (ck 2) C vf, ia (ad 3) (ck 3) C lf, ia (ad 4) (ck 4) (C * E) sf, ia (ad 5) (ck 5) C (fun i => nI (of i))]) hP hD rfl hS hA [0, 1, 2, 3, 4, 5] (by decide +kernel) rfl
          have hK9 := hK.sub (tys' := []) [] rfl
          refine W.widen (k := 0) (n := 0) (by exact Nat.le_of_ble_eq_true rfl) (by exact Nat.le_of_ble_eq_true rfl) ?_
          exact W.iret (v := (-1)) hx hb hr (fun t9 ht9 hW => ⟨⟨(-1), (), rfl, by rw [stpO, if_neg (fun q => absurd q.2.2.2 (by rw [nI_clamp hj, nI_clamp hk]; exact hc4))], by rw [ht9]; exact hP9, va_K.moved hW.alike hK9, hD9⟩, hS.F ht9⟩) hS.2.2 d_OutcomeSet_stepOf_36
    · skip
      have hc2 : ¬ (j < n) := fun q9 => c2 ((nI_ltI (a := j) (b := n) (by omega) (by omega)).mpr q9)
      refine tp_pc (pc' := 12) (by rfl) ?_
      refine lv_iconst (v := (-1)) hx hb d_OutcomeSet_stepOf_12 (by decide) ?_
      obtain ⟨hP9, hD9, -⟩ := cut3 (wc := [oc h0 3 [.int (nI E), .ref (ad 1), .ref (ad 2), .ref (ad 3), .ref (ad 4), .ref (ad 5), .int (nI n), .int sd, .int rd], la (ad 1) (ck 1) C rf, ia (ad 2) (ck 2) C vf, ia (ad 3) (ck 3) C lf, ia (ad 4) (ck 4) (C * E) sf, ia (ad 5) (ck 5) C (fun i => nI (of i))]) hP hD rfl hS hA [0, 1, 2, 3, 4, 5] (by decide +kernel) rfl
      have hK9 := hK.sub (tys' := []) [] rfl
      refine W.widen (k := 0) (n := 0) (by exact Nat.le_of_ble_eq_true rfl) (by exact Nat.le_of_ble_eq_true rfl) ?_
      exact W.iret (v := (-1)) hx hb hr (fun t9 ht9 hW => ⟨⟨(-1), (), rfl, by rw [stpO, if_neg (fun q => absurd q.2.1 (by rw [nI_clamp hj]; exact hc2))], by rw [ht9]; exact hP9, va_K.moved hW.alike hK9, hD9⟩, hS.F ht9⟩) hS.2.2 d_OutcomeSet_stepOf_13
set_option maxHeartbeats 4000000 in
set_option maxRecDepth 100000 in
theorem gen_Program_empty (l : Launch) (dC : Nat → ClassId) (dI : Nat → Nat → Nat) (pa : Nat) (pA : Nat → Nat) (pK : Nat → ClassId) (T Ac : Nat) (pg : Nat → Nat → Nat) (nm : Nat → Int32)  (sz : Nat) : Met l y_Program_empty w_Program_empty ({ frames := 1, cells := 0, slots := 0, locals := 30 }) (va_Pc [.ref pa] (fun U => U.heap.size = sz ∧ va_P (dC, dI) classes [oc pa 0 [.ref (pA 0), .ref (pA 1), .ref (pA 2), .ref (pA 3), .ref (pA 4), .ref (pA 5), .ref (pA 6), .ref (pA 7), .ref (pA 8), .ref (pA 9), .ref (pA 10), .int (nI T), .int (nI Ac)], ia (pA 0) (pK 0) 4 (fun i => nI ((pg 0) i)), ia (pA 8) (pK 8) 4 (fun i => nI ((pg 8) i)), ia (pA 9) (pK 9) 6 (fun i => nI ((pg 9) i)), ia (pA 10) (pK 10) 3 (fun i => nI ((pg 10) i))] U.heap ∧ va_K (dC, dI) classes [((pK 0), .int), ((pK 8), .int), ((pK 9), .int), ((pK 10), .int)] U ∧ va_D (fun _ => True) [oc pa 0 [.ref (pA 0), .ref (pA 1), .ref (pA 2), .ref (pA 3), .ref (pA 4), .ref (pA 5), .ref (pA 6), .ref (pA 7), .ref (pA 8), .ref (pA 9), .ref (pA 10), .int (nI T), .int (nI Ac)], ia (pA 0) (pK 0) 4 (fun i => nI ((pg 0) i)), ia (pA 8) (pK 8) 4 (fun i => nI ((pg 8) i)), ia (pA 9) (pK 9) 6 (fun i => nI ((pg 9) i)), ia (pA 10) (pK 10) 3 (fun i => nI ((pg 10) i))] ∧ nw U)) (va_Qv (fun _ : Unit => True) (fun _ t9 => va_P (dC, dI) classes [oc pa 0 [.ref (pA 0), .ref (pA 1), .ref (pA 2), .ref (pA 3), .ref (pA 4), .ref (pA 5), .ref (pA 6), .ref (pA 7), .ref (pA 8), .ref (pA 9), .ref (pA 10), .int 0, .int 0], ia (pA 0) (pK 0) 4 (fun _ => 0), ia (pA 8) (pK 8) 4 (fun _ => 0), ia (pA 9) (pK 9) 6 (fun _ => 0), ia (pA 10) (pK 10) 3 (fun _ => 0)] t9.heap ∧ va_K (dC, dI) classes [] t9 ∧ va_D (va_A [oc pa 0 [.ref (pA 0), .ref (pA 1), .ref (pA 2), .ref (pA 3), .ref (pA 4), .ref (pA 5), .ref (pA 6), .ref (pA 7), .ref (pA 8), .ref (pA 9), .ref (pA 10), .int (nI T), .int (nI Ac)], ia (pA 0) (pK 0) 4 (fun i => nI ((pg 0) i)), ia (pA 8) (pK 8) 4 (fun i => nI ((pg 8) i)), ia (pA 9) (pK 9) 6 (fun i => nI ((pg 9) i)), ia (pA 10) (pK 10) 3 (fun i => nI ((pg 10) i))] sz) [oc pa 0 [.ref (pA 0), .ref (pA 1), .ref (pA 2), .ref (pA 3), .ref (pA 4), .ref (pA 5), .ref (pA 6), .ref (pA 7), .ref (pA 8), .ref (pA 9), .ref (pA 10), .int 0, .int 0], ia (pA 0) (pK 0) 4 (fun _ => 0), ia (pA 8) (pK 8) 4 (fun _ => 0), ia (pA 9) (pK 9) 6 (fun _ => 0), ia (pA 10) (pK 10) 3 (fun _ => 0)]) (va_A [oc pa 0 [.ref (pA 0), .ref (pA 1), .ref (pA 2), .ref (pA 3), .ref (pA 4), .ref (pA 5), .ref (pA 6), .ref (pA 7), .ref (pA 8), .ref (pA 9), .ref (pA 10), .int (nI T), .int (nI Ac)], ia (pA 0) (pK 0) 4 (fun i => nI ((pg 0) i)), ia (pA 8) (pK 8) 4 (fun i => nI ((pg 8) i)), ia (pA 9) (pK 9) 6 (fun i => nI ((pg 9) i)), ia (pA 10) (pK 10) 3 (fun i => nI ((pg 10) i))] sz)) 0 0 (va_A [oc pa 0 [.ref (pA 0), .ref (pA 1), .ref (pA 2), .ref (pA 3), .ref (pA 4), .ref (pA 5), .ref (pA 6), .ref (pA 7), .ref (pA 8), .ref (pA 9), .ref (pA 10), .int (nI T), .int (nI Ac)], ia (pA 0) (pK 0) 4 (fun i => nI ((pg 0) i)), ia (pA 8) (pK 8) 4 (fun i => nI ((pg 8) i)), ia (pA 9) (pK 9) 6 (fun i => nI ((pg 9) i)), ia (pA 10) (pK 10) 3 (fun i => nI ((pg 10) i))] sz) := by
  refine Met.ofW (cc := b_Program_empty) (maxL := 1) (ret := none) (by decide) rfl ?_
  intro p e0 s m args below meth c s₁ B hml hv
  obtain ⟨rfl, hsz, hP, hK, hD0, hn⟩ := hv
  have hx := B.exec
  have hb := B.bytes
  have hr := B.returns
  have hw := fun w (h : w ∈ wt) => atoms_spec (ws := w_Program_empty) B.pre w (List.mem_cons_of_mem _ h)
  have hown : s.vm.findClass R_Program = some m.cls := findClass_of_methodNamed B.named
  have hlocks := B.notSynchronized
  subst hsz
  have hD1 := hD0.self (sz := s.heap.size)
  generalize hAe : va_A [oc pa 0 [.ref (pA 0), .ref (pA 1), .ref (pA 2), .ref (pA 3), .ref (pA 4), .ref (pA 5), .ref (pA 6), .ref (pA 7), .ref (pA 8), .ref (pA 9), .ref (pA 10), .int (nI T), .int (nI Ac)], ia (pA 0) (pK 0) 4 (fun i => nI ((pg 0) i)), ia (pA 8) (pK 8) 4 (fun i => nI ((pg 8) i)), ia (pA 9) (pK 9) 6 (fun i => nI ((pg 9) i)), ia (pA 10) (pK 10) 3 (fun i => nI ((pg 10) i))] s.heap.size = A at hD1 ⊢
  have hA : ∀ q : Nat, s.heap.size ≤ q → A q := fun q h => by rw [← hAe]; exact Or.inr h
  have hD : dd A [pa, (pA 0), (pA 8), (pA 9), (pA 10)] := dd_of hD1 rfl
  clear hAe hD0 hD1
  have hS : va_S A s.heap s.heap [] := va_S.rf
  replace hP : va_P (dC, dI) classes [oc pa 0 [.ref (pA 0), .ref (pA 1), .ref (pA 2), .ref (pA 3), .ref (pA 4), .ref (pA 5), .ref (pA 6), .ref (pA 7), .ref (pA 8), .ref (pA 9), .ref (pA 10), .int (nI T), .int (nI Ac)], ia (pA 0) (pK 0) 4 (fun i => nI ((pg 0) i)), ia (pA 8) (pK 8) 4 (fun i => nI ((pg 8) i)), ia (pA 9) (pK 9) 6 (fun i => nI ((pg 9) i)), ia (pA 10) (pK 10) 3 (fun i => nI ((pg 10) i))] s.heap := hP
  have hl := lv_entry ([.ref pa]) (n := 1) (Nat.le_of_ble_eq_true rfl)
  rw [lg_entry_eq]
  generalize (lg_sl ([.ref pa]) ++ List.replicate (1 - (lg_sl ([.ref pa])).length) Slot.unset).toArray = ls at hl ⊢
  replace hl : lv_has ls 1 [(0, .ref pa)] := hl
  refine lv_aload_n hx hb d_Program_empty_0 rfl (lv_at hl 0 rfl) ?_
  refine lv_iconst (v := 0) hx hb d_Program_empty_1 (by decide) ?_
  refine va_put (D := (dC, dI)) (ci := 0) (v := .int 0) (ty := .int) (C := R_Program) (T := F_Program) (N := 13) hx hb hw i_Program t_Program t_Program_ok n_Program hown hK hP (dd_D hD rfl) hS 0 rfl rfl 11 (by decide) (hw _ m_160) (fun _ h9 => h9) rfl (by decide +kernel) rfl rfl (Nat.le_of_ble_eq_true rfl) d_Program_empty_2 ?_
  clear hP hS
  intro H locs (hP : va_P (dC, dI) classes [oc pa 0 [.ref (pA 0), .ref (pA 1), .ref (pA 2), .ref (pA 3), .ref (pA 4), .ref (pA 5), .ref (pA 6), .ref (pA 7), .ref (pA 8), .ref (pA 9), .ref (pA 10), .int 0, .int (nI Ac)], ia (pA 0) (pK 0) 4 (fun i => nI ((pg 0) i)), ia (pA 8) (pK 8) 4 (fun i => nI ((pg 8) i)), ia (pA 9) (pK 9) 6 (fun i => nI ((pg 9) i)), ia (pA 10) (pK 10) 3 (fun i => nI ((pg 10) i))] H) _ hS
  refine tp_pc (pc' := 5) (by rfl) ?_
  refine lv_aload_n hx hb d_Program_empty_5 rfl (lv_at hl 0 rfl) ?_
  refine lv_iconst (v := 0) hx hb d_Program_empty_6 (by decide) ?_
  refine va_put (D := (dC, dI)) (ci := 0) (v := .int 0) (ty := .int) (C := R_Program) (T := F_Program) (N := 13) hx hb hw i_Program t_Program t_Program_ok n_Program hown hK hP (dd_D hD rfl) hS 0 rfl rfl 12 (by decide) (hw _ m_165) (fun _ h9 => h9) rfl (by decide +kernel) rfl rfl (Nat.le_of_ble_eq_true rfl) d_Program_empty_7 ?_
  clear hP hS locs H
  intro H locs (hP : va_P (dC, dI) classes [oc pa 0 [.ref (pA 0), .ref (pA 1), .ref (pA 2), .ref (pA 3), .ref (pA 4), .ref (pA 5), .ref (pA 6), .ref (pA 7), .ref (pA 8), .ref (pA 9), .ref (pA 10), .int 0, .int 0], ia (pA 0) (pK 0) 4 (fun i => nI ((pg 0) i)), ia (pA 8) (pK 8) 4 (fun i => nI ((pg 8) i)), ia (pA 9) (pK 9) 6 (fun i => nI ((pg 9) i)), ia (pA 10) (pK 10) 3 (fun i => nI ((pg 10) i))] H) _ hS
  refine tp_pc (pc' := 10) (by rfl) ?_
  refine lv_aload_n hx hb d_Program_empty_10 rfl (lv_at hl 0 rfl) ?_
  refine va_get (D := (dC, dI)) (ci := 0) (v := .ref (pA 0)) (C := R_Program) (T := F_Program) (N := 13) hx hb hw i_Program hown hK hP 0 rfl rfl 0 (by decide) (hw _ m_128) (fun _ h9 => h9) rfl d_Program_empty_11 ?_
  refine lv_iconst (v := 0) hx hb d_Program_empty_14 (by decide) ?_
  obtain ⟨hPc, hDc, hFc⟩ := cut3 (wc := [ia (pA 0) (pK 0) 4 (fun i => nI ((pg 0) i))]) hP hD rfl hS hA [1] (by decide +kernel) rfl
  have hKc := hK.sub (tys' := [((pK 0), .int)]) [0] rfl
  refine va_callv (va_runS (As := [.ref (pA 0), .int 0]) (rest := []) ⟨hx, hb, hml, hown, hw⟩ (gen_fill l dC dI (pA 0) (pK 0) 4 (fun i => nI (pg 0 i)) 0 (by decide) H.size) (cw_S 2 hw g_Arrays_fill rfl rfl rfl (hw _ m_110) (hw _ m_458) (hw _ m_459) (by decide +kernel) ⟨Nat.le_of_ble_eq_true rfl, Nat.le_of_ble_eq_true rfl⟩) ⟨fun a U g mk q => by obtain ⟨q0, q1, qP, qK, qD, qN⟩ := q; exact ⟨q0, q1, qP, va_K.moved (u := U) (U := U.calling g mk a) (Vm.Alike.refl U.vm) qK, qD, nw_call qN⟩, fun U hU hW => ⟨rfl, by rw [hU], by rw [hU]; exact hPc, va_K.moved hW.alike hKc, hDc.weaken (fun _ _ _ _ => trivial), nw_warm hW hn⟩⟩ rfl rfl hl.1 rfl (lv_room (Nat.le_of_ble_eq_true rfl)) d_Program_empty_15 ⟨Nat.le_of_ble_eq_true rfl, Nat.le_of_ble_eq_true rfl⟩) hS (fun q _ h => hFc q h) hFc ?_
  intro u t9 H1 locs1 ht9 hvm hw1 hB hz1 hk1 hS1
  obtain ⟨hP1, hK1, hD1⟩ := hB
  rw [ht9] at hP1
  replace hK1 := va_K.moved hvm.symm hK1
  have hPD := join3 hP hD rfl [1] [0, 2, 3, 4] rfl (by rfl) (by decide +kernel) (by decide +kernel) hk1 hFc hP1 hD1
  replace hK : va_K (dC, dI) classes [((pK 0), .int), ((pK 8), .int), ((pK 9), .int), ((pK 10), .int)] s := hK.app hK1
  clear hP1 hK1 hD1 hk1 hz1 hFc hKc hDc hPc hvm ht9 hP hS t9 locs H
  have hP : va_P (dC, dI) classes [oc pa 0 [.ref (pA 0), .ref (pA 1), .ref (pA 2), .ref (pA 3), .ref (pA 4), .ref (pA 5), .ref (pA 6), .ref (pA 7), .ref (pA 8), .ref (pA 9), .ref (pA 10), .int 0, .int 0], ia (pA 8) (pK 8) 4 (fun i => nI ((pg 8) i)), ia (pA 9) (pK 9) 6 (fun i => nI ((pg 9) i)), ia (pA 10) (pK 10) 3 (fun i => nI ((pg 10) i)), ia (pA 0) (pK 0) 4 (fun _ => 0)] H1 := hPD.1
  replace hD : dd A [pa, (pA 8), (pA 9), (pA 10), (pA 0)] := dd_of hPD.2 rfl
  clear hPD
  revert H1 locs1
  intro H locs hS hP
  clear hw1 u
  refine tp_pc (pc' := 18) (by rfl) ?_
  refine lv_aload_n hx hb d_Program_empty_18 rfl (lv_at hl 0 rfl) ?_
  refine va_get (D := (dC, dI)) (ci := 0) (v := .ref (pA 8)) (C := R_Program) (T := F_Program) (N := 13) hx hb hw i_Program hown hK hP 0 rfl rfl 8 (by decide) (hw _ m_152) (fun _ h9 => h9) rfl d_Program_empty_19 ?_
  refine lv_iconst (v := 0) hx hb d_Program_empty_22 (by decide) ?_
  obtain ⟨hPc, hDc, hFc⟩ := cut3 (wc := [ia (pA 8) (pK 8) 4 (fun i => nI ((pg 8) i))]) hP hD rfl hS hA [1] (by decide +kernel) rfl
  have hKc := hK.sub (tys' := [((pK 8), .int)]) [1] rfl
  refine va_callv (va_runS (As := [.ref (pA 8), .int 0]) (rest := []) ⟨hx, hb, hml, hown, hw⟩ (gen_fill l dC dI (pA 8) (pK 8) 4 (fun i => nI (pg 8 i)) 0 (by decide) H.size) (cw_S 2 hw g_Arrays_fill rfl rfl rfl (hw _ m_110) (hw _ m_458) (hw _ m_459) (by decide +kernel) ⟨Nat.le_of_ble_eq_true rfl, Nat.le_of_ble_eq_true rfl⟩) ⟨fun a U g mk q => by obtain ⟨q0, q1, qP, qK, qD, qN⟩ := q; exact ⟨q0, q1, qP, va_K.moved (u := U) (U := U.calling g mk a) (Vm.Alike.refl U.vm) qK, qD, nw_call qN⟩, fun U hU hW => ⟨rfl, by rw [hU], by rw [hU]; exact hPc, va_K.moved hW.alike hKc, hDc.weaken (fun _ _ _ _ => trivial), nw_warm hW hn⟩⟩ rfl rfl hl.1 rfl (lv_room (Nat.le_of_ble_eq_true rfl)) d_Program_empty_23 ⟨Nat.le_of_ble_eq_true rfl, Nat.le_of_ble_eq_true rfl⟩) hS (fun q _ h => hFc q h) hFc ?_
  intro u t9 H1 locs1 ht9 hvm hw1 hB hz1 hk1 hS1
  obtain ⟨hP1, hK1, hD1⟩ := hB
  rw [ht9] at hP1
  replace hK1 := va_K.moved hvm.symm hK1
  have hPD := join3 hP hD rfl [1] [0, 2, 3, 4] rfl (by rfl) (by decide +kernel) (by decide +kernel) hk1 hFc hP1 hD1
  replace hK : va_K (dC, dI) classes [((pK 0), .int), ((pK 8), .int), ((pK 9), .int), ((pK 10), .int)] s := hK.app hK1
  clear hP1 hK1 hD1 hk1 hz1 hFc hKc hDc hPc hvm ht9 hP hS t9 locs H
  have hP : va_P (dC, dI) classes [oc pa 0 [.ref (pA 0), .ref (pA 1), .ref (pA 2), .ref (pA 3), .ref (pA 4), .ref (pA 5), .ref (pA 6), .ref (pA 7), .ref (pA 8), .ref (pA 9), .ref (pA 10), .int 0, .int 0], ia (pA 9) (pK 9) 6 (fun i => nI ((pg 9) i)), ia (pA 10) (pK 10) 3 (fun i => nI ((pg 10) i)), ia (pA 0) (pK 0) 4 (fun _ => 0), ia (pA 8) (pK 8) 4 (fun _ => 0)] H1 := hPD.1
  replace hD : dd A [pa, (pA 9), (pA 10), (pA 0), (pA 8)] := dd_of hPD.2 rfl
  clear hPD
  revert H1 locs1
  intro H locs hS hP
  clear hw1 u
  refine tp_pc (pc' := 26) (by rfl) ?_
  refine lv_aload_n hx hb d_Program_empty_26 rfl (lv_at hl 0 rfl) ?_
  refine va_get (D := (dC, dI)) (ci := 0) (v := .ref (pA 9)) (C := R_Program) (T := F_Program) (N := 13) hx hb hw i_Program hown hK hP 0 rfl rfl 9 (by decide) (hw _ m_155) (fun _ h9 => h9) rfl d_Program_empty_27 ?_
  refine lv_iconst (v := 0) hx hb d_Program_empty_30 (by decide) ?_
  obtain ⟨hPc, hDc, hFc⟩ := cut3 (wc := [ia (pA 9) (pK 9) 6 (fun i => nI ((pg 9) i))]) hP hD rfl hS hA [1] (by decide +kernel) rfl
  have hKc := hK.sub (tys' := [((pK 9), .int)]) [2] rfl
  refine va_callv (va_runS (As := [.ref (pA 9), .int 0]) (rest := []) ⟨hx, hb, hml, hown, hw⟩ (gen_fill l dC dI (pA 9) (pK 9) 6 (fun i => nI (pg 9 i)) 0 (by decide) H.size) (cw_S 2 hw g_Arrays_fill rfl rfl rfl (hw _ m_110) (hw _ m_458) (hw _ m_459) (by decide +kernel) ⟨Nat.le_of_ble_eq_true rfl, Nat.le_of_ble_eq_true rfl⟩) ⟨fun a U g mk q => by obtain ⟨q0, q1, qP, qK, qD, qN⟩ := q; exact ⟨q0, q1, qP, va_K.moved (u := U) (U := U.calling g mk a) (Vm.Alike.refl U.vm) qK, qD, nw_call qN⟩, fun U hU hW => ⟨rfl, by rw [hU], by rw [hU]; exact hPc, va_K.moved hW.alike hKc, hDc.weaken (fun _ _ _ _ => trivial), nw_warm hW hn⟩⟩ rfl rfl hl.1 rfl (lv_room (Nat.le_of_ble_eq_true rfl)) d_Program_empty_31 ⟨Nat.le_of_ble_eq_true rfl, Nat.le_of_ble_eq_true rfl⟩) hS (fun q _ h => hFc q h) hFc ?_
  intro u t9 H1 locs1 ht9 hvm hw1 hB hz1 hk1 hS1
  obtain ⟨hP1, hK1, hD1⟩ := hB
  rw [ht9] at hP1
  replace hK1 := va_K.moved hvm.symm hK1
  have hPD := join3 hP hD rfl [1] [0, 2, 3, 4] rfl (by rfl) (by decide +kernel) (by decide +kernel) hk1 hFc hP1 hD1
  replace hK : va_K (dC, dI) classes [((pK 0), .int), ((pK 8), .int), ((pK 9), .int), ((pK 10), .int)] s := hK.app hK1
  clear hP1 hK1 hD1 hk1 hz1 hFc hKc hDc hPc hvm ht9 hP hS t9 locs H
  have hP : va_P (dC, dI) classes [oc pa 0 [.ref (pA 0), .ref (pA 1), .ref (pA 2), .ref (pA 3), .ref (pA 4), .ref (pA 5), .ref (pA 6), .ref (pA 7), .ref (pA 8), .ref (pA 9), .ref (pA 10), .int 0, .int 0], ia (pA 10) (pK 10) 3 (fun i => nI ((pg 10) i)), ia (pA 0) (pK 0) 4 (fun _ => 0), ia (pA 8) (pK 8) 4 (fun _ => 0), ia (pA 9) (pK 9) 6 (fun _ => 0)] H1 := hPD.1
  replace hD : dd A [pa, (pA 10), (pA 0), (pA 8), (pA 9)] := dd_of hPD.2 rfl
  clear hPD
  revert H1 locs1
  intro H locs hS hP
  clear hw1 u
  refine tp_pc (pc' := 34) (by rfl) ?_
  refine lv_aload_n hx hb d_Program_empty_34 rfl (lv_at hl 0 rfl) ?_
  refine va_get (D := (dC, dI)) (ci := 0) (v := .ref (pA 10)) (C := R_Program) (T := F_Program) (N := 13) hx hb hw i_Program hown hK hP 0 rfl rfl 10 (by decide) (hw _ m_157) (fun _ h9 => h9) rfl d_Program_empty_35 ?_
  refine lv_iconst (v := 0) hx hb d_Program_empty_38 (by decide) ?_
  obtain ⟨hPc, hDc, hFc⟩ := cut3 (wc := [ia (pA 10) (pK 10) 3 (fun i => nI ((pg 10) i))]) hP hD rfl hS hA [1] (by decide +kernel) rfl
  have hKc := hK.sub (tys' := [((pK 10), .int)]) [3] rfl
  refine va_callv (va_runS (As := [.ref (pA 10), .int 0]) (rest := []) ⟨hx, hb, hml, hown, hw⟩ (gen_fill l dC dI (pA 10) (pK 10) 3 (fun i => nI (pg 10 i)) 0 (by decide) H.size) (cw_S 2 hw g_Arrays_fill rfl rfl rfl (hw _ m_110) (hw _ m_458) (hw _ m_459) (by decide +kernel) ⟨Nat.le_of_ble_eq_true rfl, Nat.le_of_ble_eq_true rfl⟩) ⟨fun a U g mk q => by obtain ⟨q0, q1, qP, qK, qD, qN⟩ := q; exact ⟨q0, q1, qP, va_K.moved (u := U) (U := U.calling g mk a) (Vm.Alike.refl U.vm) qK, qD, nw_call qN⟩, fun U hU hW => ⟨rfl, by rw [hU], by rw [hU]; exact hPc, va_K.moved hW.alike hKc, hDc.weaken (fun _ _ _ _ => trivial), nw_warm hW hn⟩⟩ rfl rfl hl.1 rfl (lv_room (Nat.le_of_ble_eq_true rfl)) d_Program_empty_39 ⟨Nat.le_of_ble_eq_true rfl, Nat.le_of_ble_eq_true rfl⟩) hS (fun q _ h => hFc q h) hFc ?_
  intro u t9 H1 locs1 ht9 hvm hw1 hB hz1 hk1 hS1
  obtain ⟨hP1, hK1, hD1⟩ := hB
  rw [ht9] at hP1
  replace hK1 := va_K.moved hvm.symm hK1
  have hPD := join3 hP hD rfl [1] [0, 2, 3, 4] rfl (by rfl) (by decide +kernel) (by decide +kernel) hk1 hFc hP1 hD1
  replace hK : va_K (dC, dI) classes [((pK 0), .int), ((pK 8), .int), ((pK 9), .int), ((pK 10), .int)] s := hK.app hK1
  clear hP1 hK1 hD1 hk1 hz1 hFc hKc hDc hPc hvm ht9 hP hS t9 locs H
  have hP : va_P (dC, dI) classes [oc pa 0 [.ref (pA 0), .ref (pA 1), .ref (pA 2), .ref (pA 3), .ref (pA 4), .ref (pA 5), .ref (pA 6), .ref (pA 7), .ref (pA 8), .ref (pA 9), .ref (pA 10), .int 0, .int 0], ia (pA 0) (pK 0) 4 (fun _ => 0), ia (pA 8) (pK 8) 4 (fun _ => 0), ia (pA 9) (pK 9) 6 (fun _ => 0), ia (pA 10) (pK 10) 3 (fun _ => 0)] H1 := hPD.1
  replace hD : dd A [pa, (pA 0), (pA 8), (pA 9), (pA 10)] := dd_of hPD.2 rfl
  clear hPD
  revert H1 locs1
  intro H locs hS hP
  clear hw1 u
  refine tp_pc (pc' := 42) (by rfl) ?_
  obtain ⟨hP9, hD9, -⟩ := cut3 (wc := [oc pa 0 [.ref (pA 0), .ref (pA 1), .ref (pA 2), .ref (pA 3), .ref (pA 4), .ref (pA 5), .ref (pA 6), .ref (pA 7), .ref (pA 8), .ref (pA 9), .ref (pA 10), .int 0, .int 0], ia (pA 0) (pK 0) 4 (fun _ => 0), ia (pA 8) (pK 8) 4 (fun _ => 0), ia (pA 9) (pK 9) 6 (fun _ => 0), ia (pA 10) (pK 10) 3 (fun _ => 0)]) hP hD rfl hS hA [0, 1, 2, 3, 4] (by decide +kernel) rfl
  have hK9 := hK.sub (tys' := []) [] rfl
  refine W.widen (k := 0) (n := 0) (by exact Nat.le_of_ble_eq_true rfl) (by exact Nat.le_of_ble_eq_true rfl) ?_
  exact W.vret hx hb hr (fun t9 ht9 hW => ⟨⟨(), rfl, trivial, by rw [ht9]; exact hP9, va_K.moved hW.alike hK9, hD9⟩, hS.F ht9⟩) hS.2.2 d_Program_empty_42
