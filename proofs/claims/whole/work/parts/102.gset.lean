set_option maxHeartbeats 4000000 in
set_option maxRecDepth 100000 in
theorem gen_StateSet_slotOf (l : Launch) (dC : Nat → ClassId) (dI : Nat → Nat → Nat) (h0 h1 h2 : Nat) (z0 : Int32) (e : Nat) (key : Int64) (kk ks : ClassId) (KL SL : Nat) (kf : Nat → Int64) (sf : Nat → Int32) (he : e ≤ 30) (hSL : 2 ^ e ≤ SL) (hS3 : SL < 2 ^ 31) (hK3 : KL < 2 ^ 31) (hin : ∀ i, i < 2 ^ e → ∃ j, j ≤ KL ∧ sf i = nI j) (sz : Nat) : Met l y_StateSet_slotOf w_StateSet_slotOf ({ frames := 0, cells := 0, slots := 0, locals := 0 }) (va_Pc [.ref h0, .long key] (fun U => U.heap.size = sz ∧ va_P (dC, dI) classes [oc h0 2 [.ref h1, .ref h2, .int z0, .int (nI (2 ^ e))], la h1 kk KL kf, ia h2 ks SL sf] U.heap ∧ va_K (dC, dI) classes [(kk, .long), (ks, .int)] U ∧ va_D (fun _ => True) [oc h0 2 [.ref h1, .ref h2, .int z0, .int (nI (2 ^ e))], la h1 kk KL kf, ia h2 ks SL sf] ∧ nw U)) (va_Qi (fun (r : Int32) (_ : Unit) => r = nI (pr (2 ^ e) sf kf key (2 ^ e) (hsh key e))) (fun _ t => va_P (dC, dI) classes [oc h0 2 [.ref h1, .ref h2, .int z0, .int (nI (2 ^ e))], la h1 kk KL kf, ia h2 ks SL sf] t.heap ∧ va_K (dC, dI) classes [] t ∧ va_D (va_A [oc h0 2 [.ref h1, .ref h2, .int z0, .int (nI (2 ^ e))], la h1 kk KL kf, ia h2 ks SL sf] sz) [oc h0 2 [.ref h1, .ref h2, .int z0, .int (nI (2 ^ e))], la h1 kk KL kf, ia h2 ks SL sf]) (va_A [oc h0 2 [.ref h1, .ref h2, .int z0, .int (nI (2 ^ e))], la h1 kk KL kf, ia h2 ks SL sf] sz)) 0 0 (va_A [oc h0 2 [.ref h1, .ref h2, .int z0, .int (nI (2 ^ e))], la h1 kk KL kf, ia h2 ks SL sf] sz) := by
  refine Met.ofW (cc := b_StateSet_slotOf) (maxL := 6) (ret := (some .int)) (by decide) rfl ?_
  intro p e1 s m args below meth c s₁ B hml hv
  obtain ⟨rfl, hsz, hP, hK, hD0, hn⟩ := hv
  have hx := B.exec
  have hb := B.bytes
  have hr := B.returns
  have hw := fun w (h : w ∈ wt) => atoms_spec (ws := w_StateSet_slotOf) B.pre w (List.mem_cons_of_mem _ h)
  have hown : s.vm.findClass R_StateSet = some m.cls := findClass_of_methodNamed B.named
  have hlocks := B.notSynchronized
  subst hsz
  have hD1 := hD0.self (sz := s.heap.size)
  generalize hAe : va_A [oc h0 2 [.ref h1, .ref h2, .int z0, .int (nI (2 ^ e))], la h1 kk KL kf, ia h2 ks SL sf] s.heap.size = A at hD1 ⊢
  have hA : ∀ q : Nat, s.heap.size ≤ q → A q := fun q h => by rw [← hAe]; exact Or.inr h
  have hD : dd A [h0, h1, h2] := dd_of hD1 rfl
  clear hAe hD0 hD1
  have hS : va_S A s.heap s.heap [] := va_S.rf
  replace hP : va_P (dC, dI) classes [oc h0 2 [.ref h1, .ref h2, .int z0, .int (nI (2 ^ e))], la h1 kk KL kf, ia h2 ks SL sf] s.heap := hP
  have hl := lv_entry ([.ref h0, .long key]) (n := 6) (Nat.le_of_ble_eq_true rfl)
  rw [lg_entry_eq]
  generalize (lg_sl ([.ref h0, .long key]) ++ List.replicate (6 - (lg_sl ([.ref h0, .long key])).length) Slot.unset).toArray = ls at hl ⊢
  replace hl : lv_has ls 6 [(0, .ref h0), (1, .long key)] := hl
  have hp1 : 2 ^ e ≤ 2 ^ 30 := Nat.pow_le_pow_right (by decide) he
  have hp0 : 0 < 2 ^ e := Nat.two_pow_pos e
  refine lv_lload_n hx hb d_StateSet_slotOf_0 rfl (lv_at hl 1 rfl) ?_
  refine lv_ldc2 hx hb hown (hw _ m_492) d_StateSet_slotOf_1 ?_
  refine lv_lmul hx hb d_StateSet_slotOf_4 ?_
  refine lv_bipush (v := 40) hx hb d_StateSet_slotOf_5 (by decide) ?_
  refine lv_lushr hx hb d_StateSet_slotOf_7 rfl ?_
  refine lv_l2i hx hb d_StateSet_slotOf_8 rfl ?_
  refine lv_aload_n hx hb d_StateSet_slotOf_9 rfl (lv_at hl 0 rfl) ?_
  refine va_get (D := (dC, dI)) (ci := 2) (v := .int (nI (2 ^ e))) (C := R_StateSet) (T := F_StateSet) (N := 4) hx hb hw i_StateSet hown hK hP 0 rfl rfl 3 (by decide) (hw _ m_233) (fun _ h9 => h9) rfl d_StateSet_slotOf_10 ?_
  refine lv_iconst (v := 1) hx hb d_StateSet_slotOf_13 (by decide) ?_
  refine lv_isub hx hb d_StateSet_slotOf_14 ?_
  refine lv_iand hx hb d_StateSet_slotOf_15 ?_
  refine tp_i (y := nI (hsh key e)) (by exact pk_and _ e (mask_n he)) ?_
  refine lv_istore_n (lv' := [(3, .int (nI (hsh key e))), (0, .ref h0), (1, .long key)]) hx hb d_StateSet_slotOf_16 rfl hl (by decide) rfl ?_
  clear hl ls
  intro ls hl
  refine lv_iconst (v := 0) hx hb d_StateSet_slotOf_17 (by decide) ?_
  refine lv_istore (lv' := [(4, .int 0), (3, .int (nI (hsh key e))), (0, .ref h0), (1, .long key)]) hx hb d_StateSet_slotOf_18 hl (by decide) rfl ?_
  clear hl ls
  intro ls hl
  refine tp_pc (pc' := 20) (by rfl) ?_
  refine lp_l (2 ^ e) (fun i ls => ∃ a, a < 2 ^ e ∧ a = a ∧ pr (2 ^ e) sf kf key (2 ^ e - i) a = pr (2 ^ e) sf kf key (2 ^ e) (hsh key e) ∧ lv_has ls 6 [(4, .int (nI i)), (3, .int (nI a)), (0, .ref h0), (1, .long key)]) ⟨hsh key e, Nat.mod_lt _ hp0, rfl, rfl, hl⟩ ?_ ?_
  · intro i ls hi hI ih
    obtain ⟨a, ha, -, hpr, hl⟩ := hI
    obtain ⟨n, hn9⟩ : ∃ n, 2 ^ e - i = n + 1 := ⟨2 ^ e - i - 1, by omega⟩
    rw [hn9] at hpr
    refine lv_iload hx hb d_StateSet_slotOf_20 (lv_at hl 0 rfl) ?_
    refine lv_aload_n hx hb d_StateSet_slotOf_22 rfl (lv_at hl 2 rfl) ?_
    refine va_get (D := (dC, dI)) (ci := 2) (v := .int (nI (2 ^ e))) (C := R_StateSet) (T := F_StateSet) (N := 4) hx hb hw i_StateSet hown hK hP 0 rfl rfl 3 (by decide) (hw _ m_233) (fun _ h9 => h9) rfl d_StateSet_slotOf_23 ?_
    refine lv_icmp_ge (tgt := 75) hx hb d_StateSet_slotOf_26 (by decide) (fun c9 => absurd c9 (nI_ge hi (by omega))) (fun _ => ?_)
    refine tp_pc (pc' := 29) (by rfl) ?_
    refine lv_aload_n hx hb d_StateSet_slotOf_29 rfl (lv_at hl 2 rfl) ?_
    refine va_get (D := (dC, dI)) (ci := 2) (v := .ref h2) (C := R_StateSet) (T := F_StateSet) (N := 4) hx hb hw i_StateSet hown hK hP 0 rfl rfl 1 (by decide) (hw _ m_231) (fun _ h9 => h9) rfl d_StateSet_slotOf_30 ?_
    refine lv_iload_n hx hb d_StateSet_slotOf_33 rfl (lv_at hl 1 rfl) ?_
    refine va_iald (D := (dC, dI)) hx hb hK hP 2 1 rfl rfl (i := nI a) (pk_in a SL (by omega)) d_StateSet_slotOf_34 ?_
    rw [nI_clamp (by omega : a < 2 ^ 31)]
    obtain ⟨j, hj, hsj⟩ := hin a ha
    refine lv_istore (lv' := [(5, .int (sf a)), (4, .int (nI i)), (3, .int (nI a)), (0, .ref h0), (1, .long key)]) hx hb d_StateSet_slotOf_35 hl (by decide) rfl ?_
    clear hl ls
    intro ls hl
    refine lv_iload hx hb d_StateSet_slotOf_37 (lv_at hl 0 rfl) ?_
    refine lv_if_eq (tgt := 56) hx hb d_StateSet_slotOf_39 (by decide) (fun c2 => ?_) (fun c2 => ?_)
    · skip
      have hr9 : a = pr (2 ^ e) sf kf key (2 ^ e) (hsh key e) := by rw [← hpr, pr, if_pos (Or.inl c2)]
      refine tp_pc (pc' := 56) (by rfl) ?_
      refine lv_iload_n hx hb d_StateSet_slotOf_56 rfl (lv_at hl 2 rfl) ?_
      obtain ⟨hP9, hD9, -⟩ := cut3 (wc := [oc h0 2 [.ref h1, .ref h2, .int z0, .int (nI (2 ^ e))], la h1 kk KL kf, ia h2 ks SL sf]) hP hD rfl hS hA [0, 1, 2] (by decide +kernel) rfl
      have hK9 := hK.sub (tys' := []) [] rfl
      refine W.widen (k := 0) (n := 0) (by exact Nat.le_of_ble_eq_true rfl) (by exact Nat.le_of_ble_eq_true rfl) ?_
      exact W.iret (v := nI a) hx hb hr (fun t ht hW => ⟨⟨nI a, (), rfl, congrArg nI hr9, by rw [ht]; exact hP9, va_K.moved hW.alike hK9, hD9⟩, hS.F ht⟩) hS.2.2 d_StateSet_slotOf_57
    · skip
      refine tp_pc (pc' := 42) (by rfl) ?_
      have hj0 : 0 < j := by rcases Nat.eq_zero_or_pos j with h | h; (exact absurd (by rw [hsj, h]; rfl) c2); exact h
      refine lv_aload_n hx hb d_StateSet_slotOf_42 rfl (lv_at hl 3 rfl) ?_
      refine va_get (D := (dC, dI)) (ci := 2) (v := .ref h1) (C := R_StateSet) (T := F_StateSet) (N := 4) hx hb hw i_StateSet hown hK hP 0 rfl rfl 0 (by decide) (hw _ m_230) (fun _ h9 => h9) rfl d_StateSet_slotOf_43 ?_
      refine lv_iload hx hb d_StateSet_slotOf_46 (lv_at hl 0 rfl) ?_
      refine lv_iconst (v := 1) hx hb d_StateSet_slotOf_48 (by decide) ?_
      refine lv_isub hx hb d_StateSet_slotOf_49 ?_
      refine tp_i (y := nI (j - 1)) (by rw [hsj]; exact pk_sub (b := 1) hj0) ?_
      refine va_lald (D := (dC, dI)) hx hb hK hP 1 0 rfl rfl (i := nI (j - 1)) (pk_in (j - 1) KL (by omega)) d_StateSet_slotOf_50 ?_
      rw [nI_clamp (by omega : j - 1 < 2 ^ 31)]
      refine lv_lload_n hx hb d_StateSet_slotOf_51 rfl (lv_at hl 4 rfl) ?_
      refine W.lcmp hx hb d_StateSet_slotOf_52 ?_
      refine lv_topi (fun z hz => ?_)
      have hzi := lc0 hz
      have hcl : (sf a).toNatClampNeg - 1 = j - 1 := by rw [hsj, nI_clamp (by omega : j < 2 ^ 31)]
      refine lv_if_ne (tgt := 58) hx hb d_StateSet_slotOf_53 (by decide) (fun c3 => ?_) (fun c3 => ?_)
      · skip
        refine tp_pc (pc' := 58) (by rfl) ?_
        have hpr2 : pr (2 ^ e) sf kf key n ((a + 1) % 2 ^ e) = pr (2 ^ e) sf kf key (2 ^ e) (hsh key e) := by
          rw [← hpr, pr, if_neg]
          rintro (h | h)
          · exact c2 h
          · exact c3 (hzi.mpr (by rw [← hcl]; exact h))
        refine lv_iload_n hx hb d_StateSet_slotOf_58 rfl (lv_at hl 2 rfl) ?_
        refine lv_iconst (v := 1) hx hb d_StateSet_slotOf_59 (by decide) ?_
        refine lv_iadd hx hb d_StateSet_slotOf_60 ?_
        refine lv_aload_n hx hb d_StateSet_slotOf_61 rfl (lv_at hl 3 rfl) ?_
        refine va_get (D := (dC, dI)) (ci := 2) (v := .int (nI (2 ^ e))) (C := R_StateSet) (T := F_StateSet) (N := 4) hx hb hw i_StateSet hown hK hP 0 rfl rfl 3 (by decide) (hw _ m_233) (fun _ h9 => h9) rfl d_StateSet_slotOf_62 ?_
        refine lv_iconst (v := 1) hx hb d_StateSet_slotOf_65 (by decide) ?_
        refine lv_isub hx hb d_StateSet_slotOf_66 ?_
        refine lv_iand hx hb d_StateSet_slotOf_67 ?_
        refine tp_i (y := nI ((a + 1) % 2 ^ e)) (by rw [nI_1]; exact pk_andN (by omega) e (mask_n he)) ?_
        refine lv_istore_n (lv' := [(3, .int (nI ((a + 1) % 2 ^ e))), (5, .int (sf a)), (4, .int (nI i)), (0, .ref h0), (1, .long key)]) hx hb d_StateSet_slotOf_68 rfl hl (by decide) rfl ?_
        clear hl ls
        intro ls hl
        refine lv_iinc (v := nI (i + 1)) (lv' := [(4, .int (nI (i + 1))), (3, .int (nI ((a + 1) % 2 ^ e))), (5, .int (sf a)), (0, .ref h0), (1, .long key)]) hx hb d_StateSet_slotOf_69 hl (k := 2) rfl (nI_1 i) (by decide) rfl ?_
        intro ls hl
        refine lv_goto (tgt := 20) hx hb d_StateSet_slotOf_72 (by decide) ?_
        exact ih _ ⟨(a + 1) % 2 ^ e, Nat.mod_lt _ hp0, rfl, by rw [show 2 ^ e - (i + 1) = n from by omega]; exact hpr2, lv_sub hl [0, 1, 3, 4] rfl⟩
      · skip
        refine tp_pc (pc' := 56) (by rfl) ?_
        have hr9 : a = pr (2 ^ e) sf kf key (2 ^ e) (hsh key e) := by rw [← hpr, pr, if_pos (Or.inr (by rw [hcl]; exact hzi.mp c3))]
        refine lv_iload_n hx hb d_StateSet_slotOf_56 rfl (lv_at hl 2 rfl) ?_
        obtain ⟨hP9, hD9, -⟩ := cut3 (wc := [oc h0 2 [.ref h1, .ref h2, .int z0, .int (nI (2 ^ e))], la h1 kk KL kf, ia h2 ks SL sf]) hP hD rfl hS hA [0, 1, 2] (by decide +kernel) rfl
        have hK9 := hK.sub (tys' := []) [] rfl
        refine W.widen (k := 0) (n := 0) (by exact Nat.le_of_ble_eq_true rfl) (by exact Nat.le_of_ble_eq_true rfl) ?_
        exact W.iret (v := nI a) hx hb hr (fun t ht hW => ⟨⟨nI a, (), rfl, congrArg nI hr9, by rw [ht]; exact hP9, va_K.moved hW.alike hK9, hD9⟩, hS.F ht⟩) hS.2.2 d_StateSet_slotOf_57
  · intro ls hI
    obtain ⟨a, ha, -, hpr, hl⟩ := hI
    have hr9 : a = pr (2 ^ e) sf kf key (2 ^ e) (hsh key e) := by rw [← hpr, Nat.sub_self, pr]
    refine lv_iload hx hb d_StateSet_slotOf_20 (lv_at hl 0 rfl) ?_
    refine lv_aload_n hx hb d_StateSet_slotOf_22 rfl (lv_at hl 2 rfl) ?_
    refine va_get (D := (dC, dI)) (ci := 2) (v := .int (nI (2 ^ e))) (C := R_StateSet) (T := F_StateSet) (N := 4) hx hb hw i_StateSet hown hK hP 0 rfl rfl 3 (by decide) (hw _ m_233) (fun _ h9 => h9) rfl d_StateSet_slotOf_23 ?_
    refine lv_icmp_ge (tgt := 75) hx hb d_StateSet_slotOf_26 (by decide) (fun _ => ?_) (fun c9 => absurd (nI_le (Nat.le_refl _) (by omega)) c9)
    refine tp_pc (pc' := 75) (by rfl) ?_
    refine lv_iload_n hx hb d_StateSet_slotOf_75 rfl (lv_at hl 1 rfl) ?_
    obtain ⟨hP9, hD9, -⟩ := cut3 (wc := [oc h0 2 [.ref h1, .ref h2, .int z0, .int (nI (2 ^ e))], la h1 kk KL kf, ia h2 ks SL sf]) hP hD rfl hS hA [0, 1, 2] (by decide +kernel) rfl
    have hK9 := hK.sub (tys' := []) [] rfl
    refine W.widen (k := 0) (n := 0) (by exact Nat.le_of_ble_eq_true rfl) (by exact Nat.le_of_ble_eq_true rfl) ?_
    exact W.iret (v := nI a) hx hb hr (fun t ht hW => ⟨⟨nI a, (), rfl, congrArg nI hr9, by rw [ht]; exact hP9, va_K.moved hW.alike hK9, hD9⟩, hS.F ht⟩) hS.2.2 d_StateSet_slotOf_76
