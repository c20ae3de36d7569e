set_option maxHeartbeats 4000000 in
set_option maxRecDepth 100000 in
theorem gen_OutcomeSet_firstNotLess (l : Launch) (dC : Nat → ClassId) (dI : Nat → Nat → Nat) (h0 h1 h2 h3 h4 h5 : Nat) (E n C : Nat) (sd rd : Int32) (k1 k2 k5 : ClassId) (rf : Nat → Int64) (vf : Nat → Int32) (of : Nat → Nat) (rk : Int64) (vk : Int32) (hC : C < 2 ^ 30) (hnC : n ≤ C) (hof : ∀ i, i < n → of i < n) (hmo : ∀ i j, i ≤ j → j < n → ltK (rf (of j)) (vf (of j)) rk vk → ltK (rf (of i)) (vf (of i)) rk vk) (sz : Nat) : Met l y_OutcomeSet_firstNotLess w_OutcomeSet_firstNotLess ({ frames := 0, cells := 0, slots := 0, locals := 0 }) (va_Pc [.ref h0, .long rk, .int vk] (fun U => U.heap.size = sz ∧ va_P (dC, dI) classes [oc h0 3 [.int (nI E), .ref h1, .ref h2, .ref h3, .ref h4, .ref h5, .int (nI n), .int sd, .int rd], la h1 k1 C rf, ia h2 k2 C vf, ia h5 k5 C (fun i => nI (of i))] U.heap ∧ va_K (dC, dI) classes [(k1, .long), (k2, .int), (k5, .int)] U ∧ va_D (fun _ => True) [oc h0 3 [.int (nI E), .ref h1, .ref h2, .ref h3, .ref h4, .ref h5, .int (nI n), .int sd, .int rd], la h1 k1 C rf, ia h2 k2 C vf, ia h5 k5 C (fun i => nI (of i))] ∧ nw U)) (va_Qi (fun (r : Int32) (_ : Unit) => ∃ p, r = nI p ∧ p ≤ n ∧ (∀ i, i < p → ltK (rf (of i)) (vf (of i)) rk vk) ∧ (∀ i, p ≤ i → i < n → ¬ ltK (rf (of i)) (vf (of i)) rk vk)) (fun _ t9 => va_P (dC, dI) classes [oc h0 3 [.int (nI E), .ref h1, .ref h2, .ref h3, .ref h4, .ref h5, .int (nI n), .int sd, .int rd], la h1 k1 C rf, ia h2 k2 C vf, ia h5 k5 C (fun i => nI (of i))] t9.heap ∧ va_K (dC, dI) classes [] t9 ∧ va_D (va_A [oc h0 3 [.int (nI E), .ref h1, .ref h2, .ref h3, .ref h4, .ref h5, .int (nI n), .int sd, .int rd], la h1 k1 C rf, ia h2 k2 C vf, ia h5 k5 C (fun i => nI (of i))] sz) [oc h0 3 [.int (nI E), .ref h1, .ref h2, .ref h3, .ref h4, .ref h5, .int (nI n), .int sd, .int rd], la h1 k1 C rf, ia h2 k2 C vf, ia h5 k5 C (fun i => nI (of i))]) (va_A [oc h0 3 [.int (nI E), .ref h1, .ref h2, .ref h3, .ref h4, .ref h5, .int (nI n), .int sd, .int rd], la h1 k1 C rf, ia h2 k2 C vf, ia h5 k5 C (fun i => nI (of i))] sz)) 0 0 (va_A [oc h0 3 [.int (nI E), .ref h1, .ref h2, .ref h3, .ref h4, .ref h5, .int (nI n), .int sd, .int rd], la h1 k1 C rf, ia h2 k2 C vf, ia h5 k5 C (fun i => nI (of i))] sz) := by
  refine Met.ofW (cc := b_OutcomeSet_firstNotLess) (maxL := 10) (ret := (some .int)) (by decide) rfl ?_
  intro p e0 s m args below meth c s₁ B hml hv
  obtain ⟨rfl, hsz, hP, hK, hD0, hn⟩ := hv
  have hx := B.exec
  have hb := B.bytes
  have hr := B.returns
  have hw := fun w (h : w ∈ wt) => atoms_spec (ws := w_OutcomeSet_firstNotLess) B.pre w (List.mem_cons_of_mem _ h)
  have hown : s.vm.findClass R_OutcomeSet = some m.cls := findClass_of_methodNamed B.named
  have hlocks := B.notSynchronized
  subst hsz
  have hD1 := hD0.self (sz := s.heap.size)
  generalize hAe : va_A [oc h0 3 [.int (nI E), .ref h1, .ref h2, .ref h3, .ref h4, .ref h5, .int (nI n), .int sd, .int rd], la h1 k1 C rf, ia h2 k2 C vf, ia h5 k5 C (fun i => nI (of i))] s.heap.size = A at hD1 ⊢
  have hA : ∀ q : Nat, s.heap.size ≤ q → A q := fun q h => by rw [← hAe]; exact Or.inr h
  have hD : dd A [h0, h1, h2, h5] := dd_of hD1 rfl
  clear hAe hD0 hD1
  have hS : va_S A s.heap s.heap [] := va_S.rf
  replace hP : va_P (dC, dI) classes [oc h0 3 [.int (nI E), .ref h1, .ref h2, .ref h3, .ref h4, .ref h5, .int (nI n), .int sd, .int rd], la h1 k1 C rf, ia h2 k2 C vf, ia h5 k5 C (fun i => nI (of i))] s.heap := hP
  have hl := lv_entry ([.ref h0, .long rk, .int vk]) (n := 10) (Nat.le_of_ble_eq_true rfl)
  rw [lg_entry_eq]
  generalize (lg_sl ([.ref h0, .long rk, .int vk]) ++ List.replicate (10 - (lg_sl ([.ref h0, .long rk, .int vk])).length) Slot.unset).toArray = ls at hl ⊢
  replace hl : lv_has ls 10 [(0, .ref h0), (1, .long rk), (3, .int vk)] := hl
  refine lv_iconst (v := 0) hx hb d_OutcomeSet_firstNotLess_0 (by decide) ?_
  refine lv_istore (lv' := [(4, .int 0), (0, .ref h0), (1, .long rk), (3, .int vk)]) hx hb d_OutcomeSet_firstNotLess_1 hl (by decide) rfl ?_
  clear hl ls
  intro ls hl
  refine lv_aload_n hx hb d_OutcomeSet_firstNotLess_3 rfl (lv_at hl 1 rfl) ?_
  refine va_get (D := (dC, dI)) (ci := 3) (v := .int (nI n)) (C := R_OutcomeSet) (T := F_OutcomeSet) (N := 9) hx hb hw i_OutcomeSet hown hK hP 0 rfl rfl 6 (by decide) (hw _ m_384) (fun _ h9 => h9) rfl d_OutcomeSet_firstNotLess_4 ?_
  refine lv_istore (lv' := [(5, .int (nI n)), (4, .int 0), (0, .ref h0), (1, .long rk), (3, .int vk)]) hx hb d_OutcomeSet_firstNotLess_7 hl (by decide) rfl ?_
  clear hl ls
  intro ls hl
  refine lv_iconst (v := 0) hx hb d_OutcomeSet_firstNotLess_9 (by decide) ?_
  refine lv_istore (lv' := [(6, .int 0), (5, .int (nI n)), (4, .int 0), (0, .ref h0), (1, .long rk), (3, .int vk)]) hx hb d_OutcomeSet_firstNotLess_10 hl (by decide) rfl ?_
  clear hl ls
  intro ls hl
  refine lp_l 32 (fun i ls => ∃ lo hi, lo ≤ hi ∧ hi ≤ n ∧ hi - lo < 2 ^ (32 - i) ∧ (∀ j, j < lo → ltK (rf (of j)) (vf (of j)) rk vk) ∧ (∀ j, hi ≤ j → j < n → ¬ ltK (rf (of j)) (vf (of j)) rk vk) ∧ lv_has ls 10 [(6, .int (nI i)), (5, .int (nI hi)), (4, .int (nI lo)), (0, .ref h0), (1, .long rk), (3, .int vk)]) ⟨0, n, Nat.zero_le _, Nat.le_refl _, by show n - 0 < 4294967296; omega, fun j hj => absurd hj (Nat.not_lt_zero j), fun j h1 h2 => absurd h2 (by omega), hl⟩ ?_ ?_
  · intro i ls hi0 hI ih
    obtain ⟨lo, hi, u1, u2, u3, u4, u5, hl⟩ := hI
    refine lv_iload hx hb d_OutcomeSet_firstNotLess_12 (lv_at hl 0 rfl) ?_
    refine lv_bipush (v := 32) hx hb d_OutcomeSet_firstNotLess_14 (by decide) ?_
    refine lv_icmp_ge (tgt := 110) hx hb d_OutcomeSet_firstNotLess_16 (by decide) (fun c9 => absurd c9 (nI_ge (b := 32) hi0 (by omega))) (fun c9 => ?_)
    refine tp_pc (pc' := 19) (by rfl) ?_
    refine lv_iload hx hb d_OutcomeSet_firstNotLess_19 (lv_at hl 2 rfl) ?_
    refine lv_iload hx hb d_OutcomeSet_firstNotLess_21 (lv_at hl 1 rfl) ?_
    refine lv_icmp_ge (tgt := 110) hx hb d_OutcomeSet_firstNotLess_23 (by decide) (fun c1 => ?_) (fun c1 => ?_)
    · skip
      have hc1 : hi ≤ lo := (nI_leI (a := hi) (b := lo) (by omega) (by omega)).mp c1
      refine tp_pc (pc' := 110) (by rfl) ?_
      refine lv_iload hx hb d_OutcomeSet_firstNotLess_110 (lv_at hl 2 rfl) ?_
      obtain ⟨hP9, hD9, -⟩ := cut3 (wc := [oc h0 3 [.int (nI E), .ref h1, .ref h2, .ref h3, .ref h4, .ref h5, .int (nI n), .int sd, .int rd], la h1 k1 C rf, ia h2 k2 C vf, ia h5 k5 C (fun i => nI (of i))]) hP hD rfl hS hA [0, 1, 2, 3] (by decide +kernel) rfl
      have hK9 := hK.sub (tys' := []) [] rfl
      refine W.widen (k := 0) (n := 0) (by exact Nat.le_of_ble_eq_true rfl) (by exact Nat.le_of_ble_eq_true rfl) ?_
      exact W.iret (v := (nI lo)) hx hb hr (fun t9 ht9 hW => ⟨⟨nI lo, (), rfl, ⟨lo, rfl, by omega, u4, fun j a b => u5 j (by omega) b⟩, by rw [ht9]; exact hP9, va_K.moved hW.alike hK9, hD9⟩, hS.F ht9⟩) hS.2.2 d_OutcomeSet_firstNotLess_112
    · skip
      have hc1 : ¬ (hi ≤ lo) := fun q9 => c1 ((nI_leI (a := hi) (b := lo) (by omega) (by omega)).mpr q9)
      obtain ⟨md, hmd⟩ : ∃ md, md = (lo + hi) / 2 := ⟨_, rfl⟩
      have hq : 2 ^ (32 - i) = 2 * 2 ^ (32 - (i + 1)) := by rw [show 32 - i = 32 - (i + 1) + 1 from by omega, Nat.pow_succ]; omega
      refine tp_pc (pc' := 26) (by rfl) ?_
      refine lv_iload hx hb d_OutcomeSet_firstNotLess_26 (lv_at hl 2 rfl) ?_
      refine lv_iload hx hb d_OutcomeSet_firstNotLess_28 (lv_at hl 1 rfl) ?_
      refine lv_iadd hx hb d_OutcomeSet_firstNotLess_30 ?_
      refine tp_i (y := nI (lo + hi)) (by exact nI_add lo hi) ?_
      refine lv_iconst (v := 1) hx hb d_OutcomeSet_firstNotLess_31 (by decide) ?_
      refine lv_ishr hx hb d_OutcomeSet_firstNotLess_32 ?_
      refine tp_i (y := nI md) (by rw [hmd]; exact pk_shrN (by omega) 1 1 (by decide)) ?_
      have hmn : md < n := by omega
      have hon := hof md hmn
      refine lv_istore (lv' := [(7, .int (nI md)), (6, .int (nI i)), (5, .int (nI hi)), (4, .int (nI lo)), (0, .ref h0), (1, .long rk), (3, .int vk)]) hx hb d_OutcomeSet_firstNotLess_33 hl (by decide) rfl ?_
      clear hl ls
      intro ls hl
      refine lv_aload_n hx hb d_OutcomeSet_firstNotLess_35 rfl (lv_at hl 4 rfl) ?_
      refine va_get (D := (dC, dI)) (ci := 3) (v := .ref h5) (C := R_OutcomeSet) (T := F_OutcomeSet) (N := 9) hx hb hw i_OutcomeSet hown hK hP 0 rfl rfl 5 (by decide) (hw _ m_383) (fun _ h9 => h9) rfl d_OutcomeSet_firstNotLess_36 ?_
      refine lv_iload hx hb d_OutcomeSet_firstNotLess_39 (lv_at hl 0 rfl) ?_
      refine va_iald (D := (dC, dI)) hx hb hK hP 3 2 rfl rfl (i := nI md) (pk_in md C (by omega)) d_OutcomeSet_firstNotLess_41 ?_
      refine tp_i (y := nI (of md)) (by rw [show (nI md : Int32).toNatClampNeg = md from pk_cl md]) ?_
      refine lv_istore (lv' := [(8, .int (nI (of md))), (7, .int (nI md)), (6, .int (nI i)), (5, .int (nI hi)), (4, .int (nI lo)), (0, .ref h0), (1, .long rk), (3, .int vk)]) hx hb d_OutcomeSet_firstNotLess_42 hl (by decide) rfl ?_
      clear hl ls
      intro ls hl
      refine lv_aload_n hx hb d_OutcomeSet_firstNotLess_44 rfl (lv_at hl 5 rfl) ?_
      refine va_get (D := (dC, dI)) (ci := 3) (v := .ref h1) (C := R_OutcomeSet) (T := F_OutcomeSet) (N := 9) hx hb hw i_OutcomeSet hown hK hP 0 rfl rfl 1 (by decide) (hw _ m_379) (fun _ h9 => h9) rfl d_OutcomeSet_firstNotLess_45 ?_
      refine lv_iload hx hb d_OutcomeSet_firstNotLess_48 (lv_at hl 0 rfl) ?_
      refine va_lald (D := (dC, dI)) hx hb hK hP 1 0 rfl rfl (i := nI (of md)) (pk_in (of md) C (by omega)) d_OutcomeSet_firstNotLess_50 ?_
      refine tp_l (y := rf (of md)) (by rw [show (nI (of md) : Int32).toNatClampNeg = of md from pk_cl (of md)]) ?_
      refine lv_lload_n hx hb d_OutcomeSet_firstNotLess_51 rfl (lv_at hl 6 rfl) ?_
      refine W.lcmp hx hb d_OutcomeSet_firstNotLess_52 ?_
      refine lv_topi (fun z_1 hz_1 => ?_)
      refine lv_if_lt (tgt := 79) hx hb d_OutcomeSet_firstNotLess_53 (by decide) (fun c2 => ?_) (fun c2 => ?_)
      · skip
        refine tp_pc (pc' := 79) (by rfl) ?_
        refine lv_iconst (v := 1) hx hb d_OutcomeSet_firstNotLess_79 (by decide) ?_
        refine lv_goto (tgt := 84) hx hb d_OutcomeSet_firstNotLess_80 (by decide) ?_
        refine tp_pc (pc' := 84) (by rfl) ?_
        refine lv_istore (lv' := [(9, .int 1), (8, .int (nI (of md))), (7, .int (nI md)), (6, .int (nI i)), (5, .int (nI hi)), (4, .int (nI lo)), (0, .ref h0), (1, .long rk), (3, .int vk)]) hx hb d_OutcomeSet_firstNotLess_84 hl (by decide) rfl ?_
        clear hl ls
        intro ls hl
        refine lv_iload hx hb d_OutcomeSet_firstNotLess_86 (lv_at hl 0 rfl) ?_
        refine lv_if_eq (tgt := 100) hx hb d_OutcomeSet_firstNotLess_88 (by decide) (fun c_2 => absurd c_2 (by decide)) (fun c_2 => ?_)
        refine tp_pc (pc' := 91) (by rfl) ?_
        refine lv_iload hx hb d_OutcomeSet_firstNotLess_91 (lv_at hl 2 rfl) ?_
        refine lv_iconst (v := 1) hx hb d_OutcomeSet_firstNotLess_93 (by decide) ?_
        refine lv_iadd hx hb d_OutcomeSet_firstNotLess_94 ?_
        refine tp_i (y := nI (md + 1)) (by exact nI_add md 1) ?_
        refine lv_istore (lv' := [(4, .int (nI (md + 1))), (9, .int 1), (8, .int (nI (of md))), (7, .int (nI md)), (6, .int (nI i)), (5, .int (nI hi)), (0, .ref h0), (1, .long rk), (3, .int vk)]) hx hb d_OutcomeSet_firstNotLess_95 hl (by decide) rfl ?_
        clear hl ls
        intro ls hl
        refine lv_goto (tgt := 104) hx hb d_OutcomeSet_firstNotLess_97 (by decide) ?_
        refine tp_pc (pc' := 104) (by rfl) ?_
        refine lv_iinc (v := nI (i + 1)) (lv' := [(6, .int (nI (i + 1))), (4, .int (nI (md + 1))), (9, .int 1), (8, .int (nI (of md))), (7, .int (nI md)), (5, .int (nI hi)), (0, .ref h0), (1, .long rk), (3, .int vk)]) hx hb d_OutcomeSet_firstNotLess_104 hl (k := 4) rfl (by exact nI_1 i) (by decide) rfl ?_
        clear hl ls
        intro ls hl
        refine lv_goto (tgt := 12) hx hb d_OutcomeSet_firstNotLess_107 (by decide) ?_
        refine tp_pc (pc' := 12) (by rfl) ?_
        exact ih _ ⟨md + 1, hi, by omega, u2, by omega, fun j hj => hmo j md (by omega) hmn (Or.inl ((lcL hz_1).mp c2)), u5, lv_sub hl [0, 5, 1, 6, 7, 8] rfl⟩
      · skip
        refine tp_pc (pc' := 56) (by rfl) ?_
        refine lv_aload_n hx hb d_OutcomeSet_firstNotLess_56 rfl (lv_at hl 5 rfl) ?_
        refine va_get (D := (dC, dI)) (ci := 3) (v := .ref h1) (C := R_OutcomeSet) (T := F_OutcomeSet) (N := 9) hx hb hw i_OutcomeSet hown hK hP 0 rfl rfl 1 (by decide) (hw _ m_379) (fun _ h9 => h9) rfl d_OutcomeSet_firstNotLess_57 ?_
        refine lv_iload hx hb d_OutcomeSet_firstNotLess_60 (lv_at hl 0 rfl) ?_
        refine va_lald (D := (dC, dI)) hx hb hK hP 1 0 rfl rfl (i := nI (of md)) (pk_in (of md) C (by omega)) d_OutcomeSet_firstNotLess_62 ?_
        refine tp_l (y := rf (of md)) (by rw [show (nI (of md) : Int32).toNatClampNeg = of md from pk_cl (of md)]) ?_
        refine lv_lload_n hx hb d_OutcomeSet_firstNotLess_63 rfl (lv_at hl 6 rfl) ?_
        refine W.lcmp hx hb d_OutcomeSet_firstNotLess_64 ?_
        refine lv_topi (fun z_3 hz_3 => ?_)
        refine lv_if_ne (tgt := 83) hx hb d_OutcomeSet_firstNotLess_65 (by decide) (fun c3 => ?_) (fun c3 => ?_)
        · skip
          refine tp_pc (pc' := 83) (by rfl) ?_
          refine lv_iconst (v := 0) hx hb d_OutcomeSet_firstNotLess_83 (by decide) ?_
          refine lv_istore (lv' := [(9, .int 0), (8, .int (nI (of md))), (7, .int (nI md)), (6, .int (nI i)), (5, .int (nI hi)), (4, .int (nI lo)), (0, .ref h0), (1, .long rk), (3, .int vk)]) hx hb d_OutcomeSet_firstNotLess_84 hl (by decide) rfl ?_
          clear hl ls
          intro ls hl
          refine lv_iload hx hb d_OutcomeSet_firstNotLess_86 (lv_at hl 0 rfl) ?_
          refine lv_if_eq (tgt := 100) hx hb d_OutcomeSet_firstNotLess_88 (by decide) (fun c_4 => ?_) (fun c_4 => absurd c_4 (by decide))
          refine tp_pc (pc' := 100) (by rfl) ?_
          refine lv_iload hx hb d_OutcomeSet_firstNotLess_100 (lv_at hl 2 rfl) ?_
          refine lv_istore (lv' := [(5, .int (nI md)), (9, .int 0), (8, .int (nI (of md))), (7, .int (nI md)), (6, .int (nI i)), (4, .int (nI lo)), (0, .ref h0), (1, .long rk), (3, .int vk)]) hx hb d_OutcomeSet_firstNotLess_102 hl (by decide) rfl ?_
          clear hl ls
          intro ls hl
          refine lv_iinc (v := nI (i + 1)) (lv' := [(6, .int (nI (i + 1))), (5, .int (nI md)), (9, .int 0), (8, .int (nI (of md))), (7, .int (nI md)), (4, .int (nI lo)), (0, .ref h0), (1, .long rk), (3, .int vk)]) hx hb d_OutcomeSet_firstNotLess_104 hl (k := 4) rfl (by exact nI_1 i) (by decide) rfl ?_
          clear hl ls
          intro ls hl
          refine lv_goto (tgt := 12) hx hb d_OutcomeSet_firstNotLess_107 (by decide) ?_
          refine tp_pc (pc' := 12) (by rfl) ?_
          exact ih _ ⟨lo, md, by omega, by omega, by omega, u4, fun j a b q => absurd (hmo md j a b q) (fun q9 => q9.elim (fun q => c2 ((lcL hz_1).mpr q)) (fun q => c3 ((lc0 hz_3).mpr q.1))), lv_sub hl [0, 1, 5, 6, 7, 8] rfl⟩
        · skip
          refine tp_pc (pc' := 68) (by rfl) ?_
          refine lv_aload_n hx hb d_OutcomeSet_firstNotLess_68 rfl (lv_at hl 5 rfl) ?_
          refine va_get (D := (dC, dI)) (ci := 3) (v := .ref h2) (C := R_OutcomeSet) (T := F_OutcomeSet) (N := 9) hx hb hw i_OutcomeSet hown hK hP 0 rfl rfl 2 (by decide) (hw _ m_380) (fun _ h9 => h9) rfl d_OutcomeSet_firstNotLess_69 ?_
          refine lv_iload hx hb d_OutcomeSet_firstNotLess_72 (lv_at hl 0 rfl) ?_
          refine va_iald (D := (dC, dI)) hx hb hK hP 2 1 rfl rfl (i := nI (of md)) (pk_in (of md) C (by omega)) d_OutcomeSet_firstNotLess_74 ?_
          refine tp_i (y := vf (of md)) (by rw [show (nI (of md) : Int32).toNatClampNeg = of md from pk_cl (of md)]) ?_
          refine lv_iload_n hx hb d_OutcomeSet_firstNotLess_75 rfl (lv_at hl 7 rfl) ?_
          refine lv_icmp_ge (tgt := 83) hx hb d_OutcomeSet_firstNotLess_76 (by decide) (fun c4 => ?_) (fun c4 => ?_)
          · skip
            refine tp_pc (pc' := 83) (by rfl) ?_
            refine lv_iconst (v := 0) hx hb d_OutcomeSet_firstNotLess_83 (by decide) ?_
            refine lv_istore (lv' := [(9, .int 0), (8, .int (nI (of md))), (7, .int (nI md)), (6, .int (nI i)), (5, .int (nI hi)), (4, .int (nI lo)), (0, .ref h0), (1, .long rk), (3, .int vk)]) hx hb d_OutcomeSet_firstNotLess_84 hl (by decide) rfl ?_
            clear hl ls
            intro ls hl
            refine lv_iload hx hb d_OutcomeSet_firstNotLess_86 (lv_at hl 0 rfl) ?_
            refine lv_if_eq (tgt := 100) hx hb d_OutcomeSet_firstNotLess_88 (by decide) (fun c_5 => ?_) (fun c_5 => absurd c_5 (by decide))
            refine tp_pc (pc' := 100) (by rfl) ?_
            refine lv_iload hx hb d_OutcomeSet_firstNotLess_100 (lv_at hl 2 rfl) ?_
            refine lv_istore (lv' := [(5, .int (nI md)), (9, .int 0), (8, .int (nI (of md))), (7, .int (nI md)), (6, .int (nI i)), (4, .int (nI lo)), (0, .ref h0), (1, .long rk), (3, .int vk)]) hx hb d_OutcomeSet_firstNotLess_102 hl (by decide) rfl ?_
            clear hl ls
            intro ls hl
            refine lv_iinc (v := nI (i + 1)) (lv' := [(6, .int (nI (i + 1))), (5, .int (nI md)), (9, .int 0), (8, .int (nI (of md))), (7, .int (nI md)), (4, .int (nI lo)), (0, .ref h0), (1, .long rk), (3, .int vk)]) hx hb d_OutcomeSet_firstNotLess_104 hl (k := 4) rfl (by exact nI_1 i) (by decide) rfl ?_
            clear hl ls
            intro ls hl
            refine lv_goto (tgt := 12) hx hb d_OutcomeSet_firstNotLess_107 (by decide) ?_
            refine tp_pc (pc' := 12) (by rfl) ?_
            exact ih _ ⟨lo, md, by omega, by omega, by omega, u4, fun j a b q => absurd (hmo md j a b q) (fun q9 => q9.elim (fun q => c2 ((lcL hz_1).mpr q)) (fun q => absurd q.2 (Int32.not_lt.mpr c4))), lv_sub hl [0, 1, 5, 6, 7, 8] rfl⟩
          · skip
            refine tp_pc (pc' := 79) (by rfl) ?_
            refine lv_iconst (v := 1) hx hb d_OutcomeSet_firstNotLess_79 (by decide) ?_
            refine lv_goto (tgt := 84) hx hb d_OutcomeSet_firstNotLess_80 (by decide) ?_
            refine tp_pc (pc' := 84) (by rfl) ?_
            refine lv_istore (lv' := [(9, .int 1), (8, .int (nI (of md))), (7, .int (nI md)), (6, .int (nI i)), (5, .int (nI hi)), (4, .int (nI lo)), (0, .ref h0), (1, .long rk), (3, .int vk)]) hx hb d_OutcomeSet_firstNotLess_84 hl (by decide) rfl ?_
            clear hl ls
            intro ls hl
            refine lv_iload hx hb d_OutcomeSet_firstNotLess_86 (lv_at hl 0 rfl) ?_
            refine lv_if_eq (tgt := 100) hx hb d_OutcomeSet_firstNotLess_88 (by decide) (fun c_6 => absurd c_6 (by decide)) (fun c_6 => ?_)
            refine tp_pc (pc' := 91) (by rfl) ?_
            refine lv_iload hx hb d_OutcomeSet_firstNotLess_91 (lv_at hl 2 rfl) ?_
            refine lv_iconst (v := 1) hx hb d_OutcomeSet_firstNotLess_93 (by decide) ?_
            refine lv_iadd hx hb d_OutcomeSet_firstNotLess_94 ?_
            refine tp_i (y := nI (md + 1)) (by exact nI_add md 1) ?_
            refine lv_istore (lv' := [(4, .int (nI (md + 1))), (9, .int 1), (8, .int (nI (of md))), (7, .int (nI md)), (6, .int (nI i)), (5, .int (nI hi)), (0, .ref h0), (1, .long rk), (3, .int vk)]) hx hb d_OutcomeSet_firstNotLess_95 hl (by decide) rfl ?_
            clear hl ls
            intro ls hl
            refine lv_goto (tgt := 104) hx hb d_OutcomeSet_firstNotLess_97 (by decide) ?_
            refine tp_pc (pc' := 104) (by rfl) ?_
            refine lv_iinc (v := nI (i + 1)) (lv' := [(6, .int (nI (i + 1))), (4, .int (nI (md + 1))), (9, .int 1), (8, .int (nI (of md))), (7, .int (nI md)), (5, .int (nI hi)), (0, .ref h0), (1, .long rk), (3, .int vk)]) hx hb d_OutcomeSet_firstNotLess_104 hl (k := 4) rfl (by exact nI_1 i) (by decide) rfl ?_
            clear hl ls
            intro ls hl
            refine lv_goto (tgt := 12) hx hb d_OutcomeSet_firstNotLess_107 (by decide) ?_
            refine tp_pc (pc' := 12) (by rfl) ?_
            exact ih _ ⟨md + 1, hi, by omega, u2, by omega, fun j hj => hmo j md (by omega) hmn (Or.inr ⟨(lc0 hz_3).mp c3, Int32.not_le.mp c4⟩), u5, lv_sub hl [0, 5, 1, 6, 7, 8] rfl⟩
  · intro ls hI
    obtain ⟨lo, hi, u1, u2, u3, u4, u5, hl⟩ := hI
    refine lv_iload hx hb d_OutcomeSet_firstNotLess_12 (lv_at hl 0 rfl) ?_
    refine lv_bipush (v := 32) hx hb d_OutcomeSet_firstNotLess_14 (by decide) ?_
    refine lv_icmp_ge (tgt := 110) hx hb d_OutcomeSet_firstNotLess_16 (by decide) (fun c9 => ?_) (fun c9 => absurd (show (32 : Int32) ≤ nI 32 from by decide) c9)
    refine tp_pc (pc' := 110) (by rfl) ?_
    refine lv_iload hx hb d_OutcomeSet_firstNotLess_110 (lv_at hl 2 rfl) ?_
    obtain ⟨hP9, hD9, -⟩ := cut3 (wc := [oc h0 3 [.int (nI E), .ref h1, .ref h2, .ref h3, .ref h4, .ref h5, .int (nI n), .int sd, .int rd], la h1 k1 C rf, ia h2 k2 C vf, ia h5 k5 C (fun i => nI (of i))]) hP hD rfl hS hA [0, 1, 2, 3] (by decide +kernel) rfl
    have hK9 := hK.sub (tys' := []) [] rfl
    refine W.widen (k := 0) (n := 0) (by exact Nat.le_of_ble_eq_true rfl) (by exact Nat.le_of_ble_eq_true rfl) ?_
    exact W.iret (v := (nI lo)) hx hb hr (fun t9 ht9 hW => ⟨⟨nI lo, (), rfl, ⟨lo, rfl, by omega, u4, fun j a b => u5 j (by have : 2 ^ (32 - 32) = 1 := rfl; omega) b⟩, by rw [ht9]; exact hP9, va_K.moved hW.alike hK9, hD9⟩, hS.F ht9⟩) hS.2.2 d_OutcomeSet_firstNotLess_112
set_option maxHeartbeats 4000000 in
set_option maxRecDepth 100000 in
theorem gen_OutcomeSet_isAt (l : Launch) (dC : Nat → ClassId) (dI : Nat → Nat → Nat) (h0 h1 h2 h3 h4 h5 : Nat) (E n C : Nat) (sd rd : Int32) (k1 k2 k5 : ClassId) (rf : Nat → Int64) (vf : Nat → Int32) (of : Nat → Nat) (rk : Int64) (vk : Int32) (i : Nat) (hC : C < 2 ^ 30) (hnC : n ≤ C) (hof : ∀ i, i < n → of i < n) (hi : i ≤ n) (sz : Nat) : Met l y_OutcomeSet_isAt w_OutcomeSet_isAt ({ frames := 0, cells := 0, slots := 0, locals := 0 }) (va_Pc [.ref h0, .int (nI i), .long rk, .int vk] (fun U => U.heap.size = sz ∧ va_P (dC, dI) classes [oc h0 3 [.int (nI E), .ref h1, .ref h2, .ref h3, .ref h4, .ref h5, .int (nI n), .int sd, .int rd], la h1 k1 C rf, ia h2 k2 C vf, ia h5 k5 C (fun i => nI (of i))] U.heap ∧ va_K (dC, dI) classes [(k1, .long), (k2, .int), (k5, .int)] U ∧ va_D (fun _ => True) [oc h0 3 [.int (nI E), .ref h1, .ref h2, .ref h3, .ref h4, .ref h5, .int (nI n), .int sd, .int rd], la h1 k1 C rf, ia h2 k2 C vf, ia h5 k5 C (fun i => nI (of i))] ∧ nw U)) (va_Qi (fun (r : Int32) (_ : Unit) => (r = 1 ∧ i < n ∧ rf (of i) = rk ∧ vf (of i) = vk) ∨ (r = 0 ∧ ¬ (i < n ∧ rf (of i) = rk ∧ vf (of i) = vk))) (fun _ t9 => va_P (dC, dI) classes [oc h0 3 [.int (nI E), .ref h1, .ref h2, .ref h3, .ref h4, .ref h5, .int (nI n), .int sd, .int rd], la h1 k1 C rf, ia h2 k2 C vf, ia h5 k5 C (fun i => nI (of i))] t9.heap ∧ va_K (dC, dI) classes [] t9 ∧ va_D (va_A [oc h0 3 [.int (nI E), .ref h1, .ref h2, .ref h3, .ref h4, .ref h5, .int (nI n), .int sd, .int rd], la h1 k1 C rf, ia h2 k2 C vf, ia h5 k5 C (fun i => nI (of i))] sz) [oc h0 3 [.int (nI E), .ref h1, .ref h2, .ref h3, .ref h4, .ref h5, .int (nI n), .int sd, .int rd], la h1 k1 C rf, ia h2 k2 C vf, ia h5 k5 C (fun i => nI (of i))]) (va_A [oc h0 3 [.int (nI E), .ref h1, .ref h2, .ref h3, .ref h4, .ref h5, .int (nI n), .int sd, .int rd], la h1 k1 C rf, ia h2 k2 C vf, ia h5 k5 C (fun i => nI (of i))] sz)) 0 0 (va_A [oc h0 3 [.int (nI E), .ref h1, .ref h2, .ref h3, .ref h4, .ref h5, .int (nI n), .int sd, .int rd], la h1 k1 C rf, ia h2 k2 C vf, ia h5 k5 C (fun i => nI (of i))] sz) := by
  refine Met.ofW (cc := b_OutcomeSet_isAt) (maxL := 6) (ret := (some .boolean)) (by decide) rfl ?_
  intro p e0 s m args below meth c s₁ B hml hv
  obtain ⟨rfl, hsz, hP, hK, hD0, hn⟩ := hv
  have hx := B.exec
  have hb := B.bytes
  have hr := B.returns
  have hw := fun w (h : w ∈ wt) => atoms_spec (ws := w_OutcomeSet_isAt) B.pre w (List.mem_cons_of_mem _ h)
  have hown : s.vm.findClass R_OutcomeSet = some m.cls := findClass_of_methodNamed B.named
  have hlocks := B.notSynchronized
  subst hsz
  have hD1 := hD0.self (sz := s.heap.size)
  generalize hAe : va_A [oc h0 3 [.int (nI E), .ref h1, .ref h2, .ref h3, .ref h4, .ref h5, .int (nI n), .int sd, .int rd], la h1 k1 C rf, ia h2 k2 C vf, ia h5 k5 C (fun i => nI (of i))] s.heap.size = A at hD1 ⊢
  have hA : ∀ q : Nat, s.heap.size ≤ q → A q := fun q h => by rw [← hAe]; exact Or.inr h
  have hD : dd A [h0, h1, h2, h5] := dd_of hD1 rfl
  clear hAe hD0 hD1
  have hS : va_S A s.heap s.heap [] := va_S.rf
  replace hP : va_P (dC, dI) classes [oc h0 3 [.int (nI E), .ref h1, .ref h2, .ref h3, .ref h4, .ref h5, .int (nI n), .int sd, .int rd], la h1 k1 C rf, ia h2 k2 C vf, ia h5 k5 C (fun i => nI (of i))] s.heap := hP
  have hl := lv_entry ([.ref h0, .int (nI i), .long rk, .int vk]) (n := 6) (Nat.le_of_ble_eq_true rfl)
  rw [lg_entry_eq]
  generalize (lg_sl ([.ref h0, .int (nI i), .long rk, .int vk]) ++ List.replicate (6 - (lg_sl ([.ref h0, .int (nI i), .long rk, .int vk])).length) Slot.unset).toArray = ls at hl ⊢
  replace hl : lv_has ls 6 [(0, .ref h0), (1, .int (nI i)), (2, .long rk), (4, .int vk)] := hl
  refine lv_iload_n hx hb d_OutcomeSet_isAt_0 rfl (lv_at hl 1 rfl) ?_
  refine lv_aload_n hx hb d_OutcomeSet_isAt_1 rfl (lv_at hl 0 rfl) ?_
  refine va_get (D := (dC, dI)) (ci := 3) (v := .int (nI n)) (C := R_OutcomeSet) (T := F_OutcomeSet) (N := 9) hx hb hw i_OutcomeSet hown hK hP 0 rfl rfl 6 (by decide) (hw _ m_384) (fun _ h9 => h9) rfl d_OutcomeSet_isAt_2 ?_
  refine lv_icmp_lt (tgt := 10) hx hb d_OutcomeSet_isAt_5 (by decide) (fun c1 => ?_) (fun c1 => ?_)
  · skip
    have hc1 : i < n := (nI_ltI (a := i) (b := n) (by omega) (by omega)).mp c1
    have hon := hof i hc1
    refine tp_pc (pc' := 10) (by rfl) ?_
    refine lv_aload_n hx hb d_OutcomeSet_isAt_10 rfl (lv_at hl 0 rfl) ?_
    refine va_get (D := (dC, dI)) (ci := 3) (v := .ref h5) (C := R_OutcomeSet) (T := F_OutcomeSet) (N := 9) hx hb hw i_OutcomeSet hown hK hP 0 rfl rfl 5 (by decide) (hw _ m_383) (fun _ h9 => h9) rfl d_OutcomeSet_isAt_11 ?_
    refine lv_iload_n hx hb d_OutcomeSet_isAt_14 rfl (lv_at hl 1 rfl) ?_
    refine va_iald (D := (dC, dI)) hx hb hK hP 3 2 rfl rfl (i := nI i) (pk_in i C (by omega)) d_OutcomeSet_isAt_15 ?_
    refine tp_i (y := nI (of i)) (by rw [show (nI i : Int32).toNatClampNeg = i from pk_cl i]) ?_
    refine lv_istore (lv' := [(5, .int (nI (of i))), (0, .ref h0), (1, .int (nI i)), (2, .long rk), (4, .int vk)]) hx hb d_OutcomeSet_isAt_16 hl (by decide) rfl ?_
    clear hl ls
    intro ls hl
    refine lv_aload_n hx hb d_OutcomeSet_isAt_18 rfl (lv_at hl 1 rfl) ?_
    refine va_get (D := (dC, dI)) (ci := 3) (v := .ref h1) (C := R_OutcomeSet) (T := F_OutcomeSet) (N := 9) hx hb hw i_OutcomeSet hown hK hP 0 rfl rfl 1 (by decide) (hw _ m_379) (fun _ h9 => h9) rfl d_OutcomeSet_isAt_19 ?_
    refine lv_iload hx hb d_OutcomeSet_isAt_22 (lv_at hl 0 rfl) ?_
    refine va_lald (D := (dC, dI)) hx hb hK hP 1 0 rfl rfl (i := nI (of i)) (pk_in (of i) C (by omega)) d_OutcomeSet_isAt_24 ?_
    refine tp_l (y := rf (of i)) (by rw [show (nI (of i) : Int32).toNatClampNeg = of i from pk_cl (of i)]) ?_
    refine lv_lload_n hx hb d_OutcomeSet_isAt_25 rfl (lv_at hl 3 rfl) ?_
    refine W.lcmp hx hb d_OutcomeSet_isAt_26 ?_
    refine lv_topi (fun z_1 hz_1 => ?_)
    refine lv_if_ne (tgt := 46) hx hb d_OutcomeSet_isAt_27 (by decide) (fun c2 => ?_) (fun c2 => ?_)
    · skip
      refine tp_pc (pc' := 46) (by rfl) ?_
      refine lv_iconst (v := 0) hx hb d_OutcomeSet_isAt_46 (by decide) ?_
      obtain ⟨hP9, hD9, -⟩ := cut3 (wc := [oc h0 3 [.int (nI E), .ref h1, .ref h2, .ref h3, .ref h4, .ref h5, .int (nI n), .int sd, .int rd], la h1 k1 C rf, ia h2 k2 C vf, ia h5 k5 C (fun i => nI (of i))]) hP hD rfl hS hA [0, 1, 2, 3] (by decide +kernel) rfl
      have hK9 := hK.sub (tys' := []) [] rfl
      refine W.widen (k := 0) (n := 0) (by exact Nat.le_of_ble_eq_true rfl) (by exact Nat.le_of_ble_eq_true rfl) ?_
      exact W.zret (v := 0) (ty := .boolean) hx hb hr (by decide) (fun t9 ht9 hW => ⟨⟨0, (), rfl, Or.inr ⟨rfl, fun q => c2 ((lc0 hz_1).mpr q.2.1)⟩, by rw [ht9]; exact hP9, va_K.moved hW.alike hK9, hD9⟩, hS.F ht9⟩) hS.2.2 d_OutcomeSet_isAt_47
    · skip
      refine tp_pc (pc' := 30) (by rfl) ?_
      refine lv_aload_n hx hb d_OutcomeSet_isAt_30 rfl (lv_at hl 1 rfl) ?_
      refine va_get (D := (dC, dI)) (ci := 3) (v := .ref h2) (C := R_OutcomeSet) (T := F_OutcomeSet) (N := 9) hx hb hw i_OutcomeSet hown hK hP 0 rfl rfl 2 (by decide) (hw _ m_380) (fun _ h9 => h9) rfl d_OutcomeSet_isAt_31 ?_
      refine lv_iload hx hb d_OutcomeSet_isAt_34 (lv_at hl 0 rfl) ?_
      refine va_iald (D := (dC, dI)) hx hb hK hP 2 1 rfl rfl (i := nI (of i)) (pk_in (of i) C (by omega)) d_OutcomeSet_isAt_36 ?_
      refine tp_i (y := vf (of i)) (by rw [show (nI (of i) : Int32).toNatClampNeg = of i from pk_cl (of i)]) ?_
      refine lv_iload hx hb d_OutcomeSet_isAt_37 (lv_at hl 4 rfl) ?_
      refine lv_icmp_ne (tgt := 46) hx hb d_OutcomeSet_isAt_39 (by decide) (fun c3 => ?_) (fun c3 => ?_)
      · skip
        refine tp_pc (pc' := 46) (by rfl) ?_
        refine lv_iconst (v := 0) hx hb d_OutcomeSet_isAt_46 (by decide) ?_
        obtain ⟨hP9, hD9, -⟩ := cut3 (wc := [oc h0 3 [.int (nI E), .ref h1, .ref h2, .ref h3, .ref h4, .ref h5, .int (nI n), .int sd, .int rd], la h1 k1 C rf, ia h2 k2 C vf, ia h5 k5 C (fun i => nI (of i))]) hP hD rfl hS hA [0, 1, 2, 3] (by decide +kernel) rfl
        have hK9 := hK.sub (tys' := []) [] rfl
        refine W.widen (k := 0) (n := 0) (by exact Nat.le_of_ble_eq_true rfl) (by exact Nat.le_of_ble_eq_true rfl) ?_
        exact W.zret (v := 0) (ty := .boolean) hx hb hr (by decide) (fun t9 ht9 hW => ⟨⟨0, (), rfl, Or.inr ⟨rfl, fun q => c3 q.2.2⟩, by rw [ht9]; exact hP9, va_K.moved hW.alike hK9, hD9⟩, hS.F ht9⟩) hS.2.2 d_OutcomeSet_isAt_47
      · skip
        refine tp_pc (pc' := 42) (by rfl) ?_
        refine lv_iconst (v := 1) hx hb d_OutcomeSet_isAt_42 (by decide) ?_
        refine lv_goto (tgt := 47) hx hb d_OutcomeSet_isAt_43 (by decide) ?_
        refine tp_pc (pc' := 47) (by rfl) ?_
        obtain ⟨hP9, hD9, -⟩ := cut3 (wc := [oc h0 3 [.int (nI E), .ref h1, .ref h2, .ref h3, .ref h4, .ref h5, .int (nI n), .int sd, .int rd], la h1 k1 C rf, ia h2 k2 C vf, ia h5 k5 C (fun i => nI (of i))]) hP hD rfl hS hA [0, 1, 2, 3] (by decide +kernel) rfl
        have hK9 := hK.sub (tys' := []) [] rfl
        refine W.widen (k := 0) (n := 0) (by exact Nat.le_of_ble_eq_true rfl) (by exact Nat.le_of_ble_eq_true rfl) ?_
        exact W.zret (v := 1) (ty := .boolean) hx hb hr (by decide) (fun t9 ht9 hW => ⟨⟨1, (), rfl, Or.inl ⟨rfl, hc1, (lc0 hz_1).mp c2, c3⟩, by rw [ht9]; exact hP9, va_K.moved hW.alike hK9, hD9⟩, hS.F ht9⟩) hS.2.2 d_OutcomeSet_isAt_47
  · skip
    have hc1 : ¬ i < n := fun q9 => c1 ((nI_ltI (a := i) (b := n) (by omega) (by omega)).mpr q9)
    refine tp_pc (pc' := 8) (by rfl) ?_
    refine lv_iconst (v := 0) hx hb d_OutcomeSet_isAt_8 (by decide) ?_
    obtain ⟨hP9, hD9, -⟩ := cut3 (wc := [oc h0 3 [.int (nI E), .ref h1, .ref h2, .ref h3, .ref h4, .ref h5, .int (nI n), .int sd, .int rd], la h1 k1 C rf, ia h2 k2 C vf, ia h5 k5 C (fun i => nI (of i))]) hP hD rfl hS hA [0, 1, 2, 3] (by decide +kernel) rfl
    have hK9 := hK.sub (tys' := []) [] rfl
    refine W.widen (k := 0) (n := 0) (by exact Nat.le_of_ble_eq_true rfl) (by exact Nat.le_of_ble_eq_true rfl) ?_
    exact W.zret (v := 0) (ty := .boolean) hx hb hr (by decide) (fun t9 ht9 hW => ⟨⟨0, (), rfl, Or.inr ⟨rfl, fun q => hc1 q.1⟩, by rw [ht9]; exact hP9, va_K.moved hW.alike hK9, hD9⟩, hS.F ht9⟩) hS.2.2 d_OutcomeSet_isAt_9
