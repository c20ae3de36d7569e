set_option maxHeartbeats 4000000 in
set_option maxRecDepth 100000 in
theorem gen_StateSet_makeRoom_new (l : Launch) (dC : Nat → ClassId) (dI : Nat → Nat → Nat) (h0 h1 h2 : Nat) (z1 : Int32) (n e : Nat) (kk ks : ClassId) (KL SL : Nat) (kf : Nat → Int64) (sf : Nat → Int32) (he : e ≤ 24) (hS3 : SL < 2 ^ 31) (hK3 : KL < 2 ^ 31) (hn9 : n ≤ KL) (hne : n < 2 ^ e) (hdis : ∀ i j, i < n → j < n → kf i = kf j → i = j) (hlt : SL < 2 ^ e) (sz : Nat) : Met l y_StateSet_makeRoom w_StateSet_makeRoom ({ frames := 1, cells := 1, slots := 2 ^ e, locals := 25 }) (va_Pc [.ref h0, .int (nI (2 ^ e))] (fun U => U.heap.size = sz ∧ va_P (dC, dI) classes [oc h0 2 [.ref h1, .ref h2, .int (nI n), .int z1], la h1 kk KL kf, ia h2 ks SL sf] U.heap ∧ va_K (dC, dI) classes [(kk, .long), (ks, .int)] U ∧ va_D (fun _ => True) [oc h0 2 [.ref h1, .ref h2, .int (nI n), .int z1], la h1 kk KL kf, ia h2 ks SL sf] ∧ nw U)) (va_Qv (fun _ : Unit => True) (fun _ t9 => ∃ (q : Nat) (kq : ClassId) (sf2 : Nat → Int32) (g : Nat → Nat), (∀ i, i < 2 ^ e → sf2 i = nI (g i)) ∧ inT (2 ^ e) (fun k => hsh k e) n kf g ∧ va_P (dC, dI) classes [oc h0 2 [.ref h1, .ref q, .int (nI n), .int (nI (2 ^ e))], la h1 kk KL kf, ia q kq (2 ^ e) sf2] t9.heap ∧ va_K (dC, dI) classes [(kq, .int)] t9 ∧ va_D (va_A [oc h0 2 [.ref h1, .ref h2, .int (nI n), .int z1], la h1 kk KL kf, ia h2 ks SL sf] sz) [oc h0 2 [.ref h1, .ref q, .int (nI n), .int (nI (2 ^ e))], la h1 kk KL kf, ia q kq (2 ^ e) sf2]) (va_A [oc h0 2 [.ref h1, .ref h2, .int (nI n), .int z1], la h1 kk KL kf, ia h2 ks SL sf] sz)) 1 (2 ^ e) (va_A [oc h0 2 [.ref h1, .ref h2, .int (nI n), .int z1], la h1 kk KL kf, ia h2 ks SL sf] sz) := by
  refine Met.ofW (cc := b_StateSet_makeRoom) (maxL := 3) (ret := none) (by decide) rfl ?_
  intro p e0 s m args below meth c s₁ B hml hv
  obtain ⟨rfl, hsz, hP, hK, hD0, hn⟩ := hv
  have hx := B.exec
  have hb := B.bytes
  have hr := B.returns
  have hw := fun w (h : w ∈ wt) => atoms_spec (ws := w_StateSet_makeRoom) B.pre w (List.mem_cons_of_mem _ h)
  have hown : s.vm.findClass R_StateSet = some m.cls := findClass_of_methodNamed B.named
  have hlocks := B.notSynchronized
  subst hsz
  have hD1 := hD0.self (sz := s.heap.size)
  generalize hAe : va_A [oc h0 2 [.ref h1, .ref h2, .int (nI n), .int z1], la h1 kk KL kf, ia h2 ks SL sf] s.heap.size = A at hD1 ⊢
  have hA : ∀ q : Nat, s.heap.size ≤ q → A q := fun q h => by rw [← hAe]; exact Or.inr h
  have hD : dd A [h0, h1, h2] := dd_of hD1 rfl
  clear hAe hD0 hD1
  have hS : va_S A s.heap s.heap [] := va_S.rf
  replace hP : va_P (dC, dI) classes [oc h0 2 [.ref h1, .ref h2, .int (nI n), .int z1], la h1 kk KL kf, ia h2 ks SL sf] s.heap := hP
  have hl := lv_entry ([.ref h0, .int (nI (2 ^ e))]) (n := 3) (Nat.le_of_ble_eq_true rfl)
  rw [lg_entry_eq]
  generalize (lg_sl ([.ref h0, .int (nI (2 ^ e))]) ++ List.replicate (3 - (lg_sl ([.ref h0, .int (nI (2 ^ e))])).length) Slot.unset).toArray = ls at hl ⊢
  replace hl : lv_has ls 3 [(0, .ref h0), (1, .int (nI (2 ^ e)))] := hl
  have hp1 : 2 ^ e ≤ 2 ^ 24 := Nat.pow_le_pow_right (by decide) he
  have hp0 : 0 < 2 ^ e := Nat.two_pow_pos e
  refine lv_aload_n hx hb d_StateSet_makeRoom_0 rfl (lv_at hl 0 rfl) ?_
  refine lv_iload_n hx hb d_StateSet_makeRoom_1 rfl (lv_at hl 1 rfl) ?_
  refine va_put (D := (dC, dI)) (ci := 2) (v := .int (nI (2 ^ e))) (ty := .int) (C := R_StateSet) (T := F_StateSet) (N := 4) hx hb hw i_StateSet t_StateSet t_StateSet_ok n_StateSet hown hK hP (dd_D hD rfl) hS 0 rfl rfl 3 (by decide) (hw _ m_233) (fun _ h9 => h9) rfl (by decide +kernel) rfl rfl (Nat.le_of_ble_eq_true rfl) d_StateSet_makeRoom_2 ?_
  clear hP hS
  intro H locs (hP : va_P (dC, dI) classes [oc h0 2 [.ref h1, .ref h2, .int (nI n), .int (nI (2 ^ e))], la h1 kk KL kf, ia h2 ks SL sf] H) _ hS
  refine tp_pc (pc' := 5) (by rfl) ?_
  refine lv_aload_n hx hb d_StateSet_makeRoom_5 rfl (lv_at hl 0 rfl) ?_
  refine va_get (D := (dC, dI)) (ci := 2) (v := .ref h2) (C := R_StateSet) (T := F_StateSet) (N := 4) hx hb hw i_StateSet hown hK hP 0 rfl rfl 1 (by decide) (hw _ m_231) (fun _ h9 => h9) rfl d_StateSet_makeRoom_6 ?_
  refine va_alen (D := (dC, dI)) hx hb hK hP 2 1 rfl rfl (v := nI SL) (by rfl) d_StateSet_makeRoom_9 ?_
  refine lv_aload_n hx hb d_StateSet_makeRoom_10 rfl (lv_at hl 0 rfl) ?_
  refine va_get (D := (dC, dI)) (ci := 2) (v := .int (nI (2 ^ e))) (C := R_StateSet) (T := F_StateSet) (N := 4) hx hb hw i_StateSet hown hK hP 0 rfl rfl 3 (by decide) (hw _ m_233) (fun _ h9 => h9) rfl d_StateSet_makeRoom_11 ?_
  refine lv_icmp_ge (tgt := 30) hx hb d_StateSet_makeRoom_14 (by decide) (fun c9 => absurd c9 (nI_ge hlt (by omega))) (fun c9 => ?_)
  have hc9 : ¬ (2 ^ e ≤ SL) := fun q9 => c9 ((nI_leI (a := 2 ^ e) (b := SL) (by omega) (by omega)).mpr q9)
  refine tp_pc (pc' := 17) (by rfl) ?_
  refine lv_aload_n hx hb d_StateSet_makeRoom_17 rfl (lv_at hl 0 rfl) ?_
  refine lv_aload_n hx hb d_StateSet_makeRoom_18 rfl (lv_at hl 0 rfl) ?_
  refine va_get (D := (dC, dI)) (ci := 2) (v := .int (nI (2 ^ e))) (C := R_StateSet) (T := F_StateSet) (N := 4) hx hb hw i_StateSet hown hK hP 0 rfl rfl 3 (by decide) (hw _ m_233) (fun _ h9 => h9) rfl d_StateSet_makeRoom_19 ?_
  refine va_newa (atype := .int) (a0 := (2 ^ e, .inl (fun _ => 0))) (N' := 2 ^ e) hx hb (hw _ m_196) rfl hK hP (dd_D hD rfl) hS hA (fun _ => rfl) (nI_pos (by omega)) (nI_clamp (by omega)) (by show 2 ^ e * 4 ≤ 536870912; omega) (Nat.le_of_ble_eq_true rfl) (by show 0 + 2 ^ e ≤ 2 ^ e; omega) d_StateSet_makeRoom_22 ?_
  clear hP hS hK
  intro q kq H1 (hK : va_K (dC, dI) classes [(kk, .long), (ks, .int), (kq, .int)] s) (hP : va_P (dC, dI) classes [oc h0 2 [.ref h1, .ref h2, .int (nI n), .int (nI (2 ^ e))], la h1 kk KL kf, ia h2 ks SL sf, ia q kq (2 ^ e) (fun _ => 0)] H1) hD1 hS
  replace hD : dd A [h0, h1, h2, q] := dd_of hD1 rfl
  clear hD1
  clear H
  revert H1
  intro H hP hS
  refine W.widen (k := 1) (n := 2 ^ e) (by exact Nat.le_refl _) (by omega) ?_
  refine tp_pc (pc' := 24) (by rfl) ?_
  refine va_put (D := (dC, dI)) (ci := 2) (v := .ref q) (ty := .array .int) (C := R_StateSet) (T := F_StateSet) (N := 4) hx hb hw i_StateSet t_StateSet t_StateSet_ok n_StateSet hown hK hP (dd_D hD rfl) hS 0 rfl rfl 1 (by decide) (hw _ m_231) (fun _ h9 => h9) rfl (by decide +kernel) rfl rfl (Nat.le_of_ble_eq_true rfl) d_StateSet_makeRoom_24 ?_
  clear hP hS locs H
  intro H locs (hP : va_P (dC, dI) classes [oc h0 2 [.ref h1, .ref q, .int (nI n), .int (nI (2 ^ e))], la h1 kk KL kf, ia h2 ks SL sf, ia q kq (2 ^ e) (fun _ => 0)] H) _ hS
  refine tp_pc (pc' := 27) (by rfl) ?_
  refine lv_goto (tgt := 53) hx hb d_StateSet_makeRoom_27 (by decide) ?_
  refine tp_pc (pc' := 53) (by rfl) ?_
  refine lv_iconst (v := 0) hx hb d_StateSet_makeRoom_53 (by decide) ?_
  refine lv_istore_n (lv' := [(2, .int 0), (0, .ref h0), (1, .int (nI (2 ^ e)))]) hx hb d_StateSet_makeRoom_54 rfl hl (by decide) rfl ?_
  clear hl ls
  intro ls hl
  refine lp_n n (fun i H locs ls => ∃ (sf2 : Nat → Int32) (g : Nat → Nat), va_P (dC, dI) classes [oc h0 2 [.ref h1, .ref q, .int (nI n), .int (nI (2 ^ e))], la h1 kk KL kf, ia h2 ks SL sf, ia q kq (2 ^ e) sf2] H ∧ va_S A s.heap H locs ∧ lv_has ls 3 [(2, .int (nI i)), (0, .ref h0), (1, .int (nI (2 ^ e)))] ∧ (∀ k, k < 2 ^ e → sf2 k = nI (g k)) ∧ inT (2 ^ e) (fun k => hsh k e) i kf g) ⟨fun _ => 0, fun _ => 0, hP, hS, hl, fun _ _ => rfl, inT_0 (fun _ _ => rfl)⟩ ?_ ?_
  · intro i H locs ls hi hI ih
    obtain ⟨sf2, g, hP, hS, hl, hg, hT⟩ := hI
    obtain ⟨a, d, had, ha, hd, hpr, hg0, hgl⟩ : ∃ a d, a = (hsh (kf i) e + d) % 2 ^ e ∧ a < 2 ^ e ∧ d < 2 ^ e ∧ pr (2 ^ e) sf2 kf (kf i) (2 ^ e) (hsh (kf i) e) = a ∧ g a = 0 ∧ ∀ c, c < d → g ((hsh (kf i) e + c) % 2 ^ e) ≠ 0 := by
      obtain ⟨d, hd, h1, h2, h3⟩ := inT_new (key := kf i) hT (by omega) (by omega) hg (Nat.mod_lt _ hp0) (fun j hj e9 => absurd (hdis j i (by omega) hi e9) (by omega))
      exact ⟨_, d, rfl, Nat.mod_lt _ hp0, hd, h1, h2, h3⟩
    refine lv_iload_n hx hb d_StateSet_makeRoom_55 rfl (lv_at hl 0 rfl) ?_
    refine lv_aload_n hx hb d_StateSet_makeRoom_56 rfl (lv_at hl 1 rfl) ?_
    refine va_get (D := (dC, dI)) (ci := 2) (v := .int (nI n)) (C := R_StateSet) (T := F_StateSet) (N := 4) hx hb hw i_StateSet hown hK hP 0 rfl rfl 2 (by decide) (hw _ m_232) (fun _ h9 => h9) rfl d_StateSet_makeRoom_57 ?_
    refine lv_icmp_ge (tgt := 87) hx hb d_StateSet_makeRoom_60 (by decide) (fun c9 => absurd c9 (nI_ge hi (by omega))) (fun c9 => ?_)
    have hc9 : ¬ (n ≤ i) := fun q9 => c9 ((nI_leI (a := n) (b := i) (by omega) (by omega)).mpr q9)
    refine tp_pc (pc' := 63) (by rfl) ?_
    refine lv_aload_n hx hb d_StateSet_makeRoom_63 rfl (lv_at hl 1 rfl) ?_
    refine va_get (D := (dC, dI)) (ci := 2) (v := .ref q) (C := R_StateSet) (T := F_StateSet) (N := 4) hx hb hw i_StateSet hown hK hP 0 rfl rfl 1 (by decide) (hw _ m_231) (fun _ h9 => h9) rfl d_StateSet_makeRoom_64 ?_
    refine lv_aload_n hx hb d_StateSet_makeRoom_67 rfl (lv_at hl 1 rfl) ?_
    refine lv_aload_n hx hb d_StateSet_makeRoom_68 rfl (lv_at hl 1 rfl) ?_
    refine va_get (D := (dC, dI)) (ci := 2) (v := .ref h1) (C := R_StateSet) (T := F_StateSet) (N := 4) hx hb hw i_StateSet hown hK hP 0 rfl rfl 0 (by decide) (hw _ m_230) (fun _ h9 => h9) rfl d_StateSet_makeRoom_69 ?_
    refine lv_iload_n hx hb d_StateSet_makeRoom_72 rfl (lv_at hl 0 rfl) ?_
    refine va_lald (D := (dC, dI)) hx hb hK hP 1 0 rfl rfl (i := nI i) (pk_in i KL (by omega)) d_StateSet_makeRoom_73 ?_
    refine tp_l (y := kf i) (by rw [show (nI i : Int32).toNatClampNeg = i from pk_cl i]) ?_
    obtain ⟨hPc, hDc, hFc⟩ := cut3 (wc := [oc h0 2 [.ref h1, .ref q, .int (nI n), .int (nI (2 ^ e))], la h1 kk KL kf, ia q kq (2 ^ e) sf2]) hP hD rfl hS hA [0, 1, 3] (by decide +kernel) rfl
    have hKc := hK.sub (tys' := [(kk, .long), (kq, .int)]) [0, 2] rfl
    refine va_calli (va_runV (As := [.long (kf i)]) (rest := [.ref q]) ⟨hx, hb, hml, hown, hw⟩ (gen_StateSet_slotOf l dC dI h0 h1 q (nI n) e (kf i) kk kq KL (2 ^ e) kf sf2 (by omega) (Nat.le_refl _) (by omega) hK3 (fun k hk => ⟨g k, by have := hT.1 k hk; omega, hg k hk⟩) H.size) (cw_V 1 hw g_StateSet_slotOf rfl rfl rfl (hw _ m_104) (hw _ m_488) (hw _ m_490) (hw _ m_3) (by decide +kernel) ⟨Nat.le_of_ble_eq_true rfl, Nat.le_of_ble_eq_true rfl⟩) ⟨fun a U g mk q => by obtain ⟨q0, q1, qP, qK, qD, qN⟩ := q; exact ⟨q0, q1, qP, va_K.moved (u := U) (U := U.calling g mk a) (Vm.Alike.refl U.vm) qK, qD, nw_call qN⟩, va_recv hKc hPc (ci := 2) (q0 := 0) rfl rfl, fun U hU hW => ⟨rfl, by rw [hU], by rw [hU]; exact hPc, va_K.moved hW.alike hKc, hDc.weaken (fun _ _ _ _ => trivial), nw_warm hW hn⟩⟩ rfl rfl hl.1 rfl (lv_room (Nat.le_of_ble_eq_true rfl)) d_StateSet_makeRoom_74 ⟨Nat.le_refl _, Nat.le_refl _⟩) hS (fun q _ h => hFc q h) hFc ?_
    intro r_1 u t9 H1 locs1 ht9 hvm hw1 hB hz1 hk1 hS1
    obtain ⟨hP1, hK1, hD1⟩ := hB
    rw [ht9] at hP1
    replace hK1 := va_K.moved hvm.symm hK1
    have hPD := join3 hP hD rfl [0, 1, 3] [2] rfl (by rfl) (by decide +kernel) (by decide +kernel) hk1 hFc hP1 hD1
    replace hK : va_K (dC, dI) classes [(kk, .long), (ks, .int), (kq, .int)] s := hK.app hK1
    clear hP1 hK1 hD1 hk1 hz1 hFc hKc hDc hPc hvm ht9 hP hS t9 locs H
    have hP : va_P (dC, dI) classes [ia h2 ks SL sf, oc h0 2 [.ref h1, .ref q, .int (nI n), .int (nI (2 ^ e))], la h1 kk KL kf, ia q kq (2 ^ e) sf2] H1 := hPD.1
    replace hD : dd A [h2, h0, h1, q] := dd_of hPD.2 rfl
    clear hPD
    revert H1 locs1
    intro H locs hS hP
    refine tp_i (y := nI a) (hw1.trans (congrArg nI hpr)) ?_
    clear hw1 r_1 u
    refine tp_pc (pc' := 77) (by rfl) ?_
    refine lv_iload_n hx hb d_StateSet_makeRoom_77 rfl (lv_at hl 0 rfl) ?_
    refine lv_iconst (v := 1) hx hb d_StateSet_makeRoom_78 (by decide) ?_
    refine lv_iadd hx hb d_StateSet_makeRoom_79 ?_
    refine tp_i (y := nI (i + 1)) (by exact nI_add i 1) ?_
    refine va_iast (D := (dC, dI)) hx hb hK hP (dd_D hD rfl) hS 3 2 rfl rfl (i := nI a) (x := nI (i + 1)) (pk_in a (2 ^ e) (by omega)) d_StateSet_makeRoom_80 ?_
    clear hP hS locs H
    intro H locs hP _ hS
    rw [show (nI a : Int32).toNatClampNeg = a from pk_cl a] at hP
    replace hP : va_P (dC, dI) classes [ia h2 ks SL sf, oc h0 2 [.ref h1, .ref q, .int (nI n), .int (nI (2 ^ e))], la h1 kk KL kf, ia q kq (2 ^ e) (upd sf2 a (nI (i + 1)))] H := hP
    refine tp_pc (pc' := 81) (by rfl) ?_
    refine lv_iinc (v := nI (i + 1)) (lv' := [(2, .int (nI (i + 1))), (0, .ref h0), (1, .int (nI (2 ^ e)))]) hx hb d_StateSet_makeRoom_81 hl (k := 0) rfl (by exact nI_1 i) (by decide) rfl ?_
    clear hl ls
    intro ls hl
    refine lv_goto (tgt := 55) hx hb d_StateSet_makeRoom_84 (by decide) ?_
    refine tp_pc (pc' := 55) (by rfl) ?_
    have hP2 : va_P (dC, dI) classes [oc h0 2 [.ref h1, .ref q, .int (nI n), .int (nI (2 ^ e))], la h1 kk KL kf, ia h2 ks SL sf, ia q kq (2 ^ e) (upd sf2 a (nI (i + 1)))] H := fun k q h => by
      match k, h with
      | 0, h => exact hP 1 q h
      | 1, h => exact hP 2 q h
      | 2, h => exact hP 0 q h
      | 3, h => exact hP 3 q h
      | k + 4, h => simp at h
    exact ih _ _ _ ⟨upd sf2 a (nI (i + 1)), fun k => if k = a then i + 1 else g k, hP2, hS, lv_sub hl [0, 1, 2] rfl, fun k hk => by simp only [upd]; by_cases e9 : k = a; (rw [if_pos e9, if_pos e9]); (rw [if_neg e9, if_neg e9]; exact hg k hk), inT_put (key := kf i) hT hd (by rw [← had]; exact hg0) hgl (fun j hj e9 => absurd (hdis j i (by omega) hi e9) (by omega)) (fun _ _ => rfl) rfl (fun k _ => by rw [← had])⟩
  · intro H locs ls hI
    obtain ⟨sf2, g, hP, hS, hl, hg, hT⟩ := hI
    refine lv_iload_n hx hb d_StateSet_makeRoom_55 rfl (lv_at hl 0 rfl) ?_
    refine lv_aload_n hx hb d_StateSet_makeRoom_56 rfl (lv_at hl 1 rfl) ?_
    refine va_get (D := (dC, dI)) (ci := 2) (v := .int (nI n)) (C := R_StateSet) (T := F_StateSet) (N := 4) hx hb hw i_StateSet hown hK hP 0 rfl rfl 2 (by decide) (hw _ m_232) (fun _ h9 => h9) rfl d_StateSet_makeRoom_57 ?_
    refine lv_icmp_ge (tgt := 87) hx hb d_StateSet_makeRoom_60 (by decide) (fun c9 => ?_) (fun c9 => absurd (nI_le (Nat.le_refl _) (by omega)) c9)
    have hc9 : n ≤ n := (nI_leI (a := n) (b := n) (by omega) (by omega)).mp c9
    refine tp_pc (pc' := 87) (by rfl) ?_
    obtain ⟨hP9, hD9, -⟩ := cut3 (wc := [oc h0 2 [.ref h1, .ref q, .int (nI n), .int (nI (2 ^ e))], la h1 kk KL kf, ia q kq (2 ^ e) sf2]) hP hD rfl hS hA [0, 1, 3] (by decide +kernel) rfl
    have hK9 := hK.sub (tys' := [(kq, .int)]) [2] rfl
    refine W.widen (k := 1) (n := 2 ^ e) (by exact Nat.le_refl _) (by exact Nat.le_refl _) ?_
    exact W.vret hx hb hr (fun t9 ht9 hW => ⟨⟨(), rfl, trivial, q, kq, sf2, g, hg, hT, by rw [ht9]; exact hP9, va_K.moved hW.alike hK9, hD9⟩, hS.F ht9⟩) hS.2.2 d_StateSet_makeRoom_87
set_option maxHeartbeats 4000000 in
set_option maxRecDepth 100000 in
theorem gen_StateSet_makeRoom_old (l : Launch) (dC : Nat → ClassId) (dI : Nat → Nat → Nat) (h0 h1 h2 : Nat) (z1 : Int32) (n e : Nat) (kk ks : ClassId) (KL SL : Nat) (kf : Nat → Int64) (sf : Nat → Int32) (he : e ≤ 24) (hS3 : SL < 2 ^ 31) (hK3 : KL < 2 ^ 31) (hn9 : n ≤ KL) (hne : n < 2 ^ e) (hdis : ∀ i j, i < n → j < n → kf i = kf j → i = j) (hlt : 2 ^ e ≤ SL) (sz : Nat) : Met l y_StateSet_makeRoom w_StateSet_makeRoom ({ frames := 1, cells := 0, slots := 0, locals := 25 }) (va_Pc [.ref h0, .int (nI (2 ^ e))] (fun U => U.heap.size = sz ∧ va_P (dC, dI) classes [oc h0 2 [.ref h1, .ref h2, .int (nI n), .int z1], la h1 kk KL kf, ia h2 ks SL sf] U.heap ∧ va_K (dC, dI) classes [(kk, .long), (ks, .int)] U ∧ va_D (fun _ => True) [oc h0 2 [.ref h1, .ref h2, .int (nI n), .int z1], la h1 kk KL kf, ia h2 ks SL sf] ∧ nw U)) (va_Qv (fun _ : Unit => True) (fun _ t9 => ∃ (sf2 : Nat → Int32) (g : Nat → Nat), (∀ i, i < 2 ^ e → sf2 i = nI (g i)) ∧ inT (2 ^ e) (fun k => hsh k e) n kf g ∧ va_P (dC, dI) classes [oc h0 2 [.ref h1, .ref h2, .int (nI n), .int (nI (2 ^ e))], la h1 kk KL kf, ia h2 ks SL sf2] t9.heap ∧ va_K (dC, dI) classes [] t9 ∧ va_D (va_A [oc h0 2 [.ref h1, .ref h2, .int (nI n), .int z1], la h1 kk KL kf, ia h2 ks SL sf] sz) [oc h0 2 [.ref h1, .ref h2, .int (nI n), .int (nI (2 ^ e))], la h1 kk KL kf, ia h2 ks SL sf2]) (va_A [oc h0 2 [.ref h1, .ref h2, .int (nI n), .int z1], la h1 kk KL kf, ia h2 ks SL sf] sz)) 0 0 (va_A [oc h0 2 [.ref h1, .ref h2, .int (nI n), .int z1], la h1 kk KL kf, ia h2 ks SL sf] sz) := by
  refine Met.ofW (cc := b_StateSet_makeRoom) (maxL := 3) (ret := none) (by decide) rfl ?_
  intro p e0 s m args below meth c s₁ B hml hv
  obtain ⟨rfl, hsz, hP, hK, hD0, hn⟩ := hv
  have hx := B.exec
  have hb := B.bytes
  have hr := B.returns
  have hw := fun w (h : w ∈ wt) => atoms_spec (ws := w_StateSet_makeRoom) B.pre w (List.mem_cons_of_mem _ h)
  have hown : s.vm.findClass R_StateSet = some m.cls := findClass_of_methodNamed B.named
  have hlocks := B.notSynchronized
  subst hsz
  have hD1 := hD0.self (sz := s.heap.size)
  generalize hAe : va_A [oc h0 2 [.ref h1, .ref h2, .int (nI n), .int z1], la h1 kk KL kf, ia h2 ks SL sf] s.heap.size = A at hD1 ⊢
  have hA : ∀ q : Nat, s.heap.size ≤ q → A q := fun q h => by rw [← hAe]; exact Or.inr h
  have hD : dd A [h0, h1, h2] := dd_of hD1 rfl
  clear hAe hD0 hD1
  have hS : va_S A s.heap s.heap [] := va_S.rf
  replace hP : va_P (dC, dI) classes [oc h0 2 [.ref h1, .ref h2, .int (nI n), .int z1], la h1 kk KL kf, ia h2 ks SL sf] s.heap := hP
  have hl := lv_entry ([.ref h0, .int (nI (2 ^ e))]) (n := 3) (Nat.le_of_ble_eq_true rfl)
  rw [lg_entry_eq]
  generalize (lg_sl ([.ref h0, .int (nI (2 ^ e))]) ++ List.replicate (3 - (lg_sl ([.ref h0, .int (nI (2 ^ e))])).length) Slot.unset).toArray = ls at hl ⊢
  replace hl : lv_has ls 3 [(0, .ref h0), (1, .int (nI (2 ^ e)))] := hl
  have hp1 : 2 ^ e ≤ 2 ^ 24 := Nat.pow_le_pow_right (by decide) he
  have hp0 : 0 < 2 ^ e := Nat.two_pow_pos e
  refine lv_aload_n hx hb d_StateSet_makeRoom_0 rfl (lv_at hl 0 rfl) ?_
  refine lv_iload_n hx hb d_StateSet_makeRoom_1 rfl (lv_at hl 1 rfl) ?_
  refine va_put (D := (dC, dI)) (ci := 2) (v := .int (nI (2 ^ e))) (ty := .int) (C := R_StateSet) (T := F_StateSet) (N := 4) hx hb hw i_StateSet t_StateSet t_StateSet_ok n_StateSet hown hK hP (dd_D hD rfl) hS 0 rfl rfl 3 (by decide) (hw _ m_233) (fun _ h9 => h9) rfl (by decide +kernel) rfl rfl (Nat.le_of_ble_eq_true rfl) d_StateSet_makeRoom_2 ?_
  clear hP hS
  intro H locs (hP : va_P (dC, dI) classes [oc h0 2 [.ref h1, .ref h2, .int (nI n), .int (nI (2 ^ e))], la h1 kk KL kf, ia h2 ks SL sf] H) _ hS
  refine tp_pc (pc' := 5) (by rfl) ?_
  refine lv_aload_n hx hb d_StateSet_makeRoom_5 rfl (lv_at hl 0 rfl) ?_
  refine va_get (D := (dC, dI)) (ci := 2) (v := .ref h2) (C := R_StateSet) (T := F_StateSet) (N := 4) hx hb hw i_StateSet hown hK hP 0 rfl rfl 1 (by decide) (hw _ m_231) (fun _ h9 => h9) rfl d_StateSet_makeRoom_6 ?_
  refine va_alen (D := (dC, dI)) hx hb hK hP 2 1 rfl rfl (v := nI SL) (by rfl) d_StateSet_makeRoom_9 ?_
  refine lv_aload_n hx hb d_StateSet_makeRoom_10 rfl (lv_at hl 0 rfl) ?_
  refine va_get (D := (dC, dI)) (ci := 2) (v := .int (nI (2 ^ e))) (C := R_StateSet) (T := F_StateSet) (N := 4) hx hb hw i_StateSet hown hK hP 0 rfl rfl 3 (by decide) (hw _ m_233) (fun _ h9 => h9) rfl d_StateSet_makeRoom_11 ?_
  refine lv_icmp_ge (tgt := 30) hx hb d_StateSet_makeRoom_14 (by decide) (fun c9 => ?_) (fun c9 => absurd (nI_le hlt (by omega)) c9)
  have hc9 : 2 ^ e ≤ SL := (nI_leI (a := 2 ^ e) (b := SL) (by omega) (by omega)).mp c9
  refine tp_pc (pc' := 30) (by rfl) ?_
  refine lv_iconst (v := 0) hx hb d_StateSet_makeRoom_30 (by decide) ?_
  refine lv_istore_n (lv' := [(2, .int 0), (0, .ref h0), (1, .int (nI (2 ^ e)))]) hx hb d_StateSet_makeRoom_31 rfl hl (by decide) rfl ?_
  clear hl ls
  intro ls hl
  refine lp_n (2 ^ e) (fun i H locs ls => ∃ g : Nat → Int32, (∀ j, j < i → g j = 0) ∧ va_P (dC, dI) classes [oc h0 2 [.ref h1, .ref h2, .int (nI n), .int (nI (2 ^ e))], la h1 kk KL kf, ia h2 ks SL g] H ∧ va_S A s.heap H locs ∧ lv_has ls 3 [(2, .int (nI i)), (0, .ref h0), (1, .int (nI (2 ^ e)))]) ⟨sf, fun j hj => absurd hj (Nat.not_lt_zero j), hP, hS, hl⟩ ?_ ?_
  · intro i H locs ls hi hI ih
    obtain ⟨g, hg, hP, hS, hl⟩ := hI
    refine lv_iload_n hx hb d_StateSet_makeRoom_32 rfl (lv_at hl 0 rfl) ?_
    refine lv_aload_n hx hb d_StateSet_makeRoom_33 rfl (lv_at hl 1 rfl) ?_
    refine va_get (D := (dC, dI)) (ci := 2) (v := .int (nI (2 ^ e))) (C := R_StateSet) (T := F_StateSet) (N := 4) hx hb hw i_StateSet hown hK hP 0 rfl rfl 3 (by decide) (hw _ m_233) (fun _ h9 => h9) rfl d_StateSet_makeRoom_34 ?_
    refine lv_icmp_ge (tgt := 53) hx hb d_StateSet_makeRoom_37 (by decide) (fun c9 => absurd c9 (nI_ge hi (by omega))) (fun c9 => ?_)
    have hc9 : ¬ (2 ^ e ≤ i) := fun q9 => c9 ((nI_leI (a := 2 ^ e) (b := i) (by omega) (by omega)).mpr q9)
    refine tp_pc (pc' := 40) (by rfl) ?_
    refine lv_aload_n hx hb d_StateSet_makeRoom_40 rfl (lv_at hl 1 rfl) ?_
    refine va_get (D := (dC, dI)) (ci := 2) (v := .ref h2) (C := R_StateSet) (T := F_StateSet) (N := 4) hx hb hw i_StateSet hown hK hP 0 rfl rfl 1 (by decide) (hw _ m_231) (fun _ h9 => h9) rfl d_StateSet_makeRoom_41 ?_
    refine lv_iload_n hx hb d_StateSet_makeRoom_44 rfl (lv_at hl 0 rfl) ?_
    refine lv_iconst (v := 0) hx hb d_StateSet_makeRoom_45 (by decide) ?_
    refine va_iast (D := (dC, dI)) hx hb hK hP (dd_D hD rfl) hS 2 1 rfl rfl (i := nI i) (x := 0) (pk_in i SL (by omega)) d_StateSet_makeRoom_46 ?_
    clear hP hS locs H
    intro H locs hP _ hS
    rw [show (nI i : Int32).toNatClampNeg = i from pk_cl i] at hP
    replace hP : va_P (dC, dI) classes [oc h0 2 [.ref h1, .ref h2, .int (nI n), .int (nI (2 ^ e))], la h1 kk KL kf, ia h2 ks SL (upd g i 0)] H := hP
    refine tp_pc (pc' := 47) (by rfl) ?_
    refine lv_iinc (v := nI (i + 1)) (lv' := [(2, .int (nI (i + 1))), (0, .ref h0), (1, .int (nI (2 ^ e)))]) hx hb d_StateSet_makeRoom_47 hl (k := 0) rfl (by exact nI_1 i) (by decide) rfl ?_
    clear hl ls
    intro ls hl
    refine lv_goto (tgt := 32) hx hb d_StateSet_makeRoom_50 (by decide) ?_
    refine tp_pc (pc' := 32) (by rfl) ?_
    exact ih _ _ _ ⟨_, fun j hj => by by_cases e9 : j = i; (subst e9; simp [upd]); (simp [upd, e9]; exact hg j (by omega)), hP, hS, lv_sub hl [0, 1, 2] rfl⟩
  · intro H locs ls hI
    obtain ⟨g, hg, hP, hS, hl⟩ := hI
    refine lv_iload_n hx hb d_StateSet_makeRoom_32 rfl (lv_at hl 0 rfl) ?_
    refine lv_aload_n hx hb d_StateSet_makeRoom_33 rfl (lv_at hl 1 rfl) ?_
    refine va_get (D := (dC, dI)) (ci := 2) (v := .int (nI (2 ^ e))) (C := R_StateSet) (T := F_StateSet) (N := 4) hx hb hw i_StateSet hown hK hP 0 rfl rfl 3 (by decide) (hw _ m_233) (fun _ h9 => h9) rfl d_StateSet_makeRoom_34 ?_
    refine lv_icmp_ge (tgt := 53) hx hb d_StateSet_makeRoom_37 (by decide) (fun c9 => ?_) (fun c9 => absurd (nI_le (Nat.le_refl _) (by omega)) c9)
    have hc9 : 2 ^ e ≤ (2 ^ e) := (nI_leI (a := 2 ^ e) (b := (2 ^ e)) (by omega) (by omega)).mp c9
    refine tp_pc (pc' := 53) (by rfl) ?_
    refine lv_iconst (v := 0) hx hb d_StateSet_makeRoom_53 (by decide) ?_
    refine lv_istore_n (lv' := [(2, .int 0), (0, .ref h0), (1, .int (nI (2 ^ e)))]) hx hb d_StateSet_makeRoom_54 rfl hl (by decide) rfl ?_
    clear hl ls
    intro ls hl
    refine lp_n n (fun i H locs ls => ∃ (sf2 : Nat → Int32) (g : Nat → Nat), va_P (dC, dI) classes [oc h0 2 [.ref h1, .ref h2, .int (nI n), .int (nI (2 ^ e))], la h1 kk KL kf, ia h2 ks SL sf2] H ∧ va_S A s.heap H locs ∧ lv_has ls 3 [(2, .int (nI i)), (0, .ref h0), (1, .int (nI (2 ^ e)))] ∧ (∀ k, k < 2 ^ e → sf2 k = nI (g k)) ∧ inT (2 ^ e) (fun k => hsh k e) i kf g) ⟨g, fun _ => 0, hP, hS, hl, fun k hk => hg k hk, inT_0 (fun _ _ => rfl)⟩ ?_ ?_
    · intro i H locs ls hi hI ih
      obtain ⟨sf2, g, hP, hS, hl, hg, hT⟩ := hI
      obtain ⟨a, d, had, ha, hd, hpr, hg0, hgl⟩ : ∃ a d, a = (hsh (kf i) e + d) % 2 ^ e ∧ a < 2 ^ e ∧ d < 2 ^ e ∧ pr (2 ^ e) sf2 kf (kf i) (2 ^ e) (hsh (kf i) e) = a ∧ g a = 0 ∧ ∀ c, c < d → g ((hsh (kf i) e + c) % 2 ^ e) ≠ 0 := by
        obtain ⟨d, hd, h1, h2, h3⟩ := inT_new (key := kf i) hT (by omega) (by omega) hg (Nat.mod_lt _ hp0) (fun j hj e9 => absurd (hdis j i (by omega) hi e9) (by omega))
        exact ⟨_, d, rfl, Nat.mod_lt _ hp0, hd, h1, h2, h3⟩
      refine lv_iload_n hx hb d_StateSet_makeRoom_55 rfl (lv_at hl 0 rfl) ?_
      refine lv_aload_n hx hb d_StateSet_makeRoom_56 rfl (lv_at hl 1 rfl) ?_
      refine va_get (D := (dC, dI)) (ci := 2) (v := .int (nI n)) (C := R_StateSet) (T := F_StateSet) (N := 4) hx hb hw i_StateSet hown hK hP 0 rfl rfl 2 (by decide) (hw _ m_232) (fun _ h9 => h9) rfl d_StateSet_makeRoom_57 ?_
      refine lv_icmp_ge (tgt := 87) hx hb d_StateSet_makeRoom_60 (by decide) (fun c9 => absurd c9 (nI_ge hi (by omega))) (fun c9 => ?_)
      have hc9 : ¬ (n ≤ i) := fun q9 => c9 ((nI_leI (a := n) (b := i) (by omega) (by omega)).mpr q9)
      refine tp_pc (pc' := 63) (by rfl) ?_
      refine lv_aload_n hx hb d_StateSet_makeRoom_63 rfl (lv_at hl 1 rfl) ?_
      refine va_get (D := (dC, dI)) (ci := 2) (v := .ref h2) (C := R_StateSet) (T := F_StateSet) (N := 4) hx hb hw i_StateSet hown hK hP 0 rfl rfl 1 (by decide) (hw _ m_231) (fun _ h9 => h9) rfl d_StateSet_makeRoom_64 ?_
      refine lv_aload_n hx hb d_StateSet_makeRoom_67 rfl (lv_at hl 1 rfl) ?_
      refine lv_aload_n hx hb d_StateSet_makeRoom_68 rfl (lv_at hl 1 rfl) ?_
      refine va_get (D := (dC, dI)) (ci := 2) (v := .ref h1) (C := R_StateSet) (T := F_StateSet) (N := 4) hx hb hw i_StateSet hown hK hP 0 rfl rfl 0 (by decide) (hw _ m_230) (fun _ h9 => h9) rfl d_StateSet_makeRoom_69 ?_
      refine lv_iload_n hx hb d_StateSet_makeRoom_72 rfl (lv_at hl 0 rfl) ?_
      refine va_lald (D := (dC, dI)) hx hb hK hP 1 0 rfl rfl (i := nI i) (pk_in i KL (by omega)) d_StateSet_makeRoom_73 ?_
      refine tp_l (y := kf i) (by rw [show (nI i : Int32).toNatClampNeg = i from pk_cl i]) ?_
      obtain ⟨hPc, hDc, hFc⟩ := cut3 (wc := [oc h0 2 [.ref h1, .ref h2, .int (nI n), .int (nI (2 ^ e))], la h1 kk KL kf, ia h2 ks SL sf2]) hP hD rfl hS hA [0, 1, 2] (by decide +kernel) rfl
      have hKc := hK.sub (tys' := [(kk, .long), (ks, .int)]) [0, 1] rfl
      refine va_calli (va_runV (As := [.long (kf i)]) (rest := [.ref h2]) ⟨hx, hb, hml, hown, hw⟩ (gen_StateSet_slotOf l dC dI h0 h1 h2 (nI n) e (kf i) kk ks KL SL kf sf2 (by omega) hlt hS3 hK3 (fun k hk => ⟨g k, by have := hT.1 k hk; omega, hg k hk⟩) H.size) (cw_V 1 hw g_StateSet_slotOf rfl rfl rfl (hw _ m_104) (hw _ m_488) (hw _ m_490) (hw _ m_3) (by decide +kernel) ⟨Nat.le_of_ble_eq_true rfl, Nat.le_of_ble_eq_true rfl⟩) ⟨fun a U g mk q => by obtain ⟨q0, q1, qP, qK, qD, qN⟩ := q; exact ⟨q0, q1, qP, va_K.moved (u := U) (U := U.calling g mk a) (Vm.Alike.refl U.vm) qK, qD, nw_call qN⟩, va_recv hKc hPc (ci := 2) (q0 := 0) rfl rfl, fun U hU hW => ⟨rfl, by rw [hU], by rw [hU]; exact hPc, va_K.moved hW.alike hKc, hDc.weaken (fun _ _ _ _ => trivial), nw_warm hW hn⟩⟩ rfl rfl hl.1 rfl (lv_room (Nat.le_of_ble_eq_true rfl)) d_StateSet_makeRoom_74 ⟨Nat.le_of_ble_eq_true rfl, Nat.le_of_ble_eq_true rfl⟩) hS (fun q _ h => hFc q h) hFc ?_
      intro r_1 u t9 H1 locs1 ht9 hvm hw1 hB hz1 hk1 hS1
      obtain ⟨hP1, hK1, hD1⟩ := hB
      rw [ht9] at hP1
      replace hK1 := va_K.moved hvm.symm hK1
      have hPD := join3 hP hD rfl [0, 1, 2] [] rfl (by rfl) (by decide +kernel) (by decide +kernel) hk1 hFc hP1 hD1
      replace hK : va_K (dC, dI) classes [(kk, .long), (ks, .int)] s := hK.app hK1
      clear hP1 hK1 hD1 hk1 hz1 hFc hKc hDc hPc hvm ht9 hP hS t9 locs H
      have hP : va_P (dC, dI) classes [oc h0 2 [.ref h1, .ref h2, .int (nI n), .int (nI (2 ^ e))], la h1 kk KL kf, ia h2 ks SL sf2] H1 := hPD.1
      replace hD : dd A [h0, h1, h2] := dd_of hPD.2 rfl
      clear hPD
      revert H1 locs1
      intro H locs hS hP
      refine tp_i (y := nI a) (hw1.trans (congrArg nI hpr)) ?_
      clear hw1 r_1 u
      refine tp_pc (pc' := 77) (by rfl) ?_
      refine lv_iload_n hx hb d_StateSet_makeRoom_77 rfl (lv_at hl 0 rfl) ?_
      refine lv_iconst (v := 1) hx hb d_StateSet_makeRoom_78 (by decide) ?_
      refine lv_iadd hx hb d_StateSet_makeRoom_79 ?_
      refine tp_i (y := nI (i + 1)) (by exact nI_add i 1) ?_
      refine va_iast (D := (dC, dI)) hx hb hK hP (dd_D hD rfl) hS 2 1 rfl rfl (i := nI a) (x := nI (i + 1)) (pk_in a SL (by omega)) d_StateSet_makeRoom_80 ?_
      clear hP hS locs H
      intro H locs hP _ hS
      rw [show (nI a : Int32).toNatClampNeg = a from pk_cl a] at hP
      replace hP : va_P (dC, dI) classes [oc h0 2 [.ref h1, .ref h2, .int (nI n), .int (nI (2 ^ e))], la h1 kk KL kf, ia h2 ks SL (upd sf2 a (nI (i + 1)))] H := hP
      refine tp_pc (pc' := 81) (by rfl) ?_
      refine lv_iinc (v := nI (i + 1)) (lv' := [(2, .int (nI (i + 1))), (0, .ref h0), (1, .int (nI (2 ^ e)))]) hx hb d_StateSet_makeRoom_81 hl (k := 0) rfl (by exact nI_1 i) (by decide) rfl ?_
      clear hl ls
      intro ls hl
      refine lv_goto (tgt := 55) hx hb d_StateSet_makeRoom_84 (by decide) ?_
      refine tp_pc (pc' := 55) (by rfl) ?_
      have hP2 : va_P (dC, dI) classes [oc h0 2 [.ref h1, .ref h2, .int (nI n), .int (nI (2 ^ e))], la h1 kk KL kf, ia h2 ks SL (upd sf2 a (nI (i + 1)))] H := fun k q h => by
        match k, h with
        | 0, h => exact hP 0 q h
        | 1, h => exact hP 1 q h
        | 2, h => exact hP 2 q h
        | k + 3, h => simp at h
      exact ih _ _ _ ⟨upd sf2 a (nI (i + 1)), fun k => if k = a then i + 1 else g k, hP2, hS, lv_sub hl [0, 1, 2] rfl, fun k hk => by simp only [upd]; by_cases e9 : k = a; (rw [if_pos e9, if_pos e9]); (rw [if_neg e9, if_neg e9]; exact hg k hk), inT_put (key := kf i) hT hd (by rw [← had]; exact hg0) hgl (fun j hj e9 => absurd (hdis j i (by omega) hi e9) (by omega)) (fun _ _ => rfl) rfl (fun k _ => by rw [← had])⟩
    · intro H locs ls hI
      obtain ⟨sf2, g, hP, hS, hl, hg, hT⟩ := hI
      refine lv_iload_n hx hb d_StateSet_makeRoom_55 rfl (lv_at hl 0 rfl) ?_
      refine lv_aload_n hx hb d_StateSet_makeRoom_56 rfl (lv_at hl 1 rfl) ?_
      refine va_get (D := (dC, dI)) (ci := 2) (v := .int (nI n)) (C := R_StateSet) (T := F_StateSet) (N := 4) hx hb hw i_StateSet hown hK hP 0 rfl rfl 2 (by decide) (hw _ m_232) (fun _ h9 => h9) rfl d_StateSet_makeRoom_57 ?_
      refine lv_icmp_ge (tgt := 87) hx hb d_StateSet_makeRoom_60 (by decide) (fun c9 => ?_) (fun c9 => absurd (nI_le (Nat.le_refl _) (by omega)) c9)
      have hc9 : n ≤ n := (nI_leI (a := n) (b := n) (by omega) (by omega)).mp c9
      refine tp_pc (pc' := 87) (by rfl) ?_
      obtain ⟨hP9, hD9, -⟩ := cut3 (wc := [oc h0 2 [.ref h1, .ref h2, .int (nI n), .int (nI (2 ^ e))], la h1 kk KL kf, ia h2 ks SL sf2]) hP hD rfl hS hA [0, 1, 2] (by decide +kernel) rfl
      have hK9 := hK.sub (tys' := []) [] rfl
      refine W.widen (k := 0) (n := 0) (by exact Nat.le_refl _) (by exact Nat.le_refl _) ?_
      exact W.vret hx hb hr (fun t9 ht9 hW => ⟨⟨(), rfl, trivial, sf2, g, hg, hT, by rw [ht9]; exact hP9, va_K.moved hW.alike hK9, hD9⟩, hS.F ht9⟩) hS.2.2 d_StateSet_makeRoom_87
