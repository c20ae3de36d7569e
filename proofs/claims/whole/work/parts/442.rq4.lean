set_option maxHeartbeats 4000000 in
set_option maxRecDepth 100000 in
theorem rRac9 (l : Launch) (dC : Nat → ClassId) (dI : Nat → Nat → Nat) (ra : Nat) (rA : Nat → Nat) (rK9 : Nat → ClassId) (S : RX9) (OS : Nat → List O9) (hPr : PrR (r_T S) (r_zs S) (r_kd S) (r_vx S) (r_rr S) (r_vv S)) (hO : okO9 OS S) (hf : r_ir S = 0 ∨ r_ir S = 1) (h01 : ∀ R2 OS2, sRr9 OS S R2 OS2 → ∀ k, k < 784 → (r_rc R2 k = 0 ∨ r_rc R2 k = 1)) (sz : Nat) : Met l y_Ref_races w_Ref_races ({ frames := 30, cells := 0, slots := 0, locals := 1500 }) (va_Pc [.ref ra] (SR9 dC dI ra rA rK9 S sz)) (va_Qi (fun (r : Int32) (R2 : RX9) => ∃ OS2, sRr9 OS S R2 OS2 ∧ okO9 OS2 R2 ∧ r = nI (smN (raG9 (r_rc R2)) 28)) (fun R2 t9 => PR9 dC dI ra rA rK9 S sz R2 t9) (va_A (rw9 ra rA rK9 S) sz)) (0) (0) (va_A (rw9 ra rA rK9 S) sz) := by
  refine Met.ofW (cc := b_Ref_races) (maxL := 4) (ret := (some .int)) (by decide) rfl ?_
  intro p e0 s m9 args below meth c s₁ B hml hv
  obtain ⟨rfl, hsz, hP, hK, hD0, hn⟩ := hv
  have hx := B.exec
  have hb := B.bytes
  have hr := B.returns
  have hw := fun w (h : w ∈ wt) => atoms_spec (ws := w_Ref_races) B.pre w (List.mem_cons_of_mem _ h)
  have hown : s.vm.findClass R_Ref = some m9.cls := findClass_of_methodNamed B.named
  have hlocks := B.notSynchronized
  subst hsz
  have hD := hD0.self (sz := s.heap.size)
  have hA : ∀ q : Nat, s.heap.size ≤ q → va_A (rw9 ra rA rK9 S) s.heap.size q := fun q h => Or.inr h
  clear hD0
  have hS : va_S (va_A (rw9 ra rA rK9 S) s.heap.size) s.heap s.heap [] := va_S.rf
  have hl := lv_entry ([.ref ra]) (n := 4) (Nat.le_of_ble_eq_true rfl)
  rw [lg_entry_eq]
  generalize (lg_sl ([.ref ra]) ++ List.replicate (4 - (lg_sl ([.ref ra])).length) Slot.unset).toArray = ls at hl ⊢
  replace hl : lv_has ls 4 [(0, .ref ra)] := hl
  refine lv_aload_n hx hb d_Ref_races_0 rfl (lv_at hl 0 rfl) ?_
  have hFc := oF9 hD hS hA
  refine va_callv (va_runV (As := []) (rest := []) ⟨hx, hb, hml, hown, hw⟩ (FQ9 l dC dI ra rA rK9 S OS hPr hO hf s.heap.size) (cw_V 0 hw g_Ref_findRaces rfl rfl rfl (hw _ m_109) (hw _ m_1288) (hw _ m_1290) (hw _ m_98) (by decide +kernel) ⟨by show _ ≤ (30 : Nat); (try dsimp only); omega, by show _ ≤ (1500 : Nat); (try dsimp only); omega⟩) ⟨fun a U g mk q => by obtain ⟨q0, q1, qP, qK, qD, qN⟩ := q; exact ⟨q0, q1, qP, va_K.moved (u := U) (U := U.calling g mk a) (Vm.Alike.refl U.vm) qK, qD, nw_call qN⟩, va_recv hK hP (ci := 8) (q0 := 0) rfl rfl, fun U hU hW => ⟨rfl, by rw [hU], by rw [hU]; exact hP, va_K.moved hW.alike hK, hD.weaken (fun _ _ _ _ => trivial), nw_warm hW hn⟩⟩ rfl rfl hl.1 rfl (lv_room (Nat.le_of_ble_eq_true rfl)) d_Ref_races_1 ⟨by show _ ≤ (0 : Nat); (try dsimp only); omega, by show _ ≤ (0 : Nat); (try dsimp only); omega⟩) hS (fun q _ h => hFc q h) hFc ?_
  intro u t9 H1 locs1 ht9 hvm hw1 hB hz1 hk1 hS1
  obtain ⟨R2, OS2, hst, hB⟩ := hB
  obtain ⟨hPn, hDn⟩ := oNr9 hFc hB ht9
  clear hB hz1 hk1 hFc hvm ht9 hP hS hD t9
  have hP := hPn
  have hD := hDn
  clear hPn hDn
  revert H1 locs1
  intro H locs hS hP
  have hO2 := sRr_O hO hst
  have h02 := h01 R2 OS2 hst
  refine tp_pc (pc' := 4) (by rfl) ?_
  refine lv_iconst (v := 0) hx hb d_Ref_races_4 (by decide) ?_
  refine lv_istore_n (lv' := [(1, .int 0), (0, .ref ra)]) hx hb d_Ref_races_5 rfl hl (by decide) rfl ?_
  clear hl ls
  intro ls hl
  refine lv_iconst (v := 0) hx hb d_Ref_races_6 (by decide) ?_
  refine lv_istore_n (lv' := [(2, .int 0), (1, .int 0), (0, .ref ra)]) hx hb d_Ref_races_7 rfl hl (by decide) rfl ?_
  clear hl ls
  intro ls hl
  replace hl : lv_has ls 4 [(2, .int (nI 0)), (1, .int (nI (smN (raG9 (r_rc R2)) 0))), (0, .ref ra)] := hl
  refine lp_n 28 (fun i1 H locs ls => va_P (dC, dI) classes (rw9 ra rA rK9 R2) H ∧ va_S (va_A (rw9 ra rA rK9 S) s.heap.size) s.heap H locs ∧ lv_has ls 4 [(2, .int (nI i1)), (1, .int (nI (smN (raG9 (r_rc R2)) i1))), (0, .ref ra)]) ⟨hP, hS, hl⟩ ?_ ?_
  · intro i1 H locs ls hi1 hI ih_i1
    obtain ⟨hP, hS, hl⟩ := hI
    have hgl := raG_le (f := r_rc R2) i1
    refine lv_iload_n hx hb d_Ref_races_8 rfl (lv_at hl 0 rfl) ?_
    refine lv_bipush (v := 28) hx hb d_Ref_races_9 (by decide) ?_
    refine lv_icmp_ge (tgt := 58) hx hb d_Ref_races_11 (by decide) (fun c9 => absurd c9 (nI_ge (a := i1) (b := 28) hi1 (by decide))) (fun c9 => ?_)
    refine tp_pc (pc' := 14) (by rfl) ?_
    refine lv_iload_n hx hb d_Ref_races_14 rfl (lv_at hl 0 rfl) ?_
    refine lv_iconst (v := 1) hx hb d_Ref_races_15 (by decide) ?_
    refine lv_iadd hx hb d_Ref_races_16 ?_
    refine tp_i (y := nI (i1 + 1)) (by exact nI_add i1 1) ?_
    refine lv_istore_n (lv' := [(3, .int (nI (i1 + 1))), (2, .int (nI i1)), (1, .int (nI (smN (raG9 (r_rc R2)) i1))), (0, .ref ra)]) hx hb d_Ref_races_17 rfl hl (by decide) rfl ?_
    clear hl ls
    intro ls hl
    replace hl : lv_has ls 4 [(3, .int (nI (i1 + 1 + 0))), (2, .int (nI i1)), (1, .int (nI (smN (raG9 (r_rc R2)) i1 + smN (raF9 (r_rc R2) i1) 0))), (0, .ref ra)] := hl
    refine lp_n (27 - i1) (fun k1 H locs ls => va_P (dC, dI) classes (rw9 ra rA rK9 R2) H ∧ va_S (va_A (rw9 ra rA rK9 S) s.heap.size) s.heap H locs ∧ lv_has ls 4 [(3, .int (nI (i1 + 1 + k1))), (2, .int (nI i1)), (1, .int (nI (smN (raG9 (r_rc R2)) i1 + smN (raF9 (r_rc R2) i1) k1))), (0, .ref ra)]) ⟨hP, hS, hl⟩ ?_ ?_
    · intro k1 H locs ls hk1 hI ih_k1
      obtain ⟨hP, hS, hl⟩ := hI
      have hfl := raF_le (f := r_rc R2) (i := i1) k1
      refine lv_iload_n hx hb d_Ref_races_18 rfl (lv_at hl 0 rfl) ?_
      refine lv_bipush (v := 28) hx hb d_Ref_races_19 (by decide) ?_
      refine lv_icmp_ge (tgt := 52) hx hb d_Ref_races_21 (by decide) (fun c9 => absurd c9 (nI_ge (a := i1 + 1 + k1) (b := 28) (by omega) (by decide))) (fun c9 => ?_)
      refine tp_pc (pc' := 24) (by rfl) ?_
      refine lv_iload_n hx hb d_Ref_races_24 rfl (lv_at hl 2 rfl) ?_
      refine lv_aload_n hx hb d_Ref_races_25 rfl (lv_at hl 3 rfl) ?_
      refine va_get (D := (dC, dI)) (ci := 8) (v := .ref (rA 15)) (C := R_Ref) (T := F_Ref) (N := 48) hx hb hw i_Ref hown hK hP 0 rfl rfl 15 (by decide) (hw _ m_914) (fun _ h9 => h9) rfl d_Ref_races_26 ?_
      refine lv_bipush (v := 28) hx hb d_Ref_races_29 (by decide) ?_
      refine lv_iload_n hx hb d_Ref_races_31 rfl (lv_at hl 1 rfl) ?_
      refine lv_imul hx hb d_Ref_races_32 ?_
      refine tp_i (y := nI (28 * i1)) (by exact pk_mul 28 i1) ?_
      refine lv_iload_n hx hb d_Ref_races_33 rfl (lv_at hl 0 rfl) ?_
      refine lv_iadd hx hb d_Ref_races_34 ?_
      refine tp_i (y := nI (28 * i1 + (i1 + 1 + k1))) (by exact nI_add (28 * i1) (i1 + 1 + k1)) ?_
      refine va_zald (D := (dC, dI)) hx hb hK hP 13 12 rfl rfl (i := nI (28 * i1 + (i1 + 1 + k1))) (pk_in (28 * i1 + (i1 + 1 + k1)) 784 (by omega)) d_Ref_races_35 ?_
      refine tp_i (y := (r_rc R2) (28 * i1 + (i1 + 1 + k1))) (by rw [show (nI (28 * i1 + (i1 + 1 + k1)) : Int32).toNatClampNeg = 28 * i1 + (i1 + 1 + k1) from pk_cl (28 * i1 + (i1 + 1 + k1))]) ?_
      rcases h02 (28 * i1 + (i1 + 1 + k1)) (by omega) with q0 | q1
      · skip
        refine tp_i (y := 0) q0 ?_
        refine lv_if_eq (tgt := 43) hx hb d_Ref_races_36 (by decide) (fun c_2 => ?_) (fun c_2 => absurd c_2 (by decide))
        refine tp_pc (pc' := 43) (by rfl) ?_
        refine lv_iconst (v := 0) hx hb d_Ref_races_43 (by decide) ?_
        refine lv_iadd hx hb d_Ref_races_44 ?_
        refine tp_i (y := nI (smN (raG9 (r_rc R2)) i1 + smN (raF9 (r_rc R2) i1) k1 + 0)) (by exact nI_add (smN (raG9 (r_rc R2)) i1 + smN (raF9 (r_rc R2) i1) k1) 0) ?_
        refine tp_i (y := nI (smN (raG9 (r_rc R2)) i1 + smN (raF9 (r_rc R2) i1) (k1 + 1))) (by show _ = nI (smN (raG9 (r_rc R2)) i1 + (smN (raF9 (r_rc R2) i1) k1 + b2n (decide (r_rc R2 (28 * i1 + (i1 + 1 + k1)) = 1)))); rw [q0]; rfl) ?_
        refine lv_istore_n (lv' := [(1, .int (nI (smN (raG9 (r_rc R2)) i1 + smN (raF9 (r_rc R2) i1) (k1 + 1)))), (3, .int (nI (i1 + 1 + k1))), (2, .int (nI i1)), (0, .ref ra)]) hx hb d_Ref_races_45 rfl hl (by decide) rfl ?_
        clear hl ls
        intro ls hl
        refine lv_iinc (v := nI (i1 + 1 + k1 + 1)) (lv' := [(3, .int (nI (i1 + 1 + k1 + 1))), (1, .int (nI (smN (raG9 (r_rc R2)) i1 + smN (raF9 (r_rc R2) i1) (k1 + 1)))), (2, .int (nI i1)), (0, .ref ra)]) hx hb d_Ref_races_46 hl (k := 1) rfl (by exact nI_1 (i1 + 1 + k1)) (by decide) rfl ?_
        clear hl ls
        intro ls hl
        replace hl : lv_has ls 4 [(3, .int (nI (i1 + 1 + (k1 + 1)))), (1, .int (nI (smN (raG9 (r_rc R2)) i1 + smN (raF9 (r_rc R2) i1) (k1 + 1)))), (2, .int (nI i1)), (0, .ref ra)] := hl
        refine lv_goto (tgt := 18) hx hb d_Ref_races_49 (by decide) ?_
        refine tp_pc (pc' := 18) (by rfl) ?_
        exact ih_k1 _ _ _ ⟨hP, hS, lv_sub hl [0, 2, 1, 3] rfl⟩
      · skip
        refine tp_i (y := 1) q1 ?_
        refine lv_if_eq (tgt := 43) hx hb d_Ref_races_36 (by decide) (fun c_3 => absurd c_3 (by decide)) (fun c_3 => ?_)
        refine tp_pc (pc' := 39) (by rfl) ?_
        refine lv_iconst (v := 1) hx hb d_Ref_races_39 (by decide) ?_
        refine lv_goto (tgt := 44) hx hb d_Ref_races_40 (by decide) ?_
        refine tp_pc (pc' := 44) (by rfl) ?_
        refine lv_iadd hx hb d_Ref_races_44 ?_
        refine tp_i (y := nI (smN (raG9 (r_rc R2)) i1 + smN (raF9 (r_rc R2) i1) k1 + 1)) (by exact nI_add (smN (raG9 (r_rc R2)) i1 + smN (raF9 (r_rc R2) i1) k1) 1) ?_
        refine tp_i (y := nI (smN (raG9 (r_rc R2)) i1 + smN (raF9 (r_rc R2) i1) (k1 + 1))) (by show _ = nI (smN (raG9 (r_rc R2)) i1 + (smN (raF9 (r_rc R2) i1) k1 + b2n (decide (r_rc R2 (28 * i1 + (i1 + 1 + k1)) = 1)))); rw [q1]; rfl) ?_
        refine lv_istore_n (lv' := [(1, .int (nI (smN (raG9 (r_rc R2)) i1 + smN (raF9 (r_rc R2) i1) (k1 + 1)))), (3, .int (nI (i1 + 1 + k1))), (2, .int (nI i1)), (0, .ref ra)]) hx hb d_Ref_races_45 rfl hl (by decide) rfl ?_
        clear hl ls
        intro ls hl
        refine lv_iinc (v := nI (i1 + 1 + k1 + 1)) (lv' := [(3, .int (nI (i1 + 1 + k1 + 1))), (1, .int (nI (smN (raG9 (r_rc R2)) i1 + smN (raF9 (r_rc R2) i1) (k1 + 1)))), (2, .int (nI i1)), (0, .ref ra)]) hx hb d_Ref_races_46 hl (k := 1) rfl (by exact nI_1 (i1 + 1 + k1)) (by decide) rfl ?_
        clear hl ls
        intro ls hl
        replace hl : lv_has ls 4 [(3, .int (nI (i1 + 1 + (k1 + 1)))), (1, .int (nI (smN (raG9 (r_rc R2)) i1 + smN (raF9 (r_rc R2) i1) (k1 + 1)))), (2, .int (nI i1)), (0, .ref ra)] := hl
        refine lv_goto (tgt := 18) hx hb d_Ref_races_49 (by decide) ?_
        refine tp_pc (pc' := 18) (by rfl) ?_
        exact ih_k1 _ _ _ ⟨hP, hS, lv_sub hl [0, 2, 1, 3] rfl⟩
    · intro H locs ls hI
      obtain ⟨hP, hS, hl⟩ := hI
      refine lv_iload_n hx hb d_Ref_races_18 rfl (lv_at hl 0 rfl) ?_
      refine lv_bipush (v := 28) hx hb d_Ref_races_19 (by decide) ?_
      refine lv_icmp_ge (tgt := 52) hx hb d_Ref_races_21 (by decide) (fun c9 => ?_) (fun c9 => absurd (nI_le (a := 28) (b := i1 + 1 + (27 - i1)) (by omega) (by omega)) c9)
      refine tp_pc (pc' := 52) (by rfl) ?_
      refine lv_iinc (v := nI (i1 + 1)) (lv' := [(2, .int (nI (i1 + 1))), (3, .int (nI (i1 + 1 + (27 - i1)))), (1, .int (nI (smN (raG9 (r_rc R2)) i1 + smN (raF9 (r_rc R2) i1) (27 - i1)))), (0, .ref ra)]) hx hb d_Ref_races_52 hl (k := 1) rfl (by exact nI_1 i1) (by decide) rfl ?_
      clear hl ls
      intro ls hl
      refine lv_goto (tgt := 8) hx hb d_Ref_races_55 (by decide) ?_
      refine tp_pc (pc' := 8) (by rfl) ?_
      replace hl : lv_has ls 4 [(2, .int (nI (i1 + 1))), (3, .int (nI (i1 + 1 + (27 - i1)))), (1, .int (nI (smN (raG9 (r_rc R2)) (i1 + 1)))), (0, .ref ra)] := hl
      exact ih_i1 _ _ _ ⟨hP, hS, lv_sub hl [0, 2, 3] rfl⟩
  · intro H locs ls hI
    obtain ⟨hP, hS, hl⟩ := hI
    refine lv_iload_n hx hb d_Ref_races_8 rfl (lv_at hl 0 rfl) ?_
    refine lv_bipush (v := 28) hx hb d_Ref_races_9 (by decide) ?_
    refine lv_icmp_ge (tgt := 58) hx hb d_Ref_races_11 (by decide) (fun c9 => ?_) (fun c9 => absurd (nI_le (Nat.le_refl 28) (by decide)) c9)
    refine tp_pc (pc' := 58) (by rfl) ?_
    refine lv_iload_n hx hb d_Ref_races_58 rfl (lv_at hl 1 rfl) ?_
    refine W.widen (k := 0) (n := 0) (by omega) (by omega) ?_
    exact W.iret (v := (nI (smN (raG9 (r_rc R2)) 28))) hx hb hr (fun t9 ht9 hW => ⟨⟨nI (smN (raG9 (r_rc R2)) 28), R2, rfl, ⟨OS2, hst, hO2, rfl⟩, by rw [ht9]; exact hP, hD⟩, hS.F ht9⟩) hS.2.2 d_Ref_races_59
