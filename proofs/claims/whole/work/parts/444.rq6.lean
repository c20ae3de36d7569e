theorem nwS_self {R : RX9} : R = nwS9 R (r_nw R) := rfl
theorem nwS_nw {R : RX9} {f g : Nat → Int32} : nwS9 (nwS9 R f) g = nwS9 R g := rfl
theorem nw_get {R : RX9} {g : Nat → Int32} : r_nw (nwS9 R g) = g := rfl
theorem nw_oc {R : RX9} {g : Nat → Int32} : r_oc (nwS9 R g) = r_oc R := rfl
theorem nw_w9 {D : (Nat → ClassId) × (Nat → Nat → Nat)} {H : Heap} {ra : Nat} {rA : Nat → Nat} {rK9 : Nat → ClassId} {R : RX9} {g : Nat → Int32} (h : va_P D classes ((rw9 ra rA rK9 R).set 21 (rA 28, .inl (rK9 28, 11, .inl g))) H) : va_P D classes (rw9 ra rA rK9 (nwS9 R g)) H := h
theorem nw_cp {R R6 : RX9} {f6 : Nat → Int32} {b k : Nat} (hf : R6 = nwS9 R f6) (hc : ∀ j, j < k → r_nw R6 j = r_oc R (b + j)) {j : Nat} (hj : j < k + 1) : upd (r_nw R6) k (r_oc R6 (b + k)) j = r_oc R (b + j) := by
  by_cases e : j = k
  · rw [e, pk_us, hf, nw_oc]
  · rw [pk_un e]; exact hc j (by omega)
set_option maxHeartbeats 4000000 in
set_option maxRecDepth 100000 in
theorem rBey9 (l : Launch) (dC : Nat → ClassId) (dI : Nat → Nat → Nat) (ra : Nat) (rA : Nat → Nat) (rK9 : Nat → ClassId) (S : RX9) (OS : Nat → List O9) (m o : Nat) (hm : m < 4) (ho : o < 4) (hPr : PrR (r_T S) (r_zs S) (r_kd S) (r_vx S) (r_rr S) (r_vv S)) (hO : okO9 OS S) (hfm : r_ff S m = 0 ∨ r_ff S m = 1) (hfo : ∀ R2 OS2, sFn9 OS S m R2 OS2 → (r_ff R2 o = 0 ∨ r_ff R2 o = 1)) (sz : Nat) : Met l y_Ref_beyond w_Ref_beyond ({ frames := 30, cells := 0, slots := 0, locals := 1500 }) (va_Pc [.ref ra, .int (nI m), .int (nI o)] (SR9 dC dI ra rA rK9 S sz)) (va_Qi (fun (r : Int32) (R4 : RX9) => ∃ R2 OS2 R3 OS3 f, sFn9 OS S m R2 OS2 ∧ sFn9 OS2 R2 o R3 OS3 ∧ okO9 OS3 R3 ∧ R4 = nwS9 R3 f ∧ r = nI (byN9 (OS3 m) (OS3 o) (OS3 m).length)) (fun R4 t9 => PR9 dC dI ra rA rK9 S sz R4 t9) (va_A (rw9 ra rA rK9 S) sz)) (0) (0) (va_A (rw9 ra rA rK9 S) sz) := by
  refine Met.ofW (cc := b_Ref_beyond) (maxL := 9) (ret := (some .int)) (by decide) rfl ?_
  intro p e0 s m9 args below meth c s₁ B hml hv
  obtain ⟨rfl, hsz, hP, hK, hD0, hn⟩ := hv
  have hx := B.exec
  have hb := B.bytes
  have hr := B.returns
  have hw := fun w (h : w ∈ wt) => atoms_spec (ws := w_Ref_beyond) B.pre w (List.mem_cons_of_mem _ h)
  have hown : s.vm.findClass R_Ref = some m9.cls := findClass_of_methodNamed B.named
  have hlocks := B.notSynchronized
  subst hsz
  have hD := hD0.self (sz := s.heap.size)
  have hA : ∀ q : Nat, s.heap.size ≤ q → va_A (rw9 ra rA rK9 S) s.heap.size q := fun q h => Or.inr h
  clear hD0
  have hS : va_S (va_A (rw9 ra rA rK9 S) s.heap.size) s.heap s.heap [] := va_S.rf
  have hl := lv_entry ([.ref ra, .int (nI m), .int (nI o)]) (n := 9) (Nat.le_of_ble_eq_true rfl)
  rw [lg_entry_eq]
  generalize (lg_sl ([.ref ra, .int (nI m), .int (nI o)]) ++ List.replicate (9 - (lg_sl ([.ref ra, .int (nI m), .int (nI o)])).length) Slot.unset).toArray = ls at hl ⊢
  replace hl : lv_has ls 9 [(0, .ref ra), (1, .int (nI m)), (2, .int (nI o))] := hl
  refine lv_iload_n hx hb d_Ref_beyond_0 rfl (lv_at hl 1 rfl) ?_
  have hP0 : va_P (dC, dI) classes [] s.heap := fun k q h => absurd h (by simp)
  have hK0 := hK.sub (tys' := []) [] rfl
  have hFc : ∀ q, va_A ([] : va_W) s.heap.size q → va_A (rw9 ra rA rK9 S) s.heap.size q := fun q h => h.elim (fun ⟨k, e, w⟩ => absurd w (by simp)) (fun w => hA q (Nat.le_trans hS.1 w))
  refine va_calli (va_runS (As := [.int (nI m)]) (rest := []) ⟨hx, hb, hml, hown, hw⟩ (gen_Ref_isModel l dC dI (nI m) s.heap.size) (cw_S 1 hw g_Ref_isModel rfl rfl rfl (hw _ m_109) (hw _ m_1066) (hw _ m_1067) (by decide +kernel) ⟨by show _ ≤ (30 : Nat); (try dsimp only); omega, by show _ ≤ (1500 : Nat); (try dsimp only); omega⟩) ⟨fun a U g mk q => by obtain ⟨q0, q1, qP, qK, qD, qN⟩ := q; exact ⟨q0, q1, qP, va_K.moved (u := U) (U := U.calling g mk a) (Vm.Alike.refl U.vm) qK, qD, nw_call qN⟩, fun U hU hW => ⟨rfl, by rw [hU], by rw [hU]; exact hP0, va_K.moved hW.alike hK0, vD0, nw_warm hW hn⟩⟩ rfl rfl hl.1 rfl (lv_room (Nat.le_of_ble_eq_true rfl)) d_Ref_beyond_1 ⟨by show _ ≤ (0 : Nat); (try dsimp only); omega, by show _ ≤ (0 : Nat); (try dsimp only); omega⟩) hS (fun q _ h => hFc q h) hFc ?_
  intro r_1 u t9 H1 locs1 ht9 hvm hw1 hB hz1 hk1 hS1
  have hPn : va_P (dC, dI) classes (rw9 ra rA rK9 S) H1 := hP.kept (fun k q hk => hk1 q.1 (hP k q hk).lt (fun z => z.elim (fun ⟨k2, e, w⟩ => absurd w (by simp)) (fun w => absurd (hP k q hk).lt (Nat.not_lt.mpr w))))
  clear hB hz1 hk1 hFc hvm ht9 hP hS t9 hP0 hK0
  have hP := hPn
  clear hPn
  revert H1 locs1
  intro H locs hS hP
  refine tp_i (y := 1) (by rw [hw1, if_pos ⟨nI_pos (by omega), by rw [nI_clamp (by omega)]; exact hm⟩]) ?_
  refine tp_pc (pc' := 4) (by rfl) ?_
  refine lv_if_eq (tgt := 14) hx hb d_Ref_beyond_4 (by decide) (fun c_2 => absurd c_2 (by decide)) (fun c_2 => ?_)
  refine tp_pc (pc' := 7) (by rfl) ?_
  refine lv_iload_n hx hb d_Ref_beyond_7 rfl (lv_at hl 2 rfl) ?_
  have hP0 : va_P (dC, dI) classes [] H := fun k q h => absurd h (by simp)
  have hK0 := hK.sub (tys' := []) [] rfl
  have hFc : ∀ q, va_A ([] : va_W) H.size q → va_A (rw9 ra rA rK9 S) s.heap.size q := fun q h => h.elim (fun ⟨k, e, w⟩ => absurd w (by simp)) (fun w => hA q (Nat.le_trans hS.1 w))
  refine va_calli (va_runS (As := [.int (nI o)]) (rest := []) ⟨hx, hb, hml, hown, hw⟩ (gen_Ref_isModel l dC dI (nI o) H.size) (cw_S 1 hw g_Ref_isModel rfl rfl rfl (hw _ m_109) (hw _ m_1066) (hw _ m_1067) (by decide +kernel) ⟨by show _ ≤ (30 : Nat); (try dsimp only); omega, by show _ ≤ (1500 : Nat); (try dsimp only); omega⟩) ⟨fun a U g mk q => by obtain ⟨q0, q1, qP, qK, qD, qN⟩ := q; exact ⟨q0, q1, qP, va_K.moved (u := U) (U := U.calling g mk a) (Vm.Alike.refl U.vm) qK, qD, nw_call qN⟩, fun U hU hW => ⟨rfl, by rw [hU], by rw [hU]; exact hP0, va_K.moved hW.alike hK0, vD0, nw_warm hW hn⟩⟩ rfl rfl hl.1 rfl (lv_room (Nat.le_of_ble_eq_true rfl)) d_Ref_beyond_8 ⟨by show _ ≤ (0 : Nat); (try dsimp only); omega, by show _ ≤ (0 : Nat); (try dsimp only); omega⟩) hS (fun q _ h => hFc q h) hFc ?_
  intro r_3 u t9 H1 locs1 ht9 hvm hw1 hB hz1 hk1 hS1
  have hPn : va_P (dC, dI) classes (rw9 ra rA rK9 S) H1 := hP.kept (fun k q hk => hk1 q.1 (hP k q hk).lt (fun z => z.elim (fun ⟨k2, e, w⟩ => absurd w (by simp)) (fun w => absurd (hP k q hk).lt (Nat.not_lt.mpr w))))
  clear hB hz1 hk1 hFc hvm ht9 hP hS t9 hP0 hK0 locs H
  have hP := hPn
  clear hPn
  revert H1 locs1
  intro H locs hS hP
  refine tp_i (y := 1) (by rw [hw1, if_pos ⟨nI_pos (by omega), by rw [nI_clamp (by omega)]; exact ho⟩]) ?_
  refine tp_pc (pc' := 11) (by rfl) ?_
  refine lv_if_ne (tgt := 16) hx hb d_Ref_beyond_11 (by decide) (fun c_4 => ?_) (fun c_4 => absurd c_4 (by decide))
  refine tp_pc (pc' := 16) (by rfl) ?_
  refine lv_aload_n hx hb d_Ref_beyond_16 rfl (lv_at hl 0 rfl) ?_
  refine lv_iload_n hx hb d_Ref_beyond_17 rfl (lv_at hl 1 rfl) ?_
  have hFc := oF9 hD hS hA
  refine va_callv (va_runV (As := [.int (nI m)]) (rest := []) ⟨hx, hb, hml, hown, hw⟩ (FI9 l dC dI ra rA rK9 S OS m hm hPr hO hfm H.size) (cw_V 1 hw g_Ref_find rfl rfl rfl (hw _ m_109) (hw _ m_1069) (hw _ m_1071) (hw _ m_52) (by decide +kernel) ⟨by show _ ≤ (30 : Nat); (try dsimp only); omega, by show _ ≤ (1500 : Nat); (try dsimp only); omega⟩) ⟨fun a U g mk q => by obtain ⟨q0, q1, qP, qK, qD, qN⟩ := q; exact ⟨q0, q1, qP, va_K.moved (u := U) (U := U.calling g mk a) (Vm.Alike.refl U.vm) qK, qD, nw_call qN⟩, va_recv hK hP (ci := 8) (q0 := 0) rfl rfl, fun U hU hW => ⟨rfl, by rw [hU], by rw [hU]; exact hP, va_K.moved hW.alike hK, hD.weaken (fun _ _ _ _ => trivial), nw_warm hW hn⟩⟩ rfl rfl hl.1 rfl (lv_room (Nat.le_of_ble_eq_true rfl)) d_Ref_beyond_18 ⟨by show _ ≤ (0 : Nat); (try dsimp only); omega, by show _ ≤ (0 : Nat); (try dsimp only); omega⟩) hS (fun q _ h => hFc q h) hFc ?_
  intro u t9 H1 locs1 ht9 hvm hw1 hB hz1 hk1 hS1
  obtain ⟨R2, OS2, hst, hB⟩ := hB
  obtain ⟨hPn, hDn⟩ := oNr9 hFc hB ht9
  clear hB hz1 hk1 hFc hvm ht9 hP hS hD t9 locs H
  have hP := hPn
  have hD := hDn
  clear hPn hDn
  revert H1 locs1
  intro H locs hS hP
  have hO2 := sFn_O hO hst
  have hPr2 : PrR (r_T R2) (r_zs R2) (r_kd R2) (r_vx R2) (r_rr R2) (r_vv R2) := by obtain ⟨x1, x2, x3, x4, x5, x6⟩ := sFn_P hst; rw [x1, x2, x3, x4, x5, x6]; exact hPr
  refine tp_pc (pc' := 21) (by rfl) ?_
  refine lv_aload_n hx hb d_Ref_beyond_21 rfl (lv_at hl 0 rfl) ?_
  refine lv_iload_n hx hb d_Ref_beyond_22 rfl (lv_at hl 2 rfl) ?_
  have hFc := oF9 hD hS hA
  refine va_callv (va_runV (As := [.int (nI o)]) (rest := []) ⟨hx, hb, hml, hown, hw⟩ (FI9 l dC dI ra rA rK9 R2 OS2 o ho hPr2 hO2 (hfo R2 OS2 hst) H.size) (cw_V 1 hw g_Ref_find rfl rfl rfl (hw _ m_109) (hw _ m_1069) (hw _ m_1071) (hw _ m_52) (by decide +kernel) ⟨by show _ ≤ (30 : Nat); (try dsimp only); omega, by show _ ≤ (1500 : Nat); (try dsimp only); omega⟩) ⟨fun a U g mk q => by obtain ⟨q0, q1, qP, qK, qD, qN⟩ := q; exact ⟨q0, q1, qP, va_K.moved (u := U) (U := U.calling g mk a) (Vm.Alike.refl U.vm) qK, qD, nw_call qN⟩, va_recv hK hP (ci := 8) (q0 := 0) rfl rfl, fun U hU hW => ⟨rfl, by rw [hU], by rw [hU]; exact hP, va_K.moved hW.alike hK, hD.weaken (fun _ _ _ _ => trivial), nw_warm hW hn⟩⟩ rfl rfl hl.1 rfl (lv_room (Nat.le_of_ble_eq_true rfl)) d_Ref_beyond_23 ⟨by show _ ≤ (0 : Nat); (try dsimp only); omega, by show _ ≤ (0 : Nat); (try dsimp only); omega⟩) hS (fun q _ h => hFc q h) hFc ?_
  intro u t9 H1 locs1 ht9 hvm hw1 hB hz1 hk1 hS1
  obtain ⟨R3, OS3, hst3, hB⟩ := hB
  obtain ⟨hPn, hDn⟩ := oNr9 hFc hB ht9
  clear hB hz1 hk1 hFc hvm ht9 hP hS hD t9 locs H
  have hP := hPn
  have hD := hDn
  clear hPn hDn
  revert H1 locs1
  intro H locs hS hP
  have hO3 := sFn_O hO2 hst3
  have hA3 := hO3 m (by omega)
  have hB3 := hO3 o (by omega)
  obtain ⟨a1, a2, a3, a4, a5, a6, a7⟩ := hO3 m (by omega)
  obtain ⟨b1, b2, b3, b4, b5, b6, b7⟩ := hO3 o (by omega)
  refine tp_pc (pc' := 26) (by rfl) ?_
  refine lv_iconst (v := 0) hx hb d_Ref_beyond_26 (by decide) ?_
  refine lv_istore_n (lv' := [(3, .int 0), (0, .ref ra), (1, .int (nI m)), (2, .int (nI o))]) hx hb d_Ref_beyond_27 rfl hl (by decide) rfl ?_
  clear hl ls
  intro ls hl
  refine lv_iconst (v := 0) hx hb d_Ref_beyond_28 (by decide) ?_
  refine lv_istore (lv' := [(4, .int 0), (3, .int 0), (0, .ref ra), (1, .int (nI m)), (2, .int (nI o))]) hx hb d_Ref_beyond_29 hl (by decide) rfl ?_
  clear hl ls
  intro ls hl
  replace hl : lv_has ls 9 [(4, .int (nI 0)), (3, .int (nI (byN9 (OS3 m) (OS3 o) 0))), (0, .ref ra), (1, .int (nI m)), (2, .int (nI o))] := hl
  refine lp_n (OS3 m).length (fun i1 H locs ls => (∃ R4, (∃ f, R4 = nwS9 R3 f) ∧ va_P (dC, dI) classes (rw9 ra rA rK9 R4) H) ∧ va_S (va_A (rw9 ra rA rK9 S) s.heap.size) s.heap H locs ∧ lv_has ls 9 [(4, .int (nI i1)), (3, .int (nI (byN9 (OS3 m) (OS3 o) i1))), (0, .ref ra), (1, .int (nI m)), (2, .int (nI o))]) ⟨⟨R3, ⟨r_nw R3, nwS_self⟩, hP⟩, hS, hl⟩ ?_ ?_
  · intro i1 H locs ls hi1 hI ih1
    obtain ⟨⟨R4, ⟨f4, hf4⟩, hP⟩, hS, hl⟩ := hI
    have hOR4 : okO9 OS3 R4 := by rw [hf4]; exact hO3
    have hDR4 : va_D (va_A (rw9 ra rA rK9 S) s.heap.size) (rw9 ra rA rK9 R4) := rD9 hD
    clear hD
    have hD := hDR4
    clear hDR4
    clear b1 b2 b3 b4 b5 b6 b7
    obtain ⟨b1, b2, b3, b4, b5, b6, b7⟩ := hOR4 o (by omega)
    clear a1 a2 a3 a4 a5 a6 a7
    obtain ⟨a1, a2, a3, a4, a5, a6, a7⟩ := hOR4 m (by omega)
    have hby := by_le9 (L := OS3 m) (M := OS3 o) i1
    refine lv_iload hx hb d_Ref_beyond_31 (lv_at hl 0 rfl) ?_
    refine lv_aload_n hx hb d_Ref_beyond_33 rfl (lv_at hl 2 rfl) ?_
    refine va_get (D := (dC, dI)) (ci := 8) (v := .ref (rA 8)) (C := R_Ref) (T := F_Ref) (N := 48) hx hb hw i_Ref hown hK hP 0 rfl rfl 8 (by decide) (hw _ m_907) (fun _ h9 => h9) rfl d_Ref_beyond_34 ?_
    refine lv_iload_n hx hb d_Ref_beyond_37 rfl (lv_at hl 3 rfl) ?_
    refine va_iald (D := (dC, dI)) hx hb hK hP 7 6 rfl rfl (i := nI m) (pk_in m 8 (by omega)) d_Ref_beyond_38 ?_
    refine tp_i (y := nI ((r_om R4) m)) (by rw [show (nI m : Int32).toNatClampNeg = m from pk_cl m]) ?_
    refine tp_i (y := nI ((OS3 m).length)) (by rw [a1]) ?_
    refine lv_icmp_ge (tgt := 195) hx hb d_Ref_beyond_39 (by decide) (fun c9 => absurd c9 (nI_ge (a := i1) (b := (OS3 m).length) hi1 (by omega))) (fun c9 => ?_)
    refine tp_pc (pc' := 42) (by rfl) ?_
    refine lv_iconst (v := 0) hx hb d_Ref_beyond_42 (by decide) ?_
    refine lv_istore (lv' := [(5, .int 0), (4, .int (nI i1)), (3, .int (nI (byN9 (OS3 m) (OS3 o) i1))), (0, .ref ra), (1, .int (nI m)), (2, .int (nI o))]) hx hb d_Ref_beyond_43 hl (by decide) rfl ?_
    clear hl ls
    intro ls hl
    replace hl : lv_has ls 9 [(5, .int (nI 0)), (4, .int (nI i1)), (3, .int (nI (byN9 (OS3 m) (OS3 o) i1))), (0, .ref ra), (1, .int (nI m)), (2, .int (nI o))] := hl
    refine lp_n 11 (fun k1 H locs ls => (∃ R6, (∃ f, R6 = nwS9 R3 f) ∧ (∀ j, j < k1 → r_nw R6 j = r_oc R3 (11 * (4000 * m + i1) + j)) ∧ va_P (dC, dI) classes (rw9 ra rA rK9 R6) H) ∧ va_S (va_A (rw9 ra rA rK9 S) s.heap.size) s.heap H locs ∧ lv_has ls 9 [(5, .int (nI k1)), (4, .int (nI i1)), (3, .int (nI (byN9 (OS3 m) (OS3 o) i1))), (0, .ref ra), (1, .int (nI m)), (2, .int (nI o))]) ⟨⟨R4, ⟨f4, hf4⟩, fun j hj => absurd hj (Nat.not_lt_zero j), hP⟩, hS, hl⟩ ?_ ?_
    · clear hP hS hl
      intro k1 H locs ls hk1 hI ih2
      obtain ⟨⟨R6, ⟨f6, hf6⟩, hc6, hP⟩, hS, hl⟩ := hI
      have hOR6 : okO9 OS3 R6 := by rw [hf6]; exact hO3
      have hDR6 : va_D (va_A (rw9 ra rA rK9 S) s.heap.size) (rw9 ra rA rK9 R6) := rD9 hD
      clear hD
      have hD := hDR6
      clear hDR6
      clear b1 b2 b3 b4 b5 b6 b7
      obtain ⟨b1, b2, b3, b4, b5, b6, b7⟩ := hOR6 o (by omega)
      clear a1 a2 a3 a4 a5 a6 a7
      obtain ⟨a1, a2, a3, a4, a5, a6, a7⟩ := hOR6 m (by omega)
      refine lv_iload hx hb d_Ref_beyond_45 (lv_at hl 0 rfl) ?_
      refine lv_bipush (v := 11) hx hb d_Ref_beyond_47 (by decide) ?_
      refine lv_icmp_ge (tgt := 84) hx hb d_Ref_beyond_49 (by decide) (fun c9 => absurd c9 (nI_ge (a := k1) (b := 11) hk1 (by decide))) (fun c9 => ?_)
      refine tp_pc (pc' := 52) (by rfl) ?_
      refine lv_aload_n hx hb d_Ref_beyond_52 rfl (lv_at hl 3 rfl) ?_
      refine va_get (D := (dC, dI)) (ci := 8) (v := .ref (rA 28)) (C := R_Ref) (T := F_Ref) (N := 48) hx hb hw i_Ref hown hK hP 0 rfl rfl 28 (by decide) (hw _ m_927) (fun _ h9 => h9) rfl d_Ref_beyond_53 ?_
      refine lv_iload hx hb d_Ref_beyond_56 (lv_at hl 0 rfl) ?_
      refine lv_aload_n hx hb d_Ref_beyond_58 rfl (lv_at hl 3 rfl) ?_
      refine va_get (D := (dC, dI)) (ci := 8) (v := .ref (rA 9)) (C := R_Ref) (T := F_Ref) (N := 48) hx hb hw i_Ref hown hK hP 0 rfl rfl 9 (by decide) (hw _ m_908) (fun _ h9 => h9) rfl d_Ref_beyond_59 ?_
      refine lv_bipush (v := 11) hx hb d_Ref_beyond_62 (by decide) ?_
      refine lv_sipush (v := 4000) hx hb d_Ref_beyond_64 (by decide) ?_
      refine lv_iload_n hx hb d_Ref_beyond_67 rfl (lv_at hl 4 rfl) ?_
      refine lv_imul hx hb d_Ref_beyond_68 ?_
      refine tp_i (y := nI (4000 * m)) (by exact pk_mul 4000 m) ?_
      refine lv_iload hx hb d_Ref_beyond_69 (lv_at hl 1 rfl) ?_
      refine lv_iadd hx hb d_Ref_beyond_71 ?_
      refine tp_i (y := nI (4000 * m + i1)) (by exact nI_add (4000 * m) i1) ?_
      refine lv_imul hx hb d_Ref_beyond_72 ?_
      refine tp_i (y := nI (11 * (4000 * m + i1))) (by exact pk_mul 11 (4000 * m + i1)) ?_
      refine lv_iload hx hb d_Ref_beyond_73 (lv_at hl 0 rfl) ?_
      refine lv_iadd hx hb d_Ref_beyond_75 ?_
      refine tp_i (y := nI (11 * (4000 * m + i1) + k1)) (by exact nI_add (11 * (4000 * m + i1)) k1) ?_
      refine va_sald (D := (dC, dI)) hx hb hK hP 8 7 rfl rfl (i := nI (11 * (4000 * m + i1) + k1)) (pk_in (11 * (4000 * m + i1) + k1) 352000 (by omega)) d_Ref_beyond_76 ?_
      refine tp_i (y := (r_oc R6) (11 * (4000 * m + i1) + k1)) (by rw [show (nI (11 * (4000 * m + i1) + k1) : Int32).toNatClampNeg = 11 * (4000 * m + i1) + k1 from pk_cl (11 * (4000 * m + i1) + k1)]) ?_
      refine va_iast (D := (dC, dI)) hx hb hK hP hD hS 21 20 rfl rfl (i := nI k1) (x := (r_oc R6) (11 * (4000 * m + i1) + k1)) (pk_in k1 11 (by omega)) d_Ref_beyond_77 ?_
      clear hP hS H locs
      intro H locs hP _ hS
      rw [show (nI k1 : Int32).toNatClampNeg = k1 from pk_cl k1] at hP
      replace hP := nw_w9 hP
      refine tp_pc (pc' := 78) (by rfl) ?_
      refine lv_iinc (v := nI (k1 + 1)) (lv' := [(5, .int (nI (k1 + 1))), (4, .int (nI i1)), (3, .int (nI (byN9 (OS3 m) (OS3 o) i1))), (0, .ref ra), (1, .int (nI m)), (2, .int (nI o))]) hx hb d_Ref_beyond_78 hl (k := 0) rfl (by exact nI_1 k1) (by decide) rfl ?_
      clear hl ls
      intro ls hl
      refine lv_goto (tgt := 45) hx hb d_Ref_beyond_81 (by decide) ?_
      refine tp_pc (pc' := 45) (by rfl) ?_
      exact ih2 _ _ _ ⟨⟨_, ⟨_, by rw [hf6]; exact nwS_nw⟩, fun j hj => by rw [nw_get]; exact nw_cp hf6 hc6 hj, hP⟩, hS, lv_sub hl [0, 1, 2, 3, 4, 5] rfl⟩
    · clear hP hS hl
      intro H locs ls hI
      obtain ⟨⟨R6, ⟨f6, hf6⟩, hc6, hP⟩, hS, hl⟩ := hI
      obtain ⟨R5, hR5⟩ : ∃ R5, R5 = R6 := ⟨_, rfl⟩
      rw [← hR5] at hP hf6 hc6
      clear hR5
      have hOR5 : okO9 OS3 R5 := by rw [hf6]; exact hO3
      have hDR5 : va_D (va_A (rw9 ra rA rK9 S) s.heap.size) (rw9 ra rA rK9 R5) := rD9 hD
      clear hD
      have hD := hDR5
      clear hDR5
      clear b1 b2 b3 b4 b5 b6 b7
      obtain ⟨b1, b2, b3, b4, b5, b6, b7⟩ := hOR5 o (by omega)
      clear a1 a2 a3 a4 a5 a6 a7
      obtain ⟨a1, a2, a3, a4, a5, a6, a7⟩ := hOR5 m (by omega)
      refine lv_iload hx hb d_Ref_beyond_45 (lv_at hl 0 rfl) ?_
      refine lv_bipush (v := 11) hx hb d_Ref_beyond_47 (by decide) ?_
      refine lv_icmp_ge (tgt := 84) hx hb d_Ref_beyond_49 (by decide) (fun c9 => ?_) (fun c9 => absurd (nI_le (Nat.le_refl 11) (by decide)) c9)
      have hA5 := hOR5 m (by omega)
      have hB5 := hOR5 o (by omega)
      have hnk : ∀ k, k < 11 → r_nw R5 k = orow (OS3 m) i1 k := fun k hk => by rw [hc6 k hk]; exact ((hO3 m (by omega)).2.2.1 i1 hi1 k hk).1
      have hvv : (oat (OS3 m) i1).1 = v11 (r_nw R5) := (okO_row hA5 hi1).mpr hnk
      obtain ⟨p9, hp9, h1, h2, h3⟩ := bs9 hB5 (nv := r_nw R5) (fun k hk => by rw [hnk k hk]; exact (a3 i1 hi1 k hk).2)
      rw [← hvv] at h3
      refine tp_pc (pc' := 84) (by rfl) ?_
      refine lv_sipush (v := 4000) hx hb d_Ref_beyond_84 (by decide) ?_
      refine lv_iload_n hx hb d_Ref_beyond_87 rfl (lv_at hl 5 rfl) ?_
      refine lv_imul hx hb d_Ref_beyond_88 ?_
      refine tp_i (y := nI (4000 * o)) (by exact pk_mul 4000 o) ?_
      refine lv_istore (lv' := [(5, .int (nI (4000 * o))), (4, .int (nI i1)), (3, .int (nI (byN9 (OS3 m) (OS3 o) i1))), (0, .ref ra), (1, .int (nI m)), (2, .int (nI o))]) hx hb d_Ref_beyond_89 hl (by decide) rfl ?_
      clear hl ls
      intro ls hl
      refine lv_iconst (v := 0) hx hb d_Ref_beyond_91 (by decide) ?_
      refine lv_istore (lv' := [(6, .int 0), (5, .int (nI (4000 * o))), (4, .int (nI i1)), (3, .int (nI (byN9 (OS3 m) (OS3 o) i1))), (0, .ref ra), (1, .int (nI m)), (2, .int (nI o))]) hx hb d_Ref_beyond_92 hl (by decide) rfl ?_
      clear hl ls
      intro ls hl
      refine lv_aload_n hx hb d_Ref_beyond_94 rfl (lv_at hl 4 rfl) ?_
      refine va_get (D := (dC, dI)) (ci := 8) (v := .ref (rA 8)) (C := R_Ref) (T := F_Ref) (N := 48) hx hb hw i_Ref hown hK hP 0 rfl rfl 8 (by decide) (hw _ m_907) (fun _ h9 => h9) rfl d_Ref_beyond_95 ?_
      refine lv_iload_n hx hb d_Ref_beyond_98 rfl (lv_at hl 6 rfl) ?_
      refine va_iald (D := (dC, dI)) hx hb hK hP 7 6 rfl rfl (i := nI o) (pk_in o 8 (by omega)) d_Ref_beyond_99 ?_
      refine tp_i (y := nI ((r_om R5) o)) (by rw [show (nI o : Int32).toNatClampNeg = o from pk_cl o]) ?_
      refine tp_i (y := nI ((OS3 o).length)) (by rw [b1]) ?_
      refine lv_istore (lv' := [(7, .int (nI ((OS3 o).length))), (6, .int 0), (5, .int (nI (4000 * o))), (4, .int (nI i1)), (3, .int (nI (byN9 (OS3 m) (OS3 o) i1))), (0, .ref ra), (1, .int (nI m)), (2, .int (nI o))]) hx hb d_Ref_beyond_100 hl (by decide) rfl ?_
      clear hl ls
      intro ls hl
      replace hl : lv_has ls 9 [(7, .int (nI ((OS3 o).length))), (6, .int (nI 0)), (5, .int (nI (4000 * o))), (4, .int (nI i1)), (3, .int (nI (byN9 (OS3 m) (OS3 o) i1))), (0, .ref ra), (1, .int (nI m)), (2, .int (nI o))] := hl
      refine lp_w (fun mu H locs ls => ∃ lo hi, lo ≤ p9 ∧ p9 ≤ hi ∧ hi ≤ (OS3 o).length ∧ mu = hi - lo ∧ va_P (dC, dI) classes (rw9 ra rA rK9 R5) H ∧ va_S (va_A (rw9 ra rA rK9 S) s.heap.size) s.heap H locs ∧ lv_has ls 9 [(7, .int (nI hi)), (6, .int (nI lo)), (5, .int (nI (4000 * o))), (4, .int (nI i1)), (3, .int (nI (byN9 (OS3 m) (OS3 o) i1))), (0, .ref ra), (1, .int (nI m)), (2, .int (nI o))]) (OS3 o).length ⟨0, (OS3 o).length, Nat.zero_le _, hp9, Nat.le_refl _, rfl, hP, hS, hl⟩ ?_
      clear hP hS hl
      intro mu H locs ls hI ih
      obtain ⟨lo, hi, u1, u2, u3, u4, hP, hS, hl⟩ := hI
      refine lv_iload hx hb d_Ref_beyond_102 (lv_at hl 1 rfl) ?_
      refine lv_iload hx hb d_Ref_beyond_104 (lv_at hl 0 rfl) ?_
      refine lv_icmp_ge (tgt := 152) hx hb d_Ref_beyond_106 (by decide) (fun c1 => ?_) (fun c1 => ?_)
      · skip
        have hc1 : hi ≤ lo := (nI_leI (a := hi) (b := lo) (by omega) (by omega)).mp c1
        have e1 : lo = p9 := by omega
        rw [e1] at hl
        refine tp_pc (pc' := 152) (by rfl) ?_
        refine lv_iload_n hx hb d_Ref_beyond_152 rfl (lv_at hl 4 rfl) ?_
        refine lv_iload hx hb d_Ref_beyond_153 (lv_at hl 1 rfl) ?_
        refine lv_aload_n hx hb d_Ref_beyond_155 rfl (lv_at hl 5 rfl) ?_
        refine va_get (D := (dC, dI)) (ci := 8) (v := .ref (rA 8)) (C := R_Ref) (T := F_Ref) (N := 48) hx hb hw i_Ref hown hK hP 0 rfl rfl 8 (by decide) (hw _ m_907) (fun _ h9 => h9) rfl d_Ref_beyond_156 ?_
        refine lv_iload_n hx hb d_Ref_beyond_159 rfl (lv_at hl 7 rfl) ?_
        refine va_iald (D := (dC, dI)) hx hb hK hP 7 6 rfl rfl (i := nI o) (pk_in o 8 (by omega)) d_Ref_beyond_160 ?_
        refine tp_i (y := nI ((r_om R5) o)) (by rw [show (nI o : Int32).toNatClampNeg = o from pk_cl o]) ?_
        refine tp_i (y := nI ((OS3 o).length)) (by rw [b1]) ?_
        refine lv_icmp_ge (tgt := 186) hx hb d_Ref_beyond_161 (by decide) (fun c2 => ?_) (fun c2 => ?_)
        · skip
          have hc2 : (OS3 o).length ≤ p9 := (nI_leI (a := (OS3 o).length) (b := p9) (by omega) (by omega)).mp c2
          refine tp_pc (pc' := 186) (by rfl) ?_
          refine lv_iconst (v := 1) hx hb d_Ref_beyond_186 (by decide) ?_
          refine lv_iadd hx hb d_Ref_beyond_187 ?_
          refine tp_i (y := nI (byN9 (OS3 m) (OS3 o) i1 + 1)) (by exact nI_add (byN9 (OS3 m) (OS3 o) i1) 1) ?_
          refine tp_i (y := nI (byN9 (OS3 m) (OS3 o) (i1 + 1))) (by rw [by_n9 (fun w9 => absurd (h3.mp w9).1 (by omega))] <;> rfl) ?_
          refine lv_istore_n (lv' := [(3, .int (nI (byN9 (OS3 m) (OS3 o) (i1 + 1)))), (7, .int (nI hi)), (6, .int (nI p9)), (5, .int (nI (4000 * o))), (4, .int (nI i1)), (0, .ref ra), (1, .int (nI m)), (2, .int (nI o))]) hx hb d_Ref_beyond_188 rfl hl (by decide) rfl ?_
          clear hl ls
          intro ls hl
          refine lv_iinc (v := nI (i1 + 1)) (lv' := [(4, .int (nI (i1 + 1))), (3, .int (nI (byN9 (OS3 m) (OS3 o) (i1 + 1)))), (7, .int (nI hi)), (6, .int (nI p9)), (5, .int (nI (4000 * o))), (0, .ref ra), (1, .int (nI m)), (2, .int (nI o))]) hx hb d_Ref_beyond_189 hl (k := 4) rfl (by exact nI_1 i1) (by decide) rfl ?_
          clear hl ls
          intro ls hl
          refine lv_goto (tgt := 31) hx hb d_Ref_beyond_192 (by decide) ?_
          refine tp_pc (pc' := 31) (by rfl) ?_
          exact ih1 _ _ _ ⟨⟨R5, ⟨f6, hf6⟩, hP⟩, hS, lv_sub hl [0, 1, 5, 6, 7] rfl⟩
        · skip
          have hc2 : ¬ ((OS3 o).length ≤ p9) := fun q9 => c2 ((nI_leI (a := (OS3 o).length) (b := p9) (by omega) (by omega)).mpr q9)
          refine tp_pc (pc' := 164) (by rfl) ?_
          refine lv_aload_n hx hb d_Ref_beyond_164 rfl (lv_at hl 5 rfl) ?_
          refine lv_iload_n hx hb d_Ref_beyond_165 rfl (lv_at hl 7 rfl) ?_
          refine lv_aload_n hx hb d_Ref_beyond_166 rfl (lv_at hl 5 rfl) ?_
          refine va_get (D := (dC, dI)) (ci := 8) (v := .ref (rA 12)) (C := R_Ref) (T := F_Ref) (N := 48) hx hb hw i_Ref hown hK hP 0 rfl rfl 12 (by decide) (hw _ m_911) (fun _ h9 => h9) rfl d_Ref_beyond_167 ?_
          refine lv_iload hx hb d_Ref_beyond_170 (lv_at hl 2 rfl) ?_
          refine lv_iload hx hb d_Ref_beyond_172 (lv_at hl 1 rfl) ?_
          refine lv_iadd hx hb d_Ref_beyond_174 ?_
          refine tp_i (y := nI (4000 * o + p9)) (by exact nI_add (4000 * o) p9) ?_
          refine va_iald (D := (dC, dI)) hx hb hK hP 11 10 rfl rfl (i := nI (4000 * o + p9)) (pk_in (4000 * o + p9) 32000 (by omega)) d_Ref_beyond_175 ?_
          refine tp_i (y := nI ((r_or R5) (4000 * o + p9))) (by rw [show (nI (4000 * o + p9) : Int32).toNatClampNeg = 4000 * o + p9 from pk_cl (4000 * o + p9)]) ?_
          have hoi := b4 (p9) (by omega)
          have hFc := oF9 hD hS hA
          refine va_calli (va_runV (As := [.int (nI o), .int (nI ((r_or R5) (4000 * o + p9)))]) (rest := [.int (nI (byN9 (OS3 m) (OS3 o) i1))]) ⟨hx, hb, hml, hown, hw⟩ (rAg9 l dC dI ra rA rK9 R5 o ((r_or R5) (4000 * o + p9)) (by omega) (by omega) H.size) (cw_V 2 hw g_Ref_against rfl rfl rfl (hw _ m_109) (hw _ m_1166) (hw _ m_1168) (hw _ m_76) (by decide +kernel) ⟨by show _ ≤ (30 : Nat); (try dsimp only); omega, by show _ ≤ (1500 : Nat); (try dsimp only); omega⟩) ⟨fun a U g mk q => by obtain ⟨q0, q1, qP, qK, qD, qN⟩ := q; exact ⟨q0, q1, qP, va_K.moved (u := U) (U := U.calling g mk a) (Vm.Alike.refl U.vm) qK, qD, nw_call qN⟩, va_recv hK hP (ci := 8) (q0 := 0) rfl rfl, fun U hU hW => ⟨rfl, by rw [hU], by rw [hU]; exact hP, va_K.moved hW.alike hK, hD.weaken (fun _ _ _ _ => trivial), nw_warm hW hn⟩⟩ rfl rfl hl.1 rfl (lv_room (Nat.le_of_ble_eq_true rfl)) d_Ref_beyond_176 ⟨by show _ ≤ (0 : Nat); (try dsimp only); omega, by show _ ≤ (0 : Nat); (try dsimp only); omega⟩) hS (fun q _ h => hFc q h) hFc ?_
          intro r_7 u t9 H1 locs1 ht9 hvm hw1 hB hz1 hk1 hS1
          obtain ⟨hPn, hDn⟩ := oNr9 hFc hB ht9
          clear hB hz1 hk1 hFc hvm ht9 hP hS hD t9 locs H
          have hP := hPn
          have hD := hDn
          clear hPn hDn
          revert H1 locs1
          intro H locs hS hP
          refine tp_i (y := agF (r_nw R5) (fun j => (r_oc R5) (11 * (4000 * o + (r_or R5) (4000 * o + p9)) + j)) 11 0) (hw1) ?_
          clear hoi
          refine tp_pc (pc' := 179) (by rfl) ?_
          refine lv_if_ne (tgt := 186) hx hb d_Ref_beyond_179 (by decide) (fun c3 => ?_) (fun c3 => ?_)
          · skip
            refine tp_pc (pc' := 186) (by rfl) ?_
            refine lv_iconst (v := 1) hx hb d_Ref_beyond_186 (by decide) ?_
            refine lv_iadd hx hb d_Ref_beyond_187 ?_
            refine tp_i (y := nI (byN9 (OS3 m) (OS3 o) i1 + 1)) (by exact nI_add (byN9 (OS3 m) (OS3 o) i1) 1) ?_
            refine tp_i (y := nI (byN9 (OS3 m) (OS3 o) (i1 + 1))) (by rw [by_n9 (fun w9 => absurd (h3.mp w9).2 c3)] <;> rfl) ?_
            refine lv_istore_n (lv' := [(3, .int (nI (byN9 (OS3 m) (OS3 o) (i1 + 1)))), (7, .int (nI hi)), (6, .int (nI p9)), (5, .int (nI (4000 * o))), (4, .int (nI i1)), (0, .ref ra), (1, .int (nI m)), (2, .int (nI o))]) hx hb d_Ref_beyond_188 rfl hl (by decide) rfl ?_
            clear hl ls
            intro ls hl
            refine lv_iinc (v := nI (i1 + 1)) (lv' := [(4, .int (nI (i1 + 1))), (3, .int (nI (byN9 (OS3 m) (OS3 o) (i1 + 1)))), (7, .int (nI hi)), (6, .int (nI p9)), (5, .int (nI (4000 * o))), (0, .ref ra), (1, .int (nI m)), (2, .int (nI o))]) hx hb d_Ref_beyond_189 hl (k := 4) rfl (by exact nI_1 i1) (by decide) rfl ?_
            clear hl ls
            intro ls hl
            refine lv_goto (tgt := 31) hx hb d_Ref_beyond_192 (by decide) ?_
            refine tp_pc (pc' := 31) (by rfl) ?_
            exact ih1 _ _ _ ⟨⟨R5, ⟨f6, hf6⟩, hP⟩, hS, lv_sub hl [0, 1, 5, 6, 7] rfl⟩
          · skip
            refine tp_pc (pc' := 182) (by rfl) ?_
            refine lv_iconst (v := 0) hx hb d_Ref_beyond_182 (by decide) ?_
            refine lv_goto (tgt := 187) hx hb d_Ref_beyond_183 (by decide) ?_
            refine tp_pc (pc' := 187) (by rfl) ?_
            refine lv_iadd hx hb d_Ref_beyond_187 ?_
            refine tp_i (y := nI (byN9 (OS3 m) (OS3 o) i1 + 0)) (by exact nI_add (byN9 (OS3 m) (OS3 o) i1) 0) ?_
            refine tp_i (y := nI (byN9 (OS3 m) (OS3 o) (i1 + 1))) (by rw [by_y9 (h3.mpr ⟨by omega, c3⟩)] <;> rfl) ?_
            refine lv_istore_n (lv' := [(3, .int (nI (byN9 (OS3 m) (OS3 o) (i1 + 1)))), (7, .int (nI hi)), (6, .int (nI p9)), (5, .int (nI (4000 * o))), (4, .int (nI i1)), (0, .ref ra), (1, .int (nI m)), (2, .int (nI o))]) hx hb d_Ref_beyond_188 rfl hl (by decide) rfl ?_
            clear hl ls
            intro ls hl
            refine lv_iinc (v := nI (i1 + 1)) (lv' := [(4, .int (nI (i1 + 1))), (3, .int (nI (byN9 (OS3 m) (OS3 o) (i1 + 1)))), (7, .int (nI hi)), (6, .int (nI p9)), (5, .int (nI (4000 * o))), (0, .ref ra), (1, .int (nI m)), (2, .int (nI o))]) hx hb d_Ref_beyond_189 hl (k := 4) rfl (by exact nI_1 i1) (by decide) rfl ?_
            clear hl ls
            intro ls hl
            refine lv_goto (tgt := 31) hx hb d_Ref_beyond_192 (by decide) ?_
            refine tp_pc (pc' := 31) (by rfl) ?_
            exact ih1 _ _ _ ⟨⟨R5, ⟨f6, hf6⟩, hP⟩, hS, lv_sub hl [0, 1, 5, 6, 7] rfl⟩
      · skip
        have hc1 : ¬ (hi ≤ lo) := fun q9 => c1 ((nI_leI (a := hi) (b := lo) (by omega) (by omega)).mpr q9)
        refine tp_pc (pc' := 109) (by rfl) ?_
        refine lv_iload hx hb d_Ref_beyond_109 (lv_at hl 1 rfl) ?_
        refine lv_iload hx hb d_Ref_beyond_111 (lv_at hl 0 rfl) ?_
        refine lv_iadd hx hb d_Ref_beyond_113 ?_
        refine tp_i (y := nI (lo + hi)) (by exact nI_add lo hi) ?_
        refine lv_iconst (v := 2) hx hb d_Ref_beyond_114 (by decide) ?_
        refine lv_idiv hx hb d_Ref_beyond_115 (by decide) ?_
        obtain ⟨mi, hmi⟩ : ∃ mi, mi = (lo + hi) / 2 := ⟨_, rfl⟩
        have b1x : lo ≤ mi ∧ mi < hi := by omega
        refine tp_i (y := nI mi) (by rw [hmi]; exact pk_div (by omega) (by decide) (by decide)) ?_
        refine lv_istore (lv' := [(8, .int (nI mi)), (7, .int (nI hi)), (6, .int (nI lo)), (5, .int (nI (4000 * o))), (4, .int (nI i1)), (3, .int (nI (byN9 (OS3 m) (OS3 o) i1))), (0, .ref ra), (1, .int (nI m)), (2, .int (nI o))]) hx hb d_Ref_beyond_116 hl (by decide) rfl ?_
        clear hl ls
        intro ls hl
        refine lv_aload_n hx hb d_Ref_beyond_118 rfl (lv_at hl 6 rfl) ?_
        refine lv_iload_n hx hb d_Ref_beyond_119 rfl (lv_at hl 8 rfl) ?_
        refine lv_aload_n hx hb d_Ref_beyond_120 rfl (lv_at hl 6 rfl) ?_
        refine va_get (D := (dC, dI)) (ci := 8) (v := .ref (rA 12)) (C := R_Ref) (T := F_Ref) (N := 48) hx hb hw i_Ref hown hK hP 0 rfl rfl 12 (by decide) (hw _ m_911) (fun _ h9 => h9) rfl d_Ref_beyond_121 ?_
        refine lv_iload hx hb d_Ref_beyond_124 (lv_at hl 3 rfl) ?_
        refine lv_iload hx hb d_Ref_beyond_126 (lv_at hl 0 rfl) ?_
        refine lv_iadd hx hb d_Ref_beyond_128 ?_
        refine tp_i (y := nI (4000 * o + mi)) (by exact nI_add (4000 * o) mi) ?_
        refine va_iald (D := (dC, dI)) hx hb hK hP 11 10 rfl rfl (i := nI (4000 * o + mi)) (pk_in (4000 * o + mi) 32000 (by omega)) d_Ref_beyond_129 ?_
        refine tp_i (y := nI ((r_or R5) (4000 * o + mi))) (by rw [show (nI (4000 * o + mi) : Int32).toNatClampNeg = 4000 * o + mi from pk_cl (4000 * o + mi)]) ?_
        have hoi := b4 (mi) (by omega)
        have hFc := oF9 hD hS hA
        refine va_calli (va_runV (As := [.int (nI o), .int (nI ((r_or R5) (4000 * o + mi)))]) (rest := []) ⟨hx, hb, hml, hown, hw⟩ (rAg9 l dC dI ra rA rK9 R5 o ((r_or R5) (4000 * o + mi)) (by omega) (by omega) H.size) (cw_V 2 hw g_Ref_against rfl rfl rfl (hw _ m_109) (hw _ m_1166) (hw _ m_1168) (hw _ m_76) (by decide +kernel) ⟨by show _ ≤ (30 : Nat); (try dsimp only); omega, by show _ ≤ (1500 : Nat); (try dsimp only); omega⟩) ⟨fun a U g mk q => by obtain ⟨q0, q1, qP, qK, qD, qN⟩ := q; exact ⟨q0, q1, qP, va_K.moved (u := U) (U := U.calling g mk a) (Vm.Alike.refl U.vm) qK, qD, nw_call qN⟩, va_recv hK hP (ci := 8) (q0 := 0) rfl rfl, fun U hU hW => ⟨rfl, by rw [hU], by rw [hU]; exact hP, va_K.moved hW.alike hK, hD.weaken (fun _ _ _ _ => trivial), nw_warm hW hn⟩⟩ rfl rfl hl.1 rfl (lv_room (Nat.le_of_ble_eq_true rfl)) d_Ref_beyond_130 ⟨by show _ ≤ (0 : Nat); (try dsimp only); omega, by show _ ≤ (0 : Nat); (try dsimp only); omega⟩) hS (fun q _ h => hFc q h) hFc ?_
        intro r_8 u t9 H1 locs1 ht9 hvm hw1 hB hz1 hk1 hS1
        obtain ⟨hPn, hDn⟩ := oNr9 hFc hB ht9
        clear hB hz1 hk1 hFc hvm ht9 hP hS hD t9 locs H
        have hP := hPn
        have hD := hDn
        clear hPn hDn
        revert H1 locs1
        intro H locs hS hP
        refine tp_i (y := agF (r_nw R5) (fun j => (r_oc R5) (11 * (4000 * o + (r_or R5) (4000 * o + mi)) + j)) 11 0) (hw1) ?_
        clear hoi
        refine tp_pc (pc' := 133) (by rfl) ?_
        refine lv_if_le (tgt := 145) hx hb d_Ref_beyond_133 (by decide) (fun c3 => ?_) (fun c3 => ?_)
        · skip
          have g1 : p9 ≤ mi := Nat.le_of_not_lt fun q => absurd (h1 mi q) (by rw [i_lt]; rw [i_le] at c3; omega)
          refine tp_pc (pc' := 145) (by rfl) ?_
          refine lv_iload hx hb d_Ref_beyond_145 (lv_at hl 0 rfl) ?_
          refine lv_istore (lv' := [(7, .int (nI mi)), (8, .int (nI mi)), (6, .int (nI lo)), (5, .int (nI (4000 * o))), (4, .int (nI i1)), (3, .int (nI (byN9 (OS3 m) (OS3 o) i1))), (0, .ref ra), (1, .int (nI m)), (2, .int (nI o))]) hx hb d_Ref_beyond_147 hl (by decide) rfl ?_
          clear hl ls
          intro ls hl
          refine lv_goto (tgt := 102) hx hb d_Ref_beyond_149 (by decide) ?_
          refine tp_pc (pc' := 102) (by rfl) ?_
          exact ih (mi - (lo)) (by omega) _ _ _ ⟨lo, mi, u1, g1, by omega, rfl, hP, hS, lv_sub hl [0, 2, 3, 4, 5, 6, 7, 8] rfl⟩
        · skip
          have g1 : mi < p9 := Nat.lt_of_not_le fun q => absurd (show 0 < agF (r_nw R5) (fun j => (r_oc R5) (11 * (4000 * o + (r_or R5) (4000 * o + mi)) + j)) 11 0 from by rw [i_lt]; rw [i_le] at c3; omega) (h2 mi q (by omega))
          refine tp_pc (pc' := 136) (by rfl) ?_
          refine lv_iload hx hb d_Ref_beyond_136 (lv_at hl 0 rfl) ?_
          refine lv_iconst (v := 1) hx hb d_Ref_beyond_138 (by decide) ?_
          refine lv_iadd hx hb d_Ref_beyond_139 ?_
          refine tp_i (y := nI (mi + 1)) (by exact nI_add mi 1) ?_
          refine lv_istore (lv' := [(6, .int (nI (mi + 1))), (8, .int (nI mi)), (7, .int (nI hi)), (5, .int (nI (4000 * o))), (4, .int (nI i1)), (3, .int (nI (byN9 (OS3 m) (OS3 o) i1))), (0, .ref ra), (1, .int (nI m)), (2, .int (nI o))]) hx hb d_Ref_beyond_140 hl (by decide) rfl ?_
          clear hl ls
          intro ls hl
          refine lv_goto (tgt := 149) hx hb d_Ref_beyond_142 (by decide) ?_
          refine tp_pc (pc' := 149) (by rfl) ?_
          refine lv_goto (tgt := 102) hx hb d_Ref_beyond_149 (by decide) ?_
          refine tp_pc (pc' := 102) (by rfl) ?_
          exact ih (hi - (mi + 1)) (by omega) _ _ _ ⟨mi + 1, hi, g1, u2, u3, rfl, hP, hS, lv_sub hl [2, 0, 3, 4, 5, 6, 7, 8] rfl⟩
  · intro H locs ls hI
    obtain ⟨⟨R4, ⟨f4, hf4⟩, hP⟩, hS, hl⟩ := hI
    have hOR4 : okO9 OS3 R4 := by rw [hf4]; exact hO3
    have hDR4 : va_D (va_A (rw9 ra rA rK9 S) s.heap.size) (rw9 ra rA rK9 R4) := rD9 hD
    clear hD
    have hD := hDR4
    clear hDR4
    clear b1 b2 b3 b4 b5 b6 b7
    obtain ⟨b1, b2, b3, b4, b5, b6, b7⟩ := hOR4 o (by omega)
    clear a1 a2 a3 a4 a5 a6 a7
    obtain ⟨a1, a2, a3, a4, a5, a6, a7⟩ := hOR4 m (by omega)
    refine lv_iload hx hb d_Ref_beyond_31 (lv_at hl 0 rfl) ?_
    refine lv_aload_n hx hb d_Ref_beyond_33 rfl (lv_at hl 2 rfl) ?_
    refine va_get (D := (dC, dI)) (ci := 8) (v := .ref (rA 8)) (C := R_Ref) (T := F_Ref) (N := 48) hx hb hw i_Ref hown hK hP 0 rfl rfl 8 (by decide) (hw _ m_907) (fun _ h9 => h9) rfl d_Ref_beyond_34 ?_
    refine lv_iload_n hx hb d_Ref_beyond_37 rfl (lv_at hl 3 rfl) ?_
    refine va_iald (D := (dC, dI)) hx hb hK hP 7 6 rfl rfl (i := nI m) (pk_in m 8 (by omega)) d_Ref_beyond_38 ?_
    refine tp_i (y := nI ((r_om R4) m)) (by rw [show (nI m : Int32).toNatClampNeg = m from pk_cl m]) ?_
    refine tp_i (y := nI ((OS3 m).length)) (by rw [a1]) ?_
    refine lv_icmp_ge (tgt := 195) hx hb d_Ref_beyond_39 (by decide) (fun c9 => ?_) (fun c9 => absurd (nI_le (Nat.le_refl (OS3 m).length) (by omega)) c9)
    refine tp_pc (pc' := 195) (by rfl) ?_
    refine lv_iload_n hx hb d_Ref_beyond_195 rfl (lv_at hl 1 rfl) ?_
    refine W.widen (k := 0) (n := 0) (by omega) (by omega) ?_
    exact W.iret (v := (nI (byN9 (OS3 m) (OS3 o) (OS3 m).length))) hx hb hr (fun t9 ht9 hW => ⟨⟨nI (byN9 (OS3 m) (OS3 o) (OS3 m).length), R4, rfl, ⟨R2, OS2, R3, OS3, f4, hst, hst3, hO3, hf4, rfl⟩, by rw [ht9]; exact hP, hD⟩, hS.F ht9⟩) hS.2.2 d_Ref_beyond_196
