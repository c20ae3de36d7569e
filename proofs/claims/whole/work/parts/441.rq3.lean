/-- the races that the reference counts -/
def raF9 (f : Nat → Int32) (i k : Nat) : Nat := b2n (decide (f (28 * i + (i + 1 + k)) = 1))
def raG9 (f : Nat → Int32) (i : Nat) : Nat := smN (raF9 f i) (27 - i)
theorem raF_le {f : Nat → Int32} {i : Nat} : ∀ k, smN (raF9 f i) k ≤ k
  | 0 => Nat.le_refl 0
  | k + 1 => by
    have := raF_le (f := f) (i := i) k
    have h : raF9 f i k ≤ 1 := by unfold raF9 b2n; split <;> omega
    show smN (raF9 f i) k + raF9 f i k ≤ k + 1
    omega
theorem raG_le {f : Nat → Int32} : ∀ i, smN (raG9 f) i ≤ 27 * i
  | 0 => Nat.le_refl 0
  | i + 1 => by
    have := raG_le (f := f) i
    have h : raG9 f i ≤ 27 - i := raF_le (27 - i)
    show smN (raG9 f) i + raG9 f i ≤ 27 * (i + 1)
    omega
def isR9 (R : RX9) (t9x i9 : Int32) : Prop := ¬ t9x < 0 ∧ t9x.toNatClampNeg < r_T R ∧ ¬ i9 < 0 ∧ i9.toNatClampNeg < r_zs R t9x.toNatClampNeg
set_option maxHeartbeats 4000000 in
set_option maxRecDepth 100000 in
theorem rRce9n (l : Launch) (dC : Nat → ClassId) (dI : Nat → Nat → Nat) (ra : Nat) (rA : Nat → Nat) (rK9 : Nat → ClassId) (S : RX9) (ta ia tb ib : Int32) (hPr : PrR (r_T S) (r_zs S) (r_kd S) (r_vx S) (r_rr S) (r_vv S)) (hno : ¬ (isR9 S ta ia ∧ isR9 S tb ib ∧ ta ≠ tb)) (sz : Nat) : Met l y_Ref_race w_Ref_race ({ frames := 2, cells := 0, slots := 0, locals := 100 }) (va_Pc [.ref ra, .int ta, .int ia, .int tb, .int ib] (SR9 dC dI ra rA rK9 S sz)) (va_Qi (fun (r : Int32) (S2 : RX9) => S2 = S ∧ r = -1) (fun S2 t9 => PR9 dC dI ra rA rK9 S sz S2 t9) (va_A (rw9 ra rA rK9 S) sz)) (0) (0) (va_A (rw9 ra rA rK9 S) sz) := by
  refine Met.ofW (cc := b_Ref_race) (maxL := 5) (ret := (some .int)) (by decide) rfl ?_
  intro p e0 s m9 args below meth c s₁ B hml hv
  obtain ⟨rfl, hsz, hP, hK, hD0, hn⟩ := hv
  have hx := B.exec
  have hb := B.bytes
  have hr := B.returns
  have hw := fun w (h : w ∈ wt) => atoms_spec (ws := w_Ref_race) B.pre w (List.mem_cons_of_mem _ h)
  have hown : s.vm.findClass R_Ref = some m9.cls := findClass_of_methodNamed B.named
  have hlocks := B.notSynchronized
  subst hsz
  have hD := hD0.self (sz := s.heap.size)
  have hA : ∀ q : Nat, s.heap.size ≤ q → va_A (rw9 ra rA rK9 S) s.heap.size q := fun q h => Or.inr h
  clear hD0
  have hS : va_S (va_A (rw9 ra rA rK9 S) s.heap.size) s.heap s.heap [] := va_S.rf
  have hl := lv_entry ([.ref ra, .int ta, .int ia, .int tb, .int ib]) (n := 5) (Nat.le_of_ble_eq_true rfl)
  rw [lg_entry_eq]
  generalize (lg_sl ([.ref ra, .int ta, .int ia, .int tb, .int ib]) ++ List.replicate (5 - (lg_sl ([.ref ra, .int ta, .int ia, .int tb, .int ib])).length) Slot.unset).toArray = ls at hl ⊢
  replace hl : lv_has ls 5 [(0, .ref ra), (1, .int ta), (2, .int ia), (3, .int tb), (4, .int ib)] := hl
  refine lv_aload_n hx hb d_Ref_race_0 rfl (lv_at hl 0 rfl) ?_
  refine lv_iload_n hx hb d_Ref_race_1 rfl (lv_at hl 1 rfl) ?_
  refine lv_iload_n hx hb d_Ref_race_2 rfl (lv_at hl 2 rfl) ?_
  by_cases cA : ¬ ta < 0 ∧ ta.toNatClampNeg < r_T S ∧ ¬ ia < 0 ∧ ia.toNatClampNeg < r_zs S ta.toNatClampNeg
  · skip
    have hFc := oF9 hD hS hA
    refine va_calli (va_runV (As := [.int ta, .int ia]) (rest := []) ⟨hx, hb, hml, hown, hw⟩ (rIA9 l dC dI ra rA rK9 S ta ia hPr.1 hPr.2.1 s.heap.size) (cw_V 2 hw g_Ref_isAction rfl rfl rfl (hw _ m_109) (hw _ m_1296) (hw _ m_1298) (hw _ m_99) (by decide +kernel) ⟨by show _ ≤ (2 : Nat); (try dsimp only); omega, by show _ ≤ (100 : Nat); (try dsimp only); omega⟩) ⟨fun a U g mk q => by obtain ⟨q0, q1, qP, qK, qD, qN⟩ := q; exact ⟨q0, q1, qP, va_K.moved (u := U) (U := U.calling g mk a) (Vm.Alike.refl U.vm) qK, qD, nw_call qN⟩, va_recv hK hP (ci := 8) (q0 := 0) rfl rfl, fun U hU hW => ⟨rfl, by rw [hU], by rw [hU]; exact hP, va_K.moved hW.alike hK, hD.weaken (fun _ _ _ _ => trivial), nw_warm hW hn⟩⟩ rfl rfl hl.1 rfl (lv_room (Nat.le_of_ble_eq_true rfl)) d_Ref_race_3 ⟨by show _ ≤ (0 : Nat); (try dsimp only); omega, by show _ ≤ (0 : Nat); (try dsimp only); omega⟩) hS (fun q _ h => hFc q h) hFc ?_
    intro r_1 u t9 H1 locs1 ht9 hvm hw1 hB hz1 hk1 hS1
    obtain ⟨hPn, hDn⟩ := oNr9 hFc hB ht9
    clear hB hz1 hk1 hFc hvm ht9 hP hS hD t9
    have hP := hPn
    have hD := hDn
    clear hPn hDn
    revert H1 locs1
    intro H locs hS hP
    refine tp_i (y := 1) (by rw [hw1, if_pos cA]) ?_
    refine tp_pc (pc' := 6) (by rfl) ?_
    refine lv_if_eq (tgt := 24) hx hb d_Ref_race_6 (by decide) (fun c_2 => absurd c_2 (by decide)) (fun c_2 => ?_)
    refine tp_pc (pc' := 9) (by rfl) ?_
    refine lv_aload_n hx hb d_Ref_race_9 rfl (lv_at hl 0 rfl) ?_
    refine lv_iload_n hx hb d_Ref_race_10 rfl (lv_at hl 3 rfl) ?_
    refine lv_iload hx hb d_Ref_race_11 (lv_at hl 4 rfl) ?_
    by_cases cB : ¬ tb < 0 ∧ tb.toNatClampNeg < r_T S ∧ ¬ ib < 0 ∧ ib.toNatClampNeg < r_zs S tb.toNatClampNeg
    · skip
      have hFc := oF9 hD hS hA
      refine va_calli (va_runV (As := [.int tb, .int ib]) (rest := []) ⟨hx, hb, hml, hown, hw⟩ (rIA9 l dC dI ra rA rK9 S tb ib hPr.1 hPr.2.1 H.size) (cw_V 2 hw g_Ref_isAction rfl rfl rfl (hw _ m_109) (hw _ m_1296) (hw _ m_1298) (hw _ m_99) (by decide +kernel) ⟨by show _ ≤ (2 : Nat); (try dsimp only); omega, by show _ ≤ (100 : Nat); (try dsimp only); omega⟩) ⟨fun a U g mk q => by obtain ⟨q0, q1, qP, qK, qD, qN⟩ := q; exact ⟨q0, q1, qP, va_K.moved (u := U) (U := U.calling g mk a) (Vm.Alike.refl U.vm) qK, qD, nw_call qN⟩, va_recv hK hP (ci := 8) (q0 := 0) rfl rfl, fun U hU hW => ⟨rfl, by rw [hU], by rw [hU]; exact hP, va_K.moved hW.alike hK, hD.weaken (fun _ _ _ _ => trivial), nw_warm hW hn⟩⟩ rfl rfl hl.1 rfl (lv_room (Nat.le_of_ble_eq_true rfl)) d_Ref_race_13 ⟨by show _ ≤ (0 : Nat); (try dsimp only); omega, by show _ ≤ (0 : Nat); (try dsimp only); omega⟩) hS (fun q _ h => hFc q h) hFc ?_
      intro r_3 u t9 H1 locs1 ht9 hvm hw1 hB hz1 hk1 hS1
      obtain ⟨hPn, hDn⟩ := oNr9 hFc hB ht9
      clear hB hz1 hk1 hFc hvm ht9 hP hS hD t9 locs H
      have hP := hPn
      have hD := hDn
      clear hPn hDn
      revert H1 locs1
      intro H locs hS hP
      refine tp_i (y := 1) (by rw [hw1, if_pos cB]) ?_
      refine tp_pc (pc' := 16) (by rfl) ?_
      refine lv_if_eq (tgt := 24) hx hb d_Ref_race_16 (by decide) (fun c_4 => absurd c_4 (by decide)) (fun c_4 => ?_)
      refine tp_pc (pc' := 19) (by rfl) ?_
      refine lv_iload_n hx hb d_Ref_race_19 rfl (lv_at hl 1 rfl) ?_
      refine lv_iload_n hx hb d_Ref_race_20 rfl (lv_at hl 3 rfl) ?_
      refine lv_icmp_ne (tgt := 26) hx hb d_Ref_race_21 (by decide) (fun c9 => absurd ⟨cA, cB, c9⟩ hno) (fun c9 => ?_)
      refine tp_pc (pc' := 24) (by rfl) ?_
      refine lv_iconst (v := (-1)) hx hb d_Ref_race_24 (by decide) ?_
      refine W.widen (k := 0) (n := 0) (by omega) (by omega) ?_
      exact W.iret (v := (-1)) hx hb hr (fun t9 ht9 hW => ⟨⟨(-1), S, rfl, ⟨rfl, rfl⟩, by rw [ht9]; exact hP, hD⟩, hS.F ht9⟩) hS.2.2 d_Ref_race_25
    · skip
      have hFc := oF9 hD hS hA
      refine va_calli (va_runV (As := [.int tb, .int ib]) (rest := []) ⟨hx, hb, hml, hown, hw⟩ (rIA9 l dC dI ra rA rK9 S tb ib hPr.1 hPr.2.1 H.size) (cw_V 2 hw g_Ref_isAction rfl rfl rfl (hw _ m_109) (hw _ m_1296) (hw _ m_1298) (hw _ m_99) (by decide +kernel) ⟨by show _ ≤ (2 : Nat); (try dsimp only); omega, by show _ ≤ (100 : Nat); (try dsimp only); omega⟩) ⟨fun a U g mk q => by obtain ⟨q0, q1, qP, qK, qD, qN⟩ := q; exact ⟨q0, q1, qP, va_K.moved (u := U) (U := U.calling g mk a) (Vm.Alike.refl U.vm) qK, qD, nw_call qN⟩, va_recv hK hP (ci := 8) (q0 := 0) rfl rfl, fun U hU hW => ⟨rfl, by rw [hU], by rw [hU]; exact hP, va_K.moved hW.alike hK, hD.weaken (fun _ _ _ _ => trivial), nw_warm hW hn⟩⟩ rfl rfl hl.1 rfl (lv_room (Nat.le_of_ble_eq_true rfl)) d_Ref_race_13 ⟨by show _ ≤ (0 : Nat); (try dsimp only); omega, by show _ ≤ (0 : Nat); (try dsimp only); omega⟩) hS (fun q _ h => hFc q h) hFc ?_
      intro r_5 u t9 H1 locs1 ht9 hvm hw1 hB hz1 hk1 hS1
      obtain ⟨hPn, hDn⟩ := oNr9 hFc hB ht9
      clear hB hz1 hk1 hFc hvm ht9 hP hS hD t9 locs H
      have hP := hPn
      have hD := hDn
      clear hPn hDn
      revert H1 locs1
      intro H locs hS hP
      refine tp_i (y := 0) (by rw [hw1, if_neg cB]) ?_
      refine tp_pc (pc' := 16) (by rfl) ?_
      refine lv_if_eq (tgt := 24) hx hb d_Ref_race_16 (by decide) (fun c_6 => ?_) (fun c_6 => absurd c_6 (by decide))
      refine tp_pc (pc' := 24) (by rfl) ?_
      refine lv_iconst (v := (-1)) hx hb d_Ref_race_24 (by decide) ?_
      refine W.widen (k := 0) (n := 0) (by omega) (by omega) ?_
      exact W.iret (v := (-1)) hx hb hr (fun t9 ht9 hW => ⟨⟨(-1), S, rfl, ⟨rfl, rfl⟩, by rw [ht9]; exact hP, hD⟩, hS.F ht9⟩) hS.2.2 d_Ref_race_25
  · skip
    have hFc := oF9 hD hS hA
    refine va_calli (va_runV (As := [.int ta, .int ia]) (rest := []) ⟨hx, hb, hml, hown, hw⟩ (rIA9 l dC dI ra rA rK9 S ta ia hPr.1 hPr.2.1 s.heap.size) (cw_V 2 hw g_Ref_isAction rfl rfl rfl (hw _ m_109) (hw _ m_1296) (hw _ m_1298) (hw _ m_99) (by decide +kernel) ⟨by show _ ≤ (2 : Nat); (try dsimp only); omega, by show _ ≤ (100 : Nat); (try dsimp only); omega⟩) ⟨fun a U g mk q => by obtain ⟨q0, q1, qP, qK, qD, qN⟩ := q; exact ⟨q0, q1, qP, va_K.moved (u := U) (U := U.calling g mk a) (Vm.Alike.refl U.vm) qK, qD, nw_call qN⟩, va_recv hK hP (ci := 8) (q0 := 0) rfl rfl, fun U hU hW => ⟨rfl, by rw [hU], by rw [hU]; exact hP, va_K.moved hW.alike hK, hD.weaken (fun _ _ _ _ => trivial), nw_warm hW hn⟩⟩ rfl rfl hl.1 rfl (lv_room (Nat.le_of_ble_eq_true rfl)) d_Ref_race_3 ⟨by show _ ≤ (0 : Nat); (try dsimp only); omega, by show _ ≤ (0 : Nat); (try dsimp only); omega⟩) hS (fun q _ h => hFc q h) hFc ?_
    intro r_7 u t9 H1 locs1 ht9 hvm hw1 hB hz1 hk1 hS1
    obtain ⟨hPn, hDn⟩ := oNr9 hFc hB ht9
    clear hB hz1 hk1 hFc hvm ht9 hP hS hD t9
    have hP := hPn
    have hD := hDn
    clear hPn hDn
    revert H1 locs1
    intro H locs hS hP
    refine tp_i (y := 0) (by rw [hw1, if_neg cA]) ?_
    refine tp_pc (pc' := 6) (by rfl) ?_
    refine lv_if_eq (tgt := 24) hx hb d_Ref_race_6 (by decide) (fun c_8 => ?_) (fun c_8 => absurd c_8 (by decide))
    refine tp_pc (pc' := 24) (by rfl) ?_
    refine lv_iconst (v := (-1)) hx hb d_Ref_race_24 (by decide) ?_
    refine W.widen (k := 0) (n := 0) (by omega) (by omega) ?_
    exact W.iret (v := (-1)) hx hb hr (fun t9 ht9 hW => ⟨⟨(-1), S, rfl, ⟨rfl, rfl⟩, by rw [ht9]; exact hP, hD⟩, hS.F ht9⟩) hS.2.2 d_Ref_race_25
set_option maxHeartbeats 4000000 in
set_option maxRecDepth 100000 in
theorem rRce9y (l : Launch) (dC : Nat → ClassId) (dI : Nat → Nat → Nat) (ra : Nat) (rA : Nat → Nat) (rK9 : Nat → ClassId) (S : RX9) (OS : Nat → List O9) (t i o j : Nat) (hPr : PrR (r_T S) (r_zs S) (r_kd S) (r_vx S) (r_rr S) (r_vv S)) (hO : okO9 OS S) (hf : r_ir S = 0 ∨ r_ir S = 1) (h01 : ∀ R2 OS2, sRr9 OS S R2 OS2 → ∀ k, k < 784 → (r_rc R2 k = 0 ∨ r_rc R2 k = 1)) (ht : t < r_T S) (hi : i < r_zs S t) (ho : o < r_T S) (hj : j < r_zs S o) (hne : t ≠ o) (sz : Nat) : Met l y_Ref_race w_Ref_race ({ frames := 30, cells := 0, slots := 0, locals := 1500 }) (va_Pc [.ref ra, .int (nI t), .int (nI i), .int (nI o), .int (nI j)] (SR9 dC dI ra rA rK9 S sz)) (va_Qi (fun (r : Int32) (R2 : RX9) => ∃ OS2, sRr9 OS S R2 OS2 ∧ okO9 OS2 R2 ∧ r = r_rc R2 (28 * (7 * t + i) + 7 * o + j)) (fun R2 t9 => PR9 dC dI ra rA rK9 S sz R2 t9) (va_A (rw9 ra rA rK9 S) sz)) (0) (0) (va_A (rw9 ra rA rK9 S) sz) := by
  refine Met.ofW (cc := b_Ref_race) (maxL := 5) (ret := (some .int)) (by decide) rfl ?_
  intro p e0 s m9 args below meth c s₁ B hml hv
  obtain ⟨rfl, hsz, hP, hK, hD0, hn⟩ := hv
  have hx := B.exec
  have hb := B.bytes
  have hr := B.returns
  have hw := fun w (h : w ∈ wt) => atoms_spec (ws := w_Ref_race) B.pre w (List.mem_cons_of_mem _ h)
  have hown : s.vm.findClass R_Ref = some m9.cls := findClass_of_methodNamed B.named
  have hlocks := B.notSynchronized
  subst hsz
  have hD := hD0.self (sz := s.heap.size)
  have hA : ∀ q : Nat, s.heap.size ≤ q → va_A (rw9 ra rA rK9 S) s.heap.size q := fun q h => Or.inr h
  clear hD0
  have hS : va_S (va_A (rw9 ra rA rK9 S) s.heap.size) s.heap s.heap [] := va_S.rf
  have hl := lv_entry ([.ref ra, .int (nI t), .int (nI i), .int (nI o), .int (nI j)]) (n := 5) (Nat.le_of_ble_eq_true rfl)
  rw [lg_entry_eq]
  generalize (lg_sl ([.ref ra, .int (nI t), .int (nI i), .int (nI o), .int (nI j)]) ++ List.replicate (5 - (lg_sl ([.ref ra, .int (nI t), .int (nI i), .int (nI o), .int (nI j)])).length) Slot.unset).toArray = ls at hl ⊢
  replace hl : lv_has ls 5 [(0, .ref ra), (1, .int (nI t)), (2, .int (nI i)), (3, .int (nI o)), (4, .int (nI j))] := hl
  have hT4 := hPr.1
  have hi7 := hPr.2.1 t ht
  have hj7 := hPr.2.1 o ho
  refine lv_aload_n hx hb d_Ref_race_0 rfl (lv_at hl 0 rfl) ?_
  refine lv_iload_n hx hb d_Ref_race_1 rfl (lv_at hl 1 rfl) ?_
  refine lv_iload_n hx hb d_Ref_race_2 rfl (lv_at hl 2 rfl) ?_
  have hFc := oF9 hD hS hA
  refine va_calli (va_runV (As := [.int (nI t), .int (nI i)]) (rest := []) ⟨hx, hb, hml, hown, hw⟩ (rIA9 l dC dI ra rA rK9 S (nI t) (nI i) hPr.1 hPr.2.1 s.heap.size) (cw_V 2 hw g_Ref_isAction rfl rfl rfl (hw _ m_109) (hw _ m_1296) (hw _ m_1298) (hw _ m_99) (by decide +kernel) ⟨by show _ ≤ (30 : Nat); (try dsimp only); omega, by show _ ≤ (1500 : Nat); (try dsimp only); omega⟩) ⟨fun a U g mk q => by obtain ⟨q0, q1, qP, qK, qD, qN⟩ := q; exact ⟨q0, q1, qP, va_K.moved (u := U) (U := U.calling g mk a) (Vm.Alike.refl U.vm) qK, qD, nw_call qN⟩, va_recv hK hP (ci := 8) (q0 := 0) rfl rfl, fun U hU hW => ⟨rfl, by rw [hU], by rw [hU]; exact hP, va_K.moved hW.alike hK, hD.weaken (fun _ _ _ _ => trivial), nw_warm hW hn⟩⟩ rfl rfl hl.1 rfl (lv_room (Nat.le_of_ble_eq_true rfl)) d_Ref_race_3 ⟨by show _ ≤ (0 : Nat); (try dsimp only); omega, by show _ ≤ (0 : Nat); (try dsimp only); omega⟩) hS (fun q _ h => hFc q h) hFc ?_
  intro r_1 u t9 H1 locs1 ht9 hvm hw1 hB hz1 hk1 hS1
  obtain ⟨hPn, hDn⟩ := oNr9 hFc hB ht9
  clear hB hz1 hk1 hFc hvm ht9 hP hS hD t9
  have hP := hPn
  have hD := hDn
  clear hPn hDn
  revert H1 locs1
  intro H locs hS hP
  refine tp_i (y := 1) (by rw [hw1, if_pos ⟨nI_pos (by omega), by rw [nI_clamp (by omega)]; exact ht, nI_pos (by omega), by rw [nI_clamp (by omega), nI_clamp (by omega)]; exact hi⟩]) ?_
  refine tp_pc (pc' := 6) (by rfl) ?_
  refine lv_if_eq (tgt := 24) hx hb d_Ref_race_6 (by decide) (fun c_2 => absurd c_2 (by decide)) (fun c_2 => ?_)
  refine tp_pc (pc' := 9) (by rfl) ?_
  refine lv_aload_n hx hb d_Ref_race_9 rfl (lv_at hl 0 rfl) ?_
  refine lv_iload_n hx hb d_Ref_race_10 rfl (lv_at hl 3 rfl) ?_
  refine lv_iload hx hb d_Ref_race_11 (lv_at hl 4 rfl) ?_
  have hFc := oF9 hD hS hA
  refine va_calli (va_runV (As := [.int (nI o), .int (nI j)]) (rest := []) ⟨hx, hb, hml, hown, hw⟩ (rIA9 l dC dI ra rA rK9 S (nI o) (nI j) hPr.1 hPr.2.1 H.size) (cw_V 2 hw g_Ref_isAction rfl rfl rfl (hw _ m_109) (hw _ m_1296) (hw _ m_1298) (hw _ m_99) (by decide +kernel) ⟨by show _ ≤ (30 : Nat); (try dsimp only); omega, by show _ ≤ (1500 : Nat); (try dsimp only); omega⟩) ⟨fun a U g mk q => by obtain ⟨q0, q1, qP, qK, qD, qN⟩ := q; exact ⟨q0, q1, qP, va_K.moved (u := U) (U := U.calling g mk a) (Vm.Alike.refl U.vm) qK, qD, nw_call qN⟩, va_recv hK hP (ci := 8) (q0 := 0) rfl rfl, fun U hU hW => ⟨rfl, by rw [hU], by rw [hU]; exact hP, va_K.moved hW.alike hK, hD.weaken (fun _ _ _ _ => trivial), nw_warm hW hn⟩⟩ rfl rfl hl.1 rfl (lv_room (Nat.le_of_ble_eq_true rfl)) d_Ref_race_13 ⟨by show _ ≤ (0 : Nat); (try dsimp only); omega, by show _ ≤ (0 : Nat); (try dsimp only); omega⟩) hS (fun q _ h => hFc q h) hFc ?_
  intro r_3 u t9 H1 locs1 ht9 hvm hw1 hB hz1 hk1 hS1
  obtain ⟨hPn, hDn⟩ := oNr9 hFc hB ht9
  clear hB hz1 hk1 hFc hvm ht9 hP hS hD t9 locs H
  have hP := hPn
  have hD := hDn
  clear hPn hDn
  revert H1 locs1
  intro H locs hS hP
  refine tp_i (y := 1) (by rw [hw1, if_pos ⟨nI_pos (by omega), by rw [nI_clamp (by omega)]; exact ho, nI_pos (by omega), by rw [nI_clamp (by omega), nI_clamp (by omega)]; exact hj⟩]) ?_
  refine tp_pc (pc' := 16) (by rfl) ?_
  refine lv_if_eq (tgt := 24) hx hb d_Ref_race_16 (by decide) (fun c_4 => absurd c_4 (by decide)) (fun c_4 => ?_)
  refine tp_pc (pc' := 19) (by rfl) ?_
  refine lv_iload_n hx hb d_Ref_race_19 rfl (lv_at hl 1 rfl) ?_
  refine lv_iload_n hx hb d_Ref_race_20 rfl (lv_at hl 3 rfl) ?_
  refine lv_icmp_ne (tgt := 26) hx hb d_Ref_race_21 (by decide) (fun c9 => ?_) (fun c9 => absurd ((nI_eq (a := t) (b := o) (by omega) (by omega)).mp c9) hne)
  refine tp_pc (pc' := 26) (by rfl) ?_
  refine lv_aload_n hx hb d_Ref_race_26 rfl (lv_at hl 0 rfl) ?_
  have hFc := oF9 hD hS hA
  refine va_callv (va_runV (As := []) (rest := []) ⟨hx, hb, hml, hown, hw⟩ (FQ9 l dC dI ra rA rK9 S OS hPr hO hf H.size) (cw_V 0 hw g_Ref_findRaces rfl rfl rfl (hw _ m_109) (hw _ m_1288) (hw _ m_1290) (hw _ m_98) (by decide +kernel) ⟨by show _ ≤ (30 : Nat); (try dsimp only); omega, by show _ ≤ (1500 : Nat); (try dsimp only); omega⟩) ⟨fun a U g mk q => by obtain ⟨q0, q1, qP, qK, qD, qN⟩ := q; exact ⟨q0, q1, qP, va_K.moved (u := U) (U := U.calling g mk a) (Vm.Alike.refl U.vm) qK, qD, nw_call qN⟩, va_recv hK hP (ci := 8) (q0 := 0) rfl rfl, fun U hU hW => ⟨rfl, by rw [hU], by rw [hU]; exact hP, va_K.moved hW.alike hK, hD.weaken (fun _ _ _ _ => trivial), nw_warm hW hn⟩⟩ rfl rfl hl.1 rfl (lv_room (Nat.le_of_ble_eq_true rfl)) d_Ref_race_27 ⟨by show _ ≤ (0 : Nat); (try dsimp only); omega, by show _ ≤ (0 : Nat); (try dsimp only); omega⟩) hS (fun q _ h => hFc q h) hFc ?_
  intro u t9 H1 locs1 ht9 hvm hw1 hB hz1 hk1 hS1
  obtain ⟨R2, OS2, hst, hB⟩ := hB
  obtain ⟨hPn, hDn⟩ := oNr9 hFc hB ht9
  clear hB hz1 hk1 hFc hvm ht9 hP hS hD t9 locs H
  have hP := hPn
  have hD := hDn
  clear hPn hDn
  revert H1 locs1
  intro H locs hS hP
  have hO2 := sRr_O hO hst
  have h02 := h01 R2 OS2 hst (28 * (7 * t + i) + 7 * o + j) (by omega)
  refine tp_pc (pc' := 30) (by rfl) ?_
  refine lv_aload_n hx hb d_Ref_race_30 rfl (lv_at hl 0 rfl) ?_
  refine va_get (D := (dC, dI)) (ci := 8) (v := .ref (rA 15)) (C := R_Ref) (T := F_Ref) (N := 48) hx hb hw i_Ref hown hK hP 0 rfl rfl 15 (by decide) (hw _ m_914) (fun _ h9 => h9) rfl d_Ref_race_31 ?_
  refine lv_bipush (v := 28) hx hb d_Ref_race_34 (by decide) ?_
  refine lv_bipush (v := 7) hx hb d_Ref_race_36 (by decide) ?_
  refine lv_iload_n hx hb d_Ref_race_38 rfl (lv_at hl 1 rfl) ?_
  refine lv_imul hx hb d_Ref_race_39 ?_
  refine tp_i (y := nI (7 * t)) (by exact pk_mul 7 t) ?_
  refine lv_iload_n hx hb d_Ref_race_40 rfl (lv_at hl 2 rfl) ?_
  refine lv_iadd hx hb d_Ref_race_41 ?_
  refine tp_i (y := nI (7 * t + i)) (by exact nI_add (7 * t) i) ?_
  refine lv_imul hx hb d_Ref_race_42 ?_
  refine tp_i (y := nI (28 * (7 * t + i))) (by exact pk_mul 28 (7 * t + i)) ?_
  refine lv_bipush (v := 7) hx hb d_Ref_race_43 (by decide) ?_
  refine lv_iload_n hx hb d_Ref_race_45 rfl (lv_at hl 3 rfl) ?_
  refine lv_imul hx hb d_Ref_race_46 ?_
  refine tp_i (y := nI (7 * o)) (by exact pk_mul 7 o) ?_
  refine lv_iadd hx hb d_Ref_race_47 ?_
  refine tp_i (y := nI (28 * (7 * t + i) + (7 * o))) (by exact nI_add (28 * (7 * t + i)) (7 * o)) ?_
  refine lv_iload hx hb d_Ref_race_48 (lv_at hl 4 rfl) ?_
  refine lv_iadd hx hb d_Ref_race_50 ?_
  refine tp_i (y := nI (28 * (7 * t + i) + (7 * o) + j)) (by exact nI_add (28 * (7 * t + i) + (7 * o)) j) ?_
  refine va_zald (D := (dC, dI)) hx hb hK hP 13 12 rfl rfl (i := nI (28 * (7 * t + i) + (7 * o) + j)) (pk_in (28 * (7 * t + i) + (7 * o) + j) 784 (by omega)) d_Ref_race_51 ?_
  refine tp_i (y := (r_rc R2) (28 * (7 * t + i) + (7 * o) + j)) (by rw [show (nI (28 * (7 * t + i) + (7 * o) + j) : Int32).toNatClampNeg = 28 * (7 * t + i) + (7 * o) + j from pk_cl (28 * (7 * t + i) + (7 * o) + j)]) ?_
  rcases h02 with hb0 | hb1
  · skip
    refine tp_i (y := 0) hb0 ?_
    refine lv_if_eq (tgt := 59) hx hb d_Ref_race_52 (by decide) (fun c_6 => ?_) (fun c_6 => absurd c_6 (by decide))
    refine tp_pc (pc' := 59) (by rfl) ?_
    refine lv_iconst (v := 0) hx hb d_Ref_race_59 (by decide) ?_
    refine W.widen (k := 0) (n := 0) (by omega) (by omega) ?_
    exact W.iret (v := 0) hx hb hr (fun t9 ht9 hW => ⟨⟨0, R2, rfl, ⟨OS2, hst, hO2, hb0.symm⟩, by rw [ht9]; exact hP, hD⟩, hS.F ht9⟩) hS.2.2 d_Ref_race_60
  · skip
    refine tp_i (y := 1) hb1 ?_
    refine lv_if_eq (tgt := 59) hx hb d_Ref_race_52 (by decide) (fun c_7 => absurd c_7 (by decide)) (fun c_7 => ?_)
    refine tp_pc (pc' := 55) (by rfl) ?_
    refine lv_iconst (v := 1) hx hb d_Ref_race_55 (by decide) ?_
    refine lv_goto (tgt := 60) hx hb d_Ref_race_56 (by decide) ?_
    refine tp_pc (pc' := 60) (by rfl) ?_
    refine W.widen (k := 0) (n := 0) (by omega) (by omega) ?_
    exact W.iret (v := 1) hx hb hr (fun t9 ht9 hW => ⟨⟨1, R2, rfl, ⟨OS2, hst, hO2, hb1.symm⟩, by rw [ht9]; exact hP, hD⟩, hS.F ht9⟩) hS.2.2 d_Ref_race_60
