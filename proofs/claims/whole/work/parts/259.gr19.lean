def tolO (se n : Nat) (oc9 : Nat → Int32) (or9 : Nat → Nat) (i9 w9 : Int32) : Int32 :=
  if ¬ i9 < 0 ∧ i9.toNatClampNeg < n ∧ ¬ w9 < 0 ∧ w9.toNatClampNeg < 11 then oc9 (11 * (4000 * se + or9 (4000 * se + i9.toNatClampNeg)) + w9.toNatClampNeg) else -1000
set_option maxHeartbeats 4000000 in
set_option maxRecDepth 100000 in
theorem gen_Ref_told (l : Launch) (dC : Nat → ClassId) (dI : Nat → Nat → Nat) (ra : Nat) (rA : Nat → Nat) (rK9 : Nat → ClassId) (T Ac md wd mn cb ld gm my : Nat) (ir mr : Int32) (se n : Nat) (i9 w9 : Int32) (oc9 : Nat → Int32) (om or9 : Nat → Nat) (hse : se < 8) (hn4 : n ≤ 4000) (hom : om se = n) (hor : ∀ i, i < n → or9 (4000 * se + i) < 4000) (sz : Nat) : Met l y_Ref_told w_Ref_told ({ frames := 0, cells := 0, slots := 0, locals := 0 }) (va_Pc [.ref ra, .int (nI se), .int i9, .int w9] (fun U => U.heap.size = sz ∧ va_P (dC, dI) classes [oc ra 8 [.int (nI T), .int (nI Ac), .ref (rA 2), .ref (rA 3), .ref (rA 4), .ref (rA 5), .ref (rA 6), .ref (rA 7), .ref (rA 8), .ref (rA 9), .ref (rA 10), .ref (rA 11), .ref (rA 12), .ref (rA 13), .int ir, .ref (rA 15), .ref (rA 16), .ref (rA 17), .ref (rA 18), .int (nI md), .int (nI wd), .ref (rA 21), .ref (rA 22), .ref (rA 23), .int (nI mn), .ref (rA 25), .int (nI cb), .int mr, .ref (rA 28), .ref (rA 29), .ref (rA 30), .ref (rA 31), .ref (rA 32), .ref (rA 33), .ref (rA 34), .ref (rA 35), .int (nI ld), .int (nI gm), .ref (rA 38), .ref (rA 39), .ref (rA 40), .ref (rA 41), .ref (rA 42), .ref (rA 43), .ref (rA 44), .ref (rA 45), .int (nI my), .ref (rA 47)], ia (rA 9) (rK9 9) 352000 oc9, ia (rA 8) (rK9 8) 8 (fun i => nI (om i)), ia (rA 12) (rK9 12) 32000 (fun i => nI (or9 i))] U.heap ∧ va_K (dC, dI) classes [((rK9 9), .short), ((rK9 8), .int), ((rK9 12), .int)] U ∧ va_D (fun _ => True) [oc ra 8 [.int (nI T), .int (nI Ac), .ref (rA 2), .ref (rA 3), .ref (rA 4), .ref (rA 5), .ref (rA 6), .ref (rA 7), .ref (rA 8), .ref (rA 9), .ref (rA 10), .ref (rA 11), .ref (rA 12), .ref (rA 13), .int ir, .ref (rA 15), .ref (rA 16), .ref (rA 17), .ref (rA 18), .int (nI md), .int (nI wd), .ref (rA 21), .ref (rA 22), .ref (rA 23), .int (nI mn), .ref (rA 25), .int (nI cb), .int mr, .ref (rA 28), .ref (rA 29), .ref (rA 30), .ref (rA 31), .ref (rA 32), .ref (rA 33), .ref (rA 34), .ref (rA 35), .int (nI ld), .int (nI gm), .ref (rA 38), .ref (rA 39), .ref (rA 40), .ref (rA 41), .ref (rA 42), .ref (rA 43), .ref (rA 44), .ref (rA 45), .int (nI my), .ref (rA 47)], ia (rA 9) (rK9 9) 352000 oc9, ia (rA 8) (rK9 8) 8 (fun i => nI (om i)), ia (rA 12) (rK9 12) 32000 (fun i => nI (or9 i))] ∧ nw U)) (va_Qi (fun (r : Int32) (_ : Unit) => r = tolO se n oc9 or9 i9 w9) (fun _ t9 => va_P (dC, dI) classes [oc ra 8 [.int (nI T), .int (nI Ac), .ref (rA 2), .ref (rA 3), .ref (rA 4), .ref (rA 5), .ref (rA 6), .ref (rA 7), .ref (rA 8), .ref (rA 9), .ref (rA 10), .ref (rA 11), .ref (rA 12), .ref (rA 13), .int ir, .ref (rA 15), .ref (rA 16), .ref (rA 17), .ref (rA 18), .int (nI md), .int (nI wd), .ref (rA 21), .ref (rA 22), .ref (rA 23), .int (nI mn), .ref (rA 25), .int (nI cb), .int mr, .ref (rA 28), .ref (rA 29), .ref (rA 30), .ref (rA 31), .ref (rA 32), .ref (rA 33), .ref (rA 34), .ref (rA 35), .int (nI ld), .int (nI gm), .ref (rA 38), .ref (rA 39), .ref (rA 40), .ref (rA 41), .ref (rA 42), .ref (rA 43), .ref (rA 44), .ref (rA 45), .int (nI my), .ref (rA 47)], ia (rA 9) (rK9 9) 352000 oc9, ia (rA 8) (rK9 8) 8 (fun i => nI (om i)), ia (rA 12) (rK9 12) 32000 (fun i => nI (or9 i))] t9.heap ∧ va_K (dC, dI) classes [] t9 ∧ va_D (va_A [oc ra 8 [.int (nI T), .int (nI Ac), .ref (rA 2), .ref (rA 3), .ref (rA 4), .ref (rA 5), .ref (rA 6), .ref (rA 7), .ref (rA 8), .ref (rA 9), .ref (rA 10), .ref (rA 11), .ref (rA 12), .ref (rA 13), .int ir, .ref (rA 15), .ref (rA 16), .ref (rA 17), .ref (rA 18), .int (nI md), .int (nI wd), .ref (rA 21), .ref (rA 22), .ref (rA 23), .int (nI mn), .ref (rA 25), .int (nI cb), .int mr, .ref (rA 28), .ref (rA 29), .ref (rA 30), .ref (rA 31), .ref (rA 32), .ref (rA 33), .ref (rA 34), .ref (rA 35), .int (nI ld), .int (nI gm), .ref (rA 38), .ref (rA 39), .ref (rA 40), .ref (rA 41), .ref (rA 42), .ref (rA 43), .ref (rA 44), .ref (rA 45), .int (nI my), .ref (rA 47)], ia (rA 9) (rK9 9) 352000 oc9, ia (rA 8) (rK9 8) 8 (fun i => nI (om i)), ia (rA 12) (rK9 12) 32000 (fun i => nI (or9 i))] sz) [oc ra 8 [.int (nI T), .int (nI Ac), .ref (rA 2), .ref (rA 3), .ref (rA 4), .ref (rA 5), .ref (rA 6), .ref (rA 7), .ref (rA 8), .ref (rA 9), .ref (rA 10), .ref (rA 11), .ref (rA 12), .ref (rA 13), .int ir, .ref (rA 15), .ref (rA 16), .ref (rA 17), .ref (rA 18), .int (nI md), .int (nI wd), .ref (rA 21), .ref (rA 22), .ref (rA 23), .int (nI mn), .ref (rA 25), .int (nI cb), .int mr, .ref (rA 28), .ref (rA 29), .ref (rA 30), .ref (rA 31), .ref (rA 32), .ref (rA 33), .ref (rA 34), .ref (rA 35), .int (nI ld), .int (nI gm), .ref (rA 38), .ref (rA 39), .ref (rA 40), .ref (rA 41), .ref (rA 42), .ref (rA 43), .ref (rA 44), .ref (rA 45), .int (nI my), .ref (rA 47)], ia (rA 9) (rK9 9) 352000 oc9, ia (rA 8) (rK9 8) 8 (fun i => nI (om i)), ia (rA 12) (rK9 12) 32000 (fun i => nI (or9 i))]) (va_A [oc ra 8 [.int (nI T), .int (nI Ac), .ref (rA 2), .ref (rA 3), .ref (rA 4), .ref (rA 5), .ref (rA 6), .ref (rA 7), .ref (rA 8), .ref (rA 9), .ref (rA 10), .ref (rA 11), .ref (rA 12), .ref (rA 13), .int ir, .ref (rA 15), .ref (rA 16), .ref (rA 17), .ref (rA 18), .int (nI md), .int (nI wd), .ref (rA 21), .ref (rA 22), .ref (rA 23), .int (nI mn), .ref (rA 25), .int (nI cb), .int mr, .ref (rA 28), .ref (rA 29), .ref (rA 30), .ref (rA 31), .ref (rA 32), .ref (rA 33), .ref (rA 34), .ref (rA 35), .int (nI ld), .int (nI gm), .ref (rA 38), .ref (rA 39), .ref (rA 40), .ref (rA 41), .ref (rA 42), .ref (rA 43), .ref (rA 44), .ref (rA 45), .int (nI my), .ref (rA 47)], ia (rA 9) (rK9 9) 352000 oc9, ia (rA 8) (rK9 8) 8 (fun i => nI (om i)), ia (rA 12) (rK9 12) 32000 (fun i => nI (or9 i))] sz)) 0 0 (va_A [oc ra 8 [.int (nI T), .int (nI Ac), .ref (rA 2), .ref (rA 3), .ref (rA 4), .ref (rA 5), .ref (rA 6), .ref (rA 7), .ref (rA 8), .ref (rA 9), .ref (rA 10), .ref (rA 11), .ref (rA 12), .ref (rA 13), .int ir, .ref (rA 15), .ref (rA 16), .ref (rA 17), .ref (rA 18), .int (nI md), .int (nI wd), .ref (rA 21), .ref (rA 22), .ref (rA 23), .int (nI mn), .ref (rA 25), .int (nI cb), .int mr, .ref (rA 28), .ref (rA 29), .ref (rA 30), .ref (rA 31), .ref (rA 32), .ref (rA 33), .ref (rA 34), .ref (rA 35), .int (nI ld), .int (nI gm), .ref (rA 38), .ref (rA 39), .ref (rA 40), .ref (rA 41), .ref (rA 42), .ref (rA 43), .ref (rA 44), .ref (rA 45), .int (nI my), .ref (rA 47)], ia (rA 9) (rK9 9) 352000 oc9, ia (rA 8) (rK9 8) 8 (fun i => nI (om i)), ia (rA 12) (rK9 12) 32000 (fun i => nI (or9 i))] sz) := by
  refine Met.ofW (cc := b_Ref_told) (maxL := 5) (ret := (some .int)) (by decide) rfl ?_
  intro p e0 s m args below meth c s₁ B hml hv
  obtain ⟨rfl, hsz, hP, hK, hD0, hn⟩ := hv
  have hx := B.exec
  have hb := B.bytes
  have hr := B.returns
  have hw := fun w (h : w ∈ wt) => atoms_spec (ws := w_Ref_told) B.pre w (List.mem_cons_of_mem _ h)
  have hown : s.vm.findClass R_Ref = some m.cls := findClass_of_methodNamed B.named
  have hlocks := B.notSynchronized
  subst hsz
  have hD1 := hD0.self (sz := s.heap.size)
  generalize hAe : va_A [oc ra 8 [.int (nI T), .int (nI Ac), .ref (rA 2), .ref (rA 3), .ref (rA 4), .ref (rA 5), .ref (rA 6), .ref (rA 7), .ref (rA 8), .ref (rA 9), .ref (rA 10), .ref (rA 11), .ref (rA 12), .ref (rA 13), .int ir, .ref (rA 15), .ref (rA 16), .ref (rA 17), .ref (rA 18), .int (nI md), .int (nI wd), .ref (rA 21), .ref (rA 22), .ref (rA 23), .int (nI mn), .ref (rA 25), .int (nI cb), .int mr, .ref (rA 28), .ref (rA 29), .ref (rA 30), .ref (rA 31), .ref (rA 32), .ref (rA 33), .ref (rA 34), .ref (rA 35), .int (nI ld), .int (nI gm), .ref (rA 38), .ref (rA 39), .ref (rA 40), .ref (rA 41), .ref (rA 42), .ref (rA 43), .ref (rA 44), .ref (rA 45), .int (nI my), .ref (rA 47)], ia (rA 9) (rK9 9) 352000 oc9, ia (rA 8) (rK9 8) 8 (fun i => nI (om i)), ia (rA 12) (rK9 12) 32000 (fun i => nI (or9 i))] s.heap.size = A at hD1 ⊢
  have hA : ∀ q : Nat, s.heap.size ≤ q → A q := fun q h => by rw [← hAe]; exact Or.inr h
  have hD : dd A [ra, (rA 9), (rA 8), (rA 12)] := dd_of hD1 rfl
  clear hAe hD0 hD1
  have hS : va_S A s.heap s.heap [] := va_S.rf
  replace hP : va_P (dC, dI) classes [oc ra 8 [.int (nI T), .int (nI Ac), .ref (rA 2), .ref (rA 3), .ref (rA 4), .ref (rA 5), .ref (rA 6), .ref (rA 7), .ref (rA 8), .ref (rA 9), .ref (rA 10), .ref (rA 11), .ref (rA 12), .ref (rA 13), .int ir, .ref (rA 15), .ref (rA 16), .ref (rA 17), .ref (rA 18), .int (nI md), .int (nI wd), .ref (rA 21), .ref (rA 22), .ref (rA 23), .int (nI mn), .ref (rA 25), .int (nI cb), .int mr, .ref (rA 28), .ref (rA 29), .ref (rA 30), .ref (rA 31), .ref (rA 32), .ref (rA 33), .ref (rA 34), .ref (rA 35), .int (nI ld), .int (nI gm), .ref (rA 38), .ref (rA 39), .ref (rA 40), .ref (rA 41), .ref (rA 42), .ref (rA 43), .ref (rA 44), .ref (rA 45), .int (nI my), .ref (rA 47)], ia (rA 9) (rK9 9) 352000 oc9, ia (rA 8) (rK9 8) 8 (fun i => nI (om i)), ia (rA 12) (rK9 12) 32000 (fun i => nI (or9 i))] s.heap := hP
  have hl := lv_entry ([.ref ra, .int (nI se), .int i9, .int w9]) (n := 5) (Nat.le_of_ble_eq_true rfl)
  rw [lg_entry_eq]
  generalize (lg_sl ([.ref ra, .int (nI se), .int i9, .int w9]) ++ List.replicate (5 - (lg_sl ([.ref ra, .int (nI se), .int i9, .int w9])).length) Slot.unset).toArray = ls at hl ⊢
  replace hl : lv_has ls 5 [(0, .ref ra), (1, .int (nI se)), (2, .int i9), (3, .int w9)] := hl
  refine lv_iload_n hx hb d_Ref_told_0 rfl (lv_at hl 2 rfl) ?_
  refine lv_if_lt (tgt := 28) hx hb d_Ref_told_1 (by decide) (fun c1 => ?_) (fun c1 => ?_)
  · skip
    refine tp_pc (pc' := 28) (by rfl) ?_
    refine lv_iconst (v := 0) hx hb d_Ref_told_28 (by decide) ?_
    refine lv_istore (lv' := [(4, .int 0), (0, .ref ra), (1, .int (nI se)), (2, .int i9), (3, .int w9)]) hx hb d_Ref_told_29 hl (by decide) rfl ?_
    clear hl ls
    intro ls hl
    refine lv_iload hx hb d_Ref_told_31 (lv_at hl 0 rfl) ?_
    refine lv_if_eq (tgt := 67) hx hb d_Ref_told_33 (by decide) (fun c_1 => ?_) (fun c_1 => absurd c_1 (by decide))
    refine tp_pc (pc' := 67) (by rfl) ?_
    refine lv_sipush (v := (-1000)) hx hb d_Ref_told_67 (by decide) ?_
    obtain ⟨hP9, hD9, -⟩ := cut3 (wc := [oc ra 8 [.int (nI T), .int (nI Ac), .ref (rA 2), .ref (rA 3), .ref (rA 4), .ref (rA 5), .ref (rA 6), .ref (rA 7), .ref (rA 8), .ref (rA 9), .ref (rA 10), .ref (rA 11), .ref (rA 12), .ref (rA 13), .int ir, .ref (rA 15), .ref (rA 16), .ref (rA 17), .ref (rA 18), .int (nI md), .int (nI wd), .ref (rA 21), .ref (rA 22), .ref (rA 23), .int (nI mn), .ref (rA 25), .int (nI cb), .int mr, .ref (rA 28), .ref (rA 29), .ref (rA 30), .ref (rA 31), .ref (rA 32), .ref (rA 33), .ref (rA 34), .ref (rA 35), .int (nI ld), .int (nI gm), .ref (rA 38), .ref (rA 39), .ref (rA 40), .ref (rA 41), .ref (rA 42), .ref (rA 43), .ref (rA 44), .ref (rA 45), .int (nI my), .ref (rA 47)], ia (rA 9) (rK9 9) 352000 oc9, ia (rA 8) (rK9 8) 8 (fun i => nI (om i)), ia (rA 12) (rK9 12) 32000 (fun i => nI (or9 i))]) hP hD rfl hS hA [0, 1, 2, 3] (by decide +kernel) rfl
    have hK9 := hK.sub (tys' := []) [] rfl
    refine W.widen (k := 0) (n := 0) (by exact Nat.le_of_ble_eq_true rfl) (by exact Nat.le_of_ble_eq_true rfl) ?_
    exact W.iret (v := (-1000)) hx hb hr (fun t9 ht9 hW => ⟨⟨(-1000), (), rfl, by rw [tolO, if_neg (fun q => q.1 c1)], by rw [ht9]; exact hP9, va_K.moved hW.alike hK9, hD9⟩, hS.F ht9⟩) hS.2.2 d_Ref_told_70
  · skip
    obtain ⟨j, hj, ej⟩ := nI_of c1
    subst ej
    replace hl : lv_has ls 5 [(0, .ref ra), (1, .int (nI se)), (2, .int (nI j)), (3, .int w9)] := hl
    refine tp_pc (pc' := 4) (by rfl) ?_
    refine lv_iload_n hx hb d_Ref_told_4 rfl (lv_at hl 2 rfl) ?_
    refine lv_aload_n hx hb d_Ref_told_5 rfl (lv_at hl 0 rfl) ?_
    refine va_get (D := (dC, dI)) (ci := 8) (v := .ref (rA 8)) (C := R_Ref) (T := F_Ref) (N := 48) hx hb hw i_Ref hown hK hP 0 rfl rfl 8 (by decide) (hw _ m_907) (fun _ h9 => h9) rfl d_Ref_told_6 ?_
    refine lv_iload_n hx hb d_Ref_told_9 rfl (lv_at hl 1 rfl) ?_
    refine va_iald (D := (dC, dI)) hx hb hK hP 2 1 rfl rfl (i := nI se) (pk_in se 8 (by omega)) d_Ref_told_10 ?_
    refine tp_i (y := nI (om se)) (by rw [show (nI se : Int32).toNatClampNeg = se from pk_cl se]) ?_
    refine tp_i (y := nI n) (by rw [hom]) ?_
    refine lv_icmp_ge (tgt := 28) hx hb d_Ref_told_11 (by decide) (fun c2 => ?_) (fun c2 => ?_)
    · skip
      have hc2 : n ≤ j := (nI_leI (a := n) (b := j) (by omega) (by omega)).mp c2
      refine tp_pc (pc' := 28) (by rfl) ?_
      refine lv_iconst (v := 0) hx hb d_Ref_told_28 (by decide) ?_
      refine lv_istore (lv' := [(4, .int 0), (0, .ref ra), (1, .int (nI se)), (2, .int (nI j)), (3, .int w9)]) hx hb d_Ref_told_29 hl (by decide) rfl ?_
      clear hl ls
      intro ls hl
      refine lv_iload hx hb d_Ref_told_31 (lv_at hl 0 rfl) ?_
      refine lv_if_eq (tgt := 67) hx hb d_Ref_told_33 (by decide) (fun c_2 => ?_) (fun c_2 => absurd c_2 (by decide))
      refine tp_pc (pc' := 67) (by rfl) ?_
      refine lv_sipush (v := (-1000)) hx hb d_Ref_told_67 (by decide) ?_
      obtain ⟨hP9, hD9, -⟩ := cut3 (wc := [oc ra 8 [.int (nI T), .int (nI Ac), .ref (rA 2), .ref (rA 3), .ref (rA 4), .ref (rA 5), .ref (rA 6), .ref (rA 7), .ref (rA 8), .ref (rA 9), .ref (rA 10), .ref (rA 11), .ref (rA 12), .ref (rA 13), .int ir, .ref (rA 15), .ref (rA 16), .ref (rA 17), .ref (rA 18), .int (nI md), .int (nI wd), .ref (rA 21), .ref (rA 22), .ref (rA 23), .int (nI mn), .ref (rA 25), .int (nI cb), .int mr, .ref (rA 28), .ref (rA 29), .ref (rA 30), .ref (rA 31), .ref (rA 32), .ref (rA 33), .ref (rA 34), .ref (rA 35), .int (nI ld), .int (nI gm), .ref (rA 38), .ref (rA 39), .ref (rA 40), .ref (rA 41), .ref (rA 42), .ref (rA 43), .ref (rA 44), .ref (rA 45), .int (nI my), .ref (rA 47)], ia (rA 9) (rK9 9) 352000 oc9, ia (rA 8) (rK9 8) 8 (fun i => nI (om i)), ia (rA 12) (rK9 12) 32000 (fun i => nI (or9 i))]) hP hD rfl hS hA [0, 1, 2, 3] (by decide +kernel) rfl
      have hK9 := hK.sub (tys' := []) [] rfl
      refine W.widen (k := 0) (n := 0) (by exact Nat.le_of_ble_eq_true rfl) (by exact Nat.le_of_ble_eq_true rfl) ?_
      exact W.iret (v := (-1000)) hx hb hr (fun t9 ht9 hW => ⟨⟨(-1000), (), rfl, by rw [tolO, if_neg (fun q => absurd q.2.1 (by rw [nI_clamp hj]; omega))], by rw [ht9]; exact hP9, va_K.moved hW.alike hK9, hD9⟩, hS.F ht9⟩) hS.2.2 d_Ref_told_70
    · skip
      have hc2 : ¬ (n ≤ j) := fun q9 => c2 ((nI_leI (a := n) (b := j) (by omega) (by omega)).mpr q9)
      refine tp_pc (pc' := 14) (by rfl) ?_
      refine lv_iload_n hx hb d_Ref_told_14 rfl (lv_at hl 3 rfl) ?_
      refine lv_if_lt (tgt := 28) hx hb d_Ref_told_15 (by decide) (fun c3 => ?_) (fun c3 => ?_)
      · skip
        refine tp_pc (pc' := 28) (by rfl) ?_
        refine lv_iconst (v := 0) hx hb d_Ref_told_28 (by decide) ?_
        refine lv_istore (lv' := [(4, .int 0), (0, .ref ra), (1, .int (nI se)), (2, .int (nI j)), (3, .int w9)]) hx hb d_Ref_told_29 hl (by decide) rfl ?_
        clear hl ls
        intro ls hl
        refine lv_iload hx hb d_Ref_told_31 (lv_at hl 0 rfl) ?_
        refine lv_if_eq (tgt := 67) hx hb d_Ref_told_33 (by decide) (fun c_3 => ?_) (fun c_3 => absurd c_3 (by decide))
        refine tp_pc (pc' := 67) (by rfl) ?_
        refine lv_sipush (v := (-1000)) hx hb d_Ref_told_67 (by decide) ?_
        obtain ⟨hP9, hD9, -⟩ := cut3 (wc := [oc ra 8 [.int (nI T), .int (nI Ac), .ref (rA 2), .ref (rA 3), .ref (rA 4), .ref (rA 5), .ref (rA 6), .ref (rA 7), .ref (rA 8), .ref (rA 9), .ref (rA 10), .ref (rA 11), .ref (rA 12), .ref (rA 13), .int ir, .ref (rA 15), .ref (rA 16), .ref (rA 17), .ref (rA 18), .int (nI md), .int (nI wd), .ref (rA 21), .ref (rA 22), .ref (rA 23), .int (nI mn), .ref (rA 25), .int (nI cb), .int mr, .ref (rA 28), .ref (rA 29), .ref (rA 30), .ref (rA 31), .ref (rA 32), .ref (rA 33), .ref (rA 34), .ref (rA 35), .int (nI ld), .int (nI gm), .ref (rA 38), .ref (rA 39), .ref (rA 40), .ref (rA 41), .ref (rA 42), .ref (rA 43), .ref (rA 44), .ref (rA 45), .int (nI my), .ref (rA 47)], ia (rA 9) (rK9 9) 352000 oc9, ia (rA 8) (rK9 8) 8 (fun i => nI (om i)), ia (rA 12) (rK9 12) 32000 (fun i => nI (or9 i))]) hP hD rfl hS hA [0, 1, 2, 3] (by decide +kernel) rfl
        have hK9 := hK.sub (tys' := []) [] rfl
        refine W.widen (k := 0) (n := 0) (by exact Nat.le_of_ble_eq_true rfl) (by exact Nat.le_of_ble_eq_true rfl) ?_
        exact W.iret (v := (-1000)) hx hb hr (fun t9 ht9 hW => ⟨⟨(-1000), (), rfl, by rw [tolO, if_neg (fun q => q.2.2.1 c3)], by rw [ht9]; exact hP9, va_K.moved hW.alike hK9, hD9⟩, hS.F ht9⟩) hS.2.2 d_Ref_told_70
      · skip
        obtain ⟨k, hk, ek⟩ := nI_of c3
        subst ek
        replace hl : lv_has ls 5 [(0, .ref ra), (1, .int (nI se)), (2, .int (nI j)), (3, .int (nI k))] := hl
        refine tp_pc (pc' := 18) (by rfl) ?_
        refine lv_iload_n hx hb d_Ref_told_18 rfl (lv_at hl 3 rfl) ?_
        refine lv_bipush (v := 10) hx hb d_Ref_told_19 (by decide) ?_
        refine lv_icmp_gt (tgt := 28) hx hb d_Ref_told_21 (by decide) (fun c4 => ?_) (fun c4 => ?_)
        · skip
          have hc4 : 10 < k := (nI_ltI (a := 10) (b := k) (by omega) (by omega)).mp c4
          refine tp_pc (pc' := 28) (by rfl) ?_
          refine lv_iconst (v := 0) hx hb d_Ref_told_28 (by decide) ?_
          refine lv_istore (lv' := [(4, .int 0), (0, .ref ra), (1, .int (nI se)), (2, .int (nI j)), (3, .int (nI k))]) hx hb d_Ref_told_29 hl (by decide) rfl ?_
          clear hl ls
          intro ls hl
          refine lv_iload hx hb d_Ref_told_31 (lv_at hl 0 rfl) ?_
          refine lv_if_eq (tgt := 67) hx hb d_Ref_told_33 (by decide) (fun c_4 => ?_) (fun c_4 => absurd c_4 (by decide))
          refine tp_pc (pc' := 67) (by rfl) ?_
          refine lv_sipush (v := (-1000)) hx hb d_Ref_told_67 (by decide) ?_
          obtain ⟨hP9, hD9, -⟩ := cut3 (wc := [oc ra 8 [.int (nI T), .int (nI Ac), .ref (rA 2), .ref (rA 3), .ref (rA 4), .ref (rA 5), .ref (rA 6), .ref (rA 7), .ref (rA 8), .ref (rA 9), .ref (rA 10), .ref (rA 11), .ref (rA 12), .ref (rA 13), .int ir, .ref (rA 15), .ref (rA 16), .ref (rA 17), .ref (rA 18), .int (nI md), .int (nI wd), .ref (rA 21), .ref (rA 22), .ref (rA 23), .int (nI mn), .ref (rA 25), .int (nI cb), .int mr, .ref (rA 28), .ref (rA 29), .ref (rA 30), .ref (rA 31), .ref (rA 32), .ref (rA 33), .ref (rA 34), .ref (rA 35), .int (nI ld), .int (nI gm), .ref (rA 38), .ref (rA 39), .ref (rA 40), .ref (rA 41), .ref (rA 42), .ref (rA 43), .ref (rA 44), .ref (rA 45), .int (nI my), .ref (rA 47)], ia (rA 9) (rK9 9) 352000 oc9, ia (rA 8) (rK9 8) 8 (fun i => nI (om i)), ia (rA 12) (rK9 12) 32000 (fun i => nI (or9 i))]) hP hD rfl hS hA [0, 1, 2, 3] (by decide +kernel) rfl
          have hK9 := hK.sub (tys' := []) [] rfl
          refine W.widen (k := 0) (n := 0) (by exact Nat.le_of_ble_eq_true rfl) (by exact Nat.le_of_ble_eq_true rfl) ?_
          exact W.iret (v := (-1000)) hx hb hr (fun t9 ht9 hW => ⟨⟨(-1000), (), rfl, by rw [tolO, if_neg (fun q => absurd q.2.2.2 (by rw [nI_clamp hk]; omega))], by rw [ht9]; exact hP9, va_K.moved hW.alike hK9, hD9⟩, hS.F ht9⟩) hS.2.2 d_Ref_told_70
        · skip
          have hc4 : ¬ (10 < k) := fun q9 => c4 ((nI_ltI (a := 10) (b := k) (by omega) (by omega)).mpr q9)
          have hoj := hor j (by omega)
          refine tp_pc (pc' := 24) (by rfl) ?_
          refine lv_iconst (v := 1) hx hb d_Ref_told_24 (by decide) ?_
          refine lv_goto (tgt := 29) hx hb d_Ref_told_25 (by decide) ?_
          refine tp_pc (pc' := 29) (by rfl) ?_
          refine lv_istore (lv' := [(4, .int 1), (0, .ref ra), (1, .int (nI se)), (2, .int (nI j)), (3, .int (nI k))]) hx hb d_Ref_told_29 hl (by decide) rfl ?_
          clear hl ls
          intro ls hl
          refine lv_iload hx hb d_Ref_told_31 (lv_at hl 0 rfl) ?_
          refine lv_if_eq (tgt := 67) hx hb d_Ref_told_33 (by decide) (fun c_5 => absurd c_5 (by decide)) (fun c_5 => ?_)
          refine tp_pc (pc' := 36) (by rfl) ?_
          refine lv_aload_n hx hb d_Ref_told_36 rfl (lv_at hl 1 rfl) ?_
          refine va_get (D := (dC, dI)) (ci := 8) (v := .ref (rA 9)) (C := R_Ref) (T := F_Ref) (N := 48) hx hb hw i_Ref hown hK hP 0 rfl rfl 9 (by decide) (hw _ m_908) (fun _ h9 => h9) rfl d_Ref_told_37 ?_
          refine lv_bipush (v := 11) hx hb d_Ref_told_40 (by decide) ?_
          refine lv_sipush (v := 4000) hx hb d_Ref_told_42 (by decide) ?_
          refine lv_iload_n hx hb d_Ref_told_45 rfl (lv_at hl 2 rfl) ?_
          refine lv_imul hx hb d_Ref_told_46 ?_
          refine tp_i (y := nI (4000 * se)) (by exact pk_mul 4000 se) ?_
          refine lv_aload_n hx hb d_Ref_told_47 rfl (lv_at hl 1 rfl) ?_
          refine va_get (D := (dC, dI)) (ci := 8) (v := .ref (rA 12)) (C := R_Ref) (T := F_Ref) (N := 48) hx hb hw i_Ref hown hK hP 0 rfl rfl 12 (by decide) (hw _ m_911) (fun _ h9 => h9) rfl d_Ref_told_48 ?_
          refine lv_sipush (v := 4000) hx hb d_Ref_told_51 (by decide) ?_
          refine lv_iload_n hx hb d_Ref_told_54 rfl (lv_at hl 2 rfl) ?_
          refine lv_imul hx hb d_Ref_told_55 ?_
          refine tp_i (y := nI (4000 * se)) (by exact pk_mul 4000 se) ?_
          refine lv_iload_n hx hb d_Ref_told_56 rfl (lv_at hl 3 rfl) ?_
          refine lv_iadd hx hb d_Ref_told_57 ?_
          refine tp_i (y := nI (4000 * se + j)) (by exact nI_add (4000 * se) j) ?_
          refine va_iald (D := (dC, dI)) hx hb hK hP 3 2 rfl rfl (i := nI (4000 * se + j)) (pk_in (4000 * se + j) 32000 (by omega)) d_Ref_told_58 ?_
          refine tp_i (y := nI (or9 (4000 * se + j))) (by rw [show (nI (4000 * se + j) : Int32).toNatClampNeg = 4000 * se + j from pk_cl (4000 * se + j)]) ?_
          refine lv_iadd hx hb d_Ref_told_59 ?_
          refine tp_i (y := nI (4000 * se + (or9 (4000 * se + j)))) (by exact nI_add (4000 * se) (or9 (4000 * se + j))) ?_
          refine lv_imul hx hb d_Ref_told_60 ?_
          refine tp_i (y := nI (11 * (4000 * se + (or9 (4000 * se + j))))) (by exact pk_mul 11 (4000 * se + (or9 (4000 * se + j)))) ?_
          refine lv_iload_n hx hb d_Ref_told_61 rfl (lv_at hl 4 rfl) ?_
          refine lv_iadd hx hb d_Ref_told_62 ?_
          refine tp_i (y := nI (11 * (4000 * se + (or9 (4000 * se + j))) + k)) (by exact nI_add (11 * (4000 * se + (or9 (4000 * se + j)))) k) ?_
          refine va_sald (D := (dC, dI)) hx hb hK hP 1 0 rfl rfl (i := nI (11 * (4000 * se + (or9 (4000 * se + j))) + k)) (pk_in (11 * (4000 * se + (or9 (4000 * se + j))) + k) 352000 (by omega)) d_Ref_told_63 ?_
          refine tp_i (y := oc9 (11 * (4000 * se + (or9 (4000 * se + j))) + k)) (by rw [show (nI (11 * (4000 * se + (or9 (4000 * se + j))) + k) : Int32).toNatClampNeg = 11 * (4000 * se + (or9 (4000 * se + j))) + k from pk_cl (11 * (4000 * se + (or9 (4000 * se + j))) + k)]) ?_
          refine lv_goto (tgt := 70) hx hb d_Ref_told_64 (by decide) ?_
          refine tp_pc (pc' := 70) (by rfl) ?_
          obtain ⟨hP9, hD9, -⟩ := cut3 (wc := [oc ra 8 [.int (nI T), .int (nI Ac), .ref (rA 2), .ref (rA 3), .ref (rA 4), .ref (rA 5), .ref (rA 6), .ref (rA 7), .ref (rA 8), .ref (rA 9), .ref (rA 10), .ref (rA 11), .ref (rA 12), .ref (rA 13), .int ir, .ref (rA 15), .ref (rA 16), .ref (rA 17), .ref (rA 18), .int (nI md), .int (nI wd), .ref (rA 21), .ref (rA 22), .ref (rA 23), .int (nI mn), .ref (rA 25), .int (nI cb), .int mr, .ref (rA 28), .ref (rA 29), .ref (rA 30), .ref (rA 31), .ref (rA 32), .ref (rA 33), .ref (rA 34), .ref (rA 35), .int (nI ld), .int (nI gm), .ref (rA 38), .ref (rA 39), .ref (rA 40), .ref (rA 41), .ref (rA 42), .ref (rA 43), .ref (rA 44), .ref (rA 45), .int (nI my), .ref (rA 47)], ia (rA 9) (rK9 9) 352000 oc9, ia (rA 8) (rK9 8) 8 (fun i => nI (om i)), ia (rA 12) (rK9 12) 32000 (fun i => nI (or9 i))]) hP hD rfl hS hA [0, 1, 2, 3] (by decide +kernel) rfl
          have hK9 := hK.sub (tys' := []) [] rfl
          refine W.widen (k := 0) (n := 0) (by exact Nat.le_of_ble_eq_true rfl) (by exact Nat.le_of_ble_eq_true rfl) ?_
          exact W.iret (v := (oc9 (11 * (4000 * se + (or9 (4000 * se + j))) + k))) hx hb hr (fun t9 ht9 hW => ⟨⟨oc9 (11 * (4000 * se + (or9 (4000 * se + j))) + k), (), rfl, by rw [tolO, if_pos ⟨c1, by rw [nI_clamp hj]; omega, c3, by rw [nI_clamp hk]; omega⟩, nI_clamp hj, nI_clamp hk], by rw [ht9]; exact hP9, va_K.moved hW.alike hK9, hD9⟩, hS.F ht9⟩) hS.2.2 d_Ref_told_70
set_option maxHeartbeats 4000000 in
set_option maxRecDepth 100000 in
theorem gen_Ref_isAction (l : Launch) (dC : Nat → ClassId) (dI : Nat → Nat → Nat) (ra : Nat) (rA : Nat → Nat) (rK9 : Nat → ClassId) (T Ac md wd mn cb ld gm my : Nat) (ir mr : Int32) (t9x i9 : Int32) (zs : Nat → Nat) (hT : T ≤ 4) (hzs : ∀ t, t < T → zs t ≤ 7) (sz : Nat) : Met l y_Ref_isAction w_Ref_isAction ({ frames := 0, cells := 0, slots := 0, locals := 0 }) (va_Pc [.ref ra, .int t9x, .int i9] (fun U => U.heap.size = sz ∧ va_P (dC, dI) classes [oc ra 8 [.int (nI T), .int (nI Ac), .ref (rA 2), .ref (rA 3), .ref (rA 4), .ref (rA 5), .ref (rA 6), .ref (rA 7), .ref (rA 8), .ref (rA 9), .ref (rA 10), .ref (rA 11), .ref (rA 12), .ref (rA 13), .int ir, .ref (rA 15), .ref (rA 16), .ref (rA 17), .ref (rA 18), .int (nI md), .int (nI wd), .ref (rA 21), .ref (rA 22), .ref (rA 23), .int (nI mn), .ref (rA 25), .int (nI cb), .int mr, .ref (rA 28), .ref (rA 29), .ref (rA 30), .ref (rA 31), .ref (rA 32), .ref (rA 33), .ref (rA 34), .ref (rA 35), .int (nI ld), .int (nI gm), .ref (rA 38), .ref (rA 39), .ref (rA 40), .ref (rA 41), .ref (rA 42), .ref (rA 43), .ref (rA 44), .ref (rA 45), .int (nI my), .ref (rA 47)], ia (rA 2) (rK9 2) 4 (fun i => nI (zs i))] U.heap ∧ va_K (dC, dI) classes [((rK9 2), .int)] U ∧ va_D (fun _ => True) [oc ra 8 [.int (nI T), .int (nI Ac), .ref (rA 2), .ref (rA 3), .ref (rA 4), .ref (rA 5), .ref (rA 6), .ref (rA 7), .ref (rA 8), .ref (rA 9), .ref (rA 10), .ref (rA 11), .ref (rA 12), .ref (rA 13), .int ir, .ref (rA 15), .ref (rA 16), .ref (rA 17), .ref (rA 18), .int (nI md), .int (nI wd), .ref (rA 21), .ref (rA 22), .ref (rA 23), .int (nI mn), .ref (rA 25), .int (nI cb), .int mr, .ref (rA 28), .ref (rA 29), .ref (rA 30), .ref (rA 31), .ref (rA 32), .ref (rA 33), .ref (rA 34), .ref (rA 35), .int (nI ld), .int (nI gm), .ref (rA 38), .ref (rA 39), .ref (rA 40), .ref (rA 41), .ref (rA 42), .ref (rA 43), .ref (rA 44), .ref (rA 45), .int (nI my), .ref (rA 47)], ia (rA 2) (rK9 2) 4 (fun i => nI (zs i))] ∧ nw U)) (va_Qi (fun (r : Int32) (_ : Unit) => r = if ¬ t9x < 0 ∧ t9x.toNatClampNeg < T ∧ ¬ i9 < 0 ∧ i9.toNatClampNeg < zs t9x.toNatClampNeg then 1 else 0) (fun _ t9 => va_P (dC, dI) classes [oc ra 8 [.int (nI T), .int (nI Ac), .ref (rA 2), .ref (rA 3), .ref (rA 4), .ref (rA 5), .ref (rA 6), .ref (rA 7), .ref (rA 8), .ref (rA 9), .ref (rA 10), .ref (rA 11), .ref (rA 12), .ref (rA 13), .int ir, .ref (rA 15), .ref (rA 16), .ref (rA 17), .ref (rA 18), .int (nI md), .int (nI wd), .ref (rA 21), .ref (rA 22), .ref (rA 23), .int (nI mn), .ref (rA 25), .int (nI cb), .int mr, .ref (rA 28), .ref (rA 29), .ref (rA 30), .ref (rA 31), .ref (rA 32), .ref (rA 33), .ref (rA 34), .ref (rA 35), .int (nI ld), .int (nI gm), .ref (rA 38), .ref (rA 39), .ref (rA 40), .ref (rA 41), .ref (rA 42), .ref (rA 43), .ref (rA 44), .ref (rA 45), .int (nI my), .ref (rA 47)], ia (rA 2) (rK9 2) 4 (fun i => nI (zs i))] t9.heap ∧ va_K (dC, dI) classes [] t9 ∧ va_D (va_A [oc ra 8 [.int (nI T), .int (nI Ac), .ref (rA 2), .ref (rA 3), .ref (rA 4), .ref (rA 5), .ref (rA 6), .ref (rA 7), .ref (rA 8), .ref (rA 9), .ref (rA 10), .ref (rA 11), .ref (rA 12), .ref (rA 13), .int ir, .ref (rA 15), .ref (rA 16), .ref (rA 17), .ref (rA 18), .int (nI md), .int (nI wd), .ref (rA 21), .ref (rA 22), .ref (rA 23), .int (nI mn), .ref (rA 25), .int (nI cb), .int mr, .ref (rA 28), .ref (rA 29), .ref (rA 30), .ref (rA 31), .ref (rA 32), .ref (rA 33), .ref (rA 34), .ref (rA 35), .int (nI ld), .int (nI gm), .ref (rA 38), .ref (rA 39), .ref (rA 40), .ref (rA 41), .ref (rA 42), .ref (rA 43), .ref (rA 44), .ref (rA 45), .int (nI my), .ref (rA 47)], ia (rA 2) (rK9 2) 4 (fun i => nI (zs i))] sz) [oc ra 8 [.int (nI T), .int (nI Ac), .ref (rA 2), .ref (rA 3), .ref (rA 4), .ref (rA 5), .ref (rA 6), .ref (rA 7), .ref (rA 8), .ref (rA 9), .ref (rA 10), .ref (rA 11), .ref (rA 12), .ref (rA 13), .int ir, .ref (rA 15), .ref (rA 16), .ref (rA 17), .ref (rA 18), .int (nI md), .int (nI wd), .ref (rA 21), .ref (rA 22), .ref (rA 23), .int (nI mn), .ref (rA 25), .int (nI cb), .int mr, .ref (rA 28), .ref (rA 29), .ref (rA 30), .ref (rA 31), .ref (rA 32), .ref (rA 33), .ref (rA 34), .ref (rA 35), .int (nI ld), .int (nI gm), .ref (rA 38), .ref (rA 39), .ref (rA 40), .ref (rA 41), .ref (rA 42), .ref (rA 43), .ref (rA 44), .ref (rA 45), .int (nI my), .ref (rA 47)], ia (rA 2) (rK9 2) 4 (fun i => nI (zs i))]) (va_A [oc ra 8 [.int (nI T), .int (nI Ac), .ref (rA 2), .ref (rA 3), .ref (rA 4), .ref (rA 5), .ref (rA 6), .ref (rA 7), .ref (rA 8), .ref (rA 9), .ref (rA 10), .ref (rA 11), .ref (rA 12), .ref (rA 13), .int ir, .ref (rA 15), .ref (rA 16), .ref (rA 17), .ref (rA 18), .int (nI md), .int (nI wd), .ref (rA 21), .ref (rA 22), .ref (rA 23), .int (nI mn), .ref (rA 25), .int (nI cb), .int mr, .ref (rA 28), .ref (rA 29), .ref (rA 30), .ref (rA 31), .ref (rA 32), .ref (rA 33), .ref (rA 34), .ref (rA 35), .int (nI ld), .int (nI gm), .ref (rA 38), .ref (rA 39), .ref (rA 40), .ref (rA 41), .ref (rA 42), .ref (rA 43), .ref (rA 44), .ref (rA 45), .int (nI my), .ref (rA 47)], ia (rA 2) (rK9 2) 4 (fun i => nI (zs i))] sz)) 0 0 (va_A [oc ra 8 [.int (nI T), .int (nI Ac), .ref (rA 2), .ref (rA 3), .ref (rA 4), .ref (rA 5), .ref (rA 6), .ref (rA 7), .ref (rA 8), .ref (rA 9), .ref (rA 10), .ref (rA 11), .ref (rA 12), .ref (rA 13), .int ir, .ref (rA 15), .ref (rA 16), .ref (rA 17), .ref (rA 18), .int (nI md), .int (nI wd), .ref (rA 21), .ref (rA 22), .ref (rA 23), .int (nI mn), .ref (rA 25), .int (nI cb), .int mr, .ref (rA 28), .ref (rA 29), .ref (rA 30), .ref (rA 31), .ref (rA 32), .ref (rA 33), .ref (rA 34), .ref (rA 35), .int (nI ld), .int (nI gm), .ref (rA 38), .ref (rA 39), .ref (rA 40), .ref (rA 41), .ref (rA 42), .ref (rA 43), .ref (rA 44), .ref (rA 45), .int (nI my), .ref (rA 47)], ia (rA 2) (rK9 2) 4 (fun i => nI (zs i))] sz) := by
  refine Met.ofW (cc := b_Ref_isAction) (maxL := 3) (ret := (some .boolean)) (by decide) rfl ?_
  intro p e0 s m args below meth c s₁ B hml hv
  obtain ⟨rfl, hsz, hP, hK, hD0, hn⟩ := hv
  have hx := B.exec
  have hb := B.bytes
  have hr := B.returns
  have hw := fun w (h : w ∈ wt) => atoms_spec (ws := w_Ref_isAction) B.pre w (List.mem_cons_of_mem _ h)
  have hown : s.vm.findClass R_Ref = some m.cls := findClass_of_methodNamed B.named
  have hlocks := B.notSynchronized
  subst hsz
  have hD1 := hD0.self (sz := s.heap.size)
  generalize hAe : va_A [oc ra 8 [.int (nI T), .int (nI Ac), .ref (rA 2), .ref (rA 3), .ref (rA 4), .ref (rA 5), .ref (rA 6), .ref (rA 7), .ref (rA 8), .ref (rA 9), .ref (rA 10), .ref (rA 11), .ref (rA 12), .ref (rA 13), .int ir, .ref (rA 15), .ref (rA 16), .ref (rA 17), .ref (rA 18), .int (nI md), .int (nI wd), .ref (rA 21), .ref (rA 22), .ref (rA 23), .int (nI mn), .ref (rA 25), .int (nI cb), .int mr, .ref (rA 28), .ref (rA 29), .ref (rA 30), .ref (rA 31), .ref (rA 32), .ref (rA 33), .ref (rA 34), .ref (rA 35), .int (nI ld), .int (nI gm), .ref (rA 38), .ref (rA 39), .ref (rA 40), .ref (rA 41), .ref (rA 42), .ref (rA 43), .ref (rA 44), .ref (rA 45), .int (nI my), .ref (rA 47)], ia (rA 2) (rK9 2) 4 (fun i => nI (zs i))] s.heap.size = A at hD1 ⊢
  have hA : ∀ q : Nat, s.heap.size ≤ q → A q := fun q h => by rw [← hAe]; exact Or.inr h
  have hD : dd A [ra, (rA 2)] := dd_of hD1 rfl
  clear hAe hD0 hD1
  have hS : va_S A s.heap s.heap [] := va_S.rf
  replace hP : va_P (dC, dI) classes [oc ra 8 [.int (nI T), .int (nI Ac), .ref (rA 2), .ref (rA 3), .ref (rA 4), .ref (rA 5), .ref (rA 6), .ref (rA 7), .ref (rA 8), .ref (rA 9), .ref (rA 10), .ref (rA 11), .ref (rA 12), .ref (rA 13), .int ir, .ref (rA 15), .ref (rA 16), .ref (rA 17), .ref (rA 18), .int (nI md), .int (nI wd), .ref (rA 21), .ref (rA 22), .ref (rA 23), .int (nI mn), .ref (rA 25), .int (nI cb), .int mr, .ref (rA 28), .ref (rA 29), .ref (rA 30), .ref (rA 31), .ref (rA 32), .ref (rA 33), .ref (rA 34), .ref (rA 35), .int (nI ld), .int (nI gm), .ref (rA 38), .ref (rA 39), .ref (rA 40), .ref (rA 41), .ref (rA 42), .ref (rA 43), .ref (rA 44), .ref (rA 45), .int (nI my), .ref (rA 47)], ia (rA 2) (rK9 2) 4 (fun i => nI (zs i))] s.heap := hP
  have hl := lv_entry ([.ref ra, .int t9x, .int i9]) (n := 3) (Nat.le_of_ble_eq_true rfl)
  rw [lg_entry_eq]
  generalize (lg_sl ([.ref ra, .int t9x, .int i9]) ++ List.replicate (3 - (lg_sl ([.ref ra, .int t9x, .int i9])).length) Slot.unset).toArray = ls at hl ⊢
  replace hl : lv_has ls 3 [(0, .ref ra), (1, .int t9x), (2, .int i9)] := hl
  refine lv_iload_n hx hb d_Ref_isAction_0 rfl (lv_at hl 1 rfl) ?_
  refine lv_if_lt (tgt := 30) hx hb d_Ref_isAction_1 (by decide) (fun c1 => ?_) (fun c1 => ?_)
  · skip
    refine tp_pc (pc' := 30) (by rfl) ?_
    refine lv_iconst (v := 0) hx hb d_Ref_isAction_30 (by decide) ?_
    obtain ⟨hP9, hD9, -⟩ := cut3 (wc := [oc ra 8 [.int (nI T), .int (nI Ac), .ref (rA 2), .ref (rA 3), .ref (rA 4), .ref (rA 5), .ref (rA 6), .ref (rA 7), .ref (rA 8), .ref (rA 9), .ref (rA 10), .ref (rA 11), .ref (rA 12), .ref (rA 13), .int ir, .ref (rA 15), .ref (rA 16), .ref (rA 17), .ref (rA 18), .int (nI md), .int (nI wd), .ref (rA 21), .ref (rA 22), .ref (rA 23), .int (nI mn), .ref (rA 25), .int (nI cb), .int mr, .ref (rA 28), .ref (rA 29), .ref (rA 30), .ref (rA 31), .ref (rA 32), .ref (rA 33), .ref (rA 34), .ref (rA 35), .int (nI ld), .int (nI gm), .ref (rA 38), .ref (rA 39), .ref (rA 40), .ref (rA 41), .ref (rA 42), .ref (rA 43), .ref (rA 44), .ref (rA 45), .int (nI my), .ref (rA 47)], ia (rA 2) (rK9 2) 4 (fun i => nI (zs i))]) hP hD rfl hS hA [0, 1] (by decide +kernel) rfl
    have hK9 := hK.sub (tys' := []) [] rfl
    refine W.widen (k := 0) (n := 0) (by exact Nat.le_of_ble_eq_true rfl) (by exact Nat.le_of_ble_eq_true rfl) ?_
    exact W.zret (v := 0) (ty := .boolean) hx hb hr (by decide) (fun t9 ht9 hW => ⟨⟨0, (), rfl, by rw [if_neg (fun q => q.1 c1)], by rw [ht9]; exact hP9, va_K.moved hW.alike hK9, hD9⟩, hS.F ht9⟩) hS.2.2 d_Ref_isAction_31
  · skip
    obtain ⟨j, hj, ej⟩ := nI_of c1
    subst ej
    replace hl : lv_has ls 3 [(0, .ref ra), (1, .int (nI j)), (2, .int i9)] := hl
    refine tp_pc (pc' := 4) (by rfl) ?_
    refine lv_iload_n hx hb d_Ref_isAction_4 rfl (lv_at hl 1 rfl) ?_
    refine lv_aload_n hx hb d_Ref_isAction_5 rfl (lv_at hl 0 rfl) ?_
    refine va_get (D := (dC, dI)) (ci := 8) (v := .int (nI T)) (C := R_Ref) (T := F_Ref) (N := 48) hx hb hw i_Ref hown hK hP 0 rfl rfl 0 (by decide) (hw _ m_899) (fun _ h9 => h9) rfl d_Ref_isAction_6 ?_
    refine lv_icmp_ge (tgt := 30) hx hb d_Ref_isAction_9 (by decide) (fun c2 => ?_) (fun c2 => ?_)
    · skip
      have hc2 : T ≤ j := (nI_leI (a := T) (b := j) (by omega) (by omega)).mp c2
      refine tp_pc (pc' := 30) (by rfl) ?_
      refine lv_iconst (v := 0) hx hb d_Ref_isAction_30 (by decide) ?_
      obtain ⟨hP9, hD9, -⟩ := cut3 (wc := [oc ra 8 [.int (nI T), .int (nI Ac), .ref (rA 2), .ref (rA 3), .ref (rA 4), .ref (rA 5), .ref (rA 6), .ref (rA 7), .ref (rA 8), .ref (rA 9), .ref (rA 10), .ref (rA 11), .ref (rA 12), .ref (rA 13), .int ir, .ref (rA 15), .ref (rA 16), .ref (rA 17), .ref (rA 18), .int (nI md), .int (nI wd), .ref (rA 21), .ref (rA 22), .ref (rA 23), .int (nI mn), .ref (rA 25), .int (nI cb), .int mr, .ref (rA 28), .ref (rA 29), .ref (rA 30), .ref (rA 31), .ref (rA 32), .ref (rA 33), .ref (rA 34), .ref (rA 35), .int (nI ld), .int (nI gm), .ref (rA 38), .ref (rA 39), .ref (rA 40), .ref (rA 41), .ref (rA 42), .ref (rA 43), .ref (rA 44), .ref (rA 45), .int (nI my), .ref (rA 47)], ia (rA 2) (rK9 2) 4 (fun i => nI (zs i))]) hP hD rfl hS hA [0, 1] (by decide +kernel) rfl
      have hK9 := hK.sub (tys' := []) [] rfl
      refine W.widen (k := 0) (n := 0) (by exact Nat.le_of_ble_eq_true rfl) (by exact Nat.le_of_ble_eq_true rfl) ?_
      exact W.zret (v := 0) (ty := .boolean) hx hb hr (by decide) (fun t9 ht9 hW => ⟨⟨0, (), rfl, by rw [if_neg (fun q => absurd q.2.1 (by rw [nI_clamp hj]; omega))], by rw [ht9]; exact hP9, va_K.moved hW.alike hK9, hD9⟩, hS.F ht9⟩) hS.2.2 d_Ref_isAction_31
    · skip
      have hc2 : ¬ (T ≤ j) := fun q9 => c2 ((nI_leI (a := T) (b := j) (by omega) (by omega)).mpr q9)
      have hzj := hzs j (by omega)
      refine tp_pc (pc' := 12) (by rfl) ?_
      refine lv_iload_n hx hb d_Ref_isAction_12 rfl (lv_at hl 2 rfl) ?_
      refine lv_if_lt (tgt := 30) hx hb d_Ref_isAction_13 (by decide) (fun c3 => ?_) (fun c3 => ?_)
      · skip
        refine tp_pc (pc' := 30) (by rfl) ?_
        refine lv_iconst (v := 0) hx hb d_Ref_isAction_30 (by decide) ?_
        obtain ⟨hP9, hD9, -⟩ := cut3 (wc := [oc ra 8 [.int (nI T), .int (nI Ac), .ref (rA 2), .ref (rA 3), .ref (rA 4), .ref (rA 5), .ref (rA 6), .ref (rA 7), .ref (rA 8), .ref (rA 9), .ref (rA 10), .ref (rA 11), .ref (rA 12), .ref (rA 13), .int ir, .ref (rA 15), .ref (rA 16), .ref (rA 17), .ref (rA 18), .int (nI md), .int (nI wd), .ref (rA 21), .ref (rA 22), .ref (rA 23), .int (nI mn), .ref (rA 25), .int (nI cb), .int mr, .ref (rA 28), .ref (rA 29), .ref (rA 30), .ref (rA 31), .ref (rA 32), .ref (rA 33), .ref (rA 34), .ref (rA 35), .int (nI ld), .int (nI gm), .ref (rA 38), .ref (rA 39), .ref (rA 40), .ref (rA 41), .ref (rA 42), .ref (rA 43), .ref (rA 44), .ref (rA 45), .int (nI my), .ref (rA 47)], ia (rA 2) (rK9 2) 4 (fun i => nI (zs i))]) hP hD rfl hS hA [0, 1] (by decide +kernel) rfl
        have hK9 := hK.sub (tys' := []) [] rfl
        refine W.widen (k := 0) (n := 0) (by exact Nat.le_of_ble_eq_true rfl) (by exact Nat.le_of_ble_eq_true rfl) ?_
        exact W.zret (v := 0) (ty := .boolean) hx hb hr (by decide) (fun t9 ht9 hW => ⟨⟨0, (), rfl, by rw [if_neg (fun q => q.2.2.1 c3)], by rw [ht9]; exact hP9, va_K.moved hW.alike hK9, hD9⟩, hS.F ht9⟩) hS.2.2 d_Ref_isAction_31
      · skip
        obtain ⟨k, hk, ek⟩ := nI_of c3
        subst ek
        replace hl : lv_has ls 3 [(0, .ref ra), (1, .int (nI j)), (2, .int (nI k))] := hl
        refine tp_pc (pc' := 16) (by rfl) ?_
        refine lv_iload_n hx hb d_Ref_isAction_16 rfl (lv_at hl 2 rfl) ?_
        refine lv_aload_n hx hb d_Ref_isAction_17 rfl (lv_at hl 0 rfl) ?_
        refine va_get (D := (dC, dI)) (ci := 8) (v := .ref (rA 2)) (C := R_Ref) (T := F_Ref) (N := 48) hx hb hw i_Ref hown hK hP 0 rfl rfl 2 (by decide) (hw _ m_901) (fun _ h9 => h9) rfl d_Ref_isAction_18 ?_
        refine lv_iload_n hx hb d_Ref_isAction_21 rfl (lv_at hl 1 rfl) ?_
        refine va_iald (D := (dC, dI)) hx hb hK hP 1 0 rfl rfl (i := nI j) (pk_in j 4 (by omega)) d_Ref_isAction_22 ?_
        refine tp_i (y := nI (zs j)) (by rw [show (nI j : Int32).toNatClampNeg = j from pk_cl j]) ?_
        refine lv_icmp_ge (tgt := 30) hx hb d_Ref_isAction_23 (by decide) (fun c4 => ?_) (fun c4 => ?_)
        · skip
          have hc4 : zs j ≤ k := (nI_leI (a := zs j) (b := k) (by omega) (by omega)).mp c4
          refine tp_pc (pc' := 30) (by rfl) ?_
          refine lv_iconst (v := 0) hx hb d_Ref_isAction_30 (by decide) ?_
          obtain ⟨hP9, hD9, -⟩ := cut3 (wc := [oc ra 8 [.int (nI T), .int (nI Ac), .ref (rA 2), .ref (rA 3), .ref (rA 4), .ref (rA 5), .ref (rA 6), .ref (rA 7), .ref (rA 8), .ref (rA 9), .ref (rA 10), .ref (rA 11), .ref (rA 12), .ref (rA 13), .int ir, .ref (rA 15), .ref (rA 16), .ref (rA 17), .ref (rA 18), .int (nI md), .int (nI wd), .ref (rA 21), .ref (rA 22), .ref (rA 23), .int (nI mn), .ref (rA 25), .int (nI cb), .int mr, .ref (rA 28), .ref (rA 29), .ref (rA 30), .ref (rA 31), .ref (rA 32), .ref (rA 33), .ref (rA 34), .ref (rA 35), .int (nI ld), .int (nI gm), .ref (rA 38), .ref (rA 39), .ref (rA 40), .ref (rA 41), .ref (rA 42), .ref (rA 43), .ref (rA 44), .ref (rA 45), .int (nI my), .ref (rA 47)], ia (rA 2) (rK9 2) 4 (fun i => nI (zs i))]) hP hD rfl hS hA [0, 1] (by decide +kernel) rfl
          have hK9 := hK.sub (tys' := []) [] rfl
          refine W.widen (k := 0) (n := 0) (by exact Nat.le_of_ble_eq_true rfl) (by exact Nat.le_of_ble_eq_true rfl) ?_
          exact W.zret (v := 0) (ty := .boolean) hx hb hr (by decide) (fun t9 ht9 hW => ⟨⟨0, (), rfl, by rw [if_neg (fun q => absurd q.2.2.2 (by rw [nI_clamp hj, nI_clamp hk]; omega))], by rw [ht9]; exact hP9, va_K.moved hW.alike hK9, hD9⟩, hS.F ht9⟩) hS.2.2 d_Ref_isAction_31
        · skip
          have hc4 : ¬ (zs j ≤ k) := fun q9 => c4 ((nI_leI (a := zs j) (b := k) (by omega) (by omega)).mpr q9)
          refine tp_pc (pc' := 26) (by rfl) ?_
          refine lv_iconst (v := 1) hx hb d_Ref_isAction_26 (by decide) ?_
          refine lv_goto (tgt := 31) hx hb d_Ref_isAction_27 (by decide) ?_
          refine tp_pc (pc' := 31) (by rfl) ?_
          obtain ⟨hP9, hD9, -⟩ := cut3 (wc := [oc ra 8 [.int (nI T), .int (nI Ac), .ref (rA 2), .ref (rA 3), .ref (rA 4), .ref (rA 5), .ref (rA 6), .ref (rA 7), .ref (rA 8), .ref (rA 9), .ref (rA 10), .ref (rA 11), .ref (rA 12), .ref (rA 13), .int ir, .ref (rA 15), .ref (rA 16), .ref (rA 17), .ref (rA 18), .int (nI md), .int (nI wd), .ref (rA 21), .ref (rA 22), .ref (rA 23), .int (nI mn), .ref (rA 25), .int (nI cb), .int mr, .ref (rA 28), .ref (rA 29), .ref (rA 30), .ref (rA 31), .ref (rA 32), .ref (rA 33), .ref (rA 34), .ref (rA 35), .int (nI ld), .int (nI gm), .ref (rA 38), .ref (rA 39), .ref (rA 40), .ref (rA 41), .ref (rA 42), .ref (rA 43), .ref (rA 44), .ref (rA 45), .int (nI my), .ref (rA 47)], ia (rA 2) (rK9 2) 4 (fun i => nI (zs i))]) hP hD rfl hS hA [0, 1] (by decide +kernel) rfl
          have hK9 := hK.sub (tys' := []) [] rfl
          refine W.widen (k := 0) (n := 0) (by exact Nat.le_of_ble_eq_true rfl) (by exact Nat.le_of_ble_eq_true rfl) ?_
          exact W.zret (v := 1) (ty := .boolean) hx hb hr (by decide) (fun t9 ht9 hW => ⟨⟨1, (), rfl, by rw [if_pos ⟨c1, by rw [nI_clamp hj]; omega, c3, by rw [nI_clamp hj, nI_clamp hk]; omega⟩], by rw [ht9]; exact hP9, va_K.moved hW.alike hK9, hD9⟩, hS.F ht9⟩) hS.2.2 d_Ref_isAction_31
