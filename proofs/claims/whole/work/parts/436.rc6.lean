set_option maxHeartbeats 4000000 in
set_option maxRecDepth 100000 in
theorem gen_Ref_isModel (l : Launch) (dC : Nat → ClassId) (dI : Nat → Nat → Nat) (mx : Int32)  (sz : Nat) : Met l y_Ref_isModel w_Ref_isModel ({ frames := 0, cells := 0, slots := 0, locals := 0 }) (va_Pc [.int mx] (fun U => U.heap.size = sz ∧ va_P (dC, dI) classes [] U.heap ∧ va_K (dC, dI) classes [] U ∧ va_D (fun _ => True) [] ∧ nw U)) (va_Qi (fun (r : Int32) (_ : Unit) => r = if ¬ mx < 0 ∧ mx.toNatClampNeg < 4 then 1 else 0) (fun _ t9 => va_P (dC, dI) classes [] t9.heap ∧ va_K (dC, dI) classes [] t9 ∧ va_D (va_A [] sz) []) (va_A [] sz)) 0 0 (va_A [] sz) := by
  refine Met.ofW (cc := b_Ref_isModel) (maxL := 1) (ret := (some .boolean)) (by decide) rfl ?_
  intro p e0 s m args below meth c s₁ B hml hv
  obtain ⟨rfl, hsz, hP, hK, hD0, hn⟩ := hv
  have hx := B.exec
  have hb := B.bytes
  have hr := B.returns
  have hw := fun w (h : w ∈ wt) => atoms_spec (ws := w_Ref_isModel) B.pre w (List.mem_cons_of_mem _ h)
  have hown : s.vm.findClass R_Ref = some m.cls := findClass_of_methodNamed B.named
  have hlocks := B.notSynchronized
  subst hsz
  have hD1 := hD0.self (sz := s.heap.size)
  generalize hAe : va_A [] s.heap.size = A at hD1 ⊢
  have hA : ∀ q : Nat, s.heap.size ≤ q → A q := fun q h => by rw [← hAe]; exact Or.inr h
  have hD : dd A [] := dd_of hD1 rfl
  clear hAe hD0 hD1
  have hS : va_S A s.heap s.heap [] := va_S.rf
  replace hP : va_P (dC, dI) classes [] s.heap := hP
  have hl := lv_entry ([.int mx]) (n := 1) (Nat.le_of_ble_eq_true rfl)
  rw [lg_entry_eq]
  generalize (lg_sl ([.int mx]) ++ List.replicate (1 - (lg_sl ([.int mx])).length) Slot.unset).toArray = ls at hl ⊢
  replace hl : lv_has ls 1 [(0, .int mx)] := hl
  refine lv_iload_n hx hb d_Ref_isModel_0 rfl (lv_at hl 0 rfl) ?_
  refine lv_if_lt (tgt := 13) hx hb d_Ref_isModel_1 (by decide) (fun c1 => ?_) (fun c1 => ?_)
  · skip
    refine tp_pc (pc' := 13) (by rfl) ?_
    refine lv_iconst (v := 0) hx hb d_Ref_isModel_13 (by decide) ?_
    obtain ⟨hP9, hD9, -⟩ := cut3 (wc := []) hP hD rfl hS hA [] (by decide +kernel) rfl
    have hK9 := hK.sub (tys' := []) [] rfl
    refine W.widen (k := 0) (n := 0) (by exact Nat.le_of_ble_eq_true rfl) (by exact Nat.le_of_ble_eq_true rfl) ?_
    exact W.zret (v := 0) (ty := .boolean) hx hb hr (by decide) (fun t9 ht9 hW => ⟨⟨0, (), rfl, by rw [if_neg (fun q => q.1 c1)], by rw [ht9]; exact hP9, va_K.moved hW.alike hK9, hD9⟩, hS.F ht9⟩) hS.2.2 d_Ref_isModel_14
  · skip
    obtain ⟨j, hj, ej⟩ := nI_of c1
    subst ej
    replace hl : lv_has ls 1 [(0, .int (nI j))] := hl
    refine tp_pc (pc' := 4) (by rfl) ?_
    refine lv_iload_n hx hb d_Ref_isModel_4 rfl (lv_at hl 0 rfl) ?_
    refine lv_iconst (v := 3) hx hb d_Ref_isModel_5 (by decide) ?_
    refine lv_icmp_gt (tgt := 13) hx hb d_Ref_isModel_6 (by decide) (fun c2 => ?_) (fun c2 => ?_)
    · skip
      have hc2 : 3 < j := (nI_ltI (a := 3) (b := j) (by omega) (by omega)).mp c2
      refine tp_pc (pc' := 13) (by rfl) ?_
      refine lv_iconst (v := 0) hx hb d_Ref_isModel_13 (by decide) ?_
      obtain ⟨hP9, hD9, -⟩ := cut3 (wc := []) hP hD rfl hS hA [] (by decide +kernel) rfl
      have hK9 := hK.sub (tys' := []) [] rfl
      refine W.widen (k := 0) (n := 0) (by exact Nat.le_of_ble_eq_true rfl) (by exact Nat.le_of_ble_eq_true rfl) ?_
      exact W.zret (v := 0) (ty := .boolean) hx hb hr (by decide) (fun t9 ht9 hW => ⟨⟨0, (), rfl, by rw [if_neg (fun q => absurd q.2 (by rw [nI_clamp hj]; omega))], by rw [ht9]; exact hP9, va_K.moved hW.alike hK9, hD9⟩, hS.F ht9⟩) hS.2.2 d_Ref_isModel_14
    · skip
      have hc2 : ¬ (3 < j) := fun q9 => c2 ((nI_ltI (a := 3) (b := j) (by omega) (by omega)).mpr q9)
      refine tp_pc (pc' := 9) (by rfl) ?_
      refine lv_iconst (v := 1) hx hb d_Ref_isModel_9 (by decide) ?_
      refine lv_goto (tgt := 14) hx hb d_Ref_isModel_10 (by decide) ?_
      refine tp_pc (pc' := 14) (by rfl) ?_
      obtain ⟨hP9, hD9, -⟩ := cut3 (wc := []) hP hD rfl hS hA [] (by decide +kernel) rfl
      have hK9 := hK.sub (tys' := []) [] rfl
      refine W.widen (k := 0) (n := 0) (by exact Nat.le_of_ble_eq_true rfl) (by exact Nat.le_of_ble_eq_true rfl) ?_
      exact W.zret (v := 1) (ty := .boolean) hx hb hr (by decide) (fun t9 ht9 hW => ⟨⟨1, (), rfl, by rw [if_pos ⟨c1, by rw [nI_clamp hj]; omega⟩], by rw [ht9]; exact hP9, va_K.moved hW.alike hK9, hD9⟩, hS.F ht9⟩) hS.2.2 d_Ref_isModel_14
