set_option maxHeartbeats 4000000 in
set_option maxRecDepth 100000 in
theorem gen_Program_addAction_no (l : Launch) (dC : Nat → ClassId) (dI : Nat → Nat → Nat) (pa : Nat) (pA : Nat → Nat) (pK : Nat → ClassId) (T Ac : Nat) (pg : Nat → Nat → Nat) (nm : Nat → Int32) (t9x k9 x9 r9 v9 : Int32) (hT : T ≤ 4) (hA7 : Ac ≤ 7) (hno : t9x < 0 ∨ nI T ≤ t9x ∨ Ac = 7) (sz : Nat) : Met l y_Program_addAction w_Program_addAction ({ frames := 0, cells := 0, slots := 0, locals := 0 }) (va_Pc [.ref pa, .int t9x, .int k9, .int x9, .int r9, .int v9] (fun U => U.heap.size = sz ∧ va_P (dC, dI) classes [oc pa 0 [.ref (pA 0), .ref (pA 1), .ref (pA 2), .ref (pA 3), .ref (pA 4), .ref (pA 5), .ref (pA 6), .ref (pA 7), .ref (pA 8), .ref (pA 9), .ref (pA 10), .int (nI T), .int (nI Ac)]] U.heap ∧ va_K (dC, dI) classes [] U ∧ va_D (fun _ => True) [oc pa 0 [.ref (pA 0), .ref (pA 1), .ref (pA 2), .ref (pA 3), .ref (pA 4), .ref (pA 5), .ref (pA 6), .ref (pA 7), .ref (pA 8), .ref (pA 9), .ref (pA 10), .int (nI T), .int (nI Ac)]] ∧ nw U)) (va_Qi (fun (r : Int32) (_ : Unit) => r = -1) (fun _ t9 => va_P (dC, dI) classes [oc pa 0 [.ref (pA 0), .ref (pA 1), .ref (pA 2), .ref (pA 3), .ref (pA 4), .ref (pA 5), .ref (pA 6), .ref (pA 7), .ref (pA 8), .ref (pA 9), .ref (pA 10), .int (nI T), .int (nI Ac)]] t9.heap ∧ va_K (dC, dI) classes [] t9 ∧ va_D (va_A [oc pa 0 [.ref (pA 0), .ref (pA 1), .ref (pA 2), .ref (pA 3), .ref (pA 4), .ref (pA 5), .ref (pA 6), .ref (pA 7), .ref (pA 8), .ref (pA 9), .ref (pA 10), .int (nI T), .int (nI Ac)]] sz) [oc pa 0 [.ref (pA 0), .ref (pA 1), .ref (pA 2), .ref (pA 3), .ref (pA 4), .ref (pA 5), .ref (pA 6), .ref (pA 7), .ref (pA 8), .ref (pA 9), .ref (pA 10), .int (nI T), .int (nI Ac)]]) (va_A [oc pa 0 [.ref (pA 0), .ref (pA 1), .ref (pA 2), .ref (pA 3), .ref (pA 4), .ref (pA 5), .ref (pA 6), .ref (pA 7), .ref (pA 8), .ref (pA 9), .ref (pA 10), .int (nI T), .int (nI Ac)]] sz)) 0 0 (va_A [oc pa 0 [.ref (pA 0), .ref (pA 1), .ref (pA 2), .ref (pA 3), .ref (pA 4), .ref (pA 5), .ref (pA 6), .ref (pA 7), .ref (pA 8), .ref (pA 9), .ref (pA 10), .int (nI T), .int (nI Ac)]] sz) := by
  refine Met.ofW (cc := b_Program_addAction) (maxL := 8) (ret := (some .int)) (by decide) rfl ?_
  intro p e0 s m args below meth c s₁ B hml hv
  obtain ⟨rfl, hsz, hP, hK, hD0, hn⟩ := hv
  have hx := B.exec
  have hb := B.bytes
  have hr := B.returns
  have hw := fun w (h : w ∈ wt) => atoms_spec (ws := w_Program_addAction) B.pre w (List.mem_cons_of_mem _ h)
  have hown : s.vm.findClass R_Program = some m.cls := findClass_of_methodNamed B.named
  have hlocks := B.notSynchronized
  subst hsz
  have hD1 := hD0.self (sz := s.heap.size)
  generalize hAe : va_A [oc pa 0 [.ref (pA 0), .ref (pA 1), .ref (pA 2), .ref (pA 3), .ref (pA 4), .ref (pA 5), .ref (pA 6), .ref (pA 7), .ref (pA 8), .ref (pA 9), .ref (pA 10), .int (nI T), .int (nI Ac)]] s.heap.size = A at hD1 ⊢
  have hA : ∀ q : Nat, s.heap.size ≤ q → A q := fun q h => by rw [← hAe]; exact Or.inr h
  have hD : dd A [pa] := dd_of hD1 rfl
  clear hAe hD0 hD1
  have hS : va_S A s.heap s.heap [] := va_S.rf
  replace hP : va_P (dC, dI) classes [oc pa 0 [.ref (pA 0), .ref (pA 1), .ref (pA 2), .ref (pA 3), .ref (pA 4), .ref (pA 5), .ref (pA 6), .ref (pA 7), .ref (pA 8), .ref (pA 9), .ref (pA 10), .int (nI T), .int (nI Ac)]] s.heap := hP
  have hl := lv_entry ([.ref pa, .int t9x, .int k9, .int x9, .int r9, .int v9]) (n := 8) (Nat.le_of_ble_eq_true rfl)
  rw [lg_entry_eq]
  generalize (lg_sl ([.ref pa, .int t9x, .int k9, .int x9, .int r9, .int v9]) ++ List.replicate (8 - (lg_sl ([.ref pa, .int t9x, .int k9, .int x9, .int r9, .int v9])).length) Slot.unset).toArray = ls at hl ⊢
  replace hl : lv_has ls 8 [(0, .ref pa), (1, .int t9x), (2, .int k9), (3, .int x9), (4, .int r9), (5, .int v9)] := hl
  refine lv_iload_n hx hb d_Program_addAction_0 rfl (lv_at hl 1 rfl) ?_
  refine lv_if_lt (tgt := 21) hx hb d_Program_addAction_1 (by decide) (fun c1 => ?_) (fun c1 => ?_)
  · skip
    refine tp_pc (pc' := 21) (by rfl) ?_
    refine lv_iconst (v := (-1)) hx hb d_Program_addAction_21 (by decide) ?_
    obtain ⟨hP9, hD9, -⟩ := cut3 (wc := [oc pa 0 [.ref (pA 0), .ref (pA 1), .ref (pA 2), .ref (pA 3), .ref (pA 4), .ref (pA 5), .ref (pA 6), .ref (pA 7), .ref (pA 8), .ref (pA 9), .ref (pA 10), .int (nI T), .int (nI Ac)]]) hP hD rfl hS hA [0] (by decide +kernel) rfl
    have hK9 := hK.sub (tys' := []) [] rfl
    refine W.widen (k := 0) (n := 0) (by exact Nat.le_of_ble_eq_true rfl) (by exact Nat.le_of_ble_eq_true rfl) ?_
    exact W.iret (v := (-1)) hx hb hr (fun t9 ht9 hW => ⟨⟨(-1), (), rfl, rfl, by rw [ht9]; exact hP9, va_K.moved hW.alike hK9, hD9⟩, hS.F ht9⟩) hS.2.2 d_Program_addAction_22
  · skip
    refine tp_pc (pc' := 4) (by rfl) ?_
    refine lv_iload_n hx hb d_Program_addAction_4 rfl (lv_at hl 1 rfl) ?_
    refine lv_aload_n hx hb d_Program_addAction_5 rfl (lv_at hl 0 rfl) ?_
    refine va_get (D := (dC, dI)) (ci := 0) (v := .int (nI T)) (C := R_Program) (T := F_Program) (N := 13) hx hb hw i_Program hown hK hP 0 rfl rfl 11 (by decide) (hw _ m_160) (fun _ h9 => h9) rfl d_Program_addAction_6 ?_
    refine lv_icmp_ge (tgt := 21) hx hb d_Program_addAction_9 (by decide) (fun c2 => ?_) (fun c2 => ?_)
    · skip
      refine tp_pc (pc' := 21) (by rfl) ?_
      refine lv_iconst (v := (-1)) hx hb d_Program_addAction_21 (by decide) ?_
      obtain ⟨hP9, hD9, -⟩ := cut3 (wc := [oc pa 0 [.ref (pA 0), .ref (pA 1), .ref (pA 2), .ref (pA 3), .ref (pA 4), .ref (pA 5), .ref (pA 6), .ref (pA 7), .ref (pA 8), .ref (pA 9), .ref (pA 10), .int (nI T), .int (nI Ac)]]) hP hD rfl hS hA [0] (by decide +kernel) rfl
      have hK9 := hK.sub (tys' := []) [] rfl
      refine W.widen (k := 0) (n := 0) (by exact Nat.le_of_ble_eq_true rfl) (by exact Nat.le_of_ble_eq_true rfl) ?_
      exact W.iret (v := (-1)) hx hb hr (fun t9 ht9 hW => ⟨⟨(-1), (), rfl, rfl, by rw [ht9]; exact hP9, va_K.moved hW.alike hK9, hD9⟩, hS.F ht9⟩) hS.2.2 d_Program_addAction_22
    · skip
      refine tp_pc (pc' := 12) (by rfl) ?_
      refine lv_aload_n hx hb d_Program_addAction_12 rfl (lv_at hl 0 rfl) ?_
      refine va_get (D := (dC, dI)) (ci := 0) (v := .int (nI Ac)) (C := R_Program) (T := F_Program) (N := 13) hx hb hw i_Program hown hK hP 0 rfl rfl 12 (by decide) (hw _ m_165) (fun _ h9 => h9) rfl d_Program_addAction_13 ?_
      refine lv_bipush (v := 7) hx hb d_Program_addAction_16 (by decide) ?_
      refine lv_icmp_lt (tgt := 23) hx hb d_Program_addAction_18 (by decide) (fun c9 => absurd ((nI_ltI (a := Ac) (b := 7) (by omega) (by omega)).mp c9) (by rcases hno with h | h | h; (exact absurd h c1); (exact absurd h c2); (omega))) (fun c9 => ?_)
      refine tp_pc (pc' := 21) (by rfl) ?_
      refine lv_iconst (v := (-1)) hx hb d_Program_addAction_21 (by decide) ?_
      obtain ⟨hP9, hD9, -⟩ := cut3 (wc := [oc pa 0 [.ref (pA 0), .ref (pA 1), .ref (pA 2), .ref (pA 3), .ref (pA 4), .ref (pA 5), .ref (pA 6), .ref (pA 7), .ref (pA 8), .ref (pA 9), .ref (pA 10), .int (nI T), .int (nI Ac)]]) hP hD rfl hS hA [0] (by decide +kernel) rfl
      have hK9 := hK.sub (tys' := []) [] rfl
      refine W.widen (k := 0) (n := 0) (by exact Nat.le_of_ble_eq_true rfl) (by exact Nat.le_of_ble_eq_true rfl) ?_
      exact W.iret (v := (-1)) hx hb hr (fun t9 ht9 hW => ⟨⟨(-1), (), rfl, rfl, by rw [ht9]; exact hP9, va_K.moved hW.alike hK9, hD9⟩, hS.F ht9⟩) hS.2.2 d_Program_addAction_22
