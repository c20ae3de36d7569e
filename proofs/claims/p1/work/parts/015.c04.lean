set_option maxHeartbeats 4000000 in
set_option maxRecDepth 100000 in
theorem c_OM_isAction (l : Launch) (dC : Nat → ClassId) (dI : Nat → Nat → Nat) (p0 : Int32) (p1 : Int32) (p2 : Int32) (p3 : Int32) (sz : Nat) : Met l y_OM_isAction w_OM_isAction ({ frames := 0, cells := 0, slots := 0, locals := 0 }) (va_Pc [.int p0, .int p1, .int p2, .int p3] (fun U => U.heap.size = sz ∧ va_P (dC, dI) classes [] U.heap ∧ va_K (dC, dI) classes [] U ∧ va_D (fun _ => True) [] ∧ nw U)) (va_Qi (fun (r : Int32) (_ : Unit) => True) (fun _ t => va_P (dC, dI) classes [] t.heap ∧ va_K (dC, dI) classes [] t ∧ va_D (va_A [] sz) []) (va_A [] sz)) 0 0 (va_A [] sz) := by
  refine Met.ofW (cc := b_OM_isAction) (maxL := 7) (ret := (some .boolean)) (by decide) rfl ?_
  intro p e s m args below meth c s₁ B hml hv
  obtain ⟨rfl, hsz, hP, hK, hD0, hn⟩ := hv
  have hx := B.exec
  have hb := B.bytes
  have hr := B.returns
  have hw := fun w (h : w ∈ wt) => atoms_spec (ws := w_OM_isAction) B.pre w (List.mem_cons_of_mem _ h)
  have hown : s.vm.findClass R_OM = some m.cls := findClass_of_methodNamed B.named
  have hlocks := B.notSynchronized
  subst hsz
  have hD1 := hD0.self (sz := s.heap.size)
  generalize hAe : va_A [] s.heap.size = A at hD1 ⊢
  have hA : ∀ q : Nat, s.heap.size ≤ q → A q := fun q h => by rw [← hAe]; exact Or.inr h
  have hD : dd A [] := dd_of hD1 rfl
  clear hAe hD0 hD1
  have hS : va_S A s.heap s.heap [] := va_S.rf
  replace hP : va_P (dC, dI) classes [] s.heap := hP
  have hl := lv_entry ([.int p0, .int p1, .int p2, .int p3]) (n := 7) (Nat.le_of_ble_eq_true rfl)
  rw [lg_entry_eq]
  generalize (lg_sl ([.int p0, .int p1, .int p2, .int p3]) ++ List.replicate (7 - (lg_sl ([.int p0, .int p1, .int p2, .int p3])).length) Slot.unset).toArray = ls at hl ⊢
  replace hl : lv_has ls 7 [(0, .int p0), (1, .int p1), (2, .int p2), (3, .int p3)] := hl
  rcases sw_0_5 p0 with rfl | rfl | rfl | rfl | rfl | rfl | hs_1
  · skip
    refine lv_iload_n hx hb d_OM_isAction_0 rfl (lv_at hl 1 rfl) ?_
    refine lv_if_lt (tgt := 13) hx hb d_OM_isAction_1 (by decide) (fun c_2 => ?_) (fun c_2 => ?_)
    · skip
      refine lv_iconst (v := 0) hx hb d_OM_isAction_13 (by decide) ?_
      refine lv_istore (lv' := [(4, .int 0), (0, .int 0), (1, .int p1), (2, .int p2), (3, .int p3)]) hx hb d_OM_isAction_14 hl (by decide) rfl ?_
      clear hl ls
      intro ls hl
      refine lv_iload_n hx hb d_OM_isAction_16 rfl (lv_at hl 3 rfl) ?_
      refine lv_if_lt (tgt := 29) hx hb d_OM_isAction_17 (by decide) (fun c_3 => ?_) (fun c_3 => ?_)
      · skip
        refine lv_iconst (v := 0) hx hb d_OM_isAction_29 (by decide) ?_
        refine lv_istore (lv' := [(5, .int 0), (4, .int 0), (0, .int 0), (1, .int p1), (2, .int p2), (3, .int p3)]) hx hb d_OM_isAction_30 hl (by decide) rfl ?_
        clear hl ls
        intro ls hl
        refine lv_iload_n hx hb d_OM_isAction_32 rfl (lv_at hl 5 rfl) ?_
        refine lv_bipush (v := (-9)) hx hb d_OM_isAction_33 (by decide) ?_
        refine lv_icmp_lt (tgt := 48) hx hb d_OM_isAction_35 (by decide) (fun c_4 => ?_) (fun c_4 => ?_)
        · skip
          refine lv_iconst (v := 0) hx hb d_OM_isAction_48 (by decide) ?_
          refine lv_istore (lv' := [(6, .int 0), (5, .int 0), (4, .int 0), (0, .int 0), (1, .int p1), (2, .int p2), (3, .int p3)]) hx hb d_OM_isAction_49 hl (by decide) rfl ?_
          clear hl ls
          intro ls hl
          refine lv_iload_n hx hb d_OM_isAction_51 rfl (lv_at hl 3 rfl) ?_
          refine lv_tableIn (x := 0) (tgt := 92) hx hb d_OM_isAction_52 (by decide) (by decide) (by rfl) (by decide) ?_
          refine tp_pc (pc' := 92) (by rfl) ?_
          refine lv_iload hx hb d_OM_isAction_92 (lv_at hl 2 rfl) ?_
          refine lv_if_eq (tgt := 110) hx hb d_OM_isAction_94 (by decide) (fun c_5 => ?_) (fun c_5 => absurd c_5 (by decide))
          refine tp_pc (pc' := 110) (by rfl) ?_
          refine lv_iconst (v := 0) hx hb d_OM_isAction_110 (by decide) ?_
          obtain ⟨hP9, hD9, -⟩ := cut3 (wc := []) hP hD rfl hS hA [] (by decide +kernel) rfl
          have hK9 := hK.sub (tys' := []) [] rfl
          refine W.widen (k := 0) (n := 0) (by exact Nat.le_of_ble_eq_true rfl) (by exact Nat.le_of_ble_eq_true rfl) ?_
          exact W.zret (v := 0) (ty := .boolean) hx hb hr (by decide) (fun t ht hW => ⟨⟨0, (), rfl, trivial, by rw [ht]; exact hP9, va_K.moved hW.alike hK9, hD9⟩, hS.F ht⟩) hS.2.2 d_OM_isAction_111
        · skip
          refine lv_iload_n hx hb d_OM_isAction_38 rfl (lv_at hl 5 rfl) ?_
          refine lv_bipush (v := 9) hx hb d_OM_isAction_39 (by decide) ?_
          refine lv_icmp_gt (tgt := 48) hx hb d_OM_isAction_41 (by decide) (fun c_6 => ?_) (fun c_6 => ?_)
          · skip
            refine lv_iconst (v := 0) hx hb d_OM_isAction_48 (by decide) ?_
            refine lv_istore (lv' := [(6, .int 0), (5, .int 0), (4, .int 0), (0, .int 0), (1, .int p1), (2, .int p2), (3, .int p3)]) hx hb d_OM_isAction_49 hl (by decide) rfl ?_
            clear hl ls
            intro ls hl
            refine lv_iload_n hx hb d_OM_isAction_51 rfl (lv_at hl 3 rfl) ?_
            refine lv_tableIn (x := 0) (tgt := 92) hx hb d_OM_isAction_52 (by decide) (by decide) (by rfl) (by decide) ?_
            refine tp_pc (pc' := 92) (by rfl) ?_
            refine lv_iload hx hb d_OM_isAction_92 (lv_at hl 2 rfl) ?_
            refine lv_if_eq (tgt := 110) hx hb d_OM_isAction_94 (by decide) (fun c_7 => ?_) (fun c_7 => absurd c_7 (by decide))
            refine tp_pc (pc' := 110) (by rfl) ?_
            refine lv_iconst (v := 0) hx hb d_OM_isAction_110 (by decide) ?_
            obtain ⟨hP9, hD9, -⟩ := cut3 (wc := []) hP hD rfl hS hA [] (by decide +kernel) rfl
            have hK9 := hK.sub (tys' := []) [] rfl
            refine W.widen (k := 0) (n := 0) (by exact Nat.le_of_ble_eq_true rfl) (by exact Nat.le_of_ble_eq_true rfl) ?_
            exact W.zret (v := 0) (ty := .boolean) hx hb hr (by decide) (fun t ht hW => ⟨⟨0, (), rfl, trivial, by rw [ht]; exact hP9, va_K.moved hW.alike hK9, hD9⟩, hS.F ht⟩) hS.2.2 d_OM_isAction_111
          · skip
            refine lv_iconst (v := 1) hx hb d_OM_isAction_44 (by decide) ?_
            refine lv_goto (tgt := 49) hx hb d_OM_isAction_45 (by decide) ?_
            refine tp_pc (pc' := 49) (by rfl) ?_
            refine lv_istore (lv' := [(6, .int 1), (5, .int 0), (4, .int 0), (0, .int 0), (1, .int p1), (2, .int p2), (3, .int p3)]) hx hb d_OM_isAction_49 hl (by decide) rfl ?_
            clear hl ls
            intro ls hl
            refine lv_iload_n hx hb d_OM_isAction_51 rfl (lv_at hl 3 rfl) ?_
            refine lv_tableIn (x := 0) (tgt := 92) hx hb d_OM_isAction_52 (by decide) (by decide) (by rfl) (by decide) ?_
            refine tp_pc (pc' := 92) (by rfl) ?_
            refine lv_iload hx hb d_OM_isAction_92 (lv_at hl 2 rfl) ?_
            refine lv_if_eq (tgt := 110) hx hb d_OM_isAction_94 (by decide) (fun c_8 => ?_) (fun c_8 => absurd c_8 (by decide))
            refine tp_pc (pc' := 110) (by rfl) ?_
            refine lv_iconst (v := 0) hx hb d_OM_isAction_110 (by decide) ?_
            obtain ⟨hP9, hD9, -⟩ := cut3 (wc := []) hP hD rfl hS hA [] (by decide +kernel) rfl
            have hK9 := hK.sub (tys' := []) [] rfl
            refine W.widen (k := 0) (n := 0) (by exact Nat.le_of_ble_eq_true rfl) (by exact Nat.le_of_ble_eq_true rfl) ?_
            exact W.zret (v := 0) (ty := .boolean) hx hb hr (by decide) (fun t ht hW => ⟨⟨0, (), rfl, trivial, by rw [ht]; exact hP9, va_K.moved hW.alike hK9, hD9⟩, hS.F ht⟩) hS.2.2 d_OM_isAction_111
      · skip
        refine lv_iload_n hx hb d_OM_isAction_20 rfl (lv_at hl 3 rfl) ?_
        refine lv_iconst (v := 2) hx hb d_OM_isAction_21 (by decide) ?_
        refine lv_icmp_ge (tgt := 29) hx hb d_OM_isAction_22 (by decide) (fun c_9 => ?_) (fun c_9 => ?_)
        · skip
          refine lv_iconst (v := 0) hx hb d_OM_isAction_29 (by decide) ?_
          refine lv_istore (lv' := [(5, .int 0), (4, .int 0), (0, .int 0), (1, .int p1), (2, .int p2), (3, .int p3)]) hx hb d_OM_isAction_30 hl (by decide) rfl ?_
          clear hl ls
          intro ls hl
          refine lv_iload_n hx hb d_OM_isAction_32 rfl (lv_at hl 5 rfl) ?_
          refine lv_bipush (v := (-9)) hx hb d_OM_isAction_33 (by decide) ?_
          refine lv_icmp_lt (tgt := 48) hx hb d_OM_isAction_35 (by decide) (fun c_10 => ?_) (fun c_10 => ?_)
          · skip
            refine lv_iconst (v := 0) hx hb d_OM_isAction_48 (by decide) ?_
            refine lv_istore (lv' := [(6, .int 0), (5, .int 0), (4, .int 0), (0, .int 0), (1, .int p1), (2, .int p2), (3, .int p3)]) hx hb d_OM_isAction_49 hl (by decide) rfl ?_
            clear hl ls
            intro ls hl
            refine lv_iload_n hx hb d_OM_isAction_51 rfl (lv_at hl 3 rfl) ?_
            refine lv_tableIn (x := 0) (tgt := 92) hx hb d_OM_isAction_52 (by decide) (by decide) (by rfl) (by decide) ?_
            refine tp_pc (pc' := 92) (by rfl) ?_
            refine lv_iload hx hb d_OM_isAction_92 (lv_at hl 2 rfl) ?_
            refine lv_if_eq (tgt := 110) hx hb d_OM_isAction_94 (by decide) (fun c_11 => ?_) (fun c_11 => absurd c_11 (by decide))
            refine tp_pc (pc' := 110) (by rfl) ?_
            refine lv_iconst (v := 0) hx hb d_OM_isAction_110 (by decide) ?_
            obtain ⟨hP9, hD9, -⟩ := cut3 (wc := []) hP hD rfl hS hA [] (by decide +kernel) rfl
            have hK9 := hK.sub (tys' := []) [] rfl
            refine W.widen (k := 0) (n := 0) (by exact Nat.le_of_ble_eq_true rfl) (by exact Nat.le_of_ble_eq_true rfl) ?_
            exact W.zret (v := 0) (ty := .boolean) hx hb hr (by decide) (fun t ht hW => ⟨⟨0, (), rfl, trivial, by rw [ht]; exact hP9, va_K.moved hW.alike hK9, hD9⟩, hS.F ht⟩) hS.2.2 d_OM_isAction_111
          · skip
            refine lv_iload_n hx hb d_OM_isAction_38 rfl (lv_at hl 5 rfl) ?_
            refine lv_bipush (v := 9) hx hb d_OM_isAction_39 (by decide) ?_
            refine lv_icmp_gt (tgt := 48) hx hb d_OM_isAction_41 (by decide) (fun c_12 => ?_) (fun c_12 => ?_)
            · skip
              refine lv_iconst (v := 0) hx hb d_OM_isAction_48 (by decide) ?_
              refine lv_istore (lv' := [(6, .int 0), (5, .int 0), (4, .int 0), (0, .int 0), (1, .int p1), (2, .int p2), (3, .int p3)]) hx hb d_OM_isAction_49 hl (by decide) rfl ?_
              clear hl ls
              intro ls hl
              refine lv_iload_n hx hb d_OM_isAction_51 rfl (lv_at hl 3 rfl) ?_
              refine lv_tableIn (x := 0) (tgt := 92) hx hb d_OM_isAction_52 (by decide) (by decide) (by rfl) (by decide) ?_
              refine tp_pc (pc' := 92) (by rfl) ?_
              refine lv_iload hx hb d_OM_isAction_92 (lv_at hl 2 rfl) ?_
              refine lv_if_eq (tgt := 110) hx hb d_OM_isAction_94 (by decide) (fun c_13 => ?_) (fun c_13 => absurd c_13 (by decide))
              refine tp_pc (pc' := 110) (by rfl) ?_
              refine lv_iconst (v := 0) hx hb d_OM_isAction_110 (by decide) ?_
              obtain ⟨hP9, hD9, -⟩ := cut3 (wc := []) hP hD rfl hS hA [] (by decide +kernel) rfl
              have hK9 := hK.sub (tys' := []) [] rfl
              refine W.widen (k := 0) (n := 0) (by exact Nat.le_of_ble_eq_true rfl) (by exact Nat.le_of_ble_eq_true rfl) ?_
              exact W.zret (v := 0) (ty := .boolean) hx hb hr (by decide) (fun t ht hW => ⟨⟨0, (), rfl, trivial, by rw [ht]; exact hP9, va_K.moved hW.alike hK9, hD9⟩, hS.F ht⟩) hS.2.2 d_OM_isAction_111
            · skip
              refine lv_iconst (v := 1) hx hb d_OM_isAction_44 (by decide) ?_
              refine lv_goto (tgt := 49) hx hb d_OM_isAction_45 (by decide) ?_
              refine tp_pc (pc' := 49) (by rfl) ?_
              refine lv_istore (lv' := [(6, .int 1), (5, .int 0), (4, .int 0), (0, .int 0), (1, .int p1), (2, .int p2), (3, .int p3)]) hx hb d_OM_isAction_49 hl (by decide) rfl ?_
              clear hl ls
              intro ls hl
              refine lv_iload_n hx hb d_OM_isAction_51 rfl (lv_at hl 3 rfl) ?_
              refine lv_tableIn (x := 0) (tgt := 92) hx hb d_OM_isAction_52 (by decide) (by decide) (by rfl) (by decide) ?_
              refine tp_pc (pc' := 92) (by rfl) ?_
              refine lv_iload hx hb d_OM_isAction_92 (lv_at hl 2 rfl) ?_
              refine lv_if_eq (tgt := 110) hx hb d_OM_isAction_94 (by decide) (fun c_14 => ?_) (fun c_14 => absurd c_14 (by decide))
              refine tp_pc (pc' := 110) (by rfl) ?_
              refine lv_iconst (v := 0) hx hb d_OM_isAction_110 (by decide) ?_
              obtain ⟨hP9, hD9, -⟩ := cut3 (wc := []) hP hD rfl hS hA [] (by decide +kernel) rfl
              have hK9 := hK.sub (tys' := []) [] rfl
              refine W.widen (k := 0) (n := 0) (by exact Nat.le_of_ble_eq_true rfl) (by exact Nat.le_of_ble_eq_true rfl) ?_
              exact W.zret (v := 0) (ty := .boolean) hx hb hr (by decide) (fun t ht hW => ⟨⟨0, (), rfl, trivial, by rw [ht]; exact hP9, va_K.moved hW.alike hK9, hD9⟩, hS.F ht⟩) hS.2.2 d_OM_isAction_111
        · skip
          refine lv_iconst (v := 1) hx hb d_OM_isAction_25 (by decide) ?_
          refine lv_goto (tgt := 30) hx hb d_OM_isAction_26 (by decide) ?_
          refine tp_pc (pc' := 30) (by rfl) ?_
          refine lv_istore (lv' := [(5, .int 1), (4, .int 0), (0, .int 0), (1, .int p1), (2, .int p2), (3, .int p3)]) hx hb d_OM_isAction_30 hl (by decide) rfl ?_
          clear hl ls
          intro ls hl
          refine lv_iload_n hx hb d_OM_isAction_32 rfl (lv_at hl 5 rfl) ?_
          refine lv_bipush (v := (-9)) hx hb d_OM_isAction_33 (by decide) ?_
          refine lv_icmp_lt (tgt := 48) hx hb d_OM_isAction_35 (by decide) (fun c_15 => ?_) (fun c_15 => ?_)
          · skip
            refine lv_iconst (v := 0) hx hb d_OM_isAction_48 (by decide) ?_
            refine lv_istore (lv' := [(6, .int 0), (5, .int 1), (4, .int 0), (0, .int 0), (1, .int p1), (2, .int p2), (3, .int p3)]) hx hb d_OM_isAction_49 hl (by decide) rfl ?_
            clear hl ls
            intro ls hl
            refine lv_iload_n hx hb d_OM_isAction_51 rfl (lv_at hl 3 rfl) ?_
            refine lv_tableIn (x := 0) (tgt := 92) hx hb d_OM_isAction_52 (by decide) (by decide) (by rfl) (by decide) ?_
            refine tp_pc (pc' := 92) (by rfl) ?_
            refine lv_iload hx hb d_OM_isAction_92 (lv_at hl 2 rfl) ?_
            refine lv_if_eq (tgt := 110) hx hb d_OM_isAction_94 (by decide) (fun c_16 => ?_) (fun c_16 => absurd c_16 (by decide))
            refine tp_pc (pc' := 110) (by rfl) ?_
            refine lv_iconst (v := 0) hx hb d_OM_isAction_110 (by decide) ?_
            obtain ⟨hP9, hD9, -⟩ := cut3 (wc := []) hP hD rfl hS hA [] (by decide +kernel) rfl
            have hK9 := hK.sub (tys' := []) [] rfl
            refine W.widen (k := 0) (n := 0) (by exact Nat.le_of_ble_eq_true rfl) (by exact Nat.le_of_ble_eq_true rfl) ?_
            exact W.zret (v := 0) (ty := .boolean) hx hb hr (by decide) (fun t ht hW => ⟨⟨0, (), rfl, trivial, by rw [ht]; exact hP9, va_K.moved hW.alike hK9, hD9⟩, hS.F ht⟩) hS.2.2 d_OM_isAction_111
          · skip
            refine lv_iload_n hx hb d_OM_isAction_38 rfl (lv_at hl 5 rfl) ?_
            refine lv_bipush (v := 9) hx hb d_OM_isAction_39 (by decide) ?_
            refine lv_icmp_gt (tgt := 48) hx hb d_OM_isAction_41 (by decide) (fun c_17 => ?_) (fun c_17 => ?_)
            · skip
              refine lv_iconst (v := 0) hx hb d_OM_isAction_48 (by decide) ?_
              refine lv_istore (lv' := [(6, .int 0), (5, .int 1), (4, .int 0), (0, .int 0), (1, .int p1), (2, .int p2), (3, .int p3)]) hx hb d_OM_isAction_49 hl (by decide) rfl ?_
              clear hl ls
              intro ls hl
              refine lv_iload_n hx hb d_OM_isAction_51 rfl (lv_at hl 3 rfl) ?_
              refine lv_tableIn (x := 0) (tgt := 92) hx hb d_OM_isAction_52 (by decide) (by decide) (by rfl) (by decide) ?_
              refine tp_pc (pc' := 92) (by rfl) ?_
              refine lv_iload hx hb d_OM_isAction_92 (lv_at hl 2 rfl) ?_
              refine lv_if_eq (tgt := 110) hx hb d_OM_isAction_94 (by decide) (fun c_18 => ?_) (fun c_18 => absurd c_18 (by decide))
              refine tp_pc (pc' := 110) (by rfl) ?_
              refine lv_iconst (v := 0) hx hb d_OM_isAction_110 (by decide) ?_
              obtain ⟨hP9, hD9, -⟩ := cut3 (wc := []) hP hD rfl hS hA [] (by decide +kernel) rfl
              have hK9 := hK.sub (tys' := []) [] rfl
              refine W.widen (k := 0) (n := 0) (by exact Nat.le_of_ble_eq_true rfl) (by exact Nat.le_of_ble_eq_true rfl) ?_
              exact W.zret (v := 0) (ty := .boolean) hx hb hr (by decide) (fun t ht hW => ⟨⟨0, (), rfl, trivial, by rw [ht]; exact hP9, va_K.moved hW.alike hK9, hD9⟩, hS.F ht⟩) hS.2.2 d_OM_isAction_111
            · skip
              refine lv_iconst (v := 1) hx hb d_OM_isAction_44 (by decide) ?_
              refine lv_goto (tgt := 49) hx hb d_OM_isAction_45 (by decide) ?_
              refine tp_pc (pc' := 49) (by rfl) ?_
              refine lv_istore (lv' := [(6, .int 1), (5, .int 1), (4, .int 0), (0, .int 0), (1, .int p1), (2, .int p2), (3, .int p3)]) hx hb d_OM_isAction_49 hl (by decide) rfl ?_
              clear hl ls
              intro ls hl
              refine lv_iload_n hx hb d_OM_isAction_51 rfl (lv_at hl 3 rfl) ?_
              refine lv_tableIn (x := 0) (tgt := 92) hx hb d_OM_isAction_52 (by decide) (by decide) (by rfl) (by decide) ?_
              refine tp_pc (pc' := 92) (by rfl) ?_
              refine lv_iload hx hb d_OM_isAction_92 (lv_at hl 2 rfl) ?_
              refine lv_if_eq (tgt := 110) hx hb d_OM_isAction_94 (by decide) (fun c_19 => ?_) (fun c_19 => absurd c_19 (by decide))
              refine tp_pc (pc' := 110) (by rfl) ?_
              refine lv_iconst (v := 0) hx hb d_OM_isAction_110 (by decide) ?_
              obtain ⟨hP9, hD9, -⟩ := cut3 (wc := []) hP hD rfl hS hA [] (by decide +kernel) rfl
              have hK9 := hK.sub (tys' := []) [] rfl
              refine W.widen (k := 0) (n := 0) (by exact Nat.le_of_ble_eq_true rfl) (by exact Nat.le_of_ble_eq_true rfl) ?_
              exact W.zret (v := 0) (ty := .boolean) hx hb hr (by decide) (fun t ht hW => ⟨⟨0, (), rfl, trivial, by rw [ht]; exact hP9, va_K.moved hW.alike hK9, hD9⟩, hS.F ht⟩) hS.2.2 d_OM_isAction_111
    · skip
      refine lv_iload_n hx hb d_OM_isAction_4 rfl (lv_at hl 1 rfl) ?_
      refine lv_iconst (v := 3) hx hb d_OM_isAction_5 (by decide) ?_
      refine lv_icmp_ge (tgt := 13) hx hb d_OM_isAction_6 (by decide) (fun c_20 => ?_) (fun c_20 => ?_)
      · skip
        refine lv_iconst (v := 0) hx hb d_OM_isAction_13 (by decide) ?_
        refine lv_istore (lv' := [(4, .int 0), (0, .int 0), (1, .int p1), (2, .int p2), (3, .int p3)]) hx hb d_OM_isAction_14 hl (by decide) rfl ?_
        clear hl ls
        intro ls hl
        refine lv_iload_n hx hb d_OM_isAction_16 rfl (lv_at hl 3 rfl) ?_
        refine lv_if_lt (tgt := 29) hx hb d_OM_isAction_17 (by decide) (fun c_21 => ?_) (fun c_21 => ?_)
        · skip
          refine lv_iconst (v := 0) hx hb d_OM_isAction_29 (by decide) ?_
          refine lv_istore (lv' := [(5, .int 0), (4, .int 0), (0, .int 0), (1, .int p1), (2, .int p2), (3, .int p3)]) hx hb d_OM_isAction_30 hl (by decide) rfl ?_
          clear hl ls
          intro ls hl
          refine lv_iload_n hx hb d_OM_isAction_32 rfl (lv_at hl 5 rfl) ?_
          refine lv_bipush (v := (-9)) hx hb d_OM_isAction_33 (by decide) ?_
          refine lv_icmp_lt (tgt := 48) hx hb d_OM_isAction_35 (by decide) (fun c_22 => ?_) (fun c_22 => ?_)
          · skip
            refine lv_iconst (v := 0) hx hb d_OM_isAction_48 (by decide) ?_
            refine lv_istore (lv' := [(6, .int 0), (5, .int 0), (4, .int 0), (0, .int 0), (1, .int p1), (2, .int p2), (3, .int p3)]) hx hb d_OM_isAction_49 hl (by decide) rfl ?_
            clear hl ls
            intro ls hl
            refine lv_iload_n hx hb d_OM_isAction_51 rfl (lv_at hl 3 rfl) ?_
            refine lv_tableIn (x := 0) (tgt := 92) hx hb d_OM_isAction_52 (by decide) (by decide) (by rfl) (by decide) ?_
            refine tp_pc (pc' := 92) (by rfl) ?_
            refine lv_iload hx hb d_OM_isAction_92 (lv_at hl 2 rfl) ?_
            refine lv_if_eq (tgt := 110) hx hb d_OM_isAction_94 (by decide) (fun c_23 => ?_) (fun c_23 => absurd c_23 (by decide))
            refine tp_pc (pc' := 110) (by rfl) ?_
            refine lv_iconst (v := 0) hx hb d_OM_isAction_110 (by decide) ?_
            obtain ⟨hP9, hD9, -⟩ := cut3 (wc := []) hP hD rfl hS hA [] (by decide +kernel) rfl
            have hK9 := hK.sub (tys' := []) [] rfl
            refine W.widen (k := 0) (n := 0) (by exact Nat.le_of_ble_eq_true rfl) (by exact Nat.le_of_ble_eq_true rfl) ?_
            exact W.zret (v := 0) (ty := .boolean) hx hb hr (by decide) (fun t ht hW => ⟨⟨0, (), rfl, trivial, by rw [ht]; exact hP9, va_K.moved hW.alike hK9, hD9⟩, hS.F ht⟩) hS.2.2 d_OM_isAction_111
          · skip
            refine lv_iload_n hx hb d_OM_isAction_38 rfl (lv_at hl 5 rfl) ?_
            refine lv_bipush (v := 9) hx hb d_OM_isAction_39 (by decide) ?_
            refine lv_icmp_gt (tgt := 48) hx hb d_OM_isAction_41 (by decide) (fun c_24 => ?_) (fun c_24 => ?_)
            · skip
              refine lv_iconst (v := 0) hx hb d_OM_isAction_48 (by decide) ?_
              refine lv_istore (lv' := [(6, .int 0), (5, .int 0), (4, .int 0), (0, .int 0), (1, .int p1), (2, .int p2), (3, .int p3)]) hx hb d_OM_isAction_49 hl (by decide) rfl ?_
              clear hl ls
              intro ls hl
              refine lv_iload_n hx hb d_OM_isAction_51 rfl (lv_at hl 3 rfl) ?_
              refine lv_tableIn (x := 0) (tgt := 92) hx hb d_OM_isAction_52 (by decide) (by decide) (by rfl) (by decide) ?_
              refine tp_pc (pc' := 92) (by rfl) ?_
              refine lv_iload hx hb d_OM_isAction_92 (lv_at hl 2 rfl) ?_
              refine lv_if_eq (tgt := 110) hx hb d_OM_isAction_94 (by decide) (fun c_25 => ?_) (fun c_25 => absurd c_25 (by decide))
              refine tp_pc (pc' := 110) (by rfl) ?_
              refine lv_iconst (v := 0) hx hb d_OM_isAction_110 (by decide) ?_
              obtain ⟨hP9, hD9, -⟩ := cut3 (wc := []) hP hD rfl hS hA [] (by decide +kernel) rfl
              have hK9 := hK.sub (tys' := []) [] rfl
              refine W.widen (k := 0) (n := 0) (by exact Nat.le_of_ble_eq_true rfl) (by exact Nat.le_of_ble_eq_true rfl) ?_
              exact W.zret (v := 0) (ty := .boolean) hx hb hr (by decide) (fun t ht hW => ⟨⟨0, (), rfl, trivial, by rw [ht]; exact hP9, va_K.moved hW.alike hK9, hD9⟩, hS.F ht⟩) hS.2.2 d_OM_isAction_111
            · skip
              refine lv_iconst (v := 1) hx hb d_OM_isAction_44 (by decide) ?_
              refine lv_goto (tgt := 49) hx hb d_OM_isAction_45 (by decide) ?_
              refine tp_pc (pc' := 49) (by rfl) ?_
              refine lv_istore (lv' := [(6, .int 1), (5, .int 0), (4, .int 0), (0, .int 0), (1, .int p1), (2, .int p2), (3, .int p3)]) hx hb d_OM_isAction_49 hl (by decide) rfl ?_
              clear hl ls
              intro ls hl
              refine lv_iload_n hx hb d_OM_isAction_51 rfl (lv_at hl 3 rfl) ?_
              refine lv_tableIn (x := 0) (tgt := 92) hx hb d_OM_isAction_52 (by decide) (by decide) (by rfl) (by decide) ?_
              refine tp_pc (pc' := 92) (by rfl) ?_
              refine lv_iload hx hb d_OM_isAction_92 (lv_at hl 2 rfl) ?_
              refine lv_if_eq (tgt := 110) hx hb d_OM_isAction_94 (by decide) (fun c_26 => ?_) (fun c_26 => absurd c_26 (by decide))
              refine tp_pc (pc' := 110) (by rfl) ?_
              refine lv_iconst (v := 0) hx hb d_OM_isAction_110 (by decide) ?_
              obtain ⟨hP9, hD9, -⟩ := cut3 (wc := []) hP hD rfl hS hA [] (by decide +kernel) rfl
              have hK9 := hK.sub (tys' := []) [] rfl
              refine W.widen (k := 0) (n := 0) (by exact Nat.le_of_ble_eq_true rfl) (by exact Nat.le_of_ble_eq_true rfl) ?_
              exact W.zret (v := 0) (ty := .boolean) hx hb hr (by decide) (fun t ht hW => ⟨⟨0, (), rfl, trivial, by rw [ht]; exact hP9, va_K.moved hW.alike hK9, hD9⟩, hS.F ht⟩) hS.2.2 d_OM_isAction_111
        · skip
          refine lv_iload_n hx hb d_OM_isAction_20 rfl (lv_at hl 3 rfl) ?_
          refine lv_iconst (v := 2) hx hb d_OM_isAction_21 (by decide) ?_
          refine lv_icmp_ge (tgt := 29) hx hb d_OM_isAction_22 (by decide) (fun c_27 => ?_) (fun c_27 => ?_)
          · skip
            refine lv_iconst (v := 0) hx hb d_OM_isAction_29 (by decide) ?_
            refine lv_istore (lv' := [(5, .int 0), (4, .int 0), (0, .int 0), (1, .int p1), (2, .int p2), (3, .int p3)]) hx hb d_OM_isAction_30 hl (by decide) rfl ?_
            clear hl ls
            intro ls hl
            refine lv_iload_n hx hb d_OM_isAction_32 rfl (lv_at hl 5 rfl) ?_
            refine lv_bipush (v := (-9)) hx hb d_OM_isAction_33 (by decide) ?_
            refine lv_icmp_lt (tgt := 48) hx hb d_OM_isAction_35 (by decide) (fun c_28 => ?_) (fun c_28 => ?_)
            · skip
              refine lv_iconst (v := 0) hx hb d_OM_isAction_48 (by decide) ?_
              refine lv_istore (lv' := [(6, .int 0), (5, .int 0), (4, .int 0), (0, .int 0), (1, .int p1), (2, .int p2), (3, .int p3)]) hx hb d_OM_isAction_49 hl (by decide) rfl ?_
              clear hl ls
              intro ls hl
              refine lv_iload_n hx hb d_OM_isAction_51 rfl (lv_at hl 3 rfl) ?_
              refine lv_tableIn (x := 0) (tgt := 92) hx hb d_OM_isAction_52 (by decide) (by decide) (by rfl) (by decide) ?_
              refine tp_pc (pc' := 92) (by rfl) ?_
              refine lv_iload hx hb d_OM_isAction_92 (lv_at hl 2 rfl) ?_
              refine lv_if_eq (tgt := 110) hx hb d_OM_isAction_94 (by decide) (fun c_29 => ?_) (fun c_29 => absurd c_29 (by decide))
              refine tp_pc (pc' := 110) (by rfl) ?_
              refine lv_iconst (v := 0) hx hb d_OM_isAction_110 (by decide) ?_
              obtain ⟨hP9, hD9, -⟩ := cut3 (wc := []) hP hD rfl hS hA [] (by decide +kernel) rfl
              have hK9 := hK.sub (tys' := []) [] rfl
              refine W.widen (k := 0) (n := 0) (by exact Nat.le_of_ble_eq_true rfl) (by exact Nat.le_of_ble_eq_true rfl) ?_
              exact W.zret (v := 0) (ty := .boolean) hx hb hr (by decide) (fun t ht hW => ⟨⟨0, (), rfl, trivial, by rw [ht]; exact hP9, va_K.moved hW.alike hK9, hD9⟩, hS.F ht⟩) hS.2.2 d_OM_isAction_111
            · skip
              refine lv_iload_n hx hb d_OM_isAction_38 rfl (lv_at hl 5 rfl) ?_
              refine lv_bipush (v := 9) hx hb d_OM_isAction_39 (by decide) ?_
              refine lv_icmp_gt (tgt := 48) hx hb d_OM_isAction_41 (by decide) (fun c_30 => ?_) (fun c_30 => ?_)
              · skip
                refine lv_iconst (v := 0) hx hb d_OM_isAction_48 (by decide) ?_
                refine lv_istore (lv' := [(6, .int 0), (5, .int 0), (4, .int 0), (0, .int 0), (1, .int p1), (2, .int p2), (3, .int p3)]) hx hb d_OM_isAction_49 hl (by decide) rfl ?_
                clear hl ls
                intro ls hl
                refine lv_iload_n hx hb d_OM_isAction_51 rfl (lv_at hl 3 rfl) ?_
                refine lv_tableIn (x := 0) (tgt := 92) hx hb d_OM_isAction_52 (by decide) (by decide) (by rfl) (by decide) ?_
                refine tp_pc (pc' := 92) (by rfl) ?_
                refine lv_iload hx hb d_OM_isAction_92 (lv_at hl 2 rfl) ?_
                refine lv_if_eq (tgt := 110) hx hb d_OM_isAction_94 (by decide) (fun c_31 => ?_) (fun c_31 => absurd c_31 (by decide))
                refine tp_pc (pc' := 110) (by rfl) ?_
                refine lv_iconst (v := 0) hx hb d_OM_isAction_110 (by decide) ?_
                obtain ⟨hP9, hD9, -⟩ := cut3 (wc := []) hP hD rfl hS hA [] (by decide +kernel) rfl
                have hK9 := hK.sub (tys' := []) [] rfl
                refine W.widen (k := 0) (n := 0) (by exact Nat.le_of_ble_eq_true rfl) (by exact Nat.le_of_ble_eq_true rfl) ?_
                exact W.zret (v := 0) (ty := .boolean) hx hb hr (by decide) (fun t ht hW => ⟨⟨0, (), rfl, trivial, by rw [ht]; exact hP9, va_K.moved hW.alike hK9, hD9⟩, hS.F ht⟩) hS.2.2 d_OM_isAction_111
              · skip
                refine lv_iconst (v := 1) hx hb d_OM_isAction_44 (by decide) ?_
                refine lv_goto (tgt := 49) hx hb d_OM_isAction_45 (by decide) ?_
                refine tp_pc (pc' := 49) (by rfl) ?_
                refine lv_istore (lv' := [(6, .int 1), (5, .int 0), (4, .int 0), (0, .int 0), (1, .int p1), (2, .int p2), (3, .int p3)]) hx hb d_OM_isAction_49 hl (by decide) rfl ?_
                clear hl ls
                intro ls hl
                refine lv_iload_n hx hb d_OM_isAction_51 rfl (lv_at hl 3 rfl) ?_
                refine lv_tableIn (x := 0) (tgt := 92) hx hb d_OM_isAction_52 (by decide) (by decide) (by rfl) (by decide) ?_
                refine tp_pc (pc' := 92) (by rfl) ?_
                refine lv_iload hx hb d_OM_isAction_92 (lv_at hl 2 rfl) ?_
                refine lv_if_eq (tgt := 110) hx hb d_OM_isAction_94 (by decide) (fun c_32 => ?_) (fun c_32 => absurd c_32 (by decide))
                refine tp_pc (pc' := 110) (by rfl) ?_
                refine lv_iconst (v := 0) hx hb d_OM_isAction_110 (by decide) ?_
                obtain ⟨hP9, hD9, -⟩ := cut3 (wc := []) hP hD rfl hS hA [] (by decide +kernel) rfl
                have hK9 := hK.sub (tys' := []) [] rfl
                refine W.widen (k := 0) (n := 0) (by exact Nat.le_of_ble_eq_true rfl) (by exact Nat.le_of_ble_eq_true rfl) ?_
                exact W.zret (v := 0) (ty := .boolean) hx hb hr (by decide) (fun t ht hW => ⟨⟨0, (), rfl, trivial, by rw [ht]; exact hP9, va_K.moved hW.alike hK9, hD9⟩, hS.F ht⟩) hS.2.2 d_OM_isAction_111
          · skip
            refine lv_iconst (v := 1) hx hb d_OM_isAction_25 (by decide) ?_
            refine lv_goto (tgt := 30) hx hb d_OM_isAction_26 (by decide) ?_
            refine tp_pc (pc' := 30) (by rfl) ?_
            refine lv_istore (lv' := [(5, .int 1), (4, .int 0), (0, .int 0), (1, .int p1), (2, .int p2), (3, .int p3)]) hx hb d_OM_isAction_30 hl (by decide) rfl ?_
            clear hl ls
            intro ls hl
            refine lv_iload_n hx hb d_OM_isAction_32 rfl (lv_at hl 5 rfl) ?_
            refine lv_bipush (v := (-9)) hx hb d_OM_isAction_33 (by decide) ?_
            refine lv_icmp_lt (tgt := 48) hx hb d_OM_isAction_35 (by decide) (fun c_33 => ?_) (fun c_33 => ?_)
            · skip
              refine lv_iconst (v := 0) hx hb d_OM_isAction_48 (by decide) ?_
              refine lv_istore (lv' := [(6, .int 0), (5, .int 1), (4, .int 0), (0, .int 0), (1, .int p1), (2, .int p2), (3, .int p3)]) hx hb d_OM_isAction_49 hl (by decide) rfl ?_
              clear hl ls
              intro ls hl
              refine lv_iload_n hx hb d_OM_isAction_51 rfl (lv_at hl 3 rfl) ?_
              refine lv_tableIn (x := 0) (tgt := 92) hx hb d_OM_isAction_52 (by decide) (by decide) (by rfl) (by decide) ?_
              refine tp_pc (pc' := 92) (by rfl) ?_
              refine lv_iload hx hb d_OM_isAction_92 (lv_at hl 2 rfl) ?_
              refine lv_if_eq (tgt := 110) hx hb d_OM_isAction_94 (by decide) (fun c_34 => ?_) (fun c_34 => absurd c_34 (by decide))
              refine tp_pc (pc' := 110) (by rfl) ?_
              refine lv_iconst (v := 0) hx hb d_OM_isAction_110 (by decide) ?_
              obtain ⟨hP9, hD9, -⟩ := cut3 (wc := []) hP hD rfl hS hA [] (by decide +kernel) rfl
              have hK9 := hK.sub (tys' := []) [] rfl
              refine W.widen (k := 0) (n := 0) (by exact Nat.le_of_ble_eq_true rfl) (by exact Nat.le_of_ble_eq_true rfl) ?_
              exact W.zret (v := 0) (ty := .boolean) hx hb hr (by decide) (fun t ht hW => ⟨⟨0, (), rfl, trivial, by rw [ht]; exact hP9, va_K.moved hW.alike hK9, hD9⟩, hS.F ht⟩) hS.2.2 d_OM_isAction_111
            · skip
              refine lv_iload_n hx hb d_OM_isAction_38 rfl (lv_at hl 5 rfl) ?_
              refine lv_bipush (v := 9) hx hb d_OM_isAction_39 (by decide) ?_
              refine lv_icmp_gt (tgt := 48) hx hb d_OM_isAction_41 (by decide) (fun c_35 => ?_) (fun c_35 => ?_)
              · skip
                refine lv_iconst (v := 0) hx hb d_OM_isAction_48 (by decide) ?_
                refine lv_istore (lv' := [(6, .int 0), (5, .int 1), (4, .int 0), (0, .int 0), (1, .int p1), (2, .int p2), (3, .int p3)]) hx hb d_OM_isAction_49 hl (by decide) rfl ?_
                clear hl ls
                intro ls hl
                refine lv_iload_n hx hb d_OM_isAction_51 rfl (lv_at hl 3 rfl) ?_
                refine lv_tableIn (x := 0) (tgt := 92) hx hb d_OM_isAction_52 (by decide) (by decide) (by rfl) (by decide) ?_
                refine tp_pc (pc' := 92) (by rfl) ?_
                refine lv_iload hx hb d_OM_isAction_92 (lv_at hl 2 rfl) ?_
                refine lv_if_eq (tgt := 110) hx hb d_OM_isAction_94 (by decide) (fun c_36 => ?_) (fun c_36 => absurd c_36 (by decide))
                refine tp_pc (pc' := 110) (by rfl) ?_
                refine lv_iconst (v := 0) hx hb d_OM_isAction_110 (by decide) ?_
                obtain ⟨hP9, hD9, -⟩ := cut3 (wc := []) hP hD rfl hS hA [] (by decide +kernel) rfl
                have hK9 := hK.sub (tys' := []) [] rfl
                refine W.widen (k := 0) (n := 0) (by exact Nat.le_of_ble_eq_true rfl) (by exact Nat.le_of_ble_eq_true rfl) ?_
                exact W.zret (v := 0) (ty := .boolean) hx hb hr (by decide) (fun t ht hW => ⟨⟨0, (), rfl, trivial, by rw [ht]; exact hP9, va_K.moved hW.alike hK9, hD9⟩, hS.F ht⟩) hS.2.2 d_OM_isAction_111
              · skip
                refine lv_iconst (v := 1) hx hb d_OM_isAction_44 (by decide) ?_
                refine lv_goto (tgt := 49) hx hb d_OM_isAction_45 (by decide) ?_
                refine tp_pc (pc' := 49) (by rfl) ?_
                refine lv_istore (lv' := [(6, .int 1), (5, .int 1), (4, .int 0), (0, .int 0), (1, .int p1), (2, .int p2), (3, .int p3)]) hx hb d_OM_isAction_49 hl (by decide) rfl ?_
                clear hl ls
                intro ls hl
                refine lv_iload_n hx hb d_OM_isAction_51 rfl (lv_at hl 3 rfl) ?_
                refine lv_tableIn (x := 0) (tgt := 92) hx hb d_OM_isAction_52 (by decide) (by decide) (by rfl) (by decide) ?_
                refine tp_pc (pc' := 92) (by rfl) ?_
                refine lv_iload hx hb d_OM_isAction_92 (lv_at hl 2 rfl) ?_
                refine lv_if_eq (tgt := 110) hx hb d_OM_isAction_94 (by decide) (fun c_37 => ?_) (fun c_37 => absurd c_37 (by decide))
                refine tp_pc (pc' := 110) (by rfl) ?_
                refine lv_iconst (v := 0) hx hb d_OM_isAction_110 (by decide) ?_
                obtain ⟨hP9, hD9, -⟩ := cut3 (wc := []) hP hD rfl hS hA [] (by decide +kernel) rfl
                have hK9 := hK.sub (tys' := []) [] rfl
                refine W.widen (k := 0) (n := 0) (by exact Nat.le_of_ble_eq_true rfl) (by exact Nat.le_of_ble_eq_true rfl) ?_
                exact W.zret (v := 0) (ty := .boolean) hx hb hr (by decide) (fun t ht hW => ⟨⟨0, (), rfl, trivial, by rw [ht]; exact hP9, va_K.moved hW.alike hK9, hD9⟩, hS.F ht⟩) hS.2.2 d_OM_isAction_111
      · skip
        refine lv_iconst (v := 1) hx hb d_OM_isAction_9 (by decide) ?_
        refine lv_goto (tgt := 14) hx hb d_OM_isAction_10 (by decide) ?_
        refine tp_pc (pc' := 14) (by rfl) ?_
        refine lv_istore (lv' := [(4, .int 1), (0, .int 0), (1, .int p1), (2, .int p2), (3, .int p3)]) hx hb d_OM_isAction_14 hl (by decide) rfl ?_
        clear hl ls
        intro ls hl
        refine lv_iload_n hx hb d_OM_isAction_16 rfl (lv_at hl 3 rfl) ?_
        refine lv_if_lt (tgt := 29) hx hb d_OM_isAction_17 (by decide) (fun c_38 => ?_) (fun c_38 => ?_)
        · skip
          refine lv_iconst (v := 0) hx hb d_OM_isAction_29 (by decide) ?_
          refine lv_istore (lv' := [(5, .int 0), (4, .int 1), (0, .int 0), (1, .int p1), (2, .int p2), (3, .int p3)]) hx hb d_OM_isAction_30 hl (by decide) rfl ?_
          clear hl ls
          intro ls hl
          refine lv_iload_n hx hb d_OM_isAction_32 rfl (lv_at hl 5 rfl) ?_
          refine lv_bipush (v := (-9)) hx hb d_OM_isAction_33 (by decide) ?_
          refine lv_icmp_lt (tgt := 48) hx hb d_OM_isAction_35 (by decide) (fun c_39 => ?_) (fun c_39 => ?_)
          · skip
            refine lv_iconst (v := 0) hx hb d_OM_isAction_48 (by decide) ?_
            refine lv_istore (lv' := [(6, .int 0), (5, .int 0), (4, .int 1), (0, .int 0), (1, .int p1), (2, .int p2), (3, .int p3)]) hx hb d_OM_isAction_49 hl (by decide) rfl ?_
            clear hl ls
            intro ls hl
            refine lv_iload_n hx hb d_OM_isAction_51 rfl (lv_at hl 3 rfl) ?_
            refine lv_tableIn (x := 0) (tgt := 92) hx hb d_OM_isAction_52 (by decide) (by decide) (by rfl) (by decide) ?_
            refine tp_pc (pc' := 92) (by rfl) ?_
            refine lv_iload hx hb d_OM_isAction_92 (lv_at hl 2 rfl) ?_
            refine lv_if_eq (tgt := 110) hx hb d_OM_isAction_94 (by decide) (fun c_40 => absurd c_40 (by decide)) (fun c_40 => ?_)
            refine tp_pc (pc' := 97) (by rfl) ?_
            refine lv_iload hx hb d_OM_isAction_97 (lv_at hl 1 rfl) ?_
            refine lv_if_eq (tgt := 110) hx hb d_OM_isAction_99 (by decide) (fun c_41 => ?_) (fun c_41 => absurd c_41 (by decide))
            refine tp_pc (pc' := 110) (by rfl) ?_
            refine lv_iconst (v := 0) hx hb d_OM_isAction_110 (by decide) ?_
            obtain ⟨hP9, hD9, -⟩ := cut3 (wc := []) hP hD rfl hS hA [] (by decide +kernel) rfl
            have hK9 := hK.sub (tys' := []) [] rfl
            refine W.widen (k := 0) (n := 0) (by exact Nat.le_of_ble_eq_true rfl) (by exact Nat.le_of_ble_eq_true rfl) ?_
            exact W.zret (v := 0) (ty := .boolean) hx hb hr (by decide) (fun t ht hW => ⟨⟨0, (), rfl, trivial, by rw [ht]; exact hP9, va_K.moved hW.alike hK9, hD9⟩, hS.F ht⟩) hS.2.2 d_OM_isAction_111
          · skip
            refine lv_iload_n hx hb d_OM_isAction_38 rfl (lv_at hl 5 rfl) ?_
            refine lv_bipush (v := 9) hx hb d_OM_isAction_39 (by decide) ?_
            refine lv_icmp_gt (tgt := 48) hx hb d_OM_isAction_41 (by decide) (fun c_42 => ?_) (fun c_42 => ?_)
            · skip
              refine lv_iconst (v := 0) hx hb d_OM_isAction_48 (by decide) ?_
              refine lv_istore (lv' := [(6, .int 0), (5, .int 0), (4, .int 1), (0, .int 0), (1, .int p1), (2, .int p2), (3, .int p3)]) hx hb d_OM_isAction_49 hl (by decide) rfl ?_
              clear hl ls
              intro ls hl
              refine lv_iload_n hx hb d_OM_isAction_51 rfl (lv_at hl 3 rfl) ?_
              refine lv_tableIn (x := 0) (tgt := 92) hx hb d_OM_isAction_52 (by decide) (by decide) (by rfl) (by decide) ?_
              refine tp_pc (pc' := 92) (by rfl) ?_
              refine lv_iload hx hb d_OM_isAction_92 (lv_at hl 2 rfl) ?_
              refine lv_if_eq (tgt := 110) hx hb d_OM_isAction_94 (by decide) (fun c_43 => absurd c_43 (by decide)) (fun c_43 => ?_)
              refine tp_pc (pc' := 97) (by rfl) ?_
              refine lv_iload hx hb d_OM_isAction_97 (lv_at hl 1 rfl) ?_
              refine lv_if_eq (tgt := 110) hx hb d_OM_isAction_99 (by decide) (fun c_44 => ?_) (fun c_44 => absurd c_44 (by decide))
              refine tp_pc (pc' := 110) (by rfl) ?_
              refine lv_iconst (v := 0) hx hb d_OM_isAction_110 (by decide) ?_
              obtain ⟨hP9, hD9, -⟩ := cut3 (wc := []) hP hD rfl hS hA [] (by decide +kernel) rfl
              have hK9 := hK.sub (tys' := []) [] rfl
              refine W.widen (k := 0) (n := 0) (by exact Nat.le_of_ble_eq_true rfl) (by exact Nat.le_of_ble_eq_true rfl) ?_
              exact W.zret (v := 0) (ty := .boolean) hx hb hr (by decide) (fun t ht hW => ⟨⟨0, (), rfl, trivial, by rw [ht]; exact hP9, va_K.moved hW.alike hK9, hD9⟩, hS.F ht⟩) hS.2.2 d_OM_isAction_111
            · skip
              refine lv_iconst (v := 1) hx hb d_OM_isAction_44 (by decide) ?_
              refine lv_goto (tgt := 49) hx hb d_OM_isAction_45 (by decide) ?_
              refine tp_pc (pc' := 49) (by rfl) ?_
              refine lv_istore (lv' := [(6, .int 1), (5, .int 0), (4, .int 1), (0, .int 0), (1, .int p1), (2, .int p2), (3, .int p3)]) hx hb d_OM_isAction_49 hl (by decide) rfl ?_
              clear hl ls
              intro ls hl
              refine lv_iload_n hx hb d_OM_isAction_51 rfl (lv_at hl 3 rfl) ?_
              refine lv_tableIn (x := 0) (tgt := 92) hx hb d_OM_isAction_52 (by decide) (by decide) (by rfl) (by decide) ?_
              refine tp_pc (pc' := 92) (by rfl) ?_
              refine lv_iload hx hb d_OM_isAction_92 (lv_at hl 2 rfl) ?_
              refine lv_if_eq (tgt := 110) hx hb d_OM_isAction_94 (by decide) (fun c_45 => absurd c_45 (by decide)) (fun c_45 => ?_)
              refine tp_pc (pc' := 97) (by rfl) ?_
              refine lv_iload hx hb d_OM_isAction_97 (lv_at hl 1 rfl) ?_
              refine lv_if_eq (tgt := 110) hx hb d_OM_isAction_99 (by decide) (fun c_46 => ?_) (fun c_46 => absurd c_46 (by decide))
              refine tp_pc (pc' := 110) (by rfl) ?_
              refine lv_iconst (v := 0) hx hb d_OM_isAction_110 (by decide) ?_
              obtain ⟨hP9, hD9, -⟩ := cut3 (wc := []) hP hD rfl hS hA [] (by decide +kernel) rfl
              have hK9 := hK.sub (tys' := []) [] rfl
              refine W.widen (k := 0) (n := 0) (by exact Nat.le_of_ble_eq_true rfl) (by exact Nat.le_of_ble_eq_true rfl) ?_
              exact W.zret (v := 0) (ty := .boolean) hx hb hr (by decide) (fun t ht hW => ⟨⟨0, (), rfl, trivial, by rw [ht]; exact hP9, va_K.moved hW.alike hK9, hD9⟩, hS.F ht⟩) hS.2.2 d_OM_isAction_111
        · skip
          refine lv_iload_n hx hb d_OM_isAction_20 rfl (lv_at hl 3 rfl) ?_
          refine lv_iconst (v := 2) hx hb d_OM_isAction_21 (by decide) ?_
          refine lv_icmp_ge (tgt := 29) hx hb d_OM_isAction_22 (by decide) (fun c_47 => ?_) (fun c_47 => ?_)
          · skip
            refine lv_iconst (v := 0) hx hb d_OM_isAction_29 (by decide) ?_
            refine lv_istore (lv' := [(5, .int 0), (4, .int 1), (0, .int 0), (1, .int p1), (2, .int p2), (3, .int p3)]) hx hb d_OM_isAction_30 hl (by decide) rfl ?_
            clear hl ls
            intro ls hl
            refine lv_iload_n hx hb d_OM_isAction_32 rfl (lv_at hl 5 rfl) ?_
            refine lv_bipush (v := (-9)) hx hb d_OM_isAction_33 (by decide) ?_
            refine lv_icmp_lt (tgt := 48) hx hb d_OM_isAction_35 (by decide) (fun c_48 => ?_) (fun c_48 => ?_)
            · skip
              refine lv_iconst (v := 0) hx hb d_OM_isAction_48 (by decide) ?_
              refine lv_istore (lv' := [(6, .int 0), (5, .int 0), (4, .int 1), (0, .int 0), (1, .int p1), (2, .int p2), (3, .int p3)]) hx hb d_OM_isAction_49 hl (by decide) rfl ?_
              clear hl ls
              intro ls hl
              refine lv_iload_n hx hb d_OM_isAction_51 rfl (lv_at hl 3 rfl) ?_
              refine lv_tableIn (x := 0) (tgt := 92) hx hb d_OM_isAction_52 (by decide) (by decide) (by rfl) (by decide) ?_
              refine tp_pc (pc' := 92) (by rfl) ?_
              refine lv_iload hx hb d_OM_isAction_92 (lv_at hl 2 rfl) ?_
              refine lv_if_eq (tgt := 110) hx hb d_OM_isAction_94 (by decide) (fun c_49 => absurd c_49 (by decide)) (fun c_49 => ?_)
              refine tp_pc (pc' := 97) (by rfl) ?_
              refine lv_iload hx hb d_OM_isAction_97 (lv_at hl 1 rfl) ?_
              refine lv_if_eq (tgt := 110) hx hb d_OM_isAction_99 (by decide) (fun c_50 => ?_) (fun c_50 => absurd c_50 (by decide))
              refine tp_pc (pc' := 110) (by rfl) ?_
              refine lv_iconst (v := 0) hx hb d_OM_isAction_110 (by decide) ?_
              obtain ⟨hP9, hD9, -⟩ := cut3 (wc := []) hP hD rfl hS hA [] (by decide +kernel) rfl
              have hK9 := hK.sub (tys' := []) [] rfl
              refine W.widen (k := 0) (n := 0) (by exact Nat.le_of_ble_eq_true rfl) (by exact Nat.le_of_ble_eq_true rfl) ?_
              exact W.zret (v := 0) (ty := .boolean) hx hb hr (by decide) (fun t ht hW => ⟨⟨0, (), rfl, trivial, by rw [ht]; exact hP9, va_K.moved hW.alike hK9, hD9⟩, hS.F ht⟩) hS.2.2 d_OM_isAction_111
            · skip
              refine lv_iload_n hx hb d_OM_isAction_38 rfl (lv_at hl 5 rfl) ?_
              refine lv_bipush (v := 9) hx hb d_OM_isAction_39 (by decide) ?_
              refine lv_icmp_gt (tgt := 48) hx hb d_OM_isAction_41 (by decide) (fun c_51 => ?_) (fun c_51 => ?_)
              · skip
                refine lv_iconst (v := 0) hx hb d_OM_isAction_48 (by decide) ?_
                refine lv_istore (lv' := [(6, .int 0), (5, .int 0), (4, .int 1), (0, .int 0), (1, .int p1), (2, .int p2), (3, .int p3)]) hx hb d_OM_isAction_49 hl (by decide) rfl ?_
                clear hl ls
                intro ls hl
                refine lv_iload_n hx hb d_OM_isAction_51 rfl (lv_at hl 3 rfl) ?_
                refine lv_tableIn (x := 0) (tgt := 92) hx hb d_OM_isAction_52 (by decide) (by decide) (by rfl) (by decide) ?_
                refine tp_pc (pc' := 92) (by rfl) ?_
                refine lv_iload hx hb d_OM_isAction_92 (lv_at hl 2 rfl) ?_
                refine lv_if_eq (tgt := 110) hx hb d_OM_isAction_94 (by decide) (fun c_52 => absurd c_52 (by decide)) (fun c_52 => ?_)
                refine tp_pc (pc' := 97) (by rfl) ?_
                refine lv_iload hx hb d_OM_isAction_97 (lv_at hl 1 rfl) ?_
                refine lv_if_eq (tgt := 110) hx hb d_OM_isAction_99 (by decide) (fun c_53 => ?_) (fun c_53 => absurd c_53 (by decide))
                refine tp_pc (pc' := 110) (by rfl) ?_
                refine lv_iconst (v := 0) hx hb d_OM_isAction_110 (by decide) ?_
                obtain ⟨hP9, hD9, -⟩ := cut3 (wc := []) hP hD rfl hS hA [] (by decide +kernel) rfl
                have hK9 := hK.sub (tys' := []) [] rfl
                refine W.widen (k := 0) (n := 0) (by exact Nat.le_of_ble_eq_true rfl) (by exact Nat.le_of_ble_eq_true rfl) ?_
                exact W.zret (v := 0) (ty := .boolean) hx hb hr (by decide) (fun t ht hW => ⟨⟨0, (), rfl, trivial, by rw [ht]; exact hP9, va_K.moved hW.alike hK9, hD9⟩, hS.F ht⟩) hS.2.2 d_OM_isAction_111
              · skip
                refine lv_iconst (v := 1) hx hb d_OM_isAction_44 (by decide) ?_
                refine lv_goto (tgt := 49) hx hb d_OM_isAction_45 (by decide) ?_
                refine tp_pc (pc' := 49) (by rfl) ?_
                refine lv_istore (lv' := [(6, .int 1), (5, .int 0), (4, .int 1), (0, .int 0), (1, .int p1), (2, .int p2), (3, .int p3)]) hx hb d_OM_isAction_49 hl (by decide) rfl ?_
                clear hl ls
                intro ls hl
                refine lv_iload_n hx hb d_OM_isAction_51 rfl (lv_at hl 3 rfl) ?_
                refine lv_tableIn (x := 0) (tgt := 92) hx hb d_OM_isAction_52 (by decide) (by decide) (by rfl) (by decide) ?_
                refine tp_pc (pc' := 92) (by rfl) ?_
                refine lv_iload hx hb d_OM_isAction_92 (lv_at hl 2 rfl) ?_
                refine lv_if_eq (tgt := 110) hx hb d_OM_isAction_94 (by decide) (fun c_54 => absurd c_54 (by decide)) (fun c_54 => ?_)
                refine tp_pc (pc' := 97) (by rfl) ?_
                refine lv_iload hx hb d_OM_isAction_97 (lv_at hl 1 rfl) ?_
                refine lv_if_eq (tgt := 110) hx hb d_OM_isAction_99 (by decide) (fun c_55 => ?_) (fun c_55 => absurd c_55 (by decide))
                refine tp_pc (pc' := 110) (by rfl) ?_
                refine lv_iconst (v := 0) hx hb d_OM_isAction_110 (by decide) ?_
                obtain ⟨hP9, hD9, -⟩ := cut3 (wc := []) hP hD rfl hS hA [] (by decide +kernel) rfl
                have hK9 := hK.sub (tys' := []) [] rfl
                refine W.widen (k := 0) (n := 0) (by exact Nat.le_of_ble_eq_true rfl) (by exact Nat.le_of_ble_eq_true rfl) ?_
                exact W.zret (v := 0) (ty := .boolean) hx hb hr (by decide) (fun t ht hW => ⟨⟨0, (), rfl, trivial, by rw [ht]; exact hP9, va_K.moved hW.alike hK9, hD9⟩, hS.F ht⟩) hS.2.2 d_OM_isAction_111
          · skip
            refine lv_iconst (v := 1) hx hb d_OM_isAction_25 (by decide) ?_
            refine lv_goto (tgt := 30) hx hb d_OM_isAction_26 (by decide) ?_
            refine tp_pc (pc' := 30) (by rfl) ?_
            refine lv_istore (lv' := [(5, .int 1), (4, .int 1), (0, .int 0), (1, .int p1), (2, .int p2), (3, .int p3)]) hx hb d_OM_isAction_30 hl (by decide) rfl ?_
            clear hl ls
            intro ls hl
            refine lv_iload_n hx hb d_OM_isAction_32 rfl (lv_at hl 5 rfl) ?_
            refine lv_bipush (v := (-9)) hx hb d_OM_isAction_33 (by decide) ?_
            refine lv_icmp_lt (tgt := 48) hx hb d_OM_isAction_35 (by decide) (fun c_56 => ?_) (fun c_56 => ?_)
            · skip
              refine lv_iconst (v := 0) hx hb d_OM_isAction_48 (by decide) ?_
              refine lv_istore (lv' := [(6, .int 0), (5, .int 1), (4, .int 1), (0, .int 0), (1, .int p1), (2, .int p2), (3, .int p3)]) hx hb d_OM_isAction_49 hl (by decide) rfl ?_
              clear hl ls
              intro ls hl
              refine lv_iload_n hx hb d_OM_isAction_51 rfl (lv_at hl 3 rfl) ?_
              refine lv_tableIn (x := 0) (tgt := 92) hx hb d_OM_isAction_52 (by decide) (by decide) (by rfl) (by decide) ?_
              refine tp_pc (pc' := 92) (by rfl) ?_
              refine lv_iload hx hb d_OM_isAction_92 (lv_at hl 2 rfl) ?_
              refine lv_if_eq (tgt := 110) hx hb d_OM_isAction_94 (by decide) (fun c_57 => absurd c_57 (by decide)) (fun c_57 => ?_)
              refine tp_pc (pc' := 97) (by rfl) ?_
              refine lv_iload hx hb d_OM_isAction_97 (lv_at hl 1 rfl) ?_
              refine lv_if_eq (tgt := 110) hx hb d_OM_isAction_99 (by decide) (fun c_58 => absurd c_58 (by decide)) (fun c_58 => ?_)
              refine tp_pc (pc' := 102) (by rfl) ?_
              refine lv_iload_n hx hb d_OM_isAction_102 rfl (lv_at hl 6 rfl) ?_
              refine lv_if_ne (tgt := 110) hx hb d_OM_isAction_103 (by decide) (fun c_59 => ?_) (fun c_59 => ?_)
              · skip
                refine lv_iconst (v := 0) hx hb d_OM_isAction_110 (by decide) ?_
                obtain ⟨hP9, hD9, -⟩ := cut3 (wc := []) hP hD rfl hS hA [] (by decide +kernel) rfl
                have hK9 := hK.sub (tys' := []) [] rfl
                refine W.widen (k := 0) (n := 0) (by exact Nat.le_of_ble_eq_true rfl) (by exact Nat.le_of_ble_eq_true rfl) ?_
                exact W.zret (v := 0) (ty := .boolean) hx hb hr (by decide) (fun t ht hW => ⟨⟨0, (), rfl, trivial, by rw [ht]; exact hP9, va_K.moved hW.alike hK9, hD9⟩, hS.F ht⟩) hS.2.2 d_OM_isAction_111
              · skip
                exfalso
                simp only [Int32.lt_iff_toInt_lt, Int32.le_iff_toInt_le, ← Int32.toInt_inj] at c_56 c_59
                have k9 : ((-9) : Int32).toInt = -9 := by decide
                have k0 : (0 : Int32).toInt = 0 := by decide
                omega
            · skip
              refine lv_iload_n hx hb d_OM_isAction_38 rfl (lv_at hl 5 rfl) ?_
              refine lv_bipush (v := 9) hx hb d_OM_isAction_39 (by decide) ?_
              refine lv_icmp_gt (tgt := 48) hx hb d_OM_isAction_41 (by decide) (fun c_60 => ?_) (fun c_60 => ?_)
              · skip
                refine lv_iconst (v := 0) hx hb d_OM_isAction_48 (by decide) ?_
                refine lv_istore (lv' := [(6, .int 0), (5, .int 1), (4, .int 1), (0, .int 0), (1, .int p1), (2, .int p2), (3, .int p3)]) hx hb d_OM_isAction_49 hl (by decide) rfl ?_
                clear hl ls
                intro ls hl
                refine lv_iload_n hx hb d_OM_isAction_51 rfl (lv_at hl 3 rfl) ?_
                refine lv_tableIn (x := 0) (tgt := 92) hx hb d_OM_isAction_52 (by decide) (by decide) (by rfl) (by decide) ?_
                refine tp_pc (pc' := 92) (by rfl) ?_
                refine lv_iload hx hb d_OM_isAction_92 (lv_at hl 2 rfl) ?_
                refine lv_if_eq (tgt := 110) hx hb d_OM_isAction_94 (by decide) (fun c_61 => absurd c_61 (by decide)) (fun c_61 => ?_)
                refine tp_pc (pc' := 97) (by rfl) ?_
                refine lv_iload hx hb d_OM_isAction_97 (lv_at hl 1 rfl) ?_
                refine lv_if_eq (tgt := 110) hx hb d_OM_isAction_99 (by decide) (fun c_62 => absurd c_62 (by decide)) (fun c_62 => ?_)
                refine tp_pc (pc' := 102) (by rfl) ?_
                refine lv_iload_n hx hb d_OM_isAction_102 rfl (lv_at hl 6 rfl) ?_
                refine lv_if_ne (tgt := 110) hx hb d_OM_isAction_103 (by decide) (fun c_63 => ?_) (fun c_63 => ?_)
                · skip
                  refine lv_iconst (v := 0) hx hb d_OM_isAction_110 (by decide) ?_
                  obtain ⟨hP9, hD9, -⟩ := cut3 (wc := []) hP hD rfl hS hA [] (by decide +kernel) rfl
                  have hK9 := hK.sub (tys' := []) [] rfl
                  refine W.widen (k := 0) (n := 0) (by exact Nat.le_of_ble_eq_true rfl) (by exact Nat.le_of_ble_eq_true rfl) ?_
                  exact W.zret (v := 0) (ty := .boolean) hx hb hr (by decide) (fun t ht hW => ⟨⟨0, (), rfl, trivial, by rw [ht]; exact hP9, va_K.moved hW.alike hK9, hD9⟩, hS.F ht⟩) hS.2.2 d_OM_isAction_111
                · skip
                  exfalso
                  simp only [Int32.lt_iff_toInt_lt, Int32.le_iff_toInt_le, ← Int32.toInt_inj] at c_56 c_60 c_63
                  have k9 : ((-9) : Int32).toInt = -9 := by decide
                  have k0 : (0 : Int32).toInt = 0 := by decide
                  have k9 : (9 : Int32).toInt = 9 := by decide
                  omega
              · skip
                refine lv_iconst (v := 1) hx hb d_OM_isAction_44 (by decide) ?_
                refine lv_goto (tgt := 49) hx hb d_OM_isAction_45 (by decide) ?_
                refine tp_pc (pc' := 49) (by rfl) ?_
                refine lv_istore (lv' := [(6, .int 1), (5, .int 1), (4, .int 1), (0, .int 0), (1, .int p1), (2, .int p2), (3, .int p3)]) hx hb d_OM_isAction_49 hl (by decide) rfl ?_
                clear hl ls
                intro ls hl
                refine lv_iload_n hx hb d_OM_isAction_51 rfl (lv_at hl 3 rfl) ?_
                refine lv_tableIn (x := 0) (tgt := 92) hx hb d_OM_isAction_52 (by decide) (by decide) (by rfl) (by decide) ?_
                refine tp_pc (pc' := 92) (by rfl) ?_
                refine lv_iload hx hb d_OM_isAction_92 (lv_at hl 2 rfl) ?_
                refine lv_if_eq (tgt := 110) hx hb d_OM_isAction_94 (by decide) (fun c_64 => absurd c_64 (by decide)) (fun c_64 => ?_)
                refine tp_pc (pc' := 97) (by rfl) ?_
                refine lv_iload hx hb d_OM_isAction_97 (lv_at hl 1 rfl) ?_
                refine lv_if_eq (tgt := 110) hx hb d_OM_isAction_99 (by decide) (fun c_65 => absurd c_65 (by decide)) (fun c_65 => ?_)
                refine tp_pc (pc' := 102) (by rfl) ?_
                refine lv_iload_n hx hb d_OM_isAction_102 rfl (lv_at hl 6 rfl) ?_
                refine lv_if_ne (tgt := 110) hx hb d_OM_isAction_103 (by decide) (fun c_66 => ?_) (fun c_66 => ?_)
                · skip
                  refine lv_iconst (v := 0) hx hb d_OM_isAction_110 (by decide) ?_
                  obtain ⟨hP9, hD9, -⟩ := cut3 (wc := []) hP hD rfl hS hA [] (by decide +kernel) rfl
                  have hK9 := hK.sub (tys' := []) [] rfl
                  refine W.widen (k := 0) (n := 0) (by exact Nat.le_of_ble_eq_true rfl) (by exact Nat.le_of_ble_eq_true rfl) ?_
                  exact W.zret (v := 0) (ty := .boolean) hx hb hr (by decide) (fun t ht hW => ⟨⟨0, (), rfl, trivial, by rw [ht]; exact hP9, va_K.moved hW.alike hK9, hD9⟩, hS.F ht⟩) hS.2.2 d_OM_isAction_111
                · skip
                  refine lv_iconst (v := 1) hx hb d_OM_isAction_106 (by decide) ?_
                  refine lv_goto (tgt := 111) hx hb d_OM_isAction_107 (by decide) ?_
                  refine tp_pc (pc' := 111) (by rfl) ?_
                  obtain ⟨hP9, hD9, -⟩ := cut3 (wc := []) hP hD rfl hS hA [] (by decide +kernel) rfl
                  have hK9 := hK.sub (tys' := []) [] rfl
                  refine W.widen (k := 0) (n := 0) (by exact Nat.le_of_ble_eq_true rfl) (by exact Nat.le_of_ble_eq_true rfl) ?_
                  exact W.zret (v := 1) (ty := .boolean) hx hb hr (by decide) (fun t ht hW => ⟨⟨1, (), rfl, trivial, by rw [ht]; exact hP9, va_K.moved hW.alike hK9, hD9⟩, hS.F ht⟩) hS.2.2 d_OM_isAction_111
  · skip
    refine lv_iload_n hx hb d_OM_isAction_0 rfl (lv_at hl 1 rfl) ?_
    refine lv_if_lt (tgt := 13) hx hb d_OM_isAction_1 (by decide) (fun c_67 => ?_) (fun c_67 => ?_)
    · skip
      refine lv_iconst (v := 0) hx hb d_OM_isAction_13 (by decide) ?_
      refine lv_istore (lv' := [(4, .int 0), (0, .int 1), (1, .int p1), (2, .int p2), (3, .int p3)]) hx hb d_OM_isAction_14 hl (by decide) rfl ?_
      clear hl ls
      intro ls hl
      refine lv_iload_n hx hb d_OM_isAction_16 rfl (lv_at hl 3 rfl) ?_
      refine lv_if_lt (tgt := 29) hx hb d_OM_isAction_17 (by decide) (fun c_68 => ?_) (fun c_68 => ?_)
      · skip
        refine lv_iconst (v := 0) hx hb d_OM_isAction_29 (by decide) ?_
        refine lv_istore (lv' := [(5, .int 0), (4, .int 0), (0, .int 1), (1, .int p1), (2, .int p2), (3, .int p3)]) hx hb d_OM_isAction_30 hl (by decide) rfl ?_
        clear hl ls
        intro ls hl
        refine lv_iload_n hx hb d_OM_isAction_32 rfl (lv_at hl 5 rfl) ?_
        refine lv_bipush (v := (-9)) hx hb d_OM_isAction_33 (by decide) ?_
        refine lv_icmp_lt (tgt := 48) hx hb d_OM_isAction_35 (by decide) (fun c_69 => ?_) (fun c_69 => ?_)
        · skip
          refine lv_iconst (v := 0) hx hb d_OM_isAction_48 (by decide) ?_
          refine lv_istore (lv' := [(6, .int 0), (5, .int 0), (4, .int 0), (0, .int 1), (1, .int p1), (2, .int p2), (3, .int p3)]) hx hb d_OM_isAction_49 hl (by decide) rfl ?_
          clear hl ls
          intro ls hl
          refine lv_iload_n hx hb d_OM_isAction_51 rfl (lv_at hl 3 rfl) ?_
          refine lv_tableIn (x := 1) (tgt := 112) hx hb d_OM_isAction_52 (by decide) (by decide) (by rfl) (by decide) ?_
          refine tp_pc (pc' := 112) (by rfl) ?_
          refine lv_iload hx hb d_OM_isAction_112 (lv_at hl 2 rfl) ?_
          refine lv_if_eq (tgt := 130) hx hb d_OM_isAction_114 (by decide) (fun c_70 => ?_) (fun c_70 => absurd c_70 (by decide))
          refine tp_pc (pc' := 130) (by rfl) ?_
          refine lv_iconst (v := 0) hx hb d_OM_isAction_130 (by decide) ?_
          obtain ⟨hP9, hD9, -⟩ := cut3 (wc := []) hP hD rfl hS hA [] (by decide +kernel) rfl
          have hK9 := hK.sub (tys' := []) [] rfl
          refine W.widen (k := 0) (n := 0) (by exact Nat.le_of_ble_eq_true rfl) (by exact Nat.le_of_ble_eq_true rfl) ?_
          exact W.zret (v := 0) (ty := .boolean) hx hb hr (by decide) (fun t ht hW => ⟨⟨0, (), rfl, trivial, by rw [ht]; exact hP9, va_K.moved hW.alike hK9, hD9⟩, hS.F ht⟩) hS.2.2 d_OM_isAction_131
        · skip
          refine lv_iload_n hx hb d_OM_isAction_38 rfl (lv_at hl 5 rfl) ?_
          refine lv_bipush (v := 9) hx hb d_OM_isAction_39 (by decide) ?_
          refine lv_icmp_gt (tgt := 48) hx hb d_OM_isAction_41 (by decide) (fun c_71 => ?_) (fun c_71 => ?_)
          · skip
            refine lv_iconst (v := 0) hx hb d_OM_isAction_48 (by decide) ?_
            refine lv_istore (lv' := [(6, .int 0), (5, .int 0), (4, .int 0), (0, .int 1), (1, .int p1), (2, .int p2), (3, .int p3)]) hx hb d_OM_isAction_49 hl (by decide) rfl ?_
            clear hl ls
            intro ls hl
            refine lv_iload_n hx hb d_OM_isAction_51 rfl (lv_at hl 3 rfl) ?_
            refine lv_tableIn (x := 1) (tgt := 112) hx hb d_OM_isAction_52 (by decide) (by decide) (by rfl) (by decide) ?_
            refine tp_pc (pc' := 112) (by rfl) ?_
            refine lv_iload hx hb d_OM_isAction_112 (lv_at hl 2 rfl) ?_
            refine lv_if_eq (tgt := 130) hx hb d_OM_isAction_114 (by decide) (fun c_72 => ?_) (fun c_72 => absurd c_72 (by decide))
            refine tp_pc (pc' := 130) (by rfl) ?_
            refine lv_iconst (v := 0) hx hb d_OM_isAction_130 (by decide) ?_
            obtain ⟨hP9, hD9, -⟩ := cut3 (wc := []) hP hD rfl hS hA [] (by decide +kernel) rfl
            have hK9 := hK.sub (tys' := []) [] rfl
            refine W.widen (k := 0) (n := 0) (by exact Nat.le_of_ble_eq_true rfl) (by exact Nat.le_of_ble_eq_true rfl) ?_
            exact W.zret (v := 0) (ty := .boolean) hx hb hr (by decide) (fun t ht hW => ⟨⟨0, (), rfl, trivial, by rw [ht]; exact hP9, va_K.moved hW.alike hK9, hD9⟩, hS.F ht⟩) hS.2.2 d_OM_isAction_131
          · skip
            refine lv_iconst (v := 1) hx hb d_OM_isAction_44 (by decide) ?_
            refine lv_goto (tgt := 49) hx hb d_OM_isAction_45 (by decide) ?_
            refine tp_pc (pc' := 49) (by rfl) ?_
            refine lv_istore (lv' := [(6, .int 1), (5, .int 0), (4, .int 0), (0, .int 1), (1, .int p1), (2, .int p2), (3, .int p3)]) hx hb d_OM_isAction_49 hl (by decide) rfl ?_
            clear hl ls
            intro ls hl
            refine lv_iload_n hx hb d_OM_isAction_51 rfl (lv_at hl 3 rfl) ?_
            refine lv_tableIn (x := 1) (tgt := 112) hx hb d_OM_isAction_52 (by decide) (by decide) (by rfl) (by decide) ?_
            refine tp_pc (pc' := 112) (by rfl) ?_
            refine lv_iload hx hb d_OM_isAction_112 (lv_at hl 2 rfl) ?_
            refine lv_if_eq (tgt := 130) hx hb d_OM_isAction_114 (by decide) (fun c_73 => ?_) (fun c_73 => absurd c_73 (by decide))
            refine tp_pc (pc' := 130) (by rfl) ?_
            refine lv_iconst (v := 0) hx hb d_OM_isAction_130 (by decide) ?_
            obtain ⟨hP9, hD9, -⟩ := cut3 (wc := []) hP hD rfl hS hA [] (by decide +kernel) rfl
            have hK9 := hK.sub (tys' := []) [] rfl
            refine W.widen (k := 0) (n := 0) (by exact Nat.le_of_ble_eq_true rfl) (by exact Nat.le_of_ble_eq_true rfl) ?_
            exact W.zret (v := 0) (ty := .boolean) hx hb hr (by decide) (fun t ht hW => ⟨⟨0, (), rfl, trivial, by rw [ht]; exact hP9, va_K.moved hW.alike hK9, hD9⟩, hS.F ht⟩) hS.2.2 d_OM_isAction_131
      · skip
        refine lv_iload_n hx hb d_OM_isAction_20 rfl (lv_at hl 3 rfl) ?_
        refine lv_iconst (v := 2) hx hb d_OM_isAction_21 (by decide) ?_
        refine lv_icmp_ge (tgt := 29) hx hb d_OM_isAction_22 (by decide) (fun c_74 => ?_) (fun c_74 => ?_)
        · skip
          refine lv_iconst (v := 0) hx hb d_OM_isAction_29 (by decide) ?_
          refine lv_istore (lv' := [(5, .int 0), (4, .int 0), (0, .int 1), (1, .int p1), (2, .int p2), (3, .int p3)]) hx hb d_OM_isAction_30 hl (by decide) rfl ?_
          clear hl ls
          intro ls hl
          refine lv_iload_n hx hb d_OM_isAction_32 rfl (lv_at hl 5 rfl) ?_
          refine lv_bipush (v := (-9)) hx hb d_OM_isAction_33 (by decide) ?_
          refine lv_icmp_lt (tgt := 48) hx hb d_OM_isAction_35 (by decide) (fun c_75 => ?_) (fun c_75 => ?_)
          · skip
            refine lv_iconst (v := 0) hx hb d_OM_isAction_48 (by decide) ?_
            refine lv_istore (lv' := [(6, .int 0), (5, .int 0), (4, .int 0), (0, .int 1), (1, .int p1), (2, .int p2), (3, .int p3)]) hx hb d_OM_isAction_49 hl (by decide) rfl ?_
            clear hl ls
            intro ls hl
            refine lv_iload_n hx hb d_OM_isAction_51 rfl (lv_at hl 3 rfl) ?_
            refine lv_tableIn (x := 1) (tgt := 112) hx hb d_OM_isAction_52 (by decide) (by decide) (by rfl) (by decide) ?_
            refine tp_pc (pc' := 112) (by rfl) ?_
            refine lv_iload hx hb d_OM_isAction_112 (lv_at hl 2 rfl) ?_
            refine lv_if_eq (tgt := 130) hx hb d_OM_isAction_114 (by decide) (fun c_76 => ?_) (fun c_76 => absurd c_76 (by decide))
            refine tp_pc (pc' := 130) (by rfl) ?_
            refine lv_iconst (v := 0) hx hb d_OM_isAction_130 (by decide) ?_
            obtain ⟨hP9, hD9, -⟩ := cut3 (wc := []) hP hD rfl hS hA [] (by decide +kernel) rfl
            have hK9 := hK.sub (tys' := []) [] rfl
            refine W.widen (k := 0) (n := 0) (by exact Nat.le_of_ble_eq_true rfl) (by exact Nat.le_of_ble_eq_true rfl) ?_
            exact W.zret (v := 0) (ty := .boolean) hx hb hr (by decide) (fun t ht hW => ⟨⟨0, (), rfl, trivial, by rw [ht]; exact hP9, va_K.moved hW.alike hK9, hD9⟩, hS.F ht⟩) hS.2.2 d_OM_isAction_131
          · skip
            refine lv_iload_n hx hb d_OM_isAction_38 rfl (lv_at hl 5 rfl) ?_
            refine lv_bipush (v := 9) hx hb d_OM_isAction_39 (by decide) ?_
            refine lv_icmp_gt (tgt := 48) hx hb d_OM_isAction_41 (by decide) (fun c_77 => ?_) (fun c_77 => ?_)
            · skip
              refine lv_iconst (v := 0) hx hb d_OM_isAction_48 (by decide) ?_
              refine lv_istore (lv' := [(6, .int 0), (5, .int 0), (4, .int 0), (0, .int 1), (1, .int p1), (2, .int p2), (3, .int p3)]) hx hb d_OM_isAction_49 hl (by decide) rfl ?_
              clear hl ls
              intro ls hl
              refine lv_iload_n hx hb d_OM_isAction_51 rfl (lv_at hl 3 rfl) ?_
              refine lv_tableIn (x := 1) (tgt := 112) hx hb d_OM_isAction_52 (by decide) (by decide) (by rfl) (by decide) ?_
              refine tp_pc (pc' := 112) (by rfl) ?_
              refine lv_iload hx hb d_OM_isAction_112 (lv_at hl 2 rfl) ?_
              refine lv_if_eq (tgt := 130) hx hb d_OM_isAction_114 (by decide) (fun c_78 => ?_) (fun c_78 => absurd c_78 (by decide))
              refine tp_pc (pc' := 130) (by rfl) ?_
              refine lv_iconst (v := 0) hx hb d_OM_isAction_130 (by decide) ?_
              obtain ⟨hP9, hD9, -⟩ := cut3 (wc := []) hP hD rfl hS hA [] (by decide +kernel) rfl
              have hK9 := hK.sub (tys' := []) [] rfl
              refine W.widen (k := 0) (n := 0) (by exact Nat.le_of_ble_eq_true rfl) (by exact Nat.le_of_ble_eq_true rfl) ?_
              exact W.zret (v := 0) (ty := .boolean) hx hb hr (by decide) (fun t ht hW => ⟨⟨0, (), rfl, trivial, by rw [ht]; exact hP9, va_K.moved hW.alike hK9, hD9⟩, hS.F ht⟩) hS.2.2 d_OM_isAction_131
            · skip
              refine lv_iconst (v := 1) hx hb d_OM_isAction_44 (by decide) ?_
              refine lv_goto (tgt := 49) hx hb d_OM_isAction_45 (by decide) ?_
              refine tp_pc (pc' := 49) (by rfl) ?_
              refine lv_istore (lv' := [(6, .int 1), (5, .int 0), (4, .int 0), (0, .int 1), (1, .int p1), (2, .int p2), (3, .int p3)]) hx hb d_OM_isAction_49 hl (by decide) rfl ?_
              clear hl ls
              intro ls hl
              refine lv_iload_n hx hb d_OM_isAction_51 rfl (lv_at hl 3 rfl) ?_
              refine lv_tableIn (x := 1) (tgt := 112) hx hb d_OM_isAction_52 (by decide) (by decide) (by rfl) (by decide) ?_
              refine tp_pc (pc' := 112) (by rfl) ?_
              refine lv_iload hx hb d_OM_isAction_112 (lv_at hl 2 rfl) ?_
              refine lv_if_eq (tgt := 130) hx hb d_OM_isAction_114 (by decide) (fun c_79 => ?_) (fun c_79 => absurd c_79 (by decide))
              refine tp_pc (pc' := 130) (by rfl) ?_
              refine lv_iconst (v := 0) hx hb d_OM_isAction_130 (by decide) ?_
              obtain ⟨hP9, hD9, -⟩ := cut3 (wc := []) hP hD rfl hS hA [] (by decide +kernel) rfl
              have hK9 := hK.sub (tys' := []) [] rfl
              refine W.widen (k := 0) (n := 0) (by exact Nat.le_of_ble_eq_true rfl) (by exact Nat.le_of_ble_eq_true rfl) ?_
              exact W.zret (v := 0) (ty := .boolean) hx hb hr (by decide) (fun t ht hW => ⟨⟨0, (), rfl, trivial, by rw [ht]; exact hP9, va_K.moved hW.alike hK9, hD9⟩, hS.F ht⟩) hS.2.2 d_OM_isAction_131
        · skip
          refine lv_iconst (v := 1) hx hb d_OM_isAction_25 (by decide) ?_
          refine lv_goto (tgt := 30) hx hb d_OM_isAction_26 (by decide) ?_
          refine tp_pc (pc' := 30) (by rfl) ?_
          refine lv_istore (lv' := [(5, .int 1), (4, .int 0), (0, .int 1), (1, .int p1), (2, .int p2), (3, .int p3)]) hx hb d_OM_isAction_30 hl (by decide) rfl ?_
          clear hl ls
          intro ls hl
          refine lv_iload_n hx hb d_OM_isAction_32 rfl (lv_at hl 5 rfl) ?_
          refine lv_bipush (v := (-9)) hx hb d_OM_isAction_33 (by decide) ?_
          refine lv_icmp_lt (tgt := 48) hx hb d_OM_isAction_35 (by decide) (fun c_80 => ?_) (fun c_80 => ?_)
          · skip
            refine lv_iconst (v := 0) hx hb d_OM_isAction_48 (by decide) ?_
            refine lv_istore (lv' := [(6, .int 0), (5, .int 1), (4, .int 0), (0, .int 1), (1, .int p1), (2, .int p2), (3, .int p3)]) hx hb d_OM_isAction_49 hl (by decide) rfl ?_
            clear hl ls
            intro ls hl
            refine lv_iload_n hx hb d_OM_isAction_51 rfl (lv_at hl 3 rfl) ?_
            refine lv_tableIn (x := 1) (tgt := 112) hx hb d_OM_isAction_52 (by decide) (by decide) (by rfl) (by decide) ?_
            refine tp_pc (pc' := 112) (by rfl) ?_
            refine lv_iload hx hb d_OM_isAction_112 (lv_at hl 2 rfl) ?_
            refine lv_if_eq (tgt := 130) hx hb d_OM_isAction_114 (by decide) (fun c_81 => ?_) (fun c_81 => absurd c_81 (by decide))
            refine tp_pc (pc' := 130) (by rfl) ?_
            refine lv_iconst (v := 0) hx hb d_OM_isAction_130 (by decide) ?_
            obtain ⟨hP9, hD9, -⟩ := cut3 (wc := []) hP hD rfl hS hA [] (by decide +kernel) rfl
            have hK9 := hK.sub (tys' := []) [] rfl
            refine W.widen (k := 0) (n := 0) (by exact Nat.le_of_ble_eq_true rfl) (by exact Nat.le_of_ble_eq_true rfl) ?_
            exact W.zret (v := 0) (ty := .boolean) hx hb hr (by decide) (fun t ht hW => ⟨⟨0, (), rfl, trivial, by rw [ht]; exact hP9, va_K.moved hW.alike hK9, hD9⟩, hS.F ht⟩) hS.2.2 d_OM_isAction_131
          · skip
            refine lv_iload_n hx hb d_OM_isAction_38 rfl (lv_at hl 5 rfl) ?_
            refine lv_bipush (v := 9) hx hb d_OM_isAction_39 (by decide) ?_
            refine lv_icmp_gt (tgt := 48) hx hb d_OM_isAction_41 (by decide) (fun c_82 => ?_) (fun c_82 => ?_)
            · skip
              refine lv_iconst (v := 0) hx hb d_OM_isAction_48 (by decide) ?_
              refine lv_istore (lv' := [(6, .int 0), (5, .int 1), (4, .int 0), (0, .int 1), (1, .int p1), (2, .int p2), (3, .int p3)]) hx hb d_OM_isAction_49 hl (by decide) rfl ?_
              clear hl ls
              intro ls hl
              refine lv_iload_n hx hb d_OM_isAction_51 rfl (lv_at hl 3 rfl) ?_
              refine lv_tableIn (x := 1) (tgt := 112) hx hb d_OM_isAction_52 (by decide) (by decide) (by rfl) (by decide) ?_
              refine tp_pc (pc' := 112) (by rfl) ?_
              refine lv_iload hx hb d_OM_isAction_112 (lv_at hl 2 rfl) ?_
              refine lv_if_eq (tgt := 130) hx hb d_OM_isAction_114 (by decide) (fun c_83 => ?_) (fun c_83 => absurd c_83 (by decide))
              refine tp_pc (pc' := 130) (by rfl) ?_
              refine lv_iconst (v := 0) hx hb d_OM_isAction_130 (by decide) ?_
              obtain ⟨hP9, hD9, -⟩ := cut3 (wc := []) hP hD rfl hS hA [] (by decide +kernel) rfl
              have hK9 := hK.sub (tys' := []) [] rfl
              refine W.widen (k := 0) (n := 0) (by exact Nat.le_of_ble_eq_true rfl) (by exact Nat.le_of_ble_eq_true rfl) ?_
              exact W.zret (v := 0) (ty := .boolean) hx hb hr (by decide) (fun t ht hW => ⟨⟨0, (), rfl, trivial, by rw [ht]; exact hP9, va_K.moved hW.alike hK9, hD9⟩, hS.F ht⟩) hS.2.2 d_OM_isAction_131
            · skip
              refine lv_iconst (v := 1) hx hb d_OM_isAction_44 (by decide) ?_
              refine lv_goto (tgt := 49) hx hb d_OM_isAction_45 (by decide) ?_
              refine tp_pc (pc' := 49) (by rfl) ?_
              refine lv_istore (lv' := [(6, .int 1), (5, .int 1), (4, .int 0), (0, .int 1), (1, .int p1), (2, .int p2), (3, .int p3)]) hx hb d_OM_isAction_49 hl (by decide) rfl ?_
              clear hl ls
              intro ls hl
              refine lv_iload_n hx hb d_OM_isAction_51 rfl (lv_at hl 3 rfl) ?_
              refine lv_tableIn (x := 1) (tgt := 112) hx hb d_OM_isAction_52 (by decide) (by decide) (by rfl) (by decide) ?_
              refine tp_pc (pc' := 112) (by rfl) ?_
              refine lv_iload hx hb d_OM_isAction_112 (lv_at hl 2 rfl) ?_
              refine lv_if_eq (tgt := 130) hx hb d_OM_isAction_114 (by decide) (fun c_84 => ?_) (fun c_84 => absurd c_84 (by decide))
              refine tp_pc (pc' := 130) (by rfl) ?_
              refine lv_iconst (v := 0) hx hb d_OM_isAction_130 (by decide) ?_
              obtain ⟨hP9, hD9, -⟩ := cut3 (wc := []) hP hD rfl hS hA [] (by decide +kernel) rfl
              have hK9 := hK.sub (tys' := []) [] rfl
              refine W.widen (k := 0) (n := 0) (by exact Nat.le_of_ble_eq_true rfl) (by exact Nat.le_of_ble_eq_true rfl) ?_
              exact W.zret (v := 0) (ty := .boolean) hx hb hr (by decide) (fun t ht hW => ⟨⟨0, (), rfl, trivial, by rw [ht]; exact hP9, va_K.moved hW.alike hK9, hD9⟩, hS.F ht⟩) hS.2.2 d_OM_isAction_131
    · skip
      refine lv_iload_n hx hb d_OM_isAction_4 rfl (lv_at hl 1 rfl) ?_
      refine lv_iconst (v := 3) hx hb d_OM_isAction_5 (by decide) ?_
      refine lv_icmp_ge (tgt := 13) hx hb d_OM_isAction_6 (by decide) (fun c_85 => ?_) (fun c_85 => ?_)
      · skip
        refine lv_iconst (v := 0) hx hb d_OM_isAction_13 (by decide) ?_
        refine lv_istore (lv' := [(4, .int 0), (0, .int 1), (1, .int p1), (2, .int p2), (3, .int p3)]) hx hb d_OM_isAction_14 hl (by decide) rfl ?_
        clear hl ls
        intro ls hl
        refine lv_iload_n hx hb d_OM_isAction_16 rfl (lv_at hl 3 rfl) ?_
        refine lv_if_lt (tgt := 29) hx hb d_OM_isAction_17 (by decide) (fun c_86 => ?_) (fun c_86 => ?_)
        · skip
          refine lv_iconst (v := 0) hx hb d_OM_isAction_29 (by decide) ?_
          refine lv_istore (lv' := [(5, .int 0), (4, .int 0), (0, .int 1), (1, .int p1), (2, .int p2), (3, .int p3)]) hx hb d_OM_isAction_30 hl (by decide) rfl ?_
          clear hl ls
          intro ls hl
          refine lv_iload_n hx hb d_OM_isAction_32 rfl (lv_at hl 5 rfl) ?_
          refine lv_bipush (v := (-9)) hx hb d_OM_isAction_33 (by decide) ?_
          refine lv_icmp_lt (tgt := 48) hx hb d_OM_isAction_35 (by decide) (fun c_87 => ?_) (fun c_87 => ?_)
          · skip
            refine lv_iconst (v := 0) hx hb d_OM_isAction_48 (by decide) ?_
            refine lv_istore (lv' := [(6, .int 0), (5, .int 0), (4, .int 0), (0, .int 1), (1, .int p1), (2, .int p2), (3, .int p3)]) hx hb d_OM_isAction_49 hl (by decide) rfl ?_
            clear hl ls
            intro ls hl
            refine lv_iload_n hx hb d_OM_isAction_51 rfl (lv_at hl 3 rfl) ?_
            refine lv_tableIn (x := 1) (tgt := 112) hx hb d_OM_isAction_52 (by decide) (by decide) (by rfl) (by decide) ?_
            refine tp_pc (pc' := 112) (by rfl) ?_
            refine lv_iload hx hb d_OM_isAction_112 (lv_at hl 2 rfl) ?_
            refine lv_if_eq (tgt := 130) hx hb d_OM_isAction_114 (by decide) (fun c_88 => ?_) (fun c_88 => absurd c_88 (by decide))
            refine tp_pc (pc' := 130) (by rfl) ?_
            refine lv_iconst (v := 0) hx hb d_OM_isAction_130 (by decide) ?_
            obtain ⟨hP9, hD9, -⟩ := cut3 (wc := []) hP hD rfl hS hA [] (by decide +kernel) rfl
            have hK9 := hK.sub (tys' := []) [] rfl
            refine W.widen (k := 0) (n := 0) (by exact Nat.le_of_ble_eq_true rfl) (by exact Nat.le_of_ble_eq_true rfl) ?_
            exact W.zret (v := 0) (ty := .boolean) hx hb hr (by decide) (fun t ht hW => ⟨⟨0, (), rfl, trivial, by rw [ht]; exact hP9, va_K.moved hW.alike hK9, hD9⟩, hS.F ht⟩) hS.2.2 d_OM_isAction_131
          · skip
            refine lv_iload_n hx hb d_OM_isAction_38 rfl (lv_at hl 5 rfl) ?_
            refine lv_bipush (v := 9) hx hb d_OM_isAction_39 (by decide) ?_
            refine lv_icmp_gt (tgt := 48) hx hb d_OM_isAction_41 (by decide) (fun c_89 => ?_) (fun c_89 => ?_)
            · skip
              refine lv_iconst (v := 0) hx hb d_OM_isAction_48 (by decide) ?_
              refine lv_istore (lv' := [(6, .int 0), (5, .int 0), (4, .int 0), (0, .int 1), (1, .int p1), (2, .int p2), (3, .int p3)]) hx hb d_OM_isAction_49 hl (by decide) rfl ?_
              clear hl ls
              intro ls hl
              refine lv_iload_n hx hb d_OM_isAction_51 rfl (lv_at hl 3 rfl) ?_
              refine lv_tableIn (x := 1) (tgt := 112) hx hb d_OM_isAction_52 (by decide) (by decide) (by rfl) (by decide) ?_
              refine tp_pc (pc' := 112) (by rfl) ?_
              refine lv_iload hx hb d_OM_isAction_112 (lv_at hl 2 rfl) ?_
              refine lv_if_eq (tgt := 130) hx hb d_OM_isAction_114 (by decide) (fun c_90 => ?_) (fun c_90 => absurd c_90 (by decide))
              refine tp_pc (pc' := 130) (by rfl) ?_
              refine lv_iconst (v := 0) hx hb d_OM_isAction_130 (by decide) ?_
              obtain ⟨hP9, hD9, -⟩ := cut3 (wc := []) hP hD rfl hS hA [] (by decide +kernel) rfl
              have hK9 := hK.sub (tys' := []) [] rfl
              refine W.widen (k := 0) (n := 0) (by exact Nat.le_of_ble_eq_true rfl) (by exact Nat.le_of_ble_eq_true rfl) ?_
              exact W.zret (v := 0) (ty := .boolean) hx hb hr (by decide) (fun t ht hW => ⟨⟨0, (), rfl, trivial, by rw [ht]; exact hP9, va_K.moved hW.alike hK9, hD9⟩, hS.F ht⟩) hS.2.2 d_OM_isAction_131
            · skip
              refine lv_iconst (v := 1) hx hb d_OM_isAction_44 (by decide) ?_
              refine lv_goto (tgt := 49) hx hb d_OM_isAction_45 (by decide) ?_
              refine tp_pc (pc' := 49) (by rfl) ?_
              refine lv_istore (lv' := [(6, .int 1), (5, .int 0), (4, .int 0), (0, .int 1), (1, .int p1), (2, .int p2), (3, .int p3)]) hx hb d_OM_isAction_49 hl (by decide) rfl ?_
              clear hl ls
              intro ls hl
              refine lv_iload_n hx hb d_OM_isAction_51 rfl (lv_at hl 3 rfl) ?_
              refine lv_tableIn (x := 1) (tgt := 112) hx hb d_OM_isAction_52 (by decide) (by decide) (by rfl) (by decide) ?_
              refine tp_pc (pc' := 112) (by rfl) ?_
              refine lv_iload hx hb d_OM_isAction_112 (lv_at hl 2 rfl) ?_
              refine lv_if_eq (tgt := 130) hx hb d_OM_isAction_114 (by decide) (fun c_91 => ?_) (fun c_91 => absurd c_91 (by decide))
              refine tp_pc (pc' := 130) (by rfl) ?_
              refine lv_iconst (v := 0) hx hb d_OM_isAction_130 (by decide) ?_
              obtain ⟨hP9, hD9, -⟩ := cut3 (wc := []) hP hD rfl hS hA [] (by decide +kernel) rfl
              have hK9 := hK.sub (tys' := []) [] rfl
              refine W.widen (k := 0) (n := 0) (by exact Nat.le_of_ble_eq_true rfl) (by exact Nat.le_of_ble_eq_true rfl) ?_
              exact W.zret (v := 0) (ty := .boolean) hx hb hr (by decide) (fun t ht hW => ⟨⟨0, (), rfl, trivial, by rw [ht]; exact hP9, va_K.moved hW.alike hK9, hD9⟩, hS.F ht⟩) hS.2.2 d_OM_isAction_131
        · skip
          refine lv_iload_n hx hb d_OM_isAction_20 rfl (lv_at hl 3 rfl) ?_
          refine lv_iconst (v := 2) hx hb d_OM_isAction_21 (by decide) ?_
          refine lv_icmp_ge (tgt := 29) hx hb d_OM_isAction_22 (by decide) (fun c_92 => ?_) (fun c_92 => ?_)
          · skip
            refine lv_iconst (v := 0) hx hb d_OM_isAction_29 (by decide) ?_
            refine lv_istore (lv' := [(5, .int 0), (4, .int 0), (0, .int 1), (1, .int p1), (2, .int p2), (3, .int p3)]) hx hb d_OM_isAction_30 hl (by decide) rfl ?_
            clear hl ls
            intro ls hl
            refine lv_iload_n hx hb d_OM_isAction_32 rfl (lv_at hl 5 rfl) ?_
            refine lv_bipush (v := (-9)) hx hb d_OM_isAction_33 (by decide) ?_
            refine lv_icmp_lt (tgt := 48) hx hb d_OM_isAction_35 (by decide) (fun c_93 => ?_) (fun c_93 => ?_)
            · skip
              refine lv_iconst (v := 0) hx hb d_OM_isAction_48 (by decide) ?_
              refine lv_istore (lv' := [(6, .int 0), (5, .int 0), (4, .int 0), (0, .int 1), (1, .int p1), (2, .int p2), (3, .int p3)]) hx hb d_OM_isAction_49 hl (by decide) rfl ?_
              clear hl ls
              intro ls hl
              refine lv_iload_n hx hb d_OM_isAction_51 rfl (lv_at hl 3 rfl) ?_
              refine lv_tableIn (x := 1) (tgt := 112) hx hb d_OM_isAction_52 (by decide) (by decide) (by rfl) (by decide) ?_
              refine tp_pc (pc' := 112) (by rfl) ?_
              refine lv_iload hx hb d_OM_isAction_112 (lv_at hl 2 rfl) ?_
              refine lv_if_eq (tgt := 130) hx hb d_OM_isAction_114 (by decide) (fun c_94 => ?_) (fun c_94 => absurd c_94 (by decide))
              refine tp_pc (pc' := 130) (by rfl) ?_
              refine lv_iconst (v := 0) hx hb d_OM_isAction_130 (by decide) ?_
              obtain ⟨hP9, hD9, -⟩ := cut3 (wc := []) hP hD rfl hS hA [] (by decide +kernel) rfl
              have hK9 := hK.sub (tys' := []) [] rfl
              refine W.widen (k := 0) (n := 0) (by exact Nat.le_of_ble_eq_true rfl) (by exact Nat.le_of_ble_eq_true rfl) ?_
              exact W.zret (v := 0) (ty := .boolean) hx hb hr (by decide) (fun t ht hW => ⟨⟨0, (), rfl, trivial, by rw [ht]; exact hP9, va_K.moved hW.alike hK9, hD9⟩, hS.F ht⟩) hS.2.2 d_OM_isAction_131
            · skip
              refine lv_iload_n hx hb d_OM_isAction_38 rfl (lv_at hl 5 rfl) ?_
              refine lv_bipush (v := 9) hx hb d_OM_isAction_39 (by decide) ?_
              refine lv_icmp_gt (tgt := 48) hx hb d_OM_isAction_41 (by decide) (fun c_95 => ?_) (fun c_95 => ?_)
              · skip
                refine lv_iconst (v := 0) hx hb d_OM_isAction_48 (by decide) ?_
                refine lv_istore (lv' := [(6, .int 0), (5, .int 0), (4, .int 0), (0, .int 1), (1, .int p1), (2, .int p2), (3, .int p3)]) hx hb d_OM_isAction_49 hl (by decide) rfl ?_
                clear hl ls
                intro ls hl
                refine lv_iload_n hx hb d_OM_isAction_51 rfl (lv_at hl 3 rfl) ?_
                refine lv_tableIn (x := 1) (tgt := 112) hx hb d_OM_isAction_52 (by decide) (by decide) (by rfl) (by decide) ?_
                refine tp_pc (pc' := 112) (by rfl) ?_
                refine lv_iload hx hb d_OM_isAction_112 (lv_at hl 2 rfl) ?_
                refine lv_if_eq (tgt := 130) hx hb d_OM_isAction_114 (by decide) (fun c_96 => ?_) (fun c_96 => absurd c_96 (by decide))
                refine tp_pc (pc' := 130) (by rfl) ?_
                refine lv_iconst (v := 0) hx hb d_OM_isAction_130 (by decide) ?_
                obtain ⟨hP9, hD9, -⟩ := cut3 (wc := []) hP hD rfl hS hA [] (by decide +kernel) rfl
                have hK9 := hK.sub (tys' := []) [] rfl
                refine W.widen (k := 0) (n := 0) (by exact Nat.le_of_ble_eq_true rfl) (by exact Nat.le_of_ble_eq_true rfl) ?_
                exact W.zret (v := 0) (ty := .boolean) hx hb hr (by decide) (fun t ht hW => ⟨⟨0, (), rfl, trivial, by rw [ht]; exact hP9, va_K.moved hW.alike hK9, hD9⟩, hS.F ht⟩) hS.2.2 d_OM_isAction_131
              · skip
                refine lv_iconst (v := 1) hx hb d_OM_isAction_44 (by decide) ?_
                refine lv_goto (tgt := 49) hx hb d_OM_isAction_45 (by decide) ?_
                refine tp_pc (pc' := 49) (by rfl) ?_
                refine lv_istore (lv' := [(6, .int 1), (5, .int 0), (4, .int 0), (0, .int 1), (1, .int p1), (2, .int p2), (3, .int p3)]) hx hb d_OM_isAction_49 hl (by decide) rfl ?_
                clear hl ls
                intro ls hl
                refine lv_iload_n hx hb d_OM_isAction_51 rfl (lv_at hl 3 rfl) ?_
                refine lv_tableIn (x := 1) (tgt := 112) hx hb d_OM_isAction_52 (by decide) (by decide) (by rfl) (by decide) ?_
                refine tp_pc (pc' := 112) (by rfl) ?_
                refine lv_iload hx hb d_OM_isAction_112 (lv_at hl 2 rfl) ?_
                refine lv_if_eq (tgt := 130) hx hb d_OM_isAction_114 (by decide) (fun c_97 => ?_) (fun c_97 => absurd c_97 (by decide))
                refine tp_pc (pc' := 130) (by rfl) ?_
                refine lv_iconst (v := 0) hx hb d_OM_isAction_130 (by decide) ?_
                obtain ⟨hP9, hD9, -⟩ := cut3 (wc := []) hP hD rfl hS hA [] (by decide +kernel) rfl
                have hK9 := hK.sub (tys' := []) [] rfl
                refine W.widen (k := 0) (n := 0) (by exact Nat.le_of_ble_eq_true rfl) (by exact Nat.le_of_ble_eq_true rfl) ?_
                exact W.zret (v := 0) (ty := .boolean) hx hb hr (by decide) (fun t ht hW => ⟨⟨0, (), rfl, trivial, by rw [ht]; exact hP9, va_K.moved hW.alike hK9, hD9⟩, hS.F ht⟩) hS.2.2 d_OM_isAction_131
          · skip
            refine lv_iconst (v := 1) hx hb d_OM_isAction_25 (by decide) ?_
            refine lv_goto (tgt := 30) hx hb d_OM_isAction_26 (by decide) ?_
            refine tp_pc (pc' := 30) (by rfl) ?_
            refine lv_istore (lv' := [(5, .int 1), (4, .int 0), (0, .int 1), (1, .int p1), (2, .int p2), (3, .int p3)]) hx hb d_OM_isAction_30 hl (by decide) rfl ?_
            clear hl ls
            intro ls hl
            refine lv_iload_n hx hb d_OM_isAction_32 rfl (lv_at hl 5 rfl) ?_
            refine lv_bipush (v := (-9)) hx hb d_OM_isAction_33 (by decide) ?_
            refine lv_icmp_lt (tgt := 48) hx hb d_OM_isAction_35 (by decide) (fun c_98 => ?_) (fun c_98 => ?_)
            · skip
              refine lv_iconst (v := 0) hx hb d_OM_isAction_48 (by decide) ?_
              refine lv_istore (lv' := [(6, .int 0), (5, .int 1), (4, .int 0), (0, .int 1), (1, .int p1), (2, .int p2), (3, .int p3)]) hx hb d_OM_isAction_49 hl (by decide) rfl ?_
              clear hl ls
              intro ls hl
              refine lv_iload_n hx hb d_OM_isAction_51 rfl (lv_at hl 3 rfl) ?_
              refine lv_tableIn (x := 1) (tgt := 112) hx hb d_OM_isAction_52 (by decide) (by decide) (by rfl) (by decide) ?_
              refine tp_pc (pc' := 112) (by rfl) ?_
              refine lv_iload hx hb d_OM_isAction_112 (lv_at hl 2 rfl) ?_
              refine lv_if_eq (tgt := 130) hx hb d_OM_isAction_114 (by decide) (fun c_99 => ?_) (fun c_99 => absurd c_99 (by decide))
              refine tp_pc (pc' := 130) (by rfl) ?_
              refine lv_iconst (v := 0) hx hb d_OM_isAction_130 (by decide) ?_
              obtain ⟨hP9, hD9, -⟩ := cut3 (wc := []) hP hD rfl hS hA [] (by decide +kernel) rfl
              have hK9 := hK.sub (tys' := []) [] rfl
              refine W.widen (k := 0) (n := 0) (by exact Nat.le_of_ble_eq_true rfl) (by exact Nat.le_of_ble_eq_true rfl) ?_
              exact W.zret (v := 0) (ty := .boolean) hx hb hr (by decide) (fun t ht hW => ⟨⟨0, (), rfl, trivial, by rw [ht]; exact hP9, va_K.moved hW.alike hK9, hD9⟩, hS.F ht⟩) hS.2.2 d_OM_isAction_131
            · skip
              refine lv_iload_n hx hb d_OM_isAction_38 rfl (lv_at hl 5 rfl) ?_
              refine lv_bipush (v := 9) hx hb d_OM_isAction_39 (by decide) ?_
              refine lv_icmp_gt (tgt := 48) hx hb d_OM_isAction_41 (by decide) (fun c_100 => ?_) (fun c_100 => ?_)
              · skip
                refine lv_iconst (v := 0) hx hb d_OM_isAction_48 (by decide) ?_
                refine lv_istore (lv' := [(6, .int 0), (5, .int 1), (4, .int 0), (0, .int 1), (1, .int p1), (2, .int p2), (3, .int p3)]) hx hb d_OM_isAction_49 hl (by decide) rfl ?_
                clear hl ls
                intro ls hl
                refine lv_iload_n hx hb d_OM_isAction_51 rfl (lv_at hl 3 rfl) ?_
                refine lv_tableIn (x := 1) (tgt := 112) hx hb d_OM_isAction_52 (by decide) (by decide) (by rfl) (by decide) ?_
                refine tp_pc (pc' := 112) (by rfl) ?_
                refine lv_iload hx hb d_OM_isAction_112 (lv_at hl 2 rfl) ?_
                refine lv_if_eq (tgt := 130) hx hb d_OM_isAction_114 (by decide) (fun c_101 => ?_) (fun c_101 => absurd c_101 (by decide))
                refine tp_pc (pc' := 130) (by rfl) ?_
                refine lv_iconst (v := 0) hx hb d_OM_isAction_130 (by decide) ?_
                obtain ⟨hP9, hD9, -⟩ := cut3 (wc := []) hP hD rfl hS hA [] (by decide +kernel) rfl
                have hK9 := hK.sub (tys' := []) [] rfl
                refine W.widen (k := 0) (n := 0) (by exact Nat.le_of_ble_eq_true rfl) (by exact Nat.le_of_ble_eq_true rfl) ?_
                exact W.zret (v := 0) (ty := .boolean) hx hb hr (by decide) (fun t ht hW => ⟨⟨0, (), rfl, trivial, by rw [ht]; exact hP9, va_K.moved hW.alike hK9, hD9⟩, hS.F ht⟩) hS.2.2 d_OM_isAction_131
              · skip
                refine lv_iconst (v := 1) hx hb d_OM_isAction_44 (by decide) ?_
                refine lv_goto (tgt := 49) hx hb d_OM_isAction_45 (by decide) ?_
                refine tp_pc (pc' := 49) (by rfl) ?_
                refine lv_istore (lv' := [(6, .int 1), (5, .int 1), (4, .int 0), (0, .int 1), (1, .int p1), (2, .int p2), (3, .int p3)]) hx hb d_OM_isAction_49 hl (by decide) rfl ?_
                clear hl ls
                intro ls hl
                refine lv_iload_n hx hb d_OM_isAction_51 rfl (lv_at hl 3 rfl) ?_
                refine lv_tableIn (x := 1) (tgt := 112) hx hb d_OM_isAction_52 (by decide) (by decide) (by rfl) (by decide) ?_
                refine tp_pc (pc' := 112) (by rfl) ?_
                refine lv_iload hx hb d_OM_isAction_112 (lv_at hl 2 rfl) ?_
                refine lv_if_eq (tgt := 130) hx hb d_OM_isAction_114 (by decide) (fun c_102 => ?_) (fun c_102 => absurd c_102 (by decide))
                refine tp_pc (pc' := 130) (by rfl) ?_
                refine lv_iconst (v := 0) hx hb d_OM_isAction_130 (by decide) ?_
                obtain ⟨hP9, hD9, -⟩ := cut3 (wc := []) hP hD rfl hS hA [] (by decide +kernel) rfl
                have hK9 := hK.sub (tys' := []) [] rfl
                refine W.widen (k := 0) (n := 0) (by exact Nat.le_of_ble_eq_true rfl) (by exact Nat.le_of_ble_eq_true rfl) ?_
                exact W.zret (v := 0) (ty := .boolean) hx hb hr (by decide) (fun t ht hW => ⟨⟨0, (), rfl, trivial, by rw [ht]; exact hP9, va_K.moved hW.alike hK9, hD9⟩, hS.F ht⟩) hS.2.2 d_OM_isAction_131
      · skip
        refine lv_iconst (v := 1) hx hb d_OM_isAction_9 (by decide) ?_
        refine lv_goto (tgt := 14) hx hb d_OM_isAction_10 (by decide) ?_
        refine tp_pc (pc' := 14) (by rfl) ?_
        refine lv_istore (lv' := [(4, .int 1), (0, .int 1), (1, .int p1), (2, .int p2), (3, .int p3)]) hx hb d_OM_isAction_14 hl (by decide) rfl ?_
        clear hl ls
        intro ls hl
        refine lv_iload_n hx hb d_OM_isAction_16 rfl (lv_at hl 3 rfl) ?_
        refine lv_if_lt (tgt := 29) hx hb d_OM_isAction_17 (by decide) (fun c_103 => ?_) (fun c_103 => ?_)
        · skip
          refine lv_iconst (v := 0) hx hb d_OM_isAction_29 (by decide) ?_
          refine lv_istore (lv' := [(5, .int 0), (4, .int 1), (0, .int 1), (1, .int p1), (2, .int p2), (3, .int p3)]) hx hb d_OM_isAction_30 hl (by decide) rfl ?_
          clear hl ls
          intro ls hl
          refine lv_iload_n hx hb d_OM_isAction_32 rfl (lv_at hl 5 rfl) ?_
          refine lv_bipush (v := (-9)) hx hb d_OM_isAction_33 (by decide) ?_
          refine lv_icmp_lt (tgt := 48) hx hb d_OM_isAction_35 (by decide) (fun c_104 => ?_) (fun c_104 => ?_)
          · skip
            refine lv_iconst (v := 0) hx hb d_OM_isAction_48 (by decide) ?_
            refine lv_istore (lv' := [(6, .int 0), (5, .int 0), (4, .int 1), (0, .int 1), (1, .int p1), (2, .int p2), (3, .int p3)]) hx hb d_OM_isAction_49 hl (by decide) rfl ?_
            clear hl ls
            intro ls hl
            refine lv_iload_n hx hb d_OM_isAction_51 rfl (lv_at hl 3 rfl) ?_
            refine lv_tableIn (x := 1) (tgt := 112) hx hb d_OM_isAction_52 (by decide) (by decide) (by rfl) (by decide) ?_
            refine tp_pc (pc' := 112) (by rfl) ?_
            refine lv_iload hx hb d_OM_isAction_112 (lv_at hl 2 rfl) ?_
            refine lv_if_eq (tgt := 130) hx hb d_OM_isAction_114 (by decide) (fun c_105 => absurd c_105 (by decide)) (fun c_105 => ?_)
            refine tp_pc (pc' := 117) (by rfl) ?_
            refine lv_iload_n hx hb d_OM_isAction_117 rfl (lv_at hl 5 rfl) ?_
            refine lv_if_ne (tgt := 130) hx hb d_OM_isAction_118 (by decide) (fun c_106 => ?_) (fun c_106 => ?_)
            · skip
              refine lv_iconst (v := 0) hx hb d_OM_isAction_130 (by decide) ?_
              obtain ⟨hP9, hD9, -⟩ := cut3 (wc := []) hP hD rfl hS hA [] (by decide +kernel) rfl
              have hK9 := hK.sub (tys' := []) [] rfl
              refine W.widen (k := 0) (n := 0) (by exact Nat.le_of_ble_eq_true rfl) (by exact Nat.le_of_ble_eq_true rfl) ?_
              exact W.zret (v := 0) (ty := .boolean) hx hb hr (by decide) (fun t ht hW => ⟨⟨0, (), rfl, trivial, by rw [ht]; exact hP9, va_K.moved hW.alike hK9, hD9⟩, hS.F ht⟩) hS.2.2 d_OM_isAction_131
            · skip
              exfalso
              simp only [Int32.lt_iff_toInt_lt, Int32.le_iff_toInt_le, ← Int32.toInt_inj] at c_103 c_106
              have k0 : (0 : Int32).toInt = 0 := by decide
              omega
          · skip
            refine lv_iload_n hx hb d_OM_isAction_38 rfl (lv_at hl 5 rfl) ?_
            refine lv_bipush (v := 9) hx hb d_OM_isAction_39 (by decide) ?_
            refine lv_icmp_gt (tgt := 48) hx hb d_OM_isAction_41 (by decide) (fun c_107 => ?_) (fun c_107 => ?_)
            · skip
              refine lv_iconst (v := 0) hx hb d_OM_isAction_48 (by decide) ?_
              refine lv_istore (lv' := [(6, .int 0), (5, .int 0), (4, .int 1), (0, .int 1), (1, .int p1), (2, .int p2), (3, .int p3)]) hx hb d_OM_isAction_49 hl (by decide) rfl ?_
              clear hl ls
              intro ls hl
              refine lv_iload_n hx hb d_OM_isAction_51 rfl (lv_at hl 3 rfl) ?_
              refine lv_tableIn (x := 1) (tgt := 112) hx hb d_OM_isAction_52 (by decide) (by decide) (by rfl) (by decide) ?_
              refine tp_pc (pc' := 112) (by rfl) ?_
              refine lv_iload hx hb d_OM_isAction_112 (lv_at hl 2 rfl) ?_
              refine lv_if_eq (tgt := 130) hx hb d_OM_isAction_114 (by decide) (fun c_108 => absurd c_108 (by decide)) (fun c_108 => ?_)
              refine tp_pc (pc' := 117) (by rfl) ?_
              refine lv_iload_n hx hb d_OM_isAction_117 rfl (lv_at hl 5 rfl) ?_
              refine lv_if_ne (tgt := 130) hx hb d_OM_isAction_118 (by decide) (fun c_109 => ?_) (fun c_109 => ?_)
              · skip
                refine lv_iconst (v := 0) hx hb d_OM_isAction_130 (by decide) ?_
                obtain ⟨hP9, hD9, -⟩ := cut3 (wc := []) hP hD rfl hS hA [] (by decide +kernel) rfl
                have hK9 := hK.sub (tys' := []) [] rfl
                refine W.widen (k := 0) (n := 0) (by exact Nat.le_of_ble_eq_true rfl) (by exact Nat.le_of_ble_eq_true rfl) ?_
                exact W.zret (v := 0) (ty := .boolean) hx hb hr (by decide) (fun t ht hW => ⟨⟨0, (), rfl, trivial, by rw [ht]; exact hP9, va_K.moved hW.alike hK9, hD9⟩, hS.F ht⟩) hS.2.2 d_OM_isAction_131
              · skip
                exfalso
                simp only [Int32.lt_iff_toInt_lt, Int32.le_iff_toInt_le, ← Int32.toInt_inj] at c_103 c_109
                have k0 : (0 : Int32).toInt = 0 := by decide
                omega
            · skip
              refine lv_iconst (v := 1) hx hb d_OM_isAction_44 (by decide) ?_
              refine lv_goto (tgt := 49) hx hb d_OM_isAction_45 (by decide) ?_
              refine tp_pc (pc' := 49) (by rfl) ?_
              refine lv_istore (lv' := [(6, .int 1), (5, .int 0), (4, .int 1), (0, .int 1), (1, .int p1), (2, .int p2), (3, .int p3)]) hx hb d_OM_isAction_49 hl (by decide) rfl ?_
              clear hl ls
              intro ls hl
              refine lv_iload_n hx hb d_OM_isAction_51 rfl (lv_at hl 3 rfl) ?_
              refine lv_tableIn (x := 1) (tgt := 112) hx hb d_OM_isAction_52 (by decide) (by decide) (by rfl) (by decide) ?_
              refine tp_pc (pc' := 112) (by rfl) ?_
              refine lv_iload hx hb d_OM_isAction_112 (lv_at hl 2 rfl) ?_
              refine lv_if_eq (tgt := 130) hx hb d_OM_isAction_114 (by decide) (fun c_110 => absurd c_110 (by decide)) (fun c_110 => ?_)
              refine tp_pc (pc' := 117) (by rfl) ?_
              refine lv_iload_n hx hb d_OM_isAction_117 rfl (lv_at hl 5 rfl) ?_
              refine lv_if_ne (tgt := 130) hx hb d_OM_isAction_118 (by decide) (fun c_111 => ?_) (fun c_111 => ?_)
              · skip
                refine lv_iconst (v := 0) hx hb d_OM_isAction_130 (by decide) ?_
                obtain ⟨hP9, hD9, -⟩ := cut3 (wc := []) hP hD rfl hS hA [] (by decide +kernel) rfl
                have hK9 := hK.sub (tys' := []) [] rfl
                refine W.widen (k := 0) (n := 0) (by exact Nat.le_of_ble_eq_true rfl) (by exact Nat.le_of_ble_eq_true rfl) ?_
                exact W.zret (v := 0) (ty := .boolean) hx hb hr (by decide) (fun t ht hW => ⟨⟨0, (), rfl, trivial, by rw [ht]; exact hP9, va_K.moved hW.alike hK9, hD9⟩, hS.F ht⟩) hS.2.2 d_OM_isAction_131
              · skip
                exfalso
                simp only [Int32.lt_iff_toInt_lt, Int32.le_iff_toInt_le, ← Int32.toInt_inj] at c_103 c_111
                have k0 : (0 : Int32).toInt = 0 := by decide
                omega
        · skip
          refine lv_iload_n hx hb d_OM_isAction_20 rfl (lv_at hl 3 rfl) ?_
          refine lv_iconst (v := 2) hx hb d_OM_isAction_21 (by decide) ?_
          refine lv_icmp_ge (tgt := 29) hx hb d_OM_isAction_22 (by decide) (fun c_112 => ?_) (fun c_112 => ?_)
          · skip
            refine lv_iconst (v := 0) hx hb d_OM_isAction_29 (by decide) ?_
            refine lv_istore (lv' := [(5, .int 0), (4, .int 1), (0, .int 1), (1, .int p1), (2, .int p2), (3, .int p3)]) hx hb d_OM_isAction_30 hl (by decide) rfl ?_
            clear hl ls
            intro ls hl
            refine lv_iload_n hx hb d_OM_isAction_32 rfl (lv_at hl 5 rfl) ?_
            refine lv_bipush (v := (-9)) hx hb d_OM_isAction_33 (by decide) ?_
            refine lv_icmp_lt (tgt := 48) hx hb d_OM_isAction_35 (by decide) (fun c_113 => ?_) (fun c_113 => ?_)
            · skip
              refine lv_iconst (v := 0) hx hb d_OM_isAction_48 (by decide) ?_
              refine lv_istore (lv' := [(6, .int 0), (5, .int 0), (4, .int 1), (0, .int 1), (1, .int p1), (2, .int p2), (3, .int p3)]) hx hb d_OM_isAction_49 hl (by decide) rfl ?_
              clear hl ls
              intro ls hl
              refine lv_iload_n hx hb d_OM_isAction_51 rfl (lv_at hl 3 rfl) ?_
              refine lv_tableIn (x := 1) (tgt := 112) hx hb d_OM_isAction_52 (by decide) (by decide) (by rfl) (by decide) ?_
              refine tp_pc (pc' := 112) (by rfl) ?_
              refine lv_iload hx hb d_OM_isAction_112 (lv_at hl 2 rfl) ?_
              refine lv_if_eq (tgt := 130) hx hb d_OM_isAction_114 (by decide) (fun c_114 => absurd c_114 (by decide)) (fun c_114 => ?_)
              refine tp_pc (pc' := 117) (by rfl) ?_
              refine lv_iload_n hx hb d_OM_isAction_117 rfl (lv_at hl 5 rfl) ?_
              refine lv_if_ne (tgt := 130) hx hb d_OM_isAction_118 (by decide) (fun c_115 => ?_) (fun c_115 => ?_)
              · skip
                refine lv_iconst (v := 0) hx hb d_OM_isAction_130 (by decide) ?_
                obtain ⟨hP9, hD9, -⟩ := cut3 (wc := []) hP hD rfl hS hA [] (by decide +kernel) rfl
                have hK9 := hK.sub (tys' := []) [] rfl
                refine W.widen (k := 0) (n := 0) (by exact Nat.le_of_ble_eq_true rfl) (by exact Nat.le_of_ble_eq_true rfl) ?_
                exact W.zret (v := 0) (ty := .boolean) hx hb hr (by decide) (fun t ht hW => ⟨⟨0, (), rfl, trivial, by rw [ht]; exact hP9, va_K.moved hW.alike hK9, hD9⟩, hS.F ht⟩) hS.2.2 d_OM_isAction_131
              · skip
                exfalso
                simp only [Int32.lt_iff_toInt_lt, Int32.le_iff_toInt_le, ← Int32.toInt_inj] at c_103 c_112 c_115
                have k0 : (0 : Int32).toInt = 0 := by decide
                have k2 : (2 : Int32).toInt = 2 := by decide
                omega
            · skip
              refine lv_iload_n hx hb d_OM_isAction_38 rfl (lv_at hl 5 rfl) ?_
              refine lv_bipush (v := 9) hx hb d_OM_isAction_39 (by decide) ?_
              refine lv_icmp_gt (tgt := 48) hx hb d_OM_isAction_41 (by decide) (fun c_116 => ?_) (fun c_116 => ?_)
              · skip
                refine lv_iconst (v := 0) hx hb d_OM_isAction_48 (by decide) ?_
                refine lv_istore (lv' := [(6, .int 0), (5, .int 0), (4, .int 1), (0, .int 1), (1, .int p1), (2, .int p2), (3, .int p3)]) hx hb d_OM_isAction_49 hl (by decide) rfl ?_
                clear hl ls
                intro ls hl
                refine lv_iload_n hx hb d_OM_isAction_51 rfl (lv_at hl 3 rfl) ?_
                refine lv_tableIn (x := 1) (tgt := 112) hx hb d_OM_isAction_52 (by decide) (by decide) (by rfl) (by decide) ?_
                refine tp_pc (pc' := 112) (by rfl) ?_
                refine lv_iload hx hb d_OM_isAction_112 (lv_at hl 2 rfl) ?_
                refine lv_if_eq (tgt := 130) hx hb d_OM_isAction_114 (by decide) (fun c_117 => absurd c_117 (by decide)) (fun c_117 => ?_)
                refine tp_pc (pc' := 117) (by rfl) ?_
                refine lv_iload_n hx hb d_OM_isAction_117 rfl (lv_at hl 5 rfl) ?_
                refine lv_if_ne (tgt := 130) hx hb d_OM_isAction_118 (by decide) (fun c_118 => ?_) (fun c_118 => ?_)
                · skip
                  refine lv_iconst (v := 0) hx hb d_OM_isAction_130 (by decide) ?_
                  obtain ⟨hP9, hD9, -⟩ := cut3 (wc := []) hP hD rfl hS hA [] (by decide +kernel) rfl
                  have hK9 := hK.sub (tys' := []) [] rfl
                  refine W.widen (k := 0) (n := 0) (by exact Nat.le_of_ble_eq_true rfl) (by exact Nat.le_of_ble_eq_true rfl) ?_
                  exact W.zret (v := 0) (ty := .boolean) hx hb hr (by decide) (fun t ht hW => ⟨⟨0, (), rfl, trivial, by rw [ht]; exact hP9, va_K.moved hW.alike hK9, hD9⟩, hS.F ht⟩) hS.2.2 d_OM_isAction_131
                · skip
                  exfalso
                  simp only [Int32.lt_iff_toInt_lt, Int32.le_iff_toInt_le, ← Int32.toInt_inj] at c_103 c_112 c_118
                  have k0 : (0 : Int32).toInt = 0 := by decide
                  have k2 : (2 : Int32).toInt = 2 := by decide
                  omega
              · skip
                refine lv_iconst (v := 1) hx hb d_OM_isAction_44 (by decide) ?_
                refine lv_goto (tgt := 49) hx hb d_OM_isAction_45 (by decide) ?_
                refine tp_pc (pc' := 49) (by rfl) ?_
                refine lv_istore (lv' := [(6, .int 1), (5, .int 0), (4, .int 1), (0, .int 1), (1, .int p1), (2, .int p2), (3, .int p3)]) hx hb d_OM_isAction_49 hl (by decide) rfl ?_
                clear hl ls
                intro ls hl
                refine lv_iload_n hx hb d_OM_isAction_51 rfl (lv_at hl 3 rfl) ?_
                refine lv_tableIn (x := 1) (tgt := 112) hx hb d_OM_isAction_52 (by decide) (by decide) (by rfl) (by decide) ?_
                refine tp_pc (pc' := 112) (by rfl) ?_
                refine lv_iload hx hb d_OM_isAction_112 (lv_at hl 2 rfl) ?_
                refine lv_if_eq (tgt := 130) hx hb d_OM_isAction_114 (by decide) (fun c_119 => absurd c_119 (by decide)) (fun c_119 => ?_)
                refine tp_pc (pc' := 117) (by rfl) ?_
                refine lv_iload_n hx hb d_OM_isAction_117 rfl (lv_at hl 5 rfl) ?_
                refine lv_if_ne (tgt := 130) hx hb d_OM_isAction_118 (by decide) (fun c_120 => ?_) (fun c_120 => ?_)
                · skip
                  refine lv_iconst (v := 0) hx hb d_OM_isAction_130 (by decide) ?_
                  obtain ⟨hP9, hD9, -⟩ := cut3 (wc := []) hP hD rfl hS hA [] (by decide +kernel) rfl
                  have hK9 := hK.sub (tys' := []) [] rfl
                  refine W.widen (k := 0) (n := 0) (by exact Nat.le_of_ble_eq_true rfl) (by exact Nat.le_of_ble_eq_true rfl) ?_
                  exact W.zret (v := 0) (ty := .boolean) hx hb hr (by decide) (fun t ht hW => ⟨⟨0, (), rfl, trivial, by rw [ht]; exact hP9, va_K.moved hW.alike hK9, hD9⟩, hS.F ht⟩) hS.2.2 d_OM_isAction_131
                · skip
                  exfalso
                  simp only [Int32.lt_iff_toInt_lt, Int32.le_iff_toInt_le, ← Int32.toInt_inj] at c_103 c_112 c_120
                  have k0 : (0 : Int32).toInt = 0 := by decide
                  have k2 : (2 : Int32).toInt = 2 := by decide
                  omega
          · skip
            refine lv_iconst (v := 1) hx hb d_OM_isAction_25 (by decide) ?_
            refine lv_goto (tgt := 30) hx hb d_OM_isAction_26 (by decide) ?_
            refine tp_pc (pc' := 30) (by rfl) ?_
            refine lv_istore (lv' := [(5, .int 1), (4, .int 1), (0, .int 1), (1, .int p1), (2, .int p2), (3, .int p3)]) hx hb d_OM_isAction_30 hl (by decide) rfl ?_
            clear hl ls
            intro ls hl
            refine lv_iload_n hx hb d_OM_isAction_32 rfl (lv_at hl 5 rfl) ?_
            refine lv_bipush (v := (-9)) hx hb d_OM_isAction_33 (by decide) ?_
            refine lv_icmp_lt (tgt := 48) hx hb d_OM_isAction_35 (by decide) (fun c_121 => ?_) (fun c_121 => ?_)
            · skip
              refine lv_iconst (v := 0) hx hb d_OM_isAction_48 (by decide) ?_
              refine lv_istore (lv' := [(6, .int 0), (5, .int 1), (4, .int 1), (0, .int 1), (1, .int p1), (2, .int p2), (3, .int p3)]) hx hb d_OM_isAction_49 hl (by decide) rfl ?_
              clear hl ls
              intro ls hl
              refine lv_iload_n hx hb d_OM_isAction_51 rfl (lv_at hl 3 rfl) ?_
              refine lv_tableIn (x := 1) (tgt := 112) hx hb d_OM_isAction_52 (by decide) (by decide) (by rfl) (by decide) ?_
              refine tp_pc (pc' := 112) (by rfl) ?_
              refine lv_iload hx hb d_OM_isAction_112 (lv_at hl 2 rfl) ?_
              refine lv_if_eq (tgt := 130) hx hb d_OM_isAction_114 (by decide) (fun c_122 => absurd c_122 (by decide)) (fun c_122 => ?_)
              refine tp_pc (pc' := 117) (by rfl) ?_
              refine lv_iload_n hx hb d_OM_isAction_117 rfl (lv_at hl 5 rfl) ?_
              refine lv_if_ne (tgt := 130) hx hb d_OM_isAction_118 (by decide) (fun c_123 => ?_) (fun c_123 => ?_)
              · skip
                refine lv_iconst (v := 0) hx hb d_OM_isAction_130 (by decide) ?_
                obtain ⟨hP9, hD9, -⟩ := cut3 (wc := []) hP hD rfl hS hA [] (by decide +kernel) rfl
                have hK9 := hK.sub (tys' := []) [] rfl
                refine W.widen (k := 0) (n := 0) (by exact Nat.le_of_ble_eq_true rfl) (by exact Nat.le_of_ble_eq_true rfl) ?_
                exact W.zret (v := 0) (ty := .boolean) hx hb hr (by decide) (fun t ht hW => ⟨⟨0, (), rfl, trivial, by rw [ht]; exact hP9, va_K.moved hW.alike hK9, hD9⟩, hS.F ht⟩) hS.2.2 d_OM_isAction_131
              · skip
                refine lv_iload hx hb d_OM_isAction_121 (lv_at hl 0 rfl) ?_
                refine lv_if_eq (tgt := 130) hx hb d_OM_isAction_123 (by decide) (fun c_124 => ?_) (fun c_124 => absurd c_124 (by decide))
                refine tp_pc (pc' := 130) (by rfl) ?_
                refine lv_iconst (v := 0) hx hb d_OM_isAction_130 (by decide) ?_
                obtain ⟨hP9, hD9, -⟩ := cut3 (wc := []) hP hD rfl hS hA [] (by decide +kernel) rfl
                have hK9 := hK.sub (tys' := []) [] rfl
                refine W.widen (k := 0) (n := 0) (by exact Nat.le_of_ble_eq_true rfl) (by exact Nat.le_of_ble_eq_true rfl) ?_
                exact W.zret (v := 0) (ty := .boolean) hx hb hr (by decide) (fun t ht hW => ⟨⟨0, (), rfl, trivial, by rw [ht]; exact hP9, va_K.moved hW.alike hK9, hD9⟩, hS.F ht⟩) hS.2.2 d_OM_isAction_131
            · skip
              refine lv_iload_n hx hb d_OM_isAction_38 rfl (lv_at hl 5 rfl) ?_
              refine lv_bipush (v := 9) hx hb d_OM_isAction_39 (by decide) ?_
              refine lv_icmp_gt (tgt := 48) hx hb d_OM_isAction_41 (by decide) (fun c_125 => ?_) (fun c_125 => ?_)
              · skip
                refine lv_iconst (v := 0) hx hb d_OM_isAction_48 (by decide) ?_
                refine lv_istore (lv' := [(6, .int 0), (5, .int 1), (4, .int 1), (0, .int 1), (1, .int p1), (2, .int p2), (3, .int p3)]) hx hb d_OM_isAction_49 hl (by decide) rfl ?_
                clear hl ls
                intro ls hl
                refine lv_iload_n hx hb d_OM_isAction_51 rfl (lv_at hl 3 rfl) ?_
                refine lv_tableIn (x := 1) (tgt := 112) hx hb d_OM_isAction_52 (by decide) (by decide) (by rfl) (by decide) ?_
                refine tp_pc (pc' := 112) (by rfl) ?_
                refine lv_iload hx hb d_OM_isAction_112 (lv_at hl 2 rfl) ?_
                refine lv_if_eq (tgt := 130) hx hb d_OM_isAction_114 (by decide) (fun c_126 => absurd c_126 (by decide)) (fun c_126 => ?_)
                refine tp_pc (pc' := 117) (by rfl) ?_
                refine lv_iload_n hx hb d_OM_isAction_117 rfl (lv_at hl 5 rfl) ?_
                refine lv_if_ne (tgt := 130) hx hb d_OM_isAction_118 (by decide) (fun c_127 => ?_) (fun c_127 => ?_)
                · skip
                  refine lv_iconst (v := 0) hx hb d_OM_isAction_130 (by decide) ?_
                  obtain ⟨hP9, hD9, -⟩ := cut3 (wc := []) hP hD rfl hS hA [] (by decide +kernel) rfl
                  have hK9 := hK.sub (tys' := []) [] rfl
                  refine W.widen (k := 0) (n := 0) (by exact Nat.le_of_ble_eq_true rfl) (by exact Nat.le_of_ble_eq_true rfl) ?_
                  exact W.zret (v := 0) (ty := .boolean) hx hb hr (by decide) (fun t ht hW => ⟨⟨0, (), rfl, trivial, by rw [ht]; exact hP9, va_K.moved hW.alike hK9, hD9⟩, hS.F ht⟩) hS.2.2 d_OM_isAction_131
                · skip
                  refine lv_iload hx hb d_OM_isAction_121 (lv_at hl 0 rfl) ?_
                  refine lv_if_eq (tgt := 130) hx hb d_OM_isAction_123 (by decide) (fun c_128 => ?_) (fun c_128 => absurd c_128 (by decide))
                  refine tp_pc (pc' := 130) (by rfl) ?_
                  refine lv_iconst (v := 0) hx hb d_OM_isAction_130 (by decide) ?_
                  obtain ⟨hP9, hD9, -⟩ := cut3 (wc := []) hP hD rfl hS hA [] (by decide +kernel) rfl
                  have hK9 := hK.sub (tys' := []) [] rfl
                  refine W.widen (k := 0) (n := 0) (by exact Nat.le_of_ble_eq_true rfl) (by exact Nat.le_of_ble_eq_true rfl) ?_
                  exact W.zret (v := 0) (ty := .boolean) hx hb hr (by decide) (fun t ht hW => ⟨⟨0, (), rfl, trivial, by rw [ht]; exact hP9, va_K.moved hW.alike hK9, hD9⟩, hS.F ht⟩) hS.2.2 d_OM_isAction_131
              · skip
                refine lv_iconst (v := 1) hx hb d_OM_isAction_44 (by decide) ?_
                refine lv_goto (tgt := 49) hx hb d_OM_isAction_45 (by decide) ?_
                refine tp_pc (pc' := 49) (by rfl) ?_
                refine lv_istore (lv' := [(6, .int 1), (5, .int 1), (4, .int 1), (0, .int 1), (1, .int p1), (2, .int p2), (3, .int p3)]) hx hb d_OM_isAction_49 hl (by decide) rfl ?_
                clear hl ls
                intro ls hl
                refine lv_iload_n hx hb d_OM_isAction_51 rfl (lv_at hl 3 rfl) ?_
                refine lv_tableIn (x := 1) (tgt := 112) hx hb d_OM_isAction_52 (by decide) (by decide) (by rfl) (by decide) ?_
                refine tp_pc (pc' := 112) (by rfl) ?_
                refine lv_iload hx hb d_OM_isAction_112 (lv_at hl 2 rfl) ?_
                refine lv_if_eq (tgt := 130) hx hb d_OM_isAction_114 (by decide) (fun c_129 => absurd c_129 (by decide)) (fun c_129 => ?_)
                refine tp_pc (pc' := 117) (by rfl) ?_
                refine lv_iload_n hx hb d_OM_isAction_117 rfl (lv_at hl 5 rfl) ?_
                refine lv_if_ne (tgt := 130) hx hb d_OM_isAction_118 (by decide) (fun c_130 => ?_) (fun c_130 => ?_)
                · skip
                  refine lv_iconst (v := 0) hx hb d_OM_isAction_130 (by decide) ?_
                  obtain ⟨hP9, hD9, -⟩ := cut3 (wc := []) hP hD rfl hS hA [] (by decide +kernel) rfl
                  have hK9 := hK.sub (tys' := []) [] rfl
                  refine W.widen (k := 0) (n := 0) (by exact Nat.le_of_ble_eq_true rfl) (by exact Nat.le_of_ble_eq_true rfl) ?_
                  exact W.zret (v := 0) (ty := .boolean) hx hb hr (by decide) (fun t ht hW => ⟨⟨0, (), rfl, trivial, by rw [ht]; exact hP9, va_K.moved hW.alike hK9, hD9⟩, hS.F ht⟩) hS.2.2 d_OM_isAction_131
                · skip
                  refine lv_iload hx hb d_OM_isAction_121 (lv_at hl 0 rfl) ?_
                  refine lv_if_eq (tgt := 130) hx hb d_OM_isAction_123 (by decide) (fun c_131 => absurd c_131 (by decide)) (fun c_131 => ?_)
                  refine tp_pc (pc' := 126) (by rfl) ?_
                  refine lv_iconst (v := 1) hx hb d_OM_isAction_126 (by decide) ?_
                  refine lv_goto (tgt := 131) hx hb d_OM_isAction_127 (by decide) ?_
                  refine tp_pc (pc' := 131) (by rfl) ?_
                  obtain ⟨hP9, hD9, -⟩ := cut3 (wc := []) hP hD rfl hS hA [] (by decide +kernel) rfl
                  have hK9 := hK.sub (tys' := []) [] rfl
                  refine W.widen (k := 0) (n := 0) (by exact Nat.le_of_ble_eq_true rfl) (by exact Nat.le_of_ble_eq_true rfl) ?_
                  exact W.zret (v := 1) (ty := .boolean) hx hb hr (by decide) (fun t ht hW => ⟨⟨1, (), rfl, trivial, by rw [ht]; exact hP9, va_K.moved hW.alike hK9, hD9⟩, hS.F ht⟩) hS.2.2 d_OM_isAction_131
  · skip
    refine lv_iload_n hx hb d_OM_isAction_0 rfl (lv_at hl 1 rfl) ?_
    refine lv_if_lt (tgt := 13) hx hb d_OM_isAction_1 (by decide) (fun c_132 => ?_) (fun c_132 => ?_)
    · skip
      refine lv_iconst (v := 0) hx hb d_OM_isAction_13 (by decide) ?_
      refine lv_istore (lv' := [(4, .int 0), (0, .int 2), (1, .int p1), (2, .int p2), (3, .int p3)]) hx hb d_OM_isAction_14 hl (by decide) rfl ?_
      clear hl ls
      intro ls hl
      refine lv_iload_n hx hb d_OM_isAction_16 rfl (lv_at hl 3 rfl) ?_
      refine lv_if_lt (tgt := 29) hx hb d_OM_isAction_17 (by decide) (fun c_133 => ?_) (fun c_133 => ?_)
      · skip
        refine lv_iconst (v := 0) hx hb d_OM_isAction_29 (by decide) ?_
        refine lv_istore (lv' := [(5, .int 0), (4, .int 0), (0, .int 2), (1, .int p1), (2, .int p2), (3, .int p3)]) hx hb d_OM_isAction_30 hl (by decide) rfl ?_
        clear hl ls
        intro ls hl
        refine lv_iload_n hx hb d_OM_isAction_32 rfl (lv_at hl 5 rfl) ?_
        refine lv_bipush (v := (-9)) hx hb d_OM_isAction_33 (by decide) ?_
        refine lv_icmp_lt (tgt := 48) hx hb d_OM_isAction_35 (by decide) (fun c_134 => ?_) (fun c_134 => ?_)
        · skip
          refine lv_iconst (v := 0) hx hb d_OM_isAction_48 (by decide) ?_
          refine lv_istore (lv' := [(6, .int 0), (5, .int 0), (4, .int 0), (0, .int 2), (1, .int p1), (2, .int p2), (3, .int p3)]) hx hb d_OM_isAction_49 hl (by decide) rfl ?_
          clear hl ls
          intro ls hl
          refine lv_iload_n hx hb d_OM_isAction_51 rfl (lv_at hl 3 rfl) ?_
          refine lv_tableIn (x := 2) (tgt := 132) hx hb d_OM_isAction_52 (by decide) (by decide) (by rfl) (by decide) ?_
          refine tp_pc (pc' := 132) (by rfl) ?_
          refine lv_iload hx hb d_OM_isAction_132 (lv_at hl 2 rfl) ?_
          refine lv_if_eq (tgt := 151) hx hb d_OM_isAction_134 (by decide) (fun c_135 => ?_) (fun c_135 => absurd c_135 (by decide))
          refine tp_pc (pc' := 151) (by rfl) ?_
          refine lv_iconst (v := 0) hx hb d_OM_isAction_151 (by decide) ?_
          obtain ⟨hP9, hD9, -⟩ := cut3 (wc := []) hP hD rfl hS hA [] (by decide +kernel) rfl
          have hK9 := hK.sub (tys' := []) [] rfl
          refine W.widen (k := 0) (n := 0) (by exact Nat.le_of_ble_eq_true rfl) (by exact Nat.le_of_ble_eq_true rfl) ?_
          exact W.zret (v := 0) (ty := .boolean) hx hb hr (by decide) (fun t ht hW => ⟨⟨0, (), rfl, trivial, by rw [ht]; exact hP9, va_K.moved hW.alike hK9, hD9⟩, hS.F ht⟩) hS.2.2 d_OM_isAction_152
        · skip
          refine lv_iload_n hx hb d_OM_isAction_38 rfl (lv_at hl 5 rfl) ?_
          refine lv_bipush (v := 9) hx hb d_OM_isAction_39 (by decide) ?_
          refine lv_icmp_gt (tgt := 48) hx hb d_OM_isAction_41 (by decide) (fun c_136 => ?_) (fun c_136 => ?_)
          · skip
            refine lv_iconst (v := 0) hx hb d_OM_isAction_48 (by decide) ?_
            refine lv_istore (lv' := [(6, .int 0), (5, .int 0), (4, .int 0), (0, .int 2), (1, .int p1), (2, .int p2), (3, .int p3)]) hx hb d_OM_isAction_49 hl (by decide) rfl ?_
            clear hl ls
            intro ls hl
            refine lv_iload_n hx hb d_OM_isAction_51 rfl (lv_at hl 3 rfl) ?_
            refine lv_tableIn (x := 2) (tgt := 132) hx hb d_OM_isAction_52 (by decide) (by decide) (by rfl) (by decide) ?_
            refine tp_pc (pc' := 132) (by rfl) ?_
            refine lv_iload hx hb d_OM_isAction_132 (lv_at hl 2 rfl) ?_
            refine lv_if_eq (tgt := 151) hx hb d_OM_isAction_134 (by decide) (fun c_137 => ?_) (fun c_137 => absurd c_137 (by decide))
            refine tp_pc (pc' := 151) (by rfl) ?_
            refine lv_iconst (v := 0) hx hb d_OM_isAction_151 (by decide) ?_
            obtain ⟨hP9, hD9, -⟩ := cut3 (wc := []) hP hD rfl hS hA [] (by decide +kernel) rfl
            have hK9 := hK.sub (tys' := []) [] rfl
            refine W.widen (k := 0) (n := 0) (by exact Nat.le_of_ble_eq_true rfl) (by exact Nat.le_of_ble_eq_true rfl) ?_
            exact W.zret (v := 0) (ty := .boolean) hx hb hr (by decide) (fun t ht hW => ⟨⟨0, (), rfl, trivial, by rw [ht]; exact hP9, va_K.moved hW.alike hK9, hD9⟩, hS.F ht⟩) hS.2.2 d_OM_isAction_152
          · skip
            refine lv_iconst (v := 1) hx hb d_OM_isAction_44 (by decide) ?_
            refine lv_goto (tgt := 49) hx hb d_OM_isAction_45 (by decide) ?_
            refine tp_pc (pc' := 49) (by rfl) ?_
            refine lv_istore (lv' := [(6, .int 1), (5, .int 0), (4, .int 0), (0, .int 2), (1, .int p1), (2, .int p2), (3, .int p3)]) hx hb d_OM_isAction_49 hl (by decide) rfl ?_
            clear hl ls
            intro ls hl
            refine lv_iload_n hx hb d_OM_isAction_51 rfl (lv_at hl 3 rfl) ?_
            refine lv_tableIn (x := 2) (tgt := 132) hx hb d_OM_isAction_52 (by decide) (by decide) (by rfl) (by decide) ?_
            refine tp_pc (pc' := 132) (by rfl) ?_
            refine lv_iload hx hb d_OM_isAction_132 (lv_at hl 2 rfl) ?_
            refine lv_if_eq (tgt := 151) hx hb d_OM_isAction_134 (by decide) (fun c_138 => ?_) (fun c_138 => absurd c_138 (by decide))
            refine tp_pc (pc' := 151) (by rfl) ?_
            refine lv_iconst (v := 0) hx hb d_OM_isAction_151 (by decide) ?_
            obtain ⟨hP9, hD9, -⟩ := cut3 (wc := []) hP hD rfl hS hA [] (by decide +kernel) rfl
            have hK9 := hK.sub (tys' := []) [] rfl
            refine W.widen (k := 0) (n := 0) (by exact Nat.le_of_ble_eq_true rfl) (by exact Nat.le_of_ble_eq_true rfl) ?_
            exact W.zret (v := 0) (ty := .boolean) hx hb hr (by decide) (fun t ht hW => ⟨⟨0, (), rfl, trivial, by rw [ht]; exact hP9, va_K.moved hW.alike hK9, hD9⟩, hS.F ht⟩) hS.2.2 d_OM_isAction_152
      · skip
        refine lv_iload_n hx hb d_OM_isAction_20 rfl (lv_at hl 3 rfl) ?_
        refine lv_iconst (v := 2) hx hb d_OM_isAction_21 (by decide) ?_
        refine lv_icmp_ge (tgt := 29) hx hb d_OM_isAction_22 (by decide) (fun c_139 => ?_) (fun c_139 => ?_)
        · skip
          refine lv_iconst (v := 0) hx hb d_OM_isAction_29 (by decide) ?_
          refine lv_istore (lv' := [(5, .int 0), (4, .int 0), (0, .int 2), (1, .int p1), (2, .int p2), (3, .int p3)]) hx hb d_OM_isAction_30 hl (by decide) rfl ?_
          clear hl ls
          intro ls hl
          refine lv_iload_n hx hb d_OM_isAction_32 rfl (lv_at hl 5 rfl) ?_
          refine lv_bipush (v := (-9)) hx hb d_OM_isAction_33 (by decide) ?_
          refine lv_icmp_lt (tgt := 48) hx hb d_OM_isAction_35 (by decide) (fun c_140 => ?_) (fun c_140 => ?_)
          · skip
            refine lv_iconst (v := 0) hx hb d_OM_isAction_48 (by decide) ?_
            refine lv_istore (lv' := [(6, .int 0), (5, .int 0), (4, .int 0), (0, .int 2), (1, .int p1), (2, .int p2), (3, .int p3)]) hx hb d_OM_isAction_49 hl (by decide) rfl ?_
            clear hl ls
            intro ls hl
            refine lv_iload_n hx hb d_OM_isAction_51 rfl (lv_at hl 3 rfl) ?_
            refine lv_tableIn (x := 2) (tgt := 132) hx hb d_OM_isAction_52 (by decide) (by decide) (by rfl) (by decide) ?_
            refine tp_pc (pc' := 132) (by rfl) ?_
            refine lv_iload hx hb d_OM_isAction_132 (lv_at hl 2 rfl) ?_
            refine lv_if_eq (tgt := 151) hx hb d_OM_isAction_134 (by decide) (fun c_141 => ?_) (fun c_141 => absurd c_141 (by decide))
            refine tp_pc (pc' := 151) (by rfl) ?_
            refine lv_iconst (v := 0) hx hb d_OM_isAction_151 (by decide) ?_
            obtain ⟨hP9, hD9, -⟩ := cut3 (wc := []) hP hD rfl hS hA [] (by decide +kernel) rfl
            have hK9 := hK.sub (tys' := []) [] rfl
            refine W.widen (k := 0) (n := 0) (by exact Nat.le_of_ble_eq_true rfl) (by exact Nat.le_of_ble_eq_true rfl) ?_
            exact W.zret (v := 0) (ty := .boolean) hx hb hr (by decide) (fun t ht hW => ⟨⟨0, (), rfl, trivial, by rw [ht]; exact hP9, va_K.moved hW.alike hK9, hD9⟩, hS.F ht⟩) hS.2.2 d_OM_isAction_152
          · skip
            refine lv_iload_n hx hb d_OM_isAction_38 rfl (lv_at hl 5 rfl) ?_
            refine lv_bipush (v := 9) hx hb d_OM_isAction_39 (by decide) ?_
            refine lv_icmp_gt (tgt := 48) hx hb d_OM_isAction_41 (by decide) (fun c_142 => ?_) (fun c_142 => ?_)
            · skip
              refine lv_iconst (v := 0) hx hb d_OM_isAction_48 (by decide) ?_
              refine lv_istore (lv' := [(6, .int 0), (5, .int 0), (4, .int 0), (0, .int 2), (1, .int p1), (2, .int p2), (3, .int p3)]) hx hb d_OM_isAction_49 hl (by decide) rfl ?_
              clear hl ls
              intro ls hl
              refine lv_iload_n hx hb d_OM_isAction_51 rfl (lv_at hl 3 rfl) ?_
              refine lv_tableIn (x := 2) (tgt := 132) hx hb d_OM_isAction_52 (by decide) (by decide) (by rfl) (by decide) ?_
              refine tp_pc (pc' := 132) (by rfl) ?_
              refine lv_iload hx hb d_OM_isAction_132 (lv_at hl 2 rfl) ?_
              refine lv_if_eq (tgt := 151) hx hb d_OM_isAction_134 (by decide) (fun c_143 => ?_) (fun c_143 => absurd c_143 (by decide))
              refine tp_pc (pc' := 151) (by rfl) ?_
              refine lv_iconst (v := 0) hx hb d_OM_isAction_151 (by decide) ?_
              obtain ⟨hP9, hD9, -⟩ := cut3 (wc := []) hP hD rfl hS hA [] (by decide +kernel) rfl
              have hK9 := hK.sub (tys' := []) [] rfl
              refine W.widen (k := 0) (n := 0) (by exact Nat.le_of_ble_eq_true rfl) (by exact Nat.le_of_ble_eq_true rfl) ?_
              exact W.zret (v := 0) (ty := .boolean) hx hb hr (by decide) (fun t ht hW => ⟨⟨0, (), rfl, trivial, by rw [ht]; exact hP9, va_K.moved hW.alike hK9, hD9⟩, hS.F ht⟩) hS.2.2 d_OM_isAction_152
            · skip
              refine lv_iconst (v := 1) hx hb d_OM_isAction_44 (by decide) ?_
              refine lv_goto (tgt := 49) hx hb d_OM_isAction_45 (by decide) ?_
              refine tp_pc (pc' := 49) (by rfl) ?_
              refine lv_istore (lv' := [(6, .int 1), (5, .int 0), (4, .int 0), (0, .int 2), (1, .int p1), (2, .int p2), (3, .int p3)]) hx hb d_OM_isAction_49 hl (by decide) rfl ?_
              clear hl ls
              intro ls hl
              refine lv_iload_n hx hb d_OM_isAction_51 rfl (lv_at hl 3 rfl) ?_
              refine lv_tableIn (x := 2) (tgt := 132) hx hb d_OM_isAction_52 (by decide) (by decide) (by rfl) (by decide) ?_
              refine tp_pc (pc' := 132) (by rfl) ?_
              refine lv_iload hx hb d_OM_isAction_132 (lv_at hl 2 rfl) ?_
              refine lv_if_eq (tgt := 151) hx hb d_OM_isAction_134 (by decide) (fun c_144 => ?_) (fun c_144 => absurd c_144 (by decide))
              refine tp_pc (pc' := 151) (by rfl) ?_
              refine lv_iconst (v := 0) hx hb d_OM_isAction_151 (by decide) ?_
              obtain ⟨hP9, hD9, -⟩ := cut3 (wc := []) hP hD rfl hS hA [] (by decide +kernel) rfl
              have hK9 := hK.sub (tys' := []) [] rfl
              refine W.widen (k := 0) (n := 0) (by exact Nat.le_of_ble_eq_true rfl) (by exact Nat.le_of_ble_eq_true rfl) ?_
              exact W.zret (v := 0) (ty := .boolean) hx hb hr (by decide) (fun t ht hW => ⟨⟨0, (), rfl, trivial, by rw [ht]; exact hP9, va_K.moved hW.alike hK9, hD9⟩, hS.F ht⟩) hS.2.2 d_OM_isAction_152
        · skip
          refine lv_iconst (v := 1) hx hb d_OM_isAction_25 (by decide) ?_
          refine lv_goto (tgt := 30) hx hb d_OM_isAction_26 (by decide) ?_
          refine tp_pc (pc' := 30) (by rfl) ?_
          refine lv_istore (lv' := [(5, .int 1), (4, .int 0), (0, .int 2), (1, .int p1), (2, .int p2), (3, .int p3)]) hx hb d_OM_isAction_30 hl (by decide) rfl ?_
          clear hl ls
          intro ls hl
          refine lv_iload_n hx hb d_OM_isAction_32 rfl (lv_at hl 5 rfl) ?_
          refine lv_bipush (v := (-9)) hx hb d_OM_isAction_33 (by decide) ?_
          refine lv_icmp_lt (tgt := 48) hx hb d_OM_isAction_35 (by decide) (fun c_145 => ?_) (fun c_145 => ?_)
          · skip
            refine lv_iconst (v := 0) hx hb d_OM_isAction_48 (by decide) ?_
            refine lv_istore (lv' := [(6, .int 0), (5, .int 1), (4, .int 0), (0, .int 2), (1, .int p1), (2, .int p2), (3, .int p3)]) hx hb d_OM_isAction_49 hl (by decide) rfl ?_
            clear hl ls
            intro ls hl
            refine lv_iload_n hx hb d_OM_isAction_51 rfl (lv_at hl 3 rfl) ?_
            refine lv_tableIn (x := 2) (tgt := 132) hx hb d_OM_isAction_52 (by decide) (by decide) (by rfl) (by decide) ?_
            refine tp_pc (pc' := 132) (by rfl) ?_
            refine lv_iload hx hb d_OM_isAction_132 (lv_at hl 2 rfl) ?_
            refine lv_if_eq (tgt := 151) hx hb d_OM_isAction_134 (by decide) (fun c_146 => ?_) (fun c_146 => absurd c_146 (by decide))
            refine tp_pc (pc' := 151) (by rfl) ?_
            refine lv_iconst (v := 0) hx hb d_OM_isAction_151 (by decide) ?_
            obtain ⟨hP9, hD9, -⟩ := cut3 (wc := []) hP hD rfl hS hA [] (by decide +kernel) rfl
            have hK9 := hK.sub (tys' := []) [] rfl
            refine W.widen (k := 0) (n := 0) (by exact Nat.le_of_ble_eq_true rfl) (by exact Nat.le_of_ble_eq_true rfl) ?_
            exact W.zret (v := 0) (ty := .boolean) hx hb hr (by decide) (fun t ht hW => ⟨⟨0, (), rfl, trivial, by rw [ht]; exact hP9, va_K.moved hW.alike hK9, hD9⟩, hS.F ht⟩) hS.2.2 d_OM_isAction_152
          · skip
            refine lv_iload_n hx hb d_OM_isAction_38 rfl (lv_at hl 5 rfl) ?_
            refine lv_bipush (v := 9) hx hb d_OM_isAction_39 (by decide) ?_
            refine lv_icmp_gt (tgt := 48) hx hb d_OM_isAction_41 (by decide) (fun c_147 => ?_) (fun c_147 => ?_)
            · skip
              refine lv_iconst (v := 0) hx hb d_OM_isAction_48 (by decide) ?_
              refine lv_istore (lv' := [(6, .int 0), (5, .int 1), (4, .int 0), (0, .int 2), (1, .int p1), (2, .int p2), (3, .int p3)]) hx hb d_OM_isAction_49 hl (by decide) rfl ?_
              clear hl ls
              intro ls hl
              refine lv_iload_n hx hb d_OM_isAction_51 rfl (lv_at hl 3 rfl) ?_
              refine lv_tableIn (x := 2) (tgt := 132) hx hb d_OM_isAction_52 (by decide) (by decide) (by rfl) (by decide) ?_
              refine tp_pc (pc' := 132) (by rfl) ?_
              refine lv_iload hx hb d_OM_isAction_132 (lv_at hl 2 rfl) ?_
              refine lv_if_eq (tgt := 151) hx hb d_OM_isAction_134 (by decide) (fun c_148 => ?_) (fun c_148 => absurd c_148 (by decide))
              refine tp_pc (pc' := 151) (by rfl) ?_
              refine lv_iconst (v := 0) hx hb d_OM_isAction_151 (by decide) ?_
              obtain ⟨hP9, hD9, -⟩ := cut3 (wc := []) hP hD rfl hS hA [] (by decide +kernel) rfl
              have hK9 := hK.sub (tys' := []) [] rfl
              refine W.widen (k := 0) (n := 0) (by exact Nat.le_of_ble_eq_true rfl) (by exact Nat.le_of_ble_eq_true rfl) ?_
              exact W.zret (v := 0) (ty := .boolean) hx hb hr (by decide) (fun t ht hW => ⟨⟨0, (), rfl, trivial, by rw [ht]; exact hP9, va_K.moved hW.alike hK9, hD9⟩, hS.F ht⟩) hS.2.2 d_OM_isAction_152
            · skip
              refine lv_iconst (v := 1) hx hb d_OM_isAction_44 (by decide) ?_
              refine lv_goto (tgt := 49) hx hb d_OM_isAction_45 (by decide) ?_
              refine tp_pc (pc' := 49) (by rfl) ?_
              refine lv_istore (lv' := [(6, .int 1), (5, .int 1), (4, .int 0), (0, .int 2), (1, .int p1), (2, .int p2), (3, .int p3)]) hx hb d_OM_isAction_49 hl (by decide) rfl ?_
              clear hl ls
              intro ls hl
              refine lv_iload_n hx hb d_OM_isAction_51 rfl (lv_at hl 3 rfl) ?_
              refine lv_tableIn (x := 2) (tgt := 132) hx hb d_OM_isAction_52 (by decide) (by decide) (by rfl) (by decide) ?_
              refine tp_pc (pc' := 132) (by rfl) ?_
              refine lv_iload hx hb d_OM_isAction_132 (lv_at hl 2 rfl) ?_
              refine lv_if_eq (tgt := 151) hx hb d_OM_isAction_134 (by decide) (fun c_149 => ?_) (fun c_149 => absurd c_149 (by decide))
              refine tp_pc (pc' := 151) (by rfl) ?_
              refine lv_iconst (v := 0) hx hb d_OM_isAction_151 (by decide) ?_
              obtain ⟨hP9, hD9, -⟩ := cut3 (wc := []) hP hD rfl hS hA [] (by decide +kernel) rfl
              have hK9 := hK.sub (tys' := []) [] rfl
              refine W.widen (k := 0) (n := 0) (by exact Nat.le_of_ble_eq_true rfl) (by exact Nat.le_of_ble_eq_true rfl) ?_
              exact W.zret (v := 0) (ty := .boolean) hx hb hr (by decide) (fun t ht hW => ⟨⟨0, (), rfl, trivial, by rw [ht]; exact hP9, va_K.moved hW.alike hK9, hD9⟩, hS.F ht⟩) hS.2.2 d_OM_isAction_152
    · skip
      refine lv_iload_n hx hb d_OM_isAction_4 rfl (lv_at hl 1 rfl) ?_
      refine lv_iconst (v := 3) hx hb d_OM_isAction_5 (by decide) ?_
      refine lv_icmp_ge (tgt := 13) hx hb d_OM_isAction_6 (by decide) (fun c_150 => ?_) (fun c_150 => ?_)
      · skip
        refine lv_iconst (v := 0) hx hb d_OM_isAction_13 (by decide) ?_
        refine lv_istore (lv' := [(4, .int 0), (0, .int 2), (1, .int p1), (2, .int p2), (3, .int p3)]) hx hb d_OM_isAction_14 hl (by decide) rfl ?_
        clear hl ls
        intro ls hl
        refine lv_iload_n hx hb d_OM_isAction_16 rfl (lv_at hl 3 rfl) ?_
        refine lv_if_lt (tgt := 29) hx hb d_OM_isAction_17 (by decide) (fun c_151 => ?_) (fun c_151 => ?_)
        · skip
          refine lv_iconst (v := 0) hx hb d_OM_isAction_29 (by decide) ?_
          refine lv_istore (lv' := [(5, .int 0), (4, .int 0), (0, .int 2), (1, .int p1), (2, .int p2), (3, .int p3)]) hx hb d_OM_isAction_30 hl (by decide) rfl ?_
          clear hl ls
          intro ls hl
          refine lv_iload_n hx hb d_OM_isAction_32 rfl (lv_at hl 5 rfl) ?_
          refine lv_bipush (v := (-9)) hx hb d_OM_isAction_33 (by decide) ?_
          refine lv_icmp_lt (tgt := 48) hx hb d_OM_isAction_35 (by decide) (fun c_152 => ?_) (fun c_152 => ?_)
          · skip
            refine lv_iconst (v := 0) hx hb d_OM_isAction_48 (by decide) ?_
            refine lv_istore (lv' := [(6, .int 0), (5, .int 0), (4, .int 0), (0, .int 2), (1, .int p1), (2, .int p2), (3, .int p3)]) hx hb d_OM_isAction_49 hl (by decide) rfl ?_
            clear hl ls
            intro ls hl
            refine lv_iload_n hx hb d_OM_isAction_51 rfl (lv_at hl 3 rfl) ?_
            refine lv_tableIn (x := 2) (tgt := 132) hx hb d_OM_isAction_52 (by decide) (by decide) (by rfl) (by decide) ?_
            refine tp_pc (pc' := 132) (by rfl) ?_
            refine lv_iload hx hb d_OM_isAction_132 (lv_at hl 2 rfl) ?_
            refine lv_if_eq (tgt := 151) hx hb d_OM_isAction_134 (by decide) (fun c_153 => ?_) (fun c_153 => absurd c_153 (by decide))
            refine tp_pc (pc' := 151) (by rfl) ?_
            refine lv_iconst (v := 0) hx hb d_OM_isAction_151 (by decide) ?_
            obtain ⟨hP9, hD9, -⟩ := cut3 (wc := []) hP hD rfl hS hA [] (by decide +kernel) rfl
            have hK9 := hK.sub (tys' := []) [] rfl
            refine W.widen (k := 0) (n := 0) (by exact Nat.le_of_ble_eq_true rfl) (by exact Nat.le_of_ble_eq_true rfl) ?_
            exact W.zret (v := 0) (ty := .boolean) hx hb hr (by decide) (fun t ht hW => ⟨⟨0, (), rfl, trivial, by rw [ht]; exact hP9, va_K.moved hW.alike hK9, hD9⟩, hS.F ht⟩) hS.2.2 d_OM_isAction_152
          · skip
            refine lv_iload_n hx hb d_OM_isAction_38 rfl (lv_at hl 5 rfl) ?_
            refine lv_bipush (v := 9) hx hb d_OM_isAction_39 (by decide) ?_
            refine lv_icmp_gt (tgt := 48) hx hb d_OM_isAction_41 (by decide) (fun c_154 => ?_) (fun c_154 => ?_)
            · skip
              refine lv_iconst (v := 0) hx hb d_OM_isAction_48 (by decide) ?_
              refine lv_istore (lv' := [(6, .int 0), (5, .int 0), (4, .int 0), (0, .int 2), (1, .int p1), (2, .int p2), (3, .int p3)]) hx hb d_OM_isAction_49 hl (by decide) rfl ?_
              clear hl ls
              intro ls hl
              refine lv_iload_n hx hb d_OM_isAction_51 rfl (lv_at hl 3 rfl) ?_
              refine lv_tableIn (x := 2) (tgt := 132) hx hb d_OM_isAction_52 (by decide) (by decide) (by rfl) (by decide) ?_
              refine tp_pc (pc' := 132) (by rfl) ?_
              refine lv_iload hx hb d_OM_isAction_132 (lv_at hl 2 rfl) ?_
              refine lv_if_eq (tgt := 151) hx hb d_OM_isAction_134 (by decide) (fun c_155 => ?_) (fun c_155 => absurd c_155 (by decide))
              refine tp_pc (pc' := 151) (by rfl) ?_
              refine lv_iconst (v := 0) hx hb d_OM_isAction_151 (by decide) ?_
              obtain ⟨hP9, hD9, -⟩ := cut3 (wc := []) hP hD rfl hS hA [] (by decide +kernel) rfl
              have hK9 := hK.sub (tys' := []) [] rfl
              refine W.widen (k := 0) (n := 0) (by exact Nat.le_of_ble_eq_true rfl) (by exact Nat.le_of_ble_eq_true rfl) ?_
              exact W.zret (v := 0) (ty := .boolean) hx hb hr (by decide) (fun t ht hW => ⟨⟨0, (), rfl, trivial, by rw [ht]; exact hP9, va_K.moved hW.alike hK9, hD9⟩, hS.F ht⟩) hS.2.2 d_OM_isAction_152
            · skip
              refine lv_iconst (v := 1) hx hb d_OM_isAction_44 (by decide) ?_
              refine lv_goto (tgt := 49) hx hb d_OM_isAction_45 (by decide) ?_
              refine tp_pc (pc' := 49) (by rfl) ?_
              refine lv_istore (lv' := [(6, .int 1), (5, .int 0), (4, .int 0), (0, .int 2), (1, .int p1), (2, .int p2), (3, .int p3)]) hx hb d_OM_isAction_49 hl (by decide) rfl ?_
              clear hl ls
              intro ls hl
              refine lv_iload_n hx hb d_OM_isAction_51 rfl (lv_at hl 3 rfl) ?_
              refine lv_tableIn (x := 2) (tgt := 132) hx hb d_OM_isAction_52 (by decide) (by decide) (by rfl) (by decide) ?_
              refine tp_pc (pc' := 132) (by rfl) ?_
              refine lv_iload hx hb d_OM_isAction_132 (lv_at hl 2 rfl) ?_
              refine lv_if_eq (tgt := 151) hx hb d_OM_isAction_134 (by decide) (fun c_156 => ?_) (fun c_156 => absurd c_156 (by decide))
              refine tp_pc (pc' := 151) (by rfl) ?_
              refine lv_iconst (v := 0) hx hb d_OM_isAction_151 (by decide) ?_
              obtain ⟨hP9, hD9, -⟩ := cut3 (wc := []) hP hD rfl hS hA [] (by decide +kernel) rfl
              have hK9 := hK.sub (tys' := []) [] rfl
              refine W.widen (k := 0) (n := 0) (by exact Nat.le_of_ble_eq_true rfl) (by exact Nat.le_of_ble_eq_true rfl) ?_
              exact W.zret (v := 0) (ty := .boolean) hx hb hr (by decide) (fun t ht hW => ⟨⟨0, (), rfl, trivial, by rw [ht]; exact hP9, va_K.moved hW.alike hK9, hD9⟩, hS.F ht⟩) hS.2.2 d_OM_isAction_152
        · skip
          refine lv_iload_n hx hb d_OM_isAction_20 rfl (lv_at hl 3 rfl) ?_
          refine lv_iconst (v := 2) hx hb d_OM_isAction_21 (by decide) ?_
          refine lv_icmp_ge (tgt := 29) hx hb d_OM_isAction_22 (by decide) (fun c_157 => ?_) (fun c_157 => ?_)
          · skip
            refine lv_iconst (v := 0) hx hb d_OM_isAction_29 (by decide) ?_
            refine lv_istore (lv' := [(5, .int 0), (4, .int 0), (0, .int 2), (1, .int p1), (2, .int p2), (3, .int p3)]) hx hb d_OM_isAction_30 hl (by decide) rfl ?_
            clear hl ls
            intro ls hl
            refine lv_iload_n hx hb d_OM_isAction_32 rfl (lv_at hl 5 rfl) ?_
            refine lv_bipush (v := (-9)) hx hb d_OM_isAction_33 (by decide) ?_
            refine lv_icmp_lt (tgt := 48) hx hb d_OM_isAction_35 (by decide) (fun c_158 => ?_) (fun c_158 => ?_)
            · skip
              refine lv_iconst (v := 0) hx hb d_OM_isAction_48 (by decide) ?_
              refine lv_istore (lv' := [(6, .int 0), (5, .int 0), (4, .int 0), (0, .int 2), (1, .int p1), (2, .int p2), (3, .int p3)]) hx hb d_OM_isAction_49 hl (by decide) rfl ?_
              clear hl ls
              intro ls hl
              refine lv_iload_n hx hb d_OM_isAction_51 rfl (lv_at hl 3 rfl) ?_
              refine lv_tableIn (x := 2) (tgt := 132) hx hb d_OM_isAction_52 (by decide) (by decide) (by rfl) (by decide) ?_
              refine tp_pc (pc' := 132) (by rfl) ?_
              refine lv_iload hx hb d_OM_isAction_132 (lv_at hl 2 rfl) ?_
              refine lv_if_eq (tgt := 151) hx hb d_OM_isAction_134 (by decide) (fun c_159 => ?_) (fun c_159 => absurd c_159 (by decide))
              refine tp_pc (pc' := 151) (by rfl) ?_
              refine lv_iconst (v := 0) hx hb d_OM_isAction_151 (by decide) ?_
              obtain ⟨hP9, hD9, -⟩ := cut3 (wc := []) hP hD rfl hS hA [] (by decide +kernel) rfl
              have hK9 := hK.sub (tys' := []) [] rfl
              refine W.widen (k := 0) (n := 0) (by exact Nat.le_of_ble_eq_true rfl) (by exact Nat.le_of_ble_eq_true rfl) ?_
              exact W.zret (v := 0) (ty := .boolean) hx hb hr (by decide) (fun t ht hW => ⟨⟨0, (), rfl, trivial, by rw [ht]; exact hP9, va_K.moved hW.alike hK9, hD9⟩, hS.F ht⟩) hS.2.2 d_OM_isAction_152
            · skip
              refine lv_iload_n hx hb d_OM_isAction_38 rfl (lv_at hl 5 rfl) ?_
              refine lv_bipush (v := 9) hx hb d_OM_isAction_39 (by decide) ?_
              refine lv_icmp_gt (tgt := 48) hx hb d_OM_isAction_41 (by decide) (fun c_160 => ?_) (fun c_160 => ?_)
              · skip
                refine lv_iconst (v := 0) hx hb d_OM_isAction_48 (by decide) ?_
                refine lv_istore (lv' := [(6, .int 0), (5, .int 0), (4, .int 0), (0, .int 2), (1, .int p1), (2, .int p2), (3, .int p3)]) hx hb d_OM_isAction_49 hl (by decide) rfl ?_
                clear hl ls
                intro ls hl
                refine lv_iload_n hx hb d_OM_isAction_51 rfl (lv_at hl 3 rfl) ?_
                refine lv_tableIn (x := 2) (tgt := 132) hx hb d_OM_isAction_52 (by decide) (by decide) (by rfl) (by decide) ?_
                refine tp_pc (pc' := 132) (by rfl) ?_
                refine lv_iload hx hb d_OM_isAction_132 (lv_at hl 2 rfl) ?_
                refine lv_if_eq (tgt := 151) hx hb d_OM_isAction_134 (by decide) (fun c_161 => ?_) (fun c_161 => absurd c_161 (by decide))
                refine tp_pc (pc' := 151) (by rfl) ?_
                refine lv_iconst (v := 0) hx hb d_OM_isAction_151 (by decide) ?_
                obtain ⟨hP9, hD9, -⟩ := cut3 (wc := []) hP hD rfl hS hA [] (by decide +kernel) rfl
                have hK9 := hK.sub (tys' := []) [] rfl
                refine W.widen (k := 0) (n := 0) (by exact Nat.le_of_ble_eq_true rfl) (by exact Nat.le_of_ble_eq_true rfl) ?_
                exact W.zret (v := 0) (ty := .boolean) hx hb hr (by decide) (fun t ht hW => ⟨⟨0, (), rfl, trivial, by rw [ht]; exact hP9, va_K.moved hW.alike hK9, hD9⟩, hS.F ht⟩) hS.2.2 d_OM_isAction_152
              · skip
                refine lv_iconst (v := 1) hx hb d_OM_isAction_44 (by decide) ?_
                refine lv_goto (tgt := 49) hx hb d_OM_isAction_45 (by decide) ?_
                refine tp_pc (pc' := 49) (by rfl) ?_
                refine lv_istore (lv' := [(6, .int 1), (5, .int 0), (4, .int 0), (0, .int 2), (1, .int p1), (2, .int p2), (3, .int p3)]) hx hb d_OM_isAction_49 hl (by decide) rfl ?_
                clear hl ls
                intro ls hl
                refine lv_iload_n hx hb d_OM_isAction_51 rfl (lv_at hl 3 rfl) ?_
                refine lv_tableIn (x := 2) (tgt := 132) hx hb d_OM_isAction_52 (by decide) (by decide) (by rfl) (by decide) ?_
                refine tp_pc (pc' := 132) (by rfl) ?_
                refine lv_iload hx hb d_OM_isAction_132 (lv_at hl 2 rfl) ?_
                refine lv_if_eq (tgt := 151) hx hb d_OM_isAction_134 (by decide) (fun c_162 => ?_) (fun c_162 => absurd c_162 (by decide))
                refine tp_pc (pc' := 151) (by rfl) ?_
                refine lv_iconst (v := 0) hx hb d_OM_isAction_151 (by decide) ?_
                obtain ⟨hP9, hD9, -⟩ := cut3 (wc := []) hP hD rfl hS hA [] (by decide +kernel) rfl
                have hK9 := hK.sub (tys' := []) [] rfl
                refine W.widen (k := 0) (n := 0) (by exact Nat.le_of_ble_eq_true rfl) (by exact Nat.le_of_ble_eq_true rfl) ?_
                exact W.zret (v := 0) (ty := .boolean) hx hb hr (by decide) (fun t ht hW => ⟨⟨0, (), rfl, trivial, by rw [ht]; exact hP9, va_K.moved hW.alike hK9, hD9⟩, hS.F ht⟩) hS.2.2 d_OM_isAction_152
          · skip
            refine lv_iconst (v := 1) hx hb d_OM_isAction_25 (by decide) ?_
            refine lv_goto (tgt := 30) hx hb d_OM_isAction_26 (by decide) ?_
            refine tp_pc (pc' := 30) (by rfl) ?_
            refine lv_istore (lv' := [(5, .int 1), (4, .int 0), (0, .int 2), (1, .int p1), (2, .int p2), (3, .int p3)]) hx hb d_OM_isAction_30 hl (by decide) rfl ?_
            clear hl ls
            intro ls hl
            refine lv_iload_n hx hb d_OM_isAction_32 rfl (lv_at hl 5 rfl) ?_
            refine lv_bipush (v := (-9)) hx hb d_OM_isAction_33 (by decide) ?_
            refine lv_icmp_lt (tgt := 48) hx hb d_OM_isAction_35 (by decide) (fun c_163 => ?_) (fun c_163 => ?_)
            · skip
              refine lv_iconst (v := 0) hx hb d_OM_isAction_48 (by decide) ?_
              refine lv_istore (lv' := [(6, .int 0), (5, .int 1), (4, .int 0), (0, .int 2), (1, .int p1), (2, .int p2), (3, .int p3)]) hx hb d_OM_isAction_49 hl (by decide) rfl ?_
              clear hl ls
              intro ls hl
              refine lv_iload_n hx hb d_OM_isAction_51 rfl (lv_at hl 3 rfl) ?_
              refine lv_tableIn (x := 2) (tgt := 132) hx hb d_OM_isAction_52 (by decide) (by decide) (by rfl) (by decide) ?_
              refine tp_pc (pc' := 132) (by rfl) ?_
              refine lv_iload hx hb d_OM_isAction_132 (lv_at hl 2 rfl) ?_
              refine lv_if_eq (tgt := 151) hx hb d_OM_isAction_134 (by decide) (fun c_164 => ?_) (fun c_164 => absurd c_164 (by decide))
              refine tp_pc (pc' := 151) (by rfl) ?_
              refine lv_iconst (v := 0) hx hb d_OM_isAction_151 (by decide) ?_
              obtain ⟨hP9, hD9, -⟩ := cut3 (wc := []) hP hD rfl hS hA [] (by decide +kernel) rfl
              have hK9 := hK.sub (tys' := []) [] rfl
              refine W.widen (k := 0) (n := 0) (by exact Nat.le_of_ble_eq_true rfl) (by exact Nat.le_of_ble_eq_true rfl) ?_
              exact W.zret (v := 0) (ty := .boolean) hx hb hr (by decide) (fun t ht hW => ⟨⟨0, (), rfl, trivial, by rw [ht]; exact hP9, va_K.moved hW.alike hK9, hD9⟩, hS.F ht⟩) hS.2.2 d_OM_isAction_152
            · skip
              refine lv_iload_n hx hb d_OM_isAction_38 rfl (lv_at hl 5 rfl) ?_
              refine lv_bipush (v := 9) hx hb d_OM_isAction_39 (by decide) ?_
              refine lv_icmp_gt (tgt := 48) hx hb d_OM_isAction_41 (by decide) (fun c_165 => ?_) (fun c_165 => ?_)
              · skip
                refine lv_iconst (v := 0) hx hb d_OM_isAction_48 (by decide) ?_
                refine lv_istore (lv' := [(6, .int 0), (5, .int 1), (4, .int 0), (0, .int 2), (1, .int p1), (2, .int p2), (3, .int p3)]) hx hb d_OM_isAction_49 hl (by decide) rfl ?_
                clear hl ls
                intro ls hl
                refine lv_iload_n hx hb d_OM_isAction_51 rfl (lv_at hl 3 rfl) ?_
                refine lv_tableIn (x := 2) (tgt := 132) hx hb d_OM_isAction_52 (by decide) (by decide) (by rfl) (by decide) ?_
                refine tp_pc (pc' := 132) (by rfl) ?_
                refine lv_iload hx hb d_OM_isAction_132 (lv_at hl 2 rfl) ?_
                refine lv_if_eq (tgt := 151) hx hb d_OM_isAction_134 (by decide) (fun c_166 => ?_) (fun c_166 => absurd c_166 (by decide))
                refine tp_pc (pc' := 151) (by rfl) ?_
                refine lv_iconst (v := 0) hx hb d_OM_isAction_151 (by decide) ?_
                obtain ⟨hP9, hD9, -⟩ := cut3 (wc := []) hP hD rfl hS hA [] (by decide +kernel) rfl
                have hK9 := hK.sub (tys' := []) [] rfl
                refine W.widen (k := 0) (n := 0) (by exact Nat.le_of_ble_eq_true rfl) (by exact Nat.le_of_ble_eq_true rfl) ?_
                exact W.zret (v := 0) (ty := .boolean) hx hb hr (by decide) (fun t ht hW => ⟨⟨0, (), rfl, trivial, by rw [ht]; exact hP9, va_K.moved hW.alike hK9, hD9⟩, hS.F ht⟩) hS.2.2 d_OM_isAction_152
              · skip
                refine lv_iconst (v := 1) hx hb d_OM_isAction_44 (by decide) ?_
                refine lv_goto (tgt := 49) hx hb d_OM_isAction_45 (by decide) ?_
                refine tp_pc (pc' := 49) (by rfl) ?_
                refine lv_istore (lv' := [(6, .int 1), (5, .int 1), (4, .int 0), (0, .int 2), (1, .int p1), (2, .int p2), (3, .int p3)]) hx hb d_OM_isAction_49 hl (by decide) rfl ?_
                clear hl ls
                intro ls hl
                refine lv_iload_n hx hb d_OM_isAction_51 rfl (lv_at hl 3 rfl) ?_
                refine lv_tableIn (x := 2) (tgt := 132) hx hb d_OM_isAction_52 (by decide) (by decide) (by rfl) (by decide) ?_
                refine tp_pc (pc' := 132) (by rfl) ?_
                refine lv_iload hx hb d_OM_isAction_132 (lv_at hl 2 rfl) ?_
                refine lv_if_eq (tgt := 151) hx hb d_OM_isAction_134 (by decide) (fun c_167 => ?_) (fun c_167 => absurd c_167 (by decide))
                refine tp_pc (pc' := 151) (by rfl) ?_
                refine lv_iconst (v := 0) hx hb d_OM_isAction_151 (by decide) ?_
                obtain ⟨hP9, hD9, -⟩ := cut3 (wc := []) hP hD rfl hS hA [] (by decide +kernel) rfl
                have hK9 := hK.sub (tys' := []) [] rfl
                refine W.widen (k := 0) (n := 0) (by exact Nat.le_of_ble_eq_true rfl) (by exact Nat.le_of_ble_eq_true rfl) ?_
                exact W.zret (v := 0) (ty := .boolean) hx hb hr (by decide) (fun t ht hW => ⟨⟨0, (), rfl, trivial, by rw [ht]; exact hP9, va_K.moved hW.alike hK9, hD9⟩, hS.F ht⟩) hS.2.2 d_OM_isAction_152
      · skip
        refine lv_iconst (v := 1) hx hb d_OM_isAction_9 (by decide) ?_
        refine lv_goto (tgt := 14) hx hb d_OM_isAction_10 (by decide) ?_
        refine tp_pc (pc' := 14) (by rfl) ?_
        refine lv_istore (lv' := [(4, .int 1), (0, .int 2), (1, .int p1), (2, .int p2), (3, .int p3)]) hx hb d_OM_isAction_14 hl (by decide) rfl ?_
        clear hl ls
        intro ls hl
        refine lv_iload_n hx hb d_OM_isAction_16 rfl (lv_at hl 3 rfl) ?_
        refine lv_if_lt (tgt := 29) hx hb d_OM_isAction_17 (by decide) (fun c_168 => ?_) (fun c_168 => ?_)
        · skip
          refine lv_iconst (v := 0) hx hb d_OM_isAction_29 (by decide) ?_
          refine lv_istore (lv' := [(5, .int 0), (4, .int 1), (0, .int 2), (1, .int p1), (2, .int p2), (3, .int p3)]) hx hb d_OM_isAction_30 hl (by decide) rfl ?_
          clear hl ls
          intro ls hl
          refine lv_iload_n hx hb d_OM_isAction_32 rfl (lv_at hl 5 rfl) ?_
          refine lv_bipush (v := (-9)) hx hb d_OM_isAction_33 (by decide) ?_
          refine lv_icmp_lt (tgt := 48) hx hb d_OM_isAction_35 (by decide) (fun c_169 => ?_) (fun c_169 => ?_)
          · skip
            refine lv_iconst (v := 0) hx hb d_OM_isAction_48 (by decide) ?_
            refine lv_istore (lv' := [(6, .int 0), (5, .int 0), (4, .int 1), (0, .int 2), (1, .int p1), (2, .int p2), (3, .int p3)]) hx hb d_OM_isAction_49 hl (by decide) rfl ?_
            clear hl ls
            intro ls hl
            refine lv_iload_n hx hb d_OM_isAction_51 rfl (lv_at hl 3 rfl) ?_
            refine lv_tableIn (x := 2) (tgt := 132) hx hb d_OM_isAction_52 (by decide) (by decide) (by rfl) (by decide) ?_
            refine tp_pc (pc' := 132) (by rfl) ?_
            refine lv_iload hx hb d_OM_isAction_132 (lv_at hl 2 rfl) ?_
            refine lv_if_eq (tgt := 151) hx hb d_OM_isAction_134 (by decide) (fun c_170 => absurd c_170 (by decide)) (fun c_170 => ?_)
            refine tp_pc (pc' := 137) (by rfl) ?_
            refine lv_iload hx hb d_OM_isAction_137 (lv_at hl 1 rfl) ?_
            refine lv_if_eq (tgt := 151) hx hb d_OM_isAction_139 (by decide) (fun c_171 => ?_) (fun c_171 => absurd c_171 (by decide))
            refine tp_pc (pc' := 151) (by rfl) ?_
            refine lv_iconst (v := 0) hx hb d_OM_isAction_151 (by decide) ?_
            obtain ⟨hP9, hD9, -⟩ := cut3 (wc := []) hP hD rfl hS hA [] (by decide +kernel) rfl
            have hK9 := hK.sub (tys' := []) [] rfl
            refine W.widen (k := 0) (n := 0) (by exact Nat.le_of_ble_eq_true rfl) (by exact Nat.le_of_ble_eq_true rfl) ?_
            exact W.zret (v := 0) (ty := .boolean) hx hb hr (by decide) (fun t ht hW => ⟨⟨0, (), rfl, trivial, by rw [ht]; exact hP9, va_K.moved hW.alike hK9, hD9⟩, hS.F ht⟩) hS.2.2 d_OM_isAction_152
          · skip
            refine lv_iload_n hx hb d_OM_isAction_38 rfl (lv_at hl 5 rfl) ?_
            refine lv_bipush (v := 9) hx hb d_OM_isAction_39 (by decide) ?_
            refine lv_icmp_gt (tgt := 48) hx hb d_OM_isAction_41 (by decide) (fun c_172 => ?_) (fun c_172 => ?_)
            · skip
              refine lv_iconst (v := 0) hx hb d_OM_isAction_48 (by decide) ?_
              refine lv_istore (lv' := [(6, .int 0), (5, .int 0), (4, .int 1), (0, .int 2), (1, .int p1), (2, .int p2), (3, .int p3)]) hx hb d_OM_isAction_49 hl (by decide) rfl ?_
              clear hl ls
              intro ls hl
              refine lv_iload_n hx hb d_OM_isAction_51 rfl (lv_at hl 3 rfl) ?_
              refine lv_tableIn (x := 2) (tgt := 132) hx hb d_OM_isAction_52 (by decide) (by decide) (by rfl) (by decide) ?_
              refine tp_pc (pc' := 132) (by rfl) ?_
              refine lv_iload hx hb d_OM_isAction_132 (lv_at hl 2 rfl) ?_
              refine lv_if_eq (tgt := 151) hx hb d_OM_isAction_134 (by decide) (fun c_173 => absurd c_173 (by decide)) (fun c_173 => ?_)
              refine tp_pc (pc' := 137) (by rfl) ?_
              refine lv_iload hx hb d_OM_isAction_137 (lv_at hl 1 rfl) ?_
              refine lv_if_eq (tgt := 151) hx hb d_OM_isAction_139 (by decide) (fun c_174 => ?_) (fun c_174 => absurd c_174 (by decide))
              refine tp_pc (pc' := 151) (by rfl) ?_
              refine lv_iconst (v := 0) hx hb d_OM_isAction_151 (by decide) ?_
              obtain ⟨hP9, hD9, -⟩ := cut3 (wc := []) hP hD rfl hS hA [] (by decide +kernel) rfl
              have hK9 := hK.sub (tys' := []) [] rfl
              refine W.widen (k := 0) (n := 0) (by exact Nat.le_of_ble_eq_true rfl) (by exact Nat.le_of_ble_eq_true rfl) ?_
              exact W.zret (v := 0) (ty := .boolean) hx hb hr (by decide) (fun t ht hW => ⟨⟨0, (), rfl, trivial, by rw [ht]; exact hP9, va_K.moved hW.alike hK9, hD9⟩, hS.F ht⟩) hS.2.2 d_OM_isAction_152
            · skip
              refine lv_iconst (v := 1) hx hb d_OM_isAction_44 (by decide) ?_
              refine lv_goto (tgt := 49) hx hb d_OM_isAction_45 (by decide) ?_
              refine tp_pc (pc' := 49) (by rfl) ?_
              refine lv_istore (lv' := [(6, .int 1), (5, .int 0), (4, .int 1), (0, .int 2), (1, .int p1), (2, .int p2), (3, .int p3)]) hx hb d_OM_isAction_49 hl (by decide) rfl ?_
              clear hl ls
              intro ls hl
              refine lv_iload_n hx hb d_OM_isAction_51 rfl (lv_at hl 3 rfl) ?_
              refine lv_tableIn (x := 2) (tgt := 132) hx hb d_OM_isAction_52 (by decide) (by decide) (by rfl) (by decide) ?_
              refine tp_pc (pc' := 132) (by rfl) ?_
              refine lv_iload hx hb d_OM_isAction_132 (lv_at hl 2 rfl) ?_
              refine lv_if_eq (tgt := 151) hx hb d_OM_isAction_134 (by decide) (fun c_175 => absurd c_175 (by decide)) (fun c_175 => ?_)
              refine tp_pc (pc' := 137) (by rfl) ?_
              refine lv_iload hx hb d_OM_isAction_137 (lv_at hl 1 rfl) ?_
              refine lv_if_eq (tgt := 151) hx hb d_OM_isAction_139 (by decide) (fun c_176 => ?_) (fun c_176 => absurd c_176 (by decide))
              refine tp_pc (pc' := 151) (by rfl) ?_
              refine lv_iconst (v := 0) hx hb d_OM_isAction_151 (by decide) ?_
              obtain ⟨hP9, hD9, -⟩ := cut3 (wc := []) hP hD rfl hS hA [] (by decide +kernel) rfl
              have hK9 := hK.sub (tys' := []) [] rfl
              refine W.widen (k := 0) (n := 0) (by exact Nat.le_of_ble_eq_true rfl) (by exact Nat.le_of_ble_eq_true rfl) ?_
              exact W.zret (v := 0) (ty := .boolean) hx hb hr (by decide) (fun t ht hW => ⟨⟨0, (), rfl, trivial, by rw [ht]; exact hP9, va_K.moved hW.alike hK9, hD9⟩, hS.F ht⟩) hS.2.2 d_OM_isAction_152
        · skip
          refine lv_iload_n hx hb d_OM_isAction_20 rfl (lv_at hl 3 rfl) ?_
          refine lv_iconst (v := 2) hx hb d_OM_isAction_21 (by decide) ?_
          refine lv_icmp_ge (tgt := 29) hx hb d_OM_isAction_22 (by decide) (fun c_177 => ?_) (fun c_177 => ?_)
          · skip
            refine lv_iconst (v := 0) hx hb d_OM_isAction_29 (by decide) ?_
            refine lv_istore (lv' := [(5, .int 0), (4, .int 1), (0, .int 2), (1, .int p1), (2, .int p2), (3, .int p3)]) hx hb d_OM_isAction_30 hl (by decide) rfl ?_
            clear hl ls
            intro ls hl
            refine lv_iload_n hx hb d_OM_isAction_32 rfl (lv_at hl 5 rfl) ?_
            refine lv_bipush (v := (-9)) hx hb d_OM_isAction_33 (by decide) ?_
            refine lv_icmp_lt (tgt := 48) hx hb d_OM_isAction_35 (by decide) (fun c_178 => ?_) (fun c_178 => ?_)
            · skip
              refine lv_iconst (v := 0) hx hb d_OM_isAction_48 (by decide) ?_
              refine lv_istore (lv' := [(6, .int 0), (5, .int 0), (4, .int 1), (0, .int 2), (1, .int p1), (2, .int p2), (3, .int p3)]) hx hb d_OM_isAction_49 hl (by decide) rfl ?_
              clear hl ls
              intro ls hl
              refine lv_iload_n hx hb d_OM_isAction_51 rfl (lv_at hl 3 rfl) ?_
              refine lv_tableIn (x := 2) (tgt := 132) hx hb d_OM_isAction_52 (by decide) (by decide) (by rfl) (by decide) ?_
              refine tp_pc (pc' := 132) (by rfl) ?_
              refine lv_iload hx hb d_OM_isAction_132 (lv_at hl 2 rfl) ?_
              refine lv_if_eq (tgt := 151) hx hb d_OM_isAction_134 (by decide) (fun c_179 => absurd c_179 (by decide)) (fun c_179 => ?_)
              refine tp_pc (pc' := 137) (by rfl) ?_
              refine lv_iload hx hb d_OM_isAction_137 (lv_at hl 1 rfl) ?_
              refine lv_if_eq (tgt := 151) hx hb d_OM_isAction_139 (by decide) (fun c_180 => ?_) (fun c_180 => absurd c_180 (by decide))
              refine tp_pc (pc' := 151) (by rfl) ?_
              refine lv_iconst (v := 0) hx hb d_OM_isAction_151 (by decide) ?_
              obtain ⟨hP9, hD9, -⟩ := cut3 (wc := []) hP hD rfl hS hA [] (by decide +kernel) rfl
              have hK9 := hK.sub (tys' := []) [] rfl
              refine W.widen (k := 0) (n := 0) (by exact Nat.le_of_ble_eq_true rfl) (by exact Nat.le_of_ble_eq_true rfl) ?_
              exact W.zret (v := 0) (ty := .boolean) hx hb hr (by decide) (fun t ht hW => ⟨⟨0, (), rfl, trivial, by rw [ht]; exact hP9, va_K.moved hW.alike hK9, hD9⟩, hS.F ht⟩) hS.2.2 d_OM_isAction_152
            · skip
              refine lv_iload_n hx hb d_OM_isAction_38 rfl (lv_at hl 5 rfl) ?_
              refine lv_bipush (v := 9) hx hb d_OM_isAction_39 (by decide) ?_
              refine lv_icmp_gt (tgt := 48) hx hb d_OM_isAction_41 (by decide) (fun c_181 => ?_) (fun c_181 => ?_)
              · skip
                refine lv_iconst (v := 0) hx hb d_OM_isAction_48 (by decide) ?_
                refine lv_istore (lv' := [(6, .int 0), (5, .int 0), (4, .int 1), (0, .int 2), (1, .int p1), (2, .int p2), (3, .int p3)]) hx hb d_OM_isAction_49 hl (by decide) rfl ?_
                clear hl ls
                intro ls hl
                refine lv_iload_n hx hb d_OM_isAction_51 rfl (lv_at hl 3 rfl) ?_
                refine lv_tableIn (x := 2) (tgt := 132) hx hb d_OM_isAction_52 (by decide) (by decide) (by rfl) (by decide) ?_
                refine tp_pc (pc' := 132) (by rfl) ?_
                refine lv_iload hx hb d_OM_isAction_132 (lv_at hl 2 rfl) ?_
                refine lv_if_eq (tgt := 151) hx hb d_OM_isAction_134 (by decide) (fun c_182 => absurd c_182 (by decide)) (fun c_182 => ?_)
                refine tp_pc (pc' := 137) (by rfl) ?_
                refine lv_iload hx hb d_OM_isAction_137 (lv_at hl 1 rfl) ?_
                refine lv_if_eq (tgt := 151) hx hb d_OM_isAction_139 (by decide) (fun c_183 => ?_) (fun c_183 => absurd c_183 (by decide))
                refine tp_pc (pc' := 151) (by rfl) ?_
                refine lv_iconst (v := 0) hx hb d_OM_isAction_151 (by decide) ?_
                obtain ⟨hP9, hD9, -⟩ := cut3 (wc := []) hP hD rfl hS hA [] (by decide +kernel) rfl
                have hK9 := hK.sub (tys' := []) [] rfl
                refine W.widen (k := 0) (n := 0) (by exact Nat.le_of_ble_eq_true rfl) (by exact Nat.le_of_ble_eq_true rfl) ?_
                exact W.zret (v := 0) (ty := .boolean) hx hb hr (by decide) (fun t ht hW => ⟨⟨0, (), rfl, trivial, by rw [ht]; exact hP9, va_K.moved hW.alike hK9, hD9⟩, hS.F ht⟩) hS.2.2 d_OM_isAction_152
              · skip
                refine lv_iconst (v := 1) hx hb d_OM_isAction_44 (by decide) ?_
                refine lv_goto (tgt := 49) hx hb d_OM_isAction_45 (by decide) ?_
                refine tp_pc (pc' := 49) (by rfl) ?_
                refine lv_istore (lv' := [(6, .int 1), (5, .int 0), (4, .int 1), (0, .int 2), (1, .int p1), (2, .int p2), (3, .int p3)]) hx hb d_OM_isAction_49 hl (by decide) rfl ?_
                clear hl ls
                intro ls hl
                refine lv_iload_n hx hb d_OM_isAction_51 rfl (lv_at hl 3 rfl) ?_
                refine lv_tableIn (x := 2) (tgt := 132) hx hb d_OM_isAction_52 (by decide) (by decide) (by rfl) (by decide) ?_
                refine tp_pc (pc' := 132) (by rfl) ?_
                refine lv_iload hx hb d_OM_isAction_132 (lv_at hl 2 rfl) ?_
                refine lv_if_eq (tgt := 151) hx hb d_OM_isAction_134 (by decide) (fun c_184 => absurd c_184 (by decide)) (fun c_184 => ?_)
                refine tp_pc (pc' := 137) (by rfl) ?_
                refine lv_iload hx hb d_OM_isAction_137 (lv_at hl 1 rfl) ?_
                refine lv_if_eq (tgt := 151) hx hb d_OM_isAction_139 (by decide) (fun c_185 => ?_) (fun c_185 => absurd c_185 (by decide))
                refine tp_pc (pc' := 151) (by rfl) ?_
                refine lv_iconst (v := 0) hx hb d_OM_isAction_151 (by decide) ?_
                obtain ⟨hP9, hD9, -⟩ := cut3 (wc := []) hP hD rfl hS hA [] (by decide +kernel) rfl
                have hK9 := hK.sub (tys' := []) [] rfl
                refine W.widen (k := 0) (n := 0) (by exact Nat.le_of_ble_eq_true rfl) (by exact Nat.le_of_ble_eq_true rfl) ?_
                exact W.zret (v := 0) (ty := .boolean) hx hb hr (by decide) (fun t ht hW => ⟨⟨0, (), rfl, trivial, by rw [ht]; exact hP9, va_K.moved hW.alike hK9, hD9⟩, hS.F ht⟩) hS.2.2 d_OM_isAction_152
          · skip
            refine lv_iconst (v := 1) hx hb d_OM_isAction_25 (by decide) ?_
            refine lv_goto (tgt := 30) hx hb d_OM_isAction_26 (by decide) ?_
            refine tp_pc (pc' := 30) (by rfl) ?_
            refine lv_istore (lv' := [(5, .int 1), (4, .int 1), (0, .int 2), (1, .int p1), (2, .int p2), (3, .int p3)]) hx hb d_OM_isAction_30 hl (by decide) rfl ?_
            clear hl ls
            intro ls hl
            refine lv_iload_n hx hb d_OM_isAction_32 rfl (lv_at hl 5 rfl) ?_
            refine lv_bipush (v := (-9)) hx hb d_OM_isAction_33 (by decide) ?_
            refine lv_icmp_lt (tgt := 48) hx hb d_OM_isAction_35 (by decide) (fun c_186 => ?_) (fun c_186 => ?_)
            · skip
              refine lv_iconst (v := 0) hx hb d_OM_isAction_48 (by decide) ?_
              refine lv_istore (lv' := [(6, .int 0), (5, .int 1), (4, .int 1), (0, .int 2), (1, .int p1), (2, .int p2), (3, .int p3)]) hx hb d_OM_isAction_49 hl (by decide) rfl ?_
              clear hl ls
              intro ls hl
              refine lv_iload_n hx hb d_OM_isAction_51 rfl (lv_at hl 3 rfl) ?_
              refine lv_tableIn (x := 2) (tgt := 132) hx hb d_OM_isAction_52 (by decide) (by decide) (by rfl) (by decide) ?_
              refine tp_pc (pc' := 132) (by rfl) ?_
              refine lv_iload hx hb d_OM_isAction_132 (lv_at hl 2 rfl) ?_
              refine lv_if_eq (tgt := 151) hx hb d_OM_isAction_134 (by decide) (fun c_187 => absurd c_187 (by decide)) (fun c_187 => ?_)
              refine tp_pc (pc' := 137) (by rfl) ?_
              refine lv_iload hx hb d_OM_isAction_137 (lv_at hl 1 rfl) ?_
              refine lv_if_eq (tgt := 151) hx hb d_OM_isAction_139 (by decide) (fun c_188 => absurd c_188 (by decide)) (fun c_188 => ?_)
              refine tp_pc (pc' := 142) (by rfl) ?_
              refine lv_iload hx hb d_OM_isAction_142 (lv_at hl 0 rfl) ?_
              refine lv_if_eq (tgt := 151) hx hb d_OM_isAction_144 (by decide) (fun c_189 => ?_) (fun c_189 => absurd c_189 (by decide))
              refine tp_pc (pc' := 151) (by rfl) ?_
              refine lv_iconst (v := 0) hx hb d_OM_isAction_151 (by decide) ?_
              obtain ⟨hP9, hD9, -⟩ := cut3 (wc := []) hP hD rfl hS hA [] (by decide +kernel) rfl
              have hK9 := hK.sub (tys' := []) [] rfl
              refine W.widen (k := 0) (n := 0) (by exact Nat.le_of_ble_eq_true rfl) (by exact Nat.le_of_ble_eq_true rfl) ?_
              exact W.zret (v := 0) (ty := .boolean) hx hb hr (by decide) (fun t ht hW => ⟨⟨0, (), rfl, trivial, by rw [ht]; exact hP9, va_K.moved hW.alike hK9, hD9⟩, hS.F ht⟩) hS.2.2 d_OM_isAction_152
            · skip
              refine lv_iload_n hx hb d_OM_isAction_38 rfl (lv_at hl 5 rfl) ?_
              refine lv_bipush (v := 9) hx hb d_OM_isAction_39 (by decide) ?_
              refine lv_icmp_gt (tgt := 48) hx hb d_OM_isAction_41 (by decide) (fun c_190 => ?_) (fun c_190 => ?_)
              · skip
                refine lv_iconst (v := 0) hx hb d_OM_isAction_48 (by decide) ?_
                refine lv_istore (lv' := [(6, .int 0), (5, .int 1), (4, .int 1), (0, .int 2), (1, .int p1), (2, .int p2), (3, .int p3)]) hx hb d_OM_isAction_49 hl (by decide) rfl ?_
                clear hl ls
                intro ls hl
                refine lv_iload_n hx hb d_OM_isAction_51 rfl (lv_at hl 3 rfl) ?_
                refine lv_tableIn (x := 2) (tgt := 132) hx hb d_OM_isAction_52 (by decide) (by decide) (by rfl) (by decide) ?_
                refine tp_pc (pc' := 132) (by rfl) ?_
                refine lv_iload hx hb d_OM_isAction_132 (lv_at hl 2 rfl) ?_
                refine lv_if_eq (tgt := 151) hx hb d_OM_isAction_134 (by decide) (fun c_191 => absurd c_191 (by decide)) (fun c_191 => ?_)
                refine tp_pc (pc' := 137) (by rfl) ?_
                refine lv_iload hx hb d_OM_isAction_137 (lv_at hl 1 rfl) ?_
                refine lv_if_eq (tgt := 151) hx hb d_OM_isAction_139 (by decide) (fun c_192 => absurd c_192 (by decide)) (fun c_192 => ?_)
                refine tp_pc (pc' := 142) (by rfl) ?_
                refine lv_iload hx hb d_OM_isAction_142 (lv_at hl 0 rfl) ?_
                refine lv_if_eq (tgt := 151) hx hb d_OM_isAction_144 (by decide) (fun c_193 => ?_) (fun c_193 => absurd c_193 (by decide))
                refine tp_pc (pc' := 151) (by rfl) ?_
                refine lv_iconst (v := 0) hx hb d_OM_isAction_151 (by decide) ?_
                obtain ⟨hP9, hD9, -⟩ := cut3 (wc := []) hP hD rfl hS hA [] (by decide +kernel) rfl
                have hK9 := hK.sub (tys' := []) [] rfl
                refine W.widen (k := 0) (n := 0) (by exact Nat.le_of_ble_eq_true rfl) (by exact Nat.le_of_ble_eq_true rfl) ?_
                exact W.zret (v := 0) (ty := .boolean) hx hb hr (by decide) (fun t ht hW => ⟨⟨0, (), rfl, trivial, by rw [ht]; exact hP9, va_K.moved hW.alike hK9, hD9⟩, hS.F ht⟩) hS.2.2 d_OM_isAction_152
              · skip
                refine lv_iconst (v := 1) hx hb d_OM_isAction_44 (by decide) ?_
                refine lv_goto (tgt := 49) hx hb d_OM_isAction_45 (by decide) ?_
                refine tp_pc (pc' := 49) (by rfl) ?_
                refine lv_istore (lv' := [(6, .int 1), (5, .int 1), (4, .int 1), (0, .int 2), (1, .int p1), (2, .int p2), (3, .int p3)]) hx hb d_OM_isAction_49 hl (by decide) rfl ?_
                clear hl ls
                intro ls hl
                refine lv_iload_n hx hb d_OM_isAction_51 rfl (lv_at hl 3 rfl) ?_
                refine lv_tableIn (x := 2) (tgt := 132) hx hb d_OM_isAction_52 (by decide) (by decide) (by rfl) (by decide) ?_
                refine tp_pc (pc' := 132) (by rfl) ?_
                refine lv_iload hx hb d_OM_isAction_132 (lv_at hl 2 rfl) ?_
                refine lv_if_eq (tgt := 151) hx hb d_OM_isAction_134 (by decide) (fun c_194 => absurd c_194 (by decide)) (fun c_194 => ?_)
                refine tp_pc (pc' := 137) (by rfl) ?_
                refine lv_iload hx hb d_OM_isAction_137 (lv_at hl 1 rfl) ?_
                refine lv_if_eq (tgt := 151) hx hb d_OM_isAction_139 (by decide) (fun c_195 => absurd c_195 (by decide)) (fun c_195 => ?_)
                refine tp_pc (pc' := 142) (by rfl) ?_
                refine lv_iload hx hb d_OM_isAction_142 (lv_at hl 0 rfl) ?_
                refine lv_if_eq (tgt := 151) hx hb d_OM_isAction_144 (by decide) (fun c_196 => absurd c_196 (by decide)) (fun c_196 => ?_)
                refine tp_pc (pc' := 147) (by rfl) ?_
                refine lv_iconst (v := 1) hx hb d_OM_isAction_147 (by decide) ?_
                refine lv_goto (tgt := 152) hx hb d_OM_isAction_148 (by decide) ?_
                refine tp_pc (pc' := 152) (by rfl) ?_
                obtain ⟨hP9, hD9, -⟩ := cut3 (wc := []) hP hD rfl hS hA [] (by decide +kernel) rfl
                have hK9 := hK.sub (tys' := []) [] rfl
                refine W.widen (k := 0) (n := 0) (by exact Nat.le_of_ble_eq_true rfl) (by exact Nat.le_of_ble_eq_true rfl) ?_
                exact W.zret (v := 1) (ty := .boolean) hx hb hr (by decide) (fun t ht hW => ⟨⟨1, (), rfl, trivial, by rw [ht]; exact hP9, va_K.moved hW.alike hK9, hD9⟩, hS.F ht⟩) hS.2.2 d_OM_isAction_152
  · skip
    refine lv_iload_n hx hb d_OM_isAction_0 rfl (lv_at hl 1 rfl) ?_
    refine lv_if_lt (tgt := 13) hx hb d_OM_isAction_1 (by decide) (fun c_197 => ?_) (fun c_197 => ?_)
    · skip
      refine lv_iconst (v := 0) hx hb d_OM_isAction_13 (by decide) ?_
      refine lv_istore (lv' := [(4, .int 0), (0, .int 3), (1, .int p1), (2, .int p2), (3, .int p3)]) hx hb d_OM_isAction_14 hl (by decide) rfl ?_
      clear hl ls
      intro ls hl
      refine lv_iload_n hx hb d_OM_isAction_16 rfl (lv_at hl 3 rfl) ?_
      refine lv_if_lt (tgt := 29) hx hb d_OM_isAction_17 (by decide) (fun c_198 => ?_) (fun c_198 => ?_)
      · skip
        refine lv_iconst (v := 0) hx hb d_OM_isAction_29 (by decide) ?_
        refine lv_istore (lv' := [(5, .int 0), (4, .int 0), (0, .int 3), (1, .int p1), (2, .int p2), (3, .int p3)]) hx hb d_OM_isAction_30 hl (by decide) rfl ?_
        clear hl ls
        intro ls hl
        refine lv_iload_n hx hb d_OM_isAction_32 rfl (lv_at hl 5 rfl) ?_
        refine lv_bipush (v := (-9)) hx hb d_OM_isAction_33 (by decide) ?_
        refine lv_icmp_lt (tgt := 48) hx hb d_OM_isAction_35 (by decide) (fun c_199 => ?_) (fun c_199 => ?_)
        · skip
          refine lv_iconst (v := 0) hx hb d_OM_isAction_48 (by decide) ?_
          refine lv_istore (lv' := [(6, .int 0), (5, .int 0), (4, .int 0), (0, .int 3), (1, .int p1), (2, .int p2), (3, .int p3)]) hx hb d_OM_isAction_49 hl (by decide) rfl ?_
          clear hl ls
          intro ls hl
          refine lv_iload_n hx hb d_OM_isAction_51 rfl (lv_at hl 3 rfl) ?_
          refine lv_tableIn (x := 3) (tgt := 132) hx hb d_OM_isAction_52 (by decide) (by decide) (by rfl) (by decide) ?_
          refine tp_pc (pc' := 132) (by rfl) ?_
          refine lv_iload hx hb d_OM_isAction_132 (lv_at hl 2 rfl) ?_
          refine lv_if_eq (tgt := 151) hx hb d_OM_isAction_134 (by decide) (fun c_200 => ?_) (fun c_200 => absurd c_200 (by decide))
          refine tp_pc (pc' := 151) (by rfl) ?_
          refine lv_iconst (v := 0) hx hb d_OM_isAction_151 (by decide) ?_
          obtain ⟨hP9, hD9, -⟩ := cut3 (wc := []) hP hD rfl hS hA [] (by decide +kernel) rfl
          have hK9 := hK.sub (tys' := []) [] rfl
          refine W.widen (k := 0) (n := 0) (by exact Nat.le_of_ble_eq_true rfl) (by exact Nat.le_of_ble_eq_true rfl) ?_
          exact W.zret (v := 0) (ty := .boolean) hx hb hr (by decide) (fun t ht hW => ⟨⟨0, (), rfl, trivial, by rw [ht]; exact hP9, va_K.moved hW.alike hK9, hD9⟩, hS.F ht⟩) hS.2.2 d_OM_isAction_152
        · skip
          refine lv_iload_n hx hb d_OM_isAction_38 rfl (lv_at hl 5 rfl) ?_
          refine lv_bipush (v := 9) hx hb d_OM_isAction_39 (by decide) ?_
          refine lv_icmp_gt (tgt := 48) hx hb d_OM_isAction_41 (by decide) (fun c_201 => ?_) (fun c_201 => ?_)
          · skip
            refine lv_iconst (v := 0) hx hb d_OM_isAction_48 (by decide) ?_
            refine lv_istore (lv' := [(6, .int 0), (5, .int 0), (4, .int 0), (0, .int 3), (1, .int p1), (2, .int p2), (3, .int p3)]) hx hb d_OM_isAction_49 hl (by decide) rfl ?_
            clear hl ls
            intro ls hl
            refine lv_iload_n hx hb d_OM_isAction_51 rfl (lv_at hl 3 rfl) ?_
            refine lv_tableIn (x := 3) (tgt := 132) hx hb d_OM_isAction_52 (by decide) (by decide) (by rfl) (by decide) ?_
            refine tp_pc (pc' := 132) (by rfl) ?_
            refine lv_iload hx hb d_OM_isAction_132 (lv_at hl 2 rfl) ?_
            refine lv_if_eq (tgt := 151) hx hb d_OM_isAction_134 (by decide) (fun c_202 => ?_) (fun c_202 => absurd c_202 (by decide))
            refine tp_pc (pc' := 151) (by rfl) ?_
            refine lv_iconst (v := 0) hx hb d_OM_isAction_151 (by decide) ?_
            obtain ⟨hP9, hD9, -⟩ := cut3 (wc := []) hP hD rfl hS hA [] (by decide +kernel) rfl
            have hK9 := hK.sub (tys' := []) [] rfl
            refine W.widen (k := 0) (n := 0) (by exact Nat.le_of_ble_eq_true rfl) (by exact Nat.le_of_ble_eq_true rfl) ?_
            exact W.zret (v := 0) (ty := .boolean) hx hb hr (by decide) (fun t ht hW => ⟨⟨0, (), rfl, trivial, by rw [ht]; exact hP9, va_K.moved hW.alike hK9, hD9⟩, hS.F ht⟩) hS.2.2 d_OM_isAction_152
          · skip
            refine lv_iconst (v := 1) hx hb d_OM_isAction_44 (by decide) ?_
            refine lv_goto (tgt := 49) hx hb d_OM_isAction_45 (by decide) ?_
            refine tp_pc (pc' := 49) (by rfl) ?_
            refine lv_istore (lv' := [(6, .int 1), (5, .int 0), (4, .int 0), (0, .int 3), (1, .int p1), (2, .int p2), (3, .int p3)]) hx hb d_OM_isAction_49 hl (by decide) rfl ?_
            clear hl ls
            intro ls hl
            refine lv_iload_n hx hb d_OM_isAction_51 rfl (lv_at hl 3 rfl) ?_
            refine lv_tableIn (x := 3) (tgt := 132) hx hb d_OM_isAction_52 (by decide) (by decide) (by rfl) (by decide) ?_
            refine tp_pc (pc' := 132) (by rfl) ?_
            refine lv_iload hx hb d_OM_isAction_132 (lv_at hl 2 rfl) ?_
            refine lv_if_eq (tgt := 151) hx hb d_OM_isAction_134 (by decide) (fun c_203 => ?_) (fun c_203 => absurd c_203 (by decide))
            refine tp_pc (pc' := 151) (by rfl) ?_
            refine lv_iconst (v := 0) hx hb d_OM_isAction_151 (by decide) ?_
            obtain ⟨hP9, hD9, -⟩ := cut3 (wc := []) hP hD rfl hS hA [] (by decide +kernel) rfl
            have hK9 := hK.sub (tys' := []) [] rfl
            refine W.widen (k := 0) (n := 0) (by exact Nat.le_of_ble_eq_true rfl) (by exact Nat.le_of_ble_eq_true rfl) ?_
            exact W.zret (v := 0) (ty := .boolean) hx hb hr (by decide) (fun t ht hW => ⟨⟨0, (), rfl, trivial, by rw [ht]; exact hP9, va_K.moved hW.alike hK9, hD9⟩, hS.F ht⟩) hS.2.2 d_OM_isAction_152
      · skip
        refine lv_iload_n hx hb d_OM_isAction_20 rfl (lv_at hl 3 rfl) ?_
        refine lv_iconst (v := 2) hx hb d_OM_isAction_21 (by decide) ?_
        refine lv_icmp_ge (tgt := 29) hx hb d_OM_isAction_22 (by decide) (fun c_204 => ?_) (fun c_204 => ?_)
        · skip
          refine lv_iconst (v := 0) hx hb d_OM_isAction_29 (by decide) ?_
          refine lv_istore (lv' := [(5, .int 0), (4, .int 0), (0, .int 3), (1, .int p1), (2, .int p2), (3, .int p3)]) hx hb d_OM_isAction_30 hl (by decide) rfl ?_
          clear hl ls
          intro ls hl
          refine lv_iload_n hx hb d_OM_isAction_32 rfl (lv_at hl 5 rfl) ?_
          refine lv_bipush (v := (-9)) hx hb d_OM_isAction_33 (by decide) ?_
          refine lv_icmp_lt (tgt := 48) hx hb d_OM_isAction_35 (by decide) (fun c_205 => ?_) (fun c_205 => ?_)
          · skip
            refine lv_iconst (v := 0) hx hb d_OM_isAction_48 (by decide) ?_
            refine lv_istore (lv' := [(6, .int 0), (5, .int 0), (4, .int 0), (0, .int 3), (1, .int p1), (2, .int p2), (3, .int p3)]) hx hb d_OM_isAction_49 hl (by decide) rfl ?_
            clear hl ls
            intro ls hl
            refine lv_iload_n hx hb d_OM_isAction_51 rfl (lv_at hl 3 rfl) ?_
            refine lv_tableIn (x := 3) (tgt := 132) hx hb d_OM_isAction_52 (by decide) (by decide) (by rfl) (by decide) ?_
            refine tp_pc (pc' := 132) (by rfl) ?_
            refine lv_iload hx hb d_OM_isAction_132 (lv_at hl 2 rfl) ?_
            refine lv_if_eq (tgt := 151) hx hb d_OM_isAction_134 (by decide) (fun c_206 => ?_) (fun c_206 => absurd c_206 (by decide))
            refine tp_pc (pc' := 151) (by rfl) ?_
            refine lv_iconst (v := 0) hx hb d_OM_isAction_151 (by decide) ?_
            obtain ⟨hP9, hD9, -⟩ := cut3 (wc := []) hP hD rfl hS hA [] (by decide +kernel) rfl
            have hK9 := hK.sub (tys' := []) [] rfl
            refine W.widen (k := 0) (n := 0) (by exact Nat.le_of_ble_eq_true rfl) (by exact Nat.le_of_ble_eq_true rfl) ?_
            exact W.zret (v := 0) (ty := .boolean) hx hb hr (by decide) (fun t ht hW => ⟨⟨0, (), rfl, trivial, by rw [ht]; exact hP9, va_K.moved hW.alike hK9, hD9⟩, hS.F ht⟩) hS.2.2 d_OM_isAction_152
          · skip
            refine lv_iload_n hx hb d_OM_isAction_38 rfl (lv_at hl 5 rfl) ?_
            refine lv_bipush (v := 9) hx hb d_OM_isAction_39 (by decide) ?_
            refine lv_icmp_gt (tgt := 48) hx hb d_OM_isAction_41 (by decide) (fun c_207 => ?_) (fun c_207 => ?_)
            · skip
              refine lv_iconst (v := 0) hx hb d_OM_isAction_48 (by decide) ?_
              refine lv_istore (lv' := [(6, .int 0), (5, .int 0), (4, .int 0), (0, .int 3), (1, .int p1), (2, .int p2), (3, .int p3)]) hx hb d_OM_isAction_49 hl (by decide) rfl ?_
              clear hl ls
              intro ls hl
              refine lv_iload_n hx hb d_OM_isAction_51 rfl (lv_at hl 3 rfl) ?_
              refine lv_tableIn (x := 3) (tgt := 132) hx hb d_OM_isAction_52 (by decide) (by decide) (by rfl) (by decide) ?_
              refine tp_pc (pc' := 132) (by rfl) ?_
              refine lv_iload hx hb d_OM_isAction_132 (lv_at hl 2 rfl) ?_
              refine lv_if_eq (tgt := 151) hx hb d_OM_isAction_134 (by decide) (fun c_208 => ?_) (fun c_208 => absurd c_208 (by decide))
              refine tp_pc (pc' := 151) (by rfl) ?_
              refine lv_iconst (v := 0) hx hb d_OM_isAction_151 (by decide) ?_
              obtain ⟨hP9, hD9, -⟩ := cut3 (wc := []) hP hD rfl hS hA [] (by decide +kernel) rfl
              have hK9 := hK.sub (tys' := []) [] rfl
              refine W.widen (k := 0) (n := 0) (by exact Nat.le_of_ble_eq_true rfl) (by exact Nat.le_of_ble_eq_true rfl) ?_
              exact W.zret (v := 0) (ty := .boolean) hx hb hr (by decide) (fun t ht hW => ⟨⟨0, (), rfl, trivial, by rw [ht]; exact hP9, va_K.moved hW.alike hK9, hD9⟩, hS.F ht⟩) hS.2.2 d_OM_isAction_152
            · skip
              refine lv_iconst (v := 1) hx hb d_OM_isAction_44 (by decide) ?_
              refine lv_goto (tgt := 49) hx hb d_OM_isAction_45 (by decide) ?_
              refine tp_pc (pc' := 49) (by rfl) ?_
              refine lv_istore (lv' := [(6, .int 1), (5, .int 0), (4, .int 0), (0, .int 3), (1, .int p1), (2, .int p2), (3, .int p3)]) hx hb d_OM_isAction_49 hl (by decide) rfl ?_
              clear hl ls
              intro ls hl
              refine lv_iload_n hx hb d_OM_isAction_51 rfl (lv_at hl 3 rfl) ?_
              refine lv_tableIn (x := 3) (tgt := 132) hx hb d_OM_isAction_52 (by decide) (by decide) (by rfl) (by decide) ?_
              refine tp_pc (pc' := 132) (by rfl) ?_
              refine lv_iload hx hb d_OM_isAction_132 (lv_at hl 2 rfl) ?_
              refine lv_if_eq (tgt := 151) hx hb d_OM_isAction_134 (by decide) (fun c_209 => ?_) (fun c_209 => absurd c_209 (by decide))
              refine tp_pc (pc' := 151) (by rfl) ?_
              refine lv_iconst (v := 0) hx hb d_OM_isAction_151 (by decide) ?_
              obtain ⟨hP9, hD9, -⟩ := cut3 (wc := []) hP hD rfl hS hA [] (by decide +kernel) rfl
              have hK9 := hK.sub (tys' := []) [] rfl
              refine W.widen (k := 0) (n := 0) (by exact Nat.le_of_ble_eq_true rfl) (by exact Nat.le_of_ble_eq_true rfl) ?_
              exact W.zret (v := 0) (ty := .boolean) hx hb hr (by decide) (fun t ht hW => ⟨⟨0, (), rfl, trivial, by rw [ht]; exact hP9, va_K.moved hW.alike hK9, hD9⟩, hS.F ht⟩) hS.2.2 d_OM_isAction_152
        · skip
          refine lv_iconst (v := 1) hx hb d_OM_isAction_25 (by decide) ?_
          refine lv_goto (tgt := 30) hx hb d_OM_isAction_26 (by decide) ?_
          refine tp_pc (pc' := 30) (by rfl) ?_
          refine lv_istore (lv' := [(5, .int 1), (4, .int 0), (0, .int 3), (1, .int p1), (2, .int p2), (3, .int p3)]) hx hb d_OM_isAction_30 hl (by decide) rfl ?_
          clear hl ls
          intro ls hl
          refine lv_iload_n hx hb d_OM_isAction_32 rfl (lv_at hl 5 rfl) ?_
          refine lv_bipush (v := (-9)) hx hb d_OM_isAction_33 (by decide) ?_
          refine lv_icmp_lt (tgt := 48) hx hb d_OM_isAction_35 (by decide) (fun c_210 => ?_) (fun c_210 => ?_)
          · skip
            refine lv_iconst (v := 0) hx hb d_OM_isAction_48 (by decide) ?_
            refine lv_istore (lv' := [(6, .int 0), (5, .int 1), (4, .int 0), (0, .int 3), (1, .int p1), (2, .int p2), (3, .int p3)]) hx hb d_OM_isAction_49 hl (by decide) rfl ?_
            clear hl ls
            intro ls hl
            refine lv_iload_n hx hb d_OM_isAction_51 rfl (lv_at hl 3 rfl) ?_
            refine lv_tableIn (x := 3) (tgt := 132) hx hb d_OM_isAction_52 (by decide) (by decide) (by rfl) (by decide) ?_
            refine tp_pc (pc' := 132) (by rfl) ?_
            refine lv_iload hx hb d_OM_isAction_132 (lv_at hl 2 rfl) ?_
            refine lv_if_eq (tgt := 151) hx hb d_OM_isAction_134 (by decide) (fun c_211 => ?_) (fun c_211 => absurd c_211 (by decide))
            refine tp_pc (pc' := 151) (by rfl) ?_
            refine lv_iconst (v := 0) hx hb d_OM_isAction_151 (by decide) ?_
            obtain ⟨hP9, hD9, -⟩ := cut3 (wc := []) hP hD rfl hS hA [] (by decide +kernel) rfl
            have hK9 := hK.sub (tys' := []) [] rfl
            refine W.widen (k := 0) (n := 0) (by exact Nat.le_of_ble_eq_true rfl) (by exact Nat.le_of_ble_eq_true rfl) ?_
            exact W.zret (v := 0) (ty := .boolean) hx hb hr (by decide) (fun t ht hW => ⟨⟨0, (), rfl, trivial, by rw [ht]; exact hP9, va_K.moved hW.alike hK9, hD9⟩, hS.F ht⟩) hS.2.2 d_OM_isAction_152
          · skip
            refine lv_iload_n hx hb d_OM_isAction_38 rfl (lv_at hl 5 rfl) ?_
            refine lv_bipush (v := 9) hx hb d_OM_isAction_39 (by decide) ?_
            refine lv_icmp_gt (tgt := 48) hx hb d_OM_isAction_41 (by decide) (fun c_212 => ?_) (fun c_212 => ?_)
            · skip
              refine lv_iconst (v := 0) hx hb d_OM_isAction_48 (by decide) ?_
              refine lv_istore (lv' := [(6, .int 0), (5, .int 1), (4, .int 0), (0, .int 3), (1, .int p1), (2, .int p2), (3, .int p3)]) hx hb d_OM_isAction_49 hl (by decide) rfl ?_
              clear hl ls
              intro ls hl
              refine lv_iload_n hx hb d_OM_isAction_51 rfl (lv_at hl 3 rfl) ?_
              refine lv_tableIn (x := 3) (tgt := 132) hx hb d_OM_isAction_52 (by decide) (by decide) (by rfl) (by decide) ?_
              refine tp_pc (pc' := 132) (by rfl) ?_
              refine lv_iload hx hb d_OM_isAction_132 (lv_at hl 2 rfl) ?_
              refine lv_if_eq (tgt := 151) hx hb d_OM_isAction_134 (by decide) (fun c_213 => ?_) (fun c_213 => absurd c_213 (by decide))
              refine tp_pc (pc' := 151) (by rfl) ?_
              refine lv_iconst (v := 0) hx hb d_OM_isAction_151 (by decide) ?_
              obtain ⟨hP9, hD9, -⟩ := cut3 (wc := []) hP hD rfl hS hA [] (by decide +kernel) rfl
              have hK9 := hK.sub (tys' := []) [] rfl
              refine W.widen (k := 0) (n := 0) (by exact Nat.le_of_ble_eq_true rfl) (by exact Nat.le_of_ble_eq_true rfl) ?_
              exact W.zret (v := 0) (ty := .boolean) hx hb hr (by decide) (fun t ht hW => ⟨⟨0, (), rfl, trivial, by rw [ht]; exact hP9, va_K.moved hW.alike hK9, hD9⟩, hS.F ht⟩) hS.2.2 d_OM_isAction_152
            · skip
              refine lv_iconst (v := 1) hx hb d_OM_isAction_44 (by decide) ?_
              refine lv_goto (tgt := 49) hx hb d_OM_isAction_45 (by decide) ?_
              refine tp_pc (pc' := 49) (by rfl) ?_
              refine lv_istore (lv' := [(6, .int 1), (5, .int 1), (4, .int 0), (0, .int 3), (1, .int p1), (2, .int p2), (3, .int p3)]) hx hb d_OM_isAction_49 hl (by decide) rfl ?_
              clear hl ls
              intro ls hl
              refine lv_iload_n hx hb d_OM_isAction_51 rfl (lv_at hl 3 rfl) ?_
              refine lv_tableIn (x := 3) (tgt := 132) hx hb d_OM_isAction_52 (by decide) (by decide) (by rfl) (by decide) ?_
              refine tp_pc (pc' := 132) (by rfl) ?_
              refine lv_iload hx hb d_OM_isAction_132 (lv_at hl 2 rfl) ?_
              refine lv_if_eq (tgt := 151) hx hb d_OM_isAction_134 (by decide) (fun c_214 => ?_) (fun c_214 => absurd c_214 (by decide))
              refine tp_pc (pc' := 151) (by rfl) ?_
              refine lv_iconst (v := 0) hx hb d_OM_isAction_151 (by decide) ?_
              obtain ⟨hP9, hD9, -⟩ := cut3 (wc := []) hP hD rfl hS hA [] (by decide +kernel) rfl
              have hK9 := hK.sub (tys' := []) [] rfl
              refine W.widen (k := 0) (n := 0) (by exact Nat.le_of_ble_eq_true rfl) (by exact Nat.le_of_ble_eq_true rfl) ?_
              exact W.zret (v := 0) (ty := .boolean) hx hb hr (by decide) (fun t ht hW => ⟨⟨0, (), rfl, trivial, by rw [ht]; exact hP9, va_K.moved hW.alike hK9, hD9⟩, hS.F ht⟩) hS.2.2 d_OM_isAction_152
    · skip
      refine lv_iload_n hx hb d_OM_isAction_4 rfl (lv_at hl 1 rfl) ?_
      refine lv_iconst (v := 3) hx hb d_OM_isAction_5 (by decide) ?_
      refine lv_icmp_ge (tgt := 13) hx hb d_OM_isAction_6 (by decide) (fun c_215 => ?_) (fun c_215 => ?_)
      · skip
        refine lv_iconst (v := 0) hx hb d_OM_isAction_13 (by decide) ?_
        refine lv_istore (lv' := [(4, .int 0), (0, .int 3), (1, .int p1), (2, .int p2), (3, .int p3)]) hx hb d_OM_isAction_14 hl (by decide) rfl ?_
        clear hl ls
        intro ls hl
        refine lv_iload_n hx hb d_OM_isAction_16 rfl (lv_at hl 3 rfl) ?_
        refine lv_if_lt (tgt := 29) hx hb d_OM_isAction_17 (by decide) (fun c_216 => ?_) (fun c_216 => ?_)
        · skip
          refine lv_iconst (v := 0) hx hb d_OM_isAction_29 (by decide) ?_
          refine lv_istore (lv' := [(5, .int 0), (4, .int 0), (0, .int 3), (1, .int p1), (2, .int p2), (3, .int p3)]) hx hb d_OM_isAction_30 hl (by decide) rfl ?_
          clear hl ls
          intro ls hl
          refine lv_iload_n hx hb d_OM_isAction_32 rfl (lv_at hl 5 rfl) ?_
          refine lv_bipush (v := (-9)) hx hb d_OM_isAction_33 (by decide) ?_
          refine lv_icmp_lt (tgt := 48) hx hb d_OM_isAction_35 (by decide) (fun c_217 => ?_) (fun c_217 => ?_)
          · skip
            refine lv_iconst (v := 0) hx hb d_OM_isAction_48 (by decide) ?_
            refine lv_istore (lv' := [(6, .int 0), (5, .int 0), (4, .int 0), (0, .int 3), (1, .int p1), (2, .int p2), (3, .int p3)]) hx hb d_OM_isAction_49 hl (by decide) rfl ?_
            clear hl ls
            intro ls hl
            refine lv_iload_n hx hb d_OM_isAction_51 rfl (lv_at hl 3 rfl) ?_
            refine lv_tableIn (x := 3) (tgt := 132) hx hb d_OM_isAction_52 (by decide) (by decide) (by rfl) (by decide) ?_
            refine tp_pc (pc' := 132) (by rfl) ?_
            refine lv_iload hx hb d_OM_isAction_132 (lv_at hl 2 rfl) ?_
            refine lv_if_eq (tgt := 151) hx hb d_OM_isAction_134 (by decide) (fun c_218 => ?_) (fun c_218 => absurd c_218 (by decide))
            refine tp_pc (pc' := 151) (by rfl) ?_
            refine lv_iconst (v := 0) hx hb d_OM_isAction_151 (by decide) ?_
            obtain ⟨hP9, hD9, -⟩ := cut3 (wc := []) hP hD rfl hS hA [] (by decide +kernel) rfl
            have hK9 := hK.sub (tys' := []) [] rfl
            refine W.widen (k := 0) (n := 0) (by exact Nat.le_of_ble_eq_true rfl) (by exact Nat.le_of_ble_eq_true rfl) ?_
            exact W.zret (v := 0) (ty := .boolean) hx hb hr (by decide) (fun t ht hW => ⟨⟨0, (), rfl, trivial, by rw [ht]; exact hP9, va_K.moved hW.alike hK9, hD9⟩, hS.F ht⟩) hS.2.2 d_OM_isAction_152
          · skip
            refine lv_iload_n hx hb d_OM_isAction_38 rfl (lv_at hl 5 rfl) ?_
            refine lv_bipush (v := 9) hx hb d_OM_isAction_39 (by decide) ?_
            refine lv_icmp_gt (tgt := 48) hx hb d_OM_isAction_41 (by decide) (fun c_219 => ?_) (fun c_219 => ?_)
            · skip
              refine lv_iconst (v := 0) hx hb d_OM_isAction_48 (by decide) ?_
              refine lv_istore (lv' := [(6, .int 0), (5, .int 0), (4, .int 0), (0, .int 3), (1, .int p1), (2, .int p2), (3, .int p3)]) hx hb d_OM_isAction_49 hl (by decide) rfl ?_
              clear hl ls
              intro ls hl
              refine lv_iload_n hx hb d_OM_isAction_51 rfl (lv_at hl 3 rfl) ?_
              refine lv_tableIn (x := 3) (tgt := 132) hx hb d_OM_isAction_52 (by decide) (by decide) (by rfl) (by decide) ?_
              refine tp_pc (pc' := 132) (by rfl) ?_
              refine lv_iload hx hb d_OM_isAction_132 (lv_at hl 2 rfl) ?_
              refine lv_if_eq (tgt := 151) hx hb d_OM_isAction_134 (by decide) (fun c_220 => ?_) (fun c_220 => absurd c_220 (by decide))
              refine tp_pc (pc' := 151) (by rfl) ?_
              refine lv_iconst (v := 0) hx hb d_OM_isAction_151 (by decide) ?_
              obtain ⟨hP9, hD9, -⟩ := cut3 (wc := []) hP hD rfl hS hA [] (by decide +kernel) rfl
              have hK9 := hK.sub (tys' := []) [] rfl
              refine W.widen (k := 0) (n := 0) (by exact Nat.le_of_ble_eq_true rfl) (by exact Nat.le_of_ble_eq_true rfl) ?_
              exact W.zret (v := 0) (ty := .boolean) hx hb hr (by decide) (fun t ht hW => ⟨⟨0, (), rfl, trivial, by rw [ht]; exact hP9, va_K.moved hW.alike hK9, hD9⟩, hS.F ht⟩) hS.2.2 d_OM_isAction_152
            · skip
              refine lv_iconst (v := 1) hx hb d_OM_isAction_44 (by decide) ?_
              refine lv_goto (tgt := 49) hx hb d_OM_isAction_45 (by decide) ?_
              refine tp_pc (pc' := 49) (by rfl) ?_
              refine lv_istore (lv' := [(6, .int 1), (5, .int 0), (4, .int 0), (0, .int 3), (1, .int p1), (2, .int p2), (3, .int p3)]) hx hb d_OM_isAction_49 hl (by decide) rfl ?_
              clear hl ls
              intro ls hl
              refine lv_iload_n hx hb d_OM_isAction_51 rfl (lv_at hl 3 rfl) ?_
              refine lv_tableIn (x := 3) (tgt := 132) hx hb d_OM_isAction_52 (by decide) (by decide) (by rfl) (by decide) ?_
              refine tp_pc (pc' := 132) (by rfl) ?_
              refine lv_iload hx hb d_OM_isAction_132 (lv_at hl 2 rfl) ?_
              refine lv_if_eq (tgt := 151) hx hb d_OM_isAction_134 (by decide) (fun c_221 => ?_) (fun c_221 => absurd c_221 (by decide))
              refine tp_pc (pc' := 151) (by rfl) ?_
              refine lv_iconst (v := 0) hx hb d_OM_isAction_151 (by decide) ?_
              obtain ⟨hP9, hD9, -⟩ := cut3 (wc := []) hP hD rfl hS hA [] (by decide +kernel) rfl
              have hK9 := hK.sub (tys' := []) [] rfl
              refine W.widen (k := 0) (n := 0) (by exact Nat.le_of_ble_eq_true rfl) (by exact Nat.le_of_ble_eq_true rfl) ?_
              exact W.zret (v := 0) (ty := .boolean) hx hb hr (by decide) (fun t ht hW => ⟨⟨0, (), rfl, trivial, by rw [ht]; exact hP9, va_K.moved hW.alike hK9, hD9⟩, hS.F ht⟩) hS.2.2 d_OM_isAction_152
        · skip
          refine lv_iload_n hx hb d_OM_isAction_20 rfl (lv_at hl 3 rfl) ?_
          refine lv_iconst (v := 2) hx hb d_OM_isAction_21 (by decide) ?_
          refine lv_icmp_ge (tgt := 29) hx hb d_OM_isAction_22 (by decide) (fun c_222 => ?_) (fun c_222 => ?_)
          · skip
            refine lv_iconst (v := 0) hx hb d_OM_isAction_29 (by decide) ?_
            refine lv_istore (lv' := [(5, .int 0), (4, .int 0), (0, .int 3), (1, .int p1), (2, .int p2), (3, .int p3)]) hx hb d_OM_isAction_30 hl (by decide) rfl ?_
            clear hl ls
            intro ls hl
            refine lv_iload_n hx hb d_OM_isAction_32 rfl (lv_at hl 5 rfl) ?_
            refine lv_bipush (v := (-9)) hx hb d_OM_isAction_33 (by decide) ?_
            refine lv_icmp_lt (tgt := 48) hx hb d_OM_isAction_35 (by decide) (fun c_223 => ?_) (fun c_223 => ?_)
            · skip
              refine lv_iconst (v := 0) hx hb d_OM_isAction_48 (by decide) ?_
              refine lv_istore (lv' := [(6, .int 0), (5, .int 0), (4, .int 0), (0, .int 3), (1, .int p1), (2, .int p2), (3, .int p3)]) hx hb d_OM_isAction_49 hl (by decide) rfl ?_
              clear hl ls
              intro ls hl
              refine lv_iload_n hx hb d_OM_isAction_51 rfl (lv_at hl 3 rfl) ?_
              refine lv_tableIn (x := 3) (tgt := 132) hx hb d_OM_isAction_52 (by decide) (by decide) (by rfl) (by decide) ?_
              refine tp_pc (pc' := 132) (by rfl) ?_
              refine lv_iload hx hb d_OM_isAction_132 (lv_at hl 2 rfl) ?_
              refine lv_if_eq (tgt := 151) hx hb d_OM_isAction_134 (by decide) (fun c_224 => ?_) (fun c_224 => absurd c_224 (by decide))
              refine tp_pc (pc' := 151) (by rfl) ?_
              refine lv_iconst (v := 0) hx hb d_OM_isAction_151 (by decide) ?_
              obtain ⟨hP9, hD9, -⟩ := cut3 (wc := []) hP hD rfl hS hA [] (by decide +kernel) rfl
              have hK9 := hK.sub (tys' := []) [] rfl
              refine W.widen (k := 0) (n := 0) (by exact Nat.le_of_ble_eq_true rfl) (by exact Nat.le_of_ble_eq_true rfl) ?_
              exact W.zret (v := 0) (ty := .boolean) hx hb hr (by decide) (fun t ht hW => ⟨⟨0, (), rfl, trivial, by rw [ht]; exact hP9, va_K.moved hW.alike hK9, hD9⟩, hS.F ht⟩) hS.2.2 d_OM_isAction_152
            · skip
              refine lv_iload_n hx hb d_OM_isAction_38 rfl (lv_at hl 5 rfl) ?_
              refine lv_bipush (v := 9) hx hb d_OM_isAction_39 (by decide) ?_
              refine lv_icmp_gt (tgt := 48) hx hb d_OM_isAction_41 (by decide) (fun c_225 => ?_) (fun c_225 => ?_)
              · skip
                refine lv_iconst (v := 0) hx hb d_OM_isAction_48 (by decide) ?_
                refine lv_istore (lv' := [(6, .int 0), (5, .int 0), (4, .int 0), (0, .int 3), (1, .int p1), (2, .int p2), (3, .int p3)]) hx hb d_OM_isAction_49 hl (by decide) rfl ?_
                clear hl ls
                intro ls hl
                refine lv_iload_n hx hb d_OM_isAction_51 rfl (lv_at hl 3 rfl) ?_
                refine lv_tableIn (x := 3) (tgt := 132) hx hb d_OM_isAction_52 (by decide) (by decide) (by rfl) (by decide) ?_
                refine tp_pc (pc' := 132) (by rfl) ?_
                refine lv_iload hx hb d_OM_isAction_132 (lv_at hl 2 rfl) ?_
                refine lv_if_eq (tgt := 151) hx hb d_OM_isAction_134 (by decide) (fun c_226 => ?_) (fun c_226 => absurd c_226 (by decide))
                refine tp_pc (pc' := 151) (by rfl) ?_
                refine lv_iconst (v := 0) hx hb d_OM_isAction_151 (by decide) ?_
                obtain ⟨hP9, hD9, -⟩ := cut3 (wc := []) hP hD rfl hS hA [] (by decide +kernel) rfl
                have hK9 := hK.sub (tys' := []) [] rfl
                refine W.widen (k := 0) (n := 0) (by exact Nat.le_of_ble_eq_true rfl) (by exact Nat.le_of_ble_eq_true rfl) ?_
                exact W.zret (v := 0) (ty := .boolean) hx hb hr (by decide) (fun t ht hW => ⟨⟨0, (), rfl, trivial, by rw [ht]; exact hP9, va_K.moved hW.alike hK9, hD9⟩, hS.F ht⟩) hS.2.2 d_OM_isAction_152
              · skip
                refine lv_iconst (v := 1) hx hb d_OM_isAction_44 (by decide) ?_
                refine lv_goto (tgt := 49) hx hb d_OM_isAction_45 (by decide) ?_
                refine tp_pc (pc' := 49) (by rfl) ?_
                refine lv_istore (lv' := [(6, .int 1), (5, .int 0), (4, .int 0), (0, .int 3), (1, .int p1), (2, .int p2), (3, .int p3)]) hx hb d_OM_isAction_49 hl (by decide) rfl ?_
                clear hl ls
                intro ls hl
                refine lv_iload_n hx hb d_OM_isAction_51 rfl (lv_at hl 3 rfl) ?_
                refine lv_tableIn (x := 3) (tgt := 132) hx hb d_OM_isAction_52 (by decide) (by decide) (by rfl) (by decide) ?_
                refine tp_pc (pc' := 132) (by rfl) ?_
                refine lv_iload hx hb d_OM_isAction_132 (lv_at hl 2 rfl) ?_
                refine lv_if_eq (tgt := 151) hx hb d_OM_isAction_134 (by decide) (fun c_227 => ?_) (fun c_227 => absurd c_227 (by decide))
                refine tp_pc (pc' := 151) (by rfl) ?_
                refine lv_iconst (v := 0) hx hb d_OM_isAction_151 (by decide) ?_
                obtain ⟨hP9, hD9, -⟩ := cut3 (wc := []) hP hD rfl hS hA [] (by decide +kernel) rfl
                have hK9 := hK.sub (tys' := []) [] rfl
                refine W.widen (k := 0) (n := 0) (by exact Nat.le_of_ble_eq_true rfl) (by exact Nat.le_of_ble_eq_true rfl) ?_
                exact W.zret (v := 0) (ty := .boolean) hx hb hr (by decide) (fun t ht hW => ⟨⟨0, (), rfl, trivial, by rw [ht]; exact hP9, va_K.moved hW.alike hK9, hD9⟩, hS.F ht⟩) hS.2.2 d_OM_isAction_152
          · skip
            refine lv_iconst (v := 1) hx hb d_OM_isAction_25 (by decide) ?_
            refine lv_goto (tgt := 30) hx hb d_OM_isAction_26 (by decide) ?_
            refine tp_pc (pc' := 30) (by rfl) ?_
            refine lv_istore (lv' := [(5, .int 1), (4, .int 0), (0, .int 3), (1, .int p1), (2, .int p2), (3, .int p3)]) hx hb d_OM_isAction_30 hl (by decide) rfl ?_
            clear hl ls
            intro ls hl
            refine lv_iload_n hx hb d_OM_isAction_32 rfl (lv_at hl 5 rfl) ?_
            refine lv_bipush (v := (-9)) hx hb d_OM_isAction_33 (by decide) ?_
            refine lv_icmp_lt (tgt := 48) hx hb d_OM_isAction_35 (by decide) (fun c_228 => ?_) (fun c_228 => ?_)
            · skip
              refine lv_iconst (v := 0) hx hb d_OM_isAction_48 (by decide) ?_
              refine lv_istore (lv' := [(6, .int 0), (5, .int 1), (4, .int 0), (0, .int 3), (1, .int p1), (2, .int p2), (3, .int p3)]) hx hb d_OM_isAction_49 hl (by decide) rfl ?_
              clear hl ls
              intro ls hl
              refine lv_iload_n hx hb d_OM_isAction_51 rfl (lv_at hl 3 rfl) ?_
              refine lv_tableIn (x := 3) (tgt := 132) hx hb d_OM_isAction_52 (by decide) (by decide) (by rfl) (by decide) ?_
              refine tp_pc (pc' := 132) (by rfl) ?_
              refine lv_iload hx hb d_OM_isAction_132 (lv_at hl 2 rfl) ?_
              refine lv_if_eq (tgt := 151) hx hb d_OM_isAction_134 (by decide) (fun c_229 => ?_) (fun c_229 => absurd c_229 (by decide))
              refine tp_pc (pc' := 151) (by rfl) ?_
              refine lv_iconst (v := 0) hx hb d_OM_isAction_151 (by decide) ?_
              obtain ⟨hP9, hD9, -⟩ := cut3 (wc := []) hP hD rfl hS hA [] (by decide +kernel) rfl
              have hK9 := hK.sub (tys' := []) [] rfl
              refine W.widen (k := 0) (n := 0) (by exact Nat.le_of_ble_eq_true rfl) (by exact Nat.le_of_ble_eq_true rfl) ?_
              exact W.zret (v := 0) (ty := .boolean) hx hb hr (by decide) (fun t ht hW => ⟨⟨0, (), rfl, trivial, by rw [ht]; exact hP9, va_K.moved hW.alike hK9, hD9⟩, hS.F ht⟩) hS.2.2 d_OM_isAction_152
            · skip
              refine lv_iload_n hx hb d_OM_isAction_38 rfl (lv_at hl 5 rfl) ?_
              refine lv_bipush (v := 9) hx hb d_OM_isAction_39 (by decide) ?_
              refine lv_icmp_gt (tgt := 48) hx hb d_OM_isAction_41 (by decide) (fun c_230 => ?_) (fun c_230 => ?_)
              · skip
                refine lv_iconst (v := 0) hx hb d_OM_isAction_48 (by decide) ?_
                refine lv_istore (lv' := [(6, .int 0), (5, .int 1), (4, .int 0), (0, .int 3), (1, .int p1), (2, .int p2), (3, .int p3)]) hx hb d_OM_isAction_49 hl (by decide) rfl ?_
                clear hl ls
                intro ls hl
                refine lv_iload_n hx hb d_OM_isAction_51 rfl (lv_at hl 3 rfl) ?_
                refine lv_tableIn (x := 3) (tgt := 132) hx hb d_OM_isAction_52 (by decide) (by decide) (by rfl) (by decide) ?_
                refine tp_pc (pc' := 132) (by rfl) ?_
                refine lv_iload hx hb d_OM_isAction_132 (lv_at hl 2 rfl) ?_
                refine lv_if_eq (tgt := 151) hx hb d_OM_isAction_134 (by decide) (fun c_231 => ?_) (fun c_231 => absurd c_231 (by decide))
                refine tp_pc (pc' := 151) (by rfl) ?_
                refine lv_iconst (v := 0) hx hb d_OM_isAction_151 (by decide) ?_
                obtain ⟨hP9, hD9, -⟩ := cut3 (wc := []) hP hD rfl hS hA [] (by decide +kernel) rfl
                have hK9 := hK.sub (tys' := []) [] rfl
                refine W.widen (k := 0) (n := 0) (by exact Nat.le_of_ble_eq_true rfl) (by exact Nat.le_of_ble_eq_true rfl) ?_
                exact W.zret (v := 0) (ty := .boolean) hx hb hr (by decide) (fun t ht hW => ⟨⟨0, (), rfl, trivial, by rw [ht]; exact hP9, va_K.moved hW.alike hK9, hD9⟩, hS.F ht⟩) hS.2.2 d_OM_isAction_152
              · skip
                refine lv_iconst (v := 1) hx hb d_OM_isAction_44 (by decide) ?_
                refine lv_goto (tgt := 49) hx hb d_OM_isAction_45 (by decide) ?_
                refine tp_pc (pc' := 49) (by rfl) ?_
                refine lv_istore (lv' := [(6, .int 1), (5, .int 1), (4, .int 0), (0, .int 3), (1, .int p1), (2, .int p2), (3, .int p3)]) hx hb d_OM_isAction_49 hl (by decide) rfl ?_
                clear hl ls
                intro ls hl
                refine lv_iload_n hx hb d_OM_isAction_51 rfl (lv_at hl 3 rfl) ?_
                refine lv_tableIn (x := 3) (tgt := 132) hx hb d_OM_isAction_52 (by decide) (by decide) (by rfl) (by decide) ?_
                refine tp_pc (pc' := 132) (by rfl) ?_
                refine lv_iload hx hb d_OM_isAction_132 (lv_at hl 2 rfl) ?_
                refine lv_if_eq (tgt := 151) hx hb d_OM_isAction_134 (by decide) (fun c_232 => ?_) (fun c_232 => absurd c_232 (by decide))
                refine tp_pc (pc' := 151) (by rfl) ?_
                refine lv_iconst (v := 0) hx hb d_OM_isAction_151 (by decide) ?_
                obtain ⟨hP9, hD9, -⟩ := cut3 (wc := []) hP hD rfl hS hA [] (by decide +kernel) rfl
                have hK9 := hK.sub (tys' := []) [] rfl
                refine W.widen (k := 0) (n := 0) (by exact Nat.le_of_ble_eq_true rfl) (by exact Nat.le_of_ble_eq_true rfl) ?_
                exact W.zret (v := 0) (ty := .boolean) hx hb hr (by decide) (fun t ht hW => ⟨⟨0, (), rfl, trivial, by rw [ht]; exact hP9, va_K.moved hW.alike hK9, hD9⟩, hS.F ht⟩) hS.2.2 d_OM_isAction_152
      · skip
        refine lv_iconst (v := 1) hx hb d_OM_isAction_9 (by decide) ?_
        refine lv_goto (tgt := 14) hx hb d_OM_isAction_10 (by decide) ?_
        refine tp_pc (pc' := 14) (by rfl) ?_
        refine lv_istore (lv' := [(4, .int 1), (0, .int 3), (1, .int p1), (2, .int p2), (3, .int p3)]) hx hb d_OM_isAction_14 hl (by decide) rfl ?_
        clear hl ls
        intro ls hl
        refine lv_iload_n hx hb d_OM_isAction_16 rfl (lv_at hl 3 rfl) ?_
        refine lv_if_lt (tgt := 29) hx hb d_OM_isAction_17 (by decide) (fun c_233 => ?_) (fun c_233 => ?_)
        · skip
          refine lv_iconst (v := 0) hx hb d_OM_isAction_29 (by decide) ?_
          refine lv_istore (lv' := [(5, .int 0), (4, .int 1), (0, .int 3), (1, .int p1), (2, .int p2), (3, .int p3)]) hx hb d_OM_isAction_30 hl (by decide) rfl ?_
          clear hl ls
          intro ls hl
          refine lv_iload_n hx hb d_OM_isAction_32 rfl (lv_at hl 5 rfl) ?_
          refine lv_bipush (v := (-9)) hx hb d_OM_isAction_33 (by decide) ?_
          refine lv_icmp_lt (tgt := 48) hx hb d_OM_isAction_35 (by decide) (fun c_234 => ?_) (fun c_234 => ?_)
          · skip
            refine lv_iconst (v := 0) hx hb d_OM_isAction_48 (by decide) ?_
            refine lv_istore (lv' := [(6, .int 0), (5, .int 0), (4, .int 1), (0, .int 3), (1, .int p1), (2, .int p2), (3, .int p3)]) hx hb d_OM_isAction_49 hl (by decide) rfl ?_
            clear hl ls
            intro ls hl
            refine lv_iload_n hx hb d_OM_isAction_51 rfl (lv_at hl 3 rfl) ?_
            refine lv_tableIn (x := 3) (tgt := 132) hx hb d_OM_isAction_52 (by decide) (by decide) (by rfl) (by decide) ?_
            refine tp_pc (pc' := 132) (by rfl) ?_
            refine lv_iload hx hb d_OM_isAction_132 (lv_at hl 2 rfl) ?_
            refine lv_if_eq (tgt := 151) hx hb d_OM_isAction_134 (by decide) (fun c_235 => absurd c_235 (by decide)) (fun c_235 => ?_)
            refine tp_pc (pc' := 137) (by rfl) ?_
            refine lv_iload hx hb d_OM_isAction_137 (lv_at hl 1 rfl) ?_
            refine lv_if_eq (tgt := 151) hx hb d_OM_isAction_139 (by decide) (fun c_236 => ?_) (fun c_236 => absurd c_236 (by decide))
            refine tp_pc (pc' := 151) (by rfl) ?_
            refine lv_iconst (v := 0) hx hb d_OM_isAction_151 (by decide) ?_
            obtain ⟨hP9, hD9, -⟩ := cut3 (wc := []) hP hD rfl hS hA [] (by decide +kernel) rfl
            have hK9 := hK.sub (tys' := []) [] rfl
            refine W.widen (k := 0) (n := 0) (by exact Nat.le_of_ble_eq_true rfl) (by exact Nat.le_of_ble_eq_true rfl) ?_
            exact W.zret (v := 0) (ty := .boolean) hx hb hr (by decide) (fun t ht hW => ⟨⟨0, (), rfl, trivial, by rw [ht]; exact hP9, va_K.moved hW.alike hK9, hD9⟩, hS.F ht⟩) hS.2.2 d_OM_isAction_152
          · skip
            refine lv_iload_n hx hb d_OM_isAction_38 rfl (lv_at hl 5 rfl) ?_
            refine lv_bipush (v := 9) hx hb d_OM_isAction_39 (by decide) ?_
            refine lv_icmp_gt (tgt := 48) hx hb d_OM_isAction_41 (by decide) (fun c_237 => ?_) (fun c_237 => ?_)
            · skip
              refine lv_iconst (v := 0) hx hb d_OM_isAction_48 (by decide) ?_
              refine lv_istore (lv' := [(6, .int 0), (5, .int 0), (4, .int 1), (0, .int 3), (1, .int p1), (2, .int p2), (3, .int p3)]) hx hb d_OM_isAction_49 hl (by decide) rfl ?_
              clear hl ls
              intro ls hl
              refine lv_iload_n hx hb d_OM_isAction_51 rfl (lv_at hl 3 rfl) ?_
              refine lv_tableIn (x := 3) (tgt := 132) hx hb d_OM_isAction_52 (by decide) (by decide) (by rfl) (by decide) ?_
              refine tp_pc (pc' := 132) (by rfl) ?_
              refine lv_iload hx hb d_OM_isAction_132 (lv_at hl 2 rfl) ?_
              refine lv_if_eq (tgt := 151) hx hb d_OM_isAction_134 (by decide) (fun c_238 => absurd c_238 (by decide)) (fun c_238 => ?_)
              refine tp_pc (pc' := 137) (by rfl) ?_
              refine lv_iload hx hb d_OM_isAction_137 (lv_at hl 1 rfl) ?_
              refine lv_if_eq (tgt := 151) hx hb d_OM_isAction_139 (by decide) (fun c_239 => ?_) (fun c_239 => absurd c_239 (by decide))
              refine tp_pc (pc' := 151) (by rfl) ?_
              refine lv_iconst (v := 0) hx hb d_OM_isAction_151 (by decide) ?_
              obtain ⟨hP9, hD9, -⟩ := cut3 (wc := []) hP hD rfl hS hA [] (by decide +kernel) rfl
              have hK9 := hK.sub (tys' := []) [] rfl
              refine W.widen (k := 0) (n := 0) (by exact Nat.le_of_ble_eq_true rfl) (by exact Nat.le_of_ble_eq_true rfl) ?_
              exact W.zret (v := 0) (ty := .boolean) hx hb hr (by decide) (fun t ht hW => ⟨⟨0, (), rfl, trivial, by rw [ht]; exact hP9, va_K.moved hW.alike hK9, hD9⟩, hS.F ht⟩) hS.2.2 d_OM_isAction_152
            · skip
              refine lv_iconst (v := 1) hx hb d_OM_isAction_44 (by decide) ?_
              refine lv_goto (tgt := 49) hx hb d_OM_isAction_45 (by decide) ?_
              refine tp_pc (pc' := 49) (by rfl) ?_
              refine lv_istore (lv' := [(6, .int 1), (5, .int 0), (4, .int 1), (0, .int 3), (1, .int p1), (2, .int p2), (3, .int p3)]) hx hb d_OM_isAction_49 hl (by decide) rfl ?_
              clear hl ls
              intro ls hl
              refine lv_iload_n hx hb d_OM_isAction_51 rfl (lv_at hl 3 rfl) ?_
              refine lv_tableIn (x := 3) (tgt := 132) hx hb d_OM_isAction_52 (by decide) (by decide) (by rfl) (by decide) ?_
              refine tp_pc (pc' := 132) (by rfl) ?_
              refine lv_iload hx hb d_OM_isAction_132 (lv_at hl 2 rfl) ?_
              refine lv_if_eq (tgt := 151) hx hb d_OM_isAction_134 (by decide) (fun c_240 => absurd c_240 (by decide)) (fun c_240 => ?_)
              refine tp_pc (pc' := 137) (by rfl) ?_
              refine lv_iload hx hb d_OM_isAction_137 (lv_at hl 1 rfl) ?_
              refine lv_if_eq (tgt := 151) hx hb d_OM_isAction_139 (by decide) (fun c_241 => ?_) (fun c_241 => absurd c_241 (by decide))
              refine tp_pc (pc' := 151) (by rfl) ?_
              refine lv_iconst (v := 0) hx hb d_OM_isAction_151 (by decide) ?_
              obtain ⟨hP9, hD9, -⟩ := cut3 (wc := []) hP hD rfl hS hA [] (by decide +kernel) rfl
              have hK9 := hK.sub (tys' := []) [] rfl
              refine W.widen (k := 0) (n := 0) (by exact Nat.le_of_ble_eq_true rfl) (by exact Nat.le_of_ble_eq_true rfl) ?_
              exact W.zret (v := 0) (ty := .boolean) hx hb hr (by decide) (fun t ht hW => ⟨⟨0, (), rfl, trivial, by rw [ht]; exact hP9, va_K.moved hW.alike hK9, hD9⟩, hS.F ht⟩) hS.2.2 d_OM_isAction_152
        · skip
          refine lv_iload_n hx hb d_OM_isAction_20 rfl (lv_at hl 3 rfl) ?_
          refine lv_iconst (v := 2) hx hb d_OM_isAction_21 (by decide) ?_
          refine lv_icmp_ge (tgt := 29) hx hb d_OM_isAction_22 (by decide) (fun c_242 => ?_) (fun c_242 => ?_)
          · skip
            refine lv_iconst (v := 0) hx hb d_OM_isAction_29 (by decide) ?_
            refine lv_istore (lv' := [(5, .int 0), (4, .int 1), (0, .int 3), (1, .int p1), (2, .int p2), (3, .int p3)]) hx hb d_OM_isAction_30 hl (by decide) rfl ?_
            clear hl ls
            intro ls hl
            refine lv_iload_n hx hb d_OM_isAction_32 rfl (lv_at hl 5 rfl) ?_
            refine lv_bipush (v := (-9)) hx hb d_OM_isAction_33 (by decide) ?_
            refine lv_icmp_lt (tgt := 48) hx hb d_OM_isAction_35 (by decide) (fun c_243 => ?_) (fun c_243 => ?_)
            · skip
              refine lv_iconst (v := 0) hx hb d_OM_isAction_48 (by decide) ?_
              refine lv_istore (lv' := [(6, .int 0), (5, .int 0), (4, .int 1), (0, .int 3), (1, .int p1), (2, .int p2), (3, .int p3)]) hx hb d_OM_isAction_49 hl (by decide) rfl ?_
              clear hl ls
              intro ls hl
              refine lv_iload_n hx hb d_OM_isAction_51 rfl (lv_at hl 3 rfl) ?_
              refine lv_tableIn (x := 3) (tgt := 132) hx hb d_OM_isAction_52 (by decide) (by decide) (by rfl) (by decide) ?_
              refine tp_pc (pc' := 132) (by rfl) ?_
              refine lv_iload hx hb d_OM_isAction_132 (lv_at hl 2 rfl) ?_
              refine lv_if_eq (tgt := 151) hx hb d_OM_isAction_134 (by decide) (fun c_244 => absurd c_244 (by decide)) (fun c_244 => ?_)
              refine tp_pc (pc' := 137) (by rfl) ?_
              refine lv_iload hx hb d_OM_isAction_137 (lv_at hl 1 rfl) ?_
              refine lv_if_eq (tgt := 151) hx hb d_OM_isAction_139 (by decide) (fun c_245 => ?_) (fun c_245 => absurd c_245 (by decide))
              refine tp_pc (pc' := 151) (by rfl) ?_
              refine lv_iconst (v := 0) hx hb d_OM_isAction_151 (by decide) ?_
              obtain ⟨hP9, hD9, -⟩ := cut3 (wc := []) hP hD rfl hS hA [] (by decide +kernel) rfl
              have hK9 := hK.sub (tys' := []) [] rfl
              refine W.widen (k := 0) (n := 0) (by exact Nat.le_of_ble_eq_true rfl) (by exact Nat.le_of_ble_eq_true rfl) ?_
              exact W.zret (v := 0) (ty := .boolean) hx hb hr (by decide) (fun t ht hW => ⟨⟨0, (), rfl, trivial, by rw [ht]; exact hP9, va_K.moved hW.alike hK9, hD9⟩, hS.F ht⟩) hS.2.2 d_OM_isAction_152
            · skip
              refine lv_iload_n hx hb d_OM_isAction_38 rfl (lv_at hl 5 rfl) ?_
              refine lv_bipush (v := 9) hx hb d_OM_isAction_39 (by decide) ?_
              refine lv_icmp_gt (tgt := 48) hx hb d_OM_isAction_41 (by decide) (fun c_246 => ?_) (fun c_246 => ?_)
              · skip
                refine lv_iconst (v := 0) hx hb d_OM_isAction_48 (by decide) ?_
                refine lv_istore (lv' := [(6, .int 0), (5, .int 0), (4, .int 1), (0, .int 3), (1, .int p1), (2, .int p2), (3, .int p3)]) hx hb d_OM_isAction_49 hl (by decide) rfl ?_
                clear hl ls
                intro ls hl
                refine lv_iload_n hx hb d_OM_isAction_51 rfl (lv_at hl 3 rfl) ?_
                refine lv_tableIn (x := 3) (tgt := 132) hx hb d_OM_isAction_52 (by decide) (by decide) (by rfl) (by decide) ?_
                refine tp_pc (pc' := 132) (by rfl) ?_
                refine lv_iload hx hb d_OM_isAction_132 (lv_at hl 2 rfl) ?_
                refine lv_if_eq (tgt := 151) hx hb d_OM_isAction_134 (by decide) (fun c_247 => absurd c_247 (by decide)) (fun c_247 => ?_)
                refine tp_pc (pc' := 137) (by rfl) ?_
                refine lv_iload hx hb d_OM_isAction_137 (lv_at hl 1 rfl) ?_
                refine lv_if_eq (tgt := 151) hx hb d_OM_isAction_139 (by decide) (fun c_248 => ?_) (fun c_248 => absurd c_248 (by decide))
                refine tp_pc (pc' := 151) (by rfl) ?_
                refine lv_iconst (v := 0) hx hb d_OM_isAction_151 (by decide) ?_
                obtain ⟨hP9, hD9, -⟩ := cut3 (wc := []) hP hD rfl hS hA [] (by decide +kernel) rfl
                have hK9 := hK.sub (tys' := []) [] rfl
                refine W.widen (k := 0) (n := 0) (by exact Nat.le_of_ble_eq_true rfl) (by exact Nat.le_of_ble_eq_true rfl) ?_
                exact W.zret (v := 0) (ty := .boolean) hx hb hr (by decide) (fun t ht hW => ⟨⟨0, (), rfl, trivial, by rw [ht]; exact hP9, va_K.moved hW.alike hK9, hD9⟩, hS.F ht⟩) hS.2.2 d_OM_isAction_152
              · skip
                refine lv_iconst (v := 1) hx hb d_OM_isAction_44 (by decide) ?_
                refine lv_goto (tgt := 49) hx hb d_OM_isAction_45 (by decide) ?_
                refine tp_pc (pc' := 49) (by rfl) ?_
                refine lv_istore (lv' := [(6, .int 1), (5, .int 0), (4, .int 1), (0, .int 3), (1, .int p1), (2, .int p2), (3, .int p3)]) hx hb d_OM_isAction_49 hl (by decide) rfl ?_
                clear hl ls
                intro ls hl
                refine lv_iload_n hx hb d_OM_isAction_51 rfl (lv_at hl 3 rfl) ?_
                refine lv_tableIn (x := 3) (tgt := 132) hx hb d_OM_isAction_52 (by decide) (by decide) (by rfl) (by decide) ?_
                refine tp_pc (pc' := 132) (by rfl) ?_
                refine lv_iload hx hb d_OM_isAction_132 (lv_at hl 2 rfl) ?_
                refine lv_if_eq (tgt := 151) hx hb d_OM_isAction_134 (by decide) (fun c_249 => absurd c_249 (by decide)) (fun c_249 => ?_)
                refine tp_pc (pc' := 137) (by rfl) ?_
                refine lv_iload hx hb d_OM_isAction_137 (lv_at hl 1 rfl) ?_
                refine lv_if_eq (tgt := 151) hx hb d_OM_isAction_139 (by decide) (fun c_250 => ?_) (fun c_250 => absurd c_250 (by decide))
                refine tp_pc (pc' := 151) (by rfl) ?_
                refine lv_iconst (v := 0) hx hb d_OM_isAction_151 (by decide) ?_
                obtain ⟨hP9, hD9, -⟩ := cut3 (wc := []) hP hD rfl hS hA [] (by decide +kernel) rfl
                have hK9 := hK.sub (tys' := []) [] rfl
                refine W.widen (k := 0) (n := 0) (by exact Nat.le_of_ble_eq_true rfl) (by exact Nat.le_of_ble_eq_true rfl) ?_
                exact W.zret (v := 0) (ty := .boolean) hx hb hr (by decide) (fun t ht hW => ⟨⟨0, (), rfl, trivial, by rw [ht]; exact hP9, va_K.moved hW.alike hK9, hD9⟩, hS.F ht⟩) hS.2.2 d_OM_isAction_152
          · skip
            refine lv_iconst (v := 1) hx hb d_OM_isAction_25 (by decide) ?_
            refine lv_goto (tgt := 30) hx hb d_OM_isAction_26 (by decide) ?_
            refine tp_pc (pc' := 30) (by rfl) ?_
            refine lv_istore (lv' := [(5, .int 1), (4, .int 1), (0, .int 3), (1, .int p1), (2, .int p2), (3, .int p3)]) hx hb d_OM_isAction_30 hl (by decide) rfl ?_
            clear hl ls
            intro ls hl
            refine lv_iload_n hx hb d_OM_isAction_32 rfl (lv_at hl 5 rfl) ?_
            refine lv_bipush (v := (-9)) hx hb d_OM_isAction_33 (by decide) ?_
            refine lv_icmp_lt (tgt := 48) hx hb d_OM_isAction_35 (by decide) (fun c_251 => ?_) (fun c_251 => ?_)
            · skip
              refine lv_iconst (v := 0) hx hb d_OM_isAction_48 (by decide) ?_
              refine lv_istore (lv' := [(6, .int 0), (5, .int 1), (4, .int 1), (0, .int 3), (1, .int p1), (2, .int p2), (3, .int p3)]) hx hb d_OM_isAction_49 hl (by decide) rfl ?_
              clear hl ls
              intro ls hl
              refine lv_iload_n hx hb d_OM_isAction_51 rfl (lv_at hl 3 rfl) ?_
              refine lv_tableIn (x := 3) (tgt := 132) hx hb d_OM_isAction_52 (by decide) (by decide) (by rfl) (by decide) ?_
              refine tp_pc (pc' := 132) (by rfl) ?_
              refine lv_iload hx hb d_OM_isAction_132 (lv_at hl 2 rfl) ?_
              refine lv_if_eq (tgt := 151) hx hb d_OM_isAction_134 (by decide) (fun c_252 => absurd c_252 (by decide)) (fun c_252 => ?_)
              refine tp_pc (pc' := 137) (by rfl) ?_
              refine lv_iload hx hb d_OM_isAction_137 (lv_at hl 1 rfl) ?_
              refine lv_if_eq (tgt := 151) hx hb d_OM_isAction_139 (by decide) (fun c_253 => absurd c_253 (by decide)) (fun c_253 => ?_)
              refine tp_pc (pc' := 142) (by rfl) ?_
              refine lv_iload hx hb d_OM_isAction_142 (lv_at hl 0 rfl) ?_
              refine lv_if_eq (tgt := 151) hx hb d_OM_isAction_144 (by decide) (fun c_254 => ?_) (fun c_254 => absurd c_254 (by decide))
              refine tp_pc (pc' := 151) (by rfl) ?_
              refine lv_iconst (v := 0) hx hb d_OM_isAction_151 (by decide) ?_
              obtain ⟨hP9, hD9, -⟩ := cut3 (wc := []) hP hD rfl hS hA [] (by decide +kernel) rfl
              have hK9 := hK.sub (tys' := []) [] rfl
              refine W.widen (k := 0) (n := 0) (by exact Nat.le_of_ble_eq_true rfl) (by exact Nat.le_of_ble_eq_true rfl) ?_
              exact W.zret (v := 0) (ty := .boolean) hx hb hr (by decide) (fun t ht hW => ⟨⟨0, (), rfl, trivial, by rw [ht]; exact hP9, va_K.moved hW.alike hK9, hD9⟩, hS.F ht⟩) hS.2.2 d_OM_isAction_152
            · skip
              refine lv_iload_n hx hb d_OM_isAction_38 rfl (lv_at hl 5 rfl) ?_
              refine lv_bipush (v := 9) hx hb d_OM_isAction_39 (by decide) ?_
              refine lv_icmp_gt (tgt := 48) hx hb d_OM_isAction_41 (by decide) (fun c_255 => ?_) (fun c_255 => ?_)
              · skip
                refine lv_iconst (v := 0) hx hb d_OM_isAction_48 (by decide) ?_
                refine lv_istore (lv' := [(6, .int 0), (5, .int 1), (4, .int 1), (0, .int 3), (1, .int p1), (2, .int p2), (3, .int p3)]) hx hb d_OM_isAction_49 hl (by decide) rfl ?_
                clear hl ls
                intro ls hl
                refine lv_iload_n hx hb d_OM_isAction_51 rfl (lv_at hl 3 rfl) ?_
                refine lv_tableIn (x := 3) (tgt := 132) hx hb d_OM_isAction_52 (by decide) (by decide) (by rfl) (by decide) ?_
                refine tp_pc (pc' := 132) (by rfl) ?_
                refine lv_iload hx hb d_OM_isAction_132 (lv_at hl 2 rfl) ?_
                refine lv_if_eq (tgt := 151) hx hb d_OM_isAction_134 (by decide) (fun c_256 => absurd c_256 (by decide)) (fun c_256 => ?_)
                refine tp_pc (pc' := 137) (by rfl) ?_
                refine lv_iload hx hb d_OM_isAction_137 (lv_at hl 1 rfl) ?_
                refine lv_if_eq (tgt := 151) hx hb d_OM_isAction_139 (by decide) (fun c_257 => absurd c_257 (by decide)) (fun c_257 => ?_)
                refine tp_pc (pc' := 142) (by rfl) ?_
                refine lv_iload hx hb d_OM_isAction_142 (lv_at hl 0 rfl) ?_
                refine lv_if_eq (tgt := 151) hx hb d_OM_isAction_144 (by decide) (fun c_258 => ?_) (fun c_258 => absurd c_258 (by decide))
                refine tp_pc (pc' := 151) (by rfl) ?_
                refine lv_iconst (v := 0) hx hb d_OM_isAction_151 (by decide) ?_
                obtain ⟨hP9, hD9, -⟩ := cut3 (wc := []) hP hD rfl hS hA [] (by decide +kernel) rfl
                have hK9 := hK.sub (tys' := []) [] rfl
                refine W.widen (k := 0) (n := 0) (by exact Nat.le_of_ble_eq_true rfl) (by exact Nat.le_of_ble_eq_true rfl) ?_
                exact W.zret (v := 0) (ty := .boolean) hx hb hr (by decide) (fun t ht hW => ⟨⟨0, (), rfl, trivial, by rw [ht]; exact hP9, va_K.moved hW.alike hK9, hD9⟩, hS.F ht⟩) hS.2.2 d_OM_isAction_152
              · skip
                refine lv_iconst (v := 1) hx hb d_OM_isAction_44 (by decide) ?_
                refine lv_goto (tgt := 49) hx hb d_OM_isAction_45 (by decide) ?_
                refine tp_pc (pc' := 49) (by rfl) ?_
                refine lv_istore (lv' := [(6, .int 1), (5, .int 1), (4, .int 1), (0, .int 3), (1, .int p1), (2, .int p2), (3, .int p3)]) hx hb d_OM_isAction_49 hl (by decide) rfl ?_
                clear hl ls
                intro ls hl
                refine lv_iload_n hx hb d_OM_isAction_51 rfl (lv_at hl 3 rfl) ?_
                refine lv_tableIn (x := 3) (tgt := 132) hx hb d_OM_isAction_52 (by decide) (by decide) (by rfl) (by decide) ?_
                refine tp_pc (pc' := 132) (by rfl) ?_
                refine lv_iload hx hb d_OM_isAction_132 (lv_at hl 2 rfl) ?_
                refine lv_if_eq (tgt := 151) hx hb d_OM_isAction_134 (by decide) (fun c_259 => absurd c_259 (by decide)) (fun c_259 => ?_)
                refine tp_pc (pc' := 137) (by rfl) ?_
                refine lv_iload hx hb d_OM_isAction_137 (lv_at hl 1 rfl) ?_
                refine lv_if_eq (tgt := 151) hx hb d_OM_isAction_139 (by decide) (fun c_260 => absurd c_260 (by decide)) (fun c_260 => ?_)
                refine tp_pc (pc' := 142) (by rfl) ?_
                refine lv_iload hx hb d_OM_isAction_142 (lv_at hl 0 rfl) ?_
                refine lv_if_eq (tgt := 151) hx hb d_OM_isAction_144 (by decide) (fun c_261 => absurd c_261 (by decide)) (fun c_261 => ?_)
                refine tp_pc (pc' := 147) (by rfl) ?_
                refine lv_iconst (v := 1) hx hb d_OM_isAction_147 (by decide) ?_
                refine lv_goto (tgt := 152) hx hb d_OM_isAction_148 (by decide) ?_
                refine tp_pc (pc' := 152) (by rfl) ?_
                obtain ⟨hP9, hD9, -⟩ := cut3 (wc := []) hP hD rfl hS hA [] (by decide +kernel) rfl
                have hK9 := hK.sub (tys' := []) [] rfl
                refine W.widen (k := 0) (n := 0) (by exact Nat.le_of_ble_eq_true rfl) (by exact Nat.le_of_ble_eq_true rfl) ?_
                exact W.zret (v := 1) (ty := .boolean) hx hb hr (by decide) (fun t ht hW => ⟨⟨1, (), rfl, trivial, by rw [ht]; exact hP9, va_K.moved hW.alike hK9, hD9⟩, hS.F ht⟩) hS.2.2 d_OM_isAction_152
  · skip
    refine lv_iload_n hx hb d_OM_isAction_0 rfl (lv_at hl 1 rfl) ?_
    refine lv_if_lt (tgt := 13) hx hb d_OM_isAction_1 (by decide) (fun c_262 => ?_) (fun c_262 => ?_)
    · skip
      refine lv_iconst (v := 0) hx hb d_OM_isAction_13 (by decide) ?_
      refine lv_istore (lv' := [(4, .int 0), (0, .int 4), (1, .int p1), (2, .int p2), (3, .int p3)]) hx hb d_OM_isAction_14 hl (by decide) rfl ?_
      clear hl ls
      intro ls hl
      refine lv_iload_n hx hb d_OM_isAction_16 rfl (lv_at hl 3 rfl) ?_
      refine lv_if_lt (tgt := 29) hx hb d_OM_isAction_17 (by decide) (fun c_263 => ?_) (fun c_263 => ?_)
      · skip
        refine lv_iconst (v := 0) hx hb d_OM_isAction_29 (by decide) ?_
        refine lv_istore (lv' := [(5, .int 0), (4, .int 0), (0, .int 4), (1, .int p1), (2, .int p2), (3, .int p3)]) hx hb d_OM_isAction_30 hl (by decide) rfl ?_
        clear hl ls
        intro ls hl
        refine lv_iload_n hx hb d_OM_isAction_32 rfl (lv_at hl 5 rfl) ?_
        refine lv_bipush (v := (-9)) hx hb d_OM_isAction_33 (by decide) ?_
        refine lv_icmp_lt (tgt := 48) hx hb d_OM_isAction_35 (by decide) (fun c_264 => ?_) (fun c_264 => ?_)
        · skip
          refine lv_iconst (v := 0) hx hb d_OM_isAction_48 (by decide) ?_
          refine lv_istore (lv' := [(6, .int 0), (5, .int 0), (4, .int 0), (0, .int 4), (1, .int p1), (2, .int p2), (3, .int p3)]) hx hb d_OM_isAction_49 hl (by decide) rfl ?_
          clear hl ls
          intro ls hl
          refine lv_iload_n hx hb d_OM_isAction_51 rfl (lv_at hl 3 rfl) ?_
          refine lv_tableIn (x := 4) (tgt := 153) hx hb d_OM_isAction_52 (by decide) (by decide) (by rfl) (by decide) ?_
          refine tp_pc (pc' := 153) (by rfl) ?_
          refine lv_iload_n hx hb d_OM_isAction_153 rfl (lv_at hl 4 rfl) ?_
          refine lv_if_ne (tgt := 169) hx hb d_OM_isAction_154 (by decide) (fun c_265 => ?_) (fun c_265 => ?_)
          · skip
            refine lv_iconst (v := 0) hx hb d_OM_isAction_169 (by decide) ?_
            obtain ⟨hP9, hD9, -⟩ := cut3 (wc := []) hP hD rfl hS hA [] (by decide +kernel) rfl
            have hK9 := hK.sub (tys' := []) [] rfl
            refine W.widen (k := 0) (n := 0) (by exact Nat.le_of_ble_eq_true rfl) (by exact Nat.le_of_ble_eq_true rfl) ?_
            exact W.zret (v := 0) (ty := .boolean) hx hb hr (by decide) (fun t ht hW => ⟨⟨0, (), rfl, trivial, by rw [ht]; exact hP9, va_K.moved hW.alike hK9, hD9⟩, hS.F ht⟩) hS.2.2 d_OM_isAction_170
          · skip
            exfalso
            simp only [Int32.lt_iff_toInt_lt, Int32.le_iff_toInt_le, ← Int32.toInt_inj] at c_262 c_265
            have k0 : (0 : Int32).toInt = 0 := by decide
            omega
        · skip
          refine lv_iload_n hx hb d_OM_isAction_38 rfl (lv_at hl 5 rfl) ?_
          refine lv_bipush (v := 9) hx hb d_OM_isAction_39 (by decide) ?_
          refine lv_icmp_gt (tgt := 48) hx hb d_OM_isAction_41 (by decide) (fun c_266 => ?_) (fun c_266 => ?_)
          · skip
            refine lv_iconst (v := 0) hx hb d_OM_isAction_48 (by decide) ?_
            refine lv_istore (lv' := [(6, .int 0), (5, .int 0), (4, .int 0), (0, .int 4), (1, .int p1), (2, .int p2), (3, .int p3)]) hx hb d_OM_isAction_49 hl (by decide) rfl ?_
            clear hl ls
            intro ls hl
            refine lv_iload_n hx hb d_OM_isAction_51 rfl (lv_at hl 3 rfl) ?_
            refine lv_tableIn (x := 4) (tgt := 153) hx hb d_OM_isAction_52 (by decide) (by decide) (by rfl) (by decide) ?_
            refine tp_pc (pc' := 153) (by rfl) ?_
            refine lv_iload_n hx hb d_OM_isAction_153 rfl (lv_at hl 4 rfl) ?_
            refine lv_if_ne (tgt := 169) hx hb d_OM_isAction_154 (by decide) (fun c_267 => ?_) (fun c_267 => ?_)
            · skip
              refine lv_iconst (v := 0) hx hb d_OM_isAction_169 (by decide) ?_
              obtain ⟨hP9, hD9, -⟩ := cut3 (wc := []) hP hD rfl hS hA [] (by decide +kernel) rfl
              have hK9 := hK.sub (tys' := []) [] rfl
              refine W.widen (k := 0) (n := 0) (by exact Nat.le_of_ble_eq_true rfl) (by exact Nat.le_of_ble_eq_true rfl) ?_
              exact W.zret (v := 0) (ty := .boolean) hx hb hr (by decide) (fun t ht hW => ⟨⟨0, (), rfl, trivial, by rw [ht]; exact hP9, va_K.moved hW.alike hK9, hD9⟩, hS.F ht⟩) hS.2.2 d_OM_isAction_170
            · skip
              exfalso
              simp only [Int32.lt_iff_toInt_lt, Int32.le_iff_toInt_le, ← Int32.toInt_inj] at c_262 c_267
              have k0 : (0 : Int32).toInt = 0 := by decide
              omega
          · skip
            refine lv_iconst (v := 1) hx hb d_OM_isAction_44 (by decide) ?_
            refine lv_goto (tgt := 49) hx hb d_OM_isAction_45 (by decide) ?_
            refine tp_pc (pc' := 49) (by rfl) ?_
            refine lv_istore (lv' := [(6, .int 1), (5, .int 0), (4, .int 0), (0, .int 4), (1, .int p1), (2, .int p2), (3, .int p3)]) hx hb d_OM_isAction_49 hl (by decide) rfl ?_
            clear hl ls
            intro ls hl
            refine lv_iload_n hx hb d_OM_isAction_51 rfl (lv_at hl 3 rfl) ?_
            refine lv_tableIn (x := 4) (tgt := 153) hx hb d_OM_isAction_52 (by decide) (by decide) (by rfl) (by decide) ?_
            refine tp_pc (pc' := 153) (by rfl) ?_
            refine lv_iload_n hx hb d_OM_isAction_153 rfl (lv_at hl 4 rfl) ?_
            refine lv_if_ne (tgt := 169) hx hb d_OM_isAction_154 (by decide) (fun c_268 => ?_) (fun c_268 => ?_)
            · skip
              refine lv_iconst (v := 0) hx hb d_OM_isAction_169 (by decide) ?_
              obtain ⟨hP9, hD9, -⟩ := cut3 (wc := []) hP hD rfl hS hA [] (by decide +kernel) rfl
              have hK9 := hK.sub (tys' := []) [] rfl
              refine W.widen (k := 0) (n := 0) (by exact Nat.le_of_ble_eq_true rfl) (by exact Nat.le_of_ble_eq_true rfl) ?_
              exact W.zret (v := 0) (ty := .boolean) hx hb hr (by decide) (fun t ht hW => ⟨⟨0, (), rfl, trivial, by rw [ht]; exact hP9, va_K.moved hW.alike hK9, hD9⟩, hS.F ht⟩) hS.2.2 d_OM_isAction_170
            · skip
              exfalso
              simp only [Int32.lt_iff_toInt_lt, Int32.le_iff_toInt_le, ← Int32.toInt_inj] at c_262 c_268
              have k0 : (0 : Int32).toInt = 0 := by decide
              omega
      · skip
        refine lv_iload_n hx hb d_OM_isAction_20 rfl (lv_at hl 3 rfl) ?_
        refine lv_iconst (v := 2) hx hb d_OM_isAction_21 (by decide) ?_
        refine lv_icmp_ge (tgt := 29) hx hb d_OM_isAction_22 (by decide) (fun c_269 => ?_) (fun c_269 => ?_)
        · skip
          refine lv_iconst (v := 0) hx hb d_OM_isAction_29 (by decide) ?_
          refine lv_istore (lv' := [(5, .int 0), (4, .int 0), (0, .int 4), (1, .int p1), (2, .int p2), (3, .int p3)]) hx hb d_OM_isAction_30 hl (by decide) rfl ?_
          clear hl ls
          intro ls hl
          refine lv_iload_n hx hb d_OM_isAction_32 rfl (lv_at hl 5 rfl) ?_
          refine lv_bipush (v := (-9)) hx hb d_OM_isAction_33 (by decide) ?_
          refine lv_icmp_lt (tgt := 48) hx hb d_OM_isAction_35 (by decide) (fun c_270 => ?_) (fun c_270 => ?_)
          · skip
            refine lv_iconst (v := 0) hx hb d_OM_isAction_48 (by decide) ?_
            refine lv_istore (lv' := [(6, .int 0), (5, .int 0), (4, .int 0), (0, .int 4), (1, .int p1), (2, .int p2), (3, .int p3)]) hx hb d_OM_isAction_49 hl (by decide) rfl ?_
            clear hl ls
            intro ls hl
            refine lv_iload_n hx hb d_OM_isAction_51 rfl (lv_at hl 3 rfl) ?_
            refine lv_tableIn (x := 4) (tgt := 153) hx hb d_OM_isAction_52 (by decide) (by decide) (by rfl) (by decide) ?_
            refine tp_pc (pc' := 153) (by rfl) ?_
            refine lv_iload_n hx hb d_OM_isAction_153 rfl (lv_at hl 4 rfl) ?_
            refine lv_if_ne (tgt := 169) hx hb d_OM_isAction_154 (by decide) (fun c_271 => ?_) (fun c_271 => ?_)
            · skip
              refine lv_iconst (v := 0) hx hb d_OM_isAction_169 (by decide) ?_
              obtain ⟨hP9, hD9, -⟩ := cut3 (wc := []) hP hD rfl hS hA [] (by decide +kernel) rfl
              have hK9 := hK.sub (tys' := []) [] rfl
              refine W.widen (k := 0) (n := 0) (by exact Nat.le_of_ble_eq_true rfl) (by exact Nat.le_of_ble_eq_true rfl) ?_
              exact W.zret (v := 0) (ty := .boolean) hx hb hr (by decide) (fun t ht hW => ⟨⟨0, (), rfl, trivial, by rw [ht]; exact hP9, va_K.moved hW.alike hK9, hD9⟩, hS.F ht⟩) hS.2.2 d_OM_isAction_170
            · skip
              exfalso
              simp only [Int32.lt_iff_toInt_lt, Int32.le_iff_toInt_le, ← Int32.toInt_inj] at c_262 c_271
              have k0 : (0 : Int32).toInt = 0 := by decide
              omega
          · skip
            refine lv_iload_n hx hb d_OM_isAction_38 rfl (lv_at hl 5 rfl) ?_
            refine lv_bipush (v := 9) hx hb d_OM_isAction_39 (by decide) ?_
            refine lv_icmp_gt (tgt := 48) hx hb d_OM_isAction_41 (by decide) (fun c_272 => ?_) (fun c_272 => ?_)
            · skip
              refine lv_iconst (v := 0) hx hb d_OM_isAction_48 (by decide) ?_
              refine lv_istore (lv' := [(6, .int 0), (5, .int 0), (4, .int 0), (0, .int 4), (1, .int p1), (2, .int p2), (3, .int p3)]) hx hb d_OM_isAction_49 hl (by decide) rfl ?_
              clear hl ls
              intro ls hl
              refine lv_iload_n hx hb d_OM_isAction_51 rfl (lv_at hl 3 rfl) ?_
              refine lv_tableIn (x := 4) (tgt := 153) hx hb d_OM_isAction_52 (by decide) (by decide) (by rfl) (by decide) ?_
              refine tp_pc (pc' := 153) (by rfl) ?_
              refine lv_iload_n hx hb d_OM_isAction_153 rfl (lv_at hl 4 rfl) ?_
              refine lv_if_ne (tgt := 169) hx hb d_OM_isAction_154 (by decide) (fun c_273 => ?_) (fun c_273 => ?_)
              · skip
                refine lv_iconst (v := 0) hx hb d_OM_isAction_169 (by decide) ?_
                obtain ⟨hP9, hD9, -⟩ := cut3 (wc := []) hP hD rfl hS hA [] (by decide +kernel) rfl
                have hK9 := hK.sub (tys' := []) [] rfl
                refine W.widen (k := 0) (n := 0) (by exact Nat.le_of_ble_eq_true rfl) (by exact Nat.le_of_ble_eq_true rfl) ?_
                exact W.zret (v := 0) (ty := .boolean) hx hb hr (by decide) (fun t ht hW => ⟨⟨0, (), rfl, trivial, by rw [ht]; exact hP9, va_K.moved hW.alike hK9, hD9⟩, hS.F ht⟩) hS.2.2 d_OM_isAction_170
              · skip
                exfalso
                simp only [Int32.lt_iff_toInt_lt, Int32.le_iff_toInt_le, ← Int32.toInt_inj] at c_262 c_273
                have k0 : (0 : Int32).toInt = 0 := by decide
                omega
            · skip
              refine lv_iconst (v := 1) hx hb d_OM_isAction_44 (by decide) ?_
              refine lv_goto (tgt := 49) hx hb d_OM_isAction_45 (by decide) ?_
              refine tp_pc (pc' := 49) (by rfl) ?_
              refine lv_istore (lv' := [(6, .int 1), (5, .int 0), (4, .int 0), (0, .int 4), (1, .int p1), (2, .int p2), (3, .int p3)]) hx hb d_OM_isAction_49 hl (by decide) rfl ?_
              clear hl ls
              intro ls hl
              refine lv_iload_n hx hb d_OM_isAction_51 rfl (lv_at hl 3 rfl) ?_
              refine lv_tableIn (x := 4) (tgt := 153) hx hb d_OM_isAction_52 (by decide) (by decide) (by rfl) (by decide) ?_
              refine tp_pc (pc' := 153) (by rfl) ?_
              refine lv_iload_n hx hb d_OM_isAction_153 rfl (lv_at hl 4 rfl) ?_
              refine lv_if_ne (tgt := 169) hx hb d_OM_isAction_154 (by decide) (fun c_274 => ?_) (fun c_274 => ?_)
              · skip
                refine lv_iconst (v := 0) hx hb d_OM_isAction_169 (by decide) ?_
                obtain ⟨hP9, hD9, -⟩ := cut3 (wc := []) hP hD rfl hS hA [] (by decide +kernel) rfl
                have hK9 := hK.sub (tys' := []) [] rfl
                refine W.widen (k := 0) (n := 0) (by exact Nat.le_of_ble_eq_true rfl) (by exact Nat.le_of_ble_eq_true rfl) ?_
                exact W.zret (v := 0) (ty := .boolean) hx hb hr (by decide) (fun t ht hW => ⟨⟨0, (), rfl, trivial, by rw [ht]; exact hP9, va_K.moved hW.alike hK9, hD9⟩, hS.F ht⟩) hS.2.2 d_OM_isAction_170
              · skip
                exfalso
                simp only [Int32.lt_iff_toInt_lt, Int32.le_iff_toInt_le, ← Int32.toInt_inj] at c_262 c_274
                have k0 : (0 : Int32).toInt = 0 := by decide
                omega
        · skip
          refine lv_iconst (v := 1) hx hb d_OM_isAction_25 (by decide) ?_
          refine lv_goto (tgt := 30) hx hb d_OM_isAction_26 (by decide) ?_
          refine tp_pc (pc' := 30) (by rfl) ?_
          refine lv_istore (lv' := [(5, .int 1), (4, .int 0), (0, .int 4), (1, .int p1), (2, .int p2), (3, .int p3)]) hx hb d_OM_isAction_30 hl (by decide) rfl ?_
          clear hl ls
          intro ls hl
          refine lv_iload_n hx hb d_OM_isAction_32 rfl (lv_at hl 5 rfl) ?_
          refine lv_bipush (v := (-9)) hx hb d_OM_isAction_33 (by decide) ?_
          refine lv_icmp_lt (tgt := 48) hx hb d_OM_isAction_35 (by decide) (fun c_275 => ?_) (fun c_275 => ?_)
          · skip
            refine lv_iconst (v := 0) hx hb d_OM_isAction_48 (by decide) ?_
            refine lv_istore (lv' := [(6, .int 0), (5, .int 1), (4, .int 0), (0, .int 4), (1, .int p1), (2, .int p2), (3, .int p3)]) hx hb d_OM_isAction_49 hl (by decide) rfl ?_
            clear hl ls
            intro ls hl
            refine lv_iload_n hx hb d_OM_isAction_51 rfl (lv_at hl 3 rfl) ?_
            refine lv_tableIn (x := 4) (tgt := 153) hx hb d_OM_isAction_52 (by decide) (by decide) (by rfl) (by decide) ?_
            refine tp_pc (pc' := 153) (by rfl) ?_
            refine lv_iload_n hx hb d_OM_isAction_153 rfl (lv_at hl 4 rfl) ?_
            refine lv_if_ne (tgt := 169) hx hb d_OM_isAction_154 (by decide) (fun c_276 => ?_) (fun c_276 => ?_)
            · skip
              refine lv_iconst (v := 0) hx hb d_OM_isAction_169 (by decide) ?_
              obtain ⟨hP9, hD9, -⟩ := cut3 (wc := []) hP hD rfl hS hA [] (by decide +kernel) rfl
              have hK9 := hK.sub (tys' := []) [] rfl
              refine W.widen (k := 0) (n := 0) (by exact Nat.le_of_ble_eq_true rfl) (by exact Nat.le_of_ble_eq_true rfl) ?_
              exact W.zret (v := 0) (ty := .boolean) hx hb hr (by decide) (fun t ht hW => ⟨⟨0, (), rfl, trivial, by rw [ht]; exact hP9, va_K.moved hW.alike hK9, hD9⟩, hS.F ht⟩) hS.2.2 d_OM_isAction_170
            · skip
              exfalso
              simp only [Int32.lt_iff_toInt_lt, Int32.le_iff_toInt_le, ← Int32.toInt_inj] at c_262 c_276
              have k0 : (0 : Int32).toInt = 0 := by decide
              omega
          · skip
            refine lv_iload_n hx hb d_OM_isAction_38 rfl (lv_at hl 5 rfl) ?_
            refine lv_bipush (v := 9) hx hb d_OM_isAction_39 (by decide) ?_
            refine lv_icmp_gt (tgt := 48) hx hb d_OM_isAction_41 (by decide) (fun c_277 => ?_) (fun c_277 => ?_)
            · skip
              refine lv_iconst (v := 0) hx hb d_OM_isAction_48 (by decide) ?_
              refine lv_istore (lv' := [(6, .int 0), (5, .int 1), (4, .int 0), (0, .int 4), (1, .int p1), (2, .int p2), (3, .int p3)]) hx hb d_OM_isAction_49 hl (by decide) rfl ?_
              clear hl ls
              intro ls hl
              refine lv_iload_n hx hb d_OM_isAction_51 rfl (lv_at hl 3 rfl) ?_
              refine lv_tableIn (x := 4) (tgt := 153) hx hb d_OM_isAction_52 (by decide) (by decide) (by rfl) (by decide) ?_
              refine tp_pc (pc' := 153) (by rfl) ?_
              refine lv_iload_n hx hb d_OM_isAction_153 rfl (lv_at hl 4 rfl) ?_
              refine lv_if_ne (tgt := 169) hx hb d_OM_isAction_154 (by decide) (fun c_278 => ?_) (fun c_278 => ?_)
              · skip
                refine lv_iconst (v := 0) hx hb d_OM_isAction_169 (by decide) ?_
                obtain ⟨hP9, hD9, -⟩ := cut3 (wc := []) hP hD rfl hS hA [] (by decide +kernel) rfl
                have hK9 := hK.sub (tys' := []) [] rfl
                refine W.widen (k := 0) (n := 0) (by exact Nat.le_of_ble_eq_true rfl) (by exact Nat.le_of_ble_eq_true rfl) ?_
                exact W.zret (v := 0) (ty := .boolean) hx hb hr (by decide) (fun t ht hW => ⟨⟨0, (), rfl, trivial, by rw [ht]; exact hP9, va_K.moved hW.alike hK9, hD9⟩, hS.F ht⟩) hS.2.2 d_OM_isAction_170
              · skip
                exfalso
                simp only [Int32.lt_iff_toInt_lt, Int32.le_iff_toInt_le, ← Int32.toInt_inj] at c_262 c_278
                have k0 : (0 : Int32).toInt = 0 := by decide
                omega
            · skip
              refine lv_iconst (v := 1) hx hb d_OM_isAction_44 (by decide) ?_
              refine lv_goto (tgt := 49) hx hb d_OM_isAction_45 (by decide) ?_
              refine tp_pc (pc' := 49) (by rfl) ?_
              refine lv_istore (lv' := [(6, .int 1), (5, .int 1), (4, .int 0), (0, .int 4), (1, .int p1), (2, .int p2), (3, .int p3)]) hx hb d_OM_isAction_49 hl (by decide) rfl ?_
              clear hl ls
              intro ls hl
              refine lv_iload_n hx hb d_OM_isAction_51 rfl (lv_at hl 3 rfl) ?_
              refine lv_tableIn (x := 4) (tgt := 153) hx hb d_OM_isAction_52 (by decide) (by decide) (by rfl) (by decide) ?_
              refine tp_pc (pc' := 153) (by rfl) ?_
              refine lv_iload_n hx hb d_OM_isAction_153 rfl (lv_at hl 4 rfl) ?_
              refine lv_if_ne (tgt := 169) hx hb d_OM_isAction_154 (by decide) (fun c_279 => ?_) (fun c_279 => ?_)
              · skip
                refine lv_iconst (v := 0) hx hb d_OM_isAction_169 (by decide) ?_
                obtain ⟨hP9, hD9, -⟩ := cut3 (wc := []) hP hD rfl hS hA [] (by decide +kernel) rfl
                have hK9 := hK.sub (tys' := []) [] rfl
                refine W.widen (k := 0) (n := 0) (by exact Nat.le_of_ble_eq_true rfl) (by exact Nat.le_of_ble_eq_true rfl) ?_
                exact W.zret (v := 0) (ty := .boolean) hx hb hr (by decide) (fun t ht hW => ⟨⟨0, (), rfl, trivial, by rw [ht]; exact hP9, va_K.moved hW.alike hK9, hD9⟩, hS.F ht⟩) hS.2.2 d_OM_isAction_170
              · skip
                exfalso
                simp only [Int32.lt_iff_toInt_lt, Int32.le_iff_toInt_le, ← Int32.toInt_inj] at c_262 c_279
                have k0 : (0 : Int32).toInt = 0 := by decide
                omega
    · skip
      refine lv_iload_n hx hb d_OM_isAction_4 rfl (lv_at hl 1 rfl) ?_
      refine lv_iconst (v := 3) hx hb d_OM_isAction_5 (by decide) ?_
      refine lv_icmp_ge (tgt := 13) hx hb d_OM_isAction_6 (by decide) (fun c_280 => ?_) (fun c_280 => ?_)
      · skip
        refine lv_iconst (v := 0) hx hb d_OM_isAction_13 (by decide) ?_
        refine lv_istore (lv' := [(4, .int 0), (0, .int 4), (1, .int p1), (2, .int p2), (3, .int p3)]) hx hb d_OM_isAction_14 hl (by decide) rfl ?_
        clear hl ls
        intro ls hl
        refine lv_iload_n hx hb d_OM_isAction_16 rfl (lv_at hl 3 rfl) ?_
        refine lv_if_lt (tgt := 29) hx hb d_OM_isAction_17 (by decide) (fun c_281 => ?_) (fun c_281 => ?_)
        · skip
          refine lv_iconst (v := 0) hx hb d_OM_isAction_29 (by decide) ?_
          refine lv_istore (lv' := [(5, .int 0), (4, .int 0), (0, .int 4), (1, .int p1), (2, .int p2), (3, .int p3)]) hx hb d_OM_isAction_30 hl (by decide) rfl ?_
          clear hl ls
          intro ls hl
          refine lv_iload_n hx hb d_OM_isAction_32 rfl (lv_at hl 5 rfl) ?_
          refine lv_bipush (v := (-9)) hx hb d_OM_isAction_33 (by decide) ?_
          refine lv_icmp_lt (tgt := 48) hx hb d_OM_isAction_35 (by decide) (fun c_282 => ?_) (fun c_282 => ?_)
          · skip
            refine lv_iconst (v := 0) hx hb d_OM_isAction_48 (by decide) ?_
            refine lv_istore (lv' := [(6, .int 0), (5, .int 0), (4, .int 0), (0, .int 4), (1, .int p1), (2, .int p2), (3, .int p3)]) hx hb d_OM_isAction_49 hl (by decide) rfl ?_
            clear hl ls
            intro ls hl
            refine lv_iload_n hx hb d_OM_isAction_51 rfl (lv_at hl 3 rfl) ?_
            refine lv_tableIn (x := 4) (tgt := 153) hx hb d_OM_isAction_52 (by decide) (by decide) (by rfl) (by decide) ?_
            refine tp_pc (pc' := 153) (by rfl) ?_
            refine lv_iload_n hx hb d_OM_isAction_153 rfl (lv_at hl 4 rfl) ?_
            refine lv_if_ne (tgt := 169) hx hb d_OM_isAction_154 (by decide) (fun c_283 => ?_) (fun c_283 => ?_)
            · skip
              refine lv_iconst (v := 0) hx hb d_OM_isAction_169 (by decide) ?_
              obtain ⟨hP9, hD9, -⟩ := cut3 (wc := []) hP hD rfl hS hA [] (by decide +kernel) rfl
              have hK9 := hK.sub (tys' := []) [] rfl
              refine W.widen (k := 0) (n := 0) (by exact Nat.le_of_ble_eq_true rfl) (by exact Nat.le_of_ble_eq_true rfl) ?_
              exact W.zret (v := 0) (ty := .boolean) hx hb hr (by decide) (fun t ht hW => ⟨⟨0, (), rfl, trivial, by rw [ht]; exact hP9, va_K.moved hW.alike hK9, hD9⟩, hS.F ht⟩) hS.2.2 d_OM_isAction_170
            · skip
              exfalso
              simp only [Int32.lt_iff_toInt_lt, Int32.le_iff_toInt_le, ← Int32.toInt_inj] at c_262 c_280 c_283
              have k0 : (0 : Int32).toInt = 0 := by decide
              have k3 : (3 : Int32).toInt = 3 := by decide
              omega
          · skip
            refine lv_iload_n hx hb d_OM_isAction_38 rfl (lv_at hl 5 rfl) ?_
            refine lv_bipush (v := 9) hx hb d_OM_isAction_39 (by decide) ?_
            refine lv_icmp_gt (tgt := 48) hx hb d_OM_isAction_41 (by decide) (fun c_284 => ?_) (fun c_284 => ?_)
            · skip
              refine lv_iconst (v := 0) hx hb d_OM_isAction_48 (by decide) ?_
              refine lv_istore (lv' := [(6, .int 0), (5, .int 0), (4, .int 0), (0, .int 4), (1, .int p1), (2, .int p2), (3, .int p3)]) hx hb d_OM_isAction_49 hl (by decide) rfl ?_
              clear hl ls
              intro ls hl
              refine lv_iload_n hx hb d_OM_isAction_51 rfl (lv_at hl 3 rfl) ?_
              refine lv_tableIn (x := 4) (tgt := 153) hx hb d_OM_isAction_52 (by decide) (by decide) (by rfl) (by decide) ?_
              refine tp_pc (pc' := 153) (by rfl) ?_
              refine lv_iload_n hx hb d_OM_isAction_153 rfl (lv_at hl 4 rfl) ?_
              refine lv_if_ne (tgt := 169) hx hb d_OM_isAction_154 (by decide) (fun c_285 => ?_) (fun c_285 => ?_)
              · skip
                refine lv_iconst (v := 0) hx hb d_OM_isAction_169 (by decide) ?_
                obtain ⟨hP9, hD9, -⟩ := cut3 (wc := []) hP hD rfl hS hA [] (by decide +kernel) rfl
                have hK9 := hK.sub (tys' := []) [] rfl
                refine W.widen (k := 0) (n := 0) (by exact Nat.le_of_ble_eq_true rfl) (by exact Nat.le_of_ble_eq_true rfl) ?_
                exact W.zret (v := 0) (ty := .boolean) hx hb hr (by decide) (fun t ht hW => ⟨⟨0, (), rfl, trivial, by rw [ht]; exact hP9, va_K.moved hW.alike hK9, hD9⟩, hS.F ht⟩) hS.2.2 d_OM_isAction_170
              · skip
                exfalso
                simp only [Int32.lt_iff_toInt_lt, Int32.le_iff_toInt_le, ← Int32.toInt_inj] at c_262 c_280 c_285
                have k0 : (0 : Int32).toInt = 0 := by decide
                have k3 : (3 : Int32).toInt = 3 := by decide
                omega
            · skip
              refine lv_iconst (v := 1) hx hb d_OM_isAction_44 (by decide) ?_
              refine lv_goto (tgt := 49) hx hb d_OM_isAction_45 (by decide) ?_
              refine tp_pc (pc' := 49) (by rfl) ?_
              refine lv_istore (lv' := [(6, .int 1), (5, .int 0), (4, .int 0), (0, .int 4), (1, .int p1), (2, .int p2), (3, .int p3)]) hx hb d_OM_isAction_49 hl (by decide) rfl ?_
              clear hl ls
              intro ls hl
              refine lv_iload_n hx hb d_OM_isAction_51 rfl (lv_at hl 3 rfl) ?_
              refine lv_tableIn (x := 4) (tgt := 153) hx hb d_OM_isAction_52 (by decide) (by decide) (by rfl) (by decide) ?_
              refine tp_pc (pc' := 153) (by rfl) ?_
              refine lv_iload_n hx hb d_OM_isAction_153 rfl (lv_at hl 4 rfl) ?_
              refine lv_if_ne (tgt := 169) hx hb d_OM_isAction_154 (by decide) (fun c_286 => ?_) (fun c_286 => ?_)
              · skip
                refine lv_iconst (v := 0) hx hb d_OM_isAction_169 (by decide) ?_
                obtain ⟨hP9, hD9, -⟩ := cut3 (wc := []) hP hD rfl hS hA [] (by decide +kernel) rfl
                have hK9 := hK.sub (tys' := []) [] rfl
                refine W.widen (k := 0) (n := 0) (by exact Nat.le_of_ble_eq_true rfl) (by exact Nat.le_of_ble_eq_true rfl) ?_
                exact W.zret (v := 0) (ty := .boolean) hx hb hr (by decide) (fun t ht hW => ⟨⟨0, (), rfl, trivial, by rw [ht]; exact hP9, va_K.moved hW.alike hK9, hD9⟩, hS.F ht⟩) hS.2.2 d_OM_isAction_170
              · skip
                exfalso
                simp only [Int32.lt_iff_toInt_lt, Int32.le_iff_toInt_le, ← Int32.toInt_inj] at c_262 c_280 c_286
                have k0 : (0 : Int32).toInt = 0 := by decide
                have k3 : (3 : Int32).toInt = 3 := by decide
                omega
        · skip
          refine lv_iload_n hx hb d_OM_isAction_20 rfl (lv_at hl 3 rfl) ?_
          refine lv_iconst (v := 2) hx hb d_OM_isAction_21 (by decide) ?_
          refine lv_icmp_ge (tgt := 29) hx hb d_OM_isAction_22 (by decide) (fun c_287 => ?_) (fun c_287 => ?_)
          · skip
            refine lv_iconst (v := 0) hx hb d_OM_isAction_29 (by decide) ?_
            refine lv_istore (lv' := [(5, .int 0), (4, .int 0), (0, .int 4), (1, .int p1), (2, .int p2), (3, .int p3)]) hx hb d_OM_isAction_30 hl (by decide) rfl ?_
            clear hl ls
            intro ls hl
            refine lv_iload_n hx hb d_OM_isAction_32 rfl (lv_at hl 5 rfl) ?_
            refine lv_bipush (v := (-9)) hx hb d_OM_isAction_33 (by decide) ?_
            refine lv_icmp_lt (tgt := 48) hx hb d_OM_isAction_35 (by decide) (fun c_288 => ?_) (fun c_288 => ?_)
            · skip
              refine lv_iconst (v := 0) hx hb d_OM_isAction_48 (by decide) ?_
              refine lv_istore (lv' := [(6, .int 0), (5, .int 0), (4, .int 0), (0, .int 4), (1, .int p1), (2, .int p2), (3, .int p3)]) hx hb d_OM_isAction_49 hl (by decide) rfl ?_
              clear hl ls
              intro ls hl
              refine lv_iload_n hx hb d_OM_isAction_51 rfl (lv_at hl 3 rfl) ?_
              refine lv_tableIn (x := 4) (tgt := 153) hx hb d_OM_isAction_52 (by decide) (by decide) (by rfl) (by decide) ?_
              refine tp_pc (pc' := 153) (by rfl) ?_
              refine lv_iload_n hx hb d_OM_isAction_153 rfl (lv_at hl 4 rfl) ?_
              refine lv_if_ne (tgt := 169) hx hb d_OM_isAction_154 (by decide) (fun c_289 => ?_) (fun c_289 => ?_)
              · skip
                refine lv_iconst (v := 0) hx hb d_OM_isAction_169 (by decide) ?_
                obtain ⟨hP9, hD9, -⟩ := cut3 (wc := []) hP hD rfl hS hA [] (by decide +kernel) rfl
                have hK9 := hK.sub (tys' := []) [] rfl
                refine W.widen (k := 0) (n := 0) (by exact Nat.le_of_ble_eq_true rfl) (by exact Nat.le_of_ble_eq_true rfl) ?_
                exact W.zret (v := 0) (ty := .boolean) hx hb hr (by decide) (fun t ht hW => ⟨⟨0, (), rfl, trivial, by rw [ht]; exact hP9, va_K.moved hW.alike hK9, hD9⟩, hS.F ht⟩) hS.2.2 d_OM_isAction_170
              · skip
                exfalso
                simp only [Int32.lt_iff_toInt_lt, Int32.le_iff_toInt_le, ← Int32.toInt_inj] at c_262 c_280 c_289
                have k0 : (0 : Int32).toInt = 0 := by decide
                have k3 : (3 : Int32).toInt = 3 := by decide
                omega
            · skip
              refine lv_iload_n hx hb d_OM_isAction_38 rfl (lv_at hl 5 rfl) ?_
              refine lv_bipush (v := 9) hx hb d_OM_isAction_39 (by decide) ?_
              refine lv_icmp_gt (tgt := 48) hx hb d_OM_isAction_41 (by decide) (fun c_290 => ?_) (fun c_290 => ?_)
              · skip
                refine lv_iconst (v := 0) hx hb d_OM_isAction_48 (by decide) ?_
                refine lv_istore (lv' := [(6, .int 0), (5, .int 0), (4, .int 0), (0, .int 4), (1, .int p1), (2, .int p2), (3, .int p3)]) hx hb d_OM_isAction_49 hl (by decide) rfl ?_
                clear hl ls
                intro ls hl
                refine lv_iload_n hx hb d_OM_isAction_51 rfl (lv_at hl 3 rfl) ?_
                refine lv_tableIn (x := 4) (tgt := 153) hx hb d_OM_isAction_52 (by decide) (by decide) (by rfl) (by decide) ?_
                refine tp_pc (pc' := 153) (by rfl) ?_
                refine lv_iload_n hx hb d_OM_isAction_153 rfl (lv_at hl 4 rfl) ?_
                refine lv_if_ne (tgt := 169) hx hb d_OM_isAction_154 (by decide) (fun c_291 => ?_) (fun c_291 => ?_)
                · skip
                  refine lv_iconst (v := 0) hx hb d_OM_isAction_169 (by decide) ?_
                  obtain ⟨hP9, hD9, -⟩ := cut3 (wc := []) hP hD rfl hS hA [] (by decide +kernel) rfl
                  have hK9 := hK.sub (tys' := []) [] rfl
                  refine W.widen (k := 0) (n := 0) (by exact Nat.le_of_ble_eq_true rfl) (by exact Nat.le_of_ble_eq_true rfl) ?_
                  exact W.zret (v := 0) (ty := .boolean) hx hb hr (by decide) (fun t ht hW => ⟨⟨0, (), rfl, trivial, by rw [ht]; exact hP9, va_K.moved hW.alike hK9, hD9⟩, hS.F ht⟩) hS.2.2 d_OM_isAction_170
                · skip
                  exfalso
                  simp only [Int32.lt_iff_toInt_lt, Int32.le_iff_toInt_le, ← Int32.toInt_inj] at c_262 c_280 c_291
                  have k0 : (0 : Int32).toInt = 0 := by decide
                  have k3 : (3 : Int32).toInt = 3 := by decide
                  omega
              · skip
                refine lv_iconst (v := 1) hx hb d_OM_isAction_44 (by decide) ?_
                refine lv_goto (tgt := 49) hx hb d_OM_isAction_45 (by decide) ?_
                refine tp_pc (pc' := 49) (by rfl) ?_
                refine lv_istore (lv' := [(6, .int 1), (5, .int 0), (4, .int 0), (0, .int 4), (1, .int p1), (2, .int p2), (3, .int p3)]) hx hb d_OM_isAction_49 hl (by decide) rfl ?_
                clear hl ls
                intro ls hl
                refine lv_iload_n hx hb d_OM_isAction_51 rfl (lv_at hl 3 rfl) ?_
                refine lv_tableIn (x := 4) (tgt := 153) hx hb d_OM_isAction_52 (by decide) (by decide) (by rfl) (by decide) ?_
                refine tp_pc (pc' := 153) (by rfl) ?_
                refine lv_iload_n hx hb d_OM_isAction_153 rfl (lv_at hl 4 rfl) ?_
                refine lv_if_ne (tgt := 169) hx hb d_OM_isAction_154 (by decide) (fun c_292 => ?_) (fun c_292 => ?_)
                · skip
                  refine lv_iconst (v := 0) hx hb d_OM_isAction_169 (by decide) ?_
                  obtain ⟨hP9, hD9, -⟩ := cut3 (wc := []) hP hD rfl hS hA [] (by decide +kernel) rfl
                  have hK9 := hK.sub (tys' := []) [] rfl
                  refine W.widen (k := 0) (n := 0) (by exact Nat.le_of_ble_eq_true rfl) (by exact Nat.le_of_ble_eq_true rfl) ?_
                  exact W.zret (v := 0) (ty := .boolean) hx hb hr (by decide) (fun t ht hW => ⟨⟨0, (), rfl, trivial, by rw [ht]; exact hP9, va_K.moved hW.alike hK9, hD9⟩, hS.F ht⟩) hS.2.2 d_OM_isAction_170
                · skip
                  exfalso
                  simp only [Int32.lt_iff_toInt_lt, Int32.le_iff_toInt_le, ← Int32.toInt_inj] at c_262 c_280 c_292
                  have k0 : (0 : Int32).toInt = 0 := by decide
                  have k3 : (3 : Int32).toInt = 3 := by decide
                  omega
          · skip
            refine lv_iconst (v := 1) hx hb d_OM_isAction_25 (by decide) ?_
            refine lv_goto (tgt := 30) hx hb d_OM_isAction_26 (by decide) ?_
            refine tp_pc (pc' := 30) (by rfl) ?_
            refine lv_istore (lv' := [(5, .int 1), (4, .int 0), (0, .int 4), (1, .int p1), (2, .int p2), (3, .int p3)]) hx hb d_OM_isAction_30 hl (by decide) rfl ?_
            clear hl ls
            intro ls hl
            refine lv_iload_n hx hb d_OM_isAction_32 rfl (lv_at hl 5 rfl) ?_
            refine lv_bipush (v := (-9)) hx hb d_OM_isAction_33 (by decide) ?_
            refine lv_icmp_lt (tgt := 48) hx hb d_OM_isAction_35 (by decide) (fun c_293 => ?_) (fun c_293 => ?_)
            · skip
              refine lv_iconst (v := 0) hx hb d_OM_isAction_48 (by decide) ?_
              refine lv_istore (lv' := [(6, .int 0), (5, .int 1), (4, .int 0), (0, .int 4), (1, .int p1), (2, .int p2), (3, .int p3)]) hx hb d_OM_isAction_49 hl (by decide) rfl ?_
              clear hl ls
              intro ls hl
              refine lv_iload_n hx hb d_OM_isAction_51 rfl (lv_at hl 3 rfl) ?_
              refine lv_tableIn (x := 4) (tgt := 153) hx hb d_OM_isAction_52 (by decide) (by decide) (by rfl) (by decide) ?_
              refine tp_pc (pc' := 153) (by rfl) ?_
              refine lv_iload_n hx hb d_OM_isAction_153 rfl (lv_at hl 4 rfl) ?_
              refine lv_if_ne (tgt := 169) hx hb d_OM_isAction_154 (by decide) (fun c_294 => ?_) (fun c_294 => ?_)
              · skip
                refine lv_iconst (v := 0) hx hb d_OM_isAction_169 (by decide) ?_
                obtain ⟨hP9, hD9, -⟩ := cut3 (wc := []) hP hD rfl hS hA [] (by decide +kernel) rfl
                have hK9 := hK.sub (tys' := []) [] rfl
                refine W.widen (k := 0) (n := 0) (by exact Nat.le_of_ble_eq_true rfl) (by exact Nat.le_of_ble_eq_true rfl) ?_
                exact W.zret (v := 0) (ty := .boolean) hx hb hr (by decide) (fun t ht hW => ⟨⟨0, (), rfl, trivial, by rw [ht]; exact hP9, va_K.moved hW.alike hK9, hD9⟩, hS.F ht⟩) hS.2.2 d_OM_isAction_170
              · skip
                exfalso
                simp only [Int32.lt_iff_toInt_lt, Int32.le_iff_toInt_le, ← Int32.toInt_inj] at c_262 c_280 c_294
                have k0 : (0 : Int32).toInt = 0 := by decide
                have k3 : (3 : Int32).toInt = 3 := by decide
                omega
            · skip
              refine lv_iload_n hx hb d_OM_isAction_38 rfl (lv_at hl 5 rfl) ?_
              refine lv_bipush (v := 9) hx hb d_OM_isAction_39 (by decide) ?_
              refine lv_icmp_gt (tgt := 48) hx hb d_OM_isAction_41 (by decide) (fun c_295 => ?_) (fun c_295 => ?_)
              · skip
                refine lv_iconst (v := 0) hx hb d_OM_isAction_48 (by decide) ?_
                refine lv_istore (lv' := [(6, .int 0), (5, .int 1), (4, .int 0), (0, .int 4), (1, .int p1), (2, .int p2), (3, .int p3)]) hx hb d_OM_isAction_49 hl (by decide) rfl ?_
                clear hl ls
                intro ls hl
                refine lv_iload_n hx hb d_OM_isAction_51 rfl (lv_at hl 3 rfl) ?_
                refine lv_tableIn (x := 4) (tgt := 153) hx hb d_OM_isAction_52 (by decide) (by decide) (by rfl) (by decide) ?_
                refine tp_pc (pc' := 153) (by rfl) ?_
                refine lv_iload_n hx hb d_OM_isAction_153 rfl (lv_at hl 4 rfl) ?_
                refine lv_if_ne (tgt := 169) hx hb d_OM_isAction_154 (by decide) (fun c_296 => ?_) (fun c_296 => ?_)
                · skip
                  refine lv_iconst (v := 0) hx hb d_OM_isAction_169 (by decide) ?_
                  obtain ⟨hP9, hD9, -⟩ := cut3 (wc := []) hP hD rfl hS hA [] (by decide +kernel) rfl
                  have hK9 := hK.sub (tys' := []) [] rfl
                  refine W.widen (k := 0) (n := 0) (by exact Nat.le_of_ble_eq_true rfl) (by exact Nat.le_of_ble_eq_true rfl) ?_
                  exact W.zret (v := 0) (ty := .boolean) hx hb hr (by decide) (fun t ht hW => ⟨⟨0, (), rfl, trivial, by rw [ht]; exact hP9, va_K.moved hW.alike hK9, hD9⟩, hS.F ht⟩) hS.2.2 d_OM_isAction_170
                · skip
                  exfalso
                  simp only [Int32.lt_iff_toInt_lt, Int32.le_iff_toInt_le, ← Int32.toInt_inj] at c_262 c_280 c_296
                  have k0 : (0 : Int32).toInt = 0 := by decide
                  have k3 : (3 : Int32).toInt = 3 := by decide
                  omega
              · skip
                refine lv_iconst (v := 1) hx hb d_OM_isAction_44 (by decide) ?_
                refine lv_goto (tgt := 49) hx hb d_OM_isAction_45 (by decide) ?_
                refine tp_pc (pc' := 49) (by rfl) ?_
                refine lv_istore (lv' := [(6, .int 1), (5, .int 1), (4, .int 0), (0, .int 4), (1, .int p1), (2, .int p2), (3, .int p3)]) hx hb d_OM_isAction_49 hl (by decide) rfl ?_
                clear hl ls
                intro ls hl
                refine lv_iload_n hx hb d_OM_isAction_51 rfl (lv_at hl 3 rfl) ?_
                refine lv_tableIn (x := 4) (tgt := 153) hx hb d_OM_isAction_52 (by decide) (by decide) (by rfl) (by decide) ?_
                refine tp_pc (pc' := 153) (by rfl) ?_
                refine lv_iload_n hx hb d_OM_isAction_153 rfl (lv_at hl 4 rfl) ?_
                refine lv_if_ne (tgt := 169) hx hb d_OM_isAction_154 (by decide) (fun c_297 => ?_) (fun c_297 => ?_)
                · skip
                  refine lv_iconst (v := 0) hx hb d_OM_isAction_169 (by decide) ?_
                  obtain ⟨hP9, hD9, -⟩ := cut3 (wc := []) hP hD rfl hS hA [] (by decide +kernel) rfl
                  have hK9 := hK.sub (tys' := []) [] rfl
                  refine W.widen (k := 0) (n := 0) (by exact Nat.le_of_ble_eq_true rfl) (by exact Nat.le_of_ble_eq_true rfl) ?_
                  exact W.zret (v := 0) (ty := .boolean) hx hb hr (by decide) (fun t ht hW => ⟨⟨0, (), rfl, trivial, by rw [ht]; exact hP9, va_K.moved hW.alike hK9, hD9⟩, hS.F ht⟩) hS.2.2 d_OM_isAction_170
                · skip
                  exfalso
                  simp only [Int32.lt_iff_toInt_lt, Int32.le_iff_toInt_le, ← Int32.toInt_inj] at c_262 c_280 c_297
                  have k0 : (0 : Int32).toInt = 0 := by decide
                  have k3 : (3 : Int32).toInt = 3 := by decide
                  omega
      · skip
        refine lv_iconst (v := 1) hx hb d_OM_isAction_9 (by decide) ?_
        refine lv_goto (tgt := 14) hx hb d_OM_isAction_10 (by decide) ?_
        refine tp_pc (pc' := 14) (by rfl) ?_
        refine lv_istore (lv' := [(4, .int 1), (0, .int 4), (1, .int p1), (2, .int p2), (3, .int p3)]) hx hb d_OM_isAction_14 hl (by decide) rfl ?_
        clear hl ls
        intro ls hl
        refine lv_iload_n hx hb d_OM_isAction_16 rfl (lv_at hl 3 rfl) ?_
        refine lv_if_lt (tgt := 29) hx hb d_OM_isAction_17 (by decide) (fun c_298 => ?_) (fun c_298 => ?_)
        · skip
          refine lv_iconst (v := 0) hx hb d_OM_isAction_29 (by decide) ?_
          refine lv_istore (lv' := [(5, .int 0), (4, .int 1), (0, .int 4), (1, .int p1), (2, .int p2), (3, .int p3)]) hx hb d_OM_isAction_30 hl (by decide) rfl ?_
          clear hl ls
          intro ls hl
          refine lv_iload_n hx hb d_OM_isAction_32 rfl (lv_at hl 5 rfl) ?_
          refine lv_bipush (v := (-9)) hx hb d_OM_isAction_33 (by decide) ?_
          refine lv_icmp_lt (tgt := 48) hx hb d_OM_isAction_35 (by decide) (fun c_299 => ?_) (fun c_299 => ?_)
          · skip
            refine lv_iconst (v := 0) hx hb d_OM_isAction_48 (by decide) ?_
            refine lv_istore (lv' := [(6, .int 0), (5, .int 0), (4, .int 1), (0, .int 4), (1, .int p1), (2, .int p2), (3, .int p3)]) hx hb d_OM_isAction_49 hl (by decide) rfl ?_
            clear hl ls
            intro ls hl
            refine lv_iload_n hx hb d_OM_isAction_51 rfl (lv_at hl 3 rfl) ?_
            refine lv_tableIn (x := 4) (tgt := 153) hx hb d_OM_isAction_52 (by decide) (by decide) (by rfl) (by decide) ?_
            refine tp_pc (pc' := 153) (by rfl) ?_
            refine lv_iload_n hx hb d_OM_isAction_153 rfl (lv_at hl 4 rfl) ?_
            refine lv_if_ne (tgt := 169) hx hb d_OM_isAction_154 (by decide) (fun c_300 => ?_) (fun c_300 => ?_)
            · skip
              refine lv_iconst (v := 0) hx hb d_OM_isAction_169 (by decide) ?_
              obtain ⟨hP9, hD9, -⟩ := cut3 (wc := []) hP hD rfl hS hA [] (by decide +kernel) rfl
              have hK9 := hK.sub (tys' := []) [] rfl
              refine W.widen (k := 0) (n := 0) (by exact Nat.le_of_ble_eq_true rfl) (by exact Nat.le_of_ble_eq_true rfl) ?_
              exact W.zret (v := 0) (ty := .boolean) hx hb hr (by decide) (fun t ht hW => ⟨⟨0, (), rfl, trivial, by rw [ht]; exact hP9, va_K.moved hW.alike hK9, hD9⟩, hS.F ht⟩) hS.2.2 d_OM_isAction_170
            · skip
              refine lv_iload_n hx hb d_OM_isAction_157 rfl (lv_at hl 5 rfl) ?_
              refine lv_if_ne (tgt := 169) hx hb d_OM_isAction_158 (by decide) (fun c_301 => ?_) (fun c_301 => ?_)
              · skip
                refine lv_iconst (v := 0) hx hb d_OM_isAction_169 (by decide) ?_
                obtain ⟨hP9, hD9, -⟩ := cut3 (wc := []) hP hD rfl hS hA [] (by decide +kernel) rfl
                have hK9 := hK.sub (tys' := []) [] rfl
                refine W.widen (k := 0) (n := 0) (by exact Nat.le_of_ble_eq_true rfl) (by exact Nat.le_of_ble_eq_true rfl) ?_
                exact W.zret (v := 0) (ty := .boolean) hx hb hr (by decide) (fun t ht hW => ⟨⟨0, (), rfl, trivial, by rw [ht]; exact hP9, va_K.moved hW.alike hK9, hD9⟩, hS.F ht⟩) hS.2.2 d_OM_isAction_170
              · skip
                exfalso
                simp only [Int32.lt_iff_toInt_lt, Int32.le_iff_toInt_le, ← Int32.toInt_inj] at c_298 c_301
                have k0 : (0 : Int32).toInt = 0 := by decide
                omega
          · skip
            refine lv_iload_n hx hb d_OM_isAction_38 rfl (lv_at hl 5 rfl) ?_
            refine lv_bipush (v := 9) hx hb d_OM_isAction_39 (by decide) ?_
            refine lv_icmp_gt (tgt := 48) hx hb d_OM_isAction_41 (by decide) (fun c_302 => ?_) (fun c_302 => ?_)
            · skip
              refine lv_iconst (v := 0) hx hb d_OM_isAction_48 (by decide) ?_
              refine lv_istore (lv' := [(6, .int 0), (5, .int 0), (4, .int 1), (0, .int 4), (1, .int p1), (2, .int p2), (3, .int p3)]) hx hb d_OM_isAction_49 hl (by decide) rfl ?_
              clear hl ls
              intro ls hl
              refine lv_iload_n hx hb d_OM_isAction_51 rfl (lv_at hl 3 rfl) ?_
              refine lv_tableIn (x := 4) (tgt := 153) hx hb d_OM_isAction_52 (by decide) (by decide) (by rfl) (by decide) ?_
              refine tp_pc (pc' := 153) (by rfl) ?_
              refine lv_iload_n hx hb d_OM_isAction_153 rfl (lv_at hl 4 rfl) ?_
              refine lv_if_ne (tgt := 169) hx hb d_OM_isAction_154 (by decide) (fun c_303 => ?_) (fun c_303 => ?_)
              · skip
                refine lv_iconst (v := 0) hx hb d_OM_isAction_169 (by decide) ?_
                obtain ⟨hP9, hD9, -⟩ := cut3 (wc := []) hP hD rfl hS hA [] (by decide +kernel) rfl
                have hK9 := hK.sub (tys' := []) [] rfl
                refine W.widen (k := 0) (n := 0) (by exact Nat.le_of_ble_eq_true rfl) (by exact Nat.le_of_ble_eq_true rfl) ?_
                exact W.zret (v := 0) (ty := .boolean) hx hb hr (by decide) (fun t ht hW => ⟨⟨0, (), rfl, trivial, by rw [ht]; exact hP9, va_K.moved hW.alike hK9, hD9⟩, hS.F ht⟩) hS.2.2 d_OM_isAction_170
              · skip
                refine lv_iload_n hx hb d_OM_isAction_157 rfl (lv_at hl 5 rfl) ?_
                refine lv_if_ne (tgt := 169) hx hb d_OM_isAction_158 (by decide) (fun c_304 => ?_) (fun c_304 => ?_)
                · skip
                  refine lv_iconst (v := 0) hx hb d_OM_isAction_169 (by decide) ?_
                  obtain ⟨hP9, hD9, -⟩ := cut3 (wc := []) hP hD rfl hS hA [] (by decide +kernel) rfl
                  have hK9 := hK.sub (tys' := []) [] rfl
                  refine W.widen (k := 0) (n := 0) (by exact Nat.le_of_ble_eq_true rfl) (by exact Nat.le_of_ble_eq_true rfl) ?_
                  exact W.zret (v := 0) (ty := .boolean) hx hb hr (by decide) (fun t ht hW => ⟨⟨0, (), rfl, trivial, by rw [ht]; exact hP9, va_K.moved hW.alike hK9, hD9⟩, hS.F ht⟩) hS.2.2 d_OM_isAction_170
                · skip
                  exfalso
                  simp only [Int32.lt_iff_toInt_lt, Int32.le_iff_toInt_le, ← Int32.toInt_inj] at c_298 c_304
                  have k0 : (0 : Int32).toInt = 0 := by decide
                  omega
            · skip
              refine lv_iconst (v := 1) hx hb d_OM_isAction_44 (by decide) ?_
              refine lv_goto (tgt := 49) hx hb d_OM_isAction_45 (by decide) ?_
              refine tp_pc (pc' := 49) (by rfl) ?_
              refine lv_istore (lv' := [(6, .int 1), (5, .int 0), (4, .int 1), (0, .int 4), (1, .int p1), (2, .int p2), (3, .int p3)]) hx hb d_OM_isAction_49 hl (by decide) rfl ?_
              clear hl ls
              intro ls hl
              refine lv_iload_n hx hb d_OM_isAction_51 rfl (lv_at hl 3 rfl) ?_
              refine lv_tableIn (x := 4) (tgt := 153) hx hb d_OM_isAction_52 (by decide) (by decide) (by rfl) (by decide) ?_
              refine tp_pc (pc' := 153) (by rfl) ?_
              refine lv_iload_n hx hb d_OM_isAction_153 rfl (lv_at hl 4 rfl) ?_
              refine lv_if_ne (tgt := 169) hx hb d_OM_isAction_154 (by decide) (fun c_305 => ?_) (fun c_305 => ?_)
              · skip
                refine lv_iconst (v := 0) hx hb d_OM_isAction_169 (by decide) ?_
                obtain ⟨hP9, hD9, -⟩ := cut3 (wc := []) hP hD rfl hS hA [] (by decide +kernel) rfl
                have hK9 := hK.sub (tys' := []) [] rfl
                refine W.widen (k := 0) (n := 0) (by exact Nat.le_of_ble_eq_true rfl) (by exact Nat.le_of_ble_eq_true rfl) ?_
                exact W.zret (v := 0) (ty := .boolean) hx hb hr (by decide) (fun t ht hW => ⟨⟨0, (), rfl, trivial, by rw [ht]; exact hP9, va_K.moved hW.alike hK9, hD9⟩, hS.F ht⟩) hS.2.2 d_OM_isAction_170
              · skip
                refine lv_iload_n hx hb d_OM_isAction_157 rfl (lv_at hl 5 rfl) ?_
                refine lv_if_ne (tgt := 169) hx hb d_OM_isAction_158 (by decide) (fun c_306 => ?_) (fun c_306 => ?_)
                · skip
                  refine lv_iconst (v := 0) hx hb d_OM_isAction_169 (by decide) ?_
                  obtain ⟨hP9, hD9, -⟩ := cut3 (wc := []) hP hD rfl hS hA [] (by decide +kernel) rfl
                  have hK9 := hK.sub (tys' := []) [] rfl
                  refine W.widen (k := 0) (n := 0) (by exact Nat.le_of_ble_eq_true rfl) (by exact Nat.le_of_ble_eq_true rfl) ?_
                  exact W.zret (v := 0) (ty := .boolean) hx hb hr (by decide) (fun t ht hW => ⟨⟨0, (), rfl, trivial, by rw [ht]; exact hP9, va_K.moved hW.alike hK9, hD9⟩, hS.F ht⟩) hS.2.2 d_OM_isAction_170
                · skip
                  exfalso
                  simp only [Int32.lt_iff_toInt_lt, Int32.le_iff_toInt_le, ← Int32.toInt_inj] at c_298 c_306
                  have k0 : (0 : Int32).toInt = 0 := by decide
                  omega
        · skip
          refine lv_iload_n hx hb d_OM_isAction_20 rfl (lv_at hl 3 rfl) ?_
          refine lv_iconst (v := 2) hx hb d_OM_isAction_21 (by decide) ?_
          refine lv_icmp_ge (tgt := 29) hx hb d_OM_isAction_22 (by decide) (fun c_307 => ?_) (fun c_307 => ?_)
          · skip
            refine lv_iconst (v := 0) hx hb d_OM_isAction_29 (by decide) ?_
            refine lv_istore (lv' := [(5, .int 0), (4, .int 1), (0, .int 4), (1, .int p1), (2, .int p2), (3, .int p3)]) hx hb d_OM_isAction_30 hl (by decide) rfl ?_
            clear hl ls
            intro ls hl
            refine lv_iload_n hx hb d_OM_isAction_32 rfl (lv_at hl 5 rfl) ?_
            refine lv_bipush (v := (-9)) hx hb d_OM_isAction_33 (by decide) ?_
            refine lv_icmp_lt (tgt := 48) hx hb d_OM_isAction_35 (by decide) (fun c_308 => ?_) (fun c_308 => ?_)
            · skip
              refine lv_iconst (v := 0) hx hb d_OM_isAction_48 (by decide) ?_
              refine lv_istore (lv' := [(6, .int 0), (5, .int 0), (4, .int 1), (0, .int 4), (1, .int p1), (2, .int p2), (3, .int p3)]) hx hb d_OM_isAction_49 hl (by decide) rfl ?_
              clear hl ls
              intro ls hl
              refine lv_iload_n hx hb d_OM_isAction_51 rfl (lv_at hl 3 rfl) ?_
              refine lv_tableIn (x := 4) (tgt := 153) hx hb d_OM_isAction_52 (by decide) (by decide) (by rfl) (by decide) ?_
              refine tp_pc (pc' := 153) (by rfl) ?_
              refine lv_iload_n hx hb d_OM_isAction_153 rfl (lv_at hl 4 rfl) ?_
              refine lv_if_ne (tgt := 169) hx hb d_OM_isAction_154 (by decide) (fun c_309 => ?_) (fun c_309 => ?_)
              · skip
                refine lv_iconst (v := 0) hx hb d_OM_isAction_169 (by decide) ?_
                obtain ⟨hP9, hD9, -⟩ := cut3 (wc := []) hP hD rfl hS hA [] (by decide +kernel) rfl
                have hK9 := hK.sub (tys' := []) [] rfl
                refine W.widen (k := 0) (n := 0) (by exact Nat.le_of_ble_eq_true rfl) (by exact Nat.le_of_ble_eq_true rfl) ?_
                exact W.zret (v := 0) (ty := .boolean) hx hb hr (by decide) (fun t ht hW => ⟨⟨0, (), rfl, trivial, by rw [ht]; exact hP9, va_K.moved hW.alike hK9, hD9⟩, hS.F ht⟩) hS.2.2 d_OM_isAction_170
              · skip
                refine lv_iload_n hx hb d_OM_isAction_157 rfl (lv_at hl 5 rfl) ?_
                refine lv_if_ne (tgt := 169) hx hb d_OM_isAction_158 (by decide) (fun c_310 => ?_) (fun c_310 => ?_)
                · skip
                  refine lv_iconst (v := 0) hx hb d_OM_isAction_169 (by decide) ?_
                  obtain ⟨hP9, hD9, -⟩ := cut3 (wc := []) hP hD rfl hS hA [] (by decide +kernel) rfl
                  have hK9 := hK.sub (tys' := []) [] rfl
                  refine W.widen (k := 0) (n := 0) (by exact Nat.le_of_ble_eq_true rfl) (by exact Nat.le_of_ble_eq_true rfl) ?_
                  exact W.zret (v := 0) (ty := .boolean) hx hb hr (by decide) (fun t ht hW => ⟨⟨0, (), rfl, trivial, by rw [ht]; exact hP9, va_K.moved hW.alike hK9, hD9⟩, hS.F ht⟩) hS.2.2 d_OM_isAction_170
                · skip
                  exfalso
                  simp only [Int32.lt_iff_toInt_lt, Int32.le_iff_toInt_le, ← Int32.toInt_inj] at c_298 c_307 c_310
                  have k0 : (0 : Int32).toInt = 0 := by decide
                  have k2 : (2 : Int32).toInt = 2 := by decide
                  omega
            · skip
              refine lv_iload_n hx hb d_OM_isAction_38 rfl (lv_at hl 5 rfl) ?_
              refine lv_bipush (v := 9) hx hb d_OM_isAction_39 (by decide) ?_
              refine lv_icmp_gt (tgt := 48) hx hb d_OM_isAction_41 (by decide) (fun c_311 => ?_) (fun c_311 => ?_)
              · skip
                refine lv_iconst (v := 0) hx hb d_OM_isAction_48 (by decide) ?_
                refine lv_istore (lv' := [(6, .int 0), (5, .int 0), (4, .int 1), (0, .int 4), (1, .int p1), (2, .int p2), (3, .int p3)]) hx hb d_OM_isAction_49 hl (by decide) rfl ?_
                clear hl ls
                intro ls hl
                refine lv_iload_n hx hb d_OM_isAction_51 rfl (lv_at hl 3 rfl) ?_
                refine lv_tableIn (x := 4) (tgt := 153) hx hb d_OM_isAction_52 (by decide) (by decide) (by rfl) (by decide) ?_
                refine tp_pc (pc' := 153) (by rfl) ?_
                refine lv_iload_n hx hb d_OM_isAction_153 rfl (lv_at hl 4 rfl) ?_
                refine lv_if_ne (tgt := 169) hx hb d_OM_isAction_154 (by decide) (fun c_312 => ?_) (fun c_312 => ?_)
                · skip
                  refine lv_iconst (v := 0) hx hb d_OM_isAction_169 (by decide) ?_
                  obtain ⟨hP9, hD9, -⟩ := cut3 (wc := []) hP hD rfl hS hA [] (by decide +kernel) rfl
                  have hK9 := hK.sub (tys' := []) [] rfl
                  refine W.widen (k := 0) (n := 0) (by exact Nat.le_of_ble_eq_true rfl) (by exact Nat.le_of_ble_eq_true rfl) ?_
                  exact W.zret (v := 0) (ty := .boolean) hx hb hr (by decide) (fun t ht hW => ⟨⟨0, (), rfl, trivial, by rw [ht]; exact hP9, va_K.moved hW.alike hK9, hD9⟩, hS.F ht⟩) hS.2.2 d_OM_isAction_170
                · skip
                  refine lv_iload_n hx hb d_OM_isAction_157 rfl (lv_at hl 5 rfl) ?_
                  refine lv_if_ne (tgt := 169) hx hb d_OM_isAction_158 (by decide) (fun c_313 => ?_) (fun c_313 => ?_)
                  · skip
                    refine lv_iconst (v := 0) hx hb d_OM_isAction_169 (by decide) ?_
                    obtain ⟨hP9, hD9, -⟩ := cut3 (wc := []) hP hD rfl hS hA [] (by decide +kernel) rfl
                    have hK9 := hK.sub (tys' := []) [] rfl
                    refine W.widen (k := 0) (n := 0) (by exact Nat.le_of_ble_eq_true rfl) (by exact Nat.le_of_ble_eq_true rfl) ?_
                    exact W.zret (v := 0) (ty := .boolean) hx hb hr (by decide) (fun t ht hW => ⟨⟨0, (), rfl, trivial, by rw [ht]; exact hP9, va_K.moved hW.alike hK9, hD9⟩, hS.F ht⟩) hS.2.2 d_OM_isAction_170
                  · skip
                    exfalso
                    simp only [Int32.lt_iff_toInt_lt, Int32.le_iff_toInt_le, ← Int32.toInt_inj] at c_298 c_307 c_313
                    have k0 : (0 : Int32).toInt = 0 := by decide
                    have k2 : (2 : Int32).toInt = 2 := by decide
                    omega
              · skip
                refine lv_iconst (v := 1) hx hb d_OM_isAction_44 (by decide) ?_
                refine lv_goto (tgt := 49) hx hb d_OM_isAction_45 (by decide) ?_
                refine tp_pc (pc' := 49) (by rfl) ?_
                refine lv_istore (lv' := [(6, .int 1), (5, .int 0), (4, .int 1), (0, .int 4), (1, .int p1), (2, .int p2), (3, .int p3)]) hx hb d_OM_isAction_49 hl (by decide) rfl ?_
                clear hl ls
                intro ls hl
                refine lv_iload_n hx hb d_OM_isAction_51 rfl (lv_at hl 3 rfl) ?_
                refine lv_tableIn (x := 4) (tgt := 153) hx hb d_OM_isAction_52 (by decide) (by decide) (by rfl) (by decide) ?_
                refine tp_pc (pc' := 153) (by rfl) ?_
                refine lv_iload_n hx hb d_OM_isAction_153 rfl (lv_at hl 4 rfl) ?_
                refine lv_if_ne (tgt := 169) hx hb d_OM_isAction_154 (by decide) (fun c_314 => ?_) (fun c_314 => ?_)
                · skip
                  refine lv_iconst (v := 0) hx hb d_OM_isAction_169 (by decide) ?_
                  obtain ⟨hP9, hD9, -⟩ := cut3 (wc := []) hP hD rfl hS hA [] (by decide +kernel) rfl
                  have hK9 := hK.sub (tys' := []) [] rfl
                  refine W.widen (k := 0) (n := 0) (by exact Nat.le_of_ble_eq_true rfl) (by exact Nat.le_of_ble_eq_true rfl) ?_
                  exact W.zret (v := 0) (ty := .boolean) hx hb hr (by decide) (fun t ht hW => ⟨⟨0, (), rfl, trivial, by rw [ht]; exact hP9, va_K.moved hW.alike hK9, hD9⟩, hS.F ht⟩) hS.2.2 d_OM_isAction_170
                · skip
                  refine lv_iload_n hx hb d_OM_isAction_157 rfl (lv_at hl 5 rfl) ?_
                  refine lv_if_ne (tgt := 169) hx hb d_OM_isAction_158 (by decide) (fun c_315 => ?_) (fun c_315 => ?_)
                  · skip
                    refine lv_iconst (v := 0) hx hb d_OM_isAction_169 (by decide) ?_
                    obtain ⟨hP9, hD9, -⟩ := cut3 (wc := []) hP hD rfl hS hA [] (by decide +kernel) rfl
                    have hK9 := hK.sub (tys' := []) [] rfl
                    refine W.widen (k := 0) (n := 0) (by exact Nat.le_of_ble_eq_true rfl) (by exact Nat.le_of_ble_eq_true rfl) ?_
                    exact W.zret (v := 0) (ty := .boolean) hx hb hr (by decide) (fun t ht hW => ⟨⟨0, (), rfl, trivial, by rw [ht]; exact hP9, va_K.moved hW.alike hK9, hD9⟩, hS.F ht⟩) hS.2.2 d_OM_isAction_170
                  · skip
                    exfalso
                    simp only [Int32.lt_iff_toInt_lt, Int32.le_iff_toInt_le, ← Int32.toInt_inj] at c_298 c_307 c_315
                    have k0 : (0 : Int32).toInt = 0 := by decide
                    have k2 : (2 : Int32).toInt = 2 := by decide
                    omega
          · skip
            refine lv_iconst (v := 1) hx hb d_OM_isAction_25 (by decide) ?_
            refine lv_goto (tgt := 30) hx hb d_OM_isAction_26 (by decide) ?_
            refine tp_pc (pc' := 30) (by rfl) ?_
            refine lv_istore (lv' := [(5, .int 1), (4, .int 1), (0, .int 4), (1, .int p1), (2, .int p2), (3, .int p3)]) hx hb d_OM_isAction_30 hl (by decide) rfl ?_
            clear hl ls
            intro ls hl
            refine lv_iload_n hx hb d_OM_isAction_32 rfl (lv_at hl 5 rfl) ?_
            refine lv_bipush (v := (-9)) hx hb d_OM_isAction_33 (by decide) ?_
            refine lv_icmp_lt (tgt := 48) hx hb d_OM_isAction_35 (by decide) (fun c_316 => ?_) (fun c_316 => ?_)
            · skip
              refine lv_iconst (v := 0) hx hb d_OM_isAction_48 (by decide) ?_
              refine lv_istore (lv' := [(6, .int 0), (5, .int 1), (4, .int 1), (0, .int 4), (1, .int p1), (2, .int p2), (3, .int p3)]) hx hb d_OM_isAction_49 hl (by decide) rfl ?_
              clear hl ls
              intro ls hl
              refine lv_iload_n hx hb d_OM_isAction_51 rfl (lv_at hl 3 rfl) ?_
              refine lv_tableIn (x := 4) (tgt := 153) hx hb d_OM_isAction_52 (by decide) (by decide) (by rfl) (by decide) ?_
              refine tp_pc (pc' := 153) (by rfl) ?_
              refine lv_iload_n hx hb d_OM_isAction_153 rfl (lv_at hl 4 rfl) ?_
              refine lv_if_ne (tgt := 169) hx hb d_OM_isAction_154 (by decide) (fun c_317 => ?_) (fun c_317 => ?_)
              · skip
                refine lv_iconst (v := 0) hx hb d_OM_isAction_169 (by decide) ?_
                obtain ⟨hP9, hD9, -⟩ := cut3 (wc := []) hP hD rfl hS hA [] (by decide +kernel) rfl
                have hK9 := hK.sub (tys' := []) [] rfl
                refine W.widen (k := 0) (n := 0) (by exact Nat.le_of_ble_eq_true rfl) (by exact Nat.le_of_ble_eq_true rfl) ?_
                exact W.zret (v := 0) (ty := .boolean) hx hb hr (by decide) (fun t ht hW => ⟨⟨0, (), rfl, trivial, by rw [ht]; exact hP9, va_K.moved hW.alike hK9, hD9⟩, hS.F ht⟩) hS.2.2 d_OM_isAction_170
              · skip
                refine lv_iload_n hx hb d_OM_isAction_157 rfl (lv_at hl 5 rfl) ?_
                refine lv_if_ne (tgt := 169) hx hb d_OM_isAction_158 (by decide) (fun c_318 => ?_) (fun c_318 => ?_)
                · skip
                  refine lv_iconst (v := 0) hx hb d_OM_isAction_169 (by decide) ?_
                  obtain ⟨hP9, hD9, -⟩ := cut3 (wc := []) hP hD rfl hS hA [] (by decide +kernel) rfl
                  have hK9 := hK.sub (tys' := []) [] rfl
                  refine W.widen (k := 0) (n := 0) (by exact Nat.le_of_ble_eq_true rfl) (by exact Nat.le_of_ble_eq_true rfl) ?_
                  exact W.zret (v := 0) (ty := .boolean) hx hb hr (by decide) (fun t ht hW => ⟨⟨0, (), rfl, trivial, by rw [ht]; exact hP9, va_K.moved hW.alike hK9, hD9⟩, hS.F ht⟩) hS.2.2 d_OM_isAction_170
                · skip
                  refine lv_iload_n hx hb d_OM_isAction_161 rfl (lv_at hl 6 rfl) ?_
                  refine lv_if_ne (tgt := 169) hx hb d_OM_isAction_162 (by decide) (fun c_319 => ?_) (fun c_319 => ?_)
                  · skip
                    refine lv_iconst (v := 0) hx hb d_OM_isAction_169 (by decide) ?_
                    obtain ⟨hP9, hD9, -⟩ := cut3 (wc := []) hP hD rfl hS hA [] (by decide +kernel) rfl
                    have hK9 := hK.sub (tys' := []) [] rfl
                    refine W.widen (k := 0) (n := 0) (by exact Nat.le_of_ble_eq_true rfl) (by exact Nat.le_of_ble_eq_true rfl) ?_
                    exact W.zret (v := 0) (ty := .boolean) hx hb hr (by decide) (fun t ht hW => ⟨⟨0, (), rfl, trivial, by rw [ht]; exact hP9, va_K.moved hW.alike hK9, hD9⟩, hS.F ht⟩) hS.2.2 d_OM_isAction_170
                  · skip
                    exfalso
                    simp only [Int32.lt_iff_toInt_lt, Int32.le_iff_toInt_le, ← Int32.toInt_inj] at c_316 c_319
                    have k9 : ((-9) : Int32).toInt = -9 := by decide
                    have k0 : (0 : Int32).toInt = 0 := by decide
                    omega
            · skip
              refine lv_iload_n hx hb d_OM_isAction_38 rfl (lv_at hl 5 rfl) ?_
              refine lv_bipush (v := 9) hx hb d_OM_isAction_39 (by decide) ?_
              refine lv_icmp_gt (tgt := 48) hx hb d_OM_isAction_41 (by decide) (fun c_320 => ?_) (fun c_320 => ?_)
              · skip
                refine lv_iconst (v := 0) hx hb d_OM_isAction_48 (by decide) ?_
                refine lv_istore (lv' := [(6, .int 0), (5, .int 1), (4, .int 1), (0, .int 4), (1, .int p1), (2, .int p2), (3, .int p3)]) hx hb d_OM_isAction_49 hl (by decide) rfl ?_
                clear hl ls
                intro ls hl
                refine lv_iload_n hx hb d_OM_isAction_51 rfl (lv_at hl 3 rfl) ?_
                refine lv_tableIn (x := 4) (tgt := 153) hx hb d_OM_isAction_52 (by decide) (by decide) (by rfl) (by decide) ?_
                refine tp_pc (pc' := 153) (by rfl) ?_
                refine lv_iload_n hx hb d_OM_isAction_153 rfl (lv_at hl 4 rfl) ?_
                refine lv_if_ne (tgt := 169) hx hb d_OM_isAction_154 (by decide) (fun c_321 => ?_) (fun c_321 => ?_)
                · skip
                  refine lv_iconst (v := 0) hx hb d_OM_isAction_169 (by decide) ?_
                  obtain ⟨hP9, hD9, -⟩ := cut3 (wc := []) hP hD rfl hS hA [] (by decide +kernel) rfl
                  have hK9 := hK.sub (tys' := []) [] rfl
                  refine W.widen (k := 0) (n := 0) (by exact Nat.le_of_ble_eq_true rfl) (by exact Nat.le_of_ble_eq_true rfl) ?_
                  exact W.zret (v := 0) (ty := .boolean) hx hb hr (by decide) (fun t ht hW => ⟨⟨0, (), rfl, trivial, by rw [ht]; exact hP9, va_K.moved hW.alike hK9, hD9⟩, hS.F ht⟩) hS.2.2 d_OM_isAction_170
                · skip
                  refine lv_iload_n hx hb d_OM_isAction_157 rfl (lv_at hl 5 rfl) ?_
                  refine lv_if_ne (tgt := 169) hx hb d_OM_isAction_158 (by decide) (fun c_322 => ?_) (fun c_322 => ?_)
                  · skip
                    refine lv_iconst (v := 0) hx hb d_OM_isAction_169 (by decide) ?_
                    obtain ⟨hP9, hD9, -⟩ := cut3 (wc := []) hP hD rfl hS hA [] (by decide +kernel) rfl
                    have hK9 := hK.sub (tys' := []) [] rfl
                    refine W.widen (k := 0) (n := 0) (by exact Nat.le_of_ble_eq_true rfl) (by exact Nat.le_of_ble_eq_true rfl) ?_
                    exact W.zret (v := 0) (ty := .boolean) hx hb hr (by decide) (fun t ht hW => ⟨⟨0, (), rfl, trivial, by rw [ht]; exact hP9, va_K.moved hW.alike hK9, hD9⟩, hS.F ht⟩) hS.2.2 d_OM_isAction_170
                  · skip
                    refine lv_iload_n hx hb d_OM_isAction_161 rfl (lv_at hl 6 rfl) ?_
                    refine lv_if_ne (tgt := 169) hx hb d_OM_isAction_162 (by decide) (fun c_323 => ?_) (fun c_323 => ?_)
                    · skip
                      refine lv_iconst (v := 0) hx hb d_OM_isAction_169 (by decide) ?_
                      obtain ⟨hP9, hD9, -⟩ := cut3 (wc := []) hP hD rfl hS hA [] (by decide +kernel) rfl
                      have hK9 := hK.sub (tys' := []) [] rfl
                      refine W.widen (k := 0) (n := 0) (by exact Nat.le_of_ble_eq_true rfl) (by exact Nat.le_of_ble_eq_true rfl) ?_
                      exact W.zret (v := 0) (ty := .boolean) hx hb hr (by decide) (fun t ht hW => ⟨⟨0, (), rfl, trivial, by rw [ht]; exact hP9, va_K.moved hW.alike hK9, hD9⟩, hS.F ht⟩) hS.2.2 d_OM_isAction_170
                    · skip
                      exfalso
                      simp only [Int32.lt_iff_toInt_lt, Int32.le_iff_toInt_le, ← Int32.toInt_inj] at c_316 c_320 c_323
                      have k9 : ((-9) : Int32).toInt = -9 := by decide
                      have k0 : (0 : Int32).toInt = 0 := by decide
                      have k9 : (9 : Int32).toInt = 9 := by decide
                      omega
              · skip
                refine lv_iconst (v := 1) hx hb d_OM_isAction_44 (by decide) ?_
                refine lv_goto (tgt := 49) hx hb d_OM_isAction_45 (by decide) ?_
                refine tp_pc (pc' := 49) (by rfl) ?_
                refine lv_istore (lv' := [(6, .int 1), (5, .int 1), (4, .int 1), (0, .int 4), (1, .int p1), (2, .int p2), (3, .int p3)]) hx hb d_OM_isAction_49 hl (by decide) rfl ?_
                clear hl ls
                intro ls hl
                refine lv_iload_n hx hb d_OM_isAction_51 rfl (lv_at hl 3 rfl) ?_
                refine lv_tableIn (x := 4) (tgt := 153) hx hb d_OM_isAction_52 (by decide) (by decide) (by rfl) (by decide) ?_
                refine tp_pc (pc' := 153) (by rfl) ?_
                refine lv_iload_n hx hb d_OM_isAction_153 rfl (lv_at hl 4 rfl) ?_
                refine lv_if_ne (tgt := 169) hx hb d_OM_isAction_154 (by decide) (fun c_324 => ?_) (fun c_324 => ?_)
                · skip
                  refine lv_iconst (v := 0) hx hb d_OM_isAction_169 (by decide) ?_
                  obtain ⟨hP9, hD9, -⟩ := cut3 (wc := []) hP hD rfl hS hA [] (by decide +kernel) rfl
                  have hK9 := hK.sub (tys' := []) [] rfl
                  refine W.widen (k := 0) (n := 0) (by exact Nat.le_of_ble_eq_true rfl) (by exact Nat.le_of_ble_eq_true rfl) ?_
                  exact W.zret (v := 0) (ty := .boolean) hx hb hr (by decide) (fun t ht hW => ⟨⟨0, (), rfl, trivial, by rw [ht]; exact hP9, va_K.moved hW.alike hK9, hD9⟩, hS.F ht⟩) hS.2.2 d_OM_isAction_170
                · skip
                  refine lv_iload_n hx hb d_OM_isAction_157 rfl (lv_at hl 5 rfl) ?_
                  refine lv_if_ne (tgt := 169) hx hb d_OM_isAction_158 (by decide) (fun c_325 => ?_) (fun c_325 => ?_)
                  · skip
                    refine lv_iconst (v := 0) hx hb d_OM_isAction_169 (by decide) ?_
                    obtain ⟨hP9, hD9, -⟩ := cut3 (wc := []) hP hD rfl hS hA [] (by decide +kernel) rfl
                    have hK9 := hK.sub (tys' := []) [] rfl
                    refine W.widen (k := 0) (n := 0) (by exact Nat.le_of_ble_eq_true rfl) (by exact Nat.le_of_ble_eq_true rfl) ?_
                    exact W.zret (v := 0) (ty := .boolean) hx hb hr (by decide) (fun t ht hW => ⟨⟨0, (), rfl, trivial, by rw [ht]; exact hP9, va_K.moved hW.alike hK9, hD9⟩, hS.F ht⟩) hS.2.2 d_OM_isAction_170
                  · skip
                    refine lv_iload_n hx hb d_OM_isAction_161 rfl (lv_at hl 6 rfl) ?_
                    refine lv_if_ne (tgt := 169) hx hb d_OM_isAction_162 (by decide) (fun c_326 => ?_) (fun c_326 => ?_)
                    · skip
                      refine lv_iconst (v := 0) hx hb d_OM_isAction_169 (by decide) ?_
                      obtain ⟨hP9, hD9, -⟩ := cut3 (wc := []) hP hD rfl hS hA [] (by decide +kernel) rfl
                      have hK9 := hK.sub (tys' := []) [] rfl
                      refine W.widen (k := 0) (n := 0) (by exact Nat.le_of_ble_eq_true rfl) (by exact Nat.le_of_ble_eq_true rfl) ?_
                      exact W.zret (v := 0) (ty := .boolean) hx hb hr (by decide) (fun t ht hW => ⟨⟨0, (), rfl, trivial, by rw [ht]; exact hP9, va_K.moved hW.alike hK9, hD9⟩, hS.F ht⟩) hS.2.2 d_OM_isAction_170
                    · skip
                      refine lv_iconst (v := 1) hx hb d_OM_isAction_165 (by decide) ?_
                      refine lv_goto (tgt := 170) hx hb d_OM_isAction_166 (by decide) ?_
                      refine tp_pc (pc' := 170) (by rfl) ?_
                      obtain ⟨hP9, hD9, -⟩ := cut3 (wc := []) hP hD rfl hS hA [] (by decide +kernel) rfl
                      have hK9 := hK.sub (tys' := []) [] rfl
                      refine W.widen (k := 0) (n := 0) (by exact Nat.le_of_ble_eq_true rfl) (by exact Nat.le_of_ble_eq_true rfl) ?_
                      exact W.zret (v := 1) (ty := .boolean) hx hb hr (by decide) (fun t ht hW => ⟨⟨1, (), rfl, trivial, by rw [ht]; exact hP9, va_K.moved hW.alike hK9, hD9⟩, hS.F ht⟩) hS.2.2 d_OM_isAction_170
  · skip
    refine lv_iload_n hx hb d_OM_isAction_0 rfl (lv_at hl 1 rfl) ?_
    refine lv_if_lt (tgt := 13) hx hb d_OM_isAction_1 (by decide) (fun c_327 => ?_) (fun c_327 => ?_)
    · skip
      refine lv_iconst (v := 0) hx hb d_OM_isAction_13 (by decide) ?_
      refine lv_istore (lv' := [(4, .int 0), (0, .int 5), (1, .int p1), (2, .int p2), (3, .int p3)]) hx hb d_OM_isAction_14 hl (by decide) rfl ?_
      clear hl ls
      intro ls hl
      refine lv_iload_n hx hb d_OM_isAction_16 rfl (lv_at hl 3 rfl) ?_
      refine lv_if_lt (tgt := 29) hx hb d_OM_isAction_17 (by decide) (fun c_328 => ?_) (fun c_328 => ?_)
      · skip
        refine lv_iconst (v := 0) hx hb d_OM_isAction_29 (by decide) ?_
        refine lv_istore (lv' := [(5, .int 0), (4, .int 0), (0, .int 5), (1, .int p1), (2, .int p2), (3, .int p3)]) hx hb d_OM_isAction_30 hl (by decide) rfl ?_
        clear hl ls
        intro ls hl
        refine lv_iload_n hx hb d_OM_isAction_32 rfl (lv_at hl 5 rfl) ?_
        refine lv_bipush (v := (-9)) hx hb d_OM_isAction_33 (by decide) ?_
        refine lv_icmp_lt (tgt := 48) hx hb d_OM_isAction_35 (by decide) (fun c_329 => ?_) (fun c_329 => ?_)
        · skip
          refine lv_iconst (v := 0) hx hb d_OM_isAction_48 (by decide) ?_
          refine lv_istore (lv' := [(6, .int 0), (5, .int 0), (4, .int 0), (0, .int 5), (1, .int p1), (2, .int p2), (3, .int p3)]) hx hb d_OM_isAction_49 hl (by decide) rfl ?_
          clear hl ls
          intro ls hl
          refine lv_iload_n hx hb d_OM_isAction_51 rfl (lv_at hl 3 rfl) ?_
          refine lv_tableIn (x := 5) (tgt := 171) hx hb d_OM_isAction_52 (by decide) (by decide) (by rfl) (by decide) ?_
          refine tp_pc (pc' := 171) (by rfl) ?_
          refine lv_iload_n hx hb d_OM_isAction_171 rfl (lv_at hl 4 rfl) ?_
          refine lv_iconst (v := 1) hx hb d_OM_isAction_172 (by decide) ?_
          refine lv_icmp_lt (tgt := 195) hx hb d_OM_isAction_173 (by decide) (fun c_330 => ?_) (fun c_330 => ?_)
          · skip
            refine lv_iconst (v := 0) hx hb d_OM_isAction_195 (by decide) ?_
            obtain ⟨hP9, hD9, -⟩ := cut3 (wc := []) hP hD rfl hS hA [] (by decide +kernel) rfl
            have hK9 := hK.sub (tys' := []) [] rfl
            refine W.widen (k := 0) (n := 0) (by exact Nat.le_of_ble_eq_true rfl) (by exact Nat.le_of_ble_eq_true rfl) ?_
            exact W.zret (v := 0) (ty := .boolean) hx hb hr (by decide) (fun t ht hW => ⟨⟨0, (), rfl, trivial, by rw [ht]; exact hP9, va_K.moved hW.alike hK9, hD9⟩, hS.F ht⟩) hS.2.2 d_OM_isAction_196
          · skip
            exfalso
            simp only [Int32.lt_iff_toInt_lt, Int32.le_iff_toInt_le, ← Int32.toInt_inj] at c_327 c_330
            have k0 : (0 : Int32).toInt = 0 := by decide
            have k1 : (1 : Int32).toInt = 1 := by decide
            omega
        · skip
          refine lv_iload_n hx hb d_OM_isAction_38 rfl (lv_at hl 5 rfl) ?_
          refine lv_bipush (v := 9) hx hb d_OM_isAction_39 (by decide) ?_
          refine lv_icmp_gt (tgt := 48) hx hb d_OM_isAction_41 (by decide) (fun c_331 => ?_) (fun c_331 => ?_)
          · skip
            refine lv_iconst (v := 0) hx hb d_OM_isAction_48 (by decide) ?_
            refine lv_istore (lv' := [(6, .int 0), (5, .int 0), (4, .int 0), (0, .int 5), (1, .int p1), (2, .int p2), (3, .int p3)]) hx hb d_OM_isAction_49 hl (by decide) rfl ?_
            clear hl ls
            intro ls hl
            refine lv_iload_n hx hb d_OM_isAction_51 rfl (lv_at hl 3 rfl) ?_
            refine lv_tableIn (x := 5) (tgt := 171) hx hb d_OM_isAction_52 (by decide) (by decide) (by rfl) (by decide) ?_
            refine tp_pc (pc' := 171) (by rfl) ?_
            refine lv_iload_n hx hb d_OM_isAction_171 rfl (lv_at hl 4 rfl) ?_
            refine lv_iconst (v := 1) hx hb d_OM_isAction_172 (by decide) ?_
            refine lv_icmp_lt (tgt := 195) hx hb d_OM_isAction_173 (by decide) (fun c_332 => ?_) (fun c_332 => ?_)
            · skip
              refine lv_iconst (v := 0) hx hb d_OM_isAction_195 (by decide) ?_
              obtain ⟨hP9, hD9, -⟩ := cut3 (wc := []) hP hD rfl hS hA [] (by decide +kernel) rfl
              have hK9 := hK.sub (tys' := []) [] rfl
              refine W.widen (k := 0) (n := 0) (by exact Nat.le_of_ble_eq_true rfl) (by exact Nat.le_of_ble_eq_true rfl) ?_
              exact W.zret (v := 0) (ty := .boolean) hx hb hr (by decide) (fun t ht hW => ⟨⟨0, (), rfl, trivial, by rw [ht]; exact hP9, va_K.moved hW.alike hK9, hD9⟩, hS.F ht⟩) hS.2.2 d_OM_isAction_196
            · skip
              exfalso
              simp only [Int32.lt_iff_toInt_lt, Int32.le_iff_toInt_le, ← Int32.toInt_inj] at c_327 c_332
              have k0 : (0 : Int32).toInt = 0 := by decide
              have k1 : (1 : Int32).toInt = 1 := by decide
              omega
          · skip
            refine lv_iconst (v := 1) hx hb d_OM_isAction_44 (by decide) ?_
            refine lv_goto (tgt := 49) hx hb d_OM_isAction_45 (by decide) ?_
            refine tp_pc (pc' := 49) (by rfl) ?_
            refine lv_istore (lv' := [(6, .int 1), (5, .int 0), (4, .int 0), (0, .int 5), (1, .int p1), (2, .int p2), (3, .int p3)]) hx hb d_OM_isAction_49 hl (by decide) rfl ?_
            clear hl ls
            intro ls hl
            refine lv_iload_n hx hb d_OM_isAction_51 rfl (lv_at hl 3 rfl) ?_
            refine lv_tableIn (x := 5) (tgt := 171) hx hb d_OM_isAction_52 (by decide) (by decide) (by rfl) (by decide) ?_
            refine tp_pc (pc' := 171) (by rfl) ?_
            refine lv_iload_n hx hb d_OM_isAction_171 rfl (lv_at hl 4 rfl) ?_
            refine lv_iconst (v := 1) hx hb d_OM_isAction_172 (by decide) ?_
            refine lv_icmp_lt (tgt := 195) hx hb d_OM_isAction_173 (by decide) (fun c_333 => ?_) (fun c_333 => ?_)
            · skip
              refine lv_iconst (v := 0) hx hb d_OM_isAction_195 (by decide) ?_
              obtain ⟨hP9, hD9, -⟩ := cut3 (wc := []) hP hD rfl hS hA [] (by decide +kernel) rfl
              have hK9 := hK.sub (tys' := []) [] rfl
              refine W.widen (k := 0) (n := 0) (by exact Nat.le_of_ble_eq_true rfl) (by exact Nat.le_of_ble_eq_true rfl) ?_
              exact W.zret (v := 0) (ty := .boolean) hx hb hr (by decide) (fun t ht hW => ⟨⟨0, (), rfl, trivial, by rw [ht]; exact hP9, va_K.moved hW.alike hK9, hD9⟩, hS.F ht⟩) hS.2.2 d_OM_isAction_196
            · skip
              exfalso
              simp only [Int32.lt_iff_toInt_lt, Int32.le_iff_toInt_le, ← Int32.toInt_inj] at c_327 c_333
              have k0 : (0 : Int32).toInt = 0 := by decide
              have k1 : (1 : Int32).toInt = 1 := by decide
              omega
      · skip
        refine lv_iload_n hx hb d_OM_isAction_20 rfl (lv_at hl 3 rfl) ?_
        refine lv_iconst (v := 2) hx hb d_OM_isAction_21 (by decide) ?_
        refine lv_icmp_ge (tgt := 29) hx hb d_OM_isAction_22 (by decide) (fun c_334 => ?_) (fun c_334 => ?_)
        · skip
          refine lv_iconst (v := 0) hx hb d_OM_isAction_29 (by decide) ?_
          refine lv_istore (lv' := [(5, .int 0), (4, .int 0), (0, .int 5), (1, .int p1), (2, .int p2), (3, .int p3)]) hx hb d_OM_isAction_30 hl (by decide) rfl ?_
          clear hl ls
          intro ls hl
          refine lv_iload_n hx hb d_OM_isAction_32 rfl (lv_at hl 5 rfl) ?_
          refine lv_bipush (v := (-9)) hx hb d_OM_isAction_33 (by decide) ?_
          refine lv_icmp_lt (tgt := 48) hx hb d_OM_isAction_35 (by decide) (fun c_335 => ?_) (fun c_335 => ?_)
          · skip
            refine lv_iconst (v := 0) hx hb d_OM_isAction_48 (by decide) ?_
            refine lv_istore (lv' := [(6, .int 0), (5, .int 0), (4, .int 0), (0, .int 5), (1, .int p1), (2, .int p2), (3, .int p3)]) hx hb d_OM_isAction_49 hl (by decide) rfl ?_
            clear hl ls
            intro ls hl
            refine lv_iload_n hx hb d_OM_isAction_51 rfl (lv_at hl 3 rfl) ?_
            refine lv_tableIn (x := 5) (tgt := 171) hx hb d_OM_isAction_52 (by decide) (by decide) (by rfl) (by decide) ?_
            refine tp_pc (pc' := 171) (by rfl) ?_
            refine lv_iload_n hx hb d_OM_isAction_171 rfl (lv_at hl 4 rfl) ?_
            refine lv_iconst (v := 1) hx hb d_OM_isAction_172 (by decide) ?_
            refine lv_icmp_lt (tgt := 195) hx hb d_OM_isAction_173 (by decide) (fun c_336 => ?_) (fun c_336 => ?_)
            · skip
              refine lv_iconst (v := 0) hx hb d_OM_isAction_195 (by decide) ?_
              obtain ⟨hP9, hD9, -⟩ := cut3 (wc := []) hP hD rfl hS hA [] (by decide +kernel) rfl
              have hK9 := hK.sub (tys' := []) [] rfl
              refine W.widen (k := 0) (n := 0) (by exact Nat.le_of_ble_eq_true rfl) (by exact Nat.le_of_ble_eq_true rfl) ?_
              exact W.zret (v := 0) (ty := .boolean) hx hb hr (by decide) (fun t ht hW => ⟨⟨0, (), rfl, trivial, by rw [ht]; exact hP9, va_K.moved hW.alike hK9, hD9⟩, hS.F ht⟩) hS.2.2 d_OM_isAction_196
            · skip
              exfalso
              simp only [Int32.lt_iff_toInt_lt, Int32.le_iff_toInt_le, ← Int32.toInt_inj] at c_327 c_336
              have k0 : (0 : Int32).toInt = 0 := by decide
              have k1 : (1 : Int32).toInt = 1 := by decide
              omega
          · skip
            refine lv_iload_n hx hb d_OM_isAction_38 rfl (lv_at hl 5 rfl) ?_
            refine lv_bipush (v := 9) hx hb d_OM_isAction_39 (by decide) ?_
            refine lv_icmp_gt (tgt := 48) hx hb d_OM_isAction_41 (by decide) (fun c_337 => ?_) (fun c_337 => ?_)
            · skip
              refine lv_iconst (v := 0) hx hb d_OM_isAction_48 (by decide) ?_
              refine lv_istore (lv' := [(6, .int 0), (5, .int 0), (4, .int 0), (0, .int 5), (1, .int p1), (2, .int p2), (3, .int p3)]) hx hb d_OM_isAction_49 hl (by decide) rfl ?_
              clear hl ls
              intro ls hl
              refine lv_iload_n hx hb d_OM_isAction_51 rfl (lv_at hl 3 rfl) ?_
              refine lv_tableIn (x := 5) (tgt := 171) hx hb d_OM_isAction_52 (by decide) (by decide) (by rfl) (by decide) ?_
              refine tp_pc (pc' := 171) (by rfl) ?_
              refine lv_iload_n hx hb d_OM_isAction_171 rfl (lv_at hl 4 rfl) ?_
              refine lv_iconst (v := 1) hx hb d_OM_isAction_172 (by decide) ?_
              refine lv_icmp_lt (tgt := 195) hx hb d_OM_isAction_173 (by decide) (fun c_338 => ?_) (fun c_338 => ?_)
              · skip
                refine lv_iconst (v := 0) hx hb d_OM_isAction_195 (by decide) ?_
                obtain ⟨hP9, hD9, -⟩ := cut3 (wc := []) hP hD rfl hS hA [] (by decide +kernel) rfl
                have hK9 := hK.sub (tys' := []) [] rfl
                refine W.widen (k := 0) (n := 0) (by exact Nat.le_of_ble_eq_true rfl) (by exact Nat.le_of_ble_eq_true rfl) ?_
                exact W.zret (v := 0) (ty := .boolean) hx hb hr (by decide) (fun t ht hW => ⟨⟨0, (), rfl, trivial, by rw [ht]; exact hP9, va_K.moved hW.alike hK9, hD9⟩, hS.F ht⟩) hS.2.2 d_OM_isAction_196
              · skip
                exfalso
                simp only [Int32.lt_iff_toInt_lt, Int32.le_iff_toInt_le, ← Int32.toInt_inj] at c_327 c_338
                have k0 : (0 : Int32).toInt = 0 := by decide
                have k1 : (1 : Int32).toInt = 1 := by decide
                omega
            · skip
              refine lv_iconst (v := 1) hx hb d_OM_isAction_44 (by decide) ?_
              refine lv_goto (tgt := 49) hx hb d_OM_isAction_45 (by decide) ?_
              refine tp_pc (pc' := 49) (by rfl) ?_
              refine lv_istore (lv' := [(6, .int 1), (5, .int 0), (4, .int 0), (0, .int 5), (1, .int p1), (2, .int p2), (3, .int p3)]) hx hb d_OM_isAction_49 hl (by decide) rfl ?_
              clear hl ls
              intro ls hl
              refine lv_iload_n hx hb d_OM_isAction_51 rfl (lv_at hl 3 rfl) ?_
              refine lv_tableIn (x := 5) (tgt := 171) hx hb d_OM_isAction_52 (by decide) (by decide) (by rfl) (by decide) ?_
              refine tp_pc (pc' := 171) (by rfl) ?_
              refine lv_iload_n hx hb d_OM_isAction_171 rfl (lv_at hl 4 rfl) ?_
              refine lv_iconst (v := 1) hx hb d_OM_isAction_172 (by decide) ?_
              refine lv_icmp_lt (tgt := 195) hx hb d_OM_isAction_173 (by decide) (fun c_339 => ?_) (fun c_339 => ?_)
              · skip
                refine lv_iconst (v := 0) hx hb d_OM_isAction_195 (by decide) ?_
                obtain ⟨hP9, hD9, -⟩ := cut3 (wc := []) hP hD rfl hS hA [] (by decide +kernel) rfl
                have hK9 := hK.sub (tys' := []) [] rfl
                refine W.widen (k := 0) (n := 0) (by exact Nat.le_of_ble_eq_true rfl) (by exact Nat.le_of_ble_eq_true rfl) ?_
                exact W.zret (v := 0) (ty := .boolean) hx hb hr (by decide) (fun t ht hW => ⟨⟨0, (), rfl, trivial, by rw [ht]; exact hP9, va_K.moved hW.alike hK9, hD9⟩, hS.F ht⟩) hS.2.2 d_OM_isAction_196
              · skip
                exfalso
                simp only [Int32.lt_iff_toInt_lt, Int32.le_iff_toInt_le, ← Int32.toInt_inj] at c_327 c_339
                have k0 : (0 : Int32).toInt = 0 := by decide
                have k1 : (1 : Int32).toInt = 1 := by decide
                omega
        · skip
          refine lv_iconst (v := 1) hx hb d_OM_isAction_25 (by decide) ?_
          refine lv_goto (tgt := 30) hx hb d_OM_isAction_26 (by decide) ?_
          refine tp_pc (pc' := 30) (by rfl) ?_
          refine lv_istore (lv' := [(5, .int 1), (4, .int 0), (0, .int 5), (1, .int p1), (2, .int p2), (3, .int p3)]) hx hb d_OM_isAction_30 hl (by decide) rfl ?_
          clear hl ls
          intro ls hl
          refine lv_iload_n hx hb d_OM_isAction_32 rfl (lv_at hl 5 rfl) ?_
          refine lv_bipush (v := (-9)) hx hb d_OM_isAction_33 (by decide) ?_
          refine lv_icmp_lt (tgt := 48) hx hb d_OM_isAction_35 (by decide) (fun c_340 => ?_) (fun c_340 => ?_)
          · skip
            refine lv_iconst (v := 0) hx hb d_OM_isAction_48 (by decide) ?_
            refine lv_istore (lv' := [(6, .int 0), (5, .int 1), (4, .int 0), (0, .int 5), (1, .int p1), (2, .int p2), (3, .int p3)]) hx hb d_OM_isAction_49 hl (by decide) rfl ?_
            clear hl ls
            intro ls hl
            refine lv_iload_n hx hb d_OM_isAction_51 rfl (lv_at hl 3 rfl) ?_
            refine lv_tableIn (x := 5) (tgt := 171) hx hb d_OM_isAction_52 (by decide) (by decide) (by rfl) (by decide) ?_
            refine tp_pc (pc' := 171) (by rfl) ?_
            refine lv_iload_n hx hb d_OM_isAction_171 rfl (lv_at hl 4 rfl) ?_
            refine lv_iconst (v := 1) hx hb d_OM_isAction_172 (by decide) ?_
            refine lv_icmp_lt (tgt := 195) hx hb d_OM_isAction_173 (by decide) (fun c_341 => ?_) (fun c_341 => ?_)
            · skip
              refine lv_iconst (v := 0) hx hb d_OM_isAction_195 (by decide) ?_
              obtain ⟨hP9, hD9, -⟩ := cut3 (wc := []) hP hD rfl hS hA [] (by decide +kernel) rfl
              have hK9 := hK.sub (tys' := []) [] rfl
              refine W.widen (k := 0) (n := 0) (by exact Nat.le_of_ble_eq_true rfl) (by exact Nat.le_of_ble_eq_true rfl) ?_
              exact W.zret (v := 0) (ty := .boolean) hx hb hr (by decide) (fun t ht hW => ⟨⟨0, (), rfl, trivial, by rw [ht]; exact hP9, va_K.moved hW.alike hK9, hD9⟩, hS.F ht⟩) hS.2.2 d_OM_isAction_196
            · skip
              exfalso
              simp only [Int32.lt_iff_toInt_lt, Int32.le_iff_toInt_le, ← Int32.toInt_inj] at c_327 c_341
              have k0 : (0 : Int32).toInt = 0 := by decide
              have k1 : (1 : Int32).toInt = 1 := by decide
              omega
          · skip
            refine lv_iload_n hx hb d_OM_isAction_38 rfl (lv_at hl 5 rfl) ?_
            refine lv_bipush (v := 9) hx hb d_OM_isAction_39 (by decide) ?_
            refine lv_icmp_gt (tgt := 48) hx hb d_OM_isAction_41 (by decide) (fun c_342 => ?_) (fun c_342 => ?_)
            · skip
              refine lv_iconst (v := 0) hx hb d_OM_isAction_48 (by decide) ?_
              refine lv_istore (lv' := [(6, .int 0), (5, .int 1), (4, .int 0), (0, .int 5), (1, .int p1), (2, .int p2), (3, .int p3)]) hx hb d_OM_isAction_49 hl (by decide) rfl ?_
              clear hl ls
              intro ls hl
              refine lv_iload_n hx hb d_OM_isAction_51 rfl (lv_at hl 3 rfl) ?_
              refine lv_tableIn (x := 5) (tgt := 171) hx hb d_OM_isAction_52 (by decide) (by decide) (by rfl) (by decide) ?_
              refine tp_pc (pc' := 171) (by rfl) ?_
              refine lv_iload_n hx hb d_OM_isAction_171 rfl (lv_at hl 4 rfl) ?_
              refine lv_iconst (v := 1) hx hb d_OM_isAction_172 (by decide) ?_
              refine lv_icmp_lt (tgt := 195) hx hb d_OM_isAction_173 (by decide) (fun c_343 => ?_) (fun c_343 => ?_)
              · skip
                refine lv_iconst (v := 0) hx hb d_OM_isAction_195 (by decide) ?_
                obtain ⟨hP9, hD9, -⟩ := cut3 (wc := []) hP hD rfl hS hA [] (by decide +kernel) rfl
                have hK9 := hK.sub (tys' := []) [] rfl
                refine W.widen (k := 0) (n := 0) (by exact Nat.le_of_ble_eq_true rfl) (by exact Nat.le_of_ble_eq_true rfl) ?_
                exact W.zret (v := 0) (ty := .boolean) hx hb hr (by decide) (fun t ht hW => ⟨⟨0, (), rfl, trivial, by rw [ht]; exact hP9, va_K.moved hW.alike hK9, hD9⟩, hS.F ht⟩) hS.2.2 d_OM_isAction_196
              · skip
                exfalso
                simp only [Int32.lt_iff_toInt_lt, Int32.le_iff_toInt_le, ← Int32.toInt_inj] at c_327 c_343
                have k0 : (0 : Int32).toInt = 0 := by decide
                have k1 : (1 : Int32).toInt = 1 := by decide
                omega
            · skip
              refine lv_iconst (v := 1) hx hb d_OM_isAction_44 (by decide) ?_
              refine lv_goto (tgt := 49) hx hb d_OM_isAction_45 (by decide) ?_
              refine tp_pc (pc' := 49) (by rfl) ?_
              refine lv_istore (lv' := [(6, .int 1), (5, .int 1), (4, .int 0), (0, .int 5), (1, .int p1), (2, .int p2), (3, .int p3)]) hx hb d_OM_isAction_49 hl (by decide) rfl ?_
              clear hl ls
              intro ls hl
              refine lv_iload_n hx hb d_OM_isAction_51 rfl (lv_at hl 3 rfl) ?_
              refine lv_tableIn (x := 5) (tgt := 171) hx hb d_OM_isAction_52 (by decide) (by decide) (by rfl) (by decide) ?_
              refine tp_pc (pc' := 171) (by rfl) ?_
              refine lv_iload_n hx hb d_OM_isAction_171 rfl (lv_at hl 4 rfl) ?_
              refine lv_iconst (v := 1) hx hb d_OM_isAction_172 (by decide) ?_
              refine lv_icmp_lt (tgt := 195) hx hb d_OM_isAction_173 (by decide) (fun c_344 => ?_) (fun c_344 => ?_)
              · skip
                refine lv_iconst (v := 0) hx hb d_OM_isAction_195 (by decide) ?_
                obtain ⟨hP9, hD9, -⟩ := cut3 (wc := []) hP hD rfl hS hA [] (by decide +kernel) rfl
                have hK9 := hK.sub (tys' := []) [] rfl
                refine W.widen (k := 0) (n := 0) (by exact Nat.le_of_ble_eq_true rfl) (by exact Nat.le_of_ble_eq_true rfl) ?_
                exact W.zret (v := 0) (ty := .boolean) hx hb hr (by decide) (fun t ht hW => ⟨⟨0, (), rfl, trivial, by rw [ht]; exact hP9, va_K.moved hW.alike hK9, hD9⟩, hS.F ht⟩) hS.2.2 d_OM_isAction_196
              · skip
                exfalso
                simp only [Int32.lt_iff_toInt_lt, Int32.le_iff_toInt_le, ← Int32.toInt_inj] at c_327 c_344
                have k0 : (0 : Int32).toInt = 0 := by decide
                have k1 : (1 : Int32).toInt = 1 := by decide
                omega
    · skip
      refine lv_iload_n hx hb d_OM_isAction_4 rfl (lv_at hl 1 rfl) ?_
      refine lv_iconst (v := 3) hx hb d_OM_isAction_5 (by decide) ?_
      refine lv_icmp_ge (tgt := 13) hx hb d_OM_isAction_6 (by decide) (fun c_345 => ?_) (fun c_345 => ?_)
      · skip
        refine lv_iconst (v := 0) hx hb d_OM_isAction_13 (by decide) ?_
        refine lv_istore (lv' := [(4, .int 0), (0, .int 5), (1, .int p1), (2, .int p2), (3, .int p3)]) hx hb d_OM_isAction_14 hl (by decide) rfl ?_
        clear hl ls
        intro ls hl
        refine lv_iload_n hx hb d_OM_isAction_16 rfl (lv_at hl 3 rfl) ?_
        refine lv_if_lt (tgt := 29) hx hb d_OM_isAction_17 (by decide) (fun c_346 => ?_) (fun c_346 => ?_)
        · skip
          refine lv_iconst (v := 0) hx hb d_OM_isAction_29 (by decide) ?_
          refine lv_istore (lv' := [(5, .int 0), (4, .int 0), (0, .int 5), (1, .int p1), (2, .int p2), (3, .int p3)]) hx hb d_OM_isAction_30 hl (by decide) rfl ?_
          clear hl ls
          intro ls hl
          refine lv_iload_n hx hb d_OM_isAction_32 rfl (lv_at hl 5 rfl) ?_
          refine lv_bipush (v := (-9)) hx hb d_OM_isAction_33 (by decide) ?_
          refine lv_icmp_lt (tgt := 48) hx hb d_OM_isAction_35 (by decide) (fun c_347 => ?_) (fun c_347 => ?_)
          · skip
            refine lv_iconst (v := 0) hx hb d_OM_isAction_48 (by decide) ?_
            refine lv_istore (lv' := [(6, .int 0), (5, .int 0), (4, .int 0), (0, .int 5), (1, .int p1), (2, .int p2), (3, .int p3)]) hx hb d_OM_isAction_49 hl (by decide) rfl ?_
            clear hl ls
            intro ls hl
            refine lv_iload_n hx hb d_OM_isAction_51 rfl (lv_at hl 3 rfl) ?_
            refine lv_tableIn (x := 5) (tgt := 171) hx hb d_OM_isAction_52 (by decide) (by decide) (by rfl) (by decide) ?_
            refine tp_pc (pc' := 171) (by rfl) ?_
            refine lv_iload_n hx hb d_OM_isAction_171 rfl (lv_at hl 4 rfl) ?_
            refine lv_iconst (v := 1) hx hb d_OM_isAction_172 (by decide) ?_
            refine lv_icmp_lt (tgt := 195) hx hb d_OM_isAction_173 (by decide) (fun c_348 => ?_) (fun c_348 => ?_)
            · skip
              exfalso
              simp only [Int32.lt_iff_toInt_lt, Int32.le_iff_toInt_le, ← Int32.toInt_inj] at c_327 c_345 c_348
              have k0 : (0 : Int32).toInt = 0 := by decide
              have k1 : (1 : Int32).toInt = 1 := by decide
              have k3 : (3 : Int32).toInt = 3 := by decide
              omega
            · skip
              refine lv_iload_n hx hb d_OM_isAction_176 rfl (lv_at hl 4 rfl) ?_
              refine lv_iconst (v := 3) hx hb d_OM_isAction_177 (by decide) ?_
              refine lv_icmp_gt (tgt := 195) hx hb d_OM_isAction_178 (by decide) (fun c_349 => ?_) (fun c_349 => ?_)
              · skip
                refine lv_iconst (v := 0) hx hb d_OM_isAction_195 (by decide) ?_
                obtain ⟨hP9, hD9, -⟩ := cut3 (wc := []) hP hD rfl hS hA [] (by decide +kernel) rfl
                have hK9 := hK.sub (tys' := []) [] rfl
                refine W.widen (k := 0) (n := 0) (by exact Nat.le_of_ble_eq_true rfl) (by exact Nat.le_of_ble_eq_true rfl) ?_
                exact W.zret (v := 0) (ty := .boolean) hx hb hr (by decide) (fun t ht hW => ⟨⟨0, (), rfl, trivial, by rw [ht]; exact hP9, va_K.moved hW.alike hK9, hD9⟩, hS.F ht⟩) hS.2.2 d_OM_isAction_196
              · skip
                refine lv_iload hx hb d_OM_isAction_181 (lv_at hl 1 rfl) ?_
                refine lv_if_eq (tgt := 195) hx hb d_OM_isAction_183 (by decide) (fun c_350 => ?_) (fun c_350 => absurd c_350 (by decide))
                refine tp_pc (pc' := 195) (by rfl) ?_
                refine lv_iconst (v := 0) hx hb d_OM_isAction_195 (by decide) ?_
                obtain ⟨hP9, hD9, -⟩ := cut3 (wc := []) hP hD rfl hS hA [] (by decide +kernel) rfl
                have hK9 := hK.sub (tys' := []) [] rfl
                refine W.widen (k := 0) (n := 0) (by exact Nat.le_of_ble_eq_true rfl) (by exact Nat.le_of_ble_eq_true rfl) ?_
                exact W.zret (v := 0) (ty := .boolean) hx hb hr (by decide) (fun t ht hW => ⟨⟨0, (), rfl, trivial, by rw [ht]; exact hP9, va_K.moved hW.alike hK9, hD9⟩, hS.F ht⟩) hS.2.2 d_OM_isAction_196
          · skip
            refine lv_iload_n hx hb d_OM_isAction_38 rfl (lv_at hl 5 rfl) ?_
            refine lv_bipush (v := 9) hx hb d_OM_isAction_39 (by decide) ?_
            refine lv_icmp_gt (tgt := 48) hx hb d_OM_isAction_41 (by decide) (fun c_351 => ?_) (fun c_351 => ?_)
            · skip
              refine lv_iconst (v := 0) hx hb d_OM_isAction_48 (by decide) ?_
              refine lv_istore (lv' := [(6, .int 0), (5, .int 0), (4, .int 0), (0, .int 5), (1, .int p1), (2, .int p2), (3, .int p3)]) hx hb d_OM_isAction_49 hl (by decide) rfl ?_
              clear hl ls
              intro ls hl
              refine lv_iload_n hx hb d_OM_isAction_51 rfl (lv_at hl 3 rfl) ?_
              refine lv_tableIn (x := 5) (tgt := 171) hx hb d_OM_isAction_52 (by decide) (by decide) (by rfl) (by decide) ?_
              refine tp_pc (pc' := 171) (by rfl) ?_
              refine lv_iload_n hx hb d_OM_isAction_171 rfl (lv_at hl 4 rfl) ?_
              refine lv_iconst (v := 1) hx hb d_OM_isAction_172 (by decide) ?_
              refine lv_icmp_lt (tgt := 195) hx hb d_OM_isAction_173 (by decide) (fun c_352 => ?_) (fun c_352 => ?_)
              · skip
                exfalso
                simp only [Int32.lt_iff_toInt_lt, Int32.le_iff_toInt_le, ← Int32.toInt_inj] at c_327 c_345 c_352
                have k0 : (0 : Int32).toInt = 0 := by decide
                have k1 : (1 : Int32).toInt = 1 := by decide
                have k3 : (3 : Int32).toInt = 3 := by decide
                omega
              · skip
                refine lv_iload_n hx hb d_OM_isAction_176 rfl (lv_at hl 4 rfl) ?_
                refine lv_iconst (v := 3) hx hb d_OM_isAction_177 (by decide) ?_
                refine lv_icmp_gt (tgt := 195) hx hb d_OM_isAction_178 (by decide) (fun c_353 => ?_) (fun c_353 => ?_)
                · skip
                  refine lv_iconst (v := 0) hx hb d_OM_isAction_195 (by decide) ?_
                  obtain ⟨hP9, hD9, -⟩ := cut3 (wc := []) hP hD rfl hS hA [] (by decide +kernel) rfl
                  have hK9 := hK.sub (tys' := []) [] rfl
                  refine W.widen (k := 0) (n := 0) (by exact Nat.le_of_ble_eq_true rfl) (by exact Nat.le_of_ble_eq_true rfl) ?_
                  exact W.zret (v := 0) (ty := .boolean) hx hb hr (by decide) (fun t ht hW => ⟨⟨0, (), rfl, trivial, by rw [ht]; exact hP9, va_K.moved hW.alike hK9, hD9⟩, hS.F ht⟩) hS.2.2 d_OM_isAction_196
                · skip
                  refine lv_iload hx hb d_OM_isAction_181 (lv_at hl 1 rfl) ?_
                  refine lv_if_eq (tgt := 195) hx hb d_OM_isAction_183 (by decide) (fun c_354 => ?_) (fun c_354 => absurd c_354 (by decide))
                  refine tp_pc (pc' := 195) (by rfl) ?_
                  refine lv_iconst (v := 0) hx hb d_OM_isAction_195 (by decide) ?_
                  obtain ⟨hP9, hD9, -⟩ := cut3 (wc := []) hP hD rfl hS hA [] (by decide +kernel) rfl
                  have hK9 := hK.sub (tys' := []) [] rfl
                  refine W.widen (k := 0) (n := 0) (by exact Nat.le_of_ble_eq_true rfl) (by exact Nat.le_of_ble_eq_true rfl) ?_
                  exact W.zret (v := 0) (ty := .boolean) hx hb hr (by decide) (fun t ht hW => ⟨⟨0, (), rfl, trivial, by rw [ht]; exact hP9, va_K.moved hW.alike hK9, hD9⟩, hS.F ht⟩) hS.2.2 d_OM_isAction_196
            · skip
              refine lv_iconst (v := 1) hx hb d_OM_isAction_44 (by decide) ?_
              refine lv_goto (tgt := 49) hx hb d_OM_isAction_45 (by decide) ?_
              refine tp_pc (pc' := 49) (by rfl) ?_
              refine lv_istore (lv' := [(6, .int 1), (5, .int 0), (4, .int 0), (0, .int 5), (1, .int p1), (2, .int p2), (3, .int p3)]) hx hb d_OM_isAction_49 hl (by decide) rfl ?_
              clear hl ls
              intro ls hl
              refine lv_iload_n hx hb d_OM_isAction_51 rfl (lv_at hl 3 rfl) ?_
              refine lv_tableIn (x := 5) (tgt := 171) hx hb d_OM_isAction_52 (by decide) (by decide) (by rfl) (by decide) ?_
              refine tp_pc (pc' := 171) (by rfl) ?_
              refine lv_iload_n hx hb d_OM_isAction_171 rfl (lv_at hl 4 rfl) ?_
              refine lv_iconst (v := 1) hx hb d_OM_isAction_172 (by decide) ?_
              refine lv_icmp_lt (tgt := 195) hx hb d_OM_isAction_173 (by decide) (fun c_355 => ?_) (fun c_355 => ?_)
              · skip
                exfalso
                simp only [Int32.lt_iff_toInt_lt, Int32.le_iff_toInt_le, ← Int32.toInt_inj] at c_327 c_345 c_355
                have k0 : (0 : Int32).toInt = 0 := by decide
                have k1 : (1 : Int32).toInt = 1 := by decide
                have k3 : (3 : Int32).toInt = 3 := by decide
                omega
              · skip
                refine lv_iload_n hx hb d_OM_isAction_176 rfl (lv_at hl 4 rfl) ?_
                refine lv_iconst (v := 3) hx hb d_OM_isAction_177 (by decide) ?_
                refine lv_icmp_gt (tgt := 195) hx hb d_OM_isAction_178 (by decide) (fun c_356 => ?_) (fun c_356 => ?_)
                · skip
                  refine lv_iconst (v := 0) hx hb d_OM_isAction_195 (by decide) ?_
                  obtain ⟨hP9, hD9, -⟩ := cut3 (wc := []) hP hD rfl hS hA [] (by decide +kernel) rfl
                  have hK9 := hK.sub (tys' := []) [] rfl
                  refine W.widen (k := 0) (n := 0) (by exact Nat.le_of_ble_eq_true rfl) (by exact Nat.le_of_ble_eq_true rfl) ?_
                  exact W.zret (v := 0) (ty := .boolean) hx hb hr (by decide) (fun t ht hW => ⟨⟨0, (), rfl, trivial, by rw [ht]; exact hP9, va_K.moved hW.alike hK9, hD9⟩, hS.F ht⟩) hS.2.2 d_OM_isAction_196
                · skip
                  refine lv_iload hx hb d_OM_isAction_181 (lv_at hl 1 rfl) ?_
                  refine lv_if_eq (tgt := 195) hx hb d_OM_isAction_183 (by decide) (fun c_357 => ?_) (fun c_357 => absurd c_357 (by decide))
                  refine tp_pc (pc' := 195) (by rfl) ?_
                  refine lv_iconst (v := 0) hx hb d_OM_isAction_195 (by decide) ?_
                  obtain ⟨hP9, hD9, -⟩ := cut3 (wc := []) hP hD rfl hS hA [] (by decide +kernel) rfl
                  have hK9 := hK.sub (tys' := []) [] rfl
                  refine W.widen (k := 0) (n := 0) (by exact Nat.le_of_ble_eq_true rfl) (by exact Nat.le_of_ble_eq_true rfl) ?_
                  exact W.zret (v := 0) (ty := .boolean) hx hb hr (by decide) (fun t ht hW => ⟨⟨0, (), rfl, trivial, by rw [ht]; exact hP9, va_K.moved hW.alike hK9, hD9⟩, hS.F ht⟩) hS.2.2 d_OM_isAction_196
        · skip
          refine lv_iload_n hx hb d_OM_isAction_20 rfl (lv_at hl 3 rfl) ?_
          refine lv_iconst (v := 2) hx hb d_OM_isAction_21 (by decide) ?_
          refine lv_icmp_ge (tgt := 29) hx hb d_OM_isAction_22 (by decide) (fun c_358 => ?_) (fun c_358 => ?_)
          · skip
            refine lv_iconst (v := 0) hx hb d_OM_isAction_29 (by decide) ?_
            refine lv_istore (lv' := [(5, .int 0), (4, .int 0), (0, .int 5), (1, .int p1), (2, .int p2), (3, .int p3)]) hx hb d_OM_isAction_30 hl (by decide) rfl ?_
            clear hl ls
            intro ls hl
            refine lv_iload_n hx hb d_OM_isAction_32 rfl (lv_at hl 5 rfl) ?_
            refine lv_bipush (v := (-9)) hx hb d_OM_isAction_33 (by decide) ?_
            refine lv_icmp_lt (tgt := 48) hx hb d_OM_isAction_35 (by decide) (fun c_359 => ?_) (fun c_359 => ?_)
            · skip
              refine lv_iconst (v := 0) hx hb d_OM_isAction_48 (by decide) ?_
              refine lv_istore (lv' := [(6, .int 0), (5, .int 0), (4, .int 0), (0, .int 5), (1, .int p1), (2, .int p2), (3, .int p3)]) hx hb d_OM_isAction_49 hl (by decide) rfl ?_
              clear hl ls
              intro ls hl
              refine lv_iload_n hx hb d_OM_isAction_51 rfl (lv_at hl 3 rfl) ?_
              refine lv_tableIn (x := 5) (tgt := 171) hx hb d_OM_isAction_52 (by decide) (by decide) (by rfl) (by decide) ?_
              refine tp_pc (pc' := 171) (by rfl) ?_
              refine lv_iload_n hx hb d_OM_isAction_171 rfl (lv_at hl 4 rfl) ?_
              refine lv_iconst (v := 1) hx hb d_OM_isAction_172 (by decide) ?_
              refine lv_icmp_lt (tgt := 195) hx hb d_OM_isAction_173 (by decide) (fun c_360 => ?_) (fun c_360 => ?_)
              · skip
                exfalso
                simp only [Int32.lt_iff_toInt_lt, Int32.le_iff_toInt_le, ← Int32.toInt_inj] at c_327 c_345 c_360
                have k0 : (0 : Int32).toInt = 0 := by decide
                have k1 : (1 : Int32).toInt = 1 := by decide
                have k3 : (3 : Int32).toInt = 3 := by decide
                omega
              · skip
                refine lv_iload_n hx hb d_OM_isAction_176 rfl (lv_at hl 4 rfl) ?_
                refine lv_iconst (v := 3) hx hb d_OM_isAction_177 (by decide) ?_
                refine lv_icmp_gt (tgt := 195) hx hb d_OM_isAction_178 (by decide) (fun c_361 => ?_) (fun c_361 => ?_)
                · skip
                  refine lv_iconst (v := 0) hx hb d_OM_isAction_195 (by decide) ?_
                  obtain ⟨hP9, hD9, -⟩ := cut3 (wc := []) hP hD rfl hS hA [] (by decide +kernel) rfl
                  have hK9 := hK.sub (tys' := []) [] rfl
                  refine W.widen (k := 0) (n := 0) (by exact Nat.le_of_ble_eq_true rfl) (by exact Nat.le_of_ble_eq_true rfl) ?_
                  exact W.zret (v := 0) (ty := .boolean) hx hb hr (by decide) (fun t ht hW => ⟨⟨0, (), rfl, trivial, by rw [ht]; exact hP9, va_K.moved hW.alike hK9, hD9⟩, hS.F ht⟩) hS.2.2 d_OM_isAction_196
                · skip
                  refine lv_iload hx hb d_OM_isAction_181 (lv_at hl 1 rfl) ?_
                  refine lv_if_eq (tgt := 195) hx hb d_OM_isAction_183 (by decide) (fun c_362 => ?_) (fun c_362 => absurd c_362 (by decide))
                  refine tp_pc (pc' := 195) (by rfl) ?_
                  refine lv_iconst (v := 0) hx hb d_OM_isAction_195 (by decide) ?_
                  obtain ⟨hP9, hD9, -⟩ := cut3 (wc := []) hP hD rfl hS hA [] (by decide +kernel) rfl
                  have hK9 := hK.sub (tys' := []) [] rfl
                  refine W.widen (k := 0) (n := 0) (by exact Nat.le_of_ble_eq_true rfl) (by exact Nat.le_of_ble_eq_true rfl) ?_
                  exact W.zret (v := 0) (ty := .boolean) hx hb hr (by decide) (fun t ht hW => ⟨⟨0, (), rfl, trivial, by rw [ht]; exact hP9, va_K.moved hW.alike hK9, hD9⟩, hS.F ht⟩) hS.2.2 d_OM_isAction_196
            · skip
              refine lv_iload_n hx hb d_OM_isAction_38 rfl (lv_at hl 5 rfl) ?_
              refine lv_bipush (v := 9) hx hb d_OM_isAction_39 (by decide) ?_
              refine lv_icmp_gt (tgt := 48) hx hb d_OM_isAction_41 (by decide) (fun c_363 => ?_) (fun c_363 => ?_)
              · skip
                refine lv_iconst (v := 0) hx hb d_OM_isAction_48 (by decide) ?_
                refine lv_istore (lv' := [(6, .int 0), (5, .int 0), (4, .int 0), (0, .int 5), (1, .int p1), (2, .int p2), (3, .int p3)]) hx hb d_OM_isAction_49 hl (by decide) rfl ?_
                clear hl ls
                intro ls hl
                refine lv_iload_n hx hb d_OM_isAction_51 rfl (lv_at hl 3 rfl) ?_
                refine lv_tableIn (x := 5) (tgt := 171) hx hb d_OM_isAction_52 (by decide) (by decide) (by rfl) (by decide) ?_
                refine tp_pc (pc' := 171) (by rfl) ?_
                refine lv_iload_n hx hb d_OM_isAction_171 rfl (lv_at hl 4 rfl) ?_
                refine lv_iconst (v := 1) hx hb d_OM_isAction_172 (by decide) ?_
                refine lv_icmp_lt (tgt := 195) hx hb d_OM_isAction_173 (by decide) (fun c_364 => ?_) (fun c_364 => ?_)
                · skip
                  exfalso
                  simp only [Int32.lt_iff_toInt_lt, Int32.le_iff_toInt_le, ← Int32.toInt_inj] at c_327 c_345 c_364
                  have k0 : (0 : Int32).toInt = 0 := by decide
                  have k1 : (1 : Int32).toInt = 1 := by decide
                  have k3 : (3 : Int32).toInt = 3 := by decide
                  omega
                · skip
                  refine lv_iload_n hx hb d_OM_isAction_176 rfl (lv_at hl 4 rfl) ?_
                  refine lv_iconst (v := 3) hx hb d_OM_isAction_177 (by decide) ?_
                  refine lv_icmp_gt (tgt := 195) hx hb d_OM_isAction_178 (by decide) (fun c_365 => ?_) (fun c_365 => ?_)
                  · skip
                    refine lv_iconst (v := 0) hx hb d_OM_isAction_195 (by decide) ?_
                    obtain ⟨hP9, hD9, -⟩ := cut3 (wc := []) hP hD rfl hS hA [] (by decide +kernel) rfl
                    have hK9 := hK.sub (tys' := []) [] rfl
                    refine W.widen (k := 0) (n := 0) (by exact Nat.le_of_ble_eq_true rfl) (by exact Nat.le_of_ble_eq_true rfl) ?_
                    exact W.zret (v := 0) (ty := .boolean) hx hb hr (by decide) (fun t ht hW => ⟨⟨0, (), rfl, trivial, by rw [ht]; exact hP9, va_K.moved hW.alike hK9, hD9⟩, hS.F ht⟩) hS.2.2 d_OM_isAction_196
                  · skip
                    refine lv_iload hx hb d_OM_isAction_181 (lv_at hl 1 rfl) ?_
                    refine lv_if_eq (tgt := 195) hx hb d_OM_isAction_183 (by decide) (fun c_366 => ?_) (fun c_366 => absurd c_366 (by decide))
                    refine tp_pc (pc' := 195) (by rfl) ?_
                    refine lv_iconst (v := 0) hx hb d_OM_isAction_195 (by decide) ?_
                    obtain ⟨hP9, hD9, -⟩ := cut3 (wc := []) hP hD rfl hS hA [] (by decide +kernel) rfl
                    have hK9 := hK.sub (tys' := []) [] rfl
                    refine W.widen (k := 0) (n := 0) (by exact Nat.le_of_ble_eq_true rfl) (by exact Nat.le_of_ble_eq_true rfl) ?_
                    exact W.zret (v := 0) (ty := .boolean) hx hb hr (by decide) (fun t ht hW => ⟨⟨0, (), rfl, trivial, by rw [ht]; exact hP9, va_K.moved hW.alike hK9, hD9⟩, hS.F ht⟩) hS.2.2 d_OM_isAction_196
              · skip
                refine lv_iconst (v := 1) hx hb d_OM_isAction_44 (by decide) ?_
                refine lv_goto (tgt := 49) hx hb d_OM_isAction_45 (by decide) ?_
                refine tp_pc (pc' := 49) (by rfl) ?_
                refine lv_istore (lv' := [(6, .int 1), (5, .int 0), (4, .int 0), (0, .int 5), (1, .int p1), (2, .int p2), (3, .int p3)]) hx hb d_OM_isAction_49 hl (by decide) rfl ?_
                clear hl ls
                intro ls hl
                refine lv_iload_n hx hb d_OM_isAction_51 rfl (lv_at hl 3 rfl) ?_
                refine lv_tableIn (x := 5) (tgt := 171) hx hb d_OM_isAction_52 (by decide) (by decide) (by rfl) (by decide) ?_
                refine tp_pc (pc' := 171) (by rfl) ?_
                refine lv_iload_n hx hb d_OM_isAction_171 rfl (lv_at hl 4 rfl) ?_
                refine lv_iconst (v := 1) hx hb d_OM_isAction_172 (by decide) ?_
                refine lv_icmp_lt (tgt := 195) hx hb d_OM_isAction_173 (by decide) (fun c_367 => ?_) (fun c_367 => ?_)
                · skip
                  exfalso
                  simp only [Int32.lt_iff_toInt_lt, Int32.le_iff_toInt_le, ← Int32.toInt_inj] at c_327 c_345 c_367
                  have k0 : (0 : Int32).toInt = 0 := by decide
                  have k1 : (1 : Int32).toInt = 1 := by decide
                  have k3 : (3 : Int32).toInt = 3 := by decide
                  omega
                · skip
                  refine lv_iload_n hx hb d_OM_isAction_176 rfl (lv_at hl 4 rfl) ?_
                  refine lv_iconst (v := 3) hx hb d_OM_isAction_177 (by decide) ?_
                  refine lv_icmp_gt (tgt := 195) hx hb d_OM_isAction_178 (by decide) (fun c_368 => ?_) (fun c_368 => ?_)
                  · skip
                    refine lv_iconst (v := 0) hx hb d_OM_isAction_195 (by decide) ?_
                    obtain ⟨hP9, hD9, -⟩ := cut3 (wc := []) hP hD rfl hS hA [] (by decide +kernel) rfl
                    have hK9 := hK.sub (tys' := []) [] rfl
                    refine W.widen (k := 0) (n := 0) (by exact Nat.le_of_ble_eq_true rfl) (by exact Nat.le_of_ble_eq_true rfl) ?_
                    exact W.zret (v := 0) (ty := .boolean) hx hb hr (by decide) (fun t ht hW => ⟨⟨0, (), rfl, trivial, by rw [ht]; exact hP9, va_K.moved hW.alike hK9, hD9⟩, hS.F ht⟩) hS.2.2 d_OM_isAction_196
                  · skip
                    refine lv_iload hx hb d_OM_isAction_181 (lv_at hl 1 rfl) ?_
                    refine lv_if_eq (tgt := 195) hx hb d_OM_isAction_183 (by decide) (fun c_369 => ?_) (fun c_369 => absurd c_369 (by decide))
                    refine tp_pc (pc' := 195) (by rfl) ?_
                    refine lv_iconst (v := 0) hx hb d_OM_isAction_195 (by decide) ?_
                    obtain ⟨hP9, hD9, -⟩ := cut3 (wc := []) hP hD rfl hS hA [] (by decide +kernel) rfl
                    have hK9 := hK.sub (tys' := []) [] rfl
                    refine W.widen (k := 0) (n := 0) (by exact Nat.le_of_ble_eq_true rfl) (by exact Nat.le_of_ble_eq_true rfl) ?_
                    exact W.zret (v := 0) (ty := .boolean) hx hb hr (by decide) (fun t ht hW => ⟨⟨0, (), rfl, trivial, by rw [ht]; exact hP9, va_K.moved hW.alike hK9, hD9⟩, hS.F ht⟩) hS.2.2 d_OM_isAction_196
          · skip
            refine lv_iconst (v := 1) hx hb d_OM_isAction_25 (by decide) ?_
            refine lv_goto (tgt := 30) hx hb d_OM_isAction_26 (by decide) ?_
            refine tp_pc (pc' := 30) (by rfl) ?_
            refine lv_istore (lv' := [(5, .int 1), (4, .int 0), (0, .int 5), (1, .int p1), (2, .int p2), (3, .int p3)]) hx hb d_OM_isAction_30 hl (by decide) rfl ?_
            clear hl ls
            intro ls hl
            refine lv_iload_n hx hb d_OM_isAction_32 rfl (lv_at hl 5 rfl) ?_
            refine lv_bipush (v := (-9)) hx hb d_OM_isAction_33 (by decide) ?_
            refine lv_icmp_lt (tgt := 48) hx hb d_OM_isAction_35 (by decide) (fun c_370 => ?_) (fun c_370 => ?_)
            · skip
              refine lv_iconst (v := 0) hx hb d_OM_isAction_48 (by decide) ?_
              refine lv_istore (lv' := [(6, .int 0), (5, .int 1), (4, .int 0), (0, .int 5), (1, .int p1), (2, .int p2), (3, .int p3)]) hx hb d_OM_isAction_49 hl (by decide) rfl ?_
              clear hl ls
              intro ls hl
              refine lv_iload_n hx hb d_OM_isAction_51 rfl (lv_at hl 3 rfl) ?_
              refine lv_tableIn (x := 5) (tgt := 171) hx hb d_OM_isAction_52 (by decide) (by decide) (by rfl) (by decide) ?_
              refine tp_pc (pc' := 171) (by rfl) ?_
              refine lv_iload_n hx hb d_OM_isAction_171 rfl (lv_at hl 4 rfl) ?_
              refine lv_iconst (v := 1) hx hb d_OM_isAction_172 (by decide) ?_
              refine lv_icmp_lt (tgt := 195) hx hb d_OM_isAction_173 (by decide) (fun c_371 => ?_) (fun c_371 => ?_)
              · skip
                exfalso
                simp only [Int32.lt_iff_toInt_lt, Int32.le_iff_toInt_le, ← Int32.toInt_inj] at c_327 c_345 c_371
                have k0 : (0 : Int32).toInt = 0 := by decide
                have k1 : (1 : Int32).toInt = 1 := by decide
                have k3 : (3 : Int32).toInt = 3 := by decide
                omega
              · skip
                refine lv_iload_n hx hb d_OM_isAction_176 rfl (lv_at hl 4 rfl) ?_
                refine lv_iconst (v := 3) hx hb d_OM_isAction_177 (by decide) ?_
                refine lv_icmp_gt (tgt := 195) hx hb d_OM_isAction_178 (by decide) (fun c_372 => ?_) (fun c_372 => ?_)
                · skip
                  refine lv_iconst (v := 0) hx hb d_OM_isAction_195 (by decide) ?_
                  obtain ⟨hP9, hD9, -⟩ := cut3 (wc := []) hP hD rfl hS hA [] (by decide +kernel) rfl
                  have hK9 := hK.sub (tys' := []) [] rfl
                  refine W.widen (k := 0) (n := 0) (by exact Nat.le_of_ble_eq_true rfl) (by exact Nat.le_of_ble_eq_true rfl) ?_
                  exact W.zret (v := 0) (ty := .boolean) hx hb hr (by decide) (fun t ht hW => ⟨⟨0, (), rfl, trivial, by rw [ht]; exact hP9, va_K.moved hW.alike hK9, hD9⟩, hS.F ht⟩) hS.2.2 d_OM_isAction_196
                · skip
                  refine lv_iload hx hb d_OM_isAction_181 (lv_at hl 1 rfl) ?_
                  refine lv_if_eq (tgt := 195) hx hb d_OM_isAction_183 (by decide) (fun c_373 => absurd c_373 (by decide)) (fun c_373 => ?_)
                  refine tp_pc (pc' := 186) (by rfl) ?_
                  refine lv_iload hx hb d_OM_isAction_186 (lv_at hl 0 rfl) ?_
                  refine lv_if_eq (tgt := 195) hx hb d_OM_isAction_188 (by decide) (fun c_374 => ?_) (fun c_374 => absurd c_374 (by decide))
                  refine tp_pc (pc' := 195) (by rfl) ?_
                  refine lv_iconst (v := 0) hx hb d_OM_isAction_195 (by decide) ?_
                  obtain ⟨hP9, hD9, -⟩ := cut3 (wc := []) hP hD rfl hS hA [] (by decide +kernel) rfl
                  have hK9 := hK.sub (tys' := []) [] rfl
                  refine W.widen (k := 0) (n := 0) (by exact Nat.le_of_ble_eq_true rfl) (by exact Nat.le_of_ble_eq_true rfl) ?_
                  exact W.zret (v := 0) (ty := .boolean) hx hb hr (by decide) (fun t ht hW => ⟨⟨0, (), rfl, trivial, by rw [ht]; exact hP9, va_K.moved hW.alike hK9, hD9⟩, hS.F ht⟩) hS.2.2 d_OM_isAction_196
            · skip
              refine lv_iload_n hx hb d_OM_isAction_38 rfl (lv_at hl 5 rfl) ?_
              refine lv_bipush (v := 9) hx hb d_OM_isAction_39 (by decide) ?_
              refine lv_icmp_gt (tgt := 48) hx hb d_OM_isAction_41 (by decide) (fun c_375 => ?_) (fun c_375 => ?_)
              · skip
                refine lv_iconst (v := 0) hx hb d_OM_isAction_48 (by decide) ?_
                refine lv_istore (lv' := [(6, .int 0), (5, .int 1), (4, .int 0), (0, .int 5), (1, .int p1), (2, .int p2), (3, .int p3)]) hx hb d_OM_isAction_49 hl (by decide) rfl ?_
                clear hl ls
                intro ls hl
                refine lv_iload_n hx hb d_OM_isAction_51 rfl (lv_at hl 3 rfl) ?_
                refine lv_tableIn (x := 5) (tgt := 171) hx hb d_OM_isAction_52 (by decide) (by decide) (by rfl) (by decide) ?_
                refine tp_pc (pc' := 171) (by rfl) ?_
                refine lv_iload_n hx hb d_OM_isAction_171 rfl (lv_at hl 4 rfl) ?_
                refine lv_iconst (v := 1) hx hb d_OM_isAction_172 (by decide) ?_
                refine lv_icmp_lt (tgt := 195) hx hb d_OM_isAction_173 (by decide) (fun c_376 => ?_) (fun c_376 => ?_)
                · skip
                  exfalso
                  simp only [Int32.lt_iff_toInt_lt, Int32.le_iff_toInt_le, ← Int32.toInt_inj] at c_327 c_345 c_376
                  have k0 : (0 : Int32).toInt = 0 := by decide
                  have k1 : (1 : Int32).toInt = 1 := by decide
                  have k3 : (3 : Int32).toInt = 3 := by decide
                  omega
                · skip
                  refine lv_iload_n hx hb d_OM_isAction_176 rfl (lv_at hl 4 rfl) ?_
                  refine lv_iconst (v := 3) hx hb d_OM_isAction_177 (by decide) ?_
                  refine lv_icmp_gt (tgt := 195) hx hb d_OM_isAction_178 (by decide) (fun c_377 => ?_) (fun c_377 => ?_)
                  · skip
                    refine lv_iconst (v := 0) hx hb d_OM_isAction_195 (by decide) ?_
                    obtain ⟨hP9, hD9, -⟩ := cut3 (wc := []) hP hD rfl hS hA [] (by decide +kernel) rfl
                    have hK9 := hK.sub (tys' := []) [] rfl
                    refine W.widen (k := 0) (n := 0) (by exact Nat.le_of_ble_eq_true rfl) (by exact Nat.le_of_ble_eq_true rfl) ?_
                    exact W.zret (v := 0) (ty := .boolean) hx hb hr (by decide) (fun t ht hW => ⟨⟨0, (), rfl, trivial, by rw [ht]; exact hP9, va_K.moved hW.alike hK9, hD9⟩, hS.F ht⟩) hS.2.2 d_OM_isAction_196
                  · skip
                    refine lv_iload hx hb d_OM_isAction_181 (lv_at hl 1 rfl) ?_
                    refine lv_if_eq (tgt := 195) hx hb d_OM_isAction_183 (by decide) (fun c_378 => absurd c_378 (by decide)) (fun c_378 => ?_)
                    refine tp_pc (pc' := 186) (by rfl) ?_
                    refine lv_iload hx hb d_OM_isAction_186 (lv_at hl 0 rfl) ?_
                    refine lv_if_eq (tgt := 195) hx hb d_OM_isAction_188 (by decide) (fun c_379 => ?_) (fun c_379 => absurd c_379 (by decide))
                    refine tp_pc (pc' := 195) (by rfl) ?_
                    refine lv_iconst (v := 0) hx hb d_OM_isAction_195 (by decide) ?_
                    obtain ⟨hP9, hD9, -⟩ := cut3 (wc := []) hP hD rfl hS hA [] (by decide +kernel) rfl
                    have hK9 := hK.sub (tys' := []) [] rfl
                    refine W.widen (k := 0) (n := 0) (by exact Nat.le_of_ble_eq_true rfl) (by exact Nat.le_of_ble_eq_true rfl) ?_
                    exact W.zret (v := 0) (ty := .boolean) hx hb hr (by decide) (fun t ht hW => ⟨⟨0, (), rfl, trivial, by rw [ht]; exact hP9, va_K.moved hW.alike hK9, hD9⟩, hS.F ht⟩) hS.2.2 d_OM_isAction_196
              · skip
                refine lv_iconst (v := 1) hx hb d_OM_isAction_44 (by decide) ?_
                refine lv_goto (tgt := 49) hx hb d_OM_isAction_45 (by decide) ?_
                refine tp_pc (pc' := 49) (by rfl) ?_
                refine lv_istore (lv' := [(6, .int 1), (5, .int 1), (4, .int 0), (0, .int 5), (1, .int p1), (2, .int p2), (3, .int p3)]) hx hb d_OM_isAction_49 hl (by decide) rfl ?_
                clear hl ls
                intro ls hl
                refine lv_iload_n hx hb d_OM_isAction_51 rfl (lv_at hl 3 rfl) ?_
                refine lv_tableIn (x := 5) (tgt := 171) hx hb d_OM_isAction_52 (by decide) (by decide) (by rfl) (by decide) ?_
                refine tp_pc (pc' := 171) (by rfl) ?_
                refine lv_iload_n hx hb d_OM_isAction_171 rfl (lv_at hl 4 rfl) ?_
                refine lv_iconst (v := 1) hx hb d_OM_isAction_172 (by decide) ?_
                refine lv_icmp_lt (tgt := 195) hx hb d_OM_isAction_173 (by decide) (fun c_380 => ?_) (fun c_380 => ?_)
                · skip
                  exfalso
                  simp only [Int32.lt_iff_toInt_lt, Int32.le_iff_toInt_le, ← Int32.toInt_inj] at c_327 c_345 c_380
                  have k0 : (0 : Int32).toInt = 0 := by decide
                  have k1 : (1 : Int32).toInt = 1 := by decide
                  have k3 : (3 : Int32).toInt = 3 := by decide
                  omega
                · skip
                  refine lv_iload_n hx hb d_OM_isAction_176 rfl (lv_at hl 4 rfl) ?_
                  refine lv_iconst (v := 3) hx hb d_OM_isAction_177 (by decide) ?_
                  refine lv_icmp_gt (tgt := 195) hx hb d_OM_isAction_178 (by decide) (fun c_381 => ?_) (fun c_381 => ?_)
                  · skip
                    refine lv_iconst (v := 0) hx hb d_OM_isAction_195 (by decide) ?_
                    obtain ⟨hP9, hD9, -⟩ := cut3 (wc := []) hP hD rfl hS hA [] (by decide +kernel) rfl
                    have hK9 := hK.sub (tys' := []) [] rfl
                    refine W.widen (k := 0) (n := 0) (by exact Nat.le_of_ble_eq_true rfl) (by exact Nat.le_of_ble_eq_true rfl) ?_
                    exact W.zret (v := 0) (ty := .boolean) hx hb hr (by decide) (fun t ht hW => ⟨⟨0, (), rfl, trivial, by rw [ht]; exact hP9, va_K.moved hW.alike hK9, hD9⟩, hS.F ht⟩) hS.2.2 d_OM_isAction_196
                  · skip
                    refine lv_iload hx hb d_OM_isAction_181 (lv_at hl 1 rfl) ?_
                    refine lv_if_eq (tgt := 195) hx hb d_OM_isAction_183 (by decide) (fun c_382 => absurd c_382 (by decide)) (fun c_382 => ?_)
                    refine tp_pc (pc' := 186) (by rfl) ?_
                    refine lv_iload hx hb d_OM_isAction_186 (lv_at hl 0 rfl) ?_
                    refine lv_if_eq (tgt := 195) hx hb d_OM_isAction_188 (by decide) (fun c_383 => absurd c_383 (by decide)) (fun c_383 => ?_)
                    refine tp_pc (pc' := 191) (by rfl) ?_
                    refine lv_iconst (v := 1) hx hb d_OM_isAction_191 (by decide) ?_
                    refine lv_goto (tgt := 196) hx hb d_OM_isAction_192 (by decide) ?_
                    refine tp_pc (pc' := 196) (by rfl) ?_
                    obtain ⟨hP9, hD9, -⟩ := cut3 (wc := []) hP hD rfl hS hA [] (by decide +kernel) rfl
                    have hK9 := hK.sub (tys' := []) [] rfl
                    refine W.widen (k := 0) (n := 0) (by exact Nat.le_of_ble_eq_true rfl) (by exact Nat.le_of_ble_eq_true rfl) ?_
                    exact W.zret (v := 1) (ty := .boolean) hx hb hr (by decide) (fun t ht hW => ⟨⟨1, (), rfl, trivial, by rw [ht]; exact hP9, va_K.moved hW.alike hK9, hD9⟩, hS.F ht⟩) hS.2.2 d_OM_isAction_196
      · skip
        refine lv_iconst (v := 1) hx hb d_OM_isAction_9 (by decide) ?_
        refine lv_goto (tgt := 14) hx hb d_OM_isAction_10 (by decide) ?_
        refine tp_pc (pc' := 14) (by rfl) ?_
        refine lv_istore (lv' := [(4, .int 1), (0, .int 5), (1, .int p1), (2, .int p2), (3, .int p3)]) hx hb d_OM_isAction_14 hl (by decide) rfl ?_
        clear hl ls
        intro ls hl
        refine lv_iload_n hx hb d_OM_isAction_16 rfl (lv_at hl 3 rfl) ?_
        refine lv_if_lt (tgt := 29) hx hb d_OM_isAction_17 (by decide) (fun c_384 => ?_) (fun c_384 => ?_)
        · skip
          refine lv_iconst (v := 0) hx hb d_OM_isAction_29 (by decide) ?_
          refine lv_istore (lv' := [(5, .int 0), (4, .int 1), (0, .int 5), (1, .int p1), (2, .int p2), (3, .int p3)]) hx hb d_OM_isAction_30 hl (by decide) rfl ?_
          clear hl ls
          intro ls hl
          refine lv_iload_n hx hb d_OM_isAction_32 rfl (lv_at hl 5 rfl) ?_
          refine lv_bipush (v := (-9)) hx hb d_OM_isAction_33 (by decide) ?_
          refine lv_icmp_lt (tgt := 48) hx hb d_OM_isAction_35 (by decide) (fun c_385 => ?_) (fun c_385 => ?_)
          · skip
            refine lv_iconst (v := 0) hx hb d_OM_isAction_48 (by decide) ?_
            refine lv_istore (lv' := [(6, .int 0), (5, .int 0), (4, .int 1), (0, .int 5), (1, .int p1), (2, .int p2), (3, .int p3)]) hx hb d_OM_isAction_49 hl (by decide) rfl ?_
            clear hl ls
            intro ls hl
            refine lv_iload_n hx hb d_OM_isAction_51 rfl (lv_at hl 3 rfl) ?_
            refine lv_tableIn (x := 5) (tgt := 171) hx hb d_OM_isAction_52 (by decide) (by decide) (by rfl) (by decide) ?_
            refine tp_pc (pc' := 171) (by rfl) ?_
            refine lv_iload_n hx hb d_OM_isAction_171 rfl (lv_at hl 4 rfl) ?_
            refine lv_iconst (v := 1) hx hb d_OM_isAction_172 (by decide) ?_
            refine lv_icmp_lt (tgt := 195) hx hb d_OM_isAction_173 (by decide) (fun c_386 => ?_) (fun c_386 => ?_)
            · skip
              refine lv_iconst (v := 0) hx hb d_OM_isAction_195 (by decide) ?_
              obtain ⟨hP9, hD9, -⟩ := cut3 (wc := []) hP hD rfl hS hA [] (by decide +kernel) rfl
              have hK9 := hK.sub (tys' := []) [] rfl
              refine W.widen (k := 0) (n := 0) (by exact Nat.le_of_ble_eq_true rfl) (by exact Nat.le_of_ble_eq_true rfl) ?_
              exact W.zret (v := 0) (ty := .boolean) hx hb hr (by decide) (fun t ht hW => ⟨⟨0, (), rfl, trivial, by rw [ht]; exact hP9, va_K.moved hW.alike hK9, hD9⟩, hS.F ht⟩) hS.2.2 d_OM_isAction_196
            · skip
              refine lv_iload_n hx hb d_OM_isAction_176 rfl (lv_at hl 4 rfl) ?_
              refine lv_iconst (v := 3) hx hb d_OM_isAction_177 (by decide) ?_
              refine lv_icmp_gt (tgt := 195) hx hb d_OM_isAction_178 (by decide) (fun c_387 => ?_) (fun c_387 => ?_)
              · skip
                exfalso
                simp only [Int32.lt_iff_toInt_lt, Int32.le_iff_toInt_le, ← Int32.toInt_inj] at c_327 c_345 c_386 c_387
                have k0 : (0 : Int32).toInt = 0 := by decide
                have k1 : (1 : Int32).toInt = 1 := by decide
                have k3 : (3 : Int32).toInt = 3 := by decide
                omega
              · skip
                refine lv_iload hx hb d_OM_isAction_181 (lv_at hl 1 rfl) ?_
                refine lv_if_eq (tgt := 195) hx hb d_OM_isAction_183 (by decide) (fun c_388 => ?_) (fun c_388 => absurd c_388 (by decide))
                refine tp_pc (pc' := 195) (by rfl) ?_
                refine lv_iconst (v := 0) hx hb d_OM_isAction_195 (by decide) ?_
                obtain ⟨hP9, hD9, -⟩ := cut3 (wc := []) hP hD rfl hS hA [] (by decide +kernel) rfl
                have hK9 := hK.sub (tys' := []) [] rfl
                refine W.widen (k := 0) (n := 0) (by exact Nat.le_of_ble_eq_true rfl) (by exact Nat.le_of_ble_eq_true rfl) ?_
                exact W.zret (v := 0) (ty := .boolean) hx hb hr (by decide) (fun t ht hW => ⟨⟨0, (), rfl, trivial, by rw [ht]; exact hP9, va_K.moved hW.alike hK9, hD9⟩, hS.F ht⟩) hS.2.2 d_OM_isAction_196
          · skip
            refine lv_iload_n hx hb d_OM_isAction_38 rfl (lv_at hl 5 rfl) ?_
            refine lv_bipush (v := 9) hx hb d_OM_isAction_39 (by decide) ?_
            refine lv_icmp_gt (tgt := 48) hx hb d_OM_isAction_41 (by decide) (fun c_389 => ?_) (fun c_389 => ?_)
            · skip
              refine lv_iconst (v := 0) hx hb d_OM_isAction_48 (by decide) ?_
              refine lv_istore (lv' := [(6, .int 0), (5, .int 0), (4, .int 1), (0, .int 5), (1, .int p1), (2, .int p2), (3, .int p3)]) hx hb d_OM_isAction_49 hl (by decide) rfl ?_
              clear hl ls
              intro ls hl
              refine lv_iload_n hx hb d_OM_isAction_51 rfl (lv_at hl 3 rfl) ?_
              refine lv_tableIn (x := 5) (tgt := 171) hx hb d_OM_isAction_52 (by decide) (by decide) (by rfl) (by decide) ?_
              refine tp_pc (pc' := 171) (by rfl) ?_
              refine lv_iload_n hx hb d_OM_isAction_171 rfl (lv_at hl 4 rfl) ?_
              refine lv_iconst (v := 1) hx hb d_OM_isAction_172 (by decide) ?_
              refine lv_icmp_lt (tgt := 195) hx hb d_OM_isAction_173 (by decide) (fun c_390 => ?_) (fun c_390 => ?_)
              · skip
                refine lv_iconst (v := 0) hx hb d_OM_isAction_195 (by decide) ?_
                obtain ⟨hP9, hD9, -⟩ := cut3 (wc := []) hP hD rfl hS hA [] (by decide +kernel) rfl
                have hK9 := hK.sub (tys' := []) [] rfl
                refine W.widen (k := 0) (n := 0) (by exact Nat.le_of_ble_eq_true rfl) (by exact Nat.le_of_ble_eq_true rfl) ?_
                exact W.zret (v := 0) (ty := .boolean) hx hb hr (by decide) (fun t ht hW => ⟨⟨0, (), rfl, trivial, by rw [ht]; exact hP9, va_K.moved hW.alike hK9, hD9⟩, hS.F ht⟩) hS.2.2 d_OM_isAction_196
              · skip
                refine lv_iload_n hx hb d_OM_isAction_176 rfl (lv_at hl 4 rfl) ?_
                refine lv_iconst (v := 3) hx hb d_OM_isAction_177 (by decide) ?_
                refine lv_icmp_gt (tgt := 195) hx hb d_OM_isAction_178 (by decide) (fun c_391 => ?_) (fun c_391 => ?_)
                · skip
                  exfalso
                  simp only [Int32.lt_iff_toInt_lt, Int32.le_iff_toInt_le, ← Int32.toInt_inj] at c_327 c_345 c_390 c_391
                  have k0 : (0 : Int32).toInt = 0 := by decide
                  have k1 : (1 : Int32).toInt = 1 := by decide
                  have k3 : (3 : Int32).toInt = 3 := by decide
                  omega
                · skip
                  refine lv_iload hx hb d_OM_isAction_181 (lv_at hl 1 rfl) ?_
                  refine lv_if_eq (tgt := 195) hx hb d_OM_isAction_183 (by decide) (fun c_392 => ?_) (fun c_392 => absurd c_392 (by decide))
                  refine tp_pc (pc' := 195) (by rfl) ?_
                  refine lv_iconst (v := 0) hx hb d_OM_isAction_195 (by decide) ?_
                  obtain ⟨hP9, hD9, -⟩ := cut3 (wc := []) hP hD rfl hS hA [] (by decide +kernel) rfl
                  have hK9 := hK.sub (tys' := []) [] rfl
                  refine W.widen (k := 0) (n := 0) (by exact Nat.le_of_ble_eq_true rfl) (by exact Nat.le_of_ble_eq_true rfl) ?_
                  exact W.zret (v := 0) (ty := .boolean) hx hb hr (by decide) (fun t ht hW => ⟨⟨0, (), rfl, trivial, by rw [ht]; exact hP9, va_K.moved hW.alike hK9, hD9⟩, hS.F ht⟩) hS.2.2 d_OM_isAction_196
            · skip
              refine lv_iconst (v := 1) hx hb d_OM_isAction_44 (by decide) ?_
              refine lv_goto (tgt := 49) hx hb d_OM_isAction_45 (by decide) ?_
              refine tp_pc (pc' := 49) (by rfl) ?_
              refine lv_istore (lv' := [(6, .int 1), (5, .int 0), (4, .int 1), (0, .int 5), (1, .int p1), (2, .int p2), (3, .int p3)]) hx hb d_OM_isAction_49 hl (by decide) rfl ?_
              clear hl ls
              intro ls hl
              refine lv_iload_n hx hb d_OM_isAction_51 rfl (lv_at hl 3 rfl) ?_
              refine lv_tableIn (x := 5) (tgt := 171) hx hb d_OM_isAction_52 (by decide) (by decide) (by rfl) (by decide) ?_
              refine tp_pc (pc' := 171) (by rfl) ?_
              refine lv_iload_n hx hb d_OM_isAction_171 rfl (lv_at hl 4 rfl) ?_
              refine lv_iconst (v := 1) hx hb d_OM_isAction_172 (by decide) ?_
              refine lv_icmp_lt (tgt := 195) hx hb d_OM_isAction_173 (by decide) (fun c_393 => ?_) (fun c_393 => ?_)
              · skip
                refine lv_iconst (v := 0) hx hb d_OM_isAction_195 (by decide) ?_
                obtain ⟨hP9, hD9, -⟩ := cut3 (wc := []) hP hD rfl hS hA [] (by decide +kernel) rfl
                have hK9 := hK.sub (tys' := []) [] rfl
                refine W.widen (k := 0) (n := 0) (by exact Nat.le_of_ble_eq_true rfl) (by exact Nat.le_of_ble_eq_true rfl) ?_
                exact W.zret (v := 0) (ty := .boolean) hx hb hr (by decide) (fun t ht hW => ⟨⟨0, (), rfl, trivial, by rw [ht]; exact hP9, va_K.moved hW.alike hK9, hD9⟩, hS.F ht⟩) hS.2.2 d_OM_isAction_196
              · skip
                refine lv_iload_n hx hb d_OM_isAction_176 rfl (lv_at hl 4 rfl) ?_
                refine lv_iconst (v := 3) hx hb d_OM_isAction_177 (by decide) ?_
                refine lv_icmp_gt (tgt := 195) hx hb d_OM_isAction_178 (by decide) (fun c_394 => ?_) (fun c_394 => ?_)
                · skip
                  exfalso
                  simp only [Int32.lt_iff_toInt_lt, Int32.le_iff_toInt_le, ← Int32.toInt_inj] at c_327 c_345 c_393 c_394
                  have k0 : (0 : Int32).toInt = 0 := by decide
                  have k1 : (1 : Int32).toInt = 1 := by decide
                  have k3 : (3 : Int32).toInt = 3 := by decide
                  omega
                · skip
                  refine lv_iload hx hb d_OM_isAction_181 (lv_at hl 1 rfl) ?_
                  refine lv_if_eq (tgt := 195) hx hb d_OM_isAction_183 (by decide) (fun c_395 => ?_) (fun c_395 => absurd c_395 (by decide))
                  refine tp_pc (pc' := 195) (by rfl) ?_
                  refine lv_iconst (v := 0) hx hb d_OM_isAction_195 (by decide) ?_
                  obtain ⟨hP9, hD9, -⟩ := cut3 (wc := []) hP hD rfl hS hA [] (by decide +kernel) rfl
                  have hK9 := hK.sub (tys' := []) [] rfl
                  refine W.widen (k := 0) (n := 0) (by exact Nat.le_of_ble_eq_true rfl) (by exact Nat.le_of_ble_eq_true rfl) ?_
                  exact W.zret (v := 0) (ty := .boolean) hx hb hr (by decide) (fun t ht hW => ⟨⟨0, (), rfl, trivial, by rw [ht]; exact hP9, va_K.moved hW.alike hK9, hD9⟩, hS.F ht⟩) hS.2.2 d_OM_isAction_196
        · skip
          refine lv_iload_n hx hb d_OM_isAction_20 rfl (lv_at hl 3 rfl) ?_
          refine lv_iconst (v := 2) hx hb d_OM_isAction_21 (by decide) ?_
          refine lv_icmp_ge (tgt := 29) hx hb d_OM_isAction_22 (by decide) (fun c_396 => ?_) (fun c_396 => ?_)
          · skip
            refine lv_iconst (v := 0) hx hb d_OM_isAction_29 (by decide) ?_
            refine lv_istore (lv' := [(5, .int 0), (4, .int 1), (0, .int 5), (1, .int p1), (2, .int p2), (3, .int p3)]) hx hb d_OM_isAction_30 hl (by decide) rfl ?_
            clear hl ls
            intro ls hl
            refine lv_iload_n hx hb d_OM_isAction_32 rfl (lv_at hl 5 rfl) ?_
            refine lv_bipush (v := (-9)) hx hb d_OM_isAction_33 (by decide) ?_
            refine lv_icmp_lt (tgt := 48) hx hb d_OM_isAction_35 (by decide) (fun c_397 => ?_) (fun c_397 => ?_)
            · skip
              refine lv_iconst (v := 0) hx hb d_OM_isAction_48 (by decide) ?_
              refine lv_istore (lv' := [(6, .int 0), (5, .int 0), (4, .int 1), (0, .int 5), (1, .int p1), (2, .int p2), (3, .int p3)]) hx hb d_OM_isAction_49 hl (by decide) rfl ?_
              clear hl ls
              intro ls hl
              refine lv_iload_n hx hb d_OM_isAction_51 rfl (lv_at hl 3 rfl) ?_
              refine lv_tableIn (x := 5) (tgt := 171) hx hb d_OM_isAction_52 (by decide) (by decide) (by rfl) (by decide) ?_
              refine tp_pc (pc' := 171) (by rfl) ?_
              refine lv_iload_n hx hb d_OM_isAction_171 rfl (lv_at hl 4 rfl) ?_
              refine lv_iconst (v := 1) hx hb d_OM_isAction_172 (by decide) ?_
              refine lv_icmp_lt (tgt := 195) hx hb d_OM_isAction_173 (by decide) (fun c_398 => ?_) (fun c_398 => ?_)
              · skip
                refine lv_iconst (v := 0) hx hb d_OM_isAction_195 (by decide) ?_
                obtain ⟨hP9, hD9, -⟩ := cut3 (wc := []) hP hD rfl hS hA [] (by decide +kernel) rfl
                have hK9 := hK.sub (tys' := []) [] rfl
                refine W.widen (k := 0) (n := 0) (by exact Nat.le_of_ble_eq_true rfl) (by exact Nat.le_of_ble_eq_true rfl) ?_
                exact W.zret (v := 0) (ty := .boolean) hx hb hr (by decide) (fun t ht hW => ⟨⟨0, (), rfl, trivial, by rw [ht]; exact hP9, va_K.moved hW.alike hK9, hD9⟩, hS.F ht⟩) hS.2.2 d_OM_isAction_196
              · skip
                refine lv_iload_n hx hb d_OM_isAction_176 rfl (lv_at hl 4 rfl) ?_
                refine lv_iconst (v := 3) hx hb d_OM_isAction_177 (by decide) ?_
                refine lv_icmp_gt (tgt := 195) hx hb d_OM_isAction_178 (by decide) (fun c_399 => ?_) (fun c_399 => ?_)
                · skip
                  exfalso
                  simp only [Int32.lt_iff_toInt_lt, Int32.le_iff_toInt_le, ← Int32.toInt_inj] at c_327 c_345 c_398 c_399
                  have k0 : (0 : Int32).toInt = 0 := by decide
                  have k1 : (1 : Int32).toInt = 1 := by decide
                  have k3 : (3 : Int32).toInt = 3 := by decide
                  omega
                · skip
                  refine lv_iload hx hb d_OM_isAction_181 (lv_at hl 1 rfl) ?_
                  refine lv_if_eq (tgt := 195) hx hb d_OM_isAction_183 (by decide) (fun c_400 => ?_) (fun c_400 => absurd c_400 (by decide))
                  refine tp_pc (pc' := 195) (by rfl) ?_
                  refine lv_iconst (v := 0) hx hb d_OM_isAction_195 (by decide) ?_
                  obtain ⟨hP9, hD9, -⟩ := cut3 (wc := []) hP hD rfl hS hA [] (by decide +kernel) rfl
                  have hK9 := hK.sub (tys' := []) [] rfl
                  refine W.widen (k := 0) (n := 0) (by exact Nat.le_of_ble_eq_true rfl) (by exact Nat.le_of_ble_eq_true rfl) ?_
                  exact W.zret (v := 0) (ty := .boolean) hx hb hr (by decide) (fun t ht hW => ⟨⟨0, (), rfl, trivial, by rw [ht]; exact hP9, va_K.moved hW.alike hK9, hD9⟩, hS.F ht⟩) hS.2.2 d_OM_isAction_196
            · skip
              refine lv_iload_n hx hb d_OM_isAction_38 rfl (lv_at hl 5 rfl) ?_
              refine lv_bipush (v := 9) hx hb d_OM_isAction_39 (by decide) ?_
              refine lv_icmp_gt (tgt := 48) hx hb d_OM_isAction_41 (by decide) (fun c_401 => ?_) (fun c_401 => ?_)
              · skip
                refine lv_iconst (v := 0) hx hb d_OM_isAction_48 (by decide) ?_
                refine lv_istore (lv' := [(6, .int 0), (5, .int 0), (4, .int 1), (0, .int 5), (1, .int p1), (2, .int p2), (3, .int p3)]) hx hb d_OM_isAction_49 hl (by decide) rfl ?_
                clear hl ls
                intro ls hl
                refine lv_iload_n hx hb d_OM_isAction_51 rfl (lv_at hl 3 rfl) ?_
                refine lv_tableIn (x := 5) (tgt := 171) hx hb d_OM_isAction_52 (by decide) (by decide) (by rfl) (by decide) ?_
                refine tp_pc (pc' := 171) (by rfl) ?_
                refine lv_iload_n hx hb d_OM_isAction_171 rfl (lv_at hl 4 rfl) ?_
                refine lv_iconst (v := 1) hx hb d_OM_isAction_172 (by decide) ?_
                refine lv_icmp_lt (tgt := 195) hx hb d_OM_isAction_173 (by decide) (fun c_402 => ?_) (fun c_402 => ?_)
                · skip
                  refine lv_iconst (v := 0) hx hb d_OM_isAction_195 (by decide) ?_
                  obtain ⟨hP9, hD9, -⟩ := cut3 (wc := []) hP hD rfl hS hA [] (by decide +kernel) rfl
                  have hK9 := hK.sub (tys' := []) [] rfl
                  refine W.widen (k := 0) (n := 0) (by exact Nat.le_of_ble_eq_true rfl) (by exact Nat.le_of_ble_eq_true rfl) ?_
                  exact W.zret (v := 0) (ty := .boolean) hx hb hr (by decide) (fun t ht hW => ⟨⟨0, (), rfl, trivial, by rw [ht]; exact hP9, va_K.moved hW.alike hK9, hD9⟩, hS.F ht⟩) hS.2.2 d_OM_isAction_196
                · skip
                  refine lv_iload_n hx hb d_OM_isAction_176 rfl (lv_at hl 4 rfl) ?_
                  refine lv_iconst (v := 3) hx hb d_OM_isAction_177 (by decide) ?_
                  refine lv_icmp_gt (tgt := 195) hx hb d_OM_isAction_178 (by decide) (fun c_403 => ?_) (fun c_403 => ?_)
                  · skip
                    exfalso
                    simp only [Int32.lt_iff_toInt_lt, Int32.le_iff_toInt_le, ← Int32.toInt_inj] at c_327 c_345 c_402 c_403
                    have k0 : (0 : Int32).toInt = 0 := by decide
                    have k1 : (1 : Int32).toInt = 1 := by decide
                    have k3 : (3 : Int32).toInt = 3 := by decide
                    omega
                  · skip
                    refine lv_iload hx hb d_OM_isAction_181 (lv_at hl 1 rfl) ?_
                    refine lv_if_eq (tgt := 195) hx hb d_OM_isAction_183 (by decide) (fun c_404 => ?_) (fun c_404 => absurd c_404 (by decide))
                    refine tp_pc (pc' := 195) (by rfl) ?_
                    refine lv_iconst (v := 0) hx hb d_OM_isAction_195 (by decide) ?_
                    obtain ⟨hP9, hD9, -⟩ := cut3 (wc := []) hP hD rfl hS hA [] (by decide +kernel) rfl
                    have hK9 := hK.sub (tys' := []) [] rfl
                    refine W.widen (k := 0) (n := 0) (by exact Nat.le_of_ble_eq_true rfl) (by exact Nat.le_of_ble_eq_true rfl) ?_
                    exact W.zret (v := 0) (ty := .boolean) hx hb hr (by decide) (fun t ht hW => ⟨⟨0, (), rfl, trivial, by rw [ht]; exact hP9, va_K.moved hW.alike hK9, hD9⟩, hS.F ht⟩) hS.2.2 d_OM_isAction_196
              · skip
                refine lv_iconst (v := 1) hx hb d_OM_isAction_44 (by decide) ?_
                refine lv_goto (tgt := 49) hx hb d_OM_isAction_45 (by decide) ?_
                refine tp_pc (pc' := 49) (by rfl) ?_
                refine lv_istore (lv' := [(6, .int 1), (5, .int 0), (4, .int 1), (0, .int 5), (1, .int p1), (2, .int p2), (3, .int p3)]) hx hb d_OM_isAction_49 hl (by decide) rfl ?_
                clear hl ls
                intro ls hl
                refine lv_iload_n hx hb d_OM_isAction_51 rfl (lv_at hl 3 rfl) ?_
                refine lv_tableIn (x := 5) (tgt := 171) hx hb d_OM_isAction_52 (by decide) (by decide) (by rfl) (by decide) ?_
                refine tp_pc (pc' := 171) (by rfl) ?_
                refine lv_iload_n hx hb d_OM_isAction_171 rfl (lv_at hl 4 rfl) ?_
                refine lv_iconst (v := 1) hx hb d_OM_isAction_172 (by decide) ?_
                refine lv_icmp_lt (tgt := 195) hx hb d_OM_isAction_173 (by decide) (fun c_405 => ?_) (fun c_405 => ?_)
                · skip
                  refine lv_iconst (v := 0) hx hb d_OM_isAction_195 (by decide) ?_
                  obtain ⟨hP9, hD9, -⟩ := cut3 (wc := []) hP hD rfl hS hA [] (by decide +kernel) rfl
                  have hK9 := hK.sub (tys' := []) [] rfl
                  refine W.widen (k := 0) (n := 0) (by exact Nat.le_of_ble_eq_true rfl) (by exact Nat.le_of_ble_eq_true rfl) ?_
                  exact W.zret (v := 0) (ty := .boolean) hx hb hr (by decide) (fun t ht hW => ⟨⟨0, (), rfl, trivial, by rw [ht]; exact hP9, va_K.moved hW.alike hK9, hD9⟩, hS.F ht⟩) hS.2.2 d_OM_isAction_196
                · skip
                  refine lv_iload_n hx hb d_OM_isAction_176 rfl (lv_at hl 4 rfl) ?_
                  refine lv_iconst (v := 3) hx hb d_OM_isAction_177 (by decide) ?_
                  refine lv_icmp_gt (tgt := 195) hx hb d_OM_isAction_178 (by decide) (fun c_406 => ?_) (fun c_406 => ?_)
                  · skip
                    exfalso
                    simp only [Int32.lt_iff_toInt_lt, Int32.le_iff_toInt_le, ← Int32.toInt_inj] at c_327 c_345 c_405 c_406
                    have k0 : (0 : Int32).toInt = 0 := by decide
                    have k1 : (1 : Int32).toInt = 1 := by decide
                    have k3 : (3 : Int32).toInt = 3 := by decide
                    omega
                  · skip
                    refine lv_iload hx hb d_OM_isAction_181 (lv_at hl 1 rfl) ?_
                    refine lv_if_eq (tgt := 195) hx hb d_OM_isAction_183 (by decide) (fun c_407 => ?_) (fun c_407 => absurd c_407 (by decide))
                    refine tp_pc (pc' := 195) (by rfl) ?_
                    refine lv_iconst (v := 0) hx hb d_OM_isAction_195 (by decide) ?_
                    obtain ⟨hP9, hD9, -⟩ := cut3 (wc := []) hP hD rfl hS hA [] (by decide +kernel) rfl
                    have hK9 := hK.sub (tys' := []) [] rfl
                    refine W.widen (k := 0) (n := 0) (by exact Nat.le_of_ble_eq_true rfl) (by exact Nat.le_of_ble_eq_true rfl) ?_
                    exact W.zret (v := 0) (ty := .boolean) hx hb hr (by decide) (fun t ht hW => ⟨⟨0, (), rfl, trivial, by rw [ht]; exact hP9, va_K.moved hW.alike hK9, hD9⟩, hS.F ht⟩) hS.2.2 d_OM_isAction_196
          · skip
            refine lv_iconst (v := 1) hx hb d_OM_isAction_25 (by decide) ?_
            refine lv_goto (tgt := 30) hx hb d_OM_isAction_26 (by decide) ?_
            refine tp_pc (pc' := 30) (by rfl) ?_
            refine lv_istore (lv' := [(5, .int 1), (4, .int 1), (0, .int 5), (1, .int p1), (2, .int p2), (3, .int p3)]) hx hb d_OM_isAction_30 hl (by decide) rfl ?_
            clear hl ls
            intro ls hl
            refine lv_iload_n hx hb d_OM_isAction_32 rfl (lv_at hl 5 rfl) ?_
            refine lv_bipush (v := (-9)) hx hb d_OM_isAction_33 (by decide) ?_
            refine lv_icmp_lt (tgt := 48) hx hb d_OM_isAction_35 (by decide) (fun c_408 => ?_) (fun c_408 => ?_)
            · skip
              refine lv_iconst (v := 0) hx hb d_OM_isAction_48 (by decide) ?_
              refine lv_istore (lv' := [(6, .int 0), (5, .int 1), (4, .int 1), (0, .int 5), (1, .int p1), (2, .int p2), (3, .int p3)]) hx hb d_OM_isAction_49 hl (by decide) rfl ?_
              clear hl ls
              intro ls hl
              refine lv_iload_n hx hb d_OM_isAction_51 rfl (lv_at hl 3 rfl) ?_
              refine lv_tableIn (x := 5) (tgt := 171) hx hb d_OM_isAction_52 (by decide) (by decide) (by rfl) (by decide) ?_
              refine tp_pc (pc' := 171) (by rfl) ?_
              refine lv_iload_n hx hb d_OM_isAction_171 rfl (lv_at hl 4 rfl) ?_
              refine lv_iconst (v := 1) hx hb d_OM_isAction_172 (by decide) ?_
              refine lv_icmp_lt (tgt := 195) hx hb d_OM_isAction_173 (by decide) (fun c_409 => ?_) (fun c_409 => ?_)
              · skip
                refine lv_iconst (v := 0) hx hb d_OM_isAction_195 (by decide) ?_
                obtain ⟨hP9, hD9, -⟩ := cut3 (wc := []) hP hD rfl hS hA [] (by decide +kernel) rfl
                have hK9 := hK.sub (tys' := []) [] rfl
                refine W.widen (k := 0) (n := 0) (by exact Nat.le_of_ble_eq_true rfl) (by exact Nat.le_of_ble_eq_true rfl) ?_
                exact W.zret (v := 0) (ty := .boolean) hx hb hr (by decide) (fun t ht hW => ⟨⟨0, (), rfl, trivial, by rw [ht]; exact hP9, va_K.moved hW.alike hK9, hD9⟩, hS.F ht⟩) hS.2.2 d_OM_isAction_196
              · skip
                refine lv_iload_n hx hb d_OM_isAction_176 rfl (lv_at hl 4 rfl) ?_
                refine lv_iconst (v := 3) hx hb d_OM_isAction_177 (by decide) ?_
                refine lv_icmp_gt (tgt := 195) hx hb d_OM_isAction_178 (by decide) (fun c_410 => ?_) (fun c_410 => ?_)
                · skip
                  exfalso
                  simp only [Int32.lt_iff_toInt_lt, Int32.le_iff_toInt_le, ← Int32.toInt_inj] at c_327 c_345 c_409 c_410
                  have k0 : (0 : Int32).toInt = 0 := by decide
                  have k1 : (1 : Int32).toInt = 1 := by decide
                  have k3 : (3 : Int32).toInt = 3 := by decide
                  omega
                · skip
                  refine lv_iload hx hb d_OM_isAction_181 (lv_at hl 1 rfl) ?_
                  refine lv_if_eq (tgt := 195) hx hb d_OM_isAction_183 (by decide) (fun c_411 => absurd c_411 (by decide)) (fun c_411 => ?_)
                  refine tp_pc (pc' := 186) (by rfl) ?_
                  refine lv_iload hx hb d_OM_isAction_186 (lv_at hl 0 rfl) ?_
                  refine lv_if_eq (tgt := 195) hx hb d_OM_isAction_188 (by decide) (fun c_412 => ?_) (fun c_412 => absurd c_412 (by decide))
                  refine tp_pc (pc' := 195) (by rfl) ?_
                  refine lv_iconst (v := 0) hx hb d_OM_isAction_195 (by decide) ?_
                  obtain ⟨hP9, hD9, -⟩ := cut3 (wc := []) hP hD rfl hS hA [] (by decide +kernel) rfl
                  have hK9 := hK.sub (tys' := []) [] rfl
                  refine W.widen (k := 0) (n := 0) (by exact Nat.le_of_ble_eq_true rfl) (by exact Nat.le_of_ble_eq_true rfl) ?_
                  exact W.zret (v := 0) (ty := .boolean) hx hb hr (by decide) (fun t ht hW => ⟨⟨0, (), rfl, trivial, by rw [ht]; exact hP9, va_K.moved hW.alike hK9, hD9⟩, hS.F ht⟩) hS.2.2 d_OM_isAction_196
            · skip
              refine lv_iload_n hx hb d_OM_isAction_38 rfl (lv_at hl 5 rfl) ?_
              refine lv_bipush (v := 9) hx hb d_OM_isAction_39 (by decide) ?_
              refine lv_icmp_gt (tgt := 48) hx hb d_OM_isAction_41 (by decide) (fun c_413 => ?_) (fun c_413 => ?_)
              · skip
                refine lv_iconst (v := 0) hx hb d_OM_isAction_48 (by decide) ?_
                refine lv_istore (lv' := [(6, .int 0), (5, .int 1), (4, .int 1), (0, .int 5), (1, .int p1), (2, .int p2), (3, .int p3)]) hx hb d_OM_isAction_49 hl (by decide) rfl ?_
                clear hl ls
                intro ls hl
                refine lv_iload_n hx hb d_OM_isAction_51 rfl (lv_at hl 3 rfl) ?_
                refine lv_tableIn (x := 5) (tgt := 171) hx hb d_OM_isAction_52 (by decide) (by decide) (by rfl) (by decide) ?_
                refine tp_pc (pc' := 171) (by rfl) ?_
                refine lv_iload_n hx hb d_OM_isAction_171 rfl (lv_at hl 4 rfl) ?_
                refine lv_iconst (v := 1) hx hb d_OM_isAction_172 (by decide) ?_
                refine lv_icmp_lt (tgt := 195) hx hb d_OM_isAction_173 (by decide) (fun c_414 => ?_) (fun c_414 => ?_)
                · skip
                  refine lv_iconst (v := 0) hx hb d_OM_isAction_195 (by decide) ?_
                  obtain ⟨hP9, hD9, -⟩ := cut3 (wc := []) hP hD rfl hS hA [] (by decide +kernel) rfl
                  have hK9 := hK.sub (tys' := []) [] rfl
                  refine W.widen (k := 0) (n := 0) (by exact Nat.le_of_ble_eq_true rfl) (by exact Nat.le_of_ble_eq_true rfl) ?_
                  exact W.zret (v := 0) (ty := .boolean) hx hb hr (by decide) (fun t ht hW => ⟨⟨0, (), rfl, trivial, by rw [ht]; exact hP9, va_K.moved hW.alike hK9, hD9⟩, hS.F ht⟩) hS.2.2 d_OM_isAction_196
                · skip
                  refine lv_iload_n hx hb d_OM_isAction_176 rfl (lv_at hl 4 rfl) ?_
                  refine lv_iconst (v := 3) hx hb d_OM_isAction_177 (by decide) ?_
                  refine lv_icmp_gt (tgt := 195) hx hb d_OM_isAction_178 (by decide) (fun c_415 => ?_) (fun c_415 => ?_)
                  · skip
                    exfalso
                    simp only [Int32.lt_iff_toInt_lt, Int32.le_iff_toInt_le, ← Int32.toInt_inj] at c_327 c_345 c_414 c_415
                    have k0 : (0 : Int32).toInt = 0 := by decide
                    have k1 : (1 : Int32).toInt = 1 := by decide
                    have k3 : (3 : Int32).toInt = 3 := by decide
                    omega
                  · skip
                    refine lv_iload hx hb d_OM_isAction_181 (lv_at hl 1 rfl) ?_
                    refine lv_if_eq (tgt := 195) hx hb d_OM_isAction_183 (by decide) (fun c_416 => absurd c_416 (by decide)) (fun c_416 => ?_)
                    refine tp_pc (pc' := 186) (by rfl) ?_
                    refine lv_iload hx hb d_OM_isAction_186 (lv_at hl 0 rfl) ?_
                    refine lv_if_eq (tgt := 195) hx hb d_OM_isAction_188 (by decide) (fun c_417 => ?_) (fun c_417 => absurd c_417 (by decide))
                    refine tp_pc (pc' := 195) (by rfl) ?_
                    refine lv_iconst (v := 0) hx hb d_OM_isAction_195 (by decide) ?_
                    obtain ⟨hP9, hD9, -⟩ := cut3 (wc := []) hP hD rfl hS hA [] (by decide +kernel) rfl
                    have hK9 := hK.sub (tys' := []) [] rfl
                    refine W.widen (k := 0) (n := 0) (by exact Nat.le_of_ble_eq_true rfl) (by exact Nat.le_of_ble_eq_true rfl) ?_
                    exact W.zret (v := 0) (ty := .boolean) hx hb hr (by decide) (fun t ht hW => ⟨⟨0, (), rfl, trivial, by rw [ht]; exact hP9, va_K.moved hW.alike hK9, hD9⟩, hS.F ht⟩) hS.2.2 d_OM_isAction_196
              · skip
                refine lv_iconst (v := 1) hx hb d_OM_isAction_44 (by decide) ?_
                refine lv_goto (tgt := 49) hx hb d_OM_isAction_45 (by decide) ?_
                refine tp_pc (pc' := 49) (by rfl) ?_
                refine lv_istore (lv' := [(6, .int 1), (5, .int 1), (4, .int 1), (0, .int 5), (1, .int p1), (2, .int p2), (3, .int p3)]) hx hb d_OM_isAction_49 hl (by decide) rfl ?_
                clear hl ls
                intro ls hl
                refine lv_iload_n hx hb d_OM_isAction_51 rfl (lv_at hl 3 rfl) ?_
                refine lv_tableIn (x := 5) (tgt := 171) hx hb d_OM_isAction_52 (by decide) (by decide) (by rfl) (by decide) ?_
                refine tp_pc (pc' := 171) (by rfl) ?_
                refine lv_iload_n hx hb d_OM_isAction_171 rfl (lv_at hl 4 rfl) ?_
                refine lv_iconst (v := 1) hx hb d_OM_isAction_172 (by decide) ?_
                refine lv_icmp_lt (tgt := 195) hx hb d_OM_isAction_173 (by decide) (fun c_418 => ?_) (fun c_418 => ?_)
                · skip
                  refine lv_iconst (v := 0) hx hb d_OM_isAction_195 (by decide) ?_
                  obtain ⟨hP9, hD9, -⟩ := cut3 (wc := []) hP hD rfl hS hA [] (by decide +kernel) rfl
                  have hK9 := hK.sub (tys' := []) [] rfl
                  refine W.widen (k := 0) (n := 0) (by exact Nat.le_of_ble_eq_true rfl) (by exact Nat.le_of_ble_eq_true rfl) ?_
                  exact W.zret (v := 0) (ty := .boolean) hx hb hr (by decide) (fun t ht hW => ⟨⟨0, (), rfl, trivial, by rw [ht]; exact hP9, va_K.moved hW.alike hK9, hD9⟩, hS.F ht⟩) hS.2.2 d_OM_isAction_196
                · skip
                  refine lv_iload_n hx hb d_OM_isAction_176 rfl (lv_at hl 4 rfl) ?_
                  refine lv_iconst (v := 3) hx hb d_OM_isAction_177 (by decide) ?_
                  refine lv_icmp_gt (tgt := 195) hx hb d_OM_isAction_178 (by decide) (fun c_419 => ?_) (fun c_419 => ?_)
                  · skip
                    exfalso
                    simp only [Int32.lt_iff_toInt_lt, Int32.le_iff_toInt_le, ← Int32.toInt_inj] at c_327 c_345 c_418 c_419
                    have k0 : (0 : Int32).toInt = 0 := by decide
                    have k1 : (1 : Int32).toInt = 1 := by decide
                    have k3 : (3 : Int32).toInt = 3 := by decide
                    omega
                  · skip
                    refine lv_iload hx hb d_OM_isAction_181 (lv_at hl 1 rfl) ?_
                    refine lv_if_eq (tgt := 195) hx hb d_OM_isAction_183 (by decide) (fun c_420 => absurd c_420 (by decide)) (fun c_420 => ?_)
                    refine tp_pc (pc' := 186) (by rfl) ?_
                    refine lv_iload hx hb d_OM_isAction_186 (lv_at hl 0 rfl) ?_
                    refine lv_if_eq (tgt := 195) hx hb d_OM_isAction_188 (by decide) (fun c_421 => absurd c_421 (by decide)) (fun c_421 => ?_)
                    refine tp_pc (pc' := 191) (by rfl) ?_
                    refine lv_iconst (v := 1) hx hb d_OM_isAction_191 (by decide) ?_
                    refine lv_goto (tgt := 196) hx hb d_OM_isAction_192 (by decide) ?_
                    refine tp_pc (pc' := 196) (by rfl) ?_
                    obtain ⟨hP9, hD9, -⟩ := cut3 (wc := []) hP hD rfl hS hA [] (by decide +kernel) rfl
                    have hK9 := hK.sub (tys' := []) [] rfl
                    refine W.widen (k := 0) (n := 0) (by exact Nat.le_of_ble_eq_true rfl) (by exact Nat.le_of_ble_eq_true rfl) ?_
                    exact W.zret (v := 1) (ty := .boolean) hx hb hr (by decide) (fun t ht hW => ⟨⟨1, (), rfl, trivial, by rw [ht]; exact hP9, va_K.moved hW.alike hK9, hD9⟩, hS.F ht⟩) hS.2.2 d_OM_isAction_196
  · skip
    refine lv_iload_n hx hb d_OM_isAction_0 rfl (lv_at hl 1 rfl) ?_
    refine lv_if_lt (tgt := 13) hx hb d_OM_isAction_1 (by decide) (fun c_422 => ?_) (fun c_422 => ?_)
    · skip
      refine lv_iconst (v := 0) hx hb d_OM_isAction_13 (by decide) ?_
      refine lv_istore (lv' := [(4, .int 0), (0, .int p0), (1, .int p1), (2, .int p2), (3, .int p3)]) hx hb d_OM_isAction_14 hl (by decide) rfl ?_
      clear hl ls
      intro ls hl
      refine lv_iload_n hx hb d_OM_isAction_16 rfl (lv_at hl 3 rfl) ?_
      refine lv_if_lt (tgt := 29) hx hb d_OM_isAction_17 (by decide) (fun c_423 => ?_) (fun c_423 => ?_)
      · skip
        refine lv_iconst (v := 0) hx hb d_OM_isAction_29 (by decide) ?_
        refine lv_istore (lv' := [(5, .int 0), (4, .int 0), (0, .int p0), (1, .int p1), (2, .int p2), (3, .int p3)]) hx hb d_OM_isAction_30 hl (by decide) rfl ?_
        clear hl ls
        intro ls hl
        refine lv_iload_n hx hb d_OM_isAction_32 rfl (lv_at hl 5 rfl) ?_
        refine lv_bipush (v := (-9)) hx hb d_OM_isAction_33 (by decide) ?_
        refine lv_icmp_lt (tgt := 48) hx hb d_OM_isAction_35 (by decide) (fun c_424 => ?_) (fun c_424 => ?_)
        · skip
          refine lv_iconst (v := 0) hx hb d_OM_isAction_48 (by decide) ?_
          refine lv_istore (lv' := [(6, .int 0), (5, .int 0), (4, .int 0), (0, .int p0), (1, .int p1), (2, .int p2), (3, .int p3)]) hx hb d_OM_isAction_49 hl (by decide) rfl ?_
          clear hl ls
          intro ls hl
          refine lv_iload_n hx hb d_OM_isAction_51 rfl (lv_at hl 3 rfl) ?_
          refine lv_tableOut (tgt := 197) hx hb d_OM_isAction_52 hs_1 (by decide) ?_
          refine tp_pc (pc' := 197) (by rfl) ?_
          refine lv_iconst (v := 0) hx hb d_OM_isAction_197 (by decide) ?_
          obtain ⟨hP9, hD9, -⟩ := cut3 (wc := []) hP hD rfl hS hA [] (by decide +kernel) rfl
          have hK9 := hK.sub (tys' := []) [] rfl
          refine W.widen (k := 0) (n := 0) (by exact Nat.le_of_ble_eq_true rfl) (by exact Nat.le_of_ble_eq_true rfl) ?_
          exact W.zret (v := 0) (ty := .boolean) hx hb hr (by decide) (fun t ht hW => ⟨⟨0, (), rfl, trivial, by rw [ht]; exact hP9, va_K.moved hW.alike hK9, hD9⟩, hS.F ht⟩) hS.2.2 d_OM_isAction_198
        · skip
          refine lv_iload_n hx hb d_OM_isAction_38 rfl (lv_at hl 5 rfl) ?_
          refine lv_bipush (v := 9) hx hb d_OM_isAction_39 (by decide) ?_
          refine lv_icmp_gt (tgt := 48) hx hb d_OM_isAction_41 (by decide) (fun c_425 => ?_) (fun c_425 => ?_)
          · skip
            refine lv_iconst (v := 0) hx hb d_OM_isAction_48 (by decide) ?_
            refine lv_istore (lv' := [(6, .int 0), (5, .int 0), (4, .int 0), (0, .int p0), (1, .int p1), (2, .int p2), (3, .int p3)]) hx hb d_OM_isAction_49 hl (by decide) rfl ?_
            clear hl ls
            intro ls hl
            refine lv_iload_n hx hb d_OM_isAction_51 rfl (lv_at hl 3 rfl) ?_
            refine lv_tableOut (tgt := 197) hx hb d_OM_isAction_52 hs_1 (by decide) ?_
            refine tp_pc (pc' := 197) (by rfl) ?_
            refine lv_iconst (v := 0) hx hb d_OM_isAction_197 (by decide) ?_
            obtain ⟨hP9, hD9, -⟩ := cut3 (wc := []) hP hD rfl hS hA [] (by decide +kernel) rfl
            have hK9 := hK.sub (tys' := []) [] rfl
            refine W.widen (k := 0) (n := 0) (by exact Nat.le_of_ble_eq_true rfl) (by exact Nat.le_of_ble_eq_true rfl) ?_
            exact W.zret (v := 0) (ty := .boolean) hx hb hr (by decide) (fun t ht hW => ⟨⟨0, (), rfl, trivial, by rw [ht]; exact hP9, va_K.moved hW.alike hK9, hD9⟩, hS.F ht⟩) hS.2.2 d_OM_isAction_198
          · skip
            refine lv_iconst (v := 1) hx hb d_OM_isAction_44 (by decide) ?_
            refine lv_goto (tgt := 49) hx hb d_OM_isAction_45 (by decide) ?_
            refine tp_pc (pc' := 49) (by rfl) ?_
            refine lv_istore (lv' := [(6, .int 1), (5, .int 0), (4, .int 0), (0, .int p0), (1, .int p1), (2, .int p2), (3, .int p3)]) hx hb d_OM_isAction_49 hl (by decide) rfl ?_
            clear hl ls
            intro ls hl
            refine lv_iload_n hx hb d_OM_isAction_51 rfl (lv_at hl 3 rfl) ?_
            refine lv_tableOut (tgt := 197) hx hb d_OM_isAction_52 hs_1 (by decide) ?_
            refine tp_pc (pc' := 197) (by rfl) ?_
            refine lv_iconst (v := 0) hx hb d_OM_isAction_197 (by decide) ?_
            obtain ⟨hP9, hD9, -⟩ := cut3 (wc := []) hP hD rfl hS hA [] (by decide +kernel) rfl
            have hK9 := hK.sub (tys' := []) [] rfl
            refine W.widen (k := 0) (n := 0) (by exact Nat.le_of_ble_eq_true rfl) (by exact Nat.le_of_ble_eq_true rfl) ?_
            exact W.zret (v := 0) (ty := .boolean) hx hb hr (by decide) (fun t ht hW => ⟨⟨0, (), rfl, trivial, by rw [ht]; exact hP9, va_K.moved hW.alike hK9, hD9⟩, hS.F ht⟩) hS.2.2 d_OM_isAction_198
      · skip
        refine lv_iload_n hx hb d_OM_isAction_20 rfl (lv_at hl 3 rfl) ?_
        refine lv_iconst (v := 2) hx hb d_OM_isAction_21 (by decide) ?_
        refine lv_icmp_ge (tgt := 29) hx hb d_OM_isAction_22 (by decide) (fun c_426 => ?_) (fun c_426 => ?_)
        · skip
          refine lv_iconst (v := 0) hx hb d_OM_isAction_29 (by decide) ?_
          refine lv_istore (lv' := [(5, .int 0), (4, .int 0), (0, .int p0), (1, .int p1), (2, .int p2), (3, .int p3)]) hx hb d_OM_isAction_30 hl (by decide) rfl ?_
          clear hl ls
          intro ls hl
          refine lv_iload_n hx hb d_OM_isAction_32 rfl (lv_at hl 5 rfl) ?_
          refine lv_bipush (v := (-9)) hx hb d_OM_isAction_33 (by decide) ?_
          refine lv_icmp_lt (tgt := 48) hx hb d_OM_isAction_35 (by decide) (fun c_427 => ?_) (fun c_427 => ?_)
          · skip
            refine lv_iconst (v := 0) hx hb d_OM_isAction_48 (by decide) ?_
            refine lv_istore (lv' := [(6, .int 0), (5, .int 0), (4, .int 0), (0, .int p0), (1, .int p1), (2, .int p2), (3, .int p3)]) hx hb d_OM_isAction_49 hl (by decide) rfl ?_
            clear hl ls
            intro ls hl
            refine lv_iload_n hx hb d_OM_isAction_51 rfl (lv_at hl 3 rfl) ?_
            refine lv_tableOut (tgt := 197) hx hb d_OM_isAction_52 hs_1 (by decide) ?_
            refine tp_pc (pc' := 197) (by rfl) ?_
            refine lv_iconst (v := 0) hx hb d_OM_isAction_197 (by decide) ?_
            obtain ⟨hP9, hD9, -⟩ := cut3 (wc := []) hP hD rfl hS hA [] (by decide +kernel) rfl
            have hK9 := hK.sub (tys' := []) [] rfl
            refine W.widen (k := 0) (n := 0) (by exact Nat.le_of_ble_eq_true rfl) (by exact Nat.le_of_ble_eq_true rfl) ?_
            exact W.zret (v := 0) (ty := .boolean) hx hb hr (by decide) (fun t ht hW => ⟨⟨0, (), rfl, trivial, by rw [ht]; exact hP9, va_K.moved hW.alike hK9, hD9⟩, hS.F ht⟩) hS.2.2 d_OM_isAction_198
          · skip
            refine lv_iload_n hx hb d_OM_isAction_38 rfl (lv_at hl 5 rfl) ?_
            refine lv_bipush (v := 9) hx hb d_OM_isAction_39 (by decide) ?_
            refine lv_icmp_gt (tgt := 48) hx hb d_OM_isAction_41 (by decide) (fun c_428 => ?_) (fun c_428 => ?_)
            · skip
              refine lv_iconst (v := 0) hx hb d_OM_isAction_48 (by decide) ?_
              refine lv_istore (lv' := [(6, .int 0), (5, .int 0), (4, .int 0), (0, .int p0), (1, .int p1), (2, .int p2), (3, .int p3)]) hx hb d_OM_isAction_49 hl (by decide) rfl ?_
              clear hl ls
              intro ls hl
              refine lv_iload_n hx hb d_OM_isAction_51 rfl (lv_at hl 3 rfl) ?_
              refine lv_tableOut (tgt := 197) hx hb d_OM_isAction_52 hs_1 (by decide) ?_
              refine tp_pc (pc' := 197) (by rfl) ?_
              refine lv_iconst (v := 0) hx hb d_OM_isAction_197 (by decide) ?_
              obtain ⟨hP9, hD9, -⟩ := cut3 (wc := []) hP hD rfl hS hA [] (by decide +kernel) rfl
              have hK9 := hK.sub (tys' := []) [] rfl
              refine W.widen (k := 0) (n := 0) (by exact Nat.le_of_ble_eq_true rfl) (by exact Nat.le_of_ble_eq_true rfl) ?_
              exact W.zret (v := 0) (ty := .boolean) hx hb hr (by decide) (fun t ht hW => ⟨⟨0, (), rfl, trivial, by rw [ht]; exact hP9, va_K.moved hW.alike hK9, hD9⟩, hS.F ht⟩) hS.2.2 d_OM_isAction_198
            · skip
              refine lv_iconst (v := 1) hx hb d_OM_isAction_44 (by decide) ?_
              refine lv_goto (tgt := 49) hx hb d_OM_isAction_45 (by decide) ?_
              refine tp_pc (pc' := 49) (by rfl) ?_
              refine lv_istore (lv' := [(6, .int 1), (5, .int 0), (4, .int 0), (0, .int p0), (1, .int p1), (2, .int p2), (3, .int p3)]) hx hb d_OM_isAction_49 hl (by decide) rfl ?_
              clear hl ls
              intro ls hl
              refine lv_iload_n hx hb d_OM_isAction_51 rfl (lv_at hl 3 rfl) ?_
              refine lv_tableOut (tgt := 197) hx hb d_OM_isAction_52 hs_1 (by decide) ?_
              refine tp_pc (pc' := 197) (by rfl) ?_
              refine lv_iconst (v := 0) hx hb d_OM_isAction_197 (by decide) ?_
              obtain ⟨hP9, hD9, -⟩ := cut3 (wc := []) hP hD rfl hS hA [] (by decide +kernel) rfl
              have hK9 := hK.sub (tys' := []) [] rfl
              refine W.widen (k := 0) (n := 0) (by exact Nat.le_of_ble_eq_true rfl) (by exact Nat.le_of_ble_eq_true rfl) ?_
              exact W.zret (v := 0) (ty := .boolean) hx hb hr (by decide) (fun t ht hW => ⟨⟨0, (), rfl, trivial, by rw [ht]; exact hP9, va_K.moved hW.alike hK9, hD9⟩, hS.F ht⟩) hS.2.2 d_OM_isAction_198
        · skip
          refine lv_iconst (v := 1) hx hb d_OM_isAction_25 (by decide) ?_
          refine lv_goto (tgt := 30) hx hb d_OM_isAction_26 (by decide) ?_
          refine tp_pc (pc' := 30) (by rfl) ?_
          refine lv_istore (lv' := [(5, .int 1), (4, .int 0), (0, .int p0), (1, .int p1), (2, .int p2), (3, .int p3)]) hx hb d_OM_isAction_30 hl (by decide) rfl ?_
          clear hl ls
          intro ls hl
          refine lv_iload_n hx hb d_OM_isAction_32 rfl (lv_at hl 5 rfl) ?_
          refine lv_bipush (v := (-9)) hx hb d_OM_isAction_33 (by decide) ?_
          refine lv_icmp_lt (tgt := 48) hx hb d_OM_isAction_35 (by decide) (fun c_429 => ?_) (fun c_429 => ?_)
          · skip
            refine lv_iconst (v := 0) hx hb d_OM_isAction_48 (by decide) ?_
            refine lv_istore (lv' := [(6, .int 0), (5, .int 1), (4, .int 0), (0, .int p0), (1, .int p1), (2, .int p2), (3, .int p3)]) hx hb d_OM_isAction_49 hl (by decide) rfl ?_
            clear hl ls
            intro ls hl
            refine lv_iload_n hx hb d_OM_isAction_51 rfl (lv_at hl 3 rfl) ?_
            refine lv_tableOut (tgt := 197) hx hb d_OM_isAction_52 hs_1 (by decide) ?_
            refine tp_pc (pc' := 197) (by rfl) ?_
            refine lv_iconst (v := 0) hx hb d_OM_isAction_197 (by decide) ?_
            obtain ⟨hP9, hD9, -⟩ := cut3 (wc := []) hP hD rfl hS hA [] (by decide +kernel) rfl
            have hK9 := hK.sub (tys' := []) [] rfl
            refine W.widen (k := 0) (n := 0) (by exact Nat.le_of_ble_eq_true rfl) (by exact Nat.le_of_ble_eq_true rfl) ?_
            exact W.zret (v := 0) (ty := .boolean) hx hb hr (by decide) (fun t ht hW => ⟨⟨0, (), rfl, trivial, by rw [ht]; exact hP9, va_K.moved hW.alike hK9, hD9⟩, hS.F ht⟩) hS.2.2 d_OM_isAction_198
          · skip
            refine lv_iload_n hx hb d_OM_isAction_38 rfl (lv_at hl 5 rfl) ?_
            refine lv_bipush (v := 9) hx hb d_OM_isAction_39 (by decide) ?_
            refine lv_icmp_gt (tgt := 48) hx hb d_OM_isAction_41 (by decide) (fun c_430 => ?_) (fun c_430 => ?_)
            · skip
              refine lv_iconst (v := 0) hx hb d_OM_isAction_48 (by decide) ?_
              refine lv_istore (lv' := [(6, .int 0), (5, .int 1), (4, .int 0), (0, .int p0), (1, .int p1), (2, .int p2), (3, .int p3)]) hx hb d_OM_isAction_49 hl (by decide) rfl ?_
              clear hl ls
              intro ls hl
              refine lv_iload_n hx hb d_OM_isAction_51 rfl (lv_at hl 3 rfl) ?_
              refine lv_tableOut (tgt := 197) hx hb d_OM_isAction_52 hs_1 (by decide) ?_
              refine tp_pc (pc' := 197) (by rfl) ?_
              refine lv_iconst (v := 0) hx hb d_OM_isAction_197 (by decide) ?_
              obtain ⟨hP9, hD9, -⟩ := cut3 (wc := []) hP hD rfl hS hA [] (by decide +kernel) rfl
              have hK9 := hK.sub (tys' := []) [] rfl
              refine W.widen (k := 0) (n := 0) (by exact Nat.le_of_ble_eq_true rfl) (by exact Nat.le_of_ble_eq_true rfl) ?_
              exact W.zret (v := 0) (ty := .boolean) hx hb hr (by decide) (fun t ht hW => ⟨⟨0, (), rfl, trivial, by rw [ht]; exact hP9, va_K.moved hW.alike hK9, hD9⟩, hS.F ht⟩) hS.2.2 d_OM_isAction_198
            · skip
              refine lv_iconst (v := 1) hx hb d_OM_isAction_44 (by decide) ?_
              refine lv_goto (tgt := 49) hx hb d_OM_isAction_45 (by decide) ?_
              refine tp_pc (pc' := 49) (by rfl) ?_
              refine lv_istore (lv' := [(6, .int 1), (5, .int 1), (4, .int 0), (0, .int p0), (1, .int p1), (2, .int p2), (3, .int p3)]) hx hb d_OM_isAction_49 hl (by decide) rfl ?_
              clear hl ls
              intro ls hl
              refine lv_iload_n hx hb d_OM_isAction_51 rfl (lv_at hl 3 rfl) ?_
              refine lv_tableOut (tgt := 197) hx hb d_OM_isAction_52 hs_1 (by decide) ?_
              refine tp_pc (pc' := 197) (by rfl) ?_
              refine lv_iconst (v := 0) hx hb d_OM_isAction_197 (by decide) ?_
              obtain ⟨hP9, hD9, -⟩ := cut3 (wc := []) hP hD rfl hS hA [] (by decide +kernel) rfl
              have hK9 := hK.sub (tys' := []) [] rfl
              refine W.widen (k := 0) (n := 0) (by exact Nat.le_of_ble_eq_true rfl) (by exact Nat.le_of_ble_eq_true rfl) ?_
              exact W.zret (v := 0) (ty := .boolean) hx hb hr (by decide) (fun t ht hW => ⟨⟨0, (), rfl, trivial, by rw [ht]; exact hP9, va_K.moved hW.alike hK9, hD9⟩, hS.F ht⟩) hS.2.2 d_OM_isAction_198
    · skip
      refine lv_iload_n hx hb d_OM_isAction_4 rfl (lv_at hl 1 rfl) ?_
      refine lv_iconst (v := 3) hx hb d_OM_isAction_5 (by decide) ?_
      refine lv_icmp_ge (tgt := 13) hx hb d_OM_isAction_6 (by decide) (fun c_431 => ?_) (fun c_431 => ?_)
      · skip
        refine lv_iconst (v := 0) hx hb d_OM_isAction_13 (by decide) ?_
        refine lv_istore (lv' := [(4, .int 0), (0, .int p0), (1, .int p1), (2, .int p2), (3, .int p3)]) hx hb d_OM_isAction_14 hl (by decide) rfl ?_
        clear hl ls
        intro ls hl
        refine lv_iload_n hx hb d_OM_isAction_16 rfl (lv_at hl 3 rfl) ?_
        refine lv_if_lt (tgt := 29) hx hb d_OM_isAction_17 (by decide) (fun c_432 => ?_) (fun c_432 => ?_)
        · skip
          refine lv_iconst (v := 0) hx hb d_OM_isAction_29 (by decide) ?_
          refine lv_istore (lv' := [(5, .int 0), (4, .int 0), (0, .int p0), (1, .int p1), (2, .int p2), (3, .int p3)]) hx hb d_OM_isAction_30 hl (by decide) rfl ?_
          clear hl ls
          intro ls hl
          refine lv_iload_n hx hb d_OM_isAction_32 rfl (lv_at hl 5 rfl) ?_
          refine lv_bipush (v := (-9)) hx hb d_OM_isAction_33 (by decide) ?_
          refine lv_icmp_lt (tgt := 48) hx hb d_OM_isAction_35 (by decide) (fun c_433 => ?_) (fun c_433 => ?_)
          · skip
            refine lv_iconst (v := 0) hx hb d_OM_isAction_48 (by decide) ?_
            refine lv_istore (lv' := [(6, .int 0), (5, .int 0), (4, .int 0), (0, .int p0), (1, .int p1), (2, .int p2), (3, .int p3)]) hx hb d_OM_isAction_49 hl (by decide) rfl ?_
            clear hl ls
            intro ls hl
            refine lv_iload_n hx hb d_OM_isAction_51 rfl (lv_at hl 3 rfl) ?_
            refine lv_tableOut (tgt := 197) hx hb d_OM_isAction_52 hs_1 (by decide) ?_
            refine tp_pc (pc' := 197) (by rfl) ?_
            refine lv_iconst (v := 0) hx hb d_OM_isAction_197 (by decide) ?_
            obtain ⟨hP9, hD9, -⟩ := cut3 (wc := []) hP hD rfl hS hA [] (by decide +kernel) rfl
            have hK9 := hK.sub (tys' := []) [] rfl
            refine W.widen (k := 0) (n := 0) (by exact Nat.le_of_ble_eq_true rfl) (by exact Nat.le_of_ble_eq_true rfl) ?_
            exact W.zret (v := 0) (ty := .boolean) hx hb hr (by decide) (fun t ht hW => ⟨⟨0, (), rfl, trivial, by rw [ht]; exact hP9, va_K.moved hW.alike hK9, hD9⟩, hS.F ht⟩) hS.2.2 d_OM_isAction_198
          · skip
            refine lv_iload_n hx hb d_OM_isAction_38 rfl (lv_at hl 5 rfl) ?_
            refine lv_bipush (v := 9) hx hb d_OM_isAction_39 (by decide) ?_
            refine lv_icmp_gt (tgt := 48) hx hb d_OM_isAction_41 (by decide) (fun c_434 => ?_) (fun c_434 => ?_)
            · skip
              refine lv_iconst (v := 0) hx hb d_OM_isAction_48 (by decide) ?_
              refine lv_istore (lv' := [(6, .int 0), (5, .int 0), (4, .int 0), (0, .int p0), (1, .int p1), (2, .int p2), (3, .int p3)]) hx hb d_OM_isAction_49 hl (by decide) rfl ?_
              clear hl ls
              intro ls hl
              refine lv_iload_n hx hb d_OM_isAction_51 rfl (lv_at hl 3 rfl) ?_
              refine lv_tableOut (tgt := 197) hx hb d_OM_isAction_52 hs_1 (by decide) ?_
              refine tp_pc (pc' := 197) (by rfl) ?_
              refine lv_iconst (v := 0) hx hb d_OM_isAction_197 (by decide) ?_
              obtain ⟨hP9, hD9, -⟩ := cut3 (wc := []) hP hD rfl hS hA [] (by decide +kernel) rfl
              have hK9 := hK.sub (tys' := []) [] rfl
              refine W.widen (k := 0) (n := 0) (by exact Nat.le_of_ble_eq_true rfl) (by exact Nat.le_of_ble_eq_true rfl) ?_
              exact W.zret (v := 0) (ty := .boolean) hx hb hr (by decide) (fun t ht hW => ⟨⟨0, (), rfl, trivial, by rw [ht]; exact hP9, va_K.moved hW.alike hK9, hD9⟩, hS.F ht⟩) hS.2.2 d_OM_isAction_198
            · skip
              refine lv_iconst (v := 1) hx hb d_OM_isAction_44 (by decide) ?_
              refine lv_goto (tgt := 49) hx hb d_OM_isAction_45 (by decide) ?_
              refine tp_pc (pc' := 49) (by rfl) ?_
              refine lv_istore (lv' := [(6, .int 1), (5, .int 0), (4, .int 0), (0, .int p0), (1, .int p1), (2, .int p2), (3, .int p3)]) hx hb d_OM_isAction_49 hl (by decide) rfl ?_
              clear hl ls
              intro ls hl
              refine lv_iload_n hx hb d_OM_isAction_51 rfl (lv_at hl 3 rfl) ?_
              refine lv_tableOut (tgt := 197) hx hb d_OM_isAction_52 hs_1 (by decide) ?_
              refine tp_pc (pc' := 197) (by rfl) ?_
              refine lv_iconst (v := 0) hx hb d_OM_isAction_197 (by decide) ?_
              obtain ⟨hP9, hD9, -⟩ := cut3 (wc := []) hP hD rfl hS hA [] (by decide +kernel) rfl
              have hK9 := hK.sub (tys' := []) [] rfl
              refine W.widen (k := 0) (n := 0) (by exact Nat.le_of_ble_eq_true rfl) (by exact Nat.le_of_ble_eq_true rfl) ?_
              exact W.zret (v := 0) (ty := .boolean) hx hb hr (by decide) (fun t ht hW => ⟨⟨0, (), rfl, trivial, by rw [ht]; exact hP9, va_K.moved hW.alike hK9, hD9⟩, hS.F ht⟩) hS.2.2 d_OM_isAction_198
        · skip
          refine lv_iload_n hx hb d_OM_isAction_20 rfl (lv_at hl 3 rfl) ?_
          refine lv_iconst (v := 2) hx hb d_OM_isAction_21 (by decide) ?_
          refine lv_icmp_ge (tgt := 29) hx hb d_OM_isAction_22 (by decide) (fun c_435 => ?_) (fun c_435 => ?_)
          · skip
            refine lv_iconst (v := 0) hx hb d_OM_isAction_29 (by decide) ?_
            refine lv_istore (lv' := [(5, .int 0), (4, .int 0), (0, .int p0), (1, .int p1), (2, .int p2), (3, .int p3)]) hx hb d_OM_isAction_30 hl (by decide) rfl ?_
            clear hl ls
            intro ls hl
            refine lv_iload_n hx hb d_OM_isAction_32 rfl (lv_at hl 5 rfl) ?_
            refine lv_bipush (v := (-9)) hx hb d_OM_isAction_33 (by decide) ?_
            refine lv_icmp_lt (tgt := 48) hx hb d_OM_isAction_35 (by decide) (fun c_436 => ?_) (fun c_436 => ?_)
            · skip
              refine lv_iconst (v := 0) hx hb d_OM_isAction_48 (by decide) ?_
              refine lv_istore (lv' := [(6, .int 0), (5, .int 0), (4, .int 0), (0, .int p0), (1, .int p1), (2, .int p2), (3, .int p3)]) hx hb d_OM_isAction_49 hl (by decide) rfl ?_
              clear hl ls
              intro ls hl
              refine lv_iload_n hx hb d_OM_isAction_51 rfl (lv_at hl 3 rfl) ?_
              refine lv_tableOut (tgt := 197) hx hb d_OM_isAction_52 hs_1 (by decide) ?_
              refine tp_pc (pc' := 197) (by rfl) ?_
              refine lv_iconst (v := 0) hx hb d_OM_isAction_197 (by decide) ?_
              obtain ⟨hP9, hD9, -⟩ := cut3 (wc := []) hP hD rfl hS hA [] (by decide +kernel) rfl
              have hK9 := hK.sub (tys' := []) [] rfl
              refine W.widen (k := 0) (n := 0) (by exact Nat.le_of_ble_eq_true rfl) (by exact Nat.le_of_ble_eq_true rfl) ?_
              exact W.zret (v := 0) (ty := .boolean) hx hb hr (by decide) (fun t ht hW => ⟨⟨0, (), rfl, trivial, by rw [ht]; exact hP9, va_K.moved hW.alike hK9, hD9⟩, hS.F ht⟩) hS.2.2 d_OM_isAction_198
            · skip
              refine lv_iload_n hx hb d_OM_isAction_38 rfl (lv_at hl 5 rfl) ?_
              refine lv_bipush (v := 9) hx hb d_OM_isAction_39 (by decide) ?_
              refine lv_icmp_gt (tgt := 48) hx hb d_OM_isAction_41 (by decide) (fun c_437 => ?_) (fun c_437 => ?_)
              · skip
                refine lv_iconst (v := 0) hx hb d_OM_isAction_48 (by decide) ?_
                refine lv_istore (lv' := [(6, .int 0), (5, .int 0), (4, .int 0), (0, .int p0), (1, .int p1), (2, .int p2), (3, .int p3)]) hx hb d_OM_isAction_49 hl (by decide) rfl ?_
                clear hl ls
                intro ls hl
                refine lv_iload_n hx hb d_OM_isAction_51 rfl (lv_at hl 3 rfl) ?_
                refine lv_tableOut (tgt := 197) hx hb d_OM_isAction_52 hs_1 (by decide) ?_
                refine tp_pc (pc' := 197) (by rfl) ?_
                refine lv_iconst (v := 0) hx hb d_OM_isAction_197 (by decide) ?_
                obtain ⟨hP9, hD9, -⟩ := cut3 (wc := []) hP hD rfl hS hA [] (by decide +kernel) rfl
                have hK9 := hK.sub (tys' := []) [] rfl
                refine W.widen (k := 0) (n := 0) (by exact Nat.le_of_ble_eq_true rfl) (by exact Nat.le_of_ble_eq_true rfl) ?_
                exact W.zret (v := 0) (ty := .boolean) hx hb hr (by decide) (fun t ht hW => ⟨⟨0, (), rfl, trivial, by rw [ht]; exact hP9, va_K.moved hW.alike hK9, hD9⟩, hS.F ht⟩) hS.2.2 d_OM_isAction_198
              · skip
                refine lv_iconst (v := 1) hx hb d_OM_isAction_44 (by decide) ?_
                refine lv_goto (tgt := 49) hx hb d_OM_isAction_45 (by decide) ?_
                refine tp_pc (pc' := 49) (by rfl) ?_
                refine lv_istore (lv' := [(6, .int 1), (5, .int 0), (4, .int 0), (0, .int p0), (1, .int p1), (2, .int p2), (3, .int p3)]) hx hb d_OM_isAction_49 hl (by decide) rfl ?_
                clear hl ls
                intro ls hl
                refine lv_iload_n hx hb d_OM_isAction_51 rfl (lv_at hl 3 rfl) ?_
                refine lv_tableOut (tgt := 197) hx hb d_OM_isAction_52 hs_1 (by decide) ?_
                refine tp_pc (pc' := 197) (by rfl) ?_
                refine lv_iconst (v := 0) hx hb d_OM_isAction_197 (by decide) ?_
                obtain ⟨hP9, hD9, -⟩ := cut3 (wc := []) hP hD rfl hS hA [] (by decide +kernel) rfl
                have hK9 := hK.sub (tys' := []) [] rfl
                refine W.widen (k := 0) (n := 0) (by exact Nat.le_of_ble_eq_true rfl) (by exact Nat.le_of_ble_eq_true rfl) ?_
                exact W.zret (v := 0) (ty := .boolean) hx hb hr (by decide) (fun t ht hW => ⟨⟨0, (), rfl, trivial, by rw [ht]; exact hP9, va_K.moved hW.alike hK9, hD9⟩, hS.F ht⟩) hS.2.2 d_OM_isAction_198
          · skip
            refine lv_iconst (v := 1) hx hb d_OM_isAction_25 (by decide) ?_
            refine lv_goto (tgt := 30) hx hb d_OM_isAction_26 (by decide) ?_
            refine tp_pc (pc' := 30) (by rfl) ?_
            refine lv_istore (lv' := [(5, .int 1), (4, .int 0), (0, .int p0), (1, .int p1), (2, .int p2), (3, .int p3)]) hx hb d_OM_isAction_30 hl (by decide) rfl ?_
            clear hl ls
            intro ls hl
            refine lv_iload_n hx hb d_OM_isAction_32 rfl (lv_at hl 5 rfl) ?_
            refine lv_bipush (v := (-9)) hx hb d_OM_isAction_33 (by decide) ?_
            refine lv_icmp_lt (tgt := 48) hx hb d_OM_isAction_35 (by decide) (fun c_438 => ?_) (fun c_438 => ?_)
            · skip
              refine lv_iconst (v := 0) hx hb d_OM_isAction_48 (by decide) ?_
              refine lv_istore (lv' := [(6, .int 0), (5, .int 1), (4, .int 0), (0, .int p0), (1, .int p1), (2, .int p2), (3, .int p3)]) hx hb d_OM_isAction_49 hl (by decide) rfl ?_
              clear hl ls
              intro ls hl
              refine lv_iload_n hx hb d_OM_isAction_51 rfl (lv_at hl 3 rfl) ?_
              refine lv_tableOut (tgt := 197) hx hb d_OM_isAction_52 hs_1 (by decide) ?_
              refine tp_pc (pc' := 197) (by rfl) ?_
              refine lv_iconst (v := 0) hx hb d_OM_isAction_197 (by decide) ?_
              obtain ⟨hP9, hD9, -⟩ := cut3 (wc := []) hP hD rfl hS hA [] (by decide +kernel) rfl
              have hK9 := hK.sub (tys' := []) [] rfl
              refine W.widen (k := 0) (n := 0) (by exact Nat.le_of_ble_eq_true rfl) (by exact Nat.le_of_ble_eq_true rfl) ?_
              exact W.zret (v := 0) (ty := .boolean) hx hb hr (by decide) (fun t ht hW => ⟨⟨0, (), rfl, trivial, by rw [ht]; exact hP9, va_K.moved hW.alike hK9, hD9⟩, hS.F ht⟩) hS.2.2 d_OM_isAction_198
            · skip
              refine lv_iload_n hx hb d_OM_isAction_38 rfl (lv_at hl 5 rfl) ?_
              refine lv_bipush (v := 9) hx hb d_OM_isAction_39 (by decide) ?_
              refine lv_icmp_gt (tgt := 48) hx hb d_OM_isAction_41 (by decide) (fun c_439 => ?_) (fun c_439 => ?_)
              · skip
                refine lv_iconst (v := 0) hx hb d_OM_isAction_48 (by decide) ?_
                refine lv_istore (lv' := [(6, .int 0), (5, .int 1), (4, .int 0), (0, .int p0), (1, .int p1), (2, .int p2), (3, .int p3)]) hx hb d_OM_isAction_49 hl (by decide) rfl ?_
                clear hl ls
                intro ls hl
                refine lv_iload_n hx hb d_OM_isAction_51 rfl (lv_at hl 3 rfl) ?_
                refine lv_tableOut (tgt := 197) hx hb d_OM_isAction_52 hs_1 (by decide) ?_
                refine tp_pc (pc' := 197) (by rfl) ?_
                refine lv_iconst (v := 0) hx hb d_OM_isAction_197 (by decide) ?_
                obtain ⟨hP9, hD9, -⟩ := cut3 (wc := []) hP hD rfl hS hA [] (by decide +kernel) rfl
                have hK9 := hK.sub (tys' := []) [] rfl
                refine W.widen (k := 0) (n := 0) (by exact Nat.le_of_ble_eq_true rfl) (by exact Nat.le_of_ble_eq_true rfl) ?_
                exact W.zret (v := 0) (ty := .boolean) hx hb hr (by decide) (fun t ht hW => ⟨⟨0, (), rfl, trivial, by rw [ht]; exact hP9, va_K.moved hW.alike hK9, hD9⟩, hS.F ht⟩) hS.2.2 d_OM_isAction_198
              · skip
                refine lv_iconst (v := 1) hx hb d_OM_isAction_44 (by decide) ?_
                refine lv_goto (tgt := 49) hx hb d_OM_isAction_45 (by decide) ?_
                refine tp_pc (pc' := 49) (by rfl) ?_
                refine lv_istore (lv' := [(6, .int 1), (5, .int 1), (4, .int 0), (0, .int p0), (1, .int p1), (2, .int p2), (3, .int p3)]) hx hb d_OM_isAction_49 hl (by decide) rfl ?_
                clear hl ls
                intro ls hl
                refine lv_iload_n hx hb d_OM_isAction_51 rfl (lv_at hl 3 rfl) ?_
                refine lv_tableOut (tgt := 197) hx hb d_OM_isAction_52 hs_1 (by decide) ?_
                refine tp_pc (pc' := 197) (by rfl) ?_
                refine lv_iconst (v := 0) hx hb d_OM_isAction_197 (by decide) ?_
                obtain ⟨hP9, hD9, -⟩ := cut3 (wc := []) hP hD rfl hS hA [] (by decide +kernel) rfl
                have hK9 := hK.sub (tys' := []) [] rfl
                refine W.widen (k := 0) (n := 0) (by exact Nat.le_of_ble_eq_true rfl) (by exact Nat.le_of_ble_eq_true rfl) ?_
                exact W.zret (v := 0) (ty := .boolean) hx hb hr (by decide) (fun t ht hW => ⟨⟨0, (), rfl, trivial, by rw [ht]; exact hP9, va_K.moved hW.alike hK9, hD9⟩, hS.F ht⟩) hS.2.2 d_OM_isAction_198
      · skip
        refine lv_iconst (v := 1) hx hb d_OM_isAction_9 (by decide) ?_
        refine lv_goto (tgt := 14) hx hb d_OM_isAction_10 (by decide) ?_
        refine tp_pc (pc' := 14) (by rfl) ?_
        refine lv_istore (lv' := [(4, .int 1), (0, .int p0), (1, .int p1), (2, .int p2), (3, .int p3)]) hx hb d_OM_isAction_14 hl (by decide) rfl ?_
        clear hl ls
        intro ls hl
        refine lv_iload_n hx hb d_OM_isAction_16 rfl (lv_at hl 3 rfl) ?_
        refine lv_if_lt (tgt := 29) hx hb d_OM_isAction_17 (by decide) (fun c_440 => ?_) (fun c_440 => ?_)
        · skip
          refine lv_iconst (v := 0) hx hb d_OM_isAction_29 (by decide) ?_
          refine lv_istore (lv' := [(5, .int 0), (4, .int 1), (0, .int p0), (1, .int p1), (2, .int p2), (3, .int p3)]) hx hb d_OM_isAction_30 hl (by decide) rfl ?_
          clear hl ls
          intro ls hl
          refine lv_iload_n hx hb d_OM_isAction_32 rfl (lv_at hl 5 rfl) ?_
          refine lv_bipush (v := (-9)) hx hb d_OM_isAction_33 (by decide) ?_
          refine lv_icmp_lt (tgt := 48) hx hb d_OM_isAction_35 (by decide) (fun c_441 => ?_) (fun c_441 => ?_)
          · skip
            refine lv_iconst (v := 0) hx hb d_OM_isAction_48 (by decide) ?_
            refine lv_istore (lv' := [(6, .int 0), (5, .int 0), (4, .int 1), (0, .int p0), (1, .int p1), (2, .int p2), (3, .int p3)]) hx hb d_OM_isAction_49 hl (by decide) rfl ?_
            clear hl ls
            intro ls hl
            refine lv_iload_n hx hb d_OM_isAction_51 rfl (lv_at hl 3 rfl) ?_
            refine lv_tableOut (tgt := 197) hx hb d_OM_isAction_52 hs_1 (by decide) ?_
            refine tp_pc (pc' := 197) (by rfl) ?_
            refine lv_iconst (v := 0) hx hb d_OM_isAction_197 (by decide) ?_
            obtain ⟨hP9, hD9, -⟩ := cut3 (wc := []) hP hD rfl hS hA [] (by decide +kernel) rfl
            have hK9 := hK.sub (tys' := []) [] rfl
            refine W.widen (k := 0) (n := 0) (by exact Nat.le_of_ble_eq_true rfl) (by exact Nat.le_of_ble_eq_true rfl) ?_
            exact W.zret (v := 0) (ty := .boolean) hx hb hr (by decide) (fun t ht hW => ⟨⟨0, (), rfl, trivial, by rw [ht]; exact hP9, va_K.moved hW.alike hK9, hD9⟩, hS.F ht⟩) hS.2.2 d_OM_isAction_198
          · skip
            refine lv_iload_n hx hb d_OM_isAction_38 rfl (lv_at hl 5 rfl) ?_
            refine lv_bipush (v := 9) hx hb d_OM_isAction_39 (by decide) ?_
            refine lv_icmp_gt (tgt := 48) hx hb d_OM_isAction_41 (by decide) (fun c_442 => ?_) (fun c_442 => ?_)
            · skip
              refine lv_iconst (v := 0) hx hb d_OM_isAction_48 (by decide) ?_
              refine lv_istore (lv' := [(6, .int 0), (5, .int 0), (4, .int 1), (0, .int p0), (1, .int p1), (2, .int p2), (3, .int p3)]) hx hb d_OM_isAction_49 hl (by decide) rfl ?_
              clear hl ls
              intro ls hl
              refine lv_iload_n hx hb d_OM_isAction_51 rfl (lv_at hl 3 rfl) ?_
              refine lv_tableOut (tgt := 197) hx hb d_OM_isAction_52 hs_1 (by decide) ?_
              refine tp_pc (pc' := 197) (by rfl) ?_
              refine lv_iconst (v := 0) hx hb d_OM_isAction_197 (by decide) ?_
              obtain ⟨hP9, hD9, -⟩ := cut3 (wc := []) hP hD rfl hS hA [] (by decide +kernel) rfl
              have hK9 := hK.sub (tys' := []) [] rfl
              refine W.widen (k := 0) (n := 0) (by exact Nat.le_of_ble_eq_true rfl) (by exact Nat.le_of_ble_eq_true rfl) ?_
              exact W.zret (v := 0) (ty := .boolean) hx hb hr (by decide) (fun t ht hW => ⟨⟨0, (), rfl, trivial, by rw [ht]; exact hP9, va_K.moved hW.alike hK9, hD9⟩, hS.F ht⟩) hS.2.2 d_OM_isAction_198
            · skip
              refine lv_iconst (v := 1) hx hb d_OM_isAction_44 (by decide) ?_
              refine lv_goto (tgt := 49) hx hb d_OM_isAction_45 (by decide) ?_
              refine tp_pc (pc' := 49) (by rfl) ?_
              refine lv_istore (lv' := [(6, .int 1), (5, .int 0), (4, .int 1), (0, .int p0), (1, .int p1), (2, .int p2), (3, .int p3)]) hx hb d_OM_isAction_49 hl (by decide) rfl ?_
              clear hl ls
              intro ls hl
              refine lv_iload_n hx hb d_OM_isAction_51 rfl (lv_at hl 3 rfl) ?_
              refine lv_tableOut (tgt := 197) hx hb d_OM_isAction_52 hs_1 (by decide) ?_
              refine tp_pc (pc' := 197) (by rfl) ?_
              refine lv_iconst (v := 0) hx hb d_OM_isAction_197 (by decide) ?_
              obtain ⟨hP9, hD9, -⟩ := cut3 (wc := []) hP hD rfl hS hA [] (by decide +kernel) rfl
              have hK9 := hK.sub (tys' := []) [] rfl
              refine W.widen (k := 0) (n := 0) (by exact Nat.le_of_ble_eq_true rfl) (by exact Nat.le_of_ble_eq_true rfl) ?_
              exact W.zret (v := 0) (ty := .boolean) hx hb hr (by decide) (fun t ht hW => ⟨⟨0, (), rfl, trivial, by rw [ht]; exact hP9, va_K.moved hW.alike hK9, hD9⟩, hS.F ht⟩) hS.2.2 d_OM_isAction_198
        · skip
          refine lv_iload_n hx hb d_OM_isAction_20 rfl (lv_at hl 3 rfl) ?_
          refine lv_iconst (v := 2) hx hb d_OM_isAction_21 (by decide) ?_
          refine lv_icmp_ge (tgt := 29) hx hb d_OM_isAction_22 (by decide) (fun c_443 => ?_) (fun c_443 => ?_)
          · skip
            refine lv_iconst (v := 0) hx hb d_OM_isAction_29 (by decide) ?_
            refine lv_istore (lv' := [(5, .int 0), (4, .int 1), (0, .int p0), (1, .int p1), (2, .int p2), (3, .int p3)]) hx hb d_OM_isAction_30 hl (by decide) rfl ?_
            clear hl ls
            intro ls hl
            refine lv_iload_n hx hb d_OM_isAction_32 rfl (lv_at hl 5 rfl) ?_
            refine lv_bipush (v := (-9)) hx hb d_OM_isAction_33 (by decide) ?_
            refine lv_icmp_lt (tgt := 48) hx hb d_OM_isAction_35 (by decide) (fun c_444 => ?_) (fun c_444 => ?_)
            · skip
              refine lv_iconst (v := 0) hx hb d_OM_isAction_48 (by decide) ?_
              refine lv_istore (lv' := [(6, .int 0), (5, .int 0), (4, .int 1), (0, .int p0), (1, .int p1), (2, .int p2), (3, .int p3)]) hx hb d_OM_isAction_49 hl (by decide) rfl ?_
              clear hl ls
              intro ls hl
              refine lv_iload_n hx hb d_OM_isAction_51 rfl (lv_at hl 3 rfl) ?_
              refine lv_tableOut (tgt := 197) hx hb d_OM_isAction_52 hs_1 (by decide) ?_
              refine tp_pc (pc' := 197) (by rfl) ?_
              refine lv_iconst (v := 0) hx hb d_OM_isAction_197 (by decide) ?_
              obtain ⟨hP9, hD9, -⟩ := cut3 (wc := []) hP hD rfl hS hA [] (by decide +kernel) rfl
              have hK9 := hK.sub (tys' := []) [] rfl
              refine W.widen (k := 0) (n := 0) (by exact Nat.le_of_ble_eq_true rfl) (by exact Nat.le_of_ble_eq_true rfl) ?_
              exact W.zret (v := 0) (ty := .boolean) hx hb hr (by decide) (fun t ht hW => ⟨⟨0, (), rfl, trivial, by rw [ht]; exact hP9, va_K.moved hW.alike hK9, hD9⟩, hS.F ht⟩) hS.2.2 d_OM_isAction_198
            · skip
              refine lv_iload_n hx hb d_OM_isAction_38 rfl (lv_at hl 5 rfl) ?_
              refine lv_bipush (v := 9) hx hb d_OM_isAction_39 (by decide) ?_
              refine lv_icmp_gt (tgt := 48) hx hb d_OM_isAction_41 (by decide) (fun c_445 => ?_) (fun c_445 => ?_)
              · skip
                refine lv_iconst (v := 0) hx hb d_OM_isAction_48 (by decide) ?_
                refine lv_istore (lv' := [(6, .int 0), (5, .int 0), (4, .int 1), (0, .int p0), (1, .int p1), (2, .int p2), (3, .int p3)]) hx hb d_OM_isAction_49 hl (by decide) rfl ?_
                clear hl ls
                intro ls hl
                refine lv_iload_n hx hb d_OM_isAction_51 rfl (lv_at hl 3 rfl) ?_
                refine lv_tableOut (tgt := 197) hx hb d_OM_isAction_52 hs_1 (by decide) ?_
                refine tp_pc (pc' := 197) (by rfl) ?_
                refine lv_iconst (v := 0) hx hb d_OM_isAction_197 (by decide) ?_
                obtain ⟨hP9, hD9, -⟩ := cut3 (wc := []) hP hD rfl hS hA [] (by decide +kernel) rfl
                have hK9 := hK.sub (tys' := []) [] rfl
                refine W.widen (k := 0) (n := 0) (by exact Nat.le_of_ble_eq_true rfl) (by exact Nat.le_of_ble_eq_true rfl) ?_
                exact W.zret (v := 0) (ty := .boolean) hx hb hr (by decide) (fun t ht hW => ⟨⟨0, (), rfl, trivial, by rw [ht]; exact hP9, va_K.moved hW.alike hK9, hD9⟩, hS.F ht⟩) hS.2.2 d_OM_isAction_198
              · skip
                refine lv_iconst (v := 1) hx hb d_OM_isAction_44 (by decide) ?_
                refine lv_goto (tgt := 49) hx hb d_OM_isAction_45 (by decide) ?_
                refine tp_pc (pc' := 49) (by rfl) ?_
                refine lv_istore (lv' := [(6, .int 1), (5, .int 0), (4, .int 1), (0, .int p0), (1, .int p1), (2, .int p2), (3, .int p3)]) hx hb d_OM_isAction_49 hl (by decide) rfl ?_
                clear hl ls
                intro ls hl
                refine lv_iload_n hx hb d_OM_isAction_51 rfl (lv_at hl 3 rfl) ?_
                refine lv_tableOut (tgt := 197) hx hb d_OM_isAction_52 hs_1 (by decide) ?_
                refine tp_pc (pc' := 197) (by rfl) ?_
                refine lv_iconst (v := 0) hx hb d_OM_isAction_197 (by decide) ?_
                obtain ⟨hP9, hD9, -⟩ := cut3 (wc := []) hP hD rfl hS hA [] (by decide +kernel) rfl
                have hK9 := hK.sub (tys' := []) [] rfl
                refine W.widen (k := 0) (n := 0) (by exact Nat.le_of_ble_eq_true rfl) (by exact Nat.le_of_ble_eq_true rfl) ?_
                exact W.zret (v := 0) (ty := .boolean) hx hb hr (by decide) (fun t ht hW => ⟨⟨0, (), rfl, trivial, by rw [ht]; exact hP9, va_K.moved hW.alike hK9, hD9⟩, hS.F ht⟩) hS.2.2 d_OM_isAction_198
          · skip
            refine lv_iconst (v := 1) hx hb d_OM_isAction_25 (by decide) ?_
            refine lv_goto (tgt := 30) hx hb d_OM_isAction_26 (by decide) ?_
            refine tp_pc (pc' := 30) (by rfl) ?_
            refine lv_istore (lv' := [(5, .int 1), (4, .int 1), (0, .int p0), (1, .int p1), (2, .int p2), (3, .int p3)]) hx hb d_OM_isAction_30 hl (by decide) rfl ?_
            clear hl ls
            intro ls hl
            refine lv_iload_n hx hb d_OM_isAction_32 rfl (lv_at hl 5 rfl) ?_
            refine lv_bipush (v := (-9)) hx hb d_OM_isAction_33 (by decide) ?_
            refine lv_icmp_lt (tgt := 48) hx hb d_OM_isAction_35 (by decide) (fun c_446 => ?_) (fun c_446 => ?_)
            · skip
              refine lv_iconst (v := 0) hx hb d_OM_isAction_48 (by decide) ?_
              refine lv_istore (lv' := [(6, .int 0), (5, .int 1), (4, .int 1), (0, .int p0), (1, .int p1), (2, .int p2), (3, .int p3)]) hx hb d_OM_isAction_49 hl (by decide) rfl ?_
              clear hl ls
              intro ls hl
              refine lv_iload_n hx hb d_OM_isAction_51 rfl (lv_at hl 3 rfl) ?_
              refine lv_tableOut (tgt := 197) hx hb d_OM_isAction_52 hs_1 (by decide) ?_
              refine tp_pc (pc' := 197) (by rfl) ?_
              refine lv_iconst (v := 0) hx hb d_OM_isAction_197 (by decide) ?_
              obtain ⟨hP9, hD9, -⟩ := cut3 (wc := []) hP hD rfl hS hA [] (by decide +kernel) rfl
              have hK9 := hK.sub (tys' := []) [] rfl
              refine W.widen (k := 0) (n := 0) (by exact Nat.le_of_ble_eq_true rfl) (by exact Nat.le_of_ble_eq_true rfl) ?_
              exact W.zret (v := 0) (ty := .boolean) hx hb hr (by decide) (fun t ht hW => ⟨⟨0, (), rfl, trivial, by rw [ht]; exact hP9, va_K.moved hW.alike hK9, hD9⟩, hS.F ht⟩) hS.2.2 d_OM_isAction_198
            · skip
              refine lv_iload_n hx hb d_OM_isAction_38 rfl (lv_at hl 5 rfl) ?_
              refine lv_bipush (v := 9) hx hb d_OM_isAction_39 (by decide) ?_
              refine lv_icmp_gt (tgt := 48) hx hb d_OM_isAction_41 (by decide) (fun c_447 => ?_) (fun c_447 => ?_)
              · skip
                refine lv_iconst (v := 0) hx hb d_OM_isAction_48 (by decide) ?_
                refine lv_istore (lv' := [(6, .int 0), (5, .int 1), (4, .int 1), (0, .int p0), (1, .int p1), (2, .int p2), (3, .int p3)]) hx hb d_OM_isAction_49 hl (by decide) rfl ?_
                clear hl ls
                intro ls hl
                refine lv_iload_n hx hb d_OM_isAction_51 rfl (lv_at hl 3 rfl) ?_
                refine lv_tableOut (tgt := 197) hx hb d_OM_isAction_52 hs_1 (by decide) ?_
                refine tp_pc (pc' := 197) (by rfl) ?_
                refine lv_iconst (v := 0) hx hb d_OM_isAction_197 (by decide) ?_
                obtain ⟨hP9, hD9, -⟩ := cut3 (wc := []) hP hD rfl hS hA [] (by decide +kernel) rfl
                have hK9 := hK.sub (tys' := []) [] rfl
                refine W.widen (k := 0) (n := 0) (by exact Nat.le_of_ble_eq_true rfl) (by exact Nat.le_of_ble_eq_true rfl) ?_
                exact W.zret (v := 0) (ty := .boolean) hx hb hr (by decide) (fun t ht hW => ⟨⟨0, (), rfl, trivial, by rw [ht]; exact hP9, va_K.moved hW.alike hK9, hD9⟩, hS.F ht⟩) hS.2.2 d_OM_isAction_198
              · skip
                refine lv_iconst (v := 1) hx hb d_OM_isAction_44 (by decide) ?_
                refine lv_goto (tgt := 49) hx hb d_OM_isAction_45 (by decide) ?_
                refine tp_pc (pc' := 49) (by rfl) ?_
                refine lv_istore (lv' := [(6, .int 1), (5, .int 1), (4, .int 1), (0, .int p0), (1, .int p1), (2, .int p2), (3, .int p3)]) hx hb d_OM_isAction_49 hl (by decide) rfl ?_
                clear hl ls
                intro ls hl
                refine lv_iload_n hx hb d_OM_isAction_51 rfl (lv_at hl 3 rfl) ?_
                refine lv_tableOut (tgt := 197) hx hb d_OM_isAction_52 hs_1 (by decide) ?_
                refine tp_pc (pc' := 197) (by rfl) ?_
                refine lv_iconst (v := 0) hx hb d_OM_isAction_197 (by decide) ?_
                obtain ⟨hP9, hD9, -⟩ := cut3 (wc := []) hP hD rfl hS hA [] (by decide +kernel) rfl
                have hK9 := hK.sub (tys' := []) [] rfl
                refine W.widen (k := 0) (n := 0) (by exact Nat.le_of_ble_eq_true rfl) (by exact Nat.le_of_ble_eq_true rfl) ?_
                exact W.zret (v := 0) (ty := .boolean) hx hb hr (by decide) (fun t ht hW => ⟨⟨0, (), rfl, trivial, by rw [ht]; exact hP9, va_K.moved hW.alike hK9, hD9⟩, hS.F ht⟩) hS.2.2 d_OM_isAction_198
