/-- an action that the document lets be added -/
abbrev actP (k9 x9 r9 v9 : Int32) : Prop := (k9 = 0 ∧ (¬ x9 < 0 ∧ ¬ 3 ≤ x9) ∧ (¬ r9 < 0 ∧ ¬ 2 ≤ r9) ∧ v9 = 0) ∨ (k9 = 1 ∧ (¬ x9 < 0 ∧ ¬ 3 ≤ x9) ∧ r9 = 0 ∧ (¬ v9 < -9 ∧ ¬ 9 < v9)) ∨ ((k9 = 2 ∨ k9 = 3) ∧ (¬ x9 < 0 ∧ ¬ 3 ≤ x9) ∧ (¬ r9 < 0 ∧ ¬ 2 ≤ r9) ∧ (¬ v9 < -9 ∧ ¬ 9 < v9)) ∨ (k9 = 4 ∧ x9 = 0 ∧ r9 = 0 ∧ v9 = 0) ∨ (k9 = 5 ∧ (¬ x9 < 1 ∧ ¬ 3 < x9) ∧ (¬ r9 < 0 ∧ ¬ 2 ≤ r9) ∧ (¬ v9 < -9 ∧ ¬ 9 < v9))
theorem actP_0 {x9 r9 v9 : Int32} : actP 0 x9 r9 v9 ↔ (¬ x9 < 0 ∧ ¬ 3 ≤ x9) ∧ (¬ r9 < 0 ∧ ¬ 2 ≤ r9) ∧ v9 = 0 :=
  ⟨fun h => by rcases h with h | h | h | h | h <;> first | exact h.2 | exact absurd h.1 (by decide), fun h => Or.inl ⟨rfl, h⟩⟩
theorem actP_1 {x9 r9 v9 : Int32} : actP 1 x9 r9 v9 ↔ (¬ x9 < 0 ∧ ¬ 3 ≤ x9) ∧ r9 = 0 ∧ (¬ v9 < -9 ∧ ¬ 9 < v9) :=
  ⟨fun h => by rcases h with h | h | h | h | h <;> first | exact h.2 | exact absurd h.1 (by decide), fun h => Or.inr (Or.inl ⟨rfl, h⟩)⟩
theorem actP_2 {x9 r9 v9 : Int32} : actP 2 x9 r9 v9 ↔ (¬ x9 < 0 ∧ ¬ 3 ≤ x9) ∧ (¬ r9 < 0 ∧ ¬ 2 ≤ r9) ∧ (¬ v9 < -9 ∧ ¬ 9 < v9) :=
  ⟨fun h => by rcases h with h | h | h | h | h <;> first | exact h.2 | exact absurd h.1 (by decide), fun h => Or.inr (Or.inr (Or.inl ⟨Or.inl rfl, h⟩))⟩
theorem actP_3 {x9 r9 v9 : Int32} : actP 3 x9 r9 v9 ↔ (¬ x9 < 0 ∧ ¬ 3 ≤ x9) ∧ (¬ r9 < 0 ∧ ¬ 2 ≤ r9) ∧ (¬ v9 < -9 ∧ ¬ 9 < v9) :=
  ⟨fun h => by rcases h with h | h | h | h | h <;> first | exact h.2 | exact absurd h.1 (by decide), fun h => Or.inr (Or.inr (Or.inl ⟨Or.inr rfl, h⟩))⟩
theorem actP_4 {x9 r9 v9 : Int32} : actP 4 x9 r9 v9 ↔ x9 = 0 ∧ r9 = 0 ∧ v9 = 0 :=
  ⟨fun h => by rcases h with h | h | h | h | h <;> first | exact h.2 | exact absurd h.1 (by decide), fun h => Or.inr (Or.inr (Or.inr (Or.inl ⟨rfl, h⟩)))⟩
theorem actP_5 {x9 r9 v9 : Int32} : actP 5 x9 r9 v9 ↔ (¬ x9 < 1 ∧ ¬ 3 < x9) ∧ (¬ r9 < 0 ∧ ¬ 2 ≤ r9) ∧ (¬ v9 < -9 ∧ ¬ 9 < v9) :=
  ⟨fun h => by rcases h with h | h | h | h | h <;> first | exact h.2 | exact absurd h.1 (by decide), fun h => Or.inr (Or.inr (Or.inr (Or.inr ⟨rfl, h⟩)))⟩
theorem k_out {k : Int32} (h0 : k ≠ 0) (h1 : k ≠ 1) (h2 : k ≠ 2) (h3 : k ≠ 3) (h4 : k ≠ 4) (h5 : k ≠ 5) : k.toInt < 0 ∨ 5 < k.toInt := by
  refine Classical.byContradiction fun q => ?_
  rcases (by omega : k.toInt = 0 ∨ k.toInt = 1 ∨ k.toInt = 2 ∨ k.toInt = 3 ∨ k.toInt = 4 ∨ k.toInt = 5) with h | h | h | h | h | h
  · exact h0 (Int32.toInt_inj.mp h)
  · exact h1 (Int32.toInt_inj.mp h)
  · exact h2 (Int32.toInt_inj.mp h)
  · exact h3 (Int32.toInt_inj.mp h)
  · exact h4 (Int32.toInt_inj.mp h)
  · exact h5 (Int32.toInt_inj.mp h)
theorem actP_o {k9 x9 r9 v9 : Int32} (h0 : k9 ≠ 0) (h1 : k9 ≠ 1) (h2 : k9 ≠ 2) (h3 : k9 ≠ 3) (h4 : k9 ≠ 4) (h5 : k9 ≠ 5) : ¬ actP k9 x9 r9 v9 := fun h => by
  rcases h with h | h | h | h | h
  · exact h0 h.1
  · exact h1 h.1
  · exact h.1.elim h2 h3
  · exact h4 h.1
  · exact h5 h.1
set_option maxHeartbeats 4000000 in
set_option maxRecDepth 100000 in
theorem gen_OM_isAction (l : Launch) (dC : Nat → ClassId) (dI : Nat → Nat → Nat) (k9 x9 r9 v9 : Int32)  (sz : Nat) : Met l y_OM_isAction w_OM_isAction ({ frames := 0, cells := 0, slots := 0, locals := 0 }) (va_Pc [.int k9, .int x9, .int r9, .int v9] (fun U => U.heap.size = sz ∧ va_P (dC, dI) classes [] U.heap ∧ va_K (dC, dI) classes [] U ∧ va_D (fun _ => True) [] ∧ nw U)) (va_Qi (fun (r : Int32) (_ : Unit) => r = if actP k9 x9 r9 v9 then 1 else 0) (fun _ t9 => va_P (dC, dI) classes [] t9.heap ∧ va_K (dC, dI) classes [] t9 ∧ va_D (va_A [] sz) []) (va_A [] sz)) 0 0 (va_A [] sz) := by
  refine Met.ofW (cc := b_OM_isAction) (maxL := 7) (ret := (some .boolean)) (by decide) rfl ?_
  intro p e0 s m args below meth c s₁ B hml hv
  obtain ⟨rfl, hsz, hP, hK, hD0, hn⟩ := hv
  have hx := B.exec
  have hb := B.bytes
  have hr := B.returns
  have hw := fun w (h : w ∈ wt) => atoms_spec (ws := w_OM_isAction) B.pre w (List.mem_cons_of_mem _ h)
  have hown : s.vm.findClass R_OM = some m.cls := findClass_of_methodNamed B.named
  have hlocks := B.notSynchronized
  subst hsz
  have hD1 := hD0.self (sz := s.heap.size)
  generalize hAe : va_A [] s.heap.size = A at hD1 ⊢
  have hA : ∀ q : Nat, s.heap.size ≤ q → A q := fun q h => by rw [← hAe]; exact Or.inr h
  have hD : dd A [] := dd_of hD1 rfl
  clear hAe hD0 hD1
  have hS : va_S A s.heap s.heap [] := va_S.rf
  replace hP : va_P (dC, dI) classes [] s.heap := hP
  have hl := lv_entry ([.int k9, .int x9, .int r9, .int v9]) (n := 7) (Nat.le_of_ble_eq_true rfl)
  rw [lg_entry_eq]
  generalize (lg_sl ([.int k9, .int x9, .int r9, .int v9]) ++ List.replicate (7 - (lg_sl ([.int k9, .int x9, .int r9, .int v9])).length) Slot.unset).toArray = ls at hl ⊢
  replace hl : lv_has ls 7 [(0, .int k9), (1, .int x9), (2, .int r9), (3, .int v9)] := hl
  refine lp_j 16 (fun ls => lv_has ls 7 [(4, .int (if ¬ x9 < 0 ∧ ¬ 3 ≤ x9 then 1 else 0)), (0, .int k9), (1, .int x9), (2, .int r9), (3, .int v9)]) ?_ ?_
  rotate_left
  · intro kJ
    refine lv_iload_n hx hb d_OM_isAction_0 rfl (lv_at hl 1 rfl) ?_
    refine lv_if_lt (tgt := 13) hx hb d_OM_isAction_1 (by decide) (fun c1 => ?_) (fun c1 => ?_)
    · skip
      refine tp_pc (pc' := 13) (by rfl) ?_
      refine lv_iconst (v := 0) hx hb d_OM_isAction_13 (by decide) ?_
      refine tp_i (y := (if ¬ x9 < 0 ∧ ¬ 3 ≤ x9 then 1 else 0)) (by rw [if_neg (fun q => q.1 c1)]) ?_
      refine lv_istore (lv' := [(4, .int (if ¬ x9 < 0 ∧ ¬ 3 ≤ x9 then 1 else 0)), (0, .int k9), (1, .int x9), (2, .int r9), (3, .int v9)]) hx hb d_OM_isAction_14 hl (by decide) rfl ?_
      clear hl ls
      intro ls hl
      exact kJ _ (lv_sub hl [0, 1, 2, 3, 4] rfl)
    · skip
      refine tp_pc (pc' := 4) (by rfl) ?_
      refine lv_iload_n hx hb d_OM_isAction_4 rfl (lv_at hl 1 rfl) ?_
      refine lv_iconst (v := 3) hx hb d_OM_isAction_5 (by decide) ?_
      refine lv_icmp_ge (tgt := 13) hx hb d_OM_isAction_6 (by decide) (fun c2 => ?_) (fun c2 => ?_)
      · skip
        refine tp_pc (pc' := 13) (by rfl) ?_
        refine lv_iconst (v := 0) hx hb d_OM_isAction_13 (by decide) ?_
        refine tp_i (y := (if ¬ x9 < 0 ∧ ¬ 3 ≤ x9 then 1 else 0)) (by rw [if_neg (fun q => q.2 c2)]) ?_
        refine lv_istore (lv' := [(4, .int (if ¬ x9 < 0 ∧ ¬ 3 ≤ x9 then 1 else 0)), (0, .int k9), (1, .int x9), (2, .int r9), (3, .int v9)]) hx hb d_OM_isAction_14 hl (by decide) rfl ?_
        clear hl ls
        intro ls hl
        exact kJ _ (lv_sub hl [0, 1, 2, 3, 4] rfl)
      · skip
        refine tp_pc (pc' := 9) (by rfl) ?_
        refine lv_iconst (v := 1) hx hb d_OM_isAction_9 (by decide) ?_
        refine lv_goto (tgt := 14) hx hb d_OM_isAction_10 (by decide) ?_
        refine tp_pc (pc' := 14) (by rfl) ?_
        refine tp_i (y := (if ¬ x9 < 0 ∧ ¬ 3 ≤ x9 then 1 else 0)) (by rw [if_pos ⟨c1, c2⟩]) ?_
        refine lv_istore (lv' := [(4, .int (if ¬ x9 < 0 ∧ ¬ 3 ≤ x9 then 1 else 0)), (0, .int k9), (1, .int x9), (2, .int r9), (3, .int v9)]) hx hb d_OM_isAction_14 hl (by decide) rfl ?_
        clear hl ls
        intro ls hl
        exact kJ _ (lv_sub hl [0, 1, 2, 3, 4] rfl)
  · intro ls hl
    refine lp_j 32 (fun ls => lv_has ls 7 [(5, .int (if ¬ r9 < 0 ∧ ¬ 2 ≤ r9 then 1 else 0)), (4, .int (if ¬ x9 < 0 ∧ ¬ 3 ≤ x9 then 1 else 0)), (0, .int k9), (1, .int x9), (2, .int r9), (3, .int v9)]) ?_ ?_
    rotate_left
    · intro kJ
      refine lv_iload_n hx hb d_OM_isAction_16 rfl (lv_at hl 3 rfl) ?_
      refine lv_if_lt (tgt := 29) hx hb d_OM_isAction_17 (by decide) (fun c1 => ?_) (fun c1 => ?_)
      · skip
        refine tp_pc (pc' := 29) (by rfl) ?_
        refine lv_iconst (v := 0) hx hb d_OM_isAction_29 (by decide) ?_
        refine tp_i (y := (if ¬ r9 < 0 ∧ ¬ 2 ≤ r9 then 1 else 0)) (by rw [if_neg (fun q => q.1 c1)]) ?_
        refine lv_istore (lv' := [(5, .int (if ¬ r9 < 0 ∧ ¬ 2 ≤ r9 then 1 else 0)), (4, .int (if ¬ x9 < 0 ∧ ¬ 3 ≤ x9 then 1 else 0)), (0, .int k9), (1, .int x9), (2, .int r9), (3, .int v9)]) hx hb d_OM_isAction_30 hl (by decide) rfl ?_
        clear hl ls
        intro ls hl
        exact kJ _ (lv_sub hl [0, 1, 2, 3, 4, 5] rfl)
      · skip
        refine tp_pc (pc' := 20) (by rfl) ?_
        refine lv_iload_n hx hb d_OM_isAction_20 rfl (lv_at hl 3 rfl) ?_
        refine lv_iconst (v := 2) hx hb d_OM_isAction_21 (by decide) ?_
        refine lv_icmp_ge (tgt := 29) hx hb d_OM_isAction_22 (by decide) (fun c2 => ?_) (fun c2 => ?_)
        · skip
          refine tp_pc (pc' := 29) (by rfl) ?_
          refine lv_iconst (v := 0) hx hb d_OM_isAction_29 (by decide) ?_
          refine tp_i (y := (if ¬ r9 < 0 ∧ ¬ 2 ≤ r9 then 1 else 0)) (by rw [if_neg (fun q => q.2 c2)]) ?_
          refine lv_istore (lv' := [(5, .int (if ¬ r9 < 0 ∧ ¬ 2 ≤ r9 then 1 else 0)), (4, .int (if ¬ x9 < 0 ∧ ¬ 3 ≤ x9 then 1 else 0)), (0, .int k9), (1, .int x9), (2, .int r9), (3, .int v9)]) hx hb d_OM_isAction_30 hl (by decide) rfl ?_
          clear hl ls
          intro ls hl
          exact kJ _ (lv_sub hl [0, 1, 2, 3, 4, 5] rfl)
        · skip
          refine tp_pc (pc' := 25) (by rfl) ?_
          refine lv_iconst (v := 1) hx hb d_OM_isAction_25 (by decide) ?_
          refine lv_goto (tgt := 30) hx hb d_OM_isAction_26 (by decide) ?_
          refine tp_pc (pc' := 30) (by rfl) ?_
          refine tp_i (y := (if ¬ r9 < 0 ∧ ¬ 2 ≤ r9 then 1 else 0)) (by rw [if_pos ⟨c1, c2⟩]) ?_
          refine lv_istore (lv' := [(5, .int (if ¬ r9 < 0 ∧ ¬ 2 ≤ r9 then 1 else 0)), (4, .int (if ¬ x9 < 0 ∧ ¬ 3 ≤ x9 then 1 else 0)), (0, .int k9), (1, .int x9), (2, .int r9), (3, .int v9)]) hx hb d_OM_isAction_30 hl (by decide) rfl ?_
          clear hl ls
          intro ls hl
          exact kJ _ (lv_sub hl [0, 1, 2, 3, 4, 5] rfl)
    · intro ls hl
      refine lp_j 51 (fun ls => lv_has ls 7 [(6, .int (if ¬ v9 < -9 ∧ ¬ 9 < v9 then 1 else 0)), (5, .int (if ¬ r9 < 0 ∧ ¬ 2 ≤ r9 then 1 else 0)), (4, .int (if ¬ x9 < 0 ∧ ¬ 3 ≤ x9 then 1 else 0)), (0, .int k9), (1, .int x9), (2, .int r9), (3, .int v9)]) ?_ ?_
      rotate_left
      · intro kJ
        refine lv_iload_n hx hb d_OM_isAction_32 rfl (lv_at hl 5 rfl) ?_
        refine lv_bipush (v := (-9)) hx hb d_OM_isAction_33 (by decide) ?_
        refine lv_icmp_lt (tgt := 48) hx hb d_OM_isAction_35 (by decide) (fun c1 => ?_) (fun c1 => ?_)
        · skip
          refine tp_pc (pc' := 48) (by rfl) ?_
          refine lv_iconst (v := 0) hx hb d_OM_isAction_48 (by decide) ?_
          refine tp_i (y := (if ¬ v9 < -9 ∧ ¬ 9 < v9 then 1 else 0)) (by rw [if_neg (fun q => q.1 c1)]) ?_
          refine lv_istore (lv' := [(6, .int (if ¬ v9 < -9 ∧ ¬ 9 < v9 then 1 else 0)), (5, .int (if ¬ r9 < 0 ∧ ¬ 2 ≤ r9 then 1 else 0)), (4, .int (if ¬ x9 < 0 ∧ ¬ 3 ≤ x9 then 1 else 0)), (0, .int k9), (1, .int x9), (2, .int r9), (3, .int v9)]) hx hb d_OM_isAction_49 hl (by decide) rfl ?_
          clear hl ls
          intro ls hl
          exact kJ _ (lv_sub hl [0, 1, 2, 3, 4, 5, 6] rfl)
        · skip
          refine tp_pc (pc' := 38) (by rfl) ?_
          refine lv_iload_n hx hb d_OM_isAction_38 rfl (lv_at hl 5 rfl) ?_
          refine lv_bipush (v := 9) hx hb d_OM_isAction_39 (by decide) ?_
          refine lv_icmp_gt (tgt := 48) hx hb d_OM_isAction_41 (by decide) (fun c2 => ?_) (fun c2 => ?_)
          · skip
            refine tp_pc (pc' := 48) (by rfl) ?_
            refine lv_iconst (v := 0) hx hb d_OM_isAction_48 (by decide) ?_
            refine tp_i (y := (if ¬ v9 < -9 ∧ ¬ 9 < v9 then 1 else 0)) (by rw [if_neg (fun q => q.2 c2)]) ?_
            refine lv_istore (lv' := [(6, .int (if ¬ v9 < -9 ∧ ¬ 9 < v9 then 1 else 0)), (5, .int (if ¬ r9 < 0 ∧ ¬ 2 ≤ r9 then 1 else 0)), (4, .int (if ¬ x9 < 0 ∧ ¬ 3 ≤ x9 then 1 else 0)), (0, .int k9), (1, .int x9), (2, .int r9), (3, .int v9)]) hx hb d_OM_isAction_49 hl (by decide) rfl ?_
            clear hl ls
            intro ls hl
            exact kJ _ (lv_sub hl [0, 1, 2, 3, 4, 5, 6] rfl)
          · skip
            refine tp_pc (pc' := 44) (by rfl) ?_
            refine lv_iconst (v := 1) hx hb d_OM_isAction_44 (by decide) ?_
            refine lv_goto (tgt := 49) hx hb d_OM_isAction_45 (by decide) ?_
            refine tp_pc (pc' := 49) (by rfl) ?_
            refine tp_i (y := (if ¬ v9 < -9 ∧ ¬ 9 < v9 then 1 else 0)) (by rw [if_pos ⟨c1, c2⟩]) ?_
            refine lv_istore (lv' := [(6, .int (if ¬ v9 < -9 ∧ ¬ 9 < v9 then 1 else 0)), (5, .int (if ¬ r9 < 0 ∧ ¬ 2 ≤ r9 then 1 else 0)), (4, .int (if ¬ x9 < 0 ∧ ¬ 3 ≤ x9 then 1 else 0)), (0, .int k9), (1, .int x9), (2, .int r9), (3, .int v9)]) hx hb d_OM_isAction_49 hl (by decide) rfl ?_
            clear hl ls
            intro ls hl
            exact kJ _ (lv_sub hl [0, 1, 2, 3, 4, 5, 6] rfl)
      · intro ls hl
        by_cases hk0 : k9 = 0
        · skip
          subst hk0
          replace hl : lv_has ls 7 [(6, .int (if ¬ v9 < -9 ∧ ¬ 9 < v9 then 1 else 0)), (5, .int (if ¬ r9 < 0 ∧ ¬ 2 ≤ r9 then 1 else 0)), (4, .int (if ¬ x9 < 0 ∧ ¬ 3 ≤ x9 then 1 else 0)), (0, .int 0), (1, .int x9), (2, .int r9), (3, .int v9)] := hl
          refine lv_iload_n hx hb d_OM_isAction_51 rfl (lv_at hl 3 rfl) ?_
          refine lv_tableIn (x := 0) (tgt := 92) hx hb d_OM_isAction_52 (by decide) (by decide) (by rfl) (by decide) ?_
          refine tp_pc (pc' := 92) (by rfl) ?_
          refine lv_iload hx hb d_OM_isAction_92 (lv_at hl 2 rfl) ?_
          by_cases g1 : ¬ x9 < 0 ∧ ¬ 3 ≤ x9
          · skip
            rw [if_pos g1]
            refine lv_if_eq (tgt := 110) hx hb d_OM_isAction_94 (by decide) (fun c_1 => absurd c_1 (by decide)) (fun c_1 => ?_)
            refine tp_pc (pc' := 97) (by rfl) ?_
            refine lv_iload hx hb d_OM_isAction_97 (lv_at hl 1 rfl) ?_
            by_cases g2 : ¬ r9 < 0 ∧ ¬ 2 ≤ r9
            · skip
              rw [if_pos g2]
              refine lv_if_eq (tgt := 110) hx hb d_OM_isAction_99 (by decide) (fun c_2 => absurd c_2 (by decide)) (fun c_2 => ?_)
              refine tp_pc (pc' := 102) (by rfl) ?_
              refine lv_iload_n hx hb d_OM_isAction_102 rfl (lv_at hl 6 rfl) ?_
              refine lv_if_ne (tgt := 110) hx hb d_OM_isAction_103 (by decide) (fun c3 => ?_) (fun c3 => ?_)
              · skip
                refine tp_pc (pc' := 110) (by rfl) ?_
                refine lv_iconst (v := 0) hx hb d_OM_isAction_110 (by decide) ?_
                obtain ⟨hP9, hD9, -⟩ := cut3 (wc := []) hP hD rfl hS hA [] (by decide +kernel) rfl
                have hK9 := hK.sub (tys' := []) [] rfl
                refine W.widen (k := 0) (n := 0) (by exact Nat.le_of_ble_eq_true rfl) (by exact Nat.le_of_ble_eq_true rfl) ?_
                exact W.zret (v := 0) (ty := .boolean) hx hb hr (by decide) (fun t9 ht9 hW => ⟨⟨0, (), rfl, by rw [if_neg (fun q => c3 (actP_0.mp q).2.2)], by rw [ht9]; exact hP9, va_K.moved hW.alike hK9, hD9⟩, hS.F ht9⟩) hS.2.2 d_OM_isAction_111
              · skip
                refine tp_pc (pc' := 106) (by rfl) ?_
                refine lv_iconst (v := 1) hx hb d_OM_isAction_106 (by decide) ?_
                refine lv_goto (tgt := 111) hx hb d_OM_isAction_107 (by decide) ?_
                refine tp_pc (pc' := 111) (by rfl) ?_
                obtain ⟨hP9, hD9, -⟩ := cut3 (wc := []) hP hD rfl hS hA [] (by decide +kernel) rfl
                have hK9 := hK.sub (tys' := []) [] rfl
                refine W.widen (k := 0) (n := 0) (by exact Nat.le_of_ble_eq_true rfl) (by exact Nat.le_of_ble_eq_true rfl) ?_
                exact W.zret (v := 1) (ty := .boolean) hx hb hr (by decide) (fun t9 ht9 hW => ⟨⟨1, (), rfl, by rw [if_pos (actP_0.mpr ⟨g1, g2, c3⟩)], by rw [ht9]; exact hP9, va_K.moved hW.alike hK9, hD9⟩, hS.F ht9⟩) hS.2.2 d_OM_isAction_111
            · skip
              rw [if_neg g2]
              refine lv_if_eq (tgt := 110) hx hb d_OM_isAction_99 (by decide) (fun c_3 => ?_) (fun c_3 => absurd c_3 (by decide))
              refine tp_pc (pc' := 110) (by rfl) ?_
              refine lv_iconst (v := 0) hx hb d_OM_isAction_110 (by decide) ?_
              obtain ⟨hP9, hD9, -⟩ := cut3 (wc := []) hP hD rfl hS hA [] (by decide +kernel) rfl
              have hK9 := hK.sub (tys' := []) [] rfl
              refine W.widen (k := 0) (n := 0) (by exact Nat.le_of_ble_eq_true rfl) (by exact Nat.le_of_ble_eq_true rfl) ?_
              exact W.zret (v := 0) (ty := .boolean) hx hb hr (by decide) (fun t9 ht9 hW => ⟨⟨0, (), rfl, by rw [if_neg (fun q => g2 (actP_0.mp q).2.1)], by rw [ht9]; exact hP9, va_K.moved hW.alike hK9, hD9⟩, hS.F ht9⟩) hS.2.2 d_OM_isAction_111
          · skip
            rw [if_neg g1]
            refine lv_if_eq (tgt := 110) hx hb d_OM_isAction_94 (by decide) (fun c_4 => ?_) (fun c_4 => absurd c_4 (by decide))
            refine tp_pc (pc' := 110) (by rfl) ?_
            refine lv_iconst (v := 0) hx hb d_OM_isAction_110 (by decide) ?_
            obtain ⟨hP9, hD9, -⟩ := cut3 (wc := []) hP hD rfl hS hA [] (by decide +kernel) rfl
            have hK9 := hK.sub (tys' := []) [] rfl
            refine W.widen (k := 0) (n := 0) (by exact Nat.le_of_ble_eq_true rfl) (by exact Nat.le_of_ble_eq_true rfl) ?_
            exact W.zret (v := 0) (ty := .boolean) hx hb hr (by decide) (fun t9 ht9 hW => ⟨⟨0, (), rfl, by rw [if_neg (fun q => g1 (actP_0.mp q).1)], by rw [ht9]; exact hP9, va_K.moved hW.alike hK9, hD9⟩, hS.F ht9⟩) hS.2.2 d_OM_isAction_111
        by_cases hk1 : k9 = 1
        · skip
          subst hk1
          replace hl : lv_has ls 7 [(6, .int (if ¬ v9 < -9 ∧ ¬ 9 < v9 then 1 else 0)), (5, .int (if ¬ r9 < 0 ∧ ¬ 2 ≤ r9 then 1 else 0)), (4, .int (if ¬ x9 < 0 ∧ ¬ 3 ≤ x9 then 1 else 0)), (0, .int 1), (1, .int x9), (2, .int r9), (3, .int v9)] := hl
          refine lv_iload_n hx hb d_OM_isAction_51 rfl (lv_at hl 3 rfl) ?_
          refine lv_tableIn (x := 1) (tgt := 112) hx hb d_OM_isAction_52 (by decide) (by decide) (by rfl) (by decide) ?_
          refine tp_pc (pc' := 112) (by rfl) ?_
          refine lv_iload hx hb d_OM_isAction_112 (lv_at hl 2 rfl) ?_
          by_cases g1 : ¬ x9 < 0 ∧ ¬ 3 ≤ x9
          · skip
            rw [if_pos g1]
            refine lv_if_eq (tgt := 130) hx hb d_OM_isAction_114 (by decide) (fun c_5 => absurd c_5 (by decide)) (fun c_5 => ?_)
            refine tp_pc (pc' := 117) (by rfl) ?_
            refine lv_iload_n hx hb d_OM_isAction_117 rfl (lv_at hl 5 rfl) ?_
            refine lv_if_ne (tgt := 130) hx hb d_OM_isAction_118 (by decide) (fun c3 => ?_) (fun c3 => ?_)
            · skip
              refine tp_pc (pc' := 130) (by rfl) ?_
              refine lv_iconst (v := 0) hx hb d_OM_isAction_130 (by decide) ?_
              obtain ⟨hP9, hD9, -⟩ := cut3 (wc := []) hP hD rfl hS hA [] (by decide +kernel) rfl
              have hK9 := hK.sub (tys' := []) [] rfl
              refine W.widen (k := 0) (n := 0) (by exact Nat.le_of_ble_eq_true rfl) (by exact Nat.le_of_ble_eq_true rfl) ?_
              exact W.zret (v := 0) (ty := .boolean) hx hb hr (by decide) (fun t9 ht9 hW => ⟨⟨0, (), rfl, by rw [if_neg (fun q => c3 (actP_1.mp q).2.1)], by rw [ht9]; exact hP9, va_K.moved hW.alike hK9, hD9⟩, hS.F ht9⟩) hS.2.2 d_OM_isAction_131
            · skip
              refine tp_pc (pc' := 121) (by rfl) ?_
              refine lv_iload hx hb d_OM_isAction_121 (lv_at hl 0 rfl) ?_
              by_cases g3 : ¬ v9 < -9 ∧ ¬ 9 < v9
              · skip
                rw [if_pos g3]
                refine lv_if_eq (tgt := 130) hx hb d_OM_isAction_123 (by decide) (fun c_6 => absurd c_6 (by decide)) (fun c_6 => ?_)
                refine tp_pc (pc' := 126) (by rfl) ?_
                refine lv_iconst (v := 1) hx hb d_OM_isAction_126 (by decide) ?_
                refine lv_goto (tgt := 131) hx hb d_OM_isAction_127 (by decide) ?_
                refine tp_pc (pc' := 131) (by rfl) ?_
                obtain ⟨hP9, hD9, -⟩ := cut3 (wc := []) hP hD rfl hS hA [] (by decide +kernel) rfl
                have hK9 := hK.sub (tys' := []) [] rfl
                refine W.widen (k := 0) (n := 0) (by exact Nat.le_of_ble_eq_true rfl) (by exact Nat.le_of_ble_eq_true rfl) ?_
                exact W.zret (v := 1) (ty := .boolean) hx hb hr (by decide) (fun t9 ht9 hW => ⟨⟨1, (), rfl, by rw [if_pos (actP_1.mpr ⟨g1, c3, g3⟩)], by rw [ht9]; exact hP9, va_K.moved hW.alike hK9, hD9⟩, hS.F ht9⟩) hS.2.2 d_OM_isAction_131
              · skip
                rw [if_neg g3]
                refine lv_if_eq (tgt := 130) hx hb d_OM_isAction_123 (by decide) (fun c_7 => ?_) (fun c_7 => absurd c_7 (by decide))
                refine tp_pc (pc' := 130) (by rfl) ?_
                refine lv_iconst (v := 0) hx hb d_OM_isAction_130 (by decide) ?_
                obtain ⟨hP9, hD9, -⟩ := cut3 (wc := []) hP hD rfl hS hA [] (by decide +kernel) rfl
                have hK9 := hK.sub (tys' := []) [] rfl
                refine W.widen (k := 0) (n := 0) (by exact Nat.le_of_ble_eq_true rfl) (by exact Nat.le_of_ble_eq_true rfl) ?_
                exact W.zret (v := 0) (ty := .boolean) hx hb hr (by decide) (fun t9 ht9 hW => ⟨⟨0, (), rfl, by rw [if_neg (fun q => g3 (actP_1.mp q).2.2)], by rw [ht9]; exact hP9, va_K.moved hW.alike hK9, hD9⟩, hS.F ht9⟩) hS.2.2 d_OM_isAction_131
          · skip
            rw [if_neg g1]
            refine lv_if_eq (tgt := 130) hx hb d_OM_isAction_114 (by decide) (fun c_8 => ?_) (fun c_8 => absurd c_8 (by decide))
            refine tp_pc (pc' := 130) (by rfl) ?_
            refine lv_iconst (v := 0) hx hb d_OM_isAction_130 (by decide) ?_
            obtain ⟨hP9, hD9, -⟩ := cut3 (wc := []) hP hD rfl hS hA [] (by decide +kernel) rfl
            have hK9 := hK.sub (tys' := []) [] rfl
            refine W.widen (k := 0) (n := 0) (by exact Nat.le_of_ble_eq_true rfl) (by exact Nat.le_of_ble_eq_true rfl) ?_
            exact W.zret (v := 0) (ty := .boolean) hx hb hr (by decide) (fun t9 ht9 hW => ⟨⟨0, (), rfl, by rw [if_neg (fun q => g1 (actP_1.mp q).1)], by rw [ht9]; exact hP9, va_K.moved hW.alike hK9, hD9⟩, hS.F ht9⟩) hS.2.2 d_OM_isAction_131
        by_cases hk2 : k9 = 2
        · skip
          subst hk2
          replace hl : lv_has ls 7 [(6, .int (if ¬ v9 < -9 ∧ ¬ 9 < v9 then 1 else 0)), (5, .int (if ¬ r9 < 0 ∧ ¬ 2 ≤ r9 then 1 else 0)), (4, .int (if ¬ x9 < 0 ∧ ¬ 3 ≤ x9 then 1 else 0)), (0, .int 2), (1, .int x9), (2, .int r9), (3, .int v9)] := hl
          refine lv_iload_n hx hb d_OM_isAction_51 rfl (lv_at hl 3 rfl) ?_
          refine lv_tableIn (x := 2) (tgt := 132) hx hb d_OM_isAction_52 (by decide) (by decide) (by rfl) (by decide) ?_
          refine tp_pc (pc' := 132) (by rfl) ?_
          refine lv_iload hx hb d_OM_isAction_132 (lv_at hl 2 rfl) ?_
          by_cases g1 : ¬ x9 < 0 ∧ ¬ 3 ≤ x9
          · skip
            rw [if_pos g1]
            refine lv_if_eq (tgt := 151) hx hb d_OM_isAction_134 (by decide) (fun c_9 => absurd c_9 (by decide)) (fun c_9 => ?_)
            refine tp_pc (pc' := 137) (by rfl) ?_
            refine lv_iload hx hb d_OM_isAction_137 (lv_at hl 1 rfl) ?_
            by_cases g2 : ¬ r9 < 0 ∧ ¬ 2 ≤ r9
            · skip
              rw [if_pos g2]
              refine lv_if_eq (tgt := 151) hx hb d_OM_isAction_139 (by decide) (fun c_10 => absurd c_10 (by decide)) (fun c_10 => ?_)
              refine tp_pc (pc' := 142) (by rfl) ?_
              refine lv_iload hx hb d_OM_isAction_142 (lv_at hl 0 rfl) ?_
              by_cases g3 : ¬ v9 < -9 ∧ ¬ 9 < v9
              · skip
                rw [if_pos g3]
                refine lv_if_eq (tgt := 151) hx hb d_OM_isAction_144 (by decide) (fun c_11 => absurd c_11 (by decide)) (fun c_11 => ?_)
                refine tp_pc (pc' := 147) (by rfl) ?_
                refine lv_iconst (v := 1) hx hb d_OM_isAction_147 (by decide) ?_
                refine lv_goto (tgt := 152) hx hb d_OM_isAction_148 (by decide) ?_
                refine tp_pc (pc' := 152) (by rfl) ?_
                obtain ⟨hP9, hD9, -⟩ := cut3 (wc := []) hP hD rfl hS hA [] (by decide +kernel) rfl
                have hK9 := hK.sub (tys' := []) [] rfl
                refine W.widen (k := 0) (n := 0) (by exact Nat.le_of_ble_eq_true rfl) (by exact Nat.le_of_ble_eq_true rfl) ?_
                exact W.zret (v := 1) (ty := .boolean) hx hb hr (by decide) (fun t9 ht9 hW => ⟨⟨1, (), rfl, by rw [if_pos (actP_2.mpr ⟨g1, g2, g3⟩)], by rw [ht9]; exact hP9, va_K.moved hW.alike hK9, hD9⟩, hS.F ht9⟩) hS.2.2 d_OM_isAction_152
              · skip
                rw [if_neg g3]
                refine lv_if_eq (tgt := 151) hx hb d_OM_isAction_144 (by decide) (fun c_12 => ?_) (fun c_12 => absurd c_12 (by decide))
                refine tp_pc (pc' := 151) (by rfl) ?_
                refine lv_iconst (v := 0) hx hb d_OM_isAction_151 (by decide) ?_
                obtain ⟨hP9, hD9, -⟩ := cut3 (wc := []) hP hD rfl hS hA [] (by decide +kernel) rfl
                have hK9 := hK.sub (tys' := []) [] rfl
                refine W.widen (k := 0) (n := 0) (by exact Nat.le_of_ble_eq_true rfl) (by exact Nat.le_of_ble_eq_true rfl) ?_
                exact W.zret (v := 0) (ty := .boolean) hx hb hr (by decide) (fun t9 ht9 hW => ⟨⟨0, (), rfl, by rw [if_neg (fun q => g3 (actP_2.mp q).2.2)], by rw [ht9]; exact hP9, va_K.moved hW.alike hK9, hD9⟩, hS.F ht9⟩) hS.2.2 d_OM_isAction_152
            · skip
              rw [if_neg g2]
              refine lv_if_eq (tgt := 151) hx hb d_OM_isAction_139 (by decide) (fun c_13 => ?_) (fun c_13 => absurd c_13 (by decide))
              refine tp_pc (pc' := 151) (by rfl) ?_
              refine lv_iconst (v := 0) hx hb d_OM_isAction_151 (by decide) ?_
              obtain ⟨hP9, hD9, -⟩ := cut3 (wc := []) hP hD rfl hS hA [] (by decide +kernel) rfl
              have hK9 := hK.sub (tys' := []) [] rfl
              refine W.widen (k := 0) (n := 0) (by exact Nat.le_of_ble_eq_true rfl) (by exact Nat.le_of_ble_eq_true rfl) ?_
              exact W.zret (v := 0) (ty := .boolean) hx hb hr (by decide) (fun t9 ht9 hW => ⟨⟨0, (), rfl, by rw [if_neg (fun q => g2 (actP_2.mp q).2.1)], by rw [ht9]; exact hP9, va_K.moved hW.alike hK9, hD9⟩, hS.F ht9⟩) hS.2.2 d_OM_isAction_152
          · skip
            rw [if_neg g1]
            refine lv_if_eq (tgt := 151) hx hb d_OM_isAction_134 (by decide) (fun c_14 => ?_) (fun c_14 => absurd c_14 (by decide))
            refine tp_pc (pc' := 151) (by rfl) ?_
            refine lv_iconst (v := 0) hx hb d_OM_isAction_151 (by decide) ?_
            obtain ⟨hP9, hD9, -⟩ := cut3 (wc := []) hP hD rfl hS hA [] (by decide +kernel) rfl
            have hK9 := hK.sub (tys' := []) [] rfl
            refine W.widen (k := 0) (n := 0) (by exact Nat.le_of_ble_eq_true rfl) (by exact Nat.le_of_ble_eq_true rfl) ?_
            exact W.zret (v := 0) (ty := .boolean) hx hb hr (by decide) (fun t9 ht9 hW => ⟨⟨0, (), rfl, by rw [if_neg (fun q => g1 (actP_2.mp q).1)], by rw [ht9]; exact hP9, va_K.moved hW.alike hK9, hD9⟩, hS.F ht9⟩) hS.2.2 d_OM_isAction_152
        by_cases hk3 : k9 = 3
        · skip
          subst hk3
          replace hl : lv_has ls 7 [(6, .int (if ¬ v9 < -9 ∧ ¬ 9 < v9 then 1 else 0)), (5, .int (if ¬ r9 < 0 ∧ ¬ 2 ≤ r9 then 1 else 0)), (4, .int (if ¬ x9 < 0 ∧ ¬ 3 ≤ x9 then 1 else 0)), (0, .int 3), (1, .int x9), (2, .int r9), (3, .int v9)] := hl
          refine lv_iload_n hx hb d_OM_isAction_51 rfl (lv_at hl 3 rfl) ?_
          refine lv_tableIn (x := 3) (tgt := 132) hx hb d_OM_isAction_52 (by decide) (by decide) (by rfl) (by decide) ?_
          refine tp_pc (pc' := 132) (by rfl) ?_
          refine lv_iload hx hb d_OM_isAction_132 (lv_at hl 2 rfl) ?_
          by_cases g1 : ¬ x9 < 0 ∧ ¬ 3 ≤ x9
          · skip
            rw [if_pos g1]
            refine lv_if_eq (tgt := 151) hx hb d_OM_isAction_134 (by decide) (fun c_15 => absurd c_15 (by decide)) (fun c_15 => ?_)
            refine tp_pc (pc' := 137) (by rfl) ?_
            refine lv_iload hx hb d_OM_isAction_137 (lv_at hl 1 rfl) ?_
            by_cases g2 : ¬ r9 < 0 ∧ ¬ 2 ≤ r9
            · skip
              rw [if_pos g2]
              refine lv_if_eq (tgt := 151) hx hb d_OM_isAction_139 (by decide) (fun c_16 => absurd c_16 (by decide)) (fun c_16 => ?_)
              refine tp_pc (pc' := 142) (by rfl) ?_
              refine lv_iload hx hb d_OM_isAction_142 (lv_at hl 0 rfl) ?_
              by_cases g3 : ¬ v9 < -9 ∧ ¬ 9 < v9
              · skip
                rw [if_pos g3]
                refine lv_if_eq (tgt := 151) hx hb d_OM_isAction_144 (by decide) (fun c_17 => absurd c_17 (by decide)) (fun c_17 => ?_)
                refine tp_pc (pc' := 147) (by rfl) ?_
                refine lv_iconst (v := 1) hx hb d_OM_isAction_147 (by decide) ?_
                refine lv_goto (tgt := 152) hx hb d_OM_isAction_148 (by decide) ?_
                refine tp_pc (pc' := 152) (by rfl) ?_
                obtain ⟨hP9, hD9, -⟩ := cut3 (wc := []) hP hD rfl hS hA [] (by decide +kernel) rfl
                have hK9 := hK.sub (tys' := []) [] rfl
                refine W.widen (k := 0) (n := 0) (by exact Nat.le_of_ble_eq_true rfl) (by exact Nat.le_of_ble_eq_true rfl) ?_
                exact W.zret (v := 1) (ty := .boolean) hx hb hr (by decide) (fun t9 ht9 hW => ⟨⟨1, (), rfl, by rw [if_pos (actP_3.mpr ⟨g1, g2, g3⟩)], by rw [ht9]; exact hP9, va_K.moved hW.alike hK9, hD9⟩, hS.F ht9⟩) hS.2.2 d_OM_isAction_152
              · skip
                rw [if_neg g3]
                refine lv_if_eq (tgt := 151) hx hb d_OM_isAction_144 (by decide) (fun c_18 => ?_) (fun c_18 => absurd c_18 (by decide))
                refine tp_pc (pc' := 151) (by rfl) ?_
                refine lv_iconst (v := 0) hx hb d_OM_isAction_151 (by decide) ?_
                obtain ⟨hP9, hD9, -⟩ := cut3 (wc := []) hP hD rfl hS hA [] (by decide +kernel) rfl
                have hK9 := hK.sub (tys' := []) [] rfl
                refine W.widen (k := 0) (n := 0) (by exact Nat.le_of_ble_eq_true rfl) (by exact Nat.le_of_ble_eq_true rfl) ?_
                exact W.zret (v := 0) (ty := .boolean) hx hb hr (by decide) (fun t9 ht9 hW => ⟨⟨0, (), rfl, by rw [if_neg (fun q => g3 (actP_3.mp q).2.2)], by rw [ht9]; exact hP9, va_K.moved hW.alike hK9, hD9⟩, hS.F ht9⟩) hS.2.2 d_OM_isAction_152
            · skip
              rw [if_neg g2]
              refine lv_if_eq (tgt := 151) hx hb d_OM_isAction_139 (by decide) (fun c_19 => ?_) (fun c_19 => absurd c_19 (by decide))
              refine tp_pc (pc' := 151) (by rfl) ?_
              refine lv_iconst (v := 0) hx hb d_OM_isAction_151 (by decide) ?_
              obtain ⟨hP9, hD9, -⟩ := cut3 (wc := []) hP hD rfl hS hA [] (by decide +kernel) rfl
              have hK9 := hK.sub (tys' := []) [] rfl
              refine W.widen (k := 0) (n := 0) (by exact Nat.le_of_ble_eq_true rfl) (by exact Nat.le_of_ble_eq_true rfl) ?_
              exact W.zret (v := 0) (ty := .boolean) hx hb hr (by decide) (fun t9 ht9 hW => ⟨⟨0, (), rfl, by rw [if_neg (fun q => g2 (actP_3.mp q).2.1)], by rw [ht9]; exact hP9, va_K.moved hW.alike hK9, hD9⟩, hS.F ht9⟩) hS.2.2 d_OM_isAction_152
          · skip
            rw [if_neg g1]
            refine lv_if_eq (tgt := 151) hx hb d_OM_isAction_134 (by decide) (fun c_20 => ?_) (fun c_20 => absurd c_20 (by decide))
            refine tp_pc (pc' := 151) (by rfl) ?_
            refine lv_iconst (v := 0) hx hb d_OM_isAction_151 (by decide) ?_
            obtain ⟨hP9, hD9, -⟩ := cut3 (wc := []) hP hD rfl hS hA [] (by decide +kernel) rfl
            have hK9 := hK.sub (tys' := []) [] rfl
            refine W.widen (k := 0) (n := 0) (by exact Nat.le_of_ble_eq_true rfl) (by exact Nat.le_of_ble_eq_true rfl) ?_
            exact W.zret (v := 0) (ty := .boolean) hx hb hr (by decide) (fun t9 ht9 hW => ⟨⟨0, (), rfl, by rw [if_neg (fun q => g1 (actP_3.mp q).1)], by rw [ht9]; exact hP9, va_K.moved hW.alike hK9, hD9⟩, hS.F ht9⟩) hS.2.2 d_OM_isAction_152
        by_cases hk4 : k9 = 4
        · skip
          subst hk4
          replace hl : lv_has ls 7 [(6, .int (if ¬ v9 < -9 ∧ ¬ 9 < v9 then 1 else 0)), (5, .int (if ¬ r9 < 0 ∧ ¬ 2 ≤ r9 then 1 else 0)), (4, .int (if ¬ x9 < 0 ∧ ¬ 3 ≤ x9 then 1 else 0)), (0, .int 4), (1, .int x9), (2, .int r9), (3, .int v9)] := hl
          refine lv_iload_n hx hb d_OM_isAction_51 rfl (lv_at hl 3 rfl) ?_
          refine lv_tableIn (x := 4) (tgt := 153) hx hb d_OM_isAction_52 (by decide) (by decide) (by rfl) (by decide) ?_
          refine tp_pc (pc' := 153) (by rfl) ?_
          refine lv_iload_n hx hb d_OM_isAction_153 rfl (lv_at hl 4 rfl) ?_
          refine lv_if_ne (tgt := 169) hx hb d_OM_isAction_154 (by decide) (fun c3 => ?_) (fun c3 => ?_)
          · skip
            refine tp_pc (pc' := 169) (by rfl) ?_
            refine lv_iconst (v := 0) hx hb d_OM_isAction_169 (by decide) ?_
            obtain ⟨hP9, hD9, -⟩ := cut3 (wc := []) hP hD rfl hS hA [] (by decide +kernel) rfl
            have hK9 := hK.sub (tys' := []) [] rfl
            refine W.widen (k := 0) (n := 0) (by exact Nat.le_of_ble_eq_true rfl) (by exact Nat.le_of_ble_eq_true rfl) ?_
            exact W.zret (v := 0) (ty := .boolean) hx hb hr (by decide) (fun t9 ht9 hW => ⟨⟨0, (), rfl, by rw [if_neg (fun q => c3 (actP_4.mp q).1)], by rw [ht9]; exact hP9, va_K.moved hW.alike hK9, hD9⟩, hS.F ht9⟩) hS.2.2 d_OM_isAction_170
          · skip
            refine tp_pc (pc' := 157) (by rfl) ?_
            refine lv_iload_n hx hb d_OM_isAction_157 rfl (lv_at hl 5 rfl) ?_
            refine lv_if_ne (tgt := 169) hx hb d_OM_isAction_158 (by decide) (fun c4 => ?_) (fun c4 => ?_)
            · skip
              refine tp_pc (pc' := 169) (by rfl) ?_
              refine lv_iconst (v := 0) hx hb d_OM_isAction_169 (by decide) ?_
              obtain ⟨hP9, hD9, -⟩ := cut3 (wc := []) hP hD rfl hS hA [] (by decide +kernel) rfl
              have hK9 := hK.sub (tys' := []) [] rfl
              refine W.widen (k := 0) (n := 0) (by exact Nat.le_of_ble_eq_true rfl) (by exact Nat.le_of_ble_eq_true rfl) ?_
              exact W.zret (v := 0) (ty := .boolean) hx hb hr (by decide) (fun t9 ht9 hW => ⟨⟨0, (), rfl, by rw [if_neg (fun q => c4 (actP_4.mp q).2.1)], by rw [ht9]; exact hP9, va_K.moved hW.alike hK9, hD9⟩, hS.F ht9⟩) hS.2.2 d_OM_isAction_170
            · skip
              refine tp_pc (pc' := 161) (by rfl) ?_
              refine lv_iload_n hx hb d_OM_isAction_161 rfl (lv_at hl 6 rfl) ?_
              refine lv_if_ne (tgt := 169) hx hb d_OM_isAction_162 (by decide) (fun c5 => ?_) (fun c5 => ?_)
              · skip
                refine tp_pc (pc' := 169) (by rfl) ?_
                refine lv_iconst (v := 0) hx hb d_OM_isAction_169 (by decide) ?_
                obtain ⟨hP9, hD9, -⟩ := cut3 (wc := []) hP hD rfl hS hA [] (by decide +kernel) rfl
                have hK9 := hK.sub (tys' := []) [] rfl
                refine W.widen (k := 0) (n := 0) (by exact Nat.le_of_ble_eq_true rfl) (by exact Nat.le_of_ble_eq_true rfl) ?_
                exact W.zret (v := 0) (ty := .boolean) hx hb hr (by decide) (fun t9 ht9 hW => ⟨⟨0, (), rfl, by rw [if_neg (fun q => c5 (actP_4.mp q).2.2)], by rw [ht9]; exact hP9, va_K.moved hW.alike hK9, hD9⟩, hS.F ht9⟩) hS.2.2 d_OM_isAction_170
              · skip
                refine tp_pc (pc' := 165) (by rfl) ?_
                refine lv_iconst (v := 1) hx hb d_OM_isAction_165 (by decide) ?_
                refine lv_goto (tgt := 170) hx hb d_OM_isAction_166 (by decide) ?_
                refine tp_pc (pc' := 170) (by rfl) ?_
                obtain ⟨hP9, hD9, -⟩ := cut3 (wc := []) hP hD rfl hS hA [] (by decide +kernel) rfl
                have hK9 := hK.sub (tys' := []) [] rfl
                refine W.widen (k := 0) (n := 0) (by exact Nat.le_of_ble_eq_true rfl) (by exact Nat.le_of_ble_eq_true rfl) ?_
                exact W.zret (v := 1) (ty := .boolean) hx hb hr (by decide) (fun t9 ht9 hW => ⟨⟨1, (), rfl, by rw [if_pos (actP_4.mpr ⟨c3, c4, c5⟩)], by rw [ht9]; exact hP9, va_K.moved hW.alike hK9, hD9⟩, hS.F ht9⟩) hS.2.2 d_OM_isAction_170
        by_cases hk5 : k9 = 5
        · skip
          subst hk5
          replace hl : lv_has ls 7 [(6, .int (if ¬ v9 < -9 ∧ ¬ 9 < v9 then 1 else 0)), (5, .int (if ¬ r9 < 0 ∧ ¬ 2 ≤ r9 then 1 else 0)), (4, .int (if ¬ x9 < 0 ∧ ¬ 3 ≤ x9 then 1 else 0)), (0, .int 5), (1, .int x9), (2, .int r9), (3, .int v9)] := hl
          refine lv_iload_n hx hb d_OM_isAction_51 rfl (lv_at hl 3 rfl) ?_
          refine lv_tableIn (x := 5) (tgt := 171) hx hb d_OM_isAction_52 (by decide) (by decide) (by rfl) (by decide) ?_
          refine tp_pc (pc' := 171) (by rfl) ?_
          refine lv_iload_n hx hb d_OM_isAction_171 rfl (lv_at hl 4 rfl) ?_
          refine lv_iconst (v := 1) hx hb d_OM_isAction_172 (by decide) ?_
          refine lv_icmp_lt (tgt := 195) hx hb d_OM_isAction_173 (by decide) (fun c3 => ?_) (fun c3 => ?_)
          · skip
            refine tp_pc (pc' := 195) (by rfl) ?_
            refine lv_iconst (v := 0) hx hb d_OM_isAction_195 (by decide) ?_
            obtain ⟨hP9, hD9, -⟩ := cut3 (wc := []) hP hD rfl hS hA [] (by decide +kernel) rfl
            have hK9 := hK.sub (tys' := []) [] rfl
            refine W.widen (k := 0) (n := 0) (by exact Nat.le_of_ble_eq_true rfl) (by exact Nat.le_of_ble_eq_true rfl) ?_
            exact W.zret (v := 0) (ty := .boolean) hx hb hr (by decide) (fun t9 ht9 hW => ⟨⟨0, (), rfl, by rw [if_neg (fun q => (actP_5.mp q).1.1 c3)], by rw [ht9]; exact hP9, va_K.moved hW.alike hK9, hD9⟩, hS.F ht9⟩) hS.2.2 d_OM_isAction_196
          · skip
            refine tp_pc (pc' := 176) (by rfl) ?_
            refine lv_iload_n hx hb d_OM_isAction_176 rfl (lv_at hl 4 rfl) ?_
            refine lv_iconst (v := 3) hx hb d_OM_isAction_177 (by decide) ?_
            refine lv_icmp_gt (tgt := 195) hx hb d_OM_isAction_178 (by decide) (fun c4 => ?_) (fun c4 => ?_)
            · skip
              refine tp_pc (pc' := 195) (by rfl) ?_
              refine lv_iconst (v := 0) hx hb d_OM_isAction_195 (by decide) ?_
              obtain ⟨hP9, hD9, -⟩ := cut3 (wc := []) hP hD rfl hS hA [] (by decide +kernel) rfl
              have hK9 := hK.sub (tys' := []) [] rfl
              refine W.widen (k := 0) (n := 0) (by exact Nat.le_of_ble_eq_true rfl) (by exact Nat.le_of_ble_eq_true rfl) ?_
              exact W.zret (v := 0) (ty := .boolean) hx hb hr (by decide) (fun t9 ht9 hW => ⟨⟨0, (), rfl, by rw [if_neg (fun q => (actP_5.mp q).1.2 c4)], by rw [ht9]; exact hP9, va_K.moved hW.alike hK9, hD9⟩, hS.F ht9⟩) hS.2.2 d_OM_isAction_196
            · skip
              refine tp_pc (pc' := 181) (by rfl) ?_
              refine lv_iload hx hb d_OM_isAction_181 (lv_at hl 1 rfl) ?_
              by_cases g2 : ¬ r9 < 0 ∧ ¬ 2 ≤ r9
              · skip
                rw [if_pos g2]
                refine lv_if_eq (tgt := 195) hx hb d_OM_isAction_183 (by decide) (fun c_21 => absurd c_21 (by decide)) (fun c_21 => ?_)
                refine tp_pc (pc' := 186) (by rfl) ?_
                refine lv_iload hx hb d_OM_isAction_186 (lv_at hl 0 rfl) ?_
                by_cases g3 : ¬ v9 < -9 ∧ ¬ 9 < v9
                · skip
                  rw [if_pos g3]
                  refine lv_if_eq (tgt := 195) hx hb d_OM_isAction_188 (by decide) (fun c_22 => absurd c_22 (by decide)) (fun c_22 => ?_)
                  refine tp_pc (pc' := 191) (by rfl) ?_
                  refine lv_iconst (v := 1) hx hb d_OM_isAction_191 (by decide) ?_
                  refine lv_goto (tgt := 196) hx hb d_OM_isAction_192 (by decide) ?_
                  refine tp_pc (pc' := 196) (by rfl) ?_
                  obtain ⟨hP9, hD9, -⟩ := cut3 (wc := []) hP hD rfl hS hA [] (by decide +kernel) rfl
                  have hK9 := hK.sub (tys' := []) [] rfl
                  refine W.widen (k := 0) (n := 0) (by exact Nat.le_of_ble_eq_true rfl) (by exact Nat.le_of_ble_eq_true rfl) ?_
                  exact W.zret (v := 1) (ty := .boolean) hx hb hr (by decide) (fun t9 ht9 hW => ⟨⟨1, (), rfl, by rw [if_pos (actP_5.mpr ⟨⟨c3, c4⟩, g2, g3⟩)], by rw [ht9]; exact hP9, va_K.moved hW.alike hK9, hD9⟩, hS.F ht9⟩) hS.2.2 d_OM_isAction_196
                · skip
                  rw [if_neg g3]
                  refine lv_if_eq (tgt := 195) hx hb d_OM_isAction_188 (by decide) (fun c_23 => ?_) (fun c_23 => absurd c_23 (by decide))
                  refine tp_pc (pc' := 195) (by rfl) ?_
                  refine lv_iconst (v := 0) hx hb d_OM_isAction_195 (by decide) ?_
                  obtain ⟨hP9, hD9, -⟩ := cut3 (wc := []) hP hD rfl hS hA [] (by decide +kernel) rfl
                  have hK9 := hK.sub (tys' := []) [] rfl
                  refine W.widen (k := 0) (n := 0) (by exact Nat.le_of_ble_eq_true rfl) (by exact Nat.le_of_ble_eq_true rfl) ?_
                  exact W.zret (v := 0) (ty := .boolean) hx hb hr (by decide) (fun t9 ht9 hW => ⟨⟨0, (), rfl, by rw [if_neg (fun q => g3 (actP_5.mp q).2.2)], by rw [ht9]; exact hP9, va_K.moved hW.alike hK9, hD9⟩, hS.F ht9⟩) hS.2.2 d_OM_isAction_196
              · skip
                rw [if_neg g2]
                refine lv_if_eq (tgt := 195) hx hb d_OM_isAction_183 (by decide) (fun c_24 => ?_) (fun c_24 => absurd c_24 (by decide))
                refine tp_pc (pc' := 195) (by rfl) ?_
                refine lv_iconst (v := 0) hx hb d_OM_isAction_195 (by decide) ?_
                obtain ⟨hP9, hD9, -⟩ := cut3 (wc := []) hP hD rfl hS hA [] (by decide +kernel) rfl
                have hK9 := hK.sub (tys' := []) [] rfl
                refine W.widen (k := 0) (n := 0) (by exact Nat.le_of_ble_eq_true rfl) (by exact Nat.le_of_ble_eq_true rfl) ?_
                exact W.zret (v := 0) (ty := .boolean) hx hb hr (by decide) (fun t9 ht9 hW => ⟨⟨0, (), rfl, by rw [if_neg (fun q => g2 (actP_5.mp q).2.1)], by rw [ht9]; exact hP9, va_K.moved hW.alike hK9, hD9⟩, hS.F ht9⟩) hS.2.2 d_OM_isAction_196
        refine lv_iload_n hx hb d_OM_isAction_51 rfl (lv_at hl 3 rfl) ?_
        refine lv_tableOut (x := k9) (tgt := 197) hx hb d_OM_isAction_52 (k_out hk0 hk1 hk2 hk3 hk4 hk5) (by decide) ?_
        refine tp_pc (pc' := 197) (by rfl) ?_
        refine lv_iconst (v := 0) hx hb d_OM_isAction_197 (by decide) ?_
        obtain ⟨hP9, hD9, -⟩ := cut3 (wc := []) hP hD rfl hS hA [] (by decide +kernel) rfl
        have hK9 := hK.sub (tys' := []) [] rfl
        refine W.widen (k := 0) (n := 0) (by exact Nat.le_of_ble_eq_true rfl) (by exact Nat.le_of_ble_eq_true rfl) ?_
        exact W.zret (v := 0) (ty := .boolean) hx hb hr (by decide) (fun t9 ht9 hW => ⟨⟨0, (), rfl, by rw [if_neg (actP_o hk0 hk1 hk2 hk3 hk4 hk5)], by rw [ht9]; exact hP9, va_K.moved hW.alike hK9, hD9⟩, hS.F ht9⟩) hS.2.2 d_OM_isAction_198
