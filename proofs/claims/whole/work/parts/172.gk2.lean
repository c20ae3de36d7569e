set_option maxHeartbeats 4000000 in
set_option maxRecDepth 100000 in
theorem gen_KW_insert (l : Launch) (dC : Nat → ClassId) (dI : Nat → Nat → Nat) (pa : Nat) (ka ga sa b1 q1 q2 q3 q4 fa : Nat) (n1 n2 n3 n4 : ClassId) (rw zs le tl : Nat → Nat) (x p9 q9 : Nat) (hx4 : x < 4) (hp1 : 1 ≤ p9) (hp9 : p9 ≤ 7) (hr9 : rw x < 2 ^ 18) (hz9 : zs x ≤ 6) (hq8 : q9 < 8) (sz : Nat) : Met l y_KnowledgeWalk_insert w_KnowledgeWalk_insert ({ frames := 0, cells := 0, slots := 0, locals := 0 }) (va_Pc [.ref ka, .int (nI x), .int (nI p9), .int (nI q9)] (fun U => U.heap.size = sz ∧ va_P (dC, dI) classes [oc ka 5 [.ref pa, .ref ga, .ref sa, .ref b1, .ref q1, .ref q2, .ref q3, .ref q4, .ref fa], ia q1 n1 4 (fun i => nI (rw i)), ia q2 n2 4 (fun i => nI (zs i))] U.heap ∧ va_K (dC, dI) classes [(n1, .int), (n2, .int)] U ∧ va_D (fun _ => True) [oc ka 5 [.ref pa, .ref ga, .ref sa, .ref b1, .ref q1, .ref q2, .ref q3, .ref q4, .ref fa], ia q1 n1 4 (fun i => nI (rw i)), ia q2 n2 4 (fun i => nI (zs i))] ∧ nw U)) (va_Qv (fun _ : Unit => True) (fun _ t9 => va_P (dC, dI) classes [oc ka 5 [.ref pa, .ref ga, .ref sa, .ref b1, .ref q1, .ref q2, .ref q3, .ref q4, .ref fa], ia q1 n1 4 (fun i => nI ((updN rw x (insR (rw x) p9 q9)) i)), ia q2 n2 4 (fun i => nI ((updN zs x (zs x + 1)) i))] t9.heap ∧ va_K (dC, dI) classes [] t9 ∧ va_D (va_A [oc ka 5 [.ref pa, .ref ga, .ref sa, .ref b1, .ref q1, .ref q2, .ref q3, .ref q4, .ref fa], ia q1 n1 4 (fun i => nI (rw i)), ia q2 n2 4 (fun i => nI (zs i))] sz) [oc ka 5 [.ref pa, .ref ga, .ref sa, .ref b1, .ref q1, .ref q2, .ref q3, .ref q4, .ref fa], ia q1 n1 4 (fun i => nI ((updN rw x (insR (rw x) p9 q9)) i)), ia q2 n2 4 (fun i => nI ((updN zs x (zs x + 1)) i))]) (va_A [oc ka 5 [.ref pa, .ref ga, .ref sa, .ref b1, .ref q1, .ref q2, .ref q3, .ref q4, .ref fa], ia q1 n1 4 (fun i => nI (rw i)), ia q2 n2 4 (fun i => nI (zs i))] sz)) 0 0 (va_A [oc ka 5 [.ref pa, .ref ga, .ref sa, .ref b1, .ref q1, .ref q2, .ref q3, .ref q4, .ref fa], ia q1 n1 4 (fun i => nI (rw i)), ia q2 n2 4 (fun i => nI (zs i))] sz) := by
  refine Met.ofW (cc := b_KnowledgeWalk_insert) (maxL := 7) (ret := none) (by decide) rfl ?_
  intro p e0 s m args below meth c s₁ B hml hv
  obtain ⟨rfl, hsz, hP, hK, hD0, hn⟩ := hv
  have hx := B.exec
  have hb := B.bytes
  have hr := B.returns
  have hw := fun w (h : w ∈ wt) => atoms_spec (ws := w_KnowledgeWalk_insert) B.pre w (List.mem_cons_of_mem _ h)
  have hown : s.vm.findClass R_KnowledgeWalk = some m.cls := findClass_of_methodNamed B.named
  have hlocks := B.notSynchronized
  subst hsz
  have hD1 := hD0.self (sz := s.heap.size)
  generalize hAe : va_A [oc ka 5 [.ref pa, .ref ga, .ref sa, .ref b1, .ref q1, .ref q2, .ref q3, .ref q4, .ref fa], ia q1 n1 4 (fun i => nI (rw i)), ia q2 n2 4 (fun i => nI (zs i))] s.heap.size = A at hD1 ⊢
  have hA : ∀ q : Nat, s.heap.size ≤ q → A q := fun q h => by rw [← hAe]; exact Or.inr h
  have hD : dd A [ka, q1, q2] := dd_of hD1 rfl
  clear hAe hD0 hD1
  have hS : va_S A s.heap s.heap [] := va_S.rf
  replace hP : va_P (dC, dI) classes [oc ka 5 [.ref pa, .ref ga, .ref sa, .ref b1, .ref q1, .ref q2, .ref q3, .ref q4, .ref fa], ia q1 n1 4 (fun i => nI (rw i)), ia q2 n2 4 (fun i => nI (zs i))] s.heap := hP
  have hl := lv_entry ([.ref ka, .int (nI x), .int (nI p9), .int (nI q9)]) (n := 7) (Nat.le_of_ble_eq_true rfl)
  rw [lg_entry_eq]
  generalize (lg_sl ([.ref ka, .int (nI x), .int (nI p9), .int (nI q9)]) ++ List.replicate (7 - (lg_sl ([.ref ka, .int (nI x), .int (nI p9), .int (nI q9)])).length) Slot.unset).toArray = ls at hl ⊢
  replace hl : lv_has ls 7 [(0, .ref ka), (1, .int (nI x)), (2, .int (nI p9)), (3, .int (nI q9))] := hl
  obtain ⟨i1, i2, i3, i4⟩ := insR_lt (q := rw x) hp1 hp9 hr9 hq8
  refine lv_iconst (v := 3) hx hb d_KnowledgeWalk_insert_0 (by decide) ?_
  refine lv_iload_n hx hb d_KnowledgeWalk_insert_1 rfl (lv_at hl 2 rfl) ?_
  refine lv_iconst (v := 1) hx hb d_KnowledgeWalk_insert_2 (by decide) ?_
  refine lv_isub hx hb d_KnowledgeWalk_insert_3 ?_
  refine tp_i (y := nI (p9 - 1)) (by exact pk_sub (a := p9) (b := 1) (by omega)) ?_
  refine lv_imul hx hb d_KnowledgeWalk_insert_4 ?_
  refine tp_i (y := nI (3 * (p9 - 1))) (by exact pk_mul 3 (p9 - 1)) ?_
  refine lv_istore (lv' := [(4, .int (nI (3 * (p9 - 1)))), (0, .ref ka), (1, .int (nI x)), (2, .int (nI p9)), (3, .int (nI q9))]) hx hb d_KnowledgeWalk_insert_5 hl (by decide) rfl ?_
  clear hl ls
  intro ls hl
  refine lv_aload_n hx hb d_KnowledgeWalk_insert_7 rfl (lv_at hl 1 rfl) ?_
  refine va_get (D := (dC, dI)) (ci := 5) (v := .ref q1) (C := R_KnowledgeWalk) (T := F_KnowledgeWalk) (N := 9) hx hb hw i_KnowledgeWalk hown hK hP 0 rfl rfl 4 (by decide) (hw _ m_289) (fun _ h9 => h9) rfl d_KnowledgeWalk_insert_8 ?_
  refine lv_iload_n hx hb d_KnowledgeWalk_insert_11 rfl (lv_at hl 2 rfl) ?_
  refine va_iald (D := (dC, dI)) hx hb hK hP 1 0 rfl rfl (i := nI x) (pk_in x 4 (by omega)) d_KnowledgeWalk_insert_12 ?_
  refine tp_i (y := nI (rw x)) (by rw [show (nI x : Int32).toNatClampNeg = x from pk_cl x]) ?_
  refine lv_iconst (v := 1) hx hb d_KnowledgeWalk_insert_13 (by decide) ?_
  refine lv_iload hx hb d_KnowledgeWalk_insert_14 (lv_at hl 0 rfl) ?_
  refine lv_ishl hx hb d_KnowledgeWalk_insert_16 ?_
  refine tp_i (y := 1 <<< ((nI (3 * (p9 - 1))) &&& 31)) rfl ?_
  refine lv_iconst (v := 1) hx hb d_KnowledgeWalk_insert_17 (by decide) ?_
  refine lv_isub hx hb d_KnowledgeWalk_insert_18 ?_
  refine tp_i (y := (1 <<< ((nI (3 * (p9 - 1))) &&& 31)) - 1) rfl ?_
  refine lv_iand hx hb d_KnowledgeWalk_insert_19 ?_
  refine tp_i (y := (nI (rw x)) &&& ((1 <<< ((nI (3 * (p9 - 1))) &&& 31)) - 1)) rfl ?_
  refine tp_i (y := nI (rw x % 2 ^ (3 * (p9 - 1)))) (low_eq (by omega) (by omega)) ?_
  refine lv_istore (lv' := [(5, .int (nI (rw x % 2 ^ (3 * (p9 - 1))))), (4, .int (nI (3 * (p9 - 1)))), (0, .ref ka), (1, .int (nI x)), (2, .int (nI p9)), (3, .int (nI q9))]) hx hb d_KnowledgeWalk_insert_20 hl (by decide) rfl ?_
  clear hl ls
  intro ls hl
  refine lv_aload_n hx hb d_KnowledgeWalk_insert_22 rfl (lv_at hl 2 rfl) ?_
  refine va_get (D := (dC, dI)) (ci := 5) (v := .ref q1) (C := R_KnowledgeWalk) (T := F_KnowledgeWalk) (N := 9) hx hb hw i_KnowledgeWalk hown hK hP 0 rfl rfl 4 (by decide) (hw _ m_289) (fun _ h9 => h9) rfl d_KnowledgeWalk_insert_23 ?_
  refine lv_iload_n hx hb d_KnowledgeWalk_insert_26 rfl (lv_at hl 3 rfl) ?_
  refine va_iald (D := (dC, dI)) hx hb hK hP 1 0 rfl rfl (i := nI x) (pk_in x 4 (by omega)) d_KnowledgeWalk_insert_27 ?_
  refine tp_i (y := nI (rw x)) (by rw [show (nI x : Int32).toNatClampNeg = x from pk_cl x]) ?_
  refine lv_iload hx hb d_KnowledgeWalk_insert_28 (lv_at hl 1 rfl) ?_
  refine lv_ishr hx hb d_KnowledgeWalk_insert_30 ?_
  refine tp_i (y := (nI (rw x)) >>> ((nI (3 * (p9 - 1))) &&& 31)) rfl ?_
  refine tp_i (y := nI (rw x / 2 ^ (3 * (p9 - 1)))) (pk_shrN (by omega) _ _ (sh_amt _ (by omega))) ?_
  refine lv_istore (lv' := [(6, .int (nI (rw x / 2 ^ (3 * (p9 - 1))))), (5, .int (nI (rw x % 2 ^ (3 * (p9 - 1))))), (4, .int (nI (3 * (p9 - 1)))), (0, .ref ka), (1, .int (nI x)), (2, .int (nI p9)), (3, .int (nI q9))]) hx hb d_KnowledgeWalk_insert_31 hl (by decide) rfl ?_
  clear hl ls
  intro ls hl
  refine lv_aload_n hx hb d_KnowledgeWalk_insert_33 rfl (lv_at hl 3 rfl) ?_
  refine va_get (D := (dC, dI)) (ci := 5) (v := .ref q1) (C := R_KnowledgeWalk) (T := F_KnowledgeWalk) (N := 9) hx hb hw i_KnowledgeWalk hown hK hP 0 rfl rfl 4 (by decide) (hw _ m_289) (fun _ h9 => h9) rfl d_KnowledgeWalk_insert_34 ?_
  refine lv_iload_n hx hb d_KnowledgeWalk_insert_37 rfl (lv_at hl 4 rfl) ?_
  refine lv_iload hx hb d_KnowledgeWalk_insert_38 (lv_at hl 1 rfl) ?_
  refine lv_iload_n hx hb d_KnowledgeWalk_insert_40 rfl (lv_at hl 6 rfl) ?_
  refine lv_iload hx hb d_KnowledgeWalk_insert_41 (lv_at hl 2 rfl) ?_
  refine lv_ishl hx hb d_KnowledgeWalk_insert_43 ?_
  refine tp_i (y := (nI q9) <<< ((nI (3 * (p9 - 1))) &&& 31)) rfl ?_
  refine tp_i (y := nI (q9 * 2 ^ (3 * (p9 - 1)))) (pk_shlN _ _ (sh_amt _ (by omega)) (by omega)) ?_
  refine lv_ior hx hb d_KnowledgeWalk_insert_44 ?_
  refine tp_i (y := (nI (rw x % 2 ^ (3 * (p9 - 1)))) ||| (nI (q9 * 2 ^ (3 * (p9 - 1))))) rfl ?_
  refine tp_i (y := nI ((rw x % 2 ^ (3 * (p9 - 1))) ||| (q9 * 2 ^ (3 * (p9 - 1))))) (nI_or _ _) ?_
  refine lv_iload hx hb d_KnowledgeWalk_insert_45 (lv_at hl 0 rfl) ?_
  refine lv_iload hx hb d_KnowledgeWalk_insert_47 (lv_at hl 2 rfl) ?_
  refine lv_iconst (v := 3) hx hb d_KnowledgeWalk_insert_49 (by decide) ?_
  refine lv_iadd hx hb d_KnowledgeWalk_insert_50 ?_
  refine tp_i (y := nI (3 * (p9 - 1) + 3)) (by exact nI_add (3 * (p9 - 1)) 3) ?_
  refine lv_ishl hx hb d_KnowledgeWalk_insert_51 ?_
  refine tp_i (y := (nI (rw x / 2 ^ (3 * (p9 - 1)))) <<< ((nI (3 * (p9 - 1) + 3)) &&& 31)) rfl ?_
  refine tp_i (y := nI (rw x / 2 ^ (3 * (p9 - 1)) * 2 ^ (3 * (p9 - 1) + 3))) (pk_shlN _ _ (sh_amt _ (by omega)) (by omega)) ?_
  refine lv_ior hx hb d_KnowledgeWalk_insert_52 ?_
  refine tp_i (y := (nI ((rw x % 2 ^ (3 * (p9 - 1))) ||| (q9 * 2 ^ (3 * (p9 - 1))))) ||| (nI (rw x / 2 ^ (3 * (p9 - 1)) * 2 ^ (3 * (p9 - 1) + 3)))) rfl ?_
  refine tp_i (y := nI (insR (rw x) p9 q9)) (by rw [nI_or]; rfl) ?_
  refine va_iast (D := (dC, dI)) hx hb hK hP (dd_D hD rfl) hS 1 0 rfl rfl (i := nI x) (x := nI (insR (rw x) p9 q9)) (pk_in x 4 (by omega)) d_KnowledgeWalk_insert_53 ?_
  clear hP hS
  intro H locs hP _ hS
  rw [show (nI x : Int32).toNatClampNeg = x from pk_cl x] at hP
  rw [show upd (fun i => nI (rw i)) x (nI (insR (rw x) p9 q9)) = fun i => nI (updN rw x (insR (rw x) p9 q9) i) from upd_nI] at hP
  replace hP : va_P (dC, dI) classes [oc ka 5 [.ref pa, .ref ga, .ref sa, .ref b1, .ref q1, .ref q2, .ref q3, .ref q4, .ref fa], ia q1 n1 4 (fun i => nI ((updN rw x (insR (rw x) p9 q9)) i)), ia q2 n2 4 (fun i => nI (zs i))] H := hP
  refine tp_pc (pc' := 54) (by rfl) ?_
  refine lv_aload_n hx hb d_KnowledgeWalk_insert_54 rfl (lv_at hl 3 rfl) ?_
  refine va_get (D := (dC, dI)) (ci := 5) (v := .ref q2) (C := R_KnowledgeWalk) (T := F_KnowledgeWalk) (N := 9) hx hb hw i_KnowledgeWalk hown hK hP 0 rfl rfl 5 (by decide) (hw _ m_290) (fun _ h9 => h9) rfl d_KnowledgeWalk_insert_55 ?_
  refine lv_iload_n hx hb d_KnowledgeWalk_insert_58 rfl (lv_at hl 4 rfl) ?_
  refine lv_dup2_11 hx hb d_KnowledgeWalk_insert_59 rfl rfl ?_
  refine va_iald (D := (dC, dI)) hx hb hK hP 2 1 rfl rfl (i := nI x) (pk_in x 4 (by omega)) d_KnowledgeWalk_insert_60 ?_
  refine tp_i (y := nI (zs x)) (by rw [show (nI x : Int32).toNatClampNeg = x from pk_cl x]) ?_
  refine lv_iconst (v := 1) hx hb d_KnowledgeWalk_insert_61 (by decide) ?_
  refine lv_iadd hx hb d_KnowledgeWalk_insert_62 ?_
  refine tp_i (y := nI (zs x + 1)) (by exact nI_add (zs x) 1) ?_
  refine va_iast (D := (dC, dI)) hx hb hK hP (dd_D hD rfl) hS 2 1 rfl rfl (i := nI x) (x := nI (zs x + 1)) (pk_in x 4 (by omega)) d_KnowledgeWalk_insert_63 ?_
  clear hP hS locs H
  intro H locs hP _ hS
  rw [show (nI x : Int32).toNatClampNeg = x from pk_cl x] at hP
  rw [show upd (fun i => nI (zs i)) x (nI (zs x + 1)) = fun i => nI (updN zs x (zs x + 1) i) from upd_nI] at hP
  replace hP : va_P (dC, dI) classes [oc ka 5 [.ref pa, .ref ga, .ref sa, .ref b1, .ref q1, .ref q2, .ref q3, .ref q4, .ref fa], ia q1 n1 4 (fun i => nI ((updN rw x (insR (rw x) p9 q9)) i)), ia q2 n2 4 (fun i => nI ((updN zs x (zs x + 1)) i))] H := hP
  refine tp_pc (pc' := 64) (by rfl) ?_
  obtain ⟨hP9, hD9, -⟩ := cut3 (wc := [oc ka 5 [.ref pa, .ref ga, .ref sa, .ref b1, .ref q1, .ref q2, .ref q3, .ref q4, .ref fa], ia q1 n1 4 (fun i => nI ((updN rw x (insR (rw x) p9 q9)) i)), ia q2 n2 4 (fun i => nI ((updN zs x (zs x + 1)) i))]) hP hD rfl hS hA [0, 1, 2] (by decide +kernel) rfl
  have hK9 := hK.sub (tys' := []) [] rfl
  refine W.widen (k := 0) (n := 0) (by exact Nat.le_of_ble_eq_true rfl) (by exact Nat.le_of_ble_eq_true rfl) ?_
  exact W.vret hx hb hr (fun t9 ht9 hW => ⟨⟨(), rfl, trivial, by rw [ht9]; exact hP9, va_K.moved hW.alike hK9, hD9⟩, hS.F ht9⟩) hS.2.2 d_KnowledgeWalk_insert_64
set_option maxHeartbeats 4000000 in
set_option maxRecDepth 100000 in
theorem gen_KW_rowsKey (l : Launch) (dC : Nat → ClassId) (dI : Nat → Nat → Nat) (pa : Nat) (ka ga sa b1 q1 q2 q3 q4 fa : Nat) (n1 n2 n3 n4 : ClassId) (rw zs le tl : Nat → Nat)  (sz : Nat) : Met l y_KnowledgeWalk_rowsKey w_KnowledgeWalk_rowsKey ({ frames := 0, cells := 0, slots := 0, locals := 0 }) (va_Pc [.ref ka] (fun U => U.heap.size = sz ∧ va_P (dC, dI) classes [oc ka 5 [.ref pa, .ref ga, .ref sa, .ref b1, .ref q1, .ref q2, .ref q3, .ref q4, .ref fa], ia q1 n1 4 (fun i => nI (rw i)), ia q2 n2 4 (fun i => nI (zs i))] U.heap ∧ va_K (dC, dI) classes [(n1, .int), (n2, .int)] U ∧ va_D (fun _ => True) [oc ka 5 [.ref pa, .ref ga, .ref sa, .ref b1, .ref q1, .ref q2, .ref q3, .ref q4, .ref fa], ia q1 n1 4 (fun i => nI (rw i)), ia q2 n2 4 (fun i => nI (zs i))] ∧ nw U)) (va_Ql (fun (r : Int64) (_ : Unit) => r = rwK rw zs 4) (fun _ t9 => va_P (dC, dI) classes [oc ka 5 [.ref pa, .ref ga, .ref sa, .ref b1, .ref q1, .ref q2, .ref q3, .ref q4, .ref fa], ia q1 n1 4 (fun i => nI (rw i)), ia q2 n2 4 (fun i => nI (zs i))] t9.heap ∧ va_K (dC, dI) classes [] t9 ∧ va_D (va_A [oc ka 5 [.ref pa, .ref ga, .ref sa, .ref b1, .ref q1, .ref q2, .ref q3, .ref q4, .ref fa], ia q1 n1 4 (fun i => nI (rw i)), ia q2 n2 4 (fun i => nI (zs i))] sz) [oc ka 5 [.ref pa, .ref ga, .ref sa, .ref b1, .ref q1, .ref q2, .ref q3, .ref q4, .ref fa], ia q1 n1 4 (fun i => nI (rw i)), ia q2 n2 4 (fun i => nI (zs i))]) (va_A [oc ka 5 [.ref pa, .ref ga, .ref sa, .ref b1, .ref q1, .ref q2, .ref q3, .ref q4, .ref fa], ia q1 n1 4 (fun i => nI (rw i)), ia q2 n2 4 (fun i => nI (zs i))] sz)) 0 0 (va_A [oc ka 5 [.ref pa, .ref ga, .ref sa, .ref b1, .ref q1, .ref q2, .ref q3, .ref q4, .ref fa], ia q1 n1 4 (fun i => nI (rw i)), ia q2 n2 4 (fun i => nI (zs i))] sz) := by
  refine Met.ofW (cc := b_KnowledgeWalk_rowsKey) (maxL := 4) (ret := (some .long)) (by decide) rfl ?_
  intro p e0 s m args below meth c s₁ B hml hv
  obtain ⟨rfl, hsz, hP, hK, hD0, hn⟩ := hv
  have hx := B.exec
  have hb := B.bytes
  have hr := B.returns
  have hw := fun w (h : w ∈ wt) => atoms_spec (ws := w_KnowledgeWalk_rowsKey) B.pre w (List.mem_cons_of_mem _ h)
  have hown : s.vm.findClass R_KnowledgeWalk = some m.cls := findClass_of_methodNamed B.named
  have hlocks := B.notSynchronized
  subst hsz
  have hD1 := hD0.self (sz := s.heap.size)
  generalize hAe : va_A [oc ka 5 [.ref pa, .ref ga, .ref sa, .ref b1, .ref q1, .ref q2, .ref q3, .ref q4, .ref fa], ia q1 n1 4 (fun i => nI (rw i)), ia q2 n2 4 (fun i => nI (zs i))] s.heap.size = A at hD1 ⊢
  have hA : ∀ q : Nat, s.heap.size ≤ q → A q := fun q h => by rw [← hAe]; exact Or.inr h
  have hD : dd A [ka, q1, q2] := dd_of hD1 rfl
  clear hAe hD0 hD1
  have hS : va_S A s.heap s.heap [] := va_S.rf
  replace hP : va_P (dC, dI) classes [oc ka 5 [.ref pa, .ref ga, .ref sa, .ref b1, .ref q1, .ref q2, .ref q3, .ref q4, .ref fa], ia q1 n1 4 (fun i => nI (rw i)), ia q2 n2 4 (fun i => nI (zs i))] s.heap := hP
  have hl := lv_entry ([.ref ka]) (n := 4) (Nat.le_of_ble_eq_true rfl)
  rw [lg_entry_eq]
  generalize (lg_sl ([.ref ka]) ++ List.replicate (4 - (lg_sl ([.ref ka])).length) Slot.unset).toArray = ls at hl ⊢
  replace hl : lv_has ls 4 [(0, .ref ka)] := hl
  refine lv_lconst (v := 0) hx hb d_KnowledgeWalk_rowsKey_0 (by decide) ?_
  refine lv_lstore_n (lv' := [(1, .long 0), (0, .ref ka)]) hx hb d_KnowledgeWalk_rowsKey_1 rfl hl (by decide) rfl ?_
  clear hl ls
  intro ls hl
  refine lv_iconst (v := 0) hx hb d_KnowledgeWalk_rowsKey_2 (by decide) ?_
  refine lv_istore_n (lv' := [(3, .int 0), (1, .long 0), (0, .ref ka)]) hx hb d_KnowledgeWalk_rowsKey_3 rfl hl (by decide) rfl ?_
  clear hl ls
  intro ls hl
  refine lv_iload_n hx hb d_KnowledgeWalk_rowsKey_4 rfl (lv_at hl 0 rfl) ?_
  refine lv_iconst (v := 4) hx hb d_KnowledgeWalk_rowsKey_5 (by decide) ?_
  refine lv_icmp_ge (tgt := 34) hx hb d_KnowledgeWalk_rowsKey_6 (by decide) (fun c_1 => absurd c_1 (by decide)) (fun c_1 => ?_)
  refine tp_pc (pc' := 9) (by rfl) ?_
  refine lv_lload_n hx hb d_KnowledgeWalk_rowsKey_9 rfl (lv_at hl 1 rfl) ?_
  refine lv_iconst (v := 3) hx hb d_KnowledgeWalk_rowsKey_10 (by decide) ?_
  refine lv_aload_n hx hb d_KnowledgeWalk_rowsKey_11 rfl (lv_at hl 2 rfl) ?_
  refine va_get (D := (dC, dI)) (ci := 5) (v := .ref q2) (C := R_KnowledgeWalk) (T := F_KnowledgeWalk) (N := 9) hx hb hw i_KnowledgeWalk hown hK hP 0 rfl rfl 5 (by decide) (hw _ m_290) (fun _ h9 => h9) rfl d_KnowledgeWalk_rowsKey_12 ?_
  refine lv_iload_n hx hb d_KnowledgeWalk_rowsKey_15 rfl (lv_at hl 0 rfl) ?_
  refine va_iald (D := (dC, dI)) hx hb hK hP 2 1 rfl rfl (i := 0) (pk_in 0 4 (by omega)) d_KnowledgeWalk_rowsKey_16 ?_
  refine tp_i (y := nI (zs 0)) (by rw [show (0 : Int32).toNatClampNeg = 0 from pk_cl 0]) ?_
  refine lv_imul hx hb d_KnowledgeWalk_rowsKey_17 ?_
  refine tp_i (y := nI (3 * (zs 0))) (by exact pk_mul 3 (zs 0)) ?_
  refine lv_lshl (v := 0 <<< (((nI (3 * (zs 0))) : Int32).toInt64 &&& 63)) hx hb d_KnowledgeWalk_rowsKey_18 rfl ?_
  refine lv_aload_n hx hb d_KnowledgeWalk_rowsKey_19 rfl (lv_at hl 2 rfl) ?_
  refine va_get (D := (dC, dI)) (ci := 5) (v := .ref q1) (C := R_KnowledgeWalk) (T := F_KnowledgeWalk) (N := 9) hx hb hw i_KnowledgeWalk hown hK hP 0 rfl rfl 4 (by decide) (hw _ m_289) (fun _ h9 => h9) rfl d_KnowledgeWalk_rowsKey_20 ?_
  refine lv_iload_n hx hb d_KnowledgeWalk_rowsKey_23 rfl (lv_at hl 0 rfl) ?_
  refine va_iald (D := (dC, dI)) hx hb hK hP 1 0 rfl rfl (i := 0) (pk_in 0 4 (by omega)) d_KnowledgeWalk_rowsKey_24 ?_
  refine tp_i (y := nI (rw 0)) (by rw [show (0 : Int32).toNatClampNeg = 0 from pk_cl 0]) ?_
  refine lv_i2l (v := (nI (rw 0)).toInt64) hx hb d_KnowledgeWalk_rowsKey_25 rfl ?_
  refine lv_lor hx hb d_KnowledgeWalk_rowsKey_26 ?_
  refine tp_l (y := (0 <<< (((nI (3 * (zs 0))) : Int32).toInt64 &&& 63)) ||| ((nI (rw 0)).toInt64)) rfl ?_
  refine tp_l (y := rwK rw zs 1) rfl ?_
  refine lv_lstore_n (lv' := [(1, .long (rwK rw zs 1)), (3, .int 0), (0, .ref ka)]) hx hb d_KnowledgeWalk_rowsKey_27 rfl hl (by decide) rfl ?_
  clear hl ls
  intro ls hl
  refine lv_iinc (v := 1) (lv' := [(3, .int 1), (1, .long (rwK rw zs 1)), (0, .ref ka)]) hx hb d_KnowledgeWalk_rowsKey_28 hl (k := 1) rfl (by first | rfl | decide) (by decide) rfl ?_
  clear hl ls
  intro ls hl
  refine lv_goto (tgt := 4) hx hb d_KnowledgeWalk_rowsKey_31 (by decide) ?_
  refine tp_pc (pc' := 4) (by rfl) ?_
  refine lv_iload_n hx hb d_KnowledgeWalk_rowsKey_4 rfl (lv_at hl 0 rfl) ?_
  refine lv_iconst (v := 4) hx hb d_KnowledgeWalk_rowsKey_5 (by decide) ?_
  refine lv_icmp_ge (tgt := 34) hx hb d_KnowledgeWalk_rowsKey_6 (by decide) (fun c_2 => absurd c_2 (by decide)) (fun c_2 => ?_)
  refine tp_pc (pc' := 9) (by rfl) ?_
  refine lv_lload_n hx hb d_KnowledgeWalk_rowsKey_9 rfl (lv_at hl 1 rfl) ?_
  refine lv_iconst (v := 3) hx hb d_KnowledgeWalk_rowsKey_10 (by decide) ?_
  refine lv_aload_n hx hb d_KnowledgeWalk_rowsKey_11 rfl (lv_at hl 2 rfl) ?_
  refine va_get (D := (dC, dI)) (ci := 5) (v := .ref q2) (C := R_KnowledgeWalk) (T := F_KnowledgeWalk) (N := 9) hx hb hw i_KnowledgeWalk hown hK hP 0 rfl rfl 5 (by decide) (hw _ m_290) (fun _ h9 => h9) rfl d_KnowledgeWalk_rowsKey_12 ?_
  refine lv_iload_n hx hb d_KnowledgeWalk_rowsKey_15 rfl (lv_at hl 0 rfl) ?_
  refine va_iald (D := (dC, dI)) hx hb hK hP 2 1 rfl rfl (i := 1) (pk_in 1 4 (by omega)) d_KnowledgeWalk_rowsKey_16 ?_
  refine tp_i (y := nI (zs 1)) (by rw [show (1 : Int32).toNatClampNeg = 1 from pk_cl 1]) ?_
  refine lv_imul hx hb d_KnowledgeWalk_rowsKey_17 ?_
  refine tp_i (y := nI (3 * (zs 1))) (by exact pk_mul 3 (zs 1)) ?_
  refine lv_lshl (v := (rwK rw zs 1) <<< (((nI (3 * (zs 1))) : Int32).toInt64 &&& 63)) hx hb d_KnowledgeWalk_rowsKey_18 rfl ?_
  refine lv_aload_n hx hb d_KnowledgeWalk_rowsKey_19 rfl (lv_at hl 2 rfl) ?_
  refine va_get (D := (dC, dI)) (ci := 5) (v := .ref q1) (C := R_KnowledgeWalk) (T := F_KnowledgeWalk) (N := 9) hx hb hw i_KnowledgeWalk hown hK hP 0 rfl rfl 4 (by decide) (hw _ m_289) (fun _ h9 => h9) rfl d_KnowledgeWalk_rowsKey_20 ?_
  refine lv_iload_n hx hb d_KnowledgeWalk_rowsKey_23 rfl (lv_at hl 0 rfl) ?_
  refine va_iald (D := (dC, dI)) hx hb hK hP 1 0 rfl rfl (i := 1) (pk_in 1 4 (by omega)) d_KnowledgeWalk_rowsKey_24 ?_
  refine tp_i (y := nI (rw 1)) (by rw [show (1 : Int32).toNatClampNeg = 1 from pk_cl 1]) ?_
  refine lv_i2l (v := (nI (rw 1)).toInt64) hx hb d_KnowledgeWalk_rowsKey_25 rfl ?_
  refine lv_lor hx hb d_KnowledgeWalk_rowsKey_26 ?_
  refine tp_l (y := ((rwK rw zs 1) <<< (((nI (3 * (zs 1))) : Int32).toInt64 &&& 63)) ||| ((nI (rw 1)).toInt64)) rfl ?_
  refine tp_l (y := rwK rw zs 2) rfl ?_
  refine lv_lstore_n (lv' := [(1, .long (rwK rw zs 2)), (3, .int 1), (0, .ref ka)]) hx hb d_KnowledgeWalk_rowsKey_27 rfl hl (by decide) rfl ?_
  clear hl ls
  intro ls hl
  refine lv_iinc (v := 2) (lv' := [(3, .int 2), (1, .long (rwK rw zs 2)), (0, .ref ka)]) hx hb d_KnowledgeWalk_rowsKey_28 hl (k := 1) rfl (by first | rfl | decide) (by decide) rfl ?_
  clear hl ls
  intro ls hl
  refine lv_goto (tgt := 4) hx hb d_KnowledgeWalk_rowsKey_31 (by decide) ?_
  refine tp_pc (pc' := 4) (by rfl) ?_
  refine lv_iload_n hx hb d_KnowledgeWalk_rowsKey_4 rfl (lv_at hl 0 rfl) ?_
  refine lv_iconst (v := 4) hx hb d_KnowledgeWalk_rowsKey_5 (by decide) ?_
  refine lv_icmp_ge (tgt := 34) hx hb d_KnowledgeWalk_rowsKey_6 (by decide) (fun c_3 => absurd c_3 (by decide)) (fun c_3 => ?_)
  refine tp_pc (pc' := 9) (by rfl) ?_
  refine lv_lload_n hx hb d_KnowledgeWalk_rowsKey_9 rfl (lv_at hl 1 rfl) ?_
  refine lv_iconst (v := 3) hx hb d_KnowledgeWalk_rowsKey_10 (by decide) ?_
  refine lv_aload_n hx hb d_KnowledgeWalk_rowsKey_11 rfl (lv_at hl 2 rfl) ?_
  refine va_get (D := (dC, dI)) (ci := 5) (v := .ref q2) (C := R_KnowledgeWalk) (T := F_KnowledgeWalk) (N := 9) hx hb hw i_KnowledgeWalk hown hK hP 0 rfl rfl 5 (by decide) (hw _ m_290) (fun _ h9 => h9) rfl d_KnowledgeWalk_rowsKey_12 ?_
  refine lv_iload_n hx hb d_KnowledgeWalk_rowsKey_15 rfl (lv_at hl 0 rfl) ?_
  refine va_iald (D := (dC, dI)) hx hb hK hP 2 1 rfl rfl (i := 2) (pk_in 2 4 (by omega)) d_KnowledgeWalk_rowsKey_16 ?_
  refine tp_i (y := nI (zs 2)) (by rw [show (2 : Int32).toNatClampNeg = 2 from pk_cl 2]) ?_
  refine lv_imul hx hb d_KnowledgeWalk_rowsKey_17 ?_
  refine tp_i (y := nI (3 * (zs 2))) (by exact pk_mul 3 (zs 2)) ?_
  refine lv_lshl (v := (rwK rw zs 2) <<< (((nI (3 * (zs 2))) : Int32).toInt64 &&& 63)) hx hb d_KnowledgeWalk_rowsKey_18 rfl ?_
  refine lv_aload_n hx hb d_KnowledgeWalk_rowsKey_19 rfl (lv_at hl 2 rfl) ?_
  refine va_get (D := (dC, dI)) (ci := 5) (v := .ref q1) (C := R_KnowledgeWalk) (T := F_KnowledgeWalk) (N := 9) hx hb hw i_KnowledgeWalk hown hK hP 0 rfl rfl 4 (by decide) (hw _ m_289) (fun _ h9 => h9) rfl d_KnowledgeWalk_rowsKey_20 ?_
  refine lv_iload_n hx hb d_KnowledgeWalk_rowsKey_23 rfl (lv_at hl 0 rfl) ?_
  refine va_iald (D := (dC, dI)) hx hb hK hP 1 0 rfl rfl (i := 2) (pk_in 2 4 (by omega)) d_KnowledgeWalk_rowsKey_24 ?_
  refine tp_i (y := nI (rw 2)) (by rw [show (2 : Int32).toNatClampNeg = 2 from pk_cl 2]) ?_
  refine lv_i2l (v := (nI (rw 2)).toInt64) hx hb d_KnowledgeWalk_rowsKey_25 rfl ?_
  refine lv_lor hx hb d_KnowledgeWalk_rowsKey_26 ?_
  refine tp_l (y := ((rwK rw zs 2) <<< (((nI (3 * (zs 2))) : Int32).toInt64 &&& 63)) ||| ((nI (rw 2)).toInt64)) rfl ?_
  refine tp_l (y := rwK rw zs 3) rfl ?_
  refine lv_lstore_n (lv' := [(1, .long (rwK rw zs 3)), (3, .int 2), (0, .ref ka)]) hx hb d_KnowledgeWalk_rowsKey_27 rfl hl (by decide) rfl ?_
  clear hl ls
  intro ls hl
  refine lv_iinc (v := 3) (lv' := [(3, .int 3), (1, .long (rwK rw zs 3)), (0, .ref ka)]) hx hb d_KnowledgeWalk_rowsKey_28 hl (k := 1) rfl (by first | rfl | decide) (by decide) rfl ?_
  clear hl ls
  intro ls hl
  refine lv_goto (tgt := 4) hx hb d_KnowledgeWalk_rowsKey_31 (by decide) ?_
  refine tp_pc (pc' := 4) (by rfl) ?_
  refine lv_iload_n hx hb d_KnowledgeWalk_rowsKey_4 rfl (lv_at hl 0 rfl) ?_
  refine lv_iconst (v := 4) hx hb d_KnowledgeWalk_rowsKey_5 (by decide) ?_
  refine lv_icmp_ge (tgt := 34) hx hb d_KnowledgeWalk_rowsKey_6 (by decide) (fun c_4 => absurd c_4 (by decide)) (fun c_4 => ?_)
  refine tp_pc (pc' := 9) (by rfl) ?_
  refine lv_lload_n hx hb d_KnowledgeWalk_rowsKey_9 rfl (lv_at hl 1 rfl) ?_
  refine lv_iconst (v := 3) hx hb d_KnowledgeWalk_rowsKey_10 (by decide) ?_
  refine lv_aload_n hx hb d_KnowledgeWalk_rowsKey_11 rfl (lv_at hl 2 rfl) ?_
  refine va_get (D := (dC, dI)) (ci := 5) (v := .ref q2) (C := R_KnowledgeWalk) (T := F_KnowledgeWalk) (N := 9) hx hb hw i_KnowledgeWalk hown hK hP 0 rfl rfl 5 (by decide) (hw _ m_290) (fun _ h9 => h9) rfl d_KnowledgeWalk_rowsKey_12 ?_
  refine lv_iload_n hx hb d_KnowledgeWalk_rowsKey_15 rfl (lv_at hl 0 rfl) ?_
  refine va_iald (D := (dC, dI)) hx hb hK hP 2 1 rfl rfl (i := 3) (pk_in 3 4 (by omega)) d_KnowledgeWalk_rowsKey_16 ?_
  refine tp_i (y := nI (zs 3)) (by rw [show (3 : Int32).toNatClampNeg = 3 from pk_cl 3]) ?_
  refine lv_imul hx hb d_KnowledgeWalk_rowsKey_17 ?_
  refine tp_i (y := nI (3 * (zs 3))) (by exact pk_mul 3 (zs 3)) ?_
  refine lv_lshl (v := (rwK rw zs 3) <<< (((nI (3 * (zs 3))) : Int32).toInt64 &&& 63)) hx hb d_KnowledgeWalk_rowsKey_18 rfl ?_
  refine lv_aload_n hx hb d_KnowledgeWalk_rowsKey_19 rfl (lv_at hl 2 rfl) ?_
  refine va_get (D := (dC, dI)) (ci := 5) (v := .ref q1) (C := R_KnowledgeWalk) (T := F_KnowledgeWalk) (N := 9) hx hb hw i_KnowledgeWalk hown hK hP 0 rfl rfl 4 (by decide) (hw _ m_289) (fun _ h9 => h9) rfl d_KnowledgeWalk_rowsKey_20 ?_
  refine lv_iload_n hx hb d_KnowledgeWalk_rowsKey_23 rfl (lv_at hl 0 rfl) ?_
  refine va_iald (D := (dC, dI)) hx hb hK hP 1 0 rfl rfl (i := 3) (pk_in 3 4 (by omega)) d_KnowledgeWalk_rowsKey_24 ?_
  refine tp_i (y := nI (rw 3)) (by rw [show (3 : Int32).toNatClampNeg = 3 from pk_cl 3]) ?_
  refine lv_i2l (v := (nI (rw 3)).toInt64) hx hb d_KnowledgeWalk_rowsKey_25 rfl ?_
  refine lv_lor hx hb d_KnowledgeWalk_rowsKey_26 ?_
  refine tp_l (y := ((rwK rw zs 3) <<< (((nI (3 * (zs 3))) : Int32).toInt64 &&& 63)) ||| ((nI (rw 3)).toInt64)) rfl ?_
  refine tp_l (y := rwK rw zs 4) rfl ?_
  refine lv_lstore_n (lv' := [(1, .long (rwK rw zs 4)), (3, .int 3), (0, .ref ka)]) hx hb d_KnowledgeWalk_rowsKey_27 rfl hl (by decide) rfl ?_
  clear hl ls
  intro ls hl
  refine lv_iinc (v := 4) (lv' := [(3, .int 4), (1, .long (rwK rw zs 4)), (0, .ref ka)]) hx hb d_KnowledgeWalk_rowsKey_28 hl (k := 1) rfl (by first | rfl | decide) (by decide) rfl ?_
  clear hl ls
  intro ls hl
  refine lv_goto (tgt := 4) hx hb d_KnowledgeWalk_rowsKey_31 (by decide) ?_
  refine tp_pc (pc' := 4) (by rfl) ?_
  refine lv_iload_n hx hb d_KnowledgeWalk_rowsKey_4 rfl (lv_at hl 0 rfl) ?_
  refine lv_iconst (v := 4) hx hb d_KnowledgeWalk_rowsKey_5 (by decide) ?_
  refine lv_icmp_ge (tgt := 34) hx hb d_KnowledgeWalk_rowsKey_6 (by decide) (fun c_5 => ?_) (fun c_5 => absurd c_5 (by decide))
  refine tp_pc (pc' := 34) (by rfl) ?_
  refine lv_lload_n hx hb d_KnowledgeWalk_rowsKey_34 rfl (lv_at hl 1 rfl) ?_
  obtain ⟨hP9, hD9, -⟩ := cut3 (wc := [oc ka 5 [.ref pa, .ref ga, .ref sa, .ref b1, .ref q1, .ref q2, .ref q3, .ref q4, .ref fa], ia q1 n1 4 (fun i => nI (rw i)), ia q2 n2 4 (fun i => nI (zs i))]) hP hD rfl hS hA [0, 1, 2] (by decide +kernel) rfl
  have hK9 := hK.sub (tys' := []) [] rfl
  refine W.widen (k := 0) (n := 0) (by exact Nat.le_of_ble_eq_true rfl) (by exact Nat.le_of_ble_eq_true rfl) ?_
  exact W.lret (v := (rwK rw zs 4)) hx hb hr (fun t9 ht9 hW => ⟨⟨rwK rw zs 4, (), rfl, rfl, by rw [ht9]; exact hP9, va_K.moved hW.alike hK9, hD9⟩, hS.F ht9⟩) hS.2.2 d_KnowledgeWalk_rowsKey_35
