set_option maxHeartbeats 4000000 in
set_option maxRecDepth 100000 in
theorem gen_Progress_perform_0 (l : Launch) (dC : Nat → ClassId) (dI : Nat → Nat → Nat) (pa : Nat) (pA : Nat → Nat) (pK : Nat → ClassId) (T Ac : Nat) (pg : Nat → Nat → Nat) (nm : Nat → Int32) (ga g1 g2 g3 : Nat) (l1 l2 l3 : ClassId) (dn : Nat) (so : Int64) (pl : Nat → Nat) (rg vl : Nat → Int32) (a s9 : Nat) (ha : a < 7) (hs8 : s9 < 8) (hdn : dn < 128) (h2 : pg 2 a < 4) (hpl : pl (pg 2 a) < 1000) (h5 : pg 5 a < 1000) (h8 : pg 6 a < 8) (hk : pg 4 a = 0) (sz : Nat) : Met l y_Progress_perform w_Progress_perform ({ frames := 0, cells := 0, slots := 0, locals := 0 }) (va_Pc [.ref ga, .int (nI a), .int (nI s9)] (fun U => U.heap.size = sz ∧ va_P (dC, dI) classes [oc ga 1 [.ref pa, .ref g1, .ref g2, .ref g3, .int (nI dn), .long so], ia g1 l1 4 (fun i => nI (pl i)), ia g2 l2 8 rg, ia g3 l3 8 vl, oc pa 0 [.ref (pA 0), .ref (pA 1), .ref (pA 2), .ref (pA 3), .ref (pA 4), .ref (pA 5), .ref (pA 6), .ref (pA 7), .ref (pA 8), .ref (pA 9), .ref (pA 10), .int (nI T), .int (nI Ac)], ia (pA 2) (pK 2) 7 (fun i => nI ((pg 2) i)), ia (pA 4) (pK 4) 7 (fun i => nI ((pg 4) i)), ia (pA 5) (pK 5) 7 (fun i => nI ((pg 5) i)), ia (pA 6) (pK 6) 7 (fun i => nI ((pg 6) i)), ia (pA 7) (pK 7) 7 nm] U.heap ∧ va_K (dC, dI) classes [(l1, .int), (l2, .int), (l3, .int), ((pK 2), .int), ((pK 4), .int), ((pK 5), .int), ((pK 6), .int), ((pK 7), .int)] U ∧ va_D (fun _ => True) [oc ga 1 [.ref pa, .ref g1, .ref g2, .ref g3, .int (nI dn), .long so], ia g1 l1 4 (fun i => nI (pl i)), ia g2 l2 8 rg, ia g3 l3 8 vl, oc pa 0 [.ref (pA 0), .ref (pA 1), .ref (pA 2), .ref (pA 3), .ref (pA 4), .ref (pA 5), .ref (pA 6), .ref (pA 7), .ref (pA 8), .ref (pA 9), .ref (pA 10), .int (nI T), .int (nI Ac)], ia (pA 2) (pK 2) 7 (fun i => nI ((pg 2) i)), ia (pA 4) (pK 4) 7 (fun i => nI ((pg 4) i)), ia (pA 5) (pK 5) 7 (fun i => nI ((pg 5) i)), ia (pA 6) (pK 6) 7 (fun i => nI ((pg 6) i)), ia (pA 7) (pK 7) 7 nm] ∧ nw U)) (va_Qv (fun _ : Unit => True) (fun _ t9 => va_P (dC, dI) classes [oc ga 1 [.ref pa, .ref g1, .ref g2, .ref g3, .int (nI (dn ||| 2 ^ a)), .long (srcP so s9 a)], ia g1 l1 4 (fun i => nI ((updN pl (pg 2 a) (pl (pg 2 a) + 1)) i)), ia g2 l2 8 (upd rg (pg 6 a) (vl s9)), ia g3 l3 8 vl, oc pa 0 [.ref (pA 0), .ref (pA 1), .ref (pA 2), .ref (pA 3), .ref (pA 4), .ref (pA 5), .ref (pA 6), .ref (pA 7), .ref (pA 8), .ref (pA 9), .ref (pA 10), .int (nI T), .int (nI Ac)], ia (pA 2) (pK 2) 7 (fun i => nI ((pg 2) i)), ia (pA 4) (pK 4) 7 (fun i => nI ((pg 4) i)), ia (pA 5) (pK 5) 7 (fun i => nI ((pg 5) i)), ia (pA 6) (pK 6) 7 (fun i => nI ((pg 6) i)), ia (pA 7) (pK 7) 7 nm] t9.heap ∧ va_K (dC, dI) classes [] t9 ∧ va_D (va_A [oc ga 1 [.ref pa, .ref g1, .ref g2, .ref g3, .int (nI dn), .long so], ia g1 l1 4 (fun i => nI (pl i)), ia g2 l2 8 rg, ia g3 l3 8 vl, oc pa 0 [.ref (pA 0), .ref (pA 1), .ref (pA 2), .ref (pA 3), .ref (pA 4), .ref (pA 5), .ref (pA 6), .ref (pA 7), .ref (pA 8), .ref (pA 9), .ref (pA 10), .int (nI T), .int (nI Ac)], ia (pA 2) (pK 2) 7 (fun i => nI ((pg 2) i)), ia (pA 4) (pK 4) 7 (fun i => nI ((pg 4) i)), ia (pA 5) (pK 5) 7 (fun i => nI ((pg 5) i)), ia (pA 6) (pK 6) 7 (fun i => nI ((pg 6) i)), ia (pA 7) (pK 7) 7 nm] sz) [oc ga 1 [.ref pa, .ref g1, .ref g2, .ref g3, .int (nI (dn ||| 2 ^ a)), .long (srcP so s9 a)], ia g1 l1 4 (fun i => nI ((updN pl (pg 2 a) (pl (pg 2 a) + 1)) i)), ia g2 l2 8 (upd rg (pg 6 a) (vl s9)), ia g3 l3 8 vl, oc pa 0 [.ref (pA 0), .ref (pA 1), .ref (pA 2), .ref (pA 3), .ref (pA 4), .ref (pA 5), .ref (pA 6), .ref (pA 7), .ref (pA 8), .ref (pA 9), .ref (pA 10), .int (nI T), .int (nI Ac)], ia (pA 2) (pK 2) 7 (fun i => nI ((pg 2) i)), ia (pA 4) (pK 4) 7 (fun i => nI ((pg 4) i)), ia (pA 5) (pK 5) 7 (fun i => nI ((pg 5) i)), ia (pA 6) (pK 6) 7 (fun i => nI ((pg 6) i)), ia (pA 7) (pK 7) 7 nm]) (va_A [oc ga 1 [.ref pa, .ref g1, .ref g2, .ref g3, .int (nI dn), .long so], ia g1 l1 4 (fun i => nI (pl i)), ia g2 l2 8 rg, ia g3 l3 8 vl, oc pa 0 [.ref (pA 0), .ref (pA 1), .ref (pA 2), .ref (pA 3), .ref (pA 4), .ref (pA 5), .ref (pA 6), .ref (pA 7), .ref (pA 8), .ref (pA 9), .ref (pA 10), .int (nI T), .int (nI Ac)], ia (pA 2) (pK 2) 7 (fun i => nI ((pg 2) i)), ia (pA 4) (pK 4) 7 (fun i => nI ((pg 4) i)), ia (pA 5) (pK 5) 7 (fun i => nI ((pg 5) i)), ia (pA 6) (pK 6) 7 (fun i => nI ((pg 6) i)), ia (pA 7) (pK 7) 7 nm] sz)) 0 0 (va_A [oc ga 1 [.ref pa, .ref g1, .ref g2, .ref g3, .int (nI dn), .long so], ia g1 l1 4 (fun i => nI (pl i)), ia g2 l2 8 rg, ia g3 l3 8 vl, oc pa 0 [.ref (pA 0), .ref (pA 1), .ref (pA 2), .ref (pA 3), .ref (pA 4), .ref (pA 5), .ref (pA 6), .ref (pA 7), .ref (pA 8), .ref (pA 9), .ref (pA 10), .int (nI T), .int (nI Ac)], ia (pA 2) (pK 2) 7 (fun i => nI ((pg 2) i)), ia (pA 4) (pK 4) 7 (fun i => nI ((pg 4) i)), ia (pA 5) (pK 5) 7 (fun i => nI ((pg 5) i)), ia (pA 6) (pK 6) 7 (fun i => nI ((pg 6) i)), ia (pA 7) (pK 7) 7 nm] sz) := by
  refine Met.ofW (cc := b_Progress_perform) (maxL := 6) (ret := none) (by decide) rfl ?_
  intro p e0 s m args below meth c s₁ B hml hv
  obtain ⟨rfl, hsz, hP, hK, hD0, hn⟩ := hv
  have hx := B.exec
  have hb := B.bytes
  have hr := B.returns
  have hw := fun w (h : w ∈ wt) => atoms_spec (ws := w_Progress_perform) B.pre w (List.mem_cons_of_mem _ h)
  have hown : s.vm.findClass R_Progress = some m.cls := findClass_of_methodNamed B.named
  have hlocks := B.notSynchronized
  subst hsz
  have hD1 := hD0.self (sz := s.heap.size)
  generalize hAe : va_A [oc ga 1 [.ref pa, .ref g1, .ref g2, .ref g3, .int (nI dn), .long so], ia g1 l1 4 (fun i => nI (pl i)), ia g2 l2 8 rg, ia g3 l3 8 vl, oc pa 0 [.ref (pA 0), .ref (pA 1), .ref (pA 2), .ref (pA 3), .ref (pA 4), .ref (pA 5), .ref (pA 6), .ref (pA 7), .ref (pA 8), .ref (pA 9), .ref (pA 10), .int (nI T), .int (nI Ac)], ia (pA 2) (pK 2) 7 (fun i => nI ((pg 2) i)), ia (pA 4) (pK 4) 7 (fun i => nI ((pg 4) i)), ia (pA 5) (pK 5) 7 (fun i => nI ((pg 5) i)), ia (pA 6) (pK 6) 7 (fun i => nI ((pg 6) i)), ia (pA 7) (pK 7) 7 nm] s.heap.size = A at hD1 ⊢
  have hA : ∀ q : Nat, s.heap.size ≤ q → A q := fun q h => by rw [← hAe]; exact Or.inr h
  have hD : dd A [ga, g1, g2, g3, pa, (pA 2), (pA 4), (pA 5), (pA 6), (pA 7)] := dd_of hD1 rfl
  clear hAe hD0 hD1
  have hS : va_S A s.heap s.heap [] := va_S.rf
  replace hP : va_P (dC, dI) classes [oc ga 1 [.ref pa, .ref g1, .ref g2, .ref g3, .int (nI dn), .long so], ia g1 l1 4 (fun i => nI (pl i)), ia g2 l2 8 rg, ia g3 l3 8 vl, oc pa 0 [.ref (pA 0), .ref (pA 1), .ref (pA 2), .ref (pA 3), .ref (pA 4), .ref (pA 5), .ref (pA 6), .ref (pA 7), .ref (pA 8), .ref (pA 9), .ref (pA 10), .int (nI T), .int (nI Ac)], ia (pA 2) (pK 2) 7 (fun i => nI ((pg 2) i)), ia (pA 4) (pK 4) 7 (fun i => nI ((pg 4) i)), ia (pA 5) (pK 5) 7 (fun i => nI ((pg 5) i)), ia (pA 6) (pK 6) 7 (fun i => nI ((pg 6) i)), ia (pA 7) (pK 7) 7 nm] s.heap := hP
  have hl := lv_entry ([.ref ga, .int (nI a), .int (nI s9)]) (n := 6) (Nat.le_of_ble_eq_true rfl)
  rw [lg_entry_eq]
  generalize (lg_sl ([.ref ga, .int (nI a), .int (nI s9)]) ++ List.replicate (6 - (lg_sl ([.ref ga, .int (nI a), .int (nI s9)])).length) Slot.unset).toArray = ls at hl ⊢
  replace hl : lv_has ls 6 [(0, .ref ga), (1, .int (nI a)), (2, .int (nI s9))] := hl
  refine lv_aload_n hx hb d_Progress_perform_0 rfl (lv_at hl 0 rfl) ?_
  refine va_get (D := (dC, dI)) (ci := 1) (v := .ref pa) (C := R_Progress) (T := F_Progress) (N := 6) hx hb hw i_Progress hown hK hP 0 rfl rfl 0 (by decide) (hw _ m_203) (fun _ h9 => h9) rfl d_Progress_perform_1 ?_
  refine va_get (D := (dC, dI)) (ci := 0) (v := .ref (pA 6)) (C := R_Program) (T := F_Program) (N := 13) hx hb hw i_Program hown hK hP 4 rfl rfl 6 (by decide) (hw _ m_149) (fun _ h9 => h9) rfl d_Progress_perform_4 ?_
  refine lv_iload_n hx hb d_Progress_perform_7 rfl (lv_at hl 1 rfl) ?_
  refine va_iald (D := (dC, dI)) hx hb hK hP 8 6 rfl rfl (i := nI a) (pk_in a 7 (by omega)) d_Progress_perform_8 ?_
  refine tp_i (y := nI ((pg 6) a)) (by rw [show (nI a : Int32).toNatClampNeg = a from pk_cl a]) ?_
  refine lv_istore_n (lv' := [(3, .int (nI ((pg 6) a))), (0, .ref ga), (1, .int (nI a)), (2, .int (nI s9))]) hx hb d_Progress_perform_9 rfl hl (by decide) rfl ?_
  clear hl ls
  intro ls hl
  refine lv_aload_n hx hb d_Progress_perform_10 rfl (lv_at hl 1 rfl) ?_
  refine va_get (D := (dC, dI)) (ci := 1) (v := .ref pa) (C := R_Progress) (T := F_Progress) (N := 6) hx hb hw i_Progress hown hK hP 0 rfl rfl 0 (by decide) (hw _ m_203) (fun _ h9 => h9) rfl d_Progress_perform_11 ?_
  refine va_get (D := (dC, dI)) (ci := 0) (v := .ref (pA 7)) (C := R_Program) (T := F_Program) (N := 13) hx hb hw i_Program hown hK hP 4 rfl rfl 7 (by decide) (hw _ m_151) (fun _ h9 => h9) rfl d_Progress_perform_14 ?_
  refine lv_iload_n hx hb d_Progress_perform_17 rfl (lv_at hl 2 rfl) ?_
  refine va_iald (D := (dC, dI)) hx hb hK hP 9 7 rfl rfl (i := nI a) (pk_in a 7 (by omega)) d_Progress_perform_18 ?_
  refine tp_i (y := nm a) (by rw [show (nI a : Int32).toNatClampNeg = a from pk_cl a]) ?_
  refine lv_istore (lv' := [(4, .int (nm a)), (3, .int (nI ((pg 6) a))), (0, .ref ga), (1, .int (nI a)), (2, .int (nI s9))]) hx hb d_Progress_perform_19 hl (by decide) rfl ?_
  clear hl ls
  intro ls hl
  refine lv_iconst (v := 1) hx hb d_Progress_perform_21 (by decide) ?_
  refine lv_istore (lv' := [(5, .int 1), (4, .int (nm a)), (3, .int (nI ((pg 6) a))), (0, .ref ga), (1, .int (nI a)), (2, .int (nI s9))]) hx hb d_Progress_perform_22 hl (by decide) rfl ?_
  clear hl ls
  intro ls hl
  refine lv_aload_n hx hb d_Progress_perform_24 rfl (lv_at hl 3 rfl) ?_
  refine va_get (D := (dC, dI)) (ci := 1) (v := .ref pa) (C := R_Progress) (T := F_Progress) (N := 6) hx hb hw i_Progress hown hK hP 0 rfl rfl 0 (by decide) (hw _ m_203) (fun _ h9 => h9) rfl d_Progress_perform_25 ?_
  refine va_get (D := (dC, dI)) (ci := 0) (v := .ref (pA 4)) (C := R_Program) (T := F_Program) (N := 13) hx hb hw i_Program hown hK hP 4 rfl rfl 4 (by decide) (hw _ m_142) (fun _ h9 => h9) rfl d_Progress_perform_28 ?_
  refine lv_iload_n hx hb d_Progress_perform_31 rfl (lv_at hl 4 rfl) ?_
  refine va_iald (D := (dC, dI)) hx hb hK hP 6 4 rfl rfl (i := nI a) (pk_in a 7 (by omega)) d_Progress_perform_32 ?_
  refine tp_i (y := nI ((pg 4) a)) (by rw [show (nI a : Int32).toNatClampNeg = a from pk_cl a]) ?_
  refine tp_i (y := 0) (by rw [hk]; rfl) ?_
  refine lv_tableIn (x := 0) (tgt := 72) hx hb d_Progress_perform_33 (by decide) (by decide) (by rfl) (by decide) ?_
  refine tp_pc (pc' := 72) (by rfl) ?_
  refine lv_aload_n hx hb d_Progress_perform_72 rfl (lv_at hl 3 rfl) ?_
  refine va_get (D := (dC, dI)) (ci := 1) (v := .ref g2) (C := R_Progress) (T := F_Progress) (N := 6) hx hb hw i_Progress hown hK hP 0 rfl rfl 2 (by decide) (hw _ m_206) (fun _ h9 => h9) rfl d_Progress_perform_73 ?_
  refine lv_iload_n hx hb d_Progress_perform_76 rfl (lv_at hl 2 rfl) ?_
  refine lv_aload_n hx hb d_Progress_perform_77 rfl (lv_at hl 3 rfl) ?_
  refine va_get (D := (dC, dI)) (ci := 1) (v := .ref g3) (C := R_Progress) (T := F_Progress) (N := 6) hx hb hw i_Progress hown hK hP 0 rfl rfl 3 (by decide) (hw _ m_207) (fun _ h9 => h9) rfl d_Progress_perform_78 ?_
  refine lv_iload_n hx hb d_Progress_perform_81 rfl (lv_at hl 5 rfl) ?_
  refine va_iald (D := (dC, dI)) hx hb hK hP 3 2 rfl rfl (i := nI s9) (pk_in s9 8 (by omega)) d_Progress_perform_82 ?_
  refine tp_i (y := vl s9) (by rw [show (nI s9 : Int32).toNatClampNeg = s9 from pk_cl s9]) ?_
  refine va_iast (D := (dC, dI)) hx hb hK hP (dd_D hD rfl) hS 2 1 rfl rfl (i := nI ((pg 6) a)) (x := vl s9) (pk_in ((pg 6) a) 8 (by omega)) d_Progress_perform_83 ?_
  clear hP hS
  intro H locs hP _ hS
  rw [show (nI ((pg 6) a) : Int32).toNatClampNeg = (pg 6) a from pk_cl ((pg 6) a)] at hP
  replace hP : va_P (dC, dI) classes [oc ga 1 [.ref pa, .ref g1, .ref g2, .ref g3, .int (nI dn), .long so], ia g1 l1 4 (fun i => nI (pl i)), ia g2 l2 8 (upd rg ((pg 6) a) (vl s9)), ia g3 l3 8 vl, oc pa 0 [.ref (pA 0), .ref (pA 1), .ref (pA 2), .ref (pA 3), .ref (pA 4), .ref (pA 5), .ref (pA 6), .ref (pA 7), .ref (pA 8), .ref (pA 9), .ref (pA 10), .int (nI T), .int (nI Ac)], ia (pA 2) (pK 2) 7 (fun i => nI ((pg 2) i)), ia (pA 4) (pK 4) 7 (fun i => nI ((pg 4) i)), ia (pA 5) (pK 5) 7 (fun i => nI ((pg 5) i)), ia (pA 6) (pK 6) 7 (fun i => nI ((pg 6) i)), ia (pA 7) (pK 7) 7 nm] H := hP
  refine tp_pc (pc' := 84) (by rfl) ?_
  refine lv_goto (tgt := 184) hx hb d_Progress_perform_84 (by decide) ?_
  refine tp_pc (pc' := 184) (by rfl) ?_
  refine lv_aload_n hx hb d_Progress_perform_184 rfl (lv_at hl 3 rfl) ?_
  refine va_get (D := (dC, dI)) (ci := 1) (v := .ref g1) (C := R_Progress) (T := F_Progress) (N := 6) hx hb hw i_Progress hown hK hP 0 rfl rfl 1 (by decide) (hw _ m_204) (fun _ h9 => h9) rfl d_Progress_perform_185 ?_
  refine lv_aload_n hx hb d_Progress_perform_188 rfl (lv_at hl 3 rfl) ?_
  refine va_get (D := (dC, dI)) (ci := 1) (v := .ref pa) (C := R_Progress) (T := F_Progress) (N := 6) hx hb hw i_Progress hown hK hP 0 rfl rfl 0 (by decide) (hw _ m_203) (fun _ h9 => h9) rfl d_Progress_perform_189 ?_
  refine va_get (D := (dC, dI)) (ci := 0) (v := .ref (pA 2)) (C := R_Program) (T := F_Program) (N := 13) hx hb hw i_Program hown hK hP 4 rfl rfl 2 (by decide) (hw _ m_132) (fun _ h9 => h9) rfl d_Progress_perform_192 ?_
  refine lv_iload_n hx hb d_Progress_perform_195 rfl (lv_at hl 4 rfl) ?_
  refine va_iald (D := (dC, dI)) hx hb hK hP 5 3 rfl rfl (i := nI a) (pk_in a 7 (by omega)) d_Progress_perform_196 ?_
  refine tp_i (y := nI ((pg 2) a)) (by rw [show (nI a : Int32).toNatClampNeg = a from pk_cl a]) ?_
  refine lv_dup2_11 hx hb d_Progress_perform_197 rfl rfl ?_
  refine va_iald (D := (dC, dI)) hx hb hK hP 1 0 rfl rfl (i := nI ((pg 2) a)) (pk_in ((pg 2) a) 4 (by omega)) d_Progress_perform_198 ?_
  refine tp_i (y := nI (pl ((pg 2) a))) (by rw [show (nI ((pg 2) a) : Int32).toNatClampNeg = (pg 2) a from pk_cl ((pg 2) a)]) ?_
  refine lv_iload hx hb d_Progress_perform_199 (lv_at hl 0 rfl) ?_
  refine lv_iadd hx hb d_Progress_perform_201 ?_
  refine tp_i (y := nI (pl ((pg 2) a) + 1)) (by exact nI_add (pl ((pg 2) a)) 1) ?_
  refine va_iast (D := (dC, dI)) hx hb hK hP (dd_D hD rfl) hS 1 0 rfl rfl (i := nI ((pg 2) a)) (x := nI (pl ((pg 2) a) + 1)) (pk_in ((pg 2) a) 4 (by omega)) d_Progress_perform_202 ?_
  clear hP hS locs H
  intro H locs hP _ hS
  rw [show (nI ((pg 2) a) : Int32).toNatClampNeg = (pg 2) a from pk_cl ((pg 2) a)] at hP
  rw [show upd (fun i => nI (pl i)) ((pg 2) a) (nI (pl ((pg 2) a) + 1)) = fun i => nI (updN pl ((pg 2) a) (pl ((pg 2) a) + 1) i) from upd_nI] at hP
  replace hP : va_P (dC, dI) classes [oc ga 1 [.ref pa, .ref g1, .ref g2, .ref g3, .int (nI dn), .long so], ia g1 l1 4 (fun i => nI ((updN pl ((pg 2) a) (pl ((pg 2) a) + 1)) i)), ia g2 l2 8 (upd rg ((pg 6) a) (vl s9)), ia g3 l3 8 vl, oc pa 0 [.ref (pA 0), .ref (pA 1), .ref (pA 2), .ref (pA 3), .ref (pA 4), .ref (pA 5), .ref (pA 6), .ref (pA 7), .ref (pA 8), .ref (pA 9), .ref (pA 10), .int (nI T), .int (nI Ac)], ia (pA 2) (pK 2) 7 (fun i => nI ((pg 2) i)), ia (pA 4) (pK 4) 7 (fun i => nI ((pg 4) i)), ia (pA 5) (pK 5) 7 (fun i => nI ((pg 5) i)), ia (pA 6) (pK 6) 7 (fun i => nI ((pg 6) i)), ia (pA 7) (pK 7) 7 nm] H := hP
  refine tp_pc (pc' := 203) (by rfl) ?_
  refine lv_aload_n hx hb d_Progress_perform_203 rfl (lv_at hl 3 rfl) ?_
  refine lv_dup hx hb d_Progress_perform_204 rfl ?_
  refine va_get (D := (dC, dI)) (ci := 1) (v := .int (nI dn)) (C := R_Progress) (T := F_Progress) (N := 6) hx hb hw i_Progress hown hK hP 0 rfl rfl 4 (by decide) (hw _ m_208) (fun _ h9 => h9) rfl d_Progress_perform_205 ?_
  refine lv_iconst (v := 1) hx hb d_Progress_perform_208 (by decide) ?_
  refine lv_iload_n hx hb d_Progress_perform_209 rfl (lv_at hl 4 rfl) ?_
  refine lv_ishl hx hb d_Progress_perform_210 ?_
  refine tp_i (y := 1 <<< ((nI a) &&& 31)) rfl ?_
  refine lv_ior hx hb d_Progress_perform_211 ?_
  refine tp_i (y := (nI dn) ||| (1 <<< ((nI a) &&& 31))) rfl ?_
  refine tp_i (y := nI (dn ||| 2 ^ a)) (set_eq dn hdn a ha) ?_
  refine va_put (D := (dC, dI)) (ci := 1) (v := .int (nI (dn ||| 2 ^ a))) (ty := .int) (C := R_Progress) (T := F_Progress) (N := 6) hx hb hw i_Progress t_Progress t_Progress_ok n_Progress hown hK hP (dd_D hD rfl) hS 0 rfl rfl 4 (by decide) (hw _ m_208) (fun _ h9 => h9) rfl (by decide +kernel) rfl rfl (Nat.le_of_ble_eq_true rfl) d_Progress_perform_212 ?_
  clear hP hS locs H
  intro H locs (hP : va_P (dC, dI) classes [oc ga 1 [.ref pa, .ref g1, .ref g2, .ref g3, .int (nI (dn ||| 2 ^ a)), .long so], ia g1 l1 4 (fun i => nI ((updN pl ((pg 2) a) (pl ((pg 2) a) + 1)) i)), ia g2 l2 8 (upd rg ((pg 6) a) (vl s9)), ia g3 l3 8 vl, oc pa 0 [.ref (pA 0), .ref (pA 1), .ref (pA 2), .ref (pA 3), .ref (pA 4), .ref (pA 5), .ref (pA 6), .ref (pA 7), .ref (pA 8), .ref (pA 9), .ref (pA 10), .int (nI T), .int (nI Ac)], ia (pA 2) (pK 2) 7 (fun i => nI ((pg 2) i)), ia (pA 4) (pK 4) 7 (fun i => nI ((pg 4) i)), ia (pA 5) (pK 5) 7 (fun i => nI ((pg 5) i)), ia (pA 6) (pK 6) 7 (fun i => nI ((pg 6) i)), ia (pA 7) (pK 7) 7 nm] H) _ hS
  refine tp_pc (pc' := 215) (by rfl) ?_
  refine lv_aload_n hx hb d_Progress_perform_215 rfl (lv_at hl 3 rfl) ?_
  refine lv_dup hx hb d_Progress_perform_216 rfl ?_
  refine va_get (D := (dC, dI)) (ci := 1) (v := .long so) (C := R_Progress) (T := F_Progress) (N := 6) hx hb hw i_Progress hown hK hP 0 rfl rfl 5 (by decide) (hw _ m_210) (fun _ h9 => h9) rfl d_Progress_perform_217 ?_
  refine lv_iload_n hx hb d_Progress_perform_220 rfl (lv_at hl 5 rfl) ?_
  refine lv_i2l (v := (nI s9).toInt64) hx hb d_Progress_perform_221 rfl ?_
  refine lv_iconst (v := 3) hx hb d_Progress_perform_222 (by decide) ?_
  refine lv_iload_n hx hb d_Progress_perform_223 rfl (lv_at hl 4 rfl) ?_
  refine lv_imul hx hb d_Progress_perform_224 ?_
  refine tp_i (y := nI (3 * a)) (by exact pk_mul 3 a) ?_
  refine lv_lshl (v := ((nI s9).toInt64) <<< (((nI (3 * a)) : Int32).toInt64 &&& 63)) hx hb d_Progress_perform_225 rfl ?_
  refine lv_lor hx hb d_Progress_perform_226 ?_
  refine tp_l (y := so ||| (((nI s9).toInt64) <<< (((nI (3 * a)) : Int32).toInt64 &&& 63))) rfl ?_
  refine tp_l (y := srcP so s9 a) rfl ?_
  refine va_put (D := (dC, dI)) (ci := 1) (v := .long (srcP so s9 a)) (ty := .long) (C := R_Progress) (T := F_Progress) (N := 6) hx hb hw i_Progress t_Progress t_Progress_ok n_Progress hown hK hP (dd_D hD rfl) hS 0 rfl rfl 5 (by decide) (hw _ m_210) (fun _ h9 => h9) rfl (by decide +kernel) rfl rfl (Nat.le_of_ble_eq_true rfl) d_Progress_perform_227 ?_
  clear hP hS locs H
  intro H locs (hP : va_P (dC, dI) classes [oc ga 1 [.ref pa, .ref g1, .ref g2, .ref g3, .int (nI (dn ||| 2 ^ a)), .long (srcP so s9 a)], ia g1 l1 4 (fun i => nI ((updN pl ((pg 2) a) (pl ((pg 2) a) + 1)) i)), ia g2 l2 8 (upd rg ((pg 6) a) (vl s9)), ia g3 l3 8 vl, oc pa 0 [.ref (pA 0), .ref (pA 1), .ref (pA 2), .ref (pA 3), .ref (pA 4), .ref (pA 5), .ref (pA 6), .ref (pA 7), .ref (pA 8), .ref (pA 9), .ref (pA 10), .int (nI T), .int (nI Ac)], ia (pA 2) (pK 2) 7 (fun i => nI ((pg 2) i)), ia (pA 4) (pK 4) 7 (fun i => nI ((pg 4) i)), ia (pA 5) (pK 5) 7 (fun i => nI ((pg 5) i)), ia (pA 6) (pK 6) 7 (fun i => nI ((pg 6) i)), ia (pA 7) (pK 7) 7 nm] H) _ hS
  refine tp_pc (pc' := 230) (by rfl) ?_
  obtain ⟨hP9, hD9, -⟩ := cut3 (wc := [oc ga 1 [.ref pa, .ref g1, .ref g2, .ref g3, .int (nI (dn ||| 2 ^ a)), .long (srcP so s9 a)], ia g1 l1 4 (fun i => nI ((updN pl ((pg 2) a) (pl ((pg 2) a) + 1)) i)), ia g2 l2 8 (upd rg ((pg 6) a) (vl s9)), ia g3 l3 8 vl, oc pa 0 [.ref (pA 0), .ref (pA 1), .ref (pA 2), .ref (pA 3), .ref (pA 4), .ref (pA 5), .ref (pA 6), .ref (pA 7), .ref (pA 8), .ref (pA 9), .ref (pA 10), .int (nI T), .int (nI Ac)], ia (pA 2) (pK 2) 7 (fun i => nI ((pg 2) i)), ia (pA 4) (pK 4) 7 (fun i => nI ((pg 4) i)), ia (pA 5) (pK 5) 7 (fun i => nI ((pg 5) i)), ia (pA 6) (pK 6) 7 (fun i => nI ((pg 6) i)), ia (pA 7) (pK 7) 7 nm]) hP hD rfl hS hA [0, 1, 2, 3, 4, 5, 6, 7, 8, 9] (by decide +kernel) rfl
  have hK9 := hK.sub (tys' := []) [] rfl
  refine W.widen (k := 0) (n := 0) (by exact Nat.le_of_ble_eq_true rfl) (by exact Nat.le_of_ble_eq_true rfl) ?_
  exact W.vret hx hb hr (fun t9 ht9 hW => ⟨⟨(), rfl, trivial, by rw [ht9]; exact hP9, va_K.moved hW.alike hK9, hD9⟩, hS.F ht9⟩) hS.2.2 d_Progress_perform_230
set_option maxHeartbeats 4000000 in
set_option maxRecDepth 100000 in
theorem gen_Progress_perform_1 (l : Launch) (dC : Nat → ClassId) (dI : Nat → Nat → Nat) (pa : Nat) (pA : Nat → Nat) (pK : Nat → ClassId) (T Ac : Nat) (pg : Nat → Nat → Nat) (nm : Nat → Int32) (ga g1 g2 g3 : Nat) (l1 l2 l3 : ClassId) (dn : Nat) (so : Int64) (pl : Nat → Nat) (rg vl : Nat → Int32) (a s9 : Nat) (ha : a < 7) (hs8 : s9 < 8) (hdn : dn < 128) (h2 : pg 2 a < 4) (hpl : pl (pg 2 a) < 1000) (h5 : pg 5 a < 1000) (h8 : pg 6 a < 8) (hk : pg 4 a = 1) (sz : Nat) : Met l y_Progress_perform w_Progress_perform ({ frames := 0, cells := 0, slots := 0, locals := 0 }) (va_Pc [.ref ga, .int (nI a), .int (nI s9)] (fun U => U.heap.size = sz ∧ va_P (dC, dI) classes [oc ga 1 [.ref pa, .ref g1, .ref g2, .ref g3, .int (nI dn), .long so], ia g1 l1 4 (fun i => nI (pl i)), ia g2 l2 8 rg, ia g3 l3 8 vl, oc pa 0 [.ref (pA 0), .ref (pA 1), .ref (pA 2), .ref (pA 3), .ref (pA 4), .ref (pA 5), .ref (pA 6), .ref (pA 7), .ref (pA 8), .ref (pA 9), .ref (pA 10), .int (nI T), .int (nI Ac)], ia (pA 2) (pK 2) 7 (fun i => nI ((pg 2) i)), ia (pA 4) (pK 4) 7 (fun i => nI ((pg 4) i)), ia (pA 5) (pK 5) 7 (fun i => nI ((pg 5) i)), ia (pA 6) (pK 6) 7 (fun i => nI ((pg 6) i)), ia (pA 7) (pK 7) 7 nm] U.heap ∧ va_K (dC, dI) classes [(l1, .int), (l2, .int), (l3, .int), ((pK 2), .int), ((pK 4), .int), ((pK 5), .int), ((pK 6), .int), ((pK 7), .int)] U ∧ va_D (fun _ => True) [oc ga 1 [.ref pa, .ref g1, .ref g2, .ref g3, .int (nI dn), .long so], ia g1 l1 4 (fun i => nI (pl i)), ia g2 l2 8 rg, ia g3 l3 8 vl, oc pa 0 [.ref (pA 0), .ref (pA 1), .ref (pA 2), .ref (pA 3), .ref (pA 4), .ref (pA 5), .ref (pA 6), .ref (pA 7), .ref (pA 8), .ref (pA 9), .ref (pA 10), .int (nI T), .int (nI Ac)], ia (pA 2) (pK 2) 7 (fun i => nI ((pg 2) i)), ia (pA 4) (pK 4) 7 (fun i => nI ((pg 4) i)), ia (pA 5) (pK 5) 7 (fun i => nI ((pg 5) i)), ia (pA 6) (pK 6) 7 (fun i => nI ((pg 6) i)), ia (pA 7) (pK 7) 7 nm] ∧ nw U)) (va_Qv (fun _ : Unit => True) (fun _ t9 => va_P (dC, dI) classes [oc ga 1 [.ref pa, .ref g1, .ref g2, .ref g3, .int (nI (dn ||| 2 ^ a)), .long (srcP so s9 a)], ia g1 l1 4 (fun i => nI ((updN pl (pg 2 a) (pl (pg 2 a) + 1)) i)), ia g2 l2 8 rg, ia g3 l3 8 (upd vl (a + 1) (nm a)), oc pa 0 [.ref (pA 0), .ref (pA 1), .ref (pA 2), .ref (pA 3), .ref (pA 4), .ref (pA 5), .ref (pA 6), .ref (pA 7), .ref (pA 8), .ref (pA 9), .ref (pA 10), .int (nI T), .int (nI Ac)], ia (pA 2) (pK 2) 7 (fun i => nI ((pg 2) i)), ia (pA 4) (pK 4) 7 (fun i => nI ((pg 4) i)), ia (pA 5) (pK 5) 7 (fun i => nI ((pg 5) i)), ia (pA 6) (pK 6) 7 (fun i => nI ((pg 6) i)), ia (pA 7) (pK 7) 7 nm] t9.heap ∧ va_K (dC, dI) classes [] t9 ∧ va_D (va_A [oc ga 1 [.ref pa, .ref g1, .ref g2, .ref g3, .int (nI dn), .long so], ia g1 l1 4 (fun i => nI (pl i)), ia g2 l2 8 rg, ia g3 l3 8 vl, oc pa 0 [.ref (pA 0), .ref (pA 1), .ref (pA 2), .ref (pA 3), .ref (pA 4), .ref (pA 5), .ref (pA 6), .ref (pA 7), .ref (pA 8), .ref (pA 9), .ref (pA 10), .int (nI T), .int (nI Ac)], ia (pA 2) (pK 2) 7 (fun i => nI ((pg 2) i)), ia (pA 4) (pK 4) 7 (fun i => nI ((pg 4) i)), ia (pA 5) (pK 5) 7 (fun i => nI ((pg 5) i)), ia (pA 6) (pK 6) 7 (fun i => nI ((pg 6) i)), ia (pA 7) (pK 7) 7 nm] sz) [oc ga 1 [.ref pa, .ref g1, .ref g2, .ref g3, .int (nI (dn ||| 2 ^ a)), .long (srcP so s9 a)], ia g1 l1 4 (fun i => nI ((updN pl (pg 2 a) (pl (pg 2 a) + 1)) i)), ia g2 l2 8 rg, ia g3 l3 8 (upd vl (a + 1) (nm a)), oc pa 0 [.ref (pA 0), .ref (pA 1), .ref (pA 2), .ref (pA 3), .ref (pA 4), .ref (pA 5), .ref (pA 6), .ref (pA 7), .ref (pA 8), .ref (pA 9), .ref (pA 10), .int (nI T), .int (nI Ac)], ia (pA 2) (pK 2) 7 (fun i => nI ((pg 2) i)), ia (pA 4) (pK 4) 7 (fun i => nI ((pg 4) i)), ia (pA 5) (pK 5) 7 (fun i => nI ((pg 5) i)), ia (pA 6) (pK 6) 7 (fun i => nI ((pg 6) i)), ia (pA 7) (pK 7) 7 nm]) (va_A [oc ga 1 [.ref pa, .ref g1, .ref g2, .ref g3, .int (nI dn), .long so], ia g1 l1 4 (fun i => nI (pl i)), ia g2 l2 8 rg, ia g3 l3 8 vl, oc pa 0 [.ref (pA 0), .ref (pA 1), .ref (pA 2), .ref (pA 3), .ref (pA 4), .ref (pA 5), .ref (pA 6), .ref (pA 7), .ref (pA 8), .ref (pA 9), .ref (pA 10), .int (nI T), .int (nI Ac)], ia (pA 2) (pK 2) 7 (fun i => nI ((pg 2) i)), ia (pA 4) (pK 4) 7 (fun i => nI ((pg 4) i)), ia (pA 5) (pK 5) 7 (fun i => nI ((pg 5) i)), ia (pA 6) (pK 6) 7 (fun i => nI ((pg 6) i)), ia (pA 7) (pK 7) 7 nm] sz)) 0 0 (va_A [oc ga 1 [.ref pa, .ref g1, .ref g2, .ref g3, .int (nI dn), .long so], ia g1 l1 4 (fun i => nI (pl i)), ia g2 l2 8 rg, ia g3 l3 8 vl, oc pa 0 [.ref (pA 0), .ref (pA 1), .ref (pA 2), .ref (pA 3), .ref (pA 4), .ref (pA 5), .ref (pA 6), .ref (pA 7), .ref (pA 8), .ref (pA 9), .ref (pA 10), .int (nI T), .int (nI Ac)], ia (pA 2) (pK 2) 7 (fun i => nI ((pg 2) i)), ia (pA 4) (pK 4) 7 (fun i => nI ((pg 4) i)), ia (pA 5) (pK 5) 7 (fun i => nI ((pg 5) i)), ia (pA 6) (pK 6) 7 (fun i => nI ((pg 6) i)), ia (pA 7) (pK 7) 7 nm] sz) := by
  refine Met.ofW (cc := b_Progress_perform) (maxL := 6) (ret := none) (by decide) rfl ?_
  intro p e0 s m args below meth c s₁ B hml hv
  obtain ⟨rfl, hsz, hP, hK, hD0, hn⟩ := hv
  have hx := B.exec
  have hb := B.bytes
  have hr := B.returns
  have hw := fun w (h : w ∈ wt) => atoms_spec (ws := w_Progress_perform) B.pre w (List.mem_cons_of_mem _ h)
  have hown : s.vm.findClass R_Progress = some m.cls := findClass_of_methodNamed B.named
  have hlocks := B.notSynchronized
  subst hsz
  have hD1 := hD0.self (sz := s.heap.size)
  generalize hAe : va_A [oc ga 1 [.ref pa, .ref g1, .ref g2, .ref g3, .int (nI dn), .long so], ia g1 l1 4 (fun i => nI (pl i)), ia g2 l2 8 rg, ia g3 l3 8 vl, oc pa 0 [.ref (pA 0), .ref (pA 1), .ref (pA 2), .ref (pA 3), .ref (pA 4), .ref (pA 5), .ref (pA 6), .ref (pA 7), .ref (pA 8), .ref (pA 9), .ref (pA 10), .int (nI T), .int (nI Ac)], ia (pA 2) (pK 2) 7 (fun i => nI ((pg 2) i)), ia (pA 4) (pK 4) 7 (fun i => nI ((pg 4) i)), ia (pA 5) (pK 5) 7 (fun i => nI ((pg 5) i)), ia (pA 6) (pK 6) 7 (fun i => nI ((pg 6) i)), ia (pA 7) (pK 7) 7 nm] s.heap.size = A at hD1 ⊢
  have hA : ∀ q : Nat, s.heap.size ≤ q → A q := fun q h => by rw [← hAe]; exact Or.inr h
  have hD : dd A [ga, g1, g2, g3, pa, (pA 2), (pA 4), (pA 5), (pA 6), (pA 7)] := dd_of hD1 rfl
  clear hAe hD0 hD1
  have hS : va_S A s.heap s.heap [] := va_S.rf
  replace hP : va_P (dC, dI) classes [oc ga 1 [.ref pa, .ref g1, .ref g2, .ref g3, .int (nI dn), .long so], ia g1 l1 4 (fun i => nI (pl i)), ia g2 l2 8 rg, ia g3 l3 8 vl, oc pa 0 [.ref (pA 0), .ref (pA 1), .ref (pA 2), .ref (pA 3), .ref (pA 4), .ref (pA 5), .ref (pA 6), .ref (pA 7), .ref (pA 8), .ref (pA 9), .ref (pA 10), .int (nI T), .int (nI Ac)], ia (pA 2) (pK 2) 7 (fun i => nI ((pg 2) i)), ia (pA 4) (pK 4) 7 (fun i => nI ((pg 4) i)), ia (pA 5) (pK 5) 7 (fun i => nI ((pg 5) i)), ia (pA 6) (pK 6) 7 (fun i => nI ((pg 6) i)), ia (pA 7) (pK 7) 7 nm] s.heap := hP
  have hl := lv_entry ([.ref ga, .int (nI a), .int (nI s9)]) (n := 6) (Nat.le_of_ble_eq_true rfl)
  rw [lg_entry_eq]
  generalize (lg_sl ([.ref ga, .int (nI a), .int (nI s9)]) ++ List.replicate (6 - (lg_sl ([.ref ga, .int (nI a), .int (nI s9)])).length) Slot.unset).toArray = ls at hl ⊢
  replace hl : lv_has ls 6 [(0, .ref ga), (1, .int (nI a)), (2, .int (nI s9))] := hl
  refine lv_aload_n hx hb d_Progress_perform_0 rfl (lv_at hl 0 rfl) ?_
  refine va_get (D := (dC, dI)) (ci := 1) (v := .ref pa) (C := R_Progress) (T := F_Progress) (N := 6) hx hb hw i_Progress hown hK hP 0 rfl rfl 0 (by decide) (hw _ m_203) (fun _ h9 => h9) rfl d_Progress_perform_1 ?_
  refine va_get (D := (dC, dI)) (ci := 0) (v := .ref (pA 6)) (C := R_Program) (T := F_Program) (N := 13) hx hb hw i_Program hown hK hP 4 rfl rfl 6 (by decide) (hw _ m_149) (fun _ h9 => h9) rfl d_Progress_perform_4 ?_
  refine lv_iload_n hx hb d_Progress_perform_7 rfl (lv_at hl 1 rfl) ?_
  refine va_iald (D := (dC, dI)) hx hb hK hP 8 6 rfl rfl (i := nI a) (pk_in a 7 (by omega)) d_Progress_perform_8 ?_
  refine tp_i (y := nI ((pg 6) a)) (by rw [show (nI a : Int32).toNatClampNeg = a from pk_cl a]) ?_
  refine lv_istore_n (lv' := [(3, .int (nI ((pg 6) a))), (0, .ref ga), (1, .int (nI a)), (2, .int (nI s9))]) hx hb d_Progress_perform_9 rfl hl (by decide) rfl ?_
  clear hl ls
  intro ls hl
  refine lv_aload_n hx hb d_Progress_perform_10 rfl (lv_at hl 1 rfl) ?_
  refine va_get (D := (dC, dI)) (ci := 1) (v := .ref pa) (C := R_Progress) (T := F_Progress) (N := 6) hx hb hw i_Progress hown hK hP 0 rfl rfl 0 (by decide) (hw _ m_203) (fun _ h9 => h9) rfl d_Progress_perform_11 ?_
  refine va_get (D := (dC, dI)) (ci := 0) (v := .ref (pA 7)) (C := R_Program) (T := F_Program) (N := 13) hx hb hw i_Program hown hK hP 4 rfl rfl 7 (by decide) (hw _ m_151) (fun _ h9 => h9) rfl d_Progress_perform_14 ?_
  refine lv_iload_n hx hb d_Progress_perform_17 rfl (lv_at hl 2 rfl) ?_
  refine va_iald (D := (dC, dI)) hx hb hK hP 9 7 rfl rfl (i := nI a) (pk_in a 7 (by omega)) d_Progress_perform_18 ?_
  refine tp_i (y := nm a) (by rw [show (nI a : Int32).toNatClampNeg = a from pk_cl a]) ?_
  refine lv_istore (lv' := [(4, .int (nm a)), (3, .int (nI ((pg 6) a))), (0, .ref ga), (1, .int (nI a)), (2, .int (nI s9))]) hx hb d_Progress_perform_19 hl (by decide) rfl ?_
  clear hl ls
  intro ls hl
  refine lv_iconst (v := 1) hx hb d_Progress_perform_21 (by decide) ?_
  refine lv_istore (lv' := [(5, .int 1), (4, .int (nm a)), (3, .int (nI ((pg 6) a))), (0, .ref ga), (1, .int (nI a)), (2, .int (nI s9))]) hx hb d_Progress_perform_22 hl (by decide) rfl ?_
  clear hl ls
  intro ls hl
  refine lv_aload_n hx hb d_Progress_perform_24 rfl (lv_at hl 3 rfl) ?_
  refine va_get (D := (dC, dI)) (ci := 1) (v := .ref pa) (C := R_Progress) (T := F_Progress) (N := 6) hx hb hw i_Progress hown hK hP 0 rfl rfl 0 (by decide) (hw _ m_203) (fun _ h9 => h9) rfl d_Progress_perform_25 ?_
  refine va_get (D := (dC, dI)) (ci := 0) (v := .ref (pA 4)) (C := R_Program) (T := F_Program) (N := 13) hx hb hw i_Program hown hK hP 4 rfl rfl 4 (by decide) (hw _ m_142) (fun _ h9 => h9) rfl d_Progress_perform_28 ?_
  refine lv_iload_n hx hb d_Progress_perform_31 rfl (lv_at hl 4 rfl) ?_
  refine va_iald (D := (dC, dI)) hx hb hK hP 6 4 rfl rfl (i := nI a) (pk_in a 7 (by omega)) d_Progress_perform_32 ?_
  refine tp_i (y := nI ((pg 4) a)) (by rw [show (nI a : Int32).toNatClampNeg = a from pk_cl a]) ?_
  refine tp_i (y := 1) (by rw [hk]; rfl) ?_
  refine lv_tableIn (x := 1) (tgt := 87) hx hb d_Progress_perform_33 (by decide) (by decide) (by rfl) (by decide) ?_
  refine tp_pc (pc' := 87) (by rfl) ?_
  refine lv_aload_n hx hb d_Progress_perform_87 rfl (lv_at hl 3 rfl) ?_
  refine va_get (D := (dC, dI)) (ci := 1) (v := .ref g3) (C := R_Progress) (T := F_Progress) (N := 6) hx hb hw i_Progress hown hK hP 0 rfl rfl 3 (by decide) (hw _ m_207) (fun _ h9 => h9) rfl d_Progress_perform_88 ?_
  refine lv_iload_n hx hb d_Progress_perform_91 rfl (lv_at hl 4 rfl) ?_
  refine lv_iconst (v := 1) hx hb d_Progress_perform_92 (by decide) ?_
  refine lv_iadd hx hb d_Progress_perform_93 ?_
  refine tp_i (y := nI (a + 1)) (by exact nI_add a 1) ?_
  refine lv_iload hx hb d_Progress_perform_94 (lv_at hl 1 rfl) ?_
  refine va_iast (D := (dC, dI)) hx hb hK hP (dd_D hD rfl) hS 3 2 rfl rfl (i := nI (a + 1)) (x := nm a) (pk_in (a + 1) 8 (by omega)) d_Progress_perform_96 ?_
  clear hP hS
  intro H locs hP _ hS
  rw [show (nI (a + 1) : Int32).toNatClampNeg = a + 1 from pk_cl (a + 1)] at hP
  replace hP : va_P (dC, dI) classes [oc ga 1 [.ref pa, .ref g1, .ref g2, .ref g3, .int (nI dn), .long so], ia g1 l1 4 (fun i => nI (pl i)), ia g2 l2 8 rg, ia g3 l3 8 (upd vl (a + 1) (nm a)), oc pa 0 [.ref (pA 0), .ref (pA 1), .ref (pA 2), .ref (pA 3), .ref (pA 4), .ref (pA 5), .ref (pA 6), .ref (pA 7), .ref (pA 8), .ref (pA 9), .ref (pA 10), .int (nI T), .int (nI Ac)], ia (pA 2) (pK 2) 7 (fun i => nI ((pg 2) i)), ia (pA 4) (pK 4) 7 (fun i => nI ((pg 4) i)), ia (pA 5) (pK 5) 7 (fun i => nI ((pg 5) i)), ia (pA 6) (pK 6) 7 (fun i => nI ((pg 6) i)), ia (pA 7) (pK 7) 7 nm] H := hP
  refine tp_pc (pc' := 97) (by rfl) ?_
  refine lv_goto (tgt := 184) hx hb d_Progress_perform_97 (by decide) ?_
  refine tp_pc (pc' := 184) (by rfl) ?_
  refine lv_aload_n hx hb d_Progress_perform_184 rfl (lv_at hl 3 rfl) ?_
  refine va_get (D := (dC, dI)) (ci := 1) (v := .ref g1) (C := R_Progress) (T := F_Progress) (N := 6) hx hb hw i_Progress hown hK hP 0 rfl rfl 1 (by decide) (hw _ m_204) (fun _ h9 => h9) rfl d_Progress_perform_185 ?_
  refine lv_aload_n hx hb d_Progress_perform_188 rfl (lv_at hl 3 rfl) ?_
  refine va_get (D := (dC, dI)) (ci := 1) (v := .ref pa) (C := R_Progress) (T := F_Progress) (N := 6) hx hb hw i_Progress hown hK hP 0 rfl rfl 0 (by decide) (hw _ m_203) (fun _ h9 => h9) rfl d_Progress_perform_189 ?_
  refine va_get (D := (dC, dI)) (ci := 0) (v := .ref (pA 2)) (C := R_Program) (T := F_Program) (N := 13) hx hb hw i_Program hown hK hP 4 rfl rfl 2 (by decide) (hw _ m_132) (fun _ h9 => h9) rfl d_Progress_perform_192 ?_
  refine lv_iload_n hx hb d_Progress_perform_195 rfl (lv_at hl 4 rfl) ?_
  refine va_iald (D := (dC, dI)) hx hb hK hP 5 3 rfl rfl (i := nI a) (pk_in a 7 (by omega)) d_Progress_perform_196 ?_
  refine tp_i (y := nI ((pg 2) a)) (by rw [show (nI a : Int32).toNatClampNeg = a from pk_cl a]) ?_
  refine lv_dup2_11 hx hb d_Progress_perform_197 rfl rfl ?_
  refine va_iald (D := (dC, dI)) hx hb hK hP 1 0 rfl rfl (i := nI ((pg 2) a)) (pk_in ((pg 2) a) 4 (by omega)) d_Progress_perform_198 ?_
  refine tp_i (y := nI (pl ((pg 2) a))) (by rw [show (nI ((pg 2) a) : Int32).toNatClampNeg = (pg 2) a from pk_cl ((pg 2) a)]) ?_
  refine lv_iload hx hb d_Progress_perform_199 (lv_at hl 0 rfl) ?_
  refine lv_iadd hx hb d_Progress_perform_201 ?_
  refine tp_i (y := nI (pl ((pg 2) a) + 1)) (by exact nI_add (pl ((pg 2) a)) 1) ?_
  refine va_iast (D := (dC, dI)) hx hb hK hP (dd_D hD rfl) hS 1 0 rfl rfl (i := nI ((pg 2) a)) (x := nI (pl ((pg 2) a) + 1)) (pk_in ((pg 2) a) 4 (by omega)) d_Progress_perform_202 ?_
  clear hP hS locs H
  intro H locs hP _ hS
  rw [show (nI ((pg 2) a) : Int32).toNatClampNeg = (pg 2) a from pk_cl ((pg 2) a)] at hP
  rw [show upd (fun i => nI (pl i)) ((pg 2) a) (nI (pl ((pg 2) a) + 1)) = fun i => nI (updN pl ((pg 2) a) (pl ((pg 2) a) + 1) i) from upd_nI] at hP
  replace hP : va_P (dC, dI) classes [oc ga 1 [.ref pa, .ref g1, .ref g2, .ref g3, .int (nI dn), .long so], ia g1 l1 4 (fun i => nI ((updN pl ((pg 2) a) (pl ((pg 2) a) + 1)) i)), ia g2 l2 8 rg, ia g3 l3 8 (upd vl (a + 1) (nm a)), oc pa 0 [.ref (pA 0), .ref (pA 1), .ref (pA 2), .ref (pA 3), .ref (pA 4), .ref (pA 5), .ref (pA 6), .ref (pA 7), .ref (pA 8), .ref (pA 9), .ref (pA 10), .int (nI T), .int (nI Ac)], ia (pA 2) (pK 2) 7 (fun i => nI ((pg 2) i)), ia (pA 4) (pK 4) 7 (fun i => nI ((pg 4) i)), ia (pA 5) (pK 5) 7 (fun i => nI ((pg 5) i)), ia (pA 6) (pK 6) 7 (fun i => nI ((pg 6) i)), ia (pA 7) (pK 7) 7 nm] H := hP
  refine tp_pc (pc' := 203) (by rfl) ?_
  refine lv_aload_n hx hb d_Progress_perform_203 rfl (lv_at hl 3 rfl) ?_
  refine lv_dup hx hb d_Progress_perform_204 rfl ?_
  refine va_get (D := (dC, dI)) (ci := 1) (v := .int (nI dn)) (C := R_Progress) (T := F_Progress) (N := 6) hx hb hw i_Progress hown hK hP 0 rfl rfl 4 (by decide) (hw _ m_208) (fun _ h9 => h9) rfl d_Progress_perform_205 ?_
  refine lv_iconst (v := 1) hx hb d_Progress_perform_208 (by decide) ?_
  refine lv_iload_n hx hb d_Progress_perform_209 rfl (lv_at hl 4 rfl) ?_
  refine lv_ishl hx hb d_Progress_perform_210 ?_
  refine tp_i (y := 1 <<< ((nI a) &&& 31)) rfl ?_
  refine lv_ior hx hb d_Progress_perform_211 ?_
  refine tp_i (y := (nI dn) ||| (1 <<< ((nI a) &&& 31))) rfl ?_
  refine tp_i (y := nI (dn ||| 2 ^ a)) (set_eq dn hdn a ha) ?_
  refine va_put (D := (dC, dI)) (ci := 1) (v := .int (nI (dn ||| 2 ^ a))) (ty := .int) (C := R_Progress) (T := F_Progress) (N := 6) hx hb hw i_Progress t_Progress t_Progress_ok n_Progress hown hK hP (dd_D hD rfl) hS 0 rfl rfl 4 (by decide) (hw _ m_208) (fun _ h9 => h9) rfl (by decide +kernel) rfl rfl (Nat.le_of_ble_eq_true rfl) d_Progress_perform_212 ?_
  clear hP hS locs H
  intro H locs (hP : va_P (dC, dI) classes [oc ga 1 [.ref pa, .ref g1, .ref g2, .ref g3, .int (nI (dn ||| 2 ^ a)), .long so], ia g1 l1 4 (fun i => nI ((updN pl ((pg 2) a) (pl ((pg 2) a) + 1)) i)), ia g2 l2 8 rg, ia g3 l3 8 (upd vl (a + 1) (nm a)), oc pa 0 [.ref (pA 0), .ref (pA 1), .ref (pA 2), .ref (pA 3), .ref (pA 4), .ref (pA 5), .ref (pA 6), .ref (pA 7), .ref (pA 8), .ref (pA 9), .ref (pA 10), .int (nI T), .int (nI Ac)], ia (pA 2) (pK 2) 7 (fun i => nI ((pg 2) i)), ia (pA 4) (pK 4) 7 (fun i => nI ((pg 4) i)), ia (pA 5) (pK 5) 7 (fun i => nI ((pg 5) i)), ia (pA 6) (pK 6) 7 (fun i => nI ((pg 6) i)), ia (pA 7) (pK 7) 7 nm] H) _ hS
  refine tp_pc (pc' := 215) (by rfl) ?_
  refine lv_aload_n hx hb d_Progress_perform_215 rfl (lv_at hl 3 rfl) ?_
  refine lv_dup hx hb d_Progress_perform_216 rfl ?_
  refine va_get (D := (dC, dI)) (ci := 1) (v := .long so) (C := R_Progress) (T := F_Progress) (N := 6) hx hb hw i_Progress hown hK hP 0 rfl rfl 5 (by decide) (hw _ m_210) (fun _ h9 => h9) rfl d_Progress_perform_217 ?_
  refine lv_iload_n hx hb d_Progress_perform_220 rfl (lv_at hl 5 rfl) ?_
  refine lv_i2l (v := (nI s9).toInt64) hx hb d_Progress_perform_221 rfl ?_
  refine lv_iconst (v := 3) hx hb d_Progress_perform_222 (by decide) ?_
  refine lv_iload_n hx hb d_Progress_perform_223 rfl (lv_at hl 4 rfl) ?_
  refine lv_imul hx hb d_Progress_perform_224 ?_
  refine tp_i (y := nI (3 * a)) (by exact pk_mul 3 a) ?_
  refine lv_lshl (v := ((nI s9).toInt64) <<< (((nI (3 * a)) : Int32).toInt64 &&& 63)) hx hb d_Progress_perform_225 rfl ?_
  refine lv_lor hx hb d_Progress_perform_226 ?_
  refine tp_l (y := so ||| (((nI s9).toInt64) <<< (((nI (3 * a)) : Int32).toInt64 &&& 63))) rfl ?_
  refine tp_l (y := srcP so s9 a) rfl ?_
  refine va_put (D := (dC, dI)) (ci := 1) (v := .long (srcP so s9 a)) (ty := .long) (C := R_Progress) (T := F_Progress) (N := 6) hx hb hw i_Progress t_Progress t_Progress_ok n_Progress hown hK hP (dd_D hD rfl) hS 0 rfl rfl 5 (by decide) (hw _ m_210) (fun _ h9 => h9) rfl (by decide +kernel) rfl rfl (Nat.le_of_ble_eq_true rfl) d_Progress_perform_227 ?_
  clear hP hS locs H
  intro H locs (hP : va_P (dC, dI) classes [oc ga 1 [.ref pa, .ref g1, .ref g2, .ref g3, .int (nI (dn ||| 2 ^ a)), .long (srcP so s9 a)], ia g1 l1 4 (fun i => nI ((updN pl ((pg 2) a) (pl ((pg 2) a) + 1)) i)), ia g2 l2 8 rg, ia g3 l3 8 (upd vl (a + 1) (nm a)), oc pa 0 [.ref (pA 0), .ref (pA 1), .ref (pA 2), .ref (pA 3), .ref (pA 4), .ref (pA 5), .ref (pA 6), .ref (pA 7), .ref (pA 8), .ref (pA 9), .ref (pA 10), .int (nI T), .int (nI Ac)], ia (pA 2) (pK 2) 7 (fun i => nI ((pg 2) i)), ia (pA 4) (pK 4) 7 (fun i => nI ((pg 4) i)), ia (pA 5) (pK 5) 7 (fun i => nI ((pg 5) i)), ia (pA 6) (pK 6) 7 (fun i => nI ((pg 6) i)), ia (pA 7) (pK 7) 7 nm] H) _ hS
  refine tp_pc (pc' := 230) (by rfl) ?_
  obtain ⟨hP9, hD9, -⟩ := cut3 (wc := [oc ga 1 [.ref pa, .ref g1, .ref g2, .ref g3, .int (nI (dn ||| 2 ^ a)), .long (srcP so s9 a)], ia g1 l1 4 (fun i => nI ((updN pl ((pg 2) a) (pl ((pg 2) a) + 1)) i)), ia g2 l2 8 rg, ia g3 l3 8 (upd vl (a + 1) (nm a)), oc pa 0 [.ref (pA 0), .ref (pA 1), .ref (pA 2), .ref (pA 3), .ref (pA 4), .ref (pA 5), .ref (pA 6), .ref (pA 7), .ref (pA 8), .ref (pA 9), .ref (pA 10), .int (nI T), .int (nI Ac)], ia (pA 2) (pK 2) 7 (fun i => nI ((pg 2) i)), ia (pA 4) (pK 4) 7 (fun i => nI ((pg 4) i)), ia (pA 5) (pK 5) 7 (fun i => nI ((pg 5) i)), ia (pA 6) (pK 6) 7 (fun i => nI ((pg 6) i)), ia (pA 7) (pK 7) 7 nm]) hP hD rfl hS hA [0, 1, 2, 3, 4, 5, 6, 7, 8, 9] (by decide +kernel) rfl
  have hK9 := hK.sub (tys' := []) [] rfl
  refine W.widen (k := 0) (n := 0) (by exact Nat.le_of_ble_eq_true rfl) (by exact Nat.le_of_ble_eq_true rfl) ?_
  exact W.vret hx hb hr (fun t9 ht9 hW => ⟨⟨(), rfl, trivial, by rw [ht9]; exact hP9, va_K.moved hW.alike hK9, hD9⟩, hS.F ht9⟩) hS.2.2 d_Progress_perform_230
set_option maxHeartbeats 4000000 in
set_option maxRecDepth 100000 in
theorem gen_Progress_perform_2 (l : Launch) (dC : Nat → ClassId) (dI : Nat → Nat → Nat) (pa : Nat) (pA : Nat → Nat) (pK : Nat → ClassId) (T Ac : Nat) (pg : Nat → Nat → Nat) (nm : Nat → Int32) (ga g1 g2 g3 : Nat) (l1 l2 l3 : ClassId) (dn : Nat) (so : Int64) (pl : Nat → Nat) (rg vl : Nat → Int32) (a s9 : Nat) (ha : a < 7) (hs8 : s9 < 8) (hdn : dn < 128) (h2 : pg 2 a < 4) (hpl : pl (pg 2 a) < 1000) (h5 : pg 5 a < 1000) (h8 : pg 6 a < 8) (hk : pg 4 a = 2) (sz : Nat) : Met l y_Progress_perform w_Progress_perform ({ frames := 0, cells := 0, slots := 0, locals := 0 }) (va_Pc [.ref ga, .int (nI a), .int (nI s9)] (fun U => U.heap.size = sz ∧ va_P (dC, dI) classes [oc ga 1 [.ref pa, .ref g1, .ref g2, .ref g3, .int (nI dn), .long so], ia g1 l1 4 (fun i => nI (pl i)), ia g2 l2 8 rg, ia g3 l3 8 vl, oc pa 0 [.ref (pA 0), .ref (pA 1), .ref (pA 2), .ref (pA 3), .ref (pA 4), .ref (pA 5), .ref (pA 6), .ref (pA 7), .ref (pA 8), .ref (pA 9), .ref (pA 10), .int (nI T), .int (nI Ac)], ia (pA 2) (pK 2) 7 (fun i => nI ((pg 2) i)), ia (pA 4) (pK 4) 7 (fun i => nI ((pg 4) i)), ia (pA 5) (pK 5) 7 (fun i => nI ((pg 5) i)), ia (pA 6) (pK 6) 7 (fun i => nI ((pg 6) i)), ia (pA 7) (pK 7) 7 nm] U.heap ∧ va_K (dC, dI) classes [(l1, .int), (l2, .int), (l3, .int), ((pK 2), .int), ((pK 4), .int), ((pK 5), .int), ((pK 6), .int), ((pK 7), .int)] U ∧ va_D (fun _ => True) [oc ga 1 [.ref pa, .ref g1, .ref g2, .ref g3, .int (nI dn), .long so], ia g1 l1 4 (fun i => nI (pl i)), ia g2 l2 8 rg, ia g3 l3 8 vl, oc pa 0 [.ref (pA 0), .ref (pA 1), .ref (pA 2), .ref (pA 3), .ref (pA 4), .ref (pA 5), .ref (pA 6), .ref (pA 7), .ref (pA 8), .ref (pA 9), .ref (pA 10), .int (nI T), .int (nI Ac)], ia (pA 2) (pK 2) 7 (fun i => nI ((pg 2) i)), ia (pA 4) (pK 4) 7 (fun i => nI ((pg 4) i)), ia (pA 5) (pK 5) 7 (fun i => nI ((pg 5) i)), ia (pA 6) (pK 6) 7 (fun i => nI ((pg 6) i)), ia (pA 7) (pK 7) 7 nm] ∧ nw U)) (va_Qv (fun _ : Unit => True) (fun _ t9 => va_P (dC, dI) classes [oc ga 1 [.ref pa, .ref g1, .ref g2, .ref g3, .int (nI (dn ||| 2 ^ a)), .long (srcP so s9 a)], ia g1 l1 4 (fun i => nI ((updN pl (pg 2 a) (pl (pg 2 a) + 1)) i)), ia g2 l2 8 rg, ia g3 l3 8 (upd vl (a + 1) (rg (pg 6 a) + nm a)), oc pa 0 [.ref (pA 0), .ref (pA 1), .ref (pA 2), .ref (pA 3), .ref (pA 4), .ref (pA 5), .ref (pA 6), .ref (pA 7), .ref (pA 8), .ref (pA 9), .ref (pA 10), .int (nI T), .int (nI Ac)], ia (pA 2) (pK 2) 7 (fun i => nI ((pg 2) i)), ia (pA 4) (pK 4) 7 (fun i => nI ((pg 4) i)), ia (pA 5) (pK 5) 7 (fun i => nI ((pg 5) i)), ia (pA 6) (pK 6) 7 (fun i => nI ((pg 6) i)), ia (pA 7) (pK 7) 7 nm] t9.heap ∧ va_K (dC, dI) classes [] t9 ∧ va_D (va_A [oc ga 1 [.ref pa, .ref g1, .ref g2, .ref g3, .int (nI dn), .long so], ia g1 l1 4 (fun i => nI (pl i)), ia g2 l2 8 rg, ia g3 l3 8 vl, oc pa 0 [.ref (pA 0), .ref (pA 1), .ref (pA 2), .ref (pA 3), .ref (pA 4), .ref (pA 5), .ref (pA 6), .ref (pA 7), .ref (pA 8), .ref (pA 9), .ref (pA 10), .int (nI T), .int (nI Ac)], ia (pA 2) (pK 2) 7 (fun i => nI ((pg 2) i)), ia (pA 4) (pK 4) 7 (fun i => nI ((pg 4) i)), ia (pA 5) (pK 5) 7 (fun i => nI ((pg 5) i)), ia (pA 6) (pK 6) 7 (fun i => nI ((pg 6) i)), ia (pA 7) (pK 7) 7 nm] sz) [oc ga 1 [.ref pa, .ref g1, .ref g2, .ref g3, .int (nI (dn ||| 2 ^ a)), .long (srcP so s9 a)], ia g1 l1 4 (fun i => nI ((updN pl (pg 2 a) (pl (pg 2 a) + 1)) i)), ia g2 l2 8 rg, ia g3 l3 8 (upd vl (a + 1) (rg (pg 6 a) + nm a)), oc pa 0 [.ref (pA 0), .ref (pA 1), .ref (pA 2), .ref (pA 3), .ref (pA 4), .ref (pA 5), .ref (pA 6), .ref (pA 7), .ref (pA 8), .ref (pA 9), .ref (pA 10), .int (nI T), .int (nI Ac)], ia (pA 2) (pK 2) 7 (fun i => nI ((pg 2) i)), ia (pA 4) (pK 4) 7 (fun i => nI ((pg 4) i)), ia (pA 5) (pK 5) 7 (fun i => nI ((pg 5) i)), ia (pA 6) (pK 6) 7 (fun i => nI ((pg 6) i)), ia (pA 7) (pK 7) 7 nm]) (va_A [oc ga 1 [.ref pa, .ref g1, .ref g2, .ref g3, .int (nI dn), .long so], ia g1 l1 4 (fun i => nI (pl i)), ia g2 l2 8 rg, ia g3 l3 8 vl, oc pa 0 [.ref (pA 0), .ref (pA 1), .ref (pA 2), .ref (pA 3), .ref (pA 4), .ref (pA 5), .ref (pA 6), .ref (pA 7), .ref (pA 8), .ref (pA 9), .ref (pA 10), .int (nI T), .int (nI Ac)], ia (pA 2) (pK 2) 7 (fun i => nI ((pg 2) i)), ia (pA 4) (pK 4) 7 (fun i => nI ((pg 4) i)), ia (pA 5) (pK 5) 7 (fun i => nI ((pg 5) i)), ia (pA 6) (pK 6) 7 (fun i => nI ((pg 6) i)), ia (pA 7) (pK 7) 7 nm] sz)) 0 0 (va_A [oc ga 1 [.ref pa, .ref g1, .ref g2, .ref g3, .int (nI dn), .long so], ia g1 l1 4 (fun i => nI (pl i)), ia g2 l2 8 rg, ia g3 l3 8 vl, oc pa 0 [.ref (pA 0), .ref (pA 1), .ref (pA 2), .ref (pA 3), .ref (pA 4), .ref (pA 5), .ref (pA 6), .ref (pA 7), .ref (pA 8), .ref (pA 9), .ref (pA 10), .int (nI T), .int (nI Ac)], ia (pA 2) (pK 2) 7 (fun i => nI ((pg 2) i)), ia (pA 4) (pK 4) 7 (fun i => nI ((pg 4) i)), ia (pA 5) (pK 5) 7 (fun i => nI ((pg 5) i)), ia (pA 6) (pK 6) 7 (fun i => nI ((pg 6) i)), ia (pA 7) (pK 7) 7 nm] sz) := by
  refine Met.ofW (cc := b_Progress_perform) (maxL := 6) (ret := none) (by decide) rfl ?_
  intro p e0 s m args below meth c s₁ B hml hv
  obtain ⟨rfl, hsz, hP, hK, hD0, hn⟩ := hv
  have hx := B.exec
  have hb := B.bytes
  have hr := B.returns
  have hw := fun w (h : w ∈ wt) => atoms_spec (ws := w_Progress_perform) B.pre w (List.mem_cons_of_mem _ h)
  have hown : s.vm.findClass R_Progress = some m.cls := findClass_of_methodNamed B.named
  have hlocks := B.notSynchronized
  subst hsz
  have hD1 := hD0.self (sz := s.heap.size)
  generalize hAe : va_A [oc ga 1 [.ref pa, .ref g1, .ref g2, .ref g3, .int (nI dn), .long so], ia g1 l1 4 (fun i => nI (pl i)), ia g2 l2 8 rg, ia g3 l3 8 vl, oc pa 0 [.ref (pA 0), .ref (pA 1), .ref (pA 2), .ref (pA 3), .ref (pA 4), .ref (pA 5), .ref (pA 6), .ref (pA 7), .ref (pA 8), .ref (pA 9), .ref (pA 10), .int (nI T), .int (nI Ac)], ia (pA 2) (pK 2) 7 (fun i => nI ((pg 2) i)), ia (pA 4) (pK 4) 7 (fun i => nI ((pg 4) i)), ia (pA 5) (pK 5) 7 (fun i => nI ((pg 5) i)), ia (pA 6) (pK 6) 7 (fun i => nI ((pg 6) i)), ia (pA 7) (pK 7) 7 nm] s.heap.size = A at hD1 ⊢
  have hA : ∀ q : Nat, s.heap.size ≤ q → A q := fun q h => by rw [← hAe]; exact Or.inr h
  have hD : dd A [ga, g1, g2, g3, pa, (pA 2), (pA 4), (pA 5), (pA 6), (pA 7)] := dd_of hD1 rfl
  clear hAe hD0 hD1
  have hS : va_S A s.heap s.heap [] := va_S.rf
  replace hP : va_P (dC, dI) classes [oc ga 1 [.ref pa, .ref g1, .ref g2, .ref g3, .int (nI dn), .long so], ia g1 l1 4 (fun i => nI (pl i)), ia g2 l2 8 rg, ia g3 l3 8 vl, oc pa 0 [.ref (pA 0), .ref (pA 1), .ref (pA 2), .ref (pA 3), .ref (pA 4), .ref (pA 5), .ref (pA 6), .ref (pA 7), .ref (pA 8), .ref (pA 9), .ref (pA 10), .int (nI T), .int (nI Ac)], ia (pA 2) (pK 2) 7 (fun i => nI ((pg 2) i)), ia (pA 4) (pK 4) 7 (fun i => nI ((pg 4) i)), ia (pA 5) (pK 5) 7 (fun i => nI ((pg 5) i)), ia (pA 6) (pK 6) 7 (fun i => nI ((pg 6) i)), ia (pA 7) (pK 7) 7 nm] s.heap := hP
  have hl := lv_entry ([.ref ga, .int (nI a), .int (nI s9)]) (n := 6) (Nat.le_of_ble_eq_true rfl)
  rw [lg_entry_eq]
  generalize (lg_sl ([.ref ga, .int (nI a), .int (nI s9)]) ++ List.replicate (6 - (lg_sl ([.ref ga, .int (nI a), .int (nI s9)])).length) Slot.unset).toArray = ls at hl ⊢
  replace hl : lv_has ls 6 [(0, .ref ga), (1, .int (nI a)), (2, .int (nI s9))] := hl
  refine lv_aload_n hx hb d_Progress_perform_0 rfl (lv_at hl 0 rfl) ?_
  refine va_get (D := (dC, dI)) (ci := 1) (v := .ref pa) (C := R_Progress) (T := F_Progress) (N := 6) hx hb hw i_Progress hown hK hP 0 rfl rfl 0 (by decide) (hw _ m_203) (fun _ h9 => h9) rfl d_Progress_perform_1 ?_
  refine va_get (D := (dC, dI)) (ci := 0) (v := .ref (pA 6)) (C := R_Program) (T := F_Program) (N := 13) hx hb hw i_Program hown hK hP 4 rfl rfl 6 (by decide) (hw _ m_149) (fun _ h9 => h9) rfl d_Progress_perform_4 ?_
  refine lv_iload_n hx hb d_Progress_perform_7 rfl (lv_at hl 1 rfl) ?_
  refine va_iald (D := (dC, dI)) hx hb hK hP 8 6 rfl rfl (i := nI a) (pk_in a 7 (by omega)) d_Progress_perform_8 ?_
  refine tp_i (y := nI ((pg 6) a)) (by rw [show (nI a : Int32).toNatClampNeg = a from pk_cl a]) ?_
  refine lv_istore_n (lv' := [(3, .int (nI ((pg 6) a))), (0, .ref ga), (1, .int (nI a)), (2, .int (nI s9))]) hx hb d_Progress_perform_9 rfl hl (by decide) rfl ?_
  clear hl ls
  intro ls hl
  refine lv_aload_n hx hb d_Progress_perform_10 rfl (lv_at hl 1 rfl) ?_
  refine va_get (D := (dC, dI)) (ci := 1) (v := .ref pa) (C := R_Progress) (T := F_Progress) (N := 6) hx hb hw i_Progress hown hK hP 0 rfl rfl 0 (by decide) (hw _ m_203) (fun _ h9 => h9) rfl d_Progress_perform_11 ?_
  refine va_get (D := (dC, dI)) (ci := 0) (v := .ref (pA 7)) (C := R_Program) (T := F_Program) (N := 13) hx hb hw i_Program hown hK hP 4 rfl rfl 7 (by decide) (hw _ m_151) (fun _ h9 => h9) rfl d_Progress_perform_14 ?_
  refine lv_iload_n hx hb d_Progress_perform_17 rfl (lv_at hl 2 rfl) ?_
  refine va_iald (D := (dC, dI)) hx hb hK hP 9 7 rfl rfl (i := nI a) (pk_in a 7 (by omega)) d_Progress_perform_18 ?_
  refine tp_i (y := nm a) (by rw [show (nI a : Int32).toNatClampNeg = a from pk_cl a]) ?_
  refine lv_istore (lv' := [(4, .int (nm a)), (3, .int (nI ((pg 6) a))), (0, .ref ga), (1, .int (nI a)), (2, .int (nI s9))]) hx hb d_Progress_perform_19 hl (by decide) rfl ?_
  clear hl ls
  intro ls hl
  refine lv_iconst (v := 1) hx hb d_Progress_perform_21 (by decide) ?_
  refine lv_istore (lv' := [(5, .int 1), (4, .int (nm a)), (3, .int (nI ((pg 6) a))), (0, .ref ga), (1, .int (nI a)), (2, .int (nI s9))]) hx hb d_Progress_perform_22 hl (by decide) rfl ?_
  clear hl ls
  intro ls hl
  refine lv_aload_n hx hb d_Progress_perform_24 rfl (lv_at hl 3 rfl) ?_
  refine va_get (D := (dC, dI)) (ci := 1) (v := .ref pa) (C := R_Progress) (T := F_Progress) (N := 6) hx hb hw i_Progress hown hK hP 0 rfl rfl 0 (by decide) (hw _ m_203) (fun _ h9 => h9) rfl d_Progress_perform_25 ?_
  refine va_get (D := (dC, dI)) (ci := 0) (v := .ref (pA 4)) (C := R_Program) (T := F_Program) (N := 13) hx hb hw i_Program hown hK hP 4 rfl rfl 4 (by decide) (hw _ m_142) (fun _ h9 => h9) rfl d_Progress_perform_28 ?_
  refine lv_iload_n hx hb d_Progress_perform_31 rfl (lv_at hl 4 rfl) ?_
  refine va_iald (D := (dC, dI)) hx hb hK hP 6 4 rfl rfl (i := nI a) (pk_in a 7 (by omega)) d_Progress_perform_32 ?_
  refine tp_i (y := nI ((pg 4) a)) (by rw [show (nI a : Int32).toNatClampNeg = a from pk_cl a]) ?_
  refine tp_i (y := 2) (by rw [hk]; rfl) ?_
  refine lv_tableIn (x := 2) (tgt := 100) hx hb d_Progress_perform_33 (by decide) (by decide) (by rfl) (by decide) ?_
  refine tp_pc (pc' := 100) (by rfl) ?_
  refine lv_aload_n hx hb d_Progress_perform_100 rfl (lv_at hl 3 rfl) ?_
  refine va_get (D := (dC, dI)) (ci := 1) (v := .ref g3) (C := R_Progress) (T := F_Progress) (N := 6) hx hb hw i_Progress hown hK hP 0 rfl rfl 3 (by decide) (hw _ m_207) (fun _ h9 => h9) rfl d_Progress_perform_101 ?_
  refine lv_iload_n hx hb d_Progress_perform_104 rfl (lv_at hl 4 rfl) ?_
  refine lv_iconst (v := 1) hx hb d_Progress_perform_105 (by decide) ?_
  refine lv_iadd hx hb d_Progress_perform_106 ?_
  refine tp_i (y := nI (a + 1)) (by exact nI_add a 1) ?_
  refine lv_aload_n hx hb d_Progress_perform_107 rfl (lv_at hl 3 rfl) ?_
  refine va_get (D := (dC, dI)) (ci := 1) (v := .ref g2) (C := R_Progress) (T := F_Progress) (N := 6) hx hb hw i_Progress hown hK hP 0 rfl rfl 2 (by decide) (hw _ m_206) (fun _ h9 => h9) rfl d_Progress_perform_108 ?_
  refine lv_iload_n hx hb d_Progress_perform_111 rfl (lv_at hl 2 rfl) ?_
  refine va_iald (D := (dC, dI)) hx hb hK hP 2 1 rfl rfl (i := nI ((pg 6) a)) (pk_in ((pg 6) a) 8 (by omega)) d_Progress_perform_112 ?_
  refine tp_i (y := rg ((pg 6) a)) (by rw [show (nI ((pg 6) a) : Int32).toNatClampNeg = (pg 6) a from pk_cl ((pg 6) a)]) ?_
  refine lv_iload hx hb d_Progress_perform_113 (lv_at hl 1 rfl) ?_
  refine lv_iadd hx hb d_Progress_perform_115 ?_
  refine tp_i (y := (rg ((pg 6) a)) + (nm a)) rfl ?_
  refine va_iast (D := (dC, dI)) hx hb hK hP (dd_D hD rfl) hS 3 2 rfl rfl (i := nI (a + 1)) (x := (rg ((pg 6) a)) + (nm a)) (pk_in (a + 1) 8 (by omega)) d_Progress_perform_116 ?_
  clear hP hS
  intro H locs hP _ hS
  rw [show (nI (a + 1) : Int32).toNatClampNeg = a + 1 from pk_cl (a + 1)] at hP
  replace hP : va_P (dC, dI) classes [oc ga 1 [.ref pa, .ref g1, .ref g2, .ref g3, .int (nI dn), .long so], ia g1 l1 4 (fun i => nI (pl i)), ia g2 l2 8 rg, ia g3 l3 8 (upd vl (a + 1) ((rg ((pg 6) a)) + (nm a))), oc pa 0 [.ref (pA 0), .ref (pA 1), .ref (pA 2), .ref (pA 3), .ref (pA 4), .ref (pA 5), .ref (pA 6), .ref (pA 7), .ref (pA 8), .ref (pA 9), .ref (pA 10), .int (nI T), .int (nI Ac)], ia (pA 2) (pK 2) 7 (fun i => nI ((pg 2) i)), ia (pA 4) (pK 4) 7 (fun i => nI ((pg 4) i)), ia (pA 5) (pK 5) 7 (fun i => nI ((pg 5) i)), ia (pA 6) (pK 6) 7 (fun i => nI ((pg 6) i)), ia (pA 7) (pK 7) 7 nm] H := hP
  refine tp_pc (pc' := 117) (by rfl) ?_
  refine lv_goto (tgt := 184) hx hb d_Progress_perform_117 (by decide) ?_
  refine tp_pc (pc' := 184) (by rfl) ?_
  refine lv_aload_n hx hb d_Progress_perform_184 rfl (lv_at hl 3 rfl) ?_
  refine va_get (D := (dC, dI)) (ci := 1) (v := .ref g1) (C := R_Progress) (T := F_Progress) (N := 6) hx hb hw i_Progress hown hK hP 0 rfl rfl 1 (by decide) (hw _ m_204) (fun _ h9 => h9) rfl d_Progress_perform_185 ?_
  refine lv_aload_n hx hb d_Progress_perform_188 rfl (lv_at hl 3 rfl) ?_
  refine va_get (D := (dC, dI)) (ci := 1) (v := .ref pa) (C := R_Progress) (T := F_Progress) (N := 6) hx hb hw i_Progress hown hK hP 0 rfl rfl 0 (by decide) (hw _ m_203) (fun _ h9 => h9) rfl d_Progress_perform_189 ?_
  refine va_get (D := (dC, dI)) (ci := 0) (v := .ref (pA 2)) (C := R_Program) (T := F_Program) (N := 13) hx hb hw i_Program hown hK hP 4 rfl rfl 2 (by decide) (hw _ m_132) (fun _ h9 => h9) rfl d_Progress_perform_192 ?_
  refine lv_iload_n hx hb d_Progress_perform_195 rfl (lv_at hl 4 rfl) ?_
  refine va_iald (D := (dC, dI)) hx hb hK hP 5 3 rfl rfl (i := nI a) (pk_in a 7 (by omega)) d_Progress_perform_196 ?_
  refine tp_i (y := nI ((pg 2) a)) (by rw [show (nI a : Int32).toNatClampNeg = a from pk_cl a]) ?_
  refine lv_dup2_11 hx hb d_Progress_perform_197 rfl rfl ?_
  refine va_iald (D := (dC, dI)) hx hb hK hP 1 0 rfl rfl (i := nI ((pg 2) a)) (pk_in ((pg 2) a) 4 (by omega)) d_Progress_perform_198 ?_
  refine tp_i (y := nI (pl ((pg 2) a))) (by rw [show (nI ((pg 2) a) : Int32).toNatClampNeg = (pg 2) a from pk_cl ((pg 2) a)]) ?_
  refine lv_iload hx hb d_Progress_perform_199 (lv_at hl 0 rfl) ?_
  refine lv_iadd hx hb d_Progress_perform_201 ?_
  refine tp_i (y := nI (pl ((pg 2) a) + 1)) (by exact nI_add (pl ((pg 2) a)) 1) ?_
  refine va_iast (D := (dC, dI)) hx hb hK hP (dd_D hD rfl) hS 1 0 rfl rfl (i := nI ((pg 2) a)) (x := nI (pl ((pg 2) a) + 1)) (pk_in ((pg 2) a) 4 (by omega)) d_Progress_perform_202 ?_
  clear hP hS locs H
  intro H locs hP _ hS
  rw [show (nI ((pg 2) a) : Int32).toNatClampNeg = (pg 2) a from pk_cl ((pg 2) a)] at hP
  rw [show upd (fun i => nI (pl i)) ((pg 2) a) (nI (pl ((pg 2) a) + 1)) = fun i => nI (updN pl ((pg 2) a) (pl ((pg 2) a) + 1) i) from upd_nI] at hP
  replace hP : va_P (dC, dI) classes [oc ga 1 [.ref pa, .ref g1, .ref g2, .ref g3, .int (nI dn), .long so], ia g1 l1 4 (fun i => nI ((updN pl ((pg 2) a) (pl ((pg 2) a) + 1)) i)), ia g2 l2 8 rg, ia g3 l3 8 (upd vl (a + 1) ((rg ((pg 6) a)) + (nm a))), oc pa 0 [.ref (pA 0), .ref (pA 1), .ref (pA 2), .ref (pA 3), .ref (pA 4), .ref (pA 5), .ref (pA 6), .ref (pA 7), .ref (pA 8), .ref (pA 9), .ref (pA 10), .int (nI T), .int (nI Ac)], ia (pA 2) (pK 2) 7 (fun i => nI ((pg 2) i)), ia (pA 4) (pK 4) 7 (fun i => nI ((pg 4) i)), ia (pA 5) (pK 5) 7 (fun i => nI ((pg 5) i)), ia (pA 6) (pK 6) 7 (fun i => nI ((pg 6) i)), ia (pA 7) (pK 7) 7 nm] H := hP
  refine tp_pc (pc' := 203) (by rfl) ?_
  refine lv_aload_n hx hb d_Progress_perform_203 rfl (lv_at hl 3 rfl) ?_
  refine lv_dup hx hb d_Progress_perform_204 rfl ?_
  refine va_get (D := (dC, dI)) (ci := 1) (v := .int (nI dn)) (C := R_Progress) (T := F_Progress) (N := 6) hx hb hw i_Progress hown hK hP 0 rfl rfl 4 (by decide) (hw _ m_208) (fun _ h9 => h9) rfl d_Progress_perform_205 ?_
  refine lv_iconst (v := 1) hx hb d_Progress_perform_208 (by decide) ?_
  refine lv_iload_n hx hb d_Progress_perform_209 rfl (lv_at hl 4 rfl) ?_
  refine lv_ishl hx hb d_Progress_perform_210 ?_
  refine tp_i (y := 1 <<< ((nI a) &&& 31)) rfl ?_
  refine lv_ior hx hb d_Progress_perform_211 ?_
  refine tp_i (y := (nI dn) ||| (1 <<< ((nI a) &&& 31))) rfl ?_
  refine tp_i (y := nI (dn ||| 2 ^ a)) (set_eq dn hdn a ha) ?_
  refine va_put (D := (dC, dI)) (ci := 1) (v := .int (nI (dn ||| 2 ^ a))) (ty := .int) (C := R_Progress) (T := F_Progress) (N := 6) hx hb hw i_Progress t_Progress t_Progress_ok n_Progress hown hK hP (dd_D hD rfl) hS 0 rfl rfl 4 (by decide) (hw _ m_208) (fun _ h9 => h9) rfl (by decide +kernel) rfl rfl (Nat.le_of_ble_eq_true rfl) d_Progress_perform_212 ?_
  clear hP hS locs H
  intro H locs (hP : va_P (dC, dI) classes [oc ga 1 [.ref pa, .ref g1, .ref g2, .ref g3, .int (nI (dn ||| 2 ^ a)), .long so], ia g1 l1 4 (fun i => nI ((updN pl ((pg 2) a) (pl ((pg 2) a) + 1)) i)), ia g2 l2 8 rg, ia g3 l3 8 (upd vl (a + 1) ((rg ((pg 6) a)) + (nm a))), oc pa 0 [.ref (pA 0), .ref (pA 1), .ref (pA 2), .ref (pA 3), .ref (pA 4), .ref (pA 5), .ref (pA 6), .ref (pA 7), .ref (pA 8), .ref (pA 9), .ref (pA 10), .int (nI T), .int (nI Ac)], ia (pA 2) (pK 2) 7 (fun i => nI ((pg 2) i)), ia (pA 4) (pK 4) 7 (fun i => nI ((pg 4) i)), ia (pA 5) (pK 5) 7 (fun i => nI ((pg 5) i)), ia (pA 6) (pK 6) 7 (fun i => nI ((pg 6) i)), ia (pA 7) (pK 7) 7 nm] H) _ hS
  refine tp_pc (pc' := 215) (by rfl) ?_
  refine lv_aload_n hx hb d_Progress_perform_215 rfl (lv_at hl 3 rfl) ?_
  refine lv_dup hx hb d_Progress_perform_216 rfl ?_
  refine va_get (D := (dC, dI)) (ci := 1) (v := .long so) (C := R_Progress) (T := F_Progress) (N := 6) hx hb hw i_Progress hown hK hP 0 rfl rfl 5 (by decide) (hw _ m_210) (fun _ h9 => h9) rfl d_Progress_perform_217 ?_
  refine lv_iload_n hx hb d_Progress_perform_220 rfl (lv_at hl 5 rfl) ?_
  refine lv_i2l (v := (nI s9).toInt64) hx hb d_Progress_perform_221 rfl ?_
  refine lv_iconst (v := 3) hx hb d_Progress_perform_222 (by decide) ?_
  refine lv_iload_n hx hb d_Progress_perform_223 rfl (lv_at hl 4 rfl) ?_
  refine lv_imul hx hb d_Progress_perform_224 ?_
  refine tp_i (y := nI (3 * a)) (by exact pk_mul 3 a) ?_
  refine lv_lshl (v := ((nI s9).toInt64) <<< (((nI (3 * a)) : Int32).toInt64 &&& 63)) hx hb d_Progress_perform_225 rfl ?_
  refine lv_lor hx hb d_Progress_perform_226 ?_
  refine tp_l (y := so ||| (((nI s9).toInt64) <<< (((nI (3 * a)) : Int32).toInt64 &&& 63))) rfl ?_
  refine tp_l (y := srcP so s9 a) rfl ?_
  refine va_put (D := (dC, dI)) (ci := 1) (v := .long (srcP so s9 a)) (ty := .long) (C := R_Progress) (T := F_Progress) (N := 6) hx hb hw i_Progress t_Progress t_Progress_ok n_Progress hown hK hP (dd_D hD rfl) hS 0 rfl rfl 5 (by decide) (hw _ m_210) (fun _ h9 => h9) rfl (by decide +kernel) rfl rfl (Nat.le_of_ble_eq_true rfl) d_Progress_perform_227 ?_
  clear hP hS locs H
  intro H locs (hP : va_P (dC, dI) classes [oc ga 1 [.ref pa, .ref g1, .ref g2, .ref g3, .int (nI (dn ||| 2 ^ a)), .long (srcP so s9 a)], ia g1 l1 4 (fun i => nI ((updN pl ((pg 2) a) (pl ((pg 2) a) + 1)) i)), ia g2 l2 8 rg, ia g3 l3 8 (upd vl (a + 1) ((rg ((pg 6) a)) + (nm a))), oc pa 0 [.ref (pA 0), .ref (pA 1), .ref (pA 2), .ref (pA 3), .ref (pA 4), .ref (pA 5), .ref (pA 6), .ref (pA 7), .ref (pA 8), .ref (pA 9), .ref (pA 10), .int (nI T), .int (nI Ac)], ia (pA 2) (pK 2) 7 (fun i => nI ((pg 2) i)), ia (pA 4) (pK 4) 7 (fun i => nI ((pg 4) i)), ia (pA 5) (pK 5) 7 (fun i => nI ((pg 5) i)), ia (pA 6) (pK 6) 7 (fun i => nI ((pg 6) i)), ia (pA 7) (pK 7) 7 nm] H) _ hS
  refine tp_pc (pc' := 230) (by rfl) ?_
  obtain ⟨hP9, hD9, -⟩ := cut3 (wc := [oc ga 1 [.ref pa, .ref g1, .ref g2, .ref g3, .int (nI (dn ||| 2 ^ a)), .long (srcP so s9 a)], ia g1 l1 4 (fun i => nI ((updN pl ((pg 2) a) (pl ((pg 2) a) + 1)) i)), ia g2 l2 8 rg, ia g3 l3 8 (upd vl (a + 1) ((rg ((pg 6) a)) + (nm a))), oc pa 0 [.ref (pA 0), .ref (pA 1), .ref (pA 2), .ref (pA 3), .ref (pA 4), .ref (pA 5), .ref (pA 6), .ref (pA 7), .ref (pA 8), .ref (pA 9), .ref (pA 10), .int (nI T), .int (nI Ac)], ia (pA 2) (pK 2) 7 (fun i => nI ((pg 2) i)), ia (pA 4) (pK 4) 7 (fun i => nI ((pg 4) i)), ia (pA 5) (pK 5) 7 (fun i => nI ((pg 5) i)), ia (pA 6) (pK 6) 7 (fun i => nI ((pg 6) i)), ia (pA 7) (pK 7) 7 nm]) hP hD rfl hS hA [0, 1, 2, 3, 4, 5, 6, 7, 8, 9] (by decide +kernel) rfl
  have hK9 := hK.sub (tys' := []) [] rfl
  refine W.widen (k := 0) (n := 0) (by exact Nat.le_of_ble_eq_true rfl) (by exact Nat.le_of_ble_eq_true rfl) ?_
  exact W.vret hx hb hr (fun t9 ht9 hW => ⟨⟨(), rfl, trivial, by rw [ht9]; exact hP9, va_K.moved hW.alike hK9, hD9⟩, hS.F ht9⟩) hS.2.2 d_Progress_perform_230
set_option maxHeartbeats 4000000 in
set_option maxRecDepth 100000 in
theorem gen_Progress_perform_3 (l : Launch) (dC : Nat → ClassId) (dI : Nat → Nat → Nat) (pa : Nat) (pA : Nat → Nat) (pK : Nat → ClassId) (T Ac : Nat) (pg : Nat → Nat → Nat) (nm : Nat → Int32) (ga g1 g2 g3 : Nat) (l1 l2 l3 : ClassId) (dn : Nat) (so : Int64) (pl : Nat → Nat) (rg vl : Nat → Int32) (a s9 : Nat) (ha : a < 7) (hs8 : s9 < 8) (hdn : dn < 128) (h2 : pg 2 a < 4) (hpl : pl (pg 2 a) < 1000) (h5 : pg 5 a < 1000) (h8 : pg 6 a < 8) (hk : pg 4 a = 3) (sz : Nat) : Met l y_Progress_perform w_Progress_perform ({ frames := 0, cells := 0, slots := 0, locals := 0 }) (va_Pc [.ref ga, .int (nI a), .int (nI s9)] (fun U => U.heap.size = sz ∧ va_P (dC, dI) classes [oc ga 1 [.ref pa, .ref g1, .ref g2, .ref g3, .int (nI dn), .long so], ia g1 l1 4 (fun i => nI (pl i)), ia g2 l2 8 rg, ia g3 l3 8 vl, oc pa 0 [.ref (pA 0), .ref (pA 1), .ref (pA 2), .ref (pA 3), .ref (pA 4), .ref (pA 5), .ref (pA 6), .ref (pA 7), .ref (pA 8), .ref (pA 9), .ref (pA 10), .int (nI T), .int (nI Ac)], ia (pA 2) (pK 2) 7 (fun i => nI ((pg 2) i)), ia (pA 4) (pK 4) 7 (fun i => nI ((pg 4) i)), ia (pA 5) (pK 5) 7 (fun i => nI ((pg 5) i)), ia (pA 6) (pK 6) 7 (fun i => nI ((pg 6) i)), ia (pA 7) (pK 7) 7 nm] U.heap ∧ va_K (dC, dI) classes [(l1, .int), (l2, .int), (l3, .int), ((pK 2), .int), ((pK 4), .int), ((pK 5), .int), ((pK 6), .int), ((pK 7), .int)] U ∧ va_D (fun _ => True) [oc ga 1 [.ref pa, .ref g1, .ref g2, .ref g3, .int (nI dn), .long so], ia g1 l1 4 (fun i => nI (pl i)), ia g2 l2 8 rg, ia g3 l3 8 vl, oc pa 0 [.ref (pA 0), .ref (pA 1), .ref (pA 2), .ref (pA 3), .ref (pA 4), .ref (pA 5), .ref (pA 6), .ref (pA 7), .ref (pA 8), .ref (pA 9), .ref (pA 10), .int (nI T), .int (nI Ac)], ia (pA 2) (pK 2) 7 (fun i => nI ((pg 2) i)), ia (pA 4) (pK 4) 7 (fun i => nI ((pg 4) i)), ia (pA 5) (pK 5) 7 (fun i => nI ((pg 5) i)), ia (pA 6) (pK 6) 7 (fun i => nI ((pg 6) i)), ia (pA 7) (pK 7) 7 nm] ∧ nw U)) (va_Qv (fun _ : Unit => True) (fun _ t9 => va_P (dC, dI) classes [oc ga 1 [.ref pa, .ref g1, .ref g2, .ref g3, .int (nI (dn ||| 2 ^ a)), .long (srcP so s9 a)], ia g1 l1 4 (fun i => nI ((updN pl (pg 2 a) (pl (pg 2 a) + 1)) i)), ia g2 l2 8 (upd rg (pg 6 a) (vl s9)), ia g3 l3 8 (upd vl (a + 1) ((upd rg (pg 6 a) (vl s9)) (pg 6 a) + nm a)), oc pa 0 [.ref (pA 0), .ref (pA 1), .ref (pA 2), .ref (pA 3), .ref (pA 4), .ref (pA 5), .ref (pA 6), .ref (pA 7), .ref (pA 8), .ref (pA 9), .ref (pA 10), .int (nI T), .int (nI Ac)], ia (pA 2) (pK 2) 7 (fun i => nI ((pg 2) i)), ia (pA 4) (pK 4) 7 (fun i => nI ((pg 4) i)), ia (pA 5) (pK 5) 7 (fun i => nI ((pg 5) i)), ia (pA 6) (pK 6) 7 (fun i => nI ((pg 6) i)), ia (pA 7) (pK 7) 7 nm] t9.heap ∧ va_K (dC, dI) classes [] t9 ∧ va_D (va_A [oc ga 1 [.ref pa, .ref g1, .ref g2, .ref g3, .int (nI dn), .long so], ia g1 l1 4 (fun i => nI (pl i)), ia g2 l2 8 rg, ia g3 l3 8 vl, oc pa 0 [.ref (pA 0), .ref (pA 1), .ref (pA 2), .ref (pA 3), .ref (pA 4), .ref (pA 5), .ref (pA 6), .ref (pA 7), .ref (pA 8), .ref (pA 9), .ref (pA 10), .int (nI T), .int (nI Ac)], ia (pA 2) (pK 2) 7 (fun i => nI ((pg 2) i)), ia (pA 4) (pK 4) 7 (fun i => nI ((pg 4) i)), ia (pA 5) (pK 5) 7 (fun i => nI ((pg 5) i)), ia (pA 6) (pK 6) 7 (fun i => nI ((pg 6) i)), ia (pA 7) (pK 7) 7 nm] sz) [oc ga 1 [.ref pa, .ref g1, .ref g2, .ref g3, .int (nI (dn ||| 2 ^ a)), .long (srcP so s9 a)], ia g1 l1 4 (fun i => nI ((updN pl (pg 2 a) (pl (pg 2 a) + 1)) i)), ia g2 l2 8 (upd rg (pg 6 a) (vl s9)), ia g3 l3 8 (upd vl (a + 1) ((upd rg (pg 6 a) (vl s9)) (pg 6 a) + nm a)), oc pa 0 [.ref (pA 0), .ref (pA 1), .ref (pA 2), .ref (pA 3), .ref (pA 4), .ref (pA 5), .ref (pA 6), .ref (pA 7), .ref (pA 8), .ref (pA 9), .ref (pA 10), .int (nI T), .int (nI Ac)], ia (pA 2) (pK 2) 7 (fun i => nI ((pg 2) i)), ia (pA 4) (pK 4) 7 (fun i => nI ((pg 4) i)), ia (pA 5) (pK 5) 7 (fun i => nI ((pg 5) i)), ia (pA 6) (pK 6) 7 (fun i => nI ((pg 6) i)), ia (pA 7) (pK 7) 7 nm]) (va_A [oc ga 1 [.ref pa, .ref g1, .ref g2, .ref g3, .int (nI dn), .long so], ia g1 l1 4 (fun i => nI (pl i)), ia g2 l2 8 rg, ia g3 l3 8 vl, oc pa 0 [.ref (pA 0), .ref (pA 1), .ref (pA 2), .ref (pA 3), .ref (pA 4), .ref (pA 5), .ref (pA 6), .ref (pA 7), .ref (pA 8), .ref (pA 9), .ref (pA 10), .int (nI T), .int (nI Ac)], ia (pA 2) (pK 2) 7 (fun i => nI ((pg 2) i)), ia (pA 4) (pK 4) 7 (fun i => nI ((pg 4) i)), ia (pA 5) (pK 5) 7 (fun i => nI ((pg 5) i)), ia (pA 6) (pK 6) 7 (fun i => nI ((pg 6) i)), ia (pA 7) (pK 7) 7 nm] sz)) 0 0 (va_A [oc ga 1 [.ref pa, .ref g1, .ref g2, .ref g3, .int (nI dn), .long so], ia g1 l1 4 (fun i => nI (pl i)), ia g2 l2 8 rg, ia g3 l3 8 vl, oc pa 0 [.ref (pA 0), .ref (pA 1), .ref (pA 2), .ref (pA 3), .ref (pA 4), .ref (pA 5), .ref (pA 6), .ref (pA 7), .ref (pA 8), .ref (pA 9), .ref (pA 10), .int (nI T), .int (nI Ac)], ia (pA 2) (pK 2) 7 (fun i => nI ((pg 2) i)), ia (pA 4) (pK 4) 7 (fun i => nI ((pg 4) i)), ia (pA 5) (pK 5) 7 (fun i => nI ((pg 5) i)), ia (pA 6) (pK 6) 7 (fun i => nI ((pg 6) i)), ia (pA 7) (pK 7) 7 nm] sz) := by
  refine Met.ofW (cc := b_Progress_perform) (maxL := 6) (ret := none) (by decide) rfl ?_
  intro p e0 s m args below meth c s₁ B hml hv
  obtain ⟨rfl, hsz, hP, hK, hD0, hn⟩ := hv
  have hx := B.exec
  have hb := B.bytes
  have hr := B.returns
  have hw := fun w (h : w ∈ wt) => atoms_spec (ws := w_Progress_perform) B.pre w (List.mem_cons_of_mem _ h)
  have hown : s.vm.findClass R_Progress = some m.cls := findClass_of_methodNamed B.named
  have hlocks := B.notSynchronized
  subst hsz
  have hD1 := hD0.self (sz := s.heap.size)
  generalize hAe : va_A [oc ga 1 [.ref pa, .ref g1, .ref g2, .ref g3, .int (nI dn), .long so], ia g1 l1 4 (fun i => nI (pl i)), ia g2 l2 8 rg, ia g3 l3 8 vl, oc pa 0 [.ref (pA 0), .ref (pA 1), .ref (pA 2), .ref (pA 3), .ref (pA 4), .ref (pA 5), .ref (pA 6), .ref (pA 7), .ref (pA 8), .ref (pA 9), .ref (pA 10), .int (nI T), .int (nI Ac)], ia (pA 2) (pK 2) 7 (fun i => nI ((pg 2) i)), ia (pA 4) (pK 4) 7 (fun i => nI ((pg 4) i)), ia (pA 5) (pK 5) 7 (fun i => nI ((pg 5) i)), ia (pA 6) (pK 6) 7 (fun i => nI ((pg 6) i)), ia (pA 7) (pK 7) 7 nm] s.heap.size = A at hD1 ⊢
  have hA : ∀ q : Nat, s.heap.size ≤ q → A q := fun q h => by rw [← hAe]; exact Or.inr h
  have hD : dd A [ga, g1, g2, g3, pa, (pA 2), (pA 4), (pA 5), (pA 6), (pA 7)] := dd_of hD1 rfl
  clear hAe hD0 hD1
  have hS : va_S A s.heap s.heap [] := va_S.rf
  replace hP : va_P (dC, dI) classes [oc ga 1 [.ref pa, .ref g1, .ref g2, .ref g3, .int (nI dn), .long so], ia g1 l1 4 (fun i => nI (pl i)), ia g2 l2 8 rg, ia g3 l3 8 vl, oc pa 0 [.ref (pA 0), .ref (pA 1), .ref (pA 2), .ref (pA 3), .ref (pA 4), .ref (pA 5), .ref (pA 6), .ref (pA 7), .ref (pA 8), .ref (pA 9), .ref (pA 10), .int (nI T), .int (nI Ac)], ia (pA 2) (pK 2) 7 (fun i => nI ((pg 2) i)), ia (pA 4) (pK 4) 7 (fun i => nI ((pg 4) i)), ia (pA 5) (pK 5) 7 (fun i => nI ((pg 5) i)), ia (pA 6) (pK 6) 7 (fun i => nI ((pg 6) i)), ia (pA 7) (pK 7) 7 nm] s.heap := hP
  have hl := lv_entry ([.ref ga, .int (nI a), .int (nI s9)]) (n := 6) (Nat.le_of_ble_eq_true rfl)
  rw [lg_entry_eq]
  generalize (lg_sl ([.ref ga, .int (nI a), .int (nI s9)]) ++ List.replicate (6 - (lg_sl ([.ref ga, .int (nI a), .int (nI s9)])).length) Slot.unset).toArray = ls at hl ⊢
  replace hl : lv_has ls 6 [(0, .ref ga), (1, .int (nI a)), (2, .int (nI s9))] := hl
  refine lv_aload_n hx hb d_Progress_perform_0 rfl (lv_at hl 0 rfl) ?_
  refine va_get (D := (dC, dI)) (ci := 1) (v := .ref pa) (C := R_Progress) (T := F_Progress) (N := 6) hx hb hw i_Progress hown hK hP 0 rfl rfl 0 (by decide) (hw _ m_203) (fun _ h9 => h9) rfl d_Progress_perform_1 ?_
  refine va_get (D := (dC, dI)) (ci := 0) (v := .ref (pA 6)) (C := R_Program) (T := F_Program) (N := 13) hx hb hw i_Program hown hK hP 4 rfl rfl 6 (by decide) (hw _ m_149) (fun _ h9 => h9) rfl d_Progress_perform_4 ?_
  refine lv_iload_n hx hb d_Progress_perform_7 rfl (lv_at hl 1 rfl) ?_
  refine va_iald (D := (dC, dI)) hx hb hK hP 8 6 rfl rfl (i := nI a) (pk_in a 7 (by omega)) d_Progress_perform_8 ?_
  refine tp_i (y := nI ((pg 6) a)) (by rw [show (nI a : Int32).toNatClampNeg = a from pk_cl a]) ?_
  refine lv_istore_n (lv' := [(3, .int (nI ((pg 6) a))), (0, .ref ga), (1, .int (nI a)), (2, .int (nI s9))]) hx hb d_Progress_perform_9 rfl hl (by decide) rfl ?_
  clear hl ls
  intro ls hl
  refine lv_aload_n hx hb d_Progress_perform_10 rfl (lv_at hl 1 rfl) ?_
  refine va_get (D := (dC, dI)) (ci := 1) (v := .ref pa) (C := R_Progress) (T := F_Progress) (N := 6) hx hb hw i_Progress hown hK hP 0 rfl rfl 0 (by decide) (hw _ m_203) (fun _ h9 => h9) rfl d_Progress_perform_11 ?_
  refine va_get (D := (dC, dI)) (ci := 0) (v := .ref (pA 7)) (C := R_Program) (T := F_Program) (N := 13) hx hb hw i_Program hown hK hP 4 rfl rfl 7 (by decide) (hw _ m_151) (fun _ h9 => h9) rfl d_Progress_perform_14 ?_
  refine lv_iload_n hx hb d_Progress_perform_17 rfl (lv_at hl 2 rfl) ?_
  refine va_iald (D := (dC, dI)) hx hb hK hP 9 7 rfl rfl (i := nI a) (pk_in a 7 (by omega)) d_Progress_perform_18 ?_
  refine tp_i (y := nm a) (by rw [show (nI a : Int32).toNatClampNeg = a from pk_cl a]) ?_
  refine lv_istore (lv' := [(4, .int (nm a)), (3, .int (nI ((pg 6) a))), (0, .ref ga), (1, .int (nI a)), (2, .int (nI s9))]) hx hb d_Progress_perform_19 hl (by decide) rfl ?_
  clear hl ls
  intro ls hl
  refine lv_iconst (v := 1) hx hb d_Progress_perform_21 (by decide) ?_
  refine lv_istore (lv' := [(5, .int 1), (4, .int (nm a)), (3, .int (nI ((pg 6) a))), (0, .ref ga), (1, .int (nI a)), (2, .int (nI s9))]) hx hb d_Progress_perform_22 hl (by decide) rfl ?_
  clear hl ls
  intro ls hl
  refine lv_aload_n hx hb d_Progress_perform_24 rfl (lv_at hl 3 rfl) ?_
  refine va_get (D := (dC, dI)) (ci := 1) (v := .ref pa) (C := R_Progress) (T := F_Progress) (N := 6) hx hb hw i_Progress hown hK hP 0 rfl rfl 0 (by decide) (hw _ m_203) (fun _ h9 => h9) rfl d_Progress_perform_25 ?_
  refine va_get (D := (dC, dI)) (ci := 0) (v := .ref (pA 4)) (C := R_Program) (T := F_Program) (N := 13) hx hb hw i_Program hown hK hP 4 rfl rfl 4 (by decide) (hw _ m_142) (fun _ h9 => h9) rfl d_Progress_perform_28 ?_
  refine lv_iload_n hx hb d_Progress_perform_31 rfl (lv_at hl 4 rfl) ?_
  refine va_iald (D := (dC, dI)) hx hb hK hP 6 4 rfl rfl (i := nI a) (pk_in a 7 (by omega)) d_Progress_perform_32 ?_
  refine tp_i (y := nI ((pg 4) a)) (by rw [show (nI a : Int32).toNatClampNeg = a from pk_cl a]) ?_
  refine tp_i (y := 3) (by rw [hk]; rfl) ?_
  refine lv_tableIn (x := 3) (tgt := 120) hx hb d_Progress_perform_33 (by decide) (by decide) (by rfl) (by decide) ?_
  refine tp_pc (pc' := 120) (by rfl) ?_
  refine lv_aload_n hx hb d_Progress_perform_120 rfl (lv_at hl 3 rfl) ?_
  refine va_get (D := (dC, dI)) (ci := 1) (v := .ref g2) (C := R_Progress) (T := F_Progress) (N := 6) hx hb hw i_Progress hown hK hP 0 rfl rfl 2 (by decide) (hw _ m_206) (fun _ h9 => h9) rfl d_Progress_perform_121 ?_
  refine lv_iload_n hx hb d_Progress_perform_124 rfl (lv_at hl 2 rfl) ?_
  refine lv_aload_n hx hb d_Progress_perform_125 rfl (lv_at hl 3 rfl) ?_
  refine va_get (D := (dC, dI)) (ci := 1) (v := .ref g3) (C := R_Progress) (T := F_Progress) (N := 6) hx hb hw i_Progress hown hK hP 0 rfl rfl 3 (by decide) (hw _ m_207) (fun _ h9 => h9) rfl d_Progress_perform_126 ?_
  refine lv_iload_n hx hb d_Progress_perform_129 rfl (lv_at hl 5 rfl) ?_
  refine va_iald (D := (dC, dI)) hx hb hK hP 3 2 rfl rfl (i := nI s9) (pk_in s9 8 (by omega)) d_Progress_perform_130 ?_
  refine tp_i (y := vl s9) (by rw [show (nI s9 : Int32).toNatClampNeg = s9 from pk_cl s9]) ?_
  refine va_iast (D := (dC, dI)) hx hb hK hP (dd_D hD rfl) hS 2 1 rfl rfl (i := nI ((pg 6) a)) (x := vl s9) (pk_in ((pg 6) a) 8 (by omega)) d_Progress_perform_131 ?_
  clear hP hS
  intro H locs hP _ hS
  rw [show (nI ((pg 6) a) : Int32).toNatClampNeg = (pg 6) a from pk_cl ((pg 6) a)] at hP
  replace hP : va_P (dC, dI) classes [oc ga 1 [.ref pa, .ref g1, .ref g2, .ref g3, .int (nI dn), .long so], ia g1 l1 4 (fun i => nI (pl i)), ia g2 l2 8 (upd rg ((pg 6) a) (vl s9)), ia g3 l3 8 vl, oc pa 0 [.ref (pA 0), .ref (pA 1), .ref (pA 2), .ref (pA 3), .ref (pA 4), .ref (pA 5), .ref (pA 6), .ref (pA 7), .ref (pA 8), .ref (pA 9), .ref (pA 10), .int (nI T), .int (nI Ac)], ia (pA 2) (pK 2) 7 (fun i => nI ((pg 2) i)), ia (pA 4) (pK 4) 7 (fun i => nI ((pg 4) i)), ia (pA 5) (pK 5) 7 (fun i => nI ((pg 5) i)), ia (pA 6) (pK 6) 7 (fun i => nI ((pg 6) i)), ia (pA 7) (pK 7) 7 nm] H := hP
  refine tp_pc (pc' := 132) (by rfl) ?_
  refine lv_aload_n hx hb d_Progress_perform_132 rfl (lv_at hl 3 rfl) ?_
  refine va_get (D := (dC, dI)) (ci := 1) (v := .ref g3) (C := R_Progress) (T := F_Progress) (N := 6) hx hb hw i_Progress hown hK hP 0 rfl rfl 3 (by decide) (hw _ m_207) (fun _ h9 => h9) rfl d_Progress_perform_133 ?_
  refine lv_iload_n hx hb d_Progress_perform_136 rfl (lv_at hl 4 rfl) ?_
  refine lv_iconst (v := 1) hx hb d_Progress_perform_137 (by decide) ?_
  refine lv_iadd hx hb d_Progress_perform_138 ?_
  refine tp_i (y := nI (a + 1)) (by exact nI_add a 1) ?_
  refine lv_aload_n hx hb d_Progress_perform_139 rfl (lv_at hl 3 rfl) ?_
  refine va_get (D := (dC, dI)) (ci := 1) (v := .ref g2) (C := R_Progress) (T := F_Progress) (N := 6) hx hb hw i_Progress hown hK hP 0 rfl rfl 2 (by decide) (hw _ m_206) (fun _ h9 => h9) rfl d_Progress_perform_140 ?_
  refine lv_iload_n hx hb d_Progress_perform_143 rfl (lv_at hl 2 rfl) ?_
  refine va_iald (D := (dC, dI)) hx hb hK hP 2 1 rfl rfl (i := nI ((pg 6) a)) (pk_in ((pg 6) a) 8 (by omega)) d_Progress_perform_144 ?_
  refine tp_i (y := (upd rg ((pg 6) a) (vl s9)) ((pg 6) a)) (by rw [show (nI ((pg 6) a) : Int32).toNatClampNeg = (pg 6) a from pk_cl ((pg 6) a)]) ?_
  refine lv_iload hx hb d_Progress_perform_145 (lv_at hl 1 rfl) ?_
  refine lv_iadd hx hb d_Progress_perform_147 ?_
  refine tp_i (y := ((upd rg ((pg 6) a) (vl s9)) ((pg 6) a)) + (nm a)) rfl ?_
  refine va_iast (D := (dC, dI)) hx hb hK hP (dd_D hD rfl) hS 3 2 rfl rfl (i := nI (a + 1)) (x := ((upd rg ((pg 6) a) (vl s9)) ((pg 6) a)) + (nm a)) (pk_in (a + 1) 8 (by omega)) d_Progress_perform_148 ?_
  clear hP hS locs H
  intro H locs hP _ hS
  rw [show (nI (a + 1) : Int32).toNatClampNeg = a + 1 from pk_cl (a + 1)] at hP
  replace hP : va_P (dC, dI) classes [oc ga 1 [.ref pa, .ref g1, .ref g2, .ref g3, .int (nI dn), .long so], ia g1 l1 4 (fun i => nI (pl i)), ia g2 l2 8 (upd rg ((pg 6) a) (vl s9)), ia g3 l3 8 (upd vl (a + 1) (((upd rg ((pg 6) a) (vl s9)) ((pg 6) a)) + (nm a))), oc pa 0 [.ref (pA 0), .ref (pA 1), .ref (pA 2), .ref (pA 3), .ref (pA 4), .ref (pA 5), .ref (pA 6), .ref (pA 7), .ref (pA 8), .ref (pA 9), .ref (pA 10), .int (nI T), .int (nI Ac)], ia (pA 2) (pK 2) 7 (fun i => nI ((pg 2) i)), ia (pA 4) (pK 4) 7 (fun i => nI ((pg 4) i)), ia (pA 5) (pK 5) 7 (fun i => nI ((pg 5) i)), ia (pA 6) (pK 6) 7 (fun i => nI ((pg 6) i)), ia (pA 7) (pK 7) 7 nm] H := hP
  refine tp_pc (pc' := 149) (by rfl) ?_
  refine lv_goto (tgt := 184) hx hb d_Progress_perform_149 (by decide) ?_
  refine tp_pc (pc' := 184) (by rfl) ?_
  refine lv_aload_n hx hb d_Progress_perform_184 rfl (lv_at hl 3 rfl) ?_
  refine va_get (D := (dC, dI)) (ci := 1) (v := .ref g1) (C := R_Progress) (T := F_Progress) (N := 6) hx hb hw i_Progress hown hK hP 0 rfl rfl 1 (by decide) (hw _ m_204) (fun _ h9 => h9) rfl d_Progress_perform_185 ?_
  refine lv_aload_n hx hb d_Progress_perform_188 rfl (lv_at hl 3 rfl) ?_
  refine va_get (D := (dC, dI)) (ci := 1) (v := .ref pa) (C := R_Progress) (T := F_Progress) (N := 6) hx hb hw i_Progress hown hK hP 0 rfl rfl 0 (by decide) (hw _ m_203) (fun _ h9 => h9) rfl d_Progress_perform_189 ?_
  refine va_get (D := (dC, dI)) (ci := 0) (v := .ref (pA 2)) (C := R_Program) (T := F_Program) (N := 13) hx hb hw i_Program hown hK hP 4 rfl rfl 2 (by decide) (hw _ m_132) (fun _ h9 => h9) rfl d_Progress_perform_192 ?_
  refine lv_iload_n hx hb d_Progress_perform_195 rfl (lv_at hl 4 rfl) ?_
  refine va_iald (D := (dC, dI)) hx hb hK hP 5 3 rfl rfl (i := nI a) (pk_in a 7 (by omega)) d_Progress_perform_196 ?_
  refine tp_i (y := nI ((pg 2) a)) (by rw [show (nI a : Int32).toNatClampNeg = a from pk_cl a]) ?_
  refine lv_dup2_11 hx hb d_Progress_perform_197 rfl rfl ?_
  refine va_iald (D := (dC, dI)) hx hb hK hP 1 0 rfl rfl (i := nI ((pg 2) a)) (pk_in ((pg 2) a) 4 (by omega)) d_Progress_perform_198 ?_
  refine tp_i (y := nI (pl ((pg 2) a))) (by rw [show (nI ((pg 2) a) : Int32).toNatClampNeg = (pg 2) a from pk_cl ((pg 2) a)]) ?_
  refine lv_iload hx hb d_Progress_perform_199 (lv_at hl 0 rfl) ?_
  refine lv_iadd hx hb d_Progress_perform_201 ?_
  refine tp_i (y := nI (pl ((pg 2) a) + 1)) (by exact nI_add (pl ((pg 2) a)) 1) ?_
  refine va_iast (D := (dC, dI)) hx hb hK hP (dd_D hD rfl) hS 1 0 rfl rfl (i := nI ((pg 2) a)) (x := nI (pl ((pg 2) a) + 1)) (pk_in ((pg 2) a) 4 (by omega)) d_Progress_perform_202 ?_
  clear hP hS locs H
  intro H locs hP _ hS
  rw [show (nI ((pg 2) a) : Int32).toNatClampNeg = (pg 2) a from pk_cl ((pg 2) a)] at hP
  rw [show upd (fun i => nI (pl i)) ((pg 2) a) (nI (pl ((pg 2) a) + 1)) = fun i => nI (updN pl ((pg 2) a) (pl ((pg 2) a) + 1) i) from upd_nI] at hP
  replace hP : va_P (dC, dI) classes [oc ga 1 [.ref pa, .ref g1, .ref g2, .ref g3, .int (nI dn), .long so], ia g1 l1 4 (fun i => nI ((updN pl ((pg 2) a) (pl ((pg 2) a) + 1)) i)), ia g2 l2 8 (upd rg ((pg 6) a) (vl s9)), ia g3 l3 8 (upd vl (a + 1) (((upd rg ((pg 6) a) (vl s9)) ((pg 6) a)) + (nm a))), oc pa 0 [.ref (pA 0), .ref (pA 1), .ref (pA 2), .ref (pA 3), .ref (pA 4), .ref (pA 5), .ref (pA 6), .ref (pA 7), .ref (pA 8), .ref (pA 9), .ref (pA 10), .int (nI T), .int (nI Ac)], ia (pA 2) (pK 2) 7 (fun i => nI ((pg 2) i)), ia (pA 4) (pK 4) 7 (fun i => nI ((pg 4) i)), ia (pA 5) (pK 5) 7 (fun i => nI ((pg 5) i)), ia (pA 6) (pK 6) 7 (fun i => nI ((pg 6) i)), ia (pA 7) (pK 7) 7 nm] H := hP
  refine tp_pc (pc' := 203) (by rfl) ?_
  refine lv_aload_n hx hb d_Progress_perform_203 rfl (lv_at hl 3 rfl) ?_
  refine lv_dup hx hb d_Progress_perform_204 rfl ?_
  refine va_get (D := (dC, dI)) (ci := 1) (v := .int (nI dn)) (C := R_Progress) (T := F_Progress) (N := 6) hx hb hw i_Progress hown hK hP 0 rfl rfl 4 (by decide) (hw _ m_208) (fun _ h9 => h9) rfl d_Progress_perform_205 ?_
  refine lv_iconst (v := 1) hx hb d_Progress_perform_208 (by decide) ?_
  refine lv_iload_n hx hb d_Progress_perform_209 rfl (lv_at hl 4 rfl) ?_
  refine lv_ishl hx hb d_Progress_perform_210 ?_
  refine tp_i (y := 1 <<< ((nI a) &&& 31)) rfl ?_
  refine lv_ior hx hb d_Progress_perform_211 ?_
  refine tp_i (y := (nI dn) ||| (1 <<< ((nI a) &&& 31))) rfl ?_
  refine tp_i (y := nI (dn ||| 2 ^ a)) (set_eq dn hdn a ha) ?_
  refine va_put (D := (dC, dI)) (ci := 1) (v := .int (nI (dn ||| 2 ^ a))) (ty := .int) (C := R_Progress) (T := F_Progress) (N := 6) hx hb hw i_Progress t_Progress t_Progress_ok n_Progress hown hK hP (dd_D hD rfl) hS 0 rfl rfl 4 (by decide) (hw _ m_208) (fun _ h9 => h9) rfl (by decide +kernel) rfl rfl (Nat.le_of_ble_eq_true rfl) d_Progress_perform_212 ?_
  clear hP hS locs H
  intro H locs (hP : va_P (dC, dI) classes [oc ga 1 [.ref pa, .ref g1, .ref g2, .ref g3, .int (nI (dn ||| 2 ^ a)), .long so], ia g1 l1 4 (fun i => nI ((updN pl ((pg 2) a) (pl ((pg 2) a) + 1)) i)), ia g2 l2 8 (upd rg ((pg 6) a) (vl s9)), ia g3 l3 8 (upd vl (a + 1) (((upd rg ((pg 6) a) (vl s9)) ((pg 6) a)) + (nm a))), oc pa 0 [.ref (pA 0), .ref (pA 1), .ref (pA 2), .ref (pA 3), .ref (pA 4), .ref (pA 5), .ref (pA 6), .ref (pA 7), .ref (pA 8), .ref (pA 9), .ref (pA 10), .int (nI T), .int (nI Ac)], ia (pA 2) (pK 2) 7 (fun i => nI ((pg 2) i)), ia (pA 4) (pK 4) 7 (fun i => nI ((pg 4) i)), ia (pA 5) (pK 5) 7 (fun i => nI ((pg 5) i)), ia (pA 6) (pK 6) 7 (fun i => nI ((pg 6) i)), ia (pA 7) (pK 7) 7 nm] H) _ hS
  refine tp_pc (pc' := 215) (by rfl) ?_
  refine lv_aload_n hx hb d_Progress_perform_215 rfl (lv_at hl 3 rfl) ?_
  refine lv_dup hx hb d_Progress_perform_216 rfl ?_
  refine va_get (D := (dC, dI)) (ci := 1) (v := .long so) (C := R_Progress) (T := F_Progress) (N := 6) hx hb hw i_Progress hown hK hP 0 rfl rfl 5 (by decide) (hw _ m_210) (fun _ h9 => h9) rfl d_Progress_perform_217 ?_
  refine lv_iload_n hx hb d_Progress_perform_220 rfl (lv_at hl 5 rfl) ?_
  refine lv_i2l (v := (nI s9).toInt64) hx hb d_Progress_perform_221 rfl ?_
  refine lv_iconst (v := 3) hx hb d_Progress_perform_222 (by decide) ?_
  refine lv_iload_n hx hb d_Progress_perform_223 rfl (lv_at hl 4 rfl) ?_
  refine lv_imul hx hb d_Progress_perform_224 ?_
  refine tp_i (y := nI (3 * a)) (by exact pk_mul 3 a) ?_
  refine lv_lshl (v := ((nI s9).toInt64) <<< (((nI (3 * a)) : Int32).toInt64 &&& 63)) hx hb d_Progress_perform_225 rfl ?_
  refine lv_lor hx hb d_Progress_perform_226 ?_
  refine tp_l (y := so ||| (((nI s9).toInt64) <<< (((nI (3 * a)) : Int32).toInt64 &&& 63))) rfl ?_
  refine tp_l (y := srcP so s9 a) rfl ?_
  refine va_put (D := (dC, dI)) (ci := 1) (v := .long (srcP so s9 a)) (ty := .long) (C := R_Progress) (T := F_Progress) (N := 6) hx hb hw i_Progress t_Progress t_Progress_ok n_Progress hown hK hP (dd_D hD rfl) hS 0 rfl rfl 5 (by decide) (hw _ m_210) (fun _ h9 => h9) rfl (by decide +kernel) rfl rfl (Nat.le_of_ble_eq_true rfl) d_Progress_perform_227 ?_
  clear hP hS locs H
  intro H locs (hP : va_P (dC, dI) classes [oc ga 1 [.ref pa, .ref g1, .ref g2, .ref g3, .int (nI (dn ||| 2 ^ a)), .long (srcP so s9 a)], ia g1 l1 4 (fun i => nI ((updN pl ((pg 2) a) (pl ((pg 2) a) + 1)) i)), ia g2 l2 8 (upd rg ((pg 6) a) (vl s9)), ia g3 l3 8 (upd vl (a + 1) (((upd rg ((pg 6) a) (vl s9)) ((pg 6) a)) + (nm a))), oc pa 0 [.ref (pA 0), .ref (pA 1), .ref (pA 2), .ref (pA 3), .ref (pA 4), .ref (pA 5), .ref (pA 6), .ref (pA 7), .ref (pA 8), .ref (pA 9), .ref (pA 10), .int (nI T), .int (nI Ac)], ia (pA 2) (pK 2) 7 (fun i => nI ((pg 2) i)), ia (pA 4) (pK 4) 7 (fun i => nI ((pg 4) i)), ia (pA 5) (pK 5) 7 (fun i => nI ((pg 5) i)), ia (pA 6) (pK 6) 7 (fun i => nI ((pg 6) i)), ia (pA 7) (pK 7) 7 nm] H) _ hS
  refine tp_pc (pc' := 230) (by rfl) ?_
  obtain ⟨hP9, hD9, -⟩ := cut3 (wc := [oc ga 1 [.ref pa, .ref g1, .ref g2, .ref g3, .int (nI (dn ||| 2 ^ a)), .long (srcP so s9 a)], ia g1 l1 4 (fun i => nI ((updN pl ((pg 2) a) (pl ((pg 2) a) + 1)) i)), ia g2 l2 8 (upd rg ((pg 6) a) (vl s9)), ia g3 l3 8 (upd vl (a + 1) (((upd rg ((pg 6) a) (vl s9)) ((pg 6) a)) + (nm a))), oc pa 0 [.ref (pA 0), .ref (pA 1), .ref (pA 2), .ref (pA 3), .ref (pA 4), .ref (pA 5), .ref (pA 6), .ref (pA 7), .ref (pA 8), .ref (pA 9), .ref (pA 10), .int (nI T), .int (nI Ac)], ia (pA 2) (pK 2) 7 (fun i => nI ((pg 2) i)), ia (pA 4) (pK 4) 7 (fun i => nI ((pg 4) i)), ia (pA 5) (pK 5) 7 (fun i => nI ((pg 5) i)), ia (pA 6) (pK 6) 7 (fun i => nI ((pg 6) i)), ia (pA 7) (pK 7) 7 nm]) hP hD rfl hS hA [0, 1, 2, 3, 4, 5, 6, 7, 8, 9] (by decide +kernel) rfl
  have hK9 := hK.sub (tys' := []) [] rfl
  refine W.widen (k := 0) (n := 0) (by exact Nat.le_of_ble_eq_true rfl) (by exact Nat.le_of_ble_eq_true rfl) ?_
  exact W.vret hx hb hr (fun t9 ht9 hW => ⟨⟨(), rfl, trivial, by rw [ht9]; exact hP9, va_K.moved hW.alike hK9, hD9⟩, hS.F ht9⟩) hS.2.2 d_Progress_perform_230
set_option maxHeartbeats 4000000 in
set_option maxRecDepth 100000 in
theorem gen_Progress_perform_4 (l : Launch) (dC : Nat → ClassId) (dI : Nat → Nat → Nat) (pa : Nat) (pA : Nat → Nat) (pK : Nat → ClassId) (T Ac : Nat) (pg : Nat → Nat → Nat) (nm : Nat → Int32) (ga g1 g2 g3 : Nat) (l1 l2 l3 : ClassId) (dn : Nat) (so : Int64) (pl : Nat → Nat) (rg vl : Nat → Int32) (a s9 : Nat) (ha : a < 7) (hs8 : s9 < 8) (hdn : dn < 128) (h2 : pg 2 a < 4) (hpl : pl (pg 2 a) < 1000) (h5 : pg 5 a < 1000) (h8 : pg 6 a < 8) (hk : pg 4 a = 4) (sz : Nat) : Met l y_Progress_perform w_Progress_perform ({ frames := 0, cells := 0, slots := 0, locals := 0 }) (va_Pc [.ref ga, .int (nI a), .int (nI s9)] (fun U => U.heap.size = sz ∧ va_P (dC, dI) classes [oc ga 1 [.ref pa, .ref g1, .ref g2, .ref g3, .int (nI dn), .long so], ia g1 l1 4 (fun i => nI (pl i)), ia g2 l2 8 rg, ia g3 l3 8 vl, oc pa 0 [.ref (pA 0), .ref (pA 1), .ref (pA 2), .ref (pA 3), .ref (pA 4), .ref (pA 5), .ref (pA 6), .ref (pA 7), .ref (pA 8), .ref (pA 9), .ref (pA 10), .int (nI T), .int (nI Ac)], ia (pA 2) (pK 2) 7 (fun i => nI ((pg 2) i)), ia (pA 4) (pK 4) 7 (fun i => nI ((pg 4) i)), ia (pA 5) (pK 5) 7 (fun i => nI ((pg 5) i)), ia (pA 6) (pK 6) 7 (fun i => nI ((pg 6) i)), ia (pA 7) (pK 7) 7 nm] U.heap ∧ va_K (dC, dI) classes [(l1, .int), (l2, .int), (l3, .int), ((pK 2), .int), ((pK 4), .int), ((pK 5), .int), ((pK 6), .int), ((pK 7), .int)] U ∧ va_D (fun _ => True) [oc ga 1 [.ref pa, .ref g1, .ref g2, .ref g3, .int (nI dn), .long so], ia g1 l1 4 (fun i => nI (pl i)), ia g2 l2 8 rg, ia g3 l3 8 vl, oc pa 0 [.ref (pA 0), .ref (pA 1), .ref (pA 2), .ref (pA 3), .ref (pA 4), .ref (pA 5), .ref (pA 6), .ref (pA 7), .ref (pA 8), .ref (pA 9), .ref (pA 10), .int (nI T), .int (nI Ac)], ia (pA 2) (pK 2) 7 (fun i => nI ((pg 2) i)), ia (pA 4) (pK 4) 7 (fun i => nI ((pg 4) i)), ia (pA 5) (pK 5) 7 (fun i => nI ((pg 5) i)), ia (pA 6) (pK 6) 7 (fun i => nI ((pg 6) i)), ia (pA 7) (pK 7) 7 nm] ∧ nw U)) (va_Qv (fun _ : Unit => True) (fun _ t9 => va_P (dC, dI) classes [oc ga 1 [.ref pa, .ref g1, .ref g2, .ref g3, .int (nI (dn ||| 2 ^ a)), .long (srcP so s9 a)], ia g1 l1 4 (fun i => nI ((updN pl (pg 2 a) (pl (pg 2 a) + 1)) i)), ia g2 l2 8 rg, ia g3 l3 8 vl, oc pa 0 [.ref (pA 0), .ref (pA 1), .ref (pA 2), .ref (pA 3), .ref (pA 4), .ref (pA 5), .ref (pA 6), .ref (pA 7), .ref (pA 8), .ref (pA 9), .ref (pA 10), .int (nI T), .int (nI Ac)], ia (pA 2) (pK 2) 7 (fun i => nI ((pg 2) i)), ia (pA 4) (pK 4) 7 (fun i => nI ((pg 4) i)), ia (pA 5) (pK 5) 7 (fun i => nI ((pg 5) i)), ia (pA 6) (pK 6) 7 (fun i => nI ((pg 6) i)), ia (pA 7) (pK 7) 7 nm] t9.heap ∧ va_K (dC, dI) classes [] t9 ∧ va_D (va_A [oc ga 1 [.ref pa, .ref g1, .ref g2, .ref g3, .int (nI dn), .long so], ia g1 l1 4 (fun i => nI (pl i)), ia g2 l2 8 rg, ia g3 l3 8 vl, oc pa 0 [.ref (pA 0), .ref (pA 1), .ref (pA 2), .ref (pA 3), .ref (pA 4), .ref (pA 5), .ref (pA 6), .ref (pA 7), .ref (pA 8), .ref (pA 9), .ref (pA 10), .int (nI T), .int (nI Ac)], ia (pA 2) (pK 2) 7 (fun i => nI ((pg 2) i)), ia (pA 4) (pK 4) 7 (fun i => nI ((pg 4) i)), ia (pA 5) (pK 5) 7 (fun i => nI ((pg 5) i)), ia (pA 6) (pK 6) 7 (fun i => nI ((pg 6) i)), ia (pA 7) (pK 7) 7 nm] sz) [oc ga 1 [.ref pa, .ref g1, .ref g2, .ref g3, .int (nI (dn ||| 2 ^ a)), .long (srcP so s9 a)], ia g1 l1 4 (fun i => nI ((updN pl (pg 2 a) (pl (pg 2 a) + 1)) i)), ia g2 l2 8 rg, ia g3 l3 8 vl, oc pa 0 [.ref (pA 0), .ref (pA 1), .ref (pA 2), .ref (pA 3), .ref (pA 4), .ref (pA 5), .ref (pA 6), .ref (pA 7), .ref (pA 8), .ref (pA 9), .ref (pA 10), .int (nI T), .int (nI Ac)], ia (pA 2) (pK 2) 7 (fun i => nI ((pg 2) i)), ia (pA 4) (pK 4) 7 (fun i => nI ((pg 4) i)), ia (pA 5) (pK 5) 7 (fun i => nI ((pg 5) i)), ia (pA 6) (pK 6) 7 (fun i => nI ((pg 6) i)), ia (pA 7) (pK 7) 7 nm]) (va_A [oc ga 1 [.ref pa, .ref g1, .ref g2, .ref g3, .int (nI dn), .long so], ia g1 l1 4 (fun i => nI (pl i)), ia g2 l2 8 rg, ia g3 l3 8 vl, oc pa 0 [.ref (pA 0), .ref (pA 1), .ref (pA 2), .ref (pA 3), .ref (pA 4), .ref (pA 5), .ref (pA 6), .ref (pA 7), .ref (pA 8), .ref (pA 9), .ref (pA 10), .int (nI T), .int (nI Ac)], ia (pA 2) (pK 2) 7 (fun i => nI ((pg 2) i)), ia (pA 4) (pK 4) 7 (fun i => nI ((pg 4) i)), ia (pA 5) (pK 5) 7 (fun i => nI ((pg 5) i)), ia (pA 6) (pK 6) 7 (fun i => nI ((pg 6) i)), ia (pA 7) (pK 7) 7 nm] sz)) 0 0 (va_A [oc ga 1 [.ref pa, .ref g1, .ref g2, .ref g3, .int (nI dn), .long so], ia g1 l1 4 (fun i => nI (pl i)), ia g2 l2 8 rg, ia g3 l3 8 vl, oc pa 0 [.ref (pA 0), .ref (pA 1), .ref (pA 2), .ref (pA 3), .ref (pA 4), .ref (pA 5), .ref (pA 6), .ref (pA 7), .ref (pA 8), .ref (pA 9), .ref (pA 10), .int (nI T), .int (nI Ac)], ia (pA 2) (pK 2) 7 (fun i => nI ((pg 2) i)), ia (pA 4) (pK 4) 7 (fun i => nI ((pg 4) i)), ia (pA 5) (pK 5) 7 (fun i => nI ((pg 5) i)), ia (pA 6) (pK 6) 7 (fun i => nI ((pg 6) i)), ia (pA 7) (pK 7) 7 nm] sz) := by
  refine Met.ofW (cc := b_Progress_perform) (maxL := 6) (ret := none) (by decide) rfl ?_
  intro p e0 s m args below meth c s₁ B hml hv
  obtain ⟨rfl, hsz, hP, hK, hD0, hn⟩ := hv
  have hx := B.exec
  have hb := B.bytes
  have hr := B.returns
  have hw := fun w (h : w ∈ wt) => atoms_spec (ws := w_Progress_perform) B.pre w (List.mem_cons_of_mem _ h)
  have hown : s.vm.findClass R_Progress = some m.cls := findClass_of_methodNamed B.named
  have hlocks := B.notSynchronized
  subst hsz
  have hD1 := hD0.self (sz := s.heap.size)
  generalize hAe : va_A [oc ga 1 [.ref pa, .ref g1, .ref g2, .ref g3, .int (nI dn), .long so], ia g1 l1 4 (fun i => nI (pl i)), ia g2 l2 8 rg, ia g3 l3 8 vl, oc pa 0 [.ref (pA 0), .ref (pA 1), .ref (pA 2), .ref (pA 3), .ref (pA 4), .ref (pA 5), .ref (pA 6), .ref (pA 7), .ref (pA 8), .ref (pA 9), .ref (pA 10), .int (nI T), .int (nI Ac)], ia (pA 2) (pK 2) 7 (fun i => nI ((pg 2) i)), ia (pA 4) (pK 4) 7 (fun i => nI ((pg 4) i)), ia (pA 5) (pK 5) 7 (fun i => nI ((pg 5) i)), ia (pA 6) (pK 6) 7 (fun i => nI ((pg 6) i)), ia (pA 7) (pK 7) 7 nm] s.heap.size = A at hD1 ⊢
  have hA : ∀ q : Nat, s.heap.size ≤ q → A q := fun q h => by rw [← hAe]; exact Or.inr h
  have hD : dd A [ga, g1, g2, g3, pa, (pA 2), (pA 4), (pA 5), (pA 6), (pA 7)] := dd_of hD1 rfl
  clear hAe hD0 hD1
  have hS : va_S A s.heap s.heap [] := va_S.rf
  replace hP : va_P (dC, dI) classes [oc ga 1 [.ref pa, .ref g1, .ref g2, .ref g3, .int (nI dn), .long so], ia g1 l1 4 (fun i => nI (pl i)), ia g2 l2 8 rg, ia g3 l3 8 vl, oc pa 0 [.ref (pA 0), .ref (pA 1), .ref (pA 2), .ref (pA 3), .ref (pA 4), .ref (pA 5), .ref (pA 6), .ref (pA 7), .ref (pA 8), .ref (pA 9), .ref (pA 10), .int (nI T), .int (nI Ac)], ia (pA 2) (pK 2) 7 (fun i => nI ((pg 2) i)), ia (pA 4) (pK 4) 7 (fun i => nI ((pg 4) i)), ia (pA 5) (pK 5) 7 (fun i => nI ((pg 5) i)), ia (pA 6) (pK 6) 7 (fun i => nI ((pg 6) i)), ia (pA 7) (pK 7) 7 nm] s.heap := hP
  have hl := lv_entry ([.ref ga, .int (nI a), .int (nI s9)]) (n := 6) (Nat.le_of_ble_eq_true rfl)
  rw [lg_entry_eq]
  generalize (lg_sl ([.ref ga, .int (nI a), .int (nI s9)]) ++ List.replicate (6 - (lg_sl ([.ref ga, .int (nI a), .int (nI s9)])).length) Slot.unset).toArray = ls at hl ⊢
  replace hl : lv_has ls 6 [(0, .ref ga), (1, .int (nI a)), (2, .int (nI s9))] := hl
  refine lv_aload_n hx hb d_Progress_perform_0 rfl (lv_at hl 0 rfl) ?_
  refine va_get (D := (dC, dI)) (ci := 1) (v := .ref pa) (C := R_Progress) (T := F_Progress) (N := 6) hx hb hw i_Progress hown hK hP 0 rfl rfl 0 (by decide) (hw _ m_203) (fun _ h9 => h9) rfl d_Progress_perform_1 ?_
  refine va_get (D := (dC, dI)) (ci := 0) (v := .ref (pA 6)) (C := R_Program) (T := F_Program) (N := 13) hx hb hw i_Program hown hK hP 4 rfl rfl 6 (by decide) (hw _ m_149) (fun _ h9 => h9) rfl d_Progress_perform_4 ?_
  refine lv_iload_n hx hb d_Progress_perform_7 rfl (lv_at hl 1 rfl) ?_
  refine va_iald (D := (dC, dI)) hx hb hK hP 8 6 rfl rfl (i := nI a) (pk_in a 7 (by omega)) d_Progress_perform_8 ?_
  refine tp_i (y := nI ((pg 6) a)) (by rw [show (nI a : Int32).toNatClampNeg = a from pk_cl a]) ?_
  refine lv_istore_n (lv' := [(3, .int (nI ((pg 6) a))), (0, .ref ga), (1, .int (nI a)), (2, .int (nI s9))]) hx hb d_Progress_perform_9 rfl hl (by decide) rfl ?_
  clear hl ls
  intro ls hl
  refine lv_aload_n hx hb d_Progress_perform_10 rfl (lv_at hl 1 rfl) ?_
  refine va_get (D := (dC, dI)) (ci := 1) (v := .ref pa) (C := R_Progress) (T := F_Progress) (N := 6) hx hb hw i_Progress hown hK hP 0 rfl rfl 0 (by decide) (hw _ m_203) (fun _ h9 => h9) rfl d_Progress_perform_11 ?_
  refine va_get (D := (dC, dI)) (ci := 0) (v := .ref (pA 7)) (C := R_Program) (T := F_Program) (N := 13) hx hb hw i_Program hown hK hP 4 rfl rfl 7 (by decide) (hw _ m_151) (fun _ h9 => h9) rfl d_Progress_perform_14 ?_
  refine lv_iload_n hx hb d_Progress_perform_17 rfl (lv_at hl 2 rfl) ?_
  refine va_iald (D := (dC, dI)) hx hb hK hP 9 7 rfl rfl (i := nI a) (pk_in a 7 (by omega)) d_Progress_perform_18 ?_
  refine tp_i (y := nm a) (by rw [show (nI a : Int32).toNatClampNeg = a from pk_cl a]) ?_
  refine lv_istore (lv' := [(4, .int (nm a)), (3, .int (nI ((pg 6) a))), (0, .ref ga), (1, .int (nI a)), (2, .int (nI s9))]) hx hb d_Progress_perform_19 hl (by decide) rfl ?_
  clear hl ls
  intro ls hl
  refine lv_iconst (v := 1) hx hb d_Progress_perform_21 (by decide) ?_
  refine lv_istore (lv' := [(5, .int 1), (4, .int (nm a)), (3, .int (nI ((pg 6) a))), (0, .ref ga), (1, .int (nI a)), (2, .int (nI s9))]) hx hb d_Progress_perform_22 hl (by decide) rfl ?_
  clear hl ls
  intro ls hl
  refine lv_aload_n hx hb d_Progress_perform_24 rfl (lv_at hl 3 rfl) ?_
  refine va_get (D := (dC, dI)) (ci := 1) (v := .ref pa) (C := R_Progress) (T := F_Progress) (N := 6) hx hb hw i_Progress hown hK hP 0 rfl rfl 0 (by decide) (hw _ m_203) (fun _ h9 => h9) rfl d_Progress_perform_25 ?_
  refine va_get (D := (dC, dI)) (ci := 0) (v := .ref (pA 4)) (C := R_Program) (T := F_Program) (N := 13) hx hb hw i_Program hown hK hP 4 rfl rfl 4 (by decide) (hw _ m_142) (fun _ h9 => h9) rfl d_Progress_perform_28 ?_
  refine lv_iload_n hx hb d_Progress_perform_31 rfl (lv_at hl 4 rfl) ?_
  refine va_iald (D := (dC, dI)) hx hb hK hP 6 4 rfl rfl (i := nI a) (pk_in a 7 (by omega)) d_Progress_perform_32 ?_
  refine tp_i (y := nI ((pg 4) a)) (by rw [show (nI a : Int32).toNatClampNeg = a from pk_cl a]) ?_
  refine tp_i (y := 4) (by rw [hk]; rfl) ?_
  refine lv_tableIn (x := 4) (tgt := 184) hx hb d_Progress_perform_33 (by decide) (by decide) (by rfl) (by decide) ?_
  refine tp_pc (pc' := 184) (by rfl) ?_
  refine lv_aload_n hx hb d_Progress_perform_184 rfl (lv_at hl 3 rfl) ?_
  refine va_get (D := (dC, dI)) (ci := 1) (v := .ref g1) (C := R_Progress) (T := F_Progress) (N := 6) hx hb hw i_Progress hown hK hP 0 rfl rfl 1 (by decide) (hw _ m_204) (fun _ h9 => h9) rfl d_Progress_perform_185 ?_
  refine lv_aload_n hx hb d_Progress_perform_188 rfl (lv_at hl 3 rfl) ?_
  refine va_get (D := (dC, dI)) (ci := 1) (v := .ref pa) (C := R_Progress) (T := F_Progress) (N := 6) hx hb hw i_Progress hown hK hP 0 rfl rfl 0 (by decide) (hw _ m_203) (fun _ h9 => h9) rfl d_Progress_perform_189 ?_
  refine va_get (D := (dC, dI)) (ci := 0) (v := .ref (pA 2)) (C := R_Program) (T := F_Program) (N := 13) hx hb hw i_Program hown hK hP 4 rfl rfl 2 (by decide) (hw _ m_132) (fun _ h9 => h9) rfl d_Progress_perform_192 ?_
  refine lv_iload_n hx hb d_Progress_perform_195 rfl (lv_at hl 4 rfl) ?_
  refine va_iald (D := (dC, dI)) hx hb hK hP 5 3 rfl rfl (i := nI a) (pk_in a 7 (by omega)) d_Progress_perform_196 ?_
  refine tp_i (y := nI ((pg 2) a)) (by rw [show (nI a : Int32).toNatClampNeg = a from pk_cl a]) ?_
  refine lv_dup2_11 hx hb d_Progress_perform_197 rfl rfl ?_
  refine va_iald (D := (dC, dI)) hx hb hK hP 1 0 rfl rfl (i := nI ((pg 2) a)) (pk_in ((pg 2) a) 4 (by omega)) d_Progress_perform_198 ?_
  refine tp_i (y := nI (pl ((pg 2) a))) (by rw [show (nI ((pg 2) a) : Int32).toNatClampNeg = (pg 2) a from pk_cl ((pg 2) a)]) ?_
  refine lv_iload hx hb d_Progress_perform_199 (lv_at hl 0 rfl) ?_
  refine lv_iadd hx hb d_Progress_perform_201 ?_
  refine tp_i (y := nI (pl ((pg 2) a) + 1)) (by exact nI_add (pl ((pg 2) a)) 1) ?_
  refine va_iast (D := (dC, dI)) hx hb hK hP (dd_D hD rfl) hS 1 0 rfl rfl (i := nI ((pg 2) a)) (x := nI (pl ((pg 2) a) + 1)) (pk_in ((pg 2) a) 4 (by omega)) d_Progress_perform_202 ?_
  clear hP hS
  intro H locs hP _ hS
  rw [show (nI ((pg 2) a) : Int32).toNatClampNeg = (pg 2) a from pk_cl ((pg 2) a)] at hP
  rw [show upd (fun i => nI (pl i)) ((pg 2) a) (nI (pl ((pg 2) a) + 1)) = fun i => nI (updN pl ((pg 2) a) (pl ((pg 2) a) + 1) i) from upd_nI] at hP
  replace hP : va_P (dC, dI) classes [oc ga 1 [.ref pa, .ref g1, .ref g2, .ref g3, .int (nI dn), .long so], ia g1 l1 4 (fun i => nI ((updN pl ((pg 2) a) (pl ((pg 2) a) + 1)) i)), ia g2 l2 8 rg, ia g3 l3 8 vl, oc pa 0 [.ref (pA 0), .ref (pA 1), .ref (pA 2), .ref (pA 3), .ref (pA 4), .ref (pA 5), .ref (pA 6), .ref (pA 7), .ref (pA 8), .ref (pA 9), .ref (pA 10), .int (nI T), .int (nI Ac)], ia (pA 2) (pK 2) 7 (fun i => nI ((pg 2) i)), ia (pA 4) (pK 4) 7 (fun i => nI ((pg 4) i)), ia (pA 5) (pK 5) 7 (fun i => nI ((pg 5) i)), ia (pA 6) (pK 6) 7 (fun i => nI ((pg 6) i)), ia (pA 7) (pK 7) 7 nm] H := hP
  refine tp_pc (pc' := 203) (by rfl) ?_
  refine lv_aload_n hx hb d_Progress_perform_203 rfl (lv_at hl 3 rfl) ?_
  refine lv_dup hx hb d_Progress_perform_204 rfl ?_
  refine va_get (D := (dC, dI)) (ci := 1) (v := .int (nI dn)) (C := R_Progress) (T := F_Progress) (N := 6) hx hb hw i_Progress hown hK hP 0 rfl rfl 4 (by decide) (hw _ m_208) (fun _ h9 => h9) rfl d_Progress_perform_205 ?_
  refine lv_iconst (v := 1) hx hb d_Progress_perform_208 (by decide) ?_
  refine lv_iload_n hx hb d_Progress_perform_209 rfl (lv_at hl 4 rfl) ?_
  refine lv_ishl hx hb d_Progress_perform_210 ?_
  refine tp_i (y := 1 <<< ((nI a) &&& 31)) rfl ?_
  refine lv_ior hx hb d_Progress_perform_211 ?_
  refine tp_i (y := (nI dn) ||| (1 <<< ((nI a) &&& 31))) rfl ?_
  refine tp_i (y := nI (dn ||| 2 ^ a)) (set_eq dn hdn a ha) ?_
  refine va_put (D := (dC, dI)) (ci := 1) (v := .int (nI (dn ||| 2 ^ a))) (ty := .int) (C := R_Progress) (T := F_Progress) (N := 6) hx hb hw i_Progress t_Progress t_Progress_ok n_Progress hown hK hP (dd_D hD rfl) hS 0 rfl rfl 4 (by decide) (hw _ m_208) (fun _ h9 => h9) rfl (by decide +kernel) rfl rfl (Nat.le_of_ble_eq_true rfl) d_Progress_perform_212 ?_
  clear hP hS locs H
  intro H locs (hP : va_P (dC, dI) classes [oc ga 1 [.ref pa, .ref g1, .ref g2, .ref g3, .int (nI (dn ||| 2 ^ a)), .long so], ia g1 l1 4 (fun i => nI ((updN pl ((pg 2) a) (pl ((pg 2) a) + 1)) i)), ia g2 l2 8 rg, ia g3 l3 8 vl, oc pa 0 [.ref (pA 0), .ref (pA 1), .ref (pA 2), .ref (pA 3), .ref (pA 4), .ref (pA 5), .ref (pA 6), .ref (pA 7), .ref (pA 8), .ref (pA 9), .ref (pA 10), .int (nI T), .int (nI Ac)], ia (pA 2) (pK 2) 7 (fun i => nI ((pg 2) i)), ia (pA 4) (pK 4) 7 (fun i => nI ((pg 4) i)), ia (pA 5) (pK 5) 7 (fun i => nI ((pg 5) i)), ia (pA 6) (pK 6) 7 (fun i => nI ((pg 6) i)), ia (pA 7) (pK 7) 7 nm] H) _ hS
  refine tp_pc (pc' := 215) (by rfl) ?_
  refine lv_aload_n hx hb d_Progress_perform_215 rfl (lv_at hl 3 rfl) ?_
  refine lv_dup hx hb d_Progress_perform_216 rfl ?_
  refine va_get (D := (dC, dI)) (ci := 1) (v := .long so) (C := R_Progress) (T := F_Progress) (N := 6) hx hb hw i_Progress hown hK hP 0 rfl rfl 5 (by decide) (hw _ m_210) (fun _ h9 => h9) rfl d_Progress_perform_217 ?_
  refine lv_iload_n hx hb d_Progress_perform_220 rfl (lv_at hl 5 rfl) ?_
  refine lv_i2l (v := (nI s9).toInt64) hx hb d_Progress_perform_221 rfl ?_
  refine lv_iconst (v := 3) hx hb d_Progress_perform_222 (by decide) ?_
  refine lv_iload_n hx hb d_Progress_perform_223 rfl (lv_at hl 4 rfl) ?_
  refine lv_imul hx hb d_Progress_perform_224 ?_
  refine tp_i (y := nI (3 * a)) (by exact pk_mul 3 a) ?_
  refine lv_lshl (v := ((nI s9).toInt64) <<< (((nI (3 * a)) : Int32).toInt64 &&& 63)) hx hb d_Progress_perform_225 rfl ?_
  refine lv_lor hx hb d_Progress_perform_226 ?_
  refine tp_l (y := so ||| (((nI s9).toInt64) <<< (((nI (3 * a)) : Int32).toInt64 &&& 63))) rfl ?_
  refine tp_l (y := srcP so s9 a) rfl ?_
  refine va_put (D := (dC, dI)) (ci := 1) (v := .long (srcP so s9 a)) (ty := .long) (C := R_Progress) (T := F_Progress) (N := 6) hx hb hw i_Progress t_Progress t_Progress_ok n_Progress hown hK hP (dd_D hD rfl) hS 0 rfl rfl 5 (by decide) (hw _ m_210) (fun _ h9 => h9) rfl (by decide +kernel) rfl rfl (Nat.le_of_ble_eq_true rfl) d_Progress_perform_227 ?_
  clear hP hS locs H
  intro H locs (hP : va_P (dC, dI) classes [oc ga 1 [.ref pa, .ref g1, .ref g2, .ref g3, .int (nI (dn ||| 2 ^ a)), .long (srcP so s9 a)], ia g1 l1 4 (fun i => nI ((updN pl ((pg 2) a) (pl ((pg 2) a) + 1)) i)), ia g2 l2 8 rg, ia g3 l3 8 vl, oc pa 0 [.ref (pA 0), .ref (pA 1), .ref (pA 2), .ref (pA 3), .ref (pA 4), .ref (pA 5), .ref (pA 6), .ref (pA 7), .ref (pA 8), .ref (pA 9), .ref (pA 10), .int (nI T), .int (nI Ac)], ia (pA 2) (pK 2) 7 (fun i => nI ((pg 2) i)), ia (pA 4) (pK 4) 7 (fun i => nI ((pg 4) i)), ia (pA 5) (pK 5) 7 (fun i => nI ((pg 5) i)), ia (pA 6) (pK 6) 7 (fun i => nI ((pg 6) i)), ia (pA 7) (pK 7) 7 nm] H) _ hS
  refine tp_pc (pc' := 230) (by rfl) ?_
  obtain ⟨hP9, hD9, -⟩ := cut3 (wc := [oc ga 1 [.ref pa, .ref g1, .ref g2, .ref g3, .int (nI (dn ||| 2 ^ a)), .long (srcP so s9 a)], ia g1 l1 4 (fun i => nI ((updN pl ((pg 2) a) (pl ((pg 2) a) + 1)) i)), ia g2 l2 8 rg, ia g3 l3 8 vl, oc pa 0 [.ref (pA 0), .ref (pA 1), .ref (pA 2), .ref (pA 3), .ref (pA 4), .ref (pA 5), .ref (pA 6), .ref (pA 7), .ref (pA 8), .ref (pA 9), .ref (pA 10), .int (nI T), .int (nI Ac)], ia (pA 2) (pK 2) 7 (fun i => nI ((pg 2) i)), ia (pA 4) (pK 4) 7 (fun i => nI ((pg 4) i)), ia (pA 5) (pK 5) 7 (fun i => nI ((pg 5) i)), ia (pA 6) (pK 6) 7 (fun i => nI ((pg 6) i)), ia (pA 7) (pK 7) 7 nm]) hP hD rfl hS hA [0, 1, 2, 3, 4, 5, 6, 7, 8, 9] (by decide +kernel) rfl
  have hK9 := hK.sub (tys' := []) [] rfl
  refine W.widen (k := 0) (n := 0) (by exact Nat.le_of_ble_eq_true rfl) (by exact Nat.le_of_ble_eq_true rfl) ?_
  exact W.vret hx hb hr (fun t9 ht9 hW => ⟨⟨(), rfl, trivial, by rw [ht9]; exact hP9, va_K.moved hW.alike hK9, hD9⟩, hS.F ht9⟩) hS.2.2 d_Progress_perform_230
set_option maxHeartbeats 4000000 in
set_option maxRecDepth 100000 in
theorem gen_Progress_perform_5s (l : Launch) (dC : Nat → ClassId) (dI : Nat → Nat → Nat) (pa : Nat) (pA : Nat → Nat) (pK : Nat → ClassId) (T Ac : Nat) (pg : Nat → Nat → Nat) (nm : Nat → Int32) (ga g1 g2 g3 : Nat) (l1 l2 l3 : ClassId) (dn : Nat) (so : Int64) (pl : Nat → Nat) (rg vl : Nat → Int32) (a s9 : Nat) (ha : a < 7) (hs8 : s9 < 8) (hdn : dn < 128) (h2 : pg 2 a < 4) (hpl : pl (pg 2 a) < 1000) (h5 : pg 5 a < 1000) (h8 : pg 6 a < 8) (hk : pg 4 a = 5) (hsk : ¬ rg (pg 6 a) = nm a) (sz : Nat) : Met l y_Progress_perform w_Progress_perform ({ frames := 0, cells := 0, slots := 0, locals := 0 }) (va_Pc [.ref ga, .int (nI a), .int (nI s9)] (fun U => U.heap.size = sz ∧ va_P (dC, dI) classes [oc ga 1 [.ref pa, .ref g1, .ref g2, .ref g3, .int (nI dn), .long so], ia g1 l1 4 (fun i => nI (pl i)), ia g2 l2 8 rg, ia g3 l3 8 vl, oc pa 0 [.ref (pA 0), .ref (pA 1), .ref (pA 2), .ref (pA 3), .ref (pA 4), .ref (pA 5), .ref (pA 6), .ref (pA 7), .ref (pA 8), .ref (pA 9), .ref (pA 10), .int (nI T), .int (nI Ac)], ia (pA 2) (pK 2) 7 (fun i => nI ((pg 2) i)), ia (pA 4) (pK 4) 7 (fun i => nI ((pg 4) i)), ia (pA 5) (pK 5) 7 (fun i => nI ((pg 5) i)), ia (pA 6) (pK 6) 7 (fun i => nI ((pg 6) i)), ia (pA 7) (pK 7) 7 nm] U.heap ∧ va_K (dC, dI) classes [(l1, .int), (l2, .int), (l3, .int), ((pK 2), .int), ((pK 4), .int), ((pK 5), .int), ((pK 6), .int), ((pK 7), .int)] U ∧ va_D (fun _ => True) [oc ga 1 [.ref pa, .ref g1, .ref g2, .ref g3, .int (nI dn), .long so], ia g1 l1 4 (fun i => nI (pl i)), ia g2 l2 8 rg, ia g3 l3 8 vl, oc pa 0 [.ref (pA 0), .ref (pA 1), .ref (pA 2), .ref (pA 3), .ref (pA 4), .ref (pA 5), .ref (pA 6), .ref (pA 7), .ref (pA 8), .ref (pA 9), .ref (pA 10), .int (nI T), .int (nI Ac)], ia (pA 2) (pK 2) 7 (fun i => nI ((pg 2) i)), ia (pA 4) (pK 4) 7 (fun i => nI ((pg 4) i)), ia (pA 5) (pK 5) 7 (fun i => nI ((pg 5) i)), ia (pA 6) (pK 6) 7 (fun i => nI ((pg 6) i)), ia (pA 7) (pK 7) 7 nm] ∧ nw U)) (va_Qv (fun _ : Unit => True) (fun _ t9 => va_P (dC, dI) classes [oc ga 1 [.ref pa, .ref g1, .ref g2, .ref g3, .int (nI (dn ||| 2 ^ a)), .long (srcP so s9 a)], ia g1 l1 4 (fun i => nI ((updN pl (pg 2 a) (pl (pg 2 a) + (1 + pg 5 a))) i)), ia g2 l2 8 rg, ia g3 l3 8 vl, oc pa 0 [.ref (pA 0), .ref (pA 1), .ref (pA 2), .ref (pA 3), .ref (pA 4), .ref (pA 5), .ref (pA 6), .ref (pA 7), .ref (pA 8), .ref (pA 9), .ref (pA 10), .int (nI T), .int (nI Ac)], ia (pA 2) (pK 2) 7 (fun i => nI ((pg 2) i)), ia (pA 4) (pK 4) 7 (fun i => nI ((pg 4) i)), ia (pA 5) (pK 5) 7 (fun i => nI ((pg 5) i)), ia (pA 6) (pK 6) 7 (fun i => nI ((pg 6) i)), ia (pA 7) (pK 7) 7 nm] t9.heap ∧ va_K (dC, dI) classes [] t9 ∧ va_D (va_A [oc ga 1 [.ref pa, .ref g1, .ref g2, .ref g3, .int (nI dn), .long so], ia g1 l1 4 (fun i => nI (pl i)), ia g2 l2 8 rg, ia g3 l3 8 vl, oc pa 0 [.ref (pA 0), .ref (pA 1), .ref (pA 2), .ref (pA 3), .ref (pA 4), .ref (pA 5), .ref (pA 6), .ref (pA 7), .ref (pA 8), .ref (pA 9), .ref (pA 10), .int (nI T), .int (nI Ac)], ia (pA 2) (pK 2) 7 (fun i => nI ((pg 2) i)), ia (pA 4) (pK 4) 7 (fun i => nI ((pg 4) i)), ia (pA 5) (pK 5) 7 (fun i => nI ((pg 5) i)), ia (pA 6) (pK 6) 7 (fun i => nI ((pg 6) i)), ia (pA 7) (pK 7) 7 nm] sz) [oc ga 1 [.ref pa, .ref g1, .ref g2, .ref g3, .int (nI (dn ||| 2 ^ a)), .long (srcP so s9 a)], ia g1 l1 4 (fun i => nI ((updN pl (pg 2 a) (pl (pg 2 a) + (1 + pg 5 a))) i)), ia g2 l2 8 rg, ia g3 l3 8 vl, oc pa 0 [.ref (pA 0), .ref (pA 1), .ref (pA 2), .ref (pA 3), .ref (pA 4), .ref (pA 5), .ref (pA 6), .ref (pA 7), .ref (pA 8), .ref (pA 9), .ref (pA 10), .int (nI T), .int (nI Ac)], ia (pA 2) (pK 2) 7 (fun i => nI ((pg 2) i)), ia (pA 4) (pK 4) 7 (fun i => nI ((pg 4) i)), ia (pA 5) (pK 5) 7 (fun i => nI ((pg 5) i)), ia (pA 6) (pK 6) 7 (fun i => nI ((pg 6) i)), ia (pA 7) (pK 7) 7 nm]) (va_A [oc ga 1 [.ref pa, .ref g1, .ref g2, .ref g3, .int (nI dn), .long so], ia g1 l1 4 (fun i => nI (pl i)), ia g2 l2 8 rg, ia g3 l3 8 vl, oc pa 0 [.ref (pA 0), .ref (pA 1), .ref (pA 2), .ref (pA 3), .ref (pA 4), .ref (pA 5), .ref (pA 6), .ref (pA 7), .ref (pA 8), .ref (pA 9), .ref (pA 10), .int (nI T), .int (nI Ac)], ia (pA 2) (pK 2) 7 (fun i => nI ((pg 2) i)), ia (pA 4) (pK 4) 7 (fun i => nI ((pg 4) i)), ia (pA 5) (pK 5) 7 (fun i => nI ((pg 5) i)), ia (pA 6) (pK 6) 7 (fun i => nI ((pg 6) i)), ia (pA 7) (pK 7) 7 nm] sz)) 0 0 (va_A [oc ga 1 [.ref pa, .ref g1, .ref g2, .ref g3, .int (nI dn), .long so], ia g1 l1 4 (fun i => nI (pl i)), ia g2 l2 8 rg, ia g3 l3 8 vl, oc pa 0 [.ref (pA 0), .ref (pA 1), .ref (pA 2), .ref (pA 3), .ref (pA 4), .ref (pA 5), .ref (pA 6), .ref (pA 7), .ref (pA 8), .ref (pA 9), .ref (pA 10), .int (nI T), .int (nI Ac)], ia (pA 2) (pK 2) 7 (fun i => nI ((pg 2) i)), ia (pA 4) (pK 4) 7 (fun i => nI ((pg 4) i)), ia (pA 5) (pK 5) 7 (fun i => nI ((pg 5) i)), ia (pA 6) (pK 6) 7 (fun i => nI ((pg 6) i)), ia (pA 7) (pK 7) 7 nm] sz) := by
  refine Met.ofW (cc := b_Progress_perform) (maxL := 6) (ret := none) (by decide) rfl ?_
  intro p e0 s m args below meth c s₁ B hml hv
  obtain ⟨rfl, hsz, hP, hK, hD0, hn⟩ := hv
  have hx := B.exec
  have hb := B.bytes
  have hr := B.returns
  have hw := fun w (h : w ∈ wt) => atoms_spec (ws := w_Progress_perform) B.pre w (List.mem_cons_of_mem _ h)
  have hown : s.vm.findClass R_Progress = some m.cls := findClass_of_methodNamed B.named
  have hlocks := B.notSynchronized
  subst hsz
  have hD1 := hD0.self (sz := s.heap.size)
  generalize hAe : va_A [oc ga 1 [.ref pa, .ref g1, .ref g2, .ref g3, .int (nI dn), .long so], ia g1 l1 4 (fun i => nI (pl i)), ia g2 l2 8 rg, ia g3 l3 8 vl, oc pa 0 [.ref (pA 0), .ref (pA 1), .ref (pA 2), .ref (pA 3), .ref (pA 4), .ref (pA 5), .ref (pA 6), .ref (pA 7), .ref (pA 8), .ref (pA 9), .ref (pA 10), .int (nI T), .int (nI Ac)], ia (pA 2) (pK 2) 7 (fun i => nI ((pg 2) i)), ia (pA 4) (pK 4) 7 (fun i => nI ((pg 4) i)), ia (pA 5) (pK 5) 7 (fun i => nI ((pg 5) i)), ia (pA 6) (pK 6) 7 (fun i => nI ((pg 6) i)), ia (pA 7) (pK 7) 7 nm] s.heap.size = A at hD1 ⊢
  have hA : ∀ q : Nat, s.heap.size ≤ q → A q := fun q h => by rw [← hAe]; exact Or.inr h
  have hD : dd A [ga, g1, g2, g3, pa, (pA 2), (pA 4), (pA 5), (pA 6), (pA 7)] := dd_of hD1 rfl
  clear hAe hD0 hD1
  have hS : va_S A s.heap s.heap [] := va_S.rf
  replace hP : va_P (dC, dI) classes [oc ga 1 [.ref pa, .ref g1, .ref g2, .ref g3, .int (nI dn), .long so], ia g1 l1 4 (fun i => nI (pl i)), ia g2 l2 8 rg, ia g3 l3 8 vl, oc pa 0 [.ref (pA 0), .ref (pA 1), .ref (pA 2), .ref (pA 3), .ref (pA 4), .ref (pA 5), .ref (pA 6), .ref (pA 7), .ref (pA 8), .ref (pA 9), .ref (pA 10), .int (nI T), .int (nI Ac)], ia (pA 2) (pK 2) 7 (fun i => nI ((pg 2) i)), ia (pA 4) (pK 4) 7 (fun i => nI ((pg 4) i)), ia (pA 5) (pK 5) 7 (fun i => nI ((pg 5) i)), ia (pA 6) (pK 6) 7 (fun i => nI ((pg 6) i)), ia (pA 7) (pK 7) 7 nm] s.heap := hP
  have hl := lv_entry ([.ref ga, .int (nI a), .int (nI s9)]) (n := 6) (Nat.le_of_ble_eq_true rfl)
  rw [lg_entry_eq]
  generalize (lg_sl ([.ref ga, .int (nI a), .int (nI s9)]) ++ List.replicate (6 - (lg_sl ([.ref ga, .int (nI a), .int (nI s9)])).length) Slot.unset).toArray = ls at hl ⊢
  replace hl : lv_has ls 6 [(0, .ref ga), (1, .int (nI a)), (2, .int (nI s9))] := hl
  refine lv_aload_n hx hb d_Progress_perform_0 rfl (lv_at hl 0 rfl) ?_
  refine va_get (D := (dC, dI)) (ci := 1) (v := .ref pa) (C := R_Progress) (T := F_Progress) (N := 6) hx hb hw i_Progress hown hK hP 0 rfl rfl 0 (by decide) (hw _ m_203) (fun _ h9 => h9) rfl d_Progress_perform_1 ?_
  refine va_get (D := (dC, dI)) (ci := 0) (v := .ref (pA 6)) (C := R_Program) (T := F_Program) (N := 13) hx hb hw i_Program hown hK hP 4 rfl rfl 6 (by decide) (hw _ m_149) (fun _ h9 => h9) rfl d_Progress_perform_4 ?_
  refine lv_iload_n hx hb d_Progress_perform_7 rfl (lv_at hl 1 rfl) ?_
  refine va_iald (D := (dC, dI)) hx hb hK hP 8 6 rfl rfl (i := nI a) (pk_in a 7 (by omega)) d_Progress_perform_8 ?_
  refine tp_i (y := nI ((pg 6) a)) (by rw [show (nI a : Int32).toNatClampNeg = a from pk_cl a]) ?_
  refine lv_istore_n (lv' := [(3, .int (nI ((pg 6) a))), (0, .ref ga), (1, .int (nI a)), (2, .int (nI s9))]) hx hb d_Progress_perform_9 rfl hl (by decide) rfl ?_
  clear hl ls
  intro ls hl
  refine lv_aload_n hx hb d_Progress_perform_10 rfl (lv_at hl 1 rfl) ?_
  refine va_get (D := (dC, dI)) (ci := 1) (v := .ref pa) (C := R_Progress) (T := F_Progress) (N := 6) hx hb hw i_Progress hown hK hP 0 rfl rfl 0 (by decide) (hw _ m_203) (fun _ h9 => h9) rfl d_Progress_perform_11 ?_
  refine va_get (D := (dC, dI)) (ci := 0) (v := .ref (pA 7)) (C := R_Program) (T := F_Program) (N := 13) hx hb hw i_Program hown hK hP 4 rfl rfl 7 (by decide) (hw _ m_151) (fun _ h9 => h9) rfl d_Progress_perform_14 ?_
  refine lv_iload_n hx hb d_Progress_perform_17 rfl (lv_at hl 2 rfl) ?_
  refine va_iald (D := (dC, dI)) hx hb hK hP 9 7 rfl rfl (i := nI a) (pk_in a 7 (by omega)) d_Progress_perform_18 ?_
  refine tp_i (y := nm a) (by rw [show (nI a : Int32).toNatClampNeg = a from pk_cl a]) ?_
  refine lv_istore (lv' := [(4, .int (nm a)), (3, .int (nI ((pg 6) a))), (0, .ref ga), (1, .int (nI a)), (2, .int (nI s9))]) hx hb d_Progress_perform_19 hl (by decide) rfl ?_
  clear hl ls
  intro ls hl
  refine lv_iconst (v := 1) hx hb d_Progress_perform_21 (by decide) ?_
  refine lv_istore (lv' := [(5, .int 1), (4, .int (nm a)), (3, .int (nI ((pg 6) a))), (0, .ref ga), (1, .int (nI a)), (2, .int (nI s9))]) hx hb d_Progress_perform_22 hl (by decide) rfl ?_
  clear hl ls
  intro ls hl
  refine lv_aload_n hx hb d_Progress_perform_24 rfl (lv_at hl 3 rfl) ?_
  refine va_get (D := (dC, dI)) (ci := 1) (v := .ref pa) (C := R_Progress) (T := F_Progress) (N := 6) hx hb hw i_Progress hown hK hP 0 rfl rfl 0 (by decide) (hw _ m_203) (fun _ h9 => h9) rfl d_Progress_perform_25 ?_
  refine va_get (D := (dC, dI)) (ci := 0) (v := .ref (pA 4)) (C := R_Program) (T := F_Program) (N := 13) hx hb hw i_Program hown hK hP 4 rfl rfl 4 (by decide) (hw _ m_142) (fun _ h9 => h9) rfl d_Progress_perform_28 ?_
  refine lv_iload_n hx hb d_Progress_perform_31 rfl (lv_at hl 4 rfl) ?_
  refine va_iald (D := (dC, dI)) hx hb hK hP 6 4 rfl rfl (i := nI a) (pk_in a 7 (by omega)) d_Progress_perform_32 ?_
  refine tp_i (y := nI ((pg 4) a)) (by rw [show (nI a : Int32).toNatClampNeg = a from pk_cl a]) ?_
  refine tp_i (y := 5) (by rw [hk]; rfl) ?_
  refine lv_tableIn (x := 5) (tgt := 152) hx hb d_Progress_perform_33 (by decide) (by decide) (by rfl) (by decide) ?_
  refine tp_pc (pc' := 152) (by rfl) ?_
  refine lv_iload hx hb d_Progress_perform_152 (lv_at hl 0 rfl) ?_
  refine lv_aload_n hx hb d_Progress_perform_154 rfl (lv_at hl 3 rfl) ?_
  refine va_get (D := (dC, dI)) (ci := 1) (v := .ref g2) (C := R_Progress) (T := F_Progress) (N := 6) hx hb hw i_Progress hown hK hP 0 rfl rfl 2 (by decide) (hw _ m_206) (fun _ h9 => h9) rfl d_Progress_perform_155 ?_
  refine lv_iload_n hx hb d_Progress_perform_158 rfl (lv_at hl 2 rfl) ?_
  refine va_iald (D := (dC, dI)) hx hb hK hP 2 1 rfl rfl (i := nI ((pg 6) a)) (pk_in ((pg 6) a) 8 (by omega)) d_Progress_perform_159 ?_
  refine tp_i (y := rg ((pg 6) a)) (by rw [show (nI ((pg 6) a) : Int32).toNatClampNeg = (pg 6) a from pk_cl ((pg 6) a)]) ?_
  refine lv_iload hx hb d_Progress_perform_160 (lv_at hl 1 rfl) ?_
  refine lv_icmp_ne (tgt := 169) hx hb d_Progress_perform_162 (by decide) (fun c9 => ?_) (fun c9 => absurd c9 hsk)
  refine tp_pc (pc' := 169) (by rfl) ?_
  refine lv_aload_n hx hb d_Progress_perform_169 rfl (lv_at hl 3 rfl) ?_
  refine va_get (D := (dC, dI)) (ci := 1) (v := .ref pa) (C := R_Progress) (T := F_Progress) (N := 6) hx hb hw i_Progress hown hK hP 0 rfl rfl 0 (by decide) (hw _ m_203) (fun _ h9 => h9) rfl d_Progress_perform_170 ?_
  refine va_get (D := (dC, dI)) (ci := 0) (v := .ref (pA 5)) (C := R_Program) (T := F_Program) (N := 13) hx hb hw i_Program hown hK hP 4 rfl rfl 5 (by decide) (hw _ m_145) (fun _ h9 => h9) rfl d_Progress_perform_173 ?_
  refine lv_iload_n hx hb d_Progress_perform_176 rfl (lv_at hl 4 rfl) ?_
  refine va_iald (D := (dC, dI)) hx hb hK hP 7 5 rfl rfl (i := nI a) (pk_in a 7 (by omega)) d_Progress_perform_177 ?_
  refine tp_i (y := nI ((pg 5) a)) (by rw [show (nI a : Int32).toNatClampNeg = a from pk_cl a]) ?_
  refine lv_iadd hx hb d_Progress_perform_178 ?_
  refine tp_i (y := nI (1 + ((pg 5) a))) (by exact nI_add 1 ((pg 5) a)) ?_
  refine lv_istore (lv' := [(5, .int (nI (1 + ((pg 5) a)))), (4, .int (nm a)), (3, .int (nI ((pg 6) a))), (0, .ref ga), (1, .int (nI a)), (2, .int (nI s9))]) hx hb d_Progress_perform_179 hl (by decide) rfl ?_
  clear hl ls
  intro ls hl
  refine lv_goto (tgt := 184) hx hb d_Progress_perform_181 (by decide) ?_
  refine tp_pc (pc' := 184) (by rfl) ?_
  refine lv_aload_n hx hb d_Progress_perform_184 rfl (lv_at hl 3 rfl) ?_
  refine va_get (D := (dC, dI)) (ci := 1) (v := .ref g1) (C := R_Progress) (T := F_Progress) (N := 6) hx hb hw i_Progress hown hK hP 0 rfl rfl 1 (by decide) (hw _ m_204) (fun _ h9 => h9) rfl d_Progress_perform_185 ?_
  refine lv_aload_n hx hb d_Progress_perform_188 rfl (lv_at hl 3 rfl) ?_
  refine va_get (D := (dC, dI)) (ci := 1) (v := .ref pa) (C := R_Progress) (T := F_Progress) (N := 6) hx hb hw i_Progress hown hK hP 0 rfl rfl 0 (by decide) (hw _ m_203) (fun _ h9 => h9) rfl d_Progress_perform_189 ?_
  refine va_get (D := (dC, dI)) (ci := 0) (v := .ref (pA 2)) (C := R_Program) (T := F_Program) (N := 13) hx hb hw i_Program hown hK hP 4 rfl rfl 2 (by decide) (hw _ m_132) (fun _ h9 => h9) rfl d_Progress_perform_192 ?_
  refine lv_iload_n hx hb d_Progress_perform_195 rfl (lv_at hl 4 rfl) ?_
  refine va_iald (D := (dC, dI)) hx hb hK hP 5 3 rfl rfl (i := nI a) (pk_in a 7 (by omega)) d_Progress_perform_196 ?_
  refine tp_i (y := nI ((pg 2) a)) (by rw [show (nI a : Int32).toNatClampNeg = a from pk_cl a]) ?_
  refine lv_dup2_11 hx hb d_Progress_perform_197 rfl rfl ?_
  refine va_iald (D := (dC, dI)) hx hb hK hP 1 0 rfl rfl (i := nI ((pg 2) a)) (pk_in ((pg 2) a) 4 (by omega)) d_Progress_perform_198 ?_
  refine tp_i (y := nI (pl ((pg 2) a))) (by rw [show (nI ((pg 2) a) : Int32).toNatClampNeg = (pg 2) a from pk_cl ((pg 2) a)]) ?_
  refine lv_iload hx hb d_Progress_perform_199 (lv_at hl 0 rfl) ?_
  refine lv_iadd hx hb d_Progress_perform_201 ?_
  refine tp_i (y := nI (pl ((pg 2) a) + (1 + ((pg 5) a)))) (by exact nI_add (pl ((pg 2) a)) (1 + ((pg 5) a))) ?_
  refine va_iast (D := (dC, dI)) hx hb hK hP (dd_D hD rfl) hS 1 0 rfl rfl (i := nI ((pg 2) a)) (x := nI (pl ((pg 2) a) + (1 + ((pg 5) a)))) (pk_in ((pg 2) a) 4 (by omega)) d_Progress_perform_202 ?_
  clear hP hS
  intro H locs hP _ hS
  rw [show (nI ((pg 2) a) : Int32).toNatClampNeg = (pg 2) a from pk_cl ((pg 2) a)] at hP
  rw [show upd (fun i => nI (pl i)) ((pg 2) a) (nI (pl ((pg 2) a) + (1 + ((pg 5) a)))) = fun i => nI (updN pl ((pg 2) a) (pl ((pg 2) a) + (1 + ((pg 5) a))) i) from upd_nI] at hP
  replace hP : va_P (dC, dI) classes [oc ga 1 [.ref pa, .ref g1, .ref g2, .ref g3, .int (nI dn), .long so], ia g1 l1 4 (fun i => nI ((updN pl ((pg 2) a) (pl ((pg 2) a) + (1 + ((pg 5) a)))) i)), ia g2 l2 8 rg, ia g3 l3 8 vl, oc pa 0 [.ref (pA 0), .ref (pA 1), .ref (pA 2), .ref (pA 3), .ref (pA 4), .ref (pA 5), .ref (pA 6), .ref (pA 7), .ref (pA 8), .ref (pA 9), .ref (pA 10), .int (nI T), .int (nI Ac)], ia (pA 2) (pK 2) 7 (fun i => nI ((pg 2) i)), ia (pA 4) (pK 4) 7 (fun i => nI ((pg 4) i)), ia (pA 5) (pK 5) 7 (fun i => nI ((pg 5) i)), ia (pA 6) (pK 6) 7 (fun i => nI ((pg 6) i)), ia (pA 7) (pK 7) 7 nm] H := hP
  refine tp_pc (pc' := 203) (by rfl) ?_
  refine lv_aload_n hx hb d_Progress_perform_203 rfl (lv_at hl 3 rfl) ?_
  refine lv_dup hx hb d_Progress_perform_204 rfl ?_
  refine va_get (D := (dC, dI)) (ci := 1) (v := .int (nI dn)) (C := R_Progress) (T := F_Progress) (N := 6) hx hb hw i_Progress hown hK hP 0 rfl rfl 4 (by decide) (hw _ m_208) (fun _ h9 => h9) rfl d_Progress_perform_205 ?_
  refine lv_iconst (v := 1) hx hb d_Progress_perform_208 (by decide) ?_
  refine lv_iload_n hx hb d_Progress_perform_209 rfl (lv_at hl 4 rfl) ?_
  refine lv_ishl hx hb d_Progress_perform_210 ?_
  refine tp_i (y := 1 <<< ((nI a) &&& 31)) rfl ?_
  refine lv_ior hx hb d_Progress_perform_211 ?_
  refine tp_i (y := (nI dn) ||| (1 <<< ((nI a) &&& 31))) rfl ?_
  refine tp_i (y := nI (dn ||| 2 ^ a)) (set_eq dn hdn a ha) ?_
  refine va_put (D := (dC, dI)) (ci := 1) (v := .int (nI (dn ||| 2 ^ a))) (ty := .int) (C := R_Progress) (T := F_Progress) (N := 6) hx hb hw i_Progress t_Progress t_Progress_ok n_Progress hown hK hP (dd_D hD rfl) hS 0 rfl rfl 4 (by decide) (hw _ m_208) (fun _ h9 => h9) rfl (by decide +kernel) rfl rfl (Nat.le_of_ble_eq_true rfl) d_Progress_perform_212 ?_
  clear hP hS locs H
  intro H locs (hP : va_P (dC, dI) classes [oc ga 1 [.ref pa, .ref g1, .ref g2, .ref g3, .int (nI (dn ||| 2 ^ a)), .long so], ia g1 l1 4 (fun i => nI ((updN pl ((pg 2) a) (pl ((pg 2) a) + (1 + ((pg 5) a)))) i)), ia g2 l2 8 rg, ia g3 l3 8 vl, oc pa 0 [.ref (pA 0), .ref (pA 1), .ref (pA 2), .ref (pA 3), .ref (pA 4), .ref (pA 5), .ref (pA 6), .ref (pA 7), .ref (pA 8), .ref (pA 9), .ref (pA 10), .int (nI T), .int (nI Ac)], ia (pA 2) (pK 2) 7 (fun i => nI ((pg 2) i)), ia (pA 4) (pK 4) 7 (fun i => nI ((pg 4) i)), ia (pA 5) (pK 5) 7 (fun i => nI ((pg 5) i)), ia (pA 6) (pK 6) 7 (fun i => nI ((pg 6) i)), ia (pA 7) (pK 7) 7 nm] H) _ hS
  refine tp_pc (pc' := 215) (by rfl) ?_
  refine lv_aload_n hx hb d_Progress_perform_215 rfl (lv_at hl 3 rfl) ?_
  refine lv_dup hx hb d_Progress_perform_216 rfl ?_
  refine va_get (D := (dC, dI)) (ci := 1) (v := .long so) (C := R_Progress) (T := F_Progress) (N := 6) hx hb hw i_Progress hown hK hP 0 rfl rfl 5 (by decide) (hw _ m_210) (fun _ h9 => h9) rfl d_Progress_perform_217 ?_
  refine lv_iload_n hx hb d_Progress_perform_220 rfl (lv_at hl 5 rfl) ?_
  refine lv_i2l (v := (nI s9).toInt64) hx hb d_Progress_perform_221 rfl ?_
  refine lv_iconst (v := 3) hx hb d_Progress_perform_222 (by decide) ?_
  refine lv_iload_n hx hb d_Progress_perform_223 rfl (lv_at hl 4 rfl) ?_
  refine lv_imul hx hb d_Progress_perform_224 ?_
  refine tp_i (y := nI (3 * a)) (by exact pk_mul 3 a) ?_
  refine lv_lshl (v := ((nI s9).toInt64) <<< (((nI (3 * a)) : Int32).toInt64 &&& 63)) hx hb d_Progress_perform_225 rfl ?_
  refine lv_lor hx hb d_Progress_perform_226 ?_
  refine tp_l (y := so ||| (((nI s9).toInt64) <<< (((nI (3 * a)) : Int32).toInt64 &&& 63))) rfl ?_
  refine tp_l (y := srcP so s9 a) rfl ?_
  refine va_put (D := (dC, dI)) (ci := 1) (v := .long (srcP so s9 a)) (ty := .long) (C := R_Progress) (T := F_Progress) (N := 6) hx hb hw i_Progress t_Progress t_Progress_ok n_Progress hown hK hP (dd_D hD rfl) hS 0 rfl rfl 5 (by decide) (hw _ m_210) (fun _ h9 => h9) rfl (by decide +kernel) rfl rfl (Nat.le_of_ble_eq_true rfl) d_Progress_perform_227 ?_
  clear hP hS locs H
  intro H locs (hP : va_P (dC, dI) classes [oc ga 1 [.ref pa, .ref g1, .ref g2, .ref g3, .int (nI (dn ||| 2 ^ a)), .long (srcP so s9 a)], ia g1 l1 4 (fun i => nI ((updN pl ((pg 2) a) (pl ((pg 2) a) + (1 + ((pg 5) a)))) i)), ia g2 l2 8 rg, ia g3 l3 8 vl, oc pa 0 [.ref (pA 0), .ref (pA 1), .ref (pA 2), .ref (pA 3), .ref (pA 4), .ref (pA 5), .ref (pA 6), .ref (pA 7), .ref (pA 8), .ref (pA 9), .ref (pA 10), .int (nI T), .int (nI Ac)], ia (pA 2) (pK 2) 7 (fun i => nI ((pg 2) i)), ia (pA 4) (pK 4) 7 (fun i => nI ((pg 4) i)), ia (pA 5) (pK 5) 7 (fun i => nI ((pg 5) i)), ia (pA 6) (pK 6) 7 (fun i => nI ((pg 6) i)), ia (pA 7) (pK 7) 7 nm] H) _ hS
  refine tp_pc (pc' := 230) (by rfl) ?_
  obtain ⟨hP9, hD9, -⟩ := cut3 (wc := [oc ga 1 [.ref pa, .ref g1, .ref g2, .ref g3, .int (nI (dn ||| 2 ^ a)), .long (srcP so s9 a)], ia g1 l1 4 (fun i => nI ((updN pl ((pg 2) a) (pl ((pg 2) a) + (1 + ((pg 5) a)))) i)), ia g2 l2 8 rg, ia g3 l3 8 vl, oc pa 0 [.ref (pA 0), .ref (pA 1), .ref (pA 2), .ref (pA 3), .ref (pA 4), .ref (pA 5), .ref (pA 6), .ref (pA 7), .ref (pA 8), .ref (pA 9), .ref (pA 10), .int (nI T), .int (nI Ac)], ia (pA 2) (pK 2) 7 (fun i => nI ((pg 2) i)), ia (pA 4) (pK 4) 7 (fun i => nI ((pg 4) i)), ia (pA 5) (pK 5) 7 (fun i => nI ((pg 5) i)), ia (pA 6) (pK 6) 7 (fun i => nI ((pg 6) i)), ia (pA 7) (pK 7) 7 nm]) hP hD rfl hS hA [0, 1, 2, 3, 4, 5, 6, 7, 8, 9] (by decide +kernel) rfl
  have hK9 := hK.sub (tys' := []) [] rfl
  refine W.widen (k := 0) (n := 0) (by exact Nat.le_of_ble_eq_true rfl) (by exact Nat.le_of_ble_eq_true rfl) ?_
  exact W.vret hx hb hr (fun t9 ht9 hW => ⟨⟨(), rfl, trivial, by rw [ht9]; exact hP9, va_K.moved hW.alike hK9, hD9⟩, hS.F ht9⟩) hS.2.2 d_Progress_perform_230
set_option maxHeartbeats 4000000 in
set_option maxRecDepth 100000 in
theorem gen_Progress_perform_5n (l : Launch) (dC : Nat → ClassId) (dI : Nat → Nat → Nat) (pa : Nat) (pA : Nat → Nat) (pK : Nat → ClassId) (T Ac : Nat) (pg : Nat → Nat → Nat) (nm : Nat → Int32) (ga g1 g2 g3 : Nat) (l1 l2 l3 : ClassId) (dn : Nat) (so : Int64) (pl : Nat → Nat) (rg vl : Nat → Int32) (a s9 : Nat) (ha : a < 7) (hs8 : s9 < 8) (hdn : dn < 128) (h2 : pg 2 a < 4) (hpl : pl (pg 2 a) < 1000) (h5 : pg 5 a < 1000) (h8 : pg 6 a < 8) (hk : pg 4 a = 5) (hsk :  rg (pg 6 a) = nm a) (sz : Nat) : Met l y_Progress_perform w_Progress_perform ({ frames := 0, cells := 0, slots := 0, locals := 0 }) (va_Pc [.ref ga, .int (nI a), .int (nI s9)] (fun U => U.heap.size = sz ∧ va_P (dC, dI) classes [oc ga 1 [.ref pa, .ref g1, .ref g2, .ref g3, .int (nI dn), .long so], ia g1 l1 4 (fun i => nI (pl i)), ia g2 l2 8 rg, ia g3 l3 8 vl, oc pa 0 [.ref (pA 0), .ref (pA 1), .ref (pA 2), .ref (pA 3), .ref (pA 4), .ref (pA 5), .ref (pA 6), .ref (pA 7), .ref (pA 8), .ref (pA 9), .ref (pA 10), .int (nI T), .int (nI Ac)], ia (pA 2) (pK 2) 7 (fun i => nI ((pg 2) i)), ia (pA 4) (pK 4) 7 (fun i => nI ((pg 4) i)), ia (pA 5) (pK 5) 7 (fun i => nI ((pg 5) i)), ia (pA 6) (pK 6) 7 (fun i => nI ((pg 6) i)), ia (pA 7) (pK 7) 7 nm] U.heap ∧ va_K (dC, dI) classes [(l1, .int), (l2, .int), (l3, .int), ((pK 2), .int), ((pK 4), .int), ((pK 5), .int), ((pK 6), .int), ((pK 7), .int)] U ∧ va_D (fun _ => True) [oc ga 1 [.ref pa, .ref g1, .ref g2, .ref g3, .int (nI dn), .long so], ia g1 l1 4 (fun i => nI (pl i)), ia g2 l2 8 rg, ia g3 l3 8 vl, oc pa 0 [.ref (pA 0), .ref (pA 1), .ref (pA 2), .ref (pA 3), .ref (pA 4), .ref (pA 5), .ref (pA 6), .ref (pA 7), .ref (pA 8), .ref (pA 9), .ref (pA 10), .int (nI T), .int (nI Ac)], ia (pA 2) (pK 2) 7 (fun i => nI ((pg 2) i)), ia (pA 4) (pK 4) 7 (fun i => nI ((pg 4) i)), ia (pA 5) (pK 5) 7 (fun i => nI ((pg 5) i)), ia (pA 6) (pK 6) 7 (fun i => nI ((pg 6) i)), ia (pA 7) (pK 7) 7 nm] ∧ nw U)) (va_Qv (fun _ : Unit => True) (fun _ t9 => va_P (dC, dI) classes [oc ga 1 [.ref pa, .ref g1, .ref g2, .ref g3, .int (nI (dn ||| 2 ^ a)), .long (srcP so s9 a)], ia g1 l1 4 (fun i => nI ((updN pl (pg 2 a) (pl (pg 2 a) + 1)) i)), ia g2 l2 8 rg, ia g3 l3 8 vl, oc pa 0 [.ref (pA 0), .ref (pA 1), .ref (pA 2), .ref (pA 3), .ref (pA 4), .ref (pA 5), .ref (pA 6), .ref (pA 7), .ref (pA 8), .ref (pA 9), .ref (pA 10), .int (nI T), .int (nI Ac)], ia (pA 2) (pK 2) 7 (fun i => nI ((pg 2) i)), ia (pA 4) (pK 4) 7 (fun i => nI ((pg 4) i)), ia (pA 5) (pK 5) 7 (fun i => nI ((pg 5) i)), ia (pA 6) (pK 6) 7 (fun i => nI ((pg 6) i)), ia (pA 7) (pK 7) 7 nm] t9.heap ∧ va_K (dC, dI) classes [] t9 ∧ va_D (va_A [oc ga 1 [.ref pa, .ref g1, .ref g2, .ref g3, .int (nI dn), .long so], ia g1 l1 4 (fun i => nI (pl i)), ia g2 l2 8 rg, ia g3 l3 8 vl, oc pa 0 [.ref (pA 0), .ref (pA 1), .ref (pA 2), .ref (pA 3), .ref (pA 4), .ref (pA 5), .ref (pA 6), .ref (pA 7), .ref (pA 8), .ref (pA 9), .ref (pA 10), .int (nI T), .int (nI Ac)], ia (pA 2) (pK 2) 7 (fun i => nI ((pg 2) i)), ia (pA 4) (pK 4) 7 (fun i => nI ((pg 4) i)), ia (pA 5) (pK 5) 7 (fun i => nI ((pg 5) i)), ia (pA 6) (pK 6) 7 (fun i => nI ((pg 6) i)), ia (pA 7) (pK 7) 7 nm] sz) [oc ga 1 [.ref pa, .ref g1, .ref g2, .ref g3, .int (nI (dn ||| 2 ^ a)), .long (srcP so s9 a)], ia g1 l1 4 (fun i => nI ((updN pl (pg 2 a) (pl (pg 2 a) + 1)) i)), ia g2 l2 8 rg, ia g3 l3 8 vl, oc pa 0 [.ref (pA 0), .ref (pA 1), .ref (pA 2), .ref (pA 3), .ref (pA 4), .ref (pA 5), .ref (pA 6), .ref (pA 7), .ref (pA 8), .ref (pA 9), .ref (pA 10), .int (nI T), .int (nI Ac)], ia (pA 2) (pK 2) 7 (fun i => nI ((pg 2) i)), ia (pA 4) (pK 4) 7 (fun i => nI ((pg 4) i)), ia (pA 5) (pK 5) 7 (fun i => nI ((pg 5) i)), ia (pA 6) (pK 6) 7 (fun i => nI ((pg 6) i)), ia (pA 7) (pK 7) 7 nm]) (va_A [oc ga 1 [.ref pa, .ref g1, .ref g2, .ref g3, .int (nI dn), .long so], ia g1 l1 4 (fun i => nI (pl i)), ia g2 l2 8 rg, ia g3 l3 8 vl, oc pa 0 [.ref (pA 0), .ref (pA 1), .ref (pA 2), .ref (pA 3), .ref (pA 4), .ref (pA 5), .ref (pA 6), .ref (pA 7), .ref (pA 8), .ref (pA 9), .ref (pA 10), .int (nI T), .int (nI Ac)], ia (pA 2) (pK 2) 7 (fun i => nI ((pg 2) i)), ia (pA 4) (pK 4) 7 (fun i => nI ((pg 4) i)), ia (pA 5) (pK 5) 7 (fun i => nI ((pg 5) i)), ia (pA 6) (pK 6) 7 (fun i => nI ((pg 6) i)), ia (pA 7) (pK 7) 7 nm] sz)) 0 0 (va_A [oc ga 1 [.ref pa, .ref g1, .ref g2, .ref g3, .int (nI dn), .long so], ia g1 l1 4 (fun i => nI (pl i)), ia g2 l2 8 rg, ia g3 l3 8 vl, oc pa 0 [.ref (pA 0), .ref (pA 1), .ref (pA 2), .ref (pA 3), .ref (pA 4), .ref (pA 5), .ref (pA 6), .ref (pA 7), .ref (pA 8), .ref (pA 9), .ref (pA 10), .int (nI T), .int (nI Ac)], ia (pA 2) (pK 2) 7 (fun i => nI ((pg 2) i)), ia (pA 4) (pK 4) 7 (fun i => nI ((pg 4) i)), ia (pA 5) (pK 5) 7 (fun i => nI ((pg 5) i)), ia (pA 6) (pK 6) 7 (fun i => nI ((pg 6) i)), ia (pA 7) (pK 7) 7 nm] sz) := by
  refine Met.ofW (cc := b_Progress_perform) (maxL := 6) (ret := none) (by decide) rfl ?_
  intro p e0 s m args below meth c s₁ B hml hv
  obtain ⟨rfl, hsz, hP, hK, hD0, hn⟩ := hv
  have hx := B.exec
  have hb := B.bytes
  have hr := B.returns
  have hw := fun w (h : w ∈ wt) => atoms_spec (ws := w_Progress_perform) B.pre w (List.mem_cons_of_mem _ h)
  have hown : s.vm.findClass R_Progress = some m.cls := findClass_of_methodNamed B.named
  have hlocks := B.notSynchronized
  subst hsz
  have hD1 := hD0.self (sz := s.heap.size)
  generalize hAe : va_A [oc ga 1 [.ref pa, .ref g1, .ref g2, .ref g3, .int (nI dn), .long so], ia g1 l1 4 (fun i => nI (pl i)), ia g2 l2 8 rg, ia g3 l3 8 vl, oc pa 0 [.ref (pA 0), .ref (pA 1), .ref (pA 2), .ref (pA 3), .ref (pA 4), .ref (pA 5), .ref (pA 6), .ref (pA 7), .ref (pA 8), .ref (pA 9), .ref (pA 10), .int (nI T), .int (nI Ac)], ia (pA 2) (pK 2) 7 (fun i => nI ((pg 2) i)), ia (pA 4) (pK 4) 7 (fun i => nI ((pg 4) i)), ia (pA 5) (pK 5) 7 (fun i => nI ((pg 5) i)), ia (pA 6) (pK 6) 7 (fun i => nI ((pg 6) i)), ia (pA 7) (pK 7) 7 nm] s.heap.size = A at hD1 ⊢
  have hA : ∀ q : Nat, s.heap.size ≤ q → A q := fun q h => by rw [← hAe]; exact Or.inr h
  have hD : dd A [ga, g1, g2, g3, pa, (pA 2), (pA 4), (pA 5), (pA 6), (pA 7)] := dd_of hD1 rfl
  clear hAe hD0 hD1
  have hS : va_S A s.heap s.heap [] := va_S.rf
  replace hP : va_P (dC, dI) classes [oc ga 1 [.ref pa, .ref g1, .ref g2, .ref g3, .int (nI dn), .long so], ia g1 l1 4 (fun i => nI (pl i)), ia g2 l2 8 rg, ia g3 l3 8 vl, oc pa 0 [.ref (pA 0), .ref (pA 1), .ref (pA 2), .ref (pA 3), .ref (pA 4), .ref (pA 5), .ref (pA 6), .ref (pA 7), .ref (pA 8), .ref (pA 9), .ref (pA 10), .int (nI T), .int (nI Ac)], ia (pA 2) (pK 2) 7 (fun i => nI ((pg 2) i)), ia (pA 4) (pK 4) 7 (fun i => nI ((pg 4) i)), ia (pA 5) (pK 5) 7 (fun i => nI ((pg 5) i)), ia (pA 6) (pK 6) 7 (fun i => nI ((pg 6) i)), ia (pA 7) (pK 7) 7 nm] s.heap := hP
  have hl := lv_entry ([.ref ga, .int (nI a), .int (nI s9)]) (n := 6) (Nat.le_of_ble_eq_true rfl)
  rw [lg_entry_eq]
  generalize (lg_sl ([.ref ga, .int (nI a), .int (nI s9)]) ++ List.replicate (6 - (lg_sl ([.ref ga, .int (nI a), .int (nI s9)])).length) Slot.unset).toArray = ls at hl ⊢
  replace hl : lv_has ls 6 [(0, .ref ga), (1, .int (nI a)), (2, .int (nI s9))] := hl
  refine lv_aload_n hx hb d_Progress_perform_0 rfl (lv_at hl 0 rfl) ?_
  refine va_get (D := (dC, dI)) (ci := 1) (v := .ref pa) (C := R_Progress) (T := F_Progress) (N := 6) hx hb hw i_Progress hown hK hP 0 rfl rfl 0 (by decide) (hw _ m_203) (fun _ h9 => h9) rfl d_Progress_perform_1 ?_
  refine va_get (D := (dC, dI)) (ci := 0) (v := .ref (pA 6)) (C := R_Program) (T := F_Program) (N := 13) hx hb hw i_Program hown hK hP 4 rfl rfl 6 (by decide) (hw _ m_149) (fun _ h9 => h9) rfl d_Progress_perform_4 ?_
  refine lv_iload_n hx hb d_Progress_perform_7 rfl (lv_at hl 1 rfl) ?_
  refine va_iald (D := (dC, dI)) hx hb hK hP 8 6 rfl rfl (i := nI a) (pk_in a 7 (by omega)) d_Progress_perform_8 ?_
  refine tp_i (y := nI ((pg 6) a)) (by rw [show (nI a : Int32).toNatClampNeg = a from pk_cl a]) ?_
  refine lv_istore_n (lv' := [(3, .int (nI ((pg 6) a))), (0, .ref ga), (1, .int (nI a)), (2, .int (nI s9))]) hx hb d_Progress_perform_9 rfl hl (by decide) rfl ?_
  clear hl ls
  intro ls hl
  refine lv_aload_n hx hb d_Progress_perform_10 rfl (lv_at hl 1 rfl) ?_
  refine va_get (D := (dC, dI)) (ci := 1) (v := .ref pa) (C := R_Progress) (T := F_Progress) (N := 6) hx hb hw i_Progress hown hK hP 0 rfl rfl 0 (by decide) (hw _ m_203) (fun _ h9 => h9) rfl d_Progress_perform_11 ?_
  refine va_get (D := (dC, dI)) (ci := 0) (v := .ref (pA 7)) (C := R_Program) (T := F_Program) (N := 13) hx hb hw i_Program hown hK hP 4 rfl rfl 7 (by decide) (hw _ m_151) (fun _ h9 => h9) rfl d_Progress_perform_14 ?_
  refine lv_iload_n hx hb d_Progress_perform_17 rfl (lv_at hl 2 rfl) ?_
  refine va_iald (D := (dC, dI)) hx hb hK hP 9 7 rfl rfl (i := nI a) (pk_in a 7 (by omega)) d_Progress_perform_18 ?_
  refine tp_i (y := nm a) (by rw [show (nI a : Int32).toNatClampNeg = a from pk_cl a]) ?_
  refine lv_istore (lv' := [(4, .int (nm a)), (3, .int (nI ((pg 6) a))), (0, .ref ga), (1, .int (nI a)), (2, .int (nI s9))]) hx hb d_Progress_perform_19 hl (by decide) rfl ?_
  clear hl ls
  intro ls hl
  refine lv_iconst (v := 1) hx hb d_Progress_perform_21 (by decide) ?_
  refine lv_istore (lv' := [(5, .int 1), (4, .int (nm a)), (3, .int (nI ((pg 6) a))), (0, .ref ga), (1, .int (nI a)), (2, .int (nI s9))]) hx hb d_Progress_perform_22 hl (by decide) rfl ?_
  clear hl ls
  intro ls hl
  refine lv_aload_n hx hb d_Progress_perform_24 rfl (lv_at hl 3 rfl) ?_
  refine va_get (D := (dC, dI)) (ci := 1) (v := .ref pa) (C := R_Progress) (T := F_Progress) (N := 6) hx hb hw i_Progress hown hK hP 0 rfl rfl 0 (by decide) (hw _ m_203) (fun _ h9 => h9) rfl d_Progress_perform_25 ?_
  refine va_get (D := (dC, dI)) (ci := 0) (v := .ref (pA 4)) (C := R_Program) (T := F_Program) (N := 13) hx hb hw i_Program hown hK hP 4 rfl rfl 4 (by decide) (hw _ m_142) (fun _ h9 => h9) rfl d_Progress_perform_28 ?_
  refine lv_iload_n hx hb d_Progress_perform_31 rfl (lv_at hl 4 rfl) ?_
  refine va_iald (D := (dC, dI)) hx hb hK hP 6 4 rfl rfl (i := nI a) (pk_in a 7 (by omega)) d_Progress_perform_32 ?_
  refine tp_i (y := nI ((pg 4) a)) (by rw [show (nI a : Int32).toNatClampNeg = a from pk_cl a]) ?_
  refine tp_i (y := 5) (by rw [hk]; rfl) ?_
  refine lv_tableIn (x := 5) (tgt := 152) hx hb d_Progress_perform_33 (by decide) (by decide) (by rfl) (by decide) ?_
  refine tp_pc (pc' := 152) (by rfl) ?_
  refine lv_iload hx hb d_Progress_perform_152 (lv_at hl 0 rfl) ?_
  refine lv_aload_n hx hb d_Progress_perform_154 rfl (lv_at hl 3 rfl) ?_
  refine va_get (D := (dC, dI)) (ci := 1) (v := .ref g2) (C := R_Progress) (T := F_Progress) (N := 6) hx hb hw i_Progress hown hK hP 0 rfl rfl 2 (by decide) (hw _ m_206) (fun _ h9 => h9) rfl d_Progress_perform_155 ?_
  refine lv_iload_n hx hb d_Progress_perform_158 rfl (lv_at hl 2 rfl) ?_
  refine va_iald (D := (dC, dI)) hx hb hK hP 2 1 rfl rfl (i := nI ((pg 6) a)) (pk_in ((pg 6) a) 8 (by omega)) d_Progress_perform_159 ?_
  refine tp_i (y := rg ((pg 6) a)) (by rw [show (nI ((pg 6) a) : Int32).toNatClampNeg = (pg 6) a from pk_cl ((pg 6) a)]) ?_
  refine lv_iload hx hb d_Progress_perform_160 (lv_at hl 1 rfl) ?_
  refine lv_icmp_ne (tgt := 169) hx hb d_Progress_perform_162 (by decide) (fun c9 => absurd hsk c9) (fun c9 => ?_)
  refine tp_pc (pc' := 165) (by rfl) ?_
  refine lv_iconst (v := 0) hx hb d_Progress_perform_165 (by decide) ?_
  refine lv_goto (tgt := 178) hx hb d_Progress_perform_166 (by decide) ?_
  refine tp_pc (pc' := 178) (by rfl) ?_
  refine lv_iadd hx hb d_Progress_perform_178 ?_
  refine tp_i (y := 1) (by first | rfl | decide) ?_
  refine lv_istore (lv' := [(5, .int 1), (4, .int (nm a)), (3, .int (nI ((pg 6) a))), (0, .ref ga), (1, .int (nI a)), (2, .int (nI s9))]) hx hb d_Progress_perform_179 hl (by decide) rfl ?_
  clear hl ls
  intro ls hl
  refine lv_goto (tgt := 184) hx hb d_Progress_perform_181 (by decide) ?_
  refine tp_pc (pc' := 184) (by rfl) ?_
  refine lv_aload_n hx hb d_Progress_perform_184 rfl (lv_at hl 3 rfl) ?_
  refine va_get (D := (dC, dI)) (ci := 1) (v := .ref g1) (C := R_Progress) (T := F_Progress) (N := 6) hx hb hw i_Progress hown hK hP 0 rfl rfl 1 (by decide) (hw _ m_204) (fun _ h9 => h9) rfl d_Progress_perform_185 ?_
  refine lv_aload_n hx hb d_Progress_perform_188 rfl (lv_at hl 3 rfl) ?_
  refine va_get (D := (dC, dI)) (ci := 1) (v := .ref pa) (C := R_Progress) (T := F_Progress) (N := 6) hx hb hw i_Progress hown hK hP 0 rfl rfl 0 (by decide) (hw _ m_203) (fun _ h9 => h9) rfl d_Progress_perform_189 ?_
  refine va_get (D := (dC, dI)) (ci := 0) (v := .ref (pA 2)) (C := R_Program) (T := F_Program) (N := 13) hx hb hw i_Program hown hK hP 4 rfl rfl 2 (by decide) (hw _ m_132) (fun _ h9 => h9) rfl d_Progress_perform_192 ?_
  refine lv_iload_n hx hb d_Progress_perform_195 rfl (lv_at hl 4 rfl) ?_
  refine va_iald (D := (dC, dI)) hx hb hK hP 5 3 rfl rfl (i := nI a) (pk_in a 7 (by omega)) d_Progress_perform_196 ?_
  refine tp_i (y := nI ((pg 2) a)) (by rw [show (nI a : Int32).toNatClampNeg = a from pk_cl a]) ?_
  refine lv_dup2_11 hx hb d_Progress_perform_197 rfl rfl ?_
  refine va_iald (D := (dC, dI)) hx hb hK hP 1 0 rfl rfl (i := nI ((pg 2) a)) (pk_in ((pg 2) a) 4 (by omega)) d_Progress_perform_198 ?_
  refine tp_i (y := nI (pl ((pg 2) a))) (by rw [show (nI ((pg 2) a) : Int32).toNatClampNeg = (pg 2) a from pk_cl ((pg 2) a)]) ?_
  refine lv_iload hx hb d_Progress_perform_199 (lv_at hl 0 rfl) ?_
  refine lv_iadd hx hb d_Progress_perform_201 ?_
  refine tp_i (y := nI (pl ((pg 2) a) + 1)) (by exact nI_add (pl ((pg 2) a)) 1) ?_
  refine va_iast (D := (dC, dI)) hx hb hK hP (dd_D hD rfl) hS 1 0 rfl rfl (i := nI ((pg 2) a)) (x := nI (pl ((pg 2) a) + 1)) (pk_in ((pg 2) a) 4 (by omega)) d_Progress_perform_202 ?_
  clear hP hS
  intro H locs hP _ hS
  rw [show (nI ((pg 2) a) : Int32).toNatClampNeg = (pg 2) a from pk_cl ((pg 2) a)] at hP
  rw [show upd (fun i => nI (pl i)) ((pg 2) a) (nI (pl ((pg 2) a) + 1)) = fun i => nI (updN pl ((pg 2) a) (pl ((pg 2) a) + 1) i) from upd_nI] at hP
  replace hP : va_P (dC, dI) classes [oc ga 1 [.ref pa, .ref g1, .ref g2, .ref g3, .int (nI dn), .long so], ia g1 l1 4 (fun i => nI ((updN pl ((pg 2) a) (pl ((pg 2) a) + 1)) i)), ia g2 l2 8 rg, ia g3 l3 8 vl, oc pa 0 [.ref (pA 0), .ref (pA 1), .ref (pA 2), .ref (pA 3), .ref (pA 4), .ref (pA 5), .ref (pA 6), .ref (pA 7), .ref (pA 8), .ref (pA 9), .ref (pA 10), .int (nI T), .int (nI Ac)], ia (pA 2) (pK 2) 7 (fun i => nI ((pg 2) i)), ia (pA 4) (pK 4) 7 (fun i => nI ((pg 4) i)), ia (pA 5) (pK 5) 7 (fun i => nI ((pg 5) i)), ia (pA 6) (pK 6) 7 (fun i => nI ((pg 6) i)), ia (pA 7) (pK 7) 7 nm] H := hP
  refine tp_pc (pc' := 203) (by rfl) ?_
  refine lv_aload_n hx hb d_Progress_perform_203 rfl (lv_at hl 3 rfl) ?_
  refine lv_dup hx hb d_Progress_perform_204 rfl ?_
  refine va_get (D := (dC, dI)) (ci := 1) (v := .int (nI dn)) (C := R_Progress) (T := F_Progress) (N := 6) hx hb hw i_Progress hown hK hP 0 rfl rfl 4 (by decide) (hw _ m_208) (fun _ h9 => h9) rfl d_Progress_perform_205 ?_
  refine lv_iconst (v := 1) hx hb d_Progress_perform_208 (by decide) ?_
  refine lv_iload_n hx hb d_Progress_perform_209 rfl (lv_at hl 4 rfl) ?_
  refine lv_ishl hx hb d_Progress_perform_210 ?_
  refine tp_i (y := 1 <<< ((nI a) &&& 31)) rfl ?_
  refine lv_ior hx hb d_Progress_perform_211 ?_
  refine tp_i (y := (nI dn) ||| (1 <<< ((nI a) &&& 31))) rfl ?_
  refine tp_i (y := nI (dn ||| 2 ^ a)) (set_eq dn hdn a ha) ?_
  refine va_put (D := (dC, dI)) (ci := 1) (v := .int (nI (dn ||| 2 ^ a))) (ty := .int) (C := R_Progress) (T := F_Progress) (N := 6) hx hb hw i_Progress t_Progress t_Progress_ok n_Progress hown hK hP (dd_D hD rfl) hS 0 rfl rfl 4 (by decide) (hw _ m_208) (fun _ h9 => h9) rfl (by decide +kernel) rfl rfl (Nat.le_of_ble_eq_true rfl) d_Progress_perform_212 ?_
  clear hP hS locs H
  intro H locs (hP : va_P (dC, dI) classes [oc ga 1 [.ref pa, .ref g1, .ref g2, .ref g3, .int (nI (dn ||| 2 ^ a)), .long so], ia g1 l1 4 (fun i => nI ((updN pl ((pg 2) a) (pl ((pg 2) a) + 1)) i)), ia g2 l2 8 rg, ia g3 l3 8 vl, oc pa 0 [.ref (pA 0), .ref (pA 1), .ref (pA 2), .ref (pA 3), .ref (pA 4), .ref (pA 5), .ref (pA 6), .ref (pA 7), .ref (pA 8), .ref (pA 9), .ref (pA 10), .int (nI T), .int (nI Ac)], ia (pA 2) (pK 2) 7 (fun i => nI ((pg 2) i)), ia (pA 4) (pK 4) 7 (fun i => nI ((pg 4) i)), ia (pA 5) (pK 5) 7 (fun i => nI ((pg 5) i)), ia (pA 6) (pK 6) 7 (fun i => nI ((pg 6) i)), ia (pA 7) (pK 7) 7 nm] H) _ hS
  refine tp_pc (pc' := 215) (by rfl) ?_
  refine lv_aload_n hx hb d_Progress_perform_215 rfl (lv_at hl 3 rfl) ?_
  refine lv_dup hx hb d_Progress_perform_216 rfl ?_
  refine va_get (D := (dC, dI)) (ci := 1) (v := .long so) (C := R_Progress) (T := F_Progress) (N := 6) hx hb hw i_Progress hown hK hP 0 rfl rfl 5 (by decide) (hw _ m_210) (fun _ h9 => h9) rfl d_Progress_perform_217 ?_
  refine lv_iload_n hx hb d_Progress_perform_220 rfl (lv_at hl 5 rfl) ?_
  refine lv_i2l (v := (nI s9).toInt64) hx hb d_Progress_perform_221 rfl ?_
  refine lv_iconst (v := 3) hx hb d_Progress_perform_222 (by decide) ?_
  refine lv_iload_n hx hb d_Progress_perform_223 rfl (lv_at hl 4 rfl) ?_
  refine lv_imul hx hb d_Progress_perform_224 ?_
  refine tp_i (y := nI (3 * a)) (by exact pk_mul 3 a) ?_
  refine lv_lshl (v := ((nI s9).toInt64) <<< (((nI (3 * a)) : Int32).toInt64 &&& 63)) hx hb d_Progress_perform_225 rfl ?_
  refine lv_lor hx hb d_Progress_perform_226 ?_
  refine tp_l (y := so ||| (((nI s9).toInt64) <<< (((nI (3 * a)) : Int32).toInt64 &&& 63))) rfl ?_
  refine tp_l (y := srcP so s9 a) rfl ?_
  refine va_put (D := (dC, dI)) (ci := 1) (v := .long (srcP so s9 a)) (ty := .long) (C := R_Progress) (T := F_Progress) (N := 6) hx hb hw i_Progress t_Progress t_Progress_ok n_Progress hown hK hP (dd_D hD rfl) hS 0 rfl rfl 5 (by decide) (hw _ m_210) (fun _ h9 => h9) rfl (by decide +kernel) rfl rfl (Nat.le_of_ble_eq_true rfl) d_Progress_perform_227 ?_
  clear hP hS locs H
  intro H locs (hP : va_P (dC, dI) classes [oc ga 1 [.ref pa, .ref g1, .ref g2, .ref g3, .int (nI (dn ||| 2 ^ a)), .long (srcP so s9 a)], ia g1 l1 4 (fun i => nI ((updN pl ((pg 2) a) (pl ((pg 2) a) + 1)) i)), ia g2 l2 8 rg, ia g3 l3 8 vl, oc pa 0 [.ref (pA 0), .ref (pA 1), .ref (pA 2), .ref (pA 3), .ref (pA 4), .ref (pA 5), .ref (pA 6), .ref (pA 7), .ref (pA 8), .ref (pA 9), .ref (pA 10), .int (nI T), .int (nI Ac)], ia (pA 2) (pK 2) 7 (fun i => nI ((pg 2) i)), ia (pA 4) (pK 4) 7 (fun i => nI ((pg 4) i)), ia (pA 5) (pK 5) 7 (fun i => nI ((pg 5) i)), ia (pA 6) (pK 6) 7 (fun i => nI ((pg 6) i)), ia (pA 7) (pK 7) 7 nm] H) _ hS
  refine tp_pc (pc' := 230) (by rfl) ?_
  obtain ⟨hP9, hD9, -⟩ := cut3 (wc := [oc ga 1 [.ref pa, .ref g1, .ref g2, .ref g3, .int (nI (dn ||| 2 ^ a)), .long (srcP so s9 a)], ia g1 l1 4 (fun i => nI ((updN pl ((pg 2) a) (pl ((pg 2) a) + 1)) i)), ia g2 l2 8 rg, ia g3 l3 8 vl, oc pa 0 [.ref (pA 0), .ref (pA 1), .ref (pA 2), .ref (pA 3), .ref (pA 4), .ref (pA 5), .ref (pA 6), .ref (pA 7), .ref (pA 8), .ref (pA 9), .ref (pA 10), .int (nI T), .int (nI Ac)], ia (pA 2) (pK 2) 7 (fun i => nI ((pg 2) i)), ia (pA 4) (pK 4) 7 (fun i => nI ((pg 4) i)), ia (pA 5) (pK 5) 7 (fun i => nI ((pg 5) i)), ia (pA 6) (pK 6) 7 (fun i => nI ((pg 6) i)), ia (pA 7) (pK 7) 7 nm]) hP hD rfl hS hA [0, 1, 2, 3, 4, 5, 6, 7, 8, 9] (by decide +kernel) rfl
  have hK9 := hK.sub (tys' := []) [] rfl
  refine W.widen (k := 0) (n := 0) (by exact Nat.le_of_ble_eq_true rfl) (by exact Nat.le_of_ble_eq_true rfl) ?_
  exact W.vret hx hb hr (fun t9 ht9 hW => ⟨⟨(), rfl, trivial, by rw [ht9]; exact hP9, va_K.moved hW.alike hK9, hD9⟩, hS.F ht9⟩) hS.2.2 d_Progress_perform_230
