set_option maxHeartbeats 4000000 in
set_option maxRecDepth 100000 in
theorem gen_Ref_known_1y (l : Launch) (dC : Nat → ClassId) (dI : Nat → Nat → Nat) (ra : Nat) (rA : Nat → Nat) (rK9 : Nat → ClassId) (T Ac md wd mn cb ld gm my : Nat) (ir mr : Int32) (t a cn : Nat) (sf vv : Nat → Int32) (kd vx rr : Nat → Nat) (z po wn : Nat) (ro ad pi pm : Nat → Nat) (ht : t < 4) (ha : a < 28) (hk : kd a = 1) (hx3 : vx a < 3) (hrr : rr a < 2) (hc9 : cn < 9) (hz8 : z ≤ 8) (hzz : sf (37 + vx a) = nI z) (hpo : po < 8 ∧ sf (41 + 8 * vx a + po) = sf (139 + 4 * t + vx a) ∧ ∀ q, q < po → ¬ sf (41 + 8 * vx a + q) = sf (139 + 4 * t + vx a)) (hro : ∀ q, q < z → sf (41 + 8 * vx a + q) = nI (ro q) ∧ ro q < 11) (had : ∀ q, q < z → sf (84 + ro q) = nI (ad q) ∧ ad q < 2) (hcc : (po < cn ∧ cn ≤ z) ∧ ¬ (cn < z ∧ ad cn = 1)) (h15 : sf 15 = nI wn) (hwn : wn < 11) (hz7 : z ≤ 7) (sz : Nat) : Met l y_Ref_known w_Ref_known ({ frames := 2, cells := 0, slots := 0, locals := 100 }) (va_Pc [.ref ra, .int (nI t), .int (nI a), .int (nI cn)] (fun U => U.heap.size = sz ∧ va_P (dC, dI) classes [oc ra 8 [.int (nI T), .int (nI Ac), .ref (rA 2), .ref (rA 3), .ref (rA 4), .ref (rA 5), .ref (rA 6), .ref (rA 7), .ref (rA 8), .ref (rA 9), .ref (rA 10), .ref (rA 11), .ref (rA 12), .ref (rA 13), .int ir, .ref (rA 15), .ref (rA 16), .ref (rA 17), .ref (rA 18), .int (nI md), .int (nI wd), .ref (rA 21), .ref (rA 22), .ref (rA 23), .int (nI mn), .ref (rA 25), .int (nI cb), .int mr, .ref (rA 28), .ref (rA 29), .ref (rA 30), .ref (rA 31), .ref (rA 32), .ref (rA 33), .ref (rA 34), .ref (rA 35), .int (nI ld), .int (nI gm), .ref (rA 38), .ref (rA 39), .ref (rA 40), .ref (rA 41), .ref (rA 42), .ref (rA 43), .ref (rA 44), .ref (rA 45), .int (nI my), .ref (rA 47)], ia (rA 16) (rK9 16) 155 sf, ia (rA 3) (rK9 3) 28 (fun i => nI (kd i)), ia (rA 4) (rK9 4) 28 (fun i => nI (vx i)), ia (rA 5) (rK9 5) 28 (fun i => nI (rr i)), ia (rA 6) (rK9 6) 28 vv] U.heap ∧ va_K (dC, dI) classes [((rK9 16), .int), ((rK9 3), .int), ((rK9 4), .int), ((rK9 5), .int), ((rK9 6), .int)] U ∧ va_D (fun _ => True) [oc ra 8 [.int (nI T), .int (nI Ac), .ref (rA 2), .ref (rA 3), .ref (rA 4), .ref (rA 5), .ref (rA 6), .ref (rA 7), .ref (rA 8), .ref (rA 9), .ref (rA 10), .ref (rA 11), .ref (rA 12), .ref (rA 13), .int ir, .ref (rA 15), .ref (rA 16), .ref (rA 17), .ref (rA 18), .int (nI md), .int (nI wd), .ref (rA 21), .ref (rA 22), .ref (rA 23), .int (nI mn), .ref (rA 25), .int (nI cb), .int mr, .ref (rA 28), .ref (rA 29), .ref (rA 30), .ref (rA 31), .ref (rA 32), .ref (rA 33), .ref (rA 34), .ref (rA 35), .int (nI ld), .int (nI gm), .ref (rA 38), .ref (rA 39), .ref (rA 40), .ref (rA 41), .ref (rA 42), .ref (rA 43), .ref (rA 44), .ref (rA 45), .int (nI my), .ref (rA 47)], ia (rA 16) (rK9 16) 155 sf, ia (rA 3) (rK9 3) 28 (fun i => nI (kd i)), ia (rA 4) (rK9 4) 28 (fun i => nI (vx i)), ia (rA 5) (rK9 5) 28 (fun i => nI (rr i)), ia (rA 6) (rK9 6) 28 vv] ∧ nw U)) (va_Qi (fun (r : Int32) (_ : Unit) => r = 1) (fun _ t9 => va_P (dC, dI) classes [oc ra 8 [.int (nI T), .int (nI Ac), .ref (rA 2), .ref (rA 3), .ref (rA 4), .ref (rA 5), .ref (rA 6), .ref (rA 7), .ref (rA 8), .ref (rA 9), .ref (rA 10), .ref (rA 11), .ref (rA 12), .ref (rA 13), .int ir, .ref (rA 15), .ref (rA 16), .ref (rA 17), .ref (rA 18), .int (nI md), .int (nI wd), .ref (rA 21), .ref (rA 22), .ref (rA 23), .int (nI mn), .ref (rA 25), .int (nI cb), .int mr, .ref (rA 28), .ref (rA 29), .ref (rA 30), .ref (rA 31), .ref (rA 32), .ref (rA 33), .ref (rA 34), .ref (rA 35), .int (nI ld), .int (nI gm), .ref (rA 38), .ref (rA 39), .ref (rA 40), .ref (rA 41), .ref (rA 42), .ref (rA 43), .ref (rA 44), .ref (rA 45), .int (nI my), .ref (rA 47)], ia (rA 16) (rK9 16) 155 (kwF (puB (upd sf t (sf t + 1)) t (vx a) cn z wn (vv a) 0) t wn 4), ia (rA 3) (rK9 3) 28 (fun i => nI (kd i)), ia (rA 4) (rK9 4) 28 (fun i => nI (vx i)), ia (rA 5) (rK9 5) 28 (fun i => nI (rr i)), ia (rA 6) (rK9 6) 28 vv] t9.heap ∧ va_K (dC, dI) classes [] t9 ∧ va_D (va_A [oc ra 8 [.int (nI T), .int (nI Ac), .ref (rA 2), .ref (rA 3), .ref (rA 4), .ref (rA 5), .ref (rA 6), .ref (rA 7), .ref (rA 8), .ref (rA 9), .ref (rA 10), .ref (rA 11), .ref (rA 12), .ref (rA 13), .int ir, .ref (rA 15), .ref (rA 16), .ref (rA 17), .ref (rA 18), .int (nI md), .int (nI wd), .ref (rA 21), .ref (rA 22), .ref (rA 23), .int (nI mn), .ref (rA 25), .int (nI cb), .int mr, .ref (rA 28), .ref (rA 29), .ref (rA 30), .ref (rA 31), .ref (rA 32), .ref (rA 33), .ref (rA 34), .ref (rA 35), .int (nI ld), .int (nI gm), .ref (rA 38), .ref (rA 39), .ref (rA 40), .ref (rA 41), .ref (rA 42), .ref (rA 43), .ref (rA 44), .ref (rA 45), .int (nI my), .ref (rA 47)], ia (rA 16) (rK9 16) 155 sf, ia (rA 3) (rK9 3) 28 (fun i => nI (kd i)), ia (rA 4) (rK9 4) 28 (fun i => nI (vx i)), ia (rA 5) (rK9 5) 28 (fun i => nI (rr i)), ia (rA 6) (rK9 6) 28 vv] sz) [oc ra 8 [.int (nI T), .int (nI Ac), .ref (rA 2), .ref (rA 3), .ref (rA 4), .ref (rA 5), .ref (rA 6), .ref (rA 7), .ref (rA 8), .ref (rA 9), .ref (rA 10), .ref (rA 11), .ref (rA 12), .ref (rA 13), .int ir, .ref (rA 15), .ref (rA 16), .ref (rA 17), .ref (rA 18), .int (nI md), .int (nI wd), .ref (rA 21), .ref (rA 22), .ref (rA 23), .int (nI mn), .ref (rA 25), .int (nI cb), .int mr, .ref (rA 28), .ref (rA 29), .ref (rA 30), .ref (rA 31), .ref (rA 32), .ref (rA 33), .ref (rA 34), .ref (rA 35), .int (nI ld), .int (nI gm), .ref (rA 38), .ref (rA 39), .ref (rA 40), .ref (rA 41), .ref (rA 42), .ref (rA 43), .ref (rA 44), .ref (rA 45), .int (nI my), .ref (rA 47)], ia (rA 16) (rK9 16) 155 (kwF (puB (upd sf t (sf t + 1)) t (vx a) cn z wn (vv a) 0) t wn 4), ia (rA 3) (rK9 3) 28 (fun i => nI (kd i)), ia (rA 4) (rK9 4) 28 (fun i => nI (vx i)), ia (rA 5) (rK9 5) 28 (fun i => nI (rr i)), ia (rA 6) (rK9 6) 28 vv]) (va_A [oc ra 8 [.int (nI T), .int (nI Ac), .ref (rA 2), .ref (rA 3), .ref (rA 4), .ref (rA 5), .ref (rA 6), .ref (rA 7), .ref (rA 8), .ref (rA 9), .ref (rA 10), .ref (rA 11), .ref (rA 12), .ref (rA 13), .int ir, .ref (rA 15), .ref (rA 16), .ref (rA 17), .ref (rA 18), .int (nI md), .int (nI wd), .ref (rA 21), .ref (rA 22), .ref (rA 23), .int (nI mn), .ref (rA 25), .int (nI cb), .int mr, .ref (rA 28), .ref (rA 29), .ref (rA 30), .ref (rA 31), .ref (rA 32), .ref (rA 33), .ref (rA 34), .ref (rA 35), .int (nI ld), .int (nI gm), .ref (rA 38), .ref (rA 39), .ref (rA 40), .ref (rA 41), .ref (rA 42), .ref (rA 43), .ref (rA 44), .ref (rA 45), .int (nI my), .ref (rA 47)], ia (rA 16) (rK9 16) 155 sf, ia (rA 3) (rK9 3) 28 (fun i => nI (kd i)), ia (rA 4) (rK9 4) 28 (fun i => nI (vx i)), ia (rA 5) (rK9 5) 28 (fun i => nI (rr i)), ia (rA 6) (rK9 6) 28 vv] sz)) 0 0 (va_A [oc ra 8 [.int (nI T), .int (nI Ac), .ref (rA 2), .ref (rA 3), .ref (rA 4), .ref (rA 5), .ref (rA 6), .ref (rA 7), .ref (rA 8), .ref (rA 9), .ref (rA 10), .ref (rA 11), .ref (rA 12), .ref (rA 13), .int ir, .ref (rA 15), .ref (rA 16), .ref (rA 17), .ref (rA 18), .int (nI md), .int (nI wd), .ref (rA 21), .ref (rA 22), .ref (rA 23), .int (nI mn), .ref (rA 25), .int (nI cb), .int mr, .ref (rA 28), .ref (rA 29), .ref (rA 30), .ref (rA 31), .ref (rA 32), .ref (rA 33), .ref (rA 34), .ref (rA 35), .int (nI ld), .int (nI gm), .ref (rA 38), .ref (rA 39), .ref (rA 40), .ref (rA 41), .ref (rA 42), .ref (rA 43), .ref (rA 44), .ref (rA 45), .int (nI my), .ref (rA 47)], ia (rA 16) (rK9 16) 155 sf, ia (rA 3) (rK9 3) 28 (fun i => nI (kd i)), ia (rA 4) (rK9 4) 28 (fun i => nI (vx i)), ia (rA 5) (rK9 5) 28 (fun i => nI (rr i)), ia (rA 6) (rK9 6) 28 vv] sz) := by
  refine Met.ofW (cc := b_Ref_known) (maxL := 11) (ret := (some .boolean)) (by decide) rfl ?_
  intro p e0 s m args below meth c s₁ B hml hv
  obtain ⟨rfl, hsz, hP, hK, hD0, hn⟩ := hv
  have hx := B.exec
  have hb := B.bytes
  have hr := B.returns
  have hw := fun w (h : w ∈ wt) => atoms_spec (ws := w_Ref_known) B.pre w (List.mem_cons_of_mem _ h)
  have hown : s.vm.findClass R_Ref = some m.cls := findClass_of_methodNamed B.named
  have hlocks := B.notSynchronized
  subst hsz
  have hD1 := hD0.self (sz := s.heap.size)
  generalize hAe : va_A [oc ra 8 [.int (nI T), .int (nI Ac), .ref (rA 2), .ref (rA 3), .ref (rA 4), .ref (rA 5), .ref (rA 6), .ref (rA 7), .ref (rA 8), .ref (rA 9), .ref (rA 10), .ref (rA 11), .ref (rA 12), .ref (rA 13), .int ir, .ref (rA 15), .ref (rA 16), .ref (rA 17), .ref (rA 18), .int (nI md), .int (nI wd), .ref (rA 21), .ref (rA 22), .ref (rA 23), .int (nI mn), .ref (rA 25), .int (nI cb), .int mr, .ref (rA 28), .ref (rA 29), .ref (rA 30), .ref (rA 31), .ref (rA 32), .ref (rA 33), .ref (rA 34), .ref (rA 35), .int (nI ld), .int (nI gm), .ref (rA 38), .ref (rA 39), .ref (rA 40), .ref (rA 41), .ref (rA 42), .ref (rA 43), .ref (rA 44), .ref (rA 45), .int (nI my), .ref (rA 47)], ia (rA 16) (rK9 16) 155 sf, ia (rA 3) (rK9 3) 28 (fun i => nI (kd i)), ia (rA 4) (rK9 4) 28 (fun i => nI (vx i)), ia (rA 5) (rK9 5) 28 (fun i => nI (rr i)), ia (rA 6) (rK9 6) 28 vv] s.heap.size = A at hD1 ⊢
  have hA : ∀ q : Nat, s.heap.size ≤ q → A q := fun q h => by rw [← hAe]; exact Or.inr h
  have hD : dd A [ra, (rA 16), (rA 3), (rA 4), (rA 5), (rA 6)] := dd_of hD1 rfl
  clear hAe hD0 hD1
  have hS : va_S A s.heap s.heap [] := va_S.rf
  replace hP : va_P (dC, dI) classes [oc ra 8 [.int (nI T), .int (nI Ac), .ref (rA 2), .ref (rA 3), .ref (rA 4), .ref (rA 5), .ref (rA 6), .ref (rA 7), .ref (rA 8), .ref (rA 9), .ref (rA 10), .ref (rA 11), .ref (rA 12), .ref (rA 13), .int ir, .ref (rA 15), .ref (rA 16), .ref (rA 17), .ref (rA 18), .int (nI md), .int (nI wd), .ref (rA 21), .ref (rA 22), .ref (rA 23), .int (nI mn), .ref (rA 25), .int (nI cb), .int mr, .ref (rA 28), .ref (rA 29), .ref (rA 30), .ref (rA 31), .ref (rA 32), .ref (rA 33), .ref (rA 34), .ref (rA 35), .int (nI ld), .int (nI gm), .ref (rA 38), .ref (rA 39), .ref (rA 40), .ref (rA 41), .ref (rA 42), .ref (rA 43), .ref (rA 44), .ref (rA 45), .int (nI my), .ref (rA 47)], ia (rA 16) (rK9 16) 155 sf, ia (rA 3) (rK9 3) 28 (fun i => nI (kd i)), ia (rA 4) (rK9 4) 28 (fun i => nI (vx i)), ia (rA 5) (rK9 5) 28 (fun i => nI (rr i)), ia (rA 6) (rK9 6) 28 vv] s.heap := hP
  have hl := lv_entry ([.ref ra, .int (nI t), .int (nI a), .int (nI cn)]) (n := 11) (Nat.le_of_ble_eq_true rfl)
  rw [lg_entry_eq]
  generalize (lg_sl ([.ref ra, .int (nI t), .int (nI a), .int (nI cn)]) ++ List.replicate (11 - (lg_sl ([.ref ra, .int (nI t), .int (nI a), .int (nI cn)])).length) Slot.unset).toArray = ls at hl ⊢
  replace hl : lv_has ls 11 [(0, .ref ra), (1, .int (nI t)), (2, .int (nI a)), (3, .int (nI cn))] := hl
  refine lv_aload_n hx hb d_Ref_known_0 rfl (lv_at hl 0 rfl) ?_
  refine va_get (D := (dC, dI)) (ci := 8) (v := .ref (rA 3)) (C := R_Ref) (T := F_Ref) (N := 48) hx hb hw i_Ref hown hK hP 0 rfl rfl 3 (by decide) (hw _ m_902) (fun _ h9 => h9) rfl d_Ref_known_1 ?_
  refine lv_iload_n hx hb d_Ref_known_4 rfl (lv_at hl 2 rfl) ?_
  refine va_iald (D := (dC, dI)) hx hb hK hP 2 1 rfl rfl (i := nI a) (pk_in a 28 (by omega)) d_Ref_known_5 ?_
  refine tp_i (y := nI (kd a)) (by rw [show (nI a : Int32).toNatClampNeg = a from pk_cl a]) ?_
  refine tp_i (y := 1) (by rw [hk]; rfl) ?_
  obtain ⟨o1, o2, o3⟩ := hpo
  refine lv_istore (lv' := [(4, .int 1), (0, .ref ra), (1, .int (nI t)), (2, .int (nI a)), (3, .int (nI cn))]) hx hb d_Ref_known_6 hl (by decide) rfl ?_
  clear hl ls
  intro ls hl
  refine lv_iload hx hb d_Ref_known_8 (lv_at hl 0 rfl) ?_
  refine lv_iconst (v := 4) hx hb d_Ref_known_10 (by decide) ?_
  refine lv_icmp_ne (tgt := 70) hx hb d_Ref_known_11 (by decide) (fun c_1 => ?_) (fun c_1 => absurd c_1 (by decide))
  refine tp_pc (pc' := 70) (by rfl) ?_
  refine lv_aload_n hx hb d_Ref_known_70 rfl (lv_at hl 1 rfl) ?_
  refine va_get (D := (dC, dI)) (ci := 8) (v := .ref (rA 4)) (C := R_Ref) (T := F_Ref) (N := 48) hx hb hw i_Ref hown hK hP 0 rfl rfl 4 (by decide) (hw _ m_903) (fun _ h9 => h9) rfl d_Ref_known_71 ?_
  refine lv_iload_n hx hb d_Ref_known_74 rfl (lv_at hl 3 rfl) ?_
  refine va_iald (D := (dC, dI)) hx hb hK hP 3 2 rfl rfl (i := nI a) (pk_in a 28 (by omega)) d_Ref_known_75 ?_
  refine tp_i (y := nI (vx a)) (by rw [show (nI a : Int32).toNatClampNeg = a from pk_cl a]) ?_
  refine lv_istore (lv' := [(5, .int (nI (vx a))), (4, .int 1), (0, .ref ra), (1, .int (nI t)), (2, .int (nI a)), (3, .int (nI cn))]) hx hb d_Ref_known_76 hl (by decide) rfl ?_
  clear hl ls
  intro ls hl
  refine lv_aload_n hx hb d_Ref_known_78 rfl (lv_at hl 2 rfl) ?_
  refine lv_iload hx hb d_Ref_known_79 (lv_at hl 0 rfl) ?_
  refine lv_aload_n hx hb d_Ref_known_81 rfl (lv_at hl 2 rfl) ?_
  refine va_get (D := (dC, dI)) (ci := 8) (v := .ref (rA 16)) (C := R_Ref) (T := F_Ref) (N := 48) hx hb hw i_Ref hown hK hP 0 rfl rfl 16 (by decide) (hw _ m_915) (fun _ h9 => h9) rfl d_Ref_known_82 ?_
  refine lv_sipush (v := 139) hx hb d_Ref_known_85 (by decide) ?_
  refine lv_iconst (v := 4) hx hb d_Ref_known_88 (by decide) ?_
  refine lv_iload_n hx hb d_Ref_known_89 rfl (lv_at hl 3 rfl) ?_
  refine lv_imul hx hb d_Ref_known_90 ?_
  refine tp_i (y := nI (4 * t)) (by exact pk_mul 4 t) ?_
  refine lv_iadd hx hb d_Ref_known_91 ?_
  refine tp_i (y := nI (139 + (4 * t))) (by exact nI_add 139 (4 * t)) ?_
  refine lv_iload hx hb d_Ref_known_92 (lv_at hl 0 rfl) ?_
  refine lv_iadd hx hb d_Ref_known_94 ?_
  refine tp_i (y := nI (139 + (4 * t) + (vx a))) (by exact nI_add (139 + (4 * t)) (vx a)) ?_
  refine va_iald (D := (dC, dI)) hx hb hK hP 1 0 rfl rfl (i := nI (139 + (4 * t) + (vx a))) (pk_in (139 + (4 * t) + (vx a)) 155 (by omega)) d_Ref_known_95 ?_
  refine tp_i (y := sf (139 + (4 * t) + (vx a))) (by rw [show (nI (139 + (4 * t) + (vx a)) : Int32).toNatClampNeg = 139 + (4 * t) + (vx a) from pk_cl (139 + (4 * t) + (vx a))]) ?_
  obtain ⟨hPc, hDc, hFc⟩ := cut3 (wc := [oc ra 8 [.int (nI T), .int (nI Ac), .ref (rA 2), .ref (rA 3), .ref (rA 4), .ref (rA 5), .ref (rA 6), .ref (rA 7), .ref (rA 8), .ref (rA 9), .ref (rA 10), .ref (rA 11), .ref (rA 12), .ref (rA 13), .int ir, .ref (rA 15), .ref (rA 16), .ref (rA 17), .ref (rA 18), .int (nI md), .int (nI wd), .ref (rA 21), .ref (rA 22), .ref (rA 23), .int (nI mn), .ref (rA 25), .int (nI cb), .int mr, .ref (rA 28), .ref (rA 29), .ref (rA 30), .ref (rA 31), .ref (rA 32), .ref (rA 33), .ref (rA 34), .ref (rA 35), .int (nI ld), .int (nI gm), .ref (rA 38), .ref (rA 39), .ref (rA 40), .ref (rA 41), .ref (rA 42), .ref (rA 43), .ref (rA 44), .ref (rA 45), .int (nI my), .ref (rA 47)], ia (rA 16) (rK9 16) 155 sf]) hP hD rfl hS hA [0, 1] (by decide +kernel) rfl
  have hKc := hK.sub (tys' := [((rK9 16), .int)]) [0] rfl
  refine va_calli (va_runV (As := [.int (nI (vx a)), .int (sf (139 + (4 * t) + (vx a)))]) (rest := []) ⟨hx, hb, hml, hown, hw⟩ (gen_Ref_placeOf l dC dI ra rA rK9 T Ac md wd mn cb ld gm my ir mr (vx a) po (sf (139 + 4 * t + vx a)) sf (by omega) o1 o2 o3 s.heap.size) (cw_V 2 hw g_Ref_placeOf rfl rfl rfl (hw _ m_109) (hw _ m_1101) (hw _ m_1103) (hw _ m_60) (by decide +kernel) ⟨Nat.le_of_ble_eq_true rfl, Nat.le_of_ble_eq_true rfl⟩) ⟨fun a U g mk q => by obtain ⟨q0, q1, qP, qK, qD, qN⟩ := q; exact ⟨q0, q1, qP, va_K.moved (u := U) (U := U.calling g mk a) (Vm.Alike.refl U.vm) qK, qD, nw_call qN⟩, va_recv hKc hPc (ci := 8) (q0 := 0) rfl rfl, fun U hU hW => ⟨rfl, by rw [hU], by rw [hU]; exact hPc, va_K.moved hW.alike hKc, hDc.weaken (fun _ _ _ _ => trivial), nw_warm hW hn⟩⟩ rfl rfl hl.1 rfl (lv_room (Nat.le_of_ble_eq_true rfl)) d_Ref_known_96 ⟨Nat.le_of_ble_eq_true rfl, Nat.le_of_ble_eq_true rfl⟩) hS (fun q _ h => hFc q h) hFc ?_
  intro r_2 u t9 H1 locs1 ht9 hvm hw1 hB hz1 hk1 hS1
  obtain ⟨hP1, hK1, hD1⟩ := hB
  rw [ht9] at hP1
  replace hK1 := va_K.moved hvm.symm hK1
  have hPD := join3 hP hD rfl [0, 1] [2, 3, 4, 5] rfl (by rfl) (by decide +kernel) (by decide +kernel) hk1 hFc hP1 hD1
  replace hK : va_K (dC, dI) classes [((rK9 16), .int), ((rK9 3), .int), ((rK9 4), .int), ((rK9 5), .int), ((rK9 6), .int)] s := hK.app hK1
  clear hP1 hK1 hD1 hk1 hz1 hFc hKc hDc hPc hvm ht9 hP hS t9
  have hP : va_P (dC, dI) classes [ia (rA 3) (rK9 3) 28 (fun i => nI (kd i)), ia (rA 4) (rK9 4) 28 (fun i => nI (vx i)), ia (rA 5) (rK9 5) 28 (fun i => nI (rr i)), ia (rA 6) (rK9 6) 28 vv, oc ra 8 [.int (nI T), .int (nI Ac), .ref (rA 2), .ref (rA 3), .ref (rA 4), .ref (rA 5), .ref (rA 6), .ref (rA 7), .ref (rA 8), .ref (rA 9), .ref (rA 10), .ref (rA 11), .ref (rA 12), .ref (rA 13), .int ir, .ref (rA 15), .ref (rA 16), .ref (rA 17), .ref (rA 18), .int (nI md), .int (nI wd), .ref (rA 21), .ref (rA 22), .ref (rA 23), .int (nI mn), .ref (rA 25), .int (nI cb), .int mr, .ref (rA 28), .ref (rA 29), .ref (rA 30), .ref (rA 31), .ref (rA 32), .ref (rA 33), .ref (rA 34), .ref (rA 35), .int (nI ld), .int (nI gm), .ref (rA 38), .ref (rA 39), .ref (rA 40), .ref (rA 41), .ref (rA 42), .ref (rA 43), .ref (rA 44), .ref (rA 45), .int (nI my), .ref (rA 47)], ia (rA 16) (rK9 16) 155 sf] H1 := hPD.1
  replace hD : dd A [(rA 3), (rA 4), (rA 5), (rA 6), ra, (rA 16)] := dd_of hPD.2 rfl
  clear hPD
  revert H1 locs1
  intro H locs hS hP
  refine tp_i (y := nI po) (hw1) ?_
  clear hw1 r_2 u
  refine tp_pc (pc' := 99) (by rfl) ?_
  refine lv_istore (lv' := [(6, .int (nI po)), (5, .int (nI (vx a))), (4, .int 1), (0, .ref ra), (1, .int (nI t)), (2, .int (nI a)), (3, .int (nI cn))]) hx hb d_Ref_known_99 hl (by decide) rfl ?_
  clear hl ls
  intro ls hl
  refine lv_aload_n hx hb d_Ref_known_101 rfl (lv_at hl 3 rfl) ?_
  refine va_get (D := (dC, dI)) (ci := 8) (v := .ref (rA 16)) (C := R_Ref) (T := F_Ref) (N := 48) hx hb hw i_Ref hown hK hP 4 rfl rfl 16 (by decide) (hw _ m_915) (fun _ h9 => h9) rfl d_Ref_known_102 ?_
  refine lv_bipush (v := 37) hx hb d_Ref_known_105 (by decide) ?_
  refine lv_iload hx hb d_Ref_known_107 (lv_at hl 1 rfl) ?_
  refine lv_iadd hx hb d_Ref_known_109 ?_
  refine tp_i (y := nI (37 + (vx a))) (by exact nI_add 37 (vx a)) ?_
  refine va_iald (D := (dC, dI)) hx hb hK hP 5 0 rfl rfl (i := nI (37 + (vx a))) (pk_in (37 + (vx a)) 155 (by omega)) d_Ref_known_110 ?_
  refine tp_i (y := sf (37 + (vx a))) (by rw [show (nI (37 + (vx a)) : Int32).toNatClampNeg = 37 + (vx a) from pk_cl (37 + (vx a))]) ?_
  refine tp_i (y := nI z) hzz ?_
  refine lv_istore (lv' := [(7, .int (nI z)), (6, .int (nI po)), (5, .int (nI (vx a))), (4, .int 1), (0, .ref ra), (1, .int (nI t)), (2, .int (nI a)), (3, .int (nI cn))]) hx hb d_Ref_known_111 hl (by decide) rfl ?_
  clear hl ls
  intro ls hl
  refine lp_j 163 (fun ls => lv_has ls 11 [(8, .int (if cn + 1 < z ∧ ad (cn + 1) = 1 then 1 else 0)), (7, .int (nI z)), (6, .int (nI po)), (5, .int (nI (vx a))), (4, .int 1), (0, .ref ra), (1, .int (nI t)), (2, .int (nI a)), (3, .int (nI cn))]) ?_ ?_
  rotate_left
  · intro kJ
    refine lv_iload_n hx hb d_Ref_known_113 rfl (lv_at hl 7 rfl) ?_
    refine lv_iload hx hb d_Ref_known_114 (lv_at hl 0 rfl) ?_
    refine lv_icmp_ge (tgt := 160) hx hb d_Ref_known_116 (by decide) (fun d1 => ?_) (fun d1 => ?_)
    · skip
      have hd1 : z ≤ cn := (nI_leI (a := z) (b := cn) (by omega) (by omega)).mp d1
      refine tp_pc (pc' := 160) (by rfl) ?_
      refine lv_iconst (v := 0) hx hb d_Ref_known_160 (by decide) ?_
      refine tp_i (y := (if cn + 1 < z ∧ ad (cn + 1) = 1 then 1 else 0)) (by rw [if_neg (by omega)]) ?_
      refine lv_istore (lv' := [(8, .int (if cn + 1 < z ∧ ad (cn + 1) = 1 then 1 else 0)), (7, .int (nI z)), (6, .int (nI po)), (5, .int (nI (vx a))), (4, .int 1), (0, .ref ra), (1, .int (nI t)), (2, .int (nI a)), (3, .int (nI cn))]) hx hb d_Ref_known_161 hl (by decide) rfl ?_
      clear hl ls
      intro ls hl
      exact kJ _ (lv_sub hl [0, 1, 2, 3, 4, 5, 6, 7, 8] rfl)
    · skip
      have hd1 : ¬ (z ≤ cn) := fun q9 => d1 ((nI_leI (a := z) (b := cn) (by omega) (by omega)).mpr q9)
      refine tp_pc (pc' := 119) (by rfl) ?_
      refine lv_iload_n hx hb d_Ref_known_119 rfl (lv_at hl 7 rfl) ?_
      refine lv_iconst (v := 1) hx hb d_Ref_known_120 (by decide) ?_
      refine lv_iadd hx hb d_Ref_known_121 ?_
      refine tp_i (y := nI (cn + 1)) (by exact nI_add cn 1) ?_
      refine lv_iload hx hb d_Ref_known_122 (lv_at hl 0 rfl) ?_
      refine lv_icmp_ge (tgt := 160) hx hb d_Ref_known_124 (by decide) (fun d2 => ?_) (fun d2 => ?_)
      · skip
        have hd2 : z ≤ cn + 1 := (nI_leI (a := z) (b := cn + 1) (by omega) (by omega)).mp d2
        refine tp_pc (pc' := 160) (by rfl) ?_
        refine lv_iconst (v := 0) hx hb d_Ref_known_160 (by decide) ?_
        refine tp_i (y := (if cn + 1 < z ∧ ad (cn + 1) = 1 then 1 else 0)) (by rw [if_neg (by omega)]) ?_
        refine lv_istore (lv' := [(8, .int (if cn + 1 < z ∧ ad (cn + 1) = 1 then 1 else 0)), (7, .int (nI z)), (6, .int (nI po)), (5, .int (nI (vx a))), (4, .int 1), (0, .ref ra), (1, .int (nI t)), (2, .int (nI a)), (3, .int (nI cn))]) hx hb d_Ref_known_161 hl (by decide) rfl ?_
        clear hl ls
        intro ls hl
        exact kJ _ (lv_sub hl [0, 1, 2, 3, 4, 5, 6, 7, 8] rfl)
      · skip
        have hd2 : ¬ (z ≤ cn + 1) := fun q9 => d2 ((nI_leI (a := z) (b := cn + 1) (by omega) (by omega)).mpr q9)
        obtain ⟨r1, r2⟩ := hro (cn + 1) (by omega)
        obtain ⟨r3, r4⟩ := had (cn + 1) (by omega)
        refine tp_pc (pc' := 127) (by rfl) ?_
        refine lv_aload_n hx hb d_Ref_known_127 rfl (lv_at hl 4 rfl) ?_
        refine va_get (D := (dC, dI)) (ci := 8) (v := .ref (rA 16)) (C := R_Ref) (T := F_Ref) (N := 48) hx hb hw i_Ref hown hK hP 4 rfl rfl 16 (by decide) (hw _ m_915) (fun _ h9 => h9) rfl d_Ref_known_128 ?_
        refine lv_bipush (v := 84) hx hb d_Ref_known_131 (by decide) ?_
        refine lv_aload_n hx hb d_Ref_known_133 rfl (lv_at hl 4 rfl) ?_
        refine va_get (D := (dC, dI)) (ci := 8) (v := .ref (rA 16)) (C := R_Ref) (T := F_Ref) (N := 48) hx hb hw i_Ref hown hK hP 4 rfl rfl 16 (by decide) (hw _ m_915) (fun _ h9 => h9) rfl d_Ref_known_134 ?_
        refine lv_bipush (v := 41) hx hb d_Ref_known_137 (by decide) ?_
        refine lv_bipush (v := 8) hx hb d_Ref_known_139 (by decide) ?_
        refine lv_iload hx hb d_Ref_known_141 (lv_at hl 2 rfl) ?_
        refine lv_imul hx hb d_Ref_known_143 ?_
        refine tp_i (y := nI (8 * (vx a))) (by exact pk_mul 8 (vx a)) ?_
        refine lv_iadd hx hb d_Ref_known_144 ?_
        refine tp_i (y := nI (41 + (8 * (vx a)))) (by exact nI_add 41 (8 * (vx a))) ?_
        refine lv_iload_n hx hb d_Ref_known_145 rfl (lv_at hl 7 rfl) ?_
        refine lv_iadd hx hb d_Ref_known_146 ?_
        refine tp_i (y := nI (41 + (8 * (vx a)) + cn)) (by exact nI_add (41 + (8 * (vx a))) cn) ?_
        refine lv_iconst (v := 1) hx hb d_Ref_known_147 (by decide) ?_
        refine lv_iadd hx hb d_Ref_known_148 ?_
        refine tp_i (y := nI (41 + (8 * (vx a)) + cn + 1)) (by exact nI_add (41 + (8 * (vx a)) + cn) 1) ?_
        refine va_iald (D := (dC, dI)) hx hb hK hP 5 0 rfl rfl (i := nI (41 + (8 * (vx a)) + cn + 1)) (pk_in (41 + (8 * (vx a)) + cn + 1) 155 (by omega)) d_Ref_known_149 ?_
        refine tp_i (y := sf (41 + (8 * (vx a)) + cn + 1)) (by rw [show (nI (41 + (8 * (vx a)) + cn + 1) : Int32).toNatClampNeg = 41 + (8 * (vx a)) + cn + 1 from pk_cl (41 + (8 * (vx a)) + cn + 1)]) ?_
        refine tp_i (y := nI (ro (cn + 1))) r1 ?_
        refine lv_iadd hx hb d_Ref_known_150 ?_
        refine tp_i (y := nI (84 + (ro (cn + 1)))) (by exact nI_add 84 (ro (cn + 1))) ?_
        refine va_iald (D := (dC, dI)) hx hb hK hP 5 0 rfl rfl (i := nI (84 + (ro (cn + 1)))) (pk_in (84 + (ro (cn + 1))) 155 (by omega)) d_Ref_known_151 ?_
        refine tp_i (y := sf (84 + (ro (cn + 1)))) (by rw [show (nI (84 + (ro (cn + 1))) : Int32).toNatClampNeg = 84 + (ro (cn + 1)) from pk_cl (84 + (ro (cn + 1)))]) ?_
        refine tp_i (y := nI (ad (cn + 1))) r3 ?_
        refine lv_iconst (v := 1) hx hb d_Ref_known_152 (by decide) ?_
        refine lv_icmp_ne (tgt := 160) hx hb d_Ref_known_153 (by decide) (fun d3 => ?_) (fun d3 => ?_)
        · skip
          have hd3 : ¬ (ad (cn + 1) = 1) := fun q9 => d3 ((nI_eq (a := ad (cn + 1)) (b := 1) (by omega) (by omega)).mpr q9)
          refine tp_pc (pc' := 160) (by rfl) ?_
          refine lv_iconst (v := 0) hx hb d_Ref_known_160 (by decide) ?_
          refine tp_i (y := (if cn + 1 < z ∧ ad (cn + 1) = 1 then 1 else 0)) (by rw [if_neg (fun q => hd3 q.2)]) ?_
          refine lv_istore (lv' := [(8, .int (if cn + 1 < z ∧ ad (cn + 1) = 1 then 1 else 0)), (7, .int (nI z)), (6, .int (nI po)), (5, .int (nI (vx a))), (4, .int 1), (0, .ref ra), (1, .int (nI t)), (2, .int (nI a)), (3, .int (nI cn))]) hx hb d_Ref_known_161 hl (by decide) rfl ?_
          clear hl ls
          intro ls hl
          exact kJ _ (lv_sub hl [0, 1, 2, 3, 4, 5, 6, 7, 8] rfl)
        · skip
          have hd3 : ad (cn + 1) = 1 := (nI_eq (a := ad (cn + 1)) (b := 1) (by omega) (by omega)).mp d3
          refine tp_pc (pc' := 156) (by rfl) ?_
          refine lv_iconst (v := 1) hx hb d_Ref_known_156 (by decide) ?_
          refine lv_goto (tgt := 161) hx hb d_Ref_known_157 (by decide) ?_
          refine tp_pc (pc' := 161) (by rfl) ?_
          refine tp_i (y := (if cn + 1 < z ∧ ad (cn + 1) = 1 then 1 else 0)) (by rw [if_pos ⟨by omega, hd3⟩]) ?_
          refine lv_istore (lv' := [(8, .int (if cn + 1 < z ∧ ad (cn + 1) = 1 then 1 else 0)), (7, .int (nI z)), (6, .int (nI po)), (5, .int (nI (vx a))), (4, .int 1), (0, .ref ra), (1, .int (nI t)), (2, .int (nI a)), (3, .int (nI cn))]) hx hb d_Ref_known_161 hl (by decide) rfl ?_
          clear hl ls
          intro ls hl
          exact kJ _ (lv_sub hl [0, 1, 2, 3, 4, 5, 6, 7, 8] rfl)
  · intro ls hl
    refine lp_j 203 (fun ls => lv_has ls 11 [(9, .int (if cn < z ∧ ad cn = 1 then 1 else 0)), (8, .int (if cn + 1 < z ∧ ad (cn + 1) = 1 then 1 else 0)), (7, .int (nI z)), (6, .int (nI po)), (5, .int (nI (vx a))), (4, .int 1), (0, .ref ra), (1, .int (nI t)), (2, .int (nI a)), (3, .int (nI cn))]) ?_ ?_
    rotate_left
    · intro kJ
      refine lv_iload_n hx hb d_Ref_known_163 rfl (lv_at hl 8 rfl) ?_
      refine lv_iload hx hb d_Ref_known_164 (lv_at hl 1 rfl) ?_
      refine lv_icmp_ge (tgt := 200) hx hb d_Ref_known_166 (by decide) (fun d1 => ?_) (fun d1 => ?_)
      · skip
        have hd1 : z ≤ cn := (nI_leI (a := z) (b := cn) (by omega) (by omega)).mp d1
        refine tp_pc (pc' := 200) (by rfl) ?_
        refine lv_iconst (v := 0) hx hb d_Ref_known_200 (by decide) ?_
        refine tp_i (y := (if cn < z ∧ ad cn = 1 then 1 else 0)) (by rw [if_neg (by omega)]) ?_
        refine lv_istore (lv' := [(9, .int (if cn < z ∧ ad cn = 1 then 1 else 0)), (8, .int (if cn + 1 < z ∧ ad (cn + 1) = 1 then 1 else 0)), (7, .int (nI z)), (6, .int (nI po)), (5, .int (nI (vx a))), (4, .int 1), (0, .ref ra), (1, .int (nI t)), (2, .int (nI a)), (3, .int (nI cn))]) hx hb d_Ref_known_201 hl (by decide) rfl ?_
        clear hl ls
        intro ls hl
        exact kJ _ (lv_sub hl [0, 1, 2, 3, 4, 5, 6, 7, 8, 9] rfl)
      · skip
        have hd1 : ¬ (z ≤ cn) := fun q9 => d1 ((nI_leI (a := z) (b := cn) (by omega) (by omega)).mpr q9)
        obtain ⟨r1, r2⟩ := hro (cn) (by omega)
        obtain ⟨r3, r4⟩ := had (cn) (by omega)
        refine tp_pc (pc' := 169) (by rfl) ?_
        refine lv_aload_n hx hb d_Ref_known_169 rfl (lv_at hl 5 rfl) ?_
        refine va_get (D := (dC, dI)) (ci := 8) (v := .ref (rA 16)) (C := R_Ref) (T := F_Ref) (N := 48) hx hb hw i_Ref hown hK hP 4 rfl rfl 16 (by decide) (hw _ m_915) (fun _ h9 => h9) rfl d_Ref_known_170 ?_
        refine lv_bipush (v := 84) hx hb d_Ref_known_173 (by decide) ?_
        refine lv_aload_n hx hb d_Ref_known_175 rfl (lv_at hl 5 rfl) ?_
        refine va_get (D := (dC, dI)) (ci := 8) (v := .ref (rA 16)) (C := R_Ref) (T := F_Ref) (N := 48) hx hb hw i_Ref hown hK hP 4 rfl rfl 16 (by decide) (hw _ m_915) (fun _ h9 => h9) rfl d_Ref_known_176 ?_
        refine lv_bipush (v := 41) hx hb d_Ref_known_179 (by decide) ?_
        refine lv_bipush (v := 8) hx hb d_Ref_known_181 (by decide) ?_
        refine lv_iload hx hb d_Ref_known_183 (lv_at hl 3 rfl) ?_
        refine lv_imul hx hb d_Ref_known_185 ?_
        refine tp_i (y := nI (8 * (vx a))) (by exact pk_mul 8 (vx a)) ?_
        refine lv_iadd hx hb d_Ref_known_186 ?_
        refine tp_i (y := nI (41 + (8 * (vx a)))) (by exact nI_add 41 (8 * (vx a))) ?_
        refine lv_iload_n hx hb d_Ref_known_187 rfl (lv_at hl 8 rfl) ?_
        refine lv_iadd hx hb d_Ref_known_188 ?_
        refine tp_i (y := nI (41 + (8 * (vx a)) + cn)) (by exact nI_add (41 + (8 * (vx a))) cn) ?_
        refine va_iald (D := (dC, dI)) hx hb hK hP 5 0 rfl rfl (i := nI (41 + (8 * (vx a)) + cn)) (pk_in (41 + (8 * (vx a)) + cn) 155 (by omega)) d_Ref_known_189 ?_
        refine tp_i (y := sf (41 + (8 * (vx a)) + cn)) (by rw [show (nI (41 + (8 * (vx a)) + cn) : Int32).toNatClampNeg = 41 + (8 * (vx a)) + cn from pk_cl (41 + (8 * (vx a)) + cn)]) ?_
        refine tp_i (y := nI (ro (cn))) r1 ?_
        refine lv_iadd hx hb d_Ref_known_190 ?_
        refine tp_i (y := nI (84 + (ro (cn)))) (by exact nI_add 84 (ro (cn))) ?_
        refine va_iald (D := (dC, dI)) hx hb hK hP 5 0 rfl rfl (i := nI (84 + (ro (cn)))) (pk_in (84 + (ro (cn))) 155 (by omega)) d_Ref_known_191 ?_
        refine tp_i (y := sf (84 + (ro (cn)))) (by rw [show (nI (84 + (ro (cn))) : Int32).toNatClampNeg = 84 + (ro (cn)) from pk_cl (84 + (ro (cn)))]) ?_
        refine tp_i (y := nI (ad cn)) r3 ?_
        refine lv_iconst (v := 1) hx hb d_Ref_known_192 (by decide) ?_
        refine lv_icmp_ne (tgt := 200) hx hb d_Ref_known_193 (by decide) (fun d3 => ?_) (fun d3 => ?_)
        · skip
          have hd3 : ¬ (ad cn = 1) := fun q9 => d3 ((nI_eq (a := ad cn) (b := 1) (by omega) (by omega)).mpr q9)
          refine tp_pc (pc' := 200) (by rfl) ?_
          refine lv_iconst (v := 0) hx hb d_Ref_known_200 (by decide) ?_
          refine tp_i (y := (if cn < z ∧ ad cn = 1 then 1 else 0)) (by rw [if_neg (fun q => hd3 q.2)]) ?_
          refine lv_istore (lv' := [(9, .int (if cn < z ∧ ad cn = 1 then 1 else 0)), (8, .int (if cn + 1 < z ∧ ad (cn + 1) = 1 then 1 else 0)), (7, .int (nI z)), (6, .int (nI po)), (5, .int (nI (vx a))), (4, .int 1), (0, .ref ra), (1, .int (nI t)), (2, .int (nI a)), (3, .int (nI cn))]) hx hb d_Ref_known_201 hl (by decide) rfl ?_
          clear hl ls
          intro ls hl
          exact kJ _ (lv_sub hl [0, 1, 2, 3, 4, 5, 6, 7, 8, 9] rfl)
        · skip
          have hd3 : ad cn = 1 := (nI_eq (a := ad cn) (b := 1) (by omega) (by omega)).mp d3
          refine tp_pc (pc' := 196) (by rfl) ?_
          refine lv_iconst (v := 1) hx hb d_Ref_known_196 (by decide) ?_
          refine lv_goto (tgt := 201) hx hb d_Ref_known_197 (by decide) ?_
          refine tp_pc (pc' := 201) (by rfl) ?_
          refine tp_i (y := (if cn < z ∧ ad cn = 1 then 1 else 0)) (by rw [if_pos ⟨by omega, hd3⟩]) ?_
          refine lv_istore (lv' := [(9, .int (if cn < z ∧ ad cn = 1 then 1 else 0)), (8, .int (if cn + 1 < z ∧ ad (cn + 1) = 1 then 1 else 0)), (7, .int (nI z)), (6, .int (nI po)), (5, .int (nI (vx a))), (4, .int 1), (0, .ref ra), (1, .int (nI t)), (2, .int (nI a)), (3, .int (nI cn))]) hx hb d_Ref_known_201 hl (by decide) rfl ?_
          clear hl ls
          intro ls hl
          exact kJ _ (lv_sub hl [0, 1, 2, 3, 4, 5, 6, 7, 8, 9] rfl)
    · intro ls hl
      refine lv_iload hx hb d_Ref_known_203 (lv_at hl 5 rfl) ?_
      refine lv_if_ne (tgt := 285) hx hb d_Ref_known_205 (by decide) (fun c_3 => ?_) (fun c_3 => absurd c_3 (by decide))
      refine tp_pc (pc' := 285) (by rfl) ?_
      refine lv_iload hx hb d_Ref_known_285 (lv_at hl 5 rfl) ?_
      refine lv_iconst (v := 3) hx hb d_Ref_known_287 (by decide) ?_
      refine lv_icmp_ne (tgt := 401) hx hb d_Ref_known_288 (by decide) (fun c_4 => ?_) (fun c_4 => absurd c_4 (by decide))
      refine tp_pc (pc' := 401) (by rfl) ?_
      refine lv_iload_n hx hb d_Ref_known_401 rfl (lv_at hl 9 rfl) ?_
      refine lv_iload hx hb d_Ref_known_402 (lv_at hl 3 rfl) ?_
      refine lv_icmp_le (tgt := 418) hx hb d_Ref_known_404 (by decide) (fun c9 => absurd ((nI_leI (a := cn) (b := po) (by omega) (by omega)).mp c9) (by omega)) (fun c9 => ?_)
      refine tp_pc (pc' := 407) (by rfl) ?_
      refine lv_iload_n hx hb d_Ref_known_407 rfl (lv_at hl 9 rfl) ?_
      refine lv_iload hx hb d_Ref_known_408 (lv_at hl 2 rfl) ?_
      refine lv_icmp_gt (tgt := 418) hx hb d_Ref_known_410 (by decide) (fun c9 => absurd ((nI_ltI (a := z) (b := cn) (by omega) (by omega)).mp c9) (by omega)) (fun c9 => ?_)
      refine tp_pc (pc' := 413) (by rfl) ?_
      refine lv_iload hx hb d_Ref_known_413 (lv_at hl 0 rfl) ?_
      rw [if_neg hcc.2]
      refine lv_if_eq (tgt := 420) hx hb d_Ref_known_415 (by decide) (fun c_5 => ?_) (fun c_5 => absurd c_5 (by decide))
      refine tp_pc (pc' := 420) (by rfl) ?_
      refine lv_aload_n hx hb d_Ref_known_420 rfl (lv_at hl 6 rfl) ?_
      refine lv_iload_n hx hb d_Ref_known_421 rfl (lv_at hl 7 rfl) ?_
      refine lv_iload_n hx hb d_Ref_known_422 rfl (lv_at hl 8 rfl) ?_
      obtain ⟨hPc, hDc, hFc⟩ := cut3 (wc := [oc ra 8 [.int (nI T), .int (nI Ac), .ref (rA 2), .ref (rA 3), .ref (rA 4), .ref (rA 5), .ref (rA 6), .ref (rA 7), .ref (rA 8), .ref (rA 9), .ref (rA 10), .ref (rA 11), .ref (rA 12), .ref (rA 13), .int ir, .ref (rA 15), .ref (rA 16), .ref (rA 17), .ref (rA 18), .int (nI md), .int (nI wd), .ref (rA 21), .ref (rA 22), .ref (rA 23), .int (nI mn), .ref (rA 25), .int (nI cb), .int mr, .ref (rA 28), .ref (rA 29), .ref (rA 30), .ref (rA 31), .ref (rA 32), .ref (rA 33), .ref (rA 34), .ref (rA 35), .int (nI ld), .int (nI gm), .ref (rA 38), .ref (rA 39), .ref (rA 40), .ref (rA 41), .ref (rA 42), .ref (rA 43), .ref (rA 44), .ref (rA 45), .int (nI my), .ref (rA 47)], ia (rA 16) (rK9 16) 155 sf, ia (rA 3) (rK9 3) 28 (fun i => nI (kd i)), ia (rA 5) (rK9 5) 28 (fun i => nI (rr i)), ia (rA 6) (rK9 6) 28 vv]) hP hD rfl hS hA [4, 5, 0, 2, 3] (by decide +kernel) rfl
      have hKc := hK.sub (tys' := [((rK9 16), .int), ((rK9 3), .int), ((rK9 5), .int), ((rK9 6), .int)]) [0, 1, 3, 4] rfl
      refine va_calli (va_runV (As := [.int (nI t), .int (nI a)]) (rest := []) ⟨hx, hb, hml, hown, hw⟩ (gen_Ref_sent l dC dI ra rA rK9 T Ac md wd mn cb ld gm my ir mr t a sf vv kd rr ht ha (by omega) hrr H.size) (cw_V 2 hw g_Ref_sent rfl rfl rfl (hw _ m_109) (hw _ m_1138) (hw _ m_1140) (hw _ m_69) (by decide +kernel) ⟨Nat.le_of_ble_eq_true rfl, Nat.le_of_ble_eq_true rfl⟩) ⟨fun a U g mk q => by obtain ⟨q0, q1, qP, qK, qD, qN⟩ := q; exact ⟨q0, q1, qP, va_K.moved (u := U) (U := U.calling g mk a) (Vm.Alike.refl U.vm) qK, qD, nw_call qN⟩, va_recv hKc hPc (ci := 8) (q0 := 0) rfl rfl, fun U hU hW => ⟨rfl, by rw [hU], by rw [hU]; exact hPc, va_K.moved hW.alike hKc, hDc.weaken (fun _ _ _ _ => trivial), nw_warm hW hn⟩⟩ rfl rfl hl.1 rfl (lv_room (Nat.le_of_ble_eq_true rfl)) d_Ref_known_423 ⟨Nat.le_of_ble_eq_true rfl, Nat.le_of_ble_eq_true rfl⟩) hS (fun q _ h => hFc q h) hFc ?_
      intro r_6 u t9 H1 locs1 ht9 hvm hw1 hB hz1 hk1 hS1
      obtain ⟨hP1, hK1, hD1⟩ := hB
      rw [ht9] at hP1
      replace hK1 := va_K.moved hvm.symm hK1
      have hPD := join3 hP hD rfl [4, 5, 0, 2, 3] [1] rfl (by rfl) (by decide +kernel) (by decide +kernel) hk1 hFc hP1 hD1
      replace hK : va_K (dC, dI) classes [((rK9 16), .int), ((rK9 3), .int), ((rK9 4), .int), ((rK9 5), .int), ((rK9 6), .int)] s := hK.app hK1
      clear hP1 hK1 hD1 hk1 hz1 hFc hKc hDc hPc hvm ht9 hP hS t9 locs H
      have hP : va_P (dC, dI) classes [ia (rA 4) (rK9 4) 28 (fun i => nI (vx i)), oc ra 8 [.int (nI T), .int (nI Ac), .ref (rA 2), .ref (rA 3), .ref (rA 4), .ref (rA 5), .ref (rA 6), .ref (rA 7), .ref (rA 8), .ref (rA 9), .ref (rA 10), .ref (rA 11), .ref (rA 12), .ref (rA 13), .int ir, .ref (rA 15), .ref (rA 16), .ref (rA 17), .ref (rA 18), .int (nI md), .int (nI wd), .ref (rA 21), .ref (rA 22), .ref (rA 23), .int (nI mn), .ref (rA 25), .int (nI cb), .int mr, .ref (rA 28), .ref (rA 29), .ref (rA 30), .ref (rA 31), .ref (rA 32), .ref (rA 33), .ref (rA 34), .ref (rA 35), .int (nI ld), .int (nI gm), .ref (rA 38), .ref (rA 39), .ref (rA 40), .ref (rA 41), .ref (rA 42), .ref (rA 43), .ref (rA 44), .ref (rA 45), .int (nI my), .ref (rA 47)], ia (rA 16) (rK9 16) 155 sf, ia (rA 3) (rK9 3) 28 (fun i => nI (kd i)), ia (rA 5) (rK9 5) 28 (fun i => nI (rr i)), ia (rA 6) (rK9 6) 28 vv] H1 := hPD.1
      replace hD : dd A [(rA 4), ra, (rA 16), (rA 3), (rA 5), (rA 6)] := dd_of hPD.2 rfl
      clear hPD
      revert H1 locs1
      intro H locs hS hP
      refine tp_i (y := vv a) (hw1.trans (if_pos (by omega))) ?_
      clear hw1 r_6 u
      refine tp_pc (pc' := 426) (by rfl) ?_
      refine lv_istore (lv' := [(10, .int (vv a)), (9, .int (if cn < z ∧ ad cn = 1 then 1 else 0)), (8, .int (if cn + 1 < z ∧ ad (cn + 1) = 1 then 1 else 0)), (7, .int (nI z)), (6, .int (nI po)), (5, .int (nI (vx a))), (4, .int 1), (0, .ref ra), (1, .int (nI t)), (2, .int (nI a)), (3, .int (nI cn))]) hx hb d_Ref_known_426 hl (by decide) rfl ?_
      clear hl ls
      intro ls hl
      refine lv_aload_n hx hb d_Ref_known_428 rfl (lv_at hl 7 rfl) ?_
      refine va_get (D := (dC, dI)) (ci := 8) (v := .ref (rA 16)) (C := R_Ref) (T := F_Ref) (N := 48) hx hb hw i_Ref hown hK hP 1 rfl rfl 16 (by decide) (hw _ m_915) (fun _ h9 => h9) rfl d_Ref_known_429 ?_
      refine lv_iload_n hx hb d_Ref_known_432 rfl (lv_at hl 8 rfl) ?_
      refine lv_dup2_11 hx hb d_Ref_known_433 rfl rfl ?_
      refine va_iald (D := (dC, dI)) hx hb hK hP 2 0 rfl rfl (i := nI t) (pk_in t 155 (by omega)) d_Ref_known_434 ?_
      refine tp_i (y := sf t) (by rw [show (nI t : Int32).toNatClampNeg = t from pk_cl t]) ?_
      refine lv_iconst (v := 1) hx hb d_Ref_known_435 (by decide) ?_
      refine lv_iadd hx hb d_Ref_known_436 ?_
      refine tp_i (y := (sf t) + 1) rfl ?_
      refine va_iast (D := (dC, dI)) hx hb hK hP (dd_D hD rfl) hS 2 0 rfl rfl (i := nI t) (x := (sf t) + 1) (pk_in t 155 (by omega)) d_Ref_known_437 ?_
      clear hP hS locs H
      intro H locs hP _ hS
      rw [show (nI t : Int32).toNatClampNeg = t from pk_cl t] at hP
      replace hP : va_P (dC, dI) classes [ia (rA 4) (rK9 4) 28 (fun i => nI (vx i)), oc ra 8 [.int (nI T), .int (nI Ac), .ref (rA 2), .ref (rA 3), .ref (rA 4), .ref (rA 5), .ref (rA 6), .ref (rA 7), .ref (rA 8), .ref (rA 9), .ref (rA 10), .ref (rA 11), .ref (rA 12), .ref (rA 13), .int ir, .ref (rA 15), .ref (rA 16), .ref (rA 17), .ref (rA 18), .int (nI md), .int (nI wd), .ref (rA 21), .ref (rA 22), .ref (rA 23), .int (nI mn), .ref (rA 25), .int (nI cb), .int mr, .ref (rA 28), .ref (rA 29), .ref (rA 30), .ref (rA 31), .ref (rA 32), .ref (rA 33), .ref (rA 34), .ref (rA 35), .int (nI ld), .int (nI gm), .ref (rA 38), .ref (rA 39), .ref (rA 40), .ref (rA 41), .ref (rA 42), .ref (rA 43), .ref (rA 44), .ref (rA 45), .int (nI my), .ref (rA 47)], ia (rA 16) (rK9 16) 155 (upd sf t ((sf t) + 1)), ia (rA 3) (rK9 3) 28 (fun i => nI (kd i)), ia (rA 5) (rK9 5) 28 (fun i => nI (rr i)), ia (rA 6) (rK9 6) 28 vv] H := hP
      refine tp_pc (pc' := 438) (by rfl) ?_
      refine lv_aload_n hx hb d_Ref_known_438 rfl (lv_at hl 7 rfl) ?_
      refine lv_iload_n hx hb d_Ref_known_439 rfl (lv_at hl 8 rfl) ?_
      refine lv_iload hx hb d_Ref_known_440 (lv_at hl 5 rfl) ?_
      refine lv_iload_n hx hb d_Ref_known_442 rfl (lv_at hl 10 rfl) ?_
      refine lv_iload hx hb d_Ref_known_443 (lv_at hl 0 rfl) ?_
      refine lv_iconst (v := 0) hx hb d_Ref_known_445 (by decide) ?_
      have e15 : (upd sf t (sf t + 1)) 15 = nI wn := by rw [s1_o ht (by omega)]; exact h15
      have ezz : (upd sf t (sf t + 1)) (37 + vx a) = nI z := by rw [s1_o ht (by omega)]; exact hzz
      obtain ⟨hPc, hDc, hFc⟩ := cut3 (wc := [oc ra 8 [.int (nI T), .int (nI Ac), .ref (rA 2), .ref (rA 3), .ref (rA 4), .ref (rA 5), .ref (rA 6), .ref (rA 7), .ref (rA 8), .ref (rA 9), .ref (rA 10), .ref (rA 11), .ref (rA 12), .ref (rA 13), .int ir, .ref (rA 15), .ref (rA 16), .ref (rA 17), .ref (rA 18), .int (nI md), .int (nI wd), .ref (rA 21), .ref (rA 22), .ref (rA 23), .int (nI mn), .ref (rA 25), .int (nI cb), .int mr, .ref (rA 28), .ref (rA 29), .ref (rA 30), .ref (rA 31), .ref (rA 32), .ref (rA 33), .ref (rA 34), .ref (rA 35), .int (nI ld), .int (nI gm), .ref (rA 38), .ref (rA 39), .ref (rA 40), .ref (rA 41), .ref (rA 42), .ref (rA 43), .ref (rA 44), .ref (rA 45), .int (nI my), .ref (rA 47)], ia (rA 16) (rK9 16) 155 (upd sf t ((sf t) + 1))]) hP hD rfl hS hA [1, 2] (by decide +kernel) rfl
      have hKc := hK.sub (tys' := [((rK9 16), .int)]) [0] rfl
      refine va_callv (va_runV (As := [.int (nI t), .int (nI (vx a)), .int (nI cn), .int (vv a), .int 0]) (rest := []) ⟨hx, hb, hml, hown, hw⟩ (gen_Ref_put l dC dI ra rA rK9 T Ac md wd mn cb ld gm my ir mr t (vx a) cn z wn (vv a) 0 (upd sf t (sf t + 1)) ht (by omega) hz7 (by omega) hwn e15 ezz H.size) (cw_V 5 hw g_Ref_put rfl rfl rfl (hw _ m_109) (hw _ m_1134) (hw _ m_1136) (hw _ m_68) (by decide +kernel) ⟨Nat.le_of_ble_eq_true rfl, Nat.le_of_ble_eq_true rfl⟩) ⟨fun a U g mk q => by obtain ⟨q0, q1, qP, qK, qD, qN⟩ := q; exact ⟨q0, q1, qP, va_K.moved (u := U) (U := U.calling g mk a) (Vm.Alike.refl U.vm) qK, qD, nw_call qN⟩, va_recv hKc hPc (ci := 8) (q0 := 0) rfl rfl, fun U hU hW => ⟨rfl, by rw [hU], by rw [hU]; exact hPc, va_K.moved hW.alike hKc, hDc.weaken (fun _ _ _ _ => trivial), nw_warm hW hn⟩⟩ rfl rfl hl.1 rfl (lv_room (Nat.le_of_ble_eq_true rfl)) d_Ref_known_446 ⟨Nat.le_of_ble_eq_true rfl, Nat.le_of_ble_eq_true rfl⟩) hS (fun q _ h => hFc q h) hFc ?_
      intro u t9 H1 locs1 ht9 hvm hw1 hB hz1 hk1 hS1
      obtain ⟨hP1, hK1, hD1⟩ := hB
      rw [ht9] at hP1
      replace hK1 := va_K.moved hvm.symm hK1
      have hPD := join3 hP hD rfl [1, 2] [0, 3, 4, 5] rfl (by rfl) (by decide +kernel) (by decide +kernel) hk1 hFc hP1 hD1
      replace hK : va_K (dC, dI) classes [((rK9 16), .int), ((rK9 3), .int), ((rK9 4), .int), ((rK9 5), .int), ((rK9 6), .int)] s := hK.app hK1
      clear hP1 hK1 hD1 hk1 hz1 hFc hKc hDc hPc hvm ht9 hP hS t9 locs H
      have hP : va_P (dC, dI) classes [ia (rA 4) (rK9 4) 28 (fun i => nI (vx i)), ia (rA 3) (rK9 3) 28 (fun i => nI (kd i)), ia (rA 5) (rK9 5) 28 (fun i => nI (rr i)), ia (rA 6) (rK9 6) 28 vv, oc ra 8 [.int (nI T), .int (nI Ac), .ref (rA 2), .ref (rA 3), .ref (rA 4), .ref (rA 5), .ref (rA 6), .ref (rA 7), .ref (rA 8), .ref (rA 9), .ref (rA 10), .ref (rA 11), .ref (rA 12), .ref (rA 13), .int ir, .ref (rA 15), .ref (rA 16), .ref (rA 17), .ref (rA 18), .int (nI md), .int (nI wd), .ref (rA 21), .ref (rA 22), .ref (rA 23), .int (nI mn), .ref (rA 25), .int (nI cb), .int mr, .ref (rA 28), .ref (rA 29), .ref (rA 30), .ref (rA 31), .ref (rA 32), .ref (rA 33), .ref (rA 34), .ref (rA 35), .int (nI ld), .int (nI gm), .ref (rA 38), .ref (rA 39), .ref (rA 40), .ref (rA 41), .ref (rA 42), .ref (rA 43), .ref (rA 44), .ref (rA 45), .int (nI my), .ref (rA 47)], ia (rA 16) (rK9 16) 155 (kwF (puB (upd sf t (sf t + 1)) t (vx a) cn z wn (vv a) 0) t wn 4)] H1 := hPD.1
      replace hD : dd A [(rA 4), (rA 3), (rA 5), (rA 6), ra, (rA 16)] := dd_of hPD.2 rfl
      clear hPD
      revert H1 locs1
      intro H locs hS hP
      clear hw1 u
      refine tp_pc (pc' := 449) (by rfl) ?_
      refine lv_iconst (v := 1) hx hb d_Ref_known_449 (by decide) ?_
      obtain ⟨hP9, hD9, -⟩ := cut3 (wc := [oc ra 8 [.int (nI T), .int (nI Ac), .ref (rA 2), .ref (rA 3), .ref (rA 4), .ref (rA 5), .ref (rA 6), .ref (rA 7), .ref (rA 8), .ref (rA 9), .ref (rA 10), .ref (rA 11), .ref (rA 12), .ref (rA 13), .int ir, .ref (rA 15), .ref (rA 16), .ref (rA 17), .ref (rA 18), .int (nI md), .int (nI wd), .ref (rA 21), .ref (rA 22), .ref (rA 23), .int (nI mn), .ref (rA 25), .int (nI cb), .int mr, .ref (rA 28), .ref (rA 29), .ref (rA 30), .ref (rA 31), .ref (rA 32), .ref (rA 33), .ref (rA 34), .ref (rA 35), .int (nI ld), .int (nI gm), .ref (rA 38), .ref (rA 39), .ref (rA 40), .ref (rA 41), .ref (rA 42), .ref (rA 43), .ref (rA 44), .ref (rA 45), .int (nI my), .ref (rA 47)], ia (rA 16) (rK9 16) 155 (kwF (puB (upd sf t (sf t + 1)) t (vx a) cn z wn (vv a) 0) t wn 4), ia (rA 3) (rK9 3) 28 (fun i => nI (kd i)), ia (rA 4) (rK9 4) 28 (fun i => nI (vx i)), ia (rA 5) (rK9 5) 28 (fun i => nI (rr i)), ia (rA 6) (rK9 6) 28 vv]) hP hD rfl hS hA [4, 5, 1, 0, 2, 3] (by decide +kernel) rfl
      have hK9 := hK.sub (tys' := []) [] rfl
      refine W.widen (k := 0) (n := 0) (by exact Nat.le_of_ble_eq_true rfl) (by exact Nat.le_of_ble_eq_true rfl) ?_
      exact W.zret (v := 1) (ty := .boolean) hx hb hr (by decide) (fun t9 ht9 hW => ⟨⟨1, (), rfl, rfl, by rw [ht9]; exact hP9, va_K.moved hW.alike hK9, hD9⟩, hS.F ht9⟩) hS.2.2 d_Ref_known_450
set_option maxHeartbeats 4000000 in
set_option maxRecDepth 100000 in
theorem gen_Ref_known_1n (l : Launch) (dC : Nat → ClassId) (dI : Nat → Nat → Nat) (ra : Nat) (rA : Nat → Nat) (rK9 : Nat → ClassId) (T Ac md wd mn cb ld gm my : Nat) (ir mr : Int32) (t a cn : Nat) (sf vv : Nat → Int32) (kd vx rr : Nat → Nat) (z po wn : Nat) (ro ad pi pm : Nat → Nat) (ht : t < 4) (ha : a < 28) (hk : kd a = 1) (hx3 : vx a < 3) (hrr : rr a < 2) (hc9 : cn < 9) (hz8 : z ≤ 8) (hzz : sf (37 + vx a) = nI z) (hpo : po < 8 ∧ sf (41 + 8 * vx a + po) = sf (139 + 4 * t + vx a) ∧ ∀ q, q < po → ¬ sf (41 + 8 * vx a + q) = sf (139 + 4 * t + vx a)) (hro : ∀ q, q < z → sf (41 + 8 * vx a + q) = nI (ro q) ∧ ro q < 11) (had : ∀ q, q < z → sf (84 + ro q) = nI (ad q) ∧ ad q < 2) (hcc : ¬ ((po < cn ∧ cn ≤ z) ∧ ¬ (cn < z ∧ ad cn = 1))) (sz : Nat) : Met l y_Ref_known w_Ref_known ({ frames := 2, cells := 0, slots := 0, locals := 100 }) (va_Pc [.ref ra, .int (nI t), .int (nI a), .int (nI cn)] (fun U => U.heap.size = sz ∧ va_P (dC, dI) classes [oc ra 8 [.int (nI T), .int (nI Ac), .ref (rA 2), .ref (rA 3), .ref (rA 4), .ref (rA 5), .ref (rA 6), .ref (rA 7), .ref (rA 8), .ref (rA 9), .ref (rA 10), .ref (rA 11), .ref (rA 12), .ref (rA 13), .int ir, .ref (rA 15), .ref (rA 16), .ref (rA 17), .ref (rA 18), .int (nI md), .int (nI wd), .ref (rA 21), .ref (rA 22), .ref (rA 23), .int (nI mn), .ref (rA 25), .int (nI cb), .int mr, .ref (rA 28), .ref (rA 29), .ref (rA 30), .ref (rA 31), .ref (rA 32), .ref (rA 33), .ref (rA 34), .ref (rA 35), .int (nI ld), .int (nI gm), .ref (rA 38), .ref (rA 39), .ref (rA 40), .ref (rA 41), .ref (rA 42), .ref (rA 43), .ref (rA 44), .ref (rA 45), .int (nI my), .ref (rA 47)], ia (rA 16) (rK9 16) 155 sf, ia (rA 3) (rK9 3) 28 (fun i => nI (kd i)), ia (rA 4) (rK9 4) 28 (fun i => nI (vx i)), ia (rA 5) (rK9 5) 28 (fun i => nI (rr i)), ia (rA 6) (rK9 6) 28 vv] U.heap ∧ va_K (dC, dI) classes [((rK9 16), .int), ((rK9 3), .int), ((rK9 4), .int), ((rK9 5), .int), ((rK9 6), .int)] U ∧ va_D (fun _ => True) [oc ra 8 [.int (nI T), .int (nI Ac), .ref (rA 2), .ref (rA 3), .ref (rA 4), .ref (rA 5), .ref (rA 6), .ref (rA 7), .ref (rA 8), .ref (rA 9), .ref (rA 10), .ref (rA 11), .ref (rA 12), .ref (rA 13), .int ir, .ref (rA 15), .ref (rA 16), .ref (rA 17), .ref (rA 18), .int (nI md), .int (nI wd), .ref (rA 21), .ref (rA 22), .ref (rA 23), .int (nI mn), .ref (rA 25), .int (nI cb), .int mr, .ref (rA 28), .ref (rA 29), .ref (rA 30), .ref (rA 31), .ref (rA 32), .ref (rA 33), .ref (rA 34), .ref (rA 35), .int (nI ld), .int (nI gm), .ref (rA 38), .ref (rA 39), .ref (rA 40), .ref (rA 41), .ref (rA 42), .ref (rA 43), .ref (rA 44), .ref (rA 45), .int (nI my), .ref (rA 47)], ia (rA 16) (rK9 16) 155 sf, ia (rA 3) (rK9 3) 28 (fun i => nI (kd i)), ia (rA 4) (rK9 4) 28 (fun i => nI (vx i)), ia (rA 5) (rK9 5) 28 (fun i => nI (rr i)), ia (rA 6) (rK9 6) 28 vv] ∧ nw U)) (va_Qi (fun (r : Int32) (_ : Unit) => r = 0) (fun _ t9 => va_P (dC, dI) classes [oc ra 8 [.int (nI T), .int (nI Ac), .ref (rA 2), .ref (rA 3), .ref (rA 4), .ref (rA 5), .ref (rA 6), .ref (rA 7), .ref (rA 8), .ref (rA 9), .ref (rA 10), .ref (rA 11), .ref (rA 12), .ref (rA 13), .int ir, .ref (rA 15), .ref (rA 16), .ref (rA 17), .ref (rA 18), .int (nI md), .int (nI wd), .ref (rA 21), .ref (rA 22), .ref (rA 23), .int (nI mn), .ref (rA 25), .int (nI cb), .int mr, .ref (rA 28), .ref (rA 29), .ref (rA 30), .ref (rA 31), .ref (rA 32), .ref (rA 33), .ref (rA 34), .ref (rA 35), .int (nI ld), .int (nI gm), .ref (rA 38), .ref (rA 39), .ref (rA 40), .ref (rA 41), .ref (rA 42), .ref (rA 43), .ref (rA 44), .ref (rA 45), .int (nI my), .ref (rA 47)], ia (rA 16) (rK9 16) 155 sf, ia (rA 3) (rK9 3) 28 (fun i => nI (kd i)), ia (rA 4) (rK9 4) 28 (fun i => nI (vx i)), ia (rA 5) (rK9 5) 28 (fun i => nI (rr i)), ia (rA 6) (rK9 6) 28 vv] t9.heap ∧ va_K (dC, dI) classes [] t9 ∧ va_D (va_A [oc ra 8 [.int (nI T), .int (nI Ac), .ref (rA 2), .ref (rA 3), .ref (rA 4), .ref (rA 5), .ref (rA 6), .ref (rA 7), .ref (rA 8), .ref (rA 9), .ref (rA 10), .ref (rA 11), .ref (rA 12), .ref (rA 13), .int ir, .ref (rA 15), .ref (rA 16), .ref (rA 17), .ref (rA 18), .int (nI md), .int (nI wd), .ref (rA 21), .ref (rA 22), .ref (rA 23), .int (nI mn), .ref (rA 25), .int (nI cb), .int mr, .ref (rA 28), .ref (rA 29), .ref (rA 30), .ref (rA 31), .ref (rA 32), .ref (rA 33), .ref (rA 34), .ref (rA 35), .int (nI ld), .int (nI gm), .ref (rA 38), .ref (rA 39), .ref (rA 40), .ref (rA 41), .ref (rA 42), .ref (rA 43), .ref (rA 44), .ref (rA 45), .int (nI my), .ref (rA 47)], ia (rA 16) (rK9 16) 155 sf, ia (rA 3) (rK9 3) 28 (fun i => nI (kd i)), ia (rA 4) (rK9 4) 28 (fun i => nI (vx i)), ia (rA 5) (rK9 5) 28 (fun i => nI (rr i)), ia (rA 6) (rK9 6) 28 vv] sz) [oc ra 8 [.int (nI T), .int (nI Ac), .ref (rA 2), .ref (rA 3), .ref (rA 4), .ref (rA 5), .ref (rA 6), .ref (rA 7), .ref (rA 8), .ref (rA 9), .ref (rA 10), .ref (rA 11), .ref (rA 12), .ref (rA 13), .int ir, .ref (rA 15), .ref (rA 16), .ref (rA 17), .ref (rA 18), .int (nI md), .int (nI wd), .ref (rA 21), .ref (rA 22), .ref (rA 23), .int (nI mn), .ref (rA 25), .int (nI cb), .int mr, .ref (rA 28), .ref (rA 29), .ref (rA 30), .ref (rA 31), .ref (rA 32), .ref (rA 33), .ref (rA 34), .ref (rA 35), .int (nI ld), .int (nI gm), .ref (rA 38), .ref (rA 39), .ref (rA 40), .ref (rA 41), .ref (rA 42), .ref (rA 43), .ref (rA 44), .ref (rA 45), .int (nI my), .ref (rA 47)], ia (rA 16) (rK9 16) 155 sf, ia (rA 3) (rK9 3) 28 (fun i => nI (kd i)), ia (rA 4) (rK9 4) 28 (fun i => nI (vx i)), ia (rA 5) (rK9 5) 28 (fun i => nI (rr i)), ia (rA 6) (rK9 6) 28 vv]) (va_A [oc ra 8 [.int (nI T), .int (nI Ac), .ref (rA 2), .ref (rA 3), .ref (rA 4), .ref (rA 5), .ref (rA 6), .ref (rA 7), .ref (rA 8), .ref (rA 9), .ref (rA 10), .ref (rA 11), .ref (rA 12), .ref (rA 13), .int ir, .ref (rA 15), .ref (rA 16), .ref (rA 17), .ref (rA 18), .int (nI md), .int (nI wd), .ref (rA 21), .ref (rA 22), .ref (rA 23), .int (nI mn), .ref (rA 25), .int (nI cb), .int mr, .ref (rA 28), .ref (rA 29), .ref (rA 30), .ref (rA 31), .ref (rA 32), .ref (rA 33), .ref (rA 34), .ref (rA 35), .int (nI ld), .int (nI gm), .ref (rA 38), .ref (rA 39), .ref (rA 40), .ref (rA 41), .ref (rA 42), .ref (rA 43), .ref (rA 44), .ref (rA 45), .int (nI my), .ref (rA 47)], ia (rA 16) (rK9 16) 155 sf, ia (rA 3) (rK9 3) 28 (fun i => nI (kd i)), ia (rA 4) (rK9 4) 28 (fun i => nI (vx i)), ia (rA 5) (rK9 5) 28 (fun i => nI (rr i)), ia (rA 6) (rK9 6) 28 vv] sz)) 0 0 (va_A [oc ra 8 [.int (nI T), .int (nI Ac), .ref (rA 2), .ref (rA 3), .ref (rA 4), .ref (rA 5), .ref (rA 6), .ref (rA 7), .ref (rA 8), .ref (rA 9), .ref (rA 10), .ref (rA 11), .ref (rA 12), .ref (rA 13), .int ir, .ref (rA 15), .ref (rA 16), .ref (rA 17), .ref (rA 18), .int (nI md), .int (nI wd), .ref (rA 21), .ref (rA 22), .ref (rA 23), .int (nI mn), .ref (rA 25), .int (nI cb), .int mr, .ref (rA 28), .ref (rA 29), .ref (rA 30), .ref (rA 31), .ref (rA 32), .ref (rA 33), .ref (rA 34), .ref (rA 35), .int (nI ld), .int (nI gm), .ref (rA 38), .ref (rA 39), .ref (rA 40), .ref (rA 41), .ref (rA 42), .ref (rA 43), .ref (rA 44), .ref (rA 45), .int (nI my), .ref (rA 47)], ia (rA 16) (rK9 16) 155 sf, ia (rA 3) (rK9 3) 28 (fun i => nI (kd i)), ia (rA 4) (rK9 4) 28 (fun i => nI (vx i)), ia (rA 5) (rK9 5) 28 (fun i => nI (rr i)), ia (rA 6) (rK9 6) 28 vv] sz) := by
  refine Met.ofW (cc := b_Ref_known) (maxL := 11) (ret := (some .boolean)) (by decide) rfl ?_
  intro p e0 s m args below meth c s₁ B hml hv
  obtain ⟨rfl, hsz, hP, hK, hD0, hn⟩ := hv
  have hx := B.exec
  have hb := B.bytes
  have hr := B.returns
  have hw := fun w (h : w ∈ wt) => atoms_spec (ws := w_Ref_known) B.pre w (List.mem_cons_of_mem _ h)
  have hown : s.vm.findClass R_Ref = some m.cls := findClass_of_methodNamed B.named
  have hlocks := B.notSynchronized
  subst hsz
  have hD1 := hD0.self (sz := s.heap.size)
  generalize hAe : va_A [oc ra 8 [.int (nI T), .int (nI Ac), .ref (rA 2), .ref (rA 3), .ref (rA 4), .ref (rA 5), .ref (rA 6), .ref (rA 7), .ref (rA 8), .ref (rA 9), .ref (rA 10), .ref (rA 11), .ref (rA 12), .ref (rA 13), .int ir, .ref (rA 15), .ref (rA 16), .ref (rA 17), .ref (rA 18), .int (nI md), .int (nI wd), .ref (rA 21), .ref (rA 22), .ref (rA 23), .int (nI mn), .ref (rA 25), .int (nI cb), .int mr, .ref (rA 28), .ref (rA 29), .ref (rA 30), .ref (rA 31), .ref (rA 32), .ref (rA 33), .ref (rA 34), .ref (rA 35), .int (nI ld), .int (nI gm), .ref (rA 38), .ref (rA 39), .ref (rA 40), .ref (rA 41), .ref (rA 42), .ref (rA 43), .ref (rA 44), .ref (rA 45), .int (nI my), .ref (rA 47)], ia (rA 16) (rK9 16) 155 sf, ia (rA 3) (rK9 3) 28 (fun i => nI (kd i)), ia (rA 4) (rK9 4) 28 (fun i => nI (vx i)), ia (rA 5) (rK9 5) 28 (fun i => nI (rr i)), ia (rA 6) (rK9 6) 28 vv] s.heap.size = A at hD1 ⊢
  have hA : ∀ q : Nat, s.heap.size ≤ q → A q := fun q h => by rw [← hAe]; exact Or.inr h
  have hD : dd A [ra, (rA 16), (rA 3), (rA 4), (rA 5), (rA 6)] := dd_of hD1 rfl
  clear hAe hD0 hD1
  have hS : va_S A s.heap s.heap [] := va_S.rf
  replace hP : va_P (dC, dI) classes [oc ra 8 [.int (nI T), .int (nI Ac), .ref (rA 2), .ref (rA 3), .ref (rA 4), .ref (rA 5), .ref (rA 6), .ref (rA 7), .ref (rA 8), .ref (rA 9), .ref (rA 10), .ref (rA 11), .ref (rA 12), .ref (rA 13), .int ir, .ref (rA 15), .ref (rA 16), .ref (rA 17), .ref (rA 18), .int (nI md), .int (nI wd), .ref (rA 21), .ref (rA 22), .ref (rA 23), .int (nI mn), .ref (rA 25), .int (nI cb), .int mr, .ref (rA 28), .ref (rA 29), .ref (rA 30), .ref (rA 31), .ref (rA 32), .ref (rA 33), .ref (rA 34), .ref (rA 35), .int (nI ld), .int (nI gm), .ref (rA 38), .ref (rA 39), .ref (rA 40), .ref (rA 41), .ref (rA 42), .ref (rA 43), .ref (rA 44), .ref (rA 45), .int (nI my), .ref (rA 47)], ia (rA 16) (rK9 16) 155 sf, ia (rA 3) (rK9 3) 28 (fun i => nI (kd i)), ia (rA 4) (rK9 4) 28 (fun i => nI (vx i)), ia (rA 5) (rK9 5) 28 (fun i => nI (rr i)), ia (rA 6) (rK9 6) 28 vv] s.heap := hP
  have hl := lv_entry ([.ref ra, .int (nI t), .int (nI a), .int (nI cn)]) (n := 11) (Nat.le_of_ble_eq_true rfl)
  rw [lg_entry_eq]
  generalize (lg_sl ([.ref ra, .int (nI t), .int (nI a), .int (nI cn)]) ++ List.replicate (11 - (lg_sl ([.ref ra, .int (nI t), .int (nI a), .int (nI cn)])).length) Slot.unset).toArray = ls at hl ⊢
  replace hl : lv_has ls 11 [(0, .ref ra), (1, .int (nI t)), (2, .int (nI a)), (3, .int (nI cn))] := hl
  refine lv_aload_n hx hb d_Ref_known_0 rfl (lv_at hl 0 rfl) ?_
  refine va_get (D := (dC, dI)) (ci := 8) (v := .ref (rA 3)) (C := R_Ref) (T := F_Ref) (N := 48) hx hb hw i_Ref hown hK hP 0 rfl rfl 3 (by decide) (hw _ m_902) (fun _ h9 => h9) rfl d_Ref_known_1 ?_
  refine lv_iload_n hx hb d_Ref_known_4 rfl (lv_at hl 2 rfl) ?_
  refine va_iald (D := (dC, dI)) hx hb hK hP 2 1 rfl rfl (i := nI a) (pk_in a 28 (by omega)) d_Ref_known_5 ?_
  refine tp_i (y := nI (kd a)) (by rw [show (nI a : Int32).toNatClampNeg = a from pk_cl a]) ?_
  refine tp_i (y := 1) (by rw [hk]; rfl) ?_
  obtain ⟨o1, o2, o3⟩ := hpo
  refine lv_istore (lv' := [(4, .int 1), (0, .ref ra), (1, .int (nI t)), (2, .int (nI a)), (3, .int (nI cn))]) hx hb d_Ref_known_6 hl (by decide) rfl ?_
  clear hl ls
  intro ls hl
  refine lv_iload hx hb d_Ref_known_8 (lv_at hl 0 rfl) ?_
  refine lv_iconst (v := 4) hx hb d_Ref_known_10 (by decide) ?_
  refine lv_icmp_ne (tgt := 70) hx hb d_Ref_known_11 (by decide) (fun c_1 => ?_) (fun c_1 => absurd c_1 (by decide))
  refine tp_pc (pc' := 70) (by rfl) ?_
  refine lv_aload_n hx hb d_Ref_known_70 rfl (lv_at hl 1 rfl) ?_
  refine va_get (D := (dC, dI)) (ci := 8) (v := .ref (rA 4)) (C := R_Ref) (T := F_Ref) (N := 48) hx hb hw i_Ref hown hK hP 0 rfl rfl 4 (by decide) (hw _ m_903) (fun _ h9 => h9) rfl d_Ref_known_71 ?_
  refine lv_iload_n hx hb d_Ref_known_74 rfl (lv_at hl 3 rfl) ?_
  refine va_iald (D := (dC, dI)) hx hb hK hP 3 2 rfl rfl (i := nI a) (pk_in a 28 (by omega)) d_Ref_known_75 ?_
  refine tp_i (y := nI (vx a)) (by rw [show (nI a : Int32).toNatClampNeg = a from pk_cl a]) ?_
  refine lv_istore (lv' := [(5, .int (nI (vx a))), (4, .int 1), (0, .ref ra), (1, .int (nI t)), (2, .int (nI a)), (3, .int (nI cn))]) hx hb d_Ref_known_76 hl (by decide) rfl ?_
  clear hl ls
  intro ls hl
  refine lv_aload_n hx hb d_Ref_known_78 rfl (lv_at hl 2 rfl) ?_
  refine lv_iload hx hb d_Ref_known_79 (lv_at hl 0 rfl) ?_
  refine lv_aload_n hx hb d_Ref_known_81 rfl (lv_at hl 2 rfl) ?_
  refine va_get (D := (dC, dI)) (ci := 8) (v := .ref (rA 16)) (C := R_Ref) (T := F_Ref) (N := 48) hx hb hw i_Ref hown hK hP 0 rfl rfl 16 (by decide) (hw _ m_915) (fun _ h9 => h9) rfl d_Ref_known_82 ?_
  refine lv_sipush (v := 139) hx hb d_Ref_known_85 (by decide) ?_
  refine lv_iconst (v := 4) hx hb d_Ref_known_88 (by decide) ?_
  refine lv_iload_n hx hb d_Ref_known_89 rfl (lv_at hl 3 rfl) ?_
  refine lv_imul hx hb d_Ref_known_90 ?_
  refine tp_i (y := nI (4 * t)) (by exact pk_mul 4 t) ?_
  refine lv_iadd hx hb d_Ref_known_91 ?_
  refine tp_i (y := nI (139 + (4 * t))) (by exact nI_add 139 (4 * t)) ?_
  refine lv_iload hx hb d_Ref_known_92 (lv_at hl 0 rfl) ?_
  refine lv_iadd hx hb d_Ref_known_94 ?_
  refine tp_i (y := nI (139 + (4 * t) + (vx a))) (by exact nI_add (139 + (4 * t)) (vx a)) ?_
  refine va_iald (D := (dC, dI)) hx hb hK hP 1 0 rfl rfl (i := nI (139 + (4 * t) + (vx a))) (pk_in (139 + (4 * t) + (vx a)) 155 (by omega)) d_Ref_known_95 ?_
  refine tp_i (y := sf (139 + (4 * t) + (vx a))) (by rw [show (nI (139 + (4 * t) + (vx a)) : Int32).toNatClampNeg = 139 + (4 * t) + (vx a) from pk_cl (139 + (4 * t) + (vx a))]) ?_
  obtain ⟨hPc, hDc, hFc⟩ := cut3 (wc := [oc ra 8 [.int (nI T), .int (nI Ac), .ref (rA 2), .ref (rA 3), .ref (rA 4), .ref (rA 5), .ref (rA 6), .ref (rA 7), .ref (rA 8), .ref (rA 9), .ref (rA 10), .ref (rA 11), .ref (rA 12), .ref (rA 13), .int ir, .ref (rA 15), .ref (rA 16), .ref (rA 17), .ref (rA 18), .int (nI md), .int (nI wd), .ref (rA 21), .ref (rA 22), .ref (rA 23), .int (nI mn), .ref (rA 25), .int (nI cb), .int mr, .ref (rA 28), .ref (rA 29), .ref (rA 30), .ref (rA 31), .ref (rA 32), .ref (rA 33), .ref (rA 34), .ref (rA 35), .int (nI ld), .int (nI gm), .ref (rA 38), .ref (rA 39), .ref (rA 40), .ref (rA 41), .ref (rA 42), .ref (rA 43), .ref (rA 44), .ref (rA 45), .int (nI my), .ref (rA 47)], ia (rA 16) (rK9 16) 155 sf]) hP hD rfl hS hA [0, 1] (by decide +kernel) rfl
  have hKc := hK.sub (tys' := [((rK9 16), .int)]) [0] rfl
  refine va_calli (va_runV (As := [.int (nI (vx a)), .int (sf (139 + (4 * t) + (vx a)))]) (rest := []) ⟨hx, hb, hml, hown, hw⟩ (gen_Ref_placeOf l dC dI ra rA rK9 T Ac md wd mn cb ld gm my ir mr (vx a) po (sf (139 + 4 * t + vx a)) sf (by omega) o1 o2 o3 s.heap.size) (cw_V 2 hw g_Ref_placeOf rfl rfl rfl (hw _ m_109) (hw _ m_1101) (hw _ m_1103) (hw _ m_60) (by decide +kernel) ⟨Nat.le_of_ble_eq_true rfl, Nat.le_of_ble_eq_true rfl⟩) ⟨fun a U g mk q => by obtain ⟨q0, q1, qP, qK, qD, qN⟩ := q; exact ⟨q0, q1, qP, va_K.moved (u := U) (U := U.calling g mk a) (Vm.Alike.refl U.vm) qK, qD, nw_call qN⟩, va_recv hKc hPc (ci := 8) (q0 := 0) rfl rfl, fun U hU hW => ⟨rfl, by rw [hU], by rw [hU]; exact hPc, va_K.moved hW.alike hKc, hDc.weaken (fun _ _ _ _ => trivial), nw_warm hW hn⟩⟩ rfl rfl hl.1 rfl (lv_room (Nat.le_of_ble_eq_true rfl)) d_Ref_known_96 ⟨Nat.le_of_ble_eq_true rfl, Nat.le_of_ble_eq_true rfl⟩) hS (fun q _ h => hFc q h) hFc ?_
  intro r_2 u t9 H1 locs1 ht9 hvm hw1 hB hz1 hk1 hS1
  obtain ⟨hP1, hK1, hD1⟩ := hB
  rw [ht9] at hP1
  replace hK1 := va_K.moved hvm.symm hK1
  have hPD := join3 hP hD rfl [0, 1] [2, 3, 4, 5] rfl (by rfl) (by decide +kernel) (by decide +kernel) hk1 hFc hP1 hD1
  replace hK : va_K (dC, dI) classes [((rK9 16), .int), ((rK9 3), .int), ((rK9 4), .int), ((rK9 5), .int), ((rK9 6), .int)] s := hK.app hK1
  clear hP1 hK1 hD1 hk1 hz1 hFc hKc hDc hPc hvm ht9 hP hS t9
  have hP : va_P (dC, dI) classes [ia (rA 3) (rK9 3) 28 (fun i => nI (kd i)), ia (rA 4) (rK9 4) 28 (fun i => nI (vx i)), ia (rA 5) (rK9 5) 28 (fun i => nI (rr i)), ia (rA 6) (rK9 6) 28 vv, oc ra 8 [.int (nI T), .int (nI Ac), .ref (rA 2), .ref (rA 3), .ref (rA 4), .ref (rA 5), .ref (rA 6), .ref (rA 7), .ref (rA 8), .ref (rA 9), .ref (rA 10), .ref (rA 11), .ref (rA 12), .ref (rA 13), .int ir, .ref (rA 15), .ref (rA 16), .ref (rA 17), .ref (rA 18), .int (nI md), .int (nI wd), .ref (rA 21), .ref (rA 22), .ref (rA 23), .int (nI mn), .ref (rA 25), .int (nI cb), .int mr, .ref (rA 28), .ref (rA 29), .ref (rA 30), .ref (rA 31), .ref (rA 32), .ref (rA 33), .ref (rA 34), .ref (rA 35), .int (nI ld), .int (nI gm), .ref (rA 38), .ref (rA 39), .ref (rA 40), .ref (rA 41), .ref (rA 42), .ref (rA 43), .ref (rA 44), .ref (rA 45), .int (nI my), .ref (rA 47)], ia (rA 16) (rK9 16) 155 sf] H1 := hPD.1
  replace hD : dd A [(rA 3), (rA 4), (rA 5), (rA 6), ra, (rA 16)] := dd_of hPD.2 rfl
  clear hPD
  revert H1 locs1
  intro H locs hS hP
  refine tp_i (y := nI po) (hw1) ?_
  clear hw1 r_2 u
  refine tp_pc (pc' := 99) (by rfl) ?_
  refine lv_istore (lv' := [(6, .int (nI po)), (5, .int (nI (vx a))), (4, .int 1), (0, .ref ra), (1, .int (nI t)), (2, .int (nI a)), (3, .int (nI cn))]) hx hb d_Ref_known_99 hl (by decide) rfl ?_
  clear hl ls
  intro ls hl
  refine lv_aload_n hx hb d_Ref_known_101 rfl (lv_at hl 3 rfl) ?_
  refine va_get (D := (dC, dI)) (ci := 8) (v := .ref (rA 16)) (C := R_Ref) (T := F_Ref) (N := 48) hx hb hw i_Ref hown hK hP 4 rfl rfl 16 (by decide) (hw _ m_915) (fun _ h9 => h9) rfl d_Ref_known_102 ?_
  refine lv_bipush (v := 37) hx hb d_Ref_known_105 (by decide) ?_
  refine lv_iload hx hb d_Ref_known_107 (lv_at hl 1 rfl) ?_
  refine lv_iadd hx hb d_Ref_known_109 ?_
  refine tp_i (y := nI (37 + (vx a))) (by exact nI_add 37 (vx a)) ?_
  refine va_iald (D := (dC, dI)) hx hb hK hP 5 0 rfl rfl (i := nI (37 + (vx a))) (pk_in (37 + (vx a)) 155 (by omega)) d_Ref_known_110 ?_
  refine tp_i (y := sf (37 + (vx a))) (by rw [show (nI (37 + (vx a)) : Int32).toNatClampNeg = 37 + (vx a) from pk_cl (37 + (vx a))]) ?_
  refine tp_i (y := nI z) hzz ?_
  refine lv_istore (lv' := [(7, .int (nI z)), (6, .int (nI po)), (5, .int (nI (vx a))), (4, .int 1), (0, .ref ra), (1, .int (nI t)), (2, .int (nI a)), (3, .int (nI cn))]) hx hb d_Ref_known_111 hl (by decide) rfl ?_
  clear hl ls
  intro ls hl
  refine lp_j 163 (fun ls => lv_has ls 11 [(8, .int (if cn + 1 < z ∧ ad (cn + 1) = 1 then 1 else 0)), (7, .int (nI z)), (6, .int (nI po)), (5, .int (nI (vx a))), (4, .int 1), (0, .ref ra), (1, .int (nI t)), (2, .int (nI a)), (3, .int (nI cn))]) ?_ ?_
  rotate_left
  · intro kJ
    refine lv_iload_n hx hb d_Ref_known_113 rfl (lv_at hl 7 rfl) ?_
    refine lv_iload hx hb d_Ref_known_114 (lv_at hl 0 rfl) ?_
    refine lv_icmp_ge (tgt := 160) hx hb d_Ref_known_116 (by decide) (fun d1 => ?_) (fun d1 => ?_)
    · skip
      have hd1 : z ≤ cn := (nI_leI (a := z) (b := cn) (by omega) (by omega)).mp d1
      refine tp_pc (pc' := 160) (by rfl) ?_
      refine lv_iconst (v := 0) hx hb d_Ref_known_160 (by decide) ?_
      refine tp_i (y := (if cn + 1 < z ∧ ad (cn + 1) = 1 then 1 else 0)) (by rw [if_neg (by omega)]) ?_
      refine lv_istore (lv' := [(8, .int (if cn + 1 < z ∧ ad (cn + 1) = 1 then 1 else 0)), (7, .int (nI z)), (6, .int (nI po)), (5, .int (nI (vx a))), (4, .int 1), (0, .ref ra), (1, .int (nI t)), (2, .int (nI a)), (3, .int (nI cn))]) hx hb d_Ref_known_161 hl (by decide) rfl ?_
      clear hl ls
      intro ls hl
      exact kJ _ (lv_sub hl [0, 1, 2, 3, 4, 5, 6, 7, 8] rfl)
    · skip
      have hd1 : ¬ (z ≤ cn) := fun q9 => d1 ((nI_leI (a := z) (b := cn) (by omega) (by omega)).mpr q9)
      refine tp_pc (pc' := 119) (by rfl) ?_
      refine lv_iload_n hx hb d_Ref_known_119 rfl (lv_at hl 7 rfl) ?_
      refine lv_iconst (v := 1) hx hb d_Ref_known_120 (by decide) ?_
      refine lv_iadd hx hb d_Ref_known_121 ?_
      refine tp_i (y := nI (cn + 1)) (by exact nI_add cn 1) ?_
      refine lv_iload hx hb d_Ref_known_122 (lv_at hl 0 rfl) ?_
      refine lv_icmp_ge (tgt := 160) hx hb d_Ref_known_124 (by decide) (fun d2 => ?_) (fun d2 => ?_)
      · skip
        have hd2 : z ≤ cn + 1 := (nI_leI (a := z) (b := cn + 1) (by omega) (by omega)).mp d2
        refine tp_pc (pc' := 160) (by rfl) ?_
        refine lv_iconst (v := 0) hx hb d_Ref_known_160 (by decide) ?_
        refine tp_i (y := (if cn + 1 < z ∧ ad (cn + 1) = 1 then 1 else 0)) (by rw [if_neg (by omega)]) ?_
        refine lv_istore (lv' := [(8, .int (if cn + 1 < z ∧ ad (cn + 1) = 1 then 1 else 0)), (7, .int (nI z)), (6, .int (nI po)), (5, .int (nI (vx a))), (4, .int 1), (0, .ref ra), (1, .int (nI t)), (2, .int (nI a)), (3, .int (nI cn))]) hx hb d_Ref_known_161 hl (by decide) rfl ?_
        clear hl ls
        intro ls hl
        exact kJ _ (lv_sub hl [0, 1, 2, 3, 4, 5, 6, 7, 8] rfl)
      · skip
        have hd2 : ¬ (z ≤ cn + 1) := fun q9 => d2 ((nI_leI (a := z) (b := cn + 1) (by omega) (by omega)).mpr q9)
        obtain ⟨r1, r2⟩ := hro (cn + 1) (by omega)
        obtain ⟨r3, r4⟩ := had (cn + 1) (by omega)
        refine tp_pc (pc' := 127) (by rfl) ?_
        refine lv_aload_n hx hb d_Ref_known_127 rfl (lv_at hl 4 rfl) ?_
        refine va_get (D := (dC, dI)) (ci := 8) (v := .ref (rA 16)) (C := R_Ref) (T := F_Ref) (N := 48) hx hb hw i_Ref hown hK hP 4 rfl rfl 16 (by decide) (hw _ m_915) (fun _ h9 => h9) rfl d_Ref_known_128 ?_
        refine lv_bipush (v := 84) hx hb d_Ref_known_131 (by decide) ?_
        refine lv_aload_n hx hb d_Ref_known_133 rfl (lv_at hl 4 rfl) ?_
        refine va_get (D := (dC, dI)) (ci := 8) (v := .ref (rA 16)) (C := R_Ref) (T := F_Ref) (N := 48) hx hb hw i_Ref hown hK hP 4 rfl rfl 16 (by decide) (hw _ m_915) (fun _ h9 => h9) rfl d_Ref_known_134 ?_
        refine lv_bipush (v := 41) hx hb d_Ref_known_137 (by decide) ?_
        refine lv_bipush (v := 8) hx hb d_Ref_known_139 (by decide) ?_
        refine lv_iload hx hb d_Ref_known_141 (lv_at hl 2 rfl) ?_
        refine lv_imul hx hb d_Ref_known_143 ?_
        refine tp_i (y := nI (8 * (vx a))) (by exact pk_mul 8 (vx a)) ?_
        refine lv_iadd hx hb d_Ref_known_144 ?_
        refine tp_i (y := nI (41 + (8 * (vx a)))) (by exact nI_add 41 (8 * (vx a))) ?_
        refine lv_iload_n hx hb d_Ref_known_145 rfl (lv_at hl 7 rfl) ?_
        refine lv_iadd hx hb d_Ref_known_146 ?_
        refine tp_i (y := nI (41 + (8 * (vx a)) + cn)) (by exact nI_add (41 + (8 * (vx a))) cn) ?_
        refine lv_iconst (v := 1) hx hb d_Ref_known_147 (by decide) ?_
        refine lv_iadd hx hb d_Ref_known_148 ?_
        refine tp_i (y := nI (41 + (8 * (vx a)) + cn + 1)) (by exact nI_add (41 + (8 * (vx a)) + cn) 1) ?_
        refine va_iald (D := (dC, dI)) hx hb hK hP 5 0 rfl rfl (i := nI (41 + (8 * (vx a)) + cn + 1)) (pk_in (41 + (8 * (vx a)) + cn + 1) 155 (by omega)) d_Ref_known_149 ?_
        refine tp_i (y := sf (41 + (8 * (vx a)) + cn + 1)) (by rw [show (nI (41 + (8 * (vx a)) + cn + 1) : Int32).toNatClampNeg = 41 + (8 * (vx a)) + cn + 1 from pk_cl (41 + (8 * (vx a)) + cn + 1)]) ?_
        refine tp_i (y := nI (ro (cn + 1))) r1 ?_
        refine lv_iadd hx hb d_Ref_known_150 ?_
        refine tp_i (y := nI (84 + (ro (cn + 1)))) (by exact nI_add 84 (ro (cn + 1))) ?_
        refine va_iald (D := (dC, dI)) hx hb hK hP 5 0 rfl rfl (i := nI (84 + (ro (cn + 1)))) (pk_in (84 + (ro (cn + 1))) 155 (by omega)) d_Ref_known_151 ?_
        refine tp_i (y := sf (84 + (ro (cn + 1)))) (by rw [show (nI (84 + (ro (cn + 1))) : Int32).toNatClampNeg = 84 + (ro (cn + 1)) from pk_cl (84 + (ro (cn + 1)))]) ?_
        refine tp_i (y := nI (ad (cn + 1))) r3 ?_
        refine lv_iconst (v := 1) hx hb d_Ref_known_152 (by decide) ?_
        refine lv_icmp_ne (tgt := 160) hx hb d_Ref_known_153 (by decide) (fun d3 => ?_) (fun d3 => ?_)
        · skip
          have hd3 : ¬ (ad (cn + 1) = 1) := fun q9 => d3 ((nI_eq (a := ad (cn + 1)) (b := 1) (by omega) (by omega)).mpr q9)
          refine tp_pc (pc' := 160) (by rfl) ?_
          refine lv_iconst (v := 0) hx hb d_Ref_known_160 (by decide) ?_
          refine tp_i (y := (if cn + 1 < z ∧ ad (cn + 1) = 1 then 1 else 0)) (by rw [if_neg (fun q => hd3 q.2)]) ?_
          refine lv_istore (lv' := [(8, .int (if cn + 1 < z ∧ ad (cn + 1) = 1 then 1 else 0)), (7, .int (nI z)), (6, .int (nI po)), (5, .int (nI (vx a))), (4, .int 1), (0, .ref ra), (1, .int (nI t)), (2, .int (nI a)), (3, .int (nI cn))]) hx hb d_Ref_known_161 hl (by decide) rfl ?_
          clear hl ls
          intro ls hl
          exact kJ _ (lv_sub hl [0, 1, 2, 3, 4, 5, 6, 7, 8] rfl)
        · skip
          have hd3 : ad (cn + 1) = 1 := (nI_eq (a := ad (cn + 1)) (b := 1) (by omega) (by omega)).mp d3
          refine tp_pc (pc' := 156) (by rfl) ?_
          refine lv_iconst (v := 1) hx hb d_Ref_known_156 (by decide) ?_
          refine lv_goto (tgt := 161) hx hb d_Ref_known_157 (by decide) ?_
          refine tp_pc (pc' := 161) (by rfl) ?_
          refine tp_i (y := (if cn + 1 < z ∧ ad (cn + 1) = 1 then 1 else 0)) (by rw [if_pos ⟨by omega, hd3⟩]) ?_
          refine lv_istore (lv' := [(8, .int (if cn + 1 < z ∧ ad (cn + 1) = 1 then 1 else 0)), (7, .int (nI z)), (6, .int (nI po)), (5, .int (nI (vx a))), (4, .int 1), (0, .ref ra), (1, .int (nI t)), (2, .int (nI a)), (3, .int (nI cn))]) hx hb d_Ref_known_161 hl (by decide) rfl ?_
          clear hl ls
          intro ls hl
          exact kJ _ (lv_sub hl [0, 1, 2, 3, 4, 5, 6, 7, 8] rfl)
  · intro ls hl
    refine lp_j 203 (fun ls => lv_has ls 11 [(9, .int (if cn < z ∧ ad cn = 1 then 1 else 0)), (8, .int (if cn + 1 < z ∧ ad (cn + 1) = 1 then 1 else 0)), (7, .int (nI z)), (6, .int (nI po)), (5, .int (nI (vx a))), (4, .int 1), (0, .ref ra), (1, .int (nI t)), (2, .int (nI a)), (3, .int (nI cn))]) ?_ ?_
    rotate_left
    · intro kJ
      refine lv_iload_n hx hb d_Ref_known_163 rfl (lv_at hl 8 rfl) ?_
      refine lv_iload hx hb d_Ref_known_164 (lv_at hl 1 rfl) ?_
      refine lv_icmp_ge (tgt := 200) hx hb d_Ref_known_166 (by decide) (fun d1 => ?_) (fun d1 => ?_)
      · skip
        have hd1 : z ≤ cn := (nI_leI (a := z) (b := cn) (by omega) (by omega)).mp d1
        refine tp_pc (pc' := 200) (by rfl) ?_
        refine lv_iconst (v := 0) hx hb d_Ref_known_200 (by decide) ?_
        refine tp_i (y := (if cn < z ∧ ad cn = 1 then 1 else 0)) (by rw [if_neg (by omega)]) ?_
        refine lv_istore (lv' := [(9, .int (if cn < z ∧ ad cn = 1 then 1 else 0)), (8, .int (if cn + 1 < z ∧ ad (cn + 1) = 1 then 1 else 0)), (7, .int (nI z)), (6, .int (nI po)), (5, .int (nI (vx a))), (4, .int 1), (0, .ref ra), (1, .int (nI t)), (2, .int (nI a)), (3, .int (nI cn))]) hx hb d_Ref_known_201 hl (by decide) rfl ?_
        clear hl ls
        intro ls hl
        exact kJ _ (lv_sub hl [0, 1, 2, 3, 4, 5, 6, 7, 8, 9] rfl)
      · skip
        have hd1 : ¬ (z ≤ cn) := fun q9 => d1 ((nI_leI (a := z) (b := cn) (by omega) (by omega)).mpr q9)
        obtain ⟨r1, r2⟩ := hro (cn) (by omega)
        obtain ⟨r3, r4⟩ := had (cn) (by omega)
        refine tp_pc (pc' := 169) (by rfl) ?_
        refine lv_aload_n hx hb d_Ref_known_169 rfl (lv_at hl 5 rfl) ?_
        refine va_get (D := (dC, dI)) (ci := 8) (v := .ref (rA 16)) (C := R_Ref) (T := F_Ref) (N := 48) hx hb hw i_Ref hown hK hP 4 rfl rfl 16 (by decide) (hw _ m_915) (fun _ h9 => h9) rfl d_Ref_known_170 ?_
        refine lv_bipush (v := 84) hx hb d_Ref_known_173 (by decide) ?_
        refine lv_aload_n hx hb d_Ref_known_175 rfl (lv_at hl 5 rfl) ?_
        refine va_get (D := (dC, dI)) (ci := 8) (v := .ref (rA 16)) (C := R_Ref) (T := F_Ref) (N := 48) hx hb hw i_Ref hown hK hP 4 rfl rfl 16 (by decide) (hw _ m_915) (fun _ h9 => h9) rfl d_Ref_known_176 ?_
        refine lv_bipush (v := 41) hx hb d_Ref_known_179 (by decide) ?_
        refine lv_bipush (v := 8) hx hb d_Ref_known_181 (by decide) ?_
        refine lv_iload hx hb d_Ref_known_183 (lv_at hl 3 rfl) ?_
        refine lv_imul hx hb d_Ref_known_185 ?_
        refine tp_i (y := nI (8 * (vx a))) (by exact pk_mul 8 (vx a)) ?_
        refine lv_iadd hx hb d_Ref_known_186 ?_
        refine tp_i (y := nI (41 + (8 * (vx a)))) (by exact nI_add 41 (8 * (vx a))) ?_
        refine lv_iload_n hx hb d_Ref_known_187 rfl (lv_at hl 8 rfl) ?_
        refine lv_iadd hx hb d_Ref_known_188 ?_
        refine tp_i (y := nI (41 + (8 * (vx a)) + cn)) (by exact nI_add (41 + (8 * (vx a))) cn) ?_
        refine va_iald (D := (dC, dI)) hx hb hK hP 5 0 rfl rfl (i := nI (41 + (8 * (vx a)) + cn)) (pk_in (41 + (8 * (vx a)) + cn) 155 (by omega)) d_Ref_known_189 ?_
        refine tp_i (y := sf (41 + (8 * (vx a)) + cn)) (by rw [show (nI (41 + (8 * (vx a)) + cn) : Int32).toNatClampNeg = 41 + (8 * (vx a)) + cn from pk_cl (41 + (8 * (vx a)) + cn)]) ?_
        refine tp_i (y := nI (ro (cn))) r1 ?_
        refine lv_iadd hx hb d_Ref_known_190 ?_
        refine tp_i (y := nI (84 + (ro (cn)))) (by exact nI_add 84 (ro (cn))) ?_
        refine va_iald (D := (dC, dI)) hx hb hK hP 5 0 rfl rfl (i := nI (84 + (ro (cn)))) (pk_in (84 + (ro (cn))) 155 (by omega)) d_Ref_known_191 ?_
        refine tp_i (y := sf (84 + (ro (cn)))) (by rw [show (nI (84 + (ro (cn))) : Int32).toNatClampNeg = 84 + (ro (cn)) from pk_cl (84 + (ro (cn)))]) ?_
        refine tp_i (y := nI (ad cn)) r3 ?_
        refine lv_iconst (v := 1) hx hb d_Ref_known_192 (by decide) ?_
        refine lv_icmp_ne (tgt := 200) hx hb d_Ref_known_193 (by decide) (fun d3 => ?_) (fun d3 => ?_)
        · skip
          have hd3 : ¬ (ad cn = 1) := fun q9 => d3 ((nI_eq (a := ad cn) (b := 1) (by omega) (by omega)).mpr q9)
          refine tp_pc (pc' := 200) (by rfl) ?_
          refine lv_iconst (v := 0) hx hb d_Ref_known_200 (by decide) ?_
          refine tp_i (y := (if cn < z ∧ ad cn = 1 then 1 else 0)) (by rw [if_neg (fun q => hd3 q.2)]) ?_
          refine lv_istore (lv' := [(9, .int (if cn < z ∧ ad cn = 1 then 1 else 0)), (8, .int (if cn + 1 < z ∧ ad (cn + 1) = 1 then 1 else 0)), (7, .int (nI z)), (6, .int (nI po)), (5, .int (nI (vx a))), (4, .int 1), (0, .ref ra), (1, .int (nI t)), (2, .int (nI a)), (3, .int (nI cn))]) hx hb d_Ref_known_201 hl (by decide) rfl ?_
          clear hl ls
          intro ls hl
          exact kJ _ (lv_sub hl [0, 1, 2, 3, 4, 5, 6, 7, 8, 9] rfl)
        · skip
          have hd3 : ad cn = 1 := (nI_eq (a := ad cn) (b := 1) (by omega) (by omega)).mp d3
          refine tp_pc (pc' := 196) (by rfl) ?_
          refine lv_iconst (v := 1) hx hb d_Ref_known_196 (by decide) ?_
          refine lv_goto (tgt := 201) hx hb d_Ref_known_197 (by decide) ?_
          refine tp_pc (pc' := 201) (by rfl) ?_
          refine tp_i (y := (if cn < z ∧ ad cn = 1 then 1 else 0)) (by rw [if_pos ⟨by omega, hd3⟩]) ?_
          refine lv_istore (lv' := [(9, .int (if cn < z ∧ ad cn = 1 then 1 else 0)), (8, .int (if cn + 1 < z ∧ ad (cn + 1) = 1 then 1 else 0)), (7, .int (nI z)), (6, .int (nI po)), (5, .int (nI (vx a))), (4, .int 1), (0, .ref ra), (1, .int (nI t)), (2, .int (nI a)), (3, .int (nI cn))]) hx hb d_Ref_known_201 hl (by decide) rfl ?_
          clear hl ls
          intro ls hl
          exact kJ _ (lv_sub hl [0, 1, 2, 3, 4, 5, 6, 7, 8, 9] rfl)
    · intro ls hl
      refine lv_iload hx hb d_Ref_known_203 (lv_at hl 5 rfl) ?_
      refine lv_if_ne (tgt := 285) hx hb d_Ref_known_205 (by decide) (fun c_3 => ?_) (fun c_3 => absurd c_3 (by decide))
      refine tp_pc (pc' := 285) (by rfl) ?_
      refine lv_iload hx hb d_Ref_known_285 (lv_at hl 5 rfl) ?_
      refine lv_iconst (v := 3) hx hb d_Ref_known_287 (by decide) ?_
      refine lv_icmp_ne (tgt := 401) hx hb d_Ref_known_288 (by decide) (fun c_4 => ?_) (fun c_4 => absurd c_4 (by decide))
      refine tp_pc (pc' := 401) (by rfl) ?_
      refine lv_iload_n hx hb d_Ref_known_401 rfl (lv_at hl 9 rfl) ?_
      refine lv_iload hx hb d_Ref_known_402 (lv_at hl 3 rfl) ?_
      refine lv_icmp_le (tgt := 418) hx hb d_Ref_known_404 (by decide) (fun d1 => ?_) (fun d1 => ?_)
      · skip
        have hd1 : cn ≤ po := (nI_leI (a := cn) (b := po) (by omega) (by omega)).mp d1
        refine tp_pc (pc' := 418) (by rfl) ?_
        refine lv_iconst (v := 0) hx hb d_Ref_known_418 (by decide) ?_
        obtain ⟨hP9, hD9, -⟩ := cut3 (wc := [oc ra 8 [.int (nI T), .int (nI Ac), .ref (rA 2), .ref (rA 3), .ref (rA 4), .ref (rA 5), .ref (rA 6), .ref (rA 7), .ref (rA 8), .ref (rA 9), .ref (rA 10), .ref (rA 11), .ref (rA 12), .ref (rA 13), .int ir, .ref (rA 15), .ref (rA 16), .ref (rA 17), .ref (rA 18), .int (nI md), .int (nI wd), .ref (rA 21), .ref (rA 22), .ref (rA 23), .int (nI mn), .ref (rA 25), .int (nI cb), .int mr, .ref (rA 28), .ref (rA 29), .ref (rA 30), .ref (rA 31), .ref (rA 32), .ref (rA 33), .ref (rA 34), .ref (rA 35), .int (nI ld), .int (nI gm), .ref (rA 38), .ref (rA 39), .ref (rA 40), .ref (rA 41), .ref (rA 42), .ref (rA 43), .ref (rA 44), .ref (rA 45), .int (nI my), .ref (rA 47)], ia (rA 16) (rK9 16) 155 sf, ia (rA 3) (rK9 3) 28 (fun i => nI (kd i)), ia (rA 4) (rK9 4) 28 (fun i => nI (vx i)), ia (rA 5) (rK9 5) 28 (fun i => nI (rr i)), ia (rA 6) (rK9 6) 28 vv]) hP hD rfl hS hA [4, 5, 0, 1, 2, 3] (by decide +kernel) rfl
        have hK9 := hK.sub (tys' := []) [] rfl
        refine W.widen (k := 0) (n := 0) (by exact Nat.le_of_ble_eq_true rfl) (by exact Nat.le_of_ble_eq_true rfl) ?_
        exact W.zret (v := 0) (ty := .boolean) hx hb hr (by decide) (fun t9 ht9 hW => ⟨⟨0, (), rfl, rfl, by rw [ht9]; exact hP9, va_K.moved hW.alike hK9, hD9⟩, hS.F ht9⟩) hS.2.2 d_Ref_known_419
      · skip
        have hd1 : ¬ (cn ≤ po) := fun q9 => d1 ((nI_leI (a := cn) (b := po) (by omega) (by omega)).mpr q9)
        refine tp_pc (pc' := 407) (by rfl) ?_
        refine lv_iload_n hx hb d_Ref_known_407 rfl (lv_at hl 9 rfl) ?_
        refine lv_iload hx hb d_Ref_known_408 (lv_at hl 2 rfl) ?_
        refine lv_icmp_gt (tgt := 418) hx hb d_Ref_known_410 (by decide) (fun d2 => ?_) (fun d2 => ?_)
        · skip
          have hd2 : z < cn := (nI_ltI (a := z) (b := cn) (by omega) (by omega)).mp d2
          refine tp_pc (pc' := 418) (by rfl) ?_
          refine lv_iconst (v := 0) hx hb d_Ref_known_418 (by decide) ?_
          obtain ⟨hP9, hD9, -⟩ := cut3 (wc := [oc ra 8 [.int (nI T), .int (nI Ac), .ref (rA 2), .ref (rA 3), .ref (rA 4), .ref (rA 5), .ref (rA 6), .ref (rA 7), .ref (rA 8), .ref (rA 9), .ref (rA 10), .ref (rA 11), .ref (rA 12), .ref (rA 13), .int ir, .ref (rA 15), .ref (rA 16), .ref (rA 17), .ref (rA 18), .int (nI md), .int (nI wd), .ref (rA 21), .ref (rA 22), .ref (rA 23), .int (nI mn), .ref (rA 25), .int (nI cb), .int mr, .ref (rA 28), .ref (rA 29), .ref (rA 30), .ref (rA 31), .ref (rA 32), .ref (rA 33), .ref (rA 34), .ref (rA 35), .int (nI ld), .int (nI gm), .ref (rA 38), .ref (rA 39), .ref (rA 40), .ref (rA 41), .ref (rA 42), .ref (rA 43), .ref (rA 44), .ref (rA 45), .int (nI my), .ref (rA 47)], ia (rA 16) (rK9 16) 155 sf, ia (rA 3) (rK9 3) 28 (fun i => nI (kd i)), ia (rA 4) (rK9 4) 28 (fun i => nI (vx i)), ia (rA 5) (rK9 5) 28 (fun i => nI (rr i)), ia (rA 6) (rK9 6) 28 vv]) hP hD rfl hS hA [4, 5, 0, 1, 2, 3] (by decide +kernel) rfl
          have hK9 := hK.sub (tys' := []) [] rfl
          refine W.widen (k := 0) (n := 0) (by exact Nat.le_of_ble_eq_true rfl) (by exact Nat.le_of_ble_eq_true rfl) ?_
          exact W.zret (v := 0) (ty := .boolean) hx hb hr (by decide) (fun t9 ht9 hW => ⟨⟨0, (), rfl, rfl, by rw [ht9]; exact hP9, va_K.moved hW.alike hK9, hD9⟩, hS.F ht9⟩) hS.2.2 d_Ref_known_419
        · skip
          have hd2 : ¬ (z < cn) := fun q9 => d2 ((nI_ltI (a := z) (b := cn) (by omega) (by omega)).mpr q9)
          refine tp_pc (pc' := 413) (by rfl) ?_
          refine lv_iload hx hb d_Ref_known_413 (lv_at hl 0 rfl) ?_
          rw [if_pos (show cn < z ∧ ad cn = 1 from Classical.byContradiction fun q => hcc ⟨⟨by omega, by omega⟩, q⟩)]
          refine lv_if_eq (tgt := 420) hx hb d_Ref_known_415 (by decide) (fun c_5 => absurd c_5 (by decide)) (fun c_5 => ?_)
          refine tp_pc (pc' := 418) (by rfl) ?_
          refine lv_iconst (v := 0) hx hb d_Ref_known_418 (by decide) ?_
          obtain ⟨hP9, hD9, -⟩ := cut3 (wc := [oc ra 8 [.int (nI T), .int (nI Ac), .ref (rA 2), .ref (rA 3), .ref (rA 4), .ref (rA 5), .ref (rA 6), .ref (rA 7), .ref (rA 8), .ref (rA 9), .ref (rA 10), .ref (rA 11), .ref (rA 12), .ref (rA 13), .int ir, .ref (rA 15), .ref (rA 16), .ref (rA 17), .ref (rA 18), .int (nI md), .int (nI wd), .ref (rA 21), .ref (rA 22), .ref (rA 23), .int (nI mn), .ref (rA 25), .int (nI cb), .int mr, .ref (rA 28), .ref (rA 29), .ref (rA 30), .ref (rA 31), .ref (rA 32), .ref (rA 33), .ref (rA 34), .ref (rA 35), .int (nI ld), .int (nI gm), .ref (rA 38), .ref (rA 39), .ref (rA 40), .ref (rA 41), .ref (rA 42), .ref (rA 43), .ref (rA 44), .ref (rA 45), .int (nI my), .ref (rA 47)], ia (rA 16) (rK9 16) 155 sf, ia (rA 3) (rK9 3) 28 (fun i => nI (kd i)), ia (rA 4) (rK9 4) 28 (fun i => nI (vx i)), ia (rA 5) (rK9 5) 28 (fun i => nI (rr i)), ia (rA 6) (rK9 6) 28 vv]) hP hD rfl hS hA [4, 5, 0, 1, 2, 3] (by decide +kernel) rfl
          have hK9 := hK.sub (tys' := []) [] rfl
          refine W.widen (k := 0) (n := 0) (by exact Nat.le_of_ble_eq_true rfl) (by exact Nat.le_of_ble_eq_true rfl) ?_
          exact W.zret (v := 0) (ty := .boolean) hx hb hr (by decide) (fun t9 ht9 hW => ⟨⟨0, (), rfl, rfl, by rw [ht9]; exact hP9, va_K.moved hW.alike hK9, hD9⟩, hS.F ht9⟩) hS.2.2 d_Ref_known_419
set_option maxHeartbeats 4000000 in
set_option maxRecDepth 100000 in
theorem gen_Ref_known_2y (l : Launch) (dC : Nat → ClassId) (dI : Nat → Nat → Nat) (ra : Nat) (rA : Nat → Nat) (rK9 : Nat → ClassId) (T Ac md wd mn cb ld gm my : Nat) (ir mr : Int32) (t a cn : Nat) (sf vv : Nat → Int32) (kd vx rr : Nat → Nat) (z po wn : Nat) (ro ad pi pm : Nat → Nat) (ht : t < 4) (ha : a < 28) (hk : kd a = 2) (hx3 : vx a < 3) (hrr : rr a < 2) (hc9 : cn < 9) (hz8 : z ≤ 8) (hzz : sf (37 + vx a) = nI z) (hpo : po < 8 ∧ sf (41 + 8 * vx a + po) = sf (139 + 4 * t + vx a) ∧ ∀ q, q < po → ¬ sf (41 + 8 * vx a + q) = sf (139 + 4 * t + vx a)) (hro : ∀ q, q < z → sf (41 + 8 * vx a + q) = nI (ro q) ∧ ro q < 11) (had : ∀ q, q < z → sf (84 + ro q) = nI (ad q) ∧ ad q < 2) (hcc : (po < cn ∧ cn ≤ z) ∧ ¬ (cn < z ∧ ad cn = 1)) (h15 : sf 15 = nI wn) (hwn : wn < 11) (hz7 : z ≤ 7) (sz : Nat) : Met l y_Ref_known w_Ref_known ({ frames := 2, cells := 0, slots := 0, locals := 100 }) (va_Pc [.ref ra, .int (nI t), .int (nI a), .int (nI cn)] (fun U => U.heap.size = sz ∧ va_P (dC, dI) classes [oc ra 8 [.int (nI T), .int (nI Ac), .ref (rA 2), .ref (rA 3), .ref (rA 4), .ref (rA 5), .ref (rA 6), .ref (rA 7), .ref (rA 8), .ref (rA 9), .ref (rA 10), .ref (rA 11), .ref (rA 12), .ref (rA 13), .int ir, .ref (rA 15), .ref (rA 16), .ref (rA 17), .ref (rA 18), .int (nI md), .int (nI wd), .ref (rA 21), .ref (rA 22), .ref (rA 23), .int (nI mn), .ref (rA 25), .int (nI cb), .int mr, .ref (rA 28), .ref (rA 29), .ref (rA 30), .ref (rA 31), .ref (rA 32), .ref (rA 33), .ref (rA 34), .ref (rA 35), .int (nI ld), .int (nI gm), .ref (rA 38), .ref (rA 39), .ref (rA 40), .ref (rA 41), .ref (rA 42), .ref (rA 43), .ref (rA 44), .ref (rA 45), .int (nI my), .ref (rA 47)], ia (rA 16) (rK9 16) 155 sf, ia (rA 3) (rK9 3) 28 (fun i => nI (kd i)), ia (rA 4) (rK9 4) 28 (fun i => nI (vx i)), ia (rA 5) (rK9 5) 28 (fun i => nI (rr i)), ia (rA 6) (rK9 6) 28 vv] U.heap ∧ va_K (dC, dI) classes [((rK9 16), .int), ((rK9 3), .int), ((rK9 4), .int), ((rK9 5), .int), ((rK9 6), .int)] U ∧ va_D (fun _ => True) [oc ra 8 [.int (nI T), .int (nI Ac), .ref (rA 2), .ref (rA 3), .ref (rA 4), .ref (rA 5), .ref (rA 6), .ref (rA 7), .ref (rA 8), .ref (rA 9), .ref (rA 10), .ref (rA 11), .ref (rA 12), .ref (rA 13), .int ir, .ref (rA 15), .ref (rA 16), .ref (rA 17), .ref (rA 18), .int (nI md), .int (nI wd), .ref (rA 21), .ref (rA 22), .ref (rA 23), .int (nI mn), .ref (rA 25), .int (nI cb), .int mr, .ref (rA 28), .ref (rA 29), .ref (rA 30), .ref (rA 31), .ref (rA 32), .ref (rA 33), .ref (rA 34), .ref (rA 35), .int (nI ld), .int (nI gm), .ref (rA 38), .ref (rA 39), .ref (rA 40), .ref (rA 41), .ref (rA 42), .ref (rA 43), .ref (rA 44), .ref (rA 45), .int (nI my), .ref (rA 47)], ia (rA 16) (rK9 16) 155 sf, ia (rA 3) (rK9 3) 28 (fun i => nI (kd i)), ia (rA 4) (rK9 4) 28 (fun i => nI (vx i)), ia (rA 5) (rK9 5) 28 (fun i => nI (rr i)), ia (rA 6) (rK9 6) 28 vv] ∧ nw U)) (va_Qi (fun (r : Int32) (_ : Unit) => r = 1) (fun _ t9 => va_P (dC, dI) classes [oc ra 8 [.int (nI T), .int (nI Ac), .ref (rA 2), .ref (rA 3), .ref (rA 4), .ref (rA 5), .ref (rA 6), .ref (rA 7), .ref (rA 8), .ref (rA 9), .ref (rA 10), .ref (rA 11), .ref (rA 12), .ref (rA 13), .int ir, .ref (rA 15), .ref (rA 16), .ref (rA 17), .ref (rA 18), .int (nI md), .int (nI wd), .ref (rA 21), .ref (rA 22), .ref (rA 23), .int (nI mn), .ref (rA 25), .int (nI cb), .int mr, .ref (rA 28), .ref (rA 29), .ref (rA 30), .ref (rA 31), .ref (rA 32), .ref (rA 33), .ref (rA 34), .ref (rA 35), .int (nI ld), .int (nI gm), .ref (rA 38), .ref (rA 39), .ref (rA 40), .ref (rA 41), .ref (rA 42), .ref (rA 43), .ref (rA 44), .ref (rA 45), .int (nI my), .ref (rA 47)], ia (rA 16) (rK9 16) 155 (kwF (puB (upd sf t (sf t + 1)) t (vx a) cn z wn (sf (4 + 2 * t + rr a) + vv a) 0) t wn 4), ia (rA 3) (rK9 3) 28 (fun i => nI (kd i)), ia (rA 4) (rK9 4) 28 (fun i => nI (vx i)), ia (rA 5) (rK9 5) 28 (fun i => nI (rr i)), ia (rA 6) (rK9 6) 28 vv] t9.heap ∧ va_K (dC, dI) classes [] t9 ∧ va_D (va_A [oc ra 8 [.int (nI T), .int (nI Ac), .ref (rA 2), .ref (rA 3), .ref (rA 4), .ref (rA 5), .ref (rA 6), .ref (rA 7), .ref (rA 8), .ref (rA 9), .ref (rA 10), .ref (rA 11), .ref (rA 12), .ref (rA 13), .int ir, .ref (rA 15), .ref (rA 16), .ref (rA 17), .ref (rA 18), .int (nI md), .int (nI wd), .ref (rA 21), .ref (rA 22), .ref (rA 23), .int (nI mn), .ref (rA 25), .int (nI cb), .int mr, .ref (rA 28), .ref (rA 29), .ref (rA 30), .ref (rA 31), .ref (rA 32), .ref (rA 33), .ref (rA 34), .ref (rA 35), .int (nI ld), .int (nI gm), .ref (rA 38), .ref (rA 39), .ref (rA 40), .ref (rA 41), .ref (rA 42), .ref (rA 43), .ref (rA 44), .ref (rA 45), .int (nI my), .ref (rA 47)], ia (rA 16) (rK9 16) 155 sf, ia (rA 3) (rK9 3) 28 (fun i => nI (kd i)), ia (rA 4) (rK9 4) 28 (fun i => nI (vx i)), ia (rA 5) (rK9 5) 28 (fun i => nI (rr i)), ia (rA 6) (rK9 6) 28 vv] sz) [oc ra 8 [.int (nI T), .int (nI Ac), .ref (rA 2), .ref (rA 3), .ref (rA 4), .ref (rA 5), .ref (rA 6), .ref (rA 7), .ref (rA 8), .ref (rA 9), .ref (rA 10), .ref (rA 11), .ref (rA 12), .ref (rA 13), .int ir, .ref (rA 15), .ref (rA 16), .ref (rA 17), .ref (rA 18), .int (nI md), .int (nI wd), .ref (rA 21), .ref (rA 22), .ref (rA 23), .int (nI mn), .ref (rA 25), .int (nI cb), .int mr, .ref (rA 28), .ref (rA 29), .ref (rA 30), .ref (rA 31), .ref (rA 32), .ref (rA 33), .ref (rA 34), .ref (rA 35), .int (nI ld), .int (nI gm), .ref (rA 38), .ref (rA 39), .ref (rA 40), .ref (rA 41), .ref (rA 42), .ref (rA 43), .ref (rA 44), .ref (rA 45), .int (nI my), .ref (rA 47)], ia (rA 16) (rK9 16) 155 (kwF (puB (upd sf t (sf t + 1)) t (vx a) cn z wn (sf (4 + 2 * t + rr a) + vv a) 0) t wn 4), ia (rA 3) (rK9 3) 28 (fun i => nI (kd i)), ia (rA 4) (rK9 4) 28 (fun i => nI (vx i)), ia (rA 5) (rK9 5) 28 (fun i => nI (rr i)), ia (rA 6) (rK9 6) 28 vv]) (va_A [oc ra 8 [.int (nI T), .int (nI Ac), .ref (rA 2), .ref (rA 3), .ref (rA 4), .ref (rA 5), .ref (rA 6), .ref (rA 7), .ref (rA 8), .ref (rA 9), .ref (rA 10), .ref (rA 11), .ref (rA 12), .ref (rA 13), .int ir, .ref (rA 15), .ref (rA 16), .ref (rA 17), .ref (rA 18), .int (nI md), .int (nI wd), .ref (rA 21), .ref (rA 22), .ref (rA 23), .int (nI mn), .ref (rA 25), .int (nI cb), .int mr, .ref (rA 28), .ref (rA 29), .ref (rA 30), .ref (rA 31), .ref (rA 32), .ref (rA 33), .ref (rA 34), .ref (rA 35), .int (nI ld), .int (nI gm), .ref (rA 38), .ref (rA 39), .ref (rA 40), .ref (rA 41), .ref (rA 42), .ref (rA 43), .ref (rA 44), .ref (rA 45), .int (nI my), .ref (rA 47)], ia (rA 16) (rK9 16) 155 sf, ia (rA 3) (rK9 3) 28 (fun i => nI (kd i)), ia (rA 4) (rK9 4) 28 (fun i => nI (vx i)), ia (rA 5) (rK9 5) 28 (fun i => nI (rr i)), ia (rA 6) (rK9 6) 28 vv] sz)) 0 0 (va_A [oc ra 8 [.int (nI T), .int (nI Ac), .ref (rA 2), .ref (rA 3), .ref (rA 4), .ref (rA 5), .ref (rA 6), .ref (rA 7), .ref (rA 8), .ref (rA 9), .ref (rA 10), .ref (rA 11), .ref (rA 12), .ref (rA 13), .int ir, .ref (rA 15), .ref (rA 16), .ref (rA 17), .ref (rA 18), .int (nI md), .int (nI wd), .ref (rA 21), .ref (rA 22), .ref (rA 23), .int (nI mn), .ref (rA 25), .int (nI cb), .int mr, .ref (rA 28), .ref (rA 29), .ref (rA 30), .ref (rA 31), .ref (rA 32), .ref (rA 33), .ref (rA 34), .ref (rA 35), .int (nI ld), .int (nI gm), .ref (rA 38), .ref (rA 39), .ref (rA 40), .ref (rA 41), .ref (rA 42), .ref (rA 43), .ref (rA 44), .ref (rA 45), .int (nI my), .ref (rA 47)], ia (rA 16) (rK9 16) 155 sf, ia (rA 3) (rK9 3) 28 (fun i => nI (kd i)), ia (rA 4) (rK9 4) 28 (fun i => nI (vx i)), ia (rA 5) (rK9 5) 28 (fun i => nI (rr i)), ia (rA 6) (rK9 6) 28 vv] sz) := by
  refine Met.ofW (cc := b_Ref_known) (maxL := 11) (ret := (some .boolean)) (by decide) rfl ?_
  intro p e0 s m args below meth c s₁ B hml hv
  obtain ⟨rfl, hsz, hP, hK, hD0, hn⟩ := hv
  have hx := B.exec
  have hb := B.bytes
  have hr := B.returns
  have hw := fun w (h : w ∈ wt) => atoms_spec (ws := w_Ref_known) B.pre w (List.mem_cons_of_mem _ h)
  have hown : s.vm.findClass R_Ref = some m.cls := findClass_of_methodNamed B.named
  have hlocks := B.notSynchronized
  subst hsz
  have hD1 := hD0.self (sz := s.heap.size)
  generalize hAe : va_A [oc ra 8 [.int (nI T), .int (nI Ac), .ref (rA 2), .ref (rA 3), .ref (rA 4), .ref (rA 5), .ref (rA 6), .ref (rA 7), .ref (rA 8), .ref (rA 9), .ref (rA 10), .ref (rA 11), .ref (rA 12), .ref (rA 13), .int ir, .ref (rA 15), .ref (rA 16), .ref (rA 17), .ref (rA 18), .int (nI md), .int (nI wd), .ref (rA 21), .ref (rA 22), .ref (rA 23), .int (nI mn), .ref (rA 25), .int (nI cb), .int mr, .ref (rA 28), .ref (rA 29), .ref (rA 30), .ref (rA 31), .ref (rA 32), .ref (rA 33), .ref (rA 34), .ref (rA 35), .int (nI ld), .int (nI gm), .ref (rA 38), .ref (rA 39), .ref (rA 40), .ref (rA 41), .ref (rA 42), .ref (rA 43), .ref (rA 44), .ref (rA 45), .int (nI my), .ref (rA 47)], ia (rA 16) (rK9 16) 155 sf, ia (rA 3) (rK9 3) 28 (fun i => nI (kd i)), ia (rA 4) (rK9 4) 28 (fun i => nI (vx i)), ia (rA 5) (rK9 5) 28 (fun i => nI (rr i)), ia (rA 6) (rK9 6) 28 vv] s.heap.size = A at hD1 ⊢
  have hA : ∀ q : Nat, s.heap.size ≤ q → A q := fun q h => by rw [← hAe]; exact Or.inr h
  have hD : dd A [ra, (rA 16), (rA 3), (rA 4), (rA 5), (rA 6)] := dd_of hD1 rfl
  clear hAe hD0 hD1
  have hS : va_S A s.heap s.heap [] := va_S.rf
  replace hP : va_P (dC, dI) classes [oc ra 8 [.int (nI T), .int (nI Ac), .ref (rA 2), .ref (rA 3), .ref (rA 4), .ref (rA 5), .ref (rA 6), .ref (rA 7), .ref (rA 8), .ref (rA 9), .ref (rA 10), .ref (rA 11), .ref (rA 12), .ref (rA 13), .int ir, .ref (rA 15), .ref (rA 16), .ref (rA 17), .ref (rA 18), .int (nI md), .int (nI wd), .ref (rA 21), .ref (rA 22), .ref (rA 23), .int (nI mn), .ref (rA 25), .int (nI cb), .int mr, .ref (rA 28), .ref (rA 29), .ref (rA 30), .ref (rA 31), .ref (rA 32), .ref (rA 33), .ref (rA 34), .ref (rA 35), .int (nI ld), .int (nI gm), .ref (rA 38), .ref (rA 39), .ref (rA 40), .ref (rA 41), .ref (rA 42), .ref (rA 43), .ref (rA 44), .ref (rA 45), .int (nI my), .ref (rA 47)], ia (rA 16) (rK9 16) 155 sf, ia (rA 3) (rK9 3) 28 (fun i => nI (kd i)), ia (rA 4) (rK9 4) 28 (fun i => nI (vx i)), ia (rA 5) (rK9 5) 28 (fun i => nI (rr i)), ia (rA 6) (rK9 6) 28 vv] s.heap := hP
  have hl := lv_entry ([.ref ra, .int (nI t), .int (nI a), .int (nI cn)]) (n := 11) (Nat.le_of_ble_eq_true rfl)
  rw [lg_entry_eq]
  generalize (lg_sl ([.ref ra, .int (nI t), .int (nI a), .int (nI cn)]) ++ List.replicate (11 - (lg_sl ([.ref ra, .int (nI t), .int (nI a), .int (nI cn)])).length) Slot.unset).toArray = ls at hl ⊢
  replace hl : lv_has ls 11 [(0, .ref ra), (1, .int (nI t)), (2, .int (nI a)), (3, .int (nI cn))] := hl
  refine lv_aload_n hx hb d_Ref_known_0 rfl (lv_at hl 0 rfl) ?_
  refine va_get (D := (dC, dI)) (ci := 8) (v := .ref (rA 3)) (C := R_Ref) (T := F_Ref) (N := 48) hx hb hw i_Ref hown hK hP 0 rfl rfl 3 (by decide) (hw _ m_902) (fun _ h9 => h9) rfl d_Ref_known_1 ?_
  refine lv_iload_n hx hb d_Ref_known_4 rfl (lv_at hl 2 rfl) ?_
  refine va_iald (D := (dC, dI)) hx hb hK hP 2 1 rfl rfl (i := nI a) (pk_in a 28 (by omega)) d_Ref_known_5 ?_
  refine tp_i (y := nI (kd a)) (by rw [show (nI a : Int32).toNatClampNeg = a from pk_cl a]) ?_
  refine tp_i (y := 2) (by rw [hk]; rfl) ?_
  obtain ⟨o1, o2, o3⟩ := hpo
  refine lv_istore (lv' := [(4, .int 2), (0, .ref ra), (1, .int (nI t)), (2, .int (nI a)), (3, .int (nI cn))]) hx hb d_Ref_known_6 hl (by decide) rfl ?_
  clear hl ls
  intro ls hl
  refine lv_iload hx hb d_Ref_known_8 (lv_at hl 0 rfl) ?_
  refine lv_iconst (v := 4) hx hb d_Ref_known_10 (by decide) ?_
  refine lv_icmp_ne (tgt := 70) hx hb d_Ref_known_11 (by decide) (fun c_1 => ?_) (fun c_1 => absurd c_1 (by decide))
  refine tp_pc (pc' := 70) (by rfl) ?_
  refine lv_aload_n hx hb d_Ref_known_70 rfl (lv_at hl 1 rfl) ?_
  refine va_get (D := (dC, dI)) (ci := 8) (v := .ref (rA 4)) (C := R_Ref) (T := F_Ref) (N := 48) hx hb hw i_Ref hown hK hP 0 rfl rfl 4 (by decide) (hw _ m_903) (fun _ h9 => h9) rfl d_Ref_known_71 ?_
  refine lv_iload_n hx hb d_Ref_known_74 rfl (lv_at hl 3 rfl) ?_
  refine va_iald (D := (dC, dI)) hx hb hK hP 3 2 rfl rfl (i := nI a) (pk_in a 28 (by omega)) d_Ref_known_75 ?_
  refine tp_i (y := nI (vx a)) (by rw [show (nI a : Int32).toNatClampNeg = a from pk_cl a]) ?_
  refine lv_istore (lv' := [(5, .int (nI (vx a))), (4, .int 2), (0, .ref ra), (1, .int (nI t)), (2, .int (nI a)), (3, .int (nI cn))]) hx hb d_Ref_known_76 hl (by decide) rfl ?_
  clear hl ls
  intro ls hl
  refine lv_aload_n hx hb d_Ref_known_78 rfl (lv_at hl 2 rfl) ?_
  refine lv_iload hx hb d_Ref_known_79 (lv_at hl 0 rfl) ?_
  refine lv_aload_n hx hb d_Ref_known_81 rfl (lv_at hl 2 rfl) ?_
  refine va_get (D := (dC, dI)) (ci := 8) (v := .ref (rA 16)) (C := R_Ref) (T := F_Ref) (N := 48) hx hb hw i_Ref hown hK hP 0 rfl rfl 16 (by decide) (hw _ m_915) (fun _ h9 => h9) rfl d_Ref_known_82 ?_
  refine lv_sipush (v := 139) hx hb d_Ref_known_85 (by decide) ?_
  refine lv_iconst (v := 4) hx hb d_Ref_known_88 (by decide) ?_
  refine lv_iload_n hx hb d_Ref_known_89 rfl (lv_at hl 3 rfl) ?_
  refine lv_imul hx hb d_Ref_known_90 ?_
  refine tp_i (y := nI (4 * t)) (by exact pk_mul 4 t) ?_
  refine lv_iadd hx hb d_Ref_known_91 ?_
  refine tp_i (y := nI (139 + (4 * t))) (by exact nI_add 139 (4 * t)) ?_
  refine lv_iload hx hb d_Ref_known_92 (lv_at hl 0 rfl) ?_
  refine lv_iadd hx hb d_Ref_known_94 ?_
  refine tp_i (y := nI (139 + (4 * t) + (vx a))) (by exact nI_add (139 + (4 * t)) (vx a)) ?_
  refine va_iald (D := (dC, dI)) hx hb hK hP 1 0 rfl rfl (i := nI (139 + (4 * t) + (vx a))) (pk_in (139 + (4 * t) + (vx a)) 155 (by omega)) d_Ref_known_95 ?_
  refine tp_i (y := sf (139 + (4 * t) + (vx a))) (by rw [show (nI (139 + (4 * t) + (vx a)) : Int32).toNatClampNeg = 139 + (4 * t) + (vx a) from pk_cl (139 + (4 * t) + (vx a))]) ?_
  obtain ⟨hPc, hDc, hFc⟩ := cut3 (wc := [oc ra 8 [.int (nI T), .int (nI Ac), .ref (rA 2), .ref (rA 3), .ref (rA 4), .ref (rA 5), .ref (rA 6), .ref (rA 7), .ref (rA 8), .ref (rA 9), .ref (rA 10), .ref (rA 11), .ref (rA 12), .ref (rA 13), .int ir, .ref (rA 15), .ref (rA 16), .ref (rA 17), .ref (rA 18), .int (nI md), .int (nI wd), .ref (rA 21), .ref (rA 22), .ref (rA 23), .int (nI mn), .ref (rA 25), .int (nI cb), .int mr, .ref (rA 28), .ref (rA 29), .ref (rA 30), .ref (rA 31), .ref (rA 32), .ref (rA 33), .ref (rA 34), .ref (rA 35), .int (nI ld), .int (nI gm), .ref (rA 38), .ref (rA 39), .ref (rA 40), .ref (rA 41), .ref (rA 42), .ref (rA 43), .ref (rA 44), .ref (rA 45), .int (nI my), .ref (rA 47)], ia (rA 16) (rK9 16) 155 sf]) hP hD rfl hS hA [0, 1] (by decide +kernel) rfl
  have hKc := hK.sub (tys' := [((rK9 16), .int)]) [0] rfl
  refine va_calli (va_runV (As := [.int (nI (vx a)), .int (sf (139 + (4 * t) + (vx a)))]) (rest := []) ⟨hx, hb, hml, hown, hw⟩ (gen_Ref_placeOf l dC dI ra rA rK9 T Ac md wd mn cb ld gm my ir mr (vx a) po (sf (139 + 4 * t + vx a)) sf (by omega) o1 o2 o3 s.heap.size) (cw_V 2 hw g_Ref_placeOf rfl rfl rfl (hw _ m_109) (hw _ m_1101) (hw _ m_1103) (hw _ m_60) (by decide +kernel) ⟨Nat.le_of_ble_eq_true rfl, Nat.le_of_ble_eq_true rfl⟩) ⟨fun a U g mk q => by obtain ⟨q0, q1, qP, qK, qD, qN⟩ := q; exact ⟨q0, q1, qP, va_K.moved (u := U) (U := U.calling g mk a) (Vm.Alike.refl U.vm) qK, qD, nw_call qN⟩, va_recv hKc hPc (ci := 8) (q0 := 0) rfl rfl, fun U hU hW => ⟨rfl, by rw [hU], by rw [hU]; exact hPc, va_K.moved hW.alike hKc, hDc.weaken (fun _ _ _ _ => trivial), nw_warm hW hn⟩⟩ rfl rfl hl.1 rfl (lv_room (Nat.le_of_ble_eq_true rfl)) d_Ref_known_96 ⟨Nat.le_of_ble_eq_true rfl, Nat.le_of_ble_eq_true rfl⟩) hS (fun q _ h => hFc q h) hFc ?_
  intro r_2 u t9 H1 locs1 ht9 hvm hw1 hB hz1 hk1 hS1
  obtain ⟨hP1, hK1, hD1⟩ := hB
  rw [ht9] at hP1
  replace hK1 := va_K.moved hvm.symm hK1
  have hPD := join3 hP hD rfl [0, 1] [2, 3, 4, 5] rfl (by rfl) (by decide +kernel) (by decide +kernel) hk1 hFc hP1 hD1
  replace hK : va_K (dC, dI) classes [((rK9 16), .int), ((rK9 3), .int), ((rK9 4), .int), ((rK9 5), .int), ((rK9 6), .int)] s := hK.app hK1
  clear hP1 hK1 hD1 hk1 hz1 hFc hKc hDc hPc hvm ht9 hP hS t9
  have hP : va_P (dC, dI) classes [ia (rA 3) (rK9 3) 28 (fun i => nI (kd i)), ia (rA 4) (rK9 4) 28 (fun i => nI (vx i)), ia (rA 5) (rK9 5) 28 (fun i => nI (rr i)), ia (rA 6) (rK9 6) 28 vv, oc ra 8 [.int (nI T), .int (nI Ac), .ref (rA 2), .ref (rA 3), .ref (rA 4), .ref (rA 5), .ref (rA 6), .ref (rA 7), .ref (rA 8), .ref (rA 9), .ref (rA 10), .ref (rA 11), .ref (rA 12), .ref (rA 13), .int ir, .ref (rA 15), .ref (rA 16), .ref (rA 17), .ref (rA 18), .int (nI md), .int (nI wd), .ref (rA 21), .ref (rA 22), .ref (rA 23), .int (nI mn), .ref (rA 25), .int (nI cb), .int mr, .ref (rA 28), .ref (rA 29), .ref (rA 30), .ref (rA 31), .ref (rA 32), .ref (rA 33), .ref (rA 34), .ref (rA 35), .int (nI ld), .int (nI gm), .ref (rA 38), .ref (rA 39), .ref (rA 40), .ref (rA 41), .ref (rA 42), .ref (rA 43), .ref (rA 44), .ref (rA 45), .int (nI my), .ref (rA 47)], ia (rA 16) (rK9 16) 155 sf] H1 := hPD.1
  replace hD : dd A [(rA 3), (rA 4), (rA 5), (rA 6), ra, (rA 16)] := dd_of hPD.2 rfl
  clear hPD
  revert H1 locs1
  intro H locs hS hP
  refine tp_i (y := nI po) (hw1) ?_
  clear hw1 r_2 u
  refine tp_pc (pc' := 99) (by rfl) ?_
  refine lv_istore (lv' := [(6, .int (nI po)), (5, .int (nI (vx a))), (4, .int 2), (0, .ref ra), (1, .int (nI t)), (2, .int (nI a)), (3, .int (nI cn))]) hx hb d_Ref_known_99 hl (by decide) rfl ?_
  clear hl ls
  intro ls hl
  refine lv_aload_n hx hb d_Ref_known_101 rfl (lv_at hl 3 rfl) ?_
  refine va_get (D := (dC, dI)) (ci := 8) (v := .ref (rA 16)) (C := R_Ref) (T := F_Ref) (N := 48) hx hb hw i_Ref hown hK hP 4 rfl rfl 16 (by decide) (hw _ m_915) (fun _ h9 => h9) rfl d_Ref_known_102 ?_
  refine lv_bipush (v := 37) hx hb d_Ref_known_105 (by decide) ?_
  refine lv_iload hx hb d_Ref_known_107 (lv_at hl 1 rfl) ?_
  refine lv_iadd hx hb d_Ref_known_109 ?_
  refine tp_i (y := nI (37 + (vx a))) (by exact nI_add 37 (vx a)) ?_
  refine va_iald (D := (dC, dI)) hx hb hK hP 5 0 rfl rfl (i := nI (37 + (vx a))) (pk_in (37 + (vx a)) 155 (by omega)) d_Ref_known_110 ?_
  refine tp_i (y := sf (37 + (vx a))) (by rw [show (nI (37 + (vx a)) : Int32).toNatClampNeg = 37 + (vx a) from pk_cl (37 + (vx a))]) ?_
  refine tp_i (y := nI z) hzz ?_
  refine lv_istore (lv' := [(7, .int (nI z)), (6, .int (nI po)), (5, .int (nI (vx a))), (4, .int 2), (0, .ref ra), (1, .int (nI t)), (2, .int (nI a)), (3, .int (nI cn))]) hx hb d_Ref_known_111 hl (by decide) rfl ?_
  clear hl ls
  intro ls hl
  refine lp_j 163 (fun ls => lv_has ls 11 [(8, .int (if cn + 1 < z ∧ ad (cn + 1) = 1 then 1 else 0)), (7, .int (nI z)), (6, .int (nI po)), (5, .int (nI (vx a))), (4, .int 2), (0, .ref ra), (1, .int (nI t)), (2, .int (nI a)), (3, .int (nI cn))]) ?_ ?_
  rotate_left
  · intro kJ
    refine lv_iload_n hx hb d_Ref_known_113 rfl (lv_at hl 7 rfl) ?_
    refine lv_iload hx hb d_Ref_known_114 (lv_at hl 0 rfl) ?_
    refine lv_icmp_ge (tgt := 160) hx hb d_Ref_known_116 (by decide) (fun d1 => ?_) (fun d1 => ?_)
    · skip
      have hd1 : z ≤ cn := (nI_leI (a := z) (b := cn) (by omega) (by omega)).mp d1
      refine tp_pc (pc' := 160) (by rfl) ?_
      refine lv_iconst (v := 0) hx hb d_Ref_known_160 (by decide) ?_
      refine tp_i (y := (if cn + 1 < z ∧ ad (cn + 1) = 1 then 1 else 0)) (by rw [if_neg (by omega)]) ?_
      refine lv_istore (lv' := [(8, .int (if cn + 1 < z ∧ ad (cn + 1) = 1 then 1 else 0)), (7, .int (nI z)), (6, .int (nI po)), (5, .int (nI (vx a))), (4, .int 2), (0, .ref ra), (1, .int (nI t)), (2, .int (nI a)), (3, .int (nI cn))]) hx hb d_Ref_known_161 hl (by decide) rfl ?_
      clear hl ls
      intro ls hl
      exact kJ _ (lv_sub hl [0, 1, 2, 3, 4, 5, 6, 7, 8] rfl)
    · skip
      have hd1 : ¬ (z ≤ cn) := fun q9 => d1 ((nI_leI (a := z) (b := cn) (by omega) (by omega)).mpr q9)
      refine tp_pc (pc' := 119) (by rfl) ?_
      refine lv_iload_n hx hb d_Ref_known_119 rfl (lv_at hl 7 rfl) ?_
      refine lv_iconst (v := 1) hx hb d_Ref_known_120 (by decide) ?_
      refine lv_iadd hx hb d_Ref_known_121 ?_
      refine tp_i (y := nI (cn + 1)) (by exact nI_add cn 1) ?_
      refine lv_iload hx hb d_Ref_known_122 (lv_at hl 0 rfl) ?_
      refine lv_icmp_ge (tgt := 160) hx hb d_Ref_known_124 (by decide) (fun d2 => ?_) (fun d2 => ?_)
      · skip
        have hd2 : z ≤ cn + 1 := (nI_leI (a := z) (b := cn + 1) (by omega) (by omega)).mp d2
        refine tp_pc (pc' := 160) (by rfl) ?_
        refine lv_iconst (v := 0) hx hb d_Ref_known_160 (by decide) ?_
        refine tp_i (y := (if cn + 1 < z ∧ ad (cn + 1) = 1 then 1 else 0)) (by rw [if_neg (by omega)]) ?_
        refine lv_istore (lv' := [(8, .int (if cn + 1 < z ∧ ad (cn + 1) = 1 then 1 else 0)), (7, .int (nI z)), (6, .int (nI po)), (5, .int (nI (vx a))), (4, .int 2), (0, .ref ra), (1, .int (nI t)), (2, .int (nI a)), (3, .int (nI cn))]) hx hb d_Ref_known_161 hl (by decide) rfl ?_
        clear hl ls
        intro ls hl
        exact kJ _ (lv_sub hl [0, 1, 2, 3, 4, 5, 6, 7, 8] rfl)
      · skip
        have hd2 : ¬ (z ≤ cn + 1) := fun q9 => d2 ((nI_leI (a := z) (b := cn + 1) (by omega) (by omega)).mpr q9)
        obtain ⟨r1, r2⟩ := hro (cn + 1) (by omega)
        obtain ⟨r3, r4⟩ := had (cn + 1) (by omega)
        refine tp_pc (pc' := 127) (by rfl) ?_
        refine lv_aload_n hx hb d_Ref_known_127 rfl (lv_at hl 4 rfl) ?_
        refine va_get (D := (dC, dI)) (ci := 8) (v := .ref (rA 16)) (C := R_Ref) (T := F_Ref) (N := 48) hx hb hw i_Ref hown hK hP 4 rfl rfl 16 (by decide) (hw _ m_915) (fun _ h9 => h9) rfl d_Ref_known_128 ?_
        refine lv_bipush (v := 84) hx hb d_Ref_known_131 (by decide) ?_
        refine lv_aload_n hx hb d_Ref_known_133 rfl (lv_at hl 4 rfl) ?_
        refine va_get (D := (dC, dI)) (ci := 8) (v := .ref (rA 16)) (C := R_Ref) (T := F_Ref) (N := 48) hx hb hw i_Ref hown hK hP 4 rfl rfl 16 (by decide) (hw _ m_915) (fun _ h9 => h9) rfl d_Ref_known_134 ?_
        refine lv_bipush (v := 41) hx hb d_Ref_known_137 (by decide) ?_
        refine lv_bipush (v := 8) hx hb d_Ref_known_139 (by decide) ?_
        refine lv_iload hx hb d_Ref_known_141 (lv_at hl 2 rfl) ?_
        refine lv_imul hx hb d_Ref_known_143 ?_
        refine tp_i (y := nI (8 * (vx a))) (by exact pk_mul 8 (vx a)) ?_
        refine lv_iadd hx hb d_Ref_known_144 ?_
        refine tp_i (y := nI (41 + (8 * (vx a)))) (by exact nI_add 41 (8 * (vx a))) ?_
        refine lv_iload_n hx hb d_Ref_known_145 rfl (lv_at hl 7 rfl) ?_
        refine lv_iadd hx hb d_Ref_known_146 ?_
        refine tp_i (y := nI (41 + (8 * (vx a)) + cn)) (by exact nI_add (41 + (8 * (vx a))) cn) ?_
        refine lv_iconst (v := 1) hx hb d_Ref_known_147 (by decide) ?_
        refine lv_iadd hx hb d_Ref_known_148 ?_
        refine tp_i (y := nI (41 + (8 * (vx a)) + cn + 1)) (by exact nI_add (41 + (8 * (vx a)) + cn) 1) ?_
        refine va_iald (D := (dC, dI)) hx hb hK hP 5 0 rfl rfl (i := nI (41 + (8 * (vx a)) + cn + 1)) (pk_in (41 + (8 * (vx a)) + cn + 1) 155 (by omega)) d_Ref_known_149 ?_
        refine tp_i (y := sf (41 + (8 * (vx a)) + cn + 1)) (by rw [show (nI (41 + (8 * (vx a)) + cn + 1) : Int32).toNatClampNeg = 41 + (8 * (vx a)) + cn + 1 from pk_cl (41 + (8 * (vx a)) + cn + 1)]) ?_
        refine tp_i (y := nI (ro (cn + 1))) r1 ?_
        refine lv_iadd hx hb d_Ref_known_150 ?_
        refine tp_i (y := nI (84 + (ro (cn + 1)))) (by exact nI_add 84 (ro (cn + 1))) ?_
        refine va_iald (D := (dC, dI)) hx hb hK hP 5 0 rfl rfl (i := nI (84 + (ro (cn + 1)))) (pk_in (84 + (ro (cn + 1))) 155 (by omega)) d_Ref_known_151 ?_
        refine tp_i (y := sf (84 + (ro (cn + 1)))) (by rw [show (nI (84 + (ro (cn + 1))) : Int32).toNatClampNeg = 84 + (ro (cn + 1)) from pk_cl (84 + (ro (cn + 1)))]) ?_
        refine tp_i (y := nI (ad (cn + 1))) r3 ?_
        refine lv_iconst (v := 1) hx hb d_Ref_known_152 (by decide) ?_
        refine lv_icmp_ne (tgt := 160) hx hb d_Ref_known_153 (by decide) (fun d3 => ?_) (fun d3 => ?_)
        · skip
          have hd3 : ¬ (ad (cn + 1) = 1) := fun q9 => d3 ((nI_eq (a := ad (cn + 1)) (b := 1) (by omega) (by omega)).mpr q9)
          refine tp_pc (pc' := 160) (by rfl) ?_
          refine lv_iconst (v := 0) hx hb d_Ref_known_160 (by decide) ?_
          refine tp_i (y := (if cn + 1 < z ∧ ad (cn + 1) = 1 then 1 else 0)) (by rw [if_neg (fun q => hd3 q.2)]) ?_
          refine lv_istore (lv' := [(8, .int (if cn + 1 < z ∧ ad (cn + 1) = 1 then 1 else 0)), (7, .int (nI z)), (6, .int (nI po)), (5, .int (nI (vx a))), (4, .int 2), (0, .ref ra), (1, .int (nI t)), (2, .int (nI a)), (3, .int (nI cn))]) hx hb d_Ref_known_161 hl (by decide) rfl ?_
          clear hl ls
          intro ls hl
          exact kJ _ (lv_sub hl [0, 1, 2, 3, 4, 5, 6, 7, 8] rfl)
        · skip
          have hd3 : ad (cn + 1) = 1 := (nI_eq (a := ad (cn + 1)) (b := 1) (by omega) (by omega)).mp d3
          refine tp_pc (pc' := 156) (by rfl) ?_
          refine lv_iconst (v := 1) hx hb d_Ref_known_156 (by decide) ?_
          refine lv_goto (tgt := 161) hx hb d_Ref_known_157 (by decide) ?_
          refine tp_pc (pc' := 161) (by rfl) ?_
          refine tp_i (y := (if cn + 1 < z ∧ ad (cn + 1) = 1 then 1 else 0)) (by rw [if_pos ⟨by omega, hd3⟩]) ?_
          refine lv_istore (lv' := [(8, .int (if cn + 1 < z ∧ ad (cn + 1) = 1 then 1 else 0)), (7, .int (nI z)), (6, .int (nI po)), (5, .int (nI (vx a))), (4, .int 2), (0, .ref ra), (1, .int (nI t)), (2, .int (nI a)), (3, .int (nI cn))]) hx hb d_Ref_known_161 hl (by decide) rfl ?_
          clear hl ls
          intro ls hl
          exact kJ _ (lv_sub hl [0, 1, 2, 3, 4, 5, 6, 7, 8] rfl)
  · intro ls hl
    refine lp_j 203 (fun ls => lv_has ls 11 [(9, .int (if cn < z ∧ ad cn = 1 then 1 else 0)), (8, .int (if cn + 1 < z ∧ ad (cn + 1) = 1 then 1 else 0)), (7, .int (nI z)), (6, .int (nI po)), (5, .int (nI (vx a))), (4, .int 2), (0, .ref ra), (1, .int (nI t)), (2, .int (nI a)), (3, .int (nI cn))]) ?_ ?_
    rotate_left
    · intro kJ
      refine lv_iload_n hx hb d_Ref_known_163 rfl (lv_at hl 8 rfl) ?_
      refine lv_iload hx hb d_Ref_known_164 (lv_at hl 1 rfl) ?_
      refine lv_icmp_ge (tgt := 200) hx hb d_Ref_known_166 (by decide) (fun d1 => ?_) (fun d1 => ?_)
      · skip
        have hd1 : z ≤ cn := (nI_leI (a := z) (b := cn) (by omega) (by omega)).mp d1
        refine tp_pc (pc' := 200) (by rfl) ?_
        refine lv_iconst (v := 0) hx hb d_Ref_known_200 (by decide) ?_
        refine tp_i (y := (if cn < z ∧ ad cn = 1 then 1 else 0)) (by rw [if_neg (by omega)]) ?_
        refine lv_istore (lv' := [(9, .int (if cn < z ∧ ad cn = 1 then 1 else 0)), (8, .int (if cn + 1 < z ∧ ad (cn + 1) = 1 then 1 else 0)), (7, .int (nI z)), (6, .int (nI po)), (5, .int (nI (vx a))), (4, .int 2), (0, .ref ra), (1, .int (nI t)), (2, .int (nI a)), (3, .int (nI cn))]) hx hb d_Ref_known_201 hl (by decide) rfl ?_
        clear hl ls
        intro ls hl
        exact kJ _ (lv_sub hl [0, 1, 2, 3, 4, 5, 6, 7, 8, 9] rfl)
      · skip
        have hd1 : ¬ (z ≤ cn) := fun q9 => d1 ((nI_leI (a := z) (b := cn) (by omega) (by omega)).mpr q9)
        obtain ⟨r1, r2⟩ := hro (cn) (by omega)
        obtain ⟨r3, r4⟩ := had (cn) (by omega)
        refine tp_pc (pc' := 169) (by rfl) ?_
        refine lv_aload_n hx hb d_Ref_known_169 rfl (lv_at hl 5 rfl) ?_
        refine va_get (D := (dC, dI)) (ci := 8) (v := .ref (rA 16)) (C := R_Ref) (T := F_Ref) (N := 48) hx hb hw i_Ref hown hK hP 4 rfl rfl 16 (by decide) (hw _ m_915) (fun _ h9 => h9) rfl d_Ref_known_170 ?_
        refine lv_bipush (v := 84) hx hb d_Ref_known_173 (by decide) ?_
        refine lv_aload_n hx hb d_Ref_known_175 rfl (lv_at hl 5 rfl) ?_
        refine va_get (D := (dC, dI)) (ci := 8) (v := .ref (rA 16)) (C := R_Ref) (T := F_Ref) (N := 48) hx hb hw i_Ref hown hK hP 4 rfl rfl 16 (by decide) (hw _ m_915) (fun _ h9 => h9) rfl d_Ref_known_176 ?_
        refine lv_bipush (v := 41) hx hb d_Ref_known_179 (by decide) ?_
        refine lv_bipush (v := 8) hx hb d_Ref_known_181 (by decide) ?_
        refine lv_iload hx hb d_Ref_known_183 (lv_at hl 3 rfl) ?_
        refine lv_imul hx hb d_Ref_known_185 ?_
        refine tp_i (y := nI (8 * (vx a))) (by exact pk_mul 8 (vx a)) ?_
        refine lv_iadd hx hb d_Ref_known_186 ?_
        refine tp_i (y := nI (41 + (8 * (vx a)))) (by exact nI_add 41 (8 * (vx a))) ?_
        refine lv_iload_n hx hb d_Ref_known_187 rfl (lv_at hl 8 rfl) ?_
        refine lv_iadd hx hb d_Ref_known_188 ?_
        refine tp_i (y := nI (41 + (8 * (vx a)) + cn)) (by exact nI_add (41 + (8 * (vx a))) cn) ?_
        refine va_iald (D := (dC, dI)) hx hb hK hP 5 0 rfl rfl (i := nI (41 + (8 * (vx a)) + cn)) (pk_in (41 + (8 * (vx a)) + cn) 155 (by omega)) d_Ref_known_189 ?_
        refine tp_i (y := sf (41 + (8 * (vx a)) + cn)) (by rw [show (nI (41 + (8 * (vx a)) + cn) : Int32).toNatClampNeg = 41 + (8 * (vx a)) + cn from pk_cl (41 + (8 * (vx a)) + cn)]) ?_
        refine tp_i (y := nI (ro (cn))) r1 ?_
        refine lv_iadd hx hb d_Ref_known_190 ?_
        refine tp_i (y := nI (84 + (ro (cn)))) (by exact nI_add 84 (ro (cn))) ?_
        refine va_iald (D := (dC, dI)) hx hb hK hP 5 0 rfl rfl (i := nI (84 + (ro (cn)))) (pk_in (84 + (ro (cn))) 155 (by omega)) d_Ref_known_191 ?_
        refine tp_i (y := sf (84 + (ro (cn)))) (by rw [show (nI (84 + (ro (cn))) : Int32).toNatClampNeg = 84 + (ro (cn)) from pk_cl (84 + (ro (cn)))]) ?_
        refine tp_i (y := nI (ad cn)) r3 ?_
        refine lv_iconst (v := 1) hx hb d_Ref_known_192 (by decide) ?_
        refine lv_icmp_ne (tgt := 200) hx hb d_Ref_known_193 (by decide) (fun d3 => ?_) (fun d3 => ?_)
        · skip
          have hd3 : ¬ (ad cn = 1) := fun q9 => d3 ((nI_eq (a := ad cn) (b := 1) (by omega) (by omega)).mpr q9)
          refine tp_pc (pc' := 200) (by rfl) ?_
          refine lv_iconst (v := 0) hx hb d_Ref_known_200 (by decide) ?_
          refine tp_i (y := (if cn < z ∧ ad cn = 1 then 1 else 0)) (by rw [if_neg (fun q => hd3 q.2)]) ?_
          refine lv_istore (lv' := [(9, .int (if cn < z ∧ ad cn = 1 then 1 else 0)), (8, .int (if cn + 1 < z ∧ ad (cn + 1) = 1 then 1 else 0)), (7, .int (nI z)), (6, .int (nI po)), (5, .int (nI (vx a))), (4, .int 2), (0, .ref ra), (1, .int (nI t)), (2, .int (nI a)), (3, .int (nI cn))]) hx hb d_Ref_known_201 hl (by decide) rfl ?_
          clear hl ls
          intro ls hl
          exact kJ _ (lv_sub hl [0, 1, 2, 3, 4, 5, 6, 7, 8, 9] rfl)
        · skip
          have hd3 : ad cn = 1 := (nI_eq (a := ad cn) (b := 1) (by omega) (by omega)).mp d3
          refine tp_pc (pc' := 196) (by rfl) ?_
          refine lv_iconst (v := 1) hx hb d_Ref_known_196 (by decide) ?_
          refine lv_goto (tgt := 201) hx hb d_Ref_known_197 (by decide) ?_
          refine tp_pc (pc' := 201) (by rfl) ?_
          refine tp_i (y := (if cn < z ∧ ad cn = 1 then 1 else 0)) (by rw [if_pos ⟨by omega, hd3⟩]) ?_
          refine lv_istore (lv' := [(9, .int (if cn < z ∧ ad cn = 1 then 1 else 0)), (8, .int (if cn + 1 < z ∧ ad (cn + 1) = 1 then 1 else 0)), (7, .int (nI z)), (6, .int (nI po)), (5, .int (nI (vx a))), (4, .int 2), (0, .ref ra), (1, .int (nI t)), (2, .int (nI a)), (3, .int (nI cn))]) hx hb d_Ref_known_201 hl (by decide) rfl ?_
          clear hl ls
          intro ls hl
          exact kJ _ (lv_sub hl [0, 1, 2, 3, 4, 5, 6, 7, 8, 9] rfl)
    · intro ls hl
      refine lv_iload hx hb d_Ref_known_203 (lv_at hl 5 rfl) ?_
      refine lv_if_ne (tgt := 285) hx hb d_Ref_known_205 (by decide) (fun c_3 => ?_) (fun c_3 => absurd c_3 (by decide))
      refine tp_pc (pc' := 285) (by rfl) ?_
      refine lv_iload hx hb d_Ref_known_285 (lv_at hl 5 rfl) ?_
      refine lv_iconst (v := 3) hx hb d_Ref_known_287 (by decide) ?_
      refine lv_icmp_ne (tgt := 401) hx hb d_Ref_known_288 (by decide) (fun c_4 => ?_) (fun c_4 => absurd c_4 (by decide))
      refine tp_pc (pc' := 401) (by rfl) ?_
      refine lv_iload_n hx hb d_Ref_known_401 rfl (lv_at hl 9 rfl) ?_
      refine lv_iload hx hb d_Ref_known_402 (lv_at hl 3 rfl) ?_
      refine lv_icmp_le (tgt := 418) hx hb d_Ref_known_404 (by decide) (fun c9 => absurd ((nI_leI (a := cn) (b := po) (by omega) (by omega)).mp c9) (by omega)) (fun c9 => ?_)
      refine tp_pc (pc' := 407) (by rfl) ?_
      refine lv_iload_n hx hb d_Ref_known_407 rfl (lv_at hl 9 rfl) ?_
      refine lv_iload hx hb d_Ref_known_408 (lv_at hl 2 rfl) ?_
      refine lv_icmp_gt (tgt := 418) hx hb d_Ref_known_410 (by decide) (fun c9 => absurd ((nI_ltI (a := z) (b := cn) (by omega) (by omega)).mp c9) (by omega)) (fun c9 => ?_)
      refine tp_pc (pc' := 413) (by rfl) ?_
      refine lv_iload hx hb d_Ref_known_413 (lv_at hl 0 rfl) ?_
      rw [if_neg hcc.2]
      refine lv_if_eq (tgt := 420) hx hb d_Ref_known_415 (by decide) (fun c_5 => ?_) (fun c_5 => absurd c_5 (by decide))
      refine tp_pc (pc' := 420) (by rfl) ?_
      refine lv_aload_n hx hb d_Ref_known_420 rfl (lv_at hl 6 rfl) ?_
      refine lv_iload_n hx hb d_Ref_known_421 rfl (lv_at hl 7 rfl) ?_
      refine lv_iload_n hx hb d_Ref_known_422 rfl (lv_at hl 8 rfl) ?_
      obtain ⟨hPc, hDc, hFc⟩ := cut3 (wc := [oc ra 8 [.int (nI T), .int (nI Ac), .ref (rA 2), .ref (rA 3), .ref (rA 4), .ref (rA 5), .ref (rA 6), .ref (rA 7), .ref (rA 8), .ref (rA 9), .ref (rA 10), .ref (rA 11), .ref (rA 12), .ref (rA 13), .int ir, .ref (rA 15), .ref (rA 16), .ref (rA 17), .ref (rA 18), .int (nI md), .int (nI wd), .ref (rA 21), .ref (rA 22), .ref (rA 23), .int (nI mn), .ref (rA 25), .int (nI cb), .int mr, .ref (rA 28), .ref (rA 29), .ref (rA 30), .ref (rA 31), .ref (rA 32), .ref (rA 33), .ref (rA 34), .ref (rA 35), .int (nI ld), .int (nI gm), .ref (rA 38), .ref (rA 39), .ref (rA 40), .ref (rA 41), .ref (rA 42), .ref (rA 43), .ref (rA 44), .ref (rA 45), .int (nI my), .ref (rA 47)], ia (rA 16) (rK9 16) 155 sf, ia (rA 3) (rK9 3) 28 (fun i => nI (kd i)), ia (rA 5) (rK9 5) 28 (fun i => nI (rr i)), ia (rA 6) (rK9 6) 28 vv]) hP hD rfl hS hA [4, 5, 0, 2, 3] (by decide +kernel) rfl
      have hKc := hK.sub (tys' := [((rK9 16), .int), ((rK9 3), .int), ((rK9 5), .int), ((rK9 6), .int)]) [0, 1, 3, 4] rfl
      refine va_calli (va_runV (As := [.int (nI t), .int (nI a)]) (rest := []) ⟨hx, hb, hml, hown, hw⟩ (gen_Ref_sent l dC dI ra rA rK9 T Ac md wd mn cb ld gm my ir mr t a sf vv kd rr ht ha (by omega) hrr H.size) (cw_V 2 hw g_Ref_sent rfl rfl rfl (hw _ m_109) (hw _ m_1138) (hw _ m_1140) (hw _ m_69) (by decide +kernel) ⟨Nat.le_of_ble_eq_true rfl, Nat.le_of_ble_eq_true rfl⟩) ⟨fun a U g mk q => by obtain ⟨q0, q1, qP, qK, qD, qN⟩ := q; exact ⟨q0, q1, qP, va_K.moved (u := U) (U := U.calling g mk a) (Vm.Alike.refl U.vm) qK, qD, nw_call qN⟩, va_recv hKc hPc (ci := 8) (q0 := 0) rfl rfl, fun U hU hW => ⟨rfl, by rw [hU], by rw [hU]; exact hPc, va_K.moved hW.alike hKc, hDc.weaken (fun _ _ _ _ => trivial), nw_warm hW hn⟩⟩ rfl rfl hl.1 rfl (lv_room (Nat.le_of_ble_eq_true rfl)) d_Ref_known_423 ⟨Nat.le_of_ble_eq_true rfl, Nat.le_of_ble_eq_true rfl⟩) hS (fun q _ h => hFc q h) hFc ?_
      intro r_6 u t9 H1 locs1 ht9 hvm hw1 hB hz1 hk1 hS1
      obtain ⟨hP1, hK1, hD1⟩ := hB
      rw [ht9] at hP1
      replace hK1 := va_K.moved hvm.symm hK1
      have hPD := join3 hP hD rfl [4, 5, 0, 2, 3] [1] rfl (by rfl) (by decide +kernel) (by decide +kernel) hk1 hFc hP1 hD1
      replace hK : va_K (dC, dI) classes [((rK9 16), .int), ((rK9 3), .int), ((rK9 4), .int), ((rK9 5), .int), ((rK9 6), .int)] s := hK.app hK1
      clear hP1 hK1 hD1 hk1 hz1 hFc hKc hDc hPc hvm ht9 hP hS t9 locs H
      have hP : va_P (dC, dI) classes [ia (rA 4) (rK9 4) 28 (fun i => nI (vx i)), oc ra 8 [.int (nI T), .int (nI Ac), .ref (rA 2), .ref (rA 3), .ref (rA 4), .ref (rA 5), .ref (rA 6), .ref (rA 7), .ref (rA 8), .ref (rA 9), .ref (rA 10), .ref (rA 11), .ref (rA 12), .ref (rA 13), .int ir, .ref (rA 15), .ref (rA 16), .ref (rA 17), .ref (rA 18), .int (nI md), .int (nI wd), .ref (rA 21), .ref (rA 22), .ref (rA 23), .int (nI mn), .ref (rA 25), .int (nI cb), .int mr, .ref (rA 28), .ref (rA 29), .ref (rA 30), .ref (rA 31), .ref (rA 32), .ref (rA 33), .ref (rA 34), .ref (rA 35), .int (nI ld), .int (nI gm), .ref (rA 38), .ref (rA 39), .ref (rA 40), .ref (rA 41), .ref (rA 42), .ref (rA 43), .ref (rA 44), .ref (rA 45), .int (nI my), .ref (rA 47)], ia (rA 16) (rK9 16) 155 sf, ia (rA 3) (rK9 3) 28 (fun i => nI (kd i)), ia (rA 5) (rK9 5) 28 (fun i => nI (rr i)), ia (rA 6) (rK9 6) 28 vv] H1 := hPD.1
      replace hD : dd A [(rA 4), ra, (rA 16), (rA 3), (rA 5), (rA 6)] := dd_of hPD.2 rfl
      clear hPD
      revert H1 locs1
      intro H locs hS hP
      refine tp_i (y := sf (4 + 2 * t + rr a) + vv a) (hw1.trans (if_neg (by omega))) ?_
      clear hw1 r_6 u
      refine tp_pc (pc' := 426) (by rfl) ?_
      refine lv_istore (lv' := [(10, .int (sf (4 + 2 * t + rr a) + vv a)), (9, .int (if cn < z ∧ ad cn = 1 then 1 else 0)), (8, .int (if cn + 1 < z ∧ ad (cn + 1) = 1 then 1 else 0)), (7, .int (nI z)), (6, .int (nI po)), (5, .int (nI (vx a))), (4, .int 2), (0, .ref ra), (1, .int (nI t)), (2, .int (nI a)), (3, .int (nI cn))]) hx hb d_Ref_known_426 hl (by decide) rfl ?_
      clear hl ls
      intro ls hl
      refine lv_aload_n hx hb d_Ref_known_428 rfl (lv_at hl 7 rfl) ?_
      refine va_get (D := (dC, dI)) (ci := 8) (v := .ref (rA 16)) (C := R_Ref) (T := F_Ref) (N := 48) hx hb hw i_Ref hown hK hP 1 rfl rfl 16 (by decide) (hw _ m_915) (fun _ h9 => h9) rfl d_Ref_known_429 ?_
      refine lv_iload_n hx hb d_Ref_known_432 rfl (lv_at hl 8 rfl) ?_
      refine lv_dup2_11 hx hb d_Ref_known_433 rfl rfl ?_
      refine va_iald (D := (dC, dI)) hx hb hK hP 2 0 rfl rfl (i := nI t) (pk_in t 155 (by omega)) d_Ref_known_434 ?_
      refine tp_i (y := sf t) (by rw [show (nI t : Int32).toNatClampNeg = t from pk_cl t]) ?_
      refine lv_iconst (v := 1) hx hb d_Ref_known_435 (by decide) ?_
      refine lv_iadd hx hb d_Ref_known_436 ?_
      refine tp_i (y := (sf t) + 1) rfl ?_
      refine va_iast (D := (dC, dI)) hx hb hK hP (dd_D hD rfl) hS 2 0 rfl rfl (i := nI t) (x := (sf t) + 1) (pk_in t 155 (by omega)) d_Ref_known_437 ?_
      clear hP hS locs H
      intro H locs hP _ hS
      rw [show (nI t : Int32).toNatClampNeg = t from pk_cl t] at hP
      replace hP : va_P (dC, dI) classes [ia (rA 4) (rK9 4) 28 (fun i => nI (vx i)), oc ra 8 [.int (nI T), .int (nI Ac), .ref (rA 2), .ref (rA 3), .ref (rA 4), .ref (rA 5), .ref (rA 6), .ref (rA 7), .ref (rA 8), .ref (rA 9), .ref (rA 10), .ref (rA 11), .ref (rA 12), .ref (rA 13), .int ir, .ref (rA 15), .ref (rA 16), .ref (rA 17), .ref (rA 18), .int (nI md), .int (nI wd), .ref (rA 21), .ref (rA 22), .ref (rA 23), .int (nI mn), .ref (rA 25), .int (nI cb), .int mr, .ref (rA 28), .ref (rA 29), .ref (rA 30), .ref (rA 31), .ref (rA 32), .ref (rA 33), .ref (rA 34), .ref (rA 35), .int (nI ld), .int (nI gm), .ref (rA 38), .ref (rA 39), .ref (rA 40), .ref (rA 41), .ref (rA 42), .ref (rA 43), .ref (rA 44), .ref (rA 45), .int (nI my), .ref (rA 47)], ia (rA 16) (rK9 16) 155 (upd sf t ((sf t) + 1)), ia (rA 3) (rK9 3) 28 (fun i => nI (kd i)), ia (rA 5) (rK9 5) 28 (fun i => nI (rr i)), ia (rA 6) (rK9 6) 28 vv] H := hP
      refine tp_pc (pc' := 438) (by rfl) ?_
      refine lv_aload_n hx hb d_Ref_known_438 rfl (lv_at hl 7 rfl) ?_
      refine lv_iload_n hx hb d_Ref_known_439 rfl (lv_at hl 8 rfl) ?_
      refine lv_iload hx hb d_Ref_known_440 (lv_at hl 5 rfl) ?_
      refine lv_iload_n hx hb d_Ref_known_442 rfl (lv_at hl 10 rfl) ?_
      refine lv_iload hx hb d_Ref_known_443 (lv_at hl 0 rfl) ?_
      refine lv_iconst (v := 0) hx hb d_Ref_known_445 (by decide) ?_
      have e15 : (upd sf t (sf t + 1)) 15 = nI wn := by rw [s1_o ht (by omega)]; exact h15
      have ezz : (upd sf t (sf t + 1)) (37 + vx a) = nI z := by rw [s1_o ht (by omega)]; exact hzz
      obtain ⟨hPc, hDc, hFc⟩ := cut3 (wc := [oc ra 8 [.int (nI T), .int (nI Ac), .ref (rA 2), .ref (rA 3), .ref (rA 4), .ref (rA 5), .ref (rA 6), .ref (rA 7), .ref (rA 8), .ref (rA 9), .ref (rA 10), .ref (rA 11), .ref (rA 12), .ref (rA 13), .int ir, .ref (rA 15), .ref (rA 16), .ref (rA 17), .ref (rA 18), .int (nI md), .int (nI wd), .ref (rA 21), .ref (rA 22), .ref (rA 23), .int (nI mn), .ref (rA 25), .int (nI cb), .int mr, .ref (rA 28), .ref (rA 29), .ref (rA 30), .ref (rA 31), .ref (rA 32), .ref (rA 33), .ref (rA 34), .ref (rA 35), .int (nI ld), .int (nI gm), .ref (rA 38), .ref (rA 39), .ref (rA 40), .ref (rA 41), .ref (rA 42), .ref (rA 43), .ref (rA 44), .ref (rA 45), .int (nI my), .ref (rA 47)], ia (rA 16) (rK9 16) 155 (upd sf t ((sf t) + 1))]) hP hD rfl hS hA [1, 2] (by decide +kernel) rfl
      have hKc := hK.sub (tys' := [((rK9 16), .int)]) [0] rfl
      refine va_callv (va_runV (As := [.int (nI t), .int (nI (vx a)), .int (nI cn), .int (sf (4 + 2 * t + rr a) + vv a), .int 0]) (rest := []) ⟨hx, hb, hml, hown, hw⟩ (gen_Ref_put l dC dI ra rA rK9 T Ac md wd mn cb ld gm my ir mr t (vx a) cn z wn (sf (4 + 2 * t + rr a) + vv a) 0 (upd sf t (sf t + 1)) ht (by omega) hz7 (by omega) hwn e15 ezz H.size) (cw_V 5 hw g_Ref_put rfl rfl rfl (hw _ m_109) (hw _ m_1134) (hw _ m_1136) (hw _ m_68) (by decide +kernel) ⟨Nat.le_of_ble_eq_true rfl, Nat.le_of_ble_eq_true rfl⟩) ⟨fun a U g mk q => by obtain ⟨q0, q1, qP, qK, qD, qN⟩ := q; exact ⟨q0, q1, qP, va_K.moved (u := U) (U := U.calling g mk a) (Vm.Alike.refl U.vm) qK, qD, nw_call qN⟩, va_recv hKc hPc (ci := 8) (q0 := 0) rfl rfl, fun U hU hW => ⟨rfl, by rw [hU], by rw [hU]; exact hPc, va_K.moved hW.alike hKc, hDc.weaken (fun _ _ _ _ => trivial), nw_warm hW hn⟩⟩ rfl rfl hl.1 rfl (lv_room (Nat.le_of_ble_eq_true rfl)) d_Ref_known_446 ⟨Nat.le_of_ble_eq_true rfl, Nat.le_of_ble_eq_true rfl⟩) hS (fun q _ h => hFc q h) hFc ?_
      intro u t9 H1 locs1 ht9 hvm hw1 hB hz1 hk1 hS1
      obtain ⟨hP1, hK1, hD1⟩ := hB
      rw [ht9] at hP1
      replace hK1 := va_K.moved hvm.symm hK1
      have hPD := join3 hP hD rfl [1, 2] [0, 3, 4, 5] rfl (by rfl) (by decide +kernel) (by decide +kernel) hk1 hFc hP1 hD1
      replace hK : va_K (dC, dI) classes [((rK9 16), .int), ((rK9 3), .int), ((rK9 4), .int), ((rK9 5), .int), ((rK9 6), .int)] s := hK.app hK1
      clear hP1 hK1 hD1 hk1 hz1 hFc hKc hDc hPc hvm ht9 hP hS t9 locs H
      have hP : va_P (dC, dI) classes [ia (rA 4) (rK9 4) 28 (fun i => nI (vx i)), ia (rA 3) (rK9 3) 28 (fun i => nI (kd i)), ia (rA 5) (rK9 5) 28 (fun i => nI (rr i)), ia (rA 6) (rK9 6) 28 vv, oc ra 8 [.int (nI T), .int (nI Ac), .ref (rA 2), .ref (rA 3), .ref (rA 4), .ref (rA 5), .ref (rA 6), .ref (rA 7), .ref (rA 8), .ref (rA 9), .ref (rA 10), .ref (rA 11), .ref (rA 12), .ref (rA 13), .int ir, .ref (rA 15), .ref (rA 16), .ref (rA 17), .ref (rA 18), .int (nI md), .int (nI wd), .ref (rA 21), .ref (rA 22), .ref (rA 23), .int (nI mn), .ref (rA 25), .int (nI cb), .int mr, .ref (rA 28), .ref (rA 29), .ref (rA 30), .ref (rA 31), .ref (rA 32), .ref (rA 33), .ref (rA 34), .ref (rA 35), .int (nI ld), .int (nI gm), .ref (rA 38), .ref (rA 39), .ref (rA 40), .ref (rA 41), .ref (rA 42), .ref (rA 43), .ref (rA 44), .ref (rA 45), .int (nI my), .ref (rA 47)], ia (rA 16) (rK9 16) 155 (kwF (puB (upd sf t (sf t + 1)) t (vx a) cn z wn (sf (4 + 2 * t + rr a) + vv a) 0) t wn 4)] H1 := hPD.1
      replace hD : dd A [(rA 4), (rA 3), (rA 5), (rA 6), ra, (rA 16)] := dd_of hPD.2 rfl
      clear hPD
      revert H1 locs1
      intro H locs hS hP
      clear hw1 u
      refine tp_pc (pc' := 449) (by rfl) ?_
      refine lv_iconst (v := 1) hx hb d_Ref_known_449 (by decide) ?_
      obtain ⟨hP9, hD9, -⟩ := cut3 (wc := [oc ra 8 [.int (nI T), .int (nI Ac), .ref (rA 2), .ref (rA 3), .ref (rA 4), .ref (rA 5), .ref (rA 6), .ref (rA 7), .ref (rA 8), .ref (rA 9), .ref (rA 10), .ref (rA 11), .ref (rA 12), .ref (rA 13), .int ir, .ref (rA 15), .ref (rA 16), .ref (rA 17), .ref (rA 18), .int (nI md), .int (nI wd), .ref (rA 21), .ref (rA 22), .ref (rA 23), .int (nI mn), .ref (rA 25), .int (nI cb), .int mr, .ref (rA 28), .ref (rA 29), .ref (rA 30), .ref (rA 31), .ref (rA 32), .ref (rA 33), .ref (rA 34), .ref (rA 35), .int (nI ld), .int (nI gm), .ref (rA 38), .ref (rA 39), .ref (rA 40), .ref (rA 41), .ref (rA 42), .ref (rA 43), .ref (rA 44), .ref (rA 45), .int (nI my), .ref (rA 47)], ia (rA 16) (rK9 16) 155 (kwF (puB (upd sf t (sf t + 1)) t (vx a) cn z wn (sf (4 + 2 * t + rr a) + vv a) 0) t wn 4), ia (rA 3) (rK9 3) 28 (fun i => nI (kd i)), ia (rA 4) (rK9 4) 28 (fun i => nI (vx i)), ia (rA 5) (rK9 5) 28 (fun i => nI (rr i)), ia (rA 6) (rK9 6) 28 vv]) hP hD rfl hS hA [4, 5, 1, 0, 2, 3] (by decide +kernel) rfl
      have hK9 := hK.sub (tys' := []) [] rfl
      refine W.widen (k := 0) (n := 0) (by exact Nat.le_of_ble_eq_true rfl) (by exact Nat.le_of_ble_eq_true rfl) ?_
      exact W.zret (v := 1) (ty := .boolean) hx hb hr (by decide) (fun t9 ht9 hW => ⟨⟨1, (), rfl, rfl, by rw [ht9]; exact hP9, va_K.moved hW.alike hK9, hD9⟩, hS.F ht9⟩) hS.2.2 d_Ref_known_450
set_option maxHeartbeats 4000000 in
set_option maxRecDepth 100000 in
theorem gen_Ref_known_2n (l : Launch) (dC : Nat → ClassId) (dI : Nat → Nat → Nat) (ra : Nat) (rA : Nat → Nat) (rK9 : Nat → ClassId) (T Ac md wd mn cb ld gm my : Nat) (ir mr : Int32) (t a cn : Nat) (sf vv : Nat → Int32) (kd vx rr : Nat → Nat) (z po wn : Nat) (ro ad pi pm : Nat → Nat) (ht : t < 4) (ha : a < 28) (hk : kd a = 2) (hx3 : vx a < 3) (hrr : rr a < 2) (hc9 : cn < 9) (hz8 : z ≤ 8) (hzz : sf (37 + vx a) = nI z) (hpo : po < 8 ∧ sf (41 + 8 * vx a + po) = sf (139 + 4 * t + vx a) ∧ ∀ q, q < po → ¬ sf (41 + 8 * vx a + q) = sf (139 + 4 * t + vx a)) (hro : ∀ q, q < z → sf (41 + 8 * vx a + q) = nI (ro q) ∧ ro q < 11) (had : ∀ q, q < z → sf (84 + ro q) = nI (ad q) ∧ ad q < 2) (hcc : ¬ ((po < cn ∧ cn ≤ z) ∧ ¬ (cn < z ∧ ad cn = 1))) (sz : Nat) : Met l y_Ref_known w_Ref_known ({ frames := 2, cells := 0, slots := 0, locals := 100 }) (va_Pc [.ref ra, .int (nI t), .int (nI a), .int (nI cn)] (fun U => U.heap.size = sz ∧ va_P (dC, dI) classes [oc ra 8 [.int (nI T), .int (nI Ac), .ref (rA 2), .ref (rA 3), .ref (rA 4), .ref (rA 5), .ref (rA 6), .ref (rA 7), .ref (rA 8), .ref (rA 9), .ref (rA 10), .ref (rA 11), .ref (rA 12), .ref (rA 13), .int ir, .ref (rA 15), .ref (rA 16), .ref (rA 17), .ref (rA 18), .int (nI md), .int (nI wd), .ref (rA 21), .ref (rA 22), .ref (rA 23), .int (nI mn), .ref (rA 25), .int (nI cb), .int mr, .ref (rA 28), .ref (rA 29), .ref (rA 30), .ref (rA 31), .ref (rA 32), .ref (rA 33), .ref (rA 34), .ref (rA 35), .int (nI ld), .int (nI gm), .ref (rA 38), .ref (rA 39), .ref (rA 40), .ref (rA 41), .ref (rA 42), .ref (rA 43), .ref (rA 44), .ref (rA 45), .int (nI my), .ref (rA 47)], ia (rA 16) (rK9 16) 155 sf, ia (rA 3) (rK9 3) 28 (fun i => nI (kd i)), ia (rA 4) (rK9 4) 28 (fun i => nI (vx i)), ia (rA 5) (rK9 5) 28 (fun i => nI (rr i)), ia (rA 6) (rK9 6) 28 vv] U.heap ∧ va_K (dC, dI) classes [((rK9 16), .int), ((rK9 3), .int), ((rK9 4), .int), ((rK9 5), .int), ((rK9 6), .int)] U ∧ va_D (fun _ => True) [oc ra 8 [.int (nI T), .int (nI Ac), .ref (rA 2), .ref (rA 3), .ref (rA 4), .ref (rA 5), .ref (rA 6), .ref (rA 7), .ref (rA 8), .ref (rA 9), .ref (rA 10), .ref (rA 11), .ref (rA 12), .ref (rA 13), .int ir, .ref (rA 15), .ref (rA 16), .ref (rA 17), .ref (rA 18), .int (nI md), .int (nI wd), .ref (rA 21), .ref (rA 22), .ref (rA 23), .int (nI mn), .ref (rA 25), .int (nI cb), .int mr, .ref (rA 28), .ref (rA 29), .ref (rA 30), .ref (rA 31), .ref (rA 32), .ref (rA 33), .ref (rA 34), .ref (rA 35), .int (nI ld), .int (nI gm), .ref (rA 38), .ref (rA 39), .ref (rA 40), .ref (rA 41), .ref (rA 42), .ref (rA 43), .ref (rA 44), .ref (rA 45), .int (nI my), .ref (rA 47)], ia (rA 16) (rK9 16) 155 sf, ia (rA 3) (rK9 3) 28 (fun i => nI (kd i)), ia (rA 4) (rK9 4) 28 (fun i => nI (vx i)), ia (rA 5) (rK9 5) 28 (fun i => nI (rr i)), ia (rA 6) (rK9 6) 28 vv] ∧ nw U)) (va_Qi (fun (r : Int32) (_ : Unit) => r = 0) (fun _ t9 => va_P (dC, dI) classes [oc ra 8 [.int (nI T), .int (nI Ac), .ref (rA 2), .ref (rA 3), .ref (rA 4), .ref (rA 5), .ref (rA 6), .ref (rA 7), .ref (rA 8), .ref (rA 9), .ref (rA 10), .ref (rA 11), .ref (rA 12), .ref (rA 13), .int ir, .ref (rA 15), .ref (rA 16), .ref (rA 17), .ref (rA 18), .int (nI md), .int (nI wd), .ref (rA 21), .ref (rA 22), .ref (rA 23), .int (nI mn), .ref (rA 25), .int (nI cb), .int mr, .ref (rA 28), .ref (rA 29), .ref (rA 30), .ref (rA 31), .ref (rA 32), .ref (rA 33), .ref (rA 34), .ref (rA 35), .int (nI ld), .int (nI gm), .ref (rA 38), .ref (rA 39), .ref (rA 40), .ref (rA 41), .ref (rA 42), .ref (rA 43), .ref (rA 44), .ref (rA 45), .int (nI my), .ref (rA 47)], ia (rA 16) (rK9 16) 155 sf, ia (rA 3) (rK9 3) 28 (fun i => nI (kd i)), ia (rA 4) (rK9 4) 28 (fun i => nI (vx i)), ia (rA 5) (rK9 5) 28 (fun i => nI (rr i)), ia (rA 6) (rK9 6) 28 vv] t9.heap ∧ va_K (dC, dI) classes [] t9 ∧ va_D (va_A [oc ra 8 [.int (nI T), .int (nI Ac), .ref (rA 2), .ref (rA 3), .ref (rA 4), .ref (rA 5), .ref (rA 6), .ref (rA 7), .ref (rA 8), .ref (rA 9), .ref (rA 10), .ref (rA 11), .ref (rA 12), .ref (rA 13), .int ir, .ref (rA 15), .ref (rA 16), .ref (rA 17), .ref (rA 18), .int (nI md), .int (nI wd), .ref (rA 21), .ref (rA 22), .ref (rA 23), .int (nI mn), .ref (rA 25), .int (nI cb), .int mr, .ref (rA 28), .ref (rA 29), .ref (rA 30), .ref (rA 31), .ref (rA 32), .ref (rA 33), .ref (rA 34), .ref (rA 35), .int (nI ld), .int (nI gm), .ref (rA 38), .ref (rA 39), .ref (rA 40), .ref (rA 41), .ref (rA 42), .ref (rA 43), .ref (rA 44), .ref (rA 45), .int (nI my), .ref (rA 47)], ia (rA 16) (rK9 16) 155 sf, ia (rA 3) (rK9 3) 28 (fun i => nI (kd i)), ia (rA 4) (rK9 4) 28 (fun i => nI (vx i)), ia (rA 5) (rK9 5) 28 (fun i => nI (rr i)), ia (rA 6) (rK9 6) 28 vv] sz) [oc ra 8 [.int (nI T), .int (nI Ac), .ref (rA 2), .ref (rA 3), .ref (rA 4), .ref (rA 5), .ref (rA 6), .ref (rA 7), .ref (rA 8), .ref (rA 9), .ref (rA 10), .ref (rA 11), .ref (rA 12), .ref (rA 13), .int ir, .ref (rA 15), .ref (rA 16), .ref (rA 17), .ref (rA 18), .int (nI md), .int (nI wd), .ref (rA 21), .ref (rA 22), .ref (rA 23), .int (nI mn), .ref (rA 25), .int (nI cb), .int mr, .ref (rA 28), .ref (rA 29), .ref (rA 30), .ref (rA 31), .ref (rA 32), .ref (rA 33), .ref (rA 34), .ref (rA 35), .int (nI ld), .int (nI gm), .ref (rA 38), .ref (rA 39), .ref (rA 40), .ref (rA 41), .ref (rA 42), .ref (rA 43), .ref (rA 44), .ref (rA 45), .int (nI my), .ref (rA 47)], ia (rA 16) (rK9 16) 155 sf, ia (rA 3) (rK9 3) 28 (fun i => nI (kd i)), ia (rA 4) (rK9 4) 28 (fun i => nI (vx i)), ia (rA 5) (rK9 5) 28 (fun i => nI (rr i)), ia (rA 6) (rK9 6) 28 vv]) (va_A [oc ra 8 [.int (nI T), .int (nI Ac), .ref (rA 2), .ref (rA 3), .ref (rA 4), .ref (rA 5), .ref (rA 6), .ref (rA 7), .ref (rA 8), .ref (rA 9), .ref (rA 10), .ref (rA 11), .ref (rA 12), .ref (rA 13), .int ir, .ref (rA 15), .ref (rA 16), .ref (rA 17), .ref (rA 18), .int (nI md), .int (nI wd), .ref (rA 21), .ref (rA 22), .ref (rA 23), .int (nI mn), .ref (rA 25), .int (nI cb), .int mr, .ref (rA 28), .ref (rA 29), .ref (rA 30), .ref (rA 31), .ref (rA 32), .ref (rA 33), .ref (rA 34), .ref (rA 35), .int (nI ld), .int (nI gm), .ref (rA 38), .ref (rA 39), .ref (rA 40), .ref (rA 41), .ref (rA 42), .ref (rA 43), .ref (rA 44), .ref (rA 45), .int (nI my), .ref (rA 47)], ia (rA 16) (rK9 16) 155 sf, ia (rA 3) (rK9 3) 28 (fun i => nI (kd i)), ia (rA 4) (rK9 4) 28 (fun i => nI (vx i)), ia (rA 5) (rK9 5) 28 (fun i => nI (rr i)), ia (rA 6) (rK9 6) 28 vv] sz)) 0 0 (va_A [oc ra 8 [.int (nI T), .int (nI Ac), .ref (rA 2), .ref (rA 3), .ref (rA 4), .ref (rA 5), .ref (rA 6), .ref (rA 7), .ref (rA 8), .ref (rA 9), .ref (rA 10), .ref (rA 11), .ref (rA 12), .ref (rA 13), .int ir, .ref (rA 15), .ref (rA 16), .ref (rA 17), .ref (rA 18), .int (nI md), .int (nI wd), .ref (rA 21), .ref (rA 22), .ref (rA 23), .int (nI mn), .ref (rA 25), .int (nI cb), .int mr, .ref (rA 28), .ref (rA 29), .ref (rA 30), .ref (rA 31), .ref (rA 32), .ref (rA 33), .ref (rA 34), .ref (rA 35), .int (nI ld), .int (nI gm), .ref (rA 38), .ref (rA 39), .ref (rA 40), .ref (rA 41), .ref (rA 42), .ref (rA 43), .ref (rA 44), .ref (rA 45), .int (nI my), .ref (rA 47)], ia (rA 16) (rK9 16) 155 sf, ia (rA 3) (rK9 3) 28 (fun i => nI (kd i)), ia (rA 4) (rK9 4) 28 (fun i => nI (vx i)), ia (rA 5) (rK9 5) 28 (fun i => nI (rr i)), ia (rA 6) (rK9 6) 28 vv] sz) := by
  refine Met.ofW (cc := b_Ref_known) (maxL := 11) (ret := (some .boolean)) (by decide) rfl ?_
  intro p e0 s m args below meth c s₁ B hml hv
  obtain ⟨rfl, hsz, hP, hK, hD0, hn⟩ := hv
  have hx := B.exec
  have hb := B.bytes
  have hr := B.returns
  have hw := fun w (h : w ∈ wt) => atoms_spec (ws := w_Ref_known) B.pre w (List.mem_cons_of_mem _ h)
  have hown : s.vm.findClass R_Ref = some m.cls := findClass_of_methodNamed B.named
  have hlocks := B.notSynchronized
  subst hsz
  have hD1 := hD0.self (sz := s.heap.size)
  generalize hAe : va_A [oc ra 8 [.int (nI T), .int (nI Ac), .ref (rA 2), .ref (rA 3), .ref (rA 4), .ref (rA 5), .ref (rA 6), .ref (rA 7), .ref (rA 8), .ref (rA 9), .ref (rA 10), .ref (rA 11), .ref (rA 12), .ref (rA 13), .int ir, .ref (rA 15), .ref (rA 16), .ref (rA 17), .ref (rA 18), .int (nI md), .int (nI wd), .ref (rA 21), .ref (rA 22), .ref (rA 23), .int (nI mn), .ref (rA 25), .int (nI cb), .int mr, .ref (rA 28), .ref (rA 29), .ref (rA 30), .ref (rA 31), .ref (rA 32), .ref (rA 33), .ref (rA 34), .ref (rA 35), .int (nI ld), .int (nI gm), .ref (rA 38), .ref (rA 39), .ref (rA 40), .ref (rA 41), .ref (rA 42), .ref (rA 43), .ref (rA 44), .ref (rA 45), .int (nI my), .ref (rA 47)], ia (rA 16) (rK9 16) 155 sf, ia (rA 3) (rK9 3) 28 (fun i => nI (kd i)), ia (rA 4) (rK9 4) 28 (fun i => nI (vx i)), ia (rA 5) (rK9 5) 28 (fun i => nI (rr i)), ia (rA 6) (rK9 6) 28 vv] s.heap.size = A at hD1 ⊢
  have hA : ∀ q : Nat, s.heap.size ≤ q → A q := fun q h => by rw [← hAe]; exact Or.inr h
  have hD : dd A [ra, (rA 16), (rA 3), (rA 4), (rA 5), (rA 6)] := dd_of hD1 rfl
  clear hAe hD0 hD1
  have hS : va_S A s.heap s.heap [] := va_S.rf
  replace hP : va_P (dC, dI) classes [oc ra 8 [.int (nI T), .int (nI Ac), .ref (rA 2), .ref (rA 3), .ref (rA 4), .ref (rA 5), .ref (rA 6), .ref (rA 7), .ref (rA 8), .ref (rA 9), .ref (rA 10), .ref (rA 11), .ref (rA 12), .ref (rA 13), .int ir, .ref (rA 15), .ref (rA 16), .ref (rA 17), .ref (rA 18), .int (nI md), .int (nI wd), .ref (rA 21), .ref (rA 22), .ref (rA 23), .int (nI mn), .ref (rA 25), .int (nI cb), .int mr, .ref (rA 28), .ref (rA 29), .ref (rA 30), .ref (rA 31), .ref (rA 32), .ref (rA 33), .ref (rA 34), .ref (rA 35), .int (nI ld), .int (nI gm), .ref (rA 38), .ref (rA 39), .ref (rA 40), .ref (rA 41), .ref (rA 42), .ref (rA 43), .ref (rA 44), .ref (rA 45), .int (nI my), .ref (rA 47)], ia (rA 16) (rK9 16) 155 sf, ia (rA 3) (rK9 3) 28 (fun i => nI (kd i)), ia (rA 4) (rK9 4) 28 (fun i => nI (vx i)), ia (rA 5) (rK9 5) 28 (fun i => nI (rr i)), ia (rA 6) (rK9 6) 28 vv] s.heap := hP
  have hl := lv_entry ([.ref ra, .int (nI t), .int (nI a), .int (nI cn)]) (n := 11) (Nat.le_of_ble_eq_true rfl)
  rw [lg_entry_eq]
  generalize (lg_sl ([.ref ra, .int (nI t), .int (nI a), .int (nI cn)]) ++ List.replicate (11 - (lg_sl ([.ref ra, .int (nI t), .int (nI a), .int (nI cn)])).length) Slot.unset).toArray = ls at hl ⊢
  replace hl : lv_has ls 11 [(0, .ref ra), (1, .int (nI t)), (2, .int (nI a)), (3, .int (nI cn))] := hl
  refine lv_aload_n hx hb d_Ref_known_0 rfl (lv_at hl 0 rfl) ?_
  refine va_get (D := (dC, dI)) (ci := 8) (v := .ref (rA 3)) (C := R_Ref) (T := F_Ref) (N := 48) hx hb hw i_Ref hown hK hP 0 rfl rfl 3 (by decide) (hw _ m_902) (fun _ h9 => h9) rfl d_Ref_known_1 ?_
  refine lv_iload_n hx hb d_Ref_known_4 rfl (lv_at hl 2 rfl) ?_
  refine va_iald (D := (dC, dI)) hx hb hK hP 2 1 rfl rfl (i := nI a) (pk_in a 28 (by omega)) d_Ref_known_5 ?_
  refine tp_i (y := nI (kd a)) (by rw [show (nI a : Int32).toNatClampNeg = a from pk_cl a]) ?_
  refine tp_i (y := 2) (by rw [hk]; rfl) ?_
  obtain ⟨o1, o2, o3⟩ := hpo
  refine lv_istore (lv' := [(4, .int 2), (0, .ref ra), (1, .int (nI t)), (2, .int (nI a)), (3, .int (nI cn))]) hx hb d_Ref_known_6 hl (by decide) rfl ?_
  clear hl ls
  intro ls hl
  refine lv_iload hx hb d_Ref_known_8 (lv_at hl 0 rfl) ?_
  refine lv_iconst (v := 4) hx hb d_Ref_known_10 (by decide) ?_
  refine lv_icmp_ne (tgt := 70) hx hb d_Ref_known_11 (by decide) (fun c_1 => ?_) (fun c_1 => absurd c_1 (by decide))
  refine tp_pc (pc' := 70) (by rfl) ?_
  refine lv_aload_n hx hb d_Ref_known_70 rfl (lv_at hl 1 rfl) ?_
  refine va_get (D := (dC, dI)) (ci := 8) (v := .ref (rA 4)) (C := R_Ref) (T := F_Ref) (N := 48) hx hb hw i_Ref hown hK hP 0 rfl rfl 4 (by decide) (hw _ m_903) (fun _ h9 => h9) rfl d_Ref_known_71 ?_
  refine lv_iload_n hx hb d_Ref_known_74 rfl (lv_at hl 3 rfl) ?_
  refine va_iald (D := (dC, dI)) hx hb hK hP 3 2 rfl rfl (i := nI a) (pk_in a 28 (by omega)) d_Ref_known_75 ?_
  refine tp_i (y := nI (vx a)) (by rw [show (nI a : Int32).toNatClampNeg = a from pk_cl a]) ?_
  refine lv_istore (lv' := [(5, .int (nI (vx a))), (4, .int 2), (0, .ref ra), (1, .int (nI t)), (2, .int (nI a)), (3, .int (nI cn))]) hx hb d_Ref_known_76 hl (by decide) rfl ?_
  clear hl ls
  intro ls hl
  refine lv_aload_n hx hb d_Ref_known_78 rfl (lv_at hl 2 rfl) ?_
  refine lv_iload hx hb d_Ref_known_79 (lv_at hl 0 rfl) ?_
  refine lv_aload_n hx hb d_Ref_known_81 rfl (lv_at hl 2 rfl) ?_
  refine va_get (D := (dC, dI)) (ci := 8) (v := .ref (rA 16)) (C := R_Ref) (T := F_Ref) (N := 48) hx hb hw i_Ref hown hK hP 0 rfl rfl 16 (by decide) (hw _ m_915) (fun _ h9 => h9) rfl d_Ref_known_82 ?_
  refine lv_sipush (v := 139) hx hb d_Ref_known_85 (by decide) ?_
  refine lv_iconst (v := 4) hx hb d_Ref_known_88 (by decide) ?_
  refine lv_iload_n hx hb d_Ref_known_89 rfl (lv_at hl 3 rfl) ?_
  refine lv_imul hx hb d_Ref_known_90 ?_
  refine tp_i (y := nI (4 * t)) (by exact pk_mul 4 t) ?_
  refine lv_iadd hx hb d_Ref_known_91 ?_
  refine tp_i (y := nI (139 + (4 * t))) (by exact nI_add 139 (4 * t)) ?_
  refine lv_iload hx hb d_Ref_known_92 (lv_at hl 0 rfl) ?_
  refine lv_iadd hx hb d_Ref_known_94 ?_
  refine tp_i (y := nI (139 + (4 * t) + (vx a))) (by exact nI_add (139 + (4 * t)) (vx a)) ?_
  refine va_iald (D := (dC, dI)) hx hb hK hP 1 0 rfl rfl (i := nI (139 + (4 * t) + (vx a))) (pk_in (139 + (4 * t) + (vx a)) 155 (by omega)) d_Ref_known_95 ?_
  refine tp_i (y := sf (139 + (4 * t) + (vx a))) (by rw [show (nI (139 + (4 * t) + (vx a)) : Int32).toNatClampNeg = 139 + (4 * t) + (vx a) from pk_cl (139 + (4 * t) + (vx a))]) ?_
  obtain ⟨hPc, hDc, hFc⟩ := cut3 (wc := [oc ra 8 [.int (nI T), .int (nI Ac), .ref (rA 2), .ref (rA 3), .ref (rA 4), .ref (rA 5), .ref (rA 6), .ref (rA 7), .ref (rA 8), .ref (rA 9), .ref (rA 10), .ref (rA 11), .ref (rA 12), .ref (rA 13), .int ir, .ref (rA 15), .ref (rA 16), .ref (rA 17), .ref (rA 18), .int (nI md), .int (nI wd), .ref (rA 21), .ref (rA 22), .ref (rA 23), .int (nI mn), .ref (rA 25), .int (nI cb), .int mr, .ref (rA 28), .ref (rA 29), .ref (rA 30), .ref (rA 31), .ref (rA 32), .ref (rA 33), .ref (rA 34), .ref (rA 35), .int (nI ld), .int (nI gm), .ref (rA 38), .ref (rA 39), .ref (rA 40), .ref (rA 41), .ref (rA 42), .ref (rA 43), .ref (rA 44), .ref (rA 45), .int (nI my), .ref (rA 47)], ia (rA 16) (rK9 16) 155 sf]) hP hD rfl hS hA [0, 1] (by decide +kernel) rfl
  have hKc := hK.sub (tys' := [((rK9 16), .int)]) [0] rfl
  refine va_calli (va_runV (As := [.int (nI (vx a)), .int (sf (139 + (4 * t) + (vx a)))]) (rest := []) ⟨hx, hb, hml, hown, hw⟩ (gen_Ref_placeOf l dC dI ra rA rK9 T Ac md wd mn cb ld gm my ir mr (vx a) po (sf (139 + 4 * t + vx a)) sf (by omega) o1 o2 o3 s.heap.size) (cw_V 2 hw g_Ref_placeOf rfl rfl rfl (hw _ m_109) (hw _ m_1101) (hw _ m_1103) (hw _ m_60) (by decide +kernel) ⟨Nat.le_of_ble_eq_true rfl, Nat.le_of_ble_eq_true rfl⟩) ⟨fun a U g mk q => by obtain ⟨q0, q1, qP, qK, qD, qN⟩ := q; exact ⟨q0, q1, qP, va_K.moved (u := U) (U := U.calling g mk a) (Vm.Alike.refl U.vm) qK, qD, nw_call qN⟩, va_recv hKc hPc (ci := 8) (q0 := 0) rfl rfl, fun U hU hW => ⟨rfl, by rw [hU], by rw [hU]; exact hPc, va_K.moved hW.alike hKc, hDc.weaken (fun _ _ _ _ => trivial), nw_warm hW hn⟩⟩ rfl rfl hl.1 rfl (lv_room (Nat.le_of_ble_eq_true rfl)) d_Ref_known_96 ⟨Nat.le_of_ble_eq_true rfl, Nat.le_of_ble_eq_true rfl⟩) hS (fun q _ h => hFc q h) hFc ?_
  intro r_2 u t9 H1 locs1 ht9 hvm hw1 hB hz1 hk1 hS1
  obtain ⟨hP1, hK1, hD1⟩ := hB
  rw [ht9] at hP1
  replace hK1 := va_K.moved hvm.symm hK1
  have hPD := join3 hP hD rfl [0, 1] [2, 3, 4, 5] rfl (by rfl) (by decide +kernel) (by decide +kernel) hk1 hFc hP1 hD1
  replace hK : va_K (dC, dI) classes [((rK9 16), .int), ((rK9 3), .int), ((rK9 4), .int), ((rK9 5), .int), ((rK9 6), .int)] s := hK.app hK1
  clear hP1 hK1 hD1 hk1 hz1 hFc hKc hDc hPc hvm ht9 hP hS t9
  have hP : va_P (dC, dI) classes [ia (rA 3) (rK9 3) 28 (fun i => nI (kd i)), ia (rA 4) (rK9 4) 28 (fun i => nI (vx i)), ia (rA 5) (rK9 5) 28 (fun i => nI (rr i)), ia (rA 6) (rK9 6) 28 vv, oc ra 8 [.int (nI T), .int (nI Ac), .ref (rA 2), .ref (rA 3), .ref (rA 4), .ref (rA 5), .ref (rA 6), .ref (rA 7), .ref (rA 8), .ref (rA 9), .ref (rA 10), .ref (rA 11), .ref (rA 12), .ref (rA 13), .int ir, .ref (rA 15), .ref (rA 16), .ref (rA 17), .ref (rA 18), .int (nI md), .int (nI wd), .ref (rA 21), .ref (rA 22), .ref (rA 23), .int (nI mn), .ref (rA 25), .int (nI cb), .int mr, .ref (rA 28), .ref (rA 29), .ref (rA 30), .ref (rA 31), .ref (rA 32), .ref (rA 33), .ref (rA 34), .ref (rA 35), .int (nI ld), .int (nI gm), .ref (rA 38), .ref (rA 39), .ref (rA 40), .ref (rA 41), .ref (rA 42), .ref (rA 43), .ref (rA 44), .ref (rA 45), .int (nI my), .ref (rA 47)], ia (rA 16) (rK9 16) 155 sf] H1 := hPD.1
  replace hD : dd A [(rA 3), (rA 4), (rA 5), (rA 6), ra, (rA 16)] := dd_of hPD.2 rfl
  clear hPD
  revert H1 locs1
  intro H locs hS hP
  refine tp_i (y := nI po) (hw1) ?_
  clear hw1 r_2 u
  refine tp_pc (pc' := 99) (by rfl) ?_
  refine lv_istore (lv' := [(6, .int (nI po)), (5, .int (nI (vx a))), (4, .int 2), (0, .ref ra), (1, .int (nI t)), (2, .int (nI a)), (3, .int (nI cn))]) hx hb d_Ref_known_99 hl (by decide) rfl ?_
  clear hl ls
  intro ls hl
  refine lv_aload_n hx hb d_Ref_known_101 rfl (lv_at hl 3 rfl) ?_
  refine va_get (D := (dC, dI)) (ci := 8) (v := .ref (rA 16)) (C := R_Ref) (T := F_Ref) (N := 48) hx hb hw i_Ref hown hK hP 4 rfl rfl 16 (by decide) (hw _ m_915) (fun _ h9 => h9) rfl d_Ref_known_102 ?_
  refine lv_bipush (v := 37) hx hb d_Ref_known_105 (by decide) ?_
  refine lv_iload hx hb d_Ref_known_107 (lv_at hl 1 rfl) ?_
  refine lv_iadd hx hb d_Ref_known_109 ?_
  refine tp_i (y := nI (37 + (vx a))) (by exact nI_add 37 (vx a)) ?_
  refine va_iald (D := (dC, dI)) hx hb hK hP 5 0 rfl rfl (i := nI (37 + (vx a))) (pk_in (37 + (vx a)) 155 (by omega)) d_Ref_known_110 ?_
  refine tp_i (y := sf (37 + (vx a))) (by rw [show (nI (37 + (vx a)) : Int32).toNatClampNeg = 37 + (vx a) from pk_cl (37 + (vx a))]) ?_
  refine tp_i (y := nI z) hzz ?_
  refine lv_istore (lv' := [(7, .int (nI z)), (6, .int (nI po)), (5, .int (nI (vx a))), (4, .int 2), (0, .ref ra), (1, .int (nI t)), (2, .int (nI a)), (3, .int (nI cn))]) hx hb d_Ref_known_111 hl (by decide) rfl ?_
  clear hl ls
  intro ls hl
  refine lp_j 163 (fun ls => lv_has ls 11 [(8, .int (if cn + 1 < z ∧ ad (cn + 1) = 1 then 1 else 0)), (7, .int (nI z)), (6, .int (nI po)), (5, .int (nI (vx a))), (4, .int 2), (0, .ref ra), (1, .int (nI t)), (2, .int (nI a)), (3, .int (nI cn))]) ?_ ?_
  rotate_left
  · intro kJ
    refine lv_iload_n hx hb d_Ref_known_113 rfl (lv_at hl 7 rfl) ?_
    refine lv_iload hx hb d_Ref_known_114 (lv_at hl 0 rfl) ?_
    refine lv_icmp_ge (tgt := 160) hx hb d_Ref_known_116 (by decide) (fun d1 => ?_) (fun d1 => ?_)
    · skip
      have hd1 : z ≤ cn := (nI_leI (a := z) (b := cn) (by omega) (by omega)).mp d1
      refine tp_pc (pc' := 160) (by rfl) ?_
      refine lv_iconst (v := 0) hx hb d_Ref_known_160 (by decide) ?_
      refine tp_i (y := (if cn + 1 < z ∧ ad (cn + 1) = 1 then 1 else 0)) (by rw [if_neg (by omega)]) ?_
      refine lv_istore (lv' := [(8, .int (if cn + 1 < z ∧ ad (cn + 1) = 1 then 1 else 0)), (7, .int (nI z)), (6, .int (nI po)), (5, .int (nI (vx a))), (4, .int 2), (0, .ref ra), (1, .int (nI t)), (2, .int (nI a)), (3, .int (nI cn))]) hx hb d_Ref_known_161 hl (by decide) rfl ?_
      clear hl ls
      intro ls hl
      exact kJ _ (lv_sub hl [0, 1, 2, 3, 4, 5, 6, 7, 8] rfl)
    · skip
      have hd1 : ¬ (z ≤ cn) := fun q9 => d1 ((nI_leI (a := z) (b := cn) (by omega) (by omega)).mpr q9)
      refine tp_pc (pc' := 119) (by rfl) ?_
      refine lv_iload_n hx hb d_Ref_known_119 rfl (lv_at hl 7 rfl) ?_
      refine lv_iconst (v := 1) hx hb d_Ref_known_120 (by decide) ?_
      refine lv_iadd hx hb d_Ref_known_121 ?_
      refine tp_i (y := nI (cn + 1)) (by exact nI_add cn 1) ?_
      refine lv_iload hx hb d_Ref_known_122 (lv_at hl 0 rfl) ?_
      refine lv_icmp_ge (tgt := 160) hx hb d_Ref_known_124 (by decide) (fun d2 => ?_) (fun d2 => ?_)
      · skip
        have hd2 : z ≤ cn + 1 := (nI_leI (a := z) (b := cn + 1) (by omega) (by omega)).mp d2
        refine tp_pc (pc' := 160) (by rfl) ?_
        refine lv_iconst (v := 0) hx hb d_Ref_known_160 (by decide) ?_
        refine tp_i (y := (if cn + 1 < z ∧ ad (cn + 1) = 1 then 1 else 0)) (by rw [if_neg (by omega)]) ?_
        refine lv_istore (lv' := [(8, .int (if cn + 1 < z ∧ ad (cn + 1) = 1 then 1 else 0)), (7, .int (nI z)), (6, .int (nI po)), (5, .int (nI (vx a))), (4, .int 2), (0, .ref ra), (1, .int (nI t)), (2, .int (nI a)), (3, .int (nI cn))]) hx hb d_Ref_known_161 hl (by decide) rfl ?_
        clear hl ls
        intro ls hl
        exact kJ _ (lv_sub hl [0, 1, 2, 3, 4, 5, 6, 7, 8] rfl)
      · skip
        have hd2 : ¬ (z ≤ cn + 1) := fun q9 => d2 ((nI_leI (a := z) (b := cn + 1) (by omega) (by omega)).mpr q9)
        obtain ⟨r1, r2⟩ := hro (cn + 1) (by omega)
        obtain ⟨r3, r4⟩ := had (cn + 1) (by omega)
        refine tp_pc (pc' := 127) (by rfl) ?_
        refine lv_aload_n hx hb d_Ref_known_127 rfl (lv_at hl 4 rfl) ?_
        refine va_get (D := (dC, dI)) (ci := 8) (v := .ref (rA 16)) (C := R_Ref) (T := F_Ref) (N := 48) hx hb hw i_Ref hown hK hP 4 rfl rfl 16 (by decide) (hw _ m_915) (fun _ h9 => h9) rfl d_Ref_known_128 ?_
        refine lv_bipush (v := 84) hx hb d_Ref_known_131 (by decide) ?_
        refine lv_aload_n hx hb d_Ref_known_133 rfl (lv_at hl 4 rfl) ?_
        refine va_get (D := (dC, dI)) (ci := 8) (v := .ref (rA 16)) (C := R_Ref) (T := F_Ref) (N := 48) hx hb hw i_Ref hown hK hP 4 rfl rfl 16 (by decide) (hw _ m_915) (fun _ h9 => h9) rfl d_Ref_known_134 ?_
        refine lv_bipush (v := 41) hx hb d_Ref_known_137 (by decide) ?_
        refine lv_bipush (v := 8) hx hb d_Ref_known_139 (by decide) ?_
        refine lv_iload hx hb d_Ref_known_141 (lv_at hl 2 rfl) ?_
        refine lv_imul hx hb d_Ref_known_143 ?_
        refine tp_i (y := nI (8 * (vx a))) (by exact pk_mul 8 (vx a)) ?_
        refine lv_iadd hx hb d_Ref_known_144 ?_
        refine tp_i (y := nI (41 + (8 * (vx a)))) (by exact nI_add 41 (8 * (vx a))) ?_
        refine lv_iload_n hx hb d_Ref_known_145 rfl (lv_at hl 7 rfl) ?_
        refine lv_iadd hx hb d_Ref_known_146 ?_
        refine tp_i (y := nI (41 + (8 * (vx a)) + cn)) (by exact nI_add (41 + (8 * (vx a))) cn) ?_
        refine lv_iconst (v := 1) hx hb d_Ref_known_147 (by decide) ?_
        refine lv_iadd hx hb d_Ref_known_148 ?_
        refine tp_i (y := nI (41 + (8 * (vx a)) + cn + 1)) (by exact nI_add (41 + (8 * (vx a)) + cn) 1) ?_
        refine va_iald (D := (dC, dI)) hx hb hK hP 5 0 rfl rfl (i := nI (41 + (8 * (vx a)) + cn + 1)) (pk_in (41 + (8 * (vx a)) + cn + 1) 155 (by omega)) d_Ref_known_149 ?_
        refine tp_i (y := sf (41 + (8 * (vx a)) + cn + 1)) (by rw [show (nI (41 + (8 * (vx a)) + cn + 1) : Int32).toNatClampNeg = 41 + (8 * (vx a)) + cn + 1 from pk_cl (41 + (8 * (vx a)) + cn + 1)]) ?_
        refine tp_i (y := nI (ro (cn + 1))) r1 ?_
        refine lv_iadd hx hb d_Ref_known_150 ?_
        refine tp_i (y := nI (84 + (ro (cn + 1)))) (by exact nI_add 84 (ro (cn + 1))) ?_
        refine va_iald (D := (dC, dI)) hx hb hK hP 5 0 rfl rfl (i := nI (84 + (ro (cn + 1)))) (pk_in (84 + (ro (cn + 1))) 155 (by omega)) d_Ref_known_151 ?_
        refine tp_i (y := sf (84 + (ro (cn + 1)))) (by rw [show (nI (84 + (ro (cn + 1))) : Int32).toNatClampNeg = 84 + (ro (cn + 1)) from pk_cl (84 + (ro (cn + 1)))]) ?_
        refine tp_i (y := nI (ad (cn + 1))) r3 ?_
        refine lv_iconst (v := 1) hx hb d_Ref_known_152 (by decide) ?_
        refine lv_icmp_ne (tgt := 160) hx hb d_Ref_known_153 (by decide) (fun d3 => ?_) (fun d3 => ?_)
        · skip
          have hd3 : ¬ (ad (cn + 1) = 1) := fun q9 => d3 ((nI_eq (a := ad (cn + 1)) (b := 1) (by omega) (by omega)).mpr q9)
          refine tp_pc (pc' := 160) (by rfl) ?_
          refine lv_iconst (v := 0) hx hb d_Ref_known_160 (by decide) ?_
          refine tp_i (y := (if cn + 1 < z ∧ ad (cn + 1) = 1 then 1 else 0)) (by rw [if_neg (fun q => hd3 q.2)]) ?_
          refine lv_istore (lv' := [(8, .int (if cn + 1 < z ∧ ad (cn + 1) = 1 then 1 else 0)), (7, .int (nI z)), (6, .int (nI po)), (5, .int (nI (vx a))), (4, .int 2), (0, .ref ra), (1, .int (nI t)), (2, .int (nI a)), (3, .int (nI cn))]) hx hb d_Ref_known_161 hl (by decide) rfl ?_
          clear hl ls
          intro ls hl
          exact kJ _ (lv_sub hl [0, 1, 2, 3, 4, 5, 6, 7, 8] rfl)
        · skip
          have hd3 : ad (cn + 1) = 1 := (nI_eq (a := ad (cn + 1)) (b := 1) (by omega) (by omega)).mp d3
          refine tp_pc (pc' := 156) (by rfl) ?_
          refine lv_iconst (v := 1) hx hb d_Ref_known_156 (by decide) ?_
          refine lv_goto (tgt := 161) hx hb d_Ref_known_157 (by decide) ?_
          refine tp_pc (pc' := 161) (by rfl) ?_
          refine tp_i (y := (if cn + 1 < z ∧ ad (cn + 1) = 1 then 1 else 0)) (by rw [if_pos ⟨by omega, hd3⟩]) ?_
          refine lv_istore (lv' := [(8, .int (if cn + 1 < z ∧ ad (cn + 1) = 1 then 1 else 0)), (7, .int (nI z)), (6, .int (nI po)), (5, .int (nI (vx a))), (4, .int 2), (0, .ref ra), (1, .int (nI t)), (2, .int (nI a)), (3, .int (nI cn))]) hx hb d_Ref_known_161 hl (by decide) rfl ?_
          clear hl ls
          intro ls hl
          exact kJ _ (lv_sub hl [0, 1, 2, 3, 4, 5, 6, 7, 8] rfl)
  · intro ls hl
    refine lp_j 203 (fun ls => lv_has ls 11 [(9, .int (if cn < z ∧ ad cn = 1 then 1 else 0)), (8, .int (if cn + 1 < z ∧ ad (cn + 1) = 1 then 1 else 0)), (7, .int (nI z)), (6, .int (nI po)), (5, .int (nI (vx a))), (4, .int 2), (0, .ref ra), (1, .int (nI t)), (2, .int (nI a)), (3, .int (nI cn))]) ?_ ?_
    rotate_left
    · intro kJ
      refine lv_iload_n hx hb d_Ref_known_163 rfl (lv_at hl 8 rfl) ?_
      refine lv_iload hx hb d_Ref_known_164 (lv_at hl 1 rfl) ?_
      refine lv_icmp_ge (tgt := 200) hx hb d_Ref_known_166 (by decide) (fun d1 => ?_) (fun d1 => ?_)
      · skip
        have hd1 : z ≤ cn := (nI_leI (a := z) (b := cn) (by omega) (by omega)).mp d1
        refine tp_pc (pc' := 200) (by rfl) ?_
        refine lv_iconst (v := 0) hx hb d_Ref_known_200 (by decide) ?_
        refine tp_i (y := (if cn < z ∧ ad cn = 1 then 1 else 0)) (by rw [if_neg (by omega)]) ?_
        refine lv_istore (lv' := [(9, .int (if cn < z ∧ ad cn = 1 then 1 else 0)), (8, .int (if cn + 1 < z ∧ ad (cn + 1) = 1 then 1 else 0)), (7, .int (nI z)), (6, .int (nI po)), (5, .int (nI (vx a))), (4, .int 2), (0, .ref ra), (1, .int (nI t)), (2, .int (nI a)), (3, .int (nI cn))]) hx hb d_Ref_known_201 hl (by decide) rfl ?_
        clear hl ls
        intro ls hl
        exact kJ _ (lv_sub hl [0, 1, 2, 3, 4, 5, 6, 7, 8, 9] rfl)
      · skip
        have hd1 : ¬ (z ≤ cn) := fun q9 => d1 ((nI_leI (a := z) (b := cn) (by omega) (by omega)).mpr q9)
        obtain ⟨r1, r2⟩ := hro (cn) (by omega)
        obtain ⟨r3, r4⟩ := had (cn) (by omega)
        refine tp_pc (pc' := 169) (by rfl) ?_
        refine lv_aload_n hx hb d_Ref_known_169 rfl (lv_at hl 5 rfl) ?_
        refine va_get (D := (dC, dI)) (ci := 8) (v := .ref (rA 16)) (C := R_Ref) (T := F_Ref) (N := 48) hx hb hw i_Ref hown hK hP 4 rfl rfl 16 (by decide) (hw _ m_915) (fun _ h9 => h9) rfl d_Ref_known_170 ?_
        refine lv_bipush (v := 84) hx hb d_Ref_known_173 (by decide) ?_
        refine lv_aload_n hx hb d_Ref_known_175 rfl (lv_at hl 5 rfl) ?_
        refine va_get (D := (dC, dI)) (ci := 8) (v := .ref (rA 16)) (C := R_Ref) (T := F_Ref) (N := 48) hx hb hw i_Ref hown hK hP 4 rfl rfl 16 (by decide) (hw _ m_915) (fun _ h9 => h9) rfl d_Ref_known_176 ?_
        refine lv_bipush (v := 41) hx hb d_Ref_known_179 (by decide) ?_
        refine lv_bipush (v := 8) hx hb d_Ref_known_181 (by decide) ?_
        refine lv_iload hx hb d_Ref_known_183 (lv_at hl 3 rfl) ?_
        refine lv_imul hx hb d_Ref_known_185 ?_
        refine tp_i (y := nI (8 * (vx a))) (by exact pk_mul 8 (vx a)) ?_
        refine lv_iadd hx hb d_Ref_known_186 ?_
        refine tp_i (y := nI (41 + (8 * (vx a)))) (by exact nI_add 41 (8 * (vx a))) ?_
        refine lv_iload_n hx hb d_Ref_known_187 rfl (lv_at hl 8 rfl) ?_
        refine lv_iadd hx hb d_Ref_known_188 ?_
        refine tp_i (y := nI (41 + (8 * (vx a)) + cn)) (by exact nI_add (41 + (8 * (vx a))) cn) ?_
        refine va_iald (D := (dC, dI)) hx hb hK hP 5 0 rfl rfl (i := nI (41 + (8 * (vx a)) + cn)) (pk_in (41 + (8 * (vx a)) + cn) 155 (by omega)) d_Ref_known_189 ?_
        refine tp_i (y := sf (41 + (8 * (vx a)) + cn)) (by rw [show (nI (41 + (8 * (vx a)) + cn) : Int32).toNatClampNeg = 41 + (8 * (vx a)) + cn from pk_cl (41 + (8 * (vx a)) + cn)]) ?_
        refine tp_i (y := nI (ro (cn))) r1 ?_
        refine lv_iadd hx hb d_Ref_known_190 ?_
        refine tp_i (y := nI (84 + (ro (cn)))) (by exact nI_add 84 (ro (cn))) ?_
        refine va_iald (D := (dC, dI)) hx hb hK hP 5 0 rfl rfl (i := nI (84 + (ro (cn)))) (pk_in (84 + (ro (cn))) 155 (by omega)) d_Ref_known_191 ?_
        refine tp_i (y := sf (84 + (ro (cn)))) (by rw [show (nI (84 + (ro (cn))) : Int32).toNatClampNeg = 84 + (ro (cn)) from pk_cl (84 + (ro (cn)))]) ?_
        refine tp_i (y := nI (ad cn)) r3 ?_
        refine lv_iconst (v := 1) hx hb d_Ref_known_192 (by decide) ?_
        refine lv_icmp_ne (tgt := 200) hx hb d_Ref_known_193 (by decide) (fun d3 => ?_) (fun d3 => ?_)
        · skip
          have hd3 : ¬ (ad cn = 1) := fun q9 => d3 ((nI_eq (a := ad cn) (b := 1) (by omega) (by omega)).mpr q9)
          refine tp_pc (pc' := 200) (by rfl) ?_
          refine lv_iconst (v := 0) hx hb d_Ref_known_200 (by decide) ?_
          refine tp_i (y := (if cn < z ∧ ad cn = 1 then 1 else 0)) (by rw [if_neg (fun q => hd3 q.2)]) ?_
          refine lv_istore (lv' := [(9, .int (if cn < z ∧ ad cn = 1 then 1 else 0)), (8, .int (if cn + 1 < z ∧ ad (cn + 1) = 1 then 1 else 0)), (7, .int (nI z)), (6, .int (nI po)), (5, .int (nI (vx a))), (4, .int 2), (0, .ref ra), (1, .int (nI t)), (2, .int (nI a)), (3, .int (nI cn))]) hx hb d_Ref_known_201 hl (by decide) rfl ?_
          clear hl ls
          intro ls hl
          exact kJ _ (lv_sub hl [0, 1, 2, 3, 4, 5, 6, 7, 8, 9] rfl)
        · skip
          have hd3 : ad cn = 1 := (nI_eq (a := ad cn) (b := 1) (by omega) (by omega)).mp d3
          refine tp_pc (pc' := 196) (by rfl) ?_
          refine lv_iconst (v := 1) hx hb d_Ref_known_196 (by decide) ?_
          refine lv_goto (tgt := 201) hx hb d_Ref_known_197 (by decide) ?_
          refine tp_pc (pc' := 201) (by rfl) ?_
          refine tp_i (y := (if cn < z ∧ ad cn = 1 then 1 else 0)) (by rw [if_pos ⟨by omega, hd3⟩]) ?_
          refine lv_istore (lv' := [(9, .int (if cn < z ∧ ad cn = 1 then 1 else 0)), (8, .int (if cn + 1 < z ∧ ad (cn + 1) = 1 then 1 else 0)), (7, .int (nI z)), (6, .int (nI po)), (5, .int (nI (vx a))), (4, .int 2), (0, .ref ra), (1, .int (nI t)), (2, .int (nI a)), (3, .int (nI cn))]) hx hb d_Ref_known_201 hl (by decide) rfl ?_
          clear hl ls
          intro ls hl
          exact kJ _ (lv_sub hl [0, 1, 2, 3, 4, 5, 6, 7, 8, 9] rfl)
    · intro ls hl
      refine lv_iload hx hb d_Ref_known_203 (lv_at hl 5 rfl) ?_
      refine lv_if_ne (tgt := 285) hx hb d_Ref_known_205 (by decide) (fun c_3 => ?_) (fun c_3 => absurd c_3 (by decide))
      refine tp_pc (pc' := 285) (by rfl) ?_
      refine lv_iload hx hb d_Ref_known_285 (lv_at hl 5 rfl) ?_
      refine lv_iconst (v := 3) hx hb d_Ref_known_287 (by decide) ?_
      refine lv_icmp_ne (tgt := 401) hx hb d_Ref_known_288 (by decide) (fun c_4 => ?_) (fun c_4 => absurd c_4 (by decide))
      refine tp_pc (pc' := 401) (by rfl) ?_
      refine lv_iload_n hx hb d_Ref_known_401 rfl (lv_at hl 9 rfl) ?_
      refine lv_iload hx hb d_Ref_known_402 (lv_at hl 3 rfl) ?_
      refine lv_icmp_le (tgt := 418) hx hb d_Ref_known_404 (by decide) (fun d1 => ?_) (fun d1 => ?_)
      · skip
        have hd1 : cn ≤ po := (nI_leI (a := cn) (b := po) (by omega) (by omega)).mp d1
        refine tp_pc (pc' := 418) (by rfl) ?_
        refine lv_iconst (v := 0) hx hb d_Ref_known_418 (by decide) ?_
        obtain ⟨hP9, hD9, -⟩ := cut3 (wc := [oc ra 8 [.int (nI T), .int (nI Ac), .ref (rA 2), .ref (rA 3), .ref (rA 4), .ref (rA 5), .ref (rA 6), .ref (rA 7), .ref (rA 8), .ref (rA 9), .ref (rA 10), .ref (rA 11), .ref (rA 12), .ref (rA 13), .int ir, .ref (rA 15), .ref (rA 16), .ref (rA 17), .ref (rA 18), .int (nI md), .int (nI wd), .ref (rA 21), .ref (rA 22), .ref (rA 23), .int (nI mn), .ref (rA 25), .int (nI cb), .int mr, .ref (rA 28), .ref (rA 29), .ref (rA 30), .ref (rA 31), .ref (rA 32), .ref (rA 33), .ref (rA 34), .ref (rA 35), .int (nI ld), .int (nI gm), .ref (rA 38), .ref (rA 39), .ref (rA 40), .ref (rA 41), .ref (rA 42), .ref (rA 43), .ref (rA 44), .ref (rA 45), .int (nI my), .ref (rA 47)], ia (rA 16) (rK9 16) 155 sf, ia (rA 3) (rK9 3) 28 (fun i => nI (kd i)), ia (rA 4) (rK9 4) 28 (fun i => nI (vx i)), ia (rA 5) (rK9 5) 28 (fun i => nI (rr i)), ia (rA 6) (rK9 6) 28 vv]) hP hD rfl hS hA [4, 5, 0, 1, 2, 3] (by decide +kernel) rfl
        have hK9 := hK.sub (tys' := []) [] rfl
        refine W.widen (k := 0) (n := 0) (by exact Nat.le_of_ble_eq_true rfl) (by exact Nat.le_of_ble_eq_true rfl) ?_
        exact W.zret (v := 0) (ty := .boolean) hx hb hr (by decide) (fun t9 ht9 hW => ⟨⟨0, (), rfl, rfl, by rw [ht9]; exact hP9, va_K.moved hW.alike hK9, hD9⟩, hS.F ht9⟩) hS.2.2 d_Ref_known_419
      · skip
        have hd1 : ¬ (cn ≤ po) := fun q9 => d1 ((nI_leI (a := cn) (b := po) (by omega) (by omega)).mpr q9)
        refine tp_pc (pc' := 407) (by rfl) ?_
        refine lv_iload_n hx hb d_Ref_known_407 rfl (lv_at hl 9 rfl) ?_
        refine lv_iload hx hb d_Ref_known_408 (lv_at hl 2 rfl) ?_
        refine lv_icmp_gt (tgt := 418) hx hb d_Ref_known_410 (by decide) (fun d2 => ?_) (fun d2 => ?_)
        · skip
          have hd2 : z < cn := (nI_ltI (a := z) (b := cn) (by omega) (by omega)).mp d2
          refine tp_pc (pc' := 418) (by rfl) ?_
          refine lv_iconst (v := 0) hx hb d_Ref_known_418 (by decide) ?_
          obtain ⟨hP9, hD9, -⟩ := cut3 (wc := [oc ra 8 [.int (nI T), .int (nI Ac), .ref (rA 2), .ref (rA 3), .ref (rA 4), .ref (rA 5), .ref (rA 6), .ref (rA 7), .ref (rA 8), .ref (rA 9), .ref (rA 10), .ref (rA 11), .ref (rA 12), .ref (rA 13), .int ir, .ref (rA 15), .ref (rA 16), .ref (rA 17), .ref (rA 18), .int (nI md), .int (nI wd), .ref (rA 21), .ref (rA 22), .ref (rA 23), .int (nI mn), .ref (rA 25), .int (nI cb), .int mr, .ref (rA 28), .ref (rA 29), .ref (rA 30), .ref (rA 31), .ref (rA 32), .ref (rA 33), .ref (rA 34), .ref (rA 35), .int (nI ld), .int (nI gm), .ref (rA 38), .ref (rA 39), .ref (rA 40), .ref (rA 41), .ref (rA 42), .ref (rA 43), .ref (rA 44), .ref (rA 45), .int (nI my), .ref (rA 47)], ia (rA 16) (rK9 16) 155 sf, ia (rA 3) (rK9 3) 28 (fun i => nI (kd i)), ia (rA 4) (rK9 4) 28 (fun i => nI (vx i)), ia (rA 5) (rK9 5) 28 (fun i => nI (rr i)), ia (rA 6) (rK9 6) 28 vv]) hP hD rfl hS hA [4, 5, 0, 1, 2, 3] (by decide +kernel) rfl
          have hK9 := hK.sub (tys' := []) [] rfl
          refine W.widen (k := 0) (n := 0) (by exact Nat.le_of_ble_eq_true rfl) (by exact Nat.le_of_ble_eq_true rfl) ?_
          exact W.zret (v := 0) (ty := .boolean) hx hb hr (by decide) (fun t9 ht9 hW => ⟨⟨0, (), rfl, rfl, by rw [ht9]; exact hP9, va_K.moved hW.alike hK9, hD9⟩, hS.F ht9⟩) hS.2.2 d_Ref_known_419
        · skip
          have hd2 : ¬ (z < cn) := fun q9 => d2 ((nI_ltI (a := z) (b := cn) (by omega) (by omega)).mpr q9)
          refine tp_pc (pc' := 413) (by rfl) ?_
          refine lv_iload hx hb d_Ref_known_413 (lv_at hl 0 rfl) ?_
          rw [if_pos (show cn < z ∧ ad cn = 1 from Classical.byContradiction fun q => hcc ⟨⟨by omega, by omega⟩, q⟩)]
          refine lv_if_eq (tgt := 420) hx hb d_Ref_known_415 (by decide) (fun c_5 => absurd c_5 (by decide)) (fun c_5 => ?_)
          refine tp_pc (pc' := 418) (by rfl) ?_
          refine lv_iconst (v := 0) hx hb d_Ref_known_418 (by decide) ?_
          obtain ⟨hP9, hD9, -⟩ := cut3 (wc := [oc ra 8 [.int (nI T), .int (nI Ac), .ref (rA 2), .ref (rA 3), .ref (rA 4), .ref (rA 5), .ref (rA 6), .ref (rA 7), .ref (rA 8), .ref (rA 9), .ref (rA 10), .ref (rA 11), .ref (rA 12), .ref (rA 13), .int ir, .ref (rA 15), .ref (rA 16), .ref (rA 17), .ref (rA 18), .int (nI md), .int (nI wd), .ref (rA 21), .ref (rA 22), .ref (rA 23), .int (nI mn), .ref (rA 25), .int (nI cb), .int mr, .ref (rA 28), .ref (rA 29), .ref (rA 30), .ref (rA 31), .ref (rA 32), .ref (rA 33), .ref (rA 34), .ref (rA 35), .int (nI ld), .int (nI gm), .ref (rA 38), .ref (rA 39), .ref (rA 40), .ref (rA 41), .ref (rA 42), .ref (rA 43), .ref (rA 44), .ref (rA 45), .int (nI my), .ref (rA 47)], ia (rA 16) (rK9 16) 155 sf, ia (rA 3) (rK9 3) 28 (fun i => nI (kd i)), ia (rA 4) (rK9 4) 28 (fun i => nI (vx i)), ia (rA 5) (rK9 5) 28 (fun i => nI (rr i)), ia (rA 6) (rK9 6) 28 vv]) hP hD rfl hS hA [4, 5, 0, 1, 2, 3] (by decide +kernel) rfl
          have hK9 := hK.sub (tys' := []) [] rfl
          refine W.widen (k := 0) (n := 0) (by exact Nat.le_of_ble_eq_true rfl) (by exact Nat.le_of_ble_eq_true rfl) ?_
          exact W.zret (v := 0) (ty := .boolean) hx hb hr (by decide) (fun t9 ht9 hW => ⟨⟨0, (), rfl, rfl, by rw [ht9]; exact hP9, va_K.moved hW.alike hK9, hD9⟩, hS.F ht9⟩) hS.2.2 d_Ref_known_419
