set_option maxHeartbeats 4000000 in
set_option maxRecDepth 100000 in
theorem gen_Ref_step_skip_e (l : Launch) (dC : Nat → ClassId) (dI : Nat → Nat → Nat) (ra : Nat) (rA : Nat → Nat) (rK9 : Nat → ClassId) (T Ac md wd mn cb ld gm my : Nat) (ir mr : Int32) (t p9 cn : Nat) (sf vv : Nat → Int32) (zs kd vx rr : Nat → Nat) (ht : t < 4) (hc9 : cn < 9) (hm4 : md < 4) (hp9 : sf t = nI p9) (hp7 : p9 ≤ 7) (hz7 : zs t ≤ 7) (hmr : p9 < zs t) (hk6 : kd (7 * t + p9) < 6) (hk5 : kd (7 * t + p9) = 5) (hc0 : cn = 0) (hrr : rr (7 * t + p9) < 2) (hvx : vx (7 * t + p9) < 4) (hcd : sf (4 + 2 * t + rr (7 * t + p9)) = vv (7 * t + p9)) (sz : Nat) : Met l y_Ref_step w_Ref_step ({ frames := 0, cells := 0, slots := 0, locals := 0 }) (va_Pc [.ref ra, .int (nI t), .int (nI cn)] (fun U => U.heap.size = sz ∧ va_P (dC, dI) classes [oc ra 8 [.int (nI T), .int (nI Ac), .ref (rA 2), .ref (rA 3), .ref (rA 4), .ref (rA 5), .ref (rA 6), .ref (rA 7), .ref (rA 8), .ref (rA 9), .ref (rA 10), .ref (rA 11), .ref (rA 12), .ref (rA 13), .int ir, .ref (rA 15), .ref (rA 16), .ref (rA 17), .ref (rA 18), .int (nI md), .int (nI wd), .ref (rA 21), .ref (rA 22), .ref (rA 23), .int (nI mn), .ref (rA 25), .int (nI cb), .int mr, .ref (rA 28), .ref (rA 29), .ref (rA 30), .ref (rA 31), .ref (rA 32), .ref (rA 33), .ref (rA 34), .ref (rA 35), .int (nI ld), .int (nI gm), .ref (rA 38), .ref (rA 39), .ref (rA 40), .ref (rA 41), .ref (rA 42), .ref (rA 43), .ref (rA 44), .ref (rA 45), .int (nI my), .ref (rA 47)], ia (rA 16) (rK9 16) 155 sf, ia (rA 2) (rK9 2) 4 (fun i => nI (zs i)), ia (rA 3) (rK9 3) 28 (fun i => nI (kd i)), ia (rA 4) (rK9 4) 28 (fun i => nI (vx i)), ia (rA 5) (rK9 5) 28 (fun i => nI (rr i)), ia (rA 6) (rK9 6) 28 vv] U.heap ∧ va_K (dC, dI) classes [((rK9 16), .int), ((rK9 2), .int), ((rK9 3), .int), ((rK9 4), .int), ((rK9 5), .int), ((rK9 6), .int)] U ∧ va_D (fun _ => True) [oc ra 8 [.int (nI T), .int (nI Ac), .ref (rA 2), .ref (rA 3), .ref (rA 4), .ref (rA 5), .ref (rA 6), .ref (rA 7), .ref (rA 8), .ref (rA 9), .ref (rA 10), .ref (rA 11), .ref (rA 12), .ref (rA 13), .int ir, .ref (rA 15), .ref (rA 16), .ref (rA 17), .ref (rA 18), .int (nI md), .int (nI wd), .ref (rA 21), .ref (rA 22), .ref (rA 23), .int (nI mn), .ref (rA 25), .int (nI cb), .int mr, .ref (rA 28), .ref (rA 29), .ref (rA 30), .ref (rA 31), .ref (rA 32), .ref (rA 33), .ref (rA 34), .ref (rA 35), .int (nI ld), .int (nI gm), .ref (rA 38), .ref (rA 39), .ref (rA 40), .ref (rA 41), .ref (rA 42), .ref (rA 43), .ref (rA 44), .ref (rA 45), .int (nI my), .ref (rA 47)], ia (rA 16) (rK9 16) 155 sf, ia (rA 2) (rK9 2) 4 (fun i => nI (zs i)), ia (rA 3) (rK9 3) 28 (fun i => nI (kd i)), ia (rA 4) (rK9 4) 28 (fun i => nI (vx i)), ia (rA 5) (rK9 5) 28 (fun i => nI (rr i)), ia (rA 6) (rK9 6) 28 vv] ∧ nw U)) (va_Qi (fun (r : Int32) (_ : Unit) => r = 1) (fun _ t9 => va_P (dC, dI) classes [oc ra 8 [.int (nI T), .int (nI Ac), .ref (rA 2), .ref (rA 3), .ref (rA 4), .ref (rA 5), .ref (rA 6), .ref (rA 7), .ref (rA 8), .ref (rA 9), .ref (rA 10), .ref (rA 11), .ref (rA 12), .ref (rA 13), .int ir, .ref (rA 15), .ref (rA 16), .ref (rA 17), .ref (rA 18), .int (nI md), .int (nI wd), .ref (rA 21), .ref (rA 22), .ref (rA 23), .int (nI mn), .ref (rA 25), .int (nI cb), .int mr, .ref (rA 28), .ref (rA 29), .ref (rA 30), .ref (rA 31), .ref (rA 32), .ref (rA 33), .ref (rA 34), .ref (rA 35), .int (nI ld), .int (nI gm), .ref (rA 38), .ref (rA 39), .ref (rA 40), .ref (rA 41), .ref (rA 42), .ref (rA 43), .ref (rA 44), .ref (rA 45), .int (nI my), .ref (rA 47)], ia (rA 16) (rK9 16) 155 (upd sf t (nI (p9 + 1))), ia (rA 2) (rK9 2) 4 (fun i => nI (zs i)), ia (rA 3) (rK9 3) 28 (fun i => nI (kd i)), ia (rA 4) (rK9 4) 28 (fun i => nI (vx i)), ia (rA 5) (rK9 5) 28 (fun i => nI (rr i)), ia (rA 6) (rK9 6) 28 vv] t9.heap ∧ va_K (dC, dI) classes [] t9 ∧ va_D (va_A [oc ra 8 [.int (nI T), .int (nI Ac), .ref (rA 2), .ref (rA 3), .ref (rA 4), .ref (rA 5), .ref (rA 6), .ref (rA 7), .ref (rA 8), .ref (rA 9), .ref (rA 10), .ref (rA 11), .ref (rA 12), .ref (rA 13), .int ir, .ref (rA 15), .ref (rA 16), .ref (rA 17), .ref (rA 18), .int (nI md), .int (nI wd), .ref (rA 21), .ref (rA 22), .ref (rA 23), .int (nI mn), .ref (rA 25), .int (nI cb), .int mr, .ref (rA 28), .ref (rA 29), .ref (rA 30), .ref (rA 31), .ref (rA 32), .ref (rA 33), .ref (rA 34), .ref (rA 35), .int (nI ld), .int (nI gm), .ref (rA 38), .ref (rA 39), .ref (rA 40), .ref (rA 41), .ref (rA 42), .ref (rA 43), .ref (rA 44), .ref (rA 45), .int (nI my), .ref (rA 47)], ia (rA 16) (rK9 16) 155 sf, ia (rA 2) (rK9 2) 4 (fun i => nI (zs i)), ia (rA 3) (rK9 3) 28 (fun i => nI (kd i)), ia (rA 4) (rK9 4) 28 (fun i => nI (vx i)), ia (rA 5) (rK9 5) 28 (fun i => nI (rr i)), ia (rA 6) (rK9 6) 28 vv] sz) [oc ra 8 [.int (nI T), .int (nI Ac), .ref (rA 2), .ref (rA 3), .ref (rA 4), .ref (rA 5), .ref (rA 6), .ref (rA 7), .ref (rA 8), .ref (rA 9), .ref (rA 10), .ref (rA 11), .ref (rA 12), .ref (rA 13), .int ir, .ref (rA 15), .ref (rA 16), .ref (rA 17), .ref (rA 18), .int (nI md), .int (nI wd), .ref (rA 21), .ref (rA 22), .ref (rA 23), .int (nI mn), .ref (rA 25), .int (nI cb), .int mr, .ref (rA 28), .ref (rA 29), .ref (rA 30), .ref (rA 31), .ref (rA 32), .ref (rA 33), .ref (rA 34), .ref (rA 35), .int (nI ld), .int (nI gm), .ref (rA 38), .ref (rA 39), .ref (rA 40), .ref (rA 41), .ref (rA 42), .ref (rA 43), .ref (rA 44), .ref (rA 45), .int (nI my), .ref (rA 47)], ia (rA 16) (rK9 16) 155 (upd sf t (nI (p9 + 1))), ia (rA 2) (rK9 2) 4 (fun i => nI (zs i)), ia (rA 3) (rK9 3) 28 (fun i => nI (kd i)), ia (rA 4) (rK9 4) 28 (fun i => nI (vx i)), ia (rA 5) (rK9 5) 28 (fun i => nI (rr i)), ia (rA 6) (rK9 6) 28 vv]) (va_A [oc ra 8 [.int (nI T), .int (nI Ac), .ref (rA 2), .ref (rA 3), .ref (rA 4), .ref (rA 5), .ref (rA 6), .ref (rA 7), .ref (rA 8), .ref (rA 9), .ref (rA 10), .ref (rA 11), .ref (rA 12), .ref (rA 13), .int ir, .ref (rA 15), .ref (rA 16), .ref (rA 17), .ref (rA 18), .int (nI md), .int (nI wd), .ref (rA 21), .ref (rA 22), .ref (rA 23), .int (nI mn), .ref (rA 25), .int (nI cb), .int mr, .ref (rA 28), .ref (rA 29), .ref (rA 30), .ref (rA 31), .ref (rA 32), .ref (rA 33), .ref (rA 34), .ref (rA 35), .int (nI ld), .int (nI gm), .ref (rA 38), .ref (rA 39), .ref (rA 40), .ref (rA 41), .ref (rA 42), .ref (rA 43), .ref (rA 44), .ref (rA 45), .int (nI my), .ref (rA 47)], ia (rA 16) (rK9 16) 155 sf, ia (rA 2) (rK9 2) 4 (fun i => nI (zs i)), ia (rA 3) (rK9 3) 28 (fun i => nI (kd i)), ia (rA 4) (rK9 4) 28 (fun i => nI (vx i)), ia (rA 5) (rK9 5) 28 (fun i => nI (rr i)), ia (rA 6) (rK9 6) 28 vv] sz)) 0 0 (va_A [oc ra 8 [.int (nI T), .int (nI Ac), .ref (rA 2), .ref (rA 3), .ref (rA 4), .ref (rA 5), .ref (rA 6), .ref (rA 7), .ref (rA 8), .ref (rA 9), .ref (rA 10), .ref (rA 11), .ref (rA 12), .ref (rA 13), .int ir, .ref (rA 15), .ref (rA 16), .ref (rA 17), .ref (rA 18), .int (nI md), .int (nI wd), .ref (rA 21), .ref (rA 22), .ref (rA 23), .int (nI mn), .ref (rA 25), .int (nI cb), .int mr, .ref (rA 28), .ref (rA 29), .ref (rA 30), .ref (rA 31), .ref (rA 32), .ref (rA 33), .ref (rA 34), .ref (rA 35), .int (nI ld), .int (nI gm), .ref (rA 38), .ref (rA 39), .ref (rA 40), .ref (rA 41), .ref (rA 42), .ref (rA 43), .ref (rA 44), .ref (rA 45), .int (nI my), .ref (rA 47)], ia (rA 16) (rK9 16) 155 sf, ia (rA 2) (rK9 2) 4 (fun i => nI (zs i)), ia (rA 3) (rK9 3) 28 (fun i => nI (kd i)), ia (rA 4) (rK9 4) 28 (fun i => nI (vx i)), ia (rA 5) (rK9 5) 28 (fun i => nI (rr i)), ia (rA 6) (rK9 6) 28 vv] sz) := by
  refine Met.ofW (cc := b_Ref_step) (maxL := 5) (ret := (some .boolean)) (by decide) rfl ?_
  intro p e0 s m args below meth c s₁ B hml hv
  obtain ⟨rfl, hsz, hP, hK, hD0, hn⟩ := hv
  have hx := B.exec
  have hb := B.bytes
  have hr := B.returns
  have hw := fun w (h : w ∈ wt) => atoms_spec (ws := w_Ref_step) B.pre w (List.mem_cons_of_mem _ h)
  have hown : s.vm.findClass R_Ref = some m.cls := findClass_of_methodNamed B.named
  have hlocks := B.notSynchronized
  subst hsz
  have hD1 := hD0.self (sz := s.heap.size)
  generalize hAe : va_A [oc ra 8 [.int (nI T), .int (nI Ac), .ref (rA 2), .ref (rA 3), .ref (rA 4), .ref (rA 5), .ref (rA 6), .ref (rA 7), .ref (rA 8), .ref (rA 9), .ref (rA 10), .ref (rA 11), .ref (rA 12), .ref (rA 13), .int ir, .ref (rA 15), .ref (rA 16), .ref (rA 17), .ref (rA 18), .int (nI md), .int (nI wd), .ref (rA 21), .ref (rA 22), .ref (rA 23), .int (nI mn), .ref (rA 25), .int (nI cb), .int mr, .ref (rA 28), .ref (rA 29), .ref (rA 30), .ref (rA 31), .ref (rA 32), .ref (rA 33), .ref (rA 34), .ref (rA 35), .int (nI ld), .int (nI gm), .ref (rA 38), .ref (rA 39), .ref (rA 40), .ref (rA 41), .ref (rA 42), .ref (rA 43), .ref (rA 44), .ref (rA 45), .int (nI my), .ref (rA 47)], ia (rA 16) (rK9 16) 155 sf, ia (rA 2) (rK9 2) 4 (fun i => nI (zs i)), ia (rA 3) (rK9 3) 28 (fun i => nI (kd i)), ia (rA 4) (rK9 4) 28 (fun i => nI (vx i)), ia (rA 5) (rK9 5) 28 (fun i => nI (rr i)), ia (rA 6) (rK9 6) 28 vv] s.heap.size = A at hD1 ⊢
  have hA : ∀ q : Nat, s.heap.size ≤ q → A q := fun q h => by rw [← hAe]; exact Or.inr h
  have hD : dd A [ra, (rA 16), (rA 2), (rA 3), (rA 4), (rA 5), (rA 6)] := dd_of hD1 rfl
  clear hAe hD0 hD1
  have hS : va_S A s.heap s.heap [] := va_S.rf
  replace hP : va_P (dC, dI) classes [oc ra 8 [.int (nI T), .int (nI Ac), .ref (rA 2), .ref (rA 3), .ref (rA 4), .ref (rA 5), .ref (rA 6), .ref (rA 7), .ref (rA 8), .ref (rA 9), .ref (rA 10), .ref (rA 11), .ref (rA 12), .ref (rA 13), .int ir, .ref (rA 15), .ref (rA 16), .ref (rA 17), .ref (rA 18), .int (nI md), .int (nI wd), .ref (rA 21), .ref (rA 22), .ref (rA 23), .int (nI mn), .ref (rA 25), .int (nI cb), .int mr, .ref (rA 28), .ref (rA 29), .ref (rA 30), .ref (rA 31), .ref (rA 32), .ref (rA 33), .ref (rA 34), .ref (rA 35), .int (nI ld), .int (nI gm), .ref (rA 38), .ref (rA 39), .ref (rA 40), .ref (rA 41), .ref (rA 42), .ref (rA 43), .ref (rA 44), .ref (rA 45), .int (nI my), .ref (rA 47)], ia (rA 16) (rK9 16) 155 sf, ia (rA 2) (rK9 2) 4 (fun i => nI (zs i)), ia (rA 3) (rK9 3) 28 (fun i => nI (kd i)), ia (rA 4) (rK9 4) 28 (fun i => nI (vx i)), ia (rA 5) (rK9 5) 28 (fun i => nI (rr i)), ia (rA 6) (rK9 6) 28 vv] s.heap := hP
  have hl := lv_entry ([.ref ra, .int (nI t), .int (nI cn)]) (n := 5) (Nat.le_of_ble_eq_true rfl)
  rw [lg_entry_eq]
  generalize (lg_sl ([.ref ra, .int (nI t), .int (nI cn)]) ++ List.replicate (5 - (lg_sl ([.ref ra, .int (nI t), .int (nI cn)])).length) Slot.unset).toArray = ls at hl ⊢
  replace hl : lv_has ls 5 [(0, .ref ra), (1, .int (nI t)), (2, .int (nI cn))] := hl
  refine lv_aload_n hx hb d_Ref_step_0 rfl (lv_at hl 0 rfl) ?_
  refine va_get (D := (dC, dI)) (ci := 8) (v := .ref (rA 16)) (C := R_Ref) (T := F_Ref) (N := 48) hx hb hw i_Ref hown hK hP 0 rfl rfl 16 (by decide) (hw _ m_915) (fun _ h9 => h9) rfl d_Ref_step_1 ?_
  refine lv_iload_n hx hb d_Ref_step_4 rfl (lv_at hl 1 rfl) ?_
  refine va_iald (D := (dC, dI)) hx hb hK hP 1 0 rfl rfl (i := nI t) (pk_in t 155 (by omega)) d_Ref_step_5 ?_
  refine tp_i (y := sf t) (by rw [show (nI t : Int32).toNatClampNeg = t from pk_cl t]) ?_
  refine tp_i (y := nI p9) hp9 ?_
  refine lv_aload_n hx hb d_Ref_step_6 rfl (lv_at hl 0 rfl) ?_
  refine va_get (D := (dC, dI)) (ci := 8) (v := .ref (rA 2)) (C := R_Ref) (T := F_Ref) (N := 48) hx hb hw i_Ref hown hK hP 0 rfl rfl 2 (by decide) (hw _ m_901) (fun _ h9 => h9) rfl d_Ref_step_7 ?_
  refine lv_iload_n hx hb d_Ref_step_10 rfl (lv_at hl 1 rfl) ?_
  refine va_iald (D := (dC, dI)) hx hb hK hP 2 1 rfl rfl (i := nI t) (pk_in t 4 (by omega)) d_Ref_step_11 ?_
  refine tp_i (y := nI (zs t)) (by rw [show (nI t : Int32).toNatClampNeg = t from pk_cl t]) ?_
  refine lv_icmp_ge (tgt := 19) hx hb d_Ref_step_12 (by decide) (fun c9 => absurd c9 (nI_ge hmr (by omega))) (fun c9 => ?_)
  refine tp_pc (pc' := 15) (by rfl) ?_
  refine lv_iconst (v := 1) hx hb d_Ref_step_15 (by decide) ?_
  refine lv_goto (tgt := 20) hx hb d_Ref_step_16 (by decide) ?_
  refine tp_pc (pc' := 20) (by rfl) ?_
  refine lv_istore_n (lv' := [(3, .int 1), (0, .ref ra), (1, .int (nI t)), (2, .int (nI cn))]) hx hb d_Ref_step_20 rfl hl (by decide) rfl ?_
  clear hl ls
  intro ls hl
  refine lv_bipush (v := 7) hx hb d_Ref_step_21 (by decide) ?_
  refine lv_iload_n hx hb d_Ref_step_23 rfl (lv_at hl 2 rfl) ?_
  refine lv_imul hx hb d_Ref_step_24 ?_
  refine tp_i (y := nI (7 * t)) (by exact pk_mul 7 t) ?_
  refine lv_aload_n hx hb d_Ref_step_25 rfl (lv_at hl 1 rfl) ?_
  refine va_get (D := (dC, dI)) (ci := 8) (v := .ref (rA 16)) (C := R_Ref) (T := F_Ref) (N := 48) hx hb hw i_Ref hown hK hP 0 rfl rfl 16 (by decide) (hw _ m_915) (fun _ h9 => h9) rfl d_Ref_step_26 ?_
  refine lv_iload_n hx hb d_Ref_step_29 rfl (lv_at hl 2 rfl) ?_
  refine va_iald (D := (dC, dI)) hx hb hK hP 1 0 rfl rfl (i := nI t) (pk_in t 155 (by omega)) d_Ref_step_30 ?_
  refine tp_i (y := sf t) (by rw [show (nI t : Int32).toNatClampNeg = t from pk_cl t]) ?_
  refine tp_i (y := nI p9) hp9 ?_
  refine lv_iadd hx hb d_Ref_step_31 ?_
  refine tp_i (y := nI (7 * t + p9)) (by exact nI_add (7 * t) p9) ?_
  refine lv_istore (lv' := [(4, .int (nI (7 * t + p9))), (3, .int 1), (0, .ref ra), (1, .int (nI t)), (2, .int (nI cn))]) hx hb d_Ref_step_32 hl (by decide) rfl ?_
  clear hl ls
  intro ls hl
  refine lv_iload_n hx hb d_Ref_step_34 rfl (lv_at hl 1 rfl) ?_
  refine lv_if_eq (tgt := 175) hx hb d_Ref_step_35 (by decide) (fun c_1 => absurd c_1 (by decide)) (fun c_1 => ?_)
  refine tp_pc (pc' := 38) (by rfl) ?_
  refine lv_aload_n hx hb d_Ref_step_38 rfl (lv_at hl 2 rfl) ?_
  refine va_get (D := (dC, dI)) (ci := 8) (v := .ref (rA 3)) (C := R_Ref) (T := F_Ref) (N := 48) hx hb hw i_Ref hown hK hP 0 rfl rfl 3 (by decide) (hw _ m_902) (fun _ h9 => h9) rfl d_Ref_step_39 ?_
  refine lv_iload hx hb d_Ref_step_42 (lv_at hl 0 rfl) ?_
  refine va_iald (D := (dC, dI)) hx hb hK hP 3 2 rfl rfl (i := nI (7 * t + p9)) (pk_in (7 * t + p9) 28 (by omega)) d_Ref_step_44 ?_
  refine tp_i (y := nI (kd (7 * t + p9))) (by rw [show (nI (7 * t + p9) : Int32).toNatClampNeg = 7 * t + p9 from pk_cl (7 * t + p9)]) ?_
  refine lv_iconst (v := 5) hx hb d_Ref_step_45 (by decide) ?_
  refine lv_icmp_ne (tgt := 175) hx hb d_Ref_step_46 (by decide) (fun c9 => absurd ((nI_eq (a := kd (7 * t + p9)) (b := 5) (by omega) (by omega)).mpr hk5) c9) (fun c9 => ?_)
  refine tp_pc (pc' := 49) (by rfl) ?_
  refine lv_iload_n hx hb d_Ref_step_49 rfl (lv_at hl 4 rfl) ?_
  refine lv_if_eq (tgt := 83) hx hb d_Ref_step_50 (by decide) (fun c9 => ?_) (fun c9 => absurd ((nI_eq (a := cn) (b := 0) (by omega) (by omega)).mpr hc0) c9)
  refine tp_pc (pc' := 83) (by rfl) ?_
  refine lv_aload_n hx hb d_Ref_step_83 rfl (lv_at hl 2 rfl) ?_
  refine va_get (D := (dC, dI)) (ci := 8) (v := .ref (rA 16)) (C := R_Ref) (T := F_Ref) (N := 48) hx hb hw i_Ref hown hK hP 0 rfl rfl 16 (by decide) (hw _ m_915) (fun _ h9 => h9) rfl d_Ref_step_84 ?_
  refine lv_iload_n hx hb d_Ref_step_87 rfl (lv_at hl 3 rfl) ?_
  refine lv_dup2_11 hx hb d_Ref_step_88 rfl rfl ?_
  refine va_iald (D := (dC, dI)) hx hb hK hP 1 0 rfl rfl (i := nI t) (pk_in t 155 (by omega)) d_Ref_step_89 ?_
  refine tp_i (y := sf t) (by rw [show (nI t : Int32).toNatClampNeg = t from pk_cl t]) ?_
  refine tp_i (y := nI p9) hp9 ?_
  refine lv_iconst (v := 1) hx hb d_Ref_step_90 (by decide) ?_
  refine lv_iadd hx hb d_Ref_step_91 ?_
  refine tp_i (y := nI (p9 + 1)) (by exact nI_add p9 1) ?_
  refine va_iast (D := (dC, dI)) hx hb hK hP (dd_D hD rfl) hS 1 0 rfl rfl (i := nI t) (x := nI (p9 + 1)) (pk_in t 155 (by omega)) d_Ref_step_92 ?_
  clear hP hS
  intro H locs hP _ hS
  rw [show (nI t : Int32).toNatClampNeg = t from pk_cl t] at hP
  replace hP : va_P (dC, dI) classes [oc ra 8 [.int (nI T), .int (nI Ac), .ref (rA 2), .ref (rA 3), .ref (rA 4), .ref (rA 5), .ref (rA 6), .ref (rA 7), .ref (rA 8), .ref (rA 9), .ref (rA 10), .ref (rA 11), .ref (rA 12), .ref (rA 13), .int ir, .ref (rA 15), .ref (rA 16), .ref (rA 17), .ref (rA 18), .int (nI md), .int (nI wd), .ref (rA 21), .ref (rA 22), .ref (rA 23), .int (nI mn), .ref (rA 25), .int (nI cb), .int mr, .ref (rA 28), .ref (rA 29), .ref (rA 30), .ref (rA 31), .ref (rA 32), .ref (rA 33), .ref (rA 34), .ref (rA 35), .int (nI ld), .int (nI gm), .ref (rA 38), .ref (rA 39), .ref (rA 40), .ref (rA 41), .ref (rA 42), .ref (rA 43), .ref (rA 44), .ref (rA 45), .int (nI my), .ref (rA 47)], ia (rA 16) (rK9 16) 155 (upd sf t (nI (p9 + 1))), ia (rA 2) (rK9 2) 4 (fun i => nI (zs i)), ia (rA 3) (rK9 3) 28 (fun i => nI (kd i)), ia (rA 4) (rK9 4) 28 (fun i => nI (vx i)), ia (rA 5) (rK9 5) 28 (fun i => nI (rr i)), ia (rA 6) (rK9 6) 28 vv] H := hP
  refine tp_pc (pc' := 93) (by rfl) ?_
  refine lv_aload_n hx hb d_Ref_step_93 rfl (lv_at hl 2 rfl) ?_
  refine va_get (D := (dC, dI)) (ci := 8) (v := .ref (rA 16)) (C := R_Ref) (T := F_Ref) (N := 48) hx hb hw i_Ref hown hK hP 0 rfl rfl 16 (by decide) (hw _ m_915) (fun _ h9 => h9) rfl d_Ref_step_94 ?_
  refine lv_iconst (v := 4) hx hb d_Ref_step_97 (by decide) ?_
  refine lv_iconst (v := 2) hx hb d_Ref_step_98 (by decide) ?_
  refine lv_iload_n hx hb d_Ref_step_99 rfl (lv_at hl 3 rfl) ?_
  refine lv_imul hx hb d_Ref_step_100 ?_
  refine tp_i (y := nI (2 * t)) (by exact pk_mul 2 t) ?_
  refine lv_iadd hx hb d_Ref_step_101 ?_
  refine tp_i (y := nI (4 + (2 * t))) (by exact nI_add 4 (2 * t)) ?_
  refine lv_aload_n hx hb d_Ref_step_102 rfl (lv_at hl 2 rfl) ?_
  refine va_get (D := (dC, dI)) (ci := 8) (v := .ref (rA 5)) (C := R_Ref) (T := F_Ref) (N := 48) hx hb hw i_Ref hown hK hP 0 rfl rfl 5 (by decide) (hw _ m_904) (fun _ h9 => h9) rfl d_Ref_step_103 ?_
  refine lv_iload hx hb d_Ref_step_106 (lv_at hl 0 rfl) ?_
  refine va_iald (D := (dC, dI)) hx hb hK hP 5 4 rfl rfl (i := nI (7 * t + p9)) (pk_in (7 * t + p9) 28 (by omega)) d_Ref_step_108 ?_
  refine tp_i (y := nI (rr (7 * t + p9))) (by rw [show (nI (7 * t + p9) : Int32).toNatClampNeg = 7 * t + p9 from pk_cl (7 * t + p9)]) ?_
  refine lv_iadd hx hb d_Ref_step_109 ?_
  refine tp_i (y := nI (4 + (2 * t) + (rr (7 * t + p9)))) (by exact nI_add (4 + (2 * t)) (rr (7 * t + p9))) ?_
  refine va_iald (D := (dC, dI)) hx hb hK hP 1 0 rfl rfl (i := nI (4 + (2 * t) + (rr (7 * t + p9)))) (pk_in (4 + (2 * t) + (rr (7 * t + p9))) 155 (by omega)) d_Ref_step_110 ?_
  refine tp_i (y := (upd sf t (nI (p9 + 1))) (4 + (2 * t) + (rr (7 * t + p9)))) (by rw [show (nI (4 + (2 * t) + (rr (7 * t + p9))) : Int32).toNatClampNeg = 4 + (2 * t) + (rr (7 * t + p9)) from pk_cl (4 + (2 * t) + (rr (7 * t + p9)))]) ?_
  refine tp_i (y := sf (4 + 2 * t + rr (7 * t + p9))) (pk_un (by omega)) ?_
  refine lv_aload_n hx hb d_Ref_step_111 rfl (lv_at hl 2 rfl) ?_
  refine va_get (D := (dC, dI)) (ci := 8) (v := .ref (rA 6)) (C := R_Ref) (T := F_Ref) (N := 48) hx hb hw i_Ref hown hK hP 0 rfl rfl 6 (by decide) (hw _ m_905) (fun _ h9 => h9) rfl d_Ref_step_112 ?_
  refine lv_iload hx hb d_Ref_step_115 (lv_at hl 0 rfl) ?_
  refine va_iald (D := (dC, dI)) hx hb hK hP 6 5 rfl rfl (i := nI (7 * t + p9)) (pk_in (7 * t + p9) 28 (by omega)) d_Ref_step_117 ?_
  refine tp_i (y := vv (7 * t + p9)) (by rw [show (nI (7 * t + p9) : Int32).toNatClampNeg = 7 * t + p9 from pk_cl (7 * t + p9)]) ?_
  refine lv_icmp_eq (tgt := 173) hx hb d_Ref_step_118 (by decide) (fun c9 => ?_) (fun c9 => absurd hcd c9)
  refine tp_pc (pc' := 173) (by rfl) ?_
  refine lv_iconst (v := 1) hx hb d_Ref_step_173 (by decide) ?_
  obtain ⟨hP9, hD9, -⟩ := cut3 (wc := [oc ra 8 [.int (nI T), .int (nI Ac), .ref (rA 2), .ref (rA 3), .ref (rA 4), .ref (rA 5), .ref (rA 6), .ref (rA 7), .ref (rA 8), .ref (rA 9), .ref (rA 10), .ref (rA 11), .ref (rA 12), .ref (rA 13), .int ir, .ref (rA 15), .ref (rA 16), .ref (rA 17), .ref (rA 18), .int (nI md), .int (nI wd), .ref (rA 21), .ref (rA 22), .ref (rA 23), .int (nI mn), .ref (rA 25), .int (nI cb), .int mr, .ref (rA 28), .ref (rA 29), .ref (rA 30), .ref (rA 31), .ref (rA 32), .ref (rA 33), .ref (rA 34), .ref (rA 35), .int (nI ld), .int (nI gm), .ref (rA 38), .ref (rA 39), .ref (rA 40), .ref (rA 41), .ref (rA 42), .ref (rA 43), .ref (rA 44), .ref (rA 45), .int (nI my), .ref (rA 47)], ia (rA 16) (rK9 16) 155 (upd sf t (nI (p9 + 1))), ia (rA 2) (rK9 2) 4 (fun i => nI (zs i)), ia (rA 3) (rK9 3) 28 (fun i => nI (kd i)), ia (rA 4) (rK9 4) 28 (fun i => nI (vx i)), ia (rA 5) (rK9 5) 28 (fun i => nI (rr i)), ia (rA 6) (rK9 6) 28 vv]) hP hD rfl hS hA [0, 1, 2, 3, 4, 5, 6] (by decide +kernel) rfl
  have hK9 := hK.sub (tys' := []) [] rfl
  refine W.widen (k := 0) (n := 0) (by exact Nat.le_of_ble_eq_true rfl) (by exact Nat.le_of_ble_eq_true rfl) ?_
  exact W.zret (v := 1) (ty := .boolean) hx hb hr (by decide) (fun t9 ht9 hW => ⟨⟨1, (), rfl, rfl, by rw [ht9]; exact hP9, va_K.moved hW.alike hK9, hD9⟩, hS.F ht9⟩) hS.2.2 d_Ref_step_174
set_option maxHeartbeats 4000000 in
set_option maxRecDepth 100000 in
theorem gen_Ref_step_skip_n (l : Launch) (dC : Nat → ClassId) (dI : Nat → Nat → Nat) (ra : Nat) (rA : Nat → Nat) (rK9 : Nat → ClassId) (T Ac md wd mn cb ld gm my : Nat) (ir mr : Int32) (t p9 cn : Nat) (sf vv : Nat → Int32) (zs kd vx rr : Nat → Nat) (ht : t < 4) (hc9 : cn < 9) (hm4 : md < 4) (hp9 : sf t = nI p9) (hp7 : p9 ≤ 7) (hz7 : zs t ≤ 7) (hmr : p9 < zs t) (hk6 : kd (7 * t + p9) < 6) (hk5 : kd (7 * t + p9) = 5) (hc0 : cn = 0) (hrr : rr (7 * t + p9) < 2) (hvx : vx (7 * t + p9) < 4) (hcd : ¬ sf (4 + 2 * t + rr (7 * t + p9)) = vv (7 * t + p9)) (sz : Nat) : Met l y_Ref_step w_Ref_step ({ frames := 0, cells := 0, slots := 0, locals := 0 }) (va_Pc [.ref ra, .int (nI t), .int (nI cn)] (fun U => U.heap.size = sz ∧ va_P (dC, dI) classes [oc ra 8 [.int (nI T), .int (nI Ac), .ref (rA 2), .ref (rA 3), .ref (rA 4), .ref (rA 5), .ref (rA 6), .ref (rA 7), .ref (rA 8), .ref (rA 9), .ref (rA 10), .ref (rA 11), .ref (rA 12), .ref (rA 13), .int ir, .ref (rA 15), .ref (rA 16), .ref (rA 17), .ref (rA 18), .int (nI md), .int (nI wd), .ref (rA 21), .ref (rA 22), .ref (rA 23), .int (nI mn), .ref (rA 25), .int (nI cb), .int mr, .ref (rA 28), .ref (rA 29), .ref (rA 30), .ref (rA 31), .ref (rA 32), .ref (rA 33), .ref (rA 34), .ref (rA 35), .int (nI ld), .int (nI gm), .ref (rA 38), .ref (rA 39), .ref (rA 40), .ref (rA 41), .ref (rA 42), .ref (rA 43), .ref (rA 44), .ref (rA 45), .int (nI my), .ref (rA 47)], ia (rA 16) (rK9 16) 155 sf, ia (rA 2) (rK9 2) 4 (fun i => nI (zs i)), ia (rA 3) (rK9 3) 28 (fun i => nI (kd i)), ia (rA 4) (rK9 4) 28 (fun i => nI (vx i)), ia (rA 5) (rK9 5) 28 (fun i => nI (rr i)), ia (rA 6) (rK9 6) 28 vv] U.heap ∧ va_K (dC, dI) classes [((rK9 16), .int), ((rK9 2), .int), ((rK9 3), .int), ((rK9 4), .int), ((rK9 5), .int), ((rK9 6), .int)] U ∧ va_D (fun _ => True) [oc ra 8 [.int (nI T), .int (nI Ac), .ref (rA 2), .ref (rA 3), .ref (rA 4), .ref (rA 5), .ref (rA 6), .ref (rA 7), .ref (rA 8), .ref (rA 9), .ref (rA 10), .ref (rA 11), .ref (rA 12), .ref (rA 13), .int ir, .ref (rA 15), .ref (rA 16), .ref (rA 17), .ref (rA 18), .int (nI md), .int (nI wd), .ref (rA 21), .ref (rA 22), .ref (rA 23), .int (nI mn), .ref (rA 25), .int (nI cb), .int mr, .ref (rA 28), .ref (rA 29), .ref (rA 30), .ref (rA 31), .ref (rA 32), .ref (rA 33), .ref (rA 34), .ref (rA 35), .int (nI ld), .int (nI gm), .ref (rA 38), .ref (rA 39), .ref (rA 40), .ref (rA 41), .ref (rA 42), .ref (rA 43), .ref (rA 44), .ref (rA 45), .int (nI my), .ref (rA 47)], ia (rA 16) (rK9 16) 155 sf, ia (rA 2) (rK9 2) 4 (fun i => nI (zs i)), ia (rA 3) (rK9 3) 28 (fun i => nI (kd i)), ia (rA 4) (rK9 4) 28 (fun i => nI (vx i)), ia (rA 5) (rK9 5) 28 (fun i => nI (rr i)), ia (rA 6) (rK9 6) 28 vv] ∧ nw U)) (va_Qi (fun (r : Int32) (_ : Unit) => r = 1) (fun _ t9 => va_P (dC, dI) classes [oc ra 8 [.int (nI T), .int (nI Ac), .ref (rA 2), .ref (rA 3), .ref (rA 4), .ref (rA 5), .ref (rA 6), .ref (rA 7), .ref (rA 8), .ref (rA 9), .ref (rA 10), .ref (rA 11), .ref (rA 12), .ref (rA 13), .int ir, .ref (rA 15), .ref (rA 16), .ref (rA 17), .ref (rA 18), .int (nI md), .int (nI wd), .ref (rA 21), .ref (rA 22), .ref (rA 23), .int (nI mn), .ref (rA 25), .int (nI cb), .int mr, .ref (rA 28), .ref (rA 29), .ref (rA 30), .ref (rA 31), .ref (rA 32), .ref (rA 33), .ref (rA 34), .ref (rA 35), .int (nI ld), .int (nI gm), .ref (rA 38), .ref (rA 39), .ref (rA 40), .ref (rA 41), .ref (rA 42), .ref (rA 43), .ref (rA 44), .ref (rA 45), .int (nI my), .ref (rA 47)], ia (rA 16) (rK9 16) 155 (upd (upd sf t (nI (p9 + 1))) t (nI (if zs t < p9 + 1 + vx (7 * t + p9) then zs t else p9 + 1 + vx (7 * t + p9)))), ia (rA 2) (rK9 2) 4 (fun i => nI (zs i)), ia (rA 3) (rK9 3) 28 (fun i => nI (kd i)), ia (rA 4) (rK9 4) 28 (fun i => nI (vx i)), ia (rA 5) (rK9 5) 28 (fun i => nI (rr i)), ia (rA 6) (rK9 6) 28 vv] t9.heap ∧ va_K (dC, dI) classes [] t9 ∧ va_D (va_A [oc ra 8 [.int (nI T), .int (nI Ac), .ref (rA 2), .ref (rA 3), .ref (rA 4), .ref (rA 5), .ref (rA 6), .ref (rA 7), .ref (rA 8), .ref (rA 9), .ref (rA 10), .ref (rA 11), .ref (rA 12), .ref (rA 13), .int ir, .ref (rA 15), .ref (rA 16), .ref (rA 17), .ref (rA 18), .int (nI md), .int (nI wd), .ref (rA 21), .ref (rA 22), .ref (rA 23), .int (nI mn), .ref (rA 25), .int (nI cb), .int mr, .ref (rA 28), .ref (rA 29), .ref (rA 30), .ref (rA 31), .ref (rA 32), .ref (rA 33), .ref (rA 34), .ref (rA 35), .int (nI ld), .int (nI gm), .ref (rA 38), .ref (rA 39), .ref (rA 40), .ref (rA 41), .ref (rA 42), .ref (rA 43), .ref (rA 44), .ref (rA 45), .int (nI my), .ref (rA 47)], ia (rA 16) (rK9 16) 155 sf, ia (rA 2) (rK9 2) 4 (fun i => nI (zs i)), ia (rA 3) (rK9 3) 28 (fun i => nI (kd i)), ia (rA 4) (rK9 4) 28 (fun i => nI (vx i)), ia (rA 5) (rK9 5) 28 (fun i => nI (rr i)), ia (rA 6) (rK9 6) 28 vv] sz) [oc ra 8 [.int (nI T), .int (nI Ac), .ref (rA 2), .ref (rA 3), .ref (rA 4), .ref (rA 5), .ref (rA 6), .ref (rA 7), .ref (rA 8), .ref (rA 9), .ref (rA 10), .ref (rA 11), .ref (rA 12), .ref (rA 13), .int ir, .ref (rA 15), .ref (rA 16), .ref (rA 17), .ref (rA 18), .int (nI md), .int (nI wd), .ref (rA 21), .ref (rA 22), .ref (rA 23), .int (nI mn), .ref (rA 25), .int (nI cb), .int mr, .ref (rA 28), .ref (rA 29), .ref (rA 30), .ref (rA 31), .ref (rA 32), .ref (rA 33), .ref (rA 34), .ref (rA 35), .int (nI ld), .int (nI gm), .ref (rA 38), .ref (rA 39), .ref (rA 40), .ref (rA 41), .ref (rA 42), .ref (rA 43), .ref (rA 44), .ref (rA 45), .int (nI my), .ref (rA 47)], ia (rA 16) (rK9 16) 155 (upd (upd sf t (nI (p9 + 1))) t (nI (if zs t < p9 + 1 + vx (7 * t + p9) then zs t else p9 + 1 + vx (7 * t + p9)))), ia (rA 2) (rK9 2) 4 (fun i => nI (zs i)), ia (rA 3) (rK9 3) 28 (fun i => nI (kd i)), ia (rA 4) (rK9 4) 28 (fun i => nI (vx i)), ia (rA 5) (rK9 5) 28 (fun i => nI (rr i)), ia (rA 6) (rK9 6) 28 vv]) (va_A [oc ra 8 [.int (nI T), .int (nI Ac), .ref (rA 2), .ref (rA 3), .ref (rA 4), .ref (rA 5), .ref (rA 6), .ref (rA 7), .ref (rA 8), .ref (rA 9), .ref (rA 10), .ref (rA 11), .ref (rA 12), .ref (rA 13), .int ir, .ref (rA 15), .ref (rA 16), .ref (rA 17), .ref (rA 18), .int (nI md), .int (nI wd), .ref (rA 21), .ref (rA 22), .ref (rA 23), .int (nI mn), .ref (rA 25), .int (nI cb), .int mr, .ref (rA 28), .ref (rA 29), .ref (rA 30), .ref (rA 31), .ref (rA 32), .ref (rA 33), .ref (rA 34), .ref (rA 35), .int (nI ld), .int (nI gm), .ref (rA 38), .ref (rA 39), .ref (rA 40), .ref (rA 41), .ref (rA 42), .ref (rA 43), .ref (rA 44), .ref (rA 45), .int (nI my), .ref (rA 47)], ia (rA 16) (rK9 16) 155 sf, ia (rA 2) (rK9 2) 4 (fun i => nI (zs i)), ia (rA 3) (rK9 3) 28 (fun i => nI (kd i)), ia (rA 4) (rK9 4) 28 (fun i => nI (vx i)), ia (rA 5) (rK9 5) 28 (fun i => nI (rr i)), ia (rA 6) (rK9 6) 28 vv] sz)) 0 0 (va_A [oc ra 8 [.int (nI T), .int (nI Ac), .ref (rA 2), .ref (rA 3), .ref (rA 4), .ref (rA 5), .ref (rA 6), .ref (rA 7), .ref (rA 8), .ref (rA 9), .ref (rA 10), .ref (rA 11), .ref (rA 12), .ref (rA 13), .int ir, .ref (rA 15), .ref (rA 16), .ref (rA 17), .ref (rA 18), .int (nI md), .int (nI wd), .ref (rA 21), .ref (rA 22), .ref (rA 23), .int (nI mn), .ref (rA 25), .int (nI cb), .int mr, .ref (rA 28), .ref (rA 29), .ref (rA 30), .ref (rA 31), .ref (rA 32), .ref (rA 33), .ref (rA 34), .ref (rA 35), .int (nI ld), .int (nI gm), .ref (rA 38), .ref (rA 39), .ref (rA 40), .ref (rA 41), .ref (rA 42), .ref (rA 43), .ref (rA 44), .ref (rA 45), .int (nI my), .ref (rA 47)], ia (rA 16) (rK9 16) 155 sf, ia (rA 2) (rK9 2) 4 (fun i => nI (zs i)), ia (rA 3) (rK9 3) 28 (fun i => nI (kd i)), ia (rA 4) (rK9 4) 28 (fun i => nI (vx i)), ia (rA 5) (rK9 5) 28 (fun i => nI (rr i)), ia (rA 6) (rK9 6) 28 vv] sz) := by
  refine Met.ofW (cc := b_Ref_step) (maxL := 5) (ret := (some .boolean)) (by decide) rfl ?_
  intro p e0 s m args below meth c s₁ B hml hv
  obtain ⟨rfl, hsz, hP, hK, hD0, hn⟩ := hv
  have hx := B.exec
  have hb := B.bytes
  have hr := B.returns
  have hw := fun w (h : w ∈ wt) => atoms_spec (ws := w_Ref_step) B.pre w (List.mem_cons_of_mem _ h)
  have hown : s.vm.findClass R_Ref = some m.cls := findClass_of_methodNamed B.named
  have hlocks := B.notSynchronized
  subst hsz
  have hD1 := hD0.self (sz := s.heap.size)
  generalize hAe : va_A [oc ra 8 [.int (nI T), .int (nI Ac), .ref (rA 2), .ref (rA 3), .ref (rA 4), .ref (rA 5), .ref (rA 6), .ref (rA 7), .ref (rA 8), .ref (rA 9), .ref (rA 10), .ref (rA 11), .ref (rA 12), .ref (rA 13), .int ir, .ref (rA 15), .ref (rA 16), .ref (rA 17), .ref (rA 18), .int (nI md), .int (nI wd), .ref (rA 21), .ref (rA 22), .ref (rA 23), .int (nI mn), .ref (rA 25), .int (nI cb), .int mr, .ref (rA 28), .ref (rA 29), .ref (rA 30), .ref (rA 31), .ref (rA 32), .ref (rA 33), .ref (rA 34), .ref (rA 35), .int (nI ld), .int (nI gm), .ref (rA 38), .ref (rA 39), .ref (rA 40), .ref (rA 41), .ref (rA 42), .ref (rA 43), .ref (rA 44), .ref (rA 45), .int (nI my), .ref (rA 47)], ia (rA 16) (rK9 16) 155 sf, ia (rA 2) (rK9 2) 4 (fun i => nI (zs i)), ia (rA 3) (rK9 3) 28 (fun i => nI (kd i)), ia (rA 4) (rK9 4) 28 (fun i => nI (vx i)), ia (rA 5) (rK9 5) 28 (fun i => nI (rr i)), ia (rA 6) (rK9 6) 28 vv] s.heap.size = A at hD1 ⊢
  have hA : ∀ q : Nat, s.heap.size ≤ q → A q := fun q h => by rw [← hAe]; exact Or.inr h
  have hD : dd A [ra, (rA 16), (rA 2), (rA 3), (rA 4), (rA 5), (rA 6)] := dd_of hD1 rfl
  clear hAe hD0 hD1
  have hS : va_S A s.heap s.heap [] := va_S.rf
  replace hP : va_P (dC, dI) classes [oc ra 8 [.int (nI T), .int (nI Ac), .ref (rA 2), .ref (rA 3), .ref (rA 4), .ref (rA 5), .ref (rA 6), .ref (rA 7), .ref (rA 8), .ref (rA 9), .ref (rA 10), .ref (rA 11), .ref (rA 12), .ref (rA 13), .int ir, .ref (rA 15), .ref (rA 16), .ref (rA 17), .ref (rA 18), .int (nI md), .int (nI wd), .ref (rA 21), .ref (rA 22), .ref (rA 23), .int (nI mn), .ref (rA 25), .int (nI cb), .int mr, .ref (rA 28), .ref (rA 29), .ref (rA 30), .ref (rA 31), .ref (rA 32), .ref (rA 33), .ref (rA 34), .ref (rA 35), .int (nI ld), .int (nI gm), .ref (rA 38), .ref (rA 39), .ref (rA 40), .ref (rA 41), .ref (rA 42), .ref (rA 43), .ref (rA 44), .ref (rA 45), .int (nI my), .ref (rA 47)], ia (rA 16) (rK9 16) 155 sf, ia (rA 2) (rK9 2) 4 (fun i => nI (zs i)), ia (rA 3) (rK9 3) 28 (fun i => nI (kd i)), ia (rA 4) (rK9 4) 28 (fun i => nI (vx i)), ia (rA 5) (rK9 5) 28 (fun i => nI (rr i)), ia (rA 6) (rK9 6) 28 vv] s.heap := hP
  have hl := lv_entry ([.ref ra, .int (nI t), .int (nI cn)]) (n := 5) (Nat.le_of_ble_eq_true rfl)
  rw [lg_entry_eq]
  generalize (lg_sl ([.ref ra, .int (nI t), .int (nI cn)]) ++ List.replicate (5 - (lg_sl ([.ref ra, .int (nI t), .int (nI cn)])).length) Slot.unset).toArray = ls at hl ⊢
  replace hl : lv_has ls 5 [(0, .ref ra), (1, .int (nI t)), (2, .int (nI cn))] := hl
  refine lv_aload_n hx hb d_Ref_step_0 rfl (lv_at hl 0 rfl) ?_
  refine va_get (D := (dC, dI)) (ci := 8) (v := .ref (rA 16)) (C := R_Ref) (T := F_Ref) (N := 48) hx hb hw i_Ref hown hK hP 0 rfl rfl 16 (by decide) (hw _ m_915) (fun _ h9 => h9) rfl d_Ref_step_1 ?_
  refine lv_iload_n hx hb d_Ref_step_4 rfl (lv_at hl 1 rfl) ?_
  refine va_iald (D := (dC, dI)) hx hb hK hP 1 0 rfl rfl (i := nI t) (pk_in t 155 (by omega)) d_Ref_step_5 ?_
  refine tp_i (y := sf t) (by rw [show (nI t : Int32).toNatClampNeg = t from pk_cl t]) ?_
  refine tp_i (y := nI p9) hp9 ?_
  refine lv_aload_n hx hb d_Ref_step_6 rfl (lv_at hl 0 rfl) ?_
  refine va_get (D := (dC, dI)) (ci := 8) (v := .ref (rA 2)) (C := R_Ref) (T := F_Ref) (N := 48) hx hb hw i_Ref hown hK hP 0 rfl rfl 2 (by decide) (hw _ m_901) (fun _ h9 => h9) rfl d_Ref_step_7 ?_
  refine lv_iload_n hx hb d_Ref_step_10 rfl (lv_at hl 1 rfl) ?_
  refine va_iald (D := (dC, dI)) hx hb hK hP 2 1 rfl rfl (i := nI t) (pk_in t 4 (by omega)) d_Ref_step_11 ?_
  refine tp_i (y := nI (zs t)) (by rw [show (nI t : Int32).toNatClampNeg = t from pk_cl t]) ?_
  refine lv_icmp_ge (tgt := 19) hx hb d_Ref_step_12 (by decide) (fun c9 => absurd c9 (nI_ge hmr (by omega))) (fun c9 => ?_)
  refine tp_pc (pc' := 15) (by rfl) ?_
  refine lv_iconst (v := 1) hx hb d_Ref_step_15 (by decide) ?_
  refine lv_goto (tgt := 20) hx hb d_Ref_step_16 (by decide) ?_
  refine tp_pc (pc' := 20) (by rfl) ?_
  refine lv_istore_n (lv' := [(3, .int 1), (0, .ref ra), (1, .int (nI t)), (2, .int (nI cn))]) hx hb d_Ref_step_20 rfl hl (by decide) rfl ?_
  clear hl ls
  intro ls hl
  refine lv_bipush (v := 7) hx hb d_Ref_step_21 (by decide) ?_
  refine lv_iload_n hx hb d_Ref_step_23 rfl (lv_at hl 2 rfl) ?_
  refine lv_imul hx hb d_Ref_step_24 ?_
  refine tp_i (y := nI (7 * t)) (by exact pk_mul 7 t) ?_
  refine lv_aload_n hx hb d_Ref_step_25 rfl (lv_at hl 1 rfl) ?_
  refine va_get (D := (dC, dI)) (ci := 8) (v := .ref (rA 16)) (C := R_Ref) (T := F_Ref) (N := 48) hx hb hw i_Ref hown hK hP 0 rfl rfl 16 (by decide) (hw _ m_915) (fun _ h9 => h9) rfl d_Ref_step_26 ?_
  refine lv_iload_n hx hb d_Ref_step_29 rfl (lv_at hl 2 rfl) ?_
  refine va_iald (D := (dC, dI)) hx hb hK hP 1 0 rfl rfl (i := nI t) (pk_in t 155 (by omega)) d_Ref_step_30 ?_
  refine tp_i (y := sf t) (by rw [show (nI t : Int32).toNatClampNeg = t from pk_cl t]) ?_
  refine tp_i (y := nI p9) hp9 ?_
  refine lv_iadd hx hb d_Ref_step_31 ?_
  refine tp_i (y := nI (7 * t + p9)) (by exact nI_add (7 * t) p9) ?_
  refine lv_istore (lv' := [(4, .int (nI (7 * t + p9))), (3, .int 1), (0, .ref ra), (1, .int (nI t)), (2, .int (nI cn))]) hx hb d_Ref_step_32 hl (by decide) rfl ?_
  clear hl ls
  intro ls hl
  refine lv_iload_n hx hb d_Ref_step_34 rfl (lv_at hl 1 rfl) ?_
  refine lv_if_eq (tgt := 175) hx hb d_Ref_step_35 (by decide) (fun c_1 => absurd c_1 (by decide)) (fun c_1 => ?_)
  refine tp_pc (pc' := 38) (by rfl) ?_
  refine lv_aload_n hx hb d_Ref_step_38 rfl (lv_at hl 2 rfl) ?_
  refine va_get (D := (dC, dI)) (ci := 8) (v := .ref (rA 3)) (C := R_Ref) (T := F_Ref) (N := 48) hx hb hw i_Ref hown hK hP 0 rfl rfl 3 (by decide) (hw _ m_902) (fun _ h9 => h9) rfl d_Ref_step_39 ?_
  refine lv_iload hx hb d_Ref_step_42 (lv_at hl 0 rfl) ?_
  refine va_iald (D := (dC, dI)) hx hb hK hP 3 2 rfl rfl (i := nI (7 * t + p9)) (pk_in (7 * t + p9) 28 (by omega)) d_Ref_step_44 ?_
  refine tp_i (y := nI (kd (7 * t + p9))) (by rw [show (nI (7 * t + p9) : Int32).toNatClampNeg = 7 * t + p9 from pk_cl (7 * t + p9)]) ?_
  refine lv_iconst (v := 5) hx hb d_Ref_step_45 (by decide) ?_
  refine lv_icmp_ne (tgt := 175) hx hb d_Ref_step_46 (by decide) (fun c9 => absurd ((nI_eq (a := kd (7 * t + p9)) (b := 5) (by omega) (by omega)).mpr hk5) c9) (fun c9 => ?_)
  refine tp_pc (pc' := 49) (by rfl) ?_
  refine lv_iload_n hx hb d_Ref_step_49 rfl (lv_at hl 4 rfl) ?_
  refine lv_if_eq (tgt := 83) hx hb d_Ref_step_50 (by decide) (fun c9 => ?_) (fun c9 => absurd ((nI_eq (a := cn) (b := 0) (by omega) (by omega)).mpr hc0) c9)
  refine tp_pc (pc' := 83) (by rfl) ?_
  refine lv_aload_n hx hb d_Ref_step_83 rfl (lv_at hl 2 rfl) ?_
  refine va_get (D := (dC, dI)) (ci := 8) (v := .ref (rA 16)) (C := R_Ref) (T := F_Ref) (N := 48) hx hb hw i_Ref hown hK hP 0 rfl rfl 16 (by decide) (hw _ m_915) (fun _ h9 => h9) rfl d_Ref_step_84 ?_
  refine lv_iload_n hx hb d_Ref_step_87 rfl (lv_at hl 3 rfl) ?_
  refine lv_dup2_11 hx hb d_Ref_step_88 rfl rfl ?_
  refine va_iald (D := (dC, dI)) hx hb hK hP 1 0 rfl rfl (i := nI t) (pk_in t 155 (by omega)) d_Ref_step_89 ?_
  refine tp_i (y := sf t) (by rw [show (nI t : Int32).toNatClampNeg = t from pk_cl t]) ?_
  refine tp_i (y := nI p9) hp9 ?_
  refine lv_iconst (v := 1) hx hb d_Ref_step_90 (by decide) ?_
  refine lv_iadd hx hb d_Ref_step_91 ?_
  refine tp_i (y := nI (p9 + 1)) (by exact nI_add p9 1) ?_
  refine va_iast (D := (dC, dI)) hx hb hK hP (dd_D hD rfl) hS 1 0 rfl rfl (i := nI t) (x := nI (p9 + 1)) (pk_in t 155 (by omega)) d_Ref_step_92 ?_
  clear hP hS
  intro H locs hP _ hS
  rw [show (nI t : Int32).toNatClampNeg = t from pk_cl t] at hP
  replace hP : va_P (dC, dI) classes [oc ra 8 [.int (nI T), .int (nI Ac), .ref (rA 2), .ref (rA 3), .ref (rA 4), .ref (rA 5), .ref (rA 6), .ref (rA 7), .ref (rA 8), .ref (rA 9), .ref (rA 10), .ref (rA 11), .ref (rA 12), .ref (rA 13), .int ir, .ref (rA 15), .ref (rA 16), .ref (rA 17), .ref (rA 18), .int (nI md), .int (nI wd), .ref (rA 21), .ref (rA 22), .ref (rA 23), .int (nI mn), .ref (rA 25), .int (nI cb), .int mr, .ref (rA 28), .ref (rA 29), .ref (rA 30), .ref (rA 31), .ref (rA 32), .ref (rA 33), .ref (rA 34), .ref (rA 35), .int (nI ld), .int (nI gm), .ref (rA 38), .ref (rA 39), .ref (rA 40), .ref (rA 41), .ref (rA 42), .ref (rA 43), .ref (rA 44), .ref (rA 45), .int (nI my), .ref (rA 47)], ia (rA 16) (rK9 16) 155 (upd sf t (nI (p9 + 1))), ia (rA 2) (rK9 2) 4 (fun i => nI (zs i)), ia (rA 3) (rK9 3) 28 (fun i => nI (kd i)), ia (rA 4) (rK9 4) 28 (fun i => nI (vx i)), ia (rA 5) (rK9 5) 28 (fun i => nI (rr i)), ia (rA 6) (rK9 6) 28 vv] H := hP
  refine tp_pc (pc' := 93) (by rfl) ?_
  refine lv_aload_n hx hb d_Ref_step_93 rfl (lv_at hl 2 rfl) ?_
  refine va_get (D := (dC, dI)) (ci := 8) (v := .ref (rA 16)) (C := R_Ref) (T := F_Ref) (N := 48) hx hb hw i_Ref hown hK hP 0 rfl rfl 16 (by decide) (hw _ m_915) (fun _ h9 => h9) rfl d_Ref_step_94 ?_
  refine lv_iconst (v := 4) hx hb d_Ref_step_97 (by decide) ?_
  refine lv_iconst (v := 2) hx hb d_Ref_step_98 (by decide) ?_
  refine lv_iload_n hx hb d_Ref_step_99 rfl (lv_at hl 3 rfl) ?_
  refine lv_imul hx hb d_Ref_step_100 ?_
  refine tp_i (y := nI (2 * t)) (by exact pk_mul 2 t) ?_
  refine lv_iadd hx hb d_Ref_step_101 ?_
  refine tp_i (y := nI (4 + (2 * t))) (by exact nI_add 4 (2 * t)) ?_
  refine lv_aload_n hx hb d_Ref_step_102 rfl (lv_at hl 2 rfl) ?_
  refine va_get (D := (dC, dI)) (ci := 8) (v := .ref (rA 5)) (C := R_Ref) (T := F_Ref) (N := 48) hx hb hw i_Ref hown hK hP 0 rfl rfl 5 (by decide) (hw _ m_904) (fun _ h9 => h9) rfl d_Ref_step_103 ?_
  refine lv_iload hx hb d_Ref_step_106 (lv_at hl 0 rfl) ?_
  refine va_iald (D := (dC, dI)) hx hb hK hP 5 4 rfl rfl (i := nI (7 * t + p9)) (pk_in (7 * t + p9) 28 (by omega)) d_Ref_step_108 ?_
  refine tp_i (y := nI (rr (7 * t + p9))) (by rw [show (nI (7 * t + p9) : Int32).toNatClampNeg = 7 * t + p9 from pk_cl (7 * t + p9)]) ?_
  refine lv_iadd hx hb d_Ref_step_109 ?_
  refine tp_i (y := nI (4 + (2 * t) + (rr (7 * t + p9)))) (by exact nI_add (4 + (2 * t)) (rr (7 * t + p9))) ?_
  refine va_iald (D := (dC, dI)) hx hb hK hP 1 0 rfl rfl (i := nI (4 + (2 * t) + (rr (7 * t + p9)))) (pk_in (4 + (2 * t) + (rr (7 * t + p9))) 155 (by omega)) d_Ref_step_110 ?_
  refine tp_i (y := (upd sf t (nI (p9 + 1))) (4 + (2 * t) + (rr (7 * t + p9)))) (by rw [show (nI (4 + (2 * t) + (rr (7 * t + p9))) : Int32).toNatClampNeg = 4 + (2 * t) + (rr (7 * t + p9)) from pk_cl (4 + (2 * t) + (rr (7 * t + p9)))]) ?_
  refine tp_i (y := sf (4 + 2 * t + rr (7 * t + p9))) (pk_un (by omega)) ?_
  refine lv_aload_n hx hb d_Ref_step_111 rfl (lv_at hl 2 rfl) ?_
  refine va_get (D := (dC, dI)) (ci := 8) (v := .ref (rA 6)) (C := R_Ref) (T := F_Ref) (N := 48) hx hb hw i_Ref hown hK hP 0 rfl rfl 6 (by decide) (hw _ m_905) (fun _ h9 => h9) rfl d_Ref_step_112 ?_
  refine lv_iload hx hb d_Ref_step_115 (lv_at hl 0 rfl) ?_
  refine va_iald (D := (dC, dI)) hx hb hK hP 6 5 rfl rfl (i := nI (7 * t + p9)) (pk_in (7 * t + p9) 28 (by omega)) d_Ref_step_117 ?_
  refine tp_i (y := vv (7 * t + p9)) (by rw [show (nI (7 * t + p9) : Int32).toNatClampNeg = 7 * t + p9 from pk_cl (7 * t + p9)]) ?_
  refine lv_icmp_eq (tgt := 173) hx hb d_Ref_step_118 (by decide) (fun c9 => absurd c9 hcd) (fun c9 => ?_)
  refine tp_pc (pc' := 121) (by rfl) ?_
  refine lv_aload_n hx hb d_Ref_step_121 rfl (lv_at hl 2 rfl) ?_
  refine va_get (D := (dC, dI)) (ci := 8) (v := .ref (rA 16)) (C := R_Ref) (T := F_Ref) (N := 48) hx hb hw i_Ref hown hK hP 0 rfl rfl 16 (by decide) (hw _ m_915) (fun _ h9 => h9) rfl d_Ref_step_122 ?_
  refine lv_iload_n hx hb d_Ref_step_125 rfl (lv_at hl 3 rfl) ?_
  refine lv_aload_n hx hb d_Ref_step_126 rfl (lv_at hl 2 rfl) ?_
  refine va_get (D := (dC, dI)) (ci := 8) (v := .ref (rA 16)) (C := R_Ref) (T := F_Ref) (N := 48) hx hb hw i_Ref hown hK hP 0 rfl rfl 16 (by decide) (hw _ m_915) (fun _ h9 => h9) rfl d_Ref_step_127 ?_
  refine lv_iload_n hx hb d_Ref_step_130 rfl (lv_at hl 3 rfl) ?_
  refine va_iald (D := (dC, dI)) hx hb hK hP 1 0 rfl rfl (i := nI t) (pk_in t 155 (by omega)) d_Ref_step_131 ?_
  refine tp_i (y := (upd sf t (nI (p9 + 1))) t) (by rw [show (nI t : Int32).toNatClampNeg = t from pk_cl t]) ?_
  refine tp_i (y := nI (p9 + 1)) pk_us ?_
  refine lv_aload_n hx hb d_Ref_step_132 rfl (lv_at hl 2 rfl) ?_
  refine va_get (D := (dC, dI)) (ci := 8) (v := .ref (rA 4)) (C := R_Ref) (T := F_Ref) (N := 48) hx hb hw i_Ref hown hK hP 0 rfl rfl 4 (by decide) (hw _ m_903) (fun _ h9 => h9) rfl d_Ref_step_133 ?_
  refine lv_iload hx hb d_Ref_step_136 (lv_at hl 0 rfl) ?_
  refine va_iald (D := (dC, dI)) hx hb hK hP 4 3 rfl rfl (i := nI (7 * t + p9)) (pk_in (7 * t + p9) 28 (by omega)) d_Ref_step_138 ?_
  refine tp_i (y := nI (vx (7 * t + p9))) (by rw [show (nI (7 * t + p9) : Int32).toNatClampNeg = 7 * t + p9 from pk_cl (7 * t + p9)]) ?_
  refine lv_iadd hx hb d_Ref_step_139 ?_
  refine tp_i (y := nI (p9 + 1 + (vx (7 * t + p9)))) (by exact nI_add (p9 + 1) (vx (7 * t + p9))) ?_
  refine lv_aload_n hx hb d_Ref_step_140 rfl (lv_at hl 2 rfl) ?_
  refine va_get (D := (dC, dI)) (ci := 8) (v := .ref (rA 2)) (C := R_Ref) (T := F_Ref) (N := 48) hx hb hw i_Ref hown hK hP 0 rfl rfl 2 (by decide) (hw _ m_901) (fun _ h9 => h9) rfl d_Ref_step_141 ?_
  refine lv_iload_n hx hb d_Ref_step_144 rfl (lv_at hl 3 rfl) ?_
  refine va_iald (D := (dC, dI)) hx hb hK hP 2 1 rfl rfl (i := nI t) (pk_in t 4 (by omega)) d_Ref_step_145 ?_
  refine tp_i (y := nI (zs t)) (by rw [show (nI t : Int32).toNatClampNeg = t from pk_cl t]) ?_
  refine lv_icmp_le (tgt := 158) hx hb d_Ref_step_146 (by decide) (fun c3 => ?_) (fun c3 => ?_)
  · skip
    have hc3 : p9 + 1 + (vx (7 * t + p9)) ≤ zs t := (nI_leI (a := p9 + 1 + (vx (7 * t + p9))) (b := zs t) (by omega) (by omega)).mp c3
    refine tp_pc (pc' := 158) (by rfl) ?_
    refine lv_aload_n hx hb d_Ref_step_158 rfl (lv_at hl 2 rfl) ?_
    refine va_get (D := (dC, dI)) (ci := 8) (v := .ref (rA 16)) (C := R_Ref) (T := F_Ref) (N := 48) hx hb hw i_Ref hown hK hP 0 rfl rfl 16 (by decide) (hw _ m_915) (fun _ h9 => h9) rfl d_Ref_step_159 ?_
    refine lv_iload_n hx hb d_Ref_step_162 rfl (lv_at hl 3 rfl) ?_
    refine va_iald (D := (dC, dI)) hx hb hK hP 1 0 rfl rfl (i := nI t) (pk_in t 155 (by omega)) d_Ref_step_163 ?_
    refine tp_i (y := (upd sf t (nI (p9 + 1))) t) (by rw [show (nI t : Int32).toNatClampNeg = t from pk_cl t]) ?_
    refine tp_i (y := nI (p9 + 1)) pk_us ?_
    refine lv_aload_n hx hb d_Ref_step_164 rfl (lv_at hl 2 rfl) ?_
    refine va_get (D := (dC, dI)) (ci := 8) (v := .ref (rA 4)) (C := R_Ref) (T := F_Ref) (N := 48) hx hb hw i_Ref hown hK hP 0 rfl rfl 4 (by decide) (hw _ m_903) (fun _ h9 => h9) rfl d_Ref_step_165 ?_
    refine lv_iload hx hb d_Ref_step_168 (lv_at hl 0 rfl) ?_
    refine va_iald (D := (dC, dI)) hx hb hK hP 4 3 rfl rfl (i := nI (7 * t + p9)) (pk_in (7 * t + p9) 28 (by omega)) d_Ref_step_170 ?_
    refine tp_i (y := nI (vx (7 * t + p9))) (by rw [show (nI (7 * t + p9) : Int32).toNatClampNeg = 7 * t + p9 from pk_cl (7 * t + p9)]) ?_
    refine lv_iadd hx hb d_Ref_step_171 ?_
    refine tp_i (y := nI (p9 + 1 + (vx (7 * t + p9)))) (by exact nI_add (p9 + 1) (vx (7 * t + p9))) ?_
    refine tp_i (y := nI (if zs t < p9 + 1 + vx (7 * t + p9) then zs t else p9 + 1 + vx (7 * t + p9))) (by rw [if_neg (by omega)]) ?_
    refine va_iast (D := (dC, dI)) hx hb hK hP (dd_D hD rfl) hS 1 0 rfl rfl (i := nI t) (x := nI (if zs t < p9 + 1 + vx (7 * t + p9) then zs t else p9 + 1 + vx (7 * t + p9))) (pk_in t 155 (by omega)) d_Ref_step_172 ?_
    clear hP hS locs H
    intro H locs hP _ hS
    rw [show (nI t : Int32).toNatClampNeg = t from pk_cl t] at hP
    replace hP : va_P (dC, dI) classes [oc ra 8 [.int (nI T), .int (nI Ac), .ref (rA 2), .ref (rA 3), .ref (rA 4), .ref (rA 5), .ref (rA 6), .ref (rA 7), .ref (rA 8), .ref (rA 9), .ref (rA 10), .ref (rA 11), .ref (rA 12), .ref (rA 13), .int ir, .ref (rA 15), .ref (rA 16), .ref (rA 17), .ref (rA 18), .int (nI md), .int (nI wd), .ref (rA 21), .ref (rA 22), .ref (rA 23), .int (nI mn), .ref (rA 25), .int (nI cb), .int mr, .ref (rA 28), .ref (rA 29), .ref (rA 30), .ref (rA 31), .ref (rA 32), .ref (rA 33), .ref (rA 34), .ref (rA 35), .int (nI ld), .int (nI gm), .ref (rA 38), .ref (rA 39), .ref (rA 40), .ref (rA 41), .ref (rA 42), .ref (rA 43), .ref (rA 44), .ref (rA 45), .int (nI my), .ref (rA 47)], ia (rA 16) (rK9 16) 155 (upd (upd sf t (nI (p9 + 1))) t (nI (if zs t < p9 + 1 + vx (7 * t + p9) then zs t else p9 + 1 + vx (7 * t + p9)))), ia (rA 2) (rK9 2) 4 (fun i => nI (zs i)), ia (rA 3) (rK9 3) 28 (fun i => nI (kd i)), ia (rA 4) (rK9 4) 28 (fun i => nI (vx i)), ia (rA 5) (rK9 5) 28 (fun i => nI (rr i)), ia (rA 6) (rK9 6) 28 vv] H := hP
    refine tp_pc (pc' := 173) (by rfl) ?_
    refine lv_iconst (v := 1) hx hb d_Ref_step_173 (by decide) ?_
    obtain ⟨hP9, hD9, -⟩ := cut3 (wc := [oc ra 8 [.int (nI T), .int (nI Ac), .ref (rA 2), .ref (rA 3), .ref (rA 4), .ref (rA 5), .ref (rA 6), .ref (rA 7), .ref (rA 8), .ref (rA 9), .ref (rA 10), .ref (rA 11), .ref (rA 12), .ref (rA 13), .int ir, .ref (rA 15), .ref (rA 16), .ref (rA 17), .ref (rA 18), .int (nI md), .int (nI wd), .ref (rA 21), .ref (rA 22), .ref (rA 23), .int (nI mn), .ref (rA 25), .int (nI cb), .int mr, .ref (rA 28), .ref (rA 29), .ref (rA 30), .ref (rA 31), .ref (rA 32), .ref (rA 33), .ref (rA 34), .ref (rA 35), .int (nI ld), .int (nI gm), .ref (rA 38), .ref (rA 39), .ref (rA 40), .ref (rA 41), .ref (rA 42), .ref (rA 43), .ref (rA 44), .ref (rA 45), .int (nI my), .ref (rA 47)], ia (rA 16) (rK9 16) 155 (upd (upd sf t (nI (p9 + 1))) t (nI (if zs t < p9 + 1 + vx (7 * t + p9) then zs t else p9 + 1 + vx (7 * t + p9)))), ia (rA 2) (rK9 2) 4 (fun i => nI (zs i)), ia (rA 3) (rK9 3) 28 (fun i => nI (kd i)), ia (rA 4) (rK9 4) 28 (fun i => nI (vx i)), ia (rA 5) (rK9 5) 28 (fun i => nI (rr i)), ia (rA 6) (rK9 6) 28 vv]) hP hD rfl hS hA [0, 1, 2, 3, 4, 5, 6] (by decide +kernel) rfl
    have hK9 := hK.sub (tys' := []) [] rfl
    refine W.widen (k := 0) (n := 0) (by exact Nat.le_of_ble_eq_true rfl) (by exact Nat.le_of_ble_eq_true rfl) ?_
    exact W.zret (v := 1) (ty := .boolean) hx hb hr (by decide) (fun t9 ht9 hW => ⟨⟨1, (), rfl, rfl, by rw [ht9]; exact hP9, va_K.moved hW.alike hK9, hD9⟩, hS.F ht9⟩) hS.2.2 d_Ref_step_174
  · skip
    have hc3 : ¬ (p9 + 1 + (vx (7 * t + p9)) ≤ zs t) := fun q9 => c3 ((nI_leI (a := p9 + 1 + (vx (7 * t + p9))) (b := zs t) (by omega) (by omega)).mpr q9)
    refine tp_pc (pc' := 149) (by rfl) ?_
    refine lv_aload_n hx hb d_Ref_step_149 rfl (lv_at hl 2 rfl) ?_
    refine va_get (D := (dC, dI)) (ci := 8) (v := .ref (rA 2)) (C := R_Ref) (T := F_Ref) (N := 48) hx hb hw i_Ref hown hK hP 0 rfl rfl 2 (by decide) (hw _ m_901) (fun _ h9 => h9) rfl d_Ref_step_150 ?_
    refine lv_iload_n hx hb d_Ref_step_153 rfl (lv_at hl 3 rfl) ?_
    refine va_iald (D := (dC, dI)) hx hb hK hP 2 1 rfl rfl (i := nI t) (pk_in t 4 (by omega)) d_Ref_step_154 ?_
    refine tp_i (y := nI (zs t)) (by rw [show (nI t : Int32).toNatClampNeg = t from pk_cl t]) ?_
    refine lv_goto (tgt := 172) hx hb d_Ref_step_155 (by decide) ?_
    refine tp_pc (pc' := 172) (by rfl) ?_
    refine tp_i (y := nI (if zs t < p9 + 1 + vx (7 * t + p9) then zs t else p9 + 1 + vx (7 * t + p9))) (by rw [if_pos (by omega)]) ?_
    refine va_iast (D := (dC, dI)) hx hb hK hP (dd_D hD rfl) hS 1 0 rfl rfl (i := nI t) (x := nI (if zs t < p9 + 1 + vx (7 * t + p9) then zs t else p9 + 1 + vx (7 * t + p9))) (pk_in t 155 (by omega)) d_Ref_step_172 ?_
    clear hP hS locs H
    intro H locs hP _ hS
    rw [show (nI t : Int32).toNatClampNeg = t from pk_cl t] at hP
    replace hP : va_P (dC, dI) classes [oc ra 8 [.int (nI T), .int (nI Ac), .ref (rA 2), .ref (rA 3), .ref (rA 4), .ref (rA 5), .ref (rA 6), .ref (rA 7), .ref (rA 8), .ref (rA 9), .ref (rA 10), .ref (rA 11), .ref (rA 12), .ref (rA 13), .int ir, .ref (rA 15), .ref (rA 16), .ref (rA 17), .ref (rA 18), .int (nI md), .int (nI wd), .ref (rA 21), .ref (rA 22), .ref (rA 23), .int (nI mn), .ref (rA 25), .int (nI cb), .int mr, .ref (rA 28), .ref (rA 29), .ref (rA 30), .ref (rA 31), .ref (rA 32), .ref (rA 33), .ref (rA 34), .ref (rA 35), .int (nI ld), .int (nI gm), .ref (rA 38), .ref (rA 39), .ref (rA 40), .ref (rA 41), .ref (rA 42), .ref (rA 43), .ref (rA 44), .ref (rA 45), .int (nI my), .ref (rA 47)], ia (rA 16) (rK9 16) 155 (upd (upd sf t (nI (p9 + 1))) t (nI (if zs t < p9 + 1 + vx (7 * t + p9) then zs t else p9 + 1 + vx (7 * t + p9)))), ia (rA 2) (rK9 2) 4 (fun i => nI (zs i)), ia (rA 3) (rK9 3) 28 (fun i => nI (kd i)), ia (rA 4) (rK9 4) 28 (fun i => nI (vx i)), ia (rA 5) (rK9 5) 28 (fun i => nI (rr i)), ia (rA 6) (rK9 6) 28 vv] H := hP
    refine tp_pc (pc' := 173) (by rfl) ?_
    refine lv_iconst (v := 1) hx hb d_Ref_step_173 (by decide) ?_
    obtain ⟨hP9, hD9, -⟩ := cut3 (wc := [oc ra 8 [.int (nI T), .int (nI Ac), .ref (rA 2), .ref (rA 3), .ref (rA 4), .ref (rA 5), .ref (rA 6), .ref (rA 7), .ref (rA 8), .ref (rA 9), .ref (rA 10), .ref (rA 11), .ref (rA 12), .ref (rA 13), .int ir, .ref (rA 15), .ref (rA 16), .ref (rA 17), .ref (rA 18), .int (nI md), .int (nI wd), .ref (rA 21), .ref (rA 22), .ref (rA 23), .int (nI mn), .ref (rA 25), .int (nI cb), .int mr, .ref (rA 28), .ref (rA 29), .ref (rA 30), .ref (rA 31), .ref (rA 32), .ref (rA 33), .ref (rA 34), .ref (rA 35), .int (nI ld), .int (nI gm), .ref (rA 38), .ref (rA 39), .ref (rA 40), .ref (rA 41), .ref (rA 42), .ref (rA 43), .ref (rA 44), .ref (rA 45), .int (nI my), .ref (rA 47)], ia (rA 16) (rK9 16) 155 (upd (upd sf t (nI (p9 + 1))) t (nI (if zs t < p9 + 1 + vx (7 * t + p9) then zs t else p9 + 1 + vx (7 * t + p9)))), ia (rA 2) (rK9 2) 4 (fun i => nI (zs i)), ia (rA 3) (rK9 3) 28 (fun i => nI (kd i)), ia (rA 4) (rK9 4) 28 (fun i => nI (vx i)), ia (rA 5) (rK9 5) 28 (fun i => nI (rr i)), ia (rA 6) (rK9 6) 28 vv]) hP hD rfl hS hA [0, 1, 2, 3, 4, 5, 6] (by decide +kernel) rfl
    have hK9 := hK.sub (tys' := []) [] rfl
    refine W.widen (k := 0) (n := 0) (by exact Nat.le_of_ble_eq_true rfl) (by exact Nat.le_of_ble_eq_true rfl) ?_
    exact W.zret (v := 1) (ty := .boolean) hx hb hr (by decide) (fun t9 ht9 hW => ⟨⟨1, (), rfl, rfl, by rw [ht9]; exact hP9, va_K.moved hW.alike hK9, hD9⟩, hS.F ht9⟩) hS.2.2 d_Ref_step_174
