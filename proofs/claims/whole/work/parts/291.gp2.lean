set_option maxHeartbeats 4000000 in
set_option maxRecDepth 100000 in
theorem gen_Ref_mayFollow (l : Launch) (dC : Nat → ClassId) (dI : Nat → Nat → Nat) (ra : Nat) (rA : Nat → Nat) (rK9 : Nat → ClassId) (T Ac md wd mn cb ld gm my : Nat) (ir mr : Int32) (a x : Nat) (rx rs kd fm li hp vx : Nat → Nat) (ha : a < 28) (hx4 : x < 4) (hld : ld ≤ 7) (hrs : rs x ≤ 7) (hrx : ∀ j, j < 28 → rx j < 28) (hli : ∀ q, q < 7 → li q < 28) (hkd : ∀ i, i < 28 → kd i < 6 ∧ vx i < 4) (hfm : ∀ i, i < 28 → fm i ≤ 28) (hhp : ∀ i, i < 28 → hp i < 2) (sz : Nat) : Met l y_Ref_mayFollow w_Ref_mayFollow ({ frames := 1, cells := 0, slots := 0, locals := 40 }) (va_Pc [.ref ra, .int (nI a), .int (nI x)] (fun U => U.heap.size = sz ∧ va_P (dC, dI) classes [oc ra 8 [.int (nI T), .int (nI Ac), .ref (rA 2), .ref (rA 3), .ref (rA 4), .ref (rA 5), .ref (rA 6), .ref (rA 7), .ref (rA 8), .ref (rA 9), .ref (rA 10), .ref (rA 11), .ref (rA 12), .ref (rA 13), .int ir, .ref (rA 15), .ref (rA 16), .ref (rA 17), .ref (rA 18), .int (nI md), .int (nI wd), .ref (rA 21), .ref (rA 22), .ref (rA 23), .int (nI mn), .ref (rA 25), .int (nI cb), .int mr, .ref (rA 28), .ref (rA 29), .ref (rA 30), .ref (rA 31), .ref (rA 32), .ref (rA 33), .ref (rA 34), .ref (rA 35), .int (nI ld), .int (nI gm), .ref (rA 38), .ref (rA 39), .ref (rA 40), .ref (rA 41), .ref (rA 42), .ref (rA 43), .ref (rA 44), .ref (rA 45), .int (nI my), .ref (rA 47)], ia (rA 38) (rK9 38) 28 (fun i => nI (rx i)), ia (rA 39) (rK9 39) 4 (fun i => nI (rs i)), ia (rA 3) (rK9 3) 28 (fun i => nI (kd i)), ia (rA 29) (rK9 29) 28 (fun i0 => mN (fm i0)), ia (rA 35) (rK9 35) 7 (fun i => nI (li i)), ia (rA 30) (rK9 30) 28 (fun i => nI (hp i)), ia (rA 4) (rK9 4) 28 (fun i => nI (vx i))] U.heap ∧ va_K (dC, dI) classes [((rK9 38), .int), ((rK9 39), .int), ((rK9 3), .int), ((rK9 29), .int), ((rK9 35), .int), ((rK9 30), .boolean), ((rK9 4), .int)] U ∧ va_D (fun _ => True) [oc ra 8 [.int (nI T), .int (nI Ac), .ref (rA 2), .ref (rA 3), .ref (rA 4), .ref (rA 5), .ref (rA 6), .ref (rA 7), .ref (rA 8), .ref (rA 9), .ref (rA 10), .ref (rA 11), .ref (rA 12), .ref (rA 13), .int ir, .ref (rA 15), .ref (rA 16), .ref (rA 17), .ref (rA 18), .int (nI md), .int (nI wd), .ref (rA 21), .ref (rA 22), .ref (rA 23), .int (nI mn), .ref (rA 25), .int (nI cb), .int mr, .ref (rA 28), .ref (rA 29), .ref (rA 30), .ref (rA 31), .ref (rA 32), .ref (rA 33), .ref (rA 34), .ref (rA 35), .int (nI ld), .int (nI gm), .ref (rA 38), .ref (rA 39), .ref (rA 40), .ref (rA 41), .ref (rA 42), .ref (rA 43), .ref (rA 44), .ref (rA 45), .int (nI my), .ref (rA 47)], ia (rA 38) (rK9 38) 28 (fun i => nI (rx i)), ia (rA 39) (rK9 39) 4 (fun i => nI (rs i)), ia (rA 3) (rK9 3) 28 (fun i => nI (kd i)), ia (rA 29) (rK9 29) 28 (fun i0 => mN (fm i0)), ia (rA 35) (rK9 35) 7 (fun i => nI (li i)), ia (rA 30) (rK9 30) 28 (fun i => nI (hp i)), ia (rA 4) (rK9 4) 28 (fun i => nI (vx i))] ∧ nw U)) (va_Qi (fun (r : Int32) (_ : Unit) => r = if mfP kd vx li fm hp rx rs ld a x then 1 else 0) (fun _ t9 => va_P (dC, dI) classes [oc ra 8 [.int (nI T), .int (nI Ac), .ref (rA 2), .ref (rA 3), .ref (rA 4), .ref (rA 5), .ref (rA 6), .ref (rA 7), .ref (rA 8), .ref (rA 9), .ref (rA 10), .ref (rA 11), .ref (rA 12), .ref (rA 13), .int ir, .ref (rA 15), .ref (rA 16), .ref (rA 17), .ref (rA 18), .int (nI md), .int (nI wd), .ref (rA 21), .ref (rA 22), .ref (rA 23), .int (nI mn), .ref (rA 25), .int (nI cb), .int mr, .ref (rA 28), .ref (rA 29), .ref (rA 30), .ref (rA 31), .ref (rA 32), .ref (rA 33), .ref (rA 34), .ref (rA 35), .int (nI ld), .int (nI gm), .ref (rA 38), .ref (rA 39), .ref (rA 40), .ref (rA 41), .ref (rA 42), .ref (rA 43), .ref (rA 44), .ref (rA 45), .int (nI my), .ref (rA 47)], ia (rA 38) (rK9 38) 28 (fun i => nI (rx i)), ia (rA 39) (rK9 39) 4 (fun i => nI (rs i)), ia (rA 3) (rK9 3) 28 (fun i => nI (kd i)), ia (rA 29) (rK9 29) 28 (fun i0 => mN (fm i0)), ia (rA 35) (rK9 35) 7 (fun i => nI (li i)), ia (rA 30) (rK9 30) 28 (fun i => nI (hp i)), ia (rA 4) (rK9 4) 28 (fun i => nI (vx i))] t9.heap ∧ va_K (dC, dI) classes [] t9 ∧ va_D (va_A [oc ra 8 [.int (nI T), .int (nI Ac), .ref (rA 2), .ref (rA 3), .ref (rA 4), .ref (rA 5), .ref (rA 6), .ref (rA 7), .ref (rA 8), .ref (rA 9), .ref (rA 10), .ref (rA 11), .ref (rA 12), .ref (rA 13), .int ir, .ref (rA 15), .ref (rA 16), .ref (rA 17), .ref (rA 18), .int (nI md), .int (nI wd), .ref (rA 21), .ref (rA 22), .ref (rA 23), .int (nI mn), .ref (rA 25), .int (nI cb), .int mr, .ref (rA 28), .ref (rA 29), .ref (rA 30), .ref (rA 31), .ref (rA 32), .ref (rA 33), .ref (rA 34), .ref (rA 35), .int (nI ld), .int (nI gm), .ref (rA 38), .ref (rA 39), .ref (rA 40), .ref (rA 41), .ref (rA 42), .ref (rA 43), .ref (rA 44), .ref (rA 45), .int (nI my), .ref (rA 47)], ia (rA 38) (rK9 38) 28 (fun i => nI (rx i)), ia (rA 39) (rK9 39) 4 (fun i => nI (rs i)), ia (rA 3) (rK9 3) 28 (fun i => nI (kd i)), ia (rA 29) (rK9 29) 28 (fun i0 => mN (fm i0)), ia (rA 35) (rK9 35) 7 (fun i => nI (li i)), ia (rA 30) (rK9 30) 28 (fun i => nI (hp i)), ia (rA 4) (rK9 4) 28 (fun i => nI (vx i))] sz) [oc ra 8 [.int (nI T), .int (nI Ac), .ref (rA 2), .ref (rA 3), .ref (rA 4), .ref (rA 5), .ref (rA 6), .ref (rA 7), .ref (rA 8), .ref (rA 9), .ref (rA 10), .ref (rA 11), .ref (rA 12), .ref (rA 13), .int ir, .ref (rA 15), .ref (rA 16), .ref (rA 17), .ref (rA 18), .int (nI md), .int (nI wd), .ref (rA 21), .ref (rA 22), .ref (rA 23), .int (nI mn), .ref (rA 25), .int (nI cb), .int mr, .ref (rA 28), .ref (rA 29), .ref (rA 30), .ref (rA 31), .ref (rA 32), .ref (rA 33), .ref (rA 34), .ref (rA 35), .int (nI ld), .int (nI gm), .ref (rA 38), .ref (rA 39), .ref (rA 40), .ref (rA 41), .ref (rA 42), .ref (rA 43), .ref (rA 44), .ref (rA 45), .int (nI my), .ref (rA 47)], ia (rA 38) (rK9 38) 28 (fun i => nI (rx i)), ia (rA 39) (rK9 39) 4 (fun i => nI (rs i)), ia (rA 3) (rK9 3) 28 (fun i => nI (kd i)), ia (rA 29) (rK9 29) 28 (fun i0 => mN (fm i0)), ia (rA 35) (rK9 35) 7 (fun i => nI (li i)), ia (rA 30) (rK9 30) 28 (fun i => nI (hp i)), ia (rA 4) (rK9 4) 28 (fun i => nI (vx i))]) (va_A [oc ra 8 [.int (nI T), .int (nI Ac), .ref (rA 2), .ref (rA 3), .ref (rA 4), .ref (rA 5), .ref (rA 6), .ref (rA 7), .ref (rA 8), .ref (rA 9), .ref (rA 10), .ref (rA 11), .ref (rA 12), .ref (rA 13), .int ir, .ref (rA 15), .ref (rA 16), .ref (rA 17), .ref (rA 18), .int (nI md), .int (nI wd), .ref (rA 21), .ref (rA 22), .ref (rA 23), .int (nI mn), .ref (rA 25), .int (nI cb), .int mr, .ref (rA 28), .ref (rA 29), .ref (rA 30), .ref (rA 31), .ref (rA 32), .ref (rA 33), .ref (rA 34), .ref (rA 35), .int (nI ld), .int (nI gm), .ref (rA 38), .ref (rA 39), .ref (rA 40), .ref (rA 41), .ref (rA 42), .ref (rA 43), .ref (rA 44), .ref (rA 45), .int (nI my), .ref (rA 47)], ia (rA 38) (rK9 38) 28 (fun i => nI (rx i)), ia (rA 39) (rK9 39) 4 (fun i => nI (rs i)), ia (rA 3) (rK9 3) 28 (fun i => nI (kd i)), ia (rA 29) (rK9 29) 28 (fun i0 => mN (fm i0)), ia (rA 35) (rK9 35) 7 (fun i => nI (li i)), ia (rA 30) (rK9 30) 28 (fun i => nI (hp i)), ia (rA 4) (rK9 4) 28 (fun i => nI (vx i))] sz)) 0 0 (va_A [oc ra 8 [.int (nI T), .int (nI Ac), .ref (rA 2), .ref (rA 3), .ref (rA 4), .ref (rA 5), .ref (rA 6), .ref (rA 7), .ref (rA 8), .ref (rA 9), .ref (rA 10), .ref (rA 11), .ref (rA 12), .ref (rA 13), .int ir, .ref (rA 15), .ref (rA 16), .ref (rA 17), .ref (rA 18), .int (nI md), .int (nI wd), .ref (rA 21), .ref (rA 22), .ref (rA 23), .int (nI mn), .ref (rA 25), .int (nI cb), .int mr, .ref (rA 28), .ref (rA 29), .ref (rA 30), .ref (rA 31), .ref (rA 32), .ref (rA 33), .ref (rA 34), .ref (rA 35), .int (nI ld), .int (nI gm), .ref (rA 38), .ref (rA 39), .ref (rA 40), .ref (rA 41), .ref (rA 42), .ref (rA 43), .ref (rA 44), .ref (rA 45), .int (nI my), .ref (rA 47)], ia (rA 38) (rK9 38) 28 (fun i => nI (rx i)), ia (rA 39) (rK9 39) 4 (fun i => nI (rs i)), ia (rA 3) (rK9 3) 28 (fun i => nI (kd i)), ia (rA 29) (rK9 29) 28 (fun i0 => mN (fm i0)), ia (rA 35) (rK9 35) 7 (fun i => nI (li i)), ia (rA 30) (rK9 30) 28 (fun i => nI (hp i)), ia (rA 4) (rK9 4) 28 (fun i => nI (vx i))] sz) := by
  refine Met.ofW (cc := b_Ref_mayFollow) (maxL := 6) (ret := (some .boolean)) (by decide) rfl ?_
  intro p e0 s m args below meth c s₁ B hml hv
  obtain ⟨rfl, hsz, hP, hK, hD0, hn⟩ := hv
  have hx := B.exec
  have hb := B.bytes
  have hr := B.returns
  have hw := fun w (h : w ∈ wt) => atoms_spec (ws := w_Ref_mayFollow) B.pre w (List.mem_cons_of_mem _ h)
  have hown : s.vm.findClass R_Ref = some m.cls := findClass_of_methodNamed B.named
  have hlocks := B.notSynchronized
  subst hsz
  have hD1 := hD0.self (sz := s.heap.size)
  generalize hAe : va_A [oc ra 8 [.int (nI T), .int (nI Ac), .ref (rA 2), .ref (rA 3), .ref (rA 4), .ref (rA 5), .ref (rA 6), .ref (rA 7), .ref (rA 8), .ref (rA 9), .ref (rA 10), .ref (rA 11), .ref (rA 12), .ref (rA 13), .int ir, .ref (rA 15), .ref (rA 16), .ref (rA 17), .ref (rA 18), .int (nI md), .int (nI wd), .ref (rA 21), .ref (rA 22), .ref (rA 23), .int (nI mn), .ref (rA 25), .int (nI cb), .int mr, .ref (rA 28), .ref (rA 29), .ref (rA 30), .ref (rA 31), .ref (rA 32), .ref (rA 33), .ref (rA 34), .ref (rA 35), .int (nI ld), .int (nI gm), .ref (rA 38), .ref (rA 39), .ref (rA 40), .ref (rA 41), .ref (rA 42), .ref (rA 43), .ref (rA 44), .ref (rA 45), .int (nI my), .ref (rA 47)], ia (rA 38) (rK9 38) 28 (fun i => nI (rx i)), ia (rA 39) (rK9 39) 4 (fun i => nI (rs i)), ia (rA 3) (rK9 3) 28 (fun i => nI (kd i)), ia (rA 29) (rK9 29) 28 (fun i0 => mN (fm i0)), ia (rA 35) (rK9 35) 7 (fun i => nI (li i)), ia (rA 30) (rK9 30) 28 (fun i => nI (hp i)), ia (rA 4) (rK9 4) 28 (fun i => nI (vx i))] s.heap.size = A at hD1 ⊢
  have hA : ∀ q : Nat, s.heap.size ≤ q → A q := fun q h => by rw [← hAe]; exact Or.inr h
  have hD : dd A [ra, (rA 38), (rA 39), (rA 3), (rA 29), (rA 35), (rA 30), (rA 4)] := dd_of hD1 rfl
  clear hAe hD0 hD1
  have hS : va_S A s.heap s.heap [] := va_S.rf
  replace hP : va_P (dC, dI) classes [oc ra 8 [.int (nI T), .int (nI Ac), .ref (rA 2), .ref (rA 3), .ref (rA 4), .ref (rA 5), .ref (rA 6), .ref (rA 7), .ref (rA 8), .ref (rA 9), .ref (rA 10), .ref (rA 11), .ref (rA 12), .ref (rA 13), .int ir, .ref (rA 15), .ref (rA 16), .ref (rA 17), .ref (rA 18), .int (nI md), .int (nI wd), .ref (rA 21), .ref (rA 22), .ref (rA 23), .int (nI mn), .ref (rA 25), .int (nI cb), .int mr, .ref (rA 28), .ref (rA 29), .ref (rA 30), .ref (rA 31), .ref (rA 32), .ref (rA 33), .ref (rA 34), .ref (rA 35), .int (nI ld), .int (nI gm), .ref (rA 38), .ref (rA 39), .ref (rA 40), .ref (rA 41), .ref (rA 42), .ref (rA 43), .ref (rA 44), .ref (rA 45), .int (nI my), .ref (rA 47)], ia (rA 38) (rK9 38) 28 (fun i => nI (rx i)), ia (rA 39) (rK9 39) 4 (fun i => nI (rs i)), ia (rA 3) (rK9 3) 28 (fun i => nI (kd i)), ia (rA 29) (rK9 29) 28 (fun i0 => mN (fm i0)), ia (rA 35) (rK9 35) 7 (fun i => nI (li i)), ia (rA 30) (rK9 30) 28 (fun i => nI (hp i)), ia (rA 4) (rK9 4) 28 (fun i => nI (vx i))] s.heap := hP
  have hl := lv_entry ([.ref ra, .int (nI a), .int (nI x)]) (n := 6) (Nat.le_of_ble_eq_true rfl)
  rw [lg_entry_eq]
  generalize (lg_sl ([.ref ra, .int (nI a), .int (nI x)]) ++ List.replicate (6 - (lg_sl ([.ref ra, .int (nI a), .int (nI x)])).length) Slot.unset).toArray = ls at hl ⊢
  replace hl : lv_has ls 6 [(0, .ref ra), (1, .int (nI a)), (2, .int (nI x))] := hl
  refine lv_iload_n hx hb d_Ref_mayFollow_0 rfl (lv_at hl 2 rfl) ?_
  refine lv_iconst (v := 3) hx hb d_Ref_mayFollow_1 (by decide) ?_
  refine lv_icmp_ne (tgt := 7) hx hb d_Ref_mayFollow_2 (by decide) (fun c1 => ?_) (fun c1 => ?_)
  · skip
    have hc1 : ¬ (x = 3) := fun q9 => c1 ((nI_eq (a := x) (b := 3) (by omega) (by omega)).mpr q9)
    have hls : lsN rx rs x ≤ 28 := by unfold lsN; split; omega; have := hrx (7 * x + (rs x - 1)) (by omega); omega
    refine tp_pc (pc' := 7) (by rfl) ?_
    refine lp_j 39 (fun ls => lv_has ls 6 [(3, .int (mN (lsN rx rs x))), (0, .ref ra), (1, .int (nI a)), (2, .int (nI x))]) ?_ ?_
    rotate_left
    · intro kJ
      refine lv_aload_n hx hb d_Ref_mayFollow_7 rfl (lv_at hl 0 rfl) ?_
      refine va_get (D := (dC, dI)) (ci := 8) (v := .ref (rA 39)) (C := R_Ref) (T := F_Ref) (N := 48) hx hb hw i_Ref hown hK hP 0 rfl rfl 39 (by decide) (hw _ m_938) (fun _ h9 => h9) rfl d_Ref_mayFollow_8 ?_
      refine lv_iload_n hx hb d_Ref_mayFollow_11 rfl (lv_at hl 2 rfl) ?_
      refine va_iald (D := (dC, dI)) hx hb hK hP 2 1 rfl rfl (i := nI x) (pk_in x 4 (by omega)) d_Ref_mayFollow_12 ?_
      refine tp_i (y := nI (rs x)) (by rw [show (nI x : Int32).toNatClampNeg = x from pk_cl x]) ?_
      refine lv_if_ne (tgt := 20) hx hb d_Ref_mayFollow_13 (by decide) (fun e1 => ?_) (fun e1 => ?_)
      · skip
        have he1 : ¬ (rs x = 0) := fun q9 => e1 ((nI_eq (a := rs x) (b := 0) (by omega) (by omega)).mpr q9)
        refine tp_pc (pc' := 20) (by rfl) ?_
        refine lv_aload_n hx hb d_Ref_mayFollow_20 rfl (lv_at hl 0 rfl) ?_
        refine va_get (D := (dC, dI)) (ci := 8) (v := .ref (rA 38)) (C := R_Ref) (T := F_Ref) (N := 48) hx hb hw i_Ref hown hK hP 0 rfl rfl 38 (by decide) (hw _ m_937) (fun _ h9 => h9) rfl d_Ref_mayFollow_21 ?_
        refine lv_bipush (v := 7) hx hb d_Ref_mayFollow_24 (by decide) ?_
        refine lv_iload_n hx hb d_Ref_mayFollow_26 rfl (lv_at hl 2 rfl) ?_
        refine lv_imul hx hb d_Ref_mayFollow_27 ?_
        refine tp_i (y := nI (7 * x)) (by exact pk_mul 7 x) ?_
        refine lv_aload_n hx hb d_Ref_mayFollow_28 rfl (lv_at hl 0 rfl) ?_
        refine va_get (D := (dC, dI)) (ci := 8) (v := .ref (rA 39)) (C := R_Ref) (T := F_Ref) (N := 48) hx hb hw i_Ref hown hK hP 0 rfl rfl 39 (by decide) (hw _ m_938) (fun _ h9 => h9) rfl d_Ref_mayFollow_29 ?_
        refine lv_iload_n hx hb d_Ref_mayFollow_32 rfl (lv_at hl 2 rfl) ?_
        refine va_iald (D := (dC, dI)) hx hb hK hP 2 1 rfl rfl (i := nI x) (pk_in x 4 (by omega)) d_Ref_mayFollow_33 ?_
        refine tp_i (y := nI (rs x)) (by rw [show (nI x : Int32).toNatClampNeg = x from pk_cl x]) ?_
        refine lv_iadd hx hb d_Ref_mayFollow_34 ?_
        refine tp_i (y := nI (7 * x + (rs x))) (by exact nI_add (7 * x) (rs x)) ?_
        refine lv_iconst (v := 1) hx hb d_Ref_mayFollow_35 (by decide) ?_
        refine lv_isub hx hb d_Ref_mayFollow_36 ?_
        refine tp_i (y := nI (7 * x + (rs x) - 1)) (by exact pk_sub (a := 7 * x + (rs x)) (b := 1) (by omega)) ?_
        refine va_iald (D := (dC, dI)) hx hb hK hP 1 0 rfl rfl (i := nI (7 * x + (rs x) - 1)) (pk_in (7 * x + (rs x) - 1) 28 (by omega)) d_Ref_mayFollow_37 ?_
        refine tp_i (y := nI (rx (7 * x + (rs x) - 1))) (by rw [show (nI (7 * x + (rs x) - 1) : Int32).toNatClampNeg = 7 * x + (rs x) - 1 from pk_cl (7 * x + (rs x) - 1)]) ?_
        refine tp_i (y := mN (lsN rx rs x)) (by unfold lsN; rw [if_neg he1, mN_1]; exact congrArg (fun q => nI (rx q)) (by omega)) ?_
        refine lv_istore_n (lv' := [(3, .int (mN (lsN rx rs x))), (0, .ref ra), (1, .int (nI a)), (2, .int (nI x))]) hx hb d_Ref_mayFollow_38 rfl hl (by decide) rfl ?_
        clear hl ls
        intro ls hl
        exact kJ _ (lv_sub hl [0, 1, 2, 3] rfl)
      · skip
        have he1 : rs x = 0 := (nI_eq (a := rs x) (b := 0) (by omega) (by omega)).mp e1
        refine tp_pc (pc' := 16) (by rfl) ?_
        refine lv_iconst (v := (-1)) hx hb d_Ref_mayFollow_16 (by decide) ?_
        refine lv_goto (tgt := 38) hx hb d_Ref_mayFollow_17 (by decide) ?_
        refine tp_pc (pc' := 38) (by rfl) ?_
        refine tp_i (y := mN (lsN rx rs x)) (by unfold lsN; rw [if_pos he1, mN_0]) ?_
        refine lv_istore_n (lv' := [(3, .int (mN (lsN rx rs x))), (0, .ref ra), (1, .int (nI a)), (2, .int (nI x))]) hx hb d_Ref_mayFollow_38 rfl hl (by decide) rfl ?_
        clear hl ls
        intro ls hl
        exact kJ _ (lv_sub hl [0, 1, 2, 3] rfl)
    · intro ls hl
      obtain ⟨kd1, kd2⟩ := hkd a ha
      have hfa := hfm a ha
      refine lv_aload_n hx hb d_Ref_mayFollow_39 rfl (lv_at hl 1 rfl) ?_
      refine va_get (D := (dC, dI)) (ci := 8) (v := .ref (rA 3)) (C := R_Ref) (T := F_Ref) (N := 48) hx hb hw i_Ref hown hK hP 0 rfl rfl 3 (by decide) (hw _ m_902) (fun _ h9 => h9) rfl d_Ref_mayFollow_40 ?_
      refine lv_iload_n hx hb d_Ref_mayFollow_43 rfl (lv_at hl 2 rfl) ?_
      refine va_iald (D := (dC, dI)) hx hb hK hP 3 2 rfl rfl (i := nI a) (pk_in a 28 (by omega)) d_Ref_mayFollow_44 ?_
      refine tp_i (y := nI (kd a)) (by rw [show (nI a : Int32).toNatClampNeg = a from pk_cl a]) ?_
      refine lv_iconst (v := 3) hx hb d_Ref_mayFollow_45 (by decide) ?_
      refine lv_icmp_ne (tgt := 65) hx hb d_Ref_mayFollow_46 (by decide) (fun c2 => ?_) (fun c2 => ?_)
      · skip
        have hc2 : ¬ (kd a = 3) := fun q9 => c2 ((nI_eq (a := kd a) (b := 3) (by omega) (by omega)).mpr q9)
        refine tp_pc (pc' := 65) (by rfl) ?_
        refine lv_iconst (v := 0) hx hb d_Ref_mayFollow_65 (by decide) ?_
        refine lv_istore (lv' := [(4, .int 0), (3, .int (mN (lsN rx rs x))), (0, .ref ra), (1, .int (nI a)), (2, .int (nI x))]) hx hb d_Ref_mayFollow_66 hl (by decide) rfl ?_
        clear hl ls
        intro ls hl
        replace hP : va_P (dC, dI) classes [oc ra 8 [.int (nI T), .int (nI Ac), .ref (rA 2), .ref (rA 3), .ref (rA 4), .ref (rA 5), .ref (rA 6), .ref (rA 7), .ref (rA 8), .ref (rA 9), .ref (rA 10), .ref (rA 11), .ref (rA 12), .ref (rA 13), .int ir, .ref (rA 15), .ref (rA 16), .ref (rA 17), .ref (rA 18), .int (nI md), .int (nI wd), .ref (rA 21), .ref (rA 22), .ref (rA 23), .int (nI mn), .ref (rA 25), .int (nI cb), .int mr, .ref (rA 28), .ref (rA 29), .ref (rA 30), .ref (rA 31), .ref (rA 32), .ref (rA 33), .ref (rA 34), .ref (rA 35), .int (nI ld), .int (nI gm), .ref (rA 38), .ref (rA 39), .ref (rA 40), .ref (rA 41), .ref (rA 42), .ref (rA 43), .ref (rA 44), .ref (rA 45), .int (nI my), .ref (rA 47)], ia (rA 38) (rK9 38) 28 (fun i => nI (rx i)), ia (rA 39) (rK9 39) 4 (fun i => nI (rs i)), ia (rA 3) (rK9 3) 28 (fun i => nI (kd i)), ia (rA 29) (rK9 29) 28 (fun i0 => mN (fm i0)), ia (rA 35) (rK9 35) 7 (fun i => nI (li i)), ia (rA 30) (rK9 30) 28 (fun i => nI (hp i)), ia (rA 4) (rK9 4) 28 (fun i => nI (vx i))] s.heap := hP
        replace hl : lv_has ls 6 [(4, .int (nI 0)), (3, .int (mN (lsN rx rs x))), (0, .ref ra), (1, .int (nI a)), (2, .int (nI x))] := hl
        refine lp_n ld (fun i1 H locs ls => fF (fun k => decide (kd (li k) = 3 ∧ hp (li k) = 1 ∧ vx (li k) = x ∧ fm (li k) = lsN rx rs x ∧ inRw rx rs (li k) x = 0)) (ld - i1) i1 = fF (fun k => decide (kd (li k) = 3 ∧ hp (li k) = 1 ∧ vx (li k) = x ∧ fm (li k) = lsN rx rs x ∧ inRw rx rs (li k) x = 0)) ld 0 ∧ va_P (dC, dI) classes [oc ra 8 [.int (nI T), .int (nI Ac), .ref (rA 2), .ref (rA 3), .ref (rA 4), .ref (rA 5), .ref (rA 6), .ref (rA 7), .ref (rA 8), .ref (rA 9), .ref (rA 10), .ref (rA 11), .ref (rA 12), .ref (rA 13), .int ir, .ref (rA 15), .ref (rA 16), .ref (rA 17), .ref (rA 18), .int (nI md), .int (nI wd), .ref (rA 21), .ref (rA 22), .ref (rA 23), .int (nI mn), .ref (rA 25), .int (nI cb), .int mr, .ref (rA 28), .ref (rA 29), .ref (rA 30), .ref (rA 31), .ref (rA 32), .ref (rA 33), .ref (rA 34), .ref (rA 35), .int (nI ld), .int (nI gm), .ref (rA 38), .ref (rA 39), .ref (rA 40), .ref (rA 41), .ref (rA 42), .ref (rA 43), .ref (rA 44), .ref (rA 45), .int (nI my), .ref (rA 47)], ia (rA 38) (rK9 38) 28 (fun i => nI (rx i)), ia (rA 39) (rK9 39) 4 (fun i => nI (rs i)), ia (rA 3) (rK9 3) 28 (fun i => nI (kd i)), ia (rA 29) (rK9 29) 28 (fun i0 => mN (fm i0)), ia (rA 35) (rK9 35) 7 (fun i => nI (li i)), ia (rA 30) (rK9 30) 28 (fun i => nI (hp i)), ia (rA 4) (rK9 4) 28 (fun i => nI (vx i))] H ∧ va_S A s.heap H locs ∧ lv_has ls 6 [(4, .int (nI i1)), (3, .int (mN (lsN rx rs x))), (0, .ref ra), (1, .int (nI a)), (2, .int (nI x))]) ⟨rfl, hP, hS, hl⟩ ?_ ?_
        · intro i1 H locs ls hi1 hI ih_i1
          obtain ⟨hinv, hP, hS, hl⟩ := hI
          refine lv_iload hx hb d_Ref_mayFollow_68 (lv_at hl 0 rfl) ?_
          refine lv_aload_n hx hb d_Ref_mayFollow_70 rfl (lv_at hl 2 rfl) ?_
          refine va_get (D := (dC, dI)) (ci := 8) (v := .int (nI ld)) (C := R_Ref) (T := F_Ref) (N := 48) hx hb hw i_Ref hown hK hP 0 rfl rfl 36 (by decide) (hw _ m_935) (fun _ h9 => h9) rfl d_Ref_mayFollow_71 ?_
          refine lv_icmp_ge (tgt := 147) hx hb d_Ref_mayFollow_74 (by decide) (fun c9 => absurd c9 (nI_ge hi1 (by omega))) (fun c9 => ?_)
          rw [show ld - i1 = (ld - (i1 + 1)) + 1 from by omega, fF] at hinv
          have hl1 := hli i1 (by omega)
          obtain ⟨hk1, hv1⟩ := hkd (li i1) hl1
          have hf1 := hfm (li i1) hl1
          have hh1 := hhp (li i1) hl1
          refine tp_pc (pc' := 77) (by rfl) ?_
          refine lv_aload_n hx hb d_Ref_mayFollow_77 rfl (lv_at hl 2 rfl) ?_
          refine va_get (D := (dC, dI)) (ci := 8) (v := .ref (rA 35)) (C := R_Ref) (T := F_Ref) (N := 48) hx hb hw i_Ref hown hK hP 0 rfl rfl 35 (by decide) (hw _ m_934) (fun _ h9 => h9) rfl d_Ref_mayFollow_78 ?_
          refine lv_iload hx hb d_Ref_mayFollow_81 (lv_at hl 0 rfl) ?_
          refine va_iald (D := (dC, dI)) hx hb hK hP 5 4 rfl rfl (i := nI i1) (pk_in i1 7 (by omega)) d_Ref_mayFollow_83 ?_
          refine tp_i (y := nI (li i1)) (by rw [show (nI i1 : Int32).toNatClampNeg = i1 from pk_cl i1]) ?_
          refine lv_istore (lv' := [(5, .int (nI (li i1))), (4, .int (nI i1)), (3, .int (mN (lsN rx rs x))), (0, .ref ra), (1, .int (nI a)), (2, .int (nI x))]) hx hb d_Ref_mayFollow_84 hl (by decide) rfl ?_
          clear hl ls
          intro ls hl
          refine lv_aload_n hx hb d_Ref_mayFollow_86 rfl (lv_at hl 3 rfl) ?_
          refine va_get (D := (dC, dI)) (ci := 8) (v := .ref (rA 3)) (C := R_Ref) (T := F_Ref) (N := 48) hx hb hw i_Ref hown hK hP 0 rfl rfl 3 (by decide) (hw _ m_902) (fun _ h9 => h9) rfl d_Ref_mayFollow_87 ?_
          refine lv_iload hx hb d_Ref_mayFollow_90 (lv_at hl 0 rfl) ?_
          refine va_iald (D := (dC, dI)) hx hb hK hP 3 2 rfl rfl (i := nI (li i1)) (pk_in (li i1) 28 (by omega)) d_Ref_mayFollow_92 ?_
          refine tp_i (y := nI (kd (li i1))) (by rw [show (nI (li i1) : Int32).toNatClampNeg = li i1 from pk_cl (li i1)]) ?_
          refine lv_iconst (v := 3) hx hb d_Ref_mayFollow_93 (by decide) ?_
          refine lv_icmp_ne (tgt := 141) hx hb d_Ref_mayFollow_94 (by decide) (fun d1 => ?_) (fun d1 => ?_)
          · skip
            have hd1 : ¬ (kd (li i1) = 3) := fun q9 => d1 ((nI_eq (a := kd (li i1)) (b := 3) (by omega) (by omega)).mpr q9)
            rw [if_neg (by rw [decide_eq_false (fun q => hd1 q.1)]; decide)] at hinv
            refine tp_pc (pc' := 141) (by rfl) ?_
            refine lv_iinc (v := nI (i1 + 1)) (lv' := [(4, .int (nI (i1 + 1))), (5, .int (nI (li i1))), (3, .int (mN (lsN rx rs x))), (0, .ref ra), (1, .int (nI a)), (2, .int (nI x))]) hx hb d_Ref_mayFollow_141 hl (k := 1) rfl (by exact nI_1 i1) (by decide) rfl ?_
            clear hl ls
            intro ls hl
            refine lv_goto (tgt := 68) hx hb d_Ref_mayFollow_144 (by decide) ?_
            refine tp_pc (pc' := 68) (by rfl) ?_
            obtain ⟨hP8, -, -⟩ := cut3 (wc := [oc ra 8 [.int (nI T), .int (nI Ac), .ref (rA 2), .ref (rA 3), .ref (rA 4), .ref (rA 5), .ref (rA 6), .ref (rA 7), .ref (rA 8), .ref (rA 9), .ref (rA 10), .ref (rA 11), .ref (rA 12), .ref (rA 13), .int ir, .ref (rA 15), .ref (rA 16), .ref (rA 17), .ref (rA 18), .int (nI md), .int (nI wd), .ref (rA 21), .ref (rA 22), .ref (rA 23), .int (nI mn), .ref (rA 25), .int (nI cb), .int mr, .ref (rA 28), .ref (rA 29), .ref (rA 30), .ref (rA 31), .ref (rA 32), .ref (rA 33), .ref (rA 34), .ref (rA 35), .int (nI ld), .int (nI gm), .ref (rA 38), .ref (rA 39), .ref (rA 40), .ref (rA 41), .ref (rA 42), .ref (rA 43), .ref (rA 44), .ref (rA 45), .int (nI my), .ref (rA 47)], ia (rA 38) (rK9 38) 28 (fun i => nI (rx i)), ia (rA 39) (rK9 39) 4 (fun i => nI (rs i)), ia (rA 3) (rK9 3) 28 (fun i => nI (kd i)), ia (rA 29) (rK9 29) 28 (fun i0 => mN (fm i0)), ia (rA 35) (rK9 35) 7 (fun i => nI (li i)), ia (rA 30) (rK9 30) 28 (fun i => nI (hp i)), ia (rA 4) (rK9 4) 28 (fun i => nI (vx i))]) hP hD rfl hS hA [0, 1, 2, 3, 4, 5, 6, 7] (by decide +kernel) rfl
            exact ih_i1 _ _ _ ⟨hinv, hP8, hS, lv_sub hl [0, 2, 3, 4, 5] rfl⟩
          · skip
            have hd1 : kd (li i1) = 3 := (nI_eq (a := kd (li i1)) (b := 3) (by omega) (by omega)).mp d1
            refine tp_pc (pc' := 97) (by rfl) ?_
            refine lv_aload_n hx hb d_Ref_mayFollow_97 rfl (lv_at hl 3 rfl) ?_
            refine va_get (D := (dC, dI)) (ci := 8) (v := .ref (rA 30)) (C := R_Ref) (T := F_Ref) (N := 48) hx hb hw i_Ref hown hK hP 0 rfl rfl 30 (by decide) (hw _ m_929) (fun _ h9 => h9) rfl d_Ref_mayFollow_98 ?_
            refine lv_iload hx hb d_Ref_mayFollow_101 (lv_at hl 0 rfl) ?_
            refine va_zald (D := (dC, dI)) hx hb hK hP 6 5 rfl rfl (i := nI (li i1)) (pk_in (li i1) 28 (by omega)) d_Ref_mayFollow_103 ?_
            refine tp_i (y := nI (hp (li i1))) (by rw [show (nI (li i1) : Int32).toNatClampNeg = li i1 from pk_cl (li i1)]) ?_
            refine lv_if_eq (tgt := 141) hx hb d_Ref_mayFollow_104 (by decide) (fun d2 => ?_) (fun d2 => ?_)
            · skip
              have hd2 : hp (li i1) = 0 := (nI_eq (a := hp (li i1)) (b := 0) (by omega) (by omega)).mp d2
              rw [if_neg (by rw [decide_eq_false (fun q => absurd q.2.1 (by omega))]; decide)] at hinv
              refine tp_pc (pc' := 141) (by rfl) ?_
              refine lv_iinc (v := nI (i1 + 1)) (lv' := [(4, .int (nI (i1 + 1))), (5, .int (nI (li i1))), (3, .int (mN (lsN rx rs x))), (0, .ref ra), (1, .int (nI a)), (2, .int (nI x))]) hx hb d_Ref_mayFollow_141 hl (k := 1) rfl (by exact nI_1 i1) (by decide) rfl ?_
              clear hl ls
              intro ls hl
              refine lv_goto (tgt := 68) hx hb d_Ref_mayFollow_144 (by decide) ?_
              refine tp_pc (pc' := 68) (by rfl) ?_
              obtain ⟨hP8, -, -⟩ := cut3 (wc := [oc ra 8 [.int (nI T), .int (nI Ac), .ref (rA 2), .ref (rA 3), .ref (rA 4), .ref (rA 5), .ref (rA 6), .ref (rA 7), .ref (rA 8), .ref (rA 9), .ref (rA 10), .ref (rA 11), .ref (rA 12), .ref (rA 13), .int ir, .ref (rA 15), .ref (rA 16), .ref (rA 17), .ref (rA 18), .int (nI md), .int (nI wd), .ref (rA 21), .ref (rA 22), .ref (rA 23), .int (nI mn), .ref (rA 25), .int (nI cb), .int mr, .ref (rA 28), .ref (rA 29), .ref (rA 30), .ref (rA 31), .ref (rA 32), .ref (rA 33), .ref (rA 34), .ref (rA 35), .int (nI ld), .int (nI gm), .ref (rA 38), .ref (rA 39), .ref (rA 40), .ref (rA 41), .ref (rA 42), .ref (rA 43), .ref (rA 44), .ref (rA 45), .int (nI my), .ref (rA 47)], ia (rA 38) (rK9 38) 28 (fun i => nI (rx i)), ia (rA 39) (rK9 39) 4 (fun i => nI (rs i)), ia (rA 3) (rK9 3) 28 (fun i => nI (kd i)), ia (rA 29) (rK9 29) 28 (fun i0 => mN (fm i0)), ia (rA 35) (rK9 35) 7 (fun i => nI (li i)), ia (rA 30) (rK9 30) 28 (fun i => nI (hp i)), ia (rA 4) (rK9 4) 28 (fun i => nI (vx i))]) hP hD rfl hS hA [0, 1, 2, 3, 4, 5, 6, 7] (by decide +kernel) rfl
              exact ih_i1 _ _ _ ⟨hinv, hP8, hS, lv_sub hl [0, 2, 3, 4, 5] rfl⟩
            · skip
              have hd2 : ¬ (hp (li i1) = 0) := fun q9 => d2 ((nI_eq (a := hp (li i1)) (b := 0) (by omega) (by omega)).mpr q9)
              refine tp_pc (pc' := 107) (by rfl) ?_
              refine lv_aload_n hx hb d_Ref_mayFollow_107 rfl (lv_at hl 3 rfl) ?_
              refine va_get (D := (dC, dI)) (ci := 8) (v := .ref (rA 4)) (C := R_Ref) (T := F_Ref) (N := 48) hx hb hw i_Ref hown hK hP 0 rfl rfl 4 (by decide) (hw _ m_903) (fun _ h9 => h9) rfl d_Ref_mayFollow_108 ?_
              refine lv_iload hx hb d_Ref_mayFollow_111 (lv_at hl 0 rfl) ?_
              refine va_iald (D := (dC, dI)) hx hb hK hP 7 6 rfl rfl (i := nI (li i1)) (pk_in (li i1) 28 (by omega)) d_Ref_mayFollow_113 ?_
              refine tp_i (y := nI (vx (li i1))) (by rw [show (nI (li i1) : Int32).toNatClampNeg = li i1 from pk_cl (li i1)]) ?_
              refine lv_iload_n hx hb d_Ref_mayFollow_114 rfl (lv_at hl 5 rfl) ?_
              refine lv_icmp_ne (tgt := 141) hx hb d_Ref_mayFollow_115 (by decide) (fun d3 => ?_) (fun d3 => ?_)
              · skip
                have hd3 : ¬ (vx (li i1) = x) := fun q9 => d3 ((nI_eq (a := vx (li i1)) (b := x) (by omega) (by omega)).mpr q9)
                rw [if_neg (by rw [decide_eq_false (fun q => hd3 q.2.2.1)]; decide)] at hinv
                refine tp_pc (pc' := 141) (by rfl) ?_
                refine lv_iinc (v := nI (i1 + 1)) (lv' := [(4, .int (nI (i1 + 1))), (5, .int (nI (li i1))), (3, .int (mN (lsN rx rs x))), (0, .ref ra), (1, .int (nI a)), (2, .int (nI x))]) hx hb d_Ref_mayFollow_141 hl (k := 1) rfl (by exact nI_1 i1) (by decide) rfl ?_
                clear hl ls
                intro ls hl
                refine lv_goto (tgt := 68) hx hb d_Ref_mayFollow_144 (by decide) ?_
                refine tp_pc (pc' := 68) (by rfl) ?_
                obtain ⟨hP8, -, -⟩ := cut3 (wc := [oc ra 8 [.int (nI T), .int (nI Ac), .ref (rA 2), .ref (rA 3), .ref (rA 4), .ref (rA 5), .ref (rA 6), .ref (rA 7), .ref (rA 8), .ref (rA 9), .ref (rA 10), .ref (rA 11), .ref (rA 12), .ref (rA 13), .int ir, .ref (rA 15), .ref (rA 16), .ref (rA 17), .ref (rA 18), .int (nI md), .int (nI wd), .ref (rA 21), .ref (rA 22), .ref (rA 23), .int (nI mn), .ref (rA 25), .int (nI cb), .int mr, .ref (rA 28), .ref (rA 29), .ref (rA 30), .ref (rA 31), .ref (rA 32), .ref (rA 33), .ref (rA 34), .ref (rA 35), .int (nI ld), .int (nI gm), .ref (rA 38), .ref (rA 39), .ref (rA 40), .ref (rA 41), .ref (rA 42), .ref (rA 43), .ref (rA 44), .ref (rA 45), .int (nI my), .ref (rA 47)], ia (rA 38) (rK9 38) 28 (fun i => nI (rx i)), ia (rA 39) (rK9 39) 4 (fun i => nI (rs i)), ia (rA 3) (rK9 3) 28 (fun i => nI (kd i)), ia (rA 29) (rK9 29) 28 (fun i0 => mN (fm i0)), ia (rA 35) (rK9 35) 7 (fun i => nI (li i)), ia (rA 30) (rK9 30) 28 (fun i => nI (hp i)), ia (rA 4) (rK9 4) 28 (fun i => nI (vx i))]) hP hD rfl hS hA [0, 1, 2, 3, 4, 5, 6, 7] (by decide +kernel) rfl
                exact ih_i1 _ _ _ ⟨hinv, hP8, hS, lv_sub hl [0, 2, 3, 4, 5] rfl⟩
              · skip
                have hd3 : vx (li i1) = x := (nI_eq (a := vx (li i1)) (b := x) (by omega) (by omega)).mp d3
                refine tp_pc (pc' := 118) (by rfl) ?_
                refine lv_aload_n hx hb d_Ref_mayFollow_118 rfl (lv_at hl 3 rfl) ?_
                refine va_get (D := (dC, dI)) (ci := 8) (v := .ref (rA 29)) (C := R_Ref) (T := F_Ref) (N := 48) hx hb hw i_Ref hown hK hP 0 rfl rfl 29 (by decide) (hw _ m_928) (fun _ h9 => h9) rfl d_Ref_mayFollow_119 ?_
                refine lv_iload hx hb d_Ref_mayFollow_122 (lv_at hl 0 rfl) ?_
                refine va_iald (D := (dC, dI)) hx hb hK hP 4 3 rfl rfl (i := nI (li i1)) (pk_in (li i1) 28 (by omega)) d_Ref_mayFollow_124 ?_
                refine tp_i (y := (fun i0 => mN (fm i0)) (li i1)) (by rw [show (nI (li i1) : Int32).toNatClampNeg = li i1 from pk_cl (li i1)]) ?_
                refine lv_iload_n hx hb d_Ref_mayFollow_125 rfl (lv_at hl 2 rfl) ?_
                refine lv_icmp_ne (tgt := 141) hx hb d_Ref_mayFollow_126 (by decide) (fun d4 => ?_) (fun d4 => ?_)
                · skip
                  rw [if_neg (by rw [decide_eq_false (fun q => d4 ((mN_inj hf1 hls).mpr q.2.2.2.1))]; decide)] at hinv
                  refine tp_pc (pc' := 141) (by rfl) ?_
                  refine lv_iinc (v := nI (i1 + 1)) (lv' := [(4, .int (nI (i1 + 1))), (5, .int (nI (li i1))), (3, .int (mN (lsN rx rs x))), (0, .ref ra), (1, .int (nI a)), (2, .int (nI x))]) hx hb d_Ref_mayFollow_141 hl (k := 1) rfl (by exact nI_1 i1) (by decide) rfl ?_
                  clear hl ls
                  intro ls hl
                  refine lv_goto (tgt := 68) hx hb d_Ref_mayFollow_144 (by decide) ?_
                  refine tp_pc (pc' := 68) (by rfl) ?_
                  obtain ⟨hP8, -, -⟩ := cut3 (wc := [oc ra 8 [.int (nI T), .int (nI Ac), .ref (rA 2), .ref (rA 3), .ref (rA 4), .ref (rA 5), .ref (rA 6), .ref (rA 7), .ref (rA 8), .ref (rA 9), .ref (rA 10), .ref (rA 11), .ref (rA 12), .ref (rA 13), .int ir, .ref (rA 15), .ref (rA 16), .ref (rA 17), .ref (rA 18), .int (nI md), .int (nI wd), .ref (rA 21), .ref (rA 22), .ref (rA 23), .int (nI mn), .ref (rA 25), .int (nI cb), .int mr, .ref (rA 28), .ref (rA 29), .ref (rA 30), .ref (rA 31), .ref (rA 32), .ref (rA 33), .ref (rA 34), .ref (rA 35), .int (nI ld), .int (nI gm), .ref (rA 38), .ref (rA 39), .ref (rA 40), .ref (rA 41), .ref (rA 42), .ref (rA 43), .ref (rA 44), .ref (rA 45), .int (nI my), .ref (rA 47)], ia (rA 38) (rK9 38) 28 (fun i => nI (rx i)), ia (rA 39) (rK9 39) 4 (fun i => nI (rs i)), ia (rA 3) (rK9 3) 28 (fun i => nI (kd i)), ia (rA 29) (rK9 29) 28 (fun i0 => mN (fm i0)), ia (rA 35) (rK9 35) 7 (fun i => nI (li i)), ia (rA 30) (rK9 30) 28 (fun i => nI (hp i)), ia (rA 4) (rK9 4) 28 (fun i => nI (vx i))]) hP hD rfl hS hA [0, 1, 2, 3, 4, 5, 6, 7] (by decide +kernel) rfl
                  exact ih_i1 _ _ _ ⟨hinv, hP8, hS, lv_sub hl [0, 2, 3, 4, 5] rfl⟩
                · skip
                  refine tp_pc (pc' := 129) (by rfl) ?_
                  refine lv_aload_n hx hb d_Ref_mayFollow_129 rfl (lv_at hl 3 rfl) ?_
                  refine lv_iload hx hb d_Ref_mayFollow_130 (lv_at hl 0 rfl) ?_
                  refine lv_iload_n hx hb d_Ref_mayFollow_132 rfl (lv_at hl 5 rfl) ?_
                  obtain ⟨hPc, hDc, hFc⟩ := cut3 (wc := [oc ra 8 [.int (nI T), .int (nI Ac), .ref (rA 2), .ref (rA 3), .ref (rA 4), .ref (rA 5), .ref (rA 6), .ref (rA 7), .ref (rA 8), .ref (rA 9), .ref (rA 10), .ref (rA 11), .ref (rA 12), .ref (rA 13), .int ir, .ref (rA 15), .ref (rA 16), .ref (rA 17), .ref (rA 18), .int (nI md), .int (nI wd), .ref (rA 21), .ref (rA 22), .ref (rA 23), .int (nI mn), .ref (rA 25), .int (nI cb), .int mr, .ref (rA 28), .ref (rA 29), .ref (rA 30), .ref (rA 31), .ref (rA 32), .ref (rA 33), .ref (rA 34), .ref (rA 35), .int (nI ld), .int (nI gm), .ref (rA 38), .ref (rA 39), .ref (rA 40), .ref (rA 41), .ref (rA 42), .ref (rA 43), .ref (rA 44), .ref (rA 45), .int (nI my), .ref (rA 47)], ia (rA 38) (rK9 38) 28 (fun i => nI (rx i)), ia (rA 39) (rK9 39) 4 (fun i => nI (rs i))]) hP hD rfl hS hA [0, 1, 2] (by decide +kernel) rfl
                  have hKc := hK.sub (tys' := [((rK9 38), .int), ((rK9 39), .int)]) [0, 1] rfl
                  refine va_calli (va_runV (As := [.int (nI (li i1)), .int (nI x)]) (rest := []) ⟨hx, hb, hml, hown, hw⟩ (gen_Ref_isInRow l dC dI ra rA rK9 T Ac md wd mn cb ld gm my ir mr (li i1) x rx rs hl1 hx4 hrs hrx H.size) (cw_V 2 hw g_Ref_isInRow rfl rfl rfl (hw _ m_109) (hw _ m_1260) (hw _ m_1262) (hw _ m_95) (by decide +kernel) ⟨Nat.le_of_ble_eq_true rfl, Nat.le_of_ble_eq_true rfl⟩) ⟨fun a U g mk q => by obtain ⟨q0, q1, qP, qK, qD, qN⟩ := q; exact ⟨q0, q1, qP, va_K.moved (u := U) (U := U.calling g mk a) (Vm.Alike.refl U.vm) qK, qD, nw_call qN⟩, va_recv hKc hPc (ci := 8) (q0 := 0) rfl rfl, fun U hU hW => ⟨rfl, by rw [hU], by rw [hU]; exact hPc, va_K.moved hW.alike hKc, hDc.weaken (fun _ _ _ _ => trivial), nw_warm hW hn⟩⟩ rfl rfl hl.1 rfl (lv_room (Nat.le_of_ble_eq_true rfl)) d_Ref_mayFollow_133 ⟨Nat.le_of_ble_eq_true rfl, Nat.le_of_ble_eq_true rfl⟩) hS (fun q _ h => hFc q h) hFc ?_
                  intro r_1 u t9 H1 locs1 ht9 hvm hw1 hB hz1 hk1 hS1
                  obtain ⟨hP1, hK1, hD1⟩ := hB
                  rw [ht9] at hP1
                  replace hK1 := va_K.moved hvm.symm hK1
                  have hPD := join3 hP hD rfl [0, 1, 2] [3, 4, 5, 6, 7] rfl (by rfl) (by decide +kernel) (by decide +kernel) hk1 hFc hP1 hD1
                  replace hK : va_K (dC, dI) classes [((rK9 38), .int), ((rK9 39), .int), ((rK9 3), .int), ((rK9 29), .int), ((rK9 35), .int), ((rK9 30), .boolean), ((rK9 4), .int)] s := hK.app hK1
                  clear hP1 hK1 hD1 hk1 hz1 hFc hKc hDc hPc hvm ht9 hP hS t9 locs H
                  have hP : va_P (dC, dI) classes [ia (rA 3) (rK9 3) 28 (fun i => nI (kd i)), ia (rA 29) (rK9 29) 28 (fun i0 => mN (fm i0)), ia (rA 35) (rK9 35) 7 (fun i => nI (li i)), ia (rA 30) (rK9 30) 28 (fun i => nI (hp i)), ia (rA 4) (rK9 4) 28 (fun i => nI (vx i)), oc ra 8 [.int (nI T), .int (nI Ac), .ref (rA 2), .ref (rA 3), .ref (rA 4), .ref (rA 5), .ref (rA 6), .ref (rA 7), .ref (rA 8), .ref (rA 9), .ref (rA 10), .ref (rA 11), .ref (rA 12), .ref (rA 13), .int ir, .ref (rA 15), .ref (rA 16), .ref (rA 17), .ref (rA 18), .int (nI md), .int (nI wd), .ref (rA 21), .ref (rA 22), .ref (rA 23), .int (nI mn), .ref (rA 25), .int (nI cb), .int mr, .ref (rA 28), .ref (rA 29), .ref (rA 30), .ref (rA 31), .ref (rA 32), .ref (rA 33), .ref (rA 34), .ref (rA 35), .int (nI ld), .int (nI gm), .ref (rA 38), .ref (rA 39), .ref (rA 40), .ref (rA 41), .ref (rA 42), .ref (rA 43), .ref (rA 44), .ref (rA 45), .int (nI my), .ref (rA 47)], ia (rA 38) (rK9 38) 28 (fun i => nI (rx i)), ia (rA 39) (rK9 39) 4 (fun i => nI (rs i))] H1 := hPD.1
                  replace hD : dd A [(rA 3), (rA 29), (rA 35), (rA 30), (rA 4), ra, (rA 38), (rA 39)] := dd_of hPD.2 rfl
                  clear hPD
                  revert H1 locs1
                  intro H locs hS hP
                  refine tp_i (y := (if inRw rx rs (li i1) x = 0 then 0 else 1)) (hw1) ?_
                  clear hw1 r_1 u
                  by_cases hir : inRw rx rs (li i1) x = 0
                  · skip
                    rw [if_pos hir]
                    rw [if_pos (decide_eq_true ⟨hd1, (by omega : hp (li i1) = 1), hd3, (mN_inj hf1 hls).mp d4, hir⟩)] at hinv
                    refine tp_pc (pc' := 136) (by rfl) ?_
                    refine lv_if_ne (tgt := 141) hx hb d_Ref_mayFollow_136 (by decide) (fun c_2 => absurd c_2 (by decide)) (fun c_2 => ?_)
                    refine tp_pc (pc' := 139) (by rfl) ?_
                    refine lv_iconst (v := 0) hx hb d_Ref_mayFollow_139 (by decide) ?_
                    obtain ⟨hP9, hD9, -⟩ := cut3 (wc := [oc ra 8 [.int (nI T), .int (nI Ac), .ref (rA 2), .ref (rA 3), .ref (rA 4), .ref (rA 5), .ref (rA 6), .ref (rA 7), .ref (rA 8), .ref (rA 9), .ref (rA 10), .ref (rA 11), .ref (rA 12), .ref (rA 13), .int ir, .ref (rA 15), .ref (rA 16), .ref (rA 17), .ref (rA 18), .int (nI md), .int (nI wd), .ref (rA 21), .ref (rA 22), .ref (rA 23), .int (nI mn), .ref (rA 25), .int (nI cb), .int mr, .ref (rA 28), .ref (rA 29), .ref (rA 30), .ref (rA 31), .ref (rA 32), .ref (rA 33), .ref (rA 34), .ref (rA 35), .int (nI ld), .int (nI gm), .ref (rA 38), .ref (rA 39), .ref (rA 40), .ref (rA 41), .ref (rA 42), .ref (rA 43), .ref (rA 44), .ref (rA 45), .int (nI my), .ref (rA 47)], ia (rA 38) (rK9 38) 28 (fun i => nI (rx i)), ia (rA 39) (rK9 39) 4 (fun i => nI (rs i)), ia (rA 3) (rK9 3) 28 (fun i => nI (kd i)), ia (rA 29) (rK9 29) 28 (fun i0 => mN (fm i0)), ia (rA 35) (rK9 35) 7 (fun i => nI (li i)), ia (rA 30) (rK9 30) 28 (fun i => nI (hp i)), ia (rA 4) (rK9 4) 28 (fun i => nI (vx i))]) hP hD rfl hS hA [5, 6, 7, 0, 1, 2, 3, 4] (by decide +kernel) rfl
                    have hK9 := hK.sub (tys' := []) [] rfl
                    refine W.widen (k := 0) (n := 0) (by exact Nat.le_of_ble_eq_true rfl) (by exact Nat.le_of_ble_eq_true rfl) ?_
                    exact W.zret (v := 0) (ty := .boolean) hx hb hr (by decide) (fun t9 ht9 hW => ⟨⟨0, (), rfl, by rw [if_neg (fun q => by rcases q with q | q | q; (exact hc1 q); (exact hc2 q.1); (rw [q.2] at hinv; exact absurd hinv (by omega)))], by rw [ht9]; exact hP9, va_K.moved hW.alike hK9, hD9⟩, hS.F ht9⟩) hS.2.2 d_Ref_mayFollow_140
                  · skip
                    rw [if_neg hir]
                    rw [if_neg (by rw [decide_eq_false (fun q => hir q.2.2.2.2)]; decide)] at hinv
                    refine tp_pc (pc' := 136) (by rfl) ?_
                    refine lv_if_ne (tgt := 141) hx hb d_Ref_mayFollow_136 (by decide) (fun c_3 => ?_) (fun c_3 => absurd c_3 (by decide))
                    refine tp_pc (pc' := 141) (by rfl) ?_
                    refine lv_iinc (v := nI (i1 + 1)) (lv' := [(4, .int (nI (i1 + 1))), (5, .int (nI (li i1))), (3, .int (mN (lsN rx rs x))), (0, .ref ra), (1, .int (nI a)), (2, .int (nI x))]) hx hb d_Ref_mayFollow_141 hl (k := 1) rfl (by exact nI_1 i1) (by decide) rfl ?_
                    clear hl ls
                    intro ls hl
                    refine lv_goto (tgt := 68) hx hb d_Ref_mayFollow_144 (by decide) ?_
                    refine tp_pc (pc' := 68) (by rfl) ?_
                    obtain ⟨hP8, -, -⟩ := cut3 (wc := [oc ra 8 [.int (nI T), .int (nI Ac), .ref (rA 2), .ref (rA 3), .ref (rA 4), .ref (rA 5), .ref (rA 6), .ref (rA 7), .ref (rA 8), .ref (rA 9), .ref (rA 10), .ref (rA 11), .ref (rA 12), .ref (rA 13), .int ir, .ref (rA 15), .ref (rA 16), .ref (rA 17), .ref (rA 18), .int (nI md), .int (nI wd), .ref (rA 21), .ref (rA 22), .ref (rA 23), .int (nI mn), .ref (rA 25), .int (nI cb), .int mr, .ref (rA 28), .ref (rA 29), .ref (rA 30), .ref (rA 31), .ref (rA 32), .ref (rA 33), .ref (rA 34), .ref (rA 35), .int (nI ld), .int (nI gm), .ref (rA 38), .ref (rA 39), .ref (rA 40), .ref (rA 41), .ref (rA 42), .ref (rA 43), .ref (rA 44), .ref (rA 45), .int (nI my), .ref (rA 47)], ia (rA 38) (rK9 38) 28 (fun i => nI (rx i)), ia (rA 39) (rK9 39) 4 (fun i => nI (rs i)), ia (rA 3) (rK9 3) 28 (fun i => nI (kd i)), ia (rA 29) (rK9 29) 28 (fun i0 => mN (fm i0)), ia (rA 35) (rK9 35) 7 (fun i => nI (li i)), ia (rA 30) (rK9 30) 28 (fun i => nI (hp i)), ia (rA 4) (rK9 4) 28 (fun i => nI (vx i))]) hP hD rfl hS hA [5, 6, 7, 0, 1, 2, 3, 4] (by decide +kernel) rfl
                    exact ih_i1 _ _ _ ⟨hinv, hP8, hS, lv_sub hl [0, 2, 3, 4, 5] rfl⟩
        · intro H locs ls hI
          obtain ⟨hinv, hP, hS, hl⟩ := hI
          rw [Nat.sub_self] at hinv
          replace hinv : 0 = fF (fun k => decide (kd (li k) = 3 ∧ hp (li k) = 1 ∧ vx (li k) = x ∧ fm (li k) = lsN rx rs x ∧ inRw rx rs (li k) x = 0)) ld 0 := hinv
          refine lv_iload hx hb d_Ref_mayFollow_68 (lv_at hl 0 rfl) ?_
          refine lv_aload_n hx hb d_Ref_mayFollow_70 rfl (lv_at hl 2 rfl) ?_
          refine va_get (D := (dC, dI)) (ci := 8) (v := .int (nI ld)) (C := R_Ref) (T := F_Ref) (N := 48) hx hb hw i_Ref hown hK hP 0 rfl rfl 36 (by decide) (hw _ m_935) (fun _ h9 => h9) rfl d_Ref_mayFollow_71 ?_
          refine lv_icmp_ge (tgt := 147) hx hb d_Ref_mayFollow_74 (by decide) (fun c9 => ?_) (fun c9 => absurd (nI_le (Nat.le_refl _) (by omega)) c9)
          refine tp_pc (pc' := 147) (by rfl) ?_
          refine lv_iconst (v := 1) hx hb d_Ref_mayFollow_147 (by decide) ?_
          obtain ⟨hP9, hD9, -⟩ := cut3 (wc := [oc ra 8 [.int (nI T), .int (nI Ac), .ref (rA 2), .ref (rA 3), .ref (rA 4), .ref (rA 5), .ref (rA 6), .ref (rA 7), .ref (rA 8), .ref (rA 9), .ref (rA 10), .ref (rA 11), .ref (rA 12), .ref (rA 13), .int ir, .ref (rA 15), .ref (rA 16), .ref (rA 17), .ref (rA 18), .int (nI md), .int (nI wd), .ref (rA 21), .ref (rA 22), .ref (rA 23), .int (nI mn), .ref (rA 25), .int (nI cb), .int mr, .ref (rA 28), .ref (rA 29), .ref (rA 30), .ref (rA 31), .ref (rA 32), .ref (rA 33), .ref (rA 34), .ref (rA 35), .int (nI ld), .int (nI gm), .ref (rA 38), .ref (rA 39), .ref (rA 40), .ref (rA 41), .ref (rA 42), .ref (rA 43), .ref (rA 44), .ref (rA 45), .int (nI my), .ref (rA 47)], ia (rA 38) (rK9 38) 28 (fun i => nI (rx i)), ia (rA 39) (rK9 39) 4 (fun i => nI (rs i)), ia (rA 3) (rK9 3) 28 (fun i => nI (kd i)), ia (rA 29) (rK9 29) 28 (fun i0 => mN (fm i0)), ia (rA 35) (rK9 35) 7 (fun i => nI (li i)), ia (rA 30) (rK9 30) 28 (fun i => nI (hp i)), ia (rA 4) (rK9 4) 28 (fun i => nI (vx i))]) hP hD rfl hS hA [0, 1, 2, 3, 4, 5, 6, 7] (by decide +kernel) rfl
          have hK9 := hK.sub (tys' := []) [] rfl
          refine W.widen (k := 0) (n := 0) (by exact Nat.le_of_ble_eq_true rfl) (by exact Nat.le_of_ble_eq_true rfl) ?_
          exact W.zret (v := 1) (ty := .boolean) hx hb hr (by decide) (fun t9 ht9 hW => ⟨⟨1, (), rfl, by rw [if_pos (Or.inr (Or.inr ⟨hc2, hinv.symm⟩))], by rw [ht9]; exact hP9, va_K.moved hW.alike hK9, hD9⟩, hS.F ht9⟩) hS.2.2 d_Ref_mayFollow_148
      · skip
        have hc2 : kd a = 3 := (nI_eq (a := kd a) (b := 3) (by omega) (by omega)).mp c2
        refine tp_pc (pc' := 49) (by rfl) ?_
        refine lv_aload_n hx hb d_Ref_mayFollow_49 rfl (lv_at hl 1 rfl) ?_
        refine va_get (D := (dC, dI)) (ci := 8) (v := .ref (rA 29)) (C := R_Ref) (T := F_Ref) (N := 48) hx hb hw i_Ref hown hK hP 0 rfl rfl 29 (by decide) (hw _ m_928) (fun _ h9 => h9) rfl d_Ref_mayFollow_50 ?_
        refine lv_iload_n hx hb d_Ref_mayFollow_53 rfl (lv_at hl 2 rfl) ?_
        refine va_iald (D := (dC, dI)) hx hb hK hP 4 3 rfl rfl (i := nI a) (pk_in a 28 (by omega)) d_Ref_mayFollow_54 ?_
        refine tp_i (y := (fun i0 => mN (fm i0)) a) (by rw [show (nI a : Int32).toNatClampNeg = a from pk_cl a]) ?_
        refine lv_iload_n hx hb d_Ref_mayFollow_55 rfl (lv_at hl 0 rfl) ?_
        refine lv_icmp_ne (tgt := 63) hx hb d_Ref_mayFollow_56 (by decide) (fun d4 => ?_) (fun d4 => ?_)
        · skip
          refine tp_pc (pc' := 63) (by rfl) ?_
          refine lv_iconst (v := 0) hx hb d_Ref_mayFollow_63 (by decide) ?_
          obtain ⟨hP9, hD9, -⟩ := cut3 (wc := [oc ra 8 [.int (nI T), .int (nI Ac), .ref (rA 2), .ref (rA 3), .ref (rA 4), .ref (rA 5), .ref (rA 6), .ref (rA 7), .ref (rA 8), .ref (rA 9), .ref (rA 10), .ref (rA 11), .ref (rA 12), .ref (rA 13), .int ir, .ref (rA 15), .ref (rA 16), .ref (rA 17), .ref (rA 18), .int (nI md), .int (nI wd), .ref (rA 21), .ref (rA 22), .ref (rA 23), .int (nI mn), .ref (rA 25), .int (nI cb), .int mr, .ref (rA 28), .ref (rA 29), .ref (rA 30), .ref (rA 31), .ref (rA 32), .ref (rA 33), .ref (rA 34), .ref (rA 35), .int (nI ld), .int (nI gm), .ref (rA 38), .ref (rA 39), .ref (rA 40), .ref (rA 41), .ref (rA 42), .ref (rA 43), .ref (rA 44), .ref (rA 45), .int (nI my), .ref (rA 47)], ia (rA 38) (rK9 38) 28 (fun i => nI (rx i)), ia (rA 39) (rK9 39) 4 (fun i => nI (rs i)), ia (rA 3) (rK9 3) 28 (fun i => nI (kd i)), ia (rA 29) (rK9 29) 28 (fun i0 => mN (fm i0)), ia (rA 35) (rK9 35) 7 (fun i => nI (li i)), ia (rA 30) (rK9 30) 28 (fun i => nI (hp i)), ia (rA 4) (rK9 4) 28 (fun i => nI (vx i))]) hP hD rfl hS hA [0, 1, 2, 3, 4, 5, 6, 7] (by decide +kernel) rfl
          have hK9 := hK.sub (tys' := []) [] rfl
          refine W.widen (k := 0) (n := 0) (by exact Nat.le_of_ble_eq_true rfl) (by exact Nat.le_of_ble_eq_true rfl) ?_
          exact W.zret (v := 0) (ty := .boolean) hx hb hr (by decide) (fun t9 ht9 hW => ⟨⟨0, (), rfl, by rw [if_neg (fun q => by rcases q with q | q | q; (exact hc1 q); (exact d4 ((mN_inj hfa hls).mpr q.2)); (exact q.1 hc2))], by rw [ht9]; exact hP9, va_K.moved hW.alike hK9, hD9⟩, hS.F ht9⟩) hS.2.2 d_Ref_mayFollow_64
        · skip
          refine tp_pc (pc' := 59) (by rfl) ?_
          refine lv_iconst (v := 1) hx hb d_Ref_mayFollow_59 (by decide) ?_
          refine lv_goto (tgt := 64) hx hb d_Ref_mayFollow_60 (by decide) ?_
          refine tp_pc (pc' := 64) (by rfl) ?_
          obtain ⟨hP9, hD9, -⟩ := cut3 (wc := [oc ra 8 [.int (nI T), .int (nI Ac), .ref (rA 2), .ref (rA 3), .ref (rA 4), .ref (rA 5), .ref (rA 6), .ref (rA 7), .ref (rA 8), .ref (rA 9), .ref (rA 10), .ref (rA 11), .ref (rA 12), .ref (rA 13), .int ir, .ref (rA 15), .ref (rA 16), .ref (rA 17), .ref (rA 18), .int (nI md), .int (nI wd), .ref (rA 21), .ref (rA 22), .ref (rA 23), .int (nI mn), .ref (rA 25), .int (nI cb), .int mr, .ref (rA 28), .ref (rA 29), .ref (rA 30), .ref (rA 31), .ref (rA 32), .ref (rA 33), .ref (rA 34), .ref (rA 35), .int (nI ld), .int (nI gm), .ref (rA 38), .ref (rA 39), .ref (rA 40), .ref (rA 41), .ref (rA 42), .ref (rA 43), .ref (rA 44), .ref (rA 45), .int (nI my), .ref (rA 47)], ia (rA 38) (rK9 38) 28 (fun i => nI (rx i)), ia (rA 39) (rK9 39) 4 (fun i => nI (rs i)), ia (rA 3) (rK9 3) 28 (fun i => nI (kd i)), ia (rA 29) (rK9 29) 28 (fun i0 => mN (fm i0)), ia (rA 35) (rK9 35) 7 (fun i => nI (li i)), ia (rA 30) (rK9 30) 28 (fun i => nI (hp i)), ia (rA 4) (rK9 4) 28 (fun i => nI (vx i))]) hP hD rfl hS hA [0, 1, 2, 3, 4, 5, 6, 7] (by decide +kernel) rfl
          have hK9 := hK.sub (tys' := []) [] rfl
          refine W.widen (k := 0) (n := 0) (by exact Nat.le_of_ble_eq_true rfl) (by exact Nat.le_of_ble_eq_true rfl) ?_
          exact W.zret (v := 1) (ty := .boolean) hx hb hr (by decide) (fun t9 ht9 hW => ⟨⟨1, (), rfl, by rw [if_pos (Or.inr (Or.inl ⟨hc2, (mN_inj hfa hls).mp d4⟩))], by rw [ht9]; exact hP9, va_K.moved hW.alike hK9, hD9⟩, hS.F ht9⟩) hS.2.2 d_Ref_mayFollow_64
  · skip
    have hc1 : x = 3 := (nI_eq (a := x) (b := 3) (by omega) (by omega)).mp c1
    refine tp_pc (pc' := 5) (by rfl) ?_
    refine lv_iconst (v := 1) hx hb d_Ref_mayFollow_5 (by decide) ?_
    obtain ⟨hP9, hD9, -⟩ := cut3 (wc := [oc ra 8 [.int (nI T), .int (nI Ac), .ref (rA 2), .ref (rA 3), .ref (rA 4), .ref (rA 5), .ref (rA 6), .ref (rA 7), .ref (rA 8), .ref (rA 9), .ref (rA 10), .ref (rA 11), .ref (rA 12), .ref (rA 13), .int ir, .ref (rA 15), .ref (rA 16), .ref (rA 17), .ref (rA 18), .int (nI md), .int (nI wd), .ref (rA 21), .ref (rA 22), .ref (rA 23), .int (nI mn), .ref (rA 25), .int (nI cb), .int mr, .ref (rA 28), .ref (rA 29), .ref (rA 30), .ref (rA 31), .ref (rA 32), .ref (rA 33), .ref (rA 34), .ref (rA 35), .int (nI ld), .int (nI gm), .ref (rA 38), .ref (rA 39), .ref (rA 40), .ref (rA 41), .ref (rA 42), .ref (rA 43), .ref (rA 44), .ref (rA 45), .int (nI my), .ref (rA 47)], ia (rA 38) (rK9 38) 28 (fun i => nI (rx i)), ia (rA 39) (rK9 39) 4 (fun i => nI (rs i)), ia (rA 3) (rK9 3) 28 (fun i => nI (kd i)), ia (rA 29) (rK9 29) 28 (fun i0 => mN (fm i0)), ia (rA 35) (rK9 35) 7 (fun i => nI (li i)), ia (rA 30) (rK9 30) 28 (fun i => nI (hp i)), ia (rA 4) (rK9 4) 28 (fun i => nI (vx i))]) hP hD rfl hS hA [0, 1, 2, 3, 4, 5, 6, 7] (by decide +kernel) rfl
    have hK9 := hK.sub (tys' := []) [] rfl
    refine W.widen (k := 0) (n := 0) (by exact Nat.le_of_ble_eq_true rfl) (by exact Nat.le_of_ble_eq_true rfl) ?_
    exact W.zret (v := 1) (ty := .boolean) hx hb hr (by decide) (fun t9 ht9 hW => ⟨⟨1, (), rfl, by rw [if_pos (Or.inl hc1)], by rw [ht9]; exact hP9, va_K.moved hW.alike hK9, hD9⟩, hS.F ht9⟩) hS.2.2 d_Ref_mayFollow_6
set_option maxHeartbeats 4000000 in
set_option maxRecDepth 100000 in
theorem gen_Ref_actionOf (l : Launch) (dC : Nat → ClassId) (dI : Nat → Nat → Nat) (ra : Nat) (rA : Nat → Nat) (rK9 : Nat → ClassId) (T Ac md wd mn cb ld gm my : Nat) (ir mr : Int32) (n : Nat) (zs hp nu : Nat → Nat) (hT : T ≤ 4) (hn9 : n < 8) (hzs : ∀ t, t < T → zs t ≤ 7) (hhp : ∀ i, i < 28 → hp i < 2) (hnu : ∀ i, i < 28 → nu i < 8) (sz : Nat) : Met l y_Ref_actionOf w_Ref_actionOf ({ frames := 0, cells := 0, slots := 0, locals := 0 }) (va_Pc [.ref ra, .int (nI n)] (fun U => U.heap.size = sz ∧ va_P (dC, dI) classes [oc ra 8 [.int (nI T), .int (nI Ac), .ref (rA 2), .ref (rA 3), .ref (rA 4), .ref (rA 5), .ref (rA 6), .ref (rA 7), .ref (rA 8), .ref (rA 9), .ref (rA 10), .ref (rA 11), .ref (rA 12), .ref (rA 13), .int ir, .ref (rA 15), .ref (rA 16), .ref (rA 17), .ref (rA 18), .int (nI md), .int (nI wd), .ref (rA 21), .ref (rA 22), .ref (rA 23), .int (nI mn), .ref (rA 25), .int (nI cb), .int mr, .ref (rA 28), .ref (rA 29), .ref (rA 30), .ref (rA 31), .ref (rA 32), .ref (rA 33), .ref (rA 34), .ref (rA 35), .int (nI ld), .int (nI gm), .ref (rA 38), .ref (rA 39), .ref (rA 40), .ref (rA 41), .ref (rA 42), .ref (rA 43), .ref (rA 44), .ref (rA 45), .int (nI my), .ref (rA 47)], ia (rA 2) (rK9 2) 4 (fun i => nI (zs i)), ia (rA 30) (rK9 30) 28 (fun i => nI (hp i)), ia (rA 40) (rK9 40) 28 (fun i => nI (nu i))] U.heap ∧ va_K (dC, dI) classes [((rK9 2), .int), ((rK9 30), .boolean), ((rK9 40), .int)] U ∧ va_D (fun _ => True) [oc ra 8 [.int (nI T), .int (nI Ac), .ref (rA 2), .ref (rA 3), .ref (rA 4), .ref (rA 5), .ref (rA 6), .ref (rA 7), .ref (rA 8), .ref (rA 9), .ref (rA 10), .ref (rA 11), .ref (rA 12), .ref (rA 13), .int ir, .ref (rA 15), .ref (rA 16), .ref (rA 17), .ref (rA 18), .int (nI md), .int (nI wd), .ref (rA 21), .ref (rA 22), .ref (rA 23), .int (nI mn), .ref (rA 25), .int (nI cb), .int mr, .ref (rA 28), .ref (rA 29), .ref (rA 30), .ref (rA 31), .ref (rA 32), .ref (rA 33), .ref (rA 34), .ref (rA 35), .int (nI ld), .int (nI gm), .ref (rA 38), .ref (rA 39), .ref (rA 40), .ref (rA 41), .ref (rA 42), .ref (rA 43), .ref (rA 44), .ref (rA 45), .int (nI my), .ref (rA 47)], ia (rA 2) (rK9 2) 4 (fun i => nI (zs i)), ia (rA 30) (rK9 30) 28 (fun i => nI (hp i)), ia (rA 40) (rK9 40) 28 (fun i => nI (nu i))] ∧ nw U)) (va_Qi (fun (r : Int32) (_ : Unit) => r = mN (aoN T zs hp nu n)) (fun _ t9 => va_P (dC, dI) classes [oc ra 8 [.int (nI T), .int (nI Ac), .ref (rA 2), .ref (rA 3), .ref (rA 4), .ref (rA 5), .ref (rA 6), .ref (rA 7), .ref (rA 8), .ref (rA 9), .ref (rA 10), .ref (rA 11), .ref (rA 12), .ref (rA 13), .int ir, .ref (rA 15), .ref (rA 16), .ref (rA 17), .ref (rA 18), .int (nI md), .int (nI wd), .ref (rA 21), .ref (rA 22), .ref (rA 23), .int (nI mn), .ref (rA 25), .int (nI cb), .int mr, .ref (rA 28), .ref (rA 29), .ref (rA 30), .ref (rA 31), .ref (rA 32), .ref (rA 33), .ref (rA 34), .ref (rA 35), .int (nI ld), .int (nI gm), .ref (rA 38), .ref (rA 39), .ref (rA 40), .ref (rA 41), .ref (rA 42), .ref (rA 43), .ref (rA 44), .ref (rA 45), .int (nI my), .ref (rA 47)], ia (rA 2) (rK9 2) 4 (fun i => nI (zs i)), ia (rA 30) (rK9 30) 28 (fun i => nI (hp i)), ia (rA 40) (rK9 40) 28 (fun i => nI (nu i))] t9.heap ∧ va_K (dC, dI) classes [] t9 ∧ va_D (va_A [oc ra 8 [.int (nI T), .int (nI Ac), .ref (rA 2), .ref (rA 3), .ref (rA 4), .ref (rA 5), .ref (rA 6), .ref (rA 7), .ref (rA 8), .ref (rA 9), .ref (rA 10), .ref (rA 11), .ref (rA 12), .ref (rA 13), .int ir, .ref (rA 15), .ref (rA 16), .ref (rA 17), .ref (rA 18), .int (nI md), .int (nI wd), .ref (rA 21), .ref (rA 22), .ref (rA 23), .int (nI mn), .ref (rA 25), .int (nI cb), .int mr, .ref (rA 28), .ref (rA 29), .ref (rA 30), .ref (rA 31), .ref (rA 32), .ref (rA 33), .ref (rA 34), .ref (rA 35), .int (nI ld), .int (nI gm), .ref (rA 38), .ref (rA 39), .ref (rA 40), .ref (rA 41), .ref (rA 42), .ref (rA 43), .ref (rA 44), .ref (rA 45), .int (nI my), .ref (rA 47)], ia (rA 2) (rK9 2) 4 (fun i => nI (zs i)), ia (rA 30) (rK9 30) 28 (fun i => nI (hp i)), ia (rA 40) (rK9 40) 28 (fun i => nI (nu i))] sz) [oc ra 8 [.int (nI T), .int (nI Ac), .ref (rA 2), .ref (rA 3), .ref (rA 4), .ref (rA 5), .ref (rA 6), .ref (rA 7), .ref (rA 8), .ref (rA 9), .ref (rA 10), .ref (rA 11), .ref (rA 12), .ref (rA 13), .int ir, .ref (rA 15), .ref (rA 16), .ref (rA 17), .ref (rA 18), .int (nI md), .int (nI wd), .ref (rA 21), .ref (rA 22), .ref (rA 23), .int (nI mn), .ref (rA 25), .int (nI cb), .int mr, .ref (rA 28), .ref (rA 29), .ref (rA 30), .ref (rA 31), .ref (rA 32), .ref (rA 33), .ref (rA 34), .ref (rA 35), .int (nI ld), .int (nI gm), .ref (rA 38), .ref (rA 39), .ref (rA 40), .ref (rA 41), .ref (rA 42), .ref (rA 43), .ref (rA 44), .ref (rA 45), .int (nI my), .ref (rA 47)], ia (rA 2) (rK9 2) 4 (fun i => nI (zs i)), ia (rA 30) (rK9 30) 28 (fun i => nI (hp i)), ia (rA 40) (rK9 40) 28 (fun i => nI (nu i))]) (va_A [oc ra 8 [.int (nI T), .int (nI Ac), .ref (rA 2), .ref (rA 3), .ref (rA 4), .ref (rA 5), .ref (rA 6), .ref (rA 7), .ref (rA 8), .ref (rA 9), .ref (rA 10), .ref (rA 11), .ref (rA 12), .ref (rA 13), .int ir, .ref (rA 15), .ref (rA 16), .ref (rA 17), .ref (rA 18), .int (nI md), .int (nI wd), .ref (rA 21), .ref (rA 22), .ref (rA 23), .int (nI mn), .ref (rA 25), .int (nI cb), .int mr, .ref (rA 28), .ref (rA 29), .ref (rA 30), .ref (rA 31), .ref (rA 32), .ref (rA 33), .ref (rA 34), .ref (rA 35), .int (nI ld), .int (nI gm), .ref (rA 38), .ref (rA 39), .ref (rA 40), .ref (rA 41), .ref (rA 42), .ref (rA 43), .ref (rA 44), .ref (rA 45), .int (nI my), .ref (rA 47)], ia (rA 2) (rK9 2) 4 (fun i => nI (zs i)), ia (rA 30) (rK9 30) 28 (fun i => nI (hp i)), ia (rA 40) (rK9 40) 28 (fun i => nI (nu i))] sz)) 0 0 (va_A [oc ra 8 [.int (nI T), .int (nI Ac), .ref (rA 2), .ref (rA 3), .ref (rA 4), .ref (rA 5), .ref (rA 6), .ref (rA 7), .ref (rA 8), .ref (rA 9), .ref (rA 10), .ref (rA 11), .ref (rA 12), .ref (rA 13), .int ir, .ref (rA 15), .ref (rA 16), .ref (rA 17), .ref (rA 18), .int (nI md), .int (nI wd), .ref (rA 21), .ref (rA 22), .ref (rA 23), .int (nI mn), .ref (rA 25), .int (nI cb), .int mr, .ref (rA 28), .ref (rA 29), .ref (rA 30), .ref (rA 31), .ref (rA 32), .ref (rA 33), .ref (rA 34), .ref (rA 35), .int (nI ld), .int (nI gm), .ref (rA 38), .ref (rA 39), .ref (rA 40), .ref (rA 41), .ref (rA 42), .ref (rA 43), .ref (rA 44), .ref (rA 45), .int (nI my), .ref (rA 47)], ia (rA 2) (rK9 2) 4 (fun i => nI (zs i)), ia (rA 30) (rK9 30) 28 (fun i => nI (hp i)), ia (rA 40) (rK9 40) 28 (fun i => nI (nu i))] sz) := by
  refine Met.ofW (cc := b_Ref_actionOf) (maxL := 3) (ret := (some .int)) (by decide) rfl ?_
  intro p e0 s m args below meth c s₁ B hml hv
  obtain ⟨rfl, hsz, hP, hK, hD0, hn⟩ := hv
  have hx := B.exec
  have hb := B.bytes
  have hr := B.returns
  have hw := fun w (h : w ∈ wt) => atoms_spec (ws := w_Ref_actionOf) B.pre w (List.mem_cons_of_mem _ h)
  have hown : s.vm.findClass R_Ref = some m.cls := findClass_of_methodNamed B.named
  have hlocks := B.notSynchronized
  subst hsz
  have hD1 := hD0.self (sz := s.heap.size)
  generalize hAe : va_A [oc ra 8 [.int (nI T), .int (nI Ac), .ref (rA 2), .ref (rA 3), .ref (rA 4), .ref (rA 5), .ref (rA 6), .ref (rA 7), .ref (rA 8), .ref (rA 9), .ref (rA 10), .ref (rA 11), .ref (rA 12), .ref (rA 13), .int ir, .ref (rA 15), .ref (rA 16), .ref (rA 17), .ref (rA 18), .int (nI md), .int (nI wd), .ref (rA 21), .ref (rA 22), .ref (rA 23), .int (nI mn), .ref (rA 25), .int (nI cb), .int mr, .ref (rA 28), .ref (rA 29), .ref (rA 30), .ref (rA 31), .ref (rA 32), .ref (rA 33), .ref (rA 34), .ref (rA 35), .int (nI ld), .int (nI gm), .ref (rA 38), .ref (rA 39), .ref (rA 40), .ref (rA 41), .ref (rA 42), .ref (rA 43), .ref (rA 44), .ref (rA 45), .int (nI my), .ref (rA 47)], ia (rA 2) (rK9 2) 4 (fun i => nI (zs i)), ia (rA 30) (rK9 30) 28 (fun i => nI (hp i)), ia (rA 40) (rK9 40) 28 (fun i => nI (nu i))] s.heap.size = A at hD1 ⊢
  have hA : ∀ q : Nat, s.heap.size ≤ q → A q := fun q h => by rw [← hAe]; exact Or.inr h
  have hD : dd A [ra, (rA 2), (rA 30), (rA 40)] := dd_of hD1 rfl
  clear hAe hD0 hD1
  have hS : va_S A s.heap s.heap [] := va_S.rf
  replace hP : va_P (dC, dI) classes [oc ra 8 [.int (nI T), .int (nI Ac), .ref (rA 2), .ref (rA 3), .ref (rA 4), .ref (rA 5), .ref (rA 6), .ref (rA 7), .ref (rA 8), .ref (rA 9), .ref (rA 10), .ref (rA 11), .ref (rA 12), .ref (rA 13), .int ir, .ref (rA 15), .ref (rA 16), .ref (rA 17), .ref (rA 18), .int (nI md), .int (nI wd), .ref (rA 21), .ref (rA 22), .ref (rA 23), .int (nI mn), .ref (rA 25), .int (nI cb), .int mr, .ref (rA 28), .ref (rA 29), .ref (rA 30), .ref (rA 31), .ref (rA 32), .ref (rA 33), .ref (rA 34), .ref (rA 35), .int (nI ld), .int (nI gm), .ref (rA 38), .ref (rA 39), .ref (rA 40), .ref (rA 41), .ref (rA 42), .ref (rA 43), .ref (rA 44), .ref (rA 45), .int (nI my), .ref (rA 47)], ia (rA 2) (rK9 2) 4 (fun i => nI (zs i)), ia (rA 30) (rK9 30) 28 (fun i => nI (hp i)), ia (rA 40) (rK9 40) 28 (fun i => nI (nu i))] s.heap := hP
  have hl := lv_entry ([.ref ra, .int (nI n)]) (n := 3) (Nat.le_of_ble_eq_true rfl)
  rw [lg_entry_eq]
  generalize (lg_sl ([.ref ra, .int (nI n)]) ++ List.replicate (3 - (lg_sl ([.ref ra, .int (nI n)])).length) Slot.unset).toArray = ls at hl ⊢
  replace hl : lv_has ls 3 [(0, .ref ra), (1, .int (nI n))] := hl
  refine lv_iconst (v := 0) hx hb d_Ref_actionOf_0 (by decide) ?_
  refine lv_istore_n (lv' := [(2, .int 0), (0, .ref ra), (1, .int (nI n))]) hx hb d_Ref_actionOf_1 rfl hl (by decide) rfl ?_
  clear hl ls
  intro ls hl
  replace hP : va_P (dC, dI) classes [oc ra 8 [.int (nI T), .int (nI Ac), .ref (rA 2), .ref (rA 3), .ref (rA 4), .ref (rA 5), .ref (rA 6), .ref (rA 7), .ref (rA 8), .ref (rA 9), .ref (rA 10), .ref (rA 11), .ref (rA 12), .ref (rA 13), .int ir, .ref (rA 15), .ref (rA 16), .ref (rA 17), .ref (rA 18), .int (nI md), .int (nI wd), .ref (rA 21), .ref (rA 22), .ref (rA 23), .int (nI mn), .ref (rA 25), .int (nI cb), .int mr, .ref (rA 28), .ref (rA 29), .ref (rA 30), .ref (rA 31), .ref (rA 32), .ref (rA 33), .ref (rA 34), .ref (rA 35), .int (nI ld), .int (nI gm), .ref (rA 38), .ref (rA 39), .ref (rA 40), .ref (rA 41), .ref (rA 42), .ref (rA 43), .ref (rA 44), .ref (rA 45), .int (nI my), .ref (rA 47)], ia (rA 2) (rK9 2) 4 (fun i => nI (zs i)), ia (rA 30) (rK9 30) 28 (fun i => nI (hp i)), ia (rA 40) (rK9 40) 28 (fun i => nI (nu i))] s.heap := hP
  replace hl : lv_has ls 3 [(2, .int (nI 0)), (0, .ref ra), (1, .int (nI n))] := hl
  refine lp_n 28 (fun i1 H locs ls => fF (fun a => decide (a / 7 < T ∧ a % 7 < zs (a / 7) ∧ hp a = 1 ∧ nu a = n)) (28 - i1) i1 = aoN T zs hp nu n ∧ va_P (dC, dI) classes [oc ra 8 [.int (nI T), .int (nI Ac), .ref (rA 2), .ref (rA 3), .ref (rA 4), .ref (rA 5), .ref (rA 6), .ref (rA 7), .ref (rA 8), .ref (rA 9), .ref (rA 10), .ref (rA 11), .ref (rA 12), .ref (rA 13), .int ir, .ref (rA 15), .ref (rA 16), .ref (rA 17), .ref (rA 18), .int (nI md), .int (nI wd), .ref (rA 21), .ref (rA 22), .ref (rA 23), .int (nI mn), .ref (rA 25), .int (nI cb), .int mr, .ref (rA 28), .ref (rA 29), .ref (rA 30), .ref (rA 31), .ref (rA 32), .ref (rA 33), .ref (rA 34), .ref (rA 35), .int (nI ld), .int (nI gm), .ref (rA 38), .ref (rA 39), .ref (rA 40), .ref (rA 41), .ref (rA 42), .ref (rA 43), .ref (rA 44), .ref (rA 45), .int (nI my), .ref (rA 47)], ia (rA 2) (rK9 2) 4 (fun i => nI (zs i)), ia (rA 30) (rK9 30) 28 (fun i => nI (hp i)), ia (rA 40) (rK9 40) 28 (fun i => nI (nu i))] H ∧ va_S A s.heap H locs ∧ lv_has ls 3 [(2, .int (nI i1)), (0, .ref ra), (1, .int (nI n))]) ⟨rfl, hP, hS, hl⟩ ?_ ?_
  · intro i1 H locs ls hi1 hI ih_i1
    obtain ⟨hinv, hP, hS, hl⟩ := hI
    refine lv_iload_n hx hb d_Ref_actionOf_2 rfl (lv_at hl 0 rfl) ?_
    refine lv_bipush (v := 28) hx hb d_Ref_actionOf_3 (by decide) ?_
    refine lv_icmp_ge (tgt := 62) hx hb d_Ref_actionOf_5 (by decide) (fun c9 => absurd c9 (nI_ge (a := i1) (b := 28) hi1 (by decide))) (fun c9 => ?_)
    rw [show 28 - i1 = (28 - (i1 + 1)) + 1 from by omega, fF] at hinv
    have h1 := hhp i1 hi1
    have h2 := hnu i1 hi1
    refine tp_pc (pc' := 8) (by rfl) ?_
    refine lv_iload_n hx hb d_Ref_actionOf_8 rfl (lv_at hl 0 rfl) ?_
    refine lv_bipush (v := 7) hx hb d_Ref_actionOf_9 (by decide) ?_
    refine lv_idiv hx hb d_Ref_actionOf_11 (by decide) ?_
    refine tp_i (y := nI (i1 / 7)) (pk_div (a := i1) (d := 7) (by omega) (by decide) (by decide)) ?_
    refine lv_aload_n hx hb d_Ref_actionOf_12 rfl (lv_at hl 1 rfl) ?_
    refine va_get (D := (dC, dI)) (ci := 8) (v := .int (nI T)) (C := R_Ref) (T := F_Ref) (N := 48) hx hb hw i_Ref hown hK hP 0 rfl rfl 0 (by decide) (hw _ m_899) (fun _ h9 => h9) rfl d_Ref_actionOf_13 ?_
    refine lv_icmp_ge (tgt := 56) hx hb d_Ref_actionOf_16 (by decide) (fun d1 => ?_) (fun d1 => ?_)
    · skip
      have hd1 : T ≤ i1 / 7 := (nI_leI (a := T) (b := i1 / 7) (by omega) (by omega)).mp d1
      rw [if_neg (by rw [decide_eq_false (fun q => absurd q.1 (by omega))]; decide)] at hinv
      refine tp_pc (pc' := 56) (by rfl) ?_
      refine lv_iinc (v := nI (i1 + 1)) (lv' := [(2, .int (nI (i1 + 1))), (0, .ref ra), (1, .int (nI n))]) hx hb d_Ref_actionOf_56 hl (k := 0) rfl (by exact nI_1 i1) (by decide) rfl ?_
      clear hl ls
      intro ls hl
      refine lv_goto (tgt := 2) hx hb d_Ref_actionOf_59 (by decide) ?_
      refine tp_pc (pc' := 2) (by rfl) ?_
      obtain ⟨hP8, -, -⟩ := cut3 (wc := [oc ra 8 [.int (nI T), .int (nI Ac), .ref (rA 2), .ref (rA 3), .ref (rA 4), .ref (rA 5), .ref (rA 6), .ref (rA 7), .ref (rA 8), .ref (rA 9), .ref (rA 10), .ref (rA 11), .ref (rA 12), .ref (rA 13), .int ir, .ref (rA 15), .ref (rA 16), .ref (rA 17), .ref (rA 18), .int (nI md), .int (nI wd), .ref (rA 21), .ref (rA 22), .ref (rA 23), .int (nI mn), .ref (rA 25), .int (nI cb), .int mr, .ref (rA 28), .ref (rA 29), .ref (rA 30), .ref (rA 31), .ref (rA 32), .ref (rA 33), .ref (rA 34), .ref (rA 35), .int (nI ld), .int (nI gm), .ref (rA 38), .ref (rA 39), .ref (rA 40), .ref (rA 41), .ref (rA 42), .ref (rA 43), .ref (rA 44), .ref (rA 45), .int (nI my), .ref (rA 47)], ia (rA 2) (rK9 2) 4 (fun i => nI (zs i)), ia (rA 30) (rK9 30) 28 (fun i => nI (hp i)), ia (rA 40) (rK9 40) 28 (fun i => nI (nu i))]) hP hD rfl hS hA [0, 1, 2, 3] (by decide +kernel) rfl
      exact ih_i1 _ _ _ ⟨hinv, hP8, hS, lv_sub hl [0, 1, 2] rfl⟩
    · skip
      have hd1 : ¬ (T ≤ i1 / 7) := fun q9 => d1 ((nI_leI (a := T) (b := i1 / 7) (by omega) (by omega)).mpr q9)
      have hz1 := hzs (i1 / 7) (by omega)
      refine tp_pc (pc' := 19) (by rfl) ?_
      refine lv_iload_n hx hb d_Ref_actionOf_19 rfl (lv_at hl 0 rfl) ?_
      refine lv_bipush (v := 7) hx hb d_Ref_actionOf_20 (by decide) ?_
      refine lv_irem hx hb d_Ref_actionOf_22 (by decide) ?_
      refine tp_i (y := nI (i1 % 7)) (pk_rem (a := i1) (d := 7) (by omega) (by decide) (by decide)) ?_
      refine lv_aload_n hx hb d_Ref_actionOf_23 rfl (lv_at hl 1 rfl) ?_
      refine va_get (D := (dC, dI)) (ci := 8) (v := .ref (rA 2)) (C := R_Ref) (T := F_Ref) (N := 48) hx hb hw i_Ref hown hK hP 0 rfl rfl 2 (by decide) (hw _ m_901) (fun _ h9 => h9) rfl d_Ref_actionOf_24 ?_
      refine lv_iload_n hx hb d_Ref_actionOf_27 rfl (lv_at hl 0 rfl) ?_
      refine lv_bipush (v := 7) hx hb d_Ref_actionOf_28 (by decide) ?_
      refine lv_idiv hx hb d_Ref_actionOf_30 (by decide) ?_
      refine tp_i (y := nI (i1 / 7)) (pk_div (a := i1) (d := 7) (by omega) (by decide) (by decide)) ?_
      refine va_iald (D := (dC, dI)) hx hb hK hP 1 0 rfl rfl (i := nI (i1 / 7)) (pk_in (i1 / 7) 4 (by omega)) d_Ref_actionOf_31 ?_
      refine tp_i (y := nI (zs (i1 / 7))) (by rw [show (nI (i1 / 7) : Int32).toNatClampNeg = i1 / 7 from pk_cl (i1 / 7)]) ?_
      refine lv_icmp_ge (tgt := 56) hx hb d_Ref_actionOf_32 (by decide) (fun d2 => ?_) (fun d2 => ?_)
      · skip
        have hd2 : zs (i1 / 7) ≤ i1 % 7 := (nI_leI (a := zs (i1 / 7)) (b := i1 % 7) (by omega) (by omega)).mp d2
        rw [if_neg (by rw [decide_eq_false (fun q => absurd q.2.1 (by omega))]; decide)] at hinv
        refine tp_pc (pc' := 56) (by rfl) ?_
        refine lv_iinc (v := nI (i1 + 1)) (lv' := [(2, .int (nI (i1 + 1))), (0, .ref ra), (1, .int (nI n))]) hx hb d_Ref_actionOf_56 hl (k := 0) rfl (by exact nI_1 i1) (by decide) rfl ?_
        clear hl ls
        intro ls hl
        refine lv_goto (tgt := 2) hx hb d_Ref_actionOf_59 (by decide) ?_
        refine tp_pc (pc' := 2) (by rfl) ?_
        obtain ⟨hP8, -, -⟩ := cut3 (wc := [oc ra 8 [.int (nI T), .int (nI Ac), .ref (rA 2), .ref (rA 3), .ref (rA 4), .ref (rA 5), .ref (rA 6), .ref (rA 7), .ref (rA 8), .ref (rA 9), .ref (rA 10), .ref (rA 11), .ref (rA 12), .ref (rA 13), .int ir, .ref (rA 15), .ref (rA 16), .ref (rA 17), .ref (rA 18), .int (nI md), .int (nI wd), .ref (rA 21), .ref (rA 22), .ref (rA 23), .int (nI mn), .ref (rA 25), .int (nI cb), .int mr, .ref (rA 28), .ref (rA 29), .ref (rA 30), .ref (rA 31), .ref (rA 32), .ref (rA 33), .ref (rA 34), .ref (rA 35), .int (nI ld), .int (nI gm), .ref (rA 38), .ref (rA 39), .ref (rA 40), .ref (rA 41), .ref (rA 42), .ref (rA 43), .ref (rA 44), .ref (rA 45), .int (nI my), .ref (rA 47)], ia (rA 2) (rK9 2) 4 (fun i => nI (zs i)), ia (rA 30) (rK9 30) 28 (fun i => nI (hp i)), ia (rA 40) (rK9 40) 28 (fun i => nI (nu i))]) hP hD rfl hS hA [0, 1, 2, 3] (by decide +kernel) rfl
        exact ih_i1 _ _ _ ⟨hinv, hP8, hS, lv_sub hl [0, 1, 2] rfl⟩
      · skip
        have hd2 : ¬ (zs (i1 / 7) ≤ i1 % 7) := fun q9 => d2 ((nI_leI (a := zs (i1 / 7)) (b := i1 % 7) (by omega) (by omega)).mpr q9)
        refine tp_pc (pc' := 35) (by rfl) ?_
        refine lv_aload_n hx hb d_Ref_actionOf_35 rfl (lv_at hl 1 rfl) ?_
        refine va_get (D := (dC, dI)) (ci := 8) (v := .ref (rA 30)) (C := R_Ref) (T := F_Ref) (N := 48) hx hb hw i_Ref hown hK hP 0 rfl rfl 30 (by decide) (hw _ m_929) (fun _ h9 => h9) rfl d_Ref_actionOf_36 ?_
        refine lv_iload_n hx hb d_Ref_actionOf_39 rfl (lv_at hl 0 rfl) ?_
        refine va_zald (D := (dC, dI)) hx hb hK hP 2 1 rfl rfl (i := nI i1) (pk_in i1 28 (by omega)) d_Ref_actionOf_40 ?_
        refine tp_i (y := nI (hp i1)) (by rw [show (nI i1 : Int32).toNatClampNeg = i1 from pk_cl i1]) ?_
        refine lv_if_eq (tgt := 56) hx hb d_Ref_actionOf_41 (by decide) (fun d3 => ?_) (fun d3 => ?_)
        · skip
          have hd3 : hp i1 = 0 := (nI_eq (a := hp i1) (b := 0) (by omega) (by omega)).mp d3
          rw [if_neg (by rw [decide_eq_false (fun q => absurd q.2.2.1 (by omega))]; decide)] at hinv
          refine tp_pc (pc' := 56) (by rfl) ?_
          refine lv_iinc (v := nI (i1 + 1)) (lv' := [(2, .int (nI (i1 + 1))), (0, .ref ra), (1, .int (nI n))]) hx hb d_Ref_actionOf_56 hl (k := 0) rfl (by exact nI_1 i1) (by decide) rfl ?_
          clear hl ls
          intro ls hl
          refine lv_goto (tgt := 2) hx hb d_Ref_actionOf_59 (by decide) ?_
          refine tp_pc (pc' := 2) (by rfl) ?_
          obtain ⟨hP8, -, -⟩ := cut3 (wc := [oc ra 8 [.int (nI T), .int (nI Ac), .ref (rA 2), .ref (rA 3), .ref (rA 4), .ref (rA 5), .ref (rA 6), .ref (rA 7), .ref (rA 8), .ref (rA 9), .ref (rA 10), .ref (rA 11), .ref (rA 12), .ref (rA 13), .int ir, .ref (rA 15), .ref (rA 16), .ref (rA 17), .ref (rA 18), .int (nI md), .int (nI wd), .ref (rA 21), .ref (rA 22), .ref (rA 23), .int (nI mn), .ref (rA 25), .int (nI cb), .int mr, .ref (rA 28), .ref (rA 29), .ref (rA 30), .ref (rA 31), .ref (rA 32), .ref (rA 33), .ref (rA 34), .ref (rA 35), .int (nI ld), .int (nI gm), .ref (rA 38), .ref (rA 39), .ref (rA 40), .ref (rA 41), .ref (rA 42), .ref (rA 43), .ref (rA 44), .ref (rA 45), .int (nI my), .ref (rA 47)], ia (rA 2) (rK9 2) 4 (fun i => nI (zs i)), ia (rA 30) (rK9 30) 28 (fun i => nI (hp i)), ia (rA 40) (rK9 40) 28 (fun i => nI (nu i))]) hP hD rfl hS hA [0, 1, 2, 3] (by decide +kernel) rfl
          exact ih_i1 _ _ _ ⟨hinv, hP8, hS, lv_sub hl [0, 1, 2] rfl⟩
        · skip
          have hd3 : ¬ (hp i1 = 0) := fun q9 => d3 ((nI_eq (a := hp i1) (b := 0) (by omega) (by omega)).mpr q9)
          refine tp_pc (pc' := 44) (by rfl) ?_
          refine lv_aload_n hx hb d_Ref_actionOf_44 rfl (lv_at hl 1 rfl) ?_
          refine va_get (D := (dC, dI)) (ci := 8) (v := .ref (rA 40)) (C := R_Ref) (T := F_Ref) (N := 48) hx hb hw i_Ref hown hK hP 0 rfl rfl 40 (by decide) (hw _ m_939) (fun _ h9 => h9) rfl d_Ref_actionOf_45 ?_
          refine lv_iload_n hx hb d_Ref_actionOf_48 rfl (lv_at hl 0 rfl) ?_
          refine va_iald (D := (dC, dI)) hx hb hK hP 3 2 rfl rfl (i := nI i1) (pk_in i1 28 (by omega)) d_Ref_actionOf_49 ?_
          refine tp_i (y := nI (nu i1)) (by rw [show (nI i1 : Int32).toNatClampNeg = i1 from pk_cl i1]) ?_
          refine lv_iload_n hx hb d_Ref_actionOf_50 rfl (lv_at hl 2 rfl) ?_
          refine lv_icmp_ne (tgt := 56) hx hb d_Ref_actionOf_51 (by decide) (fun d4 => ?_) (fun d4 => ?_)
          · skip
            have hd4 : ¬ (nu i1 = n) := fun q9 => d4 ((nI_eq (a := nu i1) (b := n) (by omega) (by omega)).mpr q9)
            rw [if_neg (by rw [decide_eq_false (fun q => hd4 q.2.2.2)]; decide)] at hinv
            refine tp_pc (pc' := 56) (by rfl) ?_
            refine lv_iinc (v := nI (i1 + 1)) (lv' := [(2, .int (nI (i1 + 1))), (0, .ref ra), (1, .int (nI n))]) hx hb d_Ref_actionOf_56 hl (k := 0) rfl (by exact nI_1 i1) (by decide) rfl ?_
            clear hl ls
            intro ls hl
            refine lv_goto (tgt := 2) hx hb d_Ref_actionOf_59 (by decide) ?_
            refine tp_pc (pc' := 2) (by rfl) ?_
            obtain ⟨hP8, -, -⟩ := cut3 (wc := [oc ra 8 [.int (nI T), .int (nI Ac), .ref (rA 2), .ref (rA 3), .ref (rA 4), .ref (rA 5), .ref (rA 6), .ref (rA 7), .ref (rA 8), .ref (rA 9), .ref (rA 10), .ref (rA 11), .ref (rA 12), .ref (rA 13), .int ir, .ref (rA 15), .ref (rA 16), .ref (rA 17), .ref (rA 18), .int (nI md), .int (nI wd), .ref (rA 21), .ref (rA 22), .ref (rA 23), .int (nI mn), .ref (rA 25), .int (nI cb), .int mr, .ref (rA 28), .ref (rA 29), .ref (rA 30), .ref (rA 31), .ref (rA 32), .ref (rA 33), .ref (rA 34), .ref (rA 35), .int (nI ld), .int (nI gm), .ref (rA 38), .ref (rA 39), .ref (rA 40), .ref (rA 41), .ref (rA 42), .ref (rA 43), .ref (rA 44), .ref (rA 45), .int (nI my), .ref (rA 47)], ia (rA 2) (rK9 2) 4 (fun i => nI (zs i)), ia (rA 30) (rK9 30) 28 (fun i => nI (hp i)), ia (rA 40) (rK9 40) 28 (fun i => nI (nu i))]) hP hD rfl hS hA [0, 1, 2, 3] (by decide +kernel) rfl
            exact ih_i1 _ _ _ ⟨hinv, hP8, hS, lv_sub hl [0, 1, 2] rfl⟩
          · skip
            have hd4 : nu i1 = n := (nI_eq (a := nu i1) (b := n) (by omega) (by omega)).mp d4
            rw [if_pos (decide_eq_true ⟨by omega, by omega, by omega, hd4⟩)] at hinv
            refine tp_pc (pc' := 54) (by rfl) ?_
            refine lv_iload_n hx hb d_Ref_actionOf_54 rfl (lv_at hl 0 rfl) ?_
            obtain ⟨hP9, hD9, -⟩ := cut3 (wc := [oc ra 8 [.int (nI T), .int (nI Ac), .ref (rA 2), .ref (rA 3), .ref (rA 4), .ref (rA 5), .ref (rA 6), .ref (rA 7), .ref (rA 8), .ref (rA 9), .ref (rA 10), .ref (rA 11), .ref (rA 12), .ref (rA 13), .int ir, .ref (rA 15), .ref (rA 16), .ref (rA 17), .ref (rA 18), .int (nI md), .int (nI wd), .ref (rA 21), .ref (rA 22), .ref (rA 23), .int (nI mn), .ref (rA 25), .int (nI cb), .int mr, .ref (rA 28), .ref (rA 29), .ref (rA 30), .ref (rA 31), .ref (rA 32), .ref (rA 33), .ref (rA 34), .ref (rA 35), .int (nI ld), .int (nI gm), .ref (rA 38), .ref (rA 39), .ref (rA 40), .ref (rA 41), .ref (rA 42), .ref (rA 43), .ref (rA 44), .ref (rA 45), .int (nI my), .ref (rA 47)], ia (rA 2) (rK9 2) 4 (fun i => nI (zs i)), ia (rA 30) (rK9 30) 28 (fun i => nI (hp i)), ia (rA 40) (rK9 40) 28 (fun i => nI (nu i))]) hP hD rfl hS hA [0, 1, 2, 3] (by decide +kernel) rfl
            have hK9 := hK.sub (tys' := []) [] rfl
            refine W.widen (k := 0) (n := 0) (by exact Nat.le_of_ble_eq_true rfl) (by exact Nat.le_of_ble_eq_true rfl) ?_
            exact W.iret (v := (nI i1)) hx hb hr (fun t9 ht9 hW => ⟨⟨nI i1, (), rfl, by rw [← hinv, mN_1], by rw [ht9]; exact hP9, va_K.moved hW.alike hK9, hD9⟩, hS.F ht9⟩) hS.2.2 d_Ref_actionOf_55
  · intro H locs ls hI
    obtain ⟨hinv, hP, hS, hl⟩ := hI
    rw [Nat.sub_self] at hinv
    replace hinv : 0 = aoN T zs hp nu n := hinv
    replace hl : lv_has ls 3 [(2, .int 28), (0, .ref ra), (1, .int (nI n))] := hl
    refine lv_iload_n hx hb d_Ref_actionOf_2 rfl (lv_at hl 0 rfl) ?_
    refine lv_bipush (v := 28) hx hb d_Ref_actionOf_3 (by decide) ?_
    refine lv_icmp_ge (tgt := 62) hx hb d_Ref_actionOf_5 (by decide) (fun c_1 => ?_) (fun c_1 => absurd c_1 (by decide))
    refine tp_pc (pc' := 62) (by rfl) ?_
    refine lv_iconst (v := (-1)) hx hb d_Ref_actionOf_62 (by decide) ?_
    obtain ⟨hP9, hD9, -⟩ := cut3 (wc := [oc ra 8 [.int (nI T), .int (nI Ac), .ref (rA 2), .ref (rA 3), .ref (rA 4), .ref (rA 5), .ref (rA 6), .ref (rA 7), .ref (rA 8), .ref (rA 9), .ref (rA 10), .ref (rA 11), .ref (rA 12), .ref (rA 13), .int ir, .ref (rA 15), .ref (rA 16), .ref (rA 17), .ref (rA 18), .int (nI md), .int (nI wd), .ref (rA 21), .ref (rA 22), .ref (rA 23), .int (nI mn), .ref (rA 25), .int (nI cb), .int mr, .ref (rA 28), .ref (rA 29), .ref (rA 30), .ref (rA 31), .ref (rA 32), .ref (rA 33), .ref (rA 34), .ref (rA 35), .int (nI ld), .int (nI gm), .ref (rA 38), .ref (rA 39), .ref (rA 40), .ref (rA 41), .ref (rA 42), .ref (rA 43), .ref (rA 44), .ref (rA 45), .int (nI my), .ref (rA 47)], ia (rA 2) (rK9 2) 4 (fun i => nI (zs i)), ia (rA 30) (rK9 30) 28 (fun i => nI (hp i)), ia (rA 40) (rK9 40) 28 (fun i => nI (nu i))]) hP hD rfl hS hA [0, 1, 2, 3] (by decide +kernel) rfl
    have hK9 := hK.sub (tys' := []) [] rfl
    refine W.widen (k := 0) (n := 0) (by exact Nat.le_of_ble_eq_true rfl) (by exact Nat.le_of_ble_eq_true rfl) ?_
    exact W.iret (v := (-1)) hx hb hr (fun t9 ht9 hW => ⟨⟨(-1), (), rfl, by rw [← hinv]; rfl, by rw [ht9]; exact hP9, va_K.moved hW.alike hK9, hD9⟩, hS.F ht9⟩) hS.2.2 d_Ref_actionOf_63
