abbrev wrtP (kd : Nat → Nat) (a : Nat) : Prop := kd a = 1 ∨ kd a = 2
/-- an own pair that buffers keep in order -/
abbrev kepP (gm : Nat) (kd vx : Nat → Nat) (a b : Nat) : Prop := ¬ wrtP kd a ∨ (¬ kd b = 0 ∧ (gm = 1 ∨ ¬ wrtP kd b ∨ vx a = vx b))
set_option maxHeartbeats 4000000 in
set_option maxRecDepth 100000 in
theorem gen_Ref_isKept (l : Launch) (dC : Nat → ClassId) (dI : Nat → Nat → Nat) (ra : Nat) (rA : Nat → Nat) (rK9 : Nat → ClassId) (T Ac md wd mn cb ld gm my : Nat) (ir mr : Int32) (a b : Nat) (kd vx : Nat → Nat) (ha : a < 28) (hb28 : b < 28) (hka : kd a < 6) (hkb : kd b < 6) (hva : vx a < 4) (hvb : vx b < 4) (hgm : gm < 4) (sz : Nat) : Met l y_Ref_isKept w_Ref_isKept ({ frames := 1, cells := 0, slots := 0, locals := 40 }) (va_Pc [.ref ra, .int (nI a), .int (nI b)] (fun U => U.heap.size = sz ∧ va_P (dC, dI) classes [oc ra 8 [.int (nI T), .int (nI Ac), .ref (rA 2), .ref (rA 3), .ref (rA 4), .ref (rA 5), .ref (rA 6), .ref (rA 7), .ref (rA 8), .ref (rA 9), .ref (rA 10), .ref (rA 11), .ref (rA 12), .ref (rA 13), .int ir, .ref (rA 15), .ref (rA 16), .ref (rA 17), .ref (rA 18), .int (nI md), .int (nI wd), .ref (rA 21), .ref (rA 22), .ref (rA 23), .int (nI mn), .ref (rA 25), .int (nI cb), .int mr, .ref (rA 28), .ref (rA 29), .ref (rA 30), .ref (rA 31), .ref (rA 32), .ref (rA 33), .ref (rA 34), .ref (rA 35), .int (nI ld), .int (nI gm), .ref (rA 38), .ref (rA 39), .ref (rA 40), .ref (rA 41), .ref (rA 42), .ref (rA 43), .ref (rA 44), .ref (rA 45), .int (nI my), .ref (rA 47)], ia (rA 3) (rK9 3) 28 (fun i => nI (kd i)), ia (rA 4) (rK9 4) 28 (fun i => nI (vx i))] U.heap ∧ va_K (dC, dI) classes [((rK9 3), .int), ((rK9 4), .int)] U ∧ va_D (fun _ => True) [oc ra 8 [.int (nI T), .int (nI Ac), .ref (rA 2), .ref (rA 3), .ref (rA 4), .ref (rA 5), .ref (rA 6), .ref (rA 7), .ref (rA 8), .ref (rA 9), .ref (rA 10), .ref (rA 11), .ref (rA 12), .ref (rA 13), .int ir, .ref (rA 15), .ref (rA 16), .ref (rA 17), .ref (rA 18), .int (nI md), .int (nI wd), .ref (rA 21), .ref (rA 22), .ref (rA 23), .int (nI mn), .ref (rA 25), .int (nI cb), .int mr, .ref (rA 28), .ref (rA 29), .ref (rA 30), .ref (rA 31), .ref (rA 32), .ref (rA 33), .ref (rA 34), .ref (rA 35), .int (nI ld), .int (nI gm), .ref (rA 38), .ref (rA 39), .ref (rA 40), .ref (rA 41), .ref (rA 42), .ref (rA 43), .ref (rA 44), .ref (rA 45), .int (nI my), .ref (rA 47)], ia (rA 3) (rK9 3) 28 (fun i => nI (kd i)), ia (rA 4) (rK9 4) 28 (fun i => nI (vx i))] ∧ nw U)) (va_Qi (fun (r : Int32) (_ : Unit) => r = if kepP gm kd vx a b then 1 else 0) (fun _ t9 => va_P (dC, dI) classes [oc ra 8 [.int (nI T), .int (nI Ac), .ref (rA 2), .ref (rA 3), .ref (rA 4), .ref (rA 5), .ref (rA 6), .ref (rA 7), .ref (rA 8), .ref (rA 9), .ref (rA 10), .ref (rA 11), .ref (rA 12), .ref (rA 13), .int ir, .ref (rA 15), .ref (rA 16), .ref (rA 17), .ref (rA 18), .int (nI md), .int (nI wd), .ref (rA 21), .ref (rA 22), .ref (rA 23), .int (nI mn), .ref (rA 25), .int (nI cb), .int mr, .ref (rA 28), .ref (rA 29), .ref (rA 30), .ref (rA 31), .ref (rA 32), .ref (rA 33), .ref (rA 34), .ref (rA 35), .int (nI ld), .int (nI gm), .ref (rA 38), .ref (rA 39), .ref (rA 40), .ref (rA 41), .ref (rA 42), .ref (rA 43), .ref (rA 44), .ref (rA 45), .int (nI my), .ref (rA 47)], ia (rA 3) (rK9 3) 28 (fun i => nI (kd i)), ia (rA 4) (rK9 4) 28 (fun i => nI (vx i))] t9.heap ∧ va_K (dC, dI) classes [] t9 ∧ va_D (va_A [oc ra 8 [.int (nI T), .int (nI Ac), .ref (rA 2), .ref (rA 3), .ref (rA 4), .ref (rA 5), .ref (rA 6), .ref (rA 7), .ref (rA 8), .ref (rA 9), .ref (rA 10), .ref (rA 11), .ref (rA 12), .ref (rA 13), .int ir, .ref (rA 15), .ref (rA 16), .ref (rA 17), .ref (rA 18), .int (nI md), .int (nI wd), .ref (rA 21), .ref (rA 22), .ref (rA 23), .int (nI mn), .ref (rA 25), .int (nI cb), .int mr, .ref (rA 28), .ref (rA 29), .ref (rA 30), .ref (rA 31), .ref (rA 32), .ref (rA 33), .ref (rA 34), .ref (rA 35), .int (nI ld), .int (nI gm), .ref (rA 38), .ref (rA 39), .ref (rA 40), .ref (rA 41), .ref (rA 42), .ref (rA 43), .ref (rA 44), .ref (rA 45), .int (nI my), .ref (rA 47)], ia (rA 3) (rK9 3) 28 (fun i => nI (kd i)), ia (rA 4) (rK9 4) 28 (fun i => nI (vx i))] sz) [oc ra 8 [.int (nI T), .int (nI Ac), .ref (rA 2), .ref (rA 3), .ref (rA 4), .ref (rA 5), .ref (rA 6), .ref (rA 7), .ref (rA 8), .ref (rA 9), .ref (rA 10), .ref (rA 11), .ref (rA 12), .ref (rA 13), .int ir, .ref (rA 15), .ref (rA 16), .ref (rA 17), .ref (rA 18), .int (nI md), .int (nI wd), .ref (rA 21), .ref (rA 22), .ref (rA 23), .int (nI mn), .ref (rA 25), .int (nI cb), .int mr, .ref (rA 28), .ref (rA 29), .ref (rA 30), .ref (rA 31), .ref (rA 32), .ref (rA 33), .ref (rA 34), .ref (rA 35), .int (nI ld), .int (nI gm), .ref (rA 38), .ref (rA 39), .ref (rA 40), .ref (rA 41), .ref (rA 42), .ref (rA 43), .ref (rA 44), .ref (rA 45), .int (nI my), .ref (rA 47)], ia (rA 3) (rK9 3) 28 (fun i => nI (kd i)), ia (rA 4) (rK9 4) 28 (fun i => nI (vx i))]) (va_A [oc ra 8 [.int (nI T), .int (nI Ac), .ref (rA 2), .ref (rA 3), .ref (rA 4), .ref (rA 5), .ref (rA 6), .ref (rA 7), .ref (rA 8), .ref (rA 9), .ref (rA 10), .ref (rA 11), .ref (rA 12), .ref (rA 13), .int ir, .ref (rA 15), .ref (rA 16), .ref (rA 17), .ref (rA 18), .int (nI md), .int (nI wd), .ref (rA 21), .ref (rA 22), .ref (rA 23), .int (nI mn), .ref (rA 25), .int (nI cb), .int mr, .ref (rA 28), .ref (rA 29), .ref (rA 30), .ref (rA 31), .ref (rA 32), .ref (rA 33), .ref (rA 34), .ref (rA 35), .int (nI ld), .int (nI gm), .ref (rA 38), .ref (rA 39), .ref (rA 40), .ref (rA 41), .ref (rA 42), .ref (rA 43), .ref (rA 44), .ref (rA 45), .int (nI my), .ref (rA 47)], ia (rA 3) (rK9 3) 28 (fun i => nI (kd i)), ia (rA 4) (rK9 4) 28 (fun i => nI (vx i))] sz)) 0 0 (va_A [oc ra 8 [.int (nI T), .int (nI Ac), .ref (rA 2), .ref (rA 3), .ref (rA 4), .ref (rA 5), .ref (rA 6), .ref (rA 7), .ref (rA 8), .ref (rA 9), .ref (rA 10), .ref (rA 11), .ref (rA 12), .ref (rA 13), .int ir, .ref (rA 15), .ref (rA 16), .ref (rA 17), .ref (rA 18), .int (nI md), .int (nI wd), .ref (rA 21), .ref (rA 22), .ref (rA 23), .int (nI mn), .ref (rA 25), .int (nI cb), .int mr, .ref (rA 28), .ref (rA 29), .ref (rA 30), .ref (rA 31), .ref (rA 32), .ref (rA 33), .ref (rA 34), .ref (rA 35), .int (nI ld), .int (nI gm), .ref (rA 38), .ref (rA 39), .ref (rA 40), .ref (rA 41), .ref (rA 42), .ref (rA 43), .ref (rA 44), .ref (rA 45), .int (nI my), .ref (rA 47)], ia (rA 3) (rK9 3) 28 (fun i => nI (kd i)), ia (rA 4) (rK9 4) 28 (fun i => nI (vx i))] sz) := by
  refine Met.ofW (cc := b_Ref_isKept) (maxL := 3) (ret := (some .boolean)) (by decide) rfl ?_
  intro p e0 s m args below meth c s₁ B hml hv
  obtain ⟨rfl, hsz, hP, hK, hD0, hn⟩ := hv
  have hx := B.exec
  have hb := B.bytes
  have hr := B.returns
  have hw := fun w (h : w ∈ wt) => atoms_spec (ws := w_Ref_isKept) B.pre w (List.mem_cons_of_mem _ h)
  have hown : s.vm.findClass R_Ref = some m.cls := findClass_of_methodNamed B.named
  have hlocks := B.notSynchronized
  subst hsz
  have hD1 := hD0.self (sz := s.heap.size)
  generalize hAe : va_A [oc ra 8 [.int (nI T), .int (nI Ac), .ref (rA 2), .ref (rA 3), .ref (rA 4), .ref (rA 5), .ref (rA 6), .ref (rA 7), .ref (rA 8), .ref (rA 9), .ref (rA 10), .ref (rA 11), .ref (rA 12), .ref (rA 13), .int ir, .ref (rA 15), .ref (rA 16), .ref (rA 17), .ref (rA 18), .int (nI md), .int (nI wd), .ref (rA 21), .ref (rA 22), .ref (rA 23), .int (nI mn), .ref (rA 25), .int (nI cb), .int mr, .ref (rA 28), .ref (rA 29), .ref (rA 30), .ref (rA 31), .ref (rA 32), .ref (rA 33), .ref (rA 34), .ref (rA 35), .int (nI ld), .int (nI gm), .ref (rA 38), .ref (rA 39), .ref (rA 40), .ref (rA 41), .ref (rA 42), .ref (rA 43), .ref (rA 44), .ref (rA 45), .int (nI my), .ref (rA 47)], ia (rA 3) (rK9 3) 28 (fun i => nI (kd i)), ia (rA 4) (rK9 4) 28 (fun i => nI (vx i))] s.heap.size = A at hD1 ⊢
  have hA : ∀ q : Nat, s.heap.size ≤ q → A q := fun q h => by rw [← hAe]; exact Or.inr h
  have hD : dd A [ra, (rA 3), (rA 4)] := dd_of hD1 rfl
  clear hAe hD0 hD1
  have hS : va_S A s.heap s.heap [] := va_S.rf
  replace hP : va_P (dC, dI) classes [oc ra 8 [.int (nI T), .int (nI Ac), .ref (rA 2), .ref (rA 3), .ref (rA 4), .ref (rA 5), .ref (rA 6), .ref (rA 7), .ref (rA 8), .ref (rA 9), .ref (rA 10), .ref (rA 11), .ref (rA 12), .ref (rA 13), .int ir, .ref (rA 15), .ref (rA 16), .ref (rA 17), .ref (rA 18), .int (nI md), .int (nI wd), .ref (rA 21), .ref (rA 22), .ref (rA 23), .int (nI mn), .ref (rA 25), .int (nI cb), .int mr, .ref (rA 28), .ref (rA 29), .ref (rA 30), .ref (rA 31), .ref (rA 32), .ref (rA 33), .ref (rA 34), .ref (rA 35), .int (nI ld), .int (nI gm), .ref (rA 38), .ref (rA 39), .ref (rA 40), .ref (rA 41), .ref (rA 42), .ref (rA 43), .ref (rA 44), .ref (rA 45), .int (nI my), .ref (rA 47)], ia (rA 3) (rK9 3) 28 (fun i => nI (kd i)), ia (rA 4) (rK9 4) 28 (fun i => nI (vx i))] s.heap := hP
  have hl := lv_entry ([.ref ra, .int (nI a), .int (nI b)]) (n := 3) (Nat.le_of_ble_eq_true rfl)
  rw [lg_entry_eq]
  generalize (lg_sl ([.ref ra, .int (nI a), .int (nI b)]) ++ List.replicate (3 - (lg_sl ([.ref ra, .int (nI a), .int (nI b)])).length) Slot.unset).toArray = ls at hl ⊢
  replace hl : lv_has ls 3 [(0, .ref ra), (1, .int (nI a)), (2, .int (nI b))] := hl
  refine lv_aload_n hx hb d_Ref_isKept_0 rfl (lv_at hl 0 rfl) ?_
  refine lv_iload_n hx hb d_Ref_isKept_1 rfl (lv_at hl 1 rfl) ?_
  obtain ⟨hPc, hDc, hFc⟩ := cut3 (wc := [oc ra 8 [.int (nI T), .int (nI Ac), .ref (rA 2), .ref (rA 3), .ref (rA 4), .ref (rA 5), .ref (rA 6), .ref (rA 7), .ref (rA 8), .ref (rA 9), .ref (rA 10), .ref (rA 11), .ref (rA 12), .ref (rA 13), .int ir, .ref (rA 15), .ref (rA 16), .ref (rA 17), .ref (rA 18), .int (nI md), .int (nI wd), .ref (rA 21), .ref (rA 22), .ref (rA 23), .int (nI mn), .ref (rA 25), .int (nI cb), .int mr, .ref (rA 28), .ref (rA 29), .ref (rA 30), .ref (rA 31), .ref (rA 32), .ref (rA 33), .ref (rA 34), .ref (rA 35), .int (nI ld), .int (nI gm), .ref (rA 38), .ref (rA 39), .ref (rA 40), .ref (rA 41), .ref (rA 42), .ref (rA 43), .ref (rA 44), .ref (rA 45), .int (nI my), .ref (rA 47)], ia (rA 3) (rK9 3) 28 (fun i => nI (kd i))]) hP hD rfl hS hA [0, 1] (by decide +kernel) rfl
  have hKc := hK.sub (tys' := [((rK9 3), .int)]) [0] rfl
  refine va_calli (va_runV (As := [.int (nI a)]) (rest := []) ⟨hx, hb, hml, hown, hw⟩ (gen_Ref_isWrite l dC dI ra rA rK9 T Ac md wd mn cb ld gm my ir mr a kd ha hka s.heap.size) (cw_V 1 hw g_Ref_isWrite rfl rfl rfl (hw _ m_109) (hw _ m_1249) (hw _ m_1251) (hw _ m_93) (by decide +kernel) ⟨Nat.le_of_ble_eq_true rfl, Nat.le_of_ble_eq_true rfl⟩) ⟨fun a U g mk q => by obtain ⟨q0, q1, qP, qK, qD, qN⟩ := q; exact ⟨q0, q1, qP, va_K.moved (u := U) (U := U.calling g mk a) (Vm.Alike.refl U.vm) qK, qD, nw_call qN⟩, va_recv hKc hPc (ci := 8) (q0 := 0) rfl rfl, fun U hU hW => ⟨rfl, by rw [hU], by rw [hU]; exact hPc, va_K.moved hW.alike hKc, hDc.weaken (fun _ _ _ _ => trivial), nw_warm hW hn⟩⟩ rfl rfl hl.1 rfl (lv_room (Nat.le_of_ble_eq_true rfl)) d_Ref_isKept_2 ⟨Nat.le_of_ble_eq_true rfl, Nat.le_of_ble_eq_true rfl⟩) hS (fun q _ h => hFc q h) hFc ?_
  intro r_1 u t9 H1 locs1 ht9 hvm hw1 hB hz1 hk1 hS1
  obtain ⟨hP1, hK1, hD1⟩ := hB
  rw [ht9] at hP1
  replace hK1 := va_K.moved hvm.symm hK1
  have hPD := join3 hP hD rfl [0, 1] [2] rfl (by rfl) (by decide +kernel) (by decide +kernel) hk1 hFc hP1 hD1
  replace hK : va_K (dC, dI) classes [((rK9 3), .int), ((rK9 4), .int)] s := hK.app hK1
  clear hP1 hK1 hD1 hk1 hz1 hFc hKc hDc hPc hvm ht9 hP hS t9
  have hP : va_P (dC, dI) classes [ia (rA 4) (rK9 4) 28 (fun i => nI (vx i)), oc ra 8 [.int (nI T), .int (nI Ac), .ref (rA 2), .ref (rA 3), .ref (rA 4), .ref (rA 5), .ref (rA 6), .ref (rA 7), .ref (rA 8), .ref (rA 9), .ref (rA 10), .ref (rA 11), .ref (rA 12), .ref (rA 13), .int ir, .ref (rA 15), .ref (rA 16), .ref (rA 17), .ref (rA 18), .int (nI md), .int (nI wd), .ref (rA 21), .ref (rA 22), .ref (rA 23), .int (nI mn), .ref (rA 25), .int (nI cb), .int mr, .ref (rA 28), .ref (rA 29), .ref (rA 30), .ref (rA 31), .ref (rA 32), .ref (rA 33), .ref (rA 34), .ref (rA 35), .int (nI ld), .int (nI gm), .ref (rA 38), .ref (rA 39), .ref (rA 40), .ref (rA 41), .ref (rA 42), .ref (rA 43), .ref (rA 44), .ref (rA 45), .int (nI my), .ref (rA 47)], ia (rA 3) (rK9 3) 28 (fun i => nI (kd i))] H1 := hPD.1
  replace hD : dd A [(rA 4), ra, (rA 3)] := dd_of hPD.2 rfl
  clear hPD
  revert H1 locs1
  intro H locs hS hP
  refine tp_i (y := (if kd a = 1 ∨ kd a = 2 then 1 else 0)) (hw1) ?_
  clear hw1 r_1 u
  by_cases q1 : wrtP kd a
  · skip
    rw [if_pos q1]
    refine tp_pc (pc' := 5) (by rfl) ?_
    refine lv_if_ne (tgt := 10) hx hb d_Ref_isKept_5 (by decide) (fun c_2 => ?_) (fun c_2 => absurd c_2 (by decide))
    refine tp_pc (pc' := 10) (by rfl) ?_
    refine lv_aload_n hx hb d_Ref_isKept_10 rfl (lv_at hl 0 rfl) ?_
    refine va_get (D := (dC, dI)) (ci := 8) (v := .ref (rA 3)) (C := R_Ref) (T := F_Ref) (N := 48) hx hb hw i_Ref hown hK hP 1 rfl rfl 3 (by decide) (hw _ m_902) (fun _ h9 => h9) rfl d_Ref_isKept_11 ?_
    refine lv_iload_n hx hb d_Ref_isKept_14 rfl (lv_at hl 2 rfl) ?_
    refine va_iald (D := (dC, dI)) hx hb hK hP 2 0 rfl rfl (i := nI b) (pk_in b 28 (by omega)) d_Ref_isKept_15 ?_
    refine tp_i (y := nI (kd b)) (by rw [show (nI b : Int32).toNatClampNeg = b from pk_cl b]) ?_
    refine lv_if_ne (tgt := 21) hx hb d_Ref_isKept_16 (by decide) (fun c1 => ?_) (fun c1 => ?_)
    · skip
      have hc1 : ¬ (kd b = 0) := fun q9 => c1 ((nI_eq (a := kd b) (b := 0) (by omega) (by omega)).mpr q9)
      refine tp_pc (pc' := 21) (by rfl) ?_
      refine lv_aload_n hx hb d_Ref_isKept_21 rfl (lv_at hl 0 rfl) ?_
      refine va_get (D := (dC, dI)) (ci := 8) (v := .int (nI gm)) (C := R_Ref) (T := F_Ref) (N := 48) hx hb hw i_Ref hown hK hP 1 rfl rfl 37 (by decide) (hw _ m_936) (fun _ h9 => h9) rfl d_Ref_isKept_22 ?_
      refine lv_iconst (v := 1) hx hb d_Ref_isKept_25 (by decide) ?_
      refine lv_icmp_eq (tgt := 52) hx hb d_Ref_isKept_26 (by decide) (fun c2 => ?_) (fun c2 => ?_)
      · skip
        have hc2 : gm = 1 := (nI_eq (a := gm) (b := 1) (by omega) (by omega)).mp c2
        refine tp_pc (pc' := 52) (by rfl) ?_
        refine lv_iconst (v := 1) hx hb d_Ref_isKept_52 (by decide) ?_
        refine lv_goto (tgt := 57) hx hb d_Ref_isKept_53 (by decide) ?_
        refine tp_pc (pc' := 57) (by rfl) ?_
        obtain ⟨hP9, hD9, -⟩ := cut3 (wc := [oc ra 8 [.int (nI T), .int (nI Ac), .ref (rA 2), .ref (rA 3), .ref (rA 4), .ref (rA 5), .ref (rA 6), .ref (rA 7), .ref (rA 8), .ref (rA 9), .ref (rA 10), .ref (rA 11), .ref (rA 12), .ref (rA 13), .int ir, .ref (rA 15), .ref (rA 16), .ref (rA 17), .ref (rA 18), .int (nI md), .int (nI wd), .ref (rA 21), .ref (rA 22), .ref (rA 23), .int (nI mn), .ref (rA 25), .int (nI cb), .int mr, .ref (rA 28), .ref (rA 29), .ref (rA 30), .ref (rA 31), .ref (rA 32), .ref (rA 33), .ref (rA 34), .ref (rA 35), .int (nI ld), .int (nI gm), .ref (rA 38), .ref (rA 39), .ref (rA 40), .ref (rA 41), .ref (rA 42), .ref (rA 43), .ref (rA 44), .ref (rA 45), .int (nI my), .ref (rA 47)], ia (rA 3) (rK9 3) 28 (fun i => nI (kd i)), ia (rA 4) (rK9 4) 28 (fun i => nI (vx i))]) hP hD rfl hS hA [1, 2, 0] (by decide +kernel) rfl
        have hK9 := hK.sub (tys' := []) [] rfl
        refine W.widen (k := 0) (n := 0) (by exact Nat.le_of_ble_eq_true rfl) (by exact Nat.le_of_ble_eq_true rfl) ?_
        exact W.zret (v := 1) (ty := .boolean) hx hb hr (by decide) (fun t9 ht9 hW => ⟨⟨1, (), rfl, by rw [if_pos (Or.inr ⟨hc1, Or.inl hc2⟩)], by rw [ht9]; exact hP9, va_K.moved hW.alike hK9, hD9⟩, hS.F ht9⟩) hS.2.2 d_Ref_isKept_57
      · skip
        have hc2 : ¬ (gm = 1) := fun q9 => c2 ((nI_eq (a := gm) (b := 1) (by omega) (by omega)).mpr q9)
        refine tp_pc (pc' := 29) (by rfl) ?_
        refine lv_aload_n hx hb d_Ref_isKept_29 rfl (lv_at hl 0 rfl) ?_
        refine lv_iload_n hx hb d_Ref_isKept_30 rfl (lv_at hl 2 rfl) ?_
        obtain ⟨hPc, hDc, hFc⟩ := cut3 (wc := [oc ra 8 [.int (nI T), .int (nI Ac), .ref (rA 2), .ref (rA 3), .ref (rA 4), .ref (rA 5), .ref (rA 6), .ref (rA 7), .ref (rA 8), .ref (rA 9), .ref (rA 10), .ref (rA 11), .ref (rA 12), .ref (rA 13), .int ir, .ref (rA 15), .ref (rA 16), .ref (rA 17), .ref (rA 18), .int (nI md), .int (nI wd), .ref (rA 21), .ref (rA 22), .ref (rA 23), .int (nI mn), .ref (rA 25), .int (nI cb), .int mr, .ref (rA 28), .ref (rA 29), .ref (rA 30), .ref (rA 31), .ref (rA 32), .ref (rA 33), .ref (rA 34), .ref (rA 35), .int (nI ld), .int (nI gm), .ref (rA 38), .ref (rA 39), .ref (rA 40), .ref (rA 41), .ref (rA 42), .ref (rA 43), .ref (rA 44), .ref (rA 45), .int (nI my), .ref (rA 47)], ia (rA 3) (rK9 3) 28 (fun i => nI (kd i))]) hP hD rfl hS hA [1, 2] (by decide +kernel) rfl
        have hKc := hK.sub (tys' := [((rK9 3), .int)]) [0] rfl
        refine va_calli (va_runV (As := [.int (nI b)]) (rest := []) ⟨hx, hb, hml, hown, hw⟩ (gen_Ref_isWrite l dC dI ra rA rK9 T Ac md wd mn cb ld gm my ir mr b kd hb28 hkb H.size) (cw_V 1 hw g_Ref_isWrite rfl rfl rfl (hw _ m_109) (hw _ m_1249) (hw _ m_1251) (hw _ m_93) (by decide +kernel) ⟨Nat.le_of_ble_eq_true rfl, Nat.le_of_ble_eq_true rfl⟩) ⟨fun a U g mk q => by obtain ⟨q0, q1, qP, qK, qD, qN⟩ := q; exact ⟨q0, q1, qP, va_K.moved (u := U) (U := U.calling g mk a) (Vm.Alike.refl U.vm) qK, qD, nw_call qN⟩, va_recv hKc hPc (ci := 8) (q0 := 0) rfl rfl, fun U hU hW => ⟨rfl, by rw [hU], by rw [hU]; exact hPc, va_K.moved hW.alike hKc, hDc.weaken (fun _ _ _ _ => trivial), nw_warm hW hn⟩⟩ rfl rfl hl.1 rfl (lv_room (Nat.le_of_ble_eq_true rfl)) d_Ref_isKept_31 ⟨Nat.le_of_ble_eq_true rfl, Nat.le_of_ble_eq_true rfl⟩) hS (fun q _ h => hFc q h) hFc ?_
        intro r_3 u t9 H1 locs1 ht9 hvm hw1 hB hz1 hk1 hS1
        obtain ⟨hP1, hK1, hD1⟩ := hB
        rw [ht9] at hP1
        replace hK1 := va_K.moved hvm.symm hK1
        have hPD := join3 hP hD rfl [1, 2] [0] rfl (by rfl) (by decide +kernel) (by decide +kernel) hk1 hFc hP1 hD1
        replace hK : va_K (dC, dI) classes [((rK9 3), .int), ((rK9 4), .int)] s := hK.app hK1
        clear hP1 hK1 hD1 hk1 hz1 hFc hKc hDc hPc hvm ht9 hP hS t9 locs H
        have hP : va_P (dC, dI) classes [ia (rA 4) (rK9 4) 28 (fun i => nI (vx i)), oc ra 8 [.int (nI T), .int (nI Ac), .ref (rA 2), .ref (rA 3), .ref (rA 4), .ref (rA 5), .ref (rA 6), .ref (rA 7), .ref (rA 8), .ref (rA 9), .ref (rA 10), .ref (rA 11), .ref (rA 12), .ref (rA 13), .int ir, .ref (rA 15), .ref (rA 16), .ref (rA 17), .ref (rA 18), .int (nI md), .int (nI wd), .ref (rA 21), .ref (rA 22), .ref (rA 23), .int (nI mn), .ref (rA 25), .int (nI cb), .int mr, .ref (rA 28), .ref (rA 29), .ref (rA 30), .ref (rA 31), .ref (rA 32), .ref (rA 33), .ref (rA 34), .ref (rA 35), .int (nI ld), .int (nI gm), .ref (rA 38), .ref (rA 39), .ref (rA 40), .ref (rA 41), .ref (rA 42), .ref (rA 43), .ref (rA 44), .ref (rA 45), .int (nI my), .ref (rA 47)], ia (rA 3) (rK9 3) 28 (fun i => nI (kd i))] H1 := hPD.1
        replace hD : dd A [(rA 4), ra, (rA 3)] := dd_of hPD.2 rfl
        clear hPD
        revert H1 locs1
        intro H locs hS hP
        refine tp_i (y := (if kd b = 1 ∨ kd b = 2 then 1 else 0)) (hw1) ?_
        clear hw1 r_3 u
        by_cases q2 : wrtP kd b
        · skip
          rw [if_pos q2]
          refine tp_pc (pc' := 34) (by rfl) ?_
          refine lv_if_eq (tgt := 52) hx hb d_Ref_isKept_34 (by decide) (fun c_4 => absurd c_4 (by decide)) (fun c_4 => ?_)
          refine tp_pc (pc' := 37) (by rfl) ?_
          refine lv_aload_n hx hb d_Ref_isKept_37 rfl (lv_at hl 0 rfl) ?_
          refine va_get (D := (dC, dI)) (ci := 8) (v := .ref (rA 4)) (C := R_Ref) (T := F_Ref) (N := 48) hx hb hw i_Ref hown hK hP 1 rfl rfl 4 (by decide) (hw _ m_903) (fun _ h9 => h9) rfl d_Ref_isKept_38 ?_
          refine lv_iload_n hx hb d_Ref_isKept_41 rfl (lv_at hl 1 rfl) ?_
          refine va_iald (D := (dC, dI)) hx hb hK hP 0 1 rfl rfl (i := nI a) (pk_in a 28 (by omega)) d_Ref_isKept_42 ?_
          refine tp_i (y := nI (vx a)) (by rw [show (nI a : Int32).toNatClampNeg = a from pk_cl a]) ?_
          refine lv_aload_n hx hb d_Ref_isKept_43 rfl (lv_at hl 0 rfl) ?_
          refine va_get (D := (dC, dI)) (ci := 8) (v := .ref (rA 4)) (C := R_Ref) (T := F_Ref) (N := 48) hx hb hw i_Ref hown hK hP 1 rfl rfl 4 (by decide) (hw _ m_903) (fun _ h9 => h9) rfl d_Ref_isKept_44 ?_
          refine lv_iload_n hx hb d_Ref_isKept_47 rfl (lv_at hl 2 rfl) ?_
          refine va_iald (D := (dC, dI)) hx hb hK hP 0 1 rfl rfl (i := nI b) (pk_in b 28 (by omega)) d_Ref_isKept_48 ?_
          refine tp_i (y := nI (vx b)) (by rw [show (nI b : Int32).toNatClampNeg = b from pk_cl b]) ?_
          refine lv_icmp_ne (tgt := 56) hx hb d_Ref_isKept_49 (by decide) (fun c3 => ?_) (fun c3 => ?_)
          · skip
            have hc3 : ¬ (vx a = vx b) := fun q9 => c3 ((nI_eq (a := vx a) (b := vx b) (by omega) (by omega)).mpr q9)
            refine tp_pc (pc' := 56) (by rfl) ?_
            refine lv_iconst (v := 0) hx hb d_Ref_isKept_56 (by decide) ?_
            obtain ⟨hP9, hD9, -⟩ := cut3 (wc := [oc ra 8 [.int (nI T), .int (nI Ac), .ref (rA 2), .ref (rA 3), .ref (rA 4), .ref (rA 5), .ref (rA 6), .ref (rA 7), .ref (rA 8), .ref (rA 9), .ref (rA 10), .ref (rA 11), .ref (rA 12), .ref (rA 13), .int ir, .ref (rA 15), .ref (rA 16), .ref (rA 17), .ref (rA 18), .int (nI md), .int (nI wd), .ref (rA 21), .ref (rA 22), .ref (rA 23), .int (nI mn), .ref (rA 25), .int (nI cb), .int mr, .ref (rA 28), .ref (rA 29), .ref (rA 30), .ref (rA 31), .ref (rA 32), .ref (rA 33), .ref (rA 34), .ref (rA 35), .int (nI ld), .int (nI gm), .ref (rA 38), .ref (rA 39), .ref (rA 40), .ref (rA 41), .ref (rA 42), .ref (rA 43), .ref (rA 44), .ref (rA 45), .int (nI my), .ref (rA 47)], ia (rA 3) (rK9 3) 28 (fun i => nI (kd i)), ia (rA 4) (rK9 4) 28 (fun i => nI (vx i))]) hP hD rfl hS hA [1, 2, 0] (by decide +kernel) rfl
            have hK9 := hK.sub (tys' := []) [] rfl
            refine W.widen (k := 0) (n := 0) (by exact Nat.le_of_ble_eq_true rfl) (by exact Nat.le_of_ble_eq_true rfl) ?_
            exact W.zret (v := 0) (ty := .boolean) hx hb hr (by decide) (fun t9 ht9 hW => ⟨⟨0, (), rfl, by rw [if_neg (fun h => h.elim (fun k => k q1) (fun k => k.2.elim hc2 (fun k => k.elim (fun k => k q2) hc3)))], by rw [ht9]; exact hP9, va_K.moved hW.alike hK9, hD9⟩, hS.F ht9⟩) hS.2.2 d_Ref_isKept_57
          · skip
            have hc3 : vx a = vx b := (nI_eq (a := vx a) (b := vx b) (by omega) (by omega)).mp c3
            refine tp_pc (pc' := 52) (by rfl) ?_
            refine lv_iconst (v := 1) hx hb d_Ref_isKept_52 (by decide) ?_
            refine lv_goto (tgt := 57) hx hb d_Ref_isKept_53 (by decide) ?_
            refine tp_pc (pc' := 57) (by rfl) ?_
            obtain ⟨hP9, hD9, -⟩ := cut3 (wc := [oc ra 8 [.int (nI T), .int (nI Ac), .ref (rA 2), .ref (rA 3), .ref (rA 4), .ref (rA 5), .ref (rA 6), .ref (rA 7), .ref (rA 8), .ref (rA 9), .ref (rA 10), .ref (rA 11), .ref (rA 12), .ref (rA 13), .int ir, .ref (rA 15), .ref (rA 16), .ref (rA 17), .ref (rA 18), .int (nI md), .int (nI wd), .ref (rA 21), .ref (rA 22), .ref (rA 23), .int (nI mn), .ref (rA 25), .int (nI cb), .int mr, .ref (rA 28), .ref (rA 29), .ref (rA 30), .ref (rA 31), .ref (rA 32), .ref (rA 33), .ref (rA 34), .ref (rA 35), .int (nI ld), .int (nI gm), .ref (rA 38), .ref (rA 39), .ref (rA 40), .ref (rA 41), .ref (rA 42), .ref (rA 43), .ref (rA 44), .ref (rA 45), .int (nI my), .ref (rA 47)], ia (rA 3) (rK9 3) 28 (fun i => nI (kd i)), ia (rA 4) (rK9 4) 28 (fun i => nI (vx i))]) hP hD rfl hS hA [1, 2, 0] (by decide +kernel) rfl
            have hK9 := hK.sub (tys' := []) [] rfl
            refine W.widen (k := 0) (n := 0) (by exact Nat.le_of_ble_eq_true rfl) (by exact Nat.le_of_ble_eq_true rfl) ?_
            exact W.zret (v := 1) (ty := .boolean) hx hb hr (by decide) (fun t9 ht9 hW => ⟨⟨1, (), rfl, by rw [if_pos (Or.inr ⟨hc1, Or.inr (Or.inr hc3)⟩)], by rw [ht9]; exact hP9, va_K.moved hW.alike hK9, hD9⟩, hS.F ht9⟩) hS.2.2 d_Ref_isKept_57
        · skip
          rw [if_neg q2]
          refine tp_pc (pc' := 34) (by rfl) ?_
          refine lv_if_eq (tgt := 52) hx hb d_Ref_isKept_34 (by decide) (fun c_5 => ?_) (fun c_5 => absurd c_5 (by decide))
          refine tp_pc (pc' := 52) (by rfl) ?_
          refine lv_iconst (v := 1) hx hb d_Ref_isKept_52 (by decide) ?_
          refine lv_goto (tgt := 57) hx hb d_Ref_isKept_53 (by decide) ?_
          refine tp_pc (pc' := 57) (by rfl) ?_
          obtain ⟨hP9, hD9, -⟩ := cut3 (wc := [oc ra 8 [.int (nI T), .int (nI Ac), .ref (rA 2), .ref (rA 3), .ref (rA 4), .ref (rA 5), .ref (rA 6), .ref (rA 7), .ref (rA 8), .ref (rA 9), .ref (rA 10), .ref (rA 11), .ref (rA 12), .ref (rA 13), .int ir, .ref (rA 15), .ref (rA 16), .ref (rA 17), .ref (rA 18), .int (nI md), .int (nI wd), .ref (rA 21), .ref (rA 22), .ref (rA 23), .int (nI mn), .ref (rA 25), .int (nI cb), .int mr, .ref (rA 28), .ref (rA 29), .ref (rA 30), .ref (rA 31), .ref (rA 32), .ref (rA 33), .ref (rA 34), .ref (rA 35), .int (nI ld), .int (nI gm), .ref (rA 38), .ref (rA 39), .ref (rA 40), .ref (rA 41), .ref (rA 42), .ref (rA 43), .ref (rA 44), .ref (rA 45), .int (nI my), .ref (rA 47)], ia (rA 3) (rK9 3) 28 (fun i => nI (kd i)), ia (rA 4) (rK9 4) 28 (fun i => nI (vx i))]) hP hD rfl hS hA [1, 2, 0] (by decide +kernel) rfl
          have hK9 := hK.sub (tys' := []) [] rfl
          refine W.widen (k := 0) (n := 0) (by exact Nat.le_of_ble_eq_true rfl) (by exact Nat.le_of_ble_eq_true rfl) ?_
          exact W.zret (v := 1) (ty := .boolean) hx hb hr (by decide) (fun t9 ht9 hW => ⟨⟨1, (), rfl, by rw [if_pos (Or.inr ⟨hc1, Or.inr (Or.inl q2)⟩)], by rw [ht9]; exact hP9, va_K.moved hW.alike hK9, hD9⟩, hS.F ht9⟩) hS.2.2 d_Ref_isKept_57
    · skip
      have hc1 : kd b = 0 := (nI_eq (a := kd b) (b := 0) (by omega) (by omega)).mp c1
      refine tp_pc (pc' := 19) (by rfl) ?_
      refine lv_iconst (v := 0) hx hb d_Ref_isKept_19 (by decide) ?_
      obtain ⟨hP9, hD9, -⟩ := cut3 (wc := [oc ra 8 [.int (nI T), .int (nI Ac), .ref (rA 2), .ref (rA 3), .ref (rA 4), .ref (rA 5), .ref (rA 6), .ref (rA 7), .ref (rA 8), .ref (rA 9), .ref (rA 10), .ref (rA 11), .ref (rA 12), .ref (rA 13), .int ir, .ref (rA 15), .ref (rA 16), .ref (rA 17), .ref (rA 18), .int (nI md), .int (nI wd), .ref (rA 21), .ref (rA 22), .ref (rA 23), .int (nI mn), .ref (rA 25), .int (nI cb), .int mr, .ref (rA 28), .ref (rA 29), .ref (rA 30), .ref (rA 31), .ref (rA 32), .ref (rA 33), .ref (rA 34), .ref (rA 35), .int (nI ld), .int (nI gm), .ref (rA 38), .ref (rA 39), .ref (rA 40), .ref (rA 41), .ref (rA 42), .ref (rA 43), .ref (rA 44), .ref (rA 45), .int (nI my), .ref (rA 47)], ia (rA 3) (rK9 3) 28 (fun i => nI (kd i)), ia (rA 4) (rK9 4) 28 (fun i => nI (vx i))]) hP hD rfl hS hA [1, 2, 0] (by decide +kernel) rfl
      have hK9 := hK.sub (tys' := []) [] rfl
      refine W.widen (k := 0) (n := 0) (by exact Nat.le_of_ble_eq_true rfl) (by exact Nat.le_of_ble_eq_true rfl) ?_
      exact W.zret (v := 0) (ty := .boolean) hx hb hr (by decide) (fun t9 ht9 hW => ⟨⟨0, (), rfl, by rw [if_neg (fun h => h.elim (fun k => k q1) (fun k => k.1 hc1))], by rw [ht9]; exact hP9, va_K.moved hW.alike hK9, hD9⟩, hS.F ht9⟩) hS.2.2 d_Ref_isKept_20
  · skip
    rw [if_neg q1]
    refine tp_pc (pc' := 5) (by rfl) ?_
    refine lv_if_ne (tgt := 10) hx hb d_Ref_isKept_5 (by decide) (fun c_6 => absurd c_6 (by decide)) (fun c_6 => ?_)
    refine tp_pc (pc' := 8) (by rfl) ?_
    refine lv_iconst (v := 1) hx hb d_Ref_isKept_8 (by decide) ?_
    obtain ⟨hP9, hD9, -⟩ := cut3 (wc := [oc ra 8 [.int (nI T), .int (nI Ac), .ref (rA 2), .ref (rA 3), .ref (rA 4), .ref (rA 5), .ref (rA 6), .ref (rA 7), .ref (rA 8), .ref (rA 9), .ref (rA 10), .ref (rA 11), .ref (rA 12), .ref (rA 13), .int ir, .ref (rA 15), .ref (rA 16), .ref (rA 17), .ref (rA 18), .int (nI md), .int (nI wd), .ref (rA 21), .ref (rA 22), .ref (rA 23), .int (nI mn), .ref (rA 25), .int (nI cb), .int mr, .ref (rA 28), .ref (rA 29), .ref (rA 30), .ref (rA 31), .ref (rA 32), .ref (rA 33), .ref (rA 34), .ref (rA 35), .int (nI ld), .int (nI gm), .ref (rA 38), .ref (rA 39), .ref (rA 40), .ref (rA 41), .ref (rA 42), .ref (rA 43), .ref (rA 44), .ref (rA 45), .int (nI my), .ref (rA 47)], ia (rA 3) (rK9 3) 28 (fun i => nI (kd i)), ia (rA 4) (rK9 4) 28 (fun i => nI (vx i))]) hP hD rfl hS hA [1, 2, 0] (by decide +kernel) rfl
    have hK9 := hK.sub (tys' := []) [] rfl
    refine W.widen (k := 0) (n := 0) (by exact Nat.le_of_ble_eq_true rfl) (by exact Nat.le_of_ble_eq_true rfl) ?_
    exact W.zret (v := 1) (ty := .boolean) hx hb hr (by decide) (fun t9 ht9 hW => ⟨⟨1, (), rfl, by rw [if_pos (Or.inl q1)], by rw [ht9]; exact hP9, va_K.moved hW.alike hK9, hD9⟩, hS.F ht9⟩) hS.2.2 d_Ref_isKept_9
