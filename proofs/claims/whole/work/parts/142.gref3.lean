set_option maxHeartbeats 4000000 in
set_option maxRecDepth 100000 in
theorem gen_Ref_bits_in (l : Launch) (dC : Nat → ClassId) (dI : Nat → Nat → Nat) (ra : Nat) (rA : Nat → Nat) (rK9 : Nat → ClassId) (T Ac md wd mn cb ld gm my : Nat) (ir mr : Int32) (v : Int64) (n at9 of9 : Nat) (cf : Nat → Int64) (hcb : cb = 64 * at9 + of9) (hof : of9 < 64) (hn : n ≤ 64) (hcn : cb + n ≤ 320) (hn0 : 0 < n) (hov : of9 + n ≤ 64) (sz : Nat) : Met l y_Ref_bits w_Ref_bits ({ frames := 0, cells := 0, slots := 0, locals := 0 }) (va_Pc [.ref ra, .long v, .int (nI n)] (fun U => U.heap.size = sz ∧ va_P (dC, dI) classes [oc ra 8 [.int (nI T), .int (nI Ac), .ref (rA 2), .ref (rA 3), .ref (rA 4), .ref (rA 5), .ref (rA 6), .ref (rA 7), .ref (rA 8), .ref (rA 9), .ref (rA 10), .ref (rA 11), .ref (rA 12), .ref (rA 13), .int ir, .ref (rA 15), .ref (rA 16), .ref (rA 17), .ref (rA 18), .int (nI md), .int (nI wd), .ref (rA 21), .ref (rA 22), .ref (rA 23), .int (nI mn), .ref (rA 25), .int (nI cb), .int mr, .ref (rA 28), .ref (rA 29), .ref (rA 30), .ref (rA 31), .ref (rA 32), .ref (rA 33), .ref (rA 34), .ref (rA 35), .int (nI ld), .int (nI gm), .ref (rA 38), .ref (rA 39), .ref (rA 40), .ref (rA 41), .ref (rA 42), .ref (rA 43), .ref (rA 44), .ref (rA 45), .int (nI my), .ref (rA 47)], la (rA 25) (rK9 25) 5 cf] U.heap ∧ va_K (dC, dI) classes [((rK9 25), .long)] U ∧ va_D (fun _ => True) [oc ra 8 [.int (nI T), .int (nI Ac), .ref (rA 2), .ref (rA 3), .ref (rA 4), .ref (rA 5), .ref (rA 6), .ref (rA 7), .ref (rA 8), .ref (rA 9), .ref (rA 10), .ref (rA 11), .ref (rA 12), .ref (rA 13), .int ir, .ref (rA 15), .ref (rA 16), .ref (rA 17), .ref (rA 18), .int (nI md), .int (nI wd), .ref (rA 21), .ref (rA 22), .ref (rA 23), .int (nI mn), .ref (rA 25), .int (nI cb), .int mr, .ref (rA 28), .ref (rA 29), .ref (rA 30), .ref (rA 31), .ref (rA 32), .ref (rA 33), .ref (rA 34), .ref (rA 35), .int (nI ld), .int (nI gm), .ref (rA 38), .ref (rA 39), .ref (rA 40), .ref (rA 41), .ref (rA 42), .ref (rA 43), .ref (rA 44), .ref (rA 45), .int (nI my), .ref (rA 47)], la (rA 25) (rK9 25) 5 cf] ∧ nw U)) (va_Qv (fun _ : Unit => True) (fun _ t9 => va_P (dC, dI) classes [oc ra 8 [.int (nI T), .int (nI Ac), .ref (rA 2), .ref (rA 3), .ref (rA 4), .ref (rA 5), .ref (rA 6), .ref (rA 7), .ref (rA 8), .ref (rA 9), .ref (rA 10), .ref (rA 11), .ref (rA 12), .ref (rA 13), .int ir, .ref (rA 15), .ref (rA 16), .ref (rA 17), .ref (rA 18), .int (nI md), .int (nI wd), .ref (rA 21), .ref (rA 22), .ref (rA 23), .int (nI mn), .ref (rA 25), .int (nI (cb + n)), .int mr, .ref (rA 28), .ref (rA 29), .ref (rA 30), .ref (rA 31), .ref (rA 32), .ref (rA 33), .ref (rA 34), .ref (rA 35), .int (nI ld), .int (nI gm), .ref (rA 38), .ref (rA 39), .ref (rA 40), .ref (rA 41), .ref (rA 42), .ref (rA 43), .ref (rA 44), .ref (rA 45), .int (nI my), .ref (rA 47)], la (rA 25) (rK9 25) 5 (vp_updL cf at9 (cf at9 ||| (v <<< ((nI of9 : Int32).toInt64 &&& 63))))] t9.heap ∧ va_K (dC, dI) classes [] t9 ∧ va_D (va_A [oc ra 8 [.int (nI T), .int (nI Ac), .ref (rA 2), .ref (rA 3), .ref (rA 4), .ref (rA 5), .ref (rA 6), .ref (rA 7), .ref (rA 8), .ref (rA 9), .ref (rA 10), .ref (rA 11), .ref (rA 12), .ref (rA 13), .int ir, .ref (rA 15), .ref (rA 16), .ref (rA 17), .ref (rA 18), .int (nI md), .int (nI wd), .ref (rA 21), .ref (rA 22), .ref (rA 23), .int (nI mn), .ref (rA 25), .int (nI cb), .int mr, .ref (rA 28), .ref (rA 29), .ref (rA 30), .ref (rA 31), .ref (rA 32), .ref (rA 33), .ref (rA 34), .ref (rA 35), .int (nI ld), .int (nI gm), .ref (rA 38), .ref (rA 39), .ref (rA 40), .ref (rA 41), .ref (rA 42), .ref (rA 43), .ref (rA 44), .ref (rA 45), .int (nI my), .ref (rA 47)], la (rA 25) (rK9 25) 5 cf] sz) [oc ra 8 [.int (nI T), .int (nI Ac), .ref (rA 2), .ref (rA 3), .ref (rA 4), .ref (rA 5), .ref (rA 6), .ref (rA 7), .ref (rA 8), .ref (rA 9), .ref (rA 10), .ref (rA 11), .ref (rA 12), .ref (rA 13), .int ir, .ref (rA 15), .ref (rA 16), .ref (rA 17), .ref (rA 18), .int (nI md), .int (nI wd), .ref (rA 21), .ref (rA 22), .ref (rA 23), .int (nI mn), .ref (rA 25), .int (nI (cb + n)), .int mr, .ref (rA 28), .ref (rA 29), .ref (rA 30), .ref (rA 31), .ref (rA 32), .ref (rA 33), .ref (rA 34), .ref (rA 35), .int (nI ld), .int (nI gm), .ref (rA 38), .ref (rA 39), .ref (rA 40), .ref (rA 41), .ref (rA 42), .ref (rA 43), .ref (rA 44), .ref (rA 45), .int (nI my), .ref (rA 47)], la (rA 25) (rK9 25) 5 (vp_updL cf at9 (cf at9 ||| (v <<< ((nI of9 : Int32).toInt64 &&& 63))))]) (va_A [oc ra 8 [.int (nI T), .int (nI Ac), .ref (rA 2), .ref (rA 3), .ref (rA 4), .ref (rA 5), .ref (rA 6), .ref (rA 7), .ref (rA 8), .ref (rA 9), .ref (rA 10), .ref (rA 11), .ref (rA 12), .ref (rA 13), .int ir, .ref (rA 15), .ref (rA 16), .ref (rA 17), .ref (rA 18), .int (nI md), .int (nI wd), .ref (rA 21), .ref (rA 22), .ref (rA 23), .int (nI mn), .ref (rA 25), .int (nI cb), .int mr, .ref (rA 28), .ref (rA 29), .ref (rA 30), .ref (rA 31), .ref (rA 32), .ref (rA 33), .ref (rA 34), .ref (rA 35), .int (nI ld), .int (nI gm), .ref (rA 38), .ref (rA 39), .ref (rA 40), .ref (rA 41), .ref (rA 42), .ref (rA 43), .ref (rA 44), .ref (rA 45), .int (nI my), .ref (rA 47)], la (rA 25) (rK9 25) 5 cf] sz)) 0 0 (va_A [oc ra 8 [.int (nI T), .int (nI Ac), .ref (rA 2), .ref (rA 3), .ref (rA 4), .ref (rA 5), .ref (rA 6), .ref (rA 7), .ref (rA 8), .ref (rA 9), .ref (rA 10), .ref (rA 11), .ref (rA 12), .ref (rA 13), .int ir, .ref (rA 15), .ref (rA 16), .ref (rA 17), .ref (rA 18), .int (nI md), .int (nI wd), .ref (rA 21), .ref (rA 22), .ref (rA 23), .int (nI mn), .ref (rA 25), .int (nI cb), .int mr, .ref (rA 28), .ref (rA 29), .ref (rA 30), .ref (rA 31), .ref (rA 32), .ref (rA 33), .ref (rA 34), .ref (rA 35), .int (nI ld), .int (nI gm), .ref (rA 38), .ref (rA 39), .ref (rA 40), .ref (rA 41), .ref (rA 42), .ref (rA 43), .ref (rA 44), .ref (rA 45), .int (nI my), .ref (rA 47)], la (rA 25) (rK9 25) 5 cf] sz) := by
  refine Met.ofW (cc := b_Ref_bits) (maxL := 6) (ret := none) (by decide) rfl ?_
  intro p e0 s m args below meth c s₁ B hml hv
  obtain ⟨rfl, hsz, hP, hK, hD0, hn⟩ := hv
  have hx := B.exec
  have hb := B.bytes
  have hr := B.returns
  have hw := fun w (h : w ∈ wt) => atoms_spec (ws := w_Ref_bits) B.pre w (List.mem_cons_of_mem _ h)
  have hown : s.vm.findClass R_Ref = some m.cls := findClass_of_methodNamed B.named
  have hlocks := B.notSynchronized
  subst hsz
  have hD1 := hD0.self (sz := s.heap.size)
  generalize hAe : va_A [oc ra 8 [.int (nI T), .int (nI Ac), .ref (rA 2), .ref (rA 3), .ref (rA 4), .ref (rA 5), .ref (rA 6), .ref (rA 7), .ref (rA 8), .ref (rA 9), .ref (rA 10), .ref (rA 11), .ref (rA 12), .ref (rA 13), .int ir, .ref (rA 15), .ref (rA 16), .ref (rA 17), .ref (rA 18), .int (nI md), .int (nI wd), .ref (rA 21), .ref (rA 22), .ref (rA 23), .int (nI mn), .ref (rA 25), .int (nI cb), .int mr, .ref (rA 28), .ref (rA 29), .ref (rA 30), .ref (rA 31), .ref (rA 32), .ref (rA 33), .ref (rA 34), .ref (rA 35), .int (nI ld), .int (nI gm), .ref (rA 38), .ref (rA 39), .ref (rA 40), .ref (rA 41), .ref (rA 42), .ref (rA 43), .ref (rA 44), .ref (rA 45), .int (nI my), .ref (rA 47)], la (rA 25) (rK9 25) 5 cf] s.heap.size = A at hD1 ⊢
  have hA : ∀ q : Nat, s.heap.size ≤ q → A q := fun q h => by rw [← hAe]; exact Or.inr h
  have hD : dd A [ra, (rA 25)] := dd_of hD1 rfl
  clear hAe hD0 hD1
  have hS : va_S A s.heap s.heap [] := va_S.rf
  replace hP : va_P (dC, dI) classes [oc ra 8 [.int (nI T), .int (nI Ac), .ref (rA 2), .ref (rA 3), .ref (rA 4), .ref (rA 5), .ref (rA 6), .ref (rA 7), .ref (rA 8), .ref (rA 9), .ref (rA 10), .ref (rA 11), .ref (rA 12), .ref (rA 13), .int ir, .ref (rA 15), .ref (rA 16), .ref (rA 17), .ref (rA 18), .int (nI md), .int (nI wd), .ref (rA 21), .ref (rA 22), .ref (rA 23), .int (nI mn), .ref (rA 25), .int (nI cb), .int mr, .ref (rA 28), .ref (rA 29), .ref (rA 30), .ref (rA 31), .ref (rA 32), .ref (rA 33), .ref (rA 34), .ref (rA 35), .int (nI ld), .int (nI gm), .ref (rA 38), .ref (rA 39), .ref (rA 40), .ref (rA 41), .ref (rA 42), .ref (rA 43), .ref (rA 44), .ref (rA 45), .int (nI my), .ref (rA 47)], la (rA 25) (rK9 25) 5 cf] s.heap := hP
  have hl := lv_entry ([.ref ra, .long v, .int (nI n)]) (n := 6) (Nat.le_of_ble_eq_true rfl)
  rw [lg_entry_eq]
  generalize (lg_sl ([.ref ra, .long v, .int (nI n)]) ++ List.replicate (6 - (lg_sl ([.ref ra, .long v, .int (nI n)])).length) Slot.unset).toArray = ls at hl ⊢
  replace hl : lv_has ls 6 [(0, .ref ra), (1, .long v), (3, .int (nI n))] := hl
  refine lv_aload_n hx hb d_Ref_bits_0 rfl (lv_at hl 0 rfl) ?_
  refine va_get (D := (dC, dI)) (ci := 8) (v := .int (nI cb)) (C := R_Ref) (T := F_Ref) (N := 48) hx hb hw i_Ref hown hK hP 0 rfl rfl 26 (by decide) (hw _ m_925) (fun _ h9 => h9) rfl d_Ref_bits_1 ?_
  refine lv_bipush (v := 64) hx hb d_Ref_bits_4 (by decide) ?_
  refine lv_idiv hx hb d_Ref_bits_6 (by decide) ?_
  refine tp_i (y := nI at9) (by rw [show at9 = cb / 64 from by omega]; exact pk_div (a := cb) (d := 64) (by omega) (by omega) (by omega)) ?_
  refine lv_istore (lv' := [(4, .int (nI at9)), (0, .ref ra), (1, .long v), (3, .int (nI n))]) hx hb d_Ref_bits_7 hl (by decide) rfl ?_
  clear hl ls
  intro ls hl
  refine lv_aload_n hx hb d_Ref_bits_9 rfl (lv_at hl 1 rfl) ?_
  refine va_get (D := (dC, dI)) (ci := 8) (v := .int (nI cb)) (C := R_Ref) (T := F_Ref) (N := 48) hx hb hw i_Ref hown hK hP 0 rfl rfl 26 (by decide) (hw _ m_925) (fun _ h9 => h9) rfl d_Ref_bits_10 ?_
  refine lv_bipush (v := 64) hx hb d_Ref_bits_13 (by decide) ?_
  refine lv_irem hx hb d_Ref_bits_15 (by decide) ?_
  refine tp_i (y := nI of9) (by rw [show of9 = cb % 64 from by omega]; exact pk_rem (a := cb) (d := 64) (by omega) (by omega) (by omega)) ?_
  refine lv_istore (lv' := [(5, .int (nI of9)), (4, .int (nI at9)), (0, .ref ra), (1, .long v), (3, .int (nI n))]) hx hb d_Ref_bits_16 hl (by decide) rfl ?_
  clear hl ls
  intro ls hl
  refine lv_aload_n hx hb d_Ref_bits_18 rfl (lv_at hl 2 rfl) ?_
  refine va_get (D := (dC, dI)) (ci := 8) (v := .ref (rA 25)) (C := R_Ref) (T := F_Ref) (N := 48) hx hb hw i_Ref hown hK hP 0 rfl rfl 25 (by decide) (hw _ m_924) (fun _ h9 => h9) rfl d_Ref_bits_19 ?_
  refine lv_iload hx hb d_Ref_bits_22 (lv_at hl 1 rfl) ?_
  refine lv_dup2_11 hx hb d_Ref_bits_24 rfl rfl ?_
  refine va_lald (D := (dC, dI)) hx hb hK hP 1 0 rfl rfl (i := nI at9) (pk_in at9 5 (by omega)) d_Ref_bits_25 ?_
  refine tp_l (y := cf at9) (by rw [show (nI at9 : Int32).toNatClampNeg = at9 from pk_cl at9]) ?_
  refine lv_lload_n hx hb d_Ref_bits_26 rfl (lv_at hl 3 rfl) ?_
  refine lv_iload hx hb d_Ref_bits_27 (lv_at hl 0 rfl) ?_
  refine lv_lshl (v := v <<< (((nI of9) : Int32).toInt64 &&& 63)) hx hb d_Ref_bits_29 rfl ?_
  refine lv_lor hx hb d_Ref_bits_30 ?_
  refine tp_l (y := (cf at9) ||| (v <<< (((nI of9) : Int32).toInt64 &&& 63))) rfl ?_
  refine va_last (D := (dC, dI)) hx hb hK hP (dd_D hD rfl) hS 1 0 rfl rfl (i := nI at9) (x := (cf at9) ||| (v <<< (((nI of9) : Int32).toInt64 &&& 63))) (pk_in at9 5 (by omega)) d_Ref_bits_31 ?_
  clear hP hS
  intro H locs hP _ hS
  rw [show (nI at9 : Int32).toNatClampNeg = at9 from pk_cl at9] at hP
  replace hP : va_P (dC, dI) classes [oc ra 8 [.int (nI T), .int (nI Ac), .ref (rA 2), .ref (rA 3), .ref (rA 4), .ref (rA 5), .ref (rA 6), .ref (rA 7), .ref (rA 8), .ref (rA 9), .ref (rA 10), .ref (rA 11), .ref (rA 12), .ref (rA 13), .int ir, .ref (rA 15), .ref (rA 16), .ref (rA 17), .ref (rA 18), .int (nI md), .int (nI wd), .ref (rA 21), .ref (rA 22), .ref (rA 23), .int (nI mn), .ref (rA 25), .int (nI cb), .int mr, .ref (rA 28), .ref (rA 29), .ref (rA 30), .ref (rA 31), .ref (rA 32), .ref (rA 33), .ref (rA 34), .ref (rA 35), .int (nI ld), .int (nI gm), .ref (rA 38), .ref (rA 39), .ref (rA 40), .ref (rA 41), .ref (rA 42), .ref (rA 43), .ref (rA 44), .ref (rA 45), .int (nI my), .ref (rA 47)], la (rA 25) (rK9 25) 5 (vp_updL cf at9 ((cf at9) ||| (v <<< (((nI of9) : Int32).toInt64 &&& 63))))] H := hP
  refine tp_pc (pc' := 32) (by rfl) ?_
  refine lv_iload hx hb d_Ref_bits_32 (lv_at hl 0 rfl) ?_
  refine lv_iload_n hx hb d_Ref_bits_34 rfl (lv_at hl 4 rfl) ?_
  refine lv_iadd hx hb d_Ref_bits_35 ?_
  refine tp_i (y := nI (of9 + n)) (by exact nI_add of9 n) ?_
  refine lv_bipush (v := 64) hx hb d_Ref_bits_36 (by decide) ?_
  refine lv_icmp_le (tgt := 60) hx hb d_Ref_bits_38 (by decide) (fun c9 => ?_) (fun c9 => absurd ((nI_leI (a := of9 + n) (b := 64) (by omega) (by omega)).mpr hov) c9)
  refine tp_pc (pc' := 60) (by rfl) ?_
  refine lv_aload_n hx hb d_Ref_bits_60 rfl (lv_at hl 2 rfl) ?_
  refine lv_dup hx hb d_Ref_bits_61 rfl ?_
  refine va_get (D := (dC, dI)) (ci := 8) (v := .int (nI cb)) (C := R_Ref) (T := F_Ref) (N := 48) hx hb hw i_Ref hown hK hP 0 rfl rfl 26 (by decide) (hw _ m_925) (fun _ h9 => h9) rfl d_Ref_bits_62 ?_
  refine lv_iload_n hx hb d_Ref_bits_65 rfl (lv_at hl 4 rfl) ?_
  refine lv_iadd hx hb d_Ref_bits_66 ?_
  refine tp_i (y := nI (cb + n)) (by exact nI_add cb n) ?_
  refine va_put (D := (dC, dI)) (ci := 8) (v := .int (nI (cb + n))) (ty := .int) (C := R_Ref) (T := F_Ref) (N := 48) hx hb hw i_Ref t_Ref t_Ref_ok n_Ref hown hK hP (dd_D hD rfl) hS 0 rfl rfl 26 (by decide) (hw _ m_925) (fun _ h9 => h9) rfl (by decide +kernel) rfl rfl (Nat.le_of_ble_eq_true rfl) d_Ref_bits_67 ?_
  clear hP hS locs H
  intro H locs (hP : va_P (dC, dI) classes [oc ra 8 [.int (nI T), .int (nI Ac), .ref (rA 2), .ref (rA 3), .ref (rA 4), .ref (rA 5), .ref (rA 6), .ref (rA 7), .ref (rA 8), .ref (rA 9), .ref (rA 10), .ref (rA 11), .ref (rA 12), .ref (rA 13), .int ir, .ref (rA 15), .ref (rA 16), .ref (rA 17), .ref (rA 18), .int (nI md), .int (nI wd), .ref (rA 21), .ref (rA 22), .ref (rA 23), .int (nI mn), .ref (rA 25), .int (nI (cb + n)), .int mr, .ref (rA 28), .ref (rA 29), .ref (rA 30), .ref (rA 31), .ref (rA 32), .ref (rA 33), .ref (rA 34), .ref (rA 35), .int (nI ld), .int (nI gm), .ref (rA 38), .ref (rA 39), .ref (rA 40), .ref (rA 41), .ref (rA 42), .ref (rA 43), .ref (rA 44), .ref (rA 45), .int (nI my), .ref (rA 47)], la (rA 25) (rK9 25) 5 (vp_updL cf at9 ((cf at9) ||| (v <<< (((nI of9) : Int32).toInt64 &&& 63))))] H) _ hS
  refine tp_pc (pc' := 70) (by rfl) ?_
  replace hP : va_P (dC, dI) classes [oc ra 8 [.int (nI T), .int (nI Ac), .ref (rA 2), .ref (rA 3), .ref (rA 4), .ref (rA 5), .ref (rA 6), .ref (rA 7), .ref (rA 8), .ref (rA 9), .ref (rA 10), .ref (rA 11), .ref (rA 12), .ref (rA 13), .int ir, .ref (rA 15), .ref (rA 16), .ref (rA 17), .ref (rA 18), .int (nI md), .int (nI wd), .ref (rA 21), .ref (rA 22), .ref (rA 23), .int (nI mn), .ref (rA 25), .int (nI (cb + n)), .int mr, .ref (rA 28), .ref (rA 29), .ref (rA 30), .ref (rA 31), .ref (rA 32), .ref (rA 33), .ref (rA 34), .ref (rA 35), .int (nI ld), .int (nI gm), .ref (rA 38), .ref (rA 39), .ref (rA 40), .ref (rA 41), .ref (rA 42), .ref (rA 43), .ref (rA 44), .ref (rA 45), .int (nI my), .ref (rA 47)], la (rA 25) (rK9 25) 5 (vp_updL cf at9 (cf at9 ||| (v <<< ((nI of9 : Int32).toInt64 &&& 63))))] H := hP
  obtain ⟨hP9, hD9, -⟩ := cut3 (wc := [oc ra 8 [.int (nI T), .int (nI Ac), .ref (rA 2), .ref (rA 3), .ref (rA 4), .ref (rA 5), .ref (rA 6), .ref (rA 7), .ref (rA 8), .ref (rA 9), .ref (rA 10), .ref (rA 11), .ref (rA 12), .ref (rA 13), .int ir, .ref (rA 15), .ref (rA 16), .ref (rA 17), .ref (rA 18), .int (nI md), .int (nI wd), .ref (rA 21), .ref (rA 22), .ref (rA 23), .int (nI mn), .ref (rA 25), .int (nI (cb + n)), .int mr, .ref (rA 28), .ref (rA 29), .ref (rA 30), .ref (rA 31), .ref (rA 32), .ref (rA 33), .ref (rA 34), .ref (rA 35), .int (nI ld), .int (nI gm), .ref (rA 38), .ref (rA 39), .ref (rA 40), .ref (rA 41), .ref (rA 42), .ref (rA 43), .ref (rA 44), .ref (rA 45), .int (nI my), .ref (rA 47)], la (rA 25) (rK9 25) 5 (vp_updL cf at9 (cf at9 ||| (v <<< ((nI of9 : Int32).toInt64 &&& 63))))]) hP hD rfl hS hA [0, 1] (by decide +kernel) rfl
  have hK9 := hK.sub (tys' := []) [] rfl
  refine W.widen (k := 0) (n := 0) (by exact Nat.le_of_ble_eq_true rfl) (by exact Nat.le_of_ble_eq_true rfl) ?_
  exact W.vret hx hb hr (fun t9 ht9 hW => ⟨⟨(), rfl, trivial, by rw [ht9]; exact hP9, va_K.moved hW.alike hK9, hD9⟩, hS.F ht9⟩) hS.2.2 d_Ref_bits_70
set_option maxHeartbeats 4000000 in
set_option maxRecDepth 100000 in
theorem gen_Ref_bits_over (l : Launch) (dC : Nat → ClassId) (dI : Nat → Nat → Nat) (ra : Nat) (rA : Nat → Nat) (rK9 : Nat → ClassId) (T Ac md wd mn cb ld gm my : Nat) (ir mr : Int32) (v : Int64) (n at9 of9 : Nat) (cf : Nat → Int64) (hcb : cb = 64 * at9 + of9) (hof : of9 < 64) (hn : n ≤ 64) (hcn : cb + n ≤ 320) (hn0 : 0 < n) (hov : 64 < of9 + n) (sz : Nat) : Met l y_Ref_bits w_Ref_bits ({ frames := 0, cells := 0, slots := 0, locals := 0 }) (va_Pc [.ref ra, .long v, .int (nI n)] (fun U => U.heap.size = sz ∧ va_P (dC, dI) classes [oc ra 8 [.int (nI T), .int (nI Ac), .ref (rA 2), .ref (rA 3), .ref (rA 4), .ref (rA 5), .ref (rA 6), .ref (rA 7), .ref (rA 8), .ref (rA 9), .ref (rA 10), .ref (rA 11), .ref (rA 12), .ref (rA 13), .int ir, .ref (rA 15), .ref (rA 16), .ref (rA 17), .ref (rA 18), .int (nI md), .int (nI wd), .ref (rA 21), .ref (rA 22), .ref (rA 23), .int (nI mn), .ref (rA 25), .int (nI cb), .int mr, .ref (rA 28), .ref (rA 29), .ref (rA 30), .ref (rA 31), .ref (rA 32), .ref (rA 33), .ref (rA 34), .ref (rA 35), .int (nI ld), .int (nI gm), .ref (rA 38), .ref (rA 39), .ref (rA 40), .ref (rA 41), .ref (rA 42), .ref (rA 43), .ref (rA 44), .ref (rA 45), .int (nI my), .ref (rA 47)], la (rA 25) (rK9 25) 5 cf] U.heap ∧ va_K (dC, dI) classes [((rK9 25), .long)] U ∧ va_D (fun _ => True) [oc ra 8 [.int (nI T), .int (nI Ac), .ref (rA 2), .ref (rA 3), .ref (rA 4), .ref (rA 5), .ref (rA 6), .ref (rA 7), .ref (rA 8), .ref (rA 9), .ref (rA 10), .ref (rA 11), .ref (rA 12), .ref (rA 13), .int ir, .ref (rA 15), .ref (rA 16), .ref (rA 17), .ref (rA 18), .int (nI md), .int (nI wd), .ref (rA 21), .ref (rA 22), .ref (rA 23), .int (nI mn), .ref (rA 25), .int (nI cb), .int mr, .ref (rA 28), .ref (rA 29), .ref (rA 30), .ref (rA 31), .ref (rA 32), .ref (rA 33), .ref (rA 34), .ref (rA 35), .int (nI ld), .int (nI gm), .ref (rA 38), .ref (rA 39), .ref (rA 40), .ref (rA 41), .ref (rA 42), .ref (rA 43), .ref (rA 44), .ref (rA 45), .int (nI my), .ref (rA 47)], la (rA 25) (rK9 25) 5 cf] ∧ nw U)) (va_Qv (fun _ : Unit => True) (fun _ t9 => va_P (dC, dI) classes [oc ra 8 [.int (nI T), .int (nI Ac), .ref (rA 2), .ref (rA 3), .ref (rA 4), .ref (rA 5), .ref (rA 6), .ref (rA 7), .ref (rA 8), .ref (rA 9), .ref (rA 10), .ref (rA 11), .ref (rA 12), .ref (rA 13), .int ir, .ref (rA 15), .ref (rA 16), .ref (rA 17), .ref (rA 18), .int (nI md), .int (nI wd), .ref (rA 21), .ref (rA 22), .ref (rA 23), .int (nI mn), .ref (rA 25), .int (nI (cb + n)), .int mr, .ref (rA 28), .ref (rA 29), .ref (rA 30), .ref (rA 31), .ref (rA 32), .ref (rA 33), .ref (rA 34), .ref (rA 35), .int (nI ld), .int (nI gm), .ref (rA 38), .ref (rA 39), .ref (rA 40), .ref (rA 41), .ref (rA 42), .ref (rA 43), .ref (rA 44), .ref (rA 45), .int (nI my), .ref (rA 47)], la (rA 25) (rK9 25) 5 (vp_updL (vp_updL cf at9 (cf at9 ||| (v <<< ((nI of9 : Int32).toInt64 &&& 63)))) (at9 + 1) ((vp_updL cf at9 (cf at9 ||| (v <<< ((nI of9 : Int32).toInt64 &&& 63)))) (at9 + 1) ||| (v.toUInt64 >>> ((nI (64 - of9) : Int32).toInt64.toUInt64 &&& Int64.toUInt64 63)).toInt64))] t9.heap ∧ va_K (dC, dI) classes [] t9 ∧ va_D (va_A [oc ra 8 [.int (nI T), .int (nI Ac), .ref (rA 2), .ref (rA 3), .ref (rA 4), .ref (rA 5), .ref (rA 6), .ref (rA 7), .ref (rA 8), .ref (rA 9), .ref (rA 10), .ref (rA 11), .ref (rA 12), .ref (rA 13), .int ir, .ref (rA 15), .ref (rA 16), .ref (rA 17), .ref (rA 18), .int (nI md), .int (nI wd), .ref (rA 21), .ref (rA 22), .ref (rA 23), .int (nI mn), .ref (rA 25), .int (nI cb), .int mr, .ref (rA 28), .ref (rA 29), .ref (rA 30), .ref (rA 31), .ref (rA 32), .ref (rA 33), .ref (rA 34), .ref (rA 35), .int (nI ld), .int (nI gm), .ref (rA 38), .ref (rA 39), .ref (rA 40), .ref (rA 41), .ref (rA 42), .ref (rA 43), .ref (rA 44), .ref (rA 45), .int (nI my), .ref (rA 47)], la (rA 25) (rK9 25) 5 cf] sz) [oc ra 8 [.int (nI T), .int (nI Ac), .ref (rA 2), .ref (rA 3), .ref (rA 4), .ref (rA 5), .ref (rA 6), .ref (rA 7), .ref (rA 8), .ref (rA 9), .ref (rA 10), .ref (rA 11), .ref (rA 12), .ref (rA 13), .int ir, .ref (rA 15), .ref (rA 16), .ref (rA 17), .ref (rA 18), .int (nI md), .int (nI wd), .ref (rA 21), .ref (rA 22), .ref (rA 23), .int (nI mn), .ref (rA 25), .int (nI (cb + n)), .int mr, .ref (rA 28), .ref (rA 29), .ref (rA 30), .ref (rA 31), .ref (rA 32), .ref (rA 33), .ref (rA 34), .ref (rA 35), .int (nI ld), .int (nI gm), .ref (rA 38), .ref (rA 39), .ref (rA 40), .ref (rA 41), .ref (rA 42), .ref (rA 43), .ref (rA 44), .ref (rA 45), .int (nI my), .ref (rA 47)], la (rA 25) (rK9 25) 5 (vp_updL (vp_updL cf at9 (cf at9 ||| (v <<< ((nI of9 : Int32).toInt64 &&& 63)))) (at9 + 1) ((vp_updL cf at9 (cf at9 ||| (v <<< ((nI of9 : Int32).toInt64 &&& 63)))) (at9 + 1) ||| (v.toUInt64 >>> ((nI (64 - of9) : Int32).toInt64.toUInt64 &&& Int64.toUInt64 63)).toInt64))]) (va_A [oc ra 8 [.int (nI T), .int (nI Ac), .ref (rA 2), .ref (rA 3), .ref (rA 4), .ref (rA 5), .ref (rA 6), .ref (rA 7), .ref (rA 8), .ref (rA 9), .ref (rA 10), .ref (rA 11), .ref (rA 12), .ref (rA 13), .int ir, .ref (rA 15), .ref (rA 16), .ref (rA 17), .ref (rA 18), .int (nI md), .int (nI wd), .ref (rA 21), .ref (rA 22), .ref (rA 23), .int (nI mn), .ref (rA 25), .int (nI cb), .int mr, .ref (rA 28), .ref (rA 29), .ref (rA 30), .ref (rA 31), .ref (rA 32), .ref (rA 33), .ref (rA 34), .ref (rA 35), .int (nI ld), .int (nI gm), .ref (rA 38), .ref (rA 39), .ref (rA 40), .ref (rA 41), .ref (rA 42), .ref (rA 43), .ref (rA 44), .ref (rA 45), .int (nI my), .ref (rA 47)], la (rA 25) (rK9 25) 5 cf] sz)) 0 0 (va_A [oc ra 8 [.int (nI T), .int (nI Ac), .ref (rA 2), .ref (rA 3), .ref (rA 4), .ref (rA 5), .ref (rA 6), .ref (rA 7), .ref (rA 8), .ref (rA 9), .ref (rA 10), .ref (rA 11), .ref (rA 12), .ref (rA 13), .int ir, .ref (rA 15), .ref (rA 16), .ref (rA 17), .ref (rA 18), .int (nI md), .int (nI wd), .ref (rA 21), .ref (rA 22), .ref (rA 23), .int (nI mn), .ref (rA 25), .int (nI cb), .int mr, .ref (rA 28), .ref (rA 29), .ref (rA 30), .ref (rA 31), .ref (rA 32), .ref (rA 33), .ref (rA 34), .ref (rA 35), .int (nI ld), .int (nI gm), .ref (rA 38), .ref (rA 39), .ref (rA 40), .ref (rA 41), .ref (rA 42), .ref (rA 43), .ref (rA 44), .ref (rA 45), .int (nI my), .ref (rA 47)], la (rA 25) (rK9 25) 5 cf] sz) := by
  refine Met.ofW (cc := b_Ref_bits) (maxL := 6) (ret := none) (by decide) rfl ?_
  intro p e0 s m args below meth c s₁ B hml hv
  obtain ⟨rfl, hsz, hP, hK, hD0, hn⟩ := hv
  have hx := B.exec
  have hb := B.bytes
  have hr := B.returns
  have hw := fun w (h : w ∈ wt) => atoms_spec (ws := w_Ref_bits) B.pre w (List.mem_cons_of_mem _ h)
  have hown : s.vm.findClass R_Ref = some m.cls := findClass_of_methodNamed B.named
  have hlocks := B.notSynchronized
  subst hsz
  have hD1 := hD0.self (sz := s.heap.size)
  generalize hAe : va_A [oc ra 8 [.int (nI T), .int (nI Ac), .ref (rA 2), .ref (rA 3), .ref (rA 4), .ref (rA 5), .ref (rA 6), .ref (rA 7), .ref (rA 8), .ref (rA 9), .ref (rA 10), .ref (rA 11), .ref (rA 12), .ref (rA 13), .int ir, .ref (rA 15), .ref (rA 16), .ref (rA 17), .ref (rA 18), .int (nI md), .int (nI wd), .ref (rA 21), .ref (rA 22), .ref (rA 23), .int (nI mn), .ref (rA 25), .int (nI cb), .int mr, .ref (rA 28), .ref (rA 29), .ref (rA 30), .ref (rA 31), .ref (rA 32), .ref (rA 33), .ref (rA 34), .ref (rA 35), .int (nI ld), .int (nI gm), .ref (rA 38), .ref (rA 39), .ref (rA 40), .ref (rA 41), .ref (rA 42), .ref (rA 43), .ref (rA 44), .ref (rA 45), .int (nI my), .ref (rA 47)], la (rA 25) (rK9 25) 5 cf] s.heap.size = A at hD1 ⊢
  have hA : ∀ q : Nat, s.heap.size ≤ q → A q := fun q h => by rw [← hAe]; exact Or.inr h
  have hD : dd A [ra, (rA 25)] := dd_of hD1 rfl
  clear hAe hD0 hD1
  have hS : va_S A s.heap s.heap [] := va_S.rf
  replace hP : va_P (dC, dI) classes [oc ra 8 [.int (nI T), .int (nI Ac), .ref (rA 2), .ref (rA 3), .ref (rA 4), .ref (rA 5), .ref (rA 6), .ref (rA 7), .ref (rA 8), .ref (rA 9), .ref (rA 10), .ref (rA 11), .ref (rA 12), .ref (rA 13), .int ir, .ref (rA 15), .ref (rA 16), .ref (rA 17), .ref (rA 18), .int (nI md), .int (nI wd), .ref (rA 21), .ref (rA 22), .ref (rA 23), .int (nI mn), .ref (rA 25), .int (nI cb), .int mr, .ref (rA 28), .ref (rA 29), .ref (rA 30), .ref (rA 31), .ref (rA 32), .ref (rA 33), .ref (rA 34), .ref (rA 35), .int (nI ld), .int (nI gm), .ref (rA 38), .ref (rA 39), .ref (rA 40), .ref (rA 41), .ref (rA 42), .ref (rA 43), .ref (rA 44), .ref (rA 45), .int (nI my), .ref (rA 47)], la (rA 25) (rK9 25) 5 cf] s.heap := hP
  have hl := lv_entry ([.ref ra, .long v, .int (nI n)]) (n := 6) (Nat.le_of_ble_eq_true rfl)
  rw [lg_entry_eq]
  generalize (lg_sl ([.ref ra, .long v, .int (nI n)]) ++ List.replicate (6 - (lg_sl ([.ref ra, .long v, .int (nI n)])).length) Slot.unset).toArray = ls at hl ⊢
  replace hl : lv_has ls 6 [(0, .ref ra), (1, .long v), (3, .int (nI n))] := hl
  refine lv_aload_n hx hb d_Ref_bits_0 rfl (lv_at hl 0 rfl) ?_
  refine va_get (D := (dC, dI)) (ci := 8) (v := .int (nI cb)) (C := R_Ref) (T := F_Ref) (N := 48) hx hb hw i_Ref hown hK hP 0 rfl rfl 26 (by decide) (hw _ m_925) (fun _ h9 => h9) rfl d_Ref_bits_1 ?_
  refine lv_bipush (v := 64) hx hb d_Ref_bits_4 (by decide) ?_
  refine lv_idiv hx hb d_Ref_bits_6 (by decide) ?_
  refine tp_i (y := nI at9) (by rw [show at9 = cb / 64 from by omega]; exact pk_div (a := cb) (d := 64) (by omega) (by omega) (by omega)) ?_
  refine lv_istore (lv' := [(4, .int (nI at9)), (0, .ref ra), (1, .long v), (3, .int (nI n))]) hx hb d_Ref_bits_7 hl (by decide) rfl ?_
  clear hl ls
  intro ls hl
  refine lv_aload_n hx hb d_Ref_bits_9 rfl (lv_at hl 1 rfl) ?_
  refine va_get (D := (dC, dI)) (ci := 8) (v := .int (nI cb)) (C := R_Ref) (T := F_Ref) (N := 48) hx hb hw i_Ref hown hK hP 0 rfl rfl 26 (by decide) (hw _ m_925) (fun _ h9 => h9) rfl d_Ref_bits_10 ?_
  refine lv_bipush (v := 64) hx hb d_Ref_bits_13 (by decide) ?_
  refine lv_irem hx hb d_Ref_bits_15 (by decide) ?_
  refine tp_i (y := nI of9) (by rw [show of9 = cb % 64 from by omega]; exact pk_rem (a := cb) (d := 64) (by omega) (by omega) (by omega)) ?_
  refine lv_istore (lv' := [(5, .int (nI of9)), (4, .int (nI at9)), (0, .ref ra), (1, .long v), (3, .int (nI n))]) hx hb d_Ref_bits_16 hl (by decide) rfl ?_
  clear hl ls
  intro ls hl
  refine lv_aload_n hx hb d_Ref_bits_18 rfl (lv_at hl 2 rfl) ?_
  refine va_get (D := (dC, dI)) (ci := 8) (v := .ref (rA 25)) (C := R_Ref) (T := F_Ref) (N := 48) hx hb hw i_Ref hown hK hP 0 rfl rfl 25 (by decide) (hw _ m_924) (fun _ h9 => h9) rfl d_Ref_bits_19 ?_
  refine lv_iload hx hb d_Ref_bits_22 (lv_at hl 1 rfl) ?_
  refine lv_dup2_11 hx hb d_Ref_bits_24 rfl rfl ?_
  refine va_lald (D := (dC, dI)) hx hb hK hP 1 0 rfl rfl (i := nI at9) (pk_in at9 5 (by omega)) d_Ref_bits_25 ?_
  refine tp_l (y := cf at9) (by rw [show (nI at9 : Int32).toNatClampNeg = at9 from pk_cl at9]) ?_
  refine lv_lload_n hx hb d_Ref_bits_26 rfl (lv_at hl 3 rfl) ?_
  refine lv_iload hx hb d_Ref_bits_27 (lv_at hl 0 rfl) ?_
  refine lv_lshl (v := v <<< (((nI of9) : Int32).toInt64 &&& 63)) hx hb d_Ref_bits_29 rfl ?_
  refine lv_lor hx hb d_Ref_bits_30 ?_
  refine tp_l (y := (cf at9) ||| (v <<< (((nI of9) : Int32).toInt64 &&& 63))) rfl ?_
  refine va_last (D := (dC, dI)) hx hb hK hP (dd_D hD rfl) hS 1 0 rfl rfl (i := nI at9) (x := (cf at9) ||| (v <<< (((nI of9) : Int32).toInt64 &&& 63))) (pk_in at9 5 (by omega)) d_Ref_bits_31 ?_
  clear hP hS
  intro H locs hP _ hS
  rw [show (nI at9 : Int32).toNatClampNeg = at9 from pk_cl at9] at hP
  replace hP : va_P (dC, dI) classes [oc ra 8 [.int (nI T), .int (nI Ac), .ref (rA 2), .ref (rA 3), .ref (rA 4), .ref (rA 5), .ref (rA 6), .ref (rA 7), .ref (rA 8), .ref (rA 9), .ref (rA 10), .ref (rA 11), .ref (rA 12), .ref (rA 13), .int ir, .ref (rA 15), .ref (rA 16), .ref (rA 17), .ref (rA 18), .int (nI md), .int (nI wd), .ref (rA 21), .ref (rA 22), .ref (rA 23), .int (nI mn), .ref (rA 25), .int (nI cb), .int mr, .ref (rA 28), .ref (rA 29), .ref (rA 30), .ref (rA 31), .ref (rA 32), .ref (rA 33), .ref (rA 34), .ref (rA 35), .int (nI ld), .int (nI gm), .ref (rA 38), .ref (rA 39), .ref (rA 40), .ref (rA 41), .ref (rA 42), .ref (rA 43), .ref (rA 44), .ref (rA 45), .int (nI my), .ref (rA 47)], la (rA 25) (rK9 25) 5 (vp_updL cf at9 ((cf at9) ||| (v <<< (((nI of9) : Int32).toInt64 &&& 63))))] H := hP
  refine tp_pc (pc' := 32) (by rfl) ?_
  refine lv_iload hx hb d_Ref_bits_32 (lv_at hl 0 rfl) ?_
  refine lv_iload_n hx hb d_Ref_bits_34 rfl (lv_at hl 4 rfl) ?_
  refine lv_iadd hx hb d_Ref_bits_35 ?_
  refine tp_i (y := nI (of9 + n)) (by exact nI_add of9 n) ?_
  refine lv_bipush (v := 64) hx hb d_Ref_bits_36 (by decide) ?_
  refine lv_icmp_le (tgt := 60) hx hb d_Ref_bits_38 (by decide) (fun c9 => absurd ((nI_leI (a := of9 + n) (b := 64) (by omega) (by omega)).mp c9) (by omega)) (fun c9 => ?_)
  refine tp_pc (pc' := 41) (by rfl) ?_
  refine lv_aload_n hx hb d_Ref_bits_41 rfl (lv_at hl 2 rfl) ?_
  refine va_get (D := (dC, dI)) (ci := 8) (v := .ref (rA 25)) (C := R_Ref) (T := F_Ref) (N := 48) hx hb hw i_Ref hown hK hP 0 rfl rfl 25 (by decide) (hw _ m_924) (fun _ h9 => h9) rfl d_Ref_bits_42 ?_
  refine lv_iload hx hb d_Ref_bits_45 (lv_at hl 1 rfl) ?_
  refine lv_iconst (v := 1) hx hb d_Ref_bits_47 (by decide) ?_
  refine lv_iadd hx hb d_Ref_bits_48 ?_
  refine tp_i (y := nI (at9 + 1)) (by exact nI_add at9 1) ?_
  refine lv_dup2_11 hx hb d_Ref_bits_49 rfl rfl ?_
  refine va_lald (D := (dC, dI)) hx hb hK hP 1 0 rfl rfl (i := nI (at9 + 1)) (pk_in (at9 + 1) 5 (by omega)) d_Ref_bits_50 ?_
  refine tp_l (y := (vp_updL cf at9 ((cf at9) ||| (v <<< (((nI of9) : Int32).toInt64 &&& 63)))) (at9 + 1)) (by rw [show (nI (at9 + 1) : Int32).toNatClampNeg = at9 + 1 from pk_cl (at9 + 1)]) ?_
  refine lv_lload_n hx hb d_Ref_bits_51 rfl (lv_at hl 3 rfl) ?_
  refine lv_bipush (v := 64) hx hb d_Ref_bits_52 (by decide) ?_
  refine lv_iload hx hb d_Ref_bits_54 (lv_at hl 0 rfl) ?_
  refine lv_isub hx hb d_Ref_bits_56 ?_
  refine tp_i (y := nI (64 - of9)) (by exact pk_sub (a := 64) (b := of9) (by omega)) ?_
  refine lv_lushr (v := (v.toUInt64 >>> (((nI (64 - of9)) : Int32).toInt64.toUInt64 &&& Int64.toUInt64 63)).toInt64) hx hb d_Ref_bits_57 rfl ?_
  refine lv_lor hx hb d_Ref_bits_58 ?_
  refine tp_l (y := ((vp_updL cf at9 ((cf at9) ||| (v <<< (((nI of9) : Int32).toInt64 &&& 63)))) (at9 + 1)) ||| ((v.toUInt64 >>> (((nI (64 - of9)) : Int32).toInt64.toUInt64 &&& Int64.toUInt64 63)).toInt64)) rfl ?_
  refine va_last (D := (dC, dI)) hx hb hK hP (dd_D hD rfl) hS 1 0 rfl rfl (i := nI (at9 + 1)) (x := ((vp_updL cf at9 ((cf at9) ||| (v <<< (((nI of9) : Int32).toInt64 &&& 63)))) (at9 + 1)) ||| ((v.toUInt64 >>> (((nI (64 - of9)) : Int32).toInt64.toUInt64 &&& Int64.toUInt64 63)).toInt64)) (pk_in (at9 + 1) 5 (by omega)) d_Ref_bits_59 ?_
  clear hP hS locs H
  intro H locs hP _ hS
  rw [show (nI (at9 + 1) : Int32).toNatClampNeg = at9 + 1 from pk_cl (at9 + 1)] at hP
  replace hP : va_P (dC, dI) classes [oc ra 8 [.int (nI T), .int (nI Ac), .ref (rA 2), .ref (rA 3), .ref (rA 4), .ref (rA 5), .ref (rA 6), .ref (rA 7), .ref (rA 8), .ref (rA 9), .ref (rA 10), .ref (rA 11), .ref (rA 12), .ref (rA 13), .int ir, .ref (rA 15), .ref (rA 16), .ref (rA 17), .ref (rA 18), .int (nI md), .int (nI wd), .ref (rA 21), .ref (rA 22), .ref (rA 23), .int (nI mn), .ref (rA 25), .int (nI cb), .int mr, .ref (rA 28), .ref (rA 29), .ref (rA 30), .ref (rA 31), .ref (rA 32), .ref (rA 33), .ref (rA 34), .ref (rA 35), .int (nI ld), .int (nI gm), .ref (rA 38), .ref (rA 39), .ref (rA 40), .ref (rA 41), .ref (rA 42), .ref (rA 43), .ref (rA 44), .ref (rA 45), .int (nI my), .ref (rA 47)], la (rA 25) (rK9 25) 5 (vp_updL (vp_updL cf at9 ((cf at9) ||| (v <<< (((nI of9) : Int32).toInt64 &&& 63)))) (at9 + 1) (((vp_updL cf at9 ((cf at9) ||| (v <<< (((nI of9) : Int32).toInt64 &&& 63)))) (at9 + 1)) ||| ((v.toUInt64 >>> (((nI (64 - of9)) : Int32).toInt64.toUInt64 &&& Int64.toUInt64 63)).toInt64)))] H := hP
  refine tp_pc (pc' := 60) (by rfl) ?_
  refine lv_aload_n hx hb d_Ref_bits_60 rfl (lv_at hl 2 rfl) ?_
  refine lv_dup hx hb d_Ref_bits_61 rfl ?_
  refine va_get (D := (dC, dI)) (ci := 8) (v := .int (nI cb)) (C := R_Ref) (T := F_Ref) (N := 48) hx hb hw i_Ref hown hK hP 0 rfl rfl 26 (by decide) (hw _ m_925) (fun _ h9 => h9) rfl d_Ref_bits_62 ?_
  refine lv_iload_n hx hb d_Ref_bits_65 rfl (lv_at hl 4 rfl) ?_
  refine lv_iadd hx hb d_Ref_bits_66 ?_
  refine tp_i (y := nI (cb + n)) (by exact nI_add cb n) ?_
  refine va_put (D := (dC, dI)) (ci := 8) (v := .int (nI (cb + n))) (ty := .int) (C := R_Ref) (T := F_Ref) (N := 48) hx hb hw i_Ref t_Ref t_Ref_ok n_Ref hown hK hP (dd_D hD rfl) hS 0 rfl rfl 26 (by decide) (hw _ m_925) (fun _ h9 => h9) rfl (by decide +kernel) rfl rfl (Nat.le_of_ble_eq_true rfl) d_Ref_bits_67 ?_
  clear hP hS locs H
  intro H locs (hP : va_P (dC, dI) classes [oc ra 8 [.int (nI T), .int (nI Ac), .ref (rA 2), .ref (rA 3), .ref (rA 4), .ref (rA 5), .ref (rA 6), .ref (rA 7), .ref (rA 8), .ref (rA 9), .ref (rA 10), .ref (rA 11), .ref (rA 12), .ref (rA 13), .int ir, .ref (rA 15), .ref (rA 16), .ref (rA 17), .ref (rA 18), .int (nI md), .int (nI wd), .ref (rA 21), .ref (rA 22), .ref (rA 23), .int (nI mn), .ref (rA 25), .int (nI (cb + n)), .int mr, .ref (rA 28), .ref (rA 29), .ref (rA 30), .ref (rA 31), .ref (rA 32), .ref (rA 33), .ref (rA 34), .ref (rA 35), .int (nI ld), .int (nI gm), .ref (rA 38), .ref (rA 39), .ref (rA 40), .ref (rA 41), .ref (rA 42), .ref (rA 43), .ref (rA 44), .ref (rA 45), .int (nI my), .ref (rA 47)], la (rA 25) (rK9 25) 5 (vp_updL (vp_updL cf at9 ((cf at9) ||| (v <<< (((nI of9) : Int32).toInt64 &&& 63)))) (at9 + 1) (((vp_updL cf at9 ((cf at9) ||| (v <<< (((nI of9) : Int32).toInt64 &&& 63)))) (at9 + 1)) ||| ((v.toUInt64 >>> (((nI (64 - of9)) : Int32).toInt64.toUInt64 &&& Int64.toUInt64 63)).toInt64)))] H) _ hS
  refine tp_pc (pc' := 70) (by rfl) ?_
  replace hP : va_P (dC, dI) classes [oc ra 8 [.int (nI T), .int (nI Ac), .ref (rA 2), .ref (rA 3), .ref (rA 4), .ref (rA 5), .ref (rA 6), .ref (rA 7), .ref (rA 8), .ref (rA 9), .ref (rA 10), .ref (rA 11), .ref (rA 12), .ref (rA 13), .int ir, .ref (rA 15), .ref (rA 16), .ref (rA 17), .ref (rA 18), .int (nI md), .int (nI wd), .ref (rA 21), .ref (rA 22), .ref (rA 23), .int (nI mn), .ref (rA 25), .int (nI (cb + n)), .int mr, .ref (rA 28), .ref (rA 29), .ref (rA 30), .ref (rA 31), .ref (rA 32), .ref (rA 33), .ref (rA 34), .ref (rA 35), .int (nI ld), .int (nI gm), .ref (rA 38), .ref (rA 39), .ref (rA 40), .ref (rA 41), .ref (rA 42), .ref (rA 43), .ref (rA 44), .ref (rA 45), .int (nI my), .ref (rA 47)], la (rA 25) (rK9 25) 5 (vp_updL (vp_updL cf at9 (cf at9 ||| (v <<< ((nI of9 : Int32).toInt64 &&& 63)))) (at9 + 1) ((vp_updL cf at9 (cf at9 ||| (v <<< ((nI of9 : Int32).toInt64 &&& 63)))) (at9 + 1) ||| (v.toUInt64 >>> ((nI (64 - of9) : Int32).toInt64.toUInt64 &&& Int64.toUInt64 63)).toInt64))] H := hP
  obtain ⟨hP9, hD9, -⟩ := cut3 (wc := [oc ra 8 [.int (nI T), .int (nI Ac), .ref (rA 2), .ref (rA 3), .ref (rA 4), .ref (rA 5), .ref (rA 6), .ref (rA 7), .ref (rA 8), .ref (rA 9), .ref (rA 10), .ref (rA 11), .ref (rA 12), .ref (rA 13), .int ir, .ref (rA 15), .ref (rA 16), .ref (rA 17), .ref (rA 18), .int (nI md), .int (nI wd), .ref (rA 21), .ref (rA 22), .ref (rA 23), .int (nI mn), .ref (rA 25), .int (nI (cb + n)), .int mr, .ref (rA 28), .ref (rA 29), .ref (rA 30), .ref (rA 31), .ref (rA 32), .ref (rA 33), .ref (rA 34), .ref (rA 35), .int (nI ld), .int (nI gm), .ref (rA 38), .ref (rA 39), .ref (rA 40), .ref (rA 41), .ref (rA 42), .ref (rA 43), .ref (rA 44), .ref (rA 45), .int (nI my), .ref (rA 47)], la (rA 25) (rK9 25) 5 (vp_updL (vp_updL cf at9 (cf at9 ||| (v <<< ((nI of9 : Int32).toInt64 &&& 63)))) (at9 + 1) ((vp_updL cf at9 (cf at9 ||| (v <<< ((nI of9 : Int32).toInt64 &&& 63)))) (at9 + 1) ||| (v.toUInt64 >>> ((nI (64 - of9) : Int32).toInt64.toUInt64 &&& Int64.toUInt64 63)).toInt64))]) hP hD rfl hS hA [0, 1] (by decide +kernel) rfl
  have hK9 := hK.sub (tys' := []) [] rfl
  refine W.widen (k := 0) (n := 0) (by exact Nat.le_of_ble_eq_true rfl) (by exact Nat.le_of_ble_eq_true rfl) ?_
  exact W.vret hx hb hr (fun t9 ht9 hW => ⟨⟨(), rfl, trivial, by rw [ht9]; exact hP9, va_K.moved hW.alike hK9, hD9⟩, hS.F ht9⟩) hS.2.2 d_Ref_bits_70
