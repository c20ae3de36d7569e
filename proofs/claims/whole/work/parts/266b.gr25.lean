set_option maxHeartbeats 4000000 in
set_option maxRecDepth 100000 in
theorem gen_Ref_encode_2 (l : Launch) (dC : Nat → ClassId) (dI : Nat → Nat → Nat) (ra : Nat) (rA : Nat → Nat) (rK9 : Nat → ClassId) (T Ac md wd mn cb ld gm my : Nat) (ir mr : Int32) (nb : Nat) (sf : Nat → Int32) (cf : Nat → Int64) (hmd : md = 2) (hnb : sf 15 = nI nb) (hn7 : nb ≤ 7) (hs3 : szB (enB 2 sf nb) ≤ 320) (sz : Nat) : Met l y_Ref_encode w_Ref_encode ({ frames := 2, cells := 0, slots := 0, locals := 120 }) (va_Pc [.ref ra] (fun U => U.heap.size = sz ∧ va_P (dC, dI) classes [oc ra 8 [.int (nI T), .int (nI Ac), .ref (rA 2), .ref (rA 3), .ref (rA 4), .ref (rA 5), .ref (rA 6), .ref (rA 7), .ref (rA 8), .ref (rA 9), .ref (rA 10), .ref (rA 11), .ref (rA 12), .ref (rA 13), .int ir, .ref (rA 15), .ref (rA 16), .ref (rA 17), .ref (rA 18), .int (nI md), .int (nI wd), .ref (rA 21), .ref (rA 22), .ref (rA 23), .int (nI mn), .ref (rA 25), .int (nI cb), .int mr, .ref (rA 28), .ref (rA 29), .ref (rA 30), .ref (rA 31), .ref (rA 32), .ref (rA 33), .ref (rA 34), .ref (rA 35), .int (nI ld), .int (nI gm), .ref (rA 38), .ref (rA 39), .ref (rA 40), .ref (rA 41), .ref (rA 42), .ref (rA 43), .ref (rA 44), .ref (rA 45), .int (nI my), .ref (rA 47)], la (rA 25) (rK9 25) 5 cf, ia (rA 16) (rK9 16) 155 sf] U.heap ∧ va_K (dC, dI) classes [((rK9 25), .long), ((rK9 16), .int)] U ∧ va_D (fun _ => True) [oc ra 8 [.int (nI T), .int (nI Ac), .ref (rA 2), .ref (rA 3), .ref (rA 4), .ref (rA 5), .ref (rA 6), .ref (rA 7), .ref (rA 8), .ref (rA 9), .ref (rA 10), .ref (rA 11), .ref (rA 12), .ref (rA 13), .int ir, .ref (rA 15), .ref (rA 16), .ref (rA 17), .ref (rA 18), .int (nI md), .int (nI wd), .ref (rA 21), .ref (rA 22), .ref (rA 23), .int (nI mn), .ref (rA 25), .int (nI cb), .int mr, .ref (rA 28), .ref (rA 29), .ref (rA 30), .ref (rA 31), .ref (rA 32), .ref (rA 33), .ref (rA 34), .ref (rA 35), .int (nI ld), .int (nI gm), .ref (rA 38), .ref (rA 39), .ref (rA 40), .ref (rA 41), .ref (rA 42), .ref (rA 43), .ref (rA 44), .ref (rA 45), .int (nI my), .ref (rA 47)], la (rA 25) (rK9 25) 5 cf, ia (rA 16) (rK9 16) 155 sf] ∧ nw U)) (va_Qv (fun _ : Unit => True) (fun _ t9 => va_P (dC, dI) classes [oc ra 8 [.int (nI T), .int (nI Ac), .ref (rA 2), .ref (rA 3), .ref (rA 4), .ref (rA 5), .ref (rA 6), .ref (rA 7), .ref (rA 8), .ref (rA 9), .ref (rA 10), .ref (rA 11), .ref (rA 12), .ref (rA 13), .int ir, .ref (rA 15), .ref (rA 16), .ref (rA 17), .ref (rA 18), .int (nI md), .int (nI wd), .ref (rA 21), .ref (rA 22), .ref (rA 23), .int (nI mn), .ref (rA 25), .int (nI (szB (enB 2 sf nb))), .int mr, .ref (rA 28), .ref (rA 29), .ref (rA 30), .ref (rA 31), .ref (rA 32), .ref (rA 33), .ref (rA 34), .ref (rA 35), .int (nI ld), .int (nI gm), .ref (rA 38), .ref (rA 39), .ref (rA 40), .ref (rA 41), .ref (rA 42), .ref (rA 43), .ref (rA 44), .ref (rA 45), .int (nI my), .ref (rA 47)], la (rA 25) (rK9 25) 5 ((wrB (enB 2 sf nb)).1), ia (rA 16) (rK9 16) 155 sf] t9.heap ∧ va_K (dC, dI) classes [] t9 ∧ va_D (va_A [oc ra 8 [.int (nI T), .int (nI Ac), .ref (rA 2), .ref (rA 3), .ref (rA 4), .ref (rA 5), .ref (rA 6), .ref (rA 7), .ref (rA 8), .ref (rA 9), .ref (rA 10), .ref (rA 11), .ref (rA 12), .ref (rA 13), .int ir, .ref (rA 15), .ref (rA 16), .ref (rA 17), .ref (rA 18), .int (nI md), .int (nI wd), .ref (rA 21), .ref (rA 22), .ref (rA 23), .int (nI mn), .ref (rA 25), .int (nI cb), .int mr, .ref (rA 28), .ref (rA 29), .ref (rA 30), .ref (rA 31), .ref (rA 32), .ref (rA 33), .ref (rA 34), .ref (rA 35), .int (nI ld), .int (nI gm), .ref (rA 38), .ref (rA 39), .ref (rA 40), .ref (rA 41), .ref (rA 42), .ref (rA 43), .ref (rA 44), .ref (rA 45), .int (nI my), .ref (rA 47)], la (rA 25) (rK9 25) 5 cf, ia (rA 16) (rK9 16) 155 sf] sz) [oc ra 8 [.int (nI T), .int (nI Ac), .ref (rA 2), .ref (rA 3), .ref (rA 4), .ref (rA 5), .ref (rA 6), .ref (rA 7), .ref (rA 8), .ref (rA 9), .ref (rA 10), .ref (rA 11), .ref (rA 12), .ref (rA 13), .int ir, .ref (rA 15), .ref (rA 16), .ref (rA 17), .ref (rA 18), .int (nI md), .int (nI wd), .ref (rA 21), .ref (rA 22), .ref (rA 23), .int (nI mn), .ref (rA 25), .int (nI (szB (enB 2 sf nb))), .int mr, .ref (rA 28), .ref (rA 29), .ref (rA 30), .ref (rA 31), .ref (rA 32), .ref (rA 33), .ref (rA 34), .ref (rA 35), .int (nI ld), .int (nI gm), .ref (rA 38), .ref (rA 39), .ref (rA 40), .ref (rA 41), .ref (rA 42), .ref (rA 43), .ref (rA 44), .ref (rA 45), .int (nI my), .ref (rA 47)], la (rA 25) (rK9 25) 5 ((wrB (enB 2 sf nb)).1), ia (rA 16) (rK9 16) 155 sf]) (va_A [oc ra 8 [.int (nI T), .int (nI Ac), .ref (rA 2), .ref (rA 3), .ref (rA 4), .ref (rA 5), .ref (rA 6), .ref (rA 7), .ref (rA 8), .ref (rA 9), .ref (rA 10), .ref (rA 11), .ref (rA 12), .ref (rA 13), .int ir, .ref (rA 15), .ref (rA 16), .ref (rA 17), .ref (rA 18), .int (nI md), .int (nI wd), .ref (rA 21), .ref (rA 22), .ref (rA 23), .int (nI mn), .ref (rA 25), .int (nI cb), .int mr, .ref (rA 28), .ref (rA 29), .ref (rA 30), .ref (rA 31), .ref (rA 32), .ref (rA 33), .ref (rA 34), .ref (rA 35), .int (nI ld), .int (nI gm), .ref (rA 38), .ref (rA 39), .ref (rA 40), .ref (rA 41), .ref (rA 42), .ref (rA 43), .ref (rA 44), .ref (rA 45), .int (nI my), .ref (rA 47)], la (rA 25) (rK9 25) 5 cf, ia (rA 16) (rK9 16) 155 sf] sz)) 0 0 (va_A [oc ra 8 [.int (nI T), .int (nI Ac), .ref (rA 2), .ref (rA 3), .ref (rA 4), .ref (rA 5), .ref (rA 6), .ref (rA 7), .ref (rA 8), .ref (rA 9), .ref (rA 10), .ref (rA 11), .ref (rA 12), .ref (rA 13), .int ir, .ref (rA 15), .ref (rA 16), .ref (rA 17), .ref (rA 18), .int (nI md), .int (nI wd), .ref (rA 21), .ref (rA 22), .ref (rA 23), .int (nI mn), .ref (rA 25), .int (nI cb), .int mr, .ref (rA 28), .ref (rA 29), .ref (rA 30), .ref (rA 31), .ref (rA 32), .ref (rA 33), .ref (rA 34), .ref (rA 35), .int (nI ld), .int (nI gm), .ref (rA 38), .ref (rA 39), .ref (rA 40), .ref (rA 41), .ref (rA 42), .ref (rA 43), .ref (rA 44), .ref (rA 45), .int (nI my), .ref (rA 47)], la (rA 25) (rK9 25) 5 cf, ia (rA 16) (rK9 16) 155 sf] sz) := by
  refine Met.ofW (cc := b_Ref_encode) (maxL := 7) (ret := none) (by decide) rfl ?_
  intro p e0 s m args below meth c s₁ B hml hv
  obtain ⟨rfl, hsz, hP, hK, hD0, hn⟩ := hv
  have hx := B.exec
  have hb := B.bytes
  have hr := B.returns
  have hw := fun w (h : w ∈ wt) => atoms_spec (ws := w_Ref_encode) B.pre w (List.mem_cons_of_mem _ h)
  have hown : s.vm.findClass R_Ref = some m.cls := findClass_of_methodNamed B.named
  have hlocks := B.notSynchronized
  subst hsz
  have hD1 := hD0.self (sz := s.heap.size)
  generalize hAe : va_A [oc ra 8 [.int (nI T), .int (nI Ac), .ref (rA 2), .ref (rA 3), .ref (rA 4), .ref (rA 5), .ref (rA 6), .ref (rA 7), .ref (rA 8), .ref (rA 9), .ref (rA 10), .ref (rA 11), .ref (rA 12), .ref (rA 13), .int ir, .ref (rA 15), .ref (rA 16), .ref (rA 17), .ref (rA 18), .int (nI md), .int (nI wd), .ref (rA 21), .ref (rA 22), .ref (rA 23), .int (nI mn), .ref (rA 25), .int (nI cb), .int mr, .ref (rA 28), .ref (rA 29), .ref (rA 30), .ref (rA 31), .ref (rA 32), .ref (rA 33), .ref (rA 34), .ref (rA 35), .int (nI ld), .int (nI gm), .ref (rA 38), .ref (rA 39), .ref (rA 40), .ref (rA 41), .ref (rA 42), .ref (rA 43), .ref (rA 44), .ref (rA 45), .int (nI my), .ref (rA 47)], la (rA 25) (rK9 25) 5 cf, ia (rA 16) (rK9 16) 155 sf] s.heap.size = A at hD1 ⊢
  have hA : ∀ q : Nat, s.heap.size ≤ q → A q := fun q h => by rw [← hAe]; exact Or.inr h
  have hD : dd A [ra, (rA 25), (rA 16)] := dd_of hD1 rfl
  clear hAe hD0 hD1
  have hS : va_S A s.heap s.heap [] := va_S.rf
  replace hP : va_P (dC, dI) classes [oc ra 8 [.int (nI T), .int (nI Ac), .ref (rA 2), .ref (rA 3), .ref (rA 4), .ref (rA 5), .ref (rA 6), .ref (rA 7), .ref (rA 8), .ref (rA 9), .ref (rA 10), .ref (rA 11), .ref (rA 12), .ref (rA 13), .int ir, .ref (rA 15), .ref (rA 16), .ref (rA 17), .ref (rA 18), .int (nI md), .int (nI wd), .ref (rA 21), .ref (rA 22), .ref (rA 23), .int (nI mn), .ref (rA 25), .int (nI cb), .int mr, .ref (rA 28), .ref (rA 29), .ref (rA 30), .ref (rA 31), .ref (rA 32), .ref (rA 33), .ref (rA 34), .ref (rA 35), .int (nI ld), .int (nI gm), .ref (rA 38), .ref (rA 39), .ref (rA 40), .ref (rA 41), .ref (rA 42), .ref (rA 43), .ref (rA 44), .ref (rA 45), .int (nI my), .ref (rA 47)], la (rA 25) (rK9 25) 5 cf, ia (rA 16) (rK9 16) 155 sf] s.heap := hP
  have hl := lv_entry ([.ref ra]) (n := 7) (Nat.le_of_ble_eq_true rfl)
  rw [lg_entry_eq]
  generalize (lg_sl ([.ref ra]) ++ List.replicate (7 - (lg_sl ([.ref ra])).length) Slot.unset).toArray = ls at hl ⊢
  replace hl : lv_has ls 7 [(0, .ref ra)] := hl
  refine lv_iconst (v := 0) hx hb d_Ref_encode_0 (by decide) ?_
  refine lv_istore_n (lv' := [(1, .int 0), (0, .ref ra)]) hx hb d_Ref_encode_1 rfl hl (by decide) rfl ?_
  clear hl ls
  intro ls hl
  refine lv_iload_n hx hb d_Ref_encode_2 rfl (lv_at hl 0 rfl) ?_
  refine lv_iconst (v := 5) hx hb d_Ref_encode_3 (by decide) ?_
  refine lv_icmp_ge (tgt := 20) hx hb d_Ref_encode_4 (by decide) (fun c_1 => absurd c_1 (by decide)) (fun c_1 => ?_)
  refine tp_pc (pc' := 7) (by rfl) ?_
  refine lv_aload_n hx hb d_Ref_encode_7 rfl (lv_at hl 1 rfl) ?_
  refine va_get (D := (dC, dI)) (ci := 8) (v := .ref (rA 25)) (C := R_Ref) (T := F_Ref) (N := 48) hx hb hw i_Ref hown hK hP 0 rfl rfl 25 (by decide) (hw _ m_924) (fun _ h9 => h9) rfl d_Ref_encode_8 ?_
  refine lv_iload_n hx hb d_Ref_encode_11 rfl (lv_at hl 0 rfl) ?_
  refine lv_lconst (v := 0) hx hb d_Ref_encode_12 (by decide) ?_
  refine va_last (D := (dC, dI)) hx hb hK hP (dd_D hD rfl) hS 1 0 rfl rfl (i := 0) (x := 0) (pk_in 0 5 (by omega)) d_Ref_encode_13 ?_
  clear hP hS
  intro H locs hP _ hS
  rw [show (0 : Int32).toNatClampNeg = 0 from pk_cl 0] at hP
  replace hP : va_P (dC, dI) classes [oc ra 8 [.int (nI T), .int (nI Ac), .ref (rA 2), .ref (rA 3), .ref (rA 4), .ref (rA 5), .ref (rA 6), .ref (rA 7), .ref (rA 8), .ref (rA 9), .ref (rA 10), .ref (rA 11), .ref (rA 12), .ref (rA 13), .int ir, .ref (rA 15), .ref (rA 16), .ref (rA 17), .ref (rA 18), .int (nI md), .int (nI wd), .ref (rA 21), .ref (rA 22), .ref (rA 23), .int (nI mn), .ref (rA 25), .int (nI cb), .int mr, .ref (rA 28), .ref (rA 29), .ref (rA 30), .ref (rA 31), .ref (rA 32), .ref (rA 33), .ref (rA 34), .ref (rA 35), .int (nI ld), .int (nI gm), .ref (rA 38), .ref (rA 39), .ref (rA 40), .ref (rA 41), .ref (rA 42), .ref (rA 43), .ref (rA 44), .ref (rA 45), .int (nI my), .ref (rA 47)], la (rA 25) (rK9 25) 5 (vp_updL cf 0 0), ia (rA 16) (rK9 16) 155 sf] H := hP
  refine tp_pc (pc' := 14) (by rfl) ?_
  refine lv_iinc (v := 1) (lv' := [(1, .int 1), (0, .ref ra)]) hx hb d_Ref_encode_14 hl (k := 0) rfl (by first | rfl | decide) (by decide) rfl ?_
  clear hl ls
  intro ls hl
  refine lv_goto (tgt := 2) hx hb d_Ref_encode_17 (by decide) ?_
  refine tp_pc (pc' := 2) (by rfl) ?_
  refine lv_iload_n hx hb d_Ref_encode_2 rfl (lv_at hl 0 rfl) ?_
  refine lv_iconst (v := 5) hx hb d_Ref_encode_3 (by decide) ?_
  refine lv_icmp_ge (tgt := 20) hx hb d_Ref_encode_4 (by decide) (fun c_2 => absurd c_2 (by decide)) (fun c_2 => ?_)
  refine tp_pc (pc' := 7) (by rfl) ?_
  refine lv_aload_n hx hb d_Ref_encode_7 rfl (lv_at hl 1 rfl) ?_
  refine va_get (D := (dC, dI)) (ci := 8) (v := .ref (rA 25)) (C := R_Ref) (T := F_Ref) (N := 48) hx hb hw i_Ref hown hK hP 0 rfl rfl 25 (by decide) (hw _ m_924) (fun _ h9 => h9) rfl d_Ref_encode_8 ?_
  refine lv_iload_n hx hb d_Ref_encode_11 rfl (lv_at hl 0 rfl) ?_
  refine lv_lconst (v := 0) hx hb d_Ref_encode_12 (by decide) ?_
  refine va_last (D := (dC, dI)) hx hb hK hP (dd_D hD rfl) hS 1 0 rfl rfl (i := 1) (x := 0) (pk_in 1 5 (by omega)) d_Ref_encode_13 ?_
  clear hP hS locs H
  intro H locs hP _ hS
  rw [show (1 : Int32).toNatClampNeg = 1 from pk_cl 1] at hP
  replace hP : va_P (dC, dI) classes [oc ra 8 [.int (nI T), .int (nI Ac), .ref (rA 2), .ref (rA 3), .ref (rA 4), .ref (rA 5), .ref (rA 6), .ref (rA 7), .ref (rA 8), .ref (rA 9), .ref (rA 10), .ref (rA 11), .ref (rA 12), .ref (rA 13), .int ir, .ref (rA 15), .ref (rA 16), .ref (rA 17), .ref (rA 18), .int (nI md), .int (nI wd), .ref (rA 21), .ref (rA 22), .ref (rA 23), .int (nI mn), .ref (rA 25), .int (nI cb), .int mr, .ref (rA 28), .ref (rA 29), .ref (rA 30), .ref (rA 31), .ref (rA 32), .ref (rA 33), .ref (rA 34), .ref (rA 35), .int (nI ld), .int (nI gm), .ref (rA 38), .ref (rA 39), .ref (rA 40), .ref (rA 41), .ref (rA 42), .ref (rA 43), .ref (rA 44), .ref (rA 45), .int (nI my), .ref (rA 47)], la (rA 25) (rK9 25) 5 (vp_updL (vp_updL cf 0 0) 1 0), ia (rA 16) (rK9 16) 155 sf] H := hP
  refine tp_pc (pc' := 14) (by rfl) ?_
  refine lv_iinc (v := 2) (lv' := [(1, .int 2), (0, .ref ra)]) hx hb d_Ref_encode_14 hl (k := 0) rfl (by first | rfl | decide) (by decide) rfl ?_
  clear hl ls
  intro ls hl
  refine lv_goto (tgt := 2) hx hb d_Ref_encode_17 (by decide) ?_
  refine tp_pc (pc' := 2) (by rfl) ?_
  refine lv_iload_n hx hb d_Ref_encode_2 rfl (lv_at hl 0 rfl) ?_
  refine lv_iconst (v := 5) hx hb d_Ref_encode_3 (by decide) ?_
  refine lv_icmp_ge (tgt := 20) hx hb d_Ref_encode_4 (by decide) (fun c_3 => absurd c_3 (by decide)) (fun c_3 => ?_)
  refine tp_pc (pc' := 7) (by rfl) ?_
  refine lv_aload_n hx hb d_Ref_encode_7 rfl (lv_at hl 1 rfl) ?_
  refine va_get (D := (dC, dI)) (ci := 8) (v := .ref (rA 25)) (C := R_Ref) (T := F_Ref) (N := 48) hx hb hw i_Ref hown hK hP 0 rfl rfl 25 (by decide) (hw _ m_924) (fun _ h9 => h9) rfl d_Ref_encode_8 ?_
  refine lv_iload_n hx hb d_Ref_encode_11 rfl (lv_at hl 0 rfl) ?_
  refine lv_lconst (v := 0) hx hb d_Ref_encode_12 (by decide) ?_
  refine va_last (D := (dC, dI)) hx hb hK hP (dd_D hD rfl) hS 1 0 rfl rfl (i := 2) (x := 0) (pk_in 2 5 (by omega)) d_Ref_encode_13 ?_
  clear hP hS locs H
  intro H locs hP _ hS
  rw [show (2 : Int32).toNatClampNeg = 2 from pk_cl 2] at hP
  replace hP : va_P (dC, dI) classes [oc ra 8 [.int (nI T), .int (nI Ac), .ref (rA 2), .ref (rA 3), .ref (rA 4), .ref (rA 5), .ref (rA 6), .ref (rA 7), .ref (rA 8), .ref (rA 9), .ref (rA 10), .ref (rA 11), .ref (rA 12), .ref (rA 13), .int ir, .ref (rA 15), .ref (rA 16), .ref (rA 17), .ref (rA 18), .int (nI md), .int (nI wd), .ref (rA 21), .ref (rA 22), .ref (rA 23), .int (nI mn), .ref (rA 25), .int (nI cb), .int mr, .ref (rA 28), .ref (rA 29), .ref (rA 30), .ref (rA 31), .ref (rA 32), .ref (rA 33), .ref (rA 34), .ref (rA 35), .int (nI ld), .int (nI gm), .ref (rA 38), .ref (rA 39), .ref (rA 40), .ref (rA 41), .ref (rA 42), .ref (rA 43), .ref (rA 44), .ref (rA 45), .int (nI my), .ref (rA 47)], la (rA 25) (rK9 25) 5 (vp_updL (vp_updL (vp_updL cf 0 0) 1 0) 2 0), ia (rA 16) (rK9 16) 155 sf] H := hP
  refine tp_pc (pc' := 14) (by rfl) ?_
  refine lv_iinc (v := 3) (lv' := [(1, .int 3), (0, .ref ra)]) hx hb d_Ref_encode_14 hl (k := 0) rfl (by first | rfl | decide) (by decide) rfl ?_
  clear hl ls
  intro ls hl
  refine lv_goto (tgt := 2) hx hb d_Ref_encode_17 (by decide) ?_
  refine tp_pc (pc' := 2) (by rfl) ?_
  refine lv_iload_n hx hb d_Ref_encode_2 rfl (lv_at hl 0 rfl) ?_
  refine lv_iconst (v := 5) hx hb d_Ref_encode_3 (by decide) ?_
  refine lv_icmp_ge (tgt := 20) hx hb d_Ref_encode_4 (by decide) (fun c_4 => absurd c_4 (by decide)) (fun c_4 => ?_)
  refine tp_pc (pc' := 7) (by rfl) ?_
  refine lv_aload_n hx hb d_Ref_encode_7 rfl (lv_at hl 1 rfl) ?_
  refine va_get (D := (dC, dI)) (ci := 8) (v := .ref (rA 25)) (C := R_Ref) (T := F_Ref) (N := 48) hx hb hw i_Ref hown hK hP 0 rfl rfl 25 (by decide) (hw _ m_924) (fun _ h9 => h9) rfl d_Ref_encode_8 ?_
  refine lv_iload_n hx hb d_Ref_encode_11 rfl (lv_at hl 0 rfl) ?_
  refine lv_lconst (v := 0) hx hb d_Ref_encode_12 (by decide) ?_
  refine va_last (D := (dC, dI)) hx hb hK hP (dd_D hD rfl) hS 1 0 rfl rfl (i := 3) (x := 0) (pk_in 3 5 (by omega)) d_Ref_encode_13 ?_
  clear hP hS locs H
  intro H locs hP _ hS
  rw [show (3 : Int32).toNatClampNeg = 3 from pk_cl 3] at hP
  replace hP : va_P (dC, dI) classes [oc ra 8 [.int (nI T), .int (nI Ac), .ref (rA 2), .ref (rA 3), .ref (rA 4), .ref (rA 5), .ref (rA 6), .ref (rA 7), .ref (rA 8), .ref (rA 9), .ref (rA 10), .ref (rA 11), .ref (rA 12), .ref (rA 13), .int ir, .ref (rA 15), .ref (rA 16), .ref (rA 17), .ref (rA 18), .int (nI md), .int (nI wd), .ref (rA 21), .ref (rA 22), .ref (rA 23), .int (nI mn), .ref (rA 25), .int (nI cb), .int mr, .ref (rA 28), .ref (rA 29), .ref (rA 30), .ref (rA 31), .ref (rA 32), .ref (rA 33), .ref (rA 34), .ref (rA 35), .int (nI ld), .int (nI gm), .ref (rA 38), .ref (rA 39), .ref (rA 40), .ref (rA 41), .ref (rA 42), .ref (rA 43), .ref (rA 44), .ref (rA 45), .int (nI my), .ref (rA 47)], la (rA 25) (rK9 25) 5 (vp_updL (vp_updL (vp_updL (vp_updL cf 0 0) 1 0) 2 0) 3 0), ia (rA 16) (rK9 16) 155 sf] H := hP
  refine tp_pc (pc' := 14) (by rfl) ?_
  refine lv_iinc (v := 4) (lv' := [(1, .int 4), (0, .ref ra)]) hx hb d_Ref_encode_14 hl (k := 0) rfl (by first | rfl | decide) (by decide) rfl ?_
  clear hl ls
  intro ls hl
  refine lv_goto (tgt := 2) hx hb d_Ref_encode_17 (by decide) ?_
  refine tp_pc (pc' := 2) (by rfl) ?_
  refine lv_iload_n hx hb d_Ref_encode_2 rfl (lv_at hl 0 rfl) ?_
  refine lv_iconst (v := 5) hx hb d_Ref_encode_3 (by decide) ?_
  refine lv_icmp_ge (tgt := 20) hx hb d_Ref_encode_4 (by decide) (fun c_5 => absurd c_5 (by decide)) (fun c_5 => ?_)
  refine tp_pc (pc' := 7) (by rfl) ?_
  refine lv_aload_n hx hb d_Ref_encode_7 rfl (lv_at hl 1 rfl) ?_
  refine va_get (D := (dC, dI)) (ci := 8) (v := .ref (rA 25)) (C := R_Ref) (T := F_Ref) (N := 48) hx hb hw i_Ref hown hK hP 0 rfl rfl 25 (by decide) (hw _ m_924) (fun _ h9 => h9) rfl d_Ref_encode_8 ?_
  refine lv_iload_n hx hb d_Ref_encode_11 rfl (lv_at hl 0 rfl) ?_
  refine lv_lconst (v := 0) hx hb d_Ref_encode_12 (by decide) ?_
  refine va_last (D := (dC, dI)) hx hb hK hP (dd_D hD rfl) hS 1 0 rfl rfl (i := 4) (x := 0) (pk_in 4 5 (by omega)) d_Ref_encode_13 ?_
  clear hP hS locs H
  intro H locs hP _ hS
  rw [show (4 : Int32).toNatClampNeg = 4 from pk_cl 4] at hP
  replace hP : va_P (dC, dI) classes [oc ra 8 [.int (nI T), .int (nI Ac), .ref (rA 2), .ref (rA 3), .ref (rA 4), .ref (rA 5), .ref (rA 6), .ref (rA 7), .ref (rA 8), .ref (rA 9), .ref (rA 10), .ref (rA 11), .ref (rA 12), .ref (rA 13), .int ir, .ref (rA 15), .ref (rA 16), .ref (rA 17), .ref (rA 18), .int (nI md), .int (nI wd), .ref (rA 21), .ref (rA 22), .ref (rA 23), .int (nI mn), .ref (rA 25), .int (nI cb), .int mr, .ref (rA 28), .ref (rA 29), .ref (rA 30), .ref (rA 31), .ref (rA 32), .ref (rA 33), .ref (rA 34), .ref (rA 35), .int (nI ld), .int (nI gm), .ref (rA 38), .ref (rA 39), .ref (rA 40), .ref (rA 41), .ref (rA 42), .ref (rA 43), .ref (rA 44), .ref (rA 45), .int (nI my), .ref (rA 47)], la (rA 25) (rK9 25) 5 (vp_updL (vp_updL (vp_updL (vp_updL (vp_updL cf 0 0) 1 0) 2 0) 3 0) 4 0), ia (rA 16) (rK9 16) 155 sf] H := hP
  refine tp_pc (pc' := 14) (by rfl) ?_
  refine lv_iinc (v := 5) (lv' := [(1, .int 5), (0, .ref ra)]) hx hb d_Ref_encode_14 hl (k := 0) rfl (by first | rfl | decide) (by decide) rfl ?_
  clear hl ls
  intro ls hl
  refine lv_goto (tgt := 2) hx hb d_Ref_encode_17 (by decide) ?_
  refine tp_pc (pc' := 2) (by rfl) ?_
  refine lv_iload_n hx hb d_Ref_encode_2 rfl (lv_at hl 0 rfl) ?_
  refine lv_iconst (v := 5) hx hb d_Ref_encode_3 (by decide) ?_
  refine lv_icmp_ge (tgt := 20) hx hb d_Ref_encode_4 (by decide) (fun c_6 => ?_) (fun c_6 => absurd c_6 (by decide))
  refine tp_pc (pc' := 20) (by rfl) ?_
  have hz : ∀ j, j < 5 → (vp_updL (vp_updL (vp_updL (vp_updL (vp_updL cf 0 0) 1 0) 2 0) 3 0) 4 0) j = 0 := fun j hj => by rcases (by omega : j = 0 ∨ j = 1 ∨ j = 2 ∨ j = 3 ∨ j = 4) with rfl | rfl | rfl | rfl | rfl <;> rfl
  replace hP : va_P (dC, dI) classes [oc ra 8 [.int (nI T), .int (nI Ac), .ref (rA 2), .ref (rA 3), .ref (rA 4), .ref (rA 5), .ref (rA 6), .ref (rA 7), .ref (rA 8), .ref (rA 9), .ref (rA 10), .ref (rA 11), .ref (rA 12), .ref (rA 13), .int ir, .ref (rA 15), .ref (rA 16), .ref (rA 17), .ref (rA 18), .int (nI md), .int (nI wd), .ref (rA 21), .ref (rA 22), .ref (rA 23), .int (nI mn), .ref (rA 25), .int (nI cb), .int mr, .ref (rA 28), .ref (rA 29), .ref (rA 30), .ref (rA 31), .ref (rA 32), .ref (rA 33), .ref (rA 34), .ref (rA 35), .int (nI ld), .int (nI gm), .ref (rA 38), .ref (rA 39), .ref (rA 40), .ref (rA 41), .ref (rA 42), .ref (rA 43), .ref (rA 44), .ref (rA 45), .int (nI my), .ref (rA 47)], la (rA 25) (rK9 25) 5 (fun _ => 0), ia (rA 16) (rK9 16) 155 sf] H := P_cgL (f := fun _ => 0) 1 rfl hz hP
  refine lv_aload_n hx hb d_Ref_encode_20 rfl (lv_at hl 1 rfl) ?_
  refine lv_iconst (v := 0) hx hb d_Ref_encode_21 (by decide) ?_
  refine va_put (D := (dC, dI)) (ci := 8) (v := .int 0) (ty := .int) (C := R_Ref) (T := F_Ref) (N := 48) hx hb hw i_Ref t_Ref t_Ref_ok n_Ref hown hK hP (dd_D hD rfl) hS 0 rfl rfl 26 (by decide) (hw _ m_925) (fun _ h9 => h9) rfl (by decide +kernel) rfl rfl (Nat.le_of_ble_eq_true rfl) d_Ref_encode_22 ?_
  clear hP hS locs H
  intro H locs (hP : va_P (dC, dI) classes [oc ra 8 [.int (nI T), .int (nI Ac), .ref (rA 2), .ref (rA 3), .ref (rA 4), .ref (rA 5), .ref (rA 6), .ref (rA 7), .ref (rA 8), .ref (rA 9), .ref (rA 10), .ref (rA 11), .ref (rA 12), .ref (rA 13), .int ir, .ref (rA 15), .ref (rA 16), .ref (rA 17), .ref (rA 18), .int (nI md), .int (nI wd), .ref (rA 21), .ref (rA 22), .ref (rA 23), .int (nI mn), .ref (rA 25), .int 0, .int mr, .ref (rA 28), .ref (rA 29), .ref (rA 30), .ref (rA 31), .ref (rA 32), .ref (rA 33), .ref (rA 34), .ref (rA 35), .int (nI ld), .int (nI gm), .ref (rA 38), .ref (rA 39), .ref (rA 40), .ref (rA 41), .ref (rA 42), .ref (rA 43), .ref (rA 44), .ref (rA 45), .int (nI my), .ref (rA 47)], la (rA 25) (rK9 25) 5 (fun _ => 0), ia (rA 16) (rK9 16) 155 sf] H) _ hS
  refine tp_pc (pc' := 25) (by rfl) ?_
  refine lv_iconst (v := 0) hx hb d_Ref_encode_25 (by decide) ?_
  refine lv_istore_n (lv' := [(1, .int 0), (0, .ref ra)]) hx hb d_Ref_encode_26 rfl hl (by decide) rfl ?_
  clear hl ls
  intro ls hl
  have z1 : szB (mpL (fun t => [((sf t).toInt64, 3)]) 4) = 12 := rfl
  have z2 : szB (mpL (fun k => [((sf (4 + k) + 64).toInt64, 7)]) 8) = 56 := rfl
  replace hP : va_P (dC, dI) classes [oc ra 8 [.int (nI T), .int (nI Ac), .ref (rA 2), .ref (rA 3), .ref (rA 4), .ref (rA 5), .ref (rA 6), .ref (rA 7), .ref (rA 8), .ref (rA 9), .ref (rA 10), .ref (rA 11), .ref (rA 12), .ref (rA 13), .int ir, .ref (rA 15), .ref (rA 16), .ref (rA 17), .ref (rA 18), .int (nI md), .int (nI wd), .ref (rA 21), .ref (rA 22), .ref (rA 23), .int (nI mn), .ref (rA 25), .int (nI (szB (mpL (fun t => [((sf t).toInt64, 3)]) 0))), .int mr, .ref (rA 28), .ref (rA 29), .ref (rA 30), .ref (rA 31), .ref (rA 32), .ref (rA 33), .ref (rA 34), .ref (rA 35), .int (nI ld), .int (nI gm), .ref (rA 38), .ref (rA 39), .ref (rA 40), .ref (rA 41), .ref (rA 42), .ref (rA 43), .ref (rA 44), .ref (rA 45), .int (nI my), .ref (rA 47)], la (rA 25) (rK9 25) 5 ((wrB (mpL (fun t => [((sf t).toInt64, 3)]) 0)).1), ia (rA 16) (rK9 16) 155 sf] H := hP
  replace hl : lv_has ls 7 [(1, .int (nI 0)), (0, .ref ra)] := hl
  refine lp_n 4 (fun i1 H locs ls => va_P (dC, dI) classes [oc ra 8 [.int (nI T), .int (nI Ac), .ref (rA 2), .ref (rA 3), .ref (rA 4), .ref (rA 5), .ref (rA 6), .ref (rA 7), .ref (rA 8), .ref (rA 9), .ref (rA 10), .ref (rA 11), .ref (rA 12), .ref (rA 13), .int ir, .ref (rA 15), .ref (rA 16), .ref (rA 17), .ref (rA 18), .int (nI md), .int (nI wd), .ref (rA 21), .ref (rA 22), .ref (rA 23), .int (nI mn), .ref (rA 25), .int (nI (szB (mpL (fun t => [((sf t).toInt64, 3)]) i1))), .int mr, .ref (rA 28), .ref (rA 29), .ref (rA 30), .ref (rA 31), .ref (rA 32), .ref (rA 33), .ref (rA 34), .ref (rA 35), .int (nI ld), .int (nI gm), .ref (rA 38), .ref (rA 39), .ref (rA 40), .ref (rA 41), .ref (rA 42), .ref (rA 43), .ref (rA 44), .ref (rA 45), .int (nI my), .ref (rA 47)], la (rA 25) (rK9 25) 5 ((wrB (mpL (fun t => [((sf t).toInt64, 3)]) i1)).1), ia (rA 16) (rK9 16) 155 sf] H ∧ va_S A s.heap H locs ∧ lv_has ls 7 [(1, .int (nI i1)), (0, .ref ra)]) ⟨hP, hS, hl⟩ ?_ ?_
  · intro i1 H locs ls hi1 hI ih_i1
    obtain ⟨hP, hS, hl⟩ := hI
    refine lv_iload_n hx hb d_Ref_encode_27 rfl (lv_at hl 0 rfl) ?_
    refine lv_iconst (v := 4) hx hb d_Ref_encode_28 (by decide) ?_
    refine lv_icmp_ge (tgt := 50) hx hb d_Ref_encode_29 (by decide) (fun c9 => absurd c9 (nI_ge (a := i1) (b := 4) hi1 (by decide))) (fun c9 => ?_)
    refine tp_pc (pc' := 32) (by rfl) ?_
    refine lv_aload_n hx hb d_Ref_encode_32 rfl (lv_at hl 1 rfl) ?_
    refine lv_aload_n hx hb d_Ref_encode_33 rfl (lv_at hl 1 rfl) ?_
    refine va_get (D := (dC, dI)) (ci := 8) (v := .ref (rA 16)) (C := R_Ref) (T := F_Ref) (N := 48) hx hb hw i_Ref hown hK hP 0 rfl rfl 16 (by decide) (hw _ m_915) (fun _ h9 => h9) rfl d_Ref_encode_34 ?_
    refine lv_iload_n hx hb d_Ref_encode_37 rfl (lv_at hl 0 rfl) ?_
    refine va_iald (D := (dC, dI)) hx hb hK hP 2 1 rfl rfl (i := nI i1) (pk_in i1 155 (by omega)) d_Ref_encode_38 ?_
    refine tp_i (y := sf i1) (by rw [show (nI i1 : Int32).toNatClampNeg = i1 from pk_cl i1]) ?_
    refine lv_i2l (v := (sf i1).toInt64) hx hb d_Ref_encode_39 rfl ?_
    refine lv_iconst (v := 3) hx hb d_Ref_encode_40 (by decide) ?_
    refine tp_i (y := nI 3) rfl ?_
    obtain ⟨hPc, hDc, hFc⟩ := cut3 (wc := [oc ra 8 [.int (nI T), .int (nI Ac), .ref (rA 2), .ref (rA 3), .ref (rA 4), .ref (rA 5), .ref (rA 6), .ref (rA 7), .ref (rA 8), .ref (rA 9), .ref (rA 10), .ref (rA 11), .ref (rA 12), .ref (rA 13), .int ir, .ref (rA 15), .ref (rA 16), .ref (rA 17), .ref (rA 18), .int (nI md), .int (nI wd), .ref (rA 21), .ref (rA 22), .ref (rA 23), .int (nI mn), .ref (rA 25), .int (nI (szB (mpL (fun t => [((sf t).toInt64, 3)]) i1))), .int mr, .ref (rA 28), .ref (rA 29), .ref (rA 30), .ref (rA 31), .ref (rA 32), .ref (rA 33), .ref (rA 34), .ref (rA 35), .int (nI ld), .int (nI gm), .ref (rA 38), .ref (rA 39), .ref (rA 40), .ref (rA 41), .ref (rA 42), .ref (rA 43), .ref (rA 44), .ref (rA 45), .int (nI my), .ref (rA 47)], la (rA 25) (rK9 25) 5 ((wrB (mpL (fun t => [((sf t).toInt64, 3)]) i1)).1)]) hP hD rfl hS hA [0, 1] (by decide +kernel) rfl
    have hKc := hK.sub (tys' := [((rK9 25), .long)]) [0] rfl
    refine va_callv (va_runV (As := [.long ((sf i1).toInt64), .int (nI 3)]) (rest := []) ⟨hx, hb, hml, hown, hw⟩ (gen_Ref_bitsL l dC dI ra rA rK9 T Ac md wd mn (szB (mpL (fun t => [((sf t).toInt64, 3)]) i1)) ld gm my ir mr ((sf i1).toInt64) 3 (mpL (fun t => [((sf t).toInt64, 3)]) i1) (mpL (fun t => [((sf t).toInt64, 3)]) (i1 + 1)) (rfl) rfl (by decide) (by decide) (by have := szB_mono0 (f := fun t => [((sf t).toInt64, 3)]) (show i1 + 1 ≤ 4 from hi1); omega) H.size) (cw_V 2 hw g_Ref_bits rfl rfl rfl (hw _ m_109) (hw _ m_1093) (hw _ m_1095) (hw _ m_58) (by decide +kernel) ⟨Nat.le_of_ble_eq_true rfl, Nat.le_of_ble_eq_true rfl⟩) ⟨fun a U g mk q => by obtain ⟨q0, q1, qP, qK, qD, qN⟩ := q; exact ⟨q0, q1, qP, va_K.moved (u := U) (U := U.calling g mk a) (Vm.Alike.refl U.vm) qK, qD, nw_call qN⟩, va_recv hKc hPc (ci := 8) (q0 := 0) rfl rfl, fun U hU hW => ⟨rfl, by rw [hU], by rw [hU]; exact hPc, va_K.moved hW.alike hKc, hDc.weaken (fun _ _ _ _ => trivial), nw_warm hW hn⟩⟩ rfl rfl hl.1 rfl (lv_room (Nat.le_of_ble_eq_true rfl)) d_Ref_encode_41 ⟨Nat.le_of_ble_eq_true rfl, Nat.le_of_ble_eq_true rfl⟩) hS (fun q _ h => hFc q h) hFc ?_
    intro u t9 H1 locs1 ht9 hvm hw1 hB hz1 hk1 hS1
    obtain ⟨hP1, hK1, hD1⟩ := hB
    rw [ht9] at hP1
    replace hK1 := va_K.moved hvm.symm hK1
    have hPD := join3 hP hD rfl [0, 1] [2] rfl (by rfl) (by decide +kernel) (by decide +kernel) hk1 hFc hP1 hD1
    replace hK : va_K (dC, dI) classes [((rK9 25), .long), ((rK9 16), .int)] s := hK.app hK1
    clear hP1 hK1 hD1 hk1 hz1 hFc hKc hDc hPc hvm ht9 hP hS t9 locs H
    have hP : va_P (dC, dI) classes [ia (rA 16) (rK9 16) 155 sf, oc ra 8 [.int (nI T), .int (nI Ac), .ref (rA 2), .ref (rA 3), .ref (rA 4), .ref (rA 5), .ref (rA 6), .ref (rA 7), .ref (rA 8), .ref (rA 9), .ref (rA 10), .ref (rA 11), .ref (rA 12), .ref (rA 13), .int ir, .ref (rA 15), .ref (rA 16), .ref (rA 17), .ref (rA 18), .int (nI md), .int (nI wd), .ref (rA 21), .ref (rA 22), .ref (rA 23), .int (nI mn), .ref (rA 25), .int (nI (szB (mpL (fun t => [((sf t).toInt64, 3)]) (i1 + 1)))), .int mr, .ref (rA 28), .ref (rA 29), .ref (rA 30), .ref (rA 31), .ref (rA 32), .ref (rA 33), .ref (rA 34), .ref (rA 35), .int (nI ld), .int (nI gm), .ref (rA 38), .ref (rA 39), .ref (rA 40), .ref (rA 41), .ref (rA 42), .ref (rA 43), .ref (rA 44), .ref (rA 45), .int (nI my), .ref (rA 47)], la (rA 25) (rK9 25) 5 ((wrB (mpL (fun t => [((sf t).toInt64, 3)]) (i1 + 1))).1)] H1 := hPD.1
    replace hD : dd A [(rA 16), ra, (rA 25)] := dd_of hPD.2 rfl
    clear hPD
    revert H1 locs1
    intro H locs hS hP
    clear hw1 u
    refine tp_pc (pc' := 44) (by rfl) ?_
    refine lv_iinc (v := nI (i1 + 1)) (lv' := [(1, .int (nI (i1 + 1))), (0, .ref ra)]) hx hb d_Ref_encode_44 hl (k := 0) rfl (by exact nI_1 i1) (by decide) rfl ?_
    clear hl ls
    intro ls hl
    refine lv_goto (tgt := 27) hx hb d_Ref_encode_47 (by decide) ?_
    refine tp_pc (pc' := 27) (by rfl) ?_
    obtain ⟨hP8, -, -⟩ := cut3 (wc := [oc ra 8 [.int (nI T), .int (nI Ac), .ref (rA 2), .ref (rA 3), .ref (rA 4), .ref (rA 5), .ref (rA 6), .ref (rA 7), .ref (rA 8), .ref (rA 9), .ref (rA 10), .ref (rA 11), .ref (rA 12), .ref (rA 13), .int ir, .ref (rA 15), .ref (rA 16), .ref (rA 17), .ref (rA 18), .int (nI md), .int (nI wd), .ref (rA 21), .ref (rA 22), .ref (rA 23), .int (nI mn), .ref (rA 25), .int (nI (szB (mpL (fun t => [((sf t).toInt64, 3)]) (i1 + 1)))), .int mr, .ref (rA 28), .ref (rA 29), .ref (rA 30), .ref (rA 31), .ref (rA 32), .ref (rA 33), .ref (rA 34), .ref (rA 35), .int (nI ld), .int (nI gm), .ref (rA 38), .ref (rA 39), .ref (rA 40), .ref (rA 41), .ref (rA 42), .ref (rA 43), .ref (rA 44), .ref (rA 45), .int (nI my), .ref (rA 47)], la (rA 25) (rK9 25) 5 ((wrB (mpL (fun t => [((sf t).toInt64, 3)]) (i1 + 1))).1), ia (rA 16) (rK9 16) 155 sf]) hP hD rfl hS hA [1, 2, 0] (by decide +kernel) rfl
    exact ih_i1 _ _ _ ⟨hP8, hS, lv_sub hl [0, 1] rfl⟩
  · intro H locs ls hI
    obtain ⟨hP, hS, hl⟩ := hI
    replace hl : lv_has ls 7 [(1, .int 4), (0, .ref ra)] := hl
    refine lv_iload_n hx hb d_Ref_encode_27 rfl (lv_at hl 0 rfl) ?_
    refine lv_iconst (v := 4) hx hb d_Ref_encode_28 (by decide) ?_
    refine lv_icmp_ge (tgt := 50) hx hb d_Ref_encode_29 (by decide) (fun c_8 => ?_) (fun c_8 => absurd c_8 (by decide))
    refine tp_pc (pc' := 50) (by rfl) ?_
    refine lv_iconst (v := 0) hx hb d_Ref_encode_50 (by decide) ?_
    refine lv_istore_n (lv' := [(1, .int 0), (0, .ref ra)]) hx hb d_Ref_encode_51 rfl hl (by decide) rfl ?_
    clear hl ls
    intro ls hl
    obtain ⟨hP8, hD8, -⟩ := cut3 (wc := [oc ra 8 [.int (nI T), .int (nI Ac), .ref (rA 2), .ref (rA 3), .ref (rA 4), .ref (rA 5), .ref (rA 6), .ref (rA 7), .ref (rA 8), .ref (rA 9), .ref (rA 10), .ref (rA 11), .ref (rA 12), .ref (rA 13), .int ir, .ref (rA 15), .ref (rA 16), .ref (rA 17), .ref (rA 18), .int (nI md), .int (nI wd), .ref (rA 21), .ref (rA 22), .ref (rA 23), .int (nI mn), .ref (rA 25), .int (nI (szB (mpL (fun t => [((sf t).toInt64, 3)]) 4))), .int mr, .ref (rA 28), .ref (rA 29), .ref (rA 30), .ref (rA 31), .ref (rA 32), .ref (rA 33), .ref (rA 34), .ref (rA 35), .int (nI ld), .int (nI gm), .ref (rA 38), .ref (rA 39), .ref (rA 40), .ref (rA 41), .ref (rA 42), .ref (rA 43), .ref (rA 44), .ref (rA 45), .int (nI my), .ref (rA 47)], la (rA 25) (rK9 25) 5 ((wrB (mpL (fun t => [((sf t).toInt64, 3)]) 4)).1), ia (rA 16) (rK9 16) 155 sf]) hP hD rfl hS hA [0, 1, 2] (by decide +kernel) rfl
    clear hP
    have hP : va_P (dC, dI) classes [oc ra 8 [.int (nI T), .int (nI Ac), .ref (rA 2), .ref (rA 3), .ref (rA 4), .ref (rA 5), .ref (rA 6), .ref (rA 7), .ref (rA 8), .ref (rA 9), .ref (rA 10), .ref (rA 11), .ref (rA 12), .ref (rA 13), .int ir, .ref (rA 15), .ref (rA 16), .ref (rA 17), .ref (rA 18), .int (nI md), .int (nI wd), .ref (rA 21), .ref (rA 22), .ref (rA 23), .int (nI mn), .ref (rA 25), .int (nI (szB (mpL (fun t => [((sf t).toInt64, 3)]) 4))), .int mr, .ref (rA 28), .ref (rA 29), .ref (rA 30), .ref (rA 31), .ref (rA 32), .ref (rA 33), .ref (rA 34), .ref (rA 35), .int (nI ld), .int (nI gm), .ref (rA 38), .ref (rA 39), .ref (rA 40), .ref (rA 41), .ref (rA 42), .ref (rA 43), .ref (rA 44), .ref (rA 45), .int (nI my), .ref (rA 47)], la (rA 25) (rK9 25) 5 ((wrB (mpL (fun t => [((sf t).toInt64, 3)]) 4)).1), ia (rA 16) (rK9 16) 155 sf] H := hP8
    clear hP8
    replace hD : dd A [ra, (rA 25), (rA 16)] := dd_of hD8 rfl
    clear hD8
    replace hP : va_P (dC, dI) classes [oc ra 8 [.int (nI T), .int (nI Ac), .ref (rA 2), .ref (rA 3), .ref (rA 4), .ref (rA 5), .ref (rA 6), .ref (rA 7), .ref (rA 8), .ref (rA 9), .ref (rA 10), .ref (rA 11), .ref (rA 12), .ref (rA 13), .int ir, .ref (rA 15), .ref (rA 16), .ref (rA 17), .ref (rA 18), .int (nI md), .int (nI wd), .ref (rA 21), .ref (rA 22), .ref (rA 23), .int (nI mn), .ref (rA 25), .int (nI (szB (mpL (fun t => [((sf t).toInt64, 3)]) 4 ++ mpL (fun k => [((sf (4 + k) + 64).toInt64, 7)]) 0))), .int mr, .ref (rA 28), .ref (rA 29), .ref (rA 30), .ref (rA 31), .ref (rA 32), .ref (rA 33), .ref (rA 34), .ref (rA 35), .int (nI ld), .int (nI gm), .ref (rA 38), .ref (rA 39), .ref (rA 40), .ref (rA 41), .ref (rA 42), .ref (rA 43), .ref (rA 44), .ref (rA 45), .int (nI my), .ref (rA 47)], la (rA 25) (rK9 25) 5 ((wrB (mpL (fun t => [((sf t).toInt64, 3)]) 4 ++ mpL (fun k => [((sf (4 + k) + 64).toInt64, 7)]) 0)).1), ia (rA 16) (rK9 16) 155 sf] H := by rw [mpL_0, List.append_nil]; exact hP
    replace hP : va_P (dC, dI) classes [oc ra 8 [.int (nI T), .int (nI Ac), .ref (rA 2), .ref (rA 3), .ref (rA 4), .ref (rA 5), .ref (rA 6), .ref (rA 7), .ref (rA 8), .ref (rA 9), .ref (rA 10), .ref (rA 11), .ref (rA 12), .ref (rA 13), .int ir, .ref (rA 15), .ref (rA 16), .ref (rA 17), .ref (rA 18), .int (nI md), .int (nI wd), .ref (rA 21), .ref (rA 22), .ref (rA 23), .int (nI mn), .ref (rA 25), .int (nI (szB (mpL (fun t => [((sf t).toInt64, 3)]) 4 ++ mpL (fun k => [((sf (4 + k) + 64).toInt64, 7)]) 0))), .int mr, .ref (rA 28), .ref (rA 29), .ref (rA 30), .ref (rA 31), .ref (rA 32), .ref (rA 33), .ref (rA 34), .ref (rA 35), .int (nI ld), .int (nI gm), .ref (rA 38), .ref (rA 39), .ref (rA 40), .ref (rA 41), .ref (rA 42), .ref (rA 43), .ref (rA 44), .ref (rA 45), .int (nI my), .ref (rA 47)], la (rA 25) (rK9 25) 5 ((wrB (mpL (fun t => [((sf t).toInt64, 3)]) 4 ++ mpL (fun k => [((sf (4 + k) + 64).toInt64, 7)]) 0)).1), ia (rA 16) (rK9 16) 155 sf] H := hP
    replace hl : lv_has ls 7 [(1, .int (nI 0)), (0, .ref ra)] := hl
    refine lp_n 8 (fun i1 H locs ls => va_P (dC, dI) classes [oc ra 8 [.int (nI T), .int (nI Ac), .ref (rA 2), .ref (rA 3), .ref (rA 4), .ref (rA 5), .ref (rA 6), .ref (rA 7), .ref (rA 8), .ref (rA 9), .ref (rA 10), .ref (rA 11), .ref (rA 12), .ref (rA 13), .int ir, .ref (rA 15), .ref (rA 16), .ref (rA 17), .ref (rA 18), .int (nI md), .int (nI wd), .ref (rA 21), .ref (rA 22), .ref (rA 23), .int (nI mn), .ref (rA 25), .int (nI (szB (mpL (fun t => [((sf t).toInt64, 3)]) 4 ++ mpL (fun k => [((sf (4 + k) + 64).toInt64, 7)]) i1))), .int mr, .ref (rA 28), .ref (rA 29), .ref (rA 30), .ref (rA 31), .ref (rA 32), .ref (rA 33), .ref (rA 34), .ref (rA 35), .int (nI ld), .int (nI gm), .ref (rA 38), .ref (rA 39), .ref (rA 40), .ref (rA 41), .ref (rA 42), .ref (rA 43), .ref (rA 44), .ref (rA 45), .int (nI my), .ref (rA 47)], la (rA 25) (rK9 25) 5 ((wrB (mpL (fun t => [((sf t).toInt64, 3)]) 4 ++ mpL (fun k => [((sf (4 + k) + 64).toInt64, 7)]) i1)).1), ia (rA 16) (rK9 16) 155 sf] H ∧ va_S A s.heap H locs ∧ lv_has ls 7 [(1, .int (nI i1)), (0, .ref ra)]) ⟨hP, hS, hl⟩ ?_ ?_
    · intro i1 H locs ls hi1 hI ih_i1
      obtain ⟨hP, hS, hl⟩ := hI
      refine lv_iload_n hx hb d_Ref_encode_52 rfl (lv_at hl 0 rfl) ?_
      refine lv_bipush (v := 8) hx hb d_Ref_encode_53 (by decide) ?_
      refine lv_icmp_ge (tgt := 82) hx hb d_Ref_encode_55 (by decide) (fun c9 => absurd c9 (nI_ge (a := i1) (b := 8) hi1 (by decide))) (fun c9 => ?_)
      refine tp_pc (pc' := 58) (by rfl) ?_
      refine lv_aload_n hx hb d_Ref_encode_58 rfl (lv_at hl 1 rfl) ?_
      refine lv_aload_n hx hb d_Ref_encode_59 rfl (lv_at hl 1 rfl) ?_
      refine va_get (D := (dC, dI)) (ci := 8) (v := .ref (rA 16)) (C := R_Ref) (T := F_Ref) (N := 48) hx hb hw i_Ref hown hK hP 0 rfl rfl 16 (by decide) (hw _ m_915) (fun _ h9 => h9) rfl d_Ref_encode_60 ?_
      refine lv_iconst (v := 4) hx hb d_Ref_encode_63 (by decide) ?_
      refine lv_iload_n hx hb d_Ref_encode_64 rfl (lv_at hl 0 rfl) ?_
      refine lv_iadd hx hb d_Ref_encode_65 ?_
      refine tp_i (y := nI (4 + i1)) (by exact nI_add 4 i1) ?_
      refine va_iald (D := (dC, dI)) hx hb hK hP 2 1 rfl rfl (i := nI (4 + i1)) (pk_in (4 + i1) 155 (by omega)) d_Ref_encode_66 ?_
      refine tp_i (y := sf (4 + i1)) (by rw [show (nI (4 + i1) : Int32).toNatClampNeg = 4 + i1 from pk_cl (4 + i1)]) ?_
      refine lv_bipush (v := 64) hx hb d_Ref_encode_67 (by decide) ?_
      refine lv_iadd hx hb d_Ref_encode_69 ?_
      refine tp_i (y := (sf (4 + i1)) + 64) rfl ?_
      refine lv_i2l (v := ((sf (4 + i1)) + 64).toInt64) hx hb d_Ref_encode_70 rfl ?_
      refine lv_bipush (v := 7) hx hb d_Ref_encode_71 (by decide) ?_
      refine tp_i (y := nI 7) rfl ?_
      obtain ⟨hPc, hDc, hFc⟩ := cut3 (wc := [oc ra 8 [.int (nI T), .int (nI Ac), .ref (rA 2), .ref (rA 3), .ref (rA 4), .ref (rA 5), .ref (rA 6), .ref (rA 7), .ref (rA 8), .ref (rA 9), .ref (rA 10), .ref (rA 11), .ref (rA 12), .ref (rA 13), .int ir, .ref (rA 15), .ref (rA 16), .ref (rA 17), .ref (rA 18), .int (nI md), .int (nI wd), .ref (rA 21), .ref (rA 22), .ref (rA 23), .int (nI mn), .ref (rA 25), .int (nI (szB (mpL (fun t => [((sf t).toInt64, 3)]) 4 ++ mpL (fun k => [((sf (4 + k) + 64).toInt64, 7)]) i1))), .int mr, .ref (rA 28), .ref (rA 29), .ref (rA 30), .ref (rA 31), .ref (rA 32), .ref (rA 33), .ref (rA 34), .ref (rA 35), .int (nI ld), .int (nI gm), .ref (rA 38), .ref (rA 39), .ref (rA 40), .ref (rA 41), .ref (rA 42), .ref (rA 43), .ref (rA 44), .ref (rA 45), .int (nI my), .ref (rA 47)], la (rA 25) (rK9 25) 5 ((wrB (mpL (fun t => [((sf t).toInt64, 3)]) 4 ++ mpL (fun k => [((sf (4 + k) + 64).toInt64, 7)]) i1)).1)]) hP hD rfl hS hA [0, 1] (by decide +kernel) rfl
      have hKc := hK.sub (tys' := [((rK9 25), .long)]) [0] rfl
      refine va_callv (va_runV (As := [.long ((sf (4 + i1) + 64).toInt64), .int (nI 7)]) (rest := []) ⟨hx, hb, hml, hown, hw⟩ (gen_Ref_bitsL l dC dI ra rA rK9 T Ac md wd mn (szB (mpL (fun t => [((sf t).toInt64, 3)]) 4 ++ mpL (fun k => [((sf (4 + k) + 64).toInt64, 7)]) i1)) ld gm my ir mr ((sf (4 + i1) + 64).toInt64) 7 (mpL (fun t => [((sf t).toInt64, 3)]) 4 ++ mpL (fun k => [((sf (4 + k) + 64).toInt64, 7)]) i1) (mpL (fun t => [((sf t).toInt64, 3)]) 4 ++ mpL (fun k => [((sf (4 + k) + 64).toInt64, 7)]) (i1 + 1)) (by rw [mpL_s i1]; exact (List.append_assoc _ _ _).symm) rfl (by decide) (by decide) (by rw [szB_app]; have := szB_mono0 (f := fun k => [((sf (4 + k) + 64).toInt64, 7)]) (show i1 + 1 ≤ 8 from hi1); omega) H.size) (cw_V 2 hw g_Ref_bits rfl rfl rfl (hw _ m_109) (hw _ m_1093) (hw _ m_1095) (hw _ m_58) (by decide +kernel) ⟨Nat.le_of_ble_eq_true rfl, Nat.le_of_ble_eq_true rfl⟩) ⟨fun a U g mk q => by obtain ⟨q0, q1, qP, qK, qD, qN⟩ := q; exact ⟨q0, q1, qP, va_K.moved (u := U) (U := U.calling g mk a) (Vm.Alike.refl U.vm) qK, qD, nw_call qN⟩, va_recv hKc hPc (ci := 8) (q0 := 0) rfl rfl, fun U hU hW => ⟨rfl, by rw [hU], by rw [hU]; exact hPc, va_K.moved hW.alike hKc, hDc.weaken (fun _ _ _ _ => trivial), nw_warm hW hn⟩⟩ rfl rfl hl.1 rfl (lv_room (Nat.le_of_ble_eq_true rfl)) d_Ref_encode_73 ⟨Nat.le_of_ble_eq_true rfl, Nat.le_of_ble_eq_true rfl⟩) hS (fun q _ h => hFc q h) hFc ?_
      intro u t9 H1 locs1 ht9 hvm hw1 hB hz1 hk1 hS1
      obtain ⟨hP1, hK1, hD1⟩ := hB
      rw [ht9] at hP1
      replace hK1 := va_K.moved hvm.symm hK1
      have hPD := join3 hP hD rfl [0, 1] [2] rfl (by rfl) (by decide +kernel) (by decide +kernel) hk1 hFc hP1 hD1
      replace hK : va_K (dC, dI) classes [((rK9 25), .long), ((rK9 16), .int)] s := hK.app hK1
      clear hP1 hK1 hD1 hk1 hz1 hFc hKc hDc hPc hvm ht9 hP hS t9 locs H
      have hP : va_P (dC, dI) classes [ia (rA 16) (rK9 16) 155 sf, oc ra 8 [.int (nI T), .int (nI Ac), .ref (rA 2), .ref (rA 3), .ref (rA 4), .ref (rA 5), .ref (rA 6), .ref (rA 7), .ref (rA 8), .ref (rA 9), .ref (rA 10), .ref (rA 11), .ref (rA 12), .ref (rA 13), .int ir, .ref (rA 15), .ref (rA 16), .ref (rA 17), .ref (rA 18), .int (nI md), .int (nI wd), .ref (rA 21), .ref (rA 22), .ref (rA 23), .int (nI mn), .ref (rA 25), .int (nI (szB (mpL (fun t => [((sf t).toInt64, 3)]) 4 ++ mpL (fun k => [((sf (4 + k) + 64).toInt64, 7)]) (i1 + 1)))), .int mr, .ref (rA 28), .ref (rA 29), .ref (rA 30), .ref (rA 31), .ref (rA 32), .ref (rA 33), .ref (rA 34), .ref (rA 35), .int (nI ld), .int (nI gm), .ref (rA 38), .ref (rA 39), .ref (rA 40), .ref (rA 41), .ref (rA 42), .ref (rA 43), .ref (rA 44), .ref (rA 45), .int (nI my), .ref (rA 47)], la (rA 25) (rK9 25) 5 ((wrB (mpL (fun t => [((sf t).toInt64, 3)]) 4 ++ mpL (fun k => [((sf (4 + k) + 64).toInt64, 7)]) (i1 + 1))).1)] H1 := hPD.1
      replace hD : dd A [(rA 16), ra, (rA 25)] := dd_of hPD.2 rfl
      clear hPD
      revert H1 locs1
      intro H locs hS hP
      clear hw1 u
      refine tp_pc (pc' := 76) (by rfl) ?_
      refine lv_iinc (v := nI (i1 + 1)) (lv' := [(1, .int (nI (i1 + 1))), (0, .ref ra)]) hx hb d_Ref_encode_76 hl (k := 0) rfl (by exact nI_1 i1) (by decide) rfl ?_
      clear hl ls
      intro ls hl
      refine lv_goto (tgt := 52) hx hb d_Ref_encode_79 (by decide) ?_
      refine tp_pc (pc' := 52) (by rfl) ?_
      obtain ⟨hP8, -, -⟩ := cut3 (wc := [oc ra 8 [.int (nI T), .int (nI Ac), .ref (rA 2), .ref (rA 3), .ref (rA 4), .ref (rA 5), .ref (rA 6), .ref (rA 7), .ref (rA 8), .ref (rA 9), .ref (rA 10), .ref (rA 11), .ref (rA 12), .ref (rA 13), .int ir, .ref (rA 15), .ref (rA 16), .ref (rA 17), .ref (rA 18), .int (nI md), .int (nI wd), .ref (rA 21), .ref (rA 22), .ref (rA 23), .int (nI mn), .ref (rA 25), .int (nI (szB (mpL (fun t => [((sf t).toInt64, 3)]) 4 ++ mpL (fun k => [((sf (4 + k) + 64).toInt64, 7)]) (i1 + 1)))), .int mr, .ref (rA 28), .ref (rA 29), .ref (rA 30), .ref (rA 31), .ref (rA 32), .ref (rA 33), .ref (rA 34), .ref (rA 35), .int (nI ld), .int (nI gm), .ref (rA 38), .ref (rA 39), .ref (rA 40), .ref (rA 41), .ref (rA 42), .ref (rA 43), .ref (rA 44), .ref (rA 45), .int (nI my), .ref (rA 47)], la (rA 25) (rK9 25) 5 ((wrB (mpL (fun t => [((sf t).toInt64, 3)]) 4 ++ mpL (fun k => [((sf (4 + k) + 64).toInt64, 7)]) (i1 + 1))).1), ia (rA 16) (rK9 16) 155 sf]) hP hD rfl hS hA [1, 2, 0] (by decide +kernel) rfl
      exact ih_i1 _ _ _ ⟨hP8, hS, lv_sub hl [0, 1] rfl⟩
    · intro H locs ls hI
      obtain ⟨hP, hS, hl⟩ := hI
      replace hl : lv_has ls 7 [(1, .int 8), (0, .ref ra)] := hl
      replace hP : va_P (dC, dI) classes [oc ra 8 [.int (nI T), .int (nI Ac), .ref (rA 2), .ref (rA 3), .ref (rA 4), .ref (rA 5), .ref (rA 6), .ref (rA 7), .ref (rA 8), .ref (rA 9), .ref (rA 10), .ref (rA 11), .ref (rA 12), .ref (rA 13), .int ir, .ref (rA 15), .ref (rA 16), .ref (rA 17), .ref (rA 18), .int (nI md), .int (nI wd), .ref (rA 21), .ref (rA 22), .ref (rA 23), .int (nI mn), .ref (rA 25), .int (nI (szB (hdB sf))), .int mr, .ref (rA 28), .ref (rA 29), .ref (rA 30), .ref (rA 31), .ref (rA 32), .ref (rA 33), .ref (rA 34), .ref (rA 35), .int (nI ld), .int (nI gm), .ref (rA 38), .ref (rA 39), .ref (rA 40), .ref (rA 41), .ref (rA 42), .ref (rA 43), .ref (rA 44), .ref (rA 45), .int (nI my), .ref (rA 47)], la (rA 25) (rK9 25) 5 ((wrB (hdB sf)).1), ia (rA 16) (rK9 16) 155 sf] H := by unfold hdB; exact hP
      refine lv_iload_n hx hb d_Ref_encode_52 rfl (lv_at hl 0 rfl) ?_
      refine lv_bipush (v := 8) hx hb d_Ref_encode_53 (by decide) ?_
      refine lv_icmp_ge (tgt := 82) hx hb d_Ref_encode_55 (by decide) (fun c_10 => ?_) (fun c_10 => absurd c_10 (by decide))
      refine tp_pc (pc' := 82) (by rfl) ?_
      refine lv_aload_n hx hb d_Ref_encode_82 rfl (lv_at hl 1 rfl) ?_
      refine va_get (D := (dC, dI)) (ci := 8) (v := .int (nI md)) (C := R_Ref) (T := F_Ref) (N := 48) hx hb hw i_Ref hown hK hP 0 rfl rfl 19 (by decide) (hw _ m_918) (fun _ h9 => h9) rfl d_Ref_encode_83 ?_
      refine lv_iconst (v := 3) hx hb d_Ref_encode_86 (by decide) ?_
      refine lv_icmp_ne (tgt := 95) hx hb d_Ref_encode_87 (by decide) (fun c9 => ?_) (fun c9 => absurd ((nI_eq (a := md) (b := 3) (by omega) (by omega)).mp c9) (by omega))
      have z3 : szB (mpL (fun x => [((sf (12 + x) + 64).toInt64, 7)]) 3) = 21 := rfl
      have z4 : szB (hdB sf) = 68 := rfl
      refine tp_pc (pc' := 95) (by rfl) ?_
      refine lv_iconst (v := 0) hx hb d_Ref_encode_95 (by decide) ?_
      refine lv_istore_n (lv' := [(1, .int 0), (0, .ref ra)]) hx hb d_Ref_encode_96 rfl hl (by decide) rfl ?_
      clear hl ls
      intro ls hl
      obtain ⟨hP8, hD8, -⟩ := cut3 (wc := [oc ra 8 [.int (nI T), .int (nI Ac), .ref (rA 2), .ref (rA 3), .ref (rA 4), .ref (rA 5), .ref (rA 6), .ref (rA 7), .ref (rA 8), .ref (rA 9), .ref (rA 10), .ref (rA 11), .ref (rA 12), .ref (rA 13), .int ir, .ref (rA 15), .ref (rA 16), .ref (rA 17), .ref (rA 18), .int (nI md), .int (nI wd), .ref (rA 21), .ref (rA 22), .ref (rA 23), .int (nI mn), .ref (rA 25), .int (nI (szB (hdB sf))), .int mr, .ref (rA 28), .ref (rA 29), .ref (rA 30), .ref (rA 31), .ref (rA 32), .ref (rA 33), .ref (rA 34), .ref (rA 35), .int (nI ld), .int (nI gm), .ref (rA 38), .ref (rA 39), .ref (rA 40), .ref (rA 41), .ref (rA 42), .ref (rA 43), .ref (rA 44), .ref (rA 45), .int (nI my), .ref (rA 47)], la (rA 25) (rK9 25) 5 ((wrB (hdB sf)).1), ia (rA 16) (rK9 16) 155 sf]) hP hD rfl hS hA [0, 1, 2] (by decide +kernel) rfl
      clear hP
      have hP : va_P (dC, dI) classes [oc ra 8 [.int (nI T), .int (nI Ac), .ref (rA 2), .ref (rA 3), .ref (rA 4), .ref (rA 5), .ref (rA 6), .ref (rA 7), .ref (rA 8), .ref (rA 9), .ref (rA 10), .ref (rA 11), .ref (rA 12), .ref (rA 13), .int ir, .ref (rA 15), .ref (rA 16), .ref (rA 17), .ref (rA 18), .int (nI md), .int (nI wd), .ref (rA 21), .ref (rA 22), .ref (rA 23), .int (nI mn), .ref (rA 25), .int (nI (szB (hdB sf))), .int mr, .ref (rA 28), .ref (rA 29), .ref (rA 30), .ref (rA 31), .ref (rA 32), .ref (rA 33), .ref (rA 34), .ref (rA 35), .int (nI ld), .int (nI gm), .ref (rA 38), .ref (rA 39), .ref (rA 40), .ref (rA 41), .ref (rA 42), .ref (rA 43), .ref (rA 44), .ref (rA 45), .int (nI my), .ref (rA 47)], la (rA 25) (rK9 25) 5 ((wrB (hdB sf)).1), ia (rA 16) (rK9 16) 155 sf] H := hP8
      clear hP8
      replace hD : dd A [ra, (rA 25), (rA 16)] := dd_of hD8 rfl
      clear hD8
      replace hP : va_P (dC, dI) classes [oc ra 8 [.int (nI T), .int (nI Ac), .ref (rA 2), .ref (rA 3), .ref (rA 4), .ref (rA 5), .ref (rA 6), .ref (rA 7), .ref (rA 8), .ref (rA 9), .ref (rA 10), .ref (rA 11), .ref (rA 12), .ref (rA 13), .int ir, .ref (rA 15), .ref (rA 16), .ref (rA 17), .ref (rA 18), .int (nI md), .int (nI wd), .ref (rA 21), .ref (rA 22), .ref (rA 23), .int (nI mn), .ref (rA 25), .int (nI (szB (hdB sf ++ mpL (fun x => [((sf (12 + x) + 64).toInt64, 7)]) 0))), .int mr, .ref (rA 28), .ref (rA 29), .ref (rA 30), .ref (rA 31), .ref (rA 32), .ref (rA 33), .ref (rA 34), .ref (rA 35), .int (nI ld), .int (nI gm), .ref (rA 38), .ref (rA 39), .ref (rA 40), .ref (rA 41), .ref (rA 42), .ref (rA 43), .ref (rA 44), .ref (rA 45), .int (nI my), .ref (rA 47)], la (rA 25) (rK9 25) 5 ((wrB (hdB sf ++ mpL (fun x => [((sf (12 + x) + 64).toInt64, 7)]) 0)).1), ia (rA 16) (rK9 16) 155 sf] H := by rw [mpL_0, List.append_nil]; exact hP
      replace hP : va_P (dC, dI) classes [oc ra 8 [.int (nI T), .int (nI Ac), .ref (rA 2), .ref (rA 3), .ref (rA 4), .ref (rA 5), .ref (rA 6), .ref (rA 7), .ref (rA 8), .ref (rA 9), .ref (rA 10), .ref (rA 11), .ref (rA 12), .ref (rA 13), .int ir, .ref (rA 15), .ref (rA 16), .ref (rA 17), .ref (rA 18), .int (nI md), .int (nI wd), .ref (rA 21), .ref (rA 22), .ref (rA 23), .int (nI mn), .ref (rA 25), .int (nI (szB (hdB sf ++ mpL (fun x => [((sf (12 + x) + 64).toInt64, 7)]) 0))), .int mr, .ref (rA 28), .ref (rA 29), .ref (rA 30), .ref (rA 31), .ref (rA 32), .ref (rA 33), .ref (rA 34), .ref (rA 35), .int (nI ld), .int (nI gm), .ref (rA 38), .ref (rA 39), .ref (rA 40), .ref (rA 41), .ref (rA 42), .ref (rA 43), .ref (rA 44), .ref (rA 45), .int (nI my), .ref (rA 47)], la (rA 25) (rK9 25) 5 ((wrB (hdB sf ++ mpL (fun x => [((sf (12 + x) + 64).toInt64, 7)]) 0)).1), ia (rA 16) (rK9 16) 155 sf] H := hP
      replace hl : lv_has ls 7 [(1, .int (nI 0)), (0, .ref ra)] := hl
      refine lp_n 3 (fun i1 H locs ls => va_P (dC, dI) classes [oc ra 8 [.int (nI T), .int (nI Ac), .ref (rA 2), .ref (rA 3), .ref (rA 4), .ref (rA 5), .ref (rA 6), .ref (rA 7), .ref (rA 8), .ref (rA 9), .ref (rA 10), .ref (rA 11), .ref (rA 12), .ref (rA 13), .int ir, .ref (rA 15), .ref (rA 16), .ref (rA 17), .ref (rA 18), .int (nI md), .int (nI wd), .ref (rA 21), .ref (rA 22), .ref (rA 23), .int (nI mn), .ref (rA 25), .int (nI (szB (hdB sf ++ mpL (fun x => [((sf (12 + x) + 64).toInt64, 7)]) i1))), .int mr, .ref (rA 28), .ref (rA 29), .ref (rA 30), .ref (rA 31), .ref (rA 32), .ref (rA 33), .ref (rA 34), .ref (rA 35), .int (nI ld), .int (nI gm), .ref (rA 38), .ref (rA 39), .ref (rA 40), .ref (rA 41), .ref (rA 42), .ref (rA 43), .ref (rA 44), .ref (rA 45), .int (nI my), .ref (rA 47)], la (rA 25) (rK9 25) 5 ((wrB (hdB sf ++ mpL (fun x => [((sf (12 + x) + 64).toInt64, 7)]) i1)).1), ia (rA 16) (rK9 16) 155 sf] H ∧ va_S A s.heap H locs ∧ lv_has ls 7 [(1, .int (nI i1)), (0, .ref ra)]) ⟨hP, hS, hl⟩ ?_ ?_
      · intro i1 H locs ls hi1 hI ih_i1
        obtain ⟨hP, hS, hl⟩ := hI
        refine lv_iload_n hx hb d_Ref_encode_97 rfl (lv_at hl 0 rfl) ?_
        refine lv_iconst (v := 3) hx hb d_Ref_encode_98 (by decide) ?_
        refine lv_icmp_ge (tgt := 127) hx hb d_Ref_encode_99 (by decide) (fun c9 => absurd c9 (nI_ge (a := i1) (b := 3) hi1 (by decide))) (fun c9 => ?_)
        refine tp_pc (pc' := 102) (by rfl) ?_
        refine lv_aload_n hx hb d_Ref_encode_102 rfl (lv_at hl 1 rfl) ?_
        refine lv_aload_n hx hb d_Ref_encode_103 rfl (lv_at hl 1 rfl) ?_
        refine va_get (D := (dC, dI)) (ci := 8) (v := .ref (rA 16)) (C := R_Ref) (T := F_Ref) (N := 48) hx hb hw i_Ref hown hK hP 0 rfl rfl 16 (by decide) (hw _ m_915) (fun _ h9 => h9) rfl d_Ref_encode_104 ?_
        refine lv_bipush (v := 12) hx hb d_Ref_encode_107 (by decide) ?_
        refine lv_iload_n hx hb d_Ref_encode_109 rfl (lv_at hl 0 rfl) ?_
        refine lv_iadd hx hb d_Ref_encode_110 ?_
        refine tp_i (y := nI (12 + i1)) (by exact nI_add 12 i1) ?_
        refine va_iald (D := (dC, dI)) hx hb hK hP 2 1 rfl rfl (i := nI (12 + i1)) (pk_in (12 + i1) 155 (by omega)) d_Ref_encode_111 ?_
        refine tp_i (y := sf (12 + i1)) (by rw [show (nI (12 + i1) : Int32).toNatClampNeg = 12 + i1 from pk_cl (12 + i1)]) ?_
        refine lv_bipush (v := 64) hx hb d_Ref_encode_112 (by decide) ?_
        refine lv_iadd hx hb d_Ref_encode_114 ?_
        refine tp_i (y := (sf (12 + i1)) + 64) rfl ?_
        refine lv_i2l (v := ((sf (12 + i1)) + 64).toInt64) hx hb d_Ref_encode_115 rfl ?_
        refine lv_bipush (v := 7) hx hb d_Ref_encode_116 (by decide) ?_
        refine tp_i (y := nI 7) rfl ?_
        obtain ⟨hPc, hDc, hFc⟩ := cut3 (wc := [oc ra 8 [.int (nI T), .int (nI Ac), .ref (rA 2), .ref (rA 3), .ref (rA 4), .ref (rA 5), .ref (rA 6), .ref (rA 7), .ref (rA 8), .ref (rA 9), .ref (rA 10), .ref (rA 11), .ref (rA 12), .ref (rA 13), .int ir, .ref (rA 15), .ref (rA 16), .ref (rA 17), .ref (rA 18), .int (nI md), .int (nI wd), .ref (rA 21), .ref (rA 22), .ref (rA 23), .int (nI mn), .ref (rA 25), .int (nI (szB (hdB sf ++ mpL (fun x => [((sf (12 + x) + 64).toInt64, 7)]) i1))), .int mr, .ref (rA 28), .ref (rA 29), .ref (rA 30), .ref (rA 31), .ref (rA 32), .ref (rA 33), .ref (rA 34), .ref (rA 35), .int (nI ld), .int (nI gm), .ref (rA 38), .ref (rA 39), .ref (rA 40), .ref (rA 41), .ref (rA 42), .ref (rA 43), .ref (rA 44), .ref (rA 45), .int (nI my), .ref (rA 47)], la (rA 25) (rK9 25) 5 ((wrB (hdB sf ++ mpL (fun x => [((sf (12 + x) + 64).toInt64, 7)]) i1)).1)]) hP hD rfl hS hA [0, 1] (by decide +kernel) rfl
        have hKc := hK.sub (tys' := [((rK9 25), .long)]) [0] rfl
        refine va_callv (va_runV (As := [.long ((sf (12 + i1) + 64).toInt64), .int (nI 7)]) (rest := []) ⟨hx, hb, hml, hown, hw⟩ (gen_Ref_bitsL l dC dI ra rA rK9 T Ac md wd mn (szB (hdB sf ++ mpL (fun x => [((sf (12 + x) + 64).toInt64, 7)]) i1)) ld gm my ir mr ((sf (12 + i1) + 64).toInt64) 7 (hdB sf ++ mpL (fun x => [((sf (12 + x) + 64).toInt64, 7)]) i1) (hdB sf ++ mpL (fun x => [((sf (12 + x) + 64).toInt64, 7)]) (i1 + 1)) (by rw [mpL_s i1]; exact (List.append_assoc _ _ _).symm) rfl (by decide) (by decide) (by rw [szB_app]; have := szB_mono0 (f := fun x => [((sf (12 + x) + 64).toInt64, 7)]) (show i1 + 1 ≤ 3 from hi1); omega) H.size) (cw_V 2 hw g_Ref_bits rfl rfl rfl (hw _ m_109) (hw _ m_1093) (hw _ m_1095) (hw _ m_58) (by decide +kernel) ⟨Nat.le_of_ble_eq_true rfl, Nat.le_of_ble_eq_true rfl⟩) ⟨fun a U g mk q => by obtain ⟨q0, q1, qP, qK, qD, qN⟩ := q; exact ⟨q0, q1, qP, va_K.moved (u := U) (U := U.calling g mk a) (Vm.Alike.refl U.vm) qK, qD, nw_call qN⟩, va_recv hKc hPc (ci := 8) (q0 := 0) rfl rfl, fun U hU hW => ⟨rfl, by rw [hU], by rw [hU]; exact hPc, va_K.moved hW.alike hKc, hDc.weaken (fun _ _ _ _ => trivial), nw_warm hW hn⟩⟩ rfl rfl hl.1 rfl (lv_room (Nat.le_of_ble_eq_true rfl)) d_Ref_encode_118 ⟨Nat.le_of_ble_eq_true rfl, Nat.le_of_ble_eq_true rfl⟩) hS (fun q _ h => hFc q h) hFc ?_
        intro u t9 H1 locs1 ht9 hvm hw1 hB hz1 hk1 hS1
        obtain ⟨hP1, hK1, hD1⟩ := hB
        rw [ht9] at hP1
        replace hK1 := va_K.moved hvm.symm hK1
        have hPD := join3 hP hD rfl [0, 1] [2] rfl (by rfl) (by decide +kernel) (by decide +kernel) hk1 hFc hP1 hD1
        replace hK : va_K (dC, dI) classes [((rK9 25), .long), ((rK9 16), .int)] s := hK.app hK1
        clear hP1 hK1 hD1 hk1 hz1 hFc hKc hDc hPc hvm ht9 hP hS t9 locs H
        have hP : va_P (dC, dI) classes [ia (rA 16) (rK9 16) 155 sf, oc ra 8 [.int (nI T), .int (nI Ac), .ref (rA 2), .ref (rA 3), .ref (rA 4), .ref (rA 5), .ref (rA 6), .ref (rA 7), .ref (rA 8), .ref (rA 9), .ref (rA 10), .ref (rA 11), .ref (rA 12), .ref (rA 13), .int ir, .ref (rA 15), .ref (rA 16), .ref (rA 17), .ref (rA 18), .int (nI md), .int (nI wd), .ref (rA 21), .ref (rA 22), .ref (rA 23), .int (nI mn), .ref (rA 25), .int (nI (szB (hdB sf ++ mpL (fun x => [((sf (12 + x) + 64).toInt64, 7)]) (i1 + 1)))), .int mr, .ref (rA 28), .ref (rA 29), .ref (rA 30), .ref (rA 31), .ref (rA 32), .ref (rA 33), .ref (rA 34), .ref (rA 35), .int (nI ld), .int (nI gm), .ref (rA 38), .ref (rA 39), .ref (rA 40), .ref (rA 41), .ref (rA 42), .ref (rA 43), .ref (rA 44), .ref (rA 45), .int (nI my), .ref (rA 47)], la (rA 25) (rK9 25) 5 ((wrB (hdB sf ++ mpL (fun x => [((sf (12 + x) + 64).toInt64, 7)]) (i1 + 1))).1)] H1 := hPD.1
        replace hD : dd A [(rA 16), ra, (rA 25)] := dd_of hPD.2 rfl
        clear hPD
        revert H1 locs1
        intro H locs hS hP
        clear hw1 u
        refine tp_pc (pc' := 121) (by rfl) ?_
        refine lv_iinc (v := nI (i1 + 1)) (lv' := [(1, .int (nI (i1 + 1))), (0, .ref ra)]) hx hb d_Ref_encode_121 hl (k := 0) rfl (by exact nI_1 i1) (by decide) rfl ?_
        clear hl ls
        intro ls hl
        refine lv_goto (tgt := 97) hx hb d_Ref_encode_124 (by decide) ?_
        refine tp_pc (pc' := 97) (by rfl) ?_
        obtain ⟨hP8, -, -⟩ := cut3 (wc := [oc ra 8 [.int (nI T), .int (nI Ac), .ref (rA 2), .ref (rA 3), .ref (rA 4), .ref (rA 5), .ref (rA 6), .ref (rA 7), .ref (rA 8), .ref (rA 9), .ref (rA 10), .ref (rA 11), .ref (rA 12), .ref (rA 13), .int ir, .ref (rA 15), .ref (rA 16), .ref (rA 17), .ref (rA 18), .int (nI md), .int (nI wd), .ref (rA 21), .ref (rA 22), .ref (rA 23), .int (nI mn), .ref (rA 25), .int (nI (szB (hdB sf ++ mpL (fun x => [((sf (12 + x) + 64).toInt64, 7)]) (i1 + 1)))), .int mr, .ref (rA 28), .ref (rA 29), .ref (rA 30), .ref (rA 31), .ref (rA 32), .ref (rA 33), .ref (rA 34), .ref (rA 35), .int (nI ld), .int (nI gm), .ref (rA 38), .ref (rA 39), .ref (rA 40), .ref (rA 41), .ref (rA 42), .ref (rA 43), .ref (rA 44), .ref (rA 45), .int (nI my), .ref (rA 47)], la (rA 25) (rK9 25) 5 ((wrB (hdB sf ++ mpL (fun x => [((sf (12 + x) + 64).toInt64, 7)]) (i1 + 1))).1), ia (rA 16) (rK9 16) 155 sf]) hP hD rfl hS hA [1, 2, 0] (by decide +kernel) rfl
        exact ih_i1 _ _ _ ⟨hP8, hS, lv_sub hl [0, 1] rfl⟩
      · intro H locs ls hI
        obtain ⟨hP, hS, hl⟩ := hI
        replace hl : lv_has ls 7 [(1, .int 3), (0, .ref ra)] := hl
        obtain ⟨LQ, hLQ⟩ : ∃ LQ, LQ = hdB sf ++ mpL (fun x => [((sf (12 + x) + 64).toInt64, 7)]) 3 := ⟨_, rfl⟩
        have zq : szB LQ = 89 := by rw [hLQ, szB_app]; omega
        rw [← hLQ] at hP
        replace hP : va_P (dC, dI) classes [oc ra 8 [.int (nI T), .int (nI Ac), .ref (rA 2), .ref (rA 3), .ref (rA 4), .ref (rA 5), .ref (rA 6), .ref (rA 7), .ref (rA 8), .ref (rA 9), .ref (rA 10), .ref (rA 11), .ref (rA 12), .ref (rA 13), .int ir, .ref (rA 15), .ref (rA 16), .ref (rA 17), .ref (rA 18), .int (nI md), .int (nI wd), .ref (rA 21), .ref (rA 22), .ref (rA 23), .int (nI mn), .ref (rA 25), .int (nI (szB LQ)), .int mr, .ref (rA 28), .ref (rA 29), .ref (rA 30), .ref (rA 31), .ref (rA 32), .ref (rA 33), .ref (rA 34), .ref (rA 35), .int (nI ld), .int (nI gm), .ref (rA 38), .ref (rA 39), .ref (rA 40), .ref (rA 41), .ref (rA 42), .ref (rA 43), .ref (rA 44), .ref (rA 45), .int (nI my), .ref (rA 47)], la (rA 25) (rK9 25) 5 ((wrB LQ).1), ia (rA 16) (rK9 16) 155 sf] H := hP
        have e0x : enB 2 sf nb = LQ ++ mpL (buB 2 sf nb) 4 := by rw [hLQ]; unfold enB; rw [if_neg (by decide), List.append_assoc]
        rw [e0x, szB_app] at hs3
        clear hLQ
        refine lv_iload_n hx hb d_Ref_encode_97 rfl (lv_at hl 0 rfl) ?_
        refine lv_iconst (v := 3) hx hb d_Ref_encode_98 (by decide) ?_
        refine lv_icmp_ge (tgt := 127) hx hb d_Ref_encode_99 (by decide) (fun c_12 => ?_) (fun c_12 => absurd c_12 (by decide))
        refine tp_pc (pc' := 127) (by rfl) ?_
        refine lv_iconst (v := 0) hx hb d_Ref_encode_127 (by decide) ?_
        refine lv_istore_n (lv' := [(1, .int 0), (0, .ref ra)]) hx hb d_Ref_encode_128 rfl hl (by decide) rfl ?_
        clear hl ls
        intro ls hl
        obtain ⟨hP8, hD8, -⟩ := cut3 (wc := [oc ra 8 [.int (nI T), .int (nI Ac), .ref (rA 2), .ref (rA 3), .ref (rA 4), .ref (rA 5), .ref (rA 6), .ref (rA 7), .ref (rA 8), .ref (rA 9), .ref (rA 10), .ref (rA 11), .ref (rA 12), .ref (rA 13), .int ir, .ref (rA 15), .ref (rA 16), .ref (rA 17), .ref (rA 18), .int (nI md), .int (nI wd), .ref (rA 21), .ref (rA 22), .ref (rA 23), .int (nI mn), .ref (rA 25), .int (nI (szB LQ)), .int mr, .ref (rA 28), .ref (rA 29), .ref (rA 30), .ref (rA 31), .ref (rA 32), .ref (rA 33), .ref (rA 34), .ref (rA 35), .int (nI ld), .int (nI gm), .ref (rA 38), .ref (rA 39), .ref (rA 40), .ref (rA 41), .ref (rA 42), .ref (rA 43), .ref (rA 44), .ref (rA 45), .int (nI my), .ref (rA 47)], la (rA 25) (rK9 25) 5 ((wrB LQ).1), ia (rA 16) (rK9 16) 155 sf]) hP hD rfl hS hA [0, 1, 2] (by decide +kernel) rfl
        clear hP
        have hP : va_P (dC, dI) classes [oc ra 8 [.int (nI T), .int (nI Ac), .ref (rA 2), .ref (rA 3), .ref (rA 4), .ref (rA 5), .ref (rA 6), .ref (rA 7), .ref (rA 8), .ref (rA 9), .ref (rA 10), .ref (rA 11), .ref (rA 12), .ref (rA 13), .int ir, .ref (rA 15), .ref (rA 16), .ref (rA 17), .ref (rA 18), .int (nI md), .int (nI wd), .ref (rA 21), .ref (rA 22), .ref (rA 23), .int (nI mn), .ref (rA 25), .int (nI (szB LQ)), .int mr, .ref (rA 28), .ref (rA 29), .ref (rA 30), .ref (rA 31), .ref (rA 32), .ref (rA 33), .ref (rA 34), .ref (rA 35), .int (nI ld), .int (nI gm), .ref (rA 38), .ref (rA 39), .ref (rA 40), .ref (rA 41), .ref (rA 42), .ref (rA 43), .ref (rA 44), .ref (rA 45), .int (nI my), .ref (rA 47)], la (rA 25) (rK9 25) 5 ((wrB LQ).1), ia (rA 16) (rK9 16) 155 sf] H := hP8
        clear hP8
        replace hD : dd A [ra, (rA 25), (rA 16)] := dd_of hD8 rfl
        clear hD8
        replace hP : va_P (dC, dI) classes [oc ra 8 [.int (nI T), .int (nI Ac), .ref (rA 2), .ref (rA 3), .ref (rA 4), .ref (rA 5), .ref (rA 6), .ref (rA 7), .ref (rA 8), .ref (rA 9), .ref (rA 10), .ref (rA 11), .ref (rA 12), .ref (rA 13), .int ir, .ref (rA 15), .ref (rA 16), .ref (rA 17), .ref (rA 18), .int (nI md), .int (nI wd), .ref (rA 21), .ref (rA 22), .ref (rA 23), .int (nI mn), .ref (rA 25), .int (nI (szB (LQ ++ mpL (buB 2 sf nb) 0))), .int mr, .ref (rA 28), .ref (rA 29), .ref (rA 30), .ref (rA 31), .ref (rA 32), .ref (rA 33), .ref (rA 34), .ref (rA 35), .int (nI ld), .int (nI gm), .ref (rA 38), .ref (rA 39), .ref (rA 40), .ref (rA 41), .ref (rA 42), .ref (rA 43), .ref (rA 44), .ref (rA 45), .int (nI my), .ref (rA 47)], la (rA 25) (rK9 25) 5 ((wrB (LQ ++ mpL (buB 2 sf nb) 0)).1), ia (rA 16) (rK9 16) 155 sf] H := by rw [mpL_0, List.append_nil]; exact hP
        replace hP : va_P (dC, dI) classes [oc ra 8 [.int (nI T), .int (nI Ac), .ref (rA 2), .ref (rA 3), .ref (rA 4), .ref (rA 5), .ref (rA 6), .ref (rA 7), .ref (rA 8), .ref (rA 9), .ref (rA 10), .ref (rA 11), .ref (rA 12), .ref (rA 13), .int ir, .ref (rA 15), .ref (rA 16), .ref (rA 17), .ref (rA 18), .int (nI md), .int (nI wd), .ref (rA 21), .ref (rA 22), .ref (rA 23), .int (nI mn), .ref (rA 25), .int (nI (szB (LQ ++ mpL (buB 2 sf nb) 0))), .int mr, .ref (rA 28), .ref (rA 29), .ref (rA 30), .ref (rA 31), .ref (rA 32), .ref (rA 33), .ref (rA 34), .ref (rA 35), .int (nI ld), .int (nI gm), .ref (rA 38), .ref (rA 39), .ref (rA 40), .ref (rA 41), .ref (rA 42), .ref (rA 43), .ref (rA 44), .ref (rA 45), .int (nI my), .ref (rA 47)], la (rA 25) (rK9 25) 5 ((wrB (LQ ++ mpL (buB 2 sf nb) 0)).1), ia (rA 16) (rK9 16) 155 sf] H := hP
        replace hl : lv_has ls 7 [(1, .int (nI 0)), (0, .ref ra)] := hl
        refine lp_n 4 (fun t1 H locs ls => va_P (dC, dI) classes [oc ra 8 [.int (nI T), .int (nI Ac), .ref (rA 2), .ref (rA 3), .ref (rA 4), .ref (rA 5), .ref (rA 6), .ref (rA 7), .ref (rA 8), .ref (rA 9), .ref (rA 10), .ref (rA 11), .ref (rA 12), .ref (rA 13), .int ir, .ref (rA 15), .ref (rA 16), .ref (rA 17), .ref (rA 18), .int (nI md), .int (nI wd), .ref (rA 21), .ref (rA 22), .ref (rA 23), .int (nI mn), .ref (rA 25), .int (nI (szB (LQ ++ mpL (buB 2 sf nb) t1))), .int mr, .ref (rA 28), .ref (rA 29), .ref (rA 30), .ref (rA 31), .ref (rA 32), .ref (rA 33), .ref (rA 34), .ref (rA 35), .int (nI ld), .int (nI gm), .ref (rA 38), .ref (rA 39), .ref (rA 40), .ref (rA 41), .ref (rA 42), .ref (rA 43), .ref (rA 44), .ref (rA 45), .int (nI my), .ref (rA 47)], la (rA 25) (rK9 25) 5 ((wrB (LQ ++ mpL (buB 2 sf nb) t1)).1), ia (rA 16) (rK9 16) 155 sf] H ∧ va_S A s.heap H locs ∧ lv_has ls 7 [(1, .int (nI t1)), (0, .ref ra)]) ⟨hP, hS, hl⟩ ?_ ?_
        · intro t1 H locs ls ht1 hI ih_t1
          obtain ⟨hP, hS, hl⟩ := hI
          have g1 := szB_mono (f := buB 2 sf nb) ht1
          have g2 : szB (buB 2 sf nb t1) = szB (bkB sf nb t1 0) + (szB (bkB sf nb t1 1) + szB (bkB sf nb t1 2)) := by unfold buB; rw [if_neg (by decide), szB_app, szB_app]
          refine lv_iload_n hx hb d_Ref_encode_129 rfl (lv_at hl 0 rfl) ?_
          refine lv_iconst (v := 4) hx hb d_Ref_encode_130 (by decide) ?_
          refine lv_icmp_ge (tgt := 313) hx hb d_Ref_encode_131 (by decide) (fun c9 => absurd c9 (nI_ge (a := t1) (b := 4) ht1 (by decide))) (fun c9 => ?_)
          refine tp_pc (pc' := 134) (by rfl) ?_
          refine lv_aload_n hx hb d_Ref_encode_134 rfl (lv_at hl 1 rfl) ?_
          refine va_get (D := (dC, dI)) (ci := 8) (v := .int (nI md)) (C := R_Ref) (T := F_Ref) (N := 48) hx hb hw i_Ref hown hK hP 0 rfl rfl 19 (by decide) (hw _ m_918) (fun _ h9 => h9) rfl d_Ref_encode_135 ?_
          refine lv_if_le (tgt := 313) hx hb d_Ref_encode_138 (by decide) (fun c9 => absurd ((nI_leI (a := md) (b := 0) (by omega) (by omega)).mp c9) (by omega)) (fun c9 => ?_)
          refine tp_pc (pc' := 141) (by rfl) ?_
          refine lv_aload_n hx hb d_Ref_encode_141 rfl (lv_at hl 1 rfl) ?_
          refine va_get (D := (dC, dI)) (ci := 8) (v := .int (nI md)) (C := R_Ref) (T := F_Ref) (N := 48) hx hb hw i_Ref hown hK hP 0 rfl rfl 19 (by decide) (hw _ m_918) (fun _ h9 => h9) rfl d_Ref_encode_142 ?_
          refine lv_iconst (v := 1) hx hb d_Ref_encode_145 (by decide) ?_
          refine lv_icmp_ne (tgt := 153) hx hb d_Ref_encode_146 (by decide) (fun c9 => ?_) (fun c9 => absurd ((nI_eq (a := md) (b := 1) (by omega) (by omega)).mp c9) (by omega))
          refine tp_pc (pc' := 153) (by rfl) ?_
          refine lv_iconst (v := 0) hx hb d_Ref_encode_153 (by decide) ?_
          refine lv_istore_n (lv' := [(2, .int 0), (1, .int (nI t1)), (0, .ref ra)]) hx hb d_Ref_encode_154 rfl hl (by decide) rfl ?_
          clear hl ls
          intro ls hl
          refine lv_aload_n hx hb d_Ref_encode_155 rfl (lv_at hl 2 rfl) ?_
          refine va_get (D := (dC, dI)) (ci := 8) (v := .int (nI md)) (C := R_Ref) (T := F_Ref) (N := 48) hx hb hw i_Ref hown hK hP 0 rfl rfl 19 (by decide) (hw _ m_918) (fun _ h9 => h9) rfl d_Ref_encode_156 ?_
          refine lv_iconst (v := 1) hx hb d_Ref_encode_159 (by decide) ?_
          refine lv_icmp_ne (tgt := 167) hx hb d_Ref_encode_160 (by decide) (fun c9 => ?_) (fun c9 => absurd ((nI_eq (a := md) (b := 1) (by omega) (by omega)).mp c9) (by omega))
          refine tp_pc (pc' := 167) (by rfl) ?_
          refine lv_iconst (v := 2) hx hb d_Ref_encode_167 (by decide) ?_
          refine lv_istore_n (lv' := [(3, .int 2), (2, .int 0), (1, .int (nI t1)), (0, .ref ra)]) hx hb d_Ref_encode_168 rfl hl (by decide) rfl ?_
          clear hl ls
          intro ls hl
          refine lv_iload_n hx hb d_Ref_encode_169 rfl (lv_at hl 1 rfl) ?_
          refine lv_istore (lv' := [(4, .int 0), (3, .int 2), (2, .int 0), (1, .int (nI t1)), (0, .ref ra)]) hx hb d_Ref_encode_170 hl (by decide) rfl ?_
          clear hl ls
          intro ls hl
          refine lv_iload hx hb d_Ref_encode_172 (lv_at hl 0 rfl) ?_
          refine lv_iload_n hx hb d_Ref_encode_174 rfl (lv_at hl 1 rfl) ?_
          refine lv_icmp_gt (tgt := 307) hx hb d_Ref_encode_175 (by decide) (fun c_13 => absurd c_13 (by decide)) (fun c_13 => ?_)
          refine tp_pc (pc' := 178) (by rfl) ?_
          refine lv_iconst (v := 0) hx hb d_Ref_encode_178 (by decide) ?_
          refine lv_istore (lv' := [(5, .int 0), (4, .int 0), (3, .int 2), (2, .int 0), (1, .int (nI t1)), (0, .ref ra)]) hx hb d_Ref_encode_179 hl (by decide) rfl ?_
          clear hl ls
          intro ls hl
          refine lv_iconst (v := 0) hx hb d_Ref_encode_181 (by decide) ?_
          refine lv_istore (lv' := [(6, .int 0), (5, .int 0), (4, .int 0), (3, .int 2), (2, .int 0), (1, .int (nI t1)), (0, .ref ra)]) hx hb d_Ref_encode_182 hl (by decide) rfl ?_
          clear hl ls
          intro ls hl
          replace hP : va_P (dC, dI) classes [oc ra 8 [.int (nI T), .int (nI Ac), .ref (rA 2), .ref (rA 3), .ref (rA 4), .ref (rA 5), .ref (rA 6), .ref (rA 7), .ref (rA 8), .ref (rA 9), .ref (rA 10), .ref (rA 11), .ref (rA 12), .ref (rA 13), .int ir, .ref (rA 15), .ref (rA 16), .ref (rA 17), .ref (rA 18), .int (nI md), .int (nI wd), .ref (rA 21), .ref (rA 22), .ref (rA 23), .int (nI mn), .ref (rA 25), .int (nI (szB (LQ ++ mpL (buB 2 sf nb) t1))), .int mr, .ref (rA 28), .ref (rA 29), .ref (rA 30), .ref (rA 31), .ref (rA 32), .ref (rA 33), .ref (rA 34), .ref (rA 35), .int (nI ld), .int (nI gm), .ref (rA 38), .ref (rA 39), .ref (rA 40), .ref (rA 41), .ref (rA 42), .ref (rA 43), .ref (rA 44), .ref (rA 45), .int (nI my), .ref (rA 47)], la (rA 25) (rK9 25) 5 ((wrB (LQ ++ mpL (buB 2 sf nb) t1)).1), ia (rA 16) (rK9 16) 155 sf] H := hP
          replace hl : lv_has ls 7 [(6, .int (nI 0)), (5, .int (nI (ctB (inB sf t1 0) 0))), (4, .int 0), (3, .int 2), (2, .int 0), (1, .int (nI t1)), (0, .ref ra)] := hl
          refine lp_n nb (fun i1 H locs ls => va_P (dC, dI) classes [oc ra 8 [.int (nI T), .int (nI Ac), .ref (rA 2), .ref (rA 3), .ref (rA 4), .ref (rA 5), .ref (rA 6), .ref (rA 7), .ref (rA 8), .ref (rA 9), .ref (rA 10), .ref (rA 11), .ref (rA 12), .ref (rA 13), .int ir, .ref (rA 15), .ref (rA 16), .ref (rA 17), .ref (rA 18), .int (nI md), .int (nI wd), .ref (rA 21), .ref (rA 22), .ref (rA 23), .int (nI mn), .ref (rA 25), .int (nI (szB (LQ ++ mpL (buB 2 sf nb) t1))), .int mr, .ref (rA 28), .ref (rA 29), .ref (rA 30), .ref (rA 31), .ref (rA 32), .ref (rA 33), .ref (rA 34), .ref (rA 35), .int (nI ld), .int (nI gm), .ref (rA 38), .ref (rA 39), .ref (rA 40), .ref (rA 41), .ref (rA 42), .ref (rA 43), .ref (rA 44), .ref (rA 45), .int (nI my), .ref (rA 47)], la (rA 25) (rK9 25) 5 ((wrB (LQ ++ mpL (buB 2 sf nb) t1)).1), ia (rA 16) (rK9 16) 155 sf] H ∧ va_S A s.heap H locs ∧ lv_has ls 7 [(6, .int (nI i1)), (5, .int (nI (ctB (inB sf t1 0) i1))), (4, .int 0), (3, .int 2), (2, .int 0), (1, .int (nI t1)), (0, .ref ra)]) ⟨hP, hS, hl⟩ ?_ ?_
          · intro i1 H locs ls hi1 hI ih_i1
            obtain ⟨hP, hS, hl⟩ := hI
            have ml := ctB_le (p := inB sf t1 0) i1
            refine lv_iload hx hb d_Ref_encode_184 (lv_at hl 0 rfl) ?_
            refine lv_aload_n hx hb d_Ref_encode_186 rfl (lv_at hl 6 rfl) ?_
            refine va_get (D := (dC, dI)) (ci := 8) (v := .ref (rA 16)) (C := R_Ref) (T := F_Ref) (N := 48) hx hb hw i_Ref hown hK hP 0 rfl rfl 16 (by decide) (hw _ m_915) (fun _ h9 => h9) rfl d_Ref_encode_187 ?_
            refine lv_bipush (v := 15) hx hb d_Ref_encode_190 (by decide) ?_
            refine va_iald (D := (dC, dI)) hx hb hK hP 2 1 rfl rfl (i := 15) (pk_in 15 155 (by omega)) d_Ref_encode_192 ?_
            refine tp_i (y := sf 15) (by rw [show (15 : Int32).toNatClampNeg = 15 from pk_cl 15]) ?_
            refine tp_i (y := nI nb) hnb ?_
            refine lv_icmp_ge (tgt := 224) hx hb d_Ref_encode_193 (by decide) (fun c9 => absurd c9 (nI_ge hi1 (by omega))) (fun c9 => ?_)
            refine tp_pc (pc' := 196) (by rfl) ?_
            refine lv_iload hx hb d_Ref_encode_196 (lv_at hl 1 rfl) ?_
            refine lv_aload_n hx hb d_Ref_encode_198 rfl (lv_at hl 6 rfl) ?_
            refine lv_iload hx hb d_Ref_encode_199 (lv_at hl 0 rfl) ?_
            refine lv_iload_n hx hb d_Ref_encode_201 rfl (lv_at hl 5 rfl) ?_
            refine lv_iload hx hb d_Ref_encode_202 (lv_at hl 2 rfl) ?_
            obtain ⟨hPc, hDc, hFc⟩ := cut3 (wc := [oc ra 8 [.int (nI T), .int (nI Ac), .ref (rA 2), .ref (rA 3), .ref (rA 4), .ref (rA 5), .ref (rA 6), .ref (rA 7), .ref (rA 8), .ref (rA 9), .ref (rA 10), .ref (rA 11), .ref (rA 12), .ref (rA 13), .int ir, .ref (rA 15), .ref (rA 16), .ref (rA 17), .ref (rA 18), .int (nI md), .int (nI wd), .ref (rA 21), .ref (rA 22), .ref (rA 23), .int (nI mn), .ref (rA 25), .int (nI (szB (LQ ++ mpL (buB 2 sf nb) t1))), .int mr, .ref (rA 28), .ref (rA 29), .ref (rA 30), .ref (rA 31), .ref (rA 32), .ref (rA 33), .ref (rA 34), .ref (rA 35), .int (nI ld), .int (nI gm), .ref (rA 38), .ref (rA 39), .ref (rA 40), .ref (rA 41), .ref (rA 42), .ref (rA 43), .ref (rA 44), .ref (rA 45), .int (nI my), .ref (rA 47)], ia (rA 16) (rK9 16) 155 sf]) hP hD rfl hS hA [0, 2] (by decide +kernel) rfl
            have hKc := hK.sub (tys' := [((rK9 16), .int)]) [1] rfl
            refine va_calli (va_runV (As := [.int (nI i1), .int (nI t1), .int 0]) (rest := [.int (nI (ctB (inB sf t1 0) i1))]) ⟨hx, hb, hml, hown, hw⟩ (gen_Ref_isIn l dC dI ra rA rK9 T Ac md wd mn (szB (LQ ++ mpL (buB 2 sf nb) t1)) ld gm my ir mr i1 t1 0 sf (by omega) H.size) (cw_V 3 hw g_Ref_isIn rfl rfl rfl (hw _ m_109) (hw _ m_1105) (hw _ m_1107) (hw _ m_61) (by decide +kernel) ⟨Nat.le_of_ble_eq_true rfl, Nat.le_of_ble_eq_true rfl⟩) ⟨fun a U g mk q => by obtain ⟨q0, q1, qP, qK, qD, qN⟩ := q; exact ⟨q0, q1, qP, va_K.moved (u := U) (U := U.calling g mk a) (Vm.Alike.refl U.vm) qK, qD, nw_call qN⟩, va_recv hKc hPc (ci := 8) (q0 := 0) rfl rfl, fun U hU hW => ⟨rfl, by rw [hU], by rw [hU]; exact hPc, va_K.moved hW.alike hKc, hDc.weaken (fun _ _ _ _ => trivial), nw_warm hW hn⟩⟩ rfl rfl hl.1 rfl (lv_room (Nat.le_of_ble_eq_true rfl)) d_Ref_encode_204 ⟨Nat.le_of_ble_eq_true rfl, Nat.le_of_ble_eq_true rfl⟩) hS (fun q _ h => hFc q h) hFc ?_
            intro r_14 u t9 H1 locs1 ht9 hvm hw1 hB hz1 hk1 hS1
            obtain ⟨hP1, hK1, hD1⟩ := hB
            rw [ht9] at hP1
            replace hK1 := va_K.moved hvm.symm hK1
            have hPD := join3 hP hD rfl [0, 2] [1] rfl (by rfl) (by decide +kernel) (by decide +kernel) hk1 hFc hP1 hD1
            replace hK : va_K (dC, dI) classes [((rK9 25), .long), ((rK9 16), .int)] s := hK.app hK1
            clear hP1 hK1 hD1 hk1 hz1 hFc hKc hDc hPc hvm ht9 hP hS t9 locs H
            have hP : va_P (dC, dI) classes [la (rA 25) (rK9 25) 5 ((wrB (LQ ++ mpL (buB 2 sf nb) t1)).1), oc ra 8 [.int (nI T), .int (nI Ac), .ref (rA 2), .ref (rA 3), .ref (rA 4), .ref (rA 5), .ref (rA 6), .ref (rA 7), .ref (rA 8), .ref (rA 9), .ref (rA 10), .ref (rA 11), .ref (rA 12), .ref (rA 13), .int ir, .ref (rA 15), .ref (rA 16), .ref (rA 17), .ref (rA 18), .int (nI md), .int (nI wd), .ref (rA 21), .ref (rA 22), .ref (rA 23), .int (nI mn), .ref (rA 25), .int (nI (szB (LQ ++ mpL (buB 2 sf nb) t1))), .int mr, .ref (rA 28), .ref (rA 29), .ref (rA 30), .ref (rA 31), .ref (rA 32), .ref (rA 33), .ref (rA 34), .ref (rA 35), .int (nI ld), .int (nI gm), .ref (rA 38), .ref (rA 39), .ref (rA 40), .ref (rA 41), .ref (rA 42), .ref (rA 43), .ref (rA 44), .ref (rA 45), .int (nI my), .ref (rA 47)], ia (rA 16) (rK9 16) 155 sf] H1 := hPD.1
            replace hD : dd A [(rA 25), ra, (rA 16)] := dd_of hPD.2 rfl
            clear hPD
            revert H1 locs1
            intro H locs hS hP
            refine tp_i (y := (if sf (16 + i1) = nI t1 ∧ ((0 : Int32) < 0 ∨ sf (23 + i1) = 0) then 1 else 0)) (hw1) ?_
            clear hw1 r_14 u
            by_cases hcd : sf (16 + i1) = nI t1 ∧ ((0 : Int32) < 0 ∨ sf (23 + i1) = 0)
            · skip
              rw [if_pos hcd]
              have hib : inB sf t1 0 i1 = true := by unfold inB; exact decide_eq_true hcd
              refine tp_pc (pc' := 207) (by rfl) ?_
              refine lv_if_eq (tgt := 214) hx hb d_Ref_encode_207 (by decide) (fun c_15 => absurd c_15 (by decide)) (fun c_15 => ?_)
              refine tp_pc (pc' := 210) (by rfl) ?_
              refine lv_iconst (v := 1) hx hb d_Ref_encode_210 (by decide) ?_
              refine lv_goto (tgt := 215) hx hb d_Ref_encode_211 (by decide) ?_
              refine tp_pc (pc' := 215) (by rfl) ?_
              refine lv_iadd hx hb d_Ref_encode_215 ?_
              refine tp_i (y := nI (ctB (inB sf t1 0) i1 + 1)) (by exact nI_add (ctB (inB sf t1 0) i1) 1) ?_
              refine tp_i (y := nI (ctB (inB sf t1 0) (i1 + 1))) (by rw [ctB, hib]; rfl) ?_
              refine lv_istore (lv' := [(5, .int (nI (ctB (inB sf t1 0) (i1 + 1)))), (6, .int (nI i1)), (4, .int 0), (3, .int 2), (2, .int 0), (1, .int (nI t1)), (0, .ref ra)]) hx hb d_Ref_encode_216 hl (by decide) rfl ?_
              clear hl ls
              intro ls hl
              refine lv_iinc (v := nI (i1 + 1)) (lv' := [(6, .int (nI (i1 + 1))), (5, .int (nI (ctB (inB sf t1 0) (i1 + 1)))), (4, .int 0), (3, .int 2), (2, .int 0), (1, .int (nI t1)), (0, .ref ra)]) hx hb d_Ref_encode_218 hl (k := 1) rfl (by exact nI_1 i1) (by decide) rfl ?_
              clear hl ls
              intro ls hl
              refine lv_goto (tgt := 184) hx hb d_Ref_encode_221 (by decide) ?_
              refine tp_pc (pc' := 184) (by rfl) ?_
              obtain ⟨hP8, -, -⟩ := cut3 (wc := [oc ra 8 [.int (nI T), .int (nI Ac), .ref (rA 2), .ref (rA 3), .ref (rA 4), .ref (rA 5), .ref (rA 6), .ref (rA 7), .ref (rA 8), .ref (rA 9), .ref (rA 10), .ref (rA 11), .ref (rA 12), .ref (rA 13), .int ir, .ref (rA 15), .ref (rA 16), .ref (rA 17), .ref (rA 18), .int (nI md), .int (nI wd), .ref (rA 21), .ref (rA 22), .ref (rA 23), .int (nI mn), .ref (rA 25), .int (nI (szB (LQ ++ mpL (buB 2 sf nb) t1))), .int mr, .ref (rA 28), .ref (rA 29), .ref (rA 30), .ref (rA 31), .ref (rA 32), .ref (rA 33), .ref (rA 34), .ref (rA 35), .int (nI ld), .int (nI gm), .ref (rA 38), .ref (rA 39), .ref (rA 40), .ref (rA 41), .ref (rA 42), .ref (rA 43), .ref (rA 44), .ref (rA 45), .int (nI my), .ref (rA 47)], la (rA 25) (rK9 25) 5 ((wrB (LQ ++ mpL (buB 2 sf nb) t1)).1), ia (rA 16) (rK9 16) 155 sf]) hP hD rfl hS hA [1, 0, 2] (by decide +kernel) rfl
              exact ih_i1 _ _ _ ⟨hP8, hS, lv_sub hl [0, 1, 2, 3, 4, 5, 6] rfl⟩
            · skip
              rw [if_neg hcd]
              have hib : inB sf t1 0 i1 = false := by unfold inB; exact decide_eq_false hcd
              refine tp_pc (pc' := 207) (by rfl) ?_
              refine lv_if_eq (tgt := 214) hx hb d_Ref_encode_207 (by decide) (fun c_16 => ?_) (fun c_16 => absurd c_16 (by decide))
              refine tp_pc (pc' := 214) (by rfl) ?_
              refine lv_iconst (v := 0) hx hb d_Ref_encode_214 (by decide) ?_
              refine lv_iadd hx hb d_Ref_encode_215 ?_
              refine tp_i (y := nI (ctB (inB sf t1 0) i1 + 0)) (by exact nI_add (ctB (inB sf t1 0) i1) 0) ?_
              refine tp_i (y := nI (ctB (inB sf t1 0) (i1 + 1))) (by rw [ctB, hib]; rfl) ?_
              refine lv_istore (lv' := [(5, .int (nI (ctB (inB sf t1 0) (i1 + 1)))), (6, .int (nI i1)), (4, .int 0), (3, .int 2), (2, .int 0), (1, .int (nI t1)), (0, .ref ra)]) hx hb d_Ref_encode_216 hl (by decide) rfl ?_
              clear hl ls
              intro ls hl
              refine lv_iinc (v := nI (i1 + 1)) (lv' := [(6, .int (nI (i1 + 1))), (5, .int (nI (ctB (inB sf t1 0) (i1 + 1)))), (4, .int 0), (3, .int 2), (2, .int 0), (1, .int (nI t1)), (0, .ref ra)]) hx hb d_Ref_encode_218 hl (k := 1) rfl (by exact nI_1 i1) (by decide) rfl ?_
              clear hl ls
              intro ls hl
              refine lv_goto (tgt := 184) hx hb d_Ref_encode_221 (by decide) ?_
              refine tp_pc (pc' := 184) (by rfl) ?_
              obtain ⟨hP8, -, -⟩ := cut3 (wc := [oc ra 8 [.int (nI T), .int (nI Ac), .ref (rA 2), .ref (rA 3), .ref (rA 4), .ref (rA 5), .ref (rA 6), .ref (rA 7), .ref (rA 8), .ref (rA 9), .ref (rA 10), .ref (rA 11), .ref (rA 12), .ref (rA 13), .int ir, .ref (rA 15), .ref (rA 16), .ref (rA 17), .ref (rA 18), .int (nI md), .int (nI wd), .ref (rA 21), .ref (rA 22), .ref (rA 23), .int (nI mn), .ref (rA 25), .int (nI (szB (LQ ++ mpL (buB 2 sf nb) t1))), .int mr, .ref (rA 28), .ref (rA 29), .ref (rA 30), .ref (rA 31), .ref (rA 32), .ref (rA 33), .ref (rA 34), .ref (rA 35), .int (nI ld), .int (nI gm), .ref (rA 38), .ref (rA 39), .ref (rA 40), .ref (rA 41), .ref (rA 42), .ref (rA 43), .ref (rA 44), .ref (rA 45), .int (nI my), .ref (rA 47)], la (rA 25) (rK9 25) 5 ((wrB (LQ ++ mpL (buB 2 sf nb) t1)).1), ia (rA 16) (rK9 16) 155 sf]) hP hD rfl hS hA [1, 0, 2] (by decide +kernel) rfl
              exact ih_i1 _ _ _ ⟨hP8, hS, lv_sub hl [0, 1, 2, 3, 4, 5, 6] rfl⟩
          · intro H locs ls hI
            obtain ⟨hP, hS, hl⟩ := hI
            have ml := ctB_le (p := inB sf t1 0) nb
            refine lv_iload hx hb d_Ref_encode_184 (lv_at hl 0 rfl) ?_
            refine lv_aload_n hx hb d_Ref_encode_186 rfl (lv_at hl 6 rfl) ?_
            refine va_get (D := (dC, dI)) (ci := 8) (v := .ref (rA 16)) (C := R_Ref) (T := F_Ref) (N := 48) hx hb hw i_Ref hown hK hP 0 rfl rfl 16 (by decide) (hw _ m_915) (fun _ h9 => h9) rfl d_Ref_encode_187 ?_
            refine lv_bipush (v := 15) hx hb d_Ref_encode_190 (by decide) ?_
            refine va_iald (D := (dC, dI)) hx hb hK hP 2 1 rfl rfl (i := 15) (pk_in 15 155 (by omega)) d_Ref_encode_192 ?_
            refine tp_i (y := sf 15) (by rw [show (15 : Int32).toNatClampNeg = 15 from pk_cl 15]) ?_
            refine tp_i (y := nI nb) hnb ?_
            refine lv_icmp_ge (tgt := 224) hx hb d_Ref_encode_193 (by decide) (fun c9 => ?_) (fun c9 => absurd (nI_le (Nat.le_refl nb) (by omega)) c9)
            have g3_0 : szB (bkB sf nb t1 0) = 3 + szB (mpL (blB sf t1 0) nb) := rfl
            refine tp_pc (pc' := 224) (by rfl) ?_
            refine lv_aload_n hx hb d_Ref_encode_224 rfl (lv_at hl 6 rfl) ?_
            refine lv_iload hx hb d_Ref_encode_225 (lv_at hl 1 rfl) ?_
            refine lv_i2l (v := (nI (ctB (inB sf t1 0) nb)).toInt64) hx hb d_Ref_encode_227 rfl ?_
            refine lv_iconst (v := 3) hx hb d_Ref_encode_228 (by decide) ?_
            refine tp_i (y := nI 3) rfl ?_
            obtain ⟨hPc, hDc, hFc⟩ := cut3 (wc := [oc ra 8 [.int (nI T), .int (nI Ac), .ref (rA 2), .ref (rA 3), .ref (rA 4), .ref (rA 5), .ref (rA 6), .ref (rA 7), .ref (rA 8), .ref (rA 9), .ref (rA 10), .ref (rA 11), .ref (rA 12), .ref (rA 13), .int ir, .ref (rA 15), .ref (rA 16), .ref (rA 17), .ref (rA 18), .int (nI md), .int (nI wd), .ref (rA 21), .ref (rA 22), .ref (rA 23), .int (nI mn), .ref (rA 25), .int (nI (szB (LQ ++ mpL (buB 2 sf nb) t1))), .int mr, .ref (rA 28), .ref (rA 29), .ref (rA 30), .ref (rA 31), .ref (rA 32), .ref (rA 33), .ref (rA 34), .ref (rA 35), .int (nI ld), .int (nI gm), .ref (rA 38), .ref (rA 39), .ref (rA 40), .ref (rA 41), .ref (rA 42), .ref (rA 43), .ref (rA 44), .ref (rA 45), .int (nI my), .ref (rA 47)], la (rA 25) (rK9 25) 5 ((wrB (LQ ++ mpL (buB 2 sf nb) t1)).1)]) hP hD rfl hS hA [0, 1] (by decide +kernel) rfl
            have hKc := hK.sub (tys' := [((rK9 25), .long)]) [0] rfl
            refine va_callv (va_runV (As := [.long ((nI (ctB (inB sf t1 0) nb)).toInt64), .int (nI 3)]) (rest := []) ⟨hx, hb, hml, hown, hw⟩ (gen_Ref_bitsL l dC dI ra rA rK9 T Ac md wd mn (szB (LQ ++ mpL (buB 2 sf nb) t1)) ld gm my ir mr ((nI (ctB (inB sf t1 0) nb)).toInt64) 3 (LQ ++ mpL (buB 2 sf nb) t1) ((LQ ++ mpL (buB 2 sf nb) t1) ++ [((nI (ctB (inB sf t1 0) nb)).toInt64, 3)]) (rfl) rfl (by decide) (by decide) (by simp only [szB_app, szB_1];  omega) H.size) (cw_V 2 hw g_Ref_bits rfl rfl rfl (hw _ m_109) (hw _ m_1093) (hw _ m_1095) (hw _ m_58) (by decide +kernel) ⟨Nat.le_of_ble_eq_true rfl, Nat.le_of_ble_eq_true rfl⟩) ⟨fun a U g mk q => by obtain ⟨q0, q1, qP, qK, qD, qN⟩ := q; exact ⟨q0, q1, qP, va_K.moved (u := U) (U := U.calling g mk a) (Vm.Alike.refl U.vm) qK, qD, nw_call qN⟩, va_recv hKc hPc (ci := 8) (q0 := 0) rfl rfl, fun U hU hW => ⟨rfl, by rw [hU], by rw [hU]; exact hPc, va_K.moved hW.alike hKc, hDc.weaken (fun _ _ _ _ => trivial), nw_warm hW hn⟩⟩ rfl rfl hl.1 rfl (lv_room (Nat.le_of_ble_eq_true rfl)) d_Ref_encode_229 ⟨Nat.le_of_ble_eq_true rfl, Nat.le_of_ble_eq_true rfl⟩) hS (fun q _ h => hFc q h) hFc ?_
            intro u t9 H1 locs1 ht9 hvm hw1 hB hz1 hk1 hS1
            obtain ⟨hP1, hK1, hD1⟩ := hB
            rw [ht9] at hP1
            replace hK1 := va_K.moved hvm.symm hK1
            have hPD := join3 hP hD rfl [0, 1] [2] rfl (by rfl) (by decide +kernel) (by decide +kernel) hk1 hFc hP1 hD1
            replace hK : va_K (dC, dI) classes [((rK9 25), .long), ((rK9 16), .int)] s := hK.app hK1
            clear hP1 hK1 hD1 hk1 hz1 hFc hKc hDc hPc hvm ht9 hP hS t9 locs H
            have hP : va_P (dC, dI) classes [ia (rA 16) (rK9 16) 155 sf, oc ra 8 [.int (nI T), .int (nI Ac), .ref (rA 2), .ref (rA 3), .ref (rA 4), .ref (rA 5), .ref (rA 6), .ref (rA 7), .ref (rA 8), .ref (rA 9), .ref (rA 10), .ref (rA 11), .ref (rA 12), .ref (rA 13), .int ir, .ref (rA 15), .ref (rA 16), .ref (rA 17), .ref (rA 18), .int (nI md), .int (nI wd), .ref (rA 21), .ref (rA 22), .ref (rA 23), .int (nI mn), .ref (rA 25), .int (nI (szB ((LQ ++ mpL (buB 2 sf nb) t1) ++ [((nI (ctB (inB sf t1 0) nb)).toInt64, 3)]))), .int mr, .ref (rA 28), .ref (rA 29), .ref (rA 30), .ref (rA 31), .ref (rA 32), .ref (rA 33), .ref (rA 34), .ref (rA 35), .int (nI ld), .int (nI gm), .ref (rA 38), .ref (rA 39), .ref (rA 40), .ref (rA 41), .ref (rA 42), .ref (rA 43), .ref (rA 44), .ref (rA 45), .int (nI my), .ref (rA 47)], la (rA 25) (rK9 25) 5 ((wrB ((LQ ++ mpL (buB 2 sf nb) t1) ++ [((nI (ctB (inB sf t1 0) nb)).toInt64, 3)])).1)] H1 := hPD.1
            replace hD : dd A [(rA 16), ra, (rA 25)] := dd_of hPD.2 rfl
            clear hPD
            revert H1 locs1
            intro H locs hS hP
            clear hw1 u
            refine tp_pc (pc' := 232) (by rfl) ?_
            refine lv_iconst (v := 0) hx hb d_Ref_encode_232 (by decide) ?_
            refine lv_istore (lv' := [(6, .int 0), (5, .int (nI (ctB (inB sf t1 0) nb))), (4, .int 0), (3, .int 2), (2, .int 0), (1, .int (nI t1)), (0, .ref ra)]) hx hb d_Ref_encode_233 hl (by decide) rfl ?_
            clear hl ls
            intro ls hl
            obtain ⟨hP8, hD8, -⟩ := cut3 (wc := [oc ra 8 [.int (nI T), .int (nI Ac), .ref (rA 2), .ref (rA 3), .ref (rA 4), .ref (rA 5), .ref (rA 6), .ref (rA 7), .ref (rA 8), .ref (rA 9), .ref (rA 10), .ref (rA 11), .ref (rA 12), .ref (rA 13), .int ir, .ref (rA 15), .ref (rA 16), .ref (rA 17), .ref (rA 18), .int (nI md), .int (nI wd), .ref (rA 21), .ref (rA 22), .ref (rA 23), .int (nI mn), .ref (rA 25), .int (nI (szB ((LQ ++ mpL (buB 2 sf nb) t1) ++ [((nI (ctB (inB sf t1 0) nb)).toInt64, 3)]))), .int mr, .ref (rA 28), .ref (rA 29), .ref (rA 30), .ref (rA 31), .ref (rA 32), .ref (rA 33), .ref (rA 34), .ref (rA 35), .int (nI ld), .int (nI gm), .ref (rA 38), .ref (rA 39), .ref (rA 40), .ref (rA 41), .ref (rA 42), .ref (rA 43), .ref (rA 44), .ref (rA 45), .int (nI my), .ref (rA 47)], la (rA 25) (rK9 25) 5 ((wrB ((LQ ++ mpL (buB 2 sf nb) t1) ++ [((nI (ctB (inB sf t1 0) nb)).toInt64, 3)])).1), ia (rA 16) (rK9 16) 155 sf]) hP hD rfl hS hA [1, 2, 0] (by decide +kernel) rfl
            clear hP
            have hP : va_P (dC, dI) classes [oc ra 8 [.int (nI T), .int (nI Ac), .ref (rA 2), .ref (rA 3), .ref (rA 4), .ref (rA 5), .ref (rA 6), .ref (rA 7), .ref (rA 8), .ref (rA 9), .ref (rA 10), .ref (rA 11), .ref (rA 12), .ref (rA 13), .int ir, .ref (rA 15), .ref (rA 16), .ref (rA 17), .ref (rA 18), .int (nI md), .int (nI wd), .ref (rA 21), .ref (rA 22), .ref (rA 23), .int (nI mn), .ref (rA 25), .int (nI (szB ((LQ ++ mpL (buB 2 sf nb) t1) ++ [((nI (ctB (inB sf t1 0) nb)).toInt64, 3)]))), .int mr, .ref (rA 28), .ref (rA 29), .ref (rA 30), .ref (rA 31), .ref (rA 32), .ref (rA 33), .ref (rA 34), .ref (rA 35), .int (nI ld), .int (nI gm), .ref (rA 38), .ref (rA 39), .ref (rA 40), .ref (rA 41), .ref (rA 42), .ref (rA 43), .ref (rA 44), .ref (rA 45), .int (nI my), .ref (rA 47)], la (rA 25) (rK9 25) 5 ((wrB ((LQ ++ mpL (buB 2 sf nb) t1) ++ [((nI (ctB (inB sf t1 0) nb)).toInt64, 3)])).1), ia (rA 16) (rK9 16) 155 sf] H := hP8
            clear hP8
            replace hD : dd A [ra, (rA 25), (rA 16)] := dd_of hD8 rfl
            clear hD8
            replace hP : va_P (dC, dI) classes [oc ra 8 [.int (nI T), .int (nI Ac), .ref (rA 2), .ref (rA 3), .ref (rA 4), .ref (rA 5), .ref (rA 6), .ref (rA 7), .ref (rA 8), .ref (rA 9), .ref (rA 10), .ref (rA 11), .ref (rA 12), .ref (rA 13), .int ir, .ref (rA 15), .ref (rA 16), .ref (rA 17), .ref (rA 18), .int (nI md), .int (nI wd), .ref (rA 21), .ref (rA 22), .ref (rA 23), .int (nI mn), .ref (rA 25), .int (nI (szB (((LQ ++ mpL (buB 2 sf nb) t1) ++ [((nI (ctB (inB sf t1 0) nb)).toInt64, 3)]) ++ mpL (blB sf t1 0) 0))), .int mr, .ref (rA 28), .ref (rA 29), .ref (rA 30), .ref (rA 31), .ref (rA 32), .ref (rA 33), .ref (rA 34), .ref (rA 35), .int (nI ld), .int (nI gm), .ref (rA 38), .ref (rA 39), .ref (rA 40), .ref (rA 41), .ref (rA 42), .ref (rA 43), .ref (rA 44), .ref (rA 45), .int (nI my), .ref (rA 47)], la (rA 25) (rK9 25) 5 ((wrB (((LQ ++ mpL (buB 2 sf nb) t1) ++ [((nI (ctB (inB sf t1 0) nb)).toInt64, 3)]) ++ mpL (blB sf t1 0) 0)).1), ia (rA 16) (rK9 16) 155 sf] H := by rw [mpL_0, List.append_nil]; exact hP
            replace hP : va_P (dC, dI) classes [oc ra 8 [.int (nI T), .int (nI Ac), .ref (rA 2), .ref (rA 3), .ref (rA 4), .ref (rA 5), .ref (rA 6), .ref (rA 7), .ref (rA 8), .ref (rA 9), .ref (rA 10), .ref (rA 11), .ref (rA 12), .ref (rA 13), .int ir, .ref (rA 15), .ref (rA 16), .ref (rA 17), .ref (rA 18), .int (nI md), .int (nI wd), .ref (rA 21), .ref (rA 22), .ref (rA 23), .int (nI mn), .ref (rA 25), .int (nI (szB (((LQ ++ mpL (buB 2 sf nb) t1) ++ [((nI (ctB (inB sf t1 0) nb)).toInt64, 3)]) ++ mpL (blB sf t1 0) 0))), .int mr, .ref (rA 28), .ref (rA 29), .ref (rA 30), .ref (rA 31), .ref (rA 32), .ref (rA 33), .ref (rA 34), .ref (rA 35), .int (nI ld), .int (nI gm), .ref (rA 38), .ref (rA 39), .ref (rA 40), .ref (rA 41), .ref (rA 42), .ref (rA 43), .ref (rA 44), .ref (rA 45), .int (nI my), .ref (rA 47)], la (rA 25) (rK9 25) 5 ((wrB (((LQ ++ mpL (buB 2 sf nb) t1) ++ [((nI (ctB (inB sf t1 0) nb)).toInt64, 3)]) ++ mpL (blB sf t1 0) 0)).1), ia (rA 16) (rK9 16) 155 sf] H := hP
            replace hl : lv_has ls 7 [(6, .int (nI 0)), (5, .int (nI (ctB (inB sf t1 0) nb))), (4, .int 0), (3, .int 2), (2, .int 0), (1, .int (nI t1)), (0, .ref ra)] := hl
            refine lp_n nb (fun i1 H locs ls => va_P (dC, dI) classes [oc ra 8 [.int (nI T), .int (nI Ac), .ref (rA 2), .ref (rA 3), .ref (rA 4), .ref (rA 5), .ref (rA 6), .ref (rA 7), .ref (rA 8), .ref (rA 9), .ref (rA 10), .ref (rA 11), .ref (rA 12), .ref (rA 13), .int ir, .ref (rA 15), .ref (rA 16), .ref (rA 17), .ref (rA 18), .int (nI md), .int (nI wd), .ref (rA 21), .ref (rA 22), .ref (rA 23), .int (nI mn), .ref (rA 25), .int (nI (szB (((LQ ++ mpL (buB 2 sf nb) t1) ++ [((nI (ctB (inB sf t1 0) nb)).toInt64, 3)]) ++ mpL (blB sf t1 0) i1))), .int mr, .ref (rA 28), .ref (rA 29), .ref (rA 30), .ref (rA 31), .ref (rA 32), .ref (rA 33), .ref (rA 34), .ref (rA 35), .int (nI ld), .int (nI gm), .ref (rA 38), .ref (rA 39), .ref (rA 40), .ref (rA 41), .ref (rA 42), .ref (rA 43), .ref (rA 44), .ref (rA 45), .int (nI my), .ref (rA 47)], la (rA 25) (rK9 25) 5 ((wrB (((LQ ++ mpL (buB 2 sf nb) t1) ++ [((nI (ctB (inB sf t1 0) nb)).toInt64, 3)]) ++ mpL (blB sf t1 0) i1)).1), ia (rA 16) (rK9 16) 155 sf] H ∧ va_S A s.heap H locs ∧ lv_has ls 7 [(6, .int (nI i1)), (5, .int (nI (ctB (inB sf t1 0) nb))), (4, .int 0), (3, .int 2), (2, .int 0), (1, .int (nI t1)), (0, .ref ra)]) ⟨hP, hS, hl⟩ ?_ ?_
            · intro i1 H locs ls hi1 hI ih_i1
              obtain ⟨hP, hS, hl⟩ := hI
              have g4 := szB_mono (f := blB sf t1 0) hi1
              refine lv_iload hx hb d_Ref_encode_235 (lv_at hl 0 rfl) ?_
              refine lv_aload_n hx hb d_Ref_encode_237 rfl (lv_at hl 6 rfl) ?_
              refine va_get (D := (dC, dI)) (ci := 8) (v := .ref (rA 16)) (C := R_Ref) (T := F_Ref) (N := 48) hx hb hw i_Ref hown hK hP 0 rfl rfl 16 (by decide) (hw _ m_915) (fun _ h9 => h9) rfl d_Ref_encode_238 ?_
              refine lv_bipush (v := 15) hx hb d_Ref_encode_241 (by decide) ?_
              refine va_iald (D := (dC, dI)) hx hb hK hP 2 1 rfl rfl (i := 15) (pk_in 15 155 (by omega)) d_Ref_encode_243 ?_
              refine tp_i (y := sf 15) (by rw [show (15 : Int32).toNatClampNeg = 15 from pk_cl 15]) ?_
              refine tp_i (y := nI nb) hnb ?_
              refine lv_icmp_ge (tgt := 301) hx hb d_Ref_encode_244 (by decide) (fun c9 => absurd c9 (nI_ge hi1 (by omega))) (fun c9 => ?_)
              refine tp_pc (pc' := 247) (by rfl) ?_
              refine lv_aload_n hx hb d_Ref_encode_247 rfl (lv_at hl 6 rfl) ?_
              refine lv_iload hx hb d_Ref_encode_248 (lv_at hl 0 rfl) ?_
              refine lv_iload_n hx hb d_Ref_encode_250 rfl (lv_at hl 5 rfl) ?_
              refine lv_iload hx hb d_Ref_encode_251 (lv_at hl 2 rfl) ?_
              obtain ⟨hPc, hDc, hFc⟩ := cut3 (wc := [oc ra 8 [.int (nI T), .int (nI Ac), .ref (rA 2), .ref (rA 3), .ref (rA 4), .ref (rA 5), .ref (rA 6), .ref (rA 7), .ref (rA 8), .ref (rA 9), .ref (rA 10), .ref (rA 11), .ref (rA 12), .ref (rA 13), .int ir, .ref (rA 15), .ref (rA 16), .ref (rA 17), .ref (rA 18), .int (nI md), .int (nI wd), .ref (rA 21), .ref (rA 22), .ref (rA 23), .int (nI mn), .ref (rA 25), .int (nI (szB (((LQ ++ mpL (buB 2 sf nb) t1) ++ [((nI (ctB (inB sf t1 0) nb)).toInt64, 3)]) ++ mpL (blB sf t1 0) i1))), .int mr, .ref (rA 28), .ref (rA 29), .ref (rA 30), .ref (rA 31), .ref (rA 32), .ref (rA 33), .ref (rA 34), .ref (rA 35), .int (nI ld), .int (nI gm), .ref (rA 38), .ref (rA 39), .ref (rA 40), .ref (rA 41), .ref (rA 42), .ref (rA 43), .ref (rA 44), .ref (rA 45), .int (nI my), .ref (rA 47)], ia (rA 16) (rK9 16) 155 sf]) hP hD rfl hS hA [0, 2] (by decide +kernel) rfl
              have hKc := hK.sub (tys' := [((rK9 16), .int)]) [1] rfl
              refine va_calli (va_runV (As := [.int (nI i1), .int (nI t1), .int 0]) (rest := []) ⟨hx, hb, hml, hown, hw⟩ (gen_Ref_isIn l dC dI ra rA rK9 T Ac md wd mn (szB (((LQ ++ mpL (buB 2 sf nb) t1) ++ [((nI (ctB (inB sf t1 0) nb)).toInt64, 3)]) ++ mpL (blB sf t1 0) i1)) ld gm my ir mr i1 t1 0 sf (by omega) H.size) (cw_V 3 hw g_Ref_isIn rfl rfl rfl (hw _ m_109) (hw _ m_1105) (hw _ m_1107) (hw _ m_61) (by decide +kernel) ⟨Nat.le_of_ble_eq_true rfl, Nat.le_of_ble_eq_true rfl⟩) ⟨fun a U g mk q => by obtain ⟨q0, q1, qP, qK, qD, qN⟩ := q; exact ⟨q0, q1, qP, va_K.moved (u := U) (U := U.calling g mk a) (Vm.Alike.refl U.vm) qK, qD, nw_call qN⟩, va_recv hKc hPc (ci := 8) (q0 := 0) rfl rfl, fun U hU hW => ⟨rfl, by rw [hU], by rw [hU]; exact hPc, va_K.moved hW.alike hKc, hDc.weaken (fun _ _ _ _ => trivial), nw_warm hW hn⟩⟩ rfl rfl hl.1 rfl (lv_room (Nat.le_of_ble_eq_true rfl)) d_Ref_encode_253 ⟨Nat.le_of_ble_eq_true rfl, Nat.le_of_ble_eq_true rfl⟩) hS (fun q _ h => hFc q h) hFc ?_
              intro r_18 u t9 H1 locs1 ht9 hvm hw1 hB hz1 hk1 hS1
              obtain ⟨hP1, hK1, hD1⟩ := hB
              rw [ht9] at hP1
              replace hK1 := va_K.moved hvm.symm hK1
              have hPD := join3 hP hD rfl [0, 2] [1] rfl (by rfl) (by decide +kernel) (by decide +kernel) hk1 hFc hP1 hD1
              replace hK : va_K (dC, dI) classes [((rK9 25), .long), ((rK9 16), .int)] s := hK.app hK1
              clear hP1 hK1 hD1 hk1 hz1 hFc hKc hDc hPc hvm ht9 hP hS t9 locs H
              have hP : va_P (dC, dI) classes [la (rA 25) (rK9 25) 5 ((wrB (((LQ ++ mpL (buB 2 sf nb) t1) ++ [((nI (ctB (inB sf t1 0) nb)).toInt64, 3)]) ++ mpL (blB sf t1 0) i1)).1), oc ra 8 [.int (nI T), .int (nI Ac), .ref (rA 2), .ref (rA 3), .ref (rA 4), .ref (rA 5), .ref (rA 6), .ref (rA 7), .ref (rA 8), .ref (rA 9), .ref (rA 10), .ref (rA 11), .ref (rA 12), .ref (rA 13), .int ir, .ref (rA 15), .ref (rA 16), .ref (rA 17), .ref (rA 18), .int (nI md), .int (nI wd), .ref (rA 21), .ref (rA 22), .ref (rA 23), .int (nI mn), .ref (rA 25), .int (nI (szB (((LQ ++ mpL (buB 2 sf nb) t1) ++ [((nI (ctB (inB sf t1 0) nb)).toInt64, 3)]) ++ mpL (blB sf t1 0) i1))), .int mr, .ref (rA 28), .ref (rA 29), .ref (rA 30), .ref (rA 31), .ref (rA 32), .ref (rA 33), .ref (rA 34), .ref (rA 35), .int (nI ld), .int (nI gm), .ref (rA 38), .ref (rA 39), .ref (rA 40), .ref (rA 41), .ref (rA 42), .ref (rA 43), .ref (rA 44), .ref (rA 45), .int (nI my), .ref (rA 47)], ia (rA 16) (rK9 16) 155 sf] H1 := hPD.1
              replace hD : dd A [(rA 25), ra, (rA 16)] := dd_of hPD.2 rfl
              clear hPD
              revert H1 locs1
              intro H locs hS hP
              refine tp_i (y := (if sf (16 + i1) = nI t1 ∧ ((0 : Int32) < 0 ∨ sf (23 + i1) = 0) then 1 else 0)) (hw1) ?_
              clear hw1 r_18 u
              by_cases hcd : sf (16 + i1) = nI t1 ∧ ((0 : Int32) < 0 ∨ sf (23 + i1) = 0)
              · skip
                rw [if_pos hcd]
                have hib : inB sf t1 0 i1 = true := by unfold inB; exact decide_eq_true hcd
                have hbl : blB sf t1 0 i1 = [((sf (23 + i1)).toInt64, 2), ((sf (30 + i1) + 64).toInt64, 7)] := by unfold blB; rw [if_pos hib]
                have g5 : szB (blB sf t1 0 i1) = 9 := by rw [hbl]; rfl
                refine tp_pc (pc' := 256) (by rfl) ?_
                refine lv_if_eq (tgt := 295) hx hb d_Ref_encode_256 (by decide) (fun c_19 => absurd c_19 (by decide)) (fun c_19 => ?_)
                refine tp_pc (pc' := 259) (by rfl) ?_
                refine lv_aload_n hx hb d_Ref_encode_259 rfl (lv_at hl 6 rfl) ?_
                refine lv_aload_n hx hb d_Ref_encode_260 rfl (lv_at hl 6 rfl) ?_
                refine va_get (D := (dC, dI)) (ci := 8) (v := .ref (rA 16)) (C := R_Ref) (T := F_Ref) (N := 48) hx hb hw i_Ref hown hK hP 1 rfl rfl 16 (by decide) (hw _ m_915) (fun _ h9 => h9) rfl d_Ref_encode_261 ?_
                refine lv_bipush (v := 23) hx hb d_Ref_encode_264 (by decide) ?_
                refine lv_iload hx hb d_Ref_encode_266 (lv_at hl 0 rfl) ?_
                refine lv_iadd hx hb d_Ref_encode_268 ?_
                refine tp_i (y := nI (23 + i1)) (by exact nI_add 23 i1) ?_
                refine va_iald (D := (dC, dI)) hx hb hK hP 2 1 rfl rfl (i := nI (23 + i1)) (pk_in (23 + i1) 155 (by omega)) d_Ref_encode_269 ?_
                refine tp_i (y := sf (23 + i1)) (by rw [show (nI (23 + i1) : Int32).toNatClampNeg = 23 + i1 from pk_cl (23 + i1)]) ?_
                refine lv_i2l (v := (sf (23 + i1)).toInt64) hx hb d_Ref_encode_270 rfl ?_
                refine lv_iconst (v := 2) hx hb d_Ref_encode_271 (by decide) ?_
                refine tp_i (y := nI 2) rfl ?_
                obtain ⟨hPc, hDc, hFc⟩ := cut3 (wc := [oc ra 8 [.int (nI T), .int (nI Ac), .ref (rA 2), .ref (rA 3), .ref (rA 4), .ref (rA 5), .ref (rA 6), .ref (rA 7), .ref (rA 8), .ref (rA 9), .ref (rA 10), .ref (rA 11), .ref (rA 12), .ref (rA 13), .int ir, .ref (rA 15), .ref (rA 16), .ref (rA 17), .ref (rA 18), .int (nI md), .int (nI wd), .ref (rA 21), .ref (rA 22), .ref (rA 23), .int (nI mn), .ref (rA 25), .int (nI (szB (((LQ ++ mpL (buB 2 sf nb) t1) ++ [((nI (ctB (inB sf t1 0) nb)).toInt64, 3)]) ++ mpL (blB sf t1 0) i1))), .int mr, .ref (rA 28), .ref (rA 29), .ref (rA 30), .ref (rA 31), .ref (rA 32), .ref (rA 33), .ref (rA 34), .ref (rA 35), .int (nI ld), .int (nI gm), .ref (rA 38), .ref (rA 39), .ref (rA 40), .ref (rA 41), .ref (rA 42), .ref (rA 43), .ref (rA 44), .ref (rA 45), .int (nI my), .ref (rA 47)], la (rA 25) (rK9 25) 5 ((wrB (((LQ ++ mpL (buB 2 sf nb) t1) ++ [((nI (ctB (inB sf t1 0) nb)).toInt64, 3)]) ++ mpL (blB sf t1 0) i1)).1)]) hP hD rfl hS hA [1, 0] (by decide +kernel) rfl
                have hKc := hK.sub (tys' := [((rK9 25), .long)]) [0] rfl
                refine va_callv (va_runV (As := [.long ((sf (23 + i1)).toInt64), .int (nI 2)]) (rest := []) ⟨hx, hb, hml, hown, hw⟩ (gen_Ref_bitsL l dC dI ra rA rK9 T Ac md wd mn (szB (((LQ ++ mpL (buB 2 sf nb) t1) ++ [((nI (ctB (inB sf t1 0) nb)).toInt64, 3)]) ++ mpL (blB sf t1 0) i1)) ld gm my ir mr ((sf (23 + i1)).toInt64) 2 (((LQ ++ mpL (buB 2 sf nb) t1) ++ [((nI (ctB (inB sf t1 0) nb)).toInt64, 3)]) ++ mpL (blB sf t1 0) i1) ((((LQ ++ mpL (buB 2 sf nb) t1) ++ [((nI (ctB (inB sf t1 0) nb)).toInt64, 3)]) ++ mpL (blB sf t1 0) i1) ++ [((sf (23 + i1)).toInt64, 2)]) (rfl) rfl (by decide) (by decide) (by simp only [szB_app, szB_1];  omega) H.size) (cw_V 2 hw g_Ref_bits rfl rfl rfl (hw _ m_109) (hw _ m_1093) (hw _ m_1095) (hw _ m_58) (by decide +kernel) ⟨Nat.le_of_ble_eq_true rfl, Nat.le_of_ble_eq_true rfl⟩) ⟨fun a U g mk q => by obtain ⟨q0, q1, qP, qK, qD, qN⟩ := q; exact ⟨q0, q1, qP, va_K.moved (u := U) (U := U.calling g mk a) (Vm.Alike.refl U.vm) qK, qD, nw_call qN⟩, va_recv hKc hPc (ci := 8) (q0 := 0) rfl rfl, fun U hU hW => ⟨rfl, by rw [hU], by rw [hU]; exact hPc, va_K.moved hW.alike hKc, hDc.weaken (fun _ _ _ _ => trivial), nw_warm hW hn⟩⟩ rfl rfl hl.1 rfl (lv_room (Nat.le_of_ble_eq_true rfl)) d_Ref_encode_272 ⟨Nat.le_of_ble_eq_true rfl, Nat.le_of_ble_eq_true rfl⟩) hS (fun q _ h => hFc q h) hFc ?_
                intro u t9 H1 locs1 ht9 hvm hw1 hB hz1 hk1 hS1
                obtain ⟨hP1, hK1, hD1⟩ := hB
                rw [ht9] at hP1
                replace hK1 := va_K.moved hvm.symm hK1
                have hPD := join3 hP hD rfl [1, 0] [2] rfl (by rfl) (by decide +kernel) (by decide +kernel) hk1 hFc hP1 hD1
                replace hK : va_K (dC, dI) classes [((rK9 25), .long), ((rK9 16), .int)] s := hK.app hK1
                clear hP1 hK1 hD1 hk1 hz1 hFc hKc hDc hPc hvm ht9 hP hS t9 locs H
                have hP : va_P (dC, dI) classes [ia (rA 16) (rK9 16) 155 sf, oc ra 8 [.int (nI T), .int (nI Ac), .ref (rA 2), .ref (rA 3), .ref (rA 4), .ref (rA 5), .ref (rA 6), .ref (rA 7), .ref (rA 8), .ref (rA 9), .ref (rA 10), .ref (rA 11), .ref (rA 12), .ref (rA 13), .int ir, .ref (rA 15), .ref (rA 16), .ref (rA 17), .ref (rA 18), .int (nI md), .int (nI wd), .ref (rA 21), .ref (rA 22), .ref (rA 23), .int (nI mn), .ref (rA 25), .int (nI (szB ((((LQ ++ mpL (buB 2 sf nb) t1) ++ [((nI (ctB (inB sf t1 0) nb)).toInt64, 3)]) ++ mpL (blB sf t1 0) i1) ++ [((sf (23 + i1)).toInt64, 2)]))), .int mr, .ref (rA 28), .ref (rA 29), .ref (rA 30), .ref (rA 31), .ref (rA 32), .ref (rA 33), .ref (rA 34), .ref (rA 35), .int (nI ld), .int (nI gm), .ref (rA 38), .ref (rA 39), .ref (rA 40), .ref (rA 41), .ref (rA 42), .ref (rA 43), .ref (rA 44), .ref (rA 45), .int (nI my), .ref (rA 47)], la (rA 25) (rK9 25) 5 ((wrB ((((LQ ++ mpL (buB 2 sf nb) t1) ++ [((nI (ctB (inB sf t1 0) nb)).toInt64, 3)]) ++ mpL (blB sf t1 0) i1) ++ [((sf (23 + i1)).toInt64, 2)])).1)] H1 := hPD.1
                replace hD : dd A [(rA 16), ra, (rA 25)] := dd_of hPD.2 rfl
                clear hPD
                revert H1 locs1
                intro H locs hS hP
                clear hw1 u
                refine tp_pc (pc' := 275) (by rfl) ?_
                refine lv_aload_n hx hb d_Ref_encode_275 rfl (lv_at hl 6 rfl) ?_
                refine lv_aload_n hx hb d_Ref_encode_276 rfl (lv_at hl 6 rfl) ?_
                refine va_get (D := (dC, dI)) (ci := 8) (v := .ref (rA 16)) (C := R_Ref) (T := F_Ref) (N := 48) hx hb hw i_Ref hown hK hP 1 rfl rfl 16 (by decide) (hw _ m_915) (fun _ h9 => h9) rfl d_Ref_encode_277 ?_
                refine lv_bipush (v := 30) hx hb d_Ref_encode_280 (by decide) ?_
                refine lv_iload hx hb d_Ref_encode_282 (lv_at hl 0 rfl) ?_
                refine lv_iadd hx hb d_Ref_encode_284 ?_
                refine tp_i (y := nI (30 + i1)) (by exact nI_add 30 i1) ?_
                refine va_iald (D := (dC, dI)) hx hb hK hP 0 1 rfl rfl (i := nI (30 + i1)) (pk_in (30 + i1) 155 (by omega)) d_Ref_encode_285 ?_
                refine tp_i (y := sf (30 + i1)) (by rw [show (nI (30 + i1) : Int32).toNatClampNeg = 30 + i1 from pk_cl (30 + i1)]) ?_
                refine lv_bipush (v := 64) hx hb d_Ref_encode_286 (by decide) ?_
                refine lv_iadd hx hb d_Ref_encode_288 ?_
                refine tp_i (y := (sf (30 + i1)) + 64) rfl ?_
                refine lv_i2l (v := ((sf (30 + i1)) + 64).toInt64) hx hb d_Ref_encode_289 rfl ?_
                refine lv_bipush (v := 7) hx hb d_Ref_encode_290 (by decide) ?_
                refine tp_i (y := nI 7) rfl ?_
                obtain ⟨hPc, hDc, hFc⟩ := cut3 (wc := [oc ra 8 [.int (nI T), .int (nI Ac), .ref (rA 2), .ref (rA 3), .ref (rA 4), .ref (rA 5), .ref (rA 6), .ref (rA 7), .ref (rA 8), .ref (rA 9), .ref (rA 10), .ref (rA 11), .ref (rA 12), .ref (rA 13), .int ir, .ref (rA 15), .ref (rA 16), .ref (rA 17), .ref (rA 18), .int (nI md), .int (nI wd), .ref (rA 21), .ref (rA 22), .ref (rA 23), .int (nI mn), .ref (rA 25), .int (nI (szB ((((LQ ++ mpL (buB 2 sf nb) t1) ++ [((nI (ctB (inB sf t1 0) nb)).toInt64, 3)]) ++ mpL (blB sf t1 0) i1) ++ [((sf (23 + i1)).toInt64, 2)]))), .int mr, .ref (rA 28), .ref (rA 29), .ref (rA 30), .ref (rA 31), .ref (rA 32), .ref (rA 33), .ref (rA 34), .ref (rA 35), .int (nI ld), .int (nI gm), .ref (rA 38), .ref (rA 39), .ref (rA 40), .ref (rA 41), .ref (rA 42), .ref (rA 43), .ref (rA 44), .ref (rA 45), .int (nI my), .ref (rA 47)], la (rA 25) (rK9 25) 5 ((wrB ((((LQ ++ mpL (buB 2 sf nb) t1) ++ [((nI (ctB (inB sf t1 0) nb)).toInt64, 3)]) ++ mpL (blB sf t1 0) i1) ++ [((sf (23 + i1)).toInt64, 2)])).1)]) hP hD rfl hS hA [1, 2] (by decide +kernel) rfl
                have hKc := hK.sub (tys' := [((rK9 25), .long)]) [0] rfl
                refine va_callv (va_runV (As := [.long ((sf (30 + i1) + 64).toInt64), .int (nI 7)]) (rest := []) ⟨hx, hb, hml, hown, hw⟩ (gen_Ref_bitsL l dC dI ra rA rK9 T Ac md wd mn (szB ((((LQ ++ mpL (buB 2 sf nb) t1) ++ [((nI (ctB (inB sf t1 0) nb)).toInt64, 3)]) ++ mpL (blB sf t1 0) i1) ++ [((sf (23 + i1)).toInt64, 2)])) ld gm my ir mr ((sf (30 + i1) + 64).toInt64) 7 ((((LQ ++ mpL (buB 2 sf nb) t1) ++ [((nI (ctB (inB sf t1 0) nb)).toInt64, 3)]) ++ mpL (blB sf t1 0) i1) ++ [((sf (23 + i1)).toInt64, 2)]) (((LQ ++ mpL (buB 2 sf nb) t1) ++ [((nI (ctB (inB sf t1 0) nb)).toInt64, 3)]) ++ mpL (blB sf t1 0) (i1 + 1)) (by rw [mpL_s i1, hbl]; simp only [List.append_assoc, List.cons_append, List.nil_append]) rfl (by decide) (by decide) (by rw [mpL_s i1, hbl]; simp only [szB_app, szB_1]; have g6 : szB [((sf (23 + i1)).toInt64, 2), ((sf (30 + i1) + 64).toInt64, 7)] = 9 := rfl; omega) H.size) (cw_V 2 hw g_Ref_bits rfl rfl rfl (hw _ m_109) (hw _ m_1093) (hw _ m_1095) (hw _ m_58) (by decide +kernel) ⟨Nat.le_of_ble_eq_true rfl, Nat.le_of_ble_eq_true rfl⟩) ⟨fun a U g mk q => by obtain ⟨q0, q1, qP, qK, qD, qN⟩ := q; exact ⟨q0, q1, qP, va_K.moved (u := U) (U := U.calling g mk a) (Vm.Alike.refl U.vm) qK, qD, nw_call qN⟩, va_recv hKc hPc (ci := 8) (q0 := 0) rfl rfl, fun U hU hW => ⟨rfl, by rw [hU], by rw [hU]; exact hPc, va_K.moved hW.alike hKc, hDc.weaken (fun _ _ _ _ => trivial), nw_warm hW hn⟩⟩ rfl rfl hl.1 rfl (lv_room (Nat.le_of_ble_eq_true rfl)) d_Ref_encode_292 ⟨Nat.le_of_ble_eq_true rfl, Nat.le_of_ble_eq_true rfl⟩) hS (fun q _ h => hFc q h) hFc ?_
                intro u t9 H1 locs1 ht9 hvm hw1 hB hz1 hk1 hS1
                obtain ⟨hP1, hK1, hD1⟩ := hB
                rw [ht9] at hP1
                replace hK1 := va_K.moved hvm.symm hK1
                have hPD := join3 hP hD rfl [1, 2] [0] rfl (by rfl) (by decide +kernel) (by decide +kernel) hk1 hFc hP1 hD1
                replace hK : va_K (dC, dI) classes [((rK9 25), .long), ((rK9 16), .int)] s := hK.app hK1
                clear hP1 hK1 hD1 hk1 hz1 hFc hKc hDc hPc hvm ht9 hP hS t9 locs H
                have hP : va_P (dC, dI) classes [ia (rA 16) (rK9 16) 155 sf, oc ra 8 [.int (nI T), .int (nI Ac), .ref (rA 2), .ref (rA 3), .ref (rA 4), .ref (rA 5), .ref (rA 6), .ref (rA 7), .ref (rA 8), .ref (rA 9), .ref (rA 10), .ref (rA 11), .ref (rA 12), .ref (rA 13), .int ir, .ref (rA 15), .ref (rA 16), .ref (rA 17), .ref (rA 18), .int (nI md), .int (nI wd), .ref (rA 21), .ref (rA 22), .ref (rA 23), .int (nI mn), .ref (rA 25), .int (nI (szB (((LQ ++ mpL (buB 2 sf nb) t1) ++ [((nI (ctB (inB sf t1 0) nb)).toInt64, 3)]) ++ mpL (blB sf t1 0) (i1 + 1)))), .int mr, .ref (rA 28), .ref (rA 29), .ref (rA 30), .ref (rA 31), .ref (rA 32), .ref (rA 33), .ref (rA 34), .ref (rA 35), .int (nI ld), .int (nI gm), .ref (rA 38), .ref (rA 39), .ref (rA 40), .ref (rA 41), .ref (rA 42), .ref (rA 43), .ref (rA 44), .ref (rA 45), .int (nI my), .ref (rA 47)], la (rA 25) (rK9 25) 5 ((wrB (((LQ ++ mpL (buB 2 sf nb) t1) ++ [((nI (ctB (inB sf t1 0) nb)).toInt64, 3)]) ++ mpL (blB sf t1 0) (i1 + 1))).1)] H1 := hPD.1
                replace hD : dd A [(rA 16), ra, (rA 25)] := dd_of hPD.2 rfl
                clear hPD
                revert H1 locs1
                intro H locs hS hP
                clear hw1 u
                refine tp_pc (pc' := 295) (by rfl) ?_
                refine lv_iinc (v := nI (i1 + 1)) (lv' := [(6, .int (nI (i1 + 1))), (5, .int (nI (ctB (inB sf t1 0) nb))), (4, .int 0), (3, .int 2), (2, .int 0), (1, .int (nI t1)), (0, .ref ra)]) hx hb d_Ref_encode_295 hl (k := 0) rfl (by exact nI_1 i1) (by decide) rfl ?_
                clear hl ls
                intro ls hl
                refine lv_goto (tgt := 235) hx hb d_Ref_encode_298 (by decide) ?_
                refine tp_pc (pc' := 235) (by rfl) ?_
                obtain ⟨hP8, -, -⟩ := cut3 (wc := [oc ra 8 [.int (nI T), .int (nI Ac), .ref (rA 2), .ref (rA 3), .ref (rA 4), .ref (rA 5), .ref (rA 6), .ref (rA 7), .ref (rA 8), .ref (rA 9), .ref (rA 10), .ref (rA 11), .ref (rA 12), .ref (rA 13), .int ir, .ref (rA 15), .ref (rA 16), .ref (rA 17), .ref (rA 18), .int (nI md), .int (nI wd), .ref (rA 21), .ref (rA 22), .ref (rA 23), .int (nI mn), .ref (rA 25), .int (nI (szB (((LQ ++ mpL (buB 2 sf nb) t1) ++ [((nI (ctB (inB sf t1 0) nb)).toInt64, 3)]) ++ mpL (blB sf t1 0) (i1 + 1)))), .int mr, .ref (rA 28), .ref (rA 29), .ref (rA 30), .ref (rA 31), .ref (rA 32), .ref (rA 33), .ref (rA 34), .ref (rA 35), .int (nI ld), .int (nI gm), .ref (rA 38), .ref (rA 39), .ref (rA 40), .ref (rA 41), .ref (rA 42), .ref (rA 43), .ref (rA 44), .ref (rA 45), .int (nI my), .ref (rA 47)], la (rA 25) (rK9 25) 5 ((wrB (((LQ ++ mpL (buB 2 sf nb) t1) ++ [((nI (ctB (inB sf t1 0) nb)).toInt64, 3)]) ++ mpL (blB sf t1 0) (i1 + 1))).1), ia (rA 16) (rK9 16) 155 sf]) hP hD rfl hS hA [1, 2, 0] (by decide +kernel) rfl
                exact ih_i1 _ _ _ ⟨hP8, hS, lv_sub hl [0, 1, 2, 3, 4, 5, 6] rfl⟩
              · skip
                rw [if_neg hcd]
                have hib : inB sf t1 0 i1 = false := by unfold inB; exact decide_eq_false hcd
                have hbl : blB sf t1 0 i1 = [] := by unfold blB; rw [if_neg (by rw [hib]; decide)]
                obtain ⟨hP8, hD8, -⟩ := cut3 (wc := [oc ra 8 [.int (nI T), .int (nI Ac), .ref (rA 2), .ref (rA 3), .ref (rA 4), .ref (rA 5), .ref (rA 6), .ref (rA 7), .ref (rA 8), .ref (rA 9), .ref (rA 10), .ref (rA 11), .ref (rA 12), .ref (rA 13), .int ir, .ref (rA 15), .ref (rA 16), .ref (rA 17), .ref (rA 18), .int (nI md), .int (nI wd), .ref (rA 21), .ref (rA 22), .ref (rA 23), .int (nI mn), .ref (rA 25), .int (nI (szB (((LQ ++ mpL (buB 2 sf nb) t1) ++ [((nI (ctB (inB sf t1 0) nb)).toInt64, 3)]) ++ mpL (blB sf t1 0) i1))), .int mr, .ref (rA 28), .ref (rA 29), .ref (rA 30), .ref (rA 31), .ref (rA 32), .ref (rA 33), .ref (rA 34), .ref (rA 35), .int (nI ld), .int (nI gm), .ref (rA 38), .ref (rA 39), .ref (rA 40), .ref (rA 41), .ref (rA 42), .ref (rA 43), .ref (rA 44), .ref (rA 45), .int (nI my), .ref (rA 47)], la (rA 25) (rK9 25) 5 ((wrB (((LQ ++ mpL (buB 2 sf nb) t1) ++ [((nI (ctB (inB sf t1 0) nb)).toInt64, 3)]) ++ mpL (blB sf t1 0) i1)).1), ia (rA 16) (rK9 16) 155 sf]) hP hD rfl hS hA [1, 0, 2] (by decide +kernel) rfl
                clear hP
                have hP : va_P (dC, dI) classes [oc ra 8 [.int (nI T), .int (nI Ac), .ref (rA 2), .ref (rA 3), .ref (rA 4), .ref (rA 5), .ref (rA 6), .ref (rA 7), .ref (rA 8), .ref (rA 9), .ref (rA 10), .ref (rA 11), .ref (rA 12), .ref (rA 13), .int ir, .ref (rA 15), .ref (rA 16), .ref (rA 17), .ref (rA 18), .int (nI md), .int (nI wd), .ref (rA 21), .ref (rA 22), .ref (rA 23), .int (nI mn), .ref (rA 25), .int (nI (szB (((LQ ++ mpL (buB 2 sf nb) t1) ++ [((nI (ctB (inB sf t1 0) nb)).toInt64, 3)]) ++ mpL (blB sf t1 0) i1))), .int mr, .ref (rA 28), .ref (rA 29), .ref (rA 30), .ref (rA 31), .ref (rA 32), .ref (rA 33), .ref (rA 34), .ref (rA 35), .int (nI ld), .int (nI gm), .ref (rA 38), .ref (rA 39), .ref (rA 40), .ref (rA 41), .ref (rA 42), .ref (rA 43), .ref (rA 44), .ref (rA 45), .int (nI my), .ref (rA 47)], la (rA 25) (rK9 25) 5 ((wrB (((LQ ++ mpL (buB 2 sf nb) t1) ++ [((nI (ctB (inB sf t1 0) nb)).toInt64, 3)]) ++ mpL (blB sf t1 0) i1)).1), ia (rA 16) (rK9 16) 155 sf] H := hP8
                clear hP8
                replace hD : dd A [ra, (rA 25), (rA 16)] := dd_of hD8 rfl
                clear hD8
                have e9 : (((LQ ++ mpL (buB 2 sf nb) t1) ++ [((nI (ctB (inB sf t1 0) nb)).toInt64, 3)]) ++ mpL (blB sf t1 0) (i1 + 1)) = (((LQ ++ mpL (buB 2 sf nb) t1) ++ [((nI (ctB (inB sf t1 0) nb)).toInt64, 3)]) ++ mpL (blB sf t1 0) i1) := by rw [mpL_s i1, hbl, List.append_nil]
                replace hP : va_P (dC, dI) classes [oc ra 8 [.int (nI T), .int (nI Ac), .ref (rA 2), .ref (rA 3), .ref (rA 4), .ref (rA 5), .ref (rA 6), .ref (rA 7), .ref (rA 8), .ref (rA 9), .ref (rA 10), .ref (rA 11), .ref (rA 12), .ref (rA 13), .int ir, .ref (rA 15), .ref (rA 16), .ref (rA 17), .ref (rA 18), .int (nI md), .int (nI wd), .ref (rA 21), .ref (rA 22), .ref (rA 23), .int (nI mn), .ref (rA 25), .int (nI (szB (((LQ ++ mpL (buB 2 sf nb) t1) ++ [((nI (ctB (inB sf t1 0) nb)).toInt64, 3)]) ++ mpL (blB sf t1 0) (i1 + 1)))), .int mr, .ref (rA 28), .ref (rA 29), .ref (rA 30), .ref (rA 31), .ref (rA 32), .ref (rA 33), .ref (rA 34), .ref (rA 35), .int (nI ld), .int (nI gm), .ref (rA 38), .ref (rA 39), .ref (rA 40), .ref (rA 41), .ref (rA 42), .ref (rA 43), .ref (rA 44), .ref (rA 45), .int (nI my), .ref (rA 47)], la (rA 25) (rK9 25) 5 ((wrB (((LQ ++ mpL (buB 2 sf nb) t1) ++ [((nI (ctB (inB sf t1 0) nb)).toInt64, 3)]) ++ mpL (blB sf t1 0) (i1 + 1))).1), ia (rA 16) (rK9 16) 155 sf] H := by rw [e9]; exact hP
                refine tp_pc (pc' := 256) (by rfl) ?_
                refine lv_if_eq (tgt := 295) hx hb d_Ref_encode_256 (by decide) (fun c_22 => ?_) (fun c_22 => absurd c_22 (by decide))
                refine tp_pc (pc' := 295) (by rfl) ?_
                refine lv_iinc (v := nI (i1 + 1)) (lv' := [(6, .int (nI (i1 + 1))), (5, .int (nI (ctB (inB sf t1 0) nb))), (4, .int 0), (3, .int 2), (2, .int 0), (1, .int (nI t1)), (0, .ref ra)]) hx hb d_Ref_encode_295 hl (k := 0) rfl (by exact nI_1 i1) (by decide) rfl ?_
                clear hl ls
                intro ls hl
                refine lv_goto (tgt := 235) hx hb d_Ref_encode_298 (by decide) ?_
                refine tp_pc (pc' := 235) (by rfl) ?_
                obtain ⟨hP8, -, -⟩ := cut3 (wc := [oc ra 8 [.int (nI T), .int (nI Ac), .ref (rA 2), .ref (rA 3), .ref (rA 4), .ref (rA 5), .ref (rA 6), .ref (rA 7), .ref (rA 8), .ref (rA 9), .ref (rA 10), .ref (rA 11), .ref (rA 12), .ref (rA 13), .int ir, .ref (rA 15), .ref (rA 16), .ref (rA 17), .ref (rA 18), .int (nI md), .int (nI wd), .ref (rA 21), .ref (rA 22), .ref (rA 23), .int (nI mn), .ref (rA 25), .int (nI (szB (((LQ ++ mpL (buB 2 sf nb) t1) ++ [((nI (ctB (inB sf t1 0) nb)).toInt64, 3)]) ++ mpL (blB sf t1 0) (i1 + 1)))), .int mr, .ref (rA 28), .ref (rA 29), .ref (rA 30), .ref (rA 31), .ref (rA 32), .ref (rA 33), .ref (rA 34), .ref (rA 35), .int (nI ld), .int (nI gm), .ref (rA 38), .ref (rA 39), .ref (rA 40), .ref (rA 41), .ref (rA 42), .ref (rA 43), .ref (rA 44), .ref (rA 45), .int (nI my), .ref (rA 47)], la (rA 25) (rK9 25) 5 ((wrB (((LQ ++ mpL (buB 2 sf nb) t1) ++ [((nI (ctB (inB sf t1 0) nb)).toInt64, 3)]) ++ mpL (blB sf t1 0) (i1 + 1))).1), ia (rA 16) (rK9 16) 155 sf]) hP hD rfl hS hA [0, 1, 2] (by decide +kernel) rfl
                exact ih_i1 _ _ _ ⟨hP8, hS, lv_sub hl [0, 1, 2, 3, 4, 5, 6] rfl⟩
            · intro H locs ls hI
              obtain ⟨hP, hS, hl⟩ := hI
              refine lv_iload hx hb d_Ref_encode_235 (lv_at hl 0 rfl) ?_
              refine lv_aload_n hx hb d_Ref_encode_237 rfl (lv_at hl 6 rfl) ?_
              refine va_get (D := (dC, dI)) (ci := 8) (v := .ref (rA 16)) (C := R_Ref) (T := F_Ref) (N := 48) hx hb hw i_Ref hown hK hP 0 rfl rfl 16 (by decide) (hw _ m_915) (fun _ h9 => h9) rfl d_Ref_encode_238 ?_
              refine lv_bipush (v := 15) hx hb d_Ref_encode_241 (by decide) ?_
              refine va_iald (D := (dC, dI)) hx hb hK hP 2 1 rfl rfl (i := 15) (pk_in 15 155 (by omega)) d_Ref_encode_243 ?_
              refine tp_i (y := sf 15) (by rw [show (15 : Int32).toNatClampNeg = 15 from pk_cl 15]) ?_
              refine tp_i (y := nI nb) hnb ?_
              refine lv_icmp_ge (tgt := 301) hx hb d_Ref_encode_244 (by decide) (fun c9 => ?_) (fun c9 => absurd (nI_le (Nat.le_refl nb) (by omega)) c9)
              refine tp_pc (pc' := 301) (by rfl) ?_
              have e9 : ((LQ ++ mpL (buB 2 sf nb) t1) ++ bkB sf nb t1 0) = (((LQ ++ mpL (buB 2 sf nb) t1) ++ [((nI (ctB (inB sf t1 0) nb)).toInt64, 3)]) ++ mpL (blB sf t1 0) nb) := by unfold bkB; simp only [List.append_assoc, List.cons_append, List.nil_append]
              replace hP : va_P (dC, dI) classes [oc ra 8 [.int (nI T), .int (nI Ac), .ref (rA 2), .ref (rA 3), .ref (rA 4), .ref (rA 5), .ref (rA 6), .ref (rA 7), .ref (rA 8), .ref (rA 9), .ref (rA 10), .ref (rA 11), .ref (rA 12), .ref (rA 13), .int ir, .ref (rA 15), .ref (rA 16), .ref (rA 17), .ref (rA 18), .int (nI md), .int (nI wd), .ref (rA 21), .ref (rA 22), .ref (rA 23), .int (nI mn), .ref (rA 25), .int (nI (szB ((LQ ++ mpL (buB 2 sf nb) t1) ++ bkB sf nb t1 0))), .int mr, .ref (rA 28), .ref (rA 29), .ref (rA 30), .ref (rA 31), .ref (rA 32), .ref (rA 33), .ref (rA 34), .ref (rA 35), .int (nI ld), .int (nI gm), .ref (rA 38), .ref (rA 39), .ref (rA 40), .ref (rA 41), .ref (rA 42), .ref (rA 43), .ref (rA 44), .ref (rA 45), .int (nI my), .ref (rA 47)], la (rA 25) (rK9 25) 5 ((wrB ((LQ ++ mpL (buB 2 sf nb) t1) ++ bkB sf nb t1 0)).1), ia (rA 16) (rK9 16) 155 sf] H := by rw [e9]; exact hP
              refine lv_iinc (v := 1) (lv' := [(4, .int 1), (6, .int (nI nb)), (5, .int (nI (ctB (inB sf t1 0) nb))), (3, .int 2), (2, .int 0), (1, .int (nI t1)), (0, .ref ra)]) hx hb d_Ref_encode_301 hl (k := 2) rfl (by first | rfl | decide) (by decide) rfl ?_
              clear hl ls
              intro ls hl
              refine lv_goto (tgt := 172) hx hb d_Ref_encode_304 (by decide) ?_
              refine tp_pc (pc' := 172) (by rfl) ?_
              refine lv_iload hx hb d_Ref_encode_172 (lv_at hl 0 rfl) ?_
              refine lv_iload_n hx hb d_Ref_encode_174 rfl (lv_at hl 3 rfl) ?_
              refine lv_icmp_gt (tgt := 307) hx hb d_Ref_encode_175 (by decide) (fun c_23 => absurd c_23 (by decide)) (fun c_23 => ?_)
              refine tp_pc (pc' := 178) (by rfl) ?_
              refine lv_iconst (v := 0) hx hb d_Ref_encode_178 (by decide) ?_
              refine lv_istore (lv' := [(5, .int 0), (4, .int 1), (6, .int (nI nb)), (3, .int 2), (2, .int 0), (1, .int (nI t1)), (0, .ref ra)]) hx hb d_Ref_encode_179 hl (by decide) rfl ?_
              clear hl ls
              intro ls hl
              refine lv_iconst (v := 0) hx hb d_Ref_encode_181 (by decide) ?_
              refine lv_istore (lv' := [(6, .int 0), (5, .int 0), (4, .int 1), (3, .int 2), (2, .int 0), (1, .int (nI t1)), (0, .ref ra)]) hx hb d_Ref_encode_182 hl (by decide) rfl ?_
              clear hl ls
              intro ls hl
              replace hP : va_P (dC, dI) classes [oc ra 8 [.int (nI T), .int (nI Ac), .ref (rA 2), .ref (rA 3), .ref (rA 4), .ref (rA 5), .ref (rA 6), .ref (rA 7), .ref (rA 8), .ref (rA 9), .ref (rA 10), .ref (rA 11), .ref (rA 12), .ref (rA 13), .int ir, .ref (rA 15), .ref (rA 16), .ref (rA 17), .ref (rA 18), .int (nI md), .int (nI wd), .ref (rA 21), .ref (rA 22), .ref (rA 23), .int (nI mn), .ref (rA 25), .int (nI (szB ((LQ ++ mpL (buB 2 sf nb) t1) ++ bkB sf nb t1 0))), .int mr, .ref (rA 28), .ref (rA 29), .ref (rA 30), .ref (rA 31), .ref (rA 32), .ref (rA 33), .ref (rA 34), .ref (rA 35), .int (nI ld), .int (nI gm), .ref (rA 38), .ref (rA 39), .ref (rA 40), .ref (rA 41), .ref (rA 42), .ref (rA 43), .ref (rA 44), .ref (rA 45), .int (nI my), .ref (rA 47)], la (rA 25) (rK9 25) 5 ((wrB ((LQ ++ mpL (buB 2 sf nb) t1) ++ bkB sf nb t1 0)).1), ia (rA 16) (rK9 16) 155 sf] H := hP
              replace hl : lv_has ls 7 [(6, .int (nI 0)), (5, .int (nI (ctB (inB sf t1 1) 0))), (4, .int 1), (3, .int 2), (2, .int 0), (1, .int (nI t1)), (0, .ref ra)] := hl
              refine lp_n nb (fun i1 H locs ls => va_P (dC, dI) classes [oc ra 8 [.int (nI T), .int (nI Ac), .ref (rA 2), .ref (rA 3), .ref (rA 4), .ref (rA 5), .ref (rA 6), .ref (rA 7), .ref (rA 8), .ref (rA 9), .ref (rA 10), .ref (rA 11), .ref (rA 12), .ref (rA 13), .int ir, .ref (rA 15), .ref (rA 16), .ref (rA 17), .ref (rA 18), .int (nI md), .int (nI wd), .ref (rA 21), .ref (rA 22), .ref (rA 23), .int (nI mn), .ref (rA 25), .int (nI (szB ((LQ ++ mpL (buB 2 sf nb) t1) ++ bkB sf nb t1 0))), .int mr, .ref (rA 28), .ref (rA 29), .ref (rA 30), .ref (rA 31), .ref (rA 32), .ref (rA 33), .ref (rA 34), .ref (rA 35), .int (nI ld), .int (nI gm), .ref (rA 38), .ref (rA 39), .ref (rA 40), .ref (rA 41), .ref (rA 42), .ref (rA 43), .ref (rA 44), .ref (rA 45), .int (nI my), .ref (rA 47)], la (rA 25) (rK9 25) 5 ((wrB ((LQ ++ mpL (buB 2 sf nb) t1) ++ bkB sf nb t1 0)).1), ia (rA 16) (rK9 16) 155 sf] H ∧ va_S A s.heap H locs ∧ lv_has ls 7 [(6, .int (nI i1)), (5, .int (nI (ctB (inB sf t1 1) i1))), (4, .int 1), (3, .int 2), (2, .int 0), (1, .int (nI t1)), (0, .ref ra)]) ⟨hP, hS, hl⟩ ?_ ?_
              · intro i1 H locs ls hi1 hI ih_i1
                obtain ⟨hP, hS, hl⟩ := hI
                have ml := ctB_le (p := inB sf t1 1) i1
                refine lv_iload hx hb d_Ref_encode_184 (lv_at hl 0 rfl) ?_
                refine lv_aload_n hx hb d_Ref_encode_186 rfl (lv_at hl 6 rfl) ?_
                refine va_get (D := (dC, dI)) (ci := 8) (v := .ref (rA 16)) (C := R_Ref) (T := F_Ref) (N := 48) hx hb hw i_Ref hown hK hP 0 rfl rfl 16 (by decide) (hw _ m_915) (fun _ h9 => h9) rfl d_Ref_encode_187 ?_
                refine lv_bipush (v := 15) hx hb d_Ref_encode_190 (by decide) ?_
                refine va_iald (D := (dC, dI)) hx hb hK hP 2 1 rfl rfl (i := 15) (pk_in 15 155 (by omega)) d_Ref_encode_192 ?_
                refine tp_i (y := sf 15) (by rw [show (15 : Int32).toNatClampNeg = 15 from pk_cl 15]) ?_
                refine tp_i (y := nI nb) hnb ?_
                refine lv_icmp_ge (tgt := 224) hx hb d_Ref_encode_193 (by decide) (fun c9 => absurd c9 (nI_ge hi1 (by omega))) (fun c9 => ?_)
                refine tp_pc (pc' := 196) (by rfl) ?_
                refine lv_iload hx hb d_Ref_encode_196 (lv_at hl 1 rfl) ?_
                refine lv_aload_n hx hb d_Ref_encode_198 rfl (lv_at hl 6 rfl) ?_
                refine lv_iload hx hb d_Ref_encode_199 (lv_at hl 0 rfl) ?_
                refine lv_iload_n hx hb d_Ref_encode_201 rfl (lv_at hl 5 rfl) ?_
                refine lv_iload hx hb d_Ref_encode_202 (lv_at hl 2 rfl) ?_
                obtain ⟨hPc, hDc, hFc⟩ := cut3 (wc := [oc ra 8 [.int (nI T), .int (nI Ac), .ref (rA 2), .ref (rA 3), .ref (rA 4), .ref (rA 5), .ref (rA 6), .ref (rA 7), .ref (rA 8), .ref (rA 9), .ref (rA 10), .ref (rA 11), .ref (rA 12), .ref (rA 13), .int ir, .ref (rA 15), .ref (rA 16), .ref (rA 17), .ref (rA 18), .int (nI md), .int (nI wd), .ref (rA 21), .ref (rA 22), .ref (rA 23), .int (nI mn), .ref (rA 25), .int (nI (szB ((LQ ++ mpL (buB 2 sf nb) t1) ++ bkB sf nb t1 0))), .int mr, .ref (rA 28), .ref (rA 29), .ref (rA 30), .ref (rA 31), .ref (rA 32), .ref (rA 33), .ref (rA 34), .ref (rA 35), .int (nI ld), .int (nI gm), .ref (rA 38), .ref (rA 39), .ref (rA 40), .ref (rA 41), .ref (rA 42), .ref (rA 43), .ref (rA 44), .ref (rA 45), .int (nI my), .ref (rA 47)], ia (rA 16) (rK9 16) 155 sf]) hP hD rfl hS hA [0, 2] (by decide +kernel) rfl
                have hKc := hK.sub (tys' := [((rK9 16), .int)]) [1] rfl
                refine va_calli (va_runV (As := [.int (nI i1), .int (nI t1), .int 1]) (rest := [.int (nI (ctB (inB sf t1 1) i1))]) ⟨hx, hb, hml, hown, hw⟩ (gen_Ref_isIn l dC dI ra rA rK9 T Ac md wd mn (szB ((LQ ++ mpL (buB 2 sf nb) t1) ++ bkB sf nb t1 0)) ld gm my ir mr i1 t1 1 sf (by omega) H.size) (cw_V 3 hw g_Ref_isIn rfl rfl rfl (hw _ m_109) (hw _ m_1105) (hw _ m_1107) (hw _ m_61) (by decide +kernel) ⟨Nat.le_of_ble_eq_true rfl, Nat.le_of_ble_eq_true rfl⟩) ⟨fun a U g mk q => by obtain ⟨q0, q1, qP, qK, qD, qN⟩ := q; exact ⟨q0, q1, qP, va_K.moved (u := U) (U := U.calling g mk a) (Vm.Alike.refl U.vm) qK, qD, nw_call qN⟩, va_recv hKc hPc (ci := 8) (q0 := 0) rfl rfl, fun U hU hW => ⟨rfl, by rw [hU], by rw [hU]; exact hPc, va_K.moved hW.alike hKc, hDc.weaken (fun _ _ _ _ => trivial), nw_warm hW hn⟩⟩ rfl rfl hl.1 rfl (lv_room (Nat.le_of_ble_eq_true rfl)) d_Ref_encode_204 ⟨Nat.le_of_ble_eq_true rfl, Nat.le_of_ble_eq_true rfl⟩) hS (fun q _ h => hFc q h) hFc ?_
                intro r_24 u t9 H1 locs1 ht9 hvm hw1 hB hz1 hk1 hS1
                obtain ⟨hP1, hK1, hD1⟩ := hB
                rw [ht9] at hP1
                replace hK1 := va_K.moved hvm.symm hK1
                have hPD := join3 hP hD rfl [0, 2] [1] rfl (by rfl) (by decide +kernel) (by decide +kernel) hk1 hFc hP1 hD1
                replace hK : va_K (dC, dI) classes [((rK9 25), .long), ((rK9 16), .int)] s := hK.app hK1
                clear hP1 hK1 hD1 hk1 hz1 hFc hKc hDc hPc hvm ht9 hP hS t9 locs H
                have hP : va_P (dC, dI) classes [la (rA 25) (rK9 25) 5 ((wrB ((LQ ++ mpL (buB 2 sf nb) t1) ++ bkB sf nb t1 0)).1), oc ra 8 [.int (nI T), .int (nI Ac), .ref (rA 2), .ref (rA 3), .ref (rA 4), .ref (rA 5), .ref (rA 6), .ref (rA 7), .ref (rA 8), .ref (rA 9), .ref (rA 10), .ref (rA 11), .ref (rA 12), .ref (rA 13), .int ir, .ref (rA 15), .ref (rA 16), .ref (rA 17), .ref (rA 18), .int (nI md), .int (nI wd), .ref (rA 21), .ref (rA 22), .ref (rA 23), .int (nI mn), .ref (rA 25), .int (nI (szB ((LQ ++ mpL (buB 2 sf nb) t1) ++ bkB sf nb t1 0))), .int mr, .ref (rA 28), .ref (rA 29), .ref (rA 30), .ref (rA 31), .ref (rA 32), .ref (rA 33), .ref (rA 34), .ref (rA 35), .int (nI ld), .int (nI gm), .ref (rA 38), .ref (rA 39), .ref (rA 40), .ref (rA 41), .ref (rA 42), .ref (rA 43), .ref (rA 44), .ref (rA 45), .int (nI my), .ref (rA 47)], ia (rA 16) (rK9 16) 155 sf] H1 := hPD.1
                replace hD : dd A [(rA 25), ra, (rA 16)] := dd_of hPD.2 rfl
                clear hPD
                revert H1 locs1
                intro H locs hS hP
                refine tp_i (y := (if sf (16 + i1) = nI t1 ∧ ((1 : Int32) < 0 ∨ sf (23 + i1) = 1) then 1 else 0)) (hw1) ?_
                clear hw1 r_24 u
                by_cases hcd : sf (16 + i1) = nI t1 ∧ ((1 : Int32) < 0 ∨ sf (23 + i1) = 1)
                · skip
                  rw [if_pos hcd]
                  have hib : inB sf t1 1 i1 = true := by unfold inB; exact decide_eq_true hcd
                  refine tp_pc (pc' := 207) (by rfl) ?_
                  refine lv_if_eq (tgt := 214) hx hb d_Ref_encode_207 (by decide) (fun c_25 => absurd c_25 (by decide)) (fun c_25 => ?_)
                  refine tp_pc (pc' := 210) (by rfl) ?_
                  refine lv_iconst (v := 1) hx hb d_Ref_encode_210 (by decide) ?_
                  refine lv_goto (tgt := 215) hx hb d_Ref_encode_211 (by decide) ?_
                  refine tp_pc (pc' := 215) (by rfl) ?_
                  refine lv_iadd hx hb d_Ref_encode_215 ?_
                  refine tp_i (y := nI (ctB (inB sf t1 1) i1 + 1)) (by exact nI_add (ctB (inB sf t1 1) i1) 1) ?_
                  refine tp_i (y := nI (ctB (inB sf t1 1) (i1 + 1))) (by rw [ctB, hib]; rfl) ?_
                  refine lv_istore (lv' := [(5, .int (nI (ctB (inB sf t1 1) (i1 + 1)))), (6, .int (nI i1)), (4, .int 1), (3, .int 2), (2, .int 0), (1, .int (nI t1)), (0, .ref ra)]) hx hb d_Ref_encode_216 hl (by decide) rfl ?_
                  clear hl ls
                  intro ls hl
                  refine lv_iinc (v := nI (i1 + 1)) (lv' := [(6, .int (nI (i1 + 1))), (5, .int (nI (ctB (inB sf t1 1) (i1 + 1)))), (4, .int 1), (3, .int 2), (2, .int 0), (1, .int (nI t1)), (0, .ref ra)]) hx hb d_Ref_encode_218 hl (k := 1) rfl (by exact nI_1 i1) (by decide) rfl ?_
                  clear hl ls
                  intro ls hl
                  refine lv_goto (tgt := 184) hx hb d_Ref_encode_221 (by decide) ?_
                  refine tp_pc (pc' := 184) (by rfl) ?_
                  obtain ⟨hP8, -, -⟩ := cut3 (wc := [oc ra 8 [.int (nI T), .int (nI Ac), .ref (rA 2), .ref (rA 3), .ref (rA 4), .ref (rA 5), .ref (rA 6), .ref (rA 7), .ref (rA 8), .ref (rA 9), .ref (rA 10), .ref (rA 11), .ref (rA 12), .ref (rA 13), .int ir, .ref (rA 15), .ref (rA 16), .ref (rA 17), .ref (rA 18), .int (nI md), .int (nI wd), .ref (rA 21), .ref (rA 22), .ref (rA 23), .int (nI mn), .ref (rA 25), .int (nI (szB ((LQ ++ mpL (buB 2 sf nb) t1) ++ bkB sf nb t1 0))), .int mr, .ref (rA 28), .ref (rA 29), .ref (rA 30), .ref (rA 31), .ref (rA 32), .ref (rA 33), .ref (rA 34), .ref (rA 35), .int (nI ld), .int (nI gm), .ref (rA 38), .ref (rA 39), .ref (rA 40), .ref (rA 41), .ref (rA 42), .ref (rA 43), .ref (rA 44), .ref (rA 45), .int (nI my), .ref (rA 47)], la (rA 25) (rK9 25) 5 ((wrB ((LQ ++ mpL (buB 2 sf nb) t1) ++ bkB sf nb t1 0)).1), ia (rA 16) (rK9 16) 155 sf]) hP hD rfl hS hA [1, 0, 2] (by decide +kernel) rfl
                  exact ih_i1 _ _ _ ⟨hP8, hS, lv_sub hl [0, 1, 2, 3, 4, 5, 6] rfl⟩
                · skip
                  rw [if_neg hcd]
                  have hib : inB sf t1 1 i1 = false := by unfold inB; exact decide_eq_false hcd
                  refine tp_pc (pc' := 207) (by rfl) ?_
                  refine lv_if_eq (tgt := 214) hx hb d_Ref_encode_207 (by decide) (fun c_26 => ?_) (fun c_26 => absurd c_26 (by decide))
                  refine tp_pc (pc' := 214) (by rfl) ?_
                  refine lv_iconst (v := 0) hx hb d_Ref_encode_214 (by decide) ?_
                  refine lv_iadd hx hb d_Ref_encode_215 ?_
                  refine tp_i (y := nI (ctB (inB sf t1 1) i1 + 0)) (by exact nI_add (ctB (inB sf t1 1) i1) 0) ?_
                  refine tp_i (y := nI (ctB (inB sf t1 1) (i1 + 1))) (by rw [ctB, hib]; rfl) ?_
                  refine lv_istore (lv' := [(5, .int (nI (ctB (inB sf t1 1) (i1 + 1)))), (6, .int (nI i1)), (4, .int 1), (3, .int 2), (2, .int 0), (1, .int (nI t1)), (0, .ref ra)]) hx hb d_Ref_encode_216 hl (by decide) rfl ?_
                  clear hl ls
                  intro ls hl
                  refine lv_iinc (v := nI (i1 + 1)) (lv' := [(6, .int (nI (i1 + 1))), (5, .int (nI (ctB (inB sf t1 1) (i1 + 1)))), (4, .int 1), (3, .int 2), (2, .int 0), (1, .int (nI t1)), (0, .ref ra)]) hx hb d_Ref_encode_218 hl (k := 1) rfl (by exact nI_1 i1) (by decide) rfl ?_
                  clear hl ls
                  intro ls hl
                  refine lv_goto (tgt := 184) hx hb d_Ref_encode_221 (by decide) ?_
                  refine tp_pc (pc' := 184) (by rfl) ?_
                  obtain ⟨hP8, -, -⟩ := cut3 (wc := [oc ra 8 [.int (nI T), .int (nI Ac), .ref (rA 2), .ref (rA 3), .ref (rA 4), .ref (rA 5), .ref (rA 6), .ref (rA 7), .ref (rA 8), .ref (rA 9), .ref (rA 10), .ref (rA 11), .ref (rA 12), .ref (rA 13), .int ir, .ref (rA 15), .ref (rA 16), .ref (rA 17), .ref (rA 18), .int (nI md), .int (nI wd), .ref (rA 21), .ref (rA 22), .ref (rA 23), .int (nI mn), .ref (rA 25), .int (nI (szB ((LQ ++ mpL (buB 2 sf nb) t1) ++ bkB sf nb t1 0))), .int mr, .ref (rA 28), .ref (rA 29), .ref (rA 30), .ref (rA 31), .ref (rA 32), .ref (rA 33), .ref (rA 34), .ref (rA 35), .int (nI ld), .int (nI gm), .ref (rA 38), .ref (rA 39), .ref (rA 40), .ref (rA 41), .ref (rA 42), .ref (rA 43), .ref (rA 44), .ref (rA 45), .int (nI my), .ref (rA 47)], la (rA 25) (rK9 25) 5 ((wrB ((LQ ++ mpL (buB 2 sf nb) t1) ++ bkB sf nb t1 0)).1), ia (rA 16) (rK9 16) 155 sf]) hP hD rfl hS hA [1, 0, 2] (by decide +kernel) rfl
                  exact ih_i1 _ _ _ ⟨hP8, hS, lv_sub hl [0, 1, 2, 3, 4, 5, 6] rfl⟩
              · intro H locs ls hI
                obtain ⟨hP, hS, hl⟩ := hI
                have ml := ctB_le (p := inB sf t1 1) nb
                refine lv_iload hx hb d_Ref_encode_184 (lv_at hl 0 rfl) ?_
                refine lv_aload_n hx hb d_Ref_encode_186 rfl (lv_at hl 6 rfl) ?_
                refine va_get (D := (dC, dI)) (ci := 8) (v := .ref (rA 16)) (C := R_Ref) (T := F_Ref) (N := 48) hx hb hw i_Ref hown hK hP 0 rfl rfl 16 (by decide) (hw _ m_915) (fun _ h9 => h9) rfl d_Ref_encode_187 ?_
                refine lv_bipush (v := 15) hx hb d_Ref_encode_190 (by decide) ?_
                refine va_iald (D := (dC, dI)) hx hb hK hP 2 1 rfl rfl (i := 15) (pk_in 15 155 (by omega)) d_Ref_encode_192 ?_
                refine tp_i (y := sf 15) (by rw [show (15 : Int32).toNatClampNeg = 15 from pk_cl 15]) ?_
                refine tp_i (y := nI nb) hnb ?_
                refine lv_icmp_ge (tgt := 224) hx hb d_Ref_encode_193 (by decide) (fun c9 => ?_) (fun c9 => absurd (nI_le (Nat.le_refl nb) (by omega)) c9)
                have g3_1 : szB (bkB sf nb t1 1) = 3 + szB (mpL (blB sf t1 1) nb) := rfl
                refine tp_pc (pc' := 224) (by rfl) ?_
                refine lv_aload_n hx hb d_Ref_encode_224 rfl (lv_at hl 6 rfl) ?_
                refine lv_iload hx hb d_Ref_encode_225 (lv_at hl 1 rfl) ?_
                refine lv_i2l (v := (nI (ctB (inB sf t1 1) nb)).toInt64) hx hb d_Ref_encode_227 rfl ?_
                refine lv_iconst (v := 3) hx hb d_Ref_encode_228 (by decide) ?_
                refine tp_i (y := nI 3) rfl ?_
                obtain ⟨hPc, hDc, hFc⟩ := cut3 (wc := [oc ra 8 [.int (nI T), .int (nI Ac), .ref (rA 2), .ref (rA 3), .ref (rA 4), .ref (rA 5), .ref (rA 6), .ref (rA 7), .ref (rA 8), .ref (rA 9), .ref (rA 10), .ref (rA 11), .ref (rA 12), .ref (rA 13), .int ir, .ref (rA 15), .ref (rA 16), .ref (rA 17), .ref (rA 18), .int (nI md), .int (nI wd), .ref (rA 21), .ref (rA 22), .ref (rA 23), .int (nI mn), .ref (rA 25), .int (nI (szB ((LQ ++ mpL (buB 2 sf nb) t1) ++ bkB sf nb t1 0))), .int mr, .ref (rA 28), .ref (rA 29), .ref (rA 30), .ref (rA 31), .ref (rA 32), .ref (rA 33), .ref (rA 34), .ref (rA 35), .int (nI ld), .int (nI gm), .ref (rA 38), .ref (rA 39), .ref (rA 40), .ref (rA 41), .ref (rA 42), .ref (rA 43), .ref (rA 44), .ref (rA 45), .int (nI my), .ref (rA 47)], la (rA 25) (rK9 25) 5 ((wrB ((LQ ++ mpL (buB 2 sf nb) t1) ++ bkB sf nb t1 0)).1)]) hP hD rfl hS hA [0, 1] (by decide +kernel) rfl
                have hKc := hK.sub (tys' := [((rK9 25), .long)]) [0] rfl
                refine va_callv (va_runV (As := [.long ((nI (ctB (inB sf t1 1) nb)).toInt64), .int (nI 3)]) (rest := []) ⟨hx, hb, hml, hown, hw⟩ (gen_Ref_bitsL l dC dI ra rA rK9 T Ac md wd mn (szB ((LQ ++ mpL (buB 2 sf nb) t1) ++ bkB sf nb t1 0)) ld gm my ir mr ((nI (ctB (inB sf t1 1) nb)).toInt64) 3 ((LQ ++ mpL (buB 2 sf nb) t1) ++ bkB sf nb t1 0) (((LQ ++ mpL (buB 2 sf nb) t1) ++ bkB sf nb t1 0) ++ [((nI (ctB (inB sf t1 1) nb)).toInt64, 3)]) (rfl) rfl (by decide) (by decide) (by simp only [szB_app, szB_1];  omega) H.size) (cw_V 2 hw g_Ref_bits rfl rfl rfl (hw _ m_109) (hw _ m_1093) (hw _ m_1095) (hw _ m_58) (by decide +kernel) ⟨Nat.le_of_ble_eq_true rfl, Nat.le_of_ble_eq_true rfl⟩) ⟨fun a U g mk q => by obtain ⟨q0, q1, qP, qK, qD, qN⟩ := q; exact ⟨q0, q1, qP, va_K.moved (u := U) (U := U.calling g mk a) (Vm.Alike.refl U.vm) qK, qD, nw_call qN⟩, va_recv hKc hPc (ci := 8) (q0 := 0) rfl rfl, fun U hU hW => ⟨rfl, by rw [hU], by rw [hU]; exact hPc, va_K.moved hW.alike hKc, hDc.weaken (fun _ _ _ _ => trivial), nw_warm hW hn⟩⟩ rfl rfl hl.1 rfl (lv_room (Nat.le_of_ble_eq_true rfl)) d_Ref_encode_229 ⟨Nat.le_of_ble_eq_true rfl, Nat.le_of_ble_eq_true rfl⟩) hS (fun q _ h => hFc q h) hFc ?_
                intro u t9 H1 locs1 ht9 hvm hw1 hB hz1 hk1 hS1
                obtain ⟨hP1, hK1, hD1⟩ := hB
                rw [ht9] at hP1
                replace hK1 := va_K.moved hvm.symm hK1
                have hPD := join3 hP hD rfl [0, 1] [2] rfl (by rfl) (by decide +kernel) (by decide +kernel) hk1 hFc hP1 hD1
                replace hK : va_K (dC, dI) classes [((rK9 25), .long), ((rK9 16), .int)] s := hK.app hK1
                clear hP1 hK1 hD1 hk1 hz1 hFc hKc hDc hPc hvm ht9 hP hS t9 locs H
                have hP : va_P (dC, dI) classes [ia (rA 16) (rK9 16) 155 sf, oc ra 8 [.int (nI T), .int (nI Ac), .ref (rA 2), .ref (rA 3), .ref (rA 4), .ref (rA 5), .ref (rA 6), .ref (rA 7), .ref (rA 8), .ref (rA 9), .ref (rA 10), .ref (rA 11), .ref (rA 12), .ref (rA 13), .int ir, .ref (rA 15), .ref (rA 16), .ref (rA 17), .ref (rA 18), .int (nI md), .int (nI wd), .ref (rA 21), .ref (rA 22), .ref (rA 23), .int (nI mn), .ref (rA 25), .int (nI (szB (((LQ ++ mpL (buB 2 sf nb) t1) ++ bkB sf nb t1 0) ++ [((nI (ctB (inB sf t1 1) nb)).toInt64, 3)]))), .int mr, .ref (rA 28), .ref (rA 29), .ref (rA 30), .ref (rA 31), .ref (rA 32), .ref (rA 33), .ref (rA 34), .ref (rA 35), .int (nI ld), .int (nI gm), .ref (rA 38), .ref (rA 39), .ref (rA 40), .ref (rA 41), .ref (rA 42), .ref (rA 43), .ref (rA 44), .ref (rA 45), .int (nI my), .ref (rA 47)], la (rA 25) (rK9 25) 5 ((wrB (((LQ ++ mpL (buB 2 sf nb) t1) ++ bkB sf nb t1 0) ++ [((nI (ctB (inB sf t1 1) nb)).toInt64, 3)])).1)] H1 := hPD.1
                replace hD : dd A [(rA 16), ra, (rA 25)] := dd_of hPD.2 rfl
                clear hPD
                revert H1 locs1
                intro H locs hS hP
                clear hw1 u
                refine tp_pc (pc' := 232) (by rfl) ?_
                refine lv_iconst (v := 0) hx hb d_Ref_encode_232 (by decide) ?_
                refine lv_istore (lv' := [(6, .int 0), (5, .int (nI (ctB (inB sf t1 1) nb))), (4, .int 1), (3, .int 2), (2, .int 0), (1, .int (nI t1)), (0, .ref ra)]) hx hb d_Ref_encode_233 hl (by decide) rfl ?_
                clear hl ls
                intro ls hl
                obtain ⟨hP8, hD8, -⟩ := cut3 (wc := [oc ra 8 [.int (nI T), .int (nI Ac), .ref (rA 2), .ref (rA 3), .ref (rA 4), .ref (rA 5), .ref (rA 6), .ref (rA 7), .ref (rA 8), .ref (rA 9), .ref (rA 10), .ref (rA 11), .ref (rA 12), .ref (rA 13), .int ir, .ref (rA 15), .ref (rA 16), .ref (rA 17), .ref (rA 18), .int (nI md), .int (nI wd), .ref (rA 21), .ref (rA 22), .ref (rA 23), .int (nI mn), .ref (rA 25), .int (nI (szB (((LQ ++ mpL (buB 2 sf nb) t1) ++ bkB sf nb t1 0) ++ [((nI (ctB (inB sf t1 1) nb)).toInt64, 3)]))), .int mr, .ref (rA 28), .ref (rA 29), .ref (rA 30), .ref (rA 31), .ref (rA 32), .ref (rA 33), .ref (rA 34), .ref (rA 35), .int (nI ld), .int (nI gm), .ref (rA 38), .ref (rA 39), .ref (rA 40), .ref (rA 41), .ref (rA 42), .ref (rA 43), .ref (rA 44), .ref (rA 45), .int (nI my), .ref (rA 47)], la (rA 25) (rK9 25) 5 ((wrB (((LQ ++ mpL (buB 2 sf nb) t1) ++ bkB sf nb t1 0) ++ [((nI (ctB (inB sf t1 1) nb)).toInt64, 3)])).1), ia (rA 16) (rK9 16) 155 sf]) hP hD rfl hS hA [1, 2, 0] (by decide +kernel) rfl
                clear hP
                have hP : va_P (dC, dI) classes [oc ra 8 [.int (nI T), .int (nI Ac), .ref (rA 2), .ref (rA 3), .ref (rA 4), .ref (rA 5), .ref (rA 6), .ref (rA 7), .ref (rA 8), .ref (rA 9), .ref (rA 10), .ref (rA 11), .ref (rA 12), .ref (rA 13), .int ir, .ref (rA 15), .ref (rA 16), .ref (rA 17), .ref (rA 18), .int (nI md), .int (nI wd), .ref (rA 21), .ref (rA 22), .ref (rA 23), .int (nI mn), .ref (rA 25), .int (nI (szB (((LQ ++ mpL (buB 2 sf nb) t1) ++ bkB sf nb t1 0) ++ [((nI (ctB (inB sf t1 1) nb)).toInt64, 3)]))), .int mr, .ref (rA 28), .ref (rA 29), .ref (rA 30), .ref (rA 31), .ref (rA 32), .ref (rA 33), .ref (rA 34), .ref (rA 35), .int (nI ld), .int (nI gm), .ref (rA 38), .ref (rA 39), .ref (rA 40), .ref (rA 41), .ref (rA 42), .ref (rA 43), .ref (rA 44), .ref (rA 45), .int (nI my), .ref (rA 47)], la (rA 25) (rK9 25) 5 ((wrB (((LQ ++ mpL (buB 2 sf nb) t1) ++ bkB sf nb t1 0) ++ [((nI (ctB (inB sf t1 1) nb)).toInt64, 3)])).1), ia (rA 16) (rK9 16) 155 sf] H := hP8
                clear hP8
                replace hD : dd A [ra, (rA 25), (rA 16)] := dd_of hD8 rfl
                clear hD8
                replace hP : va_P (dC, dI) classes [oc ra 8 [.int (nI T), .int (nI Ac), .ref (rA 2), .ref (rA 3), .ref (rA 4), .ref (rA 5), .ref (rA 6), .ref (rA 7), .ref (rA 8), .ref (rA 9), .ref (rA 10), .ref (rA 11), .ref (rA 12), .ref (rA 13), .int ir, .ref (rA 15), .ref (rA 16), .ref (rA 17), .ref (rA 18), .int (nI md), .int (nI wd), .ref (rA 21), .ref (rA 22), .ref (rA 23), .int (nI mn), .ref (rA 25), .int (nI (szB ((((LQ ++ mpL (buB 2 sf nb) t1) ++ bkB sf nb t1 0) ++ [((nI (ctB (inB sf t1 1) nb)).toInt64, 3)]) ++ mpL (blB sf t1 1) 0))), .int mr, .ref (rA 28), .ref (rA 29), .ref (rA 30), .ref (rA 31), .ref (rA 32), .ref (rA 33), .ref (rA 34), .ref (rA 35), .int (nI ld), .int (nI gm), .ref (rA 38), .ref (rA 39), .ref (rA 40), .ref (rA 41), .ref (rA 42), .ref (rA 43), .ref (rA 44), .ref (rA 45), .int (nI my), .ref (rA 47)], la (rA 25) (rK9 25) 5 ((wrB ((((LQ ++ mpL (buB 2 sf nb) t1) ++ bkB sf nb t1 0) ++ [((nI (ctB (inB sf t1 1) nb)).toInt64, 3)]) ++ mpL (blB sf t1 1) 0)).1), ia (rA 16) (rK9 16) 155 sf] H := by rw [mpL_0, List.append_nil]; exact hP
                replace hP : va_P (dC, dI) classes [oc ra 8 [.int (nI T), .int (nI Ac), .ref (rA 2), .ref (rA 3), .ref (rA 4), .ref (rA 5), .ref (rA 6), .ref (rA 7), .ref (rA 8), .ref (rA 9), .ref (rA 10), .ref (rA 11), .ref (rA 12), .ref (rA 13), .int ir, .ref (rA 15), .ref (rA 16), .ref (rA 17), .ref (rA 18), .int (nI md), .int (nI wd), .ref (rA 21), .ref (rA 22), .ref (rA 23), .int (nI mn), .ref (rA 25), .int (nI (szB ((((LQ ++ mpL (buB 2 sf nb) t1) ++ bkB sf nb t1 0) ++ [((nI (ctB (inB sf t1 1) nb)).toInt64, 3)]) ++ mpL (blB sf t1 1) 0))), .int mr, .ref (rA 28), .ref (rA 29), .ref (rA 30), .ref (rA 31), .ref (rA 32), .ref (rA 33), .ref (rA 34), .ref (rA 35), .int (nI ld), .int (nI gm), .ref (rA 38), .ref (rA 39), .ref (rA 40), .ref (rA 41), .ref (rA 42), .ref (rA 43), .ref (rA 44), .ref (rA 45), .int (nI my), .ref (rA 47)], la (rA 25) (rK9 25) 5 ((wrB ((((LQ ++ mpL (buB 2 sf nb) t1) ++ bkB sf nb t1 0) ++ [((nI (ctB (inB sf t1 1) nb)).toInt64, 3)]) ++ mpL (blB sf t1 1) 0)).1), ia (rA 16) (rK9 16) 155 sf] H := hP
                replace hl : lv_has ls 7 [(6, .int (nI 0)), (5, .int (nI (ctB (inB sf t1 1) nb))), (4, .int 1), (3, .int 2), (2, .int 0), (1, .int (nI t1)), (0, .ref ra)] := hl
                refine lp_n nb (fun i1 H locs ls => va_P (dC, dI) classes [oc ra 8 [.int (nI T), .int (nI Ac), .ref (rA 2), .ref (rA 3), .ref (rA 4), .ref (rA 5), .ref (rA 6), .ref (rA 7), .ref (rA 8), .ref (rA 9), .ref (rA 10), .ref (rA 11), .ref (rA 12), .ref (rA 13), .int ir, .ref (rA 15), .ref (rA 16), .ref (rA 17), .ref (rA 18), .int (nI md), .int (nI wd), .ref (rA 21), .ref (rA 22), .ref (rA 23), .int (nI mn), .ref (rA 25), .int (nI (szB ((((LQ ++ mpL (buB 2 sf nb) t1) ++ bkB sf nb t1 0) ++ [((nI (ctB (inB sf t1 1) nb)).toInt64, 3)]) ++ mpL (blB sf t1 1) i1))), .int mr, .ref (rA 28), .ref (rA 29), .ref (rA 30), .ref (rA 31), .ref (rA 32), .ref (rA 33), .ref (rA 34), .ref (rA 35), .int (nI ld), .int (nI gm), .ref (rA 38), .ref (rA 39), .ref (rA 40), .ref (rA 41), .ref (rA 42), .ref (rA 43), .ref (rA 44), .ref (rA 45), .int (nI my), .ref (rA 47)], la (rA 25) (rK9 25) 5 ((wrB ((((LQ ++ mpL (buB 2 sf nb) t1) ++ bkB sf nb t1 0) ++ [((nI (ctB (inB sf t1 1) nb)).toInt64, 3)]) ++ mpL (blB sf t1 1) i1)).1), ia (rA 16) (rK9 16) 155 sf] H ∧ va_S A s.heap H locs ∧ lv_has ls 7 [(6, .int (nI i1)), (5, .int (nI (ctB (inB sf t1 1) nb))), (4, .int 1), (3, .int 2), (2, .int 0), (1, .int (nI t1)), (0, .ref ra)]) ⟨hP, hS, hl⟩ ?_ ?_
                · intro i1 H locs ls hi1 hI ih_i1
                  obtain ⟨hP, hS, hl⟩ := hI
                  have g4 := szB_mono (f := blB sf t1 1) hi1
                  refine lv_iload hx hb d_Ref_encode_235 (lv_at hl 0 rfl) ?_
                  refine lv_aload_n hx hb d_Ref_encode_237 rfl (lv_at hl 6 rfl) ?_
                  refine va_get (D := (dC, dI)) (ci := 8) (v := .ref (rA 16)) (C := R_Ref) (T := F_Ref) (N := 48) hx hb hw i_Ref hown hK hP 0 rfl rfl 16 (by decide) (hw _ m_915) (fun _ h9 => h9) rfl d_Ref_encode_238 ?_
                  refine lv_bipush (v := 15) hx hb d_Ref_encode_241 (by decide) ?_
                  refine va_iald (D := (dC, dI)) hx hb hK hP 2 1 rfl rfl (i := 15) (pk_in 15 155 (by omega)) d_Ref_encode_243 ?_
                  refine tp_i (y := sf 15) (by rw [show (15 : Int32).toNatClampNeg = 15 from pk_cl 15]) ?_
                  refine tp_i (y := nI nb) hnb ?_
                  refine lv_icmp_ge (tgt := 301) hx hb d_Ref_encode_244 (by decide) (fun c9 => absurd c9 (nI_ge hi1 (by omega))) (fun c9 => ?_)
                  refine tp_pc (pc' := 247) (by rfl) ?_
                  refine lv_aload_n hx hb d_Ref_encode_247 rfl (lv_at hl 6 rfl) ?_
                  refine lv_iload hx hb d_Ref_encode_248 (lv_at hl 0 rfl) ?_
                  refine lv_iload_n hx hb d_Ref_encode_250 rfl (lv_at hl 5 rfl) ?_
                  refine lv_iload hx hb d_Ref_encode_251 (lv_at hl 2 rfl) ?_
                  obtain ⟨hPc, hDc, hFc⟩ := cut3 (wc := [oc ra 8 [.int (nI T), .int (nI Ac), .ref (rA 2), .ref (rA 3), .ref (rA 4), .ref (rA 5), .ref (rA 6), .ref (rA 7), .ref (rA 8), .ref (rA 9), .ref (rA 10), .ref (rA 11), .ref (rA 12), .ref (rA 13), .int ir, .ref (rA 15), .ref (rA 16), .ref (rA 17), .ref (rA 18), .int (nI md), .int (nI wd), .ref (rA 21), .ref (rA 22), .ref (rA 23), .int (nI mn), .ref (rA 25), .int (nI (szB ((((LQ ++ mpL (buB 2 sf nb) t1) ++ bkB sf nb t1 0) ++ [((nI (ctB (inB sf t1 1) nb)).toInt64, 3)]) ++ mpL (blB sf t1 1) i1))), .int mr, .ref (rA 28), .ref (rA 29), .ref (rA 30), .ref (rA 31), .ref (rA 32), .ref (rA 33), .ref (rA 34), .ref (rA 35), .int (nI ld), .int (nI gm), .ref (rA 38), .ref (rA 39), .ref (rA 40), .ref (rA 41), .ref (rA 42), .ref (rA 43), .ref (rA 44), .ref (rA 45), .int (nI my), .ref (rA 47)], ia (rA 16) (rK9 16) 155 sf]) hP hD rfl hS hA [0, 2] (by decide +kernel) rfl
                  have hKc := hK.sub (tys' := [((rK9 16), .int)]) [1] rfl
                  refine va_calli (va_runV (As := [.int (nI i1), .int (nI t1), .int 1]) (rest := []) ⟨hx, hb, hml, hown, hw⟩ (gen_Ref_isIn l dC dI ra rA rK9 T Ac md wd mn (szB ((((LQ ++ mpL (buB 2 sf nb) t1) ++ bkB sf nb t1 0) ++ [((nI (ctB (inB sf t1 1) nb)).toInt64, 3)]) ++ mpL (blB sf t1 1) i1)) ld gm my ir mr i1 t1 1 sf (by omega) H.size) (cw_V 3 hw g_Ref_isIn rfl rfl rfl (hw _ m_109) (hw _ m_1105) (hw _ m_1107) (hw _ m_61) (by decide +kernel) ⟨Nat.le_of_ble_eq_true rfl, Nat.le_of_ble_eq_true rfl⟩) ⟨fun a U g mk q => by obtain ⟨q0, q1, qP, qK, qD, qN⟩ := q; exact ⟨q0, q1, qP, va_K.moved (u := U) (U := U.calling g mk a) (Vm.Alike.refl U.vm) qK, qD, nw_call qN⟩, va_recv hKc hPc (ci := 8) (q0 := 0) rfl rfl, fun U hU hW => ⟨rfl, by rw [hU], by rw [hU]; exact hPc, va_K.moved hW.alike hKc, hDc.weaken (fun _ _ _ _ => trivial), nw_warm hW hn⟩⟩ rfl rfl hl.1 rfl (lv_room (Nat.le_of_ble_eq_true rfl)) d_Ref_encode_253 ⟨Nat.le_of_ble_eq_true rfl, Nat.le_of_ble_eq_true rfl⟩) hS (fun q _ h => hFc q h) hFc ?_
                  intro r_28 u t9 H1 locs1 ht9 hvm hw1 hB hz1 hk1 hS1
                  obtain ⟨hP1, hK1, hD1⟩ := hB
                  rw [ht9] at hP1
                  replace hK1 := va_K.moved hvm.symm hK1
                  have hPD := join3 hP hD rfl [0, 2] [1] rfl (by rfl) (by decide +kernel) (by decide +kernel) hk1 hFc hP1 hD1
                  replace hK : va_K (dC, dI) classes [((rK9 25), .long), ((rK9 16), .int)] s := hK.app hK1
                  clear hP1 hK1 hD1 hk1 hz1 hFc hKc hDc hPc hvm ht9 hP hS t9 locs H
                  have hP : va_P (dC, dI) classes [la (rA 25) (rK9 25) 5 ((wrB ((((LQ ++ mpL (buB 2 sf nb) t1) ++ bkB sf nb t1 0) ++ [((nI (ctB (inB sf t1 1) nb)).toInt64, 3)]) ++ mpL (blB sf t1 1) i1)).1), oc ra 8 [.int (nI T), .int (nI Ac), .ref (rA 2), .ref (rA 3), .ref (rA 4), .ref (rA 5), .ref (rA 6), .ref (rA 7), .ref (rA 8), .ref (rA 9), .ref (rA 10), .ref (rA 11), .ref (rA 12), .ref (rA 13), .int ir, .ref (rA 15), .ref (rA 16), .ref (rA 17), .ref (rA 18), .int (nI md), .int (nI wd), .ref (rA 21), .ref (rA 22), .ref (rA 23), .int (nI mn), .ref (rA 25), .int (nI (szB ((((LQ ++ mpL (buB 2 sf nb) t1) ++ bkB sf nb t1 0) ++ [((nI (ctB (inB sf t1 1) nb)).toInt64, 3)]) ++ mpL (blB sf t1 1) i1))), .int mr, .ref (rA 28), .ref (rA 29), .ref (rA 30), .ref (rA 31), .ref (rA 32), .ref (rA 33), .ref (rA 34), .ref (rA 35), .int (nI ld), .int (nI gm), .ref (rA 38), .ref (rA 39), .ref (rA 40), .ref (rA 41), .ref (rA 42), .ref (rA 43), .ref (rA 44), .ref (rA 45), .int (nI my), .ref (rA 47)], ia (rA 16) (rK9 16) 155 sf] H1 := hPD.1
                  replace hD : dd A [(rA 25), ra, (rA 16)] := dd_of hPD.2 rfl
                  clear hPD
                  revert H1 locs1
                  intro H locs hS hP
                  refine tp_i (y := (if sf (16 + i1) = nI t1 ∧ ((1 : Int32) < 0 ∨ sf (23 + i1) = 1) then 1 else 0)) (hw1) ?_
                  clear hw1 r_28 u
                  by_cases hcd : sf (16 + i1) = nI t1 ∧ ((1 : Int32) < 0 ∨ sf (23 + i1) = 1)
                  · skip
                    rw [if_pos hcd]
                    have hib : inB sf t1 1 i1 = true := by unfold inB; exact decide_eq_true hcd
                    have hbl : blB sf t1 1 i1 = [((sf (23 + i1)).toInt64, 2), ((sf (30 + i1) + 64).toInt64, 7)] := by unfold blB; rw [if_pos hib]
                    have g5 : szB (blB sf t1 1 i1) = 9 := by rw [hbl]; rfl
                    refine tp_pc (pc' := 256) (by rfl) ?_
                    refine lv_if_eq (tgt := 295) hx hb d_Ref_encode_256 (by decide) (fun c_29 => absurd c_29 (by decide)) (fun c_29 => ?_)
                    refine tp_pc (pc' := 259) (by rfl) ?_
                    refine lv_aload_n hx hb d_Ref_encode_259 rfl (lv_at hl 6 rfl) ?_
                    refine lv_aload_n hx hb d_Ref_encode_260 rfl (lv_at hl 6 rfl) ?_
                    refine va_get (D := (dC, dI)) (ci := 8) (v := .ref (rA 16)) (C := R_Ref) (T := F_Ref) (N := 48) hx hb hw i_Ref hown hK hP 1 rfl rfl 16 (by decide) (hw _ m_915) (fun _ h9 => h9) rfl d_Ref_encode_261 ?_
                    refine lv_bipush (v := 23) hx hb d_Ref_encode_264 (by decide) ?_
                    refine lv_iload hx hb d_Ref_encode_266 (lv_at hl 0 rfl) ?_
                    refine lv_iadd hx hb d_Ref_encode_268 ?_
                    refine tp_i (y := nI (23 + i1)) (by exact nI_add 23 i1) ?_
                    refine va_iald (D := (dC, dI)) hx hb hK hP 2 1 rfl rfl (i := nI (23 + i1)) (pk_in (23 + i1) 155 (by omega)) d_Ref_encode_269 ?_
                    refine tp_i (y := sf (23 + i1)) (by rw [show (nI (23 + i1) : Int32).toNatClampNeg = 23 + i1 from pk_cl (23 + i1)]) ?_
                    refine lv_i2l (v := (sf (23 + i1)).toInt64) hx hb d_Ref_encode_270 rfl ?_
                    refine lv_iconst (v := 2) hx hb d_Ref_encode_271 (by decide) ?_
                    refine tp_i (y := nI 2) rfl ?_
                    obtain ⟨hPc, hDc, hFc⟩ := cut3 (wc := [oc ra 8 [.int (nI T), .int (nI Ac), .ref (rA 2), .ref (rA 3), .ref (rA 4), .ref (rA 5), .ref (rA 6), .ref (rA 7), .ref (rA 8), .ref (rA 9), .ref (rA 10), .ref (rA 11), .ref (rA 12), .ref (rA 13), .int ir, .ref (rA 15), .ref (rA 16), .ref (rA 17), .ref (rA 18), .int (nI md), .int (nI wd), .ref (rA 21), .ref (rA 22), .ref (rA 23), .int (nI mn), .ref (rA 25), .int (nI (szB ((((LQ ++ mpL (buB 2 sf nb) t1) ++ bkB sf nb t1 0) ++ [((nI (ctB (inB sf t1 1) nb)).toInt64, 3)]) ++ mpL (blB sf t1 1) i1))), .int mr, .ref (rA 28), .ref (rA 29), .ref (rA 30), .ref (rA 31), .ref (rA 32), .ref (rA 33), .ref (rA 34), .ref (rA 35), .int (nI ld), .int (nI gm), .ref (rA 38), .ref (rA 39), .ref (rA 40), .ref (rA 41), .ref (rA 42), .ref (rA 43), .ref (rA 44), .ref (rA 45), .int (nI my), .ref (rA 47)], la (rA 25) (rK9 25) 5 ((wrB ((((LQ ++ mpL (buB 2 sf nb) t1) ++ bkB sf nb t1 0) ++ [((nI (ctB (inB sf t1 1) nb)).toInt64, 3)]) ++ mpL (blB sf t1 1) i1)).1)]) hP hD rfl hS hA [1, 0] (by decide +kernel) rfl
                    have hKc := hK.sub (tys' := [((rK9 25), .long)]) [0] rfl
                    refine va_callv (va_runV (As := [.long ((sf (23 + i1)).toInt64), .int (nI 2)]) (rest := []) ⟨hx, hb, hml, hown, hw⟩ (gen_Ref_bitsL l dC dI ra rA rK9 T Ac md wd mn (szB ((((LQ ++ mpL (buB 2 sf nb) t1) ++ bkB sf nb t1 0) ++ [((nI (ctB (inB sf t1 1) nb)).toInt64, 3)]) ++ mpL (blB sf t1 1) i1)) ld gm my ir mr ((sf (23 + i1)).toInt64) 2 ((((LQ ++ mpL (buB 2 sf nb) t1) ++ bkB sf nb t1 0) ++ [((nI (ctB (inB sf t1 1) nb)).toInt64, 3)]) ++ mpL (blB sf t1 1) i1) (((((LQ ++ mpL (buB 2 sf nb) t1) ++ bkB sf nb t1 0) ++ [((nI (ctB (inB sf t1 1) nb)).toInt64, 3)]) ++ mpL (blB sf t1 1) i1) ++ [((sf (23 + i1)).toInt64, 2)]) (rfl) rfl (by decide) (by decide) (by simp only [szB_app, szB_1];  omega) H.size) (cw_V 2 hw g_Ref_bits rfl rfl rfl (hw _ m_109) (hw _ m_1093) (hw _ m_1095) (hw _ m_58) (by decide +kernel) ⟨Nat.le_of_ble_eq_true rfl, Nat.le_of_ble_eq_true rfl⟩) ⟨fun a U g mk q => by obtain ⟨q0, q1, qP, qK, qD, qN⟩ := q; exact ⟨q0, q1, qP, va_K.moved (u := U) (U := U.calling g mk a) (Vm.Alike.refl U.vm) qK, qD, nw_call qN⟩, va_recv hKc hPc (ci := 8) (q0 := 0) rfl rfl, fun U hU hW => ⟨rfl, by rw [hU], by rw [hU]; exact hPc, va_K.moved hW.alike hKc, hDc.weaken (fun _ _ _ _ => trivial), nw_warm hW hn⟩⟩ rfl rfl hl.1 rfl (lv_room (Nat.le_of_ble_eq_true rfl)) d_Ref_encode_272 ⟨Nat.le_of_ble_eq_true rfl, Nat.le_of_ble_eq_true rfl⟩) hS (fun q _ h => hFc q h) hFc ?_
                    intro u t9 H1 locs1 ht9 hvm hw1 hB hz1 hk1 hS1
                    obtain ⟨hP1, hK1, hD1⟩ := hB
                    rw [ht9] at hP1
                    replace hK1 := va_K.moved hvm.symm hK1
                    have hPD := join3 hP hD rfl [1, 0] [2] rfl (by rfl) (by decide +kernel) (by decide +kernel) hk1 hFc hP1 hD1
                    replace hK : va_K (dC, dI) classes [((rK9 25), .long), ((rK9 16), .int)] s := hK.app hK1
                    clear hP1 hK1 hD1 hk1 hz1 hFc hKc hDc hPc hvm ht9 hP hS t9 locs H
                    have hP : va_P (dC, dI) classes [ia (rA 16) (rK9 16) 155 sf, oc ra 8 [.int (nI T), .int (nI Ac), .ref (rA 2), .ref (rA 3), .ref (rA 4), .ref (rA 5), .ref (rA 6), .ref (rA 7), .ref (rA 8), .ref (rA 9), .ref (rA 10), .ref (rA 11), .ref (rA 12), .ref (rA 13), .int ir, .ref (rA 15), .ref (rA 16), .ref (rA 17), .ref (rA 18), .int (nI md), .int (nI wd), .ref (rA 21), .ref (rA 22), .ref (rA 23), .int (nI mn), .ref (rA 25), .int (nI (szB (((((LQ ++ mpL (buB 2 sf nb) t1) ++ bkB sf nb t1 0) ++ [((nI (ctB (inB sf t1 1) nb)).toInt64, 3)]) ++ mpL (blB sf t1 1) i1) ++ [((sf (23 + i1)).toInt64, 2)]))), .int mr, .ref (rA 28), .ref (rA 29), .ref (rA 30), .ref (rA 31), .ref (rA 32), .ref (rA 33), .ref (rA 34), .ref (rA 35), .int (nI ld), .int (nI gm), .ref (rA 38), .ref (rA 39), .ref (rA 40), .ref (rA 41), .ref (rA 42), .ref (rA 43), .ref (rA 44), .ref (rA 45), .int (nI my), .ref (rA 47)], la (rA 25) (rK9 25) 5 ((wrB (((((LQ ++ mpL (buB 2 sf nb) t1) ++ bkB sf nb t1 0) ++ [((nI (ctB (inB sf t1 1) nb)).toInt64, 3)]) ++ mpL (blB sf t1 1) i1) ++ [((sf (23 + i1)).toInt64, 2)])).1)] H1 := hPD.1
                    replace hD : dd A [(rA 16), ra, (rA 25)] := dd_of hPD.2 rfl
                    clear hPD
                    revert H1 locs1
                    intro H locs hS hP
                    clear hw1 u
                    refine tp_pc (pc' := 275) (by rfl) ?_
                    refine lv_aload_n hx hb d_Ref_encode_275 rfl (lv_at hl 6 rfl) ?_
                    refine lv_aload_n hx hb d_Ref_encode_276 rfl (lv_at hl 6 rfl) ?_
                    refine va_get (D := (dC, dI)) (ci := 8) (v := .ref (rA 16)) (C := R_Ref) (T := F_Ref) (N := 48) hx hb hw i_Ref hown hK hP 1 rfl rfl 16 (by decide) (hw _ m_915) (fun _ h9 => h9) rfl d_Ref_encode_277 ?_
                    refine lv_bipush (v := 30) hx hb d_Ref_encode_280 (by decide) ?_
                    refine lv_iload hx hb d_Ref_encode_282 (lv_at hl 0 rfl) ?_
                    refine lv_iadd hx hb d_Ref_encode_284 ?_
                    refine tp_i (y := nI (30 + i1)) (by exact nI_add 30 i1) ?_
                    refine va_iald (D := (dC, dI)) hx hb hK hP 0 1 rfl rfl (i := nI (30 + i1)) (pk_in (30 + i1) 155 (by omega)) d_Ref_encode_285 ?_
                    refine tp_i (y := sf (30 + i1)) (by rw [show (nI (30 + i1) : Int32).toNatClampNeg = 30 + i1 from pk_cl (30 + i1)]) ?_
                    refine lv_bipush (v := 64) hx hb d_Ref_encode_286 (by decide) ?_
                    refine lv_iadd hx hb d_Ref_encode_288 ?_
                    refine tp_i (y := (sf (30 + i1)) + 64) rfl ?_
                    refine lv_i2l (v := ((sf (30 + i1)) + 64).toInt64) hx hb d_Ref_encode_289 rfl ?_
                    refine lv_bipush (v := 7) hx hb d_Ref_encode_290 (by decide) ?_
                    refine tp_i (y := nI 7) rfl ?_
                    obtain ⟨hPc, hDc, hFc⟩ := cut3 (wc := [oc ra 8 [.int (nI T), .int (nI Ac), .ref (rA 2), .ref (rA 3), .ref (rA 4), .ref (rA 5), .ref (rA 6), .ref (rA 7), .ref (rA 8), .ref (rA 9), .ref (rA 10), .ref (rA 11), .ref (rA 12), .ref (rA 13), .int ir, .ref (rA 15), .ref (rA 16), .ref (rA 17), .ref (rA 18), .int (nI md), .int (nI wd), .ref (rA 21), .ref (rA 22), .ref (rA 23), .int (nI mn), .ref (rA 25), .int (nI (szB (((((LQ ++ mpL (buB 2 sf nb) t1) ++ bkB sf nb t1 0) ++ [((nI (ctB (inB sf t1 1) nb)).toInt64, 3)]) ++ mpL (blB sf t1 1) i1) ++ [((sf (23 + i1)).toInt64, 2)]))), .int mr, .ref (rA 28), .ref (rA 29), .ref (rA 30), .ref (rA 31), .ref (rA 32), .ref (rA 33), .ref (rA 34), .ref (rA 35), .int (nI ld), .int (nI gm), .ref (rA 38), .ref (rA 39), .ref (rA 40), .ref (rA 41), .ref (rA 42), .ref (rA 43), .ref (rA 44), .ref (rA 45), .int (nI my), .ref (rA 47)], la (rA 25) (rK9 25) 5 ((wrB (((((LQ ++ mpL (buB 2 sf nb) t1) ++ bkB sf nb t1 0) ++ [((nI (ctB (inB sf t1 1) nb)).toInt64, 3)]) ++ mpL (blB sf t1 1) i1) ++ [((sf (23 + i1)).toInt64, 2)])).1)]) hP hD rfl hS hA [1, 2] (by decide +kernel) rfl
                    have hKc := hK.sub (tys' := [((rK9 25), .long)]) [0] rfl
                    refine va_callv (va_runV (As := [.long ((sf (30 + i1) + 64).toInt64), .int (nI 7)]) (rest := []) ⟨hx, hb, hml, hown, hw⟩ (gen_Ref_bitsL l dC dI ra rA rK9 T Ac md wd mn (szB (((((LQ ++ mpL (buB 2 sf nb) t1) ++ bkB sf nb t1 0) ++ [((nI (ctB (inB sf t1 1) nb)).toInt64, 3)]) ++ mpL (blB sf t1 1) i1) ++ [((sf (23 + i1)).toInt64, 2)])) ld gm my ir mr ((sf (30 + i1) + 64).toInt64) 7 (((((LQ ++ mpL (buB 2 sf nb) t1) ++ bkB sf nb t1 0) ++ [((nI (ctB (inB sf t1 1) nb)).toInt64, 3)]) ++ mpL (blB sf t1 1) i1) ++ [((sf (23 + i1)).toInt64, 2)]) ((((LQ ++ mpL (buB 2 sf nb) t1) ++ bkB sf nb t1 0) ++ [((nI (ctB (inB sf t1 1) nb)).toInt64, 3)]) ++ mpL (blB sf t1 1) (i1 + 1)) (by rw [mpL_s i1, hbl]; simp only [List.append_assoc, List.cons_append, List.nil_append]) rfl (by decide) (by decide) (by rw [mpL_s i1, hbl]; simp only [szB_app, szB_1]; have g6 : szB [((sf (23 + i1)).toInt64, 2), ((sf (30 + i1) + 64).toInt64, 7)] = 9 := rfl; omega) H.size) (cw_V 2 hw g_Ref_bits rfl rfl rfl (hw _ m_109) (hw _ m_1093) (hw _ m_1095) (hw _ m_58) (by decide +kernel) ⟨Nat.le_of_ble_eq_true rfl, Nat.le_of_ble_eq_true rfl⟩) ⟨fun a U g mk q => by obtain ⟨q0, q1, qP, qK, qD, qN⟩ := q; exact ⟨q0, q1, qP, va_K.moved (u := U) (U := U.calling g mk a) (Vm.Alike.refl U.vm) qK, qD, nw_call qN⟩, va_recv hKc hPc (ci := 8) (q0 := 0) rfl rfl, fun U hU hW => ⟨rfl, by rw [hU], by rw [hU]; exact hPc, va_K.moved hW.alike hKc, hDc.weaken (fun _ _ _ _ => trivial), nw_warm hW hn⟩⟩ rfl rfl hl.1 rfl (lv_room (Nat.le_of_ble_eq_true rfl)) d_Ref_encode_292 ⟨Nat.le_of_ble_eq_true rfl, Nat.le_of_ble_eq_true rfl⟩) hS (fun q _ h => hFc q h) hFc ?_
                    intro u t9 H1 locs1 ht9 hvm hw1 hB hz1 hk1 hS1
                    obtain ⟨hP1, hK1, hD1⟩ := hB
                    rw [ht9] at hP1
                    replace hK1 := va_K.moved hvm.symm hK1
                    have hPD := join3 hP hD rfl [1, 2] [0] rfl (by rfl) (by decide +kernel) (by decide +kernel) hk1 hFc hP1 hD1
                    replace hK : va_K (dC, dI) classes [((rK9 25), .long), ((rK9 16), .int)] s := hK.app hK1
                    clear hP1 hK1 hD1 hk1 hz1 hFc hKc hDc hPc hvm ht9 hP hS t9 locs H
                    have hP : va_P (dC, dI) classes [ia (rA 16) (rK9 16) 155 sf, oc ra 8 [.int (nI T), .int (nI Ac), .ref (rA 2), .ref (rA 3), .ref (rA 4), .ref (rA 5), .ref (rA 6), .ref (rA 7), .ref (rA 8), .ref (rA 9), .ref (rA 10), .ref (rA 11), .ref (rA 12), .ref (rA 13), .int ir, .ref (rA 15), .ref (rA 16), .ref (rA 17), .ref (rA 18), .int (nI md), .int (nI wd), .ref (rA 21), .ref (rA 22), .ref (rA 23), .int (nI mn), .ref (rA 25), .int (nI (szB ((((LQ ++ mpL (buB 2 sf nb) t1) ++ bkB sf nb t1 0) ++ [((nI (ctB (inB sf t1 1) nb)).toInt64, 3)]) ++ mpL (blB sf t1 1) (i1 + 1)))), .int mr, .ref (rA 28), .ref (rA 29), .ref (rA 30), .ref (rA 31), .ref (rA 32), .ref (rA 33), .ref (rA 34), .ref (rA 35), .int (nI ld), .int (nI gm), .ref (rA 38), .ref (rA 39), .ref (rA 40), .ref (rA 41), .ref (rA 42), .ref (rA 43), .ref (rA 44), .ref (rA 45), .int (nI my), .ref (rA 47)], la (rA 25) (rK9 25) 5 ((wrB ((((LQ ++ mpL (buB 2 sf nb) t1) ++ bkB sf nb t1 0) ++ [((nI (ctB (inB sf t1 1) nb)).toInt64, 3)]) ++ mpL (blB sf t1 1) (i1 + 1))).1)] H1 := hPD.1
                    replace hD : dd A [(rA 16), ra, (rA 25)] := dd_of hPD.2 rfl
                    clear hPD
                    revert H1 locs1
                    intro H locs hS hP
                    clear hw1 u
                    refine tp_pc (pc' := 295) (by rfl) ?_
                    refine lv_iinc (v := nI (i1 + 1)) (lv' := [(6, .int (nI (i1 + 1))), (5, .int (nI (ctB (inB sf t1 1) nb))), (4, .int 1), (3, .int 2), (2, .int 0), (1, .int (nI t1)), (0, .ref ra)]) hx hb d_Ref_encode_295 hl (k := 0) rfl (by exact nI_1 i1) (by decide) rfl ?_
                    clear hl ls
                    intro ls hl
                    refine lv_goto (tgt := 235) hx hb d_Ref_encode_298 (by decide) ?_
                    refine tp_pc (pc' := 235) (by rfl) ?_
                    obtain ⟨hP8, -, -⟩ := cut3 (wc := [oc ra 8 [.int (nI T), .int (nI Ac), .ref (rA 2), .ref (rA 3), .ref (rA 4), .ref (rA 5), .ref (rA 6), .ref (rA 7), .ref (rA 8), .ref (rA 9), .ref (rA 10), .ref (rA 11), .ref (rA 12), .ref (rA 13), .int ir, .ref (rA 15), .ref (rA 16), .ref (rA 17), .ref (rA 18), .int (nI md), .int (nI wd), .ref (rA 21), .ref (rA 22), .ref (rA 23), .int (nI mn), .ref (rA 25), .int (nI (szB ((((LQ ++ mpL (buB 2 sf nb) t1) ++ bkB sf nb t1 0) ++ [((nI (ctB (inB sf t1 1) nb)).toInt64, 3)]) ++ mpL (blB sf t1 1) (i1 + 1)))), .int mr, .ref (rA 28), .ref (rA 29), .ref (rA 30), .ref (rA 31), .ref (rA 32), .ref (rA 33), .ref (rA 34), .ref (rA 35), .int (nI ld), .int (nI gm), .ref (rA 38), .ref (rA 39), .ref (rA 40), .ref (rA 41), .ref (rA 42), .ref (rA 43), .ref (rA 44), .ref (rA 45), .int (nI my), .ref (rA 47)], la (rA 25) (rK9 25) 5 ((wrB ((((LQ ++ mpL (buB 2 sf nb) t1) ++ bkB sf nb t1 0) ++ [((nI (ctB (inB sf t1 1) nb)).toInt64, 3)]) ++ mpL (blB sf t1 1) (i1 + 1))).1), ia (rA 16) (rK9 16) 155 sf]) hP hD rfl hS hA [1, 2, 0] (by decide +kernel) rfl
                    exact ih_i1 _ _ _ ⟨hP8, hS, lv_sub hl [0, 1, 2, 3, 4, 5, 6] rfl⟩
                  · skip
                    rw [if_neg hcd]
                    have hib : inB sf t1 1 i1 = false := by unfold inB; exact decide_eq_false hcd
                    have hbl : blB sf t1 1 i1 = [] := by unfold blB; rw [if_neg (by rw [hib]; decide)]
                    obtain ⟨hP8, hD8, -⟩ := cut3 (wc := [oc ra 8 [.int (nI T), .int (nI Ac), .ref (rA 2), .ref (rA 3), .ref (rA 4), .ref (rA 5), .ref (rA 6), .ref (rA 7), .ref (rA 8), .ref (rA 9), .ref (rA 10), .ref (rA 11), .ref (rA 12), .ref (rA 13), .int ir, .ref (rA 15), .ref (rA 16), .ref (rA 17), .ref (rA 18), .int (nI md), .int (nI wd), .ref (rA 21), .ref (rA 22), .ref (rA 23), .int (nI mn), .ref (rA 25), .int (nI (szB ((((LQ ++ mpL (buB 2 sf nb) t1) ++ bkB sf nb t1 0) ++ [((nI (ctB (inB sf t1 1) nb)).toInt64, 3)]) ++ mpL (blB sf t1 1) i1))), .int mr, .ref (rA 28), .ref (rA 29), .ref (rA 30), .ref (rA 31), .ref (rA 32), .ref (rA 33), .ref (rA 34), .ref (rA 35), .int (nI ld), .int (nI gm), .ref (rA 38), .ref (rA 39), .ref (rA 40), .ref (rA 41), .ref (rA 42), .ref (rA 43), .ref (rA 44), .ref (rA 45), .int (nI my), .ref (rA 47)], la (rA 25) (rK9 25) 5 ((wrB ((((LQ ++ mpL (buB 2 sf nb) t1) ++ bkB sf nb t1 0) ++ [((nI (ctB (inB sf t1 1) nb)).toInt64, 3)]) ++ mpL (blB sf t1 1) i1)).1), ia (rA 16) (rK9 16) 155 sf]) hP hD rfl hS hA [1, 0, 2] (by decide +kernel) rfl
                    clear hP
                    have hP : va_P (dC, dI) classes [oc ra 8 [.int (nI T), .int (nI Ac), .ref (rA 2), .ref (rA 3), .ref (rA 4), .ref (rA 5), .ref (rA 6), .ref (rA 7), .ref (rA 8), .ref (rA 9), .ref (rA 10), .ref (rA 11), .ref (rA 12), .ref (rA 13), .int ir, .ref (rA 15), .ref (rA 16), .ref (rA 17), .ref (rA 18), .int (nI md), .int (nI wd), .ref (rA 21), .ref (rA 22), .ref (rA 23), .int (nI mn), .ref (rA 25), .int (nI (szB ((((LQ ++ mpL (buB 2 sf nb) t1) ++ bkB sf nb t1 0) ++ [((nI (ctB (inB sf t1 1) nb)).toInt64, 3)]) ++ mpL (blB sf t1 1) i1))), .int mr, .ref (rA 28), .ref (rA 29), .ref (rA 30), .ref (rA 31), .ref (rA 32), .ref (rA 33), .ref (rA 34), .ref (rA 35), .int (nI ld), .int (nI gm), .ref (rA 38), .ref (rA 39), .ref (rA 40), .ref (rA 41), .ref (rA 42), .ref (rA 43), .ref (rA 44), .ref (rA 45), .int (nI my), .ref (rA 47)], la (rA 25) (rK9 25) 5 ((wrB ((((LQ ++ mpL (buB 2 sf nb) t1) ++ bkB sf nb t1 0) ++ [((nI (ctB (inB sf t1 1) nb)).toInt64, 3)]) ++ mpL (blB sf t1 1) i1)).1), ia (rA 16) (rK9 16) 155 sf] H := hP8
                    clear hP8
                    replace hD : dd A [ra, (rA 25), (rA 16)] := dd_of hD8 rfl
                    clear hD8
                    have e9 : ((((LQ ++ mpL (buB 2 sf nb) t1) ++ bkB sf nb t1 0) ++ [((nI (ctB (inB sf t1 1) nb)).toInt64, 3)]) ++ mpL (blB sf t1 1) (i1 + 1)) = ((((LQ ++ mpL (buB 2 sf nb) t1) ++ bkB sf nb t1 0) ++ [((nI (ctB (inB sf t1 1) nb)).toInt64, 3)]) ++ mpL (blB sf t1 1) i1) := by rw [mpL_s i1, hbl, List.append_nil]
                    replace hP : va_P (dC, dI) classes [oc ra 8 [.int (nI T), .int (nI Ac), .ref (rA 2), .ref (rA 3), .ref (rA 4), .ref (rA 5), .ref (rA 6), .ref (rA 7), .ref (rA 8), .ref (rA 9), .ref (rA 10), .ref (rA 11), .ref (rA 12), .ref (rA 13), .int ir, .ref (rA 15), .ref (rA 16), .ref (rA 17), .ref (rA 18), .int (nI md), .int (nI wd), .ref (rA 21), .ref (rA 22), .ref (rA 23), .int (nI mn), .ref (rA 25), .int (nI (szB ((((LQ ++ mpL (buB 2 sf nb) t1) ++ bkB sf nb t1 0) ++ [((nI (ctB (inB sf t1 1) nb)).toInt64, 3)]) ++ mpL (blB sf t1 1) (i1 + 1)))), .int mr, .ref (rA 28), .ref (rA 29), .ref (rA 30), .ref (rA 31), .ref (rA 32), .ref (rA 33), .ref (rA 34), .ref (rA 35), .int (nI ld), .int (nI gm), .ref (rA 38), .ref (rA 39), .ref (rA 40), .ref (rA 41), .ref (rA 42), .ref (rA 43), .ref (rA 44), .ref (rA 45), .int (nI my), .ref (rA 47)], la (rA 25) (rK9 25) 5 ((wrB ((((LQ ++ mpL (buB 2 sf nb) t1) ++ bkB sf nb t1 0) ++ [((nI (ctB (inB sf t1 1) nb)).toInt64, 3)]) ++ mpL (blB sf t1 1) (i1 + 1))).1), ia (rA 16) (rK9 16) 155 sf] H := by rw [e9]; exact hP
                    refine tp_pc (pc' := 256) (by rfl) ?_
                    refine lv_if_eq (tgt := 295) hx hb d_Ref_encode_256 (by decide) (fun c_32 => ?_) (fun c_32 => absurd c_32 (by decide))
                    refine tp_pc (pc' := 295) (by rfl) ?_
                    refine lv_iinc (v := nI (i1 + 1)) (lv' := [(6, .int (nI (i1 + 1))), (5, .int (nI (ctB (inB sf t1 1) nb))), (4, .int 1), (3, .int 2), (2, .int 0), (1, .int (nI t1)), (0, .ref ra)]) hx hb d_Ref_encode_295 hl (k := 0) rfl (by exact nI_1 i1) (by decide) rfl ?_
                    clear hl ls
                    intro ls hl
                    refine lv_goto (tgt := 235) hx hb d_Ref_encode_298 (by decide) ?_
                    refine tp_pc (pc' := 235) (by rfl) ?_
                    obtain ⟨hP8, -, -⟩ := cut3 (wc := [oc ra 8 [.int (nI T), .int (nI Ac), .ref (rA 2), .ref (rA 3), .ref (rA 4), .ref (rA 5), .ref (rA 6), .ref (rA 7), .ref (rA 8), .ref (rA 9), .ref (rA 10), .ref (rA 11), .ref (rA 12), .ref (rA 13), .int ir, .ref (rA 15), .ref (rA 16), .ref (rA 17), .ref (rA 18), .int (nI md), .int (nI wd), .ref (rA 21), .ref (rA 22), .ref (rA 23), .int (nI mn), .ref (rA 25), .int (nI (szB ((((LQ ++ mpL (buB 2 sf nb) t1) ++ bkB sf nb t1 0) ++ [((nI (ctB (inB sf t1 1) nb)).toInt64, 3)]) ++ mpL (blB sf t1 1) (i1 + 1)))), .int mr, .ref (rA 28), .ref (rA 29), .ref (rA 30), .ref (rA 31), .ref (rA 32), .ref (rA 33), .ref (rA 34), .ref (rA 35), .int (nI ld), .int (nI gm), .ref (rA 38), .ref (rA 39), .ref (rA 40), .ref (rA 41), .ref (rA 42), .ref (rA 43), .ref (rA 44), .ref (rA 45), .int (nI my), .ref (rA 47)], la (rA 25) (rK9 25) 5 ((wrB ((((LQ ++ mpL (buB 2 sf nb) t1) ++ bkB sf nb t1 0) ++ [((nI (ctB (inB sf t1 1) nb)).toInt64, 3)]) ++ mpL (blB sf t1 1) (i1 + 1))).1), ia (rA 16) (rK9 16) 155 sf]) hP hD rfl hS hA [0, 1, 2] (by decide +kernel) rfl
                    exact ih_i1 _ _ _ ⟨hP8, hS, lv_sub hl [0, 1, 2, 3, 4, 5, 6] rfl⟩
                · intro H locs ls hI
                  obtain ⟨hP, hS, hl⟩ := hI
                  refine lv_iload hx hb d_Ref_encode_235 (lv_at hl 0 rfl) ?_
                  refine lv_aload_n hx hb d_Ref_encode_237 rfl (lv_at hl 6 rfl) ?_
                  refine va_get (D := (dC, dI)) (ci := 8) (v := .ref (rA 16)) (C := R_Ref) (T := F_Ref) (N := 48) hx hb hw i_Ref hown hK hP 0 rfl rfl 16 (by decide) (hw _ m_915) (fun _ h9 => h9) rfl d_Ref_encode_238 ?_
                  refine lv_bipush (v := 15) hx hb d_Ref_encode_241 (by decide) ?_
                  refine va_iald (D := (dC, dI)) hx hb hK hP 2 1 rfl rfl (i := 15) (pk_in 15 155 (by omega)) d_Ref_encode_243 ?_
                  refine tp_i (y := sf 15) (by rw [show (15 : Int32).toNatClampNeg = 15 from pk_cl 15]) ?_
                  refine tp_i (y := nI nb) hnb ?_
                  refine lv_icmp_ge (tgt := 301) hx hb d_Ref_encode_244 (by decide) (fun c9 => ?_) (fun c9 => absurd (nI_le (Nat.le_refl nb) (by omega)) c9)
                  refine tp_pc (pc' := 301) (by rfl) ?_
                  have e9 : (((LQ ++ mpL (buB 2 sf nb) t1) ++ bkB sf nb t1 0) ++ bkB sf nb t1 1) = ((((LQ ++ mpL (buB 2 sf nb) t1) ++ bkB sf nb t1 0) ++ [((nI (ctB (inB sf t1 1) nb)).toInt64, 3)]) ++ mpL (blB sf t1 1) nb) := by unfold bkB; simp only [List.append_assoc, List.cons_append, List.nil_append]
                  replace hP : va_P (dC, dI) classes [oc ra 8 [.int (nI T), .int (nI Ac), .ref (rA 2), .ref (rA 3), .ref (rA 4), .ref (rA 5), .ref (rA 6), .ref (rA 7), .ref (rA 8), .ref (rA 9), .ref (rA 10), .ref (rA 11), .ref (rA 12), .ref (rA 13), .int ir, .ref (rA 15), .ref (rA 16), .ref (rA 17), .ref (rA 18), .int (nI md), .int (nI wd), .ref (rA 21), .ref (rA 22), .ref (rA 23), .int (nI mn), .ref (rA 25), .int (nI (szB (((LQ ++ mpL (buB 2 sf nb) t1) ++ bkB sf nb t1 0) ++ bkB sf nb t1 1))), .int mr, .ref (rA 28), .ref (rA 29), .ref (rA 30), .ref (rA 31), .ref (rA 32), .ref (rA 33), .ref (rA 34), .ref (rA 35), .int (nI ld), .int (nI gm), .ref (rA 38), .ref (rA 39), .ref (rA 40), .ref (rA 41), .ref (rA 42), .ref (rA 43), .ref (rA 44), .ref (rA 45), .int (nI my), .ref (rA 47)], la (rA 25) (rK9 25) 5 ((wrB (((LQ ++ mpL (buB 2 sf nb) t1) ++ bkB sf nb t1 0) ++ bkB sf nb t1 1)).1), ia (rA 16) (rK9 16) 155 sf] H := by rw [e9]; exact hP
                  refine lv_iinc (v := 2) (lv' := [(4, .int 2), (6, .int (nI nb)), (5, .int (nI (ctB (inB sf t1 1) nb))), (3, .int 2), (2, .int 0), (1, .int (nI t1)), (0, .ref ra)]) hx hb d_Ref_encode_301 hl (k := 2) rfl (by first | rfl | decide) (by decide) rfl ?_
                  clear hl ls
                  intro ls hl
                  refine lv_goto (tgt := 172) hx hb d_Ref_encode_304 (by decide) ?_
                  refine tp_pc (pc' := 172) (by rfl) ?_
                  refine lv_iload hx hb d_Ref_encode_172 (lv_at hl 0 rfl) ?_
                  refine lv_iload_n hx hb d_Ref_encode_174 rfl (lv_at hl 3 rfl) ?_
                  refine lv_icmp_gt (tgt := 307) hx hb d_Ref_encode_175 (by decide) (fun c_33 => absurd c_33 (by decide)) (fun c_33 => ?_)
                  refine tp_pc (pc' := 178) (by rfl) ?_
                  refine lv_iconst (v := 0) hx hb d_Ref_encode_178 (by decide) ?_
                  refine lv_istore (lv' := [(5, .int 0), (4, .int 2), (6, .int (nI nb)), (3, .int 2), (2, .int 0), (1, .int (nI t1)), (0, .ref ra)]) hx hb d_Ref_encode_179 hl (by decide) rfl ?_
                  clear hl ls
                  intro ls hl
                  refine lv_iconst (v := 0) hx hb d_Ref_encode_181 (by decide) ?_
                  refine lv_istore (lv' := [(6, .int 0), (5, .int 0), (4, .int 2), (3, .int 2), (2, .int 0), (1, .int (nI t1)), (0, .ref ra)]) hx hb d_Ref_encode_182 hl (by decide) rfl ?_
                  clear hl ls
                  intro ls hl
                  replace hP : va_P (dC, dI) classes [oc ra 8 [.int (nI T), .int (nI Ac), .ref (rA 2), .ref (rA 3), .ref (rA 4), .ref (rA 5), .ref (rA 6), .ref (rA 7), .ref (rA 8), .ref (rA 9), .ref (rA 10), .ref (rA 11), .ref (rA 12), .ref (rA 13), .int ir, .ref (rA 15), .ref (rA 16), .ref (rA 17), .ref (rA 18), .int (nI md), .int (nI wd), .ref (rA 21), .ref (rA 22), .ref (rA 23), .int (nI mn), .ref (rA 25), .int (nI (szB (((LQ ++ mpL (buB 2 sf nb) t1) ++ bkB sf nb t1 0) ++ bkB sf nb t1 1))), .int mr, .ref (rA 28), .ref (rA 29), .ref (rA 30), .ref (rA 31), .ref (rA 32), .ref (rA 33), .ref (rA 34), .ref (rA 35), .int (nI ld), .int (nI gm), .ref (rA 38), .ref (rA 39), .ref (rA 40), .ref (rA 41), .ref (rA 42), .ref (rA 43), .ref (rA 44), .ref (rA 45), .int (nI my), .ref (rA 47)], la (rA 25) (rK9 25) 5 ((wrB (((LQ ++ mpL (buB 2 sf nb) t1) ++ bkB sf nb t1 0) ++ bkB sf nb t1 1)).1), ia (rA 16) (rK9 16) 155 sf] H := hP
                  replace hl : lv_has ls 7 [(6, .int (nI 0)), (5, .int (nI (ctB (inB sf t1 2) 0))), (4, .int 2), (3, .int 2), (2, .int 0), (1, .int (nI t1)), (0, .ref ra)] := hl
                  refine lp_n nb (fun i1 H locs ls => va_P (dC, dI) classes [oc ra 8 [.int (nI T), .int (nI Ac), .ref (rA 2), .ref (rA 3), .ref (rA 4), .ref (rA 5), .ref (rA 6), .ref (rA 7), .ref (rA 8), .ref (rA 9), .ref (rA 10), .ref (rA 11), .ref (rA 12), .ref (rA 13), .int ir, .ref (rA 15), .ref (rA 16), .ref (rA 17), .ref (rA 18), .int (nI md), .int (nI wd), .ref (rA 21), .ref (rA 22), .ref (rA 23), .int (nI mn), .ref (rA 25), .int (nI (szB (((LQ ++ mpL (buB 2 sf nb) t1) ++ bkB sf nb t1 0) ++ bkB sf nb t1 1))), .int mr, .ref (rA 28), .ref (rA 29), .ref (rA 30), .ref (rA 31), .ref (rA 32), .ref (rA 33), .ref (rA 34), .ref (rA 35), .int (nI ld), .int (nI gm), .ref (rA 38), .ref (rA 39), .ref (rA 40), .ref (rA 41), .ref (rA 42), .ref (rA 43), .ref (rA 44), .ref (rA 45), .int (nI my), .ref (rA 47)], la (rA 25) (rK9 25) 5 ((wrB (((LQ ++ mpL (buB 2 sf nb) t1) ++ bkB sf nb t1 0) ++ bkB sf nb t1 1)).1), ia (rA 16) (rK9 16) 155 sf] H ∧ va_S A s.heap H locs ∧ lv_has ls 7 [(6, .int (nI i1)), (5, .int (nI (ctB (inB sf t1 2) i1))), (4, .int 2), (3, .int 2), (2, .int 0), (1, .int (nI t1)), (0, .ref ra)]) ⟨hP, hS, hl⟩ ?_ ?_
                  · intro i1 H locs ls hi1 hI ih_i1
                    obtain ⟨hP, hS, hl⟩ := hI
                    have ml := ctB_le (p := inB sf t1 2) i1
                    refine lv_iload hx hb d_Ref_encode_184 (lv_at hl 0 rfl) ?_
                    refine lv_aload_n hx hb d_Ref_encode_186 rfl (lv_at hl 6 rfl) ?_
                    refine va_get (D := (dC, dI)) (ci := 8) (v := .ref (rA 16)) (C := R_Ref) (T := F_Ref) (N := 48) hx hb hw i_Ref hown hK hP 0 rfl rfl 16 (by decide) (hw _ m_915) (fun _ h9 => h9) rfl d_Ref_encode_187 ?_
                    refine lv_bipush (v := 15) hx hb d_Ref_encode_190 (by decide) ?_
                    refine va_iald (D := (dC, dI)) hx hb hK hP 2 1 rfl rfl (i := 15) (pk_in 15 155 (by omega)) d_Ref_encode_192 ?_
                    refine tp_i (y := sf 15) (by rw [show (15 : Int32).toNatClampNeg = 15 from pk_cl 15]) ?_
                    refine tp_i (y := nI nb) hnb ?_
                    refine lv_icmp_ge (tgt := 224) hx hb d_Ref_encode_193 (by decide) (fun c9 => absurd c9 (nI_ge hi1 (by omega))) (fun c9 => ?_)
                    refine tp_pc (pc' := 196) (by rfl) ?_
                    refine lv_iload hx hb d_Ref_encode_196 (lv_at hl 1 rfl) ?_
                    refine lv_aload_n hx hb d_Ref_encode_198 rfl (lv_at hl 6 rfl) ?_
                    refine lv_iload hx hb d_Ref_encode_199 (lv_at hl 0 rfl) ?_
                    refine lv_iload_n hx hb d_Ref_encode_201 rfl (lv_at hl 5 rfl) ?_
                    refine lv_iload hx hb d_Ref_encode_202 (lv_at hl 2 rfl) ?_
                    obtain ⟨hPc, hDc, hFc⟩ := cut3 (wc := [oc ra 8 [.int (nI T), .int (nI Ac), .ref (rA 2), .ref (rA 3), .ref (rA 4), .ref (rA 5), .ref (rA 6), .ref (rA 7), .ref (rA 8), .ref (rA 9), .ref (rA 10), .ref (rA 11), .ref (rA 12), .ref (rA 13), .int ir, .ref (rA 15), .ref (rA 16), .ref (rA 17), .ref (rA 18), .int (nI md), .int (nI wd), .ref (rA 21), .ref (rA 22), .ref (rA 23), .int (nI mn), .ref (rA 25), .int (nI (szB (((LQ ++ mpL (buB 2 sf nb) t1) ++ bkB sf nb t1 0) ++ bkB sf nb t1 1))), .int mr, .ref (rA 28), .ref (rA 29), .ref (rA 30), .ref (rA 31), .ref (rA 32), .ref (rA 33), .ref (rA 34), .ref (rA 35), .int (nI ld), .int (nI gm), .ref (rA 38), .ref (rA 39), .ref (rA 40), .ref (rA 41), .ref (rA 42), .ref (rA 43), .ref (rA 44), .ref (rA 45), .int (nI my), .ref (rA 47)], ia (rA 16) (rK9 16) 155 sf]) hP hD rfl hS hA [0, 2] (by decide +kernel) rfl
                    have hKc := hK.sub (tys' := [((rK9 16), .int)]) [1] rfl
                    refine va_calli (va_runV (As := [.int (nI i1), .int (nI t1), .int 2]) (rest := [.int (nI (ctB (inB sf t1 2) i1))]) ⟨hx, hb, hml, hown, hw⟩ (gen_Ref_isIn l dC dI ra rA rK9 T Ac md wd mn (szB (((LQ ++ mpL (buB 2 sf nb) t1) ++ bkB sf nb t1 0) ++ bkB sf nb t1 1)) ld gm my ir mr i1 t1 2 sf (by omega) H.size) (cw_V 3 hw g_Ref_isIn rfl rfl rfl (hw _ m_109) (hw _ m_1105) (hw _ m_1107) (hw _ m_61) (by decide +kernel) ⟨Nat.le_of_ble_eq_true rfl, Nat.le_of_ble_eq_true rfl⟩) ⟨fun a U g mk q => by obtain ⟨q0, q1, qP, qK, qD, qN⟩ := q; exact ⟨q0, q1, qP, va_K.moved (u := U) (U := U.calling g mk a) (Vm.Alike.refl U.vm) qK, qD, nw_call qN⟩, va_recv hKc hPc (ci := 8) (q0 := 0) rfl rfl, fun U hU hW => ⟨rfl, by rw [hU], by rw [hU]; exact hPc, va_K.moved hW.alike hKc, hDc.weaken (fun _ _ _ _ => trivial), nw_warm hW hn⟩⟩ rfl rfl hl.1 rfl (lv_room (Nat.le_of_ble_eq_true rfl)) d_Ref_encode_204 ⟨Nat.le_of_ble_eq_true rfl, Nat.le_of_ble_eq_true rfl⟩) hS (fun q _ h => hFc q h) hFc ?_
                    intro r_34 u t9 H1 locs1 ht9 hvm hw1 hB hz1 hk1 hS1
                    obtain ⟨hP1, hK1, hD1⟩ := hB
                    rw [ht9] at hP1
                    replace hK1 := va_K.moved hvm.symm hK1
                    have hPD := join3 hP hD rfl [0, 2] [1] rfl (by rfl) (by decide +kernel) (by decide +kernel) hk1 hFc hP1 hD1
                    replace hK : va_K (dC, dI) classes [((rK9 25), .long), ((rK9 16), .int)] s := hK.app hK1
                    clear hP1 hK1 hD1 hk1 hz1 hFc hKc hDc hPc hvm ht9 hP hS t9 locs H
                    have hP : va_P (dC, dI) classes [la (rA 25) (rK9 25) 5 ((wrB (((LQ ++ mpL (buB 2 sf nb) t1) ++ bkB sf nb t1 0) ++ bkB sf nb t1 1)).1), oc ra 8 [.int (nI T), .int (nI Ac), .ref (rA 2), .ref (rA 3), .ref (rA 4), .ref (rA 5), .ref (rA 6), .ref (rA 7), .ref (rA 8), .ref (rA 9), .ref (rA 10), .ref (rA 11), .ref (rA 12), .ref (rA 13), .int ir, .ref (rA 15), .ref (rA 16), .ref (rA 17), .ref (rA 18), .int (nI md), .int (nI wd), .ref (rA 21), .ref (rA 22), .ref (rA 23), .int (nI mn), .ref (rA 25), .int (nI (szB (((LQ ++ mpL (buB 2 sf nb) t1) ++ bkB sf nb t1 0) ++ bkB sf nb t1 1))), .int mr, .ref (rA 28), .ref (rA 29), .ref (rA 30), .ref (rA 31), .ref (rA 32), .ref (rA 33), .ref (rA 34), .ref (rA 35), .int (nI ld), .int (nI gm), .ref (rA 38), .ref (rA 39), .ref (rA 40), .ref (rA 41), .ref (rA 42), .ref (rA 43), .ref (rA 44), .ref (rA 45), .int (nI my), .ref (rA 47)], ia (rA 16) (rK9 16) 155 sf] H1 := hPD.1
                    replace hD : dd A [(rA 25), ra, (rA 16)] := dd_of hPD.2 rfl
                    clear hPD
                    revert H1 locs1
                    intro H locs hS hP
                    refine tp_i (y := (if sf (16 + i1) = nI t1 ∧ ((2 : Int32) < 0 ∨ sf (23 + i1) = 2) then 1 else 0)) (hw1) ?_
                    clear hw1 r_34 u
                    by_cases hcd : sf (16 + i1) = nI t1 ∧ ((2 : Int32) < 0 ∨ sf (23 + i1) = 2)
                    · skip
                      rw [if_pos hcd]
                      have hib : inB sf t1 2 i1 = true := by unfold inB; exact decide_eq_true hcd
                      refine tp_pc (pc' := 207) (by rfl) ?_
                      refine lv_if_eq (tgt := 214) hx hb d_Ref_encode_207 (by decide) (fun c_35 => absurd c_35 (by decide)) (fun c_35 => ?_)
                      refine tp_pc (pc' := 210) (by rfl) ?_
                      refine lv_iconst (v := 1) hx hb d_Ref_encode_210 (by decide) ?_
                      refine lv_goto (tgt := 215) hx hb d_Ref_encode_211 (by decide) ?_
                      refine tp_pc (pc' := 215) (by rfl) ?_
                      refine lv_iadd hx hb d_Ref_encode_215 ?_
                      refine tp_i (y := nI (ctB (inB sf t1 2) i1 + 1)) (by exact nI_add (ctB (inB sf t1 2) i1) 1) ?_
                      refine tp_i (y := nI (ctB (inB sf t1 2) (i1 + 1))) (by rw [ctB, hib]; rfl) ?_
                      refine lv_istore (lv' := [(5, .int (nI (ctB (inB sf t1 2) (i1 + 1)))), (6, .int (nI i1)), (4, .int 2), (3, .int 2), (2, .int 0), (1, .int (nI t1)), (0, .ref ra)]) hx hb d_Ref_encode_216 hl (by decide) rfl ?_
                      clear hl ls
                      intro ls hl
                      refine lv_iinc (v := nI (i1 + 1)) (lv' := [(6, .int (nI (i1 + 1))), (5, .int (nI (ctB (inB sf t1 2) (i1 + 1)))), (4, .int 2), (3, .int 2), (2, .int 0), (1, .int (nI t1)), (0, .ref ra)]) hx hb d_Ref_encode_218 hl (k := 1) rfl (by exact nI_1 i1) (by decide) rfl ?_
                      clear hl ls
                      intro ls hl
                      refine lv_goto (tgt := 184) hx hb d_Ref_encode_221 (by decide) ?_
                      refine tp_pc (pc' := 184) (by rfl) ?_
                      obtain ⟨hP8, -, -⟩ := cut3 (wc := [oc ra 8 [.int (nI T), .int (nI Ac), .ref (rA 2), .ref (rA 3), .ref (rA 4), .ref (rA 5), .ref (rA 6), .ref (rA 7), .ref (rA 8), .ref (rA 9), .ref (rA 10), .ref (rA 11), .ref (rA 12), .ref (rA 13), .int ir, .ref (rA 15), .ref (rA 16), .ref (rA 17), .ref (rA 18), .int (nI md), .int (nI wd), .ref (rA 21), .ref (rA 22), .ref (rA 23), .int (nI mn), .ref (rA 25), .int (nI (szB (((LQ ++ mpL (buB 2 sf nb) t1) ++ bkB sf nb t1 0) ++ bkB sf nb t1 1))), .int mr, .ref (rA 28), .ref (rA 29), .ref (rA 30), .ref (rA 31), .ref (rA 32), .ref (rA 33), .ref (rA 34), .ref (rA 35), .int (nI ld), .int (nI gm), .ref (rA 38), .ref (rA 39), .ref (rA 40), .ref (rA 41), .ref (rA 42), .ref (rA 43), .ref (rA 44), .ref (rA 45), .int (nI my), .ref (rA 47)], la (rA 25) (rK9 25) 5 ((wrB (((LQ ++ mpL (buB 2 sf nb) t1) ++ bkB sf nb t1 0) ++ bkB sf nb t1 1)).1), ia (rA 16) (rK9 16) 155 sf]) hP hD rfl hS hA [1, 0, 2] (by decide +kernel) rfl
                      exact ih_i1 _ _ _ ⟨hP8, hS, lv_sub hl [0, 1, 2, 3, 4, 5, 6] rfl⟩
                    · skip
                      rw [if_neg hcd]
                      have hib : inB sf t1 2 i1 = false := by unfold inB; exact decide_eq_false hcd
                      refine tp_pc (pc' := 207) (by rfl) ?_
                      refine lv_if_eq (tgt := 214) hx hb d_Ref_encode_207 (by decide) (fun c_36 => ?_) (fun c_36 => absurd c_36 (by decide))
                      refine tp_pc (pc' := 214) (by rfl) ?_
                      refine lv_iconst (v := 0) hx hb d_Ref_encode_214 (by decide) ?_
                      refine lv_iadd hx hb d_Ref_encode_215 ?_
                      refine tp_i (y := nI (ctB (inB sf t1 2) i1 + 0)) (by exact nI_add (ctB (inB sf t1 2) i1) 0) ?_
                      refine tp_i (y := nI (ctB (inB sf t1 2) (i1 + 1))) (by rw [ctB, hib]; rfl) ?_
                      refine lv_istore (lv' := [(5, .int (nI (ctB (inB sf t1 2) (i1 + 1)))), (6, .int (nI i1)), (4, .int 2), (3, .int 2), (2, .int 0), (1, .int (nI t1)), (0, .ref ra)]) hx hb d_Ref_encode_216 hl (by decide) rfl ?_
                      clear hl ls
                      intro ls hl
                      refine lv_iinc (v := nI (i1 + 1)) (lv' := [(6, .int (nI (i1 + 1))), (5, .int (nI (ctB (inB sf t1 2) (i1 + 1)))), (4, .int 2), (3, .int 2), (2, .int 0), (1, .int (nI t1)), (0, .ref ra)]) hx hb d_Ref_encode_218 hl (k := 1) rfl (by exact nI_1 i1) (by decide) rfl ?_
                      clear hl ls
                      intro ls hl
                      refine lv_goto (tgt := 184) hx hb d_Ref_encode_221 (by decide) ?_
                      refine tp_pc (pc' := 184) (by rfl) ?_
                      obtain ⟨hP8, -, -⟩ := cut3 (wc := [oc ra 8 [.int (nI T), .int (nI Ac), .ref (rA 2), .ref (rA 3), .ref (rA 4), .ref (rA 5), .ref (rA 6), .ref (rA 7), .ref (rA 8), .ref (rA 9), .ref (rA 10), .ref (rA 11), .ref (rA 12), .ref (rA 13), .int ir, .ref (rA 15), .ref (rA 16), .ref (rA 17), .ref (rA 18), .int (nI md), .int (nI wd), .ref (rA 21), .ref (rA 22), .ref (rA 23), .int (nI mn), .ref (rA 25), .int (nI (szB (((LQ ++ mpL (buB 2 sf nb) t1) ++ bkB sf nb t1 0) ++ bkB sf nb t1 1))), .int mr, .ref (rA 28), .ref (rA 29), .ref (rA 30), .ref (rA 31), .ref (rA 32), .ref (rA 33), .ref (rA 34), .ref (rA 35), .int (nI ld), .int (nI gm), .ref (rA 38), .ref (rA 39), .ref (rA 40), .ref (rA 41), .ref (rA 42), .ref (rA 43), .ref (rA 44), .ref (rA 45), .int (nI my), .ref (rA 47)], la (rA 25) (rK9 25) 5 ((wrB (((LQ ++ mpL (buB 2 sf nb) t1) ++ bkB sf nb t1 0) ++ bkB sf nb t1 1)).1), ia (rA 16) (rK9 16) 155 sf]) hP hD rfl hS hA [1, 0, 2] (by decide +kernel) rfl
                      exact ih_i1 _ _ _ ⟨hP8, hS, lv_sub hl [0, 1, 2, 3, 4, 5, 6] rfl⟩
                  · intro H locs ls hI
                    obtain ⟨hP, hS, hl⟩ := hI
                    have ml := ctB_le (p := inB sf t1 2) nb
                    refine lv_iload hx hb d_Ref_encode_184 (lv_at hl 0 rfl) ?_
                    refine lv_aload_n hx hb d_Ref_encode_186 rfl (lv_at hl 6 rfl) ?_
                    refine va_get (D := (dC, dI)) (ci := 8) (v := .ref (rA 16)) (C := R_Ref) (T := F_Ref) (N := 48) hx hb hw i_Ref hown hK hP 0 rfl rfl 16 (by decide) (hw _ m_915) (fun _ h9 => h9) rfl d_Ref_encode_187 ?_
                    refine lv_bipush (v := 15) hx hb d_Ref_encode_190 (by decide) ?_
                    refine va_iald (D := (dC, dI)) hx hb hK hP 2 1 rfl rfl (i := 15) (pk_in 15 155 (by omega)) d_Ref_encode_192 ?_
                    refine tp_i (y := sf 15) (by rw [show (15 : Int32).toNatClampNeg = 15 from pk_cl 15]) ?_
                    refine tp_i (y := nI nb) hnb ?_
                    refine lv_icmp_ge (tgt := 224) hx hb d_Ref_encode_193 (by decide) (fun c9 => ?_) (fun c9 => absurd (nI_le (Nat.le_refl nb) (by omega)) c9)
                    have g3_2 : szB (bkB sf nb t1 2) = 3 + szB (mpL (blB sf t1 2) nb) := rfl
                    refine tp_pc (pc' := 224) (by rfl) ?_
                    refine lv_aload_n hx hb d_Ref_encode_224 rfl (lv_at hl 6 rfl) ?_
                    refine lv_iload hx hb d_Ref_encode_225 (lv_at hl 1 rfl) ?_
                    refine lv_i2l (v := (nI (ctB (inB sf t1 2) nb)).toInt64) hx hb d_Ref_encode_227 rfl ?_
                    refine lv_iconst (v := 3) hx hb d_Ref_encode_228 (by decide) ?_
                    refine tp_i (y := nI 3) rfl ?_
                    obtain ⟨hPc, hDc, hFc⟩ := cut3 (wc := [oc ra 8 [.int (nI T), .int (nI Ac), .ref (rA 2), .ref (rA 3), .ref (rA 4), .ref (rA 5), .ref (rA 6), .ref (rA 7), .ref (rA 8), .ref (rA 9), .ref (rA 10), .ref (rA 11), .ref (rA 12), .ref (rA 13), .int ir, .ref (rA 15), .ref (rA 16), .ref (rA 17), .ref (rA 18), .int (nI md), .int (nI wd), .ref (rA 21), .ref (rA 22), .ref (rA 23), .int (nI mn), .ref (rA 25), .int (nI (szB (((LQ ++ mpL (buB 2 sf nb) t1) ++ bkB sf nb t1 0) ++ bkB sf nb t1 1))), .int mr, .ref (rA 28), .ref (rA 29), .ref (rA 30), .ref (rA 31), .ref (rA 32), .ref (rA 33), .ref (rA 34), .ref (rA 35), .int (nI ld), .int (nI gm), .ref (rA 38), .ref (rA 39), .ref (rA 40), .ref (rA 41), .ref (rA 42), .ref (rA 43), .ref (rA 44), .ref (rA 45), .int (nI my), .ref (rA 47)], la (rA 25) (rK9 25) 5 ((wrB (((LQ ++ mpL (buB 2 sf nb) t1) ++ bkB sf nb t1 0) ++ bkB sf nb t1 1)).1)]) hP hD rfl hS hA [0, 1] (by decide +kernel) rfl
                    have hKc := hK.sub (tys' := [((rK9 25), .long)]) [0] rfl
                    refine va_callv (va_runV (As := [.long ((nI (ctB (inB sf t1 2) nb)).toInt64), .int (nI 3)]) (rest := []) ⟨hx, hb, hml, hown, hw⟩ (gen_Ref_bitsL l dC dI ra rA rK9 T Ac md wd mn (szB (((LQ ++ mpL (buB 2 sf nb) t1) ++ bkB sf nb t1 0) ++ bkB sf nb t1 1)) ld gm my ir mr ((nI (ctB (inB sf t1 2) nb)).toInt64) 3 (((LQ ++ mpL (buB 2 sf nb) t1) ++ bkB sf nb t1 0) ++ bkB sf nb t1 1) ((((LQ ++ mpL (buB 2 sf nb) t1) ++ bkB sf nb t1 0) ++ bkB sf nb t1 1) ++ [((nI (ctB (inB sf t1 2) nb)).toInt64, 3)]) (rfl) rfl (by decide) (by decide) (by simp only [szB_app, szB_1];  omega) H.size) (cw_V 2 hw g_Ref_bits rfl rfl rfl (hw _ m_109) (hw _ m_1093) (hw _ m_1095) (hw _ m_58) (by decide +kernel) ⟨Nat.le_of_ble_eq_true rfl, Nat.le_of_ble_eq_true rfl⟩) ⟨fun a U g mk q => by obtain ⟨q0, q1, qP, qK, qD, qN⟩ := q; exact ⟨q0, q1, qP, va_K.moved (u := U) (U := U.calling g mk a) (Vm.Alike.refl U.vm) qK, qD, nw_call qN⟩, va_recv hKc hPc (ci := 8) (q0 := 0) rfl rfl, fun U hU hW => ⟨rfl, by rw [hU], by rw [hU]; exact hPc, va_K.moved hW.alike hKc, hDc.weaken (fun _ _ _ _ => trivial), nw_warm hW hn⟩⟩ rfl rfl hl.1 rfl (lv_room (Nat.le_of_ble_eq_true rfl)) d_Ref_encode_229 ⟨Nat.le_of_ble_eq_true rfl, Nat.le_of_ble_eq_true rfl⟩) hS (fun q _ h => hFc q h) hFc ?_
                    intro u t9 H1 locs1 ht9 hvm hw1 hB hz1 hk1 hS1
                    obtain ⟨hP1, hK1, hD1⟩ := hB
                    rw [ht9] at hP1
                    replace hK1 := va_K.moved hvm.symm hK1
                    have hPD := join3 hP hD rfl [0, 1] [2] rfl (by rfl) (by decide +kernel) (by decide +kernel) hk1 hFc hP1 hD1
                    replace hK : va_K (dC, dI) classes [((rK9 25), .long), ((rK9 16), .int)] s := hK.app hK1
                    clear hP1 hK1 hD1 hk1 hz1 hFc hKc hDc hPc hvm ht9 hP hS t9 locs H
                    have hP : va_P (dC, dI) classes [ia (rA 16) (rK9 16) 155 sf, oc ra 8 [.int (nI T), .int (nI Ac), .ref (rA 2), .ref (rA 3), .ref (rA 4), .ref (rA 5), .ref (rA 6), .ref (rA 7), .ref (rA 8), .ref (rA 9), .ref (rA 10), .ref (rA 11), .ref (rA 12), .ref (rA 13), .int ir, .ref (rA 15), .ref (rA 16), .ref (rA 17), .ref (rA 18), .int (nI md), .int (nI wd), .ref (rA 21), .ref (rA 22), .ref (rA 23), .int (nI mn), .ref (rA 25), .int (nI (szB ((((LQ ++ mpL (buB 2 sf nb) t1) ++ bkB sf nb t1 0) ++ bkB sf nb t1 1) ++ [((nI (ctB (inB sf t1 2) nb)).toInt64, 3)]))), .int mr, .ref (rA 28), .ref (rA 29), .ref (rA 30), .ref (rA 31), .ref (rA 32), .ref (rA 33), .ref (rA 34), .ref (rA 35), .int (nI ld), .int (nI gm), .ref (rA 38), .ref (rA 39), .ref (rA 40), .ref (rA 41), .ref (rA 42), .ref (rA 43), .ref (rA 44), .ref (rA 45), .int (nI my), .ref (rA 47)], la (rA 25) (rK9 25) 5 ((wrB ((((LQ ++ mpL (buB 2 sf nb) t1) ++ bkB sf nb t1 0) ++ bkB sf nb t1 1) ++ [((nI (ctB (inB sf t1 2) nb)).toInt64, 3)])).1)] H1 := hPD.1
                    replace hD : dd A [(rA 16), ra, (rA 25)] := dd_of hPD.2 rfl
                    clear hPD
                    revert H1 locs1
                    intro H locs hS hP
                    clear hw1 u
                    refine tp_pc (pc' := 232) (by rfl) ?_
                    refine lv_iconst (v := 0) hx hb d_Ref_encode_232 (by decide) ?_
                    refine lv_istore (lv' := [(6, .int 0), (5, .int (nI (ctB (inB sf t1 2) nb))), (4, .int 2), (3, .int 2), (2, .int 0), (1, .int (nI t1)), (0, .ref ra)]) hx hb d_Ref_encode_233 hl (by decide) rfl ?_
                    clear hl ls
                    intro ls hl
                    obtain ⟨hP8, hD8, -⟩ := cut3 (wc := [oc ra 8 [.int (nI T), .int (nI Ac), .ref (rA 2), .ref (rA 3), .ref (rA 4), .ref (rA 5), .ref (rA 6), .ref (rA 7), .ref (rA 8), .ref (rA 9), .ref (rA 10), .ref (rA 11), .ref (rA 12), .ref (rA 13), .int ir, .ref (rA 15), .ref (rA 16), .ref (rA 17), .ref (rA 18), .int (nI md), .int (nI wd), .ref (rA 21), .ref (rA 22), .ref (rA 23), .int (nI mn), .ref (rA 25), .int (nI (szB ((((LQ ++ mpL (buB 2 sf nb) t1) ++ bkB sf nb t1 0) ++ bkB sf nb t1 1) ++ [((nI (ctB (inB sf t1 2) nb)).toInt64, 3)]))), .int mr, .ref (rA 28), .ref (rA 29), .ref (rA 30), .ref (rA 31), .ref (rA 32), .ref (rA 33), .ref (rA 34), .ref (rA 35), .int (nI ld), .int (nI gm), .ref (rA 38), .ref (rA 39), .ref (rA 40), .ref (rA 41), .ref (rA 42), .ref (rA 43), .ref (rA 44), .ref (rA 45), .int (nI my), .ref (rA 47)], la (rA 25) (rK9 25) 5 ((wrB ((((LQ ++ mpL (buB 2 sf nb) t1) ++ bkB sf nb t1 0) ++ bkB sf nb t1 1) ++ [((nI (ctB (inB sf t1 2) nb)).toInt64, 3)])).1), ia (rA 16) (rK9 16) 155 sf]) hP hD rfl hS hA [1, 2, 0] (by decide +kernel) rfl
                    clear hP
                    have hP : va_P (dC, dI) classes [oc ra 8 [.int (nI T), .int (nI Ac), .ref (rA 2), .ref (rA 3), .ref (rA 4), .ref (rA 5), .ref (rA 6), .ref (rA 7), .ref (rA 8), .ref (rA 9), .ref (rA 10), .ref (rA 11), .ref (rA 12), .ref (rA 13), .int ir, .ref (rA 15), .ref (rA 16), .ref (rA 17), .ref (rA 18), .int (nI md), .int (nI wd), .ref (rA 21), .ref (rA 22), .ref (rA 23), .int (nI mn), .ref (rA 25), .int (nI (szB ((((LQ ++ mpL (buB 2 sf nb) t1) ++ bkB sf nb t1 0) ++ bkB sf nb t1 1) ++ [((nI (ctB (inB sf t1 2) nb)).toInt64, 3)]))), .int mr, .ref (rA 28), .ref (rA 29), .ref (rA 30), .ref (rA 31), .ref (rA 32), .ref (rA 33), .ref (rA 34), .ref (rA 35), .int (nI ld), .int (nI gm), .ref (rA 38), .ref (rA 39), .ref (rA 40), .ref (rA 41), .ref (rA 42), .ref (rA 43), .ref (rA 44), .ref (rA 45), .int (nI my), .ref (rA 47)], la (rA 25) (rK9 25) 5 ((wrB ((((LQ ++ mpL (buB 2 sf nb) t1) ++ bkB sf nb t1 0) ++ bkB sf nb t1 1) ++ [((nI (ctB (inB sf t1 2) nb)).toInt64, 3)])).1), ia (rA 16) (rK9 16) 155 sf] H := hP8
                    clear hP8
                    replace hD : dd A [ra, (rA 25), (rA 16)] := dd_of hD8 rfl
                    clear hD8
                    replace hP : va_P (dC, dI) classes [oc ra 8 [.int (nI T), .int (nI Ac), .ref (rA 2), .ref (rA 3), .ref (rA 4), .ref (rA 5), .ref (rA 6), .ref (rA 7), .ref (rA 8), .ref (rA 9), .ref (rA 10), .ref (rA 11), .ref (rA 12), .ref (rA 13), .int ir, .ref (rA 15), .ref (rA 16), .ref (rA 17), .ref (rA 18), .int (nI md), .int (nI wd), .ref (rA 21), .ref (rA 22), .ref (rA 23), .int (nI mn), .ref (rA 25), .int (nI (szB (((((LQ ++ mpL (buB 2 sf nb) t1) ++ bkB sf nb t1 0) ++ bkB sf nb t1 1) ++ [((nI (ctB (inB sf t1 2) nb)).toInt64, 3)]) ++ mpL (blB sf t1 2) 0))), .int mr, .ref (rA 28), .ref (rA 29), .ref (rA 30), .ref (rA 31), .ref (rA 32), .ref (rA 33), .ref (rA 34), .ref (rA 35), .int (nI ld), .int (nI gm), .ref (rA 38), .ref (rA 39), .ref (rA 40), .ref (rA 41), .ref (rA 42), .ref (rA 43), .ref (rA 44), .ref (rA 45), .int (nI my), .ref (rA 47)], la (rA 25) (rK9 25) 5 ((wrB (((((LQ ++ mpL (buB 2 sf nb) t1) ++ bkB sf nb t1 0) ++ bkB sf nb t1 1) ++ [((nI (ctB (inB sf t1 2) nb)).toInt64, 3)]) ++ mpL (blB sf t1 2) 0)).1), ia (rA 16) (rK9 16) 155 sf] H := by rw [mpL_0, List.append_nil]; exact hP
                    replace hP : va_P (dC, dI) classes [oc ra 8 [.int (nI T), .int (nI Ac), .ref (rA 2), .ref (rA 3), .ref (rA 4), .ref (rA 5), .ref (rA 6), .ref (rA 7), .ref (rA 8), .ref (rA 9), .ref (rA 10), .ref (rA 11), .ref (rA 12), .ref (rA 13), .int ir, .ref (rA 15), .ref (rA 16), .ref (rA 17), .ref (rA 18), .int (nI md), .int (nI wd), .ref (rA 21), .ref (rA 22), .ref (rA 23), .int (nI mn), .ref (rA 25), .int (nI (szB (((((LQ ++ mpL (buB 2 sf nb) t1) ++ bkB sf nb t1 0) ++ bkB sf nb t1 1) ++ [((nI (ctB (inB sf t1 2) nb)).toInt64, 3)]) ++ mpL (blB sf t1 2) 0))), .int mr, .ref (rA 28), .ref (rA 29), .ref (rA 30), .ref (rA 31), .ref (rA 32), .ref (rA 33), .ref (rA 34), .ref (rA 35), .int (nI ld), .int (nI gm), .ref (rA 38), .ref (rA 39), .ref (rA 40), .ref (rA 41), .ref (rA 42), .ref (rA 43), .ref (rA 44), .ref (rA 45), .int (nI my), .ref (rA 47)], la (rA 25) (rK9 25) 5 ((wrB (((((LQ ++ mpL (buB 2 sf nb) t1) ++ bkB sf nb t1 0) ++ bkB sf nb t1 1) ++ [((nI (ctB (inB sf t1 2) nb)).toInt64, 3)]) ++ mpL (blB sf t1 2) 0)).1), ia (rA 16) (rK9 16) 155 sf] H := hP
                    replace hl : lv_has ls 7 [(6, .int (nI 0)), (5, .int (nI (ctB (inB sf t1 2) nb))), (4, .int 2), (3, .int 2), (2, .int 0), (1, .int (nI t1)), (0, .ref ra)] := hl
                    refine lp_n nb (fun i1 H locs ls => va_P (dC, dI) classes [oc ra 8 [.int (nI T), .int (nI Ac), .ref (rA 2), .ref (rA 3), .ref (rA 4), .ref (rA 5), .ref (rA 6), .ref (rA 7), .ref (rA 8), .ref (rA 9), .ref (rA 10), .ref (rA 11), .ref (rA 12), .ref (rA 13), .int ir, .ref (rA 15), .ref (rA 16), .ref (rA 17), .ref (rA 18), .int (nI md), .int (nI wd), .ref (rA 21), .ref (rA 22), .ref (rA 23), .int (nI mn), .ref (rA 25), .int (nI (szB (((((LQ ++ mpL (buB 2 sf nb) t1) ++ bkB sf nb t1 0) ++ bkB sf nb t1 1) ++ [((nI (ctB (inB sf t1 2) nb)).toInt64, 3)]) ++ mpL (blB sf t1 2) i1))), .int mr, .ref (rA 28), .ref (rA 29), .ref (rA 30), .ref (rA 31), .ref (rA 32), .ref (rA 33), .ref (rA 34), .ref (rA 35), .int (nI ld), .int (nI gm), .ref (rA 38), .ref (rA 39), .ref (rA 40), .ref (rA 41), .ref (rA 42), .ref (rA 43), .ref (rA 44), .ref (rA 45), .int (nI my), .ref (rA 47)], la (rA 25) (rK9 25) 5 ((wrB (((((LQ ++ mpL (buB 2 sf nb) t1) ++ bkB sf nb t1 0) ++ bkB sf nb t1 1) ++ [((nI (ctB (inB sf t1 2) nb)).toInt64, 3)]) ++ mpL (blB sf t1 2) i1)).1), ia (rA 16) (rK9 16) 155 sf] H ∧ va_S A s.heap H locs ∧ lv_has ls 7 [(6, .int (nI i1)), (5, .int (nI (ctB (inB sf t1 2) nb))), (4, .int 2), (3, .int 2), (2, .int 0), (1, .int (nI t1)), (0, .ref ra)]) ⟨hP, hS, hl⟩ ?_ ?_
                    · intro i1 H locs ls hi1 hI ih_i1
                      obtain ⟨hP, hS, hl⟩ := hI
                      have g4 := szB_mono (f := blB sf t1 2) hi1
                      refine lv_iload hx hb d_Ref_encode_235 (lv_at hl 0 rfl) ?_
                      refine lv_aload_n hx hb d_Ref_encode_237 rfl (lv_at hl 6 rfl) ?_
                      refine va_get (D := (dC, dI)) (ci := 8) (v := .ref (rA 16)) (C := R_Ref) (T := F_Ref) (N := 48) hx hb hw i_Ref hown hK hP 0 rfl rfl 16 (by decide) (hw _ m_915) (fun _ h9 => h9) rfl d_Ref_encode_238 ?_
                      refine lv_bipush (v := 15) hx hb d_Ref_encode_241 (by decide) ?_
                      refine va_iald (D := (dC, dI)) hx hb hK hP 2 1 rfl rfl (i := 15) (pk_in 15 155 (by omega)) d_Ref_encode_243 ?_
                      refine tp_i (y := sf 15) (by rw [show (15 : Int32).toNatClampNeg = 15 from pk_cl 15]) ?_
                      refine tp_i (y := nI nb) hnb ?_
                      refine lv_icmp_ge (tgt := 301) hx hb d_Ref_encode_244 (by decide) (fun c9 => absurd c9 (nI_ge hi1 (by omega))) (fun c9 => ?_)
                      refine tp_pc (pc' := 247) (by rfl) ?_
                      refine lv_aload_n hx hb d_Ref_encode_247 rfl (lv_at hl 6 rfl) ?_
                      refine lv_iload hx hb d_Ref_encode_248 (lv_at hl 0 rfl) ?_
                      refine lv_iload_n hx hb d_Ref_encode_250 rfl (lv_at hl 5 rfl) ?_
                      refine lv_iload hx hb d_Ref_encode_251 (lv_at hl 2 rfl) ?_
                      obtain ⟨hPc, hDc, hFc⟩ := cut3 (wc := [oc ra 8 [.int (nI T), .int (nI Ac), .ref (rA 2), .ref (rA 3), .ref (rA 4), .ref (rA 5), .ref (rA 6), .ref (rA 7), .ref (rA 8), .ref (rA 9), .ref (rA 10), .ref (rA 11), .ref (rA 12), .ref (rA 13), .int ir, .ref (rA 15), .ref (rA 16), .ref (rA 17), .ref (rA 18), .int (nI md), .int (nI wd), .ref (rA 21), .ref (rA 22), .ref (rA 23), .int (nI mn), .ref (rA 25), .int (nI (szB (((((LQ ++ mpL (buB 2 sf nb) t1) ++ bkB sf nb t1 0) ++ bkB sf nb t1 1) ++ [((nI (ctB (inB sf t1 2) nb)).toInt64, 3)]) ++ mpL (blB sf t1 2) i1))), .int mr, .ref (rA 28), .ref (rA 29), .ref (rA 30), .ref (rA 31), .ref (rA 32), .ref (rA 33), .ref (rA 34), .ref (rA 35), .int (nI ld), .int (nI gm), .ref (rA 38), .ref (rA 39), .ref (rA 40), .ref (rA 41), .ref (rA 42), .ref (rA 43), .ref (rA 44), .ref (rA 45), .int (nI my), .ref (rA 47)], ia (rA 16) (rK9 16) 155 sf]) hP hD rfl hS hA [0, 2] (by decide +kernel) rfl
                      have hKc := hK.sub (tys' := [((rK9 16), .int)]) [1] rfl
                      refine va_calli (va_runV (As := [.int (nI i1), .int (nI t1), .int 2]) (rest := []) ⟨hx, hb, hml, hown, hw⟩ (gen_Ref_isIn l dC dI ra rA rK9 T Ac md wd mn (szB (((((LQ ++ mpL (buB 2 sf nb) t1) ++ bkB sf nb t1 0) ++ bkB sf nb t1 1) ++ [((nI (ctB (inB sf t1 2) nb)).toInt64, 3)]) ++ mpL (blB sf t1 2) i1)) ld gm my ir mr i1 t1 2 sf (by omega) H.size) (cw_V 3 hw g_Ref_isIn rfl rfl rfl (hw _ m_109) (hw _ m_1105) (hw _ m_1107) (hw _ m_61) (by decide +kernel) ⟨Nat.le_of_ble_eq_true rfl, Nat.le_of_ble_eq_true rfl⟩) ⟨fun a U g mk q => by obtain ⟨q0, q1, qP, qK, qD, qN⟩ := q; exact ⟨q0, q1, qP, va_K.moved (u := U) (U := U.calling g mk a) (Vm.Alike.refl U.vm) qK, qD, nw_call qN⟩, va_recv hKc hPc (ci := 8) (q0 := 0) rfl rfl, fun U hU hW => ⟨rfl, by rw [hU], by rw [hU]; exact hPc, va_K.moved hW.alike hKc, hDc.weaken (fun _ _ _ _ => trivial), nw_warm hW hn⟩⟩ rfl rfl hl.1 rfl (lv_room (Nat.le_of_ble_eq_true rfl)) d_Ref_encode_253 ⟨Nat.le_of_ble_eq_true rfl, Nat.le_of_ble_eq_true rfl⟩) hS (fun q _ h => hFc q h) hFc ?_
                      intro r_38 u t9 H1 locs1 ht9 hvm hw1 hB hz1 hk1 hS1
                      obtain ⟨hP1, hK1, hD1⟩ := hB
                      rw [ht9] at hP1
                      replace hK1 := va_K.moved hvm.symm hK1
                      have hPD := join3 hP hD rfl [0, 2] [1] rfl (by rfl) (by decide +kernel) (by decide +kernel) hk1 hFc hP1 hD1
                      replace hK : va_K (dC, dI) classes [((rK9 25), .long), ((rK9 16), .int)] s := hK.app hK1
                      clear hP1 hK1 hD1 hk1 hz1 hFc hKc hDc hPc hvm ht9 hP hS t9 locs H
                      have hP : va_P (dC, dI) classes [la (rA 25) (rK9 25) 5 ((wrB (((((LQ ++ mpL (buB 2 sf nb) t1) ++ bkB sf nb t1 0) ++ bkB sf nb t1 1) ++ [((nI (ctB (inB sf t1 2) nb)).toInt64, 3)]) ++ mpL (blB sf t1 2) i1)).1), oc ra 8 [.int (nI T), .int (nI Ac), .ref (rA 2), .ref (rA 3), .ref (rA 4), .ref (rA 5), .ref (rA 6), .ref (rA 7), .ref (rA 8), .ref (rA 9), .ref (rA 10), .ref (rA 11), .ref (rA 12), .ref (rA 13), .int ir, .ref (rA 15), .ref (rA 16), .ref (rA 17), .ref (rA 18), .int (nI md), .int (nI wd), .ref (rA 21), .ref (rA 22), .ref (rA 23), .int (nI mn), .ref (rA 25), .int (nI (szB (((((LQ ++ mpL (buB 2 sf nb) t1) ++ bkB sf nb t1 0) ++ bkB sf nb t1 1) ++ [((nI (ctB (inB sf t1 2) nb)).toInt64, 3)]) ++ mpL (blB sf t1 2) i1))), .int mr, .ref (rA 28), .ref (rA 29), .ref (rA 30), .ref (rA 31), .ref (rA 32), .ref (rA 33), .ref (rA 34), .ref (rA 35), .int (nI ld), .int (nI gm), .ref (rA 38), .ref (rA 39), .ref (rA 40), .ref (rA 41), .ref (rA 42), .ref (rA 43), .ref (rA 44), .ref (rA 45), .int (nI my), .ref (rA 47)], ia (rA 16) (rK9 16) 155 sf] H1 := hPD.1
                      replace hD : dd A [(rA 25), ra, (rA 16)] := dd_of hPD.2 rfl
                      clear hPD
                      revert H1 locs1
                      intro H locs hS hP
                      refine tp_i (y := (if sf (16 + i1) = nI t1 ∧ ((2 : Int32) < 0 ∨ sf (23 + i1) = 2) then 1 else 0)) (hw1) ?_
                      clear hw1 r_38 u
                      by_cases hcd : sf (16 + i1) = nI t1 ∧ ((2 : Int32) < 0 ∨ sf (23 + i1) = 2)
                      · skip
                        rw [if_pos hcd]
                        have hib : inB sf t1 2 i1 = true := by unfold inB; exact decide_eq_true hcd
                        have hbl : blB sf t1 2 i1 = [((sf (23 + i1)).toInt64, 2), ((sf (30 + i1) + 64).toInt64, 7)] := by unfold blB; rw [if_pos hib]
                        have g5 : szB (blB sf t1 2 i1) = 9 := by rw [hbl]; rfl
                        refine tp_pc (pc' := 256) (by rfl) ?_
                        refine lv_if_eq (tgt := 295) hx hb d_Ref_encode_256 (by decide) (fun c_39 => absurd c_39 (by decide)) (fun c_39 => ?_)
                        refine tp_pc (pc' := 259) (by rfl) ?_
                        refine lv_aload_n hx hb d_Ref_encode_259 rfl (lv_at hl 6 rfl) ?_
                        refine lv_aload_n hx hb d_Ref_encode_260 rfl (lv_at hl 6 rfl) ?_
                        refine va_get (D := (dC, dI)) (ci := 8) (v := .ref (rA 16)) (C := R_Ref) (T := F_Ref) (N := 48) hx hb hw i_Ref hown hK hP 1 rfl rfl 16 (by decide) (hw _ m_915) (fun _ h9 => h9) rfl d_Ref_encode_261 ?_
                        refine lv_bipush (v := 23) hx hb d_Ref_encode_264 (by decide) ?_
                        refine lv_iload hx hb d_Ref_encode_266 (lv_at hl 0 rfl) ?_
                        refine lv_iadd hx hb d_Ref_encode_268 ?_
                        refine tp_i (y := nI (23 + i1)) (by exact nI_add 23 i1) ?_
                        refine va_iald (D := (dC, dI)) hx hb hK hP 2 1 rfl rfl (i := nI (23 + i1)) (pk_in (23 + i1) 155 (by omega)) d_Ref_encode_269 ?_
                        refine tp_i (y := sf (23 + i1)) (by rw [show (nI (23 + i1) : Int32).toNatClampNeg = 23 + i1 from pk_cl (23 + i1)]) ?_
                        refine lv_i2l (v := (sf (23 + i1)).toInt64) hx hb d_Ref_encode_270 rfl ?_
                        refine lv_iconst (v := 2) hx hb d_Ref_encode_271 (by decide) ?_
                        refine tp_i (y := nI 2) rfl ?_
                        obtain ⟨hPc, hDc, hFc⟩ := cut3 (wc := [oc ra 8 [.int (nI T), .int (nI Ac), .ref (rA 2), .ref (rA 3), .ref (rA 4), .ref (rA 5), .ref (rA 6), .ref (rA 7), .ref (rA 8), .ref (rA 9), .ref (rA 10), .ref (rA 11), .ref (rA 12), .ref (rA 13), .int ir, .ref (rA 15), .ref (rA 16), .ref (rA 17), .ref (rA 18), .int (nI md), .int (nI wd), .ref (rA 21), .ref (rA 22), .ref (rA 23), .int (nI mn), .ref (rA 25), .int (nI (szB (((((LQ ++ mpL (buB 2 sf nb) t1) ++ bkB sf nb t1 0) ++ bkB sf nb t1 1) ++ [((nI (ctB (inB sf t1 2) nb)).toInt64, 3)]) ++ mpL (blB sf t1 2) i1))), .int mr, .ref (rA 28), .ref (rA 29), .ref (rA 30), .ref (rA 31), .ref (rA 32), .ref (rA 33), .ref (rA 34), .ref (rA 35), .int (nI ld), .int (nI gm), .ref (rA 38), .ref (rA 39), .ref (rA 40), .ref (rA 41), .ref (rA 42), .ref (rA 43), .ref (rA 44), .ref (rA 45), .int (nI my), .ref (rA 47)], la (rA 25) (rK9 25) 5 ((wrB (((((LQ ++ mpL (buB 2 sf nb) t1) ++ bkB sf nb t1 0) ++ bkB sf nb t1 1) ++ [((nI (ctB (inB sf t1 2) nb)).toInt64, 3)]) ++ mpL (blB sf t1 2) i1)).1)]) hP hD rfl hS hA [1, 0] (by decide +kernel) rfl
                        have hKc := hK.sub (tys' := [((rK9 25), .long)]) [0] rfl
                        refine va_callv (va_runV (As := [.long ((sf (23 + i1)).toInt64), .int (nI 2)]) (rest := []) ⟨hx, hb, hml, hown, hw⟩ (gen_Ref_bitsL l dC dI ra rA rK9 T Ac md wd mn (szB (((((LQ ++ mpL (buB 2 sf nb) t1) ++ bkB sf nb t1 0) ++ bkB sf nb t1 1) ++ [((nI (ctB (inB sf t1 2) nb)).toInt64, 3)]) ++ mpL (blB sf t1 2) i1)) ld gm my ir mr ((sf (23 + i1)).toInt64) 2 (((((LQ ++ mpL (buB 2 sf nb) t1) ++ bkB sf nb t1 0) ++ bkB sf nb t1 1) ++ [((nI (ctB (inB sf t1 2) nb)).toInt64, 3)]) ++ mpL (blB sf t1 2) i1) ((((((LQ ++ mpL (buB 2 sf nb) t1) ++ bkB sf nb t1 0) ++ bkB sf nb t1 1) ++ [((nI (ctB (inB sf t1 2) nb)).toInt64, 3)]) ++ mpL (blB sf t1 2) i1) ++ [((sf (23 + i1)).toInt64, 2)]) (rfl) rfl (by decide) (by decide) (by simp only [szB_app, szB_1];  omega) H.size) (cw_V 2 hw g_Ref_bits rfl rfl rfl (hw _ m_109) (hw _ m_1093) (hw _ m_1095) (hw _ m_58) (by decide +kernel) ⟨Nat.le_of_ble_eq_true rfl, Nat.le_of_ble_eq_true rfl⟩) ⟨fun a U g mk q => by obtain ⟨q0, q1, qP, qK, qD, qN⟩ := q; exact ⟨q0, q1, qP, va_K.moved (u := U) (U := U.calling g mk a) (Vm.Alike.refl U.vm) qK, qD, nw_call qN⟩, va_recv hKc hPc (ci := 8) (q0 := 0) rfl rfl, fun U hU hW => ⟨rfl, by rw [hU], by rw [hU]; exact hPc, va_K.moved hW.alike hKc, hDc.weaken (fun _ _ _ _ => trivial), nw_warm hW hn⟩⟩ rfl rfl hl.1 rfl (lv_room (Nat.le_of_ble_eq_true rfl)) d_Ref_encode_272 ⟨Nat.le_of_ble_eq_true rfl, Nat.le_of_ble_eq_true rfl⟩) hS (fun q _ h => hFc q h) hFc ?_
                        intro u t9 H1 locs1 ht9 hvm hw1 hB hz1 hk1 hS1
                        obtain ⟨hP1, hK1, hD1⟩ := hB
                        rw [ht9] at hP1
                        replace hK1 := va_K.moved hvm.symm hK1
                        have hPD := join3 hP hD rfl [1, 0] [2] rfl (by rfl) (by decide +kernel) (by decide +kernel) hk1 hFc hP1 hD1
                        replace hK : va_K (dC, dI) classes [((rK9 25), .long), ((rK9 16), .int)] s := hK.app hK1
                        clear hP1 hK1 hD1 hk1 hz1 hFc hKc hDc hPc hvm ht9 hP hS t9 locs H
                        have hP : va_P (dC, dI) classes [ia (rA 16) (rK9 16) 155 sf, oc ra 8 [.int (nI T), .int (nI Ac), .ref (rA 2), .ref (rA 3), .ref (rA 4), .ref (rA 5), .ref (rA 6), .ref (rA 7), .ref (rA 8), .ref (rA 9), .ref (rA 10), .ref (rA 11), .ref (rA 12), .ref (rA 13), .int ir, .ref (rA 15), .ref (rA 16), .ref (rA 17), .ref (rA 18), .int (nI md), .int (nI wd), .ref (rA 21), .ref (rA 22), .ref (rA 23), .int (nI mn), .ref (rA 25), .int (nI (szB ((((((LQ ++ mpL (buB 2 sf nb) t1) ++ bkB sf nb t1 0) ++ bkB sf nb t1 1) ++ [((nI (ctB (inB sf t1 2) nb)).toInt64, 3)]) ++ mpL (blB sf t1 2) i1) ++ [((sf (23 + i1)).toInt64, 2)]))), .int mr, .ref (rA 28), .ref (rA 29), .ref (rA 30), .ref (rA 31), .ref (rA 32), .ref (rA 33), .ref (rA 34), .ref (rA 35), .int (nI ld), .int (nI gm), .ref (rA 38), .ref (rA 39), .ref (rA 40), .ref (rA 41), .ref (rA 42), .ref (rA 43), .ref (rA 44), .ref (rA 45), .int (nI my), .ref (rA 47)], la (rA 25) (rK9 25) 5 ((wrB ((((((LQ ++ mpL (buB 2 sf nb) t1) ++ bkB sf nb t1 0) ++ bkB sf nb t1 1) ++ [((nI (ctB (inB sf t1 2) nb)).toInt64, 3)]) ++ mpL (blB sf t1 2) i1) ++ [((sf (23 + i1)).toInt64, 2)])).1)] H1 := hPD.1
                        replace hD : dd A [(rA 16), ra, (rA 25)] := dd_of hPD.2 rfl
                        clear hPD
                        revert H1 locs1
                        intro H locs hS hP
                        clear hw1 u
                        refine tp_pc (pc' := 275) (by rfl) ?_
                        refine lv_aload_n hx hb d_Ref_encode_275 rfl (lv_at hl 6 rfl) ?_
                        refine lv_aload_n hx hb d_Ref_encode_276 rfl (lv_at hl 6 rfl) ?_
                        refine va_get (D := (dC, dI)) (ci := 8) (v := .ref (rA 16)) (C := R_Ref) (T := F_Ref) (N := 48) hx hb hw i_Ref hown hK hP 1 rfl rfl 16 (by decide) (hw _ m_915) (fun _ h9 => h9) rfl d_Ref_encode_277 ?_
                        refine lv_bipush (v := 30) hx hb d_Ref_encode_280 (by decide) ?_
                        refine lv_iload hx hb d_Ref_encode_282 (lv_at hl 0 rfl) ?_
                        refine lv_iadd hx hb d_Ref_encode_284 ?_
                        refine tp_i (y := nI (30 + i1)) (by exact nI_add 30 i1) ?_
                        refine va_iald (D := (dC, dI)) hx hb hK hP 0 1 rfl rfl (i := nI (30 + i1)) (pk_in (30 + i1) 155 (by omega)) d_Ref_encode_285 ?_
                        refine tp_i (y := sf (30 + i1)) (by rw [show (nI (30 + i1) : Int32).toNatClampNeg = 30 + i1 from pk_cl (30 + i1)]) ?_
                        refine lv_bipush (v := 64) hx hb d_Ref_encode_286 (by decide) ?_
                        refine lv_iadd hx hb d_Ref_encode_288 ?_
                        refine tp_i (y := (sf (30 + i1)) + 64) rfl ?_
                        refine lv_i2l (v := ((sf (30 + i1)) + 64).toInt64) hx hb d_Ref_encode_289 rfl ?_
                        refine lv_bipush (v := 7) hx hb d_Ref_encode_290 (by decide) ?_
                        refine tp_i (y := nI 7) rfl ?_
                        obtain ⟨hPc, hDc, hFc⟩ := cut3 (wc := [oc ra 8 [.int (nI T), .int (nI Ac), .ref (rA 2), .ref (rA 3), .ref (rA 4), .ref (rA 5), .ref (rA 6), .ref (rA 7), .ref (rA 8), .ref (rA 9), .ref (rA 10), .ref (rA 11), .ref (rA 12), .ref (rA 13), .int ir, .ref (rA 15), .ref (rA 16), .ref (rA 17), .ref (rA 18), .int (nI md), .int (nI wd), .ref (rA 21), .ref (rA 22), .ref (rA 23), .int (nI mn), .ref (rA 25), .int (nI (szB ((((((LQ ++ mpL (buB 2 sf nb) t1) ++ bkB sf nb t1 0) ++ bkB sf nb t1 1) ++ [((nI (ctB (inB sf t1 2) nb)).toInt64, 3)]) ++ mpL (blB sf t1 2) i1) ++ [((sf (23 + i1)).toInt64, 2)]))), .int mr, .ref (rA 28), .ref (rA 29), .ref (rA 30), .ref (rA 31), .ref (rA 32), .ref (rA 33), .ref (rA 34), .ref (rA 35), .int (nI ld), .int (nI gm), .ref (rA 38), .ref (rA 39), .ref (rA 40), .ref (rA 41), .ref (rA 42), .ref (rA 43), .ref (rA 44), .ref (rA 45), .int (nI my), .ref (rA 47)], la (rA 25) (rK9 25) 5 ((wrB ((((((LQ ++ mpL (buB 2 sf nb) t1) ++ bkB sf nb t1 0) ++ bkB sf nb t1 1) ++ [((nI (ctB (inB sf t1 2) nb)).toInt64, 3)]) ++ mpL (blB sf t1 2) i1) ++ [((sf (23 + i1)).toInt64, 2)])).1)]) hP hD rfl hS hA [1, 2] (by decide +kernel) rfl
                        have hKc := hK.sub (tys' := [((rK9 25), .long)]) [0] rfl
                        refine va_callv (va_runV (As := [.long ((sf (30 + i1) + 64).toInt64), .int (nI 7)]) (rest := []) ⟨hx, hb, hml, hown, hw⟩ (gen_Ref_bitsL l dC dI ra rA rK9 T Ac md wd mn (szB ((((((LQ ++ mpL (buB 2 sf nb) t1) ++ bkB sf nb t1 0) ++ bkB sf nb t1 1) ++ [((nI (ctB (inB sf t1 2) nb)).toInt64, 3)]) ++ mpL (blB sf t1 2) i1) ++ [((sf (23 + i1)).toInt64, 2)])) ld gm my ir mr ((sf (30 + i1) + 64).toInt64) 7 ((((((LQ ++ mpL (buB 2 sf nb) t1) ++ bkB sf nb t1 0) ++ bkB sf nb t1 1) ++ [((nI (ctB (inB sf t1 2) nb)).toInt64, 3)]) ++ mpL (blB sf t1 2) i1) ++ [((sf (23 + i1)).toInt64, 2)]) (((((LQ ++ mpL (buB 2 sf nb) t1) ++ bkB sf nb t1 0) ++ bkB sf nb t1 1) ++ [((nI (ctB (inB sf t1 2) nb)).toInt64, 3)]) ++ mpL (blB sf t1 2) (i1 + 1)) (by rw [mpL_s i1, hbl]; simp only [List.append_assoc, List.cons_append, List.nil_append]) rfl (by decide) (by decide) (by rw [mpL_s i1, hbl]; simp only [szB_app, szB_1]; have g6 : szB [((sf (23 + i1)).toInt64, 2), ((sf (30 + i1) + 64).toInt64, 7)] = 9 := rfl; omega) H.size) (cw_V 2 hw g_Ref_bits rfl rfl rfl (hw _ m_109) (hw _ m_1093) (hw _ m_1095) (hw _ m_58) (by decide +kernel) ⟨Nat.le_of_ble_eq_true rfl, Nat.le_of_ble_eq_true rfl⟩) ⟨fun a U g mk q => by obtain ⟨q0, q1, qP, qK, qD, qN⟩ := q; exact ⟨q0, q1, qP, va_K.moved (u := U) (U := U.calling g mk a) (Vm.Alike.refl U.vm) qK, qD, nw_call qN⟩, va_recv hKc hPc (ci := 8) (q0 := 0) rfl rfl, fun U hU hW => ⟨rfl, by rw [hU], by rw [hU]; exact hPc, va_K.moved hW.alike hKc, hDc.weaken (fun _ _ _ _ => trivial), nw_warm hW hn⟩⟩ rfl rfl hl.1 rfl (lv_room (Nat.le_of_ble_eq_true rfl)) d_Ref_encode_292 ⟨Nat.le_of_ble_eq_true rfl, Nat.le_of_ble_eq_true rfl⟩) hS (fun q _ h => hFc q h) hFc ?_
                        intro u t9 H1 locs1 ht9 hvm hw1 hB hz1 hk1 hS1
                        obtain ⟨hP1, hK1, hD1⟩ := hB
                        rw [ht9] at hP1
                        replace hK1 := va_K.moved hvm.symm hK1
                        have hPD := join3 hP hD rfl [1, 2] [0] rfl (by rfl) (by decide +kernel) (by decide +kernel) hk1 hFc hP1 hD1
                        replace hK : va_K (dC, dI) classes [((rK9 25), .long), ((rK9 16), .int)] s := hK.app hK1
                        clear hP1 hK1 hD1 hk1 hz1 hFc hKc hDc hPc hvm ht9 hP hS t9 locs H
                        have hP : va_P (dC, dI) classes [ia (rA 16) (rK9 16) 155 sf, oc ra 8 [.int (nI T), .int (nI Ac), .ref (rA 2), .ref (rA 3), .ref (rA 4), .ref (rA 5), .ref (rA 6), .ref (rA 7), .ref (rA 8), .ref (rA 9), .ref (rA 10), .ref (rA 11), .ref (rA 12), .ref (rA 13), .int ir, .ref (rA 15), .ref (rA 16), .ref (rA 17), .ref (rA 18), .int (nI md), .int (nI wd), .ref (rA 21), .ref (rA 22), .ref (rA 23), .int (nI mn), .ref (rA 25), .int (nI (szB (((((LQ ++ mpL (buB 2 sf nb) t1) ++ bkB sf nb t1 0) ++ bkB sf nb t1 1) ++ [((nI (ctB (inB sf t1 2) nb)).toInt64, 3)]) ++ mpL (blB sf t1 2) (i1 + 1)))), .int mr, .ref (rA 28), .ref (rA 29), .ref (rA 30), .ref (rA 31), .ref (rA 32), .ref (rA 33), .ref (rA 34), .ref (rA 35), .int (nI ld), .int (nI gm), .ref (rA 38), .ref (rA 39), .ref (rA 40), .ref (rA 41), .ref (rA 42), .ref (rA 43), .ref (rA 44), .ref (rA 45), .int (nI my), .ref (rA 47)], la (rA 25) (rK9 25) 5 ((wrB (((((LQ ++ mpL (buB 2 sf nb) t1) ++ bkB sf nb t1 0) ++ bkB sf nb t1 1) ++ [((nI (ctB (inB sf t1 2) nb)).toInt64, 3)]) ++ mpL (blB sf t1 2) (i1 + 1))).1)] H1 := hPD.1
                        replace hD : dd A [(rA 16), ra, (rA 25)] := dd_of hPD.2 rfl
                        clear hPD
                        revert H1 locs1
                        intro H locs hS hP
                        clear hw1 u
                        refine tp_pc (pc' := 295) (by rfl) ?_
                        refine lv_iinc (v := nI (i1 + 1)) (lv' := [(6, .int (nI (i1 + 1))), (5, .int (nI (ctB (inB sf t1 2) nb))), (4, .int 2), (3, .int 2), (2, .int 0), (1, .int (nI t1)), (0, .ref ra)]) hx hb d_Ref_encode_295 hl (k := 0) rfl (by exact nI_1 i1) (by decide) rfl ?_
                        clear hl ls
                        intro ls hl
                        refine lv_goto (tgt := 235) hx hb d_Ref_encode_298 (by decide) ?_
                        refine tp_pc (pc' := 235) (by rfl) ?_
                        obtain ⟨hP8, -, -⟩ := cut3 (wc := [oc ra 8 [.int (nI T), .int (nI Ac), .ref (rA 2), .ref (rA 3), .ref (rA 4), .ref (rA 5), .ref (rA 6), .ref (rA 7), .ref (rA 8), .ref (rA 9), .ref (rA 10), .ref (rA 11), .ref (rA 12), .ref (rA 13), .int ir, .ref (rA 15), .ref (rA 16), .ref (rA 17), .ref (rA 18), .int (nI md), .int (nI wd), .ref (rA 21), .ref (rA 22), .ref (rA 23), .int (nI mn), .ref (rA 25), .int (nI (szB (((((LQ ++ mpL (buB 2 sf nb) t1) ++ bkB sf nb t1 0) ++ bkB sf nb t1 1) ++ [((nI (ctB (inB sf t1 2) nb)).toInt64, 3)]) ++ mpL (blB sf t1 2) (i1 + 1)))), .int mr, .ref (rA 28), .ref (rA 29), .ref (rA 30), .ref (rA 31), .ref (rA 32), .ref (rA 33), .ref (rA 34), .ref (rA 35), .int (nI ld), .int (nI gm), .ref (rA 38), .ref (rA 39), .ref (rA 40), .ref (rA 41), .ref (rA 42), .ref (rA 43), .ref (rA 44), .ref (rA 45), .int (nI my), .ref (rA 47)], la (rA 25) (rK9 25) 5 ((wrB (((((LQ ++ mpL (buB 2 sf nb) t1) ++ bkB sf nb t1 0) ++ bkB sf nb t1 1) ++ [((nI (ctB (inB sf t1 2) nb)).toInt64, 3)]) ++ mpL (blB sf t1 2) (i1 + 1))).1), ia (rA 16) (rK9 16) 155 sf]) hP hD rfl hS hA [1, 2, 0] (by decide +kernel) rfl
                        exact ih_i1 _ _ _ ⟨hP8, hS, lv_sub hl [0, 1, 2, 3, 4, 5, 6] rfl⟩
                      · skip
                        rw [if_neg hcd]
                        have hib : inB sf t1 2 i1 = false := by unfold inB; exact decide_eq_false hcd
                        have hbl : blB sf t1 2 i1 = [] := by unfold blB; rw [if_neg (by rw [hib]; decide)]
                        obtain ⟨hP8, hD8, -⟩ := cut3 (wc := [oc ra 8 [.int (nI T), .int (nI Ac), .ref (rA 2), .ref (rA 3), .ref (rA 4), .ref (rA 5), .ref (rA 6), .ref (rA 7), .ref (rA 8), .ref (rA 9), .ref (rA 10), .ref (rA 11), .ref (rA 12), .ref (rA 13), .int ir, .ref (rA 15), .ref (rA 16), .ref (rA 17), .ref (rA 18), .int (nI md), .int (nI wd), .ref (rA 21), .ref (rA 22), .ref (rA 23), .int (nI mn), .ref (rA 25), .int (nI (szB (((((LQ ++ mpL (buB 2 sf nb) t1) ++ bkB sf nb t1 0) ++ bkB sf nb t1 1) ++ [((nI (ctB (inB sf t1 2) nb)).toInt64, 3)]) ++ mpL (blB sf t1 2) i1))), .int mr, .ref (rA 28), .ref (rA 29), .ref (rA 30), .ref (rA 31), .ref (rA 32), .ref (rA 33), .ref (rA 34), .ref (rA 35), .int (nI ld), .int (nI gm), .ref (rA 38), .ref (rA 39), .ref (rA 40), .ref (rA 41), .ref (rA 42), .ref (rA 43), .ref (rA 44), .ref (rA 45), .int (nI my), .ref (rA 47)], la (rA 25) (rK9 25) 5 ((wrB (((((LQ ++ mpL (buB 2 sf nb) t1) ++ bkB sf nb t1 0) ++ bkB sf nb t1 1) ++ [((nI (ctB (inB sf t1 2) nb)).toInt64, 3)]) ++ mpL (blB sf t1 2) i1)).1), ia (rA 16) (rK9 16) 155 sf]) hP hD rfl hS hA [1, 0, 2] (by decide +kernel) rfl
                        clear hP
                        have hP : va_P (dC, dI) classes [oc ra 8 [.int (nI T), .int (nI Ac), .ref (rA 2), .ref (rA 3), .ref (rA 4), .ref (rA 5), .ref (rA 6), .ref (rA 7), .ref (rA 8), .ref (rA 9), .ref (rA 10), .ref (rA 11), .ref (rA 12), .ref (rA 13), .int ir, .ref (rA 15), .ref (rA 16), .ref (rA 17), .ref (rA 18), .int (nI md), .int (nI wd), .ref (rA 21), .ref (rA 22), .ref (rA 23), .int (nI mn), .ref (rA 25), .int (nI (szB (((((LQ ++ mpL (buB 2 sf nb) t1) ++ bkB sf nb t1 0) ++ bkB sf nb t1 1) ++ [((nI (ctB (inB sf t1 2) nb)).toInt64, 3)]) ++ mpL (blB sf t1 2) i1))), .int mr, .ref (rA 28), .ref (rA 29), .ref (rA 30), .ref (rA 31), .ref (rA 32), .ref (rA 33), .ref (rA 34), .ref (rA 35), .int (nI ld), .int (nI gm), .ref (rA 38), .ref (rA 39), .ref (rA 40), .ref (rA 41), .ref (rA 42), .ref (rA 43), .ref (rA 44), .ref (rA 45), .int (nI my), .ref (rA 47)], la (rA 25) (rK9 25) 5 ((wrB (((((LQ ++ mpL (buB 2 sf nb) t1) ++ bkB sf nb t1 0) ++ bkB sf nb t1 1) ++ [((nI (ctB (inB sf t1 2) nb)).toInt64, 3)]) ++ mpL (blB sf t1 2) i1)).1), ia (rA 16) (rK9 16) 155 sf] H := hP8
                        clear hP8
                        replace hD : dd A [ra, (rA 25), (rA 16)] := dd_of hD8 rfl
                        clear hD8
                        have e9 : (((((LQ ++ mpL (buB 2 sf nb) t1) ++ bkB sf nb t1 0) ++ bkB sf nb t1 1) ++ [((nI (ctB (inB sf t1 2) nb)).toInt64, 3)]) ++ mpL (blB sf t1 2) (i1 + 1)) = (((((LQ ++ mpL (buB 2 sf nb) t1) ++ bkB sf nb t1 0) ++ bkB sf nb t1 1) ++ [((nI (ctB (inB sf t1 2) nb)).toInt64, 3)]) ++ mpL (blB sf t1 2) i1) := by rw [mpL_s i1, hbl, List.append_nil]
                        replace hP : va_P (dC, dI) classes [oc ra 8 [.int (nI T), .int (nI Ac), .ref (rA 2), .ref (rA 3), .ref (rA 4), .ref (rA 5), .ref (rA 6), .ref (rA 7), .ref (rA 8), .ref (rA 9), .ref (rA 10), .ref (rA 11), .ref (rA 12), .ref (rA 13), .int ir, .ref (rA 15), .ref (rA 16), .ref (rA 17), .ref (rA 18), .int (nI md), .int (nI wd), .ref (rA 21), .ref (rA 22), .ref (rA 23), .int (nI mn), .ref (rA 25), .int (nI (szB (((((LQ ++ mpL (buB 2 sf nb) t1) ++ bkB sf nb t1 0) ++ bkB sf nb t1 1) ++ [((nI (ctB (inB sf t1 2) nb)).toInt64, 3)]) ++ mpL (blB sf t1 2) (i1 + 1)))), .int mr, .ref (rA 28), .ref (rA 29), .ref (rA 30), .ref (rA 31), .ref (rA 32), .ref (rA 33), .ref (rA 34), .ref (rA 35), .int (nI ld), .int (nI gm), .ref (rA 38), .ref (rA 39), .ref (rA 40), .ref (rA 41), .ref (rA 42), .ref (rA 43), .ref (rA 44), .ref (rA 45), .int (nI my), .ref (rA 47)], la (rA 25) (rK9 25) 5 ((wrB (((((LQ ++ mpL (buB 2 sf nb) t1) ++ bkB sf nb t1 0) ++ bkB sf nb t1 1) ++ [((nI (ctB (inB sf t1 2) nb)).toInt64, 3)]) ++ mpL (blB sf t1 2) (i1 + 1))).1), ia (rA 16) (rK9 16) 155 sf] H := by rw [e9]; exact hP
                        refine tp_pc (pc' := 256) (by rfl) ?_
                        refine lv_if_eq (tgt := 295) hx hb d_Ref_encode_256 (by decide) (fun c_42 => ?_) (fun c_42 => absurd c_42 (by decide))
                        refine tp_pc (pc' := 295) (by rfl) ?_
                        refine lv_iinc (v := nI (i1 + 1)) (lv' := [(6, .int (nI (i1 + 1))), (5, .int (nI (ctB (inB sf t1 2) nb))), (4, .int 2), (3, .int 2), (2, .int 0), (1, .int (nI t1)), (0, .ref ra)]) hx hb d_Ref_encode_295 hl (k := 0) rfl (by exact nI_1 i1) (by decide) rfl ?_
                        clear hl ls
                        intro ls hl
                        refine lv_goto (tgt := 235) hx hb d_Ref_encode_298 (by decide) ?_
                        refine tp_pc (pc' := 235) (by rfl) ?_
                        obtain ⟨hP8, -, -⟩ := cut3 (wc := [oc ra 8 [.int (nI T), .int (nI Ac), .ref (rA 2), .ref (rA 3), .ref (rA 4), .ref (rA 5), .ref (rA 6), .ref (rA 7), .ref (rA 8), .ref (rA 9), .ref (rA 10), .ref (rA 11), .ref (rA 12), .ref (rA 13), .int ir, .ref (rA 15), .ref (rA 16), .ref (rA 17), .ref (rA 18), .int (nI md), .int (nI wd), .ref (rA 21), .ref (rA 22), .ref (rA 23), .int (nI mn), .ref (rA 25), .int (nI (szB (((((LQ ++ mpL (buB 2 sf nb) t1) ++ bkB sf nb t1 0) ++ bkB sf nb t1 1) ++ [((nI (ctB (inB sf t1 2) nb)).toInt64, 3)]) ++ mpL (blB sf t1 2) (i1 + 1)))), .int mr, .ref (rA 28), .ref (rA 29), .ref (rA 30), .ref (rA 31), .ref (rA 32), .ref (rA 33), .ref (rA 34), .ref (rA 35), .int (nI ld), .int (nI gm), .ref (rA 38), .ref (rA 39), .ref (rA 40), .ref (rA 41), .ref (rA 42), .ref (rA 43), .ref (rA 44), .ref (rA 45), .int (nI my), .ref (rA 47)], la (rA 25) (rK9 25) 5 ((wrB (((((LQ ++ mpL (buB 2 sf nb) t1) ++ bkB sf nb t1 0) ++ bkB sf nb t1 1) ++ [((nI (ctB (inB sf t1 2) nb)).toInt64, 3)]) ++ mpL (blB sf t1 2) (i1 + 1))).1), ia (rA 16) (rK9 16) 155 sf]) hP hD rfl hS hA [0, 1, 2] (by decide +kernel) rfl
                        exact ih_i1 _ _ _ ⟨hP8, hS, lv_sub hl [0, 1, 2, 3, 4, 5, 6] rfl⟩
                    · intro H locs ls hI
                      obtain ⟨hP, hS, hl⟩ := hI
                      refine lv_iload hx hb d_Ref_encode_235 (lv_at hl 0 rfl) ?_
                      refine lv_aload_n hx hb d_Ref_encode_237 rfl (lv_at hl 6 rfl) ?_
                      refine va_get (D := (dC, dI)) (ci := 8) (v := .ref (rA 16)) (C := R_Ref) (T := F_Ref) (N := 48) hx hb hw i_Ref hown hK hP 0 rfl rfl 16 (by decide) (hw _ m_915) (fun _ h9 => h9) rfl d_Ref_encode_238 ?_
                      refine lv_bipush (v := 15) hx hb d_Ref_encode_241 (by decide) ?_
                      refine va_iald (D := (dC, dI)) hx hb hK hP 2 1 rfl rfl (i := 15) (pk_in 15 155 (by omega)) d_Ref_encode_243 ?_
                      refine tp_i (y := sf 15) (by rw [show (15 : Int32).toNatClampNeg = 15 from pk_cl 15]) ?_
                      refine tp_i (y := nI nb) hnb ?_
                      refine lv_icmp_ge (tgt := 301) hx hb d_Ref_encode_244 (by decide) (fun c9 => ?_) (fun c9 => absurd (nI_le (Nat.le_refl nb) (by omega)) c9)
                      refine tp_pc (pc' := 301) (by rfl) ?_
                      have e9 : ((((LQ ++ mpL (buB 2 sf nb) t1) ++ bkB sf nb t1 0) ++ bkB sf nb t1 1) ++ bkB sf nb t1 2) = (((((LQ ++ mpL (buB 2 sf nb) t1) ++ bkB sf nb t1 0) ++ bkB sf nb t1 1) ++ [((nI (ctB (inB sf t1 2) nb)).toInt64, 3)]) ++ mpL (blB sf t1 2) nb) := by unfold bkB; simp only [List.append_assoc, List.cons_append, List.nil_append]
                      replace hP : va_P (dC, dI) classes [oc ra 8 [.int (nI T), .int (nI Ac), .ref (rA 2), .ref (rA 3), .ref (rA 4), .ref (rA 5), .ref (rA 6), .ref (rA 7), .ref (rA 8), .ref (rA 9), .ref (rA 10), .ref (rA 11), .ref (rA 12), .ref (rA 13), .int ir, .ref (rA 15), .ref (rA 16), .ref (rA 17), .ref (rA 18), .int (nI md), .int (nI wd), .ref (rA 21), .ref (rA 22), .ref (rA 23), .int (nI mn), .ref (rA 25), .int (nI (szB ((((LQ ++ mpL (buB 2 sf nb) t1) ++ bkB sf nb t1 0) ++ bkB sf nb t1 1) ++ bkB sf nb t1 2))), .int mr, .ref (rA 28), .ref (rA 29), .ref (rA 30), .ref (rA 31), .ref (rA 32), .ref (rA 33), .ref (rA 34), .ref (rA 35), .int (nI ld), .int (nI gm), .ref (rA 38), .ref (rA 39), .ref (rA 40), .ref (rA 41), .ref (rA 42), .ref (rA 43), .ref (rA 44), .ref (rA 45), .int (nI my), .ref (rA 47)], la (rA 25) (rK9 25) 5 ((wrB ((((LQ ++ mpL (buB 2 sf nb) t1) ++ bkB sf nb t1 0) ++ bkB sf nb t1 1) ++ bkB sf nb t1 2)).1), ia (rA 16) (rK9 16) 155 sf] H := by rw [e9]; exact hP
                      refine lv_iinc (v := 3) (lv' := [(4, .int 3), (6, .int (nI nb)), (5, .int (nI (ctB (inB sf t1 2) nb))), (3, .int 2), (2, .int 0), (1, .int (nI t1)), (0, .ref ra)]) hx hb d_Ref_encode_301 hl (k := 2) rfl (by first | rfl | decide) (by decide) rfl ?_
                      clear hl ls
                      intro ls hl
                      refine lv_goto (tgt := 172) hx hb d_Ref_encode_304 (by decide) ?_
                      refine tp_pc (pc' := 172) (by rfl) ?_
                      refine lv_iload hx hb d_Ref_encode_172 (lv_at hl 0 rfl) ?_
                      refine lv_iload_n hx hb d_Ref_encode_174 rfl (lv_at hl 3 rfl) ?_
                      refine lv_icmp_gt (tgt := 307) hx hb d_Ref_encode_175 (by decide) (fun c_43 => ?_) (fun c_43 => absurd c_43 (by decide))
                      refine tp_pc (pc' := 307) (by rfl) ?_
                      refine lv_iinc (v := nI (t1 + 1)) (lv' := [(1, .int (nI (t1 + 1))), (4, .int 3), (6, .int (nI nb)), (5, .int (nI (ctB (inB sf t1 2) nb))), (3, .int 2), (2, .int 0), (0, .ref ra)]) hx hb d_Ref_encode_307 hl (k := 5) rfl (by exact nI_1 t1) (by decide) rfl ?_
                      clear hl ls
                      intro ls hl
                      refine lv_goto (tgt := 129) hx hb d_Ref_encode_310 (by decide) ?_
                      refine tp_pc (pc' := 129) (by rfl) ?_
                      have e9 : (LQ ++ mpL (buB 2 sf nb) (t1 + 1)) = ((((LQ ++ mpL (buB 2 sf nb) t1) ++ bkB sf nb t1 0) ++ bkB sf nb t1 1) ++ bkB sf nb t1 2) := by rw [mpL_s t1]; unfold buB; rw [if_neg (by decide)]; simp only [List.append_assoc]
                      replace hP : va_P (dC, dI) classes [oc ra 8 [.int (nI T), .int (nI Ac), .ref (rA 2), .ref (rA 3), .ref (rA 4), .ref (rA 5), .ref (rA 6), .ref (rA 7), .ref (rA 8), .ref (rA 9), .ref (rA 10), .ref (rA 11), .ref (rA 12), .ref (rA 13), .int ir, .ref (rA 15), .ref (rA 16), .ref (rA 17), .ref (rA 18), .int (nI md), .int (nI wd), .ref (rA 21), .ref (rA 22), .ref (rA 23), .int (nI mn), .ref (rA 25), .int (nI (szB (LQ ++ mpL (buB 2 sf nb) (t1 + 1)))), .int mr, .ref (rA 28), .ref (rA 29), .ref (rA 30), .ref (rA 31), .ref (rA 32), .ref (rA 33), .ref (rA 34), .ref (rA 35), .int (nI ld), .int (nI gm), .ref (rA 38), .ref (rA 39), .ref (rA 40), .ref (rA 41), .ref (rA 42), .ref (rA 43), .ref (rA 44), .ref (rA 45), .int (nI my), .ref (rA 47)], la (rA 25) (rK9 25) 5 ((wrB (LQ ++ mpL (buB 2 sf nb) (t1 + 1))).1), ia (rA 16) (rK9 16) 155 sf] H := by rw [e9]; exact hP
                      obtain ⟨hP8, -, -⟩ := cut3 (wc := [oc ra 8 [.int (nI T), .int (nI Ac), .ref (rA 2), .ref (rA 3), .ref (rA 4), .ref (rA 5), .ref (rA 6), .ref (rA 7), .ref (rA 8), .ref (rA 9), .ref (rA 10), .ref (rA 11), .ref (rA 12), .ref (rA 13), .int ir, .ref (rA 15), .ref (rA 16), .ref (rA 17), .ref (rA 18), .int (nI md), .int (nI wd), .ref (rA 21), .ref (rA 22), .ref (rA 23), .int (nI mn), .ref (rA 25), .int (nI (szB (LQ ++ mpL (buB 2 sf nb) (t1 + 1)))), .int mr, .ref (rA 28), .ref (rA 29), .ref (rA 30), .ref (rA 31), .ref (rA 32), .ref (rA 33), .ref (rA 34), .ref (rA 35), .int (nI ld), .int (nI gm), .ref (rA 38), .ref (rA 39), .ref (rA 40), .ref (rA 41), .ref (rA 42), .ref (rA 43), .ref (rA 44), .ref (rA 45), .int (nI my), .ref (rA 47)], la (rA 25) (rK9 25) 5 ((wrB (LQ ++ mpL (buB 2 sf nb) (t1 + 1))).1), ia (rA 16) (rK9 16) 155 sf]) hP hD rfl hS hA [0, 1, 2] (by decide +kernel) rfl
                      exact ih_t1 _ _ _ ⟨hP8, hS, lv_sub hl [0, 6] rfl⟩
        · intro H locs ls hI
          obtain ⟨hP, hS, hl⟩ := hI
          replace hl : lv_has ls 7 [(1, .int 4), (0, .ref ra)] := hl
          refine lv_iload_n hx hb d_Ref_encode_129 rfl (lv_at hl 0 rfl) ?_
          refine lv_iconst (v := 4) hx hb d_Ref_encode_130 (by decide) ?_
          refine lv_icmp_ge (tgt := 313) hx hb d_Ref_encode_131 (by decide) (fun c_44 => ?_) (fun c_44 => absurd c_44 (by decide))
          refine tp_pc (pc' := 313) (by rfl) ?_
          replace hP : va_P (dC, dI) classes [oc ra 8 [.int (nI T), .int (nI Ac), .ref (rA 2), .ref (rA 3), .ref (rA 4), .ref (rA 5), .ref (rA 6), .ref (rA 7), .ref (rA 8), .ref (rA 9), .ref (rA 10), .ref (rA 11), .ref (rA 12), .ref (rA 13), .int ir, .ref (rA 15), .ref (rA 16), .ref (rA 17), .ref (rA 18), .int (nI md), .int (nI wd), .ref (rA 21), .ref (rA 22), .ref (rA 23), .int (nI mn), .ref (rA 25), .int (nI (szB (enB 2 sf nb))), .int mr, .ref (rA 28), .ref (rA 29), .ref (rA 30), .ref (rA 31), .ref (rA 32), .ref (rA 33), .ref (rA 34), .ref (rA 35), .int (nI ld), .int (nI gm), .ref (rA 38), .ref (rA 39), .ref (rA 40), .ref (rA 41), .ref (rA 42), .ref (rA 43), .ref (rA 44), .ref (rA 45), .int (nI my), .ref (rA 47)], la (rA 25) (rK9 25) 5 ((wrB (enB 2 sf nb)).1), ia (rA 16) (rK9 16) 155 sf] H := by rw [e0x]; exact hP
          obtain ⟨hP9, hD9, -⟩ := cut3 (wc := [oc ra 8 [.int (nI T), .int (nI Ac), .ref (rA 2), .ref (rA 3), .ref (rA 4), .ref (rA 5), .ref (rA 6), .ref (rA 7), .ref (rA 8), .ref (rA 9), .ref (rA 10), .ref (rA 11), .ref (rA 12), .ref (rA 13), .int ir, .ref (rA 15), .ref (rA 16), .ref (rA 17), .ref (rA 18), .int (nI md), .int (nI wd), .ref (rA 21), .ref (rA 22), .ref (rA 23), .int (nI mn), .ref (rA 25), .int (nI (szB (enB 2 sf nb))), .int mr, .ref (rA 28), .ref (rA 29), .ref (rA 30), .ref (rA 31), .ref (rA 32), .ref (rA 33), .ref (rA 34), .ref (rA 35), .int (nI ld), .int (nI gm), .ref (rA 38), .ref (rA 39), .ref (rA 40), .ref (rA 41), .ref (rA 42), .ref (rA 43), .ref (rA 44), .ref (rA 45), .int (nI my), .ref (rA 47)], la (rA 25) (rK9 25) 5 ((wrB (enB 2 sf nb)).1), ia (rA 16) (rK9 16) 155 sf]) hP hD rfl hS hA [0, 1, 2] (by decide +kernel) rfl
          have hK9 := hK.sub (tys' := []) [] rfl
          refine W.widen (k := 0) (n := 0) (by exact Nat.le_of_ble_eq_true rfl) (by exact Nat.le_of_ble_eq_true rfl) ?_
          exact W.vret hx hb hr (fun t9 ht9 hW => ⟨⟨(), rfl, trivial, by rw [ht9]; exact hP9, va_K.moved hW.alike hK9, hD9⟩, hS.F ht9⟩) hS.2.2 d_Ref_encode_313
