set_option maxHeartbeats 4000000 in
set_option maxRecDepth 100000 in
theorem gen_Ref_act_5 (l : Launch) (dC : Nat → ClassId) (dI : Nat → Nat → Nat) (ra : Nat) (rA : Nat → Nat) (rK9 : Nat → ClassId) (T Ac md wd mn cb ld gm my : Nat) (ir mr : Int32) (t a : Nat) (pcn zs kd vx rr fm dn hp : Nat → Nat) (vv hd9 gv : Nat → Int32) (ht : t < 4) (ha : a = 7 * t + pcn t) (hpc : pcn t < zs t) (hzt : zs t ≤ 7) (hvx : vx a < 4) (hrr : rr a < 2) (hk : kd a = 5) (sz : Nat) : Met l y_Ref_act w_Ref_act ({ frames := 1, cells := 0, slots := 0, locals := 40 }) (va_Pc [.ref ra, .int (nI t)] (fun U => U.heap.size = sz ∧ va_P (dC, dI) classes [oc ra 8 [.int (nI T), .int (nI Ac), .ref (rA 2), .ref (rA 3), .ref (rA 4), .ref (rA 5), .ref (rA 6), .ref (rA 7), .ref (rA 8), .ref (rA 9), .ref (rA 10), .ref (rA 11), .ref (rA 12), .ref (rA 13), .int ir, .ref (rA 15), .ref (rA 16), .ref (rA 17), .ref (rA 18), .int (nI md), .int (nI wd), .ref (rA 21), .ref (rA 22), .ref (rA 23), .int (nI mn), .ref (rA 25), .int (nI cb), .int mr, .ref (rA 28), .ref (rA 29), .ref (rA 30), .ref (rA 31), .ref (rA 32), .ref (rA 33), .ref (rA 34), .ref (rA 35), .int (nI ld), .int (nI gm), .ref (rA 38), .ref (rA 39), .ref (rA 40), .ref (rA 41), .ref (rA 42), .ref (rA 43), .ref (rA 44), .ref (rA 45), .int (nI my), .ref (rA 47)], ia (rA 33) (rK9 33) 4 (fun i => nI (pcn i)), ia (rA 2) (rK9 2) 4 (fun i => nI (zs i)), ia (rA 3) (rK9 3) 28 (fun i => nI (kd i)), ia (rA 4) (rK9 4) 28 (fun i => nI (vx i)), ia (rA 5) (rK9 5) 28 (fun i => nI (rr i)), ia (rA 6) (rK9 6) 28 vv, ia (rA 34) (rK9 34) 8 hd9, ia (rA 29) (rK9 29) 28 (fun i0 => mN (fm i0)), ia (rA 31) (rK9 31) 28 (fun i => nI (dn i)), ia (rA 32) (rK9 32) 28 gv, ia (rA 30) (rK9 30) 28 (fun i => nI (hp i))] U.heap ∧ va_K (dC, dI) classes [((rK9 33), .int), ((rK9 2), .int), ((rK9 3), .int), ((rK9 4), .int), ((rK9 5), .int), ((rK9 6), .int), ((rK9 34), .int), ((rK9 29), .int), ((rK9 31), .boolean), ((rK9 32), .int), ((rK9 30), .boolean)] U ∧ va_D (fun _ => True) [oc ra 8 [.int (nI T), .int (nI Ac), .ref (rA 2), .ref (rA 3), .ref (rA 4), .ref (rA 5), .ref (rA 6), .ref (rA 7), .ref (rA 8), .ref (rA 9), .ref (rA 10), .ref (rA 11), .ref (rA 12), .ref (rA 13), .int ir, .ref (rA 15), .ref (rA 16), .ref (rA 17), .ref (rA 18), .int (nI md), .int (nI wd), .ref (rA 21), .ref (rA 22), .ref (rA 23), .int (nI mn), .ref (rA 25), .int (nI cb), .int mr, .ref (rA 28), .ref (rA 29), .ref (rA 30), .ref (rA 31), .ref (rA 32), .ref (rA 33), .ref (rA 34), .ref (rA 35), .int (nI ld), .int (nI gm), .ref (rA 38), .ref (rA 39), .ref (rA 40), .ref (rA 41), .ref (rA 42), .ref (rA 43), .ref (rA 44), .ref (rA 45), .int (nI my), .ref (rA 47)], ia (rA 33) (rK9 33) 4 (fun i => nI (pcn i)), ia (rA 2) (rK9 2) 4 (fun i => nI (zs i)), ia (rA 3) (rK9 3) 28 (fun i => nI (kd i)), ia (rA 4) (rK9 4) 28 (fun i => nI (vx i)), ia (rA 5) (rK9 5) 28 (fun i => nI (rr i)), ia (rA 6) (rK9 6) 28 vv, ia (rA 34) (rK9 34) 8 hd9, ia (rA 29) (rK9 29) 28 (fun i0 => mN (fm i0)), ia (rA 31) (rK9 31) 28 (fun i => nI (dn i)), ia (rA 32) (rK9 32) 28 gv, ia (rA 30) (rK9 30) 28 (fun i => nI (hp i))] ∧ nw U)) (va_Qi (fun (r : Int32) (_ : Unit) => r = 1) (fun _ t9 => va_P (dC, dI) classes [oc ra 8 [.int (nI T), .int (nI Ac), .ref (rA 2), .ref (rA 3), .ref (rA 4), .ref (rA 5), .ref (rA 6), .ref (rA 7), .ref (rA 8), .ref (rA 9), .ref (rA 10), .ref (rA 11), .ref (rA 12), .ref (rA 13), .int ir, .ref (rA 15), .ref (rA 16), .ref (rA 17), .ref (rA 18), .int (nI md), .int (nI wd), .ref (rA 21), .ref (rA 22), .ref (rA 23), .int (nI mn), .ref (rA 25), .int (nI cb), .int mr, .ref (rA 28), .ref (rA 29), .ref (rA 30), .ref (rA 31), .ref (rA 32), .ref (rA 33), .ref (rA 34), .ref (rA 35), .int (nI ld), .int (nI gm), .ref (rA 38), .ref (rA 39), .ref (rA 40), .ref (rA 41), .ref (rA 42), .ref (rA 43), .ref (rA 44), .ref (rA 45), .int (nI my), .ref (rA 47)], ia (rA 33) (rK9 33) 4 (fun i => nI ((updN pcn t (if zs t < pcn t + (if hd9 (2 * t + rr a) = vv a then 1 else 1 + vx a) then zs t else pcn t + (if hd9 (2 * t + rr a) = vv a then 1 else 1 + vx a))) i)), ia (rA 2) (rK9 2) 4 (fun i => nI (zs i)), ia (rA 3) (rK9 3) 28 (fun i => nI (kd i)), ia (rA 4) (rK9 4) 28 (fun i => nI (vx i)), ia (rA 5) (rK9 5) 28 (fun i => nI (rr i)), ia (rA 6) (rK9 6) 28 vv, ia (rA 34) (rK9 34) 8 hd9, ia (rA 29) (rK9 29) 28 (fun i0 => mN (fm i0)), ia (rA 31) (rK9 31) 28 (fun i => nI (dn i)), ia (rA 32) (rK9 32) 28 gv, ia (rA 30) (rK9 30) 28 (fun i => nI (hp i))] t9.heap ∧ va_K (dC, dI) classes [] t9 ∧ va_D (va_A [oc ra 8 [.int (nI T), .int (nI Ac), .ref (rA 2), .ref (rA 3), .ref (rA 4), .ref (rA 5), .ref (rA 6), .ref (rA 7), .ref (rA 8), .ref (rA 9), .ref (rA 10), .ref (rA 11), .ref (rA 12), .ref (rA 13), .int ir, .ref (rA 15), .ref (rA 16), .ref (rA 17), .ref (rA 18), .int (nI md), .int (nI wd), .ref (rA 21), .ref (rA 22), .ref (rA 23), .int (nI mn), .ref (rA 25), .int (nI cb), .int mr, .ref (rA 28), .ref (rA 29), .ref (rA 30), .ref (rA 31), .ref (rA 32), .ref (rA 33), .ref (rA 34), .ref (rA 35), .int (nI ld), .int (nI gm), .ref (rA 38), .ref (rA 39), .ref (rA 40), .ref (rA 41), .ref (rA 42), .ref (rA 43), .ref (rA 44), .ref (rA 45), .int (nI my), .ref (rA 47)], ia (rA 33) (rK9 33) 4 (fun i => nI (pcn i)), ia (rA 2) (rK9 2) 4 (fun i => nI (zs i)), ia (rA 3) (rK9 3) 28 (fun i => nI (kd i)), ia (rA 4) (rK9 4) 28 (fun i => nI (vx i)), ia (rA 5) (rK9 5) 28 (fun i => nI (rr i)), ia (rA 6) (rK9 6) 28 vv, ia (rA 34) (rK9 34) 8 hd9, ia (rA 29) (rK9 29) 28 (fun i0 => mN (fm i0)), ia (rA 31) (rK9 31) 28 (fun i => nI (dn i)), ia (rA 32) (rK9 32) 28 gv, ia (rA 30) (rK9 30) 28 (fun i => nI (hp i))] sz) [oc ra 8 [.int (nI T), .int (nI Ac), .ref (rA 2), .ref (rA 3), .ref (rA 4), .ref (rA 5), .ref (rA 6), .ref (rA 7), .ref (rA 8), .ref (rA 9), .ref (rA 10), .ref (rA 11), .ref (rA 12), .ref (rA 13), .int ir, .ref (rA 15), .ref (rA 16), .ref (rA 17), .ref (rA 18), .int (nI md), .int (nI wd), .ref (rA 21), .ref (rA 22), .ref (rA 23), .int (nI mn), .ref (rA 25), .int (nI cb), .int mr, .ref (rA 28), .ref (rA 29), .ref (rA 30), .ref (rA 31), .ref (rA 32), .ref (rA 33), .ref (rA 34), .ref (rA 35), .int (nI ld), .int (nI gm), .ref (rA 38), .ref (rA 39), .ref (rA 40), .ref (rA 41), .ref (rA 42), .ref (rA 43), .ref (rA 44), .ref (rA 45), .int (nI my), .ref (rA 47)], ia (rA 33) (rK9 33) 4 (fun i => nI ((updN pcn t (if zs t < pcn t + (if hd9 (2 * t + rr a) = vv a then 1 else 1 + vx a) then zs t else pcn t + (if hd9 (2 * t + rr a) = vv a then 1 else 1 + vx a))) i)), ia (rA 2) (rK9 2) 4 (fun i => nI (zs i)), ia (rA 3) (rK9 3) 28 (fun i => nI (kd i)), ia (rA 4) (rK9 4) 28 (fun i => nI (vx i)), ia (rA 5) (rK9 5) 28 (fun i => nI (rr i)), ia (rA 6) (rK9 6) 28 vv, ia (rA 34) (rK9 34) 8 hd9, ia (rA 29) (rK9 29) 28 (fun i0 => mN (fm i0)), ia (rA 31) (rK9 31) 28 (fun i => nI (dn i)), ia (rA 32) (rK9 32) 28 gv, ia (rA 30) (rK9 30) 28 (fun i => nI (hp i))]) (va_A [oc ra 8 [.int (nI T), .int (nI Ac), .ref (rA 2), .ref (rA 3), .ref (rA 4), .ref (rA 5), .ref (rA 6), .ref (rA 7), .ref (rA 8), .ref (rA 9), .ref (rA 10), .ref (rA 11), .ref (rA 12), .ref (rA 13), .int ir, .ref (rA 15), .ref (rA 16), .ref (rA 17), .ref (rA 18), .int (nI md), .int (nI wd), .ref (rA 21), .ref (rA 22), .ref (rA 23), .int (nI mn), .ref (rA 25), .int (nI cb), .int mr, .ref (rA 28), .ref (rA 29), .ref (rA 30), .ref (rA 31), .ref (rA 32), .ref (rA 33), .ref (rA 34), .ref (rA 35), .int (nI ld), .int (nI gm), .ref (rA 38), .ref (rA 39), .ref (rA 40), .ref (rA 41), .ref (rA 42), .ref (rA 43), .ref (rA 44), .ref (rA 45), .int (nI my), .ref (rA 47)], ia (rA 33) (rK9 33) 4 (fun i => nI (pcn i)), ia (rA 2) (rK9 2) 4 (fun i => nI (zs i)), ia (rA 3) (rK9 3) 28 (fun i => nI (kd i)), ia (rA 4) (rK9 4) 28 (fun i => nI (vx i)), ia (rA 5) (rK9 5) 28 (fun i => nI (rr i)), ia (rA 6) (rK9 6) 28 vv, ia (rA 34) (rK9 34) 8 hd9, ia (rA 29) (rK9 29) 28 (fun i0 => mN (fm i0)), ia (rA 31) (rK9 31) 28 (fun i => nI (dn i)), ia (rA 32) (rK9 32) 28 gv, ia (rA 30) (rK9 30) 28 (fun i => nI (hp i))] sz)) 0 0 (va_A [oc ra 8 [.int (nI T), .int (nI Ac), .ref (rA 2), .ref (rA 3), .ref (rA 4), .ref (rA 5), .ref (rA 6), .ref (rA 7), .ref (rA 8), .ref (rA 9), .ref (rA 10), .ref (rA 11), .ref (rA 12), .ref (rA 13), .int ir, .ref (rA 15), .ref (rA 16), .ref (rA 17), .ref (rA 18), .int (nI md), .int (nI wd), .ref (rA 21), .ref (rA 22), .ref (rA 23), .int (nI mn), .ref (rA 25), .int (nI cb), .int mr, .ref (rA 28), .ref (rA 29), .ref (rA 30), .ref (rA 31), .ref (rA 32), .ref (rA 33), .ref (rA 34), .ref (rA 35), .int (nI ld), .int (nI gm), .ref (rA 38), .ref (rA 39), .ref (rA 40), .ref (rA 41), .ref (rA 42), .ref (rA 43), .ref (rA 44), .ref (rA 45), .int (nI my), .ref (rA 47)], ia (rA 33) (rK9 33) 4 (fun i => nI (pcn i)), ia (rA 2) (rK9 2) 4 (fun i => nI (zs i)), ia (rA 3) (rK9 3) 28 (fun i => nI (kd i)), ia (rA 4) (rK9 4) 28 (fun i => nI (vx i)), ia (rA 5) (rK9 5) 28 (fun i => nI (rr i)), ia (rA 6) (rK9 6) 28 vv, ia (rA 34) (rK9 34) 8 hd9, ia (rA 29) (rK9 29) 28 (fun i0 => mN (fm i0)), ia (rA 31) (rK9 31) 28 (fun i => nI (dn i)), ia (rA 32) (rK9 32) 28 gv, ia (rA 30) (rK9 30) 28 (fun i => nI (hp i))] sz) := by
  refine Met.ofW (cc := b_Ref_act) (maxL := 6) (ret := (some .boolean)) (by decide) rfl ?_
  intro p e0 s m args below meth c s₁ B hml hv
  obtain ⟨rfl, hsz, hP, hK, hD0, hn⟩ := hv
  have hx := B.exec
  have hb := B.bytes
  have hr := B.returns
  have hw := fun w (h : w ∈ wt) => atoms_spec (ws := w_Ref_act) B.pre w (List.mem_cons_of_mem _ h)
  have hown : s.vm.findClass R_Ref = some m.cls := findClass_of_methodNamed B.named
  have hlocks := B.notSynchronized
  subst hsz
  have hD1 := hD0.self (sz := s.heap.size)
  generalize hAe : va_A [oc ra 8 [.int (nI T), .int (nI Ac), .ref (rA 2), .ref (rA 3), .ref (rA 4), .ref (rA 5), .ref (rA 6), .ref (rA 7), .ref (rA 8), .ref (rA 9), .ref (rA 10), .ref (rA 11), .ref (rA 12), .ref (rA 13), .int ir, .ref (rA 15), .ref (rA 16), .ref (rA 17), .ref (rA 18), .int (nI md), .int (nI wd), .ref (rA 21), .ref (rA 22), .ref (rA 23), .int (nI mn), .ref (rA 25), .int (nI cb), .int mr, .ref (rA 28), .ref (rA 29), .ref (rA 30), .ref (rA 31), .ref (rA 32), .ref (rA 33), .ref (rA 34), .ref (rA 35), .int (nI ld), .int (nI gm), .ref (rA 38), .ref (rA 39), .ref (rA 40), .ref (rA 41), .ref (rA 42), .ref (rA 43), .ref (rA 44), .ref (rA 45), .int (nI my), .ref (rA 47)], ia (rA 33) (rK9 33) 4 (fun i => nI (pcn i)), ia (rA 2) (rK9 2) 4 (fun i => nI (zs i)), ia (rA 3) (rK9 3) 28 (fun i => nI (kd i)), ia (rA 4) (rK9 4) 28 (fun i => nI (vx i)), ia (rA 5) (rK9 5) 28 (fun i => nI (rr i)), ia (rA 6) (rK9 6) 28 vv, ia (rA 34) (rK9 34) 8 hd9, ia (rA 29) (rK9 29) 28 (fun i0 => mN (fm i0)), ia (rA 31) (rK9 31) 28 (fun i => nI (dn i)), ia (rA 32) (rK9 32) 28 gv, ia (rA 30) (rK9 30) 28 (fun i => nI (hp i))] s.heap.size = A at hD1 ⊢
  have hA : ∀ q : Nat, s.heap.size ≤ q → A q := fun q h => by rw [← hAe]; exact Or.inr h
  have hD : dd A [ra, (rA 33), (rA 2), (rA 3), (rA 4), (rA 5), (rA 6), (rA 34), (rA 29), (rA 31), (rA 32), (rA 30)] := dd_of hD1 rfl
  clear hAe hD0 hD1
  have hS : va_S A s.heap s.heap [] := va_S.rf
  replace hP : va_P (dC, dI) classes [oc ra 8 [.int (nI T), .int (nI Ac), .ref (rA 2), .ref (rA 3), .ref (rA 4), .ref (rA 5), .ref (rA 6), .ref (rA 7), .ref (rA 8), .ref (rA 9), .ref (rA 10), .ref (rA 11), .ref (rA 12), .ref (rA 13), .int ir, .ref (rA 15), .ref (rA 16), .ref (rA 17), .ref (rA 18), .int (nI md), .int (nI wd), .ref (rA 21), .ref (rA 22), .ref (rA 23), .int (nI mn), .ref (rA 25), .int (nI cb), .int mr, .ref (rA 28), .ref (rA 29), .ref (rA 30), .ref (rA 31), .ref (rA 32), .ref (rA 33), .ref (rA 34), .ref (rA 35), .int (nI ld), .int (nI gm), .ref (rA 38), .ref (rA 39), .ref (rA 40), .ref (rA 41), .ref (rA 42), .ref (rA 43), .ref (rA 44), .ref (rA 45), .int (nI my), .ref (rA 47)], ia (rA 33) (rK9 33) 4 (fun i => nI (pcn i)), ia (rA 2) (rK9 2) 4 (fun i => nI (zs i)), ia (rA 3) (rK9 3) 28 (fun i => nI (kd i)), ia (rA 4) (rK9 4) 28 (fun i => nI (vx i)), ia (rA 5) (rK9 5) 28 (fun i => nI (rr i)), ia (rA 6) (rK9 6) 28 vv, ia (rA 34) (rK9 34) 8 hd9, ia (rA 29) (rK9 29) 28 (fun i0 => mN (fm i0)), ia (rA 31) (rK9 31) 28 (fun i => nI (dn i)), ia (rA 32) (rK9 32) 28 gv, ia (rA 30) (rK9 30) 28 (fun i => nI (hp i))] s.heap := hP
  have hl := lv_entry ([.ref ra, .int (nI t)]) (n := 6) (Nat.le_of_ble_eq_true rfl)
  rw [lg_entry_eq]
  generalize (lg_sl ([.ref ra, .int (nI t)]) ++ List.replicate (6 - (lg_sl ([.ref ra, .int (nI t)])).length) Slot.unset).toArray = ls at hl ⊢
  replace hl : lv_has ls 6 [(0, .ref ra), (1, .int (nI t))] := hl
  refine lv_bipush (v := 7) hx hb d_Ref_act_0 (by decide) ?_
  refine lv_iload_n hx hb d_Ref_act_2 rfl (lv_at hl 1 rfl) ?_
  refine lv_imul hx hb d_Ref_act_3 ?_
  refine tp_i (y := nI (7 * t)) (by exact pk_mul 7 t) ?_
  refine lv_aload_n hx hb d_Ref_act_4 rfl (lv_at hl 0 rfl) ?_
  refine va_get (D := (dC, dI)) (ci := 8) (v := .ref (rA 33)) (C := R_Ref) (T := F_Ref) (N := 48) hx hb hw i_Ref hown hK hP 0 rfl rfl 33 (by decide) (hw _ m_932) (fun _ h9 => h9) rfl d_Ref_act_5 ?_
  refine lv_iload_n hx hb d_Ref_act_8 rfl (lv_at hl 1 rfl) ?_
  refine va_iald (D := (dC, dI)) hx hb hK hP 1 0 rfl rfl (i := nI t) (pk_in t 4 (by omega)) d_Ref_act_9 ?_
  refine tp_i (y := nI (pcn t)) (by rw [show (nI t : Int32).toNatClampNeg = t from pk_cl t]) ?_
  refine lv_iadd hx hb d_Ref_act_10 ?_
  refine tp_i (y := nI (7 * t + (pcn t))) (by exact nI_add (7 * t) (pcn t)) ?_
  refine tp_i (y := nI a) (by rw [ha]) ?_
  refine lv_istore_n (lv' := [(2, .int (nI a)), (0, .ref ra), (1, .int (nI t))]) hx hb d_Ref_act_11 rfl hl (by decide) rfl ?_
  clear hl ls
  intro ls hl
  refine lv_aload_n hx hb d_Ref_act_12 rfl (lv_at hl 1 rfl) ?_
  refine va_get (D := (dC, dI)) (ci := 8) (v := .ref (rA 3)) (C := R_Ref) (T := F_Ref) (N := 48) hx hb hw i_Ref hown hK hP 0 rfl rfl 3 (by decide) (hw _ m_902) (fun _ h9 => h9) rfl d_Ref_act_13 ?_
  refine lv_iload_n hx hb d_Ref_act_16 rfl (lv_at hl 0 rfl) ?_
  refine va_iald (D := (dC, dI)) hx hb hK hP 3 2 rfl rfl (i := nI a) (pk_in a 28 (by omega)) d_Ref_act_17 ?_
  refine tp_i (y := nI (kd a)) (by rw [show (nI a : Int32).toNatClampNeg = a from pk_cl a]) ?_
  refine tp_i (y := 5) (by rw [hk]; rfl) ?_
  refine lv_istore_n (lv' := [(3, .int 5), (2, .int (nI a)), (0, .ref ra), (1, .int (nI t))]) hx hb d_Ref_act_18 rfl hl (by decide) rfl ?_
  clear hl ls
  intro ls hl
  refine lv_iconst (v := 2) hx hb d_Ref_act_19 (by decide) ?_
  refine lv_iload_n hx hb d_Ref_act_20 rfl (lv_at hl 3 rfl) ?_
  refine lv_imul hx hb d_Ref_act_21 ?_
  refine tp_i (y := nI (2 * t)) (by exact pk_mul 2 t) ?_
  refine lv_aload_n hx hb d_Ref_act_22 rfl (lv_at hl 2 rfl) ?_
  refine va_get (D := (dC, dI)) (ci := 8) (v := .ref (rA 5)) (C := R_Ref) (T := F_Ref) (N := 48) hx hb hw i_Ref hown hK hP 0 rfl rfl 5 (by decide) (hw _ m_904) (fun _ h9 => h9) rfl d_Ref_act_23 ?_
  refine lv_iload_n hx hb d_Ref_act_26 rfl (lv_at hl 1 rfl) ?_
  refine va_iald (D := (dC, dI)) hx hb hK hP 5 4 rfl rfl (i := nI a) (pk_in a 28 (by omega)) d_Ref_act_27 ?_
  refine tp_i (y := nI (rr a)) (by rw [show (nI a : Int32).toNatClampNeg = a from pk_cl a]) ?_
  refine lv_iadd hx hb d_Ref_act_28 ?_
  refine tp_i (y := nI (2 * t + (rr a))) (by exact nI_add (2 * t) (rr a)) ?_
  refine lv_istore (lv' := [(4, .int (nI (2 * t + (rr a)))), (3, .int 5), (2, .int (nI a)), (0, .ref ra), (1, .int (nI t))]) hx hb d_Ref_act_29 hl (by decide) rfl ?_
  clear hl ls
  intro ls hl
  refine lv_iload_n hx hb d_Ref_act_31 rfl (lv_at hl 1 rfl) ?_
  refine lv_iconst (v := 5) hx hb d_Ref_act_32 (by decide) ?_
  refine lv_icmp_ne (tgt := 110) hx hb d_Ref_act_33 (by decide) (fun c_1 => absurd c_1 (by decide)) (fun c_1 => ?_)
  refine tp_pc (pc' := 36) (by rfl) ?_
  refine lv_aload_n hx hb d_Ref_act_36 rfl (lv_at hl 3 rfl) ?_
  refine va_get (D := (dC, dI)) (ci := 8) (v := .ref (rA 34)) (C := R_Ref) (T := F_Ref) (N := 48) hx hb hw i_Ref hown hK hP 0 rfl rfl 34 (by decide) (hw _ m_933) (fun _ h9 => h9) rfl d_Ref_act_37 ?_
  refine lv_iload hx hb d_Ref_act_40 (lv_at hl 0 rfl) ?_
  refine va_iald (D := (dC, dI)) hx hb hK hP 7 6 rfl rfl (i := nI (2 * t + (rr a))) (pk_in (2 * t + (rr a)) 8 (by omega)) d_Ref_act_42 ?_
  refine tp_i (y := hd9 (2 * t + (rr a))) (by rw [show (nI (2 * t + (rr a)) : Int32).toNatClampNeg = 2 * t + (rr a) from pk_cl (2 * t + (rr a))]) ?_
  refine lv_aload_n hx hb d_Ref_act_43 rfl (lv_at hl 3 rfl) ?_
  refine va_get (D := (dC, dI)) (ci := 8) (v := .ref (rA 6)) (C := R_Ref) (T := F_Ref) (N := 48) hx hb hw i_Ref hown hK hP 0 rfl rfl 6 (by decide) (hw _ m_905) (fun _ h9 => h9) rfl d_Ref_act_44 ?_
  refine lv_iload_n hx hb d_Ref_act_47 rfl (lv_at hl 2 rfl) ?_
  refine va_iald (D := (dC, dI)) hx hb hK hP 6 5 rfl rfl (i := nI a) (pk_in a 28 (by omega)) d_Ref_act_48 ?_
  refine tp_i (y := vv a) (by rw [show (nI a : Int32).toNatClampNeg = a from pk_cl a]) ?_
  refine lv_icmp_ne (tgt := 56) hx hb d_Ref_act_49 (by decide) (fun c1 => ?_) (fun c1 => ?_)
  · skip
    refine tp_pc (pc' := 56) (by rfl) ?_
    refine lv_iconst (v := 1) hx hb d_Ref_act_56 (by decide) ?_
    refine lv_aload_n hx hb d_Ref_act_57 rfl (lv_at hl 3 rfl) ?_
    refine va_get (D := (dC, dI)) (ci := 8) (v := .ref (rA 4)) (C := R_Ref) (T := F_Ref) (N := 48) hx hb hw i_Ref hown hK hP 0 rfl rfl 4 (by decide) (hw _ m_903) (fun _ h9 => h9) rfl d_Ref_act_58 ?_
    refine lv_iload_n hx hb d_Ref_act_61 rfl (lv_at hl 2 rfl) ?_
    refine va_iald (D := (dC, dI)) hx hb hK hP 4 3 rfl rfl (i := nI a) (pk_in a 28 (by omega)) d_Ref_act_62 ?_
    refine tp_i (y := nI (vx a)) (by rw [show (nI a : Int32).toNatClampNeg = a from pk_cl a]) ?_
    refine lv_iadd hx hb d_Ref_act_63 ?_
    refine tp_i (y := nI (1 + (vx a))) (by exact nI_add 1 (vx a)) ?_
    refine lv_istore (lv' := [(5, .int (nI (1 + (vx a)))), (4, .int (nI (2 * t + (rr a)))), (3, .int 5), (2, .int (nI a)), (0, .ref ra), (1, .int (nI t))]) hx hb d_Ref_act_64 hl (by decide) rfl ?_
    clear hl ls
    intro ls hl
    refine lv_aload_n hx hb d_Ref_act_66 rfl (lv_at hl 4 rfl) ?_
    refine va_get (D := (dC, dI)) (ci := 8) (v := .ref (rA 33)) (C := R_Ref) (T := F_Ref) (N := 48) hx hb hw i_Ref hown hK hP 0 rfl rfl 33 (by decide) (hw _ m_932) (fun _ h9 => h9) rfl d_Ref_act_67 ?_
    refine lv_iload_n hx hb d_Ref_act_70 rfl (lv_at hl 5 rfl) ?_
    refine lv_aload_n hx hb d_Ref_act_71 rfl (lv_at hl 4 rfl) ?_
    refine va_get (D := (dC, dI)) (ci := 8) (v := .ref (rA 33)) (C := R_Ref) (T := F_Ref) (N := 48) hx hb hw i_Ref hown hK hP 0 rfl rfl 33 (by decide) (hw _ m_932) (fun _ h9 => h9) rfl d_Ref_act_72 ?_
    refine lv_iload_n hx hb d_Ref_act_75 rfl (lv_at hl 5 rfl) ?_
    refine va_iald (D := (dC, dI)) hx hb hK hP 1 0 rfl rfl (i := nI t) (pk_in t 4 (by omega)) d_Ref_act_76 ?_
    refine tp_i (y := nI (pcn t)) (by rw [show (nI t : Int32).toNatClampNeg = t from pk_cl t]) ?_
    refine lv_iload hx hb d_Ref_act_77 (lv_at hl 0 rfl) ?_
    refine lv_iadd hx hb d_Ref_act_79 ?_
    refine tp_i (y := nI (pcn t + (1 + (vx a)))) (by exact nI_add (pcn t) (1 + (vx a))) ?_
    refine lv_aload_n hx hb d_Ref_act_80 rfl (lv_at hl 4 rfl) ?_
    refine va_get (D := (dC, dI)) (ci := 8) (v := .ref (rA 2)) (C := R_Ref) (T := F_Ref) (N := 48) hx hb hw i_Ref hown hK hP 0 rfl rfl 2 (by decide) (hw _ m_901) (fun _ h9 => h9) rfl d_Ref_act_81 ?_
    refine lv_iload_n hx hb d_Ref_act_84 rfl (lv_at hl 5 rfl) ?_
    refine va_iald (D := (dC, dI)) hx hb hK hP 2 1 rfl rfl (i := nI t) (pk_in t 4 (by omega)) d_Ref_act_85 ?_
    refine tp_i (y := nI (zs t)) (by rw [show (nI t : Int32).toNatClampNeg = t from pk_cl t]) ?_
    refine lv_icmp_le (tgt := 98) hx hb d_Ref_act_86 (by decide) (fun c2 => ?_) (fun c2 => ?_)
    · skip
      have hc2 : pcn t + (1 + (vx a)) ≤ zs t := (nI_leI (a := pcn t + (1 + (vx a))) (b := zs t) (by omega) (by omega)).mp c2
      refine tp_pc (pc' := 98) (by rfl) ?_
      refine lv_aload_n hx hb d_Ref_act_98 rfl (lv_at hl 4 rfl) ?_
      refine va_get (D := (dC, dI)) (ci := 8) (v := .ref (rA 33)) (C := R_Ref) (T := F_Ref) (N := 48) hx hb hw i_Ref hown hK hP 0 rfl rfl 33 (by decide) (hw _ m_932) (fun _ h9 => h9) rfl d_Ref_act_99 ?_
      refine lv_iload_n hx hb d_Ref_act_102 rfl (lv_at hl 5 rfl) ?_
      refine va_iald (D := (dC, dI)) hx hb hK hP 1 0 rfl rfl (i := nI t) (pk_in t 4 (by omega)) d_Ref_act_103 ?_
      refine tp_i (y := nI (pcn t)) (by rw [show (nI t : Int32).toNatClampNeg = t from pk_cl t]) ?_
      refine lv_iload hx hb d_Ref_act_104 (lv_at hl 0 rfl) ?_
      refine lv_iadd hx hb d_Ref_act_106 ?_
      refine tp_i (y := nI (pcn t + (1 + (vx a)))) (by exact nI_add (pcn t) (1 + (vx a))) ?_
      refine tp_i (y := nI (if zs t < pcn t + (if hd9 (2 * t + rr a) = vv a then 1 else 1 + vx a) then zs t else pcn t + (if hd9 (2 * t + rr a) = vv a then 1 else 1 + vx a))) (by rw [if_neg c1, if_neg (by omega)]) ?_
      refine va_iast (D := (dC, dI)) hx hb hK hP (dd_D hD rfl) hS 1 0 rfl rfl (i := nI t) (x := nI (if zs t < pcn t + (if hd9 (2 * t + rr a) = vv a then 1 else 1 + vx a) then zs t else pcn t + (if hd9 (2 * t + rr a) = vv a then 1 else 1 + vx a))) (pk_in t 4 (by omega)) d_Ref_act_107 ?_
      clear hP hS
      intro H locs hP _ hS
      rw [show (nI t : Int32).toNatClampNeg = t from pk_cl t] at hP
      rw [show upd (fun i => nI (pcn i)) t (nI (if zs t < pcn t + (if hd9 (2 * t + rr a) = vv a then 1 else 1 + vx a) then zs t else pcn t + (if hd9 (2 * t + rr a) = vv a then 1 else 1 + vx a))) = fun i => nI (updN pcn t (if zs t < pcn t + (if hd9 (2 * t + rr a) = vv a then 1 else 1 + vx a) then zs t else pcn t + (if hd9 (2 * t + rr a) = vv a then 1 else 1 + vx a)) i) from upd_nI] at hP
      replace hP : va_P (dC, dI) classes [oc ra 8 [.int (nI T), .int (nI Ac), .ref (rA 2), .ref (rA 3), .ref (rA 4), .ref (rA 5), .ref (rA 6), .ref (rA 7), .ref (rA 8), .ref (rA 9), .ref (rA 10), .ref (rA 11), .ref (rA 12), .ref (rA 13), .int ir, .ref (rA 15), .ref (rA 16), .ref (rA 17), .ref (rA 18), .int (nI md), .int (nI wd), .ref (rA 21), .ref (rA 22), .ref (rA 23), .int (nI mn), .ref (rA 25), .int (nI cb), .int mr, .ref (rA 28), .ref (rA 29), .ref (rA 30), .ref (rA 31), .ref (rA 32), .ref (rA 33), .ref (rA 34), .ref (rA 35), .int (nI ld), .int (nI gm), .ref (rA 38), .ref (rA 39), .ref (rA 40), .ref (rA 41), .ref (rA 42), .ref (rA 43), .ref (rA 44), .ref (rA 45), .int (nI my), .ref (rA 47)], ia (rA 33) (rK9 33) 4 (fun i => nI ((updN pcn t (if zs t < pcn t + (if hd9 (2 * t + rr a) = vv a then 1 else 1 + vx a) then zs t else pcn t + (if hd9 (2 * t + rr a) = vv a then 1 else 1 + vx a))) i)), ia (rA 2) (rK9 2) 4 (fun i => nI (zs i)), ia (rA 3) (rK9 3) 28 (fun i => nI (kd i)), ia (rA 4) (rK9 4) 28 (fun i => nI (vx i)), ia (rA 5) (rK9 5) 28 (fun i => nI (rr i)), ia (rA 6) (rK9 6) 28 vv, ia (rA 34) (rK9 34) 8 hd9, ia (rA 29) (rK9 29) 28 (fun i0 => mN (fm i0)), ia (rA 31) (rK9 31) 28 (fun i => nI (dn i)), ia (rA 32) (rK9 32) 28 gv, ia (rA 30) (rK9 30) 28 (fun i => nI (hp i))] H := hP
      refine tp_pc (pc' := 108) (by rfl) ?_
      refine lv_iconst (v := 1) hx hb d_Ref_act_108 (by decide) ?_
      obtain ⟨hP9, hD9, -⟩ := cut3 (wc := [oc ra 8 [.int (nI T), .int (nI Ac), .ref (rA 2), .ref (rA 3), .ref (rA 4), .ref (rA 5), .ref (rA 6), .ref (rA 7), .ref (rA 8), .ref (rA 9), .ref (rA 10), .ref (rA 11), .ref (rA 12), .ref (rA 13), .int ir, .ref (rA 15), .ref (rA 16), .ref (rA 17), .ref (rA 18), .int (nI md), .int (nI wd), .ref (rA 21), .ref (rA 22), .ref (rA 23), .int (nI mn), .ref (rA 25), .int (nI cb), .int mr, .ref (rA 28), .ref (rA 29), .ref (rA 30), .ref (rA 31), .ref (rA 32), .ref (rA 33), .ref (rA 34), .ref (rA 35), .int (nI ld), .int (nI gm), .ref (rA 38), .ref (rA 39), .ref (rA 40), .ref (rA 41), .ref (rA 42), .ref (rA 43), .ref (rA 44), .ref (rA 45), .int (nI my), .ref (rA 47)], ia (rA 33) (rK9 33) 4 (fun i => nI ((updN pcn t (if zs t < pcn t + (if hd9 (2 * t + rr a) = vv a then 1 else 1 + vx a) then zs t else pcn t + (if hd9 (2 * t + rr a) = vv a then 1 else 1 + vx a))) i)), ia (rA 2) (rK9 2) 4 (fun i => nI (zs i)), ia (rA 3) (rK9 3) 28 (fun i => nI (kd i)), ia (rA 4) (rK9 4) 28 (fun i => nI (vx i)), ia (rA 5) (rK9 5) 28 (fun i => nI (rr i)), ia (rA 6) (rK9 6) 28 vv, ia (rA 34) (rK9 34) 8 hd9, ia (rA 29) (rK9 29) 28 (fun i0 => mN (fm i0)), ia (rA 31) (rK9 31) 28 (fun i => nI (dn i)), ia (rA 32) (rK9 32) 28 gv, ia (rA 30) (rK9 30) 28 (fun i => nI (hp i))]) hP hD rfl hS hA [0, 1, 2, 3, 4, 5, 6, 7, 8, 9, 10, 11] (by decide +kernel) rfl
      have hK9 := hK.sub (tys' := []) [] rfl
      refine W.widen (k := 0) (n := 0) (by exact Nat.le_of_ble_eq_true rfl) (by exact Nat.le_of_ble_eq_true rfl) ?_
      exact W.zret (v := 1) (ty := .boolean) hx hb hr (by decide) (fun t9 ht9 hW => ⟨⟨1, (), rfl, rfl, by rw [ht9]; exact hP9, va_K.moved hW.alike hK9, hD9⟩, hS.F ht9⟩) hS.2.2 d_Ref_act_109
    · skip
      have hc2 : ¬ (pcn t + (1 + (vx a)) ≤ zs t) := fun q9 => c2 ((nI_leI (a := pcn t + (1 + (vx a))) (b := zs t) (by omega) (by omega)).mpr q9)
      refine tp_pc (pc' := 89) (by rfl) ?_
      refine lv_aload_n hx hb d_Ref_act_89 rfl (lv_at hl 4 rfl) ?_
      refine va_get (D := (dC, dI)) (ci := 8) (v := .ref (rA 2)) (C := R_Ref) (T := F_Ref) (N := 48) hx hb hw i_Ref hown hK hP 0 rfl rfl 2 (by decide) (hw _ m_901) (fun _ h9 => h9) rfl d_Ref_act_90 ?_
      refine lv_iload_n hx hb d_Ref_act_93 rfl (lv_at hl 5 rfl) ?_
      refine va_iald (D := (dC, dI)) hx hb hK hP 2 1 rfl rfl (i := nI t) (pk_in t 4 (by omega)) d_Ref_act_94 ?_
      refine tp_i (y := nI (zs t)) (by rw [show (nI t : Int32).toNatClampNeg = t from pk_cl t]) ?_
      refine lv_goto (tgt := 107) hx hb d_Ref_act_95 (by decide) ?_
      refine tp_pc (pc' := 107) (by rfl) ?_
      refine tp_i (y := nI (if zs t < pcn t + (if hd9 (2 * t + rr a) = vv a then 1 else 1 + vx a) then zs t else pcn t + (if hd9 (2 * t + rr a) = vv a then 1 else 1 + vx a))) (by rw [if_neg c1, if_pos (by omega)]) ?_
      refine va_iast (D := (dC, dI)) hx hb hK hP (dd_D hD rfl) hS 1 0 rfl rfl (i := nI t) (x := nI (if zs t < pcn t + (if hd9 (2 * t + rr a) = vv a then 1 else 1 + vx a) then zs t else pcn t + (if hd9 (2 * t + rr a) = vv a then 1 else 1 + vx a))) (pk_in t 4 (by omega)) d_Ref_act_107 ?_
      clear hP hS
      intro H locs hP _ hS
      rw [show (nI t : Int32).toNatClampNeg = t from pk_cl t] at hP
      rw [show upd (fun i => nI (pcn i)) t (nI (if zs t < pcn t + (if hd9 (2 * t + rr a) = vv a then 1 else 1 + vx a) then zs t else pcn t + (if hd9 (2 * t + rr a) = vv a then 1 else 1 + vx a))) = fun i => nI (updN pcn t (if zs t < pcn t + (if hd9 (2 * t + rr a) = vv a then 1 else 1 + vx a) then zs t else pcn t + (if hd9 (2 * t + rr a) = vv a then 1 else 1 + vx a)) i) from upd_nI] at hP
      replace hP : va_P (dC, dI) classes [oc ra 8 [.int (nI T), .int (nI Ac), .ref (rA 2), .ref (rA 3), .ref (rA 4), .ref (rA 5), .ref (rA 6), .ref (rA 7), .ref (rA 8), .ref (rA 9), .ref (rA 10), .ref (rA 11), .ref (rA 12), .ref (rA 13), .int ir, .ref (rA 15), .ref (rA 16), .ref (rA 17), .ref (rA 18), .int (nI md), .int (nI wd), .ref (rA 21), .ref (rA 22), .ref (rA 23), .int (nI mn), .ref (rA 25), .int (nI cb), .int mr, .ref (rA 28), .ref (rA 29), .ref (rA 30), .ref (rA 31), .ref (rA 32), .ref (rA 33), .ref (rA 34), .ref (rA 35), .int (nI ld), .int (nI gm), .ref (rA 38), .ref (rA 39), .ref (rA 40), .ref (rA 41), .ref (rA 42), .ref (rA 43), .ref (rA 44), .ref (rA 45), .int (nI my), .ref (rA 47)], ia (rA 33) (rK9 33) 4 (fun i => nI ((updN pcn t (if zs t < pcn t + (if hd9 (2 * t + rr a) = vv a then 1 else 1 + vx a) then zs t else pcn t + (if hd9 (2 * t + rr a) = vv a then 1 else 1 + vx a))) i)), ia (rA 2) (rK9 2) 4 (fun i => nI (zs i)), ia (rA 3) (rK9 3) 28 (fun i => nI (kd i)), ia (rA 4) (rK9 4) 28 (fun i => nI (vx i)), ia (rA 5) (rK9 5) 28 (fun i => nI (rr i)), ia (rA 6) (rK9 6) 28 vv, ia (rA 34) (rK9 34) 8 hd9, ia (rA 29) (rK9 29) 28 (fun i0 => mN (fm i0)), ia (rA 31) (rK9 31) 28 (fun i => nI (dn i)), ia (rA 32) (rK9 32) 28 gv, ia (rA 30) (rK9 30) 28 (fun i => nI (hp i))] H := hP
      refine tp_pc (pc' := 108) (by rfl) ?_
      refine lv_iconst (v := 1) hx hb d_Ref_act_108 (by decide) ?_
      obtain ⟨hP9, hD9, -⟩ := cut3 (wc := [oc ra 8 [.int (nI T), .int (nI Ac), .ref (rA 2), .ref (rA 3), .ref (rA 4), .ref (rA 5), .ref (rA 6), .ref (rA 7), .ref (rA 8), .ref (rA 9), .ref (rA 10), .ref (rA 11), .ref (rA 12), .ref (rA 13), .int ir, .ref (rA 15), .ref (rA 16), .ref (rA 17), .ref (rA 18), .int (nI md), .int (nI wd), .ref (rA 21), .ref (rA 22), .ref (rA 23), .int (nI mn), .ref (rA 25), .int (nI cb), .int mr, .ref (rA 28), .ref (rA 29), .ref (rA 30), .ref (rA 31), .ref (rA 32), .ref (rA 33), .ref (rA 34), .ref (rA 35), .int (nI ld), .int (nI gm), .ref (rA 38), .ref (rA 39), .ref (rA 40), .ref (rA 41), .ref (rA 42), .ref (rA 43), .ref (rA 44), .ref (rA 45), .int (nI my), .ref (rA 47)], ia (rA 33) (rK9 33) 4 (fun i => nI ((updN pcn t (if zs t < pcn t + (if hd9 (2 * t + rr a) = vv a then 1 else 1 + vx a) then zs t else pcn t + (if hd9 (2 * t + rr a) = vv a then 1 else 1 + vx a))) i)), ia (rA 2) (rK9 2) 4 (fun i => nI (zs i)), ia (rA 3) (rK9 3) 28 (fun i => nI (kd i)), ia (rA 4) (rK9 4) 28 (fun i => nI (vx i)), ia (rA 5) (rK9 5) 28 (fun i => nI (rr i)), ia (rA 6) (rK9 6) 28 vv, ia (rA 34) (rK9 34) 8 hd9, ia (rA 29) (rK9 29) 28 (fun i0 => mN (fm i0)), ia (rA 31) (rK9 31) 28 (fun i => nI (dn i)), ia (rA 32) (rK9 32) 28 gv, ia (rA 30) (rK9 30) 28 (fun i => nI (hp i))]) hP hD rfl hS hA [0, 1, 2, 3, 4, 5, 6, 7, 8, 9, 10, 11] (by decide +kernel) rfl
      have hK9 := hK.sub (tys' := []) [] rfl
      refine W.widen (k := 0) (n := 0) (by exact Nat.le_of_ble_eq_true rfl) (by exact Nat.le_of_ble_eq_true rfl) ?_
      exact W.zret (v := 1) (ty := .boolean) hx hb hr (by decide) (fun t9 ht9 hW => ⟨⟨1, (), rfl, rfl, by rw [ht9]; exact hP9, va_K.moved hW.alike hK9, hD9⟩, hS.F ht9⟩) hS.2.2 d_Ref_act_109
  · skip
    refine tp_pc (pc' := 52) (by rfl) ?_
    refine lv_iconst (v := 1) hx hb d_Ref_act_52 (by decide) ?_
    refine lv_goto (tgt := 64) hx hb d_Ref_act_53 (by decide) ?_
    refine tp_pc (pc' := 64) (by rfl) ?_
    refine tp_i (y := nI 1) rfl ?_
    refine lv_istore (lv' := [(5, .int (nI 1)), (4, .int (nI (2 * t + (rr a)))), (3, .int 5), (2, .int (nI a)), (0, .ref ra), (1, .int (nI t))]) hx hb d_Ref_act_64 hl (by decide) rfl ?_
    clear hl ls
    intro ls hl
    refine lv_aload_n hx hb d_Ref_act_66 rfl (lv_at hl 4 rfl) ?_
    refine va_get (D := (dC, dI)) (ci := 8) (v := .ref (rA 33)) (C := R_Ref) (T := F_Ref) (N := 48) hx hb hw i_Ref hown hK hP 0 rfl rfl 33 (by decide) (hw _ m_932) (fun _ h9 => h9) rfl d_Ref_act_67 ?_
    refine lv_iload_n hx hb d_Ref_act_70 rfl (lv_at hl 5 rfl) ?_
    refine lv_aload_n hx hb d_Ref_act_71 rfl (lv_at hl 4 rfl) ?_
    refine va_get (D := (dC, dI)) (ci := 8) (v := .ref (rA 33)) (C := R_Ref) (T := F_Ref) (N := 48) hx hb hw i_Ref hown hK hP 0 rfl rfl 33 (by decide) (hw _ m_932) (fun _ h9 => h9) rfl d_Ref_act_72 ?_
    refine lv_iload_n hx hb d_Ref_act_75 rfl (lv_at hl 5 rfl) ?_
    refine va_iald (D := (dC, dI)) hx hb hK hP 1 0 rfl rfl (i := nI t) (pk_in t 4 (by omega)) d_Ref_act_76 ?_
    refine tp_i (y := nI (pcn t)) (by rw [show (nI t : Int32).toNatClampNeg = t from pk_cl t]) ?_
    refine lv_iload hx hb d_Ref_act_77 (lv_at hl 0 rfl) ?_
    refine lv_iadd hx hb d_Ref_act_79 ?_
    refine tp_i (y := nI (pcn t + 1)) (by exact nI_add (pcn t) 1) ?_
    refine lv_aload_n hx hb d_Ref_act_80 rfl (lv_at hl 4 rfl) ?_
    refine va_get (D := (dC, dI)) (ci := 8) (v := .ref (rA 2)) (C := R_Ref) (T := F_Ref) (N := 48) hx hb hw i_Ref hown hK hP 0 rfl rfl 2 (by decide) (hw _ m_901) (fun _ h9 => h9) rfl d_Ref_act_81 ?_
    refine lv_iload_n hx hb d_Ref_act_84 rfl (lv_at hl 5 rfl) ?_
    refine va_iald (D := (dC, dI)) hx hb hK hP 2 1 rfl rfl (i := nI t) (pk_in t 4 (by omega)) d_Ref_act_85 ?_
    refine tp_i (y := nI (zs t)) (by rw [show (nI t : Int32).toNatClampNeg = t from pk_cl t]) ?_
    refine lv_icmp_le (tgt := 98) hx hb d_Ref_act_86 (by decide) (fun c2 => ?_) (fun c2 => ?_)
    · skip
      have hc2 : pcn t + 1 ≤ zs t := (nI_leI (a := pcn t + 1) (b := zs t) (by omega) (by omega)).mp c2
      refine tp_pc (pc' := 98) (by rfl) ?_
      refine lv_aload_n hx hb d_Ref_act_98 rfl (lv_at hl 4 rfl) ?_
      refine va_get (D := (dC, dI)) (ci := 8) (v := .ref (rA 33)) (C := R_Ref) (T := F_Ref) (N := 48) hx hb hw i_Ref hown hK hP 0 rfl rfl 33 (by decide) (hw _ m_932) (fun _ h9 => h9) rfl d_Ref_act_99 ?_
      refine lv_iload_n hx hb d_Ref_act_102 rfl (lv_at hl 5 rfl) ?_
      refine va_iald (D := (dC, dI)) hx hb hK hP 1 0 rfl rfl (i := nI t) (pk_in t 4 (by omega)) d_Ref_act_103 ?_
      refine tp_i (y := nI (pcn t)) (by rw [show (nI t : Int32).toNatClampNeg = t from pk_cl t]) ?_
      refine lv_iload hx hb d_Ref_act_104 (lv_at hl 0 rfl) ?_
      refine lv_iadd hx hb d_Ref_act_106 ?_
      refine tp_i (y := nI (pcn t + 1)) (by exact nI_add (pcn t) 1) ?_
      refine tp_i (y := nI (if zs t < pcn t + (if hd9 (2 * t + rr a) = vv a then 1 else 1 + vx a) then zs t else pcn t + (if hd9 (2 * t + rr a) = vv a then 1 else 1 + vx a))) (by rw [if_pos c1, if_neg (by omega)]) ?_
      refine va_iast (D := (dC, dI)) hx hb hK hP (dd_D hD rfl) hS 1 0 rfl rfl (i := nI t) (x := nI (if zs t < pcn t + (if hd9 (2 * t + rr a) = vv a then 1 else 1 + vx a) then zs t else pcn t + (if hd9 (2 * t + rr a) = vv a then 1 else 1 + vx a))) (pk_in t 4 (by omega)) d_Ref_act_107 ?_
      clear hP hS
      intro H locs hP _ hS
      rw [show (nI t : Int32).toNatClampNeg = t from pk_cl t] at hP
      rw [show upd (fun i => nI (pcn i)) t (nI (if zs t < pcn t + (if hd9 (2 * t + rr a) = vv a then 1 else 1 + vx a) then zs t else pcn t + (if hd9 (2 * t + rr a) = vv a then 1 else 1 + vx a))) = fun i => nI (updN pcn t (if zs t < pcn t + (if hd9 (2 * t + rr a) = vv a then 1 else 1 + vx a) then zs t else pcn t + (if hd9 (2 * t + rr a) = vv a then 1 else 1 + vx a)) i) from upd_nI] at hP
      replace hP : va_P (dC, dI) classes [oc ra 8 [.int (nI T), .int (nI Ac), .ref (rA 2), .ref (rA 3), .ref (rA 4), .ref (rA 5), .ref (rA 6), .ref (rA 7), .ref (rA 8), .ref (rA 9), .ref (rA 10), .ref (rA 11), .ref (rA 12), .ref (rA 13), .int ir, .ref (rA 15), .ref (rA 16), .ref (rA 17), .ref (rA 18), .int (nI md), .int (nI wd), .ref (rA 21), .ref (rA 22), .ref (rA 23), .int (nI mn), .ref (rA 25), .int (nI cb), .int mr, .ref (rA 28), .ref (rA 29), .ref (rA 30), .ref (rA 31), .ref (rA 32), .ref (rA 33), .ref (rA 34), .ref (rA 35), .int (nI ld), .int (nI gm), .ref (rA 38), .ref (rA 39), .ref (rA 40), .ref (rA 41), .ref (rA 42), .ref (rA 43), .ref (rA 44), .ref (rA 45), .int (nI my), .ref (rA 47)], ia (rA 33) (rK9 33) 4 (fun i => nI ((updN pcn t (if zs t < pcn t + (if hd9 (2 * t + rr a) = vv a then 1 else 1 + vx a) then zs t else pcn t + (if hd9 (2 * t + rr a) = vv a then 1 else 1 + vx a))) i)), ia (rA 2) (rK9 2) 4 (fun i => nI (zs i)), ia (rA 3) (rK9 3) 28 (fun i => nI (kd i)), ia (rA 4) (rK9 4) 28 (fun i => nI (vx i)), ia (rA 5) (rK9 5) 28 (fun i => nI (rr i)), ia (rA 6) (rK9 6) 28 vv, ia (rA 34) (rK9 34) 8 hd9, ia (rA 29) (rK9 29) 28 (fun i0 => mN (fm i0)), ia (rA 31) (rK9 31) 28 (fun i => nI (dn i)), ia (rA 32) (rK9 32) 28 gv, ia (rA 30) (rK9 30) 28 (fun i => nI (hp i))] H := hP
      refine tp_pc (pc' := 108) (by rfl) ?_
      refine lv_iconst (v := 1) hx hb d_Ref_act_108 (by decide) ?_
      obtain ⟨hP9, hD9, -⟩ := cut3 (wc := [oc ra 8 [.int (nI T), .int (nI Ac), .ref (rA 2), .ref (rA 3), .ref (rA 4), .ref (rA 5), .ref (rA 6), .ref (rA 7), .ref (rA 8), .ref (rA 9), .ref (rA 10), .ref (rA 11), .ref (rA 12), .ref (rA 13), .int ir, .ref (rA 15), .ref (rA 16), .ref (rA 17), .ref (rA 18), .int (nI md), .int (nI wd), .ref (rA 21), .ref (rA 22), .ref (rA 23), .int (nI mn), .ref (rA 25), .int (nI cb), .int mr, .ref (rA 28), .ref (rA 29), .ref (rA 30), .ref (rA 31), .ref (rA 32), .ref (rA 33), .ref (rA 34), .ref (rA 35), .int (nI ld), .int (nI gm), .ref (rA 38), .ref (rA 39), .ref (rA 40), .ref (rA 41), .ref (rA 42), .ref (rA 43), .ref (rA 44), .ref (rA 45), .int (nI my), .ref (rA 47)], ia (rA 33) (rK9 33) 4 (fun i => nI ((updN pcn t (if zs t < pcn t + (if hd9 (2 * t + rr a) = vv a then 1 else 1 + vx a) then zs t else pcn t + (if hd9 (2 * t + rr a) = vv a then 1 else 1 + vx a))) i)), ia (rA 2) (rK9 2) 4 (fun i => nI (zs i)), ia (rA 3) (rK9 3) 28 (fun i => nI (kd i)), ia (rA 4) (rK9 4) 28 (fun i => nI (vx i)), ia (rA 5) (rK9 5) 28 (fun i => nI (rr i)), ia (rA 6) (rK9 6) 28 vv, ia (rA 34) (rK9 34) 8 hd9, ia (rA 29) (rK9 29) 28 (fun i0 => mN (fm i0)), ia (rA 31) (rK9 31) 28 (fun i => nI (dn i)), ia (rA 32) (rK9 32) 28 gv, ia (rA 30) (rK9 30) 28 (fun i => nI (hp i))]) hP hD rfl hS hA [0, 1, 2, 3, 4, 5, 6, 7, 8, 9, 10, 11] (by decide +kernel) rfl
      have hK9 := hK.sub (tys' := []) [] rfl
      refine W.widen (k := 0) (n := 0) (by exact Nat.le_of_ble_eq_true rfl) (by exact Nat.le_of_ble_eq_true rfl) ?_
      exact W.zret (v := 1) (ty := .boolean) hx hb hr (by decide) (fun t9 ht9 hW => ⟨⟨1, (), rfl, rfl, by rw [ht9]; exact hP9, va_K.moved hW.alike hK9, hD9⟩, hS.F ht9⟩) hS.2.2 d_Ref_act_109
    · skip
      have hc2 : ¬ (pcn t + 1 ≤ zs t) := fun q9 => c2 ((nI_leI (a := pcn t + 1) (b := zs t) (by omega) (by omega)).mpr q9)
      refine tp_pc (pc' := 89) (by rfl) ?_
      refine lv_aload_n hx hb d_Ref_act_89 rfl (lv_at hl 4 rfl) ?_
      refine va_get (D := (dC, dI)) (ci := 8) (v := .ref (rA 2)) (C := R_Ref) (T := F_Ref) (N := 48) hx hb hw i_Ref hown hK hP 0 rfl rfl 2 (by decide) (hw _ m_901) (fun _ h9 => h9) rfl d_Ref_act_90 ?_
      refine lv_iload_n hx hb d_Ref_act_93 rfl (lv_at hl 5 rfl) ?_
      refine va_iald (D := (dC, dI)) hx hb hK hP 2 1 rfl rfl (i := nI t) (pk_in t 4 (by omega)) d_Ref_act_94 ?_
      refine tp_i (y := nI (zs t)) (by rw [show (nI t : Int32).toNatClampNeg = t from pk_cl t]) ?_
      refine lv_goto (tgt := 107) hx hb d_Ref_act_95 (by decide) ?_
      refine tp_pc (pc' := 107) (by rfl) ?_
      refine tp_i (y := nI (if zs t < pcn t + (if hd9 (2 * t + rr a) = vv a then 1 else 1 + vx a) then zs t else pcn t + (if hd9 (2 * t + rr a) = vv a then 1 else 1 + vx a))) (by rw [if_pos c1, if_pos (by omega)]) ?_
      refine va_iast (D := (dC, dI)) hx hb hK hP (dd_D hD rfl) hS 1 0 rfl rfl (i := nI t) (x := nI (if zs t < pcn t + (if hd9 (2 * t + rr a) = vv a then 1 else 1 + vx a) then zs t else pcn t + (if hd9 (2 * t + rr a) = vv a then 1 else 1 + vx a))) (pk_in t 4 (by omega)) d_Ref_act_107 ?_
      clear hP hS
      intro H locs hP _ hS
      rw [show (nI t : Int32).toNatClampNeg = t from pk_cl t] at hP
      rw [show upd (fun i => nI (pcn i)) t (nI (if zs t < pcn t + (if hd9 (2 * t + rr a) = vv a then 1 else 1 + vx a) then zs t else pcn t + (if hd9 (2 * t + rr a) = vv a then 1 else 1 + vx a))) = fun i => nI (updN pcn t (if zs t < pcn t + (if hd9 (2 * t + rr a) = vv a then 1 else 1 + vx a) then zs t else pcn t + (if hd9 (2 * t + rr a) = vv a then 1 else 1 + vx a)) i) from upd_nI] at hP
      replace hP : va_P (dC, dI) classes [oc ra 8 [.int (nI T), .int (nI Ac), .ref (rA 2), .ref (rA 3), .ref (rA 4), .ref (rA 5), .ref (rA 6), .ref (rA 7), .ref (rA 8), .ref (rA 9), .ref (rA 10), .ref (rA 11), .ref (rA 12), .ref (rA 13), .int ir, .ref (rA 15), .ref (rA 16), .ref (rA 17), .ref (rA 18), .int (nI md), .int (nI wd), .ref (rA 21), .ref (rA 22), .ref (rA 23), .int (nI mn), .ref (rA 25), .int (nI cb), .int mr, .ref (rA 28), .ref (rA 29), .ref (rA 30), .ref (rA 31), .ref (rA 32), .ref (rA 33), .ref (rA 34), .ref (rA 35), .int (nI ld), .int (nI gm), .ref (rA 38), .ref (rA 39), .ref (rA 40), .ref (rA 41), .ref (rA 42), .ref (rA 43), .ref (rA 44), .ref (rA 45), .int (nI my), .ref (rA 47)], ia (rA 33) (rK9 33) 4 (fun i => nI ((updN pcn t (if zs t < pcn t + (if hd9 (2 * t + rr a) = vv a then 1 else 1 + vx a) then zs t else pcn t + (if hd9 (2 * t + rr a) = vv a then 1 else 1 + vx a))) i)), ia (rA 2) (rK9 2) 4 (fun i => nI (zs i)), ia (rA 3) (rK9 3) 28 (fun i => nI (kd i)), ia (rA 4) (rK9 4) 28 (fun i => nI (vx i)), ia (rA 5) (rK9 5) 28 (fun i => nI (rr i)), ia (rA 6) (rK9 6) 28 vv, ia (rA 34) (rK9 34) 8 hd9, ia (rA 29) (rK9 29) 28 (fun i0 => mN (fm i0)), ia (rA 31) (rK9 31) 28 (fun i => nI (dn i)), ia (rA 32) (rK9 32) 28 gv, ia (rA 30) (rK9 30) 28 (fun i => nI (hp i))] H := hP
      refine tp_pc (pc' := 108) (by rfl) ?_
      refine lv_iconst (v := 1) hx hb d_Ref_act_108 (by decide) ?_
      obtain ⟨hP9, hD9, -⟩ := cut3 (wc := [oc ra 8 [.int (nI T), .int (nI Ac), .ref (rA 2), .ref (rA 3), .ref (rA 4), .ref (rA 5), .ref (rA 6), .ref (rA 7), .ref (rA 8), .ref (rA 9), .ref (rA 10), .ref (rA 11), .ref (rA 12), .ref (rA 13), .int ir, .ref (rA 15), .ref (rA 16), .ref (rA 17), .ref (rA 18), .int (nI md), .int (nI wd), .ref (rA 21), .ref (rA 22), .ref (rA 23), .int (nI mn), .ref (rA 25), .int (nI cb), .int mr, .ref (rA 28), .ref (rA 29), .ref (rA 30), .ref (rA 31), .ref (rA 32), .ref (rA 33), .ref (rA 34), .ref (rA 35), .int (nI ld), .int (nI gm), .ref (rA 38), .ref (rA 39), .ref (rA 40), .ref (rA 41), .ref (rA 42), .ref (rA 43), .ref (rA 44), .ref (rA 45), .int (nI my), .ref (rA 47)], ia (rA 33) (rK9 33) 4 (fun i => nI ((updN pcn t (if zs t < pcn t + (if hd9 (2 * t + rr a) = vv a then 1 else 1 + vx a) then zs t else pcn t + (if hd9 (2 * t + rr a) = vv a then 1 else 1 + vx a))) i)), ia (rA 2) (rK9 2) 4 (fun i => nI (zs i)), ia (rA 3) (rK9 3) 28 (fun i => nI (kd i)), ia (rA 4) (rK9 4) 28 (fun i => nI (vx i)), ia (rA 5) (rK9 5) 28 (fun i => nI (rr i)), ia (rA 6) (rK9 6) 28 vv, ia (rA 34) (rK9 34) 8 hd9, ia (rA 29) (rK9 29) 28 (fun i0 => mN (fm i0)), ia (rA 31) (rK9 31) 28 (fun i => nI (dn i)), ia (rA 32) (rK9 32) 28 gv, ia (rA 30) (rK9 30) 28 (fun i => nI (hp i))]) hP hD rfl hS hA [0, 1, 2, 3, 4, 5, 6, 7, 8, 9, 10, 11] (by decide +kernel) rfl
      have hK9 := hK.sub (tys' := []) [] rfl
      refine W.widen (k := 0) (n := 0) (by exact Nat.le_of_ble_eq_true rfl) (by exact Nat.le_of_ble_eq_true rfl) ?_
      exact W.zret (v := 1) (ty := .boolean) hx hb hr (by decide) (fun t9 ht9 hW => ⟨⟨1, (), rfl, rfl, by rw [ht9]; exact hP9, va_K.moved hW.alike hK9, hD9⟩, hS.F ht9⟩) hS.2.2 d_Ref_act_109
set_option maxHeartbeats 4000000 in
set_option maxRecDepth 100000 in
theorem gen_Ref_act_4 (l : Launch) (dC : Nat → ClassId) (dI : Nat → Nat → Nat) (ra : Nat) (rA : Nat → Nat) (rK9 : Nat → ClassId) (T Ac md wd mn cb ld gm my : Nat) (ir mr : Int32) (t a : Nat) (pcn zs kd vx rr fm dn hp : Nat → Nat) (vv hd9 gv : Nat → Int32) (ht : t < 4) (ha : a = 7 * t + pcn t) (hpc : pcn t < zs t) (hzt : zs t ≤ 7) (hvx : vx a < 4) (hrr : rr a < 2) (hk : kd a = 4) (sz : Nat) : Met l y_Ref_act w_Ref_act ({ frames := 1, cells := 0, slots := 0, locals := 40 }) (va_Pc [.ref ra, .int (nI t)] (fun U => U.heap.size = sz ∧ va_P (dC, dI) classes [oc ra 8 [.int (nI T), .int (nI Ac), .ref (rA 2), .ref (rA 3), .ref (rA 4), .ref (rA 5), .ref (rA 6), .ref (rA 7), .ref (rA 8), .ref (rA 9), .ref (rA 10), .ref (rA 11), .ref (rA 12), .ref (rA 13), .int ir, .ref (rA 15), .ref (rA 16), .ref (rA 17), .ref (rA 18), .int (nI md), .int (nI wd), .ref (rA 21), .ref (rA 22), .ref (rA 23), .int (nI mn), .ref (rA 25), .int (nI cb), .int mr, .ref (rA 28), .ref (rA 29), .ref (rA 30), .ref (rA 31), .ref (rA 32), .ref (rA 33), .ref (rA 34), .ref (rA 35), .int (nI ld), .int (nI gm), .ref (rA 38), .ref (rA 39), .ref (rA 40), .ref (rA 41), .ref (rA 42), .ref (rA 43), .ref (rA 44), .ref (rA 45), .int (nI my), .ref (rA 47)], ia (rA 33) (rK9 33) 4 (fun i => nI (pcn i)), ia (rA 2) (rK9 2) 4 (fun i => nI (zs i)), ia (rA 3) (rK9 3) 28 (fun i => nI (kd i)), ia (rA 4) (rK9 4) 28 (fun i => nI (vx i)), ia (rA 5) (rK9 5) 28 (fun i => nI (rr i)), ia (rA 6) (rK9 6) 28 vv, ia (rA 34) (rK9 34) 8 hd9, ia (rA 29) (rK9 29) 28 (fun i0 => mN (fm i0)), ia (rA 31) (rK9 31) 28 (fun i => nI (dn i)), ia (rA 32) (rK9 32) 28 gv, ia (rA 30) (rK9 30) 28 (fun i => nI (hp i))] U.heap ∧ va_K (dC, dI) classes [((rK9 33), .int), ((rK9 2), .int), ((rK9 3), .int), ((rK9 4), .int), ((rK9 5), .int), ((rK9 6), .int), ((rK9 34), .int), ((rK9 29), .int), ((rK9 31), .boolean), ((rK9 32), .int), ((rK9 30), .boolean)] U ∧ va_D (fun _ => True) [oc ra 8 [.int (nI T), .int (nI Ac), .ref (rA 2), .ref (rA 3), .ref (rA 4), .ref (rA 5), .ref (rA 6), .ref (rA 7), .ref (rA 8), .ref (rA 9), .ref (rA 10), .ref (rA 11), .ref (rA 12), .ref (rA 13), .int ir, .ref (rA 15), .ref (rA 16), .ref (rA 17), .ref (rA 18), .int (nI md), .int (nI wd), .ref (rA 21), .ref (rA 22), .ref (rA 23), .int (nI mn), .ref (rA 25), .int (nI cb), .int mr, .ref (rA 28), .ref (rA 29), .ref (rA 30), .ref (rA 31), .ref (rA 32), .ref (rA 33), .ref (rA 34), .ref (rA 35), .int (nI ld), .int (nI gm), .ref (rA 38), .ref (rA 39), .ref (rA 40), .ref (rA 41), .ref (rA 42), .ref (rA 43), .ref (rA 44), .ref (rA 45), .int (nI my), .ref (rA 47)], ia (rA 33) (rK9 33) 4 (fun i => nI (pcn i)), ia (rA 2) (rK9 2) 4 (fun i => nI (zs i)), ia (rA 3) (rK9 3) 28 (fun i => nI (kd i)), ia (rA 4) (rK9 4) 28 (fun i => nI (vx i)), ia (rA 5) (rK9 5) 28 (fun i => nI (rr i)), ia (rA 6) (rK9 6) 28 vv, ia (rA 34) (rK9 34) 8 hd9, ia (rA 29) (rK9 29) 28 (fun i0 => mN (fm i0)), ia (rA 31) (rK9 31) 28 (fun i => nI (dn i)), ia (rA 32) (rK9 32) 28 gv, ia (rA 30) (rK9 30) 28 (fun i => nI (hp i))] ∧ nw U)) (va_Qi (fun (r : Int32) (_ : Unit) => r = 1) (fun _ t9 => va_P (dC, dI) classes [oc ra 8 [.int (nI T), .int (nI Ac), .ref (rA 2), .ref (rA 3), .ref (rA 4), .ref (rA 5), .ref (rA 6), .ref (rA 7), .ref (rA 8), .ref (rA 9), .ref (rA 10), .ref (rA 11), .ref (rA 12), .ref (rA 13), .int ir, .ref (rA 15), .ref (rA 16), .ref (rA 17), .ref (rA 18), .int (nI md), .int (nI wd), .ref (rA 21), .ref (rA 22), .ref (rA 23), .int (nI mn), .ref (rA 25), .int (nI cb), .int mr, .ref (rA 28), .ref (rA 29), .ref (rA 30), .ref (rA 31), .ref (rA 32), .ref (rA 33), .ref (rA 34), .ref (rA 35), .int (nI ld), .int (nI gm), .ref (rA 38), .ref (rA 39), .ref (rA 40), .ref (rA 41), .ref (rA 42), .ref (rA 43), .ref (rA 44), .ref (rA 45), .int (nI my), .ref (rA 47)], ia (rA 33) (rK9 33) 4 (fun i => nI ((updN pcn t (pcn t + 1)) i)), ia (rA 2) (rK9 2) 4 (fun i => nI (zs i)), ia (rA 3) (rK9 3) 28 (fun i => nI (kd i)), ia (rA 4) (rK9 4) 28 (fun i => nI (vx i)), ia (rA 5) (rK9 5) 28 (fun i => nI (rr i)), ia (rA 6) (rK9 6) 28 vv, ia (rA 34) (rK9 34) 8 hd9, ia (rA 29) (rK9 29) 28 (fun i0 => mN (fm i0)), ia (rA 31) (rK9 31) 28 (fun i => nI ((updN dn a 1) i)), ia (rA 32) (rK9 32) 28 gv, ia (rA 30) (rK9 30) 28 (fun i => nI ((updN hp a 1) i))] t9.heap ∧ va_K (dC, dI) classes [] t9 ∧ va_D (va_A [oc ra 8 [.int (nI T), .int (nI Ac), .ref (rA 2), .ref (rA 3), .ref (rA 4), .ref (rA 5), .ref (rA 6), .ref (rA 7), .ref (rA 8), .ref (rA 9), .ref (rA 10), .ref (rA 11), .ref (rA 12), .ref (rA 13), .int ir, .ref (rA 15), .ref (rA 16), .ref (rA 17), .ref (rA 18), .int (nI md), .int (nI wd), .ref (rA 21), .ref (rA 22), .ref (rA 23), .int (nI mn), .ref (rA 25), .int (nI cb), .int mr, .ref (rA 28), .ref (rA 29), .ref (rA 30), .ref (rA 31), .ref (rA 32), .ref (rA 33), .ref (rA 34), .ref (rA 35), .int (nI ld), .int (nI gm), .ref (rA 38), .ref (rA 39), .ref (rA 40), .ref (rA 41), .ref (rA 42), .ref (rA 43), .ref (rA 44), .ref (rA 45), .int (nI my), .ref (rA 47)], ia (rA 33) (rK9 33) 4 (fun i => nI (pcn i)), ia (rA 2) (rK9 2) 4 (fun i => nI (zs i)), ia (rA 3) (rK9 3) 28 (fun i => nI (kd i)), ia (rA 4) (rK9 4) 28 (fun i => nI (vx i)), ia (rA 5) (rK9 5) 28 (fun i => nI (rr i)), ia (rA 6) (rK9 6) 28 vv, ia (rA 34) (rK9 34) 8 hd9, ia (rA 29) (rK9 29) 28 (fun i0 => mN (fm i0)), ia (rA 31) (rK9 31) 28 (fun i => nI (dn i)), ia (rA 32) (rK9 32) 28 gv, ia (rA 30) (rK9 30) 28 (fun i => nI (hp i))] sz) [oc ra 8 [.int (nI T), .int (nI Ac), .ref (rA 2), .ref (rA 3), .ref (rA 4), .ref (rA 5), .ref (rA 6), .ref (rA 7), .ref (rA 8), .ref (rA 9), .ref (rA 10), .ref (rA 11), .ref (rA 12), .ref (rA 13), .int ir, .ref (rA 15), .ref (rA 16), .ref (rA 17), .ref (rA 18), .int (nI md), .int (nI wd), .ref (rA 21), .ref (rA 22), .ref (rA 23), .int (nI mn), .ref (rA 25), .int (nI cb), .int mr, .ref (rA 28), .ref (rA 29), .ref (rA 30), .ref (rA 31), .ref (rA 32), .ref (rA 33), .ref (rA 34), .ref (rA 35), .int (nI ld), .int (nI gm), .ref (rA 38), .ref (rA 39), .ref (rA 40), .ref (rA 41), .ref (rA 42), .ref (rA 43), .ref (rA 44), .ref (rA 45), .int (nI my), .ref (rA 47)], ia (rA 33) (rK9 33) 4 (fun i => nI ((updN pcn t (pcn t + 1)) i)), ia (rA 2) (rK9 2) 4 (fun i => nI (zs i)), ia (rA 3) (rK9 3) 28 (fun i => nI (kd i)), ia (rA 4) (rK9 4) 28 (fun i => nI (vx i)), ia (rA 5) (rK9 5) 28 (fun i => nI (rr i)), ia (rA 6) (rK9 6) 28 vv, ia (rA 34) (rK9 34) 8 hd9, ia (rA 29) (rK9 29) 28 (fun i0 => mN (fm i0)), ia (rA 31) (rK9 31) 28 (fun i => nI ((updN dn a 1) i)), ia (rA 32) (rK9 32) 28 gv, ia (rA 30) (rK9 30) 28 (fun i => nI ((updN hp a 1) i))]) (va_A [oc ra 8 [.int (nI T), .int (nI Ac), .ref (rA 2), .ref (rA 3), .ref (rA 4), .ref (rA 5), .ref (rA 6), .ref (rA 7), .ref (rA 8), .ref (rA 9), .ref (rA 10), .ref (rA 11), .ref (rA 12), .ref (rA 13), .int ir, .ref (rA 15), .ref (rA 16), .ref (rA 17), .ref (rA 18), .int (nI md), .int (nI wd), .ref (rA 21), .ref (rA 22), .ref (rA 23), .int (nI mn), .ref (rA 25), .int (nI cb), .int mr, .ref (rA 28), .ref (rA 29), .ref (rA 30), .ref (rA 31), .ref (rA 32), .ref (rA 33), .ref (rA 34), .ref (rA 35), .int (nI ld), .int (nI gm), .ref (rA 38), .ref (rA 39), .ref (rA 40), .ref (rA 41), .ref (rA 42), .ref (rA 43), .ref (rA 44), .ref (rA 45), .int (nI my), .ref (rA 47)], ia (rA 33) (rK9 33) 4 (fun i => nI (pcn i)), ia (rA 2) (rK9 2) 4 (fun i => nI (zs i)), ia (rA 3) (rK9 3) 28 (fun i => nI (kd i)), ia (rA 4) (rK9 4) 28 (fun i => nI (vx i)), ia (rA 5) (rK9 5) 28 (fun i => nI (rr i)), ia (rA 6) (rK9 6) 28 vv, ia (rA 34) (rK9 34) 8 hd9, ia (rA 29) (rK9 29) 28 (fun i0 => mN (fm i0)), ia (rA 31) (rK9 31) 28 (fun i => nI (dn i)), ia (rA 32) (rK9 32) 28 gv, ia (rA 30) (rK9 30) 28 (fun i => nI (hp i))] sz)) 0 0 (va_A [oc ra 8 [.int (nI T), .int (nI Ac), .ref (rA 2), .ref (rA 3), .ref (rA 4), .ref (rA 5), .ref (rA 6), .ref (rA 7), .ref (rA 8), .ref (rA 9), .ref (rA 10), .ref (rA 11), .ref (rA 12), .ref (rA 13), .int ir, .ref (rA 15), .ref (rA 16), .ref (rA 17), .ref (rA 18), .int (nI md), .int (nI wd), .ref (rA 21), .ref (rA 22), .ref (rA 23), .int (nI mn), .ref (rA 25), .int (nI cb), .int mr, .ref (rA 28), .ref (rA 29), .ref (rA 30), .ref (rA 31), .ref (rA 32), .ref (rA 33), .ref (rA 34), .ref (rA 35), .int (nI ld), .int (nI gm), .ref (rA 38), .ref (rA 39), .ref (rA 40), .ref (rA 41), .ref (rA 42), .ref (rA 43), .ref (rA 44), .ref (rA 45), .int (nI my), .ref (rA 47)], ia (rA 33) (rK9 33) 4 (fun i => nI (pcn i)), ia (rA 2) (rK9 2) 4 (fun i => nI (zs i)), ia (rA 3) (rK9 3) 28 (fun i => nI (kd i)), ia (rA 4) (rK9 4) 28 (fun i => nI (vx i)), ia (rA 5) (rK9 5) 28 (fun i => nI (rr i)), ia (rA 6) (rK9 6) 28 vv, ia (rA 34) (rK9 34) 8 hd9, ia (rA 29) (rK9 29) 28 (fun i0 => mN (fm i0)), ia (rA 31) (rK9 31) 28 (fun i => nI (dn i)), ia (rA 32) (rK9 32) 28 gv, ia (rA 30) (rK9 30) 28 (fun i => nI (hp i))] sz) := by
  refine Met.ofW (cc := b_Ref_act) (maxL := 6) (ret := (some .boolean)) (by decide) rfl ?_
  intro p e0 s m args below meth c s₁ B hml hv
  obtain ⟨rfl, hsz, hP, hK, hD0, hn⟩ := hv
  have hx := B.exec
  have hb := B.bytes
  have hr := B.returns
  have hw := fun w (h : w ∈ wt) => atoms_spec (ws := w_Ref_act) B.pre w (List.mem_cons_of_mem _ h)
  have hown : s.vm.findClass R_Ref = some m.cls := findClass_of_methodNamed B.named
  have hlocks := B.notSynchronized
  subst hsz
  have hD1 := hD0.self (sz := s.heap.size)
  generalize hAe : va_A [oc ra 8 [.int (nI T), .int (nI Ac), .ref (rA 2), .ref (rA 3), .ref (rA 4), .ref (rA 5), .ref (rA 6), .ref (rA 7), .ref (rA 8), .ref (rA 9), .ref (rA 10), .ref (rA 11), .ref (rA 12), .ref (rA 13), .int ir, .ref (rA 15), .ref (rA 16), .ref (rA 17), .ref (rA 18), .int (nI md), .int (nI wd), .ref (rA 21), .ref (rA 22), .ref (rA 23), .int (nI mn), .ref (rA 25), .int (nI cb), .int mr, .ref (rA 28), .ref (rA 29), .ref (rA 30), .ref (rA 31), .ref (rA 32), .ref (rA 33), .ref (rA 34), .ref (rA 35), .int (nI ld), .int (nI gm), .ref (rA 38), .ref (rA 39), .ref (rA 40), .ref (rA 41), .ref (rA 42), .ref (rA 43), .ref (rA 44), .ref (rA 45), .int (nI my), .ref (rA 47)], ia (rA 33) (rK9 33) 4 (fun i => nI (pcn i)), ia (rA 2) (rK9 2) 4 (fun i => nI (zs i)), ia (rA 3) (rK9 3) 28 (fun i => nI (kd i)), ia (rA 4) (rK9 4) 28 (fun i => nI (vx i)), ia (rA 5) (rK9 5) 28 (fun i => nI (rr i)), ia (rA 6) (rK9 6) 28 vv, ia (rA 34) (rK9 34) 8 hd9, ia (rA 29) (rK9 29) 28 (fun i0 => mN (fm i0)), ia (rA 31) (rK9 31) 28 (fun i => nI (dn i)), ia (rA 32) (rK9 32) 28 gv, ia (rA 30) (rK9 30) 28 (fun i => nI (hp i))] s.heap.size = A at hD1 ⊢
  have hA : ∀ q : Nat, s.heap.size ≤ q → A q := fun q h => by rw [← hAe]; exact Or.inr h
  have hD : dd A [ra, (rA 33), (rA 2), (rA 3), (rA 4), (rA 5), (rA 6), (rA 34), (rA 29), (rA 31), (rA 32), (rA 30)] := dd_of hD1 rfl
  clear hAe hD0 hD1
  have hS : va_S A s.heap s.heap [] := va_S.rf
  replace hP : va_P (dC, dI) classes [oc ra 8 [.int (nI T), .int (nI Ac), .ref (rA 2), .ref (rA 3), .ref (rA 4), .ref (rA 5), .ref (rA 6), .ref (rA 7), .ref (rA 8), .ref (rA 9), .ref (rA 10), .ref (rA 11), .ref (rA 12), .ref (rA 13), .int ir, .ref (rA 15), .ref (rA 16), .ref (rA 17), .ref (rA 18), .int (nI md), .int (nI wd), .ref (rA 21), .ref (rA 22), .ref (rA 23), .int (nI mn), .ref (rA 25), .int (nI cb), .int mr, .ref (rA 28), .ref (rA 29), .ref (rA 30), .ref (rA 31), .ref (rA 32), .ref (rA 33), .ref (rA 34), .ref (rA 35), .int (nI ld), .int (nI gm), .ref (rA 38), .ref (rA 39), .ref (rA 40), .ref (rA 41), .ref (rA 42), .ref (rA 43), .ref (rA 44), .ref (rA 45), .int (nI my), .ref (rA 47)], ia (rA 33) (rK9 33) 4 (fun i => nI (pcn i)), ia (rA 2) (rK9 2) 4 (fun i => nI (zs i)), ia (rA 3) (rK9 3) 28 (fun i => nI (kd i)), ia (rA 4) (rK9 4) 28 (fun i => nI (vx i)), ia (rA 5) (rK9 5) 28 (fun i => nI (rr i)), ia (rA 6) (rK9 6) 28 vv, ia (rA 34) (rK9 34) 8 hd9, ia (rA 29) (rK9 29) 28 (fun i0 => mN (fm i0)), ia (rA 31) (rK9 31) 28 (fun i => nI (dn i)), ia (rA 32) (rK9 32) 28 gv, ia (rA 30) (rK9 30) 28 (fun i => nI (hp i))] s.heap := hP
  have hl := lv_entry ([.ref ra, .int (nI t)]) (n := 6) (Nat.le_of_ble_eq_true rfl)
  rw [lg_entry_eq]
  generalize (lg_sl ([.ref ra, .int (nI t)]) ++ List.replicate (6 - (lg_sl ([.ref ra, .int (nI t)])).length) Slot.unset).toArray = ls at hl ⊢
  replace hl : lv_has ls 6 [(0, .ref ra), (1, .int (nI t))] := hl
  refine lv_bipush (v := 7) hx hb d_Ref_act_0 (by decide) ?_
  refine lv_iload_n hx hb d_Ref_act_2 rfl (lv_at hl 1 rfl) ?_
  refine lv_imul hx hb d_Ref_act_3 ?_
  refine tp_i (y := nI (7 * t)) (by exact pk_mul 7 t) ?_
  refine lv_aload_n hx hb d_Ref_act_4 rfl (lv_at hl 0 rfl) ?_
  refine va_get (D := (dC, dI)) (ci := 8) (v := .ref (rA 33)) (C := R_Ref) (T := F_Ref) (N := 48) hx hb hw i_Ref hown hK hP 0 rfl rfl 33 (by decide) (hw _ m_932) (fun _ h9 => h9) rfl d_Ref_act_5 ?_
  refine lv_iload_n hx hb d_Ref_act_8 rfl (lv_at hl 1 rfl) ?_
  refine va_iald (D := (dC, dI)) hx hb hK hP 1 0 rfl rfl (i := nI t) (pk_in t 4 (by omega)) d_Ref_act_9 ?_
  refine tp_i (y := nI (pcn t)) (by rw [show (nI t : Int32).toNatClampNeg = t from pk_cl t]) ?_
  refine lv_iadd hx hb d_Ref_act_10 ?_
  refine tp_i (y := nI (7 * t + (pcn t))) (by exact nI_add (7 * t) (pcn t)) ?_
  refine tp_i (y := nI a) (by rw [ha]) ?_
  refine lv_istore_n (lv' := [(2, .int (nI a)), (0, .ref ra), (1, .int (nI t))]) hx hb d_Ref_act_11 rfl hl (by decide) rfl ?_
  clear hl ls
  intro ls hl
  refine lv_aload_n hx hb d_Ref_act_12 rfl (lv_at hl 1 rfl) ?_
  refine va_get (D := (dC, dI)) (ci := 8) (v := .ref (rA 3)) (C := R_Ref) (T := F_Ref) (N := 48) hx hb hw i_Ref hown hK hP 0 rfl rfl 3 (by decide) (hw _ m_902) (fun _ h9 => h9) rfl d_Ref_act_13 ?_
  refine lv_iload_n hx hb d_Ref_act_16 rfl (lv_at hl 0 rfl) ?_
  refine va_iald (D := (dC, dI)) hx hb hK hP 3 2 rfl rfl (i := nI a) (pk_in a 28 (by omega)) d_Ref_act_17 ?_
  refine tp_i (y := nI (kd a)) (by rw [show (nI a : Int32).toNatClampNeg = a from pk_cl a]) ?_
  refine tp_i (y := 4) (by rw [hk]; rfl) ?_
  refine lv_istore_n (lv' := [(3, .int 4), (2, .int (nI a)), (0, .ref ra), (1, .int (nI t))]) hx hb d_Ref_act_18 rfl hl (by decide) rfl ?_
  clear hl ls
  intro ls hl
  refine lv_iconst (v := 2) hx hb d_Ref_act_19 (by decide) ?_
  refine lv_iload_n hx hb d_Ref_act_20 rfl (lv_at hl 3 rfl) ?_
  refine lv_imul hx hb d_Ref_act_21 ?_
  refine tp_i (y := nI (2 * t)) (by exact pk_mul 2 t) ?_
  refine lv_aload_n hx hb d_Ref_act_22 rfl (lv_at hl 2 rfl) ?_
  refine va_get (D := (dC, dI)) (ci := 8) (v := .ref (rA 5)) (C := R_Ref) (T := F_Ref) (N := 48) hx hb hw i_Ref hown hK hP 0 rfl rfl 5 (by decide) (hw _ m_904) (fun _ h9 => h9) rfl d_Ref_act_23 ?_
  refine lv_iload_n hx hb d_Ref_act_26 rfl (lv_at hl 1 rfl) ?_
  refine va_iald (D := (dC, dI)) hx hb hK hP 5 4 rfl rfl (i := nI a) (pk_in a 28 (by omega)) d_Ref_act_27 ?_
  refine tp_i (y := nI (rr a)) (by rw [show (nI a : Int32).toNatClampNeg = a from pk_cl a]) ?_
  refine lv_iadd hx hb d_Ref_act_28 ?_
  refine tp_i (y := nI (2 * t + (rr a))) (by exact nI_add (2 * t) (rr a)) ?_
  refine lv_istore (lv' := [(4, .int (nI (2 * t + (rr a)))), (3, .int 4), (2, .int (nI a)), (0, .ref ra), (1, .int (nI t))]) hx hb d_Ref_act_29 hl (by decide) rfl ?_
  clear hl ls
  intro ls hl
  refine lv_iload_n hx hb d_Ref_act_31 rfl (lv_at hl 1 rfl) ?_
  refine lv_iconst (v := 5) hx hb d_Ref_act_32 (by decide) ?_
  refine lv_icmp_ne (tgt := 110) hx hb d_Ref_act_33 (by decide) (fun c_1 => ?_) (fun c_1 => absurd c_1 (by decide))
  refine tp_pc (pc' := 110) (by rfl) ?_
  refine lv_iconst (v := 0) hx hb d_Ref_act_110 (by decide) ?_
  refine lv_istore (lv' := [(5, .int 0), (4, .int (nI (2 * t + (rr a)))), (3, .int 4), (2, .int (nI a)), (0, .ref ra), (1, .int (nI t))]) hx hb d_Ref_act_111 hl (by decide) rfl ?_
  clear hl ls
  intro ls hl
  refine lv_iload_n hx hb d_Ref_act_113 rfl (lv_at hl 2 rfl) ?_
  refine tp_i (y := nI 4) rfl ?_
  obtain ⟨hPc, hDc, hFc⟩ := cut3 (wc := []) hP hD rfl hS hA [] (by decide +kernel) rfl
  have hKc := hK.sub (tys' := []) [] rfl
  refine va_calli (va_runS (As := [.int (nI 4)]) (rest := []) ⟨hx, hb, hml, hown, hw⟩ (gen_Ref_takes l dC dI 4 (by decide) s.heap.size) (cw_S 1 hw g_Ref_takes rfl rfl rfl (hw _ m_109) (hw _ m_1190) (hw _ m_1191) (by decide +kernel) ⟨Nat.le_of_ble_eq_true rfl, Nat.le_of_ble_eq_true rfl⟩) ⟨fun a U g mk q => by obtain ⟨q0, q1, qP, qK, qD, qN⟩ := q; exact ⟨q0, q1, qP, va_K.moved (u := U) (U := U.calling g mk a) (Vm.Alike.refl U.vm) qK, qD, nw_call qN⟩, fun U hU hW => ⟨rfl, by rw [hU], by rw [hU]; exact hPc, va_K.moved hW.alike hKc, hDc.weaken (fun _ _ _ _ => trivial), nw_warm hW hn⟩⟩ rfl rfl hl.1 rfl (lv_room (Nat.le_of_ble_eq_true rfl)) d_Ref_act_114 ⟨Nat.le_of_ble_eq_true rfl, Nat.le_of_ble_eq_true rfl⟩) hS (fun q _ h => hFc q h) hFc ?_
  intro r_2 u t9 H1 locs1 ht9 hvm hw1 hB hz1 hk1 hS1
  obtain ⟨hP1, hK1, hD1⟩ := hB
  rw [ht9] at hP1
  replace hK1 := va_K.moved hvm.symm hK1
  have hPD := join3 hP hD rfl [] [0, 1, 2, 3, 4, 5, 6, 7, 8, 9, 10, 11] rfl (by rfl) (by decide +kernel) (by decide +kernel) hk1 hFc hP1 hD1
  replace hK : va_K (dC, dI) classes [((rK9 33), .int), ((rK9 2), .int), ((rK9 3), .int), ((rK9 4), .int), ((rK9 5), .int), ((rK9 6), .int), ((rK9 34), .int), ((rK9 29), .int), ((rK9 31), .boolean), ((rK9 32), .int), ((rK9 30), .boolean)] s := hK.app hK1
  clear hP1 hK1 hD1 hk1 hz1 hFc hKc hDc hPc hvm ht9 hP hS t9
  have hP : va_P (dC, dI) classes [oc ra 8 [.int (nI T), .int (nI Ac), .ref (rA 2), .ref (rA 3), .ref (rA 4), .ref (rA 5), .ref (rA 6), .ref (rA 7), .ref (rA 8), .ref (rA 9), .ref (rA 10), .ref (rA 11), .ref (rA 12), .ref (rA 13), .int ir, .ref (rA 15), .ref (rA 16), .ref (rA 17), .ref (rA 18), .int (nI md), .int (nI wd), .ref (rA 21), .ref (rA 22), .ref (rA 23), .int (nI mn), .ref (rA 25), .int (nI cb), .int mr, .ref (rA 28), .ref (rA 29), .ref (rA 30), .ref (rA 31), .ref (rA 32), .ref (rA 33), .ref (rA 34), .ref (rA 35), .int (nI ld), .int (nI gm), .ref (rA 38), .ref (rA 39), .ref (rA 40), .ref (rA 41), .ref (rA 42), .ref (rA 43), .ref (rA 44), .ref (rA 45), .int (nI my), .ref (rA 47)], ia (rA 33) (rK9 33) 4 (fun i => nI (pcn i)), ia (rA 2) (rK9 2) 4 (fun i => nI (zs i)), ia (rA 3) (rK9 3) 28 (fun i => nI (kd i)), ia (rA 4) (rK9 4) 28 (fun i => nI (vx i)), ia (rA 5) (rK9 5) 28 (fun i => nI (rr i)), ia (rA 6) (rK9 6) 28 vv, ia (rA 34) (rK9 34) 8 hd9, ia (rA 29) (rK9 29) 28 (fun i0 => mN (fm i0)), ia (rA 31) (rK9 31) 28 (fun i => nI (dn i)), ia (rA 32) (rK9 32) 28 gv, ia (rA 30) (rK9 30) 28 (fun i => nI (hp i))] H1 := hPD.1
  replace hD : dd A [ra, (rA 33), (rA 2), (rA 3), (rA 4), (rA 5), (rA 6), (rA 34), (rA 29), (rA 31), (rA 32), (rA 30)] := dd_of hPD.2 rfl
  clear hPD
  revert H1 locs1
  intro H locs hS hP
  refine tp_i (y := 0) (hw1.trans (if_neg (by decide))) ?_
  clear hw1 r_2 u
  refine tp_pc (pc' := 117) (by rfl) ?_
  refine lv_if_eq (tgt := 158) hx hb d_Ref_act_117 (by decide) (fun c_3 => ?_) (fun c_3 => absurd c_3 (by decide))
  refine tp_pc (pc' := 158) (by rfl) ?_
  refine lv_aload_n hx hb d_Ref_act_158 rfl (lv_at hl 4 rfl) ?_
  refine va_get (D := (dC, dI)) (ci := 8) (v := .ref (rA 30)) (C := R_Ref) (T := F_Ref) (N := 48) hx hb hw i_Ref hown hK hP 0 rfl rfl 30 (by decide) (hw _ m_929) (fun _ h9 => h9) rfl d_Ref_act_159 ?_
  refine lv_iload_n hx hb d_Ref_act_162 rfl (lv_at hl 3 rfl) ?_
  refine lv_iconst (v := 1) hx hb d_Ref_act_163 (by decide) ?_
  refine tp_i (y := nI 1) rfl ?_
  refine va_zast (D := (dC, dI)) hx hb hK hP (dd_D hD rfl) hS 11 10 rfl rfl (i := nI a) (x := nI 1) (pk_in a 28 (by omega)) d_Ref_act_164 ?_
  clear hP hS locs H
  intro H locs hP _ hS
  rw [show (nI a : Int32).toNatClampNeg = a from pk_cl a] at hP
  rw [show vp_nar .boolean (nI 1) = (nI 1) from by decide] at hP
  rw [show upd (fun i => nI (hp i)) a (nI 1) = fun i => nI (updN hp a 1 i) from upd_nI] at hP
  replace hP : va_P (dC, dI) classes [oc ra 8 [.int (nI T), .int (nI Ac), .ref (rA 2), .ref (rA 3), .ref (rA 4), .ref (rA 5), .ref (rA 6), .ref (rA 7), .ref (rA 8), .ref (rA 9), .ref (rA 10), .ref (rA 11), .ref (rA 12), .ref (rA 13), .int ir, .ref (rA 15), .ref (rA 16), .ref (rA 17), .ref (rA 18), .int (nI md), .int (nI wd), .ref (rA 21), .ref (rA 22), .ref (rA 23), .int (nI mn), .ref (rA 25), .int (nI cb), .int mr, .ref (rA 28), .ref (rA 29), .ref (rA 30), .ref (rA 31), .ref (rA 32), .ref (rA 33), .ref (rA 34), .ref (rA 35), .int (nI ld), .int (nI gm), .ref (rA 38), .ref (rA 39), .ref (rA 40), .ref (rA 41), .ref (rA 42), .ref (rA 43), .ref (rA 44), .ref (rA 45), .int (nI my), .ref (rA 47)], ia (rA 33) (rK9 33) 4 (fun i => nI (pcn i)), ia (rA 2) (rK9 2) 4 (fun i => nI (zs i)), ia (rA 3) (rK9 3) 28 (fun i => nI (kd i)), ia (rA 4) (rK9 4) 28 (fun i => nI (vx i)), ia (rA 5) (rK9 5) 28 (fun i => nI (rr i)), ia (rA 6) (rK9 6) 28 vv, ia (rA 34) (rK9 34) 8 hd9, ia (rA 29) (rK9 29) 28 (fun i0 => mN (fm i0)), ia (rA 31) (rK9 31) 28 (fun i => nI (dn i)), ia (rA 32) (rK9 32) 28 gv, ia (rA 30) (rK9 30) 28 (fun i => nI ((updN hp a 1) i))] H := hP
  refine tp_pc (pc' := 165) (by rfl) ?_
  refine lv_aload_n hx hb d_Ref_act_165 rfl (lv_at hl 4 rfl) ?_
  refine va_get (D := (dC, dI)) (ci := 8) (v := .ref (rA 31)) (C := R_Ref) (T := F_Ref) (N := 48) hx hb hw i_Ref hown hK hP 0 rfl rfl 31 (by decide) (hw _ m_930) (fun _ h9 => h9) rfl d_Ref_act_166 ?_
  refine lv_iload_n hx hb d_Ref_act_169 rfl (lv_at hl 3 rfl) ?_
  refine lv_iconst (v := 1) hx hb d_Ref_act_170 (by decide) ?_
  refine tp_i (y := nI 1) rfl ?_
  refine va_zast (D := (dC, dI)) hx hb hK hP (dd_D hD rfl) hS 9 8 rfl rfl (i := nI a) (x := nI 1) (pk_in a 28 (by omega)) d_Ref_act_171 ?_
  clear hP hS locs H
  intro H locs hP _ hS
  rw [show (nI a : Int32).toNatClampNeg = a from pk_cl a] at hP
  rw [show vp_nar .boolean (nI 1) = (nI 1) from by decide] at hP
  rw [show upd (fun i => nI (dn i)) a (nI 1) = fun i => nI (updN dn a 1 i) from upd_nI] at hP
  replace hP : va_P (dC, dI) classes [oc ra 8 [.int (nI T), .int (nI Ac), .ref (rA 2), .ref (rA 3), .ref (rA 4), .ref (rA 5), .ref (rA 6), .ref (rA 7), .ref (rA 8), .ref (rA 9), .ref (rA 10), .ref (rA 11), .ref (rA 12), .ref (rA 13), .int ir, .ref (rA 15), .ref (rA 16), .ref (rA 17), .ref (rA 18), .int (nI md), .int (nI wd), .ref (rA 21), .ref (rA 22), .ref (rA 23), .int (nI mn), .ref (rA 25), .int (nI cb), .int mr, .ref (rA 28), .ref (rA 29), .ref (rA 30), .ref (rA 31), .ref (rA 32), .ref (rA 33), .ref (rA 34), .ref (rA 35), .int (nI ld), .int (nI gm), .ref (rA 38), .ref (rA 39), .ref (rA 40), .ref (rA 41), .ref (rA 42), .ref (rA 43), .ref (rA 44), .ref (rA 45), .int (nI my), .ref (rA 47)], ia (rA 33) (rK9 33) 4 (fun i => nI (pcn i)), ia (rA 2) (rK9 2) 4 (fun i => nI (zs i)), ia (rA 3) (rK9 3) 28 (fun i => nI (kd i)), ia (rA 4) (rK9 4) 28 (fun i => nI (vx i)), ia (rA 5) (rK9 5) 28 (fun i => nI (rr i)), ia (rA 6) (rK9 6) 28 vv, ia (rA 34) (rK9 34) 8 hd9, ia (rA 29) (rK9 29) 28 (fun i0 => mN (fm i0)), ia (rA 31) (rK9 31) 28 (fun i => nI ((updN dn a 1) i)), ia (rA 32) (rK9 32) 28 gv, ia (rA 30) (rK9 30) 28 (fun i => nI ((updN hp a 1) i))] H := hP
  refine tp_pc (pc' := 172) (by rfl) ?_
  refine lv_aload_n hx hb d_Ref_act_172 rfl (lv_at hl 4 rfl) ?_
  refine va_get (D := (dC, dI)) (ci := 8) (v := .ref (rA 33)) (C := R_Ref) (T := F_Ref) (N := 48) hx hb hw i_Ref hown hK hP 0 rfl rfl 33 (by decide) (hw _ m_932) (fun _ h9 => h9) rfl d_Ref_act_173 ?_
  refine lv_iload_n hx hb d_Ref_act_176 rfl (lv_at hl 5 rfl) ?_
  refine lv_dup2_11 hx hb d_Ref_act_177 rfl rfl ?_
  refine va_iald (D := (dC, dI)) hx hb hK hP 1 0 rfl rfl (i := nI t) (pk_in t 4 (by omega)) d_Ref_act_178 ?_
  refine tp_i (y := nI (pcn t)) (by rw [show (nI t : Int32).toNatClampNeg = t from pk_cl t]) ?_
  refine lv_iconst (v := 1) hx hb d_Ref_act_179 (by decide) ?_
  refine lv_iadd hx hb d_Ref_act_180 ?_
  refine tp_i (y := nI (pcn t + 1)) (by exact nI_add (pcn t) 1) ?_
  refine va_iast (D := (dC, dI)) hx hb hK hP (dd_D hD rfl) hS 1 0 rfl rfl (i := nI t) (x := nI (pcn t + 1)) (pk_in t 4 (by omega)) d_Ref_act_181 ?_
  clear hP hS locs H
  intro H locs hP _ hS
  rw [show (nI t : Int32).toNatClampNeg = t from pk_cl t] at hP
  rw [show upd (fun i => nI (pcn i)) t (nI (pcn t + 1)) = fun i => nI (updN pcn t (pcn t + 1) i) from upd_nI] at hP
  replace hP : va_P (dC, dI) classes [oc ra 8 [.int (nI T), .int (nI Ac), .ref (rA 2), .ref (rA 3), .ref (rA 4), .ref (rA 5), .ref (rA 6), .ref (rA 7), .ref (rA 8), .ref (rA 9), .ref (rA 10), .ref (rA 11), .ref (rA 12), .ref (rA 13), .int ir, .ref (rA 15), .ref (rA 16), .ref (rA 17), .ref (rA 18), .int (nI md), .int (nI wd), .ref (rA 21), .ref (rA 22), .ref (rA 23), .int (nI mn), .ref (rA 25), .int (nI cb), .int mr, .ref (rA 28), .ref (rA 29), .ref (rA 30), .ref (rA 31), .ref (rA 32), .ref (rA 33), .ref (rA 34), .ref (rA 35), .int (nI ld), .int (nI gm), .ref (rA 38), .ref (rA 39), .ref (rA 40), .ref (rA 41), .ref (rA 42), .ref (rA 43), .ref (rA 44), .ref (rA 45), .int (nI my), .ref (rA 47)], ia (rA 33) (rK9 33) 4 (fun i => nI ((updN pcn t (pcn t + 1)) i)), ia (rA 2) (rK9 2) 4 (fun i => nI (zs i)), ia (rA 3) (rK9 3) 28 (fun i => nI (kd i)), ia (rA 4) (rK9 4) 28 (fun i => nI (vx i)), ia (rA 5) (rK9 5) 28 (fun i => nI (rr i)), ia (rA 6) (rK9 6) 28 vv, ia (rA 34) (rK9 34) 8 hd9, ia (rA 29) (rK9 29) 28 (fun i0 => mN (fm i0)), ia (rA 31) (rK9 31) 28 (fun i => nI ((updN dn a 1) i)), ia (rA 32) (rK9 32) 28 gv, ia (rA 30) (rK9 30) 28 (fun i => nI ((updN hp a 1) i))] H := hP
  refine tp_pc (pc' := 182) (by rfl) ?_
  refine lv_iload_n hx hb d_Ref_act_182 rfl (lv_at hl 2 rfl) ?_
  refine lv_iconst (v := 2) hx hb d_Ref_act_183 (by decide) ?_
  refine lv_icmp_ne (tgt := 210) hx hb d_Ref_act_184 (by decide) (fun c_4 => ?_) (fun c_4 => absurd c_4 (by decide))
  refine tp_pc (pc' := 210) (by rfl) ?_
  refine lv_iload_n hx hb d_Ref_act_210 rfl (lv_at hl 2 rfl) ?_
  refine lv_iconst (v := 1) hx hb d_Ref_act_211 (by decide) ?_
  refine lv_icmp_ne (tgt := 230) hx hb d_Ref_act_212 (by decide) (fun c_5 => ?_) (fun c_5 => absurd c_5 (by decide))
  refine tp_pc (pc' := 230) (by rfl) ?_
  refine lv_iload_n hx hb d_Ref_act_230 rfl (lv_at hl 2 rfl) ?_
  refine tp_i (y := nI 4) rfl ?_
  obtain ⟨hPc, hDc, hFc⟩ := cut3 (wc := []) hP hD rfl hS hA [] (by decide +kernel) rfl
  have hKc := hK.sub (tys' := []) [] rfl
  refine va_calli (va_runS (As := [.int (nI 4)]) (rest := []) ⟨hx, hb, hml, hown, hw⟩ (gen_Ref_takes l dC dI 4 (by decide) H.size) (cw_S 1 hw g_Ref_takes rfl rfl rfl (hw _ m_109) (hw _ m_1190) (hw _ m_1191) (by decide +kernel) ⟨Nat.le_of_ble_eq_true rfl, Nat.le_of_ble_eq_true rfl⟩) ⟨fun a U g mk q => by obtain ⟨q0, q1, qP, qK, qD, qN⟩ := q; exact ⟨q0, q1, qP, va_K.moved (u := U) (U := U.calling g mk a) (Vm.Alike.refl U.vm) qK, qD, nw_call qN⟩, fun U hU hW => ⟨rfl, by rw [hU], by rw [hU]; exact hPc, va_K.moved hW.alike hKc, hDc.weaken (fun _ _ _ _ => trivial), nw_warm hW hn⟩⟩ rfl rfl hl.1 rfl (lv_room (Nat.le_of_ble_eq_true rfl)) d_Ref_act_231 ⟨Nat.le_of_ble_eq_true rfl, Nat.le_of_ble_eq_true rfl⟩) hS (fun q _ h => hFc q h) hFc ?_
  intro r_6 u t9 H1 locs1 ht9 hvm hw1 hB hz1 hk1 hS1
  obtain ⟨hP1, hK1, hD1⟩ := hB
  rw [ht9] at hP1
  replace hK1 := va_K.moved hvm.symm hK1
  have hPD := join3 hP hD rfl [] [0, 1, 2, 3, 4, 5, 6, 7, 8, 9, 10, 11] rfl (by rfl) (by decide +kernel) (by decide +kernel) hk1 hFc hP1 hD1
  replace hK : va_K (dC, dI) classes [((rK9 33), .int), ((rK9 2), .int), ((rK9 3), .int), ((rK9 4), .int), ((rK9 5), .int), ((rK9 6), .int), ((rK9 34), .int), ((rK9 29), .int), ((rK9 31), .boolean), ((rK9 32), .int), ((rK9 30), .boolean)] s := hK.app hK1
  clear hP1 hK1 hD1 hk1 hz1 hFc hKc hDc hPc hvm ht9 hP hS t9 locs H
  have hP : va_P (dC, dI) classes [oc ra 8 [.int (nI T), .int (nI Ac), .ref (rA 2), .ref (rA 3), .ref (rA 4), .ref (rA 5), .ref (rA 6), .ref (rA 7), .ref (rA 8), .ref (rA 9), .ref (rA 10), .ref (rA 11), .ref (rA 12), .ref (rA 13), .int ir, .ref (rA 15), .ref (rA 16), .ref (rA 17), .ref (rA 18), .int (nI md), .int (nI wd), .ref (rA 21), .ref (rA 22), .ref (rA 23), .int (nI mn), .ref (rA 25), .int (nI cb), .int mr, .ref (rA 28), .ref (rA 29), .ref (rA 30), .ref (rA 31), .ref (rA 32), .ref (rA 33), .ref (rA 34), .ref (rA 35), .int (nI ld), .int (nI gm), .ref (rA 38), .ref (rA 39), .ref (rA 40), .ref (rA 41), .ref (rA 42), .ref (rA 43), .ref (rA 44), .ref (rA 45), .int (nI my), .ref (rA 47)], ia (rA 33) (rK9 33) 4 (fun i => nI ((updN pcn t (pcn t + 1)) i)), ia (rA 2) (rK9 2) 4 (fun i => nI (zs i)), ia (rA 3) (rK9 3) 28 (fun i => nI (kd i)), ia (rA 4) (rK9 4) 28 (fun i => nI (vx i)), ia (rA 5) (rK9 5) 28 (fun i => nI (rr i)), ia (rA 6) (rK9 6) 28 vv, ia (rA 34) (rK9 34) 8 hd9, ia (rA 29) (rK9 29) 28 (fun i0 => mN (fm i0)), ia (rA 31) (rK9 31) 28 (fun i => nI ((updN dn a 1) i)), ia (rA 32) (rK9 32) 28 gv, ia (rA 30) (rK9 30) 28 (fun i => nI ((updN hp a 1) i))] H1 := hPD.1
  replace hD : dd A [ra, (rA 33), (rA 2), (rA 3), (rA 4), (rA 5), (rA 6), (rA 34), (rA 29), (rA 31), (rA 32), (rA 30)] := dd_of hPD.2 rfl
  clear hPD
  revert H1 locs1
  intro H locs hS hP
  refine tp_i (y := 0) (hw1.trans (if_neg (by decide))) ?_
  clear hw1 r_6 u
  refine tp_pc (pc' := 234) (by rfl) ?_
  refine lv_if_eq (tgt := 261) hx hb d_Ref_act_234 (by decide) (fun c_7 => ?_) (fun c_7 => absurd c_7 (by decide))
  refine tp_pc (pc' := 261) (by rfl) ?_
  refine lv_iconst (v := 1) hx hb d_Ref_act_261 (by decide) ?_
  replace hP : va_P (dC, dI) classes [oc ra 8 [.int (nI T), .int (nI Ac), .ref (rA 2), .ref (rA 3), .ref (rA 4), .ref (rA 5), .ref (rA 6), .ref (rA 7), .ref (rA 8), .ref (rA 9), .ref (rA 10), .ref (rA 11), .ref (rA 12), .ref (rA 13), .int ir, .ref (rA 15), .ref (rA 16), .ref (rA 17), .ref (rA 18), .int (nI md), .int (nI wd), .ref (rA 21), .ref (rA 22), .ref (rA 23), .int (nI mn), .ref (rA 25), .int (nI cb), .int mr, .ref (rA 28), .ref (rA 29), .ref (rA 30), .ref (rA 31), .ref (rA 32), .ref (rA 33), .ref (rA 34), .ref (rA 35), .int (nI ld), .int (nI gm), .ref (rA 38), .ref (rA 39), .ref (rA 40), .ref (rA 41), .ref (rA 42), .ref (rA 43), .ref (rA 44), .ref (rA 45), .int (nI my), .ref (rA 47)], ia (rA 33) (rK9 33) 4 (fun i => nI ((updN pcn t (pcn t + 1)) i)), ia (rA 2) (rK9 2) 4 (fun i => nI (zs i)), ia (rA 3) (rK9 3) 28 (fun i => nI (kd i)), ia (rA 4) (rK9 4) 28 (fun i => nI (vx i)), ia (rA 5) (rK9 5) 28 (fun i => nI (rr i)), ia (rA 6) (rK9 6) 28 vv, ia (rA 34) (rK9 34) 8 hd9, ia (rA 29) (rK9 29) 28 (fun i0 => mN (fm i0)), ia (rA 31) (rK9 31) 28 (fun i => nI ((updN dn a 1) i)), ia (rA 32) (rK9 32) 28 gv, ia (rA 30) (rK9 30) 28 (fun i => nI ((updN hp a 1) i))] H := hP
  obtain ⟨hP9, hD9, -⟩ := cut3 (wc := [oc ra 8 [.int (nI T), .int (nI Ac), .ref (rA 2), .ref (rA 3), .ref (rA 4), .ref (rA 5), .ref (rA 6), .ref (rA 7), .ref (rA 8), .ref (rA 9), .ref (rA 10), .ref (rA 11), .ref (rA 12), .ref (rA 13), .int ir, .ref (rA 15), .ref (rA 16), .ref (rA 17), .ref (rA 18), .int (nI md), .int (nI wd), .ref (rA 21), .ref (rA 22), .ref (rA 23), .int (nI mn), .ref (rA 25), .int (nI cb), .int mr, .ref (rA 28), .ref (rA 29), .ref (rA 30), .ref (rA 31), .ref (rA 32), .ref (rA 33), .ref (rA 34), .ref (rA 35), .int (nI ld), .int (nI gm), .ref (rA 38), .ref (rA 39), .ref (rA 40), .ref (rA 41), .ref (rA 42), .ref (rA 43), .ref (rA 44), .ref (rA 45), .int (nI my), .ref (rA 47)], ia (rA 33) (rK9 33) 4 (fun i => nI ((updN pcn t (pcn t + 1)) i)), ia (rA 2) (rK9 2) 4 (fun i => nI (zs i)), ia (rA 3) (rK9 3) 28 (fun i => nI (kd i)), ia (rA 4) (rK9 4) 28 (fun i => nI (vx i)), ia (rA 5) (rK9 5) 28 (fun i => nI (rr i)), ia (rA 6) (rK9 6) 28 vv, ia (rA 34) (rK9 34) 8 hd9, ia (rA 29) (rK9 29) 28 (fun i0 => mN (fm i0)), ia (rA 31) (rK9 31) 28 (fun i => nI ((updN dn a 1) i)), ia (rA 32) (rK9 32) 28 gv, ia (rA 30) (rK9 30) 28 (fun i => nI ((updN hp a 1) i))]) hP hD rfl hS hA [0, 1, 2, 3, 4, 5, 6, 7, 8, 9, 10, 11] (by decide +kernel) rfl
  have hK9 := hK.sub (tys' := []) [] rfl
  refine W.widen (k := 0) (n := 0) (by exact Nat.le_of_ble_eq_true rfl) (by exact Nat.le_of_ble_eq_true rfl) ?_
  exact W.zret (v := 1) (ty := .boolean) hx hb hr (by decide) (fun t9 ht9 hW => ⟨⟨1, (), rfl, rfl, by rw [ht9]; exact hP9, va_K.moved hW.alike hK9, hD9⟩, hS.F ht9⟩) hS.2.2 d_Ref_act_262
set_option maxHeartbeats 4000000 in
set_option maxRecDepth 100000 in
theorem gen_Ref_act_1 (l : Launch) (dC : Nat → ClassId) (dI : Nat → Nat → Nat) (ra : Nat) (rA : Nat → Nat) (rK9 : Nat → ClassId) (T Ac md wd mn cb ld gm my : Nat) (ir mr : Int32) (t a : Nat) (pcn zs kd vx rr fm dn hp : Nat → Nat) (vv hd9 gv : Nat → Int32) (ht : t < 4) (ha : a = 7 * t + pcn t) (hpc : pcn t < zs t) (hzt : zs t ≤ 7) (hvx : vx a < 4) (hrr : rr a < 2) (hk : kd a = 1) (sz : Nat) : Met l y_Ref_act w_Ref_act ({ frames := 1, cells := 0, slots := 0, locals := 40 }) (va_Pc [.ref ra, .int (nI t)] (fun U => U.heap.size = sz ∧ va_P (dC, dI) classes [oc ra 8 [.int (nI T), .int (nI Ac), .ref (rA 2), .ref (rA 3), .ref (rA 4), .ref (rA 5), .ref (rA 6), .ref (rA 7), .ref (rA 8), .ref (rA 9), .ref (rA 10), .ref (rA 11), .ref (rA 12), .ref (rA 13), .int ir, .ref (rA 15), .ref (rA 16), .ref (rA 17), .ref (rA 18), .int (nI md), .int (nI wd), .ref (rA 21), .ref (rA 22), .ref (rA 23), .int (nI mn), .ref (rA 25), .int (nI cb), .int mr, .ref (rA 28), .ref (rA 29), .ref (rA 30), .ref (rA 31), .ref (rA 32), .ref (rA 33), .ref (rA 34), .ref (rA 35), .int (nI ld), .int (nI gm), .ref (rA 38), .ref (rA 39), .ref (rA 40), .ref (rA 41), .ref (rA 42), .ref (rA 43), .ref (rA 44), .ref (rA 45), .int (nI my), .ref (rA 47)], ia (rA 33) (rK9 33) 4 (fun i => nI (pcn i)), ia (rA 2) (rK9 2) 4 (fun i => nI (zs i)), ia (rA 3) (rK9 3) 28 (fun i => nI (kd i)), ia (rA 4) (rK9 4) 28 (fun i => nI (vx i)), ia (rA 5) (rK9 5) 28 (fun i => nI (rr i)), ia (rA 6) (rK9 6) 28 vv, ia (rA 34) (rK9 34) 8 hd9, ia (rA 29) (rK9 29) 28 (fun i0 => mN (fm i0)), ia (rA 31) (rK9 31) 28 (fun i => nI (dn i)), ia (rA 32) (rK9 32) 28 gv, ia (rA 30) (rK9 30) 28 (fun i => nI (hp i))] U.heap ∧ va_K (dC, dI) classes [((rK9 33), .int), ((rK9 2), .int), ((rK9 3), .int), ((rK9 4), .int), ((rK9 5), .int), ((rK9 6), .int), ((rK9 34), .int), ((rK9 29), .int), ((rK9 31), .boolean), ((rK9 32), .int), ((rK9 30), .boolean)] U ∧ va_D (fun _ => True) [oc ra 8 [.int (nI T), .int (nI Ac), .ref (rA 2), .ref (rA 3), .ref (rA 4), .ref (rA 5), .ref (rA 6), .ref (rA 7), .ref (rA 8), .ref (rA 9), .ref (rA 10), .ref (rA 11), .ref (rA 12), .ref (rA 13), .int ir, .ref (rA 15), .ref (rA 16), .ref (rA 17), .ref (rA 18), .int (nI md), .int (nI wd), .ref (rA 21), .ref (rA 22), .ref (rA 23), .int (nI mn), .ref (rA 25), .int (nI cb), .int mr, .ref (rA 28), .ref (rA 29), .ref (rA 30), .ref (rA 31), .ref (rA 32), .ref (rA 33), .ref (rA 34), .ref (rA 35), .int (nI ld), .int (nI gm), .ref (rA 38), .ref (rA 39), .ref (rA 40), .ref (rA 41), .ref (rA 42), .ref (rA 43), .ref (rA 44), .ref (rA 45), .int (nI my), .ref (rA 47)], ia (rA 33) (rK9 33) 4 (fun i => nI (pcn i)), ia (rA 2) (rK9 2) 4 (fun i => nI (zs i)), ia (rA 3) (rK9 3) 28 (fun i => nI (kd i)), ia (rA 4) (rK9 4) 28 (fun i => nI (vx i)), ia (rA 5) (rK9 5) 28 (fun i => nI (rr i)), ia (rA 6) (rK9 6) 28 vv, ia (rA 34) (rK9 34) 8 hd9, ia (rA 29) (rK9 29) 28 (fun i0 => mN (fm i0)), ia (rA 31) (rK9 31) 28 (fun i => nI (dn i)), ia (rA 32) (rK9 32) 28 gv, ia (rA 30) (rK9 30) 28 (fun i => nI (hp i))] ∧ nw U)) (va_Qi (fun (r : Int32) (_ : Unit) => r = 1) (fun _ t9 => va_P (dC, dI) classes [oc ra 8 [.int (nI T), .int (nI Ac), .ref (rA 2), .ref (rA 3), .ref (rA 4), .ref (rA 5), .ref (rA 6), .ref (rA 7), .ref (rA 8), .ref (rA 9), .ref (rA 10), .ref (rA 11), .ref (rA 12), .ref (rA 13), .int ir, .ref (rA 15), .ref (rA 16), .ref (rA 17), .ref (rA 18), .int (nI md), .int (nI wd), .ref (rA 21), .ref (rA 22), .ref (rA 23), .int (nI mn), .ref (rA 25), .int (nI cb), .int mr, .ref (rA 28), .ref (rA 29), .ref (rA 30), .ref (rA 31), .ref (rA 32), .ref (rA 33), .ref (rA 34), .ref (rA 35), .int (nI ld), .int (nI gm), .ref (rA 38), .ref (rA 39), .ref (rA 40), .ref (rA 41), .ref (rA 42), .ref (rA 43), .ref (rA 44), .ref (rA 45), .int (nI my), .ref (rA 47)], ia (rA 33) (rK9 33) 4 (fun i => nI ((updN pcn t (pcn t + 1)) i)), ia (rA 2) (rK9 2) 4 (fun i => nI (zs i)), ia (rA 3) (rK9 3) 28 (fun i => nI (kd i)), ia (rA 4) (rK9 4) 28 (fun i => nI (vx i)), ia (rA 5) (rK9 5) 28 (fun i => nI (rr i)), ia (rA 6) (rK9 6) 28 vv, ia (rA 34) (rK9 34) 8 hd9, ia (rA 29) (rK9 29) 28 (fun i0 => mN (fm i0)), ia (rA 31) (rK9 31) 28 (fun i => nI ((updN dn a 1) i)), ia (rA 32) (rK9 32) 28 (upd gv a (vv a)), ia (rA 30) (rK9 30) 28 (fun i => nI ((updN hp a 1) i))] t9.heap ∧ va_K (dC, dI) classes [] t9 ∧ va_D (va_A [oc ra 8 [.int (nI T), .int (nI Ac), .ref (rA 2), .ref (rA 3), .ref (rA 4), .ref (rA 5), .ref (rA 6), .ref (rA 7), .ref (rA 8), .ref (rA 9), .ref (rA 10), .ref (rA 11), .ref (rA 12), .ref (rA 13), .int ir, .ref (rA 15), .ref (rA 16), .ref (rA 17), .ref (rA 18), .int (nI md), .int (nI wd), .ref (rA 21), .ref (rA 22), .ref (rA 23), .int (nI mn), .ref (rA 25), .int (nI cb), .int mr, .ref (rA 28), .ref (rA 29), .ref (rA 30), .ref (rA 31), .ref (rA 32), .ref (rA 33), .ref (rA 34), .ref (rA 35), .int (nI ld), .int (nI gm), .ref (rA 38), .ref (rA 39), .ref (rA 40), .ref (rA 41), .ref (rA 42), .ref (rA 43), .ref (rA 44), .ref (rA 45), .int (nI my), .ref (rA 47)], ia (rA 33) (rK9 33) 4 (fun i => nI (pcn i)), ia (rA 2) (rK9 2) 4 (fun i => nI (zs i)), ia (rA 3) (rK9 3) 28 (fun i => nI (kd i)), ia (rA 4) (rK9 4) 28 (fun i => nI (vx i)), ia (rA 5) (rK9 5) 28 (fun i => nI (rr i)), ia (rA 6) (rK9 6) 28 vv, ia (rA 34) (rK9 34) 8 hd9, ia (rA 29) (rK9 29) 28 (fun i0 => mN (fm i0)), ia (rA 31) (rK9 31) 28 (fun i => nI (dn i)), ia (rA 32) (rK9 32) 28 gv, ia (rA 30) (rK9 30) 28 (fun i => nI (hp i))] sz) [oc ra 8 [.int (nI T), .int (nI Ac), .ref (rA 2), .ref (rA 3), .ref (rA 4), .ref (rA 5), .ref (rA 6), .ref (rA 7), .ref (rA 8), .ref (rA 9), .ref (rA 10), .ref (rA 11), .ref (rA 12), .ref (rA 13), .int ir, .ref (rA 15), .ref (rA 16), .ref (rA 17), .ref (rA 18), .int (nI md), .int (nI wd), .ref (rA 21), .ref (rA 22), .ref (rA 23), .int (nI mn), .ref (rA 25), .int (nI cb), .int mr, .ref (rA 28), .ref (rA 29), .ref (rA 30), .ref (rA 31), .ref (rA 32), .ref (rA 33), .ref (rA 34), .ref (rA 35), .int (nI ld), .int (nI gm), .ref (rA 38), .ref (rA 39), .ref (rA 40), .ref (rA 41), .ref (rA 42), .ref (rA 43), .ref (rA 44), .ref (rA 45), .int (nI my), .ref (rA 47)], ia (rA 33) (rK9 33) 4 (fun i => nI ((updN pcn t (pcn t + 1)) i)), ia (rA 2) (rK9 2) 4 (fun i => nI (zs i)), ia (rA 3) (rK9 3) 28 (fun i => nI (kd i)), ia (rA 4) (rK9 4) 28 (fun i => nI (vx i)), ia (rA 5) (rK9 5) 28 (fun i => nI (rr i)), ia (rA 6) (rK9 6) 28 vv, ia (rA 34) (rK9 34) 8 hd9, ia (rA 29) (rK9 29) 28 (fun i0 => mN (fm i0)), ia (rA 31) (rK9 31) 28 (fun i => nI ((updN dn a 1) i)), ia (rA 32) (rK9 32) 28 (upd gv a (vv a)), ia (rA 30) (rK9 30) 28 (fun i => nI ((updN hp a 1) i))]) (va_A [oc ra 8 [.int (nI T), .int (nI Ac), .ref (rA 2), .ref (rA 3), .ref (rA 4), .ref (rA 5), .ref (rA 6), .ref (rA 7), .ref (rA 8), .ref (rA 9), .ref (rA 10), .ref (rA 11), .ref (rA 12), .ref (rA 13), .int ir, .ref (rA 15), .ref (rA 16), .ref (rA 17), .ref (rA 18), .int (nI md), .int (nI wd), .ref (rA 21), .ref (rA 22), .ref (rA 23), .int (nI mn), .ref (rA 25), .int (nI cb), .int mr, .ref (rA 28), .ref (rA 29), .ref (rA 30), .ref (rA 31), .ref (rA 32), .ref (rA 33), .ref (rA 34), .ref (rA 35), .int (nI ld), .int (nI gm), .ref (rA 38), .ref (rA 39), .ref (rA 40), .ref (rA 41), .ref (rA 42), .ref (rA 43), .ref (rA 44), .ref (rA 45), .int (nI my), .ref (rA 47)], ia (rA 33) (rK9 33) 4 (fun i => nI (pcn i)), ia (rA 2) (rK9 2) 4 (fun i => nI (zs i)), ia (rA 3) (rK9 3) 28 (fun i => nI (kd i)), ia (rA 4) (rK9 4) 28 (fun i => nI (vx i)), ia (rA 5) (rK9 5) 28 (fun i => nI (rr i)), ia (rA 6) (rK9 6) 28 vv, ia (rA 34) (rK9 34) 8 hd9, ia (rA 29) (rK9 29) 28 (fun i0 => mN (fm i0)), ia (rA 31) (rK9 31) 28 (fun i => nI (dn i)), ia (rA 32) (rK9 32) 28 gv, ia (rA 30) (rK9 30) 28 (fun i => nI (hp i))] sz)) 0 0 (va_A [oc ra 8 [.int (nI T), .int (nI Ac), .ref (rA 2), .ref (rA 3), .ref (rA 4), .ref (rA 5), .ref (rA 6), .ref (rA 7), .ref (rA 8), .ref (rA 9), .ref (rA 10), .ref (rA 11), .ref (rA 12), .ref (rA 13), .int ir, .ref (rA 15), .ref (rA 16), .ref (rA 17), .ref (rA 18), .int (nI md), .int (nI wd), .ref (rA 21), .ref (rA 22), .ref (rA 23), .int (nI mn), .ref (rA 25), .int (nI cb), .int mr, .ref (rA 28), .ref (rA 29), .ref (rA 30), .ref (rA 31), .ref (rA 32), .ref (rA 33), .ref (rA 34), .ref (rA 35), .int (nI ld), .int (nI gm), .ref (rA 38), .ref (rA 39), .ref (rA 40), .ref (rA 41), .ref (rA 42), .ref (rA 43), .ref (rA 44), .ref (rA 45), .int (nI my), .ref (rA 47)], ia (rA 33) (rK9 33) 4 (fun i => nI (pcn i)), ia (rA 2) (rK9 2) 4 (fun i => nI (zs i)), ia (rA 3) (rK9 3) 28 (fun i => nI (kd i)), ia (rA 4) (rK9 4) 28 (fun i => nI (vx i)), ia (rA 5) (rK9 5) 28 (fun i => nI (rr i)), ia (rA 6) (rK9 6) 28 vv, ia (rA 34) (rK9 34) 8 hd9, ia (rA 29) (rK9 29) 28 (fun i0 => mN (fm i0)), ia (rA 31) (rK9 31) 28 (fun i => nI (dn i)), ia (rA 32) (rK9 32) 28 gv, ia (rA 30) (rK9 30) 28 (fun i => nI (hp i))] sz) := by
  refine Met.ofW (cc := b_Ref_act) (maxL := 6) (ret := (some .boolean)) (by decide) rfl ?_
  intro p e0 s m args below meth c s₁ B hml hv
  obtain ⟨rfl, hsz, hP, hK, hD0, hn⟩ := hv
  have hx := B.exec
  have hb := B.bytes
  have hr := B.returns
  have hw := fun w (h : w ∈ wt) => atoms_spec (ws := w_Ref_act) B.pre w (List.mem_cons_of_mem _ h)
  have hown : s.vm.findClass R_Ref = some m.cls := findClass_of_methodNamed B.named
  have hlocks := B.notSynchronized
  subst hsz
  have hD1 := hD0.self (sz := s.heap.size)
  generalize hAe : va_A [oc ra 8 [.int (nI T), .int (nI Ac), .ref (rA 2), .ref (rA 3), .ref (rA 4), .ref (rA 5), .ref (rA 6), .ref (rA 7), .ref (rA 8), .ref (rA 9), .ref (rA 10), .ref (rA 11), .ref (rA 12), .ref (rA 13), .int ir, .ref (rA 15), .ref (rA 16), .ref (rA 17), .ref (rA 18), .int (nI md), .int (nI wd), .ref (rA 21), .ref (rA 22), .ref (rA 23), .int (nI mn), .ref (rA 25), .int (nI cb), .int mr, .ref (rA 28), .ref (rA 29), .ref (rA 30), .ref (rA 31), .ref (rA 32), .ref (rA 33), .ref (rA 34), .ref (rA 35), .int (nI ld), .int (nI gm), .ref (rA 38), .ref (rA 39), .ref (rA 40), .ref (rA 41), .ref (rA 42), .ref (rA 43), .ref (rA 44), .ref (rA 45), .int (nI my), .ref (rA 47)], ia (rA 33) (rK9 33) 4 (fun i => nI (pcn i)), ia (rA 2) (rK9 2) 4 (fun i => nI (zs i)), ia (rA 3) (rK9 3) 28 (fun i => nI (kd i)), ia (rA 4) (rK9 4) 28 (fun i => nI (vx i)), ia (rA 5) (rK9 5) 28 (fun i => nI (rr i)), ia (rA 6) (rK9 6) 28 vv, ia (rA 34) (rK9 34) 8 hd9, ia (rA 29) (rK9 29) 28 (fun i0 => mN (fm i0)), ia (rA 31) (rK9 31) 28 (fun i => nI (dn i)), ia (rA 32) (rK9 32) 28 gv, ia (rA 30) (rK9 30) 28 (fun i => nI (hp i))] s.heap.size = A at hD1 ⊢
  have hA : ∀ q : Nat, s.heap.size ≤ q → A q := fun q h => by rw [← hAe]; exact Or.inr h
  have hD : dd A [ra, (rA 33), (rA 2), (rA 3), (rA 4), (rA 5), (rA 6), (rA 34), (rA 29), (rA 31), (rA 32), (rA 30)] := dd_of hD1 rfl
  clear hAe hD0 hD1
  have hS : va_S A s.heap s.heap [] := va_S.rf
  replace hP : va_P (dC, dI) classes [oc ra 8 [.int (nI T), .int (nI Ac), .ref (rA 2), .ref (rA 3), .ref (rA 4), .ref (rA 5), .ref (rA 6), .ref (rA 7), .ref (rA 8), .ref (rA 9), .ref (rA 10), .ref (rA 11), .ref (rA 12), .ref (rA 13), .int ir, .ref (rA 15), .ref (rA 16), .ref (rA 17), .ref (rA 18), .int (nI md), .int (nI wd), .ref (rA 21), .ref (rA 22), .ref (rA 23), .int (nI mn), .ref (rA 25), .int (nI cb), .int mr, .ref (rA 28), .ref (rA 29), .ref (rA 30), .ref (rA 31), .ref (rA 32), .ref (rA 33), .ref (rA 34), .ref (rA 35), .int (nI ld), .int (nI gm), .ref (rA 38), .ref (rA 39), .ref (rA 40), .ref (rA 41), .ref (rA 42), .ref (rA 43), .ref (rA 44), .ref (rA 45), .int (nI my), .ref (rA 47)], ia (rA 33) (rK9 33) 4 (fun i => nI (pcn i)), ia (rA 2) (rK9 2) 4 (fun i => nI (zs i)), ia (rA 3) (rK9 3) 28 (fun i => nI (kd i)), ia (rA 4) (rK9 4) 28 (fun i => nI (vx i)), ia (rA 5) (rK9 5) 28 (fun i => nI (rr i)), ia (rA 6) (rK9 6) 28 vv, ia (rA 34) (rK9 34) 8 hd9, ia (rA 29) (rK9 29) 28 (fun i0 => mN (fm i0)), ia (rA 31) (rK9 31) 28 (fun i => nI (dn i)), ia (rA 32) (rK9 32) 28 gv, ia (rA 30) (rK9 30) 28 (fun i => nI (hp i))] s.heap := hP
  have hl := lv_entry ([.ref ra, .int (nI t)]) (n := 6) (Nat.le_of_ble_eq_true rfl)
  rw [lg_entry_eq]
  generalize (lg_sl ([.ref ra, .int (nI t)]) ++ List.replicate (6 - (lg_sl ([.ref ra, .int (nI t)])).length) Slot.unset).toArray = ls at hl ⊢
  replace hl : lv_has ls 6 [(0, .ref ra), (1, .int (nI t))] := hl
  refine lv_bipush (v := 7) hx hb d_Ref_act_0 (by decide) ?_
  refine lv_iload_n hx hb d_Ref_act_2 rfl (lv_at hl 1 rfl) ?_
  refine lv_imul hx hb d_Ref_act_3 ?_
  refine tp_i (y := nI (7 * t)) (by exact pk_mul 7 t) ?_
  refine lv_aload_n hx hb d_Ref_act_4 rfl (lv_at hl 0 rfl) ?_
  refine va_get (D := (dC, dI)) (ci := 8) (v := .ref (rA 33)) (C := R_Ref) (T := F_Ref) (N := 48) hx hb hw i_Ref hown hK hP 0 rfl rfl 33 (by decide) (hw _ m_932) (fun _ h9 => h9) rfl d_Ref_act_5 ?_
  refine lv_iload_n hx hb d_Ref_act_8 rfl (lv_at hl 1 rfl) ?_
  refine va_iald (D := (dC, dI)) hx hb hK hP 1 0 rfl rfl (i := nI t) (pk_in t 4 (by omega)) d_Ref_act_9 ?_
  refine tp_i (y := nI (pcn t)) (by rw [show (nI t : Int32).toNatClampNeg = t from pk_cl t]) ?_
  refine lv_iadd hx hb d_Ref_act_10 ?_
  refine tp_i (y := nI (7 * t + (pcn t))) (by exact nI_add (7 * t) (pcn t)) ?_
  refine tp_i (y := nI a) (by rw [ha]) ?_
  refine lv_istore_n (lv' := [(2, .int (nI a)), (0, .ref ra), (1, .int (nI t))]) hx hb d_Ref_act_11 rfl hl (by decide) rfl ?_
  clear hl ls
  intro ls hl
  refine lv_aload_n hx hb d_Ref_act_12 rfl (lv_at hl 1 rfl) ?_
  refine va_get (D := (dC, dI)) (ci := 8) (v := .ref (rA 3)) (C := R_Ref) (T := F_Ref) (N := 48) hx hb hw i_Ref hown hK hP 0 rfl rfl 3 (by decide) (hw _ m_902) (fun _ h9 => h9) rfl d_Ref_act_13 ?_
  refine lv_iload_n hx hb d_Ref_act_16 rfl (lv_at hl 0 rfl) ?_
  refine va_iald (D := (dC, dI)) hx hb hK hP 3 2 rfl rfl (i := nI a) (pk_in a 28 (by omega)) d_Ref_act_17 ?_
  refine tp_i (y := nI (kd a)) (by rw [show (nI a : Int32).toNatClampNeg = a from pk_cl a]) ?_
  refine tp_i (y := 1) (by rw [hk]; rfl) ?_
  refine lv_istore_n (lv' := [(3, .int 1), (2, .int (nI a)), (0, .ref ra), (1, .int (nI t))]) hx hb d_Ref_act_18 rfl hl (by decide) rfl ?_
  clear hl ls
  intro ls hl
  refine lv_iconst (v := 2) hx hb d_Ref_act_19 (by decide) ?_
  refine lv_iload_n hx hb d_Ref_act_20 rfl (lv_at hl 3 rfl) ?_
  refine lv_imul hx hb d_Ref_act_21 ?_
  refine tp_i (y := nI (2 * t)) (by exact pk_mul 2 t) ?_
  refine lv_aload_n hx hb d_Ref_act_22 rfl (lv_at hl 2 rfl) ?_
  refine va_get (D := (dC, dI)) (ci := 8) (v := .ref (rA 5)) (C := R_Ref) (T := F_Ref) (N := 48) hx hb hw i_Ref hown hK hP 0 rfl rfl 5 (by decide) (hw _ m_904) (fun _ h9 => h9) rfl d_Ref_act_23 ?_
  refine lv_iload_n hx hb d_Ref_act_26 rfl (lv_at hl 1 rfl) ?_
  refine va_iald (D := (dC, dI)) hx hb hK hP 5 4 rfl rfl (i := nI a) (pk_in a 28 (by omega)) d_Ref_act_27 ?_
  refine tp_i (y := nI (rr a)) (by rw [show (nI a : Int32).toNatClampNeg = a from pk_cl a]) ?_
  refine lv_iadd hx hb d_Ref_act_28 ?_
  refine tp_i (y := nI (2 * t + (rr a))) (by exact nI_add (2 * t) (rr a)) ?_
  refine lv_istore (lv' := [(4, .int (nI (2 * t + (rr a)))), (3, .int 1), (2, .int (nI a)), (0, .ref ra), (1, .int (nI t))]) hx hb d_Ref_act_29 hl (by decide) rfl ?_
  clear hl ls
  intro ls hl
  refine lv_iload_n hx hb d_Ref_act_31 rfl (lv_at hl 1 rfl) ?_
  refine lv_iconst (v := 5) hx hb d_Ref_act_32 (by decide) ?_
  refine lv_icmp_ne (tgt := 110) hx hb d_Ref_act_33 (by decide) (fun c_1 => ?_) (fun c_1 => absurd c_1 (by decide))
  refine tp_pc (pc' := 110) (by rfl) ?_
  refine lv_iconst (v := 0) hx hb d_Ref_act_110 (by decide) ?_
  refine lv_istore (lv' := [(5, .int 0), (4, .int (nI (2 * t + (rr a)))), (3, .int 1), (2, .int (nI a)), (0, .ref ra), (1, .int (nI t))]) hx hb d_Ref_act_111 hl (by decide) rfl ?_
  clear hl ls
  intro ls hl
  refine lv_iload_n hx hb d_Ref_act_113 rfl (lv_at hl 2 rfl) ?_
  refine tp_i (y := nI 1) rfl ?_
  obtain ⟨hPc, hDc, hFc⟩ := cut3 (wc := []) hP hD rfl hS hA [] (by decide +kernel) rfl
  have hKc := hK.sub (tys' := []) [] rfl
  refine va_calli (va_runS (As := [.int (nI 1)]) (rest := []) ⟨hx, hb, hml, hown, hw⟩ (gen_Ref_takes l dC dI 1 (by decide) s.heap.size) (cw_S 1 hw g_Ref_takes rfl rfl rfl (hw _ m_109) (hw _ m_1190) (hw _ m_1191) (by decide +kernel) ⟨Nat.le_of_ble_eq_true rfl, Nat.le_of_ble_eq_true rfl⟩) ⟨fun a U g mk q => by obtain ⟨q0, q1, qP, qK, qD, qN⟩ := q; exact ⟨q0, q1, qP, va_K.moved (u := U) (U := U.calling g mk a) (Vm.Alike.refl U.vm) qK, qD, nw_call qN⟩, fun U hU hW => ⟨rfl, by rw [hU], by rw [hU]; exact hPc, va_K.moved hW.alike hKc, hDc.weaken (fun _ _ _ _ => trivial), nw_warm hW hn⟩⟩ rfl rfl hl.1 rfl (lv_room (Nat.le_of_ble_eq_true rfl)) d_Ref_act_114 ⟨Nat.le_of_ble_eq_true rfl, Nat.le_of_ble_eq_true rfl⟩) hS (fun q _ h => hFc q h) hFc ?_
  intro r_2 u t9 H1 locs1 ht9 hvm hw1 hB hz1 hk1 hS1
  obtain ⟨hP1, hK1, hD1⟩ := hB
  rw [ht9] at hP1
  replace hK1 := va_K.moved hvm.symm hK1
  have hPD := join3 hP hD rfl [] [0, 1, 2, 3, 4, 5, 6, 7, 8, 9, 10, 11] rfl (by rfl) (by decide +kernel) (by decide +kernel) hk1 hFc hP1 hD1
  replace hK : va_K (dC, dI) classes [((rK9 33), .int), ((rK9 2), .int), ((rK9 3), .int), ((rK9 4), .int), ((rK9 5), .int), ((rK9 6), .int), ((rK9 34), .int), ((rK9 29), .int), ((rK9 31), .boolean), ((rK9 32), .int), ((rK9 30), .boolean)] s := hK.app hK1
  clear hP1 hK1 hD1 hk1 hz1 hFc hKc hDc hPc hvm ht9 hP hS t9
  have hP : va_P (dC, dI) classes [oc ra 8 [.int (nI T), .int (nI Ac), .ref (rA 2), .ref (rA 3), .ref (rA 4), .ref (rA 5), .ref (rA 6), .ref (rA 7), .ref (rA 8), .ref (rA 9), .ref (rA 10), .ref (rA 11), .ref (rA 12), .ref (rA 13), .int ir, .ref (rA 15), .ref (rA 16), .ref (rA 17), .ref (rA 18), .int (nI md), .int (nI wd), .ref (rA 21), .ref (rA 22), .ref (rA 23), .int (nI mn), .ref (rA 25), .int (nI cb), .int mr, .ref (rA 28), .ref (rA 29), .ref (rA 30), .ref (rA 31), .ref (rA 32), .ref (rA 33), .ref (rA 34), .ref (rA 35), .int (nI ld), .int (nI gm), .ref (rA 38), .ref (rA 39), .ref (rA 40), .ref (rA 41), .ref (rA 42), .ref (rA 43), .ref (rA 44), .ref (rA 45), .int (nI my), .ref (rA 47)], ia (rA 33) (rK9 33) 4 (fun i => nI (pcn i)), ia (rA 2) (rK9 2) 4 (fun i => nI (zs i)), ia (rA 3) (rK9 3) 28 (fun i => nI (kd i)), ia (rA 4) (rK9 4) 28 (fun i => nI (vx i)), ia (rA 5) (rK9 5) 28 (fun i => nI (rr i)), ia (rA 6) (rK9 6) 28 vv, ia (rA 34) (rK9 34) 8 hd9, ia (rA 29) (rK9 29) 28 (fun i0 => mN (fm i0)), ia (rA 31) (rK9 31) 28 (fun i => nI (dn i)), ia (rA 32) (rK9 32) 28 gv, ia (rA 30) (rK9 30) 28 (fun i => nI (hp i))] H1 := hPD.1
  replace hD : dd A [ra, (rA 33), (rA 2), (rA 3), (rA 4), (rA 5), (rA 6), (rA 34), (rA 29), (rA 31), (rA 32), (rA 30)] := dd_of hPD.2 rfl
  clear hPD
  revert H1 locs1
  intro H locs hS hP
  refine tp_i (y := 0) (hw1.trans (if_neg (by decide))) ?_
  clear hw1 r_2 u
  refine tp_pc (pc' := 117) (by rfl) ?_
  refine lv_if_eq (tgt := 158) hx hb d_Ref_act_117 (by decide) (fun c_3 => ?_) (fun c_3 => absurd c_3 (by decide))
  refine tp_pc (pc' := 158) (by rfl) ?_
  refine lv_aload_n hx hb d_Ref_act_158 rfl (lv_at hl 4 rfl) ?_
  refine va_get (D := (dC, dI)) (ci := 8) (v := .ref (rA 30)) (C := R_Ref) (T := F_Ref) (N := 48) hx hb hw i_Ref hown hK hP 0 rfl rfl 30 (by decide) (hw _ m_929) (fun _ h9 => h9) rfl d_Ref_act_159 ?_
  refine lv_iload_n hx hb d_Ref_act_162 rfl (lv_at hl 3 rfl) ?_
  refine lv_iconst (v := 1) hx hb d_Ref_act_163 (by decide) ?_
  refine tp_i (y := nI 1) rfl ?_
  refine va_zast (D := (dC, dI)) hx hb hK hP (dd_D hD rfl) hS 11 10 rfl rfl (i := nI a) (x := nI 1) (pk_in a 28 (by omega)) d_Ref_act_164 ?_
  clear hP hS locs H
  intro H locs hP _ hS
  rw [show (nI a : Int32).toNatClampNeg = a from pk_cl a] at hP
  rw [show vp_nar .boolean (nI 1) = (nI 1) from by decide] at hP
  rw [show upd (fun i => nI (hp i)) a (nI 1) = fun i => nI (updN hp a 1 i) from upd_nI] at hP
  replace hP : va_P (dC, dI) classes [oc ra 8 [.int (nI T), .int (nI Ac), .ref (rA 2), .ref (rA 3), .ref (rA 4), .ref (rA 5), .ref (rA 6), .ref (rA 7), .ref (rA 8), .ref (rA 9), .ref (rA 10), .ref (rA 11), .ref (rA 12), .ref (rA 13), .int ir, .ref (rA 15), .ref (rA 16), .ref (rA 17), .ref (rA 18), .int (nI md), .int (nI wd), .ref (rA 21), .ref (rA 22), .ref (rA 23), .int (nI mn), .ref (rA 25), .int (nI cb), .int mr, .ref (rA 28), .ref (rA 29), .ref (rA 30), .ref (rA 31), .ref (rA 32), .ref (rA 33), .ref (rA 34), .ref (rA 35), .int (nI ld), .int (nI gm), .ref (rA 38), .ref (rA 39), .ref (rA 40), .ref (rA 41), .ref (rA 42), .ref (rA 43), .ref (rA 44), .ref (rA 45), .int (nI my), .ref (rA 47)], ia (rA 33) (rK9 33) 4 (fun i => nI (pcn i)), ia (rA 2) (rK9 2) 4 (fun i => nI (zs i)), ia (rA 3) (rK9 3) 28 (fun i => nI (kd i)), ia (rA 4) (rK9 4) 28 (fun i => nI (vx i)), ia (rA 5) (rK9 5) 28 (fun i => nI (rr i)), ia (rA 6) (rK9 6) 28 vv, ia (rA 34) (rK9 34) 8 hd9, ia (rA 29) (rK9 29) 28 (fun i0 => mN (fm i0)), ia (rA 31) (rK9 31) 28 (fun i => nI (dn i)), ia (rA 32) (rK9 32) 28 gv, ia (rA 30) (rK9 30) 28 (fun i => nI ((updN hp a 1) i))] H := hP
  refine tp_pc (pc' := 165) (by rfl) ?_
  refine lv_aload_n hx hb d_Ref_act_165 rfl (lv_at hl 4 rfl) ?_
  refine va_get (D := (dC, dI)) (ci := 8) (v := .ref (rA 31)) (C := R_Ref) (T := F_Ref) (N := 48) hx hb hw i_Ref hown hK hP 0 rfl rfl 31 (by decide) (hw _ m_930) (fun _ h9 => h9) rfl d_Ref_act_166 ?_
  refine lv_iload_n hx hb d_Ref_act_169 rfl (lv_at hl 3 rfl) ?_
  refine lv_iconst (v := 1) hx hb d_Ref_act_170 (by decide) ?_
  refine tp_i (y := nI 1) rfl ?_
  refine va_zast (D := (dC, dI)) hx hb hK hP (dd_D hD rfl) hS 9 8 rfl rfl (i := nI a) (x := nI 1) (pk_in a 28 (by omega)) d_Ref_act_171 ?_
  clear hP hS locs H
  intro H locs hP _ hS
  rw [show (nI a : Int32).toNatClampNeg = a from pk_cl a] at hP
  rw [show vp_nar .boolean (nI 1) = (nI 1) from by decide] at hP
  rw [show upd (fun i => nI (dn i)) a (nI 1) = fun i => nI (updN dn a 1 i) from upd_nI] at hP
  replace hP : va_P (dC, dI) classes [oc ra 8 [.int (nI T), .int (nI Ac), .ref (rA 2), .ref (rA 3), .ref (rA 4), .ref (rA 5), .ref (rA 6), .ref (rA 7), .ref (rA 8), .ref (rA 9), .ref (rA 10), .ref (rA 11), .ref (rA 12), .ref (rA 13), .int ir, .ref (rA 15), .ref (rA 16), .ref (rA 17), .ref (rA 18), .int (nI md), .int (nI wd), .ref (rA 21), .ref (rA 22), .ref (rA 23), .int (nI mn), .ref (rA 25), .int (nI cb), .int mr, .ref (rA 28), .ref (rA 29), .ref (rA 30), .ref (rA 31), .ref (rA 32), .ref (rA 33), .ref (rA 34), .ref (rA 35), .int (nI ld), .int (nI gm), .ref (rA 38), .ref (rA 39), .ref (rA 40), .ref (rA 41), .ref (rA 42), .ref (rA 43), .ref (rA 44), .ref (rA 45), .int (nI my), .ref (rA 47)], ia (rA 33) (rK9 33) 4 (fun i => nI (pcn i)), ia (rA 2) (rK9 2) 4 (fun i => nI (zs i)), ia (rA 3) (rK9 3) 28 (fun i => nI (kd i)), ia (rA 4) (rK9 4) 28 (fun i => nI (vx i)), ia (rA 5) (rK9 5) 28 (fun i => nI (rr i)), ia (rA 6) (rK9 6) 28 vv, ia (rA 34) (rK9 34) 8 hd9, ia (rA 29) (rK9 29) 28 (fun i0 => mN (fm i0)), ia (rA 31) (rK9 31) 28 (fun i => nI ((updN dn a 1) i)), ia (rA 32) (rK9 32) 28 gv, ia (rA 30) (rK9 30) 28 (fun i => nI ((updN hp a 1) i))] H := hP
  refine tp_pc (pc' := 172) (by rfl) ?_
  refine lv_aload_n hx hb d_Ref_act_172 rfl (lv_at hl 4 rfl) ?_
  refine va_get (D := (dC, dI)) (ci := 8) (v := .ref (rA 33)) (C := R_Ref) (T := F_Ref) (N := 48) hx hb hw i_Ref hown hK hP 0 rfl rfl 33 (by decide) (hw _ m_932) (fun _ h9 => h9) rfl d_Ref_act_173 ?_
  refine lv_iload_n hx hb d_Ref_act_176 rfl (lv_at hl 5 rfl) ?_
  refine lv_dup2_11 hx hb d_Ref_act_177 rfl rfl ?_
  refine va_iald (D := (dC, dI)) hx hb hK hP 1 0 rfl rfl (i := nI t) (pk_in t 4 (by omega)) d_Ref_act_178 ?_
  refine tp_i (y := nI (pcn t)) (by rw [show (nI t : Int32).toNatClampNeg = t from pk_cl t]) ?_
  refine lv_iconst (v := 1) hx hb d_Ref_act_179 (by decide) ?_
  refine lv_iadd hx hb d_Ref_act_180 ?_
  refine tp_i (y := nI (pcn t + 1)) (by exact nI_add (pcn t) 1) ?_
  refine va_iast (D := (dC, dI)) hx hb hK hP (dd_D hD rfl) hS 1 0 rfl rfl (i := nI t) (x := nI (pcn t + 1)) (pk_in t 4 (by omega)) d_Ref_act_181 ?_
  clear hP hS locs H
  intro H locs hP _ hS
  rw [show (nI t : Int32).toNatClampNeg = t from pk_cl t] at hP
  rw [show upd (fun i => nI (pcn i)) t (nI (pcn t + 1)) = fun i => nI (updN pcn t (pcn t + 1) i) from upd_nI] at hP
  replace hP : va_P (dC, dI) classes [oc ra 8 [.int (nI T), .int (nI Ac), .ref (rA 2), .ref (rA 3), .ref (rA 4), .ref (rA 5), .ref (rA 6), .ref (rA 7), .ref (rA 8), .ref (rA 9), .ref (rA 10), .ref (rA 11), .ref (rA 12), .ref (rA 13), .int ir, .ref (rA 15), .ref (rA 16), .ref (rA 17), .ref (rA 18), .int (nI md), .int (nI wd), .ref (rA 21), .ref (rA 22), .ref (rA 23), .int (nI mn), .ref (rA 25), .int (nI cb), .int mr, .ref (rA 28), .ref (rA 29), .ref (rA 30), .ref (rA 31), .ref (rA 32), .ref (rA 33), .ref (rA 34), .ref (rA 35), .int (nI ld), .int (nI gm), .ref (rA 38), .ref (rA 39), .ref (rA 40), .ref (rA 41), .ref (rA 42), .ref (rA 43), .ref (rA 44), .ref (rA 45), .int (nI my), .ref (rA 47)], ia (rA 33) (rK9 33) 4 (fun i => nI ((updN pcn t (pcn t + 1)) i)), ia (rA 2) (rK9 2) 4 (fun i => nI (zs i)), ia (rA 3) (rK9 3) 28 (fun i => nI (kd i)), ia (rA 4) (rK9 4) 28 (fun i => nI (vx i)), ia (rA 5) (rK9 5) 28 (fun i => nI (rr i)), ia (rA 6) (rK9 6) 28 vv, ia (rA 34) (rK9 34) 8 hd9, ia (rA 29) (rK9 29) 28 (fun i0 => mN (fm i0)), ia (rA 31) (rK9 31) 28 (fun i => nI ((updN dn a 1) i)), ia (rA 32) (rK9 32) 28 gv, ia (rA 30) (rK9 30) 28 (fun i => nI ((updN hp a 1) i))] H := hP
  refine tp_pc (pc' := 182) (by rfl) ?_
  refine lv_iload_n hx hb d_Ref_act_182 rfl (lv_at hl 2 rfl) ?_
  refine lv_iconst (v := 2) hx hb d_Ref_act_183 (by decide) ?_
  refine lv_icmp_ne (tgt := 210) hx hb d_Ref_act_184 (by decide) (fun c_4 => ?_) (fun c_4 => absurd c_4 (by decide))
  refine tp_pc (pc' := 210) (by rfl) ?_
  refine lv_iload_n hx hb d_Ref_act_210 rfl (lv_at hl 2 rfl) ?_
  refine lv_iconst (v := 1) hx hb d_Ref_act_211 (by decide) ?_
  refine lv_icmp_ne (tgt := 230) hx hb d_Ref_act_212 (by decide) (fun c_5 => absurd c_5 (by decide)) (fun c_5 => ?_)
  refine tp_pc (pc' := 215) (by rfl) ?_
  refine lv_aload_n hx hb d_Ref_act_215 rfl (lv_at hl 4 rfl) ?_
  refine va_get (D := (dC, dI)) (ci := 8) (v := .ref (rA 32)) (C := R_Ref) (T := F_Ref) (N := 48) hx hb hw i_Ref hown hK hP 0 rfl rfl 32 (by decide) (hw _ m_931) (fun _ h9 => h9) rfl d_Ref_act_216 ?_
  refine lv_iload_n hx hb d_Ref_act_219 rfl (lv_at hl 3 rfl) ?_
  refine lv_aload_n hx hb d_Ref_act_220 rfl (lv_at hl 4 rfl) ?_
  refine va_get (D := (dC, dI)) (ci := 8) (v := .ref (rA 6)) (C := R_Ref) (T := F_Ref) (N := 48) hx hb hw i_Ref hown hK hP 0 rfl rfl 6 (by decide) (hw _ m_905) (fun _ h9 => h9) rfl d_Ref_act_221 ?_
  refine lv_iload_n hx hb d_Ref_act_224 rfl (lv_at hl 3 rfl) ?_
  refine va_iald (D := (dC, dI)) hx hb hK hP 6 5 rfl rfl (i := nI a) (pk_in a 28 (by omega)) d_Ref_act_225 ?_
  refine tp_i (y := vv a) (by rw [show (nI a : Int32).toNatClampNeg = a from pk_cl a]) ?_
  refine va_iast (D := (dC, dI)) hx hb hK hP (dd_D hD rfl) hS 10 9 rfl rfl (i := nI a) (x := vv a) (pk_in a 28 (by omega)) d_Ref_act_226 ?_
  clear hP hS locs H
  intro H locs hP _ hS
  rw [show (nI a : Int32).toNatClampNeg = a from pk_cl a] at hP
  replace hP : va_P (dC, dI) classes [oc ra 8 [.int (nI T), .int (nI Ac), .ref (rA 2), .ref (rA 3), .ref (rA 4), .ref (rA 5), .ref (rA 6), .ref (rA 7), .ref (rA 8), .ref (rA 9), .ref (rA 10), .ref (rA 11), .ref (rA 12), .ref (rA 13), .int ir, .ref (rA 15), .ref (rA 16), .ref (rA 17), .ref (rA 18), .int (nI md), .int (nI wd), .ref (rA 21), .ref (rA 22), .ref (rA 23), .int (nI mn), .ref (rA 25), .int (nI cb), .int mr, .ref (rA 28), .ref (rA 29), .ref (rA 30), .ref (rA 31), .ref (rA 32), .ref (rA 33), .ref (rA 34), .ref (rA 35), .int (nI ld), .int (nI gm), .ref (rA 38), .ref (rA 39), .ref (rA 40), .ref (rA 41), .ref (rA 42), .ref (rA 43), .ref (rA 44), .ref (rA 45), .int (nI my), .ref (rA 47)], ia (rA 33) (rK9 33) 4 (fun i => nI ((updN pcn t (pcn t + 1)) i)), ia (rA 2) (rK9 2) 4 (fun i => nI (zs i)), ia (rA 3) (rK9 3) 28 (fun i => nI (kd i)), ia (rA 4) (rK9 4) 28 (fun i => nI (vx i)), ia (rA 5) (rK9 5) 28 (fun i => nI (rr i)), ia (rA 6) (rK9 6) 28 vv, ia (rA 34) (rK9 34) 8 hd9, ia (rA 29) (rK9 29) 28 (fun i0 => mN (fm i0)), ia (rA 31) (rK9 31) 28 (fun i => nI ((updN dn a 1) i)), ia (rA 32) (rK9 32) 28 (upd gv a (vv a)), ia (rA 30) (rK9 30) 28 (fun i => nI ((updN hp a 1) i))] H := hP
  refine tp_pc (pc' := 227) (by rfl) ?_
  refine lv_goto (tgt := 261) hx hb d_Ref_act_227 (by decide) ?_
  refine tp_pc (pc' := 261) (by rfl) ?_
  refine lv_iconst (v := 1) hx hb d_Ref_act_261 (by decide) ?_
  replace hP : va_P (dC, dI) classes [oc ra 8 [.int (nI T), .int (nI Ac), .ref (rA 2), .ref (rA 3), .ref (rA 4), .ref (rA 5), .ref (rA 6), .ref (rA 7), .ref (rA 8), .ref (rA 9), .ref (rA 10), .ref (rA 11), .ref (rA 12), .ref (rA 13), .int ir, .ref (rA 15), .ref (rA 16), .ref (rA 17), .ref (rA 18), .int (nI md), .int (nI wd), .ref (rA 21), .ref (rA 22), .ref (rA 23), .int (nI mn), .ref (rA 25), .int (nI cb), .int mr, .ref (rA 28), .ref (rA 29), .ref (rA 30), .ref (rA 31), .ref (rA 32), .ref (rA 33), .ref (rA 34), .ref (rA 35), .int (nI ld), .int (nI gm), .ref (rA 38), .ref (rA 39), .ref (rA 40), .ref (rA 41), .ref (rA 42), .ref (rA 43), .ref (rA 44), .ref (rA 45), .int (nI my), .ref (rA 47)], ia (rA 33) (rK9 33) 4 (fun i => nI ((updN pcn t (pcn t + 1)) i)), ia (rA 2) (rK9 2) 4 (fun i => nI (zs i)), ia (rA 3) (rK9 3) 28 (fun i => nI (kd i)), ia (rA 4) (rK9 4) 28 (fun i => nI (vx i)), ia (rA 5) (rK9 5) 28 (fun i => nI (rr i)), ia (rA 6) (rK9 6) 28 vv, ia (rA 34) (rK9 34) 8 hd9, ia (rA 29) (rK9 29) 28 (fun i0 => mN (fm i0)), ia (rA 31) (rK9 31) 28 (fun i => nI ((updN dn a 1) i)), ia (rA 32) (rK9 32) 28 (upd gv a (vv a)), ia (rA 30) (rK9 30) 28 (fun i => nI ((updN hp a 1) i))] H := hP
  obtain ⟨hP9, hD9, -⟩ := cut3 (wc := [oc ra 8 [.int (nI T), .int (nI Ac), .ref (rA 2), .ref (rA 3), .ref (rA 4), .ref (rA 5), .ref (rA 6), .ref (rA 7), .ref (rA 8), .ref (rA 9), .ref (rA 10), .ref (rA 11), .ref (rA 12), .ref (rA 13), .int ir, .ref (rA 15), .ref (rA 16), .ref (rA 17), .ref (rA 18), .int (nI md), .int (nI wd), .ref (rA 21), .ref (rA 22), .ref (rA 23), .int (nI mn), .ref (rA 25), .int (nI cb), .int mr, .ref (rA 28), .ref (rA 29), .ref (rA 30), .ref (rA 31), .ref (rA 32), .ref (rA 33), .ref (rA 34), .ref (rA 35), .int (nI ld), .int (nI gm), .ref (rA 38), .ref (rA 39), .ref (rA 40), .ref (rA 41), .ref (rA 42), .ref (rA 43), .ref (rA 44), .ref (rA 45), .int (nI my), .ref (rA 47)], ia (rA 33) (rK9 33) 4 (fun i => nI ((updN pcn t (pcn t + 1)) i)), ia (rA 2) (rK9 2) 4 (fun i => nI (zs i)), ia (rA 3) (rK9 3) 28 (fun i => nI (kd i)), ia (rA 4) (rK9 4) 28 (fun i => nI (vx i)), ia (rA 5) (rK9 5) 28 (fun i => nI (rr i)), ia (rA 6) (rK9 6) 28 vv, ia (rA 34) (rK9 34) 8 hd9, ia (rA 29) (rK9 29) 28 (fun i0 => mN (fm i0)), ia (rA 31) (rK9 31) 28 (fun i => nI ((updN dn a 1) i)), ia (rA 32) (rK9 32) 28 (upd gv a (vv a)), ia (rA 30) (rK9 30) 28 (fun i => nI ((updN hp a 1) i))]) hP hD rfl hS hA [0, 1, 2, 3, 4, 5, 6, 7, 8, 9, 10, 11] (by decide +kernel) rfl
  have hK9 := hK.sub (tys' := []) [] rfl
  refine W.widen (k := 0) (n := 0) (by exact Nat.le_of_ble_eq_true rfl) (by exact Nat.le_of_ble_eq_true rfl) ?_
  exact W.zret (v := 1) (ty := .boolean) hx hb hr (by decide) (fun t9 ht9 hW => ⟨⟨1, (), rfl, rfl, by rw [ht9]; exact hP9, va_K.moved hW.alike hK9, hD9⟩, hS.F ht9⟩) hS.2.2 d_Ref_act_262
set_option maxHeartbeats 4000000 in
set_option maxRecDepth 100000 in
theorem gen_Ref_act_2 (l : Launch) (dC : Nat → ClassId) (dI : Nat → Nat → Nat) (ra : Nat) (rA : Nat → Nat) (rK9 : Nat → ClassId) (T Ac md wd mn cb ld gm my : Nat) (ir mr : Int32) (t a : Nat) (pcn zs kd vx rr fm dn hp : Nat → Nat) (vv hd9 gv : Nat → Int32) (ht : t < 4) (ha : a = 7 * t + pcn t) (hpc : pcn t < zs t) (hzt : zs t ≤ 7) (hvx : vx a < 4) (hrr : rr a < 2) (hk : kd a = 2) (sz : Nat) : Met l y_Ref_act w_Ref_act ({ frames := 1, cells := 0, slots := 0, locals := 40 }) (va_Pc [.ref ra, .int (nI t)] (fun U => U.heap.size = sz ∧ va_P (dC, dI) classes [oc ra 8 [.int (nI T), .int (nI Ac), .ref (rA 2), .ref (rA 3), .ref (rA 4), .ref (rA 5), .ref (rA 6), .ref (rA 7), .ref (rA 8), .ref (rA 9), .ref (rA 10), .ref (rA 11), .ref (rA 12), .ref (rA 13), .int ir, .ref (rA 15), .ref (rA 16), .ref (rA 17), .ref (rA 18), .int (nI md), .int (nI wd), .ref (rA 21), .ref (rA 22), .ref (rA 23), .int (nI mn), .ref (rA 25), .int (nI cb), .int mr, .ref (rA 28), .ref (rA 29), .ref (rA 30), .ref (rA 31), .ref (rA 32), .ref (rA 33), .ref (rA 34), .ref (rA 35), .int (nI ld), .int (nI gm), .ref (rA 38), .ref (rA 39), .ref (rA 40), .ref (rA 41), .ref (rA 42), .ref (rA 43), .ref (rA 44), .ref (rA 45), .int (nI my), .ref (rA 47)], ia (rA 33) (rK9 33) 4 (fun i => nI (pcn i)), ia (rA 2) (rK9 2) 4 (fun i => nI (zs i)), ia (rA 3) (rK9 3) 28 (fun i => nI (kd i)), ia (rA 4) (rK9 4) 28 (fun i => nI (vx i)), ia (rA 5) (rK9 5) 28 (fun i => nI (rr i)), ia (rA 6) (rK9 6) 28 vv, ia (rA 34) (rK9 34) 8 hd9, ia (rA 29) (rK9 29) 28 (fun i0 => mN (fm i0)), ia (rA 31) (rK9 31) 28 (fun i => nI (dn i)), ia (rA 32) (rK9 32) 28 gv, ia (rA 30) (rK9 30) 28 (fun i => nI (hp i))] U.heap ∧ va_K (dC, dI) classes [((rK9 33), .int), ((rK9 2), .int), ((rK9 3), .int), ((rK9 4), .int), ((rK9 5), .int), ((rK9 6), .int), ((rK9 34), .int), ((rK9 29), .int), ((rK9 31), .boolean), ((rK9 32), .int), ((rK9 30), .boolean)] U ∧ va_D (fun _ => True) [oc ra 8 [.int (nI T), .int (nI Ac), .ref (rA 2), .ref (rA 3), .ref (rA 4), .ref (rA 5), .ref (rA 6), .ref (rA 7), .ref (rA 8), .ref (rA 9), .ref (rA 10), .ref (rA 11), .ref (rA 12), .ref (rA 13), .int ir, .ref (rA 15), .ref (rA 16), .ref (rA 17), .ref (rA 18), .int (nI md), .int (nI wd), .ref (rA 21), .ref (rA 22), .ref (rA 23), .int (nI mn), .ref (rA 25), .int (nI cb), .int mr, .ref (rA 28), .ref (rA 29), .ref (rA 30), .ref (rA 31), .ref (rA 32), .ref (rA 33), .ref (rA 34), .ref (rA 35), .int (nI ld), .int (nI gm), .ref (rA 38), .ref (rA 39), .ref (rA 40), .ref (rA 41), .ref (rA 42), .ref (rA 43), .ref (rA 44), .ref (rA 45), .int (nI my), .ref (rA 47)], ia (rA 33) (rK9 33) 4 (fun i => nI (pcn i)), ia (rA 2) (rK9 2) 4 (fun i => nI (zs i)), ia (rA 3) (rK9 3) 28 (fun i => nI (kd i)), ia (rA 4) (rK9 4) 28 (fun i => nI (vx i)), ia (rA 5) (rK9 5) 28 (fun i => nI (rr i)), ia (rA 6) (rK9 6) 28 vv, ia (rA 34) (rK9 34) 8 hd9, ia (rA 29) (rK9 29) 28 (fun i0 => mN (fm i0)), ia (rA 31) (rK9 31) 28 (fun i => nI (dn i)), ia (rA 32) (rK9 32) 28 gv, ia (rA 30) (rK9 30) 28 (fun i => nI (hp i))] ∧ nw U)) (va_Qi (fun (r : Int32) (_ : Unit) => r = 1) (fun _ t9 => va_P (dC, dI) classes [oc ra 8 [.int (nI T), .int (nI Ac), .ref (rA 2), .ref (rA 3), .ref (rA 4), .ref (rA 5), .ref (rA 6), .ref (rA 7), .ref (rA 8), .ref (rA 9), .ref (rA 10), .ref (rA 11), .ref (rA 12), .ref (rA 13), .int ir, .ref (rA 15), .ref (rA 16), .ref (rA 17), .ref (rA 18), .int (nI md), .int (nI wd), .ref (rA 21), .ref (rA 22), .ref (rA 23), .int (nI mn), .ref (rA 25), .int (nI cb), .int mr, .ref (rA 28), .ref (rA 29), .ref (rA 30), .ref (rA 31), .ref (rA 32), .ref (rA 33), .ref (rA 34), .ref (rA 35), .int (nI ld), .int (nI gm), .ref (rA 38), .ref (rA 39), .ref (rA 40), .ref (rA 41), .ref (rA 42), .ref (rA 43), .ref (rA 44), .ref (rA 45), .int (nI my), .ref (rA 47)], ia (rA 33) (rK9 33) 4 (fun i => nI ((updN pcn t (pcn t + 1)) i)), ia (rA 2) (rK9 2) 4 (fun i => nI (zs i)), ia (rA 3) (rK9 3) 28 (fun i => nI (kd i)), ia (rA 4) (rK9 4) 28 (fun i => nI (vx i)), ia (rA 5) (rK9 5) 28 (fun i => nI (rr i)), ia (rA 6) (rK9 6) 28 vv, ia (rA 34) (rK9 34) 8 hd9, ia (rA 29) (rK9 29) 28 (fun i0 => mN (fm i0)), ia (rA 31) (rK9 31) 28 (fun i => nI ((updN dn a 1) i)), ia (rA 32) (rK9 32) 28 (upd gv a (hd9 (2 * t + rr a) + vv a)), ia (rA 30) (rK9 30) 28 (fun i => nI ((updN hp a 1) i))] t9.heap ∧ va_K (dC, dI) classes [] t9 ∧ va_D (va_A [oc ra 8 [.int (nI T), .int (nI Ac), .ref (rA 2), .ref (rA 3), .ref (rA 4), .ref (rA 5), .ref (rA 6), .ref (rA 7), .ref (rA 8), .ref (rA 9), .ref (rA 10), .ref (rA 11), .ref (rA 12), .ref (rA 13), .int ir, .ref (rA 15), .ref (rA 16), .ref (rA 17), .ref (rA 18), .int (nI md), .int (nI wd), .ref (rA 21), .ref (rA 22), .ref (rA 23), .int (nI mn), .ref (rA 25), .int (nI cb), .int mr, .ref (rA 28), .ref (rA 29), .ref (rA 30), .ref (rA 31), .ref (rA 32), .ref (rA 33), .ref (rA 34), .ref (rA 35), .int (nI ld), .int (nI gm), .ref (rA 38), .ref (rA 39), .ref (rA 40), .ref (rA 41), .ref (rA 42), .ref (rA 43), .ref (rA 44), .ref (rA 45), .int (nI my), .ref (rA 47)], ia (rA 33) (rK9 33) 4 (fun i => nI (pcn i)), ia (rA 2) (rK9 2) 4 (fun i => nI (zs i)), ia (rA 3) (rK9 3) 28 (fun i => nI (kd i)), ia (rA 4) (rK9 4) 28 (fun i => nI (vx i)), ia (rA 5) (rK9 5) 28 (fun i => nI (rr i)), ia (rA 6) (rK9 6) 28 vv, ia (rA 34) (rK9 34) 8 hd9, ia (rA 29) (rK9 29) 28 (fun i0 => mN (fm i0)), ia (rA 31) (rK9 31) 28 (fun i => nI (dn i)), ia (rA 32) (rK9 32) 28 gv, ia (rA 30) (rK9 30) 28 (fun i => nI (hp i))] sz) [oc ra 8 [.int (nI T), .int (nI Ac), .ref (rA 2), .ref (rA 3), .ref (rA 4), .ref (rA 5), .ref (rA 6), .ref (rA 7), .ref (rA 8), .ref (rA 9), .ref (rA 10), .ref (rA 11), .ref (rA 12), .ref (rA 13), .int ir, .ref (rA 15), .ref (rA 16), .ref (rA 17), .ref (rA 18), .int (nI md), .int (nI wd), .ref (rA 21), .ref (rA 22), .ref (rA 23), .int (nI mn), .ref (rA 25), .int (nI cb), .int mr, .ref (rA 28), .ref (rA 29), .ref (rA 30), .ref (rA 31), .ref (rA 32), .ref (rA 33), .ref (rA 34), .ref (rA 35), .int (nI ld), .int (nI gm), .ref (rA 38), .ref (rA 39), .ref (rA 40), .ref (rA 41), .ref (rA 42), .ref (rA 43), .ref (rA 44), .ref (rA 45), .int (nI my), .ref (rA 47)], ia (rA 33) (rK9 33) 4 (fun i => nI ((updN pcn t (pcn t + 1)) i)), ia (rA 2) (rK9 2) 4 (fun i => nI (zs i)), ia (rA 3) (rK9 3) 28 (fun i => nI (kd i)), ia (rA 4) (rK9 4) 28 (fun i => nI (vx i)), ia (rA 5) (rK9 5) 28 (fun i => nI (rr i)), ia (rA 6) (rK9 6) 28 vv, ia (rA 34) (rK9 34) 8 hd9, ia (rA 29) (rK9 29) 28 (fun i0 => mN (fm i0)), ia (rA 31) (rK9 31) 28 (fun i => nI ((updN dn a 1) i)), ia (rA 32) (rK9 32) 28 (upd gv a (hd9 (2 * t + rr a) + vv a)), ia (rA 30) (rK9 30) 28 (fun i => nI ((updN hp a 1) i))]) (va_A [oc ra 8 [.int (nI T), .int (nI Ac), .ref (rA 2), .ref (rA 3), .ref (rA 4), .ref (rA 5), .ref (rA 6), .ref (rA 7), .ref (rA 8), .ref (rA 9), .ref (rA 10), .ref (rA 11), .ref (rA 12), .ref (rA 13), .int ir, .ref (rA 15), .ref (rA 16), .ref (rA 17), .ref (rA 18), .int (nI md), .int (nI wd), .ref (rA 21), .ref (rA 22), .ref (rA 23), .int (nI mn), .ref (rA 25), .int (nI cb), .int mr, .ref (rA 28), .ref (rA 29), .ref (rA 30), .ref (rA 31), .ref (rA 32), .ref (rA 33), .ref (rA 34), .ref (rA 35), .int (nI ld), .int (nI gm), .ref (rA 38), .ref (rA 39), .ref (rA 40), .ref (rA 41), .ref (rA 42), .ref (rA 43), .ref (rA 44), .ref (rA 45), .int (nI my), .ref (rA 47)], ia (rA 33) (rK9 33) 4 (fun i => nI (pcn i)), ia (rA 2) (rK9 2) 4 (fun i => nI (zs i)), ia (rA 3) (rK9 3) 28 (fun i => nI (kd i)), ia (rA 4) (rK9 4) 28 (fun i => nI (vx i)), ia (rA 5) (rK9 5) 28 (fun i => nI (rr i)), ia (rA 6) (rK9 6) 28 vv, ia (rA 34) (rK9 34) 8 hd9, ia (rA 29) (rK9 29) 28 (fun i0 => mN (fm i0)), ia (rA 31) (rK9 31) 28 (fun i => nI (dn i)), ia (rA 32) (rK9 32) 28 gv, ia (rA 30) (rK9 30) 28 (fun i => nI (hp i))] sz)) 0 0 (va_A [oc ra 8 [.int (nI T), .int (nI Ac), .ref (rA 2), .ref (rA 3), .ref (rA 4), .ref (rA 5), .ref (rA 6), .ref (rA 7), .ref (rA 8), .ref (rA 9), .ref (rA 10), .ref (rA 11), .ref (rA 12), .ref (rA 13), .int ir, .ref (rA 15), .ref (rA 16), .ref (rA 17), .ref (rA 18), .int (nI md), .int (nI wd), .ref (rA 21), .ref (rA 22), .ref (rA 23), .int (nI mn), .ref (rA 25), .int (nI cb), .int mr, .ref (rA 28), .ref (rA 29), .ref (rA 30), .ref (rA 31), .ref (rA 32), .ref (rA 33), .ref (rA 34), .ref (rA 35), .int (nI ld), .int (nI gm), .ref (rA 38), .ref (rA 39), .ref (rA 40), .ref (rA 41), .ref (rA 42), .ref (rA 43), .ref (rA 44), .ref (rA 45), .int (nI my), .ref (rA 47)], ia (rA 33) (rK9 33) 4 (fun i => nI (pcn i)), ia (rA 2) (rK9 2) 4 (fun i => nI (zs i)), ia (rA 3) (rK9 3) 28 (fun i => nI (kd i)), ia (rA 4) (rK9 4) 28 (fun i => nI (vx i)), ia (rA 5) (rK9 5) 28 (fun i => nI (rr i)), ia (rA 6) (rK9 6) 28 vv, ia (rA 34) (rK9 34) 8 hd9, ia (rA 29) (rK9 29) 28 (fun i0 => mN (fm i0)), ia (rA 31) (rK9 31) 28 (fun i => nI (dn i)), ia (rA 32) (rK9 32) 28 gv, ia (rA 30) (rK9 30) 28 (fun i => nI (hp i))] sz) := by
  refine Met.ofW (cc := b_Ref_act) (maxL := 6) (ret := (some .boolean)) (by decide) rfl ?_
  intro p e0 s m args below meth c s₁ B hml hv
  obtain ⟨rfl, hsz, hP, hK, hD0, hn⟩ := hv
  have hx := B.exec
  have hb := B.bytes
  have hr := B.returns
  have hw := fun w (h : w ∈ wt) => atoms_spec (ws := w_Ref_act) B.pre w (List.mem_cons_of_mem _ h)
  have hown : s.vm.findClass R_Ref = some m.cls := findClass_of_methodNamed B.named
  have hlocks := B.notSynchronized
  subst hsz
  have hD1 := hD0.self (sz := s.heap.size)
  generalize hAe : va_A [oc ra 8 [.int (nI T), .int (nI Ac), .ref (rA 2), .ref (rA 3), .ref (rA 4), .ref (rA 5), .ref (rA 6), .ref (rA 7), .ref (rA 8), .ref (rA 9), .ref (rA 10), .ref (rA 11), .ref (rA 12), .ref (rA 13), .int ir, .ref (rA 15), .ref (rA 16), .ref (rA 17), .ref (rA 18), .int (nI md), .int (nI wd), .ref (rA 21), .ref (rA 22), .ref (rA 23), .int (nI mn), .ref (rA 25), .int (nI cb), .int mr, .ref (rA 28), .ref (rA 29), .ref (rA 30), .ref (rA 31), .ref (rA 32), .ref (rA 33), .ref (rA 34), .ref (rA 35), .int (nI ld), .int (nI gm), .ref (rA 38), .ref (rA 39), .ref (rA 40), .ref (rA 41), .ref (rA 42), .ref (rA 43), .ref (rA 44), .ref (rA 45), .int (nI my), .ref (rA 47)], ia (rA 33) (rK9 33) 4 (fun i => nI (pcn i)), ia (rA 2) (rK9 2) 4 (fun i => nI (zs i)), ia (rA 3) (rK9 3) 28 (fun i => nI (kd i)), ia (rA 4) (rK9 4) 28 (fun i => nI (vx i)), ia (rA 5) (rK9 5) 28 (fun i => nI (rr i)), ia (rA 6) (rK9 6) 28 vv, ia (rA 34) (rK9 34) 8 hd9, ia (rA 29) (rK9 29) 28 (fun i0 => mN (fm i0)), ia (rA 31) (rK9 31) 28 (fun i => nI (dn i)), ia (rA 32) (rK9 32) 28 gv, ia (rA 30) (rK9 30) 28 (fun i => nI (hp i))] s.heap.size = A at hD1 ⊢
  have hA : ∀ q : Nat, s.heap.size ≤ q → A q := fun q h => by rw [← hAe]; exact Or.inr h
  have hD : dd A [ra, (rA 33), (rA 2), (rA 3), (rA 4), (rA 5), (rA 6), (rA 34), (rA 29), (rA 31), (rA 32), (rA 30)] := dd_of hD1 rfl
  clear hAe hD0 hD1
  have hS : va_S A s.heap s.heap [] := va_S.rf
  replace hP : va_P (dC, dI) classes [oc ra 8 [.int (nI T), .int (nI Ac), .ref (rA 2), .ref (rA 3), .ref (rA 4), .ref (rA 5), .ref (rA 6), .ref (rA 7), .ref (rA 8), .ref (rA 9), .ref (rA 10), .ref (rA 11), .ref (rA 12), .ref (rA 13), .int ir, .ref (rA 15), .ref (rA 16), .ref (rA 17), .ref (rA 18), .int (nI md), .int (nI wd), .ref (rA 21), .ref (rA 22), .ref (rA 23), .int (nI mn), .ref (rA 25), .int (nI cb), .int mr, .ref (rA 28), .ref (rA 29), .ref (rA 30), .ref (rA 31), .ref (rA 32), .ref (rA 33), .ref (rA 34), .ref (rA 35), .int (nI ld), .int (nI gm), .ref (rA 38), .ref (rA 39), .ref (rA 40), .ref (rA 41), .ref (rA 42), .ref (rA 43), .ref (rA 44), .ref (rA 45), .int (nI my), .ref (rA 47)], ia (rA 33) (rK9 33) 4 (fun i => nI (pcn i)), ia (rA 2) (rK9 2) 4 (fun i => nI (zs i)), ia (rA 3) (rK9 3) 28 (fun i => nI (kd i)), ia (rA 4) (rK9 4) 28 (fun i => nI (vx i)), ia (rA 5) (rK9 5) 28 (fun i => nI (rr i)), ia (rA 6) (rK9 6) 28 vv, ia (rA 34) (rK9 34) 8 hd9, ia (rA 29) (rK9 29) 28 (fun i0 => mN (fm i0)), ia (rA 31) (rK9 31) 28 (fun i => nI (dn i)), ia (rA 32) (rK9 32) 28 gv, ia (rA 30) (rK9 30) 28 (fun i => nI (hp i))] s.heap := hP
  have hl := lv_entry ([.ref ra, .int (nI t)]) (n := 6) (Nat.le_of_ble_eq_true rfl)
  rw [lg_entry_eq]
  generalize (lg_sl ([.ref ra, .int (nI t)]) ++ List.replicate (6 - (lg_sl ([.ref ra, .int (nI t)])).length) Slot.unset).toArray = ls at hl ⊢
  replace hl : lv_has ls 6 [(0, .ref ra), (1, .int (nI t))] := hl
  refine lv_bipush (v := 7) hx hb d_Ref_act_0 (by decide) ?_
  refine lv_iload_n hx hb d_Ref_act_2 rfl (lv_at hl 1 rfl) ?_
  refine lv_imul hx hb d_Ref_act_3 ?_
  refine tp_i (y := nI (7 * t)) (by exact pk_mul 7 t) ?_
  refine lv_aload_n hx hb d_Ref_act_4 rfl (lv_at hl 0 rfl) ?_
  refine va_get (D := (dC, dI)) (ci := 8) (v := .ref (rA 33)) (C := R_Ref) (T := F_Ref) (N := 48) hx hb hw i_Ref hown hK hP 0 rfl rfl 33 (by decide) (hw _ m_932) (fun _ h9 => h9) rfl d_Ref_act_5 ?_
  refine lv_iload_n hx hb d_Ref_act_8 rfl (lv_at hl 1 rfl) ?_
  refine va_iald (D := (dC, dI)) hx hb hK hP 1 0 rfl rfl (i := nI t) (pk_in t 4 (by omega)) d_Ref_act_9 ?_
  refine tp_i (y := nI (pcn t)) (by rw [show (nI t : Int32).toNatClampNeg = t from pk_cl t]) ?_
  refine lv_iadd hx hb d_Ref_act_10 ?_
  refine tp_i (y := nI (7 * t + (pcn t))) (by exact nI_add (7 * t) (pcn t)) ?_
  refine tp_i (y := nI a) (by rw [ha]) ?_
  refine lv_istore_n (lv' := [(2, .int (nI a)), (0, .ref ra), (1, .int (nI t))]) hx hb d_Ref_act_11 rfl hl (by decide) rfl ?_
  clear hl ls
  intro ls hl
  refine lv_aload_n hx hb d_Ref_act_12 rfl (lv_at hl 1 rfl) ?_
  refine va_get (D := (dC, dI)) (ci := 8) (v := .ref (rA 3)) (C := R_Ref) (T := F_Ref) (N := 48) hx hb hw i_Ref hown hK hP 0 rfl rfl 3 (by decide) (hw _ m_902) (fun _ h9 => h9) rfl d_Ref_act_13 ?_
  refine lv_iload_n hx hb d_Ref_act_16 rfl (lv_at hl 0 rfl) ?_
  refine va_iald (D := (dC, dI)) hx hb hK hP 3 2 rfl rfl (i := nI a) (pk_in a 28 (by omega)) d_Ref_act_17 ?_
  refine tp_i (y := nI (kd a)) (by rw [show (nI a : Int32).toNatClampNeg = a from pk_cl a]) ?_
  refine tp_i (y := 2) (by rw [hk]; rfl) ?_
  refine lv_istore_n (lv' := [(3, .int 2), (2, .int (nI a)), (0, .ref ra), (1, .int (nI t))]) hx hb d_Ref_act_18 rfl hl (by decide) rfl ?_
  clear hl ls
  intro ls hl
  refine lv_iconst (v := 2) hx hb d_Ref_act_19 (by decide) ?_
  refine lv_iload_n hx hb d_Ref_act_20 rfl (lv_at hl 3 rfl) ?_
  refine lv_imul hx hb d_Ref_act_21 ?_
  refine tp_i (y := nI (2 * t)) (by exact pk_mul 2 t) ?_
  refine lv_aload_n hx hb d_Ref_act_22 rfl (lv_at hl 2 rfl) ?_
  refine va_get (D := (dC, dI)) (ci := 8) (v := .ref (rA 5)) (C := R_Ref) (T := F_Ref) (N := 48) hx hb hw i_Ref hown hK hP 0 rfl rfl 5 (by decide) (hw _ m_904) (fun _ h9 => h9) rfl d_Ref_act_23 ?_
  refine lv_iload_n hx hb d_Ref_act_26 rfl (lv_at hl 1 rfl) ?_
  refine va_iald (D := (dC, dI)) hx hb hK hP 5 4 rfl rfl (i := nI a) (pk_in a 28 (by omega)) d_Ref_act_27 ?_
  refine tp_i (y := nI (rr a)) (by rw [show (nI a : Int32).toNatClampNeg = a from pk_cl a]) ?_
  refine lv_iadd hx hb d_Ref_act_28 ?_
  refine tp_i (y := nI (2 * t + (rr a))) (by exact nI_add (2 * t) (rr a)) ?_
  refine lv_istore (lv' := [(4, .int (nI (2 * t + (rr a)))), (3, .int 2), (2, .int (nI a)), (0, .ref ra), (1, .int (nI t))]) hx hb d_Ref_act_29 hl (by decide) rfl ?_
  clear hl ls
  intro ls hl
  refine lv_iload_n hx hb d_Ref_act_31 rfl (lv_at hl 1 rfl) ?_
  refine lv_iconst (v := 5) hx hb d_Ref_act_32 (by decide) ?_
  refine lv_icmp_ne (tgt := 110) hx hb d_Ref_act_33 (by decide) (fun c_1 => ?_) (fun c_1 => absurd c_1 (by decide))
  refine tp_pc (pc' := 110) (by rfl) ?_
  refine lv_iconst (v := 0) hx hb d_Ref_act_110 (by decide) ?_
  refine lv_istore (lv' := [(5, .int 0), (4, .int (nI (2 * t + (rr a)))), (3, .int 2), (2, .int (nI a)), (0, .ref ra), (1, .int (nI t))]) hx hb d_Ref_act_111 hl (by decide) rfl ?_
  clear hl ls
  intro ls hl
  refine lv_iload_n hx hb d_Ref_act_113 rfl (lv_at hl 2 rfl) ?_
  refine tp_i (y := nI 2) rfl ?_
  obtain ⟨hPc, hDc, hFc⟩ := cut3 (wc := []) hP hD rfl hS hA [] (by decide +kernel) rfl
  have hKc := hK.sub (tys' := []) [] rfl
  refine va_calli (va_runS (As := [.int (nI 2)]) (rest := []) ⟨hx, hb, hml, hown, hw⟩ (gen_Ref_takes l dC dI 2 (by decide) s.heap.size) (cw_S 1 hw g_Ref_takes rfl rfl rfl (hw _ m_109) (hw _ m_1190) (hw _ m_1191) (by decide +kernel) ⟨Nat.le_of_ble_eq_true rfl, Nat.le_of_ble_eq_true rfl⟩) ⟨fun a U g mk q => by obtain ⟨q0, q1, qP, qK, qD, qN⟩ := q; exact ⟨q0, q1, qP, va_K.moved (u := U) (U := U.calling g mk a) (Vm.Alike.refl U.vm) qK, qD, nw_call qN⟩, fun U hU hW => ⟨rfl, by rw [hU], by rw [hU]; exact hPc, va_K.moved hW.alike hKc, hDc.weaken (fun _ _ _ _ => trivial), nw_warm hW hn⟩⟩ rfl rfl hl.1 rfl (lv_room (Nat.le_of_ble_eq_true rfl)) d_Ref_act_114 ⟨Nat.le_of_ble_eq_true rfl, Nat.le_of_ble_eq_true rfl⟩) hS (fun q _ h => hFc q h) hFc ?_
  intro r_2 u t9 H1 locs1 ht9 hvm hw1 hB hz1 hk1 hS1
  obtain ⟨hP1, hK1, hD1⟩ := hB
  rw [ht9] at hP1
  replace hK1 := va_K.moved hvm.symm hK1
  have hPD := join3 hP hD rfl [] [0, 1, 2, 3, 4, 5, 6, 7, 8, 9, 10, 11] rfl (by rfl) (by decide +kernel) (by decide +kernel) hk1 hFc hP1 hD1
  replace hK : va_K (dC, dI) classes [((rK9 33), .int), ((rK9 2), .int), ((rK9 3), .int), ((rK9 4), .int), ((rK9 5), .int), ((rK9 6), .int), ((rK9 34), .int), ((rK9 29), .int), ((rK9 31), .boolean), ((rK9 32), .int), ((rK9 30), .boolean)] s := hK.app hK1
  clear hP1 hK1 hD1 hk1 hz1 hFc hKc hDc hPc hvm ht9 hP hS t9
  have hP : va_P (dC, dI) classes [oc ra 8 [.int (nI T), .int (nI Ac), .ref (rA 2), .ref (rA 3), .ref (rA 4), .ref (rA 5), .ref (rA 6), .ref (rA 7), .ref (rA 8), .ref (rA 9), .ref (rA 10), .ref (rA 11), .ref (rA 12), .ref (rA 13), .int ir, .ref (rA 15), .ref (rA 16), .ref (rA 17), .ref (rA 18), .int (nI md), .int (nI wd), .ref (rA 21), .ref (rA 22), .ref (rA 23), .int (nI mn), .ref (rA 25), .int (nI cb), .int mr, .ref (rA 28), .ref (rA 29), .ref (rA 30), .ref (rA 31), .ref (rA 32), .ref (rA 33), .ref (rA 34), .ref (rA 35), .int (nI ld), .int (nI gm), .ref (rA 38), .ref (rA 39), .ref (rA 40), .ref (rA 41), .ref (rA 42), .ref (rA 43), .ref (rA 44), .ref (rA 45), .int (nI my), .ref (rA 47)], ia (rA 33) (rK9 33) 4 (fun i => nI (pcn i)), ia (rA 2) (rK9 2) 4 (fun i => nI (zs i)), ia (rA 3) (rK9 3) 28 (fun i => nI (kd i)), ia (rA 4) (rK9 4) 28 (fun i => nI (vx i)), ia (rA 5) (rK9 5) 28 (fun i => nI (rr i)), ia (rA 6) (rK9 6) 28 vv, ia (rA 34) (rK9 34) 8 hd9, ia (rA 29) (rK9 29) 28 (fun i0 => mN (fm i0)), ia (rA 31) (rK9 31) 28 (fun i => nI (dn i)), ia (rA 32) (rK9 32) 28 gv, ia (rA 30) (rK9 30) 28 (fun i => nI (hp i))] H1 := hPD.1
  replace hD : dd A [ra, (rA 33), (rA 2), (rA 3), (rA 4), (rA 5), (rA 6), (rA 34), (rA 29), (rA 31), (rA 32), (rA 30)] := dd_of hPD.2 rfl
  clear hPD
  revert H1 locs1
  intro H locs hS hP
  refine tp_i (y := 0) (hw1.trans (if_neg (by decide))) ?_
  clear hw1 r_2 u
  refine tp_pc (pc' := 117) (by rfl) ?_
  refine lv_if_eq (tgt := 158) hx hb d_Ref_act_117 (by decide) (fun c_3 => ?_) (fun c_3 => absurd c_3 (by decide))
  refine tp_pc (pc' := 158) (by rfl) ?_
  refine lv_aload_n hx hb d_Ref_act_158 rfl (lv_at hl 4 rfl) ?_
  refine va_get (D := (dC, dI)) (ci := 8) (v := .ref (rA 30)) (C := R_Ref) (T := F_Ref) (N := 48) hx hb hw i_Ref hown hK hP 0 rfl rfl 30 (by decide) (hw _ m_929) (fun _ h9 => h9) rfl d_Ref_act_159 ?_
  refine lv_iload_n hx hb d_Ref_act_162 rfl (lv_at hl 3 rfl) ?_
  refine lv_iconst (v := 1) hx hb d_Ref_act_163 (by decide) ?_
  refine tp_i (y := nI 1) rfl ?_
  refine va_zast (D := (dC, dI)) hx hb hK hP (dd_D hD rfl) hS 11 10 rfl rfl (i := nI a) (x := nI 1) (pk_in a 28 (by omega)) d_Ref_act_164 ?_
  clear hP hS locs H
  intro H locs hP _ hS
  rw [show (nI a : Int32).toNatClampNeg = a from pk_cl a] at hP
  rw [show vp_nar .boolean (nI 1) = (nI 1) from by decide] at hP
  rw [show upd (fun i => nI (hp i)) a (nI 1) = fun i => nI (updN hp a 1 i) from upd_nI] at hP
  replace hP : va_P (dC, dI) classes [oc ra 8 [.int (nI T), .int (nI Ac), .ref (rA 2), .ref (rA 3), .ref (rA 4), .ref (rA 5), .ref (rA 6), .ref (rA 7), .ref (rA 8), .ref (rA 9), .ref (rA 10), .ref (rA 11), .ref (rA 12), .ref (rA 13), .int ir, .ref (rA 15), .ref (rA 16), .ref (rA 17), .ref (rA 18), .int (nI md), .int (nI wd), .ref (rA 21), .ref (rA 22), .ref (rA 23), .int (nI mn), .ref (rA 25), .int (nI cb), .int mr, .ref (rA 28), .ref (rA 29), .ref (rA 30), .ref (rA 31), .ref (rA 32), .ref (rA 33), .ref (rA 34), .ref (rA 35), .int (nI ld), .int (nI gm), .ref (rA 38), .ref (rA 39), .ref (rA 40), .ref (rA 41), .ref (rA 42), .ref (rA 43), .ref (rA 44), .ref (rA 45), .int (nI my), .ref (rA 47)], ia (rA 33) (rK9 33) 4 (fun i => nI (pcn i)), ia (rA 2) (rK9 2) 4 (fun i => nI (zs i)), ia (rA 3) (rK9 3) 28 (fun i => nI (kd i)), ia (rA 4) (rK9 4) 28 (fun i => nI (vx i)), ia (rA 5) (rK9 5) 28 (fun i => nI (rr i)), ia (rA 6) (rK9 6) 28 vv, ia (rA 34) (rK9 34) 8 hd9, ia (rA 29) (rK9 29) 28 (fun i0 => mN (fm i0)), ia (rA 31) (rK9 31) 28 (fun i => nI (dn i)), ia (rA 32) (rK9 32) 28 gv, ia (rA 30) (rK9 30) 28 (fun i => nI ((updN hp a 1) i))] H := hP
  refine tp_pc (pc' := 165) (by rfl) ?_
  refine lv_aload_n hx hb d_Ref_act_165 rfl (lv_at hl 4 rfl) ?_
  refine va_get (D := (dC, dI)) (ci := 8) (v := .ref (rA 31)) (C := R_Ref) (T := F_Ref) (N := 48) hx hb hw i_Ref hown hK hP 0 rfl rfl 31 (by decide) (hw _ m_930) (fun _ h9 => h9) rfl d_Ref_act_166 ?_
  refine lv_iload_n hx hb d_Ref_act_169 rfl (lv_at hl 3 rfl) ?_
  refine lv_iconst (v := 1) hx hb d_Ref_act_170 (by decide) ?_
  refine tp_i (y := nI 1) rfl ?_
  refine va_zast (D := (dC, dI)) hx hb hK hP (dd_D hD rfl) hS 9 8 rfl rfl (i := nI a) (x := nI 1) (pk_in a 28 (by omega)) d_Ref_act_171 ?_
  clear hP hS locs H
  intro H locs hP _ hS
  rw [show (nI a : Int32).toNatClampNeg = a from pk_cl a] at hP
  rw [show vp_nar .boolean (nI 1) = (nI 1) from by decide] at hP
  rw [show upd (fun i => nI (dn i)) a (nI 1) = fun i => nI (updN dn a 1 i) from upd_nI] at hP
  replace hP : va_P (dC, dI) classes [oc ra 8 [.int (nI T), .int (nI Ac), .ref (rA 2), .ref (rA 3), .ref (rA 4), .ref (rA 5), .ref (rA 6), .ref (rA 7), .ref (rA 8), .ref (rA 9), .ref (rA 10), .ref (rA 11), .ref (rA 12), .ref (rA 13), .int ir, .ref (rA 15), .ref (rA 16), .ref (rA 17), .ref (rA 18), .int (nI md), .int (nI wd), .ref (rA 21), .ref (rA 22), .ref (rA 23), .int (nI mn), .ref (rA 25), .int (nI cb), .int mr, .ref (rA 28), .ref (rA 29), .ref (rA 30), .ref (rA 31), .ref (rA 32), .ref (rA 33), .ref (rA 34), .ref (rA 35), .int (nI ld), .int (nI gm), .ref (rA 38), .ref (rA 39), .ref (rA 40), .ref (rA 41), .ref (rA 42), .ref (rA 43), .ref (rA 44), .ref (rA 45), .int (nI my), .ref (rA 47)], ia (rA 33) (rK9 33) 4 (fun i => nI (pcn i)), ia (rA 2) (rK9 2) 4 (fun i => nI (zs i)), ia (rA 3) (rK9 3) 28 (fun i => nI (kd i)), ia (rA 4) (rK9 4) 28 (fun i => nI (vx i)), ia (rA 5) (rK9 5) 28 (fun i => nI (rr i)), ia (rA 6) (rK9 6) 28 vv, ia (rA 34) (rK9 34) 8 hd9, ia (rA 29) (rK9 29) 28 (fun i0 => mN (fm i0)), ia (rA 31) (rK9 31) 28 (fun i => nI ((updN dn a 1) i)), ia (rA 32) (rK9 32) 28 gv, ia (rA 30) (rK9 30) 28 (fun i => nI ((updN hp a 1) i))] H := hP
  refine tp_pc (pc' := 172) (by rfl) ?_
  refine lv_aload_n hx hb d_Ref_act_172 rfl (lv_at hl 4 rfl) ?_
  refine va_get (D := (dC, dI)) (ci := 8) (v := .ref (rA 33)) (C := R_Ref) (T := F_Ref) (N := 48) hx hb hw i_Ref hown hK hP 0 rfl rfl 33 (by decide) (hw _ m_932) (fun _ h9 => h9) rfl d_Ref_act_173 ?_
  refine lv_iload_n hx hb d_Ref_act_176 rfl (lv_at hl 5 rfl) ?_
  refine lv_dup2_11 hx hb d_Ref_act_177 rfl rfl ?_
  refine va_iald (D := (dC, dI)) hx hb hK hP 1 0 rfl rfl (i := nI t) (pk_in t 4 (by omega)) d_Ref_act_178 ?_
  refine tp_i (y := nI (pcn t)) (by rw [show (nI t : Int32).toNatClampNeg = t from pk_cl t]) ?_
  refine lv_iconst (v := 1) hx hb d_Ref_act_179 (by decide) ?_
  refine lv_iadd hx hb d_Ref_act_180 ?_
  refine tp_i (y := nI (pcn t + 1)) (by exact nI_add (pcn t) 1) ?_
  refine va_iast (D := (dC, dI)) hx hb hK hP (dd_D hD rfl) hS 1 0 rfl rfl (i := nI t) (x := nI (pcn t + 1)) (pk_in t 4 (by omega)) d_Ref_act_181 ?_
  clear hP hS locs H
  intro H locs hP _ hS
  rw [show (nI t : Int32).toNatClampNeg = t from pk_cl t] at hP
  rw [show upd (fun i => nI (pcn i)) t (nI (pcn t + 1)) = fun i => nI (updN pcn t (pcn t + 1) i) from upd_nI] at hP
  replace hP : va_P (dC, dI) classes [oc ra 8 [.int (nI T), .int (nI Ac), .ref (rA 2), .ref (rA 3), .ref (rA 4), .ref (rA 5), .ref (rA 6), .ref (rA 7), .ref (rA 8), .ref (rA 9), .ref (rA 10), .ref (rA 11), .ref (rA 12), .ref (rA 13), .int ir, .ref (rA 15), .ref (rA 16), .ref (rA 17), .ref (rA 18), .int (nI md), .int (nI wd), .ref (rA 21), .ref (rA 22), .ref (rA 23), .int (nI mn), .ref (rA 25), .int (nI cb), .int mr, .ref (rA 28), .ref (rA 29), .ref (rA 30), .ref (rA 31), .ref (rA 32), .ref (rA 33), .ref (rA 34), .ref (rA 35), .int (nI ld), .int (nI gm), .ref (rA 38), .ref (rA 39), .ref (rA 40), .ref (rA 41), .ref (rA 42), .ref (rA 43), .ref (rA 44), .ref (rA 45), .int (nI my), .ref (rA 47)], ia (rA 33) (rK9 33) 4 (fun i => nI ((updN pcn t (pcn t + 1)) i)), ia (rA 2) (rK9 2) 4 (fun i => nI (zs i)), ia (rA 3) (rK9 3) 28 (fun i => nI (kd i)), ia (rA 4) (rK9 4) 28 (fun i => nI (vx i)), ia (rA 5) (rK9 5) 28 (fun i => nI (rr i)), ia (rA 6) (rK9 6) 28 vv, ia (rA 34) (rK9 34) 8 hd9, ia (rA 29) (rK9 29) 28 (fun i0 => mN (fm i0)), ia (rA 31) (rK9 31) 28 (fun i => nI ((updN dn a 1) i)), ia (rA 32) (rK9 32) 28 gv, ia (rA 30) (rK9 30) 28 (fun i => nI ((updN hp a 1) i))] H := hP
  refine tp_pc (pc' := 182) (by rfl) ?_
  refine lv_iload_n hx hb d_Ref_act_182 rfl (lv_at hl 2 rfl) ?_
  refine lv_iconst (v := 2) hx hb d_Ref_act_183 (by decide) ?_
  refine lv_icmp_ne (tgt := 210) hx hb d_Ref_act_184 (by decide) (fun c_4 => absurd c_4 (by decide)) (fun c_4 => ?_)
  refine tp_pc (pc' := 187) (by rfl) ?_
  refine lv_aload_n hx hb d_Ref_act_187 rfl (lv_at hl 4 rfl) ?_
  refine va_get (D := (dC, dI)) (ci := 8) (v := .ref (rA 32)) (C := R_Ref) (T := F_Ref) (N := 48) hx hb hw i_Ref hown hK hP 0 rfl rfl 32 (by decide) (hw _ m_931) (fun _ h9 => h9) rfl d_Ref_act_188 ?_
  refine lv_iload_n hx hb d_Ref_act_191 rfl (lv_at hl 3 rfl) ?_
  refine lv_aload_n hx hb d_Ref_act_192 rfl (lv_at hl 4 rfl) ?_
  refine va_get (D := (dC, dI)) (ci := 8) (v := .ref (rA 34)) (C := R_Ref) (T := F_Ref) (N := 48) hx hb hw i_Ref hown hK hP 0 rfl rfl 34 (by decide) (hw _ m_933) (fun _ h9 => h9) rfl d_Ref_act_193 ?_
  refine lv_iload hx hb d_Ref_act_196 (lv_at hl 1 rfl) ?_
  refine va_iald (D := (dC, dI)) hx hb hK hP 7 6 rfl rfl (i := nI (2 * t + (rr a))) (pk_in (2 * t + (rr a)) 8 (by omega)) d_Ref_act_198 ?_
  refine tp_i (y := hd9 (2 * t + (rr a))) (by rw [show (nI (2 * t + (rr a)) : Int32).toNatClampNeg = 2 * t + (rr a) from pk_cl (2 * t + (rr a))]) ?_
  refine lv_aload_n hx hb d_Ref_act_199 rfl (lv_at hl 4 rfl) ?_
  refine va_get (D := (dC, dI)) (ci := 8) (v := .ref (rA 6)) (C := R_Ref) (T := F_Ref) (N := 48) hx hb hw i_Ref hown hK hP 0 rfl rfl 6 (by decide) (hw _ m_905) (fun _ h9 => h9) rfl d_Ref_act_200 ?_
  refine lv_iload_n hx hb d_Ref_act_203 rfl (lv_at hl 3 rfl) ?_
  refine va_iald (D := (dC, dI)) hx hb hK hP 6 5 rfl rfl (i := nI a) (pk_in a 28 (by omega)) d_Ref_act_204 ?_
  refine tp_i (y := vv a) (by rw [show (nI a : Int32).toNatClampNeg = a from pk_cl a]) ?_
  refine lv_iadd hx hb d_Ref_act_205 ?_
  refine tp_i (y := (hd9 (2 * t + (rr a))) + (vv a)) rfl ?_
  refine va_iast (D := (dC, dI)) hx hb hK hP (dd_D hD rfl) hS 10 9 rfl rfl (i := nI a) (x := (hd9 (2 * t + (rr a))) + (vv a)) (pk_in a 28 (by omega)) d_Ref_act_206 ?_
  clear hP hS locs H
  intro H locs hP _ hS
  rw [show (nI a : Int32).toNatClampNeg = a from pk_cl a] at hP
  replace hP : va_P (dC, dI) classes [oc ra 8 [.int (nI T), .int (nI Ac), .ref (rA 2), .ref (rA 3), .ref (rA 4), .ref (rA 5), .ref (rA 6), .ref (rA 7), .ref (rA 8), .ref (rA 9), .ref (rA 10), .ref (rA 11), .ref (rA 12), .ref (rA 13), .int ir, .ref (rA 15), .ref (rA 16), .ref (rA 17), .ref (rA 18), .int (nI md), .int (nI wd), .ref (rA 21), .ref (rA 22), .ref (rA 23), .int (nI mn), .ref (rA 25), .int (nI cb), .int mr, .ref (rA 28), .ref (rA 29), .ref (rA 30), .ref (rA 31), .ref (rA 32), .ref (rA 33), .ref (rA 34), .ref (rA 35), .int (nI ld), .int (nI gm), .ref (rA 38), .ref (rA 39), .ref (rA 40), .ref (rA 41), .ref (rA 42), .ref (rA 43), .ref (rA 44), .ref (rA 45), .int (nI my), .ref (rA 47)], ia (rA 33) (rK9 33) 4 (fun i => nI ((updN pcn t (pcn t + 1)) i)), ia (rA 2) (rK9 2) 4 (fun i => nI (zs i)), ia (rA 3) (rK9 3) 28 (fun i => nI (kd i)), ia (rA 4) (rK9 4) 28 (fun i => nI (vx i)), ia (rA 5) (rK9 5) 28 (fun i => nI (rr i)), ia (rA 6) (rK9 6) 28 vv, ia (rA 34) (rK9 34) 8 hd9, ia (rA 29) (rK9 29) 28 (fun i0 => mN (fm i0)), ia (rA 31) (rK9 31) 28 (fun i => nI ((updN dn a 1) i)), ia (rA 32) (rK9 32) 28 (upd gv a ((hd9 (2 * t + (rr a))) + (vv a))), ia (rA 30) (rK9 30) 28 (fun i => nI ((updN hp a 1) i))] H := hP
  refine tp_pc (pc' := 207) (by rfl) ?_
  refine lv_goto (tgt := 261) hx hb d_Ref_act_207 (by decide) ?_
  refine tp_pc (pc' := 261) (by rfl) ?_
  refine lv_iconst (v := 1) hx hb d_Ref_act_261 (by decide) ?_
  replace hP : va_P (dC, dI) classes [oc ra 8 [.int (nI T), .int (nI Ac), .ref (rA 2), .ref (rA 3), .ref (rA 4), .ref (rA 5), .ref (rA 6), .ref (rA 7), .ref (rA 8), .ref (rA 9), .ref (rA 10), .ref (rA 11), .ref (rA 12), .ref (rA 13), .int ir, .ref (rA 15), .ref (rA 16), .ref (rA 17), .ref (rA 18), .int (nI md), .int (nI wd), .ref (rA 21), .ref (rA 22), .ref (rA 23), .int (nI mn), .ref (rA 25), .int (nI cb), .int mr, .ref (rA 28), .ref (rA 29), .ref (rA 30), .ref (rA 31), .ref (rA 32), .ref (rA 33), .ref (rA 34), .ref (rA 35), .int (nI ld), .int (nI gm), .ref (rA 38), .ref (rA 39), .ref (rA 40), .ref (rA 41), .ref (rA 42), .ref (rA 43), .ref (rA 44), .ref (rA 45), .int (nI my), .ref (rA 47)], ia (rA 33) (rK9 33) 4 (fun i => nI ((updN pcn t (pcn t + 1)) i)), ia (rA 2) (rK9 2) 4 (fun i => nI (zs i)), ia (rA 3) (rK9 3) 28 (fun i => nI (kd i)), ia (rA 4) (rK9 4) 28 (fun i => nI (vx i)), ia (rA 5) (rK9 5) 28 (fun i => nI (rr i)), ia (rA 6) (rK9 6) 28 vv, ia (rA 34) (rK9 34) 8 hd9, ia (rA 29) (rK9 29) 28 (fun i0 => mN (fm i0)), ia (rA 31) (rK9 31) 28 (fun i => nI ((updN dn a 1) i)), ia (rA 32) (rK9 32) 28 (upd gv a (hd9 (2 * t + rr a) + vv a)), ia (rA 30) (rK9 30) 28 (fun i => nI ((updN hp a 1) i))] H := hP
  obtain ⟨hP9, hD9, -⟩ := cut3 (wc := [oc ra 8 [.int (nI T), .int (nI Ac), .ref (rA 2), .ref (rA 3), .ref (rA 4), .ref (rA 5), .ref (rA 6), .ref (rA 7), .ref (rA 8), .ref (rA 9), .ref (rA 10), .ref (rA 11), .ref (rA 12), .ref (rA 13), .int ir, .ref (rA 15), .ref (rA 16), .ref (rA 17), .ref (rA 18), .int (nI md), .int (nI wd), .ref (rA 21), .ref (rA 22), .ref (rA 23), .int (nI mn), .ref (rA 25), .int (nI cb), .int mr, .ref (rA 28), .ref (rA 29), .ref (rA 30), .ref (rA 31), .ref (rA 32), .ref (rA 33), .ref (rA 34), .ref (rA 35), .int (nI ld), .int (nI gm), .ref (rA 38), .ref (rA 39), .ref (rA 40), .ref (rA 41), .ref (rA 42), .ref (rA 43), .ref (rA 44), .ref (rA 45), .int (nI my), .ref (rA 47)], ia (rA 33) (rK9 33) 4 (fun i => nI ((updN pcn t (pcn t + 1)) i)), ia (rA 2) (rK9 2) 4 (fun i => nI (zs i)), ia (rA 3) (rK9 3) 28 (fun i => nI (kd i)), ia (rA 4) (rK9 4) 28 (fun i => nI (vx i)), ia (rA 5) (rK9 5) 28 (fun i => nI (rr i)), ia (rA 6) (rK9 6) 28 vv, ia (rA 34) (rK9 34) 8 hd9, ia (rA 29) (rK9 29) 28 (fun i0 => mN (fm i0)), ia (rA 31) (rK9 31) 28 (fun i => nI ((updN dn a 1) i)), ia (rA 32) (rK9 32) 28 (upd gv a (hd9 (2 * t + rr a) + vv a)), ia (rA 30) (rK9 30) 28 (fun i => nI ((updN hp a 1) i))]) hP hD rfl hS hA [0, 1, 2, 3, 4, 5, 6, 7, 8, 9, 10, 11] (by decide +kernel) rfl
  have hK9 := hK.sub (tys' := []) [] rfl
  refine W.widen (k := 0) (n := 0) (by exact Nat.le_of_ble_eq_true rfl) (by exact Nat.le_of_ble_eq_true rfl) ?_
  exact W.zret (v := 1) (ty := .boolean) hx hb hr (by decide) (fun t9 ht9 hW => ⟨⟨1, (), rfl, rfl, by rw [ht9]; exact hP9, va_K.moved hW.alike hK9, hD9⟩, hS.F ht9⟩) hS.2.2 d_Ref_act_262
set_option maxHeartbeats 4000000 in
set_option maxRecDepth 100000 in
theorem gen_Ref_act_0n (l : Launch) (dC : Nat → ClassId) (dI : Nat → Nat → Nat) (ra : Nat) (rA : Nat → Nat) (rK9 : Nat → ClassId) (T Ac md wd mn cb ld gm my : Nat) (ir mr : Int32) (t a : Nat) (pcn zs kd vx rr fm dn hp : Nat → Nat) (vv hd9 gv : Nat → Int32) (ht : t < 4) (ha : a = 7 * t + pcn t) (hpc : pcn t < zs t) (hzt : zs t ≤ 7) (hvx : vx a < 4) (hrr : rr a < 2) (hk : kd a = 0) (hf0 : fm a = 0) (sz : Nat) : Met l y_Ref_act w_Ref_act ({ frames := 1, cells := 0, slots := 0, locals := 40 }) (va_Pc [.ref ra, .int (nI t)] (fun U => U.heap.size = sz ∧ va_P (dC, dI) classes [oc ra 8 [.int (nI T), .int (nI Ac), .ref (rA 2), .ref (rA 3), .ref (rA 4), .ref (rA 5), .ref (rA 6), .ref (rA 7), .ref (rA 8), .ref (rA 9), .ref (rA 10), .ref (rA 11), .ref (rA 12), .ref (rA 13), .int ir, .ref (rA 15), .ref (rA 16), .ref (rA 17), .ref (rA 18), .int (nI md), .int (nI wd), .ref (rA 21), .ref (rA 22), .ref (rA 23), .int (nI mn), .ref (rA 25), .int (nI cb), .int mr, .ref (rA 28), .ref (rA 29), .ref (rA 30), .ref (rA 31), .ref (rA 32), .ref (rA 33), .ref (rA 34), .ref (rA 35), .int (nI ld), .int (nI gm), .ref (rA 38), .ref (rA 39), .ref (rA 40), .ref (rA 41), .ref (rA 42), .ref (rA 43), .ref (rA 44), .ref (rA 45), .int (nI my), .ref (rA 47)], ia (rA 33) (rK9 33) 4 (fun i => nI (pcn i)), ia (rA 2) (rK9 2) 4 (fun i => nI (zs i)), ia (rA 3) (rK9 3) 28 (fun i => nI (kd i)), ia (rA 4) (rK9 4) 28 (fun i => nI (vx i)), ia (rA 5) (rK9 5) 28 (fun i => nI (rr i)), ia (rA 6) (rK9 6) 28 vv, ia (rA 34) (rK9 34) 8 hd9, ia (rA 29) (rK9 29) 28 (fun i0 => mN (fm i0)), ia (rA 31) (rK9 31) 28 (fun i => nI (dn i)), ia (rA 32) (rK9 32) 28 gv, ia (rA 30) (rK9 30) 28 (fun i => nI (hp i))] U.heap ∧ va_K (dC, dI) classes [((rK9 33), .int), ((rK9 2), .int), ((rK9 3), .int), ((rK9 4), .int), ((rK9 5), .int), ((rK9 6), .int), ((rK9 34), .int), ((rK9 29), .int), ((rK9 31), .boolean), ((rK9 32), .int), ((rK9 30), .boolean)] U ∧ va_D (fun _ => True) [oc ra 8 [.int (nI T), .int (nI Ac), .ref (rA 2), .ref (rA 3), .ref (rA 4), .ref (rA 5), .ref (rA 6), .ref (rA 7), .ref (rA 8), .ref (rA 9), .ref (rA 10), .ref (rA 11), .ref (rA 12), .ref (rA 13), .int ir, .ref (rA 15), .ref (rA 16), .ref (rA 17), .ref (rA 18), .int (nI md), .int (nI wd), .ref (rA 21), .ref (rA 22), .ref (rA 23), .int (nI mn), .ref (rA 25), .int (nI cb), .int mr, .ref (rA 28), .ref (rA 29), .ref (rA 30), .ref (rA 31), .ref (rA 32), .ref (rA 33), .ref (rA 34), .ref (rA 35), .int (nI ld), .int (nI gm), .ref (rA 38), .ref (rA 39), .ref (rA 40), .ref (rA 41), .ref (rA 42), .ref (rA 43), .ref (rA 44), .ref (rA 45), .int (nI my), .ref (rA 47)], ia (rA 33) (rK9 33) 4 (fun i => nI (pcn i)), ia (rA 2) (rK9 2) 4 (fun i => nI (zs i)), ia (rA 3) (rK9 3) 28 (fun i => nI (kd i)), ia (rA 4) (rK9 4) 28 (fun i => nI (vx i)), ia (rA 5) (rK9 5) 28 (fun i => nI (rr i)), ia (rA 6) (rK9 6) 28 vv, ia (rA 34) (rK9 34) 8 hd9, ia (rA 29) (rK9 29) 28 (fun i0 => mN (fm i0)), ia (rA 31) (rK9 31) 28 (fun i => nI (dn i)), ia (rA 32) (rK9 32) 28 gv, ia (rA 30) (rK9 30) 28 (fun i => nI (hp i))] ∧ nw U)) (va_Qi (fun (r : Int32) (_ : Unit) => r = 1) (fun _ t9 => va_P (dC, dI) classes [oc ra 8 [.int (nI T), .int (nI Ac), .ref (rA 2), .ref (rA 3), .ref (rA 4), .ref (rA 5), .ref (rA 6), .ref (rA 7), .ref (rA 8), .ref (rA 9), .ref (rA 10), .ref (rA 11), .ref (rA 12), .ref (rA 13), .int ir, .ref (rA 15), .ref (rA 16), .ref (rA 17), .ref (rA 18), .int (nI md), .int (nI wd), .ref (rA 21), .ref (rA 22), .ref (rA 23), .int (nI mn), .ref (rA 25), .int (nI cb), .int mr, .ref (rA 28), .ref (rA 29), .ref (rA 30), .ref (rA 31), .ref (rA 32), .ref (rA 33), .ref (rA 34), .ref (rA 35), .int (nI ld), .int (nI gm), .ref (rA 38), .ref (rA 39), .ref (rA 40), .ref (rA 41), .ref (rA 42), .ref (rA 43), .ref (rA 44), .ref (rA 45), .int (nI my), .ref (rA 47)], ia (rA 33) (rK9 33) 4 (fun i => nI ((updN pcn t (pcn t + 1)) i)), ia (rA 2) (rK9 2) 4 (fun i => nI (zs i)), ia (rA 3) (rK9 3) 28 (fun i => nI (kd i)), ia (rA 4) (rK9 4) 28 (fun i => nI (vx i)), ia (rA 5) (rK9 5) 28 (fun i => nI (rr i)), ia (rA 6) (rK9 6) 28 vv, ia (rA 34) (rK9 34) 8 (upd hd9 (2 * t + rr a) ((0 : Int32))), ia (rA 29) (rK9 29) 28 (fun i0 => mN (fm i0)), ia (rA 31) (rK9 31) 28 (fun i => nI ((updN dn a 1) i)), ia (rA 32) (rK9 32) 28 (upd gv a ((0 : Int32) + vv a)), ia (rA 30) (rK9 30) 28 (fun i => nI ((updN hp a 1) i))] t9.heap ∧ va_K (dC, dI) classes [] t9 ∧ va_D (va_A [oc ra 8 [.int (nI T), .int (nI Ac), .ref (rA 2), .ref (rA 3), .ref (rA 4), .ref (rA 5), .ref (rA 6), .ref (rA 7), .ref (rA 8), .ref (rA 9), .ref (rA 10), .ref (rA 11), .ref (rA 12), .ref (rA 13), .int ir, .ref (rA 15), .ref (rA 16), .ref (rA 17), .ref (rA 18), .int (nI md), .int (nI wd), .ref (rA 21), .ref (rA 22), .ref (rA 23), .int (nI mn), .ref (rA 25), .int (nI cb), .int mr, .ref (rA 28), .ref (rA 29), .ref (rA 30), .ref (rA 31), .ref (rA 32), .ref (rA 33), .ref (rA 34), .ref (rA 35), .int (nI ld), .int (nI gm), .ref (rA 38), .ref (rA 39), .ref (rA 40), .ref (rA 41), .ref (rA 42), .ref (rA 43), .ref (rA 44), .ref (rA 45), .int (nI my), .ref (rA 47)], ia (rA 33) (rK9 33) 4 (fun i => nI (pcn i)), ia (rA 2) (rK9 2) 4 (fun i => nI (zs i)), ia (rA 3) (rK9 3) 28 (fun i => nI (kd i)), ia (rA 4) (rK9 4) 28 (fun i => nI (vx i)), ia (rA 5) (rK9 5) 28 (fun i => nI (rr i)), ia (rA 6) (rK9 6) 28 vv, ia (rA 34) (rK9 34) 8 hd9, ia (rA 29) (rK9 29) 28 (fun i0 => mN (fm i0)), ia (rA 31) (rK9 31) 28 (fun i => nI (dn i)), ia (rA 32) (rK9 32) 28 gv, ia (rA 30) (rK9 30) 28 (fun i => nI (hp i))] sz) [oc ra 8 [.int (nI T), .int (nI Ac), .ref (rA 2), .ref (rA 3), .ref (rA 4), .ref (rA 5), .ref (rA 6), .ref (rA 7), .ref (rA 8), .ref (rA 9), .ref (rA 10), .ref (rA 11), .ref (rA 12), .ref (rA 13), .int ir, .ref (rA 15), .ref (rA 16), .ref (rA 17), .ref (rA 18), .int (nI md), .int (nI wd), .ref (rA 21), .ref (rA 22), .ref (rA 23), .int (nI mn), .ref (rA 25), .int (nI cb), .int mr, .ref (rA 28), .ref (rA 29), .ref (rA 30), .ref (rA 31), .ref (rA 32), .ref (rA 33), .ref (rA 34), .ref (rA 35), .int (nI ld), .int (nI gm), .ref (rA 38), .ref (rA 39), .ref (rA 40), .ref (rA 41), .ref (rA 42), .ref (rA 43), .ref (rA 44), .ref (rA 45), .int (nI my), .ref (rA 47)], ia (rA 33) (rK9 33) 4 (fun i => nI ((updN pcn t (pcn t + 1)) i)), ia (rA 2) (rK9 2) 4 (fun i => nI (zs i)), ia (rA 3) (rK9 3) 28 (fun i => nI (kd i)), ia (rA 4) (rK9 4) 28 (fun i => nI (vx i)), ia (rA 5) (rK9 5) 28 (fun i => nI (rr i)), ia (rA 6) (rK9 6) 28 vv, ia (rA 34) (rK9 34) 8 (upd hd9 (2 * t + rr a) ((0 : Int32))), ia (rA 29) (rK9 29) 28 (fun i0 => mN (fm i0)), ia (rA 31) (rK9 31) 28 (fun i => nI ((updN dn a 1) i)), ia (rA 32) (rK9 32) 28 (upd gv a ((0 : Int32) + vv a)), ia (rA 30) (rK9 30) 28 (fun i => nI ((updN hp a 1) i))]) (va_A [oc ra 8 [.int (nI T), .int (nI Ac), .ref (rA 2), .ref (rA 3), .ref (rA 4), .ref (rA 5), .ref (rA 6), .ref (rA 7), .ref (rA 8), .ref (rA 9), .ref (rA 10), .ref (rA 11), .ref (rA 12), .ref (rA 13), .int ir, .ref (rA 15), .ref (rA 16), .ref (rA 17), .ref (rA 18), .int (nI md), .int (nI wd), .ref (rA 21), .ref (rA 22), .ref (rA 23), .int (nI mn), .ref (rA 25), .int (nI cb), .int mr, .ref (rA 28), .ref (rA 29), .ref (rA 30), .ref (rA 31), .ref (rA 32), .ref (rA 33), .ref (rA 34), .ref (rA 35), .int (nI ld), .int (nI gm), .ref (rA 38), .ref (rA 39), .ref (rA 40), .ref (rA 41), .ref (rA 42), .ref (rA 43), .ref (rA 44), .ref (rA 45), .int (nI my), .ref (rA 47)], ia (rA 33) (rK9 33) 4 (fun i => nI (pcn i)), ia (rA 2) (rK9 2) 4 (fun i => nI (zs i)), ia (rA 3) (rK9 3) 28 (fun i => nI (kd i)), ia (rA 4) (rK9 4) 28 (fun i => nI (vx i)), ia (rA 5) (rK9 5) 28 (fun i => nI (rr i)), ia (rA 6) (rK9 6) 28 vv, ia (rA 34) (rK9 34) 8 hd9, ia (rA 29) (rK9 29) 28 (fun i0 => mN (fm i0)), ia (rA 31) (rK9 31) 28 (fun i => nI (dn i)), ia (rA 32) (rK9 32) 28 gv, ia (rA 30) (rK9 30) 28 (fun i => nI (hp i))] sz)) 0 0 (va_A [oc ra 8 [.int (nI T), .int (nI Ac), .ref (rA 2), .ref (rA 3), .ref (rA 4), .ref (rA 5), .ref (rA 6), .ref (rA 7), .ref (rA 8), .ref (rA 9), .ref (rA 10), .ref (rA 11), .ref (rA 12), .ref (rA 13), .int ir, .ref (rA 15), .ref (rA 16), .ref (rA 17), .ref (rA 18), .int (nI md), .int (nI wd), .ref (rA 21), .ref (rA 22), .ref (rA 23), .int (nI mn), .ref (rA 25), .int (nI cb), .int mr, .ref (rA 28), .ref (rA 29), .ref (rA 30), .ref (rA 31), .ref (rA 32), .ref (rA 33), .ref (rA 34), .ref (rA 35), .int (nI ld), .int (nI gm), .ref (rA 38), .ref (rA 39), .ref (rA 40), .ref (rA 41), .ref (rA 42), .ref (rA 43), .ref (rA 44), .ref (rA 45), .int (nI my), .ref (rA 47)], ia (rA 33) (rK9 33) 4 (fun i => nI (pcn i)), ia (rA 2) (rK9 2) 4 (fun i => nI (zs i)), ia (rA 3) (rK9 3) 28 (fun i => nI (kd i)), ia (rA 4) (rK9 4) 28 (fun i => nI (vx i)), ia (rA 5) (rK9 5) 28 (fun i => nI (rr i)), ia (rA 6) (rK9 6) 28 vv, ia (rA 34) (rK9 34) 8 hd9, ia (rA 29) (rK9 29) 28 (fun i0 => mN (fm i0)), ia (rA 31) (rK9 31) 28 (fun i => nI (dn i)), ia (rA 32) (rK9 32) 28 gv, ia (rA 30) (rK9 30) 28 (fun i => nI (hp i))] sz) := by
  refine Met.ofW (cc := b_Ref_act) (maxL := 6) (ret := (some .boolean)) (by decide) rfl ?_
  intro p e0 s m args below meth c s₁ B hml hv
  obtain ⟨rfl, hsz, hP, hK, hD0, hn⟩ := hv
  have hx := B.exec
  have hb := B.bytes
  have hr := B.returns
  have hw := fun w (h : w ∈ wt) => atoms_spec (ws := w_Ref_act) B.pre w (List.mem_cons_of_mem _ h)
  have hown : s.vm.findClass R_Ref = some m.cls := findClass_of_methodNamed B.named
  have hlocks := B.notSynchronized
  subst hsz
  have hD1 := hD0.self (sz := s.heap.size)
  generalize hAe : va_A [oc ra 8 [.int (nI T), .int (nI Ac), .ref (rA 2), .ref (rA 3), .ref (rA 4), .ref (rA 5), .ref (rA 6), .ref (rA 7), .ref (rA 8), .ref (rA 9), .ref (rA 10), .ref (rA 11), .ref (rA 12), .ref (rA 13), .int ir, .ref (rA 15), .ref (rA 16), .ref (rA 17), .ref (rA 18), .int (nI md), .int (nI wd), .ref (rA 21), .ref (rA 22), .ref (rA 23), .int (nI mn), .ref (rA 25), .int (nI cb), .int mr, .ref (rA 28), .ref (rA 29), .ref (rA 30), .ref (rA 31), .ref (rA 32), .ref (rA 33), .ref (rA 34), .ref (rA 35), .int (nI ld), .int (nI gm), .ref (rA 38), .ref (rA 39), .ref (rA 40), .ref (rA 41), .ref (rA 42), .ref (rA 43), .ref (rA 44), .ref (rA 45), .int (nI my), .ref (rA 47)], ia (rA 33) (rK9 33) 4 (fun i => nI (pcn i)), ia (rA 2) (rK9 2) 4 (fun i => nI (zs i)), ia (rA 3) (rK9 3) 28 (fun i => nI (kd i)), ia (rA 4) (rK9 4) 28 (fun i => nI (vx i)), ia (rA 5) (rK9 5) 28 (fun i => nI (rr i)), ia (rA 6) (rK9 6) 28 vv, ia (rA 34) (rK9 34) 8 hd9, ia (rA 29) (rK9 29) 28 (fun i0 => mN (fm i0)), ia (rA 31) (rK9 31) 28 (fun i => nI (dn i)), ia (rA 32) (rK9 32) 28 gv, ia (rA 30) (rK9 30) 28 (fun i => nI (hp i))] s.heap.size = A at hD1 ⊢
  have hA : ∀ q : Nat, s.heap.size ≤ q → A q := fun q h => by rw [← hAe]; exact Or.inr h
  have hD : dd A [ra, (rA 33), (rA 2), (rA 3), (rA 4), (rA 5), (rA 6), (rA 34), (rA 29), (rA 31), (rA 32), (rA 30)] := dd_of hD1 rfl
  clear hAe hD0 hD1
  have hS : va_S A s.heap s.heap [] := va_S.rf
  replace hP : va_P (dC, dI) classes [oc ra 8 [.int (nI T), .int (nI Ac), .ref (rA 2), .ref (rA 3), .ref (rA 4), .ref (rA 5), .ref (rA 6), .ref (rA 7), .ref (rA 8), .ref (rA 9), .ref (rA 10), .ref (rA 11), .ref (rA 12), .ref (rA 13), .int ir, .ref (rA 15), .ref (rA 16), .ref (rA 17), .ref (rA 18), .int (nI md), .int (nI wd), .ref (rA 21), .ref (rA 22), .ref (rA 23), .int (nI mn), .ref (rA 25), .int (nI cb), .int mr, .ref (rA 28), .ref (rA 29), .ref (rA 30), .ref (rA 31), .ref (rA 32), .ref (rA 33), .ref (rA 34), .ref (rA 35), .int (nI ld), .int (nI gm), .ref (rA 38), .ref (rA 39), .ref (rA 40), .ref (rA 41), .ref (rA 42), .ref (rA 43), .ref (rA 44), .ref (rA 45), .int (nI my), .ref (rA 47)], ia (rA 33) (rK9 33) 4 (fun i => nI (pcn i)), ia (rA 2) (rK9 2) 4 (fun i => nI (zs i)), ia (rA 3) (rK9 3) 28 (fun i => nI (kd i)), ia (rA 4) (rK9 4) 28 (fun i => nI (vx i)), ia (rA 5) (rK9 5) 28 (fun i => nI (rr i)), ia (rA 6) (rK9 6) 28 vv, ia (rA 34) (rK9 34) 8 hd9, ia (rA 29) (rK9 29) 28 (fun i0 => mN (fm i0)), ia (rA 31) (rK9 31) 28 (fun i => nI (dn i)), ia (rA 32) (rK9 32) 28 gv, ia (rA 30) (rK9 30) 28 (fun i => nI (hp i))] s.heap := hP
  have hl := lv_entry ([.ref ra, .int (nI t)]) (n := 6) (Nat.le_of_ble_eq_true rfl)
  rw [lg_entry_eq]
  generalize (lg_sl ([.ref ra, .int (nI t)]) ++ List.replicate (6 - (lg_sl ([.ref ra, .int (nI t)])).length) Slot.unset).toArray = ls at hl ⊢
  replace hl : lv_has ls 6 [(0, .ref ra), (1, .int (nI t))] := hl
  refine lv_bipush (v := 7) hx hb d_Ref_act_0 (by decide) ?_
  refine lv_iload_n hx hb d_Ref_act_2 rfl (lv_at hl 1 rfl) ?_
  refine lv_imul hx hb d_Ref_act_3 ?_
  refine tp_i (y := nI (7 * t)) (by exact pk_mul 7 t) ?_
  refine lv_aload_n hx hb d_Ref_act_4 rfl (lv_at hl 0 rfl) ?_
  refine va_get (D := (dC, dI)) (ci := 8) (v := .ref (rA 33)) (C := R_Ref) (T := F_Ref) (N := 48) hx hb hw i_Ref hown hK hP 0 rfl rfl 33 (by decide) (hw _ m_932) (fun _ h9 => h9) rfl d_Ref_act_5 ?_
  refine lv_iload_n hx hb d_Ref_act_8 rfl (lv_at hl 1 rfl) ?_
  refine va_iald (D := (dC, dI)) hx hb hK hP 1 0 rfl rfl (i := nI t) (pk_in t 4 (by omega)) d_Ref_act_9 ?_
  refine tp_i (y := nI (pcn t)) (by rw [show (nI t : Int32).toNatClampNeg = t from pk_cl t]) ?_
  refine lv_iadd hx hb d_Ref_act_10 ?_
  refine tp_i (y := nI (7 * t + (pcn t))) (by exact nI_add (7 * t) (pcn t)) ?_
  refine tp_i (y := nI a) (by rw [ha]) ?_
  refine lv_istore_n (lv' := [(2, .int (nI a)), (0, .ref ra), (1, .int (nI t))]) hx hb d_Ref_act_11 rfl hl (by decide) rfl ?_
  clear hl ls
  intro ls hl
  refine lv_aload_n hx hb d_Ref_act_12 rfl (lv_at hl 1 rfl) ?_
  refine va_get (D := (dC, dI)) (ci := 8) (v := .ref (rA 3)) (C := R_Ref) (T := F_Ref) (N := 48) hx hb hw i_Ref hown hK hP 0 rfl rfl 3 (by decide) (hw _ m_902) (fun _ h9 => h9) rfl d_Ref_act_13 ?_
  refine lv_iload_n hx hb d_Ref_act_16 rfl (lv_at hl 0 rfl) ?_
  refine va_iald (D := (dC, dI)) hx hb hK hP 3 2 rfl rfl (i := nI a) (pk_in a 28 (by omega)) d_Ref_act_17 ?_
  refine tp_i (y := nI (kd a)) (by rw [show (nI a : Int32).toNatClampNeg = a from pk_cl a]) ?_
  refine tp_i (y := 0) (by rw [hk]; rfl) ?_
  refine lv_istore_n (lv' := [(3, .int 0), (2, .int (nI a)), (0, .ref ra), (1, .int (nI t))]) hx hb d_Ref_act_18 rfl hl (by decide) rfl ?_
  clear hl ls
  intro ls hl
  refine lv_iconst (v := 2) hx hb d_Ref_act_19 (by decide) ?_
  refine lv_iload_n hx hb d_Ref_act_20 rfl (lv_at hl 3 rfl) ?_
  refine lv_imul hx hb d_Ref_act_21 ?_
  refine tp_i (y := nI (2 * t)) (by exact pk_mul 2 t) ?_
  refine lv_aload_n hx hb d_Ref_act_22 rfl (lv_at hl 2 rfl) ?_
  refine va_get (D := (dC, dI)) (ci := 8) (v := .ref (rA 5)) (C := R_Ref) (T := F_Ref) (N := 48) hx hb hw i_Ref hown hK hP 0 rfl rfl 5 (by decide) (hw _ m_904) (fun _ h9 => h9) rfl d_Ref_act_23 ?_
  refine lv_iload_n hx hb d_Ref_act_26 rfl (lv_at hl 1 rfl) ?_
  refine va_iald (D := (dC, dI)) hx hb hK hP 5 4 rfl rfl (i := nI a) (pk_in a 28 (by omega)) d_Ref_act_27 ?_
  refine tp_i (y := nI (rr a)) (by rw [show (nI a : Int32).toNatClampNeg = a from pk_cl a]) ?_
  refine lv_iadd hx hb d_Ref_act_28 ?_
  refine tp_i (y := nI (2 * t + (rr a))) (by exact nI_add (2 * t) (rr a)) ?_
  refine lv_istore (lv' := [(4, .int (nI (2 * t + (rr a)))), (3, .int 0), (2, .int (nI a)), (0, .ref ra), (1, .int (nI t))]) hx hb d_Ref_act_29 hl (by decide) rfl ?_
  clear hl ls
  intro ls hl
  refine lv_iload_n hx hb d_Ref_act_31 rfl (lv_at hl 1 rfl) ?_
  refine lv_iconst (v := 5) hx hb d_Ref_act_32 (by decide) ?_
  refine lv_icmp_ne (tgt := 110) hx hb d_Ref_act_33 (by decide) (fun c_1 => ?_) (fun c_1 => absurd c_1 (by decide))
  refine tp_pc (pc' := 110) (by rfl) ?_
  refine lv_iconst (v := 0) hx hb d_Ref_act_110 (by decide) ?_
  refine lv_istore (lv' := [(5, .int 0), (4, .int (nI (2 * t + (rr a)))), (3, .int 0), (2, .int (nI a)), (0, .ref ra), (1, .int (nI t))]) hx hb d_Ref_act_111 hl (by decide) rfl ?_
  clear hl ls
  intro ls hl
  refine lv_iload_n hx hb d_Ref_act_113 rfl (lv_at hl 2 rfl) ?_
  refine tp_i (y := nI 0) rfl ?_
  obtain ⟨hPc, hDc, hFc⟩ := cut3 (wc := []) hP hD rfl hS hA [] (by decide +kernel) rfl
  have hKc := hK.sub (tys' := []) [] rfl
  refine va_calli (va_runS (As := [.int (nI 0)]) (rest := []) ⟨hx, hb, hml, hown, hw⟩ (gen_Ref_takes l dC dI 0 (by decide) s.heap.size) (cw_S 1 hw g_Ref_takes rfl rfl rfl (hw _ m_109) (hw _ m_1190) (hw _ m_1191) (by decide +kernel) ⟨Nat.le_of_ble_eq_true rfl, Nat.le_of_ble_eq_true rfl⟩) ⟨fun a U g mk q => by obtain ⟨q0, q1, qP, qK, qD, qN⟩ := q; exact ⟨q0, q1, qP, va_K.moved (u := U) (U := U.calling g mk a) (Vm.Alike.refl U.vm) qK, qD, nw_call qN⟩, fun U hU hW => ⟨rfl, by rw [hU], by rw [hU]; exact hPc, va_K.moved hW.alike hKc, hDc.weaken (fun _ _ _ _ => trivial), nw_warm hW hn⟩⟩ rfl rfl hl.1 rfl (lv_room (Nat.le_of_ble_eq_true rfl)) d_Ref_act_114 ⟨Nat.le_of_ble_eq_true rfl, Nat.le_of_ble_eq_true rfl⟩) hS (fun q _ h => hFc q h) hFc ?_
  intro r_2 u t9 H1 locs1 ht9 hvm hw1 hB hz1 hk1 hS1
  obtain ⟨hP1, hK1, hD1⟩ := hB
  rw [ht9] at hP1
  replace hK1 := va_K.moved hvm.symm hK1
  have hPD := join3 hP hD rfl [] [0, 1, 2, 3, 4, 5, 6, 7, 8, 9, 10, 11] rfl (by rfl) (by decide +kernel) (by decide +kernel) hk1 hFc hP1 hD1
  replace hK : va_K (dC, dI) classes [((rK9 33), .int), ((rK9 2), .int), ((rK9 3), .int), ((rK9 4), .int), ((rK9 5), .int), ((rK9 6), .int), ((rK9 34), .int), ((rK9 29), .int), ((rK9 31), .boolean), ((rK9 32), .int), ((rK9 30), .boolean)] s := hK.app hK1
  clear hP1 hK1 hD1 hk1 hz1 hFc hKc hDc hPc hvm ht9 hP hS t9
  have hP : va_P (dC, dI) classes [oc ra 8 [.int (nI T), .int (nI Ac), .ref (rA 2), .ref (rA 3), .ref (rA 4), .ref (rA 5), .ref (rA 6), .ref (rA 7), .ref (rA 8), .ref (rA 9), .ref (rA 10), .ref (rA 11), .ref (rA 12), .ref (rA 13), .int ir, .ref (rA 15), .ref (rA 16), .ref (rA 17), .ref (rA 18), .int (nI md), .int (nI wd), .ref (rA 21), .ref (rA 22), .ref (rA 23), .int (nI mn), .ref (rA 25), .int (nI cb), .int mr, .ref (rA 28), .ref (rA 29), .ref (rA 30), .ref (rA 31), .ref (rA 32), .ref (rA 33), .ref (rA 34), .ref (rA 35), .int (nI ld), .int (nI gm), .ref (rA 38), .ref (rA 39), .ref (rA 40), .ref (rA 41), .ref (rA 42), .ref (rA 43), .ref (rA 44), .ref (rA 45), .int (nI my), .ref (rA 47)], ia (rA 33) (rK9 33) 4 (fun i => nI (pcn i)), ia (rA 2) (rK9 2) 4 (fun i => nI (zs i)), ia (rA 3) (rK9 3) 28 (fun i => nI (kd i)), ia (rA 4) (rK9 4) 28 (fun i => nI (vx i)), ia (rA 5) (rK9 5) 28 (fun i => nI (rr i)), ia (rA 6) (rK9 6) 28 vv, ia (rA 34) (rK9 34) 8 hd9, ia (rA 29) (rK9 29) 28 (fun i0 => mN (fm i0)), ia (rA 31) (rK9 31) 28 (fun i => nI (dn i)), ia (rA 32) (rK9 32) 28 gv, ia (rA 30) (rK9 30) 28 (fun i => nI (hp i))] H1 := hPD.1
  replace hD : dd A [ra, (rA 33), (rA 2), (rA 3), (rA 4), (rA 5), (rA 6), (rA 34), (rA 29), (rA 31), (rA 32), (rA 30)] := dd_of hPD.2 rfl
  clear hPD
  revert H1 locs1
  intro H locs hS hP
  refine tp_i (y := 1) (hw1.trans (if_pos (by decide))) ?_
  clear hw1 r_2 u
  refine tp_pc (pc' := 117) (by rfl) ?_
  refine lv_if_eq (tgt := 158) hx hb d_Ref_act_117 (by decide) (fun c_3 => absurd c_3 (by decide)) (fun c_3 => ?_)
  refine tp_pc (pc' := 120) (by rfl) ?_
  refine lv_aload_n hx hb d_Ref_act_120 rfl (lv_at hl 4 rfl) ?_
  refine va_get (D := (dC, dI)) (ci := 8) (v := .ref (rA 29)) (C := R_Ref) (T := F_Ref) (N := 48) hx hb hw i_Ref hown hK hP 0 rfl rfl 29 (by decide) (hw _ m_928) (fun _ h9 => h9) rfl d_Ref_act_121 ?_
  refine lv_iload_n hx hb d_Ref_act_124 rfl (lv_at hl 3 rfl) ?_
  refine va_iald (D := (dC, dI)) hx hb hK hP 8 7 rfl rfl (i := nI a) (pk_in a 28 (by omega)) d_Ref_act_125 ?_
  refine tp_i (y := (fun i0 => mN (fm i0)) a) (by rw [show (nI a : Int32).toNatClampNeg = a from pk_cl a]) ?_
  refine tp_i (y := -1) (show mN (fm a) = -1 from by rw [hf0]; rfl) ?_
  refine lv_if_lt (tgt := 158) hx hb d_Ref_act_126 (by decide) (fun c_4 => ?_) (fun c_4 => absurd c_4 (by decide))
  refine tp_pc (pc' := 158) (by rfl) ?_
  refine lv_aload_n hx hb d_Ref_act_158 rfl (lv_at hl 4 rfl) ?_
  refine va_get (D := (dC, dI)) (ci := 8) (v := .ref (rA 30)) (C := R_Ref) (T := F_Ref) (N := 48) hx hb hw i_Ref hown hK hP 0 rfl rfl 30 (by decide) (hw _ m_929) (fun _ h9 => h9) rfl d_Ref_act_159 ?_
  refine lv_iload_n hx hb d_Ref_act_162 rfl (lv_at hl 3 rfl) ?_
  refine lv_iconst (v := 1) hx hb d_Ref_act_163 (by decide) ?_
  refine tp_i (y := nI 1) rfl ?_
  refine va_zast (D := (dC, dI)) hx hb hK hP (dd_D hD rfl) hS 11 10 rfl rfl (i := nI a) (x := nI 1) (pk_in a 28 (by omega)) d_Ref_act_164 ?_
  clear hP hS locs H
  intro H locs hP _ hS
  rw [show (nI a : Int32).toNatClampNeg = a from pk_cl a] at hP
  rw [show vp_nar .boolean (nI 1) = (nI 1) from by decide] at hP
  rw [show upd (fun i => nI (hp i)) a (nI 1) = fun i => nI (updN hp a 1 i) from upd_nI] at hP
  replace hP : va_P (dC, dI) classes [oc ra 8 [.int (nI T), .int (nI Ac), .ref (rA 2), .ref (rA 3), .ref (rA 4), .ref (rA 5), .ref (rA 6), .ref (rA 7), .ref (rA 8), .ref (rA 9), .ref (rA 10), .ref (rA 11), .ref (rA 12), .ref (rA 13), .int ir, .ref (rA 15), .ref (rA 16), .ref (rA 17), .ref (rA 18), .int (nI md), .int (nI wd), .ref (rA 21), .ref (rA 22), .ref (rA 23), .int (nI mn), .ref (rA 25), .int (nI cb), .int mr, .ref (rA 28), .ref (rA 29), .ref (rA 30), .ref (rA 31), .ref (rA 32), .ref (rA 33), .ref (rA 34), .ref (rA 35), .int (nI ld), .int (nI gm), .ref (rA 38), .ref (rA 39), .ref (rA 40), .ref (rA 41), .ref (rA 42), .ref (rA 43), .ref (rA 44), .ref (rA 45), .int (nI my), .ref (rA 47)], ia (rA 33) (rK9 33) 4 (fun i => nI (pcn i)), ia (rA 2) (rK9 2) 4 (fun i => nI (zs i)), ia (rA 3) (rK9 3) 28 (fun i => nI (kd i)), ia (rA 4) (rK9 4) 28 (fun i => nI (vx i)), ia (rA 5) (rK9 5) 28 (fun i => nI (rr i)), ia (rA 6) (rK9 6) 28 vv, ia (rA 34) (rK9 34) 8 hd9, ia (rA 29) (rK9 29) 28 (fun i0 => mN (fm i0)), ia (rA 31) (rK9 31) 28 (fun i => nI (dn i)), ia (rA 32) (rK9 32) 28 gv, ia (rA 30) (rK9 30) 28 (fun i => nI ((updN hp a 1) i))] H := hP
  refine tp_pc (pc' := 165) (by rfl) ?_
  refine lv_aload_n hx hb d_Ref_act_165 rfl (lv_at hl 4 rfl) ?_
  refine va_get (D := (dC, dI)) (ci := 8) (v := .ref (rA 31)) (C := R_Ref) (T := F_Ref) (N := 48) hx hb hw i_Ref hown hK hP 0 rfl rfl 31 (by decide) (hw _ m_930) (fun _ h9 => h9) rfl d_Ref_act_166 ?_
  refine lv_iload_n hx hb d_Ref_act_169 rfl (lv_at hl 3 rfl) ?_
  refine lv_iconst (v := 1) hx hb d_Ref_act_170 (by decide) ?_
  refine tp_i (y := nI 1) rfl ?_
  refine va_zast (D := (dC, dI)) hx hb hK hP (dd_D hD rfl) hS 9 8 rfl rfl (i := nI a) (x := nI 1) (pk_in a 28 (by omega)) d_Ref_act_171 ?_
  clear hP hS locs H
  intro H locs hP _ hS
  rw [show (nI a : Int32).toNatClampNeg = a from pk_cl a] at hP
  rw [show vp_nar .boolean (nI 1) = (nI 1) from by decide] at hP
  rw [show upd (fun i => nI (dn i)) a (nI 1) = fun i => nI (updN dn a 1 i) from upd_nI] at hP
  replace hP : va_P (dC, dI) classes [oc ra 8 [.int (nI T), .int (nI Ac), .ref (rA 2), .ref (rA 3), .ref (rA 4), .ref (rA 5), .ref (rA 6), .ref (rA 7), .ref (rA 8), .ref (rA 9), .ref (rA 10), .ref (rA 11), .ref (rA 12), .ref (rA 13), .int ir, .ref (rA 15), .ref (rA 16), .ref (rA 17), .ref (rA 18), .int (nI md), .int (nI wd), .ref (rA 21), .ref (rA 22), .ref (rA 23), .int (nI mn), .ref (rA 25), .int (nI cb), .int mr, .ref (rA 28), .ref (rA 29), .ref (rA 30), .ref (rA 31), .ref (rA 32), .ref (rA 33), .ref (rA 34), .ref (rA 35), .int (nI ld), .int (nI gm), .ref (rA 38), .ref (rA 39), .ref (rA 40), .ref (rA 41), .ref (rA 42), .ref (rA 43), .ref (rA 44), .ref (rA 45), .int (nI my), .ref (rA 47)], ia (rA 33) (rK9 33) 4 (fun i => nI (pcn i)), ia (rA 2) (rK9 2) 4 (fun i => nI (zs i)), ia (rA 3) (rK9 3) 28 (fun i => nI (kd i)), ia (rA 4) (rK9 4) 28 (fun i => nI (vx i)), ia (rA 5) (rK9 5) 28 (fun i => nI (rr i)), ia (rA 6) (rK9 6) 28 vv, ia (rA 34) (rK9 34) 8 hd9, ia (rA 29) (rK9 29) 28 (fun i0 => mN (fm i0)), ia (rA 31) (rK9 31) 28 (fun i => nI ((updN dn a 1) i)), ia (rA 32) (rK9 32) 28 gv, ia (rA 30) (rK9 30) 28 (fun i => nI ((updN hp a 1) i))] H := hP
  refine tp_pc (pc' := 172) (by rfl) ?_
  refine lv_aload_n hx hb d_Ref_act_172 rfl (lv_at hl 4 rfl) ?_
  refine va_get (D := (dC, dI)) (ci := 8) (v := .ref (rA 33)) (C := R_Ref) (T := F_Ref) (N := 48) hx hb hw i_Ref hown hK hP 0 rfl rfl 33 (by decide) (hw _ m_932) (fun _ h9 => h9) rfl d_Ref_act_173 ?_
  refine lv_iload_n hx hb d_Ref_act_176 rfl (lv_at hl 5 rfl) ?_
  refine lv_dup2_11 hx hb d_Ref_act_177 rfl rfl ?_
  refine va_iald (D := (dC, dI)) hx hb hK hP 1 0 rfl rfl (i := nI t) (pk_in t 4 (by omega)) d_Ref_act_178 ?_
  refine tp_i (y := nI (pcn t)) (by rw [show (nI t : Int32).toNatClampNeg = t from pk_cl t]) ?_
  refine lv_iconst (v := 1) hx hb d_Ref_act_179 (by decide) ?_
  refine lv_iadd hx hb d_Ref_act_180 ?_
  refine tp_i (y := nI (pcn t + 1)) (by exact nI_add (pcn t) 1) ?_
  refine va_iast (D := (dC, dI)) hx hb hK hP (dd_D hD rfl) hS 1 0 rfl rfl (i := nI t) (x := nI (pcn t + 1)) (pk_in t 4 (by omega)) d_Ref_act_181 ?_
  clear hP hS locs H
  intro H locs hP _ hS
  rw [show (nI t : Int32).toNatClampNeg = t from pk_cl t] at hP
  rw [show upd (fun i => nI (pcn i)) t (nI (pcn t + 1)) = fun i => nI (updN pcn t (pcn t + 1) i) from upd_nI] at hP
  replace hP : va_P (dC, dI) classes [oc ra 8 [.int (nI T), .int (nI Ac), .ref (rA 2), .ref (rA 3), .ref (rA 4), .ref (rA 5), .ref (rA 6), .ref (rA 7), .ref (rA 8), .ref (rA 9), .ref (rA 10), .ref (rA 11), .ref (rA 12), .ref (rA 13), .int ir, .ref (rA 15), .ref (rA 16), .ref (rA 17), .ref (rA 18), .int (nI md), .int (nI wd), .ref (rA 21), .ref (rA 22), .ref (rA 23), .int (nI mn), .ref (rA 25), .int (nI cb), .int mr, .ref (rA 28), .ref (rA 29), .ref (rA 30), .ref (rA 31), .ref (rA 32), .ref (rA 33), .ref (rA 34), .ref (rA 35), .int (nI ld), .int (nI gm), .ref (rA 38), .ref (rA 39), .ref (rA 40), .ref (rA 41), .ref (rA 42), .ref (rA 43), .ref (rA 44), .ref (rA 45), .int (nI my), .ref (rA 47)], ia (rA 33) (rK9 33) 4 (fun i => nI ((updN pcn t (pcn t + 1)) i)), ia (rA 2) (rK9 2) 4 (fun i => nI (zs i)), ia (rA 3) (rK9 3) 28 (fun i => nI (kd i)), ia (rA 4) (rK9 4) 28 (fun i => nI (vx i)), ia (rA 5) (rK9 5) 28 (fun i => nI (rr i)), ia (rA 6) (rK9 6) 28 vv, ia (rA 34) (rK9 34) 8 hd9, ia (rA 29) (rK9 29) 28 (fun i0 => mN (fm i0)), ia (rA 31) (rK9 31) 28 (fun i => nI ((updN dn a 1) i)), ia (rA 32) (rK9 32) 28 gv, ia (rA 30) (rK9 30) 28 (fun i => nI ((updN hp a 1) i))] H := hP
  refine tp_pc (pc' := 182) (by rfl) ?_
  refine lv_iload_n hx hb d_Ref_act_182 rfl (lv_at hl 2 rfl) ?_
  refine lv_iconst (v := 2) hx hb d_Ref_act_183 (by decide) ?_
  refine lv_icmp_ne (tgt := 210) hx hb d_Ref_act_184 (by decide) (fun c_5 => ?_) (fun c_5 => absurd c_5 (by decide))
  refine tp_pc (pc' := 210) (by rfl) ?_
  refine lv_iload_n hx hb d_Ref_act_210 rfl (lv_at hl 2 rfl) ?_
  refine lv_iconst (v := 1) hx hb d_Ref_act_211 (by decide) ?_
  refine lv_icmp_ne (tgt := 230) hx hb d_Ref_act_212 (by decide) (fun c_6 => ?_) (fun c_6 => absurd c_6 (by decide))
  refine tp_pc (pc' := 230) (by rfl) ?_
  refine lv_iload_n hx hb d_Ref_act_230 rfl (lv_at hl 2 rfl) ?_
  refine tp_i (y := nI 0) rfl ?_
  obtain ⟨hPc, hDc, hFc⟩ := cut3 (wc := []) hP hD rfl hS hA [] (by decide +kernel) rfl
  have hKc := hK.sub (tys' := []) [] rfl
  refine va_calli (va_runS (As := [.int (nI 0)]) (rest := []) ⟨hx, hb, hml, hown, hw⟩ (gen_Ref_takes l dC dI 0 (by decide) H.size) (cw_S 1 hw g_Ref_takes rfl rfl rfl (hw _ m_109) (hw _ m_1190) (hw _ m_1191) (by decide +kernel) ⟨Nat.le_of_ble_eq_true rfl, Nat.le_of_ble_eq_true rfl⟩) ⟨fun a U g mk q => by obtain ⟨q0, q1, qP, qK, qD, qN⟩ := q; exact ⟨q0, q1, qP, va_K.moved (u := U) (U := U.calling g mk a) (Vm.Alike.refl U.vm) qK, qD, nw_call qN⟩, fun U hU hW => ⟨rfl, by rw [hU], by rw [hU]; exact hPc, va_K.moved hW.alike hKc, hDc.weaken (fun _ _ _ _ => trivial), nw_warm hW hn⟩⟩ rfl rfl hl.1 rfl (lv_room (Nat.le_of_ble_eq_true rfl)) d_Ref_act_231 ⟨Nat.le_of_ble_eq_true rfl, Nat.le_of_ble_eq_true rfl⟩) hS (fun q _ h => hFc q h) hFc ?_
  intro r_7 u t9 H1 locs1 ht9 hvm hw1 hB hz1 hk1 hS1
  obtain ⟨hP1, hK1, hD1⟩ := hB
  rw [ht9] at hP1
  replace hK1 := va_K.moved hvm.symm hK1
  have hPD := join3 hP hD rfl [] [0, 1, 2, 3, 4, 5, 6, 7, 8, 9, 10, 11] rfl (by rfl) (by decide +kernel) (by decide +kernel) hk1 hFc hP1 hD1
  replace hK : va_K (dC, dI) classes [((rK9 33), .int), ((rK9 2), .int), ((rK9 3), .int), ((rK9 4), .int), ((rK9 5), .int), ((rK9 6), .int), ((rK9 34), .int), ((rK9 29), .int), ((rK9 31), .boolean), ((rK9 32), .int), ((rK9 30), .boolean)] s := hK.app hK1
  clear hP1 hK1 hD1 hk1 hz1 hFc hKc hDc hPc hvm ht9 hP hS t9 locs H
  have hP : va_P (dC, dI) classes [oc ra 8 [.int (nI T), .int (nI Ac), .ref (rA 2), .ref (rA 3), .ref (rA 4), .ref (rA 5), .ref (rA 6), .ref (rA 7), .ref (rA 8), .ref (rA 9), .ref (rA 10), .ref (rA 11), .ref (rA 12), .ref (rA 13), .int ir, .ref (rA 15), .ref (rA 16), .ref (rA 17), .ref (rA 18), .int (nI md), .int (nI wd), .ref (rA 21), .ref (rA 22), .ref (rA 23), .int (nI mn), .ref (rA 25), .int (nI cb), .int mr, .ref (rA 28), .ref (rA 29), .ref (rA 30), .ref (rA 31), .ref (rA 32), .ref (rA 33), .ref (rA 34), .ref (rA 35), .int (nI ld), .int (nI gm), .ref (rA 38), .ref (rA 39), .ref (rA 40), .ref (rA 41), .ref (rA 42), .ref (rA 43), .ref (rA 44), .ref (rA 45), .int (nI my), .ref (rA 47)], ia (rA 33) (rK9 33) 4 (fun i => nI ((updN pcn t (pcn t + 1)) i)), ia (rA 2) (rK9 2) 4 (fun i => nI (zs i)), ia (rA 3) (rK9 3) 28 (fun i => nI (kd i)), ia (rA 4) (rK9 4) 28 (fun i => nI (vx i)), ia (rA 5) (rK9 5) 28 (fun i => nI (rr i)), ia (rA 6) (rK9 6) 28 vv, ia (rA 34) (rK9 34) 8 hd9, ia (rA 29) (rK9 29) 28 (fun i0 => mN (fm i0)), ia (rA 31) (rK9 31) 28 (fun i => nI ((updN dn a 1) i)), ia (rA 32) (rK9 32) 28 gv, ia (rA 30) (rK9 30) 28 (fun i => nI ((updN hp a 1) i))] H1 := hPD.1
  replace hD : dd A [ra, (rA 33), (rA 2), (rA 3), (rA 4), (rA 5), (rA 6), (rA 34), (rA 29), (rA 31), (rA 32), (rA 30)] := dd_of hPD.2 rfl
  clear hPD
  revert H1 locs1
  intro H locs hS hP
  refine tp_i (y := 1) (hw1.trans (if_pos (by decide))) ?_
  clear hw1 r_7 u
  refine tp_pc (pc' := 234) (by rfl) ?_
  refine lv_if_eq (tgt := 261) hx hb d_Ref_act_234 (by decide) (fun c_8 => absurd c_8 (by decide)) (fun c_8 => ?_)
  refine tp_pc (pc' := 237) (by rfl) ?_
  refine lv_aload_n hx hb d_Ref_act_237 rfl (lv_at hl 4 rfl) ?_
  refine va_get (D := (dC, dI)) (ci := 8) (v := .ref (rA 34)) (C := R_Ref) (T := F_Ref) (N := 48) hx hb hw i_Ref hown hK hP 0 rfl rfl 34 (by decide) (hw _ m_933) (fun _ h9 => h9) rfl d_Ref_act_238 ?_
  refine lv_iload hx hb d_Ref_act_241 (lv_at hl 1 rfl) ?_
  refine lv_iload hx hb d_Ref_act_243 (lv_at hl 0 rfl) ?_
  refine va_iast (D := (dC, dI)) hx hb hK hP (dd_D hD rfl) hS 7 6 rfl rfl (i := nI (2 * t + (rr a))) (x := 0) (pk_in (2 * t + (rr a)) 8 (by omega)) d_Ref_act_245 ?_
  clear hP hS locs H
  intro H locs hP _ hS
  rw [show (nI (2 * t + (rr a)) : Int32).toNatClampNeg = 2 * t + (rr a) from pk_cl (2 * t + (rr a))] at hP
  replace hP : va_P (dC, dI) classes [oc ra 8 [.int (nI T), .int (nI Ac), .ref (rA 2), .ref (rA 3), .ref (rA 4), .ref (rA 5), .ref (rA 6), .ref (rA 7), .ref (rA 8), .ref (rA 9), .ref (rA 10), .ref (rA 11), .ref (rA 12), .ref (rA 13), .int ir, .ref (rA 15), .ref (rA 16), .ref (rA 17), .ref (rA 18), .int (nI md), .int (nI wd), .ref (rA 21), .ref (rA 22), .ref (rA 23), .int (nI mn), .ref (rA 25), .int (nI cb), .int mr, .ref (rA 28), .ref (rA 29), .ref (rA 30), .ref (rA 31), .ref (rA 32), .ref (rA 33), .ref (rA 34), .ref (rA 35), .int (nI ld), .int (nI gm), .ref (rA 38), .ref (rA 39), .ref (rA 40), .ref (rA 41), .ref (rA 42), .ref (rA 43), .ref (rA 44), .ref (rA 45), .int (nI my), .ref (rA 47)], ia (rA 33) (rK9 33) 4 (fun i => nI ((updN pcn t (pcn t + 1)) i)), ia (rA 2) (rK9 2) 4 (fun i => nI (zs i)), ia (rA 3) (rK9 3) 28 (fun i => nI (kd i)), ia (rA 4) (rK9 4) 28 (fun i => nI (vx i)), ia (rA 5) (rK9 5) 28 (fun i => nI (rr i)), ia (rA 6) (rK9 6) 28 vv, ia (rA 34) (rK9 34) 8 (upd hd9 (2 * t + (rr a)) 0), ia (rA 29) (rK9 29) 28 (fun i0 => mN (fm i0)), ia (rA 31) (rK9 31) 28 (fun i => nI ((updN dn a 1) i)), ia (rA 32) (rK9 32) 28 gv, ia (rA 30) (rK9 30) 28 (fun i => nI ((updN hp a 1) i))] H := hP
  refine tp_pc (pc' := 246) (by rfl) ?_
  refine lv_aload_n hx hb d_Ref_act_246 rfl (lv_at hl 4 rfl) ?_
  refine va_get (D := (dC, dI)) (ci := 8) (v := .ref (rA 32)) (C := R_Ref) (T := F_Ref) (N := 48) hx hb hw i_Ref hown hK hP 0 rfl rfl 32 (by decide) (hw _ m_931) (fun _ h9 => h9) rfl d_Ref_act_247 ?_
  refine lv_iload_n hx hb d_Ref_act_250 rfl (lv_at hl 3 rfl) ?_
  refine lv_iload hx hb d_Ref_act_251 (lv_at hl 0 rfl) ?_
  refine lv_aload_n hx hb d_Ref_act_253 rfl (lv_at hl 4 rfl) ?_
  refine va_get (D := (dC, dI)) (ci := 8) (v := .ref (rA 6)) (C := R_Ref) (T := F_Ref) (N := 48) hx hb hw i_Ref hown hK hP 0 rfl rfl 6 (by decide) (hw _ m_905) (fun _ h9 => h9) rfl d_Ref_act_254 ?_
  refine lv_iload_n hx hb d_Ref_act_257 rfl (lv_at hl 3 rfl) ?_
  refine va_iald (D := (dC, dI)) hx hb hK hP 6 5 rfl rfl (i := nI a) (pk_in a 28 (by omega)) d_Ref_act_258 ?_
  refine tp_i (y := vv a) (by rw [show (nI a : Int32).toNatClampNeg = a from pk_cl a]) ?_
  refine lv_iadd hx hb d_Ref_act_259 ?_
  refine tp_i (y := 0 + (vv a)) rfl ?_
  refine va_iast (D := (dC, dI)) hx hb hK hP (dd_D hD rfl) hS 10 9 rfl rfl (i := nI a) (x := 0 + (vv a)) (pk_in a 28 (by omega)) d_Ref_act_260 ?_
  clear hP hS locs H
  intro H locs hP _ hS
  rw [show (nI a : Int32).toNatClampNeg = a from pk_cl a] at hP
  replace hP : va_P (dC, dI) classes [oc ra 8 [.int (nI T), .int (nI Ac), .ref (rA 2), .ref (rA 3), .ref (rA 4), .ref (rA 5), .ref (rA 6), .ref (rA 7), .ref (rA 8), .ref (rA 9), .ref (rA 10), .ref (rA 11), .ref (rA 12), .ref (rA 13), .int ir, .ref (rA 15), .ref (rA 16), .ref (rA 17), .ref (rA 18), .int (nI md), .int (nI wd), .ref (rA 21), .ref (rA 22), .ref (rA 23), .int (nI mn), .ref (rA 25), .int (nI cb), .int mr, .ref (rA 28), .ref (rA 29), .ref (rA 30), .ref (rA 31), .ref (rA 32), .ref (rA 33), .ref (rA 34), .ref (rA 35), .int (nI ld), .int (nI gm), .ref (rA 38), .ref (rA 39), .ref (rA 40), .ref (rA 41), .ref (rA 42), .ref (rA 43), .ref (rA 44), .ref (rA 45), .int (nI my), .ref (rA 47)], ia (rA 33) (rK9 33) 4 (fun i => nI ((updN pcn t (pcn t + 1)) i)), ia (rA 2) (rK9 2) 4 (fun i => nI (zs i)), ia (rA 3) (rK9 3) 28 (fun i => nI (kd i)), ia (rA 4) (rK9 4) 28 (fun i => nI (vx i)), ia (rA 5) (rK9 5) 28 (fun i => nI (rr i)), ia (rA 6) (rK9 6) 28 vv, ia (rA 34) (rK9 34) 8 (upd hd9 (2 * t + (rr a)) 0), ia (rA 29) (rK9 29) 28 (fun i0 => mN (fm i0)), ia (rA 31) (rK9 31) 28 (fun i => nI ((updN dn a 1) i)), ia (rA 32) (rK9 32) 28 (upd gv a (0 + (vv a))), ia (rA 30) (rK9 30) 28 (fun i => nI ((updN hp a 1) i))] H := hP
  refine tp_pc (pc' := 261) (by rfl) ?_
  refine lv_iconst (v := 1) hx hb d_Ref_act_261 (by decide) ?_
  replace hP : va_P (dC, dI) classes [oc ra 8 [.int (nI T), .int (nI Ac), .ref (rA 2), .ref (rA 3), .ref (rA 4), .ref (rA 5), .ref (rA 6), .ref (rA 7), .ref (rA 8), .ref (rA 9), .ref (rA 10), .ref (rA 11), .ref (rA 12), .ref (rA 13), .int ir, .ref (rA 15), .ref (rA 16), .ref (rA 17), .ref (rA 18), .int (nI md), .int (nI wd), .ref (rA 21), .ref (rA 22), .ref (rA 23), .int (nI mn), .ref (rA 25), .int (nI cb), .int mr, .ref (rA 28), .ref (rA 29), .ref (rA 30), .ref (rA 31), .ref (rA 32), .ref (rA 33), .ref (rA 34), .ref (rA 35), .int (nI ld), .int (nI gm), .ref (rA 38), .ref (rA 39), .ref (rA 40), .ref (rA 41), .ref (rA 42), .ref (rA 43), .ref (rA 44), .ref (rA 45), .int (nI my), .ref (rA 47)], ia (rA 33) (rK9 33) 4 (fun i => nI ((updN pcn t (pcn t + 1)) i)), ia (rA 2) (rK9 2) 4 (fun i => nI (zs i)), ia (rA 3) (rK9 3) 28 (fun i => nI (kd i)), ia (rA 4) (rK9 4) 28 (fun i => nI (vx i)), ia (rA 5) (rK9 5) 28 (fun i => nI (rr i)), ia (rA 6) (rK9 6) 28 vv, ia (rA 34) (rK9 34) 8 (upd hd9 (2 * t + rr a) ((0 : Int32))), ia (rA 29) (rK9 29) 28 (fun i0 => mN (fm i0)), ia (rA 31) (rK9 31) 28 (fun i => nI ((updN dn a 1) i)), ia (rA 32) (rK9 32) 28 (upd gv a ((0 : Int32) + vv a)), ia (rA 30) (rK9 30) 28 (fun i => nI ((updN hp a 1) i))] H := hP
  obtain ⟨hP9, hD9, -⟩ := cut3 (wc := [oc ra 8 [.int (nI T), .int (nI Ac), .ref (rA 2), .ref (rA 3), .ref (rA 4), .ref (rA 5), .ref (rA 6), .ref (rA 7), .ref (rA 8), .ref (rA 9), .ref (rA 10), .ref (rA 11), .ref (rA 12), .ref (rA 13), .int ir, .ref (rA 15), .ref (rA 16), .ref (rA 17), .ref (rA 18), .int (nI md), .int (nI wd), .ref (rA 21), .ref (rA 22), .ref (rA 23), .int (nI mn), .ref (rA 25), .int (nI cb), .int mr, .ref (rA 28), .ref (rA 29), .ref (rA 30), .ref (rA 31), .ref (rA 32), .ref (rA 33), .ref (rA 34), .ref (rA 35), .int (nI ld), .int (nI gm), .ref (rA 38), .ref (rA 39), .ref (rA 40), .ref (rA 41), .ref (rA 42), .ref (rA 43), .ref (rA 44), .ref (rA 45), .int (nI my), .ref (rA 47)], ia (rA 33) (rK9 33) 4 (fun i => nI ((updN pcn t (pcn t + 1)) i)), ia (rA 2) (rK9 2) 4 (fun i => nI (zs i)), ia (rA 3) (rK9 3) 28 (fun i => nI (kd i)), ia (rA 4) (rK9 4) 28 (fun i => nI (vx i)), ia (rA 5) (rK9 5) 28 (fun i => nI (rr i)), ia (rA 6) (rK9 6) 28 vv, ia (rA 34) (rK9 34) 8 (upd hd9 (2 * t + rr a) ((0 : Int32))), ia (rA 29) (rK9 29) 28 (fun i0 => mN (fm i0)), ia (rA 31) (rK9 31) 28 (fun i => nI ((updN dn a 1) i)), ia (rA 32) (rK9 32) 28 (upd gv a ((0 : Int32) + vv a)), ia (rA 30) (rK9 30) 28 (fun i => nI ((updN hp a 1) i))]) hP hD rfl hS hA [0, 1, 2, 3, 4, 5, 6, 7, 8, 9, 10, 11] (by decide +kernel) rfl
  have hK9 := hK.sub (tys' := []) [] rfl
  refine W.widen (k := 0) (n := 0) (by exact Nat.le_of_ble_eq_true rfl) (by exact Nat.le_of_ble_eq_true rfl) ?_
  exact W.zret (v := 1) (ty := .boolean) hx hb hr (by decide) (fun t9 ht9 hW => ⟨⟨1, (), rfl, rfl, by rw [ht9]; exact hP9, va_K.moved hW.alike hK9, hD9⟩, hS.F ht9⟩) hS.2.2 d_Ref_act_262
set_option maxHeartbeats 4000000 in
set_option maxRecDepth 100000 in
theorem gen_Ref_act_0w (l : Launch) (dC : Nat → ClassId) (dI : Nat → Nat → Nat) (ra : Nat) (rA : Nat → Nat) (rK9 : Nat → ClassId) (T Ac md wd mn cb ld gm my : Nat) (ir mr : Int32) (t a : Nat) (pcn zs kd vx rr fm dn hp : Nat → Nat) (vv hd9 gv : Nat → Int32) (f9 : Nat) (ht : t < 4) (ha : a = 7 * t + pcn t) (hpc : pcn t < zs t) (hzt : zs t ≤ 7) (hvx : vx a < 4) (hrr : rr a < 2) (hk : kd a = 0) (hfa : fm a = f9 + 1) (hf9 : f9 < 28) (hdn : dn f9 = 0) (sz : Nat) : Met l y_Ref_act w_Ref_act ({ frames := 1, cells := 0, slots := 0, locals := 40 }) (va_Pc [.ref ra, .int (nI t)] (fun U => U.heap.size = sz ∧ va_P (dC, dI) classes [oc ra 8 [.int (nI T), .int (nI Ac), .ref (rA 2), .ref (rA 3), .ref (rA 4), .ref (rA 5), .ref (rA 6), .ref (rA 7), .ref (rA 8), .ref (rA 9), .ref (rA 10), .ref (rA 11), .ref (rA 12), .ref (rA 13), .int ir, .ref (rA 15), .ref (rA 16), .ref (rA 17), .ref (rA 18), .int (nI md), .int (nI wd), .ref (rA 21), .ref (rA 22), .ref (rA 23), .int (nI mn), .ref (rA 25), .int (nI cb), .int mr, .ref (rA 28), .ref (rA 29), .ref (rA 30), .ref (rA 31), .ref (rA 32), .ref (rA 33), .ref (rA 34), .ref (rA 35), .int (nI ld), .int (nI gm), .ref (rA 38), .ref (rA 39), .ref (rA 40), .ref (rA 41), .ref (rA 42), .ref (rA 43), .ref (rA 44), .ref (rA 45), .int (nI my), .ref (rA 47)], ia (rA 33) (rK9 33) 4 (fun i => nI (pcn i)), ia (rA 2) (rK9 2) 4 (fun i => nI (zs i)), ia (rA 3) (rK9 3) 28 (fun i => nI (kd i)), ia (rA 4) (rK9 4) 28 (fun i => nI (vx i)), ia (rA 5) (rK9 5) 28 (fun i => nI (rr i)), ia (rA 6) (rK9 6) 28 vv, ia (rA 34) (rK9 34) 8 hd9, ia (rA 29) (rK9 29) 28 (fun i0 => mN (fm i0)), ia (rA 31) (rK9 31) 28 (fun i => nI (dn i)), ia (rA 32) (rK9 32) 28 gv, ia (rA 30) (rK9 30) 28 (fun i => nI (hp i))] U.heap ∧ va_K (dC, dI) classes [((rK9 33), .int), ((rK9 2), .int), ((rK9 3), .int), ((rK9 4), .int), ((rK9 5), .int), ((rK9 6), .int), ((rK9 34), .int), ((rK9 29), .int), ((rK9 31), .boolean), ((rK9 32), .int), ((rK9 30), .boolean)] U ∧ va_D (fun _ => True) [oc ra 8 [.int (nI T), .int (nI Ac), .ref (rA 2), .ref (rA 3), .ref (rA 4), .ref (rA 5), .ref (rA 6), .ref (rA 7), .ref (rA 8), .ref (rA 9), .ref (rA 10), .ref (rA 11), .ref (rA 12), .ref (rA 13), .int ir, .ref (rA 15), .ref (rA 16), .ref (rA 17), .ref (rA 18), .int (nI md), .int (nI wd), .ref (rA 21), .ref (rA 22), .ref (rA 23), .int (nI mn), .ref (rA 25), .int (nI cb), .int mr, .ref (rA 28), .ref (rA 29), .ref (rA 30), .ref (rA 31), .ref (rA 32), .ref (rA 33), .ref (rA 34), .ref (rA 35), .int (nI ld), .int (nI gm), .ref (rA 38), .ref (rA 39), .ref (rA 40), .ref (rA 41), .ref (rA 42), .ref (rA 43), .ref (rA 44), .ref (rA 45), .int (nI my), .ref (rA 47)], ia (rA 33) (rK9 33) 4 (fun i => nI (pcn i)), ia (rA 2) (rK9 2) 4 (fun i => nI (zs i)), ia (rA 3) (rK9 3) 28 (fun i => nI (kd i)), ia (rA 4) (rK9 4) 28 (fun i => nI (vx i)), ia (rA 5) (rK9 5) 28 (fun i => nI (rr i)), ia (rA 6) (rK9 6) 28 vv, ia (rA 34) (rK9 34) 8 hd9, ia (rA 29) (rK9 29) 28 (fun i0 => mN (fm i0)), ia (rA 31) (rK9 31) 28 (fun i => nI (dn i)), ia (rA 32) (rK9 32) 28 gv, ia (rA 30) (rK9 30) 28 (fun i => nI (hp i))] ∧ nw U)) (va_Qi (fun (r : Int32) (_ : Unit) => r = 0) (fun _ t9 => va_P (dC, dI) classes [oc ra 8 [.int (nI T), .int (nI Ac), .ref (rA 2), .ref (rA 3), .ref (rA 4), .ref (rA 5), .ref (rA 6), .ref (rA 7), .ref (rA 8), .ref (rA 9), .ref (rA 10), .ref (rA 11), .ref (rA 12), .ref (rA 13), .int ir, .ref (rA 15), .ref (rA 16), .ref (rA 17), .ref (rA 18), .int (nI md), .int (nI wd), .ref (rA 21), .ref (rA 22), .ref (rA 23), .int (nI mn), .ref (rA 25), .int (nI cb), .int mr, .ref (rA 28), .ref (rA 29), .ref (rA 30), .ref (rA 31), .ref (rA 32), .ref (rA 33), .ref (rA 34), .ref (rA 35), .int (nI ld), .int (nI gm), .ref (rA 38), .ref (rA 39), .ref (rA 40), .ref (rA 41), .ref (rA 42), .ref (rA 43), .ref (rA 44), .ref (rA 45), .int (nI my), .ref (rA 47)], ia (rA 33) (rK9 33) 4 (fun i => nI (pcn i)), ia (rA 2) (rK9 2) 4 (fun i => nI (zs i)), ia (rA 3) (rK9 3) 28 (fun i => nI (kd i)), ia (rA 4) (rK9 4) 28 (fun i => nI (vx i)), ia (rA 5) (rK9 5) 28 (fun i => nI (rr i)), ia (rA 6) (rK9 6) 28 vv, ia (rA 34) (rK9 34) 8 hd9, ia (rA 29) (rK9 29) 28 (fun i0 => mN (fm i0)), ia (rA 31) (rK9 31) 28 (fun i => nI (dn i)), ia (rA 32) (rK9 32) 28 gv, ia (rA 30) (rK9 30) 28 (fun i => nI (hp i))] t9.heap ∧ va_K (dC, dI) classes [] t9 ∧ va_D (va_A [oc ra 8 [.int (nI T), .int (nI Ac), .ref (rA 2), .ref (rA 3), .ref (rA 4), .ref (rA 5), .ref (rA 6), .ref (rA 7), .ref (rA 8), .ref (rA 9), .ref (rA 10), .ref (rA 11), .ref (rA 12), .ref (rA 13), .int ir, .ref (rA 15), .ref (rA 16), .ref (rA 17), .ref (rA 18), .int (nI md), .int (nI wd), .ref (rA 21), .ref (rA 22), .ref (rA 23), .int (nI mn), .ref (rA 25), .int (nI cb), .int mr, .ref (rA 28), .ref (rA 29), .ref (rA 30), .ref (rA 31), .ref (rA 32), .ref (rA 33), .ref (rA 34), .ref (rA 35), .int (nI ld), .int (nI gm), .ref (rA 38), .ref (rA 39), .ref (rA 40), .ref (rA 41), .ref (rA 42), .ref (rA 43), .ref (rA 44), .ref (rA 45), .int (nI my), .ref (rA 47)], ia (rA 33) (rK9 33) 4 (fun i => nI (pcn i)), ia (rA 2) (rK9 2) 4 (fun i => nI (zs i)), ia (rA 3) (rK9 3) 28 (fun i => nI (kd i)), ia (rA 4) (rK9 4) 28 (fun i => nI (vx i)), ia (rA 5) (rK9 5) 28 (fun i => nI (rr i)), ia (rA 6) (rK9 6) 28 vv, ia (rA 34) (rK9 34) 8 hd9, ia (rA 29) (rK9 29) 28 (fun i0 => mN (fm i0)), ia (rA 31) (rK9 31) 28 (fun i => nI (dn i)), ia (rA 32) (rK9 32) 28 gv, ia (rA 30) (rK9 30) 28 (fun i => nI (hp i))] sz) [oc ra 8 [.int (nI T), .int (nI Ac), .ref (rA 2), .ref (rA 3), .ref (rA 4), .ref (rA 5), .ref (rA 6), .ref (rA 7), .ref (rA 8), .ref (rA 9), .ref (rA 10), .ref (rA 11), .ref (rA 12), .ref (rA 13), .int ir, .ref (rA 15), .ref (rA 16), .ref (rA 17), .ref (rA 18), .int (nI md), .int (nI wd), .ref (rA 21), .ref (rA 22), .ref (rA 23), .int (nI mn), .ref (rA 25), .int (nI cb), .int mr, .ref (rA 28), .ref (rA 29), .ref (rA 30), .ref (rA 31), .ref (rA 32), .ref (rA 33), .ref (rA 34), .ref (rA 35), .int (nI ld), .int (nI gm), .ref (rA 38), .ref (rA 39), .ref (rA 40), .ref (rA 41), .ref (rA 42), .ref (rA 43), .ref (rA 44), .ref (rA 45), .int (nI my), .ref (rA 47)], ia (rA 33) (rK9 33) 4 (fun i => nI (pcn i)), ia (rA 2) (rK9 2) 4 (fun i => nI (zs i)), ia (rA 3) (rK9 3) 28 (fun i => nI (kd i)), ia (rA 4) (rK9 4) 28 (fun i => nI (vx i)), ia (rA 5) (rK9 5) 28 (fun i => nI (rr i)), ia (rA 6) (rK9 6) 28 vv, ia (rA 34) (rK9 34) 8 hd9, ia (rA 29) (rK9 29) 28 (fun i0 => mN (fm i0)), ia (rA 31) (rK9 31) 28 (fun i => nI (dn i)), ia (rA 32) (rK9 32) 28 gv, ia (rA 30) (rK9 30) 28 (fun i => nI (hp i))]) (va_A [oc ra 8 [.int (nI T), .int (nI Ac), .ref (rA 2), .ref (rA 3), .ref (rA 4), .ref (rA 5), .ref (rA 6), .ref (rA 7), .ref (rA 8), .ref (rA 9), .ref (rA 10), .ref (rA 11), .ref (rA 12), .ref (rA 13), .int ir, .ref (rA 15), .ref (rA 16), .ref (rA 17), .ref (rA 18), .int (nI md), .int (nI wd), .ref (rA 21), .ref (rA 22), .ref (rA 23), .int (nI mn), .ref (rA 25), .int (nI cb), .int mr, .ref (rA 28), .ref (rA 29), .ref (rA 30), .ref (rA 31), .ref (rA 32), .ref (rA 33), .ref (rA 34), .ref (rA 35), .int (nI ld), .int (nI gm), .ref (rA 38), .ref (rA 39), .ref (rA 40), .ref (rA 41), .ref (rA 42), .ref (rA 43), .ref (rA 44), .ref (rA 45), .int (nI my), .ref (rA 47)], ia (rA 33) (rK9 33) 4 (fun i => nI (pcn i)), ia (rA 2) (rK9 2) 4 (fun i => nI (zs i)), ia (rA 3) (rK9 3) 28 (fun i => nI (kd i)), ia (rA 4) (rK9 4) 28 (fun i => nI (vx i)), ia (rA 5) (rK9 5) 28 (fun i => nI (rr i)), ia (rA 6) (rK9 6) 28 vv, ia (rA 34) (rK9 34) 8 hd9, ia (rA 29) (rK9 29) 28 (fun i0 => mN (fm i0)), ia (rA 31) (rK9 31) 28 (fun i => nI (dn i)), ia (rA 32) (rK9 32) 28 gv, ia (rA 30) (rK9 30) 28 (fun i => nI (hp i))] sz)) 0 0 (va_A [oc ra 8 [.int (nI T), .int (nI Ac), .ref (rA 2), .ref (rA 3), .ref (rA 4), .ref (rA 5), .ref (rA 6), .ref (rA 7), .ref (rA 8), .ref (rA 9), .ref (rA 10), .ref (rA 11), .ref (rA 12), .ref (rA 13), .int ir, .ref (rA 15), .ref (rA 16), .ref (rA 17), .ref (rA 18), .int (nI md), .int (nI wd), .ref (rA 21), .ref (rA 22), .ref (rA 23), .int (nI mn), .ref (rA 25), .int (nI cb), .int mr, .ref (rA 28), .ref (rA 29), .ref (rA 30), .ref (rA 31), .ref (rA 32), .ref (rA 33), .ref (rA 34), .ref (rA 35), .int (nI ld), .int (nI gm), .ref (rA 38), .ref (rA 39), .ref (rA 40), .ref (rA 41), .ref (rA 42), .ref (rA 43), .ref (rA 44), .ref (rA 45), .int (nI my), .ref (rA 47)], ia (rA 33) (rK9 33) 4 (fun i => nI (pcn i)), ia (rA 2) (rK9 2) 4 (fun i => nI (zs i)), ia (rA 3) (rK9 3) 28 (fun i => nI (kd i)), ia (rA 4) (rK9 4) 28 (fun i => nI (vx i)), ia (rA 5) (rK9 5) 28 (fun i => nI (rr i)), ia (rA 6) (rK9 6) 28 vv, ia (rA 34) (rK9 34) 8 hd9, ia (rA 29) (rK9 29) 28 (fun i0 => mN (fm i0)), ia (rA 31) (rK9 31) 28 (fun i => nI (dn i)), ia (rA 32) (rK9 32) 28 gv, ia (rA 30) (rK9 30) 28 (fun i => nI (hp i))] sz) := by
  refine Met.ofW (cc := b_Ref_act) (maxL := 6) (ret := (some .boolean)) (by decide) rfl ?_
  intro p e0 s m args below meth c s₁ B hml hv
  obtain ⟨rfl, hsz, hP, hK, hD0, hn⟩ := hv
  have hx := B.exec
  have hb := B.bytes
  have hr := B.returns
  have hw := fun w (h : w ∈ wt) => atoms_spec (ws := w_Ref_act) B.pre w (List.mem_cons_of_mem _ h)
  have hown : s.vm.findClass R_Ref = some m.cls := findClass_of_methodNamed B.named
  have hlocks := B.notSynchronized
  subst hsz
  have hD1 := hD0.self (sz := s.heap.size)
  generalize hAe : va_A [oc ra 8 [.int (nI T), .int (nI Ac), .ref (rA 2), .ref (rA 3), .ref (rA 4), .ref (rA 5), .ref (rA 6), .ref (rA 7), .ref (rA 8), .ref (rA 9), .ref (rA 10), .ref (rA 11), .ref (rA 12), .ref (rA 13), .int ir, .ref (rA 15), .ref (rA 16), .ref (rA 17), .ref (rA 18), .int (nI md), .int (nI wd), .ref (rA 21), .ref (rA 22), .ref (rA 23), .int (nI mn), .ref (rA 25), .int (nI cb), .int mr, .ref (rA 28), .ref (rA 29), .ref (rA 30), .ref (rA 31), .ref (rA 32), .ref (rA 33), .ref (rA 34), .ref (rA 35), .int (nI ld), .int (nI gm), .ref (rA 38), .ref (rA 39), .ref (rA 40), .ref (rA 41), .ref (rA 42), .ref (rA 43), .ref (rA 44), .ref (rA 45), .int (nI my), .ref (rA 47)], ia (rA 33) (rK9 33) 4 (fun i => nI (pcn i)), ia (rA 2) (rK9 2) 4 (fun i => nI (zs i)), ia (rA 3) (rK9 3) 28 (fun i => nI (kd i)), ia (rA 4) (rK9 4) 28 (fun i => nI (vx i)), ia (rA 5) (rK9 5) 28 (fun i => nI (rr i)), ia (rA 6) (rK9 6) 28 vv, ia (rA 34) (rK9 34) 8 hd9, ia (rA 29) (rK9 29) 28 (fun i0 => mN (fm i0)), ia (rA 31) (rK9 31) 28 (fun i => nI (dn i)), ia (rA 32) (rK9 32) 28 gv, ia (rA 30) (rK9 30) 28 (fun i => nI (hp i))] s.heap.size = A at hD1 ⊢
  have hA : ∀ q : Nat, s.heap.size ≤ q → A q := fun q h => by rw [← hAe]; exact Or.inr h
  have hD : dd A [ra, (rA 33), (rA 2), (rA 3), (rA 4), (rA 5), (rA 6), (rA 34), (rA 29), (rA 31), (rA 32), (rA 30)] := dd_of hD1 rfl
  clear hAe hD0 hD1
  have hS : va_S A s.heap s.heap [] := va_S.rf
  replace hP : va_P (dC, dI) classes [oc ra 8 [.int (nI T), .int (nI Ac), .ref (rA 2), .ref (rA 3), .ref (rA 4), .ref (rA 5), .ref (rA 6), .ref (rA 7), .ref (rA 8), .ref (rA 9), .ref (rA 10), .ref (rA 11), .ref (rA 12), .ref (rA 13), .int ir, .ref (rA 15), .ref (rA 16), .ref (rA 17), .ref (rA 18), .int (nI md), .int (nI wd), .ref (rA 21), .ref (rA 22), .ref (rA 23), .int (nI mn), .ref (rA 25), .int (nI cb), .int mr, .ref (rA 28), .ref (rA 29), .ref (rA 30), .ref (rA 31), .ref (rA 32), .ref (rA 33), .ref (rA 34), .ref (rA 35), .int (nI ld), .int (nI gm), .ref (rA 38), .ref (rA 39), .ref (rA 40), .ref (rA 41), .ref (rA 42), .ref (rA 43), .ref (rA 44), .ref (rA 45), .int (nI my), .ref (rA 47)], ia (rA 33) (rK9 33) 4 (fun i => nI (pcn i)), ia (rA 2) (rK9 2) 4 (fun i => nI (zs i)), ia (rA 3) (rK9 3) 28 (fun i => nI (kd i)), ia (rA 4) (rK9 4) 28 (fun i => nI (vx i)), ia (rA 5) (rK9 5) 28 (fun i => nI (rr i)), ia (rA 6) (rK9 6) 28 vv, ia (rA 34) (rK9 34) 8 hd9, ia (rA 29) (rK9 29) 28 (fun i0 => mN (fm i0)), ia (rA 31) (rK9 31) 28 (fun i => nI (dn i)), ia (rA 32) (rK9 32) 28 gv, ia (rA 30) (rK9 30) 28 (fun i => nI (hp i))] s.heap := hP
  have hl := lv_entry ([.ref ra, .int (nI t)]) (n := 6) (Nat.le_of_ble_eq_true rfl)
  rw [lg_entry_eq]
  generalize (lg_sl ([.ref ra, .int (nI t)]) ++ List.replicate (6 - (lg_sl ([.ref ra, .int (nI t)])).length) Slot.unset).toArray = ls at hl ⊢
  replace hl : lv_has ls 6 [(0, .ref ra), (1, .int (nI t))] := hl
  refine lv_bipush (v := 7) hx hb d_Ref_act_0 (by decide) ?_
  refine lv_iload_n hx hb d_Ref_act_2 rfl (lv_at hl 1 rfl) ?_
  refine lv_imul hx hb d_Ref_act_3 ?_
  refine tp_i (y := nI (7 * t)) (by exact pk_mul 7 t) ?_
  refine lv_aload_n hx hb d_Ref_act_4 rfl (lv_at hl 0 rfl) ?_
  refine va_get (D := (dC, dI)) (ci := 8) (v := .ref (rA 33)) (C := R_Ref) (T := F_Ref) (N := 48) hx hb hw i_Ref hown hK hP 0 rfl rfl 33 (by decide) (hw _ m_932) (fun _ h9 => h9) rfl d_Ref_act_5 ?_
  refine lv_iload_n hx hb d_Ref_act_8 rfl (lv_at hl 1 rfl) ?_
  refine va_iald (D := (dC, dI)) hx hb hK hP 1 0 rfl rfl (i := nI t) (pk_in t 4 (by omega)) d_Ref_act_9 ?_
  refine tp_i (y := nI (pcn t)) (by rw [show (nI t : Int32).toNatClampNeg = t from pk_cl t]) ?_
  refine lv_iadd hx hb d_Ref_act_10 ?_
  refine tp_i (y := nI (7 * t + (pcn t))) (by exact nI_add (7 * t) (pcn t)) ?_
  refine tp_i (y := nI a) (by rw [ha]) ?_
  refine lv_istore_n (lv' := [(2, .int (nI a)), (0, .ref ra), (1, .int (nI t))]) hx hb d_Ref_act_11 rfl hl (by decide) rfl ?_
  clear hl ls
  intro ls hl
  refine lv_aload_n hx hb d_Ref_act_12 rfl (lv_at hl 1 rfl) ?_
  refine va_get (D := (dC, dI)) (ci := 8) (v := .ref (rA 3)) (C := R_Ref) (T := F_Ref) (N := 48) hx hb hw i_Ref hown hK hP 0 rfl rfl 3 (by decide) (hw _ m_902) (fun _ h9 => h9) rfl d_Ref_act_13 ?_
  refine lv_iload_n hx hb d_Ref_act_16 rfl (lv_at hl 0 rfl) ?_
  refine va_iald (D := (dC, dI)) hx hb hK hP 3 2 rfl rfl (i := nI a) (pk_in a 28 (by omega)) d_Ref_act_17 ?_
  refine tp_i (y := nI (kd a)) (by rw [show (nI a : Int32).toNatClampNeg = a from pk_cl a]) ?_
  refine tp_i (y := 0) (by rw [hk]; rfl) ?_
  refine lv_istore_n (lv' := [(3, .int 0), (2, .int (nI a)), (0, .ref ra), (1, .int (nI t))]) hx hb d_Ref_act_18 rfl hl (by decide) rfl ?_
  clear hl ls
  intro ls hl
  refine lv_iconst (v := 2) hx hb d_Ref_act_19 (by decide) ?_
  refine lv_iload_n hx hb d_Ref_act_20 rfl (lv_at hl 3 rfl) ?_
  refine lv_imul hx hb d_Ref_act_21 ?_
  refine tp_i (y := nI (2 * t)) (by exact pk_mul 2 t) ?_
  refine lv_aload_n hx hb d_Ref_act_22 rfl (lv_at hl 2 rfl) ?_
  refine va_get (D := (dC, dI)) (ci := 8) (v := .ref (rA 5)) (C := R_Ref) (T := F_Ref) (N := 48) hx hb hw i_Ref hown hK hP 0 rfl rfl 5 (by decide) (hw _ m_904) (fun _ h9 => h9) rfl d_Ref_act_23 ?_
  refine lv_iload_n hx hb d_Ref_act_26 rfl (lv_at hl 1 rfl) ?_
  refine va_iald (D := (dC, dI)) hx hb hK hP 5 4 rfl rfl (i := nI a) (pk_in a 28 (by omega)) d_Ref_act_27 ?_
  refine tp_i (y := nI (rr a)) (by rw [show (nI a : Int32).toNatClampNeg = a from pk_cl a]) ?_
  refine lv_iadd hx hb d_Ref_act_28 ?_
  refine tp_i (y := nI (2 * t + (rr a))) (by exact nI_add (2 * t) (rr a)) ?_
  refine lv_istore (lv' := [(4, .int (nI (2 * t + (rr a)))), (3, .int 0), (2, .int (nI a)), (0, .ref ra), (1, .int (nI t))]) hx hb d_Ref_act_29 hl (by decide) rfl ?_
  clear hl ls
  intro ls hl
  refine lv_iload_n hx hb d_Ref_act_31 rfl (lv_at hl 1 rfl) ?_
  refine lv_iconst (v := 5) hx hb d_Ref_act_32 (by decide) ?_
  refine lv_icmp_ne (tgt := 110) hx hb d_Ref_act_33 (by decide) (fun c_1 => ?_) (fun c_1 => absurd c_1 (by decide))
  refine tp_pc (pc' := 110) (by rfl) ?_
  refine lv_iconst (v := 0) hx hb d_Ref_act_110 (by decide) ?_
  refine lv_istore (lv' := [(5, .int 0), (4, .int (nI (2 * t + (rr a)))), (3, .int 0), (2, .int (nI a)), (0, .ref ra), (1, .int (nI t))]) hx hb d_Ref_act_111 hl (by decide) rfl ?_
  clear hl ls
  intro ls hl
  refine lv_iload_n hx hb d_Ref_act_113 rfl (lv_at hl 2 rfl) ?_
  refine tp_i (y := nI 0) rfl ?_
  obtain ⟨hPc, hDc, hFc⟩ := cut3 (wc := []) hP hD rfl hS hA [] (by decide +kernel) rfl
  have hKc := hK.sub (tys' := []) [] rfl
  refine va_calli (va_runS (As := [.int (nI 0)]) (rest := []) ⟨hx, hb, hml, hown, hw⟩ (gen_Ref_takes l dC dI 0 (by decide) s.heap.size) (cw_S 1 hw g_Ref_takes rfl rfl rfl (hw _ m_109) (hw _ m_1190) (hw _ m_1191) (by decide +kernel) ⟨Nat.le_of_ble_eq_true rfl, Nat.le_of_ble_eq_true rfl⟩) ⟨fun a U g mk q => by obtain ⟨q0, q1, qP, qK, qD, qN⟩ := q; exact ⟨q0, q1, qP, va_K.moved (u := U) (U := U.calling g mk a) (Vm.Alike.refl U.vm) qK, qD, nw_call qN⟩, fun U hU hW => ⟨rfl, by rw [hU], by rw [hU]; exact hPc, va_K.moved hW.alike hKc, hDc.weaken (fun _ _ _ _ => trivial), nw_warm hW hn⟩⟩ rfl rfl hl.1 rfl (lv_room (Nat.le_of_ble_eq_true rfl)) d_Ref_act_114 ⟨Nat.le_of_ble_eq_true rfl, Nat.le_of_ble_eq_true rfl⟩) hS (fun q _ h => hFc q h) hFc ?_
  intro r_2 u t9 H1 locs1 ht9 hvm hw1 hB hz1 hk1 hS1
  obtain ⟨hP1, hK1, hD1⟩ := hB
  rw [ht9] at hP1
  replace hK1 := va_K.moved hvm.symm hK1
  have hPD := join3 hP hD rfl [] [0, 1, 2, 3, 4, 5, 6, 7, 8, 9, 10, 11] rfl (by rfl) (by decide +kernel) (by decide +kernel) hk1 hFc hP1 hD1
  replace hK : va_K (dC, dI) classes [((rK9 33), .int), ((rK9 2), .int), ((rK9 3), .int), ((rK9 4), .int), ((rK9 5), .int), ((rK9 6), .int), ((rK9 34), .int), ((rK9 29), .int), ((rK9 31), .boolean), ((rK9 32), .int), ((rK9 30), .boolean)] s := hK.app hK1
  clear hP1 hK1 hD1 hk1 hz1 hFc hKc hDc hPc hvm ht9 hP hS t9
  have hP : va_P (dC, dI) classes [oc ra 8 [.int (nI T), .int (nI Ac), .ref (rA 2), .ref (rA 3), .ref (rA 4), .ref (rA 5), .ref (rA 6), .ref (rA 7), .ref (rA 8), .ref (rA 9), .ref (rA 10), .ref (rA 11), .ref (rA 12), .ref (rA 13), .int ir, .ref (rA 15), .ref (rA 16), .ref (rA 17), .ref (rA 18), .int (nI md), .int (nI wd), .ref (rA 21), .ref (rA 22), .ref (rA 23), .int (nI mn), .ref (rA 25), .int (nI cb), .int mr, .ref (rA 28), .ref (rA 29), .ref (rA 30), .ref (rA 31), .ref (rA 32), .ref (rA 33), .ref (rA 34), .ref (rA 35), .int (nI ld), .int (nI gm), .ref (rA 38), .ref (rA 39), .ref (rA 40), .ref (rA 41), .ref (rA 42), .ref (rA 43), .ref (rA 44), .ref (rA 45), .int (nI my), .ref (rA 47)], ia (rA 33) (rK9 33) 4 (fun i => nI (pcn i)), ia (rA 2) (rK9 2) 4 (fun i => nI (zs i)), ia (rA 3) (rK9 3) 28 (fun i => nI (kd i)), ia (rA 4) (rK9 4) 28 (fun i => nI (vx i)), ia (rA 5) (rK9 5) 28 (fun i => nI (rr i)), ia (rA 6) (rK9 6) 28 vv, ia (rA 34) (rK9 34) 8 hd9, ia (rA 29) (rK9 29) 28 (fun i0 => mN (fm i0)), ia (rA 31) (rK9 31) 28 (fun i => nI (dn i)), ia (rA 32) (rK9 32) 28 gv, ia (rA 30) (rK9 30) 28 (fun i => nI (hp i))] H1 := hPD.1
  replace hD : dd A [ra, (rA 33), (rA 2), (rA 3), (rA 4), (rA 5), (rA 6), (rA 34), (rA 29), (rA 31), (rA 32), (rA 30)] := dd_of hPD.2 rfl
  clear hPD
  revert H1 locs1
  intro H locs hS hP
  refine tp_i (y := 1) (hw1.trans (if_pos (by decide))) ?_
  clear hw1 r_2 u
  refine tp_pc (pc' := 117) (by rfl) ?_
  refine lv_if_eq (tgt := 158) hx hb d_Ref_act_117 (by decide) (fun c_3 => absurd c_3 (by decide)) (fun c_3 => ?_)
  refine tp_pc (pc' := 120) (by rfl) ?_
  refine lv_aload_n hx hb d_Ref_act_120 rfl (lv_at hl 4 rfl) ?_
  refine va_get (D := (dC, dI)) (ci := 8) (v := .ref (rA 29)) (C := R_Ref) (T := F_Ref) (N := 48) hx hb hw i_Ref hown hK hP 0 rfl rfl 29 (by decide) (hw _ m_928) (fun _ h9 => h9) rfl d_Ref_act_121 ?_
  refine lv_iload_n hx hb d_Ref_act_124 rfl (lv_at hl 3 rfl) ?_
  refine va_iald (D := (dC, dI)) hx hb hK hP 8 7 rfl rfl (i := nI a) (pk_in a 28 (by omega)) d_Ref_act_125 ?_
  refine tp_i (y := (fun i0 => mN (fm i0)) a) (by rw [show (nI a : Int32).toNatClampNeg = a from pk_cl a]) ?_
  refine tp_i (y := nI f9) (show mN (fm a) = nI f9 from by rw [hfa, mN_1]) ?_
  refine lv_if_lt (tgt := 158) hx hb d_Ref_act_126 (by decide) (fun c9 => absurd c9 (nI_pos (by omega))) (fun c9 => ?_)
  refine tp_pc (pc' := 129) (by rfl) ?_
  refine lv_aload_n hx hb d_Ref_act_129 rfl (lv_at hl 4 rfl) ?_
  refine va_get (D := (dC, dI)) (ci := 8) (v := .ref (rA 31)) (C := R_Ref) (T := F_Ref) (N := 48) hx hb hw i_Ref hown hK hP 0 rfl rfl 31 (by decide) (hw _ m_930) (fun _ h9 => h9) rfl d_Ref_act_130 ?_
  refine lv_aload_n hx hb d_Ref_act_133 rfl (lv_at hl 4 rfl) ?_
  refine va_get (D := (dC, dI)) (ci := 8) (v := .ref (rA 29)) (C := R_Ref) (T := F_Ref) (N := 48) hx hb hw i_Ref hown hK hP 0 rfl rfl 29 (by decide) (hw _ m_928) (fun _ h9 => h9) rfl d_Ref_act_134 ?_
  refine lv_iload_n hx hb d_Ref_act_137 rfl (lv_at hl 3 rfl) ?_
  refine va_iald (D := (dC, dI)) hx hb hK hP 8 7 rfl rfl (i := nI a) (pk_in a 28 (by omega)) d_Ref_act_138 ?_
  refine tp_i (y := (fun i0 => mN (fm i0)) a) (by rw [show (nI a : Int32).toNatClampNeg = a from pk_cl a]) ?_
  refine tp_i (y := nI f9) (show mN (fm a) = nI f9 from by rw [hfa, mN_1]) ?_
  refine va_zald (D := (dC, dI)) hx hb hK hP 9 8 rfl rfl (i := nI f9) (pk_in f9 28 (by omega)) d_Ref_act_139 ?_
  refine tp_i (y := nI (dn f9)) (by rw [show (nI f9 : Int32).toNatClampNeg = f9 from pk_cl f9]) ?_
  refine lv_if_ne (tgt := 145) hx hb d_Ref_act_140 (by decide) (fun c9 => absurd (show nI (dn f9) = 0 from by rw [hdn]; rfl) c9) (fun c9 => ?_)
  refine tp_pc (pc' := 143) (by rfl) ?_
  refine lv_iconst (v := 0) hx hb d_Ref_act_143 (by decide) ?_
  obtain ⟨hP9, hD9, -⟩ := cut3 (wc := [oc ra 8 [.int (nI T), .int (nI Ac), .ref (rA 2), .ref (rA 3), .ref (rA 4), .ref (rA 5), .ref (rA 6), .ref (rA 7), .ref (rA 8), .ref (rA 9), .ref (rA 10), .ref (rA 11), .ref (rA 12), .ref (rA 13), .int ir, .ref (rA 15), .ref (rA 16), .ref (rA 17), .ref (rA 18), .int (nI md), .int (nI wd), .ref (rA 21), .ref (rA 22), .ref (rA 23), .int (nI mn), .ref (rA 25), .int (nI cb), .int mr, .ref (rA 28), .ref (rA 29), .ref (rA 30), .ref (rA 31), .ref (rA 32), .ref (rA 33), .ref (rA 34), .ref (rA 35), .int (nI ld), .int (nI gm), .ref (rA 38), .ref (rA 39), .ref (rA 40), .ref (rA 41), .ref (rA 42), .ref (rA 43), .ref (rA 44), .ref (rA 45), .int (nI my), .ref (rA 47)], ia (rA 33) (rK9 33) 4 (fun i => nI (pcn i)), ia (rA 2) (rK9 2) 4 (fun i => nI (zs i)), ia (rA 3) (rK9 3) 28 (fun i => nI (kd i)), ia (rA 4) (rK9 4) 28 (fun i => nI (vx i)), ia (rA 5) (rK9 5) 28 (fun i => nI (rr i)), ia (rA 6) (rK9 6) 28 vv, ia (rA 34) (rK9 34) 8 hd9, ia (rA 29) (rK9 29) 28 (fun i0 => mN (fm i0)), ia (rA 31) (rK9 31) 28 (fun i => nI (dn i)), ia (rA 32) (rK9 32) 28 gv, ia (rA 30) (rK9 30) 28 (fun i => nI (hp i))]) hP hD rfl hS hA [0, 1, 2, 3, 4, 5, 6, 7, 8, 9, 10, 11] (by decide +kernel) rfl
  have hK9 := hK.sub (tys' := []) [] rfl
  refine W.widen (k := 0) (n := 0) (by exact Nat.le_of_ble_eq_true rfl) (by exact Nat.le_of_ble_eq_true rfl) ?_
  exact W.zret (v := 0) (ty := .boolean) hx hb hr (by decide) (fun t9 ht9 hW => ⟨⟨0, (), rfl, rfl, by rw [ht9]; exact hP9, va_K.moved hW.alike hK9, hD9⟩, hS.F ht9⟩) hS.2.2 d_Ref_act_144
set_option maxHeartbeats 4000000 in
set_option maxRecDepth 100000 in
theorem gen_Ref_act_0s (l : Launch) (dC : Nat → ClassId) (dI : Nat → Nat → Nat) (ra : Nat) (rA : Nat → Nat) (rK9 : Nat → ClassId) (T Ac md wd mn cb ld gm my : Nat) (ir mr : Int32) (t a : Nat) (pcn zs kd vx rr fm dn hp : Nat → Nat) (vv hd9 gv : Nat → Int32) (f9 : Nat) (ht : t < 4) (ha : a = 7 * t + pcn t) (hpc : pcn t < zs t) (hzt : zs t ≤ 7) (hvx : vx a < 4) (hrr : rr a < 2) (hk : kd a = 0) (hfa : fm a = f9 + 1) (hf9 : f9 < 28) (hdn : dn f9 = 1) (sz : Nat) : Met l y_Ref_act w_Ref_act ({ frames := 1, cells := 0, slots := 0, locals := 40 }) (va_Pc [.ref ra, .int (nI t)] (fun U => U.heap.size = sz ∧ va_P (dC, dI) classes [oc ra 8 [.int (nI T), .int (nI Ac), .ref (rA 2), .ref (rA 3), .ref (rA 4), .ref (rA 5), .ref (rA 6), .ref (rA 7), .ref (rA 8), .ref (rA 9), .ref (rA 10), .ref (rA 11), .ref (rA 12), .ref (rA 13), .int ir, .ref (rA 15), .ref (rA 16), .ref (rA 17), .ref (rA 18), .int (nI md), .int (nI wd), .ref (rA 21), .ref (rA 22), .ref (rA 23), .int (nI mn), .ref (rA 25), .int (nI cb), .int mr, .ref (rA 28), .ref (rA 29), .ref (rA 30), .ref (rA 31), .ref (rA 32), .ref (rA 33), .ref (rA 34), .ref (rA 35), .int (nI ld), .int (nI gm), .ref (rA 38), .ref (rA 39), .ref (rA 40), .ref (rA 41), .ref (rA 42), .ref (rA 43), .ref (rA 44), .ref (rA 45), .int (nI my), .ref (rA 47)], ia (rA 33) (rK9 33) 4 (fun i => nI (pcn i)), ia (rA 2) (rK9 2) 4 (fun i => nI (zs i)), ia (rA 3) (rK9 3) 28 (fun i => nI (kd i)), ia (rA 4) (rK9 4) 28 (fun i => nI (vx i)), ia (rA 5) (rK9 5) 28 (fun i => nI (rr i)), ia (rA 6) (rK9 6) 28 vv, ia (rA 34) (rK9 34) 8 hd9, ia (rA 29) (rK9 29) 28 (fun i0 => mN (fm i0)), ia (rA 31) (rK9 31) 28 (fun i => nI (dn i)), ia (rA 32) (rK9 32) 28 gv, ia (rA 30) (rK9 30) 28 (fun i => nI (hp i))] U.heap ∧ va_K (dC, dI) classes [((rK9 33), .int), ((rK9 2), .int), ((rK9 3), .int), ((rK9 4), .int), ((rK9 5), .int), ((rK9 6), .int), ((rK9 34), .int), ((rK9 29), .int), ((rK9 31), .boolean), ((rK9 32), .int), ((rK9 30), .boolean)] U ∧ va_D (fun _ => True) [oc ra 8 [.int (nI T), .int (nI Ac), .ref (rA 2), .ref (rA 3), .ref (rA 4), .ref (rA 5), .ref (rA 6), .ref (rA 7), .ref (rA 8), .ref (rA 9), .ref (rA 10), .ref (rA 11), .ref (rA 12), .ref (rA 13), .int ir, .ref (rA 15), .ref (rA 16), .ref (rA 17), .ref (rA 18), .int (nI md), .int (nI wd), .ref (rA 21), .ref (rA 22), .ref (rA 23), .int (nI mn), .ref (rA 25), .int (nI cb), .int mr, .ref (rA 28), .ref (rA 29), .ref (rA 30), .ref (rA 31), .ref (rA 32), .ref (rA 33), .ref (rA 34), .ref (rA 35), .int (nI ld), .int (nI gm), .ref (rA 38), .ref (rA 39), .ref (rA 40), .ref (rA 41), .ref (rA 42), .ref (rA 43), .ref (rA 44), .ref (rA 45), .int (nI my), .ref (rA 47)], ia (rA 33) (rK9 33) 4 (fun i => nI (pcn i)), ia (rA 2) (rK9 2) 4 (fun i => nI (zs i)), ia (rA 3) (rK9 3) 28 (fun i => nI (kd i)), ia (rA 4) (rK9 4) 28 (fun i => nI (vx i)), ia (rA 5) (rK9 5) 28 (fun i => nI (rr i)), ia (rA 6) (rK9 6) 28 vv, ia (rA 34) (rK9 34) 8 hd9, ia (rA 29) (rK9 29) 28 (fun i0 => mN (fm i0)), ia (rA 31) (rK9 31) 28 (fun i => nI (dn i)), ia (rA 32) (rK9 32) 28 gv, ia (rA 30) (rK9 30) 28 (fun i => nI (hp i))] ∧ nw U)) (va_Qi (fun (r : Int32) (_ : Unit) => r = 1) (fun _ t9 => va_P (dC, dI) classes [oc ra 8 [.int (nI T), .int (nI Ac), .ref (rA 2), .ref (rA 3), .ref (rA 4), .ref (rA 5), .ref (rA 6), .ref (rA 7), .ref (rA 8), .ref (rA 9), .ref (rA 10), .ref (rA 11), .ref (rA 12), .ref (rA 13), .int ir, .ref (rA 15), .ref (rA 16), .ref (rA 17), .ref (rA 18), .int (nI md), .int (nI wd), .ref (rA 21), .ref (rA 22), .ref (rA 23), .int (nI mn), .ref (rA 25), .int (nI cb), .int mr, .ref (rA 28), .ref (rA 29), .ref (rA 30), .ref (rA 31), .ref (rA 32), .ref (rA 33), .ref (rA 34), .ref (rA 35), .int (nI ld), .int (nI gm), .ref (rA 38), .ref (rA 39), .ref (rA 40), .ref (rA 41), .ref (rA 42), .ref (rA 43), .ref (rA 44), .ref (rA 45), .int (nI my), .ref (rA 47)], ia (rA 33) (rK9 33) 4 (fun i => nI ((updN pcn t (pcn t + 1)) i)), ia (rA 2) (rK9 2) 4 (fun i => nI (zs i)), ia (rA 3) (rK9 3) 28 (fun i => nI (kd i)), ia (rA 4) (rK9 4) 28 (fun i => nI (vx i)), ia (rA 5) (rK9 5) 28 (fun i => nI (rr i)), ia (rA 6) (rK9 6) 28 vv, ia (rA 34) (rK9 34) 8 (upd hd9 (2 * t + rr a) (gv f9)), ia (rA 29) (rK9 29) 28 (fun i0 => mN (fm i0)), ia (rA 31) (rK9 31) 28 (fun i => nI ((updN dn a 1) i)), ia (rA 32) (rK9 32) 28 (upd gv a (gv f9 + vv a)), ia (rA 30) (rK9 30) 28 (fun i => nI ((updN hp a 1) i))] t9.heap ∧ va_K (dC, dI) classes [] t9 ∧ va_D (va_A [oc ra 8 [.int (nI T), .int (nI Ac), .ref (rA 2), .ref (rA 3), .ref (rA 4), .ref (rA 5), .ref (rA 6), .ref (rA 7), .ref (rA 8), .ref (rA 9), .ref (rA 10), .ref (rA 11), .ref (rA 12), .ref (rA 13), .int ir, .ref (rA 15), .ref (rA 16), .ref (rA 17), .ref (rA 18), .int (nI md), .int (nI wd), .ref (rA 21), .ref (rA 22), .ref (rA 23), .int (nI mn), .ref (rA 25), .int (nI cb), .int mr, .ref (rA 28), .ref (rA 29), .ref (rA 30), .ref (rA 31), .ref (rA 32), .ref (rA 33), .ref (rA 34), .ref (rA 35), .int (nI ld), .int (nI gm), .ref (rA 38), .ref (rA 39), .ref (rA 40), .ref (rA 41), .ref (rA 42), .ref (rA 43), .ref (rA 44), .ref (rA 45), .int (nI my), .ref (rA 47)], ia (rA 33) (rK9 33) 4 (fun i => nI (pcn i)), ia (rA 2) (rK9 2) 4 (fun i => nI (zs i)), ia (rA 3) (rK9 3) 28 (fun i => nI (kd i)), ia (rA 4) (rK9 4) 28 (fun i => nI (vx i)), ia (rA 5) (rK9 5) 28 (fun i => nI (rr i)), ia (rA 6) (rK9 6) 28 vv, ia (rA 34) (rK9 34) 8 hd9, ia (rA 29) (rK9 29) 28 (fun i0 => mN (fm i0)), ia (rA 31) (rK9 31) 28 (fun i => nI (dn i)), ia (rA 32) (rK9 32) 28 gv, ia (rA 30) (rK9 30) 28 (fun i => nI (hp i))] sz) [oc ra 8 [.int (nI T), .int (nI Ac), .ref (rA 2), .ref (rA 3), .ref (rA 4), .ref (rA 5), .ref (rA 6), .ref (rA 7), .ref (rA 8), .ref (rA 9), .ref (rA 10), .ref (rA 11), .ref (rA 12), .ref (rA 13), .int ir, .ref (rA 15), .ref (rA 16), .ref (rA 17), .ref (rA 18), .int (nI md), .int (nI wd), .ref (rA 21), .ref (rA 22), .ref (rA 23), .int (nI mn), .ref (rA 25), .int (nI cb), .int mr, .ref (rA 28), .ref (rA 29), .ref (rA 30), .ref (rA 31), .ref (rA 32), .ref (rA 33), .ref (rA 34), .ref (rA 35), .int (nI ld), .int (nI gm), .ref (rA 38), .ref (rA 39), .ref (rA 40), .ref (rA 41), .ref (rA 42), .ref (rA 43), .ref (rA 44), .ref (rA 45), .int (nI my), .ref (rA 47)], ia (rA 33) (rK9 33) 4 (fun i => nI ((updN pcn t (pcn t + 1)) i)), ia (rA 2) (rK9 2) 4 (fun i => nI (zs i)), ia (rA 3) (rK9 3) 28 (fun i => nI (kd i)), ia (rA 4) (rK9 4) 28 (fun i => nI (vx i)), ia (rA 5) (rK9 5) 28 (fun i => nI (rr i)), ia (rA 6) (rK9 6) 28 vv, ia (rA 34) (rK9 34) 8 (upd hd9 (2 * t + rr a) (gv f9)), ia (rA 29) (rK9 29) 28 (fun i0 => mN (fm i0)), ia (rA 31) (rK9 31) 28 (fun i => nI ((updN dn a 1) i)), ia (rA 32) (rK9 32) 28 (upd gv a (gv f9 + vv a)), ia (rA 30) (rK9 30) 28 (fun i => nI ((updN hp a 1) i))]) (va_A [oc ra 8 [.int (nI T), .int (nI Ac), .ref (rA 2), .ref (rA 3), .ref (rA 4), .ref (rA 5), .ref (rA 6), .ref (rA 7), .ref (rA 8), .ref (rA 9), .ref (rA 10), .ref (rA 11), .ref (rA 12), .ref (rA 13), .int ir, .ref (rA 15), .ref (rA 16), .ref (rA 17), .ref (rA 18), .int (nI md), .int (nI wd), .ref (rA 21), .ref (rA 22), .ref (rA 23), .int (nI mn), .ref (rA 25), .int (nI cb), .int mr, .ref (rA 28), .ref (rA 29), .ref (rA 30), .ref (rA 31), .ref (rA 32), .ref (rA 33), .ref (rA 34), .ref (rA 35), .int (nI ld), .int (nI gm), .ref (rA 38), .ref (rA 39), .ref (rA 40), .ref (rA 41), .ref (rA 42), .ref (rA 43), .ref (rA 44), .ref (rA 45), .int (nI my), .ref (rA 47)], ia (rA 33) (rK9 33) 4 (fun i => nI (pcn i)), ia (rA 2) (rK9 2) 4 (fun i => nI (zs i)), ia (rA 3) (rK9 3) 28 (fun i => nI (kd i)), ia (rA 4) (rK9 4) 28 (fun i => nI (vx i)), ia (rA 5) (rK9 5) 28 (fun i => nI (rr i)), ia (rA 6) (rK9 6) 28 vv, ia (rA 34) (rK9 34) 8 hd9, ia (rA 29) (rK9 29) 28 (fun i0 => mN (fm i0)), ia (rA 31) (rK9 31) 28 (fun i => nI (dn i)), ia (rA 32) (rK9 32) 28 gv, ia (rA 30) (rK9 30) 28 (fun i => nI (hp i))] sz)) 0 0 (va_A [oc ra 8 [.int (nI T), .int (nI Ac), .ref (rA 2), .ref (rA 3), .ref (rA 4), .ref (rA 5), .ref (rA 6), .ref (rA 7), .ref (rA 8), .ref (rA 9), .ref (rA 10), .ref (rA 11), .ref (rA 12), .ref (rA 13), .int ir, .ref (rA 15), .ref (rA 16), .ref (rA 17), .ref (rA 18), .int (nI md), .int (nI wd), .ref (rA 21), .ref (rA 22), .ref (rA 23), .int (nI mn), .ref (rA 25), .int (nI cb), .int mr, .ref (rA 28), .ref (rA 29), .ref (rA 30), .ref (rA 31), .ref (rA 32), .ref (rA 33), .ref (rA 34), .ref (rA 35), .int (nI ld), .int (nI gm), .ref (rA 38), .ref (rA 39), .ref (rA 40), .ref (rA 41), .ref (rA 42), .ref (rA 43), .ref (rA 44), .ref (rA 45), .int (nI my), .ref (rA 47)], ia (rA 33) (rK9 33) 4 (fun i => nI (pcn i)), ia (rA 2) (rK9 2) 4 (fun i => nI (zs i)), ia (rA 3) (rK9 3) 28 (fun i => nI (kd i)), ia (rA 4) (rK9 4) 28 (fun i => nI (vx i)), ia (rA 5) (rK9 5) 28 (fun i => nI (rr i)), ia (rA 6) (rK9 6) 28 vv, ia (rA 34) (rK9 34) 8 hd9, ia (rA 29) (rK9 29) 28 (fun i0 => mN (fm i0)), ia (rA 31) (rK9 31) 28 (fun i => nI (dn i)), ia (rA 32) (rK9 32) 28 gv, ia (rA 30) (rK9 30) 28 (fun i => nI (hp i))] sz) := by
  refine Met.ofW (cc := b_Ref_act) (maxL := 6) (ret := (some .boolean)) (by decide) rfl ?_
  intro p e0 s m args below meth c s₁ B hml hv
  obtain ⟨rfl, hsz, hP, hK, hD0, hn⟩ := hv
  have hx := B.exec
  have hb := B.bytes
  have hr := B.returns
  have hw := fun w (h : w ∈ wt) => atoms_spec (ws := w_Ref_act) B.pre w (List.mem_cons_of_mem _ h)
  have hown : s.vm.findClass R_Ref = some m.cls := findClass_of_methodNamed B.named
  have hlocks := B.notSynchronized
  subst hsz
  have hD1 := hD0.self (sz := s.heap.size)
  generalize hAe : va_A [oc ra 8 [.int (nI T), .int (nI Ac), .ref (rA 2), .ref (rA 3), .ref (rA 4), .ref (rA 5), .ref (rA 6), .ref (rA 7), .ref (rA 8), .ref (rA 9), .ref (rA 10), .ref (rA 11), .ref (rA 12), .ref (rA 13), .int ir, .ref (rA 15), .ref (rA 16), .ref (rA 17), .ref (rA 18), .int (nI md), .int (nI wd), .ref (rA 21), .ref (rA 22), .ref (rA 23), .int (nI mn), .ref (rA 25), .int (nI cb), .int mr, .ref (rA 28), .ref (rA 29), .ref (rA 30), .ref (rA 31), .ref (rA 32), .ref (rA 33), .ref (rA 34), .ref (rA 35), .int (nI ld), .int (nI gm), .ref (rA 38), .ref (rA 39), .ref (rA 40), .ref (rA 41), .ref (rA 42), .ref (rA 43), .ref (rA 44), .ref (rA 45), .int (nI my), .ref (rA 47)], ia (rA 33) (rK9 33) 4 (fun i => nI (pcn i)), ia (rA 2) (rK9 2) 4 (fun i => nI (zs i)), ia (rA 3) (rK9 3) 28 (fun i => nI (kd i)), ia (rA 4) (rK9 4) 28 (fun i => nI (vx i)), ia (rA 5) (rK9 5) 28 (fun i => nI (rr i)), ia (rA 6) (rK9 6) 28 vv, ia (rA 34) (rK9 34) 8 hd9, ia (rA 29) (rK9 29) 28 (fun i0 => mN (fm i0)), ia (rA 31) (rK9 31) 28 (fun i => nI (dn i)), ia (rA 32) (rK9 32) 28 gv, ia (rA 30) (rK9 30) 28 (fun i => nI (hp i))] s.heap.size = A at hD1 ⊢
  have hA : ∀ q : Nat, s.heap.size ≤ q → A q := fun q h => by rw [← hAe]; exact Or.inr h
  have hD : dd A [ra, (rA 33), (rA 2), (rA 3), (rA 4), (rA 5), (rA 6), (rA 34), (rA 29), (rA 31), (rA 32), (rA 30)] := dd_of hD1 rfl
  clear hAe hD0 hD1
  have hS : va_S A s.heap s.heap [] := va_S.rf
  replace hP : va_P (dC, dI) classes [oc ra 8 [.int (nI T), .int (nI Ac), .ref (rA 2), .ref (rA 3), .ref (rA 4), .ref (rA 5), .ref (rA 6), .ref (rA 7), .ref (rA 8), .ref (rA 9), .ref (rA 10), .ref (rA 11), .ref (rA 12), .ref (rA 13), .int ir, .ref (rA 15), .ref (rA 16), .ref (rA 17), .ref (rA 18), .int (nI md), .int (nI wd), .ref (rA 21), .ref (rA 22), .ref (rA 23), .int (nI mn), .ref (rA 25), .int (nI cb), .int mr, .ref (rA 28), .ref (rA 29), .ref (rA 30), .ref (rA 31), .ref (rA 32), .ref (rA 33), .ref (rA 34), .ref (rA 35), .int (nI ld), .int (nI gm), .ref (rA 38), .ref (rA 39), .ref (rA 40), .ref (rA 41), .ref (rA 42), .ref (rA 43), .ref (rA 44), .ref (rA 45), .int (nI my), .ref (rA 47)], ia (rA 33) (rK9 33) 4 (fun i => nI (pcn i)), ia (rA 2) (rK9 2) 4 (fun i => nI (zs i)), ia (rA 3) (rK9 3) 28 (fun i => nI (kd i)), ia (rA 4) (rK9 4) 28 (fun i => nI (vx i)), ia (rA 5) (rK9 5) 28 (fun i => nI (rr i)), ia (rA 6) (rK9 6) 28 vv, ia (rA 34) (rK9 34) 8 hd9, ia (rA 29) (rK9 29) 28 (fun i0 => mN (fm i0)), ia (rA 31) (rK9 31) 28 (fun i => nI (dn i)), ia (rA 32) (rK9 32) 28 gv, ia (rA 30) (rK9 30) 28 (fun i => nI (hp i))] s.heap := hP
  have hl := lv_entry ([.ref ra, .int (nI t)]) (n := 6) (Nat.le_of_ble_eq_true rfl)
  rw [lg_entry_eq]
  generalize (lg_sl ([.ref ra, .int (nI t)]) ++ List.replicate (6 - (lg_sl ([.ref ra, .int (nI t)])).length) Slot.unset).toArray = ls at hl ⊢
  replace hl : lv_has ls 6 [(0, .ref ra), (1, .int (nI t))] := hl
  refine lv_bipush (v := 7) hx hb d_Ref_act_0 (by decide) ?_
  refine lv_iload_n hx hb d_Ref_act_2 rfl (lv_at hl 1 rfl) ?_
  refine lv_imul hx hb d_Ref_act_3 ?_
  refine tp_i (y := nI (7 * t)) (by exact pk_mul 7 t) ?_
  refine lv_aload_n hx hb d_Ref_act_4 rfl (lv_at hl 0 rfl) ?_
  refine va_get (D := (dC, dI)) (ci := 8) (v := .ref (rA 33)) (C := R_Ref) (T := F_Ref) (N := 48) hx hb hw i_Ref hown hK hP 0 rfl rfl 33 (by decide) (hw _ m_932) (fun _ h9 => h9) rfl d_Ref_act_5 ?_
  refine lv_iload_n hx hb d_Ref_act_8 rfl (lv_at hl 1 rfl) ?_
  refine va_iald (D := (dC, dI)) hx hb hK hP 1 0 rfl rfl (i := nI t) (pk_in t 4 (by omega)) d_Ref_act_9 ?_
  refine tp_i (y := nI (pcn t)) (by rw [show (nI t : Int32).toNatClampNeg = t from pk_cl t]) ?_
  refine lv_iadd hx hb d_Ref_act_10 ?_
  refine tp_i (y := nI (7 * t + (pcn t))) (by exact nI_add (7 * t) (pcn t)) ?_
  refine tp_i (y := nI a) (by rw [ha]) ?_
  refine lv_istore_n (lv' := [(2, .int (nI a)), (0, .ref ra), (1, .int (nI t))]) hx hb d_Ref_act_11 rfl hl (by decide) rfl ?_
  clear hl ls
  intro ls hl
  refine lv_aload_n hx hb d_Ref_act_12 rfl (lv_at hl 1 rfl) ?_
  refine va_get (D := (dC, dI)) (ci := 8) (v := .ref (rA 3)) (C := R_Ref) (T := F_Ref) (N := 48) hx hb hw i_Ref hown hK hP 0 rfl rfl 3 (by decide) (hw _ m_902) (fun _ h9 => h9) rfl d_Ref_act_13 ?_
  refine lv_iload_n hx hb d_Ref_act_16 rfl (lv_at hl 0 rfl) ?_
  refine va_iald (D := (dC, dI)) hx hb hK hP 3 2 rfl rfl (i := nI a) (pk_in a 28 (by omega)) d_Ref_act_17 ?_
  refine tp_i (y := nI (kd a)) (by rw [show (nI a : Int32).toNatClampNeg = a from pk_cl a]) ?_
  refine tp_i (y := 0) (by rw [hk]; rfl) ?_
  refine lv_istore_n (lv' := [(3, .int 0), (2, .int (nI a)), (0, .ref ra), (1, .int (nI t))]) hx hb d_Ref_act_18 rfl hl (by decide) rfl ?_
  clear hl ls
  intro ls hl
  refine lv_iconst (v := 2) hx hb d_Ref_act_19 (by decide) ?_
  refine lv_iload_n hx hb d_Ref_act_20 rfl (lv_at hl 3 rfl) ?_
  refine lv_imul hx hb d_Ref_act_21 ?_
  refine tp_i (y := nI (2 * t)) (by exact pk_mul 2 t) ?_
  refine lv_aload_n hx hb d_Ref_act_22 rfl (lv_at hl 2 rfl) ?_
  refine va_get (D := (dC, dI)) (ci := 8) (v := .ref (rA 5)) (C := R_Ref) (T := F_Ref) (N := 48) hx hb hw i_Ref hown hK hP 0 rfl rfl 5 (by decide) (hw _ m_904) (fun _ h9 => h9) rfl d_Ref_act_23 ?_
  refine lv_iload_n hx hb d_Ref_act_26 rfl (lv_at hl 1 rfl) ?_
  refine va_iald (D := (dC, dI)) hx hb hK hP 5 4 rfl rfl (i := nI a) (pk_in a 28 (by omega)) d_Ref_act_27 ?_
  refine tp_i (y := nI (rr a)) (by rw [show (nI a : Int32).toNatClampNeg = a from pk_cl a]) ?_
  refine lv_iadd hx hb d_Ref_act_28 ?_
  refine tp_i (y := nI (2 * t + (rr a))) (by exact nI_add (2 * t) (rr a)) ?_
  refine lv_istore (lv' := [(4, .int (nI (2 * t + (rr a)))), (3, .int 0), (2, .int (nI a)), (0, .ref ra), (1, .int (nI t))]) hx hb d_Ref_act_29 hl (by decide) rfl ?_
  clear hl ls
  intro ls hl
  refine lv_iload_n hx hb d_Ref_act_31 rfl (lv_at hl 1 rfl) ?_
  refine lv_iconst (v := 5) hx hb d_Ref_act_32 (by decide) ?_
  refine lv_icmp_ne (tgt := 110) hx hb d_Ref_act_33 (by decide) (fun c_1 => ?_) (fun c_1 => absurd c_1 (by decide))
  refine tp_pc (pc' := 110) (by rfl) ?_
  refine lv_iconst (v := 0) hx hb d_Ref_act_110 (by decide) ?_
  refine lv_istore (lv' := [(5, .int 0), (4, .int (nI (2 * t + (rr a)))), (3, .int 0), (2, .int (nI a)), (0, .ref ra), (1, .int (nI t))]) hx hb d_Ref_act_111 hl (by decide) rfl ?_
  clear hl ls
  intro ls hl
  refine lv_iload_n hx hb d_Ref_act_113 rfl (lv_at hl 2 rfl) ?_
  refine tp_i (y := nI 0) rfl ?_
  obtain ⟨hPc, hDc, hFc⟩ := cut3 (wc := []) hP hD rfl hS hA [] (by decide +kernel) rfl
  have hKc := hK.sub (tys' := []) [] rfl
  refine va_calli (va_runS (As := [.int (nI 0)]) (rest := []) ⟨hx, hb, hml, hown, hw⟩ (gen_Ref_takes l dC dI 0 (by decide) s.heap.size) (cw_S 1 hw g_Ref_takes rfl rfl rfl (hw _ m_109) (hw _ m_1190) (hw _ m_1191) (by decide +kernel) ⟨Nat.le_of_ble_eq_true rfl, Nat.le_of_ble_eq_true rfl⟩) ⟨fun a U g mk q => by obtain ⟨q0, q1, qP, qK, qD, qN⟩ := q; exact ⟨q0, q1, qP, va_K.moved (u := U) (U := U.calling g mk a) (Vm.Alike.refl U.vm) qK, qD, nw_call qN⟩, fun U hU hW => ⟨rfl, by rw [hU], by rw [hU]; exact hPc, va_K.moved hW.alike hKc, hDc.weaken (fun _ _ _ _ => trivial), nw_warm hW hn⟩⟩ rfl rfl hl.1 rfl (lv_room (Nat.le_of_ble_eq_true rfl)) d_Ref_act_114 ⟨Nat.le_of_ble_eq_true rfl, Nat.le_of_ble_eq_true rfl⟩) hS (fun q _ h => hFc q h) hFc ?_
  intro r_2 u t9 H1 locs1 ht9 hvm hw1 hB hz1 hk1 hS1
  obtain ⟨hP1, hK1, hD1⟩ := hB
  rw [ht9] at hP1
  replace hK1 := va_K.moved hvm.symm hK1
  have hPD := join3 hP hD rfl [] [0, 1, 2, 3, 4, 5, 6, 7, 8, 9, 10, 11] rfl (by rfl) (by decide +kernel) (by decide +kernel) hk1 hFc hP1 hD1
  replace hK : va_K (dC, dI) classes [((rK9 33), .int), ((rK9 2), .int), ((rK9 3), .int), ((rK9 4), .int), ((rK9 5), .int), ((rK9 6), .int), ((rK9 34), .int), ((rK9 29), .int), ((rK9 31), .boolean), ((rK9 32), .int), ((rK9 30), .boolean)] s := hK.app hK1
  clear hP1 hK1 hD1 hk1 hz1 hFc hKc hDc hPc hvm ht9 hP hS t9
  have hP : va_P (dC, dI) classes [oc ra 8 [.int (nI T), .int (nI Ac), .ref (rA 2), .ref (rA 3), .ref (rA 4), .ref (rA 5), .ref (rA 6), .ref (rA 7), .ref (rA 8), .ref (rA 9), .ref (rA 10), .ref (rA 11), .ref (rA 12), .ref (rA 13), .int ir, .ref (rA 15), .ref (rA 16), .ref (rA 17), .ref (rA 18), .int (nI md), .int (nI wd), .ref (rA 21), .ref (rA 22), .ref (rA 23), .int (nI mn), .ref (rA 25), .int (nI cb), .int mr, .ref (rA 28), .ref (rA 29), .ref (rA 30), .ref (rA 31), .ref (rA 32), .ref (rA 33), .ref (rA 34), .ref (rA 35), .int (nI ld), .int (nI gm), .ref (rA 38), .ref (rA 39), .ref (rA 40), .ref (rA 41), .ref (rA 42), .ref (rA 43), .ref (rA 44), .ref (rA 45), .int (nI my), .ref (rA 47)], ia (rA 33) (rK9 33) 4 (fun i => nI (pcn i)), ia (rA 2) (rK9 2) 4 (fun i => nI (zs i)), ia (rA 3) (rK9 3) 28 (fun i => nI (kd i)), ia (rA 4) (rK9 4) 28 (fun i => nI (vx i)), ia (rA 5) (rK9 5) 28 (fun i => nI (rr i)), ia (rA 6) (rK9 6) 28 vv, ia (rA 34) (rK9 34) 8 hd9, ia (rA 29) (rK9 29) 28 (fun i0 => mN (fm i0)), ia (rA 31) (rK9 31) 28 (fun i => nI (dn i)), ia (rA 32) (rK9 32) 28 gv, ia (rA 30) (rK9 30) 28 (fun i => nI (hp i))] H1 := hPD.1
  replace hD : dd A [ra, (rA 33), (rA 2), (rA 3), (rA 4), (rA 5), (rA 6), (rA 34), (rA 29), (rA 31), (rA 32), (rA 30)] := dd_of hPD.2 rfl
  clear hPD
  revert H1 locs1
  intro H locs hS hP
  refine tp_i (y := 1) (hw1.trans (if_pos (by decide))) ?_
  clear hw1 r_2 u
  refine tp_pc (pc' := 117) (by rfl) ?_
  refine lv_if_eq (tgt := 158) hx hb d_Ref_act_117 (by decide) (fun c_3 => absurd c_3 (by decide)) (fun c_3 => ?_)
  refine tp_pc (pc' := 120) (by rfl) ?_
  refine lv_aload_n hx hb d_Ref_act_120 rfl (lv_at hl 4 rfl) ?_
  refine va_get (D := (dC, dI)) (ci := 8) (v := .ref (rA 29)) (C := R_Ref) (T := F_Ref) (N := 48) hx hb hw i_Ref hown hK hP 0 rfl rfl 29 (by decide) (hw _ m_928) (fun _ h9 => h9) rfl d_Ref_act_121 ?_
  refine lv_iload_n hx hb d_Ref_act_124 rfl (lv_at hl 3 rfl) ?_
  refine va_iald (D := (dC, dI)) hx hb hK hP 8 7 rfl rfl (i := nI a) (pk_in a 28 (by omega)) d_Ref_act_125 ?_
  refine tp_i (y := (fun i0 => mN (fm i0)) a) (by rw [show (nI a : Int32).toNatClampNeg = a from pk_cl a]) ?_
  refine tp_i (y := nI f9) (show mN (fm a) = nI f9 from by rw [hfa, mN_1]) ?_
  refine lv_if_lt (tgt := 158) hx hb d_Ref_act_126 (by decide) (fun c9 => absurd c9 (nI_pos (by omega))) (fun c9 => ?_)
  refine tp_pc (pc' := 129) (by rfl) ?_
  refine lv_aload_n hx hb d_Ref_act_129 rfl (lv_at hl 4 rfl) ?_
  refine va_get (D := (dC, dI)) (ci := 8) (v := .ref (rA 31)) (C := R_Ref) (T := F_Ref) (N := 48) hx hb hw i_Ref hown hK hP 0 rfl rfl 31 (by decide) (hw _ m_930) (fun _ h9 => h9) rfl d_Ref_act_130 ?_
  refine lv_aload_n hx hb d_Ref_act_133 rfl (lv_at hl 4 rfl) ?_
  refine va_get (D := (dC, dI)) (ci := 8) (v := .ref (rA 29)) (C := R_Ref) (T := F_Ref) (N := 48) hx hb hw i_Ref hown hK hP 0 rfl rfl 29 (by decide) (hw _ m_928) (fun _ h9 => h9) rfl d_Ref_act_134 ?_
  refine lv_iload_n hx hb d_Ref_act_137 rfl (lv_at hl 3 rfl) ?_
  refine va_iald (D := (dC, dI)) hx hb hK hP 8 7 rfl rfl (i := nI a) (pk_in a 28 (by omega)) d_Ref_act_138 ?_
  refine tp_i (y := (fun i0 => mN (fm i0)) a) (by rw [show (nI a : Int32).toNatClampNeg = a from pk_cl a]) ?_
  refine tp_i (y := nI f9) (show mN (fm a) = nI f9 from by rw [hfa, mN_1]) ?_
  refine va_zald (D := (dC, dI)) hx hb hK hP 9 8 rfl rfl (i := nI f9) (pk_in f9 28 (by omega)) d_Ref_act_139 ?_
  refine tp_i (y := nI (dn f9)) (by rw [show (nI f9 : Int32).toNatClampNeg = f9 from pk_cl f9]) ?_
  refine lv_if_ne (tgt := 145) hx hb d_Ref_act_140 (by decide) (fun c9 => ?_) (fun c9 => absurd ((nI_eq (a := dn f9) (b := 0) (by omega) (by omega)).mp c9) (by omega))
  refine tp_pc (pc' := 145) (by rfl) ?_
  refine lv_aload_n hx hb d_Ref_act_145 rfl (lv_at hl 4 rfl) ?_
  refine va_get (D := (dC, dI)) (ci := 8) (v := .ref (rA 32)) (C := R_Ref) (T := F_Ref) (N := 48) hx hb hw i_Ref hown hK hP 0 rfl rfl 32 (by decide) (hw _ m_931) (fun _ h9 => h9) rfl d_Ref_act_146 ?_
  refine lv_aload_n hx hb d_Ref_act_149 rfl (lv_at hl 4 rfl) ?_
  refine va_get (D := (dC, dI)) (ci := 8) (v := .ref (rA 29)) (C := R_Ref) (T := F_Ref) (N := 48) hx hb hw i_Ref hown hK hP 0 rfl rfl 29 (by decide) (hw _ m_928) (fun _ h9 => h9) rfl d_Ref_act_150 ?_
  refine lv_iload_n hx hb d_Ref_act_153 rfl (lv_at hl 3 rfl) ?_
  refine va_iald (D := (dC, dI)) hx hb hK hP 8 7 rfl rfl (i := nI a) (pk_in a 28 (by omega)) d_Ref_act_154 ?_
  refine tp_i (y := (fun i0 => mN (fm i0)) a) (by rw [show (nI a : Int32).toNatClampNeg = a from pk_cl a]) ?_
  refine tp_i (y := nI f9) (show mN (fm a) = nI f9 from by rw [hfa, mN_1]) ?_
  refine va_iald (D := (dC, dI)) hx hb hK hP 10 9 rfl rfl (i := nI f9) (pk_in f9 28 (by omega)) d_Ref_act_155 ?_
  refine tp_i (y := gv f9) (by rw [show (nI f9 : Int32).toNatClampNeg = f9 from pk_cl f9]) ?_
  refine lv_istore (lv' := [(5, .int (gv f9)), (4, .int (nI (2 * t + (rr a)))), (3, .int 0), (2, .int (nI a)), (0, .ref ra), (1, .int (nI t))]) hx hb d_Ref_act_156 hl (by decide) rfl ?_
  clear hl ls
  intro ls hl
  refine lv_aload_n hx hb d_Ref_act_158 rfl (lv_at hl 4 rfl) ?_
  refine va_get (D := (dC, dI)) (ci := 8) (v := .ref (rA 30)) (C := R_Ref) (T := F_Ref) (N := 48) hx hb hw i_Ref hown hK hP 0 rfl rfl 30 (by decide) (hw _ m_929) (fun _ h9 => h9) rfl d_Ref_act_159 ?_
  refine lv_iload_n hx hb d_Ref_act_162 rfl (lv_at hl 3 rfl) ?_
  refine lv_iconst (v := 1) hx hb d_Ref_act_163 (by decide) ?_
  refine tp_i (y := nI 1) rfl ?_
  refine va_zast (D := (dC, dI)) hx hb hK hP (dd_D hD rfl) hS 11 10 rfl rfl (i := nI a) (x := nI 1) (pk_in a 28 (by omega)) d_Ref_act_164 ?_
  clear hP hS locs H
  intro H locs hP _ hS
  rw [show (nI a : Int32).toNatClampNeg = a from pk_cl a] at hP
  rw [show vp_nar .boolean (nI 1) = (nI 1) from by decide] at hP
  rw [show upd (fun i => nI (hp i)) a (nI 1) = fun i => nI (updN hp a 1 i) from upd_nI] at hP
  replace hP : va_P (dC, dI) classes [oc ra 8 [.int (nI T), .int (nI Ac), .ref (rA 2), .ref (rA 3), .ref (rA 4), .ref (rA 5), .ref (rA 6), .ref (rA 7), .ref (rA 8), .ref (rA 9), .ref (rA 10), .ref (rA 11), .ref (rA 12), .ref (rA 13), .int ir, .ref (rA 15), .ref (rA 16), .ref (rA 17), .ref (rA 18), .int (nI md), .int (nI wd), .ref (rA 21), .ref (rA 22), .ref (rA 23), .int (nI mn), .ref (rA 25), .int (nI cb), .int mr, .ref (rA 28), .ref (rA 29), .ref (rA 30), .ref (rA 31), .ref (rA 32), .ref (rA 33), .ref (rA 34), .ref (rA 35), .int (nI ld), .int (nI gm), .ref (rA 38), .ref (rA 39), .ref (rA 40), .ref (rA 41), .ref (rA 42), .ref (rA 43), .ref (rA 44), .ref (rA 45), .int (nI my), .ref (rA 47)], ia (rA 33) (rK9 33) 4 (fun i => nI (pcn i)), ia (rA 2) (rK9 2) 4 (fun i => nI (zs i)), ia (rA 3) (rK9 3) 28 (fun i => nI (kd i)), ia (rA 4) (rK9 4) 28 (fun i => nI (vx i)), ia (rA 5) (rK9 5) 28 (fun i => nI (rr i)), ia (rA 6) (rK9 6) 28 vv, ia (rA 34) (rK9 34) 8 hd9, ia (rA 29) (rK9 29) 28 (fun i0 => mN (fm i0)), ia (rA 31) (rK9 31) 28 (fun i => nI (dn i)), ia (rA 32) (rK9 32) 28 gv, ia (rA 30) (rK9 30) 28 (fun i => nI ((updN hp a 1) i))] H := hP
  refine tp_pc (pc' := 165) (by rfl) ?_
  refine lv_aload_n hx hb d_Ref_act_165 rfl (lv_at hl 4 rfl) ?_
  refine va_get (D := (dC, dI)) (ci := 8) (v := .ref (rA 31)) (C := R_Ref) (T := F_Ref) (N := 48) hx hb hw i_Ref hown hK hP 0 rfl rfl 31 (by decide) (hw _ m_930) (fun _ h9 => h9) rfl d_Ref_act_166 ?_
  refine lv_iload_n hx hb d_Ref_act_169 rfl (lv_at hl 3 rfl) ?_
  refine lv_iconst (v := 1) hx hb d_Ref_act_170 (by decide) ?_
  refine tp_i (y := nI 1) rfl ?_
  refine va_zast (D := (dC, dI)) hx hb hK hP (dd_D hD rfl) hS 9 8 rfl rfl (i := nI a) (x := nI 1) (pk_in a 28 (by omega)) d_Ref_act_171 ?_
  clear hP hS locs H
  intro H locs hP _ hS
  rw [show (nI a : Int32).toNatClampNeg = a from pk_cl a] at hP
  rw [show vp_nar .boolean (nI 1) = (nI 1) from by decide] at hP
  rw [show upd (fun i => nI (dn i)) a (nI 1) = fun i => nI (updN dn a 1 i) from upd_nI] at hP
  replace hP : va_P (dC, dI) classes [oc ra 8 [.int (nI T), .int (nI Ac), .ref (rA 2), .ref (rA 3), .ref (rA 4), .ref (rA 5), .ref (rA 6), .ref (rA 7), .ref (rA 8), .ref (rA 9), .ref (rA 10), .ref (rA 11), .ref (rA 12), .ref (rA 13), .int ir, .ref (rA 15), .ref (rA 16), .ref (rA 17), .ref (rA 18), .int (nI md), .int (nI wd), .ref (rA 21), .ref (rA 22), .ref (rA 23), .int (nI mn), .ref (rA 25), .int (nI cb), .int mr, .ref (rA 28), .ref (rA 29), .ref (rA 30), .ref (rA 31), .ref (rA 32), .ref (rA 33), .ref (rA 34), .ref (rA 35), .int (nI ld), .int (nI gm), .ref (rA 38), .ref (rA 39), .ref (rA 40), .ref (rA 41), .ref (rA 42), .ref (rA 43), .ref (rA 44), .ref (rA 45), .int (nI my), .ref (rA 47)], ia (rA 33) (rK9 33) 4 (fun i => nI (pcn i)), ia (rA 2) (rK9 2) 4 (fun i => nI (zs i)), ia (rA 3) (rK9 3) 28 (fun i => nI (kd i)), ia (rA 4) (rK9 4) 28 (fun i => nI (vx i)), ia (rA 5) (rK9 5) 28 (fun i => nI (rr i)), ia (rA 6) (rK9 6) 28 vv, ia (rA 34) (rK9 34) 8 hd9, ia (rA 29) (rK9 29) 28 (fun i0 => mN (fm i0)), ia (rA 31) (rK9 31) 28 (fun i => nI ((updN dn a 1) i)), ia (rA 32) (rK9 32) 28 gv, ia (rA 30) (rK9 30) 28 (fun i => nI ((updN hp a 1) i))] H := hP
  refine tp_pc (pc' := 172) (by rfl) ?_
  refine lv_aload_n hx hb d_Ref_act_172 rfl (lv_at hl 4 rfl) ?_
  refine va_get (D := (dC, dI)) (ci := 8) (v := .ref (rA 33)) (C := R_Ref) (T := F_Ref) (N := 48) hx hb hw i_Ref hown hK hP 0 rfl rfl 33 (by decide) (hw _ m_932) (fun _ h9 => h9) rfl d_Ref_act_173 ?_
  refine lv_iload_n hx hb d_Ref_act_176 rfl (lv_at hl 5 rfl) ?_
  refine lv_dup2_11 hx hb d_Ref_act_177 rfl rfl ?_
  refine va_iald (D := (dC, dI)) hx hb hK hP 1 0 rfl rfl (i := nI t) (pk_in t 4 (by omega)) d_Ref_act_178 ?_
  refine tp_i (y := nI (pcn t)) (by rw [show (nI t : Int32).toNatClampNeg = t from pk_cl t]) ?_
  refine lv_iconst (v := 1) hx hb d_Ref_act_179 (by decide) ?_
  refine lv_iadd hx hb d_Ref_act_180 ?_
  refine tp_i (y := nI (pcn t + 1)) (by exact nI_add (pcn t) 1) ?_
  refine va_iast (D := (dC, dI)) hx hb hK hP (dd_D hD rfl) hS 1 0 rfl rfl (i := nI t) (x := nI (pcn t + 1)) (pk_in t 4 (by omega)) d_Ref_act_181 ?_
  clear hP hS locs H
  intro H locs hP _ hS
  rw [show (nI t : Int32).toNatClampNeg = t from pk_cl t] at hP
  rw [show upd (fun i => nI (pcn i)) t (nI (pcn t + 1)) = fun i => nI (updN pcn t (pcn t + 1) i) from upd_nI] at hP
  replace hP : va_P (dC, dI) classes [oc ra 8 [.int (nI T), .int (nI Ac), .ref (rA 2), .ref (rA 3), .ref (rA 4), .ref (rA 5), .ref (rA 6), .ref (rA 7), .ref (rA 8), .ref (rA 9), .ref (rA 10), .ref (rA 11), .ref (rA 12), .ref (rA 13), .int ir, .ref (rA 15), .ref (rA 16), .ref (rA 17), .ref (rA 18), .int (nI md), .int (nI wd), .ref (rA 21), .ref (rA 22), .ref (rA 23), .int (nI mn), .ref (rA 25), .int (nI cb), .int mr, .ref (rA 28), .ref (rA 29), .ref (rA 30), .ref (rA 31), .ref (rA 32), .ref (rA 33), .ref (rA 34), .ref (rA 35), .int (nI ld), .int (nI gm), .ref (rA 38), .ref (rA 39), .ref (rA 40), .ref (rA 41), .ref (rA 42), .ref (rA 43), .ref (rA 44), .ref (rA 45), .int (nI my), .ref (rA 47)], ia (rA 33) (rK9 33) 4 (fun i => nI ((updN pcn t (pcn t + 1)) i)), ia (rA 2) (rK9 2) 4 (fun i => nI (zs i)), ia (rA 3) (rK9 3) 28 (fun i => nI (kd i)), ia (rA 4) (rK9 4) 28 (fun i => nI (vx i)), ia (rA 5) (rK9 5) 28 (fun i => nI (rr i)), ia (rA 6) (rK9 6) 28 vv, ia (rA 34) (rK9 34) 8 hd9, ia (rA 29) (rK9 29) 28 (fun i0 => mN (fm i0)), ia (rA 31) (rK9 31) 28 (fun i => nI ((updN dn a 1) i)), ia (rA 32) (rK9 32) 28 gv, ia (rA 30) (rK9 30) 28 (fun i => nI ((updN hp a 1) i))] H := hP
  refine tp_pc (pc' := 182) (by rfl) ?_
  refine lv_iload_n hx hb d_Ref_act_182 rfl (lv_at hl 2 rfl) ?_
  refine lv_iconst (v := 2) hx hb d_Ref_act_183 (by decide) ?_
  refine lv_icmp_ne (tgt := 210) hx hb d_Ref_act_184 (by decide) (fun c_4 => ?_) (fun c_4 => absurd c_4 (by decide))
  refine tp_pc (pc' := 210) (by rfl) ?_
  refine lv_iload_n hx hb d_Ref_act_210 rfl (lv_at hl 2 rfl) ?_
  refine lv_iconst (v := 1) hx hb d_Ref_act_211 (by decide) ?_
  refine lv_icmp_ne (tgt := 230) hx hb d_Ref_act_212 (by decide) (fun c_5 => ?_) (fun c_5 => absurd c_5 (by decide))
  refine tp_pc (pc' := 230) (by rfl) ?_
  refine lv_iload_n hx hb d_Ref_act_230 rfl (lv_at hl 2 rfl) ?_
  refine tp_i (y := nI 0) rfl ?_
  obtain ⟨hPc, hDc, hFc⟩ := cut3 (wc := []) hP hD rfl hS hA [] (by decide +kernel) rfl
  have hKc := hK.sub (tys' := []) [] rfl
  refine va_calli (va_runS (As := [.int (nI 0)]) (rest := []) ⟨hx, hb, hml, hown, hw⟩ (gen_Ref_takes l dC dI 0 (by decide) H.size) (cw_S 1 hw g_Ref_takes rfl rfl rfl (hw _ m_109) (hw _ m_1190) (hw _ m_1191) (by decide +kernel) ⟨Nat.le_of_ble_eq_true rfl, Nat.le_of_ble_eq_true rfl⟩) ⟨fun a U g mk q => by obtain ⟨q0, q1, qP, qK, qD, qN⟩ := q; exact ⟨q0, q1, qP, va_K.moved (u := U) (U := U.calling g mk a) (Vm.Alike.refl U.vm) qK, qD, nw_call qN⟩, fun U hU hW => ⟨rfl, by rw [hU], by rw [hU]; exact hPc, va_K.moved hW.alike hKc, hDc.weaken (fun _ _ _ _ => trivial), nw_warm hW hn⟩⟩ rfl rfl hl.1 rfl (lv_room (Nat.le_of_ble_eq_true rfl)) d_Ref_act_231 ⟨Nat.le_of_ble_eq_true rfl, Nat.le_of_ble_eq_true rfl⟩) hS (fun q _ h => hFc q h) hFc ?_
  intro r_6 u t9 H1 locs1 ht9 hvm hw1 hB hz1 hk1 hS1
  obtain ⟨hP1, hK1, hD1⟩ := hB
  rw [ht9] at hP1
  replace hK1 := va_K.moved hvm.symm hK1
  have hPD := join3 hP hD rfl [] [0, 1, 2, 3, 4, 5, 6, 7, 8, 9, 10, 11] rfl (by rfl) (by decide +kernel) (by decide +kernel) hk1 hFc hP1 hD1
  replace hK : va_K (dC, dI) classes [((rK9 33), .int), ((rK9 2), .int), ((rK9 3), .int), ((rK9 4), .int), ((rK9 5), .int), ((rK9 6), .int), ((rK9 34), .int), ((rK9 29), .int), ((rK9 31), .boolean), ((rK9 32), .int), ((rK9 30), .boolean)] s := hK.app hK1
  clear hP1 hK1 hD1 hk1 hz1 hFc hKc hDc hPc hvm ht9 hP hS t9 locs H
  have hP : va_P (dC, dI) classes [oc ra 8 [.int (nI T), .int (nI Ac), .ref (rA 2), .ref (rA 3), .ref (rA 4), .ref (rA 5), .ref (rA 6), .ref (rA 7), .ref (rA 8), .ref (rA 9), .ref (rA 10), .ref (rA 11), .ref (rA 12), .ref (rA 13), .int ir, .ref (rA 15), .ref (rA 16), .ref (rA 17), .ref (rA 18), .int (nI md), .int (nI wd), .ref (rA 21), .ref (rA 22), .ref (rA 23), .int (nI mn), .ref (rA 25), .int (nI cb), .int mr, .ref (rA 28), .ref (rA 29), .ref (rA 30), .ref (rA 31), .ref (rA 32), .ref (rA 33), .ref (rA 34), .ref (rA 35), .int (nI ld), .int (nI gm), .ref (rA 38), .ref (rA 39), .ref (rA 40), .ref (rA 41), .ref (rA 42), .ref (rA 43), .ref (rA 44), .ref (rA 45), .int (nI my), .ref (rA 47)], ia (rA 33) (rK9 33) 4 (fun i => nI ((updN pcn t (pcn t + 1)) i)), ia (rA 2) (rK9 2) 4 (fun i => nI (zs i)), ia (rA 3) (rK9 3) 28 (fun i => nI (kd i)), ia (rA 4) (rK9 4) 28 (fun i => nI (vx i)), ia (rA 5) (rK9 5) 28 (fun i => nI (rr i)), ia (rA 6) (rK9 6) 28 vv, ia (rA 34) (rK9 34) 8 hd9, ia (rA 29) (rK9 29) 28 (fun i0 => mN (fm i0)), ia (rA 31) (rK9 31) 28 (fun i => nI ((updN dn a 1) i)), ia (rA 32) (rK9 32) 28 gv, ia (rA 30) (rK9 30) 28 (fun i => nI ((updN hp a 1) i))] H1 := hPD.1
  replace hD : dd A [ra, (rA 33), (rA 2), (rA 3), (rA 4), (rA 5), (rA 6), (rA 34), (rA 29), (rA 31), (rA 32), (rA 30)] := dd_of hPD.2 rfl
  clear hPD
  revert H1 locs1
  intro H locs hS hP
  refine tp_i (y := 1) (hw1.trans (if_pos (by decide))) ?_
  clear hw1 r_6 u
  refine tp_pc (pc' := 234) (by rfl) ?_
  refine lv_if_eq (tgt := 261) hx hb d_Ref_act_234 (by decide) (fun c_7 => absurd c_7 (by decide)) (fun c_7 => ?_)
  refine tp_pc (pc' := 237) (by rfl) ?_
  refine lv_aload_n hx hb d_Ref_act_237 rfl (lv_at hl 4 rfl) ?_
  refine va_get (D := (dC, dI)) (ci := 8) (v := .ref (rA 34)) (C := R_Ref) (T := F_Ref) (N := 48) hx hb hw i_Ref hown hK hP 0 rfl rfl 34 (by decide) (hw _ m_933) (fun _ h9 => h9) rfl d_Ref_act_238 ?_
  refine lv_iload hx hb d_Ref_act_241 (lv_at hl 1 rfl) ?_
  refine lv_iload hx hb d_Ref_act_243 (lv_at hl 0 rfl) ?_
  refine va_iast (D := (dC, dI)) hx hb hK hP (dd_D hD rfl) hS 7 6 rfl rfl (i := nI (2 * t + (rr a))) (x := gv f9) (pk_in (2 * t + (rr a)) 8 (by omega)) d_Ref_act_245 ?_
  clear hP hS locs H
  intro H locs hP _ hS
  rw [show (nI (2 * t + (rr a)) : Int32).toNatClampNeg = 2 * t + (rr a) from pk_cl (2 * t + (rr a))] at hP
  replace hP : va_P (dC, dI) classes [oc ra 8 [.int (nI T), .int (nI Ac), .ref (rA 2), .ref (rA 3), .ref (rA 4), .ref (rA 5), .ref (rA 6), .ref (rA 7), .ref (rA 8), .ref (rA 9), .ref (rA 10), .ref (rA 11), .ref (rA 12), .ref (rA 13), .int ir, .ref (rA 15), .ref (rA 16), .ref (rA 17), .ref (rA 18), .int (nI md), .int (nI wd), .ref (rA 21), .ref (rA 22), .ref (rA 23), .int (nI mn), .ref (rA 25), .int (nI cb), .int mr, .ref (rA 28), .ref (rA 29), .ref (rA 30), .ref (rA 31), .ref (rA 32), .ref (rA 33), .ref (rA 34), .ref (rA 35), .int (nI ld), .int (nI gm), .ref (rA 38), .ref (rA 39), .ref (rA 40), .ref (rA 41), .ref (rA 42), .ref (rA 43), .ref (rA 44), .ref (rA 45), .int (nI my), .ref (rA 47)], ia (rA 33) (rK9 33) 4 (fun i => nI ((updN pcn t (pcn t + 1)) i)), ia (rA 2) (rK9 2) 4 (fun i => nI (zs i)), ia (rA 3) (rK9 3) 28 (fun i => nI (kd i)), ia (rA 4) (rK9 4) 28 (fun i => nI (vx i)), ia (rA 5) (rK9 5) 28 (fun i => nI (rr i)), ia (rA 6) (rK9 6) 28 vv, ia (rA 34) (rK9 34) 8 (upd hd9 (2 * t + (rr a)) (gv f9)), ia (rA 29) (rK9 29) 28 (fun i0 => mN (fm i0)), ia (rA 31) (rK9 31) 28 (fun i => nI ((updN dn a 1) i)), ia (rA 32) (rK9 32) 28 gv, ia (rA 30) (rK9 30) 28 (fun i => nI ((updN hp a 1) i))] H := hP
  refine tp_pc (pc' := 246) (by rfl) ?_
  refine lv_aload_n hx hb d_Ref_act_246 rfl (lv_at hl 4 rfl) ?_
  refine va_get (D := (dC, dI)) (ci := 8) (v := .ref (rA 32)) (C := R_Ref) (T := F_Ref) (N := 48) hx hb hw i_Ref hown hK hP 0 rfl rfl 32 (by decide) (hw _ m_931) (fun _ h9 => h9) rfl d_Ref_act_247 ?_
  refine lv_iload_n hx hb d_Ref_act_250 rfl (lv_at hl 3 rfl) ?_
  refine lv_iload hx hb d_Ref_act_251 (lv_at hl 0 rfl) ?_
  refine lv_aload_n hx hb d_Ref_act_253 rfl (lv_at hl 4 rfl) ?_
  refine va_get (D := (dC, dI)) (ci := 8) (v := .ref (rA 6)) (C := R_Ref) (T := F_Ref) (N := 48) hx hb hw i_Ref hown hK hP 0 rfl rfl 6 (by decide) (hw _ m_905) (fun _ h9 => h9) rfl d_Ref_act_254 ?_
  refine lv_iload_n hx hb d_Ref_act_257 rfl (lv_at hl 3 rfl) ?_
  refine va_iald (D := (dC, dI)) hx hb hK hP 6 5 rfl rfl (i := nI a) (pk_in a 28 (by omega)) d_Ref_act_258 ?_
  refine tp_i (y := vv a) (by rw [show (nI a : Int32).toNatClampNeg = a from pk_cl a]) ?_
  refine lv_iadd hx hb d_Ref_act_259 ?_
  refine tp_i (y := (gv f9) + (vv a)) rfl ?_
  refine va_iast (D := (dC, dI)) hx hb hK hP (dd_D hD rfl) hS 10 9 rfl rfl (i := nI a) (x := (gv f9) + (vv a)) (pk_in a 28 (by omega)) d_Ref_act_260 ?_
  clear hP hS locs H
  intro H locs hP _ hS
  rw [show (nI a : Int32).toNatClampNeg = a from pk_cl a] at hP
  replace hP : va_P (dC, dI) classes [oc ra 8 [.int (nI T), .int (nI Ac), .ref (rA 2), .ref (rA 3), .ref (rA 4), .ref (rA 5), .ref (rA 6), .ref (rA 7), .ref (rA 8), .ref (rA 9), .ref (rA 10), .ref (rA 11), .ref (rA 12), .ref (rA 13), .int ir, .ref (rA 15), .ref (rA 16), .ref (rA 17), .ref (rA 18), .int (nI md), .int (nI wd), .ref (rA 21), .ref (rA 22), .ref (rA 23), .int (nI mn), .ref (rA 25), .int (nI cb), .int mr, .ref (rA 28), .ref (rA 29), .ref (rA 30), .ref (rA 31), .ref (rA 32), .ref (rA 33), .ref (rA 34), .ref (rA 35), .int (nI ld), .int (nI gm), .ref (rA 38), .ref (rA 39), .ref (rA 40), .ref (rA 41), .ref (rA 42), .ref (rA 43), .ref (rA 44), .ref (rA 45), .int (nI my), .ref (rA 47)], ia (rA 33) (rK9 33) 4 (fun i => nI ((updN pcn t (pcn t + 1)) i)), ia (rA 2) (rK9 2) 4 (fun i => nI (zs i)), ia (rA 3) (rK9 3) 28 (fun i => nI (kd i)), ia (rA 4) (rK9 4) 28 (fun i => nI (vx i)), ia (rA 5) (rK9 5) 28 (fun i => nI (rr i)), ia (rA 6) (rK9 6) 28 vv, ia (rA 34) (rK9 34) 8 (upd hd9 (2 * t + (rr a)) (gv f9)), ia (rA 29) (rK9 29) 28 (fun i0 => mN (fm i0)), ia (rA 31) (rK9 31) 28 (fun i => nI ((updN dn a 1) i)), ia (rA 32) (rK9 32) 28 (upd gv a ((gv f9) + (vv a))), ia (rA 30) (rK9 30) 28 (fun i => nI ((updN hp a 1) i))] H := hP
  refine tp_pc (pc' := 261) (by rfl) ?_
  refine lv_iconst (v := 1) hx hb d_Ref_act_261 (by decide) ?_
  replace hP : va_P (dC, dI) classes [oc ra 8 [.int (nI T), .int (nI Ac), .ref (rA 2), .ref (rA 3), .ref (rA 4), .ref (rA 5), .ref (rA 6), .ref (rA 7), .ref (rA 8), .ref (rA 9), .ref (rA 10), .ref (rA 11), .ref (rA 12), .ref (rA 13), .int ir, .ref (rA 15), .ref (rA 16), .ref (rA 17), .ref (rA 18), .int (nI md), .int (nI wd), .ref (rA 21), .ref (rA 22), .ref (rA 23), .int (nI mn), .ref (rA 25), .int (nI cb), .int mr, .ref (rA 28), .ref (rA 29), .ref (rA 30), .ref (rA 31), .ref (rA 32), .ref (rA 33), .ref (rA 34), .ref (rA 35), .int (nI ld), .int (nI gm), .ref (rA 38), .ref (rA 39), .ref (rA 40), .ref (rA 41), .ref (rA 42), .ref (rA 43), .ref (rA 44), .ref (rA 45), .int (nI my), .ref (rA 47)], ia (rA 33) (rK9 33) 4 (fun i => nI ((updN pcn t (pcn t + 1)) i)), ia (rA 2) (rK9 2) 4 (fun i => nI (zs i)), ia (rA 3) (rK9 3) 28 (fun i => nI (kd i)), ia (rA 4) (rK9 4) 28 (fun i => nI (vx i)), ia (rA 5) (rK9 5) 28 (fun i => nI (rr i)), ia (rA 6) (rK9 6) 28 vv, ia (rA 34) (rK9 34) 8 (upd hd9 (2 * t + rr a) (gv f9)), ia (rA 29) (rK9 29) 28 (fun i0 => mN (fm i0)), ia (rA 31) (rK9 31) 28 (fun i => nI ((updN dn a 1) i)), ia (rA 32) (rK9 32) 28 (upd gv a (gv f9 + vv a)), ia (rA 30) (rK9 30) 28 (fun i => nI ((updN hp a 1) i))] H := hP
  obtain ⟨hP9, hD9, -⟩ := cut3 (wc := [oc ra 8 [.int (nI T), .int (nI Ac), .ref (rA 2), .ref (rA 3), .ref (rA 4), .ref (rA 5), .ref (rA 6), .ref (rA 7), .ref (rA 8), .ref (rA 9), .ref (rA 10), .ref (rA 11), .ref (rA 12), .ref (rA 13), .int ir, .ref (rA 15), .ref (rA 16), .ref (rA 17), .ref (rA 18), .int (nI md), .int (nI wd), .ref (rA 21), .ref (rA 22), .ref (rA 23), .int (nI mn), .ref (rA 25), .int (nI cb), .int mr, .ref (rA 28), .ref (rA 29), .ref (rA 30), .ref (rA 31), .ref (rA 32), .ref (rA 33), .ref (rA 34), .ref (rA 35), .int (nI ld), .int (nI gm), .ref (rA 38), .ref (rA 39), .ref (rA 40), .ref (rA 41), .ref (rA 42), .ref (rA 43), .ref (rA 44), .ref (rA 45), .int (nI my), .ref (rA 47)], ia (rA 33) (rK9 33) 4 (fun i => nI ((updN pcn t (pcn t + 1)) i)), ia (rA 2) (rK9 2) 4 (fun i => nI (zs i)), ia (rA 3) (rK9 3) 28 (fun i => nI (kd i)), ia (rA 4) (rK9 4) 28 (fun i => nI (vx i)), ia (rA 5) (rK9 5) 28 (fun i => nI (rr i)), ia (rA 6) (rK9 6) 28 vv, ia (rA 34) (rK9 34) 8 (upd hd9 (2 * t + rr a) (gv f9)), ia (rA 29) (rK9 29) 28 (fun i0 => mN (fm i0)), ia (rA 31) (rK9 31) 28 (fun i => nI ((updN dn a 1) i)), ia (rA 32) (rK9 32) 28 (upd gv a (gv f9 + vv a)), ia (rA 30) (rK9 30) 28 (fun i => nI ((updN hp a 1) i))]) hP hD rfl hS hA [0, 1, 2, 3, 4, 5, 6, 7, 8, 9, 10, 11] (by decide +kernel) rfl
  have hK9 := hK.sub (tys' := []) [] rfl
  refine W.widen (k := 0) (n := 0) (by exact Nat.le_of_ble_eq_true rfl) (by exact Nat.le_of_ble_eq_true rfl) ?_
  exact W.zret (v := 1) (ty := .boolean) hx hb hr (by decide) (fun t9 ht9 hW => ⟨⟨1, (), rfl, rfl, by rw [ht9]; exact hP9, va_K.moved hW.alike hK9, hD9⟩, hS.F ht9⟩) hS.2.2 d_Ref_act_262
set_option maxHeartbeats 4000000 in
set_option maxRecDepth 100000 in
theorem gen_Ref_act_3n (l : Launch) (dC : Nat → ClassId) (dI : Nat → Nat → Nat) (ra : Nat) (rA : Nat → Nat) (rK9 : Nat → ClassId) (T Ac md wd mn cb ld gm my : Nat) (ir mr : Int32) (t a : Nat) (pcn zs kd vx rr fm dn hp : Nat → Nat) (vv hd9 gv : Nat → Int32) (ht : t < 4) (ha : a = 7 * t + pcn t) (hpc : pcn t < zs t) (hzt : zs t ≤ 7) (hvx : vx a < 4) (hrr : rr a < 2) (hk : kd a = 3) (hf0 : fm a = 0) (sz : Nat) : Met l y_Ref_act w_Ref_act ({ frames := 1, cells := 0, slots := 0, locals := 40 }) (va_Pc [.ref ra, .int (nI t)] (fun U => U.heap.size = sz ∧ va_P (dC, dI) classes [oc ra 8 [.int (nI T), .int (nI Ac), .ref (rA 2), .ref (rA 3), .ref (rA 4), .ref (rA 5), .ref (rA 6), .ref (rA 7), .ref (rA 8), .ref (rA 9), .ref (rA 10), .ref (rA 11), .ref (rA 12), .ref (rA 13), .int ir, .ref (rA 15), .ref (rA 16), .ref (rA 17), .ref (rA 18), .int (nI md), .int (nI wd), .ref (rA 21), .ref (rA 22), .ref (rA 23), .int (nI mn), .ref (rA 25), .int (nI cb), .int mr, .ref (rA 28), .ref (rA 29), .ref (rA 30), .ref (rA 31), .ref (rA 32), .ref (rA 33), .ref (rA 34), .ref (rA 35), .int (nI ld), .int (nI gm), .ref (rA 38), .ref (rA 39), .ref (rA 40), .ref (rA 41), .ref (rA 42), .ref (rA 43), .ref (rA 44), .ref (rA 45), .int (nI my), .ref (rA 47)], ia (rA 33) (rK9 33) 4 (fun i => nI (pcn i)), ia (rA 2) (rK9 2) 4 (fun i => nI (zs i)), ia (rA 3) (rK9 3) 28 (fun i => nI (kd i)), ia (rA 4) (rK9 4) 28 (fun i => nI (vx i)), ia (rA 5) (rK9 5) 28 (fun i => nI (rr i)), ia (rA 6) (rK9 6) 28 vv, ia (rA 34) (rK9 34) 8 hd9, ia (rA 29) (rK9 29) 28 (fun i0 => mN (fm i0)), ia (rA 31) (rK9 31) 28 (fun i => nI (dn i)), ia (rA 32) (rK9 32) 28 gv, ia (rA 30) (rK9 30) 28 (fun i => nI (hp i))] U.heap ∧ va_K (dC, dI) classes [((rK9 33), .int), ((rK9 2), .int), ((rK9 3), .int), ((rK9 4), .int), ((rK9 5), .int), ((rK9 6), .int), ((rK9 34), .int), ((rK9 29), .int), ((rK9 31), .boolean), ((rK9 32), .int), ((rK9 30), .boolean)] U ∧ va_D (fun _ => True) [oc ra 8 [.int (nI T), .int (nI Ac), .ref (rA 2), .ref (rA 3), .ref (rA 4), .ref (rA 5), .ref (rA 6), .ref (rA 7), .ref (rA 8), .ref (rA 9), .ref (rA 10), .ref (rA 11), .ref (rA 12), .ref (rA 13), .int ir, .ref (rA 15), .ref (rA 16), .ref (rA 17), .ref (rA 18), .int (nI md), .int (nI wd), .ref (rA 21), .ref (rA 22), .ref (rA 23), .int (nI mn), .ref (rA 25), .int (nI cb), .int mr, .ref (rA 28), .ref (rA 29), .ref (rA 30), .ref (rA 31), .ref (rA 32), .ref (rA 33), .ref (rA 34), .ref (rA 35), .int (nI ld), .int (nI gm), .ref (rA 38), .ref (rA 39), .ref (rA 40), .ref (rA 41), .ref (rA 42), .ref (rA 43), .ref (rA 44), .ref (rA 45), .int (nI my), .ref (rA 47)], ia (rA 33) (rK9 33) 4 (fun i => nI (pcn i)), ia (rA 2) (rK9 2) 4 (fun i => nI (zs i)), ia (rA 3) (rK9 3) 28 (fun i => nI (kd i)), ia (rA 4) (rK9 4) 28 (fun i => nI (vx i)), ia (rA 5) (rK9 5) 28 (fun i => nI (rr i)), ia (rA 6) (rK9 6) 28 vv, ia (rA 34) (rK9 34) 8 hd9, ia (rA 29) (rK9 29) 28 (fun i0 => mN (fm i0)), ia (rA 31) (rK9 31) 28 (fun i => nI (dn i)), ia (rA 32) (rK9 32) 28 gv, ia (rA 30) (rK9 30) 28 (fun i => nI (hp i))] ∧ nw U)) (va_Qi (fun (r : Int32) (_ : Unit) => r = 1) (fun _ t9 => va_P (dC, dI) classes [oc ra 8 [.int (nI T), .int (nI Ac), .ref (rA 2), .ref (rA 3), .ref (rA 4), .ref (rA 5), .ref (rA 6), .ref (rA 7), .ref (rA 8), .ref (rA 9), .ref (rA 10), .ref (rA 11), .ref (rA 12), .ref (rA 13), .int ir, .ref (rA 15), .ref (rA 16), .ref (rA 17), .ref (rA 18), .int (nI md), .int (nI wd), .ref (rA 21), .ref (rA 22), .ref (rA 23), .int (nI mn), .ref (rA 25), .int (nI cb), .int mr, .ref (rA 28), .ref (rA 29), .ref (rA 30), .ref (rA 31), .ref (rA 32), .ref (rA 33), .ref (rA 34), .ref (rA 35), .int (nI ld), .int (nI gm), .ref (rA 38), .ref (rA 39), .ref (rA 40), .ref (rA 41), .ref (rA 42), .ref (rA 43), .ref (rA 44), .ref (rA 45), .int (nI my), .ref (rA 47)], ia (rA 33) (rK9 33) 4 (fun i => nI ((updN pcn t (pcn t + 1)) i)), ia (rA 2) (rK9 2) 4 (fun i => nI (zs i)), ia (rA 3) (rK9 3) 28 (fun i => nI (kd i)), ia (rA 4) (rK9 4) 28 (fun i => nI (vx i)), ia (rA 5) (rK9 5) 28 (fun i => nI (rr i)), ia (rA 6) (rK9 6) 28 vv, ia (rA 34) (rK9 34) 8 (upd hd9 (2 * t + rr a) ((0 : Int32))), ia (rA 29) (rK9 29) 28 (fun i0 => mN (fm i0)), ia (rA 31) (rK9 31) 28 (fun i => nI ((updN dn a 1) i)), ia (rA 32) (rK9 32) 28 (upd gv a ((0 : Int32) + vv a)), ia (rA 30) (rK9 30) 28 (fun i => nI ((updN hp a 1) i))] t9.heap ∧ va_K (dC, dI) classes [] t9 ∧ va_D (va_A [oc ra 8 [.int (nI T), .int (nI Ac), .ref (rA 2), .ref (rA 3), .ref (rA 4), .ref (rA 5), .ref (rA 6), .ref (rA 7), .ref (rA 8), .ref (rA 9), .ref (rA 10), .ref (rA 11), .ref (rA 12), .ref (rA 13), .int ir, .ref (rA 15), .ref (rA 16), .ref (rA 17), .ref (rA 18), .int (nI md), .int (nI wd), .ref (rA 21), .ref (rA 22), .ref (rA 23), .int (nI mn), .ref (rA 25), .int (nI cb), .int mr, .ref (rA 28), .ref (rA 29), .ref (rA 30), .ref (rA 31), .ref (rA 32), .ref (rA 33), .ref (rA 34), .ref (rA 35), .int (nI ld), .int (nI gm), .ref (rA 38), .ref (rA 39), .ref (rA 40), .ref (rA 41), .ref (rA 42), .ref (rA 43), .ref (rA 44), .ref (rA 45), .int (nI my), .ref (rA 47)], ia (rA 33) (rK9 33) 4 (fun i => nI (pcn i)), ia (rA 2) (rK9 2) 4 (fun i => nI (zs i)), ia (rA 3) (rK9 3) 28 (fun i => nI (kd i)), ia (rA 4) (rK9 4) 28 (fun i => nI (vx i)), ia (rA 5) (rK9 5) 28 (fun i => nI (rr i)), ia (rA 6) (rK9 6) 28 vv, ia (rA 34) (rK9 34) 8 hd9, ia (rA 29) (rK9 29) 28 (fun i0 => mN (fm i0)), ia (rA 31) (rK9 31) 28 (fun i => nI (dn i)), ia (rA 32) (rK9 32) 28 gv, ia (rA 30) (rK9 30) 28 (fun i => nI (hp i))] sz) [oc ra 8 [.int (nI T), .int (nI Ac), .ref (rA 2), .ref (rA 3), .ref (rA 4), .ref (rA 5), .ref (rA 6), .ref (rA 7), .ref (rA 8), .ref (rA 9), .ref (rA 10), .ref (rA 11), .ref (rA 12), .ref (rA 13), .int ir, .ref (rA 15), .ref (rA 16), .ref (rA 17), .ref (rA 18), .int (nI md), .int (nI wd), .ref (rA 21), .ref (rA 22), .ref (rA 23), .int (nI mn), .ref (rA 25), .int (nI cb), .int mr, .ref (rA 28), .ref (rA 29), .ref (rA 30), .ref (rA 31), .ref (rA 32), .ref (rA 33), .ref (rA 34), .ref (rA 35), .int (nI ld), .int (nI gm), .ref (rA 38), .ref (rA 39), .ref (rA 40), .ref (rA 41), .ref (rA 42), .ref (rA 43), .ref (rA 44), .ref (rA 45), .int (nI my), .ref (rA 47)], ia (rA 33) (rK9 33) 4 (fun i => nI ((updN pcn t (pcn t + 1)) i)), ia (rA 2) (rK9 2) 4 (fun i => nI (zs i)), ia (rA 3) (rK9 3) 28 (fun i => nI (kd i)), ia (rA 4) (rK9 4) 28 (fun i => nI (vx i)), ia (rA 5) (rK9 5) 28 (fun i => nI (rr i)), ia (rA 6) (rK9 6) 28 vv, ia (rA 34) (rK9 34) 8 (upd hd9 (2 * t + rr a) ((0 : Int32))), ia (rA 29) (rK9 29) 28 (fun i0 => mN (fm i0)), ia (rA 31) (rK9 31) 28 (fun i => nI ((updN dn a 1) i)), ia (rA 32) (rK9 32) 28 (upd gv a ((0 : Int32) + vv a)), ia (rA 30) (rK9 30) 28 (fun i => nI ((updN hp a 1) i))]) (va_A [oc ra 8 [.int (nI T), .int (nI Ac), .ref (rA 2), .ref (rA 3), .ref (rA 4), .ref (rA 5), .ref (rA 6), .ref (rA 7), .ref (rA 8), .ref (rA 9), .ref (rA 10), .ref (rA 11), .ref (rA 12), .ref (rA 13), .int ir, .ref (rA 15), .ref (rA 16), .ref (rA 17), .ref (rA 18), .int (nI md), .int (nI wd), .ref (rA 21), .ref (rA 22), .ref (rA 23), .int (nI mn), .ref (rA 25), .int (nI cb), .int mr, .ref (rA 28), .ref (rA 29), .ref (rA 30), .ref (rA 31), .ref (rA 32), .ref (rA 33), .ref (rA 34), .ref (rA 35), .int (nI ld), .int (nI gm), .ref (rA 38), .ref (rA 39), .ref (rA 40), .ref (rA 41), .ref (rA 42), .ref (rA 43), .ref (rA 44), .ref (rA 45), .int (nI my), .ref (rA 47)], ia (rA 33) (rK9 33) 4 (fun i => nI (pcn i)), ia (rA 2) (rK9 2) 4 (fun i => nI (zs i)), ia (rA 3) (rK9 3) 28 (fun i => nI (kd i)), ia (rA 4) (rK9 4) 28 (fun i => nI (vx i)), ia (rA 5) (rK9 5) 28 (fun i => nI (rr i)), ia (rA 6) (rK9 6) 28 vv, ia (rA 34) (rK9 34) 8 hd9, ia (rA 29) (rK9 29) 28 (fun i0 => mN (fm i0)), ia (rA 31) (rK9 31) 28 (fun i => nI (dn i)), ia (rA 32) (rK9 32) 28 gv, ia (rA 30) (rK9 30) 28 (fun i => nI (hp i))] sz)) 0 0 (va_A [oc ra 8 [.int (nI T), .int (nI Ac), .ref (rA 2), .ref (rA 3), .ref (rA 4), .ref (rA 5), .ref (rA 6), .ref (rA 7), .ref (rA 8), .ref (rA 9), .ref (rA 10), .ref (rA 11), .ref (rA 12), .ref (rA 13), .int ir, .ref (rA 15), .ref (rA 16), .ref (rA 17), .ref (rA 18), .int (nI md), .int (nI wd), .ref (rA 21), .ref (rA 22), .ref (rA 23), .int (nI mn), .ref (rA 25), .int (nI cb), .int mr, .ref (rA 28), .ref (rA 29), .ref (rA 30), .ref (rA 31), .ref (rA 32), .ref (rA 33), .ref (rA 34), .ref (rA 35), .int (nI ld), .int (nI gm), .ref (rA 38), .ref (rA 39), .ref (rA 40), .ref (rA 41), .ref (rA 42), .ref (rA 43), .ref (rA 44), .ref (rA 45), .int (nI my), .ref (rA 47)], ia (rA 33) (rK9 33) 4 (fun i => nI (pcn i)), ia (rA 2) (rK9 2) 4 (fun i => nI (zs i)), ia (rA 3) (rK9 3) 28 (fun i => nI (kd i)), ia (rA 4) (rK9 4) 28 (fun i => nI (vx i)), ia (rA 5) (rK9 5) 28 (fun i => nI (rr i)), ia (rA 6) (rK9 6) 28 vv, ia (rA 34) (rK9 34) 8 hd9, ia (rA 29) (rK9 29) 28 (fun i0 => mN (fm i0)), ia (rA 31) (rK9 31) 28 (fun i => nI (dn i)), ia (rA 32) (rK9 32) 28 gv, ia (rA 30) (rK9 30) 28 (fun i => nI (hp i))] sz) := by
  refine Met.ofW (cc := b_Ref_act) (maxL := 6) (ret := (some .boolean)) (by decide) rfl ?_
  intro p e0 s m args below meth c s₁ B hml hv
  obtain ⟨rfl, hsz, hP, hK, hD0, hn⟩ := hv
  have hx := B.exec
  have hb := B.bytes
  have hr := B.returns
  have hw := fun w (h : w ∈ wt) => atoms_spec (ws := w_Ref_act) B.pre w (List.mem_cons_of_mem _ h)
  have hown : s.vm.findClass R_Ref = some m.cls := findClass_of_methodNamed B.named
  have hlocks := B.notSynchronized
  subst hsz
  have hD1 := hD0.self (sz := s.heap.size)
  generalize hAe : va_A [oc ra 8 [.int (nI T), .int (nI Ac), .ref (rA 2), .ref (rA 3), .ref (rA 4), .ref (rA 5), .ref (rA 6), .ref (rA 7), .ref (rA 8), .ref (rA 9), .ref (rA 10), .ref (rA 11), .ref (rA 12), .ref (rA 13), .int ir, .ref (rA 15), .ref (rA 16), .ref (rA 17), .ref (rA 18), .int (nI md), .int (nI wd), .ref (rA 21), .ref (rA 22), .ref (rA 23), .int (nI mn), .ref (rA 25), .int (nI cb), .int mr, .ref (rA 28), .ref (rA 29), .ref (rA 30), .ref (rA 31), .ref (rA 32), .ref (rA 33), .ref (rA 34), .ref (rA 35), .int (nI ld), .int (nI gm), .ref (rA 38), .ref (rA 39), .ref (rA 40), .ref (rA 41), .ref (rA 42), .ref (rA 43), .ref (rA 44), .ref (rA 45), .int (nI my), .ref (rA 47)], ia (rA 33) (rK9 33) 4 (fun i => nI (pcn i)), ia (rA 2) (rK9 2) 4 (fun i => nI (zs i)), ia (rA 3) (rK9 3) 28 (fun i => nI (kd i)), ia (rA 4) (rK9 4) 28 (fun i => nI (vx i)), ia (rA 5) (rK9 5) 28 (fun i => nI (rr i)), ia (rA 6) (rK9 6) 28 vv, ia (rA 34) (rK9 34) 8 hd9, ia (rA 29) (rK9 29) 28 (fun i0 => mN (fm i0)), ia (rA 31) (rK9 31) 28 (fun i => nI (dn i)), ia (rA 32) (rK9 32) 28 gv, ia (rA 30) (rK9 30) 28 (fun i => nI (hp i))] s.heap.size = A at hD1 ⊢
  have hA : ∀ q : Nat, s.heap.size ≤ q → A q := fun q h => by rw [← hAe]; exact Or.inr h
  have hD : dd A [ra, (rA 33), (rA 2), (rA 3), (rA 4), (rA 5), (rA 6), (rA 34), (rA 29), (rA 31), (rA 32), (rA 30)] := dd_of hD1 rfl
  clear hAe hD0 hD1
  have hS : va_S A s.heap s.heap [] := va_S.rf
  replace hP : va_P (dC, dI) classes [oc ra 8 [.int (nI T), .int (nI Ac), .ref (rA 2), .ref (rA 3), .ref (rA 4), .ref (rA 5), .ref (rA 6), .ref (rA 7), .ref (rA 8), .ref (rA 9), .ref (rA 10), .ref (rA 11), .ref (rA 12), .ref (rA 13), .int ir, .ref (rA 15), .ref (rA 16), .ref (rA 17), .ref (rA 18), .int (nI md), .int (nI wd), .ref (rA 21), .ref (rA 22), .ref (rA 23), .int (nI mn), .ref (rA 25), .int (nI cb), .int mr, .ref (rA 28), .ref (rA 29), .ref (rA 30), .ref (rA 31), .ref (rA 32), .ref (rA 33), .ref (rA 34), .ref (rA 35), .int (nI ld), .int (nI gm), .ref (rA 38), .ref (rA 39), .ref (rA 40), .ref (rA 41), .ref (rA 42), .ref (rA 43), .ref (rA 44), .ref (rA 45), .int (nI my), .ref (rA 47)], ia (rA 33) (rK9 33) 4 (fun i => nI (pcn i)), ia (rA 2) (rK9 2) 4 (fun i => nI (zs i)), ia (rA 3) (rK9 3) 28 (fun i => nI (kd i)), ia (rA 4) (rK9 4) 28 (fun i => nI (vx i)), ia (rA 5) (rK9 5) 28 (fun i => nI (rr i)), ia (rA 6) (rK9 6) 28 vv, ia (rA 34) (rK9 34) 8 hd9, ia (rA 29) (rK9 29) 28 (fun i0 => mN (fm i0)), ia (rA 31) (rK9 31) 28 (fun i => nI (dn i)), ia (rA 32) (rK9 32) 28 gv, ia (rA 30) (rK9 30) 28 (fun i => nI (hp i))] s.heap := hP
  have hl := lv_entry ([.ref ra, .int (nI t)]) (n := 6) (Nat.le_of_ble_eq_true rfl)
  rw [lg_entry_eq]
  generalize (lg_sl ([.ref ra, .int (nI t)]) ++ List.replicate (6 - (lg_sl ([.ref ra, .int (nI t)])).length) Slot.unset).toArray = ls at hl ⊢
  replace hl : lv_has ls 6 [(0, .ref ra), (1, .int (nI t))] := hl
  refine lv_bipush (v := 7) hx hb d_Ref_act_0 (by decide) ?_
  refine lv_iload_n hx hb d_Ref_act_2 rfl (lv_at hl 1 rfl) ?_
  refine lv_imul hx hb d_Ref_act_3 ?_
  refine tp_i (y := nI (7 * t)) (by exact pk_mul 7 t) ?_
  refine lv_aload_n hx hb d_Ref_act_4 rfl (lv_at hl 0 rfl) ?_
  refine va_get (D := (dC, dI)) (ci := 8) (v := .ref (rA 33)) (C := R_Ref) (T := F_Ref) (N := 48) hx hb hw i_Ref hown hK hP 0 rfl rfl 33 (by decide) (hw _ m_932) (fun _ h9 => h9) rfl d_Ref_act_5 ?_
  refine lv_iload_n hx hb d_Ref_act_8 rfl (lv_at hl 1 rfl) ?_
  refine va_iald (D := (dC, dI)) hx hb hK hP 1 0 rfl rfl (i := nI t) (pk_in t 4 (by omega)) d_Ref_act_9 ?_
  refine tp_i (y := nI (pcn t)) (by rw [show (nI t : Int32).toNatClampNeg = t from pk_cl t]) ?_
  refine lv_iadd hx hb d_Ref_act_10 ?_
  refine tp_i (y := nI (7 * t + (pcn t))) (by exact nI_add (7 * t) (pcn t)) ?_
  refine tp_i (y := nI a) (by rw [ha]) ?_
  refine lv_istore_n (lv' := [(2, .int (nI a)), (0, .ref ra), (1, .int (nI t))]) hx hb d_Ref_act_11 rfl hl (by decide) rfl ?_
  clear hl ls
  intro ls hl
  refine lv_aload_n hx hb d_Ref_act_12 rfl (lv_at hl 1 rfl) ?_
  refine va_get (D := (dC, dI)) (ci := 8) (v := .ref (rA 3)) (C := R_Ref) (T := F_Ref) (N := 48) hx hb hw i_Ref hown hK hP 0 rfl rfl 3 (by decide) (hw _ m_902) (fun _ h9 => h9) rfl d_Ref_act_13 ?_
  refine lv_iload_n hx hb d_Ref_act_16 rfl (lv_at hl 0 rfl) ?_
  refine va_iald (D := (dC, dI)) hx hb hK hP 3 2 rfl rfl (i := nI a) (pk_in a 28 (by omega)) d_Ref_act_17 ?_
  refine tp_i (y := nI (kd a)) (by rw [show (nI a : Int32).toNatClampNeg = a from pk_cl a]) ?_
  refine tp_i (y := 3) (by rw [hk]; rfl) ?_
  refine lv_istore_n (lv' := [(3, .int 3), (2, .int (nI a)), (0, .ref ra), (1, .int (nI t))]) hx hb d_Ref_act_18 rfl hl (by decide) rfl ?_
  clear hl ls
  intro ls hl
  refine lv_iconst (v := 2) hx hb d_Ref_act_19 (by decide) ?_
  refine lv_iload_n hx hb d_Ref_act_20 rfl (lv_at hl 3 rfl) ?_
  refine lv_imul hx hb d_Ref_act_21 ?_
  refine tp_i (y := nI (2 * t)) (by exact pk_mul 2 t) ?_
  refine lv_aload_n hx hb d_Ref_act_22 rfl (lv_at hl 2 rfl) ?_
  refine va_get (D := (dC, dI)) (ci := 8) (v := .ref (rA 5)) (C := R_Ref) (T := F_Ref) (N := 48) hx hb hw i_Ref hown hK hP 0 rfl rfl 5 (by decide) (hw _ m_904) (fun _ h9 => h9) rfl d_Ref_act_23 ?_
  refine lv_iload_n hx hb d_Ref_act_26 rfl (lv_at hl 1 rfl) ?_
  refine va_iald (D := (dC, dI)) hx hb hK hP 5 4 rfl rfl (i := nI a) (pk_in a 28 (by omega)) d_Ref_act_27 ?_
  refine tp_i (y := nI (rr a)) (by rw [show (nI a : Int32).toNatClampNeg = a from pk_cl a]) ?_
  refine lv_iadd hx hb d_Ref_act_28 ?_
  refine tp_i (y := nI (2 * t + (rr a))) (by exact nI_add (2 * t) (rr a)) ?_
  refine lv_istore (lv' := [(4, .int (nI (2 * t + (rr a)))), (3, .int 3), (2, .int (nI a)), (0, .ref ra), (1, .int (nI t))]) hx hb d_Ref_act_29 hl (by decide) rfl ?_
  clear hl ls
  intro ls hl
  refine lv_iload_n hx hb d_Ref_act_31 rfl (lv_at hl 1 rfl) ?_
  refine lv_iconst (v := 5) hx hb d_Ref_act_32 (by decide) ?_
  refine lv_icmp_ne (tgt := 110) hx hb d_Ref_act_33 (by decide) (fun c_1 => ?_) (fun c_1 => absurd c_1 (by decide))
  refine tp_pc (pc' := 110) (by rfl) ?_
  refine lv_iconst (v := 0) hx hb d_Ref_act_110 (by decide) ?_
  refine lv_istore (lv' := [(5, .int 0), (4, .int (nI (2 * t + (rr a)))), (3, .int 3), (2, .int (nI a)), (0, .ref ra), (1, .int (nI t))]) hx hb d_Ref_act_111 hl (by decide) rfl ?_
  clear hl ls
  intro ls hl
  refine lv_iload_n hx hb d_Ref_act_113 rfl (lv_at hl 2 rfl) ?_
  refine tp_i (y := nI 3) rfl ?_
  obtain ⟨hPc, hDc, hFc⟩ := cut3 (wc := []) hP hD rfl hS hA [] (by decide +kernel) rfl
  have hKc := hK.sub (tys' := []) [] rfl
  refine va_calli (va_runS (As := [.int (nI 3)]) (rest := []) ⟨hx, hb, hml, hown, hw⟩ (gen_Ref_takes l dC dI 3 (by decide) s.heap.size) (cw_S 1 hw g_Ref_takes rfl rfl rfl (hw _ m_109) (hw _ m_1190) (hw _ m_1191) (by decide +kernel) ⟨Nat.le_of_ble_eq_true rfl, Nat.le_of_ble_eq_true rfl⟩) ⟨fun a U g mk q => by obtain ⟨q0, q1, qP, qK, qD, qN⟩ := q; exact ⟨q0, q1, qP, va_K.moved (u := U) (U := U.calling g mk a) (Vm.Alike.refl U.vm) qK, qD, nw_call qN⟩, fun U hU hW => ⟨rfl, by rw [hU], by rw [hU]; exact hPc, va_K.moved hW.alike hKc, hDc.weaken (fun _ _ _ _ => trivial), nw_warm hW hn⟩⟩ rfl rfl hl.1 rfl (lv_room (Nat.le_of_ble_eq_true rfl)) d_Ref_act_114 ⟨Nat.le_of_ble_eq_true rfl, Nat.le_of_ble_eq_true rfl⟩) hS (fun q _ h => hFc q h) hFc ?_
  intro r_2 u t9 H1 locs1 ht9 hvm hw1 hB hz1 hk1 hS1
  obtain ⟨hP1, hK1, hD1⟩ := hB
  rw [ht9] at hP1
  replace hK1 := va_K.moved hvm.symm hK1
  have hPD := join3 hP hD rfl [] [0, 1, 2, 3, 4, 5, 6, 7, 8, 9, 10, 11] rfl (by rfl) (by decide +kernel) (by decide +kernel) hk1 hFc hP1 hD1
  replace hK : va_K (dC, dI) classes [((rK9 33), .int), ((rK9 2), .int), ((rK9 3), .int), ((rK9 4), .int), ((rK9 5), .int), ((rK9 6), .int), ((rK9 34), .int), ((rK9 29), .int), ((rK9 31), .boolean), ((rK9 32), .int), ((rK9 30), .boolean)] s := hK.app hK1
  clear hP1 hK1 hD1 hk1 hz1 hFc hKc hDc hPc hvm ht9 hP hS t9
  have hP : va_P (dC, dI) classes [oc ra 8 [.int (nI T), .int (nI Ac), .ref (rA 2), .ref (rA 3), .ref (rA 4), .ref (rA 5), .ref (rA 6), .ref (rA 7), .ref (rA 8), .ref (rA 9), .ref (rA 10), .ref (rA 11), .ref (rA 12), .ref (rA 13), .int ir, .ref (rA 15), .ref (rA 16), .ref (rA 17), .ref (rA 18), .int (nI md), .int (nI wd), .ref (rA 21), .ref (rA 22), .ref (rA 23), .int (nI mn), .ref (rA 25), .int (nI cb), .int mr, .ref (rA 28), .ref (rA 29), .ref (rA 30), .ref (rA 31), .ref (rA 32), .ref (rA 33), .ref (rA 34), .ref (rA 35), .int (nI ld), .int (nI gm), .ref (rA 38), .ref (rA 39), .ref (rA 40), .ref (rA 41), .ref (rA 42), .ref (rA 43), .ref (rA 44), .ref (rA 45), .int (nI my), .ref (rA 47)], ia (rA 33) (rK9 33) 4 (fun i => nI (pcn i)), ia (rA 2) (rK9 2) 4 (fun i => nI (zs i)), ia (rA 3) (rK9 3) 28 (fun i => nI (kd i)), ia (rA 4) (rK9 4) 28 (fun i => nI (vx i)), ia (rA 5) (rK9 5) 28 (fun i => nI (rr i)), ia (rA 6) (rK9 6) 28 vv, ia (rA 34) (rK9 34) 8 hd9, ia (rA 29) (rK9 29) 28 (fun i0 => mN (fm i0)), ia (rA 31) (rK9 31) 28 (fun i => nI (dn i)), ia (rA 32) (rK9 32) 28 gv, ia (rA 30) (rK9 30) 28 (fun i => nI (hp i))] H1 := hPD.1
  replace hD : dd A [ra, (rA 33), (rA 2), (rA 3), (rA 4), (rA 5), (rA 6), (rA 34), (rA 29), (rA 31), (rA 32), (rA 30)] := dd_of hPD.2 rfl
  clear hPD
  revert H1 locs1
  intro H locs hS hP
  refine tp_i (y := 1) (hw1.trans (if_pos (by decide))) ?_
  clear hw1 r_2 u
  refine tp_pc (pc' := 117) (by rfl) ?_
  refine lv_if_eq (tgt := 158) hx hb d_Ref_act_117 (by decide) (fun c_3 => absurd c_3 (by decide)) (fun c_3 => ?_)
  refine tp_pc (pc' := 120) (by rfl) ?_
  refine lv_aload_n hx hb d_Ref_act_120 rfl (lv_at hl 4 rfl) ?_
  refine va_get (D := (dC, dI)) (ci := 8) (v := .ref (rA 29)) (C := R_Ref) (T := F_Ref) (N := 48) hx hb hw i_Ref hown hK hP 0 rfl rfl 29 (by decide) (hw _ m_928) (fun _ h9 => h9) rfl d_Ref_act_121 ?_
  refine lv_iload_n hx hb d_Ref_act_124 rfl (lv_at hl 3 rfl) ?_
  refine va_iald (D := (dC, dI)) hx hb hK hP 8 7 rfl rfl (i := nI a) (pk_in a 28 (by omega)) d_Ref_act_125 ?_
  refine tp_i (y := (fun i0 => mN (fm i0)) a) (by rw [show (nI a : Int32).toNatClampNeg = a from pk_cl a]) ?_
  refine tp_i (y := -1) (show mN (fm a) = -1 from by rw [hf0]; rfl) ?_
  refine lv_if_lt (tgt := 158) hx hb d_Ref_act_126 (by decide) (fun c_4 => ?_) (fun c_4 => absurd c_4 (by decide))
  refine tp_pc (pc' := 158) (by rfl) ?_
  refine lv_aload_n hx hb d_Ref_act_158 rfl (lv_at hl 4 rfl) ?_
  refine va_get (D := (dC, dI)) (ci := 8) (v := .ref (rA 30)) (C := R_Ref) (T := F_Ref) (N := 48) hx hb hw i_Ref hown hK hP 0 rfl rfl 30 (by decide) (hw _ m_929) (fun _ h9 => h9) rfl d_Ref_act_159 ?_
  refine lv_iload_n hx hb d_Ref_act_162 rfl (lv_at hl 3 rfl) ?_
  refine lv_iconst (v := 1) hx hb d_Ref_act_163 (by decide) ?_
  refine tp_i (y := nI 1) rfl ?_
  refine va_zast (D := (dC, dI)) hx hb hK hP (dd_D hD rfl) hS 11 10 rfl rfl (i := nI a) (x := nI 1) (pk_in a 28 (by omega)) d_Ref_act_164 ?_
  clear hP hS locs H
  intro H locs hP _ hS
  rw [show (nI a : Int32).toNatClampNeg = a from pk_cl a] at hP
  rw [show vp_nar .boolean (nI 1) = (nI 1) from by decide] at hP
  rw [show upd (fun i => nI (hp i)) a (nI 1) = fun i => nI (updN hp a 1 i) from upd_nI] at hP
  replace hP : va_P (dC, dI) classes [oc ra 8 [.int (nI T), .int (nI Ac), .ref (rA 2), .ref (rA 3), .ref (rA 4), .ref (rA 5), .ref (rA 6), .ref (rA 7), .ref (rA 8), .ref (rA 9), .ref (rA 10), .ref (rA 11), .ref (rA 12), .ref (rA 13), .int ir, .ref (rA 15), .ref (rA 16), .ref (rA 17), .ref (rA 18), .int (nI md), .int (nI wd), .ref (rA 21), .ref (rA 22), .ref (rA 23), .int (nI mn), .ref (rA 25), .int (nI cb), .int mr, .ref (rA 28), .ref (rA 29), .ref (rA 30), .ref (rA 31), .ref (rA 32), .ref (rA 33), .ref (rA 34), .ref (rA 35), .int (nI ld), .int (nI gm), .ref (rA 38), .ref (rA 39), .ref (rA 40), .ref (rA 41), .ref (rA 42), .ref (rA 43), .ref (rA 44), .ref (rA 45), .int (nI my), .ref (rA 47)], ia (rA 33) (rK9 33) 4 (fun i => nI (pcn i)), ia (rA 2) (rK9 2) 4 (fun i => nI (zs i)), ia (rA 3) (rK9 3) 28 (fun i => nI (kd i)), ia (rA 4) (rK9 4) 28 (fun i => nI (vx i)), ia (rA 5) (rK9 5) 28 (fun i => nI (rr i)), ia (rA 6) (rK9 6) 28 vv, ia (rA 34) (rK9 34) 8 hd9, ia (rA 29) (rK9 29) 28 (fun i0 => mN (fm i0)), ia (rA 31) (rK9 31) 28 (fun i => nI (dn i)), ia (rA 32) (rK9 32) 28 gv, ia (rA 30) (rK9 30) 28 (fun i => nI ((updN hp a 1) i))] H := hP
  refine tp_pc (pc' := 165) (by rfl) ?_
  refine lv_aload_n hx hb d_Ref_act_165 rfl (lv_at hl 4 rfl) ?_
  refine va_get (D := (dC, dI)) (ci := 8) (v := .ref (rA 31)) (C := R_Ref) (T := F_Ref) (N := 48) hx hb hw i_Ref hown hK hP 0 rfl rfl 31 (by decide) (hw _ m_930) (fun _ h9 => h9) rfl d_Ref_act_166 ?_
  refine lv_iload_n hx hb d_Ref_act_169 rfl (lv_at hl 3 rfl) ?_
  refine lv_iconst (v := 1) hx hb d_Ref_act_170 (by decide) ?_
  refine tp_i (y := nI 1) rfl ?_
  refine va_zast (D := (dC, dI)) hx hb hK hP (dd_D hD rfl) hS 9 8 rfl rfl (i := nI a) (x := nI 1) (pk_in a 28 (by omega)) d_Ref_act_171 ?_
  clear hP hS locs H
  intro H locs hP _ hS
  rw [show (nI a : Int32).toNatClampNeg = a from pk_cl a] at hP
  rw [show vp_nar .boolean (nI 1) = (nI 1) from by decide] at hP
  rw [show upd (fun i => nI (dn i)) a (nI 1) = fun i => nI (updN dn a 1 i) from upd_nI] at hP
  replace hP : va_P (dC, dI) classes [oc ra 8 [.int (nI T), .int (nI Ac), .ref (rA 2), .ref (rA 3), .ref (rA 4), .ref (rA 5), .ref (rA 6), .ref (rA 7), .ref (rA 8), .ref (rA 9), .ref (rA 10), .ref (rA 11), .ref (rA 12), .ref (rA 13), .int ir, .ref (rA 15), .ref (rA 16), .ref (rA 17), .ref (rA 18), .int (nI md), .int (nI wd), .ref (rA 21), .ref (rA 22), .ref (rA 23), .int (nI mn), .ref (rA 25), .int (nI cb), .int mr, .ref (rA 28), .ref (rA 29), .ref (rA 30), .ref (rA 31), .ref (rA 32), .ref (rA 33), .ref (rA 34), .ref (rA 35), .int (nI ld), .int (nI gm), .ref (rA 38), .ref (rA 39), .ref (rA 40), .ref (rA 41), .ref (rA 42), .ref (rA 43), .ref (rA 44), .ref (rA 45), .int (nI my), .ref (rA 47)], ia (rA 33) (rK9 33) 4 (fun i => nI (pcn i)), ia (rA 2) (rK9 2) 4 (fun i => nI (zs i)), ia (rA 3) (rK9 3) 28 (fun i => nI (kd i)), ia (rA 4) (rK9 4) 28 (fun i => nI (vx i)), ia (rA 5) (rK9 5) 28 (fun i => nI (rr i)), ia (rA 6) (rK9 6) 28 vv, ia (rA 34) (rK9 34) 8 hd9, ia (rA 29) (rK9 29) 28 (fun i0 => mN (fm i0)), ia (rA 31) (rK9 31) 28 (fun i => nI ((updN dn a 1) i)), ia (rA 32) (rK9 32) 28 gv, ia (rA 30) (rK9 30) 28 (fun i => nI ((updN hp a 1) i))] H := hP
  refine tp_pc (pc' := 172) (by rfl) ?_
  refine lv_aload_n hx hb d_Ref_act_172 rfl (lv_at hl 4 rfl) ?_
  refine va_get (D := (dC, dI)) (ci := 8) (v := .ref (rA 33)) (C := R_Ref) (T := F_Ref) (N := 48) hx hb hw i_Ref hown hK hP 0 rfl rfl 33 (by decide) (hw _ m_932) (fun _ h9 => h9) rfl d_Ref_act_173 ?_
  refine lv_iload_n hx hb d_Ref_act_176 rfl (lv_at hl 5 rfl) ?_
  refine lv_dup2_11 hx hb d_Ref_act_177 rfl rfl ?_
  refine va_iald (D := (dC, dI)) hx hb hK hP 1 0 rfl rfl (i := nI t) (pk_in t 4 (by omega)) d_Ref_act_178 ?_
  refine tp_i (y := nI (pcn t)) (by rw [show (nI t : Int32).toNatClampNeg = t from pk_cl t]) ?_
  refine lv_iconst (v := 1) hx hb d_Ref_act_179 (by decide) ?_
  refine lv_iadd hx hb d_Ref_act_180 ?_
  refine tp_i (y := nI (pcn t + 1)) (by exact nI_add (pcn t) 1) ?_
  refine va_iast (D := (dC, dI)) hx hb hK hP (dd_D hD rfl) hS 1 0 rfl rfl (i := nI t) (x := nI (pcn t + 1)) (pk_in t 4 (by omega)) d_Ref_act_181 ?_
  clear hP hS locs H
  intro H locs hP _ hS
  rw [show (nI t : Int32).toNatClampNeg = t from pk_cl t] at hP
  rw [show upd (fun i => nI (pcn i)) t (nI (pcn t + 1)) = fun i => nI (updN pcn t (pcn t + 1) i) from upd_nI] at hP
  replace hP : va_P (dC, dI) classes [oc ra 8 [.int (nI T), .int (nI Ac), .ref (rA 2), .ref (rA 3), .ref (rA 4), .ref (rA 5), .ref (rA 6), .ref (rA 7), .ref (rA 8), .ref (rA 9), .ref (rA 10), .ref (rA 11), .ref (rA 12), .ref (rA 13), .int ir, .ref (rA 15), .ref (rA 16), .ref (rA 17), .ref (rA 18), .int (nI md), .int (nI wd), .ref (rA 21), .ref (rA 22), .ref (rA 23), .int (nI mn), .ref (rA 25), .int (nI cb), .int mr, .ref (rA 28), .ref (rA 29), .ref (rA 30), .ref (rA 31), .ref (rA 32), .ref (rA 33), .ref (rA 34), .ref (rA 35), .int (nI ld), .int (nI gm), .ref (rA 38), .ref (rA 39), .ref (rA 40), .ref (rA 41), .ref (rA 42), .ref (rA 43), .ref (rA 44), .ref (rA 45), .int (nI my), .ref (rA 47)], ia (rA 33) (rK9 33) 4 (fun i => nI ((updN pcn t (pcn t + 1)) i)), ia (rA 2) (rK9 2) 4 (fun i => nI (zs i)), ia (rA 3) (rK9 3) 28 (fun i => nI (kd i)), ia (rA 4) (rK9 4) 28 (fun i => nI (vx i)), ia (rA 5) (rK9 5) 28 (fun i => nI (rr i)), ia (rA 6) (rK9 6) 28 vv, ia (rA 34) (rK9 34) 8 hd9, ia (rA 29) (rK9 29) 28 (fun i0 => mN (fm i0)), ia (rA 31) (rK9 31) 28 (fun i => nI ((updN dn a 1) i)), ia (rA 32) (rK9 32) 28 gv, ia (rA 30) (rK9 30) 28 (fun i => nI ((updN hp a 1) i))] H := hP
  refine tp_pc (pc' := 182) (by rfl) ?_
  refine lv_iload_n hx hb d_Ref_act_182 rfl (lv_at hl 2 rfl) ?_
  refine lv_iconst (v := 2) hx hb d_Ref_act_183 (by decide) ?_
  refine lv_icmp_ne (tgt := 210) hx hb d_Ref_act_184 (by decide) (fun c_5 => ?_) (fun c_5 => absurd c_5 (by decide))
  refine tp_pc (pc' := 210) (by rfl) ?_
  refine lv_iload_n hx hb d_Ref_act_210 rfl (lv_at hl 2 rfl) ?_
  refine lv_iconst (v := 1) hx hb d_Ref_act_211 (by decide) ?_
  refine lv_icmp_ne (tgt := 230) hx hb d_Ref_act_212 (by decide) (fun c_6 => ?_) (fun c_6 => absurd c_6 (by decide))
  refine tp_pc (pc' := 230) (by rfl) ?_
  refine lv_iload_n hx hb d_Ref_act_230 rfl (lv_at hl 2 rfl) ?_
  refine tp_i (y := nI 3) rfl ?_
  obtain ⟨hPc, hDc, hFc⟩ := cut3 (wc := []) hP hD rfl hS hA [] (by decide +kernel) rfl
  have hKc := hK.sub (tys' := []) [] rfl
  refine va_calli (va_runS (As := [.int (nI 3)]) (rest := []) ⟨hx, hb, hml, hown, hw⟩ (gen_Ref_takes l dC dI 3 (by decide) H.size) (cw_S 1 hw g_Ref_takes rfl rfl rfl (hw _ m_109) (hw _ m_1190) (hw _ m_1191) (by decide +kernel) ⟨Nat.le_of_ble_eq_true rfl, Nat.le_of_ble_eq_true rfl⟩) ⟨fun a U g mk q => by obtain ⟨q0, q1, qP, qK, qD, qN⟩ := q; exact ⟨q0, q1, qP, va_K.moved (u := U) (U := U.calling g mk a) (Vm.Alike.refl U.vm) qK, qD, nw_call qN⟩, fun U hU hW => ⟨rfl, by rw [hU], by rw [hU]; exact hPc, va_K.moved hW.alike hKc, hDc.weaken (fun _ _ _ _ => trivial), nw_warm hW hn⟩⟩ rfl rfl hl.1 rfl (lv_room (Nat.le_of_ble_eq_true rfl)) d_Ref_act_231 ⟨Nat.le_of_ble_eq_true rfl, Nat.le_of_ble_eq_true rfl⟩) hS (fun q _ h => hFc q h) hFc ?_
  intro r_7 u t9 H1 locs1 ht9 hvm hw1 hB hz1 hk1 hS1
  obtain ⟨hP1, hK1, hD1⟩ := hB
  rw [ht9] at hP1
  replace hK1 := va_K.moved hvm.symm hK1
  have hPD := join3 hP hD rfl [] [0, 1, 2, 3, 4, 5, 6, 7, 8, 9, 10, 11] rfl (by rfl) (by decide +kernel) (by decide +kernel) hk1 hFc hP1 hD1
  replace hK : va_K (dC, dI) classes [((rK9 33), .int), ((rK9 2), .int), ((rK9 3), .int), ((rK9 4), .int), ((rK9 5), .int), ((rK9 6), .int), ((rK9 34), .int), ((rK9 29), .int), ((rK9 31), .boolean), ((rK9 32), .int), ((rK9 30), .boolean)] s := hK.app hK1
  clear hP1 hK1 hD1 hk1 hz1 hFc hKc hDc hPc hvm ht9 hP hS t9 locs H
  have hP : va_P (dC, dI) classes [oc ra 8 [.int (nI T), .int (nI Ac), .ref (rA 2), .ref (rA 3), .ref (rA 4), .ref (rA 5), .ref (rA 6), .ref (rA 7), .ref (rA 8), .ref (rA 9), .ref (rA 10), .ref (rA 11), .ref (rA 12), .ref (rA 13), .int ir, .ref (rA 15), .ref (rA 16), .ref (rA 17), .ref (rA 18), .int (nI md), .int (nI wd), .ref (rA 21), .ref (rA 22), .ref (rA 23), .int (nI mn), .ref (rA 25), .int (nI cb), .int mr, .ref (rA 28), .ref (rA 29), .ref (rA 30), .ref (rA 31), .ref (rA 32), .ref (rA 33), .ref (rA 34), .ref (rA 35), .int (nI ld), .int (nI gm), .ref (rA 38), .ref (rA 39), .ref (rA 40), .ref (rA 41), .ref (rA 42), .ref (rA 43), .ref (rA 44), .ref (rA 45), .int (nI my), .ref (rA 47)], ia (rA 33) (rK9 33) 4 (fun i => nI ((updN pcn t (pcn t + 1)) i)), ia (rA 2) (rK9 2) 4 (fun i => nI (zs i)), ia (rA 3) (rK9 3) 28 (fun i => nI (kd i)), ia (rA 4) (rK9 4) 28 (fun i => nI (vx i)), ia (rA 5) (rK9 5) 28 (fun i => nI (rr i)), ia (rA 6) (rK9 6) 28 vv, ia (rA 34) (rK9 34) 8 hd9, ia (rA 29) (rK9 29) 28 (fun i0 => mN (fm i0)), ia (rA 31) (rK9 31) 28 (fun i => nI ((updN dn a 1) i)), ia (rA 32) (rK9 32) 28 gv, ia (rA 30) (rK9 30) 28 (fun i => nI ((updN hp a 1) i))] H1 := hPD.1
  replace hD : dd A [ra, (rA 33), (rA 2), (rA 3), (rA 4), (rA 5), (rA 6), (rA 34), (rA 29), (rA 31), (rA 32), (rA 30)] := dd_of hPD.2 rfl
  clear hPD
  revert H1 locs1
  intro H locs hS hP
  refine tp_i (y := 1) (hw1.trans (if_pos (by decide))) ?_
  clear hw1 r_7 u
  refine tp_pc (pc' := 234) (by rfl) ?_
  refine lv_if_eq (tgt := 261) hx hb d_Ref_act_234 (by decide) (fun c_8 => absurd c_8 (by decide)) (fun c_8 => ?_)
  refine tp_pc (pc' := 237) (by rfl) ?_
  refine lv_aload_n hx hb d_Ref_act_237 rfl (lv_at hl 4 rfl) ?_
  refine va_get (D := (dC, dI)) (ci := 8) (v := .ref (rA 34)) (C := R_Ref) (T := F_Ref) (N := 48) hx hb hw i_Ref hown hK hP 0 rfl rfl 34 (by decide) (hw _ m_933) (fun _ h9 => h9) rfl d_Ref_act_238 ?_
  refine lv_iload hx hb d_Ref_act_241 (lv_at hl 1 rfl) ?_
  refine lv_iload hx hb d_Ref_act_243 (lv_at hl 0 rfl) ?_
  refine va_iast (D := (dC, dI)) hx hb hK hP (dd_D hD rfl) hS 7 6 rfl rfl (i := nI (2 * t + (rr a))) (x := 0) (pk_in (2 * t + (rr a)) 8 (by omega)) d_Ref_act_245 ?_
  clear hP hS locs H
  intro H locs hP _ hS
  rw [show (nI (2 * t + (rr a)) : Int32).toNatClampNeg = 2 * t + (rr a) from pk_cl (2 * t + (rr a))] at hP
  replace hP : va_P (dC, dI) classes [oc ra 8 [.int (nI T), .int (nI Ac), .ref (rA 2), .ref (rA 3), .ref (rA 4), .ref (rA 5), .ref (rA 6), .ref (rA 7), .ref (rA 8), .ref (rA 9), .ref (rA 10), .ref (rA 11), .ref (rA 12), .ref (rA 13), .int ir, .ref (rA 15), .ref (rA 16), .ref (rA 17), .ref (rA 18), .int (nI md), .int (nI wd), .ref (rA 21), .ref (rA 22), .ref (rA 23), .int (nI mn), .ref (rA 25), .int (nI cb), .int mr, .ref (rA 28), .ref (rA 29), .ref (rA 30), .ref (rA 31), .ref (rA 32), .ref (rA 33), .ref (rA 34), .ref (rA 35), .int (nI ld), .int (nI gm), .ref (rA 38), .ref (rA 39), .ref (rA 40), .ref (rA 41), .ref (rA 42), .ref (rA 43), .ref (rA 44), .ref (rA 45), .int (nI my), .ref (rA 47)], ia (rA 33) (rK9 33) 4 (fun i => nI ((updN pcn t (pcn t + 1)) i)), ia (rA 2) (rK9 2) 4 (fun i => nI (zs i)), ia (rA 3) (rK9 3) 28 (fun i => nI (kd i)), ia (rA 4) (rK9 4) 28 (fun i => nI (vx i)), ia (rA 5) (rK9 5) 28 (fun i => nI (rr i)), ia (rA 6) (rK9 6) 28 vv, ia (rA 34) (rK9 34) 8 (upd hd9 (2 * t + (rr a)) 0), ia (rA 29) (rK9 29) 28 (fun i0 => mN (fm i0)), ia (rA 31) (rK9 31) 28 (fun i => nI ((updN dn a 1) i)), ia (rA 32) (rK9 32) 28 gv, ia (rA 30) (rK9 30) 28 (fun i => nI ((updN hp a 1) i))] H := hP
  refine tp_pc (pc' := 246) (by rfl) ?_
  refine lv_aload_n hx hb d_Ref_act_246 rfl (lv_at hl 4 rfl) ?_
  refine va_get (D := (dC, dI)) (ci := 8) (v := .ref (rA 32)) (C := R_Ref) (T := F_Ref) (N := 48) hx hb hw i_Ref hown hK hP 0 rfl rfl 32 (by decide) (hw _ m_931) (fun _ h9 => h9) rfl d_Ref_act_247 ?_
  refine lv_iload_n hx hb d_Ref_act_250 rfl (lv_at hl 3 rfl) ?_
  refine lv_iload hx hb d_Ref_act_251 (lv_at hl 0 rfl) ?_
  refine lv_aload_n hx hb d_Ref_act_253 rfl (lv_at hl 4 rfl) ?_
  refine va_get (D := (dC, dI)) (ci := 8) (v := .ref (rA 6)) (C := R_Ref) (T := F_Ref) (N := 48) hx hb hw i_Ref hown hK hP 0 rfl rfl 6 (by decide) (hw _ m_905) (fun _ h9 => h9) rfl d_Ref_act_254 ?_
  refine lv_iload_n hx hb d_Ref_act_257 rfl (lv_at hl 3 rfl) ?_
  refine va_iald (D := (dC, dI)) hx hb hK hP 6 5 rfl rfl (i := nI a) (pk_in a 28 (by omega)) d_Ref_act_258 ?_
  refine tp_i (y := vv a) (by rw [show (nI a : Int32).toNatClampNeg = a from pk_cl a]) ?_
  refine lv_iadd hx hb d_Ref_act_259 ?_
  refine tp_i (y := 0 + (vv a)) rfl ?_
  refine va_iast (D := (dC, dI)) hx hb hK hP (dd_D hD rfl) hS 10 9 rfl rfl (i := nI a) (x := 0 + (vv a)) (pk_in a 28 (by omega)) d_Ref_act_260 ?_
  clear hP hS locs H
  intro H locs hP _ hS
  rw [show (nI a : Int32).toNatClampNeg = a from pk_cl a] at hP
  replace hP : va_P (dC, dI) classes [oc ra 8 [.int (nI T), .int (nI Ac), .ref (rA 2), .ref (rA 3), .ref (rA 4), .ref (rA 5), .ref (rA 6), .ref (rA 7), .ref (rA 8), .ref (rA 9), .ref (rA 10), .ref (rA 11), .ref (rA 12), .ref (rA 13), .int ir, .ref (rA 15), .ref (rA 16), .ref (rA 17), .ref (rA 18), .int (nI md), .int (nI wd), .ref (rA 21), .ref (rA 22), .ref (rA 23), .int (nI mn), .ref (rA 25), .int (nI cb), .int mr, .ref (rA 28), .ref (rA 29), .ref (rA 30), .ref (rA 31), .ref (rA 32), .ref (rA 33), .ref (rA 34), .ref (rA 35), .int (nI ld), .int (nI gm), .ref (rA 38), .ref (rA 39), .ref (rA 40), .ref (rA 41), .ref (rA 42), .ref (rA 43), .ref (rA 44), .ref (rA 45), .int (nI my), .ref (rA 47)], ia (rA 33) (rK9 33) 4 (fun i => nI ((updN pcn t (pcn t + 1)) i)), ia (rA 2) (rK9 2) 4 (fun i => nI (zs i)), ia (rA 3) (rK9 3) 28 (fun i => nI (kd i)), ia (rA 4) (rK9 4) 28 (fun i => nI (vx i)), ia (rA 5) (rK9 5) 28 (fun i => nI (rr i)), ia (rA 6) (rK9 6) 28 vv, ia (rA 34) (rK9 34) 8 (upd hd9 (2 * t + (rr a)) 0), ia (rA 29) (rK9 29) 28 (fun i0 => mN (fm i0)), ia (rA 31) (rK9 31) 28 (fun i => nI ((updN dn a 1) i)), ia (rA 32) (rK9 32) 28 (upd gv a (0 + (vv a))), ia (rA 30) (rK9 30) 28 (fun i => nI ((updN hp a 1) i))] H := hP
  refine tp_pc (pc' := 261) (by rfl) ?_
  refine lv_iconst (v := 1) hx hb d_Ref_act_261 (by decide) ?_
  replace hP : va_P (dC, dI) classes [oc ra 8 [.int (nI T), .int (nI Ac), .ref (rA 2), .ref (rA 3), .ref (rA 4), .ref (rA 5), .ref (rA 6), .ref (rA 7), .ref (rA 8), .ref (rA 9), .ref (rA 10), .ref (rA 11), .ref (rA 12), .ref (rA 13), .int ir, .ref (rA 15), .ref (rA 16), .ref (rA 17), .ref (rA 18), .int (nI md), .int (nI wd), .ref (rA 21), .ref (rA 22), .ref (rA 23), .int (nI mn), .ref (rA 25), .int (nI cb), .int mr, .ref (rA 28), .ref (rA 29), .ref (rA 30), .ref (rA 31), .ref (rA 32), .ref (rA 33), .ref (rA 34), .ref (rA 35), .int (nI ld), .int (nI gm), .ref (rA 38), .ref (rA 39), .ref (rA 40), .ref (rA 41), .ref (rA 42), .ref (rA 43), .ref (rA 44), .ref (rA 45), .int (nI my), .ref (rA 47)], ia (rA 33) (rK9 33) 4 (fun i => nI ((updN pcn t (pcn t + 1)) i)), ia (rA 2) (rK9 2) 4 (fun i => nI (zs i)), ia (rA 3) (rK9 3) 28 (fun i => nI (kd i)), ia (rA 4) (rK9 4) 28 (fun i => nI (vx i)), ia (rA 5) (rK9 5) 28 (fun i => nI (rr i)), ia (rA 6) (rK9 6) 28 vv, ia (rA 34) (rK9 34) 8 (upd hd9 (2 * t + rr a) ((0 : Int32))), ia (rA 29) (rK9 29) 28 (fun i0 => mN (fm i0)), ia (rA 31) (rK9 31) 28 (fun i => nI ((updN dn a 1) i)), ia (rA 32) (rK9 32) 28 (upd gv a ((0 : Int32) + vv a)), ia (rA 30) (rK9 30) 28 (fun i => nI ((updN hp a 1) i))] H := hP
  obtain ⟨hP9, hD9, -⟩ := cut3 (wc := [oc ra 8 [.int (nI T), .int (nI Ac), .ref (rA 2), .ref (rA 3), .ref (rA 4), .ref (rA 5), .ref (rA 6), .ref (rA 7), .ref (rA 8), .ref (rA 9), .ref (rA 10), .ref (rA 11), .ref (rA 12), .ref (rA 13), .int ir, .ref (rA 15), .ref (rA 16), .ref (rA 17), .ref (rA 18), .int (nI md), .int (nI wd), .ref (rA 21), .ref (rA 22), .ref (rA 23), .int (nI mn), .ref (rA 25), .int (nI cb), .int mr, .ref (rA 28), .ref (rA 29), .ref (rA 30), .ref (rA 31), .ref (rA 32), .ref (rA 33), .ref (rA 34), .ref (rA 35), .int (nI ld), .int (nI gm), .ref (rA 38), .ref (rA 39), .ref (rA 40), .ref (rA 41), .ref (rA 42), .ref (rA 43), .ref (rA 44), .ref (rA 45), .int (nI my), .ref (rA 47)], ia (rA 33) (rK9 33) 4 (fun i => nI ((updN pcn t (pcn t + 1)) i)), ia (rA 2) (rK9 2) 4 (fun i => nI (zs i)), ia (rA 3) (rK9 3) 28 (fun i => nI (kd i)), ia (rA 4) (rK9 4) 28 (fun i => nI (vx i)), ia (rA 5) (rK9 5) 28 (fun i => nI (rr i)), ia (rA 6) (rK9 6) 28 vv, ia (rA 34) (rK9 34) 8 (upd hd9 (2 * t + rr a) ((0 : Int32))), ia (rA 29) (rK9 29) 28 (fun i0 => mN (fm i0)), ia (rA 31) (rK9 31) 28 (fun i => nI ((updN dn a 1) i)), ia (rA 32) (rK9 32) 28 (upd gv a ((0 : Int32) + vv a)), ia (rA 30) (rK9 30) 28 (fun i => nI ((updN hp a 1) i))]) hP hD rfl hS hA [0, 1, 2, 3, 4, 5, 6, 7, 8, 9, 10, 11] (by decide +kernel) rfl
  have hK9 := hK.sub (tys' := []) [] rfl
  refine W.widen (k := 0) (n := 0) (by exact Nat.le_of_ble_eq_true rfl) (by exact Nat.le_of_ble_eq_true rfl) ?_
  exact W.zret (v := 1) (ty := .boolean) hx hb hr (by decide) (fun t9 ht9 hW => ⟨⟨1, (), rfl, rfl, by rw [ht9]; exact hP9, va_K.moved hW.alike hK9, hD9⟩, hS.F ht9⟩) hS.2.2 d_Ref_act_262
set_option maxHeartbeats 4000000 in
set_option maxRecDepth 100000 in
theorem gen_Ref_act_3w (l : Launch) (dC : Nat → ClassId) (dI : Nat → Nat → Nat) (ra : Nat) (rA : Nat → Nat) (rK9 : Nat → ClassId) (T Ac md wd mn cb ld gm my : Nat) (ir mr : Int32) (t a : Nat) (pcn zs kd vx rr fm dn hp : Nat → Nat) (vv hd9 gv : Nat → Int32) (f9 : Nat) (ht : t < 4) (ha : a = 7 * t + pcn t) (hpc : pcn t < zs t) (hzt : zs t ≤ 7) (hvx : vx a < 4) (hrr : rr a < 2) (hk : kd a = 3) (hfa : fm a = f9 + 1) (hf9 : f9 < 28) (hdn : dn f9 = 0) (sz : Nat) : Met l y_Ref_act w_Ref_act ({ frames := 1, cells := 0, slots := 0, locals := 40 }) (va_Pc [.ref ra, .int (nI t)] (fun U => U.heap.size = sz ∧ va_P (dC, dI) classes [oc ra 8 [.int (nI T), .int (nI Ac), .ref (rA 2), .ref (rA 3), .ref (rA 4), .ref (rA 5), .ref (rA 6), .ref (rA 7), .ref (rA 8), .ref (rA 9), .ref (rA 10), .ref (rA 11), .ref (rA 12), .ref (rA 13), .int ir, .ref (rA 15), .ref (rA 16), .ref (rA 17), .ref (rA 18), .int (nI md), .int (nI wd), .ref (rA 21), .ref (rA 22), .ref (rA 23), .int (nI mn), .ref (rA 25), .int (nI cb), .int mr, .ref (rA 28), .ref (rA 29), .ref (rA 30), .ref (rA 31), .ref (rA 32), .ref (rA 33), .ref (rA 34), .ref (rA 35), .int (nI ld), .int (nI gm), .ref (rA 38), .ref (rA 39), .ref (rA 40), .ref (rA 41), .ref (rA 42), .ref (rA 43), .ref (rA 44), .ref (rA 45), .int (nI my), .ref (rA 47)], ia (rA 33) (rK9 33) 4 (fun i => nI (pcn i)), ia (rA 2) (rK9 2) 4 (fun i => nI (zs i)), ia (rA 3) (rK9 3) 28 (fun i => nI (kd i)), ia (rA 4) (rK9 4) 28 (fun i => nI (vx i)), ia (rA 5) (rK9 5) 28 (fun i => nI (rr i)), ia (rA 6) (rK9 6) 28 vv, ia (rA 34) (rK9 34) 8 hd9, ia (rA 29) (rK9 29) 28 (fun i0 => mN (fm i0)), ia (rA 31) (rK9 31) 28 (fun i => nI (dn i)), ia (rA 32) (rK9 32) 28 gv, ia (rA 30) (rK9 30) 28 (fun i => nI (hp i))] U.heap ∧ va_K (dC, dI) classes [((rK9 33), .int), ((rK9 2), .int), ((rK9 3), .int), ((rK9 4), .int), ((rK9 5), .int), ((rK9 6), .int), ((rK9 34), .int), ((rK9 29), .int), ((rK9 31), .boolean), ((rK9 32), .int), ((rK9 30), .boolean)] U ∧ va_D (fun _ => True) [oc ra 8 [.int (nI T), .int (nI Ac), .ref (rA 2), .ref (rA 3), .ref (rA 4), .ref (rA 5), .ref (rA 6), .ref (rA 7), .ref (rA 8), .ref (rA 9), .ref (rA 10), .ref (rA 11), .ref (rA 12), .ref (rA 13), .int ir, .ref (rA 15), .ref (rA 16), .ref (rA 17), .ref (rA 18), .int (nI md), .int (nI wd), .ref (rA 21), .ref (rA 22), .ref (rA 23), .int (nI mn), .ref (rA 25), .int (nI cb), .int mr, .ref (rA 28), .ref (rA 29), .ref (rA 30), .ref (rA 31), .ref (rA 32), .ref (rA 33), .ref (rA 34), .ref (rA 35), .int (nI ld), .int (nI gm), .ref (rA 38), .ref (rA 39), .ref (rA 40), .ref (rA 41), .ref (rA 42), .ref (rA 43), .ref (rA 44), .ref (rA 45), .int (nI my), .ref (rA 47)], ia (rA 33) (rK9 33) 4 (fun i => nI (pcn i)), ia (rA 2) (rK9 2) 4 (fun i => nI (zs i)), ia (rA 3) (rK9 3) 28 (fun i => nI (kd i)), ia (rA 4) (rK9 4) 28 (fun i => nI (vx i)), ia (rA 5) (rK9 5) 28 (fun i => nI (rr i)), ia (rA 6) (rK9 6) 28 vv, ia (rA 34) (rK9 34) 8 hd9, ia (rA 29) (rK9 29) 28 (fun i0 => mN (fm i0)), ia (rA 31) (rK9 31) 28 (fun i => nI (dn i)), ia (rA 32) (rK9 32) 28 gv, ia (rA 30) (rK9 30) 28 (fun i => nI (hp i))] ∧ nw U)) (va_Qi (fun (r : Int32) (_ : Unit) => r = 0) (fun _ t9 => va_P (dC, dI) classes [oc ra 8 [.int (nI T), .int (nI Ac), .ref (rA 2), .ref (rA 3), .ref (rA 4), .ref (rA 5), .ref (rA 6), .ref (rA 7), .ref (rA 8), .ref (rA 9), .ref (rA 10), .ref (rA 11), .ref (rA 12), .ref (rA 13), .int ir, .ref (rA 15), .ref (rA 16), .ref (rA 17), .ref (rA 18), .int (nI md), .int (nI wd), .ref (rA 21), .ref (rA 22), .ref (rA 23), .int (nI mn), .ref (rA 25), .int (nI cb), .int mr, .ref (rA 28), .ref (rA 29), .ref (rA 30), .ref (rA 31), .ref (rA 32), .ref (rA 33), .ref (rA 34), .ref (rA 35), .int (nI ld), .int (nI gm), .ref (rA 38), .ref (rA 39), .ref (rA 40), .ref (rA 41), .ref (rA 42), .ref (rA 43), .ref (rA 44), .ref (rA 45), .int (nI my), .ref (rA 47)], ia (rA 33) (rK9 33) 4 (fun i => nI (pcn i)), ia (rA 2) (rK9 2) 4 (fun i => nI (zs i)), ia (rA 3) (rK9 3) 28 (fun i => nI (kd i)), ia (rA 4) (rK9 4) 28 (fun i => nI (vx i)), ia (rA 5) (rK9 5) 28 (fun i => nI (rr i)), ia (rA 6) (rK9 6) 28 vv, ia (rA 34) (rK9 34) 8 hd9, ia (rA 29) (rK9 29) 28 (fun i0 => mN (fm i0)), ia (rA 31) (rK9 31) 28 (fun i => nI (dn i)), ia (rA 32) (rK9 32) 28 gv, ia (rA 30) (rK9 30) 28 (fun i => nI (hp i))] t9.heap ∧ va_K (dC, dI) classes [] t9 ∧ va_D (va_A [oc ra 8 [.int (nI T), .int (nI Ac), .ref (rA 2), .ref (rA 3), .ref (rA 4), .ref (rA 5), .ref (rA 6), .ref (rA 7), .ref (rA 8), .ref (rA 9), .ref (rA 10), .ref (rA 11), .ref (rA 12), .ref (rA 13), .int ir, .ref (rA 15), .ref (rA 16), .ref (rA 17), .ref (rA 18), .int (nI md), .int (nI wd), .ref (rA 21), .ref (rA 22), .ref (rA 23), .int (nI mn), .ref (rA 25), .int (nI cb), .int mr, .ref (rA 28), .ref (rA 29), .ref (rA 30), .ref (rA 31), .ref (rA 32), .ref (rA 33), .ref (rA 34), .ref (rA 35), .int (nI ld), .int (nI gm), .ref (rA 38), .ref (rA 39), .ref (rA 40), .ref (rA 41), .ref (rA 42), .ref (rA 43), .ref (rA 44), .ref (rA 45), .int (nI my), .ref (rA 47)], ia (rA 33) (rK9 33) 4 (fun i => nI (pcn i)), ia (rA 2) (rK9 2) 4 (fun i => nI (zs i)), ia (rA 3) (rK9 3) 28 (fun i => nI (kd i)), ia (rA 4) (rK9 4) 28 (fun i => nI (vx i)), ia (rA 5) (rK9 5) 28 (fun i => nI (rr i)), ia (rA 6) (rK9 6) 28 vv, ia (rA 34) (rK9 34) 8 hd9, ia (rA 29) (rK9 29) 28 (fun i0 => mN (fm i0)), ia (rA 31) (rK9 31) 28 (fun i => nI (dn i)), ia (rA 32) (rK9 32) 28 gv, ia (rA 30) (rK9 30) 28 (fun i => nI (hp i))] sz) [oc ra 8 [.int (nI T), .int (nI Ac), .ref (rA 2), .ref (rA 3), .ref (rA 4), .ref (rA 5), .ref (rA 6), .ref (rA 7), .ref (rA 8), .ref (rA 9), .ref (rA 10), .ref (rA 11), .ref (rA 12), .ref (rA 13), .int ir, .ref (rA 15), .ref (rA 16), .ref (rA 17), .ref (rA 18), .int (nI md), .int (nI wd), .ref (rA 21), .ref (rA 22), .ref (rA 23), .int (nI mn), .ref (rA 25), .int (nI cb), .int mr, .ref (rA 28), .ref (rA 29), .ref (rA 30), .ref (rA 31), .ref (rA 32), .ref (rA 33), .ref (rA 34), .ref (rA 35), .int (nI ld), .int (nI gm), .ref (rA 38), .ref (rA 39), .ref (rA 40), .ref (rA 41), .ref (rA 42), .ref (rA 43), .ref (rA 44), .ref (rA 45), .int (nI my), .ref (rA 47)], ia (rA 33) (rK9 33) 4 (fun i => nI (pcn i)), ia (rA 2) (rK9 2) 4 (fun i => nI (zs i)), ia (rA 3) (rK9 3) 28 (fun i => nI (kd i)), ia (rA 4) (rK9 4) 28 (fun i => nI (vx i)), ia (rA 5) (rK9 5) 28 (fun i => nI (rr i)), ia (rA 6) (rK9 6) 28 vv, ia (rA 34) (rK9 34) 8 hd9, ia (rA 29) (rK9 29) 28 (fun i0 => mN (fm i0)), ia (rA 31) (rK9 31) 28 (fun i => nI (dn i)), ia (rA 32) (rK9 32) 28 gv, ia (rA 30) (rK9 30) 28 (fun i => nI (hp i))]) (va_A [oc ra 8 [.int (nI T), .int (nI Ac), .ref (rA 2), .ref (rA 3), .ref (rA 4), .ref (rA 5), .ref (rA 6), .ref (rA 7), .ref (rA 8), .ref (rA 9), .ref (rA 10), .ref (rA 11), .ref (rA 12), .ref (rA 13), .int ir, .ref (rA 15), .ref (rA 16), .ref (rA 17), .ref (rA 18), .int (nI md), .int (nI wd), .ref (rA 21), .ref (rA 22), .ref (rA 23), .int (nI mn), .ref (rA 25), .int (nI cb), .int mr, .ref (rA 28), .ref (rA 29), .ref (rA 30), .ref (rA 31), .ref (rA 32), .ref (rA 33), .ref (rA 34), .ref (rA 35), .int (nI ld), .int (nI gm), .ref (rA 38), .ref (rA 39), .ref (rA 40), .ref (rA 41), .ref (rA 42), .ref (rA 43), .ref (rA 44), .ref (rA 45), .int (nI my), .ref (rA 47)], ia (rA 33) (rK9 33) 4 (fun i => nI (pcn i)), ia (rA 2) (rK9 2) 4 (fun i => nI (zs i)), ia (rA 3) (rK9 3) 28 (fun i => nI (kd i)), ia (rA 4) (rK9 4) 28 (fun i => nI (vx i)), ia (rA 5) (rK9 5) 28 (fun i => nI (rr i)), ia (rA 6) (rK9 6) 28 vv, ia (rA 34) (rK9 34) 8 hd9, ia (rA 29) (rK9 29) 28 (fun i0 => mN (fm i0)), ia (rA 31) (rK9 31) 28 (fun i => nI (dn i)), ia (rA 32) (rK9 32) 28 gv, ia (rA 30) (rK9 30) 28 (fun i => nI (hp i))] sz)) 0 0 (va_A [oc ra 8 [.int (nI T), .int (nI Ac), .ref (rA 2), .ref (rA 3), .ref (rA 4), .ref (rA 5), .ref (rA 6), .ref (rA 7), .ref (rA 8), .ref (rA 9), .ref (rA 10), .ref (rA 11), .ref (rA 12), .ref (rA 13), .int ir, .ref (rA 15), .ref (rA 16), .ref (rA 17), .ref (rA 18), .int (nI md), .int (nI wd), .ref (rA 21), .ref (rA 22), .ref (rA 23), .int (nI mn), .ref (rA 25), .int (nI cb), .int mr, .ref (rA 28), .ref (rA 29), .ref (rA 30), .ref (rA 31), .ref (rA 32), .ref (rA 33), .ref (rA 34), .ref (rA 35), .int (nI ld), .int (nI gm), .ref (rA 38), .ref (rA 39), .ref (rA 40), .ref (rA 41), .ref (rA 42), .ref (rA 43), .ref (rA 44), .ref (rA 45), .int (nI my), .ref (rA 47)], ia (rA 33) (rK9 33) 4 (fun i => nI (pcn i)), ia (rA 2) (rK9 2) 4 (fun i => nI (zs i)), ia (rA 3) (rK9 3) 28 (fun i => nI (kd i)), ia (rA 4) (rK9 4) 28 (fun i => nI (vx i)), ia (rA 5) (rK9 5) 28 (fun i => nI (rr i)), ia (rA 6) (rK9 6) 28 vv, ia (rA 34) (rK9 34) 8 hd9, ia (rA 29) (rK9 29) 28 (fun i0 => mN (fm i0)), ia (rA 31) (rK9 31) 28 (fun i => nI (dn i)), ia (rA 32) (rK9 32) 28 gv, ia (rA 30) (rK9 30) 28 (fun i => nI (hp i))] sz) := by
  refine Met.ofW (cc := b_Ref_act) (maxL := 6) (ret := (some .boolean)) (by decide) rfl ?_
  intro p e0 s m args below meth c s₁ B hml hv
  obtain ⟨rfl, hsz, hP, hK, hD0, hn⟩ := hv
  have hx := B.exec
  have hb := B.bytes
  have hr := B.returns
  have hw := fun w (h : w ∈ wt) => atoms_spec (ws := w_Ref_act) B.pre w (List.mem_cons_of_mem _ h)
  have hown : s.vm.findClass R_Ref = some m.cls := findClass_of_methodNamed B.named
  have hlocks := B.notSynchronized
  subst hsz
  have hD1 := hD0.self (sz := s.heap.size)
  generalize hAe : va_A [oc ra 8 [.int (nI T), .int (nI Ac), .ref (rA 2), .ref (rA 3), .ref (rA 4), .ref (rA 5), .ref (rA 6), .ref (rA 7), .ref (rA 8), .ref (rA 9), .ref (rA 10), .ref (rA 11), .ref (rA 12), .ref (rA 13), .int ir, .ref (rA 15), .ref (rA 16), .ref (rA 17), .ref (rA 18), .int (nI md), .int (nI wd), .ref (rA 21), .ref (rA 22), .ref (rA 23), .int (nI mn), .ref (rA 25), .int (nI cb), .int mr, .ref (rA 28), .ref (rA 29), .ref (rA 30), .ref (rA 31), .ref (rA 32), .ref (rA 33), .ref (rA 34), .ref (rA 35), .int (nI ld), .int (nI gm), .ref (rA 38), .ref (rA 39), .ref (rA 40), .ref (rA 41), .ref (rA 42), .ref (rA 43), .ref (rA 44), .ref (rA 45), .int (nI my), .ref (rA 47)], ia (rA 33) (rK9 33) 4 (fun i => nI (pcn i)), ia (rA 2) (rK9 2) 4 (fun i => nI (zs i)), ia (rA 3) (rK9 3) 28 (fun i => nI (kd i)), ia (rA 4) (rK9 4) 28 (fun i => nI (vx i)), ia (rA 5) (rK9 5) 28 (fun i => nI (rr i)), ia (rA 6) (rK9 6) 28 vv, ia (rA 34) (rK9 34) 8 hd9, ia (rA 29) (rK9 29) 28 (fun i0 => mN (fm i0)), ia (rA 31) (rK9 31) 28 (fun i => nI (dn i)), ia (rA 32) (rK9 32) 28 gv, ia (rA 30) (rK9 30) 28 (fun i => nI (hp i))] s.heap.size = A at hD1 ⊢
  have hA : ∀ q : Nat, s.heap.size ≤ q → A q := fun q h => by rw [← hAe]; exact Or.inr h
  have hD : dd A [ra, (rA 33), (rA 2), (rA 3), (rA 4), (rA 5), (rA 6), (rA 34), (rA 29), (rA 31), (rA 32), (rA 30)] := dd_of hD1 rfl
  clear hAe hD0 hD1
  have hS : va_S A s.heap s.heap [] := va_S.rf
  replace hP : va_P (dC, dI) classes [oc ra 8 [.int (nI T), .int (nI Ac), .ref (rA 2), .ref (rA 3), .ref (rA 4), .ref (rA 5), .ref (rA 6), .ref (rA 7), .ref (rA 8), .ref (rA 9), .ref (rA 10), .ref (rA 11), .ref (rA 12), .ref (rA 13), .int ir, .ref (rA 15), .ref (rA 16), .ref (rA 17), .ref (rA 18), .int (nI md), .int (nI wd), .ref (rA 21), .ref (rA 22), .ref (rA 23), .int (nI mn), .ref (rA 25), .int (nI cb), .int mr, .ref (rA 28), .ref (rA 29), .ref (rA 30), .ref (rA 31), .ref (rA 32), .ref (rA 33), .ref (rA 34), .ref (rA 35), .int (nI ld), .int (nI gm), .ref (rA 38), .ref (rA 39), .ref (rA 40), .ref (rA 41), .ref (rA 42), .ref (rA 43), .ref (rA 44), .ref (rA 45), .int (nI my), .ref (rA 47)], ia (rA 33) (rK9 33) 4 (fun i => nI (pcn i)), ia (rA 2) (rK9 2) 4 (fun i => nI (zs i)), ia (rA 3) (rK9 3) 28 (fun i => nI (kd i)), ia (rA 4) (rK9 4) 28 (fun i => nI (vx i)), ia (rA 5) (rK9 5) 28 (fun i => nI (rr i)), ia (rA 6) (rK9 6) 28 vv, ia (rA 34) (rK9 34) 8 hd9, ia (rA 29) (rK9 29) 28 (fun i0 => mN (fm i0)), ia (rA 31) (rK9 31) 28 (fun i => nI (dn i)), ia (rA 32) (rK9 32) 28 gv, ia (rA 30) (rK9 30) 28 (fun i => nI (hp i))] s.heap := hP
  have hl := lv_entry ([.ref ra, .int (nI t)]) (n := 6) (Nat.le_of_ble_eq_true rfl)
  rw [lg_entry_eq]
  generalize (lg_sl ([.ref ra, .int (nI t)]) ++ List.replicate (6 - (lg_sl ([.ref ra, .int (nI t)])).length) Slot.unset).toArray = ls at hl ⊢
  replace hl : lv_has ls 6 [(0, .ref ra), (1, .int (nI t))] := hl
  refine lv_bipush (v := 7) hx hb d_Ref_act_0 (by decide) ?_
  refine lv_iload_n hx hb d_Ref_act_2 rfl (lv_at hl 1 rfl) ?_
  refine lv_imul hx hb d_Ref_act_3 ?_
  refine tp_i (y := nI (7 * t)) (by exact pk_mul 7 t) ?_
  refine lv_aload_n hx hb d_Ref_act_4 rfl (lv_at hl 0 rfl) ?_
  refine va_get (D := (dC, dI)) (ci := 8) (v := .ref (rA 33)) (C := R_Ref) (T := F_Ref) (N := 48) hx hb hw i_Ref hown hK hP 0 rfl rfl 33 (by decide) (hw _ m_932) (fun _ h9 => h9) rfl d_Ref_act_5 ?_
  refine lv_iload_n hx hb d_Ref_act_8 rfl (lv_at hl 1 rfl) ?_
  refine va_iald (D := (dC, dI)) hx hb hK hP 1 0 rfl rfl (i := nI t) (pk_in t 4 (by omega)) d_Ref_act_9 ?_
  refine tp_i (y := nI (pcn t)) (by rw [show (nI t : Int32).toNatClampNeg = t from pk_cl t]) ?_
  refine lv_iadd hx hb d_Ref_act_10 ?_
  refine tp_i (y := nI (7 * t + (pcn t))) (by exact nI_add (7 * t) (pcn t)) ?_
  refine tp_i (y := nI a) (by rw [ha]) ?_
  refine lv_istore_n (lv' := [(2, .int (nI a)), (0, .ref ra), (1, .int (nI t))]) hx hb d_Ref_act_11 rfl hl (by decide) rfl ?_
  clear hl ls
  intro ls hl
  refine lv_aload_n hx hb d_Ref_act_12 rfl (lv_at hl 1 rfl) ?_
  refine va_get (D := (dC, dI)) (ci := 8) (v := .ref (rA 3)) (C := R_Ref) (T := F_Ref) (N := 48) hx hb hw i_Ref hown hK hP 0 rfl rfl 3 (by decide) (hw _ m_902) (fun _ h9 => h9) rfl d_Ref_act_13 ?_
  refine lv_iload_n hx hb d_Ref_act_16 rfl (lv_at hl 0 rfl) ?_
  refine va_iald (D := (dC, dI)) hx hb hK hP 3 2 rfl rfl (i := nI a) (pk_in a 28 (by omega)) d_Ref_act_17 ?_
  refine tp_i (y := nI (kd a)) (by rw [show (nI a : Int32).toNatClampNeg = a from pk_cl a]) ?_
  refine tp_i (y := 3) (by rw [hk]; rfl) ?_
  refine lv_istore_n (lv' := [(3, .int 3), (2, .int (nI a)), (0, .ref ra), (1, .int (nI t))]) hx hb d_Ref_act_18 rfl hl (by decide) rfl ?_
  clear hl ls
  intro ls hl
  refine lv_iconst (v := 2) hx hb d_Ref_act_19 (by decide) ?_
  refine lv_iload_n hx hb d_Ref_act_20 rfl (lv_at hl 3 rfl) ?_
  refine lv_imul hx hb d_Ref_act_21 ?_
  refine tp_i (y := nI (2 * t)) (by exact pk_mul 2 t) ?_
  refine lv_aload_n hx hb d_Ref_act_22 rfl (lv_at hl 2 rfl) ?_
  refine va_get (D := (dC, dI)) (ci := 8) (v := .ref (rA 5)) (C := R_Ref) (T := F_Ref) (N := 48) hx hb hw i_Ref hown hK hP 0 rfl rfl 5 (by decide) (hw _ m_904) (fun _ h9 => h9) rfl d_Ref_act_23 ?_
  refine lv_iload_n hx hb d_Ref_act_26 rfl (lv_at hl 1 rfl) ?_
  refine va_iald (D := (dC, dI)) hx hb hK hP 5 4 rfl rfl (i := nI a) (pk_in a 28 (by omega)) d_Ref_act_27 ?_
  refine tp_i (y := nI (rr a)) (by rw [show (nI a : Int32).toNatClampNeg = a from pk_cl a]) ?_
  refine lv_iadd hx hb d_Ref_act_28 ?_
  refine tp_i (y := nI (2 * t + (rr a))) (by exact nI_add (2 * t) (rr a)) ?_
  refine lv_istore (lv' := [(4, .int (nI (2 * t + (rr a)))), (3, .int 3), (2, .int (nI a)), (0, .ref ra), (1, .int (nI t))]) hx hb d_Ref_act_29 hl (by decide) rfl ?_
  clear hl ls
  intro ls hl
  refine lv_iload_n hx hb d_Ref_act_31 rfl (lv_at hl 1 rfl) ?_
  refine lv_iconst (v := 5) hx hb d_Ref_act_32 (by decide) ?_
  refine lv_icmp_ne (tgt := 110) hx hb d_Ref_act_33 (by decide) (fun c_1 => ?_) (fun c_1 => absurd c_1 (by decide))
  refine tp_pc (pc' := 110) (by rfl) ?_
  refine lv_iconst (v := 0) hx hb d_Ref_act_110 (by decide) ?_
  refine lv_istore (lv' := [(5, .int 0), (4, .int (nI (2 * t + (rr a)))), (3, .int 3), (2, .int (nI a)), (0, .ref ra), (1, .int (nI t))]) hx hb d_Ref_act_111 hl (by decide) rfl ?_
  clear hl ls
  intro ls hl
  refine lv_iload_n hx hb d_Ref_act_113 rfl (lv_at hl 2 rfl) ?_
  refine tp_i (y := nI 3) rfl ?_
  obtain ⟨hPc, hDc, hFc⟩ := cut3 (wc := []) hP hD rfl hS hA [] (by decide +kernel) rfl
  have hKc := hK.sub (tys' := []) [] rfl
  refine va_calli (va_runS (As := [.int (nI 3)]) (rest := []) ⟨hx, hb, hml, hown, hw⟩ (gen_Ref_takes l dC dI 3 (by decide) s.heap.size) (cw_S 1 hw g_Ref_takes rfl rfl rfl (hw _ m_109) (hw _ m_1190) (hw _ m_1191) (by decide +kernel) ⟨Nat.le_of_ble_eq_true rfl, Nat.le_of_ble_eq_true rfl⟩) ⟨fun a U g mk q => by obtain ⟨q0, q1, qP, qK, qD, qN⟩ := q; exact ⟨q0, q1, qP, va_K.moved (u := U) (U := U.calling g mk a) (Vm.Alike.refl U.vm) qK, qD, nw_call qN⟩, fun U hU hW => ⟨rfl, by rw [hU], by rw [hU]; exact hPc, va_K.moved hW.alike hKc, hDc.weaken (fun _ _ _ _ => trivial), nw_warm hW hn⟩⟩ rfl rfl hl.1 rfl (lv_room (Nat.le_of_ble_eq_true rfl)) d_Ref_act_114 ⟨Nat.le_of_ble_eq_true rfl, Nat.le_of_ble_eq_true rfl⟩) hS (fun q _ h => hFc q h) hFc ?_
  intro r_2 u t9 H1 locs1 ht9 hvm hw1 hB hz1 hk1 hS1
  obtain ⟨hP1, hK1, hD1⟩ := hB
  rw [ht9] at hP1
  replace hK1 := va_K.moved hvm.symm hK1
  have hPD := join3 hP hD rfl [] [0, 1, 2, 3, 4, 5, 6, 7, 8, 9, 10, 11] rfl (by rfl) (by decide +kernel) (by decide +kernel) hk1 hFc hP1 hD1
  replace hK : va_K (dC, dI) classes [((rK9 33), .int), ((rK9 2), .int), ((rK9 3), .int), ((rK9 4), .int), ((rK9 5), .int), ((rK9 6), .int), ((rK9 34), .int), ((rK9 29), .int), ((rK9 31), .boolean), ((rK9 32), .int), ((rK9 30), .boolean)] s := hK.app hK1
  clear hP1 hK1 hD1 hk1 hz1 hFc hKc hDc hPc hvm ht9 hP hS t9
  have hP : va_P (dC, dI) classes [oc ra 8 [.int (nI T), .int (nI Ac), .ref (rA 2), .ref (rA 3), .ref (rA 4), .ref (rA 5), .ref (rA 6), .ref (rA 7), .ref (rA 8), .ref (rA 9), .ref (rA 10), .ref (rA 11), .ref (rA 12), .ref (rA 13), .int ir, .ref (rA 15), .ref (rA 16), .ref (rA 17), .ref (rA 18), .int (nI md), .int (nI wd), .ref (rA 21), .ref (rA 22), .ref (rA 23), .int (nI mn), .ref (rA 25), .int (nI cb), .int mr, .ref (rA 28), .ref (rA 29), .ref (rA 30), .ref (rA 31), .ref (rA 32), .ref (rA 33), .ref (rA 34), .ref (rA 35), .int (nI ld), .int (nI gm), .ref (rA 38), .ref (rA 39), .ref (rA 40), .ref (rA 41), .ref (rA 42), .ref (rA 43), .ref (rA 44), .ref (rA 45), .int (nI my), .ref (rA 47)], ia (rA 33) (rK9 33) 4 (fun i => nI (pcn i)), ia (rA 2) (rK9 2) 4 (fun i => nI (zs i)), ia (rA 3) (rK9 3) 28 (fun i => nI (kd i)), ia (rA 4) (rK9 4) 28 (fun i => nI (vx i)), ia (rA 5) (rK9 5) 28 (fun i => nI (rr i)), ia (rA 6) (rK9 6) 28 vv, ia (rA 34) (rK9 34) 8 hd9, ia (rA 29) (rK9 29) 28 (fun i0 => mN (fm i0)), ia (rA 31) (rK9 31) 28 (fun i => nI (dn i)), ia (rA 32) (rK9 32) 28 gv, ia (rA 30) (rK9 30) 28 (fun i => nI (hp i))] H1 := hPD.1
  replace hD : dd A [ra, (rA 33), (rA 2), (rA 3), (rA 4), (rA 5), (rA 6), (rA 34), (rA 29), (rA 31), (rA 32), (rA 30)] := dd_of hPD.2 rfl
  clear hPD
  revert H1 locs1
  intro H locs hS hP
  refine tp_i (y := 1) (hw1.trans (if_pos (by decide))) ?_
  clear hw1 r_2 u
  refine tp_pc (pc' := 117) (by rfl) ?_
  refine lv_if_eq (tgt := 158) hx hb d_Ref_act_117 (by decide) (fun c_3 => absurd c_3 (by decide)) (fun c_3 => ?_)
  refine tp_pc (pc' := 120) (by rfl) ?_
  refine lv_aload_n hx hb d_Ref_act_120 rfl (lv_at hl 4 rfl) ?_
  refine va_get (D := (dC, dI)) (ci := 8) (v := .ref (rA 29)) (C := R_Ref) (T := F_Ref) (N := 48) hx hb hw i_Ref hown hK hP 0 rfl rfl 29 (by decide) (hw _ m_928) (fun _ h9 => h9) rfl d_Ref_act_121 ?_
  refine lv_iload_n hx hb d_Ref_act_124 rfl (lv_at hl 3 rfl) ?_
  refine va_iald (D := (dC, dI)) hx hb hK hP 8 7 rfl rfl (i := nI a) (pk_in a 28 (by omega)) d_Ref_act_125 ?_
  refine tp_i (y := (fun i0 => mN (fm i0)) a) (by rw [show (nI a : Int32).toNatClampNeg = a from pk_cl a]) ?_
  refine tp_i (y := nI f9) (show mN (fm a) = nI f9 from by rw [hfa, mN_1]) ?_
  refine lv_if_lt (tgt := 158) hx hb d_Ref_act_126 (by decide) (fun c9 => absurd c9 (nI_pos (by omega))) (fun c9 => ?_)
  refine tp_pc (pc' := 129) (by rfl) ?_
  refine lv_aload_n hx hb d_Ref_act_129 rfl (lv_at hl 4 rfl) ?_
  refine va_get (D := (dC, dI)) (ci := 8) (v := .ref (rA 31)) (C := R_Ref) (T := F_Ref) (N := 48) hx hb hw i_Ref hown hK hP 0 rfl rfl 31 (by decide) (hw _ m_930) (fun _ h9 => h9) rfl d_Ref_act_130 ?_
  refine lv_aload_n hx hb d_Ref_act_133 rfl (lv_at hl 4 rfl) ?_
  refine va_get (D := (dC, dI)) (ci := 8) (v := .ref (rA 29)) (C := R_Ref) (T := F_Ref) (N := 48) hx hb hw i_Ref hown hK hP 0 rfl rfl 29 (by decide) (hw _ m_928) (fun _ h9 => h9) rfl d_Ref_act_134 ?_
  refine lv_iload_n hx hb d_Ref_act_137 rfl (lv_at hl 3 rfl) ?_
  refine va_iald (D := (dC, dI)) hx hb hK hP 8 7 rfl rfl (i := nI a) (pk_in a 28 (by omega)) d_Ref_act_138 ?_
  refine tp_i (y := (fun i0 => mN (fm i0)) a) (by rw [show (nI a : Int32).toNatClampNeg = a from pk_cl a]) ?_
  refine tp_i (y := nI f9) (show mN (fm a) = nI f9 from by rw [hfa, mN_1]) ?_
  refine va_zald (D := (dC, dI)) hx hb hK hP 9 8 rfl rfl (i := nI f9) (pk_in f9 28 (by omega)) d_Ref_act_139 ?_
  refine tp_i (y := nI (dn f9)) (by rw [show (nI f9 : Int32).toNatClampNeg = f9 from pk_cl f9]) ?_
  refine lv_if_ne (tgt := 145) hx hb d_Ref_act_140 (by decide) (fun c9 => absurd (show nI (dn f9) = 0 from by rw [hdn]; rfl) c9) (fun c9 => ?_)
  refine tp_pc (pc' := 143) (by rfl) ?_
  refine lv_iconst (v := 0) hx hb d_Ref_act_143 (by decide) ?_
  obtain ⟨hP9, hD9, -⟩ := cut3 (wc := [oc ra 8 [.int (nI T), .int (nI Ac), .ref (rA 2), .ref (rA 3), .ref (rA 4), .ref (rA 5), .ref (rA 6), .ref (rA 7), .ref (rA 8), .ref (rA 9), .ref (rA 10), .ref (rA 11), .ref (rA 12), .ref (rA 13), .int ir, .ref (rA 15), .ref (rA 16), .ref (rA 17), .ref (rA 18), .int (nI md), .int (nI wd), .ref (rA 21), .ref (rA 22), .ref (rA 23), .int (nI mn), .ref (rA 25), .int (nI cb), .int mr, .ref (rA 28), .ref (rA 29), .ref (rA 30), .ref (rA 31), .ref (rA 32), .ref (rA 33), .ref (rA 34), .ref (rA 35), .int (nI ld), .int (nI gm), .ref (rA 38), .ref (rA 39), .ref (rA 40), .ref (rA 41), .ref (rA 42), .ref (rA 43), .ref (rA 44), .ref (rA 45), .int (nI my), .ref (rA 47)], ia (rA 33) (rK9 33) 4 (fun i => nI (pcn i)), ia (rA 2) (rK9 2) 4 (fun i => nI (zs i)), ia (rA 3) (rK9 3) 28 (fun i => nI (kd i)), ia (rA 4) (rK9 4) 28 (fun i => nI (vx i)), ia (rA 5) (rK9 5) 28 (fun i => nI (rr i)), ia (rA 6) (rK9 6) 28 vv, ia (rA 34) (rK9 34) 8 hd9, ia (rA 29) (rK9 29) 28 (fun i0 => mN (fm i0)), ia (rA 31) (rK9 31) 28 (fun i => nI (dn i)), ia (rA 32) (rK9 32) 28 gv, ia (rA 30) (rK9 30) 28 (fun i => nI (hp i))]) hP hD rfl hS hA [0, 1, 2, 3, 4, 5, 6, 7, 8, 9, 10, 11] (by decide +kernel) rfl
  have hK9 := hK.sub (tys' := []) [] rfl
  refine W.widen (k := 0) (n := 0) (by exact Nat.le_of_ble_eq_true rfl) (by exact Nat.le_of_ble_eq_true rfl) ?_
  exact W.zret (v := 0) (ty := .boolean) hx hb hr (by decide) (fun t9 ht9 hW => ⟨⟨0, (), rfl, rfl, by rw [ht9]; exact hP9, va_K.moved hW.alike hK9, hD9⟩, hS.F ht9⟩) hS.2.2 d_Ref_act_144
set_option maxHeartbeats 4000000 in
set_option maxRecDepth 100000 in
theorem gen_Ref_act_3s (l : Launch) (dC : Nat → ClassId) (dI : Nat → Nat → Nat) (ra : Nat) (rA : Nat → Nat) (rK9 : Nat → ClassId) (T Ac md wd mn cb ld gm my : Nat) (ir mr : Int32) (t a : Nat) (pcn zs kd vx rr fm dn hp : Nat → Nat) (vv hd9 gv : Nat → Int32) (f9 : Nat) (ht : t < 4) (ha : a = 7 * t + pcn t) (hpc : pcn t < zs t) (hzt : zs t ≤ 7) (hvx : vx a < 4) (hrr : rr a < 2) (hk : kd a = 3) (hfa : fm a = f9 + 1) (hf9 : f9 < 28) (hdn : dn f9 = 1) (sz : Nat) : Met l y_Ref_act w_Ref_act ({ frames := 1, cells := 0, slots := 0, locals := 40 }) (va_Pc [.ref ra, .int (nI t)] (fun U => U.heap.size = sz ∧ va_P (dC, dI) classes [oc ra 8 [.int (nI T), .int (nI Ac), .ref (rA 2), .ref (rA 3), .ref (rA 4), .ref (rA 5), .ref (rA 6), .ref (rA 7), .ref (rA 8), .ref (rA 9), .ref (rA 10), .ref (rA 11), .ref (rA 12), .ref (rA 13), .int ir, .ref (rA 15), .ref (rA 16), .ref (rA 17), .ref (rA 18), .int (nI md), .int (nI wd), .ref (rA 21), .ref (rA 22), .ref (rA 23), .int (nI mn), .ref (rA 25), .int (nI cb), .int mr, .ref (rA 28), .ref (rA 29), .ref (rA 30), .ref (rA 31), .ref (rA 32), .ref (rA 33), .ref (rA 34), .ref (rA 35), .int (nI ld), .int (nI gm), .ref (rA 38), .ref (rA 39), .ref (rA 40), .ref (rA 41), .ref (rA 42), .ref (rA 43), .ref (rA 44), .ref (rA 45), .int (nI my), .ref (rA 47)], ia (rA 33) (rK9 33) 4 (fun i => nI (pcn i)), ia (rA 2) (rK9 2) 4 (fun i => nI (zs i)), ia (rA 3) (rK9 3) 28 (fun i => nI (kd i)), ia (rA 4) (rK9 4) 28 (fun i => nI (vx i)), ia (rA 5) (rK9 5) 28 (fun i => nI (rr i)), ia (rA 6) (rK9 6) 28 vv, ia (rA 34) (rK9 34) 8 hd9, ia (rA 29) (rK9 29) 28 (fun i0 => mN (fm i0)), ia (rA 31) (rK9 31) 28 (fun i => nI (dn i)), ia (rA 32) (rK9 32) 28 gv, ia (rA 30) (rK9 30) 28 (fun i => nI (hp i))] U.heap ∧ va_K (dC, dI) classes [((rK9 33), .int), ((rK9 2), .int), ((rK9 3), .int), ((rK9 4), .int), ((rK9 5), .int), ((rK9 6), .int), ((rK9 34), .int), ((rK9 29), .int), ((rK9 31), .boolean), ((rK9 32), .int), ((rK9 30), .boolean)] U ∧ va_D (fun _ => True) [oc ra 8 [.int (nI T), .int (nI Ac), .ref (rA 2), .ref (rA 3), .ref (rA 4), .ref (rA 5), .ref (rA 6), .ref (rA 7), .ref (rA 8), .ref (rA 9), .ref (rA 10), .ref (rA 11), .ref (rA 12), .ref (rA 13), .int ir, .ref (rA 15), .ref (rA 16), .ref (rA 17), .ref (rA 18), .int (nI md), .int (nI wd), .ref (rA 21), .ref (rA 22), .ref (rA 23), .int (nI mn), .ref (rA 25), .int (nI cb), .int mr, .ref (rA 28), .ref (rA 29), .ref (rA 30), .ref (rA 31), .ref (rA 32), .ref (rA 33), .ref (rA 34), .ref (rA 35), .int (nI ld), .int (nI gm), .ref (rA 38), .ref (rA 39), .ref (rA 40), .ref (rA 41), .ref (rA 42), .ref (rA 43), .ref (rA 44), .ref (rA 45), .int (nI my), .ref (rA 47)], ia (rA 33) (rK9 33) 4 (fun i => nI (pcn i)), ia (rA 2) (rK9 2) 4 (fun i => nI (zs i)), ia (rA 3) (rK9 3) 28 (fun i => nI (kd i)), ia (rA 4) (rK9 4) 28 (fun i => nI (vx i)), ia (rA 5) (rK9 5) 28 (fun i => nI (rr i)), ia (rA 6) (rK9 6) 28 vv, ia (rA 34) (rK9 34) 8 hd9, ia (rA 29) (rK9 29) 28 (fun i0 => mN (fm i0)), ia (rA 31) (rK9 31) 28 (fun i => nI (dn i)), ia (rA 32) (rK9 32) 28 gv, ia (rA 30) (rK9 30) 28 (fun i => nI (hp i))] ∧ nw U)) (va_Qi (fun (r : Int32) (_ : Unit) => r = 1) (fun _ t9 => va_P (dC, dI) classes [oc ra 8 [.int (nI T), .int (nI Ac), .ref (rA 2), .ref (rA 3), .ref (rA 4), .ref (rA 5), .ref (rA 6), .ref (rA 7), .ref (rA 8), .ref (rA 9), .ref (rA 10), .ref (rA 11), .ref (rA 12), .ref (rA 13), .int ir, .ref (rA 15), .ref (rA 16), .ref (rA 17), .ref (rA 18), .int (nI md), .int (nI wd), .ref (rA 21), .ref (rA 22), .ref (rA 23), .int (nI mn), .ref (rA 25), .int (nI cb), .int mr, .ref (rA 28), .ref (rA 29), .ref (rA 30), .ref (rA 31), .ref (rA 32), .ref (rA 33), .ref (rA 34), .ref (rA 35), .int (nI ld), .int (nI gm), .ref (rA 38), .ref (rA 39), .ref (rA 40), .ref (rA 41), .ref (rA 42), .ref (rA 43), .ref (rA 44), .ref (rA 45), .int (nI my), .ref (rA 47)], ia (rA 33) (rK9 33) 4 (fun i => nI ((updN pcn t (pcn t + 1)) i)), ia (rA 2) (rK9 2) 4 (fun i => nI (zs i)), ia (rA 3) (rK9 3) 28 (fun i => nI (kd i)), ia (rA 4) (rK9 4) 28 (fun i => nI (vx i)), ia (rA 5) (rK9 5) 28 (fun i => nI (rr i)), ia (rA 6) (rK9 6) 28 vv, ia (rA 34) (rK9 34) 8 (upd hd9 (2 * t + rr a) (gv f9)), ia (rA 29) (rK9 29) 28 (fun i0 => mN (fm i0)), ia (rA 31) (rK9 31) 28 (fun i => nI ((updN dn a 1) i)), ia (rA 32) (rK9 32) 28 (upd gv a (gv f9 + vv a)), ia (rA 30) (rK9 30) 28 (fun i => nI ((updN hp a 1) i))] t9.heap ∧ va_K (dC, dI) classes [] t9 ∧ va_D (va_A [oc ra 8 [.int (nI T), .int (nI Ac), .ref (rA 2), .ref (rA 3), .ref (rA 4), .ref (rA 5), .ref (rA 6), .ref (rA 7), .ref (rA 8), .ref (rA 9), .ref (rA 10), .ref (rA 11), .ref (rA 12), .ref (rA 13), .int ir, .ref (rA 15), .ref (rA 16), .ref (rA 17), .ref (rA 18), .int (nI md), .int (nI wd), .ref (rA 21), .ref (rA 22), .ref (rA 23), .int (nI mn), .ref (rA 25), .int (nI cb), .int mr, .ref (rA 28), .ref (rA 29), .ref (rA 30), .ref (rA 31), .ref (rA 32), .ref (rA 33), .ref (rA 34), .ref (rA 35), .int (nI ld), .int (nI gm), .ref (rA 38), .ref (rA 39), .ref (rA 40), .ref (rA 41), .ref (rA 42), .ref (rA 43), .ref (rA 44), .ref (rA 45), .int (nI my), .ref (rA 47)], ia (rA 33) (rK9 33) 4 (fun i => nI (pcn i)), ia (rA 2) (rK9 2) 4 (fun i => nI (zs i)), ia (rA 3) (rK9 3) 28 (fun i => nI (kd i)), ia (rA 4) (rK9 4) 28 (fun i => nI (vx i)), ia (rA 5) (rK9 5) 28 (fun i => nI (rr i)), ia (rA 6) (rK9 6) 28 vv, ia (rA 34) (rK9 34) 8 hd9, ia (rA 29) (rK9 29) 28 (fun i0 => mN (fm i0)), ia (rA 31) (rK9 31) 28 (fun i => nI (dn i)), ia (rA 32) (rK9 32) 28 gv, ia (rA 30) (rK9 30) 28 (fun i => nI (hp i))] sz) [oc ra 8 [.int (nI T), .int (nI Ac), .ref (rA 2), .ref (rA 3), .ref (rA 4), .ref (rA 5), .ref (rA 6), .ref (rA 7), .ref (rA 8), .ref (rA 9), .ref (rA 10), .ref (rA 11), .ref (rA 12), .ref (rA 13), .int ir, .ref (rA 15), .ref (rA 16), .ref (rA 17), .ref (rA 18), .int (nI md), .int (nI wd), .ref (rA 21), .ref (rA 22), .ref (rA 23), .int (nI mn), .ref (rA 25), .int (nI cb), .int mr, .ref (rA 28), .ref (rA 29), .ref (rA 30), .ref (rA 31), .ref (rA 32), .ref (rA 33), .ref (rA 34), .ref (rA 35), .int (nI ld), .int (nI gm), .ref (rA 38), .ref (rA 39), .ref (rA 40), .ref (rA 41), .ref (rA 42), .ref (rA 43), .ref (rA 44), .ref (rA 45), .int (nI my), .ref (rA 47)], ia (rA 33) (rK9 33) 4 (fun i => nI ((updN pcn t (pcn t + 1)) i)), ia (rA 2) (rK9 2) 4 (fun i => nI (zs i)), ia (rA 3) (rK9 3) 28 (fun i => nI (kd i)), ia (rA 4) (rK9 4) 28 (fun i => nI (vx i)), ia (rA 5) (rK9 5) 28 (fun i => nI (rr i)), ia (rA 6) (rK9 6) 28 vv, ia (rA 34) (rK9 34) 8 (upd hd9 (2 * t + rr a) (gv f9)), ia (rA 29) (rK9 29) 28 (fun i0 => mN (fm i0)), ia (rA 31) (rK9 31) 28 (fun i => nI ((updN dn a 1) i)), ia (rA 32) (rK9 32) 28 (upd gv a (gv f9 + vv a)), ia (rA 30) (rK9 30) 28 (fun i => nI ((updN hp a 1) i))]) (va_A [oc ra 8 [.int (nI T), .int (nI Ac), .ref (rA 2), .ref (rA 3), .ref (rA 4), .ref (rA 5), .ref (rA 6), .ref (rA 7), .ref (rA 8), .ref (rA 9), .ref (rA 10), .ref (rA 11), .ref (rA 12), .ref (rA 13), .int ir, .ref (rA 15), .ref (rA 16), .ref (rA 17), .ref (rA 18), .int (nI md), .int (nI wd), .ref (rA 21), .ref (rA 22), .ref (rA 23), .int (nI mn), .ref (rA 25), .int (nI cb), .int mr, .ref (rA 28), .ref (rA 29), .ref (rA 30), .ref (rA 31), .ref (rA 32), .ref (rA 33), .ref (rA 34), .ref (rA 35), .int (nI ld), .int (nI gm), .ref (rA 38), .ref (rA 39), .ref (rA 40), .ref (rA 41), .ref (rA 42), .ref (rA 43), .ref (rA 44), .ref (rA 45), .int (nI my), .ref (rA 47)], ia (rA 33) (rK9 33) 4 (fun i => nI (pcn i)), ia (rA 2) (rK9 2) 4 (fun i => nI (zs i)), ia (rA 3) (rK9 3) 28 (fun i => nI (kd i)), ia (rA 4) (rK9 4) 28 (fun i => nI (vx i)), ia (rA 5) (rK9 5) 28 (fun i => nI (rr i)), ia (rA 6) (rK9 6) 28 vv, ia (rA 34) (rK9 34) 8 hd9, ia (rA 29) (rK9 29) 28 (fun i0 => mN (fm i0)), ia (rA 31) (rK9 31) 28 (fun i => nI (dn i)), ia (rA 32) (rK9 32) 28 gv, ia (rA 30) (rK9 30) 28 (fun i => nI (hp i))] sz)) 0 0 (va_A [oc ra 8 [.int (nI T), .int (nI Ac), .ref (rA 2), .ref (rA 3), .ref (rA 4), .ref (rA 5), .ref (rA 6), .ref (rA 7), .ref (rA 8), .ref (rA 9), .ref (rA 10), .ref (rA 11), .ref (rA 12), .ref (rA 13), .int ir, .ref (rA 15), .ref (rA 16), .ref (rA 17), .ref (rA 18), .int (nI md), .int (nI wd), .ref (rA 21), .ref (rA 22), .ref (rA 23), .int (nI mn), .ref (rA 25), .int (nI cb), .int mr, .ref (rA 28), .ref (rA 29), .ref (rA 30), .ref (rA 31), .ref (rA 32), .ref (rA 33), .ref (rA 34), .ref (rA 35), .int (nI ld), .int (nI gm), .ref (rA 38), .ref (rA 39), .ref (rA 40), .ref (rA 41), .ref (rA 42), .ref (rA 43), .ref (rA 44), .ref (rA 45), .int (nI my), .ref (rA 47)], ia (rA 33) (rK9 33) 4 (fun i => nI (pcn i)), ia (rA 2) (rK9 2) 4 (fun i => nI (zs i)), ia (rA 3) (rK9 3) 28 (fun i => nI (kd i)), ia (rA 4) (rK9 4) 28 (fun i => nI (vx i)), ia (rA 5) (rK9 5) 28 (fun i => nI (rr i)), ia (rA 6) (rK9 6) 28 vv, ia (rA 34) (rK9 34) 8 hd9, ia (rA 29) (rK9 29) 28 (fun i0 => mN (fm i0)), ia (rA 31) (rK9 31) 28 (fun i => nI (dn i)), ia (rA 32) (rK9 32) 28 gv, ia (rA 30) (rK9 30) 28 (fun i => nI (hp i))] sz) := by
  refine Met.ofW (cc := b_Ref_act) (maxL := 6) (ret := (some .boolean)) (by decide) rfl ?_
  intro p e0 s m args below meth c s₁ B hml hv
  obtain ⟨rfl, hsz, hP, hK, hD0, hn⟩ := hv
  have hx := B.exec
  have hb := B.bytes
  have hr := B.returns
  have hw := fun w (h : w ∈ wt) => atoms_spec (ws := w_Ref_act) B.pre w (List.mem_cons_of_mem _ h)
  have hown : s.vm.findClass R_Ref = some m.cls := findClass_of_methodNamed B.named
  have hlocks := B.notSynchronized
  subst hsz
  have hD1 := hD0.self (sz := s.heap.size)
  generalize hAe : va_A [oc ra 8 [.int (nI T), .int (nI Ac), .ref (rA 2), .ref (rA 3), .ref (rA 4), .ref (rA 5), .ref (rA 6), .ref (rA 7), .ref (rA 8), .ref (rA 9), .ref (rA 10), .ref (rA 11), .ref (rA 12), .ref (rA 13), .int ir, .ref (rA 15), .ref (rA 16), .ref (rA 17), .ref (rA 18), .int (nI md), .int (nI wd), .ref (rA 21), .ref (rA 22), .ref (rA 23), .int (nI mn), .ref (rA 25), .int (nI cb), .int mr, .ref (rA 28), .ref (rA 29), .ref (rA 30), .ref (rA 31), .ref (rA 32), .ref (rA 33), .ref (rA 34), .ref (rA 35), .int (nI ld), .int (nI gm), .ref (rA 38), .ref (rA 39), .ref (rA 40), .ref (rA 41), .ref (rA 42), .ref (rA 43), .ref (rA 44), .ref (rA 45), .int (nI my), .ref (rA 47)], ia (rA 33) (rK9 33) 4 (fun i => nI (pcn i)), ia (rA 2) (rK9 2) 4 (fun i => nI (zs i)), ia (rA 3) (rK9 3) 28 (fun i => nI (kd i)), ia (rA 4) (rK9 4) 28 (fun i => nI (vx i)), ia (rA 5) (rK9 5) 28 (fun i => nI (rr i)), ia (rA 6) (rK9 6) 28 vv, ia (rA 34) (rK9 34) 8 hd9, ia (rA 29) (rK9 29) 28 (fun i0 => mN (fm i0)), ia (rA 31) (rK9 31) 28 (fun i => nI (dn i)), ia (rA 32) (rK9 32) 28 gv, ia (rA 30) (rK9 30) 28 (fun i => nI (hp i))] s.heap.size = A at hD1 ⊢
  have hA : ∀ q : Nat, s.heap.size ≤ q → A q := fun q h => by rw [← hAe]; exact Or.inr h
  have hD : dd A [ra, (rA 33), (rA 2), (rA 3), (rA 4), (rA 5), (rA 6), (rA 34), (rA 29), (rA 31), (rA 32), (rA 30)] := dd_of hD1 rfl
  clear hAe hD0 hD1
  have hS : va_S A s.heap s.heap [] := va_S.rf
  replace hP : va_P (dC, dI) classes [oc ra 8 [.int (nI T), .int (nI Ac), .ref (rA 2), .ref (rA 3), .ref (rA 4), .ref (rA 5), .ref (rA 6), .ref (rA 7), .ref (rA 8), .ref (rA 9), .ref (rA 10), .ref (rA 11), .ref (rA 12), .ref (rA 13), .int ir, .ref (rA 15), .ref (rA 16), .ref (rA 17), .ref (rA 18), .int (nI md), .int (nI wd), .ref (rA 21), .ref (rA 22), .ref (rA 23), .int (nI mn), .ref (rA 25), .int (nI cb), .int mr, .ref (rA 28), .ref (rA 29), .ref (rA 30), .ref (rA 31), .ref (rA 32), .ref (rA 33), .ref (rA 34), .ref (rA 35), .int (nI ld), .int (nI gm), .ref (rA 38), .ref (rA 39), .ref (rA 40), .ref (rA 41), .ref (rA 42), .ref (rA 43), .ref (rA 44), .ref (rA 45), .int (nI my), .ref (rA 47)], ia (rA 33) (rK9 33) 4 (fun i => nI (pcn i)), ia (rA 2) (rK9 2) 4 (fun i => nI (zs i)), ia (rA 3) (rK9 3) 28 (fun i => nI (kd i)), ia (rA 4) (rK9 4) 28 (fun i => nI (vx i)), ia (rA 5) (rK9 5) 28 (fun i => nI (rr i)), ia (rA 6) (rK9 6) 28 vv, ia (rA 34) (rK9 34) 8 hd9, ia (rA 29) (rK9 29) 28 (fun i0 => mN (fm i0)), ia (rA 31) (rK9 31) 28 (fun i => nI (dn i)), ia (rA 32) (rK9 32) 28 gv, ia (rA 30) (rK9 30) 28 (fun i => nI (hp i))] s.heap := hP
  have hl := lv_entry ([.ref ra, .int (nI t)]) (n := 6) (Nat.le_of_ble_eq_true rfl)
  rw [lg_entry_eq]
  generalize (lg_sl ([.ref ra, .int (nI t)]) ++ List.replicate (6 - (lg_sl ([.ref ra, .int (nI t)])).length) Slot.unset).toArray = ls at hl ⊢
  replace hl : lv_has ls 6 [(0, .ref ra), (1, .int (nI t))] := hl
  refine lv_bipush (v := 7) hx hb d_Ref_act_0 (by decide) ?_
  refine lv_iload_n hx hb d_Ref_act_2 rfl (lv_at hl 1 rfl) ?_
  refine lv_imul hx hb d_Ref_act_3 ?_
  refine tp_i (y := nI (7 * t)) (by exact pk_mul 7 t) ?_
  refine lv_aload_n hx hb d_Ref_act_4 rfl (lv_at hl 0 rfl) ?_
  refine va_get (D := (dC, dI)) (ci := 8) (v := .ref (rA 33)) (C := R_Ref) (T := F_Ref) (N := 48) hx hb hw i_Ref hown hK hP 0 rfl rfl 33 (by decide) (hw _ m_932) (fun _ h9 => h9) rfl d_Ref_act_5 ?_
  refine lv_iload_n hx hb d_Ref_act_8 rfl (lv_at hl 1 rfl) ?_
  refine va_iald (D := (dC, dI)) hx hb hK hP 1 0 rfl rfl (i := nI t) (pk_in t 4 (by omega)) d_Ref_act_9 ?_
  refine tp_i (y := nI (pcn t)) (by rw [show (nI t : Int32).toNatClampNeg = t from pk_cl t]) ?_
  refine lv_iadd hx hb d_Ref_act_10 ?_
  refine tp_i (y := nI (7 * t + (pcn t))) (by exact nI_add (7 * t) (pcn t)) ?_
  refine tp_i (y := nI a) (by rw [ha]) ?_
  refine lv_istore_n (lv' := [(2, .int (nI a)), (0, .ref ra), (1, .int (nI t))]) hx hb d_Ref_act_11 rfl hl (by decide) rfl ?_
  clear hl ls
  intro ls hl
  refine lv_aload_n hx hb d_Ref_act_12 rfl (lv_at hl 1 rfl) ?_
  refine va_get (D := (dC, dI)) (ci := 8) (v := .ref (rA 3)) (C := R_Ref) (T := F_Ref) (N := 48) hx hb hw i_Ref hown hK hP 0 rfl rfl 3 (by decide) (hw _ m_902) (fun _ h9 => h9) rfl d_Ref_act_13 ?_
  refine lv_iload_n hx hb d_Ref_act_16 rfl (lv_at hl 0 rfl) ?_
  refine va_iald (D := (dC, dI)) hx hb hK hP 3 2 rfl rfl (i := nI a) (pk_in a 28 (by omega)) d_Ref_act_17 ?_
  refine tp_i (y := nI (kd a)) (by rw [show (nI a : Int32).toNatClampNeg = a from pk_cl a]) ?_
  refine tp_i (y := 3) (by rw [hk]; rfl) ?_
  refine lv_istore_n (lv' := [(3, .int 3), (2, .int (nI a)), (0, .ref ra), (1, .int (nI t))]) hx hb d_Ref_act_18 rfl hl (by decide) rfl ?_
  clear hl ls
  intro ls hl
  refine lv_iconst (v := 2) hx hb d_Ref_act_19 (by decide) ?_
  refine lv_iload_n hx hb d_Ref_act_20 rfl (lv_at hl 3 rfl) ?_
  refine lv_imul hx hb d_Ref_act_21 ?_
  refine tp_i (y := nI (2 * t)) (by exact pk_mul 2 t) ?_
  refine lv_aload_n hx hb d_Ref_act_22 rfl (lv_at hl 2 rfl) ?_
  refine va_get (D := (dC, dI)) (ci := 8) (v := .ref (rA 5)) (C := R_Ref) (T := F_Ref) (N := 48) hx hb hw i_Ref hown hK hP 0 rfl rfl 5 (by decide) (hw _ m_904) (fun _ h9 => h9) rfl d_Ref_act_23 ?_
  refine lv_iload_n hx hb d_Ref_act_26 rfl (lv_at hl 1 rfl) ?_
  refine va_iald (D := (dC, dI)) hx hb hK hP 5 4 rfl rfl (i := nI a) (pk_in a 28 (by omega)) d_Ref_act_27 ?_
  refine tp_i (y := nI (rr a)) (by rw [show (nI a : Int32).toNatClampNeg = a from pk_cl a]) ?_
  refine lv_iadd hx hb d_Ref_act_28 ?_
  refine tp_i (y := nI (2 * t + (rr a))) (by exact nI_add (2 * t) (rr a)) ?_
  refine lv_istore (lv' := [(4, .int (nI (2 * t + (rr a)))), (3, .int 3), (2, .int (nI a)), (0, .ref ra), (1, .int (nI t))]) hx hb d_Ref_act_29 hl (by decide) rfl ?_
  clear hl ls
  intro ls hl
  refine lv_iload_n hx hb d_Ref_act_31 rfl (lv_at hl 1 rfl) ?_
  refine lv_iconst (v := 5) hx hb d_Ref_act_32 (by decide) ?_
  refine lv_icmp_ne (tgt := 110) hx hb d_Ref_act_33 (by decide) (fun c_1 => ?_) (fun c_1 => absurd c_1 (by decide))
  refine tp_pc (pc' := 110) (by rfl) ?_
  refine lv_iconst (v := 0) hx hb d_Ref_act_110 (by decide) ?_
  refine lv_istore (lv' := [(5, .int 0), (4, .int (nI (2 * t + (rr a)))), (3, .int 3), (2, .int (nI a)), (0, .ref ra), (1, .int (nI t))]) hx hb d_Ref_act_111 hl (by decide) rfl ?_
  clear hl ls
  intro ls hl
  refine lv_iload_n hx hb d_Ref_act_113 rfl (lv_at hl 2 rfl) ?_
  refine tp_i (y := nI 3) rfl ?_
  obtain ⟨hPc, hDc, hFc⟩ := cut3 (wc := []) hP hD rfl hS hA [] (by decide +kernel) rfl
  have hKc := hK.sub (tys' := []) [] rfl
  refine va_calli (va_runS (As := [.int (nI 3)]) (rest := []) ⟨hx, hb, hml, hown, hw⟩ (gen_Ref_takes l dC dI 3 (by decide) s.heap.size) (cw_S 1 hw g_Ref_takes rfl rfl rfl (hw _ m_109) (hw _ m_1190) (hw _ m_1191) (by decide +kernel) ⟨Nat.le_of_ble_eq_true rfl, Nat.le_of_ble_eq_true rfl⟩) ⟨fun a U g mk q => by obtain ⟨q0, q1, qP, qK, qD, qN⟩ := q; exact ⟨q0, q1, qP, va_K.moved (u := U) (U := U.calling g mk a) (Vm.Alike.refl U.vm) qK, qD, nw_call qN⟩, fun U hU hW => ⟨rfl, by rw [hU], by rw [hU]; exact hPc, va_K.moved hW.alike hKc, hDc.weaken (fun _ _ _ _ => trivial), nw_warm hW hn⟩⟩ rfl rfl hl.1 rfl (lv_room (Nat.le_of_ble_eq_true rfl)) d_Ref_act_114 ⟨Nat.le_of_ble_eq_true rfl, Nat.le_of_ble_eq_true rfl⟩) hS (fun q _ h => hFc q h) hFc ?_
  intro r_2 u t9 H1 locs1 ht9 hvm hw1 hB hz1 hk1 hS1
  obtain ⟨hP1, hK1, hD1⟩ := hB
  rw [ht9] at hP1
  replace hK1 := va_K.moved hvm.symm hK1
  have hPD := join3 hP hD rfl [] [0, 1, 2, 3, 4, 5, 6, 7, 8, 9, 10, 11] rfl (by rfl) (by decide +kernel) (by decide +kernel) hk1 hFc hP1 hD1
  replace hK : va_K (dC, dI) classes [((rK9 33), .int), ((rK9 2), .int), ((rK9 3), .int), ((rK9 4), .int), ((rK9 5), .int), ((rK9 6), .int), ((rK9 34), .int), ((rK9 29), .int), ((rK9 31), .boolean), ((rK9 32), .int), ((rK9 30), .boolean)] s := hK.app hK1
  clear hP1 hK1 hD1 hk1 hz1 hFc hKc hDc hPc hvm ht9 hP hS t9
  have hP : va_P (dC, dI) classes [oc ra 8 [.int (nI T), .int (nI Ac), .ref (rA 2), .ref (rA 3), .ref (rA 4), .ref (rA 5), .ref (rA 6), .ref (rA 7), .ref (rA 8), .ref (rA 9), .ref (rA 10), .ref (rA 11), .ref (rA 12), .ref (rA 13), .int ir, .ref (rA 15), .ref (rA 16), .ref (rA 17), .ref (rA 18), .int (nI md), .int (nI wd), .ref (rA 21), .ref (rA 22), .ref (rA 23), .int (nI mn), .ref (rA 25), .int (nI cb), .int mr, .ref (rA 28), .ref (rA 29), .ref (rA 30), .ref (rA 31), .ref (rA 32), .ref (rA 33), .ref (rA 34), .ref (rA 35), .int (nI ld), .int (nI gm), .ref (rA 38), .ref (rA 39), .ref (rA 40), .ref (rA 41), .ref (rA 42), .ref (rA 43), .ref (rA 44), .ref (rA 45), .int (nI my), .ref (rA 47)], ia (rA 33) (rK9 33) 4 (fun i => nI (pcn i)), ia (rA 2) (rK9 2) 4 (fun i => nI (zs i)), ia (rA 3) (rK9 3) 28 (fun i => nI (kd i)), ia (rA 4) (rK9 4) 28 (fun i => nI (vx i)), ia (rA 5) (rK9 5) 28 (fun i => nI (rr i)), ia (rA 6) (rK9 6) 28 vv, ia (rA 34) (rK9 34) 8 hd9, ia (rA 29) (rK9 29) 28 (fun i0 => mN (fm i0)), ia (rA 31) (rK9 31) 28 (fun i => nI (dn i)), ia (rA 32) (rK9 32) 28 gv, ia (rA 30) (rK9 30) 28 (fun i => nI (hp i))] H1 := hPD.1
  replace hD : dd A [ra, (rA 33), (rA 2), (rA 3), (rA 4), (rA 5), (rA 6), (rA 34), (rA 29), (rA 31), (rA 32), (rA 30)] := dd_of hPD.2 rfl
  clear hPD
  revert H1 locs1
  intro H locs hS hP
  refine tp_i (y := 1) (hw1.trans (if_pos (by decide))) ?_
  clear hw1 r_2 u
  refine tp_pc (pc' := 117) (by rfl) ?_
  refine lv_if_eq (tgt := 158) hx hb d_Ref_act_117 (by decide) (fun c_3 => absurd c_3 (by decide)) (fun c_3 => ?_)
  refine tp_pc (pc' := 120) (by rfl) ?_
  refine lv_aload_n hx hb d_Ref_act_120 rfl (lv_at hl 4 rfl) ?_
  refine va_get (D := (dC, dI)) (ci := 8) (v := .ref (rA 29)) (C := R_Ref) (T := F_Ref) (N := 48) hx hb hw i_Ref hown hK hP 0 rfl rfl 29 (by decide) (hw _ m_928) (fun _ h9 => h9) rfl d_Ref_act_121 ?_
  refine lv_iload_n hx hb d_Ref_act_124 rfl (lv_at hl 3 rfl) ?_
  refine va_iald (D := (dC, dI)) hx hb hK hP 8 7 rfl rfl (i := nI a) (pk_in a 28 (by omega)) d_Ref_act_125 ?_
  refine tp_i (y := (fun i0 => mN (fm i0)) a) (by rw [show (nI a : Int32).toNatClampNeg = a from pk_cl a]) ?_
  refine tp_i (y := nI f9) (show mN (fm a) = nI f9 from by rw [hfa, mN_1]) ?_
  refine lv_if_lt (tgt := 158) hx hb d_Ref_act_126 (by decide) (fun c9 => absurd c9 (nI_pos (by omega))) (fun c9 => ?_)
  refine tp_pc (pc' := 129) (by rfl) ?_
  refine lv_aload_n hx hb d_Ref_act_129 rfl (lv_at hl 4 rfl) ?_
  refine va_get (D := (dC, dI)) (ci := 8) (v := .ref (rA 31)) (C := R_Ref) (T := F_Ref) (N := 48) hx hb hw i_Ref hown hK hP 0 rfl rfl 31 (by decide) (hw _ m_930) (fun _ h9 => h9) rfl d_Ref_act_130 ?_
  refine lv_aload_n hx hb d_Ref_act_133 rfl (lv_at hl 4 rfl) ?_
  refine va_get (D := (dC, dI)) (ci := 8) (v := .ref (rA 29)) (C := R_Ref) (T := F_Ref) (N := 48) hx hb hw i_Ref hown hK hP 0 rfl rfl 29 (by decide) (hw _ m_928) (fun _ h9 => h9) rfl d_Ref_act_134 ?_
  refine lv_iload_n hx hb d_Ref_act_137 rfl (lv_at hl 3 rfl) ?_
  refine va_iald (D := (dC, dI)) hx hb hK hP 8 7 rfl rfl (i := nI a) (pk_in a 28 (by omega)) d_Ref_act_138 ?_
  refine tp_i (y := (fun i0 => mN (fm i0)) a) (by rw [show (nI a : Int32).toNatClampNeg = a from pk_cl a]) ?_
  refine tp_i (y := nI f9) (show mN (fm a) = nI f9 from by rw [hfa, mN_1]) ?_
  refine va_zald (D := (dC, dI)) hx hb hK hP 9 8 rfl rfl (i := nI f9) (pk_in f9 28 (by omega)) d_Ref_act_139 ?_
  refine tp_i (y := nI (dn f9)) (by rw [show (nI f9 : Int32).toNatClampNeg = f9 from pk_cl f9]) ?_
  refine lv_if_ne (tgt := 145) hx hb d_Ref_act_140 (by decide) (fun c9 => ?_) (fun c9 => absurd ((nI_eq (a := dn f9) (b := 0) (by omega) (by omega)).mp c9) (by omega))
  refine tp_pc (pc' := 145) (by rfl) ?_
  refine lv_aload_n hx hb d_Ref_act_145 rfl (lv_at hl 4 rfl) ?_
  refine va_get (D := (dC, dI)) (ci := 8) (v := .ref (rA 32)) (C := R_Ref) (T := F_Ref) (N := 48) hx hb hw i_Ref hown hK hP 0 rfl rfl 32 (by decide) (hw _ m_931) (fun _ h9 => h9) rfl d_Ref_act_146 ?_
  refine lv_aload_n hx hb d_Ref_act_149 rfl (lv_at hl 4 rfl) ?_
  refine va_get (D := (dC, dI)) (ci := 8) (v := .ref (rA 29)) (C := R_Ref) (T := F_Ref) (N := 48) hx hb hw i_Ref hown hK hP 0 rfl rfl 29 (by decide) (hw _ m_928) (fun _ h9 => h9) rfl d_Ref_act_150 ?_
  refine lv_iload_n hx hb d_Ref_act_153 rfl (lv_at hl 3 rfl) ?_
  refine va_iald (D := (dC, dI)) hx hb hK hP 8 7 rfl rfl (i := nI a) (pk_in a 28 (by omega)) d_Ref_act_154 ?_
  refine tp_i (y := (fun i0 => mN (fm i0)) a) (by rw [show (nI a : Int32).toNatClampNeg = a from pk_cl a]) ?_
  refine tp_i (y := nI f9) (show mN (fm a) = nI f9 from by rw [hfa, mN_1]) ?_
  refine va_iald (D := (dC, dI)) hx hb hK hP 10 9 rfl rfl (i := nI f9) (pk_in f9 28 (by omega)) d_Ref_act_155 ?_
  refine tp_i (y := gv f9) (by rw [show (nI f9 : Int32).toNatClampNeg = f9 from pk_cl f9]) ?_
  refine lv_istore (lv' := [(5, .int (gv f9)), (4, .int (nI (2 * t + (rr a)))), (3, .int 3), (2, .int (nI a)), (0, .ref ra), (1, .int (nI t))]) hx hb d_Ref_act_156 hl (by decide) rfl ?_
  clear hl ls
  intro ls hl
  refine lv_aload_n hx hb d_Ref_act_158 rfl (lv_at hl 4 rfl) ?_
  refine va_get (D := (dC, dI)) (ci := 8) (v := .ref (rA 30)) (C := R_Ref) (T := F_Ref) (N := 48) hx hb hw i_Ref hown hK hP 0 rfl rfl 30 (by decide) (hw _ m_929) (fun _ h9 => h9) rfl d_Ref_act_159 ?_
  refine lv_iload_n hx hb d_Ref_act_162 rfl (lv_at hl 3 rfl) ?_
  refine lv_iconst (v := 1) hx hb d_Ref_act_163 (by decide) ?_
  refine tp_i (y := nI 1) rfl ?_
  refine va_zast (D := (dC, dI)) hx hb hK hP (dd_D hD rfl) hS 11 10 rfl rfl (i := nI a) (x := nI 1) (pk_in a 28 (by omega)) d_Ref_act_164 ?_
  clear hP hS locs H
  intro H locs hP _ hS
  rw [show (nI a : Int32).toNatClampNeg = a from pk_cl a] at hP
  rw [show vp_nar .boolean (nI 1) = (nI 1) from by decide] at hP
  rw [show upd (fun i => nI (hp i)) a (nI 1) = fun i => nI (updN hp a 1 i) from upd_nI] at hP
  replace hP : va_P (dC, dI) classes [oc ra 8 [.int (nI T), .int (nI Ac), .ref (rA 2), .ref (rA 3), .ref (rA 4), .ref (rA 5), .ref (rA 6), .ref (rA 7), .ref (rA 8), .ref (rA 9), .ref (rA 10), .ref (rA 11), .ref (rA 12), .ref (rA 13), .int ir, .ref (rA 15), .ref (rA 16), .ref (rA 17), .ref (rA 18), .int (nI md), .int (nI wd), .ref (rA 21), .ref (rA 22), .ref (rA 23), .int (nI mn), .ref (rA 25), .int (nI cb), .int mr, .ref (rA 28), .ref (rA 29), .ref (rA 30), .ref (rA 31), .ref (rA 32), .ref (rA 33), .ref (rA 34), .ref (rA 35), .int (nI ld), .int (nI gm), .ref (rA 38), .ref (rA 39), .ref (rA 40), .ref (rA 41), .ref (rA 42), .ref (rA 43), .ref (rA 44), .ref (rA 45), .int (nI my), .ref (rA 47)], ia (rA 33) (rK9 33) 4 (fun i => nI (pcn i)), ia (rA 2) (rK9 2) 4 (fun i => nI (zs i)), ia (rA 3) (rK9 3) 28 (fun i => nI (kd i)), ia (rA 4) (rK9 4) 28 (fun i => nI (vx i)), ia (rA 5) (rK9 5) 28 (fun i => nI (rr i)), ia (rA 6) (rK9 6) 28 vv, ia (rA 34) (rK9 34) 8 hd9, ia (rA 29) (rK9 29) 28 (fun i0 => mN (fm i0)), ia (rA 31) (rK9 31) 28 (fun i => nI (dn i)), ia (rA 32) (rK9 32) 28 gv, ia (rA 30) (rK9 30) 28 (fun i => nI ((updN hp a 1) i))] H := hP
  refine tp_pc (pc' := 165) (by rfl) ?_
  refine lv_aload_n hx hb d_Ref_act_165 rfl (lv_at hl 4 rfl) ?_
  refine va_get (D := (dC, dI)) (ci := 8) (v := .ref (rA 31)) (C := R_Ref) (T := F_Ref) (N := 48) hx hb hw i_Ref hown hK hP 0 rfl rfl 31 (by decide) (hw _ m_930) (fun _ h9 => h9) rfl d_Ref_act_166 ?_
  refine lv_iload_n hx hb d_Ref_act_169 rfl (lv_at hl 3 rfl) ?_
  refine lv_iconst (v := 1) hx hb d_Ref_act_170 (by decide) ?_
  refine tp_i (y := nI 1) rfl ?_
  refine va_zast (D := (dC, dI)) hx hb hK hP (dd_D hD rfl) hS 9 8 rfl rfl (i := nI a) (x := nI 1) (pk_in a 28 (by omega)) d_Ref_act_171 ?_
  clear hP hS locs H
  intro H locs hP _ hS
  rw [show (nI a : Int32).toNatClampNeg = a from pk_cl a] at hP
  rw [show vp_nar .boolean (nI 1) = (nI 1) from by decide] at hP
  rw [show upd (fun i => nI (dn i)) a (nI 1) = fun i => nI (updN dn a 1 i) from upd_nI] at hP
  replace hP : va_P (dC, dI) classes [oc ra 8 [.int (nI T), .int (nI Ac), .ref (rA 2), .ref (rA 3), .ref (rA 4), .ref (rA 5), .ref (rA 6), .ref (rA 7), .ref (rA 8), .ref (rA 9), .ref (rA 10), .ref (rA 11), .ref (rA 12), .ref (rA 13), .int ir, .ref (rA 15), .ref (rA 16), .ref (rA 17), .ref (rA 18), .int (nI md), .int (nI wd), .ref (rA 21), .ref (rA 22), .ref (rA 23), .int (nI mn), .ref (rA 25), .int (nI cb), .int mr, .ref (rA 28), .ref (rA 29), .ref (rA 30), .ref (rA 31), .ref (rA 32), .ref (rA 33), .ref (rA 34), .ref (rA 35), .int (nI ld), .int (nI gm), .ref (rA 38), .ref (rA 39), .ref (rA 40), .ref (rA 41), .ref (rA 42), .ref (rA 43), .ref (rA 44), .ref (rA 45), .int (nI my), .ref (rA 47)], ia (rA 33) (rK9 33) 4 (fun i => nI (pcn i)), ia (rA 2) (rK9 2) 4 (fun i => nI (zs i)), ia (rA 3) (rK9 3) 28 (fun i => nI (kd i)), ia (rA 4) (rK9 4) 28 (fun i => nI (vx i)), ia (rA 5) (rK9 5) 28 (fun i => nI (rr i)), ia (rA 6) (rK9 6) 28 vv, ia (rA 34) (rK9 34) 8 hd9, ia (rA 29) (rK9 29) 28 (fun i0 => mN (fm i0)), ia (rA 31) (rK9 31) 28 (fun i => nI ((updN dn a 1) i)), ia (rA 32) (rK9 32) 28 gv, ia (rA 30) (rK9 30) 28 (fun i => nI ((updN hp a 1) i))] H := hP
  refine tp_pc (pc' := 172) (by rfl) ?_
  refine lv_aload_n hx hb d_Ref_act_172 rfl (lv_at hl 4 rfl) ?_
  refine va_get (D := (dC, dI)) (ci := 8) (v := .ref (rA 33)) (C := R_Ref) (T := F_Ref) (N := 48) hx hb hw i_Ref hown hK hP 0 rfl rfl 33 (by decide) (hw _ m_932) (fun _ h9 => h9) rfl d_Ref_act_173 ?_
  refine lv_iload_n hx hb d_Ref_act_176 rfl (lv_at hl 5 rfl) ?_
  refine lv_dup2_11 hx hb d_Ref_act_177 rfl rfl ?_
  refine va_iald (D := (dC, dI)) hx hb hK hP 1 0 rfl rfl (i := nI t) (pk_in t 4 (by omega)) d_Ref_act_178 ?_
  refine tp_i (y := nI (pcn t)) (by rw [show (nI t : Int32).toNatClampNeg = t from pk_cl t]) ?_
  refine lv_iconst (v := 1) hx hb d_Ref_act_179 (by decide) ?_
  refine lv_iadd hx hb d_Ref_act_180 ?_
  refine tp_i (y := nI (pcn t + 1)) (by exact nI_add (pcn t) 1) ?_
  refine va_iast (D := (dC, dI)) hx hb hK hP (dd_D hD rfl) hS 1 0 rfl rfl (i := nI t) (x := nI (pcn t + 1)) (pk_in t 4 (by omega)) d_Ref_act_181 ?_
  clear hP hS locs H
  intro H locs hP _ hS
  rw [show (nI t : Int32).toNatClampNeg = t from pk_cl t] at hP
  rw [show upd (fun i => nI (pcn i)) t (nI (pcn t + 1)) = fun i => nI (updN pcn t (pcn t + 1) i) from upd_nI] at hP
  replace hP : va_P (dC, dI) classes [oc ra 8 [.int (nI T), .int (nI Ac), .ref (rA 2), .ref (rA 3), .ref (rA 4), .ref (rA 5), .ref (rA 6), .ref (rA 7), .ref (rA 8), .ref (rA 9), .ref (rA 10), .ref (rA 11), .ref (rA 12), .ref (rA 13), .int ir, .ref (rA 15), .ref (rA 16), .ref (rA 17), .ref (rA 18), .int (nI md), .int (nI wd), .ref (rA 21), .ref (rA 22), .ref (rA 23), .int (nI mn), .ref (rA 25), .int (nI cb), .int mr, .ref (rA 28), .ref (rA 29), .ref (rA 30), .ref (rA 31), .ref (rA 32), .ref (rA 33), .ref (rA 34), .ref (rA 35), .int (nI ld), .int (nI gm), .ref (rA 38), .ref (rA 39), .ref (rA 40), .ref (rA 41), .ref (rA 42), .ref (rA 43), .ref (rA 44), .ref (rA 45), .int (nI my), .ref (rA 47)], ia (rA 33) (rK9 33) 4 (fun i => nI ((updN pcn t (pcn t + 1)) i)), ia (rA 2) (rK9 2) 4 (fun i => nI (zs i)), ia (rA 3) (rK9 3) 28 (fun i => nI (kd i)), ia (rA 4) (rK9 4) 28 (fun i => nI (vx i)), ia (rA 5) (rK9 5) 28 (fun i => nI (rr i)), ia (rA 6) (rK9 6) 28 vv, ia (rA 34) (rK9 34) 8 hd9, ia (rA 29) (rK9 29) 28 (fun i0 => mN (fm i0)), ia (rA 31) (rK9 31) 28 (fun i => nI ((updN dn a 1) i)), ia (rA 32) (rK9 32) 28 gv, ia (rA 30) (rK9 30) 28 (fun i => nI ((updN hp a 1) i))] H := hP
  refine tp_pc (pc' := 182) (by rfl) ?_
  refine lv_iload_n hx hb d_Ref_act_182 rfl (lv_at hl 2 rfl) ?_
  refine lv_iconst (v := 2) hx hb d_Ref_act_183 (by decide) ?_
  refine lv_icmp_ne (tgt := 210) hx hb d_Ref_act_184 (by decide) (fun c_4 => ?_) (fun c_4 => absurd c_4 (by decide))
  refine tp_pc (pc' := 210) (by rfl) ?_
  refine lv_iload_n hx hb d_Ref_act_210 rfl (lv_at hl 2 rfl) ?_
  refine lv_iconst (v := 1) hx hb d_Ref_act_211 (by decide) ?_
  refine lv_icmp_ne (tgt := 230) hx hb d_Ref_act_212 (by decide) (fun c_5 => ?_) (fun c_5 => absurd c_5 (by decide))
  refine tp_pc (pc' := 230) (by rfl) ?_
  refine lv_iload_n hx hb d_Ref_act_230 rfl (lv_at hl 2 rfl) ?_
  refine tp_i (y := nI 3) rfl ?_
  obtain ⟨hPc, hDc, hFc⟩ := cut3 (wc := []) hP hD rfl hS hA [] (by decide +kernel) rfl
  have hKc := hK.sub (tys' := []) [] rfl
  refine va_calli (va_runS (As := [.int (nI 3)]) (rest := []) ⟨hx, hb, hml, hown, hw⟩ (gen_Ref_takes l dC dI 3 (by decide) H.size) (cw_S 1 hw g_Ref_takes rfl rfl rfl (hw _ m_109) (hw _ m_1190) (hw _ m_1191) (by decide +kernel) ⟨Nat.le_of_ble_eq_true rfl, Nat.le_of_ble_eq_true rfl⟩) ⟨fun a U g mk q => by obtain ⟨q0, q1, qP, qK, qD, qN⟩ := q; exact ⟨q0, q1, qP, va_K.moved (u := U) (U := U.calling g mk a) (Vm.Alike.refl U.vm) qK, qD, nw_call qN⟩, fun U hU hW => ⟨rfl, by rw [hU], by rw [hU]; exact hPc, va_K.moved hW.alike hKc, hDc.weaken (fun _ _ _ _ => trivial), nw_warm hW hn⟩⟩ rfl rfl hl.1 rfl (lv_room (Nat.le_of_ble_eq_true rfl)) d_Ref_act_231 ⟨Nat.le_of_ble_eq_true rfl, Nat.le_of_ble_eq_true rfl⟩) hS (fun q _ h => hFc q h) hFc ?_
  intro r_6 u t9 H1 locs1 ht9 hvm hw1 hB hz1 hk1 hS1
  obtain ⟨hP1, hK1, hD1⟩ := hB
  rw [ht9] at hP1
  replace hK1 := va_K.moved hvm.symm hK1
  have hPD := join3 hP hD rfl [] [0, 1, 2, 3, 4, 5, 6, 7, 8, 9, 10, 11] rfl (by rfl) (by decide +kernel) (by decide +kernel) hk1 hFc hP1 hD1
  replace hK : va_K (dC, dI) classes [((rK9 33), .int), ((rK9 2), .int), ((rK9 3), .int), ((rK9 4), .int), ((rK9 5), .int), ((rK9 6), .int), ((rK9 34), .int), ((rK9 29), .int), ((rK9 31), .boolean), ((rK9 32), .int), ((rK9 30), .boolean)] s := hK.app hK1
  clear hP1 hK1 hD1 hk1 hz1 hFc hKc hDc hPc hvm ht9 hP hS t9 locs H
  have hP : va_P (dC, dI) classes [oc ra 8 [.int (nI T), .int (nI Ac), .ref (rA 2), .ref (rA 3), .ref (rA 4), .ref (rA 5), .ref (rA 6), .ref (rA 7), .ref (rA 8), .ref (rA 9), .ref (rA 10), .ref (rA 11), .ref (rA 12), .ref (rA 13), .int ir, .ref (rA 15), .ref (rA 16), .ref (rA 17), .ref (rA 18), .int (nI md), .int (nI wd), .ref (rA 21), .ref (rA 22), .ref (rA 23), .int (nI mn), .ref (rA 25), .int (nI cb), .int mr, .ref (rA 28), .ref (rA 29), .ref (rA 30), .ref (rA 31), .ref (rA 32), .ref (rA 33), .ref (rA 34), .ref (rA 35), .int (nI ld), .int (nI gm), .ref (rA 38), .ref (rA 39), .ref (rA 40), .ref (rA 41), .ref (rA 42), .ref (rA 43), .ref (rA 44), .ref (rA 45), .int (nI my), .ref (rA 47)], ia (rA 33) (rK9 33) 4 (fun i => nI ((updN pcn t (pcn t + 1)) i)), ia (rA 2) (rK9 2) 4 (fun i => nI (zs i)), ia (rA 3) (rK9 3) 28 (fun i => nI (kd i)), ia (rA 4) (rK9 4) 28 (fun i => nI (vx i)), ia (rA 5) (rK9 5) 28 (fun i => nI (rr i)), ia (rA 6) (rK9 6) 28 vv, ia (rA 34) (rK9 34) 8 hd9, ia (rA 29) (rK9 29) 28 (fun i0 => mN (fm i0)), ia (rA 31) (rK9 31) 28 (fun i => nI ((updN dn a 1) i)), ia (rA 32) (rK9 32) 28 gv, ia (rA 30) (rK9 30) 28 (fun i => nI ((updN hp a 1) i))] H1 := hPD.1
  replace hD : dd A [ra, (rA 33), (rA 2), (rA 3), (rA 4), (rA 5), (rA 6), (rA 34), (rA 29), (rA 31), (rA 32), (rA 30)] := dd_of hPD.2 rfl
  clear hPD
  revert H1 locs1
  intro H locs hS hP
  refine tp_i (y := 1) (hw1.trans (if_pos (by decide))) ?_
  clear hw1 r_6 u
  refine tp_pc (pc' := 234) (by rfl) ?_
  refine lv_if_eq (tgt := 261) hx hb d_Ref_act_234 (by decide) (fun c_7 => absurd c_7 (by decide)) (fun c_7 => ?_)
  refine tp_pc (pc' := 237) (by rfl) ?_
  refine lv_aload_n hx hb d_Ref_act_237 rfl (lv_at hl 4 rfl) ?_
  refine va_get (D := (dC, dI)) (ci := 8) (v := .ref (rA 34)) (C := R_Ref) (T := F_Ref) (N := 48) hx hb hw i_Ref hown hK hP 0 rfl rfl 34 (by decide) (hw _ m_933) (fun _ h9 => h9) rfl d_Ref_act_238 ?_
  refine lv_iload hx hb d_Ref_act_241 (lv_at hl 1 rfl) ?_
  refine lv_iload hx hb d_Ref_act_243 (lv_at hl 0 rfl) ?_
  refine va_iast (D := (dC, dI)) hx hb hK hP (dd_D hD rfl) hS 7 6 rfl rfl (i := nI (2 * t + (rr a))) (x := gv f9) (pk_in (2 * t + (rr a)) 8 (by omega)) d_Ref_act_245 ?_
  clear hP hS locs H
  intro H locs hP _ hS
  rw [show (nI (2 * t + (rr a)) : Int32).toNatClampNeg = 2 * t + (rr a) from pk_cl (2 * t + (rr a))] at hP
  replace hP : va_P (dC, dI) classes [oc ra 8 [.int (nI T), .int (nI Ac), .ref (rA 2), .ref (rA 3), .ref (rA 4), .ref (rA 5), .ref (rA 6), .ref (rA 7), .ref (rA 8), .ref (rA 9), .ref (rA 10), .ref (rA 11), .ref (rA 12), .ref (rA 13), .int ir, .ref (rA 15), .ref (rA 16), .ref (rA 17), .ref (rA 18), .int (nI md), .int (nI wd), .ref (rA 21), .ref (rA 22), .ref (rA 23), .int (nI mn), .ref (rA 25), .int (nI cb), .int mr, .ref (rA 28), .ref (rA 29), .ref (rA 30), .ref (rA 31), .ref (rA 32), .ref (rA 33), .ref (rA 34), .ref (rA 35), .int (nI ld), .int (nI gm), .ref (rA 38), .ref (rA 39), .ref (rA 40), .ref (rA 41), .ref (rA 42), .ref (rA 43), .ref (rA 44), .ref (rA 45), .int (nI my), .ref (rA 47)], ia (rA 33) (rK9 33) 4 (fun i => nI ((updN pcn t (pcn t + 1)) i)), ia (rA 2) (rK9 2) 4 (fun i => nI (zs i)), ia (rA 3) (rK9 3) 28 (fun i => nI (kd i)), ia (rA 4) (rK9 4) 28 (fun i => nI (vx i)), ia (rA 5) (rK9 5) 28 (fun i => nI (rr i)), ia (rA 6) (rK9 6) 28 vv, ia (rA 34) (rK9 34) 8 (upd hd9 (2 * t + (rr a)) (gv f9)), ia (rA 29) (rK9 29) 28 (fun i0 => mN (fm i0)), ia (rA 31) (rK9 31) 28 (fun i => nI ((updN dn a 1) i)), ia (rA 32) (rK9 32) 28 gv, ia (rA 30) (rK9 30) 28 (fun i => nI ((updN hp a 1) i))] H := hP
  refine tp_pc (pc' := 246) (by rfl) ?_
  refine lv_aload_n hx hb d_Ref_act_246 rfl (lv_at hl 4 rfl) ?_
  refine va_get (D := (dC, dI)) (ci := 8) (v := .ref (rA 32)) (C := R_Ref) (T := F_Ref) (N := 48) hx hb hw i_Ref hown hK hP 0 rfl rfl 32 (by decide) (hw _ m_931) (fun _ h9 => h9) rfl d_Ref_act_247 ?_
  refine lv_iload_n hx hb d_Ref_act_250 rfl (lv_at hl 3 rfl) ?_
  refine lv_iload hx hb d_Ref_act_251 (lv_at hl 0 rfl) ?_
  refine lv_aload_n hx hb d_Ref_act_253 rfl (lv_at hl 4 rfl) ?_
  refine va_get (D := (dC, dI)) (ci := 8) (v := .ref (rA 6)) (C := R_Ref) (T := F_Ref) (N := 48) hx hb hw i_Ref hown hK hP 0 rfl rfl 6 (by decide) (hw _ m_905) (fun _ h9 => h9) rfl d_Ref_act_254 ?_
  refine lv_iload_n hx hb d_Ref_act_257 rfl (lv_at hl 3 rfl) ?_
  refine va_iald (D := (dC, dI)) hx hb hK hP 6 5 rfl rfl (i := nI a) (pk_in a 28 (by omega)) d_Ref_act_258 ?_
  refine tp_i (y := vv a) (by rw [show (nI a : Int32).toNatClampNeg = a from pk_cl a]) ?_
  refine lv_iadd hx hb d_Ref_act_259 ?_
  refine tp_i (y := (gv f9) + (vv a)) rfl ?_
  refine va_iast (D := (dC, dI)) hx hb hK hP (dd_D hD rfl) hS 10 9 rfl rfl (i := nI a) (x := (gv f9) + (vv a)) (pk_in a 28 (by omega)) d_Ref_act_260 ?_
  clear hP hS locs H
  intro H locs hP _ hS
  rw [show (nI a : Int32).toNatClampNeg = a from pk_cl a] at hP
  replace hP : va_P (dC, dI) classes [oc ra 8 [.int (nI T), .int (nI Ac), .ref (rA 2), .ref (rA 3), .ref (rA 4), .ref (rA 5), .ref (rA 6), .ref (rA 7), .ref (rA 8), .ref (rA 9), .ref (rA 10), .ref (rA 11), .ref (rA 12), .ref (rA 13), .int ir, .ref (rA 15), .ref (rA 16), .ref (rA 17), .ref (rA 18), .int (nI md), .int (nI wd), .ref (rA 21), .ref (rA 22), .ref (rA 23), .int (nI mn), .ref (rA 25), .int (nI cb), .int mr, .ref (rA 28), .ref (rA 29), .ref (rA 30), .ref (rA 31), .ref (rA 32), .ref (rA 33), .ref (rA 34), .ref (rA 35), .int (nI ld), .int (nI gm), .ref (rA 38), .ref (rA 39), .ref (rA 40), .ref (rA 41), .ref (rA 42), .ref (rA 43), .ref (rA 44), .ref (rA 45), .int (nI my), .ref (rA 47)], ia (rA 33) (rK9 33) 4 (fun i => nI ((updN pcn t (pcn t + 1)) i)), ia (rA 2) (rK9 2) 4 (fun i => nI (zs i)), ia (rA 3) (rK9 3) 28 (fun i => nI (kd i)), ia (rA 4) (rK9 4) 28 (fun i => nI (vx i)), ia (rA 5) (rK9 5) 28 (fun i => nI (rr i)), ia (rA 6) (rK9 6) 28 vv, ia (rA 34) (rK9 34) 8 (upd hd9 (2 * t + (rr a)) (gv f9)), ia (rA 29) (rK9 29) 28 (fun i0 => mN (fm i0)), ia (rA 31) (rK9 31) 28 (fun i => nI ((updN dn a 1) i)), ia (rA 32) (rK9 32) 28 (upd gv a ((gv f9) + (vv a))), ia (rA 30) (rK9 30) 28 (fun i => nI ((updN hp a 1) i))] H := hP
  refine tp_pc (pc' := 261) (by rfl) ?_
  refine lv_iconst (v := 1) hx hb d_Ref_act_261 (by decide) ?_
  replace hP : va_P (dC, dI) classes [oc ra 8 [.int (nI T), .int (nI Ac), .ref (rA 2), .ref (rA 3), .ref (rA 4), .ref (rA 5), .ref (rA 6), .ref (rA 7), .ref (rA 8), .ref (rA 9), .ref (rA 10), .ref (rA 11), .ref (rA 12), .ref (rA 13), .int ir, .ref (rA 15), .ref (rA 16), .ref (rA 17), .ref (rA 18), .int (nI md), .int (nI wd), .ref (rA 21), .ref (rA 22), .ref (rA 23), .int (nI mn), .ref (rA 25), .int (nI cb), .int mr, .ref (rA 28), .ref (rA 29), .ref (rA 30), .ref (rA 31), .ref (rA 32), .ref (rA 33), .ref (rA 34), .ref (rA 35), .int (nI ld), .int (nI gm), .ref (rA 38), .ref (rA 39), .ref (rA 40), .ref (rA 41), .ref (rA 42), .ref (rA 43), .ref (rA 44), .ref (rA 45), .int (nI my), .ref (rA 47)], ia (rA 33) (rK9 33) 4 (fun i => nI ((updN pcn t (pcn t + 1)) i)), ia (rA 2) (rK9 2) 4 (fun i => nI (zs i)), ia (rA 3) (rK9 3) 28 (fun i => nI (kd i)), ia (rA 4) (rK9 4) 28 (fun i => nI (vx i)), ia (rA 5) (rK9 5) 28 (fun i => nI (rr i)), ia (rA 6) (rK9 6) 28 vv, ia (rA 34) (rK9 34) 8 (upd hd9 (2 * t + rr a) (gv f9)), ia (rA 29) (rK9 29) 28 (fun i0 => mN (fm i0)), ia (rA 31) (rK9 31) 28 (fun i => nI ((updN dn a 1) i)), ia (rA 32) (rK9 32) 28 (upd gv a (gv f9 + vv a)), ia (rA 30) (rK9 30) 28 (fun i => nI ((updN hp a 1) i))] H := hP
  obtain ⟨hP9, hD9, -⟩ := cut3 (wc := [oc ra 8 [.int (nI T), .int (nI Ac), .ref (rA 2), .ref (rA 3), .ref (rA 4), .ref (rA 5), .ref (rA 6), .ref (rA 7), .ref (rA 8), .ref (rA 9), .ref (rA 10), .ref (rA 11), .ref (rA 12), .ref (rA 13), .int ir, .ref (rA 15), .ref (rA 16), .ref (rA 17), .ref (rA 18), .int (nI md), .int (nI wd), .ref (rA 21), .ref (rA 22), .ref (rA 23), .int (nI mn), .ref (rA 25), .int (nI cb), .int mr, .ref (rA 28), .ref (rA 29), .ref (rA 30), .ref (rA 31), .ref (rA 32), .ref (rA 33), .ref (rA 34), .ref (rA 35), .int (nI ld), .int (nI gm), .ref (rA 38), .ref (rA 39), .ref (rA 40), .ref (rA 41), .ref (rA 42), .ref (rA 43), .ref (rA 44), .ref (rA 45), .int (nI my), .ref (rA 47)], ia (rA 33) (rK9 33) 4 (fun i => nI ((updN pcn t (pcn t + 1)) i)), ia (rA 2) (rK9 2) 4 (fun i => nI (zs i)), ia (rA 3) (rK9 3) 28 (fun i => nI (kd i)), ia (rA 4) (rK9 4) 28 (fun i => nI (vx i)), ia (rA 5) (rK9 5) 28 (fun i => nI (rr i)), ia (rA 6) (rK9 6) 28 vv, ia (rA 34) (rK9 34) 8 (upd hd9 (2 * t + rr a) (gv f9)), ia (rA 29) (rK9 29) 28 (fun i0 => mN (fm i0)), ia (rA 31) (rK9 31) 28 (fun i => nI ((updN dn a 1) i)), ia (rA 32) (rK9 32) 28 (upd gv a (gv f9 + vv a)), ia (rA 30) (rK9 30) 28 (fun i => nI ((updN hp a 1) i))]) hP hD rfl hS hA [0, 1, 2, 3, 4, 5, 6, 7, 8, 9, 10, 11] (by decide +kernel) rfl
  have hK9 := hK.sub (tys' := []) [] rfl
  refine W.widen (k := 0) (n := 0) (by exact Nat.le_of_ble_eq_true rfl) (by exact Nat.le_of_ble_eq_true rfl) ?_
  exact W.zret (v := 1) (ty := .boolean) hx hb hr (by decide) (fun t9 ht9 hW => ⟨⟨1, (), rfl, rfl, by rw [ht9]; exact hP9, va_K.moved hW.alike hK9, hD9⟩, hS.F ht9⟩) hS.2.2 d_Ref_act_262
