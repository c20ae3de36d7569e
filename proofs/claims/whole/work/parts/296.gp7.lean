set_option maxHeartbeats 4000000 in
set_option maxRecDepth 100000 in
theorem gen_Ref_goes (l : Launch) (dC : Nat → ClassId) (dI : Nat → Nat → Nat) (ra : Nat) (rA : Nat → Nat) (rK9 : Nat → ClassId) (T Ac md wd mn cb ld gm my : Nat) (ir mr : Int32) (zs kd vx rr fm li : Nat → Nat) (vv : Nat → Int32) (gy gz : A9) (K N0 : Nat) (hK8 : 8 ≤ K) (hN0 : 30 ≤ N0) (hT : T ≤ 4) (hld : ld ≤ 7) (hzs : ∀ t, t < T → zs t ≤ 7) (hkd : ∀ i, i < 28 → kd i < 6 ∧ vx i < 4 ∧ rr i < 2) (hfm : ∀ i, i < 28 → fm i ≤ 28) (hli : ∀ q, q < 7 → li q < 28) (hgo : gwA K T zs kd vx rr fm vv N0 (a0S gy.2.2.1) = gz) (sz : Nat) : Met l y_Ref_goes w_Ref_goes ({ frames := 2, cells := 0, slots := 0, locals := 80 }) (va_Pc [.ref ra] (fun U => U.heap.size = sz ∧ va_P (dC, dI) classes [oc ra 8 [.int (nI T), .int (nI Ac), .ref (rA 2), .ref (rA 3), .ref (rA 4), .ref (rA 5), .ref (rA 6), .ref (rA 7), .ref (rA 8), .ref (rA 9), .ref (rA 10), .ref (rA 11), .ref (rA 12), .ref (rA 13), .int ir, .ref (rA 15), .ref (rA 16), .ref (rA 17), .ref (rA 18), .int (nI md), .int (nI wd), .ref (rA 21), .ref (rA 22), .ref (rA 23), .int (nI mn), .ref (rA 25), .int (nI cb), .int mr, .ref (rA 28), .ref (rA 29), .ref (rA 30), .ref (rA 31), .ref (rA 32), .ref (rA 33), .ref (rA 34), .ref (rA 35), .int (nI ld), .int (nI gm), .ref (rA 38), .ref (rA 39), .ref (rA 40), .ref (rA 41), .ref (rA 42), .ref (rA 43), .ref (rA 44), .ref (rA 45), .int (nI my), .ref (rA 47)], ia (rA 33) (rK9 33) 4 (fun i => nI (gy.1 i)), ia (rA 2) (rK9 2) 4 (fun i => nI (zs i)), ia (rA 3) (rK9 3) 28 (fun i => nI (kd i)), ia (rA 4) (rK9 4) 28 (fun i => nI (vx i)), ia (rA 5) (rK9 5) 28 (fun i => nI (rr i)), ia (rA 6) (rK9 6) 28 vv, ia (rA 34) (rK9 34) 8 gy.2.1, ia (rA 29) (rK9 29) 28 (fun i0 => mN (fm i0)), ia (rA 31) (rK9 31) 28 (fun i => nI (gy.2.2.2.2 i)), ia (rA 32) (rK9 32) 28 gy.2.2.1, ia (rA 30) (rK9 30) 28 (fun i => nI (gy.2.2.2.1 i)), ia (rA 35) (rK9 35) 7 (fun i => nI (li i))] U.heap ∧ va_K (dC, dI) classes [((rK9 33), .int), ((rK9 2), .int), ((rK9 3), .int), ((rK9 4), .int), ((rK9 5), .int), ((rK9 6), .int), ((rK9 34), .int), ((rK9 29), .int), ((rK9 31), .boolean), ((rK9 32), .int), ((rK9 30), .boolean), ((rK9 35), .int)] U ∧ va_D (fun _ => True) [oc ra 8 [.int (nI T), .int (nI Ac), .ref (rA 2), .ref (rA 3), .ref (rA 4), .ref (rA 5), .ref (rA 6), .ref (rA 7), .ref (rA 8), .ref (rA 9), .ref (rA 10), .ref (rA 11), .ref (rA 12), .ref (rA 13), .int ir, .ref (rA 15), .ref (rA 16), .ref (rA 17), .ref (rA 18), .int (nI md), .int (nI wd), .ref (rA 21), .ref (rA 22), .ref (rA 23), .int (nI mn), .ref (rA 25), .int (nI cb), .int mr, .ref (rA 28), .ref (rA 29), .ref (rA 30), .ref (rA 31), .ref (rA 32), .ref (rA 33), .ref (rA 34), .ref (rA 35), .int (nI ld), .int (nI gm), .ref (rA 38), .ref (rA 39), .ref (rA 40), .ref (rA 41), .ref (rA 42), .ref (rA 43), .ref (rA 44), .ref (rA 45), .int (nI my), .ref (rA 47)], ia (rA 33) (rK9 33) 4 (fun i => nI (gy.1 i)), ia (rA 2) (rK9 2) 4 (fun i => nI (zs i)), ia (rA 3) (rK9 3) 28 (fun i => nI (kd i)), ia (rA 4) (rK9 4) 28 (fun i => nI (vx i)), ia (rA 5) (rK9 5) 28 (fun i => nI (rr i)), ia (rA 6) (rK9 6) 28 vv, ia (rA 34) (rK9 34) 8 gy.2.1, ia (rA 29) (rK9 29) 28 (fun i0 => mN (fm i0)), ia (rA 31) (rK9 31) 28 (fun i => nI (gy.2.2.2.2 i)), ia (rA 32) (rK9 32) 28 gy.2.2.1, ia (rA 30) (rK9 30) 28 (fun i => nI (gy.2.2.2.1 i)), ia (rA 35) (rK9 35) 7 (fun i => nI (li i))] ∧ nw U)) (va_Qi (fun (r : Int32) (_ : Unit) => r = if goP T ld zs kd vx li fm gz then 1 else 0) (fun _ t9 => va_P (dC, dI) classes [oc ra 8 [.int (nI T), .int (nI Ac), .ref (rA 2), .ref (rA 3), .ref (rA 4), .ref (rA 5), .ref (rA 6), .ref (rA 7), .ref (rA 8), .ref (rA 9), .ref (rA 10), .ref (rA 11), .ref (rA 12), .ref (rA 13), .int ir, .ref (rA 15), .ref (rA 16), .ref (rA 17), .ref (rA 18), .int (nI md), .int (nI wd), .ref (rA 21), .ref (rA 22), .ref (rA 23), .int (nI mn), .ref (rA 25), .int (nI cb), .int mr, .ref (rA 28), .ref (rA 29), .ref (rA 30), .ref (rA 31), .ref (rA 32), .ref (rA 33), .ref (rA 34), .ref (rA 35), .int (nI ld), .int (nI gm), .ref (rA 38), .ref (rA 39), .ref (rA 40), .ref (rA 41), .ref (rA 42), .ref (rA 43), .ref (rA 44), .ref (rA 45), .int (nI my), .ref (rA 47)], ia (rA 33) (rK9 33) 4 (fun i => nI (gz.1 i)), ia (rA 2) (rK9 2) 4 (fun i => nI (zs i)), ia (rA 3) (rK9 3) 28 (fun i => nI (kd i)), ia (rA 4) (rK9 4) 28 (fun i => nI (vx i)), ia (rA 5) (rK9 5) 28 (fun i => nI (rr i)), ia (rA 6) (rK9 6) 28 vv, ia (rA 34) (rK9 34) 8 gz.2.1, ia (rA 29) (rK9 29) 28 (fun i0 => mN (fm i0)), ia (rA 31) (rK9 31) 28 (fun i => nI (gz.2.2.2.2 i)), ia (rA 32) (rK9 32) 28 gz.2.2.1, ia (rA 30) (rK9 30) 28 (fun i => nI (gz.2.2.2.1 i)), ia (rA 35) (rK9 35) 7 (fun i => nI (li i))] t9.heap ∧ va_K (dC, dI) classes [] t9 ∧ va_D (va_A [oc ra 8 [.int (nI T), .int (nI Ac), .ref (rA 2), .ref (rA 3), .ref (rA 4), .ref (rA 5), .ref (rA 6), .ref (rA 7), .ref (rA 8), .ref (rA 9), .ref (rA 10), .ref (rA 11), .ref (rA 12), .ref (rA 13), .int ir, .ref (rA 15), .ref (rA 16), .ref (rA 17), .ref (rA 18), .int (nI md), .int (nI wd), .ref (rA 21), .ref (rA 22), .ref (rA 23), .int (nI mn), .ref (rA 25), .int (nI cb), .int mr, .ref (rA 28), .ref (rA 29), .ref (rA 30), .ref (rA 31), .ref (rA 32), .ref (rA 33), .ref (rA 34), .ref (rA 35), .int (nI ld), .int (nI gm), .ref (rA 38), .ref (rA 39), .ref (rA 40), .ref (rA 41), .ref (rA 42), .ref (rA 43), .ref (rA 44), .ref (rA 45), .int (nI my), .ref (rA 47)], ia (rA 33) (rK9 33) 4 (fun i => nI (gy.1 i)), ia (rA 2) (rK9 2) 4 (fun i => nI (zs i)), ia (rA 3) (rK9 3) 28 (fun i => nI (kd i)), ia (rA 4) (rK9 4) 28 (fun i => nI (vx i)), ia (rA 5) (rK9 5) 28 (fun i => nI (rr i)), ia (rA 6) (rK9 6) 28 vv, ia (rA 34) (rK9 34) 8 gy.2.1, ia (rA 29) (rK9 29) 28 (fun i0 => mN (fm i0)), ia (rA 31) (rK9 31) 28 (fun i => nI (gy.2.2.2.2 i)), ia (rA 32) (rK9 32) 28 gy.2.2.1, ia (rA 30) (rK9 30) 28 (fun i => nI (gy.2.2.2.1 i)), ia (rA 35) (rK9 35) 7 (fun i => nI (li i))] sz) [oc ra 8 [.int (nI T), .int (nI Ac), .ref (rA 2), .ref (rA 3), .ref (rA 4), .ref (rA 5), .ref (rA 6), .ref (rA 7), .ref (rA 8), .ref (rA 9), .ref (rA 10), .ref (rA 11), .ref (rA 12), .ref (rA 13), .int ir, .ref (rA 15), .ref (rA 16), .ref (rA 17), .ref (rA 18), .int (nI md), .int (nI wd), .ref (rA 21), .ref (rA 22), .ref (rA 23), .int (nI mn), .ref (rA 25), .int (nI cb), .int mr, .ref (rA 28), .ref (rA 29), .ref (rA 30), .ref (rA 31), .ref (rA 32), .ref (rA 33), .ref (rA 34), .ref (rA 35), .int (nI ld), .int (nI gm), .ref (rA 38), .ref (rA 39), .ref (rA 40), .ref (rA 41), .ref (rA 42), .ref (rA 43), .ref (rA 44), .ref (rA 45), .int (nI my), .ref (rA 47)], ia (rA 33) (rK9 33) 4 (fun i => nI (gz.1 i)), ia (rA 2) (rK9 2) 4 (fun i => nI (zs i)), ia (rA 3) (rK9 3) 28 (fun i => nI (kd i)), ia (rA 4) (rK9 4) 28 (fun i => nI (vx i)), ia (rA 5) (rK9 5) 28 (fun i => nI (rr i)), ia (rA 6) (rK9 6) 28 vv, ia (rA 34) (rK9 34) 8 gz.2.1, ia (rA 29) (rK9 29) 28 (fun i0 => mN (fm i0)), ia (rA 31) (rK9 31) 28 (fun i => nI (gz.2.2.2.2 i)), ia (rA 32) (rK9 32) 28 gz.2.2.1, ia (rA 30) (rK9 30) 28 (fun i => nI (gz.2.2.2.1 i)), ia (rA 35) (rK9 35) 7 (fun i => nI (li i))]) (va_A [oc ra 8 [.int (nI T), .int (nI Ac), .ref (rA 2), .ref (rA 3), .ref (rA 4), .ref (rA 5), .ref (rA 6), .ref (rA 7), .ref (rA 8), .ref (rA 9), .ref (rA 10), .ref (rA 11), .ref (rA 12), .ref (rA 13), .int ir, .ref (rA 15), .ref (rA 16), .ref (rA 17), .ref (rA 18), .int (nI md), .int (nI wd), .ref (rA 21), .ref (rA 22), .ref (rA 23), .int (nI mn), .ref (rA 25), .int (nI cb), .int mr, .ref (rA 28), .ref (rA 29), .ref (rA 30), .ref (rA 31), .ref (rA 32), .ref (rA 33), .ref (rA 34), .ref (rA 35), .int (nI ld), .int (nI gm), .ref (rA 38), .ref (rA 39), .ref (rA 40), .ref (rA 41), .ref (rA 42), .ref (rA 43), .ref (rA 44), .ref (rA 45), .int (nI my), .ref (rA 47)], ia (rA 33) (rK9 33) 4 (fun i => nI (gy.1 i)), ia (rA 2) (rK9 2) 4 (fun i => nI (zs i)), ia (rA 3) (rK9 3) 28 (fun i => nI (kd i)), ia (rA 4) (rK9 4) 28 (fun i => nI (vx i)), ia (rA 5) (rK9 5) 28 (fun i => nI (rr i)), ia (rA 6) (rK9 6) 28 vv, ia (rA 34) (rK9 34) 8 gy.2.1, ia (rA 29) (rK9 29) 28 (fun i0 => mN (fm i0)), ia (rA 31) (rK9 31) 28 (fun i => nI (gy.2.2.2.2 i)), ia (rA 32) (rK9 32) 28 gy.2.2.1, ia (rA 30) (rK9 30) 28 (fun i => nI (gy.2.2.2.1 i)), ia (rA 35) (rK9 35) 7 (fun i => nI (li i))] sz)) 0 0 (va_A [oc ra 8 [.int (nI T), .int (nI Ac), .ref (rA 2), .ref (rA 3), .ref (rA 4), .ref (rA 5), .ref (rA 6), .ref (rA 7), .ref (rA 8), .ref (rA 9), .ref (rA 10), .ref (rA 11), .ref (rA 12), .ref (rA 13), .int ir, .ref (rA 15), .ref (rA 16), .ref (rA 17), .ref (rA 18), .int (nI md), .int (nI wd), .ref (rA 21), .ref (rA 22), .ref (rA 23), .int (nI mn), .ref (rA 25), .int (nI cb), .int mr, .ref (rA 28), .ref (rA 29), .ref (rA 30), .ref (rA 31), .ref (rA 32), .ref (rA 33), .ref (rA 34), .ref (rA 35), .int (nI ld), .int (nI gm), .ref (rA 38), .ref (rA 39), .ref (rA 40), .ref (rA 41), .ref (rA 42), .ref (rA 43), .ref (rA 44), .ref (rA 45), .int (nI my), .ref (rA 47)], ia (rA 33) (rK9 33) 4 (fun i => nI (gy.1 i)), ia (rA 2) (rK9 2) 4 (fun i => nI (zs i)), ia (rA 3) (rK9 3) 28 (fun i => nI (kd i)), ia (rA 4) (rK9 4) 28 (fun i => nI (vx i)), ia (rA 5) (rK9 5) 28 (fun i => nI (rr i)), ia (rA 6) (rK9 6) 28 vv, ia (rA 34) (rK9 34) 8 gy.2.1, ia (rA 29) (rK9 29) 28 (fun i0 => mN (fm i0)), ia (rA 31) (rK9 31) 28 (fun i => nI (gy.2.2.2.2 i)), ia (rA 32) (rK9 32) 28 gy.2.2.1, ia (rA 30) (rK9 30) 28 (fun i => nI (gy.2.2.2.1 i)), ia (rA 35) (rK9 35) 7 (fun i => nI (li i))] sz) := by
  refine Met.ofW (cc := b_Ref_goes) (maxL := 7) (ret := (some .boolean)) (by decide) rfl ?_
  intro p e0 s m args below meth c s₁ B hml hv
  obtain ⟨rfl, hsz, hP, hK, hD0, hn⟩ := hv
  have hx := B.exec
  have hb := B.bytes
  have hr := B.returns
  have hw := fun w (h : w ∈ wt) => atoms_spec (ws := w_Ref_goes) B.pre w (List.mem_cons_of_mem _ h)
  have hown : s.vm.findClass R_Ref = some m.cls := findClass_of_methodNamed B.named
  have hlocks := B.notSynchronized
  subst hsz
  have hD1 := hD0.self (sz := s.heap.size)
  generalize hAe : va_A [oc ra 8 [.int (nI T), .int (nI Ac), .ref (rA 2), .ref (rA 3), .ref (rA 4), .ref (rA 5), .ref (rA 6), .ref (rA 7), .ref (rA 8), .ref (rA 9), .ref (rA 10), .ref (rA 11), .ref (rA 12), .ref (rA 13), .int ir, .ref (rA 15), .ref (rA 16), .ref (rA 17), .ref (rA 18), .int (nI md), .int (nI wd), .ref (rA 21), .ref (rA 22), .ref (rA 23), .int (nI mn), .ref (rA 25), .int (nI cb), .int mr, .ref (rA 28), .ref (rA 29), .ref (rA 30), .ref (rA 31), .ref (rA 32), .ref (rA 33), .ref (rA 34), .ref (rA 35), .int (nI ld), .int (nI gm), .ref (rA 38), .ref (rA 39), .ref (rA 40), .ref (rA 41), .ref (rA 42), .ref (rA 43), .ref (rA 44), .ref (rA 45), .int (nI my), .ref (rA 47)], ia (rA 33) (rK9 33) 4 (fun i => nI (gy.1 i)), ia (rA 2) (rK9 2) 4 (fun i => nI (zs i)), ia (rA 3) (rK9 3) 28 (fun i => nI (kd i)), ia (rA 4) (rK9 4) 28 (fun i => nI (vx i)), ia (rA 5) (rK9 5) 28 (fun i => nI (rr i)), ia (rA 6) (rK9 6) 28 vv, ia (rA 34) (rK9 34) 8 gy.2.1, ia (rA 29) (rK9 29) 28 (fun i0 => mN (fm i0)), ia (rA 31) (rK9 31) 28 (fun i => nI (gy.2.2.2.2 i)), ia (rA 32) (rK9 32) 28 gy.2.2.1, ia (rA 30) (rK9 30) 28 (fun i => nI (gy.2.2.2.1 i)), ia (rA 35) (rK9 35) 7 (fun i => nI (li i))] s.heap.size = A at hD1 ⊢
  have hA : ∀ q : Nat, s.heap.size ≤ q → A q := fun q h => by rw [← hAe]; exact Or.inr h
  have hD : dd A [ra, (rA 33), (rA 2), (rA 3), (rA 4), (rA 5), (rA 6), (rA 34), (rA 29), (rA 31), (rA 32), (rA 30), (rA 35)] := dd_of hD1 rfl
  clear hAe hD0 hD1
  have hS : va_S A s.heap s.heap [] := va_S.rf
  replace hP : va_P (dC, dI) classes [oc ra 8 [.int (nI T), .int (nI Ac), .ref (rA 2), .ref (rA 3), .ref (rA 4), .ref (rA 5), .ref (rA 6), .ref (rA 7), .ref (rA 8), .ref (rA 9), .ref (rA 10), .ref (rA 11), .ref (rA 12), .ref (rA 13), .int ir, .ref (rA 15), .ref (rA 16), .ref (rA 17), .ref (rA 18), .int (nI md), .int (nI wd), .ref (rA 21), .ref (rA 22), .ref (rA 23), .int (nI mn), .ref (rA 25), .int (nI cb), .int mr, .ref (rA 28), .ref (rA 29), .ref (rA 30), .ref (rA 31), .ref (rA 32), .ref (rA 33), .ref (rA 34), .ref (rA 35), .int (nI ld), .int (nI gm), .ref (rA 38), .ref (rA 39), .ref (rA 40), .ref (rA 41), .ref (rA 42), .ref (rA 43), .ref (rA 44), .ref (rA 45), .int (nI my), .ref (rA 47)], ia (rA 33) (rK9 33) 4 (fun i => nI (gy.1 i)), ia (rA 2) (rK9 2) 4 (fun i => nI (zs i)), ia (rA 3) (rK9 3) 28 (fun i => nI (kd i)), ia (rA 4) (rK9 4) 28 (fun i => nI (vx i)), ia (rA 5) (rK9 5) 28 (fun i => nI (rr i)), ia (rA 6) (rK9 6) 28 vv, ia (rA 34) (rK9 34) 8 gy.2.1, ia (rA 29) (rK9 29) 28 (fun i0 => mN (fm i0)), ia (rA 31) (rK9 31) 28 (fun i => nI (gy.2.2.2.2 i)), ia (rA 32) (rK9 32) 28 gy.2.2.1, ia (rA 30) (rK9 30) 28 (fun i => nI (gy.2.2.2.1 i)), ia (rA 35) (rK9 35) 7 (fun i => nI (li i))] s.heap := hP
  have hl := lv_entry ([.ref ra]) (n := 7) (Nat.le_of_ble_eq_true rfl)
  rw [lg_entry_eq]
  generalize (lg_sl ([.ref ra]) ++ List.replicate (7 - (lg_sl ([.ref ra])).length) Slot.unset).toArray = ls at hl ⊢
  replace hl : lv_has ls 7 [(0, .ref ra)] := hl
  refine lv_iconst (v := 0) hx hb d_Ref_goes_0 (by decide) ?_
  refine lv_istore_n (lv' := [(1, .int 0), (0, .ref ra)]) hx hb d_Ref_goes_1 rfl hl (by decide) rfl ?_
  clear hl ls
  intro ls hl
  refine lp_n 28 (fun i1 H locs ls => ∃ h5 d5 : Nat → Nat, (∀ j, j < i1 → h5 j = 0 ∧ d5 j = 0) ∧ va_P (dC, dI) classes [oc ra 8 [.int (nI T), .int (nI Ac), .ref (rA 2), .ref (rA 3), .ref (rA 4), .ref (rA 5), .ref (rA 6), .ref (rA 7), .ref (rA 8), .ref (rA 9), .ref (rA 10), .ref (rA 11), .ref (rA 12), .ref (rA 13), .int ir, .ref (rA 15), .ref (rA 16), .ref (rA 17), .ref (rA 18), .int (nI md), .int (nI wd), .ref (rA 21), .ref (rA 22), .ref (rA 23), .int (nI mn), .ref (rA 25), .int (nI cb), .int mr, .ref (rA 28), .ref (rA 29), .ref (rA 30), .ref (rA 31), .ref (rA 32), .ref (rA 33), .ref (rA 34), .ref (rA 35), .int (nI ld), .int (nI gm), .ref (rA 38), .ref (rA 39), .ref (rA 40), .ref (rA 41), .ref (rA 42), .ref (rA 43), .ref (rA 44), .ref (rA 45), .int (nI my), .ref (rA 47)], ia (rA 33) (rK9 33) 4 (fun i => nI (gy.1 i)), ia (rA 2) (rK9 2) 4 (fun i => nI (zs i)), ia (rA 3) (rK9 3) 28 (fun i => nI (kd i)), ia (rA 4) (rK9 4) 28 (fun i => nI (vx i)), ia (rA 5) (rK9 5) 28 (fun i => nI (rr i)), ia (rA 6) (rK9 6) 28 vv, ia (rA 34) (rK9 34) 8 gy.2.1, ia (rA 29) (rK9 29) 28 (fun i0 => mN (fm i0)), ia (rA 31) (rK9 31) 28 (fun i => nI (d5 i)), ia (rA 32) (rK9 32) 28 gy.2.2.1, ia (rA 30) (rK9 30) 28 (fun i => nI (h5 i)), ia (rA 35) (rK9 35) 7 (fun i => nI (li i))] H ∧ va_S A s.heap H locs ∧ lv_has ls 7 [(1, .int (nI i1)), (0, .ref ra)]) ⟨gy.2.2.2.1, gy.2.2.2.2, fun j hj => absurd hj (Nat.not_lt_zero j), hP, hS, hl⟩ ?_ ?_
  · intro i1 H locs ls hi1 hI ih
    obtain ⟨h5, d5, hf5, hP, hS, hl⟩ := hI
    refine lv_iload_n hx hb d_Ref_goes_2 rfl (lv_at hl 0 rfl) ?_
    refine lv_bipush (v := 28) hx hb d_Ref_goes_3 (by decide) ?_
    refine lv_icmp_ge (tgt := 28) hx hb d_Ref_goes_5 (by decide) (fun c9 => absurd c9 (nI_ge (a := i1) (b := 28) hi1 (by decide))) (fun c9 => ?_)
    refine tp_pc (pc' := 8) (by rfl) ?_
    refine lv_aload_n hx hb d_Ref_goes_8 rfl (lv_at hl 1 rfl) ?_
    refine va_get (D := (dC, dI)) (ci := 8) (v := .ref (rA 30)) (C := R_Ref) (T := F_Ref) (N := 48) hx hb hw i_Ref hown hK hP 0 rfl rfl 30 (by decide) (hw _ m_929) (fun _ h9 => h9) rfl d_Ref_goes_9 ?_
    refine lv_iload_n hx hb d_Ref_goes_12 rfl (lv_at hl 0 rfl) ?_
    refine lv_iconst (v := 0) hx hb d_Ref_goes_13 (by decide) ?_
    refine tp_i (y := nI 0) rfl ?_
    refine va_zast (D := (dC, dI)) hx hb hK hP (dd_D hD rfl) hS 11 10 rfl rfl (i := nI i1) (x := nI 0) (pk_in i1 28 (by omega)) d_Ref_goes_14 ?_
    clear hP hS locs H
    intro H locs hP _ hS
    rw [show (nI i1 : Int32).toNatClampNeg = i1 from pk_cl i1] at hP
    rw [show vp_nar .boolean (nI 0) = (nI 0) from by decide] at hP
    rw [show upd (fun i => nI (h5 i)) i1 (nI 0) = fun i => nI (updN h5 i1 0 i) from upd_nI] at hP
    replace hP : va_P (dC, dI) classes [oc ra 8 [.int (nI T), .int (nI Ac), .ref (rA 2), .ref (rA 3), .ref (rA 4), .ref (rA 5), .ref (rA 6), .ref (rA 7), .ref (rA 8), .ref (rA 9), .ref (rA 10), .ref (rA 11), .ref (rA 12), .ref (rA 13), .int ir, .ref (rA 15), .ref (rA 16), .ref (rA 17), .ref (rA 18), .int (nI md), .int (nI wd), .ref (rA 21), .ref (rA 22), .ref (rA 23), .int (nI mn), .ref (rA 25), .int (nI cb), .int mr, .ref (rA 28), .ref (rA 29), .ref (rA 30), .ref (rA 31), .ref (rA 32), .ref (rA 33), .ref (rA 34), .ref (rA 35), .int (nI ld), .int (nI gm), .ref (rA 38), .ref (rA 39), .ref (rA 40), .ref (rA 41), .ref (rA 42), .ref (rA 43), .ref (rA 44), .ref (rA 45), .int (nI my), .ref (rA 47)], ia (rA 33) (rK9 33) 4 (fun i => nI (gy.1 i)), ia (rA 2) (rK9 2) 4 (fun i => nI (zs i)), ia (rA 3) (rK9 3) 28 (fun i => nI (kd i)), ia (rA 4) (rK9 4) 28 (fun i => nI (vx i)), ia (rA 5) (rK9 5) 28 (fun i => nI (rr i)), ia (rA 6) (rK9 6) 28 vv, ia (rA 34) (rK9 34) 8 gy.2.1, ia (rA 29) (rK9 29) 28 (fun i0 => mN (fm i0)), ia (rA 31) (rK9 31) 28 (fun i => nI (d5 i)), ia (rA 32) (rK9 32) 28 gy.2.2.1, ia (rA 30) (rK9 30) 28 (fun i => nI ((updN h5 i1 0) i)), ia (rA 35) (rK9 35) 7 (fun i => nI (li i))] H := hP
    refine tp_pc (pc' := 15) (by rfl) ?_
    refine lv_aload_n hx hb d_Ref_goes_15 rfl (lv_at hl 1 rfl) ?_
    refine va_get (D := (dC, dI)) (ci := 8) (v := .ref (rA 31)) (C := R_Ref) (T := F_Ref) (N := 48) hx hb hw i_Ref hown hK hP 0 rfl rfl 31 (by decide) (hw _ m_930) (fun _ h9 => h9) rfl d_Ref_goes_16 ?_
    refine lv_iload_n hx hb d_Ref_goes_19 rfl (lv_at hl 0 rfl) ?_
    refine lv_iconst (v := 0) hx hb d_Ref_goes_20 (by decide) ?_
    refine tp_i (y := nI 0) rfl ?_
    refine va_zast (D := (dC, dI)) hx hb hK hP (dd_D hD rfl) hS 9 8 rfl rfl (i := nI i1) (x := nI 0) (pk_in i1 28 (by omega)) d_Ref_goes_21 ?_
    clear hP hS locs H
    intro H locs hP _ hS
    rw [show (nI i1 : Int32).toNatClampNeg = i1 from pk_cl i1] at hP
    rw [show vp_nar .boolean (nI 0) = (nI 0) from by decide] at hP
    rw [show upd (fun i => nI (d5 i)) i1 (nI 0) = fun i => nI (updN d5 i1 0 i) from upd_nI] at hP
    replace hP : va_P (dC, dI) classes [oc ra 8 [.int (nI T), .int (nI Ac), .ref (rA 2), .ref (rA 3), .ref (rA 4), .ref (rA 5), .ref (rA 6), .ref (rA 7), .ref (rA 8), .ref (rA 9), .ref (rA 10), .ref (rA 11), .ref (rA 12), .ref (rA 13), .int ir, .ref (rA 15), .ref (rA 16), .ref (rA 17), .ref (rA 18), .int (nI md), .int (nI wd), .ref (rA 21), .ref (rA 22), .ref (rA 23), .int (nI mn), .ref (rA 25), .int (nI cb), .int mr, .ref (rA 28), .ref (rA 29), .ref (rA 30), .ref (rA 31), .ref (rA 32), .ref (rA 33), .ref (rA 34), .ref (rA 35), .int (nI ld), .int (nI gm), .ref (rA 38), .ref (rA 39), .ref (rA 40), .ref (rA 41), .ref (rA 42), .ref (rA 43), .ref (rA 44), .ref (rA 45), .int (nI my), .ref (rA 47)], ia (rA 33) (rK9 33) 4 (fun i => nI (gy.1 i)), ia (rA 2) (rK9 2) 4 (fun i => nI (zs i)), ia (rA 3) (rK9 3) 28 (fun i => nI (kd i)), ia (rA 4) (rK9 4) 28 (fun i => nI (vx i)), ia (rA 5) (rK9 5) 28 (fun i => nI (rr i)), ia (rA 6) (rK9 6) 28 vv, ia (rA 34) (rK9 34) 8 gy.2.1, ia (rA 29) (rK9 29) 28 (fun i0 => mN (fm i0)), ia (rA 31) (rK9 31) 28 (fun i => nI ((updN d5 i1 0) i)), ia (rA 32) (rK9 32) 28 gy.2.2.1, ia (rA 30) (rK9 30) 28 (fun i => nI ((updN h5 i1 0) i)), ia (rA 35) (rK9 35) 7 (fun i => nI (li i))] H := hP
    refine tp_pc (pc' := 22) (by rfl) ?_
    refine lv_iinc (v := nI (i1 + 1)) (lv' := [(1, .int (nI (i1 + 1))), (0, .ref ra)]) hx hb d_Ref_goes_22 hl (k := 0) rfl (by exact nI_1 i1) (by decide) rfl ?_
    clear hl ls
    intro ls hl
    refine lv_goto (tgt := 2) hx hb d_Ref_goes_25 (by decide) ?_
    refine tp_pc (pc' := 2) (by rfl) ?_
    exact ih _ _ _ ⟨_, _, fun j hj => by unfold updN; split; exact ⟨rfl, rfl⟩; exact hf5 j (by omega), hP, hS, lv_sub hl [0, 1] rfl⟩
  · intro H locs ls hI
    obtain ⟨h5, d5, hf5, hP, hS, hl⟩ := hI
    replace hl : lv_has ls 7 [(1, .int 28), (0, .ref ra)] := hl
    refine lv_iload_n hx hb d_Ref_goes_2 rfl (lv_at hl 0 rfl) ?_
    refine lv_bipush (v := 28) hx hb d_Ref_goes_3 (by decide) ?_
    refine lv_icmp_ge (tgt := 28) hx hb d_Ref_goes_5 (by decide) (fun c_1 => ?_) (fun c_1 => absurd c_1 (by decide))
    refine tp_pc (pc' := 28) (by rfl) ?_
    replace hP : va_P (dC, dI) classes [oc ra 8 [.int (nI T), .int (nI Ac), .ref (rA 2), .ref (rA 3), .ref (rA 4), .ref (rA 5), .ref (rA 6), .ref (rA 7), .ref (rA 8), .ref (rA 9), .ref (rA 10), .ref (rA 11), .ref (rA 12), .ref (rA 13), .int ir, .ref (rA 15), .ref (rA 16), .ref (rA 17), .ref (rA 18), .int (nI md), .int (nI wd), .ref (rA 21), .ref (rA 22), .ref (rA 23), .int (nI mn), .ref (rA 25), .int (nI cb), .int mr, .ref (rA 28), .ref (rA 29), .ref (rA 30), .ref (rA 31), .ref (rA 32), .ref (rA 33), .ref (rA 34), .ref (rA 35), .int (nI ld), .int (nI gm), .ref (rA 38), .ref (rA 39), .ref (rA 40), .ref (rA 41), .ref (rA 42), .ref (rA 43), .ref (rA 44), .ref (rA 45), .int (nI my), .ref (rA 47)], ia (rA 33) (rK9 33) 4 (fun i => nI (gy.1 i)), ia (rA 2) (rK9 2) 4 (fun i => nI (zs i)), ia (rA 3) (rK9 3) 28 (fun i => nI (kd i)), ia (rA 4) (rK9 4) 28 (fun i => nI (vx i)), ia (rA 5) (rK9 5) 28 (fun i => nI (rr i)), ia (rA 6) (rK9 6) 28 vv, ia (rA 34) (rK9 34) 8 gy.2.1, ia (rA 29) (rK9 29) 28 (fun i0 => mN (fm i0)), ia (rA 31) (rK9 31) 28 (fun i => nI (d5 i)), ia (rA 32) (rK9 32) 28 gy.2.2.1, ia (rA 30) (rK9 30) 28 (fun i => nI ((fun _ => 0) i)), ia (rA 35) (rK9 35) 7 (fun i => nI (li i))] H := P_cg (f := fun i => nI ((fun _ => 0) i)) 11 rfl (fun j hj => congrArg nI (hf5 j hj).1) hP
    replace hP : va_P (dC, dI) classes [oc ra 8 [.int (nI T), .int (nI Ac), .ref (rA 2), .ref (rA 3), .ref (rA 4), .ref (rA 5), .ref (rA 6), .ref (rA 7), .ref (rA 8), .ref (rA 9), .ref (rA 10), .ref (rA 11), .ref (rA 12), .ref (rA 13), .int ir, .ref (rA 15), .ref (rA 16), .ref (rA 17), .ref (rA 18), .int (nI md), .int (nI wd), .ref (rA 21), .ref (rA 22), .ref (rA 23), .int (nI mn), .ref (rA 25), .int (nI cb), .int mr, .ref (rA 28), .ref (rA 29), .ref (rA 30), .ref (rA 31), .ref (rA 32), .ref (rA 33), .ref (rA 34), .ref (rA 35), .int (nI ld), .int (nI gm), .ref (rA 38), .ref (rA 39), .ref (rA 40), .ref (rA 41), .ref (rA 42), .ref (rA 43), .ref (rA 44), .ref (rA 45), .int (nI my), .ref (rA 47)], ia (rA 33) (rK9 33) 4 (fun i => nI (gy.1 i)), ia (rA 2) (rK9 2) 4 (fun i => nI (zs i)), ia (rA 3) (rK9 3) 28 (fun i => nI (kd i)), ia (rA 4) (rK9 4) 28 (fun i => nI (vx i)), ia (rA 5) (rK9 5) 28 (fun i => nI (rr i)), ia (rA 6) (rK9 6) 28 vv, ia (rA 34) (rK9 34) 8 gy.2.1, ia (rA 29) (rK9 29) 28 (fun i0 => mN (fm i0)), ia (rA 31) (rK9 31) 28 (fun i => nI ((fun _ => 0) i)), ia (rA 32) (rK9 32) 28 gy.2.2.1, ia (rA 30) (rK9 30) 28 (fun i => nI ((fun _ => 0) i)), ia (rA 35) (rK9 35) 7 (fun i => nI (li i))] H := P_cg (f := fun i => nI ((fun _ => 0) i)) 9 rfl (fun j hj => congrArg nI (hf5 j hj).2) hP
    refine lv_iconst (v := 0) hx hb d_Ref_goes_28 (by decide) ?_
    refine lv_istore_n (lv' := [(1, .int 0), (0, .ref ra)]) hx hb d_Ref_goes_29 rfl hl (by decide) rfl ?_
    clear hl ls
    intro ls hl
    refine lv_iload_n hx hb d_Ref_goes_30 rfl (lv_at hl 0 rfl) ?_
    refine lv_iconst (v := 4) hx hb d_Ref_goes_31 (by decide) ?_
    refine lv_icmp_ge (tgt := 68) hx hb d_Ref_goes_32 (by decide) (fun c_2 => absurd c_2 (by decide)) (fun c_2 => ?_)
    refine tp_pc (pc' := 35) (by rfl) ?_
    refine lv_aload_n hx hb d_Ref_goes_35 rfl (lv_at hl 1 rfl) ?_
    refine va_get (D := (dC, dI)) (ci := 8) (v := .ref (rA 33)) (C := R_Ref) (T := F_Ref) (N := 48) hx hb hw i_Ref hown hK hP 0 rfl rfl 33 (by decide) (hw _ m_932) (fun _ h9 => h9) rfl d_Ref_goes_36 ?_
    refine lv_iload_n hx hb d_Ref_goes_39 rfl (lv_at hl 0 rfl) ?_
    refine lv_iconst (v := 0) hx hb d_Ref_goes_40 (by decide) ?_
    refine va_iast (D := (dC, dI)) hx hb hK hP (dd_D hD rfl) hS 1 0 rfl rfl (i := 0) (x := 0) (pk_in 0 4 (by omega)) d_Ref_goes_41 ?_
    clear hP hS locs H
    intro H locs hP _ hS
    rw [show (0 : Int32).toNatClampNeg = 0 from pk_cl 0] at hP
    rw [show upd (fun i => nI (gy.1 i)) 0 0 = fun i => nI (updN gy.1 0 0 i) from upd_nI] at hP
    replace hP : va_P (dC, dI) classes [oc ra 8 [.int (nI T), .int (nI Ac), .ref (rA 2), .ref (rA 3), .ref (rA 4), .ref (rA 5), .ref (rA 6), .ref (rA 7), .ref (rA 8), .ref (rA 9), .ref (rA 10), .ref (rA 11), .ref (rA 12), .ref (rA 13), .int ir, .ref (rA 15), .ref (rA 16), .ref (rA 17), .ref (rA 18), .int (nI md), .int (nI wd), .ref (rA 21), .ref (rA 22), .ref (rA 23), .int (nI mn), .ref (rA 25), .int (nI cb), .int mr, .ref (rA 28), .ref (rA 29), .ref (rA 30), .ref (rA 31), .ref (rA 32), .ref (rA 33), .ref (rA 34), .ref (rA 35), .int (nI ld), .int (nI gm), .ref (rA 38), .ref (rA 39), .ref (rA 40), .ref (rA 41), .ref (rA 42), .ref (rA 43), .ref (rA 44), .ref (rA 45), .int (nI my), .ref (rA 47)], ia (rA 33) (rK9 33) 4 (fun i => nI ((updN gy.1 0 0) i)), ia (rA 2) (rK9 2) 4 (fun i => nI (zs i)), ia (rA 3) (rK9 3) 28 (fun i => nI (kd i)), ia (rA 4) (rK9 4) 28 (fun i => nI (vx i)), ia (rA 5) (rK9 5) 28 (fun i => nI (rr i)), ia (rA 6) (rK9 6) 28 vv, ia (rA 34) (rK9 34) 8 gy.2.1, ia (rA 29) (rK9 29) 28 (fun i0 => mN (fm i0)), ia (rA 31) (rK9 31) 28 (fun i => nI ((fun _ => 0) i)), ia (rA 32) (rK9 32) 28 gy.2.2.1, ia (rA 30) (rK9 30) 28 (fun i => nI ((fun _ => 0) i)), ia (rA 35) (rK9 35) 7 (fun i => nI (li i))] H := hP
    refine tp_pc (pc' := 42) (by rfl) ?_
    refine lv_aload_n hx hb d_Ref_goes_42 rfl (lv_at hl 1 rfl) ?_
    refine va_get (D := (dC, dI)) (ci := 8) (v := .ref (rA 34)) (C := R_Ref) (T := F_Ref) (N := 48) hx hb hw i_Ref hown hK hP 0 rfl rfl 34 (by decide) (hw _ m_933) (fun _ h9 => h9) rfl d_Ref_goes_43 ?_
    refine lv_iconst (v := 2) hx hb d_Ref_goes_46 (by decide) ?_
    refine lv_iload_n hx hb d_Ref_goes_47 rfl (lv_at hl 0 rfl) ?_
    refine lv_imul hx hb d_Ref_goes_48 ?_
    refine tp_i (y := 0) (by first | rfl | decide) ?_
    refine lv_iconst (v := 0) hx hb d_Ref_goes_49 (by decide) ?_
    refine va_iast (D := (dC, dI)) hx hb hK hP (dd_D hD rfl) hS 7 6 rfl rfl (i := 0) (x := 0) (pk_in 0 8 (by omega)) d_Ref_goes_50 ?_
    clear hP hS locs H
    intro H locs hP _ hS
    rw [show (0 : Int32).toNatClampNeg = 0 from pk_cl 0] at hP
    replace hP : va_P (dC, dI) classes [oc ra 8 [.int (nI T), .int (nI Ac), .ref (rA 2), .ref (rA 3), .ref (rA 4), .ref (rA 5), .ref (rA 6), .ref (rA 7), .ref (rA 8), .ref (rA 9), .ref (rA 10), .ref (rA 11), .ref (rA 12), .ref (rA 13), .int ir, .ref (rA 15), .ref (rA 16), .ref (rA 17), .ref (rA 18), .int (nI md), .int (nI wd), .ref (rA 21), .ref (rA 22), .ref (rA 23), .int (nI mn), .ref (rA 25), .int (nI cb), .int mr, .ref (rA 28), .ref (rA 29), .ref (rA 30), .ref (rA 31), .ref (rA 32), .ref (rA 33), .ref (rA 34), .ref (rA 35), .int (nI ld), .int (nI gm), .ref (rA 38), .ref (rA 39), .ref (rA 40), .ref (rA 41), .ref (rA 42), .ref (rA 43), .ref (rA 44), .ref (rA 45), .int (nI my), .ref (rA 47)], ia (rA 33) (rK9 33) 4 (fun i => nI ((updN gy.1 0 0) i)), ia (rA 2) (rK9 2) 4 (fun i => nI (zs i)), ia (rA 3) (rK9 3) 28 (fun i => nI (kd i)), ia (rA 4) (rK9 4) 28 (fun i => nI (vx i)), ia (rA 5) (rK9 5) 28 (fun i => nI (rr i)), ia (rA 6) (rK9 6) 28 vv, ia (rA 34) (rK9 34) 8 (upd gy.2.1 0 0), ia (rA 29) (rK9 29) 28 (fun i0 => mN (fm i0)), ia (rA 31) (rK9 31) 28 (fun i => nI ((fun _ => 0) i)), ia (rA 32) (rK9 32) 28 gy.2.2.1, ia (rA 30) (rK9 30) 28 (fun i => nI ((fun _ => 0) i)), ia (rA 35) (rK9 35) 7 (fun i => nI (li i))] H := hP
    refine tp_pc (pc' := 51) (by rfl) ?_
    refine lv_aload_n hx hb d_Ref_goes_51 rfl (lv_at hl 1 rfl) ?_
    refine va_get (D := (dC, dI)) (ci := 8) (v := .ref (rA 34)) (C := R_Ref) (T := F_Ref) (N := 48) hx hb hw i_Ref hown hK hP 0 rfl rfl 34 (by decide) (hw _ m_933) (fun _ h9 => h9) rfl d_Ref_goes_52 ?_
    refine lv_iconst (v := 2) hx hb d_Ref_goes_55 (by decide) ?_
    refine lv_iload_n hx hb d_Ref_goes_56 rfl (lv_at hl 0 rfl) ?_
    refine lv_imul hx hb d_Ref_goes_57 ?_
    refine tp_i (y := 0) (by first | rfl | decide) ?_
    refine lv_iconst (v := 1) hx hb d_Ref_goes_58 (by decide) ?_
    refine lv_iadd hx hb d_Ref_goes_59 ?_
    refine tp_i (y := 1) (by first | rfl | decide) ?_
    refine lv_iconst (v := 0) hx hb d_Ref_goes_60 (by decide) ?_
    refine va_iast (D := (dC, dI)) hx hb hK hP (dd_D hD rfl) hS 7 6 rfl rfl (i := 1) (x := 0) (pk_in 1 8 (by omega)) d_Ref_goes_61 ?_
    clear hP hS locs H
    intro H locs hP _ hS
    rw [show (1 : Int32).toNatClampNeg = 1 from pk_cl 1] at hP
    replace hP : va_P (dC, dI) classes [oc ra 8 [.int (nI T), .int (nI Ac), .ref (rA 2), .ref (rA 3), .ref (rA 4), .ref (rA 5), .ref (rA 6), .ref (rA 7), .ref (rA 8), .ref (rA 9), .ref (rA 10), .ref (rA 11), .ref (rA 12), .ref (rA 13), .int ir, .ref (rA 15), .ref (rA 16), .ref (rA 17), .ref (rA 18), .int (nI md), .int (nI wd), .ref (rA 21), .ref (rA 22), .ref (rA 23), .int (nI mn), .ref (rA 25), .int (nI cb), .int mr, .ref (rA 28), .ref (rA 29), .ref (rA 30), .ref (rA 31), .ref (rA 32), .ref (rA 33), .ref (rA 34), .ref (rA 35), .int (nI ld), .int (nI gm), .ref (rA 38), .ref (rA 39), .ref (rA 40), .ref (rA 41), .ref (rA 42), .ref (rA 43), .ref (rA 44), .ref (rA 45), .int (nI my), .ref (rA 47)], ia (rA 33) (rK9 33) 4 (fun i => nI ((updN gy.1 0 0) i)), ia (rA 2) (rK9 2) 4 (fun i => nI (zs i)), ia (rA 3) (rK9 3) 28 (fun i => nI (kd i)), ia (rA 4) (rK9 4) 28 (fun i => nI (vx i)), ia (rA 5) (rK9 5) 28 (fun i => nI (rr i)), ia (rA 6) (rK9 6) 28 vv, ia (rA 34) (rK9 34) 8 (upd (upd gy.2.1 0 0) 1 0), ia (rA 29) (rK9 29) 28 (fun i0 => mN (fm i0)), ia (rA 31) (rK9 31) 28 (fun i => nI ((fun _ => 0) i)), ia (rA 32) (rK9 32) 28 gy.2.2.1, ia (rA 30) (rK9 30) 28 (fun i => nI ((fun _ => 0) i)), ia (rA 35) (rK9 35) 7 (fun i => nI (li i))] H := hP
    refine tp_pc (pc' := 62) (by rfl) ?_
    refine lv_iinc (v := 1) (lv' := [(1, .int 1), (0, .ref ra)]) hx hb d_Ref_goes_62 hl (k := 0) rfl (by first | rfl | decide) (by decide) rfl ?_
    clear hl ls
    intro ls hl
    refine lv_goto (tgt := 30) hx hb d_Ref_goes_65 (by decide) ?_
    refine tp_pc (pc' := 30) (by rfl) ?_
    refine lv_iload_n hx hb d_Ref_goes_30 rfl (lv_at hl 0 rfl) ?_
    refine lv_iconst (v := 4) hx hb d_Ref_goes_31 (by decide) ?_
    refine lv_icmp_ge (tgt := 68) hx hb d_Ref_goes_32 (by decide) (fun c_3 => absurd c_3 (by decide)) (fun c_3 => ?_)
    refine tp_pc (pc' := 35) (by rfl) ?_
    refine lv_aload_n hx hb d_Ref_goes_35 rfl (lv_at hl 1 rfl) ?_
    refine va_get (D := (dC, dI)) (ci := 8) (v := .ref (rA 33)) (C := R_Ref) (T := F_Ref) (N := 48) hx hb hw i_Ref hown hK hP 0 rfl rfl 33 (by decide) (hw _ m_932) (fun _ h9 => h9) rfl d_Ref_goes_36 ?_
    refine lv_iload_n hx hb d_Ref_goes_39 rfl (lv_at hl 0 rfl) ?_
    refine lv_iconst (v := 0) hx hb d_Ref_goes_40 (by decide) ?_
    refine va_iast (D := (dC, dI)) hx hb hK hP (dd_D hD rfl) hS 1 0 rfl rfl (i := 1) (x := 0) (pk_in 1 4 (by omega)) d_Ref_goes_41 ?_
    clear hP hS locs H
    intro H locs hP _ hS
    rw [show (1 : Int32).toNatClampNeg = 1 from pk_cl 1] at hP
    rw [show upd (fun i => nI ((updN gy.1 0 0) i)) 1 0 = fun i => nI (updN (updN gy.1 0 0) 1 0 i) from upd_nI] at hP
    replace hP : va_P (dC, dI) classes [oc ra 8 [.int (nI T), .int (nI Ac), .ref (rA 2), .ref (rA 3), .ref (rA 4), .ref (rA 5), .ref (rA 6), .ref (rA 7), .ref (rA 8), .ref (rA 9), .ref (rA 10), .ref (rA 11), .ref (rA 12), .ref (rA 13), .int ir, .ref (rA 15), .ref (rA 16), .ref (rA 17), .ref (rA 18), .int (nI md), .int (nI wd), .ref (rA 21), .ref (rA 22), .ref (rA 23), .int (nI mn), .ref (rA 25), .int (nI cb), .int mr, .ref (rA 28), .ref (rA 29), .ref (rA 30), .ref (rA 31), .ref (rA 32), .ref (rA 33), .ref (rA 34), .ref (rA 35), .int (nI ld), .int (nI gm), .ref (rA 38), .ref (rA 39), .ref (rA 40), .ref (rA 41), .ref (rA 42), .ref (rA 43), .ref (rA 44), .ref (rA 45), .int (nI my), .ref (rA 47)], ia (rA 33) (rK9 33) 4 (fun i => nI ((updN (updN gy.1 0 0) 1 0) i)), ia (rA 2) (rK9 2) 4 (fun i => nI (zs i)), ia (rA 3) (rK9 3) 28 (fun i => nI (kd i)), ia (rA 4) (rK9 4) 28 (fun i => nI (vx i)), ia (rA 5) (rK9 5) 28 (fun i => nI (rr i)), ia (rA 6) (rK9 6) 28 vv, ia (rA 34) (rK9 34) 8 (upd (upd gy.2.1 0 0) 1 0), ia (rA 29) (rK9 29) 28 (fun i0 => mN (fm i0)), ia (rA 31) (rK9 31) 28 (fun i => nI ((fun _ => 0) i)), ia (rA 32) (rK9 32) 28 gy.2.2.1, ia (rA 30) (rK9 30) 28 (fun i => nI ((fun _ => 0) i)), ia (rA 35) (rK9 35) 7 (fun i => nI (li i))] H := hP
    refine tp_pc (pc' := 42) (by rfl) ?_
    refine lv_aload_n hx hb d_Ref_goes_42 rfl (lv_at hl 1 rfl) ?_
    refine va_get (D := (dC, dI)) (ci := 8) (v := .ref (rA 34)) (C := R_Ref) (T := F_Ref) (N := 48) hx hb hw i_Ref hown hK hP 0 rfl rfl 34 (by decide) (hw _ m_933) (fun _ h9 => h9) rfl d_Ref_goes_43 ?_
    refine lv_iconst (v := 2) hx hb d_Ref_goes_46 (by decide) ?_
    refine lv_iload_n hx hb d_Ref_goes_47 rfl (lv_at hl 0 rfl) ?_
    refine lv_imul hx hb d_Ref_goes_48 ?_
    refine tp_i (y := 2) (by first | rfl | decide) ?_
    refine lv_iconst (v := 0) hx hb d_Ref_goes_49 (by decide) ?_
    refine va_iast (D := (dC, dI)) hx hb hK hP (dd_D hD rfl) hS 7 6 rfl rfl (i := 2) (x := 0) (pk_in 2 8 (by omega)) d_Ref_goes_50 ?_
    clear hP hS locs H
    intro H locs hP _ hS
    rw [show (2 : Int32).toNatClampNeg = 2 from pk_cl 2] at hP
    replace hP : va_P (dC, dI) classes [oc ra 8 [.int (nI T), .int (nI Ac), .ref (rA 2), .ref (rA 3), .ref (rA 4), .ref (rA 5), .ref (rA 6), .ref (rA 7), .ref (rA 8), .ref (rA 9), .ref (rA 10), .ref (rA 11), .ref (rA 12), .ref (rA 13), .int ir, .ref (rA 15), .ref (rA 16), .ref (rA 17), .ref (rA 18), .int (nI md), .int (nI wd), .ref (rA 21), .ref (rA 22), .ref (rA 23), .int (nI mn), .ref (rA 25), .int (nI cb), .int mr, .ref (rA 28), .ref (rA 29), .ref (rA 30), .ref (rA 31), .ref (rA 32), .ref (rA 33), .ref (rA 34), .ref (rA 35), .int (nI ld), .int (nI gm), .ref (rA 38), .ref (rA 39), .ref (rA 40), .ref (rA 41), .ref (rA 42), .ref (rA 43), .ref (rA 44), .ref (rA 45), .int (nI my), .ref (rA 47)], ia (rA 33) (rK9 33) 4 (fun i => nI ((updN (updN gy.1 0 0) 1 0) i)), ia (rA 2) (rK9 2) 4 (fun i => nI (zs i)), ia (rA 3) (rK9 3) 28 (fun i => nI (kd i)), ia (rA 4) (rK9 4) 28 (fun i => nI (vx i)), ia (rA 5) (rK9 5) 28 (fun i => nI (rr i)), ia (rA 6) (rK9 6) 28 vv, ia (rA 34) (rK9 34) 8 (upd (upd (upd gy.2.1 0 0) 1 0) 2 0), ia (rA 29) (rK9 29) 28 (fun i0 => mN (fm i0)), ia (rA 31) (rK9 31) 28 (fun i => nI ((fun _ => 0) i)), ia (rA 32) (rK9 32) 28 gy.2.2.1, ia (rA 30) (rK9 30) 28 (fun i => nI ((fun _ => 0) i)), ia (rA 35) (rK9 35) 7 (fun i => nI (li i))] H := hP
    refine tp_pc (pc' := 51) (by rfl) ?_
    refine lv_aload_n hx hb d_Ref_goes_51 rfl (lv_at hl 1 rfl) ?_
    refine va_get (D := (dC, dI)) (ci := 8) (v := .ref (rA 34)) (C := R_Ref) (T := F_Ref) (N := 48) hx hb hw i_Ref hown hK hP 0 rfl rfl 34 (by decide) (hw _ m_933) (fun _ h9 => h9) rfl d_Ref_goes_52 ?_
    refine lv_iconst (v := 2) hx hb d_Ref_goes_55 (by decide) ?_
    refine lv_iload_n hx hb d_Ref_goes_56 rfl (lv_at hl 0 rfl) ?_
    refine lv_imul hx hb d_Ref_goes_57 ?_
    refine tp_i (y := 2) (by first | rfl | decide) ?_
    refine lv_iconst (v := 1) hx hb d_Ref_goes_58 (by decide) ?_
    refine lv_iadd hx hb d_Ref_goes_59 ?_
    refine tp_i (y := 3) (by first | rfl | decide) ?_
    refine lv_iconst (v := 0) hx hb d_Ref_goes_60 (by decide) ?_
    refine va_iast (D := (dC, dI)) hx hb hK hP (dd_D hD rfl) hS 7 6 rfl rfl (i := 3) (x := 0) (pk_in 3 8 (by omega)) d_Ref_goes_61 ?_
    clear hP hS locs H
    intro H locs hP _ hS
    rw [show (3 : Int32).toNatClampNeg = 3 from pk_cl 3] at hP
    replace hP : va_P (dC, dI) classes [oc ra 8 [.int (nI T), .int (nI Ac), .ref (rA 2), .ref (rA 3), .ref (rA 4), .ref (rA 5), .ref (rA 6), .ref (rA 7), .ref (rA 8), .ref (rA 9), .ref (rA 10), .ref (rA 11), .ref (rA 12), .ref (rA 13), .int ir, .ref (rA 15), .ref (rA 16), .ref (rA 17), .ref (rA 18), .int (nI md), .int (nI wd), .ref (rA 21), .ref (rA 22), .ref (rA 23), .int (nI mn), .ref (rA 25), .int (nI cb), .int mr, .ref (rA 28), .ref (rA 29), .ref (rA 30), .ref (rA 31), .ref (rA 32), .ref (rA 33), .ref (rA 34), .ref (rA 35), .int (nI ld), .int (nI gm), .ref (rA 38), .ref (rA 39), .ref (rA 40), .ref (rA 41), .ref (rA 42), .ref (rA 43), .ref (rA 44), .ref (rA 45), .int (nI my), .ref (rA 47)], ia (rA 33) (rK9 33) 4 (fun i => nI ((updN (updN gy.1 0 0) 1 0) i)), ia (rA 2) (rK9 2) 4 (fun i => nI (zs i)), ia (rA 3) (rK9 3) 28 (fun i => nI (kd i)), ia (rA 4) (rK9 4) 28 (fun i => nI (vx i)), ia (rA 5) (rK9 5) 28 (fun i => nI (rr i)), ia (rA 6) (rK9 6) 28 vv, ia (rA 34) (rK9 34) 8 (upd (upd (upd (upd gy.2.1 0 0) 1 0) 2 0) 3 0), ia (rA 29) (rK9 29) 28 (fun i0 => mN (fm i0)), ia (rA 31) (rK9 31) 28 (fun i => nI ((fun _ => 0) i)), ia (rA 32) (rK9 32) 28 gy.2.2.1, ia (rA 30) (rK9 30) 28 (fun i => nI ((fun _ => 0) i)), ia (rA 35) (rK9 35) 7 (fun i => nI (li i))] H := hP
    refine tp_pc (pc' := 62) (by rfl) ?_
    refine lv_iinc (v := 2) (lv' := [(1, .int 2), (0, .ref ra)]) hx hb d_Ref_goes_62 hl (k := 0) rfl (by first | rfl | decide) (by decide) rfl ?_
    clear hl ls
    intro ls hl
    refine lv_goto (tgt := 30) hx hb d_Ref_goes_65 (by decide) ?_
    refine tp_pc (pc' := 30) (by rfl) ?_
    refine lv_iload_n hx hb d_Ref_goes_30 rfl (lv_at hl 0 rfl) ?_
    refine lv_iconst (v := 4) hx hb d_Ref_goes_31 (by decide) ?_
    refine lv_icmp_ge (tgt := 68) hx hb d_Ref_goes_32 (by decide) (fun c_4 => absurd c_4 (by decide)) (fun c_4 => ?_)
    refine tp_pc (pc' := 35) (by rfl) ?_
    refine lv_aload_n hx hb d_Ref_goes_35 rfl (lv_at hl 1 rfl) ?_
    refine va_get (D := (dC, dI)) (ci := 8) (v := .ref (rA 33)) (C := R_Ref) (T := F_Ref) (N := 48) hx hb hw i_Ref hown hK hP 0 rfl rfl 33 (by decide) (hw _ m_932) (fun _ h9 => h9) rfl d_Ref_goes_36 ?_
    refine lv_iload_n hx hb d_Ref_goes_39 rfl (lv_at hl 0 rfl) ?_
    refine lv_iconst (v := 0) hx hb d_Ref_goes_40 (by decide) ?_
    refine va_iast (D := (dC, dI)) hx hb hK hP (dd_D hD rfl) hS 1 0 rfl rfl (i := 2) (x := 0) (pk_in 2 4 (by omega)) d_Ref_goes_41 ?_
    clear hP hS locs H
    intro H locs hP _ hS
    rw [show (2 : Int32).toNatClampNeg = 2 from pk_cl 2] at hP
    rw [show upd (fun i => nI ((updN (updN gy.1 0 0) 1 0) i)) 2 0 = fun i => nI (updN (updN (updN gy.1 0 0) 1 0) 2 0 i) from upd_nI] at hP
    replace hP : va_P (dC, dI) classes [oc ra 8 [.int (nI T), .int (nI Ac), .ref (rA 2), .ref (rA 3), .ref (rA 4), .ref (rA 5), .ref (rA 6), .ref (rA 7), .ref (rA 8), .ref (rA 9), .ref (rA 10), .ref (rA 11), .ref (rA 12), .ref (rA 13), .int ir, .ref (rA 15), .ref (rA 16), .ref (rA 17), .ref (rA 18), .int (nI md), .int (nI wd), .ref (rA 21), .ref (rA 22), .ref (rA 23), .int (nI mn), .ref (rA 25), .int (nI cb), .int mr, .ref (rA 28), .ref (rA 29), .ref (rA 30), .ref (rA 31), .ref (rA 32), .ref (rA 33), .ref (rA 34), .ref (rA 35), .int (nI ld), .int (nI gm), .ref (rA 38), .ref (rA 39), .ref (rA 40), .ref (rA 41), .ref (rA 42), .ref (rA 43), .ref (rA 44), .ref (rA 45), .int (nI my), .ref (rA 47)], ia (rA 33) (rK9 33) 4 (fun i => nI ((updN (updN (updN gy.1 0 0) 1 0) 2 0) i)), ia (rA 2) (rK9 2) 4 (fun i => nI (zs i)), ia (rA 3) (rK9 3) 28 (fun i => nI (kd i)), ia (rA 4) (rK9 4) 28 (fun i => nI (vx i)), ia (rA 5) (rK9 5) 28 (fun i => nI (rr i)), ia (rA 6) (rK9 6) 28 vv, ia (rA 34) (rK9 34) 8 (upd (upd (upd (upd gy.2.1 0 0) 1 0) 2 0) 3 0), ia (rA 29) (rK9 29) 28 (fun i0 => mN (fm i0)), ia (rA 31) (rK9 31) 28 (fun i => nI ((fun _ => 0) i)), ia (rA 32) (rK9 32) 28 gy.2.2.1, ia (rA 30) (rK9 30) 28 (fun i => nI ((fun _ => 0) i)), ia (rA 35) (rK9 35) 7 (fun i => nI (li i))] H := hP
    refine tp_pc (pc' := 42) (by rfl) ?_
    refine lv_aload_n hx hb d_Ref_goes_42 rfl (lv_at hl 1 rfl) ?_
    refine va_get (D := (dC, dI)) (ci := 8) (v := .ref (rA 34)) (C := R_Ref) (T := F_Ref) (N := 48) hx hb hw i_Ref hown hK hP 0 rfl rfl 34 (by decide) (hw _ m_933) (fun _ h9 => h9) rfl d_Ref_goes_43 ?_
    refine lv_iconst (v := 2) hx hb d_Ref_goes_46 (by decide) ?_
    refine lv_iload_n hx hb d_Ref_goes_47 rfl (lv_at hl 0 rfl) ?_
    refine lv_imul hx hb d_Ref_goes_48 ?_
    refine tp_i (y := 4) (by first | rfl | decide) ?_
    refine lv_iconst (v := 0) hx hb d_Ref_goes_49 (by decide) ?_
    refine va_iast (D := (dC, dI)) hx hb hK hP (dd_D hD rfl) hS 7 6 rfl rfl (i := 4) (x := 0) (pk_in 4 8 (by omega)) d_Ref_goes_50 ?_
    clear hP hS locs H
    intro H locs hP _ hS
    rw [show (4 : Int32).toNatClampNeg = 4 from pk_cl 4] at hP
    replace hP : va_P (dC, dI) classes [oc ra 8 [.int (nI T), .int (nI Ac), .ref (rA 2), .ref (rA 3), .ref (rA 4), .ref (rA 5), .ref (rA 6), .ref (rA 7), .ref (rA 8), .ref (rA 9), .ref (rA 10), .ref (rA 11), .ref (rA 12), .ref (rA 13), .int ir, .ref (rA 15), .ref (rA 16), .ref (rA 17), .ref (rA 18), .int (nI md), .int (nI wd), .ref (rA 21), .ref (rA 22), .ref (rA 23), .int (nI mn), .ref (rA 25), .int (nI cb), .int mr, .ref (rA 28), .ref (rA 29), .ref (rA 30), .ref (rA 31), .ref (rA 32), .ref (rA 33), .ref (rA 34), .ref (rA 35), .int (nI ld), .int (nI gm), .ref (rA 38), .ref (rA 39), .ref (rA 40), .ref (rA 41), .ref (rA 42), .ref (rA 43), .ref (rA 44), .ref (rA 45), .int (nI my), .ref (rA 47)], ia (rA 33) (rK9 33) 4 (fun i => nI ((updN (updN (updN gy.1 0 0) 1 0) 2 0) i)), ia (rA 2) (rK9 2) 4 (fun i => nI (zs i)), ia (rA 3) (rK9 3) 28 (fun i => nI (kd i)), ia (rA 4) (rK9 4) 28 (fun i => nI (vx i)), ia (rA 5) (rK9 5) 28 (fun i => nI (rr i)), ia (rA 6) (rK9 6) 28 vv, ia (rA 34) (rK9 34) 8 (upd (upd (upd (upd (upd gy.2.1 0 0) 1 0) 2 0) 3 0) 4 0), ia (rA 29) (rK9 29) 28 (fun i0 => mN (fm i0)), ia (rA 31) (rK9 31) 28 (fun i => nI ((fun _ => 0) i)), ia (rA 32) (rK9 32) 28 gy.2.2.1, ia (rA 30) (rK9 30) 28 (fun i => nI ((fun _ => 0) i)), ia (rA 35) (rK9 35) 7 (fun i => nI (li i))] H := hP
    refine tp_pc (pc' := 51) (by rfl) ?_
    refine lv_aload_n hx hb d_Ref_goes_51 rfl (lv_at hl 1 rfl) ?_
    refine va_get (D := (dC, dI)) (ci := 8) (v := .ref (rA 34)) (C := R_Ref) (T := F_Ref) (N := 48) hx hb hw i_Ref hown hK hP 0 rfl rfl 34 (by decide) (hw _ m_933) (fun _ h9 => h9) rfl d_Ref_goes_52 ?_
    refine lv_iconst (v := 2) hx hb d_Ref_goes_55 (by decide) ?_
    refine lv_iload_n hx hb d_Ref_goes_56 rfl (lv_at hl 0 rfl) ?_
    refine lv_imul hx hb d_Ref_goes_57 ?_
    refine tp_i (y := 4) (by first | rfl | decide) ?_
    refine lv_iconst (v := 1) hx hb d_Ref_goes_58 (by decide) ?_
    refine lv_iadd hx hb d_Ref_goes_59 ?_
    refine tp_i (y := 5) (by first | rfl | decide) ?_
    refine lv_iconst (v := 0) hx hb d_Ref_goes_60 (by decide) ?_
    refine va_iast (D := (dC, dI)) hx hb hK hP (dd_D hD rfl) hS 7 6 rfl rfl (i := 5) (x := 0) (pk_in 5 8 (by omega)) d_Ref_goes_61 ?_
    clear hP hS locs H
    intro H locs hP _ hS
    rw [show (5 : Int32).toNatClampNeg = 5 from pk_cl 5] at hP
    replace hP : va_P (dC, dI) classes [oc ra 8 [.int (nI T), .int (nI Ac), .ref (rA 2), .ref (rA 3), .ref (rA 4), .ref (rA 5), .ref (rA 6), .ref (rA 7), .ref (rA 8), .ref (rA 9), .ref (rA 10), .ref (rA 11), .ref (rA 12), .ref (rA 13), .int ir, .ref (rA 15), .ref (rA 16), .ref (rA 17), .ref (rA 18), .int (nI md), .int (nI wd), .ref (rA 21), .ref (rA 22), .ref (rA 23), .int (nI mn), .ref (rA 25), .int (nI cb), .int mr, .ref (rA 28), .ref (rA 29), .ref (rA 30), .ref (rA 31), .ref (rA 32), .ref (rA 33), .ref (rA 34), .ref (rA 35), .int (nI ld), .int (nI gm), .ref (rA 38), .ref (rA 39), .ref (rA 40), .ref (rA 41), .ref (rA 42), .ref (rA 43), .ref (rA 44), .ref (rA 45), .int (nI my), .ref (rA 47)], ia (rA 33) (rK9 33) 4 (fun i => nI ((updN (updN (updN gy.1 0 0) 1 0) 2 0) i)), ia (rA 2) (rK9 2) 4 (fun i => nI (zs i)), ia (rA 3) (rK9 3) 28 (fun i => nI (kd i)), ia (rA 4) (rK9 4) 28 (fun i => nI (vx i)), ia (rA 5) (rK9 5) 28 (fun i => nI (rr i)), ia (rA 6) (rK9 6) 28 vv, ia (rA 34) (rK9 34) 8 (upd (upd (upd (upd (upd (upd gy.2.1 0 0) 1 0) 2 0) 3 0) 4 0) 5 0), ia (rA 29) (rK9 29) 28 (fun i0 => mN (fm i0)), ia (rA 31) (rK9 31) 28 (fun i => nI ((fun _ => 0) i)), ia (rA 32) (rK9 32) 28 gy.2.2.1, ia (rA 30) (rK9 30) 28 (fun i => nI ((fun _ => 0) i)), ia (rA 35) (rK9 35) 7 (fun i => nI (li i))] H := hP
    refine tp_pc (pc' := 62) (by rfl) ?_
    refine lv_iinc (v := 3) (lv' := [(1, .int 3), (0, .ref ra)]) hx hb d_Ref_goes_62 hl (k := 0) rfl (by first | rfl | decide) (by decide) rfl ?_
    clear hl ls
    intro ls hl
    refine lv_goto (tgt := 30) hx hb d_Ref_goes_65 (by decide) ?_
    refine tp_pc (pc' := 30) (by rfl) ?_
    refine lv_iload_n hx hb d_Ref_goes_30 rfl (lv_at hl 0 rfl) ?_
    refine lv_iconst (v := 4) hx hb d_Ref_goes_31 (by decide) ?_
    refine lv_icmp_ge (tgt := 68) hx hb d_Ref_goes_32 (by decide) (fun c_5 => absurd c_5 (by decide)) (fun c_5 => ?_)
    refine tp_pc (pc' := 35) (by rfl) ?_
    refine lv_aload_n hx hb d_Ref_goes_35 rfl (lv_at hl 1 rfl) ?_
    refine va_get (D := (dC, dI)) (ci := 8) (v := .ref (rA 33)) (C := R_Ref) (T := F_Ref) (N := 48) hx hb hw i_Ref hown hK hP 0 rfl rfl 33 (by decide) (hw _ m_932) (fun _ h9 => h9) rfl d_Ref_goes_36 ?_
    refine lv_iload_n hx hb d_Ref_goes_39 rfl (lv_at hl 0 rfl) ?_
    refine lv_iconst (v := 0) hx hb d_Ref_goes_40 (by decide) ?_
    refine va_iast (D := (dC, dI)) hx hb hK hP (dd_D hD rfl) hS 1 0 rfl rfl (i := 3) (x := 0) (pk_in 3 4 (by omega)) d_Ref_goes_41 ?_
    clear hP hS locs H
    intro H locs hP _ hS
    rw [show (3 : Int32).toNatClampNeg = 3 from pk_cl 3] at hP
    rw [show upd (fun i => nI ((updN (updN (updN gy.1 0 0) 1 0) 2 0) i)) 3 0 = fun i => nI (updN (updN (updN (updN gy.1 0 0) 1 0) 2 0) 3 0 i) from upd_nI] at hP
    replace hP : va_P (dC, dI) classes [oc ra 8 [.int (nI T), .int (nI Ac), .ref (rA 2), .ref (rA 3), .ref (rA 4), .ref (rA 5), .ref (rA 6), .ref (rA 7), .ref (rA 8), .ref (rA 9), .ref (rA 10), .ref (rA 11), .ref (rA 12), .ref (rA 13), .int ir, .ref (rA 15), .ref (rA 16), .ref (rA 17), .ref (rA 18), .int (nI md), .int (nI wd), .ref (rA 21), .ref (rA 22), .ref (rA 23), .int (nI mn), .ref (rA 25), .int (nI cb), .int mr, .ref (rA 28), .ref (rA 29), .ref (rA 30), .ref (rA 31), .ref (rA 32), .ref (rA 33), .ref (rA 34), .ref (rA 35), .int (nI ld), .int (nI gm), .ref (rA 38), .ref (rA 39), .ref (rA 40), .ref (rA 41), .ref (rA 42), .ref (rA 43), .ref (rA 44), .ref (rA 45), .int (nI my), .ref (rA 47)], ia (rA 33) (rK9 33) 4 (fun i => nI ((updN (updN (updN (updN gy.1 0 0) 1 0) 2 0) 3 0) i)), ia (rA 2) (rK9 2) 4 (fun i => nI (zs i)), ia (rA 3) (rK9 3) 28 (fun i => nI (kd i)), ia (rA 4) (rK9 4) 28 (fun i => nI (vx i)), ia (rA 5) (rK9 5) 28 (fun i => nI (rr i)), ia (rA 6) (rK9 6) 28 vv, ia (rA 34) (rK9 34) 8 (upd (upd (upd (upd (upd (upd gy.2.1 0 0) 1 0) 2 0) 3 0) 4 0) 5 0), ia (rA 29) (rK9 29) 28 (fun i0 => mN (fm i0)), ia (rA 31) (rK9 31) 28 (fun i => nI ((fun _ => 0) i)), ia (rA 32) (rK9 32) 28 gy.2.2.1, ia (rA 30) (rK9 30) 28 (fun i => nI ((fun _ => 0) i)), ia (rA 35) (rK9 35) 7 (fun i => nI (li i))] H := hP
    refine tp_pc (pc' := 42) (by rfl) ?_
    refine lv_aload_n hx hb d_Ref_goes_42 rfl (lv_at hl 1 rfl) ?_
    refine va_get (D := (dC, dI)) (ci := 8) (v := .ref (rA 34)) (C := R_Ref) (T := F_Ref) (N := 48) hx hb hw i_Ref hown hK hP 0 rfl rfl 34 (by decide) (hw _ m_933) (fun _ h9 => h9) rfl d_Ref_goes_43 ?_
    refine lv_iconst (v := 2) hx hb d_Ref_goes_46 (by decide) ?_
    refine lv_iload_n hx hb d_Ref_goes_47 rfl (lv_at hl 0 rfl) ?_
    refine lv_imul hx hb d_Ref_goes_48 ?_
    refine tp_i (y := 6) (by first | rfl | decide) ?_
    refine lv_iconst (v := 0) hx hb d_Ref_goes_49 (by decide) ?_
    refine va_iast (D := (dC, dI)) hx hb hK hP (dd_D hD rfl) hS 7 6 rfl rfl (i := 6) (x := 0) (pk_in 6 8 (by omega)) d_Ref_goes_50 ?_
    clear hP hS locs H
    intro H locs hP _ hS
    rw [show (6 : Int32).toNatClampNeg = 6 from pk_cl 6] at hP
    replace hP : va_P (dC, dI) classes [oc ra 8 [.int (nI T), .int (nI Ac), .ref (rA 2), .ref (rA 3), .ref (rA 4), .ref (rA 5), .ref (rA 6), .ref (rA 7), .ref (rA 8), .ref (rA 9), .ref (rA 10), .ref (rA 11), .ref (rA 12), .ref (rA 13), .int ir, .ref (rA 15), .ref (rA 16), .ref (rA 17), .ref (rA 18), .int (nI md), .int (nI wd), .ref (rA 21), .ref (rA 22), .ref (rA 23), .int (nI mn), .ref (rA 25), .int (nI cb), .int mr, .ref (rA 28), .ref (rA 29), .ref (rA 30), .ref (rA 31), .ref (rA 32), .ref (rA 33), .ref (rA 34), .ref (rA 35), .int (nI ld), .int (nI gm), .ref (rA 38), .ref (rA 39), .ref (rA 40), .ref (rA 41), .ref (rA 42), .ref (rA 43), .ref (rA 44), .ref (rA 45), .int (nI my), .ref (rA 47)], ia (rA 33) (rK9 33) 4 (fun i => nI ((updN (updN (updN (updN gy.1 0 0) 1 0) 2 0) 3 0) i)), ia (rA 2) (rK9 2) 4 (fun i => nI (zs i)), ia (rA 3) (rK9 3) 28 (fun i => nI (kd i)), ia (rA 4) (rK9 4) 28 (fun i => nI (vx i)), ia (rA 5) (rK9 5) 28 (fun i => nI (rr i)), ia (rA 6) (rK9 6) 28 vv, ia (rA 34) (rK9 34) 8 (upd (upd (upd (upd (upd (upd (upd gy.2.1 0 0) 1 0) 2 0) 3 0) 4 0) 5 0) 6 0), ia (rA 29) (rK9 29) 28 (fun i0 => mN (fm i0)), ia (rA 31) (rK9 31) 28 (fun i => nI ((fun _ => 0) i)), ia (rA 32) (rK9 32) 28 gy.2.2.1, ia (rA 30) (rK9 30) 28 (fun i => nI ((fun _ => 0) i)), ia (rA 35) (rK9 35) 7 (fun i => nI (li i))] H := hP
    refine tp_pc (pc' := 51) (by rfl) ?_
    refine lv_aload_n hx hb d_Ref_goes_51 rfl (lv_at hl 1 rfl) ?_
    refine va_get (D := (dC, dI)) (ci := 8) (v := .ref (rA 34)) (C := R_Ref) (T := F_Ref) (N := 48) hx hb hw i_Ref hown hK hP 0 rfl rfl 34 (by decide) (hw _ m_933) (fun _ h9 => h9) rfl d_Ref_goes_52 ?_
    refine lv_iconst (v := 2) hx hb d_Ref_goes_55 (by decide) ?_
    refine lv_iload_n hx hb d_Ref_goes_56 rfl (lv_at hl 0 rfl) ?_
    refine lv_imul hx hb d_Ref_goes_57 ?_
    refine tp_i (y := 6) (by first | rfl | decide) ?_
    refine lv_iconst (v := 1) hx hb d_Ref_goes_58 (by decide) ?_
    refine lv_iadd hx hb d_Ref_goes_59 ?_
    refine tp_i (y := 7) (by first | rfl | decide) ?_
    refine lv_iconst (v := 0) hx hb d_Ref_goes_60 (by decide) ?_
    refine va_iast (D := (dC, dI)) hx hb hK hP (dd_D hD rfl) hS 7 6 rfl rfl (i := 7) (x := 0) (pk_in 7 8 (by omega)) d_Ref_goes_61 ?_
    clear hP hS locs H
    intro H locs hP _ hS
    rw [show (7 : Int32).toNatClampNeg = 7 from pk_cl 7] at hP
    replace hP : va_P (dC, dI) classes [oc ra 8 [.int (nI T), .int (nI Ac), .ref (rA 2), .ref (rA 3), .ref (rA 4), .ref (rA 5), .ref (rA 6), .ref (rA 7), .ref (rA 8), .ref (rA 9), .ref (rA 10), .ref (rA 11), .ref (rA 12), .ref (rA 13), .int ir, .ref (rA 15), .ref (rA 16), .ref (rA 17), .ref (rA 18), .int (nI md), .int (nI wd), .ref (rA 21), .ref (rA 22), .ref (rA 23), .int (nI mn), .ref (rA 25), .int (nI cb), .int mr, .ref (rA 28), .ref (rA 29), .ref (rA 30), .ref (rA 31), .ref (rA 32), .ref (rA 33), .ref (rA 34), .ref (rA 35), .int (nI ld), .int (nI gm), .ref (rA 38), .ref (rA 39), .ref (rA 40), .ref (rA 41), .ref (rA 42), .ref (rA 43), .ref (rA 44), .ref (rA 45), .int (nI my), .ref (rA 47)], ia (rA 33) (rK9 33) 4 (fun i => nI ((updN (updN (updN (updN gy.1 0 0) 1 0) 2 0) 3 0) i)), ia (rA 2) (rK9 2) 4 (fun i => nI (zs i)), ia (rA 3) (rK9 3) 28 (fun i => nI (kd i)), ia (rA 4) (rK9 4) 28 (fun i => nI (vx i)), ia (rA 5) (rK9 5) 28 (fun i => nI (rr i)), ia (rA 6) (rK9 6) 28 vv, ia (rA 34) (rK9 34) 8 (upd (upd (upd (upd (upd (upd (upd (upd gy.2.1 0 0) 1 0) 2 0) 3 0) 4 0) 5 0) 6 0) 7 0), ia (rA 29) (rK9 29) 28 (fun i0 => mN (fm i0)), ia (rA 31) (rK9 31) 28 (fun i => nI ((fun _ => 0) i)), ia (rA 32) (rK9 32) 28 gy.2.2.1, ia (rA 30) (rK9 30) 28 (fun i => nI ((fun _ => 0) i)), ia (rA 35) (rK9 35) 7 (fun i => nI (li i))] H := hP
    refine tp_pc (pc' := 62) (by rfl) ?_
    refine lv_iinc (v := 4) (lv' := [(1, .int 4), (0, .ref ra)]) hx hb d_Ref_goes_62 hl (k := 0) rfl (by first | rfl | decide) (by decide) rfl ?_
    clear hl ls
    intro ls hl
    refine lv_goto (tgt := 30) hx hb d_Ref_goes_65 (by decide) ?_
    refine tp_pc (pc' := 30) (by rfl) ?_
    refine lv_iload_n hx hb d_Ref_goes_30 rfl (lv_at hl 0 rfl) ?_
    refine lv_iconst (v := 4) hx hb d_Ref_goes_31 (by decide) ?_
    refine lv_icmp_ge (tgt := 68) hx hb d_Ref_goes_32 (by decide) (fun c_6 => ?_) (fun c_6 => absurd c_6 (by decide))
    refine tp_pc (pc' := 68) (by rfl) ?_
    have hz1 : ∀ j, j < 4 → (fun i => nI ((updN (updN (updN (updN gy.1 0 0) 1 0) 2 0) 3 0) i)) j = nI ((fun _ => 0) j) := fun j hj => by rcases (by omega : j = 0 ∨ j = 1 ∨ j = 2 ∨ j = 3) with rfl | rfl | rfl | rfl <;> rfl
    have hz2 : ∀ j, j < 8 → (upd (upd (upd (upd (upd (upd (upd (upd gy.2.1 0 0) 1 0) 2 0) 3 0) 4 0) 5 0) 6 0) 7 0) j = 0 := fun j hj => by rcases (by omega : j = 0 ∨ j = 1 ∨ j = 2 ∨ j = 3 ∨ j = 4 ∨ j = 5 ∨ j = 6 ∨ j = 7) with rfl | rfl | rfl | rfl | rfl | rfl | rfl | rfl <;> rfl
    replace hP : va_P (dC, dI) classes [oc ra 8 [.int (nI T), .int (nI Ac), .ref (rA 2), .ref (rA 3), .ref (rA 4), .ref (rA 5), .ref (rA 6), .ref (rA 7), .ref (rA 8), .ref (rA 9), .ref (rA 10), .ref (rA 11), .ref (rA 12), .ref (rA 13), .int ir, .ref (rA 15), .ref (rA 16), .ref (rA 17), .ref (rA 18), .int (nI md), .int (nI wd), .ref (rA 21), .ref (rA 22), .ref (rA 23), .int (nI mn), .ref (rA 25), .int (nI cb), .int mr, .ref (rA 28), .ref (rA 29), .ref (rA 30), .ref (rA 31), .ref (rA 32), .ref (rA 33), .ref (rA 34), .ref (rA 35), .int (nI ld), .int (nI gm), .ref (rA 38), .ref (rA 39), .ref (rA 40), .ref (rA 41), .ref (rA 42), .ref (rA 43), .ref (rA 44), .ref (rA 45), .int (nI my), .ref (rA 47)], ia (rA 33) (rK9 33) 4 (fun i => nI ((fun _ => 0) i)), ia (rA 2) (rK9 2) 4 (fun i => nI (zs i)), ia (rA 3) (rK9 3) 28 (fun i => nI (kd i)), ia (rA 4) (rK9 4) 28 (fun i => nI (vx i)), ia (rA 5) (rK9 5) 28 (fun i => nI (rr i)), ia (rA 6) (rK9 6) 28 vv, ia (rA 34) (rK9 34) 8 (upd (upd (upd (upd (upd (upd (upd (upd gy.2.1 0 0) 1 0) 2 0) 3 0) 4 0) 5 0) 6 0) 7 0), ia (rA 29) (rK9 29) 28 (fun i0 => mN (fm i0)), ia (rA 31) (rK9 31) 28 (fun i => nI ((fun _ => 0) i)), ia (rA 32) (rK9 32) 28 gy.2.2.1, ia (rA 30) (rK9 30) 28 (fun i => nI ((fun _ => 0) i)), ia (rA 35) (rK9 35) 7 (fun i => nI (li i))] H := P_cg (f := fun i => nI ((fun _ => 0) i)) 1 rfl hz1 hP
    replace hP : va_P (dC, dI) classes [oc ra 8 [.int (nI T), .int (nI Ac), .ref (rA 2), .ref (rA 3), .ref (rA 4), .ref (rA 5), .ref (rA 6), .ref (rA 7), .ref (rA 8), .ref (rA 9), .ref (rA 10), .ref (rA 11), .ref (rA 12), .ref (rA 13), .int ir, .ref (rA 15), .ref (rA 16), .ref (rA 17), .ref (rA 18), .int (nI md), .int (nI wd), .ref (rA 21), .ref (rA 22), .ref (rA 23), .int (nI mn), .ref (rA 25), .int (nI cb), .int mr, .ref (rA 28), .ref (rA 29), .ref (rA 30), .ref (rA 31), .ref (rA 32), .ref (rA 33), .ref (rA 34), .ref (rA 35), .int (nI ld), .int (nI gm), .ref (rA 38), .ref (rA 39), .ref (rA 40), .ref (rA 41), .ref (rA 42), .ref (rA 43), .ref (rA 44), .ref (rA 45), .int (nI my), .ref (rA 47)], ia (rA 33) (rK9 33) 4 (fun i => nI ((fun _ => 0) i)), ia (rA 2) (rK9 2) 4 (fun i => nI (zs i)), ia (rA 3) (rK9 3) 28 (fun i => nI (kd i)), ia (rA 4) (rK9 4) 28 (fun i => nI (vx i)), ia (rA 5) (rK9 5) 28 (fun i => nI (rr i)), ia (rA 6) (rK9 6) 28 vv, ia (rA 34) (rK9 34) 8 (fun _ => 0), ia (rA 29) (rK9 29) 28 (fun i0 => mN (fm i0)), ia (rA 31) (rK9 31) 28 (fun i => nI ((fun _ => 0) i)), ia (rA 32) (rK9 32) 28 gy.2.2.1, ia (rA 30) (rK9 30) 28 (fun i => nI ((fun _ => 0) i)), ia (rA 35) (rK9 35) 7 (fun i => nI (li i))] H := P_cg (f := fun _ => 0) 7 rfl hz2 hP
    replace hP : va_P (dC, dI) classes [oc ra 8 [.int (nI T), .int (nI Ac), .ref (rA 2), .ref (rA 3), .ref (rA 4), .ref (rA 5), .ref (rA 6), .ref (rA 7), .ref (rA 8), .ref (rA 9), .ref (rA 10), .ref (rA 11), .ref (rA 12), .ref (rA 13), .int ir, .ref (rA 15), .ref (rA 16), .ref (rA 17), .ref (rA 18), .int (nI md), .int (nI wd), .ref (rA 21), .ref (rA 22), .ref (rA 23), .int (nI mn), .ref (rA 25), .int (nI cb), .int mr, .ref (rA 28), .ref (rA 29), .ref (rA 30), .ref (rA 31), .ref (rA 32), .ref (rA 33), .ref (rA 34), .ref (rA 35), .int (nI ld), .int (nI gm), .ref (rA 38), .ref (rA 39), .ref (rA 40), .ref (rA 41), .ref (rA 42), .ref (rA 43), .ref (rA 44), .ref (rA 45), .int (nI my), .ref (rA 47)], ia (rA 33) (rK9 33) 4 (fun i => nI (((a0S gy.2.2.1).1) i)), ia (rA 2) (rK9 2) 4 (fun i => nI (zs i)), ia (rA 3) (rK9 3) 28 (fun i => nI (kd i)), ia (rA 4) (rK9 4) 28 (fun i => nI (vx i)), ia (rA 5) (rK9 5) 28 (fun i => nI (rr i)), ia (rA 6) (rK9 6) 28 vv, ia (rA 34) (rK9 34) 8 ((a0S gy.2.2.1).2.1), ia (rA 29) (rK9 29) 28 (fun i0 => mN (fm i0)), ia (rA 31) (rK9 31) 28 (fun i => nI (((a0S gy.2.2.1).2.2.2.2) i)), ia (rA 32) (rK9 32) 28 ((a0S gy.2.2.1).2.2.1), ia (rA 30) (rK9 30) 28 (fun i => nI (((a0S gy.2.2.1).2.2.2.1) i)), ia (rA 35) (rK9 35) 7 (fun i => nI (li i))] H := hP
    have hG0 : GA T zs (a0S gy.2.2.1) := GA_0
    have hrm : rmA T zs (a0S gy.2.2.1) < N0 := Nat.lt_of_lt_of_le (rm0_lt hT hzs) hN0
    refine lv_iconst (v := 1) hx hb d_Ref_goes_68 (by decide) ?_
    refine lv_istore_n (lv' := [(1, .int 1), (0, .ref ra)]) hx hb d_Ref_goes_69 rfl hl (by decide) rfl ?_
    clear hl ls
    intro ls hl
    replace hl : lv_has ls 7 [(1, .int (if true = true then 1 else 0)), (0, .ref ra)] := hl
    refine lp_w (fun mu H locs ls => ∃ (fl : Bool) (n : Nat) (g : A9), mu = rmA T zs g + (if fl = true then 1 else 0) ∧ GA T zs g ∧ (fl = true → rmA T zs g < n ∧ gwA K T zs kd vx rr fm vv n g = gz) ∧ (fl = false → g = gz) ∧ va_P (dC, dI) classes [oc ra 8 [.int (nI T), .int (nI Ac), .ref (rA 2), .ref (rA 3), .ref (rA 4), .ref (rA 5), .ref (rA 6), .ref (rA 7), .ref (rA 8), .ref (rA 9), .ref (rA 10), .ref (rA 11), .ref (rA 12), .ref (rA 13), .int ir, .ref (rA 15), .ref (rA 16), .ref (rA 17), .ref (rA 18), .int (nI md), .int (nI wd), .ref (rA 21), .ref (rA 22), .ref (rA 23), .int (nI mn), .ref (rA 25), .int (nI cb), .int mr, .ref (rA 28), .ref (rA 29), .ref (rA 30), .ref (rA 31), .ref (rA 32), .ref (rA 33), .ref (rA 34), .ref (rA 35), .int (nI ld), .int (nI gm), .ref (rA 38), .ref (rA 39), .ref (rA 40), .ref (rA 41), .ref (rA 42), .ref (rA 43), .ref (rA 44), .ref (rA 45), .int (nI my), .ref (rA 47)], ia (rA 33) (rK9 33) 4 (fun i => nI (g.1 i)), ia (rA 2) (rK9 2) 4 (fun i => nI (zs i)), ia (rA 3) (rK9 3) 28 (fun i => nI (kd i)), ia (rA 4) (rK9 4) 28 (fun i => nI (vx i)), ia (rA 5) (rK9 5) 28 (fun i => nI (rr i)), ia (rA 6) (rK9 6) 28 vv, ia (rA 34) (rK9 34) 8 g.2.1, ia (rA 29) (rK9 29) 28 (fun i0 => mN (fm i0)), ia (rA 31) (rK9 31) 28 (fun i => nI (g.2.2.2.2 i)), ia (rA 32) (rK9 32) 28 g.2.2.1, ia (rA 30) (rK9 30) 28 (fun i => nI (g.2.2.2.1 i)), ia (rA 35) (rK9 35) 7 (fun i => nI (li i))] H ∧ va_S A s.heap H locs ∧ lv_has ls 7 [(1, .int (if fl = true then 1 else 0)), (0, .ref ra)]) _ ⟨true, N0, (a0S gy.2.2.1), rfl, hG0, fun _ => ⟨hrm, hgo⟩, fun q => absurd q (by decide), hP, hS, hl⟩ ?_
    clear hP hS hl
    intro mu H locs ls hI ihA
    obtain ⟨fl, n, g, hmu, hG, j1, j2, hP, hS, hl⟩ := hI
    refine lv_iload_n hx hb d_Ref_goes_70 rfl (lv_at hl 0 rfl) ?_
    cases fl with
    | true =>
      rw [if_pos (rfl : true = true)]
      obtain ⟨j3, j4⟩ := j1 rfl
      obtain ⟨n2, rfl⟩ : ∃ n2, n = n2 + 1 := ⟨n - 1, by omega⟩
      skip
      rw [if_pos (rfl : true = true)] at hmu
      refine lv_if_eq (tgt := 123) hx hb d_Ref_goes_71 (by decide) (fun c_7 => absurd c_7 (by decide)) (fun c_7 => ?_)
      refine tp_pc (pc' := 74) (by rfl) ?_
      refine lv_iconst (v := 0) hx hb d_Ref_goes_74 (by decide) ?_
      refine lv_istore_n (lv' := [(1, .int 0), (0, .ref ra)]) hx hb d_Ref_goes_75 rfl hl (by decide) rfl ?_
      clear hl ls
      intro ls hl
      refine lv_iconst (v := 0) hx hb d_Ref_goes_76 (by decide) ?_
      refine lv_istore_n (lv' := [(2, .int 0), (1, .int 0), (0, .ref ra)]) hx hb d_Ref_goes_77 rfl hl (by decide) rfl ?_
      clear hl ls
      intro ls hl
      replace hl : lv_has ls 7 [(2, .int (nI 0)), (1, .int (if false = true then 1 else 0)), (0, .ref ra)] := hl
      refine lp_n T (fun t1 H locs ls => ∃ (b : Bool) (gi : A9), gwT K zs kd vx rr fm vv g t1 = (b, gi) ∧ va_P (dC, dI) classes [oc ra 8 [.int (nI T), .int (nI Ac), .ref (rA 2), .ref (rA 3), .ref (rA 4), .ref (rA 5), .ref (rA 6), .ref (rA 7), .ref (rA 8), .ref (rA 9), .ref (rA 10), .ref (rA 11), .ref (rA 12), .ref (rA 13), .int ir, .ref (rA 15), .ref (rA 16), .ref (rA 17), .ref (rA 18), .int (nI md), .int (nI wd), .ref (rA 21), .ref (rA 22), .ref (rA 23), .int (nI mn), .ref (rA 25), .int (nI cb), .int mr, .ref (rA 28), .ref (rA 29), .ref (rA 30), .ref (rA 31), .ref (rA 32), .ref (rA 33), .ref (rA 34), .ref (rA 35), .int (nI ld), .int (nI gm), .ref (rA 38), .ref (rA 39), .ref (rA 40), .ref (rA 41), .ref (rA 42), .ref (rA 43), .ref (rA 44), .ref (rA 45), .int (nI my), .ref (rA 47)], ia (rA 33) (rK9 33) 4 (fun i => nI (gi.1 i)), ia (rA 2) (rK9 2) 4 (fun i => nI (zs i)), ia (rA 3) (rK9 3) 28 (fun i => nI (kd i)), ia (rA 4) (rK9 4) 28 (fun i => nI (vx i)), ia (rA 5) (rK9 5) 28 (fun i => nI (rr i)), ia (rA 6) (rK9 6) 28 vv, ia (rA 34) (rK9 34) 8 gi.2.1, ia (rA 29) (rK9 29) 28 (fun i0 => mN (fm i0)), ia (rA 31) (rK9 31) 28 (fun i => nI (gi.2.2.2.2 i)), ia (rA 32) (rK9 32) 28 gi.2.2.1, ia (rA 30) (rK9 30) 28 (fun i => nI (gi.2.2.2.1 i)), ia (rA 35) (rK9 35) 7 (fun i => nI (li i))] H ∧ va_S A s.heap H locs ∧ lv_has ls 7 [(2, .int (nI t1)), (1, .int (if b = true then 1 else 0)), (0, .ref ra)]) ⟨false, g, rfl, hP, hS, hl⟩ ?_ ?_
      · clear hP hS hl
        intro t1 H locs ls ht1 hI ihT
        obtain ⟨b, gi, hgi, hP, hS, hl⟩ := hI
        have hGi : GA T zs gi := by have := (gwT_ok (K := K) (kd := kd) (vx := vx) (rr := rr) (fm := fm) (vv := vv) hG t1 (by omega)).1; rw [hgi] at this; exact this
        have hz1x := hzs t1 ht1
        refine lv_iload_n hx hb d_Ref_goes_78 rfl (lv_at hl 0 rfl) ?_
        refine lv_aload_n hx hb d_Ref_goes_79 rfl (lv_at hl 2 rfl) ?_
        refine va_get (D := (dC, dI)) (ci := 8) (v := .int (nI T)) (C := R_Ref) (T := F_Ref) (N := 48) hx hb hw i_Ref hown hK hP 0 rfl rfl 0 (by decide) (hw _ m_899) (fun _ h9 => h9) rfl d_Ref_goes_80 ?_
        refine lv_icmp_ge (tgt := 120) hx hb d_Ref_goes_83 (by decide) (fun c9 => absurd c9 (nI_ge ht1 (by omega))) (fun c9 => ?_)
        refine tp_pc (pc' := 86) (by rfl) ?_
        refine lp_w (fun nu9 H locs ls => ∃ (c : Bool) (m9 : Nat) (gj : A9), nu9 = zs t1 - gj.1 t1 ∧ GA T zs gj ∧ zs t1 - gj.1 t1 < m9 ∧ (c || (gw1 zs kd vx rr fm vv t1 m9 gj).1) = (b || (gw1 zs kd vx rr fm vv t1 K gi).1) ∧ (gw1 zs kd vx rr fm vv t1 m9 gj).2 = (gw1 zs kd vx rr fm vv t1 K gi).2 ∧ va_P (dC, dI) classes [oc ra 8 [.int (nI T), .int (nI Ac), .ref (rA 2), .ref (rA 3), .ref (rA 4), .ref (rA 5), .ref (rA 6), .ref (rA 7), .ref (rA 8), .ref (rA 9), .ref (rA 10), .ref (rA 11), .ref (rA 12), .ref (rA 13), .int ir, .ref (rA 15), .ref (rA 16), .ref (rA 17), .ref (rA 18), .int (nI md), .int (nI wd), .ref (rA 21), .ref (rA 22), .ref (rA 23), .int (nI mn), .ref (rA 25), .int (nI cb), .int mr, .ref (rA 28), .ref (rA 29), .ref (rA 30), .ref (rA 31), .ref (rA 32), .ref (rA 33), .ref (rA 34), .ref (rA 35), .int (nI ld), .int (nI gm), .ref (rA 38), .ref (rA 39), .ref (rA 40), .ref (rA 41), .ref (rA 42), .ref (rA 43), .ref (rA 44), .ref (rA 45), .int (nI my), .ref (rA 47)], ia (rA 33) (rK9 33) 4 (fun i => nI (gj.1 i)), ia (rA 2) (rK9 2) 4 (fun i => nI (zs i)), ia (rA 3) (rK9 3) 28 (fun i => nI (kd i)), ia (rA 4) (rK9 4) 28 (fun i => nI (vx i)), ia (rA 5) (rK9 5) 28 (fun i => nI (rr i)), ia (rA 6) (rK9 6) 28 vv, ia (rA 34) (rK9 34) 8 gj.2.1, ia (rA 29) (rK9 29) 28 (fun i0 => mN (fm i0)), ia (rA 31) (rK9 31) 28 (fun i => nI (gj.2.2.2.2 i)), ia (rA 32) (rK9 32) 28 gj.2.2.1, ia (rA 30) (rK9 30) 28 (fun i => nI (gj.2.2.2.1 i)), ia (rA 35) (rK9 35) 7 (fun i => nI (li i))] H ∧ va_S A s.heap H locs ∧ lv_has ls 7 [(2, .int (nI t1)), (1, .int (if c = true then 1 else 0)), (0, .ref ra)]) _ ⟨b, K, gi, rfl, hGi, by omega, rfl, rfl, hP, hS, hl⟩ ?_
        clear hP hS hl
        intro nu9 H locs ls hI ihW
        obtain ⟨c, m9, gj, hnu, hGj, hm9, hE, hE2, hP, hS, hl⟩ := hI
        subst hnu
        obtain ⟨m8, rfl⟩ : ∃ m8, m9 = m8 + 1 := ⟨m9 - 1, by omega⟩
        have hlt := hGj.1 t1 ht1
        refine lv_aload_n hx hb d_Ref_goes_86 rfl (lv_at hl 2 rfl) ?_
        refine va_get (D := (dC, dI)) (ci := 8) (v := .ref (rA 33)) (C := R_Ref) (T := F_Ref) (N := 48) hx hb hw i_Ref hown hK hP 0 rfl rfl 33 (by decide) (hw _ m_932) (fun _ h9 => h9) rfl d_Ref_goes_87 ?_
        refine lv_iload_n hx hb d_Ref_goes_90 rfl (lv_at hl 0 rfl) ?_
        refine va_iald (D := (dC, dI)) hx hb hK hP 1 0 rfl rfl (i := nI t1) (pk_in t1 4 (by omega)) d_Ref_goes_91 ?_
        refine tp_i (y := nI (gj.1 t1)) (by rw [show (nI t1 : Int32).toNatClampNeg = t1 from pk_cl t1]) ?_
        refine lv_aload_n hx hb d_Ref_goes_92 rfl (lv_at hl 2 rfl) ?_
        refine va_get (D := (dC, dI)) (ci := 8) (v := .ref (rA 2)) (C := R_Ref) (T := F_Ref) (N := 48) hx hb hw i_Ref hown hK hP 0 rfl rfl 2 (by decide) (hw _ m_901) (fun _ h9 => h9) rfl d_Ref_goes_93 ?_
        refine lv_iload_n hx hb d_Ref_goes_96 rfl (lv_at hl 0 rfl) ?_
        refine va_iald (D := (dC, dI)) hx hb hK hP 2 1 rfl rfl (i := nI t1) (pk_in t1 4 (by omega)) d_Ref_goes_97 ?_
        refine tp_i (y := nI (zs t1)) (by rw [show (nI t1 : Int32).toNatClampNeg = t1 from pk_cl t1]) ?_
        refine lv_icmp_ge (tgt := 114) hx hb d_Ref_goes_98 (by decide) (fun c1 => ?_) (fun c1 => ?_)
        · skip
          have hc1 : zs t1 ≤ gj.1 t1 := (nI_leI (a := zs t1) (b := gj.1 t1) (by omega) (by omega)).mp c1
          have hgn : gwT K zs kd vx rr fm vv g (t1 + 1) = (c, gj) := gT_end hgi (gw_end (by omega)) hE hE2
          refine tp_pc (pc' := 114) (by rfl) ?_
          refine lv_iinc (v := nI (t1 + 1)) (lv' := [(2, .int (nI (t1 + 1))), (1, .int (if c = true then 1 else 0)), (0, .ref ra)]) hx hb d_Ref_goes_114 hl (k := 0) rfl (by exact nI_1 t1) (by decide) rfl ?_
          clear hl ls
          intro ls hl
          refine lv_goto (tgt := 78) hx hb d_Ref_goes_117 (by decide) ?_
          refine tp_pc (pc' := 78) (by rfl) ?_
          obtain ⟨hP8, -, -⟩ := cut3 (wc := [oc ra 8 [.int (nI T), .int (nI Ac), .ref (rA 2), .ref (rA 3), .ref (rA 4), .ref (rA 5), .ref (rA 6), .ref (rA 7), .ref (rA 8), .ref (rA 9), .ref (rA 10), .ref (rA 11), .ref (rA 12), .ref (rA 13), .int ir, .ref (rA 15), .ref (rA 16), .ref (rA 17), .ref (rA 18), .int (nI md), .int (nI wd), .ref (rA 21), .ref (rA 22), .ref (rA 23), .int (nI mn), .ref (rA 25), .int (nI cb), .int mr, .ref (rA 28), .ref (rA 29), .ref (rA 30), .ref (rA 31), .ref (rA 32), .ref (rA 33), .ref (rA 34), .ref (rA 35), .int (nI ld), .int (nI gm), .ref (rA 38), .ref (rA 39), .ref (rA 40), .ref (rA 41), .ref (rA 42), .ref (rA 43), .ref (rA 44), .ref (rA 45), .int (nI my), .ref (rA 47)], ia (rA 33) (rK9 33) 4 (fun i => nI (gj.1 i)), ia (rA 2) (rK9 2) 4 (fun i => nI (zs i)), ia (rA 3) (rK9 3) 28 (fun i => nI (kd i)), ia (rA 4) (rK9 4) 28 (fun i => nI (vx i)), ia (rA 5) (rK9 5) 28 (fun i => nI (rr i)), ia (rA 6) (rK9 6) 28 vv, ia (rA 34) (rK9 34) 8 gj.2.1, ia (rA 29) (rK9 29) 28 (fun i0 => mN (fm i0)), ia (rA 31) (rK9 31) 28 (fun i => nI (gj.2.2.2.2 i)), ia (rA 32) (rK9 32) 28 gj.2.2.1, ia (rA 30) (rK9 30) 28 (fun i => nI (gj.2.2.2.1 i)), ia (rA 35) (rK9 35) 7 (fun i => nI (li i))]) hP hD rfl hS hA [0, 1, 2, 3, 4, 5, 6, 7, 8, 9, 10, 11, 12] (by decide +kernel) rfl
          exact ihT _ _ _ ⟨c, gj, hgn, hP8, hS, lv_sub hl [0, 1, 2] rfl⟩
        · skip
          have hc1 : ¬ (zs t1 ≤ gj.1 t1) := fun q9 => c1 ((nI_leI (a := zs t1) (b := gj.1 t1) (by omega) (by omega)).mpr q9)
          refine tp_pc (pc' := 101) (by rfl) ?_
          refine lv_aload_n hx hb d_Ref_goes_101 rfl (lv_at hl 2 rfl) ?_
          refine lv_iload_n hx hb d_Ref_goes_102 rfl (lv_at hl 0 rfl) ?_
          obtain ⟨o9, ho9⟩ : ∃ o9, acF zs kd vx rr fm vv t1 gj = o9 := ⟨_, rfl⟩
          obtain ⟨hPc, hDc, hFc⟩ := cut3 (wc := [oc ra 8 [.int (nI T), .int (nI Ac), .ref (rA 2), .ref (rA 3), .ref (rA 4), .ref (rA 5), .ref (rA 6), .ref (rA 7), .ref (rA 8), .ref (rA 9), .ref (rA 10), .ref (rA 11), .ref (rA 12), .ref (rA 13), .int ir, .ref (rA 15), .ref (rA 16), .ref (rA 17), .ref (rA 18), .int (nI md), .int (nI wd), .ref (rA 21), .ref (rA 22), .ref (rA 23), .int (nI mn), .ref (rA 25), .int (nI cb), .int mr, .ref (rA 28), .ref (rA 29), .ref (rA 30), .ref (rA 31), .ref (rA 32), .ref (rA 33), .ref (rA 34), .ref (rA 35), .int (nI ld), .int (nI gm), .ref (rA 38), .ref (rA 39), .ref (rA 40), .ref (rA 41), .ref (rA 42), .ref (rA 43), .ref (rA 44), .ref (rA 45), .int (nI my), .ref (rA 47)], ia (rA 33) (rK9 33) 4 (fun i => nI (gj.1 i)), ia (rA 2) (rK9 2) 4 (fun i => nI (zs i)), ia (rA 3) (rK9 3) 28 (fun i => nI (kd i)), ia (rA 4) (rK9 4) 28 (fun i => nI (vx i)), ia (rA 5) (rK9 5) 28 (fun i => nI (rr i)), ia (rA 6) (rK9 6) 28 vv, ia (rA 34) (rK9 34) 8 gj.2.1, ia (rA 29) (rK9 29) 28 (fun i0 => mN (fm i0)), ia (rA 31) (rK9 31) 28 (fun i => nI (gj.2.2.2.2 i)), ia (rA 32) (rK9 32) 28 gj.2.2.1, ia (rA 30) (rK9 30) 28 (fun i => nI (gj.2.2.2.1 i))]) hP hD rfl hS hA [0, 1, 2, 3, 4, 5, 6, 7, 8, 9, 10, 11] (by decide +kernel) rfl
          have hKc := hK.sub (tys' := [((rK9 33), .int), ((rK9 2), .int), ((rK9 3), .int), ((rK9 4), .int), ((rK9 5), .int), ((rK9 6), .int), ((rK9 34), .int), ((rK9 29), .int), ((rK9 31), .boolean), ((rK9 32), .int), ((rK9 30), .boolean)]) [0, 1, 2, 3, 4, 5, 6, 7, 8, 9, 10] rfl
          refine va_calli (va_runV (As := [.int (nI t1)]) (rest := []) ⟨hx, hb, hml, hown, hw⟩ (gen_Ref_act l dC dI ra rA rK9 T Ac md wd mn cb ld gm my ir mr t1 zs kd vx rr fm vv gj o9 (by omega) (by omega) hz1x hkd hfm hGj.2.2 ho9 H.size) (cw_V 1 hw g_Ref_act rfl rfl rfl (hw _ m_109) (hw _ m_1205) (hw _ m_1207) (hw _ m_82) (by decide +kernel) ⟨Nat.le_of_ble_eq_true rfl, Nat.le_of_ble_eq_true rfl⟩) ⟨fun a U g mk q => by obtain ⟨q0, q1, qP, qK, qD, qN⟩ := q; exact ⟨q0, q1, qP, va_K.moved (u := U) (U := U.calling g mk a) (Vm.Alike.refl U.vm) qK, qD, nw_call qN⟩, va_recv hKc hPc (ci := 8) (q0 := 0) rfl rfl, fun U hU hW => ⟨rfl, by rw [hU], by rw [hU]; exact hPc, va_K.moved hW.alike hKc, hDc.weaken (fun _ _ _ _ => trivial), nw_warm hW hn⟩⟩ rfl rfl hl.1 rfl (lv_room (Nat.le_of_ble_eq_true rfl)) d_Ref_goes_103 ⟨Nat.le_of_ble_eq_true rfl, Nat.le_of_ble_eq_true rfl⟩) hS (fun q _ h => hFc q h) hFc ?_
          intro r_8 u t9 H1 locs1 ht9 hvm hw1 hB hz1 hk1 hS1
          obtain ⟨hP1, hK1, hD1⟩ := hB
          rw [ht9] at hP1
          replace hK1 := va_K.moved hvm.symm hK1
          have hPD := join3 hP hD rfl [0, 1, 2, 3, 4, 5, 6, 7, 8, 9, 10, 11] [12] rfl (by rfl) (by decide +kernel) (by decide +kernel) hk1 hFc hP1 hD1
          replace hK : va_K (dC, dI) classes [((rK9 33), .int), ((rK9 2), .int), ((rK9 3), .int), ((rK9 4), .int), ((rK9 5), .int), ((rK9 6), .int), ((rK9 34), .int), ((rK9 29), .int), ((rK9 31), .boolean), ((rK9 32), .int), ((rK9 30), .boolean), ((rK9 35), .int)] s := hK.app hK1
          clear hP1 hK1 hD1 hk1 hz1 hFc hKc hDc hPc hvm ht9 hP hS t9 locs H
          have hP : va_P (dC, dI) classes [ia (rA 35) (rK9 35) 7 (fun i => nI (li i)), oc ra 8 [.int (nI T), .int (nI Ac), .ref (rA 2), .ref (rA 3), .ref (rA 4), .ref (rA 5), .ref (rA 6), .ref (rA 7), .ref (rA 8), .ref (rA 9), .ref (rA 10), .ref (rA 11), .ref (rA 12), .ref (rA 13), .int ir, .ref (rA 15), .ref (rA 16), .ref (rA 17), .ref (rA 18), .int (nI md), .int (nI wd), .ref (rA 21), .ref (rA 22), .ref (rA 23), .int (nI mn), .ref (rA 25), .int (nI cb), .int mr, .ref (rA 28), .ref (rA 29), .ref (rA 30), .ref (rA 31), .ref (rA 32), .ref (rA 33), .ref (rA 34), .ref (rA 35), .int (nI ld), .int (nI gm), .ref (rA 38), .ref (rA 39), .ref (rA 40), .ref (rA 41), .ref (rA 42), .ref (rA 43), .ref (rA 44), .ref (rA 45), .int (nI my), .ref (rA 47)], ia (rA 33) (rK9 33) 4 (fun i => nI (((o9.getD gj).1) i)), ia (rA 2) (rK9 2) 4 (fun i => nI (zs i)), ia (rA 3) (rK9 3) 28 (fun i => nI (kd i)), ia (rA 4) (rK9 4) 28 (fun i => nI (vx i)), ia (rA 5) (rK9 5) 28 (fun i => nI (rr i)), ia (rA 6) (rK9 6) 28 vv, ia (rA 34) (rK9 34) 8 ((o9.getD gj).2.1), ia (rA 29) (rK9 29) 28 (fun i0 => mN (fm i0)), ia (rA 31) (rK9 31) 28 (fun i => nI (((o9.getD gj).2.2.2.2) i)), ia (rA 32) (rK9 32) 28 ((o9.getD gj).2.2.1), ia (rA 30) (rK9 30) 28 (fun i => nI (((o9.getD gj).2.2.2.1) i))] H1 := hPD.1
          replace hD : dd A [(rA 35), ra, (rA 33), (rA 2), (rA 3), (rA 4), (rA 5), (rA 6), (rA 34), (rA 29), (rA 31), (rA 32), (rA 30)] := dd_of hPD.2 rfl
          clear hPD
          revert H1 locs1
          intro H locs hS hP
          refine tp_i (y := (if o9.isSome = true then 1 else 0)) (hw1) ?_
          clear hw1 r_8 u
          cases o9 with
          | none =>
            rw [if_neg (by decide : ¬ ((none : Option A9).isSome = true))]
            obtain ⟨hP8, hD8, -⟩ := cut3 (wc := [oc ra 8 [.int (nI T), .int (nI Ac), .ref (rA 2), .ref (rA 3), .ref (rA 4), .ref (rA 5), .ref (rA 6), .ref (rA 7), .ref (rA 8), .ref (rA 9), .ref (rA 10), .ref (rA 11), .ref (rA 12), .ref (rA 13), .int ir, .ref (rA 15), .ref (rA 16), .ref (rA 17), .ref (rA 18), .int (nI md), .int (nI wd), .ref (rA 21), .ref (rA 22), .ref (rA 23), .int (nI mn), .ref (rA 25), .int (nI cb), .int mr, .ref (rA 28), .ref (rA 29), .ref (rA 30), .ref (rA 31), .ref (rA 32), .ref (rA 33), .ref (rA 34), .ref (rA 35), .int (nI ld), .int (nI gm), .ref (rA 38), .ref (rA 39), .ref (rA 40), .ref (rA 41), .ref (rA 42), .ref (rA 43), .ref (rA 44), .ref (rA 45), .int (nI my), .ref (rA 47)], ia (rA 33) (rK9 33) 4 (fun i => nI ((((none : Option A9).getD gj).1) i)), ia (rA 2) (rK9 2) 4 (fun i => nI (zs i)), ia (rA 3) (rK9 3) 28 (fun i => nI (kd i)), ia (rA 4) (rK9 4) 28 (fun i => nI (vx i)), ia (rA 5) (rK9 5) 28 (fun i => nI (rr i)), ia (rA 6) (rK9 6) 28 vv, ia (rA 34) (rK9 34) 8 (((none : Option A9).getD gj).2.1), ia (rA 29) (rK9 29) 28 (fun i0 => mN (fm i0)), ia (rA 31) (rK9 31) 28 (fun i => nI ((((none : Option A9).getD gj).2.2.2.2) i)), ia (rA 32) (rK9 32) 28 (((none : Option A9).getD gj).2.2.1), ia (rA 30) (rK9 30) 28 (fun i => nI ((((none : Option A9).getD gj).2.2.2.1) i)), ia (rA 35) (rK9 35) 7 (fun i => nI (li i))]) hP hD rfl hS hA [1, 2, 3, 4, 5, 6, 7, 8, 9, 10, 11, 12, 0] (by decide +kernel) rfl
            clear hP
            have hP : va_P (dC, dI) classes [oc ra 8 [.int (nI T), .int (nI Ac), .ref (rA 2), .ref (rA 3), .ref (rA 4), .ref (rA 5), .ref (rA 6), .ref (rA 7), .ref (rA 8), .ref (rA 9), .ref (rA 10), .ref (rA 11), .ref (rA 12), .ref (rA 13), .int ir, .ref (rA 15), .ref (rA 16), .ref (rA 17), .ref (rA 18), .int (nI md), .int (nI wd), .ref (rA 21), .ref (rA 22), .ref (rA 23), .int (nI mn), .ref (rA 25), .int (nI cb), .int mr, .ref (rA 28), .ref (rA 29), .ref (rA 30), .ref (rA 31), .ref (rA 32), .ref (rA 33), .ref (rA 34), .ref (rA 35), .int (nI ld), .int (nI gm), .ref (rA 38), .ref (rA 39), .ref (rA 40), .ref (rA 41), .ref (rA 42), .ref (rA 43), .ref (rA 44), .ref (rA 45), .int (nI my), .ref (rA 47)], ia (rA 33) (rK9 33) 4 (fun i => nI ((((none : Option A9).getD gj).1) i)), ia (rA 2) (rK9 2) 4 (fun i => nI (zs i)), ia (rA 3) (rK9 3) 28 (fun i => nI (kd i)), ia (rA 4) (rK9 4) 28 (fun i => nI (vx i)), ia (rA 5) (rK9 5) 28 (fun i => nI (rr i)), ia (rA 6) (rK9 6) 28 vv, ia (rA 34) (rK9 34) 8 (((none : Option A9).getD gj).2.1), ia (rA 29) (rK9 29) 28 (fun i0 => mN (fm i0)), ia (rA 31) (rK9 31) 28 (fun i => nI ((((none : Option A9).getD gj).2.2.2.2) i)), ia (rA 32) (rK9 32) 28 (((none : Option A9).getD gj).2.2.1), ia (rA 30) (rK9 30) 28 (fun i => nI ((((none : Option A9).getD gj).2.2.2.1) i)), ia (rA 35) (rK9 35) 7 (fun i => nI (li i))] H := hP8
            clear hP8
            replace hD : dd A [ra, (rA 33), (rA 2), (rA 3), (rA 4), (rA 5), (rA 6), (rA 34), (rA 29), (rA 31), (rA 32), (rA 30), (rA 35)] := dd_of hD8 rfl
            clear hD8
            replace hP : va_P (dC, dI) classes [oc ra 8 [.int (nI T), .int (nI Ac), .ref (rA 2), .ref (rA 3), .ref (rA 4), .ref (rA 5), .ref (rA 6), .ref (rA 7), .ref (rA 8), .ref (rA 9), .ref (rA 10), .ref (rA 11), .ref (rA 12), .ref (rA 13), .int ir, .ref (rA 15), .ref (rA 16), .ref (rA 17), .ref (rA 18), .int (nI md), .int (nI wd), .ref (rA 21), .ref (rA 22), .ref (rA 23), .int (nI mn), .ref (rA 25), .int (nI cb), .int mr, .ref (rA 28), .ref (rA 29), .ref (rA 30), .ref (rA 31), .ref (rA 32), .ref (rA 33), .ref (rA 34), .ref (rA 35), .int (nI ld), .int (nI gm), .ref (rA 38), .ref (rA 39), .ref (rA 40), .ref (rA 41), .ref (rA 42), .ref (rA 43), .ref (rA 44), .ref (rA 45), .int (nI my), .ref (rA 47)], ia (rA 33) (rK9 33) 4 (fun i => nI (gj.1 i)), ia (rA 2) (rK9 2) 4 (fun i => nI (zs i)), ia (rA 3) (rK9 3) 28 (fun i => nI (kd i)), ia (rA 4) (rK9 4) 28 (fun i => nI (vx i)), ia (rA 5) (rK9 5) 28 (fun i => nI (rr i)), ia (rA 6) (rK9 6) 28 vv, ia (rA 34) (rK9 34) 8 gj.2.1, ia (rA 29) (rK9 29) 28 (fun i0 => mN (fm i0)), ia (rA 31) (rK9 31) 28 (fun i => nI (gj.2.2.2.2 i)), ia (rA 32) (rK9 32) 28 gj.2.2.1, ia (rA 30) (rK9 30) 28 (fun i => nI (gj.2.2.2.1 i)), ia (rA 35) (rK9 35) 7 (fun i => nI (li i))] H := hP
            have hgn : gwT K zs kd vx rr fm vv g (t1 + 1) = (c, gj) := gT_end hgi (gw_no (by omega) ho9) hE hE2
            refine tp_pc (pc' := 106) (by rfl) ?_
            refine lv_if_eq (tgt := 114) hx hb d_Ref_goes_106 (by decide) (fun c_9 => ?_) (fun c_9 => absurd c_9 (by decide))
            refine tp_pc (pc' := 114) (by rfl) ?_
            refine lv_iinc (v := nI (t1 + 1)) (lv' := [(2, .int (nI (t1 + 1))), (1, .int (if c = true then 1 else 0)), (0, .ref ra)]) hx hb d_Ref_goes_114 hl (k := 0) rfl (by exact nI_1 t1) (by decide) rfl ?_
            clear hl ls
            intro ls hl
            refine lv_goto (tgt := 78) hx hb d_Ref_goes_117 (by decide) ?_
            refine tp_pc (pc' := 78) (by rfl) ?_
            obtain ⟨hP8, -, -⟩ := cut3 (wc := [oc ra 8 [.int (nI T), .int (nI Ac), .ref (rA 2), .ref (rA 3), .ref (rA 4), .ref (rA 5), .ref (rA 6), .ref (rA 7), .ref (rA 8), .ref (rA 9), .ref (rA 10), .ref (rA 11), .ref (rA 12), .ref (rA 13), .int ir, .ref (rA 15), .ref (rA 16), .ref (rA 17), .ref (rA 18), .int (nI md), .int (nI wd), .ref (rA 21), .ref (rA 22), .ref (rA 23), .int (nI mn), .ref (rA 25), .int (nI cb), .int mr, .ref (rA 28), .ref (rA 29), .ref (rA 30), .ref (rA 31), .ref (rA 32), .ref (rA 33), .ref (rA 34), .ref (rA 35), .int (nI ld), .int (nI gm), .ref (rA 38), .ref (rA 39), .ref (rA 40), .ref (rA 41), .ref (rA 42), .ref (rA 43), .ref (rA 44), .ref (rA 45), .int (nI my), .ref (rA 47)], ia (rA 33) (rK9 33) 4 (fun i => nI (gj.1 i)), ia (rA 2) (rK9 2) 4 (fun i => nI (zs i)), ia (rA 3) (rK9 3) 28 (fun i => nI (kd i)), ia (rA 4) (rK9 4) 28 (fun i => nI (vx i)), ia (rA 5) (rK9 5) 28 (fun i => nI (rr i)), ia (rA 6) (rK9 6) 28 vv, ia (rA 34) (rK9 34) 8 gj.2.1, ia (rA 29) (rK9 29) 28 (fun i0 => mN (fm i0)), ia (rA 31) (rK9 31) 28 (fun i => nI (gj.2.2.2.2 i)), ia (rA 32) (rK9 32) 28 gj.2.2.1, ia (rA 30) (rK9 30) 28 (fun i => nI (gj.2.2.2.1 i)), ia (rA 35) (rK9 35) 7 (fun i => nI (li i))]) hP hD rfl hS hA [0, 1, 2, 3, 4, 5, 6, 7, 8, 9, 10, 11, 12] (by decide +kernel) rfl
            exact ihT _ _ _ ⟨c, gj, hgn, hP8, hS, lv_sub hl [0, 1, 2] rfl⟩
          | some g2 =>
            rw [if_pos (show (some g2).isSome = true from rfl)]
            obtain ⟨hP8, hD8, -⟩ := cut3 (wc := [oc ra 8 [.int (nI T), .int (nI Ac), .ref (rA 2), .ref (rA 3), .ref (rA 4), .ref (rA 5), .ref (rA 6), .ref (rA 7), .ref (rA 8), .ref (rA 9), .ref (rA 10), .ref (rA 11), .ref (rA 12), .ref (rA 13), .int ir, .ref (rA 15), .ref (rA 16), .ref (rA 17), .ref (rA 18), .int (nI md), .int (nI wd), .ref (rA 21), .ref (rA 22), .ref (rA 23), .int (nI mn), .ref (rA 25), .int (nI cb), .int mr, .ref (rA 28), .ref (rA 29), .ref (rA 30), .ref (rA 31), .ref (rA 32), .ref (rA 33), .ref (rA 34), .ref (rA 35), .int (nI ld), .int (nI gm), .ref (rA 38), .ref (rA 39), .ref (rA 40), .ref (rA 41), .ref (rA 42), .ref (rA 43), .ref (rA 44), .ref (rA 45), .int (nI my), .ref (rA 47)], ia (rA 33) (rK9 33) 4 (fun i => nI ((((some g2).getD gj).1) i)), ia (rA 2) (rK9 2) 4 (fun i => nI (zs i)), ia (rA 3) (rK9 3) 28 (fun i => nI (kd i)), ia (rA 4) (rK9 4) 28 (fun i => nI (vx i)), ia (rA 5) (rK9 5) 28 (fun i => nI (rr i)), ia (rA 6) (rK9 6) 28 vv, ia (rA 34) (rK9 34) 8 (((some g2).getD gj).2.1), ia (rA 29) (rK9 29) 28 (fun i0 => mN (fm i0)), ia (rA 31) (rK9 31) 28 (fun i => nI ((((some g2).getD gj).2.2.2.2) i)), ia (rA 32) (rK9 32) 28 (((some g2).getD gj).2.2.1), ia (rA 30) (rK9 30) 28 (fun i => nI ((((some g2).getD gj).2.2.2.1) i)), ia (rA 35) (rK9 35) 7 (fun i => nI (li i))]) hP hD rfl hS hA [1, 2, 3, 4, 5, 6, 7, 8, 9, 10, 11, 12, 0] (by decide +kernel) rfl
            clear hP
            have hP : va_P (dC, dI) classes [oc ra 8 [.int (nI T), .int (nI Ac), .ref (rA 2), .ref (rA 3), .ref (rA 4), .ref (rA 5), .ref (rA 6), .ref (rA 7), .ref (rA 8), .ref (rA 9), .ref (rA 10), .ref (rA 11), .ref (rA 12), .ref (rA 13), .int ir, .ref (rA 15), .ref (rA 16), .ref (rA 17), .ref (rA 18), .int (nI md), .int (nI wd), .ref (rA 21), .ref (rA 22), .ref (rA 23), .int (nI mn), .ref (rA 25), .int (nI cb), .int mr, .ref (rA 28), .ref (rA 29), .ref (rA 30), .ref (rA 31), .ref (rA 32), .ref (rA 33), .ref (rA 34), .ref (rA 35), .int (nI ld), .int (nI gm), .ref (rA 38), .ref (rA 39), .ref (rA 40), .ref (rA 41), .ref (rA 42), .ref (rA 43), .ref (rA 44), .ref (rA 45), .int (nI my), .ref (rA 47)], ia (rA 33) (rK9 33) 4 (fun i => nI ((((some g2).getD gj).1) i)), ia (rA 2) (rK9 2) 4 (fun i => nI (zs i)), ia (rA 3) (rK9 3) 28 (fun i => nI (kd i)), ia (rA 4) (rK9 4) 28 (fun i => nI (vx i)), ia (rA 5) (rK9 5) 28 (fun i => nI (rr i)), ia (rA 6) (rK9 6) 28 vv, ia (rA 34) (rK9 34) 8 (((some g2).getD gj).2.1), ia (rA 29) (rK9 29) 28 (fun i0 => mN (fm i0)), ia (rA 31) (rK9 31) 28 (fun i => nI ((((some g2).getD gj).2.2.2.2) i)), ia (rA 32) (rK9 32) 28 (((some g2).getD gj).2.2.1), ia (rA 30) (rK9 30) 28 (fun i => nI ((((some g2).getD gj).2.2.2.1) i)), ia (rA 35) (rK9 35) 7 (fun i => nI (li i))] H := hP8
            clear hP8
            replace hD : dd A [ra, (rA 33), (rA 2), (rA 3), (rA 4), (rA 5), (rA 6), (rA 34), (rA 29), (rA 31), (rA 32), (rA 30), (rA 35)] := dd_of hD8 rfl
            clear hD8
            replace hP : va_P (dC, dI) classes [oc ra 8 [.int (nI T), .int (nI Ac), .ref (rA 2), .ref (rA 3), .ref (rA 4), .ref (rA 5), .ref (rA 6), .ref (rA 7), .ref (rA 8), .ref (rA 9), .ref (rA 10), .ref (rA 11), .ref (rA 12), .ref (rA 13), .int ir, .ref (rA 15), .ref (rA 16), .ref (rA 17), .ref (rA 18), .int (nI md), .int (nI wd), .ref (rA 21), .ref (rA 22), .ref (rA 23), .int (nI mn), .ref (rA 25), .int (nI cb), .int mr, .ref (rA 28), .ref (rA 29), .ref (rA 30), .ref (rA 31), .ref (rA 32), .ref (rA 33), .ref (rA 34), .ref (rA 35), .int (nI ld), .int (nI gm), .ref (rA 38), .ref (rA 39), .ref (rA 40), .ref (rA 41), .ref (rA 42), .ref (rA 43), .ref (rA 44), .ref (rA 45), .int (nI my), .ref (rA 47)], ia (rA 33) (rK9 33) 4 (fun i => nI (g2.1 i)), ia (rA 2) (rK9 2) 4 (fun i => nI (zs i)), ia (rA 3) (rK9 3) 28 (fun i => nI (kd i)), ia (rA 4) (rK9 4) 28 (fun i => nI (vx i)), ia (rA 5) (rK9 5) 28 (fun i => nI (rr i)), ia (rA 6) (rK9 6) 28 vv, ia (rA 34) (rK9 34) 8 g2.2.1, ia (rA 29) (rK9 29) 28 (fun i0 => mN (fm i0)), ia (rA 31) (rK9 31) 28 (fun i => nI (g2.2.2.2.2 i)), ia (rA 32) (rK9 32) 28 g2.2.2.1, ia (rA 30) (rK9 30) 28 (fun i => nI (g2.2.2.2.1 i)), ia (rA 35) (rK9 35) 7 (fun i => nI (li i))] H := hP
            obtain ⟨b1x, b2x, b3x⟩ := acF_ok hGj ht1 (by omega) ho9
            obtain ⟨hF1, hF2⟩ := gT_go (show gj.1 t1 < zs t1 by omega) ho9 hE hE2
            refine tp_pc (pc' := 106) (by rfl) ?_
            refine lv_if_eq (tgt := 114) hx hb d_Ref_goes_106 (by decide) (fun c_10 => absurd c_10 (by decide)) (fun c_10 => ?_)
            refine tp_pc (pc' := 109) (by rfl) ?_
            refine lv_iconst (v := 1) hx hb d_Ref_goes_109 (by decide) ?_
            refine lv_istore_n (lv' := [(1, .int 1), (2, .int (nI t1)), (0, .ref ra)]) hx hb d_Ref_goes_110 rfl hl (by decide) rfl ?_
            clear hl ls
            intro ls hl
            refine lv_goto (tgt := 86) hx hb d_Ref_goes_111 (by decide) ?_
            refine tp_pc (pc' := 86) (by rfl) ?_
            exact ihW _ b3x _ _ _ ⟨true, m8, g2, rfl, b1x, by omega, hF1, hF2, hP, hS, lv_sub hl [1, 0, 2] rfl⟩
      · clear hP hS hl
        intro H locs ls hI
        obtain ⟨b, gi, hgi, hP, hS, hl⟩ := hI
        obtain ⟨b1x, b2x, b3x⟩ := gwT_ok (K := K) (kd := kd) (vx := vx) (rr := rr) (fm := fm) (vv := vv) hG T (Nat.le_refl T)
        rw [hgi] at b1x b2x b3x
        obtain ⟨jA, jB⟩ := gA_s hgi j4
        replace b1x : GA T zs gi := b1x
        replace b2x : rmA T zs gi ≤ rmA T zs g := b2x
        replace b3x : b = true → rmA T zs gi < rmA T zs g := b3x
        refine lv_iload_n hx hb d_Ref_goes_78 rfl (lv_at hl 0 rfl) ?_
        refine lv_aload_n hx hb d_Ref_goes_79 rfl (lv_at hl 2 rfl) ?_
        refine va_get (D := (dC, dI)) (ci := 8) (v := .int (nI T)) (C := R_Ref) (T := F_Ref) (N := 48) hx hb hw i_Ref hown hK hP 0 rfl rfl 0 (by decide) (hw _ m_899) (fun _ h9 => h9) rfl d_Ref_goes_80 ?_
        refine lv_icmp_ge (tgt := 120) hx hb d_Ref_goes_83 (by decide) (fun c9 => ?_) (fun c9 => absurd (nI_le (Nat.le_refl _) (by omega)) c9)
        refine tp_pc (pc' := 120) (by rfl) ?_
        refine lv_goto (tgt := 70) hx hb d_Ref_goes_120 (by decide) ?_
        refine tp_pc (pc' := 70) (by rfl) ?_
        refine ihA (rmA T zs gi + (if b = true then 1 else 0)) ?_ _ _ _ ⟨b, n2, gi, rfl, b1x, fun hb => ⟨by have := b3x hb; omega, jA hb⟩, jB, hP, hS, lv_sub hl [1, 2] rfl⟩
        cases b with
        | true => rw [if_pos rfl]; have := b3x rfl; omega
        | false => rw [if_neg (by decide)]; omega
    | false =>
      rw [if_neg (by decide : ¬ (false = true))]
      have e0x := j2 rfl
      subst e0x
      clear j1 j2 ihA hmu
      refine lv_if_eq (tgt := 123) hx hb d_Ref_goes_71 (by decide) (fun c_11 => ?_) (fun c_11 => absurd c_11 (by decide))
      refine tp_pc (pc' := 123) (by rfl) ?_
      refine lv_iconst (v := 0) hx hb d_Ref_goes_123 (by decide) ?_
      refine lv_istore_n (lv' := [(2, .int 0), (1, .int (if false = true then 1 else 0)), (0, .ref ra)]) hx hb d_Ref_goes_124 rfl hl (by decide) rfl ?_
      clear hl ls
      intro ls hl
      replace hP : va_P (dC, dI) classes [oc ra 8 [.int (nI T), .int (nI Ac), .ref (rA 2), .ref (rA 3), .ref (rA 4), .ref (rA 5), .ref (rA 6), .ref (rA 7), .ref (rA 8), .ref (rA 9), .ref (rA 10), .ref (rA 11), .ref (rA 12), .ref (rA 13), .int ir, .ref (rA 15), .ref (rA 16), .ref (rA 17), .ref (rA 18), .int (nI md), .int (nI wd), .ref (rA 21), .ref (rA 22), .ref (rA 23), .int (nI mn), .ref (rA 25), .int (nI cb), .int mr, .ref (rA 28), .ref (rA 29), .ref (rA 30), .ref (rA 31), .ref (rA 32), .ref (rA 33), .ref (rA 34), .ref (rA 35), .int (nI ld), .int (nI gm), .ref (rA 38), .ref (rA 39), .ref (rA 40), .ref (rA 41), .ref (rA 42), .ref (rA 43), .ref (rA 44), .ref (rA 45), .int (nI my), .ref (rA 47)], ia (rA 33) (rK9 33) 4 (fun i => nI (g.1 i)), ia (rA 2) (rK9 2) 4 (fun i => nI (zs i)), ia (rA 3) (rK9 3) 28 (fun i => nI (kd i)), ia (rA 4) (rK9 4) 28 (fun i => nI (vx i)), ia (rA 5) (rK9 5) 28 (fun i => nI (rr i)), ia (rA 6) (rK9 6) 28 vv, ia (rA 34) (rK9 34) 8 g.2.1, ia (rA 29) (rK9 29) 28 (fun i0 => mN (fm i0)), ia (rA 31) (rK9 31) 28 (fun i => nI (g.2.2.2.2 i)), ia (rA 32) (rK9 32) 28 g.2.2.1, ia (rA 30) (rK9 30) 28 (fun i => nI (g.2.2.2.1 i)), ia (rA 35) (rK9 35) 7 (fun i => nI (li i))] H := hP
      replace hl : lv_has ls 7 [(2, .int (nI 0)), (1, .int (if false = true then 1 else 0)), (0, .ref ra)] := hl
      refine lp_n T (fun t1 H locs ls => fF (fun t => decide (g.1 t < zs t)) (T - t1) t1 = enT zs g.1 T ∧ va_P (dC, dI) classes [oc ra 8 [.int (nI T), .int (nI Ac), .ref (rA 2), .ref (rA 3), .ref (rA 4), .ref (rA 5), .ref (rA 6), .ref (rA 7), .ref (rA 8), .ref (rA 9), .ref (rA 10), .ref (rA 11), .ref (rA 12), .ref (rA 13), .int ir, .ref (rA 15), .ref (rA 16), .ref (rA 17), .ref (rA 18), .int (nI md), .int (nI wd), .ref (rA 21), .ref (rA 22), .ref (rA 23), .int (nI mn), .ref (rA 25), .int (nI cb), .int mr, .ref (rA 28), .ref (rA 29), .ref (rA 30), .ref (rA 31), .ref (rA 32), .ref (rA 33), .ref (rA 34), .ref (rA 35), .int (nI ld), .int (nI gm), .ref (rA 38), .ref (rA 39), .ref (rA 40), .ref (rA 41), .ref (rA 42), .ref (rA 43), .ref (rA 44), .ref (rA 45), .int (nI my), .ref (rA 47)], ia (rA 33) (rK9 33) 4 (fun i => nI (g.1 i)), ia (rA 2) (rK9 2) 4 (fun i => nI (zs i)), ia (rA 3) (rK9 3) 28 (fun i => nI (kd i)), ia (rA 4) (rK9 4) 28 (fun i => nI (vx i)), ia (rA 5) (rK9 5) 28 (fun i => nI (rr i)), ia (rA 6) (rK9 6) 28 vv, ia (rA 34) (rK9 34) 8 g.2.1, ia (rA 29) (rK9 29) 28 (fun i0 => mN (fm i0)), ia (rA 31) (rK9 31) 28 (fun i => nI (g.2.2.2.2 i)), ia (rA 32) (rK9 32) 28 g.2.2.1, ia (rA 30) (rK9 30) 28 (fun i => nI (g.2.2.2.1 i)), ia (rA 35) (rK9 35) 7 (fun i => nI (li i))] H ∧ va_S A s.heap H locs ∧ lv_has ls 7 [(2, .int (nI t1)), (1, .int (if false = true then 1 else 0)), (0, .ref ra)]) ⟨rfl, hP, hS, hl⟩ ?_ ?_
      · intro t1 H locs ls ht1 hI ih_t1
        obtain ⟨hinv, hP, hS, hl⟩ := hI
        refine lv_iload_n hx hb d_Ref_goes_125 rfl (lv_at hl 0 rfl) ?_
        refine lv_aload_n hx hb d_Ref_goes_126 rfl (lv_at hl 2 rfl) ?_
        refine va_get (D := (dC, dI)) (ci := 8) (v := .int (nI T)) (C := R_Ref) (T := F_Ref) (N := 48) hx hb hw i_Ref hown hK hP 0 rfl rfl 0 (by decide) (hw _ m_899) (fun _ h9 => h9) rfl d_Ref_goes_127 ?_
        refine lv_icmp_ge (tgt := 156) hx hb d_Ref_goes_130 (by decide) (fun c9 => absurd c9 (nI_ge ht1 (by omega))) (fun c9 => ?_)
        rw [show T - t1 = (T - (t1 + 1)) + 1 from by omega, fF] at hinv
        have hz1x := hzs t1 ht1
        have hlt := hG.1 t1 ht1
        refine tp_pc (pc' := 133) (by rfl) ?_
        refine lv_aload_n hx hb d_Ref_goes_133 rfl (lv_at hl 2 rfl) ?_
        refine va_get (D := (dC, dI)) (ci := 8) (v := .ref (rA 33)) (C := R_Ref) (T := F_Ref) (N := 48) hx hb hw i_Ref hown hK hP 0 rfl rfl 33 (by decide) (hw _ m_932) (fun _ h9 => h9) rfl d_Ref_goes_134 ?_
        refine lv_iload_n hx hb d_Ref_goes_137 rfl (lv_at hl 0 rfl) ?_
        refine va_iald (D := (dC, dI)) hx hb hK hP 1 0 rfl rfl (i := nI t1) (pk_in t1 4 (by omega)) d_Ref_goes_138 ?_
        refine tp_i (y := nI (g.1 t1)) (by rw [show (nI t1 : Int32).toNatClampNeg = t1 from pk_cl t1]) ?_
        refine lv_aload_n hx hb d_Ref_goes_139 rfl (lv_at hl 2 rfl) ?_
        refine va_get (D := (dC, dI)) (ci := 8) (v := .ref (rA 2)) (C := R_Ref) (T := F_Ref) (N := 48) hx hb hw i_Ref hown hK hP 0 rfl rfl 2 (by decide) (hw _ m_901) (fun _ h9 => h9) rfl d_Ref_goes_140 ?_
        refine lv_iload_n hx hb d_Ref_goes_143 rfl (lv_at hl 0 rfl) ?_
        refine va_iald (D := (dC, dI)) hx hb hK hP 2 1 rfl rfl (i := nI t1) (pk_in t1 4 (by omega)) d_Ref_goes_144 ?_
        refine tp_i (y := nI (zs t1)) (by rw [show (nI t1 : Int32).toNatClampNeg = t1 from pk_cl t1]) ?_
        refine lv_icmp_ge (tgt := 150) hx hb d_Ref_goes_145 (by decide) (fun c1 => ?_) (fun c1 => ?_)
        · skip
          have hc1 : zs t1 ≤ g.1 t1 := (nI_leI (a := zs t1) (b := g.1 t1) (by omega) (by omega)).mp c1
          rw [if_neg (by rw [decide_eq_false (by omega)]; decide)] at hinv
          refine tp_pc (pc' := 150) (by rfl) ?_
          refine lv_iinc (v := nI (t1 + 1)) (lv' := [(2, .int (nI (t1 + 1))), (1, .int (if false = true then 1 else 0)), (0, .ref ra)]) hx hb d_Ref_goes_150 hl (k := 0) rfl (by exact nI_1 t1) (by decide) rfl ?_
          clear hl ls
          intro ls hl
          refine lv_goto (tgt := 125) hx hb d_Ref_goes_153 (by decide) ?_
          refine tp_pc (pc' := 125) (by rfl) ?_
          obtain ⟨hP8, -, -⟩ := cut3 (wc := [oc ra 8 [.int (nI T), .int (nI Ac), .ref (rA 2), .ref (rA 3), .ref (rA 4), .ref (rA 5), .ref (rA 6), .ref (rA 7), .ref (rA 8), .ref (rA 9), .ref (rA 10), .ref (rA 11), .ref (rA 12), .ref (rA 13), .int ir, .ref (rA 15), .ref (rA 16), .ref (rA 17), .ref (rA 18), .int (nI md), .int (nI wd), .ref (rA 21), .ref (rA 22), .ref (rA 23), .int (nI mn), .ref (rA 25), .int (nI cb), .int mr, .ref (rA 28), .ref (rA 29), .ref (rA 30), .ref (rA 31), .ref (rA 32), .ref (rA 33), .ref (rA 34), .ref (rA 35), .int (nI ld), .int (nI gm), .ref (rA 38), .ref (rA 39), .ref (rA 40), .ref (rA 41), .ref (rA 42), .ref (rA 43), .ref (rA 44), .ref (rA 45), .int (nI my), .ref (rA 47)], ia (rA 33) (rK9 33) 4 (fun i => nI (g.1 i)), ia (rA 2) (rK9 2) 4 (fun i => nI (zs i)), ia (rA 3) (rK9 3) 28 (fun i => nI (kd i)), ia (rA 4) (rK9 4) 28 (fun i => nI (vx i)), ia (rA 5) (rK9 5) 28 (fun i => nI (rr i)), ia (rA 6) (rK9 6) 28 vv, ia (rA 34) (rK9 34) 8 g.2.1, ia (rA 29) (rK9 29) 28 (fun i0 => mN (fm i0)), ia (rA 31) (rK9 31) 28 (fun i => nI (g.2.2.2.2 i)), ia (rA 32) (rK9 32) 28 g.2.2.1, ia (rA 30) (rK9 30) 28 (fun i => nI (g.2.2.2.1 i)), ia (rA 35) (rK9 35) 7 (fun i => nI (li i))]) hP hD rfl hS hA [0, 1, 2, 3, 4, 5, 6, 7, 8, 9, 10, 11, 12] (by decide +kernel) rfl
          exact ih_t1 _ _ _ ⟨hinv, hP8, hS, lv_sub hl [0, 1, 2] rfl⟩
        · skip
          have hc1 : ¬ (zs t1 ≤ g.1 t1) := fun q9 => c1 ((nI_leI (a := zs t1) (b := g.1 t1) (by omega) (by omega)).mpr q9)
          rw [if_pos (decide_eq_true (by omega))] at hinv
          refine tp_pc (pc' := 148) (by rfl) ?_
          refine lv_iconst (v := 0) hx hb d_Ref_goes_148 (by decide) ?_
          obtain ⟨hP9, hD9, -⟩ := cut3 (wc := [oc ra 8 [.int (nI T), .int (nI Ac), .ref (rA 2), .ref (rA 3), .ref (rA 4), .ref (rA 5), .ref (rA 6), .ref (rA 7), .ref (rA 8), .ref (rA 9), .ref (rA 10), .ref (rA 11), .ref (rA 12), .ref (rA 13), .int ir, .ref (rA 15), .ref (rA 16), .ref (rA 17), .ref (rA 18), .int (nI md), .int (nI wd), .ref (rA 21), .ref (rA 22), .ref (rA 23), .int (nI mn), .ref (rA 25), .int (nI cb), .int mr, .ref (rA 28), .ref (rA 29), .ref (rA 30), .ref (rA 31), .ref (rA 32), .ref (rA 33), .ref (rA 34), .ref (rA 35), .int (nI ld), .int (nI gm), .ref (rA 38), .ref (rA 39), .ref (rA 40), .ref (rA 41), .ref (rA 42), .ref (rA 43), .ref (rA 44), .ref (rA 45), .int (nI my), .ref (rA 47)], ia (rA 33) (rK9 33) 4 (fun i => nI (g.1 i)), ia (rA 2) (rK9 2) 4 (fun i => nI (zs i)), ia (rA 3) (rK9 3) 28 (fun i => nI (kd i)), ia (rA 4) (rK9 4) 28 (fun i => nI (vx i)), ia (rA 5) (rK9 5) 28 (fun i => nI (rr i)), ia (rA 6) (rK9 6) 28 vv, ia (rA 34) (rK9 34) 8 g.2.1, ia (rA 29) (rK9 29) 28 (fun i0 => mN (fm i0)), ia (rA 31) (rK9 31) 28 (fun i => nI (g.2.2.2.2 i)), ia (rA 32) (rK9 32) 28 g.2.2.1, ia (rA 30) (rK9 30) 28 (fun i => nI (g.2.2.2.1 i)), ia (rA 35) (rK9 35) 7 (fun i => nI (li i))]) hP hD rfl hS hA [0, 1, 2, 3, 4, 5, 6, 7, 8, 9, 10, 11, 12] (by decide +kernel) rfl
          have hK9 := hK.sub (tys' := []) [] rfl
          refine W.widen (k := 0) (n := 0) (by exact Nat.le_of_ble_eq_true rfl) (by exact Nat.le_of_ble_eq_true rfl) ?_
          exact W.zret (v := 0) (ty := .boolean) hx hb hr (by decide) (fun t9 ht9 hW => ⟨⟨0, (), rfl, by rw [if_neg (fun q => by rw [q.1] at hinv; exact absurd hinv (Nat.succ_ne_zero _))], by rw [ht9]; exact hP9, va_K.moved hW.alike hK9, hD9⟩, hS.F ht9⟩) hS.2.2 d_Ref_goes_149
      · intro H locs ls hI
        obtain ⟨hinv, hP, hS, hl⟩ := hI
        rw [Nat.sub_self] at hinv
        have hen : enT zs g.1 T = 0 := hinv.symm
        clear hinv
        refine lv_iload_n hx hb d_Ref_goes_125 rfl (lv_at hl 0 rfl) ?_
        refine lv_aload_n hx hb d_Ref_goes_126 rfl (lv_at hl 2 rfl) ?_
        refine va_get (D := (dC, dI)) (ci := 8) (v := .int (nI T)) (C := R_Ref) (T := F_Ref) (N := 48) hx hb hw i_Ref hown hK hP 0 rfl rfl 0 (by decide) (hw _ m_899) (fun _ h9 => h9) rfl d_Ref_goes_127 ?_
        refine lv_icmp_ge (tgt := 156) hx hb d_Ref_goes_130 (by decide) (fun c9 => ?_) (fun c9 => absurd (nI_le (Nat.le_refl _) (by omega)) c9)
        refine tp_pc (pc' := 156) (by rfl) ?_
        refine lv_iconst (v := 0) hx hb d_Ref_goes_156 (by decide) ?_
        refine lv_istore_n (lv' := [(2, .int 0), (1, .int (if false = true then 1 else 0)), (0, .ref ra)]) hx hb d_Ref_goes_157 rfl hl (by decide) rfl ?_
        clear hl ls
        intro ls hl
        refine lv_iconst (v := 0) hx hb d_Ref_goes_158 (by decide) ?_
        refine lv_istore_n (lv' := [(3, .int 0), (2, .int 0), (1, .int (if false = true then 1 else 0)), (0, .ref ra)]) hx hb d_Ref_goes_159 rfl hl (by decide) rfl ?_
        clear hl ls
        intro ls hl
        replace hP : va_P (dC, dI) classes [oc ra 8 [.int (nI T), .int (nI Ac), .ref (rA 2), .ref (rA 3), .ref (rA 4), .ref (rA 5), .ref (rA 6), .ref (rA 7), .ref (rA 8), .ref (rA 9), .ref (rA 10), .ref (rA 11), .ref (rA 12), .ref (rA 13), .int ir, .ref (rA 15), .ref (rA 16), .ref (rA 17), .ref (rA 18), .int (nI md), .int (nI wd), .ref (rA 21), .ref (rA 22), .ref (rA 23), .int (nI mn), .ref (rA 25), .int (nI cb), .int mr, .ref (rA 28), .ref (rA 29), .ref (rA 30), .ref (rA 31), .ref (rA 32), .ref (rA 33), .ref (rA 34), .ref (rA 35), .int (nI ld), .int (nI gm), .ref (rA 38), .ref (rA 39), .ref (rA 40), .ref (rA 41), .ref (rA 42), .ref (rA 43), .ref (rA 44), .ref (rA 45), .int (nI my), .ref (rA 47)], ia (rA 33) (rK9 33) 4 (fun i => nI (g.1 i)), ia (rA 2) (rK9 2) 4 (fun i => nI (zs i)), ia (rA 3) (rK9 3) 28 (fun i => nI (kd i)), ia (rA 4) (rK9 4) 28 (fun i => nI (vx i)), ia (rA 5) (rK9 5) 28 (fun i => nI (rr i)), ia (rA 6) (rK9 6) 28 vv, ia (rA 34) (rK9 34) 8 g.2.1, ia (rA 29) (rK9 29) 28 (fun i0 => mN (fm i0)), ia (rA 31) (rK9 31) 28 (fun i => nI (g.2.2.2.2 i)), ia (rA 32) (rK9 32) 28 g.2.2.1, ia (rA 30) (rK9 30) 28 (fun i => nI (g.2.2.2.1 i)), ia (rA 35) (rK9 35) 7 (fun i => nI (li i))] H := hP
        replace hl : lv_has ls 7 [(3, .int (nI 0)), (2, .int 0), (1, .int (if false = true then 1 else 0)), (0, .ref ra)] := hl
        refine lp_n ld (fun i1 H locs ls => fF (fun k => decide (g.2.2.2.1 (li k) = 0 ∧ ¬ fm (li k) = 0)) (ld - i1) i1 = unT li fm g.2.2.2.1 ld ∧ va_P (dC, dI) classes [oc ra 8 [.int (nI T), .int (nI Ac), .ref (rA 2), .ref (rA 3), .ref (rA 4), .ref (rA 5), .ref (rA 6), .ref (rA 7), .ref (rA 8), .ref (rA 9), .ref (rA 10), .ref (rA 11), .ref (rA 12), .ref (rA 13), .int ir, .ref (rA 15), .ref (rA 16), .ref (rA 17), .ref (rA 18), .int (nI md), .int (nI wd), .ref (rA 21), .ref (rA 22), .ref (rA 23), .int (nI mn), .ref (rA 25), .int (nI cb), .int mr, .ref (rA 28), .ref (rA 29), .ref (rA 30), .ref (rA 31), .ref (rA 32), .ref (rA 33), .ref (rA 34), .ref (rA 35), .int (nI ld), .int (nI gm), .ref (rA 38), .ref (rA 39), .ref (rA 40), .ref (rA 41), .ref (rA 42), .ref (rA 43), .ref (rA 44), .ref (rA 45), .int (nI my), .ref (rA 47)], ia (rA 33) (rK9 33) 4 (fun i => nI (g.1 i)), ia (rA 2) (rK9 2) 4 (fun i => nI (zs i)), ia (rA 3) (rK9 3) 28 (fun i => nI (kd i)), ia (rA 4) (rK9 4) 28 (fun i => nI (vx i)), ia (rA 5) (rK9 5) 28 (fun i => nI (rr i)), ia (rA 6) (rK9 6) 28 vv, ia (rA 34) (rK9 34) 8 g.2.1, ia (rA 29) (rK9 29) 28 (fun i0 => mN (fm i0)), ia (rA 31) (rK9 31) 28 (fun i => nI (g.2.2.2.2 i)), ia (rA 32) (rK9 32) 28 g.2.2.1, ia (rA 30) (rK9 30) 28 (fun i => nI (g.2.2.2.1 i)), ia (rA 35) (rK9 35) 7 (fun i => nI (li i))] H ∧ va_S A s.heap H locs ∧ lv_has ls 7 [(3, .int (nI i1)), (2, .int 0), (1, .int (if false = true then 1 else 0)), (0, .ref ra)]) ⟨rfl, hP, hS, hl⟩ ?_ ?_
        · intro i1 H locs ls hi1 hI ih_i1
          obtain ⟨hinv, hP, hS, hl⟩ := hI
          refine lv_iload_n hx hb d_Ref_goes_160 rfl (lv_at hl 0 rfl) ?_
          refine lv_aload_n hx hb d_Ref_goes_161 rfl (lv_at hl 3 rfl) ?_
          refine va_get (D := (dC, dI)) (ci := 8) (v := .int (nI ld)) (C := R_Ref) (T := F_Ref) (N := 48) hx hb hw i_Ref hown hK hP 0 rfl rfl 36 (by decide) (hw _ m_935) (fun _ h9 => h9) rfl d_Ref_goes_162 ?_
          refine lv_icmp_ge (tgt := 204) hx hb d_Ref_goes_165 (by decide) (fun c9 => absurd c9 (nI_ge hi1 (by omega))) (fun c9 => ?_)
          rw [show ld - i1 = (ld - (i1 + 1)) + 1 from by omega, fF] at hinv
          have hl1 := hli i1 (by omega)
          have hh1 := hG.2.1 (li i1) hl1
          have hf1 := hfm (li i1) hl1
          refine tp_pc (pc' := 168) (by rfl) ?_
          refine lv_aload_n hx hb d_Ref_goes_168 rfl (lv_at hl 3 rfl) ?_
          refine va_get (D := (dC, dI)) (ci := 8) (v := .ref (rA 35)) (C := R_Ref) (T := F_Ref) (N := 48) hx hb hw i_Ref hown hK hP 0 rfl rfl 35 (by decide) (hw _ m_934) (fun _ h9 => h9) rfl d_Ref_goes_169 ?_
          refine lv_iload_n hx hb d_Ref_goes_172 rfl (lv_at hl 0 rfl) ?_
          refine va_iald (D := (dC, dI)) hx hb hK hP 12 11 rfl rfl (i := nI i1) (pk_in i1 7 (by omega)) d_Ref_goes_173 ?_
          refine tp_i (y := nI (li i1)) (by rw [show (nI i1 : Int32).toNatClampNeg = i1 from pk_cl i1]) ?_
          refine lv_istore (lv' := [(4, .int (nI (li i1))), (3, .int (nI i1)), (2, .int 0), (1, .int (if false = true then 1 else 0)), (0, .ref ra)]) hx hb d_Ref_goes_174 hl (by decide) rfl ?_
          clear hl ls
          intro ls hl
          refine lv_aload_n hx hb d_Ref_goes_176 rfl (lv_at hl 4 rfl) ?_
          refine va_get (D := (dC, dI)) (ci := 8) (v := .ref (rA 30)) (C := R_Ref) (T := F_Ref) (N := 48) hx hb hw i_Ref hown hK hP 0 rfl rfl 30 (by decide) (hw _ m_929) (fun _ h9 => h9) rfl d_Ref_goes_177 ?_
          refine lv_iload hx hb d_Ref_goes_180 (lv_at hl 0 rfl) ?_
          refine va_zald (D := (dC, dI)) hx hb hK hP 11 10 rfl rfl (i := nI (li i1)) (pk_in (li i1) 28 (by omega)) d_Ref_goes_182 ?_
          refine tp_i (y := nI (g.2.2.2.1 (li i1))) (by rw [show (nI (li i1) : Int32).toNatClampNeg = li i1 from pk_cl (li i1)]) ?_
          refine lv_if_ne (tgt := 198) hx hb d_Ref_goes_183 (by decide) (fun c2 => ?_) (fun c2 => ?_)
          · skip
            have hc2 : ¬ (g.2.2.2.1 (li i1) = 0) := fun q9 => c2 ((nI_eq (a := g.2.2.2.1 (li i1)) (b := 0) (by omega) (by omega)).mpr q9)
            rw [if_neg (by rw [decide_eq_false (fun q => hc2 q.1)]; decide)] at hinv
            refine tp_pc (pc' := 198) (by rfl) ?_
            refine lv_iinc (v := nI (i1 + 1)) (lv' := [(3, .int (nI (i1 + 1))), (4, .int (nI (li i1))), (2, .int 0), (1, .int (if false = true then 1 else 0)), (0, .ref ra)]) hx hb d_Ref_goes_198 hl (k := 1) rfl (by exact nI_1 i1) (by decide) rfl ?_
            clear hl ls
            intro ls hl
            refine lv_goto (tgt := 160) hx hb d_Ref_goes_201 (by decide) ?_
            refine tp_pc (pc' := 160) (by rfl) ?_
            obtain ⟨hP8, -, -⟩ := cut3 (wc := [oc ra 8 [.int (nI T), .int (nI Ac), .ref (rA 2), .ref (rA 3), .ref (rA 4), .ref (rA 5), .ref (rA 6), .ref (rA 7), .ref (rA 8), .ref (rA 9), .ref (rA 10), .ref (rA 11), .ref (rA 12), .ref (rA 13), .int ir, .ref (rA 15), .ref (rA 16), .ref (rA 17), .ref (rA 18), .int (nI md), .int (nI wd), .ref (rA 21), .ref (rA 22), .ref (rA 23), .int (nI mn), .ref (rA 25), .int (nI cb), .int mr, .ref (rA 28), .ref (rA 29), .ref (rA 30), .ref (rA 31), .ref (rA 32), .ref (rA 33), .ref (rA 34), .ref (rA 35), .int (nI ld), .int (nI gm), .ref (rA 38), .ref (rA 39), .ref (rA 40), .ref (rA 41), .ref (rA 42), .ref (rA 43), .ref (rA 44), .ref (rA 45), .int (nI my), .ref (rA 47)], ia (rA 33) (rK9 33) 4 (fun i => nI (g.1 i)), ia (rA 2) (rK9 2) 4 (fun i => nI (zs i)), ia (rA 3) (rK9 3) 28 (fun i => nI (kd i)), ia (rA 4) (rK9 4) 28 (fun i => nI (vx i)), ia (rA 5) (rK9 5) 28 (fun i => nI (rr i)), ia (rA 6) (rK9 6) 28 vv, ia (rA 34) (rK9 34) 8 g.2.1, ia (rA 29) (rK9 29) 28 (fun i0 => mN (fm i0)), ia (rA 31) (rK9 31) 28 (fun i => nI (g.2.2.2.2 i)), ia (rA 32) (rK9 32) 28 g.2.2.1, ia (rA 30) (rK9 30) 28 (fun i => nI (g.2.2.2.1 i)), ia (rA 35) (rK9 35) 7 (fun i => nI (li i))]) hP hD rfl hS hA [0, 1, 2, 3, 4, 5, 6, 7, 8, 9, 10, 11, 12] (by decide +kernel) rfl
            exact ih_i1 _ _ _ ⟨hinv, hP8, hS, lv_sub hl [0, 2, 3, 4] rfl⟩
          · skip
            have hc2 : g.2.2.2.1 (li i1) = 0 := (nI_eq (a := g.2.2.2.1 (li i1)) (b := 0) (by omega) (by omega)).mp c2
            refine tp_pc (pc' := 186) (by rfl) ?_
            refine lv_aload_n hx hb d_Ref_goes_186 rfl (lv_at hl 4 rfl) ?_
            refine va_get (D := (dC, dI)) (ci := 8) (v := .ref (rA 29)) (C := R_Ref) (T := F_Ref) (N := 48) hx hb hw i_Ref hown hK hP 0 rfl rfl 29 (by decide) (hw _ m_928) (fun _ h9 => h9) rfl d_Ref_goes_187 ?_
            refine lv_iload hx hb d_Ref_goes_190 (lv_at hl 0 rfl) ?_
            refine va_iald (D := (dC, dI)) hx hb hK hP 8 7 rfl rfl (i := nI (li i1)) (pk_in (li i1) 28 (by omega)) d_Ref_goes_192 ?_
            refine tp_i (y := (fun i0 => mN (fm i0)) (li i1)) (by rw [show (nI (li i1) : Int32).toNatClampNeg = li i1 from pk_cl (li i1)]) ?_
            refine tp_i (y := mN (fm (li i1))) rfl ?_
            by_cases e0 : fm (li i1) = 0
            · skip
              refine tp_i (y := (-1)) (by rw [e0, mN_0]) ?_
              rw [if_neg (by rw [decide_eq_false (fun q => q.2 e0)]; decide)] at hinv
              refine lv_if_lt (tgt := 198) hx hb d_Ref_goes_193 (by decide) (fun c_12 => ?_) (fun c_12 => absurd c_12 (by decide))
              refine tp_pc (pc' := 198) (by rfl) ?_
              refine lv_iinc (v := nI (i1 + 1)) (lv' := [(3, .int (nI (i1 + 1))), (4, .int (nI (li i1))), (2, .int 0), (1, .int (if false = true then 1 else 0)), (0, .ref ra)]) hx hb d_Ref_goes_198 hl (k := 1) rfl (by exact nI_1 i1) (by decide) rfl ?_
              clear hl ls
              intro ls hl
              refine lv_goto (tgt := 160) hx hb d_Ref_goes_201 (by decide) ?_
              refine tp_pc (pc' := 160) (by rfl) ?_
              obtain ⟨hP8, -, -⟩ := cut3 (wc := [oc ra 8 [.int (nI T), .int (nI Ac), .ref (rA 2), .ref (rA 3), .ref (rA 4), .ref (rA 5), .ref (rA 6), .ref (rA 7), .ref (rA 8), .ref (rA 9), .ref (rA 10), .ref (rA 11), .ref (rA 12), .ref (rA 13), .int ir, .ref (rA 15), .ref (rA 16), .ref (rA 17), .ref (rA 18), .int (nI md), .int (nI wd), .ref (rA 21), .ref (rA 22), .ref (rA 23), .int (nI mn), .ref (rA 25), .int (nI cb), .int mr, .ref (rA 28), .ref (rA 29), .ref (rA 30), .ref (rA 31), .ref (rA 32), .ref (rA 33), .ref (rA 34), .ref (rA 35), .int (nI ld), .int (nI gm), .ref (rA 38), .ref (rA 39), .ref (rA 40), .ref (rA 41), .ref (rA 42), .ref (rA 43), .ref (rA 44), .ref (rA 45), .int (nI my), .ref (rA 47)], ia (rA 33) (rK9 33) 4 (fun i => nI (g.1 i)), ia (rA 2) (rK9 2) 4 (fun i => nI (zs i)), ia (rA 3) (rK9 3) 28 (fun i => nI (kd i)), ia (rA 4) (rK9 4) 28 (fun i => nI (vx i)), ia (rA 5) (rK9 5) 28 (fun i => nI (rr i)), ia (rA 6) (rK9 6) 28 vv, ia (rA 34) (rK9 34) 8 g.2.1, ia (rA 29) (rK9 29) 28 (fun i0 => mN (fm i0)), ia (rA 31) (rK9 31) 28 (fun i => nI (g.2.2.2.2 i)), ia (rA 32) (rK9 32) 28 g.2.2.1, ia (rA 30) (rK9 30) 28 (fun i => nI (g.2.2.2.1 i)), ia (rA 35) (rK9 35) 7 (fun i => nI (li i))]) hP hD rfl hS hA [0, 1, 2, 3, 4, 5, 6, 7, 8, 9, 10, 11, 12] (by decide +kernel) rfl
              exact ih_i1 _ _ _ ⟨hinv, hP8, hS, lv_sub hl [0, 2, 3, 4] rfl⟩
            · skip
              refine tp_i (y := nI (fm (li i1) - 1)) (mN_s e0) ?_
              refine lv_if_lt (tgt := 198) hx hb d_Ref_goes_193 (by decide) (fun c9 => absurd c9 (nI_pos (by omega))) (fun c9 => ?_)
              rw [if_pos (decide_eq_true ⟨hc2, e0⟩)] at hinv
              refine tp_pc (pc' := 196) (by rfl) ?_
              refine lv_iconst (v := 0) hx hb d_Ref_goes_196 (by decide) ?_
              obtain ⟨hP9, hD9, -⟩ := cut3 (wc := [oc ra 8 [.int (nI T), .int (nI Ac), .ref (rA 2), .ref (rA 3), .ref (rA 4), .ref (rA 5), .ref (rA 6), .ref (rA 7), .ref (rA 8), .ref (rA 9), .ref (rA 10), .ref (rA 11), .ref (rA 12), .ref (rA 13), .int ir, .ref (rA 15), .ref (rA 16), .ref (rA 17), .ref (rA 18), .int (nI md), .int (nI wd), .ref (rA 21), .ref (rA 22), .ref (rA 23), .int (nI mn), .ref (rA 25), .int (nI cb), .int mr, .ref (rA 28), .ref (rA 29), .ref (rA 30), .ref (rA 31), .ref (rA 32), .ref (rA 33), .ref (rA 34), .ref (rA 35), .int (nI ld), .int (nI gm), .ref (rA 38), .ref (rA 39), .ref (rA 40), .ref (rA 41), .ref (rA 42), .ref (rA 43), .ref (rA 44), .ref (rA 45), .int (nI my), .ref (rA 47)], ia (rA 33) (rK9 33) 4 (fun i => nI (g.1 i)), ia (rA 2) (rK9 2) 4 (fun i => nI (zs i)), ia (rA 3) (rK9 3) 28 (fun i => nI (kd i)), ia (rA 4) (rK9 4) 28 (fun i => nI (vx i)), ia (rA 5) (rK9 5) 28 (fun i => nI (rr i)), ia (rA 6) (rK9 6) 28 vv, ia (rA 34) (rK9 34) 8 g.2.1, ia (rA 29) (rK9 29) 28 (fun i0 => mN (fm i0)), ia (rA 31) (rK9 31) 28 (fun i => nI (g.2.2.2.2 i)), ia (rA 32) (rK9 32) 28 g.2.2.1, ia (rA 30) (rK9 30) 28 (fun i => nI (g.2.2.2.1 i)), ia (rA 35) (rK9 35) 7 (fun i => nI (li i))]) hP hD rfl hS hA [0, 1, 2, 3, 4, 5, 6, 7, 8, 9, 10, 11, 12] (by decide +kernel) rfl
              have hK9 := hK.sub (tys' := []) [] rfl
              refine W.widen (k := 0) (n := 0) (by exact Nat.le_of_ble_eq_true rfl) (by exact Nat.le_of_ble_eq_true rfl) ?_
              exact W.zret (v := 0) (ty := .boolean) hx hb hr (by decide) (fun t9 ht9 hW => ⟨⟨0, (), rfl, by rw [if_neg (fun q => by rw [q.2.1] at hinv; exact absurd hinv (Nat.succ_ne_zero _))], by rw [ht9]; exact hP9, va_K.moved hW.alike hK9, hD9⟩, hS.F ht9⟩) hS.2.2 d_Ref_goes_197
        · intro H locs ls hI
          obtain ⟨hinv, hP, hS, hl⟩ := hI
          rw [Nat.sub_self] at hinv
          have hun : unT li fm g.2.2.2.1 ld = 0 := hinv.symm
          clear hinv
          refine lv_iload_n hx hb d_Ref_goes_160 rfl (lv_at hl 0 rfl) ?_
          refine lv_aload_n hx hb d_Ref_goes_161 rfl (lv_at hl 3 rfl) ?_
          refine va_get (D := (dC, dI)) (ci := 8) (v := .int (nI ld)) (C := R_Ref) (T := F_Ref) (N := 48) hx hb hw i_Ref hown hK hP 0 rfl rfl 36 (by decide) (hw _ m_935) (fun _ h9 => h9) rfl d_Ref_goes_162 ?_
          refine lv_icmp_ge (tgt := 204) hx hb d_Ref_goes_165 (by decide) (fun c9 => ?_) (fun c9 => absurd (nI_le (Nat.le_refl _) (by omega)) c9)
          refine tp_pc (pc' := 204) (by rfl) ?_
          refine lv_iconst (v := 0) hx hb d_Ref_goes_204 (by decide) ?_
          refine lv_istore_n (lv' := [(3, .int 0), (2, .int 0), (1, .int (if false = true then 1 else 0)), (0, .ref ra)]) hx hb d_Ref_goes_205 rfl hl (by decide) rfl ?_
          clear hl ls
          intro ls hl
          replace hP : va_P (dC, dI) classes [oc ra 8 [.int (nI T), .int (nI Ac), .ref (rA 2), .ref (rA 3), .ref (rA 4), .ref (rA 5), .ref (rA 6), .ref (rA 7), .ref (rA 8), .ref (rA 9), .ref (rA 10), .ref (rA 11), .ref (rA 12), .ref (rA 13), .int ir, .ref (rA 15), .ref (rA 16), .ref (rA 17), .ref (rA 18), .int (nI md), .int (nI wd), .ref (rA 21), .ref (rA 22), .ref (rA 23), .int (nI mn), .ref (rA 25), .int (nI cb), .int mr, .ref (rA 28), .ref (rA 29), .ref (rA 30), .ref (rA 31), .ref (rA 32), .ref (rA 33), .ref (rA 34), .ref (rA 35), .int (nI ld), .int (nI gm), .ref (rA 38), .ref (rA 39), .ref (rA 40), .ref (rA 41), .ref (rA 42), .ref (rA 43), .ref (rA 44), .ref (rA 45), .int (nI my), .ref (rA 47)], ia (rA 33) (rK9 33) 4 (fun i => nI (g.1 i)), ia (rA 2) (rK9 2) 4 (fun i => nI (zs i)), ia (rA 3) (rK9 3) 28 (fun i => nI (kd i)), ia (rA 4) (rK9 4) 28 (fun i => nI (vx i)), ia (rA 5) (rK9 5) 28 (fun i => nI (rr i)), ia (rA 6) (rK9 6) 28 vv, ia (rA 34) (rK9 34) 8 g.2.1, ia (rA 29) (rK9 29) 28 (fun i0 => mN (fm i0)), ia (rA 31) (rK9 31) 28 (fun i => nI (g.2.2.2.2 i)), ia (rA 32) (rK9 32) 28 g.2.2.1, ia (rA 30) (rK9 30) 28 (fun i => nI (g.2.2.2.1 i)), ia (rA 35) (rK9 35) 7 (fun i => nI (li i))] H := hP
          replace hl : lv_has ls 7 [(3, .int (nI 0)), (2, .int (if anB kd vx li fm g.2.2.2.1 ld 0 = true then 1 else 0)), (1, .int (if false = true then 1 else 0)), (0, .ref ra)] := hl
          refine lp_n 3 (fun x1 H locs ls => va_P (dC, dI) classes [oc ra 8 [.int (nI T), .int (nI Ac), .ref (rA 2), .ref (rA 3), .ref (rA 4), .ref (rA 5), .ref (rA 6), .ref (rA 7), .ref (rA 8), .ref (rA 9), .ref (rA 10), .ref (rA 11), .ref (rA 12), .ref (rA 13), .int ir, .ref (rA 15), .ref (rA 16), .ref (rA 17), .ref (rA 18), .int (nI md), .int (nI wd), .ref (rA 21), .ref (rA 22), .ref (rA 23), .int (nI mn), .ref (rA 25), .int (nI cb), .int mr, .ref (rA 28), .ref (rA 29), .ref (rA 30), .ref (rA 31), .ref (rA 32), .ref (rA 33), .ref (rA 34), .ref (rA 35), .int (nI ld), .int (nI gm), .ref (rA 38), .ref (rA 39), .ref (rA 40), .ref (rA 41), .ref (rA 42), .ref (rA 43), .ref (rA 44), .ref (rA 45), .int (nI my), .ref (rA 47)], ia (rA 33) (rK9 33) 4 (fun i => nI (g.1 i)), ia (rA 2) (rK9 2) 4 (fun i => nI (zs i)), ia (rA 3) (rK9 3) 28 (fun i => nI (kd i)), ia (rA 4) (rK9 4) 28 (fun i => nI (vx i)), ia (rA 5) (rK9 5) 28 (fun i => nI (rr i)), ia (rA 6) (rK9 6) 28 vv, ia (rA 34) (rK9 34) 8 g.2.1, ia (rA 29) (rK9 29) 28 (fun i0 => mN (fm i0)), ia (rA 31) (rK9 31) 28 (fun i => nI (g.2.2.2.2 i)), ia (rA 32) (rK9 32) 28 g.2.2.1, ia (rA 30) (rK9 30) 28 (fun i => nI (g.2.2.2.1 i)), ia (rA 35) (rK9 35) 7 (fun i => nI (li i))] H ∧ va_S A s.heap H locs ∧ lv_has ls 7 [(3, .int (nI x1)), (2, .int (if anB kd vx li fm g.2.2.2.1 ld x1 = true then 1 else 0)), (1, .int (if false = true then 1 else 0)), (0, .ref ra)]) ⟨hP, hS, hl⟩ ?_ ?_
          · intro x1 H locs ls hx1 hI ih_x1
            obtain ⟨hP, hS, hl⟩ := hI
            refine lv_iload_n hx hb d_Ref_goes_206 rfl (lv_at hl 0 rfl) ?_
            refine lv_iconst (v := 3) hx hb d_Ref_goes_207 (by decide) ?_
            refine lv_icmp_ge (tgt := 315) hx hb d_Ref_goes_208 (by decide) (fun c9 => absurd c9 (nI_ge (a := x1) (b := 3) hx1 (by decide))) (fun c9 => ?_)
            refine tp_pc (pc' := 211) (by rfl) ?_
            refine lv_iconst (v := 0) hx hb d_Ref_goes_211 (by decide) ?_
            refine lv_istore (lv' := [(4, .int 0), (3, .int (nI x1)), (2, .int (if anB kd vx li fm g.2.2.2.1 ld x1 = true then 1 else 0)), (1, .int (if false = true then 1 else 0)), (0, .ref ra)]) hx hb d_Ref_goes_212 hl (by decide) rfl ?_
            clear hl ls
            intro ls hl
            refine lv_iconst (v := 0) hx hb d_Ref_goes_214 (by decide) ?_
            refine lv_istore (lv' := [(5, .int 0), (4, .int 0), (3, .int (nI x1)), (2, .int (if anB kd vx li fm g.2.2.2.1 ld x1 = true then 1 else 0)), (1, .int (if false = true then 1 else 0)), (0, .ref ra)]) hx hb d_Ref_goes_215 hl (by decide) rfl ?_
            clear hl ls
            intro ls hl
            replace hP : va_P (dC, dI) classes [oc ra 8 [.int (nI T), .int (nI Ac), .ref (rA 2), .ref (rA 3), .ref (rA 4), .ref (rA 5), .ref (rA 6), .ref (rA 7), .ref (rA 8), .ref (rA 9), .ref (rA 10), .ref (rA 11), .ref (rA 12), .ref (rA 13), .int ir, .ref (rA 15), .ref (rA 16), .ref (rA 17), .ref (rA 18), .int (nI md), .int (nI wd), .ref (rA 21), .ref (rA 22), .ref (rA 23), .int (nI mn), .ref (rA 25), .int (nI cb), .int mr, .ref (rA 28), .ref (rA 29), .ref (rA 30), .ref (rA 31), .ref (rA 32), .ref (rA 33), .ref (rA 34), .ref (rA 35), .int (nI ld), .int (nI gm), .ref (rA 38), .ref (rA 39), .ref (rA 40), .ref (rA 41), .ref (rA 42), .ref (rA 43), .ref (rA 44), .ref (rA 45), .int (nI my), .ref (rA 47)], ia (rA 33) (rK9 33) 4 (fun i => nI (g.1 i)), ia (rA 2) (rK9 2) 4 (fun i => nI (zs i)), ia (rA 3) (rK9 3) 28 (fun i => nI (kd i)), ia (rA 4) (rK9 4) 28 (fun i => nI (vx i)), ia (rA 5) (rK9 5) 28 (fun i => nI (rr i)), ia (rA 6) (rK9 6) 28 vv, ia (rA 34) (rK9 34) 8 g.2.1, ia (rA 29) (rK9 29) 28 (fun i0 => mN (fm i0)), ia (rA 31) (rK9 31) 28 (fun i => nI (g.2.2.2.2 i)), ia (rA 32) (rK9 32) 28 g.2.2.1, ia (rA 30) (rK9 30) 28 (fun i => nI (g.2.2.2.1 i)), ia (rA 35) (rK9 35) 7 (fun i => nI (li i))] H := hP
            replace hl : lv_has ls 7 [(5, .int (nI 0)), (4, .int (nI (ctB (fiP kd vx li fm g.2.2.2.1 x1) 0))), (3, .int (nI x1)), (2, .int (if anB kd vx li fm g.2.2.2.1 ld x1 = true then 1 else 0)), (1, .int (if false = true then 1 else 0)), (0, .ref ra)] := hl
            refine lp_n ld (fun i1 H locs ls => va_P (dC, dI) classes [oc ra 8 [.int (nI T), .int (nI Ac), .ref (rA 2), .ref (rA 3), .ref (rA 4), .ref (rA 5), .ref (rA 6), .ref (rA 7), .ref (rA 8), .ref (rA 9), .ref (rA 10), .ref (rA 11), .ref (rA 12), .ref (rA 13), .int ir, .ref (rA 15), .ref (rA 16), .ref (rA 17), .ref (rA 18), .int (nI md), .int (nI wd), .ref (rA 21), .ref (rA 22), .ref (rA 23), .int (nI mn), .ref (rA 25), .int (nI cb), .int mr, .ref (rA 28), .ref (rA 29), .ref (rA 30), .ref (rA 31), .ref (rA 32), .ref (rA 33), .ref (rA 34), .ref (rA 35), .int (nI ld), .int (nI gm), .ref (rA 38), .ref (rA 39), .ref (rA 40), .ref (rA 41), .ref (rA 42), .ref (rA 43), .ref (rA 44), .ref (rA 45), .int (nI my), .ref (rA 47)], ia (rA 33) (rK9 33) 4 (fun i => nI (g.1 i)), ia (rA 2) (rK9 2) 4 (fun i => nI (zs i)), ia (rA 3) (rK9 3) 28 (fun i => nI (kd i)), ia (rA 4) (rK9 4) 28 (fun i => nI (vx i)), ia (rA 5) (rK9 5) 28 (fun i => nI (rr i)), ia (rA 6) (rK9 6) 28 vv, ia (rA 34) (rK9 34) 8 g.2.1, ia (rA 29) (rK9 29) 28 (fun i0 => mN (fm i0)), ia (rA 31) (rK9 31) 28 (fun i => nI (g.2.2.2.2 i)), ia (rA 32) (rK9 32) 28 g.2.2.1, ia (rA 30) (rK9 30) 28 (fun i => nI (g.2.2.2.1 i)), ia (rA 35) (rK9 35) 7 (fun i => nI (li i))] H ∧ va_S A s.heap H locs ∧ lv_has ls 7 [(5, .int (nI i1)), (4, .int (nI (ctB (fiP kd vx li fm g.2.2.2.1 x1) i1))), (3, .int (nI x1)), (2, .int (if anB kd vx li fm g.2.2.2.1 ld x1 = true then 1 else 0)), (1, .int (if false = true then 1 else 0)), (0, .ref ra)]) ⟨hP, hS, hl⟩ ?_ ?_
            · intro i1 H locs ls hi1 hI ih_i1
              obtain ⟨hP, hS, hl⟩ := hI
              refine lv_iload hx hb d_Ref_goes_217 (lv_at hl 0 rfl) ?_
              refine lv_aload_n hx hb d_Ref_goes_219 rfl (lv_at hl 5 rfl) ?_
              refine va_get (D := (dC, dI)) (ci := 8) (v := .int (nI ld)) (C := R_Ref) (T := F_Ref) (N := 48) hx hb hw i_Ref hown hK hP 0 rfl rfl 36 (by decide) (hw _ m_935) (fun _ h9 => h9) rfl d_Ref_goes_220 ?_
              refine lv_icmp_ge (tgt := 293) hx hb d_Ref_goes_223 (by decide) (fun c9 => absurd c9 (nI_ge hi1 (by omega))) (fun c9 => ?_)
              have hl1 := hli i1 (by omega)
              have hh1 := hG.2.1 (li i1) hl1
              have hf1 := hfm (li i1) hl1
              obtain ⟨kd1, kd2, -⟩ := hkd (li i1) hl1
              have mlx := ctB_le (p := fiP kd vx li fm g.2.2.2.1 x1) i1
              refine tp_pc (pc' := 226) (by rfl) ?_
              refine lv_aload_n hx hb d_Ref_goes_226 rfl (lv_at hl 5 rfl) ?_
              refine va_get (D := (dC, dI)) (ci := 8) (v := .ref (rA 35)) (C := R_Ref) (T := F_Ref) (N := 48) hx hb hw i_Ref hown hK hP 0 rfl rfl 35 (by decide) (hw _ m_934) (fun _ h9 => h9) rfl d_Ref_goes_227 ?_
              refine lv_iload hx hb d_Ref_goes_230 (lv_at hl 0 rfl) ?_
              refine va_iald (D := (dC, dI)) hx hb hK hP 12 11 rfl rfl (i := nI i1) (pk_in i1 7 (by omega)) d_Ref_goes_232 ?_
              refine tp_i (y := nI (li i1)) (by rw [show (nI i1 : Int32).toNatClampNeg = i1 from pk_cl i1]) ?_
              refine lv_istore (lv' := [(6, .int (nI (li i1))), (5, .int (nI i1)), (4, .int (nI (ctB (fiP kd vx li fm g.2.2.2.1 x1) i1))), (3, .int (nI x1)), (2, .int (if anB kd vx li fm g.2.2.2.1 ld x1 = true then 1 else 0)), (1, .int (if false = true then 1 else 0)), (0, .ref ra)]) hx hb d_Ref_goes_233 hl (by decide) rfl ?_
              clear hl ls
              intro ls hl
              refine lv_iload hx hb d_Ref_goes_235 (lv_at hl 2 rfl) ?_
              refine lv_aload_n hx hb d_Ref_goes_237 rfl (lv_at hl 6 rfl) ?_
              refine va_get (D := (dC, dI)) (ci := 8) (v := .ref (rA 3)) (C := R_Ref) (T := F_Ref) (N := 48) hx hb hw i_Ref hown hK hP 0 rfl rfl 3 (by decide) (hw _ m_902) (fun _ h9 => h9) rfl d_Ref_goes_238 ?_
              refine lv_iload hx hb d_Ref_goes_241 (lv_at hl 0 rfl) ?_
              refine va_iald (D := (dC, dI)) hx hb hK hP 3 2 rfl rfl (i := nI (li i1)) (pk_in (li i1) 28 (by omega)) d_Ref_goes_243 ?_
              refine tp_i (y := nI (kd (li i1))) (by rw [show (nI (li i1) : Int32).toNatClampNeg = li i1 from pk_cl (li i1)]) ?_
              refine lv_iconst (v := 3) hx hb d_Ref_goes_244 (by decide) ?_
              refine lv_icmp_ne (tgt := 283) hx hb d_Ref_goes_245 (by decide) (fun d1 => ?_) (fun d1 => ?_)
              · skip
                have hd1 : ¬ (kd (li i1) = 3) := fun q9 => d1 ((nI_eq (a := kd (li i1)) (b := 3) (by omega) (by omega)).mpr q9)
                have hib : fiP kd vx li fm g.2.2.2.1 x1 i1 = false := decide_eq_false (fun q => hd1 q.1)
                refine tp_pc (pc' := 283) (by rfl) ?_
                refine lv_iconst (v := 0) hx hb d_Ref_goes_283 (by decide) ?_
                refine lv_iadd hx hb d_Ref_goes_284 ?_
                refine tp_i (y := nI (ctB (fiP kd vx li fm g.2.2.2.1 x1) i1 + 0)) (by exact nI_add (ctB (fiP kd vx li fm g.2.2.2.1 x1) i1) 0) ?_
                refine tp_i (y := nI (ctB (fiP kd vx li fm g.2.2.2.1 x1) (i1 + 1))) (by rw [ctB, hib]; rfl) ?_
                refine lv_istore (lv' := [(4, .int (nI (ctB (fiP kd vx li fm g.2.2.2.1 x1) (i1 + 1)))), (6, .int (nI (li i1))), (5, .int (nI i1)), (3, .int (nI x1)), (2, .int (if anB kd vx li fm g.2.2.2.1 ld x1 = true then 1 else 0)), (1, .int (if false = true then 1 else 0)), (0, .ref ra)]) hx hb d_Ref_goes_285 hl (by decide) rfl ?_
                clear hl ls
                intro ls hl
                refine lv_iinc (v := nI (i1 + 1)) (lv' := [(5, .int (nI (i1 + 1))), (4, .int (nI (ctB (fiP kd vx li fm g.2.2.2.1 x1) (i1 + 1)))), (6, .int (nI (li i1))), (3, .int (nI x1)), (2, .int (if anB kd vx li fm g.2.2.2.1 ld x1 = true then 1 else 0)), (1, .int (if false = true then 1 else 0)), (0, .ref ra)]) hx hb d_Ref_goes_287 hl (k := 2) rfl (by exact nI_1 i1) (by decide) rfl ?_
                clear hl ls
                intro ls hl
                refine lv_goto (tgt := 217) hx hb d_Ref_goes_290 (by decide) ?_
                refine tp_pc (pc' := 217) (by rfl) ?_
                obtain ⟨hP8, -, -⟩ := cut3 (wc := [oc ra 8 [.int (nI T), .int (nI Ac), .ref (rA 2), .ref (rA 3), .ref (rA 4), .ref (rA 5), .ref (rA 6), .ref (rA 7), .ref (rA 8), .ref (rA 9), .ref (rA 10), .ref (rA 11), .ref (rA 12), .ref (rA 13), .int ir, .ref (rA 15), .ref (rA 16), .ref (rA 17), .ref (rA 18), .int (nI md), .int (nI wd), .ref (rA 21), .ref (rA 22), .ref (rA 23), .int (nI mn), .ref (rA 25), .int (nI cb), .int mr, .ref (rA 28), .ref (rA 29), .ref (rA 30), .ref (rA 31), .ref (rA 32), .ref (rA 33), .ref (rA 34), .ref (rA 35), .int (nI ld), .int (nI gm), .ref (rA 38), .ref (rA 39), .ref (rA 40), .ref (rA 41), .ref (rA 42), .ref (rA 43), .ref (rA 44), .ref (rA 45), .int (nI my), .ref (rA 47)], ia (rA 33) (rK9 33) 4 (fun i => nI (g.1 i)), ia (rA 2) (rK9 2) 4 (fun i => nI (zs i)), ia (rA 3) (rK9 3) 28 (fun i => nI (kd i)), ia (rA 4) (rK9 4) 28 (fun i => nI (vx i)), ia (rA 5) (rK9 5) 28 (fun i => nI (rr i)), ia (rA 6) (rK9 6) 28 vv, ia (rA 34) (rK9 34) 8 g.2.1, ia (rA 29) (rK9 29) 28 (fun i0 => mN (fm i0)), ia (rA 31) (rK9 31) 28 (fun i => nI (g.2.2.2.2 i)), ia (rA 32) (rK9 32) 28 g.2.2.1, ia (rA 30) (rK9 30) 28 (fun i => nI (g.2.2.2.1 i)), ia (rA 35) (rK9 35) 7 (fun i => nI (li i))]) hP hD rfl hS hA [0, 1, 2, 3, 4, 5, 6, 7, 8, 9, 10, 11, 12] (by decide +kernel) rfl
                exact ih_i1 _ _ _ ⟨hP8, hS, lv_sub hl [0, 1, 3, 4, 5, 6] rfl⟩
              · skip
                have hd1 : kd (li i1) = 3 := (nI_eq (a := kd (li i1)) (b := 3) (by omega) (by omega)).mp d1
                refine tp_pc (pc' := 248) (by rfl) ?_
                refine lv_aload_n hx hb d_Ref_goes_248 rfl (lv_at hl 6 rfl) ?_
                refine va_get (D := (dC, dI)) (ci := 8) (v := .ref (rA 4)) (C := R_Ref) (T := F_Ref) (N := 48) hx hb hw i_Ref hown hK hP 0 rfl rfl 4 (by decide) (hw _ m_903) (fun _ h9 => h9) rfl d_Ref_goes_249 ?_
                refine lv_iload hx hb d_Ref_goes_252 (lv_at hl 0 rfl) ?_
                refine va_iald (D := (dC, dI)) hx hb hK hP 4 3 rfl rfl (i := nI (li i1)) (pk_in (li i1) 28 (by omega)) d_Ref_goes_254 ?_
                refine tp_i (y := nI (vx (li i1))) (by rw [show (nI (li i1) : Int32).toNatClampNeg = li i1 from pk_cl (li i1)]) ?_
                refine lv_iload_n hx hb d_Ref_goes_255 rfl (lv_at hl 3 rfl) ?_
                refine lv_icmp_ne (tgt := 283) hx hb d_Ref_goes_256 (by decide) (fun d2 => ?_) (fun d2 => ?_)
                · skip
                  have hd2 : ¬ (vx (li i1) = x1) := fun q9 => d2 ((nI_eq (a := vx (li i1)) (b := x1) (by omega) (by omega)).mpr q9)
                  have hib : fiP kd vx li fm g.2.2.2.1 x1 i1 = false := decide_eq_false (fun q => hd2 q.2.1)
                  refine tp_pc (pc' := 283) (by rfl) ?_
                  refine lv_iconst (v := 0) hx hb d_Ref_goes_283 (by decide) ?_
                  refine lv_iadd hx hb d_Ref_goes_284 ?_
                  refine tp_i (y := nI (ctB (fiP kd vx li fm g.2.2.2.1 x1) i1 + 0)) (by exact nI_add (ctB (fiP kd vx li fm g.2.2.2.1 x1) i1) 0) ?_
                  refine tp_i (y := nI (ctB (fiP kd vx li fm g.2.2.2.1 x1) (i1 + 1))) (by rw [ctB, hib]; rfl) ?_
                  refine lv_istore (lv' := [(4, .int (nI (ctB (fiP kd vx li fm g.2.2.2.1 x1) (i1 + 1)))), (6, .int (nI (li i1))), (5, .int (nI i1)), (3, .int (nI x1)), (2, .int (if anB kd vx li fm g.2.2.2.1 ld x1 = true then 1 else 0)), (1, .int (if false = true then 1 else 0)), (0, .ref ra)]) hx hb d_Ref_goes_285 hl (by decide) rfl ?_
                  clear hl ls
                  intro ls hl
                  refine lv_iinc (v := nI (i1 + 1)) (lv' := [(5, .int (nI (i1 + 1))), (4, .int (nI (ctB (fiP kd vx li fm g.2.2.2.1 x1) (i1 + 1)))), (6, .int (nI (li i1))), (3, .int (nI x1)), (2, .int (if anB kd vx li fm g.2.2.2.1 ld x1 = true then 1 else 0)), (1, .int (if false = true then 1 else 0)), (0, .ref ra)]) hx hb d_Ref_goes_287 hl (k := 2) rfl (by exact nI_1 i1) (by decide) rfl ?_
                  clear hl ls
                  intro ls hl
                  refine lv_goto (tgt := 217) hx hb d_Ref_goes_290 (by decide) ?_
                  refine tp_pc (pc' := 217) (by rfl) ?_
                  obtain ⟨hP8, -, -⟩ := cut3 (wc := [oc ra 8 [.int (nI T), .int (nI Ac), .ref (rA 2), .ref (rA 3), .ref (rA 4), .ref (rA 5), .ref (rA 6), .ref (rA 7), .ref (rA 8), .ref (rA 9), .ref (rA 10), .ref (rA 11), .ref (rA 12), .ref (rA 13), .int ir, .ref (rA 15), .ref (rA 16), .ref (rA 17), .ref (rA 18), .int (nI md), .int (nI wd), .ref (rA 21), .ref (rA 22), .ref (rA 23), .int (nI mn), .ref (rA 25), .int (nI cb), .int mr, .ref (rA 28), .ref (rA 29), .ref (rA 30), .ref (rA 31), .ref (rA 32), .ref (rA 33), .ref (rA 34), .ref (rA 35), .int (nI ld), .int (nI gm), .ref (rA 38), .ref (rA 39), .ref (rA 40), .ref (rA 41), .ref (rA 42), .ref (rA 43), .ref (rA 44), .ref (rA 45), .int (nI my), .ref (rA 47)], ia (rA 33) (rK9 33) 4 (fun i => nI (g.1 i)), ia (rA 2) (rK9 2) 4 (fun i => nI (zs i)), ia (rA 3) (rK9 3) 28 (fun i => nI (kd i)), ia (rA 4) (rK9 4) 28 (fun i => nI (vx i)), ia (rA 5) (rK9 5) 28 (fun i => nI (rr i)), ia (rA 6) (rK9 6) 28 vv, ia (rA 34) (rK9 34) 8 g.2.1, ia (rA 29) (rK9 29) 28 (fun i0 => mN (fm i0)), ia (rA 31) (rK9 31) 28 (fun i => nI (g.2.2.2.2 i)), ia (rA 32) (rK9 32) 28 g.2.2.1, ia (rA 30) (rK9 30) 28 (fun i => nI (g.2.2.2.1 i)), ia (rA 35) (rK9 35) 7 (fun i => nI (li i))]) hP hD rfl hS hA [0, 1, 2, 3, 4, 5, 6, 7, 8, 9, 10, 11, 12] (by decide +kernel) rfl
                  exact ih_i1 _ _ _ ⟨hP8, hS, lv_sub hl [0, 1, 3, 4, 5, 6] rfl⟩
                · skip
                  have hd2 : vx (li i1) = x1 := (nI_eq (a := vx (li i1)) (b := x1) (by omega) (by omega)).mp d2
                  refine tp_pc (pc' := 259) (by rfl) ?_
                  refine lv_aload_n hx hb d_Ref_goes_259 rfl (lv_at hl 6 rfl) ?_
                  refine va_get (D := (dC, dI)) (ci := 8) (v := .ref (rA 30)) (C := R_Ref) (T := F_Ref) (N := 48) hx hb hw i_Ref hown hK hP 0 rfl rfl 30 (by decide) (hw _ m_929) (fun _ h9 => h9) rfl d_Ref_goes_260 ?_
                  refine lv_iload hx hb d_Ref_goes_263 (lv_at hl 0 rfl) ?_
                  refine va_zald (D := (dC, dI)) hx hb hK hP 11 10 rfl rfl (i := nI (li i1)) (pk_in (li i1) 28 (by omega)) d_Ref_goes_265 ?_
                  refine tp_i (y := nI (g.2.2.2.1 (li i1))) (by rw [show (nI (li i1) : Int32).toNatClampNeg = li i1 from pk_cl (li i1)]) ?_
                  refine lv_if_eq (tgt := 283) hx hb d_Ref_goes_266 (by decide) (fun d3 => ?_) (fun d3 => ?_)
                  · skip
                    have hd3 : g.2.2.2.1 (li i1) = 0 := (nI_eq (a := g.2.2.2.1 (li i1)) (b := 0) (by omega) (by omega)).mp d3
                    have hib : fiP kd vx li fm g.2.2.2.1 x1 i1 = false := decide_eq_false (fun q => absurd q.2.2.1 (by omega))
                    refine tp_pc (pc' := 283) (by rfl) ?_
                    refine lv_iconst (v := 0) hx hb d_Ref_goes_283 (by decide) ?_
                    refine lv_iadd hx hb d_Ref_goes_284 ?_
                    refine tp_i (y := nI (ctB (fiP kd vx li fm g.2.2.2.1 x1) i1 + 0)) (by exact nI_add (ctB (fiP kd vx li fm g.2.2.2.1 x1) i1) 0) ?_
                    refine tp_i (y := nI (ctB (fiP kd vx li fm g.2.2.2.1 x1) (i1 + 1))) (by rw [ctB, hib]; rfl) ?_
                    refine lv_istore (lv' := [(4, .int (nI (ctB (fiP kd vx li fm g.2.2.2.1 x1) (i1 + 1)))), (6, .int (nI (li i1))), (5, .int (nI i1)), (3, .int (nI x1)), (2, .int (if anB kd vx li fm g.2.2.2.1 ld x1 = true then 1 else 0)), (1, .int (if false = true then 1 else 0)), (0, .ref ra)]) hx hb d_Ref_goes_285 hl (by decide) rfl ?_
                    clear hl ls
                    intro ls hl
                    refine lv_iinc (v := nI (i1 + 1)) (lv' := [(5, .int (nI (i1 + 1))), (4, .int (nI (ctB (fiP kd vx li fm g.2.2.2.1 x1) (i1 + 1)))), (6, .int (nI (li i1))), (3, .int (nI x1)), (2, .int (if anB kd vx li fm g.2.2.2.1 ld x1 = true then 1 else 0)), (1, .int (if false = true then 1 else 0)), (0, .ref ra)]) hx hb d_Ref_goes_287 hl (k := 2) rfl (by exact nI_1 i1) (by decide) rfl ?_
                    clear hl ls
                    intro ls hl
                    refine lv_goto (tgt := 217) hx hb d_Ref_goes_290 (by decide) ?_
                    refine tp_pc (pc' := 217) (by rfl) ?_
                    obtain ⟨hP8, -, -⟩ := cut3 (wc := [oc ra 8 [.int (nI T), .int (nI Ac), .ref (rA 2), .ref (rA 3), .ref (rA 4), .ref (rA 5), .ref (rA 6), .ref (rA 7), .ref (rA 8), .ref (rA 9), .ref (rA 10), .ref (rA 11), .ref (rA 12), .ref (rA 13), .int ir, .ref (rA 15), .ref (rA 16), .ref (rA 17), .ref (rA 18), .int (nI md), .int (nI wd), .ref (rA 21), .ref (rA 22), .ref (rA 23), .int (nI mn), .ref (rA 25), .int (nI cb), .int mr, .ref (rA 28), .ref (rA 29), .ref (rA 30), .ref (rA 31), .ref (rA 32), .ref (rA 33), .ref (rA 34), .ref (rA 35), .int (nI ld), .int (nI gm), .ref (rA 38), .ref (rA 39), .ref (rA 40), .ref (rA 41), .ref (rA 42), .ref (rA 43), .ref (rA 44), .ref (rA 45), .int (nI my), .ref (rA 47)], ia (rA 33) (rK9 33) 4 (fun i => nI (g.1 i)), ia (rA 2) (rK9 2) 4 (fun i => nI (zs i)), ia (rA 3) (rK9 3) 28 (fun i => nI (kd i)), ia (rA 4) (rK9 4) 28 (fun i => nI (vx i)), ia (rA 5) (rK9 5) 28 (fun i => nI (rr i)), ia (rA 6) (rK9 6) 28 vv, ia (rA 34) (rK9 34) 8 g.2.1, ia (rA 29) (rK9 29) 28 (fun i0 => mN (fm i0)), ia (rA 31) (rK9 31) 28 (fun i => nI (g.2.2.2.2 i)), ia (rA 32) (rK9 32) 28 g.2.2.1, ia (rA 30) (rK9 30) 28 (fun i => nI (g.2.2.2.1 i)), ia (rA 35) (rK9 35) 7 (fun i => nI (li i))]) hP hD rfl hS hA [0, 1, 2, 3, 4, 5, 6, 7, 8, 9, 10, 11, 12] (by decide +kernel) rfl
                    exact ih_i1 _ _ _ ⟨hP8, hS, lv_sub hl [0, 1, 3, 4, 5, 6] rfl⟩
                  · skip
                    have hd3 : ¬ (g.2.2.2.1 (li i1) = 0) := fun q9 => d3 ((nI_eq (a := g.2.2.2.1 (li i1)) (b := 0) (by omega) (by omega)).mpr q9)
                    refine tp_pc (pc' := 269) (by rfl) ?_
                    refine lv_aload_n hx hb d_Ref_goes_269 rfl (lv_at hl 6 rfl) ?_
                    refine va_get (D := (dC, dI)) (ci := 8) (v := .ref (rA 29)) (C := R_Ref) (T := F_Ref) (N := 48) hx hb hw i_Ref hown hK hP 0 rfl rfl 29 (by decide) (hw _ m_928) (fun _ h9 => h9) rfl d_Ref_goes_270 ?_
                    refine lv_iload hx hb d_Ref_goes_273 (lv_at hl 0 rfl) ?_
                    refine va_iald (D := (dC, dI)) hx hb hK hP 8 7 rfl rfl (i := nI (li i1)) (pk_in (li i1) 28 (by omega)) d_Ref_goes_275 ?_
                    refine tp_i (y := (fun i0 => mN (fm i0)) (li i1)) (by rw [show (nI (li i1) : Int32).toNatClampNeg = li i1 from pk_cl (li i1)]) ?_
                    refine tp_i (y := mN (fm (li i1))) rfl ?_
                    by_cases e0 : fm (li i1) = 0
                    · skip
                      refine tp_i (y := (-1)) (by rw [e0, mN_0]) ?_
                      have hib : fiP kd vx li fm g.2.2.2.1 x1 i1 = true := decide_eq_true (⟨hd1, hd2, by omega, e0⟩)
                      refine lv_if_ge (tgt := 283) hx hb d_Ref_goes_276 (by decide) (fun c_13 => absurd c_13 (by decide)) (fun c_13 => ?_)
                      refine tp_pc (pc' := 279) (by rfl) ?_
                      refine lv_iconst (v := 1) hx hb d_Ref_goes_279 (by decide) ?_
                      refine lv_goto (tgt := 284) hx hb d_Ref_goes_280 (by decide) ?_
                      refine tp_pc (pc' := 284) (by rfl) ?_
                      refine lv_iadd hx hb d_Ref_goes_284 ?_
                      refine tp_i (y := nI (ctB (fiP kd vx li fm g.2.2.2.1 x1) i1 + 1)) (by exact nI_add (ctB (fiP kd vx li fm g.2.2.2.1 x1) i1) 1) ?_
                      refine tp_i (y := nI (ctB (fiP kd vx li fm g.2.2.2.1 x1) (i1 + 1))) (by rw [ctB, hib]; rfl) ?_
                      refine lv_istore (lv' := [(4, .int (nI (ctB (fiP kd vx li fm g.2.2.2.1 x1) (i1 + 1)))), (6, .int (nI (li i1))), (5, .int (nI i1)), (3, .int (nI x1)), (2, .int (if anB kd vx li fm g.2.2.2.1 ld x1 = true then 1 else 0)), (1, .int (if false = true then 1 else 0)), (0, .ref ra)]) hx hb d_Ref_goes_285 hl (by decide) rfl ?_
                      clear hl ls
                      intro ls hl
                      refine lv_iinc (v := nI (i1 + 1)) (lv' := [(5, .int (nI (i1 + 1))), (4, .int (nI (ctB (fiP kd vx li fm g.2.2.2.1 x1) (i1 + 1)))), (6, .int (nI (li i1))), (3, .int (nI x1)), (2, .int (if anB kd vx li fm g.2.2.2.1 ld x1 = true then 1 else 0)), (1, .int (if false = true then 1 else 0)), (0, .ref ra)]) hx hb d_Ref_goes_287 hl (k := 2) rfl (by exact nI_1 i1) (by decide) rfl ?_
                      clear hl ls
                      intro ls hl
                      refine lv_goto (tgt := 217) hx hb d_Ref_goes_290 (by decide) ?_
                      refine tp_pc (pc' := 217) (by rfl) ?_
                      obtain ⟨hP8, -, -⟩ := cut3 (wc := [oc ra 8 [.int (nI T), .int (nI Ac), .ref (rA 2), .ref (rA 3), .ref (rA 4), .ref (rA 5), .ref (rA 6), .ref (rA 7), .ref (rA 8), .ref (rA 9), .ref (rA 10), .ref (rA 11), .ref (rA 12), .ref (rA 13), .int ir, .ref (rA 15), .ref (rA 16), .ref (rA 17), .ref (rA 18), .int (nI md), .int (nI wd), .ref (rA 21), .ref (rA 22), .ref (rA 23), .int (nI mn), .ref (rA 25), .int (nI cb), .int mr, .ref (rA 28), .ref (rA 29), .ref (rA 30), .ref (rA 31), .ref (rA 32), .ref (rA 33), .ref (rA 34), .ref (rA 35), .int (nI ld), .int (nI gm), .ref (rA 38), .ref (rA 39), .ref (rA 40), .ref (rA 41), .ref (rA 42), .ref (rA 43), .ref (rA 44), .ref (rA 45), .int (nI my), .ref (rA 47)], ia (rA 33) (rK9 33) 4 (fun i => nI (g.1 i)), ia (rA 2) (rK9 2) 4 (fun i => nI (zs i)), ia (rA 3) (rK9 3) 28 (fun i => nI (kd i)), ia (rA 4) (rK9 4) 28 (fun i => nI (vx i)), ia (rA 5) (rK9 5) 28 (fun i => nI (rr i)), ia (rA 6) (rK9 6) 28 vv, ia (rA 34) (rK9 34) 8 g.2.1, ia (rA 29) (rK9 29) 28 (fun i0 => mN (fm i0)), ia (rA 31) (rK9 31) 28 (fun i => nI (g.2.2.2.2 i)), ia (rA 32) (rK9 32) 28 g.2.2.1, ia (rA 30) (rK9 30) 28 (fun i => nI (g.2.2.2.1 i)), ia (rA 35) (rK9 35) 7 (fun i => nI (li i))]) hP hD rfl hS hA [0, 1, 2, 3, 4, 5, 6, 7, 8, 9, 10, 11, 12] (by decide +kernel) rfl
                      exact ih_i1 _ _ _ ⟨hP8, hS, lv_sub hl [0, 1, 3, 4, 5, 6] rfl⟩
                    · skip
                      refine tp_i (y := nI (fm (li i1) - 1)) (mN_s e0) ?_
                      refine lv_if_ge (tgt := 283) hx hb d_Ref_goes_276 (by decide) (fun c9 => ?_) (fun c9 => absurd (nI_pos' (by omega)) c9)
                      have hib : fiP kd vx li fm g.2.2.2.1 x1 i1 = false := decide_eq_false (fun q => e0 q.2.2.2)
                      refine tp_pc (pc' := 283) (by rfl) ?_
                      refine lv_iconst (v := 0) hx hb d_Ref_goes_283 (by decide) ?_
                      refine lv_iadd hx hb d_Ref_goes_284 ?_
                      refine tp_i (y := nI (ctB (fiP kd vx li fm g.2.2.2.1 x1) i1 + 0)) (by exact nI_add (ctB (fiP kd vx li fm g.2.2.2.1 x1) i1) 0) ?_
                      refine tp_i (y := nI (ctB (fiP kd vx li fm g.2.2.2.1 x1) (i1 + 1))) (by rw [ctB, hib]; rfl) ?_
                      refine lv_istore (lv' := [(4, .int (nI (ctB (fiP kd vx li fm g.2.2.2.1 x1) (i1 + 1)))), (6, .int (nI (li i1))), (5, .int (nI i1)), (3, .int (nI x1)), (2, .int (if anB kd vx li fm g.2.2.2.1 ld x1 = true then 1 else 0)), (1, .int (if false = true then 1 else 0)), (0, .ref ra)]) hx hb d_Ref_goes_285 hl (by decide) rfl ?_
                      clear hl ls
                      intro ls hl
                      refine lv_iinc (v := nI (i1 + 1)) (lv' := [(5, .int (nI (i1 + 1))), (4, .int (nI (ctB (fiP kd vx li fm g.2.2.2.1 x1) (i1 + 1)))), (6, .int (nI (li i1))), (3, .int (nI x1)), (2, .int (if anB kd vx li fm g.2.2.2.1 ld x1 = true then 1 else 0)), (1, .int (if false = true then 1 else 0)), (0, .ref ra)]) hx hb d_Ref_goes_287 hl (k := 2) rfl (by exact nI_1 i1) (by decide) rfl ?_
                      clear hl ls
                      intro ls hl
                      refine lv_goto (tgt := 217) hx hb d_Ref_goes_290 (by decide) ?_
                      refine tp_pc (pc' := 217) (by rfl) ?_
                      obtain ⟨hP8, -, -⟩ := cut3 (wc := [oc ra 8 [.int (nI T), .int (nI Ac), .ref (rA 2), .ref (rA 3), .ref (rA 4), .ref (rA 5), .ref (rA 6), .ref (rA 7), .ref (rA 8), .ref (rA 9), .ref (rA 10), .ref (rA 11), .ref (rA 12), .ref (rA 13), .int ir, .ref (rA 15), .ref (rA 16), .ref (rA 17), .ref (rA 18), .int (nI md), .int (nI wd), .ref (rA 21), .ref (rA 22), .ref (rA 23), .int (nI mn), .ref (rA 25), .int (nI cb), .int mr, .ref (rA 28), .ref (rA 29), .ref (rA 30), .ref (rA 31), .ref (rA 32), .ref (rA 33), .ref (rA 34), .ref (rA 35), .int (nI ld), .int (nI gm), .ref (rA 38), .ref (rA 39), .ref (rA 40), .ref (rA 41), .ref (rA 42), .ref (rA 43), .ref (rA 44), .ref (rA 45), .int (nI my), .ref (rA 47)], ia (rA 33) (rK9 33) 4 (fun i => nI (g.1 i)), ia (rA 2) (rK9 2) 4 (fun i => nI (zs i)), ia (rA 3) (rK9 3) 28 (fun i => nI (kd i)), ia (rA 4) (rK9 4) 28 (fun i => nI (vx i)), ia (rA 5) (rK9 5) 28 (fun i => nI (rr i)), ia (rA 6) (rK9 6) 28 vv, ia (rA 34) (rK9 34) 8 g.2.1, ia (rA 29) (rK9 29) 28 (fun i0 => mN (fm i0)), ia (rA 31) (rK9 31) 28 (fun i => nI (g.2.2.2.2 i)), ia (rA 32) (rK9 32) 28 g.2.2.1, ia (rA 30) (rK9 30) 28 (fun i => nI (g.2.2.2.1 i)), ia (rA 35) (rK9 35) 7 (fun i => nI (li i))]) hP hD rfl hS hA [0, 1, 2, 3, 4, 5, 6, 7, 8, 9, 10, 11, 12] (by decide +kernel) rfl
                      exact ih_i1 _ _ _ ⟨hP8, hS, lv_sub hl [0, 1, 3, 4, 5, 6] rfl⟩
            · intro H locs ls hI
              obtain ⟨hP, hS, hl⟩ := hI
              have mlx := ctB_le (p := fiP kd vx li fm g.2.2.2.1 x1) ld
              refine lv_iload hx hb d_Ref_goes_217 (lv_at hl 0 rfl) ?_
              refine lv_aload_n hx hb d_Ref_goes_219 rfl (lv_at hl 5 rfl) ?_
              refine va_get (D := (dC, dI)) (ci := 8) (v := .int (nI ld)) (C := R_Ref) (T := F_Ref) (N := 48) hx hb hw i_Ref hown hK hP 0 rfl rfl 36 (by decide) (hw _ m_935) (fun _ h9 => h9) rfl d_Ref_goes_220 ?_
              refine lv_icmp_ge (tgt := 293) hx hb d_Ref_goes_223 (by decide) (fun c9 => ?_) (fun c9 => absurd (nI_le (Nat.le_refl _) (by omega)) c9)
              refine tp_pc (pc' := 293) (by rfl) ?_
              refine lv_iload_n hx hb d_Ref_goes_293 rfl (lv_at hl 3 rfl) ?_
              cases hb9 : anB kd vx li fm g.2.2.2.1 ld x1 with
              | true =>
                rw [if_pos (rfl : true = true)]
                refine lv_if_ne (tgt := 303) hx hb d_Ref_goes_294 (by decide) (fun c_14 => ?_) (fun c_14 => absurd c_14 (by decide))
                refine tp_pc (pc' := 303) (by rfl) ?_
                refine lv_iconst (v := 1) hx hb d_Ref_goes_303 (by decide) ?_
                refine lv_goto (tgt := 308) hx hb d_Ref_goes_304 (by decide) ?_
                refine tp_pc (pc' := 308) (by rfl) ?_
                refine tp_i (y := (if anB kd vx li fm g.2.2.2.1 ld (x1 + 1) = true then 1 else 0)) (by rw [anB, hb9, Bool.true_or]; rfl) ?_
                refine lv_istore_n (lv' := [(2, .int (if anB kd vx li fm g.2.2.2.1 ld (x1 + 1) = true then 1 else 0)), (5, .int (nI ld)), (4, .int (nI (ctB (fiP kd vx li fm g.2.2.2.1 x1) ld))), (3, .int (nI x1)), (1, .int (if false = true then 1 else 0)), (0, .ref ra)]) hx hb d_Ref_goes_308 rfl hl (by decide) rfl ?_
                clear hl ls
                intro ls hl
                refine lv_iinc (v := nI (x1 + 1)) (lv' := [(3, .int (nI (x1 + 1))), (2, .int (if anB kd vx li fm g.2.2.2.1 ld (x1 + 1) = true then 1 else 0)), (5, .int (nI ld)), (4, .int (nI (ctB (fiP kd vx li fm g.2.2.2.1 x1) ld))), (1, .int (if false = true then 1 else 0)), (0, .ref ra)]) hx hb d_Ref_goes_309 hl (k := 3) rfl (by exact nI_1 x1) (by decide) rfl ?_
                clear hl ls
                intro ls hl
                refine lv_goto (tgt := 206) hx hb d_Ref_goes_312 (by decide) ?_
                refine tp_pc (pc' := 206) (by rfl) ?_
                obtain ⟨hP8, -, -⟩ := cut3 (wc := [oc ra 8 [.int (nI T), .int (nI Ac), .ref (rA 2), .ref (rA 3), .ref (rA 4), .ref (rA 5), .ref (rA 6), .ref (rA 7), .ref (rA 8), .ref (rA 9), .ref (rA 10), .ref (rA 11), .ref (rA 12), .ref (rA 13), .int ir, .ref (rA 15), .ref (rA 16), .ref (rA 17), .ref (rA 18), .int (nI md), .int (nI wd), .ref (rA 21), .ref (rA 22), .ref (rA 23), .int (nI mn), .ref (rA 25), .int (nI cb), .int mr, .ref (rA 28), .ref (rA 29), .ref (rA 30), .ref (rA 31), .ref (rA 32), .ref (rA 33), .ref (rA 34), .ref (rA 35), .int (nI ld), .int (nI gm), .ref (rA 38), .ref (rA 39), .ref (rA 40), .ref (rA 41), .ref (rA 42), .ref (rA 43), .ref (rA 44), .ref (rA 45), .int (nI my), .ref (rA 47)], ia (rA 33) (rK9 33) 4 (fun i => nI (g.1 i)), ia (rA 2) (rK9 2) 4 (fun i => nI (zs i)), ia (rA 3) (rK9 3) 28 (fun i => nI (kd i)), ia (rA 4) (rK9 4) 28 (fun i => nI (vx i)), ia (rA 5) (rK9 5) 28 (fun i => nI (rr i)), ia (rA 6) (rK9 6) 28 vv, ia (rA 34) (rK9 34) 8 g.2.1, ia (rA 29) (rK9 29) 28 (fun i0 => mN (fm i0)), ia (rA 31) (rK9 31) 28 (fun i => nI (g.2.2.2.2 i)), ia (rA 32) (rK9 32) 28 g.2.2.1, ia (rA 30) (rK9 30) 28 (fun i => nI (g.2.2.2.1 i)), ia (rA 35) (rK9 35) 7 (fun i => nI (li i))]) hP hD rfl hS hA [0, 1, 2, 3, 4, 5, 6, 7, 8, 9, 10, 11, 12] (by decide +kernel) rfl
                exact ih_x1 _ _ _ ⟨hP8, hS, lv_sub hl [0, 1, 4, 5] rfl⟩
              | false =>
                rw [if_neg (by decide : ¬ (false = true))]
                refine lv_if_ne (tgt := 303) hx hb d_Ref_goes_294 (by decide) (fun c_15 => absurd c_15 (by decide)) (fun c_15 => ?_)
                refine tp_pc (pc' := 297) (by rfl) ?_
                refine lv_iload hx hb d_Ref_goes_297 (lv_at hl 1 rfl) ?_
                refine lv_iconst (v := 1) hx hb d_Ref_goes_299 (by decide) ?_
                refine lv_icmp_le (tgt := 307) hx hb d_Ref_goes_300 (by decide) (fun e1 => ?_) (fun e1 => ?_)
                · skip
                  have he1 : ctB (fiP kd vx li fm g.2.2.2.1 x1) ld ≤ 1 := (nI_leI (a := ctB (fiP kd vx li fm g.2.2.2.1 x1) ld) (b := 1) (by omega) (by omega)).mp e1
                  refine tp_pc (pc' := 307) (by rfl) ?_
                  refine lv_iconst (v := 0) hx hb d_Ref_goes_307 (by decide) ?_
                  refine tp_i (y := (if anB kd vx li fm g.2.2.2.1 ld (x1 + 1) = true then 1 else 0)) (by rw [anB, hb9, Bool.false_or, decide_eq_false (by omega)]; rfl) ?_
                  refine lv_istore_n (lv' := [(2, .int (if anB kd vx li fm g.2.2.2.1 ld (x1 + 1) = true then 1 else 0)), (5, .int (nI ld)), (4, .int (nI (ctB (fiP kd vx li fm g.2.2.2.1 x1) ld))), (3, .int (nI x1)), (1, .int (if false = true then 1 else 0)), (0, .ref ra)]) hx hb d_Ref_goes_308 rfl hl (by decide) rfl ?_
                  clear hl ls
                  intro ls hl
                  refine lv_iinc (v := nI (x1 + 1)) (lv' := [(3, .int (nI (x1 + 1))), (2, .int (if anB kd vx li fm g.2.2.2.1 ld (x1 + 1) = true then 1 else 0)), (5, .int (nI ld)), (4, .int (nI (ctB (fiP kd vx li fm g.2.2.2.1 x1) ld))), (1, .int (if false = true then 1 else 0)), (0, .ref ra)]) hx hb d_Ref_goes_309 hl (k := 3) rfl (by exact nI_1 x1) (by decide) rfl ?_
                  clear hl ls
                  intro ls hl
                  refine lv_goto (tgt := 206) hx hb d_Ref_goes_312 (by decide) ?_
                  refine tp_pc (pc' := 206) (by rfl) ?_
                  obtain ⟨hP8, -, -⟩ := cut3 (wc := [oc ra 8 [.int (nI T), .int (nI Ac), .ref (rA 2), .ref (rA 3), .ref (rA 4), .ref (rA 5), .ref (rA 6), .ref (rA 7), .ref (rA 8), .ref (rA 9), .ref (rA 10), .ref (rA 11), .ref (rA 12), .ref (rA 13), .int ir, .ref (rA 15), .ref (rA 16), .ref (rA 17), .ref (rA 18), .int (nI md), .int (nI wd), .ref (rA 21), .ref (rA 22), .ref (rA 23), .int (nI mn), .ref (rA 25), .int (nI cb), .int mr, .ref (rA 28), .ref (rA 29), .ref (rA 30), .ref (rA 31), .ref (rA 32), .ref (rA 33), .ref (rA 34), .ref (rA 35), .int (nI ld), .int (nI gm), .ref (rA 38), .ref (rA 39), .ref (rA 40), .ref (rA 41), .ref (rA 42), .ref (rA 43), .ref (rA 44), .ref (rA 45), .int (nI my), .ref (rA 47)], ia (rA 33) (rK9 33) 4 (fun i => nI (g.1 i)), ia (rA 2) (rK9 2) 4 (fun i => nI (zs i)), ia (rA 3) (rK9 3) 28 (fun i => nI (kd i)), ia (rA 4) (rK9 4) 28 (fun i => nI (vx i)), ia (rA 5) (rK9 5) 28 (fun i => nI (rr i)), ia (rA 6) (rK9 6) 28 vv, ia (rA 34) (rK9 34) 8 g.2.1, ia (rA 29) (rK9 29) 28 (fun i0 => mN (fm i0)), ia (rA 31) (rK9 31) 28 (fun i => nI (g.2.2.2.2 i)), ia (rA 32) (rK9 32) 28 g.2.2.1, ia (rA 30) (rK9 30) 28 (fun i => nI (g.2.2.2.1 i)), ia (rA 35) (rK9 35) 7 (fun i => nI (li i))]) hP hD rfl hS hA [0, 1, 2, 3, 4, 5, 6, 7, 8, 9, 10, 11, 12] (by decide +kernel) rfl
                  exact ih_x1 _ _ _ ⟨hP8, hS, lv_sub hl [0, 1, 4, 5] rfl⟩
                · skip
                  have he1 : ¬ (ctB (fiP kd vx li fm g.2.2.2.1 x1) ld ≤ 1) := fun q9 => e1 ((nI_leI (a := ctB (fiP kd vx li fm g.2.2.2.1 x1) ld) (b := 1) (by omega) (by omega)).mpr q9)
                  refine tp_pc (pc' := 303) (by rfl) ?_
                  refine lv_iconst (v := 1) hx hb d_Ref_goes_303 (by decide) ?_
                  refine lv_goto (tgt := 308) hx hb d_Ref_goes_304 (by decide) ?_
                  refine tp_pc (pc' := 308) (by rfl) ?_
                  refine tp_i (y := (if anB kd vx li fm g.2.2.2.1 ld (x1 + 1) = true then 1 else 0)) (by rw [anB, hb9, Bool.false_or, decide_eq_true (by omega)]; rfl) ?_
                  refine lv_istore_n (lv' := [(2, .int (if anB kd vx li fm g.2.2.2.1 ld (x1 + 1) = true then 1 else 0)), (5, .int (nI ld)), (4, .int (nI (ctB (fiP kd vx li fm g.2.2.2.1 x1) ld))), (3, .int (nI x1)), (1, .int (if false = true then 1 else 0)), (0, .ref ra)]) hx hb d_Ref_goes_308 rfl hl (by decide) rfl ?_
                  clear hl ls
                  intro ls hl
                  refine lv_iinc (v := nI (x1 + 1)) (lv' := [(3, .int (nI (x1 + 1))), (2, .int (if anB kd vx li fm g.2.2.2.1 ld (x1 + 1) = true then 1 else 0)), (5, .int (nI ld)), (4, .int (nI (ctB (fiP kd vx li fm g.2.2.2.1 x1) ld))), (1, .int (if false = true then 1 else 0)), (0, .ref ra)]) hx hb d_Ref_goes_309 hl (k := 3) rfl (by exact nI_1 x1) (by decide) rfl ?_
                  clear hl ls
                  intro ls hl
                  refine lv_goto (tgt := 206) hx hb d_Ref_goes_312 (by decide) ?_
                  refine tp_pc (pc' := 206) (by rfl) ?_
                  obtain ⟨hP8, -, -⟩ := cut3 (wc := [oc ra 8 [.int (nI T), .int (nI Ac), .ref (rA 2), .ref (rA 3), .ref (rA 4), .ref (rA 5), .ref (rA 6), .ref (rA 7), .ref (rA 8), .ref (rA 9), .ref (rA 10), .ref (rA 11), .ref (rA 12), .ref (rA 13), .int ir, .ref (rA 15), .ref (rA 16), .ref (rA 17), .ref (rA 18), .int (nI md), .int (nI wd), .ref (rA 21), .ref (rA 22), .ref (rA 23), .int (nI mn), .ref (rA 25), .int (nI cb), .int mr, .ref (rA 28), .ref (rA 29), .ref (rA 30), .ref (rA 31), .ref (rA 32), .ref (rA 33), .ref (rA 34), .ref (rA 35), .int (nI ld), .int (nI gm), .ref (rA 38), .ref (rA 39), .ref (rA 40), .ref (rA 41), .ref (rA 42), .ref (rA 43), .ref (rA 44), .ref (rA 45), .int (nI my), .ref (rA 47)], ia (rA 33) (rK9 33) 4 (fun i => nI (g.1 i)), ia (rA 2) (rK9 2) 4 (fun i => nI (zs i)), ia (rA 3) (rK9 3) 28 (fun i => nI (kd i)), ia (rA 4) (rK9 4) 28 (fun i => nI (vx i)), ia (rA 5) (rK9 5) 28 (fun i => nI (rr i)), ia (rA 6) (rK9 6) 28 vv, ia (rA 34) (rK9 34) 8 g.2.1, ia (rA 29) (rK9 29) 28 (fun i0 => mN (fm i0)), ia (rA 31) (rK9 31) 28 (fun i => nI (g.2.2.2.2 i)), ia (rA 32) (rK9 32) 28 g.2.2.1, ia (rA 30) (rK9 30) 28 (fun i => nI (g.2.2.2.1 i)), ia (rA 35) (rK9 35) 7 (fun i => nI (li i))]) hP hD rfl hS hA [0, 1, 2, 3, 4, 5, 6, 7, 8, 9, 10, 11, 12] (by decide +kernel) rfl
                  exact ih_x1 _ _ _ ⟨hP8, hS, lv_sub hl [0, 1, 4, 5] rfl⟩
          · intro H locs ls hI
            obtain ⟨hP, hS, hl⟩ := hI
            replace hl : lv_has ls 7 [(3, .int 3), (2, .int (if anB kd vx li fm g.2.2.2.1 ld 3 = true then 1 else 0)), (1, .int (if false = true then 1 else 0)), (0, .ref ra)] := hl
            refine lv_iload_n hx hb d_Ref_goes_206 rfl (lv_at hl 0 rfl) ?_
            refine lv_iconst (v := 3) hx hb d_Ref_goes_207 (by decide) ?_
            refine lv_icmp_ge (tgt := 315) hx hb d_Ref_goes_208 (by decide) (fun c_16 => ?_) (fun c_16 => absurd c_16 (by decide))
            refine tp_pc (pc' := 315) (by rfl) ?_
            refine lv_iload_n hx hb d_Ref_goes_315 rfl (lv_at hl 1 rfl) ?_
            by_cases hb9 : anB kd vx li fm g.2.2.2.1 ld 3 = true
            · skip
              rw [if_pos hb9]
              refine lv_if_ne (tgt := 323) hx hb d_Ref_goes_316 (by decide) (fun c_17 => ?_) (fun c_17 => absurd c_17 (by decide))
              refine tp_pc (pc' := 323) (by rfl) ?_
              refine lv_iconst (v := 0) hx hb d_Ref_goes_323 (by decide) ?_
              obtain ⟨hP9, hD9, -⟩ := cut3 (wc := [oc ra 8 [.int (nI T), .int (nI Ac), .ref (rA 2), .ref (rA 3), .ref (rA 4), .ref (rA 5), .ref (rA 6), .ref (rA 7), .ref (rA 8), .ref (rA 9), .ref (rA 10), .ref (rA 11), .ref (rA 12), .ref (rA 13), .int ir, .ref (rA 15), .ref (rA 16), .ref (rA 17), .ref (rA 18), .int (nI md), .int (nI wd), .ref (rA 21), .ref (rA 22), .ref (rA 23), .int (nI mn), .ref (rA 25), .int (nI cb), .int mr, .ref (rA 28), .ref (rA 29), .ref (rA 30), .ref (rA 31), .ref (rA 32), .ref (rA 33), .ref (rA 34), .ref (rA 35), .int (nI ld), .int (nI gm), .ref (rA 38), .ref (rA 39), .ref (rA 40), .ref (rA 41), .ref (rA 42), .ref (rA 43), .ref (rA 44), .ref (rA 45), .int (nI my), .ref (rA 47)], ia (rA 33) (rK9 33) 4 (fun i => nI (g.1 i)), ia (rA 2) (rK9 2) 4 (fun i => nI (zs i)), ia (rA 3) (rK9 3) 28 (fun i => nI (kd i)), ia (rA 4) (rK9 4) 28 (fun i => nI (vx i)), ia (rA 5) (rK9 5) 28 (fun i => nI (rr i)), ia (rA 6) (rK9 6) 28 vv, ia (rA 34) (rK9 34) 8 g.2.1, ia (rA 29) (rK9 29) 28 (fun i0 => mN (fm i0)), ia (rA 31) (rK9 31) 28 (fun i => nI (g.2.2.2.2 i)), ia (rA 32) (rK9 32) 28 g.2.2.1, ia (rA 30) (rK9 30) 28 (fun i => nI (g.2.2.2.1 i)), ia (rA 35) (rK9 35) 7 (fun i => nI (li i))]) hP hD rfl hS hA [0, 1, 2, 3, 4, 5, 6, 7, 8, 9, 10, 11, 12] (by decide +kernel) rfl
              have hK9 := hK.sub (tys' := []) [] rfl
              refine W.widen (k := 0) (n := 0) (by exact Nat.le_of_ble_eq_true rfl) (by exact Nat.le_of_ble_eq_true rfl) ?_
              exact W.zret (v := 0) (ty := .boolean) hx hb hr (by decide) (fun t9 ht9 hW => ⟨⟨0, (), rfl, by rw [if_neg (fun q => absurd (hb9.symm.trans q.2.2) (by decide))], by rw [ht9]; exact hP9, va_K.moved hW.alike hK9, hD9⟩, hS.F ht9⟩) hS.2.2 d_Ref_goes_324
            · skip
              rw [if_neg hb9]
              refine lv_if_ne (tgt := 323) hx hb d_Ref_goes_316 (by decide) (fun c_18 => absurd c_18 (by decide)) (fun c_18 => ?_)
              refine tp_pc (pc' := 319) (by rfl) ?_
              refine lv_iconst (v := 1) hx hb d_Ref_goes_319 (by decide) ?_
              refine lv_goto (tgt := 324) hx hb d_Ref_goes_320 (by decide) ?_
              refine tp_pc (pc' := 324) (by rfl) ?_
              obtain ⟨hP9, hD9, -⟩ := cut3 (wc := [oc ra 8 [.int (nI T), .int (nI Ac), .ref (rA 2), .ref (rA 3), .ref (rA 4), .ref (rA 5), .ref (rA 6), .ref (rA 7), .ref (rA 8), .ref (rA 9), .ref (rA 10), .ref (rA 11), .ref (rA 12), .ref (rA 13), .int ir, .ref (rA 15), .ref (rA 16), .ref (rA 17), .ref (rA 18), .int (nI md), .int (nI wd), .ref (rA 21), .ref (rA 22), .ref (rA 23), .int (nI mn), .ref (rA 25), .int (nI cb), .int mr, .ref (rA 28), .ref (rA 29), .ref (rA 30), .ref (rA 31), .ref (rA 32), .ref (rA 33), .ref (rA 34), .ref (rA 35), .int (nI ld), .int (nI gm), .ref (rA 38), .ref (rA 39), .ref (rA 40), .ref (rA 41), .ref (rA 42), .ref (rA 43), .ref (rA 44), .ref (rA 45), .int (nI my), .ref (rA 47)], ia (rA 33) (rK9 33) 4 (fun i => nI (g.1 i)), ia (rA 2) (rK9 2) 4 (fun i => nI (zs i)), ia (rA 3) (rK9 3) 28 (fun i => nI (kd i)), ia (rA 4) (rK9 4) 28 (fun i => nI (vx i)), ia (rA 5) (rK9 5) 28 (fun i => nI (rr i)), ia (rA 6) (rK9 6) 28 vv, ia (rA 34) (rK9 34) 8 g.2.1, ia (rA 29) (rK9 29) 28 (fun i0 => mN (fm i0)), ia (rA 31) (rK9 31) 28 (fun i => nI (g.2.2.2.2 i)), ia (rA 32) (rK9 32) 28 g.2.2.1, ia (rA 30) (rK9 30) 28 (fun i => nI (g.2.2.2.1 i)), ia (rA 35) (rK9 35) 7 (fun i => nI (li i))]) hP hD rfl hS hA [0, 1, 2, 3, 4, 5, 6, 7, 8, 9, 10, 11, 12] (by decide +kernel) rfl
              have hK9 := hK.sub (tys' := []) [] rfl
              refine W.widen (k := 0) (n := 0) (by exact Nat.le_of_ble_eq_true rfl) (by exact Nat.le_of_ble_eq_true rfl) ?_
              exact W.zret (v := 1) (ty := .boolean) hx hb hr (by decide) (fun t9 ht9 hW => ⟨⟨1, (), rfl, by rw [if_pos ⟨hen, hun, (Bool.not_eq_true _).mp hb9⟩], by rw [ht9]; exact hP9, va_K.moved hW.alike hK9, hD9⟩, hS.F ht9⟩) hS.2.2 d_Ref_goes_324
