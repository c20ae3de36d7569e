/-- the next actions of two threads race -/
def mkI (zs kd vx pl : Nat → Nat) (t : Nat) (f : Nat → Int32) : Nat → (Nat → Int32)
  | 0 => f
  | i + 1 => if pl t < zs t ∧ pl (t + 1 + i) < zs (t + 1 + i) ∧ kd (7 * t + pl t) ≤ 3 ∧ kd (7 * (t + 1 + i) + pl (t + 1 + i)) ≤ 3 ∧ vx (7 * t + pl t) = vx (7 * (t + 1 + i) + pl (t + 1 + i)) ∧ ¬ (kd (7 * t + pl t) = 0 ∧ kd (7 * (t + 1 + i) + pl (t + 1 + i)) = 0) ∧ ¬ (kd (7 * t + pl t) = 3 ∧ kd (7 * (t + 1 + i) + pl (t + 1 + i)) = 3) then upd (upd (mkI zs kd vx pl t f i) (28 * (7 * t + pl t) + (7 * (t + 1 + i) + pl (t + 1 + i))) 1) (28 * (7 * (t + 1 + i) + pl (t + 1 + i)) + (7 * t + pl t)) 1 else mkI zs kd vx pl t f i
def mkO (zs kd vx pl : Nat → Nat) (T : Nat) (f : Nat → Int32) : Nat → (Nat → Int32)
  | 0 => f
  | t + 1 => mkI zs kd vx pl t (mkO zs kd vx pl T f t) (T - (t + 1))
set_option maxHeartbeats 4000000 in
set_option maxRecDepth 100000 in
theorem gen_Ref_markRaces (l : Launch) (dC : Nat → ClassId) (dI : Nat → Nat → Nat) (ra : Nat) (rA : Nat → Nat) (rK9 : Nat → ClassId) (T Ac md wd mn cb ld gm my : Nat) (ir mr : Int32) (sf rc9 : Nat → Int32) (zs kd vx pl : Nat → Nat) (hT : T ≤ 4) (hpl : ∀ t, t < T → sf t = nI (pl t) ∧ pl t ≤ 7) (hzs : ∀ t, t < T → zs t ≤ 7) (hkd : ∀ i, i < 28 → kd i < 6 ∧ vx i < 4) (sz : Nat) : Met l y_Ref_markRaces w_Ref_markRaces ({ frames := 0, cells := 0, slots := 0, locals := 0 }) (va_Pc [.ref ra] (fun U => U.heap.size = sz ∧ va_P (dC, dI) classes [oc ra 8 [.int (nI T), .int (nI Ac), .ref (rA 2), .ref (rA 3), .ref (rA 4), .ref (rA 5), .ref (rA 6), .ref (rA 7), .ref (rA 8), .ref (rA 9), .ref (rA 10), .ref (rA 11), .ref (rA 12), .ref (rA 13), .int ir, .ref (rA 15), .ref (rA 16), .ref (rA 17), .ref (rA 18), .int (nI md), .int (nI wd), .ref (rA 21), .ref (rA 22), .ref (rA 23), .int (nI mn), .ref (rA 25), .int (nI cb), .int mr, .ref (rA 28), .ref (rA 29), .ref (rA 30), .ref (rA 31), .ref (rA 32), .ref (rA 33), .ref (rA 34), .ref (rA 35), .int (nI ld), .int (nI gm), .ref (rA 38), .ref (rA 39), .ref (rA 40), .ref (rA 41), .ref (rA 42), .ref (rA 43), .ref (rA 44), .ref (rA 45), .int (nI my), .ref (rA 47)], ia (rA 16) (rK9 16) 155 sf, ia (rA 2) (rK9 2) 4 (fun i => nI (zs i)), ia (rA 3) (rK9 3) 28 (fun i => nI (kd i)), ia (rA 4) (rK9 4) 28 (fun i => nI (vx i)), ia (rA 15) (rK9 15) 784 rc9] U.heap ∧ va_K (dC, dI) classes [((rK9 16), .int), ((rK9 2), .int), ((rK9 3), .int), ((rK9 4), .int), ((rK9 15), .boolean)] U ∧ va_D (fun _ => True) [oc ra 8 [.int (nI T), .int (nI Ac), .ref (rA 2), .ref (rA 3), .ref (rA 4), .ref (rA 5), .ref (rA 6), .ref (rA 7), .ref (rA 8), .ref (rA 9), .ref (rA 10), .ref (rA 11), .ref (rA 12), .ref (rA 13), .int ir, .ref (rA 15), .ref (rA 16), .ref (rA 17), .ref (rA 18), .int (nI md), .int (nI wd), .ref (rA 21), .ref (rA 22), .ref (rA 23), .int (nI mn), .ref (rA 25), .int (nI cb), .int mr, .ref (rA 28), .ref (rA 29), .ref (rA 30), .ref (rA 31), .ref (rA 32), .ref (rA 33), .ref (rA 34), .ref (rA 35), .int (nI ld), .int (nI gm), .ref (rA 38), .ref (rA 39), .ref (rA 40), .ref (rA 41), .ref (rA 42), .ref (rA 43), .ref (rA 44), .ref (rA 45), .int (nI my), .ref (rA 47)], ia (rA 16) (rK9 16) 155 sf, ia (rA 2) (rK9 2) 4 (fun i => nI (zs i)), ia (rA 3) (rK9 3) 28 (fun i => nI (kd i)), ia (rA 4) (rK9 4) 28 (fun i => nI (vx i)), ia (rA 15) (rK9 15) 784 rc9] ∧ nw U)) (va_Qv (fun _ : Unit => True) (fun _ t9 => va_P (dC, dI) classes [oc ra 8 [.int (nI T), .int (nI Ac), .ref (rA 2), .ref (rA 3), .ref (rA 4), .ref (rA 5), .ref (rA 6), .ref (rA 7), .ref (rA 8), .ref (rA 9), .ref (rA 10), .ref (rA 11), .ref (rA 12), .ref (rA 13), .int ir, .ref (rA 15), .ref (rA 16), .ref (rA 17), .ref (rA 18), .int (nI md), .int (nI wd), .ref (rA 21), .ref (rA 22), .ref (rA 23), .int (nI mn), .ref (rA 25), .int (nI cb), .int mr, .ref (rA 28), .ref (rA 29), .ref (rA 30), .ref (rA 31), .ref (rA 32), .ref (rA 33), .ref (rA 34), .ref (rA 35), .int (nI ld), .int (nI gm), .ref (rA 38), .ref (rA 39), .ref (rA 40), .ref (rA 41), .ref (rA 42), .ref (rA 43), .ref (rA 44), .ref (rA 45), .int (nI my), .ref (rA 47)], ia (rA 16) (rK9 16) 155 sf, ia (rA 2) (rK9 2) 4 (fun i => nI (zs i)), ia (rA 3) (rK9 3) 28 (fun i => nI (kd i)), ia (rA 4) (rK9 4) 28 (fun i => nI (vx i)), ia (rA 15) (rK9 15) 784 (mkO zs kd vx pl T rc9 T)] t9.heap ∧ va_K (dC, dI) classes [] t9 ∧ va_D (va_A [oc ra 8 [.int (nI T), .int (nI Ac), .ref (rA 2), .ref (rA 3), .ref (rA 4), .ref (rA 5), .ref (rA 6), .ref (rA 7), .ref (rA 8), .ref (rA 9), .ref (rA 10), .ref (rA 11), .ref (rA 12), .ref (rA 13), .int ir, .ref (rA 15), .ref (rA 16), .ref (rA 17), .ref (rA 18), .int (nI md), .int (nI wd), .ref (rA 21), .ref (rA 22), .ref (rA 23), .int (nI mn), .ref (rA 25), .int (nI cb), .int mr, .ref (rA 28), .ref (rA 29), .ref (rA 30), .ref (rA 31), .ref (rA 32), .ref (rA 33), .ref (rA 34), .ref (rA 35), .int (nI ld), .int (nI gm), .ref (rA 38), .ref (rA 39), .ref (rA 40), .ref (rA 41), .ref (rA 42), .ref (rA 43), .ref (rA 44), .ref (rA 45), .int (nI my), .ref (rA 47)], ia (rA 16) (rK9 16) 155 sf, ia (rA 2) (rK9 2) 4 (fun i => nI (zs i)), ia (rA 3) (rK9 3) 28 (fun i => nI (kd i)), ia (rA 4) (rK9 4) 28 (fun i => nI (vx i)), ia (rA 15) (rK9 15) 784 rc9] sz) [oc ra 8 [.int (nI T), .int (nI Ac), .ref (rA 2), .ref (rA 3), .ref (rA 4), .ref (rA 5), .ref (rA 6), .ref (rA 7), .ref (rA 8), .ref (rA 9), .ref (rA 10), .ref (rA 11), .ref (rA 12), .ref (rA 13), .int ir, .ref (rA 15), .ref (rA 16), .ref (rA 17), .ref (rA 18), .int (nI md), .int (nI wd), .ref (rA 21), .ref (rA 22), .ref (rA 23), .int (nI mn), .ref (rA 25), .int (nI cb), .int mr, .ref (rA 28), .ref (rA 29), .ref (rA 30), .ref (rA 31), .ref (rA 32), .ref (rA 33), .ref (rA 34), .ref (rA 35), .int (nI ld), .int (nI gm), .ref (rA 38), .ref (rA 39), .ref (rA 40), .ref (rA 41), .ref (rA 42), .ref (rA 43), .ref (rA 44), .ref (rA 45), .int (nI my), .ref (rA 47)], ia (rA 16) (rK9 16) 155 sf, ia (rA 2) (rK9 2) 4 (fun i => nI (zs i)), ia (rA 3) (rK9 3) 28 (fun i => nI (kd i)), ia (rA 4) (rK9 4) 28 (fun i => nI (vx i)), ia (rA 15) (rK9 15) 784 (mkO zs kd vx pl T rc9 T)]) (va_A [oc ra 8 [.int (nI T), .int (nI Ac), .ref (rA 2), .ref (rA 3), .ref (rA 4), .ref (rA 5), .ref (rA 6), .ref (rA 7), .ref (rA 8), .ref (rA 9), .ref (rA 10), .ref (rA 11), .ref (rA 12), .ref (rA 13), .int ir, .ref (rA 15), .ref (rA 16), .ref (rA 17), .ref (rA 18), .int (nI md), .int (nI wd), .ref (rA 21), .ref (rA 22), .ref (rA 23), .int (nI mn), .ref (rA 25), .int (nI cb), .int mr, .ref (rA 28), .ref (rA 29), .ref (rA 30), .ref (rA 31), .ref (rA 32), .ref (rA 33), .ref (rA 34), .ref (rA 35), .int (nI ld), .int (nI gm), .ref (rA 38), .ref (rA 39), .ref (rA 40), .ref (rA 41), .ref (rA 42), .ref (rA 43), .ref (rA 44), .ref (rA 45), .int (nI my), .ref (rA 47)], ia (rA 16) (rK9 16) 155 sf, ia (rA 2) (rK9 2) 4 (fun i => nI (zs i)), ia (rA 3) (rK9 3) 28 (fun i => nI (kd i)), ia (rA 4) (rK9 4) 28 (fun i => nI (vx i)), ia (rA 15) (rK9 15) 784 rc9] sz)) 0 0 (va_A [oc ra 8 [.int (nI T), .int (nI Ac), .ref (rA 2), .ref (rA 3), .ref (rA 4), .ref (rA 5), .ref (rA 6), .ref (rA 7), .ref (rA 8), .ref (rA 9), .ref (rA 10), .ref (rA 11), .ref (rA 12), .ref (rA 13), .int ir, .ref (rA 15), .ref (rA 16), .ref (rA 17), .ref (rA 18), .int (nI md), .int (nI wd), .ref (rA 21), .ref (rA 22), .ref (rA 23), .int (nI mn), .ref (rA 25), .int (nI cb), .int mr, .ref (rA 28), .ref (rA 29), .ref (rA 30), .ref (rA 31), .ref (rA 32), .ref (rA 33), .ref (rA 34), .ref (rA 35), .int (nI ld), .int (nI gm), .ref (rA 38), .ref (rA 39), .ref (rA 40), .ref (rA 41), .ref (rA 42), .ref (rA 43), .ref (rA 44), .ref (rA 45), .int (nI my), .ref (rA 47)], ia (rA 16) (rK9 16) 155 sf, ia (rA 2) (rK9 2) 4 (fun i => nI (zs i)), ia (rA 3) (rK9 3) 28 (fun i => nI (kd i)), ia (rA 4) (rK9 4) 28 (fun i => nI (vx i)), ia (rA 15) (rK9 15) 784 rc9] sz) := by
  refine Met.ofW (cc := b_Ref_markRaces) (maxL := 6) (ret := none) (by decide) rfl ?_
  intro p e0 s m args below meth c s₁ B hml hv
  obtain ⟨rfl, hsz, hP, hK, hD0, hn⟩ := hv
  have hx := B.exec
  have hb := B.bytes
  have hr := B.returns
  have hw := fun w (h : w ∈ wt) => atoms_spec (ws := w_Ref_markRaces) B.pre w (List.mem_cons_of_mem _ h)
  have hown : s.vm.findClass R_Ref = some m.cls := findClass_of_methodNamed B.named
  have hlocks := B.notSynchronized
  subst hsz
  have hD1 := hD0.self (sz := s.heap.size)
  generalize hAe : va_A [oc ra 8 [.int (nI T), .int (nI Ac), .ref (rA 2), .ref (rA 3), .ref (rA 4), .ref (rA 5), .ref (rA 6), .ref (rA 7), .ref (rA 8), .ref (rA 9), .ref (rA 10), .ref (rA 11), .ref (rA 12), .ref (rA 13), .int ir, .ref (rA 15), .ref (rA 16), .ref (rA 17), .ref (rA 18), .int (nI md), .int (nI wd), .ref (rA 21), .ref (rA 22), .ref (rA 23), .int (nI mn), .ref (rA 25), .int (nI cb), .int mr, .ref (rA 28), .ref (rA 29), .ref (rA 30), .ref (rA 31), .ref (rA 32), .ref (rA 33), .ref (rA 34), .ref (rA 35), .int (nI ld), .int (nI gm), .ref (rA 38), .ref (rA 39), .ref (rA 40), .ref (rA 41), .ref (rA 42), .ref (rA 43), .ref (rA 44), .ref (rA 45), .int (nI my), .ref (rA 47)], ia (rA 16) (rK9 16) 155 sf, ia (rA 2) (rK9 2) 4 (fun i => nI (zs i)), ia (rA 3) (rK9 3) 28 (fun i => nI (kd i)), ia (rA 4) (rK9 4) 28 (fun i => nI (vx i)), ia (rA 15) (rK9 15) 784 rc9] s.heap.size = A at hD1 ⊢
  have hA : ∀ q : Nat, s.heap.size ≤ q → A q := fun q h => by rw [← hAe]; exact Or.inr h
  have hD : dd A [ra, (rA 16), (rA 2), (rA 3), (rA 4), (rA 15)] := dd_of hD1 rfl
  clear hAe hD0 hD1
  have hS : va_S A s.heap s.heap [] := va_S.rf
  replace hP : va_P (dC, dI) classes [oc ra 8 [.int (nI T), .int (nI Ac), .ref (rA 2), .ref (rA 3), .ref (rA 4), .ref (rA 5), .ref (rA 6), .ref (rA 7), .ref (rA 8), .ref (rA 9), .ref (rA 10), .ref (rA 11), .ref (rA 12), .ref (rA 13), .int ir, .ref (rA 15), .ref (rA 16), .ref (rA 17), .ref (rA 18), .int (nI md), .int (nI wd), .ref (rA 21), .ref (rA 22), .ref (rA 23), .int (nI mn), .ref (rA 25), .int (nI cb), .int mr, .ref (rA 28), .ref (rA 29), .ref (rA 30), .ref (rA 31), .ref (rA 32), .ref (rA 33), .ref (rA 34), .ref (rA 35), .int (nI ld), .int (nI gm), .ref (rA 38), .ref (rA 39), .ref (rA 40), .ref (rA 41), .ref (rA 42), .ref (rA 43), .ref (rA 44), .ref (rA 45), .int (nI my), .ref (rA 47)], ia (rA 16) (rK9 16) 155 sf, ia (rA 2) (rK9 2) 4 (fun i => nI (zs i)), ia (rA 3) (rK9 3) 28 (fun i => nI (kd i)), ia (rA 4) (rK9 4) 28 (fun i => nI (vx i)), ia (rA 15) (rK9 15) 784 rc9] s.heap := hP
  have hl := lv_entry ([.ref ra]) (n := 6) (Nat.le_of_ble_eq_true rfl)
  rw [lg_entry_eq]
  generalize (lg_sl ([.ref ra]) ++ List.replicate (6 - (lg_sl ([.ref ra])).length) Slot.unset).toArray = ls at hl ⊢
  replace hl : lv_has ls 6 [(0, .ref ra)] := hl
  refine lv_iconst (v := 0) hx hb d_Ref_markRaces_0 (by decide) ?_
  refine lv_istore_n (lv' := [(1, .int 0), (0, .ref ra)]) hx hb d_Ref_markRaces_1 rfl hl (by decide) rfl ?_
  clear hl ls
  intro ls hl
  replace hP : va_P (dC, dI) classes [oc ra 8 [.int (nI T), .int (nI Ac), .ref (rA 2), .ref (rA 3), .ref (rA 4), .ref (rA 5), .ref (rA 6), .ref (rA 7), .ref (rA 8), .ref (rA 9), .ref (rA 10), .ref (rA 11), .ref (rA 12), .ref (rA 13), .int ir, .ref (rA 15), .ref (rA 16), .ref (rA 17), .ref (rA 18), .int (nI md), .int (nI wd), .ref (rA 21), .ref (rA 22), .ref (rA 23), .int (nI mn), .ref (rA 25), .int (nI cb), .int mr, .ref (rA 28), .ref (rA 29), .ref (rA 30), .ref (rA 31), .ref (rA 32), .ref (rA 33), .ref (rA 34), .ref (rA 35), .int (nI ld), .int (nI gm), .ref (rA 38), .ref (rA 39), .ref (rA 40), .ref (rA 41), .ref (rA 42), .ref (rA 43), .ref (rA 44), .ref (rA 45), .int (nI my), .ref (rA 47)], ia (rA 16) (rK9 16) 155 sf, ia (rA 2) (rK9 2) 4 (fun i => nI (zs i)), ia (rA 3) (rK9 3) 28 (fun i => nI (kd i)), ia (rA 4) (rK9 4) 28 (fun i => nI (vx i)), ia (rA 15) (rK9 15) 784 (mkO zs kd vx pl T rc9 0)] s.heap := hP
  replace hl : lv_has ls 6 [(1, .int (nI 0)), (0, .ref ra)] := hl
  refine lp_n T (fun t1 H locs ls => va_P (dC, dI) classes [oc ra 8 [.int (nI T), .int (nI Ac), .ref (rA 2), .ref (rA 3), .ref (rA 4), .ref (rA 5), .ref (rA 6), .ref (rA 7), .ref (rA 8), .ref (rA 9), .ref (rA 10), .ref (rA 11), .ref (rA 12), .ref (rA 13), .int ir, .ref (rA 15), .ref (rA 16), .ref (rA 17), .ref (rA 18), .int (nI md), .int (nI wd), .ref (rA 21), .ref (rA 22), .ref (rA 23), .int (nI mn), .ref (rA 25), .int (nI cb), .int mr, .ref (rA 28), .ref (rA 29), .ref (rA 30), .ref (rA 31), .ref (rA 32), .ref (rA 33), .ref (rA 34), .ref (rA 35), .int (nI ld), .int (nI gm), .ref (rA 38), .ref (rA 39), .ref (rA 40), .ref (rA 41), .ref (rA 42), .ref (rA 43), .ref (rA 44), .ref (rA 45), .int (nI my), .ref (rA 47)], ia (rA 16) (rK9 16) 155 sf, ia (rA 2) (rK9 2) 4 (fun i => nI (zs i)), ia (rA 3) (rK9 3) 28 (fun i => nI (kd i)), ia (rA 4) (rK9 4) 28 (fun i => nI (vx i)), ia (rA 15) (rK9 15) 784 (mkO zs kd vx pl T rc9 t1)] H ∧ va_S A s.heap H locs ∧ lv_has ls 6 [(1, .int (nI t1)), (0, .ref ra)]) ⟨hP, hS, hl⟩ ?_ ?_
  · intro t1 H locs ls ht1 hI ih_t1
    obtain ⟨hP, hS, hl⟩ := hI
    refine lv_iload_n hx hb d_Ref_markRaces_2 rfl (lv_at hl 0 rfl) ?_
    refine lv_aload_n hx hb d_Ref_markRaces_3 rfl (lv_at hl 1 rfl) ?_
    refine va_get (D := (dC, dI)) (ci := 8) (v := .int (nI T)) (C := R_Ref) (T := F_Ref) (N := 48) hx hb hw i_Ref hown hK hP 0 rfl rfl 0 (by decide) (hw _ m_899) (fun _ h9 => h9) rfl d_Ref_markRaces_4 ?_
    refine lv_icmp_ge (tgt := 204) hx hb d_Ref_markRaces_7 (by decide) (fun c9 => absurd c9 (nI_ge ht1 (by omega))) (fun c9 => ?_)
    obtain ⟨a1, a2⟩ := hpl t1 ht1
    have a3 := hzs t1 ht1
    obtain ⟨F1, hF1⟩ : ∃ F1, F1 = mkO zs kd vx pl T rc9 t1 := ⟨_, rfl⟩
    rw [← hF1] at hP
    replace hP : va_P (dC, dI) classes [oc ra 8 [.int (nI T), .int (nI Ac), .ref (rA 2), .ref (rA 3), .ref (rA 4), .ref (rA 5), .ref (rA 6), .ref (rA 7), .ref (rA 8), .ref (rA 9), .ref (rA 10), .ref (rA 11), .ref (rA 12), .ref (rA 13), .int ir, .ref (rA 15), .ref (rA 16), .ref (rA 17), .ref (rA 18), .int (nI md), .int (nI wd), .ref (rA 21), .ref (rA 22), .ref (rA 23), .int (nI mn), .ref (rA 25), .int (nI cb), .int mr, .ref (rA 28), .ref (rA 29), .ref (rA 30), .ref (rA 31), .ref (rA 32), .ref (rA 33), .ref (rA 34), .ref (rA 35), .int (nI ld), .int (nI gm), .ref (rA 38), .ref (rA 39), .ref (rA 40), .ref (rA 41), .ref (rA 42), .ref (rA 43), .ref (rA 44), .ref (rA 45), .int (nI my), .ref (rA 47)], ia (rA 16) (rK9 16) 155 sf, ia (rA 2) (rK9 2) 4 (fun i => nI (zs i)), ia (rA 3) (rK9 3) 28 (fun i => nI (kd i)), ia (rA 4) (rK9 4) 28 (fun i => nI (vx i)), ia (rA 15) (rK9 15) 784 F1] H := hP
    refine tp_pc (pc' := 10) (by rfl) ?_
    refine lv_iload_n hx hb d_Ref_markRaces_10 rfl (lv_at hl 0 rfl) ?_
    refine lv_iconst (v := 1) hx hb d_Ref_markRaces_11 (by decide) ?_
    refine lv_iadd hx hb d_Ref_markRaces_12 ?_
    refine tp_i (y := nI (t1 + 1)) (by exact nI_add t1 1) ?_
    refine lv_istore_n (lv' := [(2, .int (nI (t1 + 1))), (1, .int (nI t1)), (0, .ref ra)]) hx hb d_Ref_markRaces_13 rfl hl (by decide) rfl ?_
    clear hl ls
    intro ls hl
    replace hP : va_P (dC, dI) classes [oc ra 8 [.int (nI T), .int (nI Ac), .ref (rA 2), .ref (rA 3), .ref (rA 4), .ref (rA 5), .ref (rA 6), .ref (rA 7), .ref (rA 8), .ref (rA 9), .ref (rA 10), .ref (rA 11), .ref (rA 12), .ref (rA 13), .int ir, .ref (rA 15), .ref (rA 16), .ref (rA 17), .ref (rA 18), .int (nI md), .int (nI wd), .ref (rA 21), .ref (rA 22), .ref (rA 23), .int (nI mn), .ref (rA 25), .int (nI cb), .int mr, .ref (rA 28), .ref (rA 29), .ref (rA 30), .ref (rA 31), .ref (rA 32), .ref (rA 33), .ref (rA 34), .ref (rA 35), .int (nI ld), .int (nI gm), .ref (rA 38), .ref (rA 39), .ref (rA 40), .ref (rA 41), .ref (rA 42), .ref (rA 43), .ref (rA 44), .ref (rA 45), .int (nI my), .ref (rA 47)], ia (rA 16) (rK9 16) 155 sf, ia (rA 2) (rK9 2) 4 (fun i => nI (zs i)), ia (rA 3) (rK9 3) 28 (fun i => nI (kd i)), ia (rA 4) (rK9 4) 28 (fun i => nI (vx i)), ia (rA 15) (rK9 15) 784 (mkI zs kd vx pl t1 F1 0)] H := hP
    replace hl : lv_has ls 6 [(2, .int (nI (t1 + 1 + 0))), (1, .int (nI t1)), (0, .ref ra)] := hl
    refine lp_n (T - (t1 + 1)) (fun i2 H locs ls => va_P (dC, dI) classes [oc ra 8 [.int (nI T), .int (nI Ac), .ref (rA 2), .ref (rA 3), .ref (rA 4), .ref (rA 5), .ref (rA 6), .ref (rA 7), .ref (rA 8), .ref (rA 9), .ref (rA 10), .ref (rA 11), .ref (rA 12), .ref (rA 13), .int ir, .ref (rA 15), .ref (rA 16), .ref (rA 17), .ref (rA 18), .int (nI md), .int (nI wd), .ref (rA 21), .ref (rA 22), .ref (rA 23), .int (nI mn), .ref (rA 25), .int (nI cb), .int mr, .ref (rA 28), .ref (rA 29), .ref (rA 30), .ref (rA 31), .ref (rA 32), .ref (rA 33), .ref (rA 34), .ref (rA 35), .int (nI ld), .int (nI gm), .ref (rA 38), .ref (rA 39), .ref (rA 40), .ref (rA 41), .ref (rA 42), .ref (rA 43), .ref (rA 44), .ref (rA 45), .int (nI my), .ref (rA 47)], ia (rA 16) (rK9 16) 155 sf, ia (rA 2) (rK9 2) 4 (fun i => nI (zs i)), ia (rA 3) (rK9 3) 28 (fun i => nI (kd i)), ia (rA 4) (rK9 4) 28 (fun i => nI (vx i)), ia (rA 15) (rK9 15) 784 (mkI zs kd vx pl t1 F1 i2)] H ∧ va_S A s.heap H locs ∧ lv_has ls 6 [(2, .int (nI (t1 + 1 + i2))), (1, .int (nI t1)), (0, .ref ra)]) ⟨hP, hS, hl⟩ ?_ ?_
    · intro i2 H locs ls hi2 hI ih_i2
      obtain ⟨hP, hS, hl⟩ := hI
      refine lv_iload_n hx hb d_Ref_markRaces_14 rfl (lv_at hl 0 rfl) ?_
      refine lv_aload_n hx hb d_Ref_markRaces_15 rfl (lv_at hl 2 rfl) ?_
      refine va_get (D := (dC, dI)) (ci := 8) (v := .int (nI T)) (C := R_Ref) (T := F_Ref) (N := 48) hx hb hw i_Ref hown hK hP 0 rfl rfl 0 (by decide) (hw _ m_899) (fun _ h9 => h9) rfl d_Ref_markRaces_16 ?_
      refine lv_icmp_ge (tgt := 198) hx hb d_Ref_markRaces_19 (by decide) (fun c9 => absurd c9 (nI_ge (by omega) (by omega))) (fun c9 => ?_)
      obtain ⟨b1x, b2x⟩ := hpl (t1 + 1 + i2) (by omega)
      have b3x := hzs (t1 + 1 + i2) (by omega)
      refine tp_pc (pc' := 22) (by rfl) ?_
      refine lv_aload_n hx hb d_Ref_markRaces_22 rfl (lv_at hl 2 rfl) ?_
      refine va_get (D := (dC, dI)) (ci := 8) (v := .ref (rA 16)) (C := R_Ref) (T := F_Ref) (N := 48) hx hb hw i_Ref hown hK hP 0 rfl rfl 16 (by decide) (hw _ m_915) (fun _ h9 => h9) rfl d_Ref_markRaces_23 ?_
      refine lv_iload_n hx hb d_Ref_markRaces_26 rfl (lv_at hl 1 rfl) ?_
      refine va_iald (D := (dC, dI)) hx hb hK hP 1 0 rfl rfl (i := nI t1) (pk_in t1 155 (by omega)) d_Ref_markRaces_27 ?_
      refine tp_i (y := sf t1) (by rw [show (nI t1 : Int32).toNatClampNeg = t1 from pk_cl t1]) ?_
      refine tp_i (y := nI (pl t1)) a1 ?_
      refine lv_aload_n hx hb d_Ref_markRaces_28 rfl (lv_at hl 2 rfl) ?_
      refine va_get (D := (dC, dI)) (ci := 8) (v := .ref (rA 2)) (C := R_Ref) (T := F_Ref) (N := 48) hx hb hw i_Ref hown hK hP 0 rfl rfl 2 (by decide) (hw _ m_901) (fun _ h9 => h9) rfl d_Ref_markRaces_29 ?_
      refine lv_iload_n hx hb d_Ref_markRaces_32 rfl (lv_at hl 1 rfl) ?_
      refine va_iald (D := (dC, dI)) hx hb hK hP 2 1 rfl rfl (i := nI t1) (pk_in t1 4 (by omega)) d_Ref_markRaces_33 ?_
      refine tp_i (y := nI (zs t1)) (by rw [show (nI t1 : Int32).toNatClampNeg = t1 from pk_cl t1]) ?_
      refine lv_icmp_ge (tgt := 192) hx hb d_Ref_markRaces_34 (by decide) (fun d1 => ?_) (fun d1 => ?_)
      · skip
        have hd1 : zs t1 ≤ pl t1 := (nI_leI (a := zs t1) (b := pl t1) (by omega) (by omega)).mp d1
        have hcn : ¬ (pl t1 < zs t1 ∧ pl (t1 + 1 + i2) < zs (t1 + 1 + i2) ∧ kd (7 * t1 + pl t1) ≤ 3 ∧ kd (7 * (t1 + 1 + i2) + pl (t1 + 1 + i2)) ≤ 3 ∧ vx (7 * t1 + pl t1) = vx (7 * (t1 + 1 + i2) + pl (t1 + 1 + i2)) ∧ ¬ (kd (7 * t1 + pl t1) = 0 ∧ kd (7 * (t1 + 1 + i2) + pl (t1 + 1 + i2)) = 0) ∧ ¬ (kd (7 * t1 + pl t1) = 3 ∧ kd (7 * (t1 + 1 + i2) + pl (t1 + 1 + i2)) = 3)) := fun h => absurd h.1 (by omega)
        refine tp_pc (pc' := 192) (by rfl) ?_
        rw [show mkI zs kd vx pl t1 F1 i2 = mkI zs kd vx pl t1 F1 (i2 + 1) from by rw [mkI, if_neg hcn]] at hP
        replace hP : va_P (dC, dI) classes [oc ra 8 [.int (nI T), .int (nI Ac), .ref (rA 2), .ref (rA 3), .ref (rA 4), .ref (rA 5), .ref (rA 6), .ref (rA 7), .ref (rA 8), .ref (rA 9), .ref (rA 10), .ref (rA 11), .ref (rA 12), .ref (rA 13), .int ir, .ref (rA 15), .ref (rA 16), .ref (rA 17), .ref (rA 18), .int (nI md), .int (nI wd), .ref (rA 21), .ref (rA 22), .ref (rA 23), .int (nI mn), .ref (rA 25), .int (nI cb), .int mr, .ref (rA 28), .ref (rA 29), .ref (rA 30), .ref (rA 31), .ref (rA 32), .ref (rA 33), .ref (rA 34), .ref (rA 35), .int (nI ld), .int (nI gm), .ref (rA 38), .ref (rA 39), .ref (rA 40), .ref (rA 41), .ref (rA 42), .ref (rA 43), .ref (rA 44), .ref (rA 45), .int (nI my), .ref (rA 47)], ia (rA 16) (rK9 16) 155 sf, ia (rA 2) (rK9 2) 4 (fun i => nI (zs i)), ia (rA 3) (rK9 3) 28 (fun i => nI (kd i)), ia (rA 4) (rK9 4) 28 (fun i => nI (vx i)), ia (rA 15) (rK9 15) 784 (mkI zs kd vx pl t1 F1 (i2 + 1))] H := hP
        refine lv_iinc (v := nI (t1 + 1 + i2 + 1)) (lv' := [(2, .int (nI (t1 + 1 + i2 + 1))), (1, .int (nI t1)), (0, .ref ra)]) hx hb d_Ref_markRaces_192 hl (k := 0) rfl (by exact nI_1 (t1 + 1 + i2)) (by decide) rfl ?_
        clear hl ls
        intro ls hl
        refine lv_goto (tgt := 14) hx hb d_Ref_markRaces_195 (by decide) ?_
        refine tp_pc (pc' := 14) (by rfl) ?_
        obtain ⟨hP8, -, -⟩ := cut3 (wc := [oc ra 8 [.int (nI T), .int (nI Ac), .ref (rA 2), .ref (rA 3), .ref (rA 4), .ref (rA 5), .ref (rA 6), .ref (rA 7), .ref (rA 8), .ref (rA 9), .ref (rA 10), .ref (rA 11), .ref (rA 12), .ref (rA 13), .int ir, .ref (rA 15), .ref (rA 16), .ref (rA 17), .ref (rA 18), .int (nI md), .int (nI wd), .ref (rA 21), .ref (rA 22), .ref (rA 23), .int (nI mn), .ref (rA 25), .int (nI cb), .int mr, .ref (rA 28), .ref (rA 29), .ref (rA 30), .ref (rA 31), .ref (rA 32), .ref (rA 33), .ref (rA 34), .ref (rA 35), .int (nI ld), .int (nI gm), .ref (rA 38), .ref (rA 39), .ref (rA 40), .ref (rA 41), .ref (rA 42), .ref (rA 43), .ref (rA 44), .ref (rA 45), .int (nI my), .ref (rA 47)], ia (rA 16) (rK9 16) 155 sf, ia (rA 2) (rK9 2) 4 (fun i => nI (zs i)), ia (rA 3) (rK9 3) 28 (fun i => nI (kd i)), ia (rA 4) (rK9 4) 28 (fun i => nI (vx i)), ia (rA 15) (rK9 15) 784 (mkI zs kd vx pl t1 F1 (i2 + 1))]) hP hD rfl hS hA [0, 1, 2, 3, 4, 5] (by decide +kernel) rfl
        exact ih_i2 _ _ _ ⟨hP8, hS, lv_sub hl [0, 1, 2] rfl⟩
      · skip
        have hd1 : ¬ (zs t1 ≤ pl t1) := fun q9 => d1 ((nI_leI (a := zs t1) (b := pl t1) (by omega) (by omega)).mpr q9)
        refine tp_pc (pc' := 37) (by rfl) ?_
        refine lv_aload_n hx hb d_Ref_markRaces_37 rfl (lv_at hl 2 rfl) ?_
        refine va_get (D := (dC, dI)) (ci := 8) (v := .ref (rA 16)) (C := R_Ref) (T := F_Ref) (N := 48) hx hb hw i_Ref hown hK hP 0 rfl rfl 16 (by decide) (hw _ m_915) (fun _ h9 => h9) rfl d_Ref_markRaces_38 ?_
        refine lv_iload_n hx hb d_Ref_markRaces_41 rfl (lv_at hl 0 rfl) ?_
        refine va_iald (D := (dC, dI)) hx hb hK hP 1 0 rfl rfl (i := nI (t1 + 1 + i2)) (pk_in (t1 + 1 + i2) 155 (by omega)) d_Ref_markRaces_42 ?_
        refine tp_i (y := sf (t1 + 1 + i2)) (by rw [show (nI (t1 + 1 + i2) : Int32).toNatClampNeg = t1 + 1 + i2 from pk_cl (t1 + 1 + i2)]) ?_
        refine tp_i (y := nI (pl (t1 + 1 + i2))) b1x ?_
        refine lv_aload_n hx hb d_Ref_markRaces_43 rfl (lv_at hl 2 rfl) ?_
        refine va_get (D := (dC, dI)) (ci := 8) (v := .ref (rA 2)) (C := R_Ref) (T := F_Ref) (N := 48) hx hb hw i_Ref hown hK hP 0 rfl rfl 2 (by decide) (hw _ m_901) (fun _ h9 => h9) rfl d_Ref_markRaces_44 ?_
        refine lv_iload_n hx hb d_Ref_markRaces_47 rfl (lv_at hl 0 rfl) ?_
        refine va_iald (D := (dC, dI)) hx hb hK hP 2 1 rfl rfl (i := nI (t1 + 1 + i2)) (pk_in (t1 + 1 + i2) 4 (by omega)) d_Ref_markRaces_48 ?_
        refine tp_i (y := nI (zs (t1 + 1 + i2))) (by rw [show (nI (t1 + 1 + i2) : Int32).toNatClampNeg = t1 + 1 + i2 from pk_cl (t1 + 1 + i2)]) ?_
        refine lv_icmp_ge (tgt := 192) hx hb d_Ref_markRaces_49 (by decide) (fun d2 => ?_) (fun d2 => ?_)
        · skip
          have hd2 : zs (t1 + 1 + i2) ≤ pl (t1 + 1 + i2) := (nI_leI (a := zs (t1 + 1 + i2)) (b := pl (t1 + 1 + i2)) (by omega) (by omega)).mp d2
          have hcn : ¬ (pl t1 < zs t1 ∧ pl (t1 + 1 + i2) < zs (t1 + 1 + i2) ∧ kd (7 * t1 + pl t1) ≤ 3 ∧ kd (7 * (t1 + 1 + i2) + pl (t1 + 1 + i2)) ≤ 3 ∧ vx (7 * t1 + pl t1) = vx (7 * (t1 + 1 + i2) + pl (t1 + 1 + i2)) ∧ ¬ (kd (7 * t1 + pl t1) = 0 ∧ kd (7 * (t1 + 1 + i2) + pl (t1 + 1 + i2)) = 0) ∧ ¬ (kd (7 * t1 + pl t1) = 3 ∧ kd (7 * (t1 + 1 + i2) + pl (t1 + 1 + i2)) = 3)) := fun h => absurd h.2.1 (by omega)
          refine tp_pc (pc' := 192) (by rfl) ?_
          rw [show mkI zs kd vx pl t1 F1 i2 = mkI zs kd vx pl t1 F1 (i2 + 1) from by rw [mkI, if_neg hcn]] at hP
          replace hP : va_P (dC, dI) classes [oc ra 8 [.int (nI T), .int (nI Ac), .ref (rA 2), .ref (rA 3), .ref (rA 4), .ref (rA 5), .ref (rA 6), .ref (rA 7), .ref (rA 8), .ref (rA 9), .ref (rA 10), .ref (rA 11), .ref (rA 12), .ref (rA 13), .int ir, .ref (rA 15), .ref (rA 16), .ref (rA 17), .ref (rA 18), .int (nI md), .int (nI wd), .ref (rA 21), .ref (rA 22), .ref (rA 23), .int (nI mn), .ref (rA 25), .int (nI cb), .int mr, .ref (rA 28), .ref (rA 29), .ref (rA 30), .ref (rA 31), .ref (rA 32), .ref (rA 33), .ref (rA 34), .ref (rA 35), .int (nI ld), .int (nI gm), .ref (rA 38), .ref (rA 39), .ref (rA 40), .ref (rA 41), .ref (rA 42), .ref (rA 43), .ref (rA 44), .ref (rA 45), .int (nI my), .ref (rA 47)], ia (rA 16) (rK9 16) 155 sf, ia (rA 2) (rK9 2) 4 (fun i => nI (zs i)), ia (rA 3) (rK9 3) 28 (fun i => nI (kd i)), ia (rA 4) (rK9 4) 28 (fun i => nI (vx i)), ia (rA 15) (rK9 15) 784 (mkI zs kd vx pl t1 F1 (i2 + 1))] H := hP
          refine lv_iinc (v := nI (t1 + 1 + i2 + 1)) (lv' := [(2, .int (nI (t1 + 1 + i2 + 1))), (1, .int (nI t1)), (0, .ref ra)]) hx hb d_Ref_markRaces_192 hl (k := 0) rfl (by exact nI_1 (t1 + 1 + i2)) (by decide) rfl ?_
          clear hl ls
          intro ls hl
          refine lv_goto (tgt := 14) hx hb d_Ref_markRaces_195 (by decide) ?_
          refine tp_pc (pc' := 14) (by rfl) ?_
          obtain ⟨hP8, -, -⟩ := cut3 (wc := [oc ra 8 [.int (nI T), .int (nI Ac), .ref (rA 2), .ref (rA 3), .ref (rA 4), .ref (rA 5), .ref (rA 6), .ref (rA 7), .ref (rA 8), .ref (rA 9), .ref (rA 10), .ref (rA 11), .ref (rA 12), .ref (rA 13), .int ir, .ref (rA 15), .ref (rA 16), .ref (rA 17), .ref (rA 18), .int (nI md), .int (nI wd), .ref (rA 21), .ref (rA 22), .ref (rA 23), .int (nI mn), .ref (rA 25), .int (nI cb), .int mr, .ref (rA 28), .ref (rA 29), .ref (rA 30), .ref (rA 31), .ref (rA 32), .ref (rA 33), .ref (rA 34), .ref (rA 35), .int (nI ld), .int (nI gm), .ref (rA 38), .ref (rA 39), .ref (rA 40), .ref (rA 41), .ref (rA 42), .ref (rA 43), .ref (rA 44), .ref (rA 45), .int (nI my), .ref (rA 47)], ia (rA 16) (rK9 16) 155 sf, ia (rA 2) (rK9 2) 4 (fun i => nI (zs i)), ia (rA 3) (rK9 3) 28 (fun i => nI (kd i)), ia (rA 4) (rK9 4) 28 (fun i => nI (vx i)), ia (rA 15) (rK9 15) 784 (mkI zs kd vx pl t1 F1 (i2 + 1))]) hP hD rfl hS hA [0, 1, 2, 3, 4, 5] (by decide +kernel) rfl
          exact ih_i2 _ _ _ ⟨hP8, hS, lv_sub hl [0, 1, 2] rfl⟩
        · skip
          have hd2 : ¬ (zs (t1 + 1 + i2) ≤ pl (t1 + 1 + i2)) := fun q9 => d2 ((nI_leI (a := zs (t1 + 1 + i2)) (b := pl (t1 + 1 + i2)) (by omega) (by omega)).mpr q9)
          refine tp_pc (pc' := 52) (by rfl) ?_
          refine lv_bipush (v := 7) hx hb d_Ref_markRaces_52 (by decide) ?_
          refine lv_iload_n hx hb d_Ref_markRaces_54 rfl (lv_at hl 1 rfl) ?_
          refine lv_imul hx hb d_Ref_markRaces_55 ?_
          refine tp_i (y := nI (7 * t1)) (by exact pk_mul 7 t1) ?_
          refine lv_aload_n hx hb d_Ref_markRaces_56 rfl (lv_at hl 2 rfl) ?_
          refine va_get (D := (dC, dI)) (ci := 8) (v := .ref (rA 16)) (C := R_Ref) (T := F_Ref) (N := 48) hx hb hw i_Ref hown hK hP 0 rfl rfl 16 (by decide) (hw _ m_915) (fun _ h9 => h9) rfl d_Ref_markRaces_57 ?_
          refine lv_iload_n hx hb d_Ref_markRaces_60 rfl (lv_at hl 1 rfl) ?_
          refine va_iald (D := (dC, dI)) hx hb hK hP 1 0 rfl rfl (i := nI t1) (pk_in t1 155 (by omega)) d_Ref_markRaces_61 ?_
          refine tp_i (y := sf t1) (by rw [show (nI t1 : Int32).toNatClampNeg = t1 from pk_cl t1]) ?_
          refine tp_i (y := nI (pl t1)) a1 ?_
          refine lv_iadd hx hb d_Ref_markRaces_62 ?_
          refine tp_i (y := nI (7 * t1 + (pl t1))) (by exact nI_add (7 * t1) (pl t1)) ?_
          refine lv_istore_n (lv' := [(3, .int (nI (7 * t1 + (pl t1)))), (2, .int (nI (t1 + 1 + i2))), (1, .int (nI t1)), (0, .ref ra)]) hx hb d_Ref_markRaces_63 rfl hl (by decide) rfl ?_
          clear hl ls
          intro ls hl
          refine lv_bipush (v := 7) hx hb d_Ref_markRaces_64 (by decide) ?_
          refine lv_iload_n hx hb d_Ref_markRaces_66 rfl (lv_at hl 1 rfl) ?_
          refine lv_imul hx hb d_Ref_markRaces_67 ?_
          refine tp_i (y := nI (7 * (t1 + 1 + i2))) (by exact pk_mul 7 (t1 + 1 + i2)) ?_
          refine lv_aload_n hx hb d_Ref_markRaces_68 rfl (lv_at hl 3 rfl) ?_
          refine va_get (D := (dC, dI)) (ci := 8) (v := .ref (rA 16)) (C := R_Ref) (T := F_Ref) (N := 48) hx hb hw i_Ref hown hK hP 0 rfl rfl 16 (by decide) (hw _ m_915) (fun _ h9 => h9) rfl d_Ref_markRaces_69 ?_
          refine lv_iload_n hx hb d_Ref_markRaces_72 rfl (lv_at hl 1 rfl) ?_
          refine va_iald (D := (dC, dI)) hx hb hK hP 1 0 rfl rfl (i := nI (t1 + 1 + i2)) (pk_in (t1 + 1 + i2) 155 (by omega)) d_Ref_markRaces_73 ?_
          refine tp_i (y := sf (t1 + 1 + i2)) (by rw [show (nI (t1 + 1 + i2) : Int32).toNatClampNeg = t1 + 1 + i2 from pk_cl (t1 + 1 + i2)]) ?_
          refine tp_i (y := nI (pl (t1 + 1 + i2))) b1x ?_
          obtain ⟨e1, e2⟩ := hkd (7 * t1 + pl t1) (by omega)
          obtain ⟨e3, e4⟩ := hkd (7 * (t1 + 1 + i2) + pl (t1 + 1 + i2)) (by omega)
          refine lv_iadd hx hb d_Ref_markRaces_74 ?_
          refine tp_i (y := nI (7 * (t1 + 1 + i2) + (pl (t1 + 1 + i2)))) (by exact nI_add (7 * (t1 + 1 + i2)) (pl (t1 + 1 + i2))) ?_
          refine lv_istore (lv' := [(4, .int (nI (7 * (t1 + 1 + i2) + (pl (t1 + 1 + i2))))), (3, .int (nI (7 * t1 + (pl t1)))), (2, .int (nI (t1 + 1 + i2))), (1, .int (nI t1)), (0, .ref ra)]) hx hb d_Ref_markRaces_75 hl (by decide) rfl ?_
          clear hl ls
          intro ls hl
          refine lv_aload_n hx hb d_Ref_markRaces_77 rfl (lv_at hl 4 rfl) ?_
          refine va_get (D := (dC, dI)) (ci := 8) (v := .ref (rA 3)) (C := R_Ref) (T := F_Ref) (N := 48) hx hb hw i_Ref hown hK hP 0 rfl rfl 3 (by decide) (hw _ m_902) (fun _ h9 => h9) rfl d_Ref_markRaces_78 ?_
          refine lv_iload_n hx hb d_Ref_markRaces_81 rfl (lv_at hl 1 rfl) ?_
          refine va_iald (D := (dC, dI)) hx hb hK hP 3 2 rfl rfl (i := nI (7 * t1 + (pl t1))) (pk_in (7 * t1 + (pl t1)) 28 (by omega)) d_Ref_markRaces_82 ?_
          refine tp_i (y := nI (kd (7 * t1 + (pl t1)))) (by rw [show (nI (7 * t1 + (pl t1)) : Int32).toNatClampNeg = 7 * t1 + (pl t1) from pk_cl (7 * t1 + (pl t1))]) ?_
          refine lv_iconst (v := 3) hx hb d_Ref_markRaces_83 (by decide) ?_
          refine lv_icmp_gt (tgt := 118) hx hb d_Ref_markRaces_84 (by decide) (fun d3 => ?_) (fun d3 => ?_)
          · skip
            have hd3 : 3 < kd (7 * t1 + (pl t1)) := (nI_ltI (a := 3) (b := kd (7 * t1 + (pl t1))) (by omega) (by omega)).mp d3
            have hcn : ¬ (pl t1 < zs t1 ∧ pl (t1 + 1 + i2) < zs (t1 + 1 + i2) ∧ kd (7 * t1 + pl t1) ≤ 3 ∧ kd (7 * (t1 + 1 + i2) + pl (t1 + 1 + i2)) ≤ 3 ∧ vx (7 * t1 + pl t1) = vx (7 * (t1 + 1 + i2) + pl (t1 + 1 + i2)) ∧ ¬ (kd (7 * t1 + pl t1) = 0 ∧ kd (7 * (t1 + 1 + i2) + pl (t1 + 1 + i2)) = 0) ∧ ¬ (kd (7 * t1 + pl t1) = 3 ∧ kd (7 * (t1 + 1 + i2) + pl (t1 + 1 + i2)) = 3)) := fun h => absurd h.2.2.1 (by omega)
            refine tp_pc (pc' := 118) (by rfl) ?_
            refine lv_iconst (v := 0) hx hb d_Ref_markRaces_118 (by decide) ?_
            refine lv_istore (lv' := [(5, .int 0), (4, .int (nI (7 * (t1 + 1 + i2) + (pl (t1 + 1 + i2))))), (3, .int (nI (7 * t1 + (pl t1)))), (2, .int (nI (t1 + 1 + i2))), (1, .int (nI t1)), (0, .ref ra)]) hx hb d_Ref_markRaces_119 hl (by decide) rfl ?_
            clear hl ls
            intro ls hl
            refine lv_iload hx hb d_Ref_markRaces_121 (lv_at hl 0 rfl) ?_
            refine lv_if_eq (tgt := 192) hx hb d_Ref_markRaces_123 (by decide) (fun c_1 => ?_) (fun c_1 => absurd c_1 (by decide))
            refine tp_pc (pc' := 192) (by rfl) ?_
            rw [show mkI zs kd vx pl t1 F1 i2 = mkI zs kd vx pl t1 F1 (i2 + 1) from by rw [mkI, if_neg hcn]] at hP
            replace hP : va_P (dC, dI) classes [oc ra 8 [.int (nI T), .int (nI Ac), .ref (rA 2), .ref (rA 3), .ref (rA 4), .ref (rA 5), .ref (rA 6), .ref (rA 7), .ref (rA 8), .ref (rA 9), .ref (rA 10), .ref (rA 11), .ref (rA 12), .ref (rA 13), .int ir, .ref (rA 15), .ref (rA 16), .ref (rA 17), .ref (rA 18), .int (nI md), .int (nI wd), .ref (rA 21), .ref (rA 22), .ref (rA 23), .int (nI mn), .ref (rA 25), .int (nI cb), .int mr, .ref (rA 28), .ref (rA 29), .ref (rA 30), .ref (rA 31), .ref (rA 32), .ref (rA 33), .ref (rA 34), .ref (rA 35), .int (nI ld), .int (nI gm), .ref (rA 38), .ref (rA 39), .ref (rA 40), .ref (rA 41), .ref (rA 42), .ref (rA 43), .ref (rA 44), .ref (rA 45), .int (nI my), .ref (rA 47)], ia (rA 16) (rK9 16) 155 sf, ia (rA 2) (rK9 2) 4 (fun i => nI (zs i)), ia (rA 3) (rK9 3) 28 (fun i => nI (kd i)), ia (rA 4) (rK9 4) 28 (fun i => nI (vx i)), ia (rA 15) (rK9 15) 784 (mkI zs kd vx pl t1 F1 (i2 + 1))] H := hP
            refine lv_iinc (v := nI (t1 + 1 + i2 + 1)) (lv' := [(2, .int (nI (t1 + 1 + i2 + 1))), (5, .int 0), (4, .int (nI (7 * (t1 + 1 + i2) + (pl (t1 + 1 + i2))))), (3, .int (nI (7 * t1 + (pl t1)))), (1, .int (nI t1)), (0, .ref ra)]) hx hb d_Ref_markRaces_192 hl (k := 3) rfl (by exact nI_1 (t1 + 1 + i2)) (by decide) rfl ?_
            clear hl ls
            intro ls hl
            refine lv_goto (tgt := 14) hx hb d_Ref_markRaces_195 (by decide) ?_
            refine tp_pc (pc' := 14) (by rfl) ?_
            obtain ⟨hP8, -, -⟩ := cut3 (wc := [oc ra 8 [.int (nI T), .int (nI Ac), .ref (rA 2), .ref (rA 3), .ref (rA 4), .ref (rA 5), .ref (rA 6), .ref (rA 7), .ref (rA 8), .ref (rA 9), .ref (rA 10), .ref (rA 11), .ref (rA 12), .ref (rA 13), .int ir, .ref (rA 15), .ref (rA 16), .ref (rA 17), .ref (rA 18), .int (nI md), .int (nI wd), .ref (rA 21), .ref (rA 22), .ref (rA 23), .int (nI mn), .ref (rA 25), .int (nI cb), .int mr, .ref (rA 28), .ref (rA 29), .ref (rA 30), .ref (rA 31), .ref (rA 32), .ref (rA 33), .ref (rA 34), .ref (rA 35), .int (nI ld), .int (nI gm), .ref (rA 38), .ref (rA 39), .ref (rA 40), .ref (rA 41), .ref (rA 42), .ref (rA 43), .ref (rA 44), .ref (rA 45), .int (nI my), .ref (rA 47)], ia (rA 16) (rK9 16) 155 sf, ia (rA 2) (rK9 2) 4 (fun i => nI (zs i)), ia (rA 3) (rK9 3) 28 (fun i => nI (kd i)), ia (rA 4) (rK9 4) 28 (fun i => nI (vx i)), ia (rA 15) (rK9 15) 784 (mkI zs kd vx pl t1 F1 (i2 + 1))]) hP hD rfl hS hA [0, 1, 2, 3, 4, 5] (by decide +kernel) rfl
            exact ih_i2 _ _ _ ⟨hP8, hS, lv_sub hl [0, 4, 5] rfl⟩
          · skip
            have hd3 : ¬ (3 < kd (7 * t1 + (pl t1))) := fun q9 => d3 ((nI_ltI (a := 3) (b := kd (7 * t1 + (pl t1))) (by omega) (by omega)).mpr q9)
            refine tp_pc (pc' := 87) (by rfl) ?_
            refine lv_aload_n hx hb d_Ref_markRaces_87 rfl (lv_at hl 4 rfl) ?_
            refine va_get (D := (dC, dI)) (ci := 8) (v := .ref (rA 3)) (C := R_Ref) (T := F_Ref) (N := 48) hx hb hw i_Ref hown hK hP 0 rfl rfl 3 (by decide) (hw _ m_902) (fun _ h9 => h9) rfl d_Ref_markRaces_88 ?_
            refine lv_iload hx hb d_Ref_markRaces_91 (lv_at hl 0 rfl) ?_
            refine va_iald (D := (dC, dI)) hx hb hK hP 3 2 rfl rfl (i := nI (7 * (t1 + 1 + i2) + (pl (t1 + 1 + i2)))) (pk_in (7 * (t1 + 1 + i2) + (pl (t1 + 1 + i2))) 28 (by omega)) d_Ref_markRaces_93 ?_
            refine tp_i (y := nI (kd (7 * (t1 + 1 + i2) + (pl (t1 + 1 + i2))))) (by rw [show (nI (7 * (t1 + 1 + i2) + (pl (t1 + 1 + i2))) : Int32).toNatClampNeg = 7 * (t1 + 1 + i2) + (pl (t1 + 1 + i2)) from pk_cl (7 * (t1 + 1 + i2) + (pl (t1 + 1 + i2)))]) ?_
            refine lv_iconst (v := 3) hx hb d_Ref_markRaces_94 (by decide) ?_
            refine lv_icmp_gt (tgt := 118) hx hb d_Ref_markRaces_95 (by decide) (fun d4 => ?_) (fun d4 => ?_)
            · skip
              have hd4 : 3 < kd (7 * (t1 + 1 + i2) + (pl (t1 + 1 + i2))) := (nI_ltI (a := 3) (b := kd (7 * (t1 + 1 + i2) + (pl (t1 + 1 + i2)))) (by omega) (by omega)).mp d4
              have hcn : ¬ (pl t1 < zs t1 ∧ pl (t1 + 1 + i2) < zs (t1 + 1 + i2) ∧ kd (7 * t1 + pl t1) ≤ 3 ∧ kd (7 * (t1 + 1 + i2) + pl (t1 + 1 + i2)) ≤ 3 ∧ vx (7 * t1 + pl t1) = vx (7 * (t1 + 1 + i2) + pl (t1 + 1 + i2)) ∧ ¬ (kd (7 * t1 + pl t1) = 0 ∧ kd (7 * (t1 + 1 + i2) + pl (t1 + 1 + i2)) = 0) ∧ ¬ (kd (7 * t1 + pl t1) = 3 ∧ kd (7 * (t1 + 1 + i2) + pl (t1 + 1 + i2)) = 3)) := fun h => absurd h.2.2.2.1 (by omega)
              refine tp_pc (pc' := 118) (by rfl) ?_
              refine lv_iconst (v := 0) hx hb d_Ref_markRaces_118 (by decide) ?_
              refine lv_istore (lv' := [(5, .int 0), (4, .int (nI (7 * (t1 + 1 + i2) + (pl (t1 + 1 + i2))))), (3, .int (nI (7 * t1 + (pl t1)))), (2, .int (nI (t1 + 1 + i2))), (1, .int (nI t1)), (0, .ref ra)]) hx hb d_Ref_markRaces_119 hl (by decide) rfl ?_
              clear hl ls
              intro ls hl
              refine lv_iload hx hb d_Ref_markRaces_121 (lv_at hl 0 rfl) ?_
              refine lv_if_eq (tgt := 192) hx hb d_Ref_markRaces_123 (by decide) (fun c_2 => ?_) (fun c_2 => absurd c_2 (by decide))
              refine tp_pc (pc' := 192) (by rfl) ?_
              rw [show mkI zs kd vx pl t1 F1 i2 = mkI zs kd vx pl t1 F1 (i2 + 1) from by rw [mkI, if_neg hcn]] at hP
              replace hP : va_P (dC, dI) classes [oc ra 8 [.int (nI T), .int (nI Ac), .ref (rA 2), .ref (rA 3), .ref (rA 4), .ref (rA 5), .ref (rA 6), .ref (rA 7), .ref (rA 8), .ref (rA 9), .ref (rA 10), .ref (rA 11), .ref (rA 12), .ref (rA 13), .int ir, .ref (rA 15), .ref (rA 16), .ref (rA 17), .ref (rA 18), .int (nI md), .int (nI wd), .ref (rA 21), .ref (rA 22), .ref (rA 23), .int (nI mn), .ref (rA 25), .int (nI cb), .int mr, .ref (rA 28), .ref (rA 29), .ref (rA 30), .ref (rA 31), .ref (rA 32), .ref (rA 33), .ref (rA 34), .ref (rA 35), .int (nI ld), .int (nI gm), .ref (rA 38), .ref (rA 39), .ref (rA 40), .ref (rA 41), .ref (rA 42), .ref (rA 43), .ref (rA 44), .ref (rA 45), .int (nI my), .ref (rA 47)], ia (rA 16) (rK9 16) 155 sf, ia (rA 2) (rK9 2) 4 (fun i => nI (zs i)), ia (rA 3) (rK9 3) 28 (fun i => nI (kd i)), ia (rA 4) (rK9 4) 28 (fun i => nI (vx i)), ia (rA 15) (rK9 15) 784 (mkI zs kd vx pl t1 F1 (i2 + 1))] H := hP
              refine lv_iinc (v := nI (t1 + 1 + i2 + 1)) (lv' := [(2, .int (nI (t1 + 1 + i2 + 1))), (5, .int 0), (4, .int (nI (7 * (t1 + 1 + i2) + (pl (t1 + 1 + i2))))), (3, .int (nI (7 * t1 + (pl t1)))), (1, .int (nI t1)), (0, .ref ra)]) hx hb d_Ref_markRaces_192 hl (k := 3) rfl (by exact nI_1 (t1 + 1 + i2)) (by decide) rfl ?_
              clear hl ls
              intro ls hl
              refine lv_goto (tgt := 14) hx hb d_Ref_markRaces_195 (by decide) ?_
              refine tp_pc (pc' := 14) (by rfl) ?_
              obtain ⟨hP8, -, -⟩ := cut3 (wc := [oc ra 8 [.int (nI T), .int (nI Ac), .ref (rA 2), .ref (rA 3), .ref (rA 4), .ref (rA 5), .ref (rA 6), .ref (rA 7), .ref (rA 8), .ref (rA 9), .ref (rA 10), .ref (rA 11), .ref (rA 12), .ref (rA 13), .int ir, .ref (rA 15), .ref (rA 16), .ref (rA 17), .ref (rA 18), .int (nI md), .int (nI wd), .ref (rA 21), .ref (rA 22), .ref (rA 23), .int (nI mn), .ref (rA 25), .int (nI cb), .int mr, .ref (rA 28), .ref (rA 29), .ref (rA 30), .ref (rA 31), .ref (rA 32), .ref (rA 33), .ref (rA 34), .ref (rA 35), .int (nI ld), .int (nI gm), .ref (rA 38), .ref (rA 39), .ref (rA 40), .ref (rA 41), .ref (rA 42), .ref (rA 43), .ref (rA 44), .ref (rA 45), .int (nI my), .ref (rA 47)], ia (rA 16) (rK9 16) 155 sf, ia (rA 2) (rK9 2) 4 (fun i => nI (zs i)), ia (rA 3) (rK9 3) 28 (fun i => nI (kd i)), ia (rA 4) (rK9 4) 28 (fun i => nI (vx i)), ia (rA 15) (rK9 15) 784 (mkI zs kd vx pl t1 F1 (i2 + 1))]) hP hD rfl hS hA [0, 1, 2, 3, 4, 5] (by decide +kernel) rfl
              exact ih_i2 _ _ _ ⟨hP8, hS, lv_sub hl [0, 4, 5] rfl⟩
            · skip
              have hd4 : ¬ (3 < kd (7 * (t1 + 1 + i2) + (pl (t1 + 1 + i2)))) := fun q9 => d4 ((nI_ltI (a := 3) (b := kd (7 * (t1 + 1 + i2) + (pl (t1 + 1 + i2)))) (by omega) (by omega)).mpr q9)
              refine tp_pc (pc' := 98) (by rfl) ?_
              refine lv_aload_n hx hb d_Ref_markRaces_98 rfl (lv_at hl 4 rfl) ?_
              refine va_get (D := (dC, dI)) (ci := 8) (v := .ref (rA 4)) (C := R_Ref) (T := F_Ref) (N := 48) hx hb hw i_Ref hown hK hP 0 rfl rfl 4 (by decide) (hw _ m_903) (fun _ h9 => h9) rfl d_Ref_markRaces_99 ?_
              refine lv_iload_n hx hb d_Ref_markRaces_102 rfl (lv_at hl 1 rfl) ?_
              refine va_iald (D := (dC, dI)) hx hb hK hP 4 3 rfl rfl (i := nI (7 * t1 + (pl t1))) (pk_in (7 * t1 + (pl t1)) 28 (by omega)) d_Ref_markRaces_103 ?_
              refine tp_i (y := nI (vx (7 * t1 + (pl t1)))) (by rw [show (nI (7 * t1 + (pl t1)) : Int32).toNatClampNeg = 7 * t1 + (pl t1) from pk_cl (7 * t1 + (pl t1))]) ?_
              refine lv_aload_n hx hb d_Ref_markRaces_104 rfl (lv_at hl 4 rfl) ?_
              refine va_get (D := (dC, dI)) (ci := 8) (v := .ref (rA 4)) (C := R_Ref) (T := F_Ref) (N := 48) hx hb hw i_Ref hown hK hP 0 rfl rfl 4 (by decide) (hw _ m_903) (fun _ h9 => h9) rfl d_Ref_markRaces_105 ?_
              refine lv_iload hx hb d_Ref_markRaces_108 (lv_at hl 0 rfl) ?_
              refine va_iald (D := (dC, dI)) hx hb hK hP 4 3 rfl rfl (i := nI (7 * (t1 + 1 + i2) + (pl (t1 + 1 + i2)))) (pk_in (7 * (t1 + 1 + i2) + (pl (t1 + 1 + i2))) 28 (by omega)) d_Ref_markRaces_110 ?_
              refine tp_i (y := nI (vx (7 * (t1 + 1 + i2) + (pl (t1 + 1 + i2))))) (by rw [show (nI (7 * (t1 + 1 + i2) + (pl (t1 + 1 + i2))) : Int32).toNatClampNeg = 7 * (t1 + 1 + i2) + (pl (t1 + 1 + i2)) from pk_cl (7 * (t1 + 1 + i2) + (pl (t1 + 1 + i2)))]) ?_
              refine lv_icmp_ne (tgt := 118) hx hb d_Ref_markRaces_111 (by decide) (fun d5 => ?_) (fun d5 => ?_)
              · skip
                have hd5 : ¬ (vx (7 * t1 + (pl t1)) = vx (7 * (t1 + 1 + i2) + (pl (t1 + 1 + i2)))) := fun q9 => d5 ((nI_eq (a := vx (7 * t1 + (pl t1))) (b := vx (7 * (t1 + 1 + i2) + (pl (t1 + 1 + i2)))) (by omega) (by omega)).mpr q9)
                have hcn : ¬ (pl t1 < zs t1 ∧ pl (t1 + 1 + i2) < zs (t1 + 1 + i2) ∧ kd (7 * t1 + pl t1) ≤ 3 ∧ kd (7 * (t1 + 1 + i2) + pl (t1 + 1 + i2)) ≤ 3 ∧ vx (7 * t1 + pl t1) = vx (7 * (t1 + 1 + i2) + pl (t1 + 1 + i2)) ∧ ¬ (kd (7 * t1 + pl t1) = 0 ∧ kd (7 * (t1 + 1 + i2) + pl (t1 + 1 + i2)) = 0) ∧ ¬ (kd (7 * t1 + pl t1) = 3 ∧ kd (7 * (t1 + 1 + i2) + pl (t1 + 1 + i2)) = 3)) := fun h => hd5 h.2.2.2.2.1
                refine tp_pc (pc' := 118) (by rfl) ?_
                refine lv_iconst (v := 0) hx hb d_Ref_markRaces_118 (by decide) ?_
                refine lv_istore (lv' := [(5, .int 0), (4, .int (nI (7 * (t1 + 1 + i2) + (pl (t1 + 1 + i2))))), (3, .int (nI (7 * t1 + (pl t1)))), (2, .int (nI (t1 + 1 + i2))), (1, .int (nI t1)), (0, .ref ra)]) hx hb d_Ref_markRaces_119 hl (by decide) rfl ?_
                clear hl ls
                intro ls hl
                refine lv_iload hx hb d_Ref_markRaces_121 (lv_at hl 0 rfl) ?_
                refine lv_if_eq (tgt := 192) hx hb d_Ref_markRaces_123 (by decide) (fun c_3 => ?_) (fun c_3 => absurd c_3 (by decide))
                refine tp_pc (pc' := 192) (by rfl) ?_
                rw [show mkI zs kd vx pl t1 F1 i2 = mkI zs kd vx pl t1 F1 (i2 + 1) from by rw [mkI, if_neg hcn]] at hP
                replace hP : va_P (dC, dI) classes [oc ra 8 [.int (nI T), .int (nI Ac), .ref (rA 2), .ref (rA 3), .ref (rA 4), .ref (rA 5), .ref (rA 6), .ref (rA 7), .ref (rA 8), .ref (rA 9), .ref (rA 10), .ref (rA 11), .ref (rA 12), .ref (rA 13), .int ir, .ref (rA 15), .ref (rA 16), .ref (rA 17), .ref (rA 18), .int (nI md), .int (nI wd), .ref (rA 21), .ref (rA 22), .ref (rA 23), .int (nI mn), .ref (rA 25), .int (nI cb), .int mr, .ref (rA 28), .ref (rA 29), .ref (rA 30), .ref (rA 31), .ref (rA 32), .ref (rA 33), .ref (rA 34), .ref (rA 35), .int (nI ld), .int (nI gm), .ref (rA 38), .ref (rA 39), .ref (rA 40), .ref (rA 41), .ref (rA 42), .ref (rA 43), .ref (rA 44), .ref (rA 45), .int (nI my), .ref (rA 47)], ia (rA 16) (rK9 16) 155 sf, ia (rA 2) (rK9 2) 4 (fun i => nI (zs i)), ia (rA 3) (rK9 3) 28 (fun i => nI (kd i)), ia (rA 4) (rK9 4) 28 (fun i => nI (vx i)), ia (rA 15) (rK9 15) 784 (mkI zs kd vx pl t1 F1 (i2 + 1))] H := hP
                refine lv_iinc (v := nI (t1 + 1 + i2 + 1)) (lv' := [(2, .int (nI (t1 + 1 + i2 + 1))), (5, .int 0), (4, .int (nI (7 * (t1 + 1 + i2) + (pl (t1 + 1 + i2))))), (3, .int (nI (7 * t1 + (pl t1)))), (1, .int (nI t1)), (0, .ref ra)]) hx hb d_Ref_markRaces_192 hl (k := 3) rfl (by exact nI_1 (t1 + 1 + i2)) (by decide) rfl ?_
                clear hl ls
                intro ls hl
                refine lv_goto (tgt := 14) hx hb d_Ref_markRaces_195 (by decide) ?_
                refine tp_pc (pc' := 14) (by rfl) ?_
                obtain ⟨hP8, -, -⟩ := cut3 (wc := [oc ra 8 [.int (nI T), .int (nI Ac), .ref (rA 2), .ref (rA 3), .ref (rA 4), .ref (rA 5), .ref (rA 6), .ref (rA 7), .ref (rA 8), .ref (rA 9), .ref (rA 10), .ref (rA 11), .ref (rA 12), .ref (rA 13), .int ir, .ref (rA 15), .ref (rA 16), .ref (rA 17), .ref (rA 18), .int (nI md), .int (nI wd), .ref (rA 21), .ref (rA 22), .ref (rA 23), .int (nI mn), .ref (rA 25), .int (nI cb), .int mr, .ref (rA 28), .ref (rA 29), .ref (rA 30), .ref (rA 31), .ref (rA 32), .ref (rA 33), .ref (rA 34), .ref (rA 35), .int (nI ld), .int (nI gm), .ref (rA 38), .ref (rA 39), .ref (rA 40), .ref (rA 41), .ref (rA 42), .ref (rA 43), .ref (rA 44), .ref (rA 45), .int (nI my), .ref (rA 47)], ia (rA 16) (rK9 16) 155 sf, ia (rA 2) (rK9 2) 4 (fun i => nI (zs i)), ia (rA 3) (rK9 3) 28 (fun i => nI (kd i)), ia (rA 4) (rK9 4) 28 (fun i => nI (vx i)), ia (rA 15) (rK9 15) 784 (mkI zs kd vx pl t1 F1 (i2 + 1))]) hP hD rfl hS hA [0, 1, 2, 3, 4, 5] (by decide +kernel) rfl
                exact ih_i2 _ _ _ ⟨hP8, hS, lv_sub hl [0, 4, 5] rfl⟩
              · skip
                have hd5 : vx (7 * t1 + (pl t1)) = vx (7 * (t1 + 1 + i2) + (pl (t1 + 1 + i2))) := (nI_eq (a := vx (7 * t1 + (pl t1))) (b := vx (7 * (t1 + 1 + i2) + (pl (t1 + 1 + i2)))) (by omega) (by omega)).mp d5
                refine tp_pc (pc' := 114) (by rfl) ?_
                refine lv_iconst (v := 1) hx hb d_Ref_markRaces_114 (by decide) ?_
                refine lv_goto (tgt := 119) hx hb d_Ref_markRaces_115 (by decide) ?_
                refine tp_pc (pc' := 119) (by rfl) ?_
                refine lv_istore (lv' := [(5, .int 1), (4, .int (nI (7 * (t1 + 1 + i2) + (pl (t1 + 1 + i2))))), (3, .int (nI (7 * t1 + (pl t1)))), (2, .int (nI (t1 + 1 + i2))), (1, .int (nI t1)), (0, .ref ra)]) hx hb d_Ref_markRaces_119 hl (by decide) rfl ?_
                clear hl ls
                intro ls hl
                refine lv_iload hx hb d_Ref_markRaces_121 (lv_at hl 0 rfl) ?_
                refine lv_if_eq (tgt := 192) hx hb d_Ref_markRaces_123 (by decide) (fun c_4 => absurd c_4 (by decide)) (fun c_4 => ?_)
                refine tp_pc (pc' := 126) (by rfl) ?_
                refine lv_aload_n hx hb d_Ref_markRaces_126 rfl (lv_at hl 5 rfl) ?_
                refine va_get (D := (dC, dI)) (ci := 8) (v := .ref (rA 3)) (C := R_Ref) (T := F_Ref) (N := 48) hx hb hw i_Ref hown hK hP 0 rfl rfl 3 (by decide) (hw _ m_902) (fun _ h9 => h9) rfl d_Ref_markRaces_127 ?_
                refine lv_iload_n hx hb d_Ref_markRaces_130 rfl (lv_at hl 2 rfl) ?_
                refine va_iald (D := (dC, dI)) hx hb hK hP 3 2 rfl rfl (i := nI (7 * t1 + (pl t1))) (pk_in (7 * t1 + (pl t1)) 28 (by omega)) d_Ref_markRaces_131 ?_
                refine tp_i (y := nI (kd (7 * t1 + (pl t1)))) (by rw [show (nI (7 * t1 + (pl t1)) : Int32).toNatClampNeg = 7 * t1 + (pl t1) from pk_cl (7 * t1 + (pl t1))]) ?_
                refine lv_if_ne (tgt := 145) hx hb d_Ref_markRaces_132 (by decide) (fun d6 => ?_) (fun d6 => ?_)
                · skip
                  have hd6 : ¬ (kd (7 * t1 + (pl t1)) = 0) := fun q9 => d6 ((nI_eq (a := kd (7 * t1 + (pl t1))) (b := 0) (by omega) (by omega)).mpr q9)
                  refine tp_pc (pc' := 145) (by rfl) ?_
                  refine lv_aload_n hx hb d_Ref_markRaces_145 rfl (lv_at hl 5 rfl) ?_
                  refine va_get (D := (dC, dI)) (ci := 8) (v := .ref (rA 3)) (C := R_Ref) (T := F_Ref) (N := 48) hx hb hw i_Ref hown hK hP 0 rfl rfl 3 (by decide) (hw _ m_902) (fun _ h9 => h9) rfl d_Ref_markRaces_146 ?_
                  refine lv_iload_n hx hb d_Ref_markRaces_149 rfl (lv_at hl 2 rfl) ?_
                  refine va_iald (D := (dC, dI)) hx hb hK hP 3 2 rfl rfl (i := nI (7 * t1 + (pl t1))) (pk_in (7 * t1 + (pl t1)) 28 (by omega)) d_Ref_markRaces_150 ?_
                  refine tp_i (y := nI (kd (7 * t1 + (pl t1)))) (by rw [show (nI (7 * t1 + (pl t1)) : Int32).toNatClampNeg = 7 * t1 + (pl t1) from pk_cl (7 * t1 + (pl t1))]) ?_
                  refine lv_iconst (v := 3) hx hb d_Ref_markRaces_151 (by decide) ?_
                  refine lv_icmp_ne (tgt := 166) hx hb d_Ref_markRaces_152 (by decide) (fun f1 => ?_) (fun f1 => ?_)
                  · skip
                    have hf1 : ¬ (kd (7 * t1 + (pl t1)) = 3) := fun q9 => f1 ((nI_eq (a := kd (7 * t1 + (pl t1))) (b := 3) (by omega) (by omega)).mpr q9)
                    have hcy : pl t1 < zs t1 ∧ pl (t1 + 1 + i2) < zs (t1 + 1 + i2) ∧ kd (7 * t1 + pl t1) ≤ 3 ∧ kd (7 * (t1 + 1 + i2) + pl (t1 + 1 + i2)) ≤ 3 ∧ vx (7 * t1 + pl t1) = vx (7 * (t1 + 1 + i2) + pl (t1 + 1 + i2)) ∧ ¬ (kd (7 * t1 + pl t1) = 0 ∧ kd (7 * (t1 + 1 + i2) + pl (t1 + 1 + i2)) = 0) ∧ ¬ (kd (7 * t1 + pl t1) = 3 ∧ kd (7 * (t1 + 1 + i2) + pl (t1 + 1 + i2)) = 3) := ⟨by omega, by omega, by omega, by omega, hd5, fun h => hd6 h.1, fun h => hf1 h.1⟩
                    refine tp_pc (pc' := 166) (by rfl) ?_
                    refine lv_aload_n hx hb d_Ref_markRaces_166 rfl (lv_at hl 5 rfl) ?_
                    refine va_get (D := (dC, dI)) (ci := 8) (v := .ref (rA 15)) (C := R_Ref) (T := F_Ref) (N := 48) hx hb hw i_Ref hown hK hP 0 rfl rfl 15 (by decide) (hw _ m_914) (fun _ h9 => h9) rfl d_Ref_markRaces_167 ?_
                    refine lv_bipush (v := 28) hx hb d_Ref_markRaces_170 (by decide) ?_
                    refine lv_iload_n hx hb d_Ref_markRaces_172 rfl (lv_at hl 2 rfl) ?_
                    refine lv_imul hx hb d_Ref_markRaces_173 ?_
                    refine tp_i (y := nI (28 * (7 * t1 + (pl t1)))) (by exact pk_mul 28 (7 * t1 + (pl t1))) ?_
                    refine lv_iload hx hb d_Ref_markRaces_174 (lv_at hl 1 rfl) ?_
                    refine lv_iadd hx hb d_Ref_markRaces_176 ?_
                    refine tp_i (y := nI (28 * (7 * t1 + (pl t1)) + (7 * (t1 + 1 + i2) + (pl (t1 + 1 + i2))))) (by exact nI_add (28 * (7 * t1 + (pl t1))) (7 * (t1 + 1 + i2) + (pl (t1 + 1 + i2)))) ?_
                    refine lv_iconst (v := 1) hx hb d_Ref_markRaces_177 (by decide) ?_
                    refine va_zast (D := (dC, dI)) hx hb hK hP (dd_D hD rfl) hS 5 4 rfl rfl (i := nI (28 * (7 * t1 + (pl t1)) + (7 * (t1 + 1 + i2) + (pl (t1 + 1 + i2))))) (x := 1) (pk_in (28 * (7 * t1 + (pl t1)) + (7 * (t1 + 1 + i2) + (pl (t1 + 1 + i2)))) 784 (by omega)) d_Ref_markRaces_178 ?_
                    clear hP hS locs H
                    intro H locs hP _ hS
                    rw [show (nI (28 * (7 * t1 + (pl t1)) + (7 * (t1 + 1 + i2) + (pl (t1 + 1 + i2)))) : Int32).toNatClampNeg = 28 * (7 * t1 + (pl t1)) + (7 * (t1 + 1 + i2) + (pl (t1 + 1 + i2))) from pk_cl (28 * (7 * t1 + (pl t1)) + (7 * (t1 + 1 + i2) + (pl (t1 + 1 + i2))))] at hP
                    replace hP : va_P (dC, dI) classes [oc ra 8 [.int (nI T), .int (nI Ac), .ref (rA 2), .ref (rA 3), .ref (rA 4), .ref (rA 5), .ref (rA 6), .ref (rA 7), .ref (rA 8), .ref (rA 9), .ref (rA 10), .ref (rA 11), .ref (rA 12), .ref (rA 13), .int ir, .ref (rA 15), .ref (rA 16), .ref (rA 17), .ref (rA 18), .int (nI md), .int (nI wd), .ref (rA 21), .ref (rA 22), .ref (rA 23), .int (nI mn), .ref (rA 25), .int (nI cb), .int mr, .ref (rA 28), .ref (rA 29), .ref (rA 30), .ref (rA 31), .ref (rA 32), .ref (rA 33), .ref (rA 34), .ref (rA 35), .int (nI ld), .int (nI gm), .ref (rA 38), .ref (rA 39), .ref (rA 40), .ref (rA 41), .ref (rA 42), .ref (rA 43), .ref (rA 44), .ref (rA 45), .int (nI my), .ref (rA 47)], ia (rA 16) (rK9 16) 155 sf, ia (rA 2) (rK9 2) 4 (fun i => nI (zs i)), ia (rA 3) (rK9 3) 28 (fun i => nI (kd i)), ia (rA 4) (rK9 4) 28 (fun i => nI (vx i)), ia (rA 15) (rK9 15) 784 (upd (mkI zs kd vx pl t1 F1 i2) (28 * (7 * t1 + (pl t1)) + (7 * (t1 + 1 + i2) + (pl (t1 + 1 + i2)))) 1)] H := hP
                    refine tp_pc (pc' := 179) (by rfl) ?_
                    refine lv_aload_n hx hb d_Ref_markRaces_179 rfl (lv_at hl 5 rfl) ?_
                    refine va_get (D := (dC, dI)) (ci := 8) (v := .ref (rA 15)) (C := R_Ref) (T := F_Ref) (N := 48) hx hb hw i_Ref hown hK hP 0 rfl rfl 15 (by decide) (hw _ m_914) (fun _ h9 => h9) rfl d_Ref_markRaces_180 ?_
                    refine lv_bipush (v := 28) hx hb d_Ref_markRaces_183 (by decide) ?_
                    refine lv_iload hx hb d_Ref_markRaces_185 (lv_at hl 1 rfl) ?_
                    refine lv_imul hx hb d_Ref_markRaces_187 ?_
                    refine tp_i (y := nI (28 * (7 * (t1 + 1 + i2) + (pl (t1 + 1 + i2))))) (by exact pk_mul 28 (7 * (t1 + 1 + i2) + (pl (t1 + 1 + i2)))) ?_
                    refine lv_iload_n hx hb d_Ref_markRaces_188 rfl (lv_at hl 2 rfl) ?_
                    refine lv_iadd hx hb d_Ref_markRaces_189 ?_
                    refine tp_i (y := nI (28 * (7 * (t1 + 1 + i2) + (pl (t1 + 1 + i2))) + (7 * t1 + (pl t1)))) (by exact nI_add (28 * (7 * (t1 + 1 + i2) + (pl (t1 + 1 + i2)))) (7 * t1 + (pl t1))) ?_
                    refine lv_iconst (v := 1) hx hb d_Ref_markRaces_190 (by decide) ?_
                    refine va_zast (D := (dC, dI)) hx hb hK hP (dd_D hD rfl) hS 5 4 rfl rfl (i := nI (28 * (7 * (t1 + 1 + i2) + (pl (t1 + 1 + i2))) + (7 * t1 + (pl t1)))) (x := 1) (pk_in (28 * (7 * (t1 + 1 + i2) + (pl (t1 + 1 + i2))) + (7 * t1 + (pl t1))) 784 (by omega)) d_Ref_markRaces_191 ?_
                    clear hP hS locs H
                    intro H locs hP _ hS
                    rw [show (nI (28 * (7 * (t1 + 1 + i2) + (pl (t1 + 1 + i2))) + (7 * t1 + (pl t1))) : Int32).toNatClampNeg = 28 * (7 * (t1 + 1 + i2) + (pl (t1 + 1 + i2))) + (7 * t1 + (pl t1)) from pk_cl (28 * (7 * (t1 + 1 + i2) + (pl (t1 + 1 + i2))) + (7 * t1 + (pl t1)))] at hP
                    replace hP : va_P (dC, dI) classes [oc ra 8 [.int (nI T), .int (nI Ac), .ref (rA 2), .ref (rA 3), .ref (rA 4), .ref (rA 5), .ref (rA 6), .ref (rA 7), .ref (rA 8), .ref (rA 9), .ref (rA 10), .ref (rA 11), .ref (rA 12), .ref (rA 13), .int ir, .ref (rA 15), .ref (rA 16), .ref (rA 17), .ref (rA 18), .int (nI md), .int (nI wd), .ref (rA 21), .ref (rA 22), .ref (rA 23), .int (nI mn), .ref (rA 25), .int (nI cb), .int mr, .ref (rA 28), .ref (rA 29), .ref (rA 30), .ref (rA 31), .ref (rA 32), .ref (rA 33), .ref (rA 34), .ref (rA 35), .int (nI ld), .int (nI gm), .ref (rA 38), .ref (rA 39), .ref (rA 40), .ref (rA 41), .ref (rA 42), .ref (rA 43), .ref (rA 44), .ref (rA 45), .int (nI my), .ref (rA 47)], ia (rA 16) (rK9 16) 155 sf, ia (rA 2) (rK9 2) 4 (fun i => nI (zs i)), ia (rA 3) (rK9 3) 28 (fun i => nI (kd i)), ia (rA 4) (rK9 4) 28 (fun i => nI (vx i)), ia (rA 15) (rK9 15) 784 (upd (upd (mkI zs kd vx pl t1 F1 i2) (28 * (7 * t1 + (pl t1)) + (7 * (t1 + 1 + i2) + (pl (t1 + 1 + i2)))) 1) (28 * (7 * (t1 + 1 + i2) + (pl (t1 + 1 + i2))) + (7 * t1 + (pl t1))) 1)] H := hP
                    refine tp_pc (pc' := 192) (by rfl) ?_
                    rw [show upd (upd (mkI zs kd vx pl t1 F1 i2) (28 * (7 * t1 + pl t1) + (7 * (t1 + 1 + i2) + pl (t1 + 1 + i2))) 1) (28 * (7 * (t1 + 1 + i2) + pl (t1 + 1 + i2)) + (7 * t1 + pl t1)) 1 = mkI zs kd vx pl t1 F1 (i2 + 1) from by rw [mkI, if_pos hcy]] at hP
                    replace hP : va_P (dC, dI) classes [oc ra 8 [.int (nI T), .int (nI Ac), .ref (rA 2), .ref (rA 3), .ref (rA 4), .ref (rA 5), .ref (rA 6), .ref (rA 7), .ref (rA 8), .ref (rA 9), .ref (rA 10), .ref (rA 11), .ref (rA 12), .ref (rA 13), .int ir, .ref (rA 15), .ref (rA 16), .ref (rA 17), .ref (rA 18), .int (nI md), .int (nI wd), .ref (rA 21), .ref (rA 22), .ref (rA 23), .int (nI mn), .ref (rA 25), .int (nI cb), .int mr, .ref (rA 28), .ref (rA 29), .ref (rA 30), .ref (rA 31), .ref (rA 32), .ref (rA 33), .ref (rA 34), .ref (rA 35), .int (nI ld), .int (nI gm), .ref (rA 38), .ref (rA 39), .ref (rA 40), .ref (rA 41), .ref (rA 42), .ref (rA 43), .ref (rA 44), .ref (rA 45), .int (nI my), .ref (rA 47)], ia (rA 16) (rK9 16) 155 sf, ia (rA 2) (rK9 2) 4 (fun i => nI (zs i)), ia (rA 3) (rK9 3) 28 (fun i => nI (kd i)), ia (rA 4) (rK9 4) 28 (fun i => nI (vx i)), ia (rA 15) (rK9 15) 784 (mkI zs kd vx pl t1 F1 (i2 + 1))] H := hP
                    refine lv_iinc (v := nI (t1 + 1 + i2 + 1)) (lv' := [(2, .int (nI (t1 + 1 + i2 + 1))), (5, .int 1), (4, .int (nI (7 * (t1 + 1 + i2) + (pl (t1 + 1 + i2))))), (3, .int (nI (7 * t1 + (pl t1)))), (1, .int (nI t1)), (0, .ref ra)]) hx hb d_Ref_markRaces_192 hl (k := 3) rfl (by exact nI_1 (t1 + 1 + i2)) (by decide) rfl ?_
                    clear hl ls
                    intro ls hl
                    refine lv_goto (tgt := 14) hx hb d_Ref_markRaces_195 (by decide) ?_
                    refine tp_pc (pc' := 14) (by rfl) ?_
                    obtain ⟨hP8, -, -⟩ := cut3 (wc := [oc ra 8 [.int (nI T), .int (nI Ac), .ref (rA 2), .ref (rA 3), .ref (rA 4), .ref (rA 5), .ref (rA 6), .ref (rA 7), .ref (rA 8), .ref (rA 9), .ref (rA 10), .ref (rA 11), .ref (rA 12), .ref (rA 13), .int ir, .ref (rA 15), .ref (rA 16), .ref (rA 17), .ref (rA 18), .int (nI md), .int (nI wd), .ref (rA 21), .ref (rA 22), .ref (rA 23), .int (nI mn), .ref (rA 25), .int (nI cb), .int mr, .ref (rA 28), .ref (rA 29), .ref (rA 30), .ref (rA 31), .ref (rA 32), .ref (rA 33), .ref (rA 34), .ref (rA 35), .int (nI ld), .int (nI gm), .ref (rA 38), .ref (rA 39), .ref (rA 40), .ref (rA 41), .ref (rA 42), .ref (rA 43), .ref (rA 44), .ref (rA 45), .int (nI my), .ref (rA 47)], ia (rA 16) (rK9 16) 155 sf, ia (rA 2) (rK9 2) 4 (fun i => nI (zs i)), ia (rA 3) (rK9 3) 28 (fun i => nI (kd i)), ia (rA 4) (rK9 4) 28 (fun i => nI (vx i)), ia (rA 15) (rK9 15) 784 (mkI zs kd vx pl t1 F1 (i2 + 1))]) hP hD rfl hS hA [0, 1, 2, 3, 4, 5] (by decide +kernel) rfl
                    exact ih_i2 _ _ _ ⟨hP8, hS, lv_sub hl [0, 4, 5] rfl⟩
                  · skip
                    have hf1 : kd (7 * t1 + (pl t1)) = 3 := (nI_eq (a := kd (7 * t1 + (pl t1))) (b := 3) (by omega) (by omega)).mp f1
                    refine tp_pc (pc' := 155) (by rfl) ?_
                    refine lv_aload_n hx hb d_Ref_markRaces_155 rfl (lv_at hl 5 rfl) ?_
                    refine va_get (D := (dC, dI)) (ci := 8) (v := .ref (rA 3)) (C := R_Ref) (T := F_Ref) (N := 48) hx hb hw i_Ref hown hK hP 0 rfl rfl 3 (by decide) (hw _ m_902) (fun _ h9 => h9) rfl d_Ref_markRaces_156 ?_
                    refine lv_iload hx hb d_Ref_markRaces_159 (lv_at hl 1 rfl) ?_
                    refine va_iald (D := (dC, dI)) hx hb hK hP 3 2 rfl rfl (i := nI (7 * (t1 + 1 + i2) + (pl (t1 + 1 + i2)))) (pk_in (7 * (t1 + 1 + i2) + (pl (t1 + 1 + i2))) 28 (by omega)) d_Ref_markRaces_161 ?_
                    refine tp_i (y := nI (kd (7 * (t1 + 1 + i2) + (pl (t1 + 1 + i2))))) (by rw [show (nI (7 * (t1 + 1 + i2) + (pl (t1 + 1 + i2))) : Int32).toNatClampNeg = 7 * (t1 + 1 + i2) + (pl (t1 + 1 + i2)) from pk_cl (7 * (t1 + 1 + i2) + (pl (t1 + 1 + i2)))]) ?_
                    refine lv_iconst (v := 3) hx hb d_Ref_markRaces_162 (by decide) ?_
                    refine lv_icmp_eq (tgt := 192) hx hb d_Ref_markRaces_163 (by decide) (fun f2 => ?_) (fun f2 => ?_)
                    · skip
                      have hf2 : kd (7 * (t1 + 1 + i2) + (pl (t1 + 1 + i2))) = 3 := (nI_eq (a := kd (7 * (t1 + 1 + i2) + (pl (t1 + 1 + i2)))) (b := 3) (by omega) (by omega)).mp f2
                      have hcn : ¬ (pl t1 < zs t1 ∧ pl (t1 + 1 + i2) < zs (t1 + 1 + i2) ∧ kd (7 * t1 + pl t1) ≤ 3 ∧ kd (7 * (t1 + 1 + i2) + pl (t1 + 1 + i2)) ≤ 3 ∧ vx (7 * t1 + pl t1) = vx (7 * (t1 + 1 + i2) + pl (t1 + 1 + i2)) ∧ ¬ (kd (7 * t1 + pl t1) = 0 ∧ kd (7 * (t1 + 1 + i2) + pl (t1 + 1 + i2)) = 0) ∧ ¬ (kd (7 * t1 + pl t1) = 3 ∧ kd (7 * (t1 + 1 + i2) + pl (t1 + 1 + i2)) = 3)) := fun h => h.2.2.2.2.2.2 ⟨hf1, hf2⟩
                      refine tp_pc (pc' := 192) (by rfl) ?_
                      rw [show mkI zs kd vx pl t1 F1 i2 = mkI zs kd vx pl t1 F1 (i2 + 1) from by rw [mkI, if_neg hcn]] at hP
                      replace hP : va_P (dC, dI) classes [oc ra 8 [.int (nI T), .int (nI Ac), .ref (rA 2), .ref (rA 3), .ref (rA 4), .ref (rA 5), .ref (rA 6), .ref (rA 7), .ref (rA 8), .ref (rA 9), .ref (rA 10), .ref (rA 11), .ref (rA 12), .ref (rA 13), .int ir, .ref (rA 15), .ref (rA 16), .ref (rA 17), .ref (rA 18), .int (nI md), .int (nI wd), .ref (rA 21), .ref (rA 22), .ref (rA 23), .int (nI mn), .ref (rA 25), .int (nI cb), .int mr, .ref (rA 28), .ref (rA 29), .ref (rA 30), .ref (rA 31), .ref (rA 32), .ref (rA 33), .ref (rA 34), .ref (rA 35), .int (nI ld), .int (nI gm), .ref (rA 38), .ref (rA 39), .ref (rA 40), .ref (rA 41), .ref (rA 42), .ref (rA 43), .ref (rA 44), .ref (rA 45), .int (nI my), .ref (rA 47)], ia (rA 16) (rK9 16) 155 sf, ia (rA 2) (rK9 2) 4 (fun i => nI (zs i)), ia (rA 3) (rK9 3) 28 (fun i => nI (kd i)), ia (rA 4) (rK9 4) 28 (fun i => nI (vx i)), ia (rA 15) (rK9 15) 784 (mkI zs kd vx pl t1 F1 (i2 + 1))] H := hP
                      refine lv_iinc (v := nI (t1 + 1 + i2 + 1)) (lv' := [(2, .int (nI (t1 + 1 + i2 + 1))), (5, .int 1), (4, .int (nI (7 * (t1 + 1 + i2) + (pl (t1 + 1 + i2))))), (3, .int (nI (7 * t1 + (pl t1)))), (1, .int (nI t1)), (0, .ref ra)]) hx hb d_Ref_markRaces_192 hl (k := 3) rfl (by exact nI_1 (t1 + 1 + i2)) (by decide) rfl ?_
                      clear hl ls
                      intro ls hl
                      refine lv_goto (tgt := 14) hx hb d_Ref_markRaces_195 (by decide) ?_
                      refine tp_pc (pc' := 14) (by rfl) ?_
                      obtain ⟨hP8, -, -⟩ := cut3 (wc := [oc ra 8 [.int (nI T), .int (nI Ac), .ref (rA 2), .ref (rA 3), .ref (rA 4), .ref (rA 5), .ref (rA 6), .ref (rA 7), .ref (rA 8), .ref (rA 9), .ref (rA 10), .ref (rA 11), .ref (rA 12), .ref (rA 13), .int ir, .ref (rA 15), .ref (rA 16), .ref (rA 17), .ref (rA 18), .int (nI md), .int (nI wd), .ref (rA 21), .ref (rA 22), .ref (rA 23), .int (nI mn), .ref (rA 25), .int (nI cb), .int mr, .ref (rA 28), .ref (rA 29), .ref (rA 30), .ref (rA 31), .ref (rA 32), .ref (rA 33), .ref (rA 34), .ref (rA 35), .int (nI ld), .int (nI gm), .ref (rA 38), .ref (rA 39), .ref (rA 40), .ref (rA 41), .ref (rA 42), .ref (rA 43), .ref (rA 44), .ref (rA 45), .int (nI my), .ref (rA 47)], ia (rA 16) (rK9 16) 155 sf, ia (rA 2) (rK9 2) 4 (fun i => nI (zs i)), ia (rA 3) (rK9 3) 28 (fun i => nI (kd i)), ia (rA 4) (rK9 4) 28 (fun i => nI (vx i)), ia (rA 15) (rK9 15) 784 (mkI zs kd vx pl t1 F1 (i2 + 1))]) hP hD rfl hS hA [0, 1, 2, 3, 4, 5] (by decide +kernel) rfl
                      exact ih_i2 _ _ _ ⟨hP8, hS, lv_sub hl [0, 4, 5] rfl⟩
                    · skip
                      have hf2 : ¬ (kd (7 * (t1 + 1 + i2) + (pl (t1 + 1 + i2))) = 3) := fun q9 => f2 ((nI_eq (a := kd (7 * (t1 + 1 + i2) + (pl (t1 + 1 + i2)))) (b := 3) (by omega) (by omega)).mpr q9)
                      have hcy : pl t1 < zs t1 ∧ pl (t1 + 1 + i2) < zs (t1 + 1 + i2) ∧ kd (7 * t1 + pl t1) ≤ 3 ∧ kd (7 * (t1 + 1 + i2) + pl (t1 + 1 + i2)) ≤ 3 ∧ vx (7 * t1 + pl t1) = vx (7 * (t1 + 1 + i2) + pl (t1 + 1 + i2)) ∧ ¬ (kd (7 * t1 + pl t1) = 0 ∧ kd (7 * (t1 + 1 + i2) + pl (t1 + 1 + i2)) = 0) ∧ ¬ (kd (7 * t1 + pl t1) = 3 ∧ kd (7 * (t1 + 1 + i2) + pl (t1 + 1 + i2)) = 3) := ⟨by omega, by omega, by omega, by omega, hd5, fun h => hd6 h.1, fun h => hf2 h.2⟩
                      refine tp_pc (pc' := 166) (by rfl) ?_
                      refine lv_aload_n hx hb d_Ref_markRaces_166 rfl (lv_at hl 5 rfl) ?_
                      refine va_get (D := (dC, dI)) (ci := 8) (v := .ref (rA 15)) (C := R_Ref) (T := F_Ref) (N := 48) hx hb hw i_Ref hown hK hP 0 rfl rfl 15 (by decide) (hw _ m_914) (fun _ h9 => h9) rfl d_Ref_markRaces_167 ?_
                      refine lv_bipush (v := 28) hx hb d_Ref_markRaces_170 (by decide) ?_
                      refine lv_iload_n hx hb d_Ref_markRaces_172 rfl (lv_at hl 2 rfl) ?_
                      refine lv_imul hx hb d_Ref_markRaces_173 ?_
                      refine tp_i (y := nI (28 * (7 * t1 + (pl t1)))) (by exact pk_mul 28 (7 * t1 + (pl t1))) ?_
                      refine lv_iload hx hb d_Ref_markRaces_174 (lv_at hl 1 rfl) ?_
                      refine lv_iadd hx hb d_Ref_markRaces_176 ?_
                      refine tp_i (y := nI (28 * (7 * t1 + (pl t1)) + (7 * (t1 + 1 + i2) + (pl (t1 + 1 + i2))))) (by exact nI_add (28 * (7 * t1 + (pl t1))) (7 * (t1 + 1 + i2) + (pl (t1 + 1 + i2)))) ?_
                      refine lv_iconst (v := 1) hx hb d_Ref_markRaces_177 (by decide) ?_
                      refine va_zast (D := (dC, dI)) hx hb hK hP (dd_D hD rfl) hS 5 4 rfl rfl (i := nI (28 * (7 * t1 + (pl t1)) + (7 * (t1 + 1 + i2) + (pl (t1 + 1 + i2))))) (x := 1) (pk_in (28 * (7 * t1 + (pl t1)) + (7 * (t1 + 1 + i2) + (pl (t1 + 1 + i2)))) 784 (by omega)) d_Ref_markRaces_178 ?_
                      clear hP hS locs H
                      intro H locs hP _ hS
                      rw [show (nI (28 * (7 * t1 + (pl t1)) + (7 * (t1 + 1 + i2) + (pl (t1 + 1 + i2)))) : Int32).toNatClampNeg = 28 * (7 * t1 + (pl t1)) + (7 * (t1 + 1 + i2) + (pl (t1 + 1 + i2))) from pk_cl (28 * (7 * t1 + (pl t1)) + (7 * (t1 + 1 + i2) + (pl (t1 + 1 + i2))))] at hP
                      replace hP : va_P (dC, dI) classes [oc ra 8 [.int (nI T), .int (nI Ac), .ref (rA 2), .ref (rA 3), .ref (rA 4), .ref (rA 5), .ref (rA 6), .ref (rA 7), .ref (rA 8), .ref (rA 9), .ref (rA 10), .ref (rA 11), .ref (rA 12), .ref (rA 13), .int ir, .ref (rA 15), .ref (rA 16), .ref (rA 17), .ref (rA 18), .int (nI md), .int (nI wd), .ref (rA 21), .ref (rA 22), .ref (rA 23), .int (nI mn), .ref (rA 25), .int (nI cb), .int mr, .ref (rA 28), .ref (rA 29), .ref (rA 30), .ref (rA 31), .ref (rA 32), .ref (rA 33), .ref (rA 34), .ref (rA 35), .int (nI ld), .int (nI gm), .ref (rA 38), .ref (rA 39), .ref (rA 40), .ref (rA 41), .ref (rA 42), .ref (rA 43), .ref (rA 44), .ref (rA 45), .int (nI my), .ref (rA 47)], ia (rA 16) (rK9 16) 155 sf, ia (rA 2) (rK9 2) 4 (fun i => nI (zs i)), ia (rA 3) (rK9 3) 28 (fun i => nI (kd i)), ia (rA 4) (rK9 4) 28 (fun i => nI (vx i)), ia (rA 15) (rK9 15) 784 (upd (mkI zs kd vx pl t1 F1 i2) (28 * (7 * t1 + (pl t1)) + (7 * (t1 + 1 + i2) + (pl (t1 + 1 + i2)))) 1)] H := hP
                      refine tp_pc (pc' := 179) (by rfl) ?_
                      refine lv_aload_n hx hb d_Ref_markRaces_179 rfl (lv_at hl 5 rfl) ?_
                      refine va_get (D := (dC, dI)) (ci := 8) (v := .ref (rA 15)) (C := R_Ref) (T := F_Ref) (N := 48) hx hb hw i_Ref hown hK hP 0 rfl rfl 15 (by decide) (hw _ m_914) (fun _ h9 => h9) rfl d_Ref_markRaces_180 ?_
                      refine lv_bipush (v := 28) hx hb d_Ref_markRaces_183 (by decide) ?_
                      refine lv_iload hx hb d_Ref_markRaces_185 (lv_at hl 1 rfl) ?_
                      refine lv_imul hx hb d_Ref_markRaces_187 ?_
                      refine tp_i (y := nI (28 * (7 * (t1 + 1 + i2) + (pl (t1 + 1 + i2))))) (by exact pk_mul 28 (7 * (t1 + 1 + i2) + (pl (t1 + 1 + i2)))) ?_
                      refine lv_iload_n hx hb d_Ref_markRaces_188 rfl (lv_at hl 2 rfl) ?_
                      refine lv_iadd hx hb d_Ref_markRaces_189 ?_
                      refine tp_i (y := nI (28 * (7 * (t1 + 1 + i2) + (pl (t1 + 1 + i2))) + (7 * t1 + (pl t1)))) (by exact nI_add (28 * (7 * (t1 + 1 + i2) + (pl (t1 + 1 + i2)))) (7 * t1 + (pl t1))) ?_
                      refine lv_iconst (v := 1) hx hb d_Ref_markRaces_190 (by decide) ?_
                      refine va_zast (D := (dC, dI)) hx hb hK hP (dd_D hD rfl) hS 5 4 rfl rfl (i := nI (28 * (7 * (t1 + 1 + i2) + (pl (t1 + 1 + i2))) + (7 * t1 + (pl t1)))) (x := 1) (pk_in (28 * (7 * (t1 + 1 + i2) + (pl (t1 + 1 + i2))) + (7 * t1 + (pl t1))) 784 (by omega)) d_Ref_markRaces_191 ?_
                      clear hP hS locs H
                      intro H locs hP _ hS
                      rw [show (nI (28 * (7 * (t1 + 1 + i2) + (pl (t1 + 1 + i2))) + (7 * t1 + (pl t1))) : Int32).toNatClampNeg = 28 * (7 * (t1 + 1 + i2) + (pl (t1 + 1 + i2))) + (7 * t1 + (pl t1)) from pk_cl (28 * (7 * (t1 + 1 + i2) + (pl (t1 + 1 + i2))) + (7 * t1 + (pl t1)))] at hP
                      replace hP : va_P (dC, dI) classes [oc ra 8 [.int (nI T), .int (nI Ac), .ref (rA 2), .ref (rA 3), .ref (rA 4), .ref (rA 5), .ref (rA 6), .ref (rA 7), .ref (rA 8), .ref (rA 9), .ref (rA 10), .ref (rA 11), .ref (rA 12), .ref (rA 13), .int ir, .ref (rA 15), .ref (rA 16), .ref (rA 17), .ref (rA 18), .int (nI md), .int (nI wd), .ref (rA 21), .ref (rA 22), .ref (rA 23), .int (nI mn), .ref (rA 25), .int (nI cb), .int mr, .ref (rA 28), .ref (rA 29), .ref (rA 30), .ref (rA 31), .ref (rA 32), .ref (rA 33), .ref (rA 34), .ref (rA 35), .int (nI ld), .int (nI gm), .ref (rA 38), .ref (rA 39), .ref (rA 40), .ref (rA 41), .ref (rA 42), .ref (rA 43), .ref (rA 44), .ref (rA 45), .int (nI my), .ref (rA 47)], ia (rA 16) (rK9 16) 155 sf, ia (rA 2) (rK9 2) 4 (fun i => nI (zs i)), ia (rA 3) (rK9 3) 28 (fun i => nI (kd i)), ia (rA 4) (rK9 4) 28 (fun i => nI (vx i)), ia (rA 15) (rK9 15) 784 (upd (upd (mkI zs kd vx pl t1 F1 i2) (28 * (7 * t1 + (pl t1)) + (7 * (t1 + 1 + i2) + (pl (t1 + 1 + i2)))) 1) (28 * (7 * (t1 + 1 + i2) + (pl (t1 + 1 + i2))) + (7 * t1 + (pl t1))) 1)] H := hP
                      refine tp_pc (pc' := 192) (by rfl) ?_
                      rw [show upd (upd (mkI zs kd vx pl t1 F1 i2) (28 * (7 * t1 + pl t1) + (7 * (t1 + 1 + i2) + pl (t1 + 1 + i2))) 1) (28 * (7 * (t1 + 1 + i2) + pl (t1 + 1 + i2)) + (7 * t1 + pl t1)) 1 = mkI zs kd vx pl t1 F1 (i2 + 1) from by rw [mkI, if_pos hcy]] at hP
                      replace hP : va_P (dC, dI) classes [oc ra 8 [.int (nI T), .int (nI Ac), .ref (rA 2), .ref (rA 3), .ref (rA 4), .ref (rA 5), .ref (rA 6), .ref (rA 7), .ref (rA 8), .ref (rA 9), .ref (rA 10), .ref (rA 11), .ref (rA 12), .ref (rA 13), .int ir, .ref (rA 15), .ref (rA 16), .ref (rA 17), .ref (rA 18), .int (nI md), .int (nI wd), .ref (rA 21), .ref (rA 22), .ref (rA 23), .int (nI mn), .ref (rA 25), .int (nI cb), .int mr, .ref (rA 28), .ref (rA 29), .ref (rA 30), .ref (rA 31), .ref (rA 32), .ref (rA 33), .ref (rA 34), .ref (rA 35), .int (nI ld), .int (nI gm), .ref (rA 38), .ref (rA 39), .ref (rA 40), .ref (rA 41), .ref (rA 42), .ref (rA 43), .ref (rA 44), .ref (rA 45), .int (nI my), .ref (rA 47)], ia (rA 16) (rK9 16) 155 sf, ia (rA 2) (rK9 2) 4 (fun i => nI (zs i)), ia (rA 3) (rK9 3) 28 (fun i => nI (kd i)), ia (rA 4) (rK9 4) 28 (fun i => nI (vx i)), ia (rA 15) (rK9 15) 784 (mkI zs kd vx pl t1 F1 (i2 + 1))] H := hP
                      refine lv_iinc (v := nI (t1 + 1 + i2 + 1)) (lv' := [(2, .int (nI (t1 + 1 + i2 + 1))), (5, .int 1), (4, .int (nI (7 * (t1 + 1 + i2) + (pl (t1 + 1 + i2))))), (3, .int (nI (7 * t1 + (pl t1)))), (1, .int (nI t1)), (0, .ref ra)]) hx hb d_Ref_markRaces_192 hl (k := 3) rfl (by exact nI_1 (t1 + 1 + i2)) (by decide) rfl ?_
                      clear hl ls
                      intro ls hl
                      refine lv_goto (tgt := 14) hx hb d_Ref_markRaces_195 (by decide) ?_
                      refine tp_pc (pc' := 14) (by rfl) ?_
                      obtain ⟨hP8, -, -⟩ := cut3 (wc := [oc ra 8 [.int (nI T), .int (nI Ac), .ref (rA 2), .ref (rA 3), .ref (rA 4), .ref (rA 5), .ref (rA 6), .ref (rA 7), .ref (rA 8), .ref (rA 9), .ref (rA 10), .ref (rA 11), .ref (rA 12), .ref (rA 13), .int ir, .ref (rA 15), .ref (rA 16), .ref (rA 17), .ref (rA 18), .int (nI md), .int (nI wd), .ref (rA 21), .ref (rA 22), .ref (rA 23), .int (nI mn), .ref (rA 25), .int (nI cb), .int mr, .ref (rA 28), .ref (rA 29), .ref (rA 30), .ref (rA 31), .ref (rA 32), .ref (rA 33), .ref (rA 34), .ref (rA 35), .int (nI ld), .int (nI gm), .ref (rA 38), .ref (rA 39), .ref (rA 40), .ref (rA 41), .ref (rA 42), .ref (rA 43), .ref (rA 44), .ref (rA 45), .int (nI my), .ref (rA 47)], ia (rA 16) (rK9 16) 155 sf, ia (rA 2) (rK9 2) 4 (fun i => nI (zs i)), ia (rA 3) (rK9 3) 28 (fun i => nI (kd i)), ia (rA 4) (rK9 4) 28 (fun i => nI (vx i)), ia (rA 15) (rK9 15) 784 (mkI zs kd vx pl t1 F1 (i2 + 1))]) hP hD rfl hS hA [0, 1, 2, 3, 4, 5] (by decide +kernel) rfl
                      exact ih_i2 _ _ _ ⟨hP8, hS, lv_sub hl [0, 4, 5] rfl⟩
                · skip
                  have hd6 : kd (7 * t1 + (pl t1)) = 0 := (nI_eq (a := kd (7 * t1 + (pl t1))) (b := 0) (by omega) (by omega)).mp d6
                  refine tp_pc (pc' := 135) (by rfl) ?_
                  refine lv_aload_n hx hb d_Ref_markRaces_135 rfl (lv_at hl 5 rfl) ?_
                  refine va_get (D := (dC, dI)) (ci := 8) (v := .ref (rA 3)) (C := R_Ref) (T := F_Ref) (N := 48) hx hb hw i_Ref hown hK hP 0 rfl rfl 3 (by decide) (hw _ m_902) (fun _ h9 => h9) rfl d_Ref_markRaces_136 ?_
                  refine lv_iload hx hb d_Ref_markRaces_139 (lv_at hl 1 rfl) ?_
                  refine va_iald (D := (dC, dI)) hx hb hK hP 3 2 rfl rfl (i := nI (7 * (t1 + 1 + i2) + (pl (t1 + 1 + i2)))) (pk_in (7 * (t1 + 1 + i2) + (pl (t1 + 1 + i2))) 28 (by omega)) d_Ref_markRaces_141 ?_
                  refine tp_i (y := nI (kd (7 * (t1 + 1 + i2) + (pl (t1 + 1 + i2))))) (by rw [show (nI (7 * (t1 + 1 + i2) + (pl (t1 + 1 + i2))) : Int32).toNatClampNeg = 7 * (t1 + 1 + i2) + (pl (t1 + 1 + i2)) from pk_cl (7 * (t1 + 1 + i2) + (pl (t1 + 1 + i2)))]) ?_
                  refine lv_if_eq (tgt := 192) hx hb d_Ref_markRaces_142 (by decide) (fun d7 => ?_) (fun d7 => ?_)
                  · skip
                    have hd7 : kd (7 * (t1 + 1 + i2) + (pl (t1 + 1 + i2))) = 0 := (nI_eq (a := kd (7 * (t1 + 1 + i2) + (pl (t1 + 1 + i2)))) (b := 0) (by omega) (by omega)).mp d7
                    have hcn : ¬ (pl t1 < zs t1 ∧ pl (t1 + 1 + i2) < zs (t1 + 1 + i2) ∧ kd (7 * t1 + pl t1) ≤ 3 ∧ kd (7 * (t1 + 1 + i2) + pl (t1 + 1 + i2)) ≤ 3 ∧ vx (7 * t1 + pl t1) = vx (7 * (t1 + 1 + i2) + pl (t1 + 1 + i2)) ∧ ¬ (kd (7 * t1 + pl t1) = 0 ∧ kd (7 * (t1 + 1 + i2) + pl (t1 + 1 + i2)) = 0) ∧ ¬ (kd (7 * t1 + pl t1) = 3 ∧ kd (7 * (t1 + 1 + i2) + pl (t1 + 1 + i2)) = 3)) := fun h => h.2.2.2.2.2.1 ⟨hd6, hd7⟩
                    refine tp_pc (pc' := 192) (by rfl) ?_
                    rw [show mkI zs kd vx pl t1 F1 i2 = mkI zs kd vx pl t1 F1 (i2 + 1) from by rw [mkI, if_neg hcn]] at hP
                    replace hP : va_P (dC, dI) classes [oc ra 8 [.int (nI T), .int (nI Ac), .ref (rA 2), .ref (rA 3), .ref (rA 4), .ref (rA 5), .ref (rA 6), .ref (rA 7), .ref (rA 8), .ref (rA 9), .ref (rA 10), .ref (rA 11), .ref (rA 12), .ref (rA 13), .int ir, .ref (rA 15), .ref (rA 16), .ref (rA 17), .ref (rA 18), .int (nI md), .int (nI wd), .ref (rA 21), .ref (rA 22), .ref (rA 23), .int (nI mn), .ref (rA 25), .int (nI cb), .int mr, .ref (rA 28), .ref (rA 29), .ref (rA 30), .ref (rA 31), .ref (rA 32), .ref (rA 33), .ref (rA 34), .ref (rA 35), .int (nI ld), .int (nI gm), .ref (rA 38), .ref (rA 39), .ref (rA 40), .ref (rA 41), .ref (rA 42), .ref (rA 43), .ref (rA 44), .ref (rA 45), .int (nI my), .ref (rA 47)], ia (rA 16) (rK9 16) 155 sf, ia (rA 2) (rK9 2) 4 (fun i => nI (zs i)), ia (rA 3) (rK9 3) 28 (fun i => nI (kd i)), ia (rA 4) (rK9 4) 28 (fun i => nI (vx i)), ia (rA 15) (rK9 15) 784 (mkI zs kd vx pl t1 F1 (i2 + 1))] H := hP
                    refine lv_iinc (v := nI (t1 + 1 + i2 + 1)) (lv' := [(2, .int (nI (t1 + 1 + i2 + 1))), (5, .int 1), (4, .int (nI (7 * (t1 + 1 + i2) + (pl (t1 + 1 + i2))))), (3, .int (nI (7 * t1 + (pl t1)))), (1, .int (nI t1)), (0, .ref ra)]) hx hb d_Ref_markRaces_192 hl (k := 3) rfl (by exact nI_1 (t1 + 1 + i2)) (by decide) rfl ?_
                    clear hl ls
                    intro ls hl
                    refine lv_goto (tgt := 14) hx hb d_Ref_markRaces_195 (by decide) ?_
                    refine tp_pc (pc' := 14) (by rfl) ?_
                    obtain ⟨hP8, -, -⟩ := cut3 (wc := [oc ra 8 [.int (nI T), .int (nI Ac), .ref (rA 2), .ref (rA 3), .ref (rA 4), .ref (rA 5), .ref (rA 6), .ref (rA 7), .ref (rA 8), .ref (rA 9), .ref (rA 10), .ref (rA 11), .ref (rA 12), .ref (rA 13), .int ir, .ref (rA 15), .ref (rA 16), .ref (rA 17), .ref (rA 18), .int (nI md), .int (nI wd), .ref (rA 21), .ref (rA 22), .ref (rA 23), .int (nI mn), .ref (rA 25), .int (nI cb), .int mr, .ref (rA 28), .ref (rA 29), .ref (rA 30), .ref (rA 31), .ref (rA 32), .ref (rA 33), .ref (rA 34), .ref (rA 35), .int (nI ld), .int (nI gm), .ref (rA 38), .ref (rA 39), .ref (rA 40), .ref (rA 41), .ref (rA 42), .ref (rA 43), .ref (rA 44), .ref (rA 45), .int (nI my), .ref (rA 47)], ia (rA 16) (rK9 16) 155 sf, ia (rA 2) (rK9 2) 4 (fun i => nI (zs i)), ia (rA 3) (rK9 3) 28 (fun i => nI (kd i)), ia (rA 4) (rK9 4) 28 (fun i => nI (vx i)), ia (rA 15) (rK9 15) 784 (mkI zs kd vx pl t1 F1 (i2 + 1))]) hP hD rfl hS hA [0, 1, 2, 3, 4, 5] (by decide +kernel) rfl
                    exact ih_i2 _ _ _ ⟨hP8, hS, lv_sub hl [0, 4, 5] rfl⟩
                  · skip
                    have hd7 : ¬ (kd (7 * (t1 + 1 + i2) + (pl (t1 + 1 + i2))) = 0) := fun q9 => d7 ((nI_eq (a := kd (7 * (t1 + 1 + i2) + (pl (t1 + 1 + i2)))) (b := 0) (by omega) (by omega)).mpr q9)
                    refine tp_pc (pc' := 145) (by rfl) ?_
                    refine lv_aload_n hx hb d_Ref_markRaces_145 rfl (lv_at hl 5 rfl) ?_
                    refine va_get (D := (dC, dI)) (ci := 8) (v := .ref (rA 3)) (C := R_Ref) (T := F_Ref) (N := 48) hx hb hw i_Ref hown hK hP 0 rfl rfl 3 (by decide) (hw _ m_902) (fun _ h9 => h9) rfl d_Ref_markRaces_146 ?_
                    refine lv_iload_n hx hb d_Ref_markRaces_149 rfl (lv_at hl 2 rfl) ?_
                    refine va_iald (D := (dC, dI)) hx hb hK hP 3 2 rfl rfl (i := nI (7 * t1 + (pl t1))) (pk_in (7 * t1 + (pl t1)) 28 (by omega)) d_Ref_markRaces_150 ?_
                    refine tp_i (y := nI (kd (7 * t1 + (pl t1)))) (by rw [show (nI (7 * t1 + (pl t1)) : Int32).toNatClampNeg = 7 * t1 + (pl t1) from pk_cl (7 * t1 + (pl t1))]) ?_
                    refine lv_iconst (v := 3) hx hb d_Ref_markRaces_151 (by decide) ?_
                    refine lv_icmp_ne (tgt := 166) hx hb d_Ref_markRaces_152 (by decide) (fun f1 => ?_) (fun f1 => ?_)
                    · skip
                      have hf1 : ¬ (kd (7 * t1 + (pl t1)) = 3) := fun q9 => f1 ((nI_eq (a := kd (7 * t1 + (pl t1))) (b := 3) (by omega) (by omega)).mpr q9)
                      have hcy : pl t1 < zs t1 ∧ pl (t1 + 1 + i2) < zs (t1 + 1 + i2) ∧ kd (7 * t1 + pl t1) ≤ 3 ∧ kd (7 * (t1 + 1 + i2) + pl (t1 + 1 + i2)) ≤ 3 ∧ vx (7 * t1 + pl t1) = vx (7 * (t1 + 1 + i2) + pl (t1 + 1 + i2)) ∧ ¬ (kd (7 * t1 + pl t1) = 0 ∧ kd (7 * (t1 + 1 + i2) + pl (t1 + 1 + i2)) = 0) ∧ ¬ (kd (7 * t1 + pl t1) = 3 ∧ kd (7 * (t1 + 1 + i2) + pl (t1 + 1 + i2)) = 3) := ⟨by omega, by omega, by omega, by omega, hd5, fun h => hd7 h.2, fun h => hf1 h.1⟩
                      refine tp_pc (pc' := 166) (by rfl) ?_
                      refine lv_aload_n hx hb d_Ref_markRaces_166 rfl (lv_at hl 5 rfl) ?_
                      refine va_get (D := (dC, dI)) (ci := 8) (v := .ref (rA 15)) (C := R_Ref) (T := F_Ref) (N := 48) hx hb hw i_Ref hown hK hP 0 rfl rfl 15 (by decide) (hw _ m_914) (fun _ h9 => h9) rfl d_Ref_markRaces_167 ?_
                      refine lv_bipush (v := 28) hx hb d_Ref_markRaces_170 (by decide) ?_
                      refine lv_iload_n hx hb d_Ref_markRaces_172 rfl (lv_at hl 2 rfl) ?_
                      refine lv_imul hx hb d_Ref_markRaces_173 ?_
                      refine tp_i (y := nI (28 * (7 * t1 + (pl t1)))) (by exact pk_mul 28 (7 * t1 + (pl t1))) ?_
                      refine lv_iload hx hb d_Ref_markRaces_174 (lv_at hl 1 rfl) ?_
                      refine lv_iadd hx hb d_Ref_markRaces_176 ?_
                      refine tp_i (y := nI (28 * (7 * t1 + (pl t1)) + (7 * (t1 + 1 + i2) + (pl (t1 + 1 + i2))))) (by exact nI_add (28 * (7 * t1 + (pl t1))) (7 * (t1 + 1 + i2) + (pl (t1 + 1 + i2)))) ?_
                      refine lv_iconst (v := 1) hx hb d_Ref_markRaces_177 (by decide) ?_
                      refine va_zast (D := (dC, dI)) hx hb hK hP (dd_D hD rfl) hS 5 4 rfl rfl (i := nI (28 * (7 * t1 + (pl t1)) + (7 * (t1 + 1 + i2) + (pl (t1 + 1 + i2))))) (x := 1) (pk_in (28 * (7 * t1 + (pl t1)) + (7 * (t1 + 1 + i2) + (pl (t1 + 1 + i2)))) 784 (by omega)) d_Ref_markRaces_178 ?_
                      clear hP hS locs H
                      intro H locs hP _ hS
                      rw [show (nI (28 * (7 * t1 + (pl t1)) + (7 * (t1 + 1 + i2) + (pl (t1 + 1 + i2)))) : Int32).toNatClampNeg = 28 * (7 * t1 + (pl t1)) + (7 * (t1 + 1 + i2) + (pl (t1 + 1 + i2))) from pk_cl (28 * (7 * t1 + (pl t1)) + (7 * (t1 + 1 + i2) + (pl (t1 + 1 + i2))))] at hP
                      replace hP : va_P (dC, dI) classes [oc ra 8 [.int (nI T), .int (nI Ac), .ref (rA 2), .ref (rA 3), .ref (rA 4), .ref (rA 5), .ref (rA 6), .ref (rA 7), .ref (rA 8), .ref (rA 9), .ref (rA 10), .ref (rA 11), .ref (rA 12), .ref (rA 13), .int ir, .ref (rA 15), .ref (rA 16), .ref (rA 17), .ref (rA 18), .int (nI md), .int (nI wd), .ref (rA 21), .ref (rA 22), .ref (rA 23), .int (nI mn), .ref (rA 25), .int (nI cb), .int mr, .ref (rA 28), .ref (rA 29), .ref (rA 30), .ref (rA 31), .ref (rA 32), .ref (rA 33), .ref (rA 34), .ref (rA 35), .int (nI ld), .int (nI gm), .ref (rA 38), .ref (rA 39), .ref (rA 40), .ref (rA 41), .ref (rA 42), .ref (rA 43), .ref (rA 44), .ref (rA 45), .int (nI my), .ref (rA 47)], ia (rA 16) (rK9 16) 155 sf, ia (rA 2) (rK9 2) 4 (fun i => nI (zs i)), ia (rA 3) (rK9 3) 28 (fun i => nI (kd i)), ia (rA 4) (rK9 4) 28 (fun i => nI (vx i)), ia (rA 15) (rK9 15) 784 (upd (mkI zs kd vx pl t1 F1 i2) (28 * (7 * t1 + (pl t1)) + (7 * (t1 + 1 + i2) + (pl (t1 + 1 + i2)))) 1)] H := hP
                      refine tp_pc (pc' := 179) (by rfl) ?_
                      refine lv_aload_n hx hb d_Ref_markRaces_179 rfl (lv_at hl 5 rfl) ?_
                      refine va_get (D := (dC, dI)) (ci := 8) (v := .ref (rA 15)) (C := R_Ref) (T := F_Ref) (N := 48) hx hb hw i_Ref hown hK hP 0 rfl rfl 15 (by decide) (hw _ m_914) (fun _ h9 => h9) rfl d_Ref_markRaces_180 ?_
                      refine lv_bipush (v := 28) hx hb d_Ref_markRaces_183 (by decide) ?_
                      refine lv_iload hx hb d_Ref_markRaces_185 (lv_at hl 1 rfl) ?_
                      refine lv_imul hx hb d_Ref_markRaces_187 ?_
                      refine tp_i (y := nI (28 * (7 * (t1 + 1 + i2) + (pl (t1 + 1 + i2))))) (by exact pk_mul 28 (7 * (t1 + 1 + i2) + (pl (t1 + 1 + i2)))) ?_
                      refine lv_iload_n hx hb d_Ref_markRaces_188 rfl (lv_at hl 2 rfl) ?_
                      refine lv_iadd hx hb d_Ref_markRaces_189 ?_
                      refine tp_i (y := nI (28 * (7 * (t1 + 1 + i2) + (pl (t1 + 1 + i2))) + (7 * t1 + (pl t1)))) (by exact nI_add (28 * (7 * (t1 + 1 + i2) + (pl (t1 + 1 + i2)))) (7 * t1 + (pl t1))) ?_
                      refine lv_iconst (v := 1) hx hb d_Ref_markRaces_190 (by decide) ?_
                      refine va_zast (D := (dC, dI)) hx hb hK hP (dd_D hD rfl) hS 5 4 rfl rfl (i := nI (28 * (7 * (t1 + 1 + i2) + (pl (t1 + 1 + i2))) + (7 * t1 + (pl t1)))) (x := 1) (pk_in (28 * (7 * (t1 + 1 + i2) + (pl (t1 + 1 + i2))) + (7 * t1 + (pl t1))) 784 (by omega)) d_Ref_markRaces_191 ?_
                      clear hP hS locs H
                      intro H locs hP _ hS
                      rw [show (nI (28 * (7 * (t1 + 1 + i2) + (pl (t1 + 1 + i2))) + (7 * t1 + (pl t1))) : Int32).toNatClampNeg = 28 * (7 * (t1 + 1 + i2) + (pl (t1 + 1 + i2))) + (7 * t1 + (pl t1)) from pk_cl (28 * (7 * (t1 + 1 + i2) + (pl (t1 + 1 + i2))) + (7 * t1 + (pl t1)))] at hP
                      replace hP : va_P (dC, dI) classes [oc ra 8 [.int (nI T), .int (nI Ac), .ref (rA 2), .ref (rA 3), .ref (rA 4), .ref (rA 5), .ref (rA 6), .ref (rA 7), .ref (rA 8), .ref (rA 9), .ref (rA 10), .ref (rA 11), .ref (rA 12), .ref (rA 13), .int ir, .ref (rA 15), .ref (rA 16), .ref (rA 17), .ref (rA 18), .int (nI md), .int (nI wd), .ref (rA 21), .ref (rA 22), .ref (rA 23), .int (nI mn), .ref (rA 25), .int (nI cb), .int mr, .ref (rA 28), .ref (rA 29), .ref (rA 30), .ref (rA 31), .ref (rA 32), .ref (rA 33), .ref (rA 34), .ref (rA 35), .int (nI ld), .int (nI gm), .ref (rA 38), .ref (rA 39), .ref (rA 40), .ref (rA 41), .ref (rA 42), .ref (rA 43), .ref (rA 44), .ref (rA 45), .int (nI my), .ref (rA 47)], ia (rA 16) (rK9 16) 155 sf, ia (rA 2) (rK9 2) 4 (fun i => nI (zs i)), ia (rA 3) (rK9 3) 28 (fun i => nI (kd i)), ia (rA 4) (rK9 4) 28 (fun i => nI (vx i)), ia (rA 15) (rK9 15) 784 (upd (upd (mkI zs kd vx pl t1 F1 i2) (28 * (7 * t1 + (pl t1)) + (7 * (t1 + 1 + i2) + (pl (t1 + 1 + i2)))) 1) (28 * (7 * (t1 + 1 + i2) + (pl (t1 + 1 + i2))) + (7 * t1 + (pl t1))) 1)] H := hP
                      refine tp_pc (pc' := 192) (by rfl) ?_
                      rw [show upd (upd (mkI zs kd vx pl t1 F1 i2) (28 * (7 * t1 + pl t1) + (7 * (t1 + 1 + i2) + pl (t1 + 1 + i2))) 1) (28 * (7 * (t1 + 1 + i2) + pl (t1 + 1 + i2)) + (7 * t1 + pl t1)) 1 = mkI zs kd vx pl t1 F1 (i2 + 1) from by rw [mkI, if_pos hcy]] at hP
                      replace hP : va_P (dC, dI) classes [oc ra 8 [.int (nI T), .int (nI Ac), .ref (rA 2), .ref (rA 3), .ref (rA 4), .ref (rA 5), .ref (rA 6), .ref (rA 7), .ref (rA 8), .ref (rA 9), .ref (rA 10), .ref (rA 11), .ref (rA 12), .ref (rA 13), .int ir, .ref (rA 15), .ref (rA 16), .ref (rA 17), .ref (rA 18), .int (nI md), .int (nI wd), .ref (rA 21), .ref (rA 22), .ref (rA 23), .int (nI mn), .ref (rA 25), .int (nI cb), .int mr, .ref (rA 28), .ref (rA 29), .ref (rA 30), .ref (rA 31), .ref (rA 32), .ref (rA 33), .ref (rA 34), .ref (rA 35), .int (nI ld), .int (nI gm), .ref (rA 38), .ref (rA 39), .ref (rA 40), .ref (rA 41), .ref (rA 42), .ref (rA 43), .ref (rA 44), .ref (rA 45), .int (nI my), .ref (rA 47)], ia (rA 16) (rK9 16) 155 sf, ia (rA 2) (rK9 2) 4 (fun i => nI (zs i)), ia (rA 3) (rK9 3) 28 (fun i => nI (kd i)), ia (rA 4) (rK9 4) 28 (fun i => nI (vx i)), ia (rA 15) (rK9 15) 784 (mkI zs kd vx pl t1 F1 (i2 + 1))] H := hP
                      refine lv_iinc (v := nI (t1 + 1 + i2 + 1)) (lv' := [(2, .int (nI (t1 + 1 + i2 + 1))), (5, .int 1), (4, .int (nI (7 * (t1 + 1 + i2) + (pl (t1 + 1 + i2))))), (3, .int (nI (7 * t1 + (pl t1)))), (1, .int (nI t1)), (0, .ref ra)]) hx hb d_Ref_markRaces_192 hl (k := 3) rfl (by exact nI_1 (t1 + 1 + i2)) (by decide) rfl ?_
                      clear hl ls
                      intro ls hl
                      refine lv_goto (tgt := 14) hx hb d_Ref_markRaces_195 (by decide) ?_
                      refine tp_pc (pc' := 14) (by rfl) ?_
                      obtain ⟨hP8, -, -⟩ := cut3 (wc := [oc ra 8 [.int (nI T), .int (nI Ac), .ref (rA 2), .ref (rA 3), .ref (rA 4), .ref (rA 5), .ref (rA 6), .ref (rA 7), .ref (rA 8), .ref (rA 9), .ref (rA 10), .ref (rA 11), .ref (rA 12), .ref (rA 13), .int ir, .ref (rA 15), .ref (rA 16), .ref (rA 17), .ref (rA 18), .int (nI md), .int (nI wd), .ref (rA 21), .ref (rA 22), .ref (rA 23), .int (nI mn), .ref (rA 25), .int (nI cb), .int mr, .ref (rA 28), .ref (rA 29), .ref (rA 30), .ref (rA 31), .ref (rA 32), .ref (rA 33), .ref (rA 34), .ref (rA 35), .int (nI ld), .int (nI gm), .ref (rA 38), .ref (rA 39), .ref (rA 40), .ref (rA 41), .ref (rA 42), .ref (rA 43), .ref (rA 44), .ref (rA 45), .int (nI my), .ref (rA 47)], ia (rA 16) (rK9 16) 155 sf, ia (rA 2) (rK9 2) 4 (fun i => nI (zs i)), ia (rA 3) (rK9 3) 28 (fun i => nI (kd i)), ia (rA 4) (rK9 4) 28 (fun i => nI (vx i)), ia (rA 15) (rK9 15) 784 (mkI zs kd vx pl t1 F1 (i2 + 1))]) hP hD rfl hS hA [0, 1, 2, 3, 4, 5] (by decide +kernel) rfl
                      exact ih_i2 _ _ _ ⟨hP8, hS, lv_sub hl [0, 4, 5] rfl⟩
                    · skip
                      have hf1 : kd (7 * t1 + (pl t1)) = 3 := (nI_eq (a := kd (7 * t1 + (pl t1))) (b := 3) (by omega) (by omega)).mp f1
                      refine tp_pc (pc' := 155) (by rfl) ?_
                      refine lv_aload_n hx hb d_Ref_markRaces_155 rfl (lv_at hl 5 rfl) ?_
                      refine va_get (D := (dC, dI)) (ci := 8) (v := .ref (rA 3)) (C := R_Ref) (T := F_Ref) (N := 48) hx hb hw i_Ref hown hK hP 0 rfl rfl 3 (by decide) (hw _ m_902) (fun _ h9 => h9) rfl d_Ref_markRaces_156 ?_
                      refine lv_iload hx hb d_Ref_markRaces_159 (lv_at hl 1 rfl) ?_
                      refine va_iald (D := (dC, dI)) hx hb hK hP 3 2 rfl rfl (i := nI (7 * (t1 + 1 + i2) + (pl (t1 + 1 + i2)))) (pk_in (7 * (t1 + 1 + i2) + (pl (t1 + 1 + i2))) 28 (by omega)) d_Ref_markRaces_161 ?_
                      refine tp_i (y := nI (kd (7 * (t1 + 1 + i2) + (pl (t1 + 1 + i2))))) (by rw [show (nI (7 * (t1 + 1 + i2) + (pl (t1 + 1 + i2))) : Int32).toNatClampNeg = 7 * (t1 + 1 + i2) + (pl (t1 + 1 + i2)) from pk_cl (7 * (t1 + 1 + i2) + (pl (t1 + 1 + i2)))]) ?_
                      refine lv_iconst (v := 3) hx hb d_Ref_markRaces_162 (by decide) ?_
                      refine lv_icmp_eq (tgt := 192) hx hb d_Ref_markRaces_163 (by decide) (fun f2 => ?_) (fun f2 => ?_)
                      · skip
                        have hf2 : kd (7 * (t1 + 1 + i2) + (pl (t1 + 1 + i2))) = 3 := (nI_eq (a := kd (7 * (t1 + 1 + i2) + (pl (t1 + 1 + i2)))) (b := 3) (by omega) (by omega)).mp f2
                        have hcn : ¬ (pl t1 < zs t1 ∧ pl (t1 + 1 + i2) < zs (t1 + 1 + i2) ∧ kd (7 * t1 + pl t1) ≤ 3 ∧ kd (7 * (t1 + 1 + i2) + pl (t1 + 1 + i2)) ≤ 3 ∧ vx (7 * t1 + pl t1) = vx (7 * (t1 + 1 + i2) + pl (t1 + 1 + i2)) ∧ ¬ (kd (7 * t1 + pl t1) = 0 ∧ kd (7 * (t1 + 1 + i2) + pl (t1 + 1 + i2)) = 0) ∧ ¬ (kd (7 * t1 + pl t1) = 3 ∧ kd (7 * (t1 + 1 + i2) + pl (t1 + 1 + i2)) = 3)) := fun h => h.2.2.2.2.2.2 ⟨hf1, hf2⟩
                        refine tp_pc (pc' := 192) (by rfl) ?_
                        rw [show mkI zs kd vx pl t1 F1 i2 = mkI zs kd vx pl t1 F1 (i2 + 1) from by rw [mkI, if_neg hcn]] at hP
                        replace hP : va_P (dC, dI) classes [oc ra 8 [.int (nI T), .int (nI Ac), .ref (rA 2), .ref (rA 3), .ref (rA 4), .ref (rA 5), .ref (rA 6), .ref (rA 7), .ref (rA 8), .ref (rA 9), .ref (rA 10), .ref (rA 11), .ref (rA 12), .ref (rA 13), .int ir, .ref (rA 15), .ref (rA 16), .ref (rA 17), .ref (rA 18), .int (nI md), .int (nI wd), .ref (rA 21), .ref (rA 22), .ref (rA 23), .int (nI mn), .ref (rA 25), .int (nI cb), .int mr, .ref (rA 28), .ref (rA 29), .ref (rA 30), .ref (rA 31), .ref (rA 32), .ref (rA 33), .ref (rA 34), .ref (rA 35), .int (nI ld), .int (nI gm), .ref (rA 38), .ref (rA 39), .ref (rA 40), .ref (rA 41), .ref (rA 42), .ref (rA 43), .ref (rA 44), .ref (rA 45), .int (nI my), .ref (rA 47)], ia (rA 16) (rK9 16) 155 sf, ia (rA 2) (rK9 2) 4 (fun i => nI (zs i)), ia (rA 3) (rK9 3) 28 (fun i => nI (kd i)), ia (rA 4) (rK9 4) 28 (fun i => nI (vx i)), ia (rA 15) (rK9 15) 784 (mkI zs kd vx pl t1 F1 (i2 + 1))] H := hP
                        refine lv_iinc (v := nI (t1 + 1 + i2 + 1)) (lv' := [(2, .int (nI (t1 + 1 + i2 + 1))), (5, .int 1), (4, .int (nI (7 * (t1 + 1 + i2) + (pl (t1 + 1 + i2))))), (3, .int (nI (7 * t1 + (pl t1)))), (1, .int (nI t1)), (0, .ref ra)]) hx hb d_Ref_markRaces_192 hl (k := 3) rfl (by exact nI_1 (t1 + 1 + i2)) (by decide) rfl ?_
                        clear hl ls
                        intro ls hl
                        refine lv_goto (tgt := 14) hx hb d_Ref_markRaces_195 (by decide) ?_
                        refine tp_pc (pc' := 14) (by rfl) ?_
                        obtain ⟨hP8, -, -⟩ := cut3 (wc := [oc ra 8 [.int (nI T), .int (nI Ac), .ref (rA 2), .ref (rA 3), .ref (rA 4), .ref (rA 5), .ref (rA 6), .ref (rA 7), .ref (rA 8), .ref (rA 9), .ref (rA 10), .ref (rA 11), .ref (rA 12), .ref (rA 13), .int ir, .ref (rA 15), .ref (rA 16), .ref (rA 17), .ref (rA 18), .int (nI md), .int (nI wd), .ref (rA 21), .ref (rA 22), .ref (rA 23), .int (nI mn), .ref (rA 25), .int (nI cb), .int mr, .ref (rA 28), .ref (rA 29), .ref (rA 30), .ref (rA 31), .ref (rA 32), .ref (rA 33), .ref (rA 34), .ref (rA 35), .int (nI ld), .int (nI gm), .ref (rA 38), .ref (rA 39), .ref (rA 40), .ref (rA 41), .ref (rA 42), .ref (rA 43), .ref (rA 44), .ref (rA 45), .int (nI my), .ref (rA 47)], ia (rA 16) (rK9 16) 155 sf, ia (rA 2) (rK9 2) 4 (fun i => nI (zs i)), ia (rA 3) (rK9 3) 28 (fun i => nI (kd i)), ia (rA 4) (rK9 4) 28 (fun i => nI (vx i)), ia (rA 15) (rK9 15) 784 (mkI zs kd vx pl t1 F1 (i2 + 1))]) hP hD rfl hS hA [0, 1, 2, 3, 4, 5] (by decide +kernel) rfl
                        exact ih_i2 _ _ _ ⟨hP8, hS, lv_sub hl [0, 4, 5] rfl⟩
                      · skip
                        have hf2 : ¬ (kd (7 * (t1 + 1 + i2) + (pl (t1 + 1 + i2))) = 3) := fun q9 => f2 ((nI_eq (a := kd (7 * (t1 + 1 + i2) + (pl (t1 + 1 + i2)))) (b := 3) (by omega) (by omega)).mpr q9)
                        have hcy : pl t1 < zs t1 ∧ pl (t1 + 1 + i2) < zs (t1 + 1 + i2) ∧ kd (7 * t1 + pl t1) ≤ 3 ∧ kd (7 * (t1 + 1 + i2) + pl (t1 + 1 + i2)) ≤ 3 ∧ vx (7 * t1 + pl t1) = vx (7 * (t1 + 1 + i2) + pl (t1 + 1 + i2)) ∧ ¬ (kd (7 * t1 + pl t1) = 0 ∧ kd (7 * (t1 + 1 + i2) + pl (t1 + 1 + i2)) = 0) ∧ ¬ (kd (7 * t1 + pl t1) = 3 ∧ kd (7 * (t1 + 1 + i2) + pl (t1 + 1 + i2)) = 3) := ⟨by omega, by omega, by omega, by omega, hd5, fun h => hd7 h.2, fun h => hf2 h.2⟩
                        refine tp_pc (pc' := 166) (by rfl) ?_
                        refine lv_aload_n hx hb d_Ref_markRaces_166 rfl (lv_at hl 5 rfl) ?_
                        refine va_get (D := (dC, dI)) (ci := 8) (v := .ref (rA 15)) (C := R_Ref) (T := F_Ref) (N := 48) hx hb hw i_Ref hown hK hP 0 rfl rfl 15 (by decide) (hw _ m_914) (fun _ h9 => h9) rfl d_Ref_markRaces_167 ?_
                        refine lv_bipush (v := 28) hx hb d_Ref_markRaces_170 (by decide) ?_
                        refine lv_iload_n hx hb d_Ref_markRaces_172 rfl (lv_at hl 2 rfl) ?_
                        refine lv_imul hx hb d_Ref_markRaces_173 ?_
                        refine tp_i (y := nI (28 * (7 * t1 + (pl t1)))) (by exact pk_mul 28 (7 * t1 + (pl t1))) ?_
                        refine lv_iload hx hb d_Ref_markRaces_174 (lv_at hl 1 rfl) ?_
                        refine lv_iadd hx hb d_Ref_markRaces_176 ?_
                        refine tp_i (y := nI (28 * (7 * t1 + (pl t1)) + (7 * (t1 + 1 + i2) + (pl (t1 + 1 + i2))))) (by exact nI_add (28 * (7 * t1 + (pl t1))) (7 * (t1 + 1 + i2) + (pl (t1 + 1 + i2)))) ?_
                        refine lv_iconst (v := 1) hx hb d_Ref_markRaces_177 (by decide) ?_
                        refine va_zast (D := (dC, dI)) hx hb hK hP (dd_D hD rfl) hS 5 4 rfl rfl (i := nI (28 * (7 * t1 + (pl t1)) + (7 * (t1 + 1 + i2) + (pl (t1 + 1 + i2))))) (x := 1) (pk_in (28 * (7 * t1 + (pl t1)) + (7 * (t1 + 1 + i2) + (pl (t1 + 1 + i2)))) 784 (by omega)) d_Ref_markRaces_178 ?_
                        clear hP hS locs H
                        intro H locs hP _ hS
                        rw [show (nI (28 * (7 * t1 + (pl t1)) + (7 * (t1 + 1 + i2) + (pl (t1 + 1 + i2)))) : Int32).toNatClampNeg = 28 * (7 * t1 + (pl t1)) + (7 * (t1 + 1 + i2) + (pl (t1 + 1 + i2))) from pk_cl (28 * (7 * t1 + (pl t1)) + (7 * (t1 + 1 + i2) + (pl (t1 + 1 + i2))))] at hP
                        replace hP : va_P (dC, dI) classes [oc ra 8 [.int (nI T), .int (nI Ac), .ref (rA 2), .ref (rA 3), .ref (rA 4), .ref (rA 5), .ref (rA 6), .ref (rA 7), .ref (rA 8), .ref (rA 9), .ref (rA 10), .ref (rA 11), .ref (rA 12), .ref (rA 13), .int ir, .ref (rA 15), .ref (rA 16), .ref (rA 17), .ref (rA 18), .int (nI md), .int (nI wd), .ref (rA 21), .ref (rA 22), .ref (rA 23), .int (nI mn), .ref (rA 25), .int (nI cb), .int mr, .ref (rA 28), .ref (rA 29), .ref (rA 30), .ref (rA 31), .ref (rA 32), .ref (rA 33), .ref (rA 34), .ref (rA 35), .int (nI ld), .int (nI gm), .ref (rA 38), .ref (rA 39), .ref (rA 40), .ref (rA 41), .ref (rA 42), .ref (rA 43), .ref (rA 44), .ref (rA 45), .int (nI my), .ref (rA 47)], ia (rA 16) (rK9 16) 155 sf, ia (rA 2) (rK9 2) 4 (fun i => nI (zs i)), ia (rA 3) (rK9 3) 28 (fun i => nI (kd i)), ia (rA 4) (rK9 4) 28 (fun i => nI (vx i)), ia (rA 15) (rK9 15) 784 (upd (mkI zs kd vx pl t1 F1 i2) (28 * (7 * t1 + (pl t1)) + (7 * (t1 + 1 + i2) + (pl (t1 + 1 + i2)))) 1)] H := hP
                        refine tp_pc (pc' := 179) (by rfl) ?_
                        refine lv_aload_n hx hb d_Ref_markRaces_179 rfl (lv_at hl 5 rfl) ?_
                        refine va_get (D := (dC, dI)) (ci := 8) (v := .ref (rA 15)) (C := R_Ref) (T := F_Ref) (N := 48) hx hb hw i_Ref hown hK hP 0 rfl rfl 15 (by decide) (hw _ m_914) (fun _ h9 => h9) rfl d_Ref_markRaces_180 ?_
                        refine lv_bipush (v := 28) hx hb d_Ref_markRaces_183 (by decide) ?_
                        refine lv_iload hx hb d_Ref_markRaces_185 (lv_at hl 1 rfl) ?_
                        refine lv_imul hx hb d_Ref_markRaces_187 ?_
                        refine tp_i (y := nI (28 * (7 * (t1 + 1 + i2) + (pl (t1 + 1 + i2))))) (by exact pk_mul 28 (7 * (t1 + 1 + i2) + (pl (t1 + 1 + i2)))) ?_
                        refine lv_iload_n hx hb d_Ref_markRaces_188 rfl (lv_at hl 2 rfl) ?_
                        refine lv_iadd hx hb d_Ref_markRaces_189 ?_
                        refine tp_i (y := nI (28 * (7 * (t1 + 1 + i2) + (pl (t1 + 1 + i2))) + (7 * t1 + (pl t1)))) (by exact nI_add (28 * (7 * (t1 + 1 + i2) + (pl (t1 + 1 + i2)))) (7 * t1 + (pl t1))) ?_
                        refine lv_iconst (v := 1) hx hb d_Ref_markRaces_190 (by decide) ?_
                        refine va_zast (D := (dC, dI)) hx hb hK hP (dd_D hD rfl) hS 5 4 rfl rfl (i := nI (28 * (7 * (t1 + 1 + i2) + (pl (t1 + 1 + i2))) + (7 * t1 + (pl t1)))) (x := 1) (pk_in (28 * (7 * (t1 + 1 + i2) + (pl (t1 + 1 + i2))) + (7 * t1 + (pl t1))) 784 (by omega)) d_Ref_markRaces_191 ?_
                        clear hP hS locs H
                        intro H locs hP _ hS
                        rw [show (nI (28 * (7 * (t1 + 1 + i2) + (pl (t1 + 1 + i2))) + (7 * t1 + (pl t1))) : Int32).toNatClampNeg = 28 * (7 * (t1 + 1 + i2) + (pl (t1 + 1 + i2))) + (7 * t1 + (pl t1)) from pk_cl (28 * (7 * (t1 + 1 + i2) + (pl (t1 + 1 + i2))) + (7 * t1 + (pl t1)))] at hP
                        replace hP : va_P (dC, dI) classes [oc ra 8 [.int (nI T), .int (nI Ac), .ref (rA 2), .ref (rA 3), .ref (rA 4), .ref (rA 5), .ref (rA 6), .ref (rA 7), .ref (rA 8), .ref (rA 9), .ref (rA 10), .ref (rA 11), .ref (rA 12), .ref (rA 13), .int ir, .ref (rA 15), .ref (rA 16), .ref (rA 17), .ref (rA 18), .int (nI md), .int (nI wd), .ref (rA 21), .ref (rA 22), .ref (rA 23), .int (nI mn), .ref (rA 25), .int (nI cb), .int mr, .ref (rA 28), .ref (rA 29), .ref (rA 30), .ref (rA 31), .ref (rA 32), .ref (rA 33), .ref (rA 34), .ref (rA 35), .int (nI ld), .int (nI gm), .ref (rA 38), .ref (rA 39), .ref (rA 40), .ref (rA 41), .ref (rA 42), .ref (rA 43), .ref (rA 44), .ref (rA 45), .int (nI my), .ref (rA 47)], ia (rA 16) (rK9 16) 155 sf, ia (rA 2) (rK9 2) 4 (fun i => nI (zs i)), ia (rA 3) (rK9 3) 28 (fun i => nI (kd i)), ia (rA 4) (rK9 4) 28 (fun i => nI (vx i)), ia (rA 15) (rK9 15) 784 (upd (upd (mkI zs kd vx pl t1 F1 i2) (28 * (7 * t1 + (pl t1)) + (7 * (t1 + 1 + i2) + (pl (t1 + 1 + i2)))) 1) (28 * (7 * (t1 + 1 + i2) + (pl (t1 + 1 + i2))) + (7 * t1 + (pl t1))) 1)] H := hP
                        refine tp_pc (pc' := 192) (by rfl) ?_
                        rw [show upd (upd (mkI zs kd vx pl t1 F1 i2) (28 * (7 * t1 + pl t1) + (7 * (t1 + 1 + i2) + pl (t1 + 1 + i2))) 1) (28 * (7 * (t1 + 1 + i2) + pl (t1 + 1 + i2)) + (7 * t1 + pl t1)) 1 = mkI zs kd vx pl t1 F1 (i2 + 1) from by rw [mkI, if_pos hcy]] at hP
                        replace hP : va_P (dC, dI) classes [oc ra 8 [.int (nI T), .int (nI Ac), .ref (rA 2), .ref (rA 3), .ref (rA 4), .ref (rA 5), .ref (rA 6), .ref (rA 7), .ref (rA 8), .ref (rA 9), .ref (rA 10), .ref (rA 11), .ref (rA 12), .ref (rA 13), .int ir, .ref (rA 15), .ref (rA 16), .ref (rA 17), .ref (rA 18), .int (nI md), .int (nI wd), .ref (rA 21), .ref (rA 22), .ref (rA 23), .int (nI mn), .ref (rA 25), .int (nI cb), .int mr, .ref (rA 28), .ref (rA 29), .ref (rA 30), .ref (rA 31), .ref (rA 32), .ref (rA 33), .ref (rA 34), .ref (rA 35), .int (nI ld), .int (nI gm), .ref (rA 38), .ref (rA 39), .ref (rA 40), .ref (rA 41), .ref (rA 42), .ref (rA 43), .ref (rA 44), .ref (rA 45), .int (nI my), .ref (rA 47)], ia (rA 16) (rK9 16) 155 sf, ia (rA 2) (rK9 2) 4 (fun i => nI (zs i)), ia (rA 3) (rK9 3) 28 (fun i => nI (kd i)), ia (rA 4) (rK9 4) 28 (fun i => nI (vx i)), ia (rA 15) (rK9 15) 784 (mkI zs kd vx pl t1 F1 (i2 + 1))] H := hP
                        refine lv_iinc (v := nI (t1 + 1 + i2 + 1)) (lv' := [(2, .int (nI (t1 + 1 + i2 + 1))), (5, .int 1), (4, .int (nI (7 * (t1 + 1 + i2) + (pl (t1 + 1 + i2))))), (3, .int (nI (7 * t1 + (pl t1)))), (1, .int (nI t1)), (0, .ref ra)]) hx hb d_Ref_markRaces_192 hl (k := 3) rfl (by exact nI_1 (t1 + 1 + i2)) (by decide) rfl ?_
                        clear hl ls
                        intro ls hl
                        refine lv_goto (tgt := 14) hx hb d_Ref_markRaces_195 (by decide) ?_
                        refine tp_pc (pc' := 14) (by rfl) ?_
                        obtain ⟨hP8, -, -⟩ := cut3 (wc := [oc ra 8 [.int (nI T), .int (nI Ac), .ref (rA 2), .ref (rA 3), .ref (rA 4), .ref (rA 5), .ref (rA 6), .ref (rA 7), .ref (rA 8), .ref (rA 9), .ref (rA 10), .ref (rA 11), .ref (rA 12), .ref (rA 13), .int ir, .ref (rA 15), .ref (rA 16), .ref (rA 17), .ref (rA 18), .int (nI md), .int (nI wd), .ref (rA 21), .ref (rA 22), .ref (rA 23), .int (nI mn), .ref (rA 25), .int (nI cb), .int mr, .ref (rA 28), .ref (rA 29), .ref (rA 30), .ref (rA 31), .ref (rA 32), .ref (rA 33), .ref (rA 34), .ref (rA 35), .int (nI ld), .int (nI gm), .ref (rA 38), .ref (rA 39), .ref (rA 40), .ref (rA 41), .ref (rA 42), .ref (rA 43), .ref (rA 44), .ref (rA 45), .int (nI my), .ref (rA 47)], ia (rA 16) (rK9 16) 155 sf, ia (rA 2) (rK9 2) 4 (fun i => nI (zs i)), ia (rA 3) (rK9 3) 28 (fun i => nI (kd i)), ia (rA 4) (rK9 4) 28 (fun i => nI (vx i)), ia (rA 15) (rK9 15) 784 (mkI zs kd vx pl t1 F1 (i2 + 1))]) hP hD rfl hS hA [0, 1, 2, 3, 4, 5] (by decide +kernel) rfl
                        exact ih_i2 _ _ _ ⟨hP8, hS, lv_sub hl [0, 4, 5] rfl⟩
    · intro H locs ls hI
      obtain ⟨hP, hS, hl⟩ := hI
      refine lv_iload_n hx hb d_Ref_markRaces_14 rfl (lv_at hl 0 rfl) ?_
      refine lv_aload_n hx hb d_Ref_markRaces_15 rfl (lv_at hl 2 rfl) ?_
      refine va_get (D := (dC, dI)) (ci := 8) (v := .int (nI T)) (C := R_Ref) (T := F_Ref) (N := 48) hx hb hw i_Ref hown hK hP 0 rfl rfl 0 (by decide) (hw _ m_899) (fun _ h9 => h9) rfl d_Ref_markRaces_16 ?_
      refine lv_icmp_ge (tgt := 198) hx hb d_Ref_markRaces_19 (by decide) (fun c9 => ?_) (fun c9 => absurd (nI_le (by omega) (by omega)) c9)
      rw [show mkI zs kd vx pl t1 F1 (T - (t1 + 1)) = mkO zs kd vx pl T rc9 (t1 + 1) from by rw [mkO, hF1]] at hP
      replace hP : va_P (dC, dI) classes [oc ra 8 [.int (nI T), .int (nI Ac), .ref (rA 2), .ref (rA 3), .ref (rA 4), .ref (rA 5), .ref (rA 6), .ref (rA 7), .ref (rA 8), .ref (rA 9), .ref (rA 10), .ref (rA 11), .ref (rA 12), .ref (rA 13), .int ir, .ref (rA 15), .ref (rA 16), .ref (rA 17), .ref (rA 18), .int (nI md), .int (nI wd), .ref (rA 21), .ref (rA 22), .ref (rA 23), .int (nI mn), .ref (rA 25), .int (nI cb), .int mr, .ref (rA 28), .ref (rA 29), .ref (rA 30), .ref (rA 31), .ref (rA 32), .ref (rA 33), .ref (rA 34), .ref (rA 35), .int (nI ld), .int (nI gm), .ref (rA 38), .ref (rA 39), .ref (rA 40), .ref (rA 41), .ref (rA 42), .ref (rA 43), .ref (rA 44), .ref (rA 45), .int (nI my), .ref (rA 47)], ia (rA 16) (rK9 16) 155 sf, ia (rA 2) (rK9 2) 4 (fun i => nI (zs i)), ia (rA 3) (rK9 3) 28 (fun i => nI (kd i)), ia (rA 4) (rK9 4) 28 (fun i => nI (vx i)), ia (rA 15) (rK9 15) 784 (mkO zs kd vx pl T rc9 (t1 + 1))] H := hP
      refine tp_pc (pc' := 198) (by rfl) ?_
      refine lv_iinc (v := nI (t1 + 1)) (lv' := [(1, .int (nI (t1 + 1))), (2, .int (nI (t1 + 1 + (T - (t1 + 1))))), (0, .ref ra)]) hx hb d_Ref_markRaces_198 hl (k := 1) rfl (by exact nI_1 t1) (by decide) rfl ?_
      clear hl ls
      intro ls hl
      refine lv_goto (tgt := 2) hx hb d_Ref_markRaces_201 (by decide) ?_
      refine tp_pc (pc' := 2) (by rfl) ?_
      obtain ⟨hP8, -, -⟩ := cut3 (wc := [oc ra 8 [.int (nI T), .int (nI Ac), .ref (rA 2), .ref (rA 3), .ref (rA 4), .ref (rA 5), .ref (rA 6), .ref (rA 7), .ref (rA 8), .ref (rA 9), .ref (rA 10), .ref (rA 11), .ref (rA 12), .ref (rA 13), .int ir, .ref (rA 15), .ref (rA 16), .ref (rA 17), .ref (rA 18), .int (nI md), .int (nI wd), .ref (rA 21), .ref (rA 22), .ref (rA 23), .int (nI mn), .ref (rA 25), .int (nI cb), .int mr, .ref (rA 28), .ref (rA 29), .ref (rA 30), .ref (rA 31), .ref (rA 32), .ref (rA 33), .ref (rA 34), .ref (rA 35), .int (nI ld), .int (nI gm), .ref (rA 38), .ref (rA 39), .ref (rA 40), .ref (rA 41), .ref (rA 42), .ref (rA 43), .ref (rA 44), .ref (rA 45), .int (nI my), .ref (rA 47)], ia (rA 16) (rK9 16) 155 sf, ia (rA 2) (rK9 2) 4 (fun i => nI (zs i)), ia (rA 3) (rK9 3) 28 (fun i => nI (kd i)), ia (rA 4) (rK9 4) 28 (fun i => nI (vx i)), ia (rA 15) (rK9 15) 784 (mkO zs kd vx pl T rc9 (t1 + 1))]) hP hD rfl hS hA [0, 1, 2, 3, 4, 5] (by decide +kernel) rfl
      exact ih_t1 _ _ _ ⟨hP8, hS, lv_sub hl [0, 2] rfl⟩
  · intro H locs ls hI
    obtain ⟨hP, hS, hl⟩ := hI
    refine lv_iload_n hx hb d_Ref_markRaces_2 rfl (lv_at hl 0 rfl) ?_
    refine lv_aload_n hx hb d_Ref_markRaces_3 rfl (lv_at hl 1 rfl) ?_
    refine va_get (D := (dC, dI)) (ci := 8) (v := .int (nI T)) (C := R_Ref) (T := F_Ref) (N := 48) hx hb hw i_Ref hown hK hP 0 rfl rfl 0 (by decide) (hw _ m_899) (fun _ h9 => h9) rfl d_Ref_markRaces_4 ?_
    refine lv_icmp_ge (tgt := 204) hx hb d_Ref_markRaces_7 (by decide) (fun c9 => ?_) (fun c9 => absurd (nI_le (Nat.le_refl _) (by omega)) c9)
    refine tp_pc (pc' := 204) (by rfl) ?_
    obtain ⟨hP9, hD9, -⟩ := cut3 (wc := [oc ra 8 [.int (nI T), .int (nI Ac), .ref (rA 2), .ref (rA 3), .ref (rA 4), .ref (rA 5), .ref (rA 6), .ref (rA 7), .ref (rA 8), .ref (rA 9), .ref (rA 10), .ref (rA 11), .ref (rA 12), .ref (rA 13), .int ir, .ref (rA 15), .ref (rA 16), .ref (rA 17), .ref (rA 18), .int (nI md), .int (nI wd), .ref (rA 21), .ref (rA 22), .ref (rA 23), .int (nI mn), .ref (rA 25), .int (nI cb), .int mr, .ref (rA 28), .ref (rA 29), .ref (rA 30), .ref (rA 31), .ref (rA 32), .ref (rA 33), .ref (rA 34), .ref (rA 35), .int (nI ld), .int (nI gm), .ref (rA 38), .ref (rA 39), .ref (rA 40), .ref (rA 41), .ref (rA 42), .ref (rA 43), .ref (rA 44), .ref (rA 45), .int (nI my), .ref (rA 47)], ia (rA 16) (rK9 16) 155 sf, ia (rA 2) (rK9 2) 4 (fun i => nI (zs i)), ia (rA 3) (rK9 3) 28 (fun i => nI (kd i)), ia (rA 4) (rK9 4) 28 (fun i => nI (vx i)), ia (rA 15) (rK9 15) 784 (mkO zs kd vx pl T rc9 T)]) hP hD rfl hS hA [0, 1, 2, 3, 4, 5] (by decide +kernel) rfl
    have hK9 := hK.sub (tys' := []) [] rfl
    refine W.widen (k := 0) (n := 0) (by exact Nat.le_of_ble_eq_true rfl) (by exact Nat.le_of_ble_eq_true rfl) ?_
    exact W.vret hx hb hr (fun t9 ht9 hW => ⟨⟨(), rfl, trivial, by rw [ht9]; exact hP9, va_K.moved hW.alike hK9, hD9⟩, hS.F ht9⟩) hS.2.2 d_Ref_markRaces_204
