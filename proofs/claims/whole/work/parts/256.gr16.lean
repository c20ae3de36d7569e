set_option maxHeartbeats 4000000 in
set_option maxRecDepth 100000 in
theorem gen_Ref_addOutcome_new (l : Launch) (dC : Nat → ClassId) (dI : Nat → Nat → Nat) (ra : Nat) (rA : Nat → Nat) (rK9 : Nat → ClassId) (T Ac md wd mn cb ld gm my : Nat) (ir mr : Int32) (se n p9 : Nat) (nw9 oc9 : Nat → Int32) (om or9 : Nat → Nat) (hse : se < 8) (hn4 : n < 4000) (hom : om se = n) (hor : ∀ i, i < n → or9 (4000 * se + i) < n) (hp9 : p9 ≤ n) (h1 : ∀ i, i < p9 → 0 < agF nw9 (fun j => oc9 (11 * (4000 * se + or9 (4000 * se + i)) + j)) 11 0) (h2 : ∀ i, p9 ≤ i → i < n → ¬ 0 < agF nw9 (fun j => oc9 (11 * (4000 * se + or9 (4000 * se + i)) + j)) 11 0) (hnq : p9 < n → ¬ agF nw9 (fun j => oc9 (11 * (4000 * se + or9 (4000 * se + p9)) + j)) 11 0 = 0) (sz : Nat) : Met l y_Ref_addOutcome w_Ref_addOutcome ({ frames := 1, cells := 0, slots := 0, locals := 60 }) (va_Pc [.ref ra, .int (nI se)] (fun U => U.heap.size = sz ∧ va_P (dC, dI) classes [oc ra 8 [.int (nI T), .int (nI Ac), .ref (rA 2), .ref (rA 3), .ref (rA 4), .ref (rA 5), .ref (rA 6), .ref (rA 7), .ref (rA 8), .ref (rA 9), .ref (rA 10), .ref (rA 11), .ref (rA 12), .ref (rA 13), .int ir, .ref (rA 15), .ref (rA 16), .ref (rA 17), .ref (rA 18), .int (nI md), .int (nI wd), .ref (rA 21), .ref (rA 22), .ref (rA 23), .int (nI mn), .ref (rA 25), .int (nI cb), .int mr, .ref (rA 28), .ref (rA 29), .ref (rA 30), .ref (rA 31), .ref (rA 32), .ref (rA 33), .ref (rA 34), .ref (rA 35), .int (nI ld), .int (nI gm), .ref (rA 38), .ref (rA 39), .ref (rA 40), .ref (rA 41), .ref (rA 42), .ref (rA 43), .ref (rA 44), .ref (rA 45), .int (nI my), .ref (rA 47)], ia (rA 28) (rK9 28) 11 nw9, ia (rA 9) (rK9 9) 352000 oc9, ia (rA 8) (rK9 8) 8 (fun i => nI (om i)), ia (rA 12) (rK9 12) 32000 (fun i => nI (or9 i))] U.heap ∧ va_K (dC, dI) classes [((rK9 28), .int), ((rK9 9), .short), ((rK9 8), .int), ((rK9 12), .int)] U ∧ va_D (fun _ => True) [oc ra 8 [.int (nI T), .int (nI Ac), .ref (rA 2), .ref (rA 3), .ref (rA 4), .ref (rA 5), .ref (rA 6), .ref (rA 7), .ref (rA 8), .ref (rA 9), .ref (rA 10), .ref (rA 11), .ref (rA 12), .ref (rA 13), .int ir, .ref (rA 15), .ref (rA 16), .ref (rA 17), .ref (rA 18), .int (nI md), .int (nI wd), .ref (rA 21), .ref (rA 22), .ref (rA 23), .int (nI mn), .ref (rA 25), .int (nI cb), .int mr, .ref (rA 28), .ref (rA 29), .ref (rA 30), .ref (rA 31), .ref (rA 32), .ref (rA 33), .ref (rA 34), .ref (rA 35), .int (nI ld), .int (nI gm), .ref (rA 38), .ref (rA 39), .ref (rA 40), .ref (rA 41), .ref (rA 42), .ref (rA 43), .ref (rA 44), .ref (rA 45), .int (nI my), .ref (rA 47)], ia (rA 28) (rK9 28) 11 nw9, ia (rA 9) (rK9 9) 352000 oc9, ia (rA 8) (rK9 8) 8 (fun i => nI (om i)), ia (rA 12) (rK9 12) 32000 (fun i => nI (or9 i))] ∧ nw U)) (va_Qi (fun (r : Int32) (_ : Unit) => r = nI n) (fun _ t9 => va_P (dC, dI) classes [oc ra 8 [.int (nI T), .int (nI Ac), .ref (rA 2), .ref (rA 3), .ref (rA 4), .ref (rA 5), .ref (rA 6), .ref (rA 7), .ref (rA 8), .ref (rA 9), .ref (rA 10), .ref (rA 11), .ref (rA 12), .ref (rA 13), .int ir, .ref (rA 15), .ref (rA 16), .ref (rA 17), .ref (rA 18), .int (nI md), .int (nI wd), .ref (rA 21), .ref (rA 22), .ref (rA 23), .int (nI mn), .ref (rA 25), .int (nI cb), .int mr, .ref (rA 28), .ref (rA 29), .ref (rA 30), .ref (rA 31), .ref (rA 32), .ref (rA 33), .ref (rA 34), .ref (rA 35), .int (nI ld), .int (nI gm), .ref (rA 38), .ref (rA 39), .ref (rA 40), .ref (rA 41), .ref (rA 42), .ref (rA 43), .ref (rA 44), .ref (rA 45), .int (nI my), .ref (rA 47)], ia (rA 28) (rK9 28) 11 nw9, ia (rA 9) (rK9 9) 352000 (wrO oc9 nw9 (11 * (4000 * se + n)) 11), ia (rA 8) (rK9 8) 8 (fun i => nI ((updN om se (n + 1)) i)), ia (rA 12) (rK9 12) 32000 (fun i => nI ((updN (mvN or9 (4000 * se + p9) (4000 * se + n)) (4000 * se + p9) n) i))] t9.heap ∧ va_K (dC, dI) classes [] t9 ∧ va_D (va_A [oc ra 8 [.int (nI T), .int (nI Ac), .ref (rA 2), .ref (rA 3), .ref (rA 4), .ref (rA 5), .ref (rA 6), .ref (rA 7), .ref (rA 8), .ref (rA 9), .ref (rA 10), .ref (rA 11), .ref (rA 12), .ref (rA 13), .int ir, .ref (rA 15), .ref (rA 16), .ref (rA 17), .ref (rA 18), .int (nI md), .int (nI wd), .ref (rA 21), .ref (rA 22), .ref (rA 23), .int (nI mn), .ref (rA 25), .int (nI cb), .int mr, .ref (rA 28), .ref (rA 29), .ref (rA 30), .ref (rA 31), .ref (rA 32), .ref (rA 33), .ref (rA 34), .ref (rA 35), .int (nI ld), .int (nI gm), .ref (rA 38), .ref (rA 39), .ref (rA 40), .ref (rA 41), .ref (rA 42), .ref (rA 43), .ref (rA 44), .ref (rA 45), .int (nI my), .ref (rA 47)], ia (rA 28) (rK9 28) 11 nw9, ia (rA 9) (rK9 9) 352000 oc9, ia (rA 8) (rK9 8) 8 (fun i => nI (om i)), ia (rA 12) (rK9 12) 32000 (fun i => nI (or9 i))] sz) [oc ra 8 [.int (nI T), .int (nI Ac), .ref (rA 2), .ref (rA 3), .ref (rA 4), .ref (rA 5), .ref (rA 6), .ref (rA 7), .ref (rA 8), .ref (rA 9), .ref (rA 10), .ref (rA 11), .ref (rA 12), .ref (rA 13), .int ir, .ref (rA 15), .ref (rA 16), .ref (rA 17), .ref (rA 18), .int (nI md), .int (nI wd), .ref (rA 21), .ref (rA 22), .ref (rA 23), .int (nI mn), .ref (rA 25), .int (nI cb), .int mr, .ref (rA 28), .ref (rA 29), .ref (rA 30), .ref (rA 31), .ref (rA 32), .ref (rA 33), .ref (rA 34), .ref (rA 35), .int (nI ld), .int (nI gm), .ref (rA 38), .ref (rA 39), .ref (rA 40), .ref (rA 41), .ref (rA 42), .ref (rA 43), .ref (rA 44), .ref (rA 45), .int (nI my), .ref (rA 47)], ia (rA 28) (rK9 28) 11 nw9, ia (rA 9) (rK9 9) 352000 (wrO oc9 nw9 (11 * (4000 * se + n)) 11), ia (rA 8) (rK9 8) 8 (fun i => nI ((updN om se (n + 1)) i)), ia (rA 12) (rK9 12) 32000 (fun i => nI ((updN (mvN or9 (4000 * se + p9) (4000 * se + n)) (4000 * se + p9) n) i))]) (va_A [oc ra 8 [.int (nI T), .int (nI Ac), .ref (rA 2), .ref (rA 3), .ref (rA 4), .ref (rA 5), .ref (rA 6), .ref (rA 7), .ref (rA 8), .ref (rA 9), .ref (rA 10), .ref (rA 11), .ref (rA 12), .ref (rA 13), .int ir, .ref (rA 15), .ref (rA 16), .ref (rA 17), .ref (rA 18), .int (nI md), .int (nI wd), .ref (rA 21), .ref (rA 22), .ref (rA 23), .int (nI mn), .ref (rA 25), .int (nI cb), .int mr, .ref (rA 28), .ref (rA 29), .ref (rA 30), .ref (rA 31), .ref (rA 32), .ref (rA 33), .ref (rA 34), .ref (rA 35), .int (nI ld), .int (nI gm), .ref (rA 38), .ref (rA 39), .ref (rA 40), .ref (rA 41), .ref (rA 42), .ref (rA 43), .ref (rA 44), .ref (rA 45), .int (nI my), .ref (rA 47)], ia (rA 28) (rK9 28) 11 nw9, ia (rA 9) (rK9 9) 352000 oc9, ia (rA 8) (rK9 8) 8 (fun i => nI (om i)), ia (rA 12) (rK9 12) 32000 (fun i => nI (or9 i))] sz)) 0 0 (va_A [oc ra 8 [.int (nI T), .int (nI Ac), .ref (rA 2), .ref (rA 3), .ref (rA 4), .ref (rA 5), .ref (rA 6), .ref (rA 7), .ref (rA 8), .ref (rA 9), .ref (rA 10), .ref (rA 11), .ref (rA 12), .ref (rA 13), .int ir, .ref (rA 15), .ref (rA 16), .ref (rA 17), .ref (rA 18), .int (nI md), .int (nI wd), .ref (rA 21), .ref (rA 22), .ref (rA 23), .int (nI mn), .ref (rA 25), .int (nI cb), .int mr, .ref (rA 28), .ref (rA 29), .ref (rA 30), .ref (rA 31), .ref (rA 32), .ref (rA 33), .ref (rA 34), .ref (rA 35), .int (nI ld), .int (nI gm), .ref (rA 38), .ref (rA 39), .ref (rA 40), .ref (rA 41), .ref (rA 42), .ref (rA 43), .ref (rA 44), .ref (rA 45), .int (nI my), .ref (rA 47)], ia (rA 28) (rK9 28) 11 nw9, ia (rA 9) (rK9 9) 352000 oc9, ia (rA 8) (rK9 8) 8 (fun i => nI (om i)), ia (rA 12) (rK9 12) 32000 (fun i => nI (or9 i))] sz) := by
  refine Met.ofW (cc := b_Ref_addOutcome) (maxL := 7) (ret := (some .int)) (by decide) rfl ?_
  intro p e0 s m args below meth c s₁ B hml hv
  obtain ⟨rfl, hsz, hP, hK, hD0, hn⟩ := hv
  have hx := B.exec
  have hb := B.bytes
  have hr := B.returns
  have hw := fun w (h : w ∈ wt) => atoms_spec (ws := w_Ref_addOutcome) B.pre w (List.mem_cons_of_mem _ h)
  have hown : s.vm.findClass R_Ref = some m.cls := findClass_of_methodNamed B.named
  have hlocks := B.notSynchronized
  subst hsz
  have hD1 := hD0.self (sz := s.heap.size)
  generalize hAe : va_A [oc ra 8 [.int (nI T), .int (nI Ac), .ref (rA 2), .ref (rA 3), .ref (rA 4), .ref (rA 5), .ref (rA 6), .ref (rA 7), .ref (rA 8), .ref (rA 9), .ref (rA 10), .ref (rA 11), .ref (rA 12), .ref (rA 13), .int ir, .ref (rA 15), .ref (rA 16), .ref (rA 17), .ref (rA 18), .int (nI md), .int (nI wd), .ref (rA 21), .ref (rA 22), .ref (rA 23), .int (nI mn), .ref (rA 25), .int (nI cb), .int mr, .ref (rA 28), .ref (rA 29), .ref (rA 30), .ref (rA 31), .ref (rA 32), .ref (rA 33), .ref (rA 34), .ref (rA 35), .int (nI ld), .int (nI gm), .ref (rA 38), .ref (rA 39), .ref (rA 40), .ref (rA 41), .ref (rA 42), .ref (rA 43), .ref (rA 44), .ref (rA 45), .int (nI my), .ref (rA 47)], ia (rA 28) (rK9 28) 11 nw9, ia (rA 9) (rK9 9) 352000 oc9, ia (rA 8) (rK9 8) 8 (fun i => nI (om i)), ia (rA 12) (rK9 12) 32000 (fun i => nI (or9 i))] s.heap.size = A at hD1 ⊢
  have hA : ∀ q : Nat, s.heap.size ≤ q → A q := fun q h => by rw [← hAe]; exact Or.inr h
  have hD : dd A [ra, (rA 28), (rA 9), (rA 8), (rA 12)] := dd_of hD1 rfl
  clear hAe hD0 hD1
  have hS : va_S A s.heap s.heap [] := va_S.rf
  replace hP : va_P (dC, dI) classes [oc ra 8 [.int (nI T), .int (nI Ac), .ref (rA 2), .ref (rA 3), .ref (rA 4), .ref (rA 5), .ref (rA 6), .ref (rA 7), .ref (rA 8), .ref (rA 9), .ref (rA 10), .ref (rA 11), .ref (rA 12), .ref (rA 13), .int ir, .ref (rA 15), .ref (rA 16), .ref (rA 17), .ref (rA 18), .int (nI md), .int (nI wd), .ref (rA 21), .ref (rA 22), .ref (rA 23), .int (nI mn), .ref (rA 25), .int (nI cb), .int mr, .ref (rA 28), .ref (rA 29), .ref (rA 30), .ref (rA 31), .ref (rA 32), .ref (rA 33), .ref (rA 34), .ref (rA 35), .int (nI ld), .int (nI gm), .ref (rA 38), .ref (rA 39), .ref (rA 40), .ref (rA 41), .ref (rA 42), .ref (rA 43), .ref (rA 44), .ref (rA 45), .int (nI my), .ref (rA 47)], ia (rA 28) (rK9 28) 11 nw9, ia (rA 9) (rK9 9) 352000 oc9, ia (rA 8) (rK9 8) 8 (fun i => nI (om i)), ia (rA 12) (rK9 12) 32000 (fun i => nI (or9 i))] s.heap := hP
  have hl := lv_entry ([.ref ra, .int (nI se)]) (n := 7) (Nat.le_of_ble_eq_true rfl)
  rw [lg_entry_eq]
  generalize (lg_sl ([.ref ra, .int (nI se)]) ++ List.replicate (7 - (lg_sl ([.ref ra, .int (nI se)])).length) Slot.unset).toArray = ls at hl ⊢
  replace hl : lv_has ls 7 [(0, .ref ra), (1, .int (nI se))] := hl
  refine lv_sipush (v := 4000) hx hb d_Ref_addOutcome_0 (by decide) ?_
  refine lv_iload_n hx hb d_Ref_addOutcome_3 rfl (lv_at hl 1 rfl) ?_
  refine lv_imul hx hb d_Ref_addOutcome_4 ?_
  refine tp_i (y := nI (4000 * se)) (by exact pk_mul 4000 se) ?_
  refine lv_istore_n (lv' := [(2, .int (nI (4000 * se))), (0, .ref ra), (1, .int (nI se))]) hx hb d_Ref_addOutcome_5 rfl hl (by decide) rfl ?_
  clear hl ls
  intro ls hl
  refine lv_iconst (v := 0) hx hb d_Ref_addOutcome_6 (by decide) ?_
  refine lv_istore_n (lv' := [(3, .int 0), (2, .int (nI (4000 * se))), (0, .ref ra), (1, .int (nI se))]) hx hb d_Ref_addOutcome_7 rfl hl (by decide) rfl ?_
  clear hl ls
  intro ls hl
  refine lv_aload_n hx hb d_Ref_addOutcome_8 rfl (lv_at hl 2 rfl) ?_
  refine va_get (D := (dC, dI)) (ci := 8) (v := .ref (rA 8)) (C := R_Ref) (T := F_Ref) (N := 48) hx hb hw i_Ref hown hK hP 0 rfl rfl 8 (by decide) (hw _ m_907) (fun _ h9 => h9) rfl d_Ref_addOutcome_9 ?_
  refine lv_iload_n hx hb d_Ref_addOutcome_12 rfl (lv_at hl 3 rfl) ?_
  refine va_iald (D := (dC, dI)) hx hb hK hP 3 2 rfl rfl (i := nI se) (pk_in se 8 (by omega)) d_Ref_addOutcome_13 ?_
  refine tp_i (y := nI (om se)) (by rw [show (nI se : Int32).toNatClampNeg = se from pk_cl se]) ?_
  refine tp_i (y := nI n) (by rw [hom]) ?_
  refine lv_istore (lv' := [(4, .int (nI n)), (3, .int 0), (2, .int (nI (4000 * se))), (0, .ref ra), (1, .int (nI se))]) hx hb d_Ref_addOutcome_14 hl (by decide) rfl ?_
  clear hl ls
  intro ls hl
  replace hl : lv_has ls 7 [(4, .int (nI n)), (3, .int (nI 0)), (2, .int (nI (4000 * se))), (0, .ref ra), (1, .int (nI se))] := hl
  refine lp_w (fun mu H locs ls => ∃ lo hi, lo ≤ p9 ∧ p9 ≤ hi ∧ hi ≤ n ∧ mu = hi - lo ∧ va_P (dC, dI) classes [oc ra 8 [.int (nI T), .int (nI Ac), .ref (rA 2), .ref (rA 3), .ref (rA 4), .ref (rA 5), .ref (rA 6), .ref (rA 7), .ref (rA 8), .ref (rA 9), .ref (rA 10), .ref (rA 11), .ref (rA 12), .ref (rA 13), .int ir, .ref (rA 15), .ref (rA 16), .ref (rA 17), .ref (rA 18), .int (nI md), .int (nI wd), .ref (rA 21), .ref (rA 22), .ref (rA 23), .int (nI mn), .ref (rA 25), .int (nI cb), .int mr, .ref (rA 28), .ref (rA 29), .ref (rA 30), .ref (rA 31), .ref (rA 32), .ref (rA 33), .ref (rA 34), .ref (rA 35), .int (nI ld), .int (nI gm), .ref (rA 38), .ref (rA 39), .ref (rA 40), .ref (rA 41), .ref (rA 42), .ref (rA 43), .ref (rA 44), .ref (rA 45), .int (nI my), .ref (rA 47)], ia (rA 28) (rK9 28) 11 nw9, ia (rA 9) (rK9 9) 352000 oc9, ia (rA 8) (rK9 8) 8 (fun i => nI (om i)), ia (rA 12) (rK9 12) 32000 (fun i => nI (or9 i))] H ∧ va_S A s.heap H locs ∧ lv_has ls 7 [(4, .int (nI hi)), (3, .int (nI lo)), (2, .int (nI (4000 * se))), (0, .ref ra), (1, .int (nI se))]) n ⟨0, n, Nat.zero_le _, hp9, Nat.le_refl _, rfl, hP, hS, hl⟩ ?_
  intro mu H locs ls hI ih
  obtain ⟨lo, hi, u1, u2, u3, u4, hP, hS, hl⟩ := hI
  refine lv_iload_n hx hb d_Ref_addOutcome_16 rfl (lv_at hl 1 rfl) ?_
  refine lv_iload hx hb d_Ref_addOutcome_17 (lv_at hl 0 rfl) ?_
  refine lv_icmp_ge (tgt := 62) hx hb d_Ref_addOutcome_19 (by decide) (fun c1 => ?_) (fun c1 => ?_)
  · skip
    have hc1 : hi ≤ lo := (nI_leI (a := hi) (b := lo) (by omega) (by omega)).mp c1
    have e1 : lo = p9 := by omega
    rw [e1] at hl
    refine tp_pc (pc' := 62) (by rfl) ?_
    refine lv_aload_n hx hb d_Ref_addOutcome_62 rfl (lv_at hl 3 rfl) ?_
    refine va_get (D := (dC, dI)) (ci := 8) (v := .ref (rA 8)) (C := R_Ref) (T := F_Ref) (N := 48) hx hb hw i_Ref hown hK hP 0 rfl rfl 8 (by decide) (hw _ m_907) (fun _ h9 => h9) rfl d_Ref_addOutcome_63 ?_
    refine lv_iload_n hx hb d_Ref_addOutcome_66 rfl (lv_at hl 4 rfl) ?_
    refine va_iald (D := (dC, dI)) hx hb hK hP 3 2 rfl rfl (i := nI se) (pk_in se 8 (by omega)) d_Ref_addOutcome_67 ?_
    refine tp_i (y := nI (om se)) (by rw [show (nI se : Int32).toNatClampNeg = se from pk_cl se]) ?_
    refine tp_i (y := nI n) (by rw [hom]) ?_
    refine lv_istore (lv' := [(5, .int (nI n)), (4, .int (nI hi)), (3, .int (nI p9)), (2, .int (nI (4000 * se))), (0, .ref ra), (1, .int (nI se))]) hx hb d_Ref_addOutcome_68 hl (by decide) rfl ?_
    clear hl ls
    intro ls hl
    refine lv_iload_n hx hb d_Ref_addOutcome_70 rfl (lv_at hl 2 rfl) ?_
    refine lv_iload hx hb d_Ref_addOutcome_71 (lv_at hl 0 rfl) ?_
    refine lv_icmp_ge (tgt := 92) hx hb d_Ref_addOutcome_73 (by decide) (fun c2 => ?_) (fun c2 => ?_)
    · skip
      have hc2 : n ≤ p9 := (nI_leI (a := n) (b := p9) (by omega) (by omega)).mp c2
      refine tp_pc (pc' := 92) (by rfl) ?_
      refine lv_iload hx hb d_Ref_addOutcome_92 (lv_at hl 0 rfl) ?_
      refine lv_sipush (v := 4000) hx hb d_Ref_addOutcome_94 (by decide) ?_
      refine lv_icmp_ne (tgt := 102) hx hb d_Ref_addOutcome_97 (by decide) (fun c9 => ?_) (fun c9 => absurd ((nI_eq (a := n) (b := 4000) (by omega) (by omega)).mp c9) (by omega))
      refine tp_pc (pc' := 102) (by rfl) ?_
      refine lv_iload hx hb d_Ref_addOutcome_102 (lv_at hl 0 rfl) ?_
      refine lv_istore (lv' := [(6, .int (nI n)), (5, .int (nI n)), (4, .int (nI hi)), (3, .int (nI p9)), (2, .int (nI (4000 * se))), (0, .ref ra), (1, .int (nI se))]) hx hb d_Ref_addOutcome_104 hl (by decide) rfl ?_
      clear hl ls
      intro ls hl
      replace hl : lv_has ls 7 [(6, .int (nI (p9 + (n - p9)))), (5, .int (nI n)), (4, .int (nI hi)), (3, .int (nI p9)), (2, .int (nI (4000 * se))), (0, .ref ra), (1, .int (nI se))] := by rw [show p9 + (n - p9) = n from by omega]; exact hl
      replace hP : va_P (dC, dI) classes [oc ra 8 [.int (nI T), .int (nI Ac), .ref (rA 2), .ref (rA 3), .ref (rA 4), .ref (rA 5), .ref (rA 6), .ref (rA 7), .ref (rA 8), .ref (rA 9), .ref (rA 10), .ref (rA 11), .ref (rA 12), .ref (rA 13), .int ir, .ref (rA 15), .ref (rA 16), .ref (rA 17), .ref (rA 18), .int (nI md), .int (nI wd), .ref (rA 21), .ref (rA 22), .ref (rA 23), .int (nI mn), .ref (rA 25), .int (nI cb), .int mr, .ref (rA 28), .ref (rA 29), .ref (rA 30), .ref (rA 31), .ref (rA 32), .ref (rA 33), .ref (rA 34), .ref (rA 35), .int (nI ld), .int (nI gm), .ref (rA 38), .ref (rA 39), .ref (rA 40), .ref (rA 41), .ref (rA 42), .ref (rA 43), .ref (rA 44), .ref (rA 45), .int (nI my), .ref (rA 47)], ia (rA 28) (rK9 28) 11 nw9, ia (rA 9) (rK9 9) 352000 oc9, ia (rA 8) (rK9 8) 8 (fun i => nI (om i)), ia (rA 12) (rK9 12) 32000 (fun i => nI ((mvN or9 (4000 * se + p9 + (n - p9)) (4000 * se + n)) i))] H := by rw [show 4000 * se + p9 + (n - p9) = 4000 * se + n from by omega, mvN_0]; exact hP
      refine lp_nd (n - p9) (fun n1 H locs ls => n1 ≤ n - p9 ∧ va_P (dC, dI) classes [oc ra 8 [.int (nI T), .int (nI Ac), .ref (rA 2), .ref (rA 3), .ref (rA 4), .ref (rA 5), .ref (rA 6), .ref (rA 7), .ref (rA 8), .ref (rA 9), .ref (rA 10), .ref (rA 11), .ref (rA 12), .ref (rA 13), .int ir, .ref (rA 15), .ref (rA 16), .ref (rA 17), .ref (rA 18), .int (nI md), .int (nI wd), .ref (rA 21), .ref (rA 22), .ref (rA 23), .int (nI mn), .ref (rA 25), .int (nI cb), .int mr, .ref (rA 28), .ref (rA 29), .ref (rA 30), .ref (rA 31), .ref (rA 32), .ref (rA 33), .ref (rA 34), .ref (rA 35), .int (nI ld), .int (nI gm), .ref (rA 38), .ref (rA 39), .ref (rA 40), .ref (rA 41), .ref (rA 42), .ref (rA 43), .ref (rA 44), .ref (rA 45), .int (nI my), .ref (rA 47)], ia (rA 28) (rK9 28) 11 nw9, ia (rA 9) (rK9 9) 352000 oc9, ia (rA 8) (rK9 8) 8 (fun i => nI (om i)), ia (rA 12) (rK9 12) 32000 (fun i => nI ((mvN or9 (4000 * se + p9 + n1) (4000 * se + n)) i))] H ∧ va_S A s.heap H locs ∧ lv_has ls 7 [(6, .int (nI (p9 + n1))), (5, .int (nI n)), (4, .int (nI hi)), (3, .int (nI p9)), (2, .int (nI (4000 * se))), (0, .ref ra), (1, .int (nI se))]) ⟨Nat.le_refl _, hP, hS, hl⟩ ?_ ?_
      · intro n1 H locs ls hI ih2
        obtain ⟨hn1, hP, hS, hl⟩ := hI
        replace hl : lv_has ls 7 [(6, .int (nI (p9 + n1 + 1))), (5, .int (nI n)), (4, .int (nI hi)), (3, .int (nI p9)), (2, .int (nI (4000 * se))), (0, .ref ra), (1, .int (nI se))] := hl
        refine lv_iload hx hb d_Ref_addOutcome_106 (lv_at hl 0 rfl) ?_
        refine lv_iload_n hx hb d_Ref_addOutcome_108 rfl (lv_at hl 3 rfl) ?_
        refine lv_icmp_le (tgt := 138) hx hb d_Ref_addOutcome_109 (by decide) (fun c9 => absurd ((nI_leI (a := p9 + n1 + 1) (b := p9) (by omega) (by omega)).mp c9) (by omega)) (fun c9 => ?_)
        refine tp_pc (pc' := 112) (by rfl) ?_
        refine lv_aload_n hx hb d_Ref_addOutcome_112 rfl (lv_at hl 5 rfl) ?_
        refine va_get (D := (dC, dI)) (ci := 8) (v := .ref (rA 12)) (C := R_Ref) (T := F_Ref) (N := 48) hx hb hw i_Ref hown hK hP 0 rfl rfl 12 (by decide) (hw _ m_911) (fun _ h9 => h9) rfl d_Ref_addOutcome_113 ?_
        refine lv_iload_n hx hb d_Ref_addOutcome_116 rfl (lv_at hl 4 rfl) ?_
        refine lv_iload hx hb d_Ref_addOutcome_117 (lv_at hl 0 rfl) ?_
        refine lv_iadd hx hb d_Ref_addOutcome_119 ?_
        refine tp_i (y := nI (4000 * se + (p9 + n1 + 1))) (by exact nI_add (4000 * se) (p9 + n1 + 1)) ?_
        refine lv_aload_n hx hb d_Ref_addOutcome_120 rfl (lv_at hl 5 rfl) ?_
        refine va_get (D := (dC, dI)) (ci := 8) (v := .ref (rA 12)) (C := R_Ref) (T := F_Ref) (N := 48) hx hb hw i_Ref hown hK hP 0 rfl rfl 12 (by decide) (hw _ m_911) (fun _ h9 => h9) rfl d_Ref_addOutcome_121 ?_
        refine lv_iload_n hx hb d_Ref_addOutcome_124 rfl (lv_at hl 4 rfl) ?_
        refine lv_iload hx hb d_Ref_addOutcome_125 (lv_at hl 0 rfl) ?_
        refine lv_iadd hx hb d_Ref_addOutcome_127 ?_
        refine tp_i (y := nI (4000 * se + (p9 + n1 + 1))) (by exact nI_add (4000 * se) (p9 + n1 + 1)) ?_
        refine lv_iconst (v := 1) hx hb d_Ref_addOutcome_128 (by decide) ?_
        refine lv_isub hx hb d_Ref_addOutcome_129 ?_
        refine tp_i (y := nI (4000 * se + (p9 + n1 + 1) - 1)) (by exact pk_sub (a := 4000 * se + (p9 + n1 + 1)) (b := 1) (by omega)) ?_
        refine tp_i (y := nI (4000 * se + p9 + n1)) (congrArg nI (by omega)) ?_
        refine va_iald (D := (dC, dI)) hx hb hK hP 4 3 rfl rfl (i := nI (4000 * se + p9 + n1)) (pk_in (4000 * se + p9 + n1) 32000 (by omega)) d_Ref_addOutcome_130 ?_
        refine tp_i (y := nI ((mvN or9 (4000 * se + p9 + (n1 + 1)) (4000 * se + n)) (4000 * se + p9 + n1))) (by rw [show (nI (4000 * se + p9 + n1) : Int32).toNatClampNeg = 4000 * se + p9 + n1 from pk_cl (4000 * se + p9 + n1)]) ?_
        refine va_iast (D := (dC, dI)) hx hb hK hP (dd_D hD rfl) hS 4 3 rfl rfl (i := nI (4000 * se + (p9 + n1 + 1))) (x := nI ((mvN or9 (4000 * se + p9 + (n1 + 1)) (4000 * se + n)) (4000 * se + p9 + n1))) (pk_in (4000 * se + (p9 + n1 + 1)) 32000 (by omega)) d_Ref_addOutcome_131 ?_
        clear hP hS locs H
        intro H locs hP _ hS
        rw [show (nI (4000 * se + (p9 + n1 + 1)) : Int32).toNatClampNeg = 4000 * se + (p9 + n1 + 1) from pk_cl (4000 * se + (p9 + n1 + 1))] at hP
        rw [show upd (fun i => nI ((mvN or9 (4000 * se + p9 + (n1 + 1)) (4000 * se + n)) i)) (4000 * se + (p9 + n1 + 1)) (nI ((mvN or9 (4000 * se + p9 + (n1 + 1)) (4000 * se + n)) (4000 * se + p9 + n1))) = fun i => nI (updN (mvN or9 (4000 * se + p9 + (n1 + 1)) (4000 * se + n)) (4000 * se + (p9 + n1 + 1)) ((mvN or9 (4000 * se + p9 + (n1 + 1)) (4000 * se + n)) (4000 * se + p9 + n1)) i) from upd_nI] at hP
        replace hP : va_P (dC, dI) classes [oc ra 8 [.int (nI T), .int (nI Ac), .ref (rA 2), .ref (rA 3), .ref (rA 4), .ref (rA 5), .ref (rA 6), .ref (rA 7), .ref (rA 8), .ref (rA 9), .ref (rA 10), .ref (rA 11), .ref (rA 12), .ref (rA 13), .int ir, .ref (rA 15), .ref (rA 16), .ref (rA 17), .ref (rA 18), .int (nI md), .int (nI wd), .ref (rA 21), .ref (rA 22), .ref (rA 23), .int (nI mn), .ref (rA 25), .int (nI cb), .int mr, .ref (rA 28), .ref (rA 29), .ref (rA 30), .ref (rA 31), .ref (rA 32), .ref (rA 33), .ref (rA 34), .ref (rA 35), .int (nI ld), .int (nI gm), .ref (rA 38), .ref (rA 39), .ref (rA 40), .ref (rA 41), .ref (rA 42), .ref (rA 43), .ref (rA 44), .ref (rA 45), .int (nI my), .ref (rA 47)], ia (rA 28) (rK9 28) 11 nw9, ia (rA 9) (rK9 9) 352000 oc9, ia (rA 8) (rK9 8) 8 (fun i => nI (om i)), ia (rA 12) (rK9 12) 32000 (fun i => nI ((updN (mvN or9 (4000 * se + p9 + (n1 + 1)) (4000 * se + n)) (4000 * se + (p9 + n1 + 1)) ((mvN or9 (4000 * se + p9 + (n1 + 1)) (4000 * se + n)) (4000 * se + p9 + n1))) i))] H := hP
        refine tp_pc (pc' := 132) (by rfl) ?_
        rw [show updN (mvN or9 (4000 * se + p9 + (n1 + 1)) (4000 * se + n)) (4000 * se + (p9 + n1 + 1)) ((mvN or9 (4000 * se + p9 + (n1 + 1)) (4000 * se + n)) (4000 * se + p9 + n1)) = mvN or9 (4000 * se + p9 + n1) (4000 * se + n) from by rw [show 4000 * se + (p9 + n1 + 1) = 4000 * se + p9 + n1 + 1 from by omega]; exact mvN_s (lo := 4000 * se + p9 + n1) (hi := 4000 * se + n) (by omega)] at hP
        replace hP : va_P (dC, dI) classes [oc ra 8 [.int (nI T), .int (nI Ac), .ref (rA 2), .ref (rA 3), .ref (rA 4), .ref (rA 5), .ref (rA 6), .ref (rA 7), .ref (rA 8), .ref (rA 9), .ref (rA 10), .ref (rA 11), .ref (rA 12), .ref (rA 13), .int ir, .ref (rA 15), .ref (rA 16), .ref (rA 17), .ref (rA 18), .int (nI md), .int (nI wd), .ref (rA 21), .ref (rA 22), .ref (rA 23), .int (nI mn), .ref (rA 25), .int (nI cb), .int mr, .ref (rA 28), .ref (rA 29), .ref (rA 30), .ref (rA 31), .ref (rA 32), .ref (rA 33), .ref (rA 34), .ref (rA 35), .int (nI ld), .int (nI gm), .ref (rA 38), .ref (rA 39), .ref (rA 40), .ref (rA 41), .ref (rA 42), .ref (rA 43), .ref (rA 44), .ref (rA 45), .int (nI my), .ref (rA 47)], ia (rA 28) (rK9 28) 11 nw9, ia (rA 9) (rK9 9) 352000 oc9, ia (rA 8) (rK9 8) 8 (fun i => nI (om i)), ia (rA 12) (rK9 12) 32000 (fun i => nI ((mvN or9 (4000 * se + p9 + n1) (4000 * se + n)) i))] H := hP
        refine lv_iinc (v := nI (p9 + n1)) (lv' := [(6, .int (nI (p9 + n1))), (5, .int (nI n)), (4, .int (nI hi)), (3, .int (nI p9)), (2, .int (nI (4000 * se))), (0, .ref ra), (1, .int (nI se))]) hx hb d_Ref_addOutcome_132 hl (k := 0) rfl (by exact pk_m1 (p9 + n1)) (by decide) rfl ?_
        clear hl ls
        intro ls hl
        refine lv_goto (tgt := 106) hx hb d_Ref_addOutcome_135 (by decide) ?_
        refine tp_pc (pc' := 106) (by rfl) ?_
        exact ih2 _ _ _ ⟨by omega, hP, hS, lv_sub hl [0, 1, 2, 3, 4, 5, 6] rfl⟩
      · intro H locs ls hI
        obtain ⟨-, hP, hS, hl⟩ := hI
        replace hl : lv_has ls 7 [(6, .int (nI p9)), (5, .int (nI n)), (4, .int (nI hi)), (3, .int (nI p9)), (2, .int (nI (4000 * se))), (0, .ref ra), (1, .int (nI se))] := hl
        replace hP : va_P (dC, dI) classes [oc ra 8 [.int (nI T), .int (nI Ac), .ref (rA 2), .ref (rA 3), .ref (rA 4), .ref (rA 5), .ref (rA 6), .ref (rA 7), .ref (rA 8), .ref (rA 9), .ref (rA 10), .ref (rA 11), .ref (rA 12), .ref (rA 13), .int ir, .ref (rA 15), .ref (rA 16), .ref (rA 17), .ref (rA 18), .int (nI md), .int (nI wd), .ref (rA 21), .ref (rA 22), .ref (rA 23), .int (nI mn), .ref (rA 25), .int (nI cb), .int mr, .ref (rA 28), .ref (rA 29), .ref (rA 30), .ref (rA 31), .ref (rA 32), .ref (rA 33), .ref (rA 34), .ref (rA 35), .int (nI ld), .int (nI gm), .ref (rA 38), .ref (rA 39), .ref (rA 40), .ref (rA 41), .ref (rA 42), .ref (rA 43), .ref (rA 44), .ref (rA 45), .int (nI my), .ref (rA 47)], ia (rA 28) (rK9 28) 11 nw9, ia (rA 9) (rK9 9) 352000 oc9, ia (rA 8) (rK9 8) 8 (fun i => nI (om i)), ia (rA 12) (rK9 12) 32000 (fun i => nI ((mvN or9 (4000 * se + p9) (4000 * se + n)) i))] H := hP
        refine lv_iload hx hb d_Ref_addOutcome_106 (lv_at hl 0 rfl) ?_
        refine lv_iload_n hx hb d_Ref_addOutcome_108 rfl (lv_at hl 3 rfl) ?_
        refine lv_icmp_le (tgt := 138) hx hb d_Ref_addOutcome_109 (by decide) (fun c9 => ?_) (fun c9 => absurd (nI_le (Nat.le_refl p9) (by omega)) c9)
        refine tp_pc (pc' := 138) (by rfl) ?_
        refine lv_aload_n hx hb d_Ref_addOutcome_138 rfl (lv_at hl 5 rfl) ?_
        refine va_get (D := (dC, dI)) (ci := 8) (v := .ref (rA 12)) (C := R_Ref) (T := F_Ref) (N := 48) hx hb hw i_Ref hown hK hP 0 rfl rfl 12 (by decide) (hw _ m_911) (fun _ h9 => h9) rfl d_Ref_addOutcome_139 ?_
        refine lv_iload_n hx hb d_Ref_addOutcome_142 rfl (lv_at hl 4 rfl) ?_
        refine lv_iload_n hx hb d_Ref_addOutcome_143 rfl (lv_at hl 3 rfl) ?_
        refine lv_iadd hx hb d_Ref_addOutcome_144 ?_
        refine tp_i (y := nI (4000 * se + p9)) (by exact nI_add (4000 * se) p9) ?_
        refine lv_iload hx hb d_Ref_addOutcome_145 (lv_at hl 1 rfl) ?_
        refine va_iast (D := (dC, dI)) hx hb hK hP (dd_D hD rfl) hS 4 3 rfl rfl (i := nI (4000 * se + p9)) (x := nI n) (pk_in (4000 * se + p9) 32000 (by omega)) d_Ref_addOutcome_147 ?_
        clear hP hS locs H
        intro H locs hP _ hS
        rw [show (nI (4000 * se + p9) : Int32).toNatClampNeg = 4000 * se + p9 from pk_cl (4000 * se + p9)] at hP
        rw [show upd (fun i => nI ((mvN or9 (4000 * se + p9) (4000 * se + n)) i)) (4000 * se + p9) (nI n) = fun i => nI (updN (mvN or9 (4000 * se + p9) (4000 * se + n)) (4000 * se + p9) n i) from upd_nI] at hP
        replace hP : va_P (dC, dI) classes [oc ra 8 [.int (nI T), .int (nI Ac), .ref (rA 2), .ref (rA 3), .ref (rA 4), .ref (rA 5), .ref (rA 6), .ref (rA 7), .ref (rA 8), .ref (rA 9), .ref (rA 10), .ref (rA 11), .ref (rA 12), .ref (rA 13), .int ir, .ref (rA 15), .ref (rA 16), .ref (rA 17), .ref (rA 18), .int (nI md), .int (nI wd), .ref (rA 21), .ref (rA 22), .ref (rA 23), .int (nI mn), .ref (rA 25), .int (nI cb), .int mr, .ref (rA 28), .ref (rA 29), .ref (rA 30), .ref (rA 31), .ref (rA 32), .ref (rA 33), .ref (rA 34), .ref (rA 35), .int (nI ld), .int (nI gm), .ref (rA 38), .ref (rA 39), .ref (rA 40), .ref (rA 41), .ref (rA 42), .ref (rA 43), .ref (rA 44), .ref (rA 45), .int (nI my), .ref (rA 47)], ia (rA 28) (rK9 28) 11 nw9, ia (rA 9) (rK9 9) 352000 oc9, ia (rA 8) (rK9 8) 8 (fun i => nI (om i)), ia (rA 12) (rK9 12) 32000 (fun i => nI ((updN (mvN or9 (4000 * se + p9) (4000 * se + n)) (4000 * se + p9) n) i))] H := hP
        refine tp_pc (pc' := 148) (by rfl) ?_
        refine lv_aload_n hx hb d_Ref_addOutcome_148 rfl (lv_at hl 5 rfl) ?_
        refine va_get (D := (dC, dI)) (ci := 8) (v := .ref (rA 8)) (C := R_Ref) (T := F_Ref) (N := 48) hx hb hw i_Ref hown hK hP 0 rfl rfl 8 (by decide) (hw _ m_907) (fun _ h9 => h9) rfl d_Ref_addOutcome_149 ?_
        refine lv_iload_n hx hb d_Ref_addOutcome_152 rfl (lv_at hl 6 rfl) ?_
        refine lv_dup2_11 hx hb d_Ref_addOutcome_153 rfl rfl ?_
        refine va_iald (D := (dC, dI)) hx hb hK hP 3 2 rfl rfl (i := nI se) (pk_in se 8 (by omega)) d_Ref_addOutcome_154 ?_
        refine tp_i (y := nI (om se)) (by rw [show (nI se : Int32).toNatClampNeg = se from pk_cl se]) ?_
        refine tp_i (y := nI n) (by rw [hom]) ?_
        refine lv_iconst (v := 1) hx hb d_Ref_addOutcome_155 (by decide) ?_
        refine lv_iadd hx hb d_Ref_addOutcome_156 ?_
        refine tp_i (y := nI (n + 1)) (by exact nI_add n 1) ?_
        refine va_iast (D := (dC, dI)) hx hb hK hP (dd_D hD rfl) hS 3 2 rfl rfl (i := nI se) (x := nI (n + 1)) (pk_in se 8 (by omega)) d_Ref_addOutcome_157 ?_
        clear hP hS locs H
        intro H locs hP _ hS
        rw [show (nI se : Int32).toNatClampNeg = se from pk_cl se] at hP
        rw [show upd (fun i => nI (om i)) se (nI (n + 1)) = fun i => nI (updN om se (n + 1) i) from upd_nI] at hP
        replace hP : va_P (dC, dI) classes [oc ra 8 [.int (nI T), .int (nI Ac), .ref (rA 2), .ref (rA 3), .ref (rA 4), .ref (rA 5), .ref (rA 6), .ref (rA 7), .ref (rA 8), .ref (rA 9), .ref (rA 10), .ref (rA 11), .ref (rA 12), .ref (rA 13), .int ir, .ref (rA 15), .ref (rA 16), .ref (rA 17), .ref (rA 18), .int (nI md), .int (nI wd), .ref (rA 21), .ref (rA 22), .ref (rA 23), .int (nI mn), .ref (rA 25), .int (nI cb), .int mr, .ref (rA 28), .ref (rA 29), .ref (rA 30), .ref (rA 31), .ref (rA 32), .ref (rA 33), .ref (rA 34), .ref (rA 35), .int (nI ld), .int (nI gm), .ref (rA 38), .ref (rA 39), .ref (rA 40), .ref (rA 41), .ref (rA 42), .ref (rA 43), .ref (rA 44), .ref (rA 45), .int (nI my), .ref (rA 47)], ia (rA 28) (rK9 28) 11 nw9, ia (rA 9) (rK9 9) 352000 oc9, ia (rA 8) (rK9 8) 8 (fun i => nI ((updN om se (n + 1)) i)), ia (rA 12) (rK9 12) 32000 (fun i => nI ((updN (mvN or9 (4000 * se + p9) (4000 * se + n)) (4000 * se + p9) n) i))] H := hP
        refine tp_pc (pc' := 158) (by rfl) ?_
        refine lv_iconst (v := 0) hx hb d_Ref_addOutcome_158 (by decide) ?_
        refine lv_istore (lv' := [(6, .int 0), (5, .int (nI n)), (4, .int (nI hi)), (3, .int (nI p9)), (2, .int (nI (4000 * se))), (0, .ref ra), (1, .int (nI se))]) hx hb d_Ref_addOutcome_159 hl (by decide) rfl ?_
        clear hl ls
        intro ls hl
        replace hP : va_P (dC, dI) classes [oc ra 8 [.int (nI T), .int (nI Ac), .ref (rA 2), .ref (rA 3), .ref (rA 4), .ref (rA 5), .ref (rA 6), .ref (rA 7), .ref (rA 8), .ref (rA 9), .ref (rA 10), .ref (rA 11), .ref (rA 12), .ref (rA 13), .int ir, .ref (rA 15), .ref (rA 16), .ref (rA 17), .ref (rA 18), .int (nI md), .int (nI wd), .ref (rA 21), .ref (rA 22), .ref (rA 23), .int (nI mn), .ref (rA 25), .int (nI cb), .int mr, .ref (rA 28), .ref (rA 29), .ref (rA 30), .ref (rA 31), .ref (rA 32), .ref (rA 33), .ref (rA 34), .ref (rA 35), .int (nI ld), .int (nI gm), .ref (rA 38), .ref (rA 39), .ref (rA 40), .ref (rA 41), .ref (rA 42), .ref (rA 43), .ref (rA 44), .ref (rA 45), .int (nI my), .ref (rA 47)], ia (rA 28) (rK9 28) 11 nw9, ia (rA 9) (rK9 9) 352000 (wrO oc9 nw9 (11 * (4000 * se + n)) 0), ia (rA 8) (rK9 8) 8 (fun i => nI ((updN om se (n + 1)) i)), ia (rA 12) (rK9 12) 32000 (fun i => nI ((updN (mvN or9 (4000 * se + p9) (4000 * se + n)) (4000 * se + p9) n) i))] H := hP
        replace hl : lv_has ls 7 [(6, .int (nI 0)), (5, .int (nI n)), (4, .int (nI hi)), (3, .int (nI p9)), (2, .int (nI (4000 * se))), (0, .ref ra), (1, .int (nI se))] := hl
        refine lp_n 11 (fun k1x H locs ls => va_P (dC, dI) classes [oc ra 8 [.int (nI T), .int (nI Ac), .ref (rA 2), .ref (rA 3), .ref (rA 4), .ref (rA 5), .ref (rA 6), .ref (rA 7), .ref (rA 8), .ref (rA 9), .ref (rA 10), .ref (rA 11), .ref (rA 12), .ref (rA 13), .int ir, .ref (rA 15), .ref (rA 16), .ref (rA 17), .ref (rA 18), .int (nI md), .int (nI wd), .ref (rA 21), .ref (rA 22), .ref (rA 23), .int (nI mn), .ref (rA 25), .int (nI cb), .int mr, .ref (rA 28), .ref (rA 29), .ref (rA 30), .ref (rA 31), .ref (rA 32), .ref (rA 33), .ref (rA 34), .ref (rA 35), .int (nI ld), .int (nI gm), .ref (rA 38), .ref (rA 39), .ref (rA 40), .ref (rA 41), .ref (rA 42), .ref (rA 43), .ref (rA 44), .ref (rA 45), .int (nI my), .ref (rA 47)], ia (rA 28) (rK9 28) 11 nw9, ia (rA 9) (rK9 9) 352000 (wrO oc9 nw9 (11 * (4000 * se + n)) k1x), ia (rA 8) (rK9 8) 8 (fun i => nI ((updN om se (n + 1)) i)), ia (rA 12) (rK9 12) 32000 (fun i => nI ((updN (mvN or9 (4000 * se + p9) (4000 * se + n)) (4000 * se + p9) n) i))] H ∧ va_S A s.heap H locs ∧ lv_has ls 7 [(6, .int (nI k1x)), (5, .int (nI n)), (4, .int (nI hi)), (3, .int (nI p9)), (2, .int (nI (4000 * se))), (0, .ref ra), (1, .int (nI se))]) ⟨hP, hS, hl⟩ ?_ ?_
        · intro k1x H locs ls hk1x hI ih_k1x
          obtain ⟨hP, hS, hl⟩ := hI
          refine lv_iload hx hb d_Ref_addOutcome_161 (lv_at hl 0 rfl) ?_
          refine lv_bipush (v := 11) hx hb d_Ref_addOutcome_163 (by decide) ?_
          refine lv_icmp_ge (tgt := 197) hx hb d_Ref_addOutcome_165 (by decide) (fun c9 => absurd c9 (nI_ge (a := k1x) (b := 11) hk1x (by decide))) (fun c9 => ?_)
          refine tp_pc (pc' := 168) (by rfl) ?_
          refine lv_aload_n hx hb d_Ref_addOutcome_168 rfl (lv_at hl 5 rfl) ?_
          refine va_get (D := (dC, dI)) (ci := 8) (v := .ref (rA 9)) (C := R_Ref) (T := F_Ref) (N := 48) hx hb hw i_Ref hown hK hP 0 rfl rfl 9 (by decide) (hw _ m_908) (fun _ h9 => h9) rfl d_Ref_addOutcome_169 ?_
          refine lv_bipush (v := 11) hx hb d_Ref_addOutcome_172 (by decide) ?_
          refine lv_iload_n hx hb d_Ref_addOutcome_174 rfl (lv_at hl 4 rfl) ?_
          refine lv_iload hx hb d_Ref_addOutcome_175 (lv_at hl 1 rfl) ?_
          refine lv_iadd hx hb d_Ref_addOutcome_177 ?_
          refine tp_i (y := nI (4000 * se + n)) (by exact nI_add (4000 * se) n) ?_
          refine lv_imul hx hb d_Ref_addOutcome_178 ?_
          refine tp_i (y := nI (11 * (4000 * se + n))) (by exact pk_mul 11 (4000 * se + n)) ?_
          refine lv_iload hx hb d_Ref_addOutcome_179 (lv_at hl 0 rfl) ?_
          refine lv_iadd hx hb d_Ref_addOutcome_181 ?_
          refine tp_i (y := nI (11 * (4000 * se + n) + k1x)) (by exact nI_add (11 * (4000 * se + n)) k1x) ?_
          refine lv_aload_n hx hb d_Ref_addOutcome_182 rfl (lv_at hl 5 rfl) ?_
          refine va_get (D := (dC, dI)) (ci := 8) (v := .ref (rA 28)) (C := R_Ref) (T := F_Ref) (N := 48) hx hb hw i_Ref hown hK hP 0 rfl rfl 28 (by decide) (hw _ m_927) (fun _ h9 => h9) rfl d_Ref_addOutcome_183 ?_
          refine lv_iload hx hb d_Ref_addOutcome_186 (lv_at hl 0 rfl) ?_
          refine va_iald (D := (dC, dI)) hx hb hK hP 1 0 rfl rfl (i := nI k1x) (pk_in k1x 11 (by omega)) d_Ref_addOutcome_188 ?_
          refine tp_i (y := nw9 k1x) (by rw [show (nI k1x : Int32).toNatClampNeg = k1x from pk_cl k1x]) ?_
          refine lv_i2s (v := (nw9 k1x).toInt16.toInt32) hx hb d_Ref_addOutcome_189 rfl ?_
          refine va_sast (D := (dC, dI)) hx hb hK hP (dd_D hD rfl) hS 2 1 rfl rfl (i := nI (11 * (4000 * se + n) + k1x)) (x := (nw9 k1x).toInt16.toInt32) (pk_in (11 * (4000 * se + n) + k1x) 352000 (by omega)) d_Ref_addOutcome_190 ?_
          clear hP hS locs H
          intro H locs hP _ hS
          rw [show (nI (11 * (4000 * se + n) + k1x) : Int32).toNatClampNeg = 11 * (4000 * se + n) + k1x from pk_cl (11 * (4000 * se + n) + k1x), pk_vs] at hP
          replace hP : va_P (dC, dI) classes [oc ra 8 [.int (nI T), .int (nI Ac), .ref (rA 2), .ref (rA 3), .ref (rA 4), .ref (rA 5), .ref (rA 6), .ref (rA 7), .ref (rA 8), .ref (rA 9), .ref (rA 10), .ref (rA 11), .ref (rA 12), .ref (rA 13), .int ir, .ref (rA 15), .ref (rA 16), .ref (rA 17), .ref (rA 18), .int (nI md), .int (nI wd), .ref (rA 21), .ref (rA 22), .ref (rA 23), .int (nI mn), .ref (rA 25), .int (nI cb), .int mr, .ref (rA 28), .ref (rA 29), .ref (rA 30), .ref (rA 31), .ref (rA 32), .ref (rA 33), .ref (rA 34), .ref (rA 35), .int (nI ld), .int (nI gm), .ref (rA 38), .ref (rA 39), .ref (rA 40), .ref (rA 41), .ref (rA 42), .ref (rA 43), .ref (rA 44), .ref (rA 45), .int (nI my), .ref (rA 47)], ia (rA 28) (rK9 28) 11 nw9, ia (rA 9) (rK9 9) 352000 (upd (wrO oc9 nw9 (11 * (4000 * se + n)) k1x) (11 * (4000 * se + n) + k1x) ((nw9 k1x).toInt16.toInt32)), ia (rA 8) (rK9 8) 8 (fun i => nI ((updN om se (n + 1)) i)), ia (rA 12) (rK9 12) 32000 (fun i => nI ((updN (mvN or9 (4000 * se + p9) (4000 * se + n)) (4000 * se + p9) n) i))] H := hP
          refine tp_pc (pc' := 191) (by rfl) ?_
          refine lv_iinc (v := nI (k1x + 1)) (lv' := [(6, .int (nI (k1x + 1))), (5, .int (nI n)), (4, .int (nI hi)), (3, .int (nI p9)), (2, .int (nI (4000 * se))), (0, .ref ra), (1, .int (nI se))]) hx hb d_Ref_addOutcome_191 hl (k := 0) rfl (by exact nI_1 k1x) (by decide) rfl ?_
          clear hl ls
          intro ls hl
          refine lv_goto (tgt := 161) hx hb d_Ref_addOutcome_194 (by decide) ?_
          refine tp_pc (pc' := 161) (by rfl) ?_
          replace hP : va_P (dC, dI) classes [oc ra 8 [.int (nI T), .int (nI Ac), .ref (rA 2), .ref (rA 3), .ref (rA 4), .ref (rA 5), .ref (rA 6), .ref (rA 7), .ref (rA 8), .ref (rA 9), .ref (rA 10), .ref (rA 11), .ref (rA 12), .ref (rA 13), .int ir, .ref (rA 15), .ref (rA 16), .ref (rA 17), .ref (rA 18), .int (nI md), .int (nI wd), .ref (rA 21), .ref (rA 22), .ref (rA 23), .int (nI mn), .ref (rA 25), .int (nI cb), .int mr, .ref (rA 28), .ref (rA 29), .ref (rA 30), .ref (rA 31), .ref (rA 32), .ref (rA 33), .ref (rA 34), .ref (rA 35), .int (nI ld), .int (nI gm), .ref (rA 38), .ref (rA 39), .ref (rA 40), .ref (rA 41), .ref (rA 42), .ref (rA 43), .ref (rA 44), .ref (rA 45), .int (nI my), .ref (rA 47)], ia (rA 28) (rK9 28) 11 nw9, ia (rA 9) (rK9 9) 352000 (wrO oc9 nw9 (11 * (4000 * se + n)) (k1x + 1)), ia (rA 8) (rK9 8) 8 (fun i => nI ((updN om se (n + 1)) i)), ia (rA 12) (rK9 12) 32000 (fun i => nI ((updN (mvN or9 (4000 * se + p9) (4000 * se + n)) (4000 * se + p9) n) i))] H := hP
          obtain ⟨hP8, -, -⟩ := cut3 (wc := [oc ra 8 [.int (nI T), .int (nI Ac), .ref (rA 2), .ref (rA 3), .ref (rA 4), .ref (rA 5), .ref (rA 6), .ref (rA 7), .ref (rA 8), .ref (rA 9), .ref (rA 10), .ref (rA 11), .ref (rA 12), .ref (rA 13), .int ir, .ref (rA 15), .ref (rA 16), .ref (rA 17), .ref (rA 18), .int (nI md), .int (nI wd), .ref (rA 21), .ref (rA 22), .ref (rA 23), .int (nI mn), .ref (rA 25), .int (nI cb), .int mr, .ref (rA 28), .ref (rA 29), .ref (rA 30), .ref (rA 31), .ref (rA 32), .ref (rA 33), .ref (rA 34), .ref (rA 35), .int (nI ld), .int (nI gm), .ref (rA 38), .ref (rA 39), .ref (rA 40), .ref (rA 41), .ref (rA 42), .ref (rA 43), .ref (rA 44), .ref (rA 45), .int (nI my), .ref (rA 47)], ia (rA 28) (rK9 28) 11 nw9, ia (rA 9) (rK9 9) 352000 (wrO oc9 nw9 (11 * (4000 * se + n)) (k1x + 1)), ia (rA 8) (rK9 8) 8 (fun i => nI ((updN om se (n + 1)) i)), ia (rA 12) (rK9 12) 32000 (fun i => nI ((updN (mvN or9 (4000 * se + p9) (4000 * se + n)) (4000 * se + p9) n) i))]) hP hD rfl hS hA [0, 1, 2, 3, 4] (by decide +kernel) rfl
          exact ih_k1x _ _ _ ⟨hP8, hS, lv_sub hl [0, 1, 2, 3, 4, 5, 6] rfl⟩
        · intro H locs ls hI
          obtain ⟨hP, hS, hl⟩ := hI
          replace hl : lv_has ls 7 [(6, .int 11), (5, .int (nI n)), (4, .int (nI hi)), (3, .int (nI p9)), (2, .int (nI (4000 * se))), (0, .ref ra), (1, .int (nI se))] := hl
          refine lv_iload hx hb d_Ref_addOutcome_161 (lv_at hl 0 rfl) ?_
          refine lv_bipush (v := 11) hx hb d_Ref_addOutcome_163 (by decide) ?_
          refine lv_icmp_ge (tgt := 197) hx hb d_Ref_addOutcome_165 (by decide) (fun c_1 => ?_) (fun c_1 => absurd c_1 (by decide))
          refine tp_pc (pc' := 197) (by rfl) ?_
          refine lv_iload hx hb d_Ref_addOutcome_197 (lv_at hl 1 rfl) ?_
          obtain ⟨hP9, hD9, -⟩ := cut3 (wc := [oc ra 8 [.int (nI T), .int (nI Ac), .ref (rA 2), .ref (rA 3), .ref (rA 4), .ref (rA 5), .ref (rA 6), .ref (rA 7), .ref (rA 8), .ref (rA 9), .ref (rA 10), .ref (rA 11), .ref (rA 12), .ref (rA 13), .int ir, .ref (rA 15), .ref (rA 16), .ref (rA 17), .ref (rA 18), .int (nI md), .int (nI wd), .ref (rA 21), .ref (rA 22), .ref (rA 23), .int (nI mn), .ref (rA 25), .int (nI cb), .int mr, .ref (rA 28), .ref (rA 29), .ref (rA 30), .ref (rA 31), .ref (rA 32), .ref (rA 33), .ref (rA 34), .ref (rA 35), .int (nI ld), .int (nI gm), .ref (rA 38), .ref (rA 39), .ref (rA 40), .ref (rA 41), .ref (rA 42), .ref (rA 43), .ref (rA 44), .ref (rA 45), .int (nI my), .ref (rA 47)], ia (rA 28) (rK9 28) 11 nw9, ia (rA 9) (rK9 9) 352000 (wrO oc9 nw9 (11 * (4000 * se + n)) 11), ia (rA 8) (rK9 8) 8 (fun i => nI ((updN om se (n + 1)) i)), ia (rA 12) (rK9 12) 32000 (fun i => nI ((updN (mvN or9 (4000 * se + p9) (4000 * se + n)) (4000 * se + p9) n) i))]) hP hD rfl hS hA [0, 1, 2, 3, 4] (by decide +kernel) rfl
          have hK9 := hK.sub (tys' := []) [] rfl
          refine W.widen (k := 0) (n := 0) (by exact Nat.le_of_ble_eq_true rfl) (by exact Nat.le_of_ble_eq_true rfl) ?_
          exact W.iret (v := (nI n)) hx hb hr (fun t9 ht9 hW => ⟨⟨nI n, (), rfl, rfl, by rw [ht9]; exact hP9, va_K.moved hW.alike hK9, hD9⟩, hS.F ht9⟩) hS.2.2 d_Ref_addOutcome_199
    · skip
      have hc2 : ¬ (n ≤ p9) := fun q9 => c2 ((nI_leI (a := n) (b := p9) (by omega) (by omega)).mpr q9)
      refine tp_pc (pc' := 76) (by rfl) ?_
      refine lv_aload_n hx hb d_Ref_addOutcome_76 rfl (lv_at hl 4 rfl) ?_
      refine lv_iload_n hx hb d_Ref_addOutcome_77 rfl (lv_at hl 5 rfl) ?_
      refine lv_aload_n hx hb d_Ref_addOutcome_78 rfl (lv_at hl 4 rfl) ?_
      refine va_get (D := (dC, dI)) (ci := 8) (v := .ref (rA 12)) (C := R_Ref) (T := F_Ref) (N := 48) hx hb hw i_Ref hown hK hP 0 rfl rfl 12 (by decide) (hw _ m_911) (fun _ h9 => h9) rfl d_Ref_addOutcome_79 ?_
      refine lv_iload_n hx hb d_Ref_addOutcome_82 rfl (lv_at hl 3 rfl) ?_
      refine lv_iload_n hx hb d_Ref_addOutcome_83 rfl (lv_at hl 2 rfl) ?_
      refine lv_iadd hx hb d_Ref_addOutcome_84 ?_
      refine tp_i (y := nI (4000 * se + p9)) (by exact nI_add (4000 * se) p9) ?_
      refine va_iald (D := (dC, dI)) hx hb hK hP 4 3 rfl rfl (i := nI (4000 * se + p9)) (pk_in (4000 * se + p9) 32000 (by omega)) d_Ref_addOutcome_85 ?_
      refine tp_i (y := nI (or9 (4000 * se + p9))) (by rw [show (nI (4000 * se + p9) : Int32).toNatClampNeg = 4000 * se + p9 from pk_cl (4000 * se + p9)]) ?_
      obtain ⟨hPc, hDc, hFc⟩ := cut3 (wc := [oc ra 8 [.int (nI T), .int (nI Ac), .ref (rA 2), .ref (rA 3), .ref (rA 4), .ref (rA 5), .ref (rA 6), .ref (rA 7), .ref (rA 8), .ref (rA 9), .ref (rA 10), .ref (rA 11), .ref (rA 12), .ref (rA 13), .int ir, .ref (rA 15), .ref (rA 16), .ref (rA 17), .ref (rA 18), .int (nI md), .int (nI wd), .ref (rA 21), .ref (rA 22), .ref (rA 23), .int (nI mn), .ref (rA 25), .int (nI cb), .int mr, .ref (rA 28), .ref (rA 29), .ref (rA 30), .ref (rA 31), .ref (rA 32), .ref (rA 33), .ref (rA 34), .ref (rA 35), .int (nI ld), .int (nI gm), .ref (rA 38), .ref (rA 39), .ref (rA 40), .ref (rA 41), .ref (rA 42), .ref (rA 43), .ref (rA 44), .ref (rA 45), .int (nI my), .ref (rA 47)], ia (rA 28) (rK9 28) 11 nw9, ia (rA 9) (rK9 9) 352000 oc9]) hP hD rfl hS hA [0, 1, 2] (by decide +kernel) rfl
      have hKc := hK.sub (tys' := [((rK9 28), .int), ((rK9 9), .short)]) [0, 1] rfl
      refine va_calli (va_runV (As := [.int (nI se), .int (nI (or9 (4000 * se + p9)))]) (rest := []) ⟨hx, hb, hml, hown, hw⟩ (gen_Ref_against l dC dI ra rA rK9 T Ac md wd mn cb ld gm my ir mr se (or9 (4000 * se + p9)) nw9 oc9 hse (by have := hor (p9) (by omega); omega) H.size) (cw_V 2 hw g_Ref_against rfl rfl rfl (hw _ m_109) (hw _ m_1166) (hw _ m_1168) (hw _ m_76) (by decide +kernel) ⟨Nat.le_of_ble_eq_true rfl, Nat.le_of_ble_eq_true rfl⟩) ⟨fun a U g mk q => by obtain ⟨q0, q1, qP, qK, qD, qN⟩ := q; exact ⟨q0, q1, qP, va_K.moved (u := U) (U := U.calling g mk a) (Vm.Alike.refl U.vm) qK, qD, nw_call qN⟩, va_recv hKc hPc (ci := 8) (q0 := 0) rfl rfl, fun U hU hW => ⟨rfl, by rw [hU], by rw [hU]; exact hPc, va_K.moved hW.alike hKc, hDc.weaken (fun _ _ _ _ => trivial), nw_warm hW hn⟩⟩ rfl rfl hl.1 rfl (lv_room (Nat.le_of_ble_eq_true rfl)) d_Ref_addOutcome_86 ⟨Nat.le_of_ble_eq_true rfl, Nat.le_of_ble_eq_true rfl⟩) hS (fun q _ h => hFc q h) hFc ?_
      intro r_2 u t9 H1 locs1 ht9 hvm hw1 hB hz1 hk1 hS1
      obtain ⟨hP1, hK1, hD1⟩ := hB
      rw [ht9] at hP1
      replace hK1 := va_K.moved hvm.symm hK1
      have hPD := join3 hP hD rfl [0, 1, 2] [3, 4] rfl (by rfl) (by decide +kernel) (by decide +kernel) hk1 hFc hP1 hD1
      replace hK : va_K (dC, dI) classes [((rK9 28), .int), ((rK9 9), .short), ((rK9 8), .int), ((rK9 12), .int)] s := hK.app hK1
      clear hP1 hK1 hD1 hk1 hz1 hFc hKc hDc hPc hvm ht9 hP hS t9 locs H
      have hP : va_P (dC, dI) classes [ia (rA 8) (rK9 8) 8 (fun i => nI (om i)), ia (rA 12) (rK9 12) 32000 (fun i => nI (or9 i)), oc ra 8 [.int (nI T), .int (nI Ac), .ref (rA 2), .ref (rA 3), .ref (rA 4), .ref (rA 5), .ref (rA 6), .ref (rA 7), .ref (rA 8), .ref (rA 9), .ref (rA 10), .ref (rA 11), .ref (rA 12), .ref (rA 13), .int ir, .ref (rA 15), .ref (rA 16), .ref (rA 17), .ref (rA 18), .int (nI md), .int (nI wd), .ref (rA 21), .ref (rA 22), .ref (rA 23), .int (nI mn), .ref (rA 25), .int (nI cb), .int mr, .ref (rA 28), .ref (rA 29), .ref (rA 30), .ref (rA 31), .ref (rA 32), .ref (rA 33), .ref (rA 34), .ref (rA 35), .int (nI ld), .int (nI gm), .ref (rA 38), .ref (rA 39), .ref (rA 40), .ref (rA 41), .ref (rA 42), .ref (rA 43), .ref (rA 44), .ref (rA 45), .int (nI my), .ref (rA 47)], ia (rA 28) (rK9 28) 11 nw9, ia (rA 9) (rK9 9) 352000 oc9] H1 := hPD.1
      replace hD : dd A [(rA 8), (rA 12), ra, (rA 28), (rA 9)] := dd_of hPD.2 rfl
      clear hPD
      revert H1 locs1
      intro H locs hS hP
      refine tp_i (y := agF nw9 (fun j => oc9 (11 * (4000 * se + or9 (4000 * se + p9)) + j)) 11 0) (hw1) ?_
      clear hw1 r_2 u
      refine tp_pc (pc' := 89) (by rfl) ?_
      refine lv_if_eq (tgt := 100) hx hb d_Ref_addOutcome_89 (by decide) (fun c9 => absurd c9 (hnq (by omega))) (fun c9 => ?_)
      refine tp_pc (pc' := 92) (by rfl) ?_
      refine lv_iload hx hb d_Ref_addOutcome_92 (lv_at hl 0 rfl) ?_
      refine lv_sipush (v := 4000) hx hb d_Ref_addOutcome_94 (by decide) ?_
      refine lv_icmp_ne (tgt := 102) hx hb d_Ref_addOutcome_97 (by decide) (fun c9 => ?_) (fun c9 => absurd ((nI_eq (a := n) (b := 4000) (by omega) (by omega)).mp c9) (by omega))
      refine tp_pc (pc' := 102) (by rfl) ?_
      refine lv_iload hx hb d_Ref_addOutcome_102 (lv_at hl 0 rfl) ?_
      refine lv_istore (lv' := [(6, .int (nI n)), (5, .int (nI n)), (4, .int (nI hi)), (3, .int (nI p9)), (2, .int (nI (4000 * se))), (0, .ref ra), (1, .int (nI se))]) hx hb d_Ref_addOutcome_104 hl (by decide) rfl ?_
      clear hl ls
      intro ls hl
      obtain ⟨hP8, hD8, -⟩ := cut3 (wc := [oc ra 8 [.int (nI T), .int (nI Ac), .ref (rA 2), .ref (rA 3), .ref (rA 4), .ref (rA 5), .ref (rA 6), .ref (rA 7), .ref (rA 8), .ref (rA 9), .ref (rA 10), .ref (rA 11), .ref (rA 12), .ref (rA 13), .int ir, .ref (rA 15), .ref (rA 16), .ref (rA 17), .ref (rA 18), .int (nI md), .int (nI wd), .ref (rA 21), .ref (rA 22), .ref (rA 23), .int (nI mn), .ref (rA 25), .int (nI cb), .int mr, .ref (rA 28), .ref (rA 29), .ref (rA 30), .ref (rA 31), .ref (rA 32), .ref (rA 33), .ref (rA 34), .ref (rA 35), .int (nI ld), .int (nI gm), .ref (rA 38), .ref (rA 39), .ref (rA 40), .ref (rA 41), .ref (rA 42), .ref (rA 43), .ref (rA 44), .ref (rA 45), .int (nI my), .ref (rA 47)], ia (rA 28) (rK9 28) 11 nw9, ia (rA 9) (rK9 9) 352000 oc9, ia (rA 8) (rK9 8) 8 (fun i => nI (om i)), ia (rA 12) (rK9 12) 32000 (fun i => nI (or9 i))]) hP hD rfl hS hA [2, 3, 4, 0, 1] (by decide +kernel) rfl
      clear hP
      have hP : va_P (dC, dI) classes [oc ra 8 [.int (nI T), .int (nI Ac), .ref (rA 2), .ref (rA 3), .ref (rA 4), .ref (rA 5), .ref (rA 6), .ref (rA 7), .ref (rA 8), .ref (rA 9), .ref (rA 10), .ref (rA 11), .ref (rA 12), .ref (rA 13), .int ir, .ref (rA 15), .ref (rA 16), .ref (rA 17), .ref (rA 18), .int (nI md), .int (nI wd), .ref (rA 21), .ref (rA 22), .ref (rA 23), .int (nI mn), .ref (rA 25), .int (nI cb), .int mr, .ref (rA 28), .ref (rA 29), .ref (rA 30), .ref (rA 31), .ref (rA 32), .ref (rA 33), .ref (rA 34), .ref (rA 35), .int (nI ld), .int (nI gm), .ref (rA 38), .ref (rA 39), .ref (rA 40), .ref (rA 41), .ref (rA 42), .ref (rA 43), .ref (rA 44), .ref (rA 45), .int (nI my), .ref (rA 47)], ia (rA 28) (rK9 28) 11 nw9, ia (rA 9) (rK9 9) 352000 oc9, ia (rA 8) (rK9 8) 8 (fun i => nI (om i)), ia (rA 12) (rK9 12) 32000 (fun i => nI (or9 i))] H := hP8
      clear hP8
      replace hD : dd A [ra, (rA 28), (rA 9), (rA 8), (rA 12)] := dd_of hD8 rfl
      clear hD8
      replace hl : lv_has ls 7 [(6, .int (nI (p9 + (n - p9)))), (5, .int (nI n)), (4, .int (nI hi)), (3, .int (nI p9)), (2, .int (nI (4000 * se))), (0, .ref ra), (1, .int (nI se))] := by rw [show p9 + (n - p9) = n from by omega]; exact hl
      replace hP : va_P (dC, dI) classes [oc ra 8 [.int (nI T), .int (nI Ac), .ref (rA 2), .ref (rA 3), .ref (rA 4), .ref (rA 5), .ref (rA 6), .ref (rA 7), .ref (rA 8), .ref (rA 9), .ref (rA 10), .ref (rA 11), .ref (rA 12), .ref (rA 13), .int ir, .ref (rA 15), .ref (rA 16), .ref (rA 17), .ref (rA 18), .int (nI md), .int (nI wd), .ref (rA 21), .ref (rA 22), .ref (rA 23), .int (nI mn), .ref (rA 25), .int (nI cb), .int mr, .ref (rA 28), .ref (rA 29), .ref (rA 30), .ref (rA 31), .ref (rA 32), .ref (rA 33), .ref (rA 34), .ref (rA 35), .int (nI ld), .int (nI gm), .ref (rA 38), .ref (rA 39), .ref (rA 40), .ref (rA 41), .ref (rA 42), .ref (rA 43), .ref (rA 44), .ref (rA 45), .int (nI my), .ref (rA 47)], ia (rA 28) (rK9 28) 11 nw9, ia (rA 9) (rK9 9) 352000 oc9, ia (rA 8) (rK9 8) 8 (fun i => nI (om i)), ia (rA 12) (rK9 12) 32000 (fun i => nI ((mvN or9 (4000 * se + p9 + (n - p9)) (4000 * se + n)) i))] H := by rw [show 4000 * se + p9 + (n - p9) = 4000 * se + n from by omega, mvN_0]; exact hP
      refine lp_nd (n - p9) (fun n1 H locs ls => n1 ≤ n - p9 ∧ va_P (dC, dI) classes [oc ra 8 [.int (nI T), .int (nI Ac), .ref (rA 2), .ref (rA 3), .ref (rA 4), .ref (rA 5), .ref (rA 6), .ref (rA 7), .ref (rA 8), .ref (rA 9), .ref (rA 10), .ref (rA 11), .ref (rA 12), .ref (rA 13), .int ir, .ref (rA 15), .ref (rA 16), .ref (rA 17), .ref (rA 18), .int (nI md), .int (nI wd), .ref (rA 21), .ref (rA 22), .ref (rA 23), .int (nI mn), .ref (rA 25), .int (nI cb), .int mr, .ref (rA 28), .ref (rA 29), .ref (rA 30), .ref (rA 31), .ref (rA 32), .ref (rA 33), .ref (rA 34), .ref (rA 35), .int (nI ld), .int (nI gm), .ref (rA 38), .ref (rA 39), .ref (rA 40), .ref (rA 41), .ref (rA 42), .ref (rA 43), .ref (rA 44), .ref (rA 45), .int (nI my), .ref (rA 47)], ia (rA 28) (rK9 28) 11 nw9, ia (rA 9) (rK9 9) 352000 oc9, ia (rA 8) (rK9 8) 8 (fun i => nI (om i)), ia (rA 12) (rK9 12) 32000 (fun i => nI ((mvN or9 (4000 * se + p9 + n1) (4000 * se + n)) i))] H ∧ va_S A s.heap H locs ∧ lv_has ls 7 [(6, .int (nI (p9 + n1))), (5, .int (nI n)), (4, .int (nI hi)), (3, .int (nI p9)), (2, .int (nI (4000 * se))), (0, .ref ra), (1, .int (nI se))]) ⟨Nat.le_refl _, hP, hS, hl⟩ ?_ ?_
      · intro n1 H locs ls hI ih2
        obtain ⟨hn1, hP, hS, hl⟩ := hI
        replace hl : lv_has ls 7 [(6, .int (nI (p9 + n1 + 1))), (5, .int (nI n)), (4, .int (nI hi)), (3, .int (nI p9)), (2, .int (nI (4000 * se))), (0, .ref ra), (1, .int (nI se))] := hl
        refine lv_iload hx hb d_Ref_addOutcome_106 (lv_at hl 0 rfl) ?_
        refine lv_iload_n hx hb d_Ref_addOutcome_108 rfl (lv_at hl 3 rfl) ?_
        refine lv_icmp_le (tgt := 138) hx hb d_Ref_addOutcome_109 (by decide) (fun c9 => absurd ((nI_leI (a := p9 + n1 + 1) (b := p9) (by omega) (by omega)).mp c9) (by omega)) (fun c9 => ?_)
        refine tp_pc (pc' := 112) (by rfl) ?_
        refine lv_aload_n hx hb d_Ref_addOutcome_112 rfl (lv_at hl 5 rfl) ?_
        refine va_get (D := (dC, dI)) (ci := 8) (v := .ref (rA 12)) (C := R_Ref) (T := F_Ref) (N := 48) hx hb hw i_Ref hown hK hP 0 rfl rfl 12 (by decide) (hw _ m_911) (fun _ h9 => h9) rfl d_Ref_addOutcome_113 ?_
        refine lv_iload_n hx hb d_Ref_addOutcome_116 rfl (lv_at hl 4 rfl) ?_
        refine lv_iload hx hb d_Ref_addOutcome_117 (lv_at hl 0 rfl) ?_
        refine lv_iadd hx hb d_Ref_addOutcome_119 ?_
        refine tp_i (y := nI (4000 * se + (p9 + n1 + 1))) (by exact nI_add (4000 * se) (p9 + n1 + 1)) ?_
        refine lv_aload_n hx hb d_Ref_addOutcome_120 rfl (lv_at hl 5 rfl) ?_
        refine va_get (D := (dC, dI)) (ci := 8) (v := .ref (rA 12)) (C := R_Ref) (T := F_Ref) (N := 48) hx hb hw i_Ref hown hK hP 0 rfl rfl 12 (by decide) (hw _ m_911) (fun _ h9 => h9) rfl d_Ref_addOutcome_121 ?_
        refine lv_iload_n hx hb d_Ref_addOutcome_124 rfl (lv_at hl 4 rfl) ?_
        refine lv_iload hx hb d_Ref_addOutcome_125 (lv_at hl 0 rfl) ?_
        refine lv_iadd hx hb d_Ref_addOutcome_127 ?_
        refine tp_i (y := nI (4000 * se + (p9 + n1 + 1))) (by exact nI_add (4000 * se) (p9 + n1 + 1)) ?_
        refine lv_iconst (v := 1) hx hb d_Ref_addOutcome_128 (by decide) ?_
        refine lv_isub hx hb d_Ref_addOutcome_129 ?_
        refine tp_i (y := nI (4000 * se + (p9 + n1 + 1) - 1)) (by exact pk_sub (a := 4000 * se + (p9 + n1 + 1)) (b := 1) (by omega)) ?_
        refine tp_i (y := nI (4000 * se + p9 + n1)) (congrArg nI (by omega)) ?_
        refine va_iald (D := (dC, dI)) hx hb hK hP 4 3 rfl rfl (i := nI (4000 * se + p9 + n1)) (pk_in (4000 * se + p9 + n1) 32000 (by omega)) d_Ref_addOutcome_130 ?_
        refine tp_i (y := nI ((mvN or9 (4000 * se + p9 + (n1 + 1)) (4000 * se + n)) (4000 * se + p9 + n1))) (by rw [show (nI (4000 * se + p9 + n1) : Int32).toNatClampNeg = 4000 * se + p9 + n1 from pk_cl (4000 * se + p9 + n1)]) ?_
        refine va_iast (D := (dC, dI)) hx hb hK hP (dd_D hD rfl) hS 4 3 rfl rfl (i := nI (4000 * se + (p9 + n1 + 1))) (x := nI ((mvN or9 (4000 * se + p9 + (n1 + 1)) (4000 * se + n)) (4000 * se + p9 + n1))) (pk_in (4000 * se + (p9 + n1 + 1)) 32000 (by omega)) d_Ref_addOutcome_131 ?_
        clear hP hS locs H
        intro H locs hP _ hS
        rw [show (nI (4000 * se + (p9 + n1 + 1)) : Int32).toNatClampNeg = 4000 * se + (p9 + n1 + 1) from pk_cl (4000 * se + (p9 + n1 + 1))] at hP
        rw [show upd (fun i => nI ((mvN or9 (4000 * se + p9 + (n1 + 1)) (4000 * se + n)) i)) (4000 * se + (p9 + n1 + 1)) (nI ((mvN or9 (4000 * se + p9 + (n1 + 1)) (4000 * se + n)) (4000 * se + p9 + n1))) = fun i => nI (updN (mvN or9 (4000 * se + p9 + (n1 + 1)) (4000 * se + n)) (4000 * se + (p9 + n1 + 1)) ((mvN or9 (4000 * se + p9 + (n1 + 1)) (4000 * se + n)) (4000 * se + p9 + n1)) i) from upd_nI] at hP
        replace hP : va_P (dC, dI) classes [oc ra 8 [.int (nI T), .int (nI Ac), .ref (rA 2), .ref (rA 3), .ref (rA 4), .ref (rA 5), .ref (rA 6), .ref (rA 7), .ref (rA 8), .ref (rA 9), .ref (rA 10), .ref (rA 11), .ref (rA 12), .ref (rA 13), .int ir, .ref (rA 15), .ref (rA 16), .ref (rA 17), .ref (rA 18), .int (nI md), .int (nI wd), .ref (rA 21), .ref (rA 22), .ref (rA 23), .int (nI mn), .ref (rA 25), .int (nI cb), .int mr, .ref (rA 28), .ref (rA 29), .ref (rA 30), .ref (rA 31), .ref (rA 32), .ref (rA 33), .ref (rA 34), .ref (rA 35), .int (nI ld), .int (nI gm), .ref (rA 38), .ref (rA 39), .ref (rA 40), .ref (rA 41), .ref (rA 42), .ref (rA 43), .ref (rA 44), .ref (rA 45), .int (nI my), .ref (rA 47)], ia (rA 28) (rK9 28) 11 nw9, ia (rA 9) (rK9 9) 352000 oc9, ia (rA 8) (rK9 8) 8 (fun i => nI (om i)), ia (rA 12) (rK9 12) 32000 (fun i => nI ((updN (mvN or9 (4000 * se + p9 + (n1 + 1)) (4000 * se + n)) (4000 * se + (p9 + n1 + 1)) ((mvN or9 (4000 * se + p9 + (n1 + 1)) (4000 * se + n)) (4000 * se + p9 + n1))) i))] H := hP
        refine tp_pc (pc' := 132) (by rfl) ?_
        rw [show updN (mvN or9 (4000 * se + p9 + (n1 + 1)) (4000 * se + n)) (4000 * se + (p9 + n1 + 1)) ((mvN or9 (4000 * se + p9 + (n1 + 1)) (4000 * se + n)) (4000 * se + p9 + n1)) = mvN or9 (4000 * se + p9 + n1) (4000 * se + n) from by rw [show 4000 * se + (p9 + n1 + 1) = 4000 * se + p9 + n1 + 1 from by omega]; exact mvN_s (lo := 4000 * se + p9 + n1) (hi := 4000 * se + n) (by omega)] at hP
        replace hP : va_P (dC, dI) classes [oc ra 8 [.int (nI T), .int (nI Ac), .ref (rA 2), .ref (rA 3), .ref (rA 4), .ref (rA 5), .ref (rA 6), .ref (rA 7), .ref (rA 8), .ref (rA 9), .ref (rA 10), .ref (rA 11), .ref (rA 12), .ref (rA 13), .int ir, .ref (rA 15), .ref (rA 16), .ref (rA 17), .ref (rA 18), .int (nI md), .int (nI wd), .ref (rA 21), .ref (rA 22), .ref (rA 23), .int (nI mn), .ref (rA 25), .int (nI cb), .int mr, .ref (rA 28), .ref (rA 29), .ref (rA 30), .ref (rA 31), .ref (rA 32), .ref (rA 33), .ref (rA 34), .ref (rA 35), .int (nI ld), .int (nI gm), .ref (rA 38), .ref (rA 39), .ref (rA 40), .ref (rA 41), .ref (rA 42), .ref (rA 43), .ref (rA 44), .ref (rA 45), .int (nI my), .ref (rA 47)], ia (rA 28) (rK9 28) 11 nw9, ia (rA 9) (rK9 9) 352000 oc9, ia (rA 8) (rK9 8) 8 (fun i => nI (om i)), ia (rA 12) (rK9 12) 32000 (fun i => nI ((mvN or9 (4000 * se + p9 + n1) (4000 * se + n)) i))] H := hP
        refine lv_iinc (v := nI (p9 + n1)) (lv' := [(6, .int (nI (p9 + n1))), (5, .int (nI n)), (4, .int (nI hi)), (3, .int (nI p9)), (2, .int (nI (4000 * se))), (0, .ref ra), (1, .int (nI se))]) hx hb d_Ref_addOutcome_132 hl (k := 0) rfl (by exact pk_m1 (p9 + n1)) (by decide) rfl ?_
        clear hl ls
        intro ls hl
        refine lv_goto (tgt := 106) hx hb d_Ref_addOutcome_135 (by decide) ?_
        refine tp_pc (pc' := 106) (by rfl) ?_
        exact ih2 _ _ _ ⟨by omega, hP, hS, lv_sub hl [0, 1, 2, 3, 4, 5, 6] rfl⟩
      · intro H locs ls hI
        obtain ⟨-, hP, hS, hl⟩ := hI
        replace hl : lv_has ls 7 [(6, .int (nI p9)), (5, .int (nI n)), (4, .int (nI hi)), (3, .int (nI p9)), (2, .int (nI (4000 * se))), (0, .ref ra), (1, .int (nI se))] := hl
        replace hP : va_P (dC, dI) classes [oc ra 8 [.int (nI T), .int (nI Ac), .ref (rA 2), .ref (rA 3), .ref (rA 4), .ref (rA 5), .ref (rA 6), .ref (rA 7), .ref (rA 8), .ref (rA 9), .ref (rA 10), .ref (rA 11), .ref (rA 12), .ref (rA 13), .int ir, .ref (rA 15), .ref (rA 16), .ref (rA 17), .ref (rA 18), .int (nI md), .int (nI wd), .ref (rA 21), .ref (rA 22), .ref (rA 23), .int (nI mn), .ref (rA 25), .int (nI cb), .int mr, .ref (rA 28), .ref (rA 29), .ref (rA 30), .ref (rA 31), .ref (rA 32), .ref (rA 33), .ref (rA 34), .ref (rA 35), .int (nI ld), .int (nI gm), .ref (rA 38), .ref (rA 39), .ref (rA 40), .ref (rA 41), .ref (rA 42), .ref (rA 43), .ref (rA 44), .ref (rA 45), .int (nI my), .ref (rA 47)], ia (rA 28) (rK9 28) 11 nw9, ia (rA 9) (rK9 9) 352000 oc9, ia (rA 8) (rK9 8) 8 (fun i => nI (om i)), ia (rA 12) (rK9 12) 32000 (fun i => nI ((mvN or9 (4000 * se + p9) (4000 * se + n)) i))] H := hP
        refine lv_iload hx hb d_Ref_addOutcome_106 (lv_at hl 0 rfl) ?_
        refine lv_iload_n hx hb d_Ref_addOutcome_108 rfl (lv_at hl 3 rfl) ?_
        refine lv_icmp_le (tgt := 138) hx hb d_Ref_addOutcome_109 (by decide) (fun c9 => ?_) (fun c9 => absurd (nI_le (Nat.le_refl p9) (by omega)) c9)
        refine tp_pc (pc' := 138) (by rfl) ?_
        refine lv_aload_n hx hb d_Ref_addOutcome_138 rfl (lv_at hl 5 rfl) ?_
        refine va_get (D := (dC, dI)) (ci := 8) (v := .ref (rA 12)) (C := R_Ref) (T := F_Ref) (N := 48) hx hb hw i_Ref hown hK hP 0 rfl rfl 12 (by decide) (hw _ m_911) (fun _ h9 => h9) rfl d_Ref_addOutcome_139 ?_
        refine lv_iload_n hx hb d_Ref_addOutcome_142 rfl (lv_at hl 4 rfl) ?_
        refine lv_iload_n hx hb d_Ref_addOutcome_143 rfl (lv_at hl 3 rfl) ?_
        refine lv_iadd hx hb d_Ref_addOutcome_144 ?_
        refine tp_i (y := nI (4000 * se + p9)) (by exact nI_add (4000 * se) p9) ?_
        refine lv_iload hx hb d_Ref_addOutcome_145 (lv_at hl 1 rfl) ?_
        refine va_iast (D := (dC, dI)) hx hb hK hP (dd_D hD rfl) hS 4 3 rfl rfl (i := nI (4000 * se + p9)) (x := nI n) (pk_in (4000 * se + p9) 32000 (by omega)) d_Ref_addOutcome_147 ?_
        clear hP hS locs H
        intro H locs hP _ hS
        rw [show (nI (4000 * se + p9) : Int32).toNatClampNeg = 4000 * se + p9 from pk_cl (4000 * se + p9)] at hP
        rw [show upd (fun i => nI ((mvN or9 (4000 * se + p9) (4000 * se + n)) i)) (4000 * se + p9) (nI n) = fun i => nI (updN (mvN or9 (4000 * se + p9) (4000 * se + n)) (4000 * se + p9) n i) from upd_nI] at hP
        replace hP : va_P (dC, dI) classes [oc ra 8 [.int (nI T), .int (nI Ac), .ref (rA 2), .ref (rA 3), .ref (rA 4), .ref (rA 5), .ref (rA 6), .ref (rA 7), .ref (rA 8), .ref (rA 9), .ref (rA 10), .ref (rA 11), .ref (rA 12), .ref (rA 13), .int ir, .ref (rA 15), .ref (rA 16), .ref (rA 17), .ref (rA 18), .int (nI md), .int (nI wd), .ref (rA 21), .ref (rA 22), .ref (rA 23), .int (nI mn), .ref (rA 25), .int (nI cb), .int mr, .ref (rA 28), .ref (rA 29), .ref (rA 30), .ref (rA 31), .ref (rA 32), .ref (rA 33), .ref (rA 34), .ref (rA 35), .int (nI ld), .int (nI gm), .ref (rA 38), .ref (rA 39), .ref (rA 40), .ref (rA 41), .ref (rA 42), .ref (rA 43), .ref (rA 44), .ref (rA 45), .int (nI my), .ref (rA 47)], ia (rA 28) (rK9 28) 11 nw9, ia (rA 9) (rK9 9) 352000 oc9, ia (rA 8) (rK9 8) 8 (fun i => nI (om i)), ia (rA 12) (rK9 12) 32000 (fun i => nI ((updN (mvN or9 (4000 * se + p9) (4000 * se + n)) (4000 * se + p9) n) i))] H := hP
        refine tp_pc (pc' := 148) (by rfl) ?_
        refine lv_aload_n hx hb d_Ref_addOutcome_148 rfl (lv_at hl 5 rfl) ?_
        refine va_get (D := (dC, dI)) (ci := 8) (v := .ref (rA 8)) (C := R_Ref) (T := F_Ref) (N := 48) hx hb hw i_Ref hown hK hP 0 rfl rfl 8 (by decide) (hw _ m_907) (fun _ h9 => h9) rfl d_Ref_addOutcome_149 ?_
        refine lv_iload_n hx hb d_Ref_addOutcome_152 rfl (lv_at hl 6 rfl) ?_
        refine lv_dup2_11 hx hb d_Ref_addOutcome_153 rfl rfl ?_
        refine va_iald (D := (dC, dI)) hx hb hK hP 3 2 rfl rfl (i := nI se) (pk_in se 8 (by omega)) d_Ref_addOutcome_154 ?_
        refine tp_i (y := nI (om se)) (by rw [show (nI se : Int32).toNatClampNeg = se from pk_cl se]) ?_
        refine tp_i (y := nI n) (by rw [hom]) ?_
        refine lv_iconst (v := 1) hx hb d_Ref_addOutcome_155 (by decide) ?_
        refine lv_iadd hx hb d_Ref_addOutcome_156 ?_
        refine tp_i (y := nI (n + 1)) (by exact nI_add n 1) ?_
        refine va_iast (D := (dC, dI)) hx hb hK hP (dd_D hD rfl) hS 3 2 rfl rfl (i := nI se) (x := nI (n + 1)) (pk_in se 8 (by omega)) d_Ref_addOutcome_157 ?_
        clear hP hS locs H
        intro H locs hP _ hS
        rw [show (nI se : Int32).toNatClampNeg = se from pk_cl se] at hP
        rw [show upd (fun i => nI (om i)) se (nI (n + 1)) = fun i => nI (updN om se (n + 1) i) from upd_nI] at hP
        replace hP : va_P (dC, dI) classes [oc ra 8 [.int (nI T), .int (nI Ac), .ref (rA 2), .ref (rA 3), .ref (rA 4), .ref (rA 5), .ref (rA 6), .ref (rA 7), .ref (rA 8), .ref (rA 9), .ref (rA 10), .ref (rA 11), .ref (rA 12), .ref (rA 13), .int ir, .ref (rA 15), .ref (rA 16), .ref (rA 17), .ref (rA 18), .int (nI md), .int (nI wd), .ref (rA 21), .ref (rA 22), .ref (rA 23), .int (nI mn), .ref (rA 25), .int (nI cb), .int mr, .ref (rA 28), .ref (rA 29), .ref (rA 30), .ref (rA 31), .ref (rA 32), .ref (rA 33), .ref (rA 34), .ref (rA 35), .int (nI ld), .int (nI gm), .ref (rA 38), .ref (rA 39), .ref (rA 40), .ref (rA 41), .ref (rA 42), .ref (rA 43), .ref (rA 44), .ref (rA 45), .int (nI my), .ref (rA 47)], ia (rA 28) (rK9 28) 11 nw9, ia (rA 9) (rK9 9) 352000 oc9, ia (rA 8) (rK9 8) 8 (fun i => nI ((updN om se (n + 1)) i)), ia (rA 12) (rK9 12) 32000 (fun i => nI ((updN (mvN or9 (4000 * se + p9) (4000 * se + n)) (4000 * se + p9) n) i))] H := hP
        refine tp_pc (pc' := 158) (by rfl) ?_
        refine lv_iconst (v := 0) hx hb d_Ref_addOutcome_158 (by decide) ?_
        refine lv_istore (lv' := [(6, .int 0), (5, .int (nI n)), (4, .int (nI hi)), (3, .int (nI p9)), (2, .int (nI (4000 * se))), (0, .ref ra), (1, .int (nI se))]) hx hb d_Ref_addOutcome_159 hl (by decide) rfl ?_
        clear hl ls
        intro ls hl
        replace hP : va_P (dC, dI) classes [oc ra 8 [.int (nI T), .int (nI Ac), .ref (rA 2), .ref (rA 3), .ref (rA 4), .ref (rA 5), .ref (rA 6), .ref (rA 7), .ref (rA 8), .ref (rA 9), .ref (rA 10), .ref (rA 11), .ref (rA 12), .ref (rA 13), .int ir, .ref (rA 15), .ref (rA 16), .ref (rA 17), .ref (rA 18), .int (nI md), .int (nI wd), .ref (rA 21), .ref (rA 22), .ref (rA 23), .int (nI mn), .ref (rA 25), .int (nI cb), .int mr, .ref (rA 28), .ref (rA 29), .ref (rA 30), .ref (rA 31), .ref (rA 32), .ref (rA 33), .ref (rA 34), .ref (rA 35), .int (nI ld), .int (nI gm), .ref (rA 38), .ref (rA 39), .ref (rA 40), .ref (rA 41), .ref (rA 42), .ref (rA 43), .ref (rA 44), .ref (rA 45), .int (nI my), .ref (rA 47)], ia (rA 28) (rK9 28) 11 nw9, ia (rA 9) (rK9 9) 352000 (wrO oc9 nw9 (11 * (4000 * se + n)) 0), ia (rA 8) (rK9 8) 8 (fun i => nI ((updN om se (n + 1)) i)), ia (rA 12) (rK9 12) 32000 (fun i => nI ((updN (mvN or9 (4000 * se + p9) (4000 * se + n)) (4000 * se + p9) n) i))] H := hP
        replace hl : lv_has ls 7 [(6, .int (nI 0)), (5, .int (nI n)), (4, .int (nI hi)), (3, .int (nI p9)), (2, .int (nI (4000 * se))), (0, .ref ra), (1, .int (nI se))] := hl
        refine lp_n 11 (fun k1x H locs ls => va_P (dC, dI) classes [oc ra 8 [.int (nI T), .int (nI Ac), .ref (rA 2), .ref (rA 3), .ref (rA 4), .ref (rA 5), .ref (rA 6), .ref (rA 7), .ref (rA 8), .ref (rA 9), .ref (rA 10), .ref (rA 11), .ref (rA 12), .ref (rA 13), .int ir, .ref (rA 15), .ref (rA 16), .ref (rA 17), .ref (rA 18), .int (nI md), .int (nI wd), .ref (rA 21), .ref (rA 22), .ref (rA 23), .int (nI mn), .ref (rA 25), .int (nI cb), .int mr, .ref (rA 28), .ref (rA 29), .ref (rA 30), .ref (rA 31), .ref (rA 32), .ref (rA 33), .ref (rA 34), .ref (rA 35), .int (nI ld), .int (nI gm), .ref (rA 38), .ref (rA 39), .ref (rA 40), .ref (rA 41), .ref (rA 42), .ref (rA 43), .ref (rA 44), .ref (rA 45), .int (nI my), .ref (rA 47)], ia (rA 28) (rK9 28) 11 nw9, ia (rA 9) (rK9 9) 352000 (wrO oc9 nw9 (11 * (4000 * se + n)) k1x), ia (rA 8) (rK9 8) 8 (fun i => nI ((updN om se (n + 1)) i)), ia (rA 12) (rK9 12) 32000 (fun i => nI ((updN (mvN or9 (4000 * se + p9) (4000 * se + n)) (4000 * se + p9) n) i))] H ∧ va_S A s.heap H locs ∧ lv_has ls 7 [(6, .int (nI k1x)), (5, .int (nI n)), (4, .int (nI hi)), (3, .int (nI p9)), (2, .int (nI (4000 * se))), (0, .ref ra), (1, .int (nI se))]) ⟨hP, hS, hl⟩ ?_ ?_
        · intro k1x H locs ls hk1x hI ih_k1x
          obtain ⟨hP, hS, hl⟩ := hI
          refine lv_iload hx hb d_Ref_addOutcome_161 (lv_at hl 0 rfl) ?_
          refine lv_bipush (v := 11) hx hb d_Ref_addOutcome_163 (by decide) ?_
          refine lv_icmp_ge (tgt := 197) hx hb d_Ref_addOutcome_165 (by decide) (fun c9 => absurd c9 (nI_ge (a := k1x) (b := 11) hk1x (by decide))) (fun c9 => ?_)
          refine tp_pc (pc' := 168) (by rfl) ?_
          refine lv_aload_n hx hb d_Ref_addOutcome_168 rfl (lv_at hl 5 rfl) ?_
          refine va_get (D := (dC, dI)) (ci := 8) (v := .ref (rA 9)) (C := R_Ref) (T := F_Ref) (N := 48) hx hb hw i_Ref hown hK hP 0 rfl rfl 9 (by decide) (hw _ m_908) (fun _ h9 => h9) rfl d_Ref_addOutcome_169 ?_
          refine lv_bipush (v := 11) hx hb d_Ref_addOutcome_172 (by decide) ?_
          refine lv_iload_n hx hb d_Ref_addOutcome_174 rfl (lv_at hl 4 rfl) ?_
          refine lv_iload hx hb d_Ref_addOutcome_175 (lv_at hl 1 rfl) ?_
          refine lv_iadd hx hb d_Ref_addOutcome_177 ?_
          refine tp_i (y := nI (4000 * se + n)) (by exact nI_add (4000 * se) n) ?_
          refine lv_imul hx hb d_Ref_addOutcome_178 ?_
          refine tp_i (y := nI (11 * (4000 * se + n))) (by exact pk_mul 11 (4000 * se + n)) ?_
          refine lv_iload hx hb d_Ref_addOutcome_179 (lv_at hl 0 rfl) ?_
          refine lv_iadd hx hb d_Ref_addOutcome_181 ?_
          refine tp_i (y := nI (11 * (4000 * se + n) + k1x)) (by exact nI_add (11 * (4000 * se + n)) k1x) ?_
          refine lv_aload_n hx hb d_Ref_addOutcome_182 rfl (lv_at hl 5 rfl) ?_
          refine va_get (D := (dC, dI)) (ci := 8) (v := .ref (rA 28)) (C := R_Ref) (T := F_Ref) (N := 48) hx hb hw i_Ref hown hK hP 0 rfl rfl 28 (by decide) (hw _ m_927) (fun _ h9 => h9) rfl d_Ref_addOutcome_183 ?_
          refine lv_iload hx hb d_Ref_addOutcome_186 (lv_at hl 0 rfl) ?_
          refine va_iald (D := (dC, dI)) hx hb hK hP 1 0 rfl rfl (i := nI k1x) (pk_in k1x 11 (by omega)) d_Ref_addOutcome_188 ?_
          refine tp_i (y := nw9 k1x) (by rw [show (nI k1x : Int32).toNatClampNeg = k1x from pk_cl k1x]) ?_
          refine lv_i2s (v := (nw9 k1x).toInt16.toInt32) hx hb d_Ref_addOutcome_189 rfl ?_
          refine va_sast (D := (dC, dI)) hx hb hK hP (dd_D hD rfl) hS 2 1 rfl rfl (i := nI (11 * (4000 * se + n) + k1x)) (x := (nw9 k1x).toInt16.toInt32) (pk_in (11 * (4000 * se + n) + k1x) 352000 (by omega)) d_Ref_addOutcome_190 ?_
          clear hP hS locs H
          intro H locs hP _ hS
          rw [show (nI (11 * (4000 * se + n) + k1x) : Int32).toNatClampNeg = 11 * (4000 * se + n) + k1x from pk_cl (11 * (4000 * se + n) + k1x), pk_vs] at hP
          replace hP : va_P (dC, dI) classes [oc ra 8 [.int (nI T), .int (nI Ac), .ref (rA 2), .ref (rA 3), .ref (rA 4), .ref (rA 5), .ref (rA 6), .ref (rA 7), .ref (rA 8), .ref (rA 9), .ref (rA 10), .ref (rA 11), .ref (rA 12), .ref (rA 13), .int ir, .ref (rA 15), .ref (rA 16), .ref (rA 17), .ref (rA 18), .int (nI md), .int (nI wd), .ref (rA 21), .ref (rA 22), .ref (rA 23), .int (nI mn), .ref (rA 25), .int (nI cb), .int mr, .ref (rA 28), .ref (rA 29), .ref (rA 30), .ref (rA 31), .ref (rA 32), .ref (rA 33), .ref (rA 34), .ref (rA 35), .int (nI ld), .int (nI gm), .ref (rA 38), .ref (rA 39), .ref (rA 40), .ref (rA 41), .ref (rA 42), .ref (rA 43), .ref (rA 44), .ref (rA 45), .int (nI my), .ref (rA 47)], ia (rA 28) (rK9 28) 11 nw9, ia (rA 9) (rK9 9) 352000 (upd (wrO oc9 nw9 (11 * (4000 * se + n)) k1x) (11 * (4000 * se + n) + k1x) ((nw9 k1x).toInt16.toInt32)), ia (rA 8) (rK9 8) 8 (fun i => nI ((updN om se (n + 1)) i)), ia (rA 12) (rK9 12) 32000 (fun i => nI ((updN (mvN or9 (4000 * se + p9) (4000 * se + n)) (4000 * se + p9) n) i))] H := hP
          refine tp_pc (pc' := 191) (by rfl) ?_
          refine lv_iinc (v := nI (k1x + 1)) (lv' := [(6, .int (nI (k1x + 1))), (5, .int (nI n)), (4, .int (nI hi)), (3, .int (nI p9)), (2, .int (nI (4000 * se))), (0, .ref ra), (1, .int (nI se))]) hx hb d_Ref_addOutcome_191 hl (k := 0) rfl (by exact nI_1 k1x) (by decide) rfl ?_
          clear hl ls
          intro ls hl
          refine lv_goto (tgt := 161) hx hb d_Ref_addOutcome_194 (by decide) ?_
          refine tp_pc (pc' := 161) (by rfl) ?_
          replace hP : va_P (dC, dI) classes [oc ra 8 [.int (nI T), .int (nI Ac), .ref (rA 2), .ref (rA 3), .ref (rA 4), .ref (rA 5), .ref (rA 6), .ref (rA 7), .ref (rA 8), .ref (rA 9), .ref (rA 10), .ref (rA 11), .ref (rA 12), .ref (rA 13), .int ir, .ref (rA 15), .ref (rA 16), .ref (rA 17), .ref (rA 18), .int (nI md), .int (nI wd), .ref (rA 21), .ref (rA 22), .ref (rA 23), .int (nI mn), .ref (rA 25), .int (nI cb), .int mr, .ref (rA 28), .ref (rA 29), .ref (rA 30), .ref (rA 31), .ref (rA 32), .ref (rA 33), .ref (rA 34), .ref (rA 35), .int (nI ld), .int (nI gm), .ref (rA 38), .ref (rA 39), .ref (rA 40), .ref (rA 41), .ref (rA 42), .ref (rA 43), .ref (rA 44), .ref (rA 45), .int (nI my), .ref (rA 47)], ia (rA 28) (rK9 28) 11 nw9, ia (rA 9) (rK9 9) 352000 (wrO oc9 nw9 (11 * (4000 * se + n)) (k1x + 1)), ia (rA 8) (rK9 8) 8 (fun i => nI ((updN om se (n + 1)) i)), ia (rA 12) (rK9 12) 32000 (fun i => nI ((updN (mvN or9 (4000 * se + p9) (4000 * se + n)) (4000 * se + p9) n) i))] H := hP
          obtain ⟨hP8, -, -⟩ := cut3 (wc := [oc ra 8 [.int (nI T), .int (nI Ac), .ref (rA 2), .ref (rA 3), .ref (rA 4), .ref (rA 5), .ref (rA 6), .ref (rA 7), .ref (rA 8), .ref (rA 9), .ref (rA 10), .ref (rA 11), .ref (rA 12), .ref (rA 13), .int ir, .ref (rA 15), .ref (rA 16), .ref (rA 17), .ref (rA 18), .int (nI md), .int (nI wd), .ref (rA 21), .ref (rA 22), .ref (rA 23), .int (nI mn), .ref (rA 25), .int (nI cb), .int mr, .ref (rA 28), .ref (rA 29), .ref (rA 30), .ref (rA 31), .ref (rA 32), .ref (rA 33), .ref (rA 34), .ref (rA 35), .int (nI ld), .int (nI gm), .ref (rA 38), .ref (rA 39), .ref (rA 40), .ref (rA 41), .ref (rA 42), .ref (rA 43), .ref (rA 44), .ref (rA 45), .int (nI my), .ref (rA 47)], ia (rA 28) (rK9 28) 11 nw9, ia (rA 9) (rK9 9) 352000 (wrO oc9 nw9 (11 * (4000 * se + n)) (k1x + 1)), ia (rA 8) (rK9 8) 8 (fun i => nI ((updN om se (n + 1)) i)), ia (rA 12) (rK9 12) 32000 (fun i => nI ((updN (mvN or9 (4000 * se + p9) (4000 * se + n)) (4000 * se + p9) n) i))]) hP hD rfl hS hA [0, 1, 2, 3, 4] (by decide +kernel) rfl
          exact ih_k1x _ _ _ ⟨hP8, hS, lv_sub hl [0, 1, 2, 3, 4, 5, 6] rfl⟩
        · intro H locs ls hI
          obtain ⟨hP, hS, hl⟩ := hI
          replace hl : lv_has ls 7 [(6, .int 11), (5, .int (nI n)), (4, .int (nI hi)), (3, .int (nI p9)), (2, .int (nI (4000 * se))), (0, .ref ra), (1, .int (nI se))] := hl
          refine lv_iload hx hb d_Ref_addOutcome_161 (lv_at hl 0 rfl) ?_
          refine lv_bipush (v := 11) hx hb d_Ref_addOutcome_163 (by decide) ?_
          refine lv_icmp_ge (tgt := 197) hx hb d_Ref_addOutcome_165 (by decide) (fun c_3 => ?_) (fun c_3 => absurd c_3 (by decide))
          refine tp_pc (pc' := 197) (by rfl) ?_
          refine lv_iload hx hb d_Ref_addOutcome_197 (lv_at hl 1 rfl) ?_
          obtain ⟨hP9, hD9, -⟩ := cut3 (wc := [oc ra 8 [.int (nI T), .int (nI Ac), .ref (rA 2), .ref (rA 3), .ref (rA 4), .ref (rA 5), .ref (rA 6), .ref (rA 7), .ref (rA 8), .ref (rA 9), .ref (rA 10), .ref (rA 11), .ref (rA 12), .ref (rA 13), .int ir, .ref (rA 15), .ref (rA 16), .ref (rA 17), .ref (rA 18), .int (nI md), .int (nI wd), .ref (rA 21), .ref (rA 22), .ref (rA 23), .int (nI mn), .ref (rA 25), .int (nI cb), .int mr, .ref (rA 28), .ref (rA 29), .ref (rA 30), .ref (rA 31), .ref (rA 32), .ref (rA 33), .ref (rA 34), .ref (rA 35), .int (nI ld), .int (nI gm), .ref (rA 38), .ref (rA 39), .ref (rA 40), .ref (rA 41), .ref (rA 42), .ref (rA 43), .ref (rA 44), .ref (rA 45), .int (nI my), .ref (rA 47)], ia (rA 28) (rK9 28) 11 nw9, ia (rA 9) (rK9 9) 352000 (wrO oc9 nw9 (11 * (4000 * se + n)) 11), ia (rA 8) (rK9 8) 8 (fun i => nI ((updN om se (n + 1)) i)), ia (rA 12) (rK9 12) 32000 (fun i => nI ((updN (mvN or9 (4000 * se + p9) (4000 * se + n)) (4000 * se + p9) n) i))]) hP hD rfl hS hA [0, 1, 2, 3, 4] (by decide +kernel) rfl
          have hK9 := hK.sub (tys' := []) [] rfl
          refine W.widen (k := 0) (n := 0) (by exact Nat.le_of_ble_eq_true rfl) (by exact Nat.le_of_ble_eq_true rfl) ?_
          exact W.iret (v := (nI n)) hx hb hr (fun t9 ht9 hW => ⟨⟨nI n, (), rfl, rfl, by rw [ht9]; exact hP9, va_K.moved hW.alike hK9, hD9⟩, hS.F ht9⟩) hS.2.2 d_Ref_addOutcome_199
  · skip
    have hc1 : ¬ (hi ≤ lo) := fun q9 => c1 ((nI_leI (a := hi) (b := lo) (by omega) (by omega)).mpr q9)
    refine tp_pc (pc' := 22) (by rfl) ?_
    refine lv_iload_n hx hb d_Ref_addOutcome_22 rfl (lv_at hl 1 rfl) ?_
    refine lv_iload hx hb d_Ref_addOutcome_23 (lv_at hl 0 rfl) ?_
    refine lv_iadd hx hb d_Ref_addOutcome_25 ?_
    refine tp_i (y := nI (lo + hi)) (by exact nI_add lo hi) ?_
    refine lv_iconst (v := 2) hx hb d_Ref_addOutcome_26 (by decide) ?_
    refine lv_idiv hx hb d_Ref_addOutcome_27 (by decide) ?_
    obtain ⟨mi, hmi⟩ : ∃ mi, mi = (lo + hi) / 2 := ⟨_, rfl⟩
    have b1x : lo ≤ mi ∧ mi < hi := by omega
    refine tp_i (y := nI mi) (by rw [hmi]; exact pk_div (by omega) (by decide) (by decide)) ?_
    refine lv_istore (lv' := [(5, .int (nI mi)), (4, .int (nI hi)), (3, .int (nI lo)), (2, .int (nI (4000 * se))), (0, .ref ra), (1, .int (nI se))]) hx hb d_Ref_addOutcome_28 hl (by decide) rfl ?_
    clear hl ls
    intro ls hl
    refine lv_aload_n hx hb d_Ref_addOutcome_30 rfl (lv_at hl 4 rfl) ?_
    refine lv_iload_n hx hb d_Ref_addOutcome_31 rfl (lv_at hl 5 rfl) ?_
    refine lv_aload_n hx hb d_Ref_addOutcome_32 rfl (lv_at hl 4 rfl) ?_
    refine va_get (D := (dC, dI)) (ci := 8) (v := .ref (rA 12)) (C := R_Ref) (T := F_Ref) (N := 48) hx hb hw i_Ref hown hK hP 0 rfl rfl 12 (by decide) (hw _ m_911) (fun _ h9 => h9) rfl d_Ref_addOutcome_33 ?_
    refine lv_iload_n hx hb d_Ref_addOutcome_36 rfl (lv_at hl 3 rfl) ?_
    refine lv_iload hx hb d_Ref_addOutcome_37 (lv_at hl 0 rfl) ?_
    refine lv_iadd hx hb d_Ref_addOutcome_39 ?_
    refine tp_i (y := nI (4000 * se + mi)) (by exact nI_add (4000 * se) mi) ?_
    refine va_iald (D := (dC, dI)) hx hb hK hP 4 3 rfl rfl (i := nI (4000 * se + mi)) (pk_in (4000 * se + mi) 32000 (by omega)) d_Ref_addOutcome_40 ?_
    refine tp_i (y := nI (or9 (4000 * se + mi))) (by rw [show (nI (4000 * se + mi) : Int32).toNatClampNeg = 4000 * se + mi from pk_cl (4000 * se + mi)]) ?_
    obtain ⟨hPc, hDc, hFc⟩ := cut3 (wc := [oc ra 8 [.int (nI T), .int (nI Ac), .ref (rA 2), .ref (rA 3), .ref (rA 4), .ref (rA 5), .ref (rA 6), .ref (rA 7), .ref (rA 8), .ref (rA 9), .ref (rA 10), .ref (rA 11), .ref (rA 12), .ref (rA 13), .int ir, .ref (rA 15), .ref (rA 16), .ref (rA 17), .ref (rA 18), .int (nI md), .int (nI wd), .ref (rA 21), .ref (rA 22), .ref (rA 23), .int (nI mn), .ref (rA 25), .int (nI cb), .int mr, .ref (rA 28), .ref (rA 29), .ref (rA 30), .ref (rA 31), .ref (rA 32), .ref (rA 33), .ref (rA 34), .ref (rA 35), .int (nI ld), .int (nI gm), .ref (rA 38), .ref (rA 39), .ref (rA 40), .ref (rA 41), .ref (rA 42), .ref (rA 43), .ref (rA 44), .ref (rA 45), .int (nI my), .ref (rA 47)], ia (rA 28) (rK9 28) 11 nw9, ia (rA 9) (rK9 9) 352000 oc9]) hP hD rfl hS hA [0, 1, 2] (by decide +kernel) rfl
    have hKc := hK.sub (tys' := [((rK9 28), .int), ((rK9 9), .short)]) [0, 1] rfl
    refine va_calli (va_runV (As := [.int (nI se), .int (nI (or9 (4000 * se + mi)))]) (rest := []) ⟨hx, hb, hml, hown, hw⟩ (gen_Ref_against l dC dI ra rA rK9 T Ac md wd mn cb ld gm my ir mr se (or9 (4000 * se + mi)) nw9 oc9 hse (by have := hor (mi) (by omega); omega) H.size) (cw_V 2 hw g_Ref_against rfl rfl rfl (hw _ m_109) (hw _ m_1166) (hw _ m_1168) (hw _ m_76) (by decide +kernel) ⟨Nat.le_of_ble_eq_true rfl, Nat.le_of_ble_eq_true rfl⟩) ⟨fun a U g mk q => by obtain ⟨q0, q1, qP, qK, qD, qN⟩ := q; exact ⟨q0, q1, qP, va_K.moved (u := U) (U := U.calling g mk a) (Vm.Alike.refl U.vm) qK, qD, nw_call qN⟩, va_recv hKc hPc (ci := 8) (q0 := 0) rfl rfl, fun U hU hW => ⟨rfl, by rw [hU], by rw [hU]; exact hPc, va_K.moved hW.alike hKc, hDc.weaken (fun _ _ _ _ => trivial), nw_warm hW hn⟩⟩ rfl rfl hl.1 rfl (lv_room (Nat.le_of_ble_eq_true rfl)) d_Ref_addOutcome_41 ⟨Nat.le_of_ble_eq_true rfl, Nat.le_of_ble_eq_true rfl⟩) hS (fun q _ h => hFc q h) hFc ?_
    intro r_4 u t9 H1 locs1 ht9 hvm hw1 hB hz1 hk1 hS1
    obtain ⟨hP1, hK1, hD1⟩ := hB
    rw [ht9] at hP1
    replace hK1 := va_K.moved hvm.symm hK1
    have hPD := join3 hP hD rfl [0, 1, 2] [3, 4] rfl (by rfl) (by decide +kernel) (by decide +kernel) hk1 hFc hP1 hD1
    replace hK : va_K (dC, dI) classes [((rK9 28), .int), ((rK9 9), .short), ((rK9 8), .int), ((rK9 12), .int)] s := hK.app hK1
    clear hP1 hK1 hD1 hk1 hz1 hFc hKc hDc hPc hvm ht9 hP hS t9 locs H
    have hP : va_P (dC, dI) classes [ia (rA 8) (rK9 8) 8 (fun i => nI (om i)), ia (rA 12) (rK9 12) 32000 (fun i => nI (or9 i)), oc ra 8 [.int (nI T), .int (nI Ac), .ref (rA 2), .ref (rA 3), .ref (rA 4), .ref (rA 5), .ref (rA 6), .ref (rA 7), .ref (rA 8), .ref (rA 9), .ref (rA 10), .ref (rA 11), .ref (rA 12), .ref (rA 13), .int ir, .ref (rA 15), .ref (rA 16), .ref (rA 17), .ref (rA 18), .int (nI md), .int (nI wd), .ref (rA 21), .ref (rA 22), .ref (rA 23), .int (nI mn), .ref (rA 25), .int (nI cb), .int mr, .ref (rA 28), .ref (rA 29), .ref (rA 30), .ref (rA 31), .ref (rA 32), .ref (rA 33), .ref (rA 34), .ref (rA 35), .int (nI ld), .int (nI gm), .ref (rA 38), .ref (rA 39), .ref (rA 40), .ref (rA 41), .ref (rA 42), .ref (rA 43), .ref (rA 44), .ref (rA 45), .int (nI my), .ref (rA 47)], ia (rA 28) (rK9 28) 11 nw9, ia (rA 9) (rK9 9) 352000 oc9] H1 := hPD.1
    replace hD : dd A [(rA 8), (rA 12), ra, (rA 28), (rA 9)] := dd_of hPD.2 rfl
    clear hPD
    revert H1 locs1
    intro H locs hS hP
    refine tp_i (y := agF nw9 (fun j => oc9 (11 * (4000 * se + or9 (4000 * se + mi)) + j)) 11 0) (hw1) ?_
    clear hw1 r_4 u
    refine tp_pc (pc' := 44) (by rfl) ?_
    refine lv_if_le (tgt := 55) hx hb d_Ref_addOutcome_44 (by decide) (fun c3 => ?_) (fun c3 => ?_)
    · skip
      have g1 : p9 ≤ mi := Nat.le_of_not_lt fun q => absurd (h1 mi q) (by rw [i_lt]; rw [i_le] at c3; omega)
      refine tp_pc (pc' := 55) (by rfl) ?_
      refine lv_iload hx hb d_Ref_addOutcome_55 (lv_at hl 0 rfl) ?_
      refine lv_istore (lv' := [(4, .int (nI mi)), (5, .int (nI mi)), (3, .int (nI lo)), (2, .int (nI (4000 * se))), (0, .ref ra), (1, .int (nI se))]) hx hb d_Ref_addOutcome_57 hl (by decide) rfl ?_
      clear hl ls
      intro ls hl
      refine lv_goto (tgt := 16) hx hb d_Ref_addOutcome_59 (by decide) ?_
      refine tp_pc (pc' := 16) (by rfl) ?_
      obtain ⟨hP8, -, -⟩ := cut3 (wc := [oc ra 8 [.int (nI T), .int (nI Ac), .ref (rA 2), .ref (rA 3), .ref (rA 4), .ref (rA 5), .ref (rA 6), .ref (rA 7), .ref (rA 8), .ref (rA 9), .ref (rA 10), .ref (rA 11), .ref (rA 12), .ref (rA 13), .int ir, .ref (rA 15), .ref (rA 16), .ref (rA 17), .ref (rA 18), .int (nI md), .int (nI wd), .ref (rA 21), .ref (rA 22), .ref (rA 23), .int (nI mn), .ref (rA 25), .int (nI cb), .int mr, .ref (rA 28), .ref (rA 29), .ref (rA 30), .ref (rA 31), .ref (rA 32), .ref (rA 33), .ref (rA 34), .ref (rA 35), .int (nI ld), .int (nI gm), .ref (rA 38), .ref (rA 39), .ref (rA 40), .ref (rA 41), .ref (rA 42), .ref (rA 43), .ref (rA 44), .ref (rA 45), .int (nI my), .ref (rA 47)], ia (rA 28) (rK9 28) 11 nw9, ia (rA 9) (rK9 9) 352000 oc9, ia (rA 8) (rK9 8) 8 (fun i => nI (om i)), ia (rA 12) (rK9 12) 32000 (fun i => nI (or9 i))]) hP hD rfl hS hA [2, 3, 4, 0, 1] (by decide +kernel) rfl
      exact ih (mi - (lo)) (by omega) _ _ _ ⟨lo, mi, u1, g1, by omega, rfl, hP8, hS, lv_sub hl [0, 2, 3, 4, 5] rfl⟩
    · skip
      have g1 : mi < p9 := Nat.lt_of_not_le fun q => absurd (show 0 < agF nw9 (fun j => oc9 (11 * (4000 * se + or9 (4000 * se + mi)) + j)) 11 0 from by rw [i_lt]; rw [i_le] at c3; omega) (h2 mi q (by omega))
      refine tp_pc (pc' := 47) (by rfl) ?_
      refine lv_iload hx hb d_Ref_addOutcome_47 (lv_at hl 0 rfl) ?_
      refine lv_iconst (v := 1) hx hb d_Ref_addOutcome_49 (by decide) ?_
      refine lv_iadd hx hb d_Ref_addOutcome_50 ?_
      refine tp_i (y := nI (mi + 1)) (by exact nI_add mi 1) ?_
      refine lv_istore_n (lv' := [(3, .int (nI (mi + 1))), (5, .int (nI mi)), (4, .int (nI hi)), (2, .int (nI (4000 * se))), (0, .ref ra), (1, .int (nI se))]) hx hb d_Ref_addOutcome_51 rfl hl (by decide) rfl ?_
      clear hl ls
      intro ls hl
      refine lv_goto (tgt := 59) hx hb d_Ref_addOutcome_52 (by decide) ?_
      refine tp_pc (pc' := 59) (by rfl) ?_
      refine lv_goto (tgt := 16) hx hb d_Ref_addOutcome_59 (by decide) ?_
      refine tp_pc (pc' := 16) (by rfl) ?_
      obtain ⟨hP8, -, -⟩ := cut3 (wc := [oc ra 8 [.int (nI T), .int (nI Ac), .ref (rA 2), .ref (rA 3), .ref (rA 4), .ref (rA 5), .ref (rA 6), .ref (rA 7), .ref (rA 8), .ref (rA 9), .ref (rA 10), .ref (rA 11), .ref (rA 12), .ref (rA 13), .int ir, .ref (rA 15), .ref (rA 16), .ref (rA 17), .ref (rA 18), .int (nI md), .int (nI wd), .ref (rA 21), .ref (rA 22), .ref (rA 23), .int (nI mn), .ref (rA 25), .int (nI cb), .int mr, .ref (rA 28), .ref (rA 29), .ref (rA 30), .ref (rA 31), .ref (rA 32), .ref (rA 33), .ref (rA 34), .ref (rA 35), .int (nI ld), .int (nI gm), .ref (rA 38), .ref (rA 39), .ref (rA 40), .ref (rA 41), .ref (rA 42), .ref (rA 43), .ref (rA 44), .ref (rA 45), .int (nI my), .ref (rA 47)], ia (rA 28) (rK9 28) 11 nw9, ia (rA 9) (rK9 9) 352000 oc9, ia (rA 8) (rK9 8) 8 (fun i => nI (om i)), ia (rA 12) (rK9 12) 32000 (fun i => nI (or9 i))]) hP hD rfl hS hA [2, 3, 4, 0, 1] (by decide +kernel) rfl
      exact ih (hi - (mi + 1)) (by omega) _ _ _ ⟨mi + 1, hi, g1, u2, u3, rfl, hP8, hS, lv_sub hl [2, 0, 3, 4, 5] rfl⟩
