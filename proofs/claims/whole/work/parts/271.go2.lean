/-- more room does no harm -/
theorem Met_room {l : Launch} {y : MethodName} {ws : List Cond} {f f' lo lo' c s9 : Nat} {Pc : Array Value → State → Prop} {Qc : Array Value → State → Outcome → State → Prop} {mc ms : Nat} {free : Addr → Prop} (hf : f ≤ f') (hl : lo ≤ lo') (h : Met l y ws ({ frames := f, cells := c, slots := s9, locals := lo }) Pc Qc mc ms free) :
    Met l y ws ({ frames := f', cells := c, slots := s9, locals := lo' }) Pc Qc mc ms free := by
  intro p e h1 h2 h3 s m args below hfr hS hp hk
  refine h p e h1 h2 h3 s m args below hfr ?_ hp hk
  rw [Spec.appliesLoose_iff hfr] at hS ⊢
  obtain ⟨a1, a2, a3, a4, a5, a6, a7, a8⟩ := hS
  refine ⟨a1, a2, a3, a4, a5, a6, ?_, a8⟩
  unfold State.hasRoom headSpec at a7 ⊢
  simp only [Bool.and_eq_true, decide_eq_true_eq] at a7 ⊢
  obtain ⟨⟨⟨⟨r1, r2, r3, r4, r5, r6⟩, r7⟩, r8⟩, r9⟩ := a7
  exact ⟨⟨⟨⟨by omega, by omega, by omega, by omega, by omega, r6⟩, r7⟩, r8⟩, r9⟩
set_option maxHeartbeats 4000000 in
set_option maxRecDepth 100000 in
theorem gen_Ref_addOutcome_full (l : Launch) (dC : Nat → ClassId) (dI : Nat → Nat → Nat) (ra : Nat) (rA : Nat → Nat) (rK9 : Nat → ClassId) (T Ac md wd mn cb ld gm my : Nat) (ir mr : Int32) (se n p9 : Nat) (nw9 oc9 : Nat → Int32) (om or9 : Nat → Nat) (hse : se < 8) (hn4 : n = 4000) (hom : om se = n) (hor : ∀ i, i < n → or9 (4000 * se + i) < n) (hp9 : p9 ≤ n) (h1 : ∀ i, i < p9 → 0 < agF nw9 (fun j => oc9 (11 * (4000 * se + or9 (4000 * se + i)) + j)) 11 0) (h2 : ∀ i, p9 ≤ i → i < n → ¬ 0 < agF nw9 (fun j => oc9 (11 * (4000 * se + or9 (4000 * se + i)) + j)) 11 0) (sz : Nat) : Met l y_Ref_addOutcome w_Ref_addOutcome ({ frames := 1, cells := 0, slots := 0, locals := 60 }) (va_Pc [.ref ra, .int (nI se)] (fun U => U.heap.size = sz ∧ va_P (dC, dI) classes [oc ra 8 [.int (nI T), .int (nI Ac), .ref (rA 2), .ref (rA 3), .ref (rA 4), .ref (rA 5), .ref (rA 6), .ref (rA 7), .ref (rA 8), .ref (rA 9), .ref (rA 10), .ref (rA 11), .ref (rA 12), .ref (rA 13), .int ir, .ref (rA 15), .ref (rA 16), .ref (rA 17), .ref (rA 18), .int (nI md), .int (nI wd), .ref (rA 21), .ref (rA 22), .ref (rA 23), .int (nI mn), .ref (rA 25), .int (nI cb), .int mr, .ref (rA 28), .ref (rA 29), .ref (rA 30), .ref (rA 31), .ref (rA 32), .ref (rA 33), .ref (rA 34), .ref (rA 35), .int (nI ld), .int (nI gm), .ref (rA 38), .ref (rA 39), .ref (rA 40), .ref (rA 41), .ref (rA 42), .ref (rA 43), .ref (rA 44), .ref (rA 45), .int (nI my), .ref (rA 47)], ia (rA 28) (rK9 28) 11 nw9, ia (rA 9) (rK9 9) 352000 oc9, ia (rA 8) (rK9 8) 8 (fun i => nI (om i)), ia (rA 12) (rK9 12) 32000 (fun i => nI (or9 i))] U.heap ∧ va_K (dC, dI) classes [((rK9 28), .int), ((rK9 9), .short), ((rK9 8), .int), ((rK9 12), .int)] U ∧ va_D (fun _ => True) [oc ra 8 [.int (nI T), .int (nI Ac), .ref (rA 2), .ref (rA 3), .ref (rA 4), .ref (rA 5), .ref (rA 6), .ref (rA 7), .ref (rA 8), .ref (rA 9), .ref (rA 10), .ref (rA 11), .ref (rA 12), .ref (rA 13), .int ir, .ref (rA 15), .ref (rA 16), .ref (rA 17), .ref (rA 18), .int (nI md), .int (nI wd), .ref (rA 21), .ref (rA 22), .ref (rA 23), .int (nI mn), .ref (rA 25), .int (nI cb), .int mr, .ref (rA 28), .ref (rA 29), .ref (rA 30), .ref (rA 31), .ref (rA 32), .ref (rA 33), .ref (rA 34), .ref (rA 35), .int (nI ld), .int (nI gm), .ref (rA 38), .ref (rA 39), .ref (rA 40), .ref (rA 41), .ref (rA 42), .ref (rA 43), .ref (rA 44), .ref (rA 45), .int (nI my), .ref (rA 47)], ia (rA 28) (rK9 28) 11 nw9, ia (rA 9) (rK9 9) 352000 oc9, ia (rA 8) (rK9 8) 8 (fun i => nI (om i)), ia (rA 12) (rK9 12) 32000 (fun i => nI (or9 i))] ∧ nw U)) (va_Qi (fun (r : Int32) (_ : Unit) => r = -1) (fun _ t9 => va_P (dC, dI) classes [oc ra 8 [.int (nI T), .int (nI Ac), .ref (rA 2), .ref (rA 3), .ref (rA 4), .ref (rA 5), .ref (rA 6), .ref (rA 7), .ref (rA 8), .ref (rA 9), .ref (rA 10), .ref (rA 11), .ref (rA 12), .ref (rA 13), .int ir, .ref (rA 15), .ref (rA 16), .ref (rA 17), .ref (rA 18), .int (nI md), .int (nI wd), .ref (rA 21), .ref (rA 22), .ref (rA 23), .int (nI mn), .ref (rA 25), .int (nI cb), .int mr, .ref (rA 28), .ref (rA 29), .ref (rA 30), .ref (rA 31), .ref (rA 32), .ref (rA 33), .ref (rA 34), .ref (rA 35), .int (nI ld), .int (nI gm), .ref (rA 38), .ref (rA 39), .ref (rA 40), .ref (rA 41), .ref (rA 42), .ref (rA 43), .ref (rA 44), .ref (rA 45), .int (nI my), .ref (rA 47)], ia (rA 28) (rK9 28) 11 nw9, ia (rA 9) (rK9 9) 352000 oc9, ia (rA 8) (rK9 8) 8 (fun i => nI (om i)), ia (rA 12) (rK9 12) 32000 (fun i => nI (or9 i))] t9.heap ∧ va_K (dC, dI) classes [] t9 ∧ va_D (va_A [oc ra 8 [.int (nI T), .int (nI Ac), .ref (rA 2), .ref (rA 3), .ref (rA 4), .ref (rA 5), .ref (rA 6), .ref (rA 7), .ref (rA 8), .ref (rA 9), .ref (rA 10), .ref (rA 11), .ref (rA 12), .ref (rA 13), .int ir, .ref (rA 15), .ref (rA 16), .ref (rA 17), .ref (rA 18), .int (nI md), .int (nI wd), .ref (rA 21), .ref (rA 22), .ref (rA 23), .int (nI mn), .ref (rA 25), .int (nI cb), .int mr, .ref (rA 28), .ref (rA 29), .ref (rA 30), .ref (rA 31), .ref (rA 32), .ref (rA 33), .ref (rA 34), .ref (rA 35), .int (nI ld), .int (nI gm), .ref (rA 38), .ref (rA 39), .ref (rA 40), .ref (rA 41), .ref (rA 42), .ref (rA 43), .ref (rA 44), .ref (rA 45), .int (nI my), .ref (rA 47)], ia (rA 28) (rK9 28) 11 nw9, ia (rA 9) (rK9 9) 352000 oc9, ia (rA 8) (rK9 8) 8 (fun i => nI (om i)), ia (rA 12) (rK9 12) 32000 (fun i => nI (or9 i))] sz) [oc ra 8 [.int (nI T), .int (nI Ac), .ref (rA 2), .ref (rA 3), .ref (rA 4), .ref (rA 5), .ref (rA 6), .ref (rA 7), .ref (rA 8), .ref (rA 9), .ref (rA 10), .ref (rA 11), .ref (rA 12), .ref (rA 13), .int ir, .ref (rA 15), .ref (rA 16), .ref (rA 17), .ref (rA 18), .int (nI md), .int (nI wd), .ref (rA 21), .ref (rA 22), .ref (rA 23), .int (nI mn), .ref (rA 25), .int (nI cb), .int mr, .ref (rA 28), .ref (rA 29), .ref (rA 30), .ref (rA 31), .ref (rA 32), .ref (rA 33), .ref (rA 34), .ref (rA 35), .int (nI ld), .int (nI gm), .ref (rA 38), .ref (rA 39), .ref (rA 40), .ref (rA 41), .ref (rA 42), .ref (rA 43), .ref (rA 44), .ref (rA 45), .int (nI my), .ref (rA 47)], ia (rA 28) (rK9 28) 11 nw9, ia (rA 9) (rK9 9) 352000 oc9, ia (rA 8) (rK9 8) 8 (fun i => nI (om i)), ia (rA 12) (rK9 12) 32000 (fun i => nI (or9 i))]) (va_A [oc ra 8 [.int (nI T), .int (nI Ac), .ref (rA 2), .ref (rA 3), .ref (rA 4), .ref (rA 5), .ref (rA 6), .ref (rA 7), .ref (rA 8), .ref (rA 9), .ref (rA 10), .ref (rA 11), .ref (rA 12), .ref (rA 13), .int ir, .ref (rA 15), .ref (rA 16), .ref (rA 17), .ref (rA 18), .int (nI md), .int (nI wd), .ref (rA 21), .ref (rA 22), .ref (rA 23), .int (nI mn), .ref (rA 25), .int (nI cb), .int mr, .ref (rA 28), .ref (rA 29), .ref (rA 30), .ref (rA 31), .ref (rA 32), .ref (rA 33), .ref (rA 34), .ref (rA 35), .int (nI ld), .int (nI gm), .ref (rA 38), .ref (rA 39), .ref (rA 40), .ref (rA 41), .ref (rA 42), .ref (rA 43), .ref (rA 44), .ref (rA 45), .int (nI my), .ref (rA 47)], ia (rA 28) (rK9 28) 11 nw9, ia (rA 9) (rK9 9) 352000 oc9, ia (rA 8) (rK9 8) 8 (fun i => nI (om i)), ia (rA 12) (rK9 12) 32000 (fun i => nI (or9 i))] sz)) 0 0 (va_A [oc ra 8 [.int (nI T), .int (nI Ac), .ref (rA 2), .ref (rA 3), .ref (rA 4), .ref (rA 5), .ref (rA 6), .ref (rA 7), .ref (rA 8), .ref (rA 9), .ref (rA 10), .ref (rA 11), .ref (rA 12), .ref (rA 13), .int ir, .ref (rA 15), .ref (rA 16), .ref (rA 17), .ref (rA 18), .int (nI md), .int (nI wd), .ref (rA 21), .ref (rA 22), .ref (rA 23), .int (nI mn), .ref (rA 25), .int (nI cb), .int mr, .ref (rA 28), .ref (rA 29), .ref (rA 30), .ref (rA 31), .ref (rA 32), .ref (rA 33), .ref (rA 34), .ref (rA 35), .int (nI ld), .int (nI gm), .ref (rA 38), .ref (rA 39), .ref (rA 40), .ref (rA 41), .ref (rA 42), .ref (rA 43), .ref (rA 44), .ref (rA 45), .int (nI my), .ref (rA 47)], ia (rA 28) (rK9 28) 11 nw9, ia (rA 9) (rK9 9) 352000 oc9, ia (rA 8) (rK9 8) 8 (fun i => nI (om i)), ia (rA 12) (rK9 12) 32000 (fun i => nI (or9 i))] sz) := by
  refine Met.ofW (cc := b_Ref_addOutcome) (maxL := 7) (ret := (some .int)) (by decide) rfl ?_
  intro p e0 s m args below meth c s₁ B hml hv
  obtain ⟨rfl, hsz, hP, hK, hD0, hn⟩ := hv
  have hx := B.exec
  have hb := B.bytes
  have hr := B.returns
  have hw := fun w (h : w ∈ wt) => atoms_spec (ws := w_Ref_addOutcome) B.pre w (List.mem_cons_of_mem _ h)
  have hown : s.vm.findClass R_Ref = some m.cls := findClass_of_methodNamed B.named
  have hlocks := B.notSynchronized
  subst hsz
  have hD1 := hD0.self (sz := s.heap.size)
  generalize hAe : va_A [oc ra 8 [.int (nI T), .int (nI Ac), .ref (rA 2), .ref (rA 3), .ref (rA 4), .ref (rA 5), .ref (rA 6), .ref (rA 7), .ref (rA 8), .ref (rA 9), .ref (rA 10), .ref (rA 11), .ref (rA 12), .ref (rA 13), .int ir, .ref (rA 15), .ref (rA 16), .ref (rA 17), .ref (rA 18), .int (nI md), .int (nI wd), .ref (rA 21), .ref (rA 22), .ref (rA 23), .int (nI mn), .ref (rA 25), .int (nI cb), .int mr, .ref (rA 28), .ref (rA 29), .ref (rA 30), .ref (rA 31), .ref (rA 32), .ref (rA 33), .ref (rA 34), .ref (rA 35), .int (nI ld), .int (nI gm), .ref (rA 38), .ref (rA 39), .ref (rA 40), .ref (rA 41), .ref (rA 42), .ref (rA 43), .ref (rA 44), .ref (rA 45), .int (nI my), .ref (rA 47)], ia (rA 28) (rK9 28) 11 nw9, ia (rA 9) (rK9 9) 352000 oc9, ia (rA 8) (rK9 8) 8 (fun i => nI (om i)), ia (rA 12) (rK9 12) 32000 (fun i => nI (or9 i))] s.heap.size = A at hD1 ⊢
  have hA : ∀ q : Nat, s.heap.size ≤ q → A q := fun q h => by rw [← hAe]; exact Or.inr h
  have hD : dd A [ra, (rA 28), (rA 9), (rA 8), (rA 12)] := dd_of hD1 rfl
  clear hAe hD0 hD1
  have hS : va_S A s.heap s.heap [] := va_S.rf
  replace hP : va_P (dC, dI) classes [oc ra 8 [.int (nI T), .int (nI Ac), .ref (rA 2), .ref (rA 3), .ref (rA 4), .ref (rA 5), .ref (rA 6), .ref (rA 7), .ref (rA 8), .ref (rA 9), .ref (rA 10), .ref (rA 11), .ref (rA 12), .ref (rA 13), .int ir, .ref (rA 15), .ref (rA 16), .ref (rA 17), .ref (rA 18), .int (nI md), .int (nI wd), .ref (rA 21), .ref (rA 22), .ref (rA 23), .int (nI mn), .ref (rA 25), .int (nI cb), .int mr, .ref (rA 28), .ref (rA 29), .ref (rA 30), .ref (rA 31), .ref (rA 32), .ref (rA 33), .ref (rA 34), .ref (rA 35), .int (nI ld), .int (nI gm), .ref (rA 38), .ref (rA 39), .ref (rA 40), .ref (rA 41), .ref (rA 42), .ref (rA 43), .ref (rA 44), .ref (rA 45), .int (nI my), .ref (rA 47)], ia (rA 28) (rK9 28) 11 nw9, ia (rA 9) (rK9 9) 352000 oc9, ia (rA 8) (rK9 8) 8 (fun i => nI (om i)), ia (rA 12) (rK9 12) 32000 (fun i => nI (or9 i))] s.heap := hP
  have hl := lv_entry ([.ref ra, .int (nI se)]) (n := 7) (Nat.le_of_ble_eq_true rfl)
  rw [lg_entry_eq]
  generalize (lg_sl ([.ref ra, .int (nI se)]) ++ List.replicate (7 - (lg_sl ([.ref ra, .int (nI se)])).length) Slot.unset).toArray = ls at hl ⊢
  replace hl : lv_has ls 7 [(0, .ref ra), (1, .int (nI se))] := hl
  refine lv_sipush (v := 4000) hx hb d_Ref_addOutcome_0 (by decide) ?_
  refine lv_iload_n hx hb d_Ref_addOutcome_3 rfl (lv_at hl 1 rfl) ?_
  refine lv_imul hx hb d_Ref_addOutcome_4 ?_
  refine tp_i (y := nI (4000 * se)) (by exact pk_mul 4000 se) ?_
  refine lv_istore_n (lv' := [(2, .int (nI (4000 * se))), (0, .ref ra), (1, .int (nI se))]) hx hb d_Ref_addOutcome_5 rfl hl (by decide) rfl ?_
  clear hl ls
  intro ls hl
  refine lv_iconst (v := 0) hx hb d_Ref_addOutcome_6 (by decide) ?_
  refine lv_istore_n (lv' := [(3, .int 0), (2, .int (nI (4000 * se))), (0, .ref ra), (1, .int (nI se))]) hx hb d_Ref_addOutcome_7 rfl hl (by decide) rfl ?_
  clear hl ls
  intro ls hl
  refine lv_aload_n hx hb d_Ref_addOutcome_8 rfl (lv_at hl 2 rfl) ?_
  refine va_get (D := (dC, dI)) (ci := 8) (v := .ref (rA 8)) (C := R_Ref) (T := F_Ref) (N := 48) hx hb hw i_Ref hown hK hP 0 rfl rfl 8 (by decide) (hw _ m_907) (fun _ h9 => h9) rfl d_Ref_addOutcome_9 ?_
  refine lv_iload_n hx hb d_Ref_addOutcome_12 rfl (lv_at hl 3 rfl) ?_
  refine va_iald (D := (dC, dI)) hx hb hK hP 3 2 rfl rfl (i := nI se) (pk_in se 8 (by omega)) d_Ref_addOutcome_13 ?_
  refine tp_i (y := nI (om se)) (by rw [show (nI se : Int32).toNatClampNeg = se from pk_cl se]) ?_
  refine tp_i (y := nI n) (by rw [hom]) ?_
  refine lv_istore (lv' := [(4, .int (nI n)), (3, .int 0), (2, .int (nI (4000 * se))), (0, .ref ra), (1, .int (nI se))]) hx hb d_Ref_addOutcome_14 hl (by decide) rfl ?_
  clear hl ls
  intro ls hl
  replace hl : lv_has ls 7 [(4, .int (nI n)), (3, .int (nI 0)), (2, .int (nI (4000 * se))), (0, .ref ra), (1, .int (nI se))] := hl
  refine lp_w (fun mu H locs ls => ∃ lo hi, lo ≤ p9 ∧ p9 ≤ hi ∧ hi ≤ n ∧ mu = hi - lo ∧ va_P (dC, dI) classes [oc ra 8 [.int (nI T), .int (nI Ac), .ref (rA 2), .ref (rA 3), .ref (rA 4), .ref (rA 5), .ref (rA 6), .ref (rA 7), .ref (rA 8), .ref (rA 9), .ref (rA 10), .ref (rA 11), .ref (rA 12), .ref (rA 13), .int ir, .ref (rA 15), .ref (rA 16), .ref (rA 17), .ref (rA 18), .int (nI md), .int (nI wd), .ref (rA 21), .ref (rA 22), .ref (rA 23), .int (nI mn), .ref (rA 25), .int (nI cb), .int mr, .ref (rA 28), .ref (rA 29), .ref (rA 30), .ref (rA 31), .ref (rA 32), .ref (rA 33), .ref (rA 34), .ref (rA 35), .int (nI ld), .int (nI gm), .ref (rA 38), .ref (rA 39), .ref (rA 40), .ref (rA 41), .ref (rA 42), .ref (rA 43), .ref (rA 44), .ref (rA 45), .int (nI my), .ref (rA 47)], ia (rA 28) (rK9 28) 11 nw9, ia (rA 9) (rK9 9) 352000 oc9, ia (rA 8) (rK9 8) 8 (fun i => nI (om i)), ia (rA 12) (rK9 12) 32000 (fun i => nI (or9 i))] H ∧ va_S A s.heap H locs ∧ lv_has ls 7 [(4, .int (nI hi)), (3, .int (nI lo)), (2, .int (nI (4000 * se))), (0, .ref ra), (1, .int (nI se))]) n ⟨0, n, Nat.zero_le _, hp9, Nat.le_refl _, rfl, hP, hS, hl⟩ ?_
  intro mu H locs ls hI ih
  obtain ⟨lo, hi, u1, u2, u3, u4, hP, hS, hl⟩ := hI
  refine lv_iload_n hx hb d_Ref_addOutcome_16 rfl (lv_at hl 1 rfl) ?_
  refine lv_iload hx hb d_Ref_addOutcome_17 (lv_at hl 0 rfl) ?_
  refine lv_icmp_ge (tgt := 62) hx hb d_Ref_addOutcome_19 (by decide) (fun c1 => ?_) (fun c1 => ?_)
  · skip
    have hc1 : hi ≤ lo := (nI_leI (a := hi) (b := lo) (by omega) (by omega)).mp c1
    have e1 : lo = p9 := by omega
    rw [e1] at hl
    refine tp_pc (pc' := 62) (by rfl) ?_
    refine lv_aload_n hx hb d_Ref_addOutcome_62 rfl (lv_at hl 3 rfl) ?_
    refine va_get (D := (dC, dI)) (ci := 8) (v := .ref (rA 8)) (C := R_Ref) (T := F_Ref) (N := 48) hx hb hw i_Ref hown hK hP 0 rfl rfl 8 (by decide) (hw _ m_907) (fun _ h9 => h9) rfl d_Ref_addOutcome_63 ?_
    refine lv_iload_n hx hb d_Ref_addOutcome_66 rfl (lv_at hl 4 rfl) ?_
    refine va_iald (D := (dC, dI)) hx hb hK hP 3 2 rfl rfl (i := nI se) (pk_in se 8 (by omega)) d_Ref_addOutcome_67 ?_
    refine tp_i (y := nI (om se)) (by rw [show (nI se : Int32).toNatClampNeg = se from pk_cl se]) ?_
    refine tp_i (y := nI n) (by rw [hom]) ?_
    refine lv_istore (lv' := [(5, .int (nI n)), (4, .int (nI hi)), (3, .int (nI p9)), (2, .int (nI (4000 * se))), (0, .ref ra), (1, .int (nI se))]) hx hb d_Ref_addOutcome_68 hl (by decide) rfl ?_
    clear hl ls
    intro ls hl
    refine lv_iload_n hx hb d_Ref_addOutcome_70 rfl (lv_at hl 2 rfl) ?_
    refine lv_iload hx hb d_Ref_addOutcome_71 (lv_at hl 0 rfl) ?_
    refine lv_icmp_ge (tgt := 92) hx hb d_Ref_addOutcome_73 (by decide) (fun c2 => ?_) (fun c2 => ?_)
    · skip
      have hc2 : n ≤ p9 := (nI_leI (a := n) (b := p9) (by omega) (by omega)).mp c2
      refine tp_pc (pc' := 92) (by rfl) ?_
      refine lv_iload hx hb d_Ref_addOutcome_92 (lv_at hl 0 rfl) ?_
      refine lv_sipush (v := 4000) hx hb d_Ref_addOutcome_94 (by decide) ?_
      refine lv_icmp_ne (tgt := 102) hx hb d_Ref_addOutcome_97 (by decide) (fun c9 => absurd ((nI_eq (a := n) (b := 4000) (by omega) (by omega)).mpr hn4) c9) (fun c9 => ?_)
      refine tp_pc (pc' := 100) (by rfl) ?_
      refine lv_iconst (v := (-1)) hx hb d_Ref_addOutcome_100 (by decide) ?_
      obtain ⟨hP9, hD9, -⟩ := cut3 (wc := [oc ra 8 [.int (nI T), .int (nI Ac), .ref (rA 2), .ref (rA 3), .ref (rA 4), .ref (rA 5), .ref (rA 6), .ref (rA 7), .ref (rA 8), .ref (rA 9), .ref (rA 10), .ref (rA 11), .ref (rA 12), .ref (rA 13), .int ir, .ref (rA 15), .ref (rA 16), .ref (rA 17), .ref (rA 18), .int (nI md), .int (nI wd), .ref (rA 21), .ref (rA 22), .ref (rA 23), .int (nI mn), .ref (rA 25), .int (nI cb), .int mr, .ref (rA 28), .ref (rA 29), .ref (rA 30), .ref (rA 31), .ref (rA 32), .ref (rA 33), .ref (rA 34), .ref (rA 35), .int (nI ld), .int (nI gm), .ref (rA 38), .ref (rA 39), .ref (rA 40), .ref (rA 41), .ref (rA 42), .ref (rA 43), .ref (rA 44), .ref (rA 45), .int (nI my), .ref (rA 47)], ia (rA 28) (rK9 28) 11 nw9, ia (rA 9) (rK9 9) 352000 oc9, ia (rA 8) (rK9 8) 8 (fun i => nI (om i)), ia (rA 12) (rK9 12) 32000 (fun i => nI (or9 i))]) hP hD rfl hS hA [0, 1, 2, 3, 4] (by decide +kernel) rfl
      have hK9 := hK.sub (tys' := []) [] rfl
      refine W.widen (k := 0) (n := 0) (by exact Nat.le_of_ble_eq_true rfl) (by exact Nat.le_of_ble_eq_true rfl) ?_
      exact W.iret (v := (-1)) hx hb hr (fun t9 ht9 hW => ⟨⟨(-1), (), rfl, rfl, by rw [ht9]; exact hP9, va_K.moved hW.alike hK9, hD9⟩, hS.F ht9⟩) hS.2.2 d_Ref_addOutcome_101
    · skip
      have hc2 : ¬ (n ≤ p9) := fun q9 => c2 ((nI_leI (a := n) (b := p9) (by omega) (by omega)).mpr q9)
      refine tp_pc (pc' := 76) (by rfl) ?_
      refine lv_aload_n hx hb d_Ref_addOutcome_76 rfl (lv_at hl 4 rfl) ?_
      refine lv_iload_n hx hb d_Ref_addOutcome_77 rfl (lv_at hl 5 rfl) ?_
      refine lv_aload_n hx hb d_Ref_addOutcome_78 rfl (lv_at hl 4 rfl) ?_
      refine va_get (D := (dC, dI)) (ci := 8) (v := .ref (rA 12)) (C := R_Ref) (T := F_Ref) (N := 48) hx hb hw i_Ref hown hK hP 0 rfl rfl 12 (by decide) (hw _ m_911) (fun _ h9 => h9) rfl d_Ref_addOutcome_79 ?_
      refine lv_iload_n hx hb d_Ref_addOutcome_82 rfl (lv_at hl 3 rfl) ?_
      refine lv_iload_n hx hb d_Ref_addOutcome_83 rfl (lv_at hl 2 rfl) ?_
      refine lv_iadd hx hb d_Ref_addOutcome_84 ?_
      refine tp_i (y := nI (4000 * se + p9)) (by exact nI_add (4000 * se) p9) ?_
      refine va_iald (D := (dC, dI)) hx hb hK hP 4 3 rfl rfl (i := nI (4000 * se + p9)) (pk_in (4000 * se + p9) 32000 (by omega)) d_Ref_addOutcome_85 ?_
      refine tp_i (y := nI (or9 (4000 * se + p9))) (by rw [show (nI (4000 * se + p9) : Int32).toNatClampNeg = 4000 * se + p9 from pk_cl (4000 * se + p9)]) ?_
      obtain ⟨hPc, hDc, hFc⟩ := cut3 (wc := [oc ra 8 [.int (nI T), .int (nI Ac), .ref (rA 2), .ref (rA 3), .ref (rA 4), .ref (rA 5), .ref (rA 6), .ref (rA 7), .ref (rA 8), .ref (rA 9), .ref (rA 10), .ref (rA 11), .ref (rA 12), .ref (rA 13), .int ir, .ref (rA 15), .ref (rA 16), .ref (rA 17), .ref (rA 18), .int (nI md), .int (nI wd), .ref (rA 21), .ref (rA 22), .ref (rA 23), .int (nI mn), .ref (rA 25), .int (nI cb), .int mr, .ref (rA 28), .ref (rA 29), .ref (rA 30), .ref (rA 31), .ref (rA 32), .ref (rA 33), .ref (rA 34), .ref (rA 35), .int (nI ld), .int (nI gm), .ref (rA 38), .ref (rA 39), .ref (rA 40), .ref (rA 41), .ref (rA 42), .ref (rA 43), .ref (rA 44), .ref (rA 45), .int (nI my), .ref (rA 47)], ia (rA 28) (rK9 28) 11 nw9, ia (rA 9) (rK9 9) 352000 oc9]) hP hD rfl hS hA [0, 1, 2] (by decide +kernel) rfl
      have hKc := hK.sub (tys' := [((rK9 28), .int), ((rK9 9), .short)]) [0, 1] rfl
      refine va_calli (va_runV (As := [.int (nI se), .int (nI (or9 (4000 * se + p9)))]) (rest := []) ⟨hx, hb, hml, hown, hw⟩ (gen_Ref_against l dC dI ra rA rK9 T Ac md wd mn cb ld gm my ir mr se (or9 (4000 * se + p9)) nw9 oc9 hse (by have := hor (p9) (by omega); omega) H.size) (cw_V 2 hw g_Ref_against rfl rfl rfl (hw _ m_109) (hw _ m_1166) (hw _ m_1168) (hw _ m_76) (by decide +kernel) ⟨Nat.le_of_ble_eq_true rfl, Nat.le_of_ble_eq_true rfl⟩) ⟨fun a U g mk q => by obtain ⟨q0, q1, qP, qK, qD, qN⟩ := q; exact ⟨q0, q1, qP, va_K.moved (u := U) (U := U.calling g mk a) (Vm.Alike.refl U.vm) qK, qD, nw_call qN⟩, va_recv hKc hPc (ci := 8) (q0 := 0) rfl rfl, fun U hU hW => ⟨rfl, by rw [hU], by rw [hU]; exact hPc, va_K.moved hW.alike hKc, hDc.weaken (fun _ _ _ _ => trivial), nw_warm hW hn⟩⟩ rfl rfl hl.1 rfl (lv_room (Nat.le_of_ble_eq_true rfl)) d_Ref_addOutcome_86 ⟨Nat.le_of_ble_eq_true rfl, Nat.le_of_ble_eq_true rfl⟩) hS (fun q _ h => hFc q h) hFc ?_
      intro r_1 u t9 H1 locs1 ht9 hvm hw1 hB hz1 hk1 hS1
      obtain ⟨hP1, hK1, hD1⟩ := hB
      rw [ht9] at hP1
      replace hK1 := va_K.moved hvm.symm hK1
      have hPD := join3 hP hD rfl [0, 1, 2] [3, 4] rfl (by rfl) (by decide +kernel) (by decide +kernel) hk1 hFc hP1 hD1
      replace hK : va_K (dC, dI) classes [((rK9 28), .int), ((rK9 9), .short), ((rK9 8), .int), ((rK9 12), .int)] s := hK.app hK1
      clear hP1 hK1 hD1 hk1 hz1 hFc hKc hDc hPc hvm ht9 hP hS t9 locs H
      have hP : va_P (dC, dI) classes [ia (rA 8) (rK9 8) 8 (fun i => nI (om i)), ia (rA 12) (rK9 12) 32000 (fun i => nI (or9 i)), oc ra 8 [.int (nI T), .int (nI Ac), .ref (rA 2), .ref (rA 3), .ref (rA 4), .ref (rA 5), .ref (rA 6), .ref (rA 7), .ref (rA 8), .ref (rA 9), .ref (rA 10), .ref (rA 11), .ref (rA 12), .ref (rA 13), .int ir, .ref (rA 15), .ref (rA 16), .ref (rA 17), .ref (rA 18), .int (nI md), .int (nI wd), .ref (rA 21), .ref (rA 22), .ref (rA 23), .int (nI mn), .ref (rA 25), .int (nI cb), .int mr, .ref (rA 28), .ref (rA 29), .ref (rA 30), .ref (rA 31), .ref (rA 32), .ref (rA 33), .ref (rA 34), .ref (rA 35), .int (nI ld), .int (nI gm), .ref (rA 38), .ref (rA 39), .ref (rA 40), .ref (rA 41), .ref (rA 42), .ref (rA 43), .ref (rA 44), .ref (rA 45), .int (nI my), .ref (rA 47)], ia (rA 28) (rK9 28) 11 nw9, ia (rA 9) (rK9 9) 352000 oc9] H1 := hPD.1
      replace hD : dd A [(rA 8), (rA 12), ra, (rA 28), (rA 9)] := dd_of hPD.2 rfl
      clear hPD
      revert H1 locs1
      intro H locs hS hP
      refine tp_i (y := agF nw9 (fun j => oc9 (11 * (4000 * se + or9 (4000 * se + p9)) + j)) 11 0) (hw1) ?_
      clear hw1 r_1 u
      refine tp_pc (pc' := 89) (by rfl) ?_
      refine lv_if_eq (tgt := 100) hx hb d_Ref_addOutcome_89 (by decide) (fun c3 => ?_) (fun c3 => ?_)
      · skip
        refine tp_pc (pc' := 100) (by rfl) ?_
        refine lv_iconst (v := (-1)) hx hb d_Ref_addOutcome_100 (by decide) ?_
        obtain ⟨hP9, hD9, -⟩ := cut3 (wc := [oc ra 8 [.int (nI T), .int (nI Ac), .ref (rA 2), .ref (rA 3), .ref (rA 4), .ref (rA 5), .ref (rA 6), .ref (rA 7), .ref (rA 8), .ref (rA 9), .ref (rA 10), .ref (rA 11), .ref (rA 12), .ref (rA 13), .int ir, .ref (rA 15), .ref (rA 16), .ref (rA 17), .ref (rA 18), .int (nI md), .int (nI wd), .ref (rA 21), .ref (rA 22), .ref (rA 23), .int (nI mn), .ref (rA 25), .int (nI cb), .int mr, .ref (rA 28), .ref (rA 29), .ref (rA 30), .ref (rA 31), .ref (rA 32), .ref (rA 33), .ref (rA 34), .ref (rA 35), .int (nI ld), .int (nI gm), .ref (rA 38), .ref (rA 39), .ref (rA 40), .ref (rA 41), .ref (rA 42), .ref (rA 43), .ref (rA 44), .ref (rA 45), .int (nI my), .ref (rA 47)], ia (rA 28) (rK9 28) 11 nw9, ia (rA 9) (rK9 9) 352000 oc9, ia (rA 8) (rK9 8) 8 (fun i => nI (om i)), ia (rA 12) (rK9 12) 32000 (fun i => nI (or9 i))]) hP hD rfl hS hA [2, 3, 4, 0, 1] (by decide +kernel) rfl
        have hK9 := hK.sub (tys' := []) [] rfl
        refine W.widen (k := 0) (n := 0) (by exact Nat.le_of_ble_eq_true rfl) (by exact Nat.le_of_ble_eq_true rfl) ?_
        exact W.iret (v := (-1)) hx hb hr (fun t9 ht9 hW => ⟨⟨(-1), (), rfl, rfl, by rw [ht9]; exact hP9, va_K.moved hW.alike hK9, hD9⟩, hS.F ht9⟩) hS.2.2 d_Ref_addOutcome_101
      · skip
        refine tp_pc (pc' := 92) (by rfl) ?_
        refine lv_iload hx hb d_Ref_addOutcome_92 (lv_at hl 0 rfl) ?_
        refine lv_sipush (v := 4000) hx hb d_Ref_addOutcome_94 (by decide) ?_
        refine lv_icmp_ne (tgt := 102) hx hb d_Ref_addOutcome_97 (by decide) (fun c9 => absurd ((nI_eq (a := n) (b := 4000) (by omega) (by omega)).mpr hn4) c9) (fun c9 => ?_)
        refine tp_pc (pc' := 100) (by rfl) ?_
        refine lv_iconst (v := (-1)) hx hb d_Ref_addOutcome_100 (by decide) ?_
        obtain ⟨hP9, hD9, -⟩ := cut3 (wc := [oc ra 8 [.int (nI T), .int (nI Ac), .ref (rA 2), .ref (rA 3), .ref (rA 4), .ref (rA 5), .ref (rA 6), .ref (rA 7), .ref (rA 8), .ref (rA 9), .ref (rA 10), .ref (rA 11), .ref (rA 12), .ref (rA 13), .int ir, .ref (rA 15), .ref (rA 16), .ref (rA 17), .ref (rA 18), .int (nI md), .int (nI wd), .ref (rA 21), .ref (rA 22), .ref (rA 23), .int (nI mn), .ref (rA 25), .int (nI cb), .int mr, .ref (rA 28), .ref (rA 29), .ref (rA 30), .ref (rA 31), .ref (rA 32), .ref (rA 33), .ref (rA 34), .ref (rA 35), .int (nI ld), .int (nI gm), .ref (rA 38), .ref (rA 39), .ref (rA 40), .ref (rA 41), .ref (rA 42), .ref (rA 43), .ref (rA 44), .ref (rA 45), .int (nI my), .ref (rA 47)], ia (rA 28) (rK9 28) 11 nw9, ia (rA 9) (rK9 9) 352000 oc9, ia (rA 8) (rK9 8) 8 (fun i => nI (om i)), ia (rA 12) (rK9 12) 32000 (fun i => nI (or9 i))]) hP hD rfl hS hA [2, 3, 4, 0, 1] (by decide +kernel) rfl
        have hK9 := hK.sub (tys' := []) [] rfl
        refine W.widen (k := 0) (n := 0) (by exact Nat.le_of_ble_eq_true rfl) (by exact Nat.le_of_ble_eq_true rfl) ?_
        exact W.iret (v := (-1)) hx hb hr (fun t9 ht9 hW => ⟨⟨(-1), (), rfl, rfl, by rw [ht9]; exact hP9, va_K.moved hW.alike hK9, hD9⟩, hS.F ht9⟩) hS.2.2 d_Ref_addOutcome_101
  · skip
    have hc1 : ¬ (hi ≤ lo) := fun q9 => c1 ((nI_leI (a := hi) (b := lo) (by omega) (by omega)).mpr q9)
    refine tp_pc (pc' := 22) (by rfl) ?_
    refine lv_iload_n hx hb d_Ref_addOutcome_22 rfl (lv_at hl 1 rfl) ?_
    refine lv_iload hx hb d_Ref_addOutcome_23 (lv_at hl 0 rfl) ?_
    refine lv_iadd hx hb d_Ref_addOutcome_25 ?_
    refine tp_i (y := nI (lo + hi)) (by exact nI_add lo hi) ?_
    refine lv_iconst (v := 2) hx hb d_Ref_addOutcome_26 (by decide) ?_
    refine lv_idiv hx hb d_Ref_addOutcome_27 (by decide) ?_
    obtain ⟨mi, hmi⟩ : ∃ mi, mi = (lo + hi) / 2 := ⟨_, rfl⟩
    have b1x : lo ≤ mi ∧ mi < hi := by omega
    refine tp_i (y := nI mi) (by rw [hmi]; exact pk_div (by omega) (by decide) (by decide)) ?_
    refine lv_istore (lv' := [(5, .int (nI mi)), (4, .int (nI hi)), (3, .int (nI lo)), (2, .int (nI (4000 * se))), (0, .ref ra), (1, .int (nI se))]) hx hb d_Ref_addOutcome_28 hl (by decide) rfl ?_
    clear hl ls
    intro ls hl
    refine lv_aload_n hx hb d_Ref_addOutcome_30 rfl (lv_at hl 4 rfl) ?_
    refine lv_iload_n hx hb d_Ref_addOutcome_31 rfl (lv_at hl 5 rfl) ?_
    refine lv_aload_n hx hb d_Ref_addOutcome_32 rfl (lv_at hl 4 rfl) ?_
    refine va_get (D := (dC, dI)) (ci := 8) (v := .ref (rA 12)) (C := R_Ref) (T := F_Ref) (N := 48) hx hb hw i_Ref hown hK hP 0 rfl rfl 12 (by decide) (hw _ m_911) (fun _ h9 => h9) rfl d_Ref_addOutcome_33 ?_
    refine lv_iload_n hx hb d_Ref_addOutcome_36 rfl (lv_at hl 3 rfl) ?_
    refine lv_iload hx hb d_Ref_addOutcome_37 (lv_at hl 0 rfl) ?_
    refine lv_iadd hx hb d_Ref_addOutcome_39 ?_
    refine tp_i (y := nI (4000 * se + mi)) (by exact nI_add (4000 * se) mi) ?_
    refine va_iald (D := (dC, dI)) hx hb hK hP 4 3 rfl rfl (i := nI (4000 * se + mi)) (pk_in (4000 * se + mi) 32000 (by omega)) d_Ref_addOutcome_40 ?_
    refine tp_i (y := nI (or9 (4000 * se + mi))) (by rw [show (nI (4000 * se + mi) : Int32).toNatClampNeg = 4000 * se + mi from pk_cl (4000 * se + mi)]) ?_
    obtain ⟨hPc, hDc, hFc⟩ := cut3 (wc := [oc ra 8 [.int (nI T), .int (nI Ac), .ref (rA 2), .ref (rA 3), .ref (rA 4), .ref (rA 5), .ref (rA 6), .ref (rA 7), .ref (rA 8), .ref (rA 9), .ref (rA 10), .ref (rA 11), .ref (rA 12), .ref (rA 13), .int ir, .ref (rA 15), .ref (rA 16), .ref (rA 17), .ref (rA 18), .int (nI md), .int (nI wd), .ref (rA 21), .ref (rA 22), .ref (rA 23), .int (nI mn), .ref (rA 25), .int (nI cb), .int mr, .ref (rA 28), .ref (rA 29), .ref (rA 30), .ref (rA 31), .ref (rA 32), .ref (rA 33), .ref (rA 34), .ref (rA 35), .int (nI ld), .int (nI gm), .ref (rA 38), .ref (rA 39), .ref (rA 40), .ref (rA 41), .ref (rA 42), .ref (rA 43), .ref (rA 44), .ref (rA 45), .int (nI my), .ref (rA 47)], ia (rA 28) (rK9 28) 11 nw9, ia (rA 9) (rK9 9) 352000 oc9]) hP hD rfl hS hA [0, 1, 2] (by decide +kernel) rfl
    have hKc := hK.sub (tys' := [((rK9 28), .int), ((rK9 9), .short)]) [0, 1] rfl
    refine va_calli (va_runV (As := [.int (nI se), .int (nI (or9 (4000 * se + mi)))]) (rest := []) ⟨hx, hb, hml, hown, hw⟩ (gen_Ref_against l dC dI ra rA rK9 T Ac md wd mn cb ld gm my ir mr se (or9 (4000 * se + mi)) nw9 oc9 hse (by have := hor (mi) (by omega); omega) H.size) (cw_V 2 hw g_Ref_against rfl rfl rfl (hw _ m_109) (hw _ m_1166) (hw _ m_1168) (hw _ m_76) (by decide +kernel) ⟨Nat.le_of_ble_eq_true rfl, Nat.le_of_ble_eq_true rfl⟩) ⟨fun a U g mk q => by obtain ⟨q0, q1, qP, qK, qD, qN⟩ := q; exact ⟨q0, q1, qP, va_K.moved (u := U) (U := U.calling g mk a) (Vm.Alike.refl U.vm) qK, qD, nw_call qN⟩, va_recv hKc hPc (ci := 8) (q0 := 0) rfl rfl, fun U hU hW => ⟨rfl, by rw [hU], by rw [hU]; exact hPc, va_K.moved hW.alike hKc, hDc.weaken (fun _ _ _ _ => trivial), nw_warm hW hn⟩⟩ rfl rfl hl.1 rfl (lv_room (Nat.le_of_ble_eq_true rfl)) d_Ref_addOutcome_41 ⟨Nat.le_of_ble_eq_true rfl, Nat.le_of_ble_eq_true rfl⟩) hS (fun q _ h => hFc q h) hFc ?_
    intro r_2 u t9 H1 locs1 ht9 hvm hw1 hB hz1 hk1 hS1
    obtain ⟨hP1, hK1, hD1⟩ := hB
    rw [ht9] at hP1
    replace hK1 := va_K.moved hvm.symm hK1
    have hPD := join3 hP hD rfl [0, 1, 2] [3, 4] rfl (by rfl) (by decide +kernel) (by decide +kernel) hk1 hFc hP1 hD1
    replace hK : va_K (dC, dI) classes [((rK9 28), .int), ((rK9 9), .short), ((rK9 8), .int), ((rK9 12), .int)] s := hK.app hK1
    clear hP1 hK1 hD1 hk1 hz1 hFc hKc hDc hPc hvm ht9 hP hS t9 locs H
    have hP : va_P (dC, dI) classes [ia (rA 8) (rK9 8) 8 (fun i => nI (om i)), ia (rA 12) (rK9 12) 32000 (fun i => nI (or9 i)), oc ra 8 [.int (nI T), .int (nI Ac), .ref (rA 2), .ref (rA 3), .ref (rA 4), .ref (rA 5), .ref (rA 6), .ref (rA 7), .ref (rA 8), .ref (rA 9), .ref (rA 10), .ref (rA 11), .ref (rA 12), .ref (rA 13), .int ir, .ref (rA 15), .ref (rA 16), .ref (rA 17), .ref (rA 18), .int (nI md), .int (nI wd), .ref (rA 21), .ref (rA 22), .ref (rA 23), .int (nI mn), .ref (rA 25), .int (nI cb), .int mr, .ref (rA 28), .ref (rA 29), .ref (rA 30), .ref (rA 31), .ref (rA 32), .ref (rA 33), .ref (rA 34), .ref (rA 35), .int (nI ld), .int (nI gm), .ref (rA 38), .ref (rA 39), .ref (rA 40), .ref (rA 41), .ref (rA 42), .ref (rA 43), .ref (rA 44), .ref (rA 45), .int (nI my), .ref (rA 47)], ia (rA 28) (rK9 28) 11 nw9, ia (rA 9) (rK9 9) 352000 oc9] H1 := hPD.1
    replace hD : dd A [(rA 8), (rA 12), ra, (rA 28), (rA 9)] := dd_of hPD.2 rfl
    clear hPD
    revert H1 locs1
    intro H locs hS hP
    refine tp_i (y := agF nw9 (fun j => oc9 (11 * (4000 * se + or9 (4000 * se + mi)) + j)) 11 0) (hw1) ?_
    clear hw1 r_2 u
    refine tp_pc (pc' := 44) (by rfl) ?_
    refine lv_if_le (tgt := 55) hx hb d_Ref_addOutcome_44 (by decide) (fun c3 => ?_) (fun c3 => ?_)
    · skip
      have g1 : p9 ≤ mi := Nat.le_of_not_lt fun q => absurd (h1 mi q) (by rw [i_lt]; rw [i_le] at c3; omega)
      refine tp_pc (pc' := 55) (by rfl) ?_
      refine lv_iload hx hb d_Ref_addOutcome_55 (lv_at hl 0 rfl) ?_
      refine lv_istore (lv' := [(4, .int (nI mi)), (5, .int (nI mi)), (3, .int (nI lo)), (2, .int (nI (4000 * se))), (0, .ref ra), (1, .int (nI se))]) hx hb d_Ref_addOutcome_57 hl (by decide) rfl ?_
      clear hl ls
      intro ls hl
      refine lv_goto (tgt := 16) hx hb d_Ref_addOutcome_59 (by decide) ?_
      refine tp_pc (pc' := 16) (by rfl) ?_
      obtain ⟨hP8, -, -⟩ := cut3 (wc := [oc ra 8 [.int (nI T), .int (nI Ac), .ref (rA 2), .ref (rA 3), .ref (rA 4), .ref (rA 5), .ref (rA 6), .ref (rA 7), .ref (rA 8), .ref (rA 9), .ref (rA 10), .ref (rA 11), .ref (rA 12), .ref (rA 13), .int ir, .ref (rA 15), .ref (rA 16), .ref (rA 17), .ref (rA 18), .int (nI md), .int (nI wd), .ref (rA 21), .ref (rA 22), .ref (rA 23), .int (nI mn), .ref (rA 25), .int (nI cb), .int mr, .ref (rA 28), .ref (rA 29), .ref (rA 30), .ref (rA 31), .ref (rA 32), .ref (rA 33), .ref (rA 34), .ref (rA 35), .int (nI ld), .int (nI gm), .ref (rA 38), .ref (rA 39), .ref (rA 40), .ref (rA 41), .ref (rA 42), .ref (rA 43), .ref (rA 44), .ref (rA 45), .int (nI my), .ref (rA 47)], ia (rA 28) (rK9 28) 11 nw9, ia (rA 9) (rK9 9) 352000 oc9, ia (rA 8) (rK9 8) 8 (fun i => nI (om i)), ia (rA 12) (rK9 12) 32000 (fun i => nI (or9 i))]) hP hD rfl hS hA [2, 3, 4, 0, 1] (by decide +kernel) rfl
      exact ih (mi - (lo)) (by omega) _ _ _ ⟨lo, mi, u1, g1, by omega, rfl, hP8, hS, lv_sub hl [0, 2, 3, 4, 5] rfl⟩
    · skip
      have g1 : mi < p9 := Nat.lt_of_not_le fun q => absurd (show 0 < agF nw9 (fun j => oc9 (11 * (4000 * se + or9 (4000 * se + mi)) + j)) 11 0 from by rw [i_lt]; rw [i_le] at c3; omega) (h2 mi q (by omega))
      refine tp_pc (pc' := 47) (by rfl) ?_
      refine lv_iload hx hb d_Ref_addOutcome_47 (lv_at hl 0 rfl) ?_
      refine lv_iconst (v := 1) hx hb d_Ref_addOutcome_49 (by decide) ?_
      refine lv_iadd hx hb d_Ref_addOutcome_50 ?_
      refine tp_i (y := nI (mi + 1)) (by exact nI_add mi 1) ?_
      refine lv_istore_n (lv' := [(3, .int (nI (mi + 1))), (5, .int (nI mi)), (4, .int (nI hi)), (2, .int (nI (4000 * se))), (0, .ref ra), (1, .int (nI se))]) hx hb d_Ref_addOutcome_51 rfl hl (by decide) rfl ?_
      clear hl ls
      intro ls hl
      refine lv_goto (tgt := 59) hx hb d_Ref_addOutcome_52 (by decide) ?_
      refine tp_pc (pc' := 59) (by rfl) ?_
      refine lv_goto (tgt := 16) hx hb d_Ref_addOutcome_59 (by decide) ?_
      refine tp_pc (pc' := 16) (by rfl) ?_
      obtain ⟨hP8, -, -⟩ := cut3 (wc := [oc ra 8 [.int (nI T), .int (nI Ac), .ref (rA 2), .ref (rA 3), .ref (rA 4), .ref (rA 5), .ref (rA 6), .ref (rA 7), .ref (rA 8), .ref (rA 9), .ref (rA 10), .ref (rA 11), .ref (rA 12), .ref (rA 13), .int ir, .ref (rA 15), .ref (rA 16), .ref (rA 17), .ref (rA 18), .int (nI md), .int (nI wd), .ref (rA 21), .ref (rA 22), .ref (rA 23), .int (nI mn), .ref (rA 25), .int (nI cb), .int mr, .ref (rA 28), .ref (rA 29), .ref (rA 30), .ref (rA 31), .ref (rA 32), .ref (rA 33), .ref (rA 34), .ref (rA 35), .int (nI ld), .int (nI gm), .ref (rA 38), .ref (rA 39), .ref (rA 40), .ref (rA 41), .ref (rA 42), .ref (rA 43), .ref (rA 44), .ref (rA 45), .int (nI my), .ref (rA 47)], ia (rA 28) (rK9 28) 11 nw9, ia (rA 9) (rK9 9) 352000 oc9, ia (rA 8) (rK9 8) 8 (fun i => nI (om i)), ia (rA 12) (rK9 12) 32000 (fun i => nI (or9 i))]) hP hD rfl hS hA [2, 3, 4, 0, 1] (by decide +kernel) rfl
      exact ih (hi - (mi + 1)) (by omega) _ _ _ ⟨mi + 1, hi, g1, u2, u3, rfl, hP8, hS, lv_sub hl [2, 0, 3, 4, 5] rfl⟩
set_option maxHeartbeats 4000000 in
set_option maxRecDepth 100000 in
theorem gen_Ref_ends_bf (l : Launch) (dC : Nat → ClassId) (dI : Nat → Nat → Nat) (ra : Nat) (rA : Nat → Nat) (rK9 : Nat → ClassId) (T Ac md wd mn cb ld gm my : Nat) (ir mr : Int32) (dp n p9 : Nat) (sf nw9 nv oc9 wi sp9 : Nat → Int32) (om or9 ws zz la : Nat → Nat) (hmd : md < 3) (hv2 : ∀ x, x < 3 → nv (8 + x) = sf (12 + x)) (hdp : dp ≤ 16) (hv1 : ∀ k, k < 8 → nv k = sf (4 + k)) (hn4 : n = 4000) (hom : om md = n) (hor : ∀ i, i < n → or9 (4000 * md + i) < n) (hp9 : p9 ≤ n) (h1 : ∀ i, i < p9 → 0 < agF nv (fun j => oc9 (11 * (4000 * md + or9 (4000 * md + i)) + j)) 11 0) (h2 : ∀ i, p9 ≤ i → i < n → ¬ 0 < agF nv (fun j => oc9 (11 * (4000 * md + or9 (4000 * md + i)) + j)) 11 0) (sz : Nat) : Met l y_Ref_ends w_Ref_ends ({ frames := 2, cells := 0, slots := 0, locals := 100 }) (va_Pc [.ref ra, .int (nI dp)] (fun U => U.heap.size = sz ∧ va_P (dC, dI) classes [oc ra 8 [.int (nI T), .int (nI Ac), .ref (rA 2), .ref (rA 3), .ref (rA 4), .ref (rA 5), .ref (rA 6), .ref (rA 7), .ref (rA 8), .ref (rA 9), .ref (rA 10), .ref (rA 11), .ref (rA 12), .ref (rA 13), .int ir, .ref (rA 15), .ref (rA 16), .ref (rA 17), .ref (rA 18), .int (nI md), .int (nI wd), .ref (rA 21), .ref (rA 22), .ref (rA 23), .int (nI mn), .ref (rA 25), .int (nI cb), .int mr, .ref (rA 28), .ref (rA 29), .ref (rA 30), .ref (rA 31), .ref (rA 32), .ref (rA 33), .ref (rA 34), .ref (rA 35), .int (nI ld), .int (nI gm), .ref (rA 38), .ref (rA 39), .ref (rA 40), .ref (rA 41), .ref (rA 42), .ref (rA 43), .ref (rA 44), .ref (rA 45), .int (nI my), .ref (rA 47)], ia (rA 16) (rK9 16) 155 sf, ia (rA 28) (rK9 28) 11 nw9, ia (rA 9) (rK9 9) 352000 oc9, ia (rA 8) (rK9 8) 8 (fun i => nI (om i)), ia (rA 12) (rK9 12) 32000 (fun i => nI (or9 i)), ia (rA 11) (rK9 11) 16000 (fun i => nI (ws i)), ia (rA 10) (rK9 10) 256000 wi, ia (rA 18) (rK9 18) 17 sp9] U.heap ∧ va_K (dC, dI) classes [((rK9 16), .int), ((rK9 28), .int), ((rK9 9), .short), ((rK9 8), .int), ((rK9 12), .int), ((rK9 11), .int), ((rK9 10), .short), ((rK9 18), .int)] U ∧ va_D (fun _ => True) [oc ra 8 [.int (nI T), .int (nI Ac), .ref (rA 2), .ref (rA 3), .ref (rA 4), .ref (rA 5), .ref (rA 6), .ref (rA 7), .ref (rA 8), .ref (rA 9), .ref (rA 10), .ref (rA 11), .ref (rA 12), .ref (rA 13), .int ir, .ref (rA 15), .ref (rA 16), .ref (rA 17), .ref (rA 18), .int (nI md), .int (nI wd), .ref (rA 21), .ref (rA 22), .ref (rA 23), .int (nI mn), .ref (rA 25), .int (nI cb), .int mr, .ref (rA 28), .ref (rA 29), .ref (rA 30), .ref (rA 31), .ref (rA 32), .ref (rA 33), .ref (rA 34), .ref (rA 35), .int (nI ld), .int (nI gm), .ref (rA 38), .ref (rA 39), .ref (rA 40), .ref (rA 41), .ref (rA 42), .ref (rA 43), .ref (rA 44), .ref (rA 45), .int (nI my), .ref (rA 47)], ia (rA 16) (rK9 16) 155 sf, ia (rA 28) (rK9 28) 11 nw9, ia (rA 9) (rK9 9) 352000 oc9, ia (rA 8) (rK9 8) 8 (fun i => nI (om i)), ia (rA 12) (rK9 12) 32000 (fun i => nI (or9 i)), ia (rA 11) (rK9 11) 16000 (fun i => nI (ws i)), ia (rA 10) (rK9 10) 256000 wi, ia (rA 18) (rK9 18) 17 sp9] ∧ nw U)) (va_Qv (fun _ : Unit => True) (fun _ t9 => va_P (dC, dI) classes [oc ra 8 [.int (nI T), .int (nI Ac), .ref (rA 2), .ref (rA 3), .ref (rA 4), .ref (rA 5), .ref (rA 6), .ref (rA 7), .ref (rA 8), .ref (rA 9), .ref (rA 10), .ref (rA 11), .ref (rA 12), .ref (rA 13), .int ir, .ref (rA 15), .ref (rA 16), .ref (rA 17), .ref (rA 18), .int (nI md), .int (nI wd), .ref (rA 21), .ref (rA 22), .ref (rA 23), .int (nI mn), .ref (rA 25), .int (nI cb), .int mr, .ref (rA 28), .ref (rA 29), .ref (rA 30), .ref (rA 31), .ref (rA 32), .ref (rA 33), .ref (rA 34), .ref (rA 35), .int (nI ld), .int (nI gm), .ref (rA 38), .ref (rA 39), .ref (rA 40), .ref (rA 41), .ref (rA 42), .ref (rA 43), .ref (rA 44), .ref (rA 45), .int (nI my), .ref (rA 47)], ia (rA 16) (rK9 16) 155 sf, ia (rA 28) (rK9 28) 11 nv, ia (rA 9) (rK9 9) 352000 oc9, ia (rA 8) (rK9 8) 8 (fun i => nI (om i)), ia (rA 12) (rK9 12) 32000 (fun i => nI (or9 i)), ia (rA 11) (rK9 11) 16000 (fun i => nI (ws i)), ia (rA 10) (rK9 10) 256000 wi, ia (rA 18) (rK9 18) 17 sp9] t9.heap ∧ va_K (dC, dI) classes [] t9 ∧ va_D (va_A [oc ra 8 [.int (nI T), .int (nI Ac), .ref (rA 2), .ref (rA 3), .ref (rA 4), .ref (rA 5), .ref (rA 6), .ref (rA 7), .ref (rA 8), .ref (rA 9), .ref (rA 10), .ref (rA 11), .ref (rA 12), .ref (rA 13), .int ir, .ref (rA 15), .ref (rA 16), .ref (rA 17), .ref (rA 18), .int (nI md), .int (nI wd), .ref (rA 21), .ref (rA 22), .ref (rA 23), .int (nI mn), .ref (rA 25), .int (nI cb), .int mr, .ref (rA 28), .ref (rA 29), .ref (rA 30), .ref (rA 31), .ref (rA 32), .ref (rA 33), .ref (rA 34), .ref (rA 35), .int (nI ld), .int (nI gm), .ref (rA 38), .ref (rA 39), .ref (rA 40), .ref (rA 41), .ref (rA 42), .ref (rA 43), .ref (rA 44), .ref (rA 45), .int (nI my), .ref (rA 47)], ia (rA 16) (rK9 16) 155 sf, ia (rA 28) (rK9 28) 11 nw9, ia (rA 9) (rK9 9) 352000 oc9, ia (rA 8) (rK9 8) 8 (fun i => nI (om i)), ia (rA 12) (rK9 12) 32000 (fun i => nI (or9 i)), ia (rA 11) (rK9 11) 16000 (fun i => nI (ws i)), ia (rA 10) (rK9 10) 256000 wi, ia (rA 18) (rK9 18) 17 sp9] sz) [oc ra 8 [.int (nI T), .int (nI Ac), .ref (rA 2), .ref (rA 3), .ref (rA 4), .ref (rA 5), .ref (rA 6), .ref (rA 7), .ref (rA 8), .ref (rA 9), .ref (rA 10), .ref (rA 11), .ref (rA 12), .ref (rA 13), .int ir, .ref (rA 15), .ref (rA 16), .ref (rA 17), .ref (rA 18), .int (nI md), .int (nI wd), .ref (rA 21), .ref (rA 22), .ref (rA 23), .int (nI mn), .ref (rA 25), .int (nI cb), .int mr, .ref (rA 28), .ref (rA 29), .ref (rA 30), .ref (rA 31), .ref (rA 32), .ref (rA 33), .ref (rA 34), .ref (rA 35), .int (nI ld), .int (nI gm), .ref (rA 38), .ref (rA 39), .ref (rA 40), .ref (rA 41), .ref (rA 42), .ref (rA 43), .ref (rA 44), .ref (rA 45), .int (nI my), .ref (rA 47)], ia (rA 16) (rK9 16) 155 sf, ia (rA 28) (rK9 28) 11 nv, ia (rA 9) (rK9 9) 352000 oc9, ia (rA 8) (rK9 8) 8 (fun i => nI (om i)), ia (rA 12) (rK9 12) 32000 (fun i => nI (or9 i)), ia (rA 11) (rK9 11) 16000 (fun i => nI (ws i)), ia (rA 10) (rK9 10) 256000 wi, ia (rA 18) (rK9 18) 17 sp9]) (va_A [oc ra 8 [.int (nI T), .int (nI Ac), .ref (rA 2), .ref (rA 3), .ref (rA 4), .ref (rA 5), .ref (rA 6), .ref (rA 7), .ref (rA 8), .ref (rA 9), .ref (rA 10), .ref (rA 11), .ref (rA 12), .ref (rA 13), .int ir, .ref (rA 15), .ref (rA 16), .ref (rA 17), .ref (rA 18), .int (nI md), .int (nI wd), .ref (rA 21), .ref (rA 22), .ref (rA 23), .int (nI mn), .ref (rA 25), .int (nI cb), .int mr, .ref (rA 28), .ref (rA 29), .ref (rA 30), .ref (rA 31), .ref (rA 32), .ref (rA 33), .ref (rA 34), .ref (rA 35), .int (nI ld), .int (nI gm), .ref (rA 38), .ref (rA 39), .ref (rA 40), .ref (rA 41), .ref (rA 42), .ref (rA 43), .ref (rA 44), .ref (rA 45), .int (nI my), .ref (rA 47)], ia (rA 16) (rK9 16) 155 sf, ia (rA 28) (rK9 28) 11 nw9, ia (rA 9) (rK9 9) 352000 oc9, ia (rA 8) (rK9 8) 8 (fun i => nI (om i)), ia (rA 12) (rK9 12) 32000 (fun i => nI (or9 i)), ia (rA 11) (rK9 11) 16000 (fun i => nI (ws i)), ia (rA 10) (rK9 10) 256000 wi, ia (rA 18) (rK9 18) 17 sp9] sz)) 0 0 (va_A [oc ra 8 [.int (nI T), .int (nI Ac), .ref (rA 2), .ref (rA 3), .ref (rA 4), .ref (rA 5), .ref (rA 6), .ref (rA 7), .ref (rA 8), .ref (rA 9), .ref (rA 10), .ref (rA 11), .ref (rA 12), .ref (rA 13), .int ir, .ref (rA 15), .ref (rA 16), .ref (rA 17), .ref (rA 18), .int (nI md), .int (nI wd), .ref (rA 21), .ref (rA 22), .ref (rA 23), .int (nI mn), .ref (rA 25), .int (nI cb), .int mr, .ref (rA 28), .ref (rA 29), .ref (rA 30), .ref (rA 31), .ref (rA 32), .ref (rA 33), .ref (rA 34), .ref (rA 35), .int (nI ld), .int (nI gm), .ref (rA 38), .ref (rA 39), .ref (rA 40), .ref (rA 41), .ref (rA 42), .ref (rA 43), .ref (rA 44), .ref (rA 45), .int (nI my), .ref (rA 47)], ia (rA 16) (rK9 16) 155 sf, ia (rA 28) (rK9 28) 11 nw9, ia (rA 9) (rK9 9) 352000 oc9, ia (rA 8) (rK9 8) 8 (fun i => nI (om i)), ia (rA 12) (rK9 12) 32000 (fun i => nI (or9 i)), ia (rA 11) (rK9 11) 16000 (fun i => nI (ws i)), ia (rA 10) (rK9 10) 256000 wi, ia (rA 18) (rK9 18) 17 sp9] sz) := by
  refine Met.ofW (cc := b_Ref_ends) (maxL := 5) (ret := none) (by decide) rfl ?_
  intro p e0 s m args below meth c s₁ B hml hv
  obtain ⟨rfl, hsz, hP, hK, hD0, hn⟩ := hv
  have hx := B.exec
  have hb := B.bytes
  have hr := B.returns
  have hw := fun w (h : w ∈ wt) => atoms_spec (ws := w_Ref_ends) B.pre w (List.mem_cons_of_mem _ h)
  have hown : s.vm.findClass R_Ref = some m.cls := findClass_of_methodNamed B.named
  have hlocks := B.notSynchronized
  subst hsz
  have hD1 := hD0.self (sz := s.heap.size)
  generalize hAe : va_A [oc ra 8 [.int (nI T), .int (nI Ac), .ref (rA 2), .ref (rA 3), .ref (rA 4), .ref (rA 5), .ref (rA 6), .ref (rA 7), .ref (rA 8), .ref (rA 9), .ref (rA 10), .ref (rA 11), .ref (rA 12), .ref (rA 13), .int ir, .ref (rA 15), .ref (rA 16), .ref (rA 17), .ref (rA 18), .int (nI md), .int (nI wd), .ref (rA 21), .ref (rA 22), .ref (rA 23), .int (nI mn), .ref (rA 25), .int (nI cb), .int mr, .ref (rA 28), .ref (rA 29), .ref (rA 30), .ref (rA 31), .ref (rA 32), .ref (rA 33), .ref (rA 34), .ref (rA 35), .int (nI ld), .int (nI gm), .ref (rA 38), .ref (rA 39), .ref (rA 40), .ref (rA 41), .ref (rA 42), .ref (rA 43), .ref (rA 44), .ref (rA 45), .int (nI my), .ref (rA 47)], ia (rA 16) (rK9 16) 155 sf, ia (rA 28) (rK9 28) 11 nw9, ia (rA 9) (rK9 9) 352000 oc9, ia (rA 8) (rK9 8) 8 (fun i => nI (om i)), ia (rA 12) (rK9 12) 32000 (fun i => nI (or9 i)), ia (rA 11) (rK9 11) 16000 (fun i => nI (ws i)), ia (rA 10) (rK9 10) 256000 wi, ia (rA 18) (rK9 18) 17 sp9] s.heap.size = A at hD1 ⊢
  have hA : ∀ q : Nat, s.heap.size ≤ q → A q := fun q h => by rw [← hAe]; exact Or.inr h
  have hD : dd A [ra, (rA 16), (rA 28), (rA 9), (rA 8), (rA 12), (rA 11), (rA 10), (rA 18)] := dd_of hD1 rfl
  clear hAe hD0 hD1
  have hS : va_S A s.heap s.heap [] := va_S.rf
  replace hP : va_P (dC, dI) classes [oc ra 8 [.int (nI T), .int (nI Ac), .ref (rA 2), .ref (rA 3), .ref (rA 4), .ref (rA 5), .ref (rA 6), .ref (rA 7), .ref (rA 8), .ref (rA 9), .ref (rA 10), .ref (rA 11), .ref (rA 12), .ref (rA 13), .int ir, .ref (rA 15), .ref (rA 16), .ref (rA 17), .ref (rA 18), .int (nI md), .int (nI wd), .ref (rA 21), .ref (rA 22), .ref (rA 23), .int (nI mn), .ref (rA 25), .int (nI cb), .int mr, .ref (rA 28), .ref (rA 29), .ref (rA 30), .ref (rA 31), .ref (rA 32), .ref (rA 33), .ref (rA 34), .ref (rA 35), .int (nI ld), .int (nI gm), .ref (rA 38), .ref (rA 39), .ref (rA 40), .ref (rA 41), .ref (rA 42), .ref (rA 43), .ref (rA 44), .ref (rA 45), .int (nI my), .ref (rA 47)], ia (rA 16) (rK9 16) 155 sf, ia (rA 28) (rK9 28) 11 nw9, ia (rA 9) (rK9 9) 352000 oc9, ia (rA 8) (rK9 8) 8 (fun i => nI (om i)), ia (rA 12) (rK9 12) 32000 (fun i => nI (or9 i)), ia (rA 11) (rK9 11) 16000 (fun i => nI (ws i)), ia (rA 10) (rK9 10) 256000 wi, ia (rA 18) (rK9 18) 17 sp9] s.heap := hP
  have hl := lv_entry ([.ref ra, .int (nI dp)]) (n := 5) (Nat.le_of_ble_eq_true rfl)
  rw [lg_entry_eq]
  generalize (lg_sl ([.ref ra, .int (nI dp)]) ++ List.replicate (5 - (lg_sl ([.ref ra, .int (nI dp)])).length) Slot.unset).toArray = ls at hl ⊢
  replace hl : lv_has ls 5 [(0, .ref ra), (1, .int (nI dp))] := hl
  refine lv_iconst (v := 0) hx hb d_Ref_ends_0 (by decide) ?_
  refine lv_istore_n (lv' := [(2, .int 0), (0, .ref ra), (1, .int (nI dp))]) hx hb d_Ref_ends_1 rfl hl (by decide) rfl ?_
  clear hl ls
  intro ls hl
  refine lv_iload_n hx hb d_Ref_ends_2 rfl (lv_at hl 0 rfl) ?_
  refine lv_bipush (v := 8) hx hb d_Ref_ends_3 (by decide) ?_
  refine lv_icmp_ge (tgt := 28) hx hb d_Ref_ends_5 (by decide) (fun c_1 => absurd c_1 (by decide)) (fun c_1 => ?_)
  refine tp_pc (pc' := 8) (by rfl) ?_
  refine lv_aload_n hx hb d_Ref_ends_8 rfl (lv_at hl 1 rfl) ?_
  refine va_get (D := (dC, dI)) (ci := 8) (v := .ref (rA 28)) (C := R_Ref) (T := F_Ref) (N := 48) hx hb hw i_Ref hown hK hP 0 rfl rfl 28 (by decide) (hw _ m_927) (fun _ h9 => h9) rfl d_Ref_ends_9 ?_
  refine lv_iload_n hx hb d_Ref_ends_12 rfl (lv_at hl 0 rfl) ?_
  refine lv_aload_n hx hb d_Ref_ends_13 rfl (lv_at hl 1 rfl) ?_
  refine va_get (D := (dC, dI)) (ci := 8) (v := .ref (rA 16)) (C := R_Ref) (T := F_Ref) (N := 48) hx hb hw i_Ref hown hK hP 0 rfl rfl 16 (by decide) (hw _ m_915) (fun _ h9 => h9) rfl d_Ref_ends_14 ?_
  refine lv_iconst (v := 4) hx hb d_Ref_ends_17 (by decide) ?_
  refine lv_iload_n hx hb d_Ref_ends_18 rfl (lv_at hl 0 rfl) ?_
  refine lv_iadd hx hb d_Ref_ends_19 ?_
  refine tp_i (y := 4) (by first | rfl | decide) ?_
  refine va_iald (D := (dC, dI)) hx hb hK hP 1 0 rfl rfl (i := 4) (pk_in 4 155 (by omega)) d_Ref_ends_20 ?_
  refine tp_i (y := sf 4) (by rw [show (4 : Int32).toNatClampNeg = 4 from pk_cl 4]) ?_
  refine va_iast (D := (dC, dI)) hx hb hK hP (dd_D hD rfl) hS 2 1 rfl rfl (i := 0) (x := sf 4) (pk_in 0 11 (by omega)) d_Ref_ends_21 ?_
  clear hP hS
  intro H locs hP _ hS
  rw [show (0 : Int32).toNatClampNeg = 0 from pk_cl 0] at hP
  replace hP : va_P (dC, dI) classes [oc ra 8 [.int (nI T), .int (nI Ac), .ref (rA 2), .ref (rA 3), .ref (rA 4), .ref (rA 5), .ref (rA 6), .ref (rA 7), .ref (rA 8), .ref (rA 9), .ref (rA 10), .ref (rA 11), .ref (rA 12), .ref (rA 13), .int ir, .ref (rA 15), .ref (rA 16), .ref (rA 17), .ref (rA 18), .int (nI md), .int (nI wd), .ref (rA 21), .ref (rA 22), .ref (rA 23), .int (nI mn), .ref (rA 25), .int (nI cb), .int mr, .ref (rA 28), .ref (rA 29), .ref (rA 30), .ref (rA 31), .ref (rA 32), .ref (rA 33), .ref (rA 34), .ref (rA 35), .int (nI ld), .int (nI gm), .ref (rA 38), .ref (rA 39), .ref (rA 40), .ref (rA 41), .ref (rA 42), .ref (rA 43), .ref (rA 44), .ref (rA 45), .int (nI my), .ref (rA 47)], ia (rA 16) (rK9 16) 155 sf, ia (rA 28) (rK9 28) 11 (upd nw9 0 (sf 4)), ia (rA 9) (rK9 9) 352000 oc9, ia (rA 8) (rK9 8) 8 (fun i => nI (om i)), ia (rA 12) (rK9 12) 32000 (fun i => nI (or9 i)), ia (rA 11) (rK9 11) 16000 (fun i => nI (ws i)), ia (rA 10) (rK9 10) 256000 wi, ia (rA 18) (rK9 18) 17 sp9] H := hP
  refine tp_pc (pc' := 22) (by rfl) ?_
  refine lv_iinc (v := 1) (lv' := [(2, .int 1), (0, .ref ra), (1, .int (nI dp))]) hx hb d_Ref_ends_22 hl (k := 0) rfl (by first | rfl | decide) (by decide) rfl ?_
  clear hl ls
  intro ls hl
  refine lv_goto (tgt := 2) hx hb d_Ref_ends_25 (by decide) ?_
  refine tp_pc (pc' := 2) (by rfl) ?_
  refine lv_iload_n hx hb d_Ref_ends_2 rfl (lv_at hl 0 rfl) ?_
  refine lv_bipush (v := 8) hx hb d_Ref_ends_3 (by decide) ?_
  refine lv_icmp_ge (tgt := 28) hx hb d_Ref_ends_5 (by decide) (fun c_2 => absurd c_2 (by decide)) (fun c_2 => ?_)
  refine tp_pc (pc' := 8) (by rfl) ?_
  refine lv_aload_n hx hb d_Ref_ends_8 rfl (lv_at hl 1 rfl) ?_
  refine va_get (D := (dC, dI)) (ci := 8) (v := .ref (rA 28)) (C := R_Ref) (T := F_Ref) (N := 48) hx hb hw i_Ref hown hK hP 0 rfl rfl 28 (by decide) (hw _ m_927) (fun _ h9 => h9) rfl d_Ref_ends_9 ?_
  refine lv_iload_n hx hb d_Ref_ends_12 rfl (lv_at hl 0 rfl) ?_
  refine lv_aload_n hx hb d_Ref_ends_13 rfl (lv_at hl 1 rfl) ?_
  refine va_get (D := (dC, dI)) (ci := 8) (v := .ref (rA 16)) (C := R_Ref) (T := F_Ref) (N := 48) hx hb hw i_Ref hown hK hP 0 rfl rfl 16 (by decide) (hw _ m_915) (fun _ h9 => h9) rfl d_Ref_ends_14 ?_
  refine lv_iconst (v := 4) hx hb d_Ref_ends_17 (by decide) ?_
  refine lv_iload_n hx hb d_Ref_ends_18 rfl (lv_at hl 0 rfl) ?_
  refine lv_iadd hx hb d_Ref_ends_19 ?_
  refine tp_i (y := 5) (by first | rfl | decide) ?_
  refine va_iald (D := (dC, dI)) hx hb hK hP 1 0 rfl rfl (i := 5) (pk_in 5 155 (by omega)) d_Ref_ends_20 ?_
  refine tp_i (y := sf 5) (by rw [show (5 : Int32).toNatClampNeg = 5 from pk_cl 5]) ?_
  refine va_iast (D := (dC, dI)) hx hb hK hP (dd_D hD rfl) hS 2 1 rfl rfl (i := 1) (x := sf 5) (pk_in 1 11 (by omega)) d_Ref_ends_21 ?_
  clear hP hS locs H
  intro H locs hP _ hS
  rw [show (1 : Int32).toNatClampNeg = 1 from pk_cl 1] at hP
  replace hP : va_P (dC, dI) classes [oc ra 8 [.int (nI T), .int (nI Ac), .ref (rA 2), .ref (rA 3), .ref (rA 4), .ref (rA 5), .ref (rA 6), .ref (rA 7), .ref (rA 8), .ref (rA 9), .ref (rA 10), .ref (rA 11), .ref (rA 12), .ref (rA 13), .int ir, .ref (rA 15), .ref (rA 16), .ref (rA 17), .ref (rA 18), .int (nI md), .int (nI wd), .ref (rA 21), .ref (rA 22), .ref (rA 23), .int (nI mn), .ref (rA 25), .int (nI cb), .int mr, .ref (rA 28), .ref (rA 29), .ref (rA 30), .ref (rA 31), .ref (rA 32), .ref (rA 33), .ref (rA 34), .ref (rA 35), .int (nI ld), .int (nI gm), .ref (rA 38), .ref (rA 39), .ref (rA 40), .ref (rA 41), .ref (rA 42), .ref (rA 43), .ref (rA 44), .ref (rA 45), .int (nI my), .ref (rA 47)], ia (rA 16) (rK9 16) 155 sf, ia (rA 28) (rK9 28) 11 (upd (upd nw9 0 (sf 4)) 1 (sf 5)), ia (rA 9) (rK9 9) 352000 oc9, ia (rA 8) (rK9 8) 8 (fun i => nI (om i)), ia (rA 12) (rK9 12) 32000 (fun i => nI (or9 i)), ia (rA 11) (rK9 11) 16000 (fun i => nI (ws i)), ia (rA 10) (rK9 10) 256000 wi, ia (rA 18) (rK9 18) 17 sp9] H := hP
  refine tp_pc (pc' := 22) (by rfl) ?_
  refine lv_iinc (v := 2) (lv' := [(2, .int 2), (0, .ref ra), (1, .int (nI dp))]) hx hb d_Ref_ends_22 hl (k := 0) rfl (by first | rfl | decide) (by decide) rfl ?_
  clear hl ls
  intro ls hl
  refine lv_goto (tgt := 2) hx hb d_Ref_ends_25 (by decide) ?_
  refine tp_pc (pc' := 2) (by rfl) ?_
  refine lv_iload_n hx hb d_Ref_ends_2 rfl (lv_at hl 0 rfl) ?_
  refine lv_bipush (v := 8) hx hb d_Ref_ends_3 (by decide) ?_
  refine lv_icmp_ge (tgt := 28) hx hb d_Ref_ends_5 (by decide) (fun c_3 => absurd c_3 (by decide)) (fun c_3 => ?_)
  refine tp_pc (pc' := 8) (by rfl) ?_
  refine lv_aload_n hx hb d_Ref_ends_8 rfl (lv_at hl 1 rfl) ?_
  refine va_get (D := (dC, dI)) (ci := 8) (v := .ref (rA 28)) (C := R_Ref) (T := F_Ref) (N := 48) hx hb hw i_Ref hown hK hP 0 rfl rfl 28 (by decide) (hw _ m_927) (fun _ h9 => h9) rfl d_Ref_ends_9 ?_
  refine lv_iload_n hx hb d_Ref_ends_12 rfl (lv_at hl 0 rfl) ?_
  refine lv_aload_n hx hb d_Ref_ends_13 rfl (lv_at hl 1 rfl) ?_
  refine va_get (D := (dC, dI)) (ci := 8) (v := .ref (rA 16)) (C := R_Ref) (T := F_Ref) (N := 48) hx hb hw i_Ref hown hK hP 0 rfl rfl 16 (by decide) (hw _ m_915) (fun _ h9 => h9) rfl d_Ref_ends_14 ?_
  refine lv_iconst (v := 4) hx hb d_Ref_ends_17 (by decide) ?_
  refine lv_iload_n hx hb d_Ref_ends_18 rfl (lv_at hl 0 rfl) ?_
  refine lv_iadd hx hb d_Ref_ends_19 ?_
  refine tp_i (y := 6) (by first | rfl | decide) ?_
  refine va_iald (D := (dC, dI)) hx hb hK hP 1 0 rfl rfl (i := 6) (pk_in 6 155 (by omega)) d_Ref_ends_20 ?_
  refine tp_i (y := sf 6) (by rw [show (6 : Int32).toNatClampNeg = 6 from pk_cl 6]) ?_
  refine va_iast (D := (dC, dI)) hx hb hK hP (dd_D hD rfl) hS 2 1 rfl rfl (i := 2) (x := sf 6) (pk_in 2 11 (by omega)) d_Ref_ends_21 ?_
  clear hP hS locs H
  intro H locs hP _ hS
  rw [show (2 : Int32).toNatClampNeg = 2 from pk_cl 2] at hP
  replace hP : va_P (dC, dI) classes [oc ra 8 [.int (nI T), .int (nI Ac), .ref (rA 2), .ref (rA 3), .ref (rA 4), .ref (rA 5), .ref (rA 6), .ref (rA 7), .ref (rA 8), .ref (rA 9), .ref (rA 10), .ref (rA 11), .ref (rA 12), .ref (rA 13), .int ir, .ref (rA 15), .ref (rA 16), .ref (rA 17), .ref (rA 18), .int (nI md), .int (nI wd), .ref (rA 21), .ref (rA 22), .ref (rA 23), .int (nI mn), .ref (rA 25), .int (nI cb), .int mr, .ref (rA 28), .ref (rA 29), .ref (rA 30), .ref (rA 31), .ref (rA 32), .ref (rA 33), .ref (rA 34), .ref (rA 35), .int (nI ld), .int (nI gm), .ref (rA 38), .ref (rA 39), .ref (rA 40), .ref (rA 41), .ref (rA 42), .ref (rA 43), .ref (rA 44), .ref (rA 45), .int (nI my), .ref (rA 47)], ia (rA 16) (rK9 16) 155 sf, ia (rA 28) (rK9 28) 11 (upd (upd (upd nw9 0 (sf 4)) 1 (sf 5)) 2 (sf 6)), ia (rA 9) (rK9 9) 352000 oc9, ia (rA 8) (rK9 8) 8 (fun i => nI (om i)), ia (rA 12) (rK9 12) 32000 (fun i => nI (or9 i)), ia (rA 11) (rK9 11) 16000 (fun i => nI (ws i)), ia (rA 10) (rK9 10) 256000 wi, ia (rA 18) (rK9 18) 17 sp9] H := hP
  refine tp_pc (pc' := 22) (by rfl) ?_
  refine lv_iinc (v := 3) (lv' := [(2, .int 3), (0, .ref ra), (1, .int (nI dp))]) hx hb d_Ref_ends_22 hl (k := 0) rfl (by first | rfl | decide) (by decide) rfl ?_
  clear hl ls
  intro ls hl
  refine lv_goto (tgt := 2) hx hb d_Ref_ends_25 (by decide) ?_
  refine tp_pc (pc' := 2) (by rfl) ?_
  refine lv_iload_n hx hb d_Ref_ends_2 rfl (lv_at hl 0 rfl) ?_
  refine lv_bipush (v := 8) hx hb d_Ref_ends_3 (by decide) ?_
  refine lv_icmp_ge (tgt := 28) hx hb d_Ref_ends_5 (by decide) (fun c_4 => absurd c_4 (by decide)) (fun c_4 => ?_)
  refine tp_pc (pc' := 8) (by rfl) ?_
  refine lv_aload_n hx hb d_Ref_ends_8 rfl (lv_at hl 1 rfl) ?_
  refine va_get (D := (dC, dI)) (ci := 8) (v := .ref (rA 28)) (C := R_Ref) (T := F_Ref) (N := 48) hx hb hw i_Ref hown hK hP 0 rfl rfl 28 (by decide) (hw _ m_927) (fun _ h9 => h9) rfl d_Ref_ends_9 ?_
  refine lv_iload_n hx hb d_Ref_ends_12 rfl (lv_at hl 0 rfl) ?_
  refine lv_aload_n hx hb d_Ref_ends_13 rfl (lv_at hl 1 rfl) ?_
  refine va_get (D := (dC, dI)) (ci := 8) (v := .ref (rA 16)) (C := R_Ref) (T := F_Ref) (N := 48) hx hb hw i_Ref hown hK hP 0 rfl rfl 16 (by decide) (hw _ m_915) (fun _ h9 => h9) rfl d_Ref_ends_14 ?_
  refine lv_iconst (v := 4) hx hb d_Ref_ends_17 (by decide) ?_
  refine lv_iload_n hx hb d_Ref_ends_18 rfl (lv_at hl 0 rfl) ?_
  refine lv_iadd hx hb d_Ref_ends_19 ?_
  refine tp_i (y := 7) (by first | rfl | decide) ?_
  refine va_iald (D := (dC, dI)) hx hb hK hP 1 0 rfl rfl (i := 7) (pk_in 7 155 (by omega)) d_Ref_ends_20 ?_
  refine tp_i (y := sf 7) (by rw [show (7 : Int32).toNatClampNeg = 7 from pk_cl 7]) ?_
  refine va_iast (D := (dC, dI)) hx hb hK hP (dd_D hD rfl) hS 2 1 rfl rfl (i := 3) (x := sf 7) (pk_in 3 11 (by omega)) d_Ref_ends_21 ?_
  clear hP hS locs H
  intro H locs hP _ hS
  rw [show (3 : Int32).toNatClampNeg = 3 from pk_cl 3] at hP
  replace hP : va_P (dC, dI) classes [oc ra 8 [.int (nI T), .int (nI Ac), .ref (rA 2), .ref (rA 3), .ref (rA 4), .ref (rA 5), .ref (rA 6), .ref (rA 7), .ref (rA 8), .ref (rA 9), .ref (rA 10), .ref (rA 11), .ref (rA 12), .ref (rA 13), .int ir, .ref (rA 15), .ref (rA 16), .ref (rA 17), .ref (rA 18), .int (nI md), .int (nI wd), .ref (rA 21), .ref (rA 22), .ref (rA 23), .int (nI mn), .ref (rA 25), .int (nI cb), .int mr, .ref (rA 28), .ref (rA 29), .ref (rA 30), .ref (rA 31), .ref (rA 32), .ref (rA 33), .ref (rA 34), .ref (rA 35), .int (nI ld), .int (nI gm), .ref (rA 38), .ref (rA 39), .ref (rA 40), .ref (rA 41), .ref (rA 42), .ref (rA 43), .ref (rA 44), .ref (rA 45), .int (nI my), .ref (rA 47)], ia (rA 16) (rK9 16) 155 sf, ia (rA 28) (rK9 28) 11 (upd (upd (upd (upd nw9 0 (sf 4)) 1 (sf 5)) 2 (sf 6)) 3 (sf 7)), ia (rA 9) (rK9 9) 352000 oc9, ia (rA 8) (rK9 8) 8 (fun i => nI (om i)), ia (rA 12) (rK9 12) 32000 (fun i => nI (or9 i)), ia (rA 11) (rK9 11) 16000 (fun i => nI (ws i)), ia (rA 10) (rK9 10) 256000 wi, ia (rA 18) (rK9 18) 17 sp9] H := hP
  refine tp_pc (pc' := 22) (by rfl) ?_
  refine lv_iinc (v := 4) (lv' := [(2, .int 4), (0, .ref ra), (1, .int (nI dp))]) hx hb d_Ref_ends_22 hl (k := 0) rfl (by first | rfl | decide) (by decide) rfl ?_
  clear hl ls
  intro ls hl
  refine lv_goto (tgt := 2) hx hb d_Ref_ends_25 (by decide) ?_
  refine tp_pc (pc' := 2) (by rfl) ?_
  refine lv_iload_n hx hb d_Ref_ends_2 rfl (lv_at hl 0 rfl) ?_
  refine lv_bipush (v := 8) hx hb d_Ref_ends_3 (by decide) ?_
  refine lv_icmp_ge (tgt := 28) hx hb d_Ref_ends_5 (by decide) (fun c_5 => absurd c_5 (by decide)) (fun c_5 => ?_)
  refine tp_pc (pc' := 8) (by rfl) ?_
  refine lv_aload_n hx hb d_Ref_ends_8 rfl (lv_at hl 1 rfl) ?_
  refine va_get (D := (dC, dI)) (ci := 8) (v := .ref (rA 28)) (C := R_Ref) (T := F_Ref) (N := 48) hx hb hw i_Ref hown hK hP 0 rfl rfl 28 (by decide) (hw _ m_927) (fun _ h9 => h9) rfl d_Ref_ends_9 ?_
  refine lv_iload_n hx hb d_Ref_ends_12 rfl (lv_at hl 0 rfl) ?_
  refine lv_aload_n hx hb d_Ref_ends_13 rfl (lv_at hl 1 rfl) ?_
  refine va_get (D := (dC, dI)) (ci := 8) (v := .ref (rA 16)) (C := R_Ref) (T := F_Ref) (N := 48) hx hb hw i_Ref hown hK hP 0 rfl rfl 16 (by decide) (hw _ m_915) (fun _ h9 => h9) rfl d_Ref_ends_14 ?_
  refine lv_iconst (v := 4) hx hb d_Ref_ends_17 (by decide) ?_
  refine lv_iload_n hx hb d_Ref_ends_18 rfl (lv_at hl 0 rfl) ?_
  refine lv_iadd hx hb d_Ref_ends_19 ?_
  refine tp_i (y := 8) (by first | rfl | decide) ?_
  refine va_iald (D := (dC, dI)) hx hb hK hP 1 0 rfl rfl (i := 8) (pk_in 8 155 (by omega)) d_Ref_ends_20 ?_
  refine tp_i (y := sf 8) (by rw [show (8 : Int32).toNatClampNeg = 8 from pk_cl 8]) ?_
  refine va_iast (D := (dC, dI)) hx hb hK hP (dd_D hD rfl) hS 2 1 rfl rfl (i := 4) (x := sf 8) (pk_in 4 11 (by omega)) d_Ref_ends_21 ?_
  clear hP hS locs H
  intro H locs hP _ hS
  rw [show (4 : Int32).toNatClampNeg = 4 from pk_cl 4] at hP
  replace hP : va_P (dC, dI) classes [oc ra 8 [.int (nI T), .int (nI Ac), .ref (rA 2), .ref (rA 3), .ref (rA 4), .ref (rA 5), .ref (rA 6), .ref (rA 7), .ref (rA 8), .ref (rA 9), .ref (rA 10), .ref (rA 11), .ref (rA 12), .ref (rA 13), .int ir, .ref (rA 15), .ref (rA 16), .ref (rA 17), .ref (rA 18), .int (nI md), .int (nI wd), .ref (rA 21), .ref (rA 22), .ref (rA 23), .int (nI mn), .ref (rA 25), .int (nI cb), .int mr, .ref (rA 28), .ref (rA 29), .ref (rA 30), .ref (rA 31), .ref (rA 32), .ref (rA 33), .ref (rA 34), .ref (rA 35), .int (nI ld), .int (nI gm), .ref (rA 38), .ref (rA 39), .ref (rA 40), .ref (rA 41), .ref (rA 42), .ref (rA 43), .ref (rA 44), .ref (rA 45), .int (nI my), .ref (rA 47)], ia (rA 16) (rK9 16) 155 sf, ia (rA 28) (rK9 28) 11 (upd (upd (upd (upd (upd nw9 0 (sf 4)) 1 (sf 5)) 2 (sf 6)) 3 (sf 7)) 4 (sf 8)), ia (rA 9) (rK9 9) 352000 oc9, ia (rA 8) (rK9 8) 8 (fun i => nI (om i)), ia (rA 12) (rK9 12) 32000 (fun i => nI (or9 i)), ia (rA 11) (rK9 11) 16000 (fun i => nI (ws i)), ia (rA 10) (rK9 10) 256000 wi, ia (rA 18) (rK9 18) 17 sp9] H := hP
  refine tp_pc (pc' := 22) (by rfl) ?_
  refine lv_iinc (v := 5) (lv' := [(2, .int 5), (0, .ref ra), (1, .int (nI dp))]) hx hb d_Ref_ends_22 hl (k := 0) rfl (by first | rfl | decide) (by decide) rfl ?_
  clear hl ls
  intro ls hl
  refine lv_goto (tgt := 2) hx hb d_Ref_ends_25 (by decide) ?_
  refine tp_pc (pc' := 2) (by rfl) ?_
  refine lv_iload_n hx hb d_Ref_ends_2 rfl (lv_at hl 0 rfl) ?_
  refine lv_bipush (v := 8) hx hb d_Ref_ends_3 (by decide) ?_
  refine lv_icmp_ge (tgt := 28) hx hb d_Ref_ends_5 (by decide) (fun c_6 => absurd c_6 (by decide)) (fun c_6 => ?_)
  refine tp_pc (pc' := 8) (by rfl) ?_
  refine lv_aload_n hx hb d_Ref_ends_8 rfl (lv_at hl 1 rfl) ?_
  refine va_get (D := (dC, dI)) (ci := 8) (v := .ref (rA 28)) (C := R_Ref) (T := F_Ref) (N := 48) hx hb hw i_Ref hown hK hP 0 rfl rfl 28 (by decide) (hw _ m_927) (fun _ h9 => h9) rfl d_Ref_ends_9 ?_
  refine lv_iload_n hx hb d_Ref_ends_12 rfl (lv_at hl 0 rfl) ?_
  refine lv_aload_n hx hb d_Ref_ends_13 rfl (lv_at hl 1 rfl) ?_
  refine va_get (D := (dC, dI)) (ci := 8) (v := .ref (rA 16)) (C := R_Ref) (T := F_Ref) (N := 48) hx hb hw i_Ref hown hK hP 0 rfl rfl 16 (by decide) (hw _ m_915) (fun _ h9 => h9) rfl d_Ref_ends_14 ?_
  refine lv_iconst (v := 4) hx hb d_Ref_ends_17 (by decide) ?_
  refine lv_iload_n hx hb d_Ref_ends_18 rfl (lv_at hl 0 rfl) ?_
  refine lv_iadd hx hb d_Ref_ends_19 ?_
  refine tp_i (y := 9) (by first | rfl | decide) ?_
  refine va_iald (D := (dC, dI)) hx hb hK hP 1 0 rfl rfl (i := 9) (pk_in 9 155 (by omega)) d_Ref_ends_20 ?_
  refine tp_i (y := sf 9) (by rw [show (9 : Int32).toNatClampNeg = 9 from pk_cl 9]) ?_
  refine va_iast (D := (dC, dI)) hx hb hK hP (dd_D hD rfl) hS 2 1 rfl rfl (i := 5) (x := sf 9) (pk_in 5 11 (by omega)) d_Ref_ends_21 ?_
  clear hP hS locs H
  intro H locs hP _ hS
  rw [show (5 : Int32).toNatClampNeg = 5 from pk_cl 5] at hP
  replace hP : va_P (dC, dI) classes [oc ra 8 [.int (nI T), .int (nI Ac), .ref (rA 2), .ref (rA 3), .ref (rA 4), .ref (rA 5), .ref (rA 6), .ref (rA 7), .ref (rA 8), .ref (rA 9), .ref (rA 10), .ref (rA 11), .ref (rA 12), .ref (rA 13), .int ir, .ref (rA 15), .ref (rA 16), .ref (rA 17), .ref (rA 18), .int (nI md), .int (nI wd), .ref (rA 21), .ref (rA 22), .ref (rA 23), .int (nI mn), .ref (rA 25), .int (nI cb), .int mr, .ref (rA 28), .ref (rA 29), .ref (rA 30), .ref (rA 31), .ref (rA 32), .ref (rA 33), .ref (rA 34), .ref (rA 35), .int (nI ld), .int (nI gm), .ref (rA 38), .ref (rA 39), .ref (rA 40), .ref (rA 41), .ref (rA 42), .ref (rA 43), .ref (rA 44), .ref (rA 45), .int (nI my), .ref (rA 47)], ia (rA 16) (rK9 16) 155 sf, ia (rA 28) (rK9 28) 11 (upd (upd (upd (upd (upd (upd nw9 0 (sf 4)) 1 (sf 5)) 2 (sf 6)) 3 (sf 7)) 4 (sf 8)) 5 (sf 9)), ia (rA 9) (rK9 9) 352000 oc9, ia (rA 8) (rK9 8) 8 (fun i => nI (om i)), ia (rA 12) (rK9 12) 32000 (fun i => nI (or9 i)), ia (rA 11) (rK9 11) 16000 (fun i => nI (ws i)), ia (rA 10) (rK9 10) 256000 wi, ia (rA 18) (rK9 18) 17 sp9] H := hP
  refine tp_pc (pc' := 22) (by rfl) ?_
  refine lv_iinc (v := 6) (lv' := [(2, .int 6), (0, .ref ra), (1, .int (nI dp))]) hx hb d_Ref_ends_22 hl (k := 0) rfl (by first | rfl | decide) (by decide) rfl ?_
  clear hl ls
  intro ls hl
  refine lv_goto (tgt := 2) hx hb d_Ref_ends_25 (by decide) ?_
  refine tp_pc (pc' := 2) (by rfl) ?_
  refine lv_iload_n hx hb d_Ref_ends_2 rfl (lv_at hl 0 rfl) ?_
  refine lv_bipush (v := 8) hx hb d_Ref_ends_3 (by decide) ?_
  refine lv_icmp_ge (tgt := 28) hx hb d_Ref_ends_5 (by decide) (fun c_7 => absurd c_7 (by decide)) (fun c_7 => ?_)
  refine tp_pc (pc' := 8) (by rfl) ?_
  refine lv_aload_n hx hb d_Ref_ends_8 rfl (lv_at hl 1 rfl) ?_
  refine va_get (D := (dC, dI)) (ci := 8) (v := .ref (rA 28)) (C := R_Ref) (T := F_Ref) (N := 48) hx hb hw i_Ref hown hK hP 0 rfl rfl 28 (by decide) (hw _ m_927) (fun _ h9 => h9) rfl d_Ref_ends_9 ?_
  refine lv_iload_n hx hb d_Ref_ends_12 rfl (lv_at hl 0 rfl) ?_
  refine lv_aload_n hx hb d_Ref_ends_13 rfl (lv_at hl 1 rfl) ?_
  refine va_get (D := (dC, dI)) (ci := 8) (v := .ref (rA 16)) (C := R_Ref) (T := F_Ref) (N := 48) hx hb hw i_Ref hown hK hP 0 rfl rfl 16 (by decide) (hw _ m_915) (fun _ h9 => h9) rfl d_Ref_ends_14 ?_
  refine lv_iconst (v := 4) hx hb d_Ref_ends_17 (by decide) ?_
  refine lv_iload_n hx hb d_Ref_ends_18 rfl (lv_at hl 0 rfl) ?_
  refine lv_iadd hx hb d_Ref_ends_19 ?_
  refine tp_i (y := 10) (by first | rfl | decide) ?_
  refine va_iald (D := (dC, dI)) hx hb hK hP 1 0 rfl rfl (i := 10) (pk_in 10 155 (by omega)) d_Ref_ends_20 ?_
  refine tp_i (y := sf 10) (by rw [show (10 : Int32).toNatClampNeg = 10 from pk_cl 10]) ?_
  refine va_iast (D := (dC, dI)) hx hb hK hP (dd_D hD rfl) hS 2 1 rfl rfl (i := 6) (x := sf 10) (pk_in 6 11 (by omega)) d_Ref_ends_21 ?_
  clear hP hS locs H
  intro H locs hP _ hS
  rw [show (6 : Int32).toNatClampNeg = 6 from pk_cl 6] at hP
  replace hP : va_P (dC, dI) classes [oc ra 8 [.int (nI T), .int (nI Ac), .ref (rA 2), .ref (rA 3), .ref (rA 4), .ref (rA 5), .ref (rA 6), .ref (rA 7), .ref (rA 8), .ref (rA 9), .ref (rA 10), .ref (rA 11), .ref (rA 12), .ref (rA 13), .int ir, .ref (rA 15), .ref (rA 16), .ref (rA 17), .ref (rA 18), .int (nI md), .int (nI wd), .ref (rA 21), .ref (rA 22), .ref (rA 23), .int (nI mn), .ref (rA 25), .int (nI cb), .int mr, .ref (rA 28), .ref (rA 29), .ref (rA 30), .ref (rA 31), .ref (rA 32), .ref (rA 33), .ref (rA 34), .ref (rA 35), .int (nI ld), .int (nI gm), .ref (rA 38), .ref (rA 39), .ref (rA 40), .ref (rA 41), .ref (rA 42), .ref (rA 43), .ref (rA 44), .ref (rA 45), .int (nI my), .ref (rA 47)], ia (rA 16) (rK9 16) 155 sf, ia (rA 28) (rK9 28) 11 (upd (upd (upd (upd (upd (upd (upd nw9 0 (sf 4)) 1 (sf 5)) 2 (sf 6)) 3 (sf 7)) 4 (sf 8)) 5 (sf 9)) 6 (sf 10)), ia (rA 9) (rK9 9) 352000 oc9, ia (rA 8) (rK9 8) 8 (fun i => nI (om i)), ia (rA 12) (rK9 12) 32000 (fun i => nI (or9 i)), ia (rA 11) (rK9 11) 16000 (fun i => nI (ws i)), ia (rA 10) (rK9 10) 256000 wi, ia (rA 18) (rK9 18) 17 sp9] H := hP
  refine tp_pc (pc' := 22) (by rfl) ?_
  refine lv_iinc (v := 7) (lv' := [(2, .int 7), (0, .ref ra), (1, .int (nI dp))]) hx hb d_Ref_ends_22 hl (k := 0) rfl (by first | rfl | decide) (by decide) rfl ?_
  clear hl ls
  intro ls hl
  refine lv_goto (tgt := 2) hx hb d_Ref_ends_25 (by decide) ?_
  refine tp_pc (pc' := 2) (by rfl) ?_
  refine lv_iload_n hx hb d_Ref_ends_2 rfl (lv_at hl 0 rfl) ?_
  refine lv_bipush (v := 8) hx hb d_Ref_ends_3 (by decide) ?_
  refine lv_icmp_ge (tgt := 28) hx hb d_Ref_ends_5 (by decide) (fun c_8 => absurd c_8 (by decide)) (fun c_8 => ?_)
  refine tp_pc (pc' := 8) (by rfl) ?_
  refine lv_aload_n hx hb d_Ref_ends_8 rfl (lv_at hl 1 rfl) ?_
  refine va_get (D := (dC, dI)) (ci := 8) (v := .ref (rA 28)) (C := R_Ref) (T := F_Ref) (N := 48) hx hb hw i_Ref hown hK hP 0 rfl rfl 28 (by decide) (hw _ m_927) (fun _ h9 => h9) rfl d_Ref_ends_9 ?_
  refine lv_iload_n hx hb d_Ref_ends_12 rfl (lv_at hl 0 rfl) ?_
  refine lv_aload_n hx hb d_Ref_ends_13 rfl (lv_at hl 1 rfl) ?_
  refine va_get (D := (dC, dI)) (ci := 8) (v := .ref (rA 16)) (C := R_Ref) (T := F_Ref) (N := 48) hx hb hw i_Ref hown hK hP 0 rfl rfl 16 (by decide) (hw _ m_915) (fun _ h9 => h9) rfl d_Ref_ends_14 ?_
  refine lv_iconst (v := 4) hx hb d_Ref_ends_17 (by decide) ?_
  refine lv_iload_n hx hb d_Ref_ends_18 rfl (lv_at hl 0 rfl) ?_
  refine lv_iadd hx hb d_Ref_ends_19 ?_
  refine tp_i (y := 11) (by first | rfl | decide) ?_
  refine va_iald (D := (dC, dI)) hx hb hK hP 1 0 rfl rfl (i := 11) (pk_in 11 155 (by omega)) d_Ref_ends_20 ?_
  refine tp_i (y := sf 11) (by rw [show (11 : Int32).toNatClampNeg = 11 from pk_cl 11]) ?_
  refine va_iast (D := (dC, dI)) hx hb hK hP (dd_D hD rfl) hS 2 1 rfl rfl (i := 7) (x := sf 11) (pk_in 7 11 (by omega)) d_Ref_ends_21 ?_
  clear hP hS locs H
  intro H locs hP _ hS
  rw [show (7 : Int32).toNatClampNeg = 7 from pk_cl 7] at hP
  replace hP : va_P (dC, dI) classes [oc ra 8 [.int (nI T), .int (nI Ac), .ref (rA 2), .ref (rA 3), .ref (rA 4), .ref (rA 5), .ref (rA 6), .ref (rA 7), .ref (rA 8), .ref (rA 9), .ref (rA 10), .ref (rA 11), .ref (rA 12), .ref (rA 13), .int ir, .ref (rA 15), .ref (rA 16), .ref (rA 17), .ref (rA 18), .int (nI md), .int (nI wd), .ref (rA 21), .ref (rA 22), .ref (rA 23), .int (nI mn), .ref (rA 25), .int (nI cb), .int mr, .ref (rA 28), .ref (rA 29), .ref (rA 30), .ref (rA 31), .ref (rA 32), .ref (rA 33), .ref (rA 34), .ref (rA 35), .int (nI ld), .int (nI gm), .ref (rA 38), .ref (rA 39), .ref (rA 40), .ref (rA 41), .ref (rA 42), .ref (rA 43), .ref (rA 44), .ref (rA 45), .int (nI my), .ref (rA 47)], ia (rA 16) (rK9 16) 155 sf, ia (rA 28) (rK9 28) 11 (upd (upd (upd (upd (upd (upd (upd (upd nw9 0 (sf 4)) 1 (sf 5)) 2 (sf 6)) 3 (sf 7)) 4 (sf 8)) 5 (sf 9)) 6 (sf 10)) 7 (sf 11)), ia (rA 9) (rK9 9) 352000 oc9, ia (rA 8) (rK9 8) 8 (fun i => nI (om i)), ia (rA 12) (rK9 12) 32000 (fun i => nI (or9 i)), ia (rA 11) (rK9 11) 16000 (fun i => nI (ws i)), ia (rA 10) (rK9 10) 256000 wi, ia (rA 18) (rK9 18) 17 sp9] H := hP
  refine tp_pc (pc' := 22) (by rfl) ?_
  refine lv_iinc (v := 8) (lv' := [(2, .int 8), (0, .ref ra), (1, .int (nI dp))]) hx hb d_Ref_ends_22 hl (k := 0) rfl (by first | rfl | decide) (by decide) rfl ?_
  clear hl ls
  intro ls hl
  refine lv_goto (tgt := 2) hx hb d_Ref_ends_25 (by decide) ?_
  refine tp_pc (pc' := 2) (by rfl) ?_
  refine lv_iload_n hx hb d_Ref_ends_2 rfl (lv_at hl 0 rfl) ?_
  refine lv_bipush (v := 8) hx hb d_Ref_ends_3 (by decide) ?_
  refine lv_icmp_ge (tgt := 28) hx hb d_Ref_ends_5 (by decide) (fun c_9 => ?_) (fun c_9 => absurd c_9 (by decide))
  refine tp_pc (pc' := 28) (by rfl) ?_
  refine lv_iconst (v := 0) hx hb d_Ref_ends_28 (by decide) ?_
  refine lv_istore_n (lv' := [(2, .int 0), (0, .ref ra), (1, .int (nI dp))]) hx hb d_Ref_ends_29 rfl hl (by decide) rfl ?_
  clear hl ls
  intro ls hl
  refine lv_iload_n hx hb d_Ref_ends_30 rfl (lv_at hl 0 rfl) ?_
  refine lv_iconst (v := 3) hx hb d_Ref_ends_31 (by decide) ?_
  refine lv_icmp_ge (tgt := 102) hx hb d_Ref_ends_32 (by decide) (fun c_10 => absurd c_10 (by decide)) (fun c_10 => ?_)
  refine tp_pc (pc' := 35) (by rfl) ?_
  refine lv_aload_n hx hb d_Ref_ends_35 rfl (lv_at hl 1 rfl) ?_
  refine va_get (D := (dC, dI)) (ci := 8) (v := .ref (rA 28)) (C := R_Ref) (T := F_Ref) (N := 48) hx hb hw i_Ref hown hK hP 0 rfl rfl 28 (by decide) (hw _ m_927) (fun _ h9 => h9) rfl d_Ref_ends_36 ?_
  refine lv_bipush (v := 8) hx hb d_Ref_ends_39 (by decide) ?_
  refine lv_iload_n hx hb d_Ref_ends_41 rfl (lv_at hl 0 rfl) ?_
  refine lv_iadd hx hb d_Ref_ends_42 ?_
  refine tp_i (y := 8) (by first | rfl | decide) ?_
  refine lv_aload_n hx hb d_Ref_ends_43 rfl (lv_at hl 1 rfl) ?_
  refine va_get (D := (dC, dI)) (ci := 8) (v := .int (nI md)) (C := R_Ref) (T := F_Ref) (N := 48) hx hb hw i_Ref hown hK hP 0 rfl rfl 19 (by decide) (hw _ m_918) (fun _ h9 => h9) rfl d_Ref_ends_44 ?_
  refine lv_iconst (v := 3) hx hb d_Ref_ends_47 (by decide) ?_
  refine lv_icmp_ge (tgt := 63) hx hb d_Ref_ends_48 (by decide) (fun c9 => absurd ((nI_leI (a := 3) (b := md) (by omega) (by omega)).mp c9) (by omega)) (fun c9 => ?_)
  refine tp_pc (pc' := 51) (by rfl) ?_
  refine lv_aload_n hx hb d_Ref_ends_51 rfl (lv_at hl 1 rfl) ?_
  refine va_get (D := (dC, dI)) (ci := 8) (v := .ref (rA 16)) (C := R_Ref) (T := F_Ref) (N := 48) hx hb hw i_Ref hown hK hP 0 rfl rfl 16 (by decide) (hw _ m_915) (fun _ h9 => h9) rfl d_Ref_ends_52 ?_
  refine lv_bipush (v := 12) hx hb d_Ref_ends_55 (by decide) ?_
  refine lv_iload_n hx hb d_Ref_ends_57 rfl (lv_at hl 0 rfl) ?_
  refine lv_iadd hx hb d_Ref_ends_58 ?_
  refine tp_i (y := 12) (by first | rfl | decide) ?_
  refine va_iald (D := (dC, dI)) hx hb hK hP 1 0 rfl rfl (i := 12) (pk_in 12 155 (by omega)) d_Ref_ends_59 ?_
  refine tp_i (y := sf 12) (by rw [show (12 : Int32).toNatClampNeg = 12 from pk_cl 12]) ?_
  refine lv_goto (tgt := 95) hx hb d_Ref_ends_60 (by decide) ?_
  refine tp_pc (pc' := 95) (by rfl) ?_
  refine va_iast (D := (dC, dI)) hx hb hK hP (dd_D hD rfl) hS 2 1 rfl rfl (i := 8) (x := sf 12) (pk_in 8 11 (by omega)) d_Ref_ends_95 ?_
  clear hP hS locs H
  intro H locs hP _ hS
  rw [show (8 : Int32).toNatClampNeg = 8 from pk_cl 8] at hP
  replace hP : va_P (dC, dI) classes [oc ra 8 [.int (nI T), .int (nI Ac), .ref (rA 2), .ref (rA 3), .ref (rA 4), .ref (rA 5), .ref (rA 6), .ref (rA 7), .ref (rA 8), .ref (rA 9), .ref (rA 10), .ref (rA 11), .ref (rA 12), .ref (rA 13), .int ir, .ref (rA 15), .ref (rA 16), .ref (rA 17), .ref (rA 18), .int (nI md), .int (nI wd), .ref (rA 21), .ref (rA 22), .ref (rA 23), .int (nI mn), .ref (rA 25), .int (nI cb), .int mr, .ref (rA 28), .ref (rA 29), .ref (rA 30), .ref (rA 31), .ref (rA 32), .ref (rA 33), .ref (rA 34), .ref (rA 35), .int (nI ld), .int (nI gm), .ref (rA 38), .ref (rA 39), .ref (rA 40), .ref (rA 41), .ref (rA 42), .ref (rA 43), .ref (rA 44), .ref (rA 45), .int (nI my), .ref (rA 47)], ia (rA 16) (rK9 16) 155 sf, ia (rA 28) (rK9 28) 11 (upd (upd (upd (upd (upd (upd (upd (upd (upd nw9 0 (sf 4)) 1 (sf 5)) 2 (sf 6)) 3 (sf 7)) 4 (sf 8)) 5 (sf 9)) 6 (sf 10)) 7 (sf 11)) 8 (sf 12)), ia (rA 9) (rK9 9) 352000 oc9, ia (rA 8) (rK9 8) 8 (fun i => nI (om i)), ia (rA 12) (rK9 12) 32000 (fun i => nI (or9 i)), ia (rA 11) (rK9 11) 16000 (fun i => nI (ws i)), ia (rA 10) (rK9 10) 256000 wi, ia (rA 18) (rK9 18) 17 sp9] H := hP
  refine tp_pc (pc' := 96) (by rfl) ?_
  refine lv_iinc (v := 1) (lv' := [(2, .int 1), (0, .ref ra), (1, .int (nI dp))]) hx hb d_Ref_ends_96 hl (k := 0) rfl (by first | rfl | decide) (by decide) rfl ?_
  clear hl ls
  intro ls hl
  refine lv_goto (tgt := 30) hx hb d_Ref_ends_99 (by decide) ?_
  refine tp_pc (pc' := 30) (by rfl) ?_
  refine lv_iload_n hx hb d_Ref_ends_30 rfl (lv_at hl 0 rfl) ?_
  refine lv_iconst (v := 3) hx hb d_Ref_ends_31 (by decide) ?_
  refine lv_icmp_ge (tgt := 102) hx hb d_Ref_ends_32 (by decide) (fun c_11 => absurd c_11 (by decide)) (fun c_11 => ?_)
  refine tp_pc (pc' := 35) (by rfl) ?_
  refine lv_aload_n hx hb d_Ref_ends_35 rfl (lv_at hl 1 rfl) ?_
  refine va_get (D := (dC, dI)) (ci := 8) (v := .ref (rA 28)) (C := R_Ref) (T := F_Ref) (N := 48) hx hb hw i_Ref hown hK hP 0 rfl rfl 28 (by decide) (hw _ m_927) (fun _ h9 => h9) rfl d_Ref_ends_36 ?_
  refine lv_bipush (v := 8) hx hb d_Ref_ends_39 (by decide) ?_
  refine lv_iload_n hx hb d_Ref_ends_41 rfl (lv_at hl 0 rfl) ?_
  refine lv_iadd hx hb d_Ref_ends_42 ?_
  refine tp_i (y := 9) (by first | rfl | decide) ?_
  refine lv_aload_n hx hb d_Ref_ends_43 rfl (lv_at hl 1 rfl) ?_
  refine va_get (D := (dC, dI)) (ci := 8) (v := .int (nI md)) (C := R_Ref) (T := F_Ref) (N := 48) hx hb hw i_Ref hown hK hP 0 rfl rfl 19 (by decide) (hw _ m_918) (fun _ h9 => h9) rfl d_Ref_ends_44 ?_
  refine lv_iconst (v := 3) hx hb d_Ref_ends_47 (by decide) ?_
  refine lv_icmp_ge (tgt := 63) hx hb d_Ref_ends_48 (by decide) (fun c9 => absurd ((nI_leI (a := 3) (b := md) (by omega) (by omega)).mp c9) (by omega)) (fun c9 => ?_)
  refine tp_pc (pc' := 51) (by rfl) ?_
  refine lv_aload_n hx hb d_Ref_ends_51 rfl (lv_at hl 1 rfl) ?_
  refine va_get (D := (dC, dI)) (ci := 8) (v := .ref (rA 16)) (C := R_Ref) (T := F_Ref) (N := 48) hx hb hw i_Ref hown hK hP 0 rfl rfl 16 (by decide) (hw _ m_915) (fun _ h9 => h9) rfl d_Ref_ends_52 ?_
  refine lv_bipush (v := 12) hx hb d_Ref_ends_55 (by decide) ?_
  refine lv_iload_n hx hb d_Ref_ends_57 rfl (lv_at hl 0 rfl) ?_
  refine lv_iadd hx hb d_Ref_ends_58 ?_
  refine tp_i (y := 13) (by first | rfl | decide) ?_
  refine va_iald (D := (dC, dI)) hx hb hK hP 1 0 rfl rfl (i := 13) (pk_in 13 155 (by omega)) d_Ref_ends_59 ?_
  refine tp_i (y := sf 13) (by rw [show (13 : Int32).toNatClampNeg = 13 from pk_cl 13]) ?_
  refine lv_goto (tgt := 95) hx hb d_Ref_ends_60 (by decide) ?_
  refine tp_pc (pc' := 95) (by rfl) ?_
  refine va_iast (D := (dC, dI)) hx hb hK hP (dd_D hD rfl) hS 2 1 rfl rfl (i := 9) (x := sf 13) (pk_in 9 11 (by omega)) d_Ref_ends_95 ?_
  clear hP hS locs H
  intro H locs hP _ hS
  rw [show (9 : Int32).toNatClampNeg = 9 from pk_cl 9] at hP
  replace hP : va_P (dC, dI) classes [oc ra 8 [.int (nI T), .int (nI Ac), .ref (rA 2), .ref (rA 3), .ref (rA 4), .ref (rA 5), .ref (rA 6), .ref (rA 7), .ref (rA 8), .ref (rA 9), .ref (rA 10), .ref (rA 11), .ref (rA 12), .ref (rA 13), .int ir, .ref (rA 15), .ref (rA 16), .ref (rA 17), .ref (rA 18), .int (nI md), .int (nI wd), .ref (rA 21), .ref (rA 22), .ref (rA 23), .int (nI mn), .ref (rA 25), .int (nI cb), .int mr, .ref (rA 28), .ref (rA 29), .ref (rA 30), .ref (rA 31), .ref (rA 32), .ref (rA 33), .ref (rA 34), .ref (rA 35), .int (nI ld), .int (nI gm), .ref (rA 38), .ref (rA 39), .ref (rA 40), .ref (rA 41), .ref (rA 42), .ref (rA 43), .ref (rA 44), .ref (rA 45), .int (nI my), .ref (rA 47)], ia (rA 16) (rK9 16) 155 sf, ia (rA 28) (rK9 28) 11 (upd (upd (upd (upd (upd (upd (upd (upd (upd (upd nw9 0 (sf 4)) 1 (sf 5)) 2 (sf 6)) 3 (sf 7)) 4 (sf 8)) 5 (sf 9)) 6 (sf 10)) 7 (sf 11)) 8 (sf 12)) 9 (sf 13)), ia (rA 9) (rK9 9) 352000 oc9, ia (rA 8) (rK9 8) 8 (fun i => nI (om i)), ia (rA 12) (rK9 12) 32000 (fun i => nI (or9 i)), ia (rA 11) (rK9 11) 16000 (fun i => nI (ws i)), ia (rA 10) (rK9 10) 256000 wi, ia (rA 18) (rK9 18) 17 sp9] H := hP
  refine tp_pc (pc' := 96) (by rfl) ?_
  refine lv_iinc (v := 2) (lv' := [(2, .int 2), (0, .ref ra), (1, .int (nI dp))]) hx hb d_Ref_ends_96 hl (k := 0) rfl (by first | rfl | decide) (by decide) rfl ?_
  clear hl ls
  intro ls hl
  refine lv_goto (tgt := 30) hx hb d_Ref_ends_99 (by decide) ?_
  refine tp_pc (pc' := 30) (by rfl) ?_
  refine lv_iload_n hx hb d_Ref_ends_30 rfl (lv_at hl 0 rfl) ?_
  refine lv_iconst (v := 3) hx hb d_Ref_ends_31 (by decide) ?_
  refine lv_icmp_ge (tgt := 102) hx hb d_Ref_ends_32 (by decide) (fun c_12 => absurd c_12 (by decide)) (fun c_12 => ?_)
  refine tp_pc (pc' := 35) (by rfl) ?_
  refine lv_aload_n hx hb d_Ref_ends_35 rfl (lv_at hl 1 rfl) ?_
  refine va_get (D := (dC, dI)) (ci := 8) (v := .ref (rA 28)) (C := R_Ref) (T := F_Ref) (N := 48) hx hb hw i_Ref hown hK hP 0 rfl rfl 28 (by decide) (hw _ m_927) (fun _ h9 => h9) rfl d_Ref_ends_36 ?_
  refine lv_bipush (v := 8) hx hb d_Ref_ends_39 (by decide) ?_
  refine lv_iload_n hx hb d_Ref_ends_41 rfl (lv_at hl 0 rfl) ?_
  refine lv_iadd hx hb d_Ref_ends_42 ?_
  refine tp_i (y := 10) (by first | rfl | decide) ?_
  refine lv_aload_n hx hb d_Ref_ends_43 rfl (lv_at hl 1 rfl) ?_
  refine va_get (D := (dC, dI)) (ci := 8) (v := .int (nI md)) (C := R_Ref) (T := F_Ref) (N := 48) hx hb hw i_Ref hown hK hP 0 rfl rfl 19 (by decide) (hw _ m_918) (fun _ h9 => h9) rfl d_Ref_ends_44 ?_
  refine lv_iconst (v := 3) hx hb d_Ref_ends_47 (by decide) ?_
  refine lv_icmp_ge (tgt := 63) hx hb d_Ref_ends_48 (by decide) (fun c9 => absurd ((nI_leI (a := 3) (b := md) (by omega) (by omega)).mp c9) (by omega)) (fun c9 => ?_)
  refine tp_pc (pc' := 51) (by rfl) ?_
  refine lv_aload_n hx hb d_Ref_ends_51 rfl (lv_at hl 1 rfl) ?_
  refine va_get (D := (dC, dI)) (ci := 8) (v := .ref (rA 16)) (C := R_Ref) (T := F_Ref) (N := 48) hx hb hw i_Ref hown hK hP 0 rfl rfl 16 (by decide) (hw _ m_915) (fun _ h9 => h9) rfl d_Ref_ends_52 ?_
  refine lv_bipush (v := 12) hx hb d_Ref_ends_55 (by decide) ?_
  refine lv_iload_n hx hb d_Ref_ends_57 rfl (lv_at hl 0 rfl) ?_
  refine lv_iadd hx hb d_Ref_ends_58 ?_
  refine tp_i (y := 14) (by first | rfl | decide) ?_
  refine va_iald (D := (dC, dI)) hx hb hK hP 1 0 rfl rfl (i := 14) (pk_in 14 155 (by omega)) d_Ref_ends_59 ?_
  refine tp_i (y := sf 14) (by rw [show (14 : Int32).toNatClampNeg = 14 from pk_cl 14]) ?_
  refine lv_goto (tgt := 95) hx hb d_Ref_ends_60 (by decide) ?_
  refine tp_pc (pc' := 95) (by rfl) ?_
  refine va_iast (D := (dC, dI)) hx hb hK hP (dd_D hD rfl) hS 2 1 rfl rfl (i := 10) (x := sf 14) (pk_in 10 11 (by omega)) d_Ref_ends_95 ?_
  clear hP hS locs H
  intro H locs hP _ hS
  rw [show (10 : Int32).toNatClampNeg = 10 from pk_cl 10] at hP
  replace hP : va_P (dC, dI) classes [oc ra 8 [.int (nI T), .int (nI Ac), .ref (rA 2), .ref (rA 3), .ref (rA 4), .ref (rA 5), .ref (rA 6), .ref (rA 7), .ref (rA 8), .ref (rA 9), .ref (rA 10), .ref (rA 11), .ref (rA 12), .ref (rA 13), .int ir, .ref (rA 15), .ref (rA 16), .ref (rA 17), .ref (rA 18), .int (nI md), .int (nI wd), .ref (rA 21), .ref (rA 22), .ref (rA 23), .int (nI mn), .ref (rA 25), .int (nI cb), .int mr, .ref (rA 28), .ref (rA 29), .ref (rA 30), .ref (rA 31), .ref (rA 32), .ref (rA 33), .ref (rA 34), .ref (rA 35), .int (nI ld), .int (nI gm), .ref (rA 38), .ref (rA 39), .ref (rA 40), .ref (rA 41), .ref (rA 42), .ref (rA 43), .ref (rA 44), .ref (rA 45), .int (nI my), .ref (rA 47)], ia (rA 16) (rK9 16) 155 sf, ia (rA 28) (rK9 28) 11 (upd (upd (upd (upd (upd (upd (upd (upd (upd (upd (upd nw9 0 (sf 4)) 1 (sf 5)) 2 (sf 6)) 3 (sf 7)) 4 (sf 8)) 5 (sf 9)) 6 (sf 10)) 7 (sf 11)) 8 (sf 12)) 9 (sf 13)) 10 (sf 14)), ia (rA 9) (rK9 9) 352000 oc9, ia (rA 8) (rK9 8) 8 (fun i => nI (om i)), ia (rA 12) (rK9 12) 32000 (fun i => nI (or9 i)), ia (rA 11) (rK9 11) 16000 (fun i => nI (ws i)), ia (rA 10) (rK9 10) 256000 wi, ia (rA 18) (rK9 18) 17 sp9] H := hP
  refine tp_pc (pc' := 96) (by rfl) ?_
  refine lv_iinc (v := 3) (lv' := [(2, .int 3), (0, .ref ra), (1, .int (nI dp))]) hx hb d_Ref_ends_96 hl (k := 0) rfl (by first | rfl | decide) (by decide) rfl ?_
  clear hl ls
  intro ls hl
  refine lv_goto (tgt := 30) hx hb d_Ref_ends_99 (by decide) ?_
  refine tp_pc (pc' := 30) (by rfl) ?_
  refine lv_iload_n hx hb d_Ref_ends_30 rfl (lv_at hl 0 rfl) ?_
  refine lv_iconst (v := 3) hx hb d_Ref_ends_31 (by decide) ?_
  refine lv_icmp_ge (tgt := 102) hx hb d_Ref_ends_32 (by decide) (fun c_13 => ?_) (fun c_13 => absurd c_13 (by decide))
  refine tp_pc (pc' := 102) (by rfl) ?_
  have hz : ∀ j, j < 11 → (upd (upd (upd (upd (upd (upd (upd (upd (upd (upd (upd nw9 0 (sf 4)) 1 (sf 5)) 2 (sf 6)) 3 (sf 7)) 4 (sf 8)) 5 (sf 9)) 6 (sf 10)) 7 (sf 11)) 8 (sf 12)) 9 (sf 13)) 10 (sf 14)) j = nv j := fun j hj => by
    rcases (by omega : j = 0 ∨ j = 1 ∨ j = 2 ∨ j = 3 ∨ j = 4 ∨ j = 5 ∨ j = 6 ∨ j = 7 ∨ j = 8 ∨ j = 9 ∨ j = 10) with rfl | rfl | rfl | rfl | rfl | rfl | rfl | rfl | rfl | rfl | rfl
    · exact (hv1 0 (by decide)).symm
    · exact (hv1 1 (by decide)).symm
    · exact (hv1 2 (by decide)).symm
    · exact (hv1 3 (by decide)).symm
    · exact (hv1 4 (by decide)).symm
    · exact (hv1 5 (by decide)).symm
    · exact (hv1 6 (by decide)).symm
    · exact (hv1 7 (by decide)).symm
    · exact (hv2 0 (by decide)).symm
    · exact (hv2 1 (by decide)).symm
    · exact (hv2 2 (by decide)).symm
  replace hP : va_P (dC, dI) classes [oc ra 8 [.int (nI T), .int (nI Ac), .ref (rA 2), .ref (rA 3), .ref (rA 4), .ref (rA 5), .ref (rA 6), .ref (rA 7), .ref (rA 8), .ref (rA 9), .ref (rA 10), .ref (rA 11), .ref (rA 12), .ref (rA 13), .int ir, .ref (rA 15), .ref (rA 16), .ref (rA 17), .ref (rA 18), .int (nI md), .int (nI wd), .ref (rA 21), .ref (rA 22), .ref (rA 23), .int (nI mn), .ref (rA 25), .int (nI cb), .int mr, .ref (rA 28), .ref (rA 29), .ref (rA 30), .ref (rA 31), .ref (rA 32), .ref (rA 33), .ref (rA 34), .ref (rA 35), .int (nI ld), .int (nI gm), .ref (rA 38), .ref (rA 39), .ref (rA 40), .ref (rA 41), .ref (rA 42), .ref (rA 43), .ref (rA 44), .ref (rA 45), .int (nI my), .ref (rA 47)], ia (rA 16) (rK9 16) 155 sf, ia (rA 28) (rK9 28) 11 nv, ia (rA 9) (rK9 9) 352000 oc9, ia (rA 8) (rK9 8) 8 (fun i => nI (om i)), ia (rA 12) (rK9 12) 32000 (fun i => nI (or9 i)), ia (rA 11) (rK9 11) 16000 (fun i => nI (ws i)), ia (rA 10) (rK9 10) 256000 wi, ia (rA 18) (rK9 18) 17 sp9] H := P_cg (f := nv) 2 rfl hz hP
  refine lv_aload_n hx hb d_Ref_ends_102 rfl (lv_at hl 1 rfl) ?_
  refine lv_aload_n hx hb d_Ref_ends_103 rfl (lv_at hl 1 rfl) ?_
  refine va_get (D := (dC, dI)) (ci := 8) (v := .int (nI md)) (C := R_Ref) (T := F_Ref) (N := 48) hx hb hw i_Ref hown hK hP 0 rfl rfl 19 (by decide) (hw _ m_918) (fun _ h9 => h9) rfl d_Ref_ends_104 ?_
  obtain ⟨hPc, hDc, hFc⟩ := cut3 (wc := [oc ra 8 [.int (nI T), .int (nI Ac), .ref (rA 2), .ref (rA 3), .ref (rA 4), .ref (rA 5), .ref (rA 6), .ref (rA 7), .ref (rA 8), .ref (rA 9), .ref (rA 10), .ref (rA 11), .ref (rA 12), .ref (rA 13), .int ir, .ref (rA 15), .ref (rA 16), .ref (rA 17), .ref (rA 18), .int (nI md), .int (nI wd), .ref (rA 21), .ref (rA 22), .ref (rA 23), .int (nI mn), .ref (rA 25), .int (nI cb), .int mr, .ref (rA 28), .ref (rA 29), .ref (rA 30), .ref (rA 31), .ref (rA 32), .ref (rA 33), .ref (rA 34), .ref (rA 35), .int (nI ld), .int (nI gm), .ref (rA 38), .ref (rA 39), .ref (rA 40), .ref (rA 41), .ref (rA 42), .ref (rA 43), .ref (rA 44), .ref (rA 45), .int (nI my), .ref (rA 47)], ia (rA 28) (rK9 28) 11 nv, ia (rA 9) (rK9 9) 352000 oc9, ia (rA 8) (rK9 8) 8 (fun i => nI (om i)), ia (rA 12) (rK9 12) 32000 (fun i => nI (or9 i))]) hP hD rfl hS hA [0, 2, 3, 4, 5] (by decide +kernel) rfl
  have hKc := hK.sub (tys' := [((rK9 28), .int), ((rK9 9), .short), ((rK9 8), .int), ((rK9 12), .int)]) [1, 2, 3, 4] rfl
  refine va_calli (va_runV (As := [.int (nI md)]) (rest := []) ⟨hx, hb, hml, hown, hw⟩ (gen_Ref_addOutcome_full l dC dI ra rA rK9 T Ac md wd mn cb ld gm my ir mr md n p9 nv oc9 om or9 (by omega) hn4 hom hor hp9 h1 h2 H.size) (cw_V 1 hw g_Ref_addOutcome rfl rfl rfl (hw _ m_109) (hw _ m_1162) (hw _ m_1164) (hw _ m_75) (by decide +kernel) ⟨Nat.le_of_ble_eq_true rfl, Nat.le_of_ble_eq_true rfl⟩) ⟨fun a U g mk q => by obtain ⟨q0, q1, qP, qK, qD, qN⟩ := q; exact ⟨q0, q1, qP, va_K.moved (u := U) (U := U.calling g mk a) (Vm.Alike.refl U.vm) qK, qD, nw_call qN⟩, va_recv hKc hPc (ci := 8) (q0 := 0) rfl rfl, fun U hU hW => ⟨rfl, by rw [hU], by rw [hU]; exact hPc, va_K.moved hW.alike hKc, hDc.weaken (fun _ _ _ _ => trivial), nw_warm hW hn⟩⟩ rfl rfl hl.1 rfl (lv_room (Nat.le_of_ble_eq_true rfl)) d_Ref_ends_107 ⟨Nat.le_of_ble_eq_true rfl, Nat.le_of_ble_eq_true rfl⟩) hS (fun q _ h => hFc q h) hFc ?_
  intro r_14 u t9 H1 locs1 ht9 hvm hw1 hB hz1 hk1 hS1
  obtain ⟨hP1, hK1, hD1⟩ := hB
  rw [ht9] at hP1
  replace hK1 := va_K.moved hvm.symm hK1
  have hPD := join3 hP hD rfl [0, 2, 3, 4, 5] [1, 6, 7, 8] rfl (by rfl) (by decide +kernel) (by decide +kernel) hk1 hFc hP1 hD1
  replace hK : va_K (dC, dI) classes [((rK9 16), .int), ((rK9 28), .int), ((rK9 9), .short), ((rK9 8), .int), ((rK9 12), .int), ((rK9 11), .int), ((rK9 10), .short), ((rK9 18), .int)] s := hK.app hK1
  clear hP1 hK1 hD1 hk1 hz1 hFc hKc hDc hPc hvm ht9 hP hS t9 locs H
  have hP : va_P (dC, dI) classes [ia (rA 16) (rK9 16) 155 sf, ia (rA 11) (rK9 11) 16000 (fun i => nI (ws i)), ia (rA 10) (rK9 10) 256000 wi, ia (rA 18) (rK9 18) 17 sp9, oc ra 8 [.int (nI T), .int (nI Ac), .ref (rA 2), .ref (rA 3), .ref (rA 4), .ref (rA 5), .ref (rA 6), .ref (rA 7), .ref (rA 8), .ref (rA 9), .ref (rA 10), .ref (rA 11), .ref (rA 12), .ref (rA 13), .int ir, .ref (rA 15), .ref (rA 16), .ref (rA 17), .ref (rA 18), .int (nI md), .int (nI wd), .ref (rA 21), .ref (rA 22), .ref (rA 23), .int (nI mn), .ref (rA 25), .int (nI cb), .int mr, .ref (rA 28), .ref (rA 29), .ref (rA 30), .ref (rA 31), .ref (rA 32), .ref (rA 33), .ref (rA 34), .ref (rA 35), .int (nI ld), .int (nI gm), .ref (rA 38), .ref (rA 39), .ref (rA 40), .ref (rA 41), .ref (rA 42), .ref (rA 43), .ref (rA 44), .ref (rA 45), .int (nI my), .ref (rA 47)], ia (rA 28) (rK9 28) 11 nv, ia (rA 9) (rK9 9) 352000 oc9, ia (rA 8) (rK9 8) 8 (fun i => nI (om i)), ia (rA 12) (rK9 12) 32000 (fun i => nI (or9 i))] H1 := hPD.1
  replace hD : dd A [(rA 16), (rA 11), (rA 10), (rA 18), ra, (rA 28), (rA 9), (rA 8), (rA 12)] := dd_of hPD.2 rfl
  clear hPD
  revert H1 locs1
  intro H locs hS hP
  refine tp_i (y := (-1)) (hw1) ?_
  clear hw1 r_14 u
  refine tp_pc (pc' := 110) (by rfl) ?_
  refine lv_istore_n (lv' := [(2, .int (-1)), (0, .ref ra), (1, .int (nI dp))]) hx hb d_Ref_ends_110 rfl hl (by decide) rfl ?_
  clear hl ls
  intro ls hl
  refine lv_iload_n hx hb d_Ref_ends_111 rfl (lv_at hl 0 rfl) ?_
  refine lv_if_lt (tgt := 168) hx hb d_Ref_ends_112 (by decide) (fun c_15 => ?_) (fun c_15 => absurd c_15 (by decide))
  refine tp_pc (pc' := 168) (by rfl) ?_
  obtain ⟨hP9, hD9, -⟩ := cut3 (wc := [oc ra 8 [.int (nI T), .int (nI Ac), .ref (rA 2), .ref (rA 3), .ref (rA 4), .ref (rA 5), .ref (rA 6), .ref (rA 7), .ref (rA 8), .ref (rA 9), .ref (rA 10), .ref (rA 11), .ref (rA 12), .ref (rA 13), .int ir, .ref (rA 15), .ref (rA 16), .ref (rA 17), .ref (rA 18), .int (nI md), .int (nI wd), .ref (rA 21), .ref (rA 22), .ref (rA 23), .int (nI mn), .ref (rA 25), .int (nI cb), .int mr, .ref (rA 28), .ref (rA 29), .ref (rA 30), .ref (rA 31), .ref (rA 32), .ref (rA 33), .ref (rA 34), .ref (rA 35), .int (nI ld), .int (nI gm), .ref (rA 38), .ref (rA 39), .ref (rA 40), .ref (rA 41), .ref (rA 42), .ref (rA 43), .ref (rA 44), .ref (rA 45), .int (nI my), .ref (rA 47)], ia (rA 16) (rK9 16) 155 sf, ia (rA 28) (rK9 28) 11 nv, ia (rA 9) (rK9 9) 352000 oc9, ia (rA 8) (rK9 8) 8 (fun i => nI (om i)), ia (rA 12) (rK9 12) 32000 (fun i => nI (or9 i)), ia (rA 11) (rK9 11) 16000 (fun i => nI (ws i)), ia (rA 10) (rK9 10) 256000 wi, ia (rA 18) (rK9 18) 17 sp9]) hP hD rfl hS hA [4, 0, 5, 6, 7, 8, 1, 2, 3] (by decide +kernel) rfl
  have hK9 := hK.sub (tys' := []) [] rfl
  refine W.widen (k := 0) (n := 0) (by exact Nat.le_of_ble_eq_true rfl) (by exact Nat.le_of_ble_eq_true rfl) ?_
  exact W.vret hx hb hr (fun t9 ht9 hW => ⟨⟨(), rfl, trivial, by rw [ht9]; exact hP9, va_K.moved hW.alike hK9, hD9⟩, hS.F ht9⟩) hS.2.2 d_Ref_ends_168
set_option maxHeartbeats 4000000 in
set_option maxRecDepth 100000 in
theorem gen_Ref_ends_3f (l : Launch) (dC : Nat → ClassId) (dI : Nat → Nat → Nat) (ra : Nat) (rA : Nat → Nat) (rK9 : Nat → ClassId) (T Ac md wd mn cb ld gm my : Nat) (ir mr : Int32) (dp n p9 : Nat) (sf nw9 nv oc9 wi sp9 : Nat → Int32) (om or9 ws zz la : Nat → Nat) (hmd : md = 3) (hla : ∀ x, x < 3 → sf (37 + x) = nI (zz x) ∧ 1 ≤ zz x ∧ zz x ≤ 8 ∧ sf (41 + 8 * x + zz x - 1) = nI (la x) ∧ la x < 11) (hv2 : ∀ x, x < 3 → nv (8 + x) = sf (73 + la x)) (hdp : dp ≤ 16) (hv1 : ∀ k, k < 8 → nv k = sf (4 + k)) (hn4 : n = 4000) (hom : om md = n) (hor : ∀ i, i < n → or9 (4000 * md + i) < n) (hp9 : p9 ≤ n) (h1 : ∀ i, i < p9 → 0 < agF nv (fun j => oc9 (11 * (4000 * md + or9 (4000 * md + i)) + j)) 11 0) (h2 : ∀ i, p9 ≤ i → i < n → ¬ 0 < agF nv (fun j => oc9 (11 * (4000 * md + or9 (4000 * md + i)) + j)) 11 0) (sz : Nat) : Met l y_Ref_ends w_Ref_ends ({ frames := 2, cells := 0, slots := 0, locals := 100 }) (va_Pc [.ref ra, .int (nI dp)] (fun U => U.heap.size = sz ∧ va_P (dC, dI) classes [oc ra 8 [.int (nI T), .int (nI Ac), .ref (rA 2), .ref (rA 3), .ref (rA 4), .ref (rA 5), .ref (rA 6), .ref (rA 7), .ref (rA 8), .ref (rA 9), .ref (rA 10), .ref (rA 11), .ref (rA 12), .ref (rA 13), .int ir, .ref (rA 15), .ref (rA 16), .ref (rA 17), .ref (rA 18), .int (nI md), .int (nI wd), .ref (rA 21), .ref (rA 22), .ref (rA 23), .int (nI mn), .ref (rA 25), .int (nI cb), .int mr, .ref (rA 28), .ref (rA 29), .ref (rA 30), .ref (rA 31), .ref (rA 32), .ref (rA 33), .ref (rA 34), .ref (rA 35), .int (nI ld), .int (nI gm), .ref (rA 38), .ref (rA 39), .ref (rA 40), .ref (rA 41), .ref (rA 42), .ref (rA 43), .ref (rA 44), .ref (rA 45), .int (nI my), .ref (rA 47)], ia (rA 16) (rK9 16) 155 sf, ia (rA 28) (rK9 28) 11 nw9, ia (rA 9) (rK9 9) 352000 oc9, ia (rA 8) (rK9 8) 8 (fun i => nI (om i)), ia (rA 12) (rK9 12) 32000 (fun i => nI (or9 i)), ia (rA 11) (rK9 11) 16000 (fun i => nI (ws i)), ia (rA 10) (rK9 10) 256000 wi, ia (rA 18) (rK9 18) 17 sp9] U.heap ∧ va_K (dC, dI) classes [((rK9 16), .int), ((rK9 28), .int), ((rK9 9), .short), ((rK9 8), .int), ((rK9 12), .int), ((rK9 11), .int), ((rK9 10), .short), ((rK9 18), .int)] U ∧ va_D (fun _ => True) [oc ra 8 [.int (nI T), .int (nI Ac), .ref (rA 2), .ref (rA 3), .ref (rA 4), .ref (rA 5), .ref (rA 6), .ref (rA 7), .ref (rA 8), .ref (rA 9), .ref (rA 10), .ref (rA 11), .ref (rA 12), .ref (rA 13), .int ir, .ref (rA 15), .ref (rA 16), .ref (rA 17), .ref (rA 18), .int (nI md), .int (nI wd), .ref (rA 21), .ref (rA 22), .ref (rA 23), .int (nI mn), .ref (rA 25), .int (nI cb), .int mr, .ref (rA 28), .ref (rA 29), .ref (rA 30), .ref (rA 31), .ref (rA 32), .ref (rA 33), .ref (rA 34), .ref (rA 35), .int (nI ld), .int (nI gm), .ref (rA 38), .ref (rA 39), .ref (rA 40), .ref (rA 41), .ref (rA 42), .ref (rA 43), .ref (rA 44), .ref (rA 45), .int (nI my), .ref (rA 47)], ia (rA 16) (rK9 16) 155 sf, ia (rA 28) (rK9 28) 11 nw9, ia (rA 9) (rK9 9) 352000 oc9, ia (rA 8) (rK9 8) 8 (fun i => nI (om i)), ia (rA 12) (rK9 12) 32000 (fun i => nI (or9 i)), ia (rA 11) (rK9 11) 16000 (fun i => nI (ws i)), ia (rA 10) (rK9 10) 256000 wi, ia (rA 18) (rK9 18) 17 sp9] ∧ nw U)) (va_Qv (fun _ : Unit => True) (fun _ t9 => va_P (dC, dI) classes [oc ra 8 [.int (nI T), .int (nI Ac), .ref (rA 2), .ref (rA 3), .ref (rA 4), .ref (rA 5), .ref (rA 6), .ref (rA 7), .ref (rA 8), .ref (rA 9), .ref (rA 10), .ref (rA 11), .ref (rA 12), .ref (rA 13), .int ir, .ref (rA 15), .ref (rA 16), .ref (rA 17), .ref (rA 18), .int (nI md), .int (nI wd), .ref (rA 21), .ref (rA 22), .ref (rA 23), .int (nI mn), .ref (rA 25), .int (nI cb), .int mr, .ref (rA 28), .ref (rA 29), .ref (rA 30), .ref (rA 31), .ref (rA 32), .ref (rA 33), .ref (rA 34), .ref (rA 35), .int (nI ld), .int (nI gm), .ref (rA 38), .ref (rA 39), .ref (rA 40), .ref (rA 41), .ref (rA 42), .ref (rA 43), .ref (rA 44), .ref (rA 45), .int (nI my), .ref (rA 47)], ia (rA 16) (rK9 16) 155 sf, ia (rA 28) (rK9 28) 11 nv, ia (rA 9) (rK9 9) 352000 oc9, ia (rA 8) (rK9 8) 8 (fun i => nI (om i)), ia (rA 12) (rK9 12) 32000 (fun i => nI (or9 i)), ia (rA 11) (rK9 11) 16000 (fun i => nI (ws i)), ia (rA 10) (rK9 10) 256000 wi, ia (rA 18) (rK9 18) 17 sp9] t9.heap ∧ va_K (dC, dI) classes [] t9 ∧ va_D (va_A [oc ra 8 [.int (nI T), .int (nI Ac), .ref (rA 2), .ref (rA 3), .ref (rA 4), .ref (rA 5), .ref (rA 6), .ref (rA 7), .ref (rA 8), .ref (rA 9), .ref (rA 10), .ref (rA 11), .ref (rA 12), .ref (rA 13), .int ir, .ref (rA 15), .ref (rA 16), .ref (rA 17), .ref (rA 18), .int (nI md), .int (nI wd), .ref (rA 21), .ref (rA 22), .ref (rA 23), .int (nI mn), .ref (rA 25), .int (nI cb), .int mr, .ref (rA 28), .ref (rA 29), .ref (rA 30), .ref (rA 31), .ref (rA 32), .ref (rA 33), .ref (rA 34), .ref (rA 35), .int (nI ld), .int (nI gm), .ref (rA 38), .ref (rA 39), .ref (rA 40), .ref (rA 41), .ref (rA 42), .ref (rA 43), .ref (rA 44), .ref (rA 45), .int (nI my), .ref (rA 47)], ia (rA 16) (rK9 16) 155 sf, ia (rA 28) (rK9 28) 11 nw9, ia (rA 9) (rK9 9) 352000 oc9, ia (rA 8) (rK9 8) 8 (fun i => nI (om i)), ia (rA 12) (rK9 12) 32000 (fun i => nI (or9 i)), ia (rA 11) (rK9 11) 16000 (fun i => nI (ws i)), ia (rA 10) (rK9 10) 256000 wi, ia (rA 18) (rK9 18) 17 sp9] sz) [oc ra 8 [.int (nI T), .int (nI Ac), .ref (rA 2), .ref (rA 3), .ref (rA 4), .ref (rA 5), .ref (rA 6), .ref (rA 7), .ref (rA 8), .ref (rA 9), .ref (rA 10), .ref (rA 11), .ref (rA 12), .ref (rA 13), .int ir, .ref (rA 15), .ref (rA 16), .ref (rA 17), .ref (rA 18), .int (nI md), .int (nI wd), .ref (rA 21), .ref (rA 22), .ref (rA 23), .int (nI mn), .ref (rA 25), .int (nI cb), .int mr, .ref (rA 28), .ref (rA 29), .ref (rA 30), .ref (rA 31), .ref (rA 32), .ref (rA 33), .ref (rA 34), .ref (rA 35), .int (nI ld), .int (nI gm), .ref (rA 38), .ref (rA 39), .ref (rA 40), .ref (rA 41), .ref (rA 42), .ref (rA 43), .ref (rA 44), .ref (rA 45), .int (nI my), .ref (rA 47)], ia (rA 16) (rK9 16) 155 sf, ia (rA 28) (rK9 28) 11 nv, ia (rA 9) (rK9 9) 352000 oc9, ia (rA 8) (rK9 8) 8 (fun i => nI (om i)), ia (rA 12) (rK9 12) 32000 (fun i => nI (or9 i)), ia (rA 11) (rK9 11) 16000 (fun i => nI (ws i)), ia (rA 10) (rK9 10) 256000 wi, ia (rA 18) (rK9 18) 17 sp9]) (va_A [oc ra 8 [.int (nI T), .int (nI Ac), .ref (rA 2), .ref (rA 3), .ref (rA 4), .ref (rA 5), .ref (rA 6), .ref (rA 7), .ref (rA 8), .ref (rA 9), .ref (rA 10), .ref (rA 11), .ref (rA 12), .ref (rA 13), .int ir, .ref (rA 15), .ref (rA 16), .ref (rA 17), .ref (rA 18), .int (nI md), .int (nI wd), .ref (rA 21), .ref (rA 22), .ref (rA 23), .int (nI mn), .ref (rA 25), .int (nI cb), .int mr, .ref (rA 28), .ref (rA 29), .ref (rA 30), .ref (rA 31), .ref (rA 32), .ref (rA 33), .ref (rA 34), .ref (rA 35), .int (nI ld), .int (nI gm), .ref (rA 38), .ref (rA 39), .ref (rA 40), .ref (rA 41), .ref (rA 42), .ref (rA 43), .ref (rA 44), .ref (rA 45), .int (nI my), .ref (rA 47)], ia (rA 16) (rK9 16) 155 sf, ia (rA 28) (rK9 28) 11 nw9, ia (rA 9) (rK9 9) 352000 oc9, ia (rA 8) (rK9 8) 8 (fun i => nI (om i)), ia (rA 12) (rK9 12) 32000 (fun i => nI (or9 i)), ia (rA 11) (rK9 11) 16000 (fun i => nI (ws i)), ia (rA 10) (rK9 10) 256000 wi, ia (rA 18) (rK9 18) 17 sp9] sz)) 0 0 (va_A [oc ra 8 [.int (nI T), .int (nI Ac), .ref (rA 2), .ref (rA 3), .ref (rA 4), .ref (rA 5), .ref (rA 6), .ref (rA 7), .ref (rA 8), .ref (rA 9), .ref (rA 10), .ref (rA 11), .ref (rA 12), .ref (rA 13), .int ir, .ref (rA 15), .ref (rA 16), .ref (rA 17), .ref (rA 18), .int (nI md), .int (nI wd), .ref (rA 21), .ref (rA 22), .ref (rA 23), .int (nI mn), .ref (rA 25), .int (nI cb), .int mr, .ref (rA 28), .ref (rA 29), .ref (rA 30), .ref (rA 31), .ref (rA 32), .ref (rA 33), .ref (rA 34), .ref (rA 35), .int (nI ld), .int (nI gm), .ref (rA 38), .ref (rA 39), .ref (rA 40), .ref (rA 41), .ref (rA 42), .ref (rA 43), .ref (rA 44), .ref (rA 45), .int (nI my), .ref (rA 47)], ia (rA 16) (rK9 16) 155 sf, ia (rA 28) (rK9 28) 11 nw9, ia (rA 9) (rK9 9) 352000 oc9, ia (rA 8) (rK9 8) 8 (fun i => nI (om i)), ia (rA 12) (rK9 12) 32000 (fun i => nI (or9 i)), ia (rA 11) (rK9 11) 16000 (fun i => nI (ws i)), ia (rA 10) (rK9 10) 256000 wi, ia (rA 18) (rK9 18) 17 sp9] sz) := by
  refine Met.ofW (cc := b_Ref_ends) (maxL := 5) (ret := none) (by decide) rfl ?_
  intro p e0 s m args below meth c s₁ B hml hv
  obtain ⟨rfl, hsz, hP, hK, hD0, hn⟩ := hv
  have hx := B.exec
  have hb := B.bytes
  have hr := B.returns
  have hw := fun w (h : w ∈ wt) => atoms_spec (ws := w_Ref_ends) B.pre w (List.mem_cons_of_mem _ h)
  have hown : s.vm.findClass R_Ref = some m.cls := findClass_of_methodNamed B.named
  have hlocks := B.notSynchronized
  subst hsz
  have hD1 := hD0.self (sz := s.heap.size)
  generalize hAe : va_A [oc ra 8 [.int (nI T), .int (nI Ac), .ref (rA 2), .ref (rA 3), .ref (rA 4), .ref (rA 5), .ref (rA 6), .ref (rA 7), .ref (rA 8), .ref (rA 9), .ref (rA 10), .ref (rA 11), .ref (rA 12), .ref (rA 13), .int ir, .ref (rA 15), .ref (rA 16), .ref (rA 17), .ref (rA 18), .int (nI md), .int (nI wd), .ref (rA 21), .ref (rA 22), .ref (rA 23), .int (nI mn), .ref (rA 25), .int (nI cb), .int mr, .ref (rA 28), .ref (rA 29), .ref (rA 30), .ref (rA 31), .ref (rA 32), .ref (rA 33), .ref (rA 34), .ref (rA 35), .int (nI ld), .int (nI gm), .ref (rA 38), .ref (rA 39), .ref (rA 40), .ref (rA 41), .ref (rA 42), .ref (rA 43), .ref (rA 44), .ref (rA 45), .int (nI my), .ref (rA 47)], ia (rA 16) (rK9 16) 155 sf, ia (rA 28) (rK9 28) 11 nw9, ia (rA 9) (rK9 9) 352000 oc9, ia (rA 8) (rK9 8) 8 (fun i => nI (om i)), ia (rA 12) (rK9 12) 32000 (fun i => nI (or9 i)), ia (rA 11) (rK9 11) 16000 (fun i => nI (ws i)), ia (rA 10) (rK9 10) 256000 wi, ia (rA 18) (rK9 18) 17 sp9] s.heap.size = A at hD1 ⊢
  have hA : ∀ q : Nat, s.heap.size ≤ q → A q := fun q h => by rw [← hAe]; exact Or.inr h
  have hD : dd A [ra, (rA 16), (rA 28), (rA 9), (rA 8), (rA 12), (rA 11), (rA 10), (rA 18)] := dd_of hD1 rfl
  clear hAe hD0 hD1
  have hS : va_S A s.heap s.heap [] := va_S.rf
  replace hP : va_P (dC, dI) classes [oc ra 8 [.int (nI T), .int (nI Ac), .ref (rA 2), .ref (rA 3), .ref (rA 4), .ref (rA 5), .ref (rA 6), .ref (rA 7), .ref (rA 8), .ref (rA 9), .ref (rA 10), .ref (rA 11), .ref (rA 12), .ref (rA 13), .int ir, .ref (rA 15), .ref (rA 16), .ref (rA 17), .ref (rA 18), .int (nI md), .int (nI wd), .ref (rA 21), .ref (rA 22), .ref (rA 23), .int (nI mn), .ref (rA 25), .int (nI cb), .int mr, .ref (rA 28), .ref (rA 29), .ref (rA 30), .ref (rA 31), .ref (rA 32), .ref (rA 33), .ref (rA 34), .ref (rA 35), .int (nI ld), .int (nI gm), .ref (rA 38), .ref (rA 39), .ref (rA 40), .ref (rA 41), .ref (rA 42), .ref (rA 43), .ref (rA 44), .ref (rA 45), .int (nI my), .ref (rA 47)], ia (rA 16) (rK9 16) 155 sf, ia (rA 28) (rK9 28) 11 nw9, ia (rA 9) (rK9 9) 352000 oc9, ia (rA 8) (rK9 8) 8 (fun i => nI (om i)), ia (rA 12) (rK9 12) 32000 (fun i => nI (or9 i)), ia (rA 11) (rK9 11) 16000 (fun i => nI (ws i)), ia (rA 10) (rK9 10) 256000 wi, ia (rA 18) (rK9 18) 17 sp9] s.heap := hP
  have hl := lv_entry ([.ref ra, .int (nI dp)]) (n := 5) (Nat.le_of_ble_eq_true rfl)
  rw [lg_entry_eq]
  generalize (lg_sl ([.ref ra, .int (nI dp)]) ++ List.replicate (5 - (lg_sl ([.ref ra, .int (nI dp)])).length) Slot.unset).toArray = ls at hl ⊢
  replace hl : lv_has ls 5 [(0, .ref ra), (1, .int (nI dp))] := hl
  obtain ⟨y1, y2, y3, y4, y5⟩ := hla 0 (by decide)
  refine lv_iconst (v := 0) hx hb d_Ref_ends_0 (by decide) ?_
  refine lv_istore_n (lv' := [(2, .int 0), (0, .ref ra), (1, .int (nI dp))]) hx hb d_Ref_ends_1 rfl hl (by decide) rfl ?_
  clear hl ls
  intro ls hl
  refine lv_iload_n hx hb d_Ref_ends_2 rfl (lv_at hl 0 rfl) ?_
  refine lv_bipush (v := 8) hx hb d_Ref_ends_3 (by decide) ?_
  refine lv_icmp_ge (tgt := 28) hx hb d_Ref_ends_5 (by decide) (fun c_1 => absurd c_1 (by decide)) (fun c_1 => ?_)
  refine tp_pc (pc' := 8) (by rfl) ?_
  refine lv_aload_n hx hb d_Ref_ends_8 rfl (lv_at hl 1 rfl) ?_
  refine va_get (D := (dC, dI)) (ci := 8) (v := .ref (rA 28)) (C := R_Ref) (T := F_Ref) (N := 48) hx hb hw i_Ref hown hK hP 0 rfl rfl 28 (by decide) (hw _ m_927) (fun _ h9 => h9) rfl d_Ref_ends_9 ?_
  refine lv_iload_n hx hb d_Ref_ends_12 rfl (lv_at hl 0 rfl) ?_
  refine lv_aload_n hx hb d_Ref_ends_13 rfl (lv_at hl 1 rfl) ?_
  refine va_get (D := (dC, dI)) (ci := 8) (v := .ref (rA 16)) (C := R_Ref) (T := F_Ref) (N := 48) hx hb hw i_Ref hown hK hP 0 rfl rfl 16 (by decide) (hw _ m_915) (fun _ h9 => h9) rfl d_Ref_ends_14 ?_
  refine lv_iconst (v := 4) hx hb d_Ref_ends_17 (by decide) ?_
  refine lv_iload_n hx hb d_Ref_ends_18 rfl (lv_at hl 0 rfl) ?_
  refine lv_iadd hx hb d_Ref_ends_19 ?_
  refine tp_i (y := 4) (by first | rfl | decide) ?_
  refine va_iald (D := (dC, dI)) hx hb hK hP 1 0 rfl rfl (i := 4) (pk_in 4 155 (by omega)) d_Ref_ends_20 ?_
  refine tp_i (y := sf 4) (by rw [show (4 : Int32).toNatClampNeg = 4 from pk_cl 4]) ?_
  refine va_iast (D := (dC, dI)) hx hb hK hP (dd_D hD rfl) hS 2 1 rfl rfl (i := 0) (x := sf 4) (pk_in 0 11 (by omega)) d_Ref_ends_21 ?_
  clear hP hS
  intro H locs hP _ hS
  rw [show (0 : Int32).toNatClampNeg = 0 from pk_cl 0] at hP
  replace hP : va_P (dC, dI) classes [oc ra 8 [.int (nI T), .int (nI Ac), .ref (rA 2), .ref (rA 3), .ref (rA 4), .ref (rA 5), .ref (rA 6), .ref (rA 7), .ref (rA 8), .ref (rA 9), .ref (rA 10), .ref (rA 11), .ref (rA 12), .ref (rA 13), .int ir, .ref (rA 15), .ref (rA 16), .ref (rA 17), .ref (rA 18), .int (nI md), .int (nI wd), .ref (rA 21), .ref (rA 22), .ref (rA 23), .int (nI mn), .ref (rA 25), .int (nI cb), .int mr, .ref (rA 28), .ref (rA 29), .ref (rA 30), .ref (rA 31), .ref (rA 32), .ref (rA 33), .ref (rA 34), .ref (rA 35), .int (nI ld), .int (nI gm), .ref (rA 38), .ref (rA 39), .ref (rA 40), .ref (rA 41), .ref (rA 42), .ref (rA 43), .ref (rA 44), .ref (rA 45), .int (nI my), .ref (rA 47)], ia (rA 16) (rK9 16) 155 sf, ia (rA 28) (rK9 28) 11 (upd nw9 0 (sf 4)), ia (rA 9) (rK9 9) 352000 oc9, ia (rA 8) (rK9 8) 8 (fun i => nI (om i)), ia (rA 12) (rK9 12) 32000 (fun i => nI (or9 i)), ia (rA 11) (rK9 11) 16000 (fun i => nI (ws i)), ia (rA 10) (rK9 10) 256000 wi, ia (rA 18) (rK9 18) 17 sp9] H := hP
  refine tp_pc (pc' := 22) (by rfl) ?_
  refine lv_iinc (v := 1) (lv' := [(2, .int 1), (0, .ref ra), (1, .int (nI dp))]) hx hb d_Ref_ends_22 hl (k := 0) rfl (by first | rfl | decide) (by decide) rfl ?_
  clear hl ls
  intro ls hl
  refine lv_goto (tgt := 2) hx hb d_Ref_ends_25 (by decide) ?_
  refine tp_pc (pc' := 2) (by rfl) ?_
  refine lv_iload_n hx hb d_Ref_ends_2 rfl (lv_at hl 0 rfl) ?_
  refine lv_bipush (v := 8) hx hb d_Ref_ends_3 (by decide) ?_
  refine lv_icmp_ge (tgt := 28) hx hb d_Ref_ends_5 (by decide) (fun c_2 => absurd c_2 (by decide)) (fun c_2 => ?_)
  refine tp_pc (pc' := 8) (by rfl) ?_
  refine lv_aload_n hx hb d_Ref_ends_8 rfl (lv_at hl 1 rfl) ?_
  refine va_get (D := (dC, dI)) (ci := 8) (v := .ref (rA 28)) (C := R_Ref) (T := F_Ref) (N := 48) hx hb hw i_Ref hown hK hP 0 rfl rfl 28 (by decide) (hw _ m_927) (fun _ h9 => h9) rfl d_Ref_ends_9 ?_
  refine lv_iload_n hx hb d_Ref_ends_12 rfl (lv_at hl 0 rfl) ?_
  refine lv_aload_n hx hb d_Ref_ends_13 rfl (lv_at hl 1 rfl) ?_
  refine va_get (D := (dC, dI)) (ci := 8) (v := .ref (rA 16)) (C := R_Ref) (T := F_Ref) (N := 48) hx hb hw i_Ref hown hK hP 0 rfl rfl 16 (by decide) (hw _ m_915) (fun _ h9 => h9) rfl d_Ref_ends_14 ?_
  refine lv_iconst (v := 4) hx hb d_Ref_ends_17 (by decide) ?_
  refine lv_iload_n hx hb d_Ref_ends_18 rfl (lv_at hl 0 rfl) ?_
  refine lv_iadd hx hb d_Ref_ends_19 ?_
  refine tp_i (y := 5) (by first | rfl | decide) ?_
  refine va_iald (D := (dC, dI)) hx hb hK hP 1 0 rfl rfl (i := 5) (pk_in 5 155 (by omega)) d_Ref_ends_20 ?_
  refine tp_i (y := sf 5) (by rw [show (5 : Int32).toNatClampNeg = 5 from pk_cl 5]) ?_
  refine va_iast (D := (dC, dI)) hx hb hK hP (dd_D hD rfl) hS 2 1 rfl rfl (i := 1) (x := sf 5) (pk_in 1 11 (by omega)) d_Ref_ends_21 ?_
  clear hP hS locs H
  intro H locs hP _ hS
  rw [show (1 : Int32).toNatClampNeg = 1 from pk_cl 1] at hP
  replace hP : va_P (dC, dI) classes [oc ra 8 [.int (nI T), .int (nI Ac), .ref (rA 2), .ref (rA 3), .ref (rA 4), .ref (rA 5), .ref (rA 6), .ref (rA 7), .ref (rA 8), .ref (rA 9), .ref (rA 10), .ref (rA 11), .ref (rA 12), .ref (rA 13), .int ir, .ref (rA 15), .ref (rA 16), .ref (rA 17), .ref (rA 18), .int (nI md), .int (nI wd), .ref (rA 21), .ref (rA 22), .ref (rA 23), .int (nI mn), .ref (rA 25), .int (nI cb), .int mr, .ref (rA 28), .ref (rA 29), .ref (rA 30), .ref (rA 31), .ref (rA 32), .ref (rA 33), .ref (rA 34), .ref (rA 35), .int (nI ld), .int (nI gm), .ref (rA 38), .ref (rA 39), .ref (rA 40), .ref (rA 41), .ref (rA 42), .ref (rA 43), .ref (rA 44), .ref (rA 45), .int (nI my), .ref (rA 47)], ia (rA 16) (rK9 16) 155 sf, ia (rA 28) (rK9 28) 11 (upd (upd nw9 0 (sf 4)) 1 (sf 5)), ia (rA 9) (rK9 9) 352000 oc9, ia (rA 8) (rK9 8) 8 (fun i => nI (om i)), ia (rA 12) (rK9 12) 32000 (fun i => nI (or9 i)), ia (rA 11) (rK9 11) 16000 (fun i => nI (ws i)), ia (rA 10) (rK9 10) 256000 wi, ia (rA 18) (rK9 18) 17 sp9] H := hP
  refine tp_pc (pc' := 22) (by rfl) ?_
  refine lv_iinc (v := 2) (lv' := [(2, .int 2), (0, .ref ra), (1, .int (nI dp))]) hx hb d_Ref_ends_22 hl (k := 0) rfl (by first | rfl | decide) (by decide) rfl ?_
  clear hl ls
  intro ls hl
  refine lv_goto (tgt := 2) hx hb d_Ref_ends_25 (by decide) ?_
  refine tp_pc (pc' := 2) (by rfl) ?_
  refine lv_iload_n hx hb d_Ref_ends_2 rfl (lv_at hl 0 rfl) ?_
  refine lv_bipush (v := 8) hx hb d_Ref_ends_3 (by decide) ?_
  refine lv_icmp_ge (tgt := 28) hx hb d_Ref_ends_5 (by decide) (fun c_3 => absurd c_3 (by decide)) (fun c_3 => ?_)
  refine tp_pc (pc' := 8) (by rfl) ?_
  refine lv_aload_n hx hb d_Ref_ends_8 rfl (lv_at hl 1 rfl) ?_
  refine va_get (D := (dC, dI)) (ci := 8) (v := .ref (rA 28)) (C := R_Ref) (T := F_Ref) (N := 48) hx hb hw i_Ref hown hK hP 0 rfl rfl 28 (by decide) (hw _ m_927) (fun _ h9 => h9) rfl d_Ref_ends_9 ?_
  refine lv_iload_n hx hb d_Ref_ends_12 rfl (lv_at hl 0 rfl) ?_
  refine lv_aload_n hx hb d_Ref_ends_13 rfl (lv_at hl 1 rfl) ?_
  refine va_get (D := (dC, dI)) (ci := 8) (v := .ref (rA 16)) (C := R_Ref) (T := F_Ref) (N := 48) hx hb hw i_Ref hown hK hP 0 rfl rfl 16 (by decide) (hw _ m_915) (fun _ h9 => h9) rfl d_Ref_ends_14 ?_
  refine lv_iconst (v := 4) hx hb d_Ref_ends_17 (by decide) ?_
  refine lv_iload_n hx hb d_Ref_ends_18 rfl (lv_at hl 0 rfl) ?_
  refine lv_iadd hx hb d_Ref_ends_19 ?_
  refine tp_i (y := 6) (by first | rfl | decide) ?_
  refine va_iald (D := (dC, dI)) hx hb hK hP 1 0 rfl rfl (i := 6) (pk_in 6 155 (by omega)) d_Ref_ends_20 ?_
  refine tp_i (y := sf 6) (by rw [show (6 : Int32).toNatClampNeg = 6 from pk_cl 6]) ?_
  refine va_iast (D := (dC, dI)) hx hb hK hP (dd_D hD rfl) hS 2 1 rfl rfl (i := 2) (x := sf 6) (pk_in 2 11 (by omega)) d_Ref_ends_21 ?_
  clear hP hS locs H
  intro H locs hP _ hS
  rw [show (2 : Int32).toNatClampNeg = 2 from pk_cl 2] at hP
  replace hP : va_P (dC, dI) classes [oc ra 8 [.int (nI T), .int (nI Ac), .ref (rA 2), .ref (rA 3), .ref (rA 4), .ref (rA 5), .ref (rA 6), .ref (rA 7), .ref (rA 8), .ref (rA 9), .ref (rA 10), .ref (rA 11), .ref (rA 12), .ref (rA 13), .int ir, .ref (rA 15), .ref (rA 16), .ref (rA 17), .ref (rA 18), .int (nI md), .int (nI wd), .ref (rA 21), .ref (rA 22), .ref (rA 23), .int (nI mn), .ref (rA 25), .int (nI cb), .int mr, .ref (rA 28), .ref (rA 29), .ref (rA 30), .ref (rA 31), .ref (rA 32), .ref (rA 33), .ref (rA 34), .ref (rA 35), .int (nI ld), .int (nI gm), .ref (rA 38), .ref (rA 39), .ref (rA 40), .ref (rA 41), .ref (rA 42), .ref (rA 43), .ref (rA 44), .ref (rA 45), .int (nI my), .ref (rA 47)], ia (rA 16) (rK9 16) 155 sf, ia (rA 28) (rK9 28) 11 (upd (upd (upd nw9 0 (sf 4)) 1 (sf 5)) 2 (sf 6)), ia (rA 9) (rK9 9) 352000 oc9, ia (rA 8) (rK9 8) 8 (fun i => nI (om i)), ia (rA 12) (rK9 12) 32000 (fun i => nI (or9 i)), ia (rA 11) (rK9 11) 16000 (fun i => nI (ws i)), ia (rA 10) (rK9 10) 256000 wi, ia (rA 18) (rK9 18) 17 sp9] H := hP
  refine tp_pc (pc' := 22) (by rfl) ?_
  refine lv_iinc (v := 3) (lv' := [(2, .int 3), (0, .ref ra), (1, .int (nI dp))]) hx hb d_Ref_ends_22 hl (k := 0) rfl (by first | rfl | decide) (by decide) rfl ?_
  clear hl ls
  intro ls hl
  refine lv_goto (tgt := 2) hx hb d_Ref_ends_25 (by decide) ?_
  refine tp_pc (pc' := 2) (by rfl) ?_
  refine lv_iload_n hx hb d_Ref_ends_2 rfl (lv_at hl 0 rfl) ?_
  refine lv_bipush (v := 8) hx hb d_Ref_ends_3 (by decide) ?_
  refine lv_icmp_ge (tgt := 28) hx hb d_Ref_ends_5 (by decide) (fun c_4 => absurd c_4 (by decide)) (fun c_4 => ?_)
  refine tp_pc (pc' := 8) (by rfl) ?_
  refine lv_aload_n hx hb d_Ref_ends_8 rfl (lv_at hl 1 rfl) ?_
  refine va_get (D := (dC, dI)) (ci := 8) (v := .ref (rA 28)) (C := R_Ref) (T := F_Ref) (N := 48) hx hb hw i_Ref hown hK hP 0 rfl rfl 28 (by decide) (hw _ m_927) (fun _ h9 => h9) rfl d_Ref_ends_9 ?_
  refine lv_iload_n hx hb d_Ref_ends_12 rfl (lv_at hl 0 rfl) ?_
  refine lv_aload_n hx hb d_Ref_ends_13 rfl (lv_at hl 1 rfl) ?_
  refine va_get (D := (dC, dI)) (ci := 8) (v := .ref (rA 16)) (C := R_Ref) (T := F_Ref) (N := 48) hx hb hw i_Ref hown hK hP 0 rfl rfl 16 (by decide) (hw _ m_915) (fun _ h9 => h9) rfl d_Ref_ends_14 ?_
  refine lv_iconst (v := 4) hx hb d_Ref_ends_17 (by decide) ?_
  refine lv_iload_n hx hb d_Ref_ends_18 rfl (lv_at hl 0 rfl) ?_
  refine lv_iadd hx hb d_Ref_ends_19 ?_
  refine tp_i (y := 7) (by first | rfl | decide) ?_
  refine va_iald (D := (dC, dI)) hx hb hK hP 1 0 rfl rfl (i := 7) (pk_in 7 155 (by omega)) d_Ref_ends_20 ?_
  refine tp_i (y := sf 7) (by rw [show (7 : Int32).toNatClampNeg = 7 from pk_cl 7]) ?_
  refine va_iast (D := (dC, dI)) hx hb hK hP (dd_D hD rfl) hS 2 1 rfl rfl (i := 3) (x := sf 7) (pk_in 3 11 (by omega)) d_Ref_ends_21 ?_
  clear hP hS locs H
  intro H locs hP _ hS
  rw [show (3 : Int32).toNatClampNeg = 3 from pk_cl 3] at hP
  replace hP : va_P (dC, dI) classes [oc ra 8 [.int (nI T), .int (nI Ac), .ref (rA 2), .ref (rA 3), .ref (rA 4), .ref (rA 5), .ref (rA 6), .ref (rA 7), .ref (rA 8), .ref (rA 9), .ref (rA 10), .ref (rA 11), .ref (rA 12), .ref (rA 13), .int ir, .ref (rA 15), .ref (rA 16), .ref (rA 17), .ref (rA 18), .int (nI md), .int (nI wd), .ref (rA 21), .ref (rA 22), .ref (rA 23), .int (nI mn), .ref (rA 25), .int (nI cb), .int mr, .ref (rA 28), .ref (rA 29), .ref (rA 30), .ref (rA 31), .ref (rA 32), .ref (rA 33), .ref (rA 34), .ref (rA 35), .int (nI ld), .int (nI gm), .ref (rA 38), .ref (rA 39), .ref (rA 40), .ref (rA 41), .ref (rA 42), .ref (rA 43), .ref (rA 44), .ref (rA 45), .int (nI my), .ref (rA 47)], ia (rA 16) (rK9 16) 155 sf, ia (rA 28) (rK9 28) 11 (upd (upd (upd (upd nw9 0 (sf 4)) 1 (sf 5)) 2 (sf 6)) 3 (sf 7)), ia (rA 9) (rK9 9) 352000 oc9, ia (rA 8) (rK9 8) 8 (fun i => nI (om i)), ia (rA 12) (rK9 12) 32000 (fun i => nI (or9 i)), ia (rA 11) (rK9 11) 16000 (fun i => nI (ws i)), ia (rA 10) (rK9 10) 256000 wi, ia (rA 18) (rK9 18) 17 sp9] H := hP
  refine tp_pc (pc' := 22) (by rfl) ?_
  refine lv_iinc (v := 4) (lv' := [(2, .int 4), (0, .ref ra), (1, .int (nI dp))]) hx hb d_Ref_ends_22 hl (k := 0) rfl (by first | rfl | decide) (by decide) rfl ?_
  clear hl ls
  intro ls hl
  refine lv_goto (tgt := 2) hx hb d_Ref_ends_25 (by decide) ?_
  refine tp_pc (pc' := 2) (by rfl) ?_
  refine lv_iload_n hx hb d_Ref_ends_2 rfl (lv_at hl 0 rfl) ?_
  refine lv_bipush (v := 8) hx hb d_Ref_ends_3 (by decide) ?_
  refine lv_icmp_ge (tgt := 28) hx hb d_Ref_ends_5 (by decide) (fun c_5 => absurd c_5 (by decide)) (fun c_5 => ?_)
  refine tp_pc (pc' := 8) (by rfl) ?_
  refine lv_aload_n hx hb d_Ref_ends_8 rfl (lv_at hl 1 rfl) ?_
  refine va_get (D := (dC, dI)) (ci := 8) (v := .ref (rA 28)) (C := R_Ref) (T := F_Ref) (N := 48) hx hb hw i_Ref hown hK hP 0 rfl rfl 28 (by decide) (hw _ m_927) (fun _ h9 => h9) rfl d_Ref_ends_9 ?_
  refine lv_iload_n hx hb d_Ref_ends_12 rfl (lv_at hl 0 rfl) ?_
  refine lv_aload_n hx hb d_Ref_ends_13 rfl (lv_at hl 1 rfl) ?_
  refine va_get (D := (dC, dI)) (ci := 8) (v := .ref (rA 16)) (C := R_Ref) (T := F_Ref) (N := 48) hx hb hw i_Ref hown hK hP 0 rfl rfl 16 (by decide) (hw _ m_915) (fun _ h9 => h9) rfl d_Ref_ends_14 ?_
  refine lv_iconst (v := 4) hx hb d_Ref_ends_17 (by decide) ?_
  refine lv_iload_n hx hb d_Ref_ends_18 rfl (lv_at hl 0 rfl) ?_
  refine lv_iadd hx hb d_Ref_ends_19 ?_
  refine tp_i (y := 8) (by first | rfl | decide) ?_
  refine va_iald (D := (dC, dI)) hx hb hK hP 1 0 rfl rfl (i := 8) (pk_in 8 155 (by omega)) d_Ref_ends_20 ?_
  refine tp_i (y := sf 8) (by rw [show (8 : Int32).toNatClampNeg = 8 from pk_cl 8]) ?_
  refine va_iast (D := (dC, dI)) hx hb hK hP (dd_D hD rfl) hS 2 1 rfl rfl (i := 4) (x := sf 8) (pk_in 4 11 (by omega)) d_Ref_ends_21 ?_
  clear hP hS locs H
  intro H locs hP _ hS
  rw [show (4 : Int32).toNatClampNeg = 4 from pk_cl 4] at hP
  replace hP : va_P (dC, dI) classes [oc ra 8 [.int (nI T), .int (nI Ac), .ref (rA 2), .ref (rA 3), .ref (rA 4), .ref (rA 5), .ref (rA 6), .ref (rA 7), .ref (rA 8), .ref (rA 9), .ref (rA 10), .ref (rA 11), .ref (rA 12), .ref (rA 13), .int ir, .ref (rA 15), .ref (rA 16), .ref (rA 17), .ref (rA 18), .int (nI md), .int (nI wd), .ref (rA 21), .ref (rA 22), .ref (rA 23), .int (nI mn), .ref (rA 25), .int (nI cb), .int mr, .ref (rA 28), .ref (rA 29), .ref (rA 30), .ref (rA 31), .ref (rA 32), .ref (rA 33), .ref (rA 34), .ref (rA 35), .int (nI ld), .int (nI gm), .ref (rA 38), .ref (rA 39), .ref (rA 40), .ref (rA 41), .ref (rA 42), .ref (rA 43), .ref (rA 44), .ref (rA 45), .int (nI my), .ref (rA 47)], ia (rA 16) (rK9 16) 155 sf, ia (rA 28) (rK9 28) 11 (upd (upd (upd (upd (upd nw9 0 (sf 4)) 1 (sf 5)) 2 (sf 6)) 3 (sf 7)) 4 (sf 8)), ia (rA 9) (rK9 9) 352000 oc9, ia (rA 8) (rK9 8) 8 (fun i => nI (om i)), ia (rA 12) (rK9 12) 32000 (fun i => nI (or9 i)), ia (rA 11) (rK9 11) 16000 (fun i => nI (ws i)), ia (rA 10) (rK9 10) 256000 wi, ia (rA 18) (rK9 18) 17 sp9] H := hP
  refine tp_pc (pc' := 22) (by rfl) ?_
  refine lv_iinc (v := 5) (lv' := [(2, .int 5), (0, .ref ra), (1, .int (nI dp))]) hx hb d_Ref_ends_22 hl (k := 0) rfl (by first | rfl | decide) (by decide) rfl ?_
  clear hl ls
  intro ls hl
  refine lv_goto (tgt := 2) hx hb d_Ref_ends_25 (by decide) ?_
  refine tp_pc (pc' := 2) (by rfl) ?_
  refine lv_iload_n hx hb d_Ref_ends_2 rfl (lv_at hl 0 rfl) ?_
  refine lv_bipush (v := 8) hx hb d_Ref_ends_3 (by decide) ?_
  refine lv_icmp_ge (tgt := 28) hx hb d_Ref_ends_5 (by decide) (fun c_6 => absurd c_6 (by decide)) (fun c_6 => ?_)
  refine tp_pc (pc' := 8) (by rfl) ?_
  refine lv_aload_n hx hb d_Ref_ends_8 rfl (lv_at hl 1 rfl) ?_
  refine va_get (D := (dC, dI)) (ci := 8) (v := .ref (rA 28)) (C := R_Ref) (T := F_Ref) (N := 48) hx hb hw i_Ref hown hK hP 0 rfl rfl 28 (by decide) (hw _ m_927) (fun _ h9 => h9) rfl d_Ref_ends_9 ?_
  refine lv_iload_n hx hb d_Ref_ends_12 rfl (lv_at hl 0 rfl) ?_
  refine lv_aload_n hx hb d_Ref_ends_13 rfl (lv_at hl 1 rfl) ?_
  refine va_get (D := (dC, dI)) (ci := 8) (v := .ref (rA 16)) (C := R_Ref) (T := F_Ref) (N := 48) hx hb hw i_Ref hown hK hP 0 rfl rfl 16 (by decide) (hw _ m_915) (fun _ h9 => h9) rfl d_Ref_ends_14 ?_
  refine lv_iconst (v := 4) hx hb d_Ref_ends_17 (by decide) ?_
  refine lv_iload_n hx hb d_Ref_ends_18 rfl (lv_at hl 0 rfl) ?_
  refine lv_iadd hx hb d_Ref_ends_19 ?_
  refine tp_i (y := 9) (by first | rfl | decide) ?_
  refine va_iald (D := (dC, dI)) hx hb hK hP 1 0 rfl rfl (i := 9) (pk_in 9 155 (by omega)) d_Ref_ends_20 ?_
  refine tp_i (y := sf 9) (by rw [show (9 : Int32).toNatClampNeg = 9 from pk_cl 9]) ?_
  refine va_iast (D := (dC, dI)) hx hb hK hP (dd_D hD rfl) hS 2 1 rfl rfl (i := 5) (x := sf 9) (pk_in 5 11 (by omega)) d_Ref_ends_21 ?_
  clear hP hS locs H
  intro H locs hP _ hS
  rw [show (5 : Int32).toNatClampNeg = 5 from pk_cl 5] at hP
  replace hP : va_P (dC, dI) classes [oc ra 8 [.int (nI T), .int (nI Ac), .ref (rA 2), .ref (rA 3), .ref (rA 4), .ref (rA 5), .ref (rA 6), .ref (rA 7), .ref (rA 8), .ref (rA 9), .ref (rA 10), .ref (rA 11), .ref (rA 12), .ref (rA 13), .int ir, .ref (rA 15), .ref (rA 16), .ref (rA 17), .ref (rA 18), .int (nI md), .int (nI wd), .ref (rA 21), .ref (rA 22), .ref (rA 23), .int (nI mn), .ref (rA 25), .int (nI cb), .int mr, .ref (rA 28), .ref (rA 29), .ref (rA 30), .ref (rA 31), .ref (rA 32), .ref (rA 33), .ref (rA 34), .ref (rA 35), .int (nI ld), .int (nI gm), .ref (rA 38), .ref (rA 39), .ref (rA 40), .ref (rA 41), .ref (rA 42), .ref (rA 43), .ref (rA 44), .ref (rA 45), .int (nI my), .ref (rA 47)], ia (rA 16) (rK9 16) 155 sf, ia (rA 28) (rK9 28) 11 (upd (upd (upd (upd (upd (upd nw9 0 (sf 4)) 1 (sf 5)) 2 (sf 6)) 3 (sf 7)) 4 (sf 8)) 5 (sf 9)), ia (rA 9) (rK9 9) 352000 oc9, ia (rA 8) (rK9 8) 8 (fun i => nI (om i)), ia (rA 12) (rK9 12) 32000 (fun i => nI (or9 i)), ia (rA 11) (rK9 11) 16000 (fun i => nI (ws i)), ia (rA 10) (rK9 10) 256000 wi, ia (rA 18) (rK9 18) 17 sp9] H := hP
  refine tp_pc (pc' := 22) (by rfl) ?_
  refine lv_iinc (v := 6) (lv' := [(2, .int 6), (0, .ref ra), (1, .int (nI dp))]) hx hb d_Ref_ends_22 hl (k := 0) rfl (by first | rfl | decide) (by decide) rfl ?_
  clear hl ls
  intro ls hl
  refine lv_goto (tgt := 2) hx hb d_Ref_ends_25 (by decide) ?_
  refine tp_pc (pc' := 2) (by rfl) ?_
  refine lv_iload_n hx hb d_Ref_ends_2 rfl (lv_at hl 0 rfl) ?_
  refine lv_bipush (v := 8) hx hb d_Ref_ends_3 (by decide) ?_
  refine lv_icmp_ge (tgt := 28) hx hb d_Ref_ends_5 (by decide) (fun c_7 => absurd c_7 (by decide)) (fun c_7 => ?_)
  refine tp_pc (pc' := 8) (by rfl) ?_
  refine lv_aload_n hx hb d_Ref_ends_8 rfl (lv_at hl 1 rfl) ?_
  refine va_get (D := (dC, dI)) (ci := 8) (v := .ref (rA 28)) (C := R_Ref) (T := F_Ref) (N := 48) hx hb hw i_Ref hown hK hP 0 rfl rfl 28 (by decide) (hw _ m_927) (fun _ h9 => h9) rfl d_Ref_ends_9 ?_
  refine lv_iload_n hx hb d_Ref_ends_12 rfl (lv_at hl 0 rfl) ?_
  refine lv_aload_n hx hb d_Ref_ends_13 rfl (lv_at hl 1 rfl) ?_
  refine va_get (D := (dC, dI)) (ci := 8) (v := .ref (rA 16)) (C := R_Ref) (T := F_Ref) (N := 48) hx hb hw i_Ref hown hK hP 0 rfl rfl 16 (by decide) (hw _ m_915) (fun _ h9 => h9) rfl d_Ref_ends_14 ?_
  refine lv_iconst (v := 4) hx hb d_Ref_ends_17 (by decide) ?_
  refine lv_iload_n hx hb d_Ref_ends_18 rfl (lv_at hl 0 rfl) ?_
  refine lv_iadd hx hb d_Ref_ends_19 ?_
  refine tp_i (y := 10) (by first | rfl | decide) ?_
  refine va_iald (D := (dC, dI)) hx hb hK hP 1 0 rfl rfl (i := 10) (pk_in 10 155 (by omega)) d_Ref_ends_20 ?_
  refine tp_i (y := sf 10) (by rw [show (10 : Int32).toNatClampNeg = 10 from pk_cl 10]) ?_
  refine va_iast (D := (dC, dI)) hx hb hK hP (dd_D hD rfl) hS 2 1 rfl rfl (i := 6) (x := sf 10) (pk_in 6 11 (by omega)) d_Ref_ends_21 ?_
  clear hP hS locs H
  intro H locs hP _ hS
  rw [show (6 : Int32).toNatClampNeg = 6 from pk_cl 6] at hP
  replace hP : va_P (dC, dI) classes [oc ra 8 [.int (nI T), .int (nI Ac), .ref (rA 2), .ref (rA 3), .ref (rA 4), .ref (rA 5), .ref (rA 6), .ref (rA 7), .ref (rA 8), .ref (rA 9), .ref (rA 10), .ref (rA 11), .ref (rA 12), .ref (rA 13), .int ir, .ref (rA 15), .ref (rA 16), .ref (rA 17), .ref (rA 18), .int (nI md), .int (nI wd), .ref (rA 21), .ref (rA 22), .ref (rA 23), .int (nI mn), .ref (rA 25), .int (nI cb), .int mr, .ref (rA 28), .ref (rA 29), .ref (rA 30), .ref (rA 31), .ref (rA 32), .ref (rA 33), .ref (rA 34), .ref (rA 35), .int (nI ld), .int (nI gm), .ref (rA 38), .ref (rA 39), .ref (rA 40), .ref (rA 41), .ref (rA 42), .ref (rA 43), .ref (rA 44), .ref (rA 45), .int (nI my), .ref (rA 47)], ia (rA 16) (rK9 16) 155 sf, ia (rA 28) (rK9 28) 11 (upd (upd (upd (upd (upd (upd (upd nw9 0 (sf 4)) 1 (sf 5)) 2 (sf 6)) 3 (sf 7)) 4 (sf 8)) 5 (sf 9)) 6 (sf 10)), ia (rA 9) (rK9 9) 352000 oc9, ia (rA 8) (rK9 8) 8 (fun i => nI (om i)), ia (rA 12) (rK9 12) 32000 (fun i => nI (or9 i)), ia (rA 11) (rK9 11) 16000 (fun i => nI (ws i)), ia (rA 10) (rK9 10) 256000 wi, ia (rA 18) (rK9 18) 17 sp9] H := hP
  refine tp_pc (pc' := 22) (by rfl) ?_
  refine lv_iinc (v := 7) (lv' := [(2, .int 7), (0, .ref ra), (1, .int (nI dp))]) hx hb d_Ref_ends_22 hl (k := 0) rfl (by first | rfl | decide) (by decide) rfl ?_
  clear hl ls
  intro ls hl
  refine lv_goto (tgt := 2) hx hb d_Ref_ends_25 (by decide) ?_
  refine tp_pc (pc' := 2) (by rfl) ?_
  refine lv_iload_n hx hb d_Ref_ends_2 rfl (lv_at hl 0 rfl) ?_
  refine lv_bipush (v := 8) hx hb d_Ref_ends_3 (by decide) ?_
  refine lv_icmp_ge (tgt := 28) hx hb d_Ref_ends_5 (by decide) (fun c_8 => absurd c_8 (by decide)) (fun c_8 => ?_)
  refine tp_pc (pc' := 8) (by rfl) ?_
  refine lv_aload_n hx hb d_Ref_ends_8 rfl (lv_at hl 1 rfl) ?_
  refine va_get (D := (dC, dI)) (ci := 8) (v := .ref (rA 28)) (C := R_Ref) (T := F_Ref) (N := 48) hx hb hw i_Ref hown hK hP 0 rfl rfl 28 (by decide) (hw _ m_927) (fun _ h9 => h9) rfl d_Ref_ends_9 ?_
  refine lv_iload_n hx hb d_Ref_ends_12 rfl (lv_at hl 0 rfl) ?_
  refine lv_aload_n hx hb d_Ref_ends_13 rfl (lv_at hl 1 rfl) ?_
  refine va_get (D := (dC, dI)) (ci := 8) (v := .ref (rA 16)) (C := R_Ref) (T := F_Ref) (N := 48) hx hb hw i_Ref hown hK hP 0 rfl rfl 16 (by decide) (hw _ m_915) (fun _ h9 => h9) rfl d_Ref_ends_14 ?_
  refine lv_iconst (v := 4) hx hb d_Ref_ends_17 (by decide) ?_
  refine lv_iload_n hx hb d_Ref_ends_18 rfl (lv_at hl 0 rfl) ?_
  refine lv_iadd hx hb d_Ref_ends_19 ?_
  refine tp_i (y := 11) (by first | rfl | decide) ?_
  refine va_iald (D := (dC, dI)) hx hb hK hP 1 0 rfl rfl (i := 11) (pk_in 11 155 (by omega)) d_Ref_ends_20 ?_
  refine tp_i (y := sf 11) (by rw [show (11 : Int32).toNatClampNeg = 11 from pk_cl 11]) ?_
  refine va_iast (D := (dC, dI)) hx hb hK hP (dd_D hD rfl) hS 2 1 rfl rfl (i := 7) (x := sf 11) (pk_in 7 11 (by omega)) d_Ref_ends_21 ?_
  clear hP hS locs H
  intro H locs hP _ hS
  rw [show (7 : Int32).toNatClampNeg = 7 from pk_cl 7] at hP
  replace hP : va_P (dC, dI) classes [oc ra 8 [.int (nI T), .int (nI Ac), .ref (rA 2), .ref (rA 3), .ref (rA 4), .ref (rA 5), .ref (rA 6), .ref (rA 7), .ref (rA 8), .ref (rA 9), .ref (rA 10), .ref (rA 11), .ref (rA 12), .ref (rA 13), .int ir, .ref (rA 15), .ref (rA 16), .ref (rA 17), .ref (rA 18), .int (nI md), .int (nI wd), .ref (rA 21), .ref (rA 22), .ref (rA 23), .int (nI mn), .ref (rA 25), .int (nI cb), .int mr, .ref (rA 28), .ref (rA 29), .ref (rA 30), .ref (rA 31), .ref (rA 32), .ref (rA 33), .ref (rA 34), .ref (rA 35), .int (nI ld), .int (nI gm), .ref (rA 38), .ref (rA 39), .ref (rA 40), .ref (rA 41), .ref (rA 42), .ref (rA 43), .ref (rA 44), .ref (rA 45), .int (nI my), .ref (rA 47)], ia (rA 16) (rK9 16) 155 sf, ia (rA 28) (rK9 28) 11 (upd (upd (upd (upd (upd (upd (upd (upd nw9 0 (sf 4)) 1 (sf 5)) 2 (sf 6)) 3 (sf 7)) 4 (sf 8)) 5 (sf 9)) 6 (sf 10)) 7 (sf 11)), ia (rA 9) (rK9 9) 352000 oc9, ia (rA 8) (rK9 8) 8 (fun i => nI (om i)), ia (rA 12) (rK9 12) 32000 (fun i => nI (or9 i)), ia (rA 11) (rK9 11) 16000 (fun i => nI (ws i)), ia (rA 10) (rK9 10) 256000 wi, ia (rA 18) (rK9 18) 17 sp9] H := hP
  refine tp_pc (pc' := 22) (by rfl) ?_
  refine lv_iinc (v := 8) (lv' := [(2, .int 8), (0, .ref ra), (1, .int (nI dp))]) hx hb d_Ref_ends_22 hl (k := 0) rfl (by first | rfl | decide) (by decide) rfl ?_
  clear hl ls
  intro ls hl
  refine lv_goto (tgt := 2) hx hb d_Ref_ends_25 (by decide) ?_
  refine tp_pc (pc' := 2) (by rfl) ?_
  refine lv_iload_n hx hb d_Ref_ends_2 rfl (lv_at hl 0 rfl) ?_
  refine lv_bipush (v := 8) hx hb d_Ref_ends_3 (by decide) ?_
  refine lv_icmp_ge (tgt := 28) hx hb d_Ref_ends_5 (by decide) (fun c_9 => ?_) (fun c_9 => absurd c_9 (by decide))
  refine tp_pc (pc' := 28) (by rfl) ?_
  refine lv_iconst (v := 0) hx hb d_Ref_ends_28 (by decide) ?_
  refine lv_istore_n (lv' := [(2, .int 0), (0, .ref ra), (1, .int (nI dp))]) hx hb d_Ref_ends_29 rfl hl (by decide) rfl ?_
  clear hl ls
  intro ls hl
  refine lv_iload_n hx hb d_Ref_ends_30 rfl (lv_at hl 0 rfl) ?_
  refine lv_iconst (v := 3) hx hb d_Ref_ends_31 (by decide) ?_
  refine lv_icmp_ge (tgt := 102) hx hb d_Ref_ends_32 (by decide) (fun c_10 => absurd c_10 (by decide)) (fun c_10 => ?_)
  refine tp_pc (pc' := 35) (by rfl) ?_
  refine lv_aload_n hx hb d_Ref_ends_35 rfl (lv_at hl 1 rfl) ?_
  refine va_get (D := (dC, dI)) (ci := 8) (v := .ref (rA 28)) (C := R_Ref) (T := F_Ref) (N := 48) hx hb hw i_Ref hown hK hP 0 rfl rfl 28 (by decide) (hw _ m_927) (fun _ h9 => h9) rfl d_Ref_ends_36 ?_
  refine lv_bipush (v := 8) hx hb d_Ref_ends_39 (by decide) ?_
  refine lv_iload_n hx hb d_Ref_ends_41 rfl (lv_at hl 0 rfl) ?_
  refine lv_iadd hx hb d_Ref_ends_42 ?_
  refine tp_i (y := 8) (by first | rfl | decide) ?_
  refine lv_aload_n hx hb d_Ref_ends_43 rfl (lv_at hl 1 rfl) ?_
  refine va_get (D := (dC, dI)) (ci := 8) (v := .int (nI md)) (C := R_Ref) (T := F_Ref) (N := 48) hx hb hw i_Ref hown hK hP 0 rfl rfl 19 (by decide) (hw _ m_918) (fun _ h9 => h9) rfl d_Ref_ends_44 ?_
  refine lv_iconst (v := 3) hx hb d_Ref_ends_47 (by decide) ?_
  refine lv_icmp_ge (tgt := 63) hx hb d_Ref_ends_48 (by decide) (fun c9 => ?_) (fun c9 => absurd ((nI_leI (a := 3) (b := md) (by omega) (by omega)).mpr (by omega)) c9)
  refine tp_pc (pc' := 63) (by rfl) ?_
  refine lv_aload_n hx hb d_Ref_ends_63 rfl (lv_at hl 1 rfl) ?_
  refine va_get (D := (dC, dI)) (ci := 8) (v := .ref (rA 16)) (C := R_Ref) (T := F_Ref) (N := 48) hx hb hw i_Ref hown hK hP 0 rfl rfl 16 (by decide) (hw _ m_915) (fun _ h9 => h9) rfl d_Ref_ends_64 ?_
  refine lv_bipush (v := 73) hx hb d_Ref_ends_67 (by decide) ?_
  refine lv_aload_n hx hb d_Ref_ends_69 rfl (lv_at hl 1 rfl) ?_
  refine va_get (D := (dC, dI)) (ci := 8) (v := .ref (rA 16)) (C := R_Ref) (T := F_Ref) (N := 48) hx hb hw i_Ref hown hK hP 0 rfl rfl 16 (by decide) (hw _ m_915) (fun _ h9 => h9) rfl d_Ref_ends_70 ?_
  refine lv_bipush (v := 41) hx hb d_Ref_ends_73 (by decide) ?_
  refine lv_bipush (v := 8) hx hb d_Ref_ends_75 (by decide) ?_
  refine lv_iload_n hx hb d_Ref_ends_77 rfl (lv_at hl 0 rfl) ?_
  refine lv_imul hx hb d_Ref_ends_78 ?_
  refine tp_i (y := 0) (by first | rfl | decide) ?_
  refine lv_iadd hx hb d_Ref_ends_79 ?_
  refine tp_i (y := 41) (by first | rfl | decide) ?_
  refine lv_aload_n hx hb d_Ref_ends_80 rfl (lv_at hl 1 rfl) ?_
  refine va_get (D := (dC, dI)) (ci := 8) (v := .ref (rA 16)) (C := R_Ref) (T := F_Ref) (N := 48) hx hb hw i_Ref hown hK hP 0 rfl rfl 16 (by decide) (hw _ m_915) (fun _ h9 => h9) rfl d_Ref_ends_81 ?_
  refine lv_bipush (v := 37) hx hb d_Ref_ends_84 (by decide) ?_
  refine lv_iload_n hx hb d_Ref_ends_86 rfl (lv_at hl 0 rfl) ?_
  refine lv_iadd hx hb d_Ref_ends_87 ?_
  refine tp_i (y := 37) (by first | rfl | decide) ?_
  refine va_iald (D := (dC, dI)) hx hb hK hP 1 0 rfl rfl (i := 37) (pk_in 37 155 (by omega)) d_Ref_ends_88 ?_
  refine tp_i (y := sf 37) (by rw [show (37 : Int32).toNatClampNeg = 37 from pk_cl 37]) ?_
  refine tp_i (y := nI (zz 0)) y1 ?_
  refine lv_iadd hx hb d_Ref_ends_89 ?_
  refine tp_i (y := nI (41 + (zz 0))) (by exact nI_add 41 (zz 0)) ?_
  refine lv_iconst (v := 1) hx hb d_Ref_ends_90 (by decide) ?_
  refine lv_isub hx hb d_Ref_ends_91 ?_
  refine tp_i (y := nI (41 + (zz 0) - 1)) (by exact pk_sub (a := 41 + (zz 0)) (b := 1) (by omega)) ?_
  refine va_iald (D := (dC, dI)) hx hb hK hP 1 0 rfl rfl (i := nI (41 + (zz 0) - 1)) (pk_in (41 + (zz 0) - 1) 155 (by omega)) d_Ref_ends_92 ?_
  refine tp_i (y := sf (41 + (zz 0) - 1)) (by rw [show (nI (41 + (zz 0) - 1) : Int32).toNatClampNeg = 41 + (zz 0) - 1 from pk_cl (41 + (zz 0) - 1)]) ?_
  refine tp_i (y := nI (la 0)) y4 ?_
  refine lv_iadd hx hb d_Ref_ends_93 ?_
  refine tp_i (y := nI (73 + (la 0))) (by exact nI_add 73 (la 0)) ?_
  refine va_iald (D := (dC, dI)) hx hb hK hP 1 0 rfl rfl (i := nI (73 + (la 0))) (pk_in (73 + (la 0)) 155 (by omega)) d_Ref_ends_94 ?_
  refine tp_i (y := sf (73 + (la 0))) (by rw [show (nI (73 + (la 0)) : Int32).toNatClampNeg = 73 + (la 0) from pk_cl (73 + (la 0))]) ?_
  refine va_iast (D := (dC, dI)) hx hb hK hP (dd_D hD rfl) hS 2 1 rfl rfl (i := 8) (x := sf (73 + (la 0))) (pk_in 8 11 (by omega)) d_Ref_ends_95 ?_
  clear hP hS locs H
  intro H locs hP _ hS
  rw [show (8 : Int32).toNatClampNeg = 8 from pk_cl 8] at hP
  replace hP : va_P (dC, dI) classes [oc ra 8 [.int (nI T), .int (nI Ac), .ref (rA 2), .ref (rA 3), .ref (rA 4), .ref (rA 5), .ref (rA 6), .ref (rA 7), .ref (rA 8), .ref (rA 9), .ref (rA 10), .ref (rA 11), .ref (rA 12), .ref (rA 13), .int ir, .ref (rA 15), .ref (rA 16), .ref (rA 17), .ref (rA 18), .int (nI md), .int (nI wd), .ref (rA 21), .ref (rA 22), .ref (rA 23), .int (nI mn), .ref (rA 25), .int (nI cb), .int mr, .ref (rA 28), .ref (rA 29), .ref (rA 30), .ref (rA 31), .ref (rA 32), .ref (rA 33), .ref (rA 34), .ref (rA 35), .int (nI ld), .int (nI gm), .ref (rA 38), .ref (rA 39), .ref (rA 40), .ref (rA 41), .ref (rA 42), .ref (rA 43), .ref (rA 44), .ref (rA 45), .int (nI my), .ref (rA 47)], ia (rA 16) (rK9 16) 155 sf, ia (rA 28) (rK9 28) 11 (upd (upd (upd (upd (upd (upd (upd (upd (upd nw9 0 (sf 4)) 1 (sf 5)) 2 (sf 6)) 3 (sf 7)) 4 (sf 8)) 5 (sf 9)) 6 (sf 10)) 7 (sf 11)) 8 (sf (73 + (la 0)))), ia (rA 9) (rK9 9) 352000 oc9, ia (rA 8) (rK9 8) 8 (fun i => nI (om i)), ia (rA 12) (rK9 12) 32000 (fun i => nI (or9 i)), ia (rA 11) (rK9 11) 16000 (fun i => nI (ws i)), ia (rA 10) (rK9 10) 256000 wi, ia (rA 18) (rK9 18) 17 sp9] H := hP
  refine tp_pc (pc' := 96) (by rfl) ?_
  obtain ⟨y1, y2, y3, y4, y5⟩ := hla 1 (by decide)
  refine lv_iinc (v := 1) (lv' := [(2, .int 1), (0, .ref ra), (1, .int (nI dp))]) hx hb d_Ref_ends_96 hl (k := 0) rfl (by first | rfl | decide) (by decide) rfl ?_
  clear hl ls
  intro ls hl
  refine lv_goto (tgt := 30) hx hb d_Ref_ends_99 (by decide) ?_
  refine tp_pc (pc' := 30) (by rfl) ?_
  refine lv_iload_n hx hb d_Ref_ends_30 rfl (lv_at hl 0 rfl) ?_
  refine lv_iconst (v := 3) hx hb d_Ref_ends_31 (by decide) ?_
  refine lv_icmp_ge (tgt := 102) hx hb d_Ref_ends_32 (by decide) (fun c_11 => absurd c_11 (by decide)) (fun c_11 => ?_)
  refine tp_pc (pc' := 35) (by rfl) ?_
  refine lv_aload_n hx hb d_Ref_ends_35 rfl (lv_at hl 1 rfl) ?_
  refine va_get (D := (dC, dI)) (ci := 8) (v := .ref (rA 28)) (C := R_Ref) (T := F_Ref) (N := 48) hx hb hw i_Ref hown hK hP 0 rfl rfl 28 (by decide) (hw _ m_927) (fun _ h9 => h9) rfl d_Ref_ends_36 ?_
  refine lv_bipush (v := 8) hx hb d_Ref_ends_39 (by decide) ?_
  refine lv_iload_n hx hb d_Ref_ends_41 rfl (lv_at hl 0 rfl) ?_
  refine lv_iadd hx hb d_Ref_ends_42 ?_
  refine tp_i (y := 9) (by first | rfl | decide) ?_
  refine lv_aload_n hx hb d_Ref_ends_43 rfl (lv_at hl 1 rfl) ?_
  refine va_get (D := (dC, dI)) (ci := 8) (v := .int (nI md)) (C := R_Ref) (T := F_Ref) (N := 48) hx hb hw i_Ref hown hK hP 0 rfl rfl 19 (by decide) (hw _ m_918) (fun _ h9 => h9) rfl d_Ref_ends_44 ?_
  refine lv_iconst (v := 3) hx hb d_Ref_ends_47 (by decide) ?_
  refine lv_icmp_ge (tgt := 63) hx hb d_Ref_ends_48 (by decide) (fun c9 => ?_) (fun c9 => absurd ((nI_leI (a := 3) (b := md) (by omega) (by omega)).mpr (by omega)) c9)
  refine tp_pc (pc' := 63) (by rfl) ?_
  refine lv_aload_n hx hb d_Ref_ends_63 rfl (lv_at hl 1 rfl) ?_
  refine va_get (D := (dC, dI)) (ci := 8) (v := .ref (rA 16)) (C := R_Ref) (T := F_Ref) (N := 48) hx hb hw i_Ref hown hK hP 0 rfl rfl 16 (by decide) (hw _ m_915) (fun _ h9 => h9) rfl d_Ref_ends_64 ?_
  refine lv_bipush (v := 73) hx hb d_Ref_ends_67 (by decide) ?_
  refine lv_aload_n hx hb d_Ref_ends_69 rfl (lv_at hl 1 rfl) ?_
  refine va_get (D := (dC, dI)) (ci := 8) (v := .ref (rA 16)) (C := R_Ref) (T := F_Ref) (N := 48) hx hb hw i_Ref hown hK hP 0 rfl rfl 16 (by decide) (hw _ m_915) (fun _ h9 => h9) rfl d_Ref_ends_70 ?_
  refine lv_bipush (v := 41) hx hb d_Ref_ends_73 (by decide) ?_
  refine lv_bipush (v := 8) hx hb d_Ref_ends_75 (by decide) ?_
  refine lv_iload_n hx hb d_Ref_ends_77 rfl (lv_at hl 0 rfl) ?_
  refine lv_imul hx hb d_Ref_ends_78 ?_
  refine tp_i (y := 8) (by first | rfl | decide) ?_
  refine lv_iadd hx hb d_Ref_ends_79 ?_
  refine tp_i (y := 49) (by first | rfl | decide) ?_
  refine lv_aload_n hx hb d_Ref_ends_80 rfl (lv_at hl 1 rfl) ?_
  refine va_get (D := (dC, dI)) (ci := 8) (v := .ref (rA 16)) (C := R_Ref) (T := F_Ref) (N := 48) hx hb hw i_Ref hown hK hP 0 rfl rfl 16 (by decide) (hw _ m_915) (fun _ h9 => h9) rfl d_Ref_ends_81 ?_
  refine lv_bipush (v := 37) hx hb d_Ref_ends_84 (by decide) ?_
  refine lv_iload_n hx hb d_Ref_ends_86 rfl (lv_at hl 0 rfl) ?_
  refine lv_iadd hx hb d_Ref_ends_87 ?_
  refine tp_i (y := 38) (by first | rfl | decide) ?_
  refine va_iald (D := (dC, dI)) hx hb hK hP 1 0 rfl rfl (i := 38) (pk_in 38 155 (by omega)) d_Ref_ends_88 ?_
  refine tp_i (y := sf 38) (by rw [show (38 : Int32).toNatClampNeg = 38 from pk_cl 38]) ?_
  refine tp_i (y := nI (zz 1)) y1 ?_
  refine lv_iadd hx hb d_Ref_ends_89 ?_
  refine tp_i (y := nI (49 + (zz 1))) (by exact nI_add 49 (zz 1)) ?_
  refine lv_iconst (v := 1) hx hb d_Ref_ends_90 (by decide) ?_
  refine lv_isub hx hb d_Ref_ends_91 ?_
  refine tp_i (y := nI (49 + (zz 1) - 1)) (by exact pk_sub (a := 49 + (zz 1)) (b := 1) (by omega)) ?_
  refine va_iald (D := (dC, dI)) hx hb hK hP 1 0 rfl rfl (i := nI (49 + (zz 1) - 1)) (pk_in (49 + (zz 1) - 1) 155 (by omega)) d_Ref_ends_92 ?_
  refine tp_i (y := sf (49 + (zz 1) - 1)) (by rw [show (nI (49 + (zz 1) - 1) : Int32).toNatClampNeg = 49 + (zz 1) - 1 from pk_cl (49 + (zz 1) - 1)]) ?_
  refine tp_i (y := nI (la 1)) y4 ?_
  refine lv_iadd hx hb d_Ref_ends_93 ?_
  refine tp_i (y := nI (73 + (la 1))) (by exact nI_add 73 (la 1)) ?_
  refine va_iald (D := (dC, dI)) hx hb hK hP 1 0 rfl rfl (i := nI (73 + (la 1))) (pk_in (73 + (la 1)) 155 (by omega)) d_Ref_ends_94 ?_
  refine tp_i (y := sf (73 + (la 1))) (by rw [show (nI (73 + (la 1)) : Int32).toNatClampNeg = 73 + (la 1) from pk_cl (73 + (la 1))]) ?_
  refine va_iast (D := (dC, dI)) hx hb hK hP (dd_D hD rfl) hS 2 1 rfl rfl (i := 9) (x := sf (73 + (la 1))) (pk_in 9 11 (by omega)) d_Ref_ends_95 ?_
  clear hP hS locs H
  intro H locs hP _ hS
  rw [show (9 : Int32).toNatClampNeg = 9 from pk_cl 9] at hP
  replace hP : va_P (dC, dI) classes [oc ra 8 [.int (nI T), .int (nI Ac), .ref (rA 2), .ref (rA 3), .ref (rA 4), .ref (rA 5), .ref (rA 6), .ref (rA 7), .ref (rA 8), .ref (rA 9), .ref (rA 10), .ref (rA 11), .ref (rA 12), .ref (rA 13), .int ir, .ref (rA 15), .ref (rA 16), .ref (rA 17), .ref (rA 18), .int (nI md), .int (nI wd), .ref (rA 21), .ref (rA 22), .ref (rA 23), .int (nI mn), .ref (rA 25), .int (nI cb), .int mr, .ref (rA 28), .ref (rA 29), .ref (rA 30), .ref (rA 31), .ref (rA 32), .ref (rA 33), .ref (rA 34), .ref (rA 35), .int (nI ld), .int (nI gm), .ref (rA 38), .ref (rA 39), .ref (rA 40), .ref (rA 41), .ref (rA 42), .ref (rA 43), .ref (rA 44), .ref (rA 45), .int (nI my), .ref (rA 47)], ia (rA 16) (rK9 16) 155 sf, ia (rA 28) (rK9 28) 11 (upd (upd (upd (upd (upd (upd (upd (upd (upd (upd nw9 0 (sf 4)) 1 (sf 5)) 2 (sf 6)) 3 (sf 7)) 4 (sf 8)) 5 (sf 9)) 6 (sf 10)) 7 (sf 11)) 8 (sf (73 + (la 0)))) 9 (sf (73 + (la 1)))), ia (rA 9) (rK9 9) 352000 oc9, ia (rA 8) (rK9 8) 8 (fun i => nI (om i)), ia (rA 12) (rK9 12) 32000 (fun i => nI (or9 i)), ia (rA 11) (rK9 11) 16000 (fun i => nI (ws i)), ia (rA 10) (rK9 10) 256000 wi, ia (rA 18) (rK9 18) 17 sp9] H := hP
  refine tp_pc (pc' := 96) (by rfl) ?_
  obtain ⟨y1, y2, y3, y4, y5⟩ := hla 2 (by decide)
  refine lv_iinc (v := 2) (lv' := [(2, .int 2), (0, .ref ra), (1, .int (nI dp))]) hx hb d_Ref_ends_96 hl (k := 0) rfl (by first | rfl | decide) (by decide) rfl ?_
  clear hl ls
  intro ls hl
  refine lv_goto (tgt := 30) hx hb d_Ref_ends_99 (by decide) ?_
  refine tp_pc (pc' := 30) (by rfl) ?_
  refine lv_iload_n hx hb d_Ref_ends_30 rfl (lv_at hl 0 rfl) ?_
  refine lv_iconst (v := 3) hx hb d_Ref_ends_31 (by decide) ?_
  refine lv_icmp_ge (tgt := 102) hx hb d_Ref_ends_32 (by decide) (fun c_12 => absurd c_12 (by decide)) (fun c_12 => ?_)
  refine tp_pc (pc' := 35) (by rfl) ?_
  refine lv_aload_n hx hb d_Ref_ends_35 rfl (lv_at hl 1 rfl) ?_
  refine va_get (D := (dC, dI)) (ci := 8) (v := .ref (rA 28)) (C := R_Ref) (T := F_Ref) (N := 48) hx hb hw i_Ref hown hK hP 0 rfl rfl 28 (by decide) (hw _ m_927) (fun _ h9 => h9) rfl d_Ref_ends_36 ?_
  refine lv_bipush (v := 8) hx hb d_Ref_ends_39 (by decide) ?_
  refine lv_iload_n hx hb d_Ref_ends_41 rfl (lv_at hl 0 rfl) ?_
  refine lv_iadd hx hb d_Ref_ends_42 ?_
  refine tp_i (y := 10) (by first | rfl | decide) ?_
  refine lv_aload_n hx hb d_Ref_ends_43 rfl (lv_at hl 1 rfl) ?_
  refine va_get (D := (dC, dI)) (ci := 8) (v := .int (nI md)) (C := R_Ref) (T := F_Ref) (N := 48) hx hb hw i_Ref hown hK hP 0 rfl rfl 19 (by decide) (hw _ m_918) (fun _ h9 => h9) rfl d_Ref_ends_44 ?_
  refine lv_iconst (v := 3) hx hb d_Ref_ends_47 (by decide) ?_
  refine lv_icmp_ge (tgt := 63) hx hb d_Ref_ends_48 (by decide) (fun c9 => ?_) (fun c9 => absurd ((nI_leI (a := 3) (b := md) (by omega) (by omega)).mpr (by omega)) c9)
  refine tp_pc (pc' := 63) (by rfl) ?_
  refine lv_aload_n hx hb d_Ref_ends_63 rfl (lv_at hl 1 rfl) ?_
  refine va_get (D := (dC, dI)) (ci := 8) (v := .ref (rA 16)) (C := R_Ref) (T := F_Ref) (N := 48) hx hb hw i_Ref hown hK hP 0 rfl rfl 16 (by decide) (hw _ m_915) (fun _ h9 => h9) rfl d_Ref_ends_64 ?_
  refine lv_bipush (v := 73) hx hb d_Ref_ends_67 (by decide) ?_
  refine lv_aload_n hx hb d_Ref_ends_69 rfl (lv_at hl 1 rfl) ?_
  refine va_get (D := (dC, dI)) (ci := 8) (v := .ref (rA 16)) (C := R_Ref) (T := F_Ref) (N := 48) hx hb hw i_Ref hown hK hP 0 rfl rfl 16 (by decide) (hw _ m_915) (fun _ h9 => h9) rfl d_Ref_ends_70 ?_
  refine lv_bipush (v := 41) hx hb d_Ref_ends_73 (by decide) ?_
  refine lv_bipush (v := 8) hx hb d_Ref_ends_75 (by decide) ?_
  refine lv_iload_n hx hb d_Ref_ends_77 rfl (lv_at hl 0 rfl) ?_
  refine lv_imul hx hb d_Ref_ends_78 ?_
  refine tp_i (y := 16) (by first | rfl | decide) ?_
  refine lv_iadd hx hb d_Ref_ends_79 ?_
  refine tp_i (y := 57) (by first | rfl | decide) ?_
  refine lv_aload_n hx hb d_Ref_ends_80 rfl (lv_at hl 1 rfl) ?_
  refine va_get (D := (dC, dI)) (ci := 8) (v := .ref (rA 16)) (C := R_Ref) (T := F_Ref) (N := 48) hx hb hw i_Ref hown hK hP 0 rfl rfl 16 (by decide) (hw _ m_915) (fun _ h9 => h9) rfl d_Ref_ends_81 ?_
  refine lv_bipush (v := 37) hx hb d_Ref_ends_84 (by decide) ?_
  refine lv_iload_n hx hb d_Ref_ends_86 rfl (lv_at hl 0 rfl) ?_
  refine lv_iadd hx hb d_Ref_ends_87 ?_
  refine tp_i (y := 39) (by first | rfl | decide) ?_
  refine va_iald (D := (dC, dI)) hx hb hK hP 1 0 rfl rfl (i := 39) (pk_in 39 155 (by omega)) d_Ref_ends_88 ?_
  refine tp_i (y := sf 39) (by rw [show (39 : Int32).toNatClampNeg = 39 from pk_cl 39]) ?_
  refine tp_i (y := nI (zz 2)) y1 ?_
  refine lv_iadd hx hb d_Ref_ends_89 ?_
  refine tp_i (y := nI (57 + (zz 2))) (by exact nI_add 57 (zz 2)) ?_
  refine lv_iconst (v := 1) hx hb d_Ref_ends_90 (by decide) ?_
  refine lv_isub hx hb d_Ref_ends_91 ?_
  refine tp_i (y := nI (57 + (zz 2) - 1)) (by exact pk_sub (a := 57 + (zz 2)) (b := 1) (by omega)) ?_
  refine va_iald (D := (dC, dI)) hx hb hK hP 1 0 rfl rfl (i := nI (57 + (zz 2) - 1)) (pk_in (57 + (zz 2) - 1) 155 (by omega)) d_Ref_ends_92 ?_
  refine tp_i (y := sf (57 + (zz 2) - 1)) (by rw [show (nI (57 + (zz 2) - 1) : Int32).toNatClampNeg = 57 + (zz 2) - 1 from pk_cl (57 + (zz 2) - 1)]) ?_
  refine tp_i (y := nI (la 2)) y4 ?_
  refine lv_iadd hx hb d_Ref_ends_93 ?_
  refine tp_i (y := nI (73 + (la 2))) (by exact nI_add 73 (la 2)) ?_
  refine va_iald (D := (dC, dI)) hx hb hK hP 1 0 rfl rfl (i := nI (73 + (la 2))) (pk_in (73 + (la 2)) 155 (by omega)) d_Ref_ends_94 ?_
  refine tp_i (y := sf (73 + (la 2))) (by rw [show (nI (73 + (la 2)) : Int32).toNatClampNeg = 73 + (la 2) from pk_cl (73 + (la 2))]) ?_
  refine va_iast (D := (dC, dI)) hx hb hK hP (dd_D hD rfl) hS 2 1 rfl rfl (i := 10) (x := sf (73 + (la 2))) (pk_in 10 11 (by omega)) d_Ref_ends_95 ?_
  clear hP hS locs H
  intro H locs hP _ hS
  rw [show (10 : Int32).toNatClampNeg = 10 from pk_cl 10] at hP
  replace hP : va_P (dC, dI) classes [oc ra 8 [.int (nI T), .int (nI Ac), .ref (rA 2), .ref (rA 3), .ref (rA 4), .ref (rA 5), .ref (rA 6), .ref (rA 7), .ref (rA 8), .ref (rA 9), .ref (rA 10), .ref (rA 11), .ref (rA 12), .ref (rA 13), .int ir, .ref (rA 15), .ref (rA 16), .ref (rA 17), .ref (rA 18), .int (nI md), .int (nI wd), .ref (rA 21), .ref (rA 22), .ref (rA 23), .int (nI mn), .ref (rA 25), .int (nI cb), .int mr, .ref (rA 28), .ref (rA 29), .ref (rA 30), .ref (rA 31), .ref (rA 32), .ref (rA 33), .ref (rA 34), .ref (rA 35), .int (nI ld), .int (nI gm), .ref (rA 38), .ref (rA 39), .ref (rA 40), .ref (rA 41), .ref (rA 42), .ref (rA 43), .ref (rA 44), .ref (rA 45), .int (nI my), .ref (rA 47)], ia (rA 16) (rK9 16) 155 sf, ia (rA 28) (rK9 28) 11 (upd (upd (upd (upd (upd (upd (upd (upd (upd (upd (upd nw9 0 (sf 4)) 1 (sf 5)) 2 (sf 6)) 3 (sf 7)) 4 (sf 8)) 5 (sf 9)) 6 (sf 10)) 7 (sf 11)) 8 (sf (73 + (la 0)))) 9 (sf (73 + (la 1)))) 10 (sf (73 + (la 2)))), ia (rA 9) (rK9 9) 352000 oc9, ia (rA 8) (rK9 8) 8 (fun i => nI (om i)), ia (rA 12) (rK9 12) 32000 (fun i => nI (or9 i)), ia (rA 11) (rK9 11) 16000 (fun i => nI (ws i)), ia (rA 10) (rK9 10) 256000 wi, ia (rA 18) (rK9 18) 17 sp9] H := hP
  refine tp_pc (pc' := 96) (by rfl) ?_
  refine lv_iinc (v := 3) (lv' := [(2, .int 3), (0, .ref ra), (1, .int (nI dp))]) hx hb d_Ref_ends_96 hl (k := 0) rfl (by first | rfl | decide) (by decide) rfl ?_
  clear hl ls
  intro ls hl
  refine lv_goto (tgt := 30) hx hb d_Ref_ends_99 (by decide) ?_
  refine tp_pc (pc' := 30) (by rfl) ?_
  refine lv_iload_n hx hb d_Ref_ends_30 rfl (lv_at hl 0 rfl) ?_
  refine lv_iconst (v := 3) hx hb d_Ref_ends_31 (by decide) ?_
  refine lv_icmp_ge (tgt := 102) hx hb d_Ref_ends_32 (by decide) (fun c_13 => ?_) (fun c_13 => absurd c_13 (by decide))
  refine tp_pc (pc' := 102) (by rfl) ?_
  have hz : ∀ j, j < 11 → (upd (upd (upd (upd (upd (upd (upd (upd (upd (upd (upd nw9 0 (sf 4)) 1 (sf 5)) 2 (sf 6)) 3 (sf 7)) 4 (sf 8)) 5 (sf 9)) 6 (sf 10)) 7 (sf 11)) 8 (sf (73 + (la 0)))) 9 (sf (73 + (la 1)))) 10 (sf (73 + (la 2)))) j = nv j := fun j hj => by
    rcases (by omega : j = 0 ∨ j = 1 ∨ j = 2 ∨ j = 3 ∨ j = 4 ∨ j = 5 ∨ j = 6 ∨ j = 7 ∨ j = 8 ∨ j = 9 ∨ j = 10) with rfl | rfl | rfl | rfl | rfl | rfl | rfl | rfl | rfl | rfl | rfl
    · exact (hv1 0 (by decide)).symm
    · exact (hv1 1 (by decide)).symm
    · exact (hv1 2 (by decide)).symm
    · exact (hv1 3 (by decide)).symm
    · exact (hv1 4 (by decide)).symm
    · exact (hv1 5 (by decide)).symm
    · exact (hv1 6 (by decide)).symm
    · exact (hv1 7 (by decide)).symm
    · exact (hv2 0 (by decide)).symm
    · exact (hv2 1 (by decide)).symm
    · exact (hv2 2 (by decide)).symm
  replace hP : va_P (dC, dI) classes [oc ra 8 [.int (nI T), .int (nI Ac), .ref (rA 2), .ref (rA 3), .ref (rA 4), .ref (rA 5), .ref (rA 6), .ref (rA 7), .ref (rA 8), .ref (rA 9), .ref (rA 10), .ref (rA 11), .ref (rA 12), .ref (rA 13), .int ir, .ref (rA 15), .ref (rA 16), .ref (rA 17), .ref (rA 18), .int (nI md), .int (nI wd), .ref (rA 21), .ref (rA 22), .ref (rA 23), .int (nI mn), .ref (rA 25), .int (nI cb), .int mr, .ref (rA 28), .ref (rA 29), .ref (rA 30), .ref (rA 31), .ref (rA 32), .ref (rA 33), .ref (rA 34), .ref (rA 35), .int (nI ld), .int (nI gm), .ref (rA 38), .ref (rA 39), .ref (rA 40), .ref (rA 41), .ref (rA 42), .ref (rA 43), .ref (rA 44), .ref (rA 45), .int (nI my), .ref (rA 47)], ia (rA 16) (rK9 16) 155 sf, ia (rA 28) (rK9 28) 11 nv, ia (rA 9) (rK9 9) 352000 oc9, ia (rA 8) (rK9 8) 8 (fun i => nI (om i)), ia (rA 12) (rK9 12) 32000 (fun i => nI (or9 i)), ia (rA 11) (rK9 11) 16000 (fun i => nI (ws i)), ia (rA 10) (rK9 10) 256000 wi, ia (rA 18) (rK9 18) 17 sp9] H := P_cg (f := nv) 2 rfl hz hP
  refine lv_aload_n hx hb d_Ref_ends_102 rfl (lv_at hl 1 rfl) ?_
  refine lv_aload_n hx hb d_Ref_ends_103 rfl (lv_at hl 1 rfl) ?_
  refine va_get (D := (dC, dI)) (ci := 8) (v := .int (nI md)) (C := R_Ref) (T := F_Ref) (N := 48) hx hb hw i_Ref hown hK hP 0 rfl rfl 19 (by decide) (hw _ m_918) (fun _ h9 => h9) rfl d_Ref_ends_104 ?_
  obtain ⟨hPc, hDc, hFc⟩ := cut3 (wc := [oc ra 8 [.int (nI T), .int (nI Ac), .ref (rA 2), .ref (rA 3), .ref (rA 4), .ref (rA 5), .ref (rA 6), .ref (rA 7), .ref (rA 8), .ref (rA 9), .ref (rA 10), .ref (rA 11), .ref (rA 12), .ref (rA 13), .int ir, .ref (rA 15), .ref (rA 16), .ref (rA 17), .ref (rA 18), .int (nI md), .int (nI wd), .ref (rA 21), .ref (rA 22), .ref (rA 23), .int (nI mn), .ref (rA 25), .int (nI cb), .int mr, .ref (rA 28), .ref (rA 29), .ref (rA 30), .ref (rA 31), .ref (rA 32), .ref (rA 33), .ref (rA 34), .ref (rA 35), .int (nI ld), .int (nI gm), .ref (rA 38), .ref (rA 39), .ref (rA 40), .ref (rA 41), .ref (rA 42), .ref (rA 43), .ref (rA 44), .ref (rA 45), .int (nI my), .ref (rA 47)], ia (rA 28) (rK9 28) 11 nv, ia (rA 9) (rK9 9) 352000 oc9, ia (rA 8) (rK9 8) 8 (fun i => nI (om i)), ia (rA 12) (rK9 12) 32000 (fun i => nI (or9 i))]) hP hD rfl hS hA [0, 2, 3, 4, 5] (by decide +kernel) rfl
  have hKc := hK.sub (tys' := [((rK9 28), .int), ((rK9 9), .short), ((rK9 8), .int), ((rK9 12), .int)]) [1, 2, 3, 4] rfl
  refine va_calli (va_runV (As := [.int (nI md)]) (rest := []) ⟨hx, hb, hml, hown, hw⟩ (gen_Ref_addOutcome_full l dC dI ra rA rK9 T Ac md wd mn cb ld gm my ir mr md n p9 nv oc9 om or9 (by omega) hn4 hom hor hp9 h1 h2 H.size) (cw_V 1 hw g_Ref_addOutcome rfl rfl rfl (hw _ m_109) (hw _ m_1162) (hw _ m_1164) (hw _ m_75) (by decide +kernel) ⟨Nat.le_of_ble_eq_true rfl, Nat.le_of_ble_eq_true rfl⟩) ⟨fun a U g mk q => by obtain ⟨q0, q1, qP, qK, qD, qN⟩ := q; exact ⟨q0, q1, qP, va_K.moved (u := U) (U := U.calling g mk a) (Vm.Alike.refl U.vm) qK, qD, nw_call qN⟩, va_recv hKc hPc (ci := 8) (q0 := 0) rfl rfl, fun U hU hW => ⟨rfl, by rw [hU], by rw [hU]; exact hPc, va_K.moved hW.alike hKc, hDc.weaken (fun _ _ _ _ => trivial), nw_warm hW hn⟩⟩ rfl rfl hl.1 rfl (lv_room (Nat.le_of_ble_eq_true rfl)) d_Ref_ends_107 ⟨Nat.le_of_ble_eq_true rfl, Nat.le_of_ble_eq_true rfl⟩) hS (fun q _ h => hFc q h) hFc ?_
  intro r_14 u t9 H1 locs1 ht9 hvm hw1 hB hz1 hk1 hS1
  obtain ⟨hP1, hK1, hD1⟩ := hB
  rw [ht9] at hP1
  replace hK1 := va_K.moved hvm.symm hK1
  have hPD := join3 hP hD rfl [0, 2, 3, 4, 5] [1, 6, 7, 8] rfl (by rfl) (by decide +kernel) (by decide +kernel) hk1 hFc hP1 hD1
  replace hK : va_K (dC, dI) classes [((rK9 16), .int), ((rK9 28), .int), ((rK9 9), .short), ((rK9 8), .int), ((rK9 12), .int), ((rK9 11), .int), ((rK9 10), .short), ((rK9 18), .int)] s := hK.app hK1
  clear hP1 hK1 hD1 hk1 hz1 hFc hKc hDc hPc hvm ht9 hP hS t9 locs H
  have hP : va_P (dC, dI) classes [ia (rA 16) (rK9 16) 155 sf, ia (rA 11) (rK9 11) 16000 (fun i => nI (ws i)), ia (rA 10) (rK9 10) 256000 wi, ia (rA 18) (rK9 18) 17 sp9, oc ra 8 [.int (nI T), .int (nI Ac), .ref (rA 2), .ref (rA 3), .ref (rA 4), .ref (rA 5), .ref (rA 6), .ref (rA 7), .ref (rA 8), .ref (rA 9), .ref (rA 10), .ref (rA 11), .ref (rA 12), .ref (rA 13), .int ir, .ref (rA 15), .ref (rA 16), .ref (rA 17), .ref (rA 18), .int (nI md), .int (nI wd), .ref (rA 21), .ref (rA 22), .ref (rA 23), .int (nI mn), .ref (rA 25), .int (nI cb), .int mr, .ref (rA 28), .ref (rA 29), .ref (rA 30), .ref (rA 31), .ref (rA 32), .ref (rA 33), .ref (rA 34), .ref (rA 35), .int (nI ld), .int (nI gm), .ref (rA 38), .ref (rA 39), .ref (rA 40), .ref (rA 41), .ref (rA 42), .ref (rA 43), .ref (rA 44), .ref (rA 45), .int (nI my), .ref (rA 47)], ia (rA 28) (rK9 28) 11 nv, ia (rA 9) (rK9 9) 352000 oc9, ia (rA 8) (rK9 8) 8 (fun i => nI (om i)), ia (rA 12) (rK9 12) 32000 (fun i => nI (or9 i))] H1 := hPD.1
  replace hD : dd A [(rA 16), (rA 11), (rA 10), (rA 18), ra, (rA 28), (rA 9), (rA 8), (rA 12)] := dd_of hPD.2 rfl
  clear hPD
  revert H1 locs1
  intro H locs hS hP
  refine tp_i (y := (-1)) (hw1) ?_
  clear hw1 r_14 u
  refine tp_pc (pc' := 110) (by rfl) ?_
  refine lv_istore_n (lv' := [(2, .int (-1)), (0, .ref ra), (1, .int (nI dp))]) hx hb d_Ref_ends_110 rfl hl (by decide) rfl ?_
  clear hl ls
  intro ls hl
  refine lv_iload_n hx hb d_Ref_ends_111 rfl (lv_at hl 0 rfl) ?_
  refine lv_if_lt (tgt := 168) hx hb d_Ref_ends_112 (by decide) (fun c_15 => ?_) (fun c_15 => absurd c_15 (by decide))
  refine tp_pc (pc' := 168) (by rfl) ?_
  obtain ⟨hP9, hD9, -⟩ := cut3 (wc := [oc ra 8 [.int (nI T), .int (nI Ac), .ref (rA 2), .ref (rA 3), .ref (rA 4), .ref (rA 5), .ref (rA 6), .ref (rA 7), .ref (rA 8), .ref (rA 9), .ref (rA 10), .ref (rA 11), .ref (rA 12), .ref (rA 13), .int ir, .ref (rA 15), .ref (rA 16), .ref (rA 17), .ref (rA 18), .int (nI md), .int (nI wd), .ref (rA 21), .ref (rA 22), .ref (rA 23), .int (nI mn), .ref (rA 25), .int (nI cb), .int mr, .ref (rA 28), .ref (rA 29), .ref (rA 30), .ref (rA 31), .ref (rA 32), .ref (rA 33), .ref (rA 34), .ref (rA 35), .int (nI ld), .int (nI gm), .ref (rA 38), .ref (rA 39), .ref (rA 40), .ref (rA 41), .ref (rA 42), .ref (rA 43), .ref (rA 44), .ref (rA 45), .int (nI my), .ref (rA 47)], ia (rA 16) (rK9 16) 155 sf, ia (rA 28) (rK9 28) 11 nv, ia (rA 9) (rK9 9) 352000 oc9, ia (rA 8) (rK9 8) 8 (fun i => nI (om i)), ia (rA 12) (rK9 12) 32000 (fun i => nI (or9 i)), ia (rA 11) (rK9 11) 16000 (fun i => nI (ws i)), ia (rA 10) (rK9 10) 256000 wi, ia (rA 18) (rK9 18) 17 sp9]) hP hD rfl hS hA [4, 0, 5, 6, 7, 8, 1, 2, 3] (by decide +kernel) rfl
  have hK9 := hK.sub (tys' := []) [] rfl
  refine W.widen (k := 0) (n := 0) (by exact Nat.le_of_ble_eq_true rfl) (by exact Nat.le_of_ble_eq_true rfl) ?_
  exact W.vret hx hb hr (fun t9 ht9 hW => ⟨⟨(), rfl, trivial, by rw [ht9]; exact hP9, va_K.moved hW.alike hK9, hD9⟩, hS.F ht9⟩) hS.2.2 d_Ref_ends_168
