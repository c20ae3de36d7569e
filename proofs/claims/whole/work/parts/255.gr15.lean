section OMwhile
variable {p : Program} {l : Launch} {e : Env} {R : Room} {s : State} {m : MethodId} {args : Array Value} {below : List Frame} {meth : Method} {c : Code} {H : Heap} {locs : List Loc} {cells slots : Nat} {Q : State → Prop} {pc : Nat} {ls : Array Slot}
/-- a loop with a number that sinks -/
theorem lp_w (J : Nat → Heap → List Loc → Array Slot → Prop) (n0 : Nat) (h0 : J n0 H locs ls)
    (step : ∀ n H locs ls, J n H locs ls → (∀ k, k < n → ∀ H' locs' ls', J k H' locs' ls' → W p l e R s m args below meth c H' locs' cells slots Q (F0 m pc ls' [])) → W p l e R s m args below meth c H locs cells slots Q (F0 m pc ls [])) : W p l e R s m args below meth c H locs cells slots Q (F0 m pc ls []) := by
  have go : ∀ n k, k < n → ∀ H locs ls, J k H locs ls → W p l e R s m args below meth c H locs cells slots Q (F0 m pc ls []) := by
    intro n
    induction n with
    | zero => intro k hk; exact absurd hk (Nat.not_lt_zero k)
    | succ n ih => intro k hk H locs ls h; exact step k H locs ls h (fun k' hk' H' locs' ls' h' => ih k' (by omega) H' locs' ls' h')
  exact go (n0 + 1) n0 (Nat.lt_succ_self n0) H locs ls h0
end OMwhile
/-- places from lo on, up to hi, have moved one on -/
def mvN (f : Nat → Nat) (lo hi : Nat) : Nat → Nat := fun k => if lo < k ∧ k ≤ hi then f (k - 1) else f k
theorem mvN_0 {f : Nat → Nat} {h : Nat} : mvN f h h = f := by funext k; exact if_neg (by omega)
theorem mvN_s {f : Nat → Nat} {lo hi : Nat} (h : lo + 1 ≤ hi) : updN (mvN f (lo + 1) hi) (lo + 1) (mvN f (lo + 1) hi lo) = mvN f lo hi := by
  funext k; unfold updN
  by_cases e : k = lo + 1
  · rw [if_pos e, e]; unfold mvN; rw [if_neg (by omega), if_pos (by omega), Nat.add_sub_cancel]
  · rw [if_neg e]; unfold mvN
    by_cases c : lo < k ∧ k ≤ hi
    · rw [if_pos c, if_pos (by omega)]
    · rw [if_neg c, if_neg (by omega)]
/-- a row of outcomes is written -/
def wrO (oc9 nw9 : Nat → Int32) (b : Nat) : Nat → (Nat → Int32)
  | 0 => oc9
  | k + 1 => upd (wrO oc9 nw9 b k) (b + k) (nw9 k).toInt16.toInt32
set_option maxHeartbeats 4000000 in
set_option maxRecDepth 100000 in
theorem gen_Ref_addOutcome_has (l : Launch) (dC : Nat → ClassId) (dI : Nat → Nat → Nat) (ra : Nat) (rA : Nat → Nat) (rK9 : Nat → ClassId) (T Ac md wd mn cb ld gm my : Nat) (ir mr : Int32) (se n p9 : Nat) (nw9 oc9 : Nat → Int32) (om or9 : Nat → Nat) (hse : se < 8) (hn4 : n < 4000) (hom : om se = n) (hor : ∀ i, i < n → or9 (4000 * se + i) < n) (hp9 : p9 ≤ n) (h1 : ∀ i, i < p9 → 0 < agF nw9 (fun j => oc9 (11 * (4000 * se + or9 (4000 * se + i)) + j)) 11 0) (h2 : ∀ i, p9 ≤ i → i < n → ¬ 0 < agF nw9 (fun j => oc9 (11 * (4000 * se + or9 (4000 * se + i)) + j)) 11 0) (hlt : p9 < n) (heq : agF nw9 (fun j => oc9 (11 * (4000 * se + or9 (4000 * se + p9)) + j)) 11 0 = 0) (sz : Nat) : Met l y_Ref_addOutcome w_Ref_addOutcome ({ frames := 1, cells := 0, slots := 0, locals := 60 }) (va_Pc [.ref ra, .int (nI se)] (fun U => U.heap.size = sz ∧ va_P (dC, dI) classes [oc ra 8 [.int (nI T), .int (nI Ac), .ref (rA 2), .ref (rA 3), .ref (rA 4), .ref (rA 5), .ref (rA 6), .ref (rA 7), .ref (rA 8), .ref (rA 9), .ref (rA 10), .ref (rA 11), .ref (rA 12), .ref (rA 13), .int ir, .ref (rA 15), .ref (rA 16), .ref (rA 17), .ref (rA 18), .int (nI md), .int (nI wd), .ref (rA 21), .ref (rA 22), .ref (rA 23), .int (nI mn), .ref (rA 25), .int (nI cb), .int mr, .ref (rA 28), .ref (rA 29), .ref (rA 30), .ref (rA 31), .ref (rA 32), .ref (rA 33), .ref (rA 34), .ref (rA 35), .int (nI ld), .int (nI gm), .ref (rA 38), .ref (rA 39), .ref (rA 40), .ref (rA 41), .ref (rA 42), .ref (rA 43), .ref (rA 44), .ref (rA 45), .int (nI my), .ref (rA 47)], ia (rA 28) (rK9 28) 11 nw9, ia (rA 9) (rK9 9) 352000 oc9, ia (rA 8) (rK9 8) 8 (fun i => nI (om i)), ia (rA 12) (rK9 12) 32000 (fun i => nI (or9 i))] U.heap ∧ va_K (dC, dI) classes [((rK9 28), .int), ((rK9 9), .short), ((rK9 8), .int), ((rK9 12), .int)] U ∧ va_D (fun _ => True) [oc ra 8 [.int (nI T), .int (nI Ac), .ref (rA 2), .ref (rA 3), .ref (rA 4), .ref (rA 5), .ref (rA 6), .ref (rA 7), .ref (rA 8), .ref (rA 9), .ref (rA 10), .ref (rA 11), .ref (rA 12), .ref (rA 13), .int ir, .ref (rA 15), .ref (rA 16), .ref (rA 17), .ref (rA 18), .int (nI md), .int (nI wd), .ref (rA 21), .ref (rA 22), .ref (rA 23), .int (nI mn), .ref (rA 25), .int (nI cb), .int mr, .ref (rA 28), .ref (rA 29), .ref (rA 30), .ref (rA 31), .ref (rA 32), .ref (rA 33), .ref (rA 34), .ref (rA 35), .int (nI ld), .int (nI gm), .ref (rA 38), .ref (rA 39), .ref (rA 40), .ref (rA 41), .ref (rA 42), .ref (rA 43), .ref (rA 44), .ref (rA 45), .int (nI my), .ref (rA 47)], ia (rA 28) (rK9 28) 11 nw9, ia (rA 9) (rK9 9) 352000 oc9, ia (rA 8) (rK9 8) 8 (fun i => nI (om i)), ia (rA 12) (rK9 12) 32000 (fun i => nI (or9 i))] ∧ nw U)) (va_Qi (fun (r : Int32) (_ : Unit) => r = -1) (fun _ t9 => va_P (dC, dI) classes [oc ra 8 [.int (nI T), .int (nI Ac), .ref (rA 2), .ref (rA 3), .ref (rA 4), .ref (rA 5), .ref (rA 6), .ref (rA 7), .ref (rA 8), .ref (rA 9), .ref (rA 10), .ref (rA 11), .ref (rA 12), .ref (rA 13), .int ir, .ref (rA 15), .ref (rA 16), .ref (rA 17), .ref (rA 18), .int (nI md), .int (nI wd), .ref (rA 21), .ref (rA 22), .ref (rA 23), .int (nI mn), .ref (rA 25), .int (nI cb), .int mr, .ref (rA 28), .ref (rA 29), .ref (rA 30), .ref (rA 31), .ref (rA 32), .ref (rA 33), .ref (rA 34), .ref (rA 35), .int (nI ld), .int (nI gm), .ref (rA 38), .ref (rA 39), .ref (rA 40), .ref (rA 41), .ref (rA 42), .ref (rA 43), .ref (rA 44), .ref (rA 45), .int (nI my), .ref (rA 47)], ia (rA 28) (rK9 28) 11 nw9, ia (rA 9) (rK9 9) 352000 oc9, ia (rA 8) (rK9 8) 8 (fun i => nI (om i)), ia (rA 12) (rK9 12) 32000 (fun i => nI (or9 i))] t9.heap ∧ va_K (dC, dI) classes [] t9 ∧ va_D (va_A [oc ra 8 [.int (nI T), .int (nI Ac), .ref (rA 2), .ref (rA 3), .ref (rA 4), .ref (rA 5), .ref (rA 6), .ref (rA 7), .ref (rA 8), .ref (rA 9), .ref (rA 10), .ref (rA 11), .ref (rA 12), .ref (rA 13), .int ir, .ref (rA 15), .ref (rA 16), .ref (rA 17), .ref (rA 18), .int (nI md), .int (nI wd), .ref (rA 21), .ref (rA 22), .ref (rA 23), .int (nI mn), .ref (rA 25), .int (nI cb), .int mr, .ref (rA 28), .ref (rA 29), .ref (rA 30), .ref (rA 31), .ref (rA 32), .ref (rA 33), .ref (rA 34), .ref (rA 35), .int (nI ld), .int (nI gm), .ref (rA 38), .ref (rA 39), .ref (rA 40), .ref (rA 41), .ref (rA 42), .ref (rA 43), .ref (rA 44), .ref (rA 45), .int (nI my), .ref (rA 47)], ia (rA 28) (rK9 28) 11 nw9, ia (rA 9) (rK9 9) 352000 oc9, ia (rA 8) (rK9 8) 8 (fun i => nI (om i)), ia (rA 12) (rK9 12) 32000 (fun i => nI (or9 i))] sz) [oc ra 8 [.int (nI T), .int (nI Ac), .ref (rA 2), .ref (rA 3), .ref (rA 4), .ref (rA 5), .ref (rA 6), .ref (rA 7), .ref (rA 8), .ref (rA 9), .ref (rA 10), .ref (rA 11), .ref (rA 12), .ref (rA 13), .int ir, .ref (rA 15), .ref (rA 16), .ref (rA 17), .ref (rA 18), .int (nI md), .int (nI wd), .ref (rA 21), .ref (rA 22), .ref (rA 23), .int (nI mn), .ref (rA 25), .int (nI cb), .int mr, .ref (rA 28), .ref (rA 29), .ref (rA 30), .ref (rA 31), .ref (rA 32), .ref (rA 33), .ref (rA 34), .ref (rA 35), .int (nI ld), .int (nI gm), .ref (rA 38), .ref (rA 39), .ref (rA 40), .ref (rA 41), .ref (rA 42), .ref (rA 43), .ref (rA 44), .ref (rA 45), .int (nI my), .ref (rA 47)], ia (rA 28) (rK9 28) 11 nw9, ia (rA 9) (rK9 9) 352000 oc9, ia (rA 8) (rK9 8) 8 (fun i => nI (om i)), ia (rA 12) (rK9 12) 32000 (fun i => nI (or9 i))]) (va_A [oc ra 8 [.int (nI T), .int (nI Ac), .ref (rA 2), .ref (rA 3), .ref (rA 4), .ref (rA 5), .ref (rA 6), .ref (rA 7), .ref (rA 8), .ref (rA 9), .ref (rA 10), .ref (rA 11), .ref (rA 12), .ref (rA 13), .int ir, .ref (rA 15), .ref (rA 16), .ref (rA 17), .ref (rA 18), .int (nI md), .int (nI wd), .ref (rA 21), .ref (rA 22), .ref (rA 23), .int (nI mn), .ref (rA 25), .int (nI cb), .int mr, .ref (rA 28), .ref (rA 29), .ref (rA 30), .ref (rA 31), .ref (rA 32), .ref (rA 33), .ref (rA 34), .ref (rA 35), .int (nI ld), .int (nI gm), .ref (rA 38), .ref (rA 39), .ref (rA 40), .ref (rA 41), .ref (rA 42), .ref (rA 43), .ref (rA 44), .ref (rA 45), .int (nI my), .ref (rA 47)], ia (rA 28) (rK9 28) 11 nw9, ia (rA 9) (rK9 9) 352000 oc9, ia (rA 8) (rK9 8) 8 (fun i => nI (om i)), ia (rA 12) (rK9 12) 32000 (fun i => nI (or9 i))] sz)) 0 0 (va_A [oc ra 8 [.int (nI T), .int (nI Ac), .ref (rA 2), .ref (rA 3), .ref (rA 4), .ref (rA 5), .ref (rA 6), .ref (rA 7), .ref (rA 8), .ref (rA 9), .ref (rA 10), .ref (rA 11), .ref (rA 12), .ref (rA 13), .int ir, .ref (rA 15), .ref (rA 16), .ref (rA 17), .ref (rA 18), .int (nI md), .int (nI wd), .ref (rA 21), .ref (rA 22), .ref (rA 23), .int (nI mn), .ref (rA 25), .int (nI cb), .int mr, .ref (rA 28), .ref (rA 29), .ref (rA 30), .ref (rA 31), .ref (rA 32), .ref (rA 33), .ref (rA 34), .ref (rA 35), .int (nI ld), .int (nI gm), .ref (rA 38), .ref (rA 39), .ref (rA 40), .ref (rA 41), .ref (rA 42), .ref (rA 43), .ref (rA 44), .ref (rA 45), .int (nI my), .ref (rA 47)], ia (rA 28) (rK9 28) 11 nw9, ia (rA 9) (rK9 9) 352000 oc9, ia (rA 8) (rK9 8) 8 (fun i => nI (om i)), ia (rA 12) (rK9 12) 32000 (fun i => nI (or9 i))] sz) := by
  refine Met.ofW (cc := b_Ref_addOutcome) (maxL := 7) (ret := (some .int)) (by decide) rfl ?_
  intro p e0 s m args below meth c s₁ B hml hv
  obtain ⟨rfl, hsz, hP, hK, hD0, hn⟩ := hv
  have hx := B.exec
  have hb := B.bytes
  have hr := B.returns
  have hw := fun w (h : w ∈ wt) => atoms_spec (ws := w_Ref_addOutcome) B.pre w (List.mem_cons_of_mem _ h)
  have hown : s.vm.findClass R_Ref = some m.cls := findClass_of_methodNamed B.named
  have hlocks := B.notSynchronized
  subst hsz
  have hD1 := hD0.self (sz := s.heap.size)
  generalize hAe : va_A [oc ra 8 [.int (nI T), .int (nI Ac), .ref (rA 2), .ref (rA 3), .ref (rA 4), .ref (rA 5), .ref (rA 6), .ref (rA 7), .ref (rA 8), .ref (rA 9), .ref (rA 10), .ref (rA 11), .ref (rA 12), .ref (rA 13), .int ir, .ref (rA 15), .ref (rA 16), .ref (rA 17), .ref (rA 18), .int (nI md), .int (nI wd), .ref (rA 21), .ref (rA 22), .ref (rA 23), .int (nI mn), .ref (rA 25), .int (nI cb), .int mr, .ref (rA 28), .ref (rA 29), .ref (rA 30), .ref (rA 31), .ref (rA 32), .ref (rA 33), .ref (rA 34), .ref (rA 35), .int (nI ld), .int (nI gm), .ref (rA 38), .ref (rA 39), .ref (rA 40), .ref (rA 41), .ref (rA 42), .ref (rA 43), .ref (rA 44), .ref (rA 45), .int (nI my), .ref (rA 47)], ia (rA 28) (rK9 28) 11 nw9, ia (rA 9) (rK9 9) 352000 oc9, ia (rA 8) (rK9 8) 8 (fun i => nI (om i)), ia (rA 12) (rK9 12) 32000 (fun i => nI (or9 i))] s.heap.size = A at hD1 ⊢
  have hA : ∀ q : Nat, s.heap.size ≤ q → A q := fun q h => by rw [← hAe]; exact Or.inr h
  have hD : dd A [ra, (rA 28), (rA 9), (rA 8), (rA 12)] := dd_of hD1 rfl
  clear hAe hD0 hD1
  have hS : va_S A s.heap s.heap [] := va_S.rf
  replace hP : va_P (dC, dI) classes [oc ra 8 [.int (nI T), .int (nI Ac), .ref (rA 2), .ref (rA 3), .ref (rA 4), .ref (rA 5), .ref (rA 6), .ref (rA 7), .ref (rA 8), .ref (rA 9), .ref (rA 10), .ref (rA 11), .ref (rA 12), .ref (rA 13), .int ir, .ref (rA 15), .ref (rA 16), .ref (rA 17), .ref (rA 18), .int (nI md), .int (nI wd), .ref (rA 21), .ref (rA 22), .ref (rA 23), .int (nI mn), .ref (rA 25), .int (nI cb), .int mr, .ref (rA 28), .ref (rA 29), .ref (rA 30), .ref (rA 31), .ref (rA 32), .ref (rA 33), .ref (rA 34), .ref (rA 35), .int (nI ld), .int (nI gm), .ref (rA 38), .ref (rA 39), .ref (rA 40), .ref (rA 41), .ref (rA 42), .ref (rA 43), .ref (rA 44), .ref (rA 45), .int (nI my), .ref (rA 47)], ia (rA 28) (rK9 28) 11 nw9, ia (rA 9) (rK9 9) 352000 oc9, ia (rA 8) (rK9 8) 8 (fun i => nI (om i)), ia (rA 12) (rK9 12) 32000 (fun i => nI (or9 i))] s.heap := hP
  have hl := lv_entry ([.ref ra, .int (nI se)]) (n := 7) (Nat.le_of_ble_eq_true rfl)
  rw [lg_entry_eq]
  generalize (lg_sl ([.ref ra, .int (nI se)]) ++ List.replicate (7 - (lg_sl ([.ref ra, .int (nI se)])).length) Slot.unset).toArray = ls at hl ⊢
  replace hl : lv_has ls 7 [(0, .ref ra), (1, .int (nI se))] := hl
  refine lv_sipush (v := 4000) hx hb d_Ref_addOutcome_0 (by decide) ?_
  refine lv_iload_n hx hb d_Ref_addOutcome_3 rfl (lv_at hl 1 rfl) ?_
  refine lv_imul hx hb d_Ref_addOutcome_4 ?_
  refine tp_i (y := nI (4000 * se)) (by exact pk_mul 4000 se) ?_
  refine lv_istore_n (lv' := [(2, .int (nI (4000 * se))), (0, .ref ra), (1, .int (nI se))]) hx hb d_Ref_addOutcome_5 rfl hl (by decide) rfl ?_
  clear hl ls
  intro ls hl
  refine lv_iconst (v := 0) hx hb d_Ref_addOutcome_6 (by decide) ?_
  refine lv_istore_n (lv' := [(3, .int 0), (2, .int (nI (4000 * se))), (0, .ref ra), (1, .int (nI se))]) hx hb d_Ref_addOutcome_7 rfl hl (by decide) rfl ?_
  clear hl ls
  intro ls hl
  refine lv_aload_n hx hb d_Ref_addOutcome_8 rfl (lv_at hl 2 rfl) ?_
  refine va_get (D := (dC, dI)) (ci := 8) (v := .ref (rA 8)) (C := R_Ref) (T := F_Ref) (N := 48) hx hb hw i_Ref hown hK hP 0 rfl rfl 8 (by decide) (hw _ m_907) (fun _ h9 => h9) rfl d_Ref_addOutcome_9 ?_
  refine lv_iload_n hx hb d_Ref_addOutcome_12 rfl (lv_at hl 3 rfl) ?_
  refine va_iald (D := (dC, dI)) hx hb hK hP 3 2 rfl rfl (i := nI se) (pk_in se 8 (by omega)) d_Ref_addOutcome_13 ?_
  refine tp_i (y := nI (om se)) (by rw [show (nI se : Int32).toNatClampNeg = se from pk_cl se]) ?_
  refine tp_i (y := nI n) (by rw [hom]) ?_
  refine lv_istore (lv' := [(4, .int (nI n)), (3, .int 0), (2, .int (nI (4000 * se))), (0, .ref ra), (1, .int (nI se))]) hx hb d_Ref_addOutcome_14 hl (by decide) rfl ?_
  clear hl ls
  intro ls hl
  replace hl : lv_has ls 7 [(4, .int (nI n)), (3, .int (nI 0)), (2, .int (nI (4000 * se))), (0, .ref ra), (1, .int (nI se))] := hl
  refine lp_w (fun mu H locs ls => ∃ lo hi, lo ≤ p9 ∧ p9 ≤ hi ∧ hi ≤ n ∧ mu = hi - lo ∧ va_P (dC, dI) classes [oc ra 8 [.int (nI T), .int (nI Ac), .ref (rA 2), .ref (rA 3), .ref (rA 4), .ref (rA 5), .ref (rA 6), .ref (rA 7), .ref (rA 8), .ref (rA 9), .ref (rA 10), .ref (rA 11), .ref (rA 12), .ref (rA 13), .int ir, .ref (rA 15), .ref (rA 16), .ref (rA 17), .ref (rA 18), .int (nI md), .int (nI wd), .ref (rA 21), .ref (rA 22), .ref (rA 23), .int (nI mn), .ref (rA 25), .int (nI cb), .int mr, .ref (rA 28), .ref (rA 29), .ref (rA 30), .ref (rA 31), .ref (rA 32), .ref (rA 33), .ref (rA 34), .ref (rA 35), .int (nI ld), .int (nI gm), .ref (rA 38), .ref (rA 39), .ref (rA 40), .ref (rA 41), .ref (rA 42), .ref (rA 43), .ref (rA 44), .ref (rA 45), .int (nI my), .ref (rA 47)], ia (rA 28) (rK9 28) 11 nw9, ia (rA 9) (rK9 9) 352000 oc9, ia (rA 8) (rK9 8) 8 (fun i => nI (om i)), ia (rA 12) (rK9 12) 32000 (fun i => nI (or9 i))] H ∧ va_S A s.heap H locs ∧ lv_has ls 7 [(4, .int (nI hi)), (3, .int (nI lo)), (2, .int (nI (4000 * se))), (0, .ref ra), (1, .int (nI se))]) n ⟨0, n, Nat.zero_le _, hp9, Nat.le_refl _, rfl, hP, hS, hl⟩ ?_
  intro mu H locs ls hI ih
  obtain ⟨lo, hi, u1, u2, u3, u4, hP, hS, hl⟩ := hI
  refine lv_iload_n hx hb d_Ref_addOutcome_16 rfl (lv_at hl 1 rfl) ?_
  refine lv_iload hx hb d_Ref_addOutcome_17 (lv_at hl 0 rfl) ?_
  refine lv_icmp_ge (tgt := 62) hx hb d_Ref_addOutcome_19 (by decide) (fun c1 => ?_) (fun c1 => ?_)
  · skip
    have hc1 : hi ≤ lo := (nI_leI (a := hi) (b := lo) (by omega) (by omega)).mp c1
    have e1 : lo = p9 := by omega
    rw [e1] at hl
    refine tp_pc (pc' := 62) (by rfl) ?_
    refine lv_aload_n hx hb d_Ref_addOutcome_62 rfl (lv_at hl 3 rfl) ?_
    refine va_get (D := (dC, dI)) (ci := 8) (v := .ref (rA 8)) (C := R_Ref) (T := F_Ref) (N := 48) hx hb hw i_Ref hown hK hP 0 rfl rfl 8 (by decide) (hw _ m_907) (fun _ h9 => h9) rfl d_Ref_addOutcome_63 ?_
    refine lv_iload_n hx hb d_Ref_addOutcome_66 rfl (lv_at hl 4 rfl) ?_
    refine va_iald (D := (dC, dI)) hx hb hK hP 3 2 rfl rfl (i := nI se) (pk_in se 8 (by omega)) d_Ref_addOutcome_67 ?_
    refine tp_i (y := nI (om se)) (by rw [show (nI se : Int32).toNatClampNeg = se from pk_cl se]) ?_
    refine tp_i (y := nI n) (by rw [hom]) ?_
    refine lv_istore (lv' := [(5, .int (nI n)), (4, .int (nI hi)), (3, .int (nI p9)), (2, .int (nI (4000 * se))), (0, .ref ra), (1, .int (nI se))]) hx hb d_Ref_addOutcome_68 hl (by decide) rfl ?_
    clear hl ls
    intro ls hl
    refine lv_iload_n hx hb d_Ref_addOutcome_70 rfl (lv_at hl 2 rfl) ?_
    refine lv_iload hx hb d_Ref_addOutcome_71 (lv_at hl 0 rfl) ?_
    refine lv_icmp_ge (tgt := 92) hx hb d_Ref_addOutcome_73 (by decide) (fun c9 => absurd ((nI_leI (a := n) (b := p9) (by omega) (by omega)).mp c9) (by omega)) (fun c9 => ?_)
    refine tp_pc (pc' := 76) (by rfl) ?_
    refine lv_aload_n hx hb d_Ref_addOutcome_76 rfl (lv_at hl 4 rfl) ?_
    refine lv_iload_n hx hb d_Ref_addOutcome_77 rfl (lv_at hl 5 rfl) ?_
    refine lv_aload_n hx hb d_Ref_addOutcome_78 rfl (lv_at hl 4 rfl) ?_
    refine va_get (D := (dC, dI)) (ci := 8) (v := .ref (rA 12)) (C := R_Ref) (T := F_Ref) (N := 48) hx hb hw i_Ref hown hK hP 0 rfl rfl 12 (by decide) (hw _ m_911) (fun _ h9 => h9) rfl d_Ref_addOutcome_79 ?_
    refine lv_iload_n hx hb d_Ref_addOutcome_82 rfl (lv_at hl 3 rfl) ?_
    refine lv_iload_n hx hb d_Ref_addOutcome_83 rfl (lv_at hl 2 rfl) ?_
    refine lv_iadd hx hb d_Ref_addOutcome_84 ?_
    refine tp_i (y := nI (4000 * se + p9)) (by exact nI_add (4000 * se) p9) ?_
    refine va_iald (D := (dC, dI)) hx hb hK hP 4 3 rfl rfl (i := nI (4000 * se + p9)) (pk_in (4000 * se + p9) 32000 (by omega)) d_Ref_addOutcome_85 ?_
    refine tp_i (y := nI (or9 (4000 * se + p9))) (by rw [show (nI (4000 * se + p9) : Int32).toNatClampNeg = 4000 * se + p9 from pk_cl (4000 * se + p9)]) ?_
    obtain ⟨hPc, hDc, hFc⟩ := cut3 (wc := [oc ra 8 [.int (nI T), .int (nI Ac), .ref (rA 2), .ref (rA 3), .ref (rA 4), .ref (rA 5), .ref (rA 6), .ref (rA 7), .ref (rA 8), .ref (rA 9), .ref (rA 10), .ref (rA 11), .ref (rA 12), .ref (rA 13), .int ir, .ref (rA 15), .ref (rA 16), .ref (rA 17), .ref (rA 18), .int (nI md), .int (nI wd), .ref (rA 21), .ref (rA 22), .ref (rA 23), .int (nI mn), .ref (rA 25), .int (nI cb), .int mr, .ref (rA 28), .ref (rA 29), .ref (rA 30), .ref (rA 31), .ref (rA 32), .ref (rA 33), .ref (rA 34), .ref (rA 35), .int (nI ld), .int (nI gm), .ref (rA 38), .ref (rA 39), .ref (rA 40), .ref (rA 41), .ref (rA 42), .ref (rA 43), .ref (rA 44), .ref (rA 45), .int (nI my), .ref (rA 47)], ia (rA 28) (rK9 28) 11 nw9, ia (rA 9) (rK9 9) 352000 oc9]) hP hD rfl hS hA [0, 1, 2] (by decide +kernel) rfl
    have hKc := hK.sub (tys' := [((rK9 28), .int), ((rK9 9), .short)]) [0, 1] rfl
    refine va_calli (va_runV (As := [.int (nI se), .int (nI (or9 (4000 * se + p9)))]) (rest := []) ⟨hx, hb, hml, hown, hw⟩ (gen_Ref_against l dC dI ra rA rK9 T Ac md wd mn cb ld gm my ir mr se (or9 (4000 * se + p9)) nw9 oc9 hse (by have := hor (p9) (by omega); omega) H.size) (cw_V 2 hw g_Ref_against rfl rfl rfl (hw _ m_109) (hw _ m_1166) (hw _ m_1168) (hw _ m_76) (by decide +kernel) ⟨Nat.le_of_ble_eq_true rfl, Nat.le_of_ble_eq_true rfl⟩) ⟨fun a U g mk q => by obtain ⟨q0, q1, qP, qK, qD, qN⟩ := q; exact ⟨q0, q1, qP, va_K.moved (u := U) (U := U.calling g mk a) (Vm.Alike.refl U.vm) qK, qD, nw_call qN⟩, va_recv hKc hPc (ci := 8) (q0 := 0) rfl rfl, fun U hU hW => ⟨rfl, by rw [hU], by rw [hU]; exact hPc, va_K.moved hW.alike hKc, hDc.weaken (fun _ _ _ _ => trivial), nw_warm hW hn⟩⟩ rfl rfl hl.1 rfl (lv_room (Nat.le_of_ble_eq_true rfl)) d_Ref_addOutcome_86 ⟨Nat.le_of_ble_eq_true rfl, Nat.le_of_ble_eq_true rfl⟩) hS (fun q _ h => hFc q h) hFc ?_
    intro r_1 u t9 H1 locs1 ht9 hvm hw1 hB hz1 hk1 hS1
    obtain ⟨hP1, hK1, hD1⟩ := hB
    rw [ht9] at hP1
    replace hK1 := va_K.moved hvm.symm hK1
    have hPD := join3 hP hD rfl [0, 1, 2] [3, 4] rfl (by rfl) (by decide +kernel) (by decide +kernel) hk1 hFc hP1 hD1
    replace hK : va_K (dC, dI) classes [((rK9 28), .int), ((rK9 9), .short), ((rK9 8), .int), ((rK9 12), .int)] s := hK.app hK1
    clear hP1 hK1 hD1 hk1 hz1 hFc hKc hDc hPc hvm ht9 hP hS t9 locs H
    have hP : va_P (dC, dI) classes [ia (rA 8) (rK9 8) 8 (fun i => nI (om i)), ia (rA 12) (rK9 12) 32000 (fun i => nI (or9 i)), oc ra 8 [.int (nI T), .int (nI Ac), .ref (rA 2), .ref (rA 3), .ref (rA 4), .ref (rA 5), .ref (rA 6), .ref (rA 7), .ref (rA 8), .ref (rA 9), .ref (rA 10), .ref (rA 11), .ref (rA 12), .ref (rA 13), .int ir, .ref (rA 15), .ref (rA 16), .ref (rA 17), .ref (rA 18), .int (nI md), .int (nI wd), .ref (rA 21), .ref (rA 22), .ref (rA 23), .int (nI mn), .ref (rA 25), .int (nI cb), .int mr, .ref (rA 28), .ref (rA 29), .ref (rA 30), .ref (rA 31), .ref (rA 32), .ref (rA 33), .ref (rA 34), .ref (rA 35), .int (nI ld), .int (nI gm), .ref (rA 38), .ref (rA 39), .ref (rA 40), .ref (rA 41), .ref (rA 42), .ref (rA 43), .ref (rA 44), .ref (rA 45), .int (nI my), .ref (rA 47)], ia (rA 28) (rK9 28) 11 nw9, ia (rA 9) (rK9 9) 352000 oc9] H1 := hPD.1
    replace hD : dd A [(rA 8), (rA 12), ra, (rA 28), (rA 9)] := dd_of hPD.2 rfl
    clear hPD
    revert H1 locs1
    intro H locs hS hP
    refine tp_i (y := agF nw9 (fun j => oc9 (11 * (4000 * se + or9 (4000 * se + p9)) + j)) 11 0) (hw1) ?_
    clear hw1 r_1 u
    refine tp_pc (pc' := 89) (by rfl) ?_
    refine lv_if_eq (tgt := 100) hx hb d_Ref_addOutcome_89 (by decide) (fun c9 => ?_) (fun c9 => absurd heq c9)
    refine tp_pc (pc' := 100) (by rfl) ?_
    refine lv_iconst (v := (-1)) hx hb d_Ref_addOutcome_100 (by decide) ?_
    obtain ⟨hP9, hD9, -⟩ := cut3 (wc := [oc ra 8 [.int (nI T), .int (nI Ac), .ref (rA 2), .ref (rA 3), .ref (rA 4), .ref (rA 5), .ref (rA 6), .ref (rA 7), .ref (rA 8), .ref (rA 9), .ref (rA 10), .ref (rA 11), .ref (rA 12), .ref (rA 13), .int ir, .ref (rA 15), .ref (rA 16), .ref (rA 17), .ref (rA 18), .int (nI md), .int (nI wd), .ref (rA 21), .ref (rA 22), .ref (rA 23), .int (nI mn), .ref (rA 25), .int (nI cb), .int mr, .ref (rA 28), .ref (rA 29), .ref (rA 30), .ref (rA 31), .ref (rA 32), .ref (rA 33), .ref (rA 34), .ref (rA 35), .int (nI ld), .int (nI gm), .ref (rA 38), .ref (rA 39), .ref (rA 40), .ref (rA 41), .ref (rA 42), .ref (rA 43), .ref (rA 44), .ref (rA 45), .int (nI my), .ref (rA 47)], ia (rA 28) (rK9 28) 11 nw9, ia (rA 9) (rK9 9) 352000 oc9, ia (rA 8) (rK9 8) 8 (fun i => nI (om i)), ia (rA 12) (rK9 12) 32000 (fun i => nI (or9 i))]) hP hD rfl hS hA [2, 3, 4, 0, 1] (by decide +kernel) rfl
    have hK9 := hK.sub (tys' := []) [] rfl
    refine W.widen (k := 0) (n := 0) (by exact Nat.le_of_ble_eq_true rfl) (by exact Nat.le_of_ble_eq_true rfl) ?_
    exact W.iret (v := (-1)) hx hb hr (fun t9 ht9 hW => ⟨⟨(-1), (), rfl, rfl, by rw [ht9]; exact hP9, va_K.moved hW.alike hK9, hD9⟩, hS.F ht9⟩) hS.2.2 d_Ref_addOutcome_101
  · skip
    have hc1 : ¬ (hi ≤ lo) := fun q9 => c1 ((nI_leI (a := hi) (b := lo) (by omega) (by omega)).mpr q9)
    refine tp_pc (pc' := 22) (by rfl) ?_
    refine lv_iload_n hx hb d_Ref_addOutcome_22 rfl (lv_at hl 1 rfl) ?_
    refine lv_iload hx hb d_Ref_addOutcome_23 (lv_at hl 0 rfl) ?_
    refine lv_iadd hx hb d_Ref_addOutcome_25 ?_
    refine tp_i (y := nI (lo + hi)) (by exact nI_add lo hi) ?_
    refine lv_iconst (v := 2) hx hb d_Ref_addOutcome_26 (by decide) ?_
    refine lv_idiv hx hb d_Ref_addOutcome_27 (by decide) ?_
    obtain ⟨mi, hmi⟩ : ∃ mi, mi = (lo + hi) / 2 := ⟨_, rfl⟩
    have b1x : lo ≤ mi ∧ mi < hi := by omega
    refine tp_i (y := nI mi) (by rw [hmi]; exact pk_div (by omega) (by decide) (by decide)) ?_
    refine lv_istore (lv' := [(5, .int (nI mi)), (4, .int (nI hi)), (3, .int (nI lo)), (2, .int (nI (4000 * se))), (0, .ref ra), (1, .int (nI se))]) hx hb d_Ref_addOutcome_28 hl (by decide) rfl ?_
    clear hl ls
    intro ls hl
    refine lv_aload_n hx hb d_Ref_addOutcome_30 rfl (lv_at hl 4 rfl) ?_
    refine lv_iload_n hx hb d_Ref_addOutcome_31 rfl (lv_at hl 5 rfl) ?_
    refine lv_aload_n hx hb d_Ref_addOutcome_32 rfl (lv_at hl 4 rfl) ?_
    refine va_get (D := (dC, dI)) (ci := 8) (v := .ref (rA 12)) (C := R_Ref) (T := F_Ref) (N := 48) hx hb hw i_Ref hown hK hP 0 rfl rfl 12 (by decide) (hw _ m_911) (fun _ h9 => h9) rfl d_Ref_addOutcome_33 ?_
    refine lv_iload_n hx hb d_Ref_addOutcome_36 rfl (lv_at hl 3 rfl) ?_
    refine lv_iload hx hb d_Ref_addOutcome_37 (lv_at hl 0 rfl) ?_
    refine lv_iadd hx hb d_Ref_addOutcome_39 ?_
    refine tp_i (y := nI (4000 * se + mi)) (by exact nI_add (4000 * se) mi) ?_
    refine va_iald (D := (dC, dI)) hx hb hK hP 4 3 rfl rfl (i := nI (4000 * se + mi)) (pk_in (4000 * se + mi) 32000 (by omega)) d_Ref_addOutcome_40 ?_
    refine tp_i (y := nI (or9 (4000 * se + mi))) (by rw [show (nI (4000 * se + mi) : Int32).toNatClampNeg = 4000 * se + mi from pk_cl (4000 * se + mi)]) ?_
    obtain ⟨hPc, hDc, hFc⟩ := cut3 (wc := [oc ra 8 [.int (nI T), .int (nI Ac), .ref (rA 2), .ref (rA 3), .ref (rA 4), .ref (rA 5), .ref (rA 6), .ref (rA 7), .ref (rA 8), .ref (rA 9), .ref (rA 10), .ref (rA 11), .ref (rA 12), .ref (rA 13), .int ir, .ref (rA 15), .ref (rA 16), .ref (rA 17), .ref (rA 18), .int (nI md), .int (nI wd), .ref (rA 21), .ref (rA 22), .ref (rA 23), .int (nI mn), .ref (rA 25), .int (nI cb), .int mr, .ref (rA 28), .ref (rA 29), .ref (rA 30), .ref (rA 31), .ref (rA 32), .ref (rA 33), .ref (rA 34), .ref (rA 35), .int (nI ld), .int (nI gm), .ref (rA 38), .ref (rA 39), .ref (rA 40), .ref (rA 41), .ref (rA 42), .ref (rA 43), .ref (rA 44), .ref (rA 45), .int (nI my), .ref (rA 47)], ia (rA 28) (rK9 28) 11 nw9, ia (rA 9) (rK9 9) 352000 oc9]) hP hD rfl hS hA [0, 1, 2] (by decide +kernel) rfl
    have hKc := hK.sub (tys' := [((rK9 28), .int), ((rK9 9), .short)]) [0, 1] rfl
    refine va_calli (va_runV (As := [.int (nI se), .int (nI (or9 (4000 * se + mi)))]) (rest := []) ⟨hx, hb, hml, hown, hw⟩ (gen_Ref_against l dC dI ra rA rK9 T Ac md wd mn cb ld gm my ir mr se (or9 (4000 * se + mi)) nw9 oc9 hse (by have := hor (mi) (by omega); omega) H.size) (cw_V 2 hw g_Ref_against rfl rfl rfl (hw _ m_109) (hw _ m_1166) (hw _ m_1168) (hw _ m_76) (by decide +kernel) ⟨Nat.le_of_ble_eq_true rfl, Nat.le_of_ble_eq_true rfl⟩) ⟨fun a U g mk q => by obtain ⟨q0, q1, qP, qK, qD, qN⟩ := q; exact ⟨q0, q1, qP, va_K.moved (u := U) (U := U.calling g mk a) (Vm.Alike.refl U.vm) qK, qD, nw_call qN⟩, va_recv hKc hPc (ci := 8) (q0 := 0) rfl rfl, fun U hU hW => ⟨rfl, by rw [hU], by rw [hU]; exact hPc, va_K.moved hW.alike hKc, hDc.weaken (fun _ _ _ _ => trivial), nw_warm hW hn⟩⟩ rfl rfl hl.1 rfl (lv_room (Nat.le_of_ble_eq_true rfl)) d_Ref_addOutcome_41 ⟨Nat.le_of_ble_eq_true rfl, Nat.le_of_ble_eq_true rfl⟩) hS (fun q _ h => hFc q h) hFc ?_
    intro r_2 u t9 H1 locs1 ht9 hvm hw1 hB hz1 hk1 hS1
    obtain ⟨hP1, hK1, hD1⟩ := hB
    rw [ht9] at hP1
    replace hK1 := va_K.moved hvm.symm hK1
    have hPD := join3 hP hD rfl [0, 1, 2] [3, 4] rfl (by rfl) (by decide +kernel) (by decide +kernel) hk1 hFc hP1 hD1
    replace hK : va_K (dC, dI) classes [((rK9 28), .int), ((rK9 9), .short), ((rK9 8), .int), ((rK9 12), .int)] s := hK.app hK1
    clear hP1 hK1 hD1 hk1 hz1 hFc hKc hDc hPc hvm ht9 hP hS t9 locs H
    have hP : va_P (dC, dI) classes [ia (rA 8) (rK9 8) 8 (fun i => nI (om i)), ia (rA 12) (rK9 12) 32000 (fun i => nI (or9 i)), oc ra 8 [.int (nI T), .int (nI Ac), .ref (rA 2), .ref (rA 3), .ref (rA 4), .ref (rA 5), .ref (rA 6), .ref (rA 7), .ref (rA 8), .ref (rA 9), .ref (rA 10), .ref (rA 11), .ref (rA 12), .ref (rA 13), .int ir, .ref (rA 15), .ref (rA 16), .ref (rA 17), .ref (rA 18), .int (nI md), .int (nI wd), .ref (rA 21), .ref (rA 22), .ref (rA 23), .int (nI mn), .ref (rA 25), .int (nI cb), .int mr, .ref (rA 28), .ref (rA 29), .ref (rA 30), .ref (rA 31), .ref (rA 32), .ref (rA 33), .ref (rA 34), .ref (rA 35), .int (nI ld), .int (nI gm), .ref (rA 38), .ref (rA 39), .ref (rA 40), .ref (rA 41), .ref (rA 42), .ref (rA 43), .ref (rA 44), .ref (rA 45), .int (nI my), .ref (rA 47)], ia (rA 28) (rK9 28) 11 nw9, ia (rA 9) (rK9 9) 352000 oc9] H1 := hPD.1
    replace hD : dd A [(rA 8), (rA 12), ra, (rA 28), (rA 9)] := dd_of hPD.2 rfl
    clear hPD
    revert H1 locs1
    intro H locs hS hP
    refine tp_i (y := agF nw9 (fun j => oc9 (11 * (4000 * se + or9 (4000 * se + mi)) + j)) 11 0) (hw1) ?_
    clear hw1 r_2 u
    refine tp_pc (pc' := 44) (by rfl) ?_
    refine lv_if_le (tgt := 55) hx hb d_Ref_addOutcome_44 (by decide) (fun c3 => ?_) (fun c3 => ?_)
    · skip
      have g1 : p9 ≤ mi := Nat.le_of_not_lt fun q => absurd (h1 mi q) (by rw [i_lt]; rw [i_le] at c3; omega)
      refine tp_pc (pc' := 55) (by rfl) ?_
      refine lv_iload hx hb d_Ref_addOutcome_55 (lv_at hl 0 rfl) ?_
      refine lv_istore (lv' := [(4, .int (nI mi)), (5, .int (nI mi)), (3, .int (nI lo)), (2, .int (nI (4000 * se))), (0, .ref ra), (1, .int (nI se))]) hx hb d_Ref_addOutcome_57 hl (by decide) rfl ?_
      clear hl ls
      intro ls hl
      refine lv_goto (tgt := 16) hx hb d_Ref_addOutcome_59 (by decide) ?_
      refine tp_pc (pc' := 16) (by rfl) ?_
      obtain ⟨hP8, -, -⟩ := cut3 (wc := [oc ra 8 [.int (nI T), .int (nI Ac), .ref (rA 2), .ref (rA 3), .ref (rA 4), .ref (rA 5), .ref (rA 6), .ref (rA 7), .ref (rA 8), .ref (rA 9), .ref (rA 10), .ref (rA 11), .ref (rA 12), .ref (rA 13), .int ir, .ref (rA 15), .ref (rA 16), .ref (rA 17), .ref (rA 18), .int (nI md), .int (nI wd), .ref (rA 21), .ref (rA 22), .ref (rA 23), .int (nI mn), .ref (rA 25), .int (nI cb), .int mr, .ref (rA 28), .ref (rA 29), .ref (rA 30), .ref (rA 31), .ref (rA 32), .ref (rA 33), .ref (rA 34), .ref (rA 35), .int (nI ld), .int (nI gm), .ref (rA 38), .ref (rA 39), .ref (rA 40), .ref (rA 41), .ref (rA 42), .ref (rA 43), .ref (rA 44), .ref (rA 45), .int (nI my), .ref (rA 47)], ia (rA 28) (rK9 28) 11 nw9, ia (rA 9) (rK9 9) 352000 oc9, ia (rA 8) (rK9 8) 8 (fun i => nI (om i)), ia (rA 12) (rK9 12) 32000 (fun i => nI (or9 i))]) hP hD rfl hS hA [2, 3, 4, 0, 1] (by decide +kernel) rfl
      exact ih (mi - (lo)) (by omega) _ _ _ ⟨lo, mi, u1, g1, by omega, rfl, hP8, hS, lv_sub hl [0, 2, 3, 4, 5] rfl⟩
    · skip
      have g1 : mi < p9 := Nat.lt_of_not_le fun q => absurd (show 0 < agF nw9 (fun j => oc9 (11 * (4000 * se + or9 (4000 * se + mi)) + j)) 11 0 from by rw [i_lt]; rw [i_le] at c3; omega) (h2 mi q (by omega))
      refine tp_pc (pc' := 47) (by rfl) ?_
      refine lv_iload hx hb d_Ref_addOutcome_47 (lv_at hl 0 rfl) ?_
      refine lv_iconst (v := 1) hx hb d_Ref_addOutcome_49 (by decide) ?_
      refine lv_iadd hx hb d_Ref_addOutcome_50 ?_
      refine tp_i (y := nI (mi + 1)) (by exact nI_add mi 1) ?_
      refine lv_istore_n (lv' := [(3, .int (nI (mi + 1))), (5, .int (nI mi)), (4, .int (nI hi)), (2, .int (nI (4000 * se))), (0, .ref ra), (1, .int (nI se))]) hx hb d_Ref_addOutcome_51 rfl hl (by decide) rfl ?_
      clear hl ls
      intro ls hl
      refine lv_goto (tgt := 59) hx hb d_Ref_addOutcome_52 (by decide) ?_
      refine tp_pc (pc' := 59) (by rfl) ?_
      refine lv_goto (tgt := 16) hx hb d_Ref_addOutcome_59 (by decide) ?_
      refine tp_pc (pc' := 16) (by rfl) ?_
      obtain ⟨hP8, -, -⟩ := cut3 (wc := [oc ra 8 [.int (nI T), .int (nI Ac), .ref (rA 2), .ref (rA 3), .ref (rA 4), .ref (rA 5), .ref (rA 6), .ref (rA 7), .ref (rA 8), .ref (rA 9), .ref (rA 10), .ref (rA 11), .ref (rA 12), .ref (rA 13), .int ir, .ref (rA 15), .ref (rA 16), .ref (rA 17), .ref (rA 18), .int (nI md), .int (nI wd), .ref (rA 21), .ref (rA 22), .ref (rA 23), .int (nI mn), .ref (rA 25), .int (nI cb), .int mr, .ref (rA 28), .ref (rA 29), .ref (rA 30), .ref (rA 31), .ref (rA 32), .ref (rA 33), .ref (rA 34), .ref (rA 35), .int (nI ld), .int (nI gm), .ref (rA 38), .ref (rA 39), .ref (rA 40), .ref (rA 41), .ref (rA 42), .ref (rA 43), .ref (rA 44), .ref (rA 45), .int (nI my), .ref (rA 47)], ia (rA 28) (rK9 28) 11 nw9, ia (rA 9) (rK9 9) 352000 oc9, ia (rA 8) (rK9 8) 8 (fun i => nI (om i)), ia (rA 12) (rK9 12) 32000 (fun i => nI (or9 i))]) hP hD rfl hS hA [2, 3, 4, 0, 1] (by decide +kernel) rfl
      exact ih (hi - (mi + 1)) (by omega) _ _ _ ⟨mi + 1, hi, g1, u2, u3, rfl, hP8, hS, lv_sub hl [2, 0, 3, 4, 5] rfl⟩
