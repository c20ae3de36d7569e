set_option maxHeartbeats 4000000 in
set_option maxRecDepth 100000 in
theorem gen_Ref_taken (l : Launch) (dC : Nat → ClassId) (dI : Nat → Nat → Nat) (ra : Nat) (rA : Nat → Nat) (rK9 : Nat → ClassId) (T Ac md wd mn cb ld gm my : Nat) (ir mr : Int32) (a w9 x : Nat) (rd sn nu rx rs : Nat → Nat) (ha : a < 28) (hw9 : w9 ≤ 28) (hx4 : x < 4) (hrs : rs x ≤ 7) (hrx : ∀ j, j < 28 → rx j < 28) (hnu : ∀ i, i < 28 → nu i < 7) (hrd : ∀ i, rd i < 128) (hsn : ∀ i, sn i < 128) (sz : Nat) : Met l y_Ref_taken w_Ref_taken ({ frames := 1, cells := 0, slots := 0, locals := 40 }) (va_Pc [.ref ra, .int (nI a), .int (mN w9), .int (nI x)] (fun U => U.heap.size = sz ∧ va_P (dC, dI) classes [oc ra 8 [.int (nI T), .int (nI Ac), .ref (rA 2), .ref (rA 3), .ref (rA 4), .ref (rA 5), .ref (rA 6), .ref (rA 7), .ref (rA 8), .ref (rA 9), .ref (rA 10), .ref (rA 11), .ref (rA 12), .ref (rA 13), .int ir, .ref (rA 15), .ref (rA 16), .ref (rA 17), .ref (rA 18), .int (nI md), .int (nI wd), .ref (rA 21), .ref (rA 22), .ref (rA 23), .int (nI mn), .ref (rA 25), .int (nI cb), .int mr, .ref (rA 28), .ref (rA 29), .ref (rA 30), .ref (rA 31), .ref (rA 32), .ref (rA 33), .ref (rA 34), .ref (rA 35), .int (nI ld), .int (nI gm), .ref (rA 38), .ref (rA 39), .ref (rA 40), .ref (rA 41), .ref (rA 42), .ref (rA 43), .ref (rA 44), .ref (rA 45), .int (nI my), .ref (rA 47)], ia (rA 42) (rK9 42) 7 (fun i => nI (rd i)), ia (rA 44) (rK9 44) 7 (fun i => nI (sn i)), ia (rA 40) (rK9 40) 28 (fun i => nI (nu i)), ia (rA 38) (rK9 38) 28 (fun i => nI (rx i)), ia (rA 39) (rK9 39) 4 (fun i => nI (rs i))] U.heap ∧ va_K (dC, dI) classes [((rK9 42), .int), ((rK9 44), .int), ((rK9 40), .int), ((rK9 38), .int), ((rK9 39), .int)] U ∧ va_D (fun _ => True) [oc ra 8 [.int (nI T), .int (nI Ac), .ref (rA 2), .ref (rA 3), .ref (rA 4), .ref (rA 5), .ref (rA 6), .ref (rA 7), .ref (rA 8), .ref (rA 9), .ref (rA 10), .ref (rA 11), .ref (rA 12), .ref (rA 13), .int ir, .ref (rA 15), .ref (rA 16), .ref (rA 17), .ref (rA 18), .int (nI md), .int (nI wd), .ref (rA 21), .ref (rA 22), .ref (rA 23), .int (nI mn), .ref (rA 25), .int (nI cb), .int mr, .ref (rA 28), .ref (rA 29), .ref (rA 30), .ref (rA 31), .ref (rA 32), .ref (rA 33), .ref (rA 34), .ref (rA 35), .int (nI ld), .int (nI gm), .ref (rA 38), .ref (rA 39), .ref (rA 40), .ref (rA 41), .ref (rA 42), .ref (rA 43), .ref (rA 44), .ref (rA 45), .int (nI my), .ref (rA 47)], ia (rA 42) (rK9 42) 7 (fun i => nI (rd i)), ia (rA 44) (rK9 44) 7 (fun i => nI (sn i)), ia (rA 40) (rK9 40) 28 (fun i => nI (nu i)), ia (rA 38) (rK9 38) 28 (fun i => nI (rx i)), ia (rA 39) (rK9 39) 4 (fun i => nI (rs i))] ∧ nw U)) (va_Qv (fun _ : Unit => True) (fun _ t9 => va_P (dC, dI) classes [oc ra 8 [.int (nI T), .int (nI Ac), .ref (rA 2), .ref (rA 3), .ref (rA 4), .ref (rA 5), .ref (rA 6), .ref (rA 7), .ref (rA 8), .ref (rA 9), .ref (rA 10), .ref (rA 11), .ref (rA 12), .ref (rA 13), .int ir, .ref (rA 15), .ref (rA 16), .ref (rA 17), .ref (rA 18), .int (nI md), .int (nI wd), .ref (rA 21), .ref (rA 22), .ref (rA 23), .int (nI mn), .ref (rA 25), .int (nI cb), .int mr, .ref (rA 28), .ref (rA 29), .ref (rA 30), .ref (rA 31), .ref (rA 32), .ref (rA 33), .ref (rA 34), .ref (rA 35), .int (nI ld), .int (nI gm), .ref (rA 38), .ref (rA 39), .ref (rA 40), .ref (rA 41), .ref (rA 42), .ref (rA 43), .ref (rA 44), .ref (rA 45), .int (nI my), .ref (rA 47)], ia (rA 42) (rK9 42) 7 (fun i => nI ((if w9 = 0 then rd else updN rd (nu (w9 - 1)) (rd (nu (w9 - 1)) ||| 2 ^ nu a)) i)), ia (rA 44) (rK9 44) 7 (fun i => nI (((tkN rx nu x a w9 sn (rs x)).2) i)), ia (rA 40) (rK9 40) 28 (fun i => nI (nu i)), ia (rA 38) (rK9 38) 28 (fun i => nI (rx i)), ia (rA 39) (rK9 39) 4 (fun i => nI (rs i))] t9.heap ∧ va_K (dC, dI) classes [] t9 ∧ va_D (va_A [oc ra 8 [.int (nI T), .int (nI Ac), .ref (rA 2), .ref (rA 3), .ref (rA 4), .ref (rA 5), .ref (rA 6), .ref (rA 7), .ref (rA 8), .ref (rA 9), .ref (rA 10), .ref (rA 11), .ref (rA 12), .ref (rA 13), .int ir, .ref (rA 15), .ref (rA 16), .ref (rA 17), .ref (rA 18), .int (nI md), .int (nI wd), .ref (rA 21), .ref (rA 22), .ref (rA 23), .int (nI mn), .ref (rA 25), .int (nI cb), .int mr, .ref (rA 28), .ref (rA 29), .ref (rA 30), .ref (rA 31), .ref (rA 32), .ref (rA 33), .ref (rA 34), .ref (rA 35), .int (nI ld), .int (nI gm), .ref (rA 38), .ref (rA 39), .ref (rA 40), .ref (rA 41), .ref (rA 42), .ref (rA 43), .ref (rA 44), .ref (rA 45), .int (nI my), .ref (rA 47)], ia (rA 42) (rK9 42) 7 (fun i => nI (rd i)), ia (rA 44) (rK9 44) 7 (fun i => nI (sn i)), ia (rA 40) (rK9 40) 28 (fun i => nI (nu i)), ia (rA 38) (rK9 38) 28 (fun i => nI (rx i)), ia (rA 39) (rK9 39) 4 (fun i => nI (rs i))] sz) [oc ra 8 [.int (nI T), .int (nI Ac), .ref (rA 2), .ref (rA 3), .ref (rA 4), .ref (rA 5), .ref (rA 6), .ref (rA 7), .ref (rA 8), .ref (rA 9), .ref (rA 10), .ref (rA 11), .ref (rA 12), .ref (rA 13), .int ir, .ref (rA 15), .ref (rA 16), .ref (rA 17), .ref (rA 18), .int (nI md), .int (nI wd), .ref (rA 21), .ref (rA 22), .ref (rA 23), .int (nI mn), .ref (rA 25), .int (nI cb), .int mr, .ref (rA 28), .ref (rA 29), .ref (rA 30), .ref (rA 31), .ref (rA 32), .ref (rA 33), .ref (rA 34), .ref (rA 35), .int (nI ld), .int (nI gm), .ref (rA 38), .ref (rA 39), .ref (rA 40), .ref (rA 41), .ref (rA 42), .ref (rA 43), .ref (rA 44), .ref (rA 45), .int (nI my), .ref (rA 47)], ia (rA 42) (rK9 42) 7 (fun i => nI ((if w9 = 0 then rd else updN rd (nu (w9 - 1)) (rd (nu (w9 - 1)) ||| 2 ^ nu a)) i)), ia (rA 44) (rK9 44) 7 (fun i => nI (((tkN rx nu x a w9 sn (rs x)).2) i)), ia (rA 40) (rK9 40) 28 (fun i => nI (nu i)), ia (rA 38) (rK9 38) 28 (fun i => nI (rx i)), ia (rA 39) (rK9 39) 4 (fun i => nI (rs i))]) (va_A [oc ra 8 [.int (nI T), .int (nI Ac), .ref (rA 2), .ref (rA 3), .ref (rA 4), .ref (rA 5), .ref (rA 6), .ref (rA 7), .ref (rA 8), .ref (rA 9), .ref (rA 10), .ref (rA 11), .ref (rA 12), .ref (rA 13), .int ir, .ref (rA 15), .ref (rA 16), .ref (rA 17), .ref (rA 18), .int (nI md), .int (nI wd), .ref (rA 21), .ref (rA 22), .ref (rA 23), .int (nI mn), .ref (rA 25), .int (nI cb), .int mr, .ref (rA 28), .ref (rA 29), .ref (rA 30), .ref (rA 31), .ref (rA 32), .ref (rA 33), .ref (rA 34), .ref (rA 35), .int (nI ld), .int (nI gm), .ref (rA 38), .ref (rA 39), .ref (rA 40), .ref (rA 41), .ref (rA 42), .ref (rA 43), .ref (rA 44), .ref (rA 45), .int (nI my), .ref (rA 47)], ia (rA 42) (rK9 42) 7 (fun i => nI (rd i)), ia (rA 44) (rK9 44) 7 (fun i => nI (sn i)), ia (rA 40) (rK9 40) 28 (fun i => nI (nu i)), ia (rA 38) (rK9 38) 28 (fun i => nI (rx i)), ia (rA 39) (rK9 39) 4 (fun i => nI (rs i))] sz)) 0 0 (va_A [oc ra 8 [.int (nI T), .int (nI Ac), .ref (rA 2), .ref (rA 3), .ref (rA 4), .ref (rA 5), .ref (rA 6), .ref (rA 7), .ref (rA 8), .ref (rA 9), .ref (rA 10), .ref (rA 11), .ref (rA 12), .ref (rA 13), .int ir, .ref (rA 15), .ref (rA 16), .ref (rA 17), .ref (rA 18), .int (nI md), .int (nI wd), .ref (rA 21), .ref (rA 22), .ref (rA 23), .int (nI mn), .ref (rA 25), .int (nI cb), .int mr, .ref (rA 28), .ref (rA 29), .ref (rA 30), .ref (rA 31), .ref (rA 32), .ref (rA 33), .ref (rA 34), .ref (rA 35), .int (nI ld), .int (nI gm), .ref (rA 38), .ref (rA 39), .ref (rA 40), .ref (rA 41), .ref (rA 42), .ref (rA 43), .ref (rA 44), .ref (rA 45), .int (nI my), .ref (rA 47)], ia (rA 42) (rK9 42) 7 (fun i => nI (rd i)), ia (rA 44) (rK9 44) 7 (fun i => nI (sn i)), ia (rA 40) (rK9 40) 28 (fun i => nI (nu i)), ia (rA 38) (rK9 38) 28 (fun i => nI (rx i)), ia (rA 39) (rK9 39) 4 (fun i => nI (rs i))] sz) := by
  refine Met.ofW (cc := b_Ref_taken) (maxL := 6) (ret := none) (by decide) rfl ?_
  intro p e0 s m args below meth c s₁ B hml hv
  obtain ⟨rfl, hsz, hP, hK, hD0, hn⟩ := hv
  have hx := B.exec
  have hb := B.bytes
  have hr := B.returns
  have hw := fun w (h : w ∈ wt) => atoms_spec (ws := w_Ref_taken) B.pre w (List.mem_cons_of_mem _ h)
  have hown : s.vm.findClass R_Ref = some m.cls := findClass_of_methodNamed B.named
  have hlocks := B.notSynchronized
  subst hsz
  have hD1 := hD0.self (sz := s.heap.size)
  generalize hAe : va_A [oc ra 8 [.int (nI T), .int (nI Ac), .ref (rA 2), .ref (rA 3), .ref (rA 4), .ref (rA 5), .ref (rA 6), .ref (rA 7), .ref (rA 8), .ref (rA 9), .ref (rA 10), .ref (rA 11), .ref (rA 12), .ref (rA 13), .int ir, .ref (rA 15), .ref (rA 16), .ref (rA 17), .ref (rA 18), .int (nI md), .int (nI wd), .ref (rA 21), .ref (rA 22), .ref (rA 23), .int (nI mn), .ref (rA 25), .int (nI cb), .int mr, .ref (rA 28), .ref (rA 29), .ref (rA 30), .ref (rA 31), .ref (rA 32), .ref (rA 33), .ref (rA 34), .ref (rA 35), .int (nI ld), .int (nI gm), .ref (rA 38), .ref (rA 39), .ref (rA 40), .ref (rA 41), .ref (rA 42), .ref (rA 43), .ref (rA 44), .ref (rA 45), .int (nI my), .ref (rA 47)], ia (rA 42) (rK9 42) 7 (fun i => nI (rd i)), ia (rA 44) (rK9 44) 7 (fun i => nI (sn i)), ia (rA 40) (rK9 40) 28 (fun i => nI (nu i)), ia (rA 38) (rK9 38) 28 (fun i => nI (rx i)), ia (rA 39) (rK9 39) 4 (fun i => nI (rs i))] s.heap.size = A at hD1 ⊢
  have hA : ∀ q : Nat, s.heap.size ≤ q → A q := fun q h => by rw [← hAe]; exact Or.inr h
  have hD : dd A [ra, (rA 42), (rA 44), (rA 40), (rA 38), (rA 39)] := dd_of hD1 rfl
  clear hAe hD0 hD1
  have hS : va_S A s.heap s.heap [] := va_S.rf
  replace hP : va_P (dC, dI) classes [oc ra 8 [.int (nI T), .int (nI Ac), .ref (rA 2), .ref (rA 3), .ref (rA 4), .ref (rA 5), .ref (rA 6), .ref (rA 7), .ref (rA 8), .ref (rA 9), .ref (rA 10), .ref (rA 11), .ref (rA 12), .ref (rA 13), .int ir, .ref (rA 15), .ref (rA 16), .ref (rA 17), .ref (rA 18), .int (nI md), .int (nI wd), .ref (rA 21), .ref (rA 22), .ref (rA 23), .int (nI mn), .ref (rA 25), .int (nI cb), .int mr, .ref (rA 28), .ref (rA 29), .ref (rA 30), .ref (rA 31), .ref (rA 32), .ref (rA 33), .ref (rA 34), .ref (rA 35), .int (nI ld), .int (nI gm), .ref (rA 38), .ref (rA 39), .ref (rA 40), .ref (rA 41), .ref (rA 42), .ref (rA 43), .ref (rA 44), .ref (rA 45), .int (nI my), .ref (rA 47)], ia (rA 42) (rK9 42) 7 (fun i => nI (rd i)), ia (rA 44) (rK9 44) 7 (fun i => nI (sn i)), ia (rA 40) (rK9 40) 28 (fun i => nI (nu i)), ia (rA 38) (rK9 38) 28 (fun i => nI (rx i)), ia (rA 39) (rK9 39) 4 (fun i => nI (rs i))] s.heap := hP
  have hl := lv_entry ([.ref ra, .int (nI a), .int (mN w9), .int (nI x)]) (n := 6) (Nat.le_of_ble_eq_true rfl)
  rw [lg_entry_eq]
  generalize (lg_sl ([.ref ra, .int (nI a), .int (mN w9), .int (nI x)]) ++ List.replicate (6 - (lg_sl ([.ref ra, .int (nI a), .int (mN w9), .int (nI x)])).length) Slot.unset).toArray = ls at hl ⊢
  replace hl : lv_has ls 6 [(0, .ref ra), (1, .int (nI a)), (2, .int (mN w9)), (3, .int (nI x))] := hl
  have hna := hnu a ha
  by_cases e0 : w9 = 0
  · skip
    replace hl : lv_has ls 6 [(0, .ref ra), (1, .int (nI a)), (2, .int (-1)), (3, .int (nI x))] := by rw [e0] at hl; exact hl
    refine lv_iload_n hx hb d_Ref_taken_0 rfl (lv_at hl 2 rfl) ?_
    refine lv_if_lt (tgt := 14) hx hb d_Ref_taken_1 (by decide) (fun c_1 => ?_) (fun c_1 => absurd c_1 (by decide))
    refine tp_pc (pc' := 14) (by rfl) ?_
    refine lv_iload_n hx hb d_Ref_taken_14 rfl (lv_at hl 2 rfl) ?_
    refine lv_if_ge (tgt := 22) hx hb d_Ref_taken_15 (by decide) (fun c_2 => absurd c_2 (by decide)) (fun c_2 => ?_)
    refine tp_pc (pc' := 18) (by rfl) ?_
    refine lv_iconst (v := 1) hx hb d_Ref_taken_18 (by decide) ?_
    refine lv_goto (tgt := 23) hx hb d_Ref_taken_19 (by decide) ?_
    refine tp_pc (pc' := 23) (by rfl) ?_
    refine lv_istore (lv' := [(4, .int 1), (0, .ref ra), (1, .int (nI a)), (2, .int (-1)), (3, .int (nI x))]) hx hb d_Ref_taken_23 hl (by decide) rfl ?_
    clear hl ls
    intro ls hl
    have er : (if w9 = 0 then rd else updN rd (nu (w9 - 1)) (rd (nu (w9 - 1)) ||| 2 ^ nu a)) = rd := if_pos e0
    subst e0
    refine lv_bipush (v := 7) hx hb d_Ref_taken_25 (by decide) ?_
    refine lv_iload_n hx hb d_Ref_taken_27 rfl (lv_at hl 4 rfl) ?_
    refine lv_imul hx hb d_Ref_taken_28 ?_
    refine tp_i (y := nI (7 * x)) (by exact pk_mul 7 x) ?_
    refine lv_istore (lv' := [(5, .int (nI (7 * x))), (4, .int 1), (0, .ref ra), (1, .int (nI a)), (2, .int (-1)), (3, .int (nI x))]) hx hb d_Ref_taken_29 hl (by decide) rfl ?_
    clear hl ls
    intro ls hl
    obtain ⟨hP8, hD8, -⟩ := cut3 (wc := [oc ra 8 [.int (nI T), .int (nI Ac), .ref (rA 2), .ref (rA 3), .ref (rA 4), .ref (rA 5), .ref (rA 6), .ref (rA 7), .ref (rA 8), .ref (rA 9), .ref (rA 10), .ref (rA 11), .ref (rA 12), .ref (rA 13), .int ir, .ref (rA 15), .ref (rA 16), .ref (rA 17), .ref (rA 18), .int (nI md), .int (nI wd), .ref (rA 21), .ref (rA 22), .ref (rA 23), .int (nI mn), .ref (rA 25), .int (nI cb), .int mr, .ref (rA 28), .ref (rA 29), .ref (rA 30), .ref (rA 31), .ref (rA 32), .ref (rA 33), .ref (rA 34), .ref (rA 35), .int (nI ld), .int (nI gm), .ref (rA 38), .ref (rA 39), .ref (rA 40), .ref (rA 41), .ref (rA 42), .ref (rA 43), .ref (rA 44), .ref (rA 45), .int (nI my), .ref (rA 47)], ia (rA 42) (rK9 42) 7 (fun i => nI (rd i)), ia (rA 44) (rK9 44) 7 (fun i => nI (sn i)), ia (rA 40) (rK9 40) 28 (fun i => nI (nu i)), ia (rA 38) (rK9 38) 28 (fun i => nI (rx i)), ia (rA 39) (rK9 39) 4 (fun i => nI (rs i))]) hP hD rfl hS hA [0, 1, 2, 3, 4, 5] (by decide +kernel) rfl
    clear hP
    have hP : va_P (dC, dI) classes [oc ra 8 [.int (nI T), .int (nI Ac), .ref (rA 2), .ref (rA 3), .ref (rA 4), .ref (rA 5), .ref (rA 6), .ref (rA 7), .ref (rA 8), .ref (rA 9), .ref (rA 10), .ref (rA 11), .ref (rA 12), .ref (rA 13), .int ir, .ref (rA 15), .ref (rA 16), .ref (rA 17), .ref (rA 18), .int (nI md), .int (nI wd), .ref (rA 21), .ref (rA 22), .ref (rA 23), .int (nI mn), .ref (rA 25), .int (nI cb), .int mr, .ref (rA 28), .ref (rA 29), .ref (rA 30), .ref (rA 31), .ref (rA 32), .ref (rA 33), .ref (rA 34), .ref (rA 35), .int (nI ld), .int (nI gm), .ref (rA 38), .ref (rA 39), .ref (rA 40), .ref (rA 41), .ref (rA 42), .ref (rA 43), .ref (rA 44), .ref (rA 45), .int (nI my), .ref (rA 47)], ia (rA 42) (rK9 42) 7 (fun i => nI (rd i)), ia (rA 44) (rK9 44) 7 (fun i => nI (sn i)), ia (rA 40) (rK9 40) 28 (fun i => nI (nu i)), ia (rA 38) (rK9 38) 28 (fun i => nI (rx i)), ia (rA 39) (rK9 39) 4 (fun i => nI (rs i))] s.heap := hP8
    clear hP8
    replace hD : dd A [ra, (rA 42), (rA 44), (rA 40), (rA 38), (rA 39)] := dd_of hD8 rfl
    clear hD8
    replace hP : va_P (dC, dI) classes [oc ra 8 [.int (nI T), .int (nI Ac), .ref (rA 2), .ref (rA 3), .ref (rA 4), .ref (rA 5), .ref (rA 6), .ref (rA 7), .ref (rA 8), .ref (rA 9), .ref (rA 10), .ref (rA 11), .ref (rA 12), .ref (rA 13), .int ir, .ref (rA 15), .ref (rA 16), .ref (rA 17), .ref (rA 18), .int (nI md), .int (nI wd), .ref (rA 21), .ref (rA 22), .ref (rA 23), .int (nI mn), .ref (rA 25), .int (nI cb), .int mr, .ref (rA 28), .ref (rA 29), .ref (rA 30), .ref (rA 31), .ref (rA 32), .ref (rA 33), .ref (rA 34), .ref (rA 35), .int (nI ld), .int (nI gm), .ref (rA 38), .ref (rA 39), .ref (rA 40), .ref (rA 41), .ref (rA 42), .ref (rA 43), .ref (rA 44), .ref (rA 45), .int (nI my), .ref (rA 47)], ia (rA 42) (rK9 42) 7 (fun i => nI (rd i)), ia (rA 44) (rK9 44) 7 (fun i => nI (((tkN rx nu x a 0 sn 0).2) i)), ia (rA 40) (rK9 40) 28 (fun i => nI (nu i)), ia (rA 38) (rK9 38) 28 (fun i => nI (rx i)), ia (rA 39) (rK9 39) 4 (fun i => nI (rs i))] s.heap := hP
    replace hl : lv_has ls 6 [(5, .int (nI (7 * x + 0))), (4, .int (if (tkN rx nu x a 0 sn 0).1 = true then 1 else 0)), (0, .ref ra), (1, .int (nI a)), (2, .int (-1)), (3, .int (nI x))] := hl
    refine lp_n (rs x) (fun i1 H locs ls => va_P (dC, dI) classes [oc ra 8 [.int (nI T), .int (nI Ac), .ref (rA 2), .ref (rA 3), .ref (rA 4), .ref (rA 5), .ref (rA 6), .ref (rA 7), .ref (rA 8), .ref (rA 9), .ref (rA 10), .ref (rA 11), .ref (rA 12), .ref (rA 13), .int ir, .ref (rA 15), .ref (rA 16), .ref (rA 17), .ref (rA 18), .int (nI md), .int (nI wd), .ref (rA 21), .ref (rA 22), .ref (rA 23), .int (nI mn), .ref (rA 25), .int (nI cb), .int mr, .ref (rA 28), .ref (rA 29), .ref (rA 30), .ref (rA 31), .ref (rA 32), .ref (rA 33), .ref (rA 34), .ref (rA 35), .int (nI ld), .int (nI gm), .ref (rA 38), .ref (rA 39), .ref (rA 40), .ref (rA 41), .ref (rA 42), .ref (rA 43), .ref (rA 44), .ref (rA 45), .int (nI my), .ref (rA 47)], ia (rA 42) (rK9 42) 7 (fun i => nI (rd i)), ia (rA 44) (rK9 44) 7 (fun i => nI (((tkN rx nu x a 0 sn i1).2) i)), ia (rA 40) (rK9 40) 28 (fun i => nI (nu i)), ia (rA 38) (rK9 38) 28 (fun i => nI (rx i)), ia (rA 39) (rK9 39) 4 (fun i => nI (rs i))] H ∧ va_S A s.heap H locs ∧ lv_has ls 6 [(5, .int (nI (7 * x + i1))), (4, .int (if (tkN rx nu x a 0 sn i1).1 = true then 1 else 0)), (0, .ref ra), (1, .int (nI a)), (2, .int (-1)), (3, .int (nI x))]) ⟨hP, hS, hl⟩ ?_ ?_
    · intro i1 H locs ls hi1 hI ih_i1
      obtain ⟨hP, hS, hl⟩ := hI
      refine lv_iload hx hb d_Ref_taken_31 (lv_at hl 0 rfl) ?_
      refine lv_bipush (v := 7) hx hb d_Ref_taken_33 (by decide) ?_
      refine lv_iload_n hx hb d_Ref_taken_35 rfl (lv_at hl 5 rfl) ?_
      refine lv_imul hx hb d_Ref_taken_36 ?_
      refine tp_i (y := nI (7 * x)) (by exact pk_mul 7 x) ?_
      refine lv_aload_n hx hb d_Ref_taken_37 rfl (lv_at hl 2 rfl) ?_
      refine va_get (D := (dC, dI)) (ci := 8) (v := .ref (rA 39)) (C := R_Ref) (T := F_Ref) (N := 48) hx hb hw i_Ref hown hK hP 0 rfl rfl 39 (by decide) (hw _ m_938) (fun _ h9 => h9) rfl d_Ref_taken_38 ?_
      refine lv_iload_n hx hb d_Ref_taken_41 rfl (lv_at hl 5 rfl) ?_
      refine va_iald (D := (dC, dI)) hx hb hK hP 5 4 rfl rfl (i := nI x) (pk_in x 4 (by omega)) d_Ref_taken_42 ?_
      refine tp_i (y := nI (rs x)) (by rw [show (nI x : Int32).toNatClampNeg = x from pk_cl x]) ?_
      refine lv_iadd hx hb d_Ref_taken_43 ?_
      refine tp_i (y := nI (7 * x + (rs x))) (by exact nI_add (7 * x) (rs x)) ?_
      refine lv_icmp_ge (tgt := 108) hx hb d_Ref_taken_44 (by decide) (fun c9 => absurd c9 (nI_ge (a := 7 * x + i1) (b := 7 * x + rs x) (by omega) (by omega))) (fun c9 => ?_)
      have hr1 := hrx (7 * x + i1) (by omega)
      have hnr := hnu _ hr1
      have hs1 := tkN_lt (a := a) (w9 := 0) hsn hnu hrx hx4 i1 (by omega)
      refine tp_pc (pc' := 47) (by rfl) ?_
      refine lv_iload hx hb d_Ref_taken_47 (lv_at hl 1 rfl) ?_
      cases hb9 : (tkN rx nu x a 0 sn i1).1 with
      | true =>
        rw [if_pos (rfl : true = true)]
        rw [hb9] at hl
        replace hl : lv_has ls 6 [(5, .int (nI (7 * x + i1))), (4, .int 1), (0, .ref ra), (1, .int (nI a)), (2, .int (-1)), (3, .int (nI x))] := hl
        refine lv_if_eq (tgt := 79) hx hb d_Ref_taken_49 (by decide) (fun c_3 => absurd c_3 (by decide)) (fun c_3 => ?_)
        refine tp_pc (pc' := 52) (by rfl) ?_
        refine lv_aload_n hx hb d_Ref_taken_52 rfl (lv_at hl 2 rfl) ?_
        refine va_get (D := (dC, dI)) (ci := 8) (v := .ref (rA 38)) (C := R_Ref) (T := F_Ref) (N := 48) hx hb hw i_Ref hown hK hP 0 rfl rfl 38 (by decide) (hw _ m_937) (fun _ h9 => h9) rfl d_Ref_taken_53 ?_
        refine lv_iload hx hb d_Ref_taken_56 (lv_at hl 0 rfl) ?_
        refine va_iald (D := (dC, dI)) hx hb hK hP 4 3 rfl rfl (i := nI (7 * x + i1)) (pk_in (7 * x + i1) 28 (by omega)) d_Ref_taken_58 ?_
        refine tp_i (y := nI (rx (7 * x + i1))) (by rw [show (nI (7 * x + i1) : Int32).toNatClampNeg = 7 * x + i1 from pk_cl (7 * x + i1)]) ?_
        refine lv_iload_n hx hb d_Ref_taken_59 rfl (lv_at hl 3 rfl) ?_
        refine lv_icmp_eq (tgt := 79) hx hb d_Ref_taken_60 (by decide) (fun g1 => ?_) (fun g1 => ?_)
        · skip
          have hg1 : rx (7 * x + i1) = a := (nI_eq (a := rx (7 * x + i1)) (b := a) (by omega) (by omega)).mp g1
          refine tp_pc (pc' := 79) (by rfl) ?_
          refine lv_iload hx hb d_Ref_taken_79 (lv_at hl 1 rfl) ?_
          refine lv_if_ne (tgt := 95) hx hb d_Ref_taken_81 (by decide) (fun c_4 => ?_) (fun c_4 => absurd c_4 (by decide))
          refine tp_pc (pc' := 95) (by rfl) ?_
          refine lv_iconst (v := 1) hx hb d_Ref_taken_95 (by decide) ?_
          refine lv_goto (tgt := 100) hx hb d_Ref_taken_96 (by decide) ?_
          refine tp_pc (pc' := 100) (by rfl) ?_
          refine tp_i (y := (if (tkN rx nu x a 0 sn (i1 + 1)).1 = true then 1 else 0)) (by rw [tkN, hb9]; rfl) ?_
          rw [show (tkN rx nu x a 0 sn i1).2 = (tkN rx nu x a 0 sn (i1 + 1)).2 from by rw [tkN]; exact (if_neg (fun h => h.2 hg1)).symm] at hP
          replace hP : va_P (dC, dI) classes [oc ra 8 [.int (nI T), .int (nI Ac), .ref (rA 2), .ref (rA 3), .ref (rA 4), .ref (rA 5), .ref (rA 6), .ref (rA 7), .ref (rA 8), .ref (rA 9), .ref (rA 10), .ref (rA 11), .ref (rA 12), .ref (rA 13), .int ir, .ref (rA 15), .ref (rA 16), .ref (rA 17), .ref (rA 18), .int (nI md), .int (nI wd), .ref (rA 21), .ref (rA 22), .ref (rA 23), .int (nI mn), .ref (rA 25), .int (nI cb), .int mr, .ref (rA 28), .ref (rA 29), .ref (rA 30), .ref (rA 31), .ref (rA 32), .ref (rA 33), .ref (rA 34), .ref (rA 35), .int (nI ld), .int (nI gm), .ref (rA 38), .ref (rA 39), .ref (rA 40), .ref (rA 41), .ref (rA 42), .ref (rA 43), .ref (rA 44), .ref (rA 45), .int (nI my), .ref (rA 47)], ia (rA 42) (rK9 42) 7 (fun i => nI (rd i)), ia (rA 44) (rK9 44) 7 (fun i => nI (((tkN rx nu x a 0 sn (i1 + 1)).2) i)), ia (rA 40) (rK9 40) 28 (fun i => nI (nu i)), ia (rA 38) (rK9 38) 28 (fun i => nI (rx i)), ia (rA 39) (rK9 39) 4 (fun i => nI (rs i))] H := hP
          refine lv_istore (lv' := [(4, .int (if (tkN rx nu x a 0 sn (i1 + 1)).1 = true then 1 else 0)), (5, .int (nI (7 * x + i1))), (0, .ref ra), (1, .int (nI a)), (2, .int (-1)), (3, .int (nI x))]) hx hb d_Ref_taken_100 hl (by decide) rfl ?_
          clear hl ls
          intro ls hl
          refine lv_iinc (v := nI (7 * x + i1 + 1)) (lv' := [(5, .int (nI (7 * x + i1 + 1))), (4, .int (if (tkN rx nu x a 0 sn (i1 + 1)).1 = true then 1 else 0)), (0, .ref ra), (1, .int (nI a)), (2, .int (-1)), (3, .int (nI x))]) hx hb d_Ref_taken_102 hl (k := 1) rfl (by exact nI_1 (7 * x + i1)) (by decide) rfl ?_
          clear hl ls
          intro ls hl
          refine lv_goto (tgt := 31) hx hb d_Ref_taken_105 (by decide) ?_
          refine tp_pc (pc' := 31) (by rfl) ?_
          obtain ⟨hP8, -, -⟩ := cut3 (wc := [oc ra 8 [.int (nI T), .int (nI Ac), .ref (rA 2), .ref (rA 3), .ref (rA 4), .ref (rA 5), .ref (rA 6), .ref (rA 7), .ref (rA 8), .ref (rA 9), .ref (rA 10), .ref (rA 11), .ref (rA 12), .ref (rA 13), .int ir, .ref (rA 15), .ref (rA 16), .ref (rA 17), .ref (rA 18), .int (nI md), .int (nI wd), .ref (rA 21), .ref (rA 22), .ref (rA 23), .int (nI mn), .ref (rA 25), .int (nI cb), .int mr, .ref (rA 28), .ref (rA 29), .ref (rA 30), .ref (rA 31), .ref (rA 32), .ref (rA 33), .ref (rA 34), .ref (rA 35), .int (nI ld), .int (nI gm), .ref (rA 38), .ref (rA 39), .ref (rA 40), .ref (rA 41), .ref (rA 42), .ref (rA 43), .ref (rA 44), .ref (rA 45), .int (nI my), .ref (rA 47)], ia (rA 42) (rK9 42) 7 (fun i => nI (rd i)), ia (rA 44) (rK9 44) 7 (fun i => nI (((tkN rx nu x a 0 sn (i1 + 1)).2) i)), ia (rA 40) (rK9 40) 28 (fun i => nI (nu i)), ia (rA 38) (rK9 38) 28 (fun i => nI (rx i)), ia (rA 39) (rK9 39) 4 (fun i => nI (rs i))]) hP hD rfl hS hA [0, 1, 2, 3, 4, 5] (by decide +kernel) rfl
          exact ih_i1 _ _ _ ⟨hP8, hS, lv_sub hl [0, 1, 2, 3, 4, 5] rfl⟩
        · skip
          have hg1 : ¬ (rx (7 * x + i1) = a) := fun q9 => g1 ((nI_eq (a := rx (7 * x + i1)) (b := a) (by omega) (by omega)).mpr q9)
          refine tp_pc (pc' := 63) (by rfl) ?_
          refine lv_aload_n hx hb d_Ref_taken_63 rfl (lv_at hl 2 rfl) ?_
          refine lv_aload_n hx hb d_Ref_taken_64 rfl (lv_at hl 2 rfl) ?_
          refine va_get (D := (dC, dI)) (ci := 8) (v := .ref (rA 44)) (C := R_Ref) (T := F_Ref) (N := 48) hx hb hw i_Ref hown hK hP 0 rfl rfl 44 (by decide) (hw _ m_943) (fun _ h9 => h9) rfl d_Ref_taken_65 ?_
          refine lv_iload_n hx hb d_Ref_taken_68 rfl (lv_at hl 3 rfl) ?_
          refine lv_aload_n hx hb d_Ref_taken_69 rfl (lv_at hl 2 rfl) ?_
          refine va_get (D := (dC, dI)) (ci := 8) (v := .ref (rA 38)) (C := R_Ref) (T := F_Ref) (N := 48) hx hb hw i_Ref hown hK hP 0 rfl rfl 38 (by decide) (hw _ m_937) (fun _ h9 => h9) rfl d_Ref_taken_70 ?_
          refine lv_iload hx hb d_Ref_taken_73 (lv_at hl 0 rfl) ?_
          refine va_iald (D := (dC, dI)) hx hb hK hP 4 3 rfl rfl (i := nI (7 * x + i1)) (pk_in (7 * x + i1) 28 (by omega)) d_Ref_taken_75 ?_
          refine tp_i (y := nI (rx (7 * x + i1))) (by rw [show (nI (7 * x + i1) : Int32).toNatClampNeg = 7 * x + i1 from pk_cl (7 * x + i1)]) ?_
          obtain ⟨hPc, hDc, hFc⟩ := cut3 (wc := [oc ra 8 [.int (nI T), .int (nI Ac), .ref (rA 2), .ref (rA 3), .ref (rA 4), .ref (rA 5), .ref (rA 6), .ref (rA 7), .ref (rA 8), .ref (rA 9), .ref (rA 10), .ref (rA 11), .ref (rA 12), .ref (rA 13), .int ir, .ref (rA 15), .ref (rA 16), .ref (rA 17), .ref (rA 18), .int (nI md), .int (nI wd), .ref (rA 21), .ref (rA 22), .ref (rA 23), .int (nI mn), .ref (rA 25), .int (nI cb), .int mr, .ref (rA 28), .ref (rA 29), .ref (rA 30), .ref (rA 31), .ref (rA 32), .ref (rA 33), .ref (rA 34), .ref (rA 35), .int (nI ld), .int (nI gm), .ref (rA 38), .ref (rA 39), .ref (rA 40), .ref (rA 41), .ref (rA 42), .ref (rA 43), .ref (rA 44), .ref (rA 45), .int (nI my), .ref (rA 47)], ia (rA 44) (rK9 44) 7 (fun i => nI (((tkN rx nu x a 0 sn i1).2) i)), ia (rA 40) (rK9 40) 28 (fun i => nI (nu i))]) hP hD rfl hS hA [0, 2, 3] (by decide +kernel) rfl
          have hKc := hK.sub (tys' := [((rK9 44), .int), ((rK9 40), .int)]) [1, 2] rfl
          refine va_callv (va_runV (As := [.ref (rA 44), .int (nI a), .int (nI (rx (7 * x + i1)))]) (rest := []) ⟨hx, hb, hml, hown, hw⟩ (gen_Ref_pair l dC dI ra rA rK9 T Ac md wd mn cb ld gm my ir mr (rA 44) (rK9 44) a (rx (7 * x + i1)) ((tkN rx nu x a 0 sn i1).2) nu ha hr1 hna hnr (hs1 _) H.size) (cw_V 3 hw g_Ref_pair rfl rfl rfl (hw _ m_109) (hw _ m_1221) (hw _ m_1223) (hw _ m_86) (by decide +kernel) ⟨Nat.le_of_ble_eq_true rfl, Nat.le_of_ble_eq_true rfl⟩) ⟨fun a U g mk q => by obtain ⟨q0, q1, qP, qK, qD, qN⟩ := q; exact ⟨q0, q1, qP, va_K.moved (u := U) (U := U.calling g mk a) (Vm.Alike.refl U.vm) qK, qD, nw_call qN⟩, va_recv hKc hPc (ci := 8) (q0 := 0) rfl rfl, fun U hU hW => ⟨rfl, by rw [hU], by rw [hU]; exact hPc, va_K.moved hW.alike hKc, hDc.weaken (fun _ _ _ _ => trivial), nw_warm hW hn⟩⟩ rfl rfl hl.1 rfl (lv_room (Nat.le_of_ble_eq_true rfl)) d_Ref_taken_76 ⟨Nat.le_of_ble_eq_true rfl, Nat.le_of_ble_eq_true rfl⟩) hS (fun q _ h => hFc q h) hFc ?_
          intro u t9 H1 locs1 ht9 hvm hw1 hB hz1 hk1 hS1
          obtain ⟨hP1, hK1, hD1⟩ := hB
          rw [ht9] at hP1
          replace hK1 := va_K.moved hvm.symm hK1
          have hPD := join3 hP hD rfl [0, 2, 3] [1, 4, 5] rfl (by rfl) (by decide +kernel) (by decide +kernel) hk1 hFc hP1 hD1
          replace hK : va_K (dC, dI) classes [((rK9 42), .int), ((rK9 44), .int), ((rK9 40), .int), ((rK9 38), .int), ((rK9 39), .int)] s := hK.app hK1
          clear hP1 hK1 hD1 hk1 hz1 hFc hKc hDc hPc hvm ht9 hP hS t9 locs H
          have hP : va_P (dC, dI) classes [ia (rA 42) (rK9 42) 7 (fun i => nI (rd i)), ia (rA 38) (rK9 38) 28 (fun i => nI (rx i)), ia (rA 39) (rK9 39) 4 (fun i => nI (rs i)), oc ra 8 [.int (nI T), .int (nI Ac), .ref (rA 2), .ref (rA 3), .ref (rA 4), .ref (rA 5), .ref (rA 6), .ref (rA 7), .ref (rA 8), .ref (rA 9), .ref (rA 10), .ref (rA 11), .ref (rA 12), .ref (rA 13), .int ir, .ref (rA 15), .ref (rA 16), .ref (rA 17), .ref (rA 18), .int (nI md), .int (nI wd), .ref (rA 21), .ref (rA 22), .ref (rA 23), .int (nI mn), .ref (rA 25), .int (nI cb), .int mr, .ref (rA 28), .ref (rA 29), .ref (rA 30), .ref (rA 31), .ref (rA 32), .ref (rA 33), .ref (rA 34), .ref (rA 35), .int (nI ld), .int (nI gm), .ref (rA 38), .ref (rA 39), .ref (rA 40), .ref (rA 41), .ref (rA 42), .ref (rA 43), .ref (rA 44), .ref (rA 45), .int (nI my), .ref (rA 47)], ia (rA 44) (rK9 44) 7 (fun i => nI ((updN (tkN rx nu x a 0 sn i1).2 (nu a) ((tkN rx nu x a 0 sn i1).2 (nu a) ||| 2 ^ nu (rx (7 * x + i1)))) i)), ia (rA 40) (rK9 40) 28 (fun i => nI (nu i))] H1 := hPD.1
          replace hD : dd A [(rA 42), (rA 38), (rA 39), ra, (rA 44), (rA 40)] := dd_of hPD.2 rfl
          clear hPD
          revert H1 locs1
          intro H locs hS hP
          clear hw1 u
          refine tp_pc (pc' := 79) (by rfl) ?_
          refine lv_iload hx hb d_Ref_taken_79 (lv_at hl 1 rfl) ?_
          refine lv_if_ne (tgt := 95) hx hb d_Ref_taken_81 (by decide) (fun c_6 => ?_) (fun c_6 => absurd c_6 (by decide))
          refine tp_pc (pc' := 95) (by rfl) ?_
          refine lv_iconst (v := 1) hx hb d_Ref_taken_95 (by decide) ?_
          refine lv_goto (tgt := 100) hx hb d_Ref_taken_96 (by decide) ?_
          refine tp_pc (pc' := 100) (by rfl) ?_
          refine tp_i (y := (if (tkN rx nu x a 0 sn (i1 + 1)).1 = true then 1 else 0)) (by rw [tkN, hb9]; rfl) ?_
          rw [show updN (tkN rx nu x a 0 sn i1).2 (nu a) ((tkN rx nu x a 0 sn i1).2 (nu a) ||| 2 ^ nu (rx (7 * x + i1))) = (tkN rx nu x a 0 sn (i1 + 1)).2 from by rw [tkN]; exact (if_pos ⟨hb9, hg1⟩).symm] at hP
          replace hP : va_P (dC, dI) classes [ia (rA 42) (rK9 42) 7 (fun i => nI (rd i)), ia (rA 38) (rK9 38) 28 (fun i => nI (rx i)), ia (rA 39) (rK9 39) 4 (fun i => nI (rs i)), oc ra 8 [.int (nI T), .int (nI Ac), .ref (rA 2), .ref (rA 3), .ref (rA 4), .ref (rA 5), .ref (rA 6), .ref (rA 7), .ref (rA 8), .ref (rA 9), .ref (rA 10), .ref (rA 11), .ref (rA 12), .ref (rA 13), .int ir, .ref (rA 15), .ref (rA 16), .ref (rA 17), .ref (rA 18), .int (nI md), .int (nI wd), .ref (rA 21), .ref (rA 22), .ref (rA 23), .int (nI mn), .ref (rA 25), .int (nI cb), .int mr, .ref (rA 28), .ref (rA 29), .ref (rA 30), .ref (rA 31), .ref (rA 32), .ref (rA 33), .ref (rA 34), .ref (rA 35), .int (nI ld), .int (nI gm), .ref (rA 38), .ref (rA 39), .ref (rA 40), .ref (rA 41), .ref (rA 42), .ref (rA 43), .ref (rA 44), .ref (rA 45), .int (nI my), .ref (rA 47)], ia (rA 44) (rK9 44) 7 (fun i => nI (((tkN rx nu x a 0 sn (i1 + 1)).2) i)), ia (rA 40) (rK9 40) 28 (fun i => nI (nu i))] H := hP
          refine lv_istore (lv' := [(4, .int (if (tkN rx nu x a 0 sn (i1 + 1)).1 = true then 1 else 0)), (5, .int (nI (7 * x + i1))), (0, .ref ra), (1, .int (nI a)), (2, .int (-1)), (3, .int (nI x))]) hx hb d_Ref_taken_100 hl (by decide) rfl ?_
          clear hl ls
          intro ls hl
          refine lv_iinc (v := nI (7 * x + i1 + 1)) (lv' := [(5, .int (nI (7 * x + i1 + 1))), (4, .int (if (tkN rx nu x a 0 sn (i1 + 1)).1 = true then 1 else 0)), (0, .ref ra), (1, .int (nI a)), (2, .int (-1)), (3, .int (nI x))]) hx hb d_Ref_taken_102 hl (k := 1) rfl (by exact nI_1 (7 * x + i1)) (by decide) rfl ?_
          clear hl ls
          intro ls hl
          refine lv_goto (tgt := 31) hx hb d_Ref_taken_105 (by decide) ?_
          refine tp_pc (pc' := 31) (by rfl) ?_
          obtain ⟨hP8, -, -⟩ := cut3 (wc := [oc ra 8 [.int (nI T), .int (nI Ac), .ref (rA 2), .ref (rA 3), .ref (rA 4), .ref (rA 5), .ref (rA 6), .ref (rA 7), .ref (rA 8), .ref (rA 9), .ref (rA 10), .ref (rA 11), .ref (rA 12), .ref (rA 13), .int ir, .ref (rA 15), .ref (rA 16), .ref (rA 17), .ref (rA 18), .int (nI md), .int (nI wd), .ref (rA 21), .ref (rA 22), .ref (rA 23), .int (nI mn), .ref (rA 25), .int (nI cb), .int mr, .ref (rA 28), .ref (rA 29), .ref (rA 30), .ref (rA 31), .ref (rA 32), .ref (rA 33), .ref (rA 34), .ref (rA 35), .int (nI ld), .int (nI gm), .ref (rA 38), .ref (rA 39), .ref (rA 40), .ref (rA 41), .ref (rA 42), .ref (rA 43), .ref (rA 44), .ref (rA 45), .int (nI my), .ref (rA 47)], ia (rA 42) (rK9 42) 7 (fun i => nI (rd i)), ia (rA 44) (rK9 44) 7 (fun i => nI (((tkN rx nu x a 0 sn (i1 + 1)).2) i)), ia (rA 40) (rK9 40) 28 (fun i => nI (nu i)), ia (rA 38) (rK9 38) 28 (fun i => nI (rx i)), ia (rA 39) (rK9 39) 4 (fun i => nI (rs i))]) hP hD rfl hS hA [3, 0, 4, 5, 1, 2] (by decide +kernel) rfl
          exact ih_i1 _ _ _ ⟨hP8, hS, lv_sub hl [0, 1, 2, 3, 4, 5] rfl⟩
      | false =>
        rw [if_neg (by decide : ¬ (false = true))]
        rw [hb9] at hl
        replace hl : lv_has ls 6 [(5, .int (nI (7 * x + i1))), (4, .int 0), (0, .ref ra), (1, .int (nI a)), (2, .int (-1)), (3, .int (nI x))] := hl
        refine lv_if_eq (tgt := 79) hx hb d_Ref_taken_49 (by decide) (fun c_7 => ?_) (fun c_7 => absurd c_7 (by decide))
        refine tp_pc (pc' := 79) (by rfl) ?_
        refine lv_iload hx hb d_Ref_taken_79 (lv_at hl 1 rfl) ?_
        refine lv_if_ne (tgt := 95) hx hb d_Ref_taken_81 (by decide) (fun c_8 => absurd c_8 (by decide)) (fun c_8 => ?_)
        refine tp_pc (pc' := 84) (by rfl) ?_
        refine lv_aload_n hx hb d_Ref_taken_84 rfl (lv_at hl 2 rfl) ?_
        refine va_get (D := (dC, dI)) (ci := 8) (v := .ref (rA 38)) (C := R_Ref) (T := F_Ref) (N := 48) hx hb hw i_Ref hown hK hP 0 rfl rfl 38 (by decide) (hw _ m_937) (fun _ h9 => h9) rfl d_Ref_taken_85 ?_
        refine lv_iload hx hb d_Ref_taken_88 (lv_at hl 0 rfl) ?_
        refine va_iald (D := (dC, dI)) hx hb hK hP 4 3 rfl rfl (i := nI (7 * x + i1)) (pk_in (7 * x + i1) 28 (by omega)) d_Ref_taken_90 ?_
        refine tp_i (y := nI (rx (7 * x + i1))) (by rw [show (nI (7 * x + i1) : Int32).toNatClampNeg = 7 * x + i1 from pk_cl (7 * x + i1)]) ?_
        refine lv_iload_n hx hb d_Ref_taken_91 rfl (lv_at hl 4 rfl) ?_
        refine lv_icmp_ne (tgt := 99) hx hb d_Ref_taken_92 (by decide) (fun f1 => ?_) (fun f1 => ?_)
        · skip
          refine tp_pc (pc' := 99) (by rfl) ?_
          refine lv_iconst (v := 0) hx hb d_Ref_taken_99 (by decide) ?_
          refine tp_i (y := (if (tkN rx nu x a 0 sn (i1 + 1)).1 = true then 1 else 0)) (by rw [tkN, hb9]; rw [show (rx (7 * x + i1) + 1 == 0) = false from rfl]; rfl) ?_
          rw [show (tkN rx nu x a 0 sn i1).2 = (tkN rx nu x a 0 sn (i1 + 1)).2 from by rw [tkN]; exact (if_neg (fun h => absurd (hb9.symm.trans h.1) (by decide))).symm] at hP
          replace hP : va_P (dC, dI) classes [oc ra 8 [.int (nI T), .int (nI Ac), .ref (rA 2), .ref (rA 3), .ref (rA 4), .ref (rA 5), .ref (rA 6), .ref (rA 7), .ref (rA 8), .ref (rA 9), .ref (rA 10), .ref (rA 11), .ref (rA 12), .ref (rA 13), .int ir, .ref (rA 15), .ref (rA 16), .ref (rA 17), .ref (rA 18), .int (nI md), .int (nI wd), .ref (rA 21), .ref (rA 22), .ref (rA 23), .int (nI mn), .ref (rA 25), .int (nI cb), .int mr, .ref (rA 28), .ref (rA 29), .ref (rA 30), .ref (rA 31), .ref (rA 32), .ref (rA 33), .ref (rA 34), .ref (rA 35), .int (nI ld), .int (nI gm), .ref (rA 38), .ref (rA 39), .ref (rA 40), .ref (rA 41), .ref (rA 42), .ref (rA 43), .ref (rA 44), .ref (rA 45), .int (nI my), .ref (rA 47)], ia (rA 42) (rK9 42) 7 (fun i => nI (rd i)), ia (rA 44) (rK9 44) 7 (fun i => nI (((tkN rx nu x a 0 sn (i1 + 1)).2) i)), ia (rA 40) (rK9 40) 28 (fun i => nI (nu i)), ia (rA 38) (rK9 38) 28 (fun i => nI (rx i)), ia (rA 39) (rK9 39) 4 (fun i => nI (rs i))] H := hP
          refine lv_istore (lv' := [(4, .int (if (tkN rx nu x a 0 sn (i1 + 1)).1 = true then 1 else 0)), (5, .int (nI (7 * x + i1))), (0, .ref ra), (1, .int (nI a)), (2, .int (-1)), (3, .int (nI x))]) hx hb d_Ref_taken_100 hl (by decide) rfl ?_
          clear hl ls
          intro ls hl
          refine lv_iinc (v := nI (7 * x + i1 + 1)) (lv' := [(5, .int (nI (7 * x + i1 + 1))), (4, .int (if (tkN rx nu x a 0 sn (i1 + 1)).1 = true then 1 else 0)), (0, .ref ra), (1, .int (nI a)), (2, .int (-1)), (3, .int (nI x))]) hx hb d_Ref_taken_102 hl (k := 1) rfl (by exact nI_1 (7 * x + i1)) (by decide) rfl ?_
          clear hl ls
          intro ls hl
          refine lv_goto (tgt := 31) hx hb d_Ref_taken_105 (by decide) ?_
          refine tp_pc (pc' := 31) (by rfl) ?_
          obtain ⟨hP8, -, -⟩ := cut3 (wc := [oc ra 8 [.int (nI T), .int (nI Ac), .ref (rA 2), .ref (rA 3), .ref (rA 4), .ref (rA 5), .ref (rA 6), .ref (rA 7), .ref (rA 8), .ref (rA 9), .ref (rA 10), .ref (rA 11), .ref (rA 12), .ref (rA 13), .int ir, .ref (rA 15), .ref (rA 16), .ref (rA 17), .ref (rA 18), .int (nI md), .int (nI wd), .ref (rA 21), .ref (rA 22), .ref (rA 23), .int (nI mn), .ref (rA 25), .int (nI cb), .int mr, .ref (rA 28), .ref (rA 29), .ref (rA 30), .ref (rA 31), .ref (rA 32), .ref (rA 33), .ref (rA 34), .ref (rA 35), .int (nI ld), .int (nI gm), .ref (rA 38), .ref (rA 39), .ref (rA 40), .ref (rA 41), .ref (rA 42), .ref (rA 43), .ref (rA 44), .ref (rA 45), .int (nI my), .ref (rA 47)], ia (rA 42) (rK9 42) 7 (fun i => nI (rd i)), ia (rA 44) (rK9 44) 7 (fun i => nI (((tkN rx nu x a 0 sn (i1 + 1)).2) i)), ia (rA 40) (rK9 40) 28 (fun i => nI (nu i)), ia (rA 38) (rK9 38) 28 (fun i => nI (rx i)), ia (rA 39) (rK9 39) 4 (fun i => nI (rs i))]) hP hD rfl hS hA [0, 1, 2, 3, 4, 5] (by decide +kernel) rfl
          exact ih_i1 _ _ _ ⟨hP8, hS, lv_sub hl [0, 1, 2, 3, 4, 5] rfl⟩
        · skip
          exact absurd f1 (nI_m1 _ (by omega))
    · intro H locs ls hI
      obtain ⟨hP, hS, hl⟩ := hI
      refine lv_iload hx hb d_Ref_taken_31 (lv_at hl 0 rfl) ?_
      refine lv_bipush (v := 7) hx hb d_Ref_taken_33 (by decide) ?_
      refine lv_iload_n hx hb d_Ref_taken_35 rfl (lv_at hl 5 rfl) ?_
      refine lv_imul hx hb d_Ref_taken_36 ?_
      refine tp_i (y := nI (7 * x)) (by exact pk_mul 7 x) ?_
      refine lv_aload_n hx hb d_Ref_taken_37 rfl (lv_at hl 2 rfl) ?_
      refine va_get (D := (dC, dI)) (ci := 8) (v := .ref (rA 39)) (C := R_Ref) (T := F_Ref) (N := 48) hx hb hw i_Ref hown hK hP 0 rfl rfl 39 (by decide) (hw _ m_938) (fun _ h9 => h9) rfl d_Ref_taken_38 ?_
      refine lv_iload_n hx hb d_Ref_taken_41 rfl (lv_at hl 5 rfl) ?_
      refine va_iald (D := (dC, dI)) hx hb hK hP 5 4 rfl rfl (i := nI x) (pk_in x 4 (by omega)) d_Ref_taken_42 ?_
      refine tp_i (y := nI (rs x)) (by rw [show (nI x : Int32).toNatClampNeg = x from pk_cl x]) ?_
      refine lv_iadd hx hb d_Ref_taken_43 ?_
      refine tp_i (y := nI (7 * x + (rs x))) (by exact nI_add (7 * x) (rs x)) ?_
      refine lv_icmp_ge (tgt := 108) hx hb d_Ref_taken_44 (by decide) (fun c9 => ?_) (fun c9 => absurd (nI_le (Nat.le_refl _) (by omega)) c9)
      rw [← er] at hP
      replace hP : va_P (dC, dI) classes [oc ra 8 [.int (nI T), .int (nI Ac), .ref (rA 2), .ref (rA 3), .ref (rA 4), .ref (rA 5), .ref (rA 6), .ref (rA 7), .ref (rA 8), .ref (rA 9), .ref (rA 10), .ref (rA 11), .ref (rA 12), .ref (rA 13), .int ir, .ref (rA 15), .ref (rA 16), .ref (rA 17), .ref (rA 18), .int (nI md), .int (nI wd), .ref (rA 21), .ref (rA 22), .ref (rA 23), .int (nI mn), .ref (rA 25), .int (nI cb), .int mr, .ref (rA 28), .ref (rA 29), .ref (rA 30), .ref (rA 31), .ref (rA 32), .ref (rA 33), .ref (rA 34), .ref (rA 35), .int (nI ld), .int (nI gm), .ref (rA 38), .ref (rA 39), .ref (rA 40), .ref (rA 41), .ref (rA 42), .ref (rA 43), .ref (rA 44), .ref (rA 45), .int (nI my), .ref (rA 47)], ia (rA 42) (rK9 42) 7 (fun i => nI ((if 0 = 0 then rd else updN rd (nu (0 - 1)) (rd (nu (0 - 1)) ||| 2 ^ nu a)) i)), ia (rA 44) (rK9 44) 7 (fun i => nI (((tkN rx nu x a 0 sn (rs x)).2) i)), ia (rA 40) (rK9 40) 28 (fun i => nI (nu i)), ia (rA 38) (rK9 38) 28 (fun i => nI (rx i)), ia (rA 39) (rK9 39) 4 (fun i => nI (rs i))] H := hP
      refine tp_pc (pc' := 108) (by rfl) ?_
      obtain ⟨hP9, hD9, -⟩ := cut3 (wc := [oc ra 8 [.int (nI T), .int (nI Ac), .ref (rA 2), .ref (rA 3), .ref (rA 4), .ref (rA 5), .ref (rA 6), .ref (rA 7), .ref (rA 8), .ref (rA 9), .ref (rA 10), .ref (rA 11), .ref (rA 12), .ref (rA 13), .int ir, .ref (rA 15), .ref (rA 16), .ref (rA 17), .ref (rA 18), .int (nI md), .int (nI wd), .ref (rA 21), .ref (rA 22), .ref (rA 23), .int (nI mn), .ref (rA 25), .int (nI cb), .int mr, .ref (rA 28), .ref (rA 29), .ref (rA 30), .ref (rA 31), .ref (rA 32), .ref (rA 33), .ref (rA 34), .ref (rA 35), .int (nI ld), .int (nI gm), .ref (rA 38), .ref (rA 39), .ref (rA 40), .ref (rA 41), .ref (rA 42), .ref (rA 43), .ref (rA 44), .ref (rA 45), .int (nI my), .ref (rA 47)], ia (rA 42) (rK9 42) 7 (fun i => nI ((if 0 = 0 then rd else updN rd (nu (0 - 1)) (rd (nu (0 - 1)) ||| 2 ^ nu a)) i)), ia (rA 44) (rK9 44) 7 (fun i => nI (((tkN rx nu x a 0 sn (rs x)).2) i)), ia (rA 40) (rK9 40) 28 (fun i => nI (nu i)), ia (rA 38) (rK9 38) 28 (fun i => nI (rx i)), ia (rA 39) (rK9 39) 4 (fun i => nI (rs i))]) hP hD rfl hS hA [0, 1, 2, 3, 4, 5] (by decide +kernel) rfl
      have hK9 := hK.sub (tys' := []) [] rfl
      refine W.widen (k := 0) (n := 0) (by exact Nat.le_of_ble_eq_true rfl) (by exact Nat.le_of_ble_eq_true rfl) ?_
      exact W.vret hx hb hr (fun t9 ht9 hW => ⟨⟨(), rfl, trivial, by rw [ht9]; exact hP9, va_K.moved hW.alike hK9, hD9⟩, hS.F ht9⟩) hS.2.2 d_Ref_taken_108
  · skip
    obtain ⟨w8, rfl⟩ : ∃ w8, w9 = w8 + 1 := ⟨w9 - 1, by omega⟩
    have hnw := hnu w8 (by omega)
    replace hl : lv_has ls 6 [(0, .ref ra), (1, .int (nI a)), (2, .int (nI w8)), (3, .int (nI x))] := by rw [mN_s (Nat.succ_ne_zero w8)] at hl; exact hl
    refine lv_iload_n hx hb d_Ref_taken_0 rfl (lv_at hl 2 rfl) ?_
    refine lv_if_lt (tgt := 14) hx hb d_Ref_taken_1 (by decide) (fun c9 => absurd c9 (nI_pos (by omega))) (fun c9 => ?_)
    refine tp_pc (pc' := 4) (by rfl) ?_
    refine lv_aload_n hx hb d_Ref_taken_4 rfl (lv_at hl 0 rfl) ?_
    refine lv_aload_n hx hb d_Ref_taken_5 rfl (lv_at hl 0 rfl) ?_
    refine va_get (D := (dC, dI)) (ci := 8) (v := .ref (rA 42)) (C := R_Ref) (T := F_Ref) (N := 48) hx hb hw i_Ref hown hK hP 0 rfl rfl 42 (by decide) (hw _ m_941) (fun _ h9 => h9) rfl d_Ref_taken_6 ?_
    refine lv_iload_n hx hb d_Ref_taken_9 rfl (lv_at hl 2 rfl) ?_
    refine lv_iload_n hx hb d_Ref_taken_10 rfl (lv_at hl 1 rfl) ?_
    obtain ⟨hPc, hDc, hFc⟩ := cut3 (wc := [oc ra 8 [.int (nI T), .int (nI Ac), .ref (rA 2), .ref (rA 3), .ref (rA 4), .ref (rA 5), .ref (rA 6), .ref (rA 7), .ref (rA 8), .ref (rA 9), .ref (rA 10), .ref (rA 11), .ref (rA 12), .ref (rA 13), .int ir, .ref (rA 15), .ref (rA 16), .ref (rA 17), .ref (rA 18), .int (nI md), .int (nI wd), .ref (rA 21), .ref (rA 22), .ref (rA 23), .int (nI mn), .ref (rA 25), .int (nI cb), .int mr, .ref (rA 28), .ref (rA 29), .ref (rA 30), .ref (rA 31), .ref (rA 32), .ref (rA 33), .ref (rA 34), .ref (rA 35), .int (nI ld), .int (nI gm), .ref (rA 38), .ref (rA 39), .ref (rA 40), .ref (rA 41), .ref (rA 42), .ref (rA 43), .ref (rA 44), .ref (rA 45), .int (nI my), .ref (rA 47)], ia (rA 42) (rK9 42) 7 (fun i => nI (rd i)), ia (rA 40) (rK9 40) 28 (fun i => nI (nu i))]) hP hD rfl hS hA [0, 1, 3] (by decide +kernel) rfl
    have hKc := hK.sub (tys' := [((rK9 42), .int), ((rK9 40), .int)]) [0, 2] rfl
    refine va_callv (va_runV (As := [.ref (rA 42), .int (nI w8), .int (nI a)]) (rest := []) ⟨hx, hb, hml, hown, hw⟩ (gen_Ref_pair l dC dI ra rA rK9 T Ac md wd mn cb ld gm my ir mr (rA 42) (rK9 42) w8 a rd nu (by omega) ha hnw hna (hrd _) s.heap.size) (cw_V 3 hw g_Ref_pair rfl rfl rfl (hw _ m_109) (hw _ m_1221) (hw _ m_1223) (hw _ m_86) (by decide +kernel) ⟨Nat.le_of_ble_eq_true rfl, Nat.le_of_ble_eq_true rfl⟩) ⟨fun a U g mk q => by obtain ⟨q0, q1, qP, qK, qD, qN⟩ := q; exact ⟨q0, q1, qP, va_K.moved (u := U) (U := U.calling g mk a) (Vm.Alike.refl U.vm) qK, qD, nw_call qN⟩, va_recv hKc hPc (ci := 8) (q0 := 0) rfl rfl, fun U hU hW => ⟨rfl, by rw [hU], by rw [hU]; exact hPc, va_K.moved hW.alike hKc, hDc.weaken (fun _ _ _ _ => trivial), nw_warm hW hn⟩⟩ rfl rfl hl.1 rfl (lv_room (Nat.le_of_ble_eq_true rfl)) d_Ref_taken_11 ⟨Nat.le_of_ble_eq_true rfl, Nat.le_of_ble_eq_true rfl⟩) hS (fun q _ h => hFc q h) hFc ?_
    intro u t9 H1 locs1 ht9 hvm hw1 hB hz1 hk1 hS1
    obtain ⟨hP1, hK1, hD1⟩ := hB
    rw [ht9] at hP1
    replace hK1 := va_K.moved hvm.symm hK1
    have hPD := join3 hP hD rfl [0, 1, 3] [2, 4, 5] rfl (by rfl) (by decide +kernel) (by decide +kernel) hk1 hFc hP1 hD1
    replace hK : va_K (dC, dI) classes [((rK9 42), .int), ((rK9 44), .int), ((rK9 40), .int), ((rK9 38), .int), ((rK9 39), .int)] s := hK.app hK1
    clear hP1 hK1 hD1 hk1 hz1 hFc hKc hDc hPc hvm ht9 hP hS t9
    have hP : va_P (dC, dI) classes [ia (rA 44) (rK9 44) 7 (fun i => nI (sn i)), ia (rA 38) (rK9 38) 28 (fun i => nI (rx i)), ia (rA 39) (rK9 39) 4 (fun i => nI (rs i)), oc ra 8 [.int (nI T), .int (nI Ac), .ref (rA 2), .ref (rA 3), .ref (rA 4), .ref (rA 5), .ref (rA 6), .ref (rA 7), .ref (rA 8), .ref (rA 9), .ref (rA 10), .ref (rA 11), .ref (rA 12), .ref (rA 13), .int ir, .ref (rA 15), .ref (rA 16), .ref (rA 17), .ref (rA 18), .int (nI md), .int (nI wd), .ref (rA 21), .ref (rA 22), .ref (rA 23), .int (nI mn), .ref (rA 25), .int (nI cb), .int mr, .ref (rA 28), .ref (rA 29), .ref (rA 30), .ref (rA 31), .ref (rA 32), .ref (rA 33), .ref (rA 34), .ref (rA 35), .int (nI ld), .int (nI gm), .ref (rA 38), .ref (rA 39), .ref (rA 40), .ref (rA 41), .ref (rA 42), .ref (rA 43), .ref (rA 44), .ref (rA 45), .int (nI my), .ref (rA 47)], ia (rA 42) (rK9 42) 7 (fun i => nI ((updN rd (nu w8) (rd (nu w8) ||| 2 ^ nu a)) i)), ia (rA 40) (rK9 40) 28 (fun i => nI (nu i))] H1 := hPD.1
    replace hD : dd A [(rA 44), (rA 38), (rA 39), ra, (rA 42), (rA 40)] := dd_of hPD.2 rfl
    clear hPD
    revert H1 locs1
    intro H locs hS hP
    clear hw1 u
    refine tp_pc (pc' := 14) (by rfl) ?_
    refine lv_iload_n hx hb d_Ref_taken_14 rfl (lv_at hl 2 rfl) ?_
    refine lv_if_ge (tgt := 22) hx hb d_Ref_taken_15 (by decide) (fun c9 => ?_) (fun c9 => absurd (nI_pos' (by omega)) c9)
    refine tp_pc (pc' := 22) (by rfl) ?_
    refine lv_iconst (v := 0) hx hb d_Ref_taken_22 (by decide) ?_
    refine lv_istore (lv' := [(4, .int 0), (0, .ref ra), (1, .int (nI a)), (2, .int (nI w8)), (3, .int (nI x))]) hx hb d_Ref_taken_23 hl (by decide) rfl ?_
    clear hl ls
    intro ls hl
    have er : (if (w8 + 1) = 0 then rd else updN rd (nu ((w8 + 1) - 1)) (rd (nu ((w8 + 1) - 1)) ||| 2 ^ nu a)) = updN rd (nu w8) (rd (nu w8) ||| 2 ^ nu a) := if_neg (Nat.succ_ne_zero w8)
    refine lv_bipush (v := 7) hx hb d_Ref_taken_25 (by decide) ?_
    refine lv_iload_n hx hb d_Ref_taken_27 rfl (lv_at hl 4 rfl) ?_
    refine lv_imul hx hb d_Ref_taken_28 ?_
    refine tp_i (y := nI (7 * x)) (by exact pk_mul 7 x) ?_
    refine lv_istore (lv' := [(5, .int (nI (7 * x))), (4, .int 0), (0, .ref ra), (1, .int (nI a)), (2, .int (nI w8)), (3, .int (nI x))]) hx hb d_Ref_taken_29 hl (by decide) rfl ?_
    clear hl ls
    intro ls hl
    obtain ⟨hP8, hD8, -⟩ := cut3 (wc := [oc ra 8 [.int (nI T), .int (nI Ac), .ref (rA 2), .ref (rA 3), .ref (rA 4), .ref (rA 5), .ref (rA 6), .ref (rA 7), .ref (rA 8), .ref (rA 9), .ref (rA 10), .ref (rA 11), .ref (rA 12), .ref (rA 13), .int ir, .ref (rA 15), .ref (rA 16), .ref (rA 17), .ref (rA 18), .int (nI md), .int (nI wd), .ref (rA 21), .ref (rA 22), .ref (rA 23), .int (nI mn), .ref (rA 25), .int (nI cb), .int mr, .ref (rA 28), .ref (rA 29), .ref (rA 30), .ref (rA 31), .ref (rA 32), .ref (rA 33), .ref (rA 34), .ref (rA 35), .int (nI ld), .int (nI gm), .ref (rA 38), .ref (rA 39), .ref (rA 40), .ref (rA 41), .ref (rA 42), .ref (rA 43), .ref (rA 44), .ref (rA 45), .int (nI my), .ref (rA 47)], ia (rA 42) (rK9 42) 7 (fun i => nI ((updN rd (nu w8) (rd (nu w8) ||| 2 ^ nu a)) i)), ia (rA 44) (rK9 44) 7 (fun i => nI (sn i)), ia (rA 40) (rK9 40) 28 (fun i => nI (nu i)), ia (rA 38) (rK9 38) 28 (fun i => nI (rx i)), ia (rA 39) (rK9 39) 4 (fun i => nI (rs i))]) hP hD rfl hS hA [3, 4, 0, 5, 1, 2] (by decide +kernel) rfl
    clear hP
    have hP : va_P (dC, dI) classes [oc ra 8 [.int (nI T), .int (nI Ac), .ref (rA 2), .ref (rA 3), .ref (rA 4), .ref (rA 5), .ref (rA 6), .ref (rA 7), .ref (rA 8), .ref (rA 9), .ref (rA 10), .ref (rA 11), .ref (rA 12), .ref (rA 13), .int ir, .ref (rA 15), .ref (rA 16), .ref (rA 17), .ref (rA 18), .int (nI md), .int (nI wd), .ref (rA 21), .ref (rA 22), .ref (rA 23), .int (nI mn), .ref (rA 25), .int (nI cb), .int mr, .ref (rA 28), .ref (rA 29), .ref (rA 30), .ref (rA 31), .ref (rA 32), .ref (rA 33), .ref (rA 34), .ref (rA 35), .int (nI ld), .int (nI gm), .ref (rA 38), .ref (rA 39), .ref (rA 40), .ref (rA 41), .ref (rA 42), .ref (rA 43), .ref (rA 44), .ref (rA 45), .int (nI my), .ref (rA 47)], ia (rA 42) (rK9 42) 7 (fun i => nI ((updN rd (nu w8) (rd (nu w8) ||| 2 ^ nu a)) i)), ia (rA 44) (rK9 44) 7 (fun i => nI (sn i)), ia (rA 40) (rK9 40) 28 (fun i => nI (nu i)), ia (rA 38) (rK9 38) 28 (fun i => nI (rx i)), ia (rA 39) (rK9 39) 4 (fun i => nI (rs i))] H := hP8
    clear hP8
    replace hD : dd A [ra, (rA 42), (rA 44), (rA 40), (rA 38), (rA 39)] := dd_of hD8 rfl
    clear hD8
    replace hP : va_P (dC, dI) classes [oc ra 8 [.int (nI T), .int (nI Ac), .ref (rA 2), .ref (rA 3), .ref (rA 4), .ref (rA 5), .ref (rA 6), .ref (rA 7), .ref (rA 8), .ref (rA 9), .ref (rA 10), .ref (rA 11), .ref (rA 12), .ref (rA 13), .int ir, .ref (rA 15), .ref (rA 16), .ref (rA 17), .ref (rA 18), .int (nI md), .int (nI wd), .ref (rA 21), .ref (rA 22), .ref (rA 23), .int (nI mn), .ref (rA 25), .int (nI cb), .int mr, .ref (rA 28), .ref (rA 29), .ref (rA 30), .ref (rA 31), .ref (rA 32), .ref (rA 33), .ref (rA 34), .ref (rA 35), .int (nI ld), .int (nI gm), .ref (rA 38), .ref (rA 39), .ref (rA 40), .ref (rA 41), .ref (rA 42), .ref (rA 43), .ref (rA 44), .ref (rA 45), .int (nI my), .ref (rA 47)], ia (rA 42) (rK9 42) 7 (fun i => nI ((updN rd (nu w8) (rd (nu w8) ||| 2 ^ nu a)) i)), ia (rA 44) (rK9 44) 7 (fun i => nI (((tkN rx nu x a (w8 + 1) sn 0).2) i)), ia (rA 40) (rK9 40) 28 (fun i => nI (nu i)), ia (rA 38) (rK9 38) 28 (fun i => nI (rx i)), ia (rA 39) (rK9 39) 4 (fun i => nI (rs i))] H := hP
    replace hl : lv_has ls 6 [(5, .int (nI (7 * x + 0))), (4, .int (if (tkN rx nu x a (w8 + 1) sn 0).1 = true then 1 else 0)), (0, .ref ra), (1, .int (nI a)), (2, .int (nI w8)), (3, .int (nI x))] := hl
    refine lp_n (rs x) (fun i1 H locs ls => va_P (dC, dI) classes [oc ra 8 [.int (nI T), .int (nI Ac), .ref (rA 2), .ref (rA 3), .ref (rA 4), .ref (rA 5), .ref (rA 6), .ref (rA 7), .ref (rA 8), .ref (rA 9), .ref (rA 10), .ref (rA 11), .ref (rA 12), .ref (rA 13), .int ir, .ref (rA 15), .ref (rA 16), .ref (rA 17), .ref (rA 18), .int (nI md), .int (nI wd), .ref (rA 21), .ref (rA 22), .ref (rA 23), .int (nI mn), .ref (rA 25), .int (nI cb), .int mr, .ref (rA 28), .ref (rA 29), .ref (rA 30), .ref (rA 31), .ref (rA 32), .ref (rA 33), .ref (rA 34), .ref (rA 35), .int (nI ld), .int (nI gm), .ref (rA 38), .ref (rA 39), .ref (rA 40), .ref (rA 41), .ref (rA 42), .ref (rA 43), .ref (rA 44), .ref (rA 45), .int (nI my), .ref (rA 47)], ia (rA 42) (rK9 42) 7 (fun i => nI ((updN rd (nu w8) (rd (nu w8) ||| 2 ^ nu a)) i)), ia (rA 44) (rK9 44) 7 (fun i => nI (((tkN rx nu x a (w8 + 1) sn i1).2) i)), ia (rA 40) (rK9 40) 28 (fun i => nI (nu i)), ia (rA 38) (rK9 38) 28 (fun i => nI (rx i)), ia (rA 39) (rK9 39) 4 (fun i => nI (rs i))] H ∧ va_S A s.heap H locs ∧ lv_has ls 6 [(5, .int (nI (7 * x + i1))), (4, .int (if (tkN rx nu x a (w8 + 1) sn i1).1 = true then 1 else 0)), (0, .ref ra), (1, .int (nI a)), (2, .int (nI w8)), (3, .int (nI x))]) ⟨hP, hS, hl⟩ ?_ ?_
    · intro i1 H locs ls hi1 hI ih_i1
      obtain ⟨hP, hS, hl⟩ := hI
      refine lv_iload hx hb d_Ref_taken_31 (lv_at hl 0 rfl) ?_
      refine lv_bipush (v := 7) hx hb d_Ref_taken_33 (by decide) ?_
      refine lv_iload_n hx hb d_Ref_taken_35 rfl (lv_at hl 5 rfl) ?_
      refine lv_imul hx hb d_Ref_taken_36 ?_
      refine tp_i (y := nI (7 * x)) (by exact pk_mul 7 x) ?_
      refine lv_aload_n hx hb d_Ref_taken_37 rfl (lv_at hl 2 rfl) ?_
      refine va_get (D := (dC, dI)) (ci := 8) (v := .ref (rA 39)) (C := R_Ref) (T := F_Ref) (N := 48) hx hb hw i_Ref hown hK hP 0 rfl rfl 39 (by decide) (hw _ m_938) (fun _ h9 => h9) rfl d_Ref_taken_38 ?_
      refine lv_iload_n hx hb d_Ref_taken_41 rfl (lv_at hl 5 rfl) ?_
      refine va_iald (D := (dC, dI)) hx hb hK hP 5 4 rfl rfl (i := nI x) (pk_in x 4 (by omega)) d_Ref_taken_42 ?_
      refine tp_i (y := nI (rs x)) (by rw [show (nI x : Int32).toNatClampNeg = x from pk_cl x]) ?_
      refine lv_iadd hx hb d_Ref_taken_43 ?_
      refine tp_i (y := nI (7 * x + (rs x))) (by exact nI_add (7 * x) (rs x)) ?_
      refine lv_icmp_ge (tgt := 108) hx hb d_Ref_taken_44 (by decide) (fun c9 => absurd c9 (nI_ge (a := 7 * x + i1) (b := 7 * x + rs x) (by omega) (by omega))) (fun c9 => ?_)
      have hr1 := hrx (7 * x + i1) (by omega)
      have hnr := hnu _ hr1
      have hs1 := tkN_lt (a := a) (w9 := (w8 + 1)) hsn hnu hrx hx4 i1 (by omega)
      refine tp_pc (pc' := 47) (by rfl) ?_
      refine lv_iload hx hb d_Ref_taken_47 (lv_at hl 1 rfl) ?_
      cases hb9 : (tkN rx nu x a (w8 + 1) sn i1).1 with
      | true =>
        rw [if_pos (rfl : true = true)]
        rw [hb9] at hl
        replace hl : lv_has ls 6 [(5, .int (nI (7 * x + i1))), (4, .int 1), (0, .ref ra), (1, .int (nI a)), (2, .int (nI w8)), (3, .int (nI x))] := hl
        refine lv_if_eq (tgt := 79) hx hb d_Ref_taken_49 (by decide) (fun c_10 => absurd c_10 (by decide)) (fun c_10 => ?_)
        refine tp_pc (pc' := 52) (by rfl) ?_
        refine lv_aload_n hx hb d_Ref_taken_52 rfl (lv_at hl 2 rfl) ?_
        refine va_get (D := (dC, dI)) (ci := 8) (v := .ref (rA 38)) (C := R_Ref) (T := F_Ref) (N := 48) hx hb hw i_Ref hown hK hP 0 rfl rfl 38 (by decide) (hw _ m_937) (fun _ h9 => h9) rfl d_Ref_taken_53 ?_
        refine lv_iload hx hb d_Ref_taken_56 (lv_at hl 0 rfl) ?_
        refine va_iald (D := (dC, dI)) hx hb hK hP 4 3 rfl rfl (i := nI (7 * x + i1)) (pk_in (7 * x + i1) 28 (by omega)) d_Ref_taken_58 ?_
        refine tp_i (y := nI (rx (7 * x + i1))) (by rw [show (nI (7 * x + i1) : Int32).toNatClampNeg = 7 * x + i1 from pk_cl (7 * x + i1)]) ?_
        refine lv_iload_n hx hb d_Ref_taken_59 rfl (lv_at hl 3 rfl) ?_
        refine lv_icmp_eq (tgt := 79) hx hb d_Ref_taken_60 (by decide) (fun g1 => ?_) (fun g1 => ?_)
        · skip
          have hg1 : rx (7 * x + i1) = a := (nI_eq (a := rx (7 * x + i1)) (b := a) (by omega) (by omega)).mp g1
          refine tp_pc (pc' := 79) (by rfl) ?_
          refine lv_iload hx hb d_Ref_taken_79 (lv_at hl 1 rfl) ?_
          refine lv_if_ne (tgt := 95) hx hb d_Ref_taken_81 (by decide) (fun c_11 => ?_) (fun c_11 => absurd c_11 (by decide))
          refine tp_pc (pc' := 95) (by rfl) ?_
          refine lv_iconst (v := 1) hx hb d_Ref_taken_95 (by decide) ?_
          refine lv_goto (tgt := 100) hx hb d_Ref_taken_96 (by decide) ?_
          refine tp_pc (pc' := 100) (by rfl) ?_
          refine tp_i (y := (if (tkN rx nu x a (w8 + 1) sn (i1 + 1)).1 = true then 1 else 0)) (by rw [tkN, hb9]; rfl) ?_
          rw [show (tkN rx nu x a (w8 + 1) sn i1).2 = (tkN rx nu x a (w8 + 1) sn (i1 + 1)).2 from by rw [tkN]; exact (if_neg (fun h => h.2 hg1)).symm] at hP
          replace hP : va_P (dC, dI) classes [oc ra 8 [.int (nI T), .int (nI Ac), .ref (rA 2), .ref (rA 3), .ref (rA 4), .ref (rA 5), .ref (rA 6), .ref (rA 7), .ref (rA 8), .ref (rA 9), .ref (rA 10), .ref (rA 11), .ref (rA 12), .ref (rA 13), .int ir, .ref (rA 15), .ref (rA 16), .ref (rA 17), .ref (rA 18), .int (nI md), .int (nI wd), .ref (rA 21), .ref (rA 22), .ref (rA 23), .int (nI mn), .ref (rA 25), .int (nI cb), .int mr, .ref (rA 28), .ref (rA 29), .ref (rA 30), .ref (rA 31), .ref (rA 32), .ref (rA 33), .ref (rA 34), .ref (rA 35), .int (nI ld), .int (nI gm), .ref (rA 38), .ref (rA 39), .ref (rA 40), .ref (rA 41), .ref (rA 42), .ref (rA 43), .ref (rA 44), .ref (rA 45), .int (nI my), .ref (rA 47)], ia (rA 42) (rK9 42) 7 (fun i => nI ((updN rd (nu w8) (rd (nu w8) ||| 2 ^ nu a)) i)), ia (rA 44) (rK9 44) 7 (fun i => nI (((tkN rx nu x a (w8 + 1) sn (i1 + 1)).2) i)), ia (rA 40) (rK9 40) 28 (fun i => nI (nu i)), ia (rA 38) (rK9 38) 28 (fun i => nI (rx i)), ia (rA 39) (rK9 39) 4 (fun i => nI (rs i))] H := hP
          refine lv_istore (lv' := [(4, .int (if (tkN rx nu x a (w8 + 1) sn (i1 + 1)).1 = true then 1 else 0)), (5, .int (nI (7 * x + i1))), (0, .ref ra), (1, .int (nI a)), (2, .int (nI w8)), (3, .int (nI x))]) hx hb d_Ref_taken_100 hl (by decide) rfl ?_
          clear hl ls
          intro ls hl
          refine lv_iinc (v := nI (7 * x + i1 + 1)) (lv' := [(5, .int (nI (7 * x + i1 + 1))), (4, .int (if (tkN rx nu x a (w8 + 1) sn (i1 + 1)).1 = true then 1 else 0)), (0, .ref ra), (1, .int (nI a)), (2, .int (nI w8)), (3, .int (nI x))]) hx hb d_Ref_taken_102 hl (k := 1) rfl (by exact nI_1 (7 * x + i1)) (by decide) rfl ?_
          clear hl ls
          intro ls hl
          refine lv_goto (tgt := 31) hx hb d_Ref_taken_105 (by decide) ?_
          refine tp_pc (pc' := 31) (by rfl) ?_
          obtain ⟨hP8, -, -⟩ := cut3 (wc := [oc ra 8 [.int (nI T), .int (nI Ac), .ref (rA 2), .ref (rA 3), .ref (rA 4), .ref (rA 5), .ref (rA 6), .ref (rA 7), .ref (rA 8), .ref (rA 9), .ref (rA 10), .ref (rA 11), .ref (rA 12), .ref (rA 13), .int ir, .ref (rA 15), .ref (rA 16), .ref (rA 17), .ref (rA 18), .int (nI md), .int (nI wd), .ref (rA 21), .ref (rA 22), .ref (rA 23), .int (nI mn), .ref (rA 25), .int (nI cb), .int mr, .ref (rA 28), .ref (rA 29), .ref (rA 30), .ref (rA 31), .ref (rA 32), .ref (rA 33), .ref (rA 34), .ref (rA 35), .int (nI ld), .int (nI gm), .ref (rA 38), .ref (rA 39), .ref (rA 40), .ref (rA 41), .ref (rA 42), .ref (rA 43), .ref (rA 44), .ref (rA 45), .int (nI my), .ref (rA 47)], ia (rA 42) (rK9 42) 7 (fun i => nI ((updN rd (nu w8) (rd (nu w8) ||| 2 ^ nu a)) i)), ia (rA 44) (rK9 44) 7 (fun i => nI (((tkN rx nu x a (w8 + 1) sn (i1 + 1)).2) i)), ia (rA 40) (rK9 40) 28 (fun i => nI (nu i)), ia (rA 38) (rK9 38) 28 (fun i => nI (rx i)), ia (rA 39) (rK9 39) 4 (fun i => nI (rs i))]) hP hD rfl hS hA [0, 1, 2, 3, 4, 5] (by decide +kernel) rfl
          exact ih_i1 _ _ _ ⟨hP8, hS, lv_sub hl [0, 1, 2, 3, 4, 5] rfl⟩
        · skip
          have hg1 : ¬ (rx (7 * x + i1) = a) := fun q9 => g1 ((nI_eq (a := rx (7 * x + i1)) (b := a) (by omega) (by omega)).mpr q9)
          refine tp_pc (pc' := 63) (by rfl) ?_
          refine lv_aload_n hx hb d_Ref_taken_63 rfl (lv_at hl 2 rfl) ?_
          refine lv_aload_n hx hb d_Ref_taken_64 rfl (lv_at hl 2 rfl) ?_
          refine va_get (D := (dC, dI)) (ci := 8) (v := .ref (rA 44)) (C := R_Ref) (T := F_Ref) (N := 48) hx hb hw i_Ref hown hK hP 0 rfl rfl 44 (by decide) (hw _ m_943) (fun _ h9 => h9) rfl d_Ref_taken_65 ?_
          refine lv_iload_n hx hb d_Ref_taken_68 rfl (lv_at hl 3 rfl) ?_
          refine lv_aload_n hx hb d_Ref_taken_69 rfl (lv_at hl 2 rfl) ?_
          refine va_get (D := (dC, dI)) (ci := 8) (v := .ref (rA 38)) (C := R_Ref) (T := F_Ref) (N := 48) hx hb hw i_Ref hown hK hP 0 rfl rfl 38 (by decide) (hw _ m_937) (fun _ h9 => h9) rfl d_Ref_taken_70 ?_
          refine lv_iload hx hb d_Ref_taken_73 (lv_at hl 0 rfl) ?_
          refine va_iald (D := (dC, dI)) hx hb hK hP 4 3 rfl rfl (i := nI (7 * x + i1)) (pk_in (7 * x + i1) 28 (by omega)) d_Ref_taken_75 ?_
          refine tp_i (y := nI (rx (7 * x + i1))) (by rw [show (nI (7 * x + i1) : Int32).toNatClampNeg = 7 * x + i1 from pk_cl (7 * x + i1)]) ?_
          obtain ⟨hPc, hDc, hFc⟩ := cut3 (wc := [oc ra 8 [.int (nI T), .int (nI Ac), .ref (rA 2), .ref (rA 3), .ref (rA 4), .ref (rA 5), .ref (rA 6), .ref (rA 7), .ref (rA 8), .ref (rA 9), .ref (rA 10), .ref (rA 11), .ref (rA 12), .ref (rA 13), .int ir, .ref (rA 15), .ref (rA 16), .ref (rA 17), .ref (rA 18), .int (nI md), .int (nI wd), .ref (rA 21), .ref (rA 22), .ref (rA 23), .int (nI mn), .ref (rA 25), .int (nI cb), .int mr, .ref (rA 28), .ref (rA 29), .ref (rA 30), .ref (rA 31), .ref (rA 32), .ref (rA 33), .ref (rA 34), .ref (rA 35), .int (nI ld), .int (nI gm), .ref (rA 38), .ref (rA 39), .ref (rA 40), .ref (rA 41), .ref (rA 42), .ref (rA 43), .ref (rA 44), .ref (rA 45), .int (nI my), .ref (rA 47)], ia (rA 44) (rK9 44) 7 (fun i => nI (((tkN rx nu x a (w8 + 1) sn i1).2) i)), ia (rA 40) (rK9 40) 28 (fun i => nI (nu i))]) hP hD rfl hS hA [0, 2, 3] (by decide +kernel) rfl
          have hKc := hK.sub (tys' := [((rK9 44), .int), ((rK9 40), .int)]) [1, 2] rfl
          refine va_callv (va_runV (As := [.ref (rA 44), .int (nI a), .int (nI (rx (7 * x + i1)))]) (rest := []) ⟨hx, hb, hml, hown, hw⟩ (gen_Ref_pair l dC dI ra rA rK9 T Ac md wd mn cb ld gm my ir mr (rA 44) (rK9 44) a (rx (7 * x + i1)) ((tkN rx nu x a (w8 + 1) sn i1).2) nu ha hr1 hna hnr (hs1 _) H.size) (cw_V 3 hw g_Ref_pair rfl rfl rfl (hw _ m_109) (hw _ m_1221) (hw _ m_1223) (hw _ m_86) (by decide +kernel) ⟨Nat.le_of_ble_eq_true rfl, Nat.le_of_ble_eq_true rfl⟩) ⟨fun a U g mk q => by obtain ⟨q0, q1, qP, qK, qD, qN⟩ := q; exact ⟨q0, q1, qP, va_K.moved (u := U) (U := U.calling g mk a) (Vm.Alike.refl U.vm) qK, qD, nw_call qN⟩, va_recv hKc hPc (ci := 8) (q0 := 0) rfl rfl, fun U hU hW => ⟨rfl, by rw [hU], by rw [hU]; exact hPc, va_K.moved hW.alike hKc, hDc.weaken (fun _ _ _ _ => trivial), nw_warm hW hn⟩⟩ rfl rfl hl.1 rfl (lv_room (Nat.le_of_ble_eq_true rfl)) d_Ref_taken_76 ⟨Nat.le_of_ble_eq_true rfl, Nat.le_of_ble_eq_true rfl⟩) hS (fun q _ h => hFc q h) hFc ?_
          intro u t9 H1 locs1 ht9 hvm hw1 hB hz1 hk1 hS1
          obtain ⟨hP1, hK1, hD1⟩ := hB
          rw [ht9] at hP1
          replace hK1 := va_K.moved hvm.symm hK1
          have hPD := join3 hP hD rfl [0, 2, 3] [1, 4, 5] rfl (by rfl) (by decide +kernel) (by decide +kernel) hk1 hFc hP1 hD1
          replace hK : va_K (dC, dI) classes [((rK9 42), .int), ((rK9 44), .int), ((rK9 40), .int), ((rK9 38), .int), ((rK9 39), .int)] s := hK.app hK1
          clear hP1 hK1 hD1 hk1 hz1 hFc hKc hDc hPc hvm ht9 hP hS t9 locs H
          have hP : va_P (dC, dI) classes [ia (rA 42) (rK9 42) 7 (fun i => nI ((updN rd (nu w8) (rd (nu w8) ||| 2 ^ nu a)) i)), ia (rA 38) (rK9 38) 28 (fun i => nI (rx i)), ia (rA 39) (rK9 39) 4 (fun i => nI (rs i)), oc ra 8 [.int (nI T), .int (nI Ac), .ref (rA 2), .ref (rA 3), .ref (rA 4), .ref (rA 5), .ref (rA 6), .ref (rA 7), .ref (rA 8), .ref (rA 9), .ref (rA 10), .ref (rA 11), .ref (rA 12), .ref (rA 13), .int ir, .ref (rA 15), .ref (rA 16), .ref (rA 17), .ref (rA 18), .int (nI md), .int (nI wd), .ref (rA 21), .ref (rA 22), .ref (rA 23), .int (nI mn), .ref (rA 25), .int (nI cb), .int mr, .ref (rA 28), .ref (rA 29), .ref (rA 30), .ref (rA 31), .ref (rA 32), .ref (rA 33), .ref (rA 34), .ref (rA 35), .int (nI ld), .int (nI gm), .ref (rA 38), .ref (rA 39), .ref (rA 40), .ref (rA 41), .ref (rA 42), .ref (rA 43), .ref (rA 44), .ref (rA 45), .int (nI my), .ref (rA 47)], ia (rA 44) (rK9 44) 7 (fun i => nI ((updN (tkN rx nu x a (w8 + 1) sn i1).2 (nu a) ((tkN rx nu x a (w8 + 1) sn i1).2 (nu a) ||| 2 ^ nu (rx (7 * x + i1)))) i)), ia (rA 40) (rK9 40) 28 (fun i => nI (nu i))] H1 := hPD.1
          replace hD : dd A [(rA 42), (rA 38), (rA 39), ra, (rA 44), (rA 40)] := dd_of hPD.2 rfl
          clear hPD
          revert H1 locs1
          intro H locs hS hP
          clear hw1 u
          refine tp_pc (pc' := 79) (by rfl) ?_
          refine lv_iload hx hb d_Ref_taken_79 (lv_at hl 1 rfl) ?_
          refine lv_if_ne (tgt := 95) hx hb d_Ref_taken_81 (by decide) (fun c_13 => ?_) (fun c_13 => absurd c_13 (by decide))
          refine tp_pc (pc' := 95) (by rfl) ?_
          refine lv_iconst (v := 1) hx hb d_Ref_taken_95 (by decide) ?_
          refine lv_goto (tgt := 100) hx hb d_Ref_taken_96 (by decide) ?_
          refine tp_pc (pc' := 100) (by rfl) ?_
          refine tp_i (y := (if (tkN rx nu x a (w8 + 1) sn (i1 + 1)).1 = true then 1 else 0)) (by rw [tkN, hb9]; rfl) ?_
          rw [show updN (tkN rx nu x a (w8 + 1) sn i1).2 (nu a) ((tkN rx nu x a (w8 + 1) sn i1).2 (nu a) ||| 2 ^ nu (rx (7 * x + i1))) = (tkN rx nu x a (w8 + 1) sn (i1 + 1)).2 from by rw [tkN]; exact (if_pos ⟨hb9, hg1⟩).symm] at hP
          replace hP : va_P (dC, dI) classes [ia (rA 42) (rK9 42) 7 (fun i => nI ((updN rd (nu w8) (rd (nu w8) ||| 2 ^ nu a)) i)), ia (rA 38) (rK9 38) 28 (fun i => nI (rx i)), ia (rA 39) (rK9 39) 4 (fun i => nI (rs i)), oc ra 8 [.int (nI T), .int (nI Ac), .ref (rA 2), .ref (rA 3), .ref (rA 4), .ref (rA 5), .ref (rA 6), .ref (rA 7), .ref (rA 8), .ref (rA 9), .ref (rA 10), .ref (rA 11), .ref (rA 12), .ref (rA 13), .int ir, .ref (rA 15), .ref (rA 16), .ref (rA 17), .ref (rA 18), .int (nI md), .int (nI wd), .ref (rA 21), .ref (rA 22), .ref (rA 23), .int (nI mn), .ref (rA 25), .int (nI cb), .int mr, .ref (rA 28), .ref (rA 29), .ref (rA 30), .ref (rA 31), .ref (rA 32), .ref (rA 33), .ref (rA 34), .ref (rA 35), .int (nI ld), .int (nI gm), .ref (rA 38), .ref (rA 39), .ref (rA 40), .ref (rA 41), .ref (rA 42), .ref (rA 43), .ref (rA 44), .ref (rA 45), .int (nI my), .ref (rA 47)], ia (rA 44) (rK9 44) 7 (fun i => nI (((tkN rx nu x a (w8 + 1) sn (i1 + 1)).2) i)), ia (rA 40) (rK9 40) 28 (fun i => nI (nu i))] H := hP
          refine lv_istore (lv' := [(4, .int (if (tkN rx nu x a (w8 + 1) sn (i1 + 1)).1 = true then 1 else 0)), (5, .int (nI (7 * x + i1))), (0, .ref ra), (1, .int (nI a)), (2, .int (nI w8)), (3, .int (nI x))]) hx hb d_Ref_taken_100 hl (by decide) rfl ?_
          clear hl ls
          intro ls hl
          refine lv_iinc (v := nI (7 * x + i1 + 1)) (lv' := [(5, .int (nI (7 * x + i1 + 1))), (4, .int (if (tkN rx nu x a (w8 + 1) sn (i1 + 1)).1 = true then 1 else 0)), (0, .ref ra), (1, .int (nI a)), (2, .int (nI w8)), (3, .int (nI x))]) hx hb d_Ref_taken_102 hl (k := 1) rfl (by exact nI_1 (7 * x + i1)) (by decide) rfl ?_
          clear hl ls
          intro ls hl
          refine lv_goto (tgt := 31) hx hb d_Ref_taken_105 (by decide) ?_
          refine tp_pc (pc' := 31) (by rfl) ?_
          obtain ⟨hP8, -, -⟩ := cut3 (wc := [oc ra 8 [.int (nI T), .int (nI Ac), .ref (rA 2), .ref (rA 3), .ref (rA 4), .ref (rA 5), .ref (rA 6), .ref (rA 7), .ref (rA 8), .ref (rA 9), .ref (rA 10), .ref (rA 11), .ref (rA 12), .ref (rA 13), .int ir, .ref (rA 15), .ref (rA 16), .ref (rA 17), .ref (rA 18), .int (nI md), .int (nI wd), .ref (rA 21), .ref (rA 22), .ref (rA 23), .int (nI mn), .ref (rA 25), .int (nI cb), .int mr, .ref (rA 28), .ref (rA 29), .ref (rA 30), .ref (rA 31), .ref (rA 32), .ref (rA 33), .ref (rA 34), .ref (rA 35), .int (nI ld), .int (nI gm), .ref (rA 38), .ref (rA 39), .ref (rA 40), .ref (rA 41), .ref (rA 42), .ref (rA 43), .ref (rA 44), .ref (rA 45), .int (nI my), .ref (rA 47)], ia (rA 42) (rK9 42) 7 (fun i => nI ((updN rd (nu w8) (rd (nu w8) ||| 2 ^ nu a)) i)), ia (rA 44) (rK9 44) 7 (fun i => nI (((tkN rx nu x a (w8 + 1) sn (i1 + 1)).2) i)), ia (rA 40) (rK9 40) 28 (fun i => nI (nu i)), ia (rA 38) (rK9 38) 28 (fun i => nI (rx i)), ia (rA 39) (rK9 39) 4 (fun i => nI (rs i))]) hP hD rfl hS hA [3, 0, 4, 5, 1, 2] (by decide +kernel) rfl
          exact ih_i1 _ _ _ ⟨hP8, hS, lv_sub hl [0, 1, 2, 3, 4, 5] rfl⟩
      | false =>
        rw [if_neg (by decide : ¬ (false = true))]
        rw [hb9] at hl
        replace hl : lv_has ls 6 [(5, .int (nI (7 * x + i1))), (4, .int 0), (0, .ref ra), (1, .int (nI a)), (2, .int (nI w8)), (3, .int (nI x))] := hl
        refine lv_if_eq (tgt := 79) hx hb d_Ref_taken_49 (by decide) (fun c_14 => ?_) (fun c_14 => absurd c_14 (by decide))
        refine tp_pc (pc' := 79) (by rfl) ?_
        refine lv_iload hx hb d_Ref_taken_79 (lv_at hl 1 rfl) ?_
        refine lv_if_ne (tgt := 95) hx hb d_Ref_taken_81 (by decide) (fun c_15 => absurd c_15 (by decide)) (fun c_15 => ?_)
        refine tp_pc (pc' := 84) (by rfl) ?_
        refine lv_aload_n hx hb d_Ref_taken_84 rfl (lv_at hl 2 rfl) ?_
        refine va_get (D := (dC, dI)) (ci := 8) (v := .ref (rA 38)) (C := R_Ref) (T := F_Ref) (N := 48) hx hb hw i_Ref hown hK hP 0 rfl rfl 38 (by decide) (hw _ m_937) (fun _ h9 => h9) rfl d_Ref_taken_85 ?_
        refine lv_iload hx hb d_Ref_taken_88 (lv_at hl 0 rfl) ?_
        refine va_iald (D := (dC, dI)) hx hb hK hP 4 3 rfl rfl (i := nI (7 * x + i1)) (pk_in (7 * x + i1) 28 (by omega)) d_Ref_taken_90 ?_
        refine tp_i (y := nI (rx (7 * x + i1))) (by rw [show (nI (7 * x + i1) : Int32).toNatClampNeg = 7 * x + i1 from pk_cl (7 * x + i1)]) ?_
        refine lv_iload_n hx hb d_Ref_taken_91 rfl (lv_at hl 4 rfl) ?_
        refine lv_icmp_ne (tgt := 99) hx hb d_Ref_taken_92 (by decide) (fun f1 => ?_) (fun f1 => ?_)
        · skip
          have hf1 : ¬ (rx (7 * x + i1) = w8) := fun q9 => f1 ((nI_eq (a := rx (7 * x + i1)) (b := w8) (by omega) (by omega)).mpr q9)
          refine tp_pc (pc' := 99) (by rfl) ?_
          refine lv_iconst (v := 0) hx hb d_Ref_taken_99 (by decide) ?_
          refine tp_i (y := (if (tkN rx nu x a (w8 + 1) sn (i1 + 1)).1 = true then 1 else 0)) (by rw [tkN, hb9]; rw [show (rx (7 * x + i1) + 1 == w8 + 1) = false from by rw [beq_eq_false_iff_ne]; omega]; rfl) ?_
          rw [show (tkN rx nu x a (w8 + 1) sn i1).2 = (tkN rx nu x a (w8 + 1) sn (i1 + 1)).2 from by rw [tkN]; exact (if_neg (fun h => absurd (hb9.symm.trans h.1) (by decide))).symm] at hP
          replace hP : va_P (dC, dI) classes [oc ra 8 [.int (nI T), .int (nI Ac), .ref (rA 2), .ref (rA 3), .ref (rA 4), .ref (rA 5), .ref (rA 6), .ref (rA 7), .ref (rA 8), .ref (rA 9), .ref (rA 10), .ref (rA 11), .ref (rA 12), .ref (rA 13), .int ir, .ref (rA 15), .ref (rA 16), .ref (rA 17), .ref (rA 18), .int (nI md), .int (nI wd), .ref (rA 21), .ref (rA 22), .ref (rA 23), .int (nI mn), .ref (rA 25), .int (nI cb), .int mr, .ref (rA 28), .ref (rA 29), .ref (rA 30), .ref (rA 31), .ref (rA 32), .ref (rA 33), .ref (rA 34), .ref (rA 35), .int (nI ld), .int (nI gm), .ref (rA 38), .ref (rA 39), .ref (rA 40), .ref (rA 41), .ref (rA 42), .ref (rA 43), .ref (rA 44), .ref (rA 45), .int (nI my), .ref (rA 47)], ia (rA 42) (rK9 42) 7 (fun i => nI ((updN rd (nu w8) (rd (nu w8) ||| 2 ^ nu a)) i)), ia (rA 44) (rK9 44) 7 (fun i => nI (((tkN rx nu x a (w8 + 1) sn (i1 + 1)).2) i)), ia (rA 40) (rK9 40) 28 (fun i => nI (nu i)), ia (rA 38) (rK9 38) 28 (fun i => nI (rx i)), ia (rA 39) (rK9 39) 4 (fun i => nI (rs i))] H := hP
          refine lv_istore (lv' := [(4, .int (if (tkN rx nu x a (w8 + 1) sn (i1 + 1)).1 = true then 1 else 0)), (5, .int (nI (7 * x + i1))), (0, .ref ra), (1, .int (nI a)), (2, .int (nI w8)), (3, .int (nI x))]) hx hb d_Ref_taken_100 hl (by decide) rfl ?_
          clear hl ls
          intro ls hl
          refine lv_iinc (v := nI (7 * x + i1 + 1)) (lv' := [(5, .int (nI (7 * x + i1 + 1))), (4, .int (if (tkN rx nu x a (w8 + 1) sn (i1 + 1)).1 = true then 1 else 0)), (0, .ref ra), (1, .int (nI a)), (2, .int (nI w8)), (3, .int (nI x))]) hx hb d_Ref_taken_102 hl (k := 1) rfl (by exact nI_1 (7 * x + i1)) (by decide) rfl ?_
          clear hl ls
          intro ls hl
          refine lv_goto (tgt := 31) hx hb d_Ref_taken_105 (by decide) ?_
          refine tp_pc (pc' := 31) (by rfl) ?_
          obtain ⟨hP8, -, -⟩ := cut3 (wc := [oc ra 8 [.int (nI T), .int (nI Ac), .ref (rA 2), .ref (rA 3), .ref (rA 4), .ref (rA 5), .ref (rA 6), .ref (rA 7), .ref (rA 8), .ref (rA 9), .ref (rA 10), .ref (rA 11), .ref (rA 12), .ref (rA 13), .int ir, .ref (rA 15), .ref (rA 16), .ref (rA 17), .ref (rA 18), .int (nI md), .int (nI wd), .ref (rA 21), .ref (rA 22), .ref (rA 23), .int (nI mn), .ref (rA 25), .int (nI cb), .int mr, .ref (rA 28), .ref (rA 29), .ref (rA 30), .ref (rA 31), .ref (rA 32), .ref (rA 33), .ref (rA 34), .ref (rA 35), .int (nI ld), .int (nI gm), .ref (rA 38), .ref (rA 39), .ref (rA 40), .ref (rA 41), .ref (rA 42), .ref (rA 43), .ref (rA 44), .ref (rA 45), .int (nI my), .ref (rA 47)], ia (rA 42) (rK9 42) 7 (fun i => nI ((updN rd (nu w8) (rd (nu w8) ||| 2 ^ nu a)) i)), ia (rA 44) (rK9 44) 7 (fun i => nI (((tkN rx nu x a (w8 + 1) sn (i1 + 1)).2) i)), ia (rA 40) (rK9 40) 28 (fun i => nI (nu i)), ia (rA 38) (rK9 38) 28 (fun i => nI (rx i)), ia (rA 39) (rK9 39) 4 (fun i => nI (rs i))]) hP hD rfl hS hA [0, 1, 2, 3, 4, 5] (by decide +kernel) rfl
          exact ih_i1 _ _ _ ⟨hP8, hS, lv_sub hl [0, 1, 2, 3, 4, 5] rfl⟩
        · skip
          have hf1 : rx (7 * x + i1) = w8 := (nI_eq (a := rx (7 * x + i1)) (b := w8) (by omega) (by omega)).mp f1
          refine tp_pc (pc' := 95) (by rfl) ?_
          refine lv_iconst (v := 1) hx hb d_Ref_taken_95 (by decide) ?_
          refine lv_goto (tgt := 100) hx hb d_Ref_taken_96 (by decide) ?_
          refine tp_pc (pc' := 100) (by rfl) ?_
          refine tp_i (y := (if (tkN rx nu x a (w8 + 1) sn (i1 + 1)).1 = true then 1 else 0)) (by rw [tkN, hb9]; rw [show (rx (7 * x + i1) + 1 == w8 + 1) = true from by rw [beq_iff_eq]; omega]; rfl) ?_
          rw [show (tkN rx nu x a (w8 + 1) sn i1).2 = (tkN rx nu x a (w8 + 1) sn (i1 + 1)).2 from by rw [tkN]; exact (if_neg (fun h => absurd (hb9.symm.trans h.1) (by decide))).symm] at hP
          replace hP : va_P (dC, dI) classes [oc ra 8 [.int (nI T), .int (nI Ac), .ref (rA 2), .ref (rA 3), .ref (rA 4), .ref (rA 5), .ref (rA 6), .ref (rA 7), .ref (rA 8), .ref (rA 9), .ref (rA 10), .ref (rA 11), .ref (rA 12), .ref (rA 13), .int ir, .ref (rA 15), .ref (rA 16), .ref (rA 17), .ref (rA 18), .int (nI md), .int (nI wd), .ref (rA 21), .ref (rA 22), .ref (rA 23), .int (nI mn), .ref (rA 25), .int (nI cb), .int mr, .ref (rA 28), .ref (rA 29), .ref (rA 30), .ref (rA 31), .ref (rA 32), .ref (rA 33), .ref (rA 34), .ref (rA 35), .int (nI ld), .int (nI gm), .ref (rA 38), .ref (rA 39), .ref (rA 40), .ref (rA 41), .ref (rA 42), .ref (rA 43), .ref (rA 44), .ref (rA 45), .int (nI my), .ref (rA 47)], ia (rA 42) (rK9 42) 7 (fun i => nI ((updN rd (nu w8) (rd (nu w8) ||| 2 ^ nu a)) i)), ia (rA 44) (rK9 44) 7 (fun i => nI (((tkN rx nu x a (w8 + 1) sn (i1 + 1)).2) i)), ia (rA 40) (rK9 40) 28 (fun i => nI (nu i)), ia (rA 38) (rK9 38) 28 (fun i => nI (rx i)), ia (rA 39) (rK9 39) 4 (fun i => nI (rs i))] H := hP
          refine lv_istore (lv' := [(4, .int (if (tkN rx nu x a (w8 + 1) sn (i1 + 1)).1 = true then 1 else 0)), (5, .int (nI (7 * x + i1))), (0, .ref ra), (1, .int (nI a)), (2, .int (nI w8)), (3, .int (nI x))]) hx hb d_Ref_taken_100 hl (by decide) rfl ?_
          clear hl ls
          intro ls hl
          refine lv_iinc (v := nI (7 * x + i1 + 1)) (lv' := [(5, .int (nI (7 * x + i1 + 1))), (4, .int (if (tkN rx nu x a (w8 + 1) sn (i1 + 1)).1 = true then 1 else 0)), (0, .ref ra), (1, .int (nI a)), (2, .int (nI w8)), (3, .int (nI x))]) hx hb d_Ref_taken_102 hl (k := 1) rfl (by exact nI_1 (7 * x + i1)) (by decide) rfl ?_
          clear hl ls
          intro ls hl
          refine lv_goto (tgt := 31) hx hb d_Ref_taken_105 (by decide) ?_
          refine tp_pc (pc' := 31) (by rfl) ?_
          obtain ⟨hP8, -, -⟩ := cut3 (wc := [oc ra 8 [.int (nI T), .int (nI Ac), .ref (rA 2), .ref (rA 3), .ref (rA 4), .ref (rA 5), .ref (rA 6), .ref (rA 7), .ref (rA 8), .ref (rA 9), .ref (rA 10), .ref (rA 11), .ref (rA 12), .ref (rA 13), .int ir, .ref (rA 15), .ref (rA 16), .ref (rA 17), .ref (rA 18), .int (nI md), .int (nI wd), .ref (rA 21), .ref (rA 22), .ref (rA 23), .int (nI mn), .ref (rA 25), .int (nI cb), .int mr, .ref (rA 28), .ref (rA 29), .ref (rA 30), .ref (rA 31), .ref (rA 32), .ref (rA 33), .ref (rA 34), .ref (rA 35), .int (nI ld), .int (nI gm), .ref (rA 38), .ref (rA 39), .ref (rA 40), .ref (rA 41), .ref (rA 42), .ref (rA 43), .ref (rA 44), .ref (rA 45), .int (nI my), .ref (rA 47)], ia (rA 42) (rK9 42) 7 (fun i => nI ((updN rd (nu w8) (rd (nu w8) ||| 2 ^ nu a)) i)), ia (rA 44) (rK9 44) 7 (fun i => nI (((tkN rx nu x a (w8 + 1) sn (i1 + 1)).2) i)), ia (rA 40) (rK9 40) 28 (fun i => nI (nu i)), ia (rA 38) (rK9 38) 28 (fun i => nI (rx i)), ia (rA 39) (rK9 39) 4 (fun i => nI (rs i))]) hP hD rfl hS hA [0, 1, 2, 3, 4, 5] (by decide +kernel) rfl
          exact ih_i1 _ _ _ ⟨hP8, hS, lv_sub hl [0, 1, 2, 3, 4, 5] rfl⟩
    · intro H locs ls hI
      obtain ⟨hP, hS, hl⟩ := hI
      refine lv_iload hx hb d_Ref_taken_31 (lv_at hl 0 rfl) ?_
      refine lv_bipush (v := 7) hx hb d_Ref_taken_33 (by decide) ?_
      refine lv_iload_n hx hb d_Ref_taken_35 rfl (lv_at hl 5 rfl) ?_
      refine lv_imul hx hb d_Ref_taken_36 ?_
      refine tp_i (y := nI (7 * x)) (by exact pk_mul 7 x) ?_
      refine lv_aload_n hx hb d_Ref_taken_37 rfl (lv_at hl 2 rfl) ?_
      refine va_get (D := (dC, dI)) (ci := 8) (v := .ref (rA 39)) (C := R_Ref) (T := F_Ref) (N := 48) hx hb hw i_Ref hown hK hP 0 rfl rfl 39 (by decide) (hw _ m_938) (fun _ h9 => h9) rfl d_Ref_taken_38 ?_
      refine lv_iload_n hx hb d_Ref_taken_41 rfl (lv_at hl 5 rfl) ?_
      refine va_iald (D := (dC, dI)) hx hb hK hP 5 4 rfl rfl (i := nI x) (pk_in x 4 (by omega)) d_Ref_taken_42 ?_
      refine tp_i (y := nI (rs x)) (by rw [show (nI x : Int32).toNatClampNeg = x from pk_cl x]) ?_
      refine lv_iadd hx hb d_Ref_taken_43 ?_
      refine tp_i (y := nI (7 * x + (rs x))) (by exact nI_add (7 * x) (rs x)) ?_
      refine lv_icmp_ge (tgt := 108) hx hb d_Ref_taken_44 (by decide) (fun c9 => ?_) (fun c9 => absurd (nI_le (Nat.le_refl _) (by omega)) c9)
      rw [← er] at hP
      replace hP : va_P (dC, dI) classes [oc ra 8 [.int (nI T), .int (nI Ac), .ref (rA 2), .ref (rA 3), .ref (rA 4), .ref (rA 5), .ref (rA 6), .ref (rA 7), .ref (rA 8), .ref (rA 9), .ref (rA 10), .ref (rA 11), .ref (rA 12), .ref (rA 13), .int ir, .ref (rA 15), .ref (rA 16), .ref (rA 17), .ref (rA 18), .int (nI md), .int (nI wd), .ref (rA 21), .ref (rA 22), .ref (rA 23), .int (nI mn), .ref (rA 25), .int (nI cb), .int mr, .ref (rA 28), .ref (rA 29), .ref (rA 30), .ref (rA 31), .ref (rA 32), .ref (rA 33), .ref (rA 34), .ref (rA 35), .int (nI ld), .int (nI gm), .ref (rA 38), .ref (rA 39), .ref (rA 40), .ref (rA 41), .ref (rA 42), .ref (rA 43), .ref (rA 44), .ref (rA 45), .int (nI my), .ref (rA 47)], ia (rA 42) (rK9 42) 7 (fun i => nI ((if (w8 + 1) = 0 then rd else updN rd (nu ((w8 + 1) - 1)) (rd (nu ((w8 + 1) - 1)) ||| 2 ^ nu a)) i)), ia (rA 44) (rK9 44) 7 (fun i => nI (((tkN rx nu x a (w8 + 1) sn (rs x)).2) i)), ia (rA 40) (rK9 40) 28 (fun i => nI (nu i)), ia (rA 38) (rK9 38) 28 (fun i => nI (rx i)), ia (rA 39) (rK9 39) 4 (fun i => nI (rs i))] H := hP
      refine tp_pc (pc' := 108) (by rfl) ?_
      obtain ⟨hP9, hD9, -⟩ := cut3 (wc := [oc ra 8 [.int (nI T), .int (nI Ac), .ref (rA 2), .ref (rA 3), .ref (rA 4), .ref (rA 5), .ref (rA 6), .ref (rA 7), .ref (rA 8), .ref (rA 9), .ref (rA 10), .ref (rA 11), .ref (rA 12), .ref (rA 13), .int ir, .ref (rA 15), .ref (rA 16), .ref (rA 17), .ref (rA 18), .int (nI md), .int (nI wd), .ref (rA 21), .ref (rA 22), .ref (rA 23), .int (nI mn), .ref (rA 25), .int (nI cb), .int mr, .ref (rA 28), .ref (rA 29), .ref (rA 30), .ref (rA 31), .ref (rA 32), .ref (rA 33), .ref (rA 34), .ref (rA 35), .int (nI ld), .int (nI gm), .ref (rA 38), .ref (rA 39), .ref (rA 40), .ref (rA 41), .ref (rA 42), .ref (rA 43), .ref (rA 44), .ref (rA 45), .int (nI my), .ref (rA 47)], ia (rA 42) (rK9 42) 7 (fun i => nI ((if (w8 + 1) = 0 then rd else updN rd (nu ((w8 + 1) - 1)) (rd (nu ((w8 + 1) - 1)) ||| 2 ^ nu a)) i)), ia (rA 44) (rK9 44) 7 (fun i => nI (((tkN rx nu x a (w8 + 1) sn (rs x)).2) i)), ia (rA 40) (rK9 40) 28 (fun i => nI (nu i)), ia (rA 38) (rK9 38) 28 (fun i => nI (rx i)), ia (rA 39) (rK9 39) 4 (fun i => nI (rs i))]) hP hD rfl hS hA [0, 1, 2, 3, 4, 5] (by decide +kernel) rfl
      have hK9 := hK.sub (tys' := []) [] rfl
      refine W.widen (k := 0) (n := 0) (by exact Nat.le_of_ble_eq_true rfl) (by exact Nat.le_of_ble_eq_true rfl) ?_
      exact W.vret hx hb hr (fun t9 ht9 hW => ⟨⟨(), rfl, trivial, by rw [ht9]; exact hP9, va_K.moved hW.alike hK9, hD9⟩, hS.F ht9⟩) hS.2.2 d_Ref_taken_108
