/-- an action is before itself -/
def slf (f : Nat → Nat) (i : Nat) : Bool := f i / 2 ^ i % 2 == 1
set_option maxHeartbeats 4000000 in
set_option maxRecDepth 100000 in
theorem gen_Ref_hasRing (l : Launch) (dC : Nat → ClassId) (dI : Nat → Nat → Nat) (ra : Nat) (rA : Nat → Nat) (rK9 : Nat → ClassId) (T Ac md wd mn cb ld gm my : Nat) (ir mr : Int32) (mk : Nat → Nat) (hmy : my ≤ 7) (hmk : ∀ i, mk i < 128) (sz : Nat) : Met l y_Ref_hasRing w_Ref_hasRing ({ frames := 0, cells := 0, slots := 0, locals := 0 }) (va_Pc [.ref ra] (fun U => U.heap.size = sz ∧ va_P (dC, dI) classes [oc ra 8 [.int (nI T), .int (nI Ac), .ref (rA 2), .ref (rA 3), .ref (rA 4), .ref (rA 5), .ref (rA 6), .ref (rA 7), .ref (rA 8), .ref (rA 9), .ref (rA 10), .ref (rA 11), .ref (rA 12), .ref (rA 13), .int ir, .ref (rA 15), .ref (rA 16), .ref (rA 17), .ref (rA 18), .int (nI md), .int (nI wd), .ref (rA 21), .ref (rA 22), .ref (rA 23), .int (nI mn), .ref (rA 25), .int (nI cb), .int mr, .ref (rA 28), .ref (rA 29), .ref (rA 30), .ref (rA 31), .ref (rA 32), .ref (rA 33), .ref (rA 34), .ref (rA 35), .int (nI ld), .int (nI gm), .ref (rA 38), .ref (rA 39), .ref (rA 40), .ref (rA 41), .ref (rA 42), .ref (rA 43), .ref (rA 44), .ref (rA 45), .int (nI my), .ref (rA 47)], ia (rA 45) (rK9 45) 7 (fun i => nI (mk i))] U.heap ∧ va_K (dC, dI) classes [((rK9 45), .int)] U ∧ va_D (fun _ => True) [oc ra 8 [.int (nI T), .int (nI Ac), .ref (rA 2), .ref (rA 3), .ref (rA 4), .ref (rA 5), .ref (rA 6), .ref (rA 7), .ref (rA 8), .ref (rA 9), .ref (rA 10), .ref (rA 11), .ref (rA 12), .ref (rA 13), .int ir, .ref (rA 15), .ref (rA 16), .ref (rA 17), .ref (rA 18), .int (nI md), .int (nI wd), .ref (rA 21), .ref (rA 22), .ref (rA 23), .int (nI mn), .ref (rA 25), .int (nI cb), .int mr, .ref (rA 28), .ref (rA 29), .ref (rA 30), .ref (rA 31), .ref (rA 32), .ref (rA 33), .ref (rA 34), .ref (rA 35), .int (nI ld), .int (nI gm), .ref (rA 38), .ref (rA 39), .ref (rA 40), .ref (rA 41), .ref (rA 42), .ref (rA 43), .ref (rA 44), .ref (rA 45), .int (nI my), .ref (rA 47)], ia (rA 45) (rK9 45) 7 (fun i => nI (mk i))] ∧ nw U)) (va_Qi (fun (r : Int32) (_ : Unit) => r = if fF (slf (coN my mk my)) my 0 = 0 then 0 else 1) (fun _ t9 => va_P (dC, dI) classes [oc ra 8 [.int (nI T), .int (nI Ac), .ref (rA 2), .ref (rA 3), .ref (rA 4), .ref (rA 5), .ref (rA 6), .ref (rA 7), .ref (rA 8), .ref (rA 9), .ref (rA 10), .ref (rA 11), .ref (rA 12), .ref (rA 13), .int ir, .ref (rA 15), .ref (rA 16), .ref (rA 17), .ref (rA 18), .int (nI md), .int (nI wd), .ref (rA 21), .ref (rA 22), .ref (rA 23), .int (nI mn), .ref (rA 25), .int (nI cb), .int mr, .ref (rA 28), .ref (rA 29), .ref (rA 30), .ref (rA 31), .ref (rA 32), .ref (rA 33), .ref (rA 34), .ref (rA 35), .int (nI ld), .int (nI gm), .ref (rA 38), .ref (rA 39), .ref (rA 40), .ref (rA 41), .ref (rA 42), .ref (rA 43), .ref (rA 44), .ref (rA 45), .int (nI my), .ref (rA 47)], ia (rA 45) (rK9 45) 7 (fun i => nI ((coN my mk my) i))] t9.heap ∧ va_K (dC, dI) classes [] t9 ∧ va_D (va_A [oc ra 8 [.int (nI T), .int (nI Ac), .ref (rA 2), .ref (rA 3), .ref (rA 4), .ref (rA 5), .ref (rA 6), .ref (rA 7), .ref (rA 8), .ref (rA 9), .ref (rA 10), .ref (rA 11), .ref (rA 12), .ref (rA 13), .int ir, .ref (rA 15), .ref (rA 16), .ref (rA 17), .ref (rA 18), .int (nI md), .int (nI wd), .ref (rA 21), .ref (rA 22), .ref (rA 23), .int (nI mn), .ref (rA 25), .int (nI cb), .int mr, .ref (rA 28), .ref (rA 29), .ref (rA 30), .ref (rA 31), .ref (rA 32), .ref (rA 33), .ref (rA 34), .ref (rA 35), .int (nI ld), .int (nI gm), .ref (rA 38), .ref (rA 39), .ref (rA 40), .ref (rA 41), .ref (rA 42), .ref (rA 43), .ref (rA 44), .ref (rA 45), .int (nI my), .ref (rA 47)], ia (rA 45) (rK9 45) 7 (fun i => nI (mk i))] sz) [oc ra 8 [.int (nI T), .int (nI Ac), .ref (rA 2), .ref (rA 3), .ref (rA 4), .ref (rA 5), .ref (rA 6), .ref (rA 7), .ref (rA 8), .ref (rA 9), .ref (rA 10), .ref (rA 11), .ref (rA 12), .ref (rA 13), .int ir, .ref (rA 15), .ref (rA 16), .ref (rA 17), .ref (rA 18), .int (nI md), .int (nI wd), .ref (rA 21), .ref (rA 22), .ref (rA 23), .int (nI mn), .ref (rA 25), .int (nI cb), .int mr, .ref (rA 28), .ref (rA 29), .ref (rA 30), .ref (rA 31), .ref (rA 32), .ref (rA 33), .ref (rA 34), .ref (rA 35), .int (nI ld), .int (nI gm), .ref (rA 38), .ref (rA 39), .ref (rA 40), .ref (rA 41), .ref (rA 42), .ref (rA 43), .ref (rA 44), .ref (rA 45), .int (nI my), .ref (rA 47)], ia (rA 45) (rK9 45) 7 (fun i => nI ((coN my mk my) i))]) (va_A [oc ra 8 [.int (nI T), .int (nI Ac), .ref (rA 2), .ref (rA 3), .ref (rA 4), .ref (rA 5), .ref (rA 6), .ref (rA 7), .ref (rA 8), .ref (rA 9), .ref (rA 10), .ref (rA 11), .ref (rA 12), .ref (rA 13), .int ir, .ref (rA 15), .ref (rA 16), .ref (rA 17), .ref (rA 18), .int (nI md), .int (nI wd), .ref (rA 21), .ref (rA 22), .ref (rA 23), .int (nI mn), .ref (rA 25), .int (nI cb), .int mr, .ref (rA 28), .ref (rA 29), .ref (rA 30), .ref (rA 31), .ref (rA 32), .ref (rA 33), .ref (rA 34), .ref (rA 35), .int (nI ld), .int (nI gm), .ref (rA 38), .ref (rA 39), .ref (rA 40), .ref (rA 41), .ref (rA 42), .ref (rA 43), .ref (rA 44), .ref (rA 45), .int (nI my), .ref (rA 47)], ia (rA 45) (rK9 45) 7 (fun i => nI (mk i))] sz)) 0 0 (va_A [oc ra 8 [.int (nI T), .int (nI Ac), .ref (rA 2), .ref (rA 3), .ref (rA 4), .ref (rA 5), .ref (rA 6), .ref (rA 7), .ref (rA 8), .ref (rA 9), .ref (rA 10), .ref (rA 11), .ref (rA 12), .ref (rA 13), .int ir, .ref (rA 15), .ref (rA 16), .ref (rA 17), .ref (rA 18), .int (nI md), .int (nI wd), .ref (rA 21), .ref (rA 22), .ref (rA 23), .int (nI mn), .ref (rA 25), .int (nI cb), .int mr, .ref (rA 28), .ref (rA 29), .ref (rA 30), .ref (rA 31), .ref (rA 32), .ref (rA 33), .ref (rA 34), .ref (rA 35), .int (nI ld), .int (nI gm), .ref (rA 38), .ref (rA 39), .ref (rA 40), .ref (rA 41), .ref (rA 42), .ref (rA 43), .ref (rA 44), .ref (rA 45), .int (nI my), .ref (rA 47)], ia (rA 45) (rK9 45) 7 (fun i => nI (mk i))] sz) := by
  refine Met.ofW (cc := b_Ref_hasRing) (maxL := 3) (ret := (some .boolean)) (by decide) rfl ?_
  intro p e0 s m args below meth c s₁ B hml hv
  obtain ⟨rfl, hsz, hP, hK, hD0, hn⟩ := hv
  have hx := B.exec
  have hb := B.bytes
  have hr := B.returns
  have hw := fun w (h : w ∈ wt) => atoms_spec (ws := w_Ref_hasRing) B.pre w (List.mem_cons_of_mem _ h)
  have hown : s.vm.findClass R_Ref = some m.cls := findClass_of_methodNamed B.named
  have hlocks := B.notSynchronized
  subst hsz
  have hD1 := hD0.self (sz := s.heap.size)
  generalize hAe : va_A [oc ra 8 [.int (nI T), .int (nI Ac), .ref (rA 2), .ref (rA 3), .ref (rA 4), .ref (rA 5), .ref (rA 6), .ref (rA 7), .ref (rA 8), .ref (rA 9), .ref (rA 10), .ref (rA 11), .ref (rA 12), .ref (rA 13), .int ir, .ref (rA 15), .ref (rA 16), .ref (rA 17), .ref (rA 18), .int (nI md), .int (nI wd), .ref (rA 21), .ref (rA 22), .ref (rA 23), .int (nI mn), .ref (rA 25), .int (nI cb), .int mr, .ref (rA 28), .ref (rA 29), .ref (rA 30), .ref (rA 31), .ref (rA 32), .ref (rA 33), .ref (rA 34), .ref (rA 35), .int (nI ld), .int (nI gm), .ref (rA 38), .ref (rA 39), .ref (rA 40), .ref (rA 41), .ref (rA 42), .ref (rA 43), .ref (rA 44), .ref (rA 45), .int (nI my), .ref (rA 47)], ia (rA 45) (rK9 45) 7 (fun i => nI (mk i))] s.heap.size = A at hD1 ⊢
  have hA : ∀ q : Nat, s.heap.size ≤ q → A q := fun q h => by rw [← hAe]; exact Or.inr h
  have hD : dd A [ra, (rA 45)] := dd_of hD1 rfl
  clear hAe hD0 hD1
  have hS : va_S A s.heap s.heap [] := va_S.rf
  replace hP : va_P (dC, dI) classes [oc ra 8 [.int (nI T), .int (nI Ac), .ref (rA 2), .ref (rA 3), .ref (rA 4), .ref (rA 5), .ref (rA 6), .ref (rA 7), .ref (rA 8), .ref (rA 9), .ref (rA 10), .ref (rA 11), .ref (rA 12), .ref (rA 13), .int ir, .ref (rA 15), .ref (rA 16), .ref (rA 17), .ref (rA 18), .int (nI md), .int (nI wd), .ref (rA 21), .ref (rA 22), .ref (rA 23), .int (nI mn), .ref (rA 25), .int (nI cb), .int mr, .ref (rA 28), .ref (rA 29), .ref (rA 30), .ref (rA 31), .ref (rA 32), .ref (rA 33), .ref (rA 34), .ref (rA 35), .int (nI ld), .int (nI gm), .ref (rA 38), .ref (rA 39), .ref (rA 40), .ref (rA 41), .ref (rA 42), .ref (rA 43), .ref (rA 44), .ref (rA 45), .int (nI my), .ref (rA 47)], ia (rA 45) (rK9 45) 7 (fun i => nI (mk i))] s.heap := hP
  have hl := lv_entry ([.ref ra]) (n := 3) (Nat.le_of_ble_eq_true rfl)
  rw [lg_entry_eq]
  generalize (lg_sl ([.ref ra]) ++ List.replicate (3 - (lg_sl ([.ref ra])).length) Slot.unset).toArray = ls at hl ⊢
  replace hl : lv_has ls 3 [(0, .ref ra)] := hl
  refine lv_iconst (v := 0) hx hb d_Ref_hasRing_0 (by decide) ?_
  refine lv_istore_n (lv' := [(1, .int 0), (0, .ref ra)]) hx hb d_Ref_hasRing_1 rfl hl (by decide) rfl ?_
  clear hl ls
  intro ls hl
  replace hP : va_P (dC, dI) classes [oc ra 8 [.int (nI T), .int (nI Ac), .ref (rA 2), .ref (rA 3), .ref (rA 4), .ref (rA 5), .ref (rA 6), .ref (rA 7), .ref (rA 8), .ref (rA 9), .ref (rA 10), .ref (rA 11), .ref (rA 12), .ref (rA 13), .int ir, .ref (rA 15), .ref (rA 16), .ref (rA 17), .ref (rA 18), .int (nI md), .int (nI wd), .ref (rA 21), .ref (rA 22), .ref (rA 23), .int (nI mn), .ref (rA 25), .int (nI cb), .int mr, .ref (rA 28), .ref (rA 29), .ref (rA 30), .ref (rA 31), .ref (rA 32), .ref (rA 33), .ref (rA 34), .ref (rA 35), .int (nI ld), .int (nI gm), .ref (rA 38), .ref (rA 39), .ref (rA 40), .ref (rA 41), .ref (rA 42), .ref (rA 43), .ref (rA 44), .ref (rA 45), .int (nI my), .ref (rA 47)], ia (rA 45) (rK9 45) 7 (fun i => nI ((coN my mk 0) i))] s.heap := hP
  replace hl : lv_has ls 3 [(1, .int (nI 0)), (0, .ref ra)] := hl
  refine lp_n my (fun m1 H locs ls => va_P (dC, dI) classes [oc ra 8 [.int (nI T), .int (nI Ac), .ref (rA 2), .ref (rA 3), .ref (rA 4), .ref (rA 5), .ref (rA 6), .ref (rA 7), .ref (rA 8), .ref (rA 9), .ref (rA 10), .ref (rA 11), .ref (rA 12), .ref (rA 13), .int ir, .ref (rA 15), .ref (rA 16), .ref (rA 17), .ref (rA 18), .int (nI md), .int (nI wd), .ref (rA 21), .ref (rA 22), .ref (rA 23), .int (nI mn), .ref (rA 25), .int (nI cb), .int mr, .ref (rA 28), .ref (rA 29), .ref (rA 30), .ref (rA 31), .ref (rA 32), .ref (rA 33), .ref (rA 34), .ref (rA 35), .int (nI ld), .int (nI gm), .ref (rA 38), .ref (rA 39), .ref (rA 40), .ref (rA 41), .ref (rA 42), .ref (rA 43), .ref (rA 44), .ref (rA 45), .int (nI my), .ref (rA 47)], ia (rA 45) (rK9 45) 7 (fun i => nI ((coN my mk m1) i))] H ∧ va_S A s.heap H locs ∧ lv_has ls 3 [(1, .int (nI m1)), (0, .ref ra)]) ⟨hP, hS, hl⟩ ?_ ?_
  · intro m1 H locs ls hm1 hI ih_m1
    obtain ⟨hP, hS, hl⟩ := hI
    refine lv_iload_n hx hb d_Ref_hasRing_2 rfl (lv_at hl 0 rfl) ?_
    refine lv_aload_n hx hb d_Ref_hasRing_3 rfl (lv_at hl 1 rfl) ?_
    refine va_get (D := (dC, dI)) (ci := 8) (v := .int (nI my)) (C := R_Ref) (T := F_Ref) (N := 48) hx hb hw i_Ref hown hK hP 0 rfl rfl 46 (by decide) (hw _ m_945) (fun _ h9 => h9) rfl d_Ref_hasRing_4 ?_
    refine lv_icmp_ge (tgt := 61) hx hb d_Ref_hasRing_7 (by decide) (fun c9 => absurd c9 (nI_ge hm1 (by omega))) (fun c9 => ?_)
    obtain ⟨Gm, hGm⟩ : ∃ Gm, Gm = coN my mk m1 := ⟨_, rfl⟩
    have g18 : ∀ i, Gm i < 128 := by rw [hGm]; exact coN_lt hmk m1
    rw [← hGm] at hP
    replace hP : va_P (dC, dI) classes [oc ra 8 [.int (nI T), .int (nI Ac), .ref (rA 2), .ref (rA 3), .ref (rA 4), .ref (rA 5), .ref (rA 6), .ref (rA 7), .ref (rA 8), .ref (rA 9), .ref (rA 10), .ref (rA 11), .ref (rA 12), .ref (rA 13), .int ir, .ref (rA 15), .ref (rA 16), .ref (rA 17), .ref (rA 18), .int (nI md), .int (nI wd), .ref (rA 21), .ref (rA 22), .ref (rA 23), .int (nI mn), .ref (rA 25), .int (nI cb), .int mr, .ref (rA 28), .ref (rA 29), .ref (rA 30), .ref (rA 31), .ref (rA 32), .ref (rA 33), .ref (rA 34), .ref (rA 35), .int (nI ld), .int (nI gm), .ref (rA 38), .ref (rA 39), .ref (rA 40), .ref (rA 41), .ref (rA 42), .ref (rA 43), .ref (rA 44), .ref (rA 45), .int (nI my), .ref (rA 47)], ia (rA 45) (rK9 45) 7 (fun i => nI (Gm i))] H := hP
    refine tp_pc (pc' := 10) (by rfl) ?_
    refine lv_iconst (v := 0) hx hb d_Ref_hasRing_10 (by decide) ?_
    refine lv_istore_n (lv' := [(2, .int 0), (1, .int (nI m1)), (0, .ref ra)]) hx hb d_Ref_hasRing_11 rfl hl (by decide) rfl ?_
    clear hl ls
    intro ls hl
    replace hP : va_P (dC, dI) classes [oc ra 8 [.int (nI T), .int (nI Ac), .ref (rA 2), .ref (rA 3), .ref (rA 4), .ref (rA 5), .ref (rA 6), .ref (rA 7), .ref (rA 8), .ref (rA 9), .ref (rA 10), .ref (rA 11), .ref (rA 12), .ref (rA 13), .int ir, .ref (rA 15), .ref (rA 16), .ref (rA 17), .ref (rA 18), .int (nI md), .int (nI wd), .ref (rA 21), .ref (rA 22), .ref (rA 23), .int (nI mn), .ref (rA 25), .int (nI cb), .int mr, .ref (rA 28), .ref (rA 29), .ref (rA 30), .ref (rA 31), .ref (rA 32), .ref (rA 33), .ref (rA 34), .ref (rA 35), .int (nI ld), .int (nI gm), .ref (rA 38), .ref (rA 39), .ref (rA 40), .ref (rA 41), .ref (rA 42), .ref (rA 43), .ref (rA 44), .ref (rA 45), .int (nI my), .ref (rA 47)], ia (rA 45) (rK9 45) 7 (fun i => nI ((ciN m1 Gm 0) i))] H := hP
    replace hl : lv_has ls 3 [(2, .int (nI 0)), (1, .int (nI m1)), (0, .ref ra)] := hl
    refine lp_n my (fun a1 H locs ls => va_P (dC, dI) classes [oc ra 8 [.int (nI T), .int (nI Ac), .ref (rA 2), .ref (rA 3), .ref (rA 4), .ref (rA 5), .ref (rA 6), .ref (rA 7), .ref (rA 8), .ref (rA 9), .ref (rA 10), .ref (rA 11), .ref (rA 12), .ref (rA 13), .int ir, .ref (rA 15), .ref (rA 16), .ref (rA 17), .ref (rA 18), .int (nI md), .int (nI wd), .ref (rA 21), .ref (rA 22), .ref (rA 23), .int (nI mn), .ref (rA 25), .int (nI cb), .int mr, .ref (rA 28), .ref (rA 29), .ref (rA 30), .ref (rA 31), .ref (rA 32), .ref (rA 33), .ref (rA 34), .ref (rA 35), .int (nI ld), .int (nI gm), .ref (rA 38), .ref (rA 39), .ref (rA 40), .ref (rA 41), .ref (rA 42), .ref (rA 43), .ref (rA 44), .ref (rA 45), .int (nI my), .ref (rA 47)], ia (rA 45) (rK9 45) 7 (fun i => nI ((ciN m1 Gm a1) i))] H ∧ va_S A s.heap H locs ∧ lv_has ls 3 [(2, .int (nI a1)), (1, .int (nI m1)), (0, .ref ra)]) ⟨hP, hS, hl⟩ ?_ ?_
    · intro a1 H locs ls ha1 hI ih_a1
      obtain ⟨hP, hS, hl⟩ := hI
      refine lv_iload_n hx hb d_Ref_hasRing_12 rfl (lv_at hl 0 rfl) ?_
      refine lv_aload_n hx hb d_Ref_hasRing_13 rfl (lv_at hl 2 rfl) ?_
      refine va_get (D := (dC, dI)) (ci := 8) (v := .int (nI my)) (C := R_Ref) (T := F_Ref) (N := 48) hx hb hw i_Ref hown hK hP 0 rfl rfl 46 (by decide) (hw _ m_945) (fun _ h9 => h9) rfl d_Ref_hasRing_14 ?_
      refine lv_icmp_ge (tgt := 55) hx hb d_Ref_hasRing_17 (by decide) (fun c9 => absurd c9 (nI_ge ha1 (by omega))) (fun c9 => ?_)
      have c18 := ciN_lt (m := m1) g18 a1
      have ca8 := c18 a1
      obtain ⟨ca, hca⟩ : ∃ ca, ca = ciN m1 Gm a1 a1 := ⟨_, rfl⟩
      rw [← hca] at ca8
      obtain ⟨b9, hb9⟩ : ∃ b9, b9 = ca / 2 ^ m1 % 2 := ⟨_, rfl⟩
      have hb92 : b9 < 2 := by rw [hb9]; exact Nat.mod_lt _ (by decide)
      refine tp_pc (pc' := 20) (by rfl) ?_
      refine lv_aload_n hx hb d_Ref_hasRing_20 rfl (lv_at hl 2 rfl) ?_
      refine va_get (D := (dC, dI)) (ci := 8) (v := .ref (rA 45)) (C := R_Ref) (T := F_Ref) (N := 48) hx hb hw i_Ref hown hK hP 0 rfl rfl 45 (by decide) (hw _ m_944) (fun _ h9 => h9) rfl d_Ref_hasRing_21 ?_
      refine lv_iload_n hx hb d_Ref_hasRing_24 rfl (lv_at hl 0 rfl) ?_
      refine va_iald (D := (dC, dI)) hx hb hK hP 1 0 rfl rfl (i := nI a1) (pk_in a1 7 (by omega)) d_Ref_hasRing_25 ?_
      refine tp_i (y := nI ((ciN m1 Gm a1) a1)) (by rw [show (nI a1 : Int32).toNatClampNeg = a1 from pk_cl a1]) ?_
      refine tp_i (y := nI ca) (by rw [hca]) ?_
      refine lv_iload_n hx hb d_Ref_hasRing_26 rfl (lv_at hl 1 rfl) ?_
      refine lv_ishr hx hb d_Ref_hasRing_27 ?_
      refine tp_i (y := (nI ca) >>> ((nI m1) &&& 31)) rfl ?_
      refine lv_iconst (v := 1) hx hb d_Ref_hasRing_28 (by decide) ?_
      refine lv_iand hx hb d_Ref_hasRing_29 ?_
      refine tp_i (y := ((nI ca) >>> ((nI m1) &&& 31)) &&& 1) rfl ?_
      refine tp_i (y := nI b9) (by rw [hb9]; exact bit_eq (by omega) (by omega)) ?_
      refine lv_iconst (v := 1) hx hb d_Ref_hasRing_30 (by decide) ?_
      refine lv_icmp_ne (tgt := 49) hx hb d_Ref_hasRing_31 (by decide) (fun d2 => ?_) (fun d2 => ?_)
      · skip
        have hd2 : ¬ (b9 = 1) := fun q9 => d2 ((nI_eq (a := b9) (b := 1) (by omega) (by omega)).mpr q9)
        rw [show ciN m1 Gm a1 = ciN m1 Gm (a1 + 1) from by rw [ciN, if_neg (by rw [← hca, ← hb9]; exact hd2)]] at hP
        replace hP : va_P (dC, dI) classes [oc ra 8 [.int (nI T), .int (nI Ac), .ref (rA 2), .ref (rA 3), .ref (rA 4), .ref (rA 5), .ref (rA 6), .ref (rA 7), .ref (rA 8), .ref (rA 9), .ref (rA 10), .ref (rA 11), .ref (rA 12), .ref (rA 13), .int ir, .ref (rA 15), .ref (rA 16), .ref (rA 17), .ref (rA 18), .int (nI md), .int (nI wd), .ref (rA 21), .ref (rA 22), .ref (rA 23), .int (nI mn), .ref (rA 25), .int (nI cb), .int mr, .ref (rA 28), .ref (rA 29), .ref (rA 30), .ref (rA 31), .ref (rA 32), .ref (rA 33), .ref (rA 34), .ref (rA 35), .int (nI ld), .int (nI gm), .ref (rA 38), .ref (rA 39), .ref (rA 40), .ref (rA 41), .ref (rA 42), .ref (rA 43), .ref (rA 44), .ref (rA 45), .int (nI my), .ref (rA 47)], ia (rA 45) (rK9 45) 7 (fun i => nI ((ciN m1 Gm (a1 + 1)) i))] H := hP
        refine tp_pc (pc' := 49) (by rfl) ?_
        refine lv_iinc (v := nI (a1 + 1)) (lv' := [(2, .int (nI (a1 + 1))), (1, .int (nI m1)), (0, .ref ra)]) hx hb d_Ref_hasRing_49 hl (k := 0) rfl (by exact nI_1 a1) (by decide) rfl ?_
        clear hl ls
        intro ls hl
        refine lv_goto (tgt := 12) hx hb d_Ref_hasRing_52 (by decide) ?_
        refine tp_pc (pc' := 12) (by rfl) ?_
        obtain ⟨hP8, -, -⟩ := cut3 (wc := [oc ra 8 [.int (nI T), .int (nI Ac), .ref (rA 2), .ref (rA 3), .ref (rA 4), .ref (rA 5), .ref (rA 6), .ref (rA 7), .ref (rA 8), .ref (rA 9), .ref (rA 10), .ref (rA 11), .ref (rA 12), .ref (rA 13), .int ir, .ref (rA 15), .ref (rA 16), .ref (rA 17), .ref (rA 18), .int (nI md), .int (nI wd), .ref (rA 21), .ref (rA 22), .ref (rA 23), .int (nI mn), .ref (rA 25), .int (nI cb), .int mr, .ref (rA 28), .ref (rA 29), .ref (rA 30), .ref (rA 31), .ref (rA 32), .ref (rA 33), .ref (rA 34), .ref (rA 35), .int (nI ld), .int (nI gm), .ref (rA 38), .ref (rA 39), .ref (rA 40), .ref (rA 41), .ref (rA 42), .ref (rA 43), .ref (rA 44), .ref (rA 45), .int (nI my), .ref (rA 47)], ia (rA 45) (rK9 45) 7 (fun i => nI ((ciN m1 Gm (a1 + 1)) i))]) hP hD rfl hS hA [0, 1] (by decide +kernel) rfl
        exact ih_a1 _ _ _ ⟨hP8, hS, lv_sub hl [0, 1, 2] rfl⟩
      · skip
        have hd2 : b9 = 1 := (nI_eq (a := b9) (b := 1) (by omega) (by omega)).mp d2
        refine tp_pc (pc' := 34) (by rfl) ?_
        refine lv_aload_n hx hb d_Ref_hasRing_34 rfl (lv_at hl 2 rfl) ?_
        refine va_get (D := (dC, dI)) (ci := 8) (v := .ref (rA 45)) (C := R_Ref) (T := F_Ref) (N := 48) hx hb hw i_Ref hown hK hP 0 rfl rfl 45 (by decide) (hw _ m_944) (fun _ h9 => h9) rfl d_Ref_hasRing_35 ?_
        refine lv_iload_n hx hb d_Ref_hasRing_38 rfl (lv_at hl 0 rfl) ?_
        refine lv_dup2_11 hx hb d_Ref_hasRing_39 rfl rfl ?_
        refine va_iald (D := (dC, dI)) hx hb hK hP 1 0 rfl rfl (i := nI a1) (pk_in a1 7 (by omega)) d_Ref_hasRing_40 ?_
        refine tp_i (y := nI ((ciN m1 Gm a1) a1)) (by rw [show (nI a1 : Int32).toNatClampNeg = a1 from pk_cl a1]) ?_
        refine lv_aload_n hx hb d_Ref_hasRing_41 rfl (lv_at hl 2 rfl) ?_
        refine va_get (D := (dC, dI)) (ci := 8) (v := .ref (rA 45)) (C := R_Ref) (T := F_Ref) (N := 48) hx hb hw i_Ref hown hK hP 0 rfl rfl 45 (by decide) (hw _ m_944) (fun _ h9 => h9) rfl d_Ref_hasRing_42 ?_
        refine lv_iload_n hx hb d_Ref_hasRing_45 rfl (lv_at hl 1 rfl) ?_
        refine va_iald (D := (dC, dI)) hx hb hK hP 1 0 rfl rfl (i := nI m1) (pk_in m1 7 (by omega)) d_Ref_hasRing_46 ?_
        refine tp_i (y := nI ((ciN m1 Gm a1) m1)) (by rw [show (nI m1 : Int32).toNatClampNeg = m1 from pk_cl m1]) ?_
        refine lv_ior hx hb d_Ref_hasRing_47 ?_
        refine tp_i (y := (nI ((ciN m1 Gm a1) a1)) ||| (nI ((ciN m1 Gm a1) m1))) rfl ?_
        refine tp_i (y := nI (ciN m1 Gm a1 a1 ||| ciN m1 Gm a1 m1)) (or_eq _ (c18 a1) _ (c18 m1)) ?_
        refine va_iast (D := (dC, dI)) hx hb hK hP (dd_D hD rfl) hS 1 0 rfl rfl (i := nI a1) (x := nI (ciN m1 Gm a1 a1 ||| ciN m1 Gm a1 m1)) (pk_in a1 7 (by omega)) d_Ref_hasRing_48 ?_
        clear hP hS locs H
        intro H locs hP _ hS
        rw [show (nI a1 : Int32).toNatClampNeg = a1 from pk_cl a1] at hP
        rw [show upd (fun i => nI ((ciN m1 Gm a1) i)) a1 (nI (ciN m1 Gm a1 a1 ||| ciN m1 Gm a1 m1)) = fun i => nI (updN (ciN m1 Gm a1) a1 (ciN m1 Gm a1 a1 ||| ciN m1 Gm a1 m1) i) from upd_nI] at hP
        replace hP : va_P (dC, dI) classes [oc ra 8 [.int (nI T), .int (nI Ac), .ref (rA 2), .ref (rA 3), .ref (rA 4), .ref (rA 5), .ref (rA 6), .ref (rA 7), .ref (rA 8), .ref (rA 9), .ref (rA 10), .ref (rA 11), .ref (rA 12), .ref (rA 13), .int ir, .ref (rA 15), .ref (rA 16), .ref (rA 17), .ref (rA 18), .int (nI md), .int (nI wd), .ref (rA 21), .ref (rA 22), .ref (rA 23), .int (nI mn), .ref (rA 25), .int (nI cb), .int mr, .ref (rA 28), .ref (rA 29), .ref (rA 30), .ref (rA 31), .ref (rA 32), .ref (rA 33), .ref (rA 34), .ref (rA 35), .int (nI ld), .int (nI gm), .ref (rA 38), .ref (rA 39), .ref (rA 40), .ref (rA 41), .ref (rA 42), .ref (rA 43), .ref (rA 44), .ref (rA 45), .int (nI my), .ref (rA 47)], ia (rA 45) (rK9 45) 7 (fun i => nI ((updN (ciN m1 Gm a1) a1 (ciN m1 Gm a1 a1 ||| ciN m1 Gm a1 m1)) i))] H := hP
        refine tp_pc (pc' := 49) (by rfl) ?_
        rw [show updN (ciN m1 Gm a1) a1 (ciN m1 Gm a1 a1 ||| ciN m1 Gm a1 m1) = ciN m1 Gm (a1 + 1) from by rw [ciN, if_pos (by rw [← hca, ← hb9]; exact hd2)]] at hP
        replace hP : va_P (dC, dI) classes [oc ra 8 [.int (nI T), .int (nI Ac), .ref (rA 2), .ref (rA 3), .ref (rA 4), .ref (rA 5), .ref (rA 6), .ref (rA 7), .ref (rA 8), .ref (rA 9), .ref (rA 10), .ref (rA 11), .ref (rA 12), .ref (rA 13), .int ir, .ref (rA 15), .ref (rA 16), .ref (rA 17), .ref (rA 18), .int (nI md), .int (nI wd), .ref (rA 21), .ref (rA 22), .ref (rA 23), .int (nI mn), .ref (rA 25), .int (nI cb), .int mr, .ref (rA 28), .ref (rA 29), .ref (rA 30), .ref (rA 31), .ref (rA 32), .ref (rA 33), .ref (rA 34), .ref (rA 35), .int (nI ld), .int (nI gm), .ref (rA 38), .ref (rA 39), .ref (rA 40), .ref (rA 41), .ref (rA 42), .ref (rA 43), .ref (rA 44), .ref (rA 45), .int (nI my), .ref (rA 47)], ia (rA 45) (rK9 45) 7 (fun i => nI ((ciN m1 Gm (a1 + 1)) i))] H := hP
        refine lv_iinc (v := nI (a1 + 1)) (lv' := [(2, .int (nI (a1 + 1))), (1, .int (nI m1)), (0, .ref ra)]) hx hb d_Ref_hasRing_49 hl (k := 0) rfl (by exact nI_1 a1) (by decide) rfl ?_
        clear hl ls
        intro ls hl
        refine lv_goto (tgt := 12) hx hb d_Ref_hasRing_52 (by decide) ?_
        refine tp_pc (pc' := 12) (by rfl) ?_
        obtain ⟨hP8, -, -⟩ := cut3 (wc := [oc ra 8 [.int (nI T), .int (nI Ac), .ref (rA 2), .ref (rA 3), .ref (rA 4), .ref (rA 5), .ref (rA 6), .ref (rA 7), .ref (rA 8), .ref (rA 9), .ref (rA 10), .ref (rA 11), .ref (rA 12), .ref (rA 13), .int ir, .ref (rA 15), .ref (rA 16), .ref (rA 17), .ref (rA 18), .int (nI md), .int (nI wd), .ref (rA 21), .ref (rA 22), .ref (rA 23), .int (nI mn), .ref (rA 25), .int (nI cb), .int mr, .ref (rA 28), .ref (rA 29), .ref (rA 30), .ref (rA 31), .ref (rA 32), .ref (rA 33), .ref (rA 34), .ref (rA 35), .int (nI ld), .int (nI gm), .ref (rA 38), .ref (rA 39), .ref (rA 40), .ref (rA 41), .ref (rA 42), .ref (rA 43), .ref (rA 44), .ref (rA 45), .int (nI my), .ref (rA 47)], ia (rA 45) (rK9 45) 7 (fun i => nI ((ciN m1 Gm (a1 + 1)) i))]) hP hD rfl hS hA [0, 1] (by decide +kernel) rfl
        exact ih_a1 _ _ _ ⟨hP8, hS, lv_sub hl [0, 1, 2] rfl⟩
    · intro H locs ls hI
      obtain ⟨hP, hS, hl⟩ := hI
      refine lv_iload_n hx hb d_Ref_hasRing_12 rfl (lv_at hl 0 rfl) ?_
      refine lv_aload_n hx hb d_Ref_hasRing_13 rfl (lv_at hl 2 rfl) ?_
      refine va_get (D := (dC, dI)) (ci := 8) (v := .int (nI my)) (C := R_Ref) (T := F_Ref) (N := 48) hx hb hw i_Ref hown hK hP 0 rfl rfl 46 (by decide) (hw _ m_945) (fun _ h9 => h9) rfl d_Ref_hasRing_14 ?_
      refine lv_icmp_ge (tgt := 55) hx hb d_Ref_hasRing_17 (by decide) (fun c9 => ?_) (fun c9 => absurd (nI_le (Nat.le_refl _) (by omega)) c9)
      rw [show ciN m1 Gm my = coN my mk (m1 + 1) from by rw [coN, hGm]] at hP
      replace hP : va_P (dC, dI) classes [oc ra 8 [.int (nI T), .int (nI Ac), .ref (rA 2), .ref (rA 3), .ref (rA 4), .ref (rA 5), .ref (rA 6), .ref (rA 7), .ref (rA 8), .ref (rA 9), .ref (rA 10), .ref (rA 11), .ref (rA 12), .ref (rA 13), .int ir, .ref (rA 15), .ref (rA 16), .ref (rA 17), .ref (rA 18), .int (nI md), .int (nI wd), .ref (rA 21), .ref (rA 22), .ref (rA 23), .int (nI mn), .ref (rA 25), .int (nI cb), .int mr, .ref (rA 28), .ref (rA 29), .ref (rA 30), .ref (rA 31), .ref (rA 32), .ref (rA 33), .ref (rA 34), .ref (rA 35), .int (nI ld), .int (nI gm), .ref (rA 38), .ref (rA 39), .ref (rA 40), .ref (rA 41), .ref (rA 42), .ref (rA 43), .ref (rA 44), .ref (rA 45), .int (nI my), .ref (rA 47)], ia (rA 45) (rK9 45) 7 (fun i => nI ((coN my mk (m1 + 1)) i))] H := hP
      refine tp_pc (pc' := 55) (by rfl) ?_
      refine lv_iinc (v := nI (m1 + 1)) (lv' := [(1, .int (nI (m1 + 1))), (2, .int (nI my)), (0, .ref ra)]) hx hb d_Ref_hasRing_55 hl (k := 1) rfl (by exact nI_1 m1) (by decide) rfl ?_
      clear hl ls
      intro ls hl
      refine lv_goto (tgt := 2) hx hb d_Ref_hasRing_58 (by decide) ?_
      refine tp_pc (pc' := 2) (by rfl) ?_
      obtain ⟨hP8, -, -⟩ := cut3 (wc := [oc ra 8 [.int (nI T), .int (nI Ac), .ref (rA 2), .ref (rA 3), .ref (rA 4), .ref (rA 5), .ref (rA 6), .ref (rA 7), .ref (rA 8), .ref (rA 9), .ref (rA 10), .ref (rA 11), .ref (rA 12), .ref (rA 13), .int ir, .ref (rA 15), .ref (rA 16), .ref (rA 17), .ref (rA 18), .int (nI md), .int (nI wd), .ref (rA 21), .ref (rA 22), .ref (rA 23), .int (nI mn), .ref (rA 25), .int (nI cb), .int mr, .ref (rA 28), .ref (rA 29), .ref (rA 30), .ref (rA 31), .ref (rA 32), .ref (rA 33), .ref (rA 34), .ref (rA 35), .int (nI ld), .int (nI gm), .ref (rA 38), .ref (rA 39), .ref (rA 40), .ref (rA 41), .ref (rA 42), .ref (rA 43), .ref (rA 44), .ref (rA 45), .int (nI my), .ref (rA 47)], ia (rA 45) (rK9 45) 7 (fun i => nI ((coN my mk (m1 + 1)) i))]) hP hD rfl hS hA [0, 1] (by decide +kernel) rfl
      exact ih_m1 _ _ _ ⟨hP8, hS, lv_sub hl [0, 2] rfl⟩
  · intro H locs ls hI
    obtain ⟨hP, hS, hl⟩ := hI
    refine lv_iload_n hx hb d_Ref_hasRing_2 rfl (lv_at hl 0 rfl) ?_
    refine lv_aload_n hx hb d_Ref_hasRing_3 rfl (lv_at hl 1 rfl) ?_
    refine va_get (D := (dC, dI)) (ci := 8) (v := .int (nI my)) (C := R_Ref) (T := F_Ref) (N := 48) hx hb hw i_Ref hown hK hP 0 rfl rfl 46 (by decide) (hw _ m_945) (fun _ h9 => h9) rfl d_Ref_hasRing_4 ?_
    refine lv_icmp_ge (tgt := 61) hx hb d_Ref_hasRing_7 (by decide) (fun c9 => ?_) (fun c9 => absurd (nI_le (Nat.le_refl _) (by omega)) c9)
    obtain ⟨F1, hF1⟩ : ∃ F1, F1 = coN my mk my := ⟨_, rfl⟩
    have f18 : ∀ i, F1 i < 128 := by rw [hF1]; exact coN_lt hmk my
    rw [← hF1] at hP ⊢
    replace hP : va_P (dC, dI) classes [oc ra 8 [.int (nI T), .int (nI Ac), .ref (rA 2), .ref (rA 3), .ref (rA 4), .ref (rA 5), .ref (rA 6), .ref (rA 7), .ref (rA 8), .ref (rA 9), .ref (rA 10), .ref (rA 11), .ref (rA 12), .ref (rA 13), .int ir, .ref (rA 15), .ref (rA 16), .ref (rA 17), .ref (rA 18), .int (nI md), .int (nI wd), .ref (rA 21), .ref (rA 22), .ref (rA 23), .int (nI mn), .ref (rA 25), .int (nI cb), .int mr, .ref (rA 28), .ref (rA 29), .ref (rA 30), .ref (rA 31), .ref (rA 32), .ref (rA 33), .ref (rA 34), .ref (rA 35), .int (nI ld), .int (nI gm), .ref (rA 38), .ref (rA 39), .ref (rA 40), .ref (rA 41), .ref (rA 42), .ref (rA 43), .ref (rA 44), .ref (rA 45), .int (nI my), .ref (rA 47)], ia (rA 45) (rK9 45) 7 (fun i => nI (F1 i))] H := hP
    refine tp_pc (pc' := 61) (by rfl) ?_
    refine lv_iconst (v := 0) hx hb d_Ref_hasRing_61 (by decide) ?_
    refine lv_istore_n (lv' := [(1, .int 0), (0, .ref ra)]) hx hb d_Ref_hasRing_62 rfl hl (by decide) rfl ?_
    clear hl ls
    intro ls hl
    replace hP : va_P (dC, dI) classes [oc ra 8 [.int (nI T), .int (nI Ac), .ref (rA 2), .ref (rA 3), .ref (rA 4), .ref (rA 5), .ref (rA 6), .ref (rA 7), .ref (rA 8), .ref (rA 9), .ref (rA 10), .ref (rA 11), .ref (rA 12), .ref (rA 13), .int ir, .ref (rA 15), .ref (rA 16), .ref (rA 17), .ref (rA 18), .int (nI md), .int (nI wd), .ref (rA 21), .ref (rA 22), .ref (rA 23), .int (nI mn), .ref (rA 25), .int (nI cb), .int mr, .ref (rA 28), .ref (rA 29), .ref (rA 30), .ref (rA 31), .ref (rA 32), .ref (rA 33), .ref (rA 34), .ref (rA 35), .int (nI ld), .int (nI gm), .ref (rA 38), .ref (rA 39), .ref (rA 40), .ref (rA 41), .ref (rA 42), .ref (rA 43), .ref (rA 44), .ref (rA 45), .int (nI my), .ref (rA 47)], ia (rA 45) (rK9 45) 7 (fun i => nI (F1 i))] H := hP
    replace hl : lv_has ls 3 [(1, .int (nI 0)), (0, .ref ra)] := hl
    refine lp_n my (fun i1 H locs ls => fF (slf F1) (my - i1) i1 = fF (slf F1) my 0 ∧ va_P (dC, dI) classes [oc ra 8 [.int (nI T), .int (nI Ac), .ref (rA 2), .ref (rA 3), .ref (rA 4), .ref (rA 5), .ref (rA 6), .ref (rA 7), .ref (rA 8), .ref (rA 9), .ref (rA 10), .ref (rA 11), .ref (rA 12), .ref (rA 13), .int ir, .ref (rA 15), .ref (rA 16), .ref (rA 17), .ref (rA 18), .int (nI md), .int (nI wd), .ref (rA 21), .ref (rA 22), .ref (rA 23), .int (nI mn), .ref (rA 25), .int (nI cb), .int mr, .ref (rA 28), .ref (rA 29), .ref (rA 30), .ref (rA 31), .ref (rA 32), .ref (rA 33), .ref (rA 34), .ref (rA 35), .int (nI ld), .int (nI gm), .ref (rA 38), .ref (rA 39), .ref (rA 40), .ref (rA 41), .ref (rA 42), .ref (rA 43), .ref (rA 44), .ref (rA 45), .int (nI my), .ref (rA 47)], ia (rA 45) (rK9 45) 7 (fun i => nI (F1 i))] H ∧ va_S A s.heap H locs ∧ lv_has ls 3 [(1, .int (nI i1)), (0, .ref ra)]) ⟨rfl, hP, hS, hl⟩ ?_ ?_
    · intro i1 H locs ls hi1 hI ih_i1
      obtain ⟨hinv, hP, hS, hl⟩ := hI
      refine lv_iload_n hx hb d_Ref_hasRing_63 rfl (lv_at hl 0 rfl) ?_
      refine lv_aload_n hx hb d_Ref_hasRing_64 rfl (lv_at hl 1 rfl) ?_
      refine va_get (D := (dC, dI)) (ci := 8) (v := .int (nI my)) (C := R_Ref) (T := F_Ref) (N := 48) hx hb hw i_Ref hown hK hP 0 rfl rfl 46 (by decide) (hw _ m_945) (fun _ h9 => h9) rfl d_Ref_hasRing_65 ?_
      refine lv_icmp_ge (tgt := 93) hx hb d_Ref_hasRing_68 (by decide) (fun c9 => absurd c9 (nI_ge hi1 (by omega))) (fun c9 => ?_)
      rw [show my - i1 = (my - (i1 + 1)) + 1 from by omega, fF] at hinv
      have fi8 := f18 i1
      obtain ⟨b9, hb9⟩ : ∃ b9, b9 = F1 i1 / 2 ^ i1 % 2 := ⟨_, rfl⟩
      have hb92 : b9 < 2 := by rw [hb9]; exact Nat.mod_lt _ (by decide)
      refine tp_pc (pc' := 71) (by rfl) ?_
      refine lv_aload_n hx hb d_Ref_hasRing_71 rfl (lv_at hl 1 rfl) ?_
      refine va_get (D := (dC, dI)) (ci := 8) (v := .ref (rA 45)) (C := R_Ref) (T := F_Ref) (N := 48) hx hb hw i_Ref hown hK hP 0 rfl rfl 45 (by decide) (hw _ m_944) (fun _ h9 => h9) rfl d_Ref_hasRing_72 ?_
      refine lv_iload_n hx hb d_Ref_hasRing_75 rfl (lv_at hl 0 rfl) ?_
      refine va_iald (D := (dC, dI)) hx hb hK hP 1 0 rfl rfl (i := nI i1) (pk_in i1 7 (by omega)) d_Ref_hasRing_76 ?_
      refine tp_i (y := nI (F1 i1)) (by rw [show (nI i1 : Int32).toNatClampNeg = i1 from pk_cl i1]) ?_
      refine lv_iload_n hx hb d_Ref_hasRing_77 rfl (lv_at hl 0 rfl) ?_
      refine lv_ishr hx hb d_Ref_hasRing_78 ?_
      refine tp_i (y := (nI (F1 i1)) >>> ((nI i1) &&& 31)) rfl ?_
      refine lv_iconst (v := 1) hx hb d_Ref_hasRing_79 (by decide) ?_
      refine lv_iand hx hb d_Ref_hasRing_80 ?_
      refine tp_i (y := ((nI (F1 i1)) >>> ((nI i1) &&& 31)) &&& 1) rfl ?_
      refine tp_i (y := nI b9) (by rw [hb9]; exact bit_eq (by omega) (by omega)) ?_
      refine lv_iconst (v := 1) hx hb d_Ref_hasRing_81 (by decide) ?_
      refine lv_icmp_ne (tgt := 87) hx hb d_Ref_hasRing_82 (by decide) (fun d3 => ?_) (fun d3 => ?_)
      · skip
        have hd3 : ¬ (b9 = 1) := fun q9 => d3 ((nI_eq (a := b9) (b := 1) (by omega) (by omega)).mpr q9)
        rw [if_neg (by unfold slf; rw [← hb9]; simpa using hd3)] at hinv
        refine tp_pc (pc' := 87) (by rfl) ?_
        refine lv_iinc (v := nI (i1 + 1)) (lv' := [(1, .int (nI (i1 + 1))), (0, .ref ra)]) hx hb d_Ref_hasRing_87 hl (k := 0) rfl (by exact nI_1 i1) (by decide) rfl ?_
        clear hl ls
        intro ls hl
        refine lv_goto (tgt := 63) hx hb d_Ref_hasRing_90 (by decide) ?_
        refine tp_pc (pc' := 63) (by rfl) ?_
        obtain ⟨hP8, -, -⟩ := cut3 (wc := [oc ra 8 [.int (nI T), .int (nI Ac), .ref (rA 2), .ref (rA 3), .ref (rA 4), .ref (rA 5), .ref (rA 6), .ref (rA 7), .ref (rA 8), .ref (rA 9), .ref (rA 10), .ref (rA 11), .ref (rA 12), .ref (rA 13), .int ir, .ref (rA 15), .ref (rA 16), .ref (rA 17), .ref (rA 18), .int (nI md), .int (nI wd), .ref (rA 21), .ref (rA 22), .ref (rA 23), .int (nI mn), .ref (rA 25), .int (nI cb), .int mr, .ref (rA 28), .ref (rA 29), .ref (rA 30), .ref (rA 31), .ref (rA 32), .ref (rA 33), .ref (rA 34), .ref (rA 35), .int (nI ld), .int (nI gm), .ref (rA 38), .ref (rA 39), .ref (rA 40), .ref (rA 41), .ref (rA 42), .ref (rA 43), .ref (rA 44), .ref (rA 45), .int (nI my), .ref (rA 47)], ia (rA 45) (rK9 45) 7 (fun i => nI (F1 i))]) hP hD rfl hS hA [0, 1] (by decide +kernel) rfl
        exact ih_i1 _ _ _ ⟨hinv, hP8, hS, lv_sub hl [0, 1] rfl⟩
      · skip
        have hd3 : b9 = 1 := (nI_eq (a := b9) (b := 1) (by omega) (by omega)).mp d3
        rw [if_pos (by unfold slf; rw [← hb9, hd3]; rfl)] at hinv
        refine tp_pc (pc' := 85) (by rfl) ?_
        refine lv_iconst (v := 1) hx hb d_Ref_hasRing_85 (by decide) ?_
        obtain ⟨hP9, hD9, -⟩ := cut3 (wc := [oc ra 8 [.int (nI T), .int (nI Ac), .ref (rA 2), .ref (rA 3), .ref (rA 4), .ref (rA 5), .ref (rA 6), .ref (rA 7), .ref (rA 8), .ref (rA 9), .ref (rA 10), .ref (rA 11), .ref (rA 12), .ref (rA 13), .int ir, .ref (rA 15), .ref (rA 16), .ref (rA 17), .ref (rA 18), .int (nI md), .int (nI wd), .ref (rA 21), .ref (rA 22), .ref (rA 23), .int (nI mn), .ref (rA 25), .int (nI cb), .int mr, .ref (rA 28), .ref (rA 29), .ref (rA 30), .ref (rA 31), .ref (rA 32), .ref (rA 33), .ref (rA 34), .ref (rA 35), .int (nI ld), .int (nI gm), .ref (rA 38), .ref (rA 39), .ref (rA 40), .ref (rA 41), .ref (rA 42), .ref (rA 43), .ref (rA 44), .ref (rA 45), .int (nI my), .ref (rA 47)], ia (rA 45) (rK9 45) 7 (fun i => nI (F1 i))]) hP hD rfl hS hA [0, 1] (by decide +kernel) rfl
        have hK9 := hK.sub (tys' := []) [] rfl
        refine W.widen (k := 0) (n := 0) (by exact Nat.le_of_ble_eq_true rfl) (by exact Nat.le_of_ble_eq_true rfl) ?_
        exact W.zret (v := 1) (ty := .boolean) hx hb hr (by decide) (fun t9 ht9 hW => ⟨⟨1, (), rfl, by rw [← hinv, if_neg (by omega)], by rw [ht9]; exact hP9, va_K.moved hW.alike hK9, hD9⟩, hS.F ht9⟩) hS.2.2 d_Ref_hasRing_86
    · intro H locs ls hI
      obtain ⟨hinv, hP, hS, hl⟩ := hI
      refine lv_iload_n hx hb d_Ref_hasRing_63 rfl (lv_at hl 0 rfl) ?_
      refine lv_aload_n hx hb d_Ref_hasRing_64 rfl (lv_at hl 1 rfl) ?_
      refine va_get (D := (dC, dI)) (ci := 8) (v := .int (nI my)) (C := R_Ref) (T := F_Ref) (N := 48) hx hb hw i_Ref hown hK hP 0 rfl rfl 46 (by decide) (hw _ m_945) (fun _ h9 => h9) rfl d_Ref_hasRing_65 ?_
      refine lv_icmp_ge (tgt := 93) hx hb d_Ref_hasRing_68 (by decide) (fun c9 => ?_) (fun c9 => absurd (nI_le (Nat.le_refl _) (by omega)) c9)
      rw [Nat.sub_self] at hinv
      replace hinv : 0 = fF (slf F1) my 0 := hinv
      refine tp_pc (pc' := 93) (by rfl) ?_
      refine lv_iconst (v := 0) hx hb d_Ref_hasRing_93 (by decide) ?_
      obtain ⟨hP9, hD9, -⟩ := cut3 (wc := [oc ra 8 [.int (nI T), .int (nI Ac), .ref (rA 2), .ref (rA 3), .ref (rA 4), .ref (rA 5), .ref (rA 6), .ref (rA 7), .ref (rA 8), .ref (rA 9), .ref (rA 10), .ref (rA 11), .ref (rA 12), .ref (rA 13), .int ir, .ref (rA 15), .ref (rA 16), .ref (rA 17), .ref (rA 18), .int (nI md), .int (nI wd), .ref (rA 21), .ref (rA 22), .ref (rA 23), .int (nI mn), .ref (rA 25), .int (nI cb), .int mr, .ref (rA 28), .ref (rA 29), .ref (rA 30), .ref (rA 31), .ref (rA 32), .ref (rA 33), .ref (rA 34), .ref (rA 35), .int (nI ld), .int (nI gm), .ref (rA 38), .ref (rA 39), .ref (rA 40), .ref (rA 41), .ref (rA 42), .ref (rA 43), .ref (rA 44), .ref (rA 45), .int (nI my), .ref (rA 47)], ia (rA 45) (rK9 45) 7 (fun i => nI (F1 i))]) hP hD rfl hS hA [0, 1] (by decide +kernel) rfl
      have hK9 := hK.sub (tys' := []) [] rfl
      refine W.widen (k := 0) (n := 0) (by exact Nat.le_of_ble_eq_true rfl) (by exact Nat.le_of_ble_eq_true rfl) ?_
      exact W.zret (v := 0) (ty := .boolean) hx hb hr (by decide) (fun t9 ht9 hW => ⟨⟨0, (), rfl, by rw [← hinv]; rfl, by rw [ht9]; exact hP9, va_K.moved hW.alike hK9, hD9⟩, hS.F ht9⟩) hS.2.2 d_Ref_hasRing_94
