/-- the first one of a buffer goes to memory; nothing if there is none -/
def flB (sf : Nat → Int32) (bx : Nat → Nat) (nb k : Nat) : Nat → Int32 := upd (upd sf (12 + bx k) (sf (30 + k))) 15 (nI (nb - 1))
def flF (sf : Nat → Int32) (t : Nat) (x9 : Int32) (bx : Nat → Nat) (nb : Nat) : Nat → Int32 :=
  if fF (inB sf t x9) nb 0 = 0 then sf else shN3 (flB sf bx nb (fF (inB sf t x9) nb 0 - 1)) (fF (inB sf t x9) nb 0 - 1) (nb - 1 - (fF (inB sf t x9) nb 0 - 1))
set_option maxHeartbeats 4000000 in
set_option maxRecDepth 100000 in
theorem gen_Ref_flush (l : Launch) (dC : Nat → ClassId) (dI : Nat → Nat → Nat) (ra : Nat) (rA : Nat → Nat) (rK9 : Nat → ClassId) (T Ac md wd mn cb ld gm my : Nat) (ir mr : Int32) (t cn nb : Nat) (x9 : Int32) (sf : Nat → Int32) (bx : Nat → Nat) (hcc : (md = 1 ∧ cn = 1) ∨ (md ≠ 1 ∧ 1 ≤ cn ∧ cn ≤ 3)) (hm4 : md < 4) (hx9 : x9 = if md = 1 then -1 else nI (cn - 1)) (hnb : sf 15 = nI nb) (hn7 : nb ≤ 7) (hbx : ∀ k, k < nb → sf (23 + k) = nI (bx k) ∧ bx k < 3) (sz : Nat) : Met l y_Ref_flush w_Ref_flush ({ frames := 1, cells := 0, slots := 0, locals := 60 }) (va_Pc [.ref ra, .int (nI t), .int (nI cn)] (fun U => U.heap.size = sz ∧ va_P (dC, dI) classes [oc ra 8 [.int (nI T), .int (nI Ac), .ref (rA 2), .ref (rA 3), .ref (rA 4), .ref (rA 5), .ref (rA 6), .ref (rA 7), .ref (rA 8), .ref (rA 9), .ref (rA 10), .ref (rA 11), .ref (rA 12), .ref (rA 13), .int ir, .ref (rA 15), .ref (rA 16), .ref (rA 17), .ref (rA 18), .int (nI md), .int (nI wd), .ref (rA 21), .ref (rA 22), .ref (rA 23), .int (nI mn), .ref (rA 25), .int (nI cb), .int mr, .ref (rA 28), .ref (rA 29), .ref (rA 30), .ref (rA 31), .ref (rA 32), .ref (rA 33), .ref (rA 34), .ref (rA 35), .int (nI ld), .int (nI gm), .ref (rA 38), .ref (rA 39), .ref (rA 40), .ref (rA 41), .ref (rA 42), .ref (rA 43), .ref (rA 44), .ref (rA 45), .int (nI my), .ref (rA 47)], ia (rA 16) (rK9 16) 155 sf] U.heap ∧ va_K (dC, dI) classes [((rK9 16), .int)] U ∧ va_D (fun _ => True) [oc ra 8 [.int (nI T), .int (nI Ac), .ref (rA 2), .ref (rA 3), .ref (rA 4), .ref (rA 5), .ref (rA 6), .ref (rA 7), .ref (rA 8), .ref (rA 9), .ref (rA 10), .ref (rA 11), .ref (rA 12), .ref (rA 13), .int ir, .ref (rA 15), .ref (rA 16), .ref (rA 17), .ref (rA 18), .int (nI md), .int (nI wd), .ref (rA 21), .ref (rA 22), .ref (rA 23), .int (nI mn), .ref (rA 25), .int (nI cb), .int mr, .ref (rA 28), .ref (rA 29), .ref (rA 30), .ref (rA 31), .ref (rA 32), .ref (rA 33), .ref (rA 34), .ref (rA 35), .int (nI ld), .int (nI gm), .ref (rA 38), .ref (rA 39), .ref (rA 40), .ref (rA 41), .ref (rA 42), .ref (rA 43), .ref (rA 44), .ref (rA 45), .int (nI my), .ref (rA 47)], ia (rA 16) (rK9 16) 155 sf] ∧ nw U)) (va_Qi (fun (r : Int32) (_ : Unit) => r = if fF (inB sf t x9) nb 0 = 0 then 0 else 1) (fun _ t9 => va_P (dC, dI) classes [oc ra 8 [.int (nI T), .int (nI Ac), .ref (rA 2), .ref (rA 3), .ref (rA 4), .ref (rA 5), .ref (rA 6), .ref (rA 7), .ref (rA 8), .ref (rA 9), .ref (rA 10), .ref (rA 11), .ref (rA 12), .ref (rA 13), .int ir, .ref (rA 15), .ref (rA 16), .ref (rA 17), .ref (rA 18), .int (nI md), .int (nI wd), .ref (rA 21), .ref (rA 22), .ref (rA 23), .int (nI mn), .ref (rA 25), .int (nI cb), .int mr, .ref (rA 28), .ref (rA 29), .ref (rA 30), .ref (rA 31), .ref (rA 32), .ref (rA 33), .ref (rA 34), .ref (rA 35), .int (nI ld), .int (nI gm), .ref (rA 38), .ref (rA 39), .ref (rA 40), .ref (rA 41), .ref (rA 42), .ref (rA 43), .ref (rA 44), .ref (rA 45), .int (nI my), .ref (rA 47)], ia (rA 16) (rK9 16) 155 (flF sf t x9 bx nb)] t9.heap ∧ va_K (dC, dI) classes [] t9 ∧ va_D (va_A [oc ra 8 [.int (nI T), .int (nI Ac), .ref (rA 2), .ref (rA 3), .ref (rA 4), .ref (rA 5), .ref (rA 6), .ref (rA 7), .ref (rA 8), .ref (rA 9), .ref (rA 10), .ref (rA 11), .ref (rA 12), .ref (rA 13), .int ir, .ref (rA 15), .ref (rA 16), .ref (rA 17), .ref (rA 18), .int (nI md), .int (nI wd), .ref (rA 21), .ref (rA 22), .ref (rA 23), .int (nI mn), .ref (rA 25), .int (nI cb), .int mr, .ref (rA 28), .ref (rA 29), .ref (rA 30), .ref (rA 31), .ref (rA 32), .ref (rA 33), .ref (rA 34), .ref (rA 35), .int (nI ld), .int (nI gm), .ref (rA 38), .ref (rA 39), .ref (rA 40), .ref (rA 41), .ref (rA 42), .ref (rA 43), .ref (rA 44), .ref (rA 45), .int (nI my), .ref (rA 47)], ia (rA 16) (rK9 16) 155 sf] sz) [oc ra 8 [.int (nI T), .int (nI Ac), .ref (rA 2), .ref (rA 3), .ref (rA 4), .ref (rA 5), .ref (rA 6), .ref (rA 7), .ref (rA 8), .ref (rA 9), .ref (rA 10), .ref (rA 11), .ref (rA 12), .ref (rA 13), .int ir, .ref (rA 15), .ref (rA 16), .ref (rA 17), .ref (rA 18), .int (nI md), .int (nI wd), .ref (rA 21), .ref (rA 22), .ref (rA 23), .int (nI mn), .ref (rA 25), .int (nI cb), .int mr, .ref (rA 28), .ref (rA 29), .ref (rA 30), .ref (rA 31), .ref (rA 32), .ref (rA 33), .ref (rA 34), .ref (rA 35), .int (nI ld), .int (nI gm), .ref (rA 38), .ref (rA 39), .ref (rA 40), .ref (rA 41), .ref (rA 42), .ref (rA 43), .ref (rA 44), .ref (rA 45), .int (nI my), .ref (rA 47)], ia (rA 16) (rK9 16) 155 (flF sf t x9 bx nb)]) (va_A [oc ra 8 [.int (nI T), .int (nI Ac), .ref (rA 2), .ref (rA 3), .ref (rA 4), .ref (rA 5), .ref (rA 6), .ref (rA 7), .ref (rA 8), .ref (rA 9), .ref (rA 10), .ref (rA 11), .ref (rA 12), .ref (rA 13), .int ir, .ref (rA 15), .ref (rA 16), .ref (rA 17), .ref (rA 18), .int (nI md), .int (nI wd), .ref (rA 21), .ref (rA 22), .ref (rA 23), .int (nI mn), .ref (rA 25), .int (nI cb), .int mr, .ref (rA 28), .ref (rA 29), .ref (rA 30), .ref (rA 31), .ref (rA 32), .ref (rA 33), .ref (rA 34), .ref (rA 35), .int (nI ld), .int (nI gm), .ref (rA 38), .ref (rA 39), .ref (rA 40), .ref (rA 41), .ref (rA 42), .ref (rA 43), .ref (rA 44), .ref (rA 45), .int (nI my), .ref (rA 47)], ia (rA 16) (rK9 16) 155 sf] sz)) 0 0 (va_A [oc ra 8 [.int (nI T), .int (nI Ac), .ref (rA 2), .ref (rA 3), .ref (rA 4), .ref (rA 5), .ref (rA 6), .ref (rA 7), .ref (rA 8), .ref (rA 9), .ref (rA 10), .ref (rA 11), .ref (rA 12), .ref (rA 13), .int ir, .ref (rA 15), .ref (rA 16), .ref (rA 17), .ref (rA 18), .int (nI md), .int (nI wd), .ref (rA 21), .ref (rA 22), .ref (rA 23), .int (nI mn), .ref (rA 25), .int (nI cb), .int mr, .ref (rA 28), .ref (rA 29), .ref (rA 30), .ref (rA 31), .ref (rA 32), .ref (rA 33), .ref (rA 34), .ref (rA 35), .int (nI ld), .int (nI gm), .ref (rA 38), .ref (rA 39), .ref (rA 40), .ref (rA 41), .ref (rA 42), .ref (rA 43), .ref (rA 44), .ref (rA 45), .int (nI my), .ref (rA 47)], ia (rA 16) (rK9 16) 155 sf] sz) := by
  refine Met.ofW (cc := b_Ref_flush) (maxL := 6) (ret := (some .boolean)) (by decide) rfl ?_
  intro p e0 s m args below meth c s₁ B hml hv
  obtain ⟨rfl, hsz, hP, hK, hD0, hn⟩ := hv
  have hx := B.exec
  have hb := B.bytes
  have hr := B.returns
  have hw := fun w (h : w ∈ wt) => atoms_spec (ws := w_Ref_flush) B.pre w (List.mem_cons_of_mem _ h)
  have hown : s.vm.findClass R_Ref = some m.cls := findClass_of_methodNamed B.named
  have hlocks := B.notSynchronized
  subst hsz
  have hD1 := hD0.self (sz := s.heap.size)
  generalize hAe : va_A [oc ra 8 [.int (nI T), .int (nI Ac), .ref (rA 2), .ref (rA 3), .ref (rA 4), .ref (rA 5), .ref (rA 6), .ref (rA 7), .ref (rA 8), .ref (rA 9), .ref (rA 10), .ref (rA 11), .ref (rA 12), .ref (rA 13), .int ir, .ref (rA 15), .ref (rA 16), .ref (rA 17), .ref (rA 18), .int (nI md), .int (nI wd), .ref (rA 21), .ref (rA 22), .ref (rA 23), .int (nI mn), .ref (rA 25), .int (nI cb), .int mr, .ref (rA 28), .ref (rA 29), .ref (rA 30), .ref (rA 31), .ref (rA 32), .ref (rA 33), .ref (rA 34), .ref (rA 35), .int (nI ld), .int (nI gm), .ref (rA 38), .ref (rA 39), .ref (rA 40), .ref (rA 41), .ref (rA 42), .ref (rA 43), .ref (rA 44), .ref (rA 45), .int (nI my), .ref (rA 47)], ia (rA 16) (rK9 16) 155 sf] s.heap.size = A at hD1 ⊢
  have hA : ∀ q : Nat, s.heap.size ≤ q → A q := fun q h => by rw [← hAe]; exact Or.inr h
  have hD : dd A [ra, (rA 16)] := dd_of hD1 rfl
  clear hAe hD0 hD1
  have hS : va_S A s.heap s.heap [] := va_S.rf
  replace hP : va_P (dC, dI) classes [oc ra 8 [.int (nI T), .int (nI Ac), .ref (rA 2), .ref (rA 3), .ref (rA 4), .ref (rA 5), .ref (rA 6), .ref (rA 7), .ref (rA 8), .ref (rA 9), .ref (rA 10), .ref (rA 11), .ref (rA 12), .ref (rA 13), .int ir, .ref (rA 15), .ref (rA 16), .ref (rA 17), .ref (rA 18), .int (nI md), .int (nI wd), .ref (rA 21), .ref (rA 22), .ref (rA 23), .int (nI mn), .ref (rA 25), .int (nI cb), .int mr, .ref (rA 28), .ref (rA 29), .ref (rA 30), .ref (rA 31), .ref (rA 32), .ref (rA 33), .ref (rA 34), .ref (rA 35), .int (nI ld), .int (nI gm), .ref (rA 38), .ref (rA 39), .ref (rA 40), .ref (rA 41), .ref (rA 42), .ref (rA 43), .ref (rA 44), .ref (rA 45), .int (nI my), .ref (rA 47)], ia (rA 16) (rK9 16) 155 sf] s.heap := hP
  have hl := lv_entry ([.ref ra, .int (nI t), .int (nI cn)]) (n := 6) (Nat.le_of_ble_eq_true rfl)
  rw [lg_entry_eq]
  generalize (lg_sl ([.ref ra, .int (nI t), .int (nI cn)]) ++ List.replicate (6 - (lg_sl ([.ref ra, .int (nI t), .int (nI cn)])).length) Slot.unset).toArray = ls at hl ⊢
  replace hl : lv_has ls 6 [(0, .ref ra), (1, .int (nI t)), (2, .int (nI cn))] := hl
  refine lp_j 39 (fun ls => lv_has ls 6 [(3, .int x9), (0, .ref ra), (1, .int (nI t)), (2, .int (nI cn))]) ?_ ?_
  rotate_left
  · intro kJ
    refine lv_aload_n hx hb d_Ref_flush_0 rfl (lv_at hl 0 rfl) ?_
    refine va_get (D := (dC, dI)) (ci := 8) (v := .int (nI md)) (C := R_Ref) (T := F_Ref) (N := 48) hx hb hw i_Ref hown hK hP 0 rfl rfl 19 (by decide) (hw _ m_918) (fun _ h9 => h9) rfl d_Ref_flush_1 ?_
    refine lv_iconst (v := 1) hx hb d_Ref_flush_4 (by decide) ?_
    refine lv_icmp_ne (tgt := 16) hx hb d_Ref_flush_5 (by decide) (fun c1 => ?_) (fun c1 => ?_)
    · skip
      have hc1 : ¬ (md = 1) := fun q9 => c1 ((nI_eq (a := md) (b := 1) (by omega) (by omega)).mpr q9)
      refine tp_pc (pc' := 16) (by rfl) ?_
      refine lv_iload_n hx hb d_Ref_flush_16 rfl (lv_at hl 2 rfl) ?_
      refine lv_iconst (v := 3) hx hb d_Ref_flush_17 (by decide) ?_
      refine lv_icmp_le (tgt := 23) hx hb d_Ref_flush_18 (by decide) (fun c9 => ?_) (fun c9 => absurd ((nI_leI (a := cn) (b := 3) (by omega) (by omega)).mpr (by omega)) c9)
      refine tp_pc (pc' := 23) (by rfl) ?_
      refine lv_aload_n hx hb d_Ref_flush_23 rfl (lv_at hl 0 rfl) ?_
      refine va_get (D := (dC, dI)) (ci := 8) (v := .int (nI md)) (C := R_Ref) (T := F_Ref) (N := 48) hx hb hw i_Ref hown hK hP 0 rfl rfl 19 (by decide) (hw _ m_918) (fun _ h9 => h9) rfl d_Ref_flush_24 ?_
      refine lv_iconst (v := 1) hx hb d_Ref_flush_27 (by decide) ?_
      refine lv_icmp_ne (tgt := 35) hx hb d_Ref_flush_28 (by decide) (fun c9 => ?_) (fun c9 => absurd ((nI_eq (a := md) (b := 1) (by omega) (by omega)).mp c9) hc1)
      refine tp_pc (pc' := 35) (by rfl) ?_
      refine lv_iload_n hx hb d_Ref_flush_35 rfl (lv_at hl 2 rfl) ?_
      refine lv_iconst (v := 1) hx hb d_Ref_flush_36 (by decide) ?_
      refine lv_isub hx hb d_Ref_flush_37 ?_
      refine tp_i (y := nI (cn - 1)) (by exact pk_sub (a := cn) (b := 1) (by omega)) ?_
      refine tp_i (y := x9) (by rw [hx9, if_neg hc1]) ?_
      refine lv_istore_n (lv' := [(3, .int x9), (0, .ref ra), (1, .int (nI t)), (2, .int (nI cn))]) hx hb d_Ref_flush_38 rfl hl (by decide) rfl ?_
      clear hl ls
      intro ls hl
      exact kJ _ (lv_sub hl [0, 1, 2, 3] rfl)
    · skip
      have hc1 : md = 1 := (nI_eq (a := md) (b := 1) (by omega) (by omega)).mp c1
      refine tp_pc (pc' := 8) (by rfl) ?_
      refine lv_iload_n hx hb d_Ref_flush_8 rfl (lv_at hl 2 rfl) ?_
      refine lv_iconst (v := 1) hx hb d_Ref_flush_9 (by decide) ?_
      refine lv_icmp_eq (tgt := 23) hx hb d_Ref_flush_10 (by decide) (fun c9 => ?_) (fun c9 => absurd ((nI_eq (a := cn) (b := 1) (by omega) (by omega)).mpr (by omega)) c9)
      refine tp_pc (pc' := 23) (by rfl) ?_
      refine lv_aload_n hx hb d_Ref_flush_23 rfl (lv_at hl 0 rfl) ?_
      refine va_get (D := (dC, dI)) (ci := 8) (v := .int (nI md)) (C := R_Ref) (T := F_Ref) (N := 48) hx hb hw i_Ref hown hK hP 0 rfl rfl 19 (by decide) (hw _ m_918) (fun _ h9 => h9) rfl d_Ref_flush_24 ?_
      refine lv_iconst (v := 1) hx hb d_Ref_flush_27 (by decide) ?_
      refine lv_icmp_ne (tgt := 35) hx hb d_Ref_flush_28 (by decide) (fun c9 => absurd ((nI_eq (a := md) (b := 1) (by omega) (by omega)).mpr hc1) c9) (fun c9 => ?_)
      refine tp_pc (pc' := 31) (by rfl) ?_
      refine lv_iconst (v := (-1)) hx hb d_Ref_flush_31 (by decide) ?_
      refine lv_goto (tgt := 38) hx hb d_Ref_flush_32 (by decide) ?_
      refine tp_pc (pc' := 38) (by rfl) ?_
      refine tp_i (y := x9) (by rw [hx9, if_pos hc1]) ?_
      refine lv_istore_n (lv' := [(3, .int x9), (0, .ref ra), (1, .int (nI t)), (2, .int (nI cn))]) hx hb d_Ref_flush_38 rfl hl (by decide) rfl ?_
      clear hl ls
      intro ls hl
      exact kJ _ (lv_sub hl [0, 1, 2, 3] rfl)
  · intro ls hl
    refine lv_iconst (v := 0) hx hb d_Ref_flush_39 (by decide) ?_
    refine lv_istore (lv' := [(4, .int 0), (3, .int x9), (0, .ref ra), (1, .int (nI t)), (2, .int (nI cn))]) hx hb d_Ref_flush_40 hl (by decide) rfl ?_
    clear hl ls
    intro ls hl
    replace hP : va_P (dC, dI) classes [oc ra 8 [.int (nI T), .int (nI Ac), .ref (rA 2), .ref (rA 3), .ref (rA 4), .ref (rA 5), .ref (rA 6), .ref (rA 7), .ref (rA 8), .ref (rA 9), .ref (rA 10), .ref (rA 11), .ref (rA 12), .ref (rA 13), .int ir, .ref (rA 15), .ref (rA 16), .ref (rA 17), .ref (rA 18), .int (nI md), .int (nI wd), .ref (rA 21), .ref (rA 22), .ref (rA 23), .int (nI mn), .ref (rA 25), .int (nI cb), .int mr, .ref (rA 28), .ref (rA 29), .ref (rA 30), .ref (rA 31), .ref (rA 32), .ref (rA 33), .ref (rA 34), .ref (rA 35), .int (nI ld), .int (nI gm), .ref (rA 38), .ref (rA 39), .ref (rA 40), .ref (rA 41), .ref (rA 42), .ref (rA 43), .ref (rA 44), .ref (rA 45), .int (nI my), .ref (rA 47)], ia (rA 16) (rK9 16) 155 sf] s.heap := hP
    replace hl : lv_has ls 6 [(4, .int (nI 0)), (3, .int x9), (0, .ref ra), (1, .int (nI t)), (2, .int (nI cn))] := hl
    refine lp_n nb (fun i1 H locs ls => fF (inB sf t x9) (nb - i1) i1 = fF (inB sf t x9) nb 0 ∧ va_P (dC, dI) classes [oc ra 8 [.int (nI T), .int (nI Ac), .ref (rA 2), .ref (rA 3), .ref (rA 4), .ref (rA 5), .ref (rA 6), .ref (rA 7), .ref (rA 8), .ref (rA 9), .ref (rA 10), .ref (rA 11), .ref (rA 12), .ref (rA 13), .int ir, .ref (rA 15), .ref (rA 16), .ref (rA 17), .ref (rA 18), .int (nI md), .int (nI wd), .ref (rA 21), .ref (rA 22), .ref (rA 23), .int (nI mn), .ref (rA 25), .int (nI cb), .int mr, .ref (rA 28), .ref (rA 29), .ref (rA 30), .ref (rA 31), .ref (rA 32), .ref (rA 33), .ref (rA 34), .ref (rA 35), .int (nI ld), .int (nI gm), .ref (rA 38), .ref (rA 39), .ref (rA 40), .ref (rA 41), .ref (rA 42), .ref (rA 43), .ref (rA 44), .ref (rA 45), .int (nI my), .ref (rA 47)], ia (rA 16) (rK9 16) 155 sf] H ∧ va_S A s.heap H locs ∧ lv_has ls 6 [(4, .int (nI i1)), (3, .int x9), (0, .ref ra), (1, .int (nI t)), (2, .int (nI cn))]) ⟨rfl, hP, hS, hl⟩ ?_ ?_
    · intro i1 H locs ls hi1 hI ih_i1
      obtain ⟨hinv, hP, hS, hl⟩ := hI
      refine lv_iload hx hb d_Ref_flush_42 (lv_at hl 0 rfl) ?_
      refine lv_aload_n hx hb d_Ref_flush_44 rfl (lv_at hl 2 rfl) ?_
      refine va_get (D := (dC, dI)) (ci := 8) (v := .ref (rA 16)) (C := R_Ref) (T := F_Ref) (N := 48) hx hb hw i_Ref hown hK hP 0 rfl rfl 16 (by decide) (hw _ m_915) (fun _ h9 => h9) rfl d_Ref_flush_45 ?_
      refine lv_bipush (v := 15) hx hb d_Ref_flush_48 (by decide) ?_
      refine va_iald (D := (dC, dI)) hx hb hK hP 1 0 rfl rfl (i := 15) (pk_in 15 155 (by omega)) d_Ref_flush_50 ?_
      refine tp_i (y := sf 15) (by rw [show (15 : Int32).toNatClampNeg = 15 from pk_cl 15]) ?_
      refine tp_i (y := nI nb) hnb ?_
      refine lv_icmp_ge (tgt := 71) hx hb d_Ref_flush_51 (by decide) (fun c9 => absurd c9 (nI_ge hi1 (by omega))) (fun c9 => ?_)
      rw [show nb - i1 = (nb - (i1 + 1)) + 1 from by omega, fF] at hinv
      refine tp_pc (pc' := 54) (by rfl) ?_
      refine lv_aload_n hx hb d_Ref_flush_54 rfl (lv_at hl 2 rfl) ?_
      refine lv_iload hx hb d_Ref_flush_55 (lv_at hl 0 rfl) ?_
      refine lv_iload_n hx hb d_Ref_flush_57 rfl (lv_at hl 3 rfl) ?_
      refine lv_iload_n hx hb d_Ref_flush_58 rfl (lv_at hl 1 rfl) ?_
      obtain ⟨hPc, hDc, hFc⟩ := cut3 (wc := [oc ra 8 [.int (nI T), .int (nI Ac), .ref (rA 2), .ref (rA 3), .ref (rA 4), .ref (rA 5), .ref (rA 6), .ref (rA 7), .ref (rA 8), .ref (rA 9), .ref (rA 10), .ref (rA 11), .ref (rA 12), .ref (rA 13), .int ir, .ref (rA 15), .ref (rA 16), .ref (rA 17), .ref (rA 18), .int (nI md), .int (nI wd), .ref (rA 21), .ref (rA 22), .ref (rA 23), .int (nI mn), .ref (rA 25), .int (nI cb), .int mr, .ref (rA 28), .ref (rA 29), .ref (rA 30), .ref (rA 31), .ref (rA 32), .ref (rA 33), .ref (rA 34), .ref (rA 35), .int (nI ld), .int (nI gm), .ref (rA 38), .ref (rA 39), .ref (rA 40), .ref (rA 41), .ref (rA 42), .ref (rA 43), .ref (rA 44), .ref (rA 45), .int (nI my), .ref (rA 47)], ia (rA 16) (rK9 16) 155 sf]) hP hD rfl hS hA [0, 1] (by decide +kernel) rfl
      have hKc := hK.sub (tys' := [((rK9 16), .int)]) [0] rfl
      refine va_calli (va_runV (As := [.int (nI i1), .int (nI t), .int x9]) (rest := []) ⟨hx, hb, hml, hown, hw⟩ (gen_Ref_isIn l dC dI ra rA rK9 T Ac md wd mn cb ld gm my ir mr i1 t x9 sf (by omega) H.size) (cw_V 3 hw g_Ref_isIn rfl rfl rfl (hw _ m_109) (hw _ m_1105) (hw _ m_1107) (hw _ m_61) (by decide +kernel) ⟨Nat.le_of_ble_eq_true rfl, Nat.le_of_ble_eq_true rfl⟩) ⟨fun a U g mk q => by obtain ⟨q0, q1, qP, qK, qD, qN⟩ := q; exact ⟨q0, q1, qP, va_K.moved (u := U) (U := U.calling g mk a) (Vm.Alike.refl U.vm) qK, qD, nw_call qN⟩, va_recv hKc hPc (ci := 8) (q0 := 0) rfl rfl, fun U hU hW => ⟨rfl, by rw [hU], by rw [hU]; exact hPc, va_K.moved hW.alike hKc, hDc.weaken (fun _ _ _ _ => trivial), nw_warm hW hn⟩⟩ rfl rfl hl.1 rfl (lv_room (Nat.le_of_ble_eq_true rfl)) d_Ref_flush_59 ⟨Nat.le_of_ble_eq_true rfl, Nat.le_of_ble_eq_true rfl⟩) hS (fun q _ h => hFc q h) hFc ?_
      intro r_1 u t9 H1 locs1 ht9 hvm hw1 hB hz1 hk1 hS1
      obtain ⟨hP1, hK1, hD1⟩ := hB
      rw [ht9] at hP1
      replace hK1 := va_K.moved hvm.symm hK1
      have hPD := join3 hP hD rfl [0, 1] [] rfl (by rfl) (by decide +kernel) (by decide +kernel) hk1 hFc hP1 hD1
      replace hK : va_K (dC, dI) classes [((rK9 16), .int)] s := hK.app hK1
      clear hP1 hK1 hD1 hk1 hz1 hFc hKc hDc hPc hvm ht9 hP hS t9 locs H
      have hP : va_P (dC, dI) classes [oc ra 8 [.int (nI T), .int (nI Ac), .ref (rA 2), .ref (rA 3), .ref (rA 4), .ref (rA 5), .ref (rA 6), .ref (rA 7), .ref (rA 8), .ref (rA 9), .ref (rA 10), .ref (rA 11), .ref (rA 12), .ref (rA 13), .int ir, .ref (rA 15), .ref (rA 16), .ref (rA 17), .ref (rA 18), .int (nI md), .int (nI wd), .ref (rA 21), .ref (rA 22), .ref (rA 23), .int (nI mn), .ref (rA 25), .int (nI cb), .int mr, .ref (rA 28), .ref (rA 29), .ref (rA 30), .ref (rA 31), .ref (rA 32), .ref (rA 33), .ref (rA 34), .ref (rA 35), .int (nI ld), .int (nI gm), .ref (rA 38), .ref (rA 39), .ref (rA 40), .ref (rA 41), .ref (rA 42), .ref (rA 43), .ref (rA 44), .ref (rA 45), .int (nI my), .ref (rA 47)], ia (rA 16) (rK9 16) 155 sf] H1 := hPD.1
      replace hD : dd A [ra, (rA 16)] := dd_of hPD.2 rfl
      clear hPD
      revert H1 locs1
      intro H locs hS hP
      refine tp_i (y := (if sf (16 + i1) = nI t ∧ (x9 < 0 ∨ sf (23 + i1) = x9) then 1 else 0)) (hw1) ?_
      clear hw1 r_1 u
      by_cases hcd : sf (16 + i1) = nI t ∧ (x9 < 0 ∨ sf (23 + i1) = x9)
      · skip
        rw [if_pos hcd]
        rw [if_pos (by unfold inB; exact decide_eq_true hcd)] at hinv
        obtain ⟨b1x, b2x⟩ := hbx i1 hi1
        refine tp_pc (pc' := 62) (by rfl) ?_
        refine lv_if_ne (tgt := 71) hx hb d_Ref_flush_62 (by decide) (fun c_2 => ?_) (fun c_2 => absurd c_2 (by decide))
        refine tp_pc (pc' := 71) (by rfl) ?_
        refine lv_iload hx hb d_Ref_flush_71 (lv_at hl 0 rfl) ?_
        refine lv_aload_n hx hb d_Ref_flush_73 rfl (lv_at hl 2 rfl) ?_
        refine va_get (D := (dC, dI)) (ci := 8) (v := .ref (rA 16)) (C := R_Ref) (T := F_Ref) (N := 48) hx hb hw i_Ref hown hK hP 0 rfl rfl 16 (by decide) (hw _ m_915) (fun _ h9 => h9) rfl d_Ref_flush_74 ?_
        refine lv_bipush (v := 15) hx hb d_Ref_flush_77 (by decide) ?_
        refine va_iald (D := (dC, dI)) hx hb hK hP 1 0 rfl rfl (i := 15) (pk_in 15 155 (by omega)) d_Ref_flush_79 ?_
        refine tp_i (y := sf 15) (by rw [show (15 : Int32).toNatClampNeg = 15 from pk_cl 15]) ?_
        refine tp_i (y := nI nb) hnb ?_
        refine lv_icmp_ne (tgt := 85) hx hb d_Ref_flush_80 (by decide) (fun c9 => ?_) (fun c9 => absurd ((nI_eq (a := i1) (b := nb) (by omega) (by omega)).mp c9) (by omega))
        refine tp_pc (pc' := 85) (by rfl) ?_
        refine lv_aload_n hx hb d_Ref_flush_85 rfl (lv_at hl 2 rfl) ?_
        refine va_get (D := (dC, dI)) (ci := 8) (v := .ref (rA 16)) (C := R_Ref) (T := F_Ref) (N := 48) hx hb hw i_Ref hown hK hP 0 rfl rfl 16 (by decide) (hw _ m_915) (fun _ h9 => h9) rfl d_Ref_flush_86 ?_
        refine lv_bipush (v := 12) hx hb d_Ref_flush_89 (by decide) ?_
        refine lv_aload_n hx hb d_Ref_flush_91 rfl (lv_at hl 2 rfl) ?_
        refine va_get (D := (dC, dI)) (ci := 8) (v := .ref (rA 16)) (C := R_Ref) (T := F_Ref) (N := 48) hx hb hw i_Ref hown hK hP 0 rfl rfl 16 (by decide) (hw _ m_915) (fun _ h9 => h9) rfl d_Ref_flush_92 ?_
        refine lv_bipush (v := 23) hx hb d_Ref_flush_95 (by decide) ?_
        refine lv_iload hx hb d_Ref_flush_97 (lv_at hl 0 rfl) ?_
        refine lv_iadd hx hb d_Ref_flush_99 ?_
        refine tp_i (y := nI (23 + i1)) (by exact nI_add 23 i1) ?_
        refine va_iald (D := (dC, dI)) hx hb hK hP 1 0 rfl rfl (i := nI (23 + i1)) (pk_in (23 + i1) 155 (by omega)) d_Ref_flush_100 ?_
        refine tp_i (y := sf (23 + i1)) (by rw [show (nI (23 + i1) : Int32).toNatClampNeg = 23 + i1 from pk_cl (23 + i1)]) ?_
        refine tp_i (y := nI (bx i1)) b1x ?_
        refine lv_iadd hx hb d_Ref_flush_101 ?_
        refine tp_i (y := nI (12 + (bx i1))) (by exact nI_add 12 (bx i1)) ?_
        refine lv_aload_n hx hb d_Ref_flush_102 rfl (lv_at hl 2 rfl) ?_
        refine va_get (D := (dC, dI)) (ci := 8) (v := .ref (rA 16)) (C := R_Ref) (T := F_Ref) (N := 48) hx hb hw i_Ref hown hK hP 0 rfl rfl 16 (by decide) (hw _ m_915) (fun _ h9 => h9) rfl d_Ref_flush_103 ?_
        refine lv_bipush (v := 30) hx hb d_Ref_flush_106 (by decide) ?_
        refine lv_iload hx hb d_Ref_flush_108 (lv_at hl 0 rfl) ?_
        refine lv_iadd hx hb d_Ref_flush_110 ?_
        refine tp_i (y := nI (30 + i1)) (by exact nI_add 30 i1) ?_
        refine va_iald (D := (dC, dI)) hx hb hK hP 1 0 rfl rfl (i := nI (30 + i1)) (pk_in (30 + i1) 155 (by omega)) d_Ref_flush_111 ?_
        refine tp_i (y := sf (30 + i1)) (by rw [show (nI (30 + i1) : Int32).toNatClampNeg = 30 + i1 from pk_cl (30 + i1)]) ?_
        refine va_iast (D := (dC, dI)) hx hb hK hP (dd_D hD rfl) hS 1 0 rfl rfl (i := nI (12 + (bx i1))) (x := sf (30 + i1)) (pk_in (12 + (bx i1)) 155 (by omega)) d_Ref_flush_112 ?_
        clear hP hS locs H
        intro H locs hP _ hS
        rw [show (nI (12 + (bx i1)) : Int32).toNatClampNeg = 12 + (bx i1) from pk_cl (12 + (bx i1))] at hP
        replace hP : va_P (dC, dI) classes [oc ra 8 [.int (nI T), .int (nI Ac), .ref (rA 2), .ref (rA 3), .ref (rA 4), .ref (rA 5), .ref (rA 6), .ref (rA 7), .ref (rA 8), .ref (rA 9), .ref (rA 10), .ref (rA 11), .ref (rA 12), .ref (rA 13), .int ir, .ref (rA 15), .ref (rA 16), .ref (rA 17), .ref (rA 18), .int (nI md), .int (nI wd), .ref (rA 21), .ref (rA 22), .ref (rA 23), .int (nI mn), .ref (rA 25), .int (nI cb), .int mr, .ref (rA 28), .ref (rA 29), .ref (rA 30), .ref (rA 31), .ref (rA 32), .ref (rA 33), .ref (rA 34), .ref (rA 35), .int (nI ld), .int (nI gm), .ref (rA 38), .ref (rA 39), .ref (rA 40), .ref (rA 41), .ref (rA 42), .ref (rA 43), .ref (rA 44), .ref (rA 45), .int (nI my), .ref (rA 47)], ia (rA 16) (rK9 16) 155 (upd sf (12 + (bx i1)) (sf (30 + i1)))] H := hP
        refine tp_pc (pc' := 113) (by rfl) ?_
        refine lv_aload_n hx hb d_Ref_flush_113 rfl (lv_at hl 2 rfl) ?_
        refine va_get (D := (dC, dI)) (ci := 8) (v := .ref (rA 16)) (C := R_Ref) (T := F_Ref) (N := 48) hx hb hw i_Ref hown hK hP 0 rfl rfl 16 (by decide) (hw _ m_915) (fun _ h9 => h9) rfl d_Ref_flush_114 ?_
        refine lv_bipush (v := 15) hx hb d_Ref_flush_117 (by decide) ?_
        refine lv_dup2_11 hx hb d_Ref_flush_119 rfl rfl ?_
        refine va_iald (D := (dC, dI)) hx hb hK hP 1 0 rfl rfl (i := 15) (pk_in 15 155 (by omega)) d_Ref_flush_120 ?_
        refine tp_i (y := (upd sf (12 + (bx i1)) (sf (30 + i1))) 15) (by rw [show (15 : Int32).toNatClampNeg = 15 from pk_cl 15]) ?_
        refine tp_i (y := nI nb) (by rw [pk_un (by omega)]; exact hnb) ?_
        refine lv_iconst (v := 1) hx hb d_Ref_flush_121 (by decide) ?_
        refine lv_isub hx hb d_Ref_flush_122 ?_
        refine tp_i (y := nI (nb - 1)) (by exact pk_sub (a := nb) (b := 1) (by omega)) ?_
        refine va_iast (D := (dC, dI)) hx hb hK hP (dd_D hD rfl) hS 1 0 rfl rfl (i := 15) (x := nI (nb - 1)) (pk_in 15 155 (by omega)) d_Ref_flush_123 ?_
        clear hP hS locs H
        intro H locs hP _ hS
        rw [show (15 : Int32).toNatClampNeg = 15 from pk_cl 15] at hP
        replace hP : va_P (dC, dI) classes [oc ra 8 [.int (nI T), .int (nI Ac), .ref (rA 2), .ref (rA 3), .ref (rA 4), .ref (rA 5), .ref (rA 6), .ref (rA 7), .ref (rA 8), .ref (rA 9), .ref (rA 10), .ref (rA 11), .ref (rA 12), .ref (rA 13), .int ir, .ref (rA 15), .ref (rA 16), .ref (rA 17), .ref (rA 18), .int (nI md), .int (nI wd), .ref (rA 21), .ref (rA 22), .ref (rA 23), .int (nI mn), .ref (rA 25), .int (nI cb), .int mr, .ref (rA 28), .ref (rA 29), .ref (rA 30), .ref (rA 31), .ref (rA 32), .ref (rA 33), .ref (rA 34), .ref (rA 35), .int (nI ld), .int (nI gm), .ref (rA 38), .ref (rA 39), .ref (rA 40), .ref (rA 41), .ref (rA 42), .ref (rA 43), .ref (rA 44), .ref (rA 45), .int (nI my), .ref (rA 47)], ia (rA 16) (rK9 16) 155 (upd (upd sf (12 + (bx i1)) (sf (30 + i1))) 15 (nI (nb - 1)))] H := hP
        refine tp_pc (pc' := 124) (by rfl) ?_
        refine lv_iload hx hb d_Ref_flush_124 (lv_at hl 0 rfl) ?_
        refine lv_istore (lv' := [(5, .int (nI i1)), (4, .int (nI i1)), (3, .int x9), (0, .ref ra), (1, .int (nI t)), (2, .int (nI cn))]) hx hb d_Ref_flush_126 hl (by decide) rfl ?_
        clear hl ls
        intro ls hl
        obtain ⟨B9, hB9⟩ : ∃ B9, B9 = flB sf bx nb i1 := ⟨_, rfl⟩
        have h15 : B9 15 = nI (nb - 1) := by rw [hB9]; exact pk_us
        replace hP : va_P (dC, dI) classes [oc ra 8 [.int (nI T), .int (nI Ac), .ref (rA 2), .ref (rA 3), .ref (rA 4), .ref (rA 5), .ref (rA 6), .ref (rA 7), .ref (rA 8), .ref (rA 9), .ref (rA 10), .ref (rA 11), .ref (rA 12), .ref (rA 13), .int ir, .ref (rA 15), .ref (rA 16), .ref (rA 17), .ref (rA 18), .int (nI md), .int (nI wd), .ref (rA 21), .ref (rA 22), .ref (rA 23), .int (nI mn), .ref (rA 25), .int (nI cb), .int mr, .ref (rA 28), .ref (rA 29), .ref (rA 30), .ref (rA 31), .ref (rA 32), .ref (rA 33), .ref (rA 34), .ref (rA 35), .int (nI ld), .int (nI gm), .ref (rA 38), .ref (rA 39), .ref (rA 40), .ref (rA 41), .ref (rA 42), .ref (rA 43), .ref (rA 44), .ref (rA 45), .int (nI my), .ref (rA 47)], ia (rA 16) (rK9 16) 155 B9] H := by rw [hB9]; exact hP
        replace hP : va_P (dC, dI) classes [oc ra 8 [.int (nI T), .int (nI Ac), .ref (rA 2), .ref (rA 3), .ref (rA 4), .ref (rA 5), .ref (rA 6), .ref (rA 7), .ref (rA 8), .ref (rA 9), .ref (rA 10), .ref (rA 11), .ref (rA 12), .ref (rA 13), .int ir, .ref (rA 15), .ref (rA 16), .ref (rA 17), .ref (rA 18), .int (nI md), .int (nI wd), .ref (rA 21), .ref (rA 22), .ref (rA 23), .int (nI mn), .ref (rA 25), .int (nI cb), .int mr, .ref (rA 28), .ref (rA 29), .ref (rA 30), .ref (rA 31), .ref (rA 32), .ref (rA 33), .ref (rA 34), .ref (rA 35), .int (nI ld), .int (nI gm), .ref (rA 38), .ref (rA 39), .ref (rA 40), .ref (rA 41), .ref (rA 42), .ref (rA 43), .ref (rA 44), .ref (rA 45), .int (nI my), .ref (rA 47)], ia (rA 16) (rK9 16) 155 (shN3 B9 i1 0)] H := hP
        replace hl : lv_has ls 6 [(5, .int (nI (i1 + 0))), (4, .int (nI i1)), (3, .int x9), (0, .ref ra), (1, .int (nI t)), (2, .int (nI cn))] := hl
        refine lp_n (nb - 1 - i1) (fun i2 H locs ls => va_P (dC, dI) classes [oc ra 8 [.int (nI T), .int (nI Ac), .ref (rA 2), .ref (rA 3), .ref (rA 4), .ref (rA 5), .ref (rA 6), .ref (rA 7), .ref (rA 8), .ref (rA 9), .ref (rA 10), .ref (rA 11), .ref (rA 12), .ref (rA 13), .int ir, .ref (rA 15), .ref (rA 16), .ref (rA 17), .ref (rA 18), .int (nI md), .int (nI wd), .ref (rA 21), .ref (rA 22), .ref (rA 23), .int (nI mn), .ref (rA 25), .int (nI cb), .int mr, .ref (rA 28), .ref (rA 29), .ref (rA 30), .ref (rA 31), .ref (rA 32), .ref (rA 33), .ref (rA 34), .ref (rA 35), .int (nI ld), .int (nI gm), .ref (rA 38), .ref (rA 39), .ref (rA 40), .ref (rA 41), .ref (rA 42), .ref (rA 43), .ref (rA 44), .ref (rA 45), .int (nI my), .ref (rA 47)], ia (rA 16) (rK9 16) 155 (shN3 B9 i1 i2)] H ∧ va_S A s.heap H locs ∧ lv_has ls 6 [(5, .int (nI (i1 + i2))), (4, .int (nI i1)), (3, .int x9), (0, .ref ra), (1, .int (nI t)), (2, .int (nI cn))]) ⟨hP, hS, hl⟩ ?_ ?_
        · intro i2 H locs ls hi2 hI ih_i2
          obtain ⟨hP, hS, hl⟩ := hI
          have s15 := shN3_15 (f := B9) (k := i1) i2
          rw [h15] at s15
          refine lv_iload hx hb d_Ref_flush_128 (lv_at hl 0 rfl) ?_
          refine lv_aload_n hx hb d_Ref_flush_130 rfl (lv_at hl 3 rfl) ?_
          refine va_get (D := (dC, dI)) (ci := 8) (v := .ref (rA 16)) (C := R_Ref) (T := F_Ref) (N := 48) hx hb hw i_Ref hown hK hP 0 rfl rfl 16 (by decide) (hw _ m_915) (fun _ h9 => h9) rfl d_Ref_flush_131 ?_
          refine lv_bipush (v := 15) hx hb d_Ref_flush_134 (by decide) ?_
          refine va_iald (D := (dC, dI)) hx hb hK hP 1 0 rfl rfl (i := 15) (pk_in 15 155 (by omega)) d_Ref_flush_136 ?_
          refine tp_i (y := (shN3 B9 i1 i2) 15) (by rw [show (15 : Int32).toNatClampNeg = 15 from pk_cl 15]) ?_
          refine tp_i (y := nI (nb - 1)) s15 ?_
          refine lv_icmp_ge (tgt := 212) hx hb d_Ref_flush_137 (by decide) (fun c9 => absurd c9 (nI_ge (by omega) (by omega))) (fun c9 => ?_)
          refine tp_pc (pc' := 140) (by rfl) ?_
          refine lv_aload_n hx hb d_Ref_flush_140 rfl (lv_at hl 3 rfl) ?_
          refine va_get (D := (dC, dI)) (ci := 8) (v := .ref (rA 16)) (C := R_Ref) (T := F_Ref) (N := 48) hx hb hw i_Ref hown hK hP 0 rfl rfl 16 (by decide) (hw _ m_915) (fun _ h9 => h9) rfl d_Ref_flush_141 ?_
          refine lv_bipush (v := 16) hx hb d_Ref_flush_144 (by decide) ?_
          refine lv_iload hx hb d_Ref_flush_146 (lv_at hl 0 rfl) ?_
          refine lv_iadd hx hb d_Ref_flush_148 ?_
          refine tp_i (y := nI (16 + (i1 + i2))) (by exact nI_add 16 (i1 + i2)) ?_
          refine lv_aload_n hx hb d_Ref_flush_149 rfl (lv_at hl 3 rfl) ?_
          refine va_get (D := (dC, dI)) (ci := 8) (v := .ref (rA 16)) (C := R_Ref) (T := F_Ref) (N := 48) hx hb hw i_Ref hown hK hP 0 rfl rfl 16 (by decide) (hw _ m_915) (fun _ h9 => h9) rfl d_Ref_flush_150 ?_
          refine lv_bipush (v := 16) hx hb d_Ref_flush_153 (by decide) ?_
          refine lv_iload hx hb d_Ref_flush_155 (lv_at hl 0 rfl) ?_
          refine lv_iadd hx hb d_Ref_flush_157 ?_
          refine tp_i (y := nI (16 + (i1 + i2))) (by exact nI_add 16 (i1 + i2)) ?_
          refine lv_iconst (v := 1) hx hb d_Ref_flush_158 (by decide) ?_
          refine lv_iadd hx hb d_Ref_flush_159 ?_
          refine tp_i (y := nI (16 + (i1 + i2) + 1)) (by exact nI_add (16 + (i1 + i2)) 1) ?_
          refine va_iald (D := (dC, dI)) hx hb hK hP 1 0 rfl rfl (i := nI (16 + (i1 + i2) + 1)) (pk_in (16 + (i1 + i2) + 1) 155 (by omega)) d_Ref_flush_160 ?_
          refine tp_i (y := (shN3 B9 i1 i2) (16 + (i1 + i2) + 1)) (by rw [show (nI (16 + (i1 + i2) + 1) : Int32).toNatClampNeg = 16 + (i1 + i2) + 1 from pk_cl (16 + (i1 + i2) + 1)]) ?_
          refine va_iast (D := (dC, dI)) hx hb hK hP (dd_D hD rfl) hS 1 0 rfl rfl (i := nI (16 + (i1 + i2))) (x := (shN3 B9 i1 i2) (16 + (i1 + i2) + 1)) (pk_in (16 + (i1 + i2)) 155 (by omega)) d_Ref_flush_161 ?_
          clear hP hS locs H
          intro H locs hP _ hS
          rw [show (nI (16 + (i1 + i2)) : Int32).toNatClampNeg = 16 + (i1 + i2) from pk_cl (16 + (i1 + i2))] at hP
          replace hP : va_P (dC, dI) classes [oc ra 8 [.int (nI T), .int (nI Ac), .ref (rA 2), .ref (rA 3), .ref (rA 4), .ref (rA 5), .ref (rA 6), .ref (rA 7), .ref (rA 8), .ref (rA 9), .ref (rA 10), .ref (rA 11), .ref (rA 12), .ref (rA 13), .int ir, .ref (rA 15), .ref (rA 16), .ref (rA 17), .ref (rA 18), .int (nI md), .int (nI wd), .ref (rA 21), .ref (rA 22), .ref (rA 23), .int (nI mn), .ref (rA 25), .int (nI cb), .int mr, .ref (rA 28), .ref (rA 29), .ref (rA 30), .ref (rA 31), .ref (rA 32), .ref (rA 33), .ref (rA 34), .ref (rA 35), .int (nI ld), .int (nI gm), .ref (rA 38), .ref (rA 39), .ref (rA 40), .ref (rA 41), .ref (rA 42), .ref (rA 43), .ref (rA 44), .ref (rA 45), .int (nI my), .ref (rA 47)], ia (rA 16) (rK9 16) 155 (upd (shN3 B9 i1 i2) (16 + (i1 + i2)) ((shN3 B9 i1 i2) (16 + (i1 + i2) + 1)))] H := hP
          refine tp_pc (pc' := 162) (by rfl) ?_
          refine lv_aload_n hx hb d_Ref_flush_162 rfl (lv_at hl 3 rfl) ?_
          refine va_get (D := (dC, dI)) (ci := 8) (v := .ref (rA 16)) (C := R_Ref) (T := F_Ref) (N := 48) hx hb hw i_Ref hown hK hP 0 rfl rfl 16 (by decide) (hw _ m_915) (fun _ h9 => h9) rfl d_Ref_flush_163 ?_
          refine lv_bipush (v := 23) hx hb d_Ref_flush_166 (by decide) ?_
          refine lv_iload hx hb d_Ref_flush_168 (lv_at hl 0 rfl) ?_
          refine lv_iadd hx hb d_Ref_flush_170 ?_
          refine tp_i (y := nI (23 + (i1 + i2))) (by exact nI_add 23 (i1 + i2)) ?_
          refine lv_aload_n hx hb d_Ref_flush_171 rfl (lv_at hl 3 rfl) ?_
          refine va_get (D := (dC, dI)) (ci := 8) (v := .ref (rA 16)) (C := R_Ref) (T := F_Ref) (N := 48) hx hb hw i_Ref hown hK hP 0 rfl rfl 16 (by decide) (hw _ m_915) (fun _ h9 => h9) rfl d_Ref_flush_172 ?_
          refine lv_bipush (v := 23) hx hb d_Ref_flush_175 (by decide) ?_
          refine lv_iload hx hb d_Ref_flush_177 (lv_at hl 0 rfl) ?_
          refine lv_iadd hx hb d_Ref_flush_179 ?_
          refine tp_i (y := nI (23 + (i1 + i2))) (by exact nI_add 23 (i1 + i2)) ?_
          refine lv_iconst (v := 1) hx hb d_Ref_flush_180 (by decide) ?_
          refine lv_iadd hx hb d_Ref_flush_181 ?_
          refine tp_i (y := nI (23 + (i1 + i2) + 1)) (by exact nI_add (23 + (i1 + i2)) 1) ?_
          refine va_iald (D := (dC, dI)) hx hb hK hP 1 0 rfl rfl (i := nI (23 + (i1 + i2) + 1)) (pk_in (23 + (i1 + i2) + 1) 155 (by omega)) d_Ref_flush_182 ?_
          refine tp_i (y := (upd (shN3 B9 i1 i2) (16 + (i1 + i2)) ((shN3 B9 i1 i2) (16 + (i1 + i2) + 1))) (23 + (i1 + i2) + 1)) (by rw [show (nI (23 + (i1 + i2) + 1) : Int32).toNatClampNeg = 23 + (i1 + i2) + 1 from pk_cl (23 + (i1 + i2) + 1)]) ?_
          refine va_iast (D := (dC, dI)) hx hb hK hP (dd_D hD rfl) hS 1 0 rfl rfl (i := nI (23 + (i1 + i2))) (x := (upd (shN3 B9 i1 i2) (16 + (i1 + i2)) ((shN3 B9 i1 i2) (16 + (i1 + i2) + 1))) (23 + (i1 + i2) + 1)) (pk_in (23 + (i1 + i2)) 155 (by omega)) d_Ref_flush_183 ?_
          clear hP hS locs H
          intro H locs hP _ hS
          rw [show (nI (23 + (i1 + i2)) : Int32).toNatClampNeg = 23 + (i1 + i2) from pk_cl (23 + (i1 + i2))] at hP
          replace hP : va_P (dC, dI) classes [oc ra 8 [.int (nI T), .int (nI Ac), .ref (rA 2), .ref (rA 3), .ref (rA 4), .ref (rA 5), .ref (rA 6), .ref (rA 7), .ref (rA 8), .ref (rA 9), .ref (rA 10), .ref (rA 11), .ref (rA 12), .ref (rA 13), .int ir, .ref (rA 15), .ref (rA 16), .ref (rA 17), .ref (rA 18), .int (nI md), .int (nI wd), .ref (rA 21), .ref (rA 22), .ref (rA 23), .int (nI mn), .ref (rA 25), .int (nI cb), .int mr, .ref (rA 28), .ref (rA 29), .ref (rA 30), .ref (rA 31), .ref (rA 32), .ref (rA 33), .ref (rA 34), .ref (rA 35), .int (nI ld), .int (nI gm), .ref (rA 38), .ref (rA 39), .ref (rA 40), .ref (rA 41), .ref (rA 42), .ref (rA 43), .ref (rA 44), .ref (rA 45), .int (nI my), .ref (rA 47)], ia (rA 16) (rK9 16) 155 (upd (upd (shN3 B9 i1 i2) (16 + (i1 + i2)) ((shN3 B9 i1 i2) (16 + (i1 + i2) + 1))) (23 + (i1 + i2)) ((upd (shN3 B9 i1 i2) (16 + (i1 + i2)) ((shN3 B9 i1 i2) (16 + (i1 + i2) + 1))) (23 + (i1 + i2) + 1)))] H := hP
          refine tp_pc (pc' := 184) (by rfl) ?_
          refine lv_aload_n hx hb d_Ref_flush_184 rfl (lv_at hl 3 rfl) ?_
          refine va_get (D := (dC, dI)) (ci := 8) (v := .ref (rA 16)) (C := R_Ref) (T := F_Ref) (N := 48) hx hb hw i_Ref hown hK hP 0 rfl rfl 16 (by decide) (hw _ m_915) (fun _ h9 => h9) rfl d_Ref_flush_185 ?_
          refine lv_bipush (v := 30) hx hb d_Ref_flush_188 (by decide) ?_
          refine lv_iload hx hb d_Ref_flush_190 (lv_at hl 0 rfl) ?_
          refine lv_iadd hx hb d_Ref_flush_192 ?_
          refine tp_i (y := nI (30 + (i1 + i2))) (by exact nI_add 30 (i1 + i2)) ?_
          refine lv_aload_n hx hb d_Ref_flush_193 rfl (lv_at hl 3 rfl) ?_
          refine va_get (D := (dC, dI)) (ci := 8) (v := .ref (rA 16)) (C := R_Ref) (T := F_Ref) (N := 48) hx hb hw i_Ref hown hK hP 0 rfl rfl 16 (by decide) (hw _ m_915) (fun _ h9 => h9) rfl d_Ref_flush_194 ?_
          refine lv_bipush (v := 30) hx hb d_Ref_flush_197 (by decide) ?_
          refine lv_iload hx hb d_Ref_flush_199 (lv_at hl 0 rfl) ?_
          refine lv_iadd hx hb d_Ref_flush_201 ?_
          refine tp_i (y := nI (30 + (i1 + i2))) (by exact nI_add 30 (i1 + i2)) ?_
          refine lv_iconst (v := 1) hx hb d_Ref_flush_202 (by decide) ?_
          refine lv_iadd hx hb d_Ref_flush_203 ?_
          refine tp_i (y := nI (30 + (i1 + i2) + 1)) (by exact nI_add (30 + (i1 + i2)) 1) ?_
          refine va_iald (D := (dC, dI)) hx hb hK hP 1 0 rfl rfl (i := nI (30 + (i1 + i2) + 1)) (pk_in (30 + (i1 + i2) + 1) 155 (by omega)) d_Ref_flush_204 ?_
          refine tp_i (y := (upd (upd (shN3 B9 i1 i2) (16 + (i1 + i2)) ((shN3 B9 i1 i2) (16 + (i1 + i2) + 1))) (23 + (i1 + i2)) ((upd (shN3 B9 i1 i2) (16 + (i1 + i2)) ((shN3 B9 i1 i2) (16 + (i1 + i2) + 1))) (23 + (i1 + i2) + 1))) (30 + (i1 + i2) + 1)) (by rw [show (nI (30 + (i1 + i2) + 1) : Int32).toNatClampNeg = 30 + (i1 + i2) + 1 from pk_cl (30 + (i1 + i2) + 1)]) ?_
          refine va_iast (D := (dC, dI)) hx hb hK hP (dd_D hD rfl) hS 1 0 rfl rfl (i := nI (30 + (i1 + i2))) (x := (upd (upd (shN3 B9 i1 i2) (16 + (i1 + i2)) ((shN3 B9 i1 i2) (16 + (i1 + i2) + 1))) (23 + (i1 + i2)) ((upd (shN3 B9 i1 i2) (16 + (i1 + i2)) ((shN3 B9 i1 i2) (16 + (i1 + i2) + 1))) (23 + (i1 + i2) + 1))) (30 + (i1 + i2) + 1)) (pk_in (30 + (i1 + i2)) 155 (by omega)) d_Ref_flush_205 ?_
          clear hP hS locs H
          intro H locs hP _ hS
          rw [show (nI (30 + (i1 + i2)) : Int32).toNatClampNeg = 30 + (i1 + i2) from pk_cl (30 + (i1 + i2))] at hP
          replace hP : va_P (dC, dI) classes [oc ra 8 [.int (nI T), .int (nI Ac), .ref (rA 2), .ref (rA 3), .ref (rA 4), .ref (rA 5), .ref (rA 6), .ref (rA 7), .ref (rA 8), .ref (rA 9), .ref (rA 10), .ref (rA 11), .ref (rA 12), .ref (rA 13), .int ir, .ref (rA 15), .ref (rA 16), .ref (rA 17), .ref (rA 18), .int (nI md), .int (nI wd), .ref (rA 21), .ref (rA 22), .ref (rA 23), .int (nI mn), .ref (rA 25), .int (nI cb), .int mr, .ref (rA 28), .ref (rA 29), .ref (rA 30), .ref (rA 31), .ref (rA 32), .ref (rA 33), .ref (rA 34), .ref (rA 35), .int (nI ld), .int (nI gm), .ref (rA 38), .ref (rA 39), .ref (rA 40), .ref (rA 41), .ref (rA 42), .ref (rA 43), .ref (rA 44), .ref (rA 45), .int (nI my), .ref (rA 47)], ia (rA 16) (rK9 16) 155 (upd (upd (upd (shN3 B9 i1 i2) (16 + (i1 + i2)) ((shN3 B9 i1 i2) (16 + (i1 + i2) + 1))) (23 + (i1 + i2)) ((upd (shN3 B9 i1 i2) (16 + (i1 + i2)) ((shN3 B9 i1 i2) (16 + (i1 + i2) + 1))) (23 + (i1 + i2) + 1))) (30 + (i1 + i2)) ((upd (upd (shN3 B9 i1 i2) (16 + (i1 + i2)) ((shN3 B9 i1 i2) (16 + (i1 + i2) + 1))) (23 + (i1 + i2)) ((upd (shN3 B9 i1 i2) (16 + (i1 + i2)) ((shN3 B9 i1 i2) (16 + (i1 + i2) + 1))) (23 + (i1 + i2) + 1))) (30 + (i1 + i2) + 1)))] H := hP
          refine tp_pc (pc' := 206) (by rfl) ?_
          refine lv_iinc (v := nI (i1 + i2 + 1)) (lv' := [(5, .int (nI (i1 + i2 + 1))), (4, .int (nI i1)), (3, .int x9), (0, .ref ra), (1, .int (nI t)), (2, .int (nI cn))]) hx hb d_Ref_flush_206 hl (k := 0) rfl (by exact nI_1 (i1 + i2)) (by decide) rfl ?_
          clear hl ls
          intro ls hl
          refine lv_goto (tgt := 128) hx hb d_Ref_flush_209 (by decide) ?_
          refine tp_pc (pc' := 128) (by rfl) ?_
          replace hP : va_P (dC, dI) classes [oc ra 8 [.int (nI T), .int (nI Ac), .ref (rA 2), .ref (rA 3), .ref (rA 4), .ref (rA 5), .ref (rA 6), .ref (rA 7), .ref (rA 8), .ref (rA 9), .ref (rA 10), .ref (rA 11), .ref (rA 12), .ref (rA 13), .int ir, .ref (rA 15), .ref (rA 16), .ref (rA 17), .ref (rA 18), .int (nI md), .int (nI wd), .ref (rA 21), .ref (rA 22), .ref (rA 23), .int (nI mn), .ref (rA 25), .int (nI cb), .int mr, .ref (rA 28), .ref (rA 29), .ref (rA 30), .ref (rA 31), .ref (rA 32), .ref (rA 33), .ref (rA 34), .ref (rA 35), .int (nI ld), .int (nI gm), .ref (rA 38), .ref (rA 39), .ref (rA 40), .ref (rA 41), .ref (rA 42), .ref (rA 43), .ref (rA 44), .ref (rA 45), .int (nI my), .ref (rA 47)], ia (rA 16) (rK9 16) 155 (shN3 B9 i1 (i2 + 1))] H := hP
          obtain ⟨hP8, -, -⟩ := cut3 (wc := [oc ra 8 [.int (nI T), .int (nI Ac), .ref (rA 2), .ref (rA 3), .ref (rA 4), .ref (rA 5), .ref (rA 6), .ref (rA 7), .ref (rA 8), .ref (rA 9), .ref (rA 10), .ref (rA 11), .ref (rA 12), .ref (rA 13), .int ir, .ref (rA 15), .ref (rA 16), .ref (rA 17), .ref (rA 18), .int (nI md), .int (nI wd), .ref (rA 21), .ref (rA 22), .ref (rA 23), .int (nI mn), .ref (rA 25), .int (nI cb), .int mr, .ref (rA 28), .ref (rA 29), .ref (rA 30), .ref (rA 31), .ref (rA 32), .ref (rA 33), .ref (rA 34), .ref (rA 35), .int (nI ld), .int (nI gm), .ref (rA 38), .ref (rA 39), .ref (rA 40), .ref (rA 41), .ref (rA 42), .ref (rA 43), .ref (rA 44), .ref (rA 45), .int (nI my), .ref (rA 47)], ia (rA 16) (rK9 16) 155 (shN3 B9 i1 (i2 + 1))]) hP hD rfl hS hA [0, 1] (by decide +kernel) rfl
          exact ih_i2 _ _ _ ⟨hP8, hS, lv_sub hl [0, 1, 2, 3, 4, 5] rfl⟩
        · intro H locs ls hI
          obtain ⟨hP, hS, hl⟩ := hI
          have s15 := shN3_15 (f := B9) (k := i1) (nb - 1 - i1)
          rw [h15] at s15
          refine lv_iload hx hb d_Ref_flush_128 (lv_at hl 0 rfl) ?_
          refine lv_aload_n hx hb d_Ref_flush_130 rfl (lv_at hl 3 rfl) ?_
          refine va_get (D := (dC, dI)) (ci := 8) (v := .ref (rA 16)) (C := R_Ref) (T := F_Ref) (N := 48) hx hb hw i_Ref hown hK hP 0 rfl rfl 16 (by decide) (hw _ m_915) (fun _ h9 => h9) rfl d_Ref_flush_131 ?_
          refine lv_bipush (v := 15) hx hb d_Ref_flush_134 (by decide) ?_
          refine va_iald (D := (dC, dI)) hx hb hK hP 1 0 rfl rfl (i := 15) (pk_in 15 155 (by omega)) d_Ref_flush_136 ?_
          refine tp_i (y := (shN3 B9 i1 (nb - 1 - i1)) 15) (by rw [show (15 : Int32).toNatClampNeg = 15 from pk_cl 15]) ?_
          refine tp_i (y := nI (nb - 1)) s15 ?_
          refine lv_icmp_ge (tgt := 212) hx hb d_Ref_flush_137 (by decide) (fun c9 => ?_) (fun c9 => absurd (nI_le (by omega) (by omega)) c9)
          have hfl : flF sf t x9 bx nb = shN3 B9 i1 (nb - 1 - i1) := by rw [flF, if_neg (by omega), ← hinv, Nat.add_sub_cancel, ← hB9]
          rw [← hfl] at hP
          replace hP : va_P (dC, dI) classes [oc ra 8 [.int (nI T), .int (nI Ac), .ref (rA 2), .ref (rA 3), .ref (rA 4), .ref (rA 5), .ref (rA 6), .ref (rA 7), .ref (rA 8), .ref (rA 9), .ref (rA 10), .ref (rA 11), .ref (rA 12), .ref (rA 13), .int ir, .ref (rA 15), .ref (rA 16), .ref (rA 17), .ref (rA 18), .int (nI md), .int (nI wd), .ref (rA 21), .ref (rA 22), .ref (rA 23), .int (nI mn), .ref (rA 25), .int (nI cb), .int mr, .ref (rA 28), .ref (rA 29), .ref (rA 30), .ref (rA 31), .ref (rA 32), .ref (rA 33), .ref (rA 34), .ref (rA 35), .int (nI ld), .int (nI gm), .ref (rA 38), .ref (rA 39), .ref (rA 40), .ref (rA 41), .ref (rA 42), .ref (rA 43), .ref (rA 44), .ref (rA 45), .int (nI my), .ref (rA 47)], ia (rA 16) (rK9 16) 155 (flF sf t x9 bx nb)] H := hP
          refine tp_pc (pc' := 212) (by rfl) ?_
          refine lv_iconst (v := 1) hx hb d_Ref_flush_212 (by decide) ?_
          obtain ⟨hP9, hD9, -⟩ := cut3 (wc := [oc ra 8 [.int (nI T), .int (nI Ac), .ref (rA 2), .ref (rA 3), .ref (rA 4), .ref (rA 5), .ref (rA 6), .ref (rA 7), .ref (rA 8), .ref (rA 9), .ref (rA 10), .ref (rA 11), .ref (rA 12), .ref (rA 13), .int ir, .ref (rA 15), .ref (rA 16), .ref (rA 17), .ref (rA 18), .int (nI md), .int (nI wd), .ref (rA 21), .ref (rA 22), .ref (rA 23), .int (nI mn), .ref (rA 25), .int (nI cb), .int mr, .ref (rA 28), .ref (rA 29), .ref (rA 30), .ref (rA 31), .ref (rA 32), .ref (rA 33), .ref (rA 34), .ref (rA 35), .int (nI ld), .int (nI gm), .ref (rA 38), .ref (rA 39), .ref (rA 40), .ref (rA 41), .ref (rA 42), .ref (rA 43), .ref (rA 44), .ref (rA 45), .int (nI my), .ref (rA 47)], ia (rA 16) (rK9 16) 155 (flF sf t x9 bx nb)]) hP hD rfl hS hA [0, 1] (by decide +kernel) rfl
          have hK9 := hK.sub (tys' := []) [] rfl
          refine W.widen (k := 0) (n := 0) (by exact Nat.le_of_ble_eq_true rfl) (by exact Nat.le_of_ble_eq_true rfl) ?_
          exact W.zret (v := 1) (ty := .boolean) hx hb hr (by decide) (fun t9 ht9 hW => ⟨⟨1, (), rfl, by rw [if_neg (by omega)], by rw [ht9]; exact hP9, va_K.moved hW.alike hK9, hD9⟩, hS.F ht9⟩) hS.2.2 d_Ref_flush_213
      · skip
        rw [if_neg hcd]
        rw [if_neg (by unfold inB; rw [decide_eq_false hcd]; decide)] at hinv
        refine tp_pc (pc' := 62) (by rfl) ?_
        refine lv_if_ne (tgt := 71) hx hb d_Ref_flush_62 (by decide) (fun c_3 => absurd c_3 (by decide)) (fun c_3 => ?_)
        refine tp_pc (pc' := 65) (by rfl) ?_
        refine lv_iinc (v := nI (i1 + 1)) (lv' := [(4, .int (nI (i1 + 1))), (3, .int x9), (0, .ref ra), (1, .int (nI t)), (2, .int (nI cn))]) hx hb d_Ref_flush_65 hl (k := 0) rfl (by exact nI_1 i1) (by decide) rfl ?_
        clear hl ls
        intro ls hl
        refine lv_goto (tgt := 42) hx hb d_Ref_flush_68 (by decide) ?_
        refine tp_pc (pc' := 42) (by rfl) ?_
        obtain ⟨hP8, -, -⟩ := cut3 (wc := [oc ra 8 [.int (nI T), .int (nI Ac), .ref (rA 2), .ref (rA 3), .ref (rA 4), .ref (rA 5), .ref (rA 6), .ref (rA 7), .ref (rA 8), .ref (rA 9), .ref (rA 10), .ref (rA 11), .ref (rA 12), .ref (rA 13), .int ir, .ref (rA 15), .ref (rA 16), .ref (rA 17), .ref (rA 18), .int (nI md), .int (nI wd), .ref (rA 21), .ref (rA 22), .ref (rA 23), .int (nI mn), .ref (rA 25), .int (nI cb), .int mr, .ref (rA 28), .ref (rA 29), .ref (rA 30), .ref (rA 31), .ref (rA 32), .ref (rA 33), .ref (rA 34), .ref (rA 35), .int (nI ld), .int (nI gm), .ref (rA 38), .ref (rA 39), .ref (rA 40), .ref (rA 41), .ref (rA 42), .ref (rA 43), .ref (rA 44), .ref (rA 45), .int (nI my), .ref (rA 47)], ia (rA 16) (rK9 16) 155 sf]) hP hD rfl hS hA [0, 1] (by decide +kernel) rfl
        exact ih_i1 _ _ _ ⟨hinv, hP8, hS, lv_sub hl [0, 1, 2, 3, 4] rfl⟩
    · intro H locs ls hI
      obtain ⟨hinv, hP, hS, hl⟩ := hI
      rw [Nat.sub_self] at hinv
      replace hinv : 0 = fF (inB sf t x9) nb 0 := hinv
      refine lv_iload hx hb d_Ref_flush_42 (lv_at hl 0 rfl) ?_
      refine lv_aload_n hx hb d_Ref_flush_44 rfl (lv_at hl 2 rfl) ?_
      refine va_get (D := (dC, dI)) (ci := 8) (v := .ref (rA 16)) (C := R_Ref) (T := F_Ref) (N := 48) hx hb hw i_Ref hown hK hP 0 rfl rfl 16 (by decide) (hw _ m_915) (fun _ h9 => h9) rfl d_Ref_flush_45 ?_
      refine lv_bipush (v := 15) hx hb d_Ref_flush_48 (by decide) ?_
      refine va_iald (D := (dC, dI)) hx hb hK hP 1 0 rfl rfl (i := 15) (pk_in 15 155 (by omega)) d_Ref_flush_50 ?_
      refine tp_i (y := sf 15) (by rw [show (15 : Int32).toNatClampNeg = 15 from pk_cl 15]) ?_
      refine tp_i (y := nI nb) hnb ?_
      refine lv_icmp_ge (tgt := 71) hx hb d_Ref_flush_51 (by decide) (fun c9 => ?_) (fun c9 => absurd (nI_le (Nat.le_refl nb) (by omega)) c9)
      refine tp_pc (pc' := 71) (by rfl) ?_
      refine lv_iload hx hb d_Ref_flush_71 (lv_at hl 0 rfl) ?_
      refine lv_aload_n hx hb d_Ref_flush_73 rfl (lv_at hl 2 rfl) ?_
      refine va_get (D := (dC, dI)) (ci := 8) (v := .ref (rA 16)) (C := R_Ref) (T := F_Ref) (N := 48) hx hb hw i_Ref hown hK hP 0 rfl rfl 16 (by decide) (hw _ m_915) (fun _ h9 => h9) rfl d_Ref_flush_74 ?_
      refine lv_bipush (v := 15) hx hb d_Ref_flush_77 (by decide) ?_
      refine va_iald (D := (dC, dI)) hx hb hK hP 1 0 rfl rfl (i := 15) (pk_in 15 155 (by omega)) d_Ref_flush_79 ?_
      refine tp_i (y := sf 15) (by rw [show (15 : Int32).toNatClampNeg = 15 from pk_cl 15]) ?_
      refine tp_i (y := nI nb) hnb ?_
      refine lv_icmp_ne (tgt := 85) hx hb d_Ref_flush_80 (by decide) (fun c9 => absurd rfl c9) (fun c9 => ?_)
      have hfl : flF sf t x9 bx nb = sf := by rw [flF, if_pos hinv.symm]
      replace hP : va_P (dC, dI) classes [oc ra 8 [.int (nI T), .int (nI Ac), .ref (rA 2), .ref (rA 3), .ref (rA 4), .ref (rA 5), .ref (rA 6), .ref (rA 7), .ref (rA 8), .ref (rA 9), .ref (rA 10), .ref (rA 11), .ref (rA 12), .ref (rA 13), .int ir, .ref (rA 15), .ref (rA 16), .ref (rA 17), .ref (rA 18), .int (nI md), .int (nI wd), .ref (rA 21), .ref (rA 22), .ref (rA 23), .int (nI mn), .ref (rA 25), .int (nI cb), .int mr, .ref (rA 28), .ref (rA 29), .ref (rA 30), .ref (rA 31), .ref (rA 32), .ref (rA 33), .ref (rA 34), .ref (rA 35), .int (nI ld), .int (nI gm), .ref (rA 38), .ref (rA 39), .ref (rA 40), .ref (rA 41), .ref (rA 42), .ref (rA 43), .ref (rA 44), .ref (rA 45), .int (nI my), .ref (rA 47)], ia (rA 16) (rK9 16) 155 (flF sf t x9 bx nb)] H := by rw [hfl]; exact hP
      refine tp_pc (pc' := 83) (by rfl) ?_
      refine lv_iconst (v := 0) hx hb d_Ref_flush_83 (by decide) ?_
      obtain ⟨hP9, hD9, -⟩ := cut3 (wc := [oc ra 8 [.int (nI T), .int (nI Ac), .ref (rA 2), .ref (rA 3), .ref (rA 4), .ref (rA 5), .ref (rA 6), .ref (rA 7), .ref (rA 8), .ref (rA 9), .ref (rA 10), .ref (rA 11), .ref (rA 12), .ref (rA 13), .int ir, .ref (rA 15), .ref (rA 16), .ref (rA 17), .ref (rA 18), .int (nI md), .int (nI wd), .ref (rA 21), .ref (rA 22), .ref (rA 23), .int (nI mn), .ref (rA 25), .int (nI cb), .int mr, .ref (rA 28), .ref (rA 29), .ref (rA 30), .ref (rA 31), .ref (rA 32), .ref (rA 33), .ref (rA 34), .ref (rA 35), .int (nI ld), .int (nI gm), .ref (rA 38), .ref (rA 39), .ref (rA 40), .ref (rA 41), .ref (rA 42), .ref (rA 43), .ref (rA 44), .ref (rA 45), .int (nI my), .ref (rA 47)], ia (rA 16) (rK9 16) 155 (flF sf t x9 bx nb)]) hP hD rfl hS hA [0, 1] (by decide +kernel) rfl
      have hK9 := hK.sub (tys' := []) [] rfl
      refine W.widen (k := 0) (n := 0) (by exact Nat.le_of_ble_eq_true rfl) (by exact Nat.le_of_ble_eq_true rfl) ?_
      exact W.zret (v := 0) (ty := .boolean) hx hb hr (by decide) (fun t9 ht9 hW => ⟨⟨0, (), rfl, by rw [if_pos hinv.symm], by rw [ht9]; exact hP9, va_K.moved hW.alike hK9, hD9⟩, hS.F ht9⟩) hS.2.2 d_Ref_flush_84
set_option maxHeartbeats 4000000 in
set_option maxRecDepth 100000 in
theorem gen_Ref_flush_bad (l : Launch) (dC : Nat → ClassId) (dI : Nat → Nat → Nat) (ra : Nat) (rA : Nat → Nat) (rK9 : Nat → ClassId) (T Ac md wd mn cb ld gm my : Nat) (ir mr : Int32) (t cn : Nat) (sf : Nat → Int32) (hcc : (md = 1 ∧ cn ≠ 1) ∨ (md ≠ 1 ∧ 3 < cn)) (hm4 : md < 4) (hc9 : cn < 9) (sz : Nat) : Met l y_Ref_flush w_Ref_flush ({ frames := 0, cells := 0, slots := 0, locals := 0 }) (va_Pc [.ref ra, .int (nI t), .int (nI cn)] (fun U => U.heap.size = sz ∧ va_P (dC, dI) classes [oc ra 8 [.int (nI T), .int (nI Ac), .ref (rA 2), .ref (rA 3), .ref (rA 4), .ref (rA 5), .ref (rA 6), .ref (rA 7), .ref (rA 8), .ref (rA 9), .ref (rA 10), .ref (rA 11), .ref (rA 12), .ref (rA 13), .int ir, .ref (rA 15), .ref (rA 16), .ref (rA 17), .ref (rA 18), .int (nI md), .int (nI wd), .ref (rA 21), .ref (rA 22), .ref (rA 23), .int (nI mn), .ref (rA 25), .int (nI cb), .int mr, .ref (rA 28), .ref (rA 29), .ref (rA 30), .ref (rA 31), .ref (rA 32), .ref (rA 33), .ref (rA 34), .ref (rA 35), .int (nI ld), .int (nI gm), .ref (rA 38), .ref (rA 39), .ref (rA 40), .ref (rA 41), .ref (rA 42), .ref (rA 43), .ref (rA 44), .ref (rA 45), .int (nI my), .ref (rA 47)], ia (rA 16) (rK9 16) 155 sf] U.heap ∧ va_K (dC, dI) classes [((rK9 16), .int)] U ∧ va_D (fun _ => True) [oc ra 8 [.int (nI T), .int (nI Ac), .ref (rA 2), .ref (rA 3), .ref (rA 4), .ref (rA 5), .ref (rA 6), .ref (rA 7), .ref (rA 8), .ref (rA 9), .ref (rA 10), .ref (rA 11), .ref (rA 12), .ref (rA 13), .int ir, .ref (rA 15), .ref (rA 16), .ref (rA 17), .ref (rA 18), .int (nI md), .int (nI wd), .ref (rA 21), .ref (rA 22), .ref (rA 23), .int (nI mn), .ref (rA 25), .int (nI cb), .int mr, .ref (rA 28), .ref (rA 29), .ref (rA 30), .ref (rA 31), .ref (rA 32), .ref (rA 33), .ref (rA 34), .ref (rA 35), .int (nI ld), .int (nI gm), .ref (rA 38), .ref (rA 39), .ref (rA 40), .ref (rA 41), .ref (rA 42), .ref (rA 43), .ref (rA 44), .ref (rA 45), .int (nI my), .ref (rA 47)], ia (rA 16) (rK9 16) 155 sf] ∧ nw U)) (va_Qi (fun (r : Int32) (_ : Unit) => r = 0) (fun _ t9 => va_P (dC, dI) classes [oc ra 8 [.int (nI T), .int (nI Ac), .ref (rA 2), .ref (rA 3), .ref (rA 4), .ref (rA 5), .ref (rA 6), .ref (rA 7), .ref (rA 8), .ref (rA 9), .ref (rA 10), .ref (rA 11), .ref (rA 12), .ref (rA 13), .int ir, .ref (rA 15), .ref (rA 16), .ref (rA 17), .ref (rA 18), .int (nI md), .int (nI wd), .ref (rA 21), .ref (rA 22), .ref (rA 23), .int (nI mn), .ref (rA 25), .int (nI cb), .int mr, .ref (rA 28), .ref (rA 29), .ref (rA 30), .ref (rA 31), .ref (rA 32), .ref (rA 33), .ref (rA 34), .ref (rA 35), .int (nI ld), .int (nI gm), .ref (rA 38), .ref (rA 39), .ref (rA 40), .ref (rA 41), .ref (rA 42), .ref (rA 43), .ref (rA 44), .ref (rA 45), .int (nI my), .ref (rA 47)], ia (rA 16) (rK9 16) 155 sf] t9.heap ∧ va_K (dC, dI) classes [] t9 ∧ va_D (va_A [oc ra 8 [.int (nI T), .int (nI Ac), .ref (rA 2), .ref (rA 3), .ref (rA 4), .ref (rA 5), .ref (rA 6), .ref (rA 7), .ref (rA 8), .ref (rA 9), .ref (rA 10), .ref (rA 11), .ref (rA 12), .ref (rA 13), .int ir, .ref (rA 15), .ref (rA 16), .ref (rA 17), .ref (rA 18), .int (nI md), .int (nI wd), .ref (rA 21), .ref (rA 22), .ref (rA 23), .int (nI mn), .ref (rA 25), .int (nI cb), .int mr, .ref (rA 28), .ref (rA 29), .ref (rA 30), .ref (rA 31), .ref (rA 32), .ref (rA 33), .ref (rA 34), .ref (rA 35), .int (nI ld), .int (nI gm), .ref (rA 38), .ref (rA 39), .ref (rA 40), .ref (rA 41), .ref (rA 42), .ref (rA 43), .ref (rA 44), .ref (rA 45), .int (nI my), .ref (rA 47)], ia (rA 16) (rK9 16) 155 sf] sz) [oc ra 8 [.int (nI T), .int (nI Ac), .ref (rA 2), .ref (rA 3), .ref (rA 4), .ref (rA 5), .ref (rA 6), .ref (rA 7), .ref (rA 8), .ref (rA 9), .ref (rA 10), .ref (rA 11), .ref (rA 12), .ref (rA 13), .int ir, .ref (rA 15), .ref (rA 16), .ref (rA 17), .ref (rA 18), .int (nI md), .int (nI wd), .ref (rA 21), .ref (rA 22), .ref (rA 23), .int (nI mn), .ref (rA 25), .int (nI cb), .int mr, .ref (rA 28), .ref (rA 29), .ref (rA 30), .ref (rA 31), .ref (rA 32), .ref (rA 33), .ref (rA 34), .ref (rA 35), .int (nI ld), .int (nI gm), .ref (rA 38), .ref (rA 39), .ref (rA 40), .ref (rA 41), .ref (rA 42), .ref (rA 43), .ref (rA 44), .ref (rA 45), .int (nI my), .ref (rA 47)], ia (rA 16) (rK9 16) 155 sf]) (va_A [oc ra 8 [.int (nI T), .int (nI Ac), .ref (rA 2), .ref (rA 3), .ref (rA 4), .ref (rA 5), .ref (rA 6), .ref (rA 7), .ref (rA 8), .ref (rA 9), .ref (rA 10), .ref (rA 11), .ref (rA 12), .ref (rA 13), .int ir, .ref (rA 15), .ref (rA 16), .ref (rA 17), .ref (rA 18), .int (nI md), .int (nI wd), .ref (rA 21), .ref (rA 22), .ref (rA 23), .int (nI mn), .ref (rA 25), .int (nI cb), .int mr, .ref (rA 28), .ref (rA 29), .ref (rA 30), .ref (rA 31), .ref (rA 32), .ref (rA 33), .ref (rA 34), .ref (rA 35), .int (nI ld), .int (nI gm), .ref (rA 38), .ref (rA 39), .ref (rA 40), .ref (rA 41), .ref (rA 42), .ref (rA 43), .ref (rA 44), .ref (rA 45), .int (nI my), .ref (rA 47)], ia (rA 16) (rK9 16) 155 sf] sz)) 0 0 (va_A [oc ra 8 [.int (nI T), .int (nI Ac), .ref (rA 2), .ref (rA 3), .ref (rA 4), .ref (rA 5), .ref (rA 6), .ref (rA 7), .ref (rA 8), .ref (rA 9), .ref (rA 10), .ref (rA 11), .ref (rA 12), .ref (rA 13), .int ir, .ref (rA 15), .ref (rA 16), .ref (rA 17), .ref (rA 18), .int (nI md), .int (nI wd), .ref (rA 21), .ref (rA 22), .ref (rA 23), .int (nI mn), .ref (rA 25), .int (nI cb), .int mr, .ref (rA 28), .ref (rA 29), .ref (rA 30), .ref (rA 31), .ref (rA 32), .ref (rA 33), .ref (rA 34), .ref (rA 35), .int (nI ld), .int (nI gm), .ref (rA 38), .ref (rA 39), .ref (rA 40), .ref (rA 41), .ref (rA 42), .ref (rA 43), .ref (rA 44), .ref (rA 45), .int (nI my), .ref (rA 47)], ia (rA 16) (rK9 16) 155 sf] sz) := by
  refine Met.ofW (cc := b_Ref_flush) (maxL := 6) (ret := (some .boolean)) (by decide) rfl ?_
  intro p e0 s m args below meth c s₁ B hml hv
  obtain ⟨rfl, hsz, hP, hK, hD0, hn⟩ := hv
  have hx := B.exec
  have hb := B.bytes
  have hr := B.returns
  have hw := fun w (h : w ∈ wt) => atoms_spec (ws := w_Ref_flush) B.pre w (List.mem_cons_of_mem _ h)
  have hown : s.vm.findClass R_Ref = some m.cls := findClass_of_methodNamed B.named
  have hlocks := B.notSynchronized
  subst hsz
  have hD1 := hD0.self (sz := s.heap.size)
  generalize hAe : va_A [oc ra 8 [.int (nI T), .int (nI Ac), .ref (rA 2), .ref (rA 3), .ref (rA 4), .ref (rA 5), .ref (rA 6), .ref (rA 7), .ref (rA 8), .ref (rA 9), .ref (rA 10), .ref (rA 11), .ref (rA 12), .ref (rA 13), .int ir, .ref (rA 15), .ref (rA 16), .ref (rA 17), .ref (rA 18), .int (nI md), .int (nI wd), .ref (rA 21), .ref (rA 22), .ref (rA 23), .int (nI mn), .ref (rA 25), .int (nI cb), .int mr, .ref (rA 28), .ref (rA 29), .ref (rA 30), .ref (rA 31), .ref (rA 32), .ref (rA 33), .ref (rA 34), .ref (rA 35), .int (nI ld), .int (nI gm), .ref (rA 38), .ref (rA 39), .ref (rA 40), .ref (rA 41), .ref (rA 42), .ref (rA 43), .ref (rA 44), .ref (rA 45), .int (nI my), .ref (rA 47)], ia (rA 16) (rK9 16) 155 sf] s.heap.size = A at hD1 ⊢
  have hA : ∀ q : Nat, s.heap.size ≤ q → A q := fun q h => by rw [← hAe]; exact Or.inr h
  have hD : dd A [ra, (rA 16)] := dd_of hD1 rfl
  clear hAe hD0 hD1
  have hS : va_S A s.heap s.heap [] := va_S.rf
  replace hP : va_P (dC, dI) classes [oc ra 8 [.int (nI T), .int (nI Ac), .ref (rA 2), .ref (rA 3), .ref (rA 4), .ref (rA 5), .ref (rA 6), .ref (rA 7), .ref (rA 8), .ref (rA 9), .ref (rA 10), .ref (rA 11), .ref (rA 12), .ref (rA 13), .int ir, .ref (rA 15), .ref (rA 16), .ref (rA 17), .ref (rA 18), .int (nI md), .int (nI wd), .ref (rA 21), .ref (rA 22), .ref (rA 23), .int (nI mn), .ref (rA 25), .int (nI cb), .int mr, .ref (rA 28), .ref (rA 29), .ref (rA 30), .ref (rA 31), .ref (rA 32), .ref (rA 33), .ref (rA 34), .ref (rA 35), .int (nI ld), .int (nI gm), .ref (rA 38), .ref (rA 39), .ref (rA 40), .ref (rA 41), .ref (rA 42), .ref (rA 43), .ref (rA 44), .ref (rA 45), .int (nI my), .ref (rA 47)], ia (rA 16) (rK9 16) 155 sf] s.heap := hP
  have hl := lv_entry ([.ref ra, .int (nI t), .int (nI cn)]) (n := 6) (Nat.le_of_ble_eq_true rfl)
  rw [lg_entry_eq]
  generalize (lg_sl ([.ref ra, .int (nI t), .int (nI cn)]) ++ List.replicate (6 - (lg_sl ([.ref ra, .int (nI t), .int (nI cn)])).length) Slot.unset).toArray = ls at hl ⊢
  replace hl : lv_has ls 6 [(0, .ref ra), (1, .int (nI t)), (2, .int (nI cn))] := hl
  refine lv_aload_n hx hb d_Ref_flush_0 rfl (lv_at hl 0 rfl) ?_
  refine va_get (D := (dC, dI)) (ci := 8) (v := .int (nI md)) (C := R_Ref) (T := F_Ref) (N := 48) hx hb hw i_Ref hown hK hP 0 rfl rfl 19 (by decide) (hw _ m_918) (fun _ h9 => h9) rfl d_Ref_flush_1 ?_
  refine lv_iconst (v := 1) hx hb d_Ref_flush_4 (by decide) ?_
  refine lv_icmp_ne (tgt := 16) hx hb d_Ref_flush_5 (by decide) (fun c1 => ?_) (fun c1 => ?_)
  · skip
    have hc1 : ¬ (md = 1) := fun q9 => c1 ((nI_eq (a := md) (b := 1) (by omega) (by omega)).mpr q9)
    refine tp_pc (pc' := 16) (by rfl) ?_
    refine lv_iload_n hx hb d_Ref_flush_16 rfl (lv_at hl 2 rfl) ?_
    refine lv_iconst (v := 3) hx hb d_Ref_flush_17 (by decide) ?_
    refine lv_icmp_le (tgt := 23) hx hb d_Ref_flush_18 (by decide) (fun c9 => absurd ((nI_leI (a := cn) (b := 3) (by omega) (by omega)).mp c9) (by omega)) (fun c9 => ?_)
    refine tp_pc (pc' := 21) (by rfl) ?_
    refine lv_iconst (v := 0) hx hb d_Ref_flush_21 (by decide) ?_
    obtain ⟨hP9, hD9, -⟩ := cut3 (wc := [oc ra 8 [.int (nI T), .int (nI Ac), .ref (rA 2), .ref (rA 3), .ref (rA 4), .ref (rA 5), .ref (rA 6), .ref (rA 7), .ref (rA 8), .ref (rA 9), .ref (rA 10), .ref (rA 11), .ref (rA 12), .ref (rA 13), .int ir, .ref (rA 15), .ref (rA 16), .ref (rA 17), .ref (rA 18), .int (nI md), .int (nI wd), .ref (rA 21), .ref (rA 22), .ref (rA 23), .int (nI mn), .ref (rA 25), .int (nI cb), .int mr, .ref (rA 28), .ref (rA 29), .ref (rA 30), .ref (rA 31), .ref (rA 32), .ref (rA 33), .ref (rA 34), .ref (rA 35), .int (nI ld), .int (nI gm), .ref (rA 38), .ref (rA 39), .ref (rA 40), .ref (rA 41), .ref (rA 42), .ref (rA 43), .ref (rA 44), .ref (rA 45), .int (nI my), .ref (rA 47)], ia (rA 16) (rK9 16) 155 sf]) hP hD rfl hS hA [0, 1] (by decide +kernel) rfl
    have hK9 := hK.sub (tys' := []) [] rfl
    refine W.widen (k := 0) (n := 0) (by exact Nat.le_of_ble_eq_true rfl) (by exact Nat.le_of_ble_eq_true rfl) ?_
    exact W.zret (v := 0) (ty := .boolean) hx hb hr (by decide) (fun t9 ht9 hW => ⟨⟨0, (), rfl, rfl, by rw [ht9]; exact hP9, va_K.moved hW.alike hK9, hD9⟩, hS.F ht9⟩) hS.2.2 d_Ref_flush_22
  · skip
    have hc1 : md = 1 := (nI_eq (a := md) (b := 1) (by omega) (by omega)).mp c1
    refine tp_pc (pc' := 8) (by rfl) ?_
    refine lv_iload_n hx hb d_Ref_flush_8 rfl (lv_at hl 2 rfl) ?_
    refine lv_iconst (v := 1) hx hb d_Ref_flush_9 (by decide) ?_
    refine lv_icmp_eq (tgt := 23) hx hb d_Ref_flush_10 (by decide) (fun c9 => absurd ((nI_eq (a := cn) (b := 1) (by omega) (by omega)).mp c9) (by omega)) (fun c9 => ?_)
    refine tp_pc (pc' := 13) (by rfl) ?_
    refine lv_goto (tgt := 21) hx hb d_Ref_flush_13 (by decide) ?_
    refine tp_pc (pc' := 21) (by rfl) ?_
    refine lv_iconst (v := 0) hx hb d_Ref_flush_21 (by decide) ?_
    obtain ⟨hP9, hD9, -⟩ := cut3 (wc := [oc ra 8 [.int (nI T), .int (nI Ac), .ref (rA 2), .ref (rA 3), .ref (rA 4), .ref (rA 5), .ref (rA 6), .ref (rA 7), .ref (rA 8), .ref (rA 9), .ref (rA 10), .ref (rA 11), .ref (rA 12), .ref (rA 13), .int ir, .ref (rA 15), .ref (rA 16), .ref (rA 17), .ref (rA 18), .int (nI md), .int (nI wd), .ref (rA 21), .ref (rA 22), .ref (rA 23), .int (nI mn), .ref (rA 25), .int (nI cb), .int mr, .ref (rA 28), .ref (rA 29), .ref (rA 30), .ref (rA 31), .ref (rA 32), .ref (rA 33), .ref (rA 34), .ref (rA 35), .int (nI ld), .int (nI gm), .ref (rA 38), .ref (rA 39), .ref (rA 40), .ref (rA 41), .ref (rA 42), .ref (rA 43), .ref (rA 44), .ref (rA 45), .int (nI my), .ref (rA 47)], ia (rA 16) (rK9 16) 155 sf]) hP hD rfl hS hA [0, 1] (by decide +kernel) rfl
    have hK9 := hK.sub (tys' := []) [] rfl
    refine W.widen (k := 0) (n := 0) (by exact Nat.le_of_ble_eq_true rfl) (by exact Nat.le_of_ble_eq_true rfl) ?_
    exact W.zret (v := 0) (ty := .boolean) hx hb hr (by decide) (fun t9 ht9 hW => ⟨⟨0, (), rfl, rfl, by rw [ht9]; exact hP9, va_K.moved hW.alike hK9, hD9⟩, hS.F ht9⟩) hS.2.2 d_Ref_flush_22
