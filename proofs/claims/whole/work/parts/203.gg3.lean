def wtr (pg : Nat → Nat → Nat) (x : Nat) : Nat := andn (pg 10 x) (pg 9 0)
/-- an action may have its value from the source q -/
def mbf (pg : Nat → Nat → Nat) (fm tk oo : Nat → Nat) (dn a q : Nat) : Bool :=
  if q ≠ 0 ∧ (q - 1 = a ∨ wtr pg (pg 5 a) / 2 ^ (q - 1) % 2 = 0) then false
  else if pg 4 a = 3 ∧ tk (pg 5 a) / 2 ^ q % 2 = 1 then false else decide (fF (pst pg fm (oo a &&& dn) q) a 0 = 0)
def cHb (pg : Nat → Nat → Nat) (pl : Nat → Nat) (dn : Nat) (wm : Nat → Nat) (q wq : Nat) : Bool :=
  if wrb dn q = true then true else if pg 3 (q - 1) < pl (pg 2 (q - 1)) then false else cHp pg dn wm wq 4 (pg 2 (q - 1))
set_option maxHeartbeats 4000000 in
set_option maxRecDepth 100000 in
theorem gen_GS_mayBeFrom (l : Launch) (dC : Nat → ClassId) (dI : Nat → Nat → Nat) (pa : Nat) (pA : Nat → Nat) (pK : Nat → ClassId) (T Ac : Nat) (pg : Nat → Nat → Nat) (nm : Nat → Int32) (g1 g2 g3 dn : Nat) (so : Int64) (xa ga fa : Nat) (xA : Nat → Nat) (xK : Nat → ClassId) (md mb : Nat) (fm wm : Nat → Nat) (sc : Nat → Nat → Nat) (a q : Nat) (hPg : PgOk T Ac pg) (ha : a < Ac) (hk4 : pg 4 a < 4) (hs2 : sc 2 (pg 5 a) < 256) (hs4 : sc 4 a < 128) (hdn : dn < 128) (hfm : ∀ i, i < 7 → fm i ≤ 8) (hq8 : q ≤ Ac) (sz : Nat) : Met l y_GraphSearch_mayBeFrom w_GraphSearch_mayBeFrom ({ frames := 3, cells := 0, slots := 0, locals := 120 }) (va_Pc [.ref xa, .int (nI a), .int (nI q)] (fun U => U.heap.size = sz ∧ va_P (dC, dI) classes [oc xa 6 [.ref pa, .ref ga, .ref (xA 0), .ref (xA 1), .ref (xA 2), .ref (xA 3), .ref (xA 4), .ref (xA 5), .ref (xA 6), .ref (xA 7), .ref (xA 8), .ref (xA 9), .ref (xA 10), .ref (xA 11), .ref fa, .int (nI md), .int (nI mb)], ia (xA 0) (xK 0) 7 (fun i0 => mN (fm i0)), ia (xA 2) (xK 2) 3 (fun i => nI ((sc 2) i)), ia (xA 4) (xK 4) 7 (fun i => nI ((sc 4) i)), oc ga 1 [.ref pa, .ref g1, .ref g2, .ref g3, .int (nI dn), .long so], oc pa 0 [.ref (pA 0), .ref (pA 1), .ref (pA 2), .ref (pA 3), .ref (pA 4), .ref (pA 5), .ref (pA 6), .ref (pA 7), .ref (pA 8), .ref (pA 9), .ref (pA 10), .int (nI T), .int (nI Ac)], ia (pA 2) (pK 2) 7 (fun i => nI ((pg 2) i)), ia (pA 4) (pK 4) 7 (fun i => nI ((pg 4) i)), ia (pA 5) (pK 5) 7 (fun i => nI ((pg 5) i)), ia (pA 8) (pK 8) 4 (fun i => nI ((pg 8) i)), ia (pA 9) (pK 9) 6 (fun i => nI ((pg 9) i)), ia (pA 10) (pK 10) 3 (fun i => nI ((pg 10) i))] U.heap ∧ va_K (dC, dI) classes [((xK 0), .int), ((xK 2), .int), ((xK 4), .int), ((pK 2), .int), ((pK 4), .int), ((pK 5), .int), ((pK 8), .int), ((pK 9), .int), ((pK 10), .int)] U ∧ va_D (fun _ => True) [oc xa 6 [.ref pa, .ref ga, .ref (xA 0), .ref (xA 1), .ref (xA 2), .ref (xA 3), .ref (xA 4), .ref (xA 5), .ref (xA 6), .ref (xA 7), .ref (xA 8), .ref (xA 9), .ref (xA 10), .ref (xA 11), .ref fa, .int (nI md), .int (nI mb)], ia (xA 0) (xK 0) 7 (fun i0 => mN (fm i0)), ia (xA 2) (xK 2) 3 (fun i => nI ((sc 2) i)), ia (xA 4) (xK 4) 7 (fun i => nI ((sc 4) i)), oc ga 1 [.ref pa, .ref g1, .ref g2, .ref g3, .int (nI dn), .long so], oc pa 0 [.ref (pA 0), .ref (pA 1), .ref (pA 2), .ref (pA 3), .ref (pA 4), .ref (pA 5), .ref (pA 6), .ref (pA 7), .ref (pA 8), .ref (pA 9), .ref (pA 10), .int (nI T), .int (nI Ac)], ia (pA 2) (pK 2) 7 (fun i => nI ((pg 2) i)), ia (pA 4) (pK 4) 7 (fun i => nI ((pg 4) i)), ia (pA 5) (pK 5) 7 (fun i => nI ((pg 5) i)), ia (pA 8) (pK 8) 4 (fun i => nI ((pg 8) i)), ia (pA 9) (pK 9) 6 (fun i => nI ((pg 9) i)), ia (pA 10) (pK 10) 3 (fun i => nI ((pg 10) i))] ∧ nw U)) (va_Qi (fun (r : Int32) (_ : Unit) => r = if mbf pg fm (sc 2) (sc 4) dn a q then 1 else 0) (fun _ t9 => va_P (dC, dI) classes [oc xa 6 [.ref pa, .ref ga, .ref (xA 0), .ref (xA 1), .ref (xA 2), .ref (xA 3), .ref (xA 4), .ref (xA 5), .ref (xA 6), .ref (xA 7), .ref (xA 8), .ref (xA 9), .ref (xA 10), .ref (xA 11), .ref fa, .int (nI md), .int (nI mb)], ia (xA 0) (xK 0) 7 (fun i0 => mN (fm i0)), ia (xA 2) (xK 2) 3 (fun i => nI ((sc 2) i)), ia (xA 4) (xK 4) 7 (fun i => nI ((sc 4) i)), oc ga 1 [.ref pa, .ref g1, .ref g2, .ref g3, .int (nI dn), .long so], oc pa 0 [.ref (pA 0), .ref (pA 1), .ref (pA 2), .ref (pA 3), .ref (pA 4), .ref (pA 5), .ref (pA 6), .ref (pA 7), .ref (pA 8), .ref (pA 9), .ref (pA 10), .int (nI T), .int (nI Ac)], ia (pA 2) (pK 2) 7 (fun i => nI ((pg 2) i)), ia (pA 4) (pK 4) 7 (fun i => nI ((pg 4) i)), ia (pA 5) (pK 5) 7 (fun i => nI ((pg 5) i)), ia (pA 8) (pK 8) 4 (fun i => nI ((pg 8) i)), ia (pA 9) (pK 9) 6 (fun i => nI ((pg 9) i)), ia (pA 10) (pK 10) 3 (fun i => nI ((pg 10) i))] t9.heap ∧ va_K (dC, dI) classes [] t9 ∧ va_D (va_A [oc xa 6 [.ref pa, .ref ga, .ref (xA 0), .ref (xA 1), .ref (xA 2), .ref (xA 3), .ref (xA 4), .ref (xA 5), .ref (xA 6), .ref (xA 7), .ref (xA 8), .ref (xA 9), .ref (xA 10), .ref (xA 11), .ref fa, .int (nI md), .int (nI mb)], ia (xA 0) (xK 0) 7 (fun i0 => mN (fm i0)), ia (xA 2) (xK 2) 3 (fun i => nI ((sc 2) i)), ia (xA 4) (xK 4) 7 (fun i => nI ((sc 4) i)), oc ga 1 [.ref pa, .ref g1, .ref g2, .ref g3, .int (nI dn), .long so], oc pa 0 [.ref (pA 0), .ref (pA 1), .ref (pA 2), .ref (pA 3), .ref (pA 4), .ref (pA 5), .ref (pA 6), .ref (pA 7), .ref (pA 8), .ref (pA 9), .ref (pA 10), .int (nI T), .int (nI Ac)], ia (pA 2) (pK 2) 7 (fun i => nI ((pg 2) i)), ia (pA 4) (pK 4) 7 (fun i => nI ((pg 4) i)), ia (pA 5) (pK 5) 7 (fun i => nI ((pg 5) i)), ia (pA 8) (pK 8) 4 (fun i => nI ((pg 8) i)), ia (pA 9) (pK 9) 6 (fun i => nI ((pg 9) i)), ia (pA 10) (pK 10) 3 (fun i => nI ((pg 10) i))] sz) [oc xa 6 [.ref pa, .ref ga, .ref (xA 0), .ref (xA 1), .ref (xA 2), .ref (xA 3), .ref (xA 4), .ref (xA 5), .ref (xA 6), .ref (xA 7), .ref (xA 8), .ref (xA 9), .ref (xA 10), .ref (xA 11), .ref fa, .int (nI md), .int (nI mb)], ia (xA 0) (xK 0) 7 (fun i0 => mN (fm i0)), ia (xA 2) (xK 2) 3 (fun i => nI ((sc 2) i)), ia (xA 4) (xK 4) 7 (fun i => nI ((sc 4) i)), oc ga 1 [.ref pa, .ref g1, .ref g2, .ref g3, .int (nI dn), .long so], oc pa 0 [.ref (pA 0), .ref (pA 1), .ref (pA 2), .ref (pA 3), .ref (pA 4), .ref (pA 5), .ref (pA 6), .ref (pA 7), .ref (pA 8), .ref (pA 9), .ref (pA 10), .int (nI T), .int (nI Ac)], ia (pA 2) (pK 2) 7 (fun i => nI ((pg 2) i)), ia (pA 4) (pK 4) 7 (fun i => nI ((pg 4) i)), ia (pA 5) (pK 5) 7 (fun i => nI ((pg 5) i)), ia (pA 8) (pK 8) 4 (fun i => nI ((pg 8) i)), ia (pA 9) (pK 9) 6 (fun i => nI ((pg 9) i)), ia (pA 10) (pK 10) 3 (fun i => nI ((pg 10) i))]) (va_A [oc xa 6 [.ref pa, .ref ga, .ref (xA 0), .ref (xA 1), .ref (xA 2), .ref (xA 3), .ref (xA 4), .ref (xA 5), .ref (xA 6), .ref (xA 7), .ref (xA 8), .ref (xA 9), .ref (xA 10), .ref (xA 11), .ref fa, .int (nI md), .int (nI mb)], ia (xA 0) (xK 0) 7 (fun i0 => mN (fm i0)), ia (xA 2) (xK 2) 3 (fun i => nI ((sc 2) i)), ia (xA 4) (xK 4) 7 (fun i => nI ((sc 4) i)), oc ga 1 [.ref pa, .ref g1, .ref g2, .ref g3, .int (nI dn), .long so], oc pa 0 [.ref (pA 0), .ref (pA 1), .ref (pA 2), .ref (pA 3), .ref (pA 4), .ref (pA 5), .ref (pA 6), .ref (pA 7), .ref (pA 8), .ref (pA 9), .ref (pA 10), .int (nI T), .int (nI Ac)], ia (pA 2) (pK 2) 7 (fun i => nI ((pg 2) i)), ia (pA 4) (pK 4) 7 (fun i => nI ((pg 4) i)), ia (pA 5) (pK 5) 7 (fun i => nI ((pg 5) i)), ia (pA 8) (pK 8) 4 (fun i => nI ((pg 8) i)), ia (pA 9) (pK 9) 6 (fun i => nI ((pg 9) i)), ia (pA 10) (pK 10) 3 (fun i => nI ((pg 10) i))] sz)) 0 0 (va_A [oc xa 6 [.ref pa, .ref ga, .ref (xA 0), .ref (xA 1), .ref (xA 2), .ref (xA 3), .ref (xA 4), .ref (xA 5), .ref (xA 6), .ref (xA 7), .ref (xA 8), .ref (xA 9), .ref (xA 10), .ref (xA 11), .ref fa, .int (nI md), .int (nI mb)], ia (xA 0) (xK 0) 7 (fun i0 => mN (fm i0)), ia (xA 2) (xK 2) 3 (fun i => nI ((sc 2) i)), ia (xA 4) (xK 4) 7 (fun i => nI ((sc 4) i)), oc ga 1 [.ref pa, .ref g1, .ref g2, .ref g3, .int (nI dn), .long so], oc pa 0 [.ref (pA 0), .ref (pA 1), .ref (pA 2), .ref (pA 3), .ref (pA 4), .ref (pA 5), .ref (pA 6), .ref (pA 7), .ref (pA 8), .ref (pA 9), .ref (pA 10), .int (nI T), .int (nI Ac)], ia (pA 2) (pK 2) 7 (fun i => nI ((pg 2) i)), ia (pA 4) (pK 4) 7 (fun i => nI ((pg 4) i)), ia (pA 5) (pK 5) 7 (fun i => nI ((pg 5) i)), ia (pA 8) (pK 8) 4 (fun i => nI ((pg 8) i)), ia (pA 9) (pK 9) 6 (fun i => nI ((pg 9) i)), ia (pA 10) (pK 10) 3 (fun i => nI ((pg 10) i))] sz) := by
  refine Met.ofW (cc := b_GraphSearch_mayBeFrom) (maxL := 4) (ret := (some .boolean)) (by decide) rfl ?_
  intro p e0 s m args below meth c s₁ B hml hv
  obtain ⟨rfl, hsz, hP, hK, hD0, hn⟩ := hv
  have hx := B.exec
  have hb := B.bytes
  have hr := B.returns
  have hw := fun w (h : w ∈ wt) => atoms_spec (ws := w_GraphSearch_mayBeFrom) B.pre w (List.mem_cons_of_mem _ h)
  have hown : s.vm.findClass R_GraphSearch = some m.cls := findClass_of_methodNamed B.named
  have hlocks := B.notSynchronized
  subst hsz
  have hD1 := hD0.self (sz := s.heap.size)
  generalize hAe : va_A [oc xa 6 [.ref pa, .ref ga, .ref (xA 0), .ref (xA 1), .ref (xA 2), .ref (xA 3), .ref (xA 4), .ref (xA 5), .ref (xA 6), .ref (xA 7), .ref (xA 8), .ref (xA 9), .ref (xA 10), .ref (xA 11), .ref fa, .int (nI md), .int (nI mb)], ia (xA 0) (xK 0) 7 (fun i0 => mN (fm i0)), ia (xA 2) (xK 2) 3 (fun i => nI ((sc 2) i)), ia (xA 4) (xK 4) 7 (fun i => nI ((sc 4) i)), oc ga 1 [.ref pa, .ref g1, .ref g2, .ref g3, .int (nI dn), .long so], oc pa 0 [.ref (pA 0), .ref (pA 1), .ref (pA 2), .ref (pA 3), .ref (pA 4), .ref (pA 5), .ref (pA 6), .ref (pA 7), .ref (pA 8), .ref (pA 9), .ref (pA 10), .int (nI T), .int (nI Ac)], ia (pA 2) (pK 2) 7 (fun i => nI ((pg 2) i)), ia (pA 4) (pK 4) 7 (fun i => nI ((pg 4) i)), ia (pA 5) (pK 5) 7 (fun i => nI ((pg 5) i)), ia (pA 8) (pK 8) 4 (fun i => nI ((pg 8) i)), ia (pA 9) (pK 9) 6 (fun i => nI ((pg 9) i)), ia (pA 10) (pK 10) 3 (fun i => nI ((pg 10) i))] s.heap.size = A at hD1 ⊢
  have hA : ∀ q : Nat, s.heap.size ≤ q → A q := fun q h => by rw [← hAe]; exact Or.inr h
  have hD : dd A [xa, (xA 0), (xA 2), (xA 4), ga, pa, (pA 2), (pA 4), (pA 5), (pA 8), (pA 9), (pA 10)] := dd_of hD1 rfl
  clear hAe hD0 hD1
  have hS : va_S A s.heap s.heap [] := va_S.rf
  replace hP : va_P (dC, dI) classes [oc xa 6 [.ref pa, .ref ga, .ref (xA 0), .ref (xA 1), .ref (xA 2), .ref (xA 3), .ref (xA 4), .ref (xA 5), .ref (xA 6), .ref (xA 7), .ref (xA 8), .ref (xA 9), .ref (xA 10), .ref (xA 11), .ref fa, .int (nI md), .int (nI mb)], ia (xA 0) (xK 0) 7 (fun i0 => mN (fm i0)), ia (xA 2) (xK 2) 3 (fun i => nI ((sc 2) i)), ia (xA 4) (xK 4) 7 (fun i => nI ((sc 4) i)), oc ga 1 [.ref pa, .ref g1, .ref g2, .ref g3, .int (nI dn), .long so], oc pa 0 [.ref (pA 0), .ref (pA 1), .ref (pA 2), .ref (pA 3), .ref (pA 4), .ref (pA 5), .ref (pA 6), .ref (pA 7), .ref (pA 8), .ref (pA 9), .ref (pA 10), .int (nI T), .int (nI Ac)], ia (pA 2) (pK 2) 7 (fun i => nI ((pg 2) i)), ia (pA 4) (pK 4) 7 (fun i => nI ((pg 4) i)), ia (pA 5) (pK 5) 7 (fun i => nI ((pg 5) i)), ia (pA 8) (pK 8) 4 (fun i => nI ((pg 8) i)), ia (pA 9) (pK 9) 6 (fun i => nI ((pg 9) i)), ia (pA 10) (pK 10) 3 (fun i => nI ((pg 10) i))] s.heap := hP
  have hl := lv_entry ([.ref xa, .int (nI a), .int (nI q)]) (n := 4) (Nat.le_of_ble_eq_true rfl)
  rw [lg_entry_eq]
  generalize (lg_sl ([.ref xa, .int (nI a), .int (nI q)]) ++ List.replicate (4 - (lg_sl ([.ref xa, .int (nI a), .int (nI q)])).length) Slot.unset).toArray = ls at hl ⊢
  replace hl : lv_has ls 4 [(0, .ref xa), (1, .int (nI a)), (2, .int (nI q))] := hl
  have hPg3 := hPg
  obtain ⟨p1, p2, p3, p4, p5, p6, p7, p8, p9, p10, p11⟩ := hPg3
  obtain ⟨k1, k2, k3, k4, k5, k6⟩ := p5 a ha
  have hx3 := k4 hk4
  refine lv_aload_n hx hb d_GraphSearch_mayBeFrom_0 rfl (lv_at hl 0 rfl) ?_
  refine va_get (D := (dC, dI)) (ci := 6) (v := .ref pa) (C := R_GraphSearch) (T := F_GraphSearch) (N := 17) hx hb hw i_GraphSearch hown hK hP 0 rfl rfl 0 (by decide) (hw _ m_319) (fun _ h9 => h9) rfl d_GraphSearch_mayBeFrom_1 ?_
  refine va_get (D := (dC, dI)) (ci := 0) (v := .ref (pA 5)) (C := R_Program) (T := F_Program) (N := 13) hx hb hw i_Program hown hK hP 5 rfl rfl 5 (by decide) (hw _ m_144) (fun _ h9 => h9) rfl d_GraphSearch_mayBeFrom_4 ?_
  refine lv_iload_n hx hb d_GraphSearch_mayBeFrom_7 rfl (lv_at hl 1 rfl) ?_
  refine va_iald (D := (dC, dI)) hx hb hK hP 8 5 rfl rfl (i := nI a) (pk_in a 7 (by omega)) d_GraphSearch_mayBeFrom_8 ?_
  refine tp_i (y := nI ((pg 5) a)) (by rw [show (nI a : Int32).toNatClampNeg = a from pk_cl a]) ?_
  refine lv_istore_n (lv' := [(3, .int (nI ((pg 5) a))), (0, .ref xa), (1, .int (nI a)), (2, .int (nI q))]) hx hb d_GraphSearch_mayBeFrom_9 rfl hl (by decide) rfl ?_
  clear hl ls
  intro ls hl
  refine lv_iload_n hx hb d_GraphSearch_mayBeFrom_10 rfl (lv_at hl 3 rfl) ?_
  refine lv_if_le (tgt := 40) hx hb d_GraphSearch_mayBeFrom_11 (by decide) (fun c1 => ?_) (fun c1 => ?_)
  · skip
    have hc1 : q ≤ 0 := (nI_leI (a := q) (b := 0) (by omega) (by omega)).mp c1
    have hcA : ¬ (q ≠ 0 ∧ (q - 1 = a ∨ wtr pg (pg 5 a) / 2 ^ (q - 1) % 2 = 0)) := fun h => h.1 (by omega)
    refine tp_pc (pc' := 40) (by rfl) ?_
    refine lv_aload_n hx hb d_GraphSearch_mayBeFrom_40 rfl (lv_at hl 1 rfl) ?_
    refine va_get (D := (dC, dI)) (ci := 6) (v := .ref pa) (C := R_GraphSearch) (T := F_GraphSearch) (N := 17) hx hb hw i_GraphSearch hown hK hP 0 rfl rfl 0 (by decide) (hw _ m_319) (fun _ h9 => h9) rfl d_GraphSearch_mayBeFrom_41 ?_
    refine va_get (D := (dC, dI)) (ci := 0) (v := .ref (pA 4)) (C := R_Program) (T := F_Program) (N := 13) hx hb hw i_Program hown hK hP 5 rfl rfl 4 (by decide) (hw _ m_139) (fun _ h9 => h9) rfl d_GraphSearch_mayBeFrom_44 ?_
    refine lv_iload_n hx hb d_GraphSearch_mayBeFrom_47 rfl (lv_at hl 2 rfl) ?_
    refine va_iald (D := (dC, dI)) hx hb hK hP 7 4 rfl rfl (i := nI a) (pk_in a 7 (by omega)) d_GraphSearch_mayBeFrom_48 ?_
    refine tp_i (y := nI ((pg 4) a)) (by rw [show (nI a : Int32).toNatClampNeg = a from pk_cl a]) ?_
    refine lv_iconst (v := 3) hx hb d_GraphSearch_mayBeFrom_49 (by decide) ?_
    refine lv_icmp_ne (tgt := 68) hx hb d_GraphSearch_mayBeFrom_50 (by decide) (fun d1 => ?_) (fun d1 => ?_)
    · skip
      have hd1 : ¬ ((pg 4) a = 3) := fun q9 => d1 ((nI_eq (a := (pg 4) a) (b := 3) (by omega) (by omega)).mpr q9)
      have hcB : ¬ (pg 4 a = 3 ∧ sc 2 (pg 5 a) / 2 ^ q % 2 = 1) := fun h => hd1 h.1
      refine tp_pc (pc' := 68) (by rfl) ?_
      refine lv_aload_n hx hb d_GraphSearch_mayBeFrom_68 rfl (lv_at hl 1 rfl) ?_
      refine lv_iload_n hx hb d_GraphSearch_mayBeFrom_69 rfl (lv_at hl 2 rfl) ?_
      refine lv_iload_n hx hb d_GraphSearch_mayBeFrom_70 rfl (lv_at hl 3 rfl) ?_
      obtain ⟨hPc, hDc, hFc⟩ := cut3 (wc := [oc xa 6 [.ref pa, .ref ga, .ref (xA 0), .ref (xA 1), .ref (xA 2), .ref (xA 3), .ref (xA 4), .ref (xA 5), .ref (xA 6), .ref (xA 7), .ref (xA 8), .ref (xA 9), .ref (xA 10), .ref (xA 11), .ref fa, .int (nI md), .int (nI mb)], ia (xA 0) (xK 0) 7 (fun i0 => mN (fm i0)), ia (xA 4) (xK 4) 7 (fun i => nI ((sc 4) i)), oc ga 1 [.ref pa, .ref g1, .ref g2, .ref g3, .int (nI dn), .long so], oc pa 0 [.ref (pA 0), .ref (pA 1), .ref (pA 2), .ref (pA 3), .ref (pA 4), .ref (pA 5), .ref (pA 6), .ref (pA 7), .ref (pA 8), .ref (pA 9), .ref (pA 10), .int (nI T), .int (nI Ac)], ia (pA 2) (pK 2) 7 (fun i => nI ((pg 2) i)), ia (pA 4) (pK 4) 7 (fun i => nI ((pg 4) i)), ia (pA 8) (pK 8) 4 (fun i => nI ((pg 8) i))]) hP hD rfl hS hA [0, 1, 3, 4, 5, 6, 7, 9] (by decide +kernel) rfl
      have hKc := hK.sub (tys' := [((xK 0), .int), ((xK 4), .int), ((pK 2), .int), ((pK 4), .int), ((pK 8), .int)]) [0, 2, 3, 4, 6] rfl
      refine va_calli (va_runV (As := [.int (nI a), .int (nI q)]) (rest := []) ⟨hx, hb, hml, hown, hw⟩ (gen_GS_isPast l dC dI pa pA pK T Ac pg nm g1 g2 g3 dn so xa ga fa xA xK md mb fm wm sc a q (by omega) hs4 hdn hfm (fun i hi => (p5 i (by omega)).2.2.1) (by omega) (fun h => by have := (p5 (q - 1) (by omega)).1; omega) p6 s.heap.size) (cw_V 2 hw g_GraphSearch_isPast rfl rfl rfl (hw _ m_107) (hw _ m_849) (hw _ m_851) (hw _ m_48) (by decide +kernel) ⟨Nat.le_of_ble_eq_true rfl, Nat.le_of_ble_eq_true rfl⟩) ⟨fun a U g mk q => by obtain ⟨q0, q1, qP, qK, qD, qN⟩ := q; exact ⟨q0, q1, qP, va_K.moved (u := U) (U := U.calling g mk a) (Vm.Alike.refl U.vm) qK, qD, nw_call qN⟩, va_recv hKc hPc (ci := 6) (q0 := 0) rfl rfl, fun U hU hW => ⟨rfl, by rw [hU], by rw [hU]; exact hPc, va_K.moved hW.alike hKc, hDc.weaken (fun _ _ _ _ => trivial), nw_warm hW hn⟩⟩ rfl rfl hl.1 rfl (lv_room (Nat.le_of_ble_eq_true rfl)) d_GraphSearch_mayBeFrom_71 ⟨Nat.le_of_ble_eq_true rfl, Nat.le_of_ble_eq_true rfl⟩) hS (fun q _ h => hFc q h) hFc ?_
      intro r_1 u t9 H1 locs1 ht9 hvm hw1 hB hz1 hk1 hS1
      obtain ⟨hP1, hK1, hD1⟩ := hB
      rw [ht9] at hP1
      replace hK1 := va_K.moved hvm.symm hK1
      have hPD := join3 hP hD rfl [0, 1, 3, 4, 5, 6, 7, 9] [2, 8, 10, 11] rfl (by rfl) (by decide +kernel) (by decide +kernel) hk1 hFc hP1 hD1
      replace hK : va_K (dC, dI) classes [((xK 0), .int), ((xK 2), .int), ((xK 4), .int), ((pK 2), .int), ((pK 4), .int), ((pK 5), .int), ((pK 8), .int), ((pK 9), .int), ((pK 10), .int)] s := hK.app hK1
      clear hP1 hK1 hD1 hk1 hz1 hFc hKc hDc hPc hvm ht9 hP hS t9
      have hP : va_P (dC, dI) classes [ia (xA 2) (xK 2) 3 (fun i => nI ((sc 2) i)), ia (pA 5) (pK 5) 7 (fun i => nI ((pg 5) i)), ia (pA 9) (pK 9) 6 (fun i => nI ((pg 9) i)), ia (pA 10) (pK 10) 3 (fun i => nI ((pg 10) i)), oc xa 6 [.ref pa, .ref ga, .ref (xA 0), .ref (xA 1), .ref (xA 2), .ref (xA 3), .ref (xA 4), .ref (xA 5), .ref (xA 6), .ref (xA 7), .ref (xA 8), .ref (xA 9), .ref (xA 10), .ref (xA 11), .ref fa, .int (nI md), .int (nI mb)], ia (xA 0) (xK 0) 7 (fun i0 => mN (fm i0)), ia (xA 4) (xK 4) 7 (fun i => nI ((sc 4) i)), oc ga 1 [.ref pa, .ref g1, .ref g2, .ref g3, .int (nI dn), .long so], oc pa 0 [.ref (pA 0), .ref (pA 1), .ref (pA 2), .ref (pA 3), .ref (pA 4), .ref (pA 5), .ref (pA 6), .ref (pA 7), .ref (pA 8), .ref (pA 9), .ref (pA 10), .int (nI T), .int (nI Ac)], ia (pA 2) (pK 2) 7 (fun i => nI ((pg 2) i)), ia (pA 4) (pK 4) 7 (fun i => nI ((pg 4) i)), ia (pA 8) (pK 8) 4 (fun i => nI ((pg 8) i))] H1 := hPD.1
      replace hD : dd A [(xA 2), (pA 5), (pA 9), (pA 10), xa, (xA 0), (xA 4), ga, pa, (pA 2), (pA 4), (pA 8)] := dd_of hPD.2 rfl
      clear hPD
      revert H1 locs1
      intro H locs hS hP
      refine tp_i (y := (if fF (pst pg fm (sc 4 a &&& dn) q) a 0 = 0 then 0 else 1)) (hw1) ?_
      clear hw1 r_1 u
      by_cases hfp : fF (pst pg fm (sc 4 a &&& dn) q) a 0 = 0
      · skip
        rw [if_pos hfp]
        refine tp_pc (pc' := 74) (by rfl) ?_
        refine lv_if_ne (tgt := 81) hx hb d_GraphSearch_mayBeFrom_74 (by decide) (fun c_2 => absurd c_2 (by decide)) (fun c_2 => ?_)
        refine tp_pc (pc' := 77) (by rfl) ?_
        refine lv_iconst (v := 1) hx hb d_GraphSearch_mayBeFrom_77 (by decide) ?_
        refine lv_goto (tgt := 82) hx hb d_GraphSearch_mayBeFrom_78 (by decide) ?_
        refine tp_pc (pc' := 82) (by rfl) ?_
        obtain ⟨hP9, hD9, -⟩ := cut3 (wc := [oc xa 6 [.ref pa, .ref ga, .ref (xA 0), .ref (xA 1), .ref (xA 2), .ref (xA 3), .ref (xA 4), .ref (xA 5), .ref (xA 6), .ref (xA 7), .ref (xA 8), .ref (xA 9), .ref (xA 10), .ref (xA 11), .ref fa, .int (nI md), .int (nI mb)], ia (xA 0) (xK 0) 7 (fun i0 => mN (fm i0)), ia (xA 2) (xK 2) 3 (fun i => nI ((sc 2) i)), ia (xA 4) (xK 4) 7 (fun i => nI ((sc 4) i)), oc ga 1 [.ref pa, .ref g1, .ref g2, .ref g3, .int (nI dn), .long so], oc pa 0 [.ref (pA 0), .ref (pA 1), .ref (pA 2), .ref (pA 3), .ref (pA 4), .ref (pA 5), .ref (pA 6), .ref (pA 7), .ref (pA 8), .ref (pA 9), .ref (pA 10), .int (nI T), .int (nI Ac)], ia (pA 2) (pK 2) 7 (fun i => nI ((pg 2) i)), ia (pA 4) (pK 4) 7 (fun i => nI ((pg 4) i)), ia (pA 5) (pK 5) 7 (fun i => nI ((pg 5) i)), ia (pA 8) (pK 8) 4 (fun i => nI ((pg 8) i)), ia (pA 9) (pK 9) 6 (fun i => nI ((pg 9) i)), ia (pA 10) (pK 10) 3 (fun i => nI ((pg 10) i))]) hP hD rfl hS hA [4, 5, 0, 6, 7, 8, 9, 10, 1, 11, 2, 3] (by decide +kernel) rfl
        have hK9 := hK.sub (tys' := []) [] rfl
        refine W.widen (k := 0) (n := 0) (by exact Nat.le_of_ble_eq_true rfl) (by exact Nat.le_of_ble_eq_true rfl) ?_
        exact W.zret (v := 1) (ty := .boolean) hx hb hr (by decide) (fun t9 ht9 hW => ⟨⟨1, (), rfl, by rw [mbf, if_neg hcA, if_neg hcB, decide_eq_true hfp]; rfl, by rw [ht9]; exact hP9, va_K.moved hW.alike hK9, hD9⟩, hS.F ht9⟩) hS.2.2 d_GraphSearch_mayBeFrom_82
      · skip
        rw [if_neg hfp]
        refine tp_pc (pc' := 74) (by rfl) ?_
        refine lv_if_ne (tgt := 81) hx hb d_GraphSearch_mayBeFrom_74 (by decide) (fun c_3 => ?_) (fun c_3 => absurd c_3 (by decide))
        refine tp_pc (pc' := 81) (by rfl) ?_
        refine lv_iconst (v := 0) hx hb d_GraphSearch_mayBeFrom_81 (by decide) ?_
        obtain ⟨hP9, hD9, -⟩ := cut3 (wc := [oc xa 6 [.ref pa, .ref ga, .ref (xA 0), .ref (xA 1), .ref (xA 2), .ref (xA 3), .ref (xA 4), .ref (xA 5), .ref (xA 6), .ref (xA 7), .ref (xA 8), .ref (xA 9), .ref (xA 10), .ref (xA 11), .ref fa, .int (nI md), .int (nI mb)], ia (xA 0) (xK 0) 7 (fun i0 => mN (fm i0)), ia (xA 2) (xK 2) 3 (fun i => nI ((sc 2) i)), ia (xA 4) (xK 4) 7 (fun i => nI ((sc 4) i)), oc ga 1 [.ref pa, .ref g1, .ref g2, .ref g3, .int (nI dn), .long so], oc pa 0 [.ref (pA 0), .ref (pA 1), .ref (pA 2), .ref (pA 3), .ref (pA 4), .ref (pA 5), .ref (pA 6), .ref (pA 7), .ref (pA 8), .ref (pA 9), .ref (pA 10), .int (nI T), .int (nI Ac)], ia (pA 2) (pK 2) 7 (fun i => nI ((pg 2) i)), ia (pA 4) (pK 4) 7 (fun i => nI ((pg 4) i)), ia (pA 5) (pK 5) 7 (fun i => nI ((pg 5) i)), ia (pA 8) (pK 8) 4 (fun i => nI ((pg 8) i)), ia (pA 9) (pK 9) 6 (fun i => nI ((pg 9) i)), ia (pA 10) (pK 10) 3 (fun i => nI ((pg 10) i))]) hP hD rfl hS hA [4, 5, 0, 6, 7, 8, 9, 10, 1, 11, 2, 3] (by decide +kernel) rfl
        have hK9 := hK.sub (tys' := []) [] rfl
        refine W.widen (k := 0) (n := 0) (by exact Nat.le_of_ble_eq_true rfl) (by exact Nat.le_of_ble_eq_true rfl) ?_
        exact W.zret (v := 0) (ty := .boolean) hx hb hr (by decide) (fun t9 ht9 hW => ⟨⟨0, (), rfl, by rw [mbf, if_neg hcA, if_neg hcB, decide_eq_false hfp]; rfl, by rw [ht9]; exact hP9, va_K.moved hW.alike hK9, hD9⟩, hS.F ht9⟩) hS.2.2 d_GraphSearch_mayBeFrom_82
    · skip
      have hd1 : (pg 4) a = 3 := (nI_eq (a := (pg 4) a) (b := 3) (by omega) (by omega)).mp d1
      refine tp_pc (pc' := 53) (by rfl) ?_
      refine lv_aload_n hx hb d_GraphSearch_mayBeFrom_53 rfl (lv_at hl 1 rfl) ?_
      refine va_get (D := (dC, dI)) (ci := 6) (v := .ref (xA 2)) (C := R_GraphSearch) (T := F_GraphSearch) (N := 17) hx hb hw i_GraphSearch hown hK hP 0 rfl rfl 4 (by decide) (hw _ m_323) (fun _ h9 => h9) rfl d_GraphSearch_mayBeFrom_54 ?_
      refine lv_iload_n hx hb d_GraphSearch_mayBeFrom_57 rfl (lv_at hl 0 rfl) ?_
      refine va_iald (D := (dC, dI)) hx hb hK hP 2 1 rfl rfl (i := nI ((pg 5) a)) (pk_in ((pg 5) a) 3 (by omega)) d_GraphSearch_mayBeFrom_58 ?_
      refine tp_i (y := nI ((sc 2) ((pg 5) a))) (by rw [show (nI ((pg 5) a) : Int32).toNatClampNeg = (pg 5) a from pk_cl ((pg 5) a)]) ?_
      refine lv_iload_n hx hb d_GraphSearch_mayBeFrom_59 rfl (lv_at hl 3 rfl) ?_
      obtain ⟨b8, hb8⟩ : ∃ b8, b8 = sc 2 (pg 5 a) / 2 ^ q % 2 := ⟨_, rfl⟩
      have hb82 : b8 < 2 := by rw [hb8]; exact Nat.mod_lt _ (by decide)
      obtain ⟨hPc, hDc, hFc⟩ := cut3 (wc := []) hP hD rfl hS hA [] (by decide +kernel) rfl
      have hKc := hK.sub (tys' := []) [] rfl
      refine va_calli (va_runSN (As := [.int (nI ((sc 2) ((pg 5) a))), .int (nI q)]) (rest := []) ⟨hx, hb, hml, hown, hw⟩ (gen_isIn l dC dI (sc 2 (pg 5 a)) q (by omega) (by omega) s.heap.size) (⟨va_cnB 2 hw g_OM_isIn rfl rfl rfl (hn.1 (R_GraphSearch, 166, y_OM_isIn, "OrderModels") (nq 3 (by rfl))) (hw _ m_101) (by decide +kernel) ⟨Nat.le_of_ble_eq_true rfl, Nat.le_of_ble_eq_true rfl⟩, hw _ m_560, trivial⟩) ⟨fun a U g mk q => by obtain ⟨q0, q1, qP, qK, qD, qN⟩ := q; exact ⟨q0, q1, qP, va_K.moved (u := U) (U := U.calling g mk a) (Vm.Alike.refl U.vm) qK, qD, nw_call qN⟩, fun U hU hW => ⟨rfl, by rw [hU], by rw [hU]; exact hPc, va_K.moved hW.alike hKc, hDc.weaken (fun _ _ _ _ => trivial), nw_warm hW hn⟩⟩ rfl rfl hl.1 rfl (lv_room (Nat.le_of_ble_eq_true rfl)) d_GraphSearch_mayBeFrom_60 ⟨Nat.le_of_ble_eq_true rfl, Nat.le_of_ble_eq_true rfl⟩) hS (fun q _ h => hFc q h) hFc ?_
      intro r_4 u t9 H1 locs1 ht9 hvm hw1 hB hz1 hk1 hS1
      obtain ⟨hP1, hK1, hD1⟩ := hB
      rw [ht9] at hP1
      replace hK1 := va_K.moved hvm.symm hK1
      have hPD := join3 hP hD rfl [] [0, 1, 2, 3, 4, 5, 6, 7, 8, 9, 10, 11] rfl (by rfl) (by decide +kernel) (by decide +kernel) hk1 hFc hP1 hD1
      replace hK : va_K (dC, dI) classes [((xK 0), .int), ((xK 2), .int), ((xK 4), .int), ((pK 2), .int), ((pK 4), .int), ((pK 5), .int), ((pK 8), .int), ((pK 9), .int), ((pK 10), .int)] s := hK.app hK1
      clear hP1 hK1 hD1 hk1 hz1 hFc hKc hDc hPc hvm ht9 hP hS t9
      have hP : va_P (dC, dI) classes [oc xa 6 [.ref pa, .ref ga, .ref (xA 0), .ref (xA 1), .ref (xA 2), .ref (xA 3), .ref (xA 4), .ref (xA 5), .ref (xA 6), .ref (xA 7), .ref (xA 8), .ref (xA 9), .ref (xA 10), .ref (xA 11), .ref fa, .int (nI md), .int (nI mb)], ia (xA 0) (xK 0) 7 (fun i0 => mN (fm i0)), ia (xA 2) (xK 2) 3 (fun i => nI ((sc 2) i)), ia (xA 4) (xK 4) 7 (fun i => nI ((sc 4) i)), oc ga 1 [.ref pa, .ref g1, .ref g2, .ref g3, .int (nI dn), .long so], oc pa 0 [.ref (pA 0), .ref (pA 1), .ref (pA 2), .ref (pA 3), .ref (pA 4), .ref (pA 5), .ref (pA 6), .ref (pA 7), .ref (pA 8), .ref (pA 9), .ref (pA 10), .int (nI T), .int (nI Ac)], ia (pA 2) (pK 2) 7 (fun i => nI ((pg 2) i)), ia (pA 4) (pK 4) 7 (fun i => nI ((pg 4) i)), ia (pA 5) (pK 5) 7 (fun i => nI ((pg 5) i)), ia (pA 8) (pK 8) 4 (fun i => nI ((pg 8) i)), ia (pA 9) (pK 9) 6 (fun i => nI ((pg 9) i)), ia (pA 10) (pK 10) 3 (fun i => nI ((pg 10) i))] H1 := hPD.1
      replace hD : dd A [xa, (xA 0), (xA 2), (xA 4), ga, pa, (pA 2), (pA 4), (pA 5), (pA 8), (pA 9), (pA 10)] := dd_of hPD.2 rfl
      clear hPD
      revert H1 locs1
      intro H locs hS hP
      refine tp_i (y := nI b8) (by rw [hw1, hb8]) ?_
      clear hw1 r_4 u
      refine tp_pc (pc' := 63) (by rfl) ?_
      refine lv_if_eq (tgt := 68) hx hb d_GraphSearch_mayBeFrom_63 (by decide) (fun d2 => ?_) (fun d2 => ?_)
      · skip
        have hd2 : b8 = 0 := (nI_eq (a := b8) (b := 0) (by omega) (by omega)).mp d2
        have hcB : ¬ (pg 4 a = 3 ∧ sc 2 (pg 5 a) / 2 ^ q % 2 = 1) := fun h => by rw [← hb8] at h; omega
        refine tp_pc (pc' := 68) (by rfl) ?_
        refine lv_aload_n hx hb d_GraphSearch_mayBeFrom_68 rfl (lv_at hl 1 rfl) ?_
        refine lv_iload_n hx hb d_GraphSearch_mayBeFrom_69 rfl (lv_at hl 2 rfl) ?_
        refine lv_iload_n hx hb d_GraphSearch_mayBeFrom_70 rfl (lv_at hl 3 rfl) ?_
        obtain ⟨hPc, hDc, hFc⟩ := cut3 (wc := [oc xa 6 [.ref pa, .ref ga, .ref (xA 0), .ref (xA 1), .ref (xA 2), .ref (xA 3), .ref (xA 4), .ref (xA 5), .ref (xA 6), .ref (xA 7), .ref (xA 8), .ref (xA 9), .ref (xA 10), .ref (xA 11), .ref fa, .int (nI md), .int (nI mb)], ia (xA 0) (xK 0) 7 (fun i0 => mN (fm i0)), ia (xA 4) (xK 4) 7 (fun i => nI ((sc 4) i)), oc ga 1 [.ref pa, .ref g1, .ref g2, .ref g3, .int (nI dn), .long so], oc pa 0 [.ref (pA 0), .ref (pA 1), .ref (pA 2), .ref (pA 3), .ref (pA 4), .ref (pA 5), .ref (pA 6), .ref (pA 7), .ref (pA 8), .ref (pA 9), .ref (pA 10), .int (nI T), .int (nI Ac)], ia (pA 2) (pK 2) 7 (fun i => nI ((pg 2) i)), ia (pA 4) (pK 4) 7 (fun i => nI ((pg 4) i)), ia (pA 8) (pK 8) 4 (fun i => nI ((pg 8) i))]) hP hD rfl hS hA [0, 1, 3, 4, 5, 6, 7, 9] (by decide +kernel) rfl
        have hKc := hK.sub (tys' := [((xK 0), .int), ((xK 4), .int), ((pK 2), .int), ((pK 4), .int), ((pK 8), .int)]) [0, 2, 3, 4, 6] rfl
        refine va_calli (va_runV (As := [.int (nI a), .int (nI q)]) (rest := []) ⟨hx, hb, hml, hown, hw⟩ (gen_GS_isPast l dC dI pa pA pK T Ac pg nm g1 g2 g3 dn so xa ga fa xA xK md mb fm wm sc a q (by omega) hs4 hdn hfm (fun i hi => (p5 i (by omega)).2.2.1) (by omega) (fun h => by have := (p5 (q - 1) (by omega)).1; omega) p6 H.size) (cw_V 2 hw g_GraphSearch_isPast rfl rfl rfl (hw _ m_107) (hw _ m_849) (hw _ m_851) (hw _ m_48) (by decide +kernel) ⟨Nat.le_of_ble_eq_true rfl, Nat.le_of_ble_eq_true rfl⟩) ⟨fun a U g mk q => by obtain ⟨q0, q1, qP, qK, qD, qN⟩ := q; exact ⟨q0, q1, qP, va_K.moved (u := U) (U := U.calling g mk a) (Vm.Alike.refl U.vm) qK, qD, nw_call qN⟩, va_recv hKc hPc (ci := 6) (q0 := 0) rfl rfl, fun U hU hW => ⟨rfl, by rw [hU], by rw [hU]; exact hPc, va_K.moved hW.alike hKc, hDc.weaken (fun _ _ _ _ => trivial), nw_warm hW hn⟩⟩ rfl rfl hl.1 rfl (lv_room (Nat.le_of_ble_eq_true rfl)) d_GraphSearch_mayBeFrom_71 ⟨Nat.le_of_ble_eq_true rfl, Nat.le_of_ble_eq_true rfl⟩) hS (fun q _ h => hFc q h) hFc ?_
        intro r_5 u t9 H1 locs1 ht9 hvm hw1 hB hz1 hk1 hS1
        obtain ⟨hP1, hK1, hD1⟩ := hB
        rw [ht9] at hP1
        replace hK1 := va_K.moved hvm.symm hK1
        have hPD := join3 hP hD rfl [0, 1, 3, 4, 5, 6, 7, 9] [2, 8, 10, 11] rfl (by rfl) (by decide +kernel) (by decide +kernel) hk1 hFc hP1 hD1
        replace hK : va_K (dC, dI) classes [((xK 0), .int), ((xK 2), .int), ((xK 4), .int), ((pK 2), .int), ((pK 4), .int), ((pK 5), .int), ((pK 8), .int), ((pK 9), .int), ((pK 10), .int)] s := hK.app hK1
        clear hP1 hK1 hD1 hk1 hz1 hFc hKc hDc hPc hvm ht9 hP hS t9 locs H
        have hP : va_P (dC, dI) classes [ia (xA 2) (xK 2) 3 (fun i => nI ((sc 2) i)), ia (pA 5) (pK 5) 7 (fun i => nI ((pg 5) i)), ia (pA 9) (pK 9) 6 (fun i => nI ((pg 9) i)), ia (pA 10) (pK 10) 3 (fun i => nI ((pg 10) i)), oc xa 6 [.ref pa, .ref ga, .ref (xA 0), .ref (xA 1), .ref (xA 2), .ref (xA 3), .ref (xA 4), .ref (xA 5), .ref (xA 6), .ref (xA 7), .ref (xA 8), .ref (xA 9), .ref (xA 10), .ref (xA 11), .ref fa, .int (nI md), .int (nI mb)], ia (xA 0) (xK 0) 7 (fun i0 => mN (fm i0)), ia (xA 4) (xK 4) 7 (fun i => nI ((sc 4) i)), oc ga 1 [.ref pa, .ref g1, .ref g2, .ref g3, .int (nI dn), .long so], oc pa 0 [.ref (pA 0), .ref (pA 1), .ref (pA 2), .ref (pA 3), .ref (pA 4), .ref (pA 5), .ref (pA 6), .ref (pA 7), .ref (pA 8), .ref (pA 9), .ref (pA 10), .int (nI T), .int (nI Ac)], ia (pA 2) (pK 2) 7 (fun i => nI ((pg 2) i)), ia (pA 4) (pK 4) 7 (fun i => nI ((pg 4) i)), ia (pA 8) (pK 8) 4 (fun i => nI ((pg 8) i))] H1 := hPD.1
        replace hD : dd A [(xA 2), (pA 5), (pA 9), (pA 10), xa, (xA 0), (xA 4), ga, pa, (pA 2), (pA 4), (pA 8)] := dd_of hPD.2 rfl
        clear hPD
        revert H1 locs1
        intro H locs hS hP
        refine tp_i (y := (if fF (pst pg fm (sc 4 a &&& dn) q) a 0 = 0 then 0 else 1)) (hw1) ?_
        clear hw1 r_5 u
        by_cases hfp : fF (pst pg fm (sc 4 a &&& dn) q) a 0 = 0
        · skip
          rw [if_pos hfp]
          refine tp_pc (pc' := 74) (by rfl) ?_
          refine lv_if_ne (tgt := 81) hx hb d_GraphSearch_mayBeFrom_74 (by decide) (fun c_6 => absurd c_6 (by decide)) (fun c_6 => ?_)
          refine tp_pc (pc' := 77) (by rfl) ?_
          refine lv_iconst (v := 1) hx hb d_GraphSearch_mayBeFrom_77 (by decide) ?_
          refine lv_goto (tgt := 82) hx hb d_GraphSearch_mayBeFrom_78 (by decide) ?_
          refine tp_pc (pc' := 82) (by rfl) ?_
          obtain ⟨hP9, hD9, -⟩ := cut3 (wc := [oc xa 6 [.ref pa, .ref ga, .ref (xA 0), .ref (xA 1), .ref (xA 2), .ref (xA 3), .ref (xA 4), .ref (xA 5), .ref (xA 6), .ref (xA 7), .ref (xA 8), .ref (xA 9), .ref (xA 10), .ref (xA 11), .ref fa, .int (nI md), .int (nI mb)], ia (xA 0) (xK 0) 7 (fun i0 => mN (fm i0)), ia (xA 2) (xK 2) 3 (fun i => nI ((sc 2) i)), ia (xA 4) (xK 4) 7 (fun i => nI ((sc 4) i)), oc ga 1 [.ref pa, .ref g1, .ref g2, .ref g3, .int (nI dn), .long so], oc pa 0 [.ref (pA 0), .ref (pA 1), .ref (pA 2), .ref (pA 3), .ref (pA 4), .ref (pA 5), .ref (pA 6), .ref (pA 7), .ref (pA 8), .ref (pA 9), .ref (pA 10), .int (nI T), .int (nI Ac)], ia (pA 2) (pK 2) 7 (fun i => nI ((pg 2) i)), ia (pA 4) (pK 4) 7 (fun i => nI ((pg 4) i)), ia (pA 5) (pK 5) 7 (fun i => nI ((pg 5) i)), ia (pA 8) (pK 8) 4 (fun i => nI ((pg 8) i)), ia (pA 9) (pK 9) 6 (fun i => nI ((pg 9) i)), ia (pA 10) (pK 10) 3 (fun i => nI ((pg 10) i))]) hP hD rfl hS hA [4, 5, 0, 6, 7, 8, 9, 10, 1, 11, 2, 3] (by decide +kernel) rfl
          have hK9 := hK.sub (tys' := []) [] rfl
          refine W.widen (k := 0) (n := 0) (by exact Nat.le_of_ble_eq_true rfl) (by exact Nat.le_of_ble_eq_true rfl) ?_
          exact W.zret (v := 1) (ty := .boolean) hx hb hr (by decide) (fun t9 ht9 hW => ⟨⟨1, (), rfl, by rw [mbf, if_neg hcA, if_neg hcB, decide_eq_true hfp]; rfl, by rw [ht9]; exact hP9, va_K.moved hW.alike hK9, hD9⟩, hS.F ht9⟩) hS.2.2 d_GraphSearch_mayBeFrom_82
        · skip
          rw [if_neg hfp]
          refine tp_pc (pc' := 74) (by rfl) ?_
          refine lv_if_ne (tgt := 81) hx hb d_GraphSearch_mayBeFrom_74 (by decide) (fun c_7 => ?_) (fun c_7 => absurd c_7 (by decide))
          refine tp_pc (pc' := 81) (by rfl) ?_
          refine lv_iconst (v := 0) hx hb d_GraphSearch_mayBeFrom_81 (by decide) ?_
          obtain ⟨hP9, hD9, -⟩ := cut3 (wc := [oc xa 6 [.ref pa, .ref ga, .ref (xA 0), .ref (xA 1), .ref (xA 2), .ref (xA 3), .ref (xA 4), .ref (xA 5), .ref (xA 6), .ref (xA 7), .ref (xA 8), .ref (xA 9), .ref (xA 10), .ref (xA 11), .ref fa, .int (nI md), .int (nI mb)], ia (xA 0) (xK 0) 7 (fun i0 => mN (fm i0)), ia (xA 2) (xK 2) 3 (fun i => nI ((sc 2) i)), ia (xA 4) (xK 4) 7 (fun i => nI ((sc 4) i)), oc ga 1 [.ref pa, .ref g1, .ref g2, .ref g3, .int (nI dn), .long so], oc pa 0 [.ref (pA 0), .ref (pA 1), .ref (pA 2), .ref (pA 3), .ref (pA 4), .ref (pA 5), .ref (pA 6), .ref (pA 7), .ref (pA 8), .ref (pA 9), .ref (pA 10), .int (nI T), .int (nI Ac)], ia (pA 2) (pK 2) 7 (fun i => nI ((pg 2) i)), ia (pA 4) (pK 4) 7 (fun i => nI ((pg 4) i)), ia (pA 5) (pK 5) 7 (fun i => nI ((pg 5) i)), ia (pA 8) (pK 8) 4 (fun i => nI ((pg 8) i)), ia (pA 9) (pK 9) 6 (fun i => nI ((pg 9) i)), ia (pA 10) (pK 10) 3 (fun i => nI ((pg 10) i))]) hP hD rfl hS hA [4, 5, 0, 6, 7, 8, 9, 10, 1, 11, 2, 3] (by decide +kernel) rfl
          have hK9 := hK.sub (tys' := []) [] rfl
          refine W.widen (k := 0) (n := 0) (by exact Nat.le_of_ble_eq_true rfl) (by exact Nat.le_of_ble_eq_true rfl) ?_
          exact W.zret (v := 0) (ty := .boolean) hx hb hr (by decide) (fun t9 ht9 hW => ⟨⟨0, (), rfl, by rw [mbf, if_neg hcA, if_neg hcB, decide_eq_false hfp]; rfl, by rw [ht9]; exact hP9, va_K.moved hW.alike hK9, hD9⟩, hS.F ht9⟩) hS.2.2 d_GraphSearch_mayBeFrom_82
      · skip
        have hd2 : ¬ (b8 = 0) := fun q9 => d2 ((nI_eq (a := b8) (b := 0) (by omega) (by omega)).mpr q9)
        have hcP : pg 4 a = 3 ∧ sc 2 (pg 5 a) / 2 ^ q % 2 = 1 := ⟨hd1, by rw [← hb8]; exact bit0 hb82 hd2⟩
        refine tp_pc (pc' := 66) (by rfl) ?_
        refine lv_iconst (v := 0) hx hb d_GraphSearch_mayBeFrom_66 (by decide) ?_
        obtain ⟨hP9, hD9, -⟩ := cut3 (wc := [oc xa 6 [.ref pa, .ref ga, .ref (xA 0), .ref (xA 1), .ref (xA 2), .ref (xA 3), .ref (xA 4), .ref (xA 5), .ref (xA 6), .ref (xA 7), .ref (xA 8), .ref (xA 9), .ref (xA 10), .ref (xA 11), .ref fa, .int (nI md), .int (nI mb)], ia (xA 0) (xK 0) 7 (fun i0 => mN (fm i0)), ia (xA 2) (xK 2) 3 (fun i => nI ((sc 2) i)), ia (xA 4) (xK 4) 7 (fun i => nI ((sc 4) i)), oc ga 1 [.ref pa, .ref g1, .ref g2, .ref g3, .int (nI dn), .long so], oc pa 0 [.ref (pA 0), .ref (pA 1), .ref (pA 2), .ref (pA 3), .ref (pA 4), .ref (pA 5), .ref (pA 6), .ref (pA 7), .ref (pA 8), .ref (pA 9), .ref (pA 10), .int (nI T), .int (nI Ac)], ia (pA 2) (pK 2) 7 (fun i => nI ((pg 2) i)), ia (pA 4) (pK 4) 7 (fun i => nI ((pg 4) i)), ia (pA 5) (pK 5) 7 (fun i => nI ((pg 5) i)), ia (pA 8) (pK 8) 4 (fun i => nI ((pg 8) i)), ia (pA 9) (pK 9) 6 (fun i => nI ((pg 9) i)), ia (pA 10) (pK 10) 3 (fun i => nI ((pg 10) i))]) hP hD rfl hS hA [0, 1, 2, 3, 4, 5, 6, 7, 8, 9, 10, 11] (by decide +kernel) rfl
        have hK9 := hK.sub (tys' := []) [] rfl
        refine W.widen (k := 0) (n := 0) (by exact Nat.le_of_ble_eq_true rfl) (by exact Nat.le_of_ble_eq_true rfl) ?_
        exact W.zret (v := 0) (ty := .boolean) hx hb hr (by decide) (fun t9 ht9 hW => ⟨⟨0, (), rfl, by rw [mbf, if_neg hcA, if_pos hcP]; rfl, by rw [ht9]; exact hP9, va_K.moved hW.alike hK9, hD9⟩, hS.F ht9⟩) hS.2.2 d_GraphSearch_mayBeFrom_67
  · skip
    have hc1 : ¬ (q ≤ 0) := fun q9 => c1 ((nI_leI (a := q) (b := 0) (by omega) (by omega)).mpr q9)
    refine tp_pc (pc' := 14) (by rfl) ?_
    refine lv_iload_n hx hb d_GraphSearch_mayBeFrom_14 rfl (lv_at hl 3 rfl) ?_
    refine lv_iconst (v := 1) hx hb d_GraphSearch_mayBeFrom_15 (by decide) ?_
    refine lv_isub hx hb d_GraphSearch_mayBeFrom_16 ?_
    refine tp_i (y := nI (q - 1)) (by exact pk_sub (a := q) (b := 1) (by omega)) ?_
    refine lv_iload_n hx hb d_GraphSearch_mayBeFrom_17 rfl (lv_at hl 2 rfl) ?_
    refine lv_icmp_eq (tgt := 38) hx hb d_GraphSearch_mayBeFrom_18 (by decide) (fun c2 => ?_) (fun c2 => ?_)
    · skip
      have hc2 : q - 1 = a := (nI_eq (a := q - 1) (b := a) (by omega) (by omega)).mp c2
      have hcP : q ≠ 0 ∧ (q - 1 = a ∨ wtr pg (pg 5 a) / 2 ^ (q - 1) % 2 = 0) := ⟨by omega, Or.inl hc2⟩
      refine tp_pc (pc' := 38) (by rfl) ?_
      refine lv_iconst (v := 0) hx hb d_GraphSearch_mayBeFrom_38 (by decide) ?_
      obtain ⟨hP9, hD9, -⟩ := cut3 (wc := [oc xa 6 [.ref pa, .ref ga, .ref (xA 0), .ref (xA 1), .ref (xA 2), .ref (xA 3), .ref (xA 4), .ref (xA 5), .ref (xA 6), .ref (xA 7), .ref (xA 8), .ref (xA 9), .ref (xA 10), .ref (xA 11), .ref fa, .int (nI md), .int (nI mb)], ia (xA 0) (xK 0) 7 (fun i0 => mN (fm i0)), ia (xA 2) (xK 2) 3 (fun i => nI ((sc 2) i)), ia (xA 4) (xK 4) 7 (fun i => nI ((sc 4) i)), oc ga 1 [.ref pa, .ref g1, .ref g2, .ref g3, .int (nI dn), .long so], oc pa 0 [.ref (pA 0), .ref (pA 1), .ref (pA 2), .ref (pA 3), .ref (pA 4), .ref (pA 5), .ref (pA 6), .ref (pA 7), .ref (pA 8), .ref (pA 9), .ref (pA 10), .int (nI T), .int (nI Ac)], ia (pA 2) (pK 2) 7 (fun i => nI ((pg 2) i)), ia (pA 4) (pK 4) 7 (fun i => nI ((pg 4) i)), ia (pA 5) (pK 5) 7 (fun i => nI ((pg 5) i)), ia (pA 8) (pK 8) 4 (fun i => nI ((pg 8) i)), ia (pA 9) (pK 9) 6 (fun i => nI ((pg 9) i)), ia (pA 10) (pK 10) 3 (fun i => nI ((pg 10) i))]) hP hD rfl hS hA [0, 1, 2, 3, 4, 5, 6, 7, 8, 9, 10, 11] (by decide +kernel) rfl
      have hK9 := hK.sub (tys' := []) [] rfl
      refine W.widen (k := 0) (n := 0) (by exact Nat.le_of_ble_eq_true rfl) (by exact Nat.le_of_ble_eq_true rfl) ?_
      exact W.zret (v := 0) (ty := .boolean) hx hb hr (by decide) (fun t9 ht9 hW => ⟨⟨0, (), rfl, by rw [mbf, if_pos hcP]; rfl, by rw [ht9]; exact hP9, va_K.moved hW.alike hK9, hD9⟩, hS.F ht9⟩) hS.2.2 d_GraphSearch_mayBeFrom_39
    · skip
      have hc2 : ¬ (q - 1 = a) := fun q9 => c2 ((nI_eq (a := q - 1) (b := a) (by omega) (by omega)).mpr q9)
      refine tp_pc (pc' := 21) (by rfl) ?_
      refine lv_aload_n hx hb d_GraphSearch_mayBeFrom_21 rfl (lv_at hl 1 rfl) ?_
      refine va_get (D := (dC, dI)) (ci := 6) (v := .ref pa) (C := R_GraphSearch) (T := F_GraphSearch) (N := 17) hx hb hw i_GraphSearch hown hK hP 0 rfl rfl 0 (by decide) (hw _ m_319) (fun _ h9 => h9) rfl d_GraphSearch_mayBeFrom_22 ?_
      refine lv_iload_n hx hb d_GraphSearch_mayBeFrom_25 rfl (lv_at hl 0 rfl) ?_
      obtain ⟨hPc, hDc, hFc⟩ := cut3 (wc := [oc pa 0 [.ref (pA 0), .ref (pA 1), .ref (pA 2), .ref (pA 3), .ref (pA 4), .ref (pA 5), .ref (pA 6), .ref (pA 7), .ref (pA 8), .ref (pA 9), .ref (pA 10), .int (nI T), .int (nI Ac)], ia (pA 9) (pK 9) 6 (fun i => nI ((pg 9) i)), ia (pA 10) (pK 10) 3 (fun i => nI ((pg 10) i))]) hP hD rfl hS hA [5, 10, 11] (by decide +kernel) rfl
      have hKc := hK.sub (tys' := [((pK 9), .int), ((pK 10), .int)]) [7, 8] rfl
      refine va_calli (va_runV (As := [.int (nI ((pg 5) a))]) (rest := []) ⟨hx, hb, hml, hown, hw⟩ (gen_Program_writersOf l dC dI pa pA pK T Ac pg nm (pg 5 a) (by omega) (p7 0) (fun _ => p8 _) s.heap.size) (cw_V 1 hw g_Program_writersOf rfl rfl rfl (hw _ m_102) (hw _ m_804) (hw _ m_805) (hw _ m_806) (by decide +kernel) ⟨Nat.le_of_ble_eq_true rfl, Nat.le_of_ble_eq_true rfl⟩) ⟨fun a U g mk q => by obtain ⟨q0, q1, qP, qK, qD, qN⟩ := q; exact ⟨q0, q1, qP, va_K.moved (u := U) (U := U.calling g mk a) (Vm.Alike.refl U.vm) qK, qD, nw_call qN⟩, va_recv hKc hPc (ci := 0) (q0 := 0) rfl rfl, fun U hU hW => ⟨rfl, by rw [hU], by rw [hU]; exact hPc, va_K.moved hW.alike hKc, hDc.weaken (fun _ _ _ _ => trivial), nw_warm hW hn⟩⟩ rfl rfl hl.1 rfl (lv_room (Nat.le_of_ble_eq_true rfl)) d_GraphSearch_mayBeFrom_26 ⟨Nat.le_of_ble_eq_true rfl, Nat.le_of_ble_eq_true rfl⟩) hS (fun q _ h => hFc q h) hFc ?_
      intro r_8 u t9 H1 locs1 ht9 hvm hw1 hB hz1 hk1 hS1
      obtain ⟨hP1, hK1, hD1⟩ := hB
      rw [ht9] at hP1
      replace hK1 := va_K.moved hvm.symm hK1
      have hPD := join3 hP hD rfl [5, 10, 11] [0, 1, 2, 3, 4, 6, 7, 8, 9] rfl (by rfl) (by decide +kernel) (by decide +kernel) hk1 hFc hP1 hD1
      replace hK : va_K (dC, dI) classes [((xK 0), .int), ((xK 2), .int), ((xK 4), .int), ((pK 2), .int), ((pK 4), .int), ((pK 5), .int), ((pK 8), .int), ((pK 9), .int), ((pK 10), .int)] s := hK.app hK1
      clear hP1 hK1 hD1 hk1 hz1 hFc hKc hDc hPc hvm ht9 hP hS t9
      have hP : va_P (dC, dI) classes [oc xa 6 [.ref pa, .ref ga, .ref (xA 0), .ref (xA 1), .ref (xA 2), .ref (xA 3), .ref (xA 4), .ref (xA 5), .ref (xA 6), .ref (xA 7), .ref (xA 8), .ref (xA 9), .ref (xA 10), .ref (xA 11), .ref fa, .int (nI md), .int (nI mb)], ia (xA 0) (xK 0) 7 (fun i0 => mN (fm i0)), ia (xA 2) (xK 2) 3 (fun i => nI ((sc 2) i)), ia (xA 4) (xK 4) 7 (fun i => nI ((sc 4) i)), oc ga 1 [.ref pa, .ref g1, .ref g2, .ref g3, .int (nI dn), .long so], ia (pA 2) (pK 2) 7 (fun i => nI ((pg 2) i)), ia (pA 4) (pK 4) 7 (fun i => nI ((pg 4) i)), ia (pA 5) (pK 5) 7 (fun i => nI ((pg 5) i)), ia (pA 8) (pK 8) 4 (fun i => nI ((pg 8) i)), oc pa 0 [.ref (pA 0), .ref (pA 1), .ref (pA 2), .ref (pA 3), .ref (pA 4), .ref (pA 5), .ref (pA 6), .ref (pA 7), .ref (pA 8), .ref (pA 9), .ref (pA 10), .int (nI T), .int (nI Ac)], ia (pA 9) (pK 9) 6 (fun i => nI ((pg 9) i)), ia (pA 10) (pK 10) 3 (fun i => nI ((pg 10) i))] H1 := hPD.1
      replace hD : dd A [xa, (xA 0), (xA 2), (xA 4), ga, (pA 2), (pA 4), (pA 5), (pA 8), pa, (pA 9), (pA 10)] := dd_of hPD.2 rfl
      clear hPD
      revert H1 locs1
      intro H locs hS hP
      refine tp_i (y := nI (wtr pg (pg 5 a))) (by rw [hw1, if_neg (by omega)]; rfl) ?_
      clear hw1 r_8 u
      have wt8 : wtr pg (pg 5 a) < 128 := andn_lt (p8 _)
      refine tp_pc (pc' := 29) (by rfl) ?_
      refine lv_iload_n hx hb d_GraphSearch_mayBeFrom_29 rfl (lv_at hl 3 rfl) ?_
      refine lv_iconst (v := 1) hx hb d_GraphSearch_mayBeFrom_30 (by decide) ?_
      refine lv_isub hx hb d_GraphSearch_mayBeFrom_31 ?_
      refine tp_i (y := nI (q - 1)) (by exact pk_sub (a := q) (b := 1) (by omega)) ?_
      obtain ⟨b9, hb9⟩ : ∃ b9, b9 = wtr pg (pg 5 a) / 2 ^ (q - 1) % 2 := ⟨_, rfl⟩
      have hb92 : b9 < 2 := by rw [hb9]; exact Nat.mod_lt _ (by decide)
      obtain ⟨hPc, hDc, hFc⟩ := cut3 (wc := []) hP hD rfl hS hA [] (by decide +kernel) rfl
      have hKc := hK.sub (tys' := []) [] rfl
      refine va_calli (va_runSN (As := [.int (nI (wtr pg (pg 5 a))), .int (nI (q - 1))]) (rest := []) ⟨hx, hb, hml, hown, hw⟩ (gen_isIn l dC dI (wtr pg (pg 5 a)) (q - 1) (by omega) (by omega) H.size) (⟨va_cnB 2 hw g_OM_isIn rfl rfl rfl (hn.1 (R_GraphSearch, 166, y_OM_isIn, "OrderModels") (nq 3 (by rfl))) (hw _ m_101) (by decide +kernel) ⟨Nat.le_of_ble_eq_true rfl, Nat.le_of_ble_eq_true rfl⟩, hw _ m_560, trivial⟩) ⟨fun a U g mk q => by obtain ⟨q0, q1, qP, qK, qD, qN⟩ := q; exact ⟨q0, q1, qP, va_K.moved (u := U) (U := U.calling g mk a) (Vm.Alike.refl U.vm) qK, qD, nw_call qN⟩, fun U hU hW => ⟨rfl, by rw [hU], by rw [hU]; exact hPc, va_K.moved hW.alike hKc, hDc.weaken (fun _ _ _ _ => trivial), nw_warm hW hn⟩⟩ rfl rfl hl.1 rfl (lv_room (Nat.le_of_ble_eq_true rfl)) d_GraphSearch_mayBeFrom_32 ⟨Nat.le_of_ble_eq_true rfl, Nat.le_of_ble_eq_true rfl⟩) hS (fun q _ h => hFc q h) hFc ?_
      intro r_9 u t9 H1 locs1 ht9 hvm hw1 hB hz1 hk1 hS1
      obtain ⟨hP1, hK1, hD1⟩ := hB
      rw [ht9] at hP1
      replace hK1 := va_K.moved hvm.symm hK1
      have hPD := join3 hP hD rfl [] [0, 1, 2, 3, 4, 5, 6, 7, 8, 9, 10, 11] rfl (by rfl) (by decide +kernel) (by decide +kernel) hk1 hFc hP1 hD1
      replace hK : va_K (dC, dI) classes [((xK 0), .int), ((xK 2), .int), ((xK 4), .int), ((pK 2), .int), ((pK 4), .int), ((pK 5), .int), ((pK 8), .int), ((pK 9), .int), ((pK 10), .int)] s := hK.app hK1
      clear hP1 hK1 hD1 hk1 hz1 hFc hKc hDc hPc hvm ht9 hP hS t9 locs H
      have hP : va_P (dC, dI) classes [oc xa 6 [.ref pa, .ref ga, .ref (xA 0), .ref (xA 1), .ref (xA 2), .ref (xA 3), .ref (xA 4), .ref (xA 5), .ref (xA 6), .ref (xA 7), .ref (xA 8), .ref (xA 9), .ref (xA 10), .ref (xA 11), .ref fa, .int (nI md), .int (nI mb)], ia (xA 0) (xK 0) 7 (fun i0 => mN (fm i0)), ia (xA 2) (xK 2) 3 (fun i => nI ((sc 2) i)), ia (xA 4) (xK 4) 7 (fun i => nI ((sc 4) i)), oc ga 1 [.ref pa, .ref g1, .ref g2, .ref g3, .int (nI dn), .long so], ia (pA 2) (pK 2) 7 (fun i => nI ((pg 2) i)), ia (pA 4) (pK 4) 7 (fun i => nI ((pg 4) i)), ia (pA 5) (pK 5) 7 (fun i => nI ((pg 5) i)), ia (pA 8) (pK 8) 4 (fun i => nI ((pg 8) i)), oc pa 0 [.ref (pA 0), .ref (pA 1), .ref (pA 2), .ref (pA 3), .ref (pA 4), .ref (pA 5), .ref (pA 6), .ref (pA 7), .ref (pA 8), .ref (pA 9), .ref (pA 10), .int (nI T), .int (nI Ac)], ia (pA 9) (pK 9) 6 (fun i => nI ((pg 9) i)), ia (pA 10) (pK 10) 3 (fun i => nI ((pg 10) i))] H1 := hPD.1
      replace hD : dd A [xa, (xA 0), (xA 2), (xA 4), ga, (pA 2), (pA 4), (pA 5), (pA 8), pa, (pA 9), (pA 10)] := dd_of hPD.2 rfl
      clear hPD
      revert H1 locs1
      intro H locs hS hP
      refine tp_i (y := nI b9) (by rw [hw1, hb9]) ?_
      clear hw1 r_9 u
      refine tp_pc (pc' := 35) (by rfl) ?_
      refine lv_if_ne (tgt := 40) hx hb d_GraphSearch_mayBeFrom_35 (by decide) (fun c3 => ?_) (fun c3 => ?_)
      · skip
        have hc3 : ¬ (b9 = 0) := fun q9 => c3 ((nI_eq (a := b9) (b := 0) (by omega) (by omega)).mpr q9)
        have hcA : ¬ (q ≠ 0 ∧ (q - 1 = a ∨ wtr pg (pg 5 a) / 2 ^ (q - 1) % 2 = 0)) := fun h => by rw [← hb9] at h; omega
        refine tp_pc (pc' := 40) (by rfl) ?_
        refine lv_aload_n hx hb d_GraphSearch_mayBeFrom_40 rfl (lv_at hl 1 rfl) ?_
        refine va_get (D := (dC, dI)) (ci := 6) (v := .ref pa) (C := R_GraphSearch) (T := F_GraphSearch) (N := 17) hx hb hw i_GraphSearch hown hK hP 0 rfl rfl 0 (by decide) (hw _ m_319) (fun _ h9 => h9) rfl d_GraphSearch_mayBeFrom_41 ?_
        refine va_get (D := (dC, dI)) (ci := 0) (v := .ref (pA 4)) (C := R_Program) (T := F_Program) (N := 13) hx hb hw i_Program hown hK hP 9 rfl rfl 4 (by decide) (hw _ m_139) (fun _ h9 => h9) rfl d_GraphSearch_mayBeFrom_44 ?_
        refine lv_iload_n hx hb d_GraphSearch_mayBeFrom_47 rfl (lv_at hl 2 rfl) ?_
        refine va_iald (D := (dC, dI)) hx hb hK hP 6 4 rfl rfl (i := nI a) (pk_in a 7 (by omega)) d_GraphSearch_mayBeFrom_48 ?_
        refine tp_i (y := nI ((pg 4) a)) (by rw [show (nI a : Int32).toNatClampNeg = a from pk_cl a]) ?_
        refine lv_iconst (v := 3) hx hb d_GraphSearch_mayBeFrom_49 (by decide) ?_
        refine lv_icmp_ne (tgt := 68) hx hb d_GraphSearch_mayBeFrom_50 (by decide) (fun d1 => ?_) (fun d1 => ?_)
        · skip
          have hd1 : ¬ ((pg 4) a = 3) := fun q9 => d1 ((nI_eq (a := (pg 4) a) (b := 3) (by omega) (by omega)).mpr q9)
          have hcB : ¬ (pg 4 a = 3 ∧ sc 2 (pg 5 a) / 2 ^ q % 2 = 1) := fun h => hd1 h.1
          refine tp_pc (pc' := 68) (by rfl) ?_
          refine lv_aload_n hx hb d_GraphSearch_mayBeFrom_68 rfl (lv_at hl 1 rfl) ?_
          refine lv_iload_n hx hb d_GraphSearch_mayBeFrom_69 rfl (lv_at hl 2 rfl) ?_
          refine lv_iload_n hx hb d_GraphSearch_mayBeFrom_70 rfl (lv_at hl 3 rfl) ?_
          obtain ⟨hPc, hDc, hFc⟩ := cut3 (wc := [oc xa 6 [.ref pa, .ref ga, .ref (xA 0), .ref (xA 1), .ref (xA 2), .ref (xA 3), .ref (xA 4), .ref (xA 5), .ref (xA 6), .ref (xA 7), .ref (xA 8), .ref (xA 9), .ref (xA 10), .ref (xA 11), .ref fa, .int (nI md), .int (nI mb)], ia (xA 0) (xK 0) 7 (fun i0 => mN (fm i0)), ia (xA 4) (xK 4) 7 (fun i => nI ((sc 4) i)), oc ga 1 [.ref pa, .ref g1, .ref g2, .ref g3, .int (nI dn), .long so], oc pa 0 [.ref (pA 0), .ref (pA 1), .ref (pA 2), .ref (pA 3), .ref (pA 4), .ref (pA 5), .ref (pA 6), .ref (pA 7), .ref (pA 8), .ref (pA 9), .ref (pA 10), .int (nI T), .int (nI Ac)], ia (pA 2) (pK 2) 7 (fun i => nI ((pg 2) i)), ia (pA 4) (pK 4) 7 (fun i => nI ((pg 4) i)), ia (pA 8) (pK 8) 4 (fun i => nI ((pg 8) i))]) hP hD rfl hS hA [0, 1, 3, 4, 9, 5, 6, 8] (by decide +kernel) rfl
          have hKc := hK.sub (tys' := [((xK 0), .int), ((xK 4), .int), ((pK 2), .int), ((pK 4), .int), ((pK 8), .int)]) [0, 2, 3, 4, 6] rfl
          refine va_calli (va_runV (As := [.int (nI a), .int (nI q)]) (rest := []) ⟨hx, hb, hml, hown, hw⟩ (gen_GS_isPast l dC dI pa pA pK T Ac pg nm g1 g2 g3 dn so xa ga fa xA xK md mb fm wm sc a q (by omega) hs4 hdn hfm (fun i hi => (p5 i (by omega)).2.2.1) (by omega) (fun h => by have := (p5 (q - 1) (by omega)).1; omega) p6 H.size) (cw_V 2 hw g_GraphSearch_isPast rfl rfl rfl (hw _ m_107) (hw _ m_849) (hw _ m_851) (hw _ m_48) (by decide +kernel) ⟨Nat.le_of_ble_eq_true rfl, Nat.le_of_ble_eq_true rfl⟩) ⟨fun a U g mk q => by obtain ⟨q0, q1, qP, qK, qD, qN⟩ := q; exact ⟨q0, q1, qP, va_K.moved (u := U) (U := U.calling g mk a) (Vm.Alike.refl U.vm) qK, qD, nw_call qN⟩, va_recv hKc hPc (ci := 6) (q0 := 0) rfl rfl, fun U hU hW => ⟨rfl, by rw [hU], by rw [hU]; exact hPc, va_K.moved hW.alike hKc, hDc.weaken (fun _ _ _ _ => trivial), nw_warm hW hn⟩⟩ rfl rfl hl.1 rfl (lv_room (Nat.le_of_ble_eq_true rfl)) d_GraphSearch_mayBeFrom_71 ⟨Nat.le_of_ble_eq_true rfl, Nat.le_of_ble_eq_true rfl⟩) hS (fun q _ h => hFc q h) hFc ?_
          intro r_10 u t9 H1 locs1 ht9 hvm hw1 hB hz1 hk1 hS1
          obtain ⟨hP1, hK1, hD1⟩ := hB
          rw [ht9] at hP1
          replace hK1 := va_K.moved hvm.symm hK1
          have hPD := join3 hP hD rfl [0, 1, 3, 4, 9, 5, 6, 8] [2, 7, 10, 11] rfl (by rfl) (by decide +kernel) (by decide +kernel) hk1 hFc hP1 hD1
          replace hK : va_K (dC, dI) classes [((xK 0), .int), ((xK 2), .int), ((xK 4), .int), ((pK 2), .int), ((pK 4), .int), ((pK 5), .int), ((pK 8), .int), ((pK 9), .int), ((pK 10), .int)] s := hK.app hK1
          clear hP1 hK1 hD1 hk1 hz1 hFc hKc hDc hPc hvm ht9 hP hS t9 locs H
          have hP : va_P (dC, dI) classes [ia (xA 2) (xK 2) 3 (fun i => nI ((sc 2) i)), ia (pA 5) (pK 5) 7 (fun i => nI ((pg 5) i)), ia (pA 9) (pK 9) 6 (fun i => nI ((pg 9) i)), ia (pA 10) (pK 10) 3 (fun i => nI ((pg 10) i)), oc xa 6 [.ref pa, .ref ga, .ref (xA 0), .ref (xA 1), .ref (xA 2), .ref (xA 3), .ref (xA 4), .ref (xA 5), .ref (xA 6), .ref (xA 7), .ref (xA 8), .ref (xA 9), .ref (xA 10), .ref (xA 11), .ref fa, .int (nI md), .int (nI mb)], ia (xA 0) (xK 0) 7 (fun i0 => mN (fm i0)), ia (xA 4) (xK 4) 7 (fun i => nI ((sc 4) i)), oc ga 1 [.ref pa, .ref g1, .ref g2, .ref g3, .int (nI dn), .long so], oc pa 0 [.ref (pA 0), .ref (pA 1), .ref (pA 2), .ref (pA 3), .ref (pA 4), .ref (pA 5), .ref (pA 6), .ref (pA 7), .ref (pA 8), .ref (pA 9), .ref (pA 10), .int (nI T), .int (nI Ac)], ia (pA 2) (pK 2) 7 (fun i => nI ((pg 2) i)), ia (pA 4) (pK 4) 7 (fun i => nI ((pg 4) i)), ia (pA 8) (pK 8) 4 (fun i => nI ((pg 8) i))] H1 := hPD.1
          replace hD : dd A [(xA 2), (pA 5), (pA 9), (pA 10), xa, (xA 0), (xA 4), ga, pa, (pA 2), (pA 4), (pA 8)] := dd_of hPD.2 rfl
          clear hPD
          revert H1 locs1
          intro H locs hS hP
          refine tp_i (y := (if fF (pst pg fm (sc 4 a &&& dn) q) a 0 = 0 then 0 else 1)) (hw1) ?_
          clear hw1 r_10 u
          by_cases hfp : fF (pst pg fm (sc 4 a &&& dn) q) a 0 = 0
          · skip
            rw [if_pos hfp]
            refine tp_pc (pc' := 74) (by rfl) ?_
            refine lv_if_ne (tgt := 81) hx hb d_GraphSearch_mayBeFrom_74 (by decide) (fun c_11 => absurd c_11 (by decide)) (fun c_11 => ?_)
            refine tp_pc (pc' := 77) (by rfl) ?_
            refine lv_iconst (v := 1) hx hb d_GraphSearch_mayBeFrom_77 (by decide) ?_
            refine lv_goto (tgt := 82) hx hb d_GraphSearch_mayBeFrom_78 (by decide) ?_
            refine tp_pc (pc' := 82) (by rfl) ?_
            obtain ⟨hP9, hD9, -⟩ := cut3 (wc := [oc xa 6 [.ref pa, .ref ga, .ref (xA 0), .ref (xA 1), .ref (xA 2), .ref (xA 3), .ref (xA 4), .ref (xA 5), .ref (xA 6), .ref (xA 7), .ref (xA 8), .ref (xA 9), .ref (xA 10), .ref (xA 11), .ref fa, .int (nI md), .int (nI mb)], ia (xA 0) (xK 0) 7 (fun i0 => mN (fm i0)), ia (xA 2) (xK 2) 3 (fun i => nI ((sc 2) i)), ia (xA 4) (xK 4) 7 (fun i => nI ((sc 4) i)), oc ga 1 [.ref pa, .ref g1, .ref g2, .ref g3, .int (nI dn), .long so], oc pa 0 [.ref (pA 0), .ref (pA 1), .ref (pA 2), .ref (pA 3), .ref (pA 4), .ref (pA 5), .ref (pA 6), .ref (pA 7), .ref (pA 8), .ref (pA 9), .ref (pA 10), .int (nI T), .int (nI Ac)], ia (pA 2) (pK 2) 7 (fun i => nI ((pg 2) i)), ia (pA 4) (pK 4) 7 (fun i => nI ((pg 4) i)), ia (pA 5) (pK 5) 7 (fun i => nI ((pg 5) i)), ia (pA 8) (pK 8) 4 (fun i => nI ((pg 8) i)), ia (pA 9) (pK 9) 6 (fun i => nI ((pg 9) i)), ia (pA 10) (pK 10) 3 (fun i => nI ((pg 10) i))]) hP hD rfl hS hA [4, 5, 0, 6, 7, 8, 9, 10, 1, 11, 2, 3] (by decide +kernel) rfl
            have hK9 := hK.sub (tys' := []) [] rfl
            refine W.widen (k := 0) (n := 0) (by exact Nat.le_of_ble_eq_true rfl) (by exact Nat.le_of_ble_eq_true rfl) ?_
            exact W.zret (v := 1) (ty := .boolean) hx hb hr (by decide) (fun t9 ht9 hW => ⟨⟨1, (), rfl, by rw [mbf, if_neg hcA, if_neg hcB, decide_eq_true hfp]; rfl, by rw [ht9]; exact hP9, va_K.moved hW.alike hK9, hD9⟩, hS.F ht9⟩) hS.2.2 d_GraphSearch_mayBeFrom_82
          · skip
            rw [if_neg hfp]
            refine tp_pc (pc' := 74) (by rfl) ?_
            refine lv_if_ne (tgt := 81) hx hb d_GraphSearch_mayBeFrom_74 (by decide) (fun c_12 => ?_) (fun c_12 => absurd c_12 (by decide))
            refine tp_pc (pc' := 81) (by rfl) ?_
            refine lv_iconst (v := 0) hx hb d_GraphSearch_mayBeFrom_81 (by decide) ?_
            obtain ⟨hP9, hD9, -⟩ := cut3 (wc := [oc xa 6 [.ref pa, .ref ga, .ref (xA 0), .ref (xA 1), .ref (xA 2), .ref (xA 3), .ref (xA 4), .ref (xA 5), .ref (xA 6), .ref (xA 7), .ref (xA 8), .ref (xA 9), .ref (xA 10), .ref (xA 11), .ref fa, .int (nI md), .int (nI mb)], ia (xA 0) (xK 0) 7 (fun i0 => mN (fm i0)), ia (xA 2) (xK 2) 3 (fun i => nI ((sc 2) i)), ia (xA 4) (xK 4) 7 (fun i => nI ((sc 4) i)), oc ga 1 [.ref pa, .ref g1, .ref g2, .ref g3, .int (nI dn), .long so], oc pa 0 [.ref (pA 0), .ref (pA 1), .ref (pA 2), .ref (pA 3), .ref (pA 4), .ref (pA 5), .ref (pA 6), .ref (pA 7), .ref (pA 8), .ref (pA 9), .ref (pA 10), .int (nI T), .int (nI Ac)], ia (pA 2) (pK 2) 7 (fun i => nI ((pg 2) i)), ia (pA 4) (pK 4) 7 (fun i => nI ((pg 4) i)), ia (pA 5) (pK 5) 7 (fun i => nI ((pg 5) i)), ia (pA 8) (pK 8) 4 (fun i => nI ((pg 8) i)), ia (pA 9) (pK 9) 6 (fun i => nI ((pg 9) i)), ia (pA 10) (pK 10) 3 (fun i => nI ((pg 10) i))]) hP hD rfl hS hA [4, 5, 0, 6, 7, 8, 9, 10, 1, 11, 2, 3] (by decide +kernel) rfl
            have hK9 := hK.sub (tys' := []) [] rfl
            refine W.widen (k := 0) (n := 0) (by exact Nat.le_of_ble_eq_true rfl) (by exact Nat.le_of_ble_eq_true rfl) ?_
            exact W.zret (v := 0) (ty := .boolean) hx hb hr (by decide) (fun t9 ht9 hW => ⟨⟨0, (), rfl, by rw [mbf, if_neg hcA, if_neg hcB, decide_eq_false hfp]; rfl, by rw [ht9]; exact hP9, va_K.moved hW.alike hK9, hD9⟩, hS.F ht9⟩) hS.2.2 d_GraphSearch_mayBeFrom_82
        · skip
          have hd1 : (pg 4) a = 3 := (nI_eq (a := (pg 4) a) (b := 3) (by omega) (by omega)).mp d1
          refine tp_pc (pc' := 53) (by rfl) ?_
          refine lv_aload_n hx hb d_GraphSearch_mayBeFrom_53 rfl (lv_at hl 1 rfl) ?_
          refine va_get (D := (dC, dI)) (ci := 6) (v := .ref (xA 2)) (C := R_GraphSearch) (T := F_GraphSearch) (N := 17) hx hb hw i_GraphSearch hown hK hP 0 rfl rfl 4 (by decide) (hw _ m_323) (fun _ h9 => h9) rfl d_GraphSearch_mayBeFrom_54 ?_
          refine lv_iload_n hx hb d_GraphSearch_mayBeFrom_57 rfl (lv_at hl 0 rfl) ?_
          refine va_iald (D := (dC, dI)) hx hb hK hP 2 1 rfl rfl (i := nI ((pg 5) a)) (pk_in ((pg 5) a) 3 (by omega)) d_GraphSearch_mayBeFrom_58 ?_
          refine tp_i (y := nI ((sc 2) ((pg 5) a))) (by rw [show (nI ((pg 5) a) : Int32).toNatClampNeg = (pg 5) a from pk_cl ((pg 5) a)]) ?_
          refine lv_iload_n hx hb d_GraphSearch_mayBeFrom_59 rfl (lv_at hl 3 rfl) ?_
          obtain ⟨b8, hb8⟩ : ∃ b8, b8 = sc 2 (pg 5 a) / 2 ^ q % 2 := ⟨_, rfl⟩
          have hb82 : b8 < 2 := by rw [hb8]; exact Nat.mod_lt _ (by decide)
          obtain ⟨hPc, hDc, hFc⟩ := cut3 (wc := []) hP hD rfl hS hA [] (by decide +kernel) rfl
          have hKc := hK.sub (tys' := []) [] rfl
          refine va_calli (va_runSN (As := [.int (nI ((sc 2) ((pg 5) a))), .int (nI q)]) (rest := []) ⟨hx, hb, hml, hown, hw⟩ (gen_isIn l dC dI (sc 2 (pg 5 a)) q (by omega) (by omega) H.size) (⟨va_cnB 2 hw g_OM_isIn rfl rfl rfl (hn.1 (R_GraphSearch, 166, y_OM_isIn, "OrderModels") (nq 3 (by rfl))) (hw _ m_101) (by decide +kernel) ⟨Nat.le_of_ble_eq_true rfl, Nat.le_of_ble_eq_true rfl⟩, hw _ m_560, trivial⟩) ⟨fun a U g mk q => by obtain ⟨q0, q1, qP, qK, qD, qN⟩ := q; exact ⟨q0, q1, qP, va_K.moved (u := U) (U := U.calling g mk a) (Vm.Alike.refl U.vm) qK, qD, nw_call qN⟩, fun U hU hW => ⟨rfl, by rw [hU], by rw [hU]; exact hPc, va_K.moved hW.alike hKc, hDc.weaken (fun _ _ _ _ => trivial), nw_warm hW hn⟩⟩ rfl rfl hl.1 rfl (lv_room (Nat.le_of_ble_eq_true rfl)) d_GraphSearch_mayBeFrom_60 ⟨Nat.le_of_ble_eq_true rfl, Nat.le_of_ble_eq_true rfl⟩) hS (fun q _ h => hFc q h) hFc ?_
          intro r_13 u t9 H1 locs1 ht9 hvm hw1 hB hz1 hk1 hS1
          obtain ⟨hP1, hK1, hD1⟩ := hB
          rw [ht9] at hP1
          replace hK1 := va_K.moved hvm.symm hK1
          have hPD := join3 hP hD rfl [] [0, 1, 2, 3, 4, 5, 6, 7, 8, 9, 10, 11] rfl (by rfl) (by decide +kernel) (by decide +kernel) hk1 hFc hP1 hD1
          replace hK : va_K (dC, dI) classes [((xK 0), .int), ((xK 2), .int), ((xK 4), .int), ((pK 2), .int), ((pK 4), .int), ((pK 5), .int), ((pK 8), .int), ((pK 9), .int), ((pK 10), .int)] s := hK.app hK1
          clear hP1 hK1 hD1 hk1 hz1 hFc hKc hDc hPc hvm ht9 hP hS t9 locs H
          have hP : va_P (dC, dI) classes [oc xa 6 [.ref pa, .ref ga, .ref (xA 0), .ref (xA 1), .ref (xA 2), .ref (xA 3), .ref (xA 4), .ref (xA 5), .ref (xA 6), .ref (xA 7), .ref (xA 8), .ref (xA 9), .ref (xA 10), .ref (xA 11), .ref fa, .int (nI md), .int (nI mb)], ia (xA 0) (xK 0) 7 (fun i0 => mN (fm i0)), ia (xA 2) (xK 2) 3 (fun i => nI ((sc 2) i)), ia (xA 4) (xK 4) 7 (fun i => nI ((sc 4) i)), oc ga 1 [.ref pa, .ref g1, .ref g2, .ref g3, .int (nI dn), .long so], ia (pA 2) (pK 2) 7 (fun i => nI ((pg 2) i)), ia (pA 4) (pK 4) 7 (fun i => nI ((pg 4) i)), ia (pA 5) (pK 5) 7 (fun i => nI ((pg 5) i)), ia (pA 8) (pK 8) 4 (fun i => nI ((pg 8) i)), oc pa 0 [.ref (pA 0), .ref (pA 1), .ref (pA 2), .ref (pA 3), .ref (pA 4), .ref (pA 5), .ref (pA 6), .ref (pA 7), .ref (pA 8), .ref (pA 9), .ref (pA 10), .int (nI T), .int (nI Ac)], ia (pA 9) (pK 9) 6 (fun i => nI ((pg 9) i)), ia (pA 10) (pK 10) 3 (fun i => nI ((pg 10) i))] H1 := hPD.1
          replace hD : dd A [xa, (xA 0), (xA 2), (xA 4), ga, (pA 2), (pA 4), (pA 5), (pA 8), pa, (pA 9), (pA 10)] := dd_of hPD.2 rfl
          clear hPD
          revert H1 locs1
          intro H locs hS hP
          refine tp_i (y := nI b8) (by rw [hw1, hb8]) ?_
          clear hw1 r_13 u
          refine tp_pc (pc' := 63) (by rfl) ?_
          refine lv_if_eq (tgt := 68) hx hb d_GraphSearch_mayBeFrom_63 (by decide) (fun d2 => ?_) (fun d2 => ?_)
          · skip
            have hd2 : b8 = 0 := (nI_eq (a := b8) (b := 0) (by omega) (by omega)).mp d2
            have hcB : ¬ (pg 4 a = 3 ∧ sc 2 (pg 5 a) / 2 ^ q % 2 = 1) := fun h => by rw [← hb8] at h; omega
            refine tp_pc (pc' := 68) (by rfl) ?_
            refine lv_aload_n hx hb d_GraphSearch_mayBeFrom_68 rfl (lv_at hl 1 rfl) ?_
            refine lv_iload_n hx hb d_GraphSearch_mayBeFrom_69 rfl (lv_at hl 2 rfl) ?_
            refine lv_iload_n hx hb d_GraphSearch_mayBeFrom_70 rfl (lv_at hl 3 rfl) ?_
            obtain ⟨hPc, hDc, hFc⟩ := cut3 (wc := [oc xa 6 [.ref pa, .ref ga, .ref (xA 0), .ref (xA 1), .ref (xA 2), .ref (xA 3), .ref (xA 4), .ref (xA 5), .ref (xA 6), .ref (xA 7), .ref (xA 8), .ref (xA 9), .ref (xA 10), .ref (xA 11), .ref fa, .int (nI md), .int (nI mb)], ia (xA 0) (xK 0) 7 (fun i0 => mN (fm i0)), ia (xA 4) (xK 4) 7 (fun i => nI ((sc 4) i)), oc ga 1 [.ref pa, .ref g1, .ref g2, .ref g3, .int (nI dn), .long so], oc pa 0 [.ref (pA 0), .ref (pA 1), .ref (pA 2), .ref (pA 3), .ref (pA 4), .ref (pA 5), .ref (pA 6), .ref (pA 7), .ref (pA 8), .ref (pA 9), .ref (pA 10), .int (nI T), .int (nI Ac)], ia (pA 2) (pK 2) 7 (fun i => nI ((pg 2) i)), ia (pA 4) (pK 4) 7 (fun i => nI ((pg 4) i)), ia (pA 8) (pK 8) 4 (fun i => nI ((pg 8) i))]) hP hD rfl hS hA [0, 1, 3, 4, 9, 5, 6, 8] (by decide +kernel) rfl
            have hKc := hK.sub (tys' := [((xK 0), .int), ((xK 4), .int), ((pK 2), .int), ((pK 4), .int), ((pK 8), .int)]) [0, 2, 3, 4, 6] rfl
            refine va_calli (va_runV (As := [.int (nI a), .int (nI q)]) (rest := []) ⟨hx, hb, hml, hown, hw⟩ (gen_GS_isPast l dC dI pa pA pK T Ac pg nm g1 g2 g3 dn so xa ga fa xA xK md mb fm wm sc a q (by omega) hs4 hdn hfm (fun i hi => (p5 i (by omega)).2.2.1) (by omega) (fun h => by have := (p5 (q - 1) (by omega)).1; omega) p6 H.size) (cw_V 2 hw g_GraphSearch_isPast rfl rfl rfl (hw _ m_107) (hw _ m_849) (hw _ m_851) (hw _ m_48) (by decide +kernel) ⟨Nat.le_of_ble_eq_true rfl, Nat.le_of_ble_eq_true rfl⟩) ⟨fun a U g mk q => by obtain ⟨q0, q1, qP, qK, qD, qN⟩ := q; exact ⟨q0, q1, qP, va_K.moved (u := U) (U := U.calling g mk a) (Vm.Alike.refl U.vm) qK, qD, nw_call qN⟩, va_recv hKc hPc (ci := 6) (q0 := 0) rfl rfl, fun U hU hW => ⟨rfl, by rw [hU], by rw [hU]; exact hPc, va_K.moved hW.alike hKc, hDc.weaken (fun _ _ _ _ => trivial), nw_warm hW hn⟩⟩ rfl rfl hl.1 rfl (lv_room (Nat.le_of_ble_eq_true rfl)) d_GraphSearch_mayBeFrom_71 ⟨Nat.le_of_ble_eq_true rfl, Nat.le_of_ble_eq_true rfl⟩) hS (fun q _ h => hFc q h) hFc ?_
            intro r_14 u t9 H1 locs1 ht9 hvm hw1 hB hz1 hk1 hS1
            obtain ⟨hP1, hK1, hD1⟩ := hB
            rw [ht9] at hP1
            replace hK1 := va_K.moved hvm.symm hK1
            have hPD := join3 hP hD rfl [0, 1, 3, 4, 9, 5, 6, 8] [2, 7, 10, 11] rfl (by rfl) (by decide +kernel) (by decide +kernel) hk1 hFc hP1 hD1
            replace hK : va_K (dC, dI) classes [((xK 0), .int), ((xK 2), .int), ((xK 4), .int), ((pK 2), .int), ((pK 4), .int), ((pK 5), .int), ((pK 8), .int), ((pK 9), .int), ((pK 10), .int)] s := hK.app hK1
            clear hP1 hK1 hD1 hk1 hz1 hFc hKc hDc hPc hvm ht9 hP hS t9 locs H
            have hP : va_P (dC, dI) classes [ia (xA 2) (xK 2) 3 (fun i => nI ((sc 2) i)), ia (pA 5) (pK 5) 7 (fun i => nI ((pg 5) i)), ia (pA 9) (pK 9) 6 (fun i => nI ((pg 9) i)), ia (pA 10) (pK 10) 3 (fun i => nI ((pg 10) i)), oc xa 6 [.ref pa, .ref ga, .ref (xA 0), .ref (xA 1), .ref (xA 2), .ref (xA 3), .ref (xA 4), .ref (xA 5), .ref (xA 6), .ref (xA 7), .ref (xA 8), .ref (xA 9), .ref (xA 10), .ref (xA 11), .ref fa, .int (nI md), .int (nI mb)], ia (xA 0) (xK 0) 7 (fun i0 => mN (fm i0)), ia (xA 4) (xK 4) 7 (fun i => nI ((sc 4) i)), oc ga 1 [.ref pa, .ref g1, .ref g2, .ref g3, .int (nI dn), .long so], oc pa 0 [.ref (pA 0), .ref (pA 1), .ref (pA 2), .ref (pA 3), .ref (pA 4), .ref (pA 5), .ref (pA 6), .ref (pA 7), .ref (pA 8), .ref (pA 9), .ref (pA 10), .int (nI T), .int (nI Ac)], ia (pA 2) (pK 2) 7 (fun i => nI ((pg 2) i)), ia (pA 4) (pK 4) 7 (fun i => nI ((pg 4) i)), ia (pA 8) (pK 8) 4 (fun i => nI ((pg 8) i))] H1 := hPD.1
            replace hD : dd A [(xA 2), (pA 5), (pA 9), (pA 10), xa, (xA 0), (xA 4), ga, pa, (pA 2), (pA 4), (pA 8)] := dd_of hPD.2 rfl
            clear hPD
            revert H1 locs1
            intro H locs hS hP
            refine tp_i (y := (if fF (pst pg fm (sc 4 a &&& dn) q) a 0 = 0 then 0 else 1)) (hw1) ?_
            clear hw1 r_14 u
            by_cases hfp : fF (pst pg fm (sc 4 a &&& dn) q) a 0 = 0
            · skip
              rw [if_pos hfp]
              refine tp_pc (pc' := 74) (by rfl) ?_
              refine lv_if_ne (tgt := 81) hx hb d_GraphSearch_mayBeFrom_74 (by decide) (fun c_15 => absurd c_15 (by decide)) (fun c_15 => ?_)
              refine tp_pc (pc' := 77) (by rfl) ?_
              refine lv_iconst (v := 1) hx hb d_GraphSearch_mayBeFrom_77 (by decide) ?_
              refine lv_goto (tgt := 82) hx hb d_GraphSearch_mayBeFrom_78 (by decide) ?_
              refine tp_pc (pc' := 82) (by rfl) ?_
              obtain ⟨hP9, hD9, -⟩ := cut3 (wc := [oc xa 6 [.ref pa, .ref ga, .ref (xA 0), .ref (xA 1), .ref (xA 2), .ref (xA 3), .ref (xA 4), .ref (xA 5), .ref (xA 6), .ref (xA 7), .ref (xA 8), .ref (xA 9), .ref (xA 10), .ref (xA 11), .ref fa, .int (nI md), .int (nI mb)], ia (xA 0) (xK 0) 7 (fun i0 => mN (fm i0)), ia (xA 2) (xK 2) 3 (fun i => nI ((sc 2) i)), ia (xA 4) (xK 4) 7 (fun i => nI ((sc 4) i)), oc ga 1 [.ref pa, .ref g1, .ref g2, .ref g3, .int (nI dn), .long so], oc pa 0 [.ref (pA 0), .ref (pA 1), .ref (pA 2), .ref (pA 3), .ref (pA 4), .ref (pA 5), .ref (pA 6), .ref (pA 7), .ref (pA 8), .ref (pA 9), .ref (pA 10), .int (nI T), .int (nI Ac)], ia (pA 2) (pK 2) 7 (fun i => nI ((pg 2) i)), ia (pA 4) (pK 4) 7 (fun i => nI ((pg 4) i)), ia (pA 5) (pK 5) 7 (fun i => nI ((pg 5) i)), ia (pA 8) (pK 8) 4 (fun i => nI ((pg 8) i)), ia (pA 9) (pK 9) 6 (fun i => nI ((pg 9) i)), ia (pA 10) (pK 10) 3 (fun i => nI ((pg 10) i))]) hP hD rfl hS hA [4, 5, 0, 6, 7, 8, 9, 10, 1, 11, 2, 3] (by decide +kernel) rfl
              have hK9 := hK.sub (tys' := []) [] rfl
              refine W.widen (k := 0) (n := 0) (by exact Nat.le_of_ble_eq_true rfl) (by exact Nat.le_of_ble_eq_true rfl) ?_
              exact W.zret (v := 1) (ty := .boolean) hx hb hr (by decide) (fun t9 ht9 hW => ⟨⟨1, (), rfl, by rw [mbf, if_neg hcA, if_neg hcB, decide_eq_true hfp]; rfl, by rw [ht9]; exact hP9, va_K.moved hW.alike hK9, hD9⟩, hS.F ht9⟩) hS.2.2 d_GraphSearch_mayBeFrom_82
            · skip
              rw [if_neg hfp]
              refine tp_pc (pc' := 74) (by rfl) ?_
              refine lv_if_ne (tgt := 81) hx hb d_GraphSearch_mayBeFrom_74 (by decide) (fun c_16 => ?_) (fun c_16 => absurd c_16 (by decide))
              refine tp_pc (pc' := 81) (by rfl) ?_
              refine lv_iconst (v := 0) hx hb d_GraphSearch_mayBeFrom_81 (by decide) ?_
              obtain ⟨hP9, hD9, -⟩ := cut3 (wc := [oc xa 6 [.ref pa, .ref ga, .ref (xA 0), .ref (xA 1), .ref (xA 2), .ref (xA 3), .ref (xA 4), .ref (xA 5), .ref (xA 6), .ref (xA 7), .ref (xA 8), .ref (xA 9), .ref (xA 10), .ref (xA 11), .ref fa, .int (nI md), .int (nI mb)], ia (xA 0) (xK 0) 7 (fun i0 => mN (fm i0)), ia (xA 2) (xK 2) 3 (fun i => nI ((sc 2) i)), ia (xA 4) (xK 4) 7 (fun i => nI ((sc 4) i)), oc ga 1 [.ref pa, .ref g1, .ref g2, .ref g3, .int (nI dn), .long so], oc pa 0 [.ref (pA 0), .ref (pA 1), .ref (pA 2), .ref (pA 3), .ref (pA 4), .ref (pA 5), .ref (pA 6), .ref (pA 7), .ref (pA 8), .ref (pA 9), .ref (pA 10), .int (nI T), .int (nI Ac)], ia (pA 2) (pK 2) 7 (fun i => nI ((pg 2) i)), ia (pA 4) (pK 4) 7 (fun i => nI ((pg 4) i)), ia (pA 5) (pK 5) 7 (fun i => nI ((pg 5) i)), ia (pA 8) (pK 8) 4 (fun i => nI ((pg 8) i)), ia (pA 9) (pK 9) 6 (fun i => nI ((pg 9) i)), ia (pA 10) (pK 10) 3 (fun i => nI ((pg 10) i))]) hP hD rfl hS hA [4, 5, 0, 6, 7, 8, 9, 10, 1, 11, 2, 3] (by decide +kernel) rfl
              have hK9 := hK.sub (tys' := []) [] rfl
              refine W.widen (k := 0) (n := 0) (by exact Nat.le_of_ble_eq_true rfl) (by exact Nat.le_of_ble_eq_true rfl) ?_
              exact W.zret (v := 0) (ty := .boolean) hx hb hr (by decide) (fun t9 ht9 hW => ⟨⟨0, (), rfl, by rw [mbf, if_neg hcA, if_neg hcB, decide_eq_false hfp]; rfl, by rw [ht9]; exact hP9, va_K.moved hW.alike hK9, hD9⟩, hS.F ht9⟩) hS.2.2 d_GraphSearch_mayBeFrom_82
          · skip
            have hd2 : ¬ (b8 = 0) := fun q9 => d2 ((nI_eq (a := b8) (b := 0) (by omega) (by omega)).mpr q9)
            have hcP : pg 4 a = 3 ∧ sc 2 (pg 5 a) / 2 ^ q % 2 = 1 := ⟨hd1, by rw [← hb8]; exact bit0 hb82 hd2⟩
            refine tp_pc (pc' := 66) (by rfl) ?_
            refine lv_iconst (v := 0) hx hb d_GraphSearch_mayBeFrom_66 (by decide) ?_
            obtain ⟨hP9, hD9, -⟩ := cut3 (wc := [oc xa 6 [.ref pa, .ref ga, .ref (xA 0), .ref (xA 1), .ref (xA 2), .ref (xA 3), .ref (xA 4), .ref (xA 5), .ref (xA 6), .ref (xA 7), .ref (xA 8), .ref (xA 9), .ref (xA 10), .ref (xA 11), .ref fa, .int (nI md), .int (nI mb)], ia (xA 0) (xK 0) 7 (fun i0 => mN (fm i0)), ia (xA 2) (xK 2) 3 (fun i => nI ((sc 2) i)), ia (xA 4) (xK 4) 7 (fun i => nI ((sc 4) i)), oc ga 1 [.ref pa, .ref g1, .ref g2, .ref g3, .int (nI dn), .long so], oc pa 0 [.ref (pA 0), .ref (pA 1), .ref (pA 2), .ref (pA 3), .ref (pA 4), .ref (pA 5), .ref (pA 6), .ref (pA 7), .ref (pA 8), .ref (pA 9), .ref (pA 10), .int (nI T), .int (nI Ac)], ia (pA 2) (pK 2) 7 (fun i => nI ((pg 2) i)), ia (pA 4) (pK 4) 7 (fun i => nI ((pg 4) i)), ia (pA 5) (pK 5) 7 (fun i => nI ((pg 5) i)), ia (pA 8) (pK 8) 4 (fun i => nI ((pg 8) i)), ia (pA 9) (pK 9) 6 (fun i => nI ((pg 9) i)), ia (pA 10) (pK 10) 3 (fun i => nI ((pg 10) i))]) hP hD rfl hS hA [0, 1, 2, 3, 4, 9, 5, 6, 7, 8, 10, 11] (by decide +kernel) rfl
            have hK9 := hK.sub (tys' := []) [] rfl
            refine W.widen (k := 0) (n := 0) (by exact Nat.le_of_ble_eq_true rfl) (by exact Nat.le_of_ble_eq_true rfl) ?_
            exact W.zret (v := 0) (ty := .boolean) hx hb hr (by decide) (fun t9 ht9 hW => ⟨⟨0, (), rfl, by rw [mbf, if_neg hcA, if_pos hcP]; rfl, by rw [ht9]; exact hP9, va_K.moved hW.alike hK9, hD9⟩, hS.F ht9⟩) hS.2.2 d_GraphSearch_mayBeFrom_67
      · skip
        have hc3 : b9 = 0 := (nI_eq (a := b9) (b := 0) (by omega) (by omega)).mp c3
        have hcP : q ≠ 0 ∧ (q - 1 = a ∨ wtr pg (pg 5 a) / 2 ^ (q - 1) % 2 = 0) := ⟨by omega, Or.inr (by rw [← hb9]; exact hc3)⟩
        refine tp_pc (pc' := 38) (by rfl) ?_
        refine lv_iconst (v := 0) hx hb d_GraphSearch_mayBeFrom_38 (by decide) ?_
        obtain ⟨hP9, hD9, -⟩ := cut3 (wc := [oc xa 6 [.ref pa, .ref ga, .ref (xA 0), .ref (xA 1), .ref (xA 2), .ref (xA 3), .ref (xA 4), .ref (xA 5), .ref (xA 6), .ref (xA 7), .ref (xA 8), .ref (xA 9), .ref (xA 10), .ref (xA 11), .ref fa, .int (nI md), .int (nI mb)], ia (xA 0) (xK 0) 7 (fun i0 => mN (fm i0)), ia (xA 2) (xK 2) 3 (fun i => nI ((sc 2) i)), ia (xA 4) (xK 4) 7 (fun i => nI ((sc 4) i)), oc ga 1 [.ref pa, .ref g1, .ref g2, .ref g3, .int (nI dn), .long so], oc pa 0 [.ref (pA 0), .ref (pA 1), .ref (pA 2), .ref (pA 3), .ref (pA 4), .ref (pA 5), .ref (pA 6), .ref (pA 7), .ref (pA 8), .ref (pA 9), .ref (pA 10), .int (nI T), .int (nI Ac)], ia (pA 2) (pK 2) 7 (fun i => nI ((pg 2) i)), ia (pA 4) (pK 4) 7 (fun i => nI ((pg 4) i)), ia (pA 5) (pK 5) 7 (fun i => nI ((pg 5) i)), ia (pA 8) (pK 8) 4 (fun i => nI ((pg 8) i)), ia (pA 9) (pK 9) 6 (fun i => nI ((pg 9) i)), ia (pA 10) (pK 10) 3 (fun i => nI ((pg 10) i))]) hP hD rfl hS hA [0, 1, 2, 3, 4, 9, 5, 6, 7, 8, 10, 11] (by decide +kernel) rfl
        have hK9 := hK.sub (tys' := []) [] rfl
        refine W.widen (k := 0) (n := 0) (by exact Nat.le_of_ble_eq_true rfl) (by exact Nat.le_of_ble_eq_true rfl) ?_
        exact W.zret (v := 0) (ty := .boolean) hx hb hr (by decide) (fun t9 ht9 hW => ⟨⟨0, (), rfl, by rw [mbf, if_pos hcP]; rfl, by rw [ht9]; exact hP9, va_K.moved hW.alike hK9, hD9⟩, hS.F ht9⟩) hS.2.2 d_GraphSearch_mayBeFrom_39
