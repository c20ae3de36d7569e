/-- the readers of all actions below i -/
def rdN (pg : Nat → Nat → Nat) (fm : Nat → Nat) (M : Nat) : Nat → (Nat → Nat)
  | 0 => fun _ => 0
  | i + 1 => if M / 2 ^ i % 2 = 1 ∧ (pg 4 i = 0 ∨ pg 4 i = 3) then nrR fm i (rdN pg fm M i) else rdN pg fm M i
def frN (pg : Nat → Nat → Nat) (fm : Nat → Nat) (M : Nat) : Nat → (Nat → Nat)
  | 0 => fun _ => 0
  | i + 1 => if M / 2 ^ i % 2 = 1 ∧ (pg 4 i = 0 ∨ pg 4 i = 3) then nrF pg fm i (frN pg fm M i) else frN pg fm M i
def bfN (pg : Nat → Nat → Nat) (fm : Nat → Nat) (M : Nat) : Nat → (Nat → Nat)
  | 0 => fun _ => 0
  | i + 1 => if M / 2 ^ i % 2 = 1 ∧ (pg 4 i = 0 ∨ pg 4 i = 3) then nrB fm i (bfN pg fm M i) else bfN pg fm M i
theorem rdN_lt {pg : Nat → Nat → Nat} {fm : Nat → Nat} {M : Nat} : ∀ n, n ≤ 7 → ∀ i, rdN pg fm M n i < 128
  | 0, _, i => by show 0 < 128; decide
  | n + 1, hn, i => by
    unfold rdN; split
    · unfold nrR; split
      · unfold updN; split
        · exact set_lt _ (rdN_lt n (by omega) _) n (by omega)
        · exact rdN_lt n (by omega) i
      · exact rdN_lt n (by omega) i
    · exact rdN_lt n (by omega) i
theorem frN_lt {pg : Nat → Nat → Nat} {fm : Nat → Nat} {M : Nat} : ∀ n, n ≤ 7 → ∀ i, frN pg fm M n i < 128
  | 0, _, i => by show 0 < 128; decide
  | n + 1, hn, i => by
    unfold frN; split
    · unfold nrF; split
      · exact frN_lt n (by omega) i
      · unfold updN; split
        · exact set_lt _ (frN_lt n (by omega) _) n (by omega)
        · exact frN_lt n (by omega) i
    · exact frN_lt n (by omega) i
theorem bfN_lt {pg : Nat → Nat → Nat} {fm : Nat → Nat} {M : Nat} (hf : ∀ i, i < 7 → fm i ≤ 8) : ∀ n, n ≤ 7 → ∀ i, bfN pg fm M n i < 128
  | 0, _, i => by show 0 < 128; decide
  | n + 1, hn, i => by
    unfold bfN; split
    · unfold nrB; split
      · unfold updN; split
        · have := hf n (by omega); exact (pop7_low (fm n - 1 - 1) (by omega)).2.2.2
        · exact bfN_lt hf n (by omega) i
      · exact bfN_lt hf n (by omega) i
    · exact bfN_lt hf n (by omega) i
def kno (M : Nat) (bf hp : Nat → Nat) (a : Nat) : Bool := M / 2 ^ a % 2 == 1 && (bf a &&& hp a != 0)
theorem tuN_lt {pg : Nat → Nat → Nat} {bf f : Nat → Nat} (hb : ∀ i, bf i < 128) (hf : ∀ i, f i < 128) : ∀ n i, tuN pg bf f n i < 128
  | 0, i => hf i
  | n + 1, i => by
    unfold tuN updN; split
    · split
      · exact andn_lt (hb _)
      · exact hb _
    · exact tuN_lt hb hf n i
/-- whether a graph stands -/
def stB (pg : Nat → Nat → Nat) (md Ac mb : Nat) (sc : Nat → Nat → Nat) : Bool :=
  if md = 0 then decide (itR (sc 3) (sc 9) Ac 7 mb = 0) else if md = 3 then decide (fF (kno mb (sc 9) (sc 11)) Ac 0 = 0)
  else decide (itR (sc 4) (sc 9) Ac 7 (andn mb (pg 9 4)) = 0) && decide (itR (sc 5) (tuN pg (sc 9) (sc 10) Ac) Ac 7 mb = 0)
def ouG (pg : Nat → Nat → Nat) (md Ac : Nat) (sc : Nat → Nat → Nat) : Nat → Nat := if md = 0 ∨ md = 3 then sc 10 else tuN pg (sc 9) (sc 10) Ac
set_option maxHeartbeats 4000000 in
set_option maxRecDepth 100000 in
theorem gen_GS_noteReaders (l : Launch) (dC : Nat → ClassId) (dI : Nat → Nat → Nat) (pa : Nat) (pA : Nat → Nat) (pK : Nat → ClassId) (T Ac : Nat) (pg : Nat → Nat → Nat) (nm : Nat → Int32) (g1 g2 g3 dn : Nat) (so : Int64) (xa ga fa : Nat) (xA : Nat → Nat) (xK : Nat → ClassId) (md mb : Nat) (fm wm : Nat → Nat) (sc : Nat → Nat → Nat) (hPg : PgOk T Ac pg) (hdn : dn < 128) (hfm : ∀ i, i < 7 → fm i ≤ 8) (sz : Nat) : Met l y_GraphSearch_noteReaders w_GraphSearch_noteReaders ({ frames := 1, cells := 0, slots := 0, locals := 60 }) (va_Pc [.ref xa] (fun U => U.heap.size = sz ∧ va_P (dC, dI) classes [oc xa 6 [.ref pa, .ref ga, .ref (xA 0), .ref (xA 1), .ref (xA 2), .ref (xA 3), .ref (xA 4), .ref (xA 5), .ref (xA 6), .ref (xA 7), .ref (xA 8), .ref (xA 9), .ref (xA 10), .ref (xA 11), .ref fa, .int (nI md), .int (nI mb)], ia (xA 0) (xK 0) 7 (fun i0 => mN (fm i0)), ia (xA 6) (xK 6) 8 (fun i => nI ((sc 6) i)), ia (xA 7) (xK 7) 4 (fun i => nI ((sc 7) i)), ia (xA 9) (xK 9) 7 (fun i => nI ((sc 9) i)), oc ga 1 [.ref pa, .ref g1, .ref g2, .ref g3, .int (nI dn), .long so], oc pa 0 [.ref (pA 0), .ref (pA 1), .ref (pA 2), .ref (pA 3), .ref (pA 4), .ref (pA 5), .ref (pA 6), .ref (pA 7), .ref (pA 8), .ref (pA 9), .ref (pA 10), .int (nI T), .int (nI Ac)], ia (pA 4) (pK 4) 7 (fun i => nI ((pg 4) i)), ia (pA 5) (pK 5) 7 (fun i => nI ((pg 5) i)), ia (pA 9) (pK 9) 6 (fun i => nI ((pg 9) i))] U.heap ∧ va_K (dC, dI) classes [((xK 0), .int), ((xK 6), .int), ((xK 7), .int), ((xK 9), .int), ((pK 4), .int), ((pK 5), .int), ((pK 9), .int)] U ∧ va_D (fun _ => True) [oc xa 6 [.ref pa, .ref ga, .ref (xA 0), .ref (xA 1), .ref (xA 2), .ref (xA 3), .ref (xA 4), .ref (xA 5), .ref (xA 6), .ref (xA 7), .ref (xA 8), .ref (xA 9), .ref (xA 10), .ref (xA 11), .ref fa, .int (nI md), .int (nI mb)], ia (xA 0) (xK 0) 7 (fun i0 => mN (fm i0)), ia (xA 6) (xK 6) 8 (fun i => nI ((sc 6) i)), ia (xA 7) (xK 7) 4 (fun i => nI ((sc 7) i)), ia (xA 9) (xK 9) 7 (fun i => nI ((sc 9) i)), oc ga 1 [.ref pa, .ref g1, .ref g2, .ref g3, .int (nI dn), .long so], oc pa 0 [.ref (pA 0), .ref (pA 1), .ref (pA 2), .ref (pA 3), .ref (pA 4), .ref (pA 5), .ref (pA 6), .ref (pA 7), .ref (pA 8), .ref (pA 9), .ref (pA 10), .int (nI T), .int (nI Ac)], ia (pA 4) (pK 4) 7 (fun i => nI ((pg 4) i)), ia (pA 5) (pK 5) 7 (fun i => nI ((pg 5) i)), ia (pA 9) (pK 9) 6 (fun i => nI ((pg 9) i))] ∧ nw U)) (va_Qv (fun _ : Unit => True) (fun _ t9 => va_P (dC, dI) classes [oc xa 6 [.ref pa, .ref ga, .ref (xA 0), .ref (xA 1), .ref (xA 2), .ref (xA 3), .ref (xA 4), .ref (xA 5), .ref (xA 6), .ref (xA 7), .ref (xA 8), .ref (xA 9), .ref (xA 10), .ref (xA 11), .ref fa, .int (nI md), .int (nI (andn dn (pg 9 5)))], ia (xA 0) (xK 0) 7 (fun i0 => mN (fm i0)), ia (xA 6) (xK 6) 8 (fun i => nI ((rdN pg fm (andn dn (pg 9 5)) Ac) i)), ia (xA 7) (xK 7) 4 (fun i => nI ((frN pg fm (andn dn (pg 9 5)) Ac) i)), ia (xA 9) (xK 9) 7 (fun i => nI ((bfN pg fm (andn dn (pg 9 5)) Ac) i)), oc ga 1 [.ref pa, .ref g1, .ref g2, .ref g3, .int (nI dn), .long so], oc pa 0 [.ref (pA 0), .ref (pA 1), .ref (pA 2), .ref (pA 3), .ref (pA 4), .ref (pA 5), .ref (pA 6), .ref (pA 7), .ref (pA 8), .ref (pA 9), .ref (pA 10), .int (nI T), .int (nI Ac)], ia (pA 4) (pK 4) 7 (fun i => nI ((pg 4) i)), ia (pA 5) (pK 5) 7 (fun i => nI ((pg 5) i)), ia (pA 9) (pK 9) 6 (fun i => nI ((pg 9) i))] t9.heap ∧ va_K (dC, dI) classes [] t9 ∧ va_D (va_A [oc xa 6 [.ref pa, .ref ga, .ref (xA 0), .ref (xA 1), .ref (xA 2), .ref (xA 3), .ref (xA 4), .ref (xA 5), .ref (xA 6), .ref (xA 7), .ref (xA 8), .ref (xA 9), .ref (xA 10), .ref (xA 11), .ref fa, .int (nI md), .int (nI mb)], ia (xA 0) (xK 0) 7 (fun i0 => mN (fm i0)), ia (xA 6) (xK 6) 8 (fun i => nI ((sc 6) i)), ia (xA 7) (xK 7) 4 (fun i => nI ((sc 7) i)), ia (xA 9) (xK 9) 7 (fun i => nI ((sc 9) i)), oc ga 1 [.ref pa, .ref g1, .ref g2, .ref g3, .int (nI dn), .long so], oc pa 0 [.ref (pA 0), .ref (pA 1), .ref (pA 2), .ref (pA 3), .ref (pA 4), .ref (pA 5), .ref (pA 6), .ref (pA 7), .ref (pA 8), .ref (pA 9), .ref (pA 10), .int (nI T), .int (nI Ac)], ia (pA 4) (pK 4) 7 (fun i => nI ((pg 4) i)), ia (pA 5) (pK 5) 7 (fun i => nI ((pg 5) i)), ia (pA 9) (pK 9) 6 (fun i => nI ((pg 9) i))] sz) [oc xa 6 [.ref pa, .ref ga, .ref (xA 0), .ref (xA 1), .ref (xA 2), .ref (xA 3), .ref (xA 4), .ref (xA 5), .ref (xA 6), .ref (xA 7), .ref (xA 8), .ref (xA 9), .ref (xA 10), .ref (xA 11), .ref fa, .int (nI md), .int (nI (andn dn (pg 9 5)))], ia (xA 0) (xK 0) 7 (fun i0 => mN (fm i0)), ia (xA 6) (xK 6) 8 (fun i => nI ((rdN pg fm (andn dn (pg 9 5)) Ac) i)), ia (xA 7) (xK 7) 4 (fun i => nI ((frN pg fm (andn dn (pg 9 5)) Ac) i)), ia (xA 9) (xK 9) 7 (fun i => nI ((bfN pg fm (andn dn (pg 9 5)) Ac) i)), oc ga 1 [.ref pa, .ref g1, .ref g2, .ref g3, .int (nI dn), .long so], oc pa 0 [.ref (pA 0), .ref (pA 1), .ref (pA 2), .ref (pA 3), .ref (pA 4), .ref (pA 5), .ref (pA 6), .ref (pA 7), .ref (pA 8), .ref (pA 9), .ref (pA 10), .int (nI T), .int (nI Ac)], ia (pA 4) (pK 4) 7 (fun i => nI ((pg 4) i)), ia (pA 5) (pK 5) 7 (fun i => nI ((pg 5) i)), ia (pA 9) (pK 9) 6 (fun i => nI ((pg 9) i))]) (va_A [oc xa 6 [.ref pa, .ref ga, .ref (xA 0), .ref (xA 1), .ref (xA 2), .ref (xA 3), .ref (xA 4), .ref (xA 5), .ref (xA 6), .ref (xA 7), .ref (xA 8), .ref (xA 9), .ref (xA 10), .ref (xA 11), .ref fa, .int (nI md), .int (nI mb)], ia (xA 0) (xK 0) 7 (fun i0 => mN (fm i0)), ia (xA 6) (xK 6) 8 (fun i => nI ((sc 6) i)), ia (xA 7) (xK 7) 4 (fun i => nI ((sc 7) i)), ia (xA 9) (xK 9) 7 (fun i => nI ((sc 9) i)), oc ga 1 [.ref pa, .ref g1, .ref g2, .ref g3, .int (nI dn), .long so], oc pa 0 [.ref (pA 0), .ref (pA 1), .ref (pA 2), .ref (pA 3), .ref (pA 4), .ref (pA 5), .ref (pA 6), .ref (pA 7), .ref (pA 8), .ref (pA 9), .ref (pA 10), .int (nI T), .int (nI Ac)], ia (pA 4) (pK 4) 7 (fun i => nI ((pg 4) i)), ia (pA 5) (pK 5) 7 (fun i => nI ((pg 5) i)), ia (pA 9) (pK 9) 6 (fun i => nI ((pg 9) i))] sz)) 0 0 (va_A [oc xa 6 [.ref pa, .ref ga, .ref (xA 0), .ref (xA 1), .ref (xA 2), .ref (xA 3), .ref (xA 4), .ref (xA 5), .ref (xA 6), .ref (xA 7), .ref (xA 8), .ref (xA 9), .ref (xA 10), .ref (xA 11), .ref fa, .int (nI md), .int (nI mb)], ia (xA 0) (xK 0) 7 (fun i0 => mN (fm i0)), ia (xA 6) (xK 6) 8 (fun i => nI ((sc 6) i)), ia (xA 7) (xK 7) 4 (fun i => nI ((sc 7) i)), ia (xA 9) (xK 9) 7 (fun i => nI ((sc 9) i)), oc ga 1 [.ref pa, .ref g1, .ref g2, .ref g3, .int (nI dn), .long so], oc pa 0 [.ref (pA 0), .ref (pA 1), .ref (pA 2), .ref (pA 3), .ref (pA 4), .ref (pA 5), .ref (pA 6), .ref (pA 7), .ref (pA 8), .ref (pA 9), .ref (pA 10), .int (nI T), .int (nI Ac)], ia (pA 4) (pK 4) 7 (fun i => nI ((pg 4) i)), ia (pA 5) (pK 5) 7 (fun i => nI ((pg 5) i)), ia (pA 9) (pK 9) 6 (fun i => nI ((pg 9) i))] sz) := by
  refine Met.ofW (cc := b_GraphSearch_noteReaders) (maxL := 2) (ret := none) (by decide) rfl ?_
  intro p e0 s m args below meth c s₁ B hml hv
  obtain ⟨rfl, hsz, hP, hK, hD0, hn⟩ := hv
  have hx := B.exec
  have hb := B.bytes
  have hr := B.returns
  have hw := fun w (h : w ∈ wt) => atoms_spec (ws := w_GraphSearch_noteReaders) B.pre w (List.mem_cons_of_mem _ h)
  have hown : s.vm.findClass R_GraphSearch = some m.cls := findClass_of_methodNamed B.named
  have hlocks := B.notSynchronized
  subst hsz
  have hD1 := hD0.self (sz := s.heap.size)
  generalize hAe : va_A [oc xa 6 [.ref pa, .ref ga, .ref (xA 0), .ref (xA 1), .ref (xA 2), .ref (xA 3), .ref (xA 4), .ref (xA 5), .ref (xA 6), .ref (xA 7), .ref (xA 8), .ref (xA 9), .ref (xA 10), .ref (xA 11), .ref fa, .int (nI md), .int (nI mb)], ia (xA 0) (xK 0) 7 (fun i0 => mN (fm i0)), ia (xA 6) (xK 6) 8 (fun i => nI ((sc 6) i)), ia (xA 7) (xK 7) 4 (fun i => nI ((sc 7) i)), ia (xA 9) (xK 9) 7 (fun i => nI ((sc 9) i)), oc ga 1 [.ref pa, .ref g1, .ref g2, .ref g3, .int (nI dn), .long so], oc pa 0 [.ref (pA 0), .ref (pA 1), .ref (pA 2), .ref (pA 3), .ref (pA 4), .ref (pA 5), .ref (pA 6), .ref (pA 7), .ref (pA 8), .ref (pA 9), .ref (pA 10), .int (nI T), .int (nI Ac)], ia (pA 4) (pK 4) 7 (fun i => nI ((pg 4) i)), ia (pA 5) (pK 5) 7 (fun i => nI ((pg 5) i)), ia (pA 9) (pK 9) 6 (fun i => nI ((pg 9) i))] s.heap.size = A at hD1 ⊢
  have hA : ∀ q : Nat, s.heap.size ≤ q → A q := fun q h => by rw [← hAe]; exact Or.inr h
  have hD : dd A [xa, (xA 0), (xA 6), (xA 7), (xA 9), ga, pa, (pA 4), (pA 5), (pA 9)] := dd_of hD1 rfl
  clear hAe hD0 hD1
  have hS : va_S A s.heap s.heap [] := va_S.rf
  replace hP : va_P (dC, dI) classes [oc xa 6 [.ref pa, .ref ga, .ref (xA 0), .ref (xA 1), .ref (xA 2), .ref (xA 3), .ref (xA 4), .ref (xA 5), .ref (xA 6), .ref (xA 7), .ref (xA 8), .ref (xA 9), .ref (xA 10), .ref (xA 11), .ref fa, .int (nI md), .int (nI mb)], ia (xA 0) (xK 0) 7 (fun i0 => mN (fm i0)), ia (xA 6) (xK 6) 8 (fun i => nI ((sc 6) i)), ia (xA 7) (xK 7) 4 (fun i => nI ((sc 7) i)), ia (xA 9) (xK 9) 7 (fun i => nI ((sc 9) i)), oc ga 1 [.ref pa, .ref g1, .ref g2, .ref g3, .int (nI dn), .long so], oc pa 0 [.ref (pA 0), .ref (pA 1), .ref (pA 2), .ref (pA 3), .ref (pA 4), .ref (pA 5), .ref (pA 6), .ref (pA 7), .ref (pA 8), .ref (pA 9), .ref (pA 10), .int (nI T), .int (nI Ac)], ia (pA 4) (pK 4) 7 (fun i => nI ((pg 4) i)), ia (pA 5) (pK 5) 7 (fun i => nI ((pg 5) i)), ia (pA 9) (pK 9) 6 (fun i => nI ((pg 9) i))] s.heap := hP
  have hl := lv_entry ([.ref xa]) (n := 2) (Nat.le_of_ble_eq_true rfl)
  rw [lg_entry_eq]
  generalize (lg_sl ([.ref xa]) ++ List.replicate (2 - (lg_sl ([.ref xa])).length) Slot.unset).toArray = ls at hl ⊢
  replace hl : lv_has ls 2 [(0, .ref xa)] := hl
  have hPg3 := hPg
  obtain ⟨p1, p2, p3, p4, p5, p6, p7, p8, p9, p10, p11⟩ := hPg3
  obtain ⟨M, hM⟩ : ∃ M, M = andn dn (pg 9 5) := ⟨_, rfl⟩
  have M8 : M < 128 := by rw [hM]; exact andn_lt hdn
  rw [← hM]
  refine lv_aload_n hx hb d_GraphSearch_noteReaders_0 rfl (lv_at hl 0 rfl) ?_
  refine lv_aload_n hx hb d_GraphSearch_noteReaders_1 rfl (lv_at hl 0 rfl) ?_
  refine va_get (D := (dC, dI)) (ci := 6) (v := .ref ga) (C := R_GraphSearch) (T := F_GraphSearch) (N := 17) hx hb hw i_GraphSearch hown hK hP 0 rfl rfl 1 (by decide) (hw _ m_320) (fun _ h9 => h9) rfl d_GraphSearch_noteReaders_2 ?_
  refine va_get (D := (dC, dI)) (ci := 1) (v := .int (nI dn)) (C := R_Progress) (T := F_Progress) (N := 6) hx hb hw i_Progress hown hK hP 5 rfl rfl 4 (by decide) (hw _ m_209) (fun _ h9 => h9) rfl d_GraphSearch_noteReaders_5 ?_
  refine lv_aload_n hx hb d_GraphSearch_noteReaders_8 rfl (lv_at hl 0 rfl) ?_
  refine va_get (D := (dC, dI)) (ci := 6) (v := .ref pa) (C := R_GraphSearch) (T := F_GraphSearch) (N := 17) hx hb hw i_GraphSearch hown hK hP 0 rfl rfl 0 (by decide) (hw _ m_319) (fun _ h9 => h9) rfl d_GraphSearch_noteReaders_9 ?_
  refine va_get (D := (dC, dI)) (ci := 0) (v := .ref (pA 9)) (C := R_Program) (T := F_Program) (N := 13) hx hb hw i_Program hown hK hP 6 rfl rfl 9 (by decide) (hw _ m_156) (fun _ h9 => h9) rfl d_GraphSearch_noteReaders_12 ?_
  refine lv_iconst (v := 5) hx hb d_GraphSearch_noteReaders_15 (by decide) ?_
  refine va_iald (D := (dC, dI)) hx hb hK hP 9 6 rfl rfl (i := 5) (pk_in 5 6 (by omega)) d_GraphSearch_noteReaders_16 ?_
  refine tp_i (y := nI ((pg 9) 5)) (by rw [show (5 : Int32).toNatClampNeg = 5 from pk_cl 5]) ?_
  refine lv_iconst (v := (-1)) hx hb d_GraphSearch_noteReaders_17 (by decide) ?_
  refine lv_ixor hx hb d_GraphSearch_noteReaders_18 ?_
  refine tp_i (y := (nI ((pg 9) 5)) ^^^ (-1)) rfl ?_
  refine lv_iand hx hb d_GraphSearch_noteReaders_19 ?_
  refine tp_i (y := (nI dn) &&& ((nI ((pg 9) 5)) ^^^ (-1))) rfl ?_
  refine tp_i (y := nI M) (by rw [hM]; exact andn_eq _ hdn _ (p7 5)) ?_
  refine va_put (D := (dC, dI)) (ci := 6) (v := .int (nI M)) (ty := .int) (C := R_GraphSearch) (T := F_GraphSearch) (N := 17) hx hb hw i_GraphSearch t_GraphSearch t_GraphSearch_ok n_GraphSearch hown hK hP (dd_D hD rfl) hS 0 rfl rfl 16 (by decide) (hw _ m_335) (fun _ h9 => h9) rfl (by decide +kernel) rfl rfl (Nat.le_of_ble_eq_true rfl) d_GraphSearch_noteReaders_20 ?_
  clear hP hS
  intro H locs (hP : va_P (dC, dI) classes [oc xa 6 [.ref pa, .ref ga, .ref (xA 0), .ref (xA 1), .ref (xA 2), .ref (xA 3), .ref (xA 4), .ref (xA 5), .ref (xA 6), .ref (xA 7), .ref (xA 8), .ref (xA 9), .ref (xA 10), .ref (xA 11), .ref fa, .int (nI md), .int (nI M)], ia (xA 0) (xK 0) 7 (fun i0 => mN (fm i0)), ia (xA 6) (xK 6) 8 (fun i => nI ((sc 6) i)), ia (xA 7) (xK 7) 4 (fun i => nI ((sc 7) i)), ia (xA 9) (xK 9) 7 (fun i => nI ((sc 9) i)), oc ga 1 [.ref pa, .ref g1, .ref g2, .ref g3, .int (nI dn), .long so], oc pa 0 [.ref (pA 0), .ref (pA 1), .ref (pA 2), .ref (pA 3), .ref (pA 4), .ref (pA 5), .ref (pA 6), .ref (pA 7), .ref (pA 8), .ref (pA 9), .ref (pA 10), .int (nI T), .int (nI Ac)], ia (pA 4) (pK 4) 7 (fun i => nI ((pg 4) i)), ia (pA 5) (pK 5) 7 (fun i => nI ((pg 5) i)), ia (pA 9) (pK 9) 6 (fun i => nI ((pg 9) i))] H) _ hS
  refine tp_pc (pc' := 23) (by rfl) ?_
  refine lv_aload_n hx hb d_GraphSearch_noteReaders_23 rfl (lv_at hl 0 rfl) ?_
  refine va_get (D := (dC, dI)) (ci := 6) (v := .ref (xA 6)) (C := R_GraphSearch) (T := F_GraphSearch) (N := 17) hx hb hw i_GraphSearch hown hK hP 0 rfl rfl 8 (by decide) (hw _ m_327) (fun _ h9 => h9) rfl d_GraphSearch_noteReaders_24 ?_
  refine lv_iconst (v := 0) hx hb d_GraphSearch_noteReaders_27 (by decide) ?_
  obtain ⟨hPc, hDc, hFc⟩ := cut3 (wc := [ia (xA 6) (xK 6) 8 (fun i => nI ((sc 6) i))]) hP hD rfl hS hA [2] (by decide +kernel) rfl
  have hKc := hK.sub (tys' := [((xK 6), .int)]) [1] rfl
  refine va_callv (va_runS (As := [.ref (xA 6), .int 0]) (rest := []) ⟨hx, hb, hml, hown, hw⟩ (gen_fill l dC dI (xA 6) (xK 6) 8 (fun i => nI (sc 6 i)) 0 (by decide) H.size) (cw_S 2 hw g_Arrays_fill rfl rfl rfl (hw _ m_110) (hw _ m_747) (hw _ m_459) (by decide +kernel) ⟨Nat.le_of_ble_eq_true rfl, Nat.le_of_ble_eq_true rfl⟩) ⟨fun a U g mk q => by obtain ⟨q0, q1, qP, qK, qD, qN⟩ := q; exact ⟨q0, q1, qP, va_K.moved (u := U) (U := U.calling g mk a) (Vm.Alike.refl U.vm) qK, qD, nw_call qN⟩, fun U hU hW => ⟨rfl, by rw [hU], by rw [hU]; exact hPc, va_K.moved hW.alike hKc, hDc.weaken (fun _ _ _ _ => trivial), nw_warm hW hn⟩⟩ rfl rfl hl.1 rfl (lv_room (Nat.le_of_ble_eq_true rfl)) d_GraphSearch_noteReaders_28 ⟨Nat.le_of_ble_eq_true rfl, Nat.le_of_ble_eq_true rfl⟩) hS (fun q _ h => hFc q h) hFc ?_
  intro u t9 H1 locs1 ht9 hvm hw1 hB hz1 hk1 hS1
  obtain ⟨hP1, hK1, hD1⟩ := hB
  rw [ht9] at hP1
  replace hK1 := va_K.moved hvm.symm hK1
  have hPD := join3 hP hD rfl [2] [0, 1, 3, 4, 5, 6, 7, 8, 9] rfl (by rfl) (by decide +kernel) (by decide +kernel) hk1 hFc hP1 hD1
  replace hK : va_K (dC, dI) classes [((xK 0), .int), ((xK 6), .int), ((xK 7), .int), ((xK 9), .int), ((pK 4), .int), ((pK 5), .int), ((pK 9), .int)] s := hK.app hK1
  clear hP1 hK1 hD1 hk1 hz1 hFc hKc hDc hPc hvm ht9 hP hS t9 locs H
  have hP : va_P (dC, dI) classes [oc xa 6 [.ref pa, .ref ga, .ref (xA 0), .ref (xA 1), .ref (xA 2), .ref (xA 3), .ref (xA 4), .ref (xA 5), .ref (xA 6), .ref (xA 7), .ref (xA 8), .ref (xA 9), .ref (xA 10), .ref (xA 11), .ref fa, .int (nI md), .int (nI M)], ia (xA 0) (xK 0) 7 (fun i0 => mN (fm i0)), ia (xA 7) (xK 7) 4 (fun i => nI ((sc 7) i)), ia (xA 9) (xK 9) 7 (fun i => nI ((sc 9) i)), oc ga 1 [.ref pa, .ref g1, .ref g2, .ref g3, .int (nI dn), .long so], oc pa 0 [.ref (pA 0), .ref (pA 1), .ref (pA 2), .ref (pA 3), .ref (pA 4), .ref (pA 5), .ref (pA 6), .ref (pA 7), .ref (pA 8), .ref (pA 9), .ref (pA 10), .int (nI T), .int (nI Ac)], ia (pA 4) (pK 4) 7 (fun i => nI ((pg 4) i)), ia (pA 5) (pK 5) 7 (fun i => nI ((pg 5) i)), ia (pA 9) (pK 9) 6 (fun i => nI ((pg 9) i)), ia (xA 6) (xK 6) 8 (fun _ => 0)] H1 := hPD.1
  replace hD : dd A [xa, (xA 0), (xA 7), (xA 9), ga, pa, (pA 4), (pA 5), (pA 9), (xA 6)] := dd_of hPD.2 rfl
  clear hPD
  revert H1 locs1
  intro H locs hS hP
  clear hw1 u
  refine tp_pc (pc' := 31) (by rfl) ?_
  refine lv_aload_n hx hb d_GraphSearch_noteReaders_31 rfl (lv_at hl 0 rfl) ?_
  refine va_get (D := (dC, dI)) (ci := 6) (v := .ref (xA 7)) (C := R_GraphSearch) (T := F_GraphSearch) (N := 17) hx hb hw i_GraphSearch hown hK hP 0 rfl rfl 9 (by decide) (hw _ m_328) (fun _ h9 => h9) rfl d_GraphSearch_noteReaders_32 ?_
  refine lv_iconst (v := 0) hx hb d_GraphSearch_noteReaders_35 (by decide) ?_
  obtain ⟨hPc, hDc, hFc⟩ := cut3 (wc := [ia (xA 7) (xK 7) 4 (fun i => nI ((sc 7) i))]) hP hD rfl hS hA [2] (by decide +kernel) rfl
  have hKc := hK.sub (tys' := [((xK 7), .int)]) [2] rfl
  refine va_callv (va_runS (As := [.ref (xA 7), .int 0]) (rest := []) ⟨hx, hb, hml, hown, hw⟩ (gen_fill l dC dI (xA 7) (xK 7) 4 (fun i => nI (sc 7 i)) 0 (by decide) H.size) (cw_S 2 hw g_Arrays_fill rfl rfl rfl (hw _ m_110) (hw _ m_747) (hw _ m_459) (by decide +kernel) ⟨Nat.le_of_ble_eq_true rfl, Nat.le_of_ble_eq_true rfl⟩) ⟨fun a U g mk q => by obtain ⟨q0, q1, qP, qK, qD, qN⟩ := q; exact ⟨q0, q1, qP, va_K.moved (u := U) (U := U.calling g mk a) (Vm.Alike.refl U.vm) qK, qD, nw_call qN⟩, fun U hU hW => ⟨rfl, by rw [hU], by rw [hU]; exact hPc, va_K.moved hW.alike hKc, hDc.weaken (fun _ _ _ _ => trivial), nw_warm hW hn⟩⟩ rfl rfl hl.1 rfl (lv_room (Nat.le_of_ble_eq_true rfl)) d_GraphSearch_noteReaders_36 ⟨Nat.le_of_ble_eq_true rfl, Nat.le_of_ble_eq_true rfl⟩) hS (fun q _ h => hFc q h) hFc ?_
  intro u t9 H1 locs1 ht9 hvm hw1 hB hz1 hk1 hS1
  obtain ⟨hP1, hK1, hD1⟩ := hB
  rw [ht9] at hP1
  replace hK1 := va_K.moved hvm.symm hK1
  have hPD := join3 hP hD rfl [2] [0, 1, 3, 4, 5, 6, 7, 8, 9] rfl (by rfl) (by decide +kernel) (by decide +kernel) hk1 hFc hP1 hD1
  replace hK : va_K (dC, dI) classes [((xK 0), .int), ((xK 6), .int), ((xK 7), .int), ((xK 9), .int), ((pK 4), .int), ((pK 5), .int), ((pK 9), .int)] s := hK.app hK1
  clear hP1 hK1 hD1 hk1 hz1 hFc hKc hDc hPc hvm ht9 hP hS t9 locs H
  have hP : va_P (dC, dI) classes [oc xa 6 [.ref pa, .ref ga, .ref (xA 0), .ref (xA 1), .ref (xA 2), .ref (xA 3), .ref (xA 4), .ref (xA 5), .ref (xA 6), .ref (xA 7), .ref (xA 8), .ref (xA 9), .ref (xA 10), .ref (xA 11), .ref fa, .int (nI md), .int (nI M)], ia (xA 0) (xK 0) 7 (fun i0 => mN (fm i0)), ia (xA 9) (xK 9) 7 (fun i => nI ((sc 9) i)), oc ga 1 [.ref pa, .ref g1, .ref g2, .ref g3, .int (nI dn), .long so], oc pa 0 [.ref (pA 0), .ref (pA 1), .ref (pA 2), .ref (pA 3), .ref (pA 4), .ref (pA 5), .ref (pA 6), .ref (pA 7), .ref (pA 8), .ref (pA 9), .ref (pA 10), .int (nI T), .int (nI Ac)], ia (pA 4) (pK 4) 7 (fun i => nI ((pg 4) i)), ia (pA 5) (pK 5) 7 (fun i => nI ((pg 5) i)), ia (pA 9) (pK 9) 6 (fun i => nI ((pg 9) i)), ia (xA 6) (xK 6) 8 (fun _ => 0), ia (xA 7) (xK 7) 4 (fun _ => 0)] H1 := hPD.1
  replace hD : dd A [xa, (xA 0), (xA 9), ga, pa, (pA 4), (pA 5), (pA 9), (xA 6), (xA 7)] := dd_of hPD.2 rfl
  clear hPD
  revert H1 locs1
  intro H locs hS hP
  clear hw1 u
  refine tp_pc (pc' := 39) (by rfl) ?_
  refine lv_aload_n hx hb d_GraphSearch_noteReaders_39 rfl (lv_at hl 0 rfl) ?_
  refine va_get (D := (dC, dI)) (ci := 6) (v := .ref (xA 9)) (C := R_GraphSearch) (T := F_GraphSearch) (N := 17) hx hb hw i_GraphSearch hown hK hP 0 rfl rfl 11 (by decide) (hw _ m_330) (fun _ h9 => h9) rfl d_GraphSearch_noteReaders_40 ?_
  refine lv_iconst (v := 0) hx hb d_GraphSearch_noteReaders_43 (by decide) ?_
  obtain ⟨hPc, hDc, hFc⟩ := cut3 (wc := [ia (xA 9) (xK 9) 7 (fun i => nI ((sc 9) i))]) hP hD rfl hS hA [2] (by decide +kernel) rfl
  have hKc := hK.sub (tys' := [((xK 9), .int)]) [3] rfl
  refine va_callv (va_runS (As := [.ref (xA 9), .int 0]) (rest := []) ⟨hx, hb, hml, hown, hw⟩ (gen_fill l dC dI (xA 9) (xK 9) 7 (fun i => nI (sc 9 i)) 0 (by decide) H.size) (cw_S 2 hw g_Arrays_fill rfl rfl rfl (hw _ m_110) (hw _ m_747) (hw _ m_459) (by decide +kernel) ⟨Nat.le_of_ble_eq_true rfl, Nat.le_of_ble_eq_true rfl⟩) ⟨fun a U g mk q => by obtain ⟨q0, q1, qP, qK, qD, qN⟩ := q; exact ⟨q0, q1, qP, va_K.moved (u := U) (U := U.calling g mk a) (Vm.Alike.refl U.vm) qK, qD, nw_call qN⟩, fun U hU hW => ⟨rfl, by rw [hU], by rw [hU]; exact hPc, va_K.moved hW.alike hKc, hDc.weaken (fun _ _ _ _ => trivial), nw_warm hW hn⟩⟩ rfl rfl hl.1 rfl (lv_room (Nat.le_of_ble_eq_true rfl)) d_GraphSearch_noteReaders_44 ⟨Nat.le_of_ble_eq_true rfl, Nat.le_of_ble_eq_true rfl⟩) hS (fun q _ h => hFc q h) hFc ?_
  intro u t9 H1 locs1 ht9 hvm hw1 hB hz1 hk1 hS1
  obtain ⟨hP1, hK1, hD1⟩ := hB
  rw [ht9] at hP1
  replace hK1 := va_K.moved hvm.symm hK1
  have hPD := join3 hP hD rfl [2] [0, 1, 3, 4, 5, 6, 7, 8, 9] rfl (by rfl) (by decide +kernel) (by decide +kernel) hk1 hFc hP1 hD1
  replace hK : va_K (dC, dI) classes [((xK 0), .int), ((xK 6), .int), ((xK 7), .int), ((xK 9), .int), ((pK 4), .int), ((pK 5), .int), ((pK 9), .int)] s := hK.app hK1
  clear hP1 hK1 hD1 hk1 hz1 hFc hKc hDc hPc hvm ht9 hP hS t9 locs H
  have hP : va_P (dC, dI) classes [oc xa 6 [.ref pa, .ref ga, .ref (xA 0), .ref (xA 1), .ref (xA 2), .ref (xA 3), .ref (xA 4), .ref (xA 5), .ref (xA 6), .ref (xA 7), .ref (xA 8), .ref (xA 9), .ref (xA 10), .ref (xA 11), .ref fa, .int (nI md), .int (nI M)], ia (xA 0) (xK 0) 7 (fun i0 => mN (fm i0)), oc ga 1 [.ref pa, .ref g1, .ref g2, .ref g3, .int (nI dn), .long so], oc pa 0 [.ref (pA 0), .ref (pA 1), .ref (pA 2), .ref (pA 3), .ref (pA 4), .ref (pA 5), .ref (pA 6), .ref (pA 7), .ref (pA 8), .ref (pA 9), .ref (pA 10), .int (nI T), .int (nI Ac)], ia (pA 4) (pK 4) 7 (fun i => nI ((pg 4) i)), ia (pA 5) (pK 5) 7 (fun i => nI ((pg 5) i)), ia (pA 9) (pK 9) 6 (fun i => nI ((pg 9) i)), ia (xA 6) (xK 6) 8 (fun _ => 0), ia (xA 7) (xK 7) 4 (fun _ => 0), ia (xA 9) (xK 9) 7 (fun _ => 0)] H1 := hPD.1
  replace hD : dd A [xa, (xA 0), ga, pa, (pA 4), (pA 5), (pA 9), (xA 6), (xA 7), (xA 9)] := dd_of hPD.2 rfl
  clear hPD
  revert H1 locs1
  intro H locs hS hP
  clear hw1 u
  refine tp_pc (pc' := 47) (by rfl) ?_
  refine lv_iconst (v := 0) hx hb d_GraphSearch_noteReaders_47 (by decide) ?_
  refine lv_istore_n (lv' := [(1, .int 0), (0, .ref xa)]) hx hb d_GraphSearch_noteReaders_48 rfl hl (by decide) rfl ?_
  clear hl ls
  intro ls hl
  obtain ⟨hP8, hD8, -⟩ := cut3 (wc := [oc xa 6 [.ref pa, .ref ga, .ref (xA 0), .ref (xA 1), .ref (xA 2), .ref (xA 3), .ref (xA 4), .ref (xA 5), .ref (xA 6), .ref (xA 7), .ref (xA 8), .ref (xA 9), .ref (xA 10), .ref (xA 11), .ref fa, .int (nI md), .int (nI M)], ia (xA 0) (xK 0) 7 (fun i0 => mN (fm i0)), ia (xA 6) (xK 6) 8 (fun _ => 0), ia (xA 7) (xK 7) 4 (fun _ => 0), ia (xA 9) (xK 9) 7 (fun _ => 0), oc ga 1 [.ref pa, .ref g1, .ref g2, .ref g3, .int (nI dn), .long so], oc pa 0 [.ref (pA 0), .ref (pA 1), .ref (pA 2), .ref (pA 3), .ref (pA 4), .ref (pA 5), .ref (pA 6), .ref (pA 7), .ref (pA 8), .ref (pA 9), .ref (pA 10), .int (nI T), .int (nI Ac)], ia (pA 4) (pK 4) 7 (fun i => nI ((pg 4) i)), ia (pA 5) (pK 5) 7 (fun i => nI ((pg 5) i)), ia (pA 9) (pK 9) 6 (fun i => nI ((pg 9) i))]) hP hD rfl hS hA [0, 1, 7, 8, 9, 2, 3, 4, 5, 6] (by decide +kernel) rfl
  clear hP
  have hP : va_P (dC, dI) classes [oc xa 6 [.ref pa, .ref ga, .ref (xA 0), .ref (xA 1), .ref (xA 2), .ref (xA 3), .ref (xA 4), .ref (xA 5), .ref (xA 6), .ref (xA 7), .ref (xA 8), .ref (xA 9), .ref (xA 10), .ref (xA 11), .ref fa, .int (nI md), .int (nI M)], ia (xA 0) (xK 0) 7 (fun i0 => mN (fm i0)), ia (xA 6) (xK 6) 8 (fun _ => 0), ia (xA 7) (xK 7) 4 (fun _ => 0), ia (xA 9) (xK 9) 7 (fun _ => 0), oc ga 1 [.ref pa, .ref g1, .ref g2, .ref g3, .int (nI dn), .long so], oc pa 0 [.ref (pA 0), .ref (pA 1), .ref (pA 2), .ref (pA 3), .ref (pA 4), .ref (pA 5), .ref (pA 6), .ref (pA 7), .ref (pA 8), .ref (pA 9), .ref (pA 10), .int (nI T), .int (nI Ac)], ia (pA 4) (pK 4) 7 (fun i => nI ((pg 4) i)), ia (pA 5) (pK 5) 7 (fun i => nI ((pg 5) i)), ia (pA 9) (pK 9) 6 (fun i => nI ((pg 9) i))] H := hP8
  clear hP8
  replace hD : dd A [xa, (xA 0), (xA 6), (xA 7), (xA 9), ga, pa, (pA 4), (pA 5), (pA 9)] := dd_of hD8 rfl
  clear hD8
  replace hP : va_P (dC, dI) classes [oc xa 6 [.ref pa, .ref ga, .ref (xA 0), .ref (xA 1), .ref (xA 2), .ref (xA 3), .ref (xA 4), .ref (xA 5), .ref (xA 6), .ref (xA 7), .ref (xA 8), .ref (xA 9), .ref (xA 10), .ref (xA 11), .ref fa, .int (nI md), .int (nI M)], ia (xA 0) (xK 0) 7 (fun i0 => mN (fm i0)), ia (xA 6) (xK 6) 8 (fun i => nI ((rdN pg fm M 0) i)), ia (xA 7) (xK 7) 4 (fun i => nI ((frN pg fm M 0) i)), ia (xA 9) (xK 9) 7 (fun i => nI ((bfN pg fm M 0) i)), oc ga 1 [.ref pa, .ref g1, .ref g2, .ref g3, .int (nI dn), .long so], oc pa 0 [.ref (pA 0), .ref (pA 1), .ref (pA 2), .ref (pA 3), .ref (pA 4), .ref (pA 5), .ref (pA 6), .ref (pA 7), .ref (pA 8), .ref (pA 9), .ref (pA 10), .int (nI T), .int (nI Ac)], ia (pA 4) (pK 4) 7 (fun i => nI ((pg 4) i)), ia (pA 5) (pK 5) 7 (fun i => nI ((pg 5) i)), ia (pA 9) (pK 9) 6 (fun i => nI ((pg 9) i))] H := hP
  replace hl : lv_has ls 2 [(1, .int (nI 0)), (0, .ref xa)] := hl
  refine lp_n Ac (fun i1 H locs ls => va_P (dC, dI) classes [oc xa 6 [.ref pa, .ref ga, .ref (xA 0), .ref (xA 1), .ref (xA 2), .ref (xA 3), .ref (xA 4), .ref (xA 5), .ref (xA 6), .ref (xA 7), .ref (xA 8), .ref (xA 9), .ref (xA 10), .ref (xA 11), .ref fa, .int (nI md), .int (nI M)], ia (xA 0) (xK 0) 7 (fun i0 => mN (fm i0)), ia (xA 6) (xK 6) 8 (fun i => nI ((rdN pg fm M i1) i)), ia (xA 7) (xK 7) 4 (fun i => nI ((frN pg fm M i1) i)), ia (xA 9) (xK 9) 7 (fun i => nI ((bfN pg fm M i1) i)), oc ga 1 [.ref pa, .ref g1, .ref g2, .ref g3, .int (nI dn), .long so], oc pa 0 [.ref (pA 0), .ref (pA 1), .ref (pA 2), .ref (pA 3), .ref (pA 4), .ref (pA 5), .ref (pA 6), .ref (pA 7), .ref (pA 8), .ref (pA 9), .ref (pA 10), .int (nI T), .int (nI Ac)], ia (pA 4) (pK 4) 7 (fun i => nI ((pg 4) i)), ia (pA 5) (pK 5) 7 (fun i => nI ((pg 5) i)), ia (pA 9) (pK 9) 6 (fun i => nI ((pg 9) i))] H ∧ va_S A s.heap H locs ∧ lv_has ls 2 [(1, .int (nI i1)), (0, .ref xa)]) ⟨hP, hS, hl⟩ ?_ ?_
  · intro i1 H locs ls hi1 hI ih_i1
    obtain ⟨hP, hS, hl⟩ := hI
    refine lv_iload_n hx hb d_GraphSearch_noteReaders_49 rfl (lv_at hl 0 rfl) ?_
    refine lv_aload_n hx hb d_GraphSearch_noteReaders_50 rfl (lv_at hl 1 rfl) ?_
    refine va_get (D := (dC, dI)) (ci := 6) (v := .ref pa) (C := R_GraphSearch) (T := F_GraphSearch) (N := 17) hx hb hw i_GraphSearch hown hK hP 0 rfl rfl 0 (by decide) (hw _ m_319) (fun _ h9 => h9) rfl d_GraphSearch_noteReaders_51 ?_
    refine va_get (D := (dC, dI)) (ci := 0) (v := .int (nI Ac)) (C := R_Program) (T := F_Program) (N := 13) hx hb hw i_Program hown hK hP 6 rfl rfl 12 (by decide) (hw _ m_166) (fun _ h9 => h9) rfl d_GraphSearch_noteReaders_54 ?_
    refine lv_icmp_ge (tgt := 93) hx hb d_GraphSearch_noteReaders_57 (by decide) (fun c9 => absurd c9 (nI_ge hi1 (by omega))) (fun c9 => ?_)
    obtain ⟨k1, k2, k3, k4, k5, k6⟩ := p5 i1 hi1
    refine tp_pc (pc' := 60) (by rfl) ?_
    refine lv_aload_n hx hb d_GraphSearch_noteReaders_60 rfl (lv_at hl 1 rfl) ?_
    refine va_get (D := (dC, dI)) (ci := 6) (v := .int (nI M)) (C := R_GraphSearch) (T := F_GraphSearch) (N := 17) hx hb hw i_GraphSearch hown hK hP 0 rfl rfl 16 (by decide) (hw _ m_335) (fun _ h9 => h9) rfl d_GraphSearch_noteReaders_61 ?_
    refine lv_iload_n hx hb d_GraphSearch_noteReaders_64 rfl (lv_at hl 0 rfl) ?_
    obtain ⟨b9, hb9⟩ : ∃ b9, b9 = M / 2 ^ i1 % 2 := ⟨_, rfl⟩
    have hb92 : b9 < 2 := by rw [hb9]; exact Nat.mod_lt _ (by decide)
    obtain ⟨hPc, hDc, hFc⟩ := cut3 (wc := []) hP hD rfl hS hA [] (by decide +kernel) rfl
    have hKc := hK.sub (tys' := []) [] rfl
    refine va_calli (va_runSN (As := [.int (nI M), .int (nI i1)]) (rest := []) ⟨hx, hb, hml, hown, hw⟩ (gen_isIn l dC dI M i1 (by omega) (by omega) H.size) (⟨va_cnB 2 hw g_OM_isIn rfl rfl rfl (hn.1 (R_GraphSearch, 166, y_OM_isIn, "OrderModels") (nq 3 (by rfl))) (hw _ m_101) (by decide +kernel) ⟨Nat.le_of_ble_eq_true rfl, Nat.le_of_ble_eq_true rfl⟩, hw _ m_560, trivial⟩) ⟨fun a U g mk q => by obtain ⟨q0, q1, qP, qK, qD, qN⟩ := q; exact ⟨q0, q1, qP, va_K.moved (u := U) (U := U.calling g mk a) (Vm.Alike.refl U.vm) qK, qD, nw_call qN⟩, fun U hU hW => ⟨rfl, by rw [hU], by rw [hU]; exact hPc, va_K.moved hW.alike hKc, hDc.weaken (fun _ _ _ _ => trivial), nw_warm hW hn⟩⟩ rfl rfl hl.1 rfl (lv_room (Nat.le_of_ble_eq_true rfl)) d_GraphSearch_noteReaders_65 ⟨Nat.le_of_ble_eq_true rfl, Nat.le_of_ble_eq_true rfl⟩) hS (fun q _ h => hFc q h) hFc ?_
    intro r_4 u t9 H1 locs1 ht9 hvm hw1 hB hz1 hk1 hS1
    obtain ⟨hP1, hK1, hD1⟩ := hB
    rw [ht9] at hP1
    replace hK1 := va_K.moved hvm.symm hK1
    have hPD := join3 hP hD rfl [] [0, 1, 2, 3, 4, 5, 6, 7, 8, 9] rfl (by rfl) (by decide +kernel) (by decide +kernel) hk1 hFc hP1 hD1
    replace hK : va_K (dC, dI) classes [((xK 0), .int), ((xK 6), .int), ((xK 7), .int), ((xK 9), .int), ((pK 4), .int), ((pK 5), .int), ((pK 9), .int)] s := hK.app hK1
    clear hP1 hK1 hD1 hk1 hz1 hFc hKc hDc hPc hvm ht9 hP hS t9 locs H
    have hP : va_P (dC, dI) classes [oc xa 6 [.ref pa, .ref ga, .ref (xA 0), .ref (xA 1), .ref (xA 2), .ref (xA 3), .ref (xA 4), .ref (xA 5), .ref (xA 6), .ref (xA 7), .ref (xA 8), .ref (xA 9), .ref (xA 10), .ref (xA 11), .ref fa, .int (nI md), .int (nI M)], ia (xA 0) (xK 0) 7 (fun i0 => mN (fm i0)), ia (xA 6) (xK 6) 8 (fun i => nI ((rdN pg fm M i1) i)), ia (xA 7) (xK 7) 4 (fun i => nI ((frN pg fm M i1) i)), ia (xA 9) (xK 9) 7 (fun i => nI ((bfN pg fm M i1) i)), oc ga 1 [.ref pa, .ref g1, .ref g2, .ref g3, .int (nI dn), .long so], oc pa 0 [.ref (pA 0), .ref (pA 1), .ref (pA 2), .ref (pA 3), .ref (pA 4), .ref (pA 5), .ref (pA 6), .ref (pA 7), .ref (pA 8), .ref (pA 9), .ref (pA 10), .int (nI T), .int (nI Ac)], ia (pA 4) (pK 4) 7 (fun i => nI ((pg 4) i)), ia (pA 5) (pK 5) 7 (fun i => nI ((pg 5) i)), ia (pA 9) (pK 9) 6 (fun i => nI ((pg 9) i))] H1 := hPD.1
    replace hD : dd A [xa, (xA 0), (xA 6), (xA 7), (xA 9), ga, pa, (pA 4), (pA 5), (pA 9)] := dd_of hPD.2 rfl
    clear hPD
    revert H1 locs1
    intro H locs hS hP
    refine tp_i (y := nI b9) (by rw [hw1, hb9]) ?_
    clear hw1 r_4 u
    refine tp_pc (pc' := 68) (by rfl) ?_
    refine lv_if_eq (tgt := 87) hx hb d_GraphSearch_noteReaders_68 (by decide) (fun c1 => ?_) (fun c1 => ?_)
    · skip
      have hc1 : b9 = 0 := (nI_eq (a := b9) (b := 0) (by omega) (by omega)).mp c1
      have hcn : ¬ (M / 2 ^ i1 % 2 = 1 ∧ (pg 4 i1 = 0 ∨ pg 4 i1 = 3)) := fun h => by rw [← hb9] at h; omega
      rw [show rdN pg fm M i1 = rdN pg fm M (i1 + 1) from by rw [rdN, if_neg hcn], show frN pg fm M i1 = frN pg fm M (i1 + 1) from by rw [frN, if_neg hcn], show bfN pg fm M i1 = bfN pg fm M (i1 + 1) from by rw [bfN, if_neg hcn]] at hP
      replace hP : va_P (dC, dI) classes [oc xa 6 [.ref pa, .ref ga, .ref (xA 0), .ref (xA 1), .ref (xA 2), .ref (xA 3), .ref (xA 4), .ref (xA 5), .ref (xA 6), .ref (xA 7), .ref (xA 8), .ref (xA 9), .ref (xA 10), .ref (xA 11), .ref fa, .int (nI md), .int (nI M)], ia (xA 0) (xK 0) 7 (fun i0 => mN (fm i0)), ia (xA 6) (xK 6) 8 (fun i => nI ((rdN pg fm M (i1 + 1)) i)), ia (xA 7) (xK 7) 4 (fun i => nI ((frN pg fm M (i1 + 1)) i)), ia (xA 9) (xK 9) 7 (fun i => nI ((bfN pg fm M (i1 + 1)) i)), oc ga 1 [.ref pa, .ref g1, .ref g2, .ref g3, .int (nI dn), .long so], oc pa 0 [.ref (pA 0), .ref (pA 1), .ref (pA 2), .ref (pA 3), .ref (pA 4), .ref (pA 5), .ref (pA 6), .ref (pA 7), .ref (pA 8), .ref (pA 9), .ref (pA 10), .int (nI T), .int (nI Ac)], ia (pA 4) (pK 4) 7 (fun i => nI ((pg 4) i)), ia (pA 5) (pK 5) 7 (fun i => nI ((pg 5) i)), ia (pA 9) (pK 9) 6 (fun i => nI ((pg 9) i))] H := hP
      refine tp_pc (pc' := 87) (by rfl) ?_
      refine lv_iinc (v := nI (i1 + 1)) (lv' := [(1, .int (nI (i1 + 1))), (0, .ref xa)]) hx hb d_GraphSearch_noteReaders_87 hl (k := 0) rfl (by exact nI_1 i1) (by decide) rfl ?_
      clear hl ls
      intro ls hl
      refine lv_goto (tgt := 49) hx hb d_GraphSearch_noteReaders_90 (by decide) ?_
      refine tp_pc (pc' := 49) (by rfl) ?_
      obtain ⟨hP8, -, -⟩ := cut3 (wc := [oc xa 6 [.ref pa, .ref ga, .ref (xA 0), .ref (xA 1), .ref (xA 2), .ref (xA 3), .ref (xA 4), .ref (xA 5), .ref (xA 6), .ref (xA 7), .ref (xA 8), .ref (xA 9), .ref (xA 10), .ref (xA 11), .ref fa, .int (nI md), .int (nI M)], ia (xA 0) (xK 0) 7 (fun i0 => mN (fm i0)), ia (xA 6) (xK 6) 8 (fun i => nI ((rdN pg fm M (i1 + 1)) i)), ia (xA 7) (xK 7) 4 (fun i => nI ((frN pg fm M (i1 + 1)) i)), ia (xA 9) (xK 9) 7 (fun i => nI ((bfN pg fm M (i1 + 1)) i)), oc ga 1 [.ref pa, .ref g1, .ref g2, .ref g3, .int (nI dn), .long so], oc pa 0 [.ref (pA 0), .ref (pA 1), .ref (pA 2), .ref (pA 3), .ref (pA 4), .ref (pA 5), .ref (pA 6), .ref (pA 7), .ref (pA 8), .ref (pA 9), .ref (pA 10), .int (nI T), .int (nI Ac)], ia (pA 4) (pK 4) 7 (fun i => nI ((pg 4) i)), ia (pA 5) (pK 5) 7 (fun i => nI ((pg 5) i)), ia (pA 9) (pK 9) 6 (fun i => nI ((pg 9) i))]) hP hD rfl hS hA [0, 1, 2, 3, 4, 5, 6, 7, 8, 9] (by decide +kernel) rfl
      exact ih_i1 _ _ _ ⟨hP8, hS, lv_sub hl [0, 1] rfl⟩
    · skip
      have hc1 : ¬ (b9 = 0) := fun q9 => c1 ((nI_eq (a := b9) (b := 0) (by omega) (by omega)).mpr q9)
      refine tp_pc (pc' := 71) (by rfl) ?_
      refine lv_aload_n hx hb d_GraphSearch_noteReaders_71 rfl (lv_at hl 1 rfl) ?_
      refine va_get (D := (dC, dI)) (ci := 6) (v := .ref pa) (C := R_GraphSearch) (T := F_GraphSearch) (N := 17) hx hb hw i_GraphSearch hown hK hP 0 rfl rfl 0 (by decide) (hw _ m_319) (fun _ h9 => h9) rfl d_GraphSearch_noteReaders_72 ?_
      refine lv_iload_n hx hb d_GraphSearch_noteReaders_75 rfl (lv_at hl 0 rfl) ?_
      obtain ⟨hPc, hDc, hFc⟩ := cut3 (wc := [oc pa 0 [.ref (pA 0), .ref (pA 1), .ref (pA 2), .ref (pA 3), .ref (pA 4), .ref (pA 5), .ref (pA 6), .ref (pA 7), .ref (pA 8), .ref (pA 9), .ref (pA 10), .int (nI T), .int (nI Ac)], ia (pA 4) (pK 4) 7 (fun i => nI ((pg 4) i))]) hP hD rfl hS hA [6, 7] (by decide +kernel) rfl
      have hKc := hK.sub (tys' := [((pK 4), .int)]) [4] rfl
      refine va_calli (va_runV (As := [.int (nI i1)]) (rest := []) ⟨hx, hb, hml, hown, hw⟩ (gen_Program_takesValue l dC dI pa pA pK T Ac pg nm i1 (by omega) k3 H.size) (cw_V 1 hw g_Program_takesValue rfl rfl rfl (hw _ m_102) (hw _ m_787) (hw _ m_678) (hw _ m_679) (by decide +kernel) ⟨Nat.le_of_ble_eq_true rfl, Nat.le_of_ble_eq_true rfl⟩) ⟨fun a U g mk q => by obtain ⟨q0, q1, qP, qK, qD, qN⟩ := q; exact ⟨q0, q1, qP, va_K.moved (u := U) (U := U.calling g mk a) (Vm.Alike.refl U.vm) qK, qD, nw_call qN⟩, va_recv hKc hPc (ci := 0) (q0 := 0) rfl rfl, fun U hU hW => ⟨rfl, by rw [hU], by rw [hU]; exact hPc, va_K.moved hW.alike hKc, hDc.weaken (fun _ _ _ _ => trivial), nw_warm hW hn⟩⟩ rfl rfl hl.1 rfl (lv_room (Nat.le_of_ble_eq_true rfl)) d_GraphSearch_noteReaders_76 ⟨Nat.le_of_ble_eq_true rfl, Nat.le_of_ble_eq_true rfl⟩) hS (fun q _ h => hFc q h) hFc ?_
      intro r_5 u t9 H1 locs1 ht9 hvm hw1 hB hz1 hk1 hS1
      obtain ⟨hP1, hK1, hD1⟩ := hB
      rw [ht9] at hP1
      replace hK1 := va_K.moved hvm.symm hK1
      have hPD := join3 hP hD rfl [6, 7] [0, 1, 2, 3, 4, 5, 8, 9] rfl (by rfl) (by decide +kernel) (by decide +kernel) hk1 hFc hP1 hD1
      replace hK : va_K (dC, dI) classes [((xK 0), .int), ((xK 6), .int), ((xK 7), .int), ((xK 9), .int), ((pK 4), .int), ((pK 5), .int), ((pK 9), .int)] s := hK.app hK1
      clear hP1 hK1 hD1 hk1 hz1 hFc hKc hDc hPc hvm ht9 hP hS t9 locs H
      have hP : va_P (dC, dI) classes [oc xa 6 [.ref pa, .ref ga, .ref (xA 0), .ref (xA 1), .ref (xA 2), .ref (xA 3), .ref (xA 4), .ref (xA 5), .ref (xA 6), .ref (xA 7), .ref (xA 8), .ref (xA 9), .ref (xA 10), .ref (xA 11), .ref fa, .int (nI md), .int (nI M)], ia (xA 0) (xK 0) 7 (fun i0 => mN (fm i0)), ia (xA 6) (xK 6) 8 (fun i => nI ((rdN pg fm M i1) i)), ia (xA 7) (xK 7) 4 (fun i => nI ((frN pg fm M i1) i)), ia (xA 9) (xK 9) 7 (fun i => nI ((bfN pg fm M i1) i)), oc ga 1 [.ref pa, .ref g1, .ref g2, .ref g3, .int (nI dn), .long so], ia (pA 5) (pK 5) 7 (fun i => nI ((pg 5) i)), ia (pA 9) (pK 9) 6 (fun i => nI ((pg 9) i)), oc pa 0 [.ref (pA 0), .ref (pA 1), .ref (pA 2), .ref (pA 3), .ref (pA 4), .ref (pA 5), .ref (pA 6), .ref (pA 7), .ref (pA 8), .ref (pA 9), .ref (pA 10), .int (nI T), .int (nI Ac)], ia (pA 4) (pK 4) 7 (fun i => nI ((pg 4) i))] H1 := hPD.1
      replace hD : dd A [xa, (xA 0), (xA 6), (xA 7), (xA 9), ga, (pA 5), (pA 9), pa, (pA 4)] := dd_of hPD.2 rfl
      clear hPD
      revert H1 locs1
      intro H locs hS hP
      refine tp_i (y := (if pg 4 i1 = 0 ∨ pg 4 i1 = 3 then 1 else 0)) (hw1) ?_
      clear hw1 r_5 u
      by_cases htk : pg 4 i1 = 0 ∨ pg 4 i1 = 3
      · skip
        rw [if_pos htk]
        have hcy : M / 2 ^ i1 % 2 = 1 ∧ (pg 4 i1 = 0 ∨ pg 4 i1 = 3) := ⟨by rw [← hb9]; exact bit0 hb92 hc1, htk⟩
        refine tp_pc (pc' := 79) (by rfl) ?_
        refine lv_if_eq (tgt := 87) hx hb d_GraphSearch_noteReaders_79 (by decide) (fun c_6 => absurd c_6 (by decide)) (fun c_6 => ?_)
        refine tp_pc (pc' := 82) (by rfl) ?_
        refine lv_aload_n hx hb d_GraphSearch_noteReaders_82 rfl (lv_at hl 1 rfl) ?_
        refine lv_iload_n hx hb d_GraphSearch_noteReaders_83 rfl (lv_at hl 0 rfl) ?_
        obtain ⟨hPc, hDc, hFc⟩ := cut3 (wc := [oc xa 6 [.ref pa, .ref ga, .ref (xA 0), .ref (xA 1), .ref (xA 2), .ref (xA 3), .ref (xA 4), .ref (xA 5), .ref (xA 6), .ref (xA 7), .ref (xA 8), .ref (xA 9), .ref (xA 10), .ref (xA 11), .ref fa, .int (nI md), .int (nI M)], ia (xA 0) (xK 0) 7 (fun i0 => mN (fm i0)), ia (xA 6) (xK 6) 8 (fun i => nI ((rdN pg fm M i1) i)), ia (xA 7) (xK 7) 4 (fun i => nI ((frN pg fm M i1) i)), ia (xA 9) (xK 9) 7 (fun i => nI ((bfN pg fm M i1) i)), oc pa 0 [.ref (pA 0), .ref (pA 1), .ref (pA 2), .ref (pA 3), .ref (pA 4), .ref (pA 5), .ref (pA 6), .ref (pA 7), .ref (pA 8), .ref (pA 9), .ref (pA 10), .int (nI T), .int (nI Ac)], ia (pA 5) (pK 5) 7 (fun i => nI ((pg 5) i))]) hP hD rfl hS hA [0, 1, 2, 3, 4, 8, 6] (by decide +kernel) rfl
        have hKc := hK.sub (tys' := [((xK 0), .int), ((xK 6), .int), ((xK 7), .int), ((xK 9), .int), ((pK 5), .int)]) [0, 1, 2, 3, 5] rfl
        refine va_callv (va_runV (As := [.int (nI i1)]) (rest := []) ⟨hx, hb, hml, hown, hw⟩ (gen_GS_noteReader l dC dI pa pA pK T Ac pg nm xa ga fa xA xK md M fm wm (fun k => if k = 6 then rdN pg fm M i1 else if k = 7 then frN pg fm M i1 else bfN pg fm M i1) i1 (by omega) (k4 (by omega)) (hfm i1 (by omega)) (rdN_lt i1 (by omega)) (frN_lt i1 (by omega)) H.size) (cw_V 1 hw g_GraphSearch_noteReader rfl rfl rfl (hw _ m_107) (hw _ m_788) (hw _ m_790) (hw _ m_37) (by decide +kernel) ⟨Nat.le_of_ble_eq_true rfl, Nat.le_of_ble_eq_true rfl⟩) ⟨fun a U g mk q => by obtain ⟨q0, q1, qP, qK, qD, qN⟩ := q; exact ⟨q0, q1, qP, va_K.moved (u := U) (U := U.calling g mk a) (Vm.Alike.refl U.vm) qK, qD, nw_call qN⟩, va_recv hKc hPc (ci := 6) (q0 := 0) rfl rfl, fun U hU hW => ⟨rfl, by rw [hU], by rw [hU]; exact hPc, va_K.moved hW.alike hKc, hDc.weaken (fun _ _ _ _ => trivial), nw_warm hW hn⟩⟩ rfl rfl hl.1 rfl (lv_room (Nat.le_of_ble_eq_true rfl)) d_GraphSearch_noteReaders_84 ⟨Nat.le_of_ble_eq_true rfl, Nat.le_of_ble_eq_true rfl⟩) hS (fun q _ h => hFc q h) hFc ?_
        intro u t9 H1 locs1 ht9 hvm hw1 hB hz1 hk1 hS1
        obtain ⟨hP1, hK1, hD1⟩ := hB
        rw [ht9] at hP1
        replace hK1 := va_K.moved hvm.symm hK1
        have hPD := join3 hP hD rfl [0, 1, 2, 3, 4, 8, 6] [5, 7, 9] rfl (by rfl) (by decide +kernel) (by decide +kernel) hk1 hFc hP1 hD1
        replace hK : va_K (dC, dI) classes [((xK 0), .int), ((xK 6), .int), ((xK 7), .int), ((xK 9), .int), ((pK 4), .int), ((pK 5), .int), ((pK 9), .int)] s := hK.app hK1
        clear hP1 hK1 hD1 hk1 hz1 hFc hKc hDc hPc hvm ht9 hP hS t9 locs H
        have hP : va_P (dC, dI) classes [oc ga 1 [.ref pa, .ref g1, .ref g2, .ref g3, .int (nI dn), .long so], ia (pA 9) (pK 9) 6 (fun i => nI ((pg 9) i)), ia (pA 4) (pK 4) 7 (fun i => nI ((pg 4) i)), oc xa 6 [.ref pa, .ref ga, .ref (xA 0), .ref (xA 1), .ref (xA 2), .ref (xA 3), .ref (xA 4), .ref (xA 5), .ref (xA 6), .ref (xA 7), .ref (xA 8), .ref (xA 9), .ref (xA 10), .ref (xA 11), .ref fa, .int (nI md), .int (nI M)], ia (xA 0) (xK 0) 7 (fun i0 => mN (fm i0)), ia (xA 6) (xK 6) 8 (fun i => nI ((nrR fm i1 (rdN pg fm M i1)) i)), ia (xA 7) (xK 7) 4 (fun i => nI ((nrF pg fm i1 (frN pg fm M i1)) i)), ia (xA 9) (xK 9) 7 (fun i => nI ((nrB fm i1 (bfN pg fm M i1)) i)), oc pa 0 [.ref (pA 0), .ref (pA 1), .ref (pA 2), .ref (pA 3), .ref (pA 4), .ref (pA 5), .ref (pA 6), .ref (pA 7), .ref (pA 8), .ref (pA 9), .ref (pA 10), .int (nI T), .int (nI Ac)], ia (pA 5) (pK 5) 7 (fun i => nI ((pg 5) i))] H1 := hPD.1
        replace hD : dd A [ga, (pA 9), (pA 4), xa, (xA 0), (xA 6), (xA 7), (xA 9), pa, (pA 5)] := dd_of hPD.2 rfl
        clear hPD
        revert H1 locs1
        intro H locs hS hP
        clear hw1 u
        rw [show nrR fm i1 (rdN pg fm M i1) = rdN pg fm M (i1 + 1) from by rw [rdN, if_pos hcy], show nrF pg fm i1 (frN pg fm M i1) = frN pg fm M (i1 + 1) from by rw [frN, if_pos hcy], show nrB fm i1 (bfN pg fm M i1) = bfN pg fm M (i1 + 1) from by rw [bfN, if_pos hcy]] at hP
        replace hP : va_P (dC, dI) classes [oc ga 1 [.ref pa, .ref g1, .ref g2, .ref g3, .int (nI dn), .long so], ia (pA 9) (pK 9) 6 (fun i => nI ((pg 9) i)), ia (pA 4) (pK 4) 7 (fun i => nI ((pg 4) i)), oc xa 6 [.ref pa, .ref ga, .ref (xA 0), .ref (xA 1), .ref (xA 2), .ref (xA 3), .ref (xA 4), .ref (xA 5), .ref (xA 6), .ref (xA 7), .ref (xA 8), .ref (xA 9), .ref (xA 10), .ref (xA 11), .ref fa, .int (nI md), .int (nI M)], ia (xA 0) (xK 0) 7 (fun i0 => mN (fm i0)), ia (xA 6) (xK 6) 8 (fun i => nI ((rdN pg fm M (i1 + 1)) i)), ia (xA 7) (xK 7) 4 (fun i => nI ((frN pg fm M (i1 + 1)) i)), ia (xA 9) (xK 9) 7 (fun i => nI ((bfN pg fm M (i1 + 1)) i)), oc pa 0 [.ref (pA 0), .ref (pA 1), .ref (pA 2), .ref (pA 3), .ref (pA 4), .ref (pA 5), .ref (pA 6), .ref (pA 7), .ref (pA 8), .ref (pA 9), .ref (pA 10), .int (nI T), .int (nI Ac)], ia (pA 5) (pK 5) 7 (fun i => nI ((pg 5) i))] H := hP
        refine tp_pc (pc' := 87) (by rfl) ?_
        refine lv_iinc (v := nI (i1 + 1)) (lv' := [(1, .int (nI (i1 + 1))), (0, .ref xa)]) hx hb d_GraphSearch_noteReaders_87 hl (k := 0) rfl (by exact nI_1 i1) (by decide) rfl ?_
        clear hl ls
        intro ls hl
        refine lv_goto (tgt := 49) hx hb d_GraphSearch_noteReaders_90 (by decide) ?_
        refine tp_pc (pc' := 49) (by rfl) ?_
        obtain ⟨hP8, -, -⟩ := cut3 (wc := [oc xa 6 [.ref pa, .ref ga, .ref (xA 0), .ref (xA 1), .ref (xA 2), .ref (xA 3), .ref (xA 4), .ref (xA 5), .ref (xA 6), .ref (xA 7), .ref (xA 8), .ref (xA 9), .ref (xA 10), .ref (xA 11), .ref fa, .int (nI md), .int (nI M)], ia (xA 0) (xK 0) 7 (fun i0 => mN (fm i0)), ia (xA 6) (xK 6) 8 (fun i => nI ((rdN pg fm M (i1 + 1)) i)), ia (xA 7) (xK 7) 4 (fun i => nI ((frN pg fm M (i1 + 1)) i)), ia (xA 9) (xK 9) 7 (fun i => nI ((bfN pg fm M (i1 + 1)) i)), oc ga 1 [.ref pa, .ref g1, .ref g2, .ref g3, .int (nI dn), .long so], oc pa 0 [.ref (pA 0), .ref (pA 1), .ref (pA 2), .ref (pA 3), .ref (pA 4), .ref (pA 5), .ref (pA 6), .ref (pA 7), .ref (pA 8), .ref (pA 9), .ref (pA 10), .int (nI T), .int (nI Ac)], ia (pA 4) (pK 4) 7 (fun i => nI ((pg 4) i)), ia (pA 5) (pK 5) 7 (fun i => nI ((pg 5) i)), ia (pA 9) (pK 9) 6 (fun i => nI ((pg 9) i))]) hP hD rfl hS hA [3, 4, 5, 6, 7, 0, 8, 2, 9, 1] (by decide +kernel) rfl
        exact ih_i1 _ _ _ ⟨hP8, hS, lv_sub hl [0, 1] rfl⟩
      · skip
        rw [if_neg htk]
        have hcn : ¬ (M / 2 ^ i1 % 2 = 1 ∧ (pg 4 i1 = 0 ∨ pg 4 i1 = 3)) := fun h => htk h.2
        rw [show rdN pg fm M i1 = rdN pg fm M (i1 + 1) from by rw [rdN, if_neg hcn], show frN pg fm M i1 = frN pg fm M (i1 + 1) from by rw [frN, if_neg hcn], show bfN pg fm M i1 = bfN pg fm M (i1 + 1) from by rw [bfN, if_neg hcn]] at hP
        replace hP : va_P (dC, dI) classes [oc xa 6 [.ref pa, .ref ga, .ref (xA 0), .ref (xA 1), .ref (xA 2), .ref (xA 3), .ref (xA 4), .ref (xA 5), .ref (xA 6), .ref (xA 7), .ref (xA 8), .ref (xA 9), .ref (xA 10), .ref (xA 11), .ref fa, .int (nI md), .int (nI M)], ia (xA 0) (xK 0) 7 (fun i0 => mN (fm i0)), ia (xA 6) (xK 6) 8 (fun i => nI ((rdN pg fm M (i1 + 1)) i)), ia (xA 7) (xK 7) 4 (fun i => nI ((frN pg fm M (i1 + 1)) i)), ia (xA 9) (xK 9) 7 (fun i => nI ((bfN pg fm M (i1 + 1)) i)), oc ga 1 [.ref pa, .ref g1, .ref g2, .ref g3, .int (nI dn), .long so], ia (pA 5) (pK 5) 7 (fun i => nI ((pg 5) i)), ia (pA 9) (pK 9) 6 (fun i => nI ((pg 9) i)), oc pa 0 [.ref (pA 0), .ref (pA 1), .ref (pA 2), .ref (pA 3), .ref (pA 4), .ref (pA 5), .ref (pA 6), .ref (pA 7), .ref (pA 8), .ref (pA 9), .ref (pA 10), .int (nI T), .int (nI Ac)], ia (pA 4) (pK 4) 7 (fun i => nI ((pg 4) i))] H := hP
        refine tp_pc (pc' := 79) (by rfl) ?_
        refine lv_if_eq (tgt := 87) hx hb d_GraphSearch_noteReaders_79 (by decide) (fun c_8 => ?_) (fun c_8 => absurd c_8 (by decide))
        refine tp_pc (pc' := 87) (by rfl) ?_
        refine lv_iinc (v := nI (i1 + 1)) (lv' := [(1, .int (nI (i1 + 1))), (0, .ref xa)]) hx hb d_GraphSearch_noteReaders_87 hl (k := 0) rfl (by exact nI_1 i1) (by decide) rfl ?_
        clear hl ls
        intro ls hl
        refine lv_goto (tgt := 49) hx hb d_GraphSearch_noteReaders_90 (by decide) ?_
        refine tp_pc (pc' := 49) (by rfl) ?_
        obtain ⟨hP8, -, -⟩ := cut3 (wc := [oc xa 6 [.ref pa, .ref ga, .ref (xA 0), .ref (xA 1), .ref (xA 2), .ref (xA 3), .ref (xA 4), .ref (xA 5), .ref (xA 6), .ref (xA 7), .ref (xA 8), .ref (xA 9), .ref (xA 10), .ref (xA 11), .ref fa, .int (nI md), .int (nI M)], ia (xA 0) (xK 0) 7 (fun i0 => mN (fm i0)), ia (xA 6) (xK 6) 8 (fun i => nI ((rdN pg fm M (i1 + 1)) i)), ia (xA 7) (xK 7) 4 (fun i => nI ((frN pg fm M (i1 + 1)) i)), ia (xA 9) (xK 9) 7 (fun i => nI ((bfN pg fm M (i1 + 1)) i)), oc ga 1 [.ref pa, .ref g1, .ref g2, .ref g3, .int (nI dn), .long so], oc pa 0 [.ref (pA 0), .ref (pA 1), .ref (pA 2), .ref (pA 3), .ref (pA 4), .ref (pA 5), .ref (pA 6), .ref (pA 7), .ref (pA 8), .ref (pA 9), .ref (pA 10), .int (nI T), .int (nI Ac)], ia (pA 4) (pK 4) 7 (fun i => nI ((pg 4) i)), ia (pA 5) (pK 5) 7 (fun i => nI ((pg 5) i)), ia (pA 9) (pK 9) 6 (fun i => nI ((pg 9) i))]) hP hD rfl hS hA [0, 1, 2, 3, 4, 5, 8, 9, 6, 7] (by decide +kernel) rfl
        exact ih_i1 _ _ _ ⟨hP8, hS, lv_sub hl [0, 1] rfl⟩
  · intro H locs ls hI
    obtain ⟨hP, hS, hl⟩ := hI
    refine lv_iload_n hx hb d_GraphSearch_noteReaders_49 rfl (lv_at hl 0 rfl) ?_
    refine lv_aload_n hx hb d_GraphSearch_noteReaders_50 rfl (lv_at hl 1 rfl) ?_
    refine va_get (D := (dC, dI)) (ci := 6) (v := .ref pa) (C := R_GraphSearch) (T := F_GraphSearch) (N := 17) hx hb hw i_GraphSearch hown hK hP 0 rfl rfl 0 (by decide) (hw _ m_319) (fun _ h9 => h9) rfl d_GraphSearch_noteReaders_51 ?_
    refine va_get (D := (dC, dI)) (ci := 0) (v := .int (nI Ac)) (C := R_Program) (T := F_Program) (N := 13) hx hb hw i_Program hown hK hP 6 rfl rfl 12 (by decide) (hw _ m_166) (fun _ h9 => h9) rfl d_GraphSearch_noteReaders_54 ?_
    refine lv_icmp_ge (tgt := 93) hx hb d_GraphSearch_noteReaders_57 (by decide) (fun c9 => ?_) (fun c9 => absurd (nI_le (Nat.le_refl _) (by omega)) c9)
    refine tp_pc (pc' := 93) (by rfl) ?_
    obtain ⟨hP9, hD9, -⟩ := cut3 (wc := [oc xa 6 [.ref pa, .ref ga, .ref (xA 0), .ref (xA 1), .ref (xA 2), .ref (xA 3), .ref (xA 4), .ref (xA 5), .ref (xA 6), .ref (xA 7), .ref (xA 8), .ref (xA 9), .ref (xA 10), .ref (xA 11), .ref fa, .int (nI md), .int (nI M)], ia (xA 0) (xK 0) 7 (fun i0 => mN (fm i0)), ia (xA 6) (xK 6) 8 (fun i => nI ((rdN pg fm M Ac) i)), ia (xA 7) (xK 7) 4 (fun i => nI ((frN pg fm M Ac) i)), ia (xA 9) (xK 9) 7 (fun i => nI ((bfN pg fm M Ac) i)), oc ga 1 [.ref pa, .ref g1, .ref g2, .ref g3, .int (nI dn), .long so], oc pa 0 [.ref (pA 0), .ref (pA 1), .ref (pA 2), .ref (pA 3), .ref (pA 4), .ref (pA 5), .ref (pA 6), .ref (pA 7), .ref (pA 8), .ref (pA 9), .ref (pA 10), .int (nI T), .int (nI Ac)], ia (pA 4) (pK 4) 7 (fun i => nI ((pg 4) i)), ia (pA 5) (pK 5) 7 (fun i => nI ((pg 5) i)), ia (pA 9) (pK 9) 6 (fun i => nI ((pg 9) i))]) hP hD rfl hS hA [0, 1, 2, 3, 4, 5, 6, 7, 8, 9] (by decide +kernel) rfl
    have hK9 := hK.sub (tys' := []) [] rfl
    refine W.widen (k := 0) (n := 0) (by exact Nat.le_of_ble_eq_true rfl) (by exact Nat.le_of_ble_eq_true rfl) ?_
    exact W.vret hx hb hr (fun t9 ht9 hW => ⟨⟨(), rfl, trivial, by rw [ht9]; exact hP9, va_K.moved hW.alike hK9, hD9⟩, hS.F ht9⟩) hS.2.2 d_GraphSearch_noteReaders_93
set_option maxHeartbeats 4000000 in
set_option maxRecDepth 100000 in
theorem gen_GS_tellOuter (l : Launch) (dC : Nat → ClassId) (dI : Nat → Nat → Nat) (pa : Nat) (pA : Nat → Nat) (pK : Nat → ClassId) (T Ac : Nat) (pg : Nat → Nat → Nat) (nm : Nat → Int32) (xa ga fa : Nat) (xA : Nat → Nat) (xK : Nat → ClassId) (md mb : Nat) (fm wm : Nat → Nat) (sc : Nat → Nat → Nat) (hPg : PgOk T Ac pg) (h9 : ∀ i, sc 9 i < 128) (sz : Nat) : Met l y_GraphSearch_tellOuter w_GraphSearch_tellOuter ({ frames := 0, cells := 0, slots := 0, locals := 0 }) (va_Pc [.ref xa] (fun U => U.heap.size = sz ∧ va_P (dC, dI) classes [oc xa 6 [.ref pa, .ref ga, .ref (xA 0), .ref (xA 1), .ref (xA 2), .ref (xA 3), .ref (xA 4), .ref (xA 5), .ref (xA 6), .ref (xA 7), .ref (xA 8), .ref (xA 9), .ref (xA 10), .ref (xA 11), .ref fa, .int (nI md), .int (nI mb)], ia (xA 9) (xK 9) 7 (fun i => nI ((sc 9) i)), ia (xA 10) (xK 10) 7 (fun i => nI ((sc 10) i)), oc pa 0 [.ref (pA 0), .ref (pA 1), .ref (pA 2), .ref (pA 3), .ref (pA 4), .ref (pA 5), .ref (pA 6), .ref (pA 7), .ref (pA 8), .ref (pA 9), .ref (pA 10), .int (nI T), .int (nI Ac)], ia (pA 2) (pK 2) 7 (fun i => nI ((pg 2) i)), ia (pA 4) (pK 4) 7 (fun i => nI ((pg 4) i)), ia (pA 8) (pK 8) 4 (fun i => nI ((pg 8) i))] U.heap ∧ va_K (dC, dI) classes [((xK 9), .int), ((xK 10), .int), ((pK 2), .int), ((pK 4), .int), ((pK 8), .int)] U ∧ va_D (fun _ => True) [oc xa 6 [.ref pa, .ref ga, .ref (xA 0), .ref (xA 1), .ref (xA 2), .ref (xA 3), .ref (xA 4), .ref (xA 5), .ref (xA 6), .ref (xA 7), .ref (xA 8), .ref (xA 9), .ref (xA 10), .ref (xA 11), .ref fa, .int (nI md), .int (nI mb)], ia (xA 9) (xK 9) 7 (fun i => nI ((sc 9) i)), ia (xA 10) (xK 10) 7 (fun i => nI ((sc 10) i)), oc pa 0 [.ref (pA 0), .ref (pA 1), .ref (pA 2), .ref (pA 3), .ref (pA 4), .ref (pA 5), .ref (pA 6), .ref (pA 7), .ref (pA 8), .ref (pA 9), .ref (pA 10), .int (nI T), .int (nI Ac)], ia (pA 2) (pK 2) 7 (fun i => nI ((pg 2) i)), ia (pA 4) (pK 4) 7 (fun i => nI ((pg 4) i)), ia (pA 8) (pK 8) 4 (fun i => nI ((pg 8) i))] ∧ nw U)) (va_Qv (fun _ : Unit => True) (fun _ t9 => va_P (dC, dI) classes [oc xa 6 [.ref pa, .ref ga, .ref (xA 0), .ref (xA 1), .ref (xA 2), .ref (xA 3), .ref (xA 4), .ref (xA 5), .ref (xA 6), .ref (xA 7), .ref (xA 8), .ref (xA 9), .ref (xA 10), .ref (xA 11), .ref fa, .int (nI md), .int (nI mb)], ia (xA 9) (xK 9) 7 (fun i => nI ((sc 9) i)), ia (xA 10) (xK 10) 7 (fun i => nI ((tuN pg (sc 9) (sc 10) Ac) i)), oc pa 0 [.ref (pA 0), .ref (pA 1), .ref (pA 2), .ref (pA 3), .ref (pA 4), .ref (pA 5), .ref (pA 6), .ref (pA 7), .ref (pA 8), .ref (pA 9), .ref (pA 10), .int (nI T), .int (nI Ac)], ia (pA 2) (pK 2) 7 (fun i => nI ((pg 2) i)), ia (pA 4) (pK 4) 7 (fun i => nI ((pg 4) i)), ia (pA 8) (pK 8) 4 (fun i => nI ((pg 8) i))] t9.heap ∧ va_K (dC, dI) classes [] t9 ∧ va_D (va_A [oc xa 6 [.ref pa, .ref ga, .ref (xA 0), .ref (xA 1), .ref (xA 2), .ref (xA 3), .ref (xA 4), .ref (xA 5), .ref (xA 6), .ref (xA 7), .ref (xA 8), .ref (xA 9), .ref (xA 10), .ref (xA 11), .ref fa, .int (nI md), .int (nI mb)], ia (xA 9) (xK 9) 7 (fun i => nI ((sc 9) i)), ia (xA 10) (xK 10) 7 (fun i => nI ((sc 10) i)), oc pa 0 [.ref (pA 0), .ref (pA 1), .ref (pA 2), .ref (pA 3), .ref (pA 4), .ref (pA 5), .ref (pA 6), .ref (pA 7), .ref (pA 8), .ref (pA 9), .ref (pA 10), .int (nI T), .int (nI Ac)], ia (pA 2) (pK 2) 7 (fun i => nI ((pg 2) i)), ia (pA 4) (pK 4) 7 (fun i => nI ((pg 4) i)), ia (pA 8) (pK 8) 4 (fun i => nI ((pg 8) i))] sz) [oc xa 6 [.ref pa, .ref ga, .ref (xA 0), .ref (xA 1), .ref (xA 2), .ref (xA 3), .ref (xA 4), .ref (xA 5), .ref (xA 6), .ref (xA 7), .ref (xA 8), .ref (xA 9), .ref (xA 10), .ref (xA 11), .ref fa, .int (nI md), .int (nI mb)], ia (xA 9) (xK 9) 7 (fun i => nI ((sc 9) i)), ia (xA 10) (xK 10) 7 (fun i => nI ((tuN pg (sc 9) (sc 10) Ac) i)), oc pa 0 [.ref (pA 0), .ref (pA 1), .ref (pA 2), .ref (pA 3), .ref (pA 4), .ref (pA 5), .ref (pA 6), .ref (pA 7), .ref (pA 8), .ref (pA 9), .ref (pA 10), .int (nI T), .int (nI Ac)], ia (pA 2) (pK 2) 7 (fun i => nI ((pg 2) i)), ia (pA 4) (pK 4) 7 (fun i => nI ((pg 4) i)), ia (pA 8) (pK 8) 4 (fun i => nI ((pg 8) i))]) (va_A [oc xa 6 [.ref pa, .ref ga, .ref (xA 0), .ref (xA 1), .ref (xA 2), .ref (xA 3), .ref (xA 4), .ref (xA 5), .ref (xA 6), .ref (xA 7), .ref (xA 8), .ref (xA 9), .ref (xA 10), .ref (xA 11), .ref fa, .int (nI md), .int (nI mb)], ia (xA 9) (xK 9) 7 (fun i => nI ((sc 9) i)), ia (xA 10) (xK 10) 7 (fun i => nI ((sc 10) i)), oc pa 0 [.ref (pA 0), .ref (pA 1), .ref (pA 2), .ref (pA 3), .ref (pA 4), .ref (pA 5), .ref (pA 6), .ref (pA 7), .ref (pA 8), .ref (pA 9), .ref (pA 10), .int (nI T), .int (nI Ac)], ia (pA 2) (pK 2) 7 (fun i => nI ((pg 2) i)), ia (pA 4) (pK 4) 7 (fun i => nI ((pg 4) i)), ia (pA 8) (pK 8) 4 (fun i => nI ((pg 8) i))] sz)) 0 0 (va_A [oc xa 6 [.ref pa, .ref ga, .ref (xA 0), .ref (xA 1), .ref (xA 2), .ref (xA 3), .ref (xA 4), .ref (xA 5), .ref (xA 6), .ref (xA 7), .ref (xA 8), .ref (xA 9), .ref (xA 10), .ref (xA 11), .ref fa, .int (nI md), .int (nI mb)], ia (xA 9) (xK 9) 7 (fun i => nI ((sc 9) i)), ia (xA 10) (xK 10) 7 (fun i => nI ((sc 10) i)), oc pa 0 [.ref (pA 0), .ref (pA 1), .ref (pA 2), .ref (pA 3), .ref (pA 4), .ref (pA 5), .ref (pA 6), .ref (pA 7), .ref (pA 8), .ref (pA 9), .ref (pA 10), .int (nI T), .int (nI Ac)], ia (pA 2) (pK 2) 7 (fun i => nI ((pg 2) i)), ia (pA 4) (pK 4) 7 (fun i => nI ((pg 4) i)), ia (pA 8) (pK 8) 4 (fun i => nI ((pg 8) i))] sz) := by
  refine Met.ofW (cc := b_GraphSearch_tellOuter) (maxL := 3) (ret := none) (by decide) rfl ?_
  intro p e0 s m args below meth c s₁ B hml hv
  obtain ⟨rfl, hsz, hP, hK, hD0, hn⟩ := hv
  have hx := B.exec
  have hb := B.bytes
  have hr := B.returns
  have hw := fun w (h : w ∈ wt) => atoms_spec (ws := w_GraphSearch_tellOuter) B.pre w (List.mem_cons_of_mem _ h)
  have hown : s.vm.findClass R_GraphSearch = some m.cls := findClass_of_methodNamed B.named
  have hlocks := B.notSynchronized
  subst hsz
  have hD1 := hD0.self (sz := s.heap.size)
  generalize hAe : va_A [oc xa 6 [.ref pa, .ref ga, .ref (xA 0), .ref (xA 1), .ref (xA 2), .ref (xA 3), .ref (xA 4), .ref (xA 5), .ref (xA 6), .ref (xA 7), .ref (xA 8), .ref (xA 9), .ref (xA 10), .ref (xA 11), .ref fa, .int (nI md), .int (nI mb)], ia (xA 9) (xK 9) 7 (fun i => nI ((sc 9) i)), ia (xA 10) (xK 10) 7 (fun i => nI ((sc 10) i)), oc pa 0 [.ref (pA 0), .ref (pA 1), .ref (pA 2), .ref (pA 3), .ref (pA 4), .ref (pA 5), .ref (pA 6), .ref (pA 7), .ref (pA 8), .ref (pA 9), .ref (pA 10), .int (nI T), .int (nI Ac)], ia (pA 2) (pK 2) 7 (fun i => nI ((pg 2) i)), ia (pA 4) (pK 4) 7 (fun i => nI ((pg 4) i)), ia (pA 8) (pK 8) 4 (fun i => nI ((pg 8) i))] s.heap.size = A at hD1 ⊢
  have hA : ∀ q : Nat, s.heap.size ≤ q → A q := fun q h => by rw [← hAe]; exact Or.inr h
  have hD : dd A [xa, (xA 9), (xA 10), pa, (pA 2), (pA 4), (pA 8)] := dd_of hD1 rfl
  clear hAe hD0 hD1
  have hS : va_S A s.heap s.heap [] := va_S.rf
  replace hP : va_P (dC, dI) classes [oc xa 6 [.ref pa, .ref ga, .ref (xA 0), .ref (xA 1), .ref (xA 2), .ref (xA 3), .ref (xA 4), .ref (xA 5), .ref (xA 6), .ref (xA 7), .ref (xA 8), .ref (xA 9), .ref (xA 10), .ref (xA 11), .ref fa, .int (nI md), .int (nI mb)], ia (xA 9) (xK 9) 7 (fun i => nI ((sc 9) i)), ia (xA 10) (xK 10) 7 (fun i => nI ((sc 10) i)), oc pa 0 [.ref (pA 0), .ref (pA 1), .ref (pA 2), .ref (pA 3), .ref (pA 4), .ref (pA 5), .ref (pA 6), .ref (pA 7), .ref (pA 8), .ref (pA 9), .ref (pA 10), .int (nI T), .int (nI Ac)], ia (pA 2) (pK 2) 7 (fun i => nI ((pg 2) i)), ia (pA 4) (pK 4) 7 (fun i => nI ((pg 4) i)), ia (pA 8) (pK 8) 4 (fun i => nI ((pg 8) i))] s.heap := hP
  have hl := lv_entry ([.ref xa]) (n := 3) (Nat.le_of_ble_eq_true rfl)
  rw [lg_entry_eq]
  generalize (lg_sl ([.ref xa]) ++ List.replicate (3 - (lg_sl ([.ref xa])).length) Slot.unset).toArray = ls at hl ⊢
  replace hl : lv_has ls 3 [(0, .ref xa)] := hl
  have hPg3 := hPg
  obtain ⟨p1, p2, p3, p4, p5, p6, p7, p8, p9, p10, p11⟩ := hPg3
  refine lv_iconst (v := 0) hx hb d_GraphSearch_tellOuter_0 (by decide) ?_
  refine lv_istore_n (lv' := [(1, .int 0), (0, .ref xa)]) hx hb d_GraphSearch_tellOuter_1 rfl hl (by decide) rfl ?_
  clear hl ls
  intro ls hl
  replace hP : va_P (dC, dI) classes [oc xa 6 [.ref pa, .ref ga, .ref (xA 0), .ref (xA 1), .ref (xA 2), .ref (xA 3), .ref (xA 4), .ref (xA 5), .ref (xA 6), .ref (xA 7), .ref (xA 8), .ref (xA 9), .ref (xA 10), .ref (xA 11), .ref fa, .int (nI md), .int (nI mb)], ia (xA 9) (xK 9) 7 (fun i => nI ((sc 9) i)), ia (xA 10) (xK 10) 7 (fun i => nI ((tuN pg (sc 9) (sc 10) 0) i)), oc pa 0 [.ref (pA 0), .ref (pA 1), .ref (pA 2), .ref (pA 3), .ref (pA 4), .ref (pA 5), .ref (pA 6), .ref (pA 7), .ref (pA 8), .ref (pA 9), .ref (pA 10), .int (nI T), .int (nI Ac)], ia (pA 2) (pK 2) 7 (fun i => nI ((pg 2) i)), ia (pA 4) (pK 4) 7 (fun i => nI ((pg 4) i)), ia (pA 8) (pK 8) 4 (fun i => nI ((pg 8) i))] s.heap := hP
  replace hl : lv_has ls 3 [(1, .int (nI 0)), (0, .ref xa)] := hl
  refine lp_n Ac (fun i1 H locs ls => va_P (dC, dI) classes [oc xa 6 [.ref pa, .ref ga, .ref (xA 0), .ref (xA 1), .ref (xA 2), .ref (xA 3), .ref (xA 4), .ref (xA 5), .ref (xA 6), .ref (xA 7), .ref (xA 8), .ref (xA 9), .ref (xA 10), .ref (xA 11), .ref fa, .int (nI md), .int (nI mb)], ia (xA 9) (xK 9) 7 (fun i => nI ((sc 9) i)), ia (xA 10) (xK 10) 7 (fun i => nI ((tuN pg (sc 9) (sc 10) i1) i)), oc pa 0 [.ref (pA 0), .ref (pA 1), .ref (pA 2), .ref (pA 3), .ref (pA 4), .ref (pA 5), .ref (pA 6), .ref (pA 7), .ref (pA 8), .ref (pA 9), .ref (pA 10), .int (nI T), .int (nI Ac)], ia (pA 2) (pK 2) 7 (fun i => nI ((pg 2) i)), ia (pA 4) (pK 4) 7 (fun i => nI ((pg 4) i)), ia (pA 8) (pK 8) 4 (fun i => nI ((pg 8) i))] H ∧ va_S A s.heap H locs ∧ lv_has ls 3 [(1, .int (nI i1)), (0, .ref xa)]) ⟨hP, hS, hl⟩ ?_ ?_
  · intro i1 H locs ls hi1 hI ih_i1
    obtain ⟨hP, hS, hl⟩ := hI
    refine lv_iload_n hx hb d_GraphSearch_tellOuter_2 rfl (lv_at hl 0 rfl) ?_
    refine lv_aload_n hx hb d_GraphSearch_tellOuter_3 rfl (lv_at hl 1 rfl) ?_
    refine va_get (D := (dC, dI)) (ci := 6) (v := .ref pa) (C := R_GraphSearch) (T := F_GraphSearch) (N := 17) hx hb hw i_GraphSearch hown hK hP 0 rfl rfl 0 (by decide) (hw _ m_319) (fun _ h9 => h9) rfl d_GraphSearch_tellOuter_4 ?_
    refine va_get (D := (dC, dI)) (ci := 0) (v := .int (nI Ac)) (C := R_Program) (T := F_Program) (N := 13) hx hb hw i_Program hown hK hP 3 rfl rfl 12 (by decide) (hw _ m_166) (fun _ h9 => h9) rfl d_GraphSearch_tellOuter_7 ?_
    refine lv_icmp_ge (tgt := 82) hx hb d_GraphSearch_tellOuter_10 (by decide) (fun c9 => absurd c9 (nI_ge hi1 (by omega))) (fun c9 => ?_)
    obtain ⟨k1, k2, k3, k4, k5, k6⟩ := p5 i1 hi1
    refine tp_pc (pc' := 13) (by rfl) ?_
    refine lv_aload_n hx hb d_GraphSearch_tellOuter_13 rfl (lv_at hl 1 rfl) ?_
    refine va_get (D := (dC, dI)) (ci := 6) (v := .ref pa) (C := R_GraphSearch) (T := F_GraphSearch) (N := 17) hx hb hw i_GraphSearch hown hK hP 0 rfl rfl 0 (by decide) (hw _ m_319) (fun _ h9 => h9) rfl d_GraphSearch_tellOuter_14 ?_
    refine va_get (D := (dC, dI)) (ci := 0) (v := .ref (pA 4)) (C := R_Program) (T := F_Program) (N := 13) hx hb hw i_Program hown hK hP 3 rfl rfl 4 (by decide) (hw _ m_139) (fun _ h9 => h9) rfl d_GraphSearch_tellOuter_17 ?_
    refine lv_iload_n hx hb d_GraphSearch_tellOuter_20 rfl (lv_at hl 0 rfl) ?_
    refine va_iald (D := (dC, dI)) hx hb hK hP 5 3 rfl rfl (i := nI i1) (pk_in i1 7 (by omega)) d_GraphSearch_tellOuter_21 ?_
    refine tp_i (y := nI ((pg 4) i1)) (by rw [show (nI i1 : Int32).toNatClampNeg = i1 from pk_cl i1]) ?_
    refine lv_if_ne (tgt := 29) hx hb d_GraphSearch_tellOuter_22 (by decide) (fun c1 => ?_) (fun c1 => ?_)
    · skip
      have hc1 : ¬ ((pg 4) i1 = 0) := fun q9 => c1 ((nI_eq (a := (pg 4) i1) (b := 0) (by omega) (by omega)).mpr q9)
      refine tp_pc (pc' := 29) (by rfl) ?_
      refine lv_iconst (v := 0) hx hb d_GraphSearch_tellOuter_29 (by decide) ?_
      refine lv_istore_n (lv' := [(2, .int 0), (1, .int (nI i1)), (0, .ref xa)]) hx hb d_GraphSearch_tellOuter_30 rfl hl (by decide) rfl ?_
      clear hl ls
      intro ls hl
      refine lv_aload_n hx hb d_GraphSearch_tellOuter_31 rfl (lv_at hl 2 rfl) ?_
      refine va_get (D := (dC, dI)) (ci := 6) (v := .ref (xA 10)) (C := R_GraphSearch) (T := F_GraphSearch) (N := 17) hx hb hw i_GraphSearch hown hK hP 0 rfl rfl 12 (by decide) (hw _ m_331) (fun _ h9 => h9) rfl d_GraphSearch_tellOuter_32 ?_
      refine lv_iload_n hx hb d_GraphSearch_tellOuter_35 rfl (lv_at hl 1 rfl) ?_
      refine lv_iload_n hx hb d_GraphSearch_tellOuter_36 rfl (lv_at hl 0 rfl) ?_
      refine lv_if_eq (tgt := 69) hx hb d_GraphSearch_tellOuter_37 (by decide) (fun c_1 => ?_) (fun c_1 => absurd c_1 (by decide))
      refine tp_pc (pc' := 69) (by rfl) ?_
      refine lv_aload_n hx hb d_GraphSearch_tellOuter_69 rfl (lv_at hl 2 rfl) ?_
      refine va_get (D := (dC, dI)) (ci := 6) (v := .ref (xA 9)) (C := R_GraphSearch) (T := F_GraphSearch) (N := 17) hx hb hw i_GraphSearch hown hK hP 0 rfl rfl 11 (by decide) (hw _ m_330) (fun _ h9 => h9) rfl d_GraphSearch_tellOuter_70 ?_
      refine lv_iload_n hx hb d_GraphSearch_tellOuter_73 rfl (lv_at hl 1 rfl) ?_
      refine va_iald (D := (dC, dI)) hx hb hK hP 1 0 rfl rfl (i := nI i1) (pk_in i1 7 (by omega)) d_GraphSearch_tellOuter_74 ?_
      refine tp_i (y := nI ((sc 9) i1)) (by rw [show (nI i1 : Int32).toNatClampNeg = i1 from pk_cl i1]) ?_
      refine va_iast (D := (dC, dI)) hx hb hK hP (dd_D hD rfl) hS 2 1 rfl rfl (i := nI i1) (x := nI ((sc 9) i1)) (pk_in i1 7 (by omega)) d_GraphSearch_tellOuter_75 ?_
      clear hP hS locs H
      intro H locs hP _ hS
      rw [show (nI i1 : Int32).toNatClampNeg = i1 from pk_cl i1] at hP
      rw [show upd (fun i => nI ((tuN pg (sc 9) (sc 10) i1) i)) i1 (nI ((sc 9) i1)) = fun i => nI (updN (tuN pg (sc 9) (sc 10) i1) i1 ((sc 9) i1) i) from upd_nI] at hP
      replace hP : va_P (dC, dI) classes [oc xa 6 [.ref pa, .ref ga, .ref (xA 0), .ref (xA 1), .ref (xA 2), .ref (xA 3), .ref (xA 4), .ref (xA 5), .ref (xA 6), .ref (xA 7), .ref (xA 8), .ref (xA 9), .ref (xA 10), .ref (xA 11), .ref fa, .int (nI md), .int (nI mb)], ia (xA 9) (xK 9) 7 (fun i => nI ((sc 9) i)), ia (xA 10) (xK 10) 7 (fun i => nI ((updN (tuN pg (sc 9) (sc 10) i1) i1 ((sc 9) i1)) i)), oc pa 0 [.ref (pA 0), .ref (pA 1), .ref (pA 2), .ref (pA 3), .ref (pA 4), .ref (pA 5), .ref (pA 6), .ref (pA 7), .ref (pA 8), .ref (pA 9), .ref (pA 10), .int (nI T), .int (nI Ac)], ia (pA 2) (pK 2) 7 (fun i => nI ((pg 2) i)), ia (pA 4) (pK 4) 7 (fun i => nI ((pg 4) i)), ia (pA 8) (pK 8) 4 (fun i => nI ((pg 8) i))] H := hP
      refine tp_pc (pc' := 76) (by rfl) ?_
      rw [show updN (tuN pg (sc 9) (sc 10) i1) i1 (sc 9 i1) = tuN pg (sc 9) (sc 10) (i1 + 1) from by rw [tuN, if_neg hc1]] at hP
      replace hP : va_P (dC, dI) classes [oc xa 6 [.ref pa, .ref ga, .ref (xA 0), .ref (xA 1), .ref (xA 2), .ref (xA 3), .ref (xA 4), .ref (xA 5), .ref (xA 6), .ref (xA 7), .ref (xA 8), .ref (xA 9), .ref (xA 10), .ref (xA 11), .ref fa, .int (nI md), .int (nI mb)], ia (xA 9) (xK 9) 7 (fun i => nI ((sc 9) i)), ia (xA 10) (xK 10) 7 (fun i => nI ((tuN pg (sc 9) (sc 10) (i1 + 1)) i)), oc pa 0 [.ref (pA 0), .ref (pA 1), .ref (pA 2), .ref (pA 3), .ref (pA 4), .ref (pA 5), .ref (pA 6), .ref (pA 7), .ref (pA 8), .ref (pA 9), .ref (pA 10), .int (nI T), .int (nI Ac)], ia (pA 2) (pK 2) 7 (fun i => nI ((pg 2) i)), ia (pA 4) (pK 4) 7 (fun i => nI ((pg 4) i)), ia (pA 8) (pK 8) 4 (fun i => nI ((pg 8) i))] H := hP
      refine lv_iinc (v := nI (i1 + 1)) (lv' := [(1, .int (nI (i1 + 1))), (2, .int 0), (0, .ref xa)]) hx hb d_GraphSearch_tellOuter_76 hl (k := 1) rfl (by exact nI_1 i1) (by decide) rfl ?_
      clear hl ls
      intro ls hl
      refine lv_goto (tgt := 2) hx hb d_GraphSearch_tellOuter_79 (by decide) ?_
      refine tp_pc (pc' := 2) (by rfl) ?_
      obtain ⟨hP8, -, -⟩ := cut3 (wc := [oc xa 6 [.ref pa, .ref ga, .ref (xA 0), .ref (xA 1), .ref (xA 2), .ref (xA 3), .ref (xA 4), .ref (xA 5), .ref (xA 6), .ref (xA 7), .ref (xA 8), .ref (xA 9), .ref (xA 10), .ref (xA 11), .ref fa, .int (nI md), .int (nI mb)], ia (xA 9) (xK 9) 7 (fun i => nI ((sc 9) i)), ia (xA 10) (xK 10) 7 (fun i => nI ((tuN pg (sc 9) (sc 10) (i1 + 1)) i)), oc pa 0 [.ref (pA 0), .ref (pA 1), .ref (pA 2), .ref (pA 3), .ref (pA 4), .ref (pA 5), .ref (pA 6), .ref (pA 7), .ref (pA 8), .ref (pA 9), .ref (pA 10), .int (nI T), .int (nI Ac)], ia (pA 2) (pK 2) 7 (fun i => nI ((pg 2) i)), ia (pA 4) (pK 4) 7 (fun i => nI ((pg 4) i)), ia (pA 8) (pK 8) 4 (fun i => nI ((pg 8) i))]) hP hD rfl hS hA [0, 1, 2, 3, 4, 5, 6] (by decide +kernel) rfl
      exact ih_i1 _ _ _ ⟨hP8, hS, lv_sub hl [0, 2] rfl⟩
    · skip
      have hc1 : (pg 4) i1 = 0 := (nI_eq (a := (pg 4) i1) (b := 0) (by omega) (by omega)).mp c1
      refine tp_pc (pc' := 25) (by rfl) ?_
      refine lv_iconst (v := 1) hx hb d_GraphSearch_tellOuter_25 (by decide) ?_
      refine lv_goto (tgt := 30) hx hb d_GraphSearch_tellOuter_26 (by decide) ?_
      refine tp_pc (pc' := 30) (by rfl) ?_
      refine lv_istore_n (lv' := [(2, .int 1), (1, .int (nI i1)), (0, .ref xa)]) hx hb d_GraphSearch_tellOuter_30 rfl hl (by decide) rfl ?_
      clear hl ls
      intro ls hl
      refine lv_aload_n hx hb d_GraphSearch_tellOuter_31 rfl (lv_at hl 2 rfl) ?_
      refine va_get (D := (dC, dI)) (ci := 6) (v := .ref (xA 10)) (C := R_GraphSearch) (T := F_GraphSearch) (N := 17) hx hb hw i_GraphSearch hown hK hP 0 rfl rfl 12 (by decide) (hw _ m_331) (fun _ h9 => h9) rfl d_GraphSearch_tellOuter_32 ?_
      refine lv_iload_n hx hb d_GraphSearch_tellOuter_35 rfl (lv_at hl 1 rfl) ?_
      refine lv_iload_n hx hb d_GraphSearch_tellOuter_36 rfl (lv_at hl 0 rfl) ?_
      refine lv_if_eq (tgt := 69) hx hb d_GraphSearch_tellOuter_37 (by decide) (fun c_2 => absurd c_2 (by decide)) (fun c_2 => ?_)
      refine tp_pc (pc' := 40) (by rfl) ?_
      refine lv_aload_n hx hb d_GraphSearch_tellOuter_40 rfl (lv_at hl 2 rfl) ?_
      refine va_get (D := (dC, dI)) (ci := 6) (v := .ref (xA 9)) (C := R_GraphSearch) (T := F_GraphSearch) (N := 17) hx hb hw i_GraphSearch hown hK hP 0 rfl rfl 11 (by decide) (hw _ m_330) (fun _ h9 => h9) rfl d_GraphSearch_tellOuter_41 ?_
      refine lv_iload_n hx hb d_GraphSearch_tellOuter_44 rfl (lv_at hl 1 rfl) ?_
      refine va_iald (D := (dC, dI)) hx hb hK hP 1 0 rfl rfl (i := nI i1) (pk_in i1 7 (by omega)) d_GraphSearch_tellOuter_45 ?_
      refine tp_i (y := nI ((sc 9) i1)) (by rw [show (nI i1 : Int32).toNatClampNeg = i1 from pk_cl i1]) ?_
      refine lv_aload_n hx hb d_GraphSearch_tellOuter_46 rfl (lv_at hl 2 rfl) ?_
      refine va_get (D := (dC, dI)) (ci := 6) (v := .ref pa) (C := R_GraphSearch) (T := F_GraphSearch) (N := 17) hx hb hw i_GraphSearch hown hK hP 0 rfl rfl 0 (by decide) (hw _ m_319) (fun _ h9 => h9) rfl d_GraphSearch_tellOuter_47 ?_
      refine va_get (D := (dC, dI)) (ci := 0) (v := .ref (pA 8)) (C := R_Program) (T := F_Program) (N := 13) hx hb hw i_Program hown hK hP 3 rfl rfl 8 (by decide) (hw _ m_154) (fun _ h9 => h9) rfl d_GraphSearch_tellOuter_50 ?_
      refine lv_aload_n hx hb d_GraphSearch_tellOuter_53 rfl (lv_at hl 2 rfl) ?_
      refine va_get (D := (dC, dI)) (ci := 6) (v := .ref pa) (C := R_GraphSearch) (T := F_GraphSearch) (N := 17) hx hb hw i_GraphSearch hown hK hP 0 rfl rfl 0 (by decide) (hw _ m_319) (fun _ h9 => h9) rfl d_GraphSearch_tellOuter_54 ?_
      refine va_get (D := (dC, dI)) (ci := 0) (v := .ref (pA 2)) (C := R_Program) (T := F_Program) (N := 13) hx hb hw i_Program hown hK hP 3 rfl rfl 2 (by decide) (hw _ m_134) (fun _ h9 => h9) rfl d_GraphSearch_tellOuter_57 ?_
      refine lv_iload_n hx hb d_GraphSearch_tellOuter_60 rfl (lv_at hl 1 rfl) ?_
      refine va_iald (D := (dC, dI)) hx hb hK hP 4 2 rfl rfl (i := nI i1) (pk_in i1 7 (by omega)) d_GraphSearch_tellOuter_61 ?_
      refine tp_i (y := nI ((pg 2) i1)) (by rw [show (nI i1 : Int32).toNatClampNeg = i1 from pk_cl i1]) ?_
      refine va_iald (D := (dC, dI)) hx hb hK hP 6 4 rfl rfl (i := nI ((pg 2) i1)) (pk_in ((pg 2) i1) 4 (by omega)) d_GraphSearch_tellOuter_62 ?_
      refine tp_i (y := nI ((pg 8) ((pg 2) i1))) (by rw [show (nI ((pg 2) i1) : Int32).toNatClampNeg = (pg 2) i1 from pk_cl ((pg 2) i1)]) ?_
      refine lv_iconst (v := (-1)) hx hb d_GraphSearch_tellOuter_63 (by decide) ?_
      refine lv_ixor hx hb d_GraphSearch_tellOuter_64 ?_
      refine tp_i (y := (nI ((pg 8) ((pg 2) i1))) ^^^ (-1)) rfl ?_
      refine lv_iand hx hb d_GraphSearch_tellOuter_65 ?_
      refine tp_i (y := (nI ((sc 9) i1)) &&& ((nI ((pg 8) ((pg 2) i1))) ^^^ (-1))) rfl ?_
      refine tp_i (y := nI (andn (sc 9 i1) (pg 8 (pg 2 i1)))) (andn_eq _ (h9 _) _ (p6 _)) ?_
      refine lv_goto (tgt := 75) hx hb d_GraphSearch_tellOuter_66 (by decide) ?_
      refine tp_pc (pc' := 75) (by rfl) ?_
      refine va_iast (D := (dC, dI)) hx hb hK hP (dd_D hD rfl) hS 2 1 rfl rfl (i := nI i1) (x := nI (andn (sc 9 i1) (pg 8 (pg 2 i1)))) (pk_in i1 7 (by omega)) d_GraphSearch_tellOuter_75 ?_
      clear hP hS locs H
      intro H locs hP _ hS
      rw [show (nI i1 : Int32).toNatClampNeg = i1 from pk_cl i1] at hP
      rw [show upd (fun i => nI ((tuN pg (sc 9) (sc 10) i1) i)) i1 (nI (andn (sc 9 i1) (pg 8 (pg 2 i1)))) = fun i => nI (updN (tuN pg (sc 9) (sc 10) i1) i1 (andn (sc 9 i1) (pg 8 (pg 2 i1))) i) from upd_nI] at hP
      replace hP : va_P (dC, dI) classes [oc xa 6 [.ref pa, .ref ga, .ref (xA 0), .ref (xA 1), .ref (xA 2), .ref (xA 3), .ref (xA 4), .ref (xA 5), .ref (xA 6), .ref (xA 7), .ref (xA 8), .ref (xA 9), .ref (xA 10), .ref (xA 11), .ref fa, .int (nI md), .int (nI mb)], ia (xA 9) (xK 9) 7 (fun i => nI ((sc 9) i)), ia (xA 10) (xK 10) 7 (fun i => nI ((updN (tuN pg (sc 9) (sc 10) i1) i1 (andn (sc 9 i1) (pg 8 (pg 2 i1)))) i)), oc pa 0 [.ref (pA 0), .ref (pA 1), .ref (pA 2), .ref (pA 3), .ref (pA 4), .ref (pA 5), .ref (pA 6), .ref (pA 7), .ref (pA 8), .ref (pA 9), .ref (pA 10), .int (nI T), .int (nI Ac)], ia (pA 2) (pK 2) 7 (fun i => nI ((pg 2) i)), ia (pA 4) (pK 4) 7 (fun i => nI ((pg 4) i)), ia (pA 8) (pK 8) 4 (fun i => nI ((pg 8) i))] H := hP
      refine tp_pc (pc' := 76) (by rfl) ?_
      rw [show updN (tuN pg (sc 9) (sc 10) i1) i1 (andn (sc 9 i1) (pg 8 (pg 2 i1))) = tuN pg (sc 9) (sc 10) (i1 + 1) from by rw [tuN, if_pos hc1]] at hP
      replace hP : va_P (dC, dI) classes [oc xa 6 [.ref pa, .ref ga, .ref (xA 0), .ref (xA 1), .ref (xA 2), .ref (xA 3), .ref (xA 4), .ref (xA 5), .ref (xA 6), .ref (xA 7), .ref (xA 8), .ref (xA 9), .ref (xA 10), .ref (xA 11), .ref fa, .int (nI md), .int (nI mb)], ia (xA 9) (xK 9) 7 (fun i => nI ((sc 9) i)), ia (xA 10) (xK 10) 7 (fun i => nI ((tuN pg (sc 9) (sc 10) (i1 + 1)) i)), oc pa 0 [.ref (pA 0), .ref (pA 1), .ref (pA 2), .ref (pA 3), .ref (pA 4), .ref (pA 5), .ref (pA 6), .ref (pA 7), .ref (pA 8), .ref (pA 9), .ref (pA 10), .int (nI T), .int (nI Ac)], ia (pA 2) (pK 2) 7 (fun i => nI ((pg 2) i)), ia (pA 4) (pK 4) 7 (fun i => nI ((pg 4) i)), ia (pA 8) (pK 8) 4 (fun i => nI ((pg 8) i))] H := hP
      refine lv_iinc (v := nI (i1 + 1)) (lv' := [(1, .int (nI (i1 + 1))), (2, .int 1), (0, .ref xa)]) hx hb d_GraphSearch_tellOuter_76 hl (k := 1) rfl (by exact nI_1 i1) (by decide) rfl ?_
      clear hl ls
      intro ls hl
      refine lv_goto (tgt := 2) hx hb d_GraphSearch_tellOuter_79 (by decide) ?_
      refine tp_pc (pc' := 2) (by rfl) ?_
      obtain ⟨hP8, -, -⟩ := cut3 (wc := [oc xa 6 [.ref pa, .ref ga, .ref (xA 0), .ref (xA 1), .ref (xA 2), .ref (xA 3), .ref (xA 4), .ref (xA 5), .ref (xA 6), .ref (xA 7), .ref (xA 8), .ref (xA 9), .ref (xA 10), .ref (xA 11), .ref fa, .int (nI md), .int (nI mb)], ia (xA 9) (xK 9) 7 (fun i => nI ((sc 9) i)), ia (xA 10) (xK 10) 7 (fun i => nI ((tuN pg (sc 9) (sc 10) (i1 + 1)) i)), oc pa 0 [.ref (pA 0), .ref (pA 1), .ref (pA 2), .ref (pA 3), .ref (pA 4), .ref (pA 5), .ref (pA 6), .ref (pA 7), .ref (pA 8), .ref (pA 9), .ref (pA 10), .int (nI T), .int (nI Ac)], ia (pA 2) (pK 2) 7 (fun i => nI ((pg 2) i)), ia (pA 4) (pK 4) 7 (fun i => nI ((pg 4) i)), ia (pA 8) (pK 8) 4 (fun i => nI ((pg 8) i))]) hP hD rfl hS hA [0, 1, 2, 3, 4, 5, 6] (by decide +kernel) rfl
      exact ih_i1 _ _ _ ⟨hP8, hS, lv_sub hl [0, 2] rfl⟩
  · intro H locs ls hI
    obtain ⟨hP, hS, hl⟩ := hI
    refine lv_iload_n hx hb d_GraphSearch_tellOuter_2 rfl (lv_at hl 0 rfl) ?_
    refine lv_aload_n hx hb d_GraphSearch_tellOuter_3 rfl (lv_at hl 1 rfl) ?_
    refine va_get (D := (dC, dI)) (ci := 6) (v := .ref pa) (C := R_GraphSearch) (T := F_GraphSearch) (N := 17) hx hb hw i_GraphSearch hown hK hP 0 rfl rfl 0 (by decide) (hw _ m_319) (fun _ h9 => h9) rfl d_GraphSearch_tellOuter_4 ?_
    refine va_get (D := (dC, dI)) (ci := 0) (v := .int (nI Ac)) (C := R_Program) (T := F_Program) (N := 13) hx hb hw i_Program hown hK hP 3 rfl rfl 12 (by decide) (hw _ m_166) (fun _ h9 => h9) rfl d_GraphSearch_tellOuter_7 ?_
    refine lv_icmp_ge (tgt := 82) hx hb d_GraphSearch_tellOuter_10 (by decide) (fun c9 => ?_) (fun c9 => absurd (nI_le (Nat.le_refl _) (by omega)) c9)
    refine tp_pc (pc' := 82) (by rfl) ?_
    obtain ⟨hP9, hD9, -⟩ := cut3 (wc := [oc xa 6 [.ref pa, .ref ga, .ref (xA 0), .ref (xA 1), .ref (xA 2), .ref (xA 3), .ref (xA 4), .ref (xA 5), .ref (xA 6), .ref (xA 7), .ref (xA 8), .ref (xA 9), .ref (xA 10), .ref (xA 11), .ref fa, .int (nI md), .int (nI mb)], ia (xA 9) (xK 9) 7 (fun i => nI ((sc 9) i)), ia (xA 10) (xK 10) 7 (fun i => nI ((tuN pg (sc 9) (sc 10) Ac) i)), oc pa 0 [.ref (pA 0), .ref (pA 1), .ref (pA 2), .ref (pA 3), .ref (pA 4), .ref (pA 5), .ref (pA 6), .ref (pA 7), .ref (pA 8), .ref (pA 9), .ref (pA 10), .int (nI T), .int (nI Ac)], ia (pA 2) (pK 2) 7 (fun i => nI ((pg 2) i)), ia (pA 4) (pK 4) 7 (fun i => nI ((pg 4) i)), ia (pA 8) (pK 8) 4 (fun i => nI ((pg 8) i))]) hP hD rfl hS hA [0, 1, 2, 3, 4, 5, 6] (by decide +kernel) rfl
    have hK9 := hK.sub (tys' := []) [] rfl
    refine W.widen (k := 0) (n := 0) (by exact Nat.le_of_ble_eq_true rfl) (by exact Nat.le_of_ble_eq_true rfl) ?_
    exact W.vret hx hb hr (fun t9 ht9 hW => ⟨⟨(), rfl, trivial, by rw [ht9]; exact hP9, va_K.moved hW.alike hK9, hD9⟩, hS.F ht9⟩) hS.2.2 d_GraphSearch_tellOuter_82
