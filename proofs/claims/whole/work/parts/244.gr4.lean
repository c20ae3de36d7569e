/-- a thread learns what a written one knows: pi, pm: the places of both -/
def lnF (sf : Nat → Int32) (t wn : Nat) (pi pm : Nat → Nat) : Nat → (Nat → Int32)
  | 0 => sf
  | y + 1 => if pm y < pi y then upd (lnF sf t wn pi pm y) (139 + 4 * t + y) (sf (95 + 4 * wn + y)) else lnF sf t wn pi pm y
theorem lnF_o {sf : Nat → Int32} {t wn : Nat} {pi pm : Nat → Nat} {k : Nat} : ∀ i, (k < 139 + 4 * t ∨ 139 + 4 * t + i ≤ k) → lnF sf t wn pi pm i k = sf k
  | 0, _ => rfl
  | i + 1, h => by
    unfold lnF; split
    · rw [pk_un (by omega)]; exact lnF_o i (by omega)
    · exact lnF_o i (by omega)
/-- what stands behind lo, up to hi, has moved one on -/
def mvF (f : Nat → Int32) (lo hi : Nat) : Nat → Int32 := fun k => if lo < k ∧ k ≤ hi then f (k - 1) else f k
theorem mv_0 {f : Nat → Int32} {h : Nat} : mvF f h h = f := by funext k; exact if_neg (by omega)
theorem mv_s {f : Nat → Int32} {lo hi : Nat} (h : lo + 1 ≤ hi) : upd (mvF f (lo + 1) hi) (lo + 1) (mvF f (lo + 1) hi lo) = mvF f lo hi := by
  funext k
  by_cases e : k = lo + 1
  · rw [e, pk_us]; unfold mvF; rw [if_neg (by omega), if_pos (by omega), Nat.add_sub_cancel]
  · rw [pk_un e]; unfold mvF
    by_cases c : lo < k ∧ k ≤ hi
    · rw [if_pos c, if_pos (by omega)]
    · rw [if_neg c, if_neg (by omega)]
def kwF (f : Nat → Int32) (t wn : Nat) : Nat → (Nat → Int32)
  | 0 => f
  | y + 1 => upd (kwF f t wn y) (95 + 4 * wn + y) (kwF f t wn y (139 + 4 * t + y))
/-- a written one comes to a place of a row -/
def puB (sf : Nat → Int32) (t x pc z wn : Nat) (v ad : Int32) : Nat → Int32 :=
  upd (upd (upd (upd (upd (mvF (upd sf 15 (nI (wn + 1))) (41 + 8 * x + pc) (41 + 8 * x + z)) (41 + 8 * x + pc) (nI wn)) (37 + x) (nI (z + 1))) (73 + wn) v) (84 + wn) ad) (139 + 4 * t + x) (nI wn)
set_option maxHeartbeats 4000000 in
set_option maxRecDepth 100000 in
theorem gen_Ref_placeOf (l : Launch) (dC : Nat → ClassId) (dI : Nat → Nat → Nat) (ra : Nat) (rA : Nat → Nat) (rK9 : Nat → ClassId) (T Ac md wd mn cb ld gm my : Nat) (ir mr : Int32) (x p0 : Nat) (e9 : Int32) (sf : Nat → Int32) (hx4 : x < 4) (hp8 : p0 < 8) (hp0 : sf (41 + 8 * x + p0) = e9) (hne : ∀ q, q < p0 → ¬ sf (41 + 8 * x + q) = e9) (sz : Nat) : Met l y_Ref_placeOf w_Ref_placeOf ({ frames := 0, cells := 0, slots := 0, locals := 0 }) (va_Pc [.ref ra, .int (nI x), .int e9] (fun U => U.heap.size = sz ∧ va_P (dC, dI) classes [oc ra 8 [.int (nI T), .int (nI Ac), .ref (rA 2), .ref (rA 3), .ref (rA 4), .ref (rA 5), .ref (rA 6), .ref (rA 7), .ref (rA 8), .ref (rA 9), .ref (rA 10), .ref (rA 11), .ref (rA 12), .ref (rA 13), .int ir, .ref (rA 15), .ref (rA 16), .ref (rA 17), .ref (rA 18), .int (nI md), .int (nI wd), .ref (rA 21), .ref (rA 22), .ref (rA 23), .int (nI mn), .ref (rA 25), .int (nI cb), .int mr, .ref (rA 28), .ref (rA 29), .ref (rA 30), .ref (rA 31), .ref (rA 32), .ref (rA 33), .ref (rA 34), .ref (rA 35), .int (nI ld), .int (nI gm), .ref (rA 38), .ref (rA 39), .ref (rA 40), .ref (rA 41), .ref (rA 42), .ref (rA 43), .ref (rA 44), .ref (rA 45), .int (nI my), .ref (rA 47)], ia (rA 16) (rK9 16) 155 sf] U.heap ∧ va_K (dC, dI) classes [((rK9 16), .int)] U ∧ va_D (fun _ => True) [oc ra 8 [.int (nI T), .int (nI Ac), .ref (rA 2), .ref (rA 3), .ref (rA 4), .ref (rA 5), .ref (rA 6), .ref (rA 7), .ref (rA 8), .ref (rA 9), .ref (rA 10), .ref (rA 11), .ref (rA 12), .ref (rA 13), .int ir, .ref (rA 15), .ref (rA 16), .ref (rA 17), .ref (rA 18), .int (nI md), .int (nI wd), .ref (rA 21), .ref (rA 22), .ref (rA 23), .int (nI mn), .ref (rA 25), .int (nI cb), .int mr, .ref (rA 28), .ref (rA 29), .ref (rA 30), .ref (rA 31), .ref (rA 32), .ref (rA 33), .ref (rA 34), .ref (rA 35), .int (nI ld), .int (nI gm), .ref (rA 38), .ref (rA 39), .ref (rA 40), .ref (rA 41), .ref (rA 42), .ref (rA 43), .ref (rA 44), .ref (rA 45), .int (nI my), .ref (rA 47)], ia (rA 16) (rK9 16) 155 sf] ∧ nw U)) (va_Qi (fun (r : Int32) (_ : Unit) => r = nI p0) (fun _ t9 => va_P (dC, dI) classes [oc ra 8 [.int (nI T), .int (nI Ac), .ref (rA 2), .ref (rA 3), .ref (rA 4), .ref (rA 5), .ref (rA 6), .ref (rA 7), .ref (rA 8), .ref (rA 9), .ref (rA 10), .ref (rA 11), .ref (rA 12), .ref (rA 13), .int ir, .ref (rA 15), .ref (rA 16), .ref (rA 17), .ref (rA 18), .int (nI md), .int (nI wd), .ref (rA 21), .ref (rA 22), .ref (rA 23), .int (nI mn), .ref (rA 25), .int (nI cb), .int mr, .ref (rA 28), .ref (rA 29), .ref (rA 30), .ref (rA 31), .ref (rA 32), .ref (rA 33), .ref (rA 34), .ref (rA 35), .int (nI ld), .int (nI gm), .ref (rA 38), .ref (rA 39), .ref (rA 40), .ref (rA 41), .ref (rA 42), .ref (rA 43), .ref (rA 44), .ref (rA 45), .int (nI my), .ref (rA 47)], ia (rA 16) (rK9 16) 155 sf] t9.heap ∧ va_K (dC, dI) classes [] t9 ∧ va_D (va_A [oc ra 8 [.int (nI T), .int (nI Ac), .ref (rA 2), .ref (rA 3), .ref (rA 4), .ref (rA 5), .ref (rA 6), .ref (rA 7), .ref (rA 8), .ref (rA 9), .ref (rA 10), .ref (rA 11), .ref (rA 12), .ref (rA 13), .int ir, .ref (rA 15), .ref (rA 16), .ref (rA 17), .ref (rA 18), .int (nI md), .int (nI wd), .ref (rA 21), .ref (rA 22), .ref (rA 23), .int (nI mn), .ref (rA 25), .int (nI cb), .int mr, .ref (rA 28), .ref (rA 29), .ref (rA 30), .ref (rA 31), .ref (rA 32), .ref (rA 33), .ref (rA 34), .ref (rA 35), .int (nI ld), .int (nI gm), .ref (rA 38), .ref (rA 39), .ref (rA 40), .ref (rA 41), .ref (rA 42), .ref (rA 43), .ref (rA 44), .ref (rA 45), .int (nI my), .ref (rA 47)], ia (rA 16) (rK9 16) 155 sf] sz) [oc ra 8 [.int (nI T), .int (nI Ac), .ref (rA 2), .ref (rA 3), .ref (rA 4), .ref (rA 5), .ref (rA 6), .ref (rA 7), .ref (rA 8), .ref (rA 9), .ref (rA 10), .ref (rA 11), .ref (rA 12), .ref (rA 13), .int ir, .ref (rA 15), .ref (rA 16), .ref (rA 17), .ref (rA 18), .int (nI md), .int (nI wd), .ref (rA 21), .ref (rA 22), .ref (rA 23), .int (nI mn), .ref (rA 25), .int (nI cb), .int mr, .ref (rA 28), .ref (rA 29), .ref (rA 30), .ref (rA 31), .ref (rA 32), .ref (rA 33), .ref (rA 34), .ref (rA 35), .int (nI ld), .int (nI gm), .ref (rA 38), .ref (rA 39), .ref (rA 40), .ref (rA 41), .ref (rA 42), .ref (rA 43), .ref (rA 44), .ref (rA 45), .int (nI my), .ref (rA 47)], ia (rA 16) (rK9 16) 155 sf]) (va_A [oc ra 8 [.int (nI T), .int (nI Ac), .ref (rA 2), .ref (rA 3), .ref (rA 4), .ref (rA 5), .ref (rA 6), .ref (rA 7), .ref (rA 8), .ref (rA 9), .ref (rA 10), .ref (rA 11), .ref (rA 12), .ref (rA 13), .int ir, .ref (rA 15), .ref (rA 16), .ref (rA 17), .ref (rA 18), .int (nI md), .int (nI wd), .ref (rA 21), .ref (rA 22), .ref (rA 23), .int (nI mn), .ref (rA 25), .int (nI cb), .int mr, .ref (rA 28), .ref (rA 29), .ref (rA 30), .ref (rA 31), .ref (rA 32), .ref (rA 33), .ref (rA 34), .ref (rA 35), .int (nI ld), .int (nI gm), .ref (rA 38), .ref (rA 39), .ref (rA 40), .ref (rA 41), .ref (rA 42), .ref (rA 43), .ref (rA 44), .ref (rA 45), .int (nI my), .ref (rA 47)], ia (rA 16) (rK9 16) 155 sf] sz)) 0 0 (va_A [oc ra 8 [.int (nI T), .int (nI Ac), .ref (rA 2), .ref (rA 3), .ref (rA 4), .ref (rA 5), .ref (rA 6), .ref (rA 7), .ref (rA 8), .ref (rA 9), .ref (rA 10), .ref (rA 11), .ref (rA 12), .ref (rA 13), .int ir, .ref (rA 15), .ref (rA 16), .ref (rA 17), .ref (rA 18), .int (nI md), .int (nI wd), .ref (rA 21), .ref (rA 22), .ref (rA 23), .int (nI mn), .ref (rA 25), .int (nI cb), .int mr, .ref (rA 28), .ref (rA 29), .ref (rA 30), .ref (rA 31), .ref (rA 32), .ref (rA 33), .ref (rA 34), .ref (rA 35), .int (nI ld), .int (nI gm), .ref (rA 38), .ref (rA 39), .ref (rA 40), .ref (rA 41), .ref (rA 42), .ref (rA 43), .ref (rA 44), .ref (rA 45), .int (nI my), .ref (rA 47)], ia (rA 16) (rK9 16) 155 sf] sz) := by
  refine Met.ofW (cc := b_Ref_placeOf) (maxL := 4) (ret := (some .int)) (by decide) rfl ?_
  intro p e0 s m args below meth c s₁ B hml hv
  obtain ⟨rfl, hsz, hP, hK, hD0, hn⟩ := hv
  have hx := B.exec
  have hb := B.bytes
  have hr := B.returns
  have hw := fun w (h : w ∈ wt) => atoms_spec (ws := w_Ref_placeOf) B.pre w (List.mem_cons_of_mem _ h)
  have hown : s.vm.findClass R_Ref = some m.cls := findClass_of_methodNamed B.named
  have hlocks := B.notSynchronized
  subst hsz
  have hD1 := hD0.self (sz := s.heap.size)
  generalize hAe : va_A [oc ra 8 [.int (nI T), .int (nI Ac), .ref (rA 2), .ref (rA 3), .ref (rA 4), .ref (rA 5), .ref (rA 6), .ref (rA 7), .ref (rA 8), .ref (rA 9), .ref (rA 10), .ref (rA 11), .ref (rA 12), .ref (rA 13), .int ir, .ref (rA 15), .ref (rA 16), .ref (rA 17), .ref (rA 18), .int (nI md), .int (nI wd), .ref (rA 21), .ref (rA 22), .ref (rA 23), .int (nI mn), .ref (rA 25), .int (nI cb), .int mr, .ref (rA 28), .ref (rA 29), .ref (rA 30), .ref (rA 31), .ref (rA 32), .ref (rA 33), .ref (rA 34), .ref (rA 35), .int (nI ld), .int (nI gm), .ref (rA 38), .ref (rA 39), .ref (rA 40), .ref (rA 41), .ref (rA 42), .ref (rA 43), .ref (rA 44), .ref (rA 45), .int (nI my), .ref (rA 47)], ia (rA 16) (rK9 16) 155 sf] s.heap.size = A at hD1 ⊢
  have hA : ∀ q : Nat, s.heap.size ≤ q → A q := fun q h => by rw [← hAe]; exact Or.inr h
  have hD : dd A [ra, (rA 16)] := dd_of hD1 rfl
  clear hAe hD0 hD1
  have hS : va_S A s.heap s.heap [] := va_S.rf
  replace hP : va_P (dC, dI) classes [oc ra 8 [.int (nI T), .int (nI Ac), .ref (rA 2), .ref (rA 3), .ref (rA 4), .ref (rA 5), .ref (rA 6), .ref (rA 7), .ref (rA 8), .ref (rA 9), .ref (rA 10), .ref (rA 11), .ref (rA 12), .ref (rA 13), .int ir, .ref (rA 15), .ref (rA 16), .ref (rA 17), .ref (rA 18), .int (nI md), .int (nI wd), .ref (rA 21), .ref (rA 22), .ref (rA 23), .int (nI mn), .ref (rA 25), .int (nI cb), .int mr, .ref (rA 28), .ref (rA 29), .ref (rA 30), .ref (rA 31), .ref (rA 32), .ref (rA 33), .ref (rA 34), .ref (rA 35), .int (nI ld), .int (nI gm), .ref (rA 38), .ref (rA 39), .ref (rA 40), .ref (rA 41), .ref (rA 42), .ref (rA 43), .ref (rA 44), .ref (rA 45), .int (nI my), .ref (rA 47)], ia (rA 16) (rK9 16) 155 sf] s.heap := hP
  have hl := lv_entry ([.ref ra, .int (nI x), .int e9]) (n := 4) (Nat.le_of_ble_eq_true rfl)
  rw [lg_entry_eq]
  generalize (lg_sl ([.ref ra, .int (nI x), .int e9]) ++ List.replicate (4 - (lg_sl ([.ref ra, .int (nI x), .int e9])).length) Slot.unset).toArray = ls at hl ⊢
  replace hl : lv_has ls 4 [(0, .ref ra), (1, .int (nI x)), (2, .int e9)] := hl
  refine lv_iconst (v := 0) hx hb d_Ref_placeOf_0 (by decide) ?_
  refine lv_istore_n (lv' := [(3, .int 0), (0, .ref ra), (1, .int (nI x)), (2, .int e9)]) hx hb d_Ref_placeOf_1 rfl hl (by decide) rfl ?_
  clear hl ls
  intro ls hl
  replace hP : va_P (dC, dI) classes [oc ra 8 [.int (nI T), .int (nI Ac), .ref (rA 2), .ref (rA 3), .ref (rA 4), .ref (rA 5), .ref (rA 6), .ref (rA 7), .ref (rA 8), .ref (rA 9), .ref (rA 10), .ref (rA 11), .ref (rA 12), .ref (rA 13), .int ir, .ref (rA 15), .ref (rA 16), .ref (rA 17), .ref (rA 18), .int (nI md), .int (nI wd), .ref (rA 21), .ref (rA 22), .ref (rA 23), .int (nI mn), .ref (rA 25), .int (nI cb), .int mr, .ref (rA 28), .ref (rA 29), .ref (rA 30), .ref (rA 31), .ref (rA 32), .ref (rA 33), .ref (rA 34), .ref (rA 35), .int (nI ld), .int (nI gm), .ref (rA 38), .ref (rA 39), .ref (rA 40), .ref (rA 41), .ref (rA 42), .ref (rA 43), .ref (rA 44), .ref (rA 45), .int (nI my), .ref (rA 47)], ia (rA 16) (rK9 16) 155 sf] s.heap := hP
  replace hl : lv_has ls 4 [(3, .int (nI 0)), (0, .ref ra), (1, .int (nI x)), (2, .int e9)] := hl
  refine lp_n p0 (fun i1 H locs ls => va_P (dC, dI) classes [oc ra 8 [.int (nI T), .int (nI Ac), .ref (rA 2), .ref (rA 3), .ref (rA 4), .ref (rA 5), .ref (rA 6), .ref (rA 7), .ref (rA 8), .ref (rA 9), .ref (rA 10), .ref (rA 11), .ref (rA 12), .ref (rA 13), .int ir, .ref (rA 15), .ref (rA 16), .ref (rA 17), .ref (rA 18), .int (nI md), .int (nI wd), .ref (rA 21), .ref (rA 22), .ref (rA 23), .int (nI mn), .ref (rA 25), .int (nI cb), .int mr, .ref (rA 28), .ref (rA 29), .ref (rA 30), .ref (rA 31), .ref (rA 32), .ref (rA 33), .ref (rA 34), .ref (rA 35), .int (nI ld), .int (nI gm), .ref (rA 38), .ref (rA 39), .ref (rA 40), .ref (rA 41), .ref (rA 42), .ref (rA 43), .ref (rA 44), .ref (rA 45), .int (nI my), .ref (rA 47)], ia (rA 16) (rK9 16) 155 sf] H ∧ va_S A s.heap H locs ∧ lv_has ls 4 [(3, .int (nI i1)), (0, .ref ra), (1, .int (nI x)), (2, .int e9)]) ⟨hP, hS, hl⟩ ?_ ?_
  · intro i1 H locs ls hi1 hI ih_i1
    obtain ⟨hP, hS, hl⟩ := hI
    refine lv_aload_n hx hb d_Ref_placeOf_2 rfl (lv_at hl 1 rfl) ?_
    refine va_get (D := (dC, dI)) (ci := 8) (v := .ref (rA 16)) (C := R_Ref) (T := F_Ref) (N := 48) hx hb hw i_Ref hown hK hP 0 rfl rfl 16 (by decide) (hw _ m_915) (fun _ h9 => h9) rfl d_Ref_placeOf_3 ?_
    refine lv_bipush (v := 41) hx hb d_Ref_placeOf_6 (by decide) ?_
    refine lv_bipush (v := 8) hx hb d_Ref_placeOf_8 (by decide) ?_
    refine lv_iload_n hx hb d_Ref_placeOf_10 rfl (lv_at hl 2 rfl) ?_
    refine lv_imul hx hb d_Ref_placeOf_11 ?_
    refine tp_i (y := nI (8 * x)) (by exact pk_mul 8 x) ?_
    refine lv_iadd hx hb d_Ref_placeOf_12 ?_
    refine tp_i (y := nI (41 + (8 * x))) (by exact nI_add 41 (8 * x)) ?_
    refine lv_iload_n hx hb d_Ref_placeOf_13 rfl (lv_at hl 0 rfl) ?_
    refine lv_iadd hx hb d_Ref_placeOf_14 ?_
    refine tp_i (y := nI (41 + (8 * x) + i1)) (by exact nI_add (41 + (8 * x)) i1) ?_
    refine va_iald (D := (dC, dI)) hx hb hK hP 1 0 rfl rfl (i := nI (41 + (8 * x) + i1)) (pk_in (41 + (8 * x) + i1) 155 (by omega)) d_Ref_placeOf_15 ?_
    refine tp_i (y := sf (41 + (8 * x) + i1)) (by rw [show (nI (41 + (8 * x) + i1) : Int32).toNatClampNeg = 41 + (8 * x) + i1 from pk_cl (41 + (8 * x) + i1)]) ?_
    refine lv_iload_n hx hb d_Ref_placeOf_16 rfl (lv_at hl 3 rfl) ?_
    refine lv_icmp_eq (tgt := 26) hx hb d_Ref_placeOf_17 (by decide) (fun c9 => absurd c9 (hne i1 hi1)) (fun c9 => ?_)
    refine tp_pc (pc' := 20) (by rfl) ?_
    refine lv_iinc (v := nI (i1 + 1)) (lv' := [(3, .int (nI (i1 + 1))), (0, .ref ra), (1, .int (nI x)), (2, .int e9)]) hx hb d_Ref_placeOf_20 hl (k := 0) rfl (by exact nI_1 i1) (by decide) rfl ?_
    clear hl ls
    intro ls hl
    refine lv_goto (tgt := 2) hx hb d_Ref_placeOf_23 (by decide) ?_
    refine tp_pc (pc' := 2) (by rfl) ?_
    obtain ⟨hP8, -, -⟩ := cut3 (wc := [oc ra 8 [.int (nI T), .int (nI Ac), .ref (rA 2), .ref (rA 3), .ref (rA 4), .ref (rA 5), .ref (rA 6), .ref (rA 7), .ref (rA 8), .ref (rA 9), .ref (rA 10), .ref (rA 11), .ref (rA 12), .ref (rA 13), .int ir, .ref (rA 15), .ref (rA 16), .ref (rA 17), .ref (rA 18), .int (nI md), .int (nI wd), .ref (rA 21), .ref (rA 22), .ref (rA 23), .int (nI mn), .ref (rA 25), .int (nI cb), .int mr, .ref (rA 28), .ref (rA 29), .ref (rA 30), .ref (rA 31), .ref (rA 32), .ref (rA 33), .ref (rA 34), .ref (rA 35), .int (nI ld), .int (nI gm), .ref (rA 38), .ref (rA 39), .ref (rA 40), .ref (rA 41), .ref (rA 42), .ref (rA 43), .ref (rA 44), .ref (rA 45), .int (nI my), .ref (rA 47)], ia (rA 16) (rK9 16) 155 sf]) hP hD rfl hS hA [0, 1] (by decide +kernel) rfl
    exact ih_i1 _ _ _ ⟨hP8, hS, lv_sub hl [0, 1, 2, 3] rfl⟩
  · intro H locs ls hI
    obtain ⟨hP, hS, hl⟩ := hI
    refine lv_aload_n hx hb d_Ref_placeOf_2 rfl (lv_at hl 1 rfl) ?_
    refine va_get (D := (dC, dI)) (ci := 8) (v := .ref (rA 16)) (C := R_Ref) (T := F_Ref) (N := 48) hx hb hw i_Ref hown hK hP 0 rfl rfl 16 (by decide) (hw _ m_915) (fun _ h9 => h9) rfl d_Ref_placeOf_3 ?_
    refine lv_bipush (v := 41) hx hb d_Ref_placeOf_6 (by decide) ?_
    refine lv_bipush (v := 8) hx hb d_Ref_placeOf_8 (by decide) ?_
    refine lv_iload_n hx hb d_Ref_placeOf_10 rfl (lv_at hl 2 rfl) ?_
    refine lv_imul hx hb d_Ref_placeOf_11 ?_
    refine tp_i (y := nI (8 * x)) (by exact pk_mul 8 x) ?_
    refine lv_iadd hx hb d_Ref_placeOf_12 ?_
    refine tp_i (y := nI (41 + (8 * x))) (by exact nI_add 41 (8 * x)) ?_
    refine lv_iload_n hx hb d_Ref_placeOf_13 rfl (lv_at hl 0 rfl) ?_
    refine lv_iadd hx hb d_Ref_placeOf_14 ?_
    refine tp_i (y := nI (41 + (8 * x) + p0)) (by exact nI_add (41 + (8 * x)) p0) ?_
    refine va_iald (D := (dC, dI)) hx hb hK hP 1 0 rfl rfl (i := nI (41 + (8 * x) + p0)) (pk_in (41 + (8 * x) + p0) 155 (by omega)) d_Ref_placeOf_15 ?_
    refine tp_i (y := sf (41 + (8 * x) + p0)) (by rw [show (nI (41 + (8 * x) + p0) : Int32).toNatClampNeg = 41 + (8 * x) + p0 from pk_cl (41 + (8 * x) + p0)]) ?_
    refine lv_iload_n hx hb d_Ref_placeOf_16 rfl (lv_at hl 3 rfl) ?_
    refine lv_icmp_eq (tgt := 26) hx hb d_Ref_placeOf_17 (by decide) (fun c9 => ?_) (fun c9 => absurd hp0 c9)
    refine tp_pc (pc' := 26) (by rfl) ?_
    refine lv_iload_n hx hb d_Ref_placeOf_26 rfl (lv_at hl 0 rfl) ?_
    obtain ⟨hP9, hD9, -⟩ := cut3 (wc := [oc ra 8 [.int (nI T), .int (nI Ac), .ref (rA 2), .ref (rA 3), .ref (rA 4), .ref (rA 5), .ref (rA 6), .ref (rA 7), .ref (rA 8), .ref (rA 9), .ref (rA 10), .ref (rA 11), .ref (rA 12), .ref (rA 13), .int ir, .ref (rA 15), .ref (rA 16), .ref (rA 17), .ref (rA 18), .int (nI md), .int (nI wd), .ref (rA 21), .ref (rA 22), .ref (rA 23), .int (nI mn), .ref (rA 25), .int (nI cb), .int mr, .ref (rA 28), .ref (rA 29), .ref (rA 30), .ref (rA 31), .ref (rA 32), .ref (rA 33), .ref (rA 34), .ref (rA 35), .int (nI ld), .int (nI gm), .ref (rA 38), .ref (rA 39), .ref (rA 40), .ref (rA 41), .ref (rA 42), .ref (rA 43), .ref (rA 44), .ref (rA 45), .int (nI my), .ref (rA 47)], ia (rA 16) (rK9 16) 155 sf]) hP hD rfl hS hA [0, 1] (by decide +kernel) rfl
    have hK9 := hK.sub (tys' := []) [] rfl
    refine W.widen (k := 0) (n := 0) (by exact Nat.le_of_ble_eq_true rfl) (by exact Nat.le_of_ble_eq_true rfl) ?_
    exact W.iret (v := (nI p0)) hx hb hr (fun t9 ht9 hW => ⟨⟨nI p0, (), rfl, rfl, by rw [ht9]; exact hP9, va_K.moved hW.alike hK9, hD9⟩, hS.F ht9⟩) hS.2.2 d_Ref_placeOf_27
set_option maxHeartbeats 4000000 in
set_option maxRecDepth 100000 in
theorem gen_Ref_learn (l : Launch) (dC : Nat → ClassId) (dI : Nat → Nat → Nat) (ra : Nat) (rA : Nat → Nat) (rK9 : Nat → ClassId) (T Ac md wd mn cb ld gm my : Nat) (ir mr : Int32) (t wn : Nat) (pi pm : Nat → Nat) (sf : Nat → Int32) (ht : t < 4) (hwn : wn < 11) (hpi : ∀ y, y < 4 → pi y < 8 ∧ sf (41 + 8 * y + pi y) = sf (95 + 4 * wn + y) ∧ ∀ q, q < pi y → ¬ sf (41 + 8 * y + q) = sf (95 + 4 * wn + y)) (hpm : ∀ y, y < 4 → pm y < 8 ∧ sf (41 + 8 * y + pm y) = sf (139 + 4 * t + y) ∧ ∀ q, q < pm y → ¬ sf (41 + 8 * y + q) = sf (139 + 4 * t + y)) (sz : Nat) : Met l y_Ref_learn w_Ref_learn ({ frames := 1, cells := 0, slots := 0, locals := 40 }) (va_Pc [.ref ra, .int (nI t), .int (nI wn)] (fun U => U.heap.size = sz ∧ va_P (dC, dI) classes [oc ra 8 [.int (nI T), .int (nI Ac), .ref (rA 2), .ref (rA 3), .ref (rA 4), .ref (rA 5), .ref (rA 6), .ref (rA 7), .ref (rA 8), .ref (rA 9), .ref (rA 10), .ref (rA 11), .ref (rA 12), .ref (rA 13), .int ir, .ref (rA 15), .ref (rA 16), .ref (rA 17), .ref (rA 18), .int (nI md), .int (nI wd), .ref (rA 21), .ref (rA 22), .ref (rA 23), .int (nI mn), .ref (rA 25), .int (nI cb), .int mr, .ref (rA 28), .ref (rA 29), .ref (rA 30), .ref (rA 31), .ref (rA 32), .ref (rA 33), .ref (rA 34), .ref (rA 35), .int (nI ld), .int (nI gm), .ref (rA 38), .ref (rA 39), .ref (rA 40), .ref (rA 41), .ref (rA 42), .ref (rA 43), .ref (rA 44), .ref (rA 45), .int (nI my), .ref (rA 47)], ia (rA 16) (rK9 16) 155 sf] U.heap ∧ va_K (dC, dI) classes [((rK9 16), .int)] U ∧ va_D (fun _ => True) [oc ra 8 [.int (nI T), .int (nI Ac), .ref (rA 2), .ref (rA 3), .ref (rA 4), .ref (rA 5), .ref (rA 6), .ref (rA 7), .ref (rA 8), .ref (rA 9), .ref (rA 10), .ref (rA 11), .ref (rA 12), .ref (rA 13), .int ir, .ref (rA 15), .ref (rA 16), .ref (rA 17), .ref (rA 18), .int (nI md), .int (nI wd), .ref (rA 21), .ref (rA 22), .ref (rA 23), .int (nI mn), .ref (rA 25), .int (nI cb), .int mr, .ref (rA 28), .ref (rA 29), .ref (rA 30), .ref (rA 31), .ref (rA 32), .ref (rA 33), .ref (rA 34), .ref (rA 35), .int (nI ld), .int (nI gm), .ref (rA 38), .ref (rA 39), .ref (rA 40), .ref (rA 41), .ref (rA 42), .ref (rA 43), .ref (rA 44), .ref (rA 45), .int (nI my), .ref (rA 47)], ia (rA 16) (rK9 16) 155 sf] ∧ nw U)) (va_Qv (fun _ : Unit => True) (fun _ t9 => va_P (dC, dI) classes [oc ra 8 [.int (nI T), .int (nI Ac), .ref (rA 2), .ref (rA 3), .ref (rA 4), .ref (rA 5), .ref (rA 6), .ref (rA 7), .ref (rA 8), .ref (rA 9), .ref (rA 10), .ref (rA 11), .ref (rA 12), .ref (rA 13), .int ir, .ref (rA 15), .ref (rA 16), .ref (rA 17), .ref (rA 18), .int (nI md), .int (nI wd), .ref (rA 21), .ref (rA 22), .ref (rA 23), .int (nI mn), .ref (rA 25), .int (nI cb), .int mr, .ref (rA 28), .ref (rA 29), .ref (rA 30), .ref (rA 31), .ref (rA 32), .ref (rA 33), .ref (rA 34), .ref (rA 35), .int (nI ld), .int (nI gm), .ref (rA 38), .ref (rA 39), .ref (rA 40), .ref (rA 41), .ref (rA 42), .ref (rA 43), .ref (rA 44), .ref (rA 45), .int (nI my), .ref (rA 47)], ia (rA 16) (rK9 16) 155 (lnF sf t wn pi pm 4)] t9.heap ∧ va_K (dC, dI) classes [] t9 ∧ va_D (va_A [oc ra 8 [.int (nI T), .int (nI Ac), .ref (rA 2), .ref (rA 3), .ref (rA 4), .ref (rA 5), .ref (rA 6), .ref (rA 7), .ref (rA 8), .ref (rA 9), .ref (rA 10), .ref (rA 11), .ref (rA 12), .ref (rA 13), .int ir, .ref (rA 15), .ref (rA 16), .ref (rA 17), .ref (rA 18), .int (nI md), .int (nI wd), .ref (rA 21), .ref (rA 22), .ref (rA 23), .int (nI mn), .ref (rA 25), .int (nI cb), .int mr, .ref (rA 28), .ref (rA 29), .ref (rA 30), .ref (rA 31), .ref (rA 32), .ref (rA 33), .ref (rA 34), .ref (rA 35), .int (nI ld), .int (nI gm), .ref (rA 38), .ref (rA 39), .ref (rA 40), .ref (rA 41), .ref (rA 42), .ref (rA 43), .ref (rA 44), .ref (rA 45), .int (nI my), .ref (rA 47)], ia (rA 16) (rK9 16) 155 sf] sz) [oc ra 8 [.int (nI T), .int (nI Ac), .ref (rA 2), .ref (rA 3), .ref (rA 4), .ref (rA 5), .ref (rA 6), .ref (rA 7), .ref (rA 8), .ref (rA 9), .ref (rA 10), .ref (rA 11), .ref (rA 12), .ref (rA 13), .int ir, .ref (rA 15), .ref (rA 16), .ref (rA 17), .ref (rA 18), .int (nI md), .int (nI wd), .ref (rA 21), .ref (rA 22), .ref (rA 23), .int (nI mn), .ref (rA 25), .int (nI cb), .int mr, .ref (rA 28), .ref (rA 29), .ref (rA 30), .ref (rA 31), .ref (rA 32), .ref (rA 33), .ref (rA 34), .ref (rA 35), .int (nI ld), .int (nI gm), .ref (rA 38), .ref (rA 39), .ref (rA 40), .ref (rA 41), .ref (rA 42), .ref (rA 43), .ref (rA 44), .ref (rA 45), .int (nI my), .ref (rA 47)], ia (rA 16) (rK9 16) 155 (lnF sf t wn pi pm 4)]) (va_A [oc ra 8 [.int (nI T), .int (nI Ac), .ref (rA 2), .ref (rA 3), .ref (rA 4), .ref (rA 5), .ref (rA 6), .ref (rA 7), .ref (rA 8), .ref (rA 9), .ref (rA 10), .ref (rA 11), .ref (rA 12), .ref (rA 13), .int ir, .ref (rA 15), .ref (rA 16), .ref (rA 17), .ref (rA 18), .int (nI md), .int (nI wd), .ref (rA 21), .ref (rA 22), .ref (rA 23), .int (nI mn), .ref (rA 25), .int (nI cb), .int mr, .ref (rA 28), .ref (rA 29), .ref (rA 30), .ref (rA 31), .ref (rA 32), .ref (rA 33), .ref (rA 34), .ref (rA 35), .int (nI ld), .int (nI gm), .ref (rA 38), .ref (rA 39), .ref (rA 40), .ref (rA 41), .ref (rA 42), .ref (rA 43), .ref (rA 44), .ref (rA 45), .int (nI my), .ref (rA 47)], ia (rA 16) (rK9 16) 155 sf] sz)) 0 0 (va_A [oc ra 8 [.int (nI T), .int (nI Ac), .ref (rA 2), .ref (rA 3), .ref (rA 4), .ref (rA 5), .ref (rA 6), .ref (rA 7), .ref (rA 8), .ref (rA 9), .ref (rA 10), .ref (rA 11), .ref (rA 12), .ref (rA 13), .int ir, .ref (rA 15), .ref (rA 16), .ref (rA 17), .ref (rA 18), .int (nI md), .int (nI wd), .ref (rA 21), .ref (rA 22), .ref (rA 23), .int (nI mn), .ref (rA 25), .int (nI cb), .int mr, .ref (rA 28), .ref (rA 29), .ref (rA 30), .ref (rA 31), .ref (rA 32), .ref (rA 33), .ref (rA 34), .ref (rA 35), .int (nI ld), .int (nI gm), .ref (rA 38), .ref (rA 39), .ref (rA 40), .ref (rA 41), .ref (rA 42), .ref (rA 43), .ref (rA 44), .ref (rA 45), .int (nI my), .ref (rA 47)], ia (rA 16) (rK9 16) 155 sf] sz) := by
  refine Met.ofW (cc := b_Ref_learn) (maxL := 6) (ret := none) (by decide) rfl ?_
  intro p e0 s m args below meth c s₁ B hml hv
  obtain ⟨rfl, hsz, hP, hK, hD0, hn⟩ := hv
  have hx := B.exec
  have hb := B.bytes
  have hr := B.returns
  have hw := fun w (h : w ∈ wt) => atoms_spec (ws := w_Ref_learn) B.pre w (List.mem_cons_of_mem _ h)
  have hown : s.vm.findClass R_Ref = some m.cls := findClass_of_methodNamed B.named
  have hlocks := B.notSynchronized
  subst hsz
  have hD1 := hD0.self (sz := s.heap.size)
  generalize hAe : va_A [oc ra 8 [.int (nI T), .int (nI Ac), .ref (rA 2), .ref (rA 3), .ref (rA 4), .ref (rA 5), .ref (rA 6), .ref (rA 7), .ref (rA 8), .ref (rA 9), .ref (rA 10), .ref (rA 11), .ref (rA 12), .ref (rA 13), .int ir, .ref (rA 15), .ref (rA 16), .ref (rA 17), .ref (rA 18), .int (nI md), .int (nI wd), .ref (rA 21), .ref (rA 22), .ref (rA 23), .int (nI mn), .ref (rA 25), .int (nI cb), .int mr, .ref (rA 28), .ref (rA 29), .ref (rA 30), .ref (rA 31), .ref (rA 32), .ref (rA 33), .ref (rA 34), .ref (rA 35), .int (nI ld), .int (nI gm), .ref (rA 38), .ref (rA 39), .ref (rA 40), .ref (rA 41), .ref (rA 42), .ref (rA 43), .ref (rA 44), .ref (rA 45), .int (nI my), .ref (rA 47)], ia (rA 16) (rK9 16) 155 sf] s.heap.size = A at hD1 ⊢
  have hA : ∀ q : Nat, s.heap.size ≤ q → A q := fun q h => by rw [← hAe]; exact Or.inr h
  have hD : dd A [ra, (rA 16)] := dd_of hD1 rfl
  clear hAe hD0 hD1
  have hS : va_S A s.heap s.heap [] := va_S.rf
  replace hP : va_P (dC, dI) classes [oc ra 8 [.int (nI T), .int (nI Ac), .ref (rA 2), .ref (rA 3), .ref (rA 4), .ref (rA 5), .ref (rA 6), .ref (rA 7), .ref (rA 8), .ref (rA 9), .ref (rA 10), .ref (rA 11), .ref (rA 12), .ref (rA 13), .int ir, .ref (rA 15), .ref (rA 16), .ref (rA 17), .ref (rA 18), .int (nI md), .int (nI wd), .ref (rA 21), .ref (rA 22), .ref (rA 23), .int (nI mn), .ref (rA 25), .int (nI cb), .int mr, .ref (rA 28), .ref (rA 29), .ref (rA 30), .ref (rA 31), .ref (rA 32), .ref (rA 33), .ref (rA 34), .ref (rA 35), .int (nI ld), .int (nI gm), .ref (rA 38), .ref (rA 39), .ref (rA 40), .ref (rA 41), .ref (rA 42), .ref (rA 43), .ref (rA 44), .ref (rA 45), .int (nI my), .ref (rA 47)], ia (rA 16) (rK9 16) 155 sf] s.heap := hP
  have hl := lv_entry ([.ref ra, .int (nI t), .int (nI wn)]) (n := 6) (Nat.le_of_ble_eq_true rfl)
  rw [lg_entry_eq]
  generalize (lg_sl ([.ref ra, .int (nI t), .int (nI wn)]) ++ List.replicate (6 - (lg_sl ([.ref ra, .int (nI t), .int (nI wn)])).length) Slot.unset).toArray = ls at hl ⊢
  replace hl : lv_has ls 6 [(0, .ref ra), (1, .int (nI t)), (2, .int (nI wn))] := hl
  refine lv_iconst (v := 0) hx hb d_Ref_learn_0 (by decide) ?_
  refine lv_istore_n (lv' := [(3, .int 0), (0, .ref ra), (1, .int (nI t)), (2, .int (nI wn))]) hx hb d_Ref_learn_1 rfl hl (by decide) rfl ?_
  clear hl ls
  intro ls hl
  replace hP : va_P (dC, dI) classes [oc ra 8 [.int (nI T), .int (nI Ac), .ref (rA 2), .ref (rA 3), .ref (rA 4), .ref (rA 5), .ref (rA 6), .ref (rA 7), .ref (rA 8), .ref (rA 9), .ref (rA 10), .ref (rA 11), .ref (rA 12), .ref (rA 13), .int ir, .ref (rA 15), .ref (rA 16), .ref (rA 17), .ref (rA 18), .int (nI md), .int (nI wd), .ref (rA 21), .ref (rA 22), .ref (rA 23), .int (nI mn), .ref (rA 25), .int (nI cb), .int mr, .ref (rA 28), .ref (rA 29), .ref (rA 30), .ref (rA 31), .ref (rA 32), .ref (rA 33), .ref (rA 34), .ref (rA 35), .int (nI ld), .int (nI gm), .ref (rA 38), .ref (rA 39), .ref (rA 40), .ref (rA 41), .ref (rA 42), .ref (rA 43), .ref (rA 44), .ref (rA 45), .int (nI my), .ref (rA 47)], ia (rA 16) (rK9 16) 155 (lnF sf t wn pi pm 0)] s.heap := hP
  replace hl : lv_has ls 6 [(3, .int (nI 0)), (0, .ref ra), (1, .int (nI t)), (2, .int (nI wn))] := hl
  refine lp_n 4 (fun y1 H locs ls => va_P (dC, dI) classes [oc ra 8 [.int (nI T), .int (nI Ac), .ref (rA 2), .ref (rA 3), .ref (rA 4), .ref (rA 5), .ref (rA 6), .ref (rA 7), .ref (rA 8), .ref (rA 9), .ref (rA 10), .ref (rA 11), .ref (rA 12), .ref (rA 13), .int ir, .ref (rA 15), .ref (rA 16), .ref (rA 17), .ref (rA 18), .int (nI md), .int (nI wd), .ref (rA 21), .ref (rA 22), .ref (rA 23), .int (nI mn), .ref (rA 25), .int (nI cb), .int mr, .ref (rA 28), .ref (rA 29), .ref (rA 30), .ref (rA 31), .ref (rA 32), .ref (rA 33), .ref (rA 34), .ref (rA 35), .int (nI ld), .int (nI gm), .ref (rA 38), .ref (rA 39), .ref (rA 40), .ref (rA 41), .ref (rA 42), .ref (rA 43), .ref (rA 44), .ref (rA 45), .int (nI my), .ref (rA 47)], ia (rA 16) (rK9 16) 155 (lnF sf t wn pi pm y1)] H ∧ va_S A s.heap H locs ∧ lv_has ls 6 [(3, .int (nI y1)), (0, .ref ra), (1, .int (nI t)), (2, .int (nI wn))]) ⟨hP, hS, hl⟩ ?_ ?_
  · intro y1 H locs ls hy1 hI ih_y1
    obtain ⟨hP, hS, hl⟩ := hI
    refine lv_iload_n hx hb d_Ref_learn_2 rfl (lv_at hl 0 rfl) ?_
    refine lv_iconst (v := 4) hx hb d_Ref_learn_3 (by decide) ?_
    refine lv_icmp_ge (tgt := 77) hx hb d_Ref_learn_4 (by decide) (fun c9 => absurd c9 (nI_ge (a := y1) (b := 4) hy1 (by decide))) (fun c9 => ?_)
    obtain ⟨i1, i2, i3⟩ := hpi y1 hy1
    obtain ⟨j1, j2, j3⟩ := hpm y1 hy1
    have fo : ∀ k, k < 139 → lnF sf t wn pi pm y1 k = sf k := fun k hk => lnF_o y1 (by omega)
    refine tp_pc (pc' := 7) (by rfl) ?_
    refine lv_aload_n hx hb d_Ref_learn_7 rfl (lv_at hl 1 rfl) ?_
    refine va_get (D := (dC, dI)) (ci := 8) (v := .ref (rA 16)) (C := R_Ref) (T := F_Ref) (N := 48) hx hb hw i_Ref hown hK hP 0 rfl rfl 16 (by decide) (hw _ m_915) (fun _ h9 => h9) rfl d_Ref_learn_8 ?_
    refine lv_sipush (v := 139) hx hb d_Ref_learn_11 (by decide) ?_
    refine lv_iconst (v := 4) hx hb d_Ref_learn_14 (by decide) ?_
    refine lv_iload_n hx hb d_Ref_learn_15 rfl (lv_at hl 2 rfl) ?_
    refine lv_imul hx hb d_Ref_learn_16 ?_
    refine tp_i (y := nI (4 * t)) (by exact pk_mul 4 t) ?_
    refine lv_iadd hx hb d_Ref_learn_17 ?_
    refine tp_i (y := nI (139 + (4 * t))) (by exact nI_add 139 (4 * t)) ?_
    refine lv_iload_n hx hb d_Ref_learn_18 rfl (lv_at hl 0 rfl) ?_
    refine lv_iadd hx hb d_Ref_learn_19 ?_
    refine tp_i (y := nI (139 + (4 * t) + y1)) (by exact nI_add (139 + (4 * t)) y1) ?_
    refine va_iald (D := (dC, dI)) hx hb hK hP 1 0 rfl rfl (i := nI (139 + (4 * t) + y1)) (pk_in (139 + (4 * t) + y1) 155 (by omega)) d_Ref_learn_20 ?_
    refine tp_i (y := (lnF sf t wn pi pm y1) (139 + (4 * t) + y1)) (by rw [show (nI (139 + (4 * t) + y1) : Int32).toNatClampNeg = 139 + (4 * t) + y1 from pk_cl (139 + (4 * t) + y1)]) ?_
    refine tp_i (y := sf (139 + 4 * t + y1)) (lnF_o y1 (by omega)) ?_
    refine lv_istore (lv' := [(4, .int (sf (139 + 4 * t + y1))), (3, .int (nI y1)), (0, .ref ra), (1, .int (nI t)), (2, .int (nI wn))]) hx hb d_Ref_learn_21 hl (by decide) rfl ?_
    clear hl ls
    intro ls hl
    refine lv_aload_n hx hb d_Ref_learn_23 rfl (lv_at hl 2 rfl) ?_
    refine va_get (D := (dC, dI)) (ci := 8) (v := .ref (rA 16)) (C := R_Ref) (T := F_Ref) (N := 48) hx hb hw i_Ref hown hK hP 0 rfl rfl 16 (by decide) (hw _ m_915) (fun _ h9 => h9) rfl d_Ref_learn_24 ?_
    refine lv_bipush (v := 95) hx hb d_Ref_learn_27 (by decide) ?_
    refine lv_iconst (v := 4) hx hb d_Ref_learn_29 (by decide) ?_
    refine lv_iload_n hx hb d_Ref_learn_30 rfl (lv_at hl 4 rfl) ?_
    refine lv_imul hx hb d_Ref_learn_31 ?_
    refine tp_i (y := nI (4 * wn)) (by exact pk_mul 4 wn) ?_
    refine lv_iadd hx hb d_Ref_learn_32 ?_
    refine tp_i (y := nI (95 + (4 * wn))) (by exact nI_add 95 (4 * wn)) ?_
    refine lv_iload_n hx hb d_Ref_learn_33 rfl (lv_at hl 1 rfl) ?_
    refine lv_iadd hx hb d_Ref_learn_34 ?_
    refine tp_i (y := nI (95 + (4 * wn) + y1)) (by exact nI_add (95 + (4 * wn)) y1) ?_
    refine va_iald (D := (dC, dI)) hx hb hK hP 1 0 rfl rfl (i := nI (95 + (4 * wn) + y1)) (pk_in (95 + (4 * wn) + y1) 155 (by omega)) d_Ref_learn_35 ?_
    refine tp_i (y := (lnF sf t wn pi pm y1) (95 + (4 * wn) + y1)) (by rw [show (nI (95 + (4 * wn) + y1) : Int32).toNatClampNeg = 95 + (4 * wn) + y1 from pk_cl (95 + (4 * wn) + y1)]) ?_
    refine tp_i (y := sf (95 + 4 * wn + y1)) (fo _ (by omega)) ?_
    refine lv_istore (lv' := [(5, .int (sf (95 + 4 * wn + y1))), (4, .int (sf (139 + 4 * t + y1))), (3, .int (nI y1)), (0, .ref ra), (1, .int (nI t)), (2, .int (nI wn))]) hx hb d_Ref_learn_36 hl (by decide) rfl ?_
    clear hl ls
    intro ls hl
    refine lv_aload_n hx hb d_Ref_learn_38 rfl (lv_at hl 3 rfl) ?_
    refine lv_iload_n hx hb d_Ref_learn_39 rfl (lv_at hl 2 rfl) ?_
    refine lv_iload hx hb d_Ref_learn_40 (lv_at hl 0 rfl) ?_
    obtain ⟨hPc, hDc, hFc⟩ := cut3 (wc := [oc ra 8 [.int (nI T), .int (nI Ac), .ref (rA 2), .ref (rA 3), .ref (rA 4), .ref (rA 5), .ref (rA 6), .ref (rA 7), .ref (rA 8), .ref (rA 9), .ref (rA 10), .ref (rA 11), .ref (rA 12), .ref (rA 13), .int ir, .ref (rA 15), .ref (rA 16), .ref (rA 17), .ref (rA 18), .int (nI md), .int (nI wd), .ref (rA 21), .ref (rA 22), .ref (rA 23), .int (nI mn), .ref (rA 25), .int (nI cb), .int mr, .ref (rA 28), .ref (rA 29), .ref (rA 30), .ref (rA 31), .ref (rA 32), .ref (rA 33), .ref (rA 34), .ref (rA 35), .int (nI ld), .int (nI gm), .ref (rA 38), .ref (rA 39), .ref (rA 40), .ref (rA 41), .ref (rA 42), .ref (rA 43), .ref (rA 44), .ref (rA 45), .int (nI my), .ref (rA 47)], ia (rA 16) (rK9 16) 155 (lnF sf t wn pi pm y1)]) hP hD rfl hS hA [0, 1] (by decide +kernel) rfl
    have hKc := hK.sub (tys' := [((rK9 16), .int)]) [0] rfl
    refine va_calli (va_runV (As := [.int (nI y1), .int (sf (95 + 4 * wn + y1))]) (rest := []) ⟨hx, hb, hml, hown, hw⟩ (gen_Ref_placeOf l dC dI ra rA rK9 T Ac md wd mn cb ld gm my ir mr y1 (pi y1) (sf (95 + 4 * wn + y1)) (lnF sf t wn pi pm y1) hy1 i1 (by rw [fo _ (by omega)]; exact i2) (fun q hq => by rw [fo _ (by omega)]; exact i3 q hq) H.size) (cw_V 2 hw g_Ref_placeOf rfl rfl rfl (hw _ m_109) (hw _ m_1101) (hw _ m_1103) (hw _ m_60) (by decide +kernel) ⟨Nat.le_of_ble_eq_true rfl, Nat.le_of_ble_eq_true rfl⟩) ⟨fun a U g mk q => by obtain ⟨q0, q1, qP, qK, qD, qN⟩ := q; exact ⟨q0, q1, qP, va_K.moved (u := U) (U := U.calling g mk a) (Vm.Alike.refl U.vm) qK, qD, nw_call qN⟩, va_recv hKc hPc (ci := 8) (q0 := 0) rfl rfl, fun U hU hW => ⟨rfl, by rw [hU], by rw [hU]; exact hPc, va_K.moved hW.alike hKc, hDc.weaken (fun _ _ _ _ => trivial), nw_warm hW hn⟩⟩ rfl rfl hl.1 rfl (lv_room (Nat.le_of_ble_eq_true rfl)) d_Ref_learn_42 ⟨Nat.le_of_ble_eq_true rfl, Nat.le_of_ble_eq_true rfl⟩) hS (fun q _ h => hFc q h) hFc ?_
    intro r_1 u t9 H1 locs1 ht9 hvm hw1 hB hz1 hk1 hS1
    obtain ⟨hP1, hK1, hD1⟩ := hB
    rw [ht9] at hP1
    replace hK1 := va_K.moved hvm.symm hK1
    have hPD := join3 hP hD rfl [0, 1] [] rfl (by rfl) (by decide +kernel) (by decide +kernel) hk1 hFc hP1 hD1
    replace hK : va_K (dC, dI) classes [((rK9 16), .int)] s := hK.app hK1
    clear hP1 hK1 hD1 hk1 hz1 hFc hKc hDc hPc hvm ht9 hP hS t9 locs H
    have hP : va_P (dC, dI) classes [oc ra 8 [.int (nI T), .int (nI Ac), .ref (rA 2), .ref (rA 3), .ref (rA 4), .ref (rA 5), .ref (rA 6), .ref (rA 7), .ref (rA 8), .ref (rA 9), .ref (rA 10), .ref (rA 11), .ref (rA 12), .ref (rA 13), .int ir, .ref (rA 15), .ref (rA 16), .ref (rA 17), .ref (rA 18), .int (nI md), .int (nI wd), .ref (rA 21), .ref (rA 22), .ref (rA 23), .int (nI mn), .ref (rA 25), .int (nI cb), .int mr, .ref (rA 28), .ref (rA 29), .ref (rA 30), .ref (rA 31), .ref (rA 32), .ref (rA 33), .ref (rA 34), .ref (rA 35), .int (nI ld), .int (nI gm), .ref (rA 38), .ref (rA 39), .ref (rA 40), .ref (rA 41), .ref (rA 42), .ref (rA 43), .ref (rA 44), .ref (rA 45), .int (nI my), .ref (rA 47)], ia (rA 16) (rK9 16) 155 (lnF sf t wn pi pm y1)] H1 := hPD.1
    replace hD : dd A [ra, (rA 16)] := dd_of hPD.2 rfl
    clear hPD
    revert H1 locs1
    intro H locs hS hP
    refine tp_i (y := nI (pi y1)) (hw1) ?_
    clear hw1 r_1 u
    refine tp_pc (pc' := 45) (by rfl) ?_
    refine lv_aload_n hx hb d_Ref_learn_45 rfl (lv_at hl 3 rfl) ?_
    refine lv_iload_n hx hb d_Ref_learn_46 rfl (lv_at hl 2 rfl) ?_
    refine lv_iload hx hb d_Ref_learn_47 (lv_at hl 1 rfl) ?_
    obtain ⟨hPc, hDc, hFc⟩ := cut3 (wc := [oc ra 8 [.int (nI T), .int (nI Ac), .ref (rA 2), .ref (rA 3), .ref (rA 4), .ref (rA 5), .ref (rA 6), .ref (rA 7), .ref (rA 8), .ref (rA 9), .ref (rA 10), .ref (rA 11), .ref (rA 12), .ref (rA 13), .int ir, .ref (rA 15), .ref (rA 16), .ref (rA 17), .ref (rA 18), .int (nI md), .int (nI wd), .ref (rA 21), .ref (rA 22), .ref (rA 23), .int (nI mn), .ref (rA 25), .int (nI cb), .int mr, .ref (rA 28), .ref (rA 29), .ref (rA 30), .ref (rA 31), .ref (rA 32), .ref (rA 33), .ref (rA 34), .ref (rA 35), .int (nI ld), .int (nI gm), .ref (rA 38), .ref (rA 39), .ref (rA 40), .ref (rA 41), .ref (rA 42), .ref (rA 43), .ref (rA 44), .ref (rA 45), .int (nI my), .ref (rA 47)], ia (rA 16) (rK9 16) 155 (lnF sf t wn pi pm y1)]) hP hD rfl hS hA [0, 1] (by decide +kernel) rfl
    have hKc := hK.sub (tys' := [((rK9 16), .int)]) [0] rfl
    refine va_calli (va_runV (As := [.int (nI y1), .int (sf (139 + 4 * t + y1))]) (rest := [.int (nI (pi y1))]) ⟨hx, hb, hml, hown, hw⟩ (gen_Ref_placeOf l dC dI ra rA rK9 T Ac md wd mn cb ld gm my ir mr y1 (pm y1) (sf (139 + 4 * t + y1)) (lnF sf t wn pi pm y1) hy1 j1 (by rw [fo _ (by omega)]; exact j2) (fun q hq => by rw [fo _ (by omega)]; exact j3 q hq) H.size) (cw_V 2 hw g_Ref_placeOf rfl rfl rfl (hw _ m_109) (hw _ m_1101) (hw _ m_1103) (hw _ m_60) (by decide +kernel) ⟨Nat.le_of_ble_eq_true rfl, Nat.le_of_ble_eq_true rfl⟩) ⟨fun a U g mk q => by obtain ⟨q0, q1, qP, qK, qD, qN⟩ := q; exact ⟨q0, q1, qP, va_K.moved (u := U) (U := U.calling g mk a) (Vm.Alike.refl U.vm) qK, qD, nw_call qN⟩, va_recv hKc hPc (ci := 8) (q0 := 0) rfl rfl, fun U hU hW => ⟨rfl, by rw [hU], by rw [hU]; exact hPc, va_K.moved hW.alike hKc, hDc.weaken (fun _ _ _ _ => trivial), nw_warm hW hn⟩⟩ rfl rfl hl.1 rfl (lv_room (Nat.le_of_ble_eq_true rfl)) d_Ref_learn_49 ⟨Nat.le_of_ble_eq_true rfl, Nat.le_of_ble_eq_true rfl⟩) hS (fun q _ h => hFc q h) hFc ?_
    intro r_2 u t9 H1 locs1 ht9 hvm hw1 hB hz1 hk1 hS1
    obtain ⟨hP1, hK1, hD1⟩ := hB
    rw [ht9] at hP1
    replace hK1 := va_K.moved hvm.symm hK1
    have hPD := join3 hP hD rfl [0, 1] [] rfl (by rfl) (by decide +kernel) (by decide +kernel) hk1 hFc hP1 hD1
    replace hK : va_K (dC, dI) classes [((rK9 16), .int)] s := hK.app hK1
    clear hP1 hK1 hD1 hk1 hz1 hFc hKc hDc hPc hvm ht9 hP hS t9 locs H
    have hP : va_P (dC, dI) classes [oc ra 8 [.int (nI T), .int (nI Ac), .ref (rA 2), .ref (rA 3), .ref (rA 4), .ref (rA 5), .ref (rA 6), .ref (rA 7), .ref (rA 8), .ref (rA 9), .ref (rA 10), .ref (rA 11), .ref (rA 12), .ref (rA 13), .int ir, .ref (rA 15), .ref (rA 16), .ref (rA 17), .ref (rA 18), .int (nI md), .int (nI wd), .ref (rA 21), .ref (rA 22), .ref (rA 23), .int (nI mn), .ref (rA 25), .int (nI cb), .int mr, .ref (rA 28), .ref (rA 29), .ref (rA 30), .ref (rA 31), .ref (rA 32), .ref (rA 33), .ref (rA 34), .ref (rA 35), .int (nI ld), .int (nI gm), .ref (rA 38), .ref (rA 39), .ref (rA 40), .ref (rA 41), .ref (rA 42), .ref (rA 43), .ref (rA 44), .ref (rA 45), .int (nI my), .ref (rA 47)], ia (rA 16) (rK9 16) 155 (lnF sf t wn pi pm y1)] H1 := hPD.1
    replace hD : dd A [ra, (rA 16)] := dd_of hPD.2 rfl
    clear hPD
    revert H1 locs1
    intro H locs hS hP
    refine tp_i (y := nI (pm y1)) (hw1) ?_
    clear hw1 r_2 u
    refine tp_pc (pc' := 52) (by rfl) ?_
    refine lv_icmp_le (tgt := 71) hx hb d_Ref_learn_52 (by decide) (fun c1 => ?_) (fun c1 => ?_)
    · skip
      have hc1 : pi y1 ≤ pm y1 := (nI_leI (a := pi y1) (b := pm y1) (by omega) (by omega)).mp c1
      rw [show lnF sf t wn pi pm y1 = lnF sf t wn pi pm (y1 + 1) from by rw [lnF, if_neg (by omega)]] at hP
      replace hP : va_P (dC, dI) classes [oc ra 8 [.int (nI T), .int (nI Ac), .ref (rA 2), .ref (rA 3), .ref (rA 4), .ref (rA 5), .ref (rA 6), .ref (rA 7), .ref (rA 8), .ref (rA 9), .ref (rA 10), .ref (rA 11), .ref (rA 12), .ref (rA 13), .int ir, .ref (rA 15), .ref (rA 16), .ref (rA 17), .ref (rA 18), .int (nI md), .int (nI wd), .ref (rA 21), .ref (rA 22), .ref (rA 23), .int (nI mn), .ref (rA 25), .int (nI cb), .int mr, .ref (rA 28), .ref (rA 29), .ref (rA 30), .ref (rA 31), .ref (rA 32), .ref (rA 33), .ref (rA 34), .ref (rA 35), .int (nI ld), .int (nI gm), .ref (rA 38), .ref (rA 39), .ref (rA 40), .ref (rA 41), .ref (rA 42), .ref (rA 43), .ref (rA 44), .ref (rA 45), .int (nI my), .ref (rA 47)], ia (rA 16) (rK9 16) 155 (lnF sf t wn pi pm (y1 + 1))] H := hP
      refine tp_pc (pc' := 71) (by rfl) ?_
      refine lv_iinc (v := nI (y1 + 1)) (lv' := [(3, .int (nI (y1 + 1))), (5, .int (sf (95 + 4 * wn + y1))), (4, .int (sf (139 + 4 * t + y1))), (0, .ref ra), (1, .int (nI t)), (2, .int (nI wn))]) hx hb d_Ref_learn_71 hl (k := 2) rfl (by exact nI_1 y1) (by decide) rfl ?_
      clear hl ls
      intro ls hl
      refine lv_goto (tgt := 2) hx hb d_Ref_learn_74 (by decide) ?_
      refine tp_pc (pc' := 2) (by rfl) ?_
      obtain ⟨hP8, -, -⟩ := cut3 (wc := [oc ra 8 [.int (nI T), .int (nI Ac), .ref (rA 2), .ref (rA 3), .ref (rA 4), .ref (rA 5), .ref (rA 6), .ref (rA 7), .ref (rA 8), .ref (rA 9), .ref (rA 10), .ref (rA 11), .ref (rA 12), .ref (rA 13), .int ir, .ref (rA 15), .ref (rA 16), .ref (rA 17), .ref (rA 18), .int (nI md), .int (nI wd), .ref (rA 21), .ref (rA 22), .ref (rA 23), .int (nI mn), .ref (rA 25), .int (nI cb), .int mr, .ref (rA 28), .ref (rA 29), .ref (rA 30), .ref (rA 31), .ref (rA 32), .ref (rA 33), .ref (rA 34), .ref (rA 35), .int (nI ld), .int (nI gm), .ref (rA 38), .ref (rA 39), .ref (rA 40), .ref (rA 41), .ref (rA 42), .ref (rA 43), .ref (rA 44), .ref (rA 45), .int (nI my), .ref (rA 47)], ia (rA 16) (rK9 16) 155 (lnF sf t wn pi pm (y1 + 1))]) hP hD rfl hS hA [0, 1] (by decide +kernel) rfl
      exact ih_y1 _ _ _ ⟨hP8, hS, lv_sub hl [0, 3, 4, 5] rfl⟩
    · skip
      have hc1 : ¬ (pi y1 ≤ pm y1) := fun q9 => c1 ((nI_leI (a := pi y1) (b := pm y1) (by omega) (by omega)).mpr q9)
      refine tp_pc (pc' := 55) (by rfl) ?_
      refine lv_aload_n hx hb d_Ref_learn_55 rfl (lv_at hl 3 rfl) ?_
      refine va_get (D := (dC, dI)) (ci := 8) (v := .ref (rA 16)) (C := R_Ref) (T := F_Ref) (N := 48) hx hb hw i_Ref hown hK hP 0 rfl rfl 16 (by decide) (hw _ m_915) (fun _ h9 => h9) rfl d_Ref_learn_56 ?_
      refine lv_sipush (v := 139) hx hb d_Ref_learn_59 (by decide) ?_
      refine lv_iconst (v := 4) hx hb d_Ref_learn_62 (by decide) ?_
      refine lv_iload_n hx hb d_Ref_learn_63 rfl (lv_at hl 4 rfl) ?_
      refine lv_imul hx hb d_Ref_learn_64 ?_
      refine tp_i (y := nI (4 * t)) (by exact pk_mul 4 t) ?_
      refine lv_iadd hx hb d_Ref_learn_65 ?_
      refine tp_i (y := nI (139 + (4 * t))) (by exact nI_add 139 (4 * t)) ?_
      refine lv_iload_n hx hb d_Ref_learn_66 rfl (lv_at hl 2 rfl) ?_
      refine lv_iadd hx hb d_Ref_learn_67 ?_
      refine tp_i (y := nI (139 + (4 * t) + y1)) (by exact nI_add (139 + (4 * t)) y1) ?_
      refine lv_iload hx hb d_Ref_learn_68 (lv_at hl 0 rfl) ?_
      refine va_iast (D := (dC, dI)) hx hb hK hP (dd_D hD rfl) hS 1 0 rfl rfl (i := nI (139 + (4 * t) + y1)) (x := sf (95 + 4 * wn + y1)) (pk_in (139 + (4 * t) + y1) 155 (by omega)) d_Ref_learn_70 ?_
      clear hP hS locs H
      intro H locs hP _ hS
      rw [show (nI (139 + (4 * t) + y1) : Int32).toNatClampNeg = 139 + (4 * t) + y1 from pk_cl (139 + (4 * t) + y1)] at hP
      replace hP : va_P (dC, dI) classes [oc ra 8 [.int (nI T), .int (nI Ac), .ref (rA 2), .ref (rA 3), .ref (rA 4), .ref (rA 5), .ref (rA 6), .ref (rA 7), .ref (rA 8), .ref (rA 9), .ref (rA 10), .ref (rA 11), .ref (rA 12), .ref (rA 13), .int ir, .ref (rA 15), .ref (rA 16), .ref (rA 17), .ref (rA 18), .int (nI md), .int (nI wd), .ref (rA 21), .ref (rA 22), .ref (rA 23), .int (nI mn), .ref (rA 25), .int (nI cb), .int mr, .ref (rA 28), .ref (rA 29), .ref (rA 30), .ref (rA 31), .ref (rA 32), .ref (rA 33), .ref (rA 34), .ref (rA 35), .int (nI ld), .int (nI gm), .ref (rA 38), .ref (rA 39), .ref (rA 40), .ref (rA 41), .ref (rA 42), .ref (rA 43), .ref (rA 44), .ref (rA 45), .int (nI my), .ref (rA 47)], ia (rA 16) (rK9 16) 155 (upd (lnF sf t wn pi pm y1) (139 + (4 * t) + y1) (sf (95 + 4 * wn + y1)))] H := hP
      refine tp_pc (pc' := 71) (by rfl) ?_
      rw [show upd (lnF sf t wn pi pm y1) (139 + 4 * t + y1) (sf (95 + 4 * wn + y1)) = lnF sf t wn pi pm (y1 + 1) from by rw [lnF, if_pos (by omega)]] at hP
      replace hP : va_P (dC, dI) classes [oc ra 8 [.int (nI T), .int (nI Ac), .ref (rA 2), .ref (rA 3), .ref (rA 4), .ref (rA 5), .ref (rA 6), .ref (rA 7), .ref (rA 8), .ref (rA 9), .ref (rA 10), .ref (rA 11), .ref (rA 12), .ref (rA 13), .int ir, .ref (rA 15), .ref (rA 16), .ref (rA 17), .ref (rA 18), .int (nI md), .int (nI wd), .ref (rA 21), .ref (rA 22), .ref (rA 23), .int (nI mn), .ref (rA 25), .int (nI cb), .int mr, .ref (rA 28), .ref (rA 29), .ref (rA 30), .ref (rA 31), .ref (rA 32), .ref (rA 33), .ref (rA 34), .ref (rA 35), .int (nI ld), .int (nI gm), .ref (rA 38), .ref (rA 39), .ref (rA 40), .ref (rA 41), .ref (rA 42), .ref (rA 43), .ref (rA 44), .ref (rA 45), .int (nI my), .ref (rA 47)], ia (rA 16) (rK9 16) 155 (lnF sf t wn pi pm (y1 + 1))] H := hP
      refine lv_iinc (v := nI (y1 + 1)) (lv' := [(3, .int (nI (y1 + 1))), (5, .int (sf (95 + 4 * wn + y1))), (4, .int (sf (139 + 4 * t + y1))), (0, .ref ra), (1, .int (nI t)), (2, .int (nI wn))]) hx hb d_Ref_learn_71 hl (k := 2) rfl (by exact nI_1 y1) (by decide) rfl ?_
      clear hl ls
      intro ls hl
      refine lv_goto (tgt := 2) hx hb d_Ref_learn_74 (by decide) ?_
      refine tp_pc (pc' := 2) (by rfl) ?_
      obtain ⟨hP8, -, -⟩ := cut3 (wc := [oc ra 8 [.int (nI T), .int (nI Ac), .ref (rA 2), .ref (rA 3), .ref (rA 4), .ref (rA 5), .ref (rA 6), .ref (rA 7), .ref (rA 8), .ref (rA 9), .ref (rA 10), .ref (rA 11), .ref (rA 12), .ref (rA 13), .int ir, .ref (rA 15), .ref (rA 16), .ref (rA 17), .ref (rA 18), .int (nI md), .int (nI wd), .ref (rA 21), .ref (rA 22), .ref (rA 23), .int (nI mn), .ref (rA 25), .int (nI cb), .int mr, .ref (rA 28), .ref (rA 29), .ref (rA 30), .ref (rA 31), .ref (rA 32), .ref (rA 33), .ref (rA 34), .ref (rA 35), .int (nI ld), .int (nI gm), .ref (rA 38), .ref (rA 39), .ref (rA 40), .ref (rA 41), .ref (rA 42), .ref (rA 43), .ref (rA 44), .ref (rA 45), .int (nI my), .ref (rA 47)], ia (rA 16) (rK9 16) 155 (lnF sf t wn pi pm (y1 + 1))]) hP hD rfl hS hA [0, 1] (by decide +kernel) rfl
      exact ih_y1 _ _ _ ⟨hP8, hS, lv_sub hl [0, 3, 4, 5] rfl⟩
  · intro H locs ls hI
    obtain ⟨hP, hS, hl⟩ := hI
    replace hl : lv_has ls 6 [(3, .int 4), (0, .ref ra), (1, .int (nI t)), (2, .int (nI wn))] := hl
    refine lv_iload_n hx hb d_Ref_learn_2 rfl (lv_at hl 0 rfl) ?_
    refine lv_iconst (v := 4) hx hb d_Ref_learn_3 (by decide) ?_
    refine lv_icmp_ge (tgt := 77) hx hb d_Ref_learn_4 (by decide) (fun c_3 => ?_) (fun c_3 => absurd c_3 (by decide))
    refine tp_pc (pc' := 77) (by rfl) ?_
    obtain ⟨hP9, hD9, -⟩ := cut3 (wc := [oc ra 8 [.int (nI T), .int (nI Ac), .ref (rA 2), .ref (rA 3), .ref (rA 4), .ref (rA 5), .ref (rA 6), .ref (rA 7), .ref (rA 8), .ref (rA 9), .ref (rA 10), .ref (rA 11), .ref (rA 12), .ref (rA 13), .int ir, .ref (rA 15), .ref (rA 16), .ref (rA 17), .ref (rA 18), .int (nI md), .int (nI wd), .ref (rA 21), .ref (rA 22), .ref (rA 23), .int (nI mn), .ref (rA 25), .int (nI cb), .int mr, .ref (rA 28), .ref (rA 29), .ref (rA 30), .ref (rA 31), .ref (rA 32), .ref (rA 33), .ref (rA 34), .ref (rA 35), .int (nI ld), .int (nI gm), .ref (rA 38), .ref (rA 39), .ref (rA 40), .ref (rA 41), .ref (rA 42), .ref (rA 43), .ref (rA 44), .ref (rA 45), .int (nI my), .ref (rA 47)], ia (rA 16) (rK9 16) 155 (lnF sf t wn pi pm 4)]) hP hD rfl hS hA [0, 1] (by decide +kernel) rfl
    have hK9 := hK.sub (tys' := []) [] rfl
    refine W.widen (k := 0) (n := 0) (by exact Nat.le_of_ble_eq_true rfl) (by exact Nat.le_of_ble_eq_true rfl) ?_
    exact W.vret hx hb hr (fun t9 ht9 hW => ⟨⟨(), rfl, trivial, by rw [ht9]; exact hP9, va_K.moved hW.alike hK9, hD9⟩, hS.F ht9⟩) hS.2.2 d_Ref_learn_77
set_option maxHeartbeats 4000000 in
set_option maxRecDepth 100000 in
theorem gen_Ref_put (l : Launch) (dC : Nat → ClassId) (dI : Nat → Nat → Nat) (ra : Nat) (rA : Nat → Nat) (rK9 : Nat → ClassId) (T Ac md wd mn cb ld gm my : Nat) (ir mr : Int32) (t x pc z wn : Nat) (v ad : Int32) (sf : Nat → Int32) (ht : t < 4) (hx4 : x < 4) (hz7 : z ≤ 7) (hpc : pc ≤ z) (hwn : wn < 11) (h15 : sf 15 = nI wn) (hsz0 : sf (37 + x) = nI z) (sz : Nat) : Met l y_Ref_put w_Ref_put ({ frames := 0, cells := 0, slots := 0, locals := 0 }) (va_Pc [.ref ra, .int (nI t), .int (nI x), .int (nI pc), .int v, .int ad] (fun U => U.heap.size = sz ∧ va_P (dC, dI) classes [oc ra 8 [.int (nI T), .int (nI Ac), .ref (rA 2), .ref (rA 3), .ref (rA 4), .ref (rA 5), .ref (rA 6), .ref (rA 7), .ref (rA 8), .ref (rA 9), .ref (rA 10), .ref (rA 11), .ref (rA 12), .ref (rA 13), .int ir, .ref (rA 15), .ref (rA 16), .ref (rA 17), .ref (rA 18), .int (nI md), .int (nI wd), .ref (rA 21), .ref (rA 22), .ref (rA 23), .int (nI mn), .ref (rA 25), .int (nI cb), .int mr, .ref (rA 28), .ref (rA 29), .ref (rA 30), .ref (rA 31), .ref (rA 32), .ref (rA 33), .ref (rA 34), .ref (rA 35), .int (nI ld), .int (nI gm), .ref (rA 38), .ref (rA 39), .ref (rA 40), .ref (rA 41), .ref (rA 42), .ref (rA 43), .ref (rA 44), .ref (rA 45), .int (nI my), .ref (rA 47)], ia (rA 16) (rK9 16) 155 sf] U.heap ∧ va_K (dC, dI) classes [((rK9 16), .int)] U ∧ va_D (fun _ => True) [oc ra 8 [.int (nI T), .int (nI Ac), .ref (rA 2), .ref (rA 3), .ref (rA 4), .ref (rA 5), .ref (rA 6), .ref (rA 7), .ref (rA 8), .ref (rA 9), .ref (rA 10), .ref (rA 11), .ref (rA 12), .ref (rA 13), .int ir, .ref (rA 15), .ref (rA 16), .ref (rA 17), .ref (rA 18), .int (nI md), .int (nI wd), .ref (rA 21), .ref (rA 22), .ref (rA 23), .int (nI mn), .ref (rA 25), .int (nI cb), .int mr, .ref (rA 28), .ref (rA 29), .ref (rA 30), .ref (rA 31), .ref (rA 32), .ref (rA 33), .ref (rA 34), .ref (rA 35), .int (nI ld), .int (nI gm), .ref (rA 38), .ref (rA 39), .ref (rA 40), .ref (rA 41), .ref (rA 42), .ref (rA 43), .ref (rA 44), .ref (rA 45), .int (nI my), .ref (rA 47)], ia (rA 16) (rK9 16) 155 sf] ∧ nw U)) (va_Qv (fun _ : Unit => True) (fun _ t9 => va_P (dC, dI) classes [oc ra 8 [.int (nI T), .int (nI Ac), .ref (rA 2), .ref (rA 3), .ref (rA 4), .ref (rA 5), .ref (rA 6), .ref (rA 7), .ref (rA 8), .ref (rA 9), .ref (rA 10), .ref (rA 11), .ref (rA 12), .ref (rA 13), .int ir, .ref (rA 15), .ref (rA 16), .ref (rA 17), .ref (rA 18), .int (nI md), .int (nI wd), .ref (rA 21), .ref (rA 22), .ref (rA 23), .int (nI mn), .ref (rA 25), .int (nI cb), .int mr, .ref (rA 28), .ref (rA 29), .ref (rA 30), .ref (rA 31), .ref (rA 32), .ref (rA 33), .ref (rA 34), .ref (rA 35), .int (nI ld), .int (nI gm), .ref (rA 38), .ref (rA 39), .ref (rA 40), .ref (rA 41), .ref (rA 42), .ref (rA 43), .ref (rA 44), .ref (rA 45), .int (nI my), .ref (rA 47)], ia (rA 16) (rK9 16) 155 (kwF (puB sf t x pc z wn v ad) t wn 4)] t9.heap ∧ va_K (dC, dI) classes [] t9 ∧ va_D (va_A [oc ra 8 [.int (nI T), .int (nI Ac), .ref (rA 2), .ref (rA 3), .ref (rA 4), .ref (rA 5), .ref (rA 6), .ref (rA 7), .ref (rA 8), .ref (rA 9), .ref (rA 10), .ref (rA 11), .ref (rA 12), .ref (rA 13), .int ir, .ref (rA 15), .ref (rA 16), .ref (rA 17), .ref (rA 18), .int (nI md), .int (nI wd), .ref (rA 21), .ref (rA 22), .ref (rA 23), .int (nI mn), .ref (rA 25), .int (nI cb), .int mr, .ref (rA 28), .ref (rA 29), .ref (rA 30), .ref (rA 31), .ref (rA 32), .ref (rA 33), .ref (rA 34), .ref (rA 35), .int (nI ld), .int (nI gm), .ref (rA 38), .ref (rA 39), .ref (rA 40), .ref (rA 41), .ref (rA 42), .ref (rA 43), .ref (rA 44), .ref (rA 45), .int (nI my), .ref (rA 47)], ia (rA 16) (rK9 16) 155 sf] sz) [oc ra 8 [.int (nI T), .int (nI Ac), .ref (rA 2), .ref (rA 3), .ref (rA 4), .ref (rA 5), .ref (rA 6), .ref (rA 7), .ref (rA 8), .ref (rA 9), .ref (rA 10), .ref (rA 11), .ref (rA 12), .ref (rA 13), .int ir, .ref (rA 15), .ref (rA 16), .ref (rA 17), .ref (rA 18), .int (nI md), .int (nI wd), .ref (rA 21), .ref (rA 22), .ref (rA 23), .int (nI mn), .ref (rA 25), .int (nI cb), .int mr, .ref (rA 28), .ref (rA 29), .ref (rA 30), .ref (rA 31), .ref (rA 32), .ref (rA 33), .ref (rA 34), .ref (rA 35), .int (nI ld), .int (nI gm), .ref (rA 38), .ref (rA 39), .ref (rA 40), .ref (rA 41), .ref (rA 42), .ref (rA 43), .ref (rA 44), .ref (rA 45), .int (nI my), .ref (rA 47)], ia (rA 16) (rK9 16) 155 (kwF (puB sf t x pc z wn v ad) t wn 4)]) (va_A [oc ra 8 [.int (nI T), .int (nI Ac), .ref (rA 2), .ref (rA 3), .ref (rA 4), .ref (rA 5), .ref (rA 6), .ref (rA 7), .ref (rA 8), .ref (rA 9), .ref (rA 10), .ref (rA 11), .ref (rA 12), .ref (rA 13), .int ir, .ref (rA 15), .ref (rA 16), .ref (rA 17), .ref (rA 18), .int (nI md), .int (nI wd), .ref (rA 21), .ref (rA 22), .ref (rA 23), .int (nI mn), .ref (rA 25), .int (nI cb), .int mr, .ref (rA 28), .ref (rA 29), .ref (rA 30), .ref (rA 31), .ref (rA 32), .ref (rA 33), .ref (rA 34), .ref (rA 35), .int (nI ld), .int (nI gm), .ref (rA 38), .ref (rA 39), .ref (rA 40), .ref (rA 41), .ref (rA 42), .ref (rA 43), .ref (rA 44), .ref (rA 45), .int (nI my), .ref (rA 47)], ia (rA 16) (rK9 16) 155 sf] sz)) 0 0 (va_A [oc ra 8 [.int (nI T), .int (nI Ac), .ref (rA 2), .ref (rA 3), .ref (rA 4), .ref (rA 5), .ref (rA 6), .ref (rA 7), .ref (rA 8), .ref (rA 9), .ref (rA 10), .ref (rA 11), .ref (rA 12), .ref (rA 13), .int ir, .ref (rA 15), .ref (rA 16), .ref (rA 17), .ref (rA 18), .int (nI md), .int (nI wd), .ref (rA 21), .ref (rA 22), .ref (rA 23), .int (nI mn), .ref (rA 25), .int (nI cb), .int mr, .ref (rA 28), .ref (rA 29), .ref (rA 30), .ref (rA 31), .ref (rA 32), .ref (rA 33), .ref (rA 34), .ref (rA 35), .int (nI ld), .int (nI gm), .ref (rA 38), .ref (rA 39), .ref (rA 40), .ref (rA 41), .ref (rA 42), .ref (rA 43), .ref (rA 44), .ref (rA 45), .int (nI my), .ref (rA 47)], ia (rA 16) (rK9 16) 155 sf] sz) := by
  refine Met.ofW (cc := b_Ref_put) (maxL := 8) (ret := none) (by decide) rfl ?_
  intro p e0 s m args below meth c s₁ B hml hv
  obtain ⟨rfl, hsz, hP, hK, hD0, hn⟩ := hv
  have hx := B.exec
  have hb := B.bytes
  have hr := B.returns
  have hw := fun w (h : w ∈ wt) => atoms_spec (ws := w_Ref_put) B.pre w (List.mem_cons_of_mem _ h)
  have hown : s.vm.findClass R_Ref = some m.cls := findClass_of_methodNamed B.named
  have hlocks := B.notSynchronized
  subst hsz
  have hD1 := hD0.self (sz := s.heap.size)
  generalize hAe : va_A [oc ra 8 [.int (nI T), .int (nI Ac), .ref (rA 2), .ref (rA 3), .ref (rA 4), .ref (rA 5), .ref (rA 6), .ref (rA 7), .ref (rA 8), .ref (rA 9), .ref (rA 10), .ref (rA 11), .ref (rA 12), .ref (rA 13), .int ir, .ref (rA 15), .ref (rA 16), .ref (rA 17), .ref (rA 18), .int (nI md), .int (nI wd), .ref (rA 21), .ref (rA 22), .ref (rA 23), .int (nI mn), .ref (rA 25), .int (nI cb), .int mr, .ref (rA 28), .ref (rA 29), .ref (rA 30), .ref (rA 31), .ref (rA 32), .ref (rA 33), .ref (rA 34), .ref (rA 35), .int (nI ld), .int (nI gm), .ref (rA 38), .ref (rA 39), .ref (rA 40), .ref (rA 41), .ref (rA 42), .ref (rA 43), .ref (rA 44), .ref (rA 45), .int (nI my), .ref (rA 47)], ia (rA 16) (rK9 16) 155 sf] s.heap.size = A at hD1 ⊢
  have hA : ∀ q : Nat, s.heap.size ≤ q → A q := fun q h => by rw [← hAe]; exact Or.inr h
  have hD : dd A [ra, (rA 16)] := dd_of hD1 rfl
  clear hAe hD0 hD1
  have hS : va_S A s.heap s.heap [] := va_S.rf
  replace hP : va_P (dC, dI) classes [oc ra 8 [.int (nI T), .int (nI Ac), .ref (rA 2), .ref (rA 3), .ref (rA 4), .ref (rA 5), .ref (rA 6), .ref (rA 7), .ref (rA 8), .ref (rA 9), .ref (rA 10), .ref (rA 11), .ref (rA 12), .ref (rA 13), .int ir, .ref (rA 15), .ref (rA 16), .ref (rA 17), .ref (rA 18), .int (nI md), .int (nI wd), .ref (rA 21), .ref (rA 22), .ref (rA 23), .int (nI mn), .ref (rA 25), .int (nI cb), .int mr, .ref (rA 28), .ref (rA 29), .ref (rA 30), .ref (rA 31), .ref (rA 32), .ref (rA 33), .ref (rA 34), .ref (rA 35), .int (nI ld), .int (nI gm), .ref (rA 38), .ref (rA 39), .ref (rA 40), .ref (rA 41), .ref (rA 42), .ref (rA 43), .ref (rA 44), .ref (rA 45), .int (nI my), .ref (rA 47)], ia (rA 16) (rK9 16) 155 sf] s.heap := hP
  have hl := lv_entry ([.ref ra, .int (nI t), .int (nI x), .int (nI pc), .int v, .int ad]) (n := 8) (Nat.le_of_ble_eq_true rfl)
  rw [lg_entry_eq]
  generalize (lg_sl ([.ref ra, .int (nI t), .int (nI x), .int (nI pc), .int v, .int ad]) ++ List.replicate (8 - (lg_sl ([.ref ra, .int (nI t), .int (nI x), .int (nI pc), .int v, .int ad])).length) Slot.unset).toArray = ls at hl ⊢
  replace hl : lv_has ls 8 [(0, .ref ra), (1, .int (nI t)), (2, .int (nI x)), (3, .int (nI pc)), (4, .int v), (5, .int ad)] := hl
  refine lv_aload_n hx hb d_Ref_put_0 rfl (lv_at hl 0 rfl) ?_
  refine va_get (D := (dC, dI)) (ci := 8) (v := .ref (rA 16)) (C := R_Ref) (T := F_Ref) (N := 48) hx hb hw i_Ref hown hK hP 0 rfl rfl 16 (by decide) (hw _ m_915) (fun _ h9 => h9) rfl d_Ref_put_1 ?_
  refine lv_bipush (v := 15) hx hb d_Ref_put_4 (by decide) ?_
  refine va_iald (D := (dC, dI)) hx hb hK hP 1 0 rfl rfl (i := 15) (pk_in 15 155 (by omega)) d_Ref_put_6 ?_
  refine tp_i (y := sf 15) (by rw [show (15 : Int32).toNatClampNeg = 15 from pk_cl 15]) ?_
  refine tp_i (y := nI wn) h15 ?_
  refine lv_istore (lv' := [(6, .int (nI wn)), (0, .ref ra), (1, .int (nI t)), (2, .int (nI x)), (3, .int (nI pc)), (4, .int v), (5, .int ad)]) hx hb d_Ref_put_7 hl (by decide) rfl ?_
  clear hl ls
  intro ls hl
  refine lv_aload_n hx hb d_Ref_put_9 rfl (lv_at hl 1 rfl) ?_
  refine va_get (D := (dC, dI)) (ci := 8) (v := .ref (rA 16)) (C := R_Ref) (T := F_Ref) (N := 48) hx hb hw i_Ref hown hK hP 0 rfl rfl 16 (by decide) (hw _ m_915) (fun _ h9 => h9) rfl d_Ref_put_10 ?_
  refine lv_bipush (v := 15) hx hb d_Ref_put_13 (by decide) ?_
  refine lv_dup2_11 hx hb d_Ref_put_15 rfl rfl ?_
  refine va_iald (D := (dC, dI)) hx hb hK hP 1 0 rfl rfl (i := 15) (pk_in 15 155 (by omega)) d_Ref_put_16 ?_
  refine tp_i (y := sf 15) (by rw [show (15 : Int32).toNatClampNeg = 15 from pk_cl 15]) ?_
  refine tp_i (y := nI wn) h15 ?_
  refine lv_iconst (v := 1) hx hb d_Ref_put_17 (by decide) ?_
  refine lv_iadd hx hb d_Ref_put_18 ?_
  refine tp_i (y := nI (wn + 1)) (by exact nI_add wn 1) ?_
  refine va_iast (D := (dC, dI)) hx hb hK hP (dd_D hD rfl) hS 1 0 rfl rfl (i := 15) (x := nI (wn + 1)) (pk_in 15 155 (by omega)) d_Ref_put_19 ?_
  clear hP hS
  intro H locs hP _ hS
  rw [show (15 : Int32).toNatClampNeg = 15 from pk_cl 15] at hP
  replace hP : va_P (dC, dI) classes [oc ra 8 [.int (nI T), .int (nI Ac), .ref (rA 2), .ref (rA 3), .ref (rA 4), .ref (rA 5), .ref (rA 6), .ref (rA 7), .ref (rA 8), .ref (rA 9), .ref (rA 10), .ref (rA 11), .ref (rA 12), .ref (rA 13), .int ir, .ref (rA 15), .ref (rA 16), .ref (rA 17), .ref (rA 18), .int (nI md), .int (nI wd), .ref (rA 21), .ref (rA 22), .ref (rA 23), .int (nI mn), .ref (rA 25), .int (nI cb), .int mr, .ref (rA 28), .ref (rA 29), .ref (rA 30), .ref (rA 31), .ref (rA 32), .ref (rA 33), .ref (rA 34), .ref (rA 35), .int (nI ld), .int (nI gm), .ref (rA 38), .ref (rA 39), .ref (rA 40), .ref (rA 41), .ref (rA 42), .ref (rA 43), .ref (rA 44), .ref (rA 45), .int (nI my), .ref (rA 47)], ia (rA 16) (rK9 16) 155 (upd sf 15 (nI (wn + 1)))] H := hP
  refine tp_pc (pc' := 20) (by rfl) ?_
  obtain ⟨f0, hf0⟩ : ∃ f0, f0 = upd sf 15 (nI (wn + 1)) := ⟨_, rfl⟩
  rw [← hf0] at hP
  replace hP : va_P (dC, dI) classes [oc ra 8 [.int (nI T), .int (nI Ac), .ref (rA 2), .ref (rA 3), .ref (rA 4), .ref (rA 5), .ref (rA 6), .ref (rA 7), .ref (rA 8), .ref (rA 9), .ref (rA 10), .ref (rA 11), .ref (rA 12), .ref (rA 13), .int ir, .ref (rA 15), .ref (rA 16), .ref (rA 17), .ref (rA 18), .int (nI md), .int (nI wd), .ref (rA 21), .ref (rA 22), .ref (rA 23), .int (nI mn), .ref (rA 25), .int (nI cb), .int mr, .ref (rA 28), .ref (rA 29), .ref (rA 30), .ref (rA 31), .ref (rA 32), .ref (rA 33), .ref (rA 34), .ref (rA 35), .int (nI ld), .int (nI gm), .ref (rA 38), .ref (rA 39), .ref (rA 40), .ref (rA 41), .ref (rA 42), .ref (rA 43), .ref (rA 44), .ref (rA 45), .int (nI my), .ref (rA 47)], ia (rA 16) (rK9 16) 155 f0] H := hP
  have hz0 : f0 (37 + x) = nI z := by rw [hf0, pk_un (by omega)]; exact hsz0
  refine lv_aload_n hx hb d_Ref_put_20 rfl (lv_at hl 1 rfl) ?_
  refine va_get (D := (dC, dI)) (ci := 8) (v := .ref (rA 16)) (C := R_Ref) (T := F_Ref) (N := 48) hx hb hw i_Ref hown hK hP 0 rfl rfl 16 (by decide) (hw _ m_915) (fun _ h9 => h9) rfl d_Ref_put_21 ?_
  refine lv_bipush (v := 37) hx hb d_Ref_put_24 (by decide) ?_
  refine lv_iload_n hx hb d_Ref_put_26 rfl (lv_at hl 3 rfl) ?_
  refine lv_iadd hx hb d_Ref_put_27 ?_
  refine tp_i (y := nI (37 + x)) (by exact nI_add 37 x) ?_
  refine va_iald (D := (dC, dI)) hx hb hK hP 1 0 rfl rfl (i := nI (37 + x)) (pk_in (37 + x) 155 (by omega)) d_Ref_put_28 ?_
  refine tp_i (y := f0 (37 + x)) (by rw [show (nI (37 + x) : Int32).toNatClampNeg = 37 + x from pk_cl (37 + x)]) ?_
  refine tp_i (y := nI z) hz0 ?_
  refine lv_istore (lv' := [(7, .int (nI z)), (6, .int (nI wn)), (0, .ref ra), (1, .int (nI t)), (2, .int (nI x)), (3, .int (nI pc)), (4, .int v), (5, .int ad)]) hx hb d_Ref_put_29 hl (by decide) rfl ?_
  clear hl ls
  intro ls hl
  replace hl : lv_has ls 8 [(7, .int (nI (pc + (z - pc)))), (6, .int (nI wn)), (0, .ref ra), (1, .int (nI t)), (2, .int (nI x)), (3, .int (nI pc)), (4, .int v), (5, .int ad)] := by rw [show pc + (z - pc) = z from by omega]; exact hl
  replace hP : va_P (dC, dI) classes [oc ra 8 [.int (nI T), .int (nI Ac), .ref (rA 2), .ref (rA 3), .ref (rA 4), .ref (rA 5), .ref (rA 6), .ref (rA 7), .ref (rA 8), .ref (rA 9), .ref (rA 10), .ref (rA 11), .ref (rA 12), .ref (rA 13), .int ir, .ref (rA 15), .ref (rA 16), .ref (rA 17), .ref (rA 18), .int (nI md), .int (nI wd), .ref (rA 21), .ref (rA 22), .ref (rA 23), .int (nI mn), .ref (rA 25), .int (nI cb), .int mr, .ref (rA 28), .ref (rA 29), .ref (rA 30), .ref (rA 31), .ref (rA 32), .ref (rA 33), .ref (rA 34), .ref (rA 35), .int (nI ld), .int (nI gm), .ref (rA 38), .ref (rA 39), .ref (rA 40), .ref (rA 41), .ref (rA 42), .ref (rA 43), .ref (rA 44), .ref (rA 45), .int (nI my), .ref (rA 47)], ia (rA 16) (rK9 16) 155 (mvF f0 (41 + 8 * x + pc + (z - pc)) (41 + 8 * x + z))] H := by rw [show 41 + 8 * x + pc + (z - pc) = 41 + 8 * x + z from by omega, mv_0]; exact hP
  refine lp_nd (z - pc) (fun n1 H locs ls => n1 ≤ z - pc ∧ va_P (dC, dI) classes [oc ra 8 [.int (nI T), .int (nI Ac), .ref (rA 2), .ref (rA 3), .ref (rA 4), .ref (rA 5), .ref (rA 6), .ref (rA 7), .ref (rA 8), .ref (rA 9), .ref (rA 10), .ref (rA 11), .ref (rA 12), .ref (rA 13), .int ir, .ref (rA 15), .ref (rA 16), .ref (rA 17), .ref (rA 18), .int (nI md), .int (nI wd), .ref (rA 21), .ref (rA 22), .ref (rA 23), .int (nI mn), .ref (rA 25), .int (nI cb), .int mr, .ref (rA 28), .ref (rA 29), .ref (rA 30), .ref (rA 31), .ref (rA 32), .ref (rA 33), .ref (rA 34), .ref (rA 35), .int (nI ld), .int (nI gm), .ref (rA 38), .ref (rA 39), .ref (rA 40), .ref (rA 41), .ref (rA 42), .ref (rA 43), .ref (rA 44), .ref (rA 45), .int (nI my), .ref (rA 47)], ia (rA 16) (rK9 16) 155 (mvF f0 (41 + 8 * x + pc + n1) (41 + 8 * x + z))] H ∧ va_S A s.heap H locs ∧ lv_has ls 8 [(7, .int (nI (pc + n1))), (6, .int (nI wn)), (0, .ref ra), (1, .int (nI t)), (2, .int (nI x)), (3, .int (nI pc)), (4, .int v), (5, .int ad)]) ⟨Nat.le_refl _, hP, hS, hl⟩ ?_ ?_
  · intro n1 H locs ls hI ih
    obtain ⟨hn1, hP, hS, hl⟩ := hI
    replace hl : lv_has ls 8 [(7, .int (nI (pc + n1 + 1))), (6, .int (nI wn)), (0, .ref ra), (1, .int (nI t)), (2, .int (nI x)), (3, .int (nI pc)), (4, .int v), (5, .int ad)] := hl
    refine lv_iload hx hb d_Ref_put_31 (lv_at hl 0 rfl) ?_
    refine lv_iload_n hx hb d_Ref_put_33 rfl (lv_at hl 5 rfl) ?_
    refine lv_icmp_le (tgt := 75) hx hb d_Ref_put_34 (by decide) (fun c9 => absurd ((nI_leI (a := pc + n1 + 1) (b := pc) (by omega) (by omega)).mp c9) (by omega)) (fun c9 => ?_)
    refine tp_pc (pc' := 37) (by rfl) ?_
    refine lv_aload_n hx hb d_Ref_put_37 rfl (lv_at hl 2 rfl) ?_
    refine va_get (D := (dC, dI)) (ci := 8) (v := .ref (rA 16)) (C := R_Ref) (T := F_Ref) (N := 48) hx hb hw i_Ref hown hK hP 0 rfl rfl 16 (by decide) (hw _ m_915) (fun _ h9 => h9) rfl d_Ref_put_38 ?_
    refine lv_bipush (v := 41) hx hb d_Ref_put_41 (by decide) ?_
    refine lv_bipush (v := 8) hx hb d_Ref_put_43 (by decide) ?_
    refine lv_iload_n hx hb d_Ref_put_45 rfl (lv_at hl 4 rfl) ?_
    refine lv_imul hx hb d_Ref_put_46 ?_
    refine tp_i (y := nI (8 * x)) (by exact pk_mul 8 x) ?_
    refine lv_iadd hx hb d_Ref_put_47 ?_
    refine tp_i (y := nI (41 + (8 * x))) (by exact nI_add 41 (8 * x)) ?_
    refine lv_iload hx hb d_Ref_put_48 (lv_at hl 0 rfl) ?_
    refine lv_iadd hx hb d_Ref_put_50 ?_
    refine tp_i (y := nI (41 + (8 * x) + (pc + n1 + 1))) (by exact nI_add (41 + (8 * x)) (pc + n1 + 1)) ?_
    refine lv_aload_n hx hb d_Ref_put_51 rfl (lv_at hl 2 rfl) ?_
    refine va_get (D := (dC, dI)) (ci := 8) (v := .ref (rA 16)) (C := R_Ref) (T := F_Ref) (N := 48) hx hb hw i_Ref hown hK hP 0 rfl rfl 16 (by decide) (hw _ m_915) (fun _ h9 => h9) rfl d_Ref_put_52 ?_
    refine lv_bipush (v := 41) hx hb d_Ref_put_55 (by decide) ?_
    refine lv_bipush (v := 8) hx hb d_Ref_put_57 (by decide) ?_
    refine lv_iload_n hx hb d_Ref_put_59 rfl (lv_at hl 4 rfl) ?_
    refine lv_imul hx hb d_Ref_put_60 ?_
    refine tp_i (y := nI (8 * x)) (by exact pk_mul 8 x) ?_
    refine lv_iadd hx hb d_Ref_put_61 ?_
    refine tp_i (y := nI (41 + (8 * x))) (by exact nI_add 41 (8 * x)) ?_
    refine lv_iload hx hb d_Ref_put_62 (lv_at hl 0 rfl) ?_
    refine lv_iadd hx hb d_Ref_put_64 ?_
    refine tp_i (y := nI (41 + (8 * x) + (pc + n1 + 1))) (by exact nI_add (41 + (8 * x)) (pc + n1 + 1)) ?_
    refine lv_iconst (v := 1) hx hb d_Ref_put_65 (by decide) ?_
    refine lv_isub hx hb d_Ref_put_66 ?_
    refine tp_i (y := nI (41 + (8 * x) + (pc + n1 + 1) - 1)) (by exact pk_sub (a := 41 + (8 * x) + (pc + n1 + 1)) (b := 1) (by omega)) ?_
    refine tp_i (y := nI (41 + 8 * x + (pc + n1))) (congrArg nI (by omega)) ?_
    refine va_iald (D := (dC, dI)) hx hb hK hP 1 0 rfl rfl (i := nI (41 + 8 * x + (pc + n1))) (pk_in (41 + 8 * x + (pc + n1)) 155 (by omega)) d_Ref_put_67 ?_
    refine tp_i (y := (mvF f0 (41 + 8 * x + pc + (n1 + 1)) (41 + 8 * x + z)) (41 + 8 * x + (pc + n1))) (by rw [show (nI (41 + 8 * x + (pc + n1)) : Int32).toNatClampNeg = 41 + 8 * x + (pc + n1) from pk_cl (41 + 8 * x + (pc + n1))]) ?_
    refine va_iast (D := (dC, dI)) hx hb hK hP (dd_D hD rfl) hS 1 0 rfl rfl (i := nI (41 + (8 * x) + (pc + n1 + 1))) (x := (mvF f0 (41 + 8 * x + pc + (n1 + 1)) (41 + 8 * x + z)) (41 + 8 * x + (pc + n1))) (pk_in (41 + (8 * x) + (pc + n1 + 1)) 155 (by omega)) d_Ref_put_68 ?_
    clear hP hS locs H
    intro H locs hP _ hS
    rw [show (nI (41 + (8 * x) + (pc + n1 + 1)) : Int32).toNatClampNeg = 41 + (8 * x) + (pc + n1 + 1) from pk_cl (41 + (8 * x) + (pc + n1 + 1))] at hP
    replace hP : va_P (dC, dI) classes [oc ra 8 [.int (nI T), .int (nI Ac), .ref (rA 2), .ref (rA 3), .ref (rA 4), .ref (rA 5), .ref (rA 6), .ref (rA 7), .ref (rA 8), .ref (rA 9), .ref (rA 10), .ref (rA 11), .ref (rA 12), .ref (rA 13), .int ir, .ref (rA 15), .ref (rA 16), .ref (rA 17), .ref (rA 18), .int (nI md), .int (nI wd), .ref (rA 21), .ref (rA 22), .ref (rA 23), .int (nI mn), .ref (rA 25), .int (nI cb), .int mr, .ref (rA 28), .ref (rA 29), .ref (rA 30), .ref (rA 31), .ref (rA 32), .ref (rA 33), .ref (rA 34), .ref (rA 35), .int (nI ld), .int (nI gm), .ref (rA 38), .ref (rA 39), .ref (rA 40), .ref (rA 41), .ref (rA 42), .ref (rA 43), .ref (rA 44), .ref (rA 45), .int (nI my), .ref (rA 47)], ia (rA 16) (rK9 16) 155 (upd (mvF f0 (41 + 8 * x + pc + (n1 + 1)) (41 + 8 * x + z)) (41 + (8 * x) + (pc + n1 + 1)) ((mvF f0 (41 + 8 * x + pc + (n1 + 1)) (41 + 8 * x + z)) (41 + 8 * x + (pc + n1))))] H := hP
    refine tp_pc (pc' := 69) (by rfl) ?_
    rw [show upd (mvF f0 (41 + 8 * x + pc + (n1 + 1)) (41 + 8 * x + z)) (41 + 8 * x + (pc + n1 + 1)) ((mvF f0 (41 + 8 * x + pc + (n1 + 1)) (41 + 8 * x + z)) (41 + 8 * x + (pc + n1))) = mvF f0 (41 + 8 * x + pc + n1) (41 + 8 * x + z) from by rw [show 41 + 8 * x + (pc + n1 + 1) = 41 + 8 * x + pc + n1 + 1 from by omega, show 41 + 8 * x + (pc + n1) = 41 + 8 * x + pc + n1 from by omega]; exact mv_s (lo := 41 + 8 * x + pc + n1) (hi := 41 + 8 * x + z) (by omega)] at hP
    replace hP : va_P (dC, dI) classes [oc ra 8 [.int (nI T), .int (nI Ac), .ref (rA 2), .ref (rA 3), .ref (rA 4), .ref (rA 5), .ref (rA 6), .ref (rA 7), .ref (rA 8), .ref (rA 9), .ref (rA 10), .ref (rA 11), .ref (rA 12), .ref (rA 13), .int ir, .ref (rA 15), .ref (rA 16), .ref (rA 17), .ref (rA 18), .int (nI md), .int (nI wd), .ref (rA 21), .ref (rA 22), .ref (rA 23), .int (nI mn), .ref (rA 25), .int (nI cb), .int mr, .ref (rA 28), .ref (rA 29), .ref (rA 30), .ref (rA 31), .ref (rA 32), .ref (rA 33), .ref (rA 34), .ref (rA 35), .int (nI ld), .int (nI gm), .ref (rA 38), .ref (rA 39), .ref (rA 40), .ref (rA 41), .ref (rA 42), .ref (rA 43), .ref (rA 44), .ref (rA 45), .int (nI my), .ref (rA 47)], ia (rA 16) (rK9 16) 155 (mvF f0 (41 + 8 * x + pc + n1) (41 + 8 * x + z))] H := hP
    refine lv_iinc (v := nI (pc + n1)) (lv' := [(7, .int (nI (pc + n1))), (6, .int (nI wn)), (0, .ref ra), (1, .int (nI t)), (2, .int (nI x)), (3, .int (nI pc)), (4, .int v), (5, .int ad)]) hx hb d_Ref_put_69 hl (k := 0) rfl (by exact pk_m1 (pc + n1)) (by decide) rfl ?_
    clear hl ls
    intro ls hl
    refine lv_goto (tgt := 31) hx hb d_Ref_put_72 (by decide) ?_
    refine tp_pc (pc' := 31) (by rfl) ?_
    exact ih _ _ _ ⟨by omega, hP, hS, lv_sub hl [0, 1, 2, 3, 4, 5, 6, 7] rfl⟩
  · intro H locs ls hI
    obtain ⟨-, hP, hS, hl⟩ := hI
    replace hl : lv_has ls 8 [(7, .int (nI pc)), (6, .int (nI wn)), (0, .ref ra), (1, .int (nI t)), (2, .int (nI x)), (3, .int (nI pc)), (4, .int v), (5, .int ad)] := hl
    replace hP : va_P (dC, dI) classes [oc ra 8 [.int (nI T), .int (nI Ac), .ref (rA 2), .ref (rA 3), .ref (rA 4), .ref (rA 5), .ref (rA 6), .ref (rA 7), .ref (rA 8), .ref (rA 9), .ref (rA 10), .ref (rA 11), .ref (rA 12), .ref (rA 13), .int ir, .ref (rA 15), .ref (rA 16), .ref (rA 17), .ref (rA 18), .int (nI md), .int (nI wd), .ref (rA 21), .ref (rA 22), .ref (rA 23), .int (nI mn), .ref (rA 25), .int (nI cb), .int mr, .ref (rA 28), .ref (rA 29), .ref (rA 30), .ref (rA 31), .ref (rA 32), .ref (rA 33), .ref (rA 34), .ref (rA 35), .int (nI ld), .int (nI gm), .ref (rA 38), .ref (rA 39), .ref (rA 40), .ref (rA 41), .ref (rA 42), .ref (rA 43), .ref (rA 44), .ref (rA 45), .int (nI my), .ref (rA 47)], ia (rA 16) (rK9 16) 155 (mvF f0 (41 + 8 * x + pc) (41 + 8 * x + z))] H := hP
    refine lv_iload hx hb d_Ref_put_31 (lv_at hl 0 rfl) ?_
    refine lv_iload_n hx hb d_Ref_put_33 rfl (lv_at hl 5 rfl) ?_
    refine lv_icmp_le (tgt := 75) hx hb d_Ref_put_34 (by decide) (fun c9 => ?_) (fun c9 => absurd (nI_le (Nat.le_refl pc) (by omega)) c9)
    refine tp_pc (pc' := 75) (by rfl) ?_
    refine lv_aload_n hx hb d_Ref_put_75 rfl (lv_at hl 2 rfl) ?_
    refine va_get (D := (dC, dI)) (ci := 8) (v := .ref (rA 16)) (C := R_Ref) (T := F_Ref) (N := 48) hx hb hw i_Ref hown hK hP 0 rfl rfl 16 (by decide) (hw _ m_915) (fun _ h9 => h9) rfl d_Ref_put_76 ?_
    refine lv_bipush (v := 41) hx hb d_Ref_put_79 (by decide) ?_
    refine lv_bipush (v := 8) hx hb d_Ref_put_81 (by decide) ?_
    refine lv_iload_n hx hb d_Ref_put_83 rfl (lv_at hl 4 rfl) ?_
    refine lv_imul hx hb d_Ref_put_84 ?_
    refine tp_i (y := nI (8 * x)) (by exact pk_mul 8 x) ?_
    refine lv_iadd hx hb d_Ref_put_85 ?_
    refine tp_i (y := nI (41 + (8 * x))) (by exact nI_add 41 (8 * x)) ?_
    refine lv_iload_n hx hb d_Ref_put_86 rfl (lv_at hl 5 rfl) ?_
    refine lv_iadd hx hb d_Ref_put_87 ?_
    refine tp_i (y := nI (41 + (8 * x) + pc)) (by exact nI_add (41 + (8 * x)) pc) ?_
    refine lv_iload hx hb d_Ref_put_88 (lv_at hl 1 rfl) ?_
    refine va_iast (D := (dC, dI)) hx hb hK hP (dd_D hD rfl) hS 1 0 rfl rfl (i := nI (41 + (8 * x) + pc)) (x := nI wn) (pk_in (41 + (8 * x) + pc) 155 (by omega)) d_Ref_put_90 ?_
    clear hP hS locs H
    intro H locs hP _ hS
    rw [show (nI (41 + (8 * x) + pc) : Int32).toNatClampNeg = 41 + (8 * x) + pc from pk_cl (41 + (8 * x) + pc)] at hP
    replace hP : va_P (dC, dI) classes [oc ra 8 [.int (nI T), .int (nI Ac), .ref (rA 2), .ref (rA 3), .ref (rA 4), .ref (rA 5), .ref (rA 6), .ref (rA 7), .ref (rA 8), .ref (rA 9), .ref (rA 10), .ref (rA 11), .ref (rA 12), .ref (rA 13), .int ir, .ref (rA 15), .ref (rA 16), .ref (rA 17), .ref (rA 18), .int (nI md), .int (nI wd), .ref (rA 21), .ref (rA 22), .ref (rA 23), .int (nI mn), .ref (rA 25), .int (nI cb), .int mr, .ref (rA 28), .ref (rA 29), .ref (rA 30), .ref (rA 31), .ref (rA 32), .ref (rA 33), .ref (rA 34), .ref (rA 35), .int (nI ld), .int (nI gm), .ref (rA 38), .ref (rA 39), .ref (rA 40), .ref (rA 41), .ref (rA 42), .ref (rA 43), .ref (rA 44), .ref (rA 45), .int (nI my), .ref (rA 47)], ia (rA 16) (rK9 16) 155 (upd (mvF f0 (41 + 8 * x + pc) (41 + 8 * x + z)) (41 + (8 * x) + pc) (nI wn))] H := hP
    refine tp_pc (pc' := 91) (by rfl) ?_
    refine lv_aload_n hx hb d_Ref_put_91 rfl (lv_at hl 2 rfl) ?_
    refine va_get (D := (dC, dI)) (ci := 8) (v := .ref (rA 16)) (C := R_Ref) (T := F_Ref) (N := 48) hx hb hw i_Ref hown hK hP 0 rfl rfl 16 (by decide) (hw _ m_915) (fun _ h9 => h9) rfl d_Ref_put_92 ?_
    refine lv_bipush (v := 37) hx hb d_Ref_put_95 (by decide) ?_
    refine lv_iload_n hx hb d_Ref_put_97 rfl (lv_at hl 4 rfl) ?_
    refine lv_iadd hx hb d_Ref_put_98 ?_
    refine tp_i (y := nI (37 + x)) (by exact nI_add 37 x) ?_
    refine lv_dup2_11 hx hb d_Ref_put_99 rfl rfl ?_
    refine va_iald (D := (dC, dI)) hx hb hK hP 1 0 rfl rfl (i := nI (37 + x)) (pk_in (37 + x) 155 (by omega)) d_Ref_put_100 ?_
    refine tp_i (y := (upd (mvF f0 (41 + 8 * x + pc) (41 + 8 * x + z)) (41 + (8 * x) + pc) (nI wn)) (37 + x)) (by rw [show (nI (37 + x) : Int32).toNatClampNeg = 37 + x from pk_cl (37 + x)]) ?_
    refine tp_i (y := nI z) (by rw [pk_un (by omega)]; exact (if_neg (by omega)).trans hz0) ?_
    refine lv_iconst (v := 1) hx hb d_Ref_put_101 (by decide) ?_
    refine lv_iadd hx hb d_Ref_put_102 ?_
    refine tp_i (y := nI (z + 1)) (by exact nI_add z 1) ?_
    refine va_iast (D := (dC, dI)) hx hb hK hP (dd_D hD rfl) hS 1 0 rfl rfl (i := nI (37 + x)) (x := nI (z + 1)) (pk_in (37 + x) 155 (by omega)) d_Ref_put_103 ?_
    clear hP hS locs H
    intro H locs hP _ hS
    rw [show (nI (37 + x) : Int32).toNatClampNeg = 37 + x from pk_cl (37 + x)] at hP
    replace hP : va_P (dC, dI) classes [oc ra 8 [.int (nI T), .int (nI Ac), .ref (rA 2), .ref (rA 3), .ref (rA 4), .ref (rA 5), .ref (rA 6), .ref (rA 7), .ref (rA 8), .ref (rA 9), .ref (rA 10), .ref (rA 11), .ref (rA 12), .ref (rA 13), .int ir, .ref (rA 15), .ref (rA 16), .ref (rA 17), .ref (rA 18), .int (nI md), .int (nI wd), .ref (rA 21), .ref (rA 22), .ref (rA 23), .int (nI mn), .ref (rA 25), .int (nI cb), .int mr, .ref (rA 28), .ref (rA 29), .ref (rA 30), .ref (rA 31), .ref (rA 32), .ref (rA 33), .ref (rA 34), .ref (rA 35), .int (nI ld), .int (nI gm), .ref (rA 38), .ref (rA 39), .ref (rA 40), .ref (rA 41), .ref (rA 42), .ref (rA 43), .ref (rA 44), .ref (rA 45), .int (nI my), .ref (rA 47)], ia (rA 16) (rK9 16) 155 (upd (upd (mvF f0 (41 + 8 * x + pc) (41 + 8 * x + z)) (41 + (8 * x) + pc) (nI wn)) (37 + x) (nI (z + 1)))] H := hP
    refine tp_pc (pc' := 104) (by rfl) ?_
    refine lv_aload_n hx hb d_Ref_put_104 rfl (lv_at hl 2 rfl) ?_
    refine va_get (D := (dC, dI)) (ci := 8) (v := .ref (rA 16)) (C := R_Ref) (T := F_Ref) (N := 48) hx hb hw i_Ref hown hK hP 0 rfl rfl 16 (by decide) (hw _ m_915) (fun _ h9 => h9) rfl d_Ref_put_105 ?_
    refine lv_bipush (v := 73) hx hb d_Ref_put_108 (by decide) ?_
    refine lv_iload hx hb d_Ref_put_110 (lv_at hl 1 rfl) ?_
    refine lv_iadd hx hb d_Ref_put_112 ?_
    refine tp_i (y := nI (73 + wn)) (by exact nI_add 73 wn) ?_
    refine lv_iload hx hb d_Ref_put_113 (lv_at hl 6 rfl) ?_
    refine va_iast (D := (dC, dI)) hx hb hK hP (dd_D hD rfl) hS 1 0 rfl rfl (i := nI (73 + wn)) (x := v) (pk_in (73 + wn) 155 (by omega)) d_Ref_put_115 ?_
    clear hP hS locs H
    intro H locs hP _ hS
    rw [show (nI (73 + wn) : Int32).toNatClampNeg = 73 + wn from pk_cl (73 + wn)] at hP
    replace hP : va_P (dC, dI) classes [oc ra 8 [.int (nI T), .int (nI Ac), .ref (rA 2), .ref (rA 3), .ref (rA 4), .ref (rA 5), .ref (rA 6), .ref (rA 7), .ref (rA 8), .ref (rA 9), .ref (rA 10), .ref (rA 11), .ref (rA 12), .ref (rA 13), .int ir, .ref (rA 15), .ref (rA 16), .ref (rA 17), .ref (rA 18), .int (nI md), .int (nI wd), .ref (rA 21), .ref (rA 22), .ref (rA 23), .int (nI mn), .ref (rA 25), .int (nI cb), .int mr, .ref (rA 28), .ref (rA 29), .ref (rA 30), .ref (rA 31), .ref (rA 32), .ref (rA 33), .ref (rA 34), .ref (rA 35), .int (nI ld), .int (nI gm), .ref (rA 38), .ref (rA 39), .ref (rA 40), .ref (rA 41), .ref (rA 42), .ref (rA 43), .ref (rA 44), .ref (rA 45), .int (nI my), .ref (rA 47)], ia (rA 16) (rK9 16) 155 (upd (upd (upd (mvF f0 (41 + 8 * x + pc) (41 + 8 * x + z)) (41 + (8 * x) + pc) (nI wn)) (37 + x) (nI (z + 1))) (73 + wn) v)] H := hP
    refine tp_pc (pc' := 116) (by rfl) ?_
    refine lv_aload_n hx hb d_Ref_put_116 rfl (lv_at hl 2 rfl) ?_
    refine va_get (D := (dC, dI)) (ci := 8) (v := .ref (rA 16)) (C := R_Ref) (T := F_Ref) (N := 48) hx hb hw i_Ref hown hK hP 0 rfl rfl 16 (by decide) (hw _ m_915) (fun _ h9 => h9) rfl d_Ref_put_117 ?_
    refine lv_bipush (v := 84) hx hb d_Ref_put_120 (by decide) ?_
    refine lv_iload hx hb d_Ref_put_122 (lv_at hl 1 rfl) ?_
    refine lv_iadd hx hb d_Ref_put_124 ?_
    refine tp_i (y := nI (84 + wn)) (by exact nI_add 84 wn) ?_
    refine lv_iload hx hb d_Ref_put_125 (lv_at hl 7 rfl) ?_
    refine va_iast (D := (dC, dI)) hx hb hK hP (dd_D hD rfl) hS 1 0 rfl rfl (i := nI (84 + wn)) (x := ad) (pk_in (84 + wn) 155 (by omega)) d_Ref_put_127 ?_
    clear hP hS locs H
    intro H locs hP _ hS
    rw [show (nI (84 + wn) : Int32).toNatClampNeg = 84 + wn from pk_cl (84 + wn)] at hP
    replace hP : va_P (dC, dI) classes [oc ra 8 [.int (nI T), .int (nI Ac), .ref (rA 2), .ref (rA 3), .ref (rA 4), .ref (rA 5), .ref (rA 6), .ref (rA 7), .ref (rA 8), .ref (rA 9), .ref (rA 10), .ref (rA 11), .ref (rA 12), .ref (rA 13), .int ir, .ref (rA 15), .ref (rA 16), .ref (rA 17), .ref (rA 18), .int (nI md), .int (nI wd), .ref (rA 21), .ref (rA 22), .ref (rA 23), .int (nI mn), .ref (rA 25), .int (nI cb), .int mr, .ref (rA 28), .ref (rA 29), .ref (rA 30), .ref (rA 31), .ref (rA 32), .ref (rA 33), .ref (rA 34), .ref (rA 35), .int (nI ld), .int (nI gm), .ref (rA 38), .ref (rA 39), .ref (rA 40), .ref (rA 41), .ref (rA 42), .ref (rA 43), .ref (rA 44), .ref (rA 45), .int (nI my), .ref (rA 47)], ia (rA 16) (rK9 16) 155 (upd (upd (upd (upd (mvF f0 (41 + 8 * x + pc) (41 + 8 * x + z)) (41 + (8 * x) + pc) (nI wn)) (37 + x) (nI (z + 1))) (73 + wn) v) (84 + wn) ad)] H := hP
    refine tp_pc (pc' := 128) (by rfl) ?_
    refine lv_aload_n hx hb d_Ref_put_128 rfl (lv_at hl 2 rfl) ?_
    refine va_get (D := (dC, dI)) (ci := 8) (v := .ref (rA 16)) (C := R_Ref) (T := F_Ref) (N := 48) hx hb hw i_Ref hown hK hP 0 rfl rfl 16 (by decide) (hw _ m_915) (fun _ h9 => h9) rfl d_Ref_put_129 ?_
    refine lv_sipush (v := 139) hx hb d_Ref_put_132 (by decide) ?_
    refine lv_iconst (v := 4) hx hb d_Ref_put_135 (by decide) ?_
    refine lv_iload_n hx hb d_Ref_put_136 rfl (lv_at hl 3 rfl) ?_
    refine lv_imul hx hb d_Ref_put_137 ?_
    refine tp_i (y := nI (4 * t)) (by exact pk_mul 4 t) ?_
    refine lv_iadd hx hb d_Ref_put_138 ?_
    refine tp_i (y := nI (139 + (4 * t))) (by exact nI_add 139 (4 * t)) ?_
    refine lv_iload_n hx hb d_Ref_put_139 rfl (lv_at hl 4 rfl) ?_
    refine lv_iadd hx hb d_Ref_put_140 ?_
    refine tp_i (y := nI (139 + (4 * t) + x)) (by exact nI_add (139 + (4 * t)) x) ?_
    refine lv_iload hx hb d_Ref_put_141 (lv_at hl 1 rfl) ?_
    refine va_iast (D := (dC, dI)) hx hb hK hP (dd_D hD rfl) hS 1 0 rfl rfl (i := nI (139 + (4 * t) + x)) (x := nI wn) (pk_in (139 + (4 * t) + x) 155 (by omega)) d_Ref_put_143 ?_
    clear hP hS locs H
    intro H locs hP _ hS
    rw [show (nI (139 + (4 * t) + x) : Int32).toNatClampNeg = 139 + (4 * t) + x from pk_cl (139 + (4 * t) + x)] at hP
    replace hP : va_P (dC, dI) classes [oc ra 8 [.int (nI T), .int (nI Ac), .ref (rA 2), .ref (rA 3), .ref (rA 4), .ref (rA 5), .ref (rA 6), .ref (rA 7), .ref (rA 8), .ref (rA 9), .ref (rA 10), .ref (rA 11), .ref (rA 12), .ref (rA 13), .int ir, .ref (rA 15), .ref (rA 16), .ref (rA 17), .ref (rA 18), .int (nI md), .int (nI wd), .ref (rA 21), .ref (rA 22), .ref (rA 23), .int (nI mn), .ref (rA 25), .int (nI cb), .int mr, .ref (rA 28), .ref (rA 29), .ref (rA 30), .ref (rA 31), .ref (rA 32), .ref (rA 33), .ref (rA 34), .ref (rA 35), .int (nI ld), .int (nI gm), .ref (rA 38), .ref (rA 39), .ref (rA 40), .ref (rA 41), .ref (rA 42), .ref (rA 43), .ref (rA 44), .ref (rA 45), .int (nI my), .ref (rA 47)], ia (rA 16) (rK9 16) 155 (upd (upd (upd (upd (upd (mvF f0 (41 + 8 * x + pc) (41 + 8 * x + z)) (41 + (8 * x) + pc) (nI wn)) (37 + x) (nI (z + 1))) (73 + wn) v) (84 + wn) ad) (139 + (4 * t) + x) (nI wn))] H := hP
    refine tp_pc (pc' := 144) (by rfl) ?_
    rw [hf0] at hP
    obtain ⟨B9, hB9⟩ : ∃ B9, B9 = puB sf t x pc z wn v ad := ⟨_, rfl⟩
    replace hP : va_P (dC, dI) classes [oc ra 8 [.int (nI T), .int (nI Ac), .ref (rA 2), .ref (rA 3), .ref (rA 4), .ref (rA 5), .ref (rA 6), .ref (rA 7), .ref (rA 8), .ref (rA 9), .ref (rA 10), .ref (rA 11), .ref (rA 12), .ref (rA 13), .int ir, .ref (rA 15), .ref (rA 16), .ref (rA 17), .ref (rA 18), .int (nI md), .int (nI wd), .ref (rA 21), .ref (rA 22), .ref (rA 23), .int (nI mn), .ref (rA 25), .int (nI cb), .int mr, .ref (rA 28), .ref (rA 29), .ref (rA 30), .ref (rA 31), .ref (rA 32), .ref (rA 33), .ref (rA 34), .ref (rA 35), .int (nI ld), .int (nI gm), .ref (rA 38), .ref (rA 39), .ref (rA 40), .ref (rA 41), .ref (rA 42), .ref (rA 43), .ref (rA 44), .ref (rA 45), .int (nI my), .ref (rA 47)], ia (rA 16) (rK9 16) 155 B9] H := by rw [hB9]; exact hP
    rw [← hB9]
    refine lv_iconst (v := 0) hx hb d_Ref_put_144 (by decide) ?_
    refine lv_istore (lv' := [(7, .int 0), (6, .int (nI wn)), (0, .ref ra), (1, .int (nI t)), (2, .int (nI x)), (3, .int (nI pc)), (4, .int v), (5, .int ad)]) hx hb d_Ref_put_145 hl (by decide) rfl ?_
    clear hl ls
    intro ls hl
    refine lv_iload hx hb d_Ref_put_147 (lv_at hl 0 rfl) ?_
    refine lv_iconst (v := 4) hx hb d_Ref_put_149 (by decide) ?_
    refine lv_icmp_ge (tgt := 189) hx hb d_Ref_put_150 (by decide) (fun c_1 => absurd c_1 (by decide)) (fun c_1 => ?_)
    refine tp_pc (pc' := 153) (by rfl) ?_
    refine lv_aload_n hx hb d_Ref_put_153 rfl (lv_at hl 2 rfl) ?_
    refine va_get (D := (dC, dI)) (ci := 8) (v := .ref (rA 16)) (C := R_Ref) (T := F_Ref) (N := 48) hx hb hw i_Ref hown hK hP 0 rfl rfl 16 (by decide) (hw _ m_915) (fun _ h9 => h9) rfl d_Ref_put_154 ?_
    refine lv_bipush (v := 95) hx hb d_Ref_put_157 (by decide) ?_
    refine lv_iconst (v := 4) hx hb d_Ref_put_159 (by decide) ?_
    refine lv_iload hx hb d_Ref_put_160 (lv_at hl 1 rfl) ?_
    refine lv_imul hx hb d_Ref_put_162 ?_
    refine tp_i (y := nI (4 * wn)) (by exact pk_mul 4 wn) ?_
    refine lv_iadd hx hb d_Ref_put_163 ?_
    refine tp_i (y := nI (95 + (4 * wn))) (by exact nI_add 95 (4 * wn)) ?_
    refine lv_iload hx hb d_Ref_put_164 (lv_at hl 0 rfl) ?_
    refine lv_iadd hx hb d_Ref_put_166 ?_
    refine tp_i (y := nI (95 + (4 * wn) + 0)) (by exact nI_add (95 + (4 * wn)) 0) ?_
    refine lv_aload_n hx hb d_Ref_put_167 rfl (lv_at hl 2 rfl) ?_
    refine va_get (D := (dC, dI)) (ci := 8) (v := .ref (rA 16)) (C := R_Ref) (T := F_Ref) (N := 48) hx hb hw i_Ref hown hK hP 0 rfl rfl 16 (by decide) (hw _ m_915) (fun _ h9 => h9) rfl d_Ref_put_168 ?_
    refine lv_sipush (v := 139) hx hb d_Ref_put_171 (by decide) ?_
    refine lv_iconst (v := 4) hx hb d_Ref_put_174 (by decide) ?_
    refine lv_iload_n hx hb d_Ref_put_175 rfl (lv_at hl 3 rfl) ?_
    refine lv_imul hx hb d_Ref_put_176 ?_
    refine tp_i (y := nI (4 * t)) (by exact pk_mul 4 t) ?_
    refine lv_iadd hx hb d_Ref_put_177 ?_
    refine tp_i (y := nI (139 + (4 * t))) (by exact nI_add 139 (4 * t)) ?_
    refine lv_iload hx hb d_Ref_put_178 (lv_at hl 0 rfl) ?_
    refine lv_iadd hx hb d_Ref_put_180 ?_
    refine tp_i (y := nI (139 + (4 * t) + 0)) (by exact nI_add (139 + (4 * t)) 0) ?_
    refine va_iald (D := (dC, dI)) hx hb hK hP 1 0 rfl rfl (i := nI (139 + (4 * t) + 0)) (pk_in (139 + (4 * t) + 0) 155 (by omega)) d_Ref_put_181 ?_
    refine tp_i (y := B9 (139 + (4 * t) + 0)) (by rw [show (nI (139 + (4 * t) + 0) : Int32).toNatClampNeg = 139 + (4 * t) + 0 from pk_cl (139 + (4 * t) + 0)]) ?_
    refine va_iast (D := (dC, dI)) hx hb hK hP (dd_D hD rfl) hS 1 0 rfl rfl (i := nI (95 + (4 * wn) + 0)) (x := B9 (139 + (4 * t) + 0)) (pk_in (95 + (4 * wn) + 0) 155 (by omega)) d_Ref_put_182 ?_
    clear hP hS locs H
    intro H locs hP _ hS
    rw [show (nI (95 + (4 * wn) + 0) : Int32).toNatClampNeg = 95 + (4 * wn) + 0 from pk_cl (95 + (4 * wn) + 0)] at hP
    replace hP : va_P (dC, dI) classes [oc ra 8 [.int (nI T), .int (nI Ac), .ref (rA 2), .ref (rA 3), .ref (rA 4), .ref (rA 5), .ref (rA 6), .ref (rA 7), .ref (rA 8), .ref (rA 9), .ref (rA 10), .ref (rA 11), .ref (rA 12), .ref (rA 13), .int ir, .ref (rA 15), .ref (rA 16), .ref (rA 17), .ref (rA 18), .int (nI md), .int (nI wd), .ref (rA 21), .ref (rA 22), .ref (rA 23), .int (nI mn), .ref (rA 25), .int (nI cb), .int mr, .ref (rA 28), .ref (rA 29), .ref (rA 30), .ref (rA 31), .ref (rA 32), .ref (rA 33), .ref (rA 34), .ref (rA 35), .int (nI ld), .int (nI gm), .ref (rA 38), .ref (rA 39), .ref (rA 40), .ref (rA 41), .ref (rA 42), .ref (rA 43), .ref (rA 44), .ref (rA 45), .int (nI my), .ref (rA 47)], ia (rA 16) (rK9 16) 155 (upd B9 (95 + (4 * wn) + 0) (B9 (139 + (4 * t) + 0)))] H := hP
    refine tp_pc (pc' := 183) (by rfl) ?_
    refine lv_iinc (v := 1) (lv' := [(7, .int 1), (6, .int (nI wn)), (0, .ref ra), (1, .int (nI t)), (2, .int (nI x)), (3, .int (nI pc)), (4, .int v), (5, .int ad)]) hx hb d_Ref_put_183 hl (k := 0) rfl (by first | rfl | decide) (by decide) rfl ?_
    clear hl ls
    intro ls hl
    refine lv_goto (tgt := 147) hx hb d_Ref_put_186 (by decide) ?_
    refine tp_pc (pc' := 147) (by rfl) ?_
    refine lv_iload hx hb d_Ref_put_147 (lv_at hl 0 rfl) ?_
    refine lv_iconst (v := 4) hx hb d_Ref_put_149 (by decide) ?_
    refine lv_icmp_ge (tgt := 189) hx hb d_Ref_put_150 (by decide) (fun c_2 => absurd c_2 (by decide)) (fun c_2 => ?_)
    refine tp_pc (pc' := 153) (by rfl) ?_
    refine lv_aload_n hx hb d_Ref_put_153 rfl (lv_at hl 2 rfl) ?_
    refine va_get (D := (dC, dI)) (ci := 8) (v := .ref (rA 16)) (C := R_Ref) (T := F_Ref) (N := 48) hx hb hw i_Ref hown hK hP 0 rfl rfl 16 (by decide) (hw _ m_915) (fun _ h9 => h9) rfl d_Ref_put_154 ?_
    refine lv_bipush (v := 95) hx hb d_Ref_put_157 (by decide) ?_
    refine lv_iconst (v := 4) hx hb d_Ref_put_159 (by decide) ?_
    refine lv_iload hx hb d_Ref_put_160 (lv_at hl 1 rfl) ?_
    refine lv_imul hx hb d_Ref_put_162 ?_
    refine tp_i (y := nI (4 * wn)) (by exact pk_mul 4 wn) ?_
    refine lv_iadd hx hb d_Ref_put_163 ?_
    refine tp_i (y := nI (95 + (4 * wn))) (by exact nI_add 95 (4 * wn)) ?_
    refine lv_iload hx hb d_Ref_put_164 (lv_at hl 0 rfl) ?_
    refine lv_iadd hx hb d_Ref_put_166 ?_
    refine tp_i (y := nI (95 + (4 * wn) + 1)) (by exact nI_add (95 + (4 * wn)) 1) ?_
    refine lv_aload_n hx hb d_Ref_put_167 rfl (lv_at hl 2 rfl) ?_
    refine va_get (D := (dC, dI)) (ci := 8) (v := .ref (rA 16)) (C := R_Ref) (T := F_Ref) (N := 48) hx hb hw i_Ref hown hK hP 0 rfl rfl 16 (by decide) (hw _ m_915) (fun _ h9 => h9) rfl d_Ref_put_168 ?_
    refine lv_sipush (v := 139) hx hb d_Ref_put_171 (by decide) ?_
    refine lv_iconst (v := 4) hx hb d_Ref_put_174 (by decide) ?_
    refine lv_iload_n hx hb d_Ref_put_175 rfl (lv_at hl 3 rfl) ?_
    refine lv_imul hx hb d_Ref_put_176 ?_
    refine tp_i (y := nI (4 * t)) (by exact pk_mul 4 t) ?_
    refine lv_iadd hx hb d_Ref_put_177 ?_
    refine tp_i (y := nI (139 + (4 * t))) (by exact nI_add 139 (4 * t)) ?_
    refine lv_iload hx hb d_Ref_put_178 (lv_at hl 0 rfl) ?_
    refine lv_iadd hx hb d_Ref_put_180 ?_
    refine tp_i (y := nI (139 + (4 * t) + 1)) (by exact nI_add (139 + (4 * t)) 1) ?_
    refine va_iald (D := (dC, dI)) hx hb hK hP 1 0 rfl rfl (i := nI (139 + (4 * t) + 1)) (pk_in (139 + (4 * t) + 1) 155 (by omega)) d_Ref_put_181 ?_
    refine tp_i (y := (upd B9 (95 + (4 * wn) + 0) (B9 (139 + (4 * t) + 0))) (139 + (4 * t) + 1)) (by rw [show (nI (139 + (4 * t) + 1) : Int32).toNatClampNeg = 139 + (4 * t) + 1 from pk_cl (139 + (4 * t) + 1)]) ?_
    refine va_iast (D := (dC, dI)) hx hb hK hP (dd_D hD rfl) hS 1 0 rfl rfl (i := nI (95 + (4 * wn) + 1)) (x := (upd B9 (95 + (4 * wn) + 0) (B9 (139 + (4 * t) + 0))) (139 + (4 * t) + 1)) (pk_in (95 + (4 * wn) + 1) 155 (by omega)) d_Ref_put_182 ?_
    clear hP hS locs H
    intro H locs hP _ hS
    rw [show (nI (95 + (4 * wn) + 1) : Int32).toNatClampNeg = 95 + (4 * wn) + 1 from pk_cl (95 + (4 * wn) + 1)] at hP
    replace hP : va_P (dC, dI) classes [oc ra 8 [.int (nI T), .int (nI Ac), .ref (rA 2), .ref (rA 3), .ref (rA 4), .ref (rA 5), .ref (rA 6), .ref (rA 7), .ref (rA 8), .ref (rA 9), .ref (rA 10), .ref (rA 11), .ref (rA 12), .ref (rA 13), .int ir, .ref (rA 15), .ref (rA 16), .ref (rA 17), .ref (rA 18), .int (nI md), .int (nI wd), .ref (rA 21), .ref (rA 22), .ref (rA 23), .int (nI mn), .ref (rA 25), .int (nI cb), .int mr, .ref (rA 28), .ref (rA 29), .ref (rA 30), .ref (rA 31), .ref (rA 32), .ref (rA 33), .ref (rA 34), .ref (rA 35), .int (nI ld), .int (nI gm), .ref (rA 38), .ref (rA 39), .ref (rA 40), .ref (rA 41), .ref (rA 42), .ref (rA 43), .ref (rA 44), .ref (rA 45), .int (nI my), .ref (rA 47)], ia (rA 16) (rK9 16) 155 (upd (upd B9 (95 + (4 * wn) + 0) (B9 (139 + (4 * t) + 0))) (95 + (4 * wn) + 1) ((upd B9 (95 + (4 * wn) + 0) (B9 (139 + (4 * t) + 0))) (139 + (4 * t) + 1)))] H := hP
    refine tp_pc (pc' := 183) (by rfl) ?_
    refine lv_iinc (v := 2) (lv' := [(7, .int 2), (6, .int (nI wn)), (0, .ref ra), (1, .int (nI t)), (2, .int (nI x)), (3, .int (nI pc)), (4, .int v), (5, .int ad)]) hx hb d_Ref_put_183 hl (k := 0) rfl (by first | rfl | decide) (by decide) rfl ?_
    clear hl ls
    intro ls hl
    refine lv_goto (tgt := 147) hx hb d_Ref_put_186 (by decide) ?_
    refine tp_pc (pc' := 147) (by rfl) ?_
    refine lv_iload hx hb d_Ref_put_147 (lv_at hl 0 rfl) ?_
    refine lv_iconst (v := 4) hx hb d_Ref_put_149 (by decide) ?_
    refine lv_icmp_ge (tgt := 189) hx hb d_Ref_put_150 (by decide) (fun c_3 => absurd c_3 (by decide)) (fun c_3 => ?_)
    refine tp_pc (pc' := 153) (by rfl) ?_
    refine lv_aload_n hx hb d_Ref_put_153 rfl (lv_at hl 2 rfl) ?_
    refine va_get (D := (dC, dI)) (ci := 8) (v := .ref (rA 16)) (C := R_Ref) (T := F_Ref) (N := 48) hx hb hw i_Ref hown hK hP 0 rfl rfl 16 (by decide) (hw _ m_915) (fun _ h9 => h9) rfl d_Ref_put_154 ?_
    refine lv_bipush (v := 95) hx hb d_Ref_put_157 (by decide) ?_
    refine lv_iconst (v := 4) hx hb d_Ref_put_159 (by decide) ?_
    refine lv_iload hx hb d_Ref_put_160 (lv_at hl 1 rfl) ?_
    refine lv_imul hx hb d_Ref_put_162 ?_
    refine tp_i (y := nI (4 * wn)) (by exact pk_mul 4 wn) ?_
    refine lv_iadd hx hb d_Ref_put_163 ?_
    refine tp_i (y := nI (95 + (4 * wn))) (by exact nI_add 95 (4 * wn)) ?_
    refine lv_iload hx hb d_Ref_put_164 (lv_at hl 0 rfl) ?_
    refine lv_iadd hx hb d_Ref_put_166 ?_
    refine tp_i (y := nI (95 + (4 * wn) + 2)) (by exact nI_add (95 + (4 * wn)) 2) ?_
    refine lv_aload_n hx hb d_Ref_put_167 rfl (lv_at hl 2 rfl) ?_
    refine va_get (D := (dC, dI)) (ci := 8) (v := .ref (rA 16)) (C := R_Ref) (T := F_Ref) (N := 48) hx hb hw i_Ref hown hK hP 0 rfl rfl 16 (by decide) (hw _ m_915) (fun _ h9 => h9) rfl d_Ref_put_168 ?_
    refine lv_sipush (v := 139) hx hb d_Ref_put_171 (by decide) ?_
    refine lv_iconst (v := 4) hx hb d_Ref_put_174 (by decide) ?_
    refine lv_iload_n hx hb d_Ref_put_175 rfl (lv_at hl 3 rfl) ?_
    refine lv_imul hx hb d_Ref_put_176 ?_
    refine tp_i (y := nI (4 * t)) (by exact pk_mul 4 t) ?_
    refine lv_iadd hx hb d_Ref_put_177 ?_
    refine tp_i (y := nI (139 + (4 * t))) (by exact nI_add 139 (4 * t)) ?_
    refine lv_iload hx hb d_Ref_put_178 (lv_at hl 0 rfl) ?_
    refine lv_iadd hx hb d_Ref_put_180 ?_
    refine tp_i (y := nI (139 + (4 * t) + 2)) (by exact nI_add (139 + (4 * t)) 2) ?_
    refine va_iald (D := (dC, dI)) hx hb hK hP 1 0 rfl rfl (i := nI (139 + (4 * t) + 2)) (pk_in (139 + (4 * t) + 2) 155 (by omega)) d_Ref_put_181 ?_
    refine tp_i (y := (upd (upd B9 (95 + (4 * wn) + 0) (B9 (139 + (4 * t) + 0))) (95 + (4 * wn) + 1) ((upd B9 (95 + (4 * wn) + 0) (B9 (139 + (4 * t) + 0))) (139 + (4 * t) + 1))) (139 + (4 * t) + 2)) (by rw [show (nI (139 + (4 * t) + 2) : Int32).toNatClampNeg = 139 + (4 * t) + 2 from pk_cl (139 + (4 * t) + 2)]) ?_
    refine va_iast (D := (dC, dI)) hx hb hK hP (dd_D hD rfl) hS 1 0 rfl rfl (i := nI (95 + (4 * wn) + 2)) (x := (upd (upd B9 (95 + (4 * wn) + 0) (B9 (139 + (4 * t) + 0))) (95 + (4 * wn) + 1) ((upd B9 (95 + (4 * wn) + 0) (B9 (139 + (4 * t) + 0))) (139 + (4 * t) + 1))) (139 + (4 * t) + 2)) (pk_in (95 + (4 * wn) + 2) 155 (by omega)) d_Ref_put_182 ?_
    clear hP hS locs H
    intro H locs hP _ hS
    rw [show (nI (95 + (4 * wn) + 2) : Int32).toNatClampNeg = 95 + (4 * wn) + 2 from pk_cl (95 + (4 * wn) + 2)] at hP
    replace hP : va_P (dC, dI) classes [oc ra 8 [.int (nI T), .int (nI Ac), .ref (rA 2), .ref (rA 3), .ref (rA 4), .ref (rA 5), .ref (rA 6), .ref (rA 7), .ref (rA 8), .ref (rA 9), .ref (rA 10), .ref (rA 11), .ref (rA 12), .ref (rA 13), .int ir, .ref (rA 15), .ref (rA 16), .ref (rA 17), .ref (rA 18), .int (nI md), .int (nI wd), .ref (rA 21), .ref (rA 22), .ref (rA 23), .int (nI mn), .ref (rA 25), .int (nI cb), .int mr, .ref (rA 28), .ref (rA 29), .ref (rA 30), .ref (rA 31), .ref (rA 32), .ref (rA 33), .ref (rA 34), .ref (rA 35), .int (nI ld), .int (nI gm), .ref (rA 38), .ref (rA 39), .ref (rA 40), .ref (rA 41), .ref (rA 42), .ref (rA 43), .ref (rA 44), .ref (rA 45), .int (nI my), .ref (rA 47)], ia (rA 16) (rK9 16) 155 (upd (upd (upd B9 (95 + (4 * wn) + 0) (B9 (139 + (4 * t) + 0))) (95 + (4 * wn) + 1) ((upd B9 (95 + (4 * wn) + 0) (B9 (139 + (4 * t) + 0))) (139 + (4 * t) + 1))) (95 + (4 * wn) + 2) ((upd (upd B9 (95 + (4 * wn) + 0) (B9 (139 + (4 * t) + 0))) (95 + (4 * wn) + 1) ((upd B9 (95 + (4 * wn) + 0) (B9 (139 + (4 * t) + 0))) (139 + (4 * t) + 1))) (139 + (4 * t) + 2)))] H := hP
    refine tp_pc (pc' := 183) (by rfl) ?_
    refine lv_iinc (v := 3) (lv' := [(7, .int 3), (6, .int (nI wn)), (0, .ref ra), (1, .int (nI t)), (2, .int (nI x)), (3, .int (nI pc)), (4, .int v), (5, .int ad)]) hx hb d_Ref_put_183 hl (k := 0) rfl (by first | rfl | decide) (by decide) rfl ?_
    clear hl ls
    intro ls hl
    refine lv_goto (tgt := 147) hx hb d_Ref_put_186 (by decide) ?_
    refine tp_pc (pc' := 147) (by rfl) ?_
    refine lv_iload hx hb d_Ref_put_147 (lv_at hl 0 rfl) ?_
    refine lv_iconst (v := 4) hx hb d_Ref_put_149 (by decide) ?_
    refine lv_icmp_ge (tgt := 189) hx hb d_Ref_put_150 (by decide) (fun c_4 => absurd c_4 (by decide)) (fun c_4 => ?_)
    refine tp_pc (pc' := 153) (by rfl) ?_
    refine lv_aload_n hx hb d_Ref_put_153 rfl (lv_at hl 2 rfl) ?_
    refine va_get (D := (dC, dI)) (ci := 8) (v := .ref (rA 16)) (C := R_Ref) (T := F_Ref) (N := 48) hx hb hw i_Ref hown hK hP 0 rfl rfl 16 (by decide) (hw _ m_915) (fun _ h9 => h9) rfl d_Ref_put_154 ?_
    refine lv_bipush (v := 95) hx hb d_Ref_put_157 (by decide) ?_
    refine lv_iconst (v := 4) hx hb d_Ref_put_159 (by decide) ?_
    refine lv_iload hx hb d_Ref_put_160 (lv_at hl 1 rfl) ?_
    refine lv_imul hx hb d_Ref_put_162 ?_
    refine tp_i (y := nI (4 * wn)) (by exact pk_mul 4 wn) ?_
    refine lv_iadd hx hb d_Ref_put_163 ?_
    refine tp_i (y := nI (95 + (4 * wn))) (by exact nI_add 95 (4 * wn)) ?_
    refine lv_iload hx hb d_Ref_put_164 (lv_at hl 0 rfl) ?_
    refine lv_iadd hx hb d_Ref_put_166 ?_
    refine tp_i (y := nI (95 + (4 * wn) + 3)) (by exact nI_add (95 + (4 * wn)) 3) ?_
    refine lv_aload_n hx hb d_Ref_put_167 rfl (lv_at hl 2 rfl) ?_
    refine va_get (D := (dC, dI)) (ci := 8) (v := .ref (rA 16)) (C := R_Ref) (T := F_Ref) (N := 48) hx hb hw i_Ref hown hK hP 0 rfl rfl 16 (by decide) (hw _ m_915) (fun _ h9 => h9) rfl d_Ref_put_168 ?_
    refine lv_sipush (v := 139) hx hb d_Ref_put_171 (by decide) ?_
    refine lv_iconst (v := 4) hx hb d_Ref_put_174 (by decide) ?_
    refine lv_iload_n hx hb d_Ref_put_175 rfl (lv_at hl 3 rfl) ?_
    refine lv_imul hx hb d_Ref_put_176 ?_
    refine tp_i (y := nI (4 * t)) (by exact pk_mul 4 t) ?_
    refine lv_iadd hx hb d_Ref_put_177 ?_
    refine tp_i (y := nI (139 + (4 * t))) (by exact nI_add 139 (4 * t)) ?_
    refine lv_iload hx hb d_Ref_put_178 (lv_at hl 0 rfl) ?_
    refine lv_iadd hx hb d_Ref_put_180 ?_
    refine tp_i (y := nI (139 + (4 * t) + 3)) (by exact nI_add (139 + (4 * t)) 3) ?_
    refine va_iald (D := (dC, dI)) hx hb hK hP 1 0 rfl rfl (i := nI (139 + (4 * t) + 3)) (pk_in (139 + (4 * t) + 3) 155 (by omega)) d_Ref_put_181 ?_
    refine tp_i (y := (upd (upd (upd B9 (95 + (4 * wn) + 0) (B9 (139 + (4 * t) + 0))) (95 + (4 * wn) + 1) ((upd B9 (95 + (4 * wn) + 0) (B9 (139 + (4 * t) + 0))) (139 + (4 * t) + 1))) (95 + (4 * wn) + 2) ((upd (upd B9 (95 + (4 * wn) + 0) (B9 (139 + (4 * t) + 0))) (95 + (4 * wn) + 1) ((upd B9 (95 + (4 * wn) + 0) (B9 (139 + (4 * t) + 0))) (139 + (4 * t) + 1))) (139 + (4 * t) + 2))) (139 + (4 * t) + 3)) (by rw [show (nI (139 + (4 * t) + 3) : Int32).toNatClampNeg = 139 + (4 * t) + 3 from pk_cl (139 + (4 * t) + 3)]) ?_
    refine va_iast (D := (dC, dI)) hx hb hK hP (dd_D hD rfl) hS 1 0 rfl rfl (i := nI (95 + (4 * wn) + 3)) (x := (upd (upd (upd B9 (95 + (4 * wn) + 0) (B9 (139 + (4 * t) + 0))) (95 + (4 * wn) + 1) ((upd B9 (95 + (4 * wn) + 0) (B9 (139 + (4 * t) + 0))) (139 + (4 * t) + 1))) (95 + (4 * wn) + 2) ((upd (upd B9 (95 + (4 * wn) + 0) (B9 (139 + (4 * t) + 0))) (95 + (4 * wn) + 1) ((upd B9 (95 + (4 * wn) + 0) (B9 (139 + (4 * t) + 0))) (139 + (4 * t) + 1))) (139 + (4 * t) + 2))) (139 + (4 * t) + 3)) (pk_in (95 + (4 * wn) + 3) 155 (by omega)) d_Ref_put_182 ?_
    clear hP hS locs H
    intro H locs hP _ hS
    rw [show (nI (95 + (4 * wn) + 3) : Int32).toNatClampNeg = 95 + (4 * wn) + 3 from pk_cl (95 + (4 * wn) + 3)] at hP
    replace hP : va_P (dC, dI) classes [oc ra 8 [.int (nI T), .int (nI Ac), .ref (rA 2), .ref (rA 3), .ref (rA 4), .ref (rA 5), .ref (rA 6), .ref (rA 7), .ref (rA 8), .ref (rA 9), .ref (rA 10), .ref (rA 11), .ref (rA 12), .ref (rA 13), .int ir, .ref (rA 15), .ref (rA 16), .ref (rA 17), .ref (rA 18), .int (nI md), .int (nI wd), .ref (rA 21), .ref (rA 22), .ref (rA 23), .int (nI mn), .ref (rA 25), .int (nI cb), .int mr, .ref (rA 28), .ref (rA 29), .ref (rA 30), .ref (rA 31), .ref (rA 32), .ref (rA 33), .ref (rA 34), .ref (rA 35), .int (nI ld), .int (nI gm), .ref (rA 38), .ref (rA 39), .ref (rA 40), .ref (rA 41), .ref (rA 42), .ref (rA 43), .ref (rA 44), .ref (rA 45), .int (nI my), .ref (rA 47)], ia (rA 16) (rK9 16) 155 (upd (upd (upd (upd B9 (95 + (4 * wn) + 0) (B9 (139 + (4 * t) + 0))) (95 + (4 * wn) + 1) ((upd B9 (95 + (4 * wn) + 0) (B9 (139 + (4 * t) + 0))) (139 + (4 * t) + 1))) (95 + (4 * wn) + 2) ((upd (upd B9 (95 + (4 * wn) + 0) (B9 (139 + (4 * t) + 0))) (95 + (4 * wn) + 1) ((upd B9 (95 + (4 * wn) + 0) (B9 (139 + (4 * t) + 0))) (139 + (4 * t) + 1))) (139 + (4 * t) + 2))) (95 + (4 * wn) + 3) ((upd (upd (upd B9 (95 + (4 * wn) + 0) (B9 (139 + (4 * t) + 0))) (95 + (4 * wn) + 1) ((upd B9 (95 + (4 * wn) + 0) (B9 (139 + (4 * t) + 0))) (139 + (4 * t) + 1))) (95 + (4 * wn) + 2) ((upd (upd B9 (95 + (4 * wn) + 0) (B9 (139 + (4 * t) + 0))) (95 + (4 * wn) + 1) ((upd B9 (95 + (4 * wn) + 0) (B9 (139 + (4 * t) + 0))) (139 + (4 * t) + 1))) (139 + (4 * t) + 2))) (139 + (4 * t) + 3)))] H := hP
    refine tp_pc (pc' := 183) (by rfl) ?_
    refine lv_iinc (v := 4) (lv' := [(7, .int 4), (6, .int (nI wn)), (0, .ref ra), (1, .int (nI t)), (2, .int (nI x)), (3, .int (nI pc)), (4, .int v), (5, .int ad)]) hx hb d_Ref_put_183 hl (k := 0) rfl (by first | rfl | decide) (by decide) rfl ?_
    clear hl ls
    intro ls hl
    refine lv_goto (tgt := 147) hx hb d_Ref_put_186 (by decide) ?_
    refine tp_pc (pc' := 147) (by rfl) ?_
    refine lv_iload hx hb d_Ref_put_147 (lv_at hl 0 rfl) ?_
    refine lv_iconst (v := 4) hx hb d_Ref_put_149 (by decide) ?_
    refine lv_icmp_ge (tgt := 189) hx hb d_Ref_put_150 (by decide) (fun c_5 => ?_) (fun c_5 => absurd c_5 (by decide))
    refine tp_pc (pc' := 189) (by rfl) ?_
    replace hP : va_P (dC, dI) classes [oc ra 8 [.int (nI T), .int (nI Ac), .ref (rA 2), .ref (rA 3), .ref (rA 4), .ref (rA 5), .ref (rA 6), .ref (rA 7), .ref (rA 8), .ref (rA 9), .ref (rA 10), .ref (rA 11), .ref (rA 12), .ref (rA 13), .int ir, .ref (rA 15), .ref (rA 16), .ref (rA 17), .ref (rA 18), .int (nI md), .int (nI wd), .ref (rA 21), .ref (rA 22), .ref (rA 23), .int (nI mn), .ref (rA 25), .int (nI cb), .int mr, .ref (rA 28), .ref (rA 29), .ref (rA 30), .ref (rA 31), .ref (rA 32), .ref (rA 33), .ref (rA 34), .ref (rA 35), .int (nI ld), .int (nI gm), .ref (rA 38), .ref (rA 39), .ref (rA 40), .ref (rA 41), .ref (rA 42), .ref (rA 43), .ref (rA 44), .ref (rA 45), .int (nI my), .ref (rA 47)], ia (rA 16) (rK9 16) 155 (kwF B9 t wn 4)] H := hP
    obtain ⟨hP9, hD9, -⟩ := cut3 (wc := [oc ra 8 [.int (nI T), .int (nI Ac), .ref (rA 2), .ref (rA 3), .ref (rA 4), .ref (rA 5), .ref (rA 6), .ref (rA 7), .ref (rA 8), .ref (rA 9), .ref (rA 10), .ref (rA 11), .ref (rA 12), .ref (rA 13), .int ir, .ref (rA 15), .ref (rA 16), .ref (rA 17), .ref (rA 18), .int (nI md), .int (nI wd), .ref (rA 21), .ref (rA 22), .ref (rA 23), .int (nI mn), .ref (rA 25), .int (nI cb), .int mr, .ref (rA 28), .ref (rA 29), .ref (rA 30), .ref (rA 31), .ref (rA 32), .ref (rA 33), .ref (rA 34), .ref (rA 35), .int (nI ld), .int (nI gm), .ref (rA 38), .ref (rA 39), .ref (rA 40), .ref (rA 41), .ref (rA 42), .ref (rA 43), .ref (rA 44), .ref (rA 45), .int (nI my), .ref (rA 47)], ia (rA 16) (rK9 16) 155 (kwF B9 t wn 4)]) hP hD rfl hS hA [0, 1] (by decide +kernel) rfl
    have hK9 := hK.sub (tys' := []) [] rfl
    refine W.widen (k := 0) (n := 0) (by exact Nat.le_of_ble_eq_true rfl) (by exact Nat.le_of_ble_eq_true rfl) ?_
    exact W.vret hx hb hr (fun t9 ht9 hW => ⟨⟨(), rfl, trivial, by rw [ht9]; exact hP9, va_K.moved hW.alike hK9, hD9⟩, hS.F ht9⟩) hS.2.2 d_Ref_put_189
