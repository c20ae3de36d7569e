set_option maxHeartbeats 4000000 in
set_option maxRecDepth 100000 in
theorem gen_Ref_beginState_b (l : Launch) (dC : Nat → ClassId) (dI : Nat → Nat → Nat) (ra : Nat) (rA : Nat → Nat) (rK9 : Nat → ClassId) (T Ac md wd mn cb ld gm my : Nat) (ir mr : Int32) (sf : Nat → Int32) (hmd : md < 3) (sz : Nat) : Met l y_Ref_beginState w_Ref_beginState ({ frames := 0, cells := 0, slots := 0, locals := 0 }) (va_Pc [.ref ra] (fun U => U.heap.size = sz ∧ va_P (dC, dI) classes [oc ra 8 [.int (nI T), .int (nI Ac), .ref (rA 2), .ref (rA 3), .ref (rA 4), .ref (rA 5), .ref (rA 6), .ref (rA 7), .ref (rA 8), .ref (rA 9), .ref (rA 10), .ref (rA 11), .ref (rA 12), .ref (rA 13), .int ir, .ref (rA 15), .ref (rA 16), .ref (rA 17), .ref (rA 18), .int (nI md), .int (nI wd), .ref (rA 21), .ref (rA 22), .ref (rA 23), .int (nI mn), .ref (rA 25), .int (nI cb), .int mr, .ref (rA 28), .ref (rA 29), .ref (rA 30), .ref (rA 31), .ref (rA 32), .ref (rA 33), .ref (rA 34), .ref (rA 35), .int (nI ld), .int (nI gm), .ref (rA 38), .ref (rA 39), .ref (rA 40), .ref (rA 41), .ref (rA 42), .ref (rA 43), .ref (rA 44), .ref (rA 45), .int (nI my), .ref (rA 47)], ia (rA 16) (rK9 16) 155 sf] U.heap ∧ va_K (dC, dI) classes [((rK9 16), .int)] U ∧ va_D (fun _ => True) [oc ra 8 [.int (nI T), .int (nI Ac), .ref (rA 2), .ref (rA 3), .ref (rA 4), .ref (rA 5), .ref (rA 6), .ref (rA 7), .ref (rA 8), .ref (rA 9), .ref (rA 10), .ref (rA 11), .ref (rA 12), .ref (rA 13), .int ir, .ref (rA 15), .ref (rA 16), .ref (rA 17), .ref (rA 18), .int (nI md), .int (nI wd), .ref (rA 21), .ref (rA 22), .ref (rA 23), .int (nI mn), .ref (rA 25), .int (nI cb), .int mr, .ref (rA 28), .ref (rA 29), .ref (rA 30), .ref (rA 31), .ref (rA 32), .ref (rA 33), .ref (rA 34), .ref (rA 35), .int (nI ld), .int (nI gm), .ref (rA 38), .ref (rA 39), .ref (rA 40), .ref (rA 41), .ref (rA 42), .ref (rA 43), .ref (rA 44), .ref (rA 45), .int (nI my), .ref (rA 47)], ia (rA 16) (rK9 16) 155 sf] ∧ nw U)) (va_Qv (fun _ : Unit => True) (fun _ t9 => va_P (dC, dI) classes [oc ra 8 [.int (nI T), .int (nI Ac), .ref (rA 2), .ref (rA 3), .ref (rA 4), .ref (rA 5), .ref (rA 6), .ref (rA 7), .ref (rA 8), .ref (rA 9), .ref (rA 10), .ref (rA 11), .ref (rA 12), .ref (rA 13), .int ir, .ref (rA 15), .ref (rA 16), .ref (rA 17), .ref (rA 18), .int (nI md), .int (nI wd), .ref (rA 21), .ref (rA 22), .ref (rA 23), .int (nI mn), .ref (rA 25), .int (nI cb), .int mr, .ref (rA 28), .ref (rA 29), .ref (rA 30), .ref (rA 31), .ref (rA 32), .ref (rA 33), .ref (rA 34), .ref (rA 35), .int (nI ld), .int (nI gm), .ref (rA 38), .ref (rA 39), .ref (rA 40), .ref (rA 41), .ref (rA 42), .ref (rA 43), .ref (rA 44), .ref (rA 45), .int (nI my), .ref (rA 47)], ia (rA 16) (rK9 16) 155 (fun _ => 0)] t9.heap ∧ va_K (dC, dI) classes [] t9 ∧ va_D (va_A [oc ra 8 [.int (nI T), .int (nI Ac), .ref (rA 2), .ref (rA 3), .ref (rA 4), .ref (rA 5), .ref (rA 6), .ref (rA 7), .ref (rA 8), .ref (rA 9), .ref (rA 10), .ref (rA 11), .ref (rA 12), .ref (rA 13), .int ir, .ref (rA 15), .ref (rA 16), .ref (rA 17), .ref (rA 18), .int (nI md), .int (nI wd), .ref (rA 21), .ref (rA 22), .ref (rA 23), .int (nI mn), .ref (rA 25), .int (nI cb), .int mr, .ref (rA 28), .ref (rA 29), .ref (rA 30), .ref (rA 31), .ref (rA 32), .ref (rA 33), .ref (rA 34), .ref (rA 35), .int (nI ld), .int (nI gm), .ref (rA 38), .ref (rA 39), .ref (rA 40), .ref (rA 41), .ref (rA 42), .ref (rA 43), .ref (rA 44), .ref (rA 45), .int (nI my), .ref (rA 47)], ia (rA 16) (rK9 16) 155 sf] sz) [oc ra 8 [.int (nI T), .int (nI Ac), .ref (rA 2), .ref (rA 3), .ref (rA 4), .ref (rA 5), .ref (rA 6), .ref (rA 7), .ref (rA 8), .ref (rA 9), .ref (rA 10), .ref (rA 11), .ref (rA 12), .ref (rA 13), .int ir, .ref (rA 15), .ref (rA 16), .ref (rA 17), .ref (rA 18), .int (nI md), .int (nI wd), .ref (rA 21), .ref (rA 22), .ref (rA 23), .int (nI mn), .ref (rA 25), .int (nI cb), .int mr, .ref (rA 28), .ref (rA 29), .ref (rA 30), .ref (rA 31), .ref (rA 32), .ref (rA 33), .ref (rA 34), .ref (rA 35), .int (nI ld), .int (nI gm), .ref (rA 38), .ref (rA 39), .ref (rA 40), .ref (rA 41), .ref (rA 42), .ref (rA 43), .ref (rA 44), .ref (rA 45), .int (nI my), .ref (rA 47)], ia (rA 16) (rK9 16) 155 (fun _ => 0)]) (va_A [oc ra 8 [.int (nI T), .int (nI Ac), .ref (rA 2), .ref (rA 3), .ref (rA 4), .ref (rA 5), .ref (rA 6), .ref (rA 7), .ref (rA 8), .ref (rA 9), .ref (rA 10), .ref (rA 11), .ref (rA 12), .ref (rA 13), .int ir, .ref (rA 15), .ref (rA 16), .ref (rA 17), .ref (rA 18), .int (nI md), .int (nI wd), .ref (rA 21), .ref (rA 22), .ref (rA 23), .int (nI mn), .ref (rA 25), .int (nI cb), .int mr, .ref (rA 28), .ref (rA 29), .ref (rA 30), .ref (rA 31), .ref (rA 32), .ref (rA 33), .ref (rA 34), .ref (rA 35), .int (nI ld), .int (nI gm), .ref (rA 38), .ref (rA 39), .ref (rA 40), .ref (rA 41), .ref (rA 42), .ref (rA 43), .ref (rA 44), .ref (rA 45), .int (nI my), .ref (rA 47)], ia (rA 16) (rK9 16) 155 sf] sz)) 0 0 (va_A [oc ra 8 [.int (nI T), .int (nI Ac), .ref (rA 2), .ref (rA 3), .ref (rA 4), .ref (rA 5), .ref (rA 6), .ref (rA 7), .ref (rA 8), .ref (rA 9), .ref (rA 10), .ref (rA 11), .ref (rA 12), .ref (rA 13), .int ir, .ref (rA 15), .ref (rA 16), .ref (rA 17), .ref (rA 18), .int (nI md), .int (nI wd), .ref (rA 21), .ref (rA 22), .ref (rA 23), .int (nI mn), .ref (rA 25), .int (nI cb), .int mr, .ref (rA 28), .ref (rA 29), .ref (rA 30), .ref (rA 31), .ref (rA 32), .ref (rA 33), .ref (rA 34), .ref (rA 35), .int (nI ld), .int (nI gm), .ref (rA 38), .ref (rA 39), .ref (rA 40), .ref (rA 41), .ref (rA 42), .ref (rA 43), .ref (rA 44), .ref (rA 45), .int (nI my), .ref (rA 47)], ia (rA 16) (rK9 16) 155 sf] sz) := by
  refine Met.ofW (cc := b_Ref_beginState) (maxL := 3) (ret := none) (by decide) rfl ?_
  intro p e0 s m args below meth c s₁ B hml hv
  obtain ⟨rfl, hsz, hP, hK, hD0, hn⟩ := hv
  have hx := B.exec
  have hb := B.bytes
  have hr := B.returns
  have hw := fun w (h : w ∈ wt) => atoms_spec (ws := w_Ref_beginState) B.pre w (List.mem_cons_of_mem _ h)
  have hown : s.vm.findClass R_Ref = some m.cls := findClass_of_methodNamed B.named
  have hlocks := B.notSynchronized
  subst hsz
  have hD1 := hD0.self (sz := s.heap.size)
  generalize hAe : va_A [oc ra 8 [.int (nI T), .int (nI Ac), .ref (rA 2), .ref (rA 3), .ref (rA 4), .ref (rA 5), .ref (rA 6), .ref (rA 7), .ref (rA 8), .ref (rA 9), .ref (rA 10), .ref (rA 11), .ref (rA 12), .ref (rA 13), .int ir, .ref (rA 15), .ref (rA 16), .ref (rA 17), .ref (rA 18), .int (nI md), .int (nI wd), .ref (rA 21), .ref (rA 22), .ref (rA 23), .int (nI mn), .ref (rA 25), .int (nI cb), .int mr, .ref (rA 28), .ref (rA 29), .ref (rA 30), .ref (rA 31), .ref (rA 32), .ref (rA 33), .ref (rA 34), .ref (rA 35), .int (nI ld), .int (nI gm), .ref (rA 38), .ref (rA 39), .ref (rA 40), .ref (rA 41), .ref (rA 42), .ref (rA 43), .ref (rA 44), .ref (rA 45), .int (nI my), .ref (rA 47)], ia (rA 16) (rK9 16) 155 sf] s.heap.size = A at hD1 ⊢
  have hA : ∀ q : Nat, s.heap.size ≤ q → A q := fun q h => by rw [← hAe]; exact Or.inr h
  have hD : dd A [ra, (rA 16)] := dd_of hD1 rfl
  clear hAe hD0 hD1
  have hS : va_S A s.heap s.heap [] := va_S.rf
  replace hP : va_P (dC, dI) classes [oc ra 8 [.int (nI T), .int (nI Ac), .ref (rA 2), .ref (rA 3), .ref (rA 4), .ref (rA 5), .ref (rA 6), .ref (rA 7), .ref (rA 8), .ref (rA 9), .ref (rA 10), .ref (rA 11), .ref (rA 12), .ref (rA 13), .int ir, .ref (rA 15), .ref (rA 16), .ref (rA 17), .ref (rA 18), .int (nI md), .int (nI wd), .ref (rA 21), .ref (rA 22), .ref (rA 23), .int (nI mn), .ref (rA 25), .int (nI cb), .int mr, .ref (rA 28), .ref (rA 29), .ref (rA 30), .ref (rA 31), .ref (rA 32), .ref (rA 33), .ref (rA 34), .ref (rA 35), .int (nI ld), .int (nI gm), .ref (rA 38), .ref (rA 39), .ref (rA 40), .ref (rA 41), .ref (rA 42), .ref (rA 43), .ref (rA 44), .ref (rA 45), .int (nI my), .ref (rA 47)], ia (rA 16) (rK9 16) 155 sf] s.heap := hP
  have hl := lv_entry ([.ref ra]) (n := 3) (Nat.le_of_ble_eq_true rfl)
  rw [lg_entry_eq]
  generalize (lg_sl ([.ref ra]) ++ List.replicate (3 - (lg_sl ([.ref ra])).length) Slot.unset).toArray = ls at hl ⊢
  replace hl : lv_has ls 3 [(0, .ref ra)] := hl
  refine lv_iconst (v := 0) hx hb d_Ref_beginState_0 (by decide) ?_
  refine lv_istore_n (lv' := [(1, .int 0), (0, .ref ra)]) hx hb d_Ref_beginState_1 rfl hl (by decide) rfl ?_
  clear hl ls
  intro ls hl
  refine lp_n 155 (fun i1 H locs ls => ∃ g : Nat → Int32, (∀ j, j < i1 → g j = 0) ∧ va_P (dC, dI) classes [oc ra 8 [.int (nI T), .int (nI Ac), .ref (rA 2), .ref (rA 3), .ref (rA 4), .ref (rA 5), .ref (rA 6), .ref (rA 7), .ref (rA 8), .ref (rA 9), .ref (rA 10), .ref (rA 11), .ref (rA 12), .ref (rA 13), .int ir, .ref (rA 15), .ref (rA 16), .ref (rA 17), .ref (rA 18), .int (nI md), .int (nI wd), .ref (rA 21), .ref (rA 22), .ref (rA 23), .int (nI mn), .ref (rA 25), .int (nI cb), .int mr, .ref (rA 28), .ref (rA 29), .ref (rA 30), .ref (rA 31), .ref (rA 32), .ref (rA 33), .ref (rA 34), .ref (rA 35), .int (nI ld), .int (nI gm), .ref (rA 38), .ref (rA 39), .ref (rA 40), .ref (rA 41), .ref (rA 42), .ref (rA 43), .ref (rA 44), .ref (rA 45), .int (nI my), .ref (rA 47)], ia (rA 16) (rK9 16) 155 g] H ∧ va_S A s.heap H locs ∧ lv_has ls 3 [(1, .int (nI i1)), (0, .ref ra)]) ⟨sf, fun j hj => absurd hj (Nat.not_lt_zero j), hP, hS, hl⟩ ?_ ?_
  · intro i1 H locs ls hi1 hI ih
    obtain ⟨g, hg, hP, hS, hl⟩ := hI
    refine lv_iload_n hx hb d_Ref_beginState_2 rfl (lv_at hl 0 rfl) ?_
    refine lv_sipush (v := 155) hx hb d_Ref_beginState_3 (by decide) ?_
    refine lv_icmp_ge (tgt := 22) hx hb d_Ref_beginState_6 (by decide) (fun c9 => absurd c9 (nI_ge (a := i1) (b := 155) hi1 (by decide))) (fun c9 => ?_)
    refine tp_pc (pc' := 9) (by rfl) ?_
    refine lv_aload_n hx hb d_Ref_beginState_9 rfl (lv_at hl 1 rfl) ?_
    refine va_get (D := (dC, dI)) (ci := 8) (v := .ref (rA 16)) (C := R_Ref) (T := F_Ref) (N := 48) hx hb hw i_Ref hown hK hP 0 rfl rfl 16 (by decide) (hw _ m_915) (fun _ h9 => h9) rfl d_Ref_beginState_10 ?_
    refine lv_iload_n hx hb d_Ref_beginState_13 rfl (lv_at hl 0 rfl) ?_
    refine lv_iconst (v := 0) hx hb d_Ref_beginState_14 (by decide) ?_
    refine va_iast (D := (dC, dI)) hx hb hK hP (dd_D hD rfl) hS 1 0 rfl rfl (i := nI i1) (x := 0) (pk_in i1 155 (by omega)) d_Ref_beginState_15 ?_
    clear hP hS locs H
    intro H locs hP _ hS
    rw [show (nI i1 : Int32).toNatClampNeg = i1 from pk_cl i1] at hP
    replace hP : va_P (dC, dI) classes [oc ra 8 [.int (nI T), .int (nI Ac), .ref (rA 2), .ref (rA 3), .ref (rA 4), .ref (rA 5), .ref (rA 6), .ref (rA 7), .ref (rA 8), .ref (rA 9), .ref (rA 10), .ref (rA 11), .ref (rA 12), .ref (rA 13), .int ir, .ref (rA 15), .ref (rA 16), .ref (rA 17), .ref (rA 18), .int (nI md), .int (nI wd), .ref (rA 21), .ref (rA 22), .ref (rA 23), .int (nI mn), .ref (rA 25), .int (nI cb), .int mr, .ref (rA 28), .ref (rA 29), .ref (rA 30), .ref (rA 31), .ref (rA 32), .ref (rA 33), .ref (rA 34), .ref (rA 35), .int (nI ld), .int (nI gm), .ref (rA 38), .ref (rA 39), .ref (rA 40), .ref (rA 41), .ref (rA 42), .ref (rA 43), .ref (rA 44), .ref (rA 45), .int (nI my), .ref (rA 47)], ia (rA 16) (rK9 16) 155 (upd g i1 0)] H := hP
    refine tp_pc (pc' := 16) (by rfl) ?_
    refine lv_iinc (v := nI (i1 + 1)) (lv' := [(1, .int (nI (i1 + 1))), (0, .ref ra)]) hx hb d_Ref_beginState_16 hl (k := 0) rfl (by exact nI_1 i1) (by decide) rfl ?_
    clear hl ls
    intro ls hl
    refine lv_goto (tgt := 2) hx hb d_Ref_beginState_19 (by decide) ?_
    refine tp_pc (pc' := 2) (by rfl) ?_
    exact ih _ _ _ ⟨_, fun j hj => by by_cases e9 : j = i1; (subst e9; exact pk_us); (rw [pk_un e9]; exact hg j (by omega)), hP, hS, lv_sub hl [0, 1] rfl⟩
  · intro H locs ls hI
    obtain ⟨g, hg, hP, hS, hl⟩ := hI
    replace hl : lv_has ls 3 [(1, .int 155), (0, .ref ra)] := hl
    replace hP : va_P (dC, dI) classes [oc ra 8 [.int (nI T), .int (nI Ac), .ref (rA 2), .ref (rA 3), .ref (rA 4), .ref (rA 5), .ref (rA 6), .ref (rA 7), .ref (rA 8), .ref (rA 9), .ref (rA 10), .ref (rA 11), .ref (rA 12), .ref (rA 13), .int ir, .ref (rA 15), .ref (rA 16), .ref (rA 17), .ref (rA 18), .int (nI md), .int (nI wd), .ref (rA 21), .ref (rA 22), .ref (rA 23), .int (nI mn), .ref (rA 25), .int (nI cb), .int mr, .ref (rA 28), .ref (rA 29), .ref (rA 30), .ref (rA 31), .ref (rA 32), .ref (rA 33), .ref (rA 34), .ref (rA 35), .int (nI ld), .int (nI gm), .ref (rA 38), .ref (rA 39), .ref (rA 40), .ref (rA 41), .ref (rA 42), .ref (rA 43), .ref (rA 44), .ref (rA 45), .int (nI my), .ref (rA 47)], ia (rA 16) (rK9 16) 155 (fun _ => 0)] H := P_cg (f := fun _ => 0) 1 rfl hg hP
    refine lv_iload_n hx hb d_Ref_beginState_2 rfl (lv_at hl 0 rfl) ?_
    refine lv_sipush (v := 155) hx hb d_Ref_beginState_3 (by decide) ?_
    refine lv_icmp_ge (tgt := 22) hx hb d_Ref_beginState_6 (by decide) (fun c_1 => ?_) (fun c_1 => absurd c_1 (by decide))
    refine tp_pc (pc' := 22) (by rfl) ?_
    refine lv_aload_n hx hb d_Ref_beginState_22 rfl (lv_at hl 1 rfl) ?_
    refine va_get (D := (dC, dI)) (ci := 8) (v := .int (nI md)) (C := R_Ref) (T := F_Ref) (N := 48) hx hb hw i_Ref hown hK hP 0 rfl rfl 19 (by decide) (hw _ m_918) (fun _ h9 => h9) rfl d_Ref_beginState_23 ?_
    refine lv_iconst (v := 3) hx hb d_Ref_beginState_26 (by decide) ?_
    refine lv_icmp_ne (tgt := 116) hx hb d_Ref_beginState_27 (by decide) (fun c9 => ?_) (fun c9 => absurd ((nI_eq (a := md) (b := 3) (by omega) (by omega)).mp c9) (by omega))
    refine tp_pc (pc' := 116) (by rfl) ?_
    obtain ⟨hP9, hD9, -⟩ := cut3 (wc := [oc ra 8 [.int (nI T), .int (nI Ac), .ref (rA 2), .ref (rA 3), .ref (rA 4), .ref (rA 5), .ref (rA 6), .ref (rA 7), .ref (rA 8), .ref (rA 9), .ref (rA 10), .ref (rA 11), .ref (rA 12), .ref (rA 13), .int ir, .ref (rA 15), .ref (rA 16), .ref (rA 17), .ref (rA 18), .int (nI md), .int (nI wd), .ref (rA 21), .ref (rA 22), .ref (rA 23), .int (nI mn), .ref (rA 25), .int (nI cb), .int mr, .ref (rA 28), .ref (rA 29), .ref (rA 30), .ref (rA 31), .ref (rA 32), .ref (rA 33), .ref (rA 34), .ref (rA 35), .int (nI ld), .int (nI gm), .ref (rA 38), .ref (rA 39), .ref (rA 40), .ref (rA 41), .ref (rA 42), .ref (rA 43), .ref (rA 44), .ref (rA 45), .int (nI my), .ref (rA 47)], ia (rA 16) (rK9 16) 155 (fun _ => 0)]) hP hD rfl hS hA [0, 1] (by decide +kernel) rfl
    have hK9 := hK.sub (tys' := []) [] rfl
    refine W.widen (k := 0) (n := 0) (by exact Nat.le_of_ble_eq_true rfl) (by exact Nat.le_of_ble_eq_true rfl) ?_
    exact W.vret hx hb hr (fun t9 ht9 hW => ⟨⟨(), rfl, trivial, by rw [ht9]; exact hP9, va_K.moved hW.alike hK9, hD9⟩, hS.F ht9⟩) hS.2.2 d_Ref_beginState_116
/-- the start of model 3: every row has its first one, which all know -/
def bg3 : Nat → Int32 := upd (upd (upd (upd (upd (upd (upd (upd (upd (upd (upd (upd (upd (upd (upd (upd (upd (upd (upd (upd (upd (upd (upd (upd (upd (upd (upd (upd (upd (upd (upd (upd (upd (upd (upd (upd (upd (upd (upd (upd (upd (fun _ => 0) 37 1) 41 0) 95 0) 139 0) 96 1) 143 0) 97 2) 147 0) 98 3) 151 0) 38 1) 49 1) 99 0) 140 1) 100 1) 144 1) 101 2) 148 1) 102 3) 152 1) 39 1) 57 2) 103 0) 141 2) 104 1) 145 2) 105 2) 149 2) 106 3) 153 2) 40 1) 65 3) 107 0) 142 3) 108 1) 146 3) 109 2) 150 3) 110 3) 154 3) 15 4
set_option maxHeartbeats 4000000 in
set_option maxRecDepth 100000 in
theorem gen_Ref_beginState_3 (l : Launch) (dC : Nat → ClassId) (dI : Nat → Nat → Nat) (ra : Nat) (rA : Nat → Nat) (rK9 : Nat → ClassId) (T Ac md wd mn cb ld gm my : Nat) (ir mr : Int32) (sf : Nat → Int32) (hmd : md = 3) (sz : Nat) : Met l y_Ref_beginState w_Ref_beginState ({ frames := 0, cells := 0, slots := 0, locals := 0 }) (va_Pc [.ref ra] (fun U => U.heap.size = sz ∧ va_P (dC, dI) classes [oc ra 8 [.int (nI T), .int (nI Ac), .ref (rA 2), .ref (rA 3), .ref (rA 4), .ref (rA 5), .ref (rA 6), .ref (rA 7), .ref (rA 8), .ref (rA 9), .ref (rA 10), .ref (rA 11), .ref (rA 12), .ref (rA 13), .int ir, .ref (rA 15), .ref (rA 16), .ref (rA 17), .ref (rA 18), .int (nI md), .int (nI wd), .ref (rA 21), .ref (rA 22), .ref (rA 23), .int (nI mn), .ref (rA 25), .int (nI cb), .int mr, .ref (rA 28), .ref (rA 29), .ref (rA 30), .ref (rA 31), .ref (rA 32), .ref (rA 33), .ref (rA 34), .ref (rA 35), .int (nI ld), .int (nI gm), .ref (rA 38), .ref (rA 39), .ref (rA 40), .ref (rA 41), .ref (rA 42), .ref (rA 43), .ref (rA 44), .ref (rA 45), .int (nI my), .ref (rA 47)], ia (rA 16) (rK9 16) 155 sf] U.heap ∧ va_K (dC, dI) classes [((rK9 16), .int)] U ∧ va_D (fun _ => True) [oc ra 8 [.int (nI T), .int (nI Ac), .ref (rA 2), .ref (rA 3), .ref (rA 4), .ref (rA 5), .ref (rA 6), .ref (rA 7), .ref (rA 8), .ref (rA 9), .ref (rA 10), .ref (rA 11), .ref (rA 12), .ref (rA 13), .int ir, .ref (rA 15), .ref (rA 16), .ref (rA 17), .ref (rA 18), .int (nI md), .int (nI wd), .ref (rA 21), .ref (rA 22), .ref (rA 23), .int (nI mn), .ref (rA 25), .int (nI cb), .int mr, .ref (rA 28), .ref (rA 29), .ref (rA 30), .ref (rA 31), .ref (rA 32), .ref (rA 33), .ref (rA 34), .ref (rA 35), .int (nI ld), .int (nI gm), .ref (rA 38), .ref (rA 39), .ref (rA 40), .ref (rA 41), .ref (rA 42), .ref (rA 43), .ref (rA 44), .ref (rA 45), .int (nI my), .ref (rA 47)], ia (rA 16) (rK9 16) 155 sf] ∧ nw U)) (va_Qv (fun _ : Unit => True) (fun _ t9 => va_P (dC, dI) classes [oc ra 8 [.int (nI T), .int (nI Ac), .ref (rA 2), .ref (rA 3), .ref (rA 4), .ref (rA 5), .ref (rA 6), .ref (rA 7), .ref (rA 8), .ref (rA 9), .ref (rA 10), .ref (rA 11), .ref (rA 12), .ref (rA 13), .int ir, .ref (rA 15), .ref (rA 16), .ref (rA 17), .ref (rA 18), .int (nI md), .int (nI wd), .ref (rA 21), .ref (rA 22), .ref (rA 23), .int (nI mn), .ref (rA 25), .int (nI cb), .int mr, .ref (rA 28), .ref (rA 29), .ref (rA 30), .ref (rA 31), .ref (rA 32), .ref (rA 33), .ref (rA 34), .ref (rA 35), .int (nI ld), .int (nI gm), .ref (rA 38), .ref (rA 39), .ref (rA 40), .ref (rA 41), .ref (rA 42), .ref (rA 43), .ref (rA 44), .ref (rA 45), .int (nI my), .ref (rA 47)], ia (rA 16) (rK9 16) 155 bg3] t9.heap ∧ va_K (dC, dI) classes [] t9 ∧ va_D (va_A [oc ra 8 [.int (nI T), .int (nI Ac), .ref (rA 2), .ref (rA 3), .ref (rA 4), .ref (rA 5), .ref (rA 6), .ref (rA 7), .ref (rA 8), .ref (rA 9), .ref (rA 10), .ref (rA 11), .ref (rA 12), .ref (rA 13), .int ir, .ref (rA 15), .ref (rA 16), .ref (rA 17), .ref (rA 18), .int (nI md), .int (nI wd), .ref (rA 21), .ref (rA 22), .ref (rA 23), .int (nI mn), .ref (rA 25), .int (nI cb), .int mr, .ref (rA 28), .ref (rA 29), .ref (rA 30), .ref (rA 31), .ref (rA 32), .ref (rA 33), .ref (rA 34), .ref (rA 35), .int (nI ld), .int (nI gm), .ref (rA 38), .ref (rA 39), .ref (rA 40), .ref (rA 41), .ref (rA 42), .ref (rA 43), .ref (rA 44), .ref (rA 45), .int (nI my), .ref (rA 47)], ia (rA 16) (rK9 16) 155 sf] sz) [oc ra 8 [.int (nI T), .int (nI Ac), .ref (rA 2), .ref (rA 3), .ref (rA 4), .ref (rA 5), .ref (rA 6), .ref (rA 7), .ref (rA 8), .ref (rA 9), .ref (rA 10), .ref (rA 11), .ref (rA 12), .ref (rA 13), .int ir, .ref (rA 15), .ref (rA 16), .ref (rA 17), .ref (rA 18), .int (nI md), .int (nI wd), .ref (rA 21), .ref (rA 22), .ref (rA 23), .int (nI mn), .ref (rA 25), .int (nI cb), .int mr, .ref (rA 28), .ref (rA 29), .ref (rA 30), .ref (rA 31), .ref (rA 32), .ref (rA 33), .ref (rA 34), .ref (rA 35), .int (nI ld), .int (nI gm), .ref (rA 38), .ref (rA 39), .ref (rA 40), .ref (rA 41), .ref (rA 42), .ref (rA 43), .ref (rA 44), .ref (rA 45), .int (nI my), .ref (rA 47)], ia (rA 16) (rK9 16) 155 bg3]) (va_A [oc ra 8 [.int (nI T), .int (nI Ac), .ref (rA 2), .ref (rA 3), .ref (rA 4), .ref (rA 5), .ref (rA 6), .ref (rA 7), .ref (rA 8), .ref (rA 9), .ref (rA 10), .ref (rA 11), .ref (rA 12), .ref (rA 13), .int ir, .ref (rA 15), .ref (rA 16), .ref (rA 17), .ref (rA 18), .int (nI md), .int (nI wd), .ref (rA 21), .ref (rA 22), .ref (rA 23), .int (nI mn), .ref (rA 25), .int (nI cb), .int mr, .ref (rA 28), .ref (rA 29), .ref (rA 30), .ref (rA 31), .ref (rA 32), .ref (rA 33), .ref (rA 34), .ref (rA 35), .int (nI ld), .int (nI gm), .ref (rA 38), .ref (rA 39), .ref (rA 40), .ref (rA 41), .ref (rA 42), .ref (rA 43), .ref (rA 44), .ref (rA 45), .int (nI my), .ref (rA 47)], ia (rA 16) (rK9 16) 155 sf] sz)) 0 0 (va_A [oc ra 8 [.int (nI T), .int (nI Ac), .ref (rA 2), .ref (rA 3), .ref (rA 4), .ref (rA 5), .ref (rA 6), .ref (rA 7), .ref (rA 8), .ref (rA 9), .ref (rA 10), .ref (rA 11), .ref (rA 12), .ref (rA 13), .int ir, .ref (rA 15), .ref (rA 16), .ref (rA 17), .ref (rA 18), .int (nI md), .int (nI wd), .ref (rA 21), .ref (rA 22), .ref (rA 23), .int (nI mn), .ref (rA 25), .int (nI cb), .int mr, .ref (rA 28), .ref (rA 29), .ref (rA 30), .ref (rA 31), .ref (rA 32), .ref (rA 33), .ref (rA 34), .ref (rA 35), .int (nI ld), .int (nI gm), .ref (rA 38), .ref (rA 39), .ref (rA 40), .ref (rA 41), .ref (rA 42), .ref (rA 43), .ref (rA 44), .ref (rA 45), .int (nI my), .ref (rA 47)], ia (rA 16) (rK9 16) 155 sf] sz) := by
  refine Met.ofW (cc := b_Ref_beginState) (maxL := 3) (ret := none) (by decide) rfl ?_
  intro p e0 s m args below meth c s₁ B hml hv
  obtain ⟨rfl, hsz, hP, hK, hD0, hn⟩ := hv
  have hx := B.exec
  have hb := B.bytes
  have hr := B.returns
  have hw := fun w (h : w ∈ wt) => atoms_spec (ws := w_Ref_beginState) B.pre w (List.mem_cons_of_mem _ h)
  have hown : s.vm.findClass R_Ref = some m.cls := findClass_of_methodNamed B.named
  have hlocks := B.notSynchronized
  subst hsz
  have hD1 := hD0.self (sz := s.heap.size)
  generalize hAe : va_A [oc ra 8 [.int (nI T), .int (nI Ac), .ref (rA 2), .ref (rA 3), .ref (rA 4), .ref (rA 5), .ref (rA 6), .ref (rA 7), .ref (rA 8), .ref (rA 9), .ref (rA 10), .ref (rA 11), .ref (rA 12), .ref (rA 13), .int ir, .ref (rA 15), .ref (rA 16), .ref (rA 17), .ref (rA 18), .int (nI md), .int (nI wd), .ref (rA 21), .ref (rA 22), .ref (rA 23), .int (nI mn), .ref (rA 25), .int (nI cb), .int mr, .ref (rA 28), .ref (rA 29), .ref (rA 30), .ref (rA 31), .ref (rA 32), .ref (rA 33), .ref (rA 34), .ref (rA 35), .int (nI ld), .int (nI gm), .ref (rA 38), .ref (rA 39), .ref (rA 40), .ref (rA 41), .ref (rA 42), .ref (rA 43), .ref (rA 44), .ref (rA 45), .int (nI my), .ref (rA 47)], ia (rA 16) (rK9 16) 155 sf] s.heap.size = A at hD1 ⊢
  have hA : ∀ q : Nat, s.heap.size ≤ q → A q := fun q h => by rw [← hAe]; exact Or.inr h
  have hD : dd A [ra, (rA 16)] := dd_of hD1 rfl
  clear hAe hD0 hD1
  have hS : va_S A s.heap s.heap [] := va_S.rf
  replace hP : va_P (dC, dI) classes [oc ra 8 [.int (nI T), .int (nI Ac), .ref (rA 2), .ref (rA 3), .ref (rA 4), .ref (rA 5), .ref (rA 6), .ref (rA 7), .ref (rA 8), .ref (rA 9), .ref (rA 10), .ref (rA 11), .ref (rA 12), .ref (rA 13), .int ir, .ref (rA 15), .ref (rA 16), .ref (rA 17), .ref (rA 18), .int (nI md), .int (nI wd), .ref (rA 21), .ref (rA 22), .ref (rA 23), .int (nI mn), .ref (rA 25), .int (nI cb), .int mr, .ref (rA 28), .ref (rA 29), .ref (rA 30), .ref (rA 31), .ref (rA 32), .ref (rA 33), .ref (rA 34), .ref (rA 35), .int (nI ld), .int (nI gm), .ref (rA 38), .ref (rA 39), .ref (rA 40), .ref (rA 41), .ref (rA 42), .ref (rA 43), .ref (rA 44), .ref (rA 45), .int (nI my), .ref (rA 47)], ia (rA 16) (rK9 16) 155 sf] s.heap := hP
  have hl := lv_entry ([.ref ra]) (n := 3) (Nat.le_of_ble_eq_true rfl)
  rw [lg_entry_eq]
  generalize (lg_sl ([.ref ra]) ++ List.replicate (3 - (lg_sl ([.ref ra])).length) Slot.unset).toArray = ls at hl ⊢
  replace hl : lv_has ls 3 [(0, .ref ra)] := hl
  refine lv_iconst (v := 0) hx hb d_Ref_beginState_0 (by decide) ?_
  refine lv_istore_n (lv' := [(1, .int 0), (0, .ref ra)]) hx hb d_Ref_beginState_1 rfl hl (by decide) rfl ?_
  clear hl ls
  intro ls hl
  refine lp_n 155 (fun i1 H locs ls => ∃ g : Nat → Int32, (∀ j, j < i1 → g j = 0) ∧ va_P (dC, dI) classes [oc ra 8 [.int (nI T), .int (nI Ac), .ref (rA 2), .ref (rA 3), .ref (rA 4), .ref (rA 5), .ref (rA 6), .ref (rA 7), .ref (rA 8), .ref (rA 9), .ref (rA 10), .ref (rA 11), .ref (rA 12), .ref (rA 13), .int ir, .ref (rA 15), .ref (rA 16), .ref (rA 17), .ref (rA 18), .int (nI md), .int (nI wd), .ref (rA 21), .ref (rA 22), .ref (rA 23), .int (nI mn), .ref (rA 25), .int (nI cb), .int mr, .ref (rA 28), .ref (rA 29), .ref (rA 30), .ref (rA 31), .ref (rA 32), .ref (rA 33), .ref (rA 34), .ref (rA 35), .int (nI ld), .int (nI gm), .ref (rA 38), .ref (rA 39), .ref (rA 40), .ref (rA 41), .ref (rA 42), .ref (rA 43), .ref (rA 44), .ref (rA 45), .int (nI my), .ref (rA 47)], ia (rA 16) (rK9 16) 155 g] H ∧ va_S A s.heap H locs ∧ lv_has ls 3 [(1, .int (nI i1)), (0, .ref ra)]) ⟨sf, fun j hj => absurd hj (Nat.not_lt_zero j), hP, hS, hl⟩ ?_ ?_
  · intro i1 H locs ls hi1 hI ih
    obtain ⟨g, hg, hP, hS, hl⟩ := hI
    refine lv_iload_n hx hb d_Ref_beginState_2 rfl (lv_at hl 0 rfl) ?_
    refine lv_sipush (v := 155) hx hb d_Ref_beginState_3 (by decide) ?_
    refine lv_icmp_ge (tgt := 22) hx hb d_Ref_beginState_6 (by decide) (fun c9 => absurd c9 (nI_ge (a := i1) (b := 155) hi1 (by decide))) (fun c9 => ?_)
    refine tp_pc (pc' := 9) (by rfl) ?_
    refine lv_aload_n hx hb d_Ref_beginState_9 rfl (lv_at hl 1 rfl) ?_
    refine va_get (D := (dC, dI)) (ci := 8) (v := .ref (rA 16)) (C := R_Ref) (T := F_Ref) (N := 48) hx hb hw i_Ref hown hK hP 0 rfl rfl 16 (by decide) (hw _ m_915) (fun _ h9 => h9) rfl d_Ref_beginState_10 ?_
    refine lv_iload_n hx hb d_Ref_beginState_13 rfl (lv_at hl 0 rfl) ?_
    refine lv_iconst (v := 0) hx hb d_Ref_beginState_14 (by decide) ?_
    refine va_iast (D := (dC, dI)) hx hb hK hP (dd_D hD rfl) hS 1 0 rfl rfl (i := nI i1) (x := 0) (pk_in i1 155 (by omega)) d_Ref_beginState_15 ?_
    clear hP hS locs H
    intro H locs hP _ hS
    rw [show (nI i1 : Int32).toNatClampNeg = i1 from pk_cl i1] at hP
    replace hP : va_P (dC, dI) classes [oc ra 8 [.int (nI T), .int (nI Ac), .ref (rA 2), .ref (rA 3), .ref (rA 4), .ref (rA 5), .ref (rA 6), .ref (rA 7), .ref (rA 8), .ref (rA 9), .ref (rA 10), .ref (rA 11), .ref (rA 12), .ref (rA 13), .int ir, .ref (rA 15), .ref (rA 16), .ref (rA 17), .ref (rA 18), .int (nI md), .int (nI wd), .ref (rA 21), .ref (rA 22), .ref (rA 23), .int (nI mn), .ref (rA 25), .int (nI cb), .int mr, .ref (rA 28), .ref (rA 29), .ref (rA 30), .ref (rA 31), .ref (rA 32), .ref (rA 33), .ref (rA 34), .ref (rA 35), .int (nI ld), .int (nI gm), .ref (rA 38), .ref (rA 39), .ref (rA 40), .ref (rA 41), .ref (rA 42), .ref (rA 43), .ref (rA 44), .ref (rA 45), .int (nI my), .ref (rA 47)], ia (rA 16) (rK9 16) 155 (upd g i1 0)] H := hP
    refine tp_pc (pc' := 16) (by rfl) ?_
    refine lv_iinc (v := nI (i1 + 1)) (lv' := [(1, .int (nI (i1 + 1))), (0, .ref ra)]) hx hb d_Ref_beginState_16 hl (k := 0) rfl (by exact nI_1 i1) (by decide) rfl ?_
    clear hl ls
    intro ls hl
    refine lv_goto (tgt := 2) hx hb d_Ref_beginState_19 (by decide) ?_
    refine tp_pc (pc' := 2) (by rfl) ?_
    exact ih _ _ _ ⟨_, fun j hj => by by_cases e9 : j = i1; (subst e9; exact pk_us); (rw [pk_un e9]; exact hg j (by omega)), hP, hS, lv_sub hl [0, 1] rfl⟩
  · intro H locs ls hI
    obtain ⟨g, hg, hP, hS, hl⟩ := hI
    replace hl : lv_has ls 3 [(1, .int 155), (0, .ref ra)] := hl
    replace hP : va_P (dC, dI) classes [oc ra 8 [.int (nI T), .int (nI Ac), .ref (rA 2), .ref (rA 3), .ref (rA 4), .ref (rA 5), .ref (rA 6), .ref (rA 7), .ref (rA 8), .ref (rA 9), .ref (rA 10), .ref (rA 11), .ref (rA 12), .ref (rA 13), .int ir, .ref (rA 15), .ref (rA 16), .ref (rA 17), .ref (rA 18), .int (nI md), .int (nI wd), .ref (rA 21), .ref (rA 22), .ref (rA 23), .int (nI mn), .ref (rA 25), .int (nI cb), .int mr, .ref (rA 28), .ref (rA 29), .ref (rA 30), .ref (rA 31), .ref (rA 32), .ref (rA 33), .ref (rA 34), .ref (rA 35), .int (nI ld), .int (nI gm), .ref (rA 38), .ref (rA 39), .ref (rA 40), .ref (rA 41), .ref (rA 42), .ref (rA 43), .ref (rA 44), .ref (rA 45), .int (nI my), .ref (rA 47)], ia (rA 16) (rK9 16) 155 (fun _ => 0)] H := P_cg (f := fun _ => 0) 1 rfl hg hP
    refine lv_iload_n hx hb d_Ref_beginState_2 rfl (lv_at hl 0 rfl) ?_
    refine lv_sipush (v := 155) hx hb d_Ref_beginState_3 (by decide) ?_
    refine lv_icmp_ge (tgt := 22) hx hb d_Ref_beginState_6 (by decide) (fun c_1 => ?_) (fun c_1 => absurd c_1 (by decide))
    refine tp_pc (pc' := 22) (by rfl) ?_
    refine lv_aload_n hx hb d_Ref_beginState_22 rfl (lv_at hl 1 rfl) ?_
    refine va_get (D := (dC, dI)) (ci := 8) (v := .int (nI md)) (C := R_Ref) (T := F_Ref) (N := 48) hx hb hw i_Ref hown hK hP 0 rfl rfl 19 (by decide) (hw _ m_918) (fun _ h9 => h9) rfl d_Ref_beginState_23 ?_
    refine lv_iconst (v := 3) hx hb d_Ref_beginState_26 (by decide) ?_
    refine lv_icmp_ne (tgt := 116) hx hb d_Ref_beginState_27 (by decide) (fun c9 => absurd (by rw [hmd]; rfl) c9) (fun c9 => ?_)
    refine tp_pc (pc' := 30) (by rfl) ?_
    refine lv_iconst (v := 0) hx hb d_Ref_beginState_30 (by decide) ?_
    refine lv_istore_n (lv' := [(1, .int 0), (0, .ref ra)]) hx hb d_Ref_beginState_31 rfl hl (by decide) rfl ?_
    clear hl ls
    intro ls hl
    refine lv_iload_n hx hb d_Ref_beginState_32 rfl (lv_at hl 0 rfl) ?_
    refine lv_iconst (v := 4) hx hb d_Ref_beginState_33 (by decide) ?_
    refine lv_icmp_ge (tgt := 108) hx hb d_Ref_beginState_34 (by decide) (fun c_2 => absurd c_2 (by decide)) (fun c_2 => ?_)
    refine tp_pc (pc' := 37) (by rfl) ?_
    refine lv_aload_n hx hb d_Ref_beginState_37 rfl (lv_at hl 1 rfl) ?_
    refine va_get (D := (dC, dI)) (ci := 8) (v := .ref (rA 16)) (C := R_Ref) (T := F_Ref) (N := 48) hx hb hw i_Ref hown hK hP 0 rfl rfl 16 (by decide) (hw _ m_915) (fun _ h9 => h9) rfl d_Ref_beginState_38 ?_
    refine lv_bipush (v := 37) hx hb d_Ref_beginState_41 (by decide) ?_
    refine lv_iload_n hx hb d_Ref_beginState_43 rfl (lv_at hl 0 rfl) ?_
    refine lv_iadd hx hb d_Ref_beginState_44 ?_
    refine tp_i (y := 37) (by first | rfl | decide) ?_
    refine lv_iconst (v := 1) hx hb d_Ref_beginState_45 (by decide) ?_
    refine va_iast (D := (dC, dI)) hx hb hK hP (dd_D hD rfl) hS 1 0 rfl rfl (i := 37) (x := 1) (pk_in 37 155 (by omega)) d_Ref_beginState_46 ?_
    clear hP hS locs H
    intro H locs hP _ hS
    rw [show (37 : Int32).toNatClampNeg = 37 from pk_cl 37] at hP
    replace hP : va_P (dC, dI) classes [oc ra 8 [.int (nI T), .int (nI Ac), .ref (rA 2), .ref (rA 3), .ref (rA 4), .ref (rA 5), .ref (rA 6), .ref (rA 7), .ref (rA 8), .ref (rA 9), .ref (rA 10), .ref (rA 11), .ref (rA 12), .ref (rA 13), .int ir, .ref (rA 15), .ref (rA 16), .ref (rA 17), .ref (rA 18), .int (nI md), .int (nI wd), .ref (rA 21), .ref (rA 22), .ref (rA 23), .int (nI mn), .ref (rA 25), .int (nI cb), .int mr, .ref (rA 28), .ref (rA 29), .ref (rA 30), .ref (rA 31), .ref (rA 32), .ref (rA 33), .ref (rA 34), .ref (rA 35), .int (nI ld), .int (nI gm), .ref (rA 38), .ref (rA 39), .ref (rA 40), .ref (rA 41), .ref (rA 42), .ref (rA 43), .ref (rA 44), .ref (rA 45), .int (nI my), .ref (rA 47)], ia (rA 16) (rK9 16) 155 (upd (fun _ => 0) 37 1)] H := hP
    refine tp_pc (pc' := 47) (by rfl) ?_
    refine lv_aload_n hx hb d_Ref_beginState_47 rfl (lv_at hl 1 rfl) ?_
    refine va_get (D := (dC, dI)) (ci := 8) (v := .ref (rA 16)) (C := R_Ref) (T := F_Ref) (N := 48) hx hb hw i_Ref hown hK hP 0 rfl rfl 16 (by decide) (hw _ m_915) (fun _ h9 => h9) rfl d_Ref_beginState_48 ?_
    refine lv_bipush (v := 41) hx hb d_Ref_beginState_51 (by decide) ?_
    refine lv_bipush (v := 8) hx hb d_Ref_beginState_53 (by decide) ?_
    refine lv_iload_n hx hb d_Ref_beginState_55 rfl (lv_at hl 0 rfl) ?_
    refine lv_imul hx hb d_Ref_beginState_56 ?_
    refine tp_i (y := 0) (by first | rfl | decide) ?_
    refine lv_iadd hx hb d_Ref_beginState_57 ?_
    refine tp_i (y := 41) (by first | rfl | decide) ?_
    refine lv_iload_n hx hb d_Ref_beginState_58 rfl (lv_at hl 0 rfl) ?_
    refine va_iast (D := (dC, dI)) hx hb hK hP (dd_D hD rfl) hS 1 0 rfl rfl (i := 41) (x := 0) (pk_in 41 155 (by omega)) d_Ref_beginState_59 ?_
    clear hP hS locs H
    intro H locs hP _ hS
    rw [show (41 : Int32).toNatClampNeg = 41 from pk_cl 41] at hP
    replace hP : va_P (dC, dI) classes [oc ra 8 [.int (nI T), .int (nI Ac), .ref (rA 2), .ref (rA 3), .ref (rA 4), .ref (rA 5), .ref (rA 6), .ref (rA 7), .ref (rA 8), .ref (rA 9), .ref (rA 10), .ref (rA 11), .ref (rA 12), .ref (rA 13), .int ir, .ref (rA 15), .ref (rA 16), .ref (rA 17), .ref (rA 18), .int (nI md), .int (nI wd), .ref (rA 21), .ref (rA 22), .ref (rA 23), .int (nI mn), .ref (rA 25), .int (nI cb), .int mr, .ref (rA 28), .ref (rA 29), .ref (rA 30), .ref (rA 31), .ref (rA 32), .ref (rA 33), .ref (rA 34), .ref (rA 35), .int (nI ld), .int (nI gm), .ref (rA 38), .ref (rA 39), .ref (rA 40), .ref (rA 41), .ref (rA 42), .ref (rA 43), .ref (rA 44), .ref (rA 45), .int (nI my), .ref (rA 47)], ia (rA 16) (rK9 16) 155 (upd (upd (fun _ => 0) 37 1) 41 0)] H := hP
    refine tp_pc (pc' := 60) (by rfl) ?_
    refine lv_iconst (v := 0) hx hb d_Ref_beginState_60 (by decide) ?_
    refine lv_istore_n (lv' := [(2, .int 0), (1, .int 0), (0, .ref ra)]) hx hb d_Ref_beginState_61 rfl hl (by decide) rfl ?_
    clear hl ls
    intro ls hl
    refine lv_iload_n hx hb d_Ref_beginState_62 rfl (lv_at hl 0 rfl) ?_
    refine lv_iconst (v := 4) hx hb d_Ref_beginState_63 (by decide) ?_
    refine lv_icmp_ge (tgt := 102) hx hb d_Ref_beginState_64 (by decide) (fun c_3 => absurd c_3 (by decide)) (fun c_3 => ?_)
    refine tp_pc (pc' := 67) (by rfl) ?_
    refine lv_aload_n hx hb d_Ref_beginState_67 rfl (lv_at hl 2 rfl) ?_
    refine va_get (D := (dC, dI)) (ci := 8) (v := .ref (rA 16)) (C := R_Ref) (T := F_Ref) (N := 48) hx hb hw i_Ref hown hK hP 0 rfl rfl 16 (by decide) (hw _ m_915) (fun _ h9 => h9) rfl d_Ref_beginState_68 ?_
    refine lv_bipush (v := 95) hx hb d_Ref_beginState_71 (by decide) ?_
    refine lv_iconst (v := 4) hx hb d_Ref_beginState_73 (by decide) ?_
    refine lv_iload_n hx hb d_Ref_beginState_74 rfl (lv_at hl 1 rfl) ?_
    refine lv_imul hx hb d_Ref_beginState_75 ?_
    refine tp_i (y := 0) (by first | rfl | decide) ?_
    refine lv_iadd hx hb d_Ref_beginState_76 ?_
    refine tp_i (y := 95) (by first | rfl | decide) ?_
    refine lv_iload_n hx hb d_Ref_beginState_77 rfl (lv_at hl 0 rfl) ?_
    refine lv_iadd hx hb d_Ref_beginState_78 ?_
    refine tp_i (y := 95) (by first | rfl | decide) ?_
    refine lv_iload_n hx hb d_Ref_beginState_79 rfl (lv_at hl 0 rfl) ?_
    refine va_iast (D := (dC, dI)) hx hb hK hP (dd_D hD rfl) hS 1 0 rfl rfl (i := 95) (x := 0) (pk_in 95 155 (by omega)) d_Ref_beginState_80 ?_
    clear hP hS locs H
    intro H locs hP _ hS
    rw [show (95 : Int32).toNatClampNeg = 95 from pk_cl 95] at hP
    replace hP : va_P (dC, dI) classes [oc ra 8 [.int (nI T), .int (nI Ac), .ref (rA 2), .ref (rA 3), .ref (rA 4), .ref (rA 5), .ref (rA 6), .ref (rA 7), .ref (rA 8), .ref (rA 9), .ref (rA 10), .ref (rA 11), .ref (rA 12), .ref (rA 13), .int ir, .ref (rA 15), .ref (rA 16), .ref (rA 17), .ref (rA 18), .int (nI md), .int (nI wd), .ref (rA 21), .ref (rA 22), .ref (rA 23), .int (nI mn), .ref (rA 25), .int (nI cb), .int mr, .ref (rA 28), .ref (rA 29), .ref (rA 30), .ref (rA 31), .ref (rA 32), .ref (rA 33), .ref (rA 34), .ref (rA 35), .int (nI ld), .int (nI gm), .ref (rA 38), .ref (rA 39), .ref (rA 40), .ref (rA 41), .ref (rA 42), .ref (rA 43), .ref (rA 44), .ref (rA 45), .int (nI my), .ref (rA 47)], ia (rA 16) (rK9 16) 155 (upd (upd (upd (fun _ => 0) 37 1) 41 0) 95 0)] H := hP
    refine tp_pc (pc' := 81) (by rfl) ?_
    refine lv_aload_n hx hb d_Ref_beginState_81 rfl (lv_at hl 2 rfl) ?_
    refine va_get (D := (dC, dI)) (ci := 8) (v := .ref (rA 16)) (C := R_Ref) (T := F_Ref) (N := 48) hx hb hw i_Ref hown hK hP 0 rfl rfl 16 (by decide) (hw _ m_915) (fun _ h9 => h9) rfl d_Ref_beginState_82 ?_
    refine lv_sipush (v := 139) hx hb d_Ref_beginState_85 (by decide) ?_
    refine lv_iconst (v := 4) hx hb d_Ref_beginState_88 (by decide) ?_
    refine lv_iload_n hx hb d_Ref_beginState_89 rfl (lv_at hl 0 rfl) ?_
    refine lv_imul hx hb d_Ref_beginState_90 ?_
    refine tp_i (y := 0) (by first | rfl | decide) ?_
    refine lv_iadd hx hb d_Ref_beginState_91 ?_
    refine tp_i (y := 139) (by first | rfl | decide) ?_
    refine lv_iload_n hx hb d_Ref_beginState_92 rfl (lv_at hl 1 rfl) ?_
    refine lv_iadd hx hb d_Ref_beginState_93 ?_
    refine tp_i (y := 139) (by first | rfl | decide) ?_
    refine lv_iload_n hx hb d_Ref_beginState_94 rfl (lv_at hl 1 rfl) ?_
    refine va_iast (D := (dC, dI)) hx hb hK hP (dd_D hD rfl) hS 1 0 rfl rfl (i := 139) (x := 0) (pk_in 139 155 (by omega)) d_Ref_beginState_95 ?_
    clear hP hS locs H
    intro H locs hP _ hS
    rw [show (139 : Int32).toNatClampNeg = 139 from pk_cl 139] at hP
    replace hP : va_P (dC, dI) classes [oc ra 8 [.int (nI T), .int (nI Ac), .ref (rA 2), .ref (rA 3), .ref (rA 4), .ref (rA 5), .ref (rA 6), .ref (rA 7), .ref (rA 8), .ref (rA 9), .ref (rA 10), .ref (rA 11), .ref (rA 12), .ref (rA 13), .int ir, .ref (rA 15), .ref (rA 16), .ref (rA 17), .ref (rA 18), .int (nI md), .int (nI wd), .ref (rA 21), .ref (rA 22), .ref (rA 23), .int (nI mn), .ref (rA 25), .int (nI cb), .int mr, .ref (rA 28), .ref (rA 29), .ref (rA 30), .ref (rA 31), .ref (rA 32), .ref (rA 33), .ref (rA 34), .ref (rA 35), .int (nI ld), .int (nI gm), .ref (rA 38), .ref (rA 39), .ref (rA 40), .ref (rA 41), .ref (rA 42), .ref (rA 43), .ref (rA 44), .ref (rA 45), .int (nI my), .ref (rA 47)], ia (rA 16) (rK9 16) 155 (upd (upd (upd (upd (fun _ => 0) 37 1) 41 0) 95 0) 139 0)] H := hP
    refine tp_pc (pc' := 96) (by rfl) ?_
    refine lv_iinc (v := 1) (lv' := [(2, .int 1), (1, .int 0), (0, .ref ra)]) hx hb d_Ref_beginState_96 hl (k := 0) rfl (by first | rfl | decide) (by decide) rfl ?_
    clear hl ls
    intro ls hl
    refine lv_goto (tgt := 62) hx hb d_Ref_beginState_99 (by decide) ?_
    refine tp_pc (pc' := 62) (by rfl) ?_
    refine lv_iload_n hx hb d_Ref_beginState_62 rfl (lv_at hl 0 rfl) ?_
    refine lv_iconst (v := 4) hx hb d_Ref_beginState_63 (by decide) ?_
    refine lv_icmp_ge (tgt := 102) hx hb d_Ref_beginState_64 (by decide) (fun c_4 => absurd c_4 (by decide)) (fun c_4 => ?_)
    refine tp_pc (pc' := 67) (by rfl) ?_
    refine lv_aload_n hx hb d_Ref_beginState_67 rfl (lv_at hl 2 rfl) ?_
    refine va_get (D := (dC, dI)) (ci := 8) (v := .ref (rA 16)) (C := R_Ref) (T := F_Ref) (N := 48) hx hb hw i_Ref hown hK hP 0 rfl rfl 16 (by decide) (hw _ m_915) (fun _ h9 => h9) rfl d_Ref_beginState_68 ?_
    refine lv_bipush (v := 95) hx hb d_Ref_beginState_71 (by decide) ?_
    refine lv_iconst (v := 4) hx hb d_Ref_beginState_73 (by decide) ?_
    refine lv_iload_n hx hb d_Ref_beginState_74 rfl (lv_at hl 1 rfl) ?_
    refine lv_imul hx hb d_Ref_beginState_75 ?_
    refine tp_i (y := 0) (by first | rfl | decide) ?_
    refine lv_iadd hx hb d_Ref_beginState_76 ?_
    refine tp_i (y := 95) (by first | rfl | decide) ?_
    refine lv_iload_n hx hb d_Ref_beginState_77 rfl (lv_at hl 0 rfl) ?_
    refine lv_iadd hx hb d_Ref_beginState_78 ?_
    refine tp_i (y := 96) (by first | rfl | decide) ?_
    refine lv_iload_n hx hb d_Ref_beginState_79 rfl (lv_at hl 0 rfl) ?_
    refine va_iast (D := (dC, dI)) hx hb hK hP (dd_D hD rfl) hS 1 0 rfl rfl (i := 96) (x := 1) (pk_in 96 155 (by omega)) d_Ref_beginState_80 ?_
    clear hP hS locs H
    intro H locs hP _ hS
    rw [show (96 : Int32).toNatClampNeg = 96 from pk_cl 96] at hP
    replace hP : va_P (dC, dI) classes [oc ra 8 [.int (nI T), .int (nI Ac), .ref (rA 2), .ref (rA 3), .ref (rA 4), .ref (rA 5), .ref (rA 6), .ref (rA 7), .ref (rA 8), .ref (rA 9), .ref (rA 10), .ref (rA 11), .ref (rA 12), .ref (rA 13), .int ir, .ref (rA 15), .ref (rA 16), .ref (rA 17), .ref (rA 18), .int (nI md), .int (nI wd), .ref (rA 21), .ref (rA 22), .ref (rA 23), .int (nI mn), .ref (rA 25), .int (nI cb), .int mr, .ref (rA 28), .ref (rA 29), .ref (rA 30), .ref (rA 31), .ref (rA 32), .ref (rA 33), .ref (rA 34), .ref (rA 35), .int (nI ld), .int (nI gm), .ref (rA 38), .ref (rA 39), .ref (rA 40), .ref (rA 41), .ref (rA 42), .ref (rA 43), .ref (rA 44), .ref (rA 45), .int (nI my), .ref (rA 47)], ia (rA 16) (rK9 16) 155 (upd (upd (upd (upd (upd (fun _ => 0) 37 1) 41 0) 95 0) 139 0) 96 1)] H := hP
    refine tp_pc (pc' := 81) (by rfl) ?_
    refine lv_aload_n hx hb d_Ref_beginState_81 rfl (lv_at hl 2 rfl) ?_
    refine va_get (D := (dC, dI)) (ci := 8) (v := .ref (rA 16)) (C := R_Ref) (T := F_Ref) (N := 48) hx hb hw i_Ref hown hK hP 0 rfl rfl 16 (by decide) (hw _ m_915) (fun _ h9 => h9) rfl d_Ref_beginState_82 ?_
    refine lv_sipush (v := 139) hx hb d_Ref_beginState_85 (by decide) ?_
    refine lv_iconst (v := 4) hx hb d_Ref_beginState_88 (by decide) ?_
    refine lv_iload_n hx hb d_Ref_beginState_89 rfl (lv_at hl 0 rfl) ?_
    refine lv_imul hx hb d_Ref_beginState_90 ?_
    refine tp_i (y := 4) (by first | rfl | decide) ?_
    refine lv_iadd hx hb d_Ref_beginState_91 ?_
    refine tp_i (y := 143) (by first | rfl | decide) ?_
    refine lv_iload_n hx hb d_Ref_beginState_92 rfl (lv_at hl 1 rfl) ?_
    refine lv_iadd hx hb d_Ref_beginState_93 ?_
    refine tp_i (y := 143) (by first | rfl | decide) ?_
    refine lv_iload_n hx hb d_Ref_beginState_94 rfl (lv_at hl 1 rfl) ?_
    refine va_iast (D := (dC, dI)) hx hb hK hP (dd_D hD rfl) hS 1 0 rfl rfl (i := 143) (x := 0) (pk_in 143 155 (by omega)) d_Ref_beginState_95 ?_
    clear hP hS locs H
    intro H locs hP _ hS
    rw [show (143 : Int32).toNatClampNeg = 143 from pk_cl 143] at hP
    replace hP : va_P (dC, dI) classes [oc ra 8 [.int (nI T), .int (nI Ac), .ref (rA 2), .ref (rA 3), .ref (rA 4), .ref (rA 5), .ref (rA 6), .ref (rA 7), .ref (rA 8), .ref (rA 9), .ref (rA 10), .ref (rA 11), .ref (rA 12), .ref (rA 13), .int ir, .ref (rA 15), .ref (rA 16), .ref (rA 17), .ref (rA 18), .int (nI md), .int (nI wd), .ref (rA 21), .ref (rA 22), .ref (rA 23), .int (nI mn), .ref (rA 25), .int (nI cb), .int mr, .ref (rA 28), .ref (rA 29), .ref (rA 30), .ref (rA 31), .ref (rA 32), .ref (rA 33), .ref (rA 34), .ref (rA 35), .int (nI ld), .int (nI gm), .ref (rA 38), .ref (rA 39), .ref (rA 40), .ref (rA 41), .ref (rA 42), .ref (rA 43), .ref (rA 44), .ref (rA 45), .int (nI my), .ref (rA 47)], ia (rA 16) (rK9 16) 155 (upd (upd (upd (upd (upd (upd (fun _ => 0) 37 1) 41 0) 95 0) 139 0) 96 1) 143 0)] H := hP
    refine tp_pc (pc' := 96) (by rfl) ?_
    refine lv_iinc (v := 2) (lv' := [(2, .int 2), (1, .int 0), (0, .ref ra)]) hx hb d_Ref_beginState_96 hl (k := 0) rfl (by first | rfl | decide) (by decide) rfl ?_
    clear hl ls
    intro ls hl
    refine lv_goto (tgt := 62) hx hb d_Ref_beginState_99 (by decide) ?_
    refine tp_pc (pc' := 62) (by rfl) ?_
    refine lv_iload_n hx hb d_Ref_beginState_62 rfl (lv_at hl 0 rfl) ?_
    refine lv_iconst (v := 4) hx hb d_Ref_beginState_63 (by decide) ?_
    refine lv_icmp_ge (tgt := 102) hx hb d_Ref_beginState_64 (by decide) (fun c_5 => absurd c_5 (by decide)) (fun c_5 => ?_)
    refine tp_pc (pc' := 67) (by rfl) ?_
    refine lv_aload_n hx hb d_Ref_beginState_67 rfl (lv_at hl 2 rfl) ?_
    refine va_get (D := (dC, dI)) (ci := 8) (v := .ref (rA 16)) (C := R_Ref) (T := F_Ref) (N := 48) hx hb hw i_Ref hown hK hP 0 rfl rfl 16 (by decide) (hw _ m_915) (fun _ h9 => h9) rfl d_Ref_beginState_68 ?_
    refine lv_bipush (v := 95) hx hb d_Ref_beginState_71 (by decide) ?_
    refine lv_iconst (v := 4) hx hb d_Ref_beginState_73 (by decide) ?_
    refine lv_iload_n hx hb d_Ref_beginState_74 rfl (lv_at hl 1 rfl) ?_
    refine lv_imul hx hb d_Ref_beginState_75 ?_
    refine tp_i (y := 0) (by first | rfl | decide) ?_
    refine lv_iadd hx hb d_Ref_beginState_76 ?_
    refine tp_i (y := 95) (by first | rfl | decide) ?_
    refine lv_iload_n hx hb d_Ref_beginState_77 rfl (lv_at hl 0 rfl) ?_
    refine lv_iadd hx hb d_Ref_beginState_78 ?_
    refine tp_i (y := 97) (by first | rfl | decide) ?_
    refine lv_iload_n hx hb d_Ref_beginState_79 rfl (lv_at hl 0 rfl) ?_
    refine va_iast (D := (dC, dI)) hx hb hK hP (dd_D hD rfl) hS 1 0 rfl rfl (i := 97) (x := 2) (pk_in 97 155 (by omega)) d_Ref_beginState_80 ?_
    clear hP hS locs H
    intro H locs hP _ hS
    rw [show (97 : Int32).toNatClampNeg = 97 from pk_cl 97] at hP
    replace hP : va_P (dC, dI) classes [oc ra 8 [.int (nI T), .int (nI Ac), .ref (rA 2), .ref (rA 3), .ref (rA 4), .ref (rA 5), .ref (rA 6), .ref (rA 7), .ref (rA 8), .ref (rA 9), .ref (rA 10), .ref (rA 11), .ref (rA 12), .ref (rA 13), .int ir, .ref (rA 15), .ref (rA 16), .ref (rA 17), .ref (rA 18), .int (nI md), .int (nI wd), .ref (rA 21), .ref (rA 22), .ref (rA 23), .int (nI mn), .ref (rA 25), .int (nI cb), .int mr, .ref (rA 28), .ref (rA 29), .ref (rA 30), .ref (rA 31), .ref (rA 32), .ref (rA 33), .ref (rA 34), .ref (rA 35), .int (nI ld), .int (nI gm), .ref (rA 38), .ref (rA 39), .ref (rA 40), .ref (rA 41), .ref (rA 42), .ref (rA 43), .ref (rA 44), .ref (rA 45), .int (nI my), .ref (rA 47)], ia (rA 16) (rK9 16) 155 (upd (upd (upd (upd (upd (upd (upd (fun _ => 0) 37 1) 41 0) 95 0) 139 0) 96 1) 143 0) 97 2)] H := hP
    refine tp_pc (pc' := 81) (by rfl) ?_
    refine lv_aload_n hx hb d_Ref_beginState_81 rfl (lv_at hl 2 rfl) ?_
    refine va_get (D := (dC, dI)) (ci := 8) (v := .ref (rA 16)) (C := R_Ref) (T := F_Ref) (N := 48) hx hb hw i_Ref hown hK hP 0 rfl rfl 16 (by decide) (hw _ m_915) (fun _ h9 => h9) rfl d_Ref_beginState_82 ?_
    refine lv_sipush (v := 139) hx hb d_Ref_beginState_85 (by decide) ?_
    refine lv_iconst (v := 4) hx hb d_Ref_beginState_88 (by decide) ?_
    refine lv_iload_n hx hb d_Ref_beginState_89 rfl (lv_at hl 0 rfl) ?_
    refine lv_imul hx hb d_Ref_beginState_90 ?_
    refine tp_i (y := 8) (by first | rfl | decide) ?_
    refine lv_iadd hx hb d_Ref_beginState_91 ?_
    refine tp_i (y := 147) (by first | rfl | decide) ?_
    refine lv_iload_n hx hb d_Ref_beginState_92 rfl (lv_at hl 1 rfl) ?_
    refine lv_iadd hx hb d_Ref_beginState_93 ?_
    refine tp_i (y := 147) (by first | rfl | decide) ?_
    refine lv_iload_n hx hb d_Ref_beginState_94 rfl (lv_at hl 1 rfl) ?_
    refine va_iast (D := (dC, dI)) hx hb hK hP (dd_D hD rfl) hS 1 0 rfl rfl (i := 147) (x := 0) (pk_in 147 155 (by omega)) d_Ref_beginState_95 ?_
    clear hP hS locs H
    intro H locs hP _ hS
    rw [show (147 : Int32).toNatClampNeg = 147 from pk_cl 147] at hP
    replace hP : va_P (dC, dI) classes [oc ra 8 [.int (nI T), .int (nI Ac), .ref (rA 2), .ref (rA 3), .ref (rA 4), .ref (rA 5), .ref (rA 6), .ref (rA 7), .ref (rA 8), .ref (rA 9), .ref (rA 10), .ref (rA 11), .ref (rA 12), .ref (rA 13), .int ir, .ref (rA 15), .ref (rA 16), .ref (rA 17), .ref (rA 18), .int (nI md), .int (nI wd), .ref (rA 21), .ref (rA 22), .ref (rA 23), .int (nI mn), .ref (rA 25), .int (nI cb), .int mr, .ref (rA 28), .ref (rA 29), .ref (rA 30), .ref (rA 31), .ref (rA 32), .ref (rA 33), .ref (rA 34), .ref (rA 35), .int (nI ld), .int (nI gm), .ref (rA 38), .ref (rA 39), .ref (rA 40), .ref (rA 41), .ref (rA 42), .ref (rA 43), .ref (rA 44), .ref (rA 45), .int (nI my), .ref (rA 47)], ia (rA 16) (rK9 16) 155 (upd (upd (upd (upd (upd (upd (upd (upd (fun _ => 0) 37 1) 41 0) 95 0) 139 0) 96 1) 143 0) 97 2) 147 0)] H := hP
    refine tp_pc (pc' := 96) (by rfl) ?_
    refine lv_iinc (v := 3) (lv' := [(2, .int 3), (1, .int 0), (0, .ref ra)]) hx hb d_Ref_beginState_96 hl (k := 0) rfl (by first | rfl | decide) (by decide) rfl ?_
    clear hl ls
    intro ls hl
    refine lv_goto (tgt := 62) hx hb d_Ref_beginState_99 (by decide) ?_
    refine tp_pc (pc' := 62) (by rfl) ?_
    refine lv_iload_n hx hb d_Ref_beginState_62 rfl (lv_at hl 0 rfl) ?_
    refine lv_iconst (v := 4) hx hb d_Ref_beginState_63 (by decide) ?_
    refine lv_icmp_ge (tgt := 102) hx hb d_Ref_beginState_64 (by decide) (fun c_6 => absurd c_6 (by decide)) (fun c_6 => ?_)
    refine tp_pc (pc' := 67) (by rfl) ?_
    refine lv_aload_n hx hb d_Ref_beginState_67 rfl (lv_at hl 2 rfl) ?_
    refine va_get (D := (dC, dI)) (ci := 8) (v := .ref (rA 16)) (C := R_Ref) (T := F_Ref) (N := 48) hx hb hw i_Ref hown hK hP 0 rfl rfl 16 (by decide) (hw _ m_915) (fun _ h9 => h9) rfl d_Ref_beginState_68 ?_
    refine lv_bipush (v := 95) hx hb d_Ref_beginState_71 (by decide) ?_
    refine lv_iconst (v := 4) hx hb d_Ref_beginState_73 (by decide) ?_
    refine lv_iload_n hx hb d_Ref_beginState_74 rfl (lv_at hl 1 rfl) ?_
    refine lv_imul hx hb d_Ref_beginState_75 ?_
    refine tp_i (y := 0) (by first | rfl | decide) ?_
    refine lv_iadd hx hb d_Ref_beginState_76 ?_
    refine tp_i (y := 95) (by first | rfl | decide) ?_
    refine lv_iload_n hx hb d_Ref_beginState_77 rfl (lv_at hl 0 rfl) ?_
    refine lv_iadd hx hb d_Ref_beginState_78 ?_
    refine tp_i (y := 98) (by first | rfl | decide) ?_
    refine lv_iload_n hx hb d_Ref_beginState_79 rfl (lv_at hl 0 rfl) ?_
    refine va_iast (D := (dC, dI)) hx hb hK hP (dd_D hD rfl) hS 1 0 rfl rfl (i := 98) (x := 3) (pk_in 98 155 (by omega)) d_Ref_beginState_80 ?_
    clear hP hS locs H
    intro H locs hP _ hS
    rw [show (98 : Int32).toNatClampNeg = 98 from pk_cl 98] at hP
    replace hP : va_P (dC, dI) classes [oc ra 8 [.int (nI T), .int (nI Ac), .ref (rA 2), .ref (rA 3), .ref (rA 4), .ref (rA 5), .ref (rA 6), .ref (rA 7), .ref (rA 8), .ref (rA 9), .ref (rA 10), .ref (rA 11), .ref (rA 12), .ref (rA 13), .int ir, .ref (rA 15), .ref (rA 16), .ref (rA 17), .ref (rA 18), .int (nI md), .int (nI wd), .ref (rA 21), .ref (rA 22), .ref (rA 23), .int (nI mn), .ref (rA 25), .int (nI cb), .int mr, .ref (rA 28), .ref (rA 29), .ref (rA 30), .ref (rA 31), .ref (rA 32), .ref (rA 33), .ref (rA 34), .ref (rA 35), .int (nI ld), .int (nI gm), .ref (rA 38), .ref (rA 39), .ref (rA 40), .ref (rA 41), .ref (rA 42), .ref (rA 43), .ref (rA 44), .ref (rA 45), .int (nI my), .ref (rA 47)], ia (rA 16) (rK9 16) 155 (upd (upd (upd (upd (upd (upd (upd (upd (upd (fun _ => 0) 37 1) 41 0) 95 0) 139 0) 96 1) 143 0) 97 2) 147 0) 98 3)] H := hP
    refine tp_pc (pc' := 81) (by rfl) ?_
    refine lv_aload_n hx hb d_Ref_beginState_81 rfl (lv_at hl 2 rfl) ?_
    refine va_get (D := (dC, dI)) (ci := 8) (v := .ref (rA 16)) (C := R_Ref) (T := F_Ref) (N := 48) hx hb hw i_Ref hown hK hP 0 rfl rfl 16 (by decide) (hw _ m_915) (fun _ h9 => h9) rfl d_Ref_beginState_82 ?_
    refine lv_sipush (v := 139) hx hb d_Ref_beginState_85 (by decide) ?_
    refine lv_iconst (v := 4) hx hb d_Ref_beginState_88 (by decide) ?_
    refine lv_iload_n hx hb d_Ref_beginState_89 rfl (lv_at hl 0 rfl) ?_
    refine lv_imul hx hb d_Ref_beginState_90 ?_
    refine tp_i (y := 12) (by first | rfl | decide) ?_
    refine lv_iadd hx hb d_Ref_beginState_91 ?_
    refine tp_i (y := 151) (by first | rfl | decide) ?_
    refine lv_iload_n hx hb d_Ref_beginState_92 rfl (lv_at hl 1 rfl) ?_
    refine lv_iadd hx hb d_Ref_beginState_93 ?_
    refine tp_i (y := 151) (by first | rfl | decide) ?_
    refine lv_iload_n hx hb d_Ref_beginState_94 rfl (lv_at hl 1 rfl) ?_
    refine va_iast (D := (dC, dI)) hx hb hK hP (dd_D hD rfl) hS 1 0 rfl rfl (i := 151) (x := 0) (pk_in 151 155 (by omega)) d_Ref_beginState_95 ?_
    clear hP hS locs H
    intro H locs hP _ hS
    rw [show (151 : Int32).toNatClampNeg = 151 from pk_cl 151] at hP
    replace hP : va_P (dC, dI) classes [oc ra 8 [.int (nI T), .int (nI Ac), .ref (rA 2), .ref (rA 3), .ref (rA 4), .ref (rA 5), .ref (rA 6), .ref (rA 7), .ref (rA 8), .ref (rA 9), .ref (rA 10), .ref (rA 11), .ref (rA 12), .ref (rA 13), .int ir, .ref (rA 15), .ref (rA 16), .ref (rA 17), .ref (rA 18), .int (nI md), .int (nI wd), .ref (rA 21), .ref (rA 22), .ref (rA 23), .int (nI mn), .ref (rA 25), .int (nI cb), .int mr, .ref (rA 28), .ref (rA 29), .ref (rA 30), .ref (rA 31), .ref (rA 32), .ref (rA 33), .ref (rA 34), .ref (rA 35), .int (nI ld), .int (nI gm), .ref (rA 38), .ref (rA 39), .ref (rA 40), .ref (rA 41), .ref (rA 42), .ref (rA 43), .ref (rA 44), .ref (rA 45), .int (nI my), .ref (rA 47)], ia (rA 16) (rK9 16) 155 (upd (upd (upd (upd (upd (upd (upd (upd (upd (upd (fun _ => 0) 37 1) 41 0) 95 0) 139 0) 96 1) 143 0) 97 2) 147 0) 98 3) 151 0)] H := hP
    refine tp_pc (pc' := 96) (by rfl) ?_
    refine lv_iinc (v := 4) (lv' := [(2, .int 4), (1, .int 0), (0, .ref ra)]) hx hb d_Ref_beginState_96 hl (k := 0) rfl (by first | rfl | decide) (by decide) rfl ?_
    clear hl ls
    intro ls hl
    refine lv_goto (tgt := 62) hx hb d_Ref_beginState_99 (by decide) ?_
    refine tp_pc (pc' := 62) (by rfl) ?_
    refine lv_iload_n hx hb d_Ref_beginState_62 rfl (lv_at hl 0 rfl) ?_
    refine lv_iconst (v := 4) hx hb d_Ref_beginState_63 (by decide) ?_
    refine lv_icmp_ge (tgt := 102) hx hb d_Ref_beginState_64 (by decide) (fun c_7 => ?_) (fun c_7 => absurd c_7 (by decide))
    refine tp_pc (pc' := 102) (by rfl) ?_
    refine lv_iinc (v := 1) (lv' := [(1, .int 1), (2, .int 4), (0, .ref ra)]) hx hb d_Ref_beginState_102 hl (k := 1) rfl (by first | rfl | decide) (by decide) rfl ?_
    clear hl ls
    intro ls hl
    refine lv_goto (tgt := 32) hx hb d_Ref_beginState_105 (by decide) ?_
    refine tp_pc (pc' := 32) (by rfl) ?_
    refine lv_iload_n hx hb d_Ref_beginState_32 rfl (lv_at hl 0 rfl) ?_
    refine lv_iconst (v := 4) hx hb d_Ref_beginState_33 (by decide) ?_
    refine lv_icmp_ge (tgt := 108) hx hb d_Ref_beginState_34 (by decide) (fun c_8 => absurd c_8 (by decide)) (fun c_8 => ?_)
    refine tp_pc (pc' := 37) (by rfl) ?_
    refine lv_aload_n hx hb d_Ref_beginState_37 rfl (lv_at hl 2 rfl) ?_
    refine va_get (D := (dC, dI)) (ci := 8) (v := .ref (rA 16)) (C := R_Ref) (T := F_Ref) (N := 48) hx hb hw i_Ref hown hK hP 0 rfl rfl 16 (by decide) (hw _ m_915) (fun _ h9 => h9) rfl d_Ref_beginState_38 ?_
    refine lv_bipush (v := 37) hx hb d_Ref_beginState_41 (by decide) ?_
    refine lv_iload_n hx hb d_Ref_beginState_43 rfl (lv_at hl 0 rfl) ?_
    refine lv_iadd hx hb d_Ref_beginState_44 ?_
    refine tp_i (y := 38) (by first | rfl | decide) ?_
    refine lv_iconst (v := 1) hx hb d_Ref_beginState_45 (by decide) ?_
    refine va_iast (D := (dC, dI)) hx hb hK hP (dd_D hD rfl) hS 1 0 rfl rfl (i := 38) (x := 1) (pk_in 38 155 (by omega)) d_Ref_beginState_46 ?_
    clear hP hS locs H
    intro H locs hP _ hS
    rw [show (38 : Int32).toNatClampNeg = 38 from pk_cl 38] at hP
    replace hP : va_P (dC, dI) classes [oc ra 8 [.int (nI T), .int (nI Ac), .ref (rA 2), .ref (rA 3), .ref (rA 4), .ref (rA 5), .ref (rA 6), .ref (rA 7), .ref (rA 8), .ref (rA 9), .ref (rA 10), .ref (rA 11), .ref (rA 12), .ref (rA 13), .int ir, .ref (rA 15), .ref (rA 16), .ref (rA 17), .ref (rA 18), .int (nI md), .int (nI wd), .ref (rA 21), .ref (rA 22), .ref (rA 23), .int (nI mn), .ref (rA 25), .int (nI cb), .int mr, .ref (rA 28), .ref (rA 29), .ref (rA 30), .ref (rA 31), .ref (rA 32), .ref (rA 33), .ref (rA 34), .ref (rA 35), .int (nI ld), .int (nI gm), .ref (rA 38), .ref (rA 39), .ref (rA 40), .ref (rA 41), .ref (rA 42), .ref (rA 43), .ref (rA 44), .ref (rA 45), .int (nI my), .ref (rA 47)], ia (rA 16) (rK9 16) 155 (upd (upd (upd (upd (upd (upd (upd (upd (upd (upd (upd (fun _ => 0) 37 1) 41 0) 95 0) 139 0) 96 1) 143 0) 97 2) 147 0) 98 3) 151 0) 38 1)] H := hP
    refine tp_pc (pc' := 47) (by rfl) ?_
    refine lv_aload_n hx hb d_Ref_beginState_47 rfl (lv_at hl 2 rfl) ?_
    refine va_get (D := (dC, dI)) (ci := 8) (v := .ref (rA 16)) (C := R_Ref) (T := F_Ref) (N := 48) hx hb hw i_Ref hown hK hP 0 rfl rfl 16 (by decide) (hw _ m_915) (fun _ h9 => h9) rfl d_Ref_beginState_48 ?_
    refine lv_bipush (v := 41) hx hb d_Ref_beginState_51 (by decide) ?_
    refine lv_bipush (v := 8) hx hb d_Ref_beginState_53 (by decide) ?_
    refine lv_iload_n hx hb d_Ref_beginState_55 rfl (lv_at hl 0 rfl) ?_
    refine lv_imul hx hb d_Ref_beginState_56 ?_
    refine tp_i (y := 8) (by first | rfl | decide) ?_
    refine lv_iadd hx hb d_Ref_beginState_57 ?_
    refine tp_i (y := 49) (by first | rfl | decide) ?_
    refine lv_iload_n hx hb d_Ref_beginState_58 rfl (lv_at hl 0 rfl) ?_
    refine va_iast (D := (dC, dI)) hx hb hK hP (dd_D hD rfl) hS 1 0 rfl rfl (i := 49) (x := 1) (pk_in 49 155 (by omega)) d_Ref_beginState_59 ?_
    clear hP hS locs H
    intro H locs hP _ hS
    rw [show (49 : Int32).toNatClampNeg = 49 from pk_cl 49] at hP
    replace hP : va_P (dC, dI) classes [oc ra 8 [.int (nI T), .int (nI Ac), .ref (rA 2), .ref (rA 3), .ref (rA 4), .ref (rA 5), .ref (rA 6), .ref (rA 7), .ref (rA 8), .ref (rA 9), .ref (rA 10), .ref (rA 11), .ref (rA 12), .ref (rA 13), .int ir, .ref (rA 15), .ref (rA 16), .ref (rA 17), .ref (rA 18), .int (nI md), .int (nI wd), .ref (rA 21), .ref (rA 22), .ref (rA 23), .int (nI mn), .ref (rA 25), .int (nI cb), .int mr, .ref (rA 28), .ref (rA 29), .ref (rA 30), .ref (rA 31), .ref (rA 32), .ref (rA 33), .ref (rA 34), .ref (rA 35), .int (nI ld), .int (nI gm), .ref (rA 38), .ref (rA 39), .ref (rA 40), .ref (rA 41), .ref (rA 42), .ref (rA 43), .ref (rA 44), .ref (rA 45), .int (nI my), .ref (rA 47)], ia (rA 16) (rK9 16) 155 (upd (upd (upd (upd (upd (upd (upd (upd (upd (upd (upd (upd (fun _ => 0) 37 1) 41 0) 95 0) 139 0) 96 1) 143 0) 97 2) 147 0) 98 3) 151 0) 38 1) 49 1)] H := hP
    refine tp_pc (pc' := 60) (by rfl) ?_
    refine lv_iconst (v := 0) hx hb d_Ref_beginState_60 (by decide) ?_
    refine lv_istore_n (lv' := [(2, .int 0), (1, .int 1), (0, .ref ra)]) hx hb d_Ref_beginState_61 rfl hl (by decide) rfl ?_
    clear hl ls
    intro ls hl
    refine lv_iload_n hx hb d_Ref_beginState_62 rfl (lv_at hl 0 rfl) ?_
    refine lv_iconst (v := 4) hx hb d_Ref_beginState_63 (by decide) ?_
    refine lv_icmp_ge (tgt := 102) hx hb d_Ref_beginState_64 (by decide) (fun c_9 => absurd c_9 (by decide)) (fun c_9 => ?_)
    refine tp_pc (pc' := 67) (by rfl) ?_
    refine lv_aload_n hx hb d_Ref_beginState_67 rfl (lv_at hl 2 rfl) ?_
    refine va_get (D := (dC, dI)) (ci := 8) (v := .ref (rA 16)) (C := R_Ref) (T := F_Ref) (N := 48) hx hb hw i_Ref hown hK hP 0 rfl rfl 16 (by decide) (hw _ m_915) (fun _ h9 => h9) rfl d_Ref_beginState_68 ?_
    refine lv_bipush (v := 95) hx hb d_Ref_beginState_71 (by decide) ?_
    refine lv_iconst (v := 4) hx hb d_Ref_beginState_73 (by decide) ?_
    refine lv_iload_n hx hb d_Ref_beginState_74 rfl (lv_at hl 1 rfl) ?_
    refine lv_imul hx hb d_Ref_beginState_75 ?_
    refine tp_i (y := 4) (by first | rfl | decide) ?_
    refine lv_iadd hx hb d_Ref_beginState_76 ?_
    refine tp_i (y := 99) (by first | rfl | decide) ?_
    refine lv_iload_n hx hb d_Ref_beginState_77 rfl (lv_at hl 0 rfl) ?_
    refine lv_iadd hx hb d_Ref_beginState_78 ?_
    refine tp_i (y := 99) (by first | rfl | decide) ?_
    refine lv_iload_n hx hb d_Ref_beginState_79 rfl (lv_at hl 0 rfl) ?_
    refine va_iast (D := (dC, dI)) hx hb hK hP (dd_D hD rfl) hS 1 0 rfl rfl (i := 99) (x := 0) (pk_in 99 155 (by omega)) d_Ref_beginState_80 ?_
    clear hP hS locs H
    intro H locs hP _ hS
    rw [show (99 : Int32).toNatClampNeg = 99 from pk_cl 99] at hP
    replace hP : va_P (dC, dI) classes [oc ra 8 [.int (nI T), .int (nI Ac), .ref (rA 2), .ref (rA 3), .ref (rA 4), .ref (rA 5), .ref (rA 6), .ref (rA 7), .ref (rA 8), .ref (rA 9), .ref (rA 10), .ref (rA 11), .ref (rA 12), .ref (rA 13), .int ir, .ref (rA 15), .ref (rA 16), .ref (rA 17), .ref (rA 18), .int (nI md), .int (nI wd), .ref (rA 21), .ref (rA 22), .ref (rA 23), .int (nI mn), .ref (rA 25), .int (nI cb), .int mr, .ref (rA 28), .ref (rA 29), .ref (rA 30), .ref (rA 31), .ref (rA 32), .ref (rA 33), .ref (rA 34), .ref (rA 35), .int (nI ld), .int (nI gm), .ref (rA 38), .ref (rA 39), .ref (rA 40), .ref (rA 41), .ref (rA 42), .ref (rA 43), .ref (rA 44), .ref (rA 45), .int (nI my), .ref (rA 47)], ia (rA 16) (rK9 16) 155 (upd (upd (upd (upd (upd (upd (upd (upd (upd (upd (upd (upd (upd (fun _ => 0) 37 1) 41 0) 95 0) 139 0) 96 1) 143 0) 97 2) 147 0) 98 3) 151 0) 38 1) 49 1) 99 0)] H := hP
    refine tp_pc (pc' := 81) (by rfl) ?_
    refine lv_aload_n hx hb d_Ref_beginState_81 rfl (lv_at hl 2 rfl) ?_
    refine va_get (D := (dC, dI)) (ci := 8) (v := .ref (rA 16)) (C := R_Ref) (T := F_Ref) (N := 48) hx hb hw i_Ref hown hK hP 0 rfl rfl 16 (by decide) (hw _ m_915) (fun _ h9 => h9) rfl d_Ref_beginState_82 ?_
    refine lv_sipush (v := 139) hx hb d_Ref_beginState_85 (by decide) ?_
    refine lv_iconst (v := 4) hx hb d_Ref_beginState_88 (by decide) ?_
    refine lv_iload_n hx hb d_Ref_beginState_89 rfl (lv_at hl 0 rfl) ?_
    refine lv_imul hx hb d_Ref_beginState_90 ?_
    refine tp_i (y := 0) (by first | rfl | decide) ?_
    refine lv_iadd hx hb d_Ref_beginState_91 ?_
    refine tp_i (y := 139) (by first | rfl | decide) ?_
    refine lv_iload_n hx hb d_Ref_beginState_92 rfl (lv_at hl 1 rfl) ?_
    refine lv_iadd hx hb d_Ref_beginState_93 ?_
    refine tp_i (y := 140) (by first | rfl | decide) ?_
    refine lv_iload_n hx hb d_Ref_beginState_94 rfl (lv_at hl 1 rfl) ?_
    refine va_iast (D := (dC, dI)) hx hb hK hP (dd_D hD rfl) hS 1 0 rfl rfl (i := 140) (x := 1) (pk_in 140 155 (by omega)) d_Ref_beginState_95 ?_
    clear hP hS locs H
    intro H locs hP _ hS
    rw [show (140 : Int32).toNatClampNeg = 140 from pk_cl 140] at hP
    replace hP : va_P (dC, dI) classes [oc ra 8 [.int (nI T), .int (nI Ac), .ref (rA 2), .ref (rA 3), .ref (rA 4), .ref (rA 5), .ref (rA 6), .ref (rA 7), .ref (rA 8), .ref (rA 9), .ref (rA 10), .ref (rA 11), .ref (rA 12), .ref (rA 13), .int ir, .ref (rA 15), .ref (rA 16), .ref (rA 17), .ref (rA 18), .int (nI md), .int (nI wd), .ref (rA 21), .ref (rA 22), .ref (rA 23), .int (nI mn), .ref (rA 25), .int (nI cb), .int mr, .ref (rA 28), .ref (rA 29), .ref (rA 30), .ref (rA 31), .ref (rA 32), .ref (rA 33), .ref (rA 34), .ref (rA 35), .int (nI ld), .int (nI gm), .ref (rA 38), .ref (rA 39), .ref (rA 40), .ref (rA 41), .ref (rA 42), .ref (rA 43), .ref (rA 44), .ref (rA 45), .int (nI my), .ref (rA 47)], ia (rA 16) (rK9 16) 155 (upd (upd (upd (upd (upd (upd (upd (upd (upd (upd (upd (upd (upd (upd (fun _ => 0) 37 1) 41 0) 95 0) 139 0) 96 1) 143 0) 97 2) 147 0) 98 3) 151 0) 38 1) 49 1) 99 0) 140 1)] H := hP
    refine tp_pc (pc' := 96) (by rfl) ?_
    refine lv_iinc (v := 1) (lv' := [(2, .int 1), (1, .int 1), (0, .ref ra)]) hx hb d_Ref_beginState_96 hl (k := 0) rfl (by first | rfl | decide) (by decide) rfl ?_
    clear hl ls
    intro ls hl
    refine lv_goto (tgt := 62) hx hb d_Ref_beginState_99 (by decide) ?_
    refine tp_pc (pc' := 62) (by rfl) ?_
    refine lv_iload_n hx hb d_Ref_beginState_62 rfl (lv_at hl 0 rfl) ?_
    refine lv_iconst (v := 4) hx hb d_Ref_beginState_63 (by decide) ?_
    refine lv_icmp_ge (tgt := 102) hx hb d_Ref_beginState_64 (by decide) (fun c_10 => absurd c_10 (by decide)) (fun c_10 => ?_)
    refine tp_pc (pc' := 67) (by rfl) ?_
    refine lv_aload_n hx hb d_Ref_beginState_67 rfl (lv_at hl 2 rfl) ?_
    refine va_get (D := (dC, dI)) (ci := 8) (v := .ref (rA 16)) (C := R_Ref) (T := F_Ref) (N := 48) hx hb hw i_Ref hown hK hP 0 rfl rfl 16 (by decide) (hw _ m_915) (fun _ h9 => h9) rfl d_Ref_beginState_68 ?_
    refine lv_bipush (v := 95) hx hb d_Ref_beginState_71 (by decide) ?_
    refine lv_iconst (v := 4) hx hb d_Ref_beginState_73 (by decide) ?_
    refine lv_iload_n hx hb d_Ref_beginState_74 rfl (lv_at hl 1 rfl) ?_
    refine lv_imul hx hb d_Ref_beginState_75 ?_
    refine tp_i (y := 4) (by first | rfl | decide) ?_
    refine lv_iadd hx hb d_Ref_beginState_76 ?_
    refine tp_i (y := 99) (by first | rfl | decide) ?_
    refine lv_iload_n hx hb d_Ref_beginState_77 rfl (lv_at hl 0 rfl) ?_
    refine lv_iadd hx hb d_Ref_beginState_78 ?_
    refine tp_i (y := 100) (by first | rfl | decide) ?_
    refine lv_iload_n hx hb d_Ref_beginState_79 rfl (lv_at hl 0 rfl) ?_
    refine va_iast (D := (dC, dI)) hx hb hK hP (dd_D hD rfl) hS 1 0 rfl rfl (i := 100) (x := 1) (pk_in 100 155 (by omega)) d_Ref_beginState_80 ?_
    clear hP hS locs H
    intro H locs hP _ hS
    rw [show (100 : Int32).toNatClampNeg = 100 from pk_cl 100] at hP
    replace hP : va_P (dC, dI) classes [oc ra 8 [.int (nI T), .int (nI Ac), .ref (rA 2), .ref (rA 3), .ref (rA 4), .ref (rA 5), .ref (rA 6), .ref (rA 7), .ref (rA 8), .ref (rA 9), .ref (rA 10), .ref (rA 11), .ref (rA 12), .ref (rA 13), .int ir, .ref (rA 15), .ref (rA 16), .ref (rA 17), .ref (rA 18), .int (nI md), .int (nI wd), .ref (rA 21), .ref (rA 22), .ref (rA 23), .int (nI mn), .ref (rA 25), .int (nI cb), .int mr, .ref (rA 28), .ref (rA 29), .ref (rA 30), .ref (rA 31), .ref (rA 32), .ref (rA 33), .ref (rA 34), .ref (rA 35), .int (nI ld), .int (nI gm), .ref (rA 38), .ref (rA 39), .ref (rA 40), .ref (rA 41), .ref (rA 42), .ref (rA 43), .ref (rA 44), .ref (rA 45), .int (nI my), .ref (rA 47)], ia (rA 16) (rK9 16) 155 (upd (upd (upd (upd (upd (upd (upd (upd (upd (upd (upd (upd (upd (upd (upd (fun _ => 0) 37 1) 41 0) 95 0) 139 0) 96 1) 143 0) 97 2) 147 0) 98 3) 151 0) 38 1) 49 1) 99 0) 140 1) 100 1)] H := hP
    refine tp_pc (pc' := 81) (by rfl) ?_
    refine lv_aload_n hx hb d_Ref_beginState_81 rfl (lv_at hl 2 rfl) ?_
    refine va_get (D := (dC, dI)) (ci := 8) (v := .ref (rA 16)) (C := R_Ref) (T := F_Ref) (N := 48) hx hb hw i_Ref hown hK hP 0 rfl rfl 16 (by decide) (hw _ m_915) (fun _ h9 => h9) rfl d_Ref_beginState_82 ?_
    refine lv_sipush (v := 139) hx hb d_Ref_beginState_85 (by decide) ?_
    refine lv_iconst (v := 4) hx hb d_Ref_beginState_88 (by decide) ?_
    refine lv_iload_n hx hb d_Ref_beginState_89 rfl (lv_at hl 0 rfl) ?_
    refine lv_imul hx hb d_Ref_beginState_90 ?_
    refine tp_i (y := 4) (by first | rfl | decide) ?_
    refine lv_iadd hx hb d_Ref_beginState_91 ?_
    refine tp_i (y := 143) (by first | rfl | decide) ?_
    refine lv_iload_n hx hb d_Ref_beginState_92 rfl (lv_at hl 1 rfl) ?_
    refine lv_iadd hx hb d_Ref_beginState_93 ?_
    refine tp_i (y := 144) (by first | rfl | decide) ?_
    refine lv_iload_n hx hb d_Ref_beginState_94 rfl (lv_at hl 1 rfl) ?_
    refine va_iast (D := (dC, dI)) hx hb hK hP (dd_D hD rfl) hS 1 0 rfl rfl (i := 144) (x := 1) (pk_in 144 155 (by omega)) d_Ref_beginState_95 ?_
    clear hP hS locs H
    intro H locs hP _ hS
    rw [show (144 : Int32).toNatClampNeg = 144 from pk_cl 144] at hP
    replace hP : va_P (dC, dI) classes [oc ra 8 [.int (nI T), .int (nI Ac), .ref (rA 2), .ref (rA 3), .ref (rA 4), .ref (rA 5), .ref (rA 6), .ref (rA 7), .ref (rA 8), .ref (rA 9), .ref (rA 10), .ref (rA 11), .ref (rA 12), .ref (rA 13), .int ir, .ref (rA 15), .ref (rA 16), .ref (rA 17), .ref (rA 18), .int (nI md), .int (nI wd), .ref (rA 21), .ref (rA 22), .ref (rA 23), .int (nI mn), .ref (rA 25), .int (nI cb), .int mr, .ref (rA 28), .ref (rA 29), .ref (rA 30), .ref (rA 31), .ref (rA 32), .ref (rA 33), .ref (rA 34), .ref (rA 35), .int (nI ld), .int (nI gm), .ref (rA 38), .ref (rA 39), .ref (rA 40), .ref (rA 41), .ref (rA 42), .ref (rA 43), .ref (rA 44), .ref (rA 45), .int (nI my), .ref (rA 47)], ia (rA 16) (rK9 16) 155 (upd (upd (upd (upd (upd (upd (upd (upd (upd (upd (upd (upd (upd (upd (upd (upd (fun _ => 0) 37 1) 41 0) 95 0) 139 0) 96 1) 143 0) 97 2) 147 0) 98 3) 151 0) 38 1) 49 1) 99 0) 140 1) 100 1) 144 1)] H := hP
    refine tp_pc (pc' := 96) (by rfl) ?_
    refine lv_iinc (v := 2) (lv' := [(2, .int 2), (1, .int 1), (0, .ref ra)]) hx hb d_Ref_beginState_96 hl (k := 0) rfl (by first | rfl | decide) (by decide) rfl ?_
    clear hl ls
    intro ls hl
    refine lv_goto (tgt := 62) hx hb d_Ref_beginState_99 (by decide) ?_
    refine tp_pc (pc' := 62) (by rfl) ?_
    refine lv_iload_n hx hb d_Ref_beginState_62 rfl (lv_at hl 0 rfl) ?_
    refine lv_iconst (v := 4) hx hb d_Ref_beginState_63 (by decide) ?_
    refine lv_icmp_ge (tgt := 102) hx hb d_Ref_beginState_64 (by decide) (fun c_11 => absurd c_11 (by decide)) (fun c_11 => ?_)
    refine tp_pc (pc' := 67) (by rfl) ?_
    refine lv_aload_n hx hb d_Ref_beginState_67 rfl (lv_at hl 2 rfl) ?_
    refine va_get (D := (dC, dI)) (ci := 8) (v := .ref (rA 16)) (C := R_Ref) (T := F_Ref) (N := 48) hx hb hw i_Ref hown hK hP 0 rfl rfl 16 (by decide) (hw _ m_915) (fun _ h9 => h9) rfl d_Ref_beginState_68 ?_
    refine lv_bipush (v := 95) hx hb d_Ref_beginState_71 (by decide) ?_
    refine lv_iconst (v := 4) hx hb d_Ref_beginState_73 (by decide) ?_
    refine lv_iload_n hx hb d_Ref_beginState_74 rfl (lv_at hl 1 rfl) ?_
    refine lv_imul hx hb d_Ref_beginState_75 ?_
    refine tp_i (y := 4) (by first | rfl | decide) ?_
    refine lv_iadd hx hb d_Ref_beginState_76 ?_
    refine tp_i (y := 99) (by first | rfl | decide) ?_
    refine lv_iload_n hx hb d_Ref_beginState_77 rfl (lv_at hl 0 rfl) ?_
    refine lv_iadd hx hb d_Ref_beginState_78 ?_
    refine tp_i (y := 101) (by first | rfl | decide) ?_
    refine lv_iload_n hx hb d_Ref_beginState_79 rfl (lv_at hl 0 rfl) ?_
    refine va_iast (D := (dC, dI)) hx hb hK hP (dd_D hD rfl) hS 1 0 rfl rfl (i := 101) (x := 2) (pk_in 101 155 (by omega)) d_Ref_beginState_80 ?_
    clear hP hS locs H
    intro H locs hP _ hS
    rw [show (101 : Int32).toNatClampNeg = 101 from pk_cl 101] at hP
    replace hP : va_P (dC, dI) classes [oc ra 8 [.int (nI T), .int (nI Ac), .ref (rA 2), .ref (rA 3), .ref (rA 4), .ref (rA 5), .ref (rA 6), .ref (rA 7), .ref (rA 8), .ref (rA 9), .ref (rA 10), .ref (rA 11), .ref (rA 12), .ref (rA 13), .int ir, .ref (rA 15), .ref (rA 16), .ref (rA 17), .ref (rA 18), .int (nI md), .int (nI wd), .ref (rA 21), .ref (rA 22), .ref (rA 23), .int (nI mn), .ref (rA 25), .int (nI cb), .int mr, .ref (rA 28), .ref (rA 29), .ref (rA 30), .ref (rA 31), .ref (rA 32), .ref (rA 33), .ref (rA 34), .ref (rA 35), .int (nI ld), .int (nI gm), .ref (rA 38), .ref (rA 39), .ref (rA 40), .ref (rA 41), .ref (rA 42), .ref (rA 43), .ref (rA 44), .ref (rA 45), .int (nI my), .ref (rA 47)], ia (rA 16) (rK9 16) 155 (upd (upd (upd (upd (upd (upd (upd (upd (upd (upd (upd (upd (upd (upd (upd (upd (upd (fun _ => 0) 37 1) 41 0) 95 0) 139 0) 96 1) 143 0) 97 2) 147 0) 98 3) 151 0) 38 1) 49 1) 99 0) 140 1) 100 1) 144 1) 101 2)] H := hP
    refine tp_pc (pc' := 81) (by rfl) ?_
    refine lv_aload_n hx hb d_Ref_beginState_81 rfl (lv_at hl 2 rfl) ?_
    refine va_get (D := (dC, dI)) (ci := 8) (v := .ref (rA 16)) (C := R_Ref) (T := F_Ref) (N := 48) hx hb hw i_Ref hown hK hP 0 rfl rfl 16 (by decide) (hw _ m_915) (fun _ h9 => h9) rfl d_Ref_beginState_82 ?_
    refine lv_sipush (v := 139) hx hb d_Ref_beginState_85 (by decide) ?_
    refine lv_iconst (v := 4) hx hb d_Ref_beginState_88 (by decide) ?_
    refine lv_iload_n hx hb d_Ref_beginState_89 rfl (lv_at hl 0 rfl) ?_
    refine lv_imul hx hb d_Ref_beginState_90 ?_
    refine tp_i (y := 8) (by first | rfl | decide) ?_
    refine lv_iadd hx hb d_Ref_beginState_91 ?_
    refine tp_i (y := 147) (by first | rfl | decide) ?_
    refine lv_iload_n hx hb d_Ref_beginState_92 rfl (lv_at hl 1 rfl) ?_
    refine lv_iadd hx hb d_Ref_beginState_93 ?_
    refine tp_i (y := 148) (by first | rfl | decide) ?_
    refine lv_iload_n hx hb d_Ref_beginState_94 rfl (lv_at hl 1 rfl) ?_
    refine va_iast (D := (dC, dI)) hx hb hK hP (dd_D hD rfl) hS 1 0 rfl rfl (i := 148) (x := 1) (pk_in 148 155 (by omega)) d_Ref_beginState_95 ?_
    clear hP hS locs H
    intro H locs hP _ hS
    rw [show (148 : Int32).toNatClampNeg = 148 from pk_cl 148] at hP
    replace hP : va_P (dC, dI) classes [oc ra 8 [.int (nI T), .int (nI Ac), .ref (rA 2), .ref (rA 3), .ref (rA 4), .ref (rA 5), .ref (rA 6), .ref (rA 7), .ref (rA 8), .ref (rA 9), .ref (rA 10), .ref (rA 11), .ref (rA 12), .ref (rA 13), .int ir, .ref (rA 15), .ref (rA 16), .ref (rA 17), .ref (rA 18), .int (nI md), .int (nI wd), .ref (rA 21), .ref (rA 22), .ref (rA 23), .int (nI mn), .ref (rA 25), .int (nI cb), .int mr, .ref (rA 28), .ref (rA 29), .ref (rA 30), .ref (rA 31), .ref (rA 32), .ref (rA 33), .ref (rA 34), .ref (rA 35), .int (nI ld), .int (nI gm), .ref (rA 38), .ref (rA 39), .ref (rA 40), .ref (rA 41), .ref (rA 42), .ref (rA 43), .ref (rA 44), .ref (rA 45), .int (nI my), .ref (rA 47)], ia (rA 16) (rK9 16) 155 (upd (upd (upd (upd (upd (upd (upd (upd (upd (upd (upd (upd (upd (upd (upd (upd (upd (upd (fun _ => 0) 37 1) 41 0) 95 0) 139 0) 96 1) 143 0) 97 2) 147 0) 98 3) 151 0) 38 1) 49 1) 99 0) 140 1) 100 1) 144 1) 101 2) 148 1)] H := hP
    refine tp_pc (pc' := 96) (by rfl) ?_
    refine lv_iinc (v := 3) (lv' := [(2, .int 3), (1, .int 1), (0, .ref ra)]) hx hb d_Ref_beginState_96 hl (k := 0) rfl (by first | rfl | decide) (by decide) rfl ?_
    clear hl ls
    intro ls hl
    refine lv_goto (tgt := 62) hx hb d_Ref_beginState_99 (by decide) ?_
    refine tp_pc (pc' := 62) (by rfl) ?_
    refine lv_iload_n hx hb d_Ref_beginState_62 rfl (lv_at hl 0 rfl) ?_
    refine lv_iconst (v := 4) hx hb d_Ref_beginState_63 (by decide) ?_
    refine lv_icmp_ge (tgt := 102) hx hb d_Ref_beginState_64 (by decide) (fun c_12 => absurd c_12 (by decide)) (fun c_12 => ?_)
    refine tp_pc (pc' := 67) (by rfl) ?_
    refine lv_aload_n hx hb d_Ref_beginState_67 rfl (lv_at hl 2 rfl) ?_
    refine va_get (D := (dC, dI)) (ci := 8) (v := .ref (rA 16)) (C := R_Ref) (T := F_Ref) (N := 48) hx hb hw i_Ref hown hK hP 0 rfl rfl 16 (by decide) (hw _ m_915) (fun _ h9 => h9) rfl d_Ref_beginState_68 ?_
    refine lv_bipush (v := 95) hx hb d_Ref_beginState_71 (by decide) ?_
    refine lv_iconst (v := 4) hx hb d_Ref_beginState_73 (by decide) ?_
    refine lv_iload_n hx hb d_Ref_beginState_74 rfl (lv_at hl 1 rfl) ?_
    refine lv_imul hx hb d_Ref_beginState_75 ?_
    refine tp_i (y := 4) (by first | rfl | decide) ?_
    refine lv_iadd hx hb d_Ref_beginState_76 ?_
    refine tp_i (y := 99) (by first | rfl | decide) ?_
    refine lv_iload_n hx hb d_Ref_beginState_77 rfl (lv_at hl 0 rfl) ?_
    refine lv_iadd hx hb d_Ref_beginState_78 ?_
    refine tp_i (y := 102) (by first | rfl | decide) ?_
    refine lv_iload_n hx hb d_Ref_beginState_79 rfl (lv_at hl 0 rfl) ?_
    refine va_iast (D := (dC, dI)) hx hb hK hP (dd_D hD rfl) hS 1 0 rfl rfl (i := 102) (x := 3) (pk_in 102 155 (by omega)) d_Ref_beginState_80 ?_
    clear hP hS locs H
    intro H locs hP _ hS
    rw [show (102 : Int32).toNatClampNeg = 102 from pk_cl 102] at hP
    replace hP : va_P (dC, dI) classes [oc ra 8 [.int (nI T), .int (nI Ac), .ref (rA 2), .ref (rA 3), .ref (rA 4), .ref (rA 5), .ref (rA 6), .ref (rA 7), .ref (rA 8), .ref (rA 9), .ref (rA 10), .ref (rA 11), .ref (rA 12), .ref (rA 13), .int ir, .ref (rA 15), .ref (rA 16), .ref (rA 17), .ref (rA 18), .int (nI md), .int (nI wd), .ref (rA 21), .ref (rA 22), .ref (rA 23), .int (nI mn), .ref (rA 25), .int (nI cb), .int mr, .ref (rA 28), .ref (rA 29), .ref (rA 30), .ref (rA 31), .ref (rA 32), .ref (rA 33), .ref (rA 34), .ref (rA 35), .int (nI ld), .int (nI gm), .ref (rA 38), .ref (rA 39), .ref (rA 40), .ref (rA 41), .ref (rA 42), .ref (rA 43), .ref (rA 44), .ref (rA 45), .int (nI my), .ref (rA 47)], ia (rA 16) (rK9 16) 155 (upd (upd (upd (upd (upd (upd (upd (upd (upd (upd (upd (upd (upd (upd (upd (upd (upd (upd (upd (fun _ => 0) 37 1) 41 0) 95 0) 139 0) 96 1) 143 0) 97 2) 147 0) 98 3) 151 0) 38 1) 49 1) 99 0) 140 1) 100 1) 144 1) 101 2) 148 1) 102 3)] H := hP
    refine tp_pc (pc' := 81) (by rfl) ?_
    refine lv_aload_n hx hb d_Ref_beginState_81 rfl (lv_at hl 2 rfl) ?_
    refine va_get (D := (dC, dI)) (ci := 8) (v := .ref (rA 16)) (C := R_Ref) (T := F_Ref) (N := 48) hx hb hw i_Ref hown hK hP 0 rfl rfl 16 (by decide) (hw _ m_915) (fun _ h9 => h9) rfl d_Ref_beginState_82 ?_
    refine lv_sipush (v := 139) hx hb d_Ref_beginState_85 (by decide) ?_
    refine lv_iconst (v := 4) hx hb d_Ref_beginState_88 (by decide) ?_
    refine lv_iload_n hx hb d_Ref_beginState_89 rfl (lv_at hl 0 rfl) ?_
    refine lv_imul hx hb d_Ref_beginState_90 ?_
    refine tp_i (y := 12) (by first | rfl | decide) ?_
    refine lv_iadd hx hb d_Ref_beginState_91 ?_
    refine tp_i (y := 151) (by first | rfl | decide) ?_
    refine lv_iload_n hx hb d_Ref_beginState_92 rfl (lv_at hl 1 rfl) ?_
    refine lv_iadd hx hb d_Ref_beginState_93 ?_
    refine tp_i (y := 152) (by first | rfl | decide) ?_
    refine lv_iload_n hx hb d_Ref_beginState_94 rfl (lv_at hl 1 rfl) ?_
    refine va_iast (D := (dC, dI)) hx hb hK hP (dd_D hD rfl) hS 1 0 rfl rfl (i := 152) (x := 1) (pk_in 152 155 (by omega)) d_Ref_beginState_95 ?_
    clear hP hS locs H
    intro H locs hP _ hS
    rw [show (152 : Int32).toNatClampNeg = 152 from pk_cl 152] at hP
    replace hP : va_P (dC, dI) classes [oc ra 8 [.int (nI T), .int (nI Ac), .ref (rA 2), .ref (rA 3), .ref (rA 4), .ref (rA 5), .ref (rA 6), .ref (rA 7), .ref (rA 8), .ref (rA 9), .ref (rA 10), .ref (rA 11), .ref (rA 12), .ref (rA 13), .int ir, .ref (rA 15), .ref (rA 16), .ref (rA 17), .ref (rA 18), .int (nI md), .int (nI wd), .ref (rA 21), .ref (rA 22), .ref (rA 23), .int (nI mn), .ref (rA 25), .int (nI cb), .int mr, .ref (rA 28), .ref (rA 29), .ref (rA 30), .ref (rA 31), .ref (rA 32), .ref (rA 33), .ref (rA 34), .ref (rA 35), .int (nI ld), .int (nI gm), .ref (rA 38), .ref (rA 39), .ref (rA 40), .ref (rA 41), .ref (rA 42), .ref (rA 43), .ref (rA 44), .ref (rA 45), .int (nI my), .ref (rA 47)], ia (rA 16) (rK9 16) 155 (upd (upd (upd (upd (upd (upd (upd (upd (upd (upd (upd (upd (upd (upd (upd (upd (upd (upd (upd (upd (fun _ => 0) 37 1) 41 0) 95 0) 139 0) 96 1) 143 0) 97 2) 147 0) 98 3) 151 0) 38 1) 49 1) 99 0) 140 1) 100 1) 144 1) 101 2) 148 1) 102 3) 152 1)] H := hP
    refine tp_pc (pc' := 96) (by rfl) ?_
    refine lv_iinc (v := 4) (lv' := [(2, .int 4), (1, .int 1), (0, .ref ra)]) hx hb d_Ref_beginState_96 hl (k := 0) rfl (by first | rfl | decide) (by decide) rfl ?_
    clear hl ls
    intro ls hl
    refine lv_goto (tgt := 62) hx hb d_Ref_beginState_99 (by decide) ?_
    refine tp_pc (pc' := 62) (by rfl) ?_
    refine lv_iload_n hx hb d_Ref_beginState_62 rfl (lv_at hl 0 rfl) ?_
    refine lv_iconst (v := 4) hx hb d_Ref_beginState_63 (by decide) ?_
    refine lv_icmp_ge (tgt := 102) hx hb d_Ref_beginState_64 (by decide) (fun c_13 => ?_) (fun c_13 => absurd c_13 (by decide))
    refine tp_pc (pc' := 102) (by rfl) ?_
    refine lv_iinc (v := 2) (lv' := [(1, .int 2), (2, .int 4), (0, .ref ra)]) hx hb d_Ref_beginState_102 hl (k := 1) rfl (by first | rfl | decide) (by decide) rfl ?_
    clear hl ls
    intro ls hl
    refine lv_goto (tgt := 32) hx hb d_Ref_beginState_105 (by decide) ?_
    refine tp_pc (pc' := 32) (by rfl) ?_
    refine lv_iload_n hx hb d_Ref_beginState_32 rfl (lv_at hl 0 rfl) ?_
    refine lv_iconst (v := 4) hx hb d_Ref_beginState_33 (by decide) ?_
    refine lv_icmp_ge (tgt := 108) hx hb d_Ref_beginState_34 (by decide) (fun c_14 => absurd c_14 (by decide)) (fun c_14 => ?_)
    refine tp_pc (pc' := 37) (by rfl) ?_
    refine lv_aload_n hx hb d_Ref_beginState_37 rfl (lv_at hl 2 rfl) ?_
    refine va_get (D := (dC, dI)) (ci := 8) (v := .ref (rA 16)) (C := R_Ref) (T := F_Ref) (N := 48) hx hb hw i_Ref hown hK hP 0 rfl rfl 16 (by decide) (hw _ m_915) (fun _ h9 => h9) rfl d_Ref_beginState_38 ?_
    refine lv_bipush (v := 37) hx hb d_Ref_beginState_41 (by decide) ?_
    refine lv_iload_n hx hb d_Ref_beginState_43 rfl (lv_at hl 0 rfl) ?_
    refine lv_iadd hx hb d_Ref_beginState_44 ?_
    refine tp_i (y := 39) (by first | rfl | decide) ?_
    refine lv_iconst (v := 1) hx hb d_Ref_beginState_45 (by decide) ?_
    refine va_iast (D := (dC, dI)) hx hb hK hP (dd_D hD rfl) hS 1 0 rfl rfl (i := 39) (x := 1) (pk_in 39 155 (by omega)) d_Ref_beginState_46 ?_
    clear hP hS locs H
    intro H locs hP _ hS
    rw [show (39 : Int32).toNatClampNeg = 39 from pk_cl 39] at hP
    replace hP : va_P (dC, dI) classes [oc ra 8 [.int (nI T), .int (nI Ac), .ref (rA 2), .ref (rA 3), .ref (rA 4), .ref (rA 5), .ref (rA 6), .ref (rA 7), .ref (rA 8), .ref (rA 9), .ref (rA 10), .ref (rA 11), .ref (rA 12), .ref (rA 13), .int ir, .ref (rA 15), .ref (rA 16), .ref (rA 17), .ref (rA 18), .int (nI md), .int (nI wd), .ref (rA 21), .ref (rA 22), .ref (rA 23), .int (nI mn), .ref (rA 25), .int (nI cb), .int mr, .ref (rA 28), .ref (rA 29), .ref (rA 30), .ref (rA 31), .ref (rA 32), .ref (rA 33), .ref (rA 34), .ref (rA 35), .int (nI ld), .int (nI gm), .ref (rA 38), .ref (rA 39), .ref (rA 40), .ref (rA 41), .ref (rA 42), .ref (rA 43), .ref (rA 44), .ref (rA 45), .int (nI my), .ref (rA 47)], ia (rA 16) (rK9 16) 155 (upd (upd (upd (upd (upd (upd (upd (upd (upd (upd (upd (upd (upd (upd (upd (upd (upd (upd (upd (upd (upd (fun _ => 0) 37 1) 41 0) 95 0) 139 0) 96 1) 143 0) 97 2) 147 0) 98 3) 151 0) 38 1) 49 1) 99 0) 140 1) 100 1) 144 1) 101 2) 148 1) 102 3) 152 1) 39 1)] H := hP
    refine tp_pc (pc' := 47) (by rfl) ?_
    refine lv_aload_n hx hb d_Ref_beginState_47 rfl (lv_at hl 2 rfl) ?_
    refine va_get (D := (dC, dI)) (ci := 8) (v := .ref (rA 16)) (C := R_Ref) (T := F_Ref) (N := 48) hx hb hw i_Ref hown hK hP 0 rfl rfl 16 (by decide) (hw _ m_915) (fun _ h9 => h9) rfl d_Ref_beginState_48 ?_
    refine lv_bipush (v := 41) hx hb d_Ref_beginState_51 (by decide) ?_
    refine lv_bipush (v := 8) hx hb d_Ref_beginState_53 (by decide) ?_
    refine lv_iload_n hx hb d_Ref_beginState_55 rfl (lv_at hl 0 rfl) ?_
    refine lv_imul hx hb d_Ref_beginState_56 ?_
    refine tp_i (y := 16) (by first | rfl | decide) ?_
    refine lv_iadd hx hb d_Ref_beginState_57 ?_
    refine tp_i (y := 57) (by first | rfl | decide) ?_
    refine lv_iload_n hx hb d_Ref_beginState_58 rfl (lv_at hl 0 rfl) ?_
    refine va_iast (D := (dC, dI)) hx hb hK hP (dd_D hD rfl) hS 1 0 rfl rfl (i := 57) (x := 2) (pk_in 57 155 (by omega)) d_Ref_beginState_59 ?_
    clear hP hS locs H
    intro H locs hP _ hS
    rw [show (57 : Int32).toNatClampNeg = 57 from pk_cl 57] at hP
    replace hP : va_P (dC, dI) classes [oc ra 8 [.int (nI T), .int (nI Ac), .ref (rA 2), .ref (rA 3), .ref (rA 4), .ref (rA 5), .ref (rA 6), .ref (rA 7), .ref (rA 8), .ref (rA 9), .ref (rA 10), .ref (rA 11), .ref (rA 12), .ref (rA 13), .int ir, .ref (rA 15), .ref (rA 16), .ref (rA 17), .ref (rA 18), .int (nI md), .int (nI wd), .ref (rA 21), .ref (rA 22), .ref (rA 23), .int (nI mn), .ref (rA 25), .int (nI cb), .int mr, .ref (rA 28), .ref (rA 29), .ref (rA 30), .ref (rA 31), .ref (rA 32), .ref (rA 33), .ref (rA 34), .ref (rA 35), .int (nI ld), .int (nI gm), .ref (rA 38), .ref (rA 39), .ref (rA 40), .ref (rA 41), .ref (rA 42), .ref (rA 43), .ref (rA 44), .ref (rA 45), .int (nI my), .ref (rA 47)], ia (rA 16) (rK9 16) 155 (upd (upd (upd (upd (upd (upd (upd (upd (upd (upd (upd (upd (upd (upd (upd (upd (upd (upd (upd (upd (upd (upd (fun _ => 0) 37 1) 41 0) 95 0) 139 0) 96 1) 143 0) 97 2) 147 0) 98 3) 151 0) 38 1) 49 1) 99 0) 140 1) 100 1) 144 1) 101 2) 148 1) 102 3) 152 1) 39 1) 57 2)] H := hP
    refine tp_pc (pc' := 60) (by rfl) ?_
    refine lv_iconst (v := 0) hx hb d_Ref_beginState_60 (by decide) ?_
    refine lv_istore_n (lv' := [(2, .int 0), (1, .int 2), (0, .ref ra)]) hx hb d_Ref_beginState_61 rfl hl (by decide) rfl ?_
    clear hl ls
    intro ls hl
    refine lv_iload_n hx hb d_Ref_beginState_62 rfl (lv_at hl 0 rfl) ?_
    refine lv_iconst (v := 4) hx hb d_Ref_beginState_63 (by decide) ?_
    refine lv_icmp_ge (tgt := 102) hx hb d_Ref_beginState_64 (by decide) (fun c_15 => absurd c_15 (by decide)) (fun c_15 => ?_)
    refine tp_pc (pc' := 67) (by rfl) ?_
    refine lv_aload_n hx hb d_Ref_beginState_67 rfl (lv_at hl 2 rfl) ?_
    refine va_get (D := (dC, dI)) (ci := 8) (v := .ref (rA 16)) (C := R_Ref) (T := F_Ref) (N := 48) hx hb hw i_Ref hown hK hP 0 rfl rfl 16 (by decide) (hw _ m_915) (fun _ h9 => h9) rfl d_Ref_beginState_68 ?_
    refine lv_bipush (v := 95) hx hb d_Ref_beginState_71 (by decide) ?_
    refine lv_iconst (v := 4) hx hb d_Ref_beginState_73 (by decide) ?_
    refine lv_iload_n hx hb d_Ref_beginState_74 rfl (lv_at hl 1 rfl) ?_
    refine lv_imul hx hb d_Ref_beginState_75 ?_
    refine tp_i (y := 8) (by first | rfl | decide) ?_
    refine lv_iadd hx hb d_Ref_beginState_76 ?_
    refine tp_i (y := 103) (by first | rfl | decide) ?_
    refine lv_iload_n hx hb d_Ref_beginState_77 rfl (lv_at hl 0 rfl) ?_
    refine lv_iadd hx hb d_Ref_beginState_78 ?_
    refine tp_i (y := 103) (by first | rfl | decide) ?_
    refine lv_iload_n hx hb d_Ref_beginState_79 rfl (lv_at hl 0 rfl) ?_
    refine va_iast (D := (dC, dI)) hx hb hK hP (dd_D hD rfl) hS 1 0 rfl rfl (i := 103) (x := 0) (pk_in 103 155 (by omega)) d_Ref_beginState_80 ?_
    clear hP hS locs H
    intro H locs hP _ hS
    rw [show (103 : Int32).toNatClampNeg = 103 from pk_cl 103] at hP
    replace hP : va_P (dC, dI) classes [oc ra 8 [.int (nI T), .int (nI Ac), .ref (rA 2), .ref (rA 3), .ref (rA 4), .ref (rA 5), .ref (rA 6), .ref (rA 7), .ref (rA 8), .ref (rA 9), .ref (rA 10), .ref (rA 11), .ref (rA 12), .ref (rA 13), .int ir, .ref (rA 15), .ref (rA 16), .ref (rA 17), .ref (rA 18), .int (nI md), .int (nI wd), .ref (rA 21), .ref (rA 22), .ref (rA 23), .int (nI mn), .ref (rA 25), .int (nI cb), .int mr, .ref (rA 28), .ref (rA 29), .ref (rA 30), .ref (rA 31), .ref (rA 32), .ref (rA 33), .ref (rA 34), .ref (rA 35), .int (nI ld), .int (nI gm), .ref (rA 38), .ref (rA 39), .ref (rA 40), .ref (rA 41), .ref (rA 42), .ref (rA 43), .ref (rA 44), .ref (rA 45), .int (nI my), .ref (rA 47)], ia (rA 16) (rK9 16) 155 (upd (upd (upd (upd (upd (upd (upd (upd (upd (upd (upd (upd (upd (upd (upd (upd (upd (upd (upd (upd (upd (upd (upd (fun _ => 0) 37 1) 41 0) 95 0) 139 0) 96 1) 143 0) 97 2) 147 0) 98 3) 151 0) 38 1) 49 1) 99 0) 140 1) 100 1) 144 1) 101 2) 148 1) 102 3) 152 1) 39 1) 57 2) 103 0)] H := hP
    refine tp_pc (pc' := 81) (by rfl) ?_
    refine lv_aload_n hx hb d_Ref_beginState_81 rfl (lv_at hl 2 rfl) ?_
    refine va_get (D := (dC, dI)) (ci := 8) (v := .ref (rA 16)) (C := R_Ref) (T := F_Ref) (N := 48) hx hb hw i_Ref hown hK hP 0 rfl rfl 16 (by decide) (hw _ m_915) (fun _ h9 => h9) rfl d_Ref_beginState_82 ?_
    refine lv_sipush (v := 139) hx hb d_Ref_beginState_85 (by decide) ?_
    refine lv_iconst (v := 4) hx hb d_Ref_beginState_88 (by decide) ?_
    refine lv_iload_n hx hb d_Ref_beginState_89 rfl (lv_at hl 0 rfl) ?_
    refine lv_imul hx hb d_Ref_beginState_90 ?_
    refine tp_i (y := 0) (by first | rfl | decide) ?_
    refine lv_iadd hx hb d_Ref_beginState_91 ?_
    refine tp_i (y := 139) (by first | rfl | decide) ?_
    refine lv_iload_n hx hb d_Ref_beginState_92 rfl (lv_at hl 1 rfl) ?_
    refine lv_iadd hx hb d_Ref_beginState_93 ?_
    refine tp_i (y := 141) (by first | rfl | decide) ?_
    refine lv_iload_n hx hb d_Ref_beginState_94 rfl (lv_at hl 1 rfl) ?_
    refine va_iast (D := (dC, dI)) hx hb hK hP (dd_D hD rfl) hS 1 0 rfl rfl (i := 141) (x := 2) (pk_in 141 155 (by omega)) d_Ref_beginState_95 ?_
    clear hP hS locs H
    intro H locs hP _ hS
    rw [show (141 : Int32).toNatClampNeg = 141 from pk_cl 141] at hP
    replace hP : va_P (dC, dI) classes [oc ra 8 [.int (nI T), .int (nI Ac), .ref (rA 2), .ref (rA 3), .ref (rA 4), .ref (rA 5), .ref (rA 6), .ref (rA 7), .ref (rA 8), .ref (rA 9), .ref (rA 10), .ref (rA 11), .ref (rA 12), .ref (rA 13), .int ir, .ref (rA 15), .ref (rA 16), .ref (rA 17), .ref (rA 18), .int (nI md), .int (nI wd), .ref (rA 21), .ref (rA 22), .ref (rA 23), .int (nI mn), .ref (rA 25), .int (nI cb), .int mr, .ref (rA 28), .ref (rA 29), .ref (rA 30), .ref (rA 31), .ref (rA 32), .ref (rA 33), .ref (rA 34), .ref (rA 35), .int (nI ld), .int (nI gm), .ref (rA 38), .ref (rA 39), .ref (rA 40), .ref (rA 41), .ref (rA 42), .ref (rA 43), .ref (rA 44), .ref (rA 45), .int (nI my), .ref (rA 47)], ia (rA 16) (rK9 16) 155 (upd (upd (upd (upd (upd (upd (upd (upd (upd (upd (upd (upd (upd (upd (upd (upd (upd (upd (upd (upd (upd (upd (upd (upd (fun _ => 0) 37 1) 41 0) 95 0) 139 0) 96 1) 143 0) 97 2) 147 0) 98 3) 151 0) 38 1) 49 1) 99 0) 140 1) 100 1) 144 1) 101 2) 148 1) 102 3) 152 1) 39 1) 57 2) 103 0) 141 2)] H := hP
    refine tp_pc (pc' := 96) (by rfl) ?_
    refine lv_iinc (v := 1) (lv' := [(2, .int 1), (1, .int 2), (0, .ref ra)]) hx hb d_Ref_beginState_96 hl (k := 0) rfl (by first | rfl | decide) (by decide) rfl ?_
    clear hl ls
    intro ls hl
    refine lv_goto (tgt := 62) hx hb d_Ref_beginState_99 (by decide) ?_
    refine tp_pc (pc' := 62) (by rfl) ?_
    refine lv_iload_n hx hb d_Ref_beginState_62 rfl (lv_at hl 0 rfl) ?_
    refine lv_iconst (v := 4) hx hb d_Ref_beginState_63 (by decide) ?_
    refine lv_icmp_ge (tgt := 102) hx hb d_Ref_beginState_64 (by decide) (fun c_16 => absurd c_16 (by decide)) (fun c_16 => ?_)
    refine tp_pc (pc' := 67) (by rfl) ?_
    refine lv_aload_n hx hb d_Ref_beginState_67 rfl (lv_at hl 2 rfl) ?_
    refine va_get (D := (dC, dI)) (ci := 8) (v := .ref (rA 16)) (C := R_Ref) (T := F_Ref) (N := 48) hx hb hw i_Ref hown hK hP 0 rfl rfl 16 (by decide) (hw _ m_915) (fun _ h9 => h9) rfl d_Ref_beginState_68 ?_
    refine lv_bipush (v := 95) hx hb d_Ref_beginState_71 (by decide) ?_
    refine lv_iconst (v := 4) hx hb d_Ref_beginState_73 (by decide) ?_
    refine lv_iload_n hx hb d_Ref_beginState_74 rfl (lv_at hl 1 rfl) ?_
    refine lv_imul hx hb d_Ref_beginState_75 ?_
    refine tp_i (y := 8) (by first | rfl | decide) ?_
    refine lv_iadd hx hb d_Ref_beginState_76 ?_
    refine tp_i (y := 103) (by first | rfl | decide) ?_
    refine lv_iload_n hx hb d_Ref_beginState_77 rfl (lv_at hl 0 rfl) ?_
    refine lv_iadd hx hb d_Ref_beginState_78 ?_
    refine tp_i (y := 104) (by first | rfl | decide) ?_
    refine lv_iload_n hx hb d_Ref_beginState_79 rfl (lv_at hl 0 rfl) ?_
    refine va_iast (D := (dC, dI)) hx hb hK hP (dd_D hD rfl) hS 1 0 rfl rfl (i := 104) (x := 1) (pk_in 104 155 (by omega)) d_Ref_beginState_80 ?_
    clear hP hS locs H
    intro H locs hP _ hS
    rw [show (104 : Int32).toNatClampNeg = 104 from pk_cl 104] at hP
    replace hP : va_P (dC, dI) classes [oc ra 8 [.int (nI T), .int (nI Ac), .ref (rA 2), .ref (rA 3), .ref (rA 4), .ref (rA 5), .ref (rA 6), .ref (rA 7), .ref (rA 8), .ref (rA 9), .ref (rA 10), .ref (rA 11), .ref (rA 12), .ref (rA 13), .int ir, .ref (rA 15), .ref (rA 16), .ref (rA 17), .ref (rA 18), .int (nI md), .int (nI wd), .ref (rA 21), .ref (rA 22), .ref (rA 23), .int (nI mn), .ref (rA 25), .int (nI cb), .int mr, .ref (rA 28), .ref (rA 29), .ref (rA 30), .ref (rA 31), .ref (rA 32), .ref (rA 33), .ref (rA 34), .ref (rA 35), .int (nI ld), .int (nI gm), .ref (rA 38), .ref (rA 39), .ref (rA 40), .ref (rA 41), .ref (rA 42), .ref (rA 43), .ref (rA 44), .ref (rA 45), .int (nI my), .ref (rA 47)], ia (rA 16) (rK9 16) 155 (upd (upd (upd (upd (upd (upd (upd (upd (upd (upd (upd (upd (upd (upd (upd (upd (upd (upd (upd (upd (upd (upd (upd (upd (upd (fun _ => 0) 37 1) 41 0) 95 0) 139 0) 96 1) 143 0) 97 2) 147 0) 98 3) 151 0) 38 1) 49 1) 99 0) 140 1) 100 1) 144 1) 101 2) 148 1) 102 3) 152 1) 39 1) 57 2) 103 0) 141 2) 104 1)] H := hP
    refine tp_pc (pc' := 81) (by rfl) ?_
    refine lv_aload_n hx hb d_Ref_beginState_81 rfl (lv_at hl 2 rfl) ?_
    refine va_get (D := (dC, dI)) (ci := 8) (v := .ref (rA 16)) (C := R_Ref) (T := F_Ref) (N := 48) hx hb hw i_Ref hown hK hP 0 rfl rfl 16 (by decide) (hw _ m_915) (fun _ h9 => h9) rfl d_Ref_beginState_82 ?_
    refine lv_sipush (v := 139) hx hb d_Ref_beginState_85 (by decide) ?_
    refine lv_iconst (v := 4) hx hb d_Ref_beginState_88 (by decide) ?_
    refine lv_iload_n hx hb d_Ref_beginState_89 rfl (lv_at hl 0 rfl) ?_
    refine lv_imul hx hb d_Ref_beginState_90 ?_
    refine tp_i (y := 4) (by first | rfl | decide) ?_
    refine lv_iadd hx hb d_Ref_beginState_91 ?_
    refine tp_i (y := 143) (by first | rfl | decide) ?_
    refine lv_iload_n hx hb d_Ref_beginState_92 rfl (lv_at hl 1 rfl) ?_
    refine lv_iadd hx hb d_Ref_beginState_93 ?_
    refine tp_i (y := 145) (by first | rfl | decide) ?_
    refine lv_iload_n hx hb d_Ref_beginState_94 rfl (lv_at hl 1 rfl) ?_
    refine va_iast (D := (dC, dI)) hx hb hK hP (dd_D hD rfl) hS 1 0 rfl rfl (i := 145) (x := 2) (pk_in 145 155 (by omega)) d_Ref_beginState_95 ?_
    clear hP hS locs H
    intro H locs hP _ hS
    rw [show (145 : Int32).toNatClampNeg = 145 from pk_cl 145] at hP
    replace hP : va_P (dC, dI) classes [oc ra 8 [.int (nI T), .int (nI Ac), .ref (rA 2), .ref (rA 3), .ref (rA 4), .ref (rA 5), .ref (rA 6), .ref (rA 7), .ref (rA 8), .ref (rA 9), .ref (rA 10), .ref (rA 11), .ref (rA 12), .ref (rA 13), .int ir, .ref (rA 15), .ref (rA 16), .ref (rA 17), .ref (rA 18), .int (nI md), .int (nI wd), .ref (rA 21), .ref (rA 22), .ref (rA 23), .int (nI mn), .ref (rA 25), .int (nI cb), .int mr, .ref (rA 28), .ref (rA 29), .ref (rA 30), .ref (rA 31), .ref (rA 32), .ref (rA 33), .ref (rA 34), .ref (rA 35), .int (nI ld), .int (nI gm), .ref (rA 38), .ref (rA 39), .ref (rA 40), .ref (rA 41), .ref (rA 42), .ref (rA 43), .ref (rA 44), .ref (rA 45), .int (nI my), .ref (rA 47)], ia (rA 16) (rK9 16) 155 (upd (upd (upd (upd (upd (upd (upd (upd (upd (upd (upd (upd (upd (upd (upd (upd (upd (upd (upd (upd (upd (upd (upd (upd (upd (upd (fun _ => 0) 37 1) 41 0) 95 0) 139 0) 96 1) 143 0) 97 2) 147 0) 98 3) 151 0) 38 1) 49 1) 99 0) 140 1) 100 1) 144 1) 101 2) 148 1) 102 3) 152 1) 39 1) 57 2) 103 0) 141 2) 104 1) 145 2)] H := hP
    refine tp_pc (pc' := 96) (by rfl) ?_
    refine lv_iinc (v := 2) (lv' := [(2, .int 2), (1, .int 2), (0, .ref ra)]) hx hb d_Ref_beginState_96 hl (k := 0) rfl (by first | rfl | decide) (by decide) rfl ?_
    clear hl ls
    intro ls hl
    refine lv_goto (tgt := 62) hx hb d_Ref_beginState_99 (by decide) ?_
    refine tp_pc (pc' := 62) (by rfl) ?_
    refine lv_iload_n hx hb d_Ref_beginState_62 rfl (lv_at hl 0 rfl) ?_
    refine lv_iconst (v := 4) hx hb d_Ref_beginState_63 (by decide) ?_
    refine lv_icmp_ge (tgt := 102) hx hb d_Ref_beginState_64 (by decide) (fun c_17 => absurd c_17 (by decide)) (fun c_17 => ?_)
    refine tp_pc (pc' := 67) (by rfl) ?_
    refine lv_aload_n hx hb d_Ref_beginState_67 rfl (lv_at hl 2 rfl) ?_
    refine va_get (D := (dC, dI)) (ci := 8) (v := .ref (rA 16)) (C := R_Ref) (T := F_Ref) (N := 48) hx hb hw i_Ref hown hK hP 0 rfl rfl 16 (by decide) (hw _ m_915) (fun _ h9 => h9) rfl d_Ref_beginState_68 ?_
    refine lv_bipush (v := 95) hx hb d_Ref_beginState_71 (by decide) ?_
    refine lv_iconst (v := 4) hx hb d_Ref_beginState_73 (by decide) ?_
    refine lv_iload_n hx hb d_Ref_beginState_74 rfl (lv_at hl 1 rfl) ?_
    refine lv_imul hx hb d_Ref_beginState_75 ?_
    refine tp_i (y := 8) (by first | rfl | decide) ?_
    refine lv_iadd hx hb d_Ref_beginState_76 ?_
    refine tp_i (y := 103) (by first | rfl | decide) ?_
    refine lv_iload_n hx hb d_Ref_beginState_77 rfl (lv_at hl 0 rfl) ?_
    refine lv_iadd hx hb d_Ref_beginState_78 ?_
    refine tp_i (y := 105) (by first | rfl | decide) ?_
    refine lv_iload_n hx hb d_Ref_beginState_79 rfl (lv_at hl 0 rfl) ?_
    refine va_iast (D := (dC, dI)) hx hb hK hP (dd_D hD rfl) hS 1 0 rfl rfl (i := 105) (x := 2) (pk_in 105 155 (by omega)) d_Ref_beginState_80 ?_
    clear hP hS locs H
    intro H locs hP _ hS
    rw [show (105 : Int32).toNatClampNeg = 105 from pk_cl 105] at hP
    replace hP : va_P (dC, dI) classes [oc ra 8 [.int (nI T), .int (nI Ac), .ref (rA 2), .ref (rA 3), .ref (rA 4), .ref (rA 5), .ref (rA 6), .ref (rA 7), .ref (rA 8), .ref (rA 9), .ref (rA 10), .ref (rA 11), .ref (rA 12), .ref (rA 13), .int ir, .ref (rA 15), .ref (rA 16), .ref (rA 17), .ref (rA 18), .int (nI md), .int (nI wd), .ref (rA 21), .ref (rA 22), .ref (rA 23), .int (nI mn), .ref (rA 25), .int (nI cb), .int mr, .ref (rA 28), .ref (rA 29), .ref (rA 30), .ref (rA 31), .ref (rA 32), .ref (rA 33), .ref (rA 34), .ref (rA 35), .int (nI ld), .int (nI gm), .ref (rA 38), .ref (rA 39), .ref (rA 40), .ref (rA 41), .ref (rA 42), .ref (rA 43), .ref (rA 44), .ref (rA 45), .int (nI my), .ref (rA 47)], ia (rA 16) (rK9 16) 155 (upd (upd (upd (upd (upd (upd (upd (upd (upd (upd (upd (upd (upd (upd (upd (upd (upd (upd (upd (upd (upd (upd (upd (upd (upd (upd (upd (fun _ => 0) 37 1) 41 0) 95 0) 139 0) 96 1) 143 0) 97 2) 147 0) 98 3) 151 0) 38 1) 49 1) 99 0) 140 1) 100 1) 144 1) 101 2) 148 1) 102 3) 152 1) 39 1) 57 2) 103 0) 141 2) 104 1) 145 2) 105 2)] H := hP
    refine tp_pc (pc' := 81) (by rfl) ?_
    refine lv_aload_n hx hb d_Ref_beginState_81 rfl (lv_at hl 2 rfl) ?_
    refine va_get (D := (dC, dI)) (ci := 8) (v := .ref (rA 16)) (C := R_Ref) (T := F_Ref) (N := 48) hx hb hw i_Ref hown hK hP 0 rfl rfl 16 (by decide) (hw _ m_915) (fun _ h9 => h9) rfl d_Ref_beginState_82 ?_
    refine lv_sipush (v := 139) hx hb d_Ref_beginState_85 (by decide) ?_
    refine lv_iconst (v := 4) hx hb d_Ref_beginState_88 (by decide) ?_
    refine lv_iload_n hx hb d_Ref_beginState_89 rfl (lv_at hl 0 rfl) ?_
    refine lv_imul hx hb d_Ref_beginState_90 ?_
    refine tp_i (y := 8) (by first | rfl | decide) ?_
    refine lv_iadd hx hb d_Ref_beginState_91 ?_
    refine tp_i (y := 147) (by first | rfl | decide) ?_
    refine lv_iload_n hx hb d_Ref_beginState_92 rfl (lv_at hl 1 rfl) ?_
    refine lv_iadd hx hb d_Ref_beginState_93 ?_
    refine tp_i (y := 149) (by first | rfl | decide) ?_
    refine lv_iload_n hx hb d_Ref_beginState_94 rfl (lv_at hl 1 rfl) ?_
    refine va_iast (D := (dC, dI)) hx hb hK hP (dd_D hD rfl) hS 1 0 rfl rfl (i := 149) (x := 2) (pk_in 149 155 (by omega)) d_Ref_beginState_95 ?_
    clear hP hS locs H
    intro H locs hP _ hS
    rw [show (149 : Int32).toNatClampNeg = 149 from pk_cl 149] at hP
    replace hP : va_P (dC, dI) classes [oc ra 8 [.int (nI T), .int (nI Ac), .ref (rA 2), .ref (rA 3), .ref (rA 4), .ref (rA 5), .ref (rA 6), .ref (rA 7), .ref (rA 8), .ref (rA 9), .ref (rA 10), .ref (rA 11), .ref (rA 12), .ref (rA 13), .int ir, .ref (rA 15), .ref (rA 16), .ref (rA 17), .ref (rA 18), .int (nI md), .int (nI wd), .ref (rA 21), .ref (rA 22), .ref (rA 23), .int (nI mn), .ref (rA 25), .int (nI cb), .int mr, .ref (rA 28), .ref (rA 29), .ref (rA 30), .ref (rA 31), .ref (rA 32), .ref (rA 33), .ref (rA 34), .ref (rA 35), .int (nI ld), .int (nI gm), .ref (rA 38), .ref (rA 39), .ref (rA 40), .ref (rA 41), .ref (rA 42), .ref (rA 43), .ref (rA 44), .ref (rA 45), .int (nI my), .ref (rA 47)], ia (rA 16) (rK9 16) 155 (upd (upd (upd (upd (upd (upd (upd (upd (upd (upd (upd (upd (upd (upd (upd (upd (upd (upd (upd (upd (upd (upd (upd (upd (upd (upd (upd (upd (fun _ => 0) 37 1) 41 0) 95 0) 139 0) 96 1) 143 0) 97 2) 147 0) 98 3) 151 0) 38 1) 49 1) 99 0) 140 1) 100 1) 144 1) 101 2) 148 1) 102 3) 152 1) 39 1) 57 2) 103 0) 141 2) 104 1) 145 2) 105 2) 149 2)] H := hP
    refine tp_pc (pc' := 96) (by rfl) ?_
    refine lv_iinc (v := 3) (lv' := [(2, .int 3), (1, .int 2), (0, .ref ra)]) hx hb d_Ref_beginState_96 hl (k := 0) rfl (by first | rfl | decide) (by decide) rfl ?_
    clear hl ls
    intro ls hl
    refine lv_goto (tgt := 62) hx hb d_Ref_beginState_99 (by decide) ?_
    refine tp_pc (pc' := 62) (by rfl) ?_
    refine lv_iload_n hx hb d_Ref_beginState_62 rfl (lv_at hl 0 rfl) ?_
    refine lv_iconst (v := 4) hx hb d_Ref_beginState_63 (by decide) ?_
    refine lv_icmp_ge (tgt := 102) hx hb d_Ref_beginState_64 (by decide) (fun c_18 => absurd c_18 (by decide)) (fun c_18 => ?_)
    refine tp_pc (pc' := 67) (by rfl) ?_
    refine lv_aload_n hx hb d_Ref_beginState_67 rfl (lv_at hl 2 rfl) ?_
    refine va_get (D := (dC, dI)) (ci := 8) (v := .ref (rA 16)) (C := R_Ref) (T := F_Ref) (N := 48) hx hb hw i_Ref hown hK hP 0 rfl rfl 16 (by decide) (hw _ m_915) (fun _ h9 => h9) rfl d_Ref_beginState_68 ?_
    refine lv_bipush (v := 95) hx hb d_Ref_beginState_71 (by decide) ?_
    refine lv_iconst (v := 4) hx hb d_Ref_beginState_73 (by decide) ?_
    refine lv_iload_n hx hb d_Ref_beginState_74 rfl (lv_at hl 1 rfl) ?_
    refine lv_imul hx hb d_Ref_beginState_75 ?_
    refine tp_i (y := 8) (by first | rfl | decide) ?_
    refine lv_iadd hx hb d_Ref_beginState_76 ?_
    refine tp_i (y := 103) (by first | rfl | decide) ?_
    refine lv_iload_n hx hb d_Ref_beginState_77 rfl (lv_at hl 0 rfl) ?_
    refine lv_iadd hx hb d_Ref_beginState_78 ?_
    refine tp_i (y := 106) (by first | rfl | decide) ?_
    refine lv_iload_n hx hb d_Ref_beginState_79 rfl (lv_at hl 0 rfl) ?_
    refine va_iast (D := (dC, dI)) hx hb hK hP (dd_D hD rfl) hS 1 0 rfl rfl (i := 106) (x := 3) (pk_in 106 155 (by omega)) d_Ref_beginState_80 ?_
    clear hP hS locs H
    intro H locs hP _ hS
    rw [show (106 : Int32).toNatClampNeg = 106 from pk_cl 106] at hP
    replace hP : va_P (dC, dI) classes [oc ra 8 [.int (nI T), .int (nI Ac), .ref (rA 2), .ref (rA 3), .ref (rA 4), .ref (rA 5), .ref (rA 6), .ref (rA 7), .ref (rA 8), .ref (rA 9), .ref (rA 10), .ref (rA 11), .ref (rA 12), .ref (rA 13), .int ir, .ref (rA 15), .ref (rA 16), .ref (rA 17), .ref (rA 18), .int (nI md), .int (nI wd), .ref (rA 21), .ref (rA 22), .ref (rA 23), .int (nI mn), .ref (rA 25), .int (nI cb), .int mr, .ref (rA 28), .ref (rA 29), .ref (rA 30), .ref (rA 31), .ref (rA 32), .ref (rA 33), .ref (rA 34), .ref (rA 35), .int (nI ld), .int (nI gm), .ref (rA 38), .ref (rA 39), .ref (rA 40), .ref (rA 41), .ref (rA 42), .ref (rA 43), .ref (rA 44), .ref (rA 45), .int (nI my), .ref (rA 47)], ia (rA 16) (rK9 16) 155 (upd (upd (upd (upd (upd (upd (upd (upd (upd (upd (upd (upd (upd (upd (upd (upd (upd (upd (upd (upd (upd (upd (upd (upd (upd (upd (upd (upd (upd (fun _ => 0) 37 1) 41 0) 95 0) 139 0) 96 1) 143 0) 97 2) 147 0) 98 3) 151 0) 38 1) 49 1) 99 0) 140 1) 100 1) 144 1) 101 2) 148 1) 102 3) 152 1) 39 1) 57 2) 103 0) 141 2) 104 1) 145 2) 105 2) 149 2) 106 3)] H := hP
    refine tp_pc (pc' := 81) (by rfl) ?_
    refine lv_aload_n hx hb d_Ref_beginState_81 rfl (lv_at hl 2 rfl) ?_
    refine va_get (D := (dC, dI)) (ci := 8) (v := .ref (rA 16)) (C := R_Ref) (T := F_Ref) (N := 48) hx hb hw i_Ref hown hK hP 0 rfl rfl 16 (by decide) (hw _ m_915) (fun _ h9 => h9) rfl d_Ref_beginState_82 ?_
    refine lv_sipush (v := 139) hx hb d_Ref_beginState_85 (by decide) ?_
    refine lv_iconst (v := 4) hx hb d_Ref_beginState_88 (by decide) ?_
    refine lv_iload_n hx hb d_Ref_beginState_89 rfl (lv_at hl 0 rfl) ?_
    refine lv_imul hx hb d_Ref_beginState_90 ?_
    refine tp_i (y := 12) (by first | rfl | decide) ?_
    refine lv_iadd hx hb d_Ref_beginState_91 ?_
    refine tp_i (y := 151) (by first | rfl | decide) ?_
    refine lv_iload_n hx hb d_Ref_beginState_92 rfl (lv_at hl 1 rfl) ?_
    refine lv_iadd hx hb d_Ref_beginState_93 ?_
    refine tp_i (y := 153) (by first | rfl | decide) ?_
    refine lv_iload_n hx hb d_Ref_beginState_94 rfl (lv_at hl 1 rfl) ?_
    refine va_iast (D := (dC, dI)) hx hb hK hP (dd_D hD rfl) hS 1 0 rfl rfl (i := 153) (x := 2) (pk_in 153 155 (by omega)) d_Ref_beginState_95 ?_
    clear hP hS locs H
    intro H locs hP _ hS
    rw [show (153 : Int32).toNatClampNeg = 153 from pk_cl 153] at hP
    replace hP : va_P (dC, dI) classes [oc ra 8 [.int (nI T), .int (nI Ac), .ref (rA 2), .ref (rA 3), .ref (rA 4), .ref (rA 5), .ref (rA 6), .ref (rA 7), .ref (rA 8), .ref (rA 9), .ref (rA 10), .ref (rA 11), .ref (rA 12), .ref (rA 13), .int ir, .ref (rA 15), .ref (rA 16), .ref (rA 17), .ref (rA 18), .int (nI md), .int (nI wd), .ref (rA 21), .ref (rA 22), .ref (rA 23), .int (nI mn), .ref (rA 25), .int (nI cb), .int mr, .ref (rA 28), .ref (rA 29), .ref (rA 30), .ref (rA 31), .ref (rA 32), .ref (rA 33), .ref (rA 34), .ref (rA 35), .int (nI ld), .int (nI gm), .ref (rA 38), .ref (rA 39), .ref (rA 40), .ref (rA 41), .ref (rA 42), .ref (rA 43), .ref (rA 44), .ref (rA 45), .int (nI my), .ref (rA 47)], ia (rA 16) (rK9 16) 155 (upd (upd (upd (upd (upd (upd (upd (upd (upd (upd (upd (upd (upd (upd (upd (upd (upd (upd (upd (upd (upd (upd (upd (upd (upd (upd (upd (upd (upd (upd (fun _ => 0) 37 1) 41 0) 95 0) 139 0) 96 1) 143 0) 97 2) 147 0) 98 3) 151 0) 38 1) 49 1) 99 0) 140 1) 100 1) 144 1) 101 2) 148 1) 102 3) 152 1) 39 1) 57 2) 103 0) 141 2) 104 1) 145 2) 105 2) 149 2) 106 3) 153 2)] H := hP
    refine tp_pc (pc' := 96) (by rfl) ?_
    refine lv_iinc (v := 4) (lv' := [(2, .int 4), (1, .int 2), (0, .ref ra)]) hx hb d_Ref_beginState_96 hl (k := 0) rfl (by first | rfl | decide) (by decide) rfl ?_
    clear hl ls
    intro ls hl
    refine lv_goto (tgt := 62) hx hb d_Ref_beginState_99 (by decide) ?_
    refine tp_pc (pc' := 62) (by rfl) ?_
    refine lv_iload_n hx hb d_Ref_beginState_62 rfl (lv_at hl 0 rfl) ?_
    refine lv_iconst (v := 4) hx hb d_Ref_beginState_63 (by decide) ?_
    refine lv_icmp_ge (tgt := 102) hx hb d_Ref_beginState_64 (by decide) (fun c_19 => ?_) (fun c_19 => absurd c_19 (by decide))
    refine tp_pc (pc' := 102) (by rfl) ?_
    refine lv_iinc (v := 3) (lv' := [(1, .int 3), (2, .int 4), (0, .ref ra)]) hx hb d_Ref_beginState_102 hl (k := 1) rfl (by first | rfl | decide) (by decide) rfl ?_
    clear hl ls
    intro ls hl
    refine lv_goto (tgt := 32) hx hb d_Ref_beginState_105 (by decide) ?_
    refine tp_pc (pc' := 32) (by rfl) ?_
    refine lv_iload_n hx hb d_Ref_beginState_32 rfl (lv_at hl 0 rfl) ?_
    refine lv_iconst (v := 4) hx hb d_Ref_beginState_33 (by decide) ?_
    refine lv_icmp_ge (tgt := 108) hx hb d_Ref_beginState_34 (by decide) (fun c_20 => absurd c_20 (by decide)) (fun c_20 => ?_)
    refine tp_pc (pc' := 37) (by rfl) ?_
    refine lv_aload_n hx hb d_Ref_beginState_37 rfl (lv_at hl 2 rfl) ?_
    refine va_get (D := (dC, dI)) (ci := 8) (v := .ref (rA 16)) (C := R_Ref) (T := F_Ref) (N := 48) hx hb hw i_Ref hown hK hP 0 rfl rfl 16 (by decide) (hw _ m_915) (fun _ h9 => h9) rfl d_Ref_beginState_38 ?_
    refine lv_bipush (v := 37) hx hb d_Ref_beginState_41 (by decide) ?_
    refine lv_iload_n hx hb d_Ref_beginState_43 rfl (lv_at hl 0 rfl) ?_
    refine lv_iadd hx hb d_Ref_beginState_44 ?_
    refine tp_i (y := 40) (by first | rfl | decide) ?_
    refine lv_iconst (v := 1) hx hb d_Ref_beginState_45 (by decide) ?_
    refine va_iast (D := (dC, dI)) hx hb hK hP (dd_D hD rfl) hS 1 0 rfl rfl (i := 40) (x := 1) (pk_in 40 155 (by omega)) d_Ref_beginState_46 ?_
    clear hP hS locs H
    intro H locs hP _ hS
    rw [show (40 : Int32).toNatClampNeg = 40 from pk_cl 40] at hP
    replace hP : va_P (dC, dI) classes [oc ra 8 [.int (nI T), .int (nI Ac), .ref (rA 2), .ref (rA 3), .ref (rA 4), .ref (rA 5), .ref (rA 6), .ref (rA 7), .ref (rA 8), .ref (rA 9), .ref (rA 10), .ref (rA 11), .ref (rA 12), .ref (rA 13), .int ir, .ref (rA 15), .ref (rA 16), .ref (rA 17), .ref (rA 18), .int (nI md), .int (nI wd), .ref (rA 21), .ref (rA 22), .ref (rA 23), .int (nI mn), .ref (rA 25), .int (nI cb), .int mr, .ref (rA 28), .ref (rA 29), .ref (rA 30), .ref (rA 31), .ref (rA 32), .ref (rA 33), .ref (rA 34), .ref (rA 35), .int (nI ld), .int (nI gm), .ref (rA 38), .ref (rA 39), .ref (rA 40), .ref (rA 41), .ref (rA 42), .ref (rA 43), .ref (rA 44), .ref (rA 45), .int (nI my), .ref (rA 47)], ia (rA 16) (rK9 16) 155 (upd (upd (upd (upd (upd (upd (upd (upd (upd (upd (upd (upd (upd (upd (upd (upd (upd (upd (upd (upd (upd (upd (upd (upd (upd (upd (upd (upd (upd (upd (upd (fun _ => 0) 37 1) 41 0) 95 0) 139 0) 96 1) 143 0) 97 2) 147 0) 98 3) 151 0) 38 1) 49 1) 99 0) 140 1) 100 1) 144 1) 101 2) 148 1) 102 3) 152 1) 39 1) 57 2) 103 0) 141 2) 104 1) 145 2) 105 2) 149 2) 106 3) 153 2) 40 1)] H := hP
    refine tp_pc (pc' := 47) (by rfl) ?_
    refine lv_aload_n hx hb d_Ref_beginState_47 rfl (lv_at hl 2 rfl) ?_
    refine va_get (D := (dC, dI)) (ci := 8) (v := .ref (rA 16)) (C := R_Ref) (T := F_Ref) (N := 48) hx hb hw i_Ref hown hK hP 0 rfl rfl 16 (by decide) (hw _ m_915) (fun _ h9 => h9) rfl d_Ref_beginState_48 ?_
    refine lv_bipush (v := 41) hx hb d_Ref_beginState_51 (by decide) ?_
    refine lv_bipush (v := 8) hx hb d_Ref_beginState_53 (by decide) ?_
    refine lv_iload_n hx hb d_Ref_beginState_55 rfl (lv_at hl 0 rfl) ?_
    refine lv_imul hx hb d_Ref_beginState_56 ?_
    refine tp_i (y := 24) (by first | rfl | decide) ?_
    refine lv_iadd hx hb d_Ref_beginState_57 ?_
    refine tp_i (y := 65) (by first | rfl | decide) ?_
    refine lv_iload_n hx hb d_Ref_beginState_58 rfl (lv_at hl 0 rfl) ?_
    refine va_iast (D := (dC, dI)) hx hb hK hP (dd_D hD rfl) hS 1 0 rfl rfl (i := 65) (x := 3) (pk_in 65 155 (by omega)) d_Ref_beginState_59 ?_
    clear hP hS locs H
    intro H locs hP _ hS
    rw [show (65 : Int32).toNatClampNeg = 65 from pk_cl 65] at hP
    replace hP : va_P (dC, dI) classes [oc ra 8 [.int (nI T), .int (nI Ac), .ref (rA 2), .ref (rA 3), .ref (rA 4), .ref (rA 5), .ref (rA 6), .ref (rA 7), .ref (rA 8), .ref (rA 9), .ref (rA 10), .ref (rA 11), .ref (rA 12), .ref (rA 13), .int ir, .ref (rA 15), .ref (rA 16), .ref (rA 17), .ref (rA 18), .int (nI md), .int (nI wd), .ref (rA 21), .ref (rA 22), .ref (rA 23), .int (nI mn), .ref (rA 25), .int (nI cb), .int mr, .ref (rA 28), .ref (rA 29), .ref (rA 30), .ref (rA 31), .ref (rA 32), .ref (rA 33), .ref (rA 34), .ref (rA 35), .int (nI ld), .int (nI gm), .ref (rA 38), .ref (rA 39), .ref (rA 40), .ref (rA 41), .ref (rA 42), .ref (rA 43), .ref (rA 44), .ref (rA 45), .int (nI my), .ref (rA 47)], ia (rA 16) (rK9 16) 155 (upd (upd (upd (upd (upd (upd (upd (upd (upd (upd (upd (upd (upd (upd (upd (upd (upd (upd (upd (upd (upd (upd (upd (upd (upd (upd (upd (upd (upd (upd (upd (upd (fun _ => 0) 37 1) 41 0) 95 0) 139 0) 96 1) 143 0) 97 2) 147 0) 98 3) 151 0) 38 1) 49 1) 99 0) 140 1) 100 1) 144 1) 101 2) 148 1) 102 3) 152 1) 39 1) 57 2) 103 0) 141 2) 104 1) 145 2) 105 2) 149 2) 106 3) 153 2) 40 1) 65 3)] H := hP
    refine tp_pc (pc' := 60) (by rfl) ?_
    refine lv_iconst (v := 0) hx hb d_Ref_beginState_60 (by decide) ?_
    refine lv_istore_n (lv' := [(2, .int 0), (1, .int 3), (0, .ref ra)]) hx hb d_Ref_beginState_61 rfl hl (by decide) rfl ?_
    clear hl ls
    intro ls hl
    refine lv_iload_n hx hb d_Ref_beginState_62 rfl (lv_at hl 0 rfl) ?_
    refine lv_iconst (v := 4) hx hb d_Ref_beginState_63 (by decide) ?_
    refine lv_icmp_ge (tgt := 102) hx hb d_Ref_beginState_64 (by decide) (fun c_21 => absurd c_21 (by decide)) (fun c_21 => ?_)
    refine tp_pc (pc' := 67) (by rfl) ?_
    refine lv_aload_n hx hb d_Ref_beginState_67 rfl (lv_at hl 2 rfl) ?_
    refine va_get (D := (dC, dI)) (ci := 8) (v := .ref (rA 16)) (C := R_Ref) (T := F_Ref) (N := 48) hx hb hw i_Ref hown hK hP 0 rfl rfl 16 (by decide) (hw _ m_915) (fun _ h9 => h9) rfl d_Ref_beginState_68 ?_
    refine lv_bipush (v := 95) hx hb d_Ref_beginState_71 (by decide) ?_
    refine lv_iconst (v := 4) hx hb d_Ref_beginState_73 (by decide) ?_
    refine lv_iload_n hx hb d_Ref_beginState_74 rfl (lv_at hl 1 rfl) ?_
    refine lv_imul hx hb d_Ref_beginState_75 ?_
    refine tp_i (y := 12) (by first | rfl | decide) ?_
    refine lv_iadd hx hb d_Ref_beginState_76 ?_
    refine tp_i (y := 107) (by first | rfl | decide) ?_
    refine lv_iload_n hx hb d_Ref_beginState_77 rfl (lv_at hl 0 rfl) ?_
    refine lv_iadd hx hb d_Ref_beginState_78 ?_
    refine tp_i (y := 107) (by first | rfl | decide) ?_
    refine lv_iload_n hx hb d_Ref_beginState_79 rfl (lv_at hl 0 rfl) ?_
    refine va_iast (D := (dC, dI)) hx hb hK hP (dd_D hD rfl) hS 1 0 rfl rfl (i := 107) (x := 0) (pk_in 107 155 (by omega)) d_Ref_beginState_80 ?_
    clear hP hS locs H
    intro H locs hP _ hS
    rw [show (107 : Int32).toNatClampNeg = 107 from pk_cl 107] at hP
    replace hP : va_P (dC, dI) classes [oc ra 8 [.int (nI T), .int (nI Ac), .ref (rA 2), .ref (rA 3), .ref (rA 4), .ref (rA 5), .ref (rA 6), .ref (rA 7), .ref (rA 8), .ref (rA 9), .ref (rA 10), .ref (rA 11), .ref (rA 12), .ref (rA 13), .int ir, .ref (rA 15), .ref (rA 16), .ref (rA 17), .ref (rA 18), .int (nI md), .int (nI wd), .ref (rA 21), .ref (rA 22), .ref (rA 23), .int (nI mn), .ref (rA 25), .int (nI cb), .int mr, .ref (rA 28), .ref (rA 29), .ref (rA 30), .ref (rA 31), .ref (rA 32), .ref (rA 33), .ref (rA 34), .ref (rA 35), .int (nI ld), .int (nI gm), .ref (rA 38), .ref (rA 39), .ref (rA 40), .ref (rA 41), .ref (rA 42), .ref (rA 43), .ref (rA 44), .ref (rA 45), .int (nI my), .ref (rA 47)], ia (rA 16) (rK9 16) 155 (upd (upd (upd (upd (upd (upd (upd (upd (upd (upd (upd (upd (upd (upd (upd (upd (upd (upd (upd (upd (upd (upd (upd (upd (upd (upd (upd (upd (upd (upd (upd (upd (upd (fun _ => 0) 37 1) 41 0) 95 0) 139 0) 96 1) 143 0) 97 2) 147 0) 98 3) 151 0) 38 1) 49 1) 99 0) 140 1) 100 1) 144 1) 101 2) 148 1) 102 3) 152 1) 39 1) 57 2) 103 0) 141 2) 104 1) 145 2) 105 2) 149 2) 106 3) 153 2) 40 1) 65 3) 107 0)] H := hP
    refine tp_pc (pc' := 81) (by rfl) ?_
    refine lv_aload_n hx hb d_Ref_beginState_81 rfl (lv_at hl 2 rfl) ?_
    refine va_get (D := (dC, dI)) (ci := 8) (v := .ref (rA 16)) (C := R_Ref) (T := F_Ref) (N := 48) hx hb hw i_Ref hown hK hP 0 rfl rfl 16 (by decide) (hw _ m_915) (fun _ h9 => h9) rfl d_Ref_beginState_82 ?_
    refine lv_sipush (v := 139) hx hb d_Ref_beginState_85 (by decide) ?_
    refine lv_iconst (v := 4) hx hb d_Ref_beginState_88 (by decide) ?_
    refine lv_iload_n hx hb d_Ref_beginState_89 rfl (lv_at hl 0 rfl) ?_
    refine lv_imul hx hb d_Ref_beginState_90 ?_
    refine tp_i (y := 0) (by first | rfl | decide) ?_
    refine lv_iadd hx hb d_Ref_beginState_91 ?_
    refine tp_i (y := 139) (by first | rfl | decide) ?_
    refine lv_iload_n hx hb d_Ref_beginState_92 rfl (lv_at hl 1 rfl) ?_
    refine lv_iadd hx hb d_Ref_beginState_93 ?_
    refine tp_i (y := 142) (by first | rfl | decide) ?_
    refine lv_iload_n hx hb d_Ref_beginState_94 rfl (lv_at hl 1 rfl) ?_
    refine va_iast (D := (dC, dI)) hx hb hK hP (dd_D hD rfl) hS 1 0 rfl rfl (i := 142) (x := 3) (pk_in 142 155 (by omega)) d_Ref_beginState_95 ?_
    clear hP hS locs H
    intro H locs hP _ hS
    rw [show (142 : Int32).toNatClampNeg = 142 from pk_cl 142] at hP
    replace hP : va_P (dC, dI) classes [oc ra 8 [.int (nI T), .int (nI Ac), .ref (rA 2), .ref (rA 3), .ref (rA 4), .ref (rA 5), .ref (rA 6), .ref (rA 7), .ref (rA 8), .ref (rA 9), .ref (rA 10), .ref (rA 11), .ref (rA 12), .ref (rA 13), .int ir, .ref (rA 15), .ref (rA 16), .ref (rA 17), .ref (rA 18), .int (nI md), .int (nI wd), .ref (rA 21), .ref (rA 22), .ref (rA 23), .int (nI mn), .ref (rA 25), .int (nI cb), .int mr, .ref (rA 28), .ref (rA 29), .ref (rA 30), .ref (rA 31), .ref (rA 32), .ref (rA 33), .ref (rA 34), .ref (rA 35), .int (nI ld), .int (nI gm), .ref (rA 38), .ref (rA 39), .ref (rA 40), .ref (rA 41), .ref (rA 42), .ref (rA 43), .ref (rA 44), .ref (rA 45), .int (nI my), .ref (rA 47)], ia (rA 16) (rK9 16) 155 (upd (upd (upd (upd (upd (upd (upd (upd (upd (upd (upd (upd (upd (upd (upd (upd (upd (upd (upd (upd (upd (upd (upd (upd (upd (upd (upd (upd (upd (upd (upd (upd (upd (upd (fun _ => 0) 37 1) 41 0) 95 0) 139 0) 96 1) 143 0) 97 2) 147 0) 98 3) 151 0) 38 1) 49 1) 99 0) 140 1) 100 1) 144 1) 101 2) 148 1) 102 3) 152 1) 39 1) 57 2) 103 0) 141 2) 104 1) 145 2) 105 2) 149 2) 106 3) 153 2) 40 1) 65 3) 107 0) 142 3)] H := hP
    refine tp_pc (pc' := 96) (by rfl) ?_
    refine lv_iinc (v := 1) (lv' := [(2, .int 1), (1, .int 3), (0, .ref ra)]) hx hb d_Ref_beginState_96 hl (k := 0) rfl (by first | rfl | decide) (by decide) rfl ?_
    clear hl ls
    intro ls hl
    refine lv_goto (tgt := 62) hx hb d_Ref_beginState_99 (by decide) ?_
    refine tp_pc (pc' := 62) (by rfl) ?_
    refine lv_iload_n hx hb d_Ref_beginState_62 rfl (lv_at hl 0 rfl) ?_
    refine lv_iconst (v := 4) hx hb d_Ref_beginState_63 (by decide) ?_
    refine lv_icmp_ge (tgt := 102) hx hb d_Ref_beginState_64 (by decide) (fun c_22 => absurd c_22 (by decide)) (fun c_22 => ?_)
    refine tp_pc (pc' := 67) (by rfl) ?_
    refine lv_aload_n hx hb d_Ref_beginState_67 rfl (lv_at hl 2 rfl) ?_
    refine va_get (D := (dC, dI)) (ci := 8) (v := .ref (rA 16)) (C := R_Ref) (T := F_Ref) (N := 48) hx hb hw i_Ref hown hK hP 0 rfl rfl 16 (by decide) (hw _ m_915) (fun _ h9 => h9) rfl d_Ref_beginState_68 ?_
    refine lv_bipush (v := 95) hx hb d_Ref_beginState_71 (by decide) ?_
    refine lv_iconst (v := 4) hx hb d_Ref_beginState_73 (by decide) ?_
    refine lv_iload_n hx hb d_Ref_beginState_74 rfl (lv_at hl 1 rfl) ?_
    refine lv_imul hx hb d_Ref_beginState_75 ?_
    refine tp_i (y := 12) (by first | rfl | decide) ?_
    refine lv_iadd hx hb d_Ref_beginState_76 ?_
    refine tp_i (y := 107) (by first | rfl | decide) ?_
    refine lv_iload_n hx hb d_Ref_beginState_77 rfl (lv_at hl 0 rfl) ?_
    refine lv_iadd hx hb d_Ref_beginState_78 ?_
    refine tp_i (y := 108) (by first | rfl | decide) ?_
    refine lv_iload_n hx hb d_Ref_beginState_79 rfl (lv_at hl 0 rfl) ?_
    refine va_iast (D := (dC, dI)) hx hb hK hP (dd_D hD rfl) hS 1 0 rfl rfl (i := 108) (x := 1) (pk_in 108 155 (by omega)) d_Ref_beginState_80 ?_
    clear hP hS locs H
    intro H locs hP _ hS
    rw [show (108 : Int32).toNatClampNeg = 108 from pk_cl 108] at hP
    replace hP : va_P (dC, dI) classes [oc ra 8 [.int (nI T), .int (nI Ac), .ref (rA 2), .ref (rA 3), .ref (rA 4), .ref (rA 5), .ref (rA 6), .ref (rA 7), .ref (rA 8), .ref (rA 9), .ref (rA 10), .ref (rA 11), .ref (rA 12), .ref (rA 13), .int ir, .ref (rA 15), .ref (rA 16), .ref (rA 17), .ref (rA 18), .int (nI md), .int (nI wd), .ref (rA 21), .ref (rA 22), .ref (rA 23), .int (nI mn), .ref (rA 25), .int (nI cb), .int mr, .ref (rA 28), .ref (rA 29), .ref (rA 30), .ref (rA 31), .ref (rA 32), .ref (rA 33), .ref (rA 34), .ref (rA 35), .int (nI ld), .int (nI gm), .ref (rA 38), .ref (rA 39), .ref (rA 40), .ref (rA 41), .ref (rA 42), .ref (rA 43), .ref (rA 44), .ref (rA 45), .int (nI my), .ref (rA 47)], ia (rA 16) (rK9 16) 155 (upd (upd (upd (upd (upd (upd (upd (upd (upd (upd (upd (upd (upd (upd (upd (upd (upd (upd (upd (upd (upd (upd (upd (upd (upd (upd (upd (upd (upd (upd (upd (upd (upd (upd (upd (fun _ => 0) 37 1) 41 0) 95 0) 139 0) 96 1) 143 0) 97 2) 147 0) 98 3) 151 0) 38 1) 49 1) 99 0) 140 1) 100 1) 144 1) 101 2) 148 1) 102 3) 152 1) 39 1) 57 2) 103 0) 141 2) 104 1) 145 2) 105 2) 149 2) 106 3) 153 2) 40 1) 65 3) 107 0) 142 3) 108 1)] H := hP
    refine tp_pc (pc' := 81) (by rfl) ?_
    refine lv_aload_n hx hb d_Ref_beginState_81 rfl (lv_at hl 2 rfl) ?_
    refine va_get (D := (dC, dI)) (ci := 8) (v := .ref (rA 16)) (C := R_Ref) (T := F_Ref) (N := 48) hx hb hw i_Ref hown hK hP 0 rfl rfl 16 (by decide) (hw _ m_915) (fun _ h9 => h9) rfl d_Ref_beginState_82 ?_
    refine lv_sipush (v := 139) hx hb d_Ref_beginState_85 (by decide) ?_
    refine lv_iconst (v := 4) hx hb d_Ref_beginState_88 (by decide) ?_
    refine lv_iload_n hx hb d_Ref_beginState_89 rfl (lv_at hl 0 rfl) ?_
    refine lv_imul hx hb d_Ref_beginState_90 ?_
    refine tp_i (y := 4) (by first | rfl | decide) ?_
    refine lv_iadd hx hb d_Ref_beginState_91 ?_
    refine tp_i (y := 143) (by first | rfl | decide) ?_
    refine lv_iload_n hx hb d_Ref_beginState_92 rfl (lv_at hl 1 rfl) ?_
    refine lv_iadd hx hb d_Ref_beginState_93 ?_
    refine tp_i (y := 146) (by first | rfl | decide) ?_
    refine lv_iload_n hx hb d_Ref_beginState_94 rfl (lv_at hl 1 rfl) ?_
    refine va_iast (D := (dC, dI)) hx hb hK hP (dd_D hD rfl) hS 1 0 rfl rfl (i := 146) (x := 3) (pk_in 146 155 (by omega)) d_Ref_beginState_95 ?_
    clear hP hS locs H
    intro H locs hP _ hS
    rw [show (146 : Int32).toNatClampNeg = 146 from pk_cl 146] at hP
    replace hP : va_P (dC, dI) classes [oc ra 8 [.int (nI T), .int (nI Ac), .ref (rA 2), .ref (rA 3), .ref (rA 4), .ref (rA 5), .ref (rA 6), .ref (rA 7), .ref (rA 8), .ref (rA 9), .ref (rA 10), .ref (rA 11), .ref (rA 12), .ref (rA 13), .int ir, .ref (rA 15), .ref (rA 16), .ref (rA 17), .ref (rA 18), .int (nI md), .int (nI wd), .ref (rA 21), .ref (rA 22), .ref (rA 23), .int (nI mn), .ref (rA 25), .int (nI cb), .int mr, .ref (rA 28), .ref (rA 29), .ref (rA 30), .ref (rA 31), .ref (rA 32), .ref (rA 33), .ref (rA 34), .ref (rA 35), .int (nI ld), .int (nI gm), .ref (rA 38), .ref (rA 39), .ref (rA 40), .ref (rA 41), .ref (rA 42), .ref (rA 43), .ref (rA 44), .ref (rA 45), .int (nI my), .ref (rA 47)], ia (rA 16) (rK9 16) 155 (upd (upd (upd (upd (upd (upd (upd (upd (upd (upd (upd (upd (upd (upd (upd (upd (upd (upd (upd (upd (upd (upd (upd (upd (upd (upd (upd (upd (upd (upd (upd (upd (upd (upd (upd (upd (fun _ => 0) 37 1) 41 0) 95 0) 139 0) 96 1) 143 0) 97 2) 147 0) 98 3) 151 0) 38 1) 49 1) 99 0) 140 1) 100 1) 144 1) 101 2) 148 1) 102 3) 152 1) 39 1) 57 2) 103 0) 141 2) 104 1) 145 2) 105 2) 149 2) 106 3) 153 2) 40 1) 65 3) 107 0) 142 3) 108 1) 146 3)] H := hP
    refine tp_pc (pc' := 96) (by rfl) ?_
    refine lv_iinc (v := 2) (lv' := [(2, .int 2), (1, .int 3), (0, .ref ra)]) hx hb d_Ref_beginState_96 hl (k := 0) rfl (by first | rfl | decide) (by decide) rfl ?_
    clear hl ls
    intro ls hl
    refine lv_goto (tgt := 62) hx hb d_Ref_beginState_99 (by decide) ?_
    refine tp_pc (pc' := 62) (by rfl) ?_
    refine lv_iload_n hx hb d_Ref_beginState_62 rfl (lv_at hl 0 rfl) ?_
    refine lv_iconst (v := 4) hx hb d_Ref_beginState_63 (by decide) ?_
    refine lv_icmp_ge (tgt := 102) hx hb d_Ref_beginState_64 (by decide) (fun c_23 => absurd c_23 (by decide)) (fun c_23 => ?_)
    refine tp_pc (pc' := 67) (by rfl) ?_
    refine lv_aload_n hx hb d_Ref_beginState_67 rfl (lv_at hl 2 rfl) ?_
    refine va_get (D := (dC, dI)) (ci := 8) (v := .ref (rA 16)) (C := R_Ref) (T := F_Ref) (N := 48) hx hb hw i_Ref hown hK hP 0 rfl rfl 16 (by decide) (hw _ m_915) (fun _ h9 => h9) rfl d_Ref_beginState_68 ?_
    refine lv_bipush (v := 95) hx hb d_Ref_beginState_71 (by decide) ?_
    refine lv_iconst (v := 4) hx hb d_Ref_beginState_73 (by decide) ?_
    refine lv_iload_n hx hb d_Ref_beginState_74 rfl (lv_at hl 1 rfl) ?_
    refine lv_imul hx hb d_Ref_beginState_75 ?_
    refine tp_i (y := 12) (by first | rfl | decide) ?_
    refine lv_iadd hx hb d_Ref_beginState_76 ?_
    refine tp_i (y := 107) (by first | rfl | decide) ?_
    refine lv_iload_n hx hb d_Ref_beginState_77 rfl (lv_at hl 0 rfl) ?_
    refine lv_iadd hx hb d_Ref_beginState_78 ?_
    refine tp_i (y := 109) (by first | rfl | decide) ?_
    refine lv_iload_n hx hb d_Ref_beginState_79 rfl (lv_at hl 0 rfl) ?_
    refine va_iast (D := (dC, dI)) hx hb hK hP (dd_D hD rfl) hS 1 0 rfl rfl (i := 109) (x := 2) (pk_in 109 155 (by omega)) d_Ref_beginState_80 ?_
    clear hP hS locs H
    intro H locs hP _ hS
    rw [show (109 : Int32).toNatClampNeg = 109 from pk_cl 109] at hP
    replace hP : va_P (dC, dI) classes [oc ra 8 [.int (nI T), .int (nI Ac), .ref (rA 2), .ref (rA 3), .ref (rA 4), .ref (rA 5), .ref (rA 6), .ref (rA 7), .ref (rA 8), .ref (rA 9), .ref (rA 10), .ref (rA 11), .ref (rA 12), .ref (rA 13), .int ir, .ref (rA 15), .ref (rA 16), .ref (rA 17), .ref (rA 18), .int (nI md), .int (nI wd), .ref (rA 21), .ref (rA 22), .ref (rA 23), .int (nI mn), .ref (rA 25), .int (nI cb), .int mr, .ref (rA 28), .ref (rA 29), .ref (rA 30), .ref (rA 31), .ref (rA 32), .ref (rA 33), .ref (rA 34), .ref (rA 35), .int (nI ld), .int (nI gm), .ref (rA 38), .ref (rA 39), .ref (rA 40), .ref (rA 41), .ref (rA 42), .ref (rA 43), .ref (rA 44), .ref (rA 45), .int (nI my), .ref (rA 47)], ia (rA 16) (rK9 16) 155 (upd (upd (upd (upd (upd (upd (upd (upd (upd (upd (upd (upd (upd (upd (upd (upd (upd (upd (upd (upd (upd (upd (upd (upd (upd (upd (upd (upd (upd (upd (upd (upd (upd (upd (upd (upd (upd (fun _ => 0) 37 1) 41 0) 95 0) 139 0) 96 1) 143 0) 97 2) 147 0) 98 3) 151 0) 38 1) 49 1) 99 0) 140 1) 100 1) 144 1) 101 2) 148 1) 102 3) 152 1) 39 1) 57 2) 103 0) 141 2) 104 1) 145 2) 105 2) 149 2) 106 3) 153 2) 40 1) 65 3) 107 0) 142 3) 108 1) 146 3) 109 2)] H := hP
    refine tp_pc (pc' := 81) (by rfl) ?_
    refine lv_aload_n hx hb d_Ref_beginState_81 rfl (lv_at hl 2 rfl) ?_
    refine va_get (D := (dC, dI)) (ci := 8) (v := .ref (rA 16)) (C := R_Ref) (T := F_Ref) (N := 48) hx hb hw i_Ref hown hK hP 0 rfl rfl 16 (by decide) (hw _ m_915) (fun _ h9 => h9) rfl d_Ref_beginState_82 ?_
    refine lv_sipush (v := 139) hx hb d_Ref_beginState_85 (by decide) ?_
    refine lv_iconst (v := 4) hx hb d_Ref_beginState_88 (by decide) ?_
    refine lv_iload_n hx hb d_Ref_beginState_89 rfl (lv_at hl 0 rfl) ?_
    refine lv_imul hx hb d_Ref_beginState_90 ?_
    refine tp_i (y := 8) (by first | rfl | decide) ?_
    refine lv_iadd hx hb d_Ref_beginState_91 ?_
    refine tp_i (y := 147) (by first | rfl | decide) ?_
    refine lv_iload_n hx hb d_Ref_beginState_92 rfl (lv_at hl 1 rfl) ?_
    refine lv_iadd hx hb d_Ref_beginState_93 ?_
    refine tp_i (y := 150) (by first | rfl | decide) ?_
    refine lv_iload_n hx hb d_Ref_beginState_94 rfl (lv_at hl 1 rfl) ?_
    refine va_iast (D := (dC, dI)) hx hb hK hP (dd_D hD rfl) hS 1 0 rfl rfl (i := 150) (x := 3) (pk_in 150 155 (by omega)) d_Ref_beginState_95 ?_
    clear hP hS locs H
    intro H locs hP _ hS
    rw [show (150 : Int32).toNatClampNeg = 150 from pk_cl 150] at hP
    replace hP : va_P (dC, dI) classes [oc ra 8 [.int (nI T), .int (nI Ac), .ref (rA 2), .ref (rA 3), .ref (rA 4), .ref (rA 5), .ref (rA 6), .ref (rA 7), .ref (rA 8), .ref (rA 9), .ref (rA 10), .ref (rA 11), .ref (rA 12), .ref (rA 13), .int ir, .ref (rA 15), .ref (rA 16), .ref (rA 17), .ref (rA 18), .int (nI md), .int (nI wd), .ref (rA 21), .ref (rA 22), .ref (rA 23), .int (nI mn), .ref (rA 25), .int (nI cb), .int mr, .ref (rA 28), .ref (rA 29), .ref (rA 30), .ref (rA 31), .ref (rA 32), .ref (rA 33), .ref (rA 34), .ref (rA 35), .int (nI ld), .int (nI gm), .ref (rA 38), .ref (rA 39), .ref (rA 40), .ref (rA 41), .ref (rA 42), .ref (rA 43), .ref (rA 44), .ref (rA 45), .int (nI my), .ref (rA 47)], ia (rA 16) (rK9 16) 155 (upd (upd (upd (upd (upd (upd (upd (upd (upd (upd (upd (upd (upd (upd (upd (upd (upd (upd (upd (upd (upd (upd (upd (upd (upd (upd (upd (upd (upd (upd (upd (upd (upd (upd (upd (upd (upd (upd (fun _ => 0) 37 1) 41 0) 95 0) 139 0) 96 1) 143 0) 97 2) 147 0) 98 3) 151 0) 38 1) 49 1) 99 0) 140 1) 100 1) 144 1) 101 2) 148 1) 102 3) 152 1) 39 1) 57 2) 103 0) 141 2) 104 1) 145 2) 105 2) 149 2) 106 3) 153 2) 40 1) 65 3) 107 0) 142 3) 108 1) 146 3) 109 2) 150 3)] H := hP
    refine tp_pc (pc' := 96) (by rfl) ?_
    refine lv_iinc (v := 3) (lv' := [(2, .int 3), (1, .int 3), (0, .ref ra)]) hx hb d_Ref_beginState_96 hl (k := 0) rfl (by first | rfl | decide) (by decide) rfl ?_
    clear hl ls
    intro ls hl
    refine lv_goto (tgt := 62) hx hb d_Ref_beginState_99 (by decide) ?_
    refine tp_pc (pc' := 62) (by rfl) ?_
    refine lv_iload_n hx hb d_Ref_beginState_62 rfl (lv_at hl 0 rfl) ?_
    refine lv_iconst (v := 4) hx hb d_Ref_beginState_63 (by decide) ?_
    refine lv_icmp_ge (tgt := 102) hx hb d_Ref_beginState_64 (by decide) (fun c_24 => absurd c_24 (by decide)) (fun c_24 => ?_)
    refine tp_pc (pc' := 67) (by rfl) ?_
    refine lv_aload_n hx hb d_Ref_beginState_67 rfl (lv_at hl 2 rfl) ?_
    refine va_get (D := (dC, dI)) (ci := 8) (v := .ref (rA 16)) (C := R_Ref) (T := F_Ref) (N := 48) hx hb hw i_Ref hown hK hP 0 rfl rfl 16 (by decide) (hw _ m_915) (fun _ h9 => h9) rfl d_Ref_beginState_68 ?_
    refine lv_bipush (v := 95) hx hb d_Ref_beginState_71 (by decide) ?_
    refine lv_iconst (v := 4) hx hb d_Ref_beginState_73 (by decide) ?_
    refine lv_iload_n hx hb d_Ref_beginState_74 rfl (lv_at hl 1 rfl) ?_
    refine lv_imul hx hb d_Ref_beginState_75 ?_
    refine tp_i (y := 12) (by first | rfl | decide) ?_
    refine lv_iadd hx hb d_Ref_beginState_76 ?_
    refine tp_i (y := 107) (by first | rfl | decide) ?_
    refine lv_iload_n hx hb d_Ref_beginState_77 rfl (lv_at hl 0 rfl) ?_
    refine lv_iadd hx hb d_Ref_beginState_78 ?_
    refine tp_i (y := 110) (by first | rfl | decide) ?_
    refine lv_iload_n hx hb d_Ref_beginState_79 rfl (lv_at hl 0 rfl) ?_
    refine va_iast (D := (dC, dI)) hx hb hK hP (dd_D hD rfl) hS 1 0 rfl rfl (i := 110) (x := 3) (pk_in 110 155 (by omega)) d_Ref_beginState_80 ?_
    clear hP hS locs H
    intro H locs hP _ hS
    rw [show (110 : Int32).toNatClampNeg = 110 from pk_cl 110] at hP
    replace hP : va_P (dC, dI) classes [oc ra 8 [.int (nI T), .int (nI Ac), .ref (rA 2), .ref (rA 3), .ref (rA 4), .ref (rA 5), .ref (rA 6), .ref (rA 7), .ref (rA 8), .ref (rA 9), .ref (rA 10), .ref (rA 11), .ref (rA 12), .ref (rA 13), .int ir, .ref (rA 15), .ref (rA 16), .ref (rA 17), .ref (rA 18), .int (nI md), .int (nI wd), .ref (rA 21), .ref (rA 22), .ref (rA 23), .int (nI mn), .ref (rA 25), .int (nI cb), .int mr, .ref (rA 28), .ref (rA 29), .ref (rA 30), .ref (rA 31), .ref (rA 32), .ref (rA 33), .ref (rA 34), .ref (rA 35), .int (nI ld), .int (nI gm), .ref (rA 38), .ref (rA 39), .ref (rA 40), .ref (rA 41), .ref (rA 42), .ref (rA 43), .ref (rA 44), .ref (rA 45), .int (nI my), .ref (rA 47)], ia (rA 16) (rK9 16) 155 (upd (upd (upd (upd (upd (upd (upd (upd (upd (upd (upd (upd (upd (upd (upd (upd (upd (upd (upd (upd (upd (upd (upd (upd (upd (upd (upd (upd (upd (upd (upd (upd (upd (upd (upd (upd (upd (upd (upd (fun _ => 0) 37 1) 41 0) 95 0) 139 0) 96 1) 143 0) 97 2) 147 0) 98 3) 151 0) 38 1) 49 1) 99 0) 140 1) 100 1) 144 1) 101 2) 148 1) 102 3) 152 1) 39 1) 57 2) 103 0) 141 2) 104 1) 145 2) 105 2) 149 2) 106 3) 153 2) 40 1) 65 3) 107 0) 142 3) 108 1) 146 3) 109 2) 150 3) 110 3)] H := hP
    refine tp_pc (pc' := 81) (by rfl) ?_
    refine lv_aload_n hx hb d_Ref_beginState_81 rfl (lv_at hl 2 rfl) ?_
    refine va_get (D := (dC, dI)) (ci := 8) (v := .ref (rA 16)) (C := R_Ref) (T := F_Ref) (N := 48) hx hb hw i_Ref hown hK hP 0 rfl rfl 16 (by decide) (hw _ m_915) (fun _ h9 => h9) rfl d_Ref_beginState_82 ?_
    refine lv_sipush (v := 139) hx hb d_Ref_beginState_85 (by decide) ?_
    refine lv_iconst (v := 4) hx hb d_Ref_beginState_88 (by decide) ?_
    refine lv_iload_n hx hb d_Ref_beginState_89 rfl (lv_at hl 0 rfl) ?_
    refine lv_imul hx hb d_Ref_beginState_90 ?_
    refine tp_i (y := 12) (by first | rfl | decide) ?_
    refine lv_iadd hx hb d_Ref_beginState_91 ?_
    refine tp_i (y := 151) (by first | rfl | decide) ?_
    refine lv_iload_n hx hb d_Ref_beginState_92 rfl (lv_at hl 1 rfl) ?_
    refine lv_iadd hx hb d_Ref_beginState_93 ?_
    refine tp_i (y := 154) (by first | rfl | decide) ?_
    refine lv_iload_n hx hb d_Ref_beginState_94 rfl (lv_at hl 1 rfl) ?_
    refine va_iast (D := (dC, dI)) hx hb hK hP (dd_D hD rfl) hS 1 0 rfl rfl (i := 154) (x := 3) (pk_in 154 155 (by omega)) d_Ref_beginState_95 ?_
    clear hP hS locs H
    intro H locs hP _ hS
    rw [show (154 : Int32).toNatClampNeg = 154 from pk_cl 154] at hP
    replace hP : va_P (dC, dI) classes [oc ra 8 [.int (nI T), .int (nI Ac), .ref (rA 2), .ref (rA 3), .ref (rA 4), .ref (rA 5), .ref (rA 6), .ref (rA 7), .ref (rA 8), .ref (rA 9), .ref (rA 10), .ref (rA 11), .ref (rA 12), .ref (rA 13), .int ir, .ref (rA 15), .ref (rA 16), .ref (rA 17), .ref (rA 18), .int (nI md), .int (nI wd), .ref (rA 21), .ref (rA 22), .ref (rA 23), .int (nI mn), .ref (rA 25), .int (nI cb), .int mr, .ref (rA 28), .ref (rA 29), .ref (rA 30), .ref (rA 31), .ref (rA 32), .ref (rA 33), .ref (rA 34), .ref (rA 35), .int (nI ld), .int (nI gm), .ref (rA 38), .ref (rA 39), .ref (rA 40), .ref (rA 41), .ref (rA 42), .ref (rA 43), .ref (rA 44), .ref (rA 45), .int (nI my), .ref (rA 47)], ia (rA 16) (rK9 16) 155 (upd (upd (upd (upd (upd (upd (upd (upd (upd (upd (upd (upd (upd (upd (upd (upd (upd (upd (upd (upd (upd (upd (upd (upd (upd (upd (upd (upd (upd (upd (upd (upd (upd (upd (upd (upd (upd (upd (upd (upd (fun _ => 0) 37 1) 41 0) 95 0) 139 0) 96 1) 143 0) 97 2) 147 0) 98 3) 151 0) 38 1) 49 1) 99 0) 140 1) 100 1) 144 1) 101 2) 148 1) 102 3) 152 1) 39 1) 57 2) 103 0) 141 2) 104 1) 145 2) 105 2) 149 2) 106 3) 153 2) 40 1) 65 3) 107 0) 142 3) 108 1) 146 3) 109 2) 150 3) 110 3) 154 3)] H := hP
    refine tp_pc (pc' := 96) (by rfl) ?_
    refine lv_iinc (v := 4) (lv' := [(2, .int 4), (1, .int 3), (0, .ref ra)]) hx hb d_Ref_beginState_96 hl (k := 0) rfl (by first | rfl | decide) (by decide) rfl ?_
    clear hl ls
    intro ls hl
    refine lv_goto (tgt := 62) hx hb d_Ref_beginState_99 (by decide) ?_
    refine tp_pc (pc' := 62) (by rfl) ?_
    refine lv_iload_n hx hb d_Ref_beginState_62 rfl (lv_at hl 0 rfl) ?_
    refine lv_iconst (v := 4) hx hb d_Ref_beginState_63 (by decide) ?_
    refine lv_icmp_ge (tgt := 102) hx hb d_Ref_beginState_64 (by decide) (fun c_25 => ?_) (fun c_25 => absurd c_25 (by decide))
    refine tp_pc (pc' := 102) (by rfl) ?_
    refine lv_iinc (v := 4) (lv' := [(1, .int 4), (2, .int 4), (0, .ref ra)]) hx hb d_Ref_beginState_102 hl (k := 1) rfl (by first | rfl | decide) (by decide) rfl ?_
    clear hl ls
    intro ls hl
    refine lv_goto (tgt := 32) hx hb d_Ref_beginState_105 (by decide) ?_
    refine tp_pc (pc' := 32) (by rfl) ?_
    refine lv_iload_n hx hb d_Ref_beginState_32 rfl (lv_at hl 0 rfl) ?_
    refine lv_iconst (v := 4) hx hb d_Ref_beginState_33 (by decide) ?_
    refine lv_icmp_ge (tgt := 108) hx hb d_Ref_beginState_34 (by decide) (fun c_26 => ?_) (fun c_26 => absurd c_26 (by decide))
    refine tp_pc (pc' := 108) (by rfl) ?_
    refine lv_aload_n hx hb d_Ref_beginState_108 rfl (lv_at hl 2 rfl) ?_
    refine va_get (D := (dC, dI)) (ci := 8) (v := .ref (rA 16)) (C := R_Ref) (T := F_Ref) (N := 48) hx hb hw i_Ref hown hK hP 0 rfl rfl 16 (by decide) (hw _ m_915) (fun _ h9 => h9) rfl d_Ref_beginState_109 ?_
    refine lv_bipush (v := 15) hx hb d_Ref_beginState_112 (by decide) ?_
    refine lv_iconst (v := 4) hx hb d_Ref_beginState_114 (by decide) ?_
    refine va_iast (D := (dC, dI)) hx hb hK hP (dd_D hD rfl) hS 1 0 rfl rfl (i := 15) (x := 4) (pk_in 15 155 (by omega)) d_Ref_beginState_115 ?_
    clear hP hS locs H
    intro H locs hP _ hS
    rw [show (15 : Int32).toNatClampNeg = 15 from pk_cl 15] at hP
    replace hP : va_P (dC, dI) classes [oc ra 8 [.int (nI T), .int (nI Ac), .ref (rA 2), .ref (rA 3), .ref (rA 4), .ref (rA 5), .ref (rA 6), .ref (rA 7), .ref (rA 8), .ref (rA 9), .ref (rA 10), .ref (rA 11), .ref (rA 12), .ref (rA 13), .int ir, .ref (rA 15), .ref (rA 16), .ref (rA 17), .ref (rA 18), .int (nI md), .int (nI wd), .ref (rA 21), .ref (rA 22), .ref (rA 23), .int (nI mn), .ref (rA 25), .int (nI cb), .int mr, .ref (rA 28), .ref (rA 29), .ref (rA 30), .ref (rA 31), .ref (rA 32), .ref (rA 33), .ref (rA 34), .ref (rA 35), .int (nI ld), .int (nI gm), .ref (rA 38), .ref (rA 39), .ref (rA 40), .ref (rA 41), .ref (rA 42), .ref (rA 43), .ref (rA 44), .ref (rA 45), .int (nI my), .ref (rA 47)], ia (rA 16) (rK9 16) 155 (upd (upd (upd (upd (upd (upd (upd (upd (upd (upd (upd (upd (upd (upd (upd (upd (upd (upd (upd (upd (upd (upd (upd (upd (upd (upd (upd (upd (upd (upd (upd (upd (upd (upd (upd (upd (upd (upd (upd (upd (upd (fun _ => 0) 37 1) 41 0) 95 0) 139 0) 96 1) 143 0) 97 2) 147 0) 98 3) 151 0) 38 1) 49 1) 99 0) 140 1) 100 1) 144 1) 101 2) 148 1) 102 3) 152 1) 39 1) 57 2) 103 0) 141 2) 104 1) 145 2) 105 2) 149 2) 106 3) 153 2) 40 1) 65 3) 107 0) 142 3) 108 1) 146 3) 109 2) 150 3) 110 3) 154 3) 15 4)] H := hP
    refine tp_pc (pc' := 116) (by rfl) ?_
    replace hP : va_P (dC, dI) classes [oc ra 8 [.int (nI T), .int (nI Ac), .ref (rA 2), .ref (rA 3), .ref (rA 4), .ref (rA 5), .ref (rA 6), .ref (rA 7), .ref (rA 8), .ref (rA 9), .ref (rA 10), .ref (rA 11), .ref (rA 12), .ref (rA 13), .int ir, .ref (rA 15), .ref (rA 16), .ref (rA 17), .ref (rA 18), .int (nI md), .int (nI wd), .ref (rA 21), .ref (rA 22), .ref (rA 23), .int (nI mn), .ref (rA 25), .int (nI cb), .int mr, .ref (rA 28), .ref (rA 29), .ref (rA 30), .ref (rA 31), .ref (rA 32), .ref (rA 33), .ref (rA 34), .ref (rA 35), .int (nI ld), .int (nI gm), .ref (rA 38), .ref (rA 39), .ref (rA 40), .ref (rA 41), .ref (rA 42), .ref (rA 43), .ref (rA 44), .ref (rA 45), .int (nI my), .ref (rA 47)], ia (rA 16) (rK9 16) 155 bg3] H := hP
    obtain ⟨hP9, hD9, -⟩ := cut3 (wc := [oc ra 8 [.int (nI T), .int (nI Ac), .ref (rA 2), .ref (rA 3), .ref (rA 4), .ref (rA 5), .ref (rA 6), .ref (rA 7), .ref (rA 8), .ref (rA 9), .ref (rA 10), .ref (rA 11), .ref (rA 12), .ref (rA 13), .int ir, .ref (rA 15), .ref (rA 16), .ref (rA 17), .ref (rA 18), .int (nI md), .int (nI wd), .ref (rA 21), .ref (rA 22), .ref (rA 23), .int (nI mn), .ref (rA 25), .int (nI cb), .int mr, .ref (rA 28), .ref (rA 29), .ref (rA 30), .ref (rA 31), .ref (rA 32), .ref (rA 33), .ref (rA 34), .ref (rA 35), .int (nI ld), .int (nI gm), .ref (rA 38), .ref (rA 39), .ref (rA 40), .ref (rA 41), .ref (rA 42), .ref (rA 43), .ref (rA 44), .ref (rA 45), .int (nI my), .ref (rA 47)], ia (rA 16) (rK9 16) 155 bg3]) hP hD rfl hS hA [0, 1] (by decide +kernel) rfl
    have hK9 := hK.sub (tys' := []) [] rfl
    refine W.widen (k := 0) (n := 0) (by exact Nat.le_of_ble_eq_true rfl) (by exact Nat.le_of_ble_eq_true rfl) ?_
    exact W.vret hx hb hr (fun t9 ht9 hW => ⟨⟨(), rfl, trivial, by rw [ht9]; exact hP9, va_K.moved hW.alike hK9, hD9⟩, hS.F ht9⟩) hS.2.2 d_Ref_beginState_116
