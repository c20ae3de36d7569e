theorem i_lt {a b : Int32} : a < b ↔ a.toInt < b.toInt := Int32.lt_iff_toInt_lt
theorem i_le {a b : Int32} : a ≤ b ↔ a.toInt ≤ b.toInt := Int32.le_iff_toInt_le
theorem gt1 {r : Int32} : 1 < r ↔ 2 ≤ r := by
  rw [i_lt, i_le, show (1 : Int32).toInt = 1 from rfl, show (2 : Int32).toInt = 2 from rfl]; omega
theorem gt2 {r : Int32} : 2 < r ↔ 3 ≤ r := by
  rw [i_lt, i_le, show (2 : Int32).toInt = 2 from rfl, show (3 : Int32).toInt = 3 from rfl]; omega
theorem k_out2 {k : Int32} (h : k.toInt < 0 ∨ 5 < k.toInt) : k < 0 ∨ 5 < k := by
  rw [i_lt, i_lt, show (0 : Int32).toInt = 0 from rfl, show (5 : Int32).toInt = 5 from rfl]; exact h
set_option maxHeartbeats 4000000 in
set_option maxRecDepth 100000 in
theorem gen_Ref_action_no (l : Launch) (dC : Nat → ClassId) (dI : Nat → Nat → Nat) (ra : Nat) (rA : Nat → Nat) (rK9 : Nat → ClassId) (T Ac md wd mn cb ld gm my : Nat) (ir mr : Int32) (ff vv : Nat → Int32) (zs kd vx rr : Nat → Nat) (t9x k9 x9 r9 v9 : Int32) (hT : T ≤ 4) (hA7 : Ac ≤ 7) (hno : t9x < 0 ∨ nI T ≤ t9x ∨ Ac = 7 ∨ ¬ actP k9 x9 r9 v9) (sz : Nat) : Met l y_Ref_action w_Ref_action ({ frames := 0, cells := 0, slots := 0, locals := 0 }) (va_Pc [.ref ra, .int t9x, .int k9, .int x9, .int r9, .int v9] (fun U => U.heap.size = sz ∧ va_P (dC, dI) classes [oc ra 8 [.int (nI T), .int (nI Ac), .ref (rA 2), .ref (rA 3), .ref (rA 4), .ref (rA 5), .ref (rA 6), .ref (rA 7), .ref (rA 8), .ref (rA 9), .ref (rA 10), .ref (rA 11), .ref (rA 12), .ref (rA 13), .int ir, .ref (rA 15), .ref (rA 16), .ref (rA 17), .ref (rA 18), .int (nI md), .int (nI wd), .ref (rA 21), .ref (rA 22), .ref (rA 23), .int (nI mn), .ref (rA 25), .int (nI cb), .int mr, .ref (rA 28), .ref (rA 29), .ref (rA 30), .ref (rA 31), .ref (rA 32), .ref (rA 33), .ref (rA 34), .ref (rA 35), .int (nI ld), .int (nI gm), .ref (rA 38), .ref (rA 39), .ref (rA 40), .ref (rA 41), .ref (rA 42), .ref (rA 43), .ref (rA 44), .ref (rA 45), .int (nI my), .ref (rA 47)], ia (rA 7) (rK9 7) 8 ff, ia (rA 2) (rK9 2) 4 (fun i => nI (zs i)), ia (rA 3) (rK9 3) 28 (fun i => nI (kd i)), ia (rA 4) (rK9 4) 28 (fun i => nI (vx i)), ia (rA 5) (rK9 5) 28 (fun i => nI (rr i)), ia (rA 6) (rK9 6) 28 vv] U.heap ∧ va_K (dC, dI) classes [((rK9 7), .boolean), ((rK9 2), .int), ((rK9 3), .int), ((rK9 4), .int), ((rK9 5), .int), ((rK9 6), .int)] U ∧ va_D (fun _ => True) [oc ra 8 [.int (nI T), .int (nI Ac), .ref (rA 2), .ref (rA 3), .ref (rA 4), .ref (rA 5), .ref (rA 6), .ref (rA 7), .ref (rA 8), .ref (rA 9), .ref (rA 10), .ref (rA 11), .ref (rA 12), .ref (rA 13), .int ir, .ref (rA 15), .ref (rA 16), .ref (rA 17), .ref (rA 18), .int (nI md), .int (nI wd), .ref (rA 21), .ref (rA 22), .ref (rA 23), .int (nI mn), .ref (rA 25), .int (nI cb), .int mr, .ref (rA 28), .ref (rA 29), .ref (rA 30), .ref (rA 31), .ref (rA 32), .ref (rA 33), .ref (rA 34), .ref (rA 35), .int (nI ld), .int (nI gm), .ref (rA 38), .ref (rA 39), .ref (rA 40), .ref (rA 41), .ref (rA 42), .ref (rA 43), .ref (rA 44), .ref (rA 45), .int (nI my), .ref (rA 47)], ia (rA 7) (rK9 7) 8 ff, ia (rA 2) (rK9 2) 4 (fun i => nI (zs i)), ia (rA 3) (rK9 3) 28 (fun i => nI (kd i)), ia (rA 4) (rK9 4) 28 (fun i => nI (vx i)), ia (rA 5) (rK9 5) 28 (fun i => nI (rr i)), ia (rA 6) (rK9 6) 28 vv] ∧ nw U)) (va_Qi (fun (r : Int32) (_ : Unit) => r = -1) (fun _ t9 => va_P (dC, dI) classes [oc ra 8 [.int (nI T), .int (nI Ac), .ref (rA 2), .ref (rA 3), .ref (rA 4), .ref (rA 5), .ref (rA 6), .ref (rA 7), .ref (rA 8), .ref (rA 9), .ref (rA 10), .ref (rA 11), .ref (rA 12), .ref (rA 13), .int ir, .ref (rA 15), .ref (rA 16), .ref (rA 17), .ref (rA 18), .int (nI md), .int (nI wd), .ref (rA 21), .ref (rA 22), .ref (rA 23), .int (nI mn), .ref (rA 25), .int (nI cb), .int mr, .ref (rA 28), .ref (rA 29), .ref (rA 30), .ref (rA 31), .ref (rA 32), .ref (rA 33), .ref (rA 34), .ref (rA 35), .int (nI ld), .int (nI gm), .ref (rA 38), .ref (rA 39), .ref (rA 40), .ref (rA 41), .ref (rA 42), .ref (rA 43), .ref (rA 44), .ref (rA 45), .int (nI my), .ref (rA 47)], ia (rA 7) (rK9 7) 8 ff, ia (rA 2) (rK9 2) 4 (fun i => nI (zs i)), ia (rA 3) (rK9 3) 28 (fun i => nI (kd i)), ia (rA 4) (rK9 4) 28 (fun i => nI (vx i)), ia (rA 5) (rK9 5) 28 (fun i => nI (rr i)), ia (rA 6) (rK9 6) 28 vv] t9.heap ∧ va_K (dC, dI) classes [] t9 ∧ va_D (va_A [oc ra 8 [.int (nI T), .int (nI Ac), .ref (rA 2), .ref (rA 3), .ref (rA 4), .ref (rA 5), .ref (rA 6), .ref (rA 7), .ref (rA 8), .ref (rA 9), .ref (rA 10), .ref (rA 11), .ref (rA 12), .ref (rA 13), .int ir, .ref (rA 15), .ref (rA 16), .ref (rA 17), .ref (rA 18), .int (nI md), .int (nI wd), .ref (rA 21), .ref (rA 22), .ref (rA 23), .int (nI mn), .ref (rA 25), .int (nI cb), .int mr, .ref (rA 28), .ref (rA 29), .ref (rA 30), .ref (rA 31), .ref (rA 32), .ref (rA 33), .ref (rA 34), .ref (rA 35), .int (nI ld), .int (nI gm), .ref (rA 38), .ref (rA 39), .ref (rA 40), .ref (rA 41), .ref (rA 42), .ref (rA 43), .ref (rA 44), .ref (rA 45), .int (nI my), .ref (rA 47)], ia (rA 7) (rK9 7) 8 ff, ia (rA 2) (rK9 2) 4 (fun i => nI (zs i)), ia (rA 3) (rK9 3) 28 (fun i => nI (kd i)), ia (rA 4) (rK9 4) 28 (fun i => nI (vx i)), ia (rA 5) (rK9 5) 28 (fun i => nI (rr i)), ia (rA 6) (rK9 6) 28 vv] sz) [oc ra 8 [.int (nI T), .int (nI Ac), .ref (rA 2), .ref (rA 3), .ref (rA 4), .ref (rA 5), .ref (rA 6), .ref (rA 7), .ref (rA 8), .ref (rA 9), .ref (rA 10), .ref (rA 11), .ref (rA 12), .ref (rA 13), .int ir, .ref (rA 15), .ref (rA 16), .ref (rA 17), .ref (rA 18), .int (nI md), .int (nI wd), .ref (rA 21), .ref (rA 22), .ref (rA 23), .int (nI mn), .ref (rA 25), .int (nI cb), .int mr, .ref (rA 28), .ref (rA 29), .ref (rA 30), .ref (rA 31), .ref (rA 32), .ref (rA 33), .ref (rA 34), .ref (rA 35), .int (nI ld), .int (nI gm), .ref (rA 38), .ref (rA 39), .ref (rA 40), .ref (rA 41), .ref (rA 42), .ref (rA 43), .ref (rA 44), .ref (rA 45), .int (nI my), .ref (rA 47)], ia (rA 7) (rK9 7) 8 ff, ia (rA 2) (rK9 2) 4 (fun i => nI (zs i)), ia (rA 3) (rK9 3) 28 (fun i => nI (kd i)), ia (rA 4) (rK9 4) 28 (fun i => nI (vx i)), ia (rA 5) (rK9 5) 28 (fun i => nI (rr i)), ia (rA 6) (rK9 6) 28 vv]) (va_A [oc ra 8 [.int (nI T), .int (nI Ac), .ref (rA 2), .ref (rA 3), .ref (rA 4), .ref (rA 5), .ref (rA 6), .ref (rA 7), .ref (rA 8), .ref (rA 9), .ref (rA 10), .ref (rA 11), .ref (rA 12), .ref (rA 13), .int ir, .ref (rA 15), .ref (rA 16), .ref (rA 17), .ref (rA 18), .int (nI md), .int (nI wd), .ref (rA 21), .ref (rA 22), .ref (rA 23), .int (nI mn), .ref (rA 25), .int (nI cb), .int mr, .ref (rA 28), .ref (rA 29), .ref (rA 30), .ref (rA 31), .ref (rA 32), .ref (rA 33), .ref (rA 34), .ref (rA 35), .int (nI ld), .int (nI gm), .ref (rA 38), .ref (rA 39), .ref (rA 40), .ref (rA 41), .ref (rA 42), .ref (rA 43), .ref (rA 44), .ref (rA 45), .int (nI my), .ref (rA 47)], ia (rA 7) (rK9 7) 8 ff, ia (rA 2) (rK9 2) 4 (fun i => nI (zs i)), ia (rA 3) (rK9 3) 28 (fun i => nI (kd i)), ia (rA 4) (rK9 4) 28 (fun i => nI (vx i)), ia (rA 5) (rK9 5) 28 (fun i => nI (rr i)), ia (rA 6) (rK9 6) 28 vv] sz)) 0 0 (va_A [oc ra 8 [.int (nI T), .int (nI Ac), .ref (rA 2), .ref (rA 3), .ref (rA 4), .ref (rA 5), .ref (rA 6), .ref (rA 7), .ref (rA 8), .ref (rA 9), .ref (rA 10), .ref (rA 11), .ref (rA 12), .ref (rA 13), .int ir, .ref (rA 15), .ref (rA 16), .ref (rA 17), .ref (rA 18), .int (nI md), .int (nI wd), .ref (rA 21), .ref (rA 22), .ref (rA 23), .int (nI mn), .ref (rA 25), .int (nI cb), .int mr, .ref (rA 28), .ref (rA 29), .ref (rA 30), .ref (rA 31), .ref (rA 32), .ref (rA 33), .ref (rA 34), .ref (rA 35), .int (nI ld), .int (nI gm), .ref (rA 38), .ref (rA 39), .ref (rA 40), .ref (rA 41), .ref (rA 42), .ref (rA 43), .ref (rA 44), .ref (rA 45), .int (nI my), .ref (rA 47)], ia (rA 7) (rK9 7) 8 ff, ia (rA 2) (rK9 2) 4 (fun i => nI (zs i)), ia (rA 3) (rK9 3) 28 (fun i => nI (kd i)), ia (rA 4) (rK9 4) 28 (fun i => nI (vx i)), ia (rA 5) (rK9 5) 28 (fun i => nI (rr i)), ia (rA 6) (rK9 6) 28 vv] sz) := by
  refine Met.ofW (cc := b_Ref_action) (maxL := 8) (ret := (some .int)) (by decide) rfl ?_
  intro p e0 s m args below meth c s₁ B hml hv
  obtain ⟨rfl, hsz, hP, hK, hD0, hn⟩ := hv
  have hx := B.exec
  have hb := B.bytes
  have hr := B.returns
  have hw := fun w (h : w ∈ wt) => atoms_spec (ws := w_Ref_action) B.pre w (List.mem_cons_of_mem _ h)
  have hown : s.vm.findClass R_Ref = some m.cls := findClass_of_methodNamed B.named
  have hlocks := B.notSynchronized
  subst hsz
  have hD1 := hD0.self (sz := s.heap.size)
  generalize hAe : va_A [oc ra 8 [.int (nI T), .int (nI Ac), .ref (rA 2), .ref (rA 3), .ref (rA 4), .ref (rA 5), .ref (rA 6), .ref (rA 7), .ref (rA 8), .ref (rA 9), .ref (rA 10), .ref (rA 11), .ref (rA 12), .ref (rA 13), .int ir, .ref (rA 15), .ref (rA 16), .ref (rA 17), .ref (rA 18), .int (nI md), .int (nI wd), .ref (rA 21), .ref (rA 22), .ref (rA 23), .int (nI mn), .ref (rA 25), .int (nI cb), .int mr, .ref (rA 28), .ref (rA 29), .ref (rA 30), .ref (rA 31), .ref (rA 32), .ref (rA 33), .ref (rA 34), .ref (rA 35), .int (nI ld), .int (nI gm), .ref (rA 38), .ref (rA 39), .ref (rA 40), .ref (rA 41), .ref (rA 42), .ref (rA 43), .ref (rA 44), .ref (rA 45), .int (nI my), .ref (rA 47)], ia (rA 7) (rK9 7) 8 ff, ia (rA 2) (rK9 2) 4 (fun i => nI (zs i)), ia (rA 3) (rK9 3) 28 (fun i => nI (kd i)), ia (rA 4) (rK9 4) 28 (fun i => nI (vx i)), ia (rA 5) (rK9 5) 28 (fun i => nI (rr i)), ia (rA 6) (rK9 6) 28 vv] s.heap.size = A at hD1 ⊢
  have hA : ∀ q : Nat, s.heap.size ≤ q → A q := fun q h => by rw [← hAe]; exact Or.inr h
  have hD : dd A [ra, (rA 7), (rA 2), (rA 3), (rA 4), (rA 5), (rA 6)] := dd_of hD1 rfl
  clear hAe hD0 hD1
  have hS : va_S A s.heap s.heap [] := va_S.rf
  replace hP : va_P (dC, dI) classes [oc ra 8 [.int (nI T), .int (nI Ac), .ref (rA 2), .ref (rA 3), .ref (rA 4), .ref (rA 5), .ref (rA 6), .ref (rA 7), .ref (rA 8), .ref (rA 9), .ref (rA 10), .ref (rA 11), .ref (rA 12), .ref (rA 13), .int ir, .ref (rA 15), .ref (rA 16), .ref (rA 17), .ref (rA 18), .int (nI md), .int (nI wd), .ref (rA 21), .ref (rA 22), .ref (rA 23), .int (nI mn), .ref (rA 25), .int (nI cb), .int mr, .ref (rA 28), .ref (rA 29), .ref (rA 30), .ref (rA 31), .ref (rA 32), .ref (rA 33), .ref (rA 34), .ref (rA 35), .int (nI ld), .int (nI gm), .ref (rA 38), .ref (rA 39), .ref (rA 40), .ref (rA 41), .ref (rA 42), .ref (rA 43), .ref (rA 44), .ref (rA 45), .int (nI my), .ref (rA 47)], ia (rA 7) (rK9 7) 8 ff, ia (rA 2) (rK9 2) 4 (fun i => nI (zs i)), ia (rA 3) (rK9 3) 28 (fun i => nI (kd i)), ia (rA 4) (rK9 4) 28 (fun i => nI (vx i)), ia (rA 5) (rK9 5) 28 (fun i => nI (rr i)), ia (rA 6) (rK9 6) 28 vv] s.heap := hP
  have hl := lv_entry ([.ref ra, .int t9x, .int k9, .int x9, .int r9, .int v9]) (n := 8) (Nat.le_of_ble_eq_true rfl)
  rw [lg_entry_eq]
  generalize (lg_sl ([.ref ra, .int t9x, .int k9, .int x9, .int r9, .int v9]) ++ List.replicate (8 - (lg_sl ([.ref ra, .int t9x, .int k9, .int x9, .int r9, .int v9])).length) Slot.unset).toArray = ls at hl ⊢
  replace hl : lv_has ls 8 [(0, .ref ra), (1, .int t9x), (2, .int k9), (3, .int x9), (4, .int r9), (5, .int v9)] := hl
  refine lv_iload_n hx hb d_Ref_action_0 rfl (lv_at hl 1 rfl) ?_
  refine lv_if_lt (tgt := 30) hx hb d_Ref_action_1 (by decide) (fun c1 => ?_) (fun c1 => ?_)
  · skip
    refine tp_pc (pc' := 30) (by rfl) ?_
    refine lv_iconst (v := (-1)) hx hb d_Ref_action_30 (by decide) ?_
    obtain ⟨hP9, hD9, -⟩ := cut3 (wc := [oc ra 8 [.int (nI T), .int (nI Ac), .ref (rA 2), .ref (rA 3), .ref (rA 4), .ref (rA 5), .ref (rA 6), .ref (rA 7), .ref (rA 8), .ref (rA 9), .ref (rA 10), .ref (rA 11), .ref (rA 12), .ref (rA 13), .int ir, .ref (rA 15), .ref (rA 16), .ref (rA 17), .ref (rA 18), .int (nI md), .int (nI wd), .ref (rA 21), .ref (rA 22), .ref (rA 23), .int (nI mn), .ref (rA 25), .int (nI cb), .int mr, .ref (rA 28), .ref (rA 29), .ref (rA 30), .ref (rA 31), .ref (rA 32), .ref (rA 33), .ref (rA 34), .ref (rA 35), .int (nI ld), .int (nI gm), .ref (rA 38), .ref (rA 39), .ref (rA 40), .ref (rA 41), .ref (rA 42), .ref (rA 43), .ref (rA 44), .ref (rA 45), .int (nI my), .ref (rA 47)], ia (rA 7) (rK9 7) 8 ff, ia (rA 2) (rK9 2) 4 (fun i => nI (zs i)), ia (rA 3) (rK9 3) 28 (fun i => nI (kd i)), ia (rA 4) (rK9 4) 28 (fun i => nI (vx i)), ia (rA 5) (rK9 5) 28 (fun i => nI (rr i)), ia (rA 6) (rK9 6) 28 vv]) hP hD rfl hS hA [0, 1, 2, 3, 4, 5, 6] (by decide +kernel) rfl
    have hK9 := hK.sub (tys' := []) [] rfl
    refine W.widen (k := 0) (n := 0) (by exact Nat.le_of_ble_eq_true rfl) (by exact Nat.le_of_ble_eq_true rfl) ?_
    exact W.iret (v := (-1)) hx hb hr (fun t9 ht9 hW => ⟨⟨(-1), (), rfl, rfl, by rw [ht9]; exact hP9, va_K.moved hW.alike hK9, hD9⟩, hS.F ht9⟩) hS.2.2 d_Ref_action_31
  · skip
    refine tp_pc (pc' := 4) (by rfl) ?_
    refine lv_iload_n hx hb d_Ref_action_4 rfl (lv_at hl 1 rfl) ?_
    refine lv_aload_n hx hb d_Ref_action_5 rfl (lv_at hl 0 rfl) ?_
    refine va_get (D := (dC, dI)) (ci := 8) (v := .int (nI T)) (C := R_Ref) (T := F_Ref) (N := 48) hx hb hw i_Ref hown hK hP 0 rfl rfl 0 (by decide) (hw _ m_899) (fun _ h9 => h9) rfl d_Ref_action_6 ?_
    refine lv_icmp_ge (tgt := 30) hx hb d_Ref_action_9 (by decide) (fun c2 => ?_) (fun c2 => ?_)
    · skip
      refine tp_pc (pc' := 30) (by rfl) ?_
      refine lv_iconst (v := (-1)) hx hb d_Ref_action_30 (by decide) ?_
      obtain ⟨hP9, hD9, -⟩ := cut3 (wc := [oc ra 8 [.int (nI T), .int (nI Ac), .ref (rA 2), .ref (rA 3), .ref (rA 4), .ref (rA 5), .ref (rA 6), .ref (rA 7), .ref (rA 8), .ref (rA 9), .ref (rA 10), .ref (rA 11), .ref (rA 12), .ref (rA 13), .int ir, .ref (rA 15), .ref (rA 16), .ref (rA 17), .ref (rA 18), .int (nI md), .int (nI wd), .ref (rA 21), .ref (rA 22), .ref (rA 23), .int (nI mn), .ref (rA 25), .int (nI cb), .int mr, .ref (rA 28), .ref (rA 29), .ref (rA 30), .ref (rA 31), .ref (rA 32), .ref (rA 33), .ref (rA 34), .ref (rA 35), .int (nI ld), .int (nI gm), .ref (rA 38), .ref (rA 39), .ref (rA 40), .ref (rA 41), .ref (rA 42), .ref (rA 43), .ref (rA 44), .ref (rA 45), .int (nI my), .ref (rA 47)], ia (rA 7) (rK9 7) 8 ff, ia (rA 2) (rK9 2) 4 (fun i => nI (zs i)), ia (rA 3) (rK9 3) 28 (fun i => nI (kd i)), ia (rA 4) (rK9 4) 28 (fun i => nI (vx i)), ia (rA 5) (rK9 5) 28 (fun i => nI (rr i)), ia (rA 6) (rK9 6) 28 vv]) hP hD rfl hS hA [0, 1, 2, 3, 4, 5, 6] (by decide +kernel) rfl
      have hK9 := hK.sub (tys' := []) [] rfl
      refine W.widen (k := 0) (n := 0) (by exact Nat.le_of_ble_eq_true rfl) (by exact Nat.le_of_ble_eq_true rfl) ?_
      exact W.iret (v := (-1)) hx hb hr (fun t9 ht9 hW => ⟨⟨(-1), (), rfl, rfl, by rw [ht9]; exact hP9, va_K.moved hW.alike hK9, hD9⟩, hS.F ht9⟩) hS.2.2 d_Ref_action_31
    · skip
      by_cases hk0 : k9 = 0
      · skip
        subst hk0
        replace hl : lv_has ls 8 [(0, .ref ra), (1, .int t9x), (2, .int 0), (3, .int x9), (4, .int r9), (5, .int v9)] := hl
        refine tp_pc (pc' := 12) (by rfl) ?_
        refine lv_iload_n hx hb d_Ref_action_12 rfl (lv_at hl 2 rfl) ?_
        refine lv_if_lt (tgt := 30) hx hb d_Ref_action_13 (by decide) (fun c_1 => absurd c_1 (by decide)) (fun c_1 => ?_)
        refine tp_pc (pc' := 16) (by rfl) ?_
        refine lv_iload_n hx hb d_Ref_action_16 rfl (lv_at hl 2 rfl) ?_
        refine lv_iconst (v := 5) hx hb d_Ref_action_17 (by decide) ?_
        refine lv_icmp_gt (tgt := 30) hx hb d_Ref_action_18 (by decide) (fun c_2 => absurd c_2 (by decide)) (fun c_2 => ?_)
        refine tp_pc (pc' := 21) (by rfl) ?_
        refine lv_aload_n hx hb d_Ref_action_21 rfl (lv_at hl 0 rfl) ?_
        refine va_get (D := (dC, dI)) (ci := 8) (v := .int (nI Ac)) (C := R_Ref) (T := F_Ref) (N := 48) hx hb hw i_Ref hown hK hP 0 rfl rfl 1 (by decide) (hw _ m_900) (fun _ h9 => h9) rfl d_Ref_action_22 ?_
        refine lv_bipush (v := 7) hx hb d_Ref_action_25 (by decide) ?_
        refine lv_icmp_ne (tgt := 32) hx hb d_Ref_action_27 (by decide) (fun c3 => ?_) (fun c3 => ?_)
        · skip
          have hc3 : ¬ (Ac = 7) := fun q9 => c3 ((nI_eq (a := Ac) (b := 7) (by omega) (by omega)).mpr q9)
          refine tp_pc (pc' := 32) (by rfl) ?_
          refine lv_iload hx hb d_Ref_action_32 (lv_at hl 5 rfl) ?_
          refine lv_bipush (v := (-9)) hx hb d_Ref_action_34 (by decide) ?_
          refine lv_icmp_lt (tgt := 61) hx hb d_Ref_action_36 (by decide) (fun e1 => ?_) (fun e1 => ?_)
          · skip
            refine tp_pc (pc' := 61) (by rfl) ?_
            refine lv_iconst (v := 0) hx hb d_Ref_action_61 (by decide) ?_
            refine lv_istore (lv' := [(6, .int 0), (0, .ref ra), (1, .int t9x), (2, .int 0), (3, .int x9), (4, .int r9), (5, .int v9)]) hx hb d_Ref_action_62 hl (by decide) rfl ?_
            clear hl ls
            intro ls hl
            refine lv_iload hx hb d_Ref_action_64 (lv_at hl 0 rfl) ?_
            refine lv_if_eq (tgt := 112) hx hb d_Ref_action_66 (by decide) (fun c_3 => ?_) (fun c_3 => absurd c_3 (by decide))
            refine tp_pc (pc' := 112) (by rfl) ?_
            refine lv_iconst (v := 0) hx hb d_Ref_action_112 (by decide) ?_
            refine lv_istore (lv' := [(6, .int 0), (0, .ref ra), (1, .int t9x), (2, .int 0), (3, .int x9), (4, .int r9), (5, .int v9)]) hx hb d_Ref_action_113 hl (by decide) rfl ?_
            clear hl ls
            intro ls hl
            refine lv_iload hx hb d_Ref_action_115 (lv_at hl 0 rfl) ?_
            refine lv_if_eq (tgt := 153) hx hb d_Ref_action_117 (by decide) (fun c_4 => ?_) (fun c_4 => absurd c_4 (by decide))
            refine tp_pc (pc' := 153) (by rfl) ?_
            refine lv_iconst (v := 0) hx hb d_Ref_action_153 (by decide) ?_
            refine lv_istore (lv' := [(6, .int 0), (0, .ref ra), (1, .int t9x), (2, .int 0), (3, .int x9), (4, .int r9), (5, .int v9)]) hx hb d_Ref_action_154 hl (by decide) rfl ?_
            clear hl ls
            intro ls hl
            refine lv_iload hx hb d_Ref_action_156 (lv_at hl 0 rfl) ?_
            refine lv_if_ne (tgt := 163) hx hb d_Ref_action_158 (by decide) (fun c_5 => absurd c_5 (by decide)) (fun c_5 => ?_)
            refine tp_pc (pc' := 161) (by rfl) ?_
            refine lv_iconst (v := (-1)) hx hb d_Ref_action_161 (by decide) ?_
            obtain ⟨hP9, hD9, -⟩ := cut3 (wc := [oc ra 8 [.int (nI T), .int (nI Ac), .ref (rA 2), .ref (rA 3), .ref (rA 4), .ref (rA 5), .ref (rA 6), .ref (rA 7), .ref (rA 8), .ref (rA 9), .ref (rA 10), .ref (rA 11), .ref (rA 12), .ref (rA 13), .int ir, .ref (rA 15), .ref (rA 16), .ref (rA 17), .ref (rA 18), .int (nI md), .int (nI wd), .ref (rA 21), .ref (rA 22), .ref (rA 23), .int (nI mn), .ref (rA 25), .int (nI cb), .int mr, .ref (rA 28), .ref (rA 29), .ref (rA 30), .ref (rA 31), .ref (rA 32), .ref (rA 33), .ref (rA 34), .ref (rA 35), .int (nI ld), .int (nI gm), .ref (rA 38), .ref (rA 39), .ref (rA 40), .ref (rA 41), .ref (rA 42), .ref (rA 43), .ref (rA 44), .ref (rA 45), .int (nI my), .ref (rA 47)], ia (rA 7) (rK9 7) 8 ff, ia (rA 2) (rK9 2) 4 (fun i => nI (zs i)), ia (rA 3) (rK9 3) 28 (fun i => nI (kd i)), ia (rA 4) (rK9 4) 28 (fun i => nI (vx i)), ia (rA 5) (rK9 5) 28 (fun i => nI (rr i)), ia (rA 6) (rK9 6) 28 vv]) hP hD rfl hS hA [0, 1, 2, 3, 4, 5, 6] (by decide +kernel) rfl
            have hK9 := hK.sub (tys' := []) [] rfl
            refine W.widen (k := 0) (n := 0) (by exact Nat.le_of_ble_eq_true rfl) (by exact Nat.le_of_ble_eq_true rfl) ?_
            exact W.iret (v := (-1)) hx hb hr (fun t9 ht9 hW => ⟨⟨(-1), (), rfl, rfl, by rw [ht9]; exact hP9, va_K.moved hW.alike hK9, hD9⟩, hS.F ht9⟩) hS.2.2 d_Ref_action_162
          · skip
            refine tp_pc (pc' := 39) (by rfl) ?_
            refine lv_iload hx hb d_Ref_action_39 (lv_at hl 5 rfl) ?_
            refine lv_bipush (v := 9) hx hb d_Ref_action_41 (by decide) ?_
            refine lv_icmp_gt (tgt := 61) hx hb d_Ref_action_43 (by decide) (fun e2 => ?_) (fun e2 => ?_)
            · skip
              refine tp_pc (pc' := 61) (by rfl) ?_
              refine lv_iconst (v := 0) hx hb d_Ref_action_61 (by decide) ?_
              refine lv_istore (lv' := [(6, .int 0), (0, .ref ra), (1, .int t9x), (2, .int 0), (3, .int x9), (4, .int r9), (5, .int v9)]) hx hb d_Ref_action_62 hl (by decide) rfl ?_
              clear hl ls
              intro ls hl
              refine lv_iload hx hb d_Ref_action_64 (lv_at hl 0 rfl) ?_
              refine lv_if_eq (tgt := 112) hx hb d_Ref_action_66 (by decide) (fun c_6 => ?_) (fun c_6 => absurd c_6 (by decide))
              refine tp_pc (pc' := 112) (by rfl) ?_
              refine lv_iconst (v := 0) hx hb d_Ref_action_112 (by decide) ?_
              refine lv_istore (lv' := [(6, .int 0), (0, .ref ra), (1, .int t9x), (2, .int 0), (3, .int x9), (4, .int r9), (5, .int v9)]) hx hb d_Ref_action_113 hl (by decide) rfl ?_
              clear hl ls
              intro ls hl
              refine lv_iload hx hb d_Ref_action_115 (lv_at hl 0 rfl) ?_
              refine lv_if_eq (tgt := 153) hx hb d_Ref_action_117 (by decide) (fun c_7 => ?_) (fun c_7 => absurd c_7 (by decide))
              refine tp_pc (pc' := 153) (by rfl) ?_
              refine lv_iconst (v := 0) hx hb d_Ref_action_153 (by decide) ?_
              refine lv_istore (lv' := [(6, .int 0), (0, .ref ra), (1, .int t9x), (2, .int 0), (3, .int x9), (4, .int r9), (5, .int v9)]) hx hb d_Ref_action_154 hl (by decide) rfl ?_
              clear hl ls
              intro ls hl
              refine lv_iload hx hb d_Ref_action_156 (lv_at hl 0 rfl) ?_
              refine lv_if_ne (tgt := 163) hx hb d_Ref_action_158 (by decide) (fun c_8 => absurd c_8 (by decide)) (fun c_8 => ?_)
              refine tp_pc (pc' := 161) (by rfl) ?_
              refine lv_iconst (v := (-1)) hx hb d_Ref_action_161 (by decide) ?_
              obtain ⟨hP9, hD9, -⟩ := cut3 (wc := [oc ra 8 [.int (nI T), .int (nI Ac), .ref (rA 2), .ref (rA 3), .ref (rA 4), .ref (rA 5), .ref (rA 6), .ref (rA 7), .ref (rA 8), .ref (rA 9), .ref (rA 10), .ref (rA 11), .ref (rA 12), .ref (rA 13), .int ir, .ref (rA 15), .ref (rA 16), .ref (rA 17), .ref (rA 18), .int (nI md), .int (nI wd), .ref (rA 21), .ref (rA 22), .ref (rA 23), .int (nI mn), .ref (rA 25), .int (nI cb), .int mr, .ref (rA 28), .ref (rA 29), .ref (rA 30), .ref (rA 31), .ref (rA 32), .ref (rA 33), .ref (rA 34), .ref (rA 35), .int (nI ld), .int (nI gm), .ref (rA 38), .ref (rA 39), .ref (rA 40), .ref (rA 41), .ref (rA 42), .ref (rA 43), .ref (rA 44), .ref (rA 45), .int (nI my), .ref (rA 47)], ia (rA 7) (rK9 7) 8 ff, ia (rA 2) (rK9 2) 4 (fun i => nI (zs i)), ia (rA 3) (rK9 3) 28 (fun i => nI (kd i)), ia (rA 4) (rK9 4) 28 (fun i => nI (vx i)), ia (rA 5) (rK9 5) 28 (fun i => nI (rr i)), ia (rA 6) (rK9 6) 28 vv]) hP hD rfl hS hA [0, 1, 2, 3, 4, 5, 6] (by decide +kernel) rfl
              have hK9 := hK.sub (tys' := []) [] rfl
              refine W.widen (k := 0) (n := 0) (by exact Nat.le_of_ble_eq_true rfl) (by exact Nat.le_of_ble_eq_true rfl) ?_
              exact W.iret (v := (-1)) hx hb hr (fun t9 ht9 hW => ⟨⟨(-1), (), rfl, rfl, by rw [ht9]; exact hP9, va_K.moved hW.alike hK9, hD9⟩, hS.F ht9⟩) hS.2.2 d_Ref_action_162
            · skip
              refine tp_pc (pc' := 46) (by rfl) ?_
              refine lv_iload hx hb d_Ref_action_46 (lv_at hl 4 rfl) ?_
              refine lv_if_lt (tgt := 61) hx hb d_Ref_action_48 (by decide) (fun e3 => ?_) (fun e3 => ?_)
              · skip
                refine tp_pc (pc' := 61) (by rfl) ?_
                refine lv_iconst (v := 0) hx hb d_Ref_action_61 (by decide) ?_
                refine lv_istore (lv' := [(6, .int 0), (0, .ref ra), (1, .int t9x), (2, .int 0), (3, .int x9), (4, .int r9), (5, .int v9)]) hx hb d_Ref_action_62 hl (by decide) rfl ?_
                clear hl ls
                intro ls hl
                refine lv_iload hx hb d_Ref_action_64 (lv_at hl 0 rfl) ?_
                refine lv_if_eq (tgt := 112) hx hb d_Ref_action_66 (by decide) (fun c_9 => ?_) (fun c_9 => absurd c_9 (by decide))
                refine tp_pc (pc' := 112) (by rfl) ?_
                refine lv_iconst (v := 0) hx hb d_Ref_action_112 (by decide) ?_
                refine lv_istore (lv' := [(6, .int 0), (0, .ref ra), (1, .int t9x), (2, .int 0), (3, .int x9), (4, .int r9), (5, .int v9)]) hx hb d_Ref_action_113 hl (by decide) rfl ?_
                clear hl ls
                intro ls hl
                refine lv_iload hx hb d_Ref_action_115 (lv_at hl 0 rfl) ?_
                refine lv_if_eq (tgt := 153) hx hb d_Ref_action_117 (by decide) (fun c_10 => ?_) (fun c_10 => absurd c_10 (by decide))
                refine tp_pc (pc' := 153) (by rfl) ?_
                refine lv_iconst (v := 0) hx hb d_Ref_action_153 (by decide) ?_
                refine lv_istore (lv' := [(6, .int 0), (0, .ref ra), (1, .int t9x), (2, .int 0), (3, .int x9), (4, .int r9), (5, .int v9)]) hx hb d_Ref_action_154 hl (by decide) rfl ?_
                clear hl ls
                intro ls hl
                refine lv_iload hx hb d_Ref_action_156 (lv_at hl 0 rfl) ?_
                refine lv_if_ne (tgt := 163) hx hb d_Ref_action_158 (by decide) (fun c_11 => absurd c_11 (by decide)) (fun c_11 => ?_)
                refine tp_pc (pc' := 161) (by rfl) ?_
                refine lv_iconst (v := (-1)) hx hb d_Ref_action_161 (by decide) ?_
                obtain ⟨hP9, hD9, -⟩ := cut3 (wc := [oc ra 8 [.int (nI T), .int (nI Ac), .ref (rA 2), .ref (rA 3), .ref (rA 4), .ref (rA 5), .ref (rA 6), .ref (rA 7), .ref (rA 8), .ref (rA 9), .ref (rA 10), .ref (rA 11), .ref (rA 12), .ref (rA 13), .int ir, .ref (rA 15), .ref (rA 16), .ref (rA 17), .ref (rA 18), .int (nI md), .int (nI wd), .ref (rA 21), .ref (rA 22), .ref (rA 23), .int (nI mn), .ref (rA 25), .int (nI cb), .int mr, .ref (rA 28), .ref (rA 29), .ref (rA 30), .ref (rA 31), .ref (rA 32), .ref (rA 33), .ref (rA 34), .ref (rA 35), .int (nI ld), .int (nI gm), .ref (rA 38), .ref (rA 39), .ref (rA 40), .ref (rA 41), .ref (rA 42), .ref (rA 43), .ref (rA 44), .ref (rA 45), .int (nI my), .ref (rA 47)], ia (rA 7) (rK9 7) 8 ff, ia (rA 2) (rK9 2) 4 (fun i => nI (zs i)), ia (rA 3) (rK9 3) 28 (fun i => nI (kd i)), ia (rA 4) (rK9 4) 28 (fun i => nI (vx i)), ia (rA 5) (rK9 5) 28 (fun i => nI (rr i)), ia (rA 6) (rK9 6) 28 vv]) hP hD rfl hS hA [0, 1, 2, 3, 4, 5, 6] (by decide +kernel) rfl
                have hK9 := hK.sub (tys' := []) [] rfl
                refine W.widen (k := 0) (n := 0) (by exact Nat.le_of_ble_eq_true rfl) (by exact Nat.le_of_ble_eq_true rfl) ?_
                exact W.iret (v := (-1)) hx hb hr (fun t9 ht9 hW => ⟨⟨(-1), (), rfl, rfl, by rw [ht9]; exact hP9, va_K.moved hW.alike hK9, hD9⟩, hS.F ht9⟩) hS.2.2 d_Ref_action_162
              · skip
                refine tp_pc (pc' := 51) (by rfl) ?_
                refine lv_iload hx hb d_Ref_action_51 (lv_at hl 4 rfl) ?_
                refine lv_iconst (v := 1) hx hb d_Ref_action_53 (by decide) ?_
                refine lv_icmp_gt (tgt := 61) hx hb d_Ref_action_54 (by decide) (fun e4 => ?_) (fun e4 => ?_)
                · skip
                  refine tp_pc (pc' := 61) (by rfl) ?_
                  refine lv_iconst (v := 0) hx hb d_Ref_action_61 (by decide) ?_
                  refine lv_istore (lv' := [(6, .int 0), (0, .ref ra), (1, .int t9x), (2, .int 0), (3, .int x9), (4, .int r9), (5, .int v9)]) hx hb d_Ref_action_62 hl (by decide) rfl ?_
                  clear hl ls
                  intro ls hl
                  refine lv_iload hx hb d_Ref_action_64 (lv_at hl 0 rfl) ?_
                  refine lv_if_eq (tgt := 112) hx hb d_Ref_action_66 (by decide) (fun c_12 => ?_) (fun c_12 => absurd c_12 (by decide))
                  refine tp_pc (pc' := 112) (by rfl) ?_
                  refine lv_iconst (v := 0) hx hb d_Ref_action_112 (by decide) ?_
                  refine lv_istore (lv' := [(6, .int 0), (0, .ref ra), (1, .int t9x), (2, .int 0), (3, .int x9), (4, .int r9), (5, .int v9)]) hx hb d_Ref_action_113 hl (by decide) rfl ?_
                  clear hl ls
                  intro ls hl
                  refine lv_iload hx hb d_Ref_action_115 (lv_at hl 0 rfl) ?_
                  refine lv_if_eq (tgt := 153) hx hb d_Ref_action_117 (by decide) (fun c_13 => ?_) (fun c_13 => absurd c_13 (by decide))
                  refine tp_pc (pc' := 153) (by rfl) ?_
                  refine lv_iconst (v := 0) hx hb d_Ref_action_153 (by decide) ?_
                  refine lv_istore (lv' := [(6, .int 0), (0, .ref ra), (1, .int t9x), (2, .int 0), (3, .int x9), (4, .int r9), (5, .int v9)]) hx hb d_Ref_action_154 hl (by decide) rfl ?_
                  clear hl ls
                  intro ls hl
                  refine lv_iload hx hb d_Ref_action_156 (lv_at hl 0 rfl) ?_
                  refine lv_if_ne (tgt := 163) hx hb d_Ref_action_158 (by decide) (fun c_14 => absurd c_14 (by decide)) (fun c_14 => ?_)
                  refine tp_pc (pc' := 161) (by rfl) ?_
                  refine lv_iconst (v := (-1)) hx hb d_Ref_action_161 (by decide) ?_
                  obtain ⟨hP9, hD9, -⟩ := cut3 (wc := [oc ra 8 [.int (nI T), .int (nI Ac), .ref (rA 2), .ref (rA 3), .ref (rA 4), .ref (rA 5), .ref (rA 6), .ref (rA 7), .ref (rA 8), .ref (rA 9), .ref (rA 10), .ref (rA 11), .ref (rA 12), .ref (rA 13), .int ir, .ref (rA 15), .ref (rA 16), .ref (rA 17), .ref (rA 18), .int (nI md), .int (nI wd), .ref (rA 21), .ref (rA 22), .ref (rA 23), .int (nI mn), .ref (rA 25), .int (nI cb), .int mr, .ref (rA 28), .ref (rA 29), .ref (rA 30), .ref (rA 31), .ref (rA 32), .ref (rA 33), .ref (rA 34), .ref (rA 35), .int (nI ld), .int (nI gm), .ref (rA 38), .ref (rA 39), .ref (rA 40), .ref (rA 41), .ref (rA 42), .ref (rA 43), .ref (rA 44), .ref (rA 45), .int (nI my), .ref (rA 47)], ia (rA 7) (rK9 7) 8 ff, ia (rA 2) (rK9 2) 4 (fun i => nI (zs i)), ia (rA 3) (rK9 3) 28 (fun i => nI (kd i)), ia (rA 4) (rK9 4) 28 (fun i => nI (vx i)), ia (rA 5) (rK9 5) 28 (fun i => nI (rr i)), ia (rA 6) (rK9 6) 28 vv]) hP hD rfl hS hA [0, 1, 2, 3, 4, 5, 6] (by decide +kernel) rfl
                  have hK9 := hK.sub (tys' := []) [] rfl
                  refine W.widen (k := 0) (n := 0) (by exact Nat.le_of_ble_eq_true rfl) (by exact Nat.le_of_ble_eq_true rfl) ?_
                  exact W.iret (v := (-1)) hx hb hr (fun t9 ht9 hW => ⟨⟨(-1), (), rfl, rfl, by rw [ht9]; exact hP9, va_K.moved hW.alike hK9, hD9⟩, hS.F ht9⟩) hS.2.2 d_Ref_action_162
                · skip
                  refine tp_pc (pc' := 57) (by rfl) ?_
                  refine lv_iconst (v := 1) hx hb d_Ref_action_57 (by decide) ?_
                  refine lv_goto (tgt := 62) hx hb d_Ref_action_58 (by decide) ?_
                  refine tp_pc (pc' := 62) (by rfl) ?_
                  refine lv_istore (lv' := [(6, .int 1), (0, .ref ra), (1, .int t9x), (2, .int 0), (3, .int x9), (4, .int r9), (5, .int v9)]) hx hb d_Ref_action_62 hl (by decide) rfl ?_
                  clear hl ls
                  intro ls hl
                  refine lv_iload hx hb d_Ref_action_64 (lv_at hl 0 rfl) ?_
                  refine lv_if_eq (tgt := 112) hx hb d_Ref_action_66 (by decide) (fun c_15 => absurd c_15 (by decide)) (fun c_15 => ?_)
                  refine tp_pc (pc' := 69) (by rfl) ?_
                  refine lv_iload_n hx hb d_Ref_action_69 rfl (lv_at hl 3 rfl) ?_
                  refine lv_iconst (v := 5) hx hb d_Ref_action_70 (by decide) ?_
                  refine lv_icmp_ne (tgt := 87) hx hb d_Ref_action_71 (by decide) (fun c_16 => ?_) (fun c_16 => absurd c_16 (by decide))
                  refine tp_pc (pc' := 87) (by rfl) ?_
                  refine lv_iload_n hx hb d_Ref_action_87 rfl (lv_at hl 3 rfl) ?_
                  refine lv_iconst (v := 4) hx hb d_Ref_action_88 (by decide) ?_
                  refine lv_icmp_ne (tgt := 99) hx hb d_Ref_action_89 (by decide) (fun c_17 => ?_) (fun c_17 => absurd c_17 (by decide))
                  refine tp_pc (pc' := 99) (by rfl) ?_
                  refine lv_iload_n hx hb d_Ref_action_99 rfl (lv_at hl 4 rfl) ?_
                  refine lv_if_lt (tgt := 112) hx hb d_Ref_action_100 (by decide) (fun f1 => ?_) (fun f1 => ?_)
                  · skip
                    refine tp_pc (pc' := 112) (by rfl) ?_
                    refine lv_iconst (v := 0) hx hb d_Ref_action_112 (by decide) ?_
                    refine lv_istore (lv' := [(6, .int 0), (0, .ref ra), (1, .int t9x), (2, .int 0), (3, .int x9), (4, .int r9), (5, .int v9)]) hx hb d_Ref_action_113 hl (by decide) rfl ?_
                    clear hl ls
                    intro ls hl
                    refine lv_iload hx hb d_Ref_action_115 (lv_at hl 0 rfl) ?_
                    refine lv_if_eq (tgt := 153) hx hb d_Ref_action_117 (by decide) (fun c_18 => ?_) (fun c_18 => absurd c_18 (by decide))
                    refine tp_pc (pc' := 153) (by rfl) ?_
                    refine lv_iconst (v := 0) hx hb d_Ref_action_153 (by decide) ?_
                    refine lv_istore (lv' := [(6, .int 0), (0, .ref ra), (1, .int t9x), (2, .int 0), (3, .int x9), (4, .int r9), (5, .int v9)]) hx hb d_Ref_action_154 hl (by decide) rfl ?_
                    clear hl ls
                    intro ls hl
                    refine lv_iload hx hb d_Ref_action_156 (lv_at hl 0 rfl) ?_
                    refine lv_if_ne (tgt := 163) hx hb d_Ref_action_158 (by decide) (fun c_19 => absurd c_19 (by decide)) (fun c_19 => ?_)
                    refine tp_pc (pc' := 161) (by rfl) ?_
                    refine lv_iconst (v := (-1)) hx hb d_Ref_action_161 (by decide) ?_
                    obtain ⟨hP9, hD9, -⟩ := cut3 (wc := [oc ra 8 [.int (nI T), .int (nI Ac), .ref (rA 2), .ref (rA 3), .ref (rA 4), .ref (rA 5), .ref (rA 6), .ref (rA 7), .ref (rA 8), .ref (rA 9), .ref (rA 10), .ref (rA 11), .ref (rA 12), .ref (rA 13), .int ir, .ref (rA 15), .ref (rA 16), .ref (rA 17), .ref (rA 18), .int (nI md), .int (nI wd), .ref (rA 21), .ref (rA 22), .ref (rA 23), .int (nI mn), .ref (rA 25), .int (nI cb), .int mr, .ref (rA 28), .ref (rA 29), .ref (rA 30), .ref (rA 31), .ref (rA 32), .ref (rA 33), .ref (rA 34), .ref (rA 35), .int (nI ld), .int (nI gm), .ref (rA 38), .ref (rA 39), .ref (rA 40), .ref (rA 41), .ref (rA 42), .ref (rA 43), .ref (rA 44), .ref (rA 45), .int (nI my), .ref (rA 47)], ia (rA 7) (rK9 7) 8 ff, ia (rA 2) (rK9 2) 4 (fun i => nI (zs i)), ia (rA 3) (rK9 3) 28 (fun i => nI (kd i)), ia (rA 4) (rK9 4) 28 (fun i => nI (vx i)), ia (rA 5) (rK9 5) 28 (fun i => nI (rr i)), ia (rA 6) (rK9 6) 28 vv]) hP hD rfl hS hA [0, 1, 2, 3, 4, 5, 6] (by decide +kernel) rfl
                    have hK9 := hK.sub (tys' := []) [] rfl
                    refine W.widen (k := 0) (n := 0) (by exact Nat.le_of_ble_eq_true rfl) (by exact Nat.le_of_ble_eq_true rfl) ?_
                    exact W.iret (v := (-1)) hx hb hr (fun t9 ht9 hW => ⟨⟨(-1), (), rfl, rfl, by rw [ht9]; exact hP9, va_K.moved hW.alike hK9, hD9⟩, hS.F ht9⟩) hS.2.2 d_Ref_action_162
                  · skip
                    refine tp_pc (pc' := 103) (by rfl) ?_
                    refine lv_iload_n hx hb d_Ref_action_103 rfl (lv_at hl 4 rfl) ?_
                    refine lv_iconst (v := 2) hx hb d_Ref_action_104 (by decide) ?_
                    refine lv_icmp_gt (tgt := 112) hx hb d_Ref_action_105 (by decide) (fun f2 => ?_) (fun f2 => ?_)
                    · skip
                      refine tp_pc (pc' := 112) (by rfl) ?_
                      refine lv_iconst (v := 0) hx hb d_Ref_action_112 (by decide) ?_
                      refine lv_istore (lv' := [(6, .int 0), (0, .ref ra), (1, .int t9x), (2, .int 0), (3, .int x9), (4, .int r9), (5, .int v9)]) hx hb d_Ref_action_113 hl (by decide) rfl ?_
                      clear hl ls
                      intro ls hl
                      refine lv_iload hx hb d_Ref_action_115 (lv_at hl 0 rfl) ?_
                      refine lv_if_eq (tgt := 153) hx hb d_Ref_action_117 (by decide) (fun c_20 => ?_) (fun c_20 => absurd c_20 (by decide))
                      refine tp_pc (pc' := 153) (by rfl) ?_
                      refine lv_iconst (v := 0) hx hb d_Ref_action_153 (by decide) ?_
                      refine lv_istore (lv' := [(6, .int 0), (0, .ref ra), (1, .int t9x), (2, .int 0), (3, .int x9), (4, .int r9), (5, .int v9)]) hx hb d_Ref_action_154 hl (by decide) rfl ?_
                      clear hl ls
                      intro ls hl
                      refine lv_iload hx hb d_Ref_action_156 (lv_at hl 0 rfl) ?_
                      refine lv_if_ne (tgt := 163) hx hb d_Ref_action_158 (by decide) (fun c_21 => absurd c_21 (by decide)) (fun c_21 => ?_)
                      refine tp_pc (pc' := 161) (by rfl) ?_
                      refine lv_iconst (v := (-1)) hx hb d_Ref_action_161 (by decide) ?_
                      obtain ⟨hP9, hD9, -⟩ := cut3 (wc := [oc ra 8 [.int (nI T), .int (nI Ac), .ref (rA 2), .ref (rA 3), .ref (rA 4), .ref (rA 5), .ref (rA 6), .ref (rA 7), .ref (rA 8), .ref (rA 9), .ref (rA 10), .ref (rA 11), .ref (rA 12), .ref (rA 13), .int ir, .ref (rA 15), .ref (rA 16), .ref (rA 17), .ref (rA 18), .int (nI md), .int (nI wd), .ref (rA 21), .ref (rA 22), .ref (rA 23), .int (nI mn), .ref (rA 25), .int (nI cb), .int mr, .ref (rA 28), .ref (rA 29), .ref (rA 30), .ref (rA 31), .ref (rA 32), .ref (rA 33), .ref (rA 34), .ref (rA 35), .int (nI ld), .int (nI gm), .ref (rA 38), .ref (rA 39), .ref (rA 40), .ref (rA 41), .ref (rA 42), .ref (rA 43), .ref (rA 44), .ref (rA 45), .int (nI my), .ref (rA 47)], ia (rA 7) (rK9 7) 8 ff, ia (rA 2) (rK9 2) 4 (fun i => nI (zs i)), ia (rA 3) (rK9 3) 28 (fun i => nI (kd i)), ia (rA 4) (rK9 4) 28 (fun i => nI (vx i)), ia (rA 5) (rK9 5) 28 (fun i => nI (rr i)), ia (rA 6) (rK9 6) 28 vv]) hP hD rfl hS hA [0, 1, 2, 3, 4, 5, 6] (by decide +kernel) rfl
                      have hK9 := hK.sub (tys' := []) [] rfl
                      refine W.widen (k := 0) (n := 0) (by exact Nat.le_of_ble_eq_true rfl) (by exact Nat.le_of_ble_eq_true rfl) ?_
                      exact W.iret (v := (-1)) hx hb hr (fun t9 ht9 hW => ⟨⟨(-1), (), rfl, rfl, by rw [ht9]; exact hP9, va_K.moved hW.alike hK9, hD9⟩, hS.F ht9⟩) hS.2.2 d_Ref_action_162
                    · skip
                      refine tp_pc (pc' := 108) (by rfl) ?_
                      refine lv_iconst (v := 1) hx hb d_Ref_action_108 (by decide) ?_
                      refine lv_goto (tgt := 113) hx hb d_Ref_action_109 (by decide) ?_
                      refine tp_pc (pc' := 113) (by rfl) ?_
                      refine lv_istore (lv' := [(6, .int 1), (0, .ref ra), (1, .int t9x), (2, .int 0), (3, .int x9), (4, .int r9), (5, .int v9)]) hx hb d_Ref_action_113 hl (by decide) rfl ?_
                      clear hl ls
                      intro ls hl
                      refine lv_iload hx hb d_Ref_action_115 (lv_at hl 0 rfl) ?_
                      refine lv_if_eq (tgt := 153) hx hb d_Ref_action_117 (by decide) (fun c_22 => absurd c_22 (by decide)) (fun c_22 => ?_)
                      refine tp_pc (pc' := 120) (by rfl) ?_
                      refine lv_iload_n hx hb d_Ref_action_120 rfl (lv_at hl 3 rfl) ?_
                      refine lv_iconst (v := 1) hx hb d_Ref_action_121 (by decide) ?_
                      refine lv_icmp_eq (tgt := 130) hx hb d_Ref_action_122 (by decide) (fun c_23 => absurd c_23 (by decide)) (fun c_23 => ?_)
                      refine tp_pc (pc' := 125) (by rfl) ?_
                      refine lv_iload_n hx hb d_Ref_action_125 rfl (lv_at hl 3 rfl) ?_
                      refine lv_iconst (v := 4) hx hb d_Ref_action_126 (by decide) ?_
                      refine lv_icmp_ne (tgt := 135) hx hb d_Ref_action_127 (by decide) (fun c_24 => ?_) (fun c_24 => absurd c_24 (by decide))
                      refine tp_pc (pc' := 135) (by rfl) ?_
                      refine lv_iload_n hx hb d_Ref_action_135 rfl (lv_at hl 3 rfl) ?_
                      refine lv_if_eq (tgt := 144) hx hb d_Ref_action_136 (by decide) (fun c_25 => ?_) (fun c_25 => absurd c_25 (by decide))
                      refine tp_pc (pc' := 144) (by rfl) ?_
                      refine lv_iload hx hb d_Ref_action_144 (lv_at hl 6 rfl) ?_
                      refine lv_if_ne (tgt := 153) hx hb d_Ref_action_146 (by decide) (fun f3 => ?_) (fun f3 => ?_)
                      · skip
                        refine tp_pc (pc' := 153) (by rfl) ?_
                        refine lv_iconst (v := 0) hx hb d_Ref_action_153 (by decide) ?_
                        refine lv_istore (lv' := [(6, .int 0), (0, .ref ra), (1, .int t9x), (2, .int 0), (3, .int x9), (4, .int r9), (5, .int v9)]) hx hb d_Ref_action_154 hl (by decide) rfl ?_
                        clear hl ls
                        intro ls hl
                        refine lv_iload hx hb d_Ref_action_156 (lv_at hl 0 rfl) ?_
                        refine lv_if_ne (tgt := 163) hx hb d_Ref_action_158 (by decide) (fun c_26 => absurd c_26 (by decide)) (fun c_26 => ?_)
                        refine tp_pc (pc' := 161) (by rfl) ?_
                        refine lv_iconst (v := (-1)) hx hb d_Ref_action_161 (by decide) ?_
                        obtain ⟨hP9, hD9, -⟩ := cut3 (wc := [oc ra 8 [.int (nI T), .int (nI Ac), .ref (rA 2), .ref (rA 3), .ref (rA 4), .ref (rA 5), .ref (rA 6), .ref (rA 7), .ref (rA 8), .ref (rA 9), .ref (rA 10), .ref (rA 11), .ref (rA 12), .ref (rA 13), .int ir, .ref (rA 15), .ref (rA 16), .ref (rA 17), .ref (rA 18), .int (nI md), .int (nI wd), .ref (rA 21), .ref (rA 22), .ref (rA 23), .int (nI mn), .ref (rA 25), .int (nI cb), .int mr, .ref (rA 28), .ref (rA 29), .ref (rA 30), .ref (rA 31), .ref (rA 32), .ref (rA 33), .ref (rA 34), .ref (rA 35), .int (nI ld), .int (nI gm), .ref (rA 38), .ref (rA 39), .ref (rA 40), .ref (rA 41), .ref (rA 42), .ref (rA 43), .ref (rA 44), .ref (rA 45), .int (nI my), .ref (rA 47)], ia (rA 7) (rK9 7) 8 ff, ia (rA 2) (rK9 2) 4 (fun i => nI (zs i)), ia (rA 3) (rK9 3) 28 (fun i => nI (kd i)), ia (rA 4) (rK9 4) 28 (fun i => nI (vx i)), ia (rA 5) (rK9 5) 28 (fun i => nI (rr i)), ia (rA 6) (rK9 6) 28 vv]) hP hD rfl hS hA [0, 1, 2, 3, 4, 5, 6] (by decide +kernel) rfl
                        have hK9 := hK.sub (tys' := []) [] rfl
                        refine W.widen (k := 0) (n := 0) (by exact Nat.le_of_ble_eq_true rfl) (by exact Nat.le_of_ble_eq_true rfl) ?_
                        exact W.iret (v := (-1)) hx hb hr (fun t9 ht9 hW => ⟨⟨(-1), (), rfl, rfl, by rw [ht9]; exact hP9, va_K.moved hW.alike hK9, hD9⟩, hS.F ht9⟩) hS.2.2 d_Ref_action_162
                      · skip
                        exact absurd hno (by rintro (h | h | h | h); (exact c1 h); (exact c2 h); (exact hc3 h); (exact h (actP_0.mpr ⟨⟨f1, fun q => f2 (gt2.mpr q)⟩, ⟨e3, fun q => e4 (gt1.mpr q)⟩, f3⟩)))
        · skip
          have hc3 : Ac = 7 := (nI_eq (a := Ac) (b := 7) (by omega) (by omega)).mp c3
          refine tp_pc (pc' := 30) (by rfl) ?_
          refine lv_iconst (v := (-1)) hx hb d_Ref_action_30 (by decide) ?_
          obtain ⟨hP9, hD9, -⟩ := cut3 (wc := [oc ra 8 [.int (nI T), .int (nI Ac), .ref (rA 2), .ref (rA 3), .ref (rA 4), .ref (rA 5), .ref (rA 6), .ref (rA 7), .ref (rA 8), .ref (rA 9), .ref (rA 10), .ref (rA 11), .ref (rA 12), .ref (rA 13), .int ir, .ref (rA 15), .ref (rA 16), .ref (rA 17), .ref (rA 18), .int (nI md), .int (nI wd), .ref (rA 21), .ref (rA 22), .ref (rA 23), .int (nI mn), .ref (rA 25), .int (nI cb), .int mr, .ref (rA 28), .ref (rA 29), .ref (rA 30), .ref (rA 31), .ref (rA 32), .ref (rA 33), .ref (rA 34), .ref (rA 35), .int (nI ld), .int (nI gm), .ref (rA 38), .ref (rA 39), .ref (rA 40), .ref (rA 41), .ref (rA 42), .ref (rA 43), .ref (rA 44), .ref (rA 45), .int (nI my), .ref (rA 47)], ia (rA 7) (rK9 7) 8 ff, ia (rA 2) (rK9 2) 4 (fun i => nI (zs i)), ia (rA 3) (rK9 3) 28 (fun i => nI (kd i)), ia (rA 4) (rK9 4) 28 (fun i => nI (vx i)), ia (rA 5) (rK9 5) 28 (fun i => nI (rr i)), ia (rA 6) (rK9 6) 28 vv]) hP hD rfl hS hA [0, 1, 2, 3, 4, 5, 6] (by decide +kernel) rfl
          have hK9 := hK.sub (tys' := []) [] rfl
          refine W.widen (k := 0) (n := 0) (by exact Nat.le_of_ble_eq_true rfl) (by exact Nat.le_of_ble_eq_true rfl) ?_
          exact W.iret (v := (-1)) hx hb hr (fun t9 ht9 hW => ⟨⟨(-1), (), rfl, rfl, by rw [ht9]; exact hP9, va_K.moved hW.alike hK9, hD9⟩, hS.F ht9⟩) hS.2.2 d_Ref_action_31
      by_cases hk1 : k9 = 1
      · skip
        subst hk1
        replace hl : lv_has ls 8 [(0, .ref ra), (1, .int t9x), (2, .int 1), (3, .int x9), (4, .int r9), (5, .int v9)] := hl
        refine tp_pc (pc' := 12) (by rfl) ?_
        refine lv_iload_n hx hb d_Ref_action_12 rfl (lv_at hl 2 rfl) ?_
        refine lv_if_lt (tgt := 30) hx hb d_Ref_action_13 (by decide) (fun c_27 => absurd c_27 (by decide)) (fun c_27 => ?_)
        refine tp_pc (pc' := 16) (by rfl) ?_
        refine lv_iload_n hx hb d_Ref_action_16 rfl (lv_at hl 2 rfl) ?_
        refine lv_iconst (v := 5) hx hb d_Ref_action_17 (by decide) ?_
        refine lv_icmp_gt (tgt := 30) hx hb d_Ref_action_18 (by decide) (fun c_28 => absurd c_28 (by decide)) (fun c_28 => ?_)
        refine tp_pc (pc' := 21) (by rfl) ?_
        refine lv_aload_n hx hb d_Ref_action_21 rfl (lv_at hl 0 rfl) ?_
        refine va_get (D := (dC, dI)) (ci := 8) (v := .int (nI Ac)) (C := R_Ref) (T := F_Ref) (N := 48) hx hb hw i_Ref hown hK hP 0 rfl rfl 1 (by decide) (hw _ m_900) (fun _ h9 => h9) rfl d_Ref_action_22 ?_
        refine lv_bipush (v := 7) hx hb d_Ref_action_25 (by decide) ?_
        refine lv_icmp_ne (tgt := 32) hx hb d_Ref_action_27 (by decide) (fun c3 => ?_) (fun c3 => ?_)
        · skip
          have hc3 : ¬ (Ac = 7) := fun q9 => c3 ((nI_eq (a := Ac) (b := 7) (by omega) (by omega)).mpr q9)
          refine tp_pc (pc' := 32) (by rfl) ?_
          refine lv_iload hx hb d_Ref_action_32 (lv_at hl 5 rfl) ?_
          refine lv_bipush (v := (-9)) hx hb d_Ref_action_34 (by decide) ?_
          refine lv_icmp_lt (tgt := 61) hx hb d_Ref_action_36 (by decide) (fun e1 => ?_) (fun e1 => ?_)
          · skip
            refine tp_pc (pc' := 61) (by rfl) ?_
            refine lv_iconst (v := 0) hx hb d_Ref_action_61 (by decide) ?_
            refine lv_istore (lv' := [(6, .int 0), (0, .ref ra), (1, .int t9x), (2, .int 1), (3, .int x9), (4, .int r9), (5, .int v9)]) hx hb d_Ref_action_62 hl (by decide) rfl ?_
            clear hl ls
            intro ls hl
            refine lv_iload hx hb d_Ref_action_64 (lv_at hl 0 rfl) ?_
            refine lv_if_eq (tgt := 112) hx hb d_Ref_action_66 (by decide) (fun c_29 => ?_) (fun c_29 => absurd c_29 (by decide))
            refine tp_pc (pc' := 112) (by rfl) ?_
            refine lv_iconst (v := 0) hx hb d_Ref_action_112 (by decide) ?_
            refine lv_istore (lv' := [(6, .int 0), (0, .ref ra), (1, .int t9x), (2, .int 1), (3, .int x9), (4, .int r9), (5, .int v9)]) hx hb d_Ref_action_113 hl (by decide) rfl ?_
            clear hl ls
            intro ls hl
            refine lv_iload hx hb d_Ref_action_115 (lv_at hl 0 rfl) ?_
            refine lv_if_eq (tgt := 153) hx hb d_Ref_action_117 (by decide) (fun c_30 => ?_) (fun c_30 => absurd c_30 (by decide))
            refine tp_pc (pc' := 153) (by rfl) ?_
            refine lv_iconst (v := 0) hx hb d_Ref_action_153 (by decide) ?_
            refine lv_istore (lv' := [(6, .int 0), (0, .ref ra), (1, .int t9x), (2, .int 1), (3, .int x9), (4, .int r9), (5, .int v9)]) hx hb d_Ref_action_154 hl (by decide) rfl ?_
            clear hl ls
            intro ls hl
            refine lv_iload hx hb d_Ref_action_156 (lv_at hl 0 rfl) ?_
            refine lv_if_ne (tgt := 163) hx hb d_Ref_action_158 (by decide) (fun c_31 => absurd c_31 (by decide)) (fun c_31 => ?_)
            refine tp_pc (pc' := 161) (by rfl) ?_
            refine lv_iconst (v := (-1)) hx hb d_Ref_action_161 (by decide) ?_
            obtain ⟨hP9, hD9, -⟩ := cut3 (wc := [oc ra 8 [.int (nI T), .int (nI Ac), .ref (rA 2), .ref (rA 3), .ref (rA 4), .ref (rA 5), .ref (rA 6), .ref (rA 7), .ref (rA 8), .ref (rA 9), .ref (rA 10), .ref (rA 11), .ref (rA 12), .ref (rA 13), .int ir, .ref (rA 15), .ref (rA 16), .ref (rA 17), .ref (rA 18), .int (nI md), .int (nI wd), .ref (rA 21), .ref (rA 22), .ref (rA 23), .int (nI mn), .ref (rA 25), .int (nI cb), .int mr, .ref (rA 28), .ref (rA 29), .ref (rA 30), .ref (rA 31), .ref (rA 32), .ref (rA 33), .ref (rA 34), .ref (rA 35), .int (nI ld), .int (nI gm), .ref (rA 38), .ref (rA 39), .ref (rA 40), .ref (rA 41), .ref (rA 42), .ref (rA 43), .ref (rA 44), .ref (rA 45), .int (nI my), .ref (rA 47)], ia (rA 7) (rK9 7) 8 ff, ia (rA 2) (rK9 2) 4 (fun i => nI (zs i)), ia (rA 3) (rK9 3) 28 (fun i => nI (kd i)), ia (rA 4) (rK9 4) 28 (fun i => nI (vx i)), ia (rA 5) (rK9 5) 28 (fun i => nI (rr i)), ia (rA 6) (rK9 6) 28 vv]) hP hD rfl hS hA [0, 1, 2, 3, 4, 5, 6] (by decide +kernel) rfl
            have hK9 := hK.sub (tys' := []) [] rfl
            refine W.widen (k := 0) (n := 0) (by exact Nat.le_of_ble_eq_true rfl) (by exact Nat.le_of_ble_eq_true rfl) ?_
            exact W.iret (v := (-1)) hx hb hr (fun t9 ht9 hW => ⟨⟨(-1), (), rfl, rfl, by rw [ht9]; exact hP9, va_K.moved hW.alike hK9, hD9⟩, hS.F ht9⟩) hS.2.2 d_Ref_action_162
          · skip
            refine tp_pc (pc' := 39) (by rfl) ?_
            refine lv_iload hx hb d_Ref_action_39 (lv_at hl 5 rfl) ?_
            refine lv_bipush (v := 9) hx hb d_Ref_action_41 (by decide) ?_
            refine lv_icmp_gt (tgt := 61) hx hb d_Ref_action_43 (by decide) (fun e2 => ?_) (fun e2 => ?_)
            · skip
              refine tp_pc (pc' := 61) (by rfl) ?_
              refine lv_iconst (v := 0) hx hb d_Ref_action_61 (by decide) ?_
              refine lv_istore (lv' := [(6, .int 0), (0, .ref ra), (1, .int t9x), (2, .int 1), (3, .int x9), (4, .int r9), (5, .int v9)]) hx hb d_Ref_action_62 hl (by decide) rfl ?_
              clear hl ls
              intro ls hl
              refine lv_iload hx hb d_Ref_action_64 (lv_at hl 0 rfl) ?_
              refine lv_if_eq (tgt := 112) hx hb d_Ref_action_66 (by decide) (fun c_32 => ?_) (fun c_32 => absurd c_32 (by decide))
              refine tp_pc (pc' := 112) (by rfl) ?_
              refine lv_iconst (v := 0) hx hb d_Ref_action_112 (by decide) ?_
              refine lv_istore (lv' := [(6, .int 0), (0, .ref ra), (1, .int t9x), (2, .int 1), (3, .int x9), (4, .int r9), (5, .int v9)]) hx hb d_Ref_action_113 hl (by decide) rfl ?_
              clear hl ls
              intro ls hl
              refine lv_iload hx hb d_Ref_action_115 (lv_at hl 0 rfl) ?_
              refine lv_if_eq (tgt := 153) hx hb d_Ref_action_117 (by decide) (fun c_33 => ?_) (fun c_33 => absurd c_33 (by decide))
              refine tp_pc (pc' := 153) (by rfl) ?_
              refine lv_iconst (v := 0) hx hb d_Ref_action_153 (by decide) ?_
              refine lv_istore (lv' := [(6, .int 0), (0, .ref ra), (1, .int t9x), (2, .int 1), (3, .int x9), (4, .int r9), (5, .int v9)]) hx hb d_Ref_action_154 hl (by decide) rfl ?_
              clear hl ls
              intro ls hl
              refine lv_iload hx hb d_Ref_action_156 (lv_at hl 0 rfl) ?_
              refine lv_if_ne (tgt := 163) hx hb d_Ref_action_158 (by decide) (fun c_34 => absurd c_34 (by decide)) (fun c_34 => ?_)
              refine tp_pc (pc' := 161) (by rfl) ?_
              refine lv_iconst (v := (-1)) hx hb d_Ref_action_161 (by decide) ?_
              obtain ⟨hP9, hD9, -⟩ := cut3 (wc := [oc ra 8 [.int (nI T), .int (nI Ac), .ref (rA 2), .ref (rA 3), .ref (rA 4), .ref (rA 5), .ref (rA 6), .ref (rA 7), .ref (rA 8), .ref (rA 9), .ref (rA 10), .ref (rA 11), .ref (rA 12), .ref (rA 13), .int ir, .ref (rA 15), .ref (rA 16), .ref (rA 17), .ref (rA 18), .int (nI md), .int (nI wd), .ref (rA 21), .ref (rA 22), .ref (rA 23), .int (nI mn), .ref (rA 25), .int (nI cb), .int mr, .ref (rA 28), .ref (rA 29), .ref (rA 30), .ref (rA 31), .ref (rA 32), .ref (rA 33), .ref (rA 34), .ref (rA 35), .int (nI ld), .int (nI gm), .ref (rA 38), .ref (rA 39), .ref (rA 40), .ref (rA 41), .ref (rA 42), .ref (rA 43), .ref (rA 44), .ref (rA 45), .int (nI my), .ref (rA 47)], ia (rA 7) (rK9 7) 8 ff, ia (rA 2) (rK9 2) 4 (fun i => nI (zs i)), ia (rA 3) (rK9 3) 28 (fun i => nI (kd i)), ia (rA 4) (rK9 4) 28 (fun i => nI (vx i)), ia (rA 5) (rK9 5) 28 (fun i => nI (rr i)), ia (rA 6) (rK9 6) 28 vv]) hP hD rfl hS hA [0, 1, 2, 3, 4, 5, 6] (by decide +kernel) rfl
              have hK9 := hK.sub (tys' := []) [] rfl
              refine W.widen (k := 0) (n := 0) (by exact Nat.le_of_ble_eq_true rfl) (by exact Nat.le_of_ble_eq_true rfl) ?_
              exact W.iret (v := (-1)) hx hb hr (fun t9 ht9 hW => ⟨⟨(-1), (), rfl, rfl, by rw [ht9]; exact hP9, va_K.moved hW.alike hK9, hD9⟩, hS.F ht9⟩) hS.2.2 d_Ref_action_162
            · skip
              refine tp_pc (pc' := 46) (by rfl) ?_
              refine lv_iload hx hb d_Ref_action_46 (lv_at hl 4 rfl) ?_
              refine lv_if_lt (tgt := 61) hx hb d_Ref_action_48 (by decide) (fun e3 => ?_) (fun e3 => ?_)
              · skip
                refine tp_pc (pc' := 61) (by rfl) ?_
                refine lv_iconst (v := 0) hx hb d_Ref_action_61 (by decide) ?_
                refine lv_istore (lv' := [(6, .int 0), (0, .ref ra), (1, .int t9x), (2, .int 1), (3, .int x9), (4, .int r9), (5, .int v9)]) hx hb d_Ref_action_62 hl (by decide) rfl ?_
                clear hl ls
                intro ls hl
                refine lv_iload hx hb d_Ref_action_64 (lv_at hl 0 rfl) ?_
                refine lv_if_eq (tgt := 112) hx hb d_Ref_action_66 (by decide) (fun c_35 => ?_) (fun c_35 => absurd c_35 (by decide))
                refine tp_pc (pc' := 112) (by rfl) ?_
                refine lv_iconst (v := 0) hx hb d_Ref_action_112 (by decide) ?_
                refine lv_istore (lv' := [(6, .int 0), (0, .ref ra), (1, .int t9x), (2, .int 1), (3, .int x9), (4, .int r9), (5, .int v9)]) hx hb d_Ref_action_113 hl (by decide) rfl ?_
                clear hl ls
                intro ls hl
                refine lv_iload hx hb d_Ref_action_115 (lv_at hl 0 rfl) ?_
                refine lv_if_eq (tgt := 153) hx hb d_Ref_action_117 (by decide) (fun c_36 => ?_) (fun c_36 => absurd c_36 (by decide))
                refine tp_pc (pc' := 153) (by rfl) ?_
                refine lv_iconst (v := 0) hx hb d_Ref_action_153 (by decide) ?_
                refine lv_istore (lv' := [(6, .int 0), (0, .ref ra), (1, .int t9x), (2, .int 1), (3, .int x9), (4, .int r9), (5, .int v9)]) hx hb d_Ref_action_154 hl (by decide) rfl ?_
                clear hl ls
                intro ls hl
                refine lv_iload hx hb d_Ref_action_156 (lv_at hl 0 rfl) ?_
                refine lv_if_ne (tgt := 163) hx hb d_Ref_action_158 (by decide) (fun c_37 => absurd c_37 (by decide)) (fun c_37 => ?_)
                refine tp_pc (pc' := 161) (by rfl) ?_
                refine lv_iconst (v := (-1)) hx hb d_Ref_action_161 (by decide) ?_
                obtain ⟨hP9, hD9, -⟩ := cut3 (wc := [oc ra 8 [.int (nI T), .int (nI Ac), .ref (rA 2), .ref (rA 3), .ref (rA 4), .ref (rA 5), .ref (rA 6), .ref (rA 7), .ref (rA 8), .ref (rA 9), .ref (rA 10), .ref (rA 11), .ref (rA 12), .ref (rA 13), .int ir, .ref (rA 15), .ref (rA 16), .ref (rA 17), .ref (rA 18), .int (nI md), .int (nI wd), .ref (rA 21), .ref (rA 22), .ref (rA 23), .int (nI mn), .ref (rA 25), .int (nI cb), .int mr, .ref (rA 28), .ref (rA 29), .ref (rA 30), .ref (rA 31), .ref (rA 32), .ref (rA 33), .ref (rA 34), .ref (rA 35), .int (nI ld), .int (nI gm), .ref (rA 38), .ref (rA 39), .ref (rA 40), .ref (rA 41), .ref (rA 42), .ref (rA 43), .ref (rA 44), .ref (rA 45), .int (nI my), .ref (rA 47)], ia (rA 7) (rK9 7) 8 ff, ia (rA 2) (rK9 2) 4 (fun i => nI (zs i)), ia (rA 3) (rK9 3) 28 (fun i => nI (kd i)), ia (rA 4) (rK9 4) 28 (fun i => nI (vx i)), ia (rA 5) (rK9 5) 28 (fun i => nI (rr i)), ia (rA 6) (rK9 6) 28 vv]) hP hD rfl hS hA [0, 1, 2, 3, 4, 5, 6] (by decide +kernel) rfl
                have hK9 := hK.sub (tys' := []) [] rfl
                refine W.widen (k := 0) (n := 0) (by exact Nat.le_of_ble_eq_true rfl) (by exact Nat.le_of_ble_eq_true rfl) ?_
                exact W.iret (v := (-1)) hx hb hr (fun t9 ht9 hW => ⟨⟨(-1), (), rfl, rfl, by rw [ht9]; exact hP9, va_K.moved hW.alike hK9, hD9⟩, hS.F ht9⟩) hS.2.2 d_Ref_action_162
              · skip
                refine tp_pc (pc' := 51) (by rfl) ?_
                refine lv_iload hx hb d_Ref_action_51 (lv_at hl 4 rfl) ?_
                refine lv_iconst (v := 1) hx hb d_Ref_action_53 (by decide) ?_
                refine lv_icmp_gt (tgt := 61) hx hb d_Ref_action_54 (by decide) (fun e4 => ?_) (fun e4 => ?_)
                · skip
                  refine tp_pc (pc' := 61) (by rfl) ?_
                  refine lv_iconst (v := 0) hx hb d_Ref_action_61 (by decide) ?_
                  refine lv_istore (lv' := [(6, .int 0), (0, .ref ra), (1, .int t9x), (2, .int 1), (3, .int x9), (4, .int r9), (5, .int v9)]) hx hb d_Ref_action_62 hl (by decide) rfl ?_
                  clear hl ls
                  intro ls hl
                  refine lv_iload hx hb d_Ref_action_64 (lv_at hl 0 rfl) ?_
                  refine lv_if_eq (tgt := 112) hx hb d_Ref_action_66 (by decide) (fun c_38 => ?_) (fun c_38 => absurd c_38 (by decide))
                  refine tp_pc (pc' := 112) (by rfl) ?_
                  refine lv_iconst (v := 0) hx hb d_Ref_action_112 (by decide) ?_
                  refine lv_istore (lv' := [(6, .int 0), (0, .ref ra), (1, .int t9x), (2, .int 1), (3, .int x9), (4, .int r9), (5, .int v9)]) hx hb d_Ref_action_113 hl (by decide) rfl ?_
                  clear hl ls
                  intro ls hl
                  refine lv_iload hx hb d_Ref_action_115 (lv_at hl 0 rfl) ?_
                  refine lv_if_eq (tgt := 153) hx hb d_Ref_action_117 (by decide) (fun c_39 => ?_) (fun c_39 => absurd c_39 (by decide))
                  refine tp_pc (pc' := 153) (by rfl) ?_
                  refine lv_iconst (v := 0) hx hb d_Ref_action_153 (by decide) ?_
                  refine lv_istore (lv' := [(6, .int 0), (0, .ref ra), (1, .int t9x), (2, .int 1), (3, .int x9), (4, .int r9), (5, .int v9)]) hx hb d_Ref_action_154 hl (by decide) rfl ?_
                  clear hl ls
                  intro ls hl
                  refine lv_iload hx hb d_Ref_action_156 (lv_at hl 0 rfl) ?_
                  refine lv_if_ne (tgt := 163) hx hb d_Ref_action_158 (by decide) (fun c_40 => absurd c_40 (by decide)) (fun c_40 => ?_)
                  refine tp_pc (pc' := 161) (by rfl) ?_
                  refine lv_iconst (v := (-1)) hx hb d_Ref_action_161 (by decide) ?_
                  obtain ⟨hP9, hD9, -⟩ := cut3 (wc := [oc ra 8 [.int (nI T), .int (nI Ac), .ref (rA 2), .ref (rA 3), .ref (rA 4), .ref (rA 5), .ref (rA 6), .ref (rA 7), .ref (rA 8), .ref (rA 9), .ref (rA 10), .ref (rA 11), .ref (rA 12), .ref (rA 13), .int ir, .ref (rA 15), .ref (rA 16), .ref (rA 17), .ref (rA 18), .int (nI md), .int (nI wd), .ref (rA 21), .ref (rA 22), .ref (rA 23), .int (nI mn), .ref (rA 25), .int (nI cb), .int mr, .ref (rA 28), .ref (rA 29), .ref (rA 30), .ref (rA 31), .ref (rA 32), .ref (rA 33), .ref (rA 34), .ref (rA 35), .int (nI ld), .int (nI gm), .ref (rA 38), .ref (rA 39), .ref (rA 40), .ref (rA 41), .ref (rA 42), .ref (rA 43), .ref (rA 44), .ref (rA 45), .int (nI my), .ref (rA 47)], ia (rA 7) (rK9 7) 8 ff, ia (rA 2) (rK9 2) 4 (fun i => nI (zs i)), ia (rA 3) (rK9 3) 28 (fun i => nI (kd i)), ia (rA 4) (rK9 4) 28 (fun i => nI (vx i)), ia (rA 5) (rK9 5) 28 (fun i => nI (rr i)), ia (rA 6) (rK9 6) 28 vv]) hP hD rfl hS hA [0, 1, 2, 3, 4, 5, 6] (by decide +kernel) rfl
                  have hK9 := hK.sub (tys' := []) [] rfl
                  refine W.widen (k := 0) (n := 0) (by exact Nat.le_of_ble_eq_true rfl) (by exact Nat.le_of_ble_eq_true rfl) ?_
                  exact W.iret (v := (-1)) hx hb hr (fun t9 ht9 hW => ⟨⟨(-1), (), rfl, rfl, by rw [ht9]; exact hP9, va_K.moved hW.alike hK9, hD9⟩, hS.F ht9⟩) hS.2.2 d_Ref_action_162
                · skip
                  refine tp_pc (pc' := 57) (by rfl) ?_
                  refine lv_iconst (v := 1) hx hb d_Ref_action_57 (by decide) ?_
                  refine lv_goto (tgt := 62) hx hb d_Ref_action_58 (by decide) ?_
                  refine tp_pc (pc' := 62) (by rfl) ?_
                  refine lv_istore (lv' := [(6, .int 1), (0, .ref ra), (1, .int t9x), (2, .int 1), (3, .int x9), (4, .int r9), (5, .int v9)]) hx hb d_Ref_action_62 hl (by decide) rfl ?_
                  clear hl ls
                  intro ls hl
                  refine lv_iload hx hb d_Ref_action_64 (lv_at hl 0 rfl) ?_
                  refine lv_if_eq (tgt := 112) hx hb d_Ref_action_66 (by decide) (fun c_41 => absurd c_41 (by decide)) (fun c_41 => ?_)
                  refine tp_pc (pc' := 69) (by rfl) ?_
                  refine lv_iload_n hx hb d_Ref_action_69 rfl (lv_at hl 3 rfl) ?_
                  refine lv_iconst (v := 5) hx hb d_Ref_action_70 (by decide) ?_
                  refine lv_icmp_ne (tgt := 87) hx hb d_Ref_action_71 (by decide) (fun c_42 => ?_) (fun c_42 => absurd c_42 (by decide))
                  refine tp_pc (pc' := 87) (by rfl) ?_
                  refine lv_iload_n hx hb d_Ref_action_87 rfl (lv_at hl 3 rfl) ?_
                  refine lv_iconst (v := 4) hx hb d_Ref_action_88 (by decide) ?_
                  refine lv_icmp_ne (tgt := 99) hx hb d_Ref_action_89 (by decide) (fun c_43 => ?_) (fun c_43 => absurd c_43 (by decide))
                  refine tp_pc (pc' := 99) (by rfl) ?_
                  refine lv_iload_n hx hb d_Ref_action_99 rfl (lv_at hl 4 rfl) ?_
                  refine lv_if_lt (tgt := 112) hx hb d_Ref_action_100 (by decide) (fun f1 => ?_) (fun f1 => ?_)
                  · skip
                    refine tp_pc (pc' := 112) (by rfl) ?_
                    refine lv_iconst (v := 0) hx hb d_Ref_action_112 (by decide) ?_
                    refine lv_istore (lv' := [(6, .int 0), (0, .ref ra), (1, .int t9x), (2, .int 1), (3, .int x9), (4, .int r9), (5, .int v9)]) hx hb d_Ref_action_113 hl (by decide) rfl ?_
                    clear hl ls
                    intro ls hl
                    refine lv_iload hx hb d_Ref_action_115 (lv_at hl 0 rfl) ?_
                    refine lv_if_eq (tgt := 153) hx hb d_Ref_action_117 (by decide) (fun c_44 => ?_) (fun c_44 => absurd c_44 (by decide))
                    refine tp_pc (pc' := 153) (by rfl) ?_
                    refine lv_iconst (v := 0) hx hb d_Ref_action_153 (by decide) ?_
                    refine lv_istore (lv' := [(6, .int 0), (0, .ref ra), (1, .int t9x), (2, .int 1), (3, .int x9), (4, .int r9), (5, .int v9)]) hx hb d_Ref_action_154 hl (by decide) rfl ?_
                    clear hl ls
                    intro ls hl
                    refine lv_iload hx hb d_Ref_action_156 (lv_at hl 0 rfl) ?_
                    refine lv_if_ne (tgt := 163) hx hb d_Ref_action_158 (by decide) (fun c_45 => absurd c_45 (by decide)) (fun c_45 => ?_)
                    refine tp_pc (pc' := 161) (by rfl) ?_
                    refine lv_iconst (v := (-1)) hx hb d_Ref_action_161 (by decide) ?_
                    obtain ⟨hP9, hD9, -⟩ := cut3 (wc := [oc ra 8 [.int (nI T), .int (nI Ac), .ref (rA 2), .ref (rA 3), .ref (rA 4), .ref (rA 5), .ref (rA 6), .ref (rA 7), .ref (rA 8), .ref (rA 9), .ref (rA 10), .ref (rA 11), .ref (rA 12), .ref (rA 13), .int ir, .ref (rA 15), .ref (rA 16), .ref (rA 17), .ref (rA 18), .int (nI md), .int (nI wd), .ref (rA 21), .ref (rA 22), .ref (rA 23), .int (nI mn), .ref (rA 25), .int (nI cb), .int mr, .ref (rA 28), .ref (rA 29), .ref (rA 30), .ref (rA 31), .ref (rA 32), .ref (rA 33), .ref (rA 34), .ref (rA 35), .int (nI ld), .int (nI gm), .ref (rA 38), .ref (rA 39), .ref (rA 40), .ref (rA 41), .ref (rA 42), .ref (rA 43), .ref (rA 44), .ref (rA 45), .int (nI my), .ref (rA 47)], ia (rA 7) (rK9 7) 8 ff, ia (rA 2) (rK9 2) 4 (fun i => nI (zs i)), ia (rA 3) (rK9 3) 28 (fun i => nI (kd i)), ia (rA 4) (rK9 4) 28 (fun i => nI (vx i)), ia (rA 5) (rK9 5) 28 (fun i => nI (rr i)), ia (rA 6) (rK9 6) 28 vv]) hP hD rfl hS hA [0, 1, 2, 3, 4, 5, 6] (by decide +kernel) rfl
                    have hK9 := hK.sub (tys' := []) [] rfl
                    refine W.widen (k := 0) (n := 0) (by exact Nat.le_of_ble_eq_true rfl) (by exact Nat.le_of_ble_eq_true rfl) ?_
                    exact W.iret (v := (-1)) hx hb hr (fun t9 ht9 hW => ⟨⟨(-1), (), rfl, rfl, by rw [ht9]; exact hP9, va_K.moved hW.alike hK9, hD9⟩, hS.F ht9⟩) hS.2.2 d_Ref_action_162
                  · skip
                    refine tp_pc (pc' := 103) (by rfl) ?_
                    refine lv_iload_n hx hb d_Ref_action_103 rfl (lv_at hl 4 rfl) ?_
                    refine lv_iconst (v := 2) hx hb d_Ref_action_104 (by decide) ?_
                    refine lv_icmp_gt (tgt := 112) hx hb d_Ref_action_105 (by decide) (fun f2 => ?_) (fun f2 => ?_)
                    · skip
                      refine tp_pc (pc' := 112) (by rfl) ?_
                      refine lv_iconst (v := 0) hx hb d_Ref_action_112 (by decide) ?_
                      refine lv_istore (lv' := [(6, .int 0), (0, .ref ra), (1, .int t9x), (2, .int 1), (3, .int x9), (4, .int r9), (5, .int v9)]) hx hb d_Ref_action_113 hl (by decide) rfl ?_
                      clear hl ls
                      intro ls hl
                      refine lv_iload hx hb d_Ref_action_115 (lv_at hl 0 rfl) ?_
                      refine lv_if_eq (tgt := 153) hx hb d_Ref_action_117 (by decide) (fun c_46 => ?_) (fun c_46 => absurd c_46 (by decide))
                      refine tp_pc (pc' := 153) (by rfl) ?_
                      refine lv_iconst (v := 0) hx hb d_Ref_action_153 (by decide) ?_
                      refine lv_istore (lv' := [(6, .int 0), (0, .ref ra), (1, .int t9x), (2, .int 1), (3, .int x9), (4, .int r9), (5, .int v9)]) hx hb d_Ref_action_154 hl (by decide) rfl ?_
                      clear hl ls
                      intro ls hl
                      refine lv_iload hx hb d_Ref_action_156 (lv_at hl 0 rfl) ?_
                      refine lv_if_ne (tgt := 163) hx hb d_Ref_action_158 (by decide) (fun c_47 => absurd c_47 (by decide)) (fun c_47 => ?_)
                      refine tp_pc (pc' := 161) (by rfl) ?_
                      refine lv_iconst (v := (-1)) hx hb d_Ref_action_161 (by decide) ?_
                      obtain ⟨hP9, hD9, -⟩ := cut3 (wc := [oc ra 8 [.int (nI T), .int (nI Ac), .ref (rA 2), .ref (rA 3), .ref (rA 4), .ref (rA 5), .ref (rA 6), .ref (rA 7), .ref (rA 8), .ref (rA 9), .ref (rA 10), .ref (rA 11), .ref (rA 12), .ref (rA 13), .int ir, .ref (rA 15), .ref (rA 16), .ref (rA 17), .ref (rA 18), .int (nI md), .int (nI wd), .ref (rA 21), .ref (rA 22), .ref (rA 23), .int (nI mn), .ref (rA 25), .int (nI cb), .int mr, .ref (rA 28), .ref (rA 29), .ref (rA 30), .ref (rA 31), .ref (rA 32), .ref (rA 33), .ref (rA 34), .ref (rA 35), .int (nI ld), .int (nI gm), .ref (rA 38), .ref (rA 39), .ref (rA 40), .ref (rA 41), .ref (rA 42), .ref (rA 43), .ref (rA 44), .ref (rA 45), .int (nI my), .ref (rA 47)], ia (rA 7) (rK9 7) 8 ff, ia (rA 2) (rK9 2) 4 (fun i => nI (zs i)), ia (rA 3) (rK9 3) 28 (fun i => nI (kd i)), ia (rA 4) (rK9 4) 28 (fun i => nI (vx i)), ia (rA 5) (rK9 5) 28 (fun i => nI (rr i)), ia (rA 6) (rK9 6) 28 vv]) hP hD rfl hS hA [0, 1, 2, 3, 4, 5, 6] (by decide +kernel) rfl
                      have hK9 := hK.sub (tys' := []) [] rfl
                      refine W.widen (k := 0) (n := 0) (by exact Nat.le_of_ble_eq_true rfl) (by exact Nat.le_of_ble_eq_true rfl) ?_
                      exact W.iret (v := (-1)) hx hb hr (fun t9 ht9 hW => ⟨⟨(-1), (), rfl, rfl, by rw [ht9]; exact hP9, va_K.moved hW.alike hK9, hD9⟩, hS.F ht9⟩) hS.2.2 d_Ref_action_162
                    · skip
                      refine tp_pc (pc' := 108) (by rfl) ?_
                      refine lv_iconst (v := 1) hx hb d_Ref_action_108 (by decide) ?_
                      refine lv_goto (tgt := 113) hx hb d_Ref_action_109 (by decide) ?_
                      refine tp_pc (pc' := 113) (by rfl) ?_
                      refine lv_istore (lv' := [(6, .int 1), (0, .ref ra), (1, .int t9x), (2, .int 1), (3, .int x9), (4, .int r9), (5, .int v9)]) hx hb d_Ref_action_113 hl (by decide) rfl ?_
                      clear hl ls
                      intro ls hl
                      refine lv_iload hx hb d_Ref_action_115 (lv_at hl 0 rfl) ?_
                      refine lv_if_eq (tgt := 153) hx hb d_Ref_action_117 (by decide) (fun c_48 => absurd c_48 (by decide)) (fun c_48 => ?_)
                      refine tp_pc (pc' := 120) (by rfl) ?_
                      refine lv_iload_n hx hb d_Ref_action_120 rfl (lv_at hl 3 rfl) ?_
                      refine lv_iconst (v := 1) hx hb d_Ref_action_121 (by decide) ?_
                      refine lv_icmp_eq (tgt := 130) hx hb d_Ref_action_122 (by decide) (fun c_49 => ?_) (fun c_49 => absurd c_49 (by decide))
                      refine tp_pc (pc' := 130) (by rfl) ?_
                      refine lv_iload hx hb d_Ref_action_130 (lv_at hl 5 rfl) ?_
                      refine lv_if_ne (tgt := 153) hx hb d_Ref_action_132 (by decide) (fun f3 => ?_) (fun f3 => ?_)
                      · skip
                        refine tp_pc (pc' := 153) (by rfl) ?_
                        refine lv_iconst (v := 0) hx hb d_Ref_action_153 (by decide) ?_
                        refine lv_istore (lv' := [(6, .int 0), (0, .ref ra), (1, .int t9x), (2, .int 1), (3, .int x9), (4, .int r9), (5, .int v9)]) hx hb d_Ref_action_154 hl (by decide) rfl ?_
                        clear hl ls
                        intro ls hl
                        refine lv_iload hx hb d_Ref_action_156 (lv_at hl 0 rfl) ?_
                        refine lv_if_ne (tgt := 163) hx hb d_Ref_action_158 (by decide) (fun c_50 => absurd c_50 (by decide)) (fun c_50 => ?_)
                        refine tp_pc (pc' := 161) (by rfl) ?_
                        refine lv_iconst (v := (-1)) hx hb d_Ref_action_161 (by decide) ?_
                        obtain ⟨hP9, hD9, -⟩ := cut3 (wc := [oc ra 8 [.int (nI T), .int (nI Ac), .ref (rA 2), .ref (rA 3), .ref (rA 4), .ref (rA 5), .ref (rA 6), .ref (rA 7), .ref (rA 8), .ref (rA 9), .ref (rA 10), .ref (rA 11), .ref (rA 12), .ref (rA 13), .int ir, .ref (rA 15), .ref (rA 16), .ref (rA 17), .ref (rA 18), .int (nI md), .int (nI wd), .ref (rA 21), .ref (rA 22), .ref (rA 23), .int (nI mn), .ref (rA 25), .int (nI cb), .int mr, .ref (rA 28), .ref (rA 29), .ref (rA 30), .ref (rA 31), .ref (rA 32), .ref (rA 33), .ref (rA 34), .ref (rA 35), .int (nI ld), .int (nI gm), .ref (rA 38), .ref (rA 39), .ref (rA 40), .ref (rA 41), .ref (rA 42), .ref (rA 43), .ref (rA 44), .ref (rA 45), .int (nI my), .ref (rA 47)], ia (rA 7) (rK9 7) 8 ff, ia (rA 2) (rK9 2) 4 (fun i => nI (zs i)), ia (rA 3) (rK9 3) 28 (fun i => nI (kd i)), ia (rA 4) (rK9 4) 28 (fun i => nI (vx i)), ia (rA 5) (rK9 5) 28 (fun i => nI (rr i)), ia (rA 6) (rK9 6) 28 vv]) hP hD rfl hS hA [0, 1, 2, 3, 4, 5, 6] (by decide +kernel) rfl
                        have hK9 := hK.sub (tys' := []) [] rfl
                        refine W.widen (k := 0) (n := 0) (by exact Nat.le_of_ble_eq_true rfl) (by exact Nat.le_of_ble_eq_true rfl) ?_
                        exact W.iret (v := (-1)) hx hb hr (fun t9 ht9 hW => ⟨⟨(-1), (), rfl, rfl, by rw [ht9]; exact hP9, va_K.moved hW.alike hK9, hD9⟩, hS.F ht9⟩) hS.2.2 d_Ref_action_162
                      · skip
                        exact absurd hno (by rintro (h | h | h | h); (exact c1 h); (exact c2 h); (exact hc3 h); (exact h (actP_1.mpr ⟨⟨f1, fun q => f2 (gt2.mpr q)⟩, f3, ⟨e1, e2⟩⟩)))
        · skip
          have hc3 : Ac = 7 := (nI_eq (a := Ac) (b := 7) (by omega) (by omega)).mp c3
          refine tp_pc (pc' := 30) (by rfl) ?_
          refine lv_iconst (v := (-1)) hx hb d_Ref_action_30 (by decide) ?_
          obtain ⟨hP9, hD9, -⟩ := cut3 (wc := [oc ra 8 [.int (nI T), .int (nI Ac), .ref (rA 2), .ref (rA 3), .ref (rA 4), .ref (rA 5), .ref (rA 6), .ref (rA 7), .ref (rA 8), .ref (rA 9), .ref (rA 10), .ref (rA 11), .ref (rA 12), .ref (rA 13), .int ir, .ref (rA 15), .ref (rA 16), .ref (rA 17), .ref (rA 18), .int (nI md), .int (nI wd), .ref (rA 21), .ref (rA 22), .ref (rA 23), .int (nI mn), .ref (rA 25), .int (nI cb), .int mr, .ref (rA 28), .ref (rA 29), .ref (rA 30), .ref (rA 31), .ref (rA 32), .ref (rA 33), .ref (rA 34), .ref (rA 35), .int (nI ld), .int (nI gm), .ref (rA 38), .ref (rA 39), .ref (rA 40), .ref (rA 41), .ref (rA 42), .ref (rA 43), .ref (rA 44), .ref (rA 45), .int (nI my), .ref (rA 47)], ia (rA 7) (rK9 7) 8 ff, ia (rA 2) (rK9 2) 4 (fun i => nI (zs i)), ia (rA 3) (rK9 3) 28 (fun i => nI (kd i)), ia (rA 4) (rK9 4) 28 (fun i => nI (vx i)), ia (rA 5) (rK9 5) 28 (fun i => nI (rr i)), ia (rA 6) (rK9 6) 28 vv]) hP hD rfl hS hA [0, 1, 2, 3, 4, 5, 6] (by decide +kernel) rfl
          have hK9 := hK.sub (tys' := []) [] rfl
          refine W.widen (k := 0) (n := 0) (by exact Nat.le_of_ble_eq_true rfl) (by exact Nat.le_of_ble_eq_true rfl) ?_
          exact W.iret (v := (-1)) hx hb hr (fun t9 ht9 hW => ⟨⟨(-1), (), rfl, rfl, by rw [ht9]; exact hP9, va_K.moved hW.alike hK9, hD9⟩, hS.F ht9⟩) hS.2.2 d_Ref_action_31
      by_cases hk2 : k9 = 2
      · skip
        subst hk2
        replace hl : lv_has ls 8 [(0, .ref ra), (1, .int t9x), (2, .int 2), (3, .int x9), (4, .int r9), (5, .int v9)] := hl
        refine tp_pc (pc' := 12) (by rfl) ?_
        refine lv_iload_n hx hb d_Ref_action_12 rfl (lv_at hl 2 rfl) ?_
        refine lv_if_lt (tgt := 30) hx hb d_Ref_action_13 (by decide) (fun c_51 => absurd c_51 (by decide)) (fun c_51 => ?_)
        refine tp_pc (pc' := 16) (by rfl) ?_
        refine lv_iload_n hx hb d_Ref_action_16 rfl (lv_at hl 2 rfl) ?_
        refine lv_iconst (v := 5) hx hb d_Ref_action_17 (by decide) ?_
        refine lv_icmp_gt (tgt := 30) hx hb d_Ref_action_18 (by decide) (fun c_52 => absurd c_52 (by decide)) (fun c_52 => ?_)
        refine tp_pc (pc' := 21) (by rfl) ?_
        refine lv_aload_n hx hb d_Ref_action_21 rfl (lv_at hl 0 rfl) ?_
        refine va_get (D := (dC, dI)) (ci := 8) (v := .int (nI Ac)) (C := R_Ref) (T := F_Ref) (N := 48) hx hb hw i_Ref hown hK hP 0 rfl rfl 1 (by decide) (hw _ m_900) (fun _ h9 => h9) rfl d_Ref_action_22 ?_
        refine lv_bipush (v := 7) hx hb d_Ref_action_25 (by decide) ?_
        refine lv_icmp_ne (tgt := 32) hx hb d_Ref_action_27 (by decide) (fun c3 => ?_) (fun c3 => ?_)
        · skip
          have hc3 : ¬ (Ac = 7) := fun q9 => c3 ((nI_eq (a := Ac) (b := 7) (by omega) (by omega)).mpr q9)
          refine tp_pc (pc' := 32) (by rfl) ?_
          refine lv_iload hx hb d_Ref_action_32 (lv_at hl 5 rfl) ?_
          refine lv_bipush (v := (-9)) hx hb d_Ref_action_34 (by decide) ?_
          refine lv_icmp_lt (tgt := 61) hx hb d_Ref_action_36 (by decide) (fun e1 => ?_) (fun e1 => ?_)
          · skip
            refine tp_pc (pc' := 61) (by rfl) ?_
            refine lv_iconst (v := 0) hx hb d_Ref_action_61 (by decide) ?_
            refine lv_istore (lv' := [(6, .int 0), (0, .ref ra), (1, .int t9x), (2, .int 2), (3, .int x9), (4, .int r9), (5, .int v9)]) hx hb d_Ref_action_62 hl (by decide) rfl ?_
            clear hl ls
            intro ls hl
            refine lv_iload hx hb d_Ref_action_64 (lv_at hl 0 rfl) ?_
            refine lv_if_eq (tgt := 112) hx hb d_Ref_action_66 (by decide) (fun c_53 => ?_) (fun c_53 => absurd c_53 (by decide))
            refine tp_pc (pc' := 112) (by rfl) ?_
            refine lv_iconst (v := 0) hx hb d_Ref_action_112 (by decide) ?_
            refine lv_istore (lv' := [(6, .int 0), (0, .ref ra), (1, .int t9x), (2, .int 2), (3, .int x9), (4, .int r9), (5, .int v9)]) hx hb d_Ref_action_113 hl (by decide) rfl ?_
            clear hl ls
            intro ls hl
            refine lv_iload hx hb d_Ref_action_115 (lv_at hl 0 rfl) ?_
            refine lv_if_eq (tgt := 153) hx hb d_Ref_action_117 (by decide) (fun c_54 => ?_) (fun c_54 => absurd c_54 (by decide))
            refine tp_pc (pc' := 153) (by rfl) ?_
            refine lv_iconst (v := 0) hx hb d_Ref_action_153 (by decide) ?_
            refine lv_istore (lv' := [(6, .int 0), (0, .ref ra), (1, .int t9x), (2, .int 2), (3, .int x9), (4, .int r9), (5, .int v9)]) hx hb d_Ref_action_154 hl (by decide) rfl ?_
            clear hl ls
            intro ls hl
            refine lv_iload hx hb d_Ref_action_156 (lv_at hl 0 rfl) ?_
            refine lv_if_ne (tgt := 163) hx hb d_Ref_action_158 (by decide) (fun c_55 => absurd c_55 (by decide)) (fun c_55 => ?_)
            refine tp_pc (pc' := 161) (by rfl) ?_
            refine lv_iconst (v := (-1)) hx hb d_Ref_action_161 (by decide) ?_
            obtain ⟨hP9, hD9, -⟩ := cut3 (wc := [oc ra 8 [.int (nI T), .int (nI Ac), .ref (rA 2), .ref (rA 3), .ref (rA 4), .ref (rA 5), .ref (rA 6), .ref (rA 7), .ref (rA 8), .ref (rA 9), .ref (rA 10), .ref (rA 11), .ref (rA 12), .ref (rA 13), .int ir, .ref (rA 15), .ref (rA 16), .ref (rA 17), .ref (rA 18), .int (nI md), .int (nI wd), .ref (rA 21), .ref (rA 22), .ref (rA 23), .int (nI mn), .ref (rA 25), .int (nI cb), .int mr, .ref (rA 28), .ref (rA 29), .ref (rA 30), .ref (rA 31), .ref (rA 32), .ref (rA 33), .ref (rA 34), .ref (rA 35), .int (nI ld), .int (nI gm), .ref (rA 38), .ref (rA 39), .ref (rA 40), .ref (rA 41), .ref (rA 42), .ref (rA 43), .ref (rA 44), .ref (rA 45), .int (nI my), .ref (rA 47)], ia (rA 7) (rK9 7) 8 ff, ia (rA 2) (rK9 2) 4 (fun i => nI (zs i)), ia (rA 3) (rK9 3) 28 (fun i => nI (kd i)), ia (rA 4) (rK9 4) 28 (fun i => nI (vx i)), ia (rA 5) (rK9 5) 28 (fun i => nI (rr i)), ia (rA 6) (rK9 6) 28 vv]) hP hD rfl hS hA [0, 1, 2, 3, 4, 5, 6] (by decide +kernel) rfl
            have hK9 := hK.sub (tys' := []) [] rfl
            refine W.widen (k := 0) (n := 0) (by exact Nat.le_of_ble_eq_true rfl) (by exact Nat.le_of_ble_eq_true rfl) ?_
            exact W.iret (v := (-1)) hx hb hr (fun t9 ht9 hW => ⟨⟨(-1), (), rfl, rfl, by rw [ht9]; exact hP9, va_K.moved hW.alike hK9, hD9⟩, hS.F ht9⟩) hS.2.2 d_Ref_action_162
          · skip
            refine tp_pc (pc' := 39) (by rfl) ?_
            refine lv_iload hx hb d_Ref_action_39 (lv_at hl 5 rfl) ?_
            refine lv_bipush (v := 9) hx hb d_Ref_action_41 (by decide) ?_
            refine lv_icmp_gt (tgt := 61) hx hb d_Ref_action_43 (by decide) (fun e2 => ?_) (fun e2 => ?_)
            · skip
              refine tp_pc (pc' := 61) (by rfl) ?_
              refine lv_iconst (v := 0) hx hb d_Ref_action_61 (by decide) ?_
              refine lv_istore (lv' := [(6, .int 0), (0, .ref ra), (1, .int t9x), (2, .int 2), (3, .int x9), (4, .int r9), (5, .int v9)]) hx hb d_Ref_action_62 hl (by decide) rfl ?_
              clear hl ls
              intro ls hl
              refine lv_iload hx hb d_Ref_action_64 (lv_at hl 0 rfl) ?_
              refine lv_if_eq (tgt := 112) hx hb d_Ref_action_66 (by decide) (fun c_56 => ?_) (fun c_56 => absurd c_56 (by decide))
              refine tp_pc (pc' := 112) (by rfl) ?_
              refine lv_iconst (v := 0) hx hb d_Ref_action_112 (by decide) ?_
              refine lv_istore (lv' := [(6, .int 0), (0, .ref ra), (1, .int t9x), (2, .int 2), (3, .int x9), (4, .int r9), (5, .int v9)]) hx hb d_Ref_action_113 hl (by decide) rfl ?_
              clear hl ls
              intro ls hl
              refine lv_iload hx hb d_Ref_action_115 (lv_at hl 0 rfl) ?_
              refine lv_if_eq (tgt := 153) hx hb d_Ref_action_117 (by decide) (fun c_57 => ?_) (fun c_57 => absurd c_57 (by decide))
              refine tp_pc (pc' := 153) (by rfl) ?_
              refine lv_iconst (v := 0) hx hb d_Ref_action_153 (by decide) ?_
              refine lv_istore (lv' := [(6, .int 0), (0, .ref ra), (1, .int t9x), (2, .int 2), (3, .int x9), (4, .int r9), (5, .int v9)]) hx hb d_Ref_action_154 hl (by decide) rfl ?_
              clear hl ls
              intro ls hl
              refine lv_iload hx hb d_Ref_action_156 (lv_at hl 0 rfl) ?_
              refine lv_if_ne (tgt := 163) hx hb d_Ref_action_158 (by decide) (fun c_58 => absurd c_58 (by decide)) (fun c_58 => ?_)
              refine tp_pc (pc' := 161) (by rfl) ?_
              refine lv_iconst (v := (-1)) hx hb d_Ref_action_161 (by decide) ?_
              obtain ⟨hP9, hD9, -⟩ := cut3 (wc := [oc ra 8 [.int (nI T), .int (nI Ac), .ref (rA 2), .ref (rA 3), .ref (rA 4), .ref (rA 5), .ref (rA 6), .ref (rA 7), .ref (rA 8), .ref (rA 9), .ref (rA 10), .ref (rA 11), .ref (rA 12), .ref (rA 13), .int ir, .ref (rA 15), .ref (rA 16), .ref (rA 17), .ref (rA 18), .int (nI md), .int (nI wd), .ref (rA 21), .ref (rA 22), .ref (rA 23), .int (nI mn), .ref (rA 25), .int (nI cb), .int mr, .ref (rA 28), .ref (rA 29), .ref (rA 30), .ref (rA 31), .ref (rA 32), .ref (rA 33), .ref (rA 34), .ref (rA 35), .int (nI ld), .int (nI gm), .ref (rA 38), .ref (rA 39), .ref (rA 40), .ref (rA 41), .ref (rA 42), .ref (rA 43), .ref (rA 44), .ref (rA 45), .int (nI my), .ref (rA 47)], ia (rA 7) (rK9 7) 8 ff, ia (rA 2) (rK9 2) 4 (fun i => nI (zs i)), ia (rA 3) (rK9 3) 28 (fun i => nI (kd i)), ia (rA 4) (rK9 4) 28 (fun i => nI (vx i)), ia (rA 5) (rK9 5) 28 (fun i => nI (rr i)), ia (rA 6) (rK9 6) 28 vv]) hP hD rfl hS hA [0, 1, 2, 3, 4, 5, 6] (by decide +kernel) rfl
              have hK9 := hK.sub (tys' := []) [] rfl
              refine W.widen (k := 0) (n := 0) (by exact Nat.le_of_ble_eq_true rfl) (by exact Nat.le_of_ble_eq_true rfl) ?_
              exact W.iret (v := (-1)) hx hb hr (fun t9 ht9 hW => ⟨⟨(-1), (), rfl, rfl, by rw [ht9]; exact hP9, va_K.moved hW.alike hK9, hD9⟩, hS.F ht9⟩) hS.2.2 d_Ref_action_162
            · skip
              refine tp_pc (pc' := 46) (by rfl) ?_
              refine lv_iload hx hb d_Ref_action_46 (lv_at hl 4 rfl) ?_
              refine lv_if_lt (tgt := 61) hx hb d_Ref_action_48 (by decide) (fun e3 => ?_) (fun e3 => ?_)
              · skip
                refine tp_pc (pc' := 61) (by rfl) ?_
                refine lv_iconst (v := 0) hx hb d_Ref_action_61 (by decide) ?_
                refine lv_istore (lv' := [(6, .int 0), (0, .ref ra), (1, .int t9x), (2, .int 2), (3, .int x9), (4, .int r9), (5, .int v9)]) hx hb d_Ref_action_62 hl (by decide) rfl ?_
                clear hl ls
                intro ls hl
                refine lv_iload hx hb d_Ref_action_64 (lv_at hl 0 rfl) ?_
                refine lv_if_eq (tgt := 112) hx hb d_Ref_action_66 (by decide) (fun c_59 => ?_) (fun c_59 => absurd c_59 (by decide))
                refine tp_pc (pc' := 112) (by rfl) ?_
                refine lv_iconst (v := 0) hx hb d_Ref_action_112 (by decide) ?_
                refine lv_istore (lv' := [(6, .int 0), (0, .ref ra), (1, .int t9x), (2, .int 2), (3, .int x9), (4, .int r9), (5, .int v9)]) hx hb d_Ref_action_113 hl (by decide) rfl ?_
                clear hl ls
                intro ls hl
                refine lv_iload hx hb d_Ref_action_115 (lv_at hl 0 rfl) ?_
                refine lv_if_eq (tgt := 153) hx hb d_Ref_action_117 (by decide) (fun c_60 => ?_) (fun c_60 => absurd c_60 (by decide))
                refine tp_pc (pc' := 153) (by rfl) ?_
                refine lv_iconst (v := 0) hx hb d_Ref_action_153 (by decide) ?_
                refine lv_istore (lv' := [(6, .int 0), (0, .ref ra), (1, .int t9x), (2, .int 2), (3, .int x9), (4, .int r9), (5, .int v9)]) hx hb d_Ref_action_154 hl (by decide) rfl ?_
                clear hl ls
                intro ls hl
                refine lv_iload hx hb d_Ref_action_156 (lv_at hl 0 rfl) ?_
                refine lv_if_ne (tgt := 163) hx hb d_Ref_action_158 (by decide) (fun c_61 => absurd c_61 (by decide)) (fun c_61 => ?_)
                refine tp_pc (pc' := 161) (by rfl) ?_
                refine lv_iconst (v := (-1)) hx hb d_Ref_action_161 (by decide) ?_
                obtain ⟨hP9, hD9, -⟩ := cut3 (wc := [oc ra 8 [.int (nI T), .int (nI Ac), .ref (rA 2), .ref (rA 3), .ref (rA 4), .ref (rA 5), .ref (rA 6), .ref (rA 7), .ref (rA 8), .ref (rA 9), .ref (rA 10), .ref (rA 11), .ref (rA 12), .ref (rA 13), .int ir, .ref (rA 15), .ref (rA 16), .ref (rA 17), .ref (rA 18), .int (nI md), .int (nI wd), .ref (rA 21), .ref (rA 22), .ref (rA 23), .int (nI mn), .ref (rA 25), .int (nI cb), .int mr, .ref (rA 28), .ref (rA 29), .ref (rA 30), .ref (rA 31), .ref (rA 32), .ref (rA 33), .ref (rA 34), .ref (rA 35), .int (nI ld), .int (nI gm), .ref (rA 38), .ref (rA 39), .ref (rA 40), .ref (rA 41), .ref (rA 42), .ref (rA 43), .ref (rA 44), .ref (rA 45), .int (nI my), .ref (rA 47)], ia (rA 7) (rK9 7) 8 ff, ia (rA 2) (rK9 2) 4 (fun i => nI (zs i)), ia (rA 3) (rK9 3) 28 (fun i => nI (kd i)), ia (rA 4) (rK9 4) 28 (fun i => nI (vx i)), ia (rA 5) (rK9 5) 28 (fun i => nI (rr i)), ia (rA 6) (rK9 6) 28 vv]) hP hD rfl hS hA [0, 1, 2, 3, 4, 5, 6] (by decide +kernel) rfl
                have hK9 := hK.sub (tys' := []) [] rfl
                refine W.widen (k := 0) (n := 0) (by exact Nat.le_of_ble_eq_true rfl) (by exact Nat.le_of_ble_eq_true rfl) ?_
                exact W.iret (v := (-1)) hx hb hr (fun t9 ht9 hW => ⟨⟨(-1), (), rfl, rfl, by rw [ht9]; exact hP9, va_K.moved hW.alike hK9, hD9⟩, hS.F ht9⟩) hS.2.2 d_Ref_action_162
              · skip
                refine tp_pc (pc' := 51) (by rfl) ?_
                refine lv_iload hx hb d_Ref_action_51 (lv_at hl 4 rfl) ?_
                refine lv_iconst (v := 1) hx hb d_Ref_action_53 (by decide) ?_
                refine lv_icmp_gt (tgt := 61) hx hb d_Ref_action_54 (by decide) (fun e4 => ?_) (fun e4 => ?_)
                · skip
                  refine tp_pc (pc' := 61) (by rfl) ?_
                  refine lv_iconst (v := 0) hx hb d_Ref_action_61 (by decide) ?_
                  refine lv_istore (lv' := [(6, .int 0), (0, .ref ra), (1, .int t9x), (2, .int 2), (3, .int x9), (4, .int r9), (5, .int v9)]) hx hb d_Ref_action_62 hl (by decide) rfl ?_
                  clear hl ls
                  intro ls hl
                  refine lv_iload hx hb d_Ref_action_64 (lv_at hl 0 rfl) ?_
                  refine lv_if_eq (tgt := 112) hx hb d_Ref_action_66 (by decide) (fun c_62 => ?_) (fun c_62 => absurd c_62 (by decide))
                  refine tp_pc (pc' := 112) (by rfl) ?_
                  refine lv_iconst (v := 0) hx hb d_Ref_action_112 (by decide) ?_
                  refine lv_istore (lv' := [(6, .int 0), (0, .ref ra), (1, .int t9x), (2, .int 2), (3, .int x9), (4, .int r9), (5, .int v9)]) hx hb d_Ref_action_113 hl (by decide) rfl ?_
                  clear hl ls
                  intro ls hl
                  refine lv_iload hx hb d_Ref_action_115 (lv_at hl 0 rfl) ?_
                  refine lv_if_eq (tgt := 153) hx hb d_Ref_action_117 (by decide) (fun c_63 => ?_) (fun c_63 => absurd c_63 (by decide))
                  refine tp_pc (pc' := 153) (by rfl) ?_
                  refine lv_iconst (v := 0) hx hb d_Ref_action_153 (by decide) ?_
                  refine lv_istore (lv' := [(6, .int 0), (0, .ref ra), (1, .int t9x), (2, .int 2), (3, .int x9), (4, .int r9), (5, .int v9)]) hx hb d_Ref_action_154 hl (by decide) rfl ?_
                  clear hl ls
                  intro ls hl
                  refine lv_iload hx hb d_Ref_action_156 (lv_at hl 0 rfl) ?_
                  refine lv_if_ne (tgt := 163) hx hb d_Ref_action_158 (by decide) (fun c_64 => absurd c_64 (by decide)) (fun c_64 => ?_)
                  refine tp_pc (pc' := 161) (by rfl) ?_
                  refine lv_iconst (v := (-1)) hx hb d_Ref_action_161 (by decide) ?_
                  obtain ⟨hP9, hD9, -⟩ := cut3 (wc := [oc ra 8 [.int (nI T), .int (nI Ac), .ref (rA 2), .ref (rA 3), .ref (rA 4), .ref (rA 5), .ref (rA 6), .ref (rA 7), .ref (rA 8), .ref (rA 9), .ref (rA 10), .ref (rA 11), .ref (rA 12), .ref (rA 13), .int ir, .ref (rA 15), .ref (rA 16), .ref (rA 17), .ref (rA 18), .int (nI md), .int (nI wd), .ref (rA 21), .ref (rA 22), .ref (rA 23), .int (nI mn), .ref (rA 25), .int (nI cb), .int mr, .ref (rA 28), .ref (rA 29), .ref (rA 30), .ref (rA 31), .ref (rA 32), .ref (rA 33), .ref (rA 34), .ref (rA 35), .int (nI ld), .int (nI gm), .ref (rA 38), .ref (rA 39), .ref (rA 40), .ref (rA 41), .ref (rA 42), .ref (rA 43), .ref (rA 44), .ref (rA 45), .int (nI my), .ref (rA 47)], ia (rA 7) (rK9 7) 8 ff, ia (rA 2) (rK9 2) 4 (fun i => nI (zs i)), ia (rA 3) (rK9 3) 28 (fun i => nI (kd i)), ia (rA 4) (rK9 4) 28 (fun i => nI (vx i)), ia (rA 5) (rK9 5) 28 (fun i => nI (rr i)), ia (rA 6) (rK9 6) 28 vv]) hP hD rfl hS hA [0, 1, 2, 3, 4, 5, 6] (by decide +kernel) rfl
                  have hK9 := hK.sub (tys' := []) [] rfl
                  refine W.widen (k := 0) (n := 0) (by exact Nat.le_of_ble_eq_true rfl) (by exact Nat.le_of_ble_eq_true rfl) ?_
                  exact W.iret (v := (-1)) hx hb hr (fun t9 ht9 hW => ⟨⟨(-1), (), rfl, rfl, by rw [ht9]; exact hP9, va_K.moved hW.alike hK9, hD9⟩, hS.F ht9⟩) hS.2.2 d_Ref_action_162
                · skip
                  refine tp_pc (pc' := 57) (by rfl) ?_
                  refine lv_iconst (v := 1) hx hb d_Ref_action_57 (by decide) ?_
                  refine lv_goto (tgt := 62) hx hb d_Ref_action_58 (by decide) ?_
                  refine tp_pc (pc' := 62) (by rfl) ?_
                  refine lv_istore (lv' := [(6, .int 1), (0, .ref ra), (1, .int t9x), (2, .int 2), (3, .int x9), (4, .int r9), (5, .int v9)]) hx hb d_Ref_action_62 hl (by decide) rfl ?_
                  clear hl ls
                  intro ls hl
                  refine lv_iload hx hb d_Ref_action_64 (lv_at hl 0 rfl) ?_
                  refine lv_if_eq (tgt := 112) hx hb d_Ref_action_66 (by decide) (fun c_65 => absurd c_65 (by decide)) (fun c_65 => ?_)
                  refine tp_pc (pc' := 69) (by rfl) ?_
                  refine lv_iload_n hx hb d_Ref_action_69 rfl (lv_at hl 3 rfl) ?_
                  refine lv_iconst (v := 5) hx hb d_Ref_action_70 (by decide) ?_
                  refine lv_icmp_ne (tgt := 87) hx hb d_Ref_action_71 (by decide) (fun c_66 => ?_) (fun c_66 => absurd c_66 (by decide))
                  refine tp_pc (pc' := 87) (by rfl) ?_
                  refine lv_iload_n hx hb d_Ref_action_87 rfl (lv_at hl 3 rfl) ?_
                  refine lv_iconst (v := 4) hx hb d_Ref_action_88 (by decide) ?_
                  refine lv_icmp_ne (tgt := 99) hx hb d_Ref_action_89 (by decide) (fun c_67 => ?_) (fun c_67 => absurd c_67 (by decide))
                  refine tp_pc (pc' := 99) (by rfl) ?_
                  refine lv_iload_n hx hb d_Ref_action_99 rfl (lv_at hl 4 rfl) ?_
                  refine lv_if_lt (tgt := 112) hx hb d_Ref_action_100 (by decide) (fun f1 => ?_) (fun f1 => ?_)
                  · skip
                    refine tp_pc (pc' := 112) (by rfl) ?_
                    refine lv_iconst (v := 0) hx hb d_Ref_action_112 (by decide) ?_
                    refine lv_istore (lv' := [(6, .int 0), (0, .ref ra), (1, .int t9x), (2, .int 2), (3, .int x9), (4, .int r9), (5, .int v9)]) hx hb d_Ref_action_113 hl (by decide) rfl ?_
                    clear hl ls
                    intro ls hl
                    refine lv_iload hx hb d_Ref_action_115 (lv_at hl 0 rfl) ?_
                    refine lv_if_eq (tgt := 153) hx hb d_Ref_action_117 (by decide) (fun c_68 => ?_) (fun c_68 => absurd c_68 (by decide))
                    refine tp_pc (pc' := 153) (by rfl) ?_
                    refine lv_iconst (v := 0) hx hb d_Ref_action_153 (by decide) ?_
                    refine lv_istore (lv' := [(6, .int 0), (0, .ref ra), (1, .int t9x), (2, .int 2), (3, .int x9), (4, .int r9), (5, .int v9)]) hx hb d_Ref_action_154 hl (by decide) rfl ?_
                    clear hl ls
                    intro ls hl
                    refine lv_iload hx hb d_Ref_action_156 (lv_at hl 0 rfl) ?_
                    refine lv_if_ne (tgt := 163) hx hb d_Ref_action_158 (by decide) (fun c_69 => absurd c_69 (by decide)) (fun c_69 => ?_)
                    refine tp_pc (pc' := 161) (by rfl) ?_
                    refine lv_iconst (v := (-1)) hx hb d_Ref_action_161 (by decide) ?_
                    obtain ⟨hP9, hD9, -⟩ := cut3 (wc := [oc ra 8 [.int (nI T), .int (nI Ac), .ref (rA 2), .ref (rA 3), .ref (rA 4), .ref (rA 5), .ref (rA 6), .ref (rA 7), .ref (rA 8), .ref (rA 9), .ref (rA 10), .ref (rA 11), .ref (rA 12), .ref (rA 13), .int ir, .ref (rA 15), .ref (rA 16), .ref (rA 17), .ref (rA 18), .int (nI md), .int (nI wd), .ref (rA 21), .ref (rA 22), .ref (rA 23), .int (nI mn), .ref (rA 25), .int (nI cb), .int mr, .ref (rA 28), .ref (rA 29), .ref (rA 30), .ref (rA 31), .ref (rA 32), .ref (rA 33), .ref (rA 34), .ref (rA 35), .int (nI ld), .int (nI gm), .ref (rA 38), .ref (rA 39), .ref (rA 40), .ref (rA 41), .ref (rA 42), .ref (rA 43), .ref (rA 44), .ref (rA 45), .int (nI my), .ref (rA 47)], ia (rA 7) (rK9 7) 8 ff, ia (rA 2) (rK9 2) 4 (fun i => nI (zs i)), ia (rA 3) (rK9 3) 28 (fun i => nI (kd i)), ia (rA 4) (rK9 4) 28 (fun i => nI (vx i)), ia (rA 5) (rK9 5) 28 (fun i => nI (rr i)), ia (rA 6) (rK9 6) 28 vv]) hP hD rfl hS hA [0, 1, 2, 3, 4, 5, 6] (by decide +kernel) rfl
                    have hK9 := hK.sub (tys' := []) [] rfl
                    refine W.widen (k := 0) (n := 0) (by exact Nat.le_of_ble_eq_true rfl) (by exact Nat.le_of_ble_eq_true rfl) ?_
                    exact W.iret (v := (-1)) hx hb hr (fun t9 ht9 hW => ⟨⟨(-1), (), rfl, rfl, by rw [ht9]; exact hP9, va_K.moved hW.alike hK9, hD9⟩, hS.F ht9⟩) hS.2.2 d_Ref_action_162
                  · skip
                    refine tp_pc (pc' := 103) (by rfl) ?_
                    refine lv_iload_n hx hb d_Ref_action_103 rfl (lv_at hl 4 rfl) ?_
                    refine lv_iconst (v := 2) hx hb d_Ref_action_104 (by decide) ?_
                    refine lv_icmp_gt (tgt := 112) hx hb d_Ref_action_105 (by decide) (fun f2 => ?_) (fun f2 => ?_)
                    · skip
                      refine tp_pc (pc' := 112) (by rfl) ?_
                      refine lv_iconst (v := 0) hx hb d_Ref_action_112 (by decide) ?_
                      refine lv_istore (lv' := [(6, .int 0), (0, .ref ra), (1, .int t9x), (2, .int 2), (3, .int x9), (4, .int r9), (5, .int v9)]) hx hb d_Ref_action_113 hl (by decide) rfl ?_
                      clear hl ls
                      intro ls hl
                      refine lv_iload hx hb d_Ref_action_115 (lv_at hl 0 rfl) ?_
                      refine lv_if_eq (tgt := 153) hx hb d_Ref_action_117 (by decide) (fun c_70 => ?_) (fun c_70 => absurd c_70 (by decide))
                      refine tp_pc (pc' := 153) (by rfl) ?_
                      refine lv_iconst (v := 0) hx hb d_Ref_action_153 (by decide) ?_
                      refine lv_istore (lv' := [(6, .int 0), (0, .ref ra), (1, .int t9x), (2, .int 2), (3, .int x9), (4, .int r9), (5, .int v9)]) hx hb d_Ref_action_154 hl (by decide) rfl ?_
                      clear hl ls
                      intro ls hl
                      refine lv_iload hx hb d_Ref_action_156 (lv_at hl 0 rfl) ?_
                      refine lv_if_ne (tgt := 163) hx hb d_Ref_action_158 (by decide) (fun c_71 => absurd c_71 (by decide)) (fun c_71 => ?_)
                      refine tp_pc (pc' := 161) (by rfl) ?_
                      refine lv_iconst (v := (-1)) hx hb d_Ref_action_161 (by decide) ?_
                      obtain ⟨hP9, hD9, -⟩ := cut3 (wc := [oc ra 8 [.int (nI T), .int (nI Ac), .ref (rA 2), .ref (rA 3), .ref (rA 4), .ref (rA 5), .ref (rA 6), .ref (rA 7), .ref (rA 8), .ref (rA 9), .ref (rA 10), .ref (rA 11), .ref (rA 12), .ref (rA 13), .int ir, .ref (rA 15), .ref (rA 16), .ref (rA 17), .ref (rA 18), .int (nI md), .int (nI wd), .ref (rA 21), .ref (rA 22), .ref (rA 23), .int (nI mn), .ref (rA 25), .int (nI cb), .int mr, .ref (rA 28), .ref (rA 29), .ref (rA 30), .ref (rA 31), .ref (rA 32), .ref (rA 33), .ref (rA 34), .ref (rA 35), .int (nI ld), .int (nI gm), .ref (rA 38), .ref (rA 39), .ref (rA 40), .ref (rA 41), .ref (rA 42), .ref (rA 43), .ref (rA 44), .ref (rA 45), .int (nI my), .ref (rA 47)], ia (rA 7) (rK9 7) 8 ff, ia (rA 2) (rK9 2) 4 (fun i => nI (zs i)), ia (rA 3) (rK9 3) 28 (fun i => nI (kd i)), ia (rA 4) (rK9 4) 28 (fun i => nI (vx i)), ia (rA 5) (rK9 5) 28 (fun i => nI (rr i)), ia (rA 6) (rK9 6) 28 vv]) hP hD rfl hS hA [0, 1, 2, 3, 4, 5, 6] (by decide +kernel) rfl
                      have hK9 := hK.sub (tys' := []) [] rfl
                      refine W.widen (k := 0) (n := 0) (by exact Nat.le_of_ble_eq_true rfl) (by exact Nat.le_of_ble_eq_true rfl) ?_
                      exact W.iret (v := (-1)) hx hb hr (fun t9 ht9 hW => ⟨⟨(-1), (), rfl, rfl, by rw [ht9]; exact hP9, va_K.moved hW.alike hK9, hD9⟩, hS.F ht9⟩) hS.2.2 d_Ref_action_162
                    · skip
                      exact absurd hno (by rintro (h | h | h | h); (exact c1 h); (exact c2 h); (exact hc3 h); (exact h (actP_2.mpr ⟨⟨f1, fun q => f2 (gt2.mpr q)⟩, ⟨e3, fun q => e4 (gt1.mpr q)⟩, ⟨e1, e2⟩⟩)))
        · skip
          have hc3 : Ac = 7 := (nI_eq (a := Ac) (b := 7) (by omega) (by omega)).mp c3
          refine tp_pc (pc' := 30) (by rfl) ?_
          refine lv_iconst (v := (-1)) hx hb d_Ref_action_30 (by decide) ?_
          obtain ⟨hP9, hD9, -⟩ := cut3 (wc := [oc ra 8 [.int (nI T), .int (nI Ac), .ref (rA 2), .ref (rA 3), .ref (rA 4), .ref (rA 5), .ref (rA 6), .ref (rA 7), .ref (rA 8), .ref (rA 9), .ref (rA 10), .ref (rA 11), .ref (rA 12), .ref (rA 13), .int ir, .ref (rA 15), .ref (rA 16), .ref (rA 17), .ref (rA 18), .int (nI md), .int (nI wd), .ref (rA 21), .ref (rA 22), .ref (rA 23), .int (nI mn), .ref (rA 25), .int (nI cb), .int mr, .ref (rA 28), .ref (rA 29), .ref (rA 30), .ref (rA 31), .ref (rA 32), .ref (rA 33), .ref (rA 34), .ref (rA 35), .int (nI ld), .int (nI gm), .ref (rA 38), .ref (rA 39), .ref (rA 40), .ref (rA 41), .ref (rA 42), .ref (rA 43), .ref (rA 44), .ref (rA 45), .int (nI my), .ref (rA 47)], ia (rA 7) (rK9 7) 8 ff, ia (rA 2) (rK9 2) 4 (fun i => nI (zs i)), ia (rA 3) (rK9 3) 28 (fun i => nI (kd i)), ia (rA 4) (rK9 4) 28 (fun i => nI (vx i)), ia (rA 5) (rK9 5) 28 (fun i => nI (rr i)), ia (rA 6) (rK9 6) 28 vv]) hP hD rfl hS hA [0, 1, 2, 3, 4, 5, 6] (by decide +kernel) rfl
          have hK9 := hK.sub (tys' := []) [] rfl
          refine W.widen (k := 0) (n := 0) (by exact Nat.le_of_ble_eq_true rfl) (by exact Nat.le_of_ble_eq_true rfl) ?_
          exact W.iret (v := (-1)) hx hb hr (fun t9 ht9 hW => ⟨⟨(-1), (), rfl, rfl, by rw [ht9]; exact hP9, va_K.moved hW.alike hK9, hD9⟩, hS.F ht9⟩) hS.2.2 d_Ref_action_31
      by_cases hk3 : k9 = 3
      · skip
        subst hk3
        replace hl : lv_has ls 8 [(0, .ref ra), (1, .int t9x), (2, .int 3), (3, .int x9), (4, .int r9), (5, .int v9)] := hl
        refine tp_pc (pc' := 12) (by rfl) ?_
        refine lv_iload_n hx hb d_Ref_action_12 rfl (lv_at hl 2 rfl) ?_
        refine lv_if_lt (tgt := 30) hx hb d_Ref_action_13 (by decide) (fun c_72 => absurd c_72 (by decide)) (fun c_72 => ?_)
        refine tp_pc (pc' := 16) (by rfl) ?_
        refine lv_iload_n hx hb d_Ref_action_16 rfl (lv_at hl 2 rfl) ?_
        refine lv_iconst (v := 5) hx hb d_Ref_action_17 (by decide) ?_
        refine lv_icmp_gt (tgt := 30) hx hb d_Ref_action_18 (by decide) (fun c_73 => absurd c_73 (by decide)) (fun c_73 => ?_)
        refine tp_pc (pc' := 21) (by rfl) ?_
        refine lv_aload_n hx hb d_Ref_action_21 rfl (lv_at hl 0 rfl) ?_
        refine va_get (D := (dC, dI)) (ci := 8) (v := .int (nI Ac)) (C := R_Ref) (T := F_Ref) (N := 48) hx hb hw i_Ref hown hK hP 0 rfl rfl 1 (by decide) (hw _ m_900) (fun _ h9 => h9) rfl d_Ref_action_22 ?_
        refine lv_bipush (v := 7) hx hb d_Ref_action_25 (by decide) ?_
        refine lv_icmp_ne (tgt := 32) hx hb d_Ref_action_27 (by decide) (fun c3 => ?_) (fun c3 => ?_)
        · skip
          have hc3 : ¬ (Ac = 7) := fun q9 => c3 ((nI_eq (a := Ac) (b := 7) (by omega) (by omega)).mpr q9)
          refine tp_pc (pc' := 32) (by rfl) ?_
          refine lv_iload hx hb d_Ref_action_32 (lv_at hl 5 rfl) ?_
          refine lv_bipush (v := (-9)) hx hb d_Ref_action_34 (by decide) ?_
          refine lv_icmp_lt (tgt := 61) hx hb d_Ref_action_36 (by decide) (fun e1 => ?_) (fun e1 => ?_)
          · skip
            refine tp_pc (pc' := 61) (by rfl) ?_
            refine lv_iconst (v := 0) hx hb d_Ref_action_61 (by decide) ?_
            refine lv_istore (lv' := [(6, .int 0), (0, .ref ra), (1, .int t9x), (2, .int 3), (3, .int x9), (4, .int r9), (5, .int v9)]) hx hb d_Ref_action_62 hl (by decide) rfl ?_
            clear hl ls
            intro ls hl
            refine lv_iload hx hb d_Ref_action_64 (lv_at hl 0 rfl) ?_
            refine lv_if_eq (tgt := 112) hx hb d_Ref_action_66 (by decide) (fun c_74 => ?_) (fun c_74 => absurd c_74 (by decide))
            refine tp_pc (pc' := 112) (by rfl) ?_
            refine lv_iconst (v := 0) hx hb d_Ref_action_112 (by decide) ?_
            refine lv_istore (lv' := [(6, .int 0), (0, .ref ra), (1, .int t9x), (2, .int 3), (3, .int x9), (4, .int r9), (5, .int v9)]) hx hb d_Ref_action_113 hl (by decide) rfl ?_
            clear hl ls
            intro ls hl
            refine lv_iload hx hb d_Ref_action_115 (lv_at hl 0 rfl) ?_
            refine lv_if_eq (tgt := 153) hx hb d_Ref_action_117 (by decide) (fun c_75 => ?_) (fun c_75 => absurd c_75 (by decide))
            refine tp_pc (pc' := 153) (by rfl) ?_
            refine lv_iconst (v := 0) hx hb d_Ref_action_153 (by decide) ?_
            refine lv_istore (lv' := [(6, .int 0), (0, .ref ra), (1, .int t9x), (2, .int 3), (3, .int x9), (4, .int r9), (5, .int v9)]) hx hb d_Ref_action_154 hl (by decide) rfl ?_
            clear hl ls
            intro ls hl
            refine lv_iload hx hb d_Ref_action_156 (lv_at hl 0 rfl) ?_
            refine lv_if_ne (tgt := 163) hx hb d_Ref_action_158 (by decide) (fun c_76 => absurd c_76 (by decide)) (fun c_76 => ?_)
            refine tp_pc (pc' := 161) (by rfl) ?_
            refine lv_iconst (v := (-1)) hx hb d_Ref_action_161 (by decide) ?_
            obtain ⟨hP9, hD9, -⟩ := cut3 (wc := [oc ra 8 [.int (nI T), .int (nI Ac), .ref (rA 2), .ref (rA 3), .ref (rA 4), .ref (rA 5), .ref (rA 6), .ref (rA 7), .ref (rA 8), .ref (rA 9), .ref (rA 10), .ref (rA 11), .ref (rA 12), .ref (rA 13), .int ir, .ref (rA 15), .ref (rA 16), .ref (rA 17), .ref (rA 18), .int (nI md), .int (nI wd), .ref (rA 21), .ref (rA 22), .ref (rA 23), .int (nI mn), .ref (rA 25), .int (nI cb), .int mr, .ref (rA 28), .ref (rA 29), .ref (rA 30), .ref (rA 31), .ref (rA 32), .ref (rA 33), .ref (rA 34), .ref (rA 35), .int (nI ld), .int (nI gm), .ref (rA 38), .ref (rA 39), .ref (rA 40), .ref (rA 41), .ref (rA 42), .ref (rA 43), .ref (rA 44), .ref (rA 45), .int (nI my), .ref (rA 47)], ia (rA 7) (rK9 7) 8 ff, ia (rA 2) (rK9 2) 4 (fun i => nI (zs i)), ia (rA 3) (rK9 3) 28 (fun i => nI (kd i)), ia (rA 4) (rK9 4) 28 (fun i => nI (vx i)), ia (rA 5) (rK9 5) 28 (fun i => nI (rr i)), ia (rA 6) (rK9 6) 28 vv]) hP hD rfl hS hA [0, 1, 2, 3, 4, 5, 6] (by decide +kernel) rfl
            have hK9 := hK.sub (tys' := []) [] rfl
            refine W.widen (k := 0) (n := 0) (by exact Nat.le_of_ble_eq_true rfl) (by exact Nat.le_of_ble_eq_true rfl) ?_
            exact W.iret (v := (-1)) hx hb hr (fun t9 ht9 hW => ⟨⟨(-1), (), rfl, rfl, by rw [ht9]; exact hP9, va_K.moved hW.alike hK9, hD9⟩, hS.F ht9⟩) hS.2.2 d_Ref_action_162
          · skip
            refine tp_pc (pc' := 39) (by rfl) ?_
            refine lv_iload hx hb d_Ref_action_39 (lv_at hl 5 rfl) ?_
            refine lv_bipush (v := 9) hx hb d_Ref_action_41 (by decide) ?_
            refine lv_icmp_gt (tgt := 61) hx hb d_Ref_action_43 (by decide) (fun e2 => ?_) (fun e2 => ?_)
            · skip
              refine tp_pc (pc' := 61) (by rfl) ?_
              refine lv_iconst (v := 0) hx hb d_Ref_action_61 (by decide) ?_
              refine lv_istore (lv' := [(6, .int 0), (0, .ref ra), (1, .int t9x), (2, .int 3), (3, .int x9), (4, .int r9), (5, .int v9)]) hx hb d_Ref_action_62 hl (by decide) rfl ?_
              clear hl ls
              intro ls hl
              refine lv_iload hx hb d_Ref_action_64 (lv_at hl 0 rfl) ?_
              refine lv_if_eq (tgt := 112) hx hb d_Ref_action_66 (by decide) (fun c_77 => ?_) (fun c_77 => absurd c_77 (by decide))
              refine tp_pc (pc' := 112) (by rfl) ?_
              refine lv_iconst (v := 0) hx hb d_Ref_action_112 (by decide) ?_
              refine lv_istore (lv' := [(6, .int 0), (0, .ref ra), (1, .int t9x), (2, .int 3), (3, .int x9), (4, .int r9), (5, .int v9)]) hx hb d_Ref_action_113 hl (by decide) rfl ?_
              clear hl ls
              intro ls hl
              refine lv_iload hx hb d_Ref_action_115 (lv_at hl 0 rfl) ?_
              refine lv_if_eq (tgt := 153) hx hb d_Ref_action_117 (by decide) (fun c_78 => ?_) (fun c_78 => absurd c_78 (by decide))
              refine tp_pc (pc' := 153) (by rfl) ?_
              refine lv_iconst (v := 0) hx hb d_Ref_action_153 (by decide) ?_
              refine lv_istore (lv' := [(6, .int 0), (0, .ref ra), (1, .int t9x), (2, .int 3), (3, .int x9), (4, .int r9), (5, .int v9)]) hx hb d_Ref_action_154 hl (by decide) rfl ?_
              clear hl ls
              intro ls hl
              refine lv_iload hx hb d_Ref_action_156 (lv_at hl 0 rfl) ?_
              refine lv_if_ne (tgt := 163) hx hb d_Ref_action_158 (by decide) (fun c_79 => absurd c_79 (by decide)) (fun c_79 => ?_)
              refine tp_pc (pc' := 161) (by rfl) ?_
              refine lv_iconst (v := (-1)) hx hb d_Ref_action_161 (by decide) ?_
              obtain ⟨hP9, hD9, -⟩ := cut3 (wc := [oc ra 8 [.int (nI T), .int (nI Ac), .ref (rA 2), .ref (rA 3), .ref (rA 4), .ref (rA 5), .ref (rA 6), .ref (rA 7), .ref (rA 8), .ref (rA 9), .ref (rA 10), .ref (rA 11), .ref (rA 12), .ref (rA 13), .int ir, .ref (rA 15), .ref (rA 16), .ref (rA 17), .ref (rA 18), .int (nI md), .int (nI wd), .ref (rA 21), .ref (rA 22), .ref (rA 23), .int (nI mn), .ref (rA 25), .int (nI cb), .int mr, .ref (rA 28), .ref (rA 29), .ref (rA 30), .ref (rA 31), .ref (rA 32), .ref (rA 33), .ref (rA 34), .ref (rA 35), .int (nI ld), .int (nI gm), .ref (rA 38), .ref (rA 39), .ref (rA 40), .ref (rA 41), .ref (rA 42), .ref (rA 43), .ref (rA 44), .ref (rA 45), .int (nI my), .ref (rA 47)], ia (rA 7) (rK9 7) 8 ff, ia (rA 2) (rK9 2) 4 (fun i => nI (zs i)), ia (rA 3) (rK9 3) 28 (fun i => nI (kd i)), ia (rA 4) (rK9 4) 28 (fun i => nI (vx i)), ia (rA 5) (rK9 5) 28 (fun i => nI (rr i)), ia (rA 6) (rK9 6) 28 vv]) hP hD rfl hS hA [0, 1, 2, 3, 4, 5, 6] (by decide +kernel) rfl
              have hK9 := hK.sub (tys' := []) [] rfl
              refine W.widen (k := 0) (n := 0) (by exact Nat.le_of_ble_eq_true rfl) (by exact Nat.le_of_ble_eq_true rfl) ?_
              exact W.iret (v := (-1)) hx hb hr (fun t9 ht9 hW => ⟨⟨(-1), (), rfl, rfl, by rw [ht9]; exact hP9, va_K.moved hW.alike hK9, hD9⟩, hS.F ht9⟩) hS.2.2 d_Ref_action_162
            · skip
              refine tp_pc (pc' := 46) (by rfl) ?_
              refine lv_iload hx hb d_Ref_action_46 (lv_at hl 4 rfl) ?_
              refine lv_if_lt (tgt := 61) hx hb d_Ref_action_48 (by decide) (fun e3 => ?_) (fun e3 => ?_)
              · skip
                refine tp_pc (pc' := 61) (by rfl) ?_
                refine lv_iconst (v := 0) hx hb d_Ref_action_61 (by decide) ?_
                refine lv_istore (lv' := [(6, .int 0), (0, .ref ra), (1, .int t9x), (2, .int 3), (3, .int x9), (4, .int r9), (5, .int v9)]) hx hb d_Ref_action_62 hl (by decide) rfl ?_
                clear hl ls
                intro ls hl
                refine lv_iload hx hb d_Ref_action_64 (lv_at hl 0 rfl) ?_
                refine lv_if_eq (tgt := 112) hx hb d_Ref_action_66 (by decide) (fun c_80 => ?_) (fun c_80 => absurd c_80 (by decide))
                refine tp_pc (pc' := 112) (by rfl) ?_
                refine lv_iconst (v := 0) hx hb d_Ref_action_112 (by decide) ?_
                refine lv_istore (lv' := [(6, .int 0), (0, .ref ra), (1, .int t9x), (2, .int 3), (3, .int x9), (4, .int r9), (5, .int v9)]) hx hb d_Ref_action_113 hl (by decide) rfl ?_
                clear hl ls
                intro ls hl
                refine lv_iload hx hb d_Ref_action_115 (lv_at hl 0 rfl) ?_
                refine lv_if_eq (tgt := 153) hx hb d_Ref_action_117 (by decide) (fun c_81 => ?_) (fun c_81 => absurd c_81 (by decide))
                refine tp_pc (pc' := 153) (by rfl) ?_
                refine lv_iconst (v := 0) hx hb d_Ref_action_153 (by decide) ?_
                refine lv_istore (lv' := [(6, .int 0), (0, .ref ra), (1, .int t9x), (2, .int 3), (3, .int x9), (4, .int r9), (5, .int v9)]) hx hb d_Ref_action_154 hl (by decide) rfl ?_
                clear hl ls
                intro ls hl
                refine lv_iload hx hb d_Ref_action_156 (lv_at hl 0 rfl) ?_
                refine lv_if_ne (tgt := 163) hx hb d_Ref_action_158 (by decide) (fun c_82 => absurd c_82 (by decide)) (fun c_82 => ?_)
                refine tp_pc (pc' := 161) (by rfl) ?_
                refine lv_iconst (v := (-1)) hx hb d_Ref_action_161 (by decide) ?_
                obtain ⟨hP9, hD9, -⟩ := cut3 (wc := [oc ra 8 [.int (nI T), .int (nI Ac), .ref (rA 2), .ref (rA 3), .ref (rA 4), .ref (rA 5), .ref (rA 6), .ref (rA 7), .ref (rA 8), .ref (rA 9), .ref (rA 10), .ref (rA 11), .ref (rA 12), .ref (rA 13), .int ir, .ref (rA 15), .ref (rA 16), .ref (rA 17), .ref (rA 18), .int (nI md), .int (nI wd), .ref (rA 21), .ref (rA 22), .ref (rA 23), .int (nI mn), .ref (rA 25), .int (nI cb), .int mr, .ref (rA 28), .ref (rA 29), .ref (rA 30), .ref (rA 31), .ref (rA 32), .ref (rA 33), .ref (rA 34), .ref (rA 35), .int (nI ld), .int (nI gm), .ref (rA 38), .ref (rA 39), .ref (rA 40), .ref (rA 41), .ref (rA 42), .ref (rA 43), .ref (rA 44), .ref (rA 45), .int (nI my), .ref (rA 47)], ia (rA 7) (rK9 7) 8 ff, ia (rA 2) (rK9 2) 4 (fun i => nI (zs i)), ia (rA 3) (rK9 3) 28 (fun i => nI (kd i)), ia (rA 4) (rK9 4) 28 (fun i => nI (vx i)), ia (rA 5) (rK9 5) 28 (fun i => nI (rr i)), ia (rA 6) (rK9 6) 28 vv]) hP hD rfl hS hA [0, 1, 2, 3, 4, 5, 6] (by decide +kernel) rfl
                have hK9 := hK.sub (tys' := []) [] rfl
                refine W.widen (k := 0) (n := 0) (by exact Nat.le_of_ble_eq_true rfl) (by exact Nat.le_of_ble_eq_true rfl) ?_
                exact W.iret (v := (-1)) hx hb hr (fun t9 ht9 hW => ⟨⟨(-1), (), rfl, rfl, by rw [ht9]; exact hP9, va_K.moved hW.alike hK9, hD9⟩, hS.F ht9⟩) hS.2.2 d_Ref_action_162
              · skip
                refine tp_pc (pc' := 51) (by rfl) ?_
                refine lv_iload hx hb d_Ref_action_51 (lv_at hl 4 rfl) ?_
                refine lv_iconst (v := 1) hx hb d_Ref_action_53 (by decide) ?_
                refine lv_icmp_gt (tgt := 61) hx hb d_Ref_action_54 (by decide) (fun e4 => ?_) (fun e4 => ?_)
                · skip
                  refine tp_pc (pc' := 61) (by rfl) ?_
                  refine lv_iconst (v := 0) hx hb d_Ref_action_61 (by decide) ?_
                  refine lv_istore (lv' := [(6, .int 0), (0, .ref ra), (1, .int t9x), (2, .int 3), (3, .int x9), (4, .int r9), (5, .int v9)]) hx hb d_Ref_action_62 hl (by decide) rfl ?_
                  clear hl ls
                  intro ls hl
                  refine lv_iload hx hb d_Ref_action_64 (lv_at hl 0 rfl) ?_
                  refine lv_if_eq (tgt := 112) hx hb d_Ref_action_66 (by decide) (fun c_83 => ?_) (fun c_83 => absurd c_83 (by decide))
                  refine tp_pc (pc' := 112) (by rfl) ?_
                  refine lv_iconst (v := 0) hx hb d_Ref_action_112 (by decide) ?_
                  refine lv_istore (lv' := [(6, .int 0), (0, .ref ra), (1, .int t9x), (2, .int 3), (3, .int x9), (4, .int r9), (5, .int v9)]) hx hb d_Ref_action_113 hl (by decide) rfl ?_
                  clear hl ls
                  intro ls hl
                  refine lv_iload hx hb d_Ref_action_115 (lv_at hl 0 rfl) ?_
                  refine lv_if_eq (tgt := 153) hx hb d_Ref_action_117 (by decide) (fun c_84 => ?_) (fun c_84 => absurd c_84 (by decide))
                  refine tp_pc (pc' := 153) (by rfl) ?_
                  refine lv_iconst (v := 0) hx hb d_Ref_action_153 (by decide) ?_
                  refine lv_istore (lv' := [(6, .int 0), (0, .ref ra), (1, .int t9x), (2, .int 3), (3, .int x9), (4, .int r9), (5, .int v9)]) hx hb d_Ref_action_154 hl (by decide) rfl ?_
                  clear hl ls
                  intro ls hl
                  refine lv_iload hx hb d_Ref_action_156 (lv_at hl 0 rfl) ?_
                  refine lv_if_ne (tgt := 163) hx hb d_Ref_action_158 (by decide) (fun c_85 => absurd c_85 (by decide)) (fun c_85 => ?_)
                  refine tp_pc (pc' := 161) (by rfl) ?_
                  refine lv_iconst (v := (-1)) hx hb d_Ref_action_161 (by decide) ?_
                  obtain ⟨hP9, hD9, -⟩ := cut3 (wc := [oc ra 8 [.int (nI T), .int (nI Ac), .ref (rA 2), .ref (rA 3), .ref (rA 4), .ref (rA 5), .ref (rA 6), .ref (rA 7), .ref (rA 8), .ref (rA 9), .ref (rA 10), .ref (rA 11), .ref (rA 12), .ref (rA 13), .int ir, .ref (rA 15), .ref (rA 16), .ref (rA 17), .ref (rA 18), .int (nI md), .int (nI wd), .ref (rA 21), .ref (rA 22), .ref (rA 23), .int (nI mn), .ref (rA 25), .int (nI cb), .int mr, .ref (rA 28), .ref (rA 29), .ref (rA 30), .ref (rA 31), .ref (rA 32), .ref (rA 33), .ref (rA 34), .ref (rA 35), .int (nI ld), .int (nI gm), .ref (rA 38), .ref (rA 39), .ref (rA 40), .ref (rA 41), .ref (rA 42), .ref (rA 43), .ref (rA 44), .ref (rA 45), .int (nI my), .ref (rA 47)], ia (rA 7) (rK9 7) 8 ff, ia (rA 2) (rK9 2) 4 (fun i => nI (zs i)), ia (rA 3) (rK9 3) 28 (fun i => nI (kd i)), ia (rA 4) (rK9 4) 28 (fun i => nI (vx i)), ia (rA 5) (rK9 5) 28 (fun i => nI (rr i)), ia (rA 6) (rK9 6) 28 vv]) hP hD rfl hS hA [0, 1, 2, 3, 4, 5, 6] (by decide +kernel) rfl
                  have hK9 := hK.sub (tys' := []) [] rfl
                  refine W.widen (k := 0) (n := 0) (by exact Nat.le_of_ble_eq_true rfl) (by exact Nat.le_of_ble_eq_true rfl) ?_
                  exact W.iret (v := (-1)) hx hb hr (fun t9 ht9 hW => ⟨⟨(-1), (), rfl, rfl, by rw [ht9]; exact hP9, va_K.moved hW.alike hK9, hD9⟩, hS.F ht9⟩) hS.2.2 d_Ref_action_162
                · skip
                  refine tp_pc (pc' := 57) (by rfl) ?_
                  refine lv_iconst (v := 1) hx hb d_Ref_action_57 (by decide) ?_
                  refine lv_goto (tgt := 62) hx hb d_Ref_action_58 (by decide) ?_
                  refine tp_pc (pc' := 62) (by rfl) ?_
                  refine lv_istore (lv' := [(6, .int 1), (0, .ref ra), (1, .int t9x), (2, .int 3), (3, .int x9), (4, .int r9), (5, .int v9)]) hx hb d_Ref_action_62 hl (by decide) rfl ?_
                  clear hl ls
                  intro ls hl
                  refine lv_iload hx hb d_Ref_action_64 (lv_at hl 0 rfl) ?_
                  refine lv_if_eq (tgt := 112) hx hb d_Ref_action_66 (by decide) (fun c_86 => absurd c_86 (by decide)) (fun c_86 => ?_)
                  refine tp_pc (pc' := 69) (by rfl) ?_
                  refine lv_iload_n hx hb d_Ref_action_69 rfl (lv_at hl 3 rfl) ?_
                  refine lv_iconst (v := 5) hx hb d_Ref_action_70 (by decide) ?_
                  refine lv_icmp_ne (tgt := 87) hx hb d_Ref_action_71 (by decide) (fun c_87 => ?_) (fun c_87 => absurd c_87 (by decide))
                  refine tp_pc (pc' := 87) (by rfl) ?_
                  refine lv_iload_n hx hb d_Ref_action_87 rfl (lv_at hl 3 rfl) ?_
                  refine lv_iconst (v := 4) hx hb d_Ref_action_88 (by decide) ?_
                  refine lv_icmp_ne (tgt := 99) hx hb d_Ref_action_89 (by decide) (fun c_88 => ?_) (fun c_88 => absurd c_88 (by decide))
                  refine tp_pc (pc' := 99) (by rfl) ?_
                  refine lv_iload_n hx hb d_Ref_action_99 rfl (lv_at hl 4 rfl) ?_
                  refine lv_if_lt (tgt := 112) hx hb d_Ref_action_100 (by decide) (fun f1 => ?_) (fun f1 => ?_)
                  · skip
                    refine tp_pc (pc' := 112) (by rfl) ?_
                    refine lv_iconst (v := 0) hx hb d_Ref_action_112 (by decide) ?_
                    refine lv_istore (lv' := [(6, .int 0), (0, .ref ra), (1, .int t9x), (2, .int 3), (3, .int x9), (4, .int r9), (5, .int v9)]) hx hb d_Ref_action_113 hl (by decide) rfl ?_
                    clear hl ls
                    intro ls hl
                    refine lv_iload hx hb d_Ref_action_115 (lv_at hl 0 rfl) ?_
                    refine lv_if_eq (tgt := 153) hx hb d_Ref_action_117 (by decide) (fun c_89 => ?_) (fun c_89 => absurd c_89 (by decide))
                    refine tp_pc (pc' := 153) (by rfl) ?_
                    refine lv_iconst (v := 0) hx hb d_Ref_action_153 (by decide) ?_
                    refine lv_istore (lv' := [(6, .int 0), (0, .ref ra), (1, .int t9x), (2, .int 3), (3, .int x9), (4, .int r9), (5, .int v9)]) hx hb d_Ref_action_154 hl (by decide) rfl ?_
                    clear hl ls
                    intro ls hl
                    refine lv_iload hx hb d_Ref_action_156 (lv_at hl 0 rfl) ?_
                    refine lv_if_ne (tgt := 163) hx hb d_Ref_action_158 (by decide) (fun c_90 => absurd c_90 (by decide)) (fun c_90 => ?_)
                    refine tp_pc (pc' := 161) (by rfl) ?_
                    refine lv_iconst (v := (-1)) hx hb d_Ref_action_161 (by decide) ?_
                    obtain ⟨hP9, hD9, -⟩ := cut3 (wc := [oc ra 8 [.int (nI T), .int (nI Ac), .ref (rA 2), .ref (rA 3), .ref (rA 4), .ref (rA 5), .ref (rA 6), .ref (rA 7), .ref (rA 8), .ref (rA 9), .ref (rA 10), .ref (rA 11), .ref (rA 12), .ref (rA 13), .int ir, .ref (rA 15), .ref (rA 16), .ref (rA 17), .ref (rA 18), .int (nI md), .int (nI wd), .ref (rA 21), .ref (rA 22), .ref (rA 23), .int (nI mn), .ref (rA 25), .int (nI cb), .int mr, .ref (rA 28), .ref (rA 29), .ref (rA 30), .ref (rA 31), .ref (rA 32), .ref (rA 33), .ref (rA 34), .ref (rA 35), .int (nI ld), .int (nI gm), .ref (rA 38), .ref (rA 39), .ref (rA 40), .ref (rA 41), .ref (rA 42), .ref (rA 43), .ref (rA 44), .ref (rA 45), .int (nI my), .ref (rA 47)], ia (rA 7) (rK9 7) 8 ff, ia (rA 2) (rK9 2) 4 (fun i => nI (zs i)), ia (rA 3) (rK9 3) 28 (fun i => nI (kd i)), ia (rA 4) (rK9 4) 28 (fun i => nI (vx i)), ia (rA 5) (rK9 5) 28 (fun i => nI (rr i)), ia (rA 6) (rK9 6) 28 vv]) hP hD rfl hS hA [0, 1, 2, 3, 4, 5, 6] (by decide +kernel) rfl
                    have hK9 := hK.sub (tys' := []) [] rfl
                    refine W.widen (k := 0) (n := 0) (by exact Nat.le_of_ble_eq_true rfl) (by exact Nat.le_of_ble_eq_true rfl) ?_
                    exact W.iret (v := (-1)) hx hb hr (fun t9 ht9 hW => ⟨⟨(-1), (), rfl, rfl, by rw [ht9]; exact hP9, va_K.moved hW.alike hK9, hD9⟩, hS.F ht9⟩) hS.2.2 d_Ref_action_162
                  · skip
                    refine tp_pc (pc' := 103) (by rfl) ?_
                    refine lv_iload_n hx hb d_Ref_action_103 rfl (lv_at hl 4 rfl) ?_
                    refine lv_iconst (v := 2) hx hb d_Ref_action_104 (by decide) ?_
                    refine lv_icmp_gt (tgt := 112) hx hb d_Ref_action_105 (by decide) (fun f2 => ?_) (fun f2 => ?_)
                    · skip
                      refine tp_pc (pc' := 112) (by rfl) ?_
                      refine lv_iconst (v := 0) hx hb d_Ref_action_112 (by decide) ?_
                      refine lv_istore (lv' := [(6, .int 0), (0, .ref ra), (1, .int t9x), (2, .int 3), (3, .int x9), (4, .int r9), (5, .int v9)]) hx hb d_Ref_action_113 hl (by decide) rfl ?_
                      clear hl ls
                      intro ls hl
                      refine lv_iload hx hb d_Ref_action_115 (lv_at hl 0 rfl) ?_
                      refine lv_if_eq (tgt := 153) hx hb d_Ref_action_117 (by decide) (fun c_91 => ?_) (fun c_91 => absurd c_91 (by decide))
                      refine tp_pc (pc' := 153) (by rfl) ?_
                      refine lv_iconst (v := 0) hx hb d_Ref_action_153 (by decide) ?_
                      refine lv_istore (lv' := [(6, .int 0), (0, .ref ra), (1, .int t9x), (2, .int 3), (3, .int x9), (4, .int r9), (5, .int v9)]) hx hb d_Ref_action_154 hl (by decide) rfl ?_
                      clear hl ls
                      intro ls hl
                      refine lv_iload hx hb d_Ref_action_156 (lv_at hl 0 rfl) ?_
                      refine lv_if_ne (tgt := 163) hx hb d_Ref_action_158 (by decide) (fun c_92 => absurd c_92 (by decide)) (fun c_92 => ?_)
                      refine tp_pc (pc' := 161) (by rfl) ?_
                      refine lv_iconst (v := (-1)) hx hb d_Ref_action_161 (by decide) ?_
                      obtain ⟨hP9, hD9, -⟩ := cut3 (wc := [oc ra 8 [.int (nI T), .int (nI Ac), .ref (rA 2), .ref (rA 3), .ref (rA 4), .ref (rA 5), .ref (rA 6), .ref (rA 7), .ref (rA 8), .ref (rA 9), .ref (rA 10), .ref (rA 11), .ref (rA 12), .ref (rA 13), .int ir, .ref (rA 15), .ref (rA 16), .ref (rA 17), .ref (rA 18), .int (nI md), .int (nI wd), .ref (rA 21), .ref (rA 22), .ref (rA 23), .int (nI mn), .ref (rA 25), .int (nI cb), .int mr, .ref (rA 28), .ref (rA 29), .ref (rA 30), .ref (rA 31), .ref (rA 32), .ref (rA 33), .ref (rA 34), .ref (rA 35), .int (nI ld), .int (nI gm), .ref (rA 38), .ref (rA 39), .ref (rA 40), .ref (rA 41), .ref (rA 42), .ref (rA 43), .ref (rA 44), .ref (rA 45), .int (nI my), .ref (rA 47)], ia (rA 7) (rK9 7) 8 ff, ia (rA 2) (rK9 2) 4 (fun i => nI (zs i)), ia (rA 3) (rK9 3) 28 (fun i => nI (kd i)), ia (rA 4) (rK9 4) 28 (fun i => nI (vx i)), ia (rA 5) (rK9 5) 28 (fun i => nI (rr i)), ia (rA 6) (rK9 6) 28 vv]) hP hD rfl hS hA [0, 1, 2, 3, 4, 5, 6] (by decide +kernel) rfl
                      have hK9 := hK.sub (tys' := []) [] rfl
                      refine W.widen (k := 0) (n := 0) (by exact Nat.le_of_ble_eq_true rfl) (by exact Nat.le_of_ble_eq_true rfl) ?_
                      exact W.iret (v := (-1)) hx hb hr (fun t9 ht9 hW => ⟨⟨(-1), (), rfl, rfl, by rw [ht9]; exact hP9, va_K.moved hW.alike hK9, hD9⟩, hS.F ht9⟩) hS.2.2 d_Ref_action_162
                    · skip
                      exact absurd hno (by rintro (h | h | h | h); (exact c1 h); (exact c2 h); (exact hc3 h); (exact h (actP_3.mpr ⟨⟨f1, fun q => f2 (gt2.mpr q)⟩, ⟨e3, fun q => e4 (gt1.mpr q)⟩, ⟨e1, e2⟩⟩)))
        · skip
          have hc3 : Ac = 7 := (nI_eq (a := Ac) (b := 7) (by omega) (by omega)).mp c3
          refine tp_pc (pc' := 30) (by rfl) ?_
          refine lv_iconst (v := (-1)) hx hb d_Ref_action_30 (by decide) ?_
          obtain ⟨hP9, hD9, -⟩ := cut3 (wc := [oc ra 8 [.int (nI T), .int (nI Ac), .ref (rA 2), .ref (rA 3), .ref (rA 4), .ref (rA 5), .ref (rA 6), .ref (rA 7), .ref (rA 8), .ref (rA 9), .ref (rA 10), .ref (rA 11), .ref (rA 12), .ref (rA 13), .int ir, .ref (rA 15), .ref (rA 16), .ref (rA 17), .ref (rA 18), .int (nI md), .int (nI wd), .ref (rA 21), .ref (rA 22), .ref (rA 23), .int (nI mn), .ref (rA 25), .int (nI cb), .int mr, .ref (rA 28), .ref (rA 29), .ref (rA 30), .ref (rA 31), .ref (rA 32), .ref (rA 33), .ref (rA 34), .ref (rA 35), .int (nI ld), .int (nI gm), .ref (rA 38), .ref (rA 39), .ref (rA 40), .ref (rA 41), .ref (rA 42), .ref (rA 43), .ref (rA 44), .ref (rA 45), .int (nI my), .ref (rA 47)], ia (rA 7) (rK9 7) 8 ff, ia (rA 2) (rK9 2) 4 (fun i => nI (zs i)), ia (rA 3) (rK9 3) 28 (fun i => nI (kd i)), ia (rA 4) (rK9 4) 28 (fun i => nI (vx i)), ia (rA 5) (rK9 5) 28 (fun i => nI (rr i)), ia (rA 6) (rK9 6) 28 vv]) hP hD rfl hS hA [0, 1, 2, 3, 4, 5, 6] (by decide +kernel) rfl
          have hK9 := hK.sub (tys' := []) [] rfl
          refine W.widen (k := 0) (n := 0) (by exact Nat.le_of_ble_eq_true rfl) (by exact Nat.le_of_ble_eq_true rfl) ?_
          exact W.iret (v := (-1)) hx hb hr (fun t9 ht9 hW => ⟨⟨(-1), (), rfl, rfl, by rw [ht9]; exact hP9, va_K.moved hW.alike hK9, hD9⟩, hS.F ht9⟩) hS.2.2 d_Ref_action_31
      by_cases hk4 : k9 = 4
      · skip
        subst hk4
        replace hl : lv_has ls 8 [(0, .ref ra), (1, .int t9x), (2, .int 4), (3, .int x9), (4, .int r9), (5, .int v9)] := hl
        refine tp_pc (pc' := 12) (by rfl) ?_
        refine lv_iload_n hx hb d_Ref_action_12 rfl (lv_at hl 2 rfl) ?_
        refine lv_if_lt (tgt := 30) hx hb d_Ref_action_13 (by decide) (fun c_93 => absurd c_93 (by decide)) (fun c_93 => ?_)
        refine tp_pc (pc' := 16) (by rfl) ?_
        refine lv_iload_n hx hb d_Ref_action_16 rfl (lv_at hl 2 rfl) ?_
        refine lv_iconst (v := 5) hx hb d_Ref_action_17 (by decide) ?_
        refine lv_icmp_gt (tgt := 30) hx hb d_Ref_action_18 (by decide) (fun c_94 => absurd c_94 (by decide)) (fun c_94 => ?_)
        refine tp_pc (pc' := 21) (by rfl) ?_
        refine lv_aload_n hx hb d_Ref_action_21 rfl (lv_at hl 0 rfl) ?_
        refine va_get (D := (dC, dI)) (ci := 8) (v := .int (nI Ac)) (C := R_Ref) (T := F_Ref) (N := 48) hx hb hw i_Ref hown hK hP 0 rfl rfl 1 (by decide) (hw _ m_900) (fun _ h9 => h9) rfl d_Ref_action_22 ?_
        refine lv_bipush (v := 7) hx hb d_Ref_action_25 (by decide) ?_
        refine lv_icmp_ne (tgt := 32) hx hb d_Ref_action_27 (by decide) (fun c3 => ?_) (fun c3 => ?_)
        · skip
          have hc3 : ¬ (Ac = 7) := fun q9 => c3 ((nI_eq (a := Ac) (b := 7) (by omega) (by omega)).mpr q9)
          refine tp_pc (pc' := 32) (by rfl) ?_
          refine lv_iload hx hb d_Ref_action_32 (lv_at hl 5 rfl) ?_
          refine lv_bipush (v := (-9)) hx hb d_Ref_action_34 (by decide) ?_
          refine lv_icmp_lt (tgt := 61) hx hb d_Ref_action_36 (by decide) (fun e1 => ?_) (fun e1 => ?_)
          · skip
            refine tp_pc (pc' := 61) (by rfl) ?_
            refine lv_iconst (v := 0) hx hb d_Ref_action_61 (by decide) ?_
            refine lv_istore (lv' := [(6, .int 0), (0, .ref ra), (1, .int t9x), (2, .int 4), (3, .int x9), (4, .int r9), (5, .int v9)]) hx hb d_Ref_action_62 hl (by decide) rfl ?_
            clear hl ls
            intro ls hl
            refine lv_iload hx hb d_Ref_action_64 (lv_at hl 0 rfl) ?_
            refine lv_if_eq (tgt := 112) hx hb d_Ref_action_66 (by decide) (fun c_95 => ?_) (fun c_95 => absurd c_95 (by decide))
            refine tp_pc (pc' := 112) (by rfl) ?_
            refine lv_iconst (v := 0) hx hb d_Ref_action_112 (by decide) ?_
            refine lv_istore (lv' := [(6, .int 0), (0, .ref ra), (1, .int t9x), (2, .int 4), (3, .int x9), (4, .int r9), (5, .int v9)]) hx hb d_Ref_action_113 hl (by decide) rfl ?_
            clear hl ls
            intro ls hl
            refine lv_iload hx hb d_Ref_action_115 (lv_at hl 0 rfl) ?_
            refine lv_if_eq (tgt := 153) hx hb d_Ref_action_117 (by decide) (fun c_96 => ?_) (fun c_96 => absurd c_96 (by decide))
            refine tp_pc (pc' := 153) (by rfl) ?_
            refine lv_iconst (v := 0) hx hb d_Ref_action_153 (by decide) ?_
            refine lv_istore (lv' := [(6, .int 0), (0, .ref ra), (1, .int t9x), (2, .int 4), (3, .int x9), (4, .int r9), (5, .int v9)]) hx hb d_Ref_action_154 hl (by decide) rfl ?_
            clear hl ls
            intro ls hl
            refine lv_iload hx hb d_Ref_action_156 (lv_at hl 0 rfl) ?_
            refine lv_if_ne (tgt := 163) hx hb d_Ref_action_158 (by decide) (fun c_97 => absurd c_97 (by decide)) (fun c_97 => ?_)
            refine tp_pc (pc' := 161) (by rfl) ?_
            refine lv_iconst (v := (-1)) hx hb d_Ref_action_161 (by decide) ?_
            obtain ⟨hP9, hD9, -⟩ := cut3 (wc := [oc ra 8 [.int (nI T), .int (nI Ac), .ref (rA 2), .ref (rA 3), .ref (rA 4), .ref (rA 5), .ref (rA 6), .ref (rA 7), .ref (rA 8), .ref (rA 9), .ref (rA 10), .ref (rA 11), .ref (rA 12), .ref (rA 13), .int ir, .ref (rA 15), .ref (rA 16), .ref (rA 17), .ref (rA 18), .int (nI md), .int (nI wd), .ref (rA 21), .ref (rA 22), .ref (rA 23), .int (nI mn), .ref (rA 25), .int (nI cb), .int mr, .ref (rA 28), .ref (rA 29), .ref (rA 30), .ref (rA 31), .ref (rA 32), .ref (rA 33), .ref (rA 34), .ref (rA 35), .int (nI ld), .int (nI gm), .ref (rA 38), .ref (rA 39), .ref (rA 40), .ref (rA 41), .ref (rA 42), .ref (rA 43), .ref (rA 44), .ref (rA 45), .int (nI my), .ref (rA 47)], ia (rA 7) (rK9 7) 8 ff, ia (rA 2) (rK9 2) 4 (fun i => nI (zs i)), ia (rA 3) (rK9 3) 28 (fun i => nI (kd i)), ia (rA 4) (rK9 4) 28 (fun i => nI (vx i)), ia (rA 5) (rK9 5) 28 (fun i => nI (rr i)), ia (rA 6) (rK9 6) 28 vv]) hP hD rfl hS hA [0, 1, 2, 3, 4, 5, 6] (by decide +kernel) rfl
            have hK9 := hK.sub (tys' := []) [] rfl
            refine W.widen (k := 0) (n := 0) (by exact Nat.le_of_ble_eq_true rfl) (by exact Nat.le_of_ble_eq_true rfl) ?_
            exact W.iret (v := (-1)) hx hb hr (fun t9 ht9 hW => ⟨⟨(-1), (), rfl, rfl, by rw [ht9]; exact hP9, va_K.moved hW.alike hK9, hD9⟩, hS.F ht9⟩) hS.2.2 d_Ref_action_162
          · skip
            refine tp_pc (pc' := 39) (by rfl) ?_
            refine lv_iload hx hb d_Ref_action_39 (lv_at hl 5 rfl) ?_
            refine lv_bipush (v := 9) hx hb d_Ref_action_41 (by decide) ?_
            refine lv_icmp_gt (tgt := 61) hx hb d_Ref_action_43 (by decide) (fun e2 => ?_) (fun e2 => ?_)
            · skip
              refine tp_pc (pc' := 61) (by rfl) ?_
              refine lv_iconst (v := 0) hx hb d_Ref_action_61 (by decide) ?_
              refine lv_istore (lv' := [(6, .int 0), (0, .ref ra), (1, .int t9x), (2, .int 4), (3, .int x9), (4, .int r9), (5, .int v9)]) hx hb d_Ref_action_62 hl (by decide) rfl ?_
              clear hl ls
              intro ls hl
              refine lv_iload hx hb d_Ref_action_64 (lv_at hl 0 rfl) ?_
              refine lv_if_eq (tgt := 112) hx hb d_Ref_action_66 (by decide) (fun c_98 => ?_) (fun c_98 => absurd c_98 (by decide))
              refine tp_pc (pc' := 112) (by rfl) ?_
              refine lv_iconst (v := 0) hx hb d_Ref_action_112 (by decide) ?_
              refine lv_istore (lv' := [(6, .int 0), (0, .ref ra), (1, .int t9x), (2, .int 4), (3, .int x9), (4, .int r9), (5, .int v9)]) hx hb d_Ref_action_113 hl (by decide) rfl ?_
              clear hl ls
              intro ls hl
              refine lv_iload hx hb d_Ref_action_115 (lv_at hl 0 rfl) ?_
              refine lv_if_eq (tgt := 153) hx hb d_Ref_action_117 (by decide) (fun c_99 => ?_) (fun c_99 => absurd c_99 (by decide))
              refine tp_pc (pc' := 153) (by rfl) ?_
              refine lv_iconst (v := 0) hx hb d_Ref_action_153 (by decide) ?_
              refine lv_istore (lv' := [(6, .int 0), (0, .ref ra), (1, .int t9x), (2, .int 4), (3, .int x9), (4, .int r9), (5, .int v9)]) hx hb d_Ref_action_154 hl (by decide) rfl ?_
              clear hl ls
              intro ls hl
              refine lv_iload hx hb d_Ref_action_156 (lv_at hl 0 rfl) ?_
              refine lv_if_ne (tgt := 163) hx hb d_Ref_action_158 (by decide) (fun c_100 => absurd c_100 (by decide)) (fun c_100 => ?_)
              refine tp_pc (pc' := 161) (by rfl) ?_
              refine lv_iconst (v := (-1)) hx hb d_Ref_action_161 (by decide) ?_
              obtain ⟨hP9, hD9, -⟩ := cut3 (wc := [oc ra 8 [.int (nI T), .int (nI Ac), .ref (rA 2), .ref (rA 3), .ref (rA 4), .ref (rA 5), .ref (rA 6), .ref (rA 7), .ref (rA 8), .ref (rA 9), .ref (rA 10), .ref (rA 11), .ref (rA 12), .ref (rA 13), .int ir, .ref (rA 15), .ref (rA 16), .ref (rA 17), .ref (rA 18), .int (nI md), .int (nI wd), .ref (rA 21), .ref (rA 22), .ref (rA 23), .int (nI mn), .ref (rA 25), .int (nI cb), .int mr, .ref (rA 28), .ref (rA 29), .ref (rA 30), .ref (rA 31), .ref (rA 32), .ref (rA 33), .ref (rA 34), .ref (rA 35), .int (nI ld), .int (nI gm), .ref (rA 38), .ref (rA 39), .ref (rA 40), .ref (rA 41), .ref (rA 42), .ref (rA 43), .ref (rA 44), .ref (rA 45), .int (nI my), .ref (rA 47)], ia (rA 7) (rK9 7) 8 ff, ia (rA 2) (rK9 2) 4 (fun i => nI (zs i)), ia (rA 3) (rK9 3) 28 (fun i => nI (kd i)), ia (rA 4) (rK9 4) 28 (fun i => nI (vx i)), ia (rA 5) (rK9 5) 28 (fun i => nI (rr i)), ia (rA 6) (rK9 6) 28 vv]) hP hD rfl hS hA [0, 1, 2, 3, 4, 5, 6] (by decide +kernel) rfl
              have hK9 := hK.sub (tys' := []) [] rfl
              refine W.widen (k := 0) (n := 0) (by exact Nat.le_of_ble_eq_true rfl) (by exact Nat.le_of_ble_eq_true rfl) ?_
              exact W.iret (v := (-1)) hx hb hr (fun t9 ht9 hW => ⟨⟨(-1), (), rfl, rfl, by rw [ht9]; exact hP9, va_K.moved hW.alike hK9, hD9⟩, hS.F ht9⟩) hS.2.2 d_Ref_action_162
            · skip
              refine tp_pc (pc' := 46) (by rfl) ?_
              refine lv_iload hx hb d_Ref_action_46 (lv_at hl 4 rfl) ?_
              refine lv_if_lt (tgt := 61) hx hb d_Ref_action_48 (by decide) (fun e3 => ?_) (fun e3 => ?_)
              · skip
                refine tp_pc (pc' := 61) (by rfl) ?_
                refine lv_iconst (v := 0) hx hb d_Ref_action_61 (by decide) ?_
                refine lv_istore (lv' := [(6, .int 0), (0, .ref ra), (1, .int t9x), (2, .int 4), (3, .int x9), (4, .int r9), (5, .int v9)]) hx hb d_Ref_action_62 hl (by decide) rfl ?_
                clear hl ls
                intro ls hl
                refine lv_iload hx hb d_Ref_action_64 (lv_at hl 0 rfl) ?_
                refine lv_if_eq (tgt := 112) hx hb d_Ref_action_66 (by decide) (fun c_101 => ?_) (fun c_101 => absurd c_101 (by decide))
                refine tp_pc (pc' := 112) (by rfl) ?_
                refine lv_iconst (v := 0) hx hb d_Ref_action_112 (by decide) ?_
                refine lv_istore (lv' := [(6, .int 0), (0, .ref ra), (1, .int t9x), (2, .int 4), (3, .int x9), (4, .int r9), (5, .int v9)]) hx hb d_Ref_action_113 hl (by decide) rfl ?_
                clear hl ls
                intro ls hl
                refine lv_iload hx hb d_Ref_action_115 (lv_at hl 0 rfl) ?_
                refine lv_if_eq (tgt := 153) hx hb d_Ref_action_117 (by decide) (fun c_102 => ?_) (fun c_102 => absurd c_102 (by decide))
                refine tp_pc (pc' := 153) (by rfl) ?_
                refine lv_iconst (v := 0) hx hb d_Ref_action_153 (by decide) ?_
                refine lv_istore (lv' := [(6, .int 0), (0, .ref ra), (1, .int t9x), (2, .int 4), (3, .int x9), (4, .int r9), (5, .int v9)]) hx hb d_Ref_action_154 hl (by decide) rfl ?_
                clear hl ls
                intro ls hl
                refine lv_iload hx hb d_Ref_action_156 (lv_at hl 0 rfl) ?_
                refine lv_if_ne (tgt := 163) hx hb d_Ref_action_158 (by decide) (fun c_103 => absurd c_103 (by decide)) (fun c_103 => ?_)
                refine tp_pc (pc' := 161) (by rfl) ?_
                refine lv_iconst (v := (-1)) hx hb d_Ref_action_161 (by decide) ?_
                obtain ⟨hP9, hD9, -⟩ := cut3 (wc := [oc ra 8 [.int (nI T), .int (nI Ac), .ref (rA 2), .ref (rA 3), .ref (rA 4), .ref (rA 5), .ref (rA 6), .ref (rA 7), .ref (rA 8), .ref (rA 9), .ref (rA 10), .ref (rA 11), .ref (rA 12), .ref (rA 13), .int ir, .ref (rA 15), .ref (rA 16), .ref (rA 17), .ref (rA 18), .int (nI md), .int (nI wd), .ref (rA 21), .ref (rA 22), .ref (rA 23), .int (nI mn), .ref (rA 25), .int (nI cb), .int mr, .ref (rA 28), .ref (rA 29), .ref (rA 30), .ref (rA 31), .ref (rA 32), .ref (rA 33), .ref (rA 34), .ref (rA 35), .int (nI ld), .int (nI gm), .ref (rA 38), .ref (rA 39), .ref (rA 40), .ref (rA 41), .ref (rA 42), .ref (rA 43), .ref (rA 44), .ref (rA 45), .int (nI my), .ref (rA 47)], ia (rA 7) (rK9 7) 8 ff, ia (rA 2) (rK9 2) 4 (fun i => nI (zs i)), ia (rA 3) (rK9 3) 28 (fun i => nI (kd i)), ia (rA 4) (rK9 4) 28 (fun i => nI (vx i)), ia (rA 5) (rK9 5) 28 (fun i => nI (rr i)), ia (rA 6) (rK9 6) 28 vv]) hP hD rfl hS hA [0, 1, 2, 3, 4, 5, 6] (by decide +kernel) rfl
                have hK9 := hK.sub (tys' := []) [] rfl
                refine W.widen (k := 0) (n := 0) (by exact Nat.le_of_ble_eq_true rfl) (by exact Nat.le_of_ble_eq_true rfl) ?_
                exact W.iret (v := (-1)) hx hb hr (fun t9 ht9 hW => ⟨⟨(-1), (), rfl, rfl, by rw [ht9]; exact hP9, va_K.moved hW.alike hK9, hD9⟩, hS.F ht9⟩) hS.2.2 d_Ref_action_162
              · skip
                refine tp_pc (pc' := 51) (by rfl) ?_
                refine lv_iload hx hb d_Ref_action_51 (lv_at hl 4 rfl) ?_
                refine lv_iconst (v := 1) hx hb d_Ref_action_53 (by decide) ?_
                refine lv_icmp_gt (tgt := 61) hx hb d_Ref_action_54 (by decide) (fun e4 => ?_) (fun e4 => ?_)
                · skip
                  refine tp_pc (pc' := 61) (by rfl) ?_
                  refine lv_iconst (v := 0) hx hb d_Ref_action_61 (by decide) ?_
                  refine lv_istore (lv' := [(6, .int 0), (0, .ref ra), (1, .int t9x), (2, .int 4), (3, .int x9), (4, .int r9), (5, .int v9)]) hx hb d_Ref_action_62 hl (by decide) rfl ?_
                  clear hl ls
                  intro ls hl
                  refine lv_iload hx hb d_Ref_action_64 (lv_at hl 0 rfl) ?_
                  refine lv_if_eq (tgt := 112) hx hb d_Ref_action_66 (by decide) (fun c_104 => ?_) (fun c_104 => absurd c_104 (by decide))
                  refine tp_pc (pc' := 112) (by rfl) ?_
                  refine lv_iconst (v := 0) hx hb d_Ref_action_112 (by decide) ?_
                  refine lv_istore (lv' := [(6, .int 0), (0, .ref ra), (1, .int t9x), (2, .int 4), (3, .int x9), (4, .int r9), (5, .int v9)]) hx hb d_Ref_action_113 hl (by decide) rfl ?_
                  clear hl ls
                  intro ls hl
                  refine lv_iload hx hb d_Ref_action_115 (lv_at hl 0 rfl) ?_
                  refine lv_if_eq (tgt := 153) hx hb d_Ref_action_117 (by decide) (fun c_105 => ?_) (fun c_105 => absurd c_105 (by decide))
                  refine tp_pc (pc' := 153) (by rfl) ?_
                  refine lv_iconst (v := 0) hx hb d_Ref_action_153 (by decide) ?_
                  refine lv_istore (lv' := [(6, .int 0), (0, .ref ra), (1, .int t9x), (2, .int 4), (3, .int x9), (4, .int r9), (5, .int v9)]) hx hb d_Ref_action_154 hl (by decide) rfl ?_
                  clear hl ls
                  intro ls hl
                  refine lv_iload hx hb d_Ref_action_156 (lv_at hl 0 rfl) ?_
                  refine lv_if_ne (tgt := 163) hx hb d_Ref_action_158 (by decide) (fun c_106 => absurd c_106 (by decide)) (fun c_106 => ?_)
                  refine tp_pc (pc' := 161) (by rfl) ?_
                  refine lv_iconst (v := (-1)) hx hb d_Ref_action_161 (by decide) ?_
                  obtain ⟨hP9, hD9, -⟩ := cut3 (wc := [oc ra 8 [.int (nI T), .int (nI Ac), .ref (rA 2), .ref (rA 3), .ref (rA 4), .ref (rA 5), .ref (rA 6), .ref (rA 7), .ref (rA 8), .ref (rA 9), .ref (rA 10), .ref (rA 11), .ref (rA 12), .ref (rA 13), .int ir, .ref (rA 15), .ref (rA 16), .ref (rA 17), .ref (rA 18), .int (nI md), .int (nI wd), .ref (rA 21), .ref (rA 22), .ref (rA 23), .int (nI mn), .ref (rA 25), .int (nI cb), .int mr, .ref (rA 28), .ref (rA 29), .ref (rA 30), .ref (rA 31), .ref (rA 32), .ref (rA 33), .ref (rA 34), .ref (rA 35), .int (nI ld), .int (nI gm), .ref (rA 38), .ref (rA 39), .ref (rA 40), .ref (rA 41), .ref (rA 42), .ref (rA 43), .ref (rA 44), .ref (rA 45), .int (nI my), .ref (rA 47)], ia (rA 7) (rK9 7) 8 ff, ia (rA 2) (rK9 2) 4 (fun i => nI (zs i)), ia (rA 3) (rK9 3) 28 (fun i => nI (kd i)), ia (rA 4) (rK9 4) 28 (fun i => nI (vx i)), ia (rA 5) (rK9 5) 28 (fun i => nI (rr i)), ia (rA 6) (rK9 6) 28 vv]) hP hD rfl hS hA [0, 1, 2, 3, 4, 5, 6] (by decide +kernel) rfl
                  have hK9 := hK.sub (tys' := []) [] rfl
                  refine W.widen (k := 0) (n := 0) (by exact Nat.le_of_ble_eq_true rfl) (by exact Nat.le_of_ble_eq_true rfl) ?_
                  exact W.iret (v := (-1)) hx hb hr (fun t9 ht9 hW => ⟨⟨(-1), (), rfl, rfl, by rw [ht9]; exact hP9, va_K.moved hW.alike hK9, hD9⟩, hS.F ht9⟩) hS.2.2 d_Ref_action_162
                · skip
                  refine tp_pc (pc' := 57) (by rfl) ?_
                  refine lv_iconst (v := 1) hx hb d_Ref_action_57 (by decide) ?_
                  refine lv_goto (tgt := 62) hx hb d_Ref_action_58 (by decide) ?_
                  refine tp_pc (pc' := 62) (by rfl) ?_
                  refine lv_istore (lv' := [(6, .int 1), (0, .ref ra), (1, .int t9x), (2, .int 4), (3, .int x9), (4, .int r9), (5, .int v9)]) hx hb d_Ref_action_62 hl (by decide) rfl ?_
                  clear hl ls
                  intro ls hl
                  refine lv_iload hx hb d_Ref_action_64 (lv_at hl 0 rfl) ?_
                  refine lv_if_eq (tgt := 112) hx hb d_Ref_action_66 (by decide) (fun c_107 => absurd c_107 (by decide)) (fun c_107 => ?_)
                  refine tp_pc (pc' := 69) (by rfl) ?_
                  refine lv_iload_n hx hb d_Ref_action_69 rfl (lv_at hl 3 rfl) ?_
                  refine lv_iconst (v := 5) hx hb d_Ref_action_70 (by decide) ?_
                  refine lv_icmp_ne (tgt := 87) hx hb d_Ref_action_71 (by decide) (fun c_108 => ?_) (fun c_108 => absurd c_108 (by decide))
                  refine tp_pc (pc' := 87) (by rfl) ?_
                  refine lv_iload_n hx hb d_Ref_action_87 rfl (lv_at hl 3 rfl) ?_
                  refine lv_iconst (v := 4) hx hb d_Ref_action_88 (by decide) ?_
                  refine lv_icmp_ne (tgt := 99) hx hb d_Ref_action_89 (by decide) (fun c_109 => absurd c_109 (by decide)) (fun c_109 => ?_)
                  refine tp_pc (pc' := 92) (by rfl) ?_
                  refine lv_iload_n hx hb d_Ref_action_92 rfl (lv_at hl 4 rfl) ?_
                  refine lv_if_ne (tgt := 112) hx hb d_Ref_action_93 (by decide) (fun f1 => ?_) (fun f1 => ?_)
                  · skip
                    refine tp_pc (pc' := 112) (by rfl) ?_
                    refine lv_iconst (v := 0) hx hb d_Ref_action_112 (by decide) ?_
                    refine lv_istore (lv' := [(6, .int 0), (0, .ref ra), (1, .int t9x), (2, .int 4), (3, .int x9), (4, .int r9), (5, .int v9)]) hx hb d_Ref_action_113 hl (by decide) rfl ?_
                    clear hl ls
                    intro ls hl
                    refine lv_iload hx hb d_Ref_action_115 (lv_at hl 0 rfl) ?_
                    refine lv_if_eq (tgt := 153) hx hb d_Ref_action_117 (by decide) (fun c_110 => ?_) (fun c_110 => absurd c_110 (by decide))
                    refine tp_pc (pc' := 153) (by rfl) ?_
                    refine lv_iconst (v := 0) hx hb d_Ref_action_153 (by decide) ?_
                    refine lv_istore (lv' := [(6, .int 0), (0, .ref ra), (1, .int t9x), (2, .int 4), (3, .int x9), (4, .int r9), (5, .int v9)]) hx hb d_Ref_action_154 hl (by decide) rfl ?_
                    clear hl ls
                    intro ls hl
                    refine lv_iload hx hb d_Ref_action_156 (lv_at hl 0 rfl) ?_
                    refine lv_if_ne (tgt := 163) hx hb d_Ref_action_158 (by decide) (fun c_111 => absurd c_111 (by decide)) (fun c_111 => ?_)
                    refine tp_pc (pc' := 161) (by rfl) ?_
                    refine lv_iconst (v := (-1)) hx hb d_Ref_action_161 (by decide) ?_
                    obtain ⟨hP9, hD9, -⟩ := cut3 (wc := [oc ra 8 [.int (nI T), .int (nI Ac), .ref (rA 2), .ref (rA 3), .ref (rA 4), .ref (rA 5), .ref (rA 6), .ref (rA 7), .ref (rA 8), .ref (rA 9), .ref (rA 10), .ref (rA 11), .ref (rA 12), .ref (rA 13), .int ir, .ref (rA 15), .ref (rA 16), .ref (rA 17), .ref (rA 18), .int (nI md), .int (nI wd), .ref (rA 21), .ref (rA 22), .ref (rA 23), .int (nI mn), .ref (rA 25), .int (nI cb), .int mr, .ref (rA 28), .ref (rA 29), .ref (rA 30), .ref (rA 31), .ref (rA 32), .ref (rA 33), .ref (rA 34), .ref (rA 35), .int (nI ld), .int (nI gm), .ref (rA 38), .ref (rA 39), .ref (rA 40), .ref (rA 41), .ref (rA 42), .ref (rA 43), .ref (rA 44), .ref (rA 45), .int (nI my), .ref (rA 47)], ia (rA 7) (rK9 7) 8 ff, ia (rA 2) (rK9 2) 4 (fun i => nI (zs i)), ia (rA 3) (rK9 3) 28 (fun i => nI (kd i)), ia (rA 4) (rK9 4) 28 (fun i => nI (vx i)), ia (rA 5) (rK9 5) 28 (fun i => nI (rr i)), ia (rA 6) (rK9 6) 28 vv]) hP hD rfl hS hA [0, 1, 2, 3, 4, 5, 6] (by decide +kernel) rfl
                    have hK9 := hK.sub (tys' := []) [] rfl
                    refine W.widen (k := 0) (n := 0) (by exact Nat.le_of_ble_eq_true rfl) (by exact Nat.le_of_ble_eq_true rfl) ?_
                    exact W.iret (v := (-1)) hx hb hr (fun t9 ht9 hW => ⟨⟨(-1), (), rfl, rfl, by rw [ht9]; exact hP9, va_K.moved hW.alike hK9, hD9⟩, hS.F ht9⟩) hS.2.2 d_Ref_action_162
                  · skip
                    refine tp_pc (pc' := 96) (by rfl) ?_
                    refine lv_goto (tgt := 108) hx hb d_Ref_action_96 (by decide) ?_
                    refine tp_pc (pc' := 108) (by rfl) ?_
                    refine lv_iconst (v := 1) hx hb d_Ref_action_108 (by decide) ?_
                    refine lv_goto (tgt := 113) hx hb d_Ref_action_109 (by decide) ?_
                    refine tp_pc (pc' := 113) (by rfl) ?_
                    refine lv_istore (lv' := [(6, .int 1), (0, .ref ra), (1, .int t9x), (2, .int 4), (3, .int x9), (4, .int r9), (5, .int v9)]) hx hb d_Ref_action_113 hl (by decide) rfl ?_
                    clear hl ls
                    intro ls hl
                    refine lv_iload hx hb d_Ref_action_115 (lv_at hl 0 rfl) ?_
                    refine lv_if_eq (tgt := 153) hx hb d_Ref_action_117 (by decide) (fun c_112 => absurd c_112 (by decide)) (fun c_112 => ?_)
                    refine tp_pc (pc' := 120) (by rfl) ?_
                    refine lv_iload_n hx hb d_Ref_action_120 rfl (lv_at hl 3 rfl) ?_
                    refine lv_iconst (v := 1) hx hb d_Ref_action_121 (by decide) ?_
                    refine lv_icmp_eq (tgt := 130) hx hb d_Ref_action_122 (by decide) (fun c_113 => absurd c_113 (by decide)) (fun c_113 => ?_)
                    refine tp_pc (pc' := 125) (by rfl) ?_
                    refine lv_iload_n hx hb d_Ref_action_125 rfl (lv_at hl 3 rfl) ?_
                    refine lv_iconst (v := 4) hx hb d_Ref_action_126 (by decide) ?_
                    refine lv_icmp_ne (tgt := 135) hx hb d_Ref_action_127 (by decide) (fun c_114 => absurd c_114 (by decide)) (fun c_114 => ?_)
                    refine tp_pc (pc' := 130) (by rfl) ?_
                    refine lv_iload hx hb d_Ref_action_130 (lv_at hl 5 rfl) ?_
                    refine lv_if_ne (tgt := 153) hx hb d_Ref_action_132 (by decide) (fun f2 => ?_) (fun f2 => ?_)
                    · skip
                      refine tp_pc (pc' := 153) (by rfl) ?_
                      refine lv_iconst (v := 0) hx hb d_Ref_action_153 (by decide) ?_
                      refine lv_istore (lv' := [(6, .int 0), (0, .ref ra), (1, .int t9x), (2, .int 4), (3, .int x9), (4, .int r9), (5, .int v9)]) hx hb d_Ref_action_154 hl (by decide) rfl ?_
                      clear hl ls
                      intro ls hl
                      refine lv_iload hx hb d_Ref_action_156 (lv_at hl 0 rfl) ?_
                      refine lv_if_ne (tgt := 163) hx hb d_Ref_action_158 (by decide) (fun c_115 => absurd c_115 (by decide)) (fun c_115 => ?_)
                      refine tp_pc (pc' := 161) (by rfl) ?_
                      refine lv_iconst (v := (-1)) hx hb d_Ref_action_161 (by decide) ?_
                      obtain ⟨hP9, hD9, -⟩ := cut3 (wc := [oc ra 8 [.int (nI T), .int (nI Ac), .ref (rA 2), .ref (rA 3), .ref (rA 4), .ref (rA 5), .ref (rA 6), .ref (rA 7), .ref (rA 8), .ref (rA 9), .ref (rA 10), .ref (rA 11), .ref (rA 12), .ref (rA 13), .int ir, .ref (rA 15), .ref (rA 16), .ref (rA 17), .ref (rA 18), .int (nI md), .int (nI wd), .ref (rA 21), .ref (rA 22), .ref (rA 23), .int (nI mn), .ref (rA 25), .int (nI cb), .int mr, .ref (rA 28), .ref (rA 29), .ref (rA 30), .ref (rA 31), .ref (rA 32), .ref (rA 33), .ref (rA 34), .ref (rA 35), .int (nI ld), .int (nI gm), .ref (rA 38), .ref (rA 39), .ref (rA 40), .ref (rA 41), .ref (rA 42), .ref (rA 43), .ref (rA 44), .ref (rA 45), .int (nI my), .ref (rA 47)], ia (rA 7) (rK9 7) 8 ff, ia (rA 2) (rK9 2) 4 (fun i => nI (zs i)), ia (rA 3) (rK9 3) 28 (fun i => nI (kd i)), ia (rA 4) (rK9 4) 28 (fun i => nI (vx i)), ia (rA 5) (rK9 5) 28 (fun i => nI (rr i)), ia (rA 6) (rK9 6) 28 vv]) hP hD rfl hS hA [0, 1, 2, 3, 4, 5, 6] (by decide +kernel) rfl
                      have hK9 := hK.sub (tys' := []) [] rfl
                      refine W.widen (k := 0) (n := 0) (by exact Nat.le_of_ble_eq_true rfl) (by exact Nat.le_of_ble_eq_true rfl) ?_
                      exact W.iret (v := (-1)) hx hb hr (fun t9 ht9 hW => ⟨⟨(-1), (), rfl, rfl, by rw [ht9]; exact hP9, va_K.moved hW.alike hK9, hD9⟩, hS.F ht9⟩) hS.2.2 d_Ref_action_162
                    · skip
                      refine tp_pc (pc' := 135) (by rfl) ?_
                      refine lv_iload_n hx hb d_Ref_action_135 rfl (lv_at hl 3 rfl) ?_
                      refine lv_if_eq (tgt := 144) hx hb d_Ref_action_136 (by decide) (fun c_116 => absurd c_116 (by decide)) (fun c_116 => ?_)
                      refine tp_pc (pc' := 139) (by rfl) ?_
                      refine lv_iload_n hx hb d_Ref_action_139 rfl (lv_at hl 3 rfl) ?_
                      refine lv_iconst (v := 4) hx hb d_Ref_action_140 (by decide) ?_
                      refine lv_icmp_ne (tgt := 149) hx hb d_Ref_action_141 (by decide) (fun c_117 => absurd c_117 (by decide)) (fun c_117 => ?_)
                      refine tp_pc (pc' := 144) (by rfl) ?_
                      refine lv_iload hx hb d_Ref_action_144 (lv_at hl 6 rfl) ?_
                      refine lv_if_ne (tgt := 153) hx hb d_Ref_action_146 (by decide) (fun f3 => ?_) (fun f3 => ?_)
                      · skip
                        refine tp_pc (pc' := 153) (by rfl) ?_
                        refine lv_iconst (v := 0) hx hb d_Ref_action_153 (by decide) ?_
                        refine lv_istore (lv' := [(6, .int 0), (0, .ref ra), (1, .int t9x), (2, .int 4), (3, .int x9), (4, .int r9), (5, .int v9)]) hx hb d_Ref_action_154 hl (by decide) rfl ?_
                        clear hl ls
                        intro ls hl
                        refine lv_iload hx hb d_Ref_action_156 (lv_at hl 0 rfl) ?_
                        refine lv_if_ne (tgt := 163) hx hb d_Ref_action_158 (by decide) (fun c_118 => absurd c_118 (by decide)) (fun c_118 => ?_)
                        refine tp_pc (pc' := 161) (by rfl) ?_
                        refine lv_iconst (v := (-1)) hx hb d_Ref_action_161 (by decide) ?_
                        obtain ⟨hP9, hD9, -⟩ := cut3 (wc := [oc ra 8 [.int (nI T), .int (nI Ac), .ref (rA 2), .ref (rA 3), .ref (rA 4), .ref (rA 5), .ref (rA 6), .ref (rA 7), .ref (rA 8), .ref (rA 9), .ref (rA 10), .ref (rA 11), .ref (rA 12), .ref (rA 13), .int ir, .ref (rA 15), .ref (rA 16), .ref (rA 17), .ref (rA 18), .int (nI md), .int (nI wd), .ref (rA 21), .ref (rA 22), .ref (rA 23), .int (nI mn), .ref (rA 25), .int (nI cb), .int mr, .ref (rA 28), .ref (rA 29), .ref (rA 30), .ref (rA 31), .ref (rA 32), .ref (rA 33), .ref (rA 34), .ref (rA 35), .int (nI ld), .int (nI gm), .ref (rA 38), .ref (rA 39), .ref (rA 40), .ref (rA 41), .ref (rA 42), .ref (rA 43), .ref (rA 44), .ref (rA 45), .int (nI my), .ref (rA 47)], ia (rA 7) (rK9 7) 8 ff, ia (rA 2) (rK9 2) 4 (fun i => nI (zs i)), ia (rA 3) (rK9 3) 28 (fun i => nI (kd i)), ia (rA 4) (rK9 4) 28 (fun i => nI (vx i)), ia (rA 5) (rK9 5) 28 (fun i => nI (rr i)), ia (rA 6) (rK9 6) 28 vv]) hP hD rfl hS hA [0, 1, 2, 3, 4, 5, 6] (by decide +kernel) rfl
                        have hK9 := hK.sub (tys' := []) [] rfl
                        refine W.widen (k := 0) (n := 0) (by exact Nat.le_of_ble_eq_true rfl) (by exact Nat.le_of_ble_eq_true rfl) ?_
                        exact W.iret (v := (-1)) hx hb hr (fun t9 ht9 hW => ⟨⟨(-1), (), rfl, rfl, by rw [ht9]; exact hP9, va_K.moved hW.alike hK9, hD9⟩, hS.F ht9⟩) hS.2.2 d_Ref_action_162
                      · skip
                        exact absurd hno (by rintro (h | h | h | h); (exact c1 h); (exact c2 h); (exact hc3 h); (exact h (actP_4.mpr ⟨f1, f2, f3⟩)))
        · skip
          have hc3 : Ac = 7 := (nI_eq (a := Ac) (b := 7) (by omega) (by omega)).mp c3
          refine tp_pc (pc' := 30) (by rfl) ?_
          refine lv_iconst (v := (-1)) hx hb d_Ref_action_30 (by decide) ?_
          obtain ⟨hP9, hD9, -⟩ := cut3 (wc := [oc ra 8 [.int (nI T), .int (nI Ac), .ref (rA 2), .ref (rA 3), .ref (rA 4), .ref (rA 5), .ref (rA 6), .ref (rA 7), .ref (rA 8), .ref (rA 9), .ref (rA 10), .ref (rA 11), .ref (rA 12), .ref (rA 13), .int ir, .ref (rA 15), .ref (rA 16), .ref (rA 17), .ref (rA 18), .int (nI md), .int (nI wd), .ref (rA 21), .ref (rA 22), .ref (rA 23), .int (nI mn), .ref (rA 25), .int (nI cb), .int mr, .ref (rA 28), .ref (rA 29), .ref (rA 30), .ref (rA 31), .ref (rA 32), .ref (rA 33), .ref (rA 34), .ref (rA 35), .int (nI ld), .int (nI gm), .ref (rA 38), .ref (rA 39), .ref (rA 40), .ref (rA 41), .ref (rA 42), .ref (rA 43), .ref (rA 44), .ref (rA 45), .int (nI my), .ref (rA 47)], ia (rA 7) (rK9 7) 8 ff, ia (rA 2) (rK9 2) 4 (fun i => nI (zs i)), ia (rA 3) (rK9 3) 28 (fun i => nI (kd i)), ia (rA 4) (rK9 4) 28 (fun i => nI (vx i)), ia (rA 5) (rK9 5) 28 (fun i => nI (rr i)), ia (rA 6) (rK9 6) 28 vv]) hP hD rfl hS hA [0, 1, 2, 3, 4, 5, 6] (by decide +kernel) rfl
          have hK9 := hK.sub (tys' := []) [] rfl
          refine W.widen (k := 0) (n := 0) (by exact Nat.le_of_ble_eq_true rfl) (by exact Nat.le_of_ble_eq_true rfl) ?_
          exact W.iret (v := (-1)) hx hb hr (fun t9 ht9 hW => ⟨⟨(-1), (), rfl, rfl, by rw [ht9]; exact hP9, va_K.moved hW.alike hK9, hD9⟩, hS.F ht9⟩) hS.2.2 d_Ref_action_31
      by_cases hk5 : k9 = 5
      · skip
        subst hk5
        replace hl : lv_has ls 8 [(0, .ref ra), (1, .int t9x), (2, .int 5), (3, .int x9), (4, .int r9), (5, .int v9)] := hl
        refine tp_pc (pc' := 12) (by rfl) ?_
        refine lv_iload_n hx hb d_Ref_action_12 rfl (lv_at hl 2 rfl) ?_
        refine lv_if_lt (tgt := 30) hx hb d_Ref_action_13 (by decide) (fun c_119 => absurd c_119 (by decide)) (fun c_119 => ?_)
        refine tp_pc (pc' := 16) (by rfl) ?_
        refine lv_iload_n hx hb d_Ref_action_16 rfl (lv_at hl 2 rfl) ?_
        refine lv_iconst (v := 5) hx hb d_Ref_action_17 (by decide) ?_
        refine lv_icmp_gt (tgt := 30) hx hb d_Ref_action_18 (by decide) (fun c_120 => absurd c_120 (by decide)) (fun c_120 => ?_)
        refine tp_pc (pc' := 21) (by rfl) ?_
        refine lv_aload_n hx hb d_Ref_action_21 rfl (lv_at hl 0 rfl) ?_
        refine va_get (D := (dC, dI)) (ci := 8) (v := .int (nI Ac)) (C := R_Ref) (T := F_Ref) (N := 48) hx hb hw i_Ref hown hK hP 0 rfl rfl 1 (by decide) (hw _ m_900) (fun _ h9 => h9) rfl d_Ref_action_22 ?_
        refine lv_bipush (v := 7) hx hb d_Ref_action_25 (by decide) ?_
        refine lv_icmp_ne (tgt := 32) hx hb d_Ref_action_27 (by decide) (fun c3 => ?_) (fun c3 => ?_)
        · skip
          have hc3 : ¬ (Ac = 7) := fun q9 => c3 ((nI_eq (a := Ac) (b := 7) (by omega) (by omega)).mpr q9)
          refine tp_pc (pc' := 32) (by rfl) ?_
          refine lv_iload hx hb d_Ref_action_32 (lv_at hl 5 rfl) ?_
          refine lv_bipush (v := (-9)) hx hb d_Ref_action_34 (by decide) ?_
          refine lv_icmp_lt (tgt := 61) hx hb d_Ref_action_36 (by decide) (fun e1 => ?_) (fun e1 => ?_)
          · skip
            refine tp_pc (pc' := 61) (by rfl) ?_
            refine lv_iconst (v := 0) hx hb d_Ref_action_61 (by decide) ?_
            refine lv_istore (lv' := [(6, .int 0), (0, .ref ra), (1, .int t9x), (2, .int 5), (3, .int x9), (4, .int r9), (5, .int v9)]) hx hb d_Ref_action_62 hl (by decide) rfl ?_
            clear hl ls
            intro ls hl
            refine lv_iload hx hb d_Ref_action_64 (lv_at hl 0 rfl) ?_
            refine lv_if_eq (tgt := 112) hx hb d_Ref_action_66 (by decide) (fun c_121 => ?_) (fun c_121 => absurd c_121 (by decide))
            refine tp_pc (pc' := 112) (by rfl) ?_
            refine lv_iconst (v := 0) hx hb d_Ref_action_112 (by decide) ?_
            refine lv_istore (lv' := [(6, .int 0), (0, .ref ra), (1, .int t9x), (2, .int 5), (3, .int x9), (4, .int r9), (5, .int v9)]) hx hb d_Ref_action_113 hl (by decide) rfl ?_
            clear hl ls
            intro ls hl
            refine lv_iload hx hb d_Ref_action_115 (lv_at hl 0 rfl) ?_
            refine lv_if_eq (tgt := 153) hx hb d_Ref_action_117 (by decide) (fun c_122 => ?_) (fun c_122 => absurd c_122 (by decide))
            refine tp_pc (pc' := 153) (by rfl) ?_
            refine lv_iconst (v := 0) hx hb d_Ref_action_153 (by decide) ?_
            refine lv_istore (lv' := [(6, .int 0), (0, .ref ra), (1, .int t9x), (2, .int 5), (3, .int x9), (4, .int r9), (5, .int v9)]) hx hb d_Ref_action_154 hl (by decide) rfl ?_
            clear hl ls
            intro ls hl
            refine lv_iload hx hb d_Ref_action_156 (lv_at hl 0 rfl) ?_
            refine lv_if_ne (tgt := 163) hx hb d_Ref_action_158 (by decide) (fun c_123 => absurd c_123 (by decide)) (fun c_123 => ?_)
            refine tp_pc (pc' := 161) (by rfl) ?_
            refine lv_iconst (v := (-1)) hx hb d_Ref_action_161 (by decide) ?_
            obtain ⟨hP9, hD9, -⟩ := cut3 (wc := [oc ra 8 [.int (nI T), .int (nI Ac), .ref (rA 2), .ref (rA 3), .ref (rA 4), .ref (rA 5), .ref (rA 6), .ref (rA 7), .ref (rA 8), .ref (rA 9), .ref (rA 10), .ref (rA 11), .ref (rA 12), .ref (rA 13), .int ir, .ref (rA 15), .ref (rA 16), .ref (rA 17), .ref (rA 18), .int (nI md), .int (nI wd), .ref (rA 21), .ref (rA 22), .ref (rA 23), .int (nI mn), .ref (rA 25), .int (nI cb), .int mr, .ref (rA 28), .ref (rA 29), .ref (rA 30), .ref (rA 31), .ref (rA 32), .ref (rA 33), .ref (rA 34), .ref (rA 35), .int (nI ld), .int (nI gm), .ref (rA 38), .ref (rA 39), .ref (rA 40), .ref (rA 41), .ref (rA 42), .ref (rA 43), .ref (rA 44), .ref (rA 45), .int (nI my), .ref (rA 47)], ia (rA 7) (rK9 7) 8 ff, ia (rA 2) (rK9 2) 4 (fun i => nI (zs i)), ia (rA 3) (rK9 3) 28 (fun i => nI (kd i)), ia (rA 4) (rK9 4) 28 (fun i => nI (vx i)), ia (rA 5) (rK9 5) 28 (fun i => nI (rr i)), ia (rA 6) (rK9 6) 28 vv]) hP hD rfl hS hA [0, 1, 2, 3, 4, 5, 6] (by decide +kernel) rfl
            have hK9 := hK.sub (tys' := []) [] rfl
            refine W.widen (k := 0) (n := 0) (by exact Nat.le_of_ble_eq_true rfl) (by exact Nat.le_of_ble_eq_true rfl) ?_
            exact W.iret (v := (-1)) hx hb hr (fun t9 ht9 hW => ⟨⟨(-1), (), rfl, rfl, by rw [ht9]; exact hP9, va_K.moved hW.alike hK9, hD9⟩, hS.F ht9⟩) hS.2.2 d_Ref_action_162
          · skip
            refine tp_pc (pc' := 39) (by rfl) ?_
            refine lv_iload hx hb d_Ref_action_39 (lv_at hl 5 rfl) ?_
            refine lv_bipush (v := 9) hx hb d_Ref_action_41 (by decide) ?_
            refine lv_icmp_gt (tgt := 61) hx hb d_Ref_action_43 (by decide) (fun e2 => ?_) (fun e2 => ?_)
            · skip
              refine tp_pc (pc' := 61) (by rfl) ?_
              refine lv_iconst (v := 0) hx hb d_Ref_action_61 (by decide) ?_
              refine lv_istore (lv' := [(6, .int 0), (0, .ref ra), (1, .int t9x), (2, .int 5), (3, .int x9), (4, .int r9), (5, .int v9)]) hx hb d_Ref_action_62 hl (by decide) rfl ?_
              clear hl ls
              intro ls hl
              refine lv_iload hx hb d_Ref_action_64 (lv_at hl 0 rfl) ?_
              refine lv_if_eq (tgt := 112) hx hb d_Ref_action_66 (by decide) (fun c_124 => ?_) (fun c_124 => absurd c_124 (by decide))
              refine tp_pc (pc' := 112) (by rfl) ?_
              refine lv_iconst (v := 0) hx hb d_Ref_action_112 (by decide) ?_
              refine lv_istore (lv' := [(6, .int 0), (0, .ref ra), (1, .int t9x), (2, .int 5), (3, .int x9), (4, .int r9), (5, .int v9)]) hx hb d_Ref_action_113 hl (by decide) rfl ?_
              clear hl ls
              intro ls hl
              refine lv_iload hx hb d_Ref_action_115 (lv_at hl 0 rfl) ?_
              refine lv_if_eq (tgt := 153) hx hb d_Ref_action_117 (by decide) (fun c_125 => ?_) (fun c_125 => absurd c_125 (by decide))
              refine tp_pc (pc' := 153) (by rfl) ?_
              refine lv_iconst (v := 0) hx hb d_Ref_action_153 (by decide) ?_
              refine lv_istore (lv' := [(6, .int 0), (0, .ref ra), (1, .int t9x), (2, .int 5), (3, .int x9), (4, .int r9), (5, .int v9)]) hx hb d_Ref_action_154 hl (by decide) rfl ?_
              clear hl ls
              intro ls hl
              refine lv_iload hx hb d_Ref_action_156 (lv_at hl 0 rfl) ?_
              refine lv_if_ne (tgt := 163) hx hb d_Ref_action_158 (by decide) (fun c_126 => absurd c_126 (by decide)) (fun c_126 => ?_)
              refine tp_pc (pc' := 161) (by rfl) ?_
              refine lv_iconst (v := (-1)) hx hb d_Ref_action_161 (by decide) ?_
              obtain ⟨hP9, hD9, -⟩ := cut3 (wc := [oc ra 8 [.int (nI T), .int (nI Ac), .ref (rA 2), .ref (rA 3), .ref (rA 4), .ref (rA 5), .ref (rA 6), .ref (rA 7), .ref (rA 8), .ref (rA 9), .ref (rA 10), .ref (rA 11), .ref (rA 12), .ref (rA 13), .int ir, .ref (rA 15), .ref (rA 16), .ref (rA 17), .ref (rA 18), .int (nI md), .int (nI wd), .ref (rA 21), .ref (rA 22), .ref (rA 23), .int (nI mn), .ref (rA 25), .int (nI cb), .int mr, .ref (rA 28), .ref (rA 29), .ref (rA 30), .ref (rA 31), .ref (rA 32), .ref (rA 33), .ref (rA 34), .ref (rA 35), .int (nI ld), .int (nI gm), .ref (rA 38), .ref (rA 39), .ref (rA 40), .ref (rA 41), .ref (rA 42), .ref (rA 43), .ref (rA 44), .ref (rA 45), .int (nI my), .ref (rA 47)], ia (rA 7) (rK9 7) 8 ff, ia (rA 2) (rK9 2) 4 (fun i => nI (zs i)), ia (rA 3) (rK9 3) 28 (fun i => nI (kd i)), ia (rA 4) (rK9 4) 28 (fun i => nI (vx i)), ia (rA 5) (rK9 5) 28 (fun i => nI (rr i)), ia (rA 6) (rK9 6) 28 vv]) hP hD rfl hS hA [0, 1, 2, 3, 4, 5, 6] (by decide +kernel) rfl
              have hK9 := hK.sub (tys' := []) [] rfl
              refine W.widen (k := 0) (n := 0) (by exact Nat.le_of_ble_eq_true rfl) (by exact Nat.le_of_ble_eq_true rfl) ?_
              exact W.iret (v := (-1)) hx hb hr (fun t9 ht9 hW => ⟨⟨(-1), (), rfl, rfl, by rw [ht9]; exact hP9, va_K.moved hW.alike hK9, hD9⟩, hS.F ht9⟩) hS.2.2 d_Ref_action_162
            · skip
              refine tp_pc (pc' := 46) (by rfl) ?_
              refine lv_iload hx hb d_Ref_action_46 (lv_at hl 4 rfl) ?_
              refine lv_if_lt (tgt := 61) hx hb d_Ref_action_48 (by decide) (fun e3 => ?_) (fun e3 => ?_)
              · skip
                refine tp_pc (pc' := 61) (by rfl) ?_
                refine lv_iconst (v := 0) hx hb d_Ref_action_61 (by decide) ?_
                refine lv_istore (lv' := [(6, .int 0), (0, .ref ra), (1, .int t9x), (2, .int 5), (3, .int x9), (4, .int r9), (5, .int v9)]) hx hb d_Ref_action_62 hl (by decide) rfl ?_
                clear hl ls
                intro ls hl
                refine lv_iload hx hb d_Ref_action_64 (lv_at hl 0 rfl) ?_
                refine lv_if_eq (tgt := 112) hx hb d_Ref_action_66 (by decide) (fun c_127 => ?_) (fun c_127 => absurd c_127 (by decide))
                refine tp_pc (pc' := 112) (by rfl) ?_
                refine lv_iconst (v := 0) hx hb d_Ref_action_112 (by decide) ?_
                refine lv_istore (lv' := [(6, .int 0), (0, .ref ra), (1, .int t9x), (2, .int 5), (3, .int x9), (4, .int r9), (5, .int v9)]) hx hb d_Ref_action_113 hl (by decide) rfl ?_
                clear hl ls
                intro ls hl
                refine lv_iload hx hb d_Ref_action_115 (lv_at hl 0 rfl) ?_
                refine lv_if_eq (tgt := 153) hx hb d_Ref_action_117 (by decide) (fun c_128 => ?_) (fun c_128 => absurd c_128 (by decide))
                refine tp_pc (pc' := 153) (by rfl) ?_
                refine lv_iconst (v := 0) hx hb d_Ref_action_153 (by decide) ?_
                refine lv_istore (lv' := [(6, .int 0), (0, .ref ra), (1, .int t9x), (2, .int 5), (3, .int x9), (4, .int r9), (5, .int v9)]) hx hb d_Ref_action_154 hl (by decide) rfl ?_
                clear hl ls
                intro ls hl
                refine lv_iload hx hb d_Ref_action_156 (lv_at hl 0 rfl) ?_
                refine lv_if_ne (tgt := 163) hx hb d_Ref_action_158 (by decide) (fun c_129 => absurd c_129 (by decide)) (fun c_129 => ?_)
                refine tp_pc (pc' := 161) (by rfl) ?_
                refine lv_iconst (v := (-1)) hx hb d_Ref_action_161 (by decide) ?_
                obtain ⟨hP9, hD9, -⟩ := cut3 (wc := [oc ra 8 [.int (nI T), .int (nI Ac), .ref (rA 2), .ref (rA 3), .ref (rA 4), .ref (rA 5), .ref (rA 6), .ref (rA 7), .ref (rA 8), .ref (rA 9), .ref (rA 10), .ref (rA 11), .ref (rA 12), .ref (rA 13), .int ir, .ref (rA 15), .ref (rA 16), .ref (rA 17), .ref (rA 18), .int (nI md), .int (nI wd), .ref (rA 21), .ref (rA 22), .ref (rA 23), .int (nI mn), .ref (rA 25), .int (nI cb), .int mr, .ref (rA 28), .ref (rA 29), .ref (rA 30), .ref (rA 31), .ref (rA 32), .ref (rA 33), .ref (rA 34), .ref (rA 35), .int (nI ld), .int (nI gm), .ref (rA 38), .ref (rA 39), .ref (rA 40), .ref (rA 41), .ref (rA 42), .ref (rA 43), .ref (rA 44), .ref (rA 45), .int (nI my), .ref (rA 47)], ia (rA 7) (rK9 7) 8 ff, ia (rA 2) (rK9 2) 4 (fun i => nI (zs i)), ia (rA 3) (rK9 3) 28 (fun i => nI (kd i)), ia (rA 4) (rK9 4) 28 (fun i => nI (vx i)), ia (rA 5) (rK9 5) 28 (fun i => nI (rr i)), ia (rA 6) (rK9 6) 28 vv]) hP hD rfl hS hA [0, 1, 2, 3, 4, 5, 6] (by decide +kernel) rfl
                have hK9 := hK.sub (tys' := []) [] rfl
                refine W.widen (k := 0) (n := 0) (by exact Nat.le_of_ble_eq_true rfl) (by exact Nat.le_of_ble_eq_true rfl) ?_
                exact W.iret (v := (-1)) hx hb hr (fun t9 ht9 hW => ⟨⟨(-1), (), rfl, rfl, by rw [ht9]; exact hP9, va_K.moved hW.alike hK9, hD9⟩, hS.F ht9⟩) hS.2.2 d_Ref_action_162
              · skip
                refine tp_pc (pc' := 51) (by rfl) ?_
                refine lv_iload hx hb d_Ref_action_51 (lv_at hl 4 rfl) ?_
                refine lv_iconst (v := 1) hx hb d_Ref_action_53 (by decide) ?_
                refine lv_icmp_gt (tgt := 61) hx hb d_Ref_action_54 (by decide) (fun e4 => ?_) (fun e4 => ?_)
                · skip
                  refine tp_pc (pc' := 61) (by rfl) ?_
                  refine lv_iconst (v := 0) hx hb d_Ref_action_61 (by decide) ?_
                  refine lv_istore (lv' := [(6, .int 0), (0, .ref ra), (1, .int t9x), (2, .int 5), (3, .int x9), (4, .int r9), (5, .int v9)]) hx hb d_Ref_action_62 hl (by decide) rfl ?_
                  clear hl ls
                  intro ls hl
                  refine lv_iload hx hb d_Ref_action_64 (lv_at hl 0 rfl) ?_
                  refine lv_if_eq (tgt := 112) hx hb d_Ref_action_66 (by decide) (fun c_130 => ?_) (fun c_130 => absurd c_130 (by decide))
                  refine tp_pc (pc' := 112) (by rfl) ?_
                  refine lv_iconst (v := 0) hx hb d_Ref_action_112 (by decide) ?_
                  refine lv_istore (lv' := [(6, .int 0), (0, .ref ra), (1, .int t9x), (2, .int 5), (3, .int x9), (4, .int r9), (5, .int v9)]) hx hb d_Ref_action_113 hl (by decide) rfl ?_
                  clear hl ls
                  intro ls hl
                  refine lv_iload hx hb d_Ref_action_115 (lv_at hl 0 rfl) ?_
                  refine lv_if_eq (tgt := 153) hx hb d_Ref_action_117 (by decide) (fun c_131 => ?_) (fun c_131 => absurd c_131 (by decide))
                  refine tp_pc (pc' := 153) (by rfl) ?_
                  refine lv_iconst (v := 0) hx hb d_Ref_action_153 (by decide) ?_
                  refine lv_istore (lv' := [(6, .int 0), (0, .ref ra), (1, .int t9x), (2, .int 5), (3, .int x9), (4, .int r9), (5, .int v9)]) hx hb d_Ref_action_154 hl (by decide) rfl ?_
                  clear hl ls
                  intro ls hl
                  refine lv_iload hx hb d_Ref_action_156 (lv_at hl 0 rfl) ?_
                  refine lv_if_ne (tgt := 163) hx hb d_Ref_action_158 (by decide) (fun c_132 => absurd c_132 (by decide)) (fun c_132 => ?_)
                  refine tp_pc (pc' := 161) (by rfl) ?_
                  refine lv_iconst (v := (-1)) hx hb d_Ref_action_161 (by decide) ?_
                  obtain ⟨hP9, hD9, -⟩ := cut3 (wc := [oc ra 8 [.int (nI T), .int (nI Ac), .ref (rA 2), .ref (rA 3), .ref (rA 4), .ref (rA 5), .ref (rA 6), .ref (rA 7), .ref (rA 8), .ref (rA 9), .ref (rA 10), .ref (rA 11), .ref (rA 12), .ref (rA 13), .int ir, .ref (rA 15), .ref (rA 16), .ref (rA 17), .ref (rA 18), .int (nI md), .int (nI wd), .ref (rA 21), .ref (rA 22), .ref (rA 23), .int (nI mn), .ref (rA 25), .int (nI cb), .int mr, .ref (rA 28), .ref (rA 29), .ref (rA 30), .ref (rA 31), .ref (rA 32), .ref (rA 33), .ref (rA 34), .ref (rA 35), .int (nI ld), .int (nI gm), .ref (rA 38), .ref (rA 39), .ref (rA 40), .ref (rA 41), .ref (rA 42), .ref (rA 43), .ref (rA 44), .ref (rA 45), .int (nI my), .ref (rA 47)], ia (rA 7) (rK9 7) 8 ff, ia (rA 2) (rK9 2) 4 (fun i => nI (zs i)), ia (rA 3) (rK9 3) 28 (fun i => nI (kd i)), ia (rA 4) (rK9 4) 28 (fun i => nI (vx i)), ia (rA 5) (rK9 5) 28 (fun i => nI (rr i)), ia (rA 6) (rK9 6) 28 vv]) hP hD rfl hS hA [0, 1, 2, 3, 4, 5, 6] (by decide +kernel) rfl
                  have hK9 := hK.sub (tys' := []) [] rfl
                  refine W.widen (k := 0) (n := 0) (by exact Nat.le_of_ble_eq_true rfl) (by exact Nat.le_of_ble_eq_true rfl) ?_
                  exact W.iret (v := (-1)) hx hb hr (fun t9 ht9 hW => ⟨⟨(-1), (), rfl, rfl, by rw [ht9]; exact hP9, va_K.moved hW.alike hK9, hD9⟩, hS.F ht9⟩) hS.2.2 d_Ref_action_162
                · skip
                  refine tp_pc (pc' := 57) (by rfl) ?_
                  refine lv_iconst (v := 1) hx hb d_Ref_action_57 (by decide) ?_
                  refine lv_goto (tgt := 62) hx hb d_Ref_action_58 (by decide) ?_
                  refine tp_pc (pc' := 62) (by rfl) ?_
                  refine lv_istore (lv' := [(6, .int 1), (0, .ref ra), (1, .int t9x), (2, .int 5), (3, .int x9), (4, .int r9), (5, .int v9)]) hx hb d_Ref_action_62 hl (by decide) rfl ?_
                  clear hl ls
                  intro ls hl
                  refine lv_iload hx hb d_Ref_action_64 (lv_at hl 0 rfl) ?_
                  refine lv_if_eq (tgt := 112) hx hb d_Ref_action_66 (by decide) (fun c_133 => absurd c_133 (by decide)) (fun c_133 => ?_)
                  refine tp_pc (pc' := 69) (by rfl) ?_
                  refine lv_iload_n hx hb d_Ref_action_69 rfl (lv_at hl 3 rfl) ?_
                  refine lv_iconst (v := 5) hx hb d_Ref_action_70 (by decide) ?_
                  refine lv_icmp_ne (tgt := 87) hx hb d_Ref_action_71 (by decide) (fun c_134 => absurd c_134 (by decide)) (fun c_134 => ?_)
                  refine tp_pc (pc' := 74) (by rfl) ?_
                  refine lv_iload_n hx hb d_Ref_action_74 rfl (lv_at hl 4 rfl) ?_
                  refine lv_iconst (v := 1) hx hb d_Ref_action_75 (by decide) ?_
                  refine lv_icmp_lt (tgt := 112) hx hb d_Ref_action_76 (by decide) (fun f1 => ?_) (fun f1 => ?_)
                  · skip
                    refine tp_pc (pc' := 112) (by rfl) ?_
                    refine lv_iconst (v := 0) hx hb d_Ref_action_112 (by decide) ?_
                    refine lv_istore (lv' := [(6, .int 0), (0, .ref ra), (1, .int t9x), (2, .int 5), (3, .int x9), (4, .int r9), (5, .int v9)]) hx hb d_Ref_action_113 hl (by decide) rfl ?_
                    clear hl ls
                    intro ls hl
                    refine lv_iload hx hb d_Ref_action_115 (lv_at hl 0 rfl) ?_
                    refine lv_if_eq (tgt := 153) hx hb d_Ref_action_117 (by decide) (fun c_135 => ?_) (fun c_135 => absurd c_135 (by decide))
                    refine tp_pc (pc' := 153) (by rfl) ?_
                    refine lv_iconst (v := 0) hx hb d_Ref_action_153 (by decide) ?_
                    refine lv_istore (lv' := [(6, .int 0), (0, .ref ra), (1, .int t9x), (2, .int 5), (3, .int x9), (4, .int r9), (5, .int v9)]) hx hb d_Ref_action_154 hl (by decide) rfl ?_
                    clear hl ls
                    intro ls hl
                    refine lv_iload hx hb d_Ref_action_156 (lv_at hl 0 rfl) ?_
                    refine lv_if_ne (tgt := 163) hx hb d_Ref_action_158 (by decide) (fun c_136 => absurd c_136 (by decide)) (fun c_136 => ?_)
                    refine tp_pc (pc' := 161) (by rfl) ?_
                    refine lv_iconst (v := (-1)) hx hb d_Ref_action_161 (by decide) ?_
                    obtain ⟨hP9, hD9, -⟩ := cut3 (wc := [oc ra 8 [.int (nI T), .int (nI Ac), .ref (rA 2), .ref (rA 3), .ref (rA 4), .ref (rA 5), .ref (rA 6), .ref (rA 7), .ref (rA 8), .ref (rA 9), .ref (rA 10), .ref (rA 11), .ref (rA 12), .ref (rA 13), .int ir, .ref (rA 15), .ref (rA 16), .ref (rA 17), .ref (rA 18), .int (nI md), .int (nI wd), .ref (rA 21), .ref (rA 22), .ref (rA 23), .int (nI mn), .ref (rA 25), .int (nI cb), .int mr, .ref (rA 28), .ref (rA 29), .ref (rA 30), .ref (rA 31), .ref (rA 32), .ref (rA 33), .ref (rA 34), .ref (rA 35), .int (nI ld), .int (nI gm), .ref (rA 38), .ref (rA 39), .ref (rA 40), .ref (rA 41), .ref (rA 42), .ref (rA 43), .ref (rA 44), .ref (rA 45), .int (nI my), .ref (rA 47)], ia (rA 7) (rK9 7) 8 ff, ia (rA 2) (rK9 2) 4 (fun i => nI (zs i)), ia (rA 3) (rK9 3) 28 (fun i => nI (kd i)), ia (rA 4) (rK9 4) 28 (fun i => nI (vx i)), ia (rA 5) (rK9 5) 28 (fun i => nI (rr i)), ia (rA 6) (rK9 6) 28 vv]) hP hD rfl hS hA [0, 1, 2, 3, 4, 5, 6] (by decide +kernel) rfl
                    have hK9 := hK.sub (tys' := []) [] rfl
                    refine W.widen (k := 0) (n := 0) (by exact Nat.le_of_ble_eq_true rfl) (by exact Nat.le_of_ble_eq_true rfl) ?_
                    exact W.iret (v := (-1)) hx hb hr (fun t9 ht9 hW => ⟨⟨(-1), (), rfl, rfl, by rw [ht9]; exact hP9, va_K.moved hW.alike hK9, hD9⟩, hS.F ht9⟩) hS.2.2 d_Ref_action_162
                  · skip
                    refine tp_pc (pc' := 79) (by rfl) ?_
                    refine lv_iload_n hx hb d_Ref_action_79 rfl (lv_at hl 4 rfl) ?_
                    refine lv_iconst (v := 3) hx hb d_Ref_action_80 (by decide) ?_
                    refine lv_icmp_gt (tgt := 112) hx hb d_Ref_action_81 (by decide) (fun f2 => ?_) (fun f2 => ?_)
                    · skip
                      refine tp_pc (pc' := 112) (by rfl) ?_
                      refine lv_iconst (v := 0) hx hb d_Ref_action_112 (by decide) ?_
                      refine lv_istore (lv' := [(6, .int 0), (0, .ref ra), (1, .int t9x), (2, .int 5), (3, .int x9), (4, .int r9), (5, .int v9)]) hx hb d_Ref_action_113 hl (by decide) rfl ?_
                      clear hl ls
                      intro ls hl
                      refine lv_iload hx hb d_Ref_action_115 (lv_at hl 0 rfl) ?_
                      refine lv_if_eq (tgt := 153) hx hb d_Ref_action_117 (by decide) (fun c_137 => ?_) (fun c_137 => absurd c_137 (by decide))
                      refine tp_pc (pc' := 153) (by rfl) ?_
                      refine lv_iconst (v := 0) hx hb d_Ref_action_153 (by decide) ?_
                      refine lv_istore (lv' := [(6, .int 0), (0, .ref ra), (1, .int t9x), (2, .int 5), (3, .int x9), (4, .int r9), (5, .int v9)]) hx hb d_Ref_action_154 hl (by decide) rfl ?_
                      clear hl ls
                      intro ls hl
                      refine lv_iload hx hb d_Ref_action_156 (lv_at hl 0 rfl) ?_
                      refine lv_if_ne (tgt := 163) hx hb d_Ref_action_158 (by decide) (fun c_138 => absurd c_138 (by decide)) (fun c_138 => ?_)
                      refine tp_pc (pc' := 161) (by rfl) ?_
                      refine lv_iconst (v := (-1)) hx hb d_Ref_action_161 (by decide) ?_
                      obtain ⟨hP9, hD9, -⟩ := cut3 (wc := [oc ra 8 [.int (nI T), .int (nI Ac), .ref (rA 2), .ref (rA 3), .ref (rA 4), .ref (rA 5), .ref (rA 6), .ref (rA 7), .ref (rA 8), .ref (rA 9), .ref (rA 10), .ref (rA 11), .ref (rA 12), .ref (rA 13), .int ir, .ref (rA 15), .ref (rA 16), .ref (rA 17), .ref (rA 18), .int (nI md), .int (nI wd), .ref (rA 21), .ref (rA 22), .ref (rA 23), .int (nI mn), .ref (rA 25), .int (nI cb), .int mr, .ref (rA 28), .ref (rA 29), .ref (rA 30), .ref (rA 31), .ref (rA 32), .ref (rA 33), .ref (rA 34), .ref (rA 35), .int (nI ld), .int (nI gm), .ref (rA 38), .ref (rA 39), .ref (rA 40), .ref (rA 41), .ref (rA 42), .ref (rA 43), .ref (rA 44), .ref (rA 45), .int (nI my), .ref (rA 47)], ia (rA 7) (rK9 7) 8 ff, ia (rA 2) (rK9 2) 4 (fun i => nI (zs i)), ia (rA 3) (rK9 3) 28 (fun i => nI (kd i)), ia (rA 4) (rK9 4) 28 (fun i => nI (vx i)), ia (rA 5) (rK9 5) 28 (fun i => nI (rr i)), ia (rA 6) (rK9 6) 28 vv]) hP hD rfl hS hA [0, 1, 2, 3, 4, 5, 6] (by decide +kernel) rfl
                      have hK9 := hK.sub (tys' := []) [] rfl
                      refine W.widen (k := 0) (n := 0) (by exact Nat.le_of_ble_eq_true rfl) (by exact Nat.le_of_ble_eq_true rfl) ?_
                      exact W.iret (v := (-1)) hx hb hr (fun t9 ht9 hW => ⟨⟨(-1), (), rfl, rfl, by rw [ht9]; exact hP9, va_K.moved hW.alike hK9, hD9⟩, hS.F ht9⟩) hS.2.2 d_Ref_action_162
                    · skip
                      exact absurd hno (by rintro (h | h | h | h); (exact c1 h); (exact c2 h); (exact hc3 h); (exact h (actP_5.mpr ⟨⟨f1, f2⟩, ⟨e3, fun q => e4 (gt1.mpr q)⟩, ⟨e1, e2⟩⟩)))
        · skip
          have hc3 : Ac = 7 := (nI_eq (a := Ac) (b := 7) (by omega) (by omega)).mp c3
          refine tp_pc (pc' := 30) (by rfl) ?_
          refine lv_iconst (v := (-1)) hx hb d_Ref_action_30 (by decide) ?_
          obtain ⟨hP9, hD9, -⟩ := cut3 (wc := [oc ra 8 [.int (nI T), .int (nI Ac), .ref (rA 2), .ref (rA 3), .ref (rA 4), .ref (rA 5), .ref (rA 6), .ref (rA 7), .ref (rA 8), .ref (rA 9), .ref (rA 10), .ref (rA 11), .ref (rA 12), .ref (rA 13), .int ir, .ref (rA 15), .ref (rA 16), .ref (rA 17), .ref (rA 18), .int (nI md), .int (nI wd), .ref (rA 21), .ref (rA 22), .ref (rA 23), .int (nI mn), .ref (rA 25), .int (nI cb), .int mr, .ref (rA 28), .ref (rA 29), .ref (rA 30), .ref (rA 31), .ref (rA 32), .ref (rA 33), .ref (rA 34), .ref (rA 35), .int (nI ld), .int (nI gm), .ref (rA 38), .ref (rA 39), .ref (rA 40), .ref (rA 41), .ref (rA 42), .ref (rA 43), .ref (rA 44), .ref (rA 45), .int (nI my), .ref (rA 47)], ia (rA 7) (rK9 7) 8 ff, ia (rA 2) (rK9 2) 4 (fun i => nI (zs i)), ia (rA 3) (rK9 3) 28 (fun i => nI (kd i)), ia (rA 4) (rK9 4) 28 (fun i => nI (vx i)), ia (rA 5) (rK9 5) 28 (fun i => nI (rr i)), ia (rA 6) (rK9 6) 28 vv]) hP hD rfl hS hA [0, 1, 2, 3, 4, 5, 6] (by decide +kernel) rfl
          have hK9 := hK.sub (tys' := []) [] rfl
          refine W.widen (k := 0) (n := 0) (by exact Nat.le_of_ble_eq_true rfl) (by exact Nat.le_of_ble_eq_true rfl) ?_
          exact W.iret (v := (-1)) hx hb hr (fun t9 ht9 hW => ⟨⟨(-1), (), rfl, rfl, by rw [ht9]; exact hP9, va_K.moved hW.alike hK9, hD9⟩, hS.F ht9⟩) hS.2.2 d_Ref_action_31
      have hko := k_out2 (k_out hk0 hk1 hk2 hk3 hk4 hk5)
      refine tp_pc (pc' := 12) (by rfl) ?_
      refine lv_iload_n hx hb d_Ref_action_12 rfl (lv_at hl 2 rfl) ?_
      refine lv_if_lt (tgt := 30) hx hb d_Ref_action_13 (by decide) (fun c4 => ?_) (fun c4 => ?_)
      · skip
        refine tp_pc (pc' := 30) (by rfl) ?_
        refine lv_iconst (v := (-1)) hx hb d_Ref_action_30 (by decide) ?_
        obtain ⟨hP9, hD9, -⟩ := cut3 (wc := [oc ra 8 [.int (nI T), .int (nI Ac), .ref (rA 2), .ref (rA 3), .ref (rA 4), .ref (rA 5), .ref (rA 6), .ref (rA 7), .ref (rA 8), .ref (rA 9), .ref (rA 10), .ref (rA 11), .ref (rA 12), .ref (rA 13), .int ir, .ref (rA 15), .ref (rA 16), .ref (rA 17), .ref (rA 18), .int (nI md), .int (nI wd), .ref (rA 21), .ref (rA 22), .ref (rA 23), .int (nI mn), .ref (rA 25), .int (nI cb), .int mr, .ref (rA 28), .ref (rA 29), .ref (rA 30), .ref (rA 31), .ref (rA 32), .ref (rA 33), .ref (rA 34), .ref (rA 35), .int (nI ld), .int (nI gm), .ref (rA 38), .ref (rA 39), .ref (rA 40), .ref (rA 41), .ref (rA 42), .ref (rA 43), .ref (rA 44), .ref (rA 45), .int (nI my), .ref (rA 47)], ia (rA 7) (rK9 7) 8 ff, ia (rA 2) (rK9 2) 4 (fun i => nI (zs i)), ia (rA 3) (rK9 3) 28 (fun i => nI (kd i)), ia (rA 4) (rK9 4) 28 (fun i => nI (vx i)), ia (rA 5) (rK9 5) 28 (fun i => nI (rr i)), ia (rA 6) (rK9 6) 28 vv]) hP hD rfl hS hA [0, 1, 2, 3, 4, 5, 6] (by decide +kernel) rfl
        have hK9 := hK.sub (tys' := []) [] rfl
        refine W.widen (k := 0) (n := 0) (by exact Nat.le_of_ble_eq_true rfl) (by exact Nat.le_of_ble_eq_true rfl) ?_
        exact W.iret (v := (-1)) hx hb hr (fun t9 ht9 hW => ⟨⟨(-1), (), rfl, rfl, by rw [ht9]; exact hP9, va_K.moved hW.alike hK9, hD9⟩, hS.F ht9⟩) hS.2.2 d_Ref_action_31
      · skip
        refine tp_pc (pc' := 16) (by rfl) ?_
        refine lv_iload_n hx hb d_Ref_action_16 rfl (lv_at hl 2 rfl) ?_
        refine lv_iconst (v := 5) hx hb d_Ref_action_17 (by decide) ?_
        refine lv_icmp_gt (tgt := 30) hx hb d_Ref_action_18 (by decide) (fun c5 => ?_) (fun c5 => ?_)
        · skip
          refine tp_pc (pc' := 30) (by rfl) ?_
          refine lv_iconst (v := (-1)) hx hb d_Ref_action_30 (by decide) ?_
          obtain ⟨hP9, hD9, -⟩ := cut3 (wc := [oc ra 8 [.int (nI T), .int (nI Ac), .ref (rA 2), .ref (rA 3), .ref (rA 4), .ref (rA 5), .ref (rA 6), .ref (rA 7), .ref (rA 8), .ref (rA 9), .ref (rA 10), .ref (rA 11), .ref (rA 12), .ref (rA 13), .int ir, .ref (rA 15), .ref (rA 16), .ref (rA 17), .ref (rA 18), .int (nI md), .int (nI wd), .ref (rA 21), .ref (rA 22), .ref (rA 23), .int (nI mn), .ref (rA 25), .int (nI cb), .int mr, .ref (rA 28), .ref (rA 29), .ref (rA 30), .ref (rA 31), .ref (rA 32), .ref (rA 33), .ref (rA 34), .ref (rA 35), .int (nI ld), .int (nI gm), .ref (rA 38), .ref (rA 39), .ref (rA 40), .ref (rA 41), .ref (rA 42), .ref (rA 43), .ref (rA 44), .ref (rA 45), .int (nI my), .ref (rA 47)], ia (rA 7) (rK9 7) 8 ff, ia (rA 2) (rK9 2) 4 (fun i => nI (zs i)), ia (rA 3) (rK9 3) 28 (fun i => nI (kd i)), ia (rA 4) (rK9 4) 28 (fun i => nI (vx i)), ia (rA 5) (rK9 5) 28 (fun i => nI (rr i)), ia (rA 6) (rK9 6) 28 vv]) hP hD rfl hS hA [0, 1, 2, 3, 4, 5, 6] (by decide +kernel) rfl
          have hK9 := hK.sub (tys' := []) [] rfl
          refine W.widen (k := 0) (n := 0) (by exact Nat.le_of_ble_eq_true rfl) (by exact Nat.le_of_ble_eq_true rfl) ?_
          exact W.iret (v := (-1)) hx hb hr (fun t9 ht9 hW => ⟨⟨(-1), (), rfl, rfl, by rw [ht9]; exact hP9, va_K.moved hW.alike hK9, hD9⟩, hS.F ht9⟩) hS.2.2 d_Ref_action_31
        · skip
          exact absurd hko (fun h => h.elim c4 c5)
set_option maxHeartbeats 4000000 in
set_option maxRecDepth 100000 in
theorem gen_Ref_action_yes (l : Launch) (dC : Nat → ClassId) (dI : Nat → Nat → Nat) (ra : Nat) (rA : Nat → Nat) (rK9 : Nat → ClassId) (T Ac md wd mn cb ld gm my : Nat) (ir mr : Int32) (ff vv : Nat → Int32) (zs kd vx rr : Nat → Nat) (t k x rn : Nat) (v : Int32) (hok : actP (nI k) (nI x) (nI rn) v) (hT : T ≤ 4) (ht : t < T) (hA7 : Ac < 7) (hz6 : zs t ≤ 6) (hk6 : k < 6) (hx9 : x < 4) (hr2 : rn < 2) (sz : Nat) : Met l y_Ref_action w_Ref_action ({ frames := 1, cells := 0, slots := 0, locals := 40 }) (va_Pc [.ref ra, .int (nI t), .int (nI k), .int (nI x), .int (nI rn), .int v] (fun U => U.heap.size = sz ∧ va_P (dC, dI) classes [oc ra 8 [.int (nI T), .int (nI Ac), .ref (rA 2), .ref (rA 3), .ref (rA 4), .ref (rA 5), .ref (rA 6), .ref (rA 7), .ref (rA 8), .ref (rA 9), .ref (rA 10), .ref (rA 11), .ref (rA 12), .ref (rA 13), .int ir, .ref (rA 15), .ref (rA 16), .ref (rA 17), .ref (rA 18), .int (nI md), .int (nI wd), .ref (rA 21), .ref (rA 22), .ref (rA 23), .int (nI mn), .ref (rA 25), .int (nI cb), .int mr, .ref (rA 28), .ref (rA 29), .ref (rA 30), .ref (rA 31), .ref (rA 32), .ref (rA 33), .ref (rA 34), .ref (rA 35), .int (nI ld), .int (nI gm), .ref (rA 38), .ref (rA 39), .ref (rA 40), .ref (rA 41), .ref (rA 42), .ref (rA 43), .ref (rA 44), .ref (rA 45), .int (nI my), .ref (rA 47)], ia (rA 7) (rK9 7) 8 ff, ia (rA 2) (rK9 2) 4 (fun i => nI (zs i)), ia (rA 3) (rK9 3) 28 (fun i => nI (kd i)), ia (rA 4) (rK9 4) 28 (fun i => nI (vx i)), ia (rA 5) (rK9 5) 28 (fun i => nI (rr i)), ia (rA 6) (rK9 6) 28 vv] U.heap ∧ va_K (dC, dI) classes [((rK9 7), .boolean), ((rK9 2), .int), ((rK9 3), .int), ((rK9 4), .int), ((rK9 5), .int), ((rK9 6), .int)] U ∧ va_D (fun _ => True) [oc ra 8 [.int (nI T), .int (nI Ac), .ref (rA 2), .ref (rA 3), .ref (rA 4), .ref (rA 5), .ref (rA 6), .ref (rA 7), .ref (rA 8), .ref (rA 9), .ref (rA 10), .ref (rA 11), .ref (rA 12), .ref (rA 13), .int ir, .ref (rA 15), .ref (rA 16), .ref (rA 17), .ref (rA 18), .int (nI md), .int (nI wd), .ref (rA 21), .ref (rA 22), .ref (rA 23), .int (nI mn), .ref (rA 25), .int (nI cb), .int mr, .ref (rA 28), .ref (rA 29), .ref (rA 30), .ref (rA 31), .ref (rA 32), .ref (rA 33), .ref (rA 34), .ref (rA 35), .int (nI ld), .int (nI gm), .ref (rA 38), .ref (rA 39), .ref (rA 40), .ref (rA 41), .ref (rA 42), .ref (rA 43), .ref (rA 44), .ref (rA 45), .int (nI my), .ref (rA 47)], ia (rA 7) (rK9 7) 8 ff, ia (rA 2) (rK9 2) 4 (fun i => nI (zs i)), ia (rA 3) (rK9 3) 28 (fun i => nI (kd i)), ia (rA 4) (rK9 4) 28 (fun i => nI (vx i)), ia (rA 5) (rK9 5) 28 (fun i => nI (rr i)), ia (rA 6) (rK9 6) 28 vv] ∧ nw U)) (va_Qi (fun (r : Int32) (_ : Unit) => r = nI (zs t + 1)) (fun _ t9 => va_P (dC, dI) classes [oc ra 8 [.int (nI T), .int (nI (Ac + 1)), .ref (rA 2), .ref (rA 3), .ref (rA 4), .ref (rA 5), .ref (rA 6), .ref (rA 7), .ref (rA 8), .ref (rA 9), .ref (rA 10), .ref (rA 11), .ref (rA 12), .ref (rA 13), .int 0, .ref (rA 15), .ref (rA 16), .ref (rA 17), .ref (rA 18), .int (nI md), .int (nI wd), .ref (rA 21), .ref (rA 22), .ref (rA 23), .int (nI mn), .ref (rA 25), .int (nI cb), .int mr, .ref (rA 28), .ref (rA 29), .ref (rA 30), .ref (rA 31), .ref (rA 32), .ref (rA 33), .ref (rA 34), .ref (rA 35), .int (nI ld), .int (nI gm), .ref (rA 38), .ref (rA 39), .ref (rA 40), .ref (rA 41), .ref (rA 42), .ref (rA 43), .ref (rA 44), .ref (rA 45), .int (nI my), .ref (rA 47)], ia (rA 7) (rK9 7) 8 (fun _ => 0), ia (rA 2) (rK9 2) 4 (fun i => nI ((updN zs t (zs t + 1)) i)), ia (rA 3) (rK9 3) 28 (fun i => nI ((updN kd (7 * t + zs t) k) i)), ia (rA 4) (rK9 4) 28 (fun i => nI ((updN vx (7 * t + zs t) x) i)), ia (rA 5) (rK9 5) 28 (fun i => nI ((updN rr (7 * t + zs t) rn) i)), ia (rA 6) (rK9 6) 28 (upd vv (7 * t + zs t) v)] t9.heap ∧ va_K (dC, dI) classes [] t9 ∧ va_D (va_A [oc ra 8 [.int (nI T), .int (nI Ac), .ref (rA 2), .ref (rA 3), .ref (rA 4), .ref (rA 5), .ref (rA 6), .ref (rA 7), .ref (rA 8), .ref (rA 9), .ref (rA 10), .ref (rA 11), .ref (rA 12), .ref (rA 13), .int ir, .ref (rA 15), .ref (rA 16), .ref (rA 17), .ref (rA 18), .int (nI md), .int (nI wd), .ref (rA 21), .ref (rA 22), .ref (rA 23), .int (nI mn), .ref (rA 25), .int (nI cb), .int mr, .ref (rA 28), .ref (rA 29), .ref (rA 30), .ref (rA 31), .ref (rA 32), .ref (rA 33), .ref (rA 34), .ref (rA 35), .int (nI ld), .int (nI gm), .ref (rA 38), .ref (rA 39), .ref (rA 40), .ref (rA 41), .ref (rA 42), .ref (rA 43), .ref (rA 44), .ref (rA 45), .int (nI my), .ref (rA 47)], ia (rA 7) (rK9 7) 8 ff, ia (rA 2) (rK9 2) 4 (fun i => nI (zs i)), ia (rA 3) (rK9 3) 28 (fun i => nI (kd i)), ia (rA 4) (rK9 4) 28 (fun i => nI (vx i)), ia (rA 5) (rK9 5) 28 (fun i => nI (rr i)), ia (rA 6) (rK9 6) 28 vv] sz) [oc ra 8 [.int (nI T), .int (nI (Ac + 1)), .ref (rA 2), .ref (rA 3), .ref (rA 4), .ref (rA 5), .ref (rA 6), .ref (rA 7), .ref (rA 8), .ref (rA 9), .ref (rA 10), .ref (rA 11), .ref (rA 12), .ref (rA 13), .int 0, .ref (rA 15), .ref (rA 16), .ref (rA 17), .ref (rA 18), .int (nI md), .int (nI wd), .ref (rA 21), .ref (rA 22), .ref (rA 23), .int (nI mn), .ref (rA 25), .int (nI cb), .int mr, .ref (rA 28), .ref (rA 29), .ref (rA 30), .ref (rA 31), .ref (rA 32), .ref (rA 33), .ref (rA 34), .ref (rA 35), .int (nI ld), .int (nI gm), .ref (rA 38), .ref (rA 39), .ref (rA 40), .ref (rA 41), .ref (rA 42), .ref (rA 43), .ref (rA 44), .ref (rA 45), .int (nI my), .ref (rA 47)], ia (rA 7) (rK9 7) 8 (fun _ => 0), ia (rA 2) (rK9 2) 4 (fun i => nI ((updN zs t (zs t + 1)) i)), ia (rA 3) (rK9 3) 28 (fun i => nI ((updN kd (7 * t + zs t) k) i)), ia (rA 4) (rK9 4) 28 (fun i => nI ((updN vx (7 * t + zs t) x) i)), ia (rA 5) (rK9 5) 28 (fun i => nI ((updN rr (7 * t + zs t) rn) i)), ia (rA 6) (rK9 6) 28 (upd vv (7 * t + zs t) v)]) (va_A [oc ra 8 [.int (nI T), .int (nI Ac), .ref (rA 2), .ref (rA 3), .ref (rA 4), .ref (rA 5), .ref (rA 6), .ref (rA 7), .ref (rA 8), .ref (rA 9), .ref (rA 10), .ref (rA 11), .ref (rA 12), .ref (rA 13), .int ir, .ref (rA 15), .ref (rA 16), .ref (rA 17), .ref (rA 18), .int (nI md), .int (nI wd), .ref (rA 21), .ref (rA 22), .ref (rA 23), .int (nI mn), .ref (rA 25), .int (nI cb), .int mr, .ref (rA 28), .ref (rA 29), .ref (rA 30), .ref (rA 31), .ref (rA 32), .ref (rA 33), .ref (rA 34), .ref (rA 35), .int (nI ld), .int (nI gm), .ref (rA 38), .ref (rA 39), .ref (rA 40), .ref (rA 41), .ref (rA 42), .ref (rA 43), .ref (rA 44), .ref (rA 45), .int (nI my), .ref (rA 47)], ia (rA 7) (rK9 7) 8 ff, ia (rA 2) (rK9 2) 4 (fun i => nI (zs i)), ia (rA 3) (rK9 3) 28 (fun i => nI (kd i)), ia (rA 4) (rK9 4) 28 (fun i => nI (vx i)), ia (rA 5) (rK9 5) 28 (fun i => nI (rr i)), ia (rA 6) (rK9 6) 28 vv] sz)) 0 0 (va_A [oc ra 8 [.int (nI T), .int (nI Ac), .ref (rA 2), .ref (rA 3), .ref (rA 4), .ref (rA 5), .ref (rA 6), .ref (rA 7), .ref (rA 8), .ref (rA 9), .ref (rA 10), .ref (rA 11), .ref (rA 12), .ref (rA 13), .int ir, .ref (rA 15), .ref (rA 16), .ref (rA 17), .ref (rA 18), .int (nI md), .int (nI wd), .ref (rA 21), .ref (rA 22), .ref (rA 23), .int (nI mn), .ref (rA 25), .int (nI cb), .int mr, .ref (rA 28), .ref (rA 29), .ref (rA 30), .ref (rA 31), .ref (rA 32), .ref (rA 33), .ref (rA 34), .ref (rA 35), .int (nI ld), .int (nI gm), .ref (rA 38), .ref (rA 39), .ref (rA 40), .ref (rA 41), .ref (rA 42), .ref (rA 43), .ref (rA 44), .ref (rA 45), .int (nI my), .ref (rA 47)], ia (rA 7) (rK9 7) 8 ff, ia (rA 2) (rK9 2) 4 (fun i => nI (zs i)), ia (rA 3) (rK9 3) 28 (fun i => nI (kd i)), ia (rA 4) (rK9 4) 28 (fun i => nI (vx i)), ia (rA 5) (rK9 5) 28 (fun i => nI (rr i)), ia (rA 6) (rK9 6) 28 vv] sz) := by
  refine Met.ofW (cc := b_Ref_action) (maxL := 8) (ret := (some .int)) (by decide) rfl ?_
  intro p e0 s m args below meth c s₁ B hml hv
  obtain ⟨rfl, hsz, hP, hK, hD0, hn⟩ := hv
  have hx := B.exec
  have hb := B.bytes
  have hr := B.returns
  have hw := fun w (h : w ∈ wt) => atoms_spec (ws := w_Ref_action) B.pre w (List.mem_cons_of_mem _ h)
  have hown : s.vm.findClass R_Ref = some m.cls := findClass_of_methodNamed B.named
  have hlocks := B.notSynchronized
  subst hsz
  have hD1 := hD0.self (sz := s.heap.size)
  generalize hAe : va_A [oc ra 8 [.int (nI T), .int (nI Ac), .ref (rA 2), .ref (rA 3), .ref (rA 4), .ref (rA 5), .ref (rA 6), .ref (rA 7), .ref (rA 8), .ref (rA 9), .ref (rA 10), .ref (rA 11), .ref (rA 12), .ref (rA 13), .int ir, .ref (rA 15), .ref (rA 16), .ref (rA 17), .ref (rA 18), .int (nI md), .int (nI wd), .ref (rA 21), .ref (rA 22), .ref (rA 23), .int (nI mn), .ref (rA 25), .int (nI cb), .int mr, .ref (rA 28), .ref (rA 29), .ref (rA 30), .ref (rA 31), .ref (rA 32), .ref (rA 33), .ref (rA 34), .ref (rA 35), .int (nI ld), .int (nI gm), .ref (rA 38), .ref (rA 39), .ref (rA 40), .ref (rA 41), .ref (rA 42), .ref (rA 43), .ref (rA 44), .ref (rA 45), .int (nI my), .ref (rA 47)], ia (rA 7) (rK9 7) 8 ff, ia (rA 2) (rK9 2) 4 (fun i => nI (zs i)), ia (rA 3) (rK9 3) 28 (fun i => nI (kd i)), ia (rA 4) (rK9 4) 28 (fun i => nI (vx i)), ia (rA 5) (rK9 5) 28 (fun i => nI (rr i)), ia (rA 6) (rK9 6) 28 vv] s.heap.size = A at hD1 ⊢
  have hA : ∀ q : Nat, s.heap.size ≤ q → A q := fun q h => by rw [← hAe]; exact Or.inr h
  have hD : dd A [ra, (rA 7), (rA 2), (rA 3), (rA 4), (rA 5), (rA 6)] := dd_of hD1 rfl
  clear hAe hD0 hD1
  have hS : va_S A s.heap s.heap [] := va_S.rf
  replace hP : va_P (dC, dI) classes [oc ra 8 [.int (nI T), .int (nI Ac), .ref (rA 2), .ref (rA 3), .ref (rA 4), .ref (rA 5), .ref (rA 6), .ref (rA 7), .ref (rA 8), .ref (rA 9), .ref (rA 10), .ref (rA 11), .ref (rA 12), .ref (rA 13), .int ir, .ref (rA 15), .ref (rA 16), .ref (rA 17), .ref (rA 18), .int (nI md), .int (nI wd), .ref (rA 21), .ref (rA 22), .ref (rA 23), .int (nI mn), .ref (rA 25), .int (nI cb), .int mr, .ref (rA 28), .ref (rA 29), .ref (rA 30), .ref (rA 31), .ref (rA 32), .ref (rA 33), .ref (rA 34), .ref (rA 35), .int (nI ld), .int (nI gm), .ref (rA 38), .ref (rA 39), .ref (rA 40), .ref (rA 41), .ref (rA 42), .ref (rA 43), .ref (rA 44), .ref (rA 45), .int (nI my), .ref (rA 47)], ia (rA 7) (rK9 7) 8 ff, ia (rA 2) (rK9 2) 4 (fun i => nI (zs i)), ia (rA 3) (rK9 3) 28 (fun i => nI (kd i)), ia (rA 4) (rK9 4) 28 (fun i => nI (vx i)), ia (rA 5) (rK9 5) 28 (fun i => nI (rr i)), ia (rA 6) (rK9 6) 28 vv] s.heap := hP
  have hl := lv_entry ([.ref ra, .int (nI t), .int (nI k), .int (nI x), .int (nI rn), .int v]) (n := 8) (Nat.le_of_ble_eq_true rfl)
  rw [lg_entry_eq]
  generalize (lg_sl ([.ref ra, .int (nI t), .int (nI k), .int (nI x), .int (nI rn), .int v]) ++ List.replicate (8 - (lg_sl ([.ref ra, .int (nI t), .int (nI k), .int (nI x), .int (nI rn), .int v])).length) Slot.unset).toArray = ls at hl ⊢
  replace hl : lv_has ls 8 [(0, .ref ra), (1, .int (nI t)), (2, .int (nI k)), (3, .int (nI x)), (4, .int (nI rn)), (5, .int v)] := hl
  refine lv_iload_n hx hb d_Ref_action_0 rfl (lv_at hl 1 rfl) ?_
  refine lv_if_lt (tgt := 30) hx hb d_Ref_action_1 (by decide) (fun c9 => absurd c9 (nI_pos (by omega))) (fun c9 => ?_)
  refine tp_pc (pc' := 4) (by rfl) ?_
  refine lv_iload_n hx hb d_Ref_action_4 rfl (lv_at hl 1 rfl) ?_
  refine lv_aload_n hx hb d_Ref_action_5 rfl (lv_at hl 0 rfl) ?_
  refine va_get (D := (dC, dI)) (ci := 8) (v := .int (nI T)) (C := R_Ref) (T := F_Ref) (N := 48) hx hb hw i_Ref hown hK hP 0 rfl rfl 0 (by decide) (hw _ m_899) (fun _ h9 => h9) rfl d_Ref_action_6 ?_
  refine lv_icmp_ge (tgt := 30) hx hb d_Ref_action_9 (by decide) (fun c9 => absurd c9 (nI_ge ht (by omega))) (fun c9 => ?_)
  rcases (by omega : k = 0 ∨ k = 1 ∨ k = 2 ∨ k = 3 ∨ k = 4 ∨ k = 5) with hkk | hkk | hkk | hkk | hkk | hkk
  · skip
    replace hl : lv_has ls 8 [(0, .ref ra), (1, .int (nI t)), (2, .int 0), (3, .int (nI x)), (4, .int (nI rn)), (5, .int v)] := by rw [hkk] at hl; exact hl
    have ho := actP_0.mp (by rw [hkk] at hok; exact hok)
    refine tp_pc (pc' := 12) (by rfl) ?_
    refine lv_iload_n hx hb d_Ref_action_12 rfl (lv_at hl 2 rfl) ?_
    refine lv_if_lt (tgt := 30) hx hb d_Ref_action_13 (by decide) (fun c_1 => absurd c_1 (by decide)) (fun c_1 => ?_)
    refine tp_pc (pc' := 16) (by rfl) ?_
    refine lv_iload_n hx hb d_Ref_action_16 rfl (lv_at hl 2 rfl) ?_
    refine lv_iconst (v := 5) hx hb d_Ref_action_17 (by decide) ?_
    refine lv_icmp_gt (tgt := 30) hx hb d_Ref_action_18 (by decide) (fun c_2 => absurd c_2 (by decide)) (fun c_2 => ?_)
    refine tp_pc (pc' := 21) (by rfl) ?_
    refine lv_aload_n hx hb d_Ref_action_21 rfl (lv_at hl 0 rfl) ?_
    refine va_get (D := (dC, dI)) (ci := 8) (v := .int (nI Ac)) (C := R_Ref) (T := F_Ref) (N := 48) hx hb hw i_Ref hown hK hP 0 rfl rfl 1 (by decide) (hw _ m_900) (fun _ h9 => h9) rfl d_Ref_action_22 ?_
    refine lv_bipush (v := 7) hx hb d_Ref_action_25 (by decide) ?_
    refine lv_icmp_ne (tgt := 32) hx hb d_Ref_action_27 (by decide) (fun c9 => ?_) (fun c9 => absurd ((nI_eq (a := Ac) (b := 7) (by omega) (by omega)).mp c9) (by omega))
    refine tp_pc (pc' := 32) (by rfl) ?_
    refine lv_iload hx hb d_Ref_action_32 (lv_at hl 5 rfl) ?_
    refine lv_bipush (v := (-9)) hx hb d_Ref_action_34 (by decide) ?_
    refine lv_icmp_lt (tgt := 61) hx hb d_Ref_action_36 (by decide) (fun c9 => absurd c9 (by rw [ho.2.2]; decide)) (fun c9 => ?_)
    refine tp_pc (pc' := 39) (by rfl) ?_
    refine lv_iload hx hb d_Ref_action_39 (lv_at hl 5 rfl) ?_
    refine lv_bipush (v := 9) hx hb d_Ref_action_41 (by decide) ?_
    refine lv_icmp_gt (tgt := 61) hx hb d_Ref_action_43 (by decide) (fun c9 => absurd c9 (by rw [ho.2.2]; decide)) (fun c9 => ?_)
    refine tp_pc (pc' := 46) (by rfl) ?_
    refine lv_iload hx hb d_Ref_action_46 (lv_at hl 4 rfl) ?_
    refine lv_if_lt (tgt := 61) hx hb d_Ref_action_48 (by decide) (fun c9 => absurd c9 (nI_pos (by omega))) (fun c9 => ?_)
    refine tp_pc (pc' := 51) (by rfl) ?_
    refine lv_iload hx hb d_Ref_action_51 (lv_at hl 4 rfl) ?_
    refine lv_iconst (v := 1) hx hb d_Ref_action_53 (by decide) ?_
    refine lv_icmp_gt (tgt := 61) hx hb d_Ref_action_54 (by decide) (fun c9 => absurd ((nI_ltI (a := 1) (b := rn) (by omega) (by omega)).mp c9) (by omega)) (fun c9 => ?_)
    refine tp_pc (pc' := 57) (by rfl) ?_
    refine lv_iconst (v := 1) hx hb d_Ref_action_57 (by decide) ?_
    refine lv_goto (tgt := 62) hx hb d_Ref_action_58 (by decide) ?_
    refine tp_pc (pc' := 62) (by rfl) ?_
    refine lv_istore (lv' := [(6, .int 1), (0, .ref ra), (1, .int (nI t)), (2, .int 0), (3, .int (nI x)), (4, .int (nI rn)), (5, .int v)]) hx hb d_Ref_action_62 hl (by decide) rfl ?_
    clear hl ls
    intro ls hl
    refine lv_iload hx hb d_Ref_action_64 (lv_at hl 0 rfl) ?_
    refine lv_if_eq (tgt := 112) hx hb d_Ref_action_66 (by decide) (fun c_3 => absurd c_3 (by decide)) (fun c_3 => ?_)
    refine tp_pc (pc' := 69) (by rfl) ?_
    refine lv_iload_n hx hb d_Ref_action_69 rfl (lv_at hl 3 rfl) ?_
    refine lv_iconst (v := 5) hx hb d_Ref_action_70 (by decide) ?_
    refine lv_icmp_ne (tgt := 87) hx hb d_Ref_action_71 (by decide) (fun c_4 => ?_) (fun c_4 => absurd c_4 (by decide))
    refine tp_pc (pc' := 87) (by rfl) ?_
    refine lv_iload_n hx hb d_Ref_action_87 rfl (lv_at hl 3 rfl) ?_
    refine lv_iconst (v := 4) hx hb d_Ref_action_88 (by decide) ?_
    refine lv_icmp_ne (tgt := 99) hx hb d_Ref_action_89 (by decide) (fun c_5 => ?_) (fun c_5 => absurd c_5 (by decide))
    refine tp_pc (pc' := 99) (by rfl) ?_
    refine lv_iload_n hx hb d_Ref_action_99 rfl (lv_at hl 4 rfl) ?_
    refine lv_if_lt (tgt := 112) hx hb d_Ref_action_100 (by decide) (fun c9 => absurd c9 ho.1.1) (fun c9 => ?_)
    refine tp_pc (pc' := 103) (by rfl) ?_
    refine lv_iload_n hx hb d_Ref_action_103 rfl (lv_at hl 4 rfl) ?_
    refine lv_iconst (v := 2) hx hb d_Ref_action_104 (by decide) ?_
    refine lv_icmp_gt (tgt := 112) hx hb d_Ref_action_105 (by decide) (fun c9 => absurd (gt2.mp c9) ho.1.2) (fun c9 => ?_)
    refine tp_pc (pc' := 108) (by rfl) ?_
    refine lv_iconst (v := 1) hx hb d_Ref_action_108 (by decide) ?_
    refine lv_goto (tgt := 113) hx hb d_Ref_action_109 (by decide) ?_
    refine tp_pc (pc' := 113) (by rfl) ?_
    refine lv_istore (lv' := [(6, .int 1), (0, .ref ra), (1, .int (nI t)), (2, .int 0), (3, .int (nI x)), (4, .int (nI rn)), (5, .int v)]) hx hb d_Ref_action_113 hl (by decide) rfl ?_
    clear hl ls
    intro ls hl
    refine lv_iload hx hb d_Ref_action_115 (lv_at hl 0 rfl) ?_
    refine lv_if_eq (tgt := 153) hx hb d_Ref_action_117 (by decide) (fun c_6 => absurd c_6 (by decide)) (fun c_6 => ?_)
    refine tp_pc (pc' := 120) (by rfl) ?_
    refine lv_iload_n hx hb d_Ref_action_120 rfl (lv_at hl 3 rfl) ?_
    refine lv_iconst (v := 1) hx hb d_Ref_action_121 (by decide) ?_
    refine lv_icmp_eq (tgt := 130) hx hb d_Ref_action_122 (by decide) (fun c_7 => absurd c_7 (by decide)) (fun c_7 => ?_)
    refine tp_pc (pc' := 125) (by rfl) ?_
    refine lv_iload_n hx hb d_Ref_action_125 rfl (lv_at hl 3 rfl) ?_
    refine lv_iconst (v := 4) hx hb d_Ref_action_126 (by decide) ?_
    refine lv_icmp_ne (tgt := 135) hx hb d_Ref_action_127 (by decide) (fun c_8 => ?_) (fun c_8 => absurd c_8 (by decide))
    refine tp_pc (pc' := 135) (by rfl) ?_
    refine lv_iload_n hx hb d_Ref_action_135 rfl (lv_at hl 3 rfl) ?_
    refine lv_if_eq (tgt := 144) hx hb d_Ref_action_136 (by decide) (fun c_9 => ?_) (fun c_9 => absurd c_9 (by decide))
    refine tp_pc (pc' := 144) (by rfl) ?_
    refine lv_iload hx hb d_Ref_action_144 (lv_at hl 6 rfl) ?_
    refine lv_if_ne (tgt := 153) hx hb d_Ref_action_146 (by decide) (fun c9 => absurd ho.2.2 c9) (fun c9 => ?_)
    refine tp_pc (pc' := 149) (by rfl) ?_
    refine lv_iconst (v := 1) hx hb d_Ref_action_149 (by decide) ?_
    refine lv_goto (tgt := 154) hx hb d_Ref_action_150 (by decide) ?_
    refine tp_pc (pc' := 154) (by rfl) ?_
    refine lv_istore (lv' := [(6, .int 1), (0, .ref ra), (1, .int (nI t)), (2, .int 0), (3, .int (nI x)), (4, .int (nI rn)), (5, .int v)]) hx hb d_Ref_action_154 hl (by decide) rfl ?_
    clear hl ls
    intro ls hl
    refine lv_iload hx hb d_Ref_action_156 (lv_at hl 0 rfl) ?_
    refine lv_if_ne (tgt := 163) hx hb d_Ref_action_158 (by decide) (fun c_10 => ?_) (fun c_10 => absurd c_10 (by decide))
    refine tp_pc (pc' := 163) (by rfl) ?_
    replace hl : lv_has ls 8 [(6, .int 1), (0, .ref ra), (1, .int (nI t)), (2, .int (nI k)), (3, .int (nI x)), (4, .int (nI rn)), (5, .int v)] := by rw [hkk]; exact hl
    refine lv_bipush (v := 7) hx hb d_Ref_action_163 (by decide) ?_
    refine lv_iload_n hx hb d_Ref_action_165 rfl (lv_at hl 2 rfl) ?_
    refine lv_imul hx hb d_Ref_action_166 ?_
    refine tp_i (y := nI (7 * t)) (by exact pk_mul 7 t) ?_
    refine lv_aload_n hx hb d_Ref_action_167 rfl (lv_at hl 1 rfl) ?_
    refine va_get (D := (dC, dI)) (ci := 8) (v := .ref (rA 2)) (C := R_Ref) (T := F_Ref) (N := 48) hx hb hw i_Ref hown hK hP 0 rfl rfl 2 (by decide) (hw _ m_901) (fun _ h9 => h9) rfl d_Ref_action_168 ?_
    refine lv_iload_n hx hb d_Ref_action_171 rfl (lv_at hl 2 rfl) ?_
    refine va_iald (D := (dC, dI)) hx hb hK hP 2 1 rfl rfl (i := nI t) (pk_in t 4 (by omega)) d_Ref_action_172 ?_
    refine tp_i (y := nI (zs t)) (by rw [show (nI t : Int32).toNatClampNeg = t from pk_cl t]) ?_
    refine lv_iadd hx hb d_Ref_action_173 ?_
    refine tp_i (y := nI (7 * t + (zs t))) (by exact nI_add (7 * t) (zs t)) ?_
    refine lv_istore (lv' := [(7, .int (nI (7 * t + (zs t)))), (6, .int 1), (0, .ref ra), (1, .int (nI t)), (2, .int (nI k)), (3, .int (nI x)), (4, .int (nI rn)), (5, .int v)]) hx hb d_Ref_action_174 hl (by decide) rfl ?_
    clear hl ls
    intro ls hl
    refine lv_aload_n hx hb d_Ref_action_176 rfl (lv_at hl 2 rfl) ?_
    refine va_get (D := (dC, dI)) (ci := 8) (v := .ref (rA 3)) (C := R_Ref) (T := F_Ref) (N := 48) hx hb hw i_Ref hown hK hP 0 rfl rfl 3 (by decide) (hw _ m_902) (fun _ h9 => h9) rfl d_Ref_action_177 ?_
    refine lv_iload hx hb d_Ref_action_180 (lv_at hl 0 rfl) ?_
    refine lv_iload_n hx hb d_Ref_action_182 rfl (lv_at hl 4 rfl) ?_
    refine va_iast (D := (dC, dI)) hx hb hK hP (dd_D hD rfl) hS 3 2 rfl rfl (i := nI (7 * t + (zs t))) (x := nI k) (pk_in (7 * t + (zs t)) 28 (by omega)) d_Ref_action_183 ?_
    clear hP hS
    intro H locs hP _ hS
    rw [show (nI (7 * t + (zs t)) : Int32).toNatClampNeg = 7 * t + (zs t) from pk_cl (7 * t + (zs t))] at hP
    rw [show upd (fun i => nI (kd i)) (7 * t + (zs t)) (nI k) = fun i => nI (updN kd (7 * t + (zs t)) k i) from upd_nI] at hP
    replace hP : va_P (dC, dI) classes [oc ra 8 [.int (nI T), .int (nI Ac), .ref (rA 2), .ref (rA 3), .ref (rA 4), .ref (rA 5), .ref (rA 6), .ref (rA 7), .ref (rA 8), .ref (rA 9), .ref (rA 10), .ref (rA 11), .ref (rA 12), .ref (rA 13), .int ir, .ref (rA 15), .ref (rA 16), .ref (rA 17), .ref (rA 18), .int (nI md), .int (nI wd), .ref (rA 21), .ref (rA 22), .ref (rA 23), .int (nI mn), .ref (rA 25), .int (nI cb), .int mr, .ref (rA 28), .ref (rA 29), .ref (rA 30), .ref (rA 31), .ref (rA 32), .ref (rA 33), .ref (rA 34), .ref (rA 35), .int (nI ld), .int (nI gm), .ref (rA 38), .ref (rA 39), .ref (rA 40), .ref (rA 41), .ref (rA 42), .ref (rA 43), .ref (rA 44), .ref (rA 45), .int (nI my), .ref (rA 47)], ia (rA 7) (rK9 7) 8 ff, ia (rA 2) (rK9 2) 4 (fun i => nI (zs i)), ia (rA 3) (rK9 3) 28 (fun i => nI ((updN kd (7 * t + (zs t)) k) i)), ia (rA 4) (rK9 4) 28 (fun i => nI (vx i)), ia (rA 5) (rK9 5) 28 (fun i => nI (rr i)), ia (rA 6) (rK9 6) 28 vv] H := hP
    refine tp_pc (pc' := 184) (by rfl) ?_
    refine lv_aload_n hx hb d_Ref_action_184 rfl (lv_at hl 2 rfl) ?_
    refine va_get (D := (dC, dI)) (ci := 8) (v := .ref (rA 4)) (C := R_Ref) (T := F_Ref) (N := 48) hx hb hw i_Ref hown hK hP 0 rfl rfl 4 (by decide) (hw _ m_903) (fun _ h9 => h9) rfl d_Ref_action_185 ?_
    refine lv_iload hx hb d_Ref_action_188 (lv_at hl 0 rfl) ?_
    refine lv_iload_n hx hb d_Ref_action_190 rfl (lv_at hl 5 rfl) ?_
    refine va_iast (D := (dC, dI)) hx hb hK hP (dd_D hD rfl) hS 4 3 rfl rfl (i := nI (7 * t + (zs t))) (x := nI x) (pk_in (7 * t + (zs t)) 28 (by omega)) d_Ref_action_191 ?_
    clear hP hS locs H
    intro H locs hP _ hS
    rw [show (nI (7 * t + (zs t)) : Int32).toNatClampNeg = 7 * t + (zs t) from pk_cl (7 * t + (zs t))] at hP
    rw [show upd (fun i => nI (vx i)) (7 * t + (zs t)) (nI x) = fun i => nI (updN vx (7 * t + (zs t)) x i) from upd_nI] at hP
    replace hP : va_P (dC, dI) classes [oc ra 8 [.int (nI T), .int (nI Ac), .ref (rA 2), .ref (rA 3), .ref (rA 4), .ref (rA 5), .ref (rA 6), .ref (rA 7), .ref (rA 8), .ref (rA 9), .ref (rA 10), .ref (rA 11), .ref (rA 12), .ref (rA 13), .int ir, .ref (rA 15), .ref (rA 16), .ref (rA 17), .ref (rA 18), .int (nI md), .int (nI wd), .ref (rA 21), .ref (rA 22), .ref (rA 23), .int (nI mn), .ref (rA 25), .int (nI cb), .int mr, .ref (rA 28), .ref (rA 29), .ref (rA 30), .ref (rA 31), .ref (rA 32), .ref (rA 33), .ref (rA 34), .ref (rA 35), .int (nI ld), .int (nI gm), .ref (rA 38), .ref (rA 39), .ref (rA 40), .ref (rA 41), .ref (rA 42), .ref (rA 43), .ref (rA 44), .ref (rA 45), .int (nI my), .ref (rA 47)], ia (rA 7) (rK9 7) 8 ff, ia (rA 2) (rK9 2) 4 (fun i => nI (zs i)), ia (rA 3) (rK9 3) 28 (fun i => nI ((updN kd (7 * t + (zs t)) k) i)), ia (rA 4) (rK9 4) 28 (fun i => nI ((updN vx (7 * t + (zs t)) x) i)), ia (rA 5) (rK9 5) 28 (fun i => nI (rr i)), ia (rA 6) (rK9 6) 28 vv] H := hP
    refine tp_pc (pc' := 192) (by rfl) ?_
    refine lv_aload_n hx hb d_Ref_action_192 rfl (lv_at hl 2 rfl) ?_
    refine va_get (D := (dC, dI)) (ci := 8) (v := .ref (rA 5)) (C := R_Ref) (T := F_Ref) (N := 48) hx hb hw i_Ref hown hK hP 0 rfl rfl 5 (by decide) (hw _ m_904) (fun _ h9 => h9) rfl d_Ref_action_193 ?_
    refine lv_iload hx hb d_Ref_action_196 (lv_at hl 0 rfl) ?_
    refine lv_iload hx hb d_Ref_action_198 (lv_at hl 6 rfl) ?_
    refine va_iast (D := (dC, dI)) hx hb hK hP (dd_D hD rfl) hS 5 4 rfl rfl (i := nI (7 * t + (zs t))) (x := nI rn) (pk_in (7 * t + (zs t)) 28 (by omega)) d_Ref_action_200 ?_
    clear hP hS locs H
    intro H locs hP _ hS
    rw [show (nI (7 * t + (zs t)) : Int32).toNatClampNeg = 7 * t + (zs t) from pk_cl (7 * t + (zs t))] at hP
    rw [show upd (fun i => nI (rr i)) (7 * t + (zs t)) (nI rn) = fun i => nI (updN rr (7 * t + (zs t)) rn i) from upd_nI] at hP
    replace hP : va_P (dC, dI) classes [oc ra 8 [.int (nI T), .int (nI Ac), .ref (rA 2), .ref (rA 3), .ref (rA 4), .ref (rA 5), .ref (rA 6), .ref (rA 7), .ref (rA 8), .ref (rA 9), .ref (rA 10), .ref (rA 11), .ref (rA 12), .ref (rA 13), .int ir, .ref (rA 15), .ref (rA 16), .ref (rA 17), .ref (rA 18), .int (nI md), .int (nI wd), .ref (rA 21), .ref (rA 22), .ref (rA 23), .int (nI mn), .ref (rA 25), .int (nI cb), .int mr, .ref (rA 28), .ref (rA 29), .ref (rA 30), .ref (rA 31), .ref (rA 32), .ref (rA 33), .ref (rA 34), .ref (rA 35), .int (nI ld), .int (nI gm), .ref (rA 38), .ref (rA 39), .ref (rA 40), .ref (rA 41), .ref (rA 42), .ref (rA 43), .ref (rA 44), .ref (rA 45), .int (nI my), .ref (rA 47)], ia (rA 7) (rK9 7) 8 ff, ia (rA 2) (rK9 2) 4 (fun i => nI (zs i)), ia (rA 3) (rK9 3) 28 (fun i => nI ((updN kd (7 * t + (zs t)) k) i)), ia (rA 4) (rK9 4) 28 (fun i => nI ((updN vx (7 * t + (zs t)) x) i)), ia (rA 5) (rK9 5) 28 (fun i => nI ((updN rr (7 * t + (zs t)) rn) i)), ia (rA 6) (rK9 6) 28 vv] H := hP
    refine tp_pc (pc' := 201) (by rfl) ?_
    refine lv_aload_n hx hb d_Ref_action_201 rfl (lv_at hl 2 rfl) ?_
    refine va_get (D := (dC, dI)) (ci := 8) (v := .ref (rA 6)) (C := R_Ref) (T := F_Ref) (N := 48) hx hb hw i_Ref hown hK hP 0 rfl rfl 6 (by decide) (hw _ m_905) (fun _ h9 => h9) rfl d_Ref_action_202 ?_
    refine lv_iload hx hb d_Ref_action_205 (lv_at hl 0 rfl) ?_
    refine lv_iload hx hb d_Ref_action_207 (lv_at hl 7 rfl) ?_
    refine va_iast (D := (dC, dI)) hx hb hK hP (dd_D hD rfl) hS 6 5 rfl rfl (i := nI (7 * t + (zs t))) (x := v) (pk_in (7 * t + (zs t)) 28 (by omega)) d_Ref_action_209 ?_
    clear hP hS locs H
    intro H locs hP _ hS
    rw [show (nI (7 * t + (zs t)) : Int32).toNatClampNeg = 7 * t + (zs t) from pk_cl (7 * t + (zs t))] at hP
    replace hP : va_P (dC, dI) classes [oc ra 8 [.int (nI T), .int (nI Ac), .ref (rA 2), .ref (rA 3), .ref (rA 4), .ref (rA 5), .ref (rA 6), .ref (rA 7), .ref (rA 8), .ref (rA 9), .ref (rA 10), .ref (rA 11), .ref (rA 12), .ref (rA 13), .int ir, .ref (rA 15), .ref (rA 16), .ref (rA 17), .ref (rA 18), .int (nI md), .int (nI wd), .ref (rA 21), .ref (rA 22), .ref (rA 23), .int (nI mn), .ref (rA 25), .int (nI cb), .int mr, .ref (rA 28), .ref (rA 29), .ref (rA 30), .ref (rA 31), .ref (rA 32), .ref (rA 33), .ref (rA 34), .ref (rA 35), .int (nI ld), .int (nI gm), .ref (rA 38), .ref (rA 39), .ref (rA 40), .ref (rA 41), .ref (rA 42), .ref (rA 43), .ref (rA 44), .ref (rA 45), .int (nI my), .ref (rA 47)], ia (rA 7) (rK9 7) 8 ff, ia (rA 2) (rK9 2) 4 (fun i => nI (zs i)), ia (rA 3) (rK9 3) 28 (fun i => nI ((updN kd (7 * t + (zs t)) k) i)), ia (rA 4) (rK9 4) 28 (fun i => nI ((updN vx (7 * t + (zs t)) x) i)), ia (rA 5) (rK9 5) 28 (fun i => nI ((updN rr (7 * t + (zs t)) rn) i)), ia (rA 6) (rK9 6) 28 (upd vv (7 * t + (zs t)) v)] H := hP
    refine tp_pc (pc' := 210) (by rfl) ?_
    refine lv_aload_n hx hb d_Ref_action_210 rfl (lv_at hl 2 rfl) ?_
    refine va_get (D := (dC, dI)) (ci := 8) (v := .ref (rA 2)) (C := R_Ref) (T := F_Ref) (N := 48) hx hb hw i_Ref hown hK hP 0 rfl rfl 2 (by decide) (hw _ m_901) (fun _ h9 => h9) rfl d_Ref_action_211 ?_
    refine lv_iload_n hx hb d_Ref_action_214 rfl (lv_at hl 3 rfl) ?_
    refine lv_dup2_11 hx hb d_Ref_action_215 rfl rfl ?_
    refine va_iald (D := (dC, dI)) hx hb hK hP 2 1 rfl rfl (i := nI t) (pk_in t 4 (by omega)) d_Ref_action_216 ?_
    refine tp_i (y := nI (zs t)) (by rw [show (nI t : Int32).toNatClampNeg = t from pk_cl t]) ?_
    refine lv_iconst (v := 1) hx hb d_Ref_action_217 (by decide) ?_
    refine lv_iadd hx hb d_Ref_action_218 ?_
    refine tp_i (y := nI (zs t + 1)) (by exact nI_add (zs t) 1) ?_
    refine va_iast (D := (dC, dI)) hx hb hK hP (dd_D hD rfl) hS 2 1 rfl rfl (i := nI t) (x := nI (zs t + 1)) (pk_in t 4 (by omega)) d_Ref_action_219 ?_
    clear hP hS locs H
    intro H locs hP _ hS
    rw [show (nI t : Int32).toNatClampNeg = t from pk_cl t] at hP
    rw [show upd (fun i => nI (zs i)) t (nI (zs t + 1)) = fun i => nI (updN zs t (zs t + 1) i) from upd_nI] at hP
    replace hP : va_P (dC, dI) classes [oc ra 8 [.int (nI T), .int (nI Ac), .ref (rA 2), .ref (rA 3), .ref (rA 4), .ref (rA 5), .ref (rA 6), .ref (rA 7), .ref (rA 8), .ref (rA 9), .ref (rA 10), .ref (rA 11), .ref (rA 12), .ref (rA 13), .int ir, .ref (rA 15), .ref (rA 16), .ref (rA 17), .ref (rA 18), .int (nI md), .int (nI wd), .ref (rA 21), .ref (rA 22), .ref (rA 23), .int (nI mn), .ref (rA 25), .int (nI cb), .int mr, .ref (rA 28), .ref (rA 29), .ref (rA 30), .ref (rA 31), .ref (rA 32), .ref (rA 33), .ref (rA 34), .ref (rA 35), .int (nI ld), .int (nI gm), .ref (rA 38), .ref (rA 39), .ref (rA 40), .ref (rA 41), .ref (rA 42), .ref (rA 43), .ref (rA 44), .ref (rA 45), .int (nI my), .ref (rA 47)], ia (rA 7) (rK9 7) 8 ff, ia (rA 2) (rK9 2) 4 (fun i => nI ((updN zs t (zs t + 1)) i)), ia (rA 3) (rK9 3) 28 (fun i => nI ((updN kd (7 * t + (zs t)) k) i)), ia (rA 4) (rK9 4) 28 (fun i => nI ((updN vx (7 * t + (zs t)) x) i)), ia (rA 5) (rK9 5) 28 (fun i => nI ((updN rr (7 * t + (zs t)) rn) i)), ia (rA 6) (rK9 6) 28 (upd vv (7 * t + (zs t)) v)] H := hP
    refine tp_pc (pc' := 220) (by rfl) ?_
    refine lv_aload_n hx hb d_Ref_action_220 rfl (lv_at hl 2 rfl) ?_
    refine lv_dup hx hb d_Ref_action_221 rfl ?_
    refine va_get (D := (dC, dI)) (ci := 8) (v := .int (nI Ac)) (C := R_Ref) (T := F_Ref) (N := 48) hx hb hw i_Ref hown hK hP 0 rfl rfl 1 (by decide) (hw _ m_900) (fun _ h9 => h9) rfl d_Ref_action_222 ?_
    refine lv_iconst (v := 1) hx hb d_Ref_action_225 (by decide) ?_
    refine lv_iadd hx hb d_Ref_action_226 ?_
    refine tp_i (y := nI (Ac + 1)) (by exact nI_add Ac 1) ?_
    refine va_put (D := (dC, dI)) (ci := 8) (v := .int (nI (Ac + 1))) (ty := .int) (C := R_Ref) (T := F_Ref) (N := 48) hx hb hw i_Ref t_Ref t_Ref_ok n_Ref hown hK hP (dd_D hD rfl) hS 0 rfl rfl 1 (by decide) (hw _ m_900) (fun _ h9 => h9) rfl (by decide +kernel) rfl rfl (Nat.le_of_ble_eq_true rfl) d_Ref_action_227 ?_
    clear hP hS locs H
    intro H locs (hP : va_P (dC, dI) classes [oc ra 8 [.int (nI T), .int (nI (Ac + 1)), .ref (rA 2), .ref (rA 3), .ref (rA 4), .ref (rA 5), .ref (rA 6), .ref (rA 7), .ref (rA 8), .ref (rA 9), .ref (rA 10), .ref (rA 11), .ref (rA 12), .ref (rA 13), .int ir, .ref (rA 15), .ref (rA 16), .ref (rA 17), .ref (rA 18), .int (nI md), .int (nI wd), .ref (rA 21), .ref (rA 22), .ref (rA 23), .int (nI mn), .ref (rA 25), .int (nI cb), .int mr, .ref (rA 28), .ref (rA 29), .ref (rA 30), .ref (rA 31), .ref (rA 32), .ref (rA 33), .ref (rA 34), .ref (rA 35), .int (nI ld), .int (nI gm), .ref (rA 38), .ref (rA 39), .ref (rA 40), .ref (rA 41), .ref (rA 42), .ref (rA 43), .ref (rA 44), .ref (rA 45), .int (nI my), .ref (rA 47)], ia (rA 7) (rK9 7) 8 ff, ia (rA 2) (rK9 2) 4 (fun i => nI ((updN zs t (zs t + 1)) i)), ia (rA 3) (rK9 3) 28 (fun i => nI ((updN kd (7 * t + (zs t)) k) i)), ia (rA 4) (rK9 4) 28 (fun i => nI ((updN vx (7 * t + (zs t)) x) i)), ia (rA 5) (rK9 5) 28 (fun i => nI ((updN rr (7 * t + (zs t)) rn) i)), ia (rA 6) (rK9 6) 28 (upd vv (7 * t + (zs t)) v)] H) _ hS
    refine tp_pc (pc' := 230) (by rfl) ?_
    refine lv_aload_n hx hb d_Ref_action_230 rfl (lv_at hl 2 rfl) ?_
    obtain ⟨hPc, hDc, hFc⟩ := cut3 (wc := [oc ra 8 [.int (nI T), .int (nI (Ac + 1)), .ref (rA 2), .ref (rA 3), .ref (rA 4), .ref (rA 5), .ref (rA 6), .ref (rA 7), .ref (rA 8), .ref (rA 9), .ref (rA 10), .ref (rA 11), .ref (rA 12), .ref (rA 13), .int ir, .ref (rA 15), .ref (rA 16), .ref (rA 17), .ref (rA 18), .int (nI md), .int (nI wd), .ref (rA 21), .ref (rA 22), .ref (rA 23), .int (nI mn), .ref (rA 25), .int (nI cb), .int mr, .ref (rA 28), .ref (rA 29), .ref (rA 30), .ref (rA 31), .ref (rA 32), .ref (rA 33), .ref (rA 34), .ref (rA 35), .int (nI ld), .int (nI gm), .ref (rA 38), .ref (rA 39), .ref (rA 40), .ref (rA 41), .ref (rA 42), .ref (rA 43), .ref (rA 44), .ref (rA 45), .int (nI my), .ref (rA 47)], ia (rA 7) (rK9 7) 8 ff]) hP hD rfl hS hA [0, 1] (by decide +kernel) rfl
    have hKc := hK.sub (tys' := [((rK9 7), .boolean)]) [0] rfl
    refine va_callv (va_runV (As := []) (rest := []) ⟨hx, hb, hml, hown, hw⟩ (gen_Ref_anew l dC dI ra rA rK9 T (Ac + 1) md wd mn cb ld gm my ir mr ff H.size) (cw_V 0 hw g_Ref_anew rfl rfl rfl (hw _ m_109) (hw _ m_1050) (hw _ m_1052) (hw _ m_51) (by decide +kernel) ⟨Nat.le_of_ble_eq_true rfl, Nat.le_of_ble_eq_true rfl⟩) ⟨fun a U g mk q => by obtain ⟨q0, q1, qP, qK, qD, qN⟩ := q; exact ⟨q0, q1, qP, va_K.moved (u := U) (U := U.calling g mk a) (Vm.Alike.refl U.vm) qK, qD, nw_call qN⟩, va_recv hKc hPc (ci := 8) (q0 := 0) rfl rfl, fun U hU hW => ⟨rfl, by rw [hU], by rw [hU]; exact hPc, va_K.moved hW.alike hKc, hDc.weaken (fun _ _ _ _ => trivial), nw_warm hW hn⟩⟩ rfl rfl hl.1 rfl (lv_room (Nat.le_of_ble_eq_true rfl)) d_Ref_action_231 ⟨Nat.le_of_ble_eq_true rfl, Nat.le_of_ble_eq_true rfl⟩) hS (fun q _ h => hFc q h) hFc ?_
    intro u t9 H1 locs1 ht9 hvm hw1 hB hz1 hk1 hS1
    obtain ⟨hP1, hK1, hD1⟩ := hB
    rw [ht9] at hP1
    replace hK1 := va_K.moved hvm.symm hK1
    have hPD := join3 hP hD rfl [0, 1] [2, 3, 4, 5, 6] rfl (by rfl) (by decide +kernel) (by decide +kernel) hk1 hFc hP1 hD1
    replace hK : va_K (dC, dI) classes [((rK9 7), .boolean), ((rK9 2), .int), ((rK9 3), .int), ((rK9 4), .int), ((rK9 5), .int), ((rK9 6), .int)] s := hK.app hK1
    clear hP1 hK1 hD1 hk1 hz1 hFc hKc hDc hPc hvm ht9 hP hS t9 locs H
    have hP : va_P (dC, dI) classes [ia (rA 2) (rK9 2) 4 (fun i => nI ((updN zs t (zs t + 1)) i)), ia (rA 3) (rK9 3) 28 (fun i => nI ((updN kd (7 * t + (zs t)) k) i)), ia (rA 4) (rK9 4) 28 (fun i => nI ((updN vx (7 * t + (zs t)) x) i)), ia (rA 5) (rK9 5) 28 (fun i => nI ((updN rr (7 * t + (zs t)) rn) i)), ia (rA 6) (rK9 6) 28 (upd vv (7 * t + (zs t)) v), oc ra 8 [.int (nI T), .int (nI (Ac + 1)), .ref (rA 2), .ref (rA 3), .ref (rA 4), .ref (rA 5), .ref (rA 6), .ref (rA 7), .ref (rA 8), .ref (rA 9), .ref (rA 10), .ref (rA 11), .ref (rA 12), .ref (rA 13), .int 0, .ref (rA 15), .ref (rA 16), .ref (rA 17), .ref (rA 18), .int (nI md), .int (nI wd), .ref (rA 21), .ref (rA 22), .ref (rA 23), .int (nI mn), .ref (rA 25), .int (nI cb), .int mr, .ref (rA 28), .ref (rA 29), .ref (rA 30), .ref (rA 31), .ref (rA 32), .ref (rA 33), .ref (rA 34), .ref (rA 35), .int (nI ld), .int (nI gm), .ref (rA 38), .ref (rA 39), .ref (rA 40), .ref (rA 41), .ref (rA 42), .ref (rA 43), .ref (rA 44), .ref (rA 45), .int (nI my), .ref (rA 47)], ia (rA 7) (rK9 7) 8 (fun _ => 0)] H1 := hPD.1
    replace hD : dd A [(rA 2), (rA 3), (rA 4), (rA 5), (rA 6), ra, (rA 7)] := dd_of hPD.2 rfl
    clear hPD
    revert H1 locs1
    intro H locs hS hP
    clear hw1 u
    refine tp_pc (pc' := 234) (by rfl) ?_
    refine lv_aload_n hx hb d_Ref_action_234 rfl (lv_at hl 2 rfl) ?_
    refine va_get (D := (dC, dI)) (ci := 8) (v := .ref (rA 2)) (C := R_Ref) (T := F_Ref) (N := 48) hx hb hw i_Ref hown hK hP 5 rfl rfl 2 (by decide) (hw _ m_901) (fun _ h9 => h9) rfl d_Ref_action_235 ?_
    refine lv_iload_n hx hb d_Ref_action_238 rfl (lv_at hl 3 rfl) ?_
    refine va_iald (D := (dC, dI)) hx hb hK hP 0 1 rfl rfl (i := nI t) (pk_in t 4 (by omega)) d_Ref_action_239 ?_
    refine tp_i (y := nI ((updN zs t (zs t + 1)) t)) (by rw [show (nI t : Int32).toNatClampNeg = t from pk_cl t]) ?_
    refine tp_i (y := nI (zs t + 1)) (congrArg nI (if_pos rfl)) ?_
    replace hP : va_P (dC, dI) classes [ia (rA 2) (rK9 2) 4 (fun i => nI ((updN zs t (zs t + 1)) i)), ia (rA 3) (rK9 3) 28 (fun i => nI ((updN kd (7 * t + zs t) k) i)), ia (rA 4) (rK9 4) 28 (fun i => nI ((updN vx (7 * t + zs t) x) i)), ia (rA 5) (rK9 5) 28 (fun i => nI ((updN rr (7 * t + zs t) rn) i)), ia (rA 6) (rK9 6) 28 (upd vv (7 * t + zs t) v), oc ra 8 [.int (nI T), .int (nI (Ac + 1)), .ref (rA 2), .ref (rA 3), .ref (rA 4), .ref (rA 5), .ref (rA 6), .ref (rA 7), .ref (rA 8), .ref (rA 9), .ref (rA 10), .ref (rA 11), .ref (rA 12), .ref (rA 13), .int 0, .ref (rA 15), .ref (rA 16), .ref (rA 17), .ref (rA 18), .int (nI md), .int (nI wd), .ref (rA 21), .ref (rA 22), .ref (rA 23), .int (nI mn), .ref (rA 25), .int (nI cb), .int mr, .ref (rA 28), .ref (rA 29), .ref (rA 30), .ref (rA 31), .ref (rA 32), .ref (rA 33), .ref (rA 34), .ref (rA 35), .int (nI ld), .int (nI gm), .ref (rA 38), .ref (rA 39), .ref (rA 40), .ref (rA 41), .ref (rA 42), .ref (rA 43), .ref (rA 44), .ref (rA 45), .int (nI my), .ref (rA 47)], ia (rA 7) (rK9 7) 8 (fun _ => 0)] H := hP
    obtain ⟨hP9, hD9, -⟩ := cut3 (wc := [oc ra 8 [.int (nI T), .int (nI (Ac + 1)), .ref (rA 2), .ref (rA 3), .ref (rA 4), .ref (rA 5), .ref (rA 6), .ref (rA 7), .ref (rA 8), .ref (rA 9), .ref (rA 10), .ref (rA 11), .ref (rA 12), .ref (rA 13), .int 0, .ref (rA 15), .ref (rA 16), .ref (rA 17), .ref (rA 18), .int (nI md), .int (nI wd), .ref (rA 21), .ref (rA 22), .ref (rA 23), .int (nI mn), .ref (rA 25), .int (nI cb), .int mr, .ref (rA 28), .ref (rA 29), .ref (rA 30), .ref (rA 31), .ref (rA 32), .ref (rA 33), .ref (rA 34), .ref (rA 35), .int (nI ld), .int (nI gm), .ref (rA 38), .ref (rA 39), .ref (rA 40), .ref (rA 41), .ref (rA 42), .ref (rA 43), .ref (rA 44), .ref (rA 45), .int (nI my), .ref (rA 47)], ia (rA 7) (rK9 7) 8 (fun _ => 0), ia (rA 2) (rK9 2) 4 (fun i => nI ((updN zs t (zs t + 1)) i)), ia (rA 3) (rK9 3) 28 (fun i => nI ((updN kd (7 * t + zs t) k) i)), ia (rA 4) (rK9 4) 28 (fun i => nI ((updN vx (7 * t + zs t) x) i)), ia (rA 5) (rK9 5) 28 (fun i => nI ((updN rr (7 * t + zs t) rn) i)), ia (rA 6) (rK9 6) 28 (upd vv (7 * t + zs t) v)]) hP hD rfl hS hA [5, 6, 0, 1, 2, 3, 4] (by decide +kernel) rfl
    have hK9 := hK.sub (tys' := []) [] rfl
    refine W.widen (k := 0) (n := 0) (by exact Nat.le_of_ble_eq_true rfl) (by exact Nat.le_of_ble_eq_true rfl) ?_
    exact W.iret (v := (nI (zs t + 1))) hx hb hr (fun t9 ht9 hW => ⟨⟨nI (zs t + 1), (), rfl, rfl, by rw [ht9]; exact hP9, va_K.moved hW.alike hK9, hD9⟩, hS.F ht9⟩) hS.2.2 d_Ref_action_240
  · skip
    replace hl : lv_has ls 8 [(0, .ref ra), (1, .int (nI t)), (2, .int 1), (3, .int (nI x)), (4, .int (nI rn)), (5, .int v)] := by rw [hkk] at hl; exact hl
    have ho := actP_1.mp (by rw [hkk] at hok; exact hok)
    refine tp_pc (pc' := 12) (by rfl) ?_
    refine lv_iload_n hx hb d_Ref_action_12 rfl (lv_at hl 2 rfl) ?_
    refine lv_if_lt (tgt := 30) hx hb d_Ref_action_13 (by decide) (fun c_12 => absurd c_12 (by decide)) (fun c_12 => ?_)
    refine tp_pc (pc' := 16) (by rfl) ?_
    refine lv_iload_n hx hb d_Ref_action_16 rfl (lv_at hl 2 rfl) ?_
    refine lv_iconst (v := 5) hx hb d_Ref_action_17 (by decide) ?_
    refine lv_icmp_gt (tgt := 30) hx hb d_Ref_action_18 (by decide) (fun c_13 => absurd c_13 (by decide)) (fun c_13 => ?_)
    refine tp_pc (pc' := 21) (by rfl) ?_
    refine lv_aload_n hx hb d_Ref_action_21 rfl (lv_at hl 0 rfl) ?_
    refine va_get (D := (dC, dI)) (ci := 8) (v := .int (nI Ac)) (C := R_Ref) (T := F_Ref) (N := 48) hx hb hw i_Ref hown hK hP 0 rfl rfl 1 (by decide) (hw _ m_900) (fun _ h9 => h9) rfl d_Ref_action_22 ?_
    refine lv_bipush (v := 7) hx hb d_Ref_action_25 (by decide) ?_
    refine lv_icmp_ne (tgt := 32) hx hb d_Ref_action_27 (by decide) (fun c9 => ?_) (fun c9 => absurd ((nI_eq (a := Ac) (b := 7) (by omega) (by omega)).mp c9) (by omega))
    refine tp_pc (pc' := 32) (by rfl) ?_
    refine lv_iload hx hb d_Ref_action_32 (lv_at hl 5 rfl) ?_
    refine lv_bipush (v := (-9)) hx hb d_Ref_action_34 (by decide) ?_
    refine lv_icmp_lt (tgt := 61) hx hb d_Ref_action_36 (by decide) (fun c9 => absurd c9 ho.2.2.1) (fun c9 => ?_)
    refine tp_pc (pc' := 39) (by rfl) ?_
    refine lv_iload hx hb d_Ref_action_39 (lv_at hl 5 rfl) ?_
    refine lv_bipush (v := 9) hx hb d_Ref_action_41 (by decide) ?_
    refine lv_icmp_gt (tgt := 61) hx hb d_Ref_action_43 (by decide) (fun c9 => absurd c9 ho.2.2.2) (fun c9 => ?_)
    refine tp_pc (pc' := 46) (by rfl) ?_
    refine lv_iload hx hb d_Ref_action_46 (lv_at hl 4 rfl) ?_
    refine lv_if_lt (tgt := 61) hx hb d_Ref_action_48 (by decide) (fun c9 => absurd c9 (nI_pos (by omega))) (fun c9 => ?_)
    refine tp_pc (pc' := 51) (by rfl) ?_
    refine lv_iload hx hb d_Ref_action_51 (lv_at hl 4 rfl) ?_
    refine lv_iconst (v := 1) hx hb d_Ref_action_53 (by decide) ?_
    refine lv_icmp_gt (tgt := 61) hx hb d_Ref_action_54 (by decide) (fun c9 => absurd ((nI_ltI (a := 1) (b := rn) (by omega) (by omega)).mp c9) (by omega)) (fun c9 => ?_)
    refine tp_pc (pc' := 57) (by rfl) ?_
    refine lv_iconst (v := 1) hx hb d_Ref_action_57 (by decide) ?_
    refine lv_goto (tgt := 62) hx hb d_Ref_action_58 (by decide) ?_
    refine tp_pc (pc' := 62) (by rfl) ?_
    refine lv_istore (lv' := [(6, .int 1), (0, .ref ra), (1, .int (nI t)), (2, .int 1), (3, .int (nI x)), (4, .int (nI rn)), (5, .int v)]) hx hb d_Ref_action_62 hl (by decide) rfl ?_
    clear hl ls
    intro ls hl
    refine lv_iload hx hb d_Ref_action_64 (lv_at hl 0 rfl) ?_
    refine lv_if_eq (tgt := 112) hx hb d_Ref_action_66 (by decide) (fun c_14 => absurd c_14 (by decide)) (fun c_14 => ?_)
    refine tp_pc (pc' := 69) (by rfl) ?_
    refine lv_iload_n hx hb d_Ref_action_69 rfl (lv_at hl 3 rfl) ?_
    refine lv_iconst (v := 5) hx hb d_Ref_action_70 (by decide) ?_
    refine lv_icmp_ne (tgt := 87) hx hb d_Ref_action_71 (by decide) (fun c_15 => ?_) (fun c_15 => absurd c_15 (by decide))
    refine tp_pc (pc' := 87) (by rfl) ?_
    refine lv_iload_n hx hb d_Ref_action_87 rfl (lv_at hl 3 rfl) ?_
    refine lv_iconst (v := 4) hx hb d_Ref_action_88 (by decide) ?_
    refine lv_icmp_ne (tgt := 99) hx hb d_Ref_action_89 (by decide) (fun c_16 => ?_) (fun c_16 => absurd c_16 (by decide))
    refine tp_pc (pc' := 99) (by rfl) ?_
    refine lv_iload_n hx hb d_Ref_action_99 rfl (lv_at hl 4 rfl) ?_
    refine lv_if_lt (tgt := 112) hx hb d_Ref_action_100 (by decide) (fun c9 => absurd c9 ho.1.1) (fun c9 => ?_)
    refine tp_pc (pc' := 103) (by rfl) ?_
    refine lv_iload_n hx hb d_Ref_action_103 rfl (lv_at hl 4 rfl) ?_
    refine lv_iconst (v := 2) hx hb d_Ref_action_104 (by decide) ?_
    refine lv_icmp_gt (tgt := 112) hx hb d_Ref_action_105 (by decide) (fun c9 => absurd (gt2.mp c9) ho.1.2) (fun c9 => ?_)
    refine tp_pc (pc' := 108) (by rfl) ?_
    refine lv_iconst (v := 1) hx hb d_Ref_action_108 (by decide) ?_
    refine lv_goto (tgt := 113) hx hb d_Ref_action_109 (by decide) ?_
    refine tp_pc (pc' := 113) (by rfl) ?_
    refine lv_istore (lv' := [(6, .int 1), (0, .ref ra), (1, .int (nI t)), (2, .int 1), (3, .int (nI x)), (4, .int (nI rn)), (5, .int v)]) hx hb d_Ref_action_113 hl (by decide) rfl ?_
    clear hl ls
    intro ls hl
    refine lv_iload hx hb d_Ref_action_115 (lv_at hl 0 rfl) ?_
    refine lv_if_eq (tgt := 153) hx hb d_Ref_action_117 (by decide) (fun c_17 => absurd c_17 (by decide)) (fun c_17 => ?_)
    refine tp_pc (pc' := 120) (by rfl) ?_
    refine lv_iload_n hx hb d_Ref_action_120 rfl (lv_at hl 3 rfl) ?_
    refine lv_iconst (v := 1) hx hb d_Ref_action_121 (by decide) ?_
    refine lv_icmp_eq (tgt := 130) hx hb d_Ref_action_122 (by decide) (fun c_18 => ?_) (fun c_18 => absurd c_18 (by decide))
    refine tp_pc (pc' := 130) (by rfl) ?_
    refine lv_iload hx hb d_Ref_action_130 (lv_at hl 5 rfl) ?_
    refine lv_if_ne (tgt := 153) hx hb d_Ref_action_132 (by decide) (fun c9 => absurd ho.2.1 c9) (fun c9 => ?_)
    refine tp_pc (pc' := 135) (by rfl) ?_
    refine lv_iload_n hx hb d_Ref_action_135 rfl (lv_at hl 3 rfl) ?_
    refine lv_if_eq (tgt := 144) hx hb d_Ref_action_136 (by decide) (fun c_19 => absurd c_19 (by decide)) (fun c_19 => ?_)
    refine tp_pc (pc' := 139) (by rfl) ?_
    refine lv_iload_n hx hb d_Ref_action_139 rfl (lv_at hl 3 rfl) ?_
    refine lv_iconst (v := 4) hx hb d_Ref_action_140 (by decide) ?_
    refine lv_icmp_ne (tgt := 149) hx hb d_Ref_action_141 (by decide) (fun c_20 => ?_) (fun c_20 => absurd c_20 (by decide))
    refine tp_pc (pc' := 149) (by rfl) ?_
    refine lv_iconst (v := 1) hx hb d_Ref_action_149 (by decide) ?_
    refine lv_goto (tgt := 154) hx hb d_Ref_action_150 (by decide) ?_
    refine tp_pc (pc' := 154) (by rfl) ?_
    refine lv_istore (lv' := [(6, .int 1), (0, .ref ra), (1, .int (nI t)), (2, .int 1), (3, .int (nI x)), (4, .int (nI rn)), (5, .int v)]) hx hb d_Ref_action_154 hl (by decide) rfl ?_
    clear hl ls
    intro ls hl
    refine lv_iload hx hb d_Ref_action_156 (lv_at hl 0 rfl) ?_
    refine lv_if_ne (tgt := 163) hx hb d_Ref_action_158 (by decide) (fun c_21 => ?_) (fun c_21 => absurd c_21 (by decide))
    refine tp_pc (pc' := 163) (by rfl) ?_
    replace hl : lv_has ls 8 [(6, .int 1), (0, .ref ra), (1, .int (nI t)), (2, .int (nI k)), (3, .int (nI x)), (4, .int (nI rn)), (5, .int v)] := by rw [hkk]; exact hl
    refine lv_bipush (v := 7) hx hb d_Ref_action_163 (by decide) ?_
    refine lv_iload_n hx hb d_Ref_action_165 rfl (lv_at hl 2 rfl) ?_
    refine lv_imul hx hb d_Ref_action_166 ?_
    refine tp_i (y := nI (7 * t)) (by exact pk_mul 7 t) ?_
    refine lv_aload_n hx hb d_Ref_action_167 rfl (lv_at hl 1 rfl) ?_
    refine va_get (D := (dC, dI)) (ci := 8) (v := .ref (rA 2)) (C := R_Ref) (T := F_Ref) (N := 48) hx hb hw i_Ref hown hK hP 0 rfl rfl 2 (by decide) (hw _ m_901) (fun _ h9 => h9) rfl d_Ref_action_168 ?_
    refine lv_iload_n hx hb d_Ref_action_171 rfl (lv_at hl 2 rfl) ?_
    refine va_iald (D := (dC, dI)) hx hb hK hP 2 1 rfl rfl (i := nI t) (pk_in t 4 (by omega)) d_Ref_action_172 ?_
    refine tp_i (y := nI (zs t)) (by rw [show (nI t : Int32).toNatClampNeg = t from pk_cl t]) ?_
    refine lv_iadd hx hb d_Ref_action_173 ?_
    refine tp_i (y := nI (7 * t + (zs t))) (by exact nI_add (7 * t) (zs t)) ?_
    refine lv_istore (lv' := [(7, .int (nI (7 * t + (zs t)))), (6, .int 1), (0, .ref ra), (1, .int (nI t)), (2, .int (nI k)), (3, .int (nI x)), (4, .int (nI rn)), (5, .int v)]) hx hb d_Ref_action_174 hl (by decide) rfl ?_
    clear hl ls
    intro ls hl
    refine lv_aload_n hx hb d_Ref_action_176 rfl (lv_at hl 2 rfl) ?_
    refine va_get (D := (dC, dI)) (ci := 8) (v := .ref (rA 3)) (C := R_Ref) (T := F_Ref) (N := 48) hx hb hw i_Ref hown hK hP 0 rfl rfl 3 (by decide) (hw _ m_902) (fun _ h9 => h9) rfl d_Ref_action_177 ?_
    refine lv_iload hx hb d_Ref_action_180 (lv_at hl 0 rfl) ?_
    refine lv_iload_n hx hb d_Ref_action_182 rfl (lv_at hl 4 rfl) ?_
    refine va_iast (D := (dC, dI)) hx hb hK hP (dd_D hD rfl) hS 3 2 rfl rfl (i := nI (7 * t + (zs t))) (x := nI k) (pk_in (7 * t + (zs t)) 28 (by omega)) d_Ref_action_183 ?_
    clear hP hS
    intro H locs hP _ hS
    rw [show (nI (7 * t + (zs t)) : Int32).toNatClampNeg = 7 * t + (zs t) from pk_cl (7 * t + (zs t))] at hP
    rw [show upd (fun i => nI (kd i)) (7 * t + (zs t)) (nI k) = fun i => nI (updN kd (7 * t + (zs t)) k i) from upd_nI] at hP
    replace hP : va_P (dC, dI) classes [oc ra 8 [.int (nI T), .int (nI Ac), .ref (rA 2), .ref (rA 3), .ref (rA 4), .ref (rA 5), .ref (rA 6), .ref (rA 7), .ref (rA 8), .ref (rA 9), .ref (rA 10), .ref (rA 11), .ref (rA 12), .ref (rA 13), .int ir, .ref (rA 15), .ref (rA 16), .ref (rA 17), .ref (rA 18), .int (nI md), .int (nI wd), .ref (rA 21), .ref (rA 22), .ref (rA 23), .int (nI mn), .ref (rA 25), .int (nI cb), .int mr, .ref (rA 28), .ref (rA 29), .ref (rA 30), .ref (rA 31), .ref (rA 32), .ref (rA 33), .ref (rA 34), .ref (rA 35), .int (nI ld), .int (nI gm), .ref (rA 38), .ref (rA 39), .ref (rA 40), .ref (rA 41), .ref (rA 42), .ref (rA 43), .ref (rA 44), .ref (rA 45), .int (nI my), .ref (rA 47)], ia (rA 7) (rK9 7) 8 ff, ia (rA 2) (rK9 2) 4 (fun i => nI (zs i)), ia (rA 3) (rK9 3) 28 (fun i => nI ((updN kd (7 * t + (zs t)) k) i)), ia (rA 4) (rK9 4) 28 (fun i => nI (vx i)), ia (rA 5) (rK9 5) 28 (fun i => nI (rr i)), ia (rA 6) (rK9 6) 28 vv] H := hP
    refine tp_pc (pc' := 184) (by rfl) ?_
    refine lv_aload_n hx hb d_Ref_action_184 rfl (lv_at hl 2 rfl) ?_
    refine va_get (D := (dC, dI)) (ci := 8) (v := .ref (rA 4)) (C := R_Ref) (T := F_Ref) (N := 48) hx hb hw i_Ref hown hK hP 0 rfl rfl 4 (by decide) (hw _ m_903) (fun _ h9 => h9) rfl d_Ref_action_185 ?_
    refine lv_iload hx hb d_Ref_action_188 (lv_at hl 0 rfl) ?_
    refine lv_iload_n hx hb d_Ref_action_190 rfl (lv_at hl 5 rfl) ?_
    refine va_iast (D := (dC, dI)) hx hb hK hP (dd_D hD rfl) hS 4 3 rfl rfl (i := nI (7 * t + (zs t))) (x := nI x) (pk_in (7 * t + (zs t)) 28 (by omega)) d_Ref_action_191 ?_
    clear hP hS locs H
    intro H locs hP _ hS
    rw [show (nI (7 * t + (zs t)) : Int32).toNatClampNeg = 7 * t + (zs t) from pk_cl (7 * t + (zs t))] at hP
    rw [show upd (fun i => nI (vx i)) (7 * t + (zs t)) (nI x) = fun i => nI (updN vx (7 * t + (zs t)) x i) from upd_nI] at hP
    replace hP : va_P (dC, dI) classes [oc ra 8 [.int (nI T), .int (nI Ac), .ref (rA 2), .ref (rA 3), .ref (rA 4), .ref (rA 5), .ref (rA 6), .ref (rA 7), .ref (rA 8), .ref (rA 9), .ref (rA 10), .ref (rA 11), .ref (rA 12), .ref (rA 13), .int ir, .ref (rA 15), .ref (rA 16), .ref (rA 17), .ref (rA 18), .int (nI md), .int (nI wd), .ref (rA 21), .ref (rA 22), .ref (rA 23), .int (nI mn), .ref (rA 25), .int (nI cb), .int mr, .ref (rA 28), .ref (rA 29), .ref (rA 30), .ref (rA 31), .ref (rA 32), .ref (rA 33), .ref (rA 34), .ref (rA 35), .int (nI ld), .int (nI gm), .ref (rA 38), .ref (rA 39), .ref (rA 40), .ref (rA 41), .ref (rA 42), .ref (rA 43), .ref (rA 44), .ref (rA 45), .int (nI my), .ref (rA 47)], ia (rA 7) (rK9 7) 8 ff, ia (rA 2) (rK9 2) 4 (fun i => nI (zs i)), ia (rA 3) (rK9 3) 28 (fun i => nI ((updN kd (7 * t + (zs t)) k) i)), ia (rA 4) (rK9 4) 28 (fun i => nI ((updN vx (7 * t + (zs t)) x) i)), ia (rA 5) (rK9 5) 28 (fun i => nI (rr i)), ia (rA 6) (rK9 6) 28 vv] H := hP
    refine tp_pc (pc' := 192) (by rfl) ?_
    refine lv_aload_n hx hb d_Ref_action_192 rfl (lv_at hl 2 rfl) ?_
    refine va_get (D := (dC, dI)) (ci := 8) (v := .ref (rA 5)) (C := R_Ref) (T := F_Ref) (N := 48) hx hb hw i_Ref hown hK hP 0 rfl rfl 5 (by decide) (hw _ m_904) (fun _ h9 => h9) rfl d_Ref_action_193 ?_
    refine lv_iload hx hb d_Ref_action_196 (lv_at hl 0 rfl) ?_
    refine lv_iload hx hb d_Ref_action_198 (lv_at hl 6 rfl) ?_
    refine va_iast (D := (dC, dI)) hx hb hK hP (dd_D hD rfl) hS 5 4 rfl rfl (i := nI (7 * t + (zs t))) (x := nI rn) (pk_in (7 * t + (zs t)) 28 (by omega)) d_Ref_action_200 ?_
    clear hP hS locs H
    intro H locs hP _ hS
    rw [show (nI (7 * t + (zs t)) : Int32).toNatClampNeg = 7 * t + (zs t) from pk_cl (7 * t + (zs t))] at hP
    rw [show upd (fun i => nI (rr i)) (7 * t + (zs t)) (nI rn) = fun i => nI (updN rr (7 * t + (zs t)) rn i) from upd_nI] at hP
    replace hP : va_P (dC, dI) classes [oc ra 8 [.int (nI T), .int (nI Ac), .ref (rA 2), .ref (rA 3), .ref (rA 4), .ref (rA 5), .ref (rA 6), .ref (rA 7), .ref (rA 8), .ref (rA 9), .ref (rA 10), .ref (rA 11), .ref (rA 12), .ref (rA 13), .int ir, .ref (rA 15), .ref (rA 16), .ref (rA 17), .ref (rA 18), .int (nI md), .int (nI wd), .ref (rA 21), .ref (rA 22), .ref (rA 23), .int (nI mn), .ref (rA 25), .int (nI cb), .int mr, .ref (rA 28), .ref (rA 29), .ref (rA 30), .ref (rA 31), .ref (rA 32), .ref (rA 33), .ref (rA 34), .ref (rA 35), .int (nI ld), .int (nI gm), .ref (rA 38), .ref (rA 39), .ref (rA 40), .ref (rA 41), .ref (rA 42), .ref (rA 43), .ref (rA 44), .ref (rA 45), .int (nI my), .ref (rA 47)], ia (rA 7) (rK9 7) 8 ff, ia (rA 2) (rK9 2) 4 (fun i => nI (zs i)), ia (rA 3) (rK9 3) 28 (fun i => nI ((updN kd (7 * t + (zs t)) k) i)), ia (rA 4) (rK9 4) 28 (fun i => nI ((updN vx (7 * t + (zs t)) x) i)), ia (rA 5) (rK9 5) 28 (fun i => nI ((updN rr (7 * t + (zs t)) rn) i)), ia (rA 6) (rK9 6) 28 vv] H := hP
    refine tp_pc (pc' := 201) (by rfl) ?_
    refine lv_aload_n hx hb d_Ref_action_201 rfl (lv_at hl 2 rfl) ?_
    refine va_get (D := (dC, dI)) (ci := 8) (v := .ref (rA 6)) (C := R_Ref) (T := F_Ref) (N := 48) hx hb hw i_Ref hown hK hP 0 rfl rfl 6 (by decide) (hw _ m_905) (fun _ h9 => h9) rfl d_Ref_action_202 ?_
    refine lv_iload hx hb d_Ref_action_205 (lv_at hl 0 rfl) ?_
    refine lv_iload hx hb d_Ref_action_207 (lv_at hl 7 rfl) ?_
    refine va_iast (D := (dC, dI)) hx hb hK hP (dd_D hD rfl) hS 6 5 rfl rfl (i := nI (7 * t + (zs t))) (x := v) (pk_in (7 * t + (zs t)) 28 (by omega)) d_Ref_action_209 ?_
    clear hP hS locs H
    intro H locs hP _ hS
    rw [show (nI (7 * t + (zs t)) : Int32).toNatClampNeg = 7 * t + (zs t) from pk_cl (7 * t + (zs t))] at hP
    replace hP : va_P (dC, dI) classes [oc ra 8 [.int (nI T), .int (nI Ac), .ref (rA 2), .ref (rA 3), .ref (rA 4), .ref (rA 5), .ref (rA 6), .ref (rA 7), .ref (rA 8), .ref (rA 9), .ref (rA 10), .ref (rA 11), .ref (rA 12), .ref (rA 13), .int ir, .ref (rA 15), .ref (rA 16), .ref (rA 17), .ref (rA 18), .int (nI md), .int (nI wd), .ref (rA 21), .ref (rA 22), .ref (rA 23), .int (nI mn), .ref (rA 25), .int (nI cb), .int mr, .ref (rA 28), .ref (rA 29), .ref (rA 30), .ref (rA 31), .ref (rA 32), .ref (rA 33), .ref (rA 34), .ref (rA 35), .int (nI ld), .int (nI gm), .ref (rA 38), .ref (rA 39), .ref (rA 40), .ref (rA 41), .ref (rA 42), .ref (rA 43), .ref (rA 44), .ref (rA 45), .int (nI my), .ref (rA 47)], ia (rA 7) (rK9 7) 8 ff, ia (rA 2) (rK9 2) 4 (fun i => nI (zs i)), ia (rA 3) (rK9 3) 28 (fun i => nI ((updN kd (7 * t + (zs t)) k) i)), ia (rA 4) (rK9 4) 28 (fun i => nI ((updN vx (7 * t + (zs t)) x) i)), ia (rA 5) (rK9 5) 28 (fun i => nI ((updN rr (7 * t + (zs t)) rn) i)), ia (rA 6) (rK9 6) 28 (upd vv (7 * t + (zs t)) v)] H := hP
    refine tp_pc (pc' := 210) (by rfl) ?_
    refine lv_aload_n hx hb d_Ref_action_210 rfl (lv_at hl 2 rfl) ?_
    refine va_get (D := (dC, dI)) (ci := 8) (v := .ref (rA 2)) (C := R_Ref) (T := F_Ref) (N := 48) hx hb hw i_Ref hown hK hP 0 rfl rfl 2 (by decide) (hw _ m_901) (fun _ h9 => h9) rfl d_Ref_action_211 ?_
    refine lv_iload_n hx hb d_Ref_action_214 rfl (lv_at hl 3 rfl) ?_
    refine lv_dup2_11 hx hb d_Ref_action_215 rfl rfl ?_
    refine va_iald (D := (dC, dI)) hx hb hK hP 2 1 rfl rfl (i := nI t) (pk_in t 4 (by omega)) d_Ref_action_216 ?_
    refine tp_i (y := nI (zs t)) (by rw [show (nI t : Int32).toNatClampNeg = t from pk_cl t]) ?_
    refine lv_iconst (v := 1) hx hb d_Ref_action_217 (by decide) ?_
    refine lv_iadd hx hb d_Ref_action_218 ?_
    refine tp_i (y := nI (zs t + 1)) (by exact nI_add (zs t) 1) ?_
    refine va_iast (D := (dC, dI)) hx hb hK hP (dd_D hD rfl) hS 2 1 rfl rfl (i := nI t) (x := nI (zs t + 1)) (pk_in t 4 (by omega)) d_Ref_action_219 ?_
    clear hP hS locs H
    intro H locs hP _ hS
    rw [show (nI t : Int32).toNatClampNeg = t from pk_cl t] at hP
    rw [show upd (fun i => nI (zs i)) t (nI (zs t + 1)) = fun i => nI (updN zs t (zs t + 1) i) from upd_nI] at hP
    replace hP : va_P (dC, dI) classes [oc ra 8 [.int (nI T), .int (nI Ac), .ref (rA 2), .ref (rA 3), .ref (rA 4), .ref (rA 5), .ref (rA 6), .ref (rA 7), .ref (rA 8), .ref (rA 9), .ref (rA 10), .ref (rA 11), .ref (rA 12), .ref (rA 13), .int ir, .ref (rA 15), .ref (rA 16), .ref (rA 17), .ref (rA 18), .int (nI md), .int (nI wd), .ref (rA 21), .ref (rA 22), .ref (rA 23), .int (nI mn), .ref (rA 25), .int (nI cb), .int mr, .ref (rA 28), .ref (rA 29), .ref (rA 30), .ref (rA 31), .ref (rA 32), .ref (rA 33), .ref (rA 34), .ref (rA 35), .int (nI ld), .int (nI gm), .ref (rA 38), .ref (rA 39), .ref (rA 40), .ref (rA 41), .ref (rA 42), .ref (rA 43), .ref (rA 44), .ref (rA 45), .int (nI my), .ref (rA 47)], ia (rA 7) (rK9 7) 8 ff, ia (rA 2) (rK9 2) 4 (fun i => nI ((updN zs t (zs t + 1)) i)), ia (rA 3) (rK9 3) 28 (fun i => nI ((updN kd (7 * t + (zs t)) k) i)), ia (rA 4) (rK9 4) 28 (fun i => nI ((updN vx (7 * t + (zs t)) x) i)), ia (rA 5) (rK9 5) 28 (fun i => nI ((updN rr (7 * t + (zs t)) rn) i)), ia (rA 6) (rK9 6) 28 (upd vv (7 * t + (zs t)) v)] H := hP
    refine tp_pc (pc' := 220) (by rfl) ?_
    refine lv_aload_n hx hb d_Ref_action_220 rfl (lv_at hl 2 rfl) ?_
    refine lv_dup hx hb d_Ref_action_221 rfl ?_
    refine va_get (D := (dC, dI)) (ci := 8) (v := .int (nI Ac)) (C := R_Ref) (T := F_Ref) (N := 48) hx hb hw i_Ref hown hK hP 0 rfl rfl 1 (by decide) (hw _ m_900) (fun _ h9 => h9) rfl d_Ref_action_222 ?_
    refine lv_iconst (v := 1) hx hb d_Ref_action_225 (by decide) ?_
    refine lv_iadd hx hb d_Ref_action_226 ?_
    refine tp_i (y := nI (Ac + 1)) (by exact nI_add Ac 1) ?_
    refine va_put (D := (dC, dI)) (ci := 8) (v := .int (nI (Ac + 1))) (ty := .int) (C := R_Ref) (T := F_Ref) (N := 48) hx hb hw i_Ref t_Ref t_Ref_ok n_Ref hown hK hP (dd_D hD rfl) hS 0 rfl rfl 1 (by decide) (hw _ m_900) (fun _ h9 => h9) rfl (by decide +kernel) rfl rfl (Nat.le_of_ble_eq_true rfl) d_Ref_action_227 ?_
    clear hP hS locs H
    intro H locs (hP : va_P (dC, dI) classes [oc ra 8 [.int (nI T), .int (nI (Ac + 1)), .ref (rA 2), .ref (rA 3), .ref (rA 4), .ref (rA 5), .ref (rA 6), .ref (rA 7), .ref (rA 8), .ref (rA 9), .ref (rA 10), .ref (rA 11), .ref (rA 12), .ref (rA 13), .int ir, .ref (rA 15), .ref (rA 16), .ref (rA 17), .ref (rA 18), .int (nI md), .int (nI wd), .ref (rA 21), .ref (rA 22), .ref (rA 23), .int (nI mn), .ref (rA 25), .int (nI cb), .int mr, .ref (rA 28), .ref (rA 29), .ref (rA 30), .ref (rA 31), .ref (rA 32), .ref (rA 33), .ref (rA 34), .ref (rA 35), .int (nI ld), .int (nI gm), .ref (rA 38), .ref (rA 39), .ref (rA 40), .ref (rA 41), .ref (rA 42), .ref (rA 43), .ref (rA 44), .ref (rA 45), .int (nI my), .ref (rA 47)], ia (rA 7) (rK9 7) 8 ff, ia (rA 2) (rK9 2) 4 (fun i => nI ((updN zs t (zs t + 1)) i)), ia (rA 3) (rK9 3) 28 (fun i => nI ((updN kd (7 * t + (zs t)) k) i)), ia (rA 4) (rK9 4) 28 (fun i => nI ((updN vx (7 * t + (zs t)) x) i)), ia (rA 5) (rK9 5) 28 (fun i => nI ((updN rr (7 * t + (zs t)) rn) i)), ia (rA 6) (rK9 6) 28 (upd vv (7 * t + (zs t)) v)] H) _ hS
    refine tp_pc (pc' := 230) (by rfl) ?_
    refine lv_aload_n hx hb d_Ref_action_230 rfl (lv_at hl 2 rfl) ?_
    obtain ⟨hPc, hDc, hFc⟩ := cut3 (wc := [oc ra 8 [.int (nI T), .int (nI (Ac + 1)), .ref (rA 2), .ref (rA 3), .ref (rA 4), .ref (rA 5), .ref (rA 6), .ref (rA 7), .ref (rA 8), .ref (rA 9), .ref (rA 10), .ref (rA 11), .ref (rA 12), .ref (rA 13), .int ir, .ref (rA 15), .ref (rA 16), .ref (rA 17), .ref (rA 18), .int (nI md), .int (nI wd), .ref (rA 21), .ref (rA 22), .ref (rA 23), .int (nI mn), .ref (rA 25), .int (nI cb), .int mr, .ref (rA 28), .ref (rA 29), .ref (rA 30), .ref (rA 31), .ref (rA 32), .ref (rA 33), .ref (rA 34), .ref (rA 35), .int (nI ld), .int (nI gm), .ref (rA 38), .ref (rA 39), .ref (rA 40), .ref (rA 41), .ref (rA 42), .ref (rA 43), .ref (rA 44), .ref (rA 45), .int (nI my), .ref (rA 47)], ia (rA 7) (rK9 7) 8 ff]) hP hD rfl hS hA [0, 1] (by decide +kernel) rfl
    have hKc := hK.sub (tys' := [((rK9 7), .boolean)]) [0] rfl
    refine va_callv (va_runV (As := []) (rest := []) ⟨hx, hb, hml, hown, hw⟩ (gen_Ref_anew l dC dI ra rA rK9 T (Ac + 1) md wd mn cb ld gm my ir mr ff H.size) (cw_V 0 hw g_Ref_anew rfl rfl rfl (hw _ m_109) (hw _ m_1050) (hw _ m_1052) (hw _ m_51) (by decide +kernel) ⟨Nat.le_of_ble_eq_true rfl, Nat.le_of_ble_eq_true rfl⟩) ⟨fun a U g mk q => by obtain ⟨q0, q1, qP, qK, qD, qN⟩ := q; exact ⟨q0, q1, qP, va_K.moved (u := U) (U := U.calling g mk a) (Vm.Alike.refl U.vm) qK, qD, nw_call qN⟩, va_recv hKc hPc (ci := 8) (q0 := 0) rfl rfl, fun U hU hW => ⟨rfl, by rw [hU], by rw [hU]; exact hPc, va_K.moved hW.alike hKc, hDc.weaken (fun _ _ _ _ => trivial), nw_warm hW hn⟩⟩ rfl rfl hl.1 rfl (lv_room (Nat.le_of_ble_eq_true rfl)) d_Ref_action_231 ⟨Nat.le_of_ble_eq_true rfl, Nat.le_of_ble_eq_true rfl⟩) hS (fun q _ h => hFc q h) hFc ?_
    intro u t9 H1 locs1 ht9 hvm hw1 hB hz1 hk1 hS1
    obtain ⟨hP1, hK1, hD1⟩ := hB
    rw [ht9] at hP1
    replace hK1 := va_K.moved hvm.symm hK1
    have hPD := join3 hP hD rfl [0, 1] [2, 3, 4, 5, 6] rfl (by rfl) (by decide +kernel) (by decide +kernel) hk1 hFc hP1 hD1
    replace hK : va_K (dC, dI) classes [((rK9 7), .boolean), ((rK9 2), .int), ((rK9 3), .int), ((rK9 4), .int), ((rK9 5), .int), ((rK9 6), .int)] s := hK.app hK1
    clear hP1 hK1 hD1 hk1 hz1 hFc hKc hDc hPc hvm ht9 hP hS t9 locs H
    have hP : va_P (dC, dI) classes [ia (rA 2) (rK9 2) 4 (fun i => nI ((updN zs t (zs t + 1)) i)), ia (rA 3) (rK9 3) 28 (fun i => nI ((updN kd (7 * t + (zs t)) k) i)), ia (rA 4) (rK9 4) 28 (fun i => nI ((updN vx (7 * t + (zs t)) x) i)), ia (rA 5) (rK9 5) 28 (fun i => nI ((updN rr (7 * t + (zs t)) rn) i)), ia (rA 6) (rK9 6) 28 (upd vv (7 * t + (zs t)) v), oc ra 8 [.int (nI T), .int (nI (Ac + 1)), .ref (rA 2), .ref (rA 3), .ref (rA 4), .ref (rA 5), .ref (rA 6), .ref (rA 7), .ref (rA 8), .ref (rA 9), .ref (rA 10), .ref (rA 11), .ref (rA 12), .ref (rA 13), .int 0, .ref (rA 15), .ref (rA 16), .ref (rA 17), .ref (rA 18), .int (nI md), .int (nI wd), .ref (rA 21), .ref (rA 22), .ref (rA 23), .int (nI mn), .ref (rA 25), .int (nI cb), .int mr, .ref (rA 28), .ref (rA 29), .ref (rA 30), .ref (rA 31), .ref (rA 32), .ref (rA 33), .ref (rA 34), .ref (rA 35), .int (nI ld), .int (nI gm), .ref (rA 38), .ref (rA 39), .ref (rA 40), .ref (rA 41), .ref (rA 42), .ref (rA 43), .ref (rA 44), .ref (rA 45), .int (nI my), .ref (rA 47)], ia (rA 7) (rK9 7) 8 (fun _ => 0)] H1 := hPD.1
    replace hD : dd A [(rA 2), (rA 3), (rA 4), (rA 5), (rA 6), ra, (rA 7)] := dd_of hPD.2 rfl
    clear hPD
    revert H1 locs1
    intro H locs hS hP
    clear hw1 u
    refine tp_pc (pc' := 234) (by rfl) ?_
    refine lv_aload_n hx hb d_Ref_action_234 rfl (lv_at hl 2 rfl) ?_
    refine va_get (D := (dC, dI)) (ci := 8) (v := .ref (rA 2)) (C := R_Ref) (T := F_Ref) (N := 48) hx hb hw i_Ref hown hK hP 5 rfl rfl 2 (by decide) (hw _ m_901) (fun _ h9 => h9) rfl d_Ref_action_235 ?_
    refine lv_iload_n hx hb d_Ref_action_238 rfl (lv_at hl 3 rfl) ?_
    refine va_iald (D := (dC, dI)) hx hb hK hP 0 1 rfl rfl (i := nI t) (pk_in t 4 (by omega)) d_Ref_action_239 ?_
    refine tp_i (y := nI ((updN zs t (zs t + 1)) t)) (by rw [show (nI t : Int32).toNatClampNeg = t from pk_cl t]) ?_
    refine tp_i (y := nI (zs t + 1)) (congrArg nI (if_pos rfl)) ?_
    replace hP : va_P (dC, dI) classes [ia (rA 2) (rK9 2) 4 (fun i => nI ((updN zs t (zs t + 1)) i)), ia (rA 3) (rK9 3) 28 (fun i => nI ((updN kd (7 * t + zs t) k) i)), ia (rA 4) (rK9 4) 28 (fun i => nI ((updN vx (7 * t + zs t) x) i)), ia (rA 5) (rK9 5) 28 (fun i => nI ((updN rr (7 * t + zs t) rn) i)), ia (rA 6) (rK9 6) 28 (upd vv (7 * t + zs t) v), oc ra 8 [.int (nI T), .int (nI (Ac + 1)), .ref (rA 2), .ref (rA 3), .ref (rA 4), .ref (rA 5), .ref (rA 6), .ref (rA 7), .ref (rA 8), .ref (rA 9), .ref (rA 10), .ref (rA 11), .ref (rA 12), .ref (rA 13), .int 0, .ref (rA 15), .ref (rA 16), .ref (rA 17), .ref (rA 18), .int (nI md), .int (nI wd), .ref (rA 21), .ref (rA 22), .ref (rA 23), .int (nI mn), .ref (rA 25), .int (nI cb), .int mr, .ref (rA 28), .ref (rA 29), .ref (rA 30), .ref (rA 31), .ref (rA 32), .ref (rA 33), .ref (rA 34), .ref (rA 35), .int (nI ld), .int (nI gm), .ref (rA 38), .ref (rA 39), .ref (rA 40), .ref (rA 41), .ref (rA 42), .ref (rA 43), .ref (rA 44), .ref (rA 45), .int (nI my), .ref (rA 47)], ia (rA 7) (rK9 7) 8 (fun _ => 0)] H := hP
    obtain ⟨hP9, hD9, -⟩ := cut3 (wc := [oc ra 8 [.int (nI T), .int (nI (Ac + 1)), .ref (rA 2), .ref (rA 3), .ref (rA 4), .ref (rA 5), .ref (rA 6), .ref (rA 7), .ref (rA 8), .ref (rA 9), .ref (rA 10), .ref (rA 11), .ref (rA 12), .ref (rA 13), .int 0, .ref (rA 15), .ref (rA 16), .ref (rA 17), .ref (rA 18), .int (nI md), .int (nI wd), .ref (rA 21), .ref (rA 22), .ref (rA 23), .int (nI mn), .ref (rA 25), .int (nI cb), .int mr, .ref (rA 28), .ref (rA 29), .ref (rA 30), .ref (rA 31), .ref (rA 32), .ref (rA 33), .ref (rA 34), .ref (rA 35), .int (nI ld), .int (nI gm), .ref (rA 38), .ref (rA 39), .ref (rA 40), .ref (rA 41), .ref (rA 42), .ref (rA 43), .ref (rA 44), .ref (rA 45), .int (nI my), .ref (rA 47)], ia (rA 7) (rK9 7) 8 (fun _ => 0), ia (rA 2) (rK9 2) 4 (fun i => nI ((updN zs t (zs t + 1)) i)), ia (rA 3) (rK9 3) 28 (fun i => nI ((updN kd (7 * t + zs t) k) i)), ia (rA 4) (rK9 4) 28 (fun i => nI ((updN vx (7 * t + zs t) x) i)), ia (rA 5) (rK9 5) 28 (fun i => nI ((updN rr (7 * t + zs t) rn) i)), ia (rA 6) (rK9 6) 28 (upd vv (7 * t + zs t) v)]) hP hD rfl hS hA [5, 6, 0, 1, 2, 3, 4] (by decide +kernel) rfl
    have hK9 := hK.sub (tys' := []) [] rfl
    refine W.widen (k := 0) (n := 0) (by exact Nat.le_of_ble_eq_true rfl) (by exact Nat.le_of_ble_eq_true rfl) ?_
    exact W.iret (v := (nI (zs t + 1))) hx hb hr (fun t9 ht9 hW => ⟨⟨nI (zs t + 1), (), rfl, rfl, by rw [ht9]; exact hP9, va_K.moved hW.alike hK9, hD9⟩, hS.F ht9⟩) hS.2.2 d_Ref_action_240
  · skip
    replace hl : lv_has ls 8 [(0, .ref ra), (1, .int (nI t)), (2, .int 2), (3, .int (nI x)), (4, .int (nI rn)), (5, .int v)] := by rw [hkk] at hl; exact hl
    have ho := actP_2.mp (by rw [hkk] at hok; exact hok)
    refine tp_pc (pc' := 12) (by rfl) ?_
    refine lv_iload_n hx hb d_Ref_action_12 rfl (lv_at hl 2 rfl) ?_
    refine lv_if_lt (tgt := 30) hx hb d_Ref_action_13 (by decide) (fun c_23 => absurd c_23 (by decide)) (fun c_23 => ?_)
    refine tp_pc (pc' := 16) (by rfl) ?_
    refine lv_iload_n hx hb d_Ref_action_16 rfl (lv_at hl 2 rfl) ?_
    refine lv_iconst (v := 5) hx hb d_Ref_action_17 (by decide) ?_
    refine lv_icmp_gt (tgt := 30) hx hb d_Ref_action_18 (by decide) (fun c_24 => absurd c_24 (by decide)) (fun c_24 => ?_)
    refine tp_pc (pc' := 21) (by rfl) ?_
    refine lv_aload_n hx hb d_Ref_action_21 rfl (lv_at hl 0 rfl) ?_
    refine va_get (D := (dC, dI)) (ci := 8) (v := .int (nI Ac)) (C := R_Ref) (T := F_Ref) (N := 48) hx hb hw i_Ref hown hK hP 0 rfl rfl 1 (by decide) (hw _ m_900) (fun _ h9 => h9) rfl d_Ref_action_22 ?_
    refine lv_bipush (v := 7) hx hb d_Ref_action_25 (by decide) ?_
    refine lv_icmp_ne (tgt := 32) hx hb d_Ref_action_27 (by decide) (fun c9 => ?_) (fun c9 => absurd ((nI_eq (a := Ac) (b := 7) (by omega) (by omega)).mp c9) (by omega))
    refine tp_pc (pc' := 32) (by rfl) ?_
    refine lv_iload hx hb d_Ref_action_32 (lv_at hl 5 rfl) ?_
    refine lv_bipush (v := (-9)) hx hb d_Ref_action_34 (by decide) ?_
    refine lv_icmp_lt (tgt := 61) hx hb d_Ref_action_36 (by decide) (fun c9 => absurd c9 ho.2.2.1) (fun c9 => ?_)
    refine tp_pc (pc' := 39) (by rfl) ?_
    refine lv_iload hx hb d_Ref_action_39 (lv_at hl 5 rfl) ?_
    refine lv_bipush (v := 9) hx hb d_Ref_action_41 (by decide) ?_
    refine lv_icmp_gt (tgt := 61) hx hb d_Ref_action_43 (by decide) (fun c9 => absurd c9 ho.2.2.2) (fun c9 => ?_)
    refine tp_pc (pc' := 46) (by rfl) ?_
    refine lv_iload hx hb d_Ref_action_46 (lv_at hl 4 rfl) ?_
    refine lv_if_lt (tgt := 61) hx hb d_Ref_action_48 (by decide) (fun c9 => absurd c9 (nI_pos (by omega))) (fun c9 => ?_)
    refine tp_pc (pc' := 51) (by rfl) ?_
    refine lv_iload hx hb d_Ref_action_51 (lv_at hl 4 rfl) ?_
    refine lv_iconst (v := 1) hx hb d_Ref_action_53 (by decide) ?_
    refine lv_icmp_gt (tgt := 61) hx hb d_Ref_action_54 (by decide) (fun c9 => absurd ((nI_ltI (a := 1) (b := rn) (by omega) (by omega)).mp c9) (by omega)) (fun c9 => ?_)
    refine tp_pc (pc' := 57) (by rfl) ?_
    refine lv_iconst (v := 1) hx hb d_Ref_action_57 (by decide) ?_
    refine lv_goto (tgt := 62) hx hb d_Ref_action_58 (by decide) ?_
    refine tp_pc (pc' := 62) (by rfl) ?_
    refine lv_istore (lv' := [(6, .int 1), (0, .ref ra), (1, .int (nI t)), (2, .int 2), (3, .int (nI x)), (4, .int (nI rn)), (5, .int v)]) hx hb d_Ref_action_62 hl (by decide) rfl ?_
    clear hl ls
    intro ls hl
    refine lv_iload hx hb d_Ref_action_64 (lv_at hl 0 rfl) ?_
    refine lv_if_eq (tgt := 112) hx hb d_Ref_action_66 (by decide) (fun c_25 => absurd c_25 (by decide)) (fun c_25 => ?_)
    refine tp_pc (pc' := 69) (by rfl) ?_
    refine lv_iload_n hx hb d_Ref_action_69 rfl (lv_at hl 3 rfl) ?_
    refine lv_iconst (v := 5) hx hb d_Ref_action_70 (by decide) ?_
    refine lv_icmp_ne (tgt := 87) hx hb d_Ref_action_71 (by decide) (fun c_26 => ?_) (fun c_26 => absurd c_26 (by decide))
    refine tp_pc (pc' := 87) (by rfl) ?_
    refine lv_iload_n hx hb d_Ref_action_87 rfl (lv_at hl 3 rfl) ?_
    refine lv_iconst (v := 4) hx hb d_Ref_action_88 (by decide) ?_
    refine lv_icmp_ne (tgt := 99) hx hb d_Ref_action_89 (by decide) (fun c_27 => ?_) (fun c_27 => absurd c_27 (by decide))
    refine tp_pc (pc' := 99) (by rfl) ?_
    refine lv_iload_n hx hb d_Ref_action_99 rfl (lv_at hl 4 rfl) ?_
    refine lv_if_lt (tgt := 112) hx hb d_Ref_action_100 (by decide) (fun c9 => absurd c9 ho.1.1) (fun c9 => ?_)
    refine tp_pc (pc' := 103) (by rfl) ?_
    refine lv_iload_n hx hb d_Ref_action_103 rfl (lv_at hl 4 rfl) ?_
    refine lv_iconst (v := 2) hx hb d_Ref_action_104 (by decide) ?_
    refine lv_icmp_gt (tgt := 112) hx hb d_Ref_action_105 (by decide) (fun c9 => absurd (gt2.mp c9) ho.1.2) (fun c9 => ?_)
    refine tp_pc (pc' := 108) (by rfl) ?_
    refine lv_iconst (v := 1) hx hb d_Ref_action_108 (by decide) ?_
    refine lv_goto (tgt := 113) hx hb d_Ref_action_109 (by decide) ?_
    refine tp_pc (pc' := 113) (by rfl) ?_
    refine lv_istore (lv' := [(6, .int 1), (0, .ref ra), (1, .int (nI t)), (2, .int 2), (3, .int (nI x)), (4, .int (nI rn)), (5, .int v)]) hx hb d_Ref_action_113 hl (by decide) rfl ?_
    clear hl ls
    intro ls hl
    refine lv_iload hx hb d_Ref_action_115 (lv_at hl 0 rfl) ?_
    refine lv_if_eq (tgt := 153) hx hb d_Ref_action_117 (by decide) (fun c_28 => absurd c_28 (by decide)) (fun c_28 => ?_)
    refine tp_pc (pc' := 120) (by rfl) ?_
    refine lv_iload_n hx hb d_Ref_action_120 rfl (lv_at hl 3 rfl) ?_
    refine lv_iconst (v := 1) hx hb d_Ref_action_121 (by decide) ?_
    refine lv_icmp_eq (tgt := 130) hx hb d_Ref_action_122 (by decide) (fun c_29 => absurd c_29 (by decide)) (fun c_29 => ?_)
    refine tp_pc (pc' := 125) (by rfl) ?_
    refine lv_iload_n hx hb d_Ref_action_125 rfl (lv_at hl 3 rfl) ?_
    refine lv_iconst (v := 4) hx hb d_Ref_action_126 (by decide) ?_
    refine lv_icmp_ne (tgt := 135) hx hb d_Ref_action_127 (by decide) (fun c_30 => ?_) (fun c_30 => absurd c_30 (by decide))
    refine tp_pc (pc' := 135) (by rfl) ?_
    refine lv_iload_n hx hb d_Ref_action_135 rfl (lv_at hl 3 rfl) ?_
    refine lv_if_eq (tgt := 144) hx hb d_Ref_action_136 (by decide) (fun c_31 => absurd c_31 (by decide)) (fun c_31 => ?_)
    refine tp_pc (pc' := 139) (by rfl) ?_
    refine lv_iload_n hx hb d_Ref_action_139 rfl (lv_at hl 3 rfl) ?_
    refine lv_iconst (v := 4) hx hb d_Ref_action_140 (by decide) ?_
    refine lv_icmp_ne (tgt := 149) hx hb d_Ref_action_141 (by decide) (fun c_32 => ?_) (fun c_32 => absurd c_32 (by decide))
    refine tp_pc (pc' := 149) (by rfl) ?_
    refine lv_iconst (v := 1) hx hb d_Ref_action_149 (by decide) ?_
    refine lv_goto (tgt := 154) hx hb d_Ref_action_150 (by decide) ?_
    refine tp_pc (pc' := 154) (by rfl) ?_
    refine lv_istore (lv' := [(6, .int 1), (0, .ref ra), (1, .int (nI t)), (2, .int 2), (3, .int (nI x)), (4, .int (nI rn)), (5, .int v)]) hx hb d_Ref_action_154 hl (by decide) rfl ?_
    clear hl ls
    intro ls hl
    refine lv_iload hx hb d_Ref_action_156 (lv_at hl 0 rfl) ?_
    refine lv_if_ne (tgt := 163) hx hb d_Ref_action_158 (by decide) (fun c_33 => ?_) (fun c_33 => absurd c_33 (by decide))
    refine tp_pc (pc' := 163) (by rfl) ?_
    replace hl : lv_has ls 8 [(6, .int 1), (0, .ref ra), (1, .int (nI t)), (2, .int (nI k)), (3, .int (nI x)), (4, .int (nI rn)), (5, .int v)] := by rw [hkk]; exact hl
    refine lv_bipush (v := 7) hx hb d_Ref_action_163 (by decide) ?_
    refine lv_iload_n hx hb d_Ref_action_165 rfl (lv_at hl 2 rfl) ?_
    refine lv_imul hx hb d_Ref_action_166 ?_
    refine tp_i (y := nI (7 * t)) (by exact pk_mul 7 t) ?_
    refine lv_aload_n hx hb d_Ref_action_167 rfl (lv_at hl 1 rfl) ?_
    refine va_get (D := (dC, dI)) (ci := 8) (v := .ref (rA 2)) (C := R_Ref) (T := F_Ref) (N := 48) hx hb hw i_Ref hown hK hP 0 rfl rfl 2 (by decide) (hw _ m_901) (fun _ h9 => h9) rfl d_Ref_action_168 ?_
    refine lv_iload_n hx hb d_Ref_action_171 rfl (lv_at hl 2 rfl) ?_
    refine va_iald (D := (dC, dI)) hx hb hK hP 2 1 rfl rfl (i := nI t) (pk_in t 4 (by omega)) d_Ref_action_172 ?_
    refine tp_i (y := nI (zs t)) (by rw [show (nI t : Int32).toNatClampNeg = t from pk_cl t]) ?_
    refine lv_iadd hx hb d_Ref_action_173 ?_
    refine tp_i (y := nI (7 * t + (zs t))) (by exact nI_add (7 * t) (zs t)) ?_
    refine lv_istore (lv' := [(7, .int (nI (7 * t + (zs t)))), (6, .int 1), (0, .ref ra), (1, .int (nI t)), (2, .int (nI k)), (3, .int (nI x)), (4, .int (nI rn)), (5, .int v)]) hx hb d_Ref_action_174 hl (by decide) rfl ?_
    clear hl ls
    intro ls hl
    refine lv_aload_n hx hb d_Ref_action_176 rfl (lv_at hl 2 rfl) ?_
    refine va_get (D := (dC, dI)) (ci := 8) (v := .ref (rA 3)) (C := R_Ref) (T := F_Ref) (N := 48) hx hb hw i_Ref hown hK hP 0 rfl rfl 3 (by decide) (hw _ m_902) (fun _ h9 => h9) rfl d_Ref_action_177 ?_
    refine lv_iload hx hb d_Ref_action_180 (lv_at hl 0 rfl) ?_
    refine lv_iload_n hx hb d_Ref_action_182 rfl (lv_at hl 4 rfl) ?_
    refine va_iast (D := (dC, dI)) hx hb hK hP (dd_D hD rfl) hS 3 2 rfl rfl (i := nI (7 * t + (zs t))) (x := nI k) (pk_in (7 * t + (zs t)) 28 (by omega)) d_Ref_action_183 ?_
    clear hP hS
    intro H locs hP _ hS
    rw [show (nI (7 * t + (zs t)) : Int32).toNatClampNeg = 7 * t + (zs t) from pk_cl (7 * t + (zs t))] at hP
    rw [show upd (fun i => nI (kd i)) (7 * t + (zs t)) (nI k) = fun i => nI (updN kd (7 * t + (zs t)) k i) from upd_nI] at hP
    replace hP : va_P (dC, dI) classes [oc ra 8 [.int (nI T), .int (nI Ac), .ref (rA 2), .ref (rA 3), .ref (rA 4), .ref (rA 5), .ref (rA 6), .ref (rA 7), .ref (rA 8), .ref (rA 9), .ref (rA 10), .ref (rA 11), .ref (rA 12), .ref (rA 13), .int ir, .ref (rA 15), .ref (rA 16), .ref (rA 17), .ref (rA 18), .int (nI md), .int (nI wd), .ref (rA 21), .ref (rA 22), .ref (rA 23), .int (nI mn), .ref (rA 25), .int (nI cb), .int mr, .ref (rA 28), .ref (rA 29), .ref (rA 30), .ref (rA 31), .ref (rA 32), .ref (rA 33), .ref (rA 34), .ref (rA 35), .int (nI ld), .int (nI gm), .ref (rA 38), .ref (rA 39), .ref (rA 40), .ref (rA 41), .ref (rA 42), .ref (rA 43), .ref (rA 44), .ref (rA 45), .int (nI my), .ref (rA 47)], ia (rA 7) (rK9 7) 8 ff, ia (rA 2) (rK9 2) 4 (fun i => nI (zs i)), ia (rA 3) (rK9 3) 28 (fun i => nI ((updN kd (7 * t + (zs t)) k) i)), ia (rA 4) (rK9 4) 28 (fun i => nI (vx i)), ia (rA 5) (rK9 5) 28 (fun i => nI (rr i)), ia (rA 6) (rK9 6) 28 vv] H := hP
    refine tp_pc (pc' := 184) (by rfl) ?_
    refine lv_aload_n hx hb d_Ref_action_184 rfl (lv_at hl 2 rfl) ?_
    refine va_get (D := (dC, dI)) (ci := 8) (v := .ref (rA 4)) (C := R_Ref) (T := F_Ref) (N := 48) hx hb hw i_Ref hown hK hP 0 rfl rfl 4 (by decide) (hw _ m_903) (fun _ h9 => h9) rfl d_Ref_action_185 ?_
    refine lv_iload hx hb d_Ref_action_188 (lv_at hl 0 rfl) ?_
    refine lv_iload_n hx hb d_Ref_action_190 rfl (lv_at hl 5 rfl) ?_
    refine va_iast (D := (dC, dI)) hx hb hK hP (dd_D hD rfl) hS 4 3 rfl rfl (i := nI (7 * t + (zs t))) (x := nI x) (pk_in (7 * t + (zs t)) 28 (by omega)) d_Ref_action_191 ?_
    clear hP hS locs H
    intro H locs hP _ hS
    rw [show (nI (7 * t + (zs t)) : Int32).toNatClampNeg = 7 * t + (zs t) from pk_cl (7 * t + (zs t))] at hP
    rw [show upd (fun i => nI (vx i)) (7 * t + (zs t)) (nI x) = fun i => nI (updN vx (7 * t + (zs t)) x i) from upd_nI] at hP
    replace hP : va_P (dC, dI) classes [oc ra 8 [.int (nI T), .int (nI Ac), .ref (rA 2), .ref (rA 3), .ref (rA 4), .ref (rA 5), .ref (rA 6), .ref (rA 7), .ref (rA 8), .ref (rA 9), .ref (rA 10), .ref (rA 11), .ref (rA 12), .ref (rA 13), .int ir, .ref (rA 15), .ref (rA 16), .ref (rA 17), .ref (rA 18), .int (nI md), .int (nI wd), .ref (rA 21), .ref (rA 22), .ref (rA 23), .int (nI mn), .ref (rA 25), .int (nI cb), .int mr, .ref (rA 28), .ref (rA 29), .ref (rA 30), .ref (rA 31), .ref (rA 32), .ref (rA 33), .ref (rA 34), .ref (rA 35), .int (nI ld), .int (nI gm), .ref (rA 38), .ref (rA 39), .ref (rA 40), .ref (rA 41), .ref (rA 42), .ref (rA 43), .ref (rA 44), .ref (rA 45), .int (nI my), .ref (rA 47)], ia (rA 7) (rK9 7) 8 ff, ia (rA 2) (rK9 2) 4 (fun i => nI (zs i)), ia (rA 3) (rK9 3) 28 (fun i => nI ((updN kd (7 * t + (zs t)) k) i)), ia (rA 4) (rK9 4) 28 (fun i => nI ((updN vx (7 * t + (zs t)) x) i)), ia (rA 5) (rK9 5) 28 (fun i => nI (rr i)), ia (rA 6) (rK9 6) 28 vv] H := hP
    refine tp_pc (pc' := 192) (by rfl) ?_
    refine lv_aload_n hx hb d_Ref_action_192 rfl (lv_at hl 2 rfl) ?_
    refine va_get (D := (dC, dI)) (ci := 8) (v := .ref (rA 5)) (C := R_Ref) (T := F_Ref) (N := 48) hx hb hw i_Ref hown hK hP 0 rfl rfl 5 (by decide) (hw _ m_904) (fun _ h9 => h9) rfl d_Ref_action_193 ?_
    refine lv_iload hx hb d_Ref_action_196 (lv_at hl 0 rfl) ?_
    refine lv_iload hx hb d_Ref_action_198 (lv_at hl 6 rfl) ?_
    refine va_iast (D := (dC, dI)) hx hb hK hP (dd_D hD rfl) hS 5 4 rfl rfl (i := nI (7 * t + (zs t))) (x := nI rn) (pk_in (7 * t + (zs t)) 28 (by omega)) d_Ref_action_200 ?_
    clear hP hS locs H
    intro H locs hP _ hS
    rw [show (nI (7 * t + (zs t)) : Int32).toNatClampNeg = 7 * t + (zs t) from pk_cl (7 * t + (zs t))] at hP
    rw [show upd (fun i => nI (rr i)) (7 * t + (zs t)) (nI rn) = fun i => nI (updN rr (7 * t + (zs t)) rn i) from upd_nI] at hP
    replace hP : va_P (dC, dI) classes [oc ra 8 [.int (nI T), .int (nI Ac), .ref (rA 2), .ref (rA 3), .ref (rA 4), .ref (rA 5), .ref (rA 6), .ref (rA 7), .ref (rA 8), .ref (rA 9), .ref (rA 10), .ref (rA 11), .ref (rA 12), .ref (rA 13), .int ir, .ref (rA 15), .ref (rA 16), .ref (rA 17), .ref (rA 18), .int (nI md), .int (nI wd), .ref (rA 21), .ref (rA 22), .ref (rA 23), .int (nI mn), .ref (rA 25), .int (nI cb), .int mr, .ref (rA 28), .ref (rA 29), .ref (rA 30), .ref (rA 31), .ref (rA 32), .ref (rA 33), .ref (rA 34), .ref (rA 35), .int (nI ld), .int (nI gm), .ref (rA 38), .ref (rA 39), .ref (rA 40), .ref (rA 41), .ref (rA 42), .ref (rA 43), .ref (rA 44), .ref (rA 45), .int (nI my), .ref (rA 47)], ia (rA 7) (rK9 7) 8 ff, ia (rA 2) (rK9 2) 4 (fun i => nI (zs i)), ia (rA 3) (rK9 3) 28 (fun i => nI ((updN kd (7 * t + (zs t)) k) i)), ia (rA 4) (rK9 4) 28 (fun i => nI ((updN vx (7 * t + (zs t)) x) i)), ia (rA 5) (rK9 5) 28 (fun i => nI ((updN rr (7 * t + (zs t)) rn) i)), ia (rA 6) (rK9 6) 28 vv] H := hP
    refine tp_pc (pc' := 201) (by rfl) ?_
    refine lv_aload_n hx hb d_Ref_action_201 rfl (lv_at hl 2 rfl) ?_
    refine va_get (D := (dC, dI)) (ci := 8) (v := .ref (rA 6)) (C := R_Ref) (T := F_Ref) (N := 48) hx hb hw i_Ref hown hK hP 0 rfl rfl 6 (by decide) (hw _ m_905) (fun _ h9 => h9) rfl d_Ref_action_202 ?_
    refine lv_iload hx hb d_Ref_action_205 (lv_at hl 0 rfl) ?_
    refine lv_iload hx hb d_Ref_action_207 (lv_at hl 7 rfl) ?_
    refine va_iast (D := (dC, dI)) hx hb hK hP (dd_D hD rfl) hS 6 5 rfl rfl (i := nI (7 * t + (zs t))) (x := v) (pk_in (7 * t + (zs t)) 28 (by omega)) d_Ref_action_209 ?_
    clear hP hS locs H
    intro H locs hP _ hS
    rw [show (nI (7 * t + (zs t)) : Int32).toNatClampNeg = 7 * t + (zs t) from pk_cl (7 * t + (zs t))] at hP
    replace hP : va_P (dC, dI) classes [oc ra 8 [.int (nI T), .int (nI Ac), .ref (rA 2), .ref (rA 3), .ref (rA 4), .ref (rA 5), .ref (rA 6), .ref (rA 7), .ref (rA 8), .ref (rA 9), .ref (rA 10), .ref (rA 11), .ref (rA 12), .ref (rA 13), .int ir, .ref (rA 15), .ref (rA 16), .ref (rA 17), .ref (rA 18), .int (nI md), .int (nI wd), .ref (rA 21), .ref (rA 22), .ref (rA 23), .int (nI mn), .ref (rA 25), .int (nI cb), .int mr, .ref (rA 28), .ref (rA 29), .ref (rA 30), .ref (rA 31), .ref (rA 32), .ref (rA 33), .ref (rA 34), .ref (rA 35), .int (nI ld), .int (nI gm), .ref (rA 38), .ref (rA 39), .ref (rA 40), .ref (rA 41), .ref (rA 42), .ref (rA 43), .ref (rA 44), .ref (rA 45), .int (nI my), .ref (rA 47)], ia (rA 7) (rK9 7) 8 ff, ia (rA 2) (rK9 2) 4 (fun i => nI (zs i)), ia (rA 3) (rK9 3) 28 (fun i => nI ((updN kd (7 * t + (zs t)) k) i)), ia (rA 4) (rK9 4) 28 (fun i => nI ((updN vx (7 * t + (zs t)) x) i)), ia (rA 5) (rK9 5) 28 (fun i => nI ((updN rr (7 * t + (zs t)) rn) i)), ia (rA 6) (rK9 6) 28 (upd vv (7 * t + (zs t)) v)] H := hP
    refine tp_pc (pc' := 210) (by rfl) ?_
    refine lv_aload_n hx hb d_Ref_action_210 rfl (lv_at hl 2 rfl) ?_
    refine va_get (D := (dC, dI)) (ci := 8) (v := .ref (rA 2)) (C := R_Ref) (T := F_Ref) (N := 48) hx hb hw i_Ref hown hK hP 0 rfl rfl 2 (by decide) (hw _ m_901) (fun _ h9 => h9) rfl d_Ref_action_211 ?_
    refine lv_iload_n hx hb d_Ref_action_214 rfl (lv_at hl 3 rfl) ?_
    refine lv_dup2_11 hx hb d_Ref_action_215 rfl rfl ?_
    refine va_iald (D := (dC, dI)) hx hb hK hP 2 1 rfl rfl (i := nI t) (pk_in t 4 (by omega)) d_Ref_action_216 ?_
    refine tp_i (y := nI (zs t)) (by rw [show (nI t : Int32).toNatClampNeg = t from pk_cl t]) ?_
    refine lv_iconst (v := 1) hx hb d_Ref_action_217 (by decide) ?_
    refine lv_iadd hx hb d_Ref_action_218 ?_
    refine tp_i (y := nI (zs t + 1)) (by exact nI_add (zs t) 1) ?_
    refine va_iast (D := (dC, dI)) hx hb hK hP (dd_D hD rfl) hS 2 1 rfl rfl (i := nI t) (x := nI (zs t + 1)) (pk_in t 4 (by omega)) d_Ref_action_219 ?_
    clear hP hS locs H
    intro H locs hP _ hS
    rw [show (nI t : Int32).toNatClampNeg = t from pk_cl t] at hP
    rw [show upd (fun i => nI (zs i)) t (nI (zs t + 1)) = fun i => nI (updN zs t (zs t + 1) i) from upd_nI] at hP
    replace hP : va_P (dC, dI) classes [oc ra 8 [.int (nI T), .int (nI Ac), .ref (rA 2), .ref (rA 3), .ref (rA 4), .ref (rA 5), .ref (rA 6), .ref (rA 7), .ref (rA 8), .ref (rA 9), .ref (rA 10), .ref (rA 11), .ref (rA 12), .ref (rA 13), .int ir, .ref (rA 15), .ref (rA 16), .ref (rA 17), .ref (rA 18), .int (nI md), .int (nI wd), .ref (rA 21), .ref (rA 22), .ref (rA 23), .int (nI mn), .ref (rA 25), .int (nI cb), .int mr, .ref (rA 28), .ref (rA 29), .ref (rA 30), .ref (rA 31), .ref (rA 32), .ref (rA 33), .ref (rA 34), .ref (rA 35), .int (nI ld), .int (nI gm), .ref (rA 38), .ref (rA 39), .ref (rA 40), .ref (rA 41), .ref (rA 42), .ref (rA 43), .ref (rA 44), .ref (rA 45), .int (nI my), .ref (rA 47)], ia (rA 7) (rK9 7) 8 ff, ia (rA 2) (rK9 2) 4 (fun i => nI ((updN zs t (zs t + 1)) i)), ia (rA 3) (rK9 3) 28 (fun i => nI ((updN kd (7 * t + (zs t)) k) i)), ia (rA 4) (rK9 4) 28 (fun i => nI ((updN vx (7 * t + (zs t)) x) i)), ia (rA 5) (rK9 5) 28 (fun i => nI ((updN rr (7 * t + (zs t)) rn) i)), ia (rA 6) (rK9 6) 28 (upd vv (7 * t + (zs t)) v)] H := hP
    refine tp_pc (pc' := 220) (by rfl) ?_
    refine lv_aload_n hx hb d_Ref_action_220 rfl (lv_at hl 2 rfl) ?_
    refine lv_dup hx hb d_Ref_action_221 rfl ?_
    refine va_get (D := (dC, dI)) (ci := 8) (v := .int (nI Ac)) (C := R_Ref) (T := F_Ref) (N := 48) hx hb hw i_Ref hown hK hP 0 rfl rfl 1 (by decide) (hw _ m_900) (fun _ h9 => h9) rfl d_Ref_action_222 ?_
    refine lv_iconst (v := 1) hx hb d_Ref_action_225 (by decide) ?_
    refine lv_iadd hx hb d_Ref_action_226 ?_
    refine tp_i (y := nI (Ac + 1)) (by exact nI_add Ac 1) ?_
    refine va_put (D := (dC, dI)) (ci := 8) (v := .int (nI (Ac + 1))) (ty := .int) (C := R_Ref) (T := F_Ref) (N := 48) hx hb hw i_Ref t_Ref t_Ref_ok n_Ref hown hK hP (dd_D hD rfl) hS 0 rfl rfl 1 (by decide) (hw _ m_900) (fun _ h9 => h9) rfl (by decide +kernel) rfl rfl (Nat.le_of_ble_eq_true rfl) d_Ref_action_227 ?_
    clear hP hS locs H
    intro H locs (hP : va_P (dC, dI) classes [oc ra 8 [.int (nI T), .int (nI (Ac + 1)), .ref (rA 2), .ref (rA 3), .ref (rA 4), .ref (rA 5), .ref (rA 6), .ref (rA 7), .ref (rA 8), .ref (rA 9), .ref (rA 10), .ref (rA 11), .ref (rA 12), .ref (rA 13), .int ir, .ref (rA 15), .ref (rA 16), .ref (rA 17), .ref (rA 18), .int (nI md), .int (nI wd), .ref (rA 21), .ref (rA 22), .ref (rA 23), .int (nI mn), .ref (rA 25), .int (nI cb), .int mr, .ref (rA 28), .ref (rA 29), .ref (rA 30), .ref (rA 31), .ref (rA 32), .ref (rA 33), .ref (rA 34), .ref (rA 35), .int (nI ld), .int (nI gm), .ref (rA 38), .ref (rA 39), .ref (rA 40), .ref (rA 41), .ref (rA 42), .ref (rA 43), .ref (rA 44), .ref (rA 45), .int (nI my), .ref (rA 47)], ia (rA 7) (rK9 7) 8 ff, ia (rA 2) (rK9 2) 4 (fun i => nI ((updN zs t (zs t + 1)) i)), ia (rA 3) (rK9 3) 28 (fun i => nI ((updN kd (7 * t + (zs t)) k) i)), ia (rA 4) (rK9 4) 28 (fun i => nI ((updN vx (7 * t + (zs t)) x) i)), ia (rA 5) (rK9 5) 28 (fun i => nI ((updN rr (7 * t + (zs t)) rn) i)), ia (rA 6) (rK9 6) 28 (upd vv (7 * t + (zs t)) v)] H) _ hS
    refine tp_pc (pc' := 230) (by rfl) ?_
    refine lv_aload_n hx hb d_Ref_action_230 rfl (lv_at hl 2 rfl) ?_
    obtain ⟨hPc, hDc, hFc⟩ := cut3 (wc := [oc ra 8 [.int (nI T), .int (nI (Ac + 1)), .ref (rA 2), .ref (rA 3), .ref (rA 4), .ref (rA 5), .ref (rA 6), .ref (rA 7), .ref (rA 8), .ref (rA 9), .ref (rA 10), .ref (rA 11), .ref (rA 12), .ref (rA 13), .int ir, .ref (rA 15), .ref (rA 16), .ref (rA 17), .ref (rA 18), .int (nI md), .int (nI wd), .ref (rA 21), .ref (rA 22), .ref (rA 23), .int (nI mn), .ref (rA 25), .int (nI cb), .int mr, .ref (rA 28), .ref (rA 29), .ref (rA 30), .ref (rA 31), .ref (rA 32), .ref (rA 33), .ref (rA 34), .ref (rA 35), .int (nI ld), .int (nI gm), .ref (rA 38), .ref (rA 39), .ref (rA 40), .ref (rA 41), .ref (rA 42), .ref (rA 43), .ref (rA 44), .ref (rA 45), .int (nI my), .ref (rA 47)], ia (rA 7) (rK9 7) 8 ff]) hP hD rfl hS hA [0, 1] (by decide +kernel) rfl
    have hKc := hK.sub (tys' := [((rK9 7), .boolean)]) [0] rfl
    refine va_callv (va_runV (As := []) (rest := []) ⟨hx, hb, hml, hown, hw⟩ (gen_Ref_anew l dC dI ra rA rK9 T (Ac + 1) md wd mn cb ld gm my ir mr ff H.size) (cw_V 0 hw g_Ref_anew rfl rfl rfl (hw _ m_109) (hw _ m_1050) (hw _ m_1052) (hw _ m_51) (by decide +kernel) ⟨Nat.le_of_ble_eq_true rfl, Nat.le_of_ble_eq_true rfl⟩) ⟨fun a U g mk q => by obtain ⟨q0, q1, qP, qK, qD, qN⟩ := q; exact ⟨q0, q1, qP, va_K.moved (u := U) (U := U.calling g mk a) (Vm.Alike.refl U.vm) qK, qD, nw_call qN⟩, va_recv hKc hPc (ci := 8) (q0 := 0) rfl rfl, fun U hU hW => ⟨rfl, by rw [hU], by rw [hU]; exact hPc, va_K.moved hW.alike hKc, hDc.weaken (fun _ _ _ _ => trivial), nw_warm hW hn⟩⟩ rfl rfl hl.1 rfl (lv_room (Nat.le_of_ble_eq_true rfl)) d_Ref_action_231 ⟨Nat.le_of_ble_eq_true rfl, Nat.le_of_ble_eq_true rfl⟩) hS (fun q _ h => hFc q h) hFc ?_
    intro u t9 H1 locs1 ht9 hvm hw1 hB hz1 hk1 hS1
    obtain ⟨hP1, hK1, hD1⟩ := hB
    rw [ht9] at hP1
    replace hK1 := va_K.moved hvm.symm hK1
    have hPD := join3 hP hD rfl [0, 1] [2, 3, 4, 5, 6] rfl (by rfl) (by decide +kernel) (by decide +kernel) hk1 hFc hP1 hD1
    replace hK : va_K (dC, dI) classes [((rK9 7), .boolean), ((rK9 2), .int), ((rK9 3), .int), ((rK9 4), .int), ((rK9 5), .int), ((rK9 6), .int)] s := hK.app hK1
    clear hP1 hK1 hD1 hk1 hz1 hFc hKc hDc hPc hvm ht9 hP hS t9 locs H
    have hP : va_P (dC, dI) classes [ia (rA 2) (rK9 2) 4 (fun i => nI ((updN zs t (zs t + 1)) i)), ia (rA 3) (rK9 3) 28 (fun i => nI ((updN kd (7 * t + (zs t)) k) i)), ia (rA 4) (rK9 4) 28 (fun i => nI ((updN vx (7 * t + (zs t)) x) i)), ia (rA 5) (rK9 5) 28 (fun i => nI ((updN rr (7 * t + (zs t)) rn) i)), ia (rA 6) (rK9 6) 28 (upd vv (7 * t + (zs t)) v), oc ra 8 [.int (nI T), .int (nI (Ac + 1)), .ref (rA 2), .ref (rA 3), .ref (rA 4), .ref (rA 5), .ref (rA 6), .ref (rA 7), .ref (rA 8), .ref (rA 9), .ref (rA 10), .ref (rA 11), .ref (rA 12), .ref (rA 13), .int 0, .ref (rA 15), .ref (rA 16), .ref (rA 17), .ref (rA 18), .int (nI md), .int (nI wd), .ref (rA 21), .ref (rA 22), .ref (rA 23), .int (nI mn), .ref (rA 25), .int (nI cb), .int mr, .ref (rA 28), .ref (rA 29), .ref (rA 30), .ref (rA 31), .ref (rA 32), .ref (rA 33), .ref (rA 34), .ref (rA 35), .int (nI ld), .int (nI gm), .ref (rA 38), .ref (rA 39), .ref (rA 40), .ref (rA 41), .ref (rA 42), .ref (rA 43), .ref (rA 44), .ref (rA 45), .int (nI my), .ref (rA 47)], ia (rA 7) (rK9 7) 8 (fun _ => 0)] H1 := hPD.1
    replace hD : dd A [(rA 2), (rA 3), (rA 4), (rA 5), (rA 6), ra, (rA 7)] := dd_of hPD.2 rfl
    clear hPD
    revert H1 locs1
    intro H locs hS hP
    clear hw1 u
    refine tp_pc (pc' := 234) (by rfl) ?_
    refine lv_aload_n hx hb d_Ref_action_234 rfl (lv_at hl 2 rfl) ?_
    refine va_get (D := (dC, dI)) (ci := 8) (v := .ref (rA 2)) (C := R_Ref) (T := F_Ref) (N := 48) hx hb hw i_Ref hown hK hP 5 rfl rfl 2 (by decide) (hw _ m_901) (fun _ h9 => h9) rfl d_Ref_action_235 ?_
    refine lv_iload_n hx hb d_Ref_action_238 rfl (lv_at hl 3 rfl) ?_
    refine va_iald (D := (dC, dI)) hx hb hK hP 0 1 rfl rfl (i := nI t) (pk_in t 4 (by omega)) d_Ref_action_239 ?_
    refine tp_i (y := nI ((updN zs t (zs t + 1)) t)) (by rw [show (nI t : Int32).toNatClampNeg = t from pk_cl t]) ?_
    refine tp_i (y := nI (zs t + 1)) (congrArg nI (if_pos rfl)) ?_
    replace hP : va_P (dC, dI) classes [ia (rA 2) (rK9 2) 4 (fun i => nI ((updN zs t (zs t + 1)) i)), ia (rA 3) (rK9 3) 28 (fun i => nI ((updN kd (7 * t + zs t) k) i)), ia (rA 4) (rK9 4) 28 (fun i => nI ((updN vx (7 * t + zs t) x) i)), ia (rA 5) (rK9 5) 28 (fun i => nI ((updN rr (7 * t + zs t) rn) i)), ia (rA 6) (rK9 6) 28 (upd vv (7 * t + zs t) v), oc ra 8 [.int (nI T), .int (nI (Ac + 1)), .ref (rA 2), .ref (rA 3), .ref (rA 4), .ref (rA 5), .ref (rA 6), .ref (rA 7), .ref (rA 8), .ref (rA 9), .ref (rA 10), .ref (rA 11), .ref (rA 12), .ref (rA 13), .int 0, .ref (rA 15), .ref (rA 16), .ref (rA 17), .ref (rA 18), .int (nI md), .int (nI wd), .ref (rA 21), .ref (rA 22), .ref (rA 23), .int (nI mn), .ref (rA 25), .int (nI cb), .int mr, .ref (rA 28), .ref (rA 29), .ref (rA 30), .ref (rA 31), .ref (rA 32), .ref (rA 33), .ref (rA 34), .ref (rA 35), .int (nI ld), .int (nI gm), .ref (rA 38), .ref (rA 39), .ref (rA 40), .ref (rA 41), .ref (rA 42), .ref (rA 43), .ref (rA 44), .ref (rA 45), .int (nI my), .ref (rA 47)], ia (rA 7) (rK9 7) 8 (fun _ => 0)] H := hP
    obtain ⟨hP9, hD9, -⟩ := cut3 (wc := [oc ra 8 [.int (nI T), .int (nI (Ac + 1)), .ref (rA 2), .ref (rA 3), .ref (rA 4), .ref (rA 5), .ref (rA 6), .ref (rA 7), .ref (rA 8), .ref (rA 9), .ref (rA 10), .ref (rA 11), .ref (rA 12), .ref (rA 13), .int 0, .ref (rA 15), .ref (rA 16), .ref (rA 17), .ref (rA 18), .int (nI md), .int (nI wd), .ref (rA 21), .ref (rA 22), .ref (rA 23), .int (nI mn), .ref (rA 25), .int (nI cb), .int mr, .ref (rA 28), .ref (rA 29), .ref (rA 30), .ref (rA 31), .ref (rA 32), .ref (rA 33), .ref (rA 34), .ref (rA 35), .int (nI ld), .int (nI gm), .ref (rA 38), .ref (rA 39), .ref (rA 40), .ref (rA 41), .ref (rA 42), .ref (rA 43), .ref (rA 44), .ref (rA 45), .int (nI my), .ref (rA 47)], ia (rA 7) (rK9 7) 8 (fun _ => 0), ia (rA 2) (rK9 2) 4 (fun i => nI ((updN zs t (zs t + 1)) i)), ia (rA 3) (rK9 3) 28 (fun i => nI ((updN kd (7 * t + zs t) k) i)), ia (rA 4) (rK9 4) 28 (fun i => nI ((updN vx (7 * t + zs t) x) i)), ia (rA 5) (rK9 5) 28 (fun i => nI ((updN rr (7 * t + zs t) rn) i)), ia (rA 6) (rK9 6) 28 (upd vv (7 * t + zs t) v)]) hP hD rfl hS hA [5, 6, 0, 1, 2, 3, 4] (by decide +kernel) rfl
    have hK9 := hK.sub (tys' := []) [] rfl
    refine W.widen (k := 0) (n := 0) (by exact Nat.le_of_ble_eq_true rfl) (by exact Nat.le_of_ble_eq_true rfl) ?_
    exact W.iret (v := (nI (zs t + 1))) hx hb hr (fun t9 ht9 hW => ⟨⟨nI (zs t + 1), (), rfl, rfl, by rw [ht9]; exact hP9, va_K.moved hW.alike hK9, hD9⟩, hS.F ht9⟩) hS.2.2 d_Ref_action_240
  · skip
    replace hl : lv_has ls 8 [(0, .ref ra), (1, .int (nI t)), (2, .int 3), (3, .int (nI x)), (4, .int (nI rn)), (5, .int v)] := by rw [hkk] at hl; exact hl
    have ho := actP_3.mp (by rw [hkk] at hok; exact hok)
    refine tp_pc (pc' := 12) (by rfl) ?_
    refine lv_iload_n hx hb d_Ref_action_12 rfl (lv_at hl 2 rfl) ?_
    refine lv_if_lt (tgt := 30) hx hb d_Ref_action_13 (by decide) (fun c_35 => absurd c_35 (by decide)) (fun c_35 => ?_)
    refine tp_pc (pc' := 16) (by rfl) ?_
    refine lv_iload_n hx hb d_Ref_action_16 rfl (lv_at hl 2 rfl) ?_
    refine lv_iconst (v := 5) hx hb d_Ref_action_17 (by decide) ?_
    refine lv_icmp_gt (tgt := 30) hx hb d_Ref_action_18 (by decide) (fun c_36 => absurd c_36 (by decide)) (fun c_36 => ?_)
    refine tp_pc (pc' := 21) (by rfl) ?_
    refine lv_aload_n hx hb d_Ref_action_21 rfl (lv_at hl 0 rfl) ?_
    refine va_get (D := (dC, dI)) (ci := 8) (v := .int (nI Ac)) (C := R_Ref) (T := F_Ref) (N := 48) hx hb hw i_Ref hown hK hP 0 rfl rfl 1 (by decide) (hw _ m_900) (fun _ h9 => h9) rfl d_Ref_action_22 ?_
    refine lv_bipush (v := 7) hx hb d_Ref_action_25 (by decide) ?_
    refine lv_icmp_ne (tgt := 32) hx hb d_Ref_action_27 (by decide) (fun c9 => ?_) (fun c9 => absurd ((nI_eq (a := Ac) (b := 7) (by omega) (by omega)).mp c9) (by omega))
    refine tp_pc (pc' := 32) (by rfl) ?_
    refine lv_iload hx hb d_Ref_action_32 (lv_at hl 5 rfl) ?_
    refine lv_bipush (v := (-9)) hx hb d_Ref_action_34 (by decide) ?_
    refine lv_icmp_lt (tgt := 61) hx hb d_Ref_action_36 (by decide) (fun c9 => absurd c9 ho.2.2.1) (fun c9 => ?_)
    refine tp_pc (pc' := 39) (by rfl) ?_
    refine lv_iload hx hb d_Ref_action_39 (lv_at hl 5 rfl) ?_
    refine lv_bipush (v := 9) hx hb d_Ref_action_41 (by decide) ?_
    refine lv_icmp_gt (tgt := 61) hx hb d_Ref_action_43 (by decide) (fun c9 => absurd c9 ho.2.2.2) (fun c9 => ?_)
    refine tp_pc (pc' := 46) (by rfl) ?_
    refine lv_iload hx hb d_Ref_action_46 (lv_at hl 4 rfl) ?_
    refine lv_if_lt (tgt := 61) hx hb d_Ref_action_48 (by decide) (fun c9 => absurd c9 (nI_pos (by omega))) (fun c9 => ?_)
    refine tp_pc (pc' := 51) (by rfl) ?_
    refine lv_iload hx hb d_Ref_action_51 (lv_at hl 4 rfl) ?_
    refine lv_iconst (v := 1) hx hb d_Ref_action_53 (by decide) ?_
    refine lv_icmp_gt (tgt := 61) hx hb d_Ref_action_54 (by decide) (fun c9 => absurd ((nI_ltI (a := 1) (b := rn) (by omega) (by omega)).mp c9) (by omega)) (fun c9 => ?_)
    refine tp_pc (pc' := 57) (by rfl) ?_
    refine lv_iconst (v := 1) hx hb d_Ref_action_57 (by decide) ?_
    refine lv_goto (tgt := 62) hx hb d_Ref_action_58 (by decide) ?_
    refine tp_pc (pc' := 62) (by rfl) ?_
    refine lv_istore (lv' := [(6, .int 1), (0, .ref ra), (1, .int (nI t)), (2, .int 3), (3, .int (nI x)), (4, .int (nI rn)), (5, .int v)]) hx hb d_Ref_action_62 hl (by decide) rfl ?_
    clear hl ls
    intro ls hl
    refine lv_iload hx hb d_Ref_action_64 (lv_at hl 0 rfl) ?_
    refine lv_if_eq (tgt := 112) hx hb d_Ref_action_66 (by decide) (fun c_37 => absurd c_37 (by decide)) (fun c_37 => ?_)
    refine tp_pc (pc' := 69) (by rfl) ?_
    refine lv_iload_n hx hb d_Ref_action_69 rfl (lv_at hl 3 rfl) ?_
    refine lv_iconst (v := 5) hx hb d_Ref_action_70 (by decide) ?_
    refine lv_icmp_ne (tgt := 87) hx hb d_Ref_action_71 (by decide) (fun c_38 => ?_) (fun c_38 => absurd c_38 (by decide))
    refine tp_pc (pc' := 87) (by rfl) ?_
    refine lv_iload_n hx hb d_Ref_action_87 rfl (lv_at hl 3 rfl) ?_
    refine lv_iconst (v := 4) hx hb d_Ref_action_88 (by decide) ?_
    refine lv_icmp_ne (tgt := 99) hx hb d_Ref_action_89 (by decide) (fun c_39 => ?_) (fun c_39 => absurd c_39 (by decide))
    refine tp_pc (pc' := 99) (by rfl) ?_
    refine lv_iload_n hx hb d_Ref_action_99 rfl (lv_at hl 4 rfl) ?_
    refine lv_if_lt (tgt := 112) hx hb d_Ref_action_100 (by decide) (fun c9 => absurd c9 ho.1.1) (fun c9 => ?_)
    refine tp_pc (pc' := 103) (by rfl) ?_
    refine lv_iload_n hx hb d_Ref_action_103 rfl (lv_at hl 4 rfl) ?_
    refine lv_iconst (v := 2) hx hb d_Ref_action_104 (by decide) ?_
    refine lv_icmp_gt (tgt := 112) hx hb d_Ref_action_105 (by decide) (fun c9 => absurd (gt2.mp c9) ho.1.2) (fun c9 => ?_)
    refine tp_pc (pc' := 108) (by rfl) ?_
    refine lv_iconst (v := 1) hx hb d_Ref_action_108 (by decide) ?_
    refine lv_goto (tgt := 113) hx hb d_Ref_action_109 (by decide) ?_
    refine tp_pc (pc' := 113) (by rfl) ?_
    refine lv_istore (lv' := [(6, .int 1), (0, .ref ra), (1, .int (nI t)), (2, .int 3), (3, .int (nI x)), (4, .int (nI rn)), (5, .int v)]) hx hb d_Ref_action_113 hl (by decide) rfl ?_
    clear hl ls
    intro ls hl
    refine lv_iload hx hb d_Ref_action_115 (lv_at hl 0 rfl) ?_
    refine lv_if_eq (tgt := 153) hx hb d_Ref_action_117 (by decide) (fun c_40 => absurd c_40 (by decide)) (fun c_40 => ?_)
    refine tp_pc (pc' := 120) (by rfl) ?_
    refine lv_iload_n hx hb d_Ref_action_120 rfl (lv_at hl 3 rfl) ?_
    refine lv_iconst (v := 1) hx hb d_Ref_action_121 (by decide) ?_
    refine lv_icmp_eq (tgt := 130) hx hb d_Ref_action_122 (by decide) (fun c_41 => absurd c_41 (by decide)) (fun c_41 => ?_)
    refine tp_pc (pc' := 125) (by rfl) ?_
    refine lv_iload_n hx hb d_Ref_action_125 rfl (lv_at hl 3 rfl) ?_
    refine lv_iconst (v := 4) hx hb d_Ref_action_126 (by decide) ?_
    refine lv_icmp_ne (tgt := 135) hx hb d_Ref_action_127 (by decide) (fun c_42 => ?_) (fun c_42 => absurd c_42 (by decide))
    refine tp_pc (pc' := 135) (by rfl) ?_
    refine lv_iload_n hx hb d_Ref_action_135 rfl (lv_at hl 3 rfl) ?_
    refine lv_if_eq (tgt := 144) hx hb d_Ref_action_136 (by decide) (fun c_43 => absurd c_43 (by decide)) (fun c_43 => ?_)
    refine tp_pc (pc' := 139) (by rfl) ?_
    refine lv_iload_n hx hb d_Ref_action_139 rfl (lv_at hl 3 rfl) ?_
    refine lv_iconst (v := 4) hx hb d_Ref_action_140 (by decide) ?_
    refine lv_icmp_ne (tgt := 149) hx hb d_Ref_action_141 (by decide) (fun c_44 => ?_) (fun c_44 => absurd c_44 (by decide))
    refine tp_pc (pc' := 149) (by rfl) ?_
    refine lv_iconst (v := 1) hx hb d_Ref_action_149 (by decide) ?_
    refine lv_goto (tgt := 154) hx hb d_Ref_action_150 (by decide) ?_
    refine tp_pc (pc' := 154) (by rfl) ?_
    refine lv_istore (lv' := [(6, .int 1), (0, .ref ra), (1, .int (nI t)), (2, .int 3), (3, .int (nI x)), (4, .int (nI rn)), (5, .int v)]) hx hb d_Ref_action_154 hl (by decide) rfl ?_
    clear hl ls
    intro ls hl
    refine lv_iload hx hb d_Ref_action_156 (lv_at hl 0 rfl) ?_
    refine lv_if_ne (tgt := 163) hx hb d_Ref_action_158 (by decide) (fun c_45 => ?_) (fun c_45 => absurd c_45 (by decide))
    refine tp_pc (pc' := 163) (by rfl) ?_
    replace hl : lv_has ls 8 [(6, .int 1), (0, .ref ra), (1, .int (nI t)), (2, .int (nI k)), (3, .int (nI x)), (4, .int (nI rn)), (5, .int v)] := by rw [hkk]; exact hl
    refine lv_bipush (v := 7) hx hb d_Ref_action_163 (by decide) ?_
    refine lv_iload_n hx hb d_Ref_action_165 rfl (lv_at hl 2 rfl) ?_
    refine lv_imul hx hb d_Ref_action_166 ?_
    refine tp_i (y := nI (7 * t)) (by exact pk_mul 7 t) ?_
    refine lv_aload_n hx hb d_Ref_action_167 rfl (lv_at hl 1 rfl) ?_
    refine va_get (D := (dC, dI)) (ci := 8) (v := .ref (rA 2)) (C := R_Ref) (T := F_Ref) (N := 48) hx hb hw i_Ref hown hK hP 0 rfl rfl 2 (by decide) (hw _ m_901) (fun _ h9 => h9) rfl d_Ref_action_168 ?_
    refine lv_iload_n hx hb d_Ref_action_171 rfl (lv_at hl 2 rfl) ?_
    refine va_iald (D := (dC, dI)) hx hb hK hP 2 1 rfl rfl (i := nI t) (pk_in t 4 (by omega)) d_Ref_action_172 ?_
    refine tp_i (y := nI (zs t)) (by rw [show (nI t : Int32).toNatClampNeg = t from pk_cl t]) ?_
    refine lv_iadd hx hb d_Ref_action_173 ?_
    refine tp_i (y := nI (7 * t + (zs t))) (by exact nI_add (7 * t) (zs t)) ?_
    refine lv_istore (lv' := [(7, .int (nI (7 * t + (zs t)))), (6, .int 1), (0, .ref ra), (1, .int (nI t)), (2, .int (nI k)), (3, .int (nI x)), (4, .int (nI rn)), (5, .int v)]) hx hb d_Ref_action_174 hl (by decide) rfl ?_
    clear hl ls
    intro ls hl
    refine lv_aload_n hx hb d_Ref_action_176 rfl (lv_at hl 2 rfl) ?_
    refine va_get (D := (dC, dI)) (ci := 8) (v := .ref (rA 3)) (C := R_Ref) (T := F_Ref) (N := 48) hx hb hw i_Ref hown hK hP 0 rfl rfl 3 (by decide) (hw _ m_902) (fun _ h9 => h9) rfl d_Ref_action_177 ?_
    refine lv_iload hx hb d_Ref_action_180 (lv_at hl 0 rfl) ?_
    refine lv_iload_n hx hb d_Ref_action_182 rfl (lv_at hl 4 rfl) ?_
    refine va_iast (D := (dC, dI)) hx hb hK hP (dd_D hD rfl) hS 3 2 rfl rfl (i := nI (7 * t + (zs t))) (x := nI k) (pk_in (7 * t + (zs t)) 28 (by omega)) d_Ref_action_183 ?_
    clear hP hS
    intro H locs hP _ hS
    rw [show (nI (7 * t + (zs t)) : Int32).toNatClampNeg = 7 * t + (zs t) from pk_cl (7 * t + (zs t))] at hP
    rw [show upd (fun i => nI (kd i)) (7 * t + (zs t)) (nI k) = fun i => nI (updN kd (7 * t + (zs t)) k i) from upd_nI] at hP
    replace hP : va_P (dC, dI) classes [oc ra 8 [.int (nI T), .int (nI Ac), .ref (rA 2), .ref (rA 3), .ref (rA 4), .ref (rA 5), .ref (rA 6), .ref (rA 7), .ref (rA 8), .ref (rA 9), .ref (rA 10), .ref (rA 11), .ref (rA 12), .ref (rA 13), .int ir, .ref (rA 15), .ref (rA 16), .ref (rA 17), .ref (rA 18), .int (nI md), .int (nI wd), .ref (rA 21), .ref (rA 22), .ref (rA 23), .int (nI mn), .ref (rA 25), .int (nI cb), .int mr, .ref (rA 28), .ref (rA 29), .ref (rA 30), .ref (rA 31), .ref (rA 32), .ref (rA 33), .ref (rA 34), .ref (rA 35), .int (nI ld), .int (nI gm), .ref (rA 38), .ref (rA 39), .ref (rA 40), .ref (rA 41), .ref (rA 42), .ref (rA 43), .ref (rA 44), .ref (rA 45), .int (nI my), .ref (rA 47)], ia (rA 7) (rK9 7) 8 ff, ia (rA 2) (rK9 2) 4 (fun i => nI (zs i)), ia (rA 3) (rK9 3) 28 (fun i => nI ((updN kd (7 * t + (zs t)) k) i)), ia (rA 4) (rK9 4) 28 (fun i => nI (vx i)), ia (rA 5) (rK9 5) 28 (fun i => nI (rr i)), ia (rA 6) (rK9 6) 28 vv] H := hP
    refine tp_pc (pc' := 184) (by rfl) ?_
    refine lv_aload_n hx hb d_Ref_action_184 rfl (lv_at hl 2 rfl) ?_
    refine va_get (D := (dC, dI)) (ci := 8) (v := .ref (rA 4)) (C := R_Ref) (T := F_Ref) (N := 48) hx hb hw i_Ref hown hK hP 0 rfl rfl 4 (by decide) (hw _ m_903) (fun _ h9 => h9) rfl d_Ref_action_185 ?_
    refine lv_iload hx hb d_Ref_action_188 (lv_at hl 0 rfl) ?_
    refine lv_iload_n hx hb d_Ref_action_190 rfl (lv_at hl 5 rfl) ?_
    refine va_iast (D := (dC, dI)) hx hb hK hP (dd_D hD rfl) hS 4 3 rfl rfl (i := nI (7 * t + (zs t))) (x := nI x) (pk_in (7 * t + (zs t)) 28 (by omega)) d_Ref_action_191 ?_
    clear hP hS locs H
    intro H locs hP _ hS
    rw [show (nI (7 * t + (zs t)) : Int32).toNatClampNeg = 7 * t + (zs t) from pk_cl (7 * t + (zs t))] at hP
    rw [show upd (fun i => nI (vx i)) (7 * t + (zs t)) (nI x) = fun i => nI (updN vx (7 * t + (zs t)) x i) from upd_nI] at hP
    replace hP : va_P (dC, dI) classes [oc ra 8 [.int (nI T), .int (nI Ac), .ref (rA 2), .ref (rA 3), .ref (rA 4), .ref (rA 5), .ref (rA 6), .ref (rA 7), .ref (rA 8), .ref (rA 9), .ref (rA 10), .ref (rA 11), .ref (rA 12), .ref (rA 13), .int ir, .ref (rA 15), .ref (rA 16), .ref (rA 17), .ref (rA 18), .int (nI md), .int (nI wd), .ref (rA 21), .ref (rA 22), .ref (rA 23), .int (nI mn), .ref (rA 25), .int (nI cb), .int mr, .ref (rA 28), .ref (rA 29), .ref (rA 30), .ref (rA 31), .ref (rA 32), .ref (rA 33), .ref (rA 34), .ref (rA 35), .int (nI ld), .int (nI gm), .ref (rA 38), .ref (rA 39), .ref (rA 40), .ref (rA 41), .ref (rA 42), .ref (rA 43), .ref (rA 44), .ref (rA 45), .int (nI my), .ref (rA 47)], ia (rA 7) (rK9 7) 8 ff, ia (rA 2) (rK9 2) 4 (fun i => nI (zs i)), ia (rA 3) (rK9 3) 28 (fun i => nI ((updN kd (7 * t + (zs t)) k) i)), ia (rA 4) (rK9 4) 28 (fun i => nI ((updN vx (7 * t + (zs t)) x) i)), ia (rA 5) (rK9 5) 28 (fun i => nI (rr i)), ia (rA 6) (rK9 6) 28 vv] H := hP
    refine tp_pc (pc' := 192) (by rfl) ?_
    refine lv_aload_n hx hb d_Ref_action_192 rfl (lv_at hl 2 rfl) ?_
    refine va_get (D := (dC, dI)) (ci := 8) (v := .ref (rA 5)) (C := R_Ref) (T := F_Ref) (N := 48) hx hb hw i_Ref hown hK hP 0 rfl rfl 5 (by decide) (hw _ m_904) (fun _ h9 => h9) rfl d_Ref_action_193 ?_
    refine lv_iload hx hb d_Ref_action_196 (lv_at hl 0 rfl) ?_
    refine lv_iload hx hb d_Ref_action_198 (lv_at hl 6 rfl) ?_
    refine va_iast (D := (dC, dI)) hx hb hK hP (dd_D hD rfl) hS 5 4 rfl rfl (i := nI (7 * t + (zs t))) (x := nI rn) (pk_in (7 * t + (zs t)) 28 (by omega)) d_Ref_action_200 ?_
    clear hP hS locs H
    intro H locs hP _ hS
    rw [show (nI (7 * t + (zs t)) : Int32).toNatClampNeg = 7 * t + (zs t) from pk_cl (7 * t + (zs t))] at hP
    rw [show upd (fun i => nI (rr i)) (7 * t + (zs t)) (nI rn) = fun i => nI (updN rr (7 * t + (zs t)) rn i) from upd_nI] at hP
    replace hP : va_P (dC, dI) classes [oc ra 8 [.int (nI T), .int (nI Ac), .ref (rA 2), .ref (rA 3), .ref (rA 4), .ref (rA 5), .ref (rA 6), .ref (rA 7), .ref (rA 8), .ref (rA 9), .ref (rA 10), .ref (rA 11), .ref (rA 12), .ref (rA 13), .int ir, .ref (rA 15), .ref (rA 16), .ref (rA 17), .ref (rA 18), .int (nI md), .int (nI wd), .ref (rA 21), .ref (rA 22), .ref (rA 23), .int (nI mn), .ref (rA 25), .int (nI cb), .int mr, .ref (rA 28), .ref (rA 29), .ref (rA 30), .ref (rA 31), .ref (rA 32), .ref (rA 33), .ref (rA 34), .ref (rA 35), .int (nI ld), .int (nI gm), .ref (rA 38), .ref (rA 39), .ref (rA 40), .ref (rA 41), .ref (rA 42), .ref (rA 43), .ref (rA 44), .ref (rA 45), .int (nI my), .ref (rA 47)], ia (rA 7) (rK9 7) 8 ff, ia (rA 2) (rK9 2) 4 (fun i => nI (zs i)), ia (rA 3) (rK9 3) 28 (fun i => nI ((updN kd (7 * t + (zs t)) k) i)), ia (rA 4) (rK9 4) 28 (fun i => nI ((updN vx (7 * t + (zs t)) x) i)), ia (rA 5) (rK9 5) 28 (fun i => nI ((updN rr (7 * t + (zs t)) rn) i)), ia (rA 6) (rK9 6) 28 vv] H := hP
    refine tp_pc (pc' := 201) (by rfl) ?_
    refine lv_aload_n hx hb d_Ref_action_201 rfl (lv_at hl 2 rfl) ?_
    refine va_get (D := (dC, dI)) (ci := 8) (v := .ref (rA 6)) (C := R_Ref) (T := F_Ref) (N := 48) hx hb hw i_Ref hown hK hP 0 rfl rfl 6 (by decide) (hw _ m_905) (fun _ h9 => h9) rfl d_Ref_action_202 ?_
    refine lv_iload hx hb d_Ref_action_205 (lv_at hl 0 rfl) ?_
    refine lv_iload hx hb d_Ref_action_207 (lv_at hl 7 rfl) ?_
    refine va_iast (D := (dC, dI)) hx hb hK hP (dd_D hD rfl) hS 6 5 rfl rfl (i := nI (7 * t + (zs t))) (x := v) (pk_in (7 * t + (zs t)) 28 (by omega)) d_Ref_action_209 ?_
    clear hP hS locs H
    intro H locs hP _ hS
    rw [show (nI (7 * t + (zs t)) : Int32).toNatClampNeg = 7 * t + (zs t) from pk_cl (7 * t + (zs t))] at hP
    replace hP : va_P (dC, dI) classes [oc ra 8 [.int (nI T), .int (nI Ac), .ref (rA 2), .ref (rA 3), .ref (rA 4), .ref (rA 5), .ref (rA 6), .ref (rA 7), .ref (rA 8), .ref (rA 9), .ref (rA 10), .ref (rA 11), .ref (rA 12), .ref (rA 13), .int ir, .ref (rA 15), .ref (rA 16), .ref (rA 17), .ref (rA 18), .int (nI md), .int (nI wd), .ref (rA 21), .ref (rA 22), .ref (rA 23), .int (nI mn), .ref (rA 25), .int (nI cb), .int mr, .ref (rA 28), .ref (rA 29), .ref (rA 30), .ref (rA 31), .ref (rA 32), .ref (rA 33), .ref (rA 34), .ref (rA 35), .int (nI ld), .int (nI gm), .ref (rA 38), .ref (rA 39), .ref (rA 40), .ref (rA 41), .ref (rA 42), .ref (rA 43), .ref (rA 44), .ref (rA 45), .int (nI my), .ref (rA 47)], ia (rA 7) (rK9 7) 8 ff, ia (rA 2) (rK9 2) 4 (fun i => nI (zs i)), ia (rA 3) (rK9 3) 28 (fun i => nI ((updN kd (7 * t + (zs t)) k) i)), ia (rA 4) (rK9 4) 28 (fun i => nI ((updN vx (7 * t + (zs t)) x) i)), ia (rA 5) (rK9 5) 28 (fun i => nI ((updN rr (7 * t + (zs t)) rn) i)), ia (rA 6) (rK9 6) 28 (upd vv (7 * t + (zs t)) v)] H := hP
    refine tp_pc (pc' := 210) (by rfl) ?_
    refine lv_aload_n hx hb d_Ref_action_210 rfl (lv_at hl 2 rfl) ?_
    refine va_get (D := (dC, dI)) (ci := 8) (v := .ref (rA 2)) (C := R_Ref) (T := F_Ref) (N := 48) hx hb hw i_Ref hown hK hP 0 rfl rfl 2 (by decide) (hw _ m_901) (fun _ h9 => h9) rfl d_Ref_action_211 ?_
    refine lv_iload_n hx hb d_Ref_action_214 rfl (lv_at hl 3 rfl) ?_
    refine lv_dup2_11 hx hb d_Ref_action_215 rfl rfl ?_
    refine va_iald (D := (dC, dI)) hx hb hK hP 2 1 rfl rfl (i := nI t) (pk_in t 4 (by omega)) d_Ref_action_216 ?_
    refine tp_i (y := nI (zs t)) (by rw [show (nI t : Int32).toNatClampNeg = t from pk_cl t]) ?_
    refine lv_iconst (v := 1) hx hb d_Ref_action_217 (by decide) ?_
    refine lv_iadd hx hb d_Ref_action_218 ?_
    refine tp_i (y := nI (zs t + 1)) (by exact nI_add (zs t) 1) ?_
    refine va_iast (D := (dC, dI)) hx hb hK hP (dd_D hD rfl) hS 2 1 rfl rfl (i := nI t) (x := nI (zs t + 1)) (pk_in t 4 (by omega)) d_Ref_action_219 ?_
    clear hP hS locs H
    intro H locs hP _ hS
    rw [show (nI t : Int32).toNatClampNeg = t from pk_cl t] at hP
    rw [show upd (fun i => nI (zs i)) t (nI (zs t + 1)) = fun i => nI (updN zs t (zs t + 1) i) from upd_nI] at hP
    replace hP : va_P (dC, dI) classes [oc ra 8 [.int (nI T), .int (nI Ac), .ref (rA 2), .ref (rA 3), .ref (rA 4), .ref (rA 5), .ref (rA 6), .ref (rA 7), .ref (rA 8), .ref (rA 9), .ref (rA 10), .ref (rA 11), .ref (rA 12), .ref (rA 13), .int ir, .ref (rA 15), .ref (rA 16), .ref (rA 17), .ref (rA 18), .int (nI md), .int (nI wd), .ref (rA 21), .ref (rA 22), .ref (rA 23), .int (nI mn), .ref (rA 25), .int (nI cb), .int mr, .ref (rA 28), .ref (rA 29), .ref (rA 30), .ref (rA 31), .ref (rA 32), .ref (rA 33), .ref (rA 34), .ref (rA 35), .int (nI ld), .int (nI gm), .ref (rA 38), .ref (rA 39), .ref (rA 40), .ref (rA 41), .ref (rA 42), .ref (rA 43), .ref (rA 44), .ref (rA 45), .int (nI my), .ref (rA 47)], ia (rA 7) (rK9 7) 8 ff, ia (rA 2) (rK9 2) 4 (fun i => nI ((updN zs t (zs t + 1)) i)), ia (rA 3) (rK9 3) 28 (fun i => nI ((updN kd (7 * t + (zs t)) k) i)), ia (rA 4) (rK9 4) 28 (fun i => nI ((updN vx (7 * t + (zs t)) x) i)), ia (rA 5) (rK9 5) 28 (fun i => nI ((updN rr (7 * t + (zs t)) rn) i)), ia (rA 6) (rK9 6) 28 (upd vv (7 * t + (zs t)) v)] H := hP
    refine tp_pc (pc' := 220) (by rfl) ?_
    refine lv_aload_n hx hb d_Ref_action_220 rfl (lv_at hl 2 rfl) ?_
    refine lv_dup hx hb d_Ref_action_221 rfl ?_
    refine va_get (D := (dC, dI)) (ci := 8) (v := .int (nI Ac)) (C := R_Ref) (T := F_Ref) (N := 48) hx hb hw i_Ref hown hK hP 0 rfl rfl 1 (by decide) (hw _ m_900) (fun _ h9 => h9) rfl d_Ref_action_222 ?_
    refine lv_iconst (v := 1) hx hb d_Ref_action_225 (by decide) ?_
    refine lv_iadd hx hb d_Ref_action_226 ?_
    refine tp_i (y := nI (Ac + 1)) (by exact nI_add Ac 1) ?_
    refine va_put (D := (dC, dI)) (ci := 8) (v := .int (nI (Ac + 1))) (ty := .int) (C := R_Ref) (T := F_Ref) (N := 48) hx hb hw i_Ref t_Ref t_Ref_ok n_Ref hown hK hP (dd_D hD rfl) hS 0 rfl rfl 1 (by decide) (hw _ m_900) (fun _ h9 => h9) rfl (by decide +kernel) rfl rfl (Nat.le_of_ble_eq_true rfl) d_Ref_action_227 ?_
    clear hP hS locs H
    intro H locs (hP : va_P (dC, dI) classes [oc ra 8 [.int (nI T), .int (nI (Ac + 1)), .ref (rA 2), .ref (rA 3), .ref (rA 4), .ref (rA 5), .ref (rA 6), .ref (rA 7), .ref (rA 8), .ref (rA 9), .ref (rA 10), .ref (rA 11), .ref (rA 12), .ref (rA 13), .int ir, .ref (rA 15), .ref (rA 16), .ref (rA 17), .ref (rA 18), .int (nI md), .int (nI wd), .ref (rA 21), .ref (rA 22), .ref (rA 23), .int (nI mn), .ref (rA 25), .int (nI cb), .int mr, .ref (rA 28), .ref (rA 29), .ref (rA 30), .ref (rA 31), .ref (rA 32), .ref (rA 33), .ref (rA 34), .ref (rA 35), .int (nI ld), .int (nI gm), .ref (rA 38), .ref (rA 39), .ref (rA 40), .ref (rA 41), .ref (rA 42), .ref (rA 43), .ref (rA 44), .ref (rA 45), .int (nI my), .ref (rA 47)], ia (rA 7) (rK9 7) 8 ff, ia (rA 2) (rK9 2) 4 (fun i => nI ((updN zs t (zs t + 1)) i)), ia (rA 3) (rK9 3) 28 (fun i => nI ((updN kd (7 * t + (zs t)) k) i)), ia (rA 4) (rK9 4) 28 (fun i => nI ((updN vx (7 * t + (zs t)) x) i)), ia (rA 5) (rK9 5) 28 (fun i => nI ((updN rr (7 * t + (zs t)) rn) i)), ia (rA 6) (rK9 6) 28 (upd vv (7 * t + (zs t)) v)] H) _ hS
    refine tp_pc (pc' := 230) (by rfl) ?_
    refine lv_aload_n hx hb d_Ref_action_230 rfl (lv_at hl 2 rfl) ?_
    obtain ⟨hPc, hDc, hFc⟩ := cut3 (wc := [oc ra 8 [.int (nI T), .int (nI (Ac + 1)), .ref (rA 2), .ref (rA 3), .ref (rA 4), .ref (rA 5), .ref (rA 6), .ref (rA 7), .ref (rA 8), .ref (rA 9), .ref (rA 10), .ref (rA 11), .ref (rA 12), .ref (rA 13), .int ir, .ref (rA 15), .ref (rA 16), .ref (rA 17), .ref (rA 18), .int (nI md), .int (nI wd), .ref (rA 21), .ref (rA 22), .ref (rA 23), .int (nI mn), .ref (rA 25), .int (nI cb), .int mr, .ref (rA 28), .ref (rA 29), .ref (rA 30), .ref (rA 31), .ref (rA 32), .ref (rA 33), .ref (rA 34), .ref (rA 35), .int (nI ld), .int (nI gm), .ref (rA 38), .ref (rA 39), .ref (rA 40), .ref (rA 41), .ref (rA 42), .ref (rA 43), .ref (rA 44), .ref (rA 45), .int (nI my), .ref (rA 47)], ia (rA 7) (rK9 7) 8 ff]) hP hD rfl hS hA [0, 1] (by decide +kernel) rfl
    have hKc := hK.sub (tys' := [((rK9 7), .boolean)]) [0] rfl
    refine va_callv (va_runV (As := []) (rest := []) ⟨hx, hb, hml, hown, hw⟩ (gen_Ref_anew l dC dI ra rA rK9 T (Ac + 1) md wd mn cb ld gm my ir mr ff H.size) (cw_V 0 hw g_Ref_anew rfl rfl rfl (hw _ m_109) (hw _ m_1050) (hw _ m_1052) (hw _ m_51) (by decide +kernel) ⟨Nat.le_of_ble_eq_true rfl, Nat.le_of_ble_eq_true rfl⟩) ⟨fun a U g mk q => by obtain ⟨q0, q1, qP, qK, qD, qN⟩ := q; exact ⟨q0, q1, qP, va_K.moved (u := U) (U := U.calling g mk a) (Vm.Alike.refl U.vm) qK, qD, nw_call qN⟩, va_recv hKc hPc (ci := 8) (q0 := 0) rfl rfl, fun U hU hW => ⟨rfl, by rw [hU], by rw [hU]; exact hPc, va_K.moved hW.alike hKc, hDc.weaken (fun _ _ _ _ => trivial), nw_warm hW hn⟩⟩ rfl rfl hl.1 rfl (lv_room (Nat.le_of_ble_eq_true rfl)) d_Ref_action_231 ⟨Nat.le_of_ble_eq_true rfl, Nat.le_of_ble_eq_true rfl⟩) hS (fun q _ h => hFc q h) hFc ?_
    intro u t9 H1 locs1 ht9 hvm hw1 hB hz1 hk1 hS1
    obtain ⟨hP1, hK1, hD1⟩ := hB
    rw [ht9] at hP1
    replace hK1 := va_K.moved hvm.symm hK1
    have hPD := join3 hP hD rfl [0, 1] [2, 3, 4, 5, 6] rfl (by rfl) (by decide +kernel) (by decide +kernel) hk1 hFc hP1 hD1
    replace hK : va_K (dC, dI) classes [((rK9 7), .boolean), ((rK9 2), .int), ((rK9 3), .int), ((rK9 4), .int), ((rK9 5), .int), ((rK9 6), .int)] s := hK.app hK1
    clear hP1 hK1 hD1 hk1 hz1 hFc hKc hDc hPc hvm ht9 hP hS t9 locs H
    have hP : va_P (dC, dI) classes [ia (rA 2) (rK9 2) 4 (fun i => nI ((updN zs t (zs t + 1)) i)), ia (rA 3) (rK9 3) 28 (fun i => nI ((updN kd (7 * t + (zs t)) k) i)), ia (rA 4) (rK9 4) 28 (fun i => nI ((updN vx (7 * t + (zs t)) x) i)), ia (rA 5) (rK9 5) 28 (fun i => nI ((updN rr (7 * t + (zs t)) rn) i)), ia (rA 6) (rK9 6) 28 (upd vv (7 * t + (zs t)) v), oc ra 8 [.int (nI T), .int (nI (Ac + 1)), .ref (rA 2), .ref (rA 3), .ref (rA 4), .ref (rA 5), .ref (rA 6), .ref (rA 7), .ref (rA 8), .ref (rA 9), .ref (rA 10), .ref (rA 11), .ref (rA 12), .ref (rA 13), .int 0, .ref (rA 15), .ref (rA 16), .ref (rA 17), .ref (rA 18), .int (nI md), .int (nI wd), .ref (rA 21), .ref (rA 22), .ref (rA 23), .int (nI mn), .ref (rA 25), .int (nI cb), .int mr, .ref (rA 28), .ref (rA 29), .ref (rA 30), .ref (rA 31), .ref (rA 32), .ref (rA 33), .ref (rA 34), .ref (rA 35), .int (nI ld), .int (nI gm), .ref (rA 38), .ref (rA 39), .ref (rA 40), .ref (rA 41), .ref (rA 42), .ref (rA 43), .ref (rA 44), .ref (rA 45), .int (nI my), .ref (rA 47)], ia (rA 7) (rK9 7) 8 (fun _ => 0)] H1 := hPD.1
    replace hD : dd A [(rA 2), (rA 3), (rA 4), (rA 5), (rA 6), ra, (rA 7)] := dd_of hPD.2 rfl
    clear hPD
    revert H1 locs1
    intro H locs hS hP
    clear hw1 u
    refine tp_pc (pc' := 234) (by rfl) ?_
    refine lv_aload_n hx hb d_Ref_action_234 rfl (lv_at hl 2 rfl) ?_
    refine va_get (D := (dC, dI)) (ci := 8) (v := .ref (rA 2)) (C := R_Ref) (T := F_Ref) (N := 48) hx hb hw i_Ref hown hK hP 5 rfl rfl 2 (by decide) (hw _ m_901) (fun _ h9 => h9) rfl d_Ref_action_235 ?_
    refine lv_iload_n hx hb d_Ref_action_238 rfl (lv_at hl 3 rfl) ?_
    refine va_iald (D := (dC, dI)) hx hb hK hP 0 1 rfl rfl (i := nI t) (pk_in t 4 (by omega)) d_Ref_action_239 ?_
    refine tp_i (y := nI ((updN zs t (zs t + 1)) t)) (by rw [show (nI t : Int32).toNatClampNeg = t from pk_cl t]) ?_
    refine tp_i (y := nI (zs t + 1)) (congrArg nI (if_pos rfl)) ?_
    replace hP : va_P (dC, dI) classes [ia (rA 2) (rK9 2) 4 (fun i => nI ((updN zs t (zs t + 1)) i)), ia (rA 3) (rK9 3) 28 (fun i => nI ((updN kd (7 * t + zs t) k) i)), ia (rA 4) (rK9 4) 28 (fun i => nI ((updN vx (7 * t + zs t) x) i)), ia (rA 5) (rK9 5) 28 (fun i => nI ((updN rr (7 * t + zs t) rn) i)), ia (rA 6) (rK9 6) 28 (upd vv (7 * t + zs t) v), oc ra 8 [.int (nI T), .int (nI (Ac + 1)), .ref (rA 2), .ref (rA 3), .ref (rA 4), .ref (rA 5), .ref (rA 6), .ref (rA 7), .ref (rA 8), .ref (rA 9), .ref (rA 10), .ref (rA 11), .ref (rA 12), .ref (rA 13), .int 0, .ref (rA 15), .ref (rA 16), .ref (rA 17), .ref (rA 18), .int (nI md), .int (nI wd), .ref (rA 21), .ref (rA 22), .ref (rA 23), .int (nI mn), .ref (rA 25), .int (nI cb), .int mr, .ref (rA 28), .ref (rA 29), .ref (rA 30), .ref (rA 31), .ref (rA 32), .ref (rA 33), .ref (rA 34), .ref (rA 35), .int (nI ld), .int (nI gm), .ref (rA 38), .ref (rA 39), .ref (rA 40), .ref (rA 41), .ref (rA 42), .ref (rA 43), .ref (rA 44), .ref (rA 45), .int (nI my), .ref (rA 47)], ia (rA 7) (rK9 7) 8 (fun _ => 0)] H := hP
    obtain ⟨hP9, hD9, -⟩ := cut3 (wc := [oc ra 8 [.int (nI T), .int (nI (Ac + 1)), .ref (rA 2), .ref (rA 3), .ref (rA 4), .ref (rA 5), .ref (rA 6), .ref (rA 7), .ref (rA 8), .ref (rA 9), .ref (rA 10), .ref (rA 11), .ref (rA 12), .ref (rA 13), .int 0, .ref (rA 15), .ref (rA 16), .ref (rA 17), .ref (rA 18), .int (nI md), .int (nI wd), .ref (rA 21), .ref (rA 22), .ref (rA 23), .int (nI mn), .ref (rA 25), .int (nI cb), .int mr, .ref (rA 28), .ref (rA 29), .ref (rA 30), .ref (rA 31), .ref (rA 32), .ref (rA 33), .ref (rA 34), .ref (rA 35), .int (nI ld), .int (nI gm), .ref (rA 38), .ref (rA 39), .ref (rA 40), .ref (rA 41), .ref (rA 42), .ref (rA 43), .ref (rA 44), .ref (rA 45), .int (nI my), .ref (rA 47)], ia (rA 7) (rK9 7) 8 (fun _ => 0), ia (rA 2) (rK9 2) 4 (fun i => nI ((updN zs t (zs t + 1)) i)), ia (rA 3) (rK9 3) 28 (fun i => nI ((updN kd (7 * t + zs t) k) i)), ia (rA 4) (rK9 4) 28 (fun i => nI ((updN vx (7 * t + zs t) x) i)), ia (rA 5) (rK9 5) 28 (fun i => nI ((updN rr (7 * t + zs t) rn) i)), ia (rA 6) (rK9 6) 28 (upd vv (7 * t + zs t) v)]) hP hD rfl hS hA [5, 6, 0, 1, 2, 3, 4] (by decide +kernel) rfl
    have hK9 := hK.sub (tys' := []) [] rfl
    refine W.widen (k := 0) (n := 0) (by exact Nat.le_of_ble_eq_true rfl) (by exact Nat.le_of_ble_eq_true rfl) ?_
    exact W.iret (v := (nI (zs t + 1))) hx hb hr (fun t9 ht9 hW => ⟨⟨nI (zs t + 1), (), rfl, rfl, by rw [ht9]; exact hP9, va_K.moved hW.alike hK9, hD9⟩, hS.F ht9⟩) hS.2.2 d_Ref_action_240
  · skip
    replace hl : lv_has ls 8 [(0, .ref ra), (1, .int (nI t)), (2, .int 4), (3, .int (nI x)), (4, .int (nI rn)), (5, .int v)] := by rw [hkk] at hl; exact hl
    have ho := actP_4.mp (by rw [hkk] at hok; exact hok)
    refine tp_pc (pc' := 12) (by rfl) ?_
    refine lv_iload_n hx hb d_Ref_action_12 rfl (lv_at hl 2 rfl) ?_
    refine lv_if_lt (tgt := 30) hx hb d_Ref_action_13 (by decide) (fun c_47 => absurd c_47 (by decide)) (fun c_47 => ?_)
    refine tp_pc (pc' := 16) (by rfl) ?_
    refine lv_iload_n hx hb d_Ref_action_16 rfl (lv_at hl 2 rfl) ?_
    refine lv_iconst (v := 5) hx hb d_Ref_action_17 (by decide) ?_
    refine lv_icmp_gt (tgt := 30) hx hb d_Ref_action_18 (by decide) (fun c_48 => absurd c_48 (by decide)) (fun c_48 => ?_)
    refine tp_pc (pc' := 21) (by rfl) ?_
    refine lv_aload_n hx hb d_Ref_action_21 rfl (lv_at hl 0 rfl) ?_
    refine va_get (D := (dC, dI)) (ci := 8) (v := .int (nI Ac)) (C := R_Ref) (T := F_Ref) (N := 48) hx hb hw i_Ref hown hK hP 0 rfl rfl 1 (by decide) (hw _ m_900) (fun _ h9 => h9) rfl d_Ref_action_22 ?_
    refine lv_bipush (v := 7) hx hb d_Ref_action_25 (by decide) ?_
    refine lv_icmp_ne (tgt := 32) hx hb d_Ref_action_27 (by decide) (fun c9 => ?_) (fun c9 => absurd ((nI_eq (a := Ac) (b := 7) (by omega) (by omega)).mp c9) (by omega))
    refine tp_pc (pc' := 32) (by rfl) ?_
    refine lv_iload hx hb d_Ref_action_32 (lv_at hl 5 rfl) ?_
    refine lv_bipush (v := (-9)) hx hb d_Ref_action_34 (by decide) ?_
    refine lv_icmp_lt (tgt := 61) hx hb d_Ref_action_36 (by decide) (fun c9 => absurd c9 (by rw [ho.2.2]; decide)) (fun c9 => ?_)
    refine tp_pc (pc' := 39) (by rfl) ?_
    refine lv_iload hx hb d_Ref_action_39 (lv_at hl 5 rfl) ?_
    refine lv_bipush (v := 9) hx hb d_Ref_action_41 (by decide) ?_
    refine lv_icmp_gt (tgt := 61) hx hb d_Ref_action_43 (by decide) (fun c9 => absurd c9 (by rw [ho.2.2]; decide)) (fun c9 => ?_)
    refine tp_pc (pc' := 46) (by rfl) ?_
    refine lv_iload hx hb d_Ref_action_46 (lv_at hl 4 rfl) ?_
    refine lv_if_lt (tgt := 61) hx hb d_Ref_action_48 (by decide) (fun c9 => absurd c9 (nI_pos (by omega))) (fun c9 => ?_)
    refine tp_pc (pc' := 51) (by rfl) ?_
    refine lv_iload hx hb d_Ref_action_51 (lv_at hl 4 rfl) ?_
    refine lv_iconst (v := 1) hx hb d_Ref_action_53 (by decide) ?_
    refine lv_icmp_gt (tgt := 61) hx hb d_Ref_action_54 (by decide) (fun c9 => absurd ((nI_ltI (a := 1) (b := rn) (by omega) (by omega)).mp c9) (by omega)) (fun c9 => ?_)
    refine tp_pc (pc' := 57) (by rfl) ?_
    refine lv_iconst (v := 1) hx hb d_Ref_action_57 (by decide) ?_
    refine lv_goto (tgt := 62) hx hb d_Ref_action_58 (by decide) ?_
    refine tp_pc (pc' := 62) (by rfl) ?_
    refine lv_istore (lv' := [(6, .int 1), (0, .ref ra), (1, .int (nI t)), (2, .int 4), (3, .int (nI x)), (4, .int (nI rn)), (5, .int v)]) hx hb d_Ref_action_62 hl (by decide) rfl ?_
    clear hl ls
    intro ls hl
    refine lv_iload hx hb d_Ref_action_64 (lv_at hl 0 rfl) ?_
    refine lv_if_eq (tgt := 112) hx hb d_Ref_action_66 (by decide) (fun c_49 => absurd c_49 (by decide)) (fun c_49 => ?_)
    refine tp_pc (pc' := 69) (by rfl) ?_
    refine lv_iload_n hx hb d_Ref_action_69 rfl (lv_at hl 3 rfl) ?_
    refine lv_iconst (v := 5) hx hb d_Ref_action_70 (by decide) ?_
    refine lv_icmp_ne (tgt := 87) hx hb d_Ref_action_71 (by decide) (fun c_50 => ?_) (fun c_50 => absurd c_50 (by decide))
    refine tp_pc (pc' := 87) (by rfl) ?_
    refine lv_iload_n hx hb d_Ref_action_87 rfl (lv_at hl 3 rfl) ?_
    refine lv_iconst (v := 4) hx hb d_Ref_action_88 (by decide) ?_
    refine lv_icmp_ne (tgt := 99) hx hb d_Ref_action_89 (by decide) (fun c_51 => absurd c_51 (by decide)) (fun c_51 => ?_)
    refine tp_pc (pc' := 92) (by rfl) ?_
    refine lv_iload_n hx hb d_Ref_action_92 rfl (lv_at hl 4 rfl) ?_
    refine lv_if_ne (tgt := 112) hx hb d_Ref_action_93 (by decide) (fun c9 => absurd ho.1 c9) (fun c9 => ?_)
    refine tp_pc (pc' := 96) (by rfl) ?_
    refine lv_goto (tgt := 108) hx hb d_Ref_action_96 (by decide) ?_
    refine tp_pc (pc' := 108) (by rfl) ?_
    refine lv_iconst (v := 1) hx hb d_Ref_action_108 (by decide) ?_
    refine lv_goto (tgt := 113) hx hb d_Ref_action_109 (by decide) ?_
    refine tp_pc (pc' := 113) (by rfl) ?_
    refine lv_istore (lv' := [(6, .int 1), (0, .ref ra), (1, .int (nI t)), (2, .int 4), (3, .int (nI x)), (4, .int (nI rn)), (5, .int v)]) hx hb d_Ref_action_113 hl (by decide) rfl ?_
    clear hl ls
    intro ls hl
    refine lv_iload hx hb d_Ref_action_115 (lv_at hl 0 rfl) ?_
    refine lv_if_eq (tgt := 153) hx hb d_Ref_action_117 (by decide) (fun c_52 => absurd c_52 (by decide)) (fun c_52 => ?_)
    refine tp_pc (pc' := 120) (by rfl) ?_
    refine lv_iload_n hx hb d_Ref_action_120 rfl (lv_at hl 3 rfl) ?_
    refine lv_iconst (v := 1) hx hb d_Ref_action_121 (by decide) ?_
    refine lv_icmp_eq (tgt := 130) hx hb d_Ref_action_122 (by decide) (fun c_53 => absurd c_53 (by decide)) (fun c_53 => ?_)
    refine tp_pc (pc' := 125) (by rfl) ?_
    refine lv_iload_n hx hb d_Ref_action_125 rfl (lv_at hl 3 rfl) ?_
    refine lv_iconst (v := 4) hx hb d_Ref_action_126 (by decide) ?_
    refine lv_icmp_ne (tgt := 135) hx hb d_Ref_action_127 (by decide) (fun c_54 => absurd c_54 (by decide)) (fun c_54 => ?_)
    refine tp_pc (pc' := 130) (by rfl) ?_
    refine lv_iload hx hb d_Ref_action_130 (lv_at hl 5 rfl) ?_
    refine lv_if_ne (tgt := 153) hx hb d_Ref_action_132 (by decide) (fun c9 => absurd ho.2.1 c9) (fun c9 => ?_)
    refine tp_pc (pc' := 135) (by rfl) ?_
    refine lv_iload_n hx hb d_Ref_action_135 rfl (lv_at hl 3 rfl) ?_
    refine lv_if_eq (tgt := 144) hx hb d_Ref_action_136 (by decide) (fun c_55 => absurd c_55 (by decide)) (fun c_55 => ?_)
    refine tp_pc (pc' := 139) (by rfl) ?_
    refine lv_iload_n hx hb d_Ref_action_139 rfl (lv_at hl 3 rfl) ?_
    refine lv_iconst (v := 4) hx hb d_Ref_action_140 (by decide) ?_
    refine lv_icmp_ne (tgt := 149) hx hb d_Ref_action_141 (by decide) (fun c_56 => absurd c_56 (by decide)) (fun c_56 => ?_)
    refine tp_pc (pc' := 144) (by rfl) ?_
    refine lv_iload hx hb d_Ref_action_144 (lv_at hl 6 rfl) ?_
    refine lv_if_ne (tgt := 153) hx hb d_Ref_action_146 (by decide) (fun c9 => absurd ho.2.2 c9) (fun c9 => ?_)
    refine tp_pc (pc' := 149) (by rfl) ?_
    refine lv_iconst (v := 1) hx hb d_Ref_action_149 (by decide) ?_
    refine lv_goto (tgt := 154) hx hb d_Ref_action_150 (by decide) ?_
    refine tp_pc (pc' := 154) (by rfl) ?_
    refine lv_istore (lv' := [(6, .int 1), (0, .ref ra), (1, .int (nI t)), (2, .int 4), (3, .int (nI x)), (4, .int (nI rn)), (5, .int v)]) hx hb d_Ref_action_154 hl (by decide) rfl ?_
    clear hl ls
    intro ls hl
    refine lv_iload hx hb d_Ref_action_156 (lv_at hl 0 rfl) ?_
    refine lv_if_ne (tgt := 163) hx hb d_Ref_action_158 (by decide) (fun c_57 => ?_) (fun c_57 => absurd c_57 (by decide))
    refine tp_pc (pc' := 163) (by rfl) ?_
    replace hl : lv_has ls 8 [(6, .int 1), (0, .ref ra), (1, .int (nI t)), (2, .int (nI k)), (3, .int (nI x)), (4, .int (nI rn)), (5, .int v)] := by rw [hkk]; exact hl
    refine lv_bipush (v := 7) hx hb d_Ref_action_163 (by decide) ?_
    refine lv_iload_n hx hb d_Ref_action_165 rfl (lv_at hl 2 rfl) ?_
    refine lv_imul hx hb d_Ref_action_166 ?_
    refine tp_i (y := nI (7 * t)) (by exact pk_mul 7 t) ?_
    refine lv_aload_n hx hb d_Ref_action_167 rfl (lv_at hl 1 rfl) ?_
    refine va_get (D := (dC, dI)) (ci := 8) (v := .ref (rA 2)) (C := R_Ref) (T := F_Ref) (N := 48) hx hb hw i_Ref hown hK hP 0 rfl rfl 2 (by decide) (hw _ m_901) (fun _ h9 => h9) rfl d_Ref_action_168 ?_
    refine lv_iload_n hx hb d_Ref_action_171 rfl (lv_at hl 2 rfl) ?_
    refine va_iald (D := (dC, dI)) hx hb hK hP 2 1 rfl rfl (i := nI t) (pk_in t 4 (by omega)) d_Ref_action_172 ?_
    refine tp_i (y := nI (zs t)) (by rw [show (nI t : Int32).toNatClampNeg = t from pk_cl t]) ?_
    refine lv_iadd hx hb d_Ref_action_173 ?_
    refine tp_i (y := nI (7 * t + (zs t))) (by exact nI_add (7 * t) (zs t)) ?_
    refine lv_istore (lv' := [(7, .int (nI (7 * t + (zs t)))), (6, .int 1), (0, .ref ra), (1, .int (nI t)), (2, .int (nI k)), (3, .int (nI x)), (4, .int (nI rn)), (5, .int v)]) hx hb d_Ref_action_174 hl (by decide) rfl ?_
    clear hl ls
    intro ls hl
    refine lv_aload_n hx hb d_Ref_action_176 rfl (lv_at hl 2 rfl) ?_
    refine va_get (D := (dC, dI)) (ci := 8) (v := .ref (rA 3)) (C := R_Ref) (T := F_Ref) (N := 48) hx hb hw i_Ref hown hK hP 0 rfl rfl 3 (by decide) (hw _ m_902) (fun _ h9 => h9) rfl d_Ref_action_177 ?_
    refine lv_iload hx hb d_Ref_action_180 (lv_at hl 0 rfl) ?_
    refine lv_iload_n hx hb d_Ref_action_182 rfl (lv_at hl 4 rfl) ?_
    refine va_iast (D := (dC, dI)) hx hb hK hP (dd_D hD rfl) hS 3 2 rfl rfl (i := nI (7 * t + (zs t))) (x := nI k) (pk_in (7 * t + (zs t)) 28 (by omega)) d_Ref_action_183 ?_
    clear hP hS
    intro H locs hP _ hS
    rw [show (nI (7 * t + (zs t)) : Int32).toNatClampNeg = 7 * t + (zs t) from pk_cl (7 * t + (zs t))] at hP
    rw [show upd (fun i => nI (kd i)) (7 * t + (zs t)) (nI k) = fun i => nI (updN kd (7 * t + (zs t)) k i) from upd_nI] at hP
    replace hP : va_P (dC, dI) classes [oc ra 8 [.int (nI T), .int (nI Ac), .ref (rA 2), .ref (rA 3), .ref (rA 4), .ref (rA 5), .ref (rA 6), .ref (rA 7), .ref (rA 8), .ref (rA 9), .ref (rA 10), .ref (rA 11), .ref (rA 12), .ref (rA 13), .int ir, .ref (rA 15), .ref (rA 16), .ref (rA 17), .ref (rA 18), .int (nI md), .int (nI wd), .ref (rA 21), .ref (rA 22), .ref (rA 23), .int (nI mn), .ref (rA 25), .int (nI cb), .int mr, .ref (rA 28), .ref (rA 29), .ref (rA 30), .ref (rA 31), .ref (rA 32), .ref (rA 33), .ref (rA 34), .ref (rA 35), .int (nI ld), .int (nI gm), .ref (rA 38), .ref (rA 39), .ref (rA 40), .ref (rA 41), .ref (rA 42), .ref (rA 43), .ref (rA 44), .ref (rA 45), .int (nI my), .ref (rA 47)], ia (rA 7) (rK9 7) 8 ff, ia (rA 2) (rK9 2) 4 (fun i => nI (zs i)), ia (rA 3) (rK9 3) 28 (fun i => nI ((updN kd (7 * t + (zs t)) k) i)), ia (rA 4) (rK9 4) 28 (fun i => nI (vx i)), ia (rA 5) (rK9 5) 28 (fun i => nI (rr i)), ia (rA 6) (rK9 6) 28 vv] H := hP
    refine tp_pc (pc' := 184) (by rfl) ?_
    refine lv_aload_n hx hb d_Ref_action_184 rfl (lv_at hl 2 rfl) ?_
    refine va_get (D := (dC, dI)) (ci := 8) (v := .ref (rA 4)) (C := R_Ref) (T := F_Ref) (N := 48) hx hb hw i_Ref hown hK hP 0 rfl rfl 4 (by decide) (hw _ m_903) (fun _ h9 => h9) rfl d_Ref_action_185 ?_
    refine lv_iload hx hb d_Ref_action_188 (lv_at hl 0 rfl) ?_
    refine lv_iload_n hx hb d_Ref_action_190 rfl (lv_at hl 5 rfl) ?_
    refine va_iast (D := (dC, dI)) hx hb hK hP (dd_D hD rfl) hS 4 3 rfl rfl (i := nI (7 * t + (zs t))) (x := nI x) (pk_in (7 * t + (zs t)) 28 (by omega)) d_Ref_action_191 ?_
    clear hP hS locs H
    intro H locs hP _ hS
    rw [show (nI (7 * t + (zs t)) : Int32).toNatClampNeg = 7 * t + (zs t) from pk_cl (7 * t + (zs t))] at hP
    rw [show upd (fun i => nI (vx i)) (7 * t + (zs t)) (nI x) = fun i => nI (updN vx (7 * t + (zs t)) x i) from upd_nI] at hP
    replace hP : va_P (dC, dI) classes [oc ra 8 [.int (nI T), .int (nI Ac), .ref (rA 2), .ref (rA 3), .ref (rA 4), .ref (rA 5), .ref (rA 6), .ref (rA 7), .ref (rA 8), .ref (rA 9), .ref (rA 10), .ref (rA 11), .ref (rA 12), .ref (rA 13), .int ir, .ref (rA 15), .ref (rA 16), .ref (rA 17), .ref (rA 18), .int (nI md), .int (nI wd), .ref (rA 21), .ref (rA 22), .ref (rA 23), .int (nI mn), .ref (rA 25), .int (nI cb), .int mr, .ref (rA 28), .ref (rA 29), .ref (rA 30), .ref (rA 31), .ref (rA 32), .ref (rA 33), .ref (rA 34), .ref (rA 35), .int (nI ld), .int (nI gm), .ref (rA 38), .ref (rA 39), .ref (rA 40), .ref (rA 41), .ref (rA 42), .ref (rA 43), .ref (rA 44), .ref (rA 45), .int (nI my), .ref (rA 47)], ia (rA 7) (rK9 7) 8 ff, ia (rA 2) (rK9 2) 4 (fun i => nI (zs i)), ia (rA 3) (rK9 3) 28 (fun i => nI ((updN kd (7 * t + (zs t)) k) i)), ia (rA 4) (rK9 4) 28 (fun i => nI ((updN vx (7 * t + (zs t)) x) i)), ia (rA 5) (rK9 5) 28 (fun i => nI (rr i)), ia (rA 6) (rK9 6) 28 vv] H := hP
    refine tp_pc (pc' := 192) (by rfl) ?_
    refine lv_aload_n hx hb d_Ref_action_192 rfl (lv_at hl 2 rfl) ?_
    refine va_get (D := (dC, dI)) (ci := 8) (v := .ref (rA 5)) (C := R_Ref) (T := F_Ref) (N := 48) hx hb hw i_Ref hown hK hP 0 rfl rfl 5 (by decide) (hw _ m_904) (fun _ h9 => h9) rfl d_Ref_action_193 ?_
    refine lv_iload hx hb d_Ref_action_196 (lv_at hl 0 rfl) ?_
    refine lv_iload hx hb d_Ref_action_198 (lv_at hl 6 rfl) ?_
    refine va_iast (D := (dC, dI)) hx hb hK hP (dd_D hD rfl) hS 5 4 rfl rfl (i := nI (7 * t + (zs t))) (x := nI rn) (pk_in (7 * t + (zs t)) 28 (by omega)) d_Ref_action_200 ?_
    clear hP hS locs H
    intro H locs hP _ hS
    rw [show (nI (7 * t + (zs t)) : Int32).toNatClampNeg = 7 * t + (zs t) from pk_cl (7 * t + (zs t))] at hP
    rw [show upd (fun i => nI (rr i)) (7 * t + (zs t)) (nI rn) = fun i => nI (updN rr (7 * t + (zs t)) rn i) from upd_nI] at hP
    replace hP : va_P (dC, dI) classes [oc ra 8 [.int (nI T), .int (nI Ac), .ref (rA 2), .ref (rA 3), .ref (rA 4), .ref (rA 5), .ref (rA 6), .ref (rA 7), .ref (rA 8), .ref (rA 9), .ref (rA 10), .ref (rA 11), .ref (rA 12), .ref (rA 13), .int ir, .ref (rA 15), .ref (rA 16), .ref (rA 17), .ref (rA 18), .int (nI md), .int (nI wd), .ref (rA 21), .ref (rA 22), .ref (rA 23), .int (nI mn), .ref (rA 25), .int (nI cb), .int mr, .ref (rA 28), .ref (rA 29), .ref (rA 30), .ref (rA 31), .ref (rA 32), .ref (rA 33), .ref (rA 34), .ref (rA 35), .int (nI ld), .int (nI gm), .ref (rA 38), .ref (rA 39), .ref (rA 40), .ref (rA 41), .ref (rA 42), .ref (rA 43), .ref (rA 44), .ref (rA 45), .int (nI my), .ref (rA 47)], ia (rA 7) (rK9 7) 8 ff, ia (rA 2) (rK9 2) 4 (fun i => nI (zs i)), ia (rA 3) (rK9 3) 28 (fun i => nI ((updN kd (7 * t + (zs t)) k) i)), ia (rA 4) (rK9 4) 28 (fun i => nI ((updN vx (7 * t + (zs t)) x) i)), ia (rA 5) (rK9 5) 28 (fun i => nI ((updN rr (7 * t + (zs t)) rn) i)), ia (rA 6) (rK9 6) 28 vv] H := hP
    refine tp_pc (pc' := 201) (by rfl) ?_
    refine lv_aload_n hx hb d_Ref_action_201 rfl (lv_at hl 2 rfl) ?_
    refine va_get (D := (dC, dI)) (ci := 8) (v := .ref (rA 6)) (C := R_Ref) (T := F_Ref) (N := 48) hx hb hw i_Ref hown hK hP 0 rfl rfl 6 (by decide) (hw _ m_905) (fun _ h9 => h9) rfl d_Ref_action_202 ?_
    refine lv_iload hx hb d_Ref_action_205 (lv_at hl 0 rfl) ?_
    refine lv_iload hx hb d_Ref_action_207 (lv_at hl 7 rfl) ?_
    refine va_iast (D := (dC, dI)) hx hb hK hP (dd_D hD rfl) hS 6 5 rfl rfl (i := nI (7 * t + (zs t))) (x := v) (pk_in (7 * t + (zs t)) 28 (by omega)) d_Ref_action_209 ?_
    clear hP hS locs H
    intro H locs hP _ hS
    rw [show (nI (7 * t + (zs t)) : Int32).toNatClampNeg = 7 * t + (zs t) from pk_cl (7 * t + (zs t))] at hP
    replace hP : va_P (dC, dI) classes [oc ra 8 [.int (nI T), .int (nI Ac), .ref (rA 2), .ref (rA 3), .ref (rA 4), .ref (rA 5), .ref (rA 6), .ref (rA 7), .ref (rA 8), .ref (rA 9), .ref (rA 10), .ref (rA 11), .ref (rA 12), .ref (rA 13), .int ir, .ref (rA 15), .ref (rA 16), .ref (rA 17), .ref (rA 18), .int (nI md), .int (nI wd), .ref (rA 21), .ref (rA 22), .ref (rA 23), .int (nI mn), .ref (rA 25), .int (nI cb), .int mr, .ref (rA 28), .ref (rA 29), .ref (rA 30), .ref (rA 31), .ref (rA 32), .ref (rA 33), .ref (rA 34), .ref (rA 35), .int (nI ld), .int (nI gm), .ref (rA 38), .ref (rA 39), .ref (rA 40), .ref (rA 41), .ref (rA 42), .ref (rA 43), .ref (rA 44), .ref (rA 45), .int (nI my), .ref (rA 47)], ia (rA 7) (rK9 7) 8 ff, ia (rA 2) (rK9 2) 4 (fun i => nI (zs i)), ia (rA 3) (rK9 3) 28 (fun i => nI ((updN kd (7 * t + (zs t)) k) i)), ia (rA 4) (rK9 4) 28 (fun i => nI ((updN vx (7 * t + (zs t)) x) i)), ia (rA 5) (rK9 5) 28 (fun i => nI ((updN rr (7 * t + (zs t)) rn) i)), ia (rA 6) (rK9 6) 28 (upd vv (7 * t + (zs t)) v)] H := hP
    refine tp_pc (pc' := 210) (by rfl) ?_
    refine lv_aload_n hx hb d_Ref_action_210 rfl (lv_at hl 2 rfl) ?_
    refine va_get (D := (dC, dI)) (ci := 8) (v := .ref (rA 2)) (C := R_Ref) (T := F_Ref) (N := 48) hx hb hw i_Ref hown hK hP 0 rfl rfl 2 (by decide) (hw _ m_901) (fun _ h9 => h9) rfl d_Ref_action_211 ?_
    refine lv_iload_n hx hb d_Ref_action_214 rfl (lv_at hl 3 rfl) ?_
    refine lv_dup2_11 hx hb d_Ref_action_215 rfl rfl ?_
    refine va_iald (D := (dC, dI)) hx hb hK hP 2 1 rfl rfl (i := nI t) (pk_in t 4 (by omega)) d_Ref_action_216 ?_
    refine tp_i (y := nI (zs t)) (by rw [show (nI t : Int32).toNatClampNeg = t from pk_cl t]) ?_
    refine lv_iconst (v := 1) hx hb d_Ref_action_217 (by decide) ?_
    refine lv_iadd hx hb d_Ref_action_218 ?_
    refine tp_i (y := nI (zs t + 1)) (by exact nI_add (zs t) 1) ?_
    refine va_iast (D := (dC, dI)) hx hb hK hP (dd_D hD rfl) hS 2 1 rfl rfl (i := nI t) (x := nI (zs t + 1)) (pk_in t 4 (by omega)) d_Ref_action_219 ?_
    clear hP hS locs H
    intro H locs hP _ hS
    rw [show (nI t : Int32).toNatClampNeg = t from pk_cl t] at hP
    rw [show upd (fun i => nI (zs i)) t (nI (zs t + 1)) = fun i => nI (updN zs t (zs t + 1) i) from upd_nI] at hP
    replace hP : va_P (dC, dI) classes [oc ra 8 [.int (nI T), .int (nI Ac), .ref (rA 2), .ref (rA 3), .ref (rA 4), .ref (rA 5), .ref (rA 6), .ref (rA 7), .ref (rA 8), .ref (rA 9), .ref (rA 10), .ref (rA 11), .ref (rA 12), .ref (rA 13), .int ir, .ref (rA 15), .ref (rA 16), .ref (rA 17), .ref (rA 18), .int (nI md), .int (nI wd), .ref (rA 21), .ref (rA 22), .ref (rA 23), .int (nI mn), .ref (rA 25), .int (nI cb), .int mr, .ref (rA 28), .ref (rA 29), .ref (rA 30), .ref (rA 31), .ref (rA 32), .ref (rA 33), .ref (rA 34), .ref (rA 35), .int (nI ld), .int (nI gm), .ref (rA 38), .ref (rA 39), .ref (rA 40), .ref (rA 41), .ref (rA 42), .ref (rA 43), .ref (rA 44), .ref (rA 45), .int (nI my), .ref (rA 47)], ia (rA 7) (rK9 7) 8 ff, ia (rA 2) (rK9 2) 4 (fun i => nI ((updN zs t (zs t + 1)) i)), ia (rA 3) (rK9 3) 28 (fun i => nI ((updN kd (7 * t + (zs t)) k) i)), ia (rA 4) (rK9 4) 28 (fun i => nI ((updN vx (7 * t + (zs t)) x) i)), ia (rA 5) (rK9 5) 28 (fun i => nI ((updN rr (7 * t + (zs t)) rn) i)), ia (rA 6) (rK9 6) 28 (upd vv (7 * t + (zs t)) v)] H := hP
    refine tp_pc (pc' := 220) (by rfl) ?_
    refine lv_aload_n hx hb d_Ref_action_220 rfl (lv_at hl 2 rfl) ?_
    refine lv_dup hx hb d_Ref_action_221 rfl ?_
    refine va_get (D := (dC, dI)) (ci := 8) (v := .int (nI Ac)) (C := R_Ref) (T := F_Ref) (N := 48) hx hb hw i_Ref hown hK hP 0 rfl rfl 1 (by decide) (hw _ m_900) (fun _ h9 => h9) rfl d_Ref_action_222 ?_
    refine lv_iconst (v := 1) hx hb d_Ref_action_225 (by decide) ?_
    refine lv_iadd hx hb d_Ref_action_226 ?_
    refine tp_i (y := nI (Ac + 1)) (by exact nI_add Ac 1) ?_
    refine va_put (D := (dC, dI)) (ci := 8) (v := .int (nI (Ac + 1))) (ty := .int) (C := R_Ref) (T := F_Ref) (N := 48) hx hb hw i_Ref t_Ref t_Ref_ok n_Ref hown hK hP (dd_D hD rfl) hS 0 rfl rfl 1 (by decide) (hw _ m_900) (fun _ h9 => h9) rfl (by decide +kernel) rfl rfl (Nat.le_of_ble_eq_true rfl) d_Ref_action_227 ?_
    clear hP hS locs H
    intro H locs (hP : va_P (dC, dI) classes [oc ra 8 [.int (nI T), .int (nI (Ac + 1)), .ref (rA 2), .ref (rA 3), .ref (rA 4), .ref (rA 5), .ref (rA 6), .ref (rA 7), .ref (rA 8), .ref (rA 9), .ref (rA 10), .ref (rA 11), .ref (rA 12), .ref (rA 13), .int ir, .ref (rA 15), .ref (rA 16), .ref (rA 17), .ref (rA 18), .int (nI md), .int (nI wd), .ref (rA 21), .ref (rA 22), .ref (rA 23), .int (nI mn), .ref (rA 25), .int (nI cb), .int mr, .ref (rA 28), .ref (rA 29), .ref (rA 30), .ref (rA 31), .ref (rA 32), .ref (rA 33), .ref (rA 34), .ref (rA 35), .int (nI ld), .int (nI gm), .ref (rA 38), .ref (rA 39), .ref (rA 40), .ref (rA 41), .ref (rA 42), .ref (rA 43), .ref (rA 44), .ref (rA 45), .int (nI my), .ref (rA 47)], ia (rA 7) (rK9 7) 8 ff, ia (rA 2) (rK9 2) 4 (fun i => nI ((updN zs t (zs t + 1)) i)), ia (rA 3) (rK9 3) 28 (fun i => nI ((updN kd (7 * t + (zs t)) k) i)), ia (rA 4) (rK9 4) 28 (fun i => nI ((updN vx (7 * t + (zs t)) x) i)), ia (rA 5) (rK9 5) 28 (fun i => nI ((updN rr (7 * t + (zs t)) rn) i)), ia (rA 6) (rK9 6) 28 (upd vv (7 * t + (zs t)) v)] H) _ hS
    refine tp_pc (pc' := 230) (by rfl) ?_
    refine lv_aload_n hx hb d_Ref_action_230 rfl (lv_at hl 2 rfl) ?_
    obtain ⟨hPc, hDc, hFc⟩ := cut3 (wc := [oc ra 8 [.int (nI T), .int (nI (Ac + 1)), .ref (rA 2), .ref (rA 3), .ref (rA 4), .ref (rA 5), .ref (rA 6), .ref (rA 7), .ref (rA 8), .ref (rA 9), .ref (rA 10), .ref (rA 11), .ref (rA 12), .ref (rA 13), .int ir, .ref (rA 15), .ref (rA 16), .ref (rA 17), .ref (rA 18), .int (nI md), .int (nI wd), .ref (rA 21), .ref (rA 22), .ref (rA 23), .int (nI mn), .ref (rA 25), .int (nI cb), .int mr, .ref (rA 28), .ref (rA 29), .ref (rA 30), .ref (rA 31), .ref (rA 32), .ref (rA 33), .ref (rA 34), .ref (rA 35), .int (nI ld), .int (nI gm), .ref (rA 38), .ref (rA 39), .ref (rA 40), .ref (rA 41), .ref (rA 42), .ref (rA 43), .ref (rA 44), .ref (rA 45), .int (nI my), .ref (rA 47)], ia (rA 7) (rK9 7) 8 ff]) hP hD rfl hS hA [0, 1] (by decide +kernel) rfl
    have hKc := hK.sub (tys' := [((rK9 7), .boolean)]) [0] rfl
    refine va_callv (va_runV (As := []) (rest := []) ⟨hx, hb, hml, hown, hw⟩ (gen_Ref_anew l dC dI ra rA rK9 T (Ac + 1) md wd mn cb ld gm my ir mr ff H.size) (cw_V 0 hw g_Ref_anew rfl rfl rfl (hw _ m_109) (hw _ m_1050) (hw _ m_1052) (hw _ m_51) (by decide +kernel) ⟨Nat.le_of_ble_eq_true rfl, Nat.le_of_ble_eq_true rfl⟩) ⟨fun a U g mk q => by obtain ⟨q0, q1, qP, qK, qD, qN⟩ := q; exact ⟨q0, q1, qP, va_K.moved (u := U) (U := U.calling g mk a) (Vm.Alike.refl U.vm) qK, qD, nw_call qN⟩, va_recv hKc hPc (ci := 8) (q0 := 0) rfl rfl, fun U hU hW => ⟨rfl, by rw [hU], by rw [hU]; exact hPc, va_K.moved hW.alike hKc, hDc.weaken (fun _ _ _ _ => trivial), nw_warm hW hn⟩⟩ rfl rfl hl.1 rfl (lv_room (Nat.le_of_ble_eq_true rfl)) d_Ref_action_231 ⟨Nat.le_of_ble_eq_true rfl, Nat.le_of_ble_eq_true rfl⟩) hS (fun q _ h => hFc q h) hFc ?_
    intro u t9 H1 locs1 ht9 hvm hw1 hB hz1 hk1 hS1
    obtain ⟨hP1, hK1, hD1⟩ := hB
    rw [ht9] at hP1
    replace hK1 := va_K.moved hvm.symm hK1
    have hPD := join3 hP hD rfl [0, 1] [2, 3, 4, 5, 6] rfl (by rfl) (by decide +kernel) (by decide +kernel) hk1 hFc hP1 hD1
    replace hK : va_K (dC, dI) classes [((rK9 7), .boolean), ((rK9 2), .int), ((rK9 3), .int), ((rK9 4), .int), ((rK9 5), .int), ((rK9 6), .int)] s := hK.app hK1
    clear hP1 hK1 hD1 hk1 hz1 hFc hKc hDc hPc hvm ht9 hP hS t9 locs H
    have hP : va_P (dC, dI) classes [ia (rA 2) (rK9 2) 4 (fun i => nI ((updN zs t (zs t + 1)) i)), ia (rA 3) (rK9 3) 28 (fun i => nI ((updN kd (7 * t + (zs t)) k) i)), ia (rA 4) (rK9 4) 28 (fun i => nI ((updN vx (7 * t + (zs t)) x) i)), ia (rA 5) (rK9 5) 28 (fun i => nI ((updN rr (7 * t + (zs t)) rn) i)), ia (rA 6) (rK9 6) 28 (upd vv (7 * t + (zs t)) v), oc ra 8 [.int (nI T), .int (nI (Ac + 1)), .ref (rA 2), .ref (rA 3), .ref (rA 4), .ref (rA 5), .ref (rA 6), .ref (rA 7), .ref (rA 8), .ref (rA 9), .ref (rA 10), .ref (rA 11), .ref (rA 12), .ref (rA 13), .int 0, .ref (rA 15), .ref (rA 16), .ref (rA 17), .ref (rA 18), .int (nI md), .int (nI wd), .ref (rA 21), .ref (rA 22), .ref (rA 23), .int (nI mn), .ref (rA 25), .int (nI cb), .int mr, .ref (rA 28), .ref (rA 29), .ref (rA 30), .ref (rA 31), .ref (rA 32), .ref (rA 33), .ref (rA 34), .ref (rA 35), .int (nI ld), .int (nI gm), .ref (rA 38), .ref (rA 39), .ref (rA 40), .ref (rA 41), .ref (rA 42), .ref (rA 43), .ref (rA 44), .ref (rA 45), .int (nI my), .ref (rA 47)], ia (rA 7) (rK9 7) 8 (fun _ => 0)] H1 := hPD.1
    replace hD : dd A [(rA 2), (rA 3), (rA 4), (rA 5), (rA 6), ra, (rA 7)] := dd_of hPD.2 rfl
    clear hPD
    revert H1 locs1
    intro H locs hS hP
    clear hw1 u
    refine tp_pc (pc' := 234) (by rfl) ?_
    refine lv_aload_n hx hb d_Ref_action_234 rfl (lv_at hl 2 rfl) ?_
    refine va_get (D := (dC, dI)) (ci := 8) (v := .ref (rA 2)) (C := R_Ref) (T := F_Ref) (N := 48) hx hb hw i_Ref hown hK hP 5 rfl rfl 2 (by decide) (hw _ m_901) (fun _ h9 => h9) rfl d_Ref_action_235 ?_
    refine lv_iload_n hx hb d_Ref_action_238 rfl (lv_at hl 3 rfl) ?_
    refine va_iald (D := (dC, dI)) hx hb hK hP 0 1 rfl rfl (i := nI t) (pk_in t 4 (by omega)) d_Ref_action_239 ?_
    refine tp_i (y := nI ((updN zs t (zs t + 1)) t)) (by rw [show (nI t : Int32).toNatClampNeg = t from pk_cl t]) ?_
    refine tp_i (y := nI (zs t + 1)) (congrArg nI (if_pos rfl)) ?_
    replace hP : va_P (dC, dI) classes [ia (rA 2) (rK9 2) 4 (fun i => nI ((updN zs t (zs t + 1)) i)), ia (rA 3) (rK9 3) 28 (fun i => nI ((updN kd (7 * t + zs t) k) i)), ia (rA 4) (rK9 4) 28 (fun i => nI ((updN vx (7 * t + zs t) x) i)), ia (rA 5) (rK9 5) 28 (fun i => nI ((updN rr (7 * t + zs t) rn) i)), ia (rA 6) (rK9 6) 28 (upd vv (7 * t + zs t) v), oc ra 8 [.int (nI T), .int (nI (Ac + 1)), .ref (rA 2), .ref (rA 3), .ref (rA 4), .ref (rA 5), .ref (rA 6), .ref (rA 7), .ref (rA 8), .ref (rA 9), .ref (rA 10), .ref (rA 11), .ref (rA 12), .ref (rA 13), .int 0, .ref (rA 15), .ref (rA 16), .ref (rA 17), .ref (rA 18), .int (nI md), .int (nI wd), .ref (rA 21), .ref (rA 22), .ref (rA 23), .int (nI mn), .ref (rA 25), .int (nI cb), .int mr, .ref (rA 28), .ref (rA 29), .ref (rA 30), .ref (rA 31), .ref (rA 32), .ref (rA 33), .ref (rA 34), .ref (rA 35), .int (nI ld), .int (nI gm), .ref (rA 38), .ref (rA 39), .ref (rA 40), .ref (rA 41), .ref (rA 42), .ref (rA 43), .ref (rA 44), .ref (rA 45), .int (nI my), .ref (rA 47)], ia (rA 7) (rK9 7) 8 (fun _ => 0)] H := hP
    obtain ⟨hP9, hD9, -⟩ := cut3 (wc := [oc ra 8 [.int (nI T), .int (nI (Ac + 1)), .ref (rA 2), .ref (rA 3), .ref (rA 4), .ref (rA 5), .ref (rA 6), .ref (rA 7), .ref (rA 8), .ref (rA 9), .ref (rA 10), .ref (rA 11), .ref (rA 12), .ref (rA 13), .int 0, .ref (rA 15), .ref (rA 16), .ref (rA 17), .ref (rA 18), .int (nI md), .int (nI wd), .ref (rA 21), .ref (rA 22), .ref (rA 23), .int (nI mn), .ref (rA 25), .int (nI cb), .int mr, .ref (rA 28), .ref (rA 29), .ref (rA 30), .ref (rA 31), .ref (rA 32), .ref (rA 33), .ref (rA 34), .ref (rA 35), .int (nI ld), .int (nI gm), .ref (rA 38), .ref (rA 39), .ref (rA 40), .ref (rA 41), .ref (rA 42), .ref (rA 43), .ref (rA 44), .ref (rA 45), .int (nI my), .ref (rA 47)], ia (rA 7) (rK9 7) 8 (fun _ => 0), ia (rA 2) (rK9 2) 4 (fun i => nI ((updN zs t (zs t + 1)) i)), ia (rA 3) (rK9 3) 28 (fun i => nI ((updN kd (7 * t + zs t) k) i)), ia (rA 4) (rK9 4) 28 (fun i => nI ((updN vx (7 * t + zs t) x) i)), ia (rA 5) (rK9 5) 28 (fun i => nI ((updN rr (7 * t + zs t) rn) i)), ia (rA 6) (rK9 6) 28 (upd vv (7 * t + zs t) v)]) hP hD rfl hS hA [5, 6, 0, 1, 2, 3, 4] (by decide +kernel) rfl
    have hK9 := hK.sub (tys' := []) [] rfl
    refine W.widen (k := 0) (n := 0) (by exact Nat.le_of_ble_eq_true rfl) (by exact Nat.le_of_ble_eq_true rfl) ?_
    exact W.iret (v := (nI (zs t + 1))) hx hb hr (fun t9 ht9 hW => ⟨⟨nI (zs t + 1), (), rfl, rfl, by rw [ht9]; exact hP9, va_K.moved hW.alike hK9, hD9⟩, hS.F ht9⟩) hS.2.2 d_Ref_action_240
  · skip
    replace hl : lv_has ls 8 [(0, .ref ra), (1, .int (nI t)), (2, .int 5), (3, .int (nI x)), (4, .int (nI rn)), (5, .int v)] := by rw [hkk] at hl; exact hl
    have ho := actP_5.mp (by rw [hkk] at hok; exact hok)
    refine tp_pc (pc' := 12) (by rfl) ?_
    refine lv_iload_n hx hb d_Ref_action_12 rfl (lv_at hl 2 rfl) ?_
    refine lv_if_lt (tgt := 30) hx hb d_Ref_action_13 (by decide) (fun c_59 => absurd c_59 (by decide)) (fun c_59 => ?_)
    refine tp_pc (pc' := 16) (by rfl) ?_
    refine lv_iload_n hx hb d_Ref_action_16 rfl (lv_at hl 2 rfl) ?_
    refine lv_iconst (v := 5) hx hb d_Ref_action_17 (by decide) ?_
    refine lv_icmp_gt (tgt := 30) hx hb d_Ref_action_18 (by decide) (fun c_60 => absurd c_60 (by decide)) (fun c_60 => ?_)
    refine tp_pc (pc' := 21) (by rfl) ?_
    refine lv_aload_n hx hb d_Ref_action_21 rfl (lv_at hl 0 rfl) ?_
    refine va_get (D := (dC, dI)) (ci := 8) (v := .int (nI Ac)) (C := R_Ref) (T := F_Ref) (N := 48) hx hb hw i_Ref hown hK hP 0 rfl rfl 1 (by decide) (hw _ m_900) (fun _ h9 => h9) rfl d_Ref_action_22 ?_
    refine lv_bipush (v := 7) hx hb d_Ref_action_25 (by decide) ?_
    refine lv_icmp_ne (tgt := 32) hx hb d_Ref_action_27 (by decide) (fun c9 => ?_) (fun c9 => absurd ((nI_eq (a := Ac) (b := 7) (by omega) (by omega)).mp c9) (by omega))
    refine tp_pc (pc' := 32) (by rfl) ?_
    refine lv_iload hx hb d_Ref_action_32 (lv_at hl 5 rfl) ?_
    refine lv_bipush (v := (-9)) hx hb d_Ref_action_34 (by decide) ?_
    refine lv_icmp_lt (tgt := 61) hx hb d_Ref_action_36 (by decide) (fun c9 => absurd c9 ho.2.2.1) (fun c9 => ?_)
    refine tp_pc (pc' := 39) (by rfl) ?_
    refine lv_iload hx hb d_Ref_action_39 (lv_at hl 5 rfl) ?_
    refine lv_bipush (v := 9) hx hb d_Ref_action_41 (by decide) ?_
    refine lv_icmp_gt (tgt := 61) hx hb d_Ref_action_43 (by decide) (fun c9 => absurd c9 ho.2.2.2) (fun c9 => ?_)
    refine tp_pc (pc' := 46) (by rfl) ?_
    refine lv_iload hx hb d_Ref_action_46 (lv_at hl 4 rfl) ?_
    refine lv_if_lt (tgt := 61) hx hb d_Ref_action_48 (by decide) (fun c9 => absurd c9 (nI_pos (by omega))) (fun c9 => ?_)
    refine tp_pc (pc' := 51) (by rfl) ?_
    refine lv_iload hx hb d_Ref_action_51 (lv_at hl 4 rfl) ?_
    refine lv_iconst (v := 1) hx hb d_Ref_action_53 (by decide) ?_
    refine lv_icmp_gt (tgt := 61) hx hb d_Ref_action_54 (by decide) (fun c9 => absurd ((nI_ltI (a := 1) (b := rn) (by omega) (by omega)).mp c9) (by omega)) (fun c9 => ?_)
    refine tp_pc (pc' := 57) (by rfl) ?_
    refine lv_iconst (v := 1) hx hb d_Ref_action_57 (by decide) ?_
    refine lv_goto (tgt := 62) hx hb d_Ref_action_58 (by decide) ?_
    refine tp_pc (pc' := 62) (by rfl) ?_
    refine lv_istore (lv' := [(6, .int 1), (0, .ref ra), (1, .int (nI t)), (2, .int 5), (3, .int (nI x)), (4, .int (nI rn)), (5, .int v)]) hx hb d_Ref_action_62 hl (by decide) rfl ?_
    clear hl ls
    intro ls hl
    refine lv_iload hx hb d_Ref_action_64 (lv_at hl 0 rfl) ?_
    refine lv_if_eq (tgt := 112) hx hb d_Ref_action_66 (by decide) (fun c_61 => absurd c_61 (by decide)) (fun c_61 => ?_)
    refine tp_pc (pc' := 69) (by rfl) ?_
    refine lv_iload_n hx hb d_Ref_action_69 rfl (lv_at hl 3 rfl) ?_
    refine lv_iconst (v := 5) hx hb d_Ref_action_70 (by decide) ?_
    refine lv_icmp_ne (tgt := 87) hx hb d_Ref_action_71 (by decide) (fun c_62 => absurd c_62 (by decide)) (fun c_62 => ?_)
    refine tp_pc (pc' := 74) (by rfl) ?_
    refine lv_iload_n hx hb d_Ref_action_74 rfl (lv_at hl 4 rfl) ?_
    refine lv_iconst (v := 1) hx hb d_Ref_action_75 (by decide) ?_
    refine lv_icmp_lt (tgt := 112) hx hb d_Ref_action_76 (by decide) (fun c9 => absurd c9 ho.1.1) (fun c9 => ?_)
    refine tp_pc (pc' := 79) (by rfl) ?_
    refine lv_iload_n hx hb d_Ref_action_79 rfl (lv_at hl 4 rfl) ?_
    refine lv_iconst (v := 3) hx hb d_Ref_action_80 (by decide) ?_
    refine lv_icmp_gt (tgt := 112) hx hb d_Ref_action_81 (by decide) (fun c9 => absurd c9 ho.1.2) (fun c9 => ?_)
    refine tp_pc (pc' := 84) (by rfl) ?_
    refine lv_goto (tgt := 108) hx hb d_Ref_action_84 (by decide) ?_
    refine tp_pc (pc' := 108) (by rfl) ?_
    refine lv_iconst (v := 1) hx hb d_Ref_action_108 (by decide) ?_
    refine lv_goto (tgt := 113) hx hb d_Ref_action_109 (by decide) ?_
    refine tp_pc (pc' := 113) (by rfl) ?_
    refine lv_istore (lv' := [(6, .int 1), (0, .ref ra), (1, .int (nI t)), (2, .int 5), (3, .int (nI x)), (4, .int (nI rn)), (5, .int v)]) hx hb d_Ref_action_113 hl (by decide) rfl ?_
    clear hl ls
    intro ls hl
    refine lv_iload hx hb d_Ref_action_115 (lv_at hl 0 rfl) ?_
    refine lv_if_eq (tgt := 153) hx hb d_Ref_action_117 (by decide) (fun c_63 => absurd c_63 (by decide)) (fun c_63 => ?_)
    refine tp_pc (pc' := 120) (by rfl) ?_
    refine lv_iload_n hx hb d_Ref_action_120 rfl (lv_at hl 3 rfl) ?_
    refine lv_iconst (v := 1) hx hb d_Ref_action_121 (by decide) ?_
    refine lv_icmp_eq (tgt := 130) hx hb d_Ref_action_122 (by decide) (fun c_64 => absurd c_64 (by decide)) (fun c_64 => ?_)
    refine tp_pc (pc' := 125) (by rfl) ?_
    refine lv_iload_n hx hb d_Ref_action_125 rfl (lv_at hl 3 rfl) ?_
    refine lv_iconst (v := 4) hx hb d_Ref_action_126 (by decide) ?_
    refine lv_icmp_ne (tgt := 135) hx hb d_Ref_action_127 (by decide) (fun c_65 => ?_) (fun c_65 => absurd c_65 (by decide))
    refine tp_pc (pc' := 135) (by rfl) ?_
    refine lv_iload_n hx hb d_Ref_action_135 rfl (lv_at hl 3 rfl) ?_
    refine lv_if_eq (tgt := 144) hx hb d_Ref_action_136 (by decide) (fun c_66 => absurd c_66 (by decide)) (fun c_66 => ?_)
    refine tp_pc (pc' := 139) (by rfl) ?_
    refine lv_iload_n hx hb d_Ref_action_139 rfl (lv_at hl 3 rfl) ?_
    refine lv_iconst (v := 4) hx hb d_Ref_action_140 (by decide) ?_
    refine lv_icmp_ne (tgt := 149) hx hb d_Ref_action_141 (by decide) (fun c_67 => ?_) (fun c_67 => absurd c_67 (by decide))
    refine tp_pc (pc' := 149) (by rfl) ?_
    refine lv_iconst (v := 1) hx hb d_Ref_action_149 (by decide) ?_
    refine lv_goto (tgt := 154) hx hb d_Ref_action_150 (by decide) ?_
    refine tp_pc (pc' := 154) (by rfl) ?_
    refine lv_istore (lv' := [(6, .int 1), (0, .ref ra), (1, .int (nI t)), (2, .int 5), (3, .int (nI x)), (4, .int (nI rn)), (5, .int v)]) hx hb d_Ref_action_154 hl (by decide) rfl ?_
    clear hl ls
    intro ls hl
    refine lv_iload hx hb d_Ref_action_156 (lv_at hl 0 rfl) ?_
    refine lv_if_ne (tgt := 163) hx hb d_Ref_action_158 (by decide) (fun c_68 => ?_) (fun c_68 => absurd c_68 (by decide))
    refine tp_pc (pc' := 163) (by rfl) ?_
    replace hl : lv_has ls 8 [(6, .int 1), (0, .ref ra), (1, .int (nI t)), (2, .int (nI k)), (3, .int (nI x)), (4, .int (nI rn)), (5, .int v)] := by rw [hkk]; exact hl
    refine lv_bipush (v := 7) hx hb d_Ref_action_163 (by decide) ?_
    refine lv_iload_n hx hb d_Ref_action_165 rfl (lv_at hl 2 rfl) ?_
    refine lv_imul hx hb d_Ref_action_166 ?_
    refine tp_i (y := nI (7 * t)) (by exact pk_mul 7 t) ?_
    refine lv_aload_n hx hb d_Ref_action_167 rfl (lv_at hl 1 rfl) ?_
    refine va_get (D := (dC, dI)) (ci := 8) (v := .ref (rA 2)) (C := R_Ref) (T := F_Ref) (N := 48) hx hb hw i_Ref hown hK hP 0 rfl rfl 2 (by decide) (hw _ m_901) (fun _ h9 => h9) rfl d_Ref_action_168 ?_
    refine lv_iload_n hx hb d_Ref_action_171 rfl (lv_at hl 2 rfl) ?_
    refine va_iald (D := (dC, dI)) hx hb hK hP 2 1 rfl rfl (i := nI t) (pk_in t 4 (by omega)) d_Ref_action_172 ?_
    refine tp_i (y := nI (zs t)) (by rw [show (nI t : Int32).toNatClampNeg = t from pk_cl t]) ?_
    refine lv_iadd hx hb d_Ref_action_173 ?_
    refine tp_i (y := nI (7 * t + (zs t))) (by exact nI_add (7 * t) (zs t)) ?_
    refine lv_istore (lv' := [(7, .int (nI (7 * t + (zs t)))), (6, .int 1), (0, .ref ra), (1, .int (nI t)), (2, .int (nI k)), (3, .int (nI x)), (4, .int (nI rn)), (5, .int v)]) hx hb d_Ref_action_174 hl (by decide) rfl ?_
    clear hl ls
    intro ls hl
    refine lv_aload_n hx hb d_Ref_action_176 rfl (lv_at hl 2 rfl) ?_
    refine va_get (D := (dC, dI)) (ci := 8) (v := .ref (rA 3)) (C := R_Ref) (T := F_Ref) (N := 48) hx hb hw i_Ref hown hK hP 0 rfl rfl 3 (by decide) (hw _ m_902) (fun _ h9 => h9) rfl d_Ref_action_177 ?_
    refine lv_iload hx hb d_Ref_action_180 (lv_at hl 0 rfl) ?_
    refine lv_iload_n hx hb d_Ref_action_182 rfl (lv_at hl 4 rfl) ?_
    refine va_iast (D := (dC, dI)) hx hb hK hP (dd_D hD rfl) hS 3 2 rfl rfl (i := nI (7 * t + (zs t))) (x := nI k) (pk_in (7 * t + (zs t)) 28 (by omega)) d_Ref_action_183 ?_
    clear hP hS
    intro H locs hP _ hS
    rw [show (nI (7 * t + (zs t)) : Int32).toNatClampNeg = 7 * t + (zs t) from pk_cl (7 * t + (zs t))] at hP
    rw [show upd (fun i => nI (kd i)) (7 * t + (zs t)) (nI k) = fun i => nI (updN kd (7 * t + (zs t)) k i) from upd_nI] at hP
    replace hP : va_P (dC, dI) classes [oc ra 8 [.int (nI T), .int (nI Ac), .ref (rA 2), .ref (rA 3), .ref (rA 4), .ref (rA 5), .ref (rA 6), .ref (rA 7), .ref (rA 8), .ref (rA 9), .ref (rA 10), .ref (rA 11), .ref (rA 12), .ref (rA 13), .int ir, .ref (rA 15), .ref (rA 16), .ref (rA 17), .ref (rA 18), .int (nI md), .int (nI wd), .ref (rA 21), .ref (rA 22), .ref (rA 23), .int (nI mn), .ref (rA 25), .int (nI cb), .int mr, .ref (rA 28), .ref (rA 29), .ref (rA 30), .ref (rA 31), .ref (rA 32), .ref (rA 33), .ref (rA 34), .ref (rA 35), .int (nI ld), .int (nI gm), .ref (rA 38), .ref (rA 39), .ref (rA 40), .ref (rA 41), .ref (rA 42), .ref (rA 43), .ref (rA 44), .ref (rA 45), .int (nI my), .ref (rA 47)], ia (rA 7) (rK9 7) 8 ff, ia (rA 2) (rK9 2) 4 (fun i => nI (zs i)), ia (rA 3) (rK9 3) 28 (fun i => nI ((updN kd (7 * t + (zs t)) k) i)), ia (rA 4) (rK9 4) 28 (fun i => nI (vx i)), ia (rA 5) (rK9 5) 28 (fun i => nI (rr i)), ia (rA 6) (rK9 6) 28 vv] H := hP
    refine tp_pc (pc' := 184) (by rfl) ?_
    refine lv_aload_n hx hb d_Ref_action_184 rfl (lv_at hl 2 rfl) ?_
    refine va_get (D := (dC, dI)) (ci := 8) (v := .ref (rA 4)) (C := R_Ref) (T := F_Ref) (N := 48) hx hb hw i_Ref hown hK hP 0 rfl rfl 4 (by decide) (hw _ m_903) (fun _ h9 => h9) rfl d_Ref_action_185 ?_
    refine lv_iload hx hb d_Ref_action_188 (lv_at hl 0 rfl) ?_
    refine lv_iload_n hx hb d_Ref_action_190 rfl (lv_at hl 5 rfl) ?_
    refine va_iast (D := (dC, dI)) hx hb hK hP (dd_D hD rfl) hS 4 3 rfl rfl (i := nI (7 * t + (zs t))) (x := nI x) (pk_in (7 * t + (zs t)) 28 (by omega)) d_Ref_action_191 ?_
    clear hP hS locs H
    intro H locs hP _ hS
    rw [show (nI (7 * t + (zs t)) : Int32).toNatClampNeg = 7 * t + (zs t) from pk_cl (7 * t + (zs t))] at hP
    rw [show upd (fun i => nI (vx i)) (7 * t + (zs t)) (nI x) = fun i => nI (updN vx (7 * t + (zs t)) x i) from upd_nI] at hP
    replace hP : va_P (dC, dI) classes [oc ra 8 [.int (nI T), .int (nI Ac), .ref (rA 2), .ref (rA 3), .ref (rA 4), .ref (rA 5), .ref (rA 6), .ref (rA 7), .ref (rA 8), .ref (rA 9), .ref (rA 10), .ref (rA 11), .ref (rA 12), .ref (rA 13), .int ir, .ref (rA 15), .ref (rA 16), .ref (rA 17), .ref (rA 18), .int (nI md), .int (nI wd), .ref (rA 21), .ref (rA 22), .ref (rA 23), .int (nI mn), .ref (rA 25), .int (nI cb), .int mr, .ref (rA 28), .ref (rA 29), .ref (rA 30), .ref (rA 31), .ref (rA 32), .ref (rA 33), .ref (rA 34), .ref (rA 35), .int (nI ld), .int (nI gm), .ref (rA 38), .ref (rA 39), .ref (rA 40), .ref (rA 41), .ref (rA 42), .ref (rA 43), .ref (rA 44), .ref (rA 45), .int (nI my), .ref (rA 47)], ia (rA 7) (rK9 7) 8 ff, ia (rA 2) (rK9 2) 4 (fun i => nI (zs i)), ia (rA 3) (rK9 3) 28 (fun i => nI ((updN kd (7 * t + (zs t)) k) i)), ia (rA 4) (rK9 4) 28 (fun i => nI ((updN vx (7 * t + (zs t)) x) i)), ia (rA 5) (rK9 5) 28 (fun i => nI (rr i)), ia (rA 6) (rK9 6) 28 vv] H := hP
    refine tp_pc (pc' := 192) (by rfl) ?_
    refine lv_aload_n hx hb d_Ref_action_192 rfl (lv_at hl 2 rfl) ?_
    refine va_get (D := (dC, dI)) (ci := 8) (v := .ref (rA 5)) (C := R_Ref) (T := F_Ref) (N := 48) hx hb hw i_Ref hown hK hP 0 rfl rfl 5 (by decide) (hw _ m_904) (fun _ h9 => h9) rfl d_Ref_action_193 ?_
    refine lv_iload hx hb d_Ref_action_196 (lv_at hl 0 rfl) ?_
    refine lv_iload hx hb d_Ref_action_198 (lv_at hl 6 rfl) ?_
    refine va_iast (D := (dC, dI)) hx hb hK hP (dd_D hD rfl) hS 5 4 rfl rfl (i := nI (7 * t + (zs t))) (x := nI rn) (pk_in (7 * t + (zs t)) 28 (by omega)) d_Ref_action_200 ?_
    clear hP hS locs H
    intro H locs hP _ hS
    rw [show (nI (7 * t + (zs t)) : Int32).toNatClampNeg = 7 * t + (zs t) from pk_cl (7 * t + (zs t))] at hP
    rw [show upd (fun i => nI (rr i)) (7 * t + (zs t)) (nI rn) = fun i => nI (updN rr (7 * t + (zs t)) rn i) from upd_nI] at hP
    replace hP : va_P (dC, dI) classes [oc ra 8 [.int (nI T), .int (nI Ac), .ref (rA 2), .ref (rA 3), .ref (rA 4), .ref (rA 5), .ref (rA 6), .ref (rA 7), .ref (rA 8), .ref (rA 9), .ref (rA 10), .ref (rA 11), .ref (rA 12), .ref (rA 13), .int ir, .ref (rA 15), .ref (rA 16), .ref (rA 17), .ref (rA 18), .int (nI md), .int (nI wd), .ref (rA 21), .ref (rA 22), .ref (rA 23), .int (nI mn), .ref (rA 25), .int (nI cb), .int mr, .ref (rA 28), .ref (rA 29), .ref (rA 30), .ref (rA 31), .ref (rA 32), .ref (rA 33), .ref (rA 34), .ref (rA 35), .int (nI ld), .int (nI gm), .ref (rA 38), .ref (rA 39), .ref (rA 40), .ref (rA 41), .ref (rA 42), .ref (rA 43), .ref (rA 44), .ref (rA 45), .int (nI my), .ref (rA 47)], ia (rA 7) (rK9 7) 8 ff, ia (rA 2) (rK9 2) 4 (fun i => nI (zs i)), ia (rA 3) (rK9 3) 28 (fun i => nI ((updN kd (7 * t + (zs t)) k) i)), ia (rA 4) (rK9 4) 28 (fun i => nI ((updN vx (7 * t + (zs t)) x) i)), ia (rA 5) (rK9 5) 28 (fun i => nI ((updN rr (7 * t + (zs t)) rn) i)), ia (rA 6) (rK9 6) 28 vv] H := hP
    refine tp_pc (pc' := 201) (by rfl) ?_
    refine lv_aload_n hx hb d_Ref_action_201 rfl (lv_at hl 2 rfl) ?_
    refine va_get (D := (dC, dI)) (ci := 8) (v := .ref (rA 6)) (C := R_Ref) (T := F_Ref) (N := 48) hx hb hw i_Ref hown hK hP 0 rfl rfl 6 (by decide) (hw _ m_905) (fun _ h9 => h9) rfl d_Ref_action_202 ?_
    refine lv_iload hx hb d_Ref_action_205 (lv_at hl 0 rfl) ?_
    refine lv_iload hx hb d_Ref_action_207 (lv_at hl 7 rfl) ?_
    refine va_iast (D := (dC, dI)) hx hb hK hP (dd_D hD rfl) hS 6 5 rfl rfl (i := nI (7 * t + (zs t))) (x := v) (pk_in (7 * t + (zs t)) 28 (by omega)) d_Ref_action_209 ?_
    clear hP hS locs H
    intro H locs hP _ hS
    rw [show (nI (7 * t + (zs t)) : Int32).toNatClampNeg = 7 * t + (zs t) from pk_cl (7 * t + (zs t))] at hP
    replace hP : va_P (dC, dI) classes [oc ra 8 [.int (nI T), .int (nI Ac), .ref (rA 2), .ref (rA 3), .ref (rA 4), .ref (rA 5), .ref (rA 6), .ref (rA 7), .ref (rA 8), .ref (rA 9), .ref (rA 10), .ref (rA 11), .ref (rA 12), .ref (rA 13), .int ir, .ref (rA 15), .ref (rA 16), .ref (rA 17), .ref (rA 18), .int (nI md), .int (nI wd), .ref (rA 21), .ref (rA 22), .ref (rA 23), .int (nI mn), .ref (rA 25), .int (nI cb), .int mr, .ref (rA 28), .ref (rA 29), .ref (rA 30), .ref (rA 31), .ref (rA 32), .ref (rA 33), .ref (rA 34), .ref (rA 35), .int (nI ld), .int (nI gm), .ref (rA 38), .ref (rA 39), .ref (rA 40), .ref (rA 41), .ref (rA 42), .ref (rA 43), .ref (rA 44), .ref (rA 45), .int (nI my), .ref (rA 47)], ia (rA 7) (rK9 7) 8 ff, ia (rA 2) (rK9 2) 4 (fun i => nI (zs i)), ia (rA 3) (rK9 3) 28 (fun i => nI ((updN kd (7 * t + (zs t)) k) i)), ia (rA 4) (rK9 4) 28 (fun i => nI ((updN vx (7 * t + (zs t)) x) i)), ia (rA 5) (rK9 5) 28 (fun i => nI ((updN rr (7 * t + (zs t)) rn) i)), ia (rA 6) (rK9 6) 28 (upd vv (7 * t + (zs t)) v)] H := hP
    refine tp_pc (pc' := 210) (by rfl) ?_
    refine lv_aload_n hx hb d_Ref_action_210 rfl (lv_at hl 2 rfl) ?_
    refine va_get (D := (dC, dI)) (ci := 8) (v := .ref (rA 2)) (C := R_Ref) (T := F_Ref) (N := 48) hx hb hw i_Ref hown hK hP 0 rfl rfl 2 (by decide) (hw _ m_901) (fun _ h9 => h9) rfl d_Ref_action_211 ?_
    refine lv_iload_n hx hb d_Ref_action_214 rfl (lv_at hl 3 rfl) ?_
    refine lv_dup2_11 hx hb d_Ref_action_215 rfl rfl ?_
    refine va_iald (D := (dC, dI)) hx hb hK hP 2 1 rfl rfl (i := nI t) (pk_in t 4 (by omega)) d_Ref_action_216 ?_
    refine tp_i (y := nI (zs t)) (by rw [show (nI t : Int32).toNatClampNeg = t from pk_cl t]) ?_
    refine lv_iconst (v := 1) hx hb d_Ref_action_217 (by decide) ?_
    refine lv_iadd hx hb d_Ref_action_218 ?_
    refine tp_i (y := nI (zs t + 1)) (by exact nI_add (zs t) 1) ?_
    refine va_iast (D := (dC, dI)) hx hb hK hP (dd_D hD rfl) hS 2 1 rfl rfl (i := nI t) (x := nI (zs t + 1)) (pk_in t 4 (by omega)) d_Ref_action_219 ?_
    clear hP hS locs H
    intro H locs hP _ hS
    rw [show (nI t : Int32).toNatClampNeg = t from pk_cl t] at hP
    rw [show upd (fun i => nI (zs i)) t (nI (zs t + 1)) = fun i => nI (updN zs t (zs t + 1) i) from upd_nI] at hP
    replace hP : va_P (dC, dI) classes [oc ra 8 [.int (nI T), .int (nI Ac), .ref (rA 2), .ref (rA 3), .ref (rA 4), .ref (rA 5), .ref (rA 6), .ref (rA 7), .ref (rA 8), .ref (rA 9), .ref (rA 10), .ref (rA 11), .ref (rA 12), .ref (rA 13), .int ir, .ref (rA 15), .ref (rA 16), .ref (rA 17), .ref (rA 18), .int (nI md), .int (nI wd), .ref (rA 21), .ref (rA 22), .ref (rA 23), .int (nI mn), .ref (rA 25), .int (nI cb), .int mr, .ref (rA 28), .ref (rA 29), .ref (rA 30), .ref (rA 31), .ref (rA 32), .ref (rA 33), .ref (rA 34), .ref (rA 35), .int (nI ld), .int (nI gm), .ref (rA 38), .ref (rA 39), .ref (rA 40), .ref (rA 41), .ref (rA 42), .ref (rA 43), .ref (rA 44), .ref (rA 45), .int (nI my), .ref (rA 47)], ia (rA 7) (rK9 7) 8 ff, ia (rA 2) (rK9 2) 4 (fun i => nI ((updN zs t (zs t + 1)) i)), ia (rA 3) (rK9 3) 28 (fun i => nI ((updN kd (7 * t + (zs t)) k) i)), ia (rA 4) (rK9 4) 28 (fun i => nI ((updN vx (7 * t + (zs t)) x) i)), ia (rA 5) (rK9 5) 28 (fun i => nI ((updN rr (7 * t + (zs t)) rn) i)), ia (rA 6) (rK9 6) 28 (upd vv (7 * t + (zs t)) v)] H := hP
    refine tp_pc (pc' := 220) (by rfl) ?_
    refine lv_aload_n hx hb d_Ref_action_220 rfl (lv_at hl 2 rfl) ?_
    refine lv_dup hx hb d_Ref_action_221 rfl ?_
    refine va_get (D := (dC, dI)) (ci := 8) (v := .int (nI Ac)) (C := R_Ref) (T := F_Ref) (N := 48) hx hb hw i_Ref hown hK hP 0 rfl rfl 1 (by decide) (hw _ m_900) (fun _ h9 => h9) rfl d_Ref_action_222 ?_
    refine lv_iconst (v := 1) hx hb d_Ref_action_225 (by decide) ?_
    refine lv_iadd hx hb d_Ref_action_226 ?_
    refine tp_i (y := nI (Ac + 1)) (by exact nI_add Ac 1) ?_
    refine va_put (D := (dC, dI)) (ci := 8) (v := .int (nI (Ac + 1))) (ty := .int) (C := R_Ref) (T := F_Ref) (N := 48) hx hb hw i_Ref t_Ref t_Ref_ok n_Ref hown hK hP (dd_D hD rfl) hS 0 rfl rfl 1 (by decide) (hw _ m_900) (fun _ h9 => h9) rfl (by decide +kernel) rfl rfl (Nat.le_of_ble_eq_true rfl) d_Ref_action_227 ?_
    clear hP hS locs H
    intro H locs (hP : va_P (dC, dI) classes [oc ra 8 [.int (nI T), .int (nI (Ac + 1)), .ref (rA 2), .ref (rA 3), .ref (rA 4), .ref (rA 5), .ref (rA 6), .ref (rA 7), .ref (rA 8), .ref (rA 9), .ref (rA 10), .ref (rA 11), .ref (rA 12), .ref (rA 13), .int ir, .ref (rA 15), .ref (rA 16), .ref (rA 17), .ref (rA 18), .int (nI md), .int (nI wd), .ref (rA 21), .ref (rA 22), .ref (rA 23), .int (nI mn), .ref (rA 25), .int (nI cb), .int mr, .ref (rA 28), .ref (rA 29), .ref (rA 30), .ref (rA 31), .ref (rA 32), .ref (rA 33), .ref (rA 34), .ref (rA 35), .int (nI ld), .int (nI gm), .ref (rA 38), .ref (rA 39), .ref (rA 40), .ref (rA 41), .ref (rA 42), .ref (rA 43), .ref (rA 44), .ref (rA 45), .int (nI my), .ref (rA 47)], ia (rA 7) (rK9 7) 8 ff, ia (rA 2) (rK9 2) 4 (fun i => nI ((updN zs t (zs t + 1)) i)), ia (rA 3) (rK9 3) 28 (fun i => nI ((updN kd (7 * t + (zs t)) k) i)), ia (rA 4) (rK9 4) 28 (fun i => nI ((updN vx (7 * t + (zs t)) x) i)), ia (rA 5) (rK9 5) 28 (fun i => nI ((updN rr (7 * t + (zs t)) rn) i)), ia (rA 6) (rK9 6) 28 (upd vv (7 * t + (zs t)) v)] H) _ hS
    refine tp_pc (pc' := 230) (by rfl) ?_
    refine lv_aload_n hx hb d_Ref_action_230 rfl (lv_at hl 2 rfl) ?_
    obtain ⟨hPc, hDc, hFc⟩ := cut3 (wc := [oc ra 8 [.int (nI T), .int (nI (Ac + 1)), .ref (rA 2), .ref (rA 3), .ref (rA 4), .ref (rA 5), .ref (rA 6), .ref (rA 7), .ref (rA 8), .ref (rA 9), .ref (rA 10), .ref (rA 11), .ref (rA 12), .ref (rA 13), .int ir, .ref (rA 15), .ref (rA 16), .ref (rA 17), .ref (rA 18), .int (nI md), .int (nI wd), .ref (rA 21), .ref (rA 22), .ref (rA 23), .int (nI mn), .ref (rA 25), .int (nI cb), .int mr, .ref (rA 28), .ref (rA 29), .ref (rA 30), .ref (rA 31), .ref (rA 32), .ref (rA 33), .ref (rA 34), .ref (rA 35), .int (nI ld), .int (nI gm), .ref (rA 38), .ref (rA 39), .ref (rA 40), .ref (rA 41), .ref (rA 42), .ref (rA 43), .ref (rA 44), .ref (rA 45), .int (nI my), .ref (rA 47)], ia (rA 7) (rK9 7) 8 ff]) hP hD rfl hS hA [0, 1] (by decide +kernel) rfl
    have hKc := hK.sub (tys' := [((rK9 7), .boolean)]) [0] rfl
    refine va_callv (va_runV (As := []) (rest := []) ⟨hx, hb, hml, hown, hw⟩ (gen_Ref_anew l dC dI ra rA rK9 T (Ac + 1) md wd mn cb ld gm my ir mr ff H.size) (cw_V 0 hw g_Ref_anew rfl rfl rfl (hw _ m_109) (hw _ m_1050) (hw _ m_1052) (hw _ m_51) (by decide +kernel) ⟨Nat.le_of_ble_eq_true rfl, Nat.le_of_ble_eq_true rfl⟩) ⟨fun a U g mk q => by obtain ⟨q0, q1, qP, qK, qD, qN⟩ := q; exact ⟨q0, q1, qP, va_K.moved (u := U) (U := U.calling g mk a) (Vm.Alike.refl U.vm) qK, qD, nw_call qN⟩, va_recv hKc hPc (ci := 8) (q0 := 0) rfl rfl, fun U hU hW => ⟨rfl, by rw [hU], by rw [hU]; exact hPc, va_K.moved hW.alike hKc, hDc.weaken (fun _ _ _ _ => trivial), nw_warm hW hn⟩⟩ rfl rfl hl.1 rfl (lv_room (Nat.le_of_ble_eq_true rfl)) d_Ref_action_231 ⟨Nat.le_of_ble_eq_true rfl, Nat.le_of_ble_eq_true rfl⟩) hS (fun q _ h => hFc q h) hFc ?_
    intro u t9 H1 locs1 ht9 hvm hw1 hB hz1 hk1 hS1
    obtain ⟨hP1, hK1, hD1⟩ := hB
    rw [ht9] at hP1
    replace hK1 := va_K.moved hvm.symm hK1
    have hPD := join3 hP hD rfl [0, 1] [2, 3, 4, 5, 6] rfl (by rfl) (by decide +kernel) (by decide +kernel) hk1 hFc hP1 hD1
    replace hK : va_K (dC, dI) classes [((rK9 7), .boolean), ((rK9 2), .int), ((rK9 3), .int), ((rK9 4), .int), ((rK9 5), .int), ((rK9 6), .int)] s := hK.app hK1
    clear hP1 hK1 hD1 hk1 hz1 hFc hKc hDc hPc hvm ht9 hP hS t9 locs H
    have hP : va_P (dC, dI) classes [ia (rA 2) (rK9 2) 4 (fun i => nI ((updN zs t (zs t + 1)) i)), ia (rA 3) (rK9 3) 28 (fun i => nI ((updN kd (7 * t + (zs t)) k) i)), ia (rA 4) (rK9 4) 28 (fun i => nI ((updN vx (7 * t + (zs t)) x) i)), ia (rA 5) (rK9 5) 28 (fun i => nI ((updN rr (7 * t + (zs t)) rn) i)), ia (rA 6) (rK9 6) 28 (upd vv (7 * t + (zs t)) v), oc ra 8 [.int (nI T), .int (nI (Ac + 1)), .ref (rA 2), .ref (rA 3), .ref (rA 4), .ref (rA 5), .ref (rA 6), .ref (rA 7), .ref (rA 8), .ref (rA 9), .ref (rA 10), .ref (rA 11), .ref (rA 12), .ref (rA 13), .int 0, .ref (rA 15), .ref (rA 16), .ref (rA 17), .ref (rA 18), .int (nI md), .int (nI wd), .ref (rA 21), .ref (rA 22), .ref (rA 23), .int (nI mn), .ref (rA 25), .int (nI cb), .int mr, .ref (rA 28), .ref (rA 29), .ref (rA 30), .ref (rA 31), .ref (rA 32), .ref (rA 33), .ref (rA 34), .ref (rA 35), .int (nI ld), .int (nI gm), .ref (rA 38), .ref (rA 39), .ref (rA 40), .ref (rA 41), .ref (rA 42), .ref (rA 43), .ref (rA 44), .ref (rA 45), .int (nI my), .ref (rA 47)], ia (rA 7) (rK9 7) 8 (fun _ => 0)] H1 := hPD.1
    replace hD : dd A [(rA 2), (rA 3), (rA 4), (rA 5), (rA 6), ra, (rA 7)] := dd_of hPD.2 rfl
    clear hPD
    revert H1 locs1
    intro H locs hS hP
    clear hw1 u
    refine tp_pc (pc' := 234) (by rfl) ?_
    refine lv_aload_n hx hb d_Ref_action_234 rfl (lv_at hl 2 rfl) ?_
    refine va_get (D := (dC, dI)) (ci := 8) (v := .ref (rA 2)) (C := R_Ref) (T := F_Ref) (N := 48) hx hb hw i_Ref hown hK hP 5 rfl rfl 2 (by decide) (hw _ m_901) (fun _ h9 => h9) rfl d_Ref_action_235 ?_
    refine lv_iload_n hx hb d_Ref_action_238 rfl (lv_at hl 3 rfl) ?_
    refine va_iald (D := (dC, dI)) hx hb hK hP 0 1 rfl rfl (i := nI t) (pk_in t 4 (by omega)) d_Ref_action_239 ?_
    refine tp_i (y := nI ((updN zs t (zs t + 1)) t)) (by rw [show (nI t : Int32).toNatClampNeg = t from pk_cl t]) ?_
    refine tp_i (y := nI (zs t + 1)) (congrArg nI (if_pos rfl)) ?_
    replace hP : va_P (dC, dI) classes [ia (rA 2) (rK9 2) 4 (fun i => nI ((updN zs t (zs t + 1)) i)), ia (rA 3) (rK9 3) 28 (fun i => nI ((updN kd (7 * t + zs t) k) i)), ia (rA 4) (rK9 4) 28 (fun i => nI ((updN vx (7 * t + zs t) x) i)), ia (rA 5) (rK9 5) 28 (fun i => nI ((updN rr (7 * t + zs t) rn) i)), ia (rA 6) (rK9 6) 28 (upd vv (7 * t + zs t) v), oc ra 8 [.int (nI T), .int (nI (Ac + 1)), .ref (rA 2), .ref (rA 3), .ref (rA 4), .ref (rA 5), .ref (rA 6), .ref (rA 7), .ref (rA 8), .ref (rA 9), .ref (rA 10), .ref (rA 11), .ref (rA 12), .ref (rA 13), .int 0, .ref (rA 15), .ref (rA 16), .ref (rA 17), .ref (rA 18), .int (nI md), .int (nI wd), .ref (rA 21), .ref (rA 22), .ref (rA 23), .int (nI mn), .ref (rA 25), .int (nI cb), .int mr, .ref (rA 28), .ref (rA 29), .ref (rA 30), .ref (rA 31), .ref (rA 32), .ref (rA 33), .ref (rA 34), .ref (rA 35), .int (nI ld), .int (nI gm), .ref (rA 38), .ref (rA 39), .ref (rA 40), .ref (rA 41), .ref (rA 42), .ref (rA 43), .ref (rA 44), .ref (rA 45), .int (nI my), .ref (rA 47)], ia (rA 7) (rK9 7) 8 (fun _ => 0)] H := hP
    obtain ⟨hP9, hD9, -⟩ := cut3 (wc := [oc ra 8 [.int (nI T), .int (nI (Ac + 1)), .ref (rA 2), .ref (rA 3), .ref (rA 4), .ref (rA 5), .ref (rA 6), .ref (rA 7), .ref (rA 8), .ref (rA 9), .ref (rA 10), .ref (rA 11), .ref (rA 12), .ref (rA 13), .int 0, .ref (rA 15), .ref (rA 16), .ref (rA 17), .ref (rA 18), .int (nI md), .int (nI wd), .ref (rA 21), .ref (rA 22), .ref (rA 23), .int (nI mn), .ref (rA 25), .int (nI cb), .int mr, .ref (rA 28), .ref (rA 29), .ref (rA 30), .ref (rA 31), .ref (rA 32), .ref (rA 33), .ref (rA 34), .ref (rA 35), .int (nI ld), .int (nI gm), .ref (rA 38), .ref (rA 39), .ref (rA 40), .ref (rA 41), .ref (rA 42), .ref (rA 43), .ref (rA 44), .ref (rA 45), .int (nI my), .ref (rA 47)], ia (rA 7) (rK9 7) 8 (fun _ => 0), ia (rA 2) (rK9 2) 4 (fun i => nI ((updN zs t (zs t + 1)) i)), ia (rA 3) (rK9 3) 28 (fun i => nI ((updN kd (7 * t + zs t) k) i)), ia (rA 4) (rK9 4) 28 (fun i => nI ((updN vx (7 * t + zs t) x) i)), ia (rA 5) (rK9 5) 28 (fun i => nI ((updN rr (7 * t + zs t) rn) i)), ia (rA 6) (rK9 6) 28 (upd vv (7 * t + zs t) v)]) hP hD rfl hS hA [5, 6, 0, 1, 2, 3, 4] (by decide +kernel) rfl
    have hK9 := hK.sub (tys' := []) [] rfl
    refine W.widen (k := 0) (n := 0) (by exact Nat.le_of_ble_eq_true rfl) (by exact Nat.le_of_ble_eq_true rfl) ?_
    exact W.iret (v := (nI (zs t + 1))) hx hb hr (fun t9 ht9 hW => ⟨⟨nI (zs t + 1), (), rfl, rfl, by rw [ht9]; exact hP9, va_K.moved hW.alike hK9, hD9⟩, hS.F ht9⟩) hS.2.2 d_Ref_action_240
