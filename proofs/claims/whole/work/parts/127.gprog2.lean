def rK (rg : Nat → Int32) : Nat → Int64
  | 0 => 0 ||| (rg 0 + 64).toInt64
  | n + 1 => (rK rg n <<< ((7 : Int32).toInt64 &&& 63)) ||| (rg (n + 1) + 64).toInt64
def vK (vl : Nat → Int32) (a b c : Nat) : Int32 := ((((vl a + 64) <<< ((7 : Int32) &&& 31)) ||| (vl b + 64)) <<< ((7 : Int32) &&& 31)) ||| (vl c + 64)
/-- an action more -/
def addA (pg : Nat → Nat → Nat) (t Ac k x rn : Nat) : Nat → Nat → Nat
  | 0 => updN (pg 0) t (pg 0 t + 1)
  | 1 => updN (pg 1) (t * 7 + pg 0 t) Ac
  | 2 => updN (pg 2) Ac t
  | 3 => updN (pg 3) Ac (pg 0 t)
  | 4 => updN (pg 4) Ac k
  | 5 => updN (pg 5) Ac x
  | 6 => updN (pg 6) Ac (t * 2 + rn)
  | 8 => updN (pg 8) t (pg 8 t ||| 2 ^ Ac)
  | 9 => updN (pg 9) k (pg 9 k ||| 2 ^ Ac)
  | 10 => if k < 4 then updN (pg 10) x (pg 10 x ||| 2 ^ Ac) else pg 10
  | j => pg j
set_option maxHeartbeats 4000000 in
set_option maxRecDepth 100000 in
theorem gen_Progress_registersKey (l : Launch) (dC : Nat → ClassId) (dI : Nat → Nat → Nat) (ga g1 g2 g3 : Nat) (l1 l2 l3 : ClassId) (dn : Nat) (so : Int64) (pl : Nat → Nat) (rg vl : Nat → Int32) (pa : Nat)  (sz : Nat) : Met l y_Progress_registersKey w_Progress_registersKey ({ frames := 0, cells := 0, slots := 0, locals := 0 }) (va_Pc [.ref ga] (fun U => U.heap.size = sz ∧ va_P (dC, dI) classes [oc ga 1 [.ref pa, .ref g1, .ref g2, .ref g3, .int (nI dn), .long so], ia g2 l2 8 rg] U.heap ∧ va_K (dC, dI) classes [(l2, .int)] U ∧ va_D (fun _ => True) [oc ga 1 [.ref pa, .ref g1, .ref g2, .ref g3, .int (nI dn), .long so], ia g2 l2 8 rg] ∧ nw U)) (va_Ql (fun (r : Int64) (_ : Unit) => r = rK rg 7) (fun _ t9 => va_P (dC, dI) classes [oc ga 1 [.ref pa, .ref g1, .ref g2, .ref g3, .int (nI dn), .long so], ia g2 l2 8 rg] t9.heap ∧ va_K (dC, dI) classes [] t9 ∧ va_D (va_A [oc ga 1 [.ref pa, .ref g1, .ref g2, .ref g3, .int (nI dn), .long so], ia g2 l2 8 rg] sz) [oc ga 1 [.ref pa, .ref g1, .ref g2, .ref g3, .int (nI dn), .long so], ia g2 l2 8 rg]) (va_A [oc ga 1 [.ref pa, .ref g1, .ref g2, .ref g3, .int (nI dn), .long so], ia g2 l2 8 rg] sz)) 0 0 (va_A [oc ga 1 [.ref pa, .ref g1, .ref g2, .ref g3, .int (nI dn), .long so], ia g2 l2 8 rg] sz) := by
  refine Met.ofW (cc := b_Progress_registersKey) (maxL := 4) (ret := (some .long)) (by decide) rfl ?_
  intro p e0 s m args below meth c s₁ B hml hv
  obtain ⟨rfl, hsz, hP, hK, hD0, hn⟩ := hv
  have hx := B.exec
  have hb := B.bytes
  have hr := B.returns
  have hw := fun w (h : w ∈ wt) => atoms_spec (ws := w_Progress_registersKey) B.pre w (List.mem_cons_of_mem _ h)
  have hown : s.vm.findClass R_Progress = some m.cls := findClass_of_methodNamed B.named
  have hlocks := B.notSynchronized
  subst hsz
  have hD1 := hD0.self (sz := s.heap.size)
  generalize hAe : va_A [oc ga 1 [.ref pa, .ref g1, .ref g2, .ref g3, .int (nI dn), .long so], ia g2 l2 8 rg] s.heap.size = A at hD1 ⊢
  have hA : ∀ q : Nat, s.heap.size ≤ q → A q := fun q h => by rw [← hAe]; exact Or.inr h
  have hD : dd A [ga, g2] := dd_of hD1 rfl
  clear hAe hD0 hD1
  have hS : va_S A s.heap s.heap [] := va_S.rf
  replace hP : va_P (dC, dI) classes [oc ga 1 [.ref pa, .ref g1, .ref g2, .ref g3, .int (nI dn), .long so], ia g2 l2 8 rg] s.heap := hP
  have hl := lv_entry ([.ref ga]) (n := 4) (Nat.le_of_ble_eq_true rfl)
  rw [lg_entry_eq]
  generalize (lg_sl ([.ref ga]) ++ List.replicate (4 - (lg_sl ([.ref ga])).length) Slot.unset).toArray = ls at hl ⊢
  replace hl : lv_has ls 4 [(0, .ref ga)] := hl
  refine lv_lconst (v := 0) hx hb d_Progress_registersKey_0 (by decide) ?_
  refine lv_lstore_n (lv' := [(1, .long 0), (0, .ref ga)]) hx hb d_Progress_registersKey_1 rfl hl (by decide) rfl ?_
  clear hl ls
  intro ls hl
  refine lv_iconst (v := 0) hx hb d_Progress_registersKey_2 (by decide) ?_
  refine lv_istore_n (lv' := [(3, .int 0), (1, .long 0), (0, .ref ga)]) hx hb d_Progress_registersKey_3 rfl hl (by decide) rfl ?_
  clear hl ls
  intro ls hl
  refine lv_iload_n hx hb d_Progress_registersKey_4 rfl (lv_at hl 0 rfl) ?_
  refine lv_bipush (v := 8) hx hb d_Progress_registersKey_5 (by decide) ?_
  refine lv_icmp_ge (tgt := 32) hx hb d_Progress_registersKey_7 (by decide) (fun c_1 => absurd c_1 (by decide)) (fun c_1 => ?_)
  refine tp_pc (pc' := 10) (by rfl) ?_
  refine lv_lload_n hx hb d_Progress_registersKey_10 rfl (lv_at hl 1 rfl) ?_
  refine lv_bipush (v := 7) hx hb d_Progress_registersKey_11 (by decide) ?_
  refine lv_lshl (v := 0) hx hb d_Progress_registersKey_13 (by first | rfl | decide) ?_
  refine lv_aload_n hx hb d_Progress_registersKey_14 rfl (lv_at hl 2 rfl) ?_
  refine va_get (D := (dC, dI)) (ci := 1) (v := .ref g2) (C := R_Progress) (T := F_Progress) (N := 6) hx hb hw i_Progress hown hK hP 0 rfl rfl 2 (by decide) (hw _ m_206) (fun _ h9 => h9) rfl d_Progress_registersKey_15 ?_
  refine lv_iload_n hx hb d_Progress_registersKey_18 rfl (lv_at hl 0 rfl) ?_
  refine va_iald (D := (dC, dI)) hx hb hK hP 1 0 rfl rfl (i := 0) (pk_in 0 8 (by omega)) d_Progress_registersKey_19 ?_
  refine tp_i (y := rg 0) (by rw [show (0 : Int32).toNatClampNeg = 0 from pk_cl 0]) ?_
  refine lv_bipush (v := 64) hx hb d_Progress_registersKey_20 (by decide) ?_
  refine lv_iadd hx hb d_Progress_registersKey_22 ?_
  refine tp_i (y := (rg 0) + 64) rfl ?_
  refine lv_i2l (v := ((rg 0) + 64).toInt64) hx hb d_Progress_registersKey_23 rfl ?_
  refine lv_lor hx hb d_Progress_registersKey_24 ?_
  refine tp_l (y := 0 ||| (((rg 0) + 64).toInt64)) rfl ?_
  refine tp_l (y := rK rg 0) rfl ?_
  refine lv_lstore_n (lv' := [(1, .long (rK rg 0)), (3, .int 0), (0, .ref ga)]) hx hb d_Progress_registersKey_25 rfl hl (by decide) rfl ?_
  clear hl ls
  intro ls hl
  refine lv_iinc (v := 1) (lv' := [(3, .int 1), (1, .long (rK rg 0)), (0, .ref ga)]) hx hb d_Progress_registersKey_26 hl (k := 1) rfl (by first | rfl | decide) (by decide) rfl ?_
  clear hl ls
  intro ls hl
  refine lv_goto (tgt := 4) hx hb d_Progress_registersKey_29 (by decide) ?_
  refine tp_pc (pc' := 4) (by rfl) ?_
  refine lv_iload_n hx hb d_Progress_registersKey_4 rfl (lv_at hl 0 rfl) ?_
  refine lv_bipush (v := 8) hx hb d_Progress_registersKey_5 (by decide) ?_
  refine lv_icmp_ge (tgt := 32) hx hb d_Progress_registersKey_7 (by decide) (fun c_2 => absurd c_2 (by decide)) (fun c_2 => ?_)
  refine tp_pc (pc' := 10) (by rfl) ?_
  refine lv_lload_n hx hb d_Progress_registersKey_10 rfl (lv_at hl 1 rfl) ?_
  refine lv_bipush (v := 7) hx hb d_Progress_registersKey_11 (by decide) ?_
  refine lv_lshl (v := (rK rg 0) <<< ((7 : Int32).toInt64 &&& 63)) hx hb d_Progress_registersKey_13 rfl ?_
  refine lv_aload_n hx hb d_Progress_registersKey_14 rfl (lv_at hl 2 rfl) ?_
  refine va_get (D := (dC, dI)) (ci := 1) (v := .ref g2) (C := R_Progress) (T := F_Progress) (N := 6) hx hb hw i_Progress hown hK hP 0 rfl rfl 2 (by decide) (hw _ m_206) (fun _ h9 => h9) rfl d_Progress_registersKey_15 ?_
  refine lv_iload_n hx hb d_Progress_registersKey_18 rfl (lv_at hl 0 rfl) ?_
  refine va_iald (D := (dC, dI)) hx hb hK hP 1 0 rfl rfl (i := 1) (pk_in 1 8 (by omega)) d_Progress_registersKey_19 ?_
  refine tp_i (y := rg 1) (by rw [show (1 : Int32).toNatClampNeg = 1 from pk_cl 1]) ?_
  refine lv_bipush (v := 64) hx hb d_Progress_registersKey_20 (by decide) ?_
  refine lv_iadd hx hb d_Progress_registersKey_22 ?_
  refine tp_i (y := (rg 1) + 64) rfl ?_
  refine lv_i2l (v := ((rg 1) + 64).toInt64) hx hb d_Progress_registersKey_23 rfl ?_
  refine lv_lor hx hb d_Progress_registersKey_24 ?_
  refine tp_l (y := ((rK rg 0) <<< ((7 : Int32).toInt64 &&& 63)) ||| (((rg 1) + 64).toInt64)) rfl ?_
  refine tp_l (y := rK rg 1) rfl ?_
  refine lv_lstore_n (lv' := [(1, .long (rK rg 1)), (3, .int 1), (0, .ref ga)]) hx hb d_Progress_registersKey_25 rfl hl (by decide) rfl ?_
  clear hl ls
  intro ls hl
  refine lv_iinc (v := 2) (lv' := [(3, .int 2), (1, .long (rK rg 1)), (0, .ref ga)]) hx hb d_Progress_registersKey_26 hl (k := 1) rfl (by first | rfl | decide) (by decide) rfl ?_
  clear hl ls
  intro ls hl
  refine lv_goto (tgt := 4) hx hb d_Progress_registersKey_29 (by decide) ?_
  refine tp_pc (pc' := 4) (by rfl) ?_
  refine lv_iload_n hx hb d_Progress_registersKey_4 rfl (lv_at hl 0 rfl) ?_
  refine lv_bipush (v := 8) hx hb d_Progress_registersKey_5 (by decide) ?_
  refine lv_icmp_ge (tgt := 32) hx hb d_Progress_registersKey_7 (by decide) (fun c_3 => absurd c_3 (by decide)) (fun c_3 => ?_)
  refine tp_pc (pc' := 10) (by rfl) ?_
  refine lv_lload_n hx hb d_Progress_registersKey_10 rfl (lv_at hl 1 rfl) ?_
  refine lv_bipush (v := 7) hx hb d_Progress_registersKey_11 (by decide) ?_
  refine lv_lshl (v := (rK rg 1) <<< ((7 : Int32).toInt64 &&& 63)) hx hb d_Progress_registersKey_13 rfl ?_
  refine lv_aload_n hx hb d_Progress_registersKey_14 rfl (lv_at hl 2 rfl) ?_
  refine va_get (D := (dC, dI)) (ci := 1) (v := .ref g2) (C := R_Progress) (T := F_Progress) (N := 6) hx hb hw i_Progress hown hK hP 0 rfl rfl 2 (by decide) (hw _ m_206) (fun _ h9 => h9) rfl d_Progress_registersKey_15 ?_
  refine lv_iload_n hx hb d_Progress_registersKey_18 rfl (lv_at hl 0 rfl) ?_
  refine va_iald (D := (dC, dI)) hx hb hK hP 1 0 rfl rfl (i := 2) (pk_in 2 8 (by omega)) d_Progress_registersKey_19 ?_
  refine tp_i (y := rg 2) (by rw [show (2 : Int32).toNatClampNeg = 2 from pk_cl 2]) ?_
  refine lv_bipush (v := 64) hx hb d_Progress_registersKey_20 (by decide) ?_
  refine lv_iadd hx hb d_Progress_registersKey_22 ?_
  refine tp_i (y := (rg 2) + 64) rfl ?_
  refine lv_i2l (v := ((rg 2) + 64).toInt64) hx hb d_Progress_registersKey_23 rfl ?_
  refine lv_lor hx hb d_Progress_registersKey_24 ?_
  refine tp_l (y := ((rK rg 1) <<< ((7 : Int32).toInt64 &&& 63)) ||| (((rg 2) + 64).toInt64)) rfl ?_
  refine tp_l (y := rK rg 2) rfl ?_
  refine lv_lstore_n (lv' := [(1, .long (rK rg 2)), (3, .int 2), (0, .ref ga)]) hx hb d_Progress_registersKey_25 rfl hl (by decide) rfl ?_
  clear hl ls
  intro ls hl
  refine lv_iinc (v := 3) (lv' := [(3, .int 3), (1, .long (rK rg 2)), (0, .ref ga)]) hx hb d_Progress_registersKey_26 hl (k := 1) rfl (by first | rfl | decide) (by decide) rfl ?_
  clear hl ls
  intro ls hl
  refine lv_goto (tgt := 4) hx hb d_Progress_registersKey_29 (by decide) ?_
  refine tp_pc (pc' := 4) (by rfl) ?_
  refine lv_iload_n hx hb d_Progress_registersKey_4 rfl (lv_at hl 0 rfl) ?_
  refine lv_bipush (v := 8) hx hb d_Progress_registersKey_5 (by decide) ?_
  refine lv_icmp_ge (tgt := 32) hx hb d_Progress_registersKey_7 (by decide) (fun c_4 => absurd c_4 (by decide)) (fun c_4 => ?_)
  refine tp_pc (pc' := 10) (by rfl) ?_
  refine lv_lload_n hx hb d_Progress_registersKey_10 rfl (lv_at hl 1 rfl) ?_
  refine lv_bipush (v := 7) hx hb d_Progress_registersKey_11 (by decide) ?_
  refine lv_lshl (v := (rK rg 2) <<< ((7 : Int32).toInt64 &&& 63)) hx hb d_Progress_registersKey_13 rfl ?_
  refine lv_aload_n hx hb d_Progress_registersKey_14 rfl (lv_at hl 2 rfl) ?_
  refine va_get (D := (dC, dI)) (ci := 1) (v := .ref g2) (C := R_Progress) (T := F_Progress) (N := 6) hx hb hw i_Progress hown hK hP 0 rfl rfl 2 (by decide) (hw _ m_206) (fun _ h9 => h9) rfl d_Progress_registersKey_15 ?_
  refine lv_iload_n hx hb d_Progress_registersKey_18 rfl (lv_at hl 0 rfl) ?_
  refine va_iald (D := (dC, dI)) hx hb hK hP 1 0 rfl rfl (i := 3) (pk_in 3 8 (by omega)) d_Progress_registersKey_19 ?_
  refine tp_i (y := rg 3) (by rw [show (3 : Int32).toNatClampNeg = 3 from pk_cl 3]) ?_
  refine lv_bipush (v := 64) hx hb d_Progress_registersKey_20 (by decide) ?_
  refine lv_iadd hx hb d_Progress_registersKey_22 ?_
  refine tp_i (y := (rg 3) + 64) rfl ?_
  refine lv_i2l (v := ((rg 3) + 64).toInt64) hx hb d_Progress_registersKey_23 rfl ?_
  refine lv_lor hx hb d_Progress_registersKey_24 ?_
  refine tp_l (y := ((rK rg 2) <<< ((7 : Int32).toInt64 &&& 63)) ||| (((rg 3) + 64).toInt64)) rfl ?_
  refine tp_l (y := rK rg 3) rfl ?_
  refine lv_lstore_n (lv' := [(1, .long (rK rg 3)), (3, .int 3), (0, .ref ga)]) hx hb d_Progress_registersKey_25 rfl hl (by decide) rfl ?_
  clear hl ls
  intro ls hl
  refine lv_iinc (v := 4) (lv' := [(3, .int 4), (1, .long (rK rg 3)), (0, .ref ga)]) hx hb d_Progress_registersKey_26 hl (k := 1) rfl (by first | rfl | decide) (by decide) rfl ?_
  clear hl ls
  intro ls hl
  refine lv_goto (tgt := 4) hx hb d_Progress_registersKey_29 (by decide) ?_
  refine tp_pc (pc' := 4) (by rfl) ?_
  refine lv_iload_n hx hb d_Progress_registersKey_4 rfl (lv_at hl 0 rfl) ?_
  refine lv_bipush (v := 8) hx hb d_Progress_registersKey_5 (by decide) ?_
  refine lv_icmp_ge (tgt := 32) hx hb d_Progress_registersKey_7 (by decide) (fun c_5 => absurd c_5 (by decide)) (fun c_5 => ?_)
  refine tp_pc (pc' := 10) (by rfl) ?_
  refine lv_lload_n hx hb d_Progress_registersKey_10 rfl (lv_at hl 1 rfl) ?_
  refine lv_bipush (v := 7) hx hb d_Progress_registersKey_11 (by decide) ?_
  refine lv_lshl (v := (rK rg 3) <<< ((7 : Int32).toInt64 &&& 63)) hx hb d_Progress_registersKey_13 rfl ?_
  refine lv_aload_n hx hb d_Progress_registersKey_14 rfl (lv_at hl 2 rfl) ?_
  refine va_get (D := (dC, dI)) (ci := 1) (v := .ref g2) (C := R_Progress) (T := F_Progress) (N := 6) hx hb hw i_Progress hown hK hP 0 rfl rfl 2 (by decide) (hw _ m_206) (fun _ h9 => h9) rfl d_Progress_registersKey_15 ?_
  refine lv_iload_n hx hb d_Progress_registersKey_18 rfl (lv_at hl 0 rfl) ?_
  refine va_iald (D := (dC, dI)) hx hb hK hP 1 0 rfl rfl (i := 4) (pk_in 4 8 (by omega)) d_Progress_registersKey_19 ?_
  refine tp_i (y := rg 4) (by rw [show (4 : Int32).toNatClampNeg = 4 from pk_cl 4]) ?_
  refine lv_bipush (v := 64) hx hb d_Progress_registersKey_20 (by decide) ?_
  refine lv_iadd hx hb d_Progress_registersKey_22 ?_
  refine tp_i (y := (rg 4) + 64) rfl ?_
  refine lv_i2l (v := ((rg 4) + 64).toInt64) hx hb d_Progress_registersKey_23 rfl ?_
  refine lv_lor hx hb d_Progress_registersKey_24 ?_
  refine tp_l (y := ((rK rg 3) <<< ((7 : Int32).toInt64 &&& 63)) ||| (((rg 4) + 64).toInt64)) rfl ?_
  refine tp_l (y := rK rg 4) rfl ?_
  refine lv_lstore_n (lv' := [(1, .long (rK rg 4)), (3, .int 4), (0, .ref ga)]) hx hb d_Progress_registersKey_25 rfl hl (by decide) rfl ?_
  clear hl ls
  intro ls hl
  refine lv_iinc (v := 5) (lv' := [(3, .int 5), (1, .long (rK rg 4)), (0, .ref ga)]) hx hb d_Progress_registersKey_26 hl (k := 1) rfl (by first | rfl | decide) (by decide) rfl ?_
  clear hl ls
  intro ls hl
  refine lv_goto (tgt := 4) hx hb d_Progress_registersKey_29 (by decide) ?_
  refine tp_pc (pc' := 4) (by rfl) ?_
  refine lv_iload_n hx hb d_Progress_registersKey_4 rfl (lv_at hl 0 rfl) ?_
  refine lv_bipush (v := 8) hx hb d_Progress_registersKey_5 (by decide) ?_
  refine lv_icmp_ge (tgt := 32) hx hb d_Progress_registersKey_7 (by decide) (fun c_6 => absurd c_6 (by decide)) (fun c_6 => ?_)
  refine tp_pc (pc' := 10) (by rfl) ?_
  refine lv_lload_n hx hb d_Progress_registersKey_10 rfl (lv_at hl 1 rfl) ?_
  refine lv_bipush (v := 7) hx hb d_Progress_registersKey_11 (by decide) ?_
  refine lv_lshl (v := (rK rg 4) <<< ((7 : Int32).toInt64 &&& 63)) hx hb d_Progress_registersKey_13 rfl ?_
  refine lv_aload_n hx hb d_Progress_registersKey_14 rfl (lv_at hl 2 rfl) ?_
  refine va_get (D := (dC, dI)) (ci := 1) (v := .ref g2) (C := R_Progress) (T := F_Progress) (N := 6) hx hb hw i_Progress hown hK hP 0 rfl rfl 2 (by decide) (hw _ m_206) (fun _ h9 => h9) rfl d_Progress_registersKey_15 ?_
  refine lv_iload_n hx hb d_Progress_registersKey_18 rfl (lv_at hl 0 rfl) ?_
  refine va_iald (D := (dC, dI)) hx hb hK hP 1 0 rfl rfl (i := 5) (pk_in 5 8 (by omega)) d_Progress_registersKey_19 ?_
  refine tp_i (y := rg 5) (by rw [show (5 : Int32).toNatClampNeg = 5 from pk_cl 5]) ?_
  refine lv_bipush (v := 64) hx hb d_Progress_registersKey_20 (by decide) ?_
  refine lv_iadd hx hb d_Progress_registersKey_22 ?_
  refine tp_i (y := (rg 5) + 64) rfl ?_
  refine lv_i2l (v := ((rg 5) + 64).toInt64) hx hb d_Progress_registersKey_23 rfl ?_
  refine lv_lor hx hb d_Progress_registersKey_24 ?_
  refine tp_l (y := ((rK rg 4) <<< ((7 : Int32).toInt64 &&& 63)) ||| (((rg 5) + 64).toInt64)) rfl ?_
  refine tp_l (y := rK rg 5) rfl ?_
  refine lv_lstore_n (lv' := [(1, .long (rK rg 5)), (3, .int 5), (0, .ref ga)]) hx hb d_Progress_registersKey_25 rfl hl (by decide) rfl ?_
  clear hl ls
  intro ls hl
  refine lv_iinc (v := 6) (lv' := [(3, .int 6), (1, .long (rK rg 5)), (0, .ref ga)]) hx hb d_Progress_registersKey_26 hl (k := 1) rfl (by first | rfl | decide) (by decide) rfl ?_
  clear hl ls
  intro ls hl
  refine lv_goto (tgt := 4) hx hb d_Progress_registersKey_29 (by decide) ?_
  refine tp_pc (pc' := 4) (by rfl) ?_
  refine lv_iload_n hx hb d_Progress_registersKey_4 rfl (lv_at hl 0 rfl) ?_
  refine lv_bipush (v := 8) hx hb d_Progress_registersKey_5 (by decide) ?_
  refine lv_icmp_ge (tgt := 32) hx hb d_Progress_registersKey_7 (by decide) (fun c_7 => absurd c_7 (by decide)) (fun c_7 => ?_)
  refine tp_pc (pc' := 10) (by rfl) ?_
  refine lv_lload_n hx hb d_Progress_registersKey_10 rfl (lv_at hl 1 rfl) ?_
  refine lv_bipush (v := 7) hx hb d_Progress_registersKey_11 (by decide) ?_
  refine lv_lshl (v := (rK rg 5) <<< ((7 : Int32).toInt64 &&& 63)) hx hb d_Progress_registersKey_13 rfl ?_
  refine lv_aload_n hx hb d_Progress_registersKey_14 rfl (lv_at hl 2 rfl) ?_
  refine va_get (D := (dC, dI)) (ci := 1) (v := .ref g2) (C := R_Progress) (T := F_Progress) (N := 6) hx hb hw i_Progress hown hK hP 0 rfl rfl 2 (by decide) (hw _ m_206) (fun _ h9 => h9) rfl d_Progress_registersKey_15 ?_
  refine lv_iload_n hx hb d_Progress_registersKey_18 rfl (lv_at hl 0 rfl) ?_
  refine va_iald (D := (dC, dI)) hx hb hK hP 1 0 rfl rfl (i := 6) (pk_in 6 8 (by omega)) d_Progress_registersKey_19 ?_
  refine tp_i (y := rg 6) (by rw [show (6 : Int32).toNatClampNeg = 6 from pk_cl 6]) ?_
  refine lv_bipush (v := 64) hx hb d_Progress_registersKey_20 (by decide) ?_
  refine lv_iadd hx hb d_Progress_registersKey_22 ?_
  refine tp_i (y := (rg 6) + 64) rfl ?_
  refine lv_i2l (v := ((rg 6) + 64).toInt64) hx hb d_Progress_registersKey_23 rfl ?_
  refine lv_lor hx hb d_Progress_registersKey_24 ?_
  refine tp_l (y := ((rK rg 5) <<< ((7 : Int32).toInt64 &&& 63)) ||| (((rg 6) + 64).toInt64)) rfl ?_
  refine tp_l (y := rK rg 6) rfl ?_
  refine lv_lstore_n (lv' := [(1, .long (rK rg 6)), (3, .int 6), (0, .ref ga)]) hx hb d_Progress_registersKey_25 rfl hl (by decide) rfl ?_
  clear hl ls
  intro ls hl
  refine lv_iinc (v := 7) (lv' := [(3, .int 7), (1, .long (rK rg 6)), (0, .ref ga)]) hx hb d_Progress_registersKey_26 hl (k := 1) rfl (by first | rfl | decide) (by decide) rfl ?_
  clear hl ls
  intro ls hl
  refine lv_goto (tgt := 4) hx hb d_Progress_registersKey_29 (by decide) ?_
  refine tp_pc (pc' := 4) (by rfl) ?_
  refine lv_iload_n hx hb d_Progress_registersKey_4 rfl (lv_at hl 0 rfl) ?_
  refine lv_bipush (v := 8) hx hb d_Progress_registersKey_5 (by decide) ?_
  refine lv_icmp_ge (tgt := 32) hx hb d_Progress_registersKey_7 (by decide) (fun c_8 => absurd c_8 (by decide)) (fun c_8 => ?_)
  refine tp_pc (pc' := 10) (by rfl) ?_
  refine lv_lload_n hx hb d_Progress_registersKey_10 rfl (lv_at hl 1 rfl) ?_
  refine lv_bipush (v := 7) hx hb d_Progress_registersKey_11 (by decide) ?_
  refine lv_lshl (v := (rK rg 6) <<< ((7 : Int32).toInt64 &&& 63)) hx hb d_Progress_registersKey_13 rfl ?_
  refine lv_aload_n hx hb d_Progress_registersKey_14 rfl (lv_at hl 2 rfl) ?_
  refine va_get (D := (dC, dI)) (ci := 1) (v := .ref g2) (C := R_Progress) (T := F_Progress) (N := 6) hx hb hw i_Progress hown hK hP 0 rfl rfl 2 (by decide) (hw _ m_206) (fun _ h9 => h9) rfl d_Progress_registersKey_15 ?_
  refine lv_iload_n hx hb d_Progress_registersKey_18 rfl (lv_at hl 0 rfl) ?_
  refine va_iald (D := (dC, dI)) hx hb hK hP 1 0 rfl rfl (i := 7) (pk_in 7 8 (by omega)) d_Progress_registersKey_19 ?_
  refine tp_i (y := rg 7) (by rw [show (7 : Int32).toNatClampNeg = 7 from pk_cl 7]) ?_
  refine lv_bipush (v := 64) hx hb d_Progress_registersKey_20 (by decide) ?_
  refine lv_iadd hx hb d_Progress_registersKey_22 ?_
  refine tp_i (y := (rg 7) + 64) rfl ?_
  refine lv_i2l (v := ((rg 7) + 64).toInt64) hx hb d_Progress_registersKey_23 rfl ?_
  refine lv_lor hx hb d_Progress_registersKey_24 ?_
  refine tp_l (y := ((rK rg 6) <<< ((7 : Int32).toInt64 &&& 63)) ||| (((rg 7) + 64).toInt64)) rfl ?_
  refine tp_l (y := rK rg 7) rfl ?_
  refine lv_lstore_n (lv' := [(1, .long (rK rg 7)), (3, .int 7), (0, .ref ga)]) hx hb d_Progress_registersKey_25 rfl hl (by decide) rfl ?_
  clear hl ls
  intro ls hl
  refine lv_iinc (v := 8) (lv' := [(3, .int 8), (1, .long (rK rg 7)), (0, .ref ga)]) hx hb d_Progress_registersKey_26 hl (k := 1) rfl (by first | rfl | decide) (by decide) rfl ?_
  clear hl ls
  intro ls hl
  refine lv_goto (tgt := 4) hx hb d_Progress_registersKey_29 (by decide) ?_
  refine tp_pc (pc' := 4) (by rfl) ?_
  refine lv_iload_n hx hb d_Progress_registersKey_4 rfl (lv_at hl 0 rfl) ?_
  refine lv_bipush (v := 8) hx hb d_Progress_registersKey_5 (by decide) ?_
  refine lv_icmp_ge (tgt := 32) hx hb d_Progress_registersKey_7 (by decide) (fun c_9 => ?_) (fun c_9 => absurd c_9 (by decide))
  refine tp_pc (pc' := 32) (by rfl) ?_
  refine lv_lload_n hx hb d_Progress_registersKey_32 rfl (lv_at hl 1 rfl) ?_
  obtain ⟨hP9, hD9, -⟩ := cut3 (wc := [oc ga 1 [.ref pa, .ref g1, .ref g2, .ref g3, .int (nI dn), .long so], ia g2 l2 8 rg]) hP hD rfl hS hA [0, 1] (by decide +kernel) rfl
  have hK9 := hK.sub (tys' := []) [] rfl
  refine W.widen (k := 0) (n := 0) (by exact Nat.le_of_ble_eq_true rfl) (by exact Nat.le_of_ble_eq_true rfl) ?_
  exact W.lret (v := (rK rg 7)) hx hb hr (fun t9 ht9 hW => ⟨⟨rK rg 7, (), rfl, rfl, by rw [ht9]; exact hP9, va_K.moved hW.alike hK9, hD9⟩, hS.F ht9⟩) hS.2.2 d_Progress_registersKey_33
set_option maxHeartbeats 4000000 in
set_option maxRecDepth 100000 in
theorem gen_Progress_variablesKey (l : Launch) (dC : Nat → ClassId) (dI : Nat → Nat → Nat) (ga g1 g2 g3 : Nat) (l1 l2 l3 : ClassId) (dn : Nat) (so : Int64) (pl : Nat → Nat) (rg vl : Nat → Int32) (pa s0 s1 s2 : Nat) (hs0 : s0 < 8) (hs1 : s1 < 8) (hs2 : s2 < 8) (sz : Nat) : Met l y_Progress_variablesKey w_Progress_variablesKey ({ frames := 0, cells := 0, slots := 0, locals := 0 }) (va_Pc [.ref ga, .int (nI s0), .int (nI s1), .int (nI s2)] (fun U => U.heap.size = sz ∧ va_P (dC, dI) classes [oc ga 1 [.ref pa, .ref g1, .ref g2, .ref g3, .int (nI dn), .long so], ia g3 l3 8 vl] U.heap ∧ va_K (dC, dI) classes [(l3, .int)] U ∧ va_D (fun _ => True) [oc ga 1 [.ref pa, .ref g1, .ref g2, .ref g3, .int (nI dn), .long so], ia g3 l3 8 vl] ∧ nw U)) (va_Qi (fun (r : Int32) (_ : Unit) => r = vK vl s0 s1 s2) (fun _ t9 => va_P (dC, dI) classes [oc ga 1 [.ref pa, .ref g1, .ref g2, .ref g3, .int (nI dn), .long so], ia g3 l3 8 vl] t9.heap ∧ va_K (dC, dI) classes [] t9 ∧ va_D (va_A [oc ga 1 [.ref pa, .ref g1, .ref g2, .ref g3, .int (nI dn), .long so], ia g3 l3 8 vl] sz) [oc ga 1 [.ref pa, .ref g1, .ref g2, .ref g3, .int (nI dn), .long so], ia g3 l3 8 vl]) (va_A [oc ga 1 [.ref pa, .ref g1, .ref g2, .ref g3, .int (nI dn), .long so], ia g3 l3 8 vl] sz)) 0 0 (va_A [oc ga 1 [.ref pa, .ref g1, .ref g2, .ref g3, .int (nI dn), .long so], ia g3 l3 8 vl] sz) := by
  refine Met.ofW (cc := b_Progress_variablesKey) (maxL := 5) (ret := (some .int)) (by decide) rfl ?_
  intro p e0 s m args below meth c s₁ B hml hv
  obtain ⟨rfl, hsz, hP, hK, hD0, hn⟩ := hv
  have hx := B.exec
  have hb := B.bytes
  have hr := B.returns
  have hw := fun w (h : w ∈ wt) => atoms_spec (ws := w_Progress_variablesKey) B.pre w (List.mem_cons_of_mem _ h)
  have hown : s.vm.findClass R_Progress = some m.cls := findClass_of_methodNamed B.named
  have hlocks := B.notSynchronized
  subst hsz
  have hD1 := hD0.self (sz := s.heap.size)
  generalize hAe : va_A [oc ga 1 [.ref pa, .ref g1, .ref g2, .ref g3, .int (nI dn), .long so], ia g3 l3 8 vl] s.heap.size = A at hD1 ⊢
  have hA : ∀ q : Nat, s.heap.size ≤ q → A q := fun q h => by rw [← hAe]; exact Or.inr h
  have hD : dd A [ga, g3] := dd_of hD1 rfl
  clear hAe hD0 hD1
  have hS : va_S A s.heap s.heap [] := va_S.rf
  replace hP : va_P (dC, dI) classes [oc ga 1 [.ref pa, .ref g1, .ref g2, .ref g3, .int (nI dn), .long so], ia g3 l3 8 vl] s.heap := hP
  have hl := lv_entry ([.ref ga, .int (nI s0), .int (nI s1), .int (nI s2)]) (n := 5) (Nat.le_of_ble_eq_true rfl)
  rw [lg_entry_eq]
  generalize (lg_sl ([.ref ga, .int (nI s0), .int (nI s1), .int (nI s2)]) ++ List.replicate (5 - (lg_sl ([.ref ga, .int (nI s0), .int (nI s1), .int (nI s2)])).length) Slot.unset).toArray = ls at hl ⊢
  replace hl : lv_has ls 5 [(0, .ref ga), (1, .int (nI s0)), (2, .int (nI s1)), (3, .int (nI s2))] := hl
  refine lv_aload_n hx hb d_Progress_variablesKey_0 rfl (lv_at hl 0 rfl) ?_
  refine va_get (D := (dC, dI)) (ci := 1) (v := .ref g3) (C := R_Progress) (T := F_Progress) (N := 6) hx hb hw i_Progress hown hK hP 0 rfl rfl 3 (by decide) (hw _ m_207) (fun _ h9 => h9) rfl d_Progress_variablesKey_1 ?_
  refine lv_iload_n hx hb d_Progress_variablesKey_4 rfl (lv_at hl 1 rfl) ?_
  refine va_iald (D := (dC, dI)) hx hb hK hP 1 0 rfl rfl (i := nI s0) (pk_in s0 8 (by omega)) d_Progress_variablesKey_5 ?_
  refine tp_i (y := vl s0) (by rw [show (nI s0 : Int32).toNatClampNeg = s0 from pk_cl s0]) ?_
  refine lv_bipush (v := 64) hx hb d_Progress_variablesKey_6 (by decide) ?_
  refine lv_iadd hx hb d_Progress_variablesKey_8 ?_
  refine tp_i (y := (vl s0) + 64) rfl ?_
  refine lv_istore (lv' := [(4, .int ((vl s0) + 64)), (0, .ref ga), (1, .int (nI s0)), (2, .int (nI s1)), (3, .int (nI s2))]) hx hb d_Progress_variablesKey_9 hl (by decide) rfl ?_
  clear hl ls
  intro ls hl
  refine lv_iload hx hb d_Progress_variablesKey_11 (lv_at hl 0 rfl) ?_
  refine lv_bipush (v := 7) hx hb d_Progress_variablesKey_13 (by decide) ?_
  refine lv_ishl hx hb d_Progress_variablesKey_15 ?_
  refine tp_i (y := ((vl s0) + 64) <<< (7 &&& 31)) rfl ?_
  refine lv_aload_n hx hb d_Progress_variablesKey_16 rfl (lv_at hl 1 rfl) ?_
  refine va_get (D := (dC, dI)) (ci := 1) (v := .ref g3) (C := R_Progress) (T := F_Progress) (N := 6) hx hb hw i_Progress hown hK hP 0 rfl rfl 3 (by decide) (hw _ m_207) (fun _ h9 => h9) rfl d_Progress_variablesKey_17 ?_
  refine lv_iload_n hx hb d_Progress_variablesKey_20 rfl (lv_at hl 3 rfl) ?_
  refine va_iald (D := (dC, dI)) hx hb hK hP 1 0 rfl rfl (i := nI s1) (pk_in s1 8 (by omega)) d_Progress_variablesKey_21 ?_
  refine tp_i (y := vl s1) (by rw [show (nI s1 : Int32).toNatClampNeg = s1 from pk_cl s1]) ?_
  refine lv_bipush (v := 64) hx hb d_Progress_variablesKey_22 (by decide) ?_
  refine lv_iadd hx hb d_Progress_variablesKey_24 ?_
  refine tp_i (y := (vl s1) + 64) rfl ?_
  refine lv_ior hx hb d_Progress_variablesKey_25 ?_
  refine tp_i (y := (((vl s0) + 64) <<< (7 &&& 31)) ||| ((vl s1) + 64)) rfl ?_
  refine lv_istore (lv' := [(4, .int ((((vl s0) + 64) <<< (7 &&& 31)) ||| ((vl s1) + 64))), (0, .ref ga), (1, .int (nI s0)), (2, .int (nI s1)), (3, .int (nI s2))]) hx hb d_Progress_variablesKey_26 hl (by decide) rfl ?_
  clear hl ls
  intro ls hl
  refine lv_iload hx hb d_Progress_variablesKey_28 (lv_at hl 0 rfl) ?_
  refine lv_bipush (v := 7) hx hb d_Progress_variablesKey_30 (by decide) ?_
  refine lv_ishl hx hb d_Progress_variablesKey_32 ?_
  refine tp_i (y := ((((vl s0) + 64) <<< (7 &&& 31)) ||| ((vl s1) + 64)) <<< (7 &&& 31)) rfl ?_
  refine lv_aload_n hx hb d_Progress_variablesKey_33 rfl (lv_at hl 1 rfl) ?_
  refine va_get (D := (dC, dI)) (ci := 1) (v := .ref g3) (C := R_Progress) (T := F_Progress) (N := 6) hx hb hw i_Progress hown hK hP 0 rfl rfl 3 (by decide) (hw _ m_207) (fun _ h9 => h9) rfl d_Progress_variablesKey_34 ?_
  refine lv_iload_n hx hb d_Progress_variablesKey_37 rfl (lv_at hl 4 rfl) ?_
  refine va_iald (D := (dC, dI)) hx hb hK hP 1 0 rfl rfl (i := nI s2) (pk_in s2 8 (by omega)) d_Progress_variablesKey_38 ?_
  refine tp_i (y := vl s2) (by rw [show (nI s2 : Int32).toNatClampNeg = s2 from pk_cl s2]) ?_
  refine lv_bipush (v := 64) hx hb d_Progress_variablesKey_39 (by decide) ?_
  refine lv_iadd hx hb d_Progress_variablesKey_41 ?_
  refine tp_i (y := (vl s2) + 64) rfl ?_
  refine lv_ior hx hb d_Progress_variablesKey_42 ?_
  refine tp_i (y := (((((vl s0) + 64) <<< (7 &&& 31)) ||| ((vl s1) + 64)) <<< (7 &&& 31)) ||| ((vl s2) + 64)) rfl ?_
  refine tp_i (y := vK vl s0 s1 s2) rfl ?_
  obtain ⟨hP9, hD9, -⟩ := cut3 (wc := [oc ga 1 [.ref pa, .ref g1, .ref g2, .ref g3, .int (nI dn), .long so], ia g3 l3 8 vl]) hP hD rfl hS hA [0, 1] (by decide +kernel) rfl
  have hK9 := hK.sub (tys' := []) [] rfl
  refine W.widen (k := 0) (n := 0) (by exact Nat.le_of_ble_eq_true rfl) (by exact Nat.le_of_ble_eq_true rfl) ?_
  exact W.iret (v := (vK vl s0 s1 s2)) hx hb hr (fun t9 ht9 hW => ⟨⟨vK vl s0 s1 s2, (), rfl, rfl, by rw [ht9]; exact hP9, va_K.moved hW.alike hK9, hD9⟩, hS.F ht9⟩) hS.2.2 d_Progress_variablesKey_43
set_option maxHeartbeats 4000000 in
set_option maxRecDepth 100000 in
theorem gen_Program_addThread_no (l : Launch) (dC : Nat → ClassId) (dI : Nat → Nat → Nat) (pa : Nat) (pA : Nat → Nat) (pK : Nat → ClassId) (T Ac : Nat) (pg : Nat → Nat → Nat) (nm : Nat → Int32) (hT : T = 4) (sz : Nat) : Met l y_Program_addThread w_Program_addThread ({ frames := 0, cells := 0, slots := 0, locals := 0 }) (va_Pc [.ref pa] (fun U => U.heap.size = sz ∧ va_P (dC, dI) classes [oc pa 0 [.ref (pA 0), .ref (pA 1), .ref (pA 2), .ref (pA 3), .ref (pA 4), .ref (pA 5), .ref (pA 6), .ref (pA 7), .ref (pA 8), .ref (pA 9), .ref (pA 10), .int (nI T), .int (nI Ac)]] U.heap ∧ va_K (dC, dI) classes [] U ∧ va_D (fun _ => True) [oc pa 0 [.ref (pA 0), .ref (pA 1), .ref (pA 2), .ref (pA 3), .ref (pA 4), .ref (pA 5), .ref (pA 6), .ref (pA 7), .ref (pA 8), .ref (pA 9), .ref (pA 10), .int (nI T), .int (nI Ac)]] ∧ nw U)) (va_Qi (fun (r : Int32) (_ : Unit) => r = -1) (fun _ t9 => va_P (dC, dI) classes [oc pa 0 [.ref (pA 0), .ref (pA 1), .ref (pA 2), .ref (pA 3), .ref (pA 4), .ref (pA 5), .ref (pA 6), .ref (pA 7), .ref (pA 8), .ref (pA 9), .ref (pA 10), .int (nI T), .int (nI Ac)]] t9.heap ∧ va_K (dC, dI) classes [] t9 ∧ va_D (va_A [oc pa 0 [.ref (pA 0), .ref (pA 1), .ref (pA 2), .ref (pA 3), .ref (pA 4), .ref (pA 5), .ref (pA 6), .ref (pA 7), .ref (pA 8), .ref (pA 9), .ref (pA 10), .int (nI T), .int (nI Ac)]] sz) [oc pa 0 [.ref (pA 0), .ref (pA 1), .ref (pA 2), .ref (pA 3), .ref (pA 4), .ref (pA 5), .ref (pA 6), .ref (pA 7), .ref (pA 8), .ref (pA 9), .ref (pA 10), .int (nI T), .int (nI Ac)]]) (va_A [oc pa 0 [.ref (pA 0), .ref (pA 1), .ref (pA 2), .ref (pA 3), .ref (pA 4), .ref (pA 5), .ref (pA 6), .ref (pA 7), .ref (pA 8), .ref (pA 9), .ref (pA 10), .int (nI T), .int (nI Ac)]] sz)) 0 0 (va_A [oc pa 0 [.ref (pA 0), .ref (pA 1), .ref (pA 2), .ref (pA 3), .ref (pA 4), .ref (pA 5), .ref (pA 6), .ref (pA 7), .ref (pA 8), .ref (pA 9), .ref (pA 10), .int (nI T), .int (nI Ac)]] sz) := by
  refine Met.ofW (cc := b_Program_addThread) (maxL := 1) (ret := (some .int)) (by decide) rfl ?_
  intro p e0 s m args below meth c s₁ B hml hv
  obtain ⟨rfl, hsz, hP, hK, hD0, hn⟩ := hv
  have hx := B.exec
  have hb := B.bytes
  have hr := B.returns
  have hw := fun w (h : w ∈ wt) => atoms_spec (ws := w_Program_addThread) B.pre w (List.mem_cons_of_mem _ h)
  have hown : s.vm.findClass R_Program = some m.cls := findClass_of_methodNamed B.named
  have hlocks := B.notSynchronized
  subst hsz
  have hD1 := hD0.self (sz := s.heap.size)
  generalize hAe : va_A [oc pa 0 [.ref (pA 0), .ref (pA 1), .ref (pA 2), .ref (pA 3), .ref (pA 4), .ref (pA 5), .ref (pA 6), .ref (pA 7), .ref (pA 8), .ref (pA 9), .ref (pA 10), .int (nI T), .int (nI Ac)]] s.heap.size = A at hD1 ⊢
  have hA : ∀ q : Nat, s.heap.size ≤ q → A q := fun q h => by rw [← hAe]; exact Or.inr h
  have hD : dd A [pa] := dd_of hD1 rfl
  clear hAe hD0 hD1
  have hS : va_S A s.heap s.heap [] := va_S.rf
  replace hP : va_P (dC, dI) classes [oc pa 0 [.ref (pA 0), .ref (pA 1), .ref (pA 2), .ref (pA 3), .ref (pA 4), .ref (pA 5), .ref (pA 6), .ref (pA 7), .ref (pA 8), .ref (pA 9), .ref (pA 10), .int (nI T), .int (nI Ac)]] s.heap := hP
  have hl := lv_entry ([.ref pa]) (n := 1) (Nat.le_of_ble_eq_true rfl)
  rw [lg_entry_eq]
  generalize (lg_sl ([.ref pa]) ++ List.replicate (1 - (lg_sl ([.ref pa])).length) Slot.unset).toArray = ls at hl ⊢
  replace hl : lv_has ls 1 [(0, .ref pa)] := hl
  refine lv_aload_n hx hb d_Program_addThread_0 rfl (lv_at hl 0 rfl) ?_
  refine va_get (D := (dC, dI)) (ci := 0) (v := .int (nI T)) (C := R_Program) (T := F_Program) (N := 13) hx hb hw i_Program hown hK hP 0 rfl rfl 11 (by decide) (hw _ m_160) (fun _ h9 => h9) rfl d_Program_addThread_1 ?_
  refine lv_iconst (v := 4) hx hb d_Program_addThread_4 (by decide) ?_
  refine lv_icmp_lt (tgt := 10) hx hb d_Program_addThread_5 (by decide) (fun c9 => absurd ((nI_ltI (a := T) (b := 4) (by omega) (by omega)).mp c9) (by omega)) (fun c9 => ?_)
  have hc9 : ¬ (T < 4) := fun q9 => c9 ((nI_ltI (a := T) (b := 4) (by omega) (by omega)).mpr q9)
  refine tp_pc (pc' := 8) (by rfl) ?_
  refine lv_iconst (v := (-1)) hx hb d_Program_addThread_8 (by decide) ?_
  obtain ⟨hP9, hD9, -⟩ := cut3 (wc := [oc pa 0 [.ref (pA 0), .ref (pA 1), .ref (pA 2), .ref (pA 3), .ref (pA 4), .ref (pA 5), .ref (pA 6), .ref (pA 7), .ref (pA 8), .ref (pA 9), .ref (pA 10), .int (nI T), .int (nI Ac)]]) hP hD rfl hS hA [0] (by decide +kernel) rfl
  have hK9 := hK.sub (tys' := []) [] rfl
  refine W.widen (k := 0) (n := 0) (by exact Nat.le_of_ble_eq_true rfl) (by exact Nat.le_of_ble_eq_true rfl) ?_
  exact W.iret (v := (-1)) hx hb hr (fun t9 ht9 hW => ⟨⟨(-1), (), rfl, rfl, by rw [ht9]; exact hP9, va_K.moved hW.alike hK9, hD9⟩, hS.F ht9⟩) hS.2.2 d_Program_addThread_9
set_option maxHeartbeats 4000000 in
set_option maxRecDepth 100000 in
theorem gen_Program_addThread_yes (l : Launch) (dC : Nat → ClassId) (dI : Nat → Nat → Nat) (pa : Nat) (pA : Nat → Nat) (pK : Nat → ClassId) (T Ac : Nat) (pg : Nat → Nat → Nat) (nm : Nat → Int32) (hT : T < 4) (sz : Nat) : Met l y_Program_addThread w_Program_addThread ({ frames := 0, cells := 0, slots := 0, locals := 0 }) (va_Pc [.ref pa] (fun U => U.heap.size = sz ∧ va_P (dC, dI) classes [oc pa 0 [.ref (pA 0), .ref (pA 1), .ref (pA 2), .ref (pA 3), .ref (pA 4), .ref (pA 5), .ref (pA 6), .ref (pA 7), .ref (pA 8), .ref (pA 9), .ref (pA 10), .int (nI T), .int (nI Ac)]] U.heap ∧ va_K (dC, dI) classes [] U ∧ va_D (fun _ => True) [oc pa 0 [.ref (pA 0), .ref (pA 1), .ref (pA 2), .ref (pA 3), .ref (pA 4), .ref (pA 5), .ref (pA 6), .ref (pA 7), .ref (pA 8), .ref (pA 9), .ref (pA 10), .int (nI T), .int (nI Ac)]] ∧ nw U)) (va_Qi (fun (r : Int32) (_ : Unit) => r = nI T) (fun _ t9 => va_P (dC, dI) classes [oc pa 0 [.ref (pA 0), .ref (pA 1), .ref (pA 2), .ref (pA 3), .ref (pA 4), .ref (pA 5), .ref (pA 6), .ref (pA 7), .ref (pA 8), .ref (pA 9), .ref (pA 10), .int (nI (T + 1)), .int (nI Ac)]] t9.heap ∧ va_K (dC, dI) classes [] t9 ∧ va_D (va_A [oc pa 0 [.ref (pA 0), .ref (pA 1), .ref (pA 2), .ref (pA 3), .ref (pA 4), .ref (pA 5), .ref (pA 6), .ref (pA 7), .ref (pA 8), .ref (pA 9), .ref (pA 10), .int (nI T), .int (nI Ac)]] sz) [oc pa 0 [.ref (pA 0), .ref (pA 1), .ref (pA 2), .ref (pA 3), .ref (pA 4), .ref (pA 5), .ref (pA 6), .ref (pA 7), .ref (pA 8), .ref (pA 9), .ref (pA 10), .int (nI (T + 1)), .int (nI Ac)]]) (va_A [oc pa 0 [.ref (pA 0), .ref (pA 1), .ref (pA 2), .ref (pA 3), .ref (pA 4), .ref (pA 5), .ref (pA 6), .ref (pA 7), .ref (pA 8), .ref (pA 9), .ref (pA 10), .int (nI T), .int (nI Ac)]] sz)) 0 0 (va_A [oc pa 0 [.ref (pA 0), .ref (pA 1), .ref (pA 2), .ref (pA 3), .ref (pA 4), .ref (pA 5), .ref (pA 6), .ref (pA 7), .ref (pA 8), .ref (pA 9), .ref (pA 10), .int (nI T), .int (nI Ac)]] sz) := by
  refine Met.ofW (cc := b_Program_addThread) (maxL := 1) (ret := (some .int)) (by decide) rfl ?_
  intro p e0 s m args below meth c s₁ B hml hv
  obtain ⟨rfl, hsz, hP, hK, hD0, hn⟩ := hv
  have hx := B.exec
  have hb := B.bytes
  have hr := B.returns
  have hw := fun w (h : w ∈ wt) => atoms_spec (ws := w_Program_addThread) B.pre w (List.mem_cons_of_mem _ h)
  have hown : s.vm.findClass R_Program = some m.cls := findClass_of_methodNamed B.named
  have hlocks := B.notSynchronized
  subst hsz
  have hD1 := hD0.self (sz := s.heap.size)
  generalize hAe : va_A [oc pa 0 [.ref (pA 0), .ref (pA 1), .ref (pA 2), .ref (pA 3), .ref (pA 4), .ref (pA 5), .ref (pA 6), .ref (pA 7), .ref (pA 8), .ref (pA 9), .ref (pA 10), .int (nI T), .int (nI Ac)]] s.heap.size = A at hD1 ⊢
  have hA : ∀ q : Nat, s.heap.size ≤ q → A q := fun q h => by rw [← hAe]; exact Or.inr h
  have hD : dd A [pa] := dd_of hD1 rfl
  clear hAe hD0 hD1
  have hS : va_S A s.heap s.heap [] := va_S.rf
  replace hP : va_P (dC, dI) classes [oc pa 0 [.ref (pA 0), .ref (pA 1), .ref (pA 2), .ref (pA 3), .ref (pA 4), .ref (pA 5), .ref (pA 6), .ref (pA 7), .ref (pA 8), .ref (pA 9), .ref (pA 10), .int (nI T), .int (nI Ac)]] s.heap := hP
  have hl := lv_entry ([.ref pa]) (n := 1) (Nat.le_of_ble_eq_true rfl)
  rw [lg_entry_eq]
  generalize (lg_sl ([.ref pa]) ++ List.replicate (1 - (lg_sl ([.ref pa])).length) Slot.unset).toArray = ls at hl ⊢
  replace hl : lv_has ls 1 [(0, .ref pa)] := hl
  refine lv_aload_n hx hb d_Program_addThread_0 rfl (lv_at hl 0 rfl) ?_
  refine va_get (D := (dC, dI)) (ci := 0) (v := .int (nI T)) (C := R_Program) (T := F_Program) (N := 13) hx hb hw i_Program hown hK hP 0 rfl rfl 11 (by decide) (hw _ m_160) (fun _ h9 => h9) rfl d_Program_addThread_1 ?_
  refine lv_iconst (v := 4) hx hb d_Program_addThread_4 (by decide) ?_
  refine lv_icmp_lt (tgt := 10) hx hb d_Program_addThread_5 (by decide) (fun c9 => ?_) (fun c9 => absurd ((nI_ltI (a := T) (b := 4) (by omega) (by omega)).mpr hT) c9)
  have hc9 : T < 4 := (nI_ltI (a := T) (b := 4) (by omega) (by omega)).mp c9
  refine tp_pc (pc' := 10) (by rfl) ?_
  refine lv_aload_n hx hb d_Program_addThread_10 rfl (lv_at hl 0 rfl) ?_
  refine lv_dup hx hb d_Program_addThread_11 rfl ?_
  refine va_get (D := (dC, dI)) (ci := 0) (v := .int (nI T)) (C := R_Program) (T := F_Program) (N := 13) hx hb hw i_Program hown hK hP 0 rfl rfl 11 (by decide) (hw _ m_160) (fun _ h9 => h9) rfl d_Program_addThread_12 ?_
  refine lv_iconst (v := 1) hx hb d_Program_addThread_15 (by decide) ?_
  refine lv_iadd hx hb d_Program_addThread_16 ?_
  refine tp_i (y := nI (T + 1)) (by exact nI_add T 1) ?_
  refine va_put (D := (dC, dI)) (ci := 0) (v := .int (nI (T + 1))) (ty := .int) (C := R_Program) (T := F_Program) (N := 13) hx hb hw i_Program t_Program t_Program_ok n_Program hown hK hP (dd_D hD rfl) hS 0 rfl rfl 11 (by decide) (hw _ m_160) (fun _ h9 => h9) rfl (by decide +kernel) rfl rfl (Nat.le_of_ble_eq_true rfl) d_Program_addThread_17 ?_
  clear hP hS
  intro H locs (hP : va_P (dC, dI) classes [oc pa 0 [.ref (pA 0), .ref (pA 1), .ref (pA 2), .ref (pA 3), .ref (pA 4), .ref (pA 5), .ref (pA 6), .ref (pA 7), .ref (pA 8), .ref (pA 9), .ref (pA 10), .int (nI (T + 1)), .int (nI Ac)]] H) _ hS
  refine tp_pc (pc' := 20) (by rfl) ?_
  refine lv_aload_n hx hb d_Program_addThread_20 rfl (lv_at hl 0 rfl) ?_
  refine va_get (D := (dC, dI)) (ci := 0) (v := .int (nI (T + 1))) (C := R_Program) (T := F_Program) (N := 13) hx hb hw i_Program hown hK hP 0 rfl rfl 11 (by decide) (hw _ m_160) (fun _ h9 => h9) rfl d_Program_addThread_21 ?_
  refine lv_iconst (v := 1) hx hb d_Program_addThread_24 (by decide) ?_
  refine lv_isub hx hb d_Program_addThread_25 ?_
  refine tp_i (y := nI (T + 1 - 1)) (by exact pk_sub (a := T + 1) (b := 1) (by omega)) ?_
  refine tp_i (y := nI T) (by rw [Nat.add_sub_cancel]) ?_
  obtain ⟨hP9, hD9, -⟩ := cut3 (wc := [oc pa 0 [.ref (pA 0), .ref (pA 1), .ref (pA 2), .ref (pA 3), .ref (pA 4), .ref (pA 5), .ref (pA 6), .ref (pA 7), .ref (pA 8), .ref (pA 9), .ref (pA 10), .int (nI (T + 1)), .int (nI Ac)]]) hP hD rfl hS hA [0] (by decide +kernel) rfl
  have hK9 := hK.sub (tys' := []) [] rfl
  refine W.widen (k := 0) (n := 0) (by exact Nat.le_of_ble_eq_true rfl) (by exact Nat.le_of_ble_eq_true rfl) ?_
  exact W.iret (v := (nI T)) hx hb hr (fun t9 ht9 hW => ⟨⟨nI T, (), rfl, rfl, by rw [ht9]; exact hP9, va_K.moved hW.alike hK9, hD9⟩, hS.F ht9⟩) hS.2.2 d_Program_addThread_26
