/-- fields of n bits each, one behind the other -/
def btF (cf : Nat → Int64) (cb : Nat) (v : Int64) (n : Nat) : Nat → Int64 :=
  if cb % 64 + n ≤ 64 then vp_updL cf (cb / 64) (cf (cb / 64) ||| (v <<< ((nI (cb % 64) : Int32).toInt64 &&& 63))) else vp_updL (vp_updL cf (cb / 64) (cf (cb / 64) ||| (v <<< ((nI (cb % 64) : Int32).toInt64 &&& 63)))) (cb / 64 + 1) ((vp_updL cf (cb / 64) (cf (cb / 64) ||| (v <<< ((nI (cb % 64) : Int32).toInt64 &&& 63)))) (cb / 64 + 1) ||| (v.toUInt64 >>> ((nI (64 - cb % 64) : Int32).toInt64.toUInt64 &&& Int64.toUInt64 63)).toInt64)
def wrB (L : List (Int64 × Nat)) : (Nat → Int64) × Nat := L.foldl (fun s x => (btF s.1 s.2 x.1 x.2, s.2 + x.2)) (fun _ => 0, 0)
def szB : List (Int64 × Nat) → Nat
  | [] => 0
  | x :: L => x.2 + szB L
theorem szB_app : ∀ (L M : List (Int64 × Nat)), szB (L ++ M) = szB L + szB M
  | [], M => (Nat.zero_add _).symm
  | x :: L, M => by rw [List.cons_append, szB, szB, szB_app L M, Nat.add_assoc]
theorem wrB_g : ∀ (L : List (Int64 × Nat)) (s : (Nat → Int64) × Nat), (L.foldl (fun s x => (btF s.1 s.2 x.1 x.2, s.2 + x.2)) s).2 = s.2 + szB L
  | [], s => rfl
  | x :: L, s => by rw [List.foldl_cons, wrB_g L, szB, Nat.add_assoc]
theorem wrB_2 (L : List (Int64 × Nat)) : (wrB L).2 = szB L := (wrB_g L _).trans (Nat.zero_add _)
theorem wrB_1 {L : List (Int64 × Nat)} {v : Int64} {n : Nat} : (wrB (L ++ [(v, n)])).1 = btF (wrB L).1 (szB L) v n := by
  rw [← wrB_2]; unfold wrB; rw [List.foldl_append]; rfl
/-- the pieces below i, in their order -/
def mpL (f : Nat → List (Int64 × Nat)) : Nat → List (Int64 × Nat)
  | 0 => []
  | i + 1 => mpL f i ++ f i
theorem szB_mono {f : Nat → List (Int64 × Nat)} {i : Nat} : ∀ {n : Nat}, i < n → szB (mpL f i) + szB (f i) ≤ szB (mpL f n)
  | 0, h => absurd h (Nat.not_lt_zero i)
  | n + 1, h => by
    rw [mpL, szB_app]
    rcases Nat.lt_or_eq_of_le (Nat.le_of_lt_succ h) with q | q
    · have := szB_mono (f := f) q; omega
    · subst q; exact Nat.le_refl _
theorem szB_mono0 {f : Nat → List (Int64 × Nat)} {i : Nat} : ∀ {n : Nat}, i ≤ n → szB (mpL f i) ≤ szB (mpL f n)
  | n, h => by
    rcases Nat.lt_or_eq_of_le h with q | q
    · have := szB_mono (f := f) q; omega
    · subst q; exact Nat.le_refl _
theorem szB_1 {v : Int64} {n : Nat} : szB [(v, n)] = n := rfl
/-- how many of the first k keep to p -/
def ctB (p : Nat → Bool) : Nat → Nat
  | 0 => 0
  | k + 1 => ctB p k + (if p k = true then 1 else 0)
theorem ctB_le {p : Nat → Bool} : ∀ k, ctB p k ≤ k
  | 0 => Nat.le_refl 0
  | k + 1 => by unfold ctB; have := ctB_le (p := p) k; split <;> omega
/-- one buffer: how many wait, then each one's variable and value -/
def blB (sf : Nat → Int32) (t : Nat) (x9 : Int32) : Nat → List (Int64 × Nat) := fun k => if inB sf t x9 k = true then [((sf (23 + k)).toInt64, 2), ((sf (30 + k) + 64).toInt64, 7)] else []
def bkB (sf : Nat → Int32) (nb t : Nat) (x9 : Int32) : List (Int64 × Nat) := ((nI (ctB (inB sf t x9) nb)).toInt64, 3) :: mpL (blB sf t x9) nb
def buB (md : Nat) (sf : Nat → Int32) (nb : Nat) : Nat → List (Int64 × Nat) := fun t => if md = 1 then bkB sf nb t (-1) else bkB sf nb t 0 ++ (bkB sf nb t 1 ++ bkB sf nb t 2)
def hdB (sf : Nat → Int32) : List (Int64 × Nat) := mpL (fun t => [((sf t).toInt64, 3)]) 4 ++ mpL (fun k => [((sf (4 + k) + 64).toInt64, 7)]) 8
/-- a state of models 0 to 2 in fields -/
def enB (md : Nat) (sf : Nat → Int32) (nb : Nat) : List (Int64 × Nat) := hdB sf ++ (mpL (fun x => [((sf (12 + x) + 64).toInt64, 7)]) 3 ++ (if md = 0 then [] else mpL (buB md sf nb) 4))
set_option maxHeartbeats 4000000 in
set_option maxRecDepth 100000 in
theorem gen_Ref_bitsL (l : Launch) (dC : Nat → ClassId) (dI : Nat → Nat → Nat) (ra : Nat) (rA : Nat → Nat) (rK9 : Nat → ClassId) (T Ac md wd mn cb ld gm my : Nat) (ir mr : Int32) (v : Int64) (n : Nat) (L L2 : List (Int64 × Nat)) (hL2 : L2 = L ++ [(v, n)]) (hcb : cb = szB L) (hn0 : 0 < n) (hn6 : n ≤ 64) (hs3 : szB L2 ≤ 320) (sz : Nat) : Met l y_Ref_bits w_Ref_bits ({ frames := 0, cells := 0, slots := 0, locals := 0 }) (va_Pc [.ref ra, .long v, .int (nI n)] (fun U => U.heap.size = sz ∧ va_P (dC, dI) classes [oc ra 8 [.int (nI T), .int (nI Ac), .ref (rA 2), .ref (rA 3), .ref (rA 4), .ref (rA 5), .ref (rA 6), .ref (rA 7), .ref (rA 8), .ref (rA 9), .ref (rA 10), .ref (rA 11), .ref (rA 12), .ref (rA 13), .int ir, .ref (rA 15), .ref (rA 16), .ref (rA 17), .ref (rA 18), .int (nI md), .int (nI wd), .ref (rA 21), .ref (rA 22), .ref (rA 23), .int (nI mn), .ref (rA 25), .int (nI cb), .int mr, .ref (rA 28), .ref (rA 29), .ref (rA 30), .ref (rA 31), .ref (rA 32), .ref (rA 33), .ref (rA 34), .ref (rA 35), .int (nI ld), .int (nI gm), .ref (rA 38), .ref (rA 39), .ref (rA 40), .ref (rA 41), .ref (rA 42), .ref (rA 43), .ref (rA 44), .ref (rA 45), .int (nI my), .ref (rA 47)], la (rA 25) (rK9 25) 5 ((wrB L).1)] U.heap ∧ va_K (dC, dI) classes [((rK9 25), .long)] U ∧ va_D (fun _ => True) [oc ra 8 [.int (nI T), .int (nI Ac), .ref (rA 2), .ref (rA 3), .ref (rA 4), .ref (rA 5), .ref (rA 6), .ref (rA 7), .ref (rA 8), .ref (rA 9), .ref (rA 10), .ref (rA 11), .ref (rA 12), .ref (rA 13), .int ir, .ref (rA 15), .ref (rA 16), .ref (rA 17), .ref (rA 18), .int (nI md), .int (nI wd), .ref (rA 21), .ref (rA 22), .ref (rA 23), .int (nI mn), .ref (rA 25), .int (nI cb), .int mr, .ref (rA 28), .ref (rA 29), .ref (rA 30), .ref (rA 31), .ref (rA 32), .ref (rA 33), .ref (rA 34), .ref (rA 35), .int (nI ld), .int (nI gm), .ref (rA 38), .ref (rA 39), .ref (rA 40), .ref (rA 41), .ref (rA 42), .ref (rA 43), .ref (rA 44), .ref (rA 45), .int (nI my), .ref (rA 47)], la (rA 25) (rK9 25) 5 ((wrB L).1)] ∧ nw U)) (va_Qv (fun _ : Unit => True) (fun _ t9 => va_P (dC, dI) classes [oc ra 8 [.int (nI T), .int (nI Ac), .ref (rA 2), .ref (rA 3), .ref (rA 4), .ref (rA 5), .ref (rA 6), .ref (rA 7), .ref (rA 8), .ref (rA 9), .ref (rA 10), .ref (rA 11), .ref (rA 12), .ref (rA 13), .int ir, .ref (rA 15), .ref (rA 16), .ref (rA 17), .ref (rA 18), .int (nI md), .int (nI wd), .ref (rA 21), .ref (rA 22), .ref (rA 23), .int (nI mn), .ref (rA 25), .int (nI (szB L2)), .int mr, .ref (rA 28), .ref (rA 29), .ref (rA 30), .ref (rA 31), .ref (rA 32), .ref (rA 33), .ref (rA 34), .ref (rA 35), .int (nI ld), .int (nI gm), .ref (rA 38), .ref (rA 39), .ref (rA 40), .ref (rA 41), .ref (rA 42), .ref (rA 43), .ref (rA 44), .ref (rA 45), .int (nI my), .ref (rA 47)], la (rA 25) (rK9 25) 5 ((wrB L2).1)] t9.heap ∧ va_K (dC, dI) classes [] t9 ∧ va_D (va_A [oc ra 8 [.int (nI T), .int (nI Ac), .ref (rA 2), .ref (rA 3), .ref (rA 4), .ref (rA 5), .ref (rA 6), .ref (rA 7), .ref (rA 8), .ref (rA 9), .ref (rA 10), .ref (rA 11), .ref (rA 12), .ref (rA 13), .int ir, .ref (rA 15), .ref (rA 16), .ref (rA 17), .ref (rA 18), .int (nI md), .int (nI wd), .ref (rA 21), .ref (rA 22), .ref (rA 23), .int (nI mn), .ref (rA 25), .int (nI cb), .int mr, .ref (rA 28), .ref (rA 29), .ref (rA 30), .ref (rA 31), .ref (rA 32), .ref (rA 33), .ref (rA 34), .ref (rA 35), .int (nI ld), .int (nI gm), .ref (rA 38), .ref (rA 39), .ref (rA 40), .ref (rA 41), .ref (rA 42), .ref (rA 43), .ref (rA 44), .ref (rA 45), .int (nI my), .ref (rA 47)], la (rA 25) (rK9 25) 5 ((wrB L).1)] sz) [oc ra 8 [.int (nI T), .int (nI Ac), .ref (rA 2), .ref (rA 3), .ref (rA 4), .ref (rA 5), .ref (rA 6), .ref (rA 7), .ref (rA 8), .ref (rA 9), .ref (rA 10), .ref (rA 11), .ref (rA 12), .ref (rA 13), .int ir, .ref (rA 15), .ref (rA 16), .ref (rA 17), .ref (rA 18), .int (nI md), .int (nI wd), .ref (rA 21), .ref (rA 22), .ref (rA 23), .int (nI mn), .ref (rA 25), .int (nI (szB L2)), .int mr, .ref (rA 28), .ref (rA 29), .ref (rA 30), .ref (rA 31), .ref (rA 32), .ref (rA 33), .ref (rA 34), .ref (rA 35), .int (nI ld), .int (nI gm), .ref (rA 38), .ref (rA 39), .ref (rA 40), .ref (rA 41), .ref (rA 42), .ref (rA 43), .ref (rA 44), .ref (rA 45), .int (nI my), .ref (rA 47)], la (rA 25) (rK9 25) 5 ((wrB L2).1)]) (va_A [oc ra 8 [.int (nI T), .int (nI Ac), .ref (rA 2), .ref (rA 3), .ref (rA 4), .ref (rA 5), .ref (rA 6), .ref (rA 7), .ref (rA 8), .ref (rA 9), .ref (rA 10), .ref (rA 11), .ref (rA 12), .ref (rA 13), .int ir, .ref (rA 15), .ref (rA 16), .ref (rA 17), .ref (rA 18), .int (nI md), .int (nI wd), .ref (rA 21), .ref (rA 22), .ref (rA 23), .int (nI mn), .ref (rA 25), .int (nI cb), .int mr, .ref (rA 28), .ref (rA 29), .ref (rA 30), .ref (rA 31), .ref (rA 32), .ref (rA 33), .ref (rA 34), .ref (rA 35), .int (nI ld), .int (nI gm), .ref (rA 38), .ref (rA 39), .ref (rA 40), .ref (rA 41), .ref (rA 42), .ref (rA 43), .ref (rA 44), .ref (rA 45), .int (nI my), .ref (rA 47)], la (rA 25) (rK9 25) 5 ((wrB L).1)] sz)) 0 0 (va_A [oc ra 8 [.int (nI T), .int (nI Ac), .ref (rA 2), .ref (rA 3), .ref (rA 4), .ref (rA 5), .ref (rA 6), .ref (rA 7), .ref (rA 8), .ref (rA 9), .ref (rA 10), .ref (rA 11), .ref (rA 12), .ref (rA 13), .int ir, .ref (rA 15), .ref (rA 16), .ref (rA 17), .ref (rA 18), .int (nI md), .int (nI wd), .ref (rA 21), .ref (rA 22), .ref (rA 23), .int (nI mn), .ref (rA 25), .int (nI cb), .int mr, .ref (rA 28), .ref (rA 29), .ref (rA 30), .ref (rA 31), .ref (rA 32), .ref (rA 33), .ref (rA 34), .ref (rA 35), .int (nI ld), .int (nI gm), .ref (rA 38), .ref (rA 39), .ref (rA 40), .ref (rA 41), .ref (rA 42), .ref (rA 43), .ref (rA 44), .ref (rA 45), .int (nI my), .ref (rA 47)], la (rA 25) (rK9 25) 5 ((wrB L).1)] sz) := by
  refine Met.ofW (cc := b_Ref_bits) (maxL := 6) (ret := none) (by decide) rfl ?_
  intro p e0 s m args below meth c s₁ B hml hv
  obtain ⟨rfl, hsz, hP, hK, hD0, hn⟩ := hv
  have hx := B.exec
  have hb := B.bytes
  have hr := B.returns
  have hw := fun w (h : w ∈ wt) => atoms_spec (ws := w_Ref_bits) B.pre w (List.mem_cons_of_mem _ h)
  have hown : s.vm.findClass R_Ref = some m.cls := findClass_of_methodNamed B.named
  have hlocks := B.notSynchronized
  subst hsz
  have hD1 := hD0.self (sz := s.heap.size)
  generalize hAe : va_A [oc ra 8 [.int (nI T), .int (nI Ac), .ref (rA 2), .ref (rA 3), .ref (rA 4), .ref (rA 5), .ref (rA 6), .ref (rA 7), .ref (rA 8), .ref (rA 9), .ref (rA 10), .ref (rA 11), .ref (rA 12), .ref (rA 13), .int ir, .ref (rA 15), .ref (rA 16), .ref (rA 17), .ref (rA 18), .int (nI md), .int (nI wd), .ref (rA 21), .ref (rA 22), .ref (rA 23), .int (nI mn), .ref (rA 25), .int (nI cb), .int mr, .ref (rA 28), .ref (rA 29), .ref (rA 30), .ref (rA 31), .ref (rA 32), .ref (rA 33), .ref (rA 34), .ref (rA 35), .int (nI ld), .int (nI gm), .ref (rA 38), .ref (rA 39), .ref (rA 40), .ref (rA 41), .ref (rA 42), .ref (rA 43), .ref (rA 44), .ref (rA 45), .int (nI my), .ref (rA 47)], la (rA 25) (rK9 25) 5 ((wrB L).1)] s.heap.size = A at hD1 ⊢
  have hA : ∀ q : Nat, s.heap.size ≤ q → A q := fun q h => by rw [← hAe]; exact Or.inr h
  have hD : dd A [ra, (rA 25)] := dd_of hD1 rfl
  clear hAe hD0 hD1
  have hS : va_S A s.heap s.heap [] := va_S.rf
  replace hP : va_P (dC, dI) classes [oc ra 8 [.int (nI T), .int (nI Ac), .ref (rA 2), .ref (rA 3), .ref (rA 4), .ref (rA 5), .ref (rA 6), .ref (rA 7), .ref (rA 8), .ref (rA 9), .ref (rA 10), .ref (rA 11), .ref (rA 12), .ref (rA 13), .int ir, .ref (rA 15), .ref (rA 16), .ref (rA 17), .ref (rA 18), .int (nI md), .int (nI wd), .ref (rA 21), .ref (rA 22), .ref (rA 23), .int (nI mn), .ref (rA 25), .int (nI cb), .int mr, .ref (rA 28), .ref (rA 29), .ref (rA 30), .ref (rA 31), .ref (rA 32), .ref (rA 33), .ref (rA 34), .ref (rA 35), .int (nI ld), .int (nI gm), .ref (rA 38), .ref (rA 39), .ref (rA 40), .ref (rA 41), .ref (rA 42), .ref (rA 43), .ref (rA 44), .ref (rA 45), .int (nI my), .ref (rA 47)], la (rA 25) (rK9 25) 5 ((wrB L).1)] s.heap := hP
  have hl := lv_entry ([.ref ra, .long v, .int (nI n)]) (n := 6) (Nat.le_of_ble_eq_true rfl)
  rw [lg_entry_eq]
  generalize (lg_sl ([.ref ra, .long v, .int (nI n)]) ++ List.replicate (6 - (lg_sl ([.ref ra, .long v, .int (nI n)])).length) Slot.unset).toArray = ls at hl ⊢
  replace hl : lv_has ls 6 [(0, .ref ra), (1, .long v), (3, .int (nI n))] := hl
  have h3 : szB L2 = cb + n := by rw [hL2, szB_app, szB_1, hcb]
  have h4 : (wrB L2).1 = btF (wrB L).1 cb v n := by rw [hL2, wrB_1, hcb]
  rw [h3] at hs3 ⊢
  rw [h4]
  clear h3 h4 hL2
  refine lv_aload_n hx hb d_Ref_bits_0 rfl (lv_at hl 0 rfl) ?_
  refine va_get (D := (dC, dI)) (ci := 8) (v := .int (nI cb)) (C := R_Ref) (T := F_Ref) (N := 48) hx hb hw i_Ref hown hK hP 0 rfl rfl 26 (by decide) (hw _ m_925) (fun _ h9 => h9) rfl d_Ref_bits_1 ?_
  refine lv_bipush (v := 64) hx hb d_Ref_bits_4 (by decide) ?_
  refine lv_idiv hx hb d_Ref_bits_6 (by decide) ?_
  refine tp_i (y := nI (cb / 64)) (pk_div (a := cb) (d := 64) (by omega) (by omega) (by omega)) ?_
  refine lv_istore (lv' := [(4, .int (nI (cb / 64))), (0, .ref ra), (1, .long v), (3, .int (nI n))]) hx hb d_Ref_bits_7 hl (by decide) rfl ?_
  clear hl ls
  intro ls hl
  refine lv_aload_n hx hb d_Ref_bits_9 rfl (lv_at hl 1 rfl) ?_
  refine va_get (D := (dC, dI)) (ci := 8) (v := .int (nI cb)) (C := R_Ref) (T := F_Ref) (N := 48) hx hb hw i_Ref hown hK hP 0 rfl rfl 26 (by decide) (hw _ m_925) (fun _ h9 => h9) rfl d_Ref_bits_10 ?_
  refine lv_bipush (v := 64) hx hb d_Ref_bits_13 (by decide) ?_
  refine lv_irem hx hb d_Ref_bits_15 (by decide) ?_
  refine tp_i (y := nI (cb % 64)) (pk_rem (a := cb) (d := 64) (by omega) (by omega) (by omega)) ?_
  refine lv_istore (lv' := [(5, .int (nI (cb % 64))), (4, .int (nI (cb / 64))), (0, .ref ra), (1, .long v), (3, .int (nI n))]) hx hb d_Ref_bits_16 hl (by decide) rfl ?_
  clear hl ls
  intro ls hl
  refine lv_aload_n hx hb d_Ref_bits_18 rfl (lv_at hl 2 rfl) ?_
  refine va_get (D := (dC, dI)) (ci := 8) (v := .ref (rA 25)) (C := R_Ref) (T := F_Ref) (N := 48) hx hb hw i_Ref hown hK hP 0 rfl rfl 25 (by decide) (hw _ m_924) (fun _ h9 => h9) rfl d_Ref_bits_19 ?_
  refine lv_iload hx hb d_Ref_bits_22 (lv_at hl 1 rfl) ?_
  refine lv_dup2_11 hx hb d_Ref_bits_24 rfl rfl ?_
  refine va_lald (D := (dC, dI)) hx hb hK hP 1 0 rfl rfl (i := nI (cb / 64)) (pk_in (cb / 64) 5 (by omega)) d_Ref_bits_25 ?_
  refine tp_l (y := ((wrB L).1) (cb / 64)) (by rw [show (nI (cb / 64) : Int32).toNatClampNeg = cb / 64 from pk_cl (cb / 64)]) ?_
  refine lv_lload_n hx hb d_Ref_bits_26 rfl (lv_at hl 3 rfl) ?_
  refine lv_iload hx hb d_Ref_bits_27 (lv_at hl 0 rfl) ?_
  refine lv_lshl (v := v <<< (((nI (cb % 64)) : Int32).toInt64 &&& 63)) hx hb d_Ref_bits_29 rfl ?_
  refine lv_lor hx hb d_Ref_bits_30 ?_
  refine tp_l (y := (((wrB L).1) (cb / 64)) ||| (v <<< (((nI (cb % 64)) : Int32).toInt64 &&& 63))) rfl ?_
  refine va_last (D := (dC, dI)) hx hb hK hP (dd_D hD rfl) hS 1 0 rfl rfl (i := nI (cb / 64)) (x := (((wrB L).1) (cb / 64)) ||| (v <<< (((nI (cb % 64)) : Int32).toInt64 &&& 63))) (pk_in (cb / 64) 5 (by omega)) d_Ref_bits_31 ?_
  clear hP hS
  intro H locs hP _ hS
  rw [show (nI (cb / 64) : Int32).toNatClampNeg = cb / 64 from pk_cl (cb / 64)] at hP
  replace hP : va_P (dC, dI) classes [oc ra 8 [.int (nI T), .int (nI Ac), .ref (rA 2), .ref (rA 3), .ref (rA 4), .ref (rA 5), .ref (rA 6), .ref (rA 7), .ref (rA 8), .ref (rA 9), .ref (rA 10), .ref (rA 11), .ref (rA 12), .ref (rA 13), .int ir, .ref (rA 15), .ref (rA 16), .ref (rA 17), .ref (rA 18), .int (nI md), .int (nI wd), .ref (rA 21), .ref (rA 22), .ref (rA 23), .int (nI mn), .ref (rA 25), .int (nI cb), .int mr, .ref (rA 28), .ref (rA 29), .ref (rA 30), .ref (rA 31), .ref (rA 32), .ref (rA 33), .ref (rA 34), .ref (rA 35), .int (nI ld), .int (nI gm), .ref (rA 38), .ref (rA 39), .ref (rA 40), .ref (rA 41), .ref (rA 42), .ref (rA 43), .ref (rA 44), .ref (rA 45), .int (nI my), .ref (rA 47)], la (rA 25) (rK9 25) 5 (vp_updL ((wrB L).1) (cb / 64) ((((wrB L).1) (cb / 64)) ||| (v <<< (((nI (cb % 64)) : Int32).toInt64 &&& 63))))] H := hP
  refine tp_pc (pc' := 32) (by rfl) ?_
  refine lv_iload hx hb d_Ref_bits_32 (lv_at hl 0 rfl) ?_
  refine lv_iload_n hx hb d_Ref_bits_34 rfl (lv_at hl 4 rfl) ?_
  refine lv_iadd hx hb d_Ref_bits_35 ?_
  refine tp_i (y := nI (cb % 64 + n)) (by exact nI_add (cb % 64) n) ?_
  refine lv_bipush (v := 64) hx hb d_Ref_bits_36 (by decide) ?_
  refine lv_icmp_le (tgt := 60) hx hb d_Ref_bits_38 (by decide) (fun c1 => ?_) (fun c1 => ?_)
  · skip
    have hc1 : cb % 64 + n ≤ 64 := (nI_leI (a := cb % 64 + n) (b := 64) (by omega) (by omega)).mp c1
    refine tp_pc (pc' := 60) (by rfl) ?_
    refine lv_aload_n hx hb d_Ref_bits_60 rfl (lv_at hl 2 rfl) ?_
    refine lv_dup hx hb d_Ref_bits_61 rfl ?_
    refine va_get (D := (dC, dI)) (ci := 8) (v := .int (nI cb)) (C := R_Ref) (T := F_Ref) (N := 48) hx hb hw i_Ref hown hK hP 0 rfl rfl 26 (by decide) (hw _ m_925) (fun _ h9 => h9) rfl d_Ref_bits_62 ?_
    refine lv_iload_n hx hb d_Ref_bits_65 rfl (lv_at hl 4 rfl) ?_
    refine lv_iadd hx hb d_Ref_bits_66 ?_
    refine tp_i (y := nI (cb + n)) (by exact nI_add cb n) ?_
    refine va_put (D := (dC, dI)) (ci := 8) (v := .int (nI (cb + n))) (ty := .int) (C := R_Ref) (T := F_Ref) (N := 48) hx hb hw i_Ref t_Ref t_Ref_ok n_Ref hown hK hP (dd_D hD rfl) hS 0 rfl rfl 26 (by decide) (hw _ m_925) (fun _ h9 => h9) rfl (by decide +kernel) rfl rfl (Nat.le_of_ble_eq_true rfl) d_Ref_bits_67 ?_
    clear hP hS locs H
    intro H locs (hP : va_P (dC, dI) classes [oc ra 8 [.int (nI T), .int (nI Ac), .ref (rA 2), .ref (rA 3), .ref (rA 4), .ref (rA 5), .ref (rA 6), .ref (rA 7), .ref (rA 8), .ref (rA 9), .ref (rA 10), .ref (rA 11), .ref (rA 12), .ref (rA 13), .int ir, .ref (rA 15), .ref (rA 16), .ref (rA 17), .ref (rA 18), .int (nI md), .int (nI wd), .ref (rA 21), .ref (rA 22), .ref (rA 23), .int (nI mn), .ref (rA 25), .int (nI (cb + n)), .int mr, .ref (rA 28), .ref (rA 29), .ref (rA 30), .ref (rA 31), .ref (rA 32), .ref (rA 33), .ref (rA 34), .ref (rA 35), .int (nI ld), .int (nI gm), .ref (rA 38), .ref (rA 39), .ref (rA 40), .ref (rA 41), .ref (rA 42), .ref (rA 43), .ref (rA 44), .ref (rA 45), .int (nI my), .ref (rA 47)], la (rA 25) (rK9 25) 5 (vp_updL ((wrB L).1) (cb / 64) ((((wrB L).1) (cb / 64)) ||| (v <<< (((nI (cb % 64)) : Int32).toInt64 &&& 63))))] H) _ hS
    refine tp_pc (pc' := 70) (by rfl) ?_
    replace hP : va_P (dC, dI) classes [oc ra 8 [.int (nI T), .int (nI Ac), .ref (rA 2), .ref (rA 3), .ref (rA 4), .ref (rA 5), .ref (rA 6), .ref (rA 7), .ref (rA 8), .ref (rA 9), .ref (rA 10), .ref (rA 11), .ref (rA 12), .ref (rA 13), .int ir, .ref (rA 15), .ref (rA 16), .ref (rA 17), .ref (rA 18), .int (nI md), .int (nI wd), .ref (rA 21), .ref (rA 22), .ref (rA 23), .int (nI mn), .ref (rA 25), .int (nI (cb + n)), .int mr, .ref (rA 28), .ref (rA 29), .ref (rA 30), .ref (rA 31), .ref (rA 32), .ref (rA 33), .ref (rA 34), .ref (rA 35), .int (nI ld), .int (nI gm), .ref (rA 38), .ref (rA 39), .ref (rA 40), .ref (rA 41), .ref (rA 42), .ref (rA 43), .ref (rA 44), .ref (rA 45), .int (nI my), .ref (rA 47)], la (rA 25) (rK9 25) 5 (vp_updL (wrB L).1 (cb / 64) ((wrB L).1 (cb / 64) ||| (v <<< ((nI (cb % 64) : Int32).toInt64 &&& 63))))] H := hP
    rw [show vp_updL (wrB L).1 (cb / 64) ((wrB L).1 (cb / 64) ||| (v <<< ((nI (cb % 64) : Int32).toInt64 &&& 63))) = btF (wrB L).1 cb v n from by unfold btF; rw [if_pos hc1]] at hP
    replace hP : va_P (dC, dI) classes [oc ra 8 [.int (nI T), .int (nI Ac), .ref (rA 2), .ref (rA 3), .ref (rA 4), .ref (rA 5), .ref (rA 6), .ref (rA 7), .ref (rA 8), .ref (rA 9), .ref (rA 10), .ref (rA 11), .ref (rA 12), .ref (rA 13), .int ir, .ref (rA 15), .ref (rA 16), .ref (rA 17), .ref (rA 18), .int (nI md), .int (nI wd), .ref (rA 21), .ref (rA 22), .ref (rA 23), .int (nI mn), .ref (rA 25), .int (nI (cb + n)), .int mr, .ref (rA 28), .ref (rA 29), .ref (rA 30), .ref (rA 31), .ref (rA 32), .ref (rA 33), .ref (rA 34), .ref (rA 35), .int (nI ld), .int (nI gm), .ref (rA 38), .ref (rA 39), .ref (rA 40), .ref (rA 41), .ref (rA 42), .ref (rA 43), .ref (rA 44), .ref (rA 45), .int (nI my), .ref (rA 47)], la (rA 25) (rK9 25) 5 (btF (wrB L).1 cb v n)] H := hP
    obtain ⟨hP9, hD9, -⟩ := cut3 (wc := [oc ra 8 [.int (nI T), .int (nI Ac), .ref (rA 2), .ref (rA 3), .ref (rA 4), .ref (rA 5), .ref (rA 6), .ref (rA 7), .ref (rA 8), .ref (rA 9), .ref (rA 10), .ref (rA 11), .ref (rA 12), .ref (rA 13), .int ir, .ref (rA 15), .ref (rA 16), .ref (rA 17), .ref (rA 18), .int (nI md), .int (nI wd), .ref (rA 21), .ref (rA 22), .ref (rA 23), .int (nI mn), .ref (rA 25), .int (nI (cb + n)), .int mr, .ref (rA 28), .ref (rA 29), .ref (rA 30), .ref (rA 31), .ref (rA 32), .ref (rA 33), .ref (rA 34), .ref (rA 35), .int (nI ld), .int (nI gm), .ref (rA 38), .ref (rA 39), .ref (rA 40), .ref (rA 41), .ref (rA 42), .ref (rA 43), .ref (rA 44), .ref (rA 45), .int (nI my), .ref (rA 47)], la (rA 25) (rK9 25) 5 (btF (wrB L).1 cb v n)]) hP hD rfl hS hA [0, 1] (by decide +kernel) rfl
    have hK9 := hK.sub (tys' := []) [] rfl
    refine W.widen (k := 0) (n := 0) (by exact Nat.le_of_ble_eq_true rfl) (by exact Nat.le_of_ble_eq_true rfl) ?_
    exact W.vret hx hb hr (fun t9 ht9 hW => ⟨⟨(), rfl, trivial, by rw [ht9]; exact hP9, va_K.moved hW.alike hK9, hD9⟩, hS.F ht9⟩) hS.2.2 d_Ref_bits_70
  · skip
    have hc1 : ¬ (cb % 64 + n ≤ 64) := fun q9 => c1 ((nI_leI (a := cb % 64 + n) (b := 64) (by omega) (by omega)).mpr q9)
    refine tp_pc (pc' := 41) (by rfl) ?_
    refine lv_aload_n hx hb d_Ref_bits_41 rfl (lv_at hl 2 rfl) ?_
    refine va_get (D := (dC, dI)) (ci := 8) (v := .ref (rA 25)) (C := R_Ref) (T := F_Ref) (N := 48) hx hb hw i_Ref hown hK hP 0 rfl rfl 25 (by decide) (hw _ m_924) (fun _ h9 => h9) rfl d_Ref_bits_42 ?_
    refine lv_iload hx hb d_Ref_bits_45 (lv_at hl 1 rfl) ?_
    refine lv_iconst (v := 1) hx hb d_Ref_bits_47 (by decide) ?_
    refine lv_iadd hx hb d_Ref_bits_48 ?_
    refine tp_i (y := nI (cb / 64 + 1)) (by exact nI_add (cb / 64) 1) ?_
    refine lv_dup2_11 hx hb d_Ref_bits_49 rfl rfl ?_
    refine va_lald (D := (dC, dI)) hx hb hK hP 1 0 rfl rfl (i := nI (cb / 64 + 1)) (pk_in (cb / 64 + 1) 5 (by omega)) d_Ref_bits_50 ?_
    refine tp_l (y := (vp_updL ((wrB L).1) (cb / 64) ((((wrB L).1) (cb / 64)) ||| (v <<< (((nI (cb % 64)) : Int32).toInt64 &&& 63)))) (cb / 64 + 1)) (by rw [show (nI (cb / 64 + 1) : Int32).toNatClampNeg = cb / 64 + 1 from pk_cl (cb / 64 + 1)]) ?_
    refine lv_lload_n hx hb d_Ref_bits_51 rfl (lv_at hl 3 rfl) ?_
    refine lv_bipush (v := 64) hx hb d_Ref_bits_52 (by decide) ?_
    refine lv_iload hx hb d_Ref_bits_54 (lv_at hl 0 rfl) ?_
    refine lv_isub hx hb d_Ref_bits_56 ?_
    refine tp_i (y := nI (64 - (cb % 64))) (by exact pk_sub (a := 64) (b := cb % 64) (by omega)) ?_
    refine lv_lushr (v := (v.toUInt64 >>> (((nI (64 - (cb % 64))) : Int32).toInt64.toUInt64 &&& Int64.toUInt64 63)).toInt64) hx hb d_Ref_bits_57 rfl ?_
    refine lv_lor hx hb d_Ref_bits_58 ?_
    refine tp_l (y := ((vp_updL ((wrB L).1) (cb / 64) ((((wrB L).1) (cb / 64)) ||| (v <<< (((nI (cb % 64)) : Int32).toInt64 &&& 63)))) (cb / 64 + 1)) ||| ((v.toUInt64 >>> (((nI (64 - (cb % 64))) : Int32).toInt64.toUInt64 &&& Int64.toUInt64 63)).toInt64)) rfl ?_
    refine va_last (D := (dC, dI)) hx hb hK hP (dd_D hD rfl) hS 1 0 rfl rfl (i := nI (cb / 64 + 1)) (x := ((vp_updL ((wrB L).1) (cb / 64) ((((wrB L).1) (cb / 64)) ||| (v <<< (((nI (cb % 64)) : Int32).toInt64 &&& 63)))) (cb / 64 + 1)) ||| ((v.toUInt64 >>> (((nI (64 - (cb % 64))) : Int32).toInt64.toUInt64 &&& Int64.toUInt64 63)).toInt64)) (pk_in (cb / 64 + 1) 5 (by omega)) d_Ref_bits_59 ?_
    clear hP hS locs H
    intro H locs hP _ hS
    rw [show (nI (cb / 64 + 1) : Int32).toNatClampNeg = cb / 64 + 1 from pk_cl (cb / 64 + 1)] at hP
    replace hP : va_P (dC, dI) classes [oc ra 8 [.int (nI T), .int (nI Ac), .ref (rA 2), .ref (rA 3), .ref (rA 4), .ref (rA 5), .ref (rA 6), .ref (rA 7), .ref (rA 8), .ref (rA 9), .ref (rA 10), .ref (rA 11), .ref (rA 12), .ref (rA 13), .int ir, .ref (rA 15), .ref (rA 16), .ref (rA 17), .ref (rA 18), .int (nI md), .int (nI wd), .ref (rA 21), .ref (rA 22), .ref (rA 23), .int (nI mn), .ref (rA 25), .int (nI cb), .int mr, .ref (rA 28), .ref (rA 29), .ref (rA 30), .ref (rA 31), .ref (rA 32), .ref (rA 33), .ref (rA 34), .ref (rA 35), .int (nI ld), .int (nI gm), .ref (rA 38), .ref (rA 39), .ref (rA 40), .ref (rA 41), .ref (rA 42), .ref (rA 43), .ref (rA 44), .ref (rA 45), .int (nI my), .ref (rA 47)], la (rA 25) (rK9 25) 5 (vp_updL (vp_updL ((wrB L).1) (cb / 64) ((((wrB L).1) (cb / 64)) ||| (v <<< (((nI (cb % 64)) : Int32).toInt64 &&& 63)))) (cb / 64 + 1) (((vp_updL ((wrB L).1) (cb / 64) ((((wrB L).1) (cb / 64)) ||| (v <<< (((nI (cb % 64)) : Int32).toInt64 &&& 63)))) (cb / 64 + 1)) ||| ((v.toUInt64 >>> (((nI (64 - (cb % 64))) : Int32).toInt64.toUInt64 &&& Int64.toUInt64 63)).toInt64)))] H := hP
    refine tp_pc (pc' := 60) (by rfl) ?_
    refine lv_aload_n hx hb d_Ref_bits_60 rfl (lv_at hl 2 rfl) ?_
    refine lv_dup hx hb d_Ref_bits_61 rfl ?_
    refine va_get (D := (dC, dI)) (ci := 8) (v := .int (nI cb)) (C := R_Ref) (T := F_Ref) (N := 48) hx hb hw i_Ref hown hK hP 0 rfl rfl 26 (by decide) (hw _ m_925) (fun _ h9 => h9) rfl d_Ref_bits_62 ?_
    refine lv_iload_n hx hb d_Ref_bits_65 rfl (lv_at hl 4 rfl) ?_
    refine lv_iadd hx hb d_Ref_bits_66 ?_
    refine tp_i (y := nI (cb + n)) (by exact nI_add cb n) ?_
    refine va_put (D := (dC, dI)) (ci := 8) (v := .int (nI (cb + n))) (ty := .int) (C := R_Ref) (T := F_Ref) (N := 48) hx hb hw i_Ref t_Ref t_Ref_ok n_Ref hown hK hP (dd_D hD rfl) hS 0 rfl rfl 26 (by decide) (hw _ m_925) (fun _ h9 => h9) rfl (by decide +kernel) rfl rfl (Nat.le_of_ble_eq_true rfl) d_Ref_bits_67 ?_
    clear hP hS locs H
    intro H locs (hP : va_P (dC, dI) classes [oc ra 8 [.int (nI T), .int (nI Ac), .ref (rA 2), .ref (rA 3), .ref (rA 4), .ref (rA 5), .ref (rA 6), .ref (rA 7), .ref (rA 8), .ref (rA 9), .ref (rA 10), .ref (rA 11), .ref (rA 12), .ref (rA 13), .int ir, .ref (rA 15), .ref (rA 16), .ref (rA 17), .ref (rA 18), .int (nI md), .int (nI wd), .ref (rA 21), .ref (rA 22), .ref (rA 23), .int (nI mn), .ref (rA 25), .int (nI (cb + n)), .int mr, .ref (rA 28), .ref (rA 29), .ref (rA 30), .ref (rA 31), .ref (rA 32), .ref (rA 33), .ref (rA 34), .ref (rA 35), .int (nI ld), .int (nI gm), .ref (rA 38), .ref (rA 39), .ref (rA 40), .ref (rA 41), .ref (rA 42), .ref (rA 43), .ref (rA 44), .ref (rA 45), .int (nI my), .ref (rA 47)], la (rA 25) (rK9 25) 5 (vp_updL (vp_updL ((wrB L).1) (cb / 64) ((((wrB L).1) (cb / 64)) ||| (v <<< (((nI (cb % 64)) : Int32).toInt64 &&& 63)))) (cb / 64 + 1) (((vp_updL ((wrB L).1) (cb / 64) ((((wrB L).1) (cb / 64)) ||| (v <<< (((nI (cb % 64)) : Int32).toInt64 &&& 63)))) (cb / 64 + 1)) ||| ((v.toUInt64 >>> (((nI (64 - (cb % 64))) : Int32).toInt64.toUInt64 &&& Int64.toUInt64 63)).toInt64)))] H) _ hS
    refine tp_pc (pc' := 70) (by rfl) ?_
    replace hP : va_P (dC, dI) classes [oc ra 8 [.int (nI T), .int (nI Ac), .ref (rA 2), .ref (rA 3), .ref (rA 4), .ref (rA 5), .ref (rA 6), .ref (rA 7), .ref (rA 8), .ref (rA 9), .ref (rA 10), .ref (rA 11), .ref (rA 12), .ref (rA 13), .int ir, .ref (rA 15), .ref (rA 16), .ref (rA 17), .ref (rA 18), .int (nI md), .int (nI wd), .ref (rA 21), .ref (rA 22), .ref (rA 23), .int (nI mn), .ref (rA 25), .int (nI (cb + n)), .int mr, .ref (rA 28), .ref (rA 29), .ref (rA 30), .ref (rA 31), .ref (rA 32), .ref (rA 33), .ref (rA 34), .ref (rA 35), .int (nI ld), .int (nI gm), .ref (rA 38), .ref (rA 39), .ref (rA 40), .ref (rA 41), .ref (rA 42), .ref (rA 43), .ref (rA 44), .ref (rA 45), .int (nI my), .ref (rA 47)], la (rA 25) (rK9 25) 5 (vp_updL (vp_updL (wrB L).1 (cb / 64) ((wrB L).1 (cb / 64) ||| (v <<< ((nI (cb % 64) : Int32).toInt64 &&& 63)))) (cb / 64 + 1) ((vp_updL (wrB L).1 (cb / 64) ((wrB L).1 (cb / 64) ||| (v <<< ((nI (cb % 64) : Int32).toInt64 &&& 63)))) (cb / 64 + 1) ||| (v.toUInt64 >>> ((nI (64 - cb % 64) : Int32).toInt64.toUInt64 &&& Int64.toUInt64 63)).toInt64))] H := hP
    rw [show vp_updL (vp_updL (wrB L).1 (cb / 64) ((wrB L).1 (cb / 64) ||| (v <<< ((nI (cb % 64) : Int32).toInt64 &&& 63)))) (cb / 64 + 1) ((vp_updL (wrB L).1 (cb / 64) ((wrB L).1 (cb / 64) ||| (v <<< ((nI (cb % 64) : Int32).toInt64 &&& 63)))) (cb / 64 + 1) ||| (v.toUInt64 >>> ((nI (64 - cb % 64) : Int32).toInt64.toUInt64 &&& Int64.toUInt64 63)).toInt64) = btF (wrB L).1 cb v n from by unfold btF; rw [if_neg hc1]] at hP
    replace hP : va_P (dC, dI) classes [oc ra 8 [.int (nI T), .int (nI Ac), .ref (rA 2), .ref (rA 3), .ref (rA 4), .ref (rA 5), .ref (rA 6), .ref (rA 7), .ref (rA 8), .ref (rA 9), .ref (rA 10), .ref (rA 11), .ref (rA 12), .ref (rA 13), .int ir, .ref (rA 15), .ref (rA 16), .ref (rA 17), .ref (rA 18), .int (nI md), .int (nI wd), .ref (rA 21), .ref (rA 22), .ref (rA 23), .int (nI mn), .ref (rA 25), .int (nI (cb + n)), .int mr, .ref (rA 28), .ref (rA 29), .ref (rA 30), .ref (rA 31), .ref (rA 32), .ref (rA 33), .ref (rA 34), .ref (rA 35), .int (nI ld), .int (nI gm), .ref (rA 38), .ref (rA 39), .ref (rA 40), .ref (rA 41), .ref (rA 42), .ref (rA 43), .ref (rA 44), .ref (rA 45), .int (nI my), .ref (rA 47)], la (rA 25) (rK9 25) 5 (btF (wrB L).1 cb v n)] H := hP
    obtain ⟨hP9, hD9, -⟩ := cut3 (wc := [oc ra 8 [.int (nI T), .int (nI Ac), .ref (rA 2), .ref (rA 3), .ref (rA 4), .ref (rA 5), .ref (rA 6), .ref (rA 7), .ref (rA 8), .ref (rA 9), .ref (rA 10), .ref (rA 11), .ref (rA 12), .ref (rA 13), .int ir, .ref (rA 15), .ref (rA 16), .ref (rA 17), .ref (rA 18), .int (nI md), .int (nI wd), .ref (rA 21), .ref (rA 22), .ref (rA 23), .int (nI mn), .ref (rA 25), .int (nI (cb + n)), .int mr, .ref (rA 28), .ref (rA 29), .ref (rA 30), .ref (rA 31), .ref (rA 32), .ref (rA 33), .ref (rA 34), .ref (rA 35), .int (nI ld), .int (nI gm), .ref (rA 38), .ref (rA 39), .ref (rA 40), .ref (rA 41), .ref (rA 42), .ref (rA 43), .ref (rA 44), .ref (rA 45), .int (nI my), .ref (rA 47)], la (rA 25) (rK9 25) 5 (btF (wrB L).1 cb v n)]) hP hD rfl hS hA [0, 1] (by decide +kernel) rfl
    have hK9 := hK.sub (tys' := []) [] rfl
    refine W.widen (k := 0) (n := 0) (by exact Nat.le_of_ble_eq_true rfl) (by exact Nat.le_of_ble_eq_true rfl) ?_
    exact W.vret hx hb hr (fun t9 ht9 hW => ⟨⟨(), rfl, trivial, by rw [ht9]; exact hP9, va_K.moved hW.alike hK9, hD9⟩, hS.F ht9⟩) hS.2.2 d_Ref_bits_70
