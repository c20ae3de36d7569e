theorem mN_1 {n : Nat} : mN (n + 1) = nI n := by rw [mN_s (Nat.succ_ne_zero n)]; rfl
theorem mN_inj {a b : Nat} (ha : a ≤ 28) (hb : b ≤ 28) : mN a = mN b ↔ a = b := by
  constructor
  · intro h
    unfold mN at h
    by_cases c1 : a = 0
    · rw [if_pos c1] at h
      by_cases c2 : b = 0
      · omega
      · rw [if_neg c2] at h; exact absurd h.symm (nI_m1 (b - 1) (by omega))
    · rw [if_neg c1] at h
      by_cases c2 : b = 0
      · rw [if_pos c2] at h; exact absurd h (nI_m1 (a - 1) (by omega))
      · rw [if_neg c2] at h; have := (nI_eq (by omega) (by omega)).mp h; omega
  · intro h; rw [h]
/-- an ADD's source is no other ADD's before it in the list -/
abbrev frP (kd li fm : Nat → Nat) (k : Nat) : Prop := ¬ kd (li k) = 3 ∨ fm (li k) = 0 ∨ fF (fun q => decide (kd (li q) = 3 ∧ fm (li q) = fm (li k))) k 0 = 0
abbrev ofP (gm : Nat) (kd vx hp : Nat → Nat) (a x : Nat) : Prop := hp a = 1 ∧ ((x < 3 ∧ (1 ≤ kd a ∧ kd a ≤ 3) ∧ vx a = x) ∨ (x = 3 ∧ gm = 3 ∧ kd a = 4))
def lsN (rx rs : Nat → Nat) (x : Nat) : Nat := if rs x = 0 then 0 else rx (7 * x + (rs x - 1)) + 1
def inRw (rx rs : Nat → Nat) (a x : Nat) : Nat := fF (fun j => rx (7 * x + j) == a) (rs x) 0
abbrev mfP (kd vx li fm hp rx rs : Nat → Nat) (ld a x : Nat) : Prop := x = 3 ∨ (kd a = 3 ∧ fm a = lsN rx rs x) ∨ (¬ kd a = 3 ∧ fF (fun k => decide (kd (li k) = 3 ∧ hp (li k) = 1 ∧ vx (li k) = x ∧ fm (li k) = lsN rx rs x ∧ inRw rx rs (li k) x = 0)) ld 0 = 0)
/-- the action with a number -/
def aoN (T : Nat) (zs hp nu : Nat → Nat) (n : Nat) : Nat := fF (fun a => decide (a / 7 < T ∧ a % 7 < zs (a / 7) ∧ hp a = 1 ∧ nu a = n)) 28 0
/-- what a takes from w: the pairs by SEEN, along its row -/
def tkN (rx nu : Nat → Nat) (x a w9 : Nat) (sn : Nat → Nat) : Nat → Bool × (Nat → Nat)
  | 0 => (w9 == 0, sn)
  | i + 1 => ((tkN rx nu x a w9 sn i).1 || rx (7 * x + i) + 1 == w9, if (tkN rx nu x a w9 sn i).1 = true ∧ ¬ rx (7 * x + i) = a then updN (tkN rx nu x a w9 sn i).2 (nu a) ((tkN rx nu x a w9 sn i).2 (nu a) ||| 2 ^ nu (rx (7 * x + i))) else (tkN rx nu x a w9 sn i).2)
theorem or_bit {a k : Nat} (ha : a < 128) (hk : k < 7) : a ||| 2 ^ k < 128 := Nat.or_lt_two_pow (n := 7) ha (Nat.lt_of_lt_of_le (Nat.pow_lt_pow_right (by decide) hk) (Nat.le_refl _))
theorem tkN_lt {rx nu : Nat → Nat} {x a w9 : Nat} {sn : Nat → Nat} (hs : ∀ i, sn i < 128) (hn : ∀ i, i < 28 → nu i < 7) (hr : ∀ i, i < 28 → rx i < 28) (hx : x < 4) : ∀ i, i ≤ 7 → ∀ j, (tkN rx nu x a w9 sn i).2 j < 128
  | 0, _, j => hs j
  | i + 1, hi, j => by
    unfold tkN
    show (if _ then _ else _ : Nat → Nat) j < 128
    split
    · unfold updN; dsimp only; split
      · exact or_bit (tkN_lt hs hn hr hx i (by omega) _) (hn _ (hr _ (by omega)))
      · exact tkN_lt hs hn hr hx i (by omega) j
    · exact tkN_lt hs hn hr hx i (by omega) j
set_option maxHeartbeats 4000000 in
set_option maxRecDepth 100000 in
theorem gen_Ref_isFreeFrom (l : Launch) (dC : Nat → ClassId) (dI : Nat → Nat → Nat) (ra : Nat) (rA : Nat → Nat) (rK9 : Nat → ClassId) (T Ac md wd mn cb ld gm my : Nat) (ir mr : Int32) (k : Nat) (li kd fm : Nat → Nat) (hk7 : k < 7) (hli : ∀ q, q < 7 → li q < 28) (hkd : ∀ i, i < 28 → kd i < 6) (hfm : ∀ i, i < 28 → fm i ≤ 28) (sz : Nat) : Met l y_Ref_isFreeFrom w_Ref_isFreeFrom ({ frames := 0, cells := 0, slots := 0, locals := 0 }) (va_Pc [.ref ra, .int (nI k)] (fun U => U.heap.size = sz ∧ va_P (dC, dI) classes [oc ra 8 [.int (nI T), .int (nI Ac), .ref (rA 2), .ref (rA 3), .ref (rA 4), .ref (rA 5), .ref (rA 6), .ref (rA 7), .ref (rA 8), .ref (rA 9), .ref (rA 10), .ref (rA 11), .ref (rA 12), .ref (rA 13), .int ir, .ref (rA 15), .ref (rA 16), .ref (rA 17), .ref (rA 18), .int (nI md), .int (nI wd), .ref (rA 21), .ref (rA 22), .ref (rA 23), .int (nI mn), .ref (rA 25), .int (nI cb), .int mr, .ref (rA 28), .ref (rA 29), .ref (rA 30), .ref (rA 31), .ref (rA 32), .ref (rA 33), .ref (rA 34), .ref (rA 35), .int (nI ld), .int (nI gm), .ref (rA 38), .ref (rA 39), .ref (rA 40), .ref (rA 41), .ref (rA 42), .ref (rA 43), .ref (rA 44), .ref (rA 45), .int (nI my), .ref (rA 47)], ia (rA 35) (rK9 35) 7 (fun i => nI (li i)), ia (rA 3) (rK9 3) 28 (fun i => nI (kd i)), ia (rA 29) (rK9 29) 28 (fun i0 => mN (fm i0))] U.heap ∧ va_K (dC, dI) classes [((rK9 35), .int), ((rK9 3), .int), ((rK9 29), .int)] U ∧ va_D (fun _ => True) [oc ra 8 [.int (nI T), .int (nI Ac), .ref (rA 2), .ref (rA 3), .ref (rA 4), .ref (rA 5), .ref (rA 6), .ref (rA 7), .ref (rA 8), .ref (rA 9), .ref (rA 10), .ref (rA 11), .ref (rA 12), .ref (rA 13), .int ir, .ref (rA 15), .ref (rA 16), .ref (rA 17), .ref (rA 18), .int (nI md), .int (nI wd), .ref (rA 21), .ref (rA 22), .ref (rA 23), .int (nI mn), .ref (rA 25), .int (nI cb), .int mr, .ref (rA 28), .ref (rA 29), .ref (rA 30), .ref (rA 31), .ref (rA 32), .ref (rA 33), .ref (rA 34), .ref (rA 35), .int (nI ld), .int (nI gm), .ref (rA 38), .ref (rA 39), .ref (rA 40), .ref (rA 41), .ref (rA 42), .ref (rA 43), .ref (rA 44), .ref (rA 45), .int (nI my), .ref (rA 47)], ia (rA 35) (rK9 35) 7 (fun i => nI (li i)), ia (rA 3) (rK9 3) 28 (fun i => nI (kd i)), ia (rA 29) (rK9 29) 28 (fun i0 => mN (fm i0))] ∧ nw U)) (va_Qi (fun (r : Int32) (_ : Unit) => r = if frP kd li fm k then 1 else 0) (fun _ t9 => va_P (dC, dI) classes [oc ra 8 [.int (nI T), .int (nI Ac), .ref (rA 2), .ref (rA 3), .ref (rA 4), .ref (rA 5), .ref (rA 6), .ref (rA 7), .ref (rA 8), .ref (rA 9), .ref (rA 10), .ref (rA 11), .ref (rA 12), .ref (rA 13), .int ir, .ref (rA 15), .ref (rA 16), .ref (rA 17), .ref (rA 18), .int (nI md), .int (nI wd), .ref (rA 21), .ref (rA 22), .ref (rA 23), .int (nI mn), .ref (rA 25), .int (nI cb), .int mr, .ref (rA 28), .ref (rA 29), .ref (rA 30), .ref (rA 31), .ref (rA 32), .ref (rA 33), .ref (rA 34), .ref (rA 35), .int (nI ld), .int (nI gm), .ref (rA 38), .ref (rA 39), .ref (rA 40), .ref (rA 41), .ref (rA 42), .ref (rA 43), .ref (rA 44), .ref (rA 45), .int (nI my), .ref (rA 47)], ia (rA 35) (rK9 35) 7 (fun i => nI (li i)), ia (rA 3) (rK9 3) 28 (fun i => nI (kd i)), ia (rA 29) (rK9 29) 28 (fun i0 => mN (fm i0))] t9.heap ∧ va_K (dC, dI) classes [] t9 ∧ va_D (va_A [oc ra 8 [.int (nI T), .int (nI Ac), .ref (rA 2), .ref (rA 3), .ref (rA 4), .ref (rA 5), .ref (rA 6), .ref (rA 7), .ref (rA 8), .ref (rA 9), .ref (rA 10), .ref (rA 11), .ref (rA 12), .ref (rA 13), .int ir, .ref (rA 15), .ref (rA 16), .ref (rA 17), .ref (rA 18), .int (nI md), .int (nI wd), .ref (rA 21), .ref (rA 22), .ref (rA 23), .int (nI mn), .ref (rA 25), .int (nI cb), .int mr, .ref (rA 28), .ref (rA 29), .ref (rA 30), .ref (rA 31), .ref (rA 32), .ref (rA 33), .ref (rA 34), .ref (rA 35), .int (nI ld), .int (nI gm), .ref (rA 38), .ref (rA 39), .ref (rA 40), .ref (rA 41), .ref (rA 42), .ref (rA 43), .ref (rA 44), .ref (rA 45), .int (nI my), .ref (rA 47)], ia (rA 35) (rK9 35) 7 (fun i => nI (li i)), ia (rA 3) (rK9 3) 28 (fun i => nI (kd i)), ia (rA 29) (rK9 29) 28 (fun i0 => mN (fm i0))] sz) [oc ra 8 [.int (nI T), .int (nI Ac), .ref (rA 2), .ref (rA 3), .ref (rA 4), .ref (rA 5), .ref (rA 6), .ref (rA 7), .ref (rA 8), .ref (rA 9), .ref (rA 10), .ref (rA 11), .ref (rA 12), .ref (rA 13), .int ir, .ref (rA 15), .ref (rA 16), .ref (rA 17), .ref (rA 18), .int (nI md), .int (nI wd), .ref (rA 21), .ref (rA 22), .ref (rA 23), .int (nI mn), .ref (rA 25), .int (nI cb), .int mr, .ref (rA 28), .ref (rA 29), .ref (rA 30), .ref (rA 31), .ref (rA 32), .ref (rA 33), .ref (rA 34), .ref (rA 35), .int (nI ld), .int (nI gm), .ref (rA 38), .ref (rA 39), .ref (rA 40), .ref (rA 41), .ref (rA 42), .ref (rA 43), .ref (rA 44), .ref (rA 45), .int (nI my), .ref (rA 47)], ia (rA 35) (rK9 35) 7 (fun i => nI (li i)), ia (rA 3) (rK9 3) 28 (fun i => nI (kd i)), ia (rA 29) (rK9 29) 28 (fun i0 => mN (fm i0))]) (va_A [oc ra 8 [.int (nI T), .int (nI Ac), .ref (rA 2), .ref (rA 3), .ref (rA 4), .ref (rA 5), .ref (rA 6), .ref (rA 7), .ref (rA 8), .ref (rA 9), .ref (rA 10), .ref (rA 11), .ref (rA 12), .ref (rA 13), .int ir, .ref (rA 15), .ref (rA 16), .ref (rA 17), .ref (rA 18), .int (nI md), .int (nI wd), .ref (rA 21), .ref (rA 22), .ref (rA 23), .int (nI mn), .ref (rA 25), .int (nI cb), .int mr, .ref (rA 28), .ref (rA 29), .ref (rA 30), .ref (rA 31), .ref (rA 32), .ref (rA 33), .ref (rA 34), .ref (rA 35), .int (nI ld), .int (nI gm), .ref (rA 38), .ref (rA 39), .ref (rA 40), .ref (rA 41), .ref (rA 42), .ref (rA 43), .ref (rA 44), .ref (rA 45), .int (nI my), .ref (rA 47)], ia (rA 35) (rK9 35) 7 (fun i => nI (li i)), ia (rA 3) (rK9 3) 28 (fun i => nI (kd i)), ia (rA 29) (rK9 29) 28 (fun i0 => mN (fm i0))] sz)) 0 0 (va_A [oc ra 8 [.int (nI T), .int (nI Ac), .ref (rA 2), .ref (rA 3), .ref (rA 4), .ref (rA 5), .ref (rA 6), .ref (rA 7), .ref (rA 8), .ref (rA 9), .ref (rA 10), .ref (rA 11), .ref (rA 12), .ref (rA 13), .int ir, .ref (rA 15), .ref (rA 16), .ref (rA 17), .ref (rA 18), .int (nI md), .int (nI wd), .ref (rA 21), .ref (rA 22), .ref (rA 23), .int (nI mn), .ref (rA 25), .int (nI cb), .int mr, .ref (rA 28), .ref (rA 29), .ref (rA 30), .ref (rA 31), .ref (rA 32), .ref (rA 33), .ref (rA 34), .ref (rA 35), .int (nI ld), .int (nI gm), .ref (rA 38), .ref (rA 39), .ref (rA 40), .ref (rA 41), .ref (rA 42), .ref (rA 43), .ref (rA 44), .ref (rA 45), .int (nI my), .ref (rA 47)], ia (rA 35) (rK9 35) 7 (fun i => nI (li i)), ia (rA 3) (rK9 3) 28 (fun i => nI (kd i)), ia (rA 29) (rK9 29) 28 (fun i0 => mN (fm i0))] sz) := by
  refine Met.ofW (cc := b_Ref_isFreeFrom) (maxL := 4) (ret := (some .boolean)) (by decide) rfl ?_
  intro p e0 s m args below meth c s₁ B hml hv
  obtain ⟨rfl, hsz, hP, hK, hD0, hn⟩ := hv
  have hx := B.exec
  have hb := B.bytes
  have hr := B.returns
  have hw := fun w (h : w ∈ wt) => atoms_spec (ws := w_Ref_isFreeFrom) B.pre w (List.mem_cons_of_mem _ h)
  have hown : s.vm.findClass R_Ref = some m.cls := findClass_of_methodNamed B.named
  have hlocks := B.notSynchronized
  subst hsz
  have hD1 := hD0.self (sz := s.heap.size)
  generalize hAe : va_A [oc ra 8 [.int (nI T), .int (nI Ac), .ref (rA 2), .ref (rA 3), .ref (rA 4), .ref (rA 5), .ref (rA 6), .ref (rA 7), .ref (rA 8), .ref (rA 9), .ref (rA 10), .ref (rA 11), .ref (rA 12), .ref (rA 13), .int ir, .ref (rA 15), .ref (rA 16), .ref (rA 17), .ref (rA 18), .int (nI md), .int (nI wd), .ref (rA 21), .ref (rA 22), .ref (rA 23), .int (nI mn), .ref (rA 25), .int (nI cb), .int mr, .ref (rA 28), .ref (rA 29), .ref (rA 30), .ref (rA 31), .ref (rA 32), .ref (rA 33), .ref (rA 34), .ref (rA 35), .int (nI ld), .int (nI gm), .ref (rA 38), .ref (rA 39), .ref (rA 40), .ref (rA 41), .ref (rA 42), .ref (rA 43), .ref (rA 44), .ref (rA 45), .int (nI my), .ref (rA 47)], ia (rA 35) (rK9 35) 7 (fun i => nI (li i)), ia (rA 3) (rK9 3) 28 (fun i => nI (kd i)), ia (rA 29) (rK9 29) 28 (fun i0 => mN (fm i0))] s.heap.size = A at hD1 ⊢
  have hA : ∀ q : Nat, s.heap.size ≤ q → A q := fun q h => by rw [← hAe]; exact Or.inr h
  have hD : dd A [ra, (rA 35), (rA 3), (rA 29)] := dd_of hD1 rfl
  clear hAe hD0 hD1
  have hS : va_S A s.heap s.heap [] := va_S.rf
  replace hP : va_P (dC, dI) classes [oc ra 8 [.int (nI T), .int (nI Ac), .ref (rA 2), .ref (rA 3), .ref (rA 4), .ref (rA 5), .ref (rA 6), .ref (rA 7), .ref (rA 8), .ref (rA 9), .ref (rA 10), .ref (rA 11), .ref (rA 12), .ref (rA 13), .int ir, .ref (rA 15), .ref (rA 16), .ref (rA 17), .ref (rA 18), .int (nI md), .int (nI wd), .ref (rA 21), .ref (rA 22), .ref (rA 23), .int (nI mn), .ref (rA 25), .int (nI cb), .int mr, .ref (rA 28), .ref (rA 29), .ref (rA 30), .ref (rA 31), .ref (rA 32), .ref (rA 33), .ref (rA 34), .ref (rA 35), .int (nI ld), .int (nI gm), .ref (rA 38), .ref (rA 39), .ref (rA 40), .ref (rA 41), .ref (rA 42), .ref (rA 43), .ref (rA 44), .ref (rA 45), .int (nI my), .ref (rA 47)], ia (rA 35) (rK9 35) 7 (fun i => nI (li i)), ia (rA 3) (rK9 3) 28 (fun i => nI (kd i)), ia (rA 29) (rK9 29) 28 (fun i0 => mN (fm i0))] s.heap := hP
  have hl := lv_entry ([.ref ra, .int (nI k)]) (n := 4) (Nat.le_of_ble_eq_true rfl)
  rw [lg_entry_eq]
  generalize (lg_sl ([.ref ra, .int (nI k)]) ++ List.replicate (4 - (lg_sl ([.ref ra, .int (nI k)])).length) Slot.unset).toArray = ls at hl ⊢
  replace hl : lv_has ls 4 [(0, .ref ra), (1, .int (nI k))] := hl
  have hlk := hli k hk7
  have hkk := hkd (li k) hlk
  have hfk := hfm (li k) hlk
  refine lv_aload_n hx hb d_Ref_isFreeFrom_0 rfl (lv_at hl 0 rfl) ?_
  refine va_get (D := (dC, dI)) (ci := 8) (v := .ref (rA 35)) (C := R_Ref) (T := F_Ref) (N := 48) hx hb hw i_Ref hown hK hP 0 rfl rfl 35 (by decide) (hw _ m_934) (fun _ h9 => h9) rfl d_Ref_isFreeFrom_1 ?_
  refine lv_iload_n hx hb d_Ref_isFreeFrom_4 rfl (lv_at hl 1 rfl) ?_
  refine va_iald (D := (dC, dI)) hx hb hK hP 1 0 rfl rfl (i := nI k) (pk_in k 7 (by omega)) d_Ref_isFreeFrom_5 ?_
  refine tp_i (y := nI (li k)) (by rw [show (nI k : Int32).toNatClampNeg = k from pk_cl k]) ?_
  refine lv_istore_n (lv' := [(2, .int (nI (li k))), (0, .ref ra), (1, .int (nI k))]) hx hb d_Ref_isFreeFrom_6 rfl hl (by decide) rfl ?_
  clear hl ls
  intro ls hl
  refine lv_aload_n hx hb d_Ref_isFreeFrom_7 rfl (lv_at hl 1 rfl) ?_
  refine va_get (D := (dC, dI)) (ci := 8) (v := .ref (rA 3)) (C := R_Ref) (T := F_Ref) (N := 48) hx hb hw i_Ref hown hK hP 0 rfl rfl 3 (by decide) (hw _ m_902) (fun _ h9 => h9) rfl d_Ref_isFreeFrom_8 ?_
  refine lv_iload_n hx hb d_Ref_isFreeFrom_11 rfl (lv_at hl 0 rfl) ?_
  refine va_iald (D := (dC, dI)) hx hb hK hP 2 1 rfl rfl (i := nI (li k)) (pk_in (li k) 28 (by omega)) d_Ref_isFreeFrom_12 ?_
  refine tp_i (y := nI (kd (li k))) (by rw [show (nI (li k) : Int32).toNatClampNeg = li k from pk_cl (li k)]) ?_
  refine lv_iconst (v := 3) hx hb d_Ref_isFreeFrom_13 (by decide) ?_
  refine lv_icmp_ne (tgt := 26) hx hb d_Ref_isFreeFrom_14 (by decide) (fun c1 => ?_) (fun c1 => ?_)
  · skip
    have hc1 : ¬ (kd (li k) = 3) := fun q9 => c1 ((nI_eq (a := kd (li k)) (b := 3) (by omega) (by omega)).mpr q9)
    refine tp_pc (pc' := 26) (by rfl) ?_
    refine lv_iconst (v := 1) hx hb d_Ref_isFreeFrom_26 (by decide) ?_
    obtain ⟨hP9, hD9, -⟩ := cut3 (wc := [oc ra 8 [.int (nI T), .int (nI Ac), .ref (rA 2), .ref (rA 3), .ref (rA 4), .ref (rA 5), .ref (rA 6), .ref (rA 7), .ref (rA 8), .ref (rA 9), .ref (rA 10), .ref (rA 11), .ref (rA 12), .ref (rA 13), .int ir, .ref (rA 15), .ref (rA 16), .ref (rA 17), .ref (rA 18), .int (nI md), .int (nI wd), .ref (rA 21), .ref (rA 22), .ref (rA 23), .int (nI mn), .ref (rA 25), .int (nI cb), .int mr, .ref (rA 28), .ref (rA 29), .ref (rA 30), .ref (rA 31), .ref (rA 32), .ref (rA 33), .ref (rA 34), .ref (rA 35), .int (nI ld), .int (nI gm), .ref (rA 38), .ref (rA 39), .ref (rA 40), .ref (rA 41), .ref (rA 42), .ref (rA 43), .ref (rA 44), .ref (rA 45), .int (nI my), .ref (rA 47)], ia (rA 35) (rK9 35) 7 (fun i => nI (li i)), ia (rA 3) (rK9 3) 28 (fun i => nI (kd i)), ia (rA 29) (rK9 29) 28 (fun i0 => mN (fm i0))]) hP hD rfl hS hA [0, 1, 2, 3] (by decide +kernel) rfl
    have hK9 := hK.sub (tys' := []) [] rfl
    refine W.widen (k := 0) (n := 0) (by exact Nat.le_of_ble_eq_true rfl) (by exact Nat.le_of_ble_eq_true rfl) ?_
    exact W.zret (v := 1) (ty := .boolean) hx hb hr (by decide) (fun t9 ht9 hW => ⟨⟨1, (), rfl, by rw [if_pos (Or.inl hc1)], by rw [ht9]; exact hP9, va_K.moved hW.alike hK9, hD9⟩, hS.F ht9⟩) hS.2.2 d_Ref_isFreeFrom_27
  · skip
    have hc1 : kd (li k) = 3 := (nI_eq (a := kd (li k)) (b := 3) (by omega) (by omega)).mp c1
    refine tp_pc (pc' := 17) (by rfl) ?_
    refine lv_aload_n hx hb d_Ref_isFreeFrom_17 rfl (lv_at hl 1 rfl) ?_
    refine va_get (D := (dC, dI)) (ci := 8) (v := .ref (rA 29)) (C := R_Ref) (T := F_Ref) (N := 48) hx hb hw i_Ref hown hK hP 0 rfl rfl 29 (by decide) (hw _ m_928) (fun _ h9 => h9) rfl d_Ref_isFreeFrom_18 ?_
    refine lv_iload_n hx hb d_Ref_isFreeFrom_21 rfl (lv_at hl 0 rfl) ?_
    refine va_iald (D := (dC, dI)) hx hb hK hP 3 2 rfl rfl (i := nI (li k)) (pk_in (li k) 28 (by omega)) d_Ref_isFreeFrom_22 ?_
    refine tp_i (y := (fun i0 => mN (fm i0)) (li k)) (by rw [show (nI (li k) : Int32).toNatClampNeg = li k from pk_cl (li k)]) ?_
    refine tp_i (y := mN (fm (li k))) rfl ?_
    by_cases e0 : fm (li k) = 0
    · skip
      refine tp_i (y := (-1)) (by rw [e0, mN_0]) ?_
      refine lv_if_ge (tgt := 28) hx hb d_Ref_isFreeFrom_23 (by decide) (fun c_1 => absurd c_1 (by decide)) (fun c_1 => ?_)
      refine tp_pc (pc' := 26) (by rfl) ?_
      refine lv_iconst (v := 1) hx hb d_Ref_isFreeFrom_26 (by decide) ?_
      obtain ⟨hP9, hD9, -⟩ := cut3 (wc := [oc ra 8 [.int (nI T), .int (nI Ac), .ref (rA 2), .ref (rA 3), .ref (rA 4), .ref (rA 5), .ref (rA 6), .ref (rA 7), .ref (rA 8), .ref (rA 9), .ref (rA 10), .ref (rA 11), .ref (rA 12), .ref (rA 13), .int ir, .ref (rA 15), .ref (rA 16), .ref (rA 17), .ref (rA 18), .int (nI md), .int (nI wd), .ref (rA 21), .ref (rA 22), .ref (rA 23), .int (nI mn), .ref (rA 25), .int (nI cb), .int mr, .ref (rA 28), .ref (rA 29), .ref (rA 30), .ref (rA 31), .ref (rA 32), .ref (rA 33), .ref (rA 34), .ref (rA 35), .int (nI ld), .int (nI gm), .ref (rA 38), .ref (rA 39), .ref (rA 40), .ref (rA 41), .ref (rA 42), .ref (rA 43), .ref (rA 44), .ref (rA 45), .int (nI my), .ref (rA 47)], ia (rA 35) (rK9 35) 7 (fun i => nI (li i)), ia (rA 3) (rK9 3) 28 (fun i => nI (kd i)), ia (rA 29) (rK9 29) 28 (fun i0 => mN (fm i0))]) hP hD rfl hS hA [0, 1, 2, 3] (by decide +kernel) rfl
      have hK9 := hK.sub (tys' := []) [] rfl
      refine W.widen (k := 0) (n := 0) (by exact Nat.le_of_ble_eq_true rfl) (by exact Nat.le_of_ble_eq_true rfl) ?_
      exact W.zret (v := 1) (ty := .boolean) hx hb hr (by decide) (fun t9 ht9 hW => ⟨⟨1, (), rfl, by rw [if_pos (Or.inr (Or.inl e0))], by rw [ht9]; exact hP9, va_K.moved hW.alike hK9, hD9⟩, hS.F ht9⟩) hS.2.2 d_Ref_isFreeFrom_27
    · skip
      refine tp_i (y := nI (fm (li k) - 1)) (mN_s e0) ?_
      refine lv_if_ge (tgt := 28) hx hb d_Ref_isFreeFrom_23 (by decide) (fun c9 => ?_) (fun c9 => absurd (nI_pos' (by omega)) c9)
      refine tp_pc (pc' := 28) (by rfl) ?_
      refine lv_iconst (v := 0) hx hb d_Ref_isFreeFrom_28 (by decide) ?_
      refine lv_istore_n (lv' := [(3, .int 0), (2, .int (nI (li k))), (0, .ref ra), (1, .int (nI k))]) hx hb d_Ref_isFreeFrom_29 rfl hl (by decide) rfl ?_
      clear hl ls
      intro ls hl
      replace hP : va_P (dC, dI) classes [oc ra 8 [.int (nI T), .int (nI Ac), .ref (rA 2), .ref (rA 3), .ref (rA 4), .ref (rA 5), .ref (rA 6), .ref (rA 7), .ref (rA 8), .ref (rA 9), .ref (rA 10), .ref (rA 11), .ref (rA 12), .ref (rA 13), .int ir, .ref (rA 15), .ref (rA 16), .ref (rA 17), .ref (rA 18), .int (nI md), .int (nI wd), .ref (rA 21), .ref (rA 22), .ref (rA 23), .int (nI mn), .ref (rA 25), .int (nI cb), .int mr, .ref (rA 28), .ref (rA 29), .ref (rA 30), .ref (rA 31), .ref (rA 32), .ref (rA 33), .ref (rA 34), .ref (rA 35), .int (nI ld), .int (nI gm), .ref (rA 38), .ref (rA 39), .ref (rA 40), .ref (rA 41), .ref (rA 42), .ref (rA 43), .ref (rA 44), .ref (rA 45), .int (nI my), .ref (rA 47)], ia (rA 35) (rK9 35) 7 (fun i => nI (li i)), ia (rA 3) (rK9 3) 28 (fun i => nI (kd i)), ia (rA 29) (rK9 29) 28 (fun i0 => mN (fm i0))] s.heap := hP
      replace hl : lv_has ls 4 [(3, .int (nI 0)), (2, .int (nI (li k))), (0, .ref ra), (1, .int (nI k))] := hl
      refine lp_n k (fun i1 H locs ls => fF (fun q => decide (kd (li q) = 3 ∧ fm (li q) = fm (li k))) (k - i1) i1 = fF (fun q => decide (kd (li q) = 3 ∧ fm (li q) = fm (li k))) k 0 ∧ va_P (dC, dI) classes [oc ra 8 [.int (nI T), .int (nI Ac), .ref (rA 2), .ref (rA 3), .ref (rA 4), .ref (rA 5), .ref (rA 6), .ref (rA 7), .ref (rA 8), .ref (rA 9), .ref (rA 10), .ref (rA 11), .ref (rA 12), .ref (rA 13), .int ir, .ref (rA 15), .ref (rA 16), .ref (rA 17), .ref (rA 18), .int (nI md), .int (nI wd), .ref (rA 21), .ref (rA 22), .ref (rA 23), .int (nI mn), .ref (rA 25), .int (nI cb), .int mr, .ref (rA 28), .ref (rA 29), .ref (rA 30), .ref (rA 31), .ref (rA 32), .ref (rA 33), .ref (rA 34), .ref (rA 35), .int (nI ld), .int (nI gm), .ref (rA 38), .ref (rA 39), .ref (rA 40), .ref (rA 41), .ref (rA 42), .ref (rA 43), .ref (rA 44), .ref (rA 45), .int (nI my), .ref (rA 47)], ia (rA 35) (rK9 35) 7 (fun i => nI (li i)), ia (rA 3) (rK9 3) 28 (fun i => nI (kd i)), ia (rA 29) (rK9 29) 28 (fun i0 => mN (fm i0))] H ∧ va_S A s.heap H locs ∧ lv_has ls 4 [(3, .int (nI i1)), (2, .int (nI (li k))), (0, .ref ra), (1, .int (nI k))]) ⟨rfl, hP, hS, hl⟩ ?_ ?_
      · intro i1 H locs ls hi1 hI ih_i1
        obtain ⟨hinv, hP, hS, hl⟩ := hI
        refine lv_iload_n hx hb d_Ref_isFreeFrom_30 rfl (lv_at hl 0 rfl) ?_
        refine lv_iload_n hx hb d_Ref_isFreeFrom_31 rfl (lv_at hl 3 rfl) ?_
        refine lv_icmp_ge (tgt := 78) hx hb d_Ref_isFreeFrom_32 (by decide) (fun c9 => absurd c9 (nI_ge hi1 (by omega))) (fun c9 => ?_)
        rw [show k - i1 = (k - (i1 + 1)) + 1 from by omega, fF] at hinv
        have hl1 := hli i1 (by omega)
        have hk1 := hkd (li i1) hl1
        have hf1 := hfm (li i1) hl1
        refine tp_pc (pc' := 35) (by rfl) ?_
        refine lv_aload_n hx hb d_Ref_isFreeFrom_35 rfl (lv_at hl 2 rfl) ?_
        refine va_get (D := (dC, dI)) (ci := 8) (v := .ref (rA 3)) (C := R_Ref) (T := F_Ref) (N := 48) hx hb hw i_Ref hown hK hP 0 rfl rfl 3 (by decide) (hw _ m_902) (fun _ h9 => h9) rfl d_Ref_isFreeFrom_36 ?_
        refine lv_aload_n hx hb d_Ref_isFreeFrom_39 rfl (lv_at hl 2 rfl) ?_
        refine va_get (D := (dC, dI)) (ci := 8) (v := .ref (rA 35)) (C := R_Ref) (T := F_Ref) (N := 48) hx hb hw i_Ref hown hK hP 0 rfl rfl 35 (by decide) (hw _ m_934) (fun _ h9 => h9) rfl d_Ref_isFreeFrom_40 ?_
        refine lv_iload_n hx hb d_Ref_isFreeFrom_43 rfl (lv_at hl 0 rfl) ?_
        refine va_iald (D := (dC, dI)) hx hb hK hP 1 0 rfl rfl (i := nI i1) (pk_in i1 7 (by omega)) d_Ref_isFreeFrom_44 ?_
        refine tp_i (y := nI (li i1)) (by rw [show (nI i1 : Int32).toNatClampNeg = i1 from pk_cl i1]) ?_
        refine va_iald (D := (dC, dI)) hx hb hK hP 2 1 rfl rfl (i := nI (li i1)) (pk_in (li i1) 28 (by omega)) d_Ref_isFreeFrom_45 ?_
        refine tp_i (y := nI (kd (li i1))) (by rw [show (nI (li i1) : Int32).toNatClampNeg = li i1 from pk_cl (li i1)]) ?_
        refine lv_iconst (v := 3) hx hb d_Ref_isFreeFrom_46 (by decide) ?_
        refine lv_icmp_ne (tgt := 72) hx hb d_Ref_isFreeFrom_47 (by decide) (fun d1 => ?_) (fun d1 => ?_)
        · skip
          have hd1 : ¬ (kd (li i1) = 3) := fun q9 => d1 ((nI_eq (a := kd (li i1)) (b := 3) (by omega) (by omega)).mpr q9)
          rw [if_neg (by rw [decide_eq_false (fun q => hd1 q.1)]; decide)] at hinv
          refine tp_pc (pc' := 72) (by rfl) ?_
          refine lv_iinc (v := nI (i1 + 1)) (lv' := [(3, .int (nI (i1 + 1))), (2, .int (nI (li k))), (0, .ref ra), (1, .int (nI k))]) hx hb d_Ref_isFreeFrom_72 hl (k := 0) rfl (by exact nI_1 i1) (by decide) rfl ?_
          clear hl ls
          intro ls hl
          refine lv_goto (tgt := 30) hx hb d_Ref_isFreeFrom_75 (by decide) ?_
          refine tp_pc (pc' := 30) (by rfl) ?_
          obtain ⟨hP8, -, -⟩ := cut3 (wc := [oc ra 8 [.int (nI T), .int (nI Ac), .ref (rA 2), .ref (rA 3), .ref (rA 4), .ref (rA 5), .ref (rA 6), .ref (rA 7), .ref (rA 8), .ref (rA 9), .ref (rA 10), .ref (rA 11), .ref (rA 12), .ref (rA 13), .int ir, .ref (rA 15), .ref (rA 16), .ref (rA 17), .ref (rA 18), .int (nI md), .int (nI wd), .ref (rA 21), .ref (rA 22), .ref (rA 23), .int (nI mn), .ref (rA 25), .int (nI cb), .int mr, .ref (rA 28), .ref (rA 29), .ref (rA 30), .ref (rA 31), .ref (rA 32), .ref (rA 33), .ref (rA 34), .ref (rA 35), .int (nI ld), .int (nI gm), .ref (rA 38), .ref (rA 39), .ref (rA 40), .ref (rA 41), .ref (rA 42), .ref (rA 43), .ref (rA 44), .ref (rA 45), .int (nI my), .ref (rA 47)], ia (rA 35) (rK9 35) 7 (fun i => nI (li i)), ia (rA 3) (rK9 3) 28 (fun i => nI (kd i)), ia (rA 29) (rK9 29) 28 (fun i0 => mN (fm i0))]) hP hD rfl hS hA [0, 1, 2, 3] (by decide +kernel) rfl
          exact ih_i1 _ _ _ ⟨hinv, hP8, hS, lv_sub hl [0, 1, 2, 3] rfl⟩
        · skip
          have hd1 : kd (li i1) = 3 := (nI_eq (a := kd (li i1)) (b := 3) (by omega) (by omega)).mp d1
          refine tp_pc (pc' := 50) (by rfl) ?_
          refine lv_aload_n hx hb d_Ref_isFreeFrom_50 rfl (lv_at hl 2 rfl) ?_
          refine va_get (D := (dC, dI)) (ci := 8) (v := .ref (rA 29)) (C := R_Ref) (T := F_Ref) (N := 48) hx hb hw i_Ref hown hK hP 0 rfl rfl 29 (by decide) (hw _ m_928) (fun _ h9 => h9) rfl d_Ref_isFreeFrom_51 ?_
          refine lv_aload_n hx hb d_Ref_isFreeFrom_54 rfl (lv_at hl 2 rfl) ?_
          refine va_get (D := (dC, dI)) (ci := 8) (v := .ref (rA 35)) (C := R_Ref) (T := F_Ref) (N := 48) hx hb hw i_Ref hown hK hP 0 rfl rfl 35 (by decide) (hw _ m_934) (fun _ h9 => h9) rfl d_Ref_isFreeFrom_55 ?_
          refine lv_iload_n hx hb d_Ref_isFreeFrom_58 rfl (lv_at hl 0 rfl) ?_
          refine va_iald (D := (dC, dI)) hx hb hK hP 1 0 rfl rfl (i := nI i1) (pk_in i1 7 (by omega)) d_Ref_isFreeFrom_59 ?_
          refine tp_i (y := nI (li i1)) (by rw [show (nI i1 : Int32).toNatClampNeg = i1 from pk_cl i1]) ?_
          refine va_iald (D := (dC, dI)) hx hb hK hP 3 2 rfl rfl (i := nI (li i1)) (pk_in (li i1) 28 (by omega)) d_Ref_isFreeFrom_60 ?_
          refine tp_i (y := (fun i0 => mN (fm i0)) (li i1)) (by rw [show (nI (li i1) : Int32).toNatClampNeg = li i1 from pk_cl (li i1)]) ?_
          refine lv_aload_n hx hb d_Ref_isFreeFrom_61 rfl (lv_at hl 2 rfl) ?_
          refine va_get (D := (dC, dI)) (ci := 8) (v := .ref (rA 29)) (C := R_Ref) (T := F_Ref) (N := 48) hx hb hw i_Ref hown hK hP 0 rfl rfl 29 (by decide) (hw _ m_928) (fun _ h9 => h9) rfl d_Ref_isFreeFrom_62 ?_
          refine lv_iload_n hx hb d_Ref_isFreeFrom_65 rfl (lv_at hl 1 rfl) ?_
          refine va_iald (D := (dC, dI)) hx hb hK hP 3 2 rfl rfl (i := nI (li k)) (pk_in (li k) 28 (by omega)) d_Ref_isFreeFrom_66 ?_
          refine tp_i (y := (fun i0 => mN (fm i0)) (li k)) (by rw [show (nI (li k) : Int32).toNatClampNeg = li k from pk_cl (li k)]) ?_
          refine lv_icmp_ne (tgt := 72) hx hb d_Ref_isFreeFrom_67 (by decide) (fun d2 => ?_) (fun d2 => ?_)
          · skip
            rw [if_neg (by rw [decide_eq_false (fun q => d2 ((mN_inj hf1 hfk).mpr q.2))]; decide)] at hinv
            refine tp_pc (pc' := 72) (by rfl) ?_
            refine lv_iinc (v := nI (i1 + 1)) (lv' := [(3, .int (nI (i1 + 1))), (2, .int (nI (li k))), (0, .ref ra), (1, .int (nI k))]) hx hb d_Ref_isFreeFrom_72 hl (k := 0) rfl (by exact nI_1 i1) (by decide) rfl ?_
            clear hl ls
            intro ls hl
            refine lv_goto (tgt := 30) hx hb d_Ref_isFreeFrom_75 (by decide) ?_
            refine tp_pc (pc' := 30) (by rfl) ?_
            obtain ⟨hP8, -, -⟩ := cut3 (wc := [oc ra 8 [.int (nI T), .int (nI Ac), .ref (rA 2), .ref (rA 3), .ref (rA 4), .ref (rA 5), .ref (rA 6), .ref (rA 7), .ref (rA 8), .ref (rA 9), .ref (rA 10), .ref (rA 11), .ref (rA 12), .ref (rA 13), .int ir, .ref (rA 15), .ref (rA 16), .ref (rA 17), .ref (rA 18), .int (nI md), .int (nI wd), .ref (rA 21), .ref (rA 22), .ref (rA 23), .int (nI mn), .ref (rA 25), .int (nI cb), .int mr, .ref (rA 28), .ref (rA 29), .ref (rA 30), .ref (rA 31), .ref (rA 32), .ref (rA 33), .ref (rA 34), .ref (rA 35), .int (nI ld), .int (nI gm), .ref (rA 38), .ref (rA 39), .ref (rA 40), .ref (rA 41), .ref (rA 42), .ref (rA 43), .ref (rA 44), .ref (rA 45), .int (nI my), .ref (rA 47)], ia (rA 35) (rK9 35) 7 (fun i => nI (li i)), ia (rA 3) (rK9 3) 28 (fun i => nI (kd i)), ia (rA 29) (rK9 29) 28 (fun i0 => mN (fm i0))]) hP hD rfl hS hA [0, 1, 2, 3] (by decide +kernel) rfl
            exact ih_i1 _ _ _ ⟨hinv, hP8, hS, lv_sub hl [0, 1, 2, 3] rfl⟩
          · skip
            rw [if_pos (decide_eq_true ⟨hd1, (mN_inj hf1 hfk).mp d2⟩)] at hinv
            refine tp_pc (pc' := 70) (by rfl) ?_
            refine lv_iconst (v := 0) hx hb d_Ref_isFreeFrom_70 (by decide) ?_
            obtain ⟨hP9, hD9, -⟩ := cut3 (wc := [oc ra 8 [.int (nI T), .int (nI Ac), .ref (rA 2), .ref (rA 3), .ref (rA 4), .ref (rA 5), .ref (rA 6), .ref (rA 7), .ref (rA 8), .ref (rA 9), .ref (rA 10), .ref (rA 11), .ref (rA 12), .ref (rA 13), .int ir, .ref (rA 15), .ref (rA 16), .ref (rA 17), .ref (rA 18), .int (nI md), .int (nI wd), .ref (rA 21), .ref (rA 22), .ref (rA 23), .int (nI mn), .ref (rA 25), .int (nI cb), .int mr, .ref (rA 28), .ref (rA 29), .ref (rA 30), .ref (rA 31), .ref (rA 32), .ref (rA 33), .ref (rA 34), .ref (rA 35), .int (nI ld), .int (nI gm), .ref (rA 38), .ref (rA 39), .ref (rA 40), .ref (rA 41), .ref (rA 42), .ref (rA 43), .ref (rA 44), .ref (rA 45), .int (nI my), .ref (rA 47)], ia (rA 35) (rK9 35) 7 (fun i => nI (li i)), ia (rA 3) (rK9 3) 28 (fun i => nI (kd i)), ia (rA 29) (rK9 29) 28 (fun i0 => mN (fm i0))]) hP hD rfl hS hA [0, 1, 2, 3] (by decide +kernel) rfl
            have hK9 := hK.sub (tys' := []) [] rfl
            refine W.widen (k := 0) (n := 0) (by exact Nat.le_of_ble_eq_true rfl) (by exact Nat.le_of_ble_eq_true rfl) ?_
            exact W.zret (v := 0) (ty := .boolean) hx hb hr (by decide) (fun t9 ht9 hW => ⟨⟨0, (), rfl, by rw [if_neg (fun q => by rcases q with q | q | q; (exact q hc1); (exact e0 q); (rw [q] at hinv; exact absurd hinv (by omega)))], by rw [ht9]; exact hP9, va_K.moved hW.alike hK9, hD9⟩, hS.F ht9⟩) hS.2.2 d_Ref_isFreeFrom_71
      · intro H locs ls hI
        obtain ⟨hinv, hP, hS, hl⟩ := hI
        rw [Nat.sub_self] at hinv
        replace hinv : 0 = fF (fun q => decide (kd (li q) = 3 ∧ fm (li q) = fm (li k))) k 0 := hinv
        refine lv_iload_n hx hb d_Ref_isFreeFrom_30 rfl (lv_at hl 0 rfl) ?_
        refine lv_iload_n hx hb d_Ref_isFreeFrom_31 rfl (lv_at hl 3 rfl) ?_
        refine lv_icmp_ge (tgt := 78) hx hb d_Ref_isFreeFrom_32 (by decide) (fun c9 => ?_) (fun c9 => absurd (nI_le (Nat.le_refl _) (by omega)) c9)
        refine tp_pc (pc' := 78) (by rfl) ?_
        refine lv_iconst (v := 1) hx hb d_Ref_isFreeFrom_78 (by decide) ?_
        obtain ⟨hP9, hD9, -⟩ := cut3 (wc := [oc ra 8 [.int (nI T), .int (nI Ac), .ref (rA 2), .ref (rA 3), .ref (rA 4), .ref (rA 5), .ref (rA 6), .ref (rA 7), .ref (rA 8), .ref (rA 9), .ref (rA 10), .ref (rA 11), .ref (rA 12), .ref (rA 13), .int ir, .ref (rA 15), .ref (rA 16), .ref (rA 17), .ref (rA 18), .int (nI md), .int (nI wd), .ref (rA 21), .ref (rA 22), .ref (rA 23), .int (nI mn), .ref (rA 25), .int (nI cb), .int mr, .ref (rA 28), .ref (rA 29), .ref (rA 30), .ref (rA 31), .ref (rA 32), .ref (rA 33), .ref (rA 34), .ref (rA 35), .int (nI ld), .int (nI gm), .ref (rA 38), .ref (rA 39), .ref (rA 40), .ref (rA 41), .ref (rA 42), .ref (rA 43), .ref (rA 44), .ref (rA 45), .int (nI my), .ref (rA 47)], ia (rA 35) (rK9 35) 7 (fun i => nI (li i)), ia (rA 3) (rK9 3) 28 (fun i => nI (kd i)), ia (rA 29) (rK9 29) 28 (fun i0 => mN (fm i0))]) hP hD rfl hS hA [0, 1, 2, 3] (by decide +kernel) rfl
        have hK9 := hK.sub (tys' := []) [] rfl
        refine W.widen (k := 0) (n := 0) (by exact Nat.le_of_ble_eq_true rfl) (by exact Nat.le_of_ble_eq_true rfl) ?_
        exact W.zret (v := 1) (ty := .boolean) hx hb hr (by decide) (fun t9 ht9 hW => ⟨⟨1, (), rfl, by rw [if_pos (Or.inr (Or.inr hinv.symm))], by rw [ht9]; exact hP9, va_K.moved hW.alike hK9, hD9⟩, hS.F ht9⟩) hS.2.2 d_Ref_isFreeFrom_79
set_option maxHeartbeats 4000000 in
set_option maxRecDepth 100000 in
theorem gen_Ref_isOf (l : Launch) (dC : Nat → ClassId) (dI : Nat → Nat → Nat) (ra : Nat) (rA : Nat → Nat) (rK9 : Nat → ClassId) (T Ac md wd mn cb ld gm my : Nat) (ir mr : Int32) (a x : Nat) (kd vx hp : Nat → Nat) (ha : a < 28) (hx4 : x < 4) (hka : kd a < 6) (hva : vx a < 4) (hha : hp a < 2) (hgm : gm < 4) (sz : Nat) : Met l y_Ref_isOf w_Ref_isOf ({ frames := 1, cells := 0, slots := 0, locals := 40 }) (va_Pc [.ref ra, .int (nI a), .int (nI x)] (fun U => U.heap.size = sz ∧ va_P (dC, dI) classes [oc ra 8 [.int (nI T), .int (nI Ac), .ref (rA 2), .ref (rA 3), .ref (rA 4), .ref (rA 5), .ref (rA 6), .ref (rA 7), .ref (rA 8), .ref (rA 9), .ref (rA 10), .ref (rA 11), .ref (rA 12), .ref (rA 13), .int ir, .ref (rA 15), .ref (rA 16), .ref (rA 17), .ref (rA 18), .int (nI md), .int (nI wd), .ref (rA 21), .ref (rA 22), .ref (rA 23), .int (nI mn), .ref (rA 25), .int (nI cb), .int mr, .ref (rA 28), .ref (rA 29), .ref (rA 30), .ref (rA 31), .ref (rA 32), .ref (rA 33), .ref (rA 34), .ref (rA 35), .int (nI ld), .int (nI gm), .ref (rA 38), .ref (rA 39), .ref (rA 40), .ref (rA 41), .ref (rA 42), .ref (rA 43), .ref (rA 44), .ref (rA 45), .int (nI my), .ref (rA 47)], ia (rA 30) (rK9 30) 28 (fun i => nI (hp i)), ia (rA 3) (rK9 3) 28 (fun i => nI (kd i)), ia (rA 4) (rK9 4) 28 (fun i => nI (vx i))] U.heap ∧ va_K (dC, dI) classes [((rK9 30), .boolean), ((rK9 3), .int), ((rK9 4), .int)] U ∧ va_D (fun _ => True) [oc ra 8 [.int (nI T), .int (nI Ac), .ref (rA 2), .ref (rA 3), .ref (rA 4), .ref (rA 5), .ref (rA 6), .ref (rA 7), .ref (rA 8), .ref (rA 9), .ref (rA 10), .ref (rA 11), .ref (rA 12), .ref (rA 13), .int ir, .ref (rA 15), .ref (rA 16), .ref (rA 17), .ref (rA 18), .int (nI md), .int (nI wd), .ref (rA 21), .ref (rA 22), .ref (rA 23), .int (nI mn), .ref (rA 25), .int (nI cb), .int mr, .ref (rA 28), .ref (rA 29), .ref (rA 30), .ref (rA 31), .ref (rA 32), .ref (rA 33), .ref (rA 34), .ref (rA 35), .int (nI ld), .int (nI gm), .ref (rA 38), .ref (rA 39), .ref (rA 40), .ref (rA 41), .ref (rA 42), .ref (rA 43), .ref (rA 44), .ref (rA 45), .int (nI my), .ref (rA 47)], ia (rA 30) (rK9 30) 28 (fun i => nI (hp i)), ia (rA 3) (rK9 3) 28 (fun i => nI (kd i)), ia (rA 4) (rK9 4) 28 (fun i => nI (vx i))] ∧ nw U)) (va_Qi (fun (r : Int32) (_ : Unit) => r = if ofP gm kd vx hp a x then 1 else 0) (fun _ t9 => va_P (dC, dI) classes [oc ra 8 [.int (nI T), .int (nI Ac), .ref (rA 2), .ref (rA 3), .ref (rA 4), .ref (rA 5), .ref (rA 6), .ref (rA 7), .ref (rA 8), .ref (rA 9), .ref (rA 10), .ref (rA 11), .ref (rA 12), .ref (rA 13), .int ir, .ref (rA 15), .ref (rA 16), .ref (rA 17), .ref (rA 18), .int (nI md), .int (nI wd), .ref (rA 21), .ref (rA 22), .ref (rA 23), .int (nI mn), .ref (rA 25), .int (nI cb), .int mr, .ref (rA 28), .ref (rA 29), .ref (rA 30), .ref (rA 31), .ref (rA 32), .ref (rA 33), .ref (rA 34), .ref (rA 35), .int (nI ld), .int (nI gm), .ref (rA 38), .ref (rA 39), .ref (rA 40), .ref (rA 41), .ref (rA 42), .ref (rA 43), .ref (rA 44), .ref (rA 45), .int (nI my), .ref (rA 47)], ia (rA 30) (rK9 30) 28 (fun i => nI (hp i)), ia (rA 3) (rK9 3) 28 (fun i => nI (kd i)), ia (rA 4) (rK9 4) 28 (fun i => nI (vx i))] t9.heap ∧ va_K (dC, dI) classes [] t9 ∧ va_D (va_A [oc ra 8 [.int (nI T), .int (nI Ac), .ref (rA 2), .ref (rA 3), .ref (rA 4), .ref (rA 5), .ref (rA 6), .ref (rA 7), .ref (rA 8), .ref (rA 9), .ref (rA 10), .ref (rA 11), .ref (rA 12), .ref (rA 13), .int ir, .ref (rA 15), .ref (rA 16), .ref (rA 17), .ref (rA 18), .int (nI md), .int (nI wd), .ref (rA 21), .ref (rA 22), .ref (rA 23), .int (nI mn), .ref (rA 25), .int (nI cb), .int mr, .ref (rA 28), .ref (rA 29), .ref (rA 30), .ref (rA 31), .ref (rA 32), .ref (rA 33), .ref (rA 34), .ref (rA 35), .int (nI ld), .int (nI gm), .ref (rA 38), .ref (rA 39), .ref (rA 40), .ref (rA 41), .ref (rA 42), .ref (rA 43), .ref (rA 44), .ref (rA 45), .int (nI my), .ref (rA 47)], ia (rA 30) (rK9 30) 28 (fun i => nI (hp i)), ia (rA 3) (rK9 3) 28 (fun i => nI (kd i)), ia (rA 4) (rK9 4) 28 (fun i => nI (vx i))] sz) [oc ra 8 [.int (nI T), .int (nI Ac), .ref (rA 2), .ref (rA 3), .ref (rA 4), .ref (rA 5), .ref (rA 6), .ref (rA 7), .ref (rA 8), .ref (rA 9), .ref (rA 10), .ref (rA 11), .ref (rA 12), .ref (rA 13), .int ir, .ref (rA 15), .ref (rA 16), .ref (rA 17), .ref (rA 18), .int (nI md), .int (nI wd), .ref (rA 21), .ref (rA 22), .ref (rA 23), .int (nI mn), .ref (rA 25), .int (nI cb), .int mr, .ref (rA 28), .ref (rA 29), .ref (rA 30), .ref (rA 31), .ref (rA 32), .ref (rA 33), .ref (rA 34), .ref (rA 35), .int (nI ld), .int (nI gm), .ref (rA 38), .ref (rA 39), .ref (rA 40), .ref (rA 41), .ref (rA 42), .ref (rA 43), .ref (rA 44), .ref (rA 45), .int (nI my), .ref (rA 47)], ia (rA 30) (rK9 30) 28 (fun i => nI (hp i)), ia (rA 3) (rK9 3) 28 (fun i => nI (kd i)), ia (rA 4) (rK9 4) 28 (fun i => nI (vx i))]) (va_A [oc ra 8 [.int (nI T), .int (nI Ac), .ref (rA 2), .ref (rA 3), .ref (rA 4), .ref (rA 5), .ref (rA 6), .ref (rA 7), .ref (rA 8), .ref (rA 9), .ref (rA 10), .ref (rA 11), .ref (rA 12), .ref (rA 13), .int ir, .ref (rA 15), .ref (rA 16), .ref (rA 17), .ref (rA 18), .int (nI md), .int (nI wd), .ref (rA 21), .ref (rA 22), .ref (rA 23), .int (nI mn), .ref (rA 25), .int (nI cb), .int mr, .ref (rA 28), .ref (rA 29), .ref (rA 30), .ref (rA 31), .ref (rA 32), .ref (rA 33), .ref (rA 34), .ref (rA 35), .int (nI ld), .int (nI gm), .ref (rA 38), .ref (rA 39), .ref (rA 40), .ref (rA 41), .ref (rA 42), .ref (rA 43), .ref (rA 44), .ref (rA 45), .int (nI my), .ref (rA 47)], ia (rA 30) (rK9 30) 28 (fun i => nI (hp i)), ia (rA 3) (rK9 3) 28 (fun i => nI (kd i)), ia (rA 4) (rK9 4) 28 (fun i => nI (vx i))] sz)) 0 0 (va_A [oc ra 8 [.int (nI T), .int (nI Ac), .ref (rA 2), .ref (rA 3), .ref (rA 4), .ref (rA 5), .ref (rA 6), .ref (rA 7), .ref (rA 8), .ref (rA 9), .ref (rA 10), .ref (rA 11), .ref (rA 12), .ref (rA 13), .int ir, .ref (rA 15), .ref (rA 16), .ref (rA 17), .ref (rA 18), .int (nI md), .int (nI wd), .ref (rA 21), .ref (rA 22), .ref (rA 23), .int (nI mn), .ref (rA 25), .int (nI cb), .int mr, .ref (rA 28), .ref (rA 29), .ref (rA 30), .ref (rA 31), .ref (rA 32), .ref (rA 33), .ref (rA 34), .ref (rA 35), .int (nI ld), .int (nI gm), .ref (rA 38), .ref (rA 39), .ref (rA 40), .ref (rA 41), .ref (rA 42), .ref (rA 43), .ref (rA 44), .ref (rA 45), .int (nI my), .ref (rA 47)], ia (rA 30) (rK9 30) 28 (fun i => nI (hp i)), ia (rA 3) (rK9 3) 28 (fun i => nI (kd i)), ia (rA 4) (rK9 4) 28 (fun i => nI (vx i))] sz) := by
  refine Met.ofW (cc := b_Ref_isOf) (maxL := 3) (ret := (some .boolean)) (by decide) rfl ?_
  intro p e0 s m args below meth c s₁ B hml hv
  obtain ⟨rfl, hsz, hP, hK, hD0, hn⟩ := hv
  have hx := B.exec
  have hb := B.bytes
  have hr := B.returns
  have hw := fun w (h : w ∈ wt) => atoms_spec (ws := w_Ref_isOf) B.pre w (List.mem_cons_of_mem _ h)
  have hown : s.vm.findClass R_Ref = some m.cls := findClass_of_methodNamed B.named
  have hlocks := B.notSynchronized
  subst hsz
  have hD1 := hD0.self (sz := s.heap.size)
  generalize hAe : va_A [oc ra 8 [.int (nI T), .int (nI Ac), .ref (rA 2), .ref (rA 3), .ref (rA 4), .ref (rA 5), .ref (rA 6), .ref (rA 7), .ref (rA 8), .ref (rA 9), .ref (rA 10), .ref (rA 11), .ref (rA 12), .ref (rA 13), .int ir, .ref (rA 15), .ref (rA 16), .ref (rA 17), .ref (rA 18), .int (nI md), .int (nI wd), .ref (rA 21), .ref (rA 22), .ref (rA 23), .int (nI mn), .ref (rA 25), .int (nI cb), .int mr, .ref (rA 28), .ref (rA 29), .ref (rA 30), .ref (rA 31), .ref (rA 32), .ref (rA 33), .ref (rA 34), .ref (rA 35), .int (nI ld), .int (nI gm), .ref (rA 38), .ref (rA 39), .ref (rA 40), .ref (rA 41), .ref (rA 42), .ref (rA 43), .ref (rA 44), .ref (rA 45), .int (nI my), .ref (rA 47)], ia (rA 30) (rK9 30) 28 (fun i => nI (hp i)), ia (rA 3) (rK9 3) 28 (fun i => nI (kd i)), ia (rA 4) (rK9 4) 28 (fun i => nI (vx i))] s.heap.size = A at hD1 ⊢
  have hA : ∀ q : Nat, s.heap.size ≤ q → A q := fun q h => by rw [← hAe]; exact Or.inr h
  have hD : dd A [ra, (rA 30), (rA 3), (rA 4)] := dd_of hD1 rfl
  clear hAe hD0 hD1
  have hS : va_S A s.heap s.heap [] := va_S.rf
  replace hP : va_P (dC, dI) classes [oc ra 8 [.int (nI T), .int (nI Ac), .ref (rA 2), .ref (rA 3), .ref (rA 4), .ref (rA 5), .ref (rA 6), .ref (rA 7), .ref (rA 8), .ref (rA 9), .ref (rA 10), .ref (rA 11), .ref (rA 12), .ref (rA 13), .int ir, .ref (rA 15), .ref (rA 16), .ref (rA 17), .ref (rA 18), .int (nI md), .int (nI wd), .ref (rA 21), .ref (rA 22), .ref (rA 23), .int (nI mn), .ref (rA 25), .int (nI cb), .int mr, .ref (rA 28), .ref (rA 29), .ref (rA 30), .ref (rA 31), .ref (rA 32), .ref (rA 33), .ref (rA 34), .ref (rA 35), .int (nI ld), .int (nI gm), .ref (rA 38), .ref (rA 39), .ref (rA 40), .ref (rA 41), .ref (rA 42), .ref (rA 43), .ref (rA 44), .ref (rA 45), .int (nI my), .ref (rA 47)], ia (rA 30) (rK9 30) 28 (fun i => nI (hp i)), ia (rA 3) (rK9 3) 28 (fun i => nI (kd i)), ia (rA 4) (rK9 4) 28 (fun i => nI (vx i))] s.heap := hP
  have hl := lv_entry ([.ref ra, .int (nI a), .int (nI x)]) (n := 3) (Nat.le_of_ble_eq_true rfl)
  rw [lg_entry_eq]
  generalize (lg_sl ([.ref ra, .int (nI a), .int (nI x)]) ++ List.replicate (3 - (lg_sl ([.ref ra, .int (nI a), .int (nI x)])).length) Slot.unset).toArray = ls at hl ⊢
  replace hl : lv_has ls 3 [(0, .ref ra), (1, .int (nI a)), (2, .int (nI x))] := hl
  refine lv_aload_n hx hb d_Ref_isOf_0 rfl (lv_at hl 0 rfl) ?_
  refine va_get (D := (dC, dI)) (ci := 8) (v := .ref (rA 30)) (C := R_Ref) (T := F_Ref) (N := 48) hx hb hw i_Ref hown hK hP 0 rfl rfl 30 (by decide) (hw _ m_929) (fun _ h9 => h9) rfl d_Ref_isOf_1 ?_
  refine lv_iload_n hx hb d_Ref_isOf_4 rfl (lv_at hl 1 rfl) ?_
  refine va_zald (D := (dC, dI)) hx hb hK hP 1 0 rfl rfl (i := nI a) (pk_in a 28 (by omega)) d_Ref_isOf_5 ?_
  refine tp_i (y := nI (hp a)) (by rw [show (nI a : Int32).toNatClampNeg = a from pk_cl a]) ?_
  refine lv_if_eq (tgt := 61) hx hb d_Ref_isOf_6 (by decide) (fun c1 => ?_) (fun c1 => ?_)
  · skip
    have hc1 : hp a = 0 := (nI_eq (a := hp a) (b := 0) (by omega) (by omega)).mp c1
    refine tp_pc (pc' := 61) (by rfl) ?_
    refine lv_iconst (v := 0) hx hb d_Ref_isOf_61 (by decide) ?_
    obtain ⟨hP9, hD9, -⟩ := cut3 (wc := [oc ra 8 [.int (nI T), .int (nI Ac), .ref (rA 2), .ref (rA 3), .ref (rA 4), .ref (rA 5), .ref (rA 6), .ref (rA 7), .ref (rA 8), .ref (rA 9), .ref (rA 10), .ref (rA 11), .ref (rA 12), .ref (rA 13), .int ir, .ref (rA 15), .ref (rA 16), .ref (rA 17), .ref (rA 18), .int (nI md), .int (nI wd), .ref (rA 21), .ref (rA 22), .ref (rA 23), .int (nI mn), .ref (rA 25), .int (nI cb), .int mr, .ref (rA 28), .ref (rA 29), .ref (rA 30), .ref (rA 31), .ref (rA 32), .ref (rA 33), .ref (rA 34), .ref (rA 35), .int (nI ld), .int (nI gm), .ref (rA 38), .ref (rA 39), .ref (rA 40), .ref (rA 41), .ref (rA 42), .ref (rA 43), .ref (rA 44), .ref (rA 45), .int (nI my), .ref (rA 47)], ia (rA 30) (rK9 30) 28 (fun i => nI (hp i)), ia (rA 3) (rK9 3) 28 (fun i => nI (kd i)), ia (rA 4) (rK9 4) 28 (fun i => nI (vx i))]) hP hD rfl hS hA [0, 1, 2, 3] (by decide +kernel) rfl
    have hK9 := hK.sub (tys' := []) [] rfl
    refine W.widen (k := 0) (n := 0) (by exact Nat.le_of_ble_eq_true rfl) (by exact Nat.le_of_ble_eq_true rfl) ?_
    exact W.zret (v := 0) (ty := .boolean) hx hb hr (by decide) (fun t9 ht9 hW => ⟨⟨0, (), rfl, by rw [if_neg (fun q => absurd q.1 (by omega))], by rw [ht9]; exact hP9, va_K.moved hW.alike hK9, hD9⟩, hS.F ht9⟩) hS.2.2 d_Ref_isOf_62
  · skip
    have hc1 : ¬ (hp a = 0) := fun q9 => c1 ((nI_eq (a := hp a) (b := 0) (by omega) (by omega)).mpr q9)
    have h1 : hp a = 1 := by omega
    refine tp_pc (pc' := 9) (by rfl) ?_
    refine lv_iload_n hx hb d_Ref_isOf_9 rfl (lv_at hl 2 rfl) ?_
    refine lv_iconst (v := 3) hx hb d_Ref_isOf_10 (by decide) ?_
    refine lv_icmp_ge (tgt := 39) hx hb d_Ref_isOf_11 (by decide) (fun c2 => ?_) (fun c2 => ?_)
    · skip
      have hc2 : 3 ≤ x := (nI_leI (a := 3) (b := x) (by omega) (by omega)).mp c2
      refine tp_pc (pc' := 39) (by rfl) ?_
      refine lv_aload_n hx hb d_Ref_isOf_39 rfl (lv_at hl 0 rfl) ?_
      refine va_get (D := (dC, dI)) (ci := 8) (v := .int (nI gm)) (C := R_Ref) (T := F_Ref) (N := 48) hx hb hw i_Ref hown hK hP 0 rfl rfl 37 (by decide) (hw _ m_936) (fun _ h9 => h9) rfl d_Ref_isOf_40 ?_
      refine lv_iconst (v := 3) hx hb d_Ref_isOf_43 (by decide) ?_
      refine lv_icmp_ne (tgt := 61) hx hb d_Ref_isOf_44 (by decide) (fun c3 => ?_) (fun c3 => ?_)
      · skip
        have hc3 : ¬ (gm = 3) := fun q9 => c3 ((nI_eq (a := gm) (b := 3) (by omega) (by omega)).mpr q9)
        refine tp_pc (pc' := 61) (by rfl) ?_
        refine lv_iconst (v := 0) hx hb d_Ref_isOf_61 (by decide) ?_
        obtain ⟨hP9, hD9, -⟩ := cut3 (wc := [oc ra 8 [.int (nI T), .int (nI Ac), .ref (rA 2), .ref (rA 3), .ref (rA 4), .ref (rA 5), .ref (rA 6), .ref (rA 7), .ref (rA 8), .ref (rA 9), .ref (rA 10), .ref (rA 11), .ref (rA 12), .ref (rA 13), .int ir, .ref (rA 15), .ref (rA 16), .ref (rA 17), .ref (rA 18), .int (nI md), .int (nI wd), .ref (rA 21), .ref (rA 22), .ref (rA 23), .int (nI mn), .ref (rA 25), .int (nI cb), .int mr, .ref (rA 28), .ref (rA 29), .ref (rA 30), .ref (rA 31), .ref (rA 32), .ref (rA 33), .ref (rA 34), .ref (rA 35), .int (nI ld), .int (nI gm), .ref (rA 38), .ref (rA 39), .ref (rA 40), .ref (rA 41), .ref (rA 42), .ref (rA 43), .ref (rA 44), .ref (rA 45), .int (nI my), .ref (rA 47)], ia (rA 30) (rK9 30) 28 (fun i => nI (hp i)), ia (rA 3) (rK9 3) 28 (fun i => nI (kd i)), ia (rA 4) (rK9 4) 28 (fun i => nI (vx i))]) hP hD rfl hS hA [0, 1, 2, 3] (by decide +kernel) rfl
        have hK9 := hK.sub (tys' := []) [] rfl
        refine W.widen (k := 0) (n := 0) (by exact Nat.le_of_ble_eq_true rfl) (by exact Nat.le_of_ble_eq_true rfl) ?_
        exact W.zret (v := 0) (ty := .boolean) hx hb hr (by decide) (fun t9 ht9 hW => ⟨⟨0, (), rfl, by rw [if_neg (fun q => q.2.elim (fun q => absurd q.1 (by omega)) (fun q => hc3 q.2.1))], by rw [ht9]; exact hP9, va_K.moved hW.alike hK9, hD9⟩, hS.F ht9⟩) hS.2.2 d_Ref_isOf_62
      · skip
        have hc3 : gm = 3 := (nI_eq (a := gm) (b := 3) (by omega) (by omega)).mp c3
        refine tp_pc (pc' := 47) (by rfl) ?_
        refine lv_aload_n hx hb d_Ref_isOf_47 rfl (lv_at hl 0 rfl) ?_
        refine va_get (D := (dC, dI)) (ci := 8) (v := .ref (rA 3)) (C := R_Ref) (T := F_Ref) (N := 48) hx hb hw i_Ref hown hK hP 0 rfl rfl 3 (by decide) (hw _ m_902) (fun _ h9 => h9) rfl d_Ref_isOf_48 ?_
        refine lv_iload_n hx hb d_Ref_isOf_51 rfl (lv_at hl 1 rfl) ?_
        refine va_iald (D := (dC, dI)) hx hb hK hP 2 1 rfl rfl (i := nI a) (pk_in a 28 (by omega)) d_Ref_isOf_52 ?_
        refine tp_i (y := nI (kd a)) (by rw [show (nI a : Int32).toNatClampNeg = a from pk_cl a]) ?_
        refine lv_iconst (v := 4) hx hb d_Ref_isOf_53 (by decide) ?_
        refine lv_icmp_ne (tgt := 61) hx hb d_Ref_isOf_54 (by decide) (fun c4 => ?_) (fun c4 => ?_)
        · skip
          have hc4 : ¬ (kd a = 4) := fun q9 => c4 ((nI_eq (a := kd a) (b := 4) (by omega) (by omega)).mpr q9)
          refine tp_pc (pc' := 61) (by rfl) ?_
          refine lv_iconst (v := 0) hx hb d_Ref_isOf_61 (by decide) ?_
          obtain ⟨hP9, hD9, -⟩ := cut3 (wc := [oc ra 8 [.int (nI T), .int (nI Ac), .ref (rA 2), .ref (rA 3), .ref (rA 4), .ref (rA 5), .ref (rA 6), .ref (rA 7), .ref (rA 8), .ref (rA 9), .ref (rA 10), .ref (rA 11), .ref (rA 12), .ref (rA 13), .int ir, .ref (rA 15), .ref (rA 16), .ref (rA 17), .ref (rA 18), .int (nI md), .int (nI wd), .ref (rA 21), .ref (rA 22), .ref (rA 23), .int (nI mn), .ref (rA 25), .int (nI cb), .int mr, .ref (rA 28), .ref (rA 29), .ref (rA 30), .ref (rA 31), .ref (rA 32), .ref (rA 33), .ref (rA 34), .ref (rA 35), .int (nI ld), .int (nI gm), .ref (rA 38), .ref (rA 39), .ref (rA 40), .ref (rA 41), .ref (rA 42), .ref (rA 43), .ref (rA 44), .ref (rA 45), .int (nI my), .ref (rA 47)], ia (rA 30) (rK9 30) 28 (fun i => nI (hp i)), ia (rA 3) (rK9 3) 28 (fun i => nI (kd i)), ia (rA 4) (rK9 4) 28 (fun i => nI (vx i))]) hP hD rfl hS hA [0, 1, 2, 3] (by decide +kernel) rfl
          have hK9 := hK.sub (tys' := []) [] rfl
          refine W.widen (k := 0) (n := 0) (by exact Nat.le_of_ble_eq_true rfl) (by exact Nat.le_of_ble_eq_true rfl) ?_
          exact W.zret (v := 0) (ty := .boolean) hx hb hr (by decide) (fun t9 ht9 hW => ⟨⟨0, (), rfl, by rw [if_neg (fun q => q.2.elim (fun q => absurd q.1 (by omega)) (fun q => hc4 q.2.2))], by rw [ht9]; exact hP9, va_K.moved hW.alike hK9, hD9⟩, hS.F ht9⟩) hS.2.2 d_Ref_isOf_62
        · skip
          have hc4 : kd a = 4 := (nI_eq (a := kd a) (b := 4) (by omega) (by omega)).mp c4
          refine tp_pc (pc' := 57) (by rfl) ?_
          refine lv_iconst (v := 1) hx hb d_Ref_isOf_57 (by decide) ?_
          refine lv_goto (tgt := 62) hx hb d_Ref_isOf_58 (by decide) ?_
          refine tp_pc (pc' := 62) (by rfl) ?_
          obtain ⟨hP9, hD9, -⟩ := cut3 (wc := [oc ra 8 [.int (nI T), .int (nI Ac), .ref (rA 2), .ref (rA 3), .ref (rA 4), .ref (rA 5), .ref (rA 6), .ref (rA 7), .ref (rA 8), .ref (rA 9), .ref (rA 10), .ref (rA 11), .ref (rA 12), .ref (rA 13), .int ir, .ref (rA 15), .ref (rA 16), .ref (rA 17), .ref (rA 18), .int (nI md), .int (nI wd), .ref (rA 21), .ref (rA 22), .ref (rA 23), .int (nI mn), .ref (rA 25), .int (nI cb), .int mr, .ref (rA 28), .ref (rA 29), .ref (rA 30), .ref (rA 31), .ref (rA 32), .ref (rA 33), .ref (rA 34), .ref (rA 35), .int (nI ld), .int (nI gm), .ref (rA 38), .ref (rA 39), .ref (rA 40), .ref (rA 41), .ref (rA 42), .ref (rA 43), .ref (rA 44), .ref (rA 45), .int (nI my), .ref (rA 47)], ia (rA 30) (rK9 30) 28 (fun i => nI (hp i)), ia (rA 3) (rK9 3) 28 (fun i => nI (kd i)), ia (rA 4) (rK9 4) 28 (fun i => nI (vx i))]) hP hD rfl hS hA [0, 1, 2, 3] (by decide +kernel) rfl
          have hK9 := hK.sub (tys' := []) [] rfl
          refine W.widen (k := 0) (n := 0) (by exact Nat.le_of_ble_eq_true rfl) (by exact Nat.le_of_ble_eq_true rfl) ?_
          exact W.zret (v := 1) (ty := .boolean) hx hb hr (by decide) (fun t9 ht9 hW => ⟨⟨1, (), rfl, by rw [if_pos (show ofP gm kd vx hp a x from ⟨h1, Or.inr ⟨by omega, hc3, hc4⟩⟩)], by rw [ht9]; exact hP9, va_K.moved hW.alike hK9, hD9⟩, hS.F ht9⟩) hS.2.2 d_Ref_isOf_62
    · skip
      have hc2 : ¬ (3 ≤ x) := fun q9 => c2 ((nI_leI (a := 3) (b := x) (by omega) (by omega)).mpr q9)
      refine tp_pc (pc' := 14) (by rfl) ?_
      refine lv_aload_n hx hb d_Ref_isOf_14 rfl (lv_at hl 0 rfl) ?_
      refine va_get (D := (dC, dI)) (ci := 8) (v := .ref (rA 3)) (C := R_Ref) (T := F_Ref) (N := 48) hx hb hw i_Ref hown hK hP 0 rfl rfl 3 (by decide) (hw _ m_902) (fun _ h9 => h9) rfl d_Ref_isOf_15 ?_
      refine lv_iload_n hx hb d_Ref_isOf_18 rfl (lv_at hl 1 rfl) ?_
      refine va_iald (D := (dC, dI)) hx hb hK hP 2 1 rfl rfl (i := nI a) (pk_in a 28 (by omega)) d_Ref_isOf_19 ?_
      refine tp_i (y := nI (kd a)) (by rw [show (nI a : Int32).toNatClampNeg = a from pk_cl a]) ?_
      obtain ⟨hPc, hDc, hFc⟩ := cut3 (wc := []) hP hD rfl hS hA [] (by decide +kernel) rfl
      have hKc := hK.sub (tys' := []) [] rfl
      refine va_calli (va_runS (As := [.int (nI (kd a))]) (rest := []) ⟨hx, hb, hml, hown, hw⟩ (gen_Ref_writes l dC dI (kd a) hka s.heap.size) (cw_S 1 hw g_Ref_writes rfl rfl rfl (hw _ m_109) (hw _ m_1257) (hw _ m_1258) (by decide +kernel) ⟨Nat.le_of_ble_eq_true rfl, Nat.le_of_ble_eq_true rfl⟩) ⟨fun a U g mk q => by obtain ⟨q0, q1, qP, qK, qD, qN⟩ := q; exact ⟨q0, q1, qP, va_K.moved (u := U) (U := U.calling g mk a) (Vm.Alike.refl U.vm) qK, qD, nw_call qN⟩, fun U hU hW => ⟨rfl, by rw [hU], by rw [hU]; exact hPc, va_K.moved hW.alike hKc, hDc.weaken (fun _ _ _ _ => trivial), nw_warm hW hn⟩⟩ rfl rfl hl.1 rfl (lv_room (Nat.le_of_ble_eq_true rfl)) d_Ref_isOf_20 ⟨Nat.le_of_ble_eq_true rfl, Nat.le_of_ble_eq_true rfl⟩) hS (fun q _ h => hFc q h) hFc ?_
      intro r_1 u t9 H1 locs1 ht9 hvm hw1 hB hz1 hk1 hS1
      obtain ⟨hP1, hK1, hD1⟩ := hB
      rw [ht9] at hP1
      replace hK1 := va_K.moved hvm.symm hK1
      have hPD := join3 hP hD rfl [] [0, 1, 2, 3] rfl (by rfl) (by decide +kernel) (by decide +kernel) hk1 hFc hP1 hD1
      replace hK : va_K (dC, dI) classes [((rK9 30), .boolean), ((rK9 3), .int), ((rK9 4), .int)] s := hK.app hK1
      clear hP1 hK1 hD1 hk1 hz1 hFc hKc hDc hPc hvm ht9 hP hS t9
      have hP : va_P (dC, dI) classes [oc ra 8 [.int (nI T), .int (nI Ac), .ref (rA 2), .ref (rA 3), .ref (rA 4), .ref (rA 5), .ref (rA 6), .ref (rA 7), .ref (rA 8), .ref (rA 9), .ref (rA 10), .ref (rA 11), .ref (rA 12), .ref (rA 13), .int ir, .ref (rA 15), .ref (rA 16), .ref (rA 17), .ref (rA 18), .int (nI md), .int (nI wd), .ref (rA 21), .ref (rA 22), .ref (rA 23), .int (nI mn), .ref (rA 25), .int (nI cb), .int mr, .ref (rA 28), .ref (rA 29), .ref (rA 30), .ref (rA 31), .ref (rA 32), .ref (rA 33), .ref (rA 34), .ref (rA 35), .int (nI ld), .int (nI gm), .ref (rA 38), .ref (rA 39), .ref (rA 40), .ref (rA 41), .ref (rA 42), .ref (rA 43), .ref (rA 44), .ref (rA 45), .int (nI my), .ref (rA 47)], ia (rA 30) (rK9 30) 28 (fun i => nI (hp i)), ia (rA 3) (rK9 3) 28 (fun i => nI (kd i)), ia (rA 4) (rK9 4) 28 (fun i => nI (vx i))] H1 := hPD.1
      replace hD : dd A [ra, (rA 30), (rA 3), (rA 4)] := dd_of hPD.2 rfl
      clear hPD
      revert H1 locs1
      intro H locs hS hP
      refine tp_i (y := (if 1 ≤ kd a ∧ kd a ≤ 3 then 1 else 0)) (hw1) ?_
      clear hw1 r_1 u
      by_cases hw1x : 1 ≤ kd a ∧ kd a ≤ 3
      · skip
        rw [if_pos hw1x]
        refine tp_pc (pc' := 23) (by rfl) ?_
        refine lv_if_eq (tgt := 61) hx hb d_Ref_isOf_23 (by decide) (fun c_2 => absurd c_2 (by decide)) (fun c_2 => ?_)
        refine tp_pc (pc' := 26) (by rfl) ?_
        refine lv_aload_n hx hb d_Ref_isOf_26 rfl (lv_at hl 0 rfl) ?_
        refine va_get (D := (dC, dI)) (ci := 8) (v := .ref (rA 4)) (C := R_Ref) (T := F_Ref) (N := 48) hx hb hw i_Ref hown hK hP 0 rfl rfl 4 (by decide) (hw _ m_903) (fun _ h9 => h9) rfl d_Ref_isOf_27 ?_
        refine lv_iload_n hx hb d_Ref_isOf_30 rfl (lv_at hl 1 rfl) ?_
        refine va_iald (D := (dC, dI)) hx hb hK hP 3 2 rfl rfl (i := nI a) (pk_in a 28 (by omega)) d_Ref_isOf_31 ?_
        refine tp_i (y := nI (vx a)) (by rw [show (nI a : Int32).toNatClampNeg = a from pk_cl a]) ?_
        refine lv_iload_n hx hb d_Ref_isOf_32 rfl (lv_at hl 2 rfl) ?_
        refine lv_icmp_ne (tgt := 61) hx hb d_Ref_isOf_33 (by decide) (fun c5 => ?_) (fun c5 => ?_)
        · skip
          have hc5 : ¬ (vx a = x) := fun q9 => c5 ((nI_eq (a := vx a) (b := x) (by omega) (by omega)).mpr q9)
          refine tp_pc (pc' := 61) (by rfl) ?_
          refine lv_iconst (v := 0) hx hb d_Ref_isOf_61 (by decide) ?_
          obtain ⟨hP9, hD9, -⟩ := cut3 (wc := [oc ra 8 [.int (nI T), .int (nI Ac), .ref (rA 2), .ref (rA 3), .ref (rA 4), .ref (rA 5), .ref (rA 6), .ref (rA 7), .ref (rA 8), .ref (rA 9), .ref (rA 10), .ref (rA 11), .ref (rA 12), .ref (rA 13), .int ir, .ref (rA 15), .ref (rA 16), .ref (rA 17), .ref (rA 18), .int (nI md), .int (nI wd), .ref (rA 21), .ref (rA 22), .ref (rA 23), .int (nI mn), .ref (rA 25), .int (nI cb), .int mr, .ref (rA 28), .ref (rA 29), .ref (rA 30), .ref (rA 31), .ref (rA 32), .ref (rA 33), .ref (rA 34), .ref (rA 35), .int (nI ld), .int (nI gm), .ref (rA 38), .ref (rA 39), .ref (rA 40), .ref (rA 41), .ref (rA 42), .ref (rA 43), .ref (rA 44), .ref (rA 45), .int (nI my), .ref (rA 47)], ia (rA 30) (rK9 30) 28 (fun i => nI (hp i)), ia (rA 3) (rK9 3) 28 (fun i => nI (kd i)), ia (rA 4) (rK9 4) 28 (fun i => nI (vx i))]) hP hD rfl hS hA [0, 1, 2, 3] (by decide +kernel) rfl
          have hK9 := hK.sub (tys' := []) [] rfl
          refine W.widen (k := 0) (n := 0) (by exact Nat.le_of_ble_eq_true rfl) (by exact Nat.le_of_ble_eq_true rfl) ?_
          exact W.zret (v := 0) (ty := .boolean) hx hb hr (by decide) (fun t9 ht9 hW => ⟨⟨0, (), rfl, by rw [if_neg (fun q => q.2.elim (fun q => hc5 q.2.2) (fun q => absurd q.1 (by omega)))], by rw [ht9]; exact hP9, va_K.moved hW.alike hK9, hD9⟩, hS.F ht9⟩) hS.2.2 d_Ref_isOf_62
        · skip
          have hc5 : vx a = x := (nI_eq (a := vx a) (b := x) (by omega) (by omega)).mp c5
          refine tp_pc (pc' := 36) (by rfl) ?_
          refine lv_goto (tgt := 57) hx hb d_Ref_isOf_36 (by decide) ?_
          refine tp_pc (pc' := 57) (by rfl) ?_
          refine lv_iconst (v := 1) hx hb d_Ref_isOf_57 (by decide) ?_
          refine lv_goto (tgt := 62) hx hb d_Ref_isOf_58 (by decide) ?_
          refine tp_pc (pc' := 62) (by rfl) ?_
          obtain ⟨hP9, hD9, -⟩ := cut3 (wc := [oc ra 8 [.int (nI T), .int (nI Ac), .ref (rA 2), .ref (rA 3), .ref (rA 4), .ref (rA 5), .ref (rA 6), .ref (rA 7), .ref (rA 8), .ref (rA 9), .ref (rA 10), .ref (rA 11), .ref (rA 12), .ref (rA 13), .int ir, .ref (rA 15), .ref (rA 16), .ref (rA 17), .ref (rA 18), .int (nI md), .int (nI wd), .ref (rA 21), .ref (rA 22), .ref (rA 23), .int (nI mn), .ref (rA 25), .int (nI cb), .int mr, .ref (rA 28), .ref (rA 29), .ref (rA 30), .ref (rA 31), .ref (rA 32), .ref (rA 33), .ref (rA 34), .ref (rA 35), .int (nI ld), .int (nI gm), .ref (rA 38), .ref (rA 39), .ref (rA 40), .ref (rA 41), .ref (rA 42), .ref (rA 43), .ref (rA 44), .ref (rA 45), .int (nI my), .ref (rA 47)], ia (rA 30) (rK9 30) 28 (fun i => nI (hp i)), ia (rA 3) (rK9 3) 28 (fun i => nI (kd i)), ia (rA 4) (rK9 4) 28 (fun i => nI (vx i))]) hP hD rfl hS hA [0, 1, 2, 3] (by decide +kernel) rfl
          have hK9 := hK.sub (tys' := []) [] rfl
          refine W.widen (k := 0) (n := 0) (by exact Nat.le_of_ble_eq_true rfl) (by exact Nat.le_of_ble_eq_true rfl) ?_
          exact W.zret (v := 1) (ty := .boolean) hx hb hr (by decide) (fun t9 ht9 hW => ⟨⟨1, (), rfl, by rw [if_pos (show ofP gm kd vx hp a x from ⟨h1, Or.inl ⟨by omega, hw1x, hc5⟩⟩)], by rw [ht9]; exact hP9, va_K.moved hW.alike hK9, hD9⟩, hS.F ht9⟩) hS.2.2 d_Ref_isOf_62
      · skip
        rw [if_neg hw1x]
        refine tp_pc (pc' := 23) (by rfl) ?_
        refine lv_if_eq (tgt := 61) hx hb d_Ref_isOf_23 (by decide) (fun c_3 => ?_) (fun c_3 => absurd c_3 (by decide))
        refine tp_pc (pc' := 61) (by rfl) ?_
        refine lv_iconst (v := 0) hx hb d_Ref_isOf_61 (by decide) ?_
        obtain ⟨hP9, hD9, -⟩ := cut3 (wc := [oc ra 8 [.int (nI T), .int (nI Ac), .ref (rA 2), .ref (rA 3), .ref (rA 4), .ref (rA 5), .ref (rA 6), .ref (rA 7), .ref (rA 8), .ref (rA 9), .ref (rA 10), .ref (rA 11), .ref (rA 12), .ref (rA 13), .int ir, .ref (rA 15), .ref (rA 16), .ref (rA 17), .ref (rA 18), .int (nI md), .int (nI wd), .ref (rA 21), .ref (rA 22), .ref (rA 23), .int (nI mn), .ref (rA 25), .int (nI cb), .int mr, .ref (rA 28), .ref (rA 29), .ref (rA 30), .ref (rA 31), .ref (rA 32), .ref (rA 33), .ref (rA 34), .ref (rA 35), .int (nI ld), .int (nI gm), .ref (rA 38), .ref (rA 39), .ref (rA 40), .ref (rA 41), .ref (rA 42), .ref (rA 43), .ref (rA 44), .ref (rA 45), .int (nI my), .ref (rA 47)], ia (rA 30) (rK9 30) 28 (fun i => nI (hp i)), ia (rA 3) (rK9 3) 28 (fun i => nI (kd i)), ia (rA 4) (rK9 4) 28 (fun i => nI (vx i))]) hP hD rfl hS hA [0, 1, 2, 3] (by decide +kernel) rfl
        have hK9 := hK.sub (tys' := []) [] rfl
        refine W.widen (k := 0) (n := 0) (by exact Nat.le_of_ble_eq_true rfl) (by exact Nat.le_of_ble_eq_true rfl) ?_
        exact W.zret (v := 0) (ty := .boolean) hx hb hr (by decide) (fun t9 ht9 hW => ⟨⟨0, (), rfl, by rw [if_neg (fun q => q.2.elim (fun q => hw1x q.2.1) (fun q => absurd q.1 (by omega)))], by rw [ht9]; exact hP9, va_K.moved hW.alike hK9, hD9⟩, hS.F ht9⟩) hS.2.2 d_Ref_isOf_62
