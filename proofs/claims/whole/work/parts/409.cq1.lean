/-- a part that is only read: the world stays -/
theorem lk9 {D : va_G} {cl : List vw_C} {ws wc : va_W} {st t : State} {sz : Nat} (hz : st.heap.size = sz) (hP : va_P D cl ws st.heap) (hD : va_D (fun _ => True) ws) (isC : List Nat) (hC : isC.map (fun i => ws[i]?) = wc.map some) (hF : va_F (va_A wc sz) st t) (hP1 : va_P D cl wc t.heap) : va_P D cl ws t.heap ∧ va_F (va_A ws sz) st t := by
  have at9 : ∀ (k : Nat) (q : Nat × va_E), wc[k]? = some q → ∃ i, ws[i]? = some q := fun k q hq => by
    have h1 : (isC.map (fun i => ws[i]?))[k]? = some (some q) := by rw [hC, List.getElem?_map, hq]; rfl
    rw [List.getElem?_map] at h1
    cases hi : isC[k]? with
    | none => rw [hi] at h1; cases h1
    | some i => rw [hi] at h1; exact ⟨i, Option.some.inj h1⟩
  refine ⟨fun k q hk => ?_, hF.1, fun q h1 h2 => hF.2 q h1 (fun w => h2 ?_)⟩
  · by_cases c : ∃ (j : Nat) (e : va_E), wc[j]? = some (q.1, e)
    · obtain ⟨j, e, hj⟩ := c
      obtain ⟨i, hi⟩ := at9 j _ hj
      have e1 := hD.1 i k _ _ hi hk rfl
      subst e1
      have e2 : q = (q.1, e) := Option.some.inj (hk.symm.trans hi)
      rw [e2]; exact hP1 j _ hj
    · have hl := (hP k q hk).lt
      exact (hP k q hk).kept (hF.2 q.1 hl (fun w => w.elim (fun ⟨j, e, h⟩ => c ⟨j, e, h⟩) (fun h => absurd hl (by omega))))
  · rcases w with ⟨j, e, h⟩ | h
    · obtain ⟨i, hi⟩ := at9 j _ h
      exact Or.inl ⟨i, e, hi⟩
    · exact Or.inr h
theorem Met_ro {l : Launch} {y : MethodName} {cs : List Cond} {rm : Room} {dC : Nat → ClassId} {dI : Nat → Nat → Nat} {as : List Value} {sz : Nat} {S : CX9} {wc : va_W} {tc tn : List (ClassId × FieldType)} {post : Int32 → Unit → Prop}
    (h : Met l y cs rm (va_Pc as (fun U => U.heap.size = sz ∧ va_P (dC, dI) classes wc U.heap ∧ va_K (dC, dI) classes tc U ∧ va_D (fun _ => True) wc ∧ nw U)) (va_Qi post (fun _ t9 => va_P (dC, dI) classes wc t9.heap ∧ va_K (dC, dI) classes tn t9 ∧ va_D (va_A wc sz) wc) (va_A wc sz)) 0 0 (va_A wc sz)) (isC isK : List Nat) (hn : va_nd isC = true) (hC : isC.map (fun i => (cw9 S)[i]?) = wc.map some) (hK : isK.filterMap (fun i => (ct9 S)[i]?) = tc) :
    Met l y cs rm (va_Pc as (SW9 dC dI S sz)) (va_Qi post (fun _ t9 => PW9 l dC dI S sz S t9) (va_A (cw9 S) sz)) 0 0 (va_A (cw9 S) sz) := by
  refine Met_lift (ws := cw9 S) (ts := ct9 S) h isC isK hn hC hK ?_
  intro a st o t hs hq
  obtain ⟨z1, z2, z3, z4, z5⟩ := hs
  obtain ⟨⟨r, u, e1, e2, q1, q2, q3⟩, q4⟩ := hq
  obtain ⟨w1, w2⟩ := lk9 z1 z2 z4 isC hC q4 q1
  exact ⟨⟨r, u, e1, e2, w1, ⟨tn, q2, fun q h => Or.inl h⟩, z4.self⟩, w2⟩
/-- what a ready set holds -/
def RdO9 (o : OS9) : Prop := o_C o ≤ 65536 ∧ ∃ n, o_n0 o = nI n ∧ n ≤ o_C o ∧ srt n (o_rf o) (o_vf o) (o_of o)
def LnO9 (o : OS9) : Prop := ∀ i, i < (o_n0 o).toNatClampNeg → o_lf o i = nI ((o_lf o i).toNatClampNeg) ∧ (o_lf o i).toNatClampNeg ≤ o_E o
def valX9 (o : OS9) (i w : Int32) : Int32 := valO (o_n0 o).toNatClampNeg (o_rf o) (o_vf o) (o_of o) i w
def stpX9 (o : OS9) (i w : Int32) : Int32 := stpO (o_E o) (o_n0 o).toNatClampNeg (fun i => (o_lf o i).toNatClampNeg) (o_qf o) (o_of o) i w
theorem n0_9 {o : OS9} {n : Nat} (h : o_n0 o = nI n) (h2 : n ≤ o_C o) (h3 : o_C o ≤ 65536) : (o_n0 o).toNatClampNeg = n := by rw [h, nI_clamp (by omega)]
set_option maxHeartbeats 4000000 in
set_option maxRecDepth 100000 in
theorem cVal9A (l : Launch) (dC : Nat → ClassId) (dI : Nat → Nat → Nat) (S : CX9) (m : Nat) (i9 w9 : Int32) (hm : m < 4) (hE2 : o_E (x_SA S m) ≤ 16) (hR : RdO9 (x_SA S m)) (sz : Nat) : Met l y_OutcomeSet_valueOf w_OutcomeSet_valueOf ({ frames := 0, cells := 0, slots := 0, locals := 0 }) (va_Pc [.ref (x_fA S m), .int i9, .int w9] (SW9 dC dI S sz)) (va_Qi (fun (r : Int32) (_ : Unit) => r = valX9 (x_SA S m) i9 w9) (fun _ t9 => PW9 l dC dI S sz S t9) (va_A (cw9 S) sz)) 0 0 (va_A (cw9 S) sz) := by
  obtain ⟨hC, n, h1, h2, h3⟩ := hR
  have hn9 := n0_9 h1 h2 hC
  have hCw : ([44 + 6 * m, 45 + 6 * m, 46 + 6 * m, 47 + 6 * m, 48 + 6 * m, 49 + 6 * m] : List Nat).map (fun i => (cw9 S)[i]?) = ([oc (x_fA S m) 3 [.int (nI (o_E (x_SA S m))), .ref (o_ad (x_SA S m) 1), .ref (o_ad (x_SA S m) 2), .ref (o_ad (x_SA S m) 3), .ref (o_ad (x_SA S m) 4), .ref (o_ad (x_SA S m) 5), .int (nI n), .int (o_sd (x_SA S m)), .int (o_rd (x_SA S m))], la (o_ad (x_SA S m) 1) (o_ck (x_SA S m) 1) (o_C (x_SA S m)) (o_rf (x_SA S m)), ia (o_ad (x_SA S m) 2) (o_ck (x_SA S m) 2) (o_C (x_SA S m)) (o_vf (x_SA S m)), ia (o_ad (x_SA S m) 3) (o_ck (x_SA S m) 3) (o_C (x_SA S m)) (o_lf (x_SA S m)), ia (o_ad (x_SA S m) 4) (o_ck (x_SA S m) 4) (o_C (x_SA S m) * o_E (x_SA S m)) (o_qf (x_SA S m)), ia (o_ad (x_SA S m) 5) (o_ck (x_SA S m) 5) (o_C (x_SA S m)) (fun i => nI (o_of (x_SA S m) i))] : va_W).map some := by
    have h9 : ([44 + 6 * m, 45 + 6 * m, 46 + 6 * m, 47 + 6 * m, 48 + 6 * m, 49 + 6 * m] : List Nat).map (fun i => (cw9 S)[i]?) = ([oc (x_fA S m) 3 [.int (nI (o_E (x_SA S m))), .ref (o_ad (x_SA S m) 1), .ref (o_ad (x_SA S m) 2), .ref (o_ad (x_SA S m) 3), .ref (o_ad (x_SA S m) 4), .ref (o_ad (x_SA S m) 5), .int (o_n0 (x_SA S m)), .int (o_sd (x_SA S m)), .int (o_rd (x_SA S m))], la (o_ad (x_SA S m) 1) (o_ck (x_SA S m) 1) (o_C (x_SA S m)) (o_rf (x_SA S m)), ia (o_ad (x_SA S m) 2) (o_ck (x_SA S m) 2) (o_C (x_SA S m)) (o_vf (x_SA S m)), ia (o_ad (x_SA S m) 3) (o_ck (x_SA S m) 3) (o_C (x_SA S m)) (o_lf (x_SA S m)), ia (o_ad (x_SA S m) 4) (o_ck (x_SA S m) 4) (o_C (x_SA S m) * o_E (x_SA S m)) (o_qf (x_SA S m)), ia (o_ad (x_SA S m) 5) (o_ck (x_SA S m) 5) (o_C (x_SA S m)) (fun i => nI (o_of (x_SA S m) i))] : va_W).map some := by
      have c : m = 0 ∨ m = 1 ∨ m = 2 ∨ m = 3 := by omega
      rcases c with rfl | rfl | rfl | rfl <;> rfl
    rw [h1] at h9; exact h9
  have hKw : ([37 + 5 * m, 38 + 5 * m, 39 + 5 * m, 40 + 5 * m, 41 + 5 * m] : List Nat).filterMap (fun i => (ct9 S)[i]?) = [((o_ck (x_SA S m) 1), .long), ((o_ck (x_SA S m) 2), .int), ((o_ck (x_SA S m) 3), .int), ((o_ck (x_SA S m) 4), .int), ((o_ck (x_SA S m) 5), .int)] := by
    have c : m = 0 ∨ m = 1 ∨ m = 2 ∨ m = 3 := by omega
    rcases c with rfl | rfl | rfl | rfl <;> rfl
  have hNd : va_nd ([44 + 6 * m, 45 + 6 * m, 46 + 6 * m, 47 + 6 * m, 48 + 6 * m, 49 + 6 * m] : List Nat) = true := by
    have c : m = 0 ∨ m = 1 ∨ m = 2 ∨ m = 3 := by omega
    rcases c with rfl | rfl | rfl | rfl <;> decide +kernel
  have h := gen_OutcomeSet_valueOf l dC dI (x_fA S m) (o_ad (x_SA S m)) (o_ck (x_SA S m)) (o_E (x_SA S m)) n (o_C (x_SA S m)) (o_rf (x_SA S m)) (o_vf (x_SA S m)) (o_lf (x_SA S m)) (o_qf (x_SA S m)) (o_of (x_SA S m)) (o_sd (x_SA S m)) (o_rd (x_SA S m)) i9 w9 hC h2 hE2 h3 sz
  have h := Met_ro (S := S) h _ _ hNd hCw hKw
  unfold valX9
  rw [hn9]; exact h
set_option maxHeartbeats 4000000 in
set_option maxRecDepth 100000 in
theorem cStp9A (l : Launch) (dC : Nat → ClassId) (dI : Nat → Nat → Nat) (S : CX9) (m : Nat) (i9 w9 : Int32) (hm : m < 4) (hE2 : o_E (x_SA S m) ≤ 16) (hR : RdO9 (x_SA S m)) (hLn : LnO9 (x_SA S m)) (sz : Nat) : Met l y_OutcomeSet_stepOf w_OutcomeSet_stepOf ({ frames := 0, cells := 0, slots := 0, locals := 0 }) (va_Pc [.ref (x_fA S m), .int i9, .int w9] (SW9 dC dI S sz)) (va_Qi (fun (r : Int32) (_ : Unit) => r = stpX9 (x_SA S m) i9 w9) (fun _ t9 => PW9 l dC dI S sz S t9) (va_A (cw9 S) sz)) 0 0 (va_A (cw9 S) sz) := by
  obtain ⟨hC, n, h1, h2, h3⟩ := hR
  have hn9 := n0_9 h1 h2 hC
  have hCw : ([44 + 6 * m, 45 + 6 * m, 46 + 6 * m, 47 + 6 * m, 48 + 6 * m, 49 + 6 * m] : List Nat).map (fun i => (cw9 S)[i]?) = ([oc (x_fA S m) 3 [.int (nI (o_E (x_SA S m))), .ref (o_ad (x_SA S m) 1), .ref (o_ad (x_SA S m) 2), .ref (o_ad (x_SA S m) 3), .ref (o_ad (x_SA S m) 4), .ref (o_ad (x_SA S m) 5), .int (nI n), .int (o_sd (x_SA S m)), .int (o_rd (x_SA S m))], la (o_ad (x_SA S m) 1) (o_ck (x_SA S m) 1) (o_C (x_SA S m)) (o_rf (x_SA S m)), ia (o_ad (x_SA S m) 2) (o_ck (x_SA S m) 2) (o_C (x_SA S m)) (o_vf (x_SA S m)), ia (o_ad (x_SA S m) 3) (o_ck (x_SA S m) 3) (o_C (x_SA S m)) (o_lf (x_SA S m)), ia (o_ad (x_SA S m) 4) (o_ck (x_SA S m) 4) (o_C (x_SA S m) * o_E (x_SA S m)) (o_qf (x_SA S m)), ia (o_ad (x_SA S m) 5) (o_ck (x_SA S m) 5) (o_C (x_SA S m)) (fun i => nI (o_of (x_SA S m) i))] : va_W).map some := by
    have h9 : ([44 + 6 * m, 45 + 6 * m, 46 + 6 * m, 47 + 6 * m, 48 + 6 * m, 49 + 6 * m] : List Nat).map (fun i => (cw9 S)[i]?) = ([oc (x_fA S m) 3 [.int (nI (o_E (x_SA S m))), .ref (o_ad (x_SA S m) 1), .ref (o_ad (x_SA S m) 2), .ref (o_ad (x_SA S m) 3), .ref (o_ad (x_SA S m) 4), .ref (o_ad (x_SA S m) 5), .int (o_n0 (x_SA S m)), .int (o_sd (x_SA S m)), .int (o_rd (x_SA S m))], la (o_ad (x_SA S m) 1) (o_ck (x_SA S m) 1) (o_C (x_SA S m)) (o_rf (x_SA S m)), ia (o_ad (x_SA S m) 2) (o_ck (x_SA S m) 2) (o_C (x_SA S m)) (o_vf (x_SA S m)), ia (o_ad (x_SA S m) 3) (o_ck (x_SA S m) 3) (o_C (x_SA S m)) (o_lf (x_SA S m)), ia (o_ad (x_SA S m) 4) (o_ck (x_SA S m) 4) (o_C (x_SA S m) * o_E (x_SA S m)) (o_qf (x_SA S m)), ia (o_ad (x_SA S m) 5) (o_ck (x_SA S m) 5) (o_C (x_SA S m)) (fun i => nI (o_of (x_SA S m) i))] : va_W).map some := by
      have c : m = 0 ∨ m = 1 ∨ m = 2 ∨ m = 3 := by omega
      rcases c with rfl | rfl | rfl | rfl <;> rfl
    rw [h1] at h9; exact h9
  have hKw : ([37 + 5 * m, 38 + 5 * m, 39 + 5 * m, 40 + 5 * m, 41 + 5 * m] : List Nat).filterMap (fun i => (ct9 S)[i]?) = [((o_ck (x_SA S m) 1), .long), ((o_ck (x_SA S m) 2), .int), ((o_ck (x_SA S m) 3), .int), ((o_ck (x_SA S m) 4), .int), ((o_ck (x_SA S m) 5), .int)] := by
    have c : m = 0 ∨ m = 1 ∨ m = 2 ∨ m = 3 := by omega
    rcases c with rfl | rfl | rfl | rfl <;> rfl
  have hNd : va_nd ([44 + 6 * m, 45 + 6 * m, 46 + 6 * m, 47 + 6 * m, 48 + 6 * m, 49 + 6 * m] : List Nat) = true := by
    have c : m = 0 ∨ m = 1 ∨ m = 2 ∨ m = 3 := by omega
    rcases c with rfl | rfl | rfl | rfl <;> decide +kernel
  have h := gen_OutcomeSet_stepOf l dC dI (x_fA S m) (o_ad (x_SA S m)) (o_ck (x_SA S m)) (o_E (x_SA S m)) n (o_C (x_SA S m)) (o_rf (x_SA S m)) (o_vf (x_SA S m)) (o_lf (x_SA S m)) (o_qf (x_SA S m)) (o_of (x_SA S m)) (o_sd (x_SA S m)) (o_rd (x_SA S m)) i9 w9 (fun i => (o_lf (x_SA S m) i).toNatClampNeg) hC h2 hE2 h3 (fun i hi => hLn i (by rw [hn9]; exact hi)) sz
  have h := Met_ro (S := S) h _ _ hNd hCw hKw
  unfold stpX9
  rw [hn9]; exact h
set_option maxHeartbeats 4000000 in
set_option maxRecDepth 100000 in
theorem cVal9B (l : Launch) (dC : Nat → ClassId) (dI : Nat → Nat → Nat) (S : CX9) (m : Nat) (i9 w9 : Int32) (hm : m < 4) (hE2 : o_E (x_SB S m) ≤ 16) (hR : RdO9 (x_SB S m)) (sz : Nat) : Met l y_OutcomeSet_valueOf w_OutcomeSet_valueOf ({ frames := 0, cells := 0, slots := 0, locals := 0 }) (va_Pc [.ref (x_fB S m), .int i9, .int w9] (SW9 dC dI S sz)) (va_Qi (fun (r : Int32) (_ : Unit) => r = valX9 (x_SB S m) i9 w9) (fun _ t9 => PW9 l dC dI S sz S t9) (va_A (cw9 S) sz)) 0 0 (va_A (cw9 S) sz) := by
  obtain ⟨hC, n, h1, h2, h3⟩ := hR
  have hn9 := n0_9 h1 h2 hC
  have hCw : ([68 + 6 * m, 69 + 6 * m, 70 + 6 * m, 71 + 6 * m, 72 + 6 * m, 73 + 6 * m] : List Nat).map (fun i => (cw9 S)[i]?) = ([oc (x_fB S m) 3 [.int (nI (o_E (x_SB S m))), .ref (o_ad (x_SB S m) 1), .ref (o_ad (x_SB S m) 2), .ref (o_ad (x_SB S m) 3), .ref (o_ad (x_SB S m) 4), .ref (o_ad (x_SB S m) 5), .int (nI n), .int (o_sd (x_SB S m)), .int (o_rd (x_SB S m))], la (o_ad (x_SB S m) 1) (o_ck (x_SB S m) 1) (o_C (x_SB S m)) (o_rf (x_SB S m)), ia (o_ad (x_SB S m) 2) (o_ck (x_SB S m) 2) (o_C (x_SB S m)) (o_vf (x_SB S m)), ia (o_ad (x_SB S m) 3) (o_ck (x_SB S m) 3) (o_C (x_SB S m)) (o_lf (x_SB S m)), ia (o_ad (x_SB S m) 4) (o_ck (x_SB S m) 4) (o_C (x_SB S m) * o_E (x_SB S m)) (o_qf (x_SB S m)), ia (o_ad (x_SB S m) 5) (o_ck (x_SB S m) 5) (o_C (x_SB S m)) (fun i => nI (o_of (x_SB S m) i))] : va_W).map some := by
    have h9 : ([68 + 6 * m, 69 + 6 * m, 70 + 6 * m, 71 + 6 * m, 72 + 6 * m, 73 + 6 * m] : List Nat).map (fun i => (cw9 S)[i]?) = ([oc (x_fB S m) 3 [.int (nI (o_E (x_SB S m))), .ref (o_ad (x_SB S m) 1), .ref (o_ad (x_SB S m) 2), .ref (o_ad (x_SB S m) 3), .ref (o_ad (x_SB S m) 4), .ref (o_ad (x_SB S m) 5), .int (o_n0 (x_SB S m)), .int (o_sd (x_SB S m)), .int (o_rd (x_SB S m))], la (o_ad (x_SB S m) 1) (o_ck (x_SB S m) 1) (o_C (x_SB S m)) (o_rf (x_SB S m)), ia (o_ad (x_SB S m) 2) (o_ck (x_SB S m) 2) (o_C (x_SB S m)) (o_vf (x_SB S m)), ia (o_ad (x_SB S m) 3) (o_ck (x_SB S m) 3) (o_C (x_SB S m)) (o_lf (x_SB S m)), ia (o_ad (x_SB S m) 4) (o_ck (x_SB S m) 4) (o_C (x_SB S m) * o_E (x_SB S m)) (o_qf (x_SB S m)), ia (o_ad (x_SB S m) 5) (o_ck (x_SB S m) 5) (o_C (x_SB S m)) (fun i => nI (o_of (x_SB S m) i))] : va_W).map some := by
      have c : m = 0 ∨ m = 1 ∨ m = 2 ∨ m = 3 := by omega
      rcases c with rfl | rfl | rfl | rfl <;> rfl
    rw [h1] at h9; exact h9
  have hKw : ([57 + 5 * m, 58 + 5 * m, 59 + 5 * m, 60 + 5 * m, 61 + 5 * m] : List Nat).filterMap (fun i => (ct9 S)[i]?) = [((o_ck (x_SB S m) 1), .long), ((o_ck (x_SB S m) 2), .int), ((o_ck (x_SB S m) 3), .int), ((o_ck (x_SB S m) 4), .int), ((o_ck (x_SB S m) 5), .int)] := by
    have c : m = 0 ∨ m = 1 ∨ m = 2 ∨ m = 3 := by omega
    rcases c with rfl | rfl | rfl | rfl <;> rfl
  have hNd : va_nd ([68 + 6 * m, 69 + 6 * m, 70 + 6 * m, 71 + 6 * m, 72 + 6 * m, 73 + 6 * m] : List Nat) = true := by
    have c : m = 0 ∨ m = 1 ∨ m = 2 ∨ m = 3 := by omega
    rcases c with rfl | rfl | rfl | rfl <;> decide +kernel
  have h := gen_OutcomeSet_valueOf l dC dI (x_fB S m) (o_ad (x_SB S m)) (o_ck (x_SB S m)) (o_E (x_SB S m)) n (o_C (x_SB S m)) (o_rf (x_SB S m)) (o_vf (x_SB S m)) (o_lf (x_SB S m)) (o_qf (x_SB S m)) (o_of (x_SB S m)) (o_sd (x_SB S m)) (o_rd (x_SB S m)) i9 w9 hC h2 hE2 h3 sz
  have h := Met_ro (S := S) h _ _ hNd hCw hKw
  unfold valX9
  rw [hn9]; exact h
