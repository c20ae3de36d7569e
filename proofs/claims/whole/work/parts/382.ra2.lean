theorem smN_0 {n : Nat} : smN (fun _ => 0) n = 0 := by
  induction n with
  | zero => rfl
  | succ n ih => rw [smN_s, ih]
theorem smN_add {f g : Nat → Nat} : ∀ n, smN (fun i => f i + g i) n = smN f n + smN g n
  | 0 => rfl
  | n + 1 => by rw [smN_s, smN_s, smN_s, smN_add n]; omega
theorem smN_sw {h : Nat → Nat → Nat} {m : Nat} : ∀ n, smN (fun i => smN (h i) m) n = smN (fun a => smN (fun i => h i a) n) m
  | 0 => by
    have e : (fun a => smN (fun i => h i a) 0) = fun _ => 0 := rfl
    rw [e, smN_0]; rfl
  | n + 1 => by
    rw [smN_s, smN_sw n, ← smN_add]; rfl
theorem smN_one {k v : Nat} : ∀ n, smN (fun i => if i = k then v else 0) n = if k < n then v else 0
  | 0 => by rw [if_neg (Nat.not_lt_zero k)]; rfl
  | n + 1 => by
    rw [smN_s, smN_one n]
    by_cases e : n = k
    · rw [if_pos e, if_neg (by omega), if_pos (by omega)]; omega
    · rw [if_neg e]
      by_cases q : k < n
      · rw [if_pos q, if_pos (show k < n + 1 from by omega), Nat.add_zero]
      · rw [if_neg q, if_neg (show ¬ k < n + 1 from by omega)]
def b2n (b : Bool) : Nat := if b = true then 1 else 0
/-- a relation that goes both ways and never to itself: each pair counts twice -/
theorem sm_twice {F : Nat → Nat → Bool} : ∀ n, (∀ i j, i < n → j < n → F i j = F j i) → (∀ i, i < n → F i i = false) → smN (fun i => smN (fun j => b2n (F i j)) n) n = 2 * smN (fun i => smN (fun k => b2n (F i (i + 1 + k))) (n - 1 - i)) n
  | 0, _, _ => rfl
  | n + 1, hs, hi => by
    have ih := sm_twice n (fun i j h1 h2 => hs i j (by omega) (by omega)) (fun i h1 => hi i (by omega))
    have e1 : smN (fun i => smN (fun j => b2n (F i j)) (n + 1)) n = smN (fun i => smN (fun j => b2n (F i j)) n) n + smN (fun i => b2n (F i n)) n := by
      rw [← smN_add]; rfl
    have e2 : smN (fun i => smN (fun k => b2n (F i (i + 1 + k))) (n + 1 - 1 - i)) n = smN (fun i => smN (fun k => b2n (F i (i + 1 + k))) (n - 1 - i)) n + smN (fun i => b2n (F i n)) n := by
      rw [← smN_add]
      refine smN_cg n (fun i hi2 => ?_)
      rw [(by omega : n + 1 - 1 - i = n - 1 - i + 1), smN_s, (by omega : i + 1 + (n - 1 - i) = n)]
    have e3 : smN (fun j => b2n (F n j)) (n + 1) = smN (fun i => b2n (F i n)) n := by
      rw [smN_s, hi n (Nat.lt_succ_self n)]
      show _ + 0 = _
      rw [Nat.add_zero]
      exact smN_cg n (fun i hi2 => by rw [hs n i (Nat.lt_succ_self n) (by omega)])
    have e4 : smN (fun k => b2n (F n (n + 1 + k))) (n + 1 - 1 - n) = 0 := by rw [(by omega : n + 1 - 1 - n = 0)]; rfl
    have l : smN (fun i => smN (fun j => b2n (F i j)) (n + 1)) (n + 1) = smN (fun i => smN (fun j => b2n (F i j)) (n + 1)) n + smN (fun j => b2n (F n j)) (n + 1) := rfl
    have r : smN (fun i => smN (fun k => b2n (F i (i + 1 + k))) (n + 1 - 1 - i)) (n + 1) = smN (fun i => smN (fun k => b2n (F i (i + 1 + k))) (n + 1 - 1 - i)) n + smN (fun k => b2n (F n (n + 1 + k))) (n + 1 - 1 - n) := rfl
    rw [l, r, e1, e2, e3, e4, ih]; omega
theorem pop_sm {q : Nat} (h : q < 128) : pop7 q = smN (fun b => b2n (q.testBit b)) 7 := by
  have d : ∀ q, q < 128 → pop7 q = smN (fun b => b2n (q.testBit b)) 7 := by decide +kernel
  exact d q h
section RCT
variable {E T Ac : Nat} {pg : Nat → Nat → Nat} {nm : Nat → Int32} {zs kd vx rr : Nat → Nat} {vv : Nat → Int32}
def inP (T : Nat) (pg : Nat → Nat → Nat) (i : Nat) : Bool := decide (i / 7 < T ∧ i % 7 < pg 0 (i / 7))
/-- a sum over the actions is a sum over the places -/
theorem sm_places (hX : PX T Ac pg nm zs kd vx rr vv) (h : Nat → Nat) : smN h Ac = smN (fun i => if inP T pg i = true then h (pg 1 i) else 0) 28 := by
  have hT := hX.1.1
  have e1 : ∀ i, i < 28 → (if inP T pg i = true then h (pg 1 i) else 0) = smN (fun a => if inP T pg i = true ∧ pg 1 i = a then h a else 0) Ac := fun i _ => by
    by_cases q : inP T pg i = true
    · have hi := id_at hX (of_decide_eq_true q)
      have : (fun a => if inP T pg i = true ∧ pg 1 i = a then h a else 0) = fun a => if a = pg 1 i then h (pg 1 i) else 0 := by
        funext a
        by_cases z : a = pg 1 i
        · rw [if_pos ⟨q, z.symm⟩, if_pos z, z]
        · rw [if_neg (fun w => z w.2.symm), if_neg z]
      rw [this, smN_one, if_pos q, if_pos hi.1]
    · have : (fun a => if inP T pg i = true ∧ pg 1 i = a then h a else 0) = fun _ => 0 := by
        funext a; exact if_neg (fun w => q w.1)
      rw [this, smN_0, if_neg q]
  rw [smN_cg 28 e1, smN_sw]
  refine smN_cg Ac (fun a ha => ?_)
  obtain ⟨x1, x2⟩ := hX.2.2.2.2.2 a ha
  have p2 := (hX.1.2.2.2.2.1 a ha).1
  have p7 := hX.1.2.2.1 _ p2
  have : (fun i => if inP T pg i = true ∧ pg 1 i = a then h a else 0) = fun i => if i = pg 2 a * 7 + pg 3 a then h a else 0 := by
    funext i
    by_cases z : i = pg 2 a * 7 + pg 3 a
    · rw [if_pos z, if_pos]
      rw [z]
      refine ⟨decide_eq_true ?_, x2⟩
      rw [(by omega : (pg 2 a * 7 + pg 3 a) / 7 = pg 2 a), (by omega : (pg 2 a * 7 + pg 3 a) % 7 = pg 3 a)]
      exact ⟨p2, x1⟩
    · rw [if_neg z, if_neg]
      rintro ⟨w1, w2⟩
      obtain ⟨-, y2, y3⟩ := id_at hX (of_decide_eq_true w1)
      rw [w2] at y2 y3
      omega
  rw [this, smN_one, if_pos (by omega)]
theorem rcS_sm {rc : Nat → Nat} : ∀ n, rcS rc n = smN (fun a => pop7 (rc a)) n
  | 0 => rfl
  | n + 1 => by rw [smN_s, ← rcS_sm n]; rfl
theorem mks_sym {m : Nat} : ∀ (A : AB) (i j : Nat), mks (nxF (aF 0 zs kd vx rr vv) T) (raA T zs kd vx) m A i j → mks (nxF (aF 0 zs kd vx rr vv) T) (raA T zs kd vx) m A j i := by
  induction m with
  | zero => intro A i j h; exact h
  | succ m ih =>
    intro A i j h
    unfold mks at h ⊢
    rcases h with ⟨t, u, h1, h2, h3, h4, h5, h6⟩ | ⟨c, hc, h⟩
    · exact Or.inl ⟨u, t, h2, h1, fun q => h3 q.symm, cnA_sym h4, h6, h5⟩
    · exact Or.inr ⟨c, hc, ih _ _ _ h⟩
theorem mks_irr (hz : ∀ t, t < T → zs t ≤ 7) {m : Nat} : ∀ (A : AB) (i : Nat), ¬ mks (nxF (aF 0 zs kd vx rr vv) T) (raA T zs kd vx) m A i i := by
  induction m with
  | zero => intro A i h; exact h
  | succ m ih =>
    intro A i h
    unfold mks at h
    rcases h with ⟨t, u, h1, h2, h3, h4, h5, h6⟩ | ⟨c, hc, h⟩
    · have q1 := h4.1
      have q2 := h4.2.1
      have := hz t h1
      have := hz u h2
      omega
    · exact ih _ _ h
/-- the number of the races -/
theorem races_eq (hX : PX T Ac pg nm zs kd vx rr vv) {rc : Nat → Nat} {f : Nat → Int32} (hrc : ∀ a, rc a < 128) (hbit : ∀ a b, a < Ac → (rc a).testBit b = true → b < Ac)
    (h1 : ∀ i j, (i / 7 < T ∧ i % 7 < pg 0 (i / 7)) → (j / 7 < T ∧ j % 7 < pg 0 (j / 7)) → ((rc (pg 1 i)).testBit (pg 1 j) = true ↔ ∃ m, mks (nxF (aF 0 zs kd vx rr vv) T) (raA T zs kd vx) m a0B i j))
    (h2 : ∀ i j, i < 28 → j < 28 → (f (28 * i + j) = 1 ↔ ∃ m, mks (nxF (aF 0 zs kd vx rr vv) T) (raA T zs kd vx) m a0B i j))
    (h3 : ∀ i j, (∃ m, mks (nxF (aF 0 zs kd vx rr vv) T) (raA T zs kd vx) m a0B i j) → (i / 7 < T ∧ i % 7 < pg 0 (i / 7)) ∧ (j / 7 < T ∧ j % 7 < pg 0 (j / 7))) :
    rcS rc Ac / 2 = smN (fun i => smN (fun k => b2n (decide (f (28 * i + (i + 1 + k)) = 1))) (27 - i)) 28 := by
  have hA := hX.1.2.1
  have hz := hX.2.1.2.1
  have e1 : rcS rc Ac = smN (fun a => smN (fun b => b2n ((rc a).testBit b)) Ac) Ac := by
    rw [rcS_sm]
    refine smN_cg Ac (fun a ha => ?_)
    rw [pop_sm (hrc a)]
    have : ∀ n, Ac ≤ n → n ≤ 7 → smN (fun b => b2n ((rc a).testBit b)) n = smN (fun b => b2n ((rc a).testBit b)) Ac := fun n hn h7 => by
      induction n with
      | zero => rw [(by omega : Ac = 0)]
      | succ n ih =>
        by_cases z : Ac = n + 1
        · rw [z]
        · rw [smN_s, ih (by omega) (by omega)]
          have : (rc a).testBit n = false := by
            cases q : (rc a).testBit n with
            | false => rfl
            | true => have := hbit a n ha q; omega
          rw [this]; rfl
    exact this 7 hA (Nat.le_refl 7)
  have e2 : rcS rc Ac = smN (fun i => smN (fun j => b2n (decide (f (28 * i + j) = 1))) 28) 28 := by
    rw [e1, sm_places hX]
    refine smN_cg 28 (fun i hi => ?_)
    by_cases q : inP T pg i = true
    · rw [if_pos q, sm_places hX]
      refine smN_cg 28 (fun j hj => ?_)
      by_cases q2 : inP T pg j = true
      · rw [if_pos q2]
        refine congrArg b2n ?_
        have g1 := h1 i j (of_decide_eq_true q) (of_decide_eq_true q2)
        have g2 := h2 i j hi hj
        cases z : (rc (pg 1 i)).testBit (pg 1 j) with
        | true => exact (decide_eq_true (g2.mpr (g1.mp z))).symm
        | false => exact (decide_eq_false (fun w => by rw [g1.mpr (g2.mp w)] at z; exact Bool.false_ne_true z.symm)).symm
      · rw [if_neg q2, decide_eq_false (fun w => q2 (decide_eq_true (h3 i j ((h2 i j hi hj).mp w)).2))]; rfl
    · rw [if_neg q]
      have : smN (fun j => b2n (decide (f (28 * i + j) = 1))) 28 = smN (fun _ => 0) 28 := smN_cg 28 (fun j hj => by
        rw [decide_eq_false (fun w => q (decide_eq_true (h3 i j ((h2 i j hi hj).mp w)).1))]; rfl)
      rw [this, smN_0]
  rw [e2, sm_twice (F := fun i j => decide (f (28 * i + j) = 1)) 28 (fun i j hi hj => ?_) (fun i hi => ?_), Nat.mul_div_cancel_left _ (by decide)]
  · refine decide_eq_decide.mpr ?_
    rw [h2 i j hi hj, h2 j i hj hi]
    exact ⟨fun ⟨m, q⟩ => ⟨m, mks_sym _ _ _ q⟩, fun ⟨m, q⟩ => ⟨m, mks_sym _ _ _ q⟩⟩
  · refine decide_eq_false (fun w => ?_)
    obtain ⟨m, q⟩ := (h2 i i hi hi).mp w
    exact mks_irr hz _ _ q
end RCT
