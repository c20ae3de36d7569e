section CLU
variable {md T Ac : Nat} {pg : Nat → Nat → Nat} {nm : Nat → Int32} {zs kd vx rr : Nat → Nat} {vv : Nat → Int32} {s : S7}
theorem ps_1 {K x : Nat} {r v : Int32} (h : ¬ K = 5) : psP K r v x = 1 := by unfold psP; exact if_neg (fun q => h q.1)
theorem abC_all (hX : PX T Ac pg nm zs kd vx rr vv) (hmd : md < 3) (hI : IvC md T Ac pg nm s) {t a : Nat} (ht : t < T) (hq : s.2.2.1 t < pg 0 t) (ha : a = pg 1 (t * 7 + s.2.2.1 t)) (h5 : ¬ pg 4 a = 5) :
    abC md T pg (cN pg nm md s a) = (updN (abC md T pg s).1 t (s.2.2.1 t + 1), (if pg 4 a = 0 ∨ pg 4 a = 3 then upd (abC md T pg s).2.1 (pg 6 a) (s.2.2.2.2.1 (src9 pg s.2.2.2.2.2.2 s.2.2.2.2.2.1 a)) else (abC md T pg s).2.1),
      (if pg 4 a = 3 ∨ (md = 0 ∧ (pg 4 a = 1 ∨ pg 4 a = 2)) then upd (abC md T pg s).2.2.1 (pg 5 a) ((cN pg nm md s a).2.2.2.2.1 (a + 1)) else (abC md T pg s).2.2.1),
      (if md ≠ 0 ∧ (pg 4 a = 1 ∨ pg 4 a = 2) then updB (abC md T pg s).2.2.2 (bj md t (pg 5 a)) ((abC md T pg s).2.2.2 (bj md t (pg 5 a)) ++ [(pg 5 a, (cN pg nm md s a).2.2.2.2.1 (a + 1))]) else (abC md T pg s).2.2.2)) := by
  obtain ⟨a1, a2, a3, a4, a5, a6⟩ := px_next hX hI.1 ht hq ha
  exact abC_N hX hI ht hq ha (by rw [ps_1 h5, if_neg (by omega)]) (reg_N hX a2) (mem_N hX hI ht hq ha) (buf_N hX hmd hI ht hq ha)
theorem src_0 (hI : IvC md T Ac pg nm s) {t a : Nat} (h2 : pg 2 a = t) (hk : pg 4 a = 0 ∨ pg 4 a = 3) (h0 : s.2.2.2.2.2.2 &&& pg 8 t = 0) : src9 pg s.2.2.2.2.2.2 s.2.2.2.2.2.1 a = srcM s.2.2.2.2.2.1 (pg 5 a) := by
  unfold src9 srcF
  rw [if_pos hk, h2, h0, Nat.zero_and, if_pos rfl]
theorem tu_C (hX : PX T Ac pg nm zs kd vx rr vv) (hmd : md < 3) (hI : IvC md T Ac pg nm s) {t a : Nat} (ht : t < T) (hq : s.2.2.1 t < pg 0 t) (ha : a = pg 1 (t * 7 + s.2.2.1 t)) (h5 : ¬ pg 4 a = 5) (hm : md = 0 ∨ pg 4 a = 3 ∨ pg 4 a = 4) (h0 : s.2.2.2.2.2.2 &&& pg 8 t = 0) :
    tuA kd vx rr vv (abC md T pg s) t (7 * t + s.2.2.1 t) = abC md T pg (cN pg nm md s a) := by
  obtain ⟨a1, a2, a3, a4, a5, a6⟩ := px_next hX hI.1 ht hq ha
  obtain ⟨f1, f2, f3, f4⟩ := hX.2.2.2.1 t _ ht hq
  rw [← ha] at f1 f2 f3 f4
  have A1 : (abC md T pg s).1 t = s.2.2.1 t := by rw [abC_1 hX.1.1 ht, if_neg (by omega)]
  obtain ⟨v1, v2, v3⟩ := val_N (pg := pg) (nm := nm) (md := md) (s := s) (a := a)
  obtain ⟨b1, b2, b3, b4, b5, b6⟩ := hX.1.2.2.2.2.1 a a2
  rw [abC_all hX hmd hI ht hq ha h5]
  unfold tuA
  rw [A1, f1, f2, f4, ← f3]
  by_cases k0 : pg 4 a = 0
  · rw [if_pos k0, if_pos (Or.inl k0), if_neg (by omega), if_neg (by omega), src_0 hI a3 (Or.inl k0) h0, abC_3 (b4 (by omega))]
  · rw [if_neg k0]
    by_cases k1 : pg 4 a = 1
    · rw [if_pos k1, if_neg (by omega), if_pos (by omega), if_neg (by omega), v1 k1]
    · rw [if_neg k1]
      by_cases k2 : pg 4 a = 2
      · rw [if_pos k2, if_neg (by omega), if_pos (by omega), if_neg (by omega), v2 k2, abC_2 b6]
      · rw [if_neg k2]
        by_cases k3 : pg 4 a = 3
        · rw [if_pos k3, if_pos (Or.inr k3), if_pos (Or.inl k3), if_neg (by omega), v3 k3, src_0 hI a3 (Or.inr k3) h0, abC_3 (b4 (by omega))]
        · rw [if_neg k3, if_neg (by omega), if_neg (by omega), if_neg (by omega)]
/-- the class's step by an action is the machine's -/
theorem simN (hX : PX T Ac pg nm zs kd vx rr vv) (hmd : md < 3) (hI : IvC md T Ac pg nm s) {t : Nat} (ht : t < T) :
    aF md zs kd vx rr vv (abC md T pg s) t 0 = if s.2.2.1 t < pg 0 t ∧ ¬ ((pg 4 (pg 1 (t * 7 + s.2.2.1 t)) = 4 ∨ pg 4 (pg 1 (t * 7 + s.2.2.1 t)) = 3) ∧ s.2.2.2.2.2.2 &&& pg 8 (pg 2 (pg 1 (t * 7 + s.2.2.1 t))) ≠ 0) then some (abC md T pg (cN pg nm md s (pg 1 (t * 7 + s.2.2.1 t)))) else none := by
  have hz := hX.2.2.1 t ht
  by_cases hq : s.2.2.1 t < pg 0 t
  · obtain ⟨a, ha⟩ : ∃ a, a = pg 1 (t * 7 + s.2.2.1 t) := ⟨_, rfl⟩
    obtain ⟨a1, a2, a3, a4, a5, a6⟩ := px_next hX hI.1 ht hq ha
    obtain ⟨f1, f2, f3, f4⟩ := hX.2.2.2.1 t _ ht hq
    rw [← ha] at f1 f2 f3 f4 ⊢
    have A1 : (abC md T pg s).1 t = s.2.2.1 t := by rw [abC_1 hX.1.1 ht, if_neg (by omega)]
    obtain ⟨b1, b2, b3, b4, b5, b6⟩ := hX.1.2.2.2.2.1 a a2
    unfold aF
    rw [A1, hz, f1, a3]
    by_cases k5 : pg 4 a = 5
    · rw [if_pos ⟨hq, k5, rfl⟩, if_pos ⟨hq, fun w => by omega⟩]
      refine congrArg some ?_
      rw [abC_N hX hI ht hq ha (R := (abC md T pg s).2.1) (M := (abC md T pg s).2.2.1) (L := (abC md T pg s).2.2.2) rfl (by rw [reg_N hX a2, if_neg (by omega)]) (by rw [mem_N hX hI ht hq ha, if_neg (by omega)]) (by rw [buf_N hX hmd hI ht hq ha, if_neg (by omega)])]
      unfold skA
      rw [A1, hz, f2, f4, ← f3, abC_2 b6]
      by_cases e : s.2.2.2.1 (pg 6 a) = nm a
      · have z : psP (pg 4 a) (s.2.2.2.1 (pg 6 a)) (nm a) (pg 5 a) = 1 := by unfold psP; exact if_neg (fun q => q.2 e)
        rw [if_pos e, z, if_neg (by omega)]
      · have z : psP (pg 4 a) (s.2.2.2.1 (pg 6 a)) (nm a) (pg 5 a) = 1 + pg 5 a := by unfold psP; exact if_pos ⟨k5, e⟩
        rw [if_neg e, z, ← Nat.add_assoc]
    · rw [if_neg (fun q => k5 q.2.1), if_neg (by omega), if_pos hq]
      by_cases m0 : md = 0
      · have hh := (hI.2.2.2.2.2.2.2.2.2 m0).1
        rw [if_pos m0, if_pos ⟨hq, fun w => w.2 (by rw [hh, Nat.zero_and])⟩, tu_C hX hmd hI ht hq ha k5 (Or.inl m0) (by rw [hh, Nat.zero_and])]
      · rw [if_neg m0]
        have em := em_C hX hmd m0 hI ht
        by_cases k34 : pg 4 a = 3 ∨ pg 4 a = 4
        · rw [if_pos k34]
          by_cases e : emA (abC md T pg s).2.2.2 t
          · rw [if_pos e, if_pos ⟨hq, fun w => w.2 (em.mp e)⟩, tu_C hX hmd hI ht hq ha k5 (Or.inr k34) (em.mp e)]
          · rw [if_neg e, if_neg (fun w => w.2 ⟨by omega, fun q => e (em.mpr q)⟩)]
        · rw [if_neg k34, if_pos ⟨hq, fun w => by omega⟩]
          refine congrArg some ?_
          have hx3 : pg 5 a < 3 := b4 (by omega)
          rw [abC_all hX hmd hI ht hq ha k5]
          obtain ⟨v1, v2, v3⟩ := val_N (pg := pg) (nm := nm) (md := md) (s := s) (a := a)
          unfold buA
          rw [A1, f1, f2, f4, ← f3]
          by_cases k0 : pg 4 a = 0
          · rw [if_pos k0, if_pos (Or.inl k0), if_neg (by omega), if_neg (by omega), abC_3 hx3, rd_C hX hmd m0 hI ht hx3]
            unfold src9
            rw [if_pos (Or.inl k0), a3]
          · rw [if_neg k0, if_neg (show ¬ (pg 4 a = 0 ∨ pg 4 a = 3) from by omega), if_neg (show ¬ (pg 4 a = 3 ∨ (md = 0 ∧ (pg 4 a = 1 ∨ pg 4 a = 2))) from by omega), if_pos (show md ≠ 0 ∧ (pg 4 a = 1 ∨ pg 4 a = 2) from ⟨m0, by omega⟩)]
            have e : (cN pg nm md s a).2.2.2.2.1 (a + 1) = if pg 4 a = 1 then nm a else (abC md T pg s).2.1 (pg 6 a) + nm a := by
              by_cases k1 : pg 4 a = 1
              · rw [if_pos k1, v1 k1]
              · rw [if_neg k1, v2 (by omega), abC_2 b6]
            rw [e]
  · rw [if_neg (fun w => hq w.1)]
    have A1 : (abC md T pg s).1 t = pg 0 t := by rw [abC_1 hX.1.1 ht]; split <;> omega
    unfold aF
    rw [A1, hz, if_neg (fun q => absurd q.1 (Nat.lt_irrefl _)), if_neg (by omega), if_neg (Nat.lt_irrefl _)]
/-- the class's step by a buffer is the machine's -/
theorem simL (hX : PX T Ac pg nm zs kd vx rr vv) (m0 : md ≠ 0) (hI : IvC md T Ac pg nm s) {j w : Nat} (h7 : w < 128) (hw : ∀ b, b < 7 → w.testBit b = (s.2.2.2.2.2.2.testBit b && decide (bj md (pg 2 b) (pg 5 b) = j))) :
    flA (abC md T pg s) j = if w = 0 then none else some (abC md T pg (cL pg s w)) := by
  have hall : ∀ i, (abC md T pg s).2.2.2 i = (hlL md pg s.2.2.2.2.2.2 i).map (fun b => (pg 5 b, s.2.2.2.2.1 (b + 1))) := fun i => by
    show (if md = 0 then [] else _) = _
    rw [if_neg m0]
  unfold flA
  by_cases z : w = 0
  · rw [if_pos z]
    have : hlL md pg s.2.2.2.2.2.2 j = [] := by
      unfold hlL
      refine List.filter_eq_nil_iff.mpr (fun b hb => ?_)
      rw [← hw b (List.mem_range.mp hb), z, Nat.zero_testBit]; exact Bool.false_ne_true
    rw [hall, this]; rfl
  · rw [if_neg z]
    obtain ⟨l1, l2, l3⟩ := lo9_min w h7 z
    have h3 := hI.2.2.2.1
    have h2 := hI.2.2.1
    have pa := hw _ l1
    rw [l2] at pa
    have pa2 := pa.symm
    rw [Bool.and_eq_true] at pa2
    obtain ⟨w1, w2, w3, w4⟩ := held_wr hI pa2.1
    have hx : pg 5 (lo9 w) < 3 := (hX.1.2.2.2.2.1 _ w3).2.2.2.1 (by omega)
    have hclr : ∀ b, (clr s.2.2.2.2.2.2 (lo9 w)).testBit b = (s.2.2.2.2.2.2.testBit b && !decide (b = lo9 w)) := fun b => by
      by_cases c : b < 7
      · rw [clr_bit _ h3 _ l1 b c]
        by_cases e : b = lo9 w
        · rw [e]; simp
        · rw [decide_eq_false e, show (lo9 w == b) = false from by simpa using fun q => e q.symm]
      · have q1 : (clr s.2.2.2.2.2.2 (lo9 w)).testBit b = false := by
          cases q : (clr s.2.2.2.2.2.2 (lo9 w)).testBit b with
          | false => rfl
          | true => exact absurd (bit_hi (clr_lt h3) q) c
        have q2 : s.2.2.2.2.2.2.testBit b = false := by
          cases q : s.2.2.2.2.2.2.testBit b with
          | false => rfl
          | true => exact absurd (bit_hi h3 q) c
        rw [q1, q2]; rfl
    have hf : hlL md pg s.2.2.2.2.2.2 j = lo9 w :: hlL md pg (clr s.2.2.2.2.2.2 (lo9 w)) j := by
      unfold hlL
      refine fil_rm (fun b => ?_) pa.symm (fun b hb => ?_) 7 l1
      · rw [hclr b]
        cases s.2.2.2.2.2.2.testBit b <;> cases decide (b = lo9 w) <;> cases decide (bj md (pg 2 b) (pg 5 b) = j) <;> rfl
      · rw [← hw b (by omega)]; exact l3 b hb
    rw [hall, hf]
    show some ((_, _, _, _) : AB) = some _
    refine congrArg some (Prod.ext rfl (Prod.ext rfl (Prod.ext ?_ ?_)))
    · show upd (cutI 3 _) (pg 5 (lo9 w)) (s.2.2.2.2.1 (lo9 w + 1)) = cutI 3 (fun y => s.2.2.2.2.1 (srcM (putM s.2.2.2.2.2.1 (pg 5 (lo9 w)) (lo9 w)) y))
      rw [← cutI_up hx]
      refine cutI_cg (fun y hy => ?_)
      rw [srcM_put _ h2 _ hx _ l1 y hy]
      by_cases e : y = pg 5 (lo9 w)
      · rw [if_pos e, e, pk_us]
      · rw [if_neg e, pk_un e]
    · funext i
      show updB _ j _ i = (if md = 0 then [] else (hlL md pg (clr s.2.2.2.2.2.2 (lo9 w)) i).map (fun b => (pg 5 b, s.2.2.2.2.1 (b + 1))))
      rw [if_neg m0]
      unfold updB
      by_cases c : i = j
      · rw [if_pos c, c]
      · rw [if_neg c, hall]
        refine congrArg (List.map _) ?_
        unfold hlL
        refine List.filter_congr (fun b _ => ?_)
        rw [hclr b]
        by_cases e : b = lo9 w
        · rw [e, of_decide_eq_true pa2.2, decide_eq_false (fun q => c q.symm), Bool.and_false, Bool.and_false]
        · rw [decide_eq_false e]; simp
theorem fmR9 {B : Type} {f : Nat → Option B} : (List.range 9).filterMap f = (f 0).toList ++ ((f 1).toList ++ ((f 2).toList ++ ((f 3).toList ++ ((f 4).toList ++ ((f 5).toList ++ ((f 6).toList ++ ((f 7).toList ++ (f 8).toList))))))) := by
  show [0, 1, 2, 3, 4, 5, 6, 7, 8].filterMap f = _
  rw [fm_cons, fm_cons, fm_cons, fm_cons, fm_cons, fm_cons, fm_cons, fm_cons, fm_cons, List.filterMap_nil, List.append_nil]
theorem nxF_flat {S : Type} {sF : S → Nat → Nat → Option S} {x : S} : ∀ T, nxF sF T x = (List.range T).flatMap (fun t => (List.range 9).filterMap (fun k => (sF x t k).map (fun s2 => (nI (100 * t + k), s2))))
  | 0 => rfl
  | T + 1 => by
    have ih := nxF_flat (sF := sF) (x := x) T
    unfold nxF at ih ⊢
    have hr : List.range (9 * (T + 1)) = List.range (9 * T) ++ (List.range 9).map (fun i => 9 * T + i) := by
      have := map_split (fun i => i) (9 * T) 9
      rw [List.map_id', List.map_id'] at this
      exact this
    rw [hr, List.filterMap_append, ih, List.range_succ (n := T), List.flatMap_append, List.flatMap_cons, List.flatMap_nil, List.append_nil, List.filterMap_map]
    refine congrArg (_ ++ ·) (fm_cg _ (fun k hk => ?_))
    have := List.mem_range.mp hk
    show (sF x ((9 * T + k) / 9) ((9 * T + k) % 9)).map _ = _
    rw [(by omega : (9 * T + k) / 9 = T), (by omega : (9 * T + k) % 9 = k)]
theorem w_1 (hX : PX T Ac pg nm zs kd vx rr vv) (hI : IvC 1 T Ac pg nm s) {t : Nat} (ht : t < T) (b : Nat) : (s.2.2.2.2.2.2 &&& pg 8 t).testBit b = (s.2.2.2.2.2.2.testBit b && decide (bj 1 (pg 2 b) (pg 5 b) = 3 * t)) := by
  rw [Nat.testBit_and]
  cases hb : s.2.2.2.2.2.2.testBit b with
  | false => rfl
  | true =>
    obtain ⟨w1, w2, w3, w4⟩ := held_wr hI hb
    rw [Bool.true_and, Bool.true_and, bj_1]
    have p9 := hX.1.2.2.2.2.2.2.2.2.1 t b ht
    by_cases c : pg 2 b = t
    · rw [p9.mpr ⟨w3, c⟩, decide_eq_true (by rw [c])]
    · rw [decide_eq_false (by omega)]
      cases q : (pg 8 t).testBit b with
      | false => rfl
      | true => exact absurd (p9.mp q).2 c
theorem w_2 (hX : PX T Ac pg nm zs kd vx rr vv) (hI : IvC 2 T Ac pg nm s) {t x : Nat} (ht : t < T) (hx : x < 3) (b : Nat) : (s.2.2.2.2.2.2 &&& pg 8 t &&& pg 10 x).testBit b = (s.2.2.2.2.2.2.testBit b && decide (bj 2 (pg 2 b) (pg 5 b) = 3 * t + x)) := by
  rw [Nat.testBit_and, Nat.testBit_and]
  cases hb : s.2.2.2.2.2.2.testBit b with
  | false => rfl
  | true =>
    obtain ⟨w1, w2, w3, w4⟩ := held_wr hI hb
    have hy : pg 5 b < 3 := (hX.1.2.2.2.2.1 b w3).2.2.2.1 (by omega)
    rw [Bool.true_and, Bool.true_and, bj_2]
    have p9 := hX.1.2.2.2.2.2.2.2.2.1 t b ht
    have p11 := hX.1.2.2.2.2.2.2.2.2.2.2 x b hx
    by_cases c : pg 2 b = t ∧ pg 5 b = x
    · rw [p9.mpr ⟨w3, c.1⟩, p11.mpr ⟨w3, by omega, c.2⟩, decide_eq_true (by rw [c.1, c.2])]; rfl
    · rw [decide_eq_false (by omega)]
      cases q : (pg 8 t).testBit b with
      | false => rfl
      | true =>
        cases q2 : (pg 10 x).testBit b with
        | false => rfl
        | true => exact absurd ⟨(p9.mp q).2, (p11.mp q2).2.2⟩ c
/-- the steps of the class are the machine's -/
theorem nxC_sim (hX : PX T Ac pg nm zs kd vx rr vv) (hmd : md < 3) (hI : IvC md T Ac pg nm s) : (nxC pg nm md T s).map (fun c => (c.1, abC md T pg c.2)) = nxF (aF md zs kd vx rr vv) T (abC md T pg s) := by
  rw [nxF_flat]
  unfold nxC
  rw [List.map_flatMap]
  have hfl : ∀ (l : List Nat) (f g : Nat → List (Int32 × AB)), (∀ t, t ∈ l → f t = g t) → l.flatMap f = l.flatMap g := fun l f g h => by
    induction l with
    | nil => rfl
    | cons a l ih => rw [List.flatMap_cons, List.flatMap_cons, h a (List.mem_cons_self ..), ih (fun t ht => h t (List.mem_cons_of_mem _ ht))]
  refine hfl _ _ _ (fun t ht => ?_)
  have ht := List.mem_range.mp ht
  have h3 := hI.2.2.2.1
  rw [fmR9, List.map_append]
  have eN : (nN pg nm md s t).map (fun c => (c.1, abC md T pg c.2)) = ((aF md zs kd vx rr vv (abC md T pg s) t 0).map (fun s2 => (nI (100 * t + 0), s2))).toList := by
    rw [simN hX hmd hI ht]
    unfold nN
    by_cases c : s.2.2.1 t < pg 0 t ∧ ¬ ((pg 4 (pg 1 (t * 7 + s.2.2.1 t)) = 4 ∨ pg 4 (pg 1 (t * 7 + s.2.2.1 t)) = 3) ∧ s.2.2.2.2.2.2 &&& pg 8 (pg 2 (pg 1 (t * 7 + s.2.2.1 t))) ≠ 0)
    · rw [if_pos c, if_pos c, (by omega : 100 * t + 0 = t * 100)]; rfl
    · rw [if_neg c, if_neg c]; rfl
  rw [eN]
  refine congrArg (_ ++ ·) ?_
  have no : ∀ k, 0 < k → ¬ ((md = 1 ∧ k = 1) ∨ (md = 2 ∧ k ≤ 3)) → aF md zs kd vx rr vv (abC md T pg s) t k = none := fun k h1 h2 => by
    unfold aF; rw [if_neg (by omega), if_pos h1, if_neg h2]
  have ye : ∀ k, 0 < k → ((md = 1 ∧ k = 1) ∨ (md = 2 ∧ k ≤ 3)) → aF md zs kd vx rr vv (abC md T pg s) t k = flA (abC md T pg s) (3 * t + (k - 1)) := fun k h1 h2 => by
    unfold aF; rw [if_neg (by omega), if_pos h1, if_pos h2]
  have lm : ∀ w num k : Nat, num = 100 * t + k → (lL pg s w num).map (fun c => (c.1, abC md T pg c.2)) = ((if w = 0 then none else some (abC md T pg (cL pg s w))).map (fun s2 => (nI (100 * t + k), s2))).toList := fun w num k e => by
    unfold lL
    by_cases z : w = 0
    · rw [if_pos z, if_pos z]; rfl
    · rw [if_neg z, if_neg z, e]; rfl
  rw [no 4 (by omega) (by omega), no 5 (by omega) (by omega), no 6 (by omega) (by omega), no 7 (by omega) (by omega), no 8 (by omega) (by omega)]
  unfold nB
  rcases (by omega : md = 0 ∨ md = 1 ∨ md = 2) with m | m | m
  · have hh := (hI.2.2.2.2.2.2.2.2.2 m).1
    rw [hh, Nat.zero_and, if_pos rfl, no 1 (by omega) (by omega), no 2 (by omega) (by omega), no 3 (by omega) (by omega)]; rfl
  · subst m
    rw [if_pos rfl, no 2 (by omega) (by omega), no 3 (by omega) (by omega), ye 1 (by omega) (by omega), show 3 * t + (1 - 1) = 3 * t from rfl, simL hX (by decide) hI (and_lt h3) (fun b _ => w_1 hX hI ht b), ← lm _ (t * 100 + 1) 1 (by omega)]
    unfold lL
    by_cases z : s.2.2.2.2.2.2 &&& pg 8 t = 0
    · rw [if_pos z, if_pos z]; rfl
    · rw [if_neg z, if_neg z]; rfl
  · subst m
    rw [if_neg (by decide : ¬ (2 = 1)), ye 1 (by omega) (by omega), ye 2 (by omega) (by omega), ye 3 (by omega) (by omega), show 3 * t + (1 - 1) = 3 * t + 0 from rfl, show 3 * t + (2 - 1) = 3 * t + 1 from rfl, show 3 * t + (3 - 1) = 3 * t + 2 from rfl,
      simL hX (by decide) hI (and_lt (and_lt h3)) (fun b _ => w_2 hX hI ht (by omega : 0 < 3) b), simL hX (by decide) hI (and_lt (and_lt h3)) (fun b _ => w_2 hX hI ht (by omega : 1 < 3) b), simL hX (by decide) hI (and_lt (and_lt h3)) (fun b _ => w_2 hX hI ht (by omega : 2 < 3) b),
      ← lm _ (t * 100 + 1 + 0) 1 (by omega), ← lm _ (t * 100 + 1 + 1) 2 (by omega), ← lm _ (t * 100 + 1 + 2) 3 (by omega)]
    by_cases z : s.2.2.2.2.2.2 &&& pg 8 t = 0
    · rw [if_pos z, z]
      unfold lL
      rw [Nat.zero_and, Nat.zero_and, Nat.zero_and, if_pos rfl, if_pos rfl, if_pos rfl]; rfl
    · rw [if_neg z, List.map_append, List.map_append]
      show _ = _ ++ (_ ++ (_ ++ (([] : List (Int32 × AB)) ++ ([] ++ ([] ++ ([] ++ []))))))
      simp only [List.append_nil, List.nil_append]
end CLU
