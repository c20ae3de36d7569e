section CLT
variable {md T Ac : Nat} {pg : Nat → Nat → Nat} {nm : Nat → Int32} {zs kd vx rr : Nat → Nat} {vv : Nat → Int32} {s : S7}
theorem reg_N (hX : PX T Ac pg nm zs kd vx rr vv) {a : Nat} (ha : a < Ac) : (abC md T pg (cN pg nm md s a)).2.1 = if pg 4 a = 0 ∨ pg 4 a = 3 then upd (abC md T pg s).2.1 (pg 6 a) (s.2.2.2.2.1 (src9 pg s.2.2.2.2.2.2 s.2.2.2.2.2.1 a)) else (abC md T pg s).2.1 := by
  have h6 := (hX.1.2.2.2.2.1 a ha).2.2.2.2.2
  show cutI 8 (rgP (pg 4 a) s.2.2.2.1 s.2.2.2.2.1 (pg 6 a) _) = _
  unfold rgP
  by_cases c : pg 4 a = 0 ∨ pg 4 a = 3
  · rw [if_pos c, if_pos c, cutI_up h6]; rfl
  · rw [if_neg c, if_neg c]; rfl
theorem held_wr (hI : IvC md T Ac pg nm s) {b : Nat} (hb : s.2.2.2.2.2.2.testBit b = true) : wr pg s.1 (b + 1) ∧ s.1.testBit b = true ∧ b < Ac ∧ (pg 4 b = 1 ∨ pg 4 b = 2) := by
  obtain ⟨s1, s2, s3, s4, s5, s6, s7, s8, s9⟩ := hI.2
  obtain ⟨c1, c2, c3⟩ := s8 b hb
  exact ⟨Or.inr ⟨by have := bit_hi s3 hb; omega, by rw [Nat.add_sub_cancel]; exact c1, by rw [Nat.add_sub_cancel]; omega, by rw [Nat.add_sub_cancel]; omega⟩, c1, c2, c3⟩
theorem mem_N (hX : PX T Ac pg nm zs kd vx rr vv) (hI : IvC md T Ac pg nm s) {t a : Nat} (ht : t < T) (hq : s.2.2.1 t < pg 0 t) (ha : a = pg 1 (t * 7 + s.2.2.1 t)) :
    (abC md T pg (cN pg nm md s a)).2.2.1 = if pg 4 a = 3 ∨ (md = 0 ∧ (pg 4 a = 1 ∨ pg 4 a = 2)) then upd (abC md T pg s).2.2.1 (pg 5 a) ((cN pg nm md s a).2.2.2.2.1 (a + 1)) else (abC md T pg s).2.2.1 := by
  obtain ⟨a1, a2, a3, a4, a5, a6⟩ := px_next hX hI.1 ht hq ha
  obtain ⟨s1, s2, s3, s4, s5, s6, s7, s8, s9⟩ := hI.2
  have cvk : ∀ q, wr pg s.1 q → (cN pg nm md s a).2.2.2.2.1 q = s.2.2.2.2.1 q := fun q h => vlP_bk h a5
  show cutI 3 (fun x => (cN pg nm md s a).2.2.2.2.1 (srcM (mmP md (pg 4 a) s.2.2.2.2.2.1 (pg 5 a) a) x)) = _
  unfold mmP
  by_cases c : pg 4 a = 3 ∨ (md = 0 ∧ (pg 4 a = 1 ∨ pg 4 a = 2))
  · have hx : pg 5 a < 3 := (hX.1.2.2.2.2.1 a a2).2.2.2.1 (by omega)
    rw [if_pos c, if_pos c]
    show _ = upd (cutI 3 _) _ _
    rw [← cutI_up hx]
    refine cutI_cg (fun y hy => ?_)
    rw [srcM_put _ s2 _ hx a a1 y hy]
    by_cases e : y = pg 5 a
    · rw [if_pos e, e, pk_us]
    · rw [if_neg e, pk_un e]; exact cvk _ (s7 y hy)
  · rw [if_neg c, if_neg c]
    exact cutI_cg (fun y hy => cvk _ (s7 y hy))
theorem bj_th {t x u y : Nat} (hmd : md < 3) (h0 : md ≠ 0) (hx : x < 3) (hy : y < 3) (h : bj md u y = bj md t x) : u = t := by
  rcases (by omega : md = 1 ∨ md = 2) with e | e
  · rw [e, bj_1, bj_1] at h; omega
  · rw [e, bj_2, bj_2] at h; omega
theorem buf_N (hX : PX T Ac pg nm zs kd vx rr vv) (hmd : md < 3) (hI : IvC md T Ac pg nm s) {t a : Nat} (ht : t < T) (hq : s.2.2.1 t < pg 0 t) (ha : a = pg 1 (t * 7 + s.2.2.1 t)) :
    (abC md T pg (cN pg nm md s a)).2.2.2 = if md ≠ 0 ∧ (pg 4 a = 1 ∨ pg 4 a = 2) then updB (abC md T pg s).2.2.2 (bj md t (pg 5 a)) ((abC md T pg s).2.2.2 (bj md t (pg 5 a)) ++ [(pg 5 a, (cN pg nm md s a).2.2.2.2.1 (a + 1))]) else (abC md T pg s).2.2.2 := by
  obtain ⟨a1, a2, a3, a4, a5, a6⟩ := px_next hX hI.1 ht hq ha
  have cvk : ∀ b, s.2.2.2.2.2.2.testBit b = true → (cN pg nm md s a).2.2.2.2.1 (b + 1) = s.2.2.2.2.1 (b + 1) := fun b h => vlP_bk (held_wr hI h).1 a5
  by_cases m0 : md = 0
  · rw [if_neg (fun q => q.1 m0)]
    funext j
    show (if md = 0 then [] else _) = (if md = 0 then [] else _)
    rw [if_pos m0, if_pos m0]
  · by_cases c : pg 4 a = 1 ∨ pg 4 a = 2
    · have hx : pg 5 a < 3 := (hX.1.2.2.2.2.1 a a2).2.2.2.1 (by omega)
      rw [if_pos ⟨m0, c⟩]
      funext j
      show (if md = 0 then [] else (hlL md pg (hdP md (pg 4 a) s.2.2.2.2.2.2 a) j).map (fun b => (pg 5 b, (cN pg nm md s a).2.2.2.2.1 (b + 1)))) = _
      unfold hdP
      rw [if_neg m0, if_pos ⟨m0, c⟩]
      have hall : ∀ i, (abC md T pg s).2.2.2 i = (hlL md pg s.2.2.2.2.2.2 i).map (fun b => (pg 5 b, s.2.2.2.2.1 (b + 1))) := fun i => by
        show (if md = 0 then [] else _) = _
        rw [if_neg m0]
      unfold updB
      by_cases e : j = bj md t (pg 5 a)
      · rw [if_pos e, e, hall]
        have hf : hlL md pg (s.2.2.2.2.2.2 ||| 2 ^ a) (bj md t (pg 5 a)) = hlL md pg s.2.2.2.2.2.2 (bj md t (pg 5 a)) ++ [a] := by
          unfold hlL
          refine fil_app (fun b => ?_) (fun b hb => ?_) 7 a1
          · by_cases z : b = a
            · rw [z, b_eq, a3, decide_eq_true rfl, decide_eq_true rfl, Bool.or_true]; rfl
            · rw [b_ne z, decide_eq_false z, Bool.or_false]
          · rw [Bool.and_eq_true] at hb
            obtain ⟨w1, w2, w3, w4⟩ := held_wr hI hb.1
            have hy : pg 5 b < 3 := (hX.1.2.2.2.2.1 b w3).2.2.2.1 (by omega)
            exact a6 b w2 (bj_th hmd m0 hx hy (of_decide_eq_true hb.2))
        rw [hf, List.map_append]
        refine congrArg (· ++ _) ?_
        refine List.map_congr_left (fun b hb => ?_)
        have := (List.mem_filter.mp hb).2
        rw [Bool.and_eq_true] at this
        rw [cvk b this.1]
      · rw [if_neg e, hall]
        have hf : hlL md pg (s.2.2.2.2.2.2 ||| 2 ^ a) j = hlL md pg s.2.2.2.2.2.2 j := by
          unfold hlL
          refine List.filter_congr (fun b _ => ?_)
          by_cases z : b = a
          · rw [z, a3, decide_eq_false (fun q => e q.symm), Bool.and_false, Bool.and_false]
          · rw [b_ne z]
        rw [hf]
        refine List.map_congr_left (fun b hb => ?_)
        have := (List.mem_filter.mp hb).2
        rw [Bool.and_eq_true] at this
        rw [cvk b this.1]
    · rw [if_neg (fun q => c q.2)]
      funext j
      show (if md = 0 then [] else (hlL md pg (hdP md (pg 4 a) s.2.2.2.2.2.2 a) j).map (fun b => (pg 5 b, (cN pg nm md s a).2.2.2.2.1 (b + 1)))) = (if md = 0 then [] else _)
      unfold hdP
      rw [if_neg m0, if_neg m0, if_neg (fun q => c q.2)]
      refine List.map_congr_left (fun b hb => ?_)
      have := (List.mem_filter.mp hb).2
      rw [Bool.and_eq_true] at this
      rw [cvk b this.1]
theorem val_N {a : Nat} : (pg 4 a = 1 → (cN pg nm md s a).2.2.2.2.1 (a + 1) = nm a) ∧ (pg 4 a = 2 → (cN pg nm md s a).2.2.2.2.1 (a + 1) = s.2.2.2.1 (pg 6 a) + nm a) ∧ (pg 4 a = 3 → (cN pg nm md s a).2.2.2.2.1 (a + 1) = s.2.2.2.2.1 (src9 pg s.2.2.2.2.2.2 s.2.2.2.2.2.1 a) + nm a) := by
  show (_ → vlP _ _ _ _ _ _ _ _ = _) ∧ (_ → vlP _ _ _ _ _ _ _ _ = _) ∧ (_ → vlP _ _ _ _ _ _ _ _ = _)
  unfold vlP
  refine ⟨fun e => ?_, fun e => ?_, fun e => ?_⟩
  · rw [if_pos e, pk_us]
  · rw [if_neg (by omega), if_pos e, pk_us]
  · rw [if_neg (by omega), if_neg (by omega), if_pos e, pk_us, pk_us]
theorem em_C (hX : PX T Ac pg nm zs kd vx rr vv) (hmd : md < 3) (m0 : md ≠ 0) (hI : IvC md T Ac pg nm s) {t : Nat} (ht : t < T) : emA (abC md T pg s).2.2.2 t ↔ s.2.2.2.2.2.2 &&& pg 8 t = 0 := by
  have hall : ∀ i, (abC md T pg s).2.2.2 i = (hlL md pg s.2.2.2.2.2.2 i).map (fun b => (pg 5 b, s.2.2.2.2.1 (b + 1))) := fun i => by
    show (if md = 0 then [] else _) = _
    rw [if_neg m0]
  have p9 := hX.1.2.2.2.2.2.2.2.2.1
  unfold emA
  rw [hall, hall, hall]
  constructor
  · intro h
    refine z_bits (fun b => ?_)
    cases hb : (s.2.2.2.2.2.2 &&& pg 8 t).testBit b with
    | false => rfl
    | true =>
      rw [Nat.testBit_and, Bool.and_eq_true] at hb
      obtain ⟨w1, w2, w3, w4⟩ := held_wr hI hb.1
      have hy : pg 5 b < 3 := (hX.1.2.2.2.2.1 b w3).2.2.2.1 (by omega)
      have h2 := ((p9 t b ht).mp hb.2).2
      have b7 : b < 7 := by have := hX.1.2.1; omega
      have hin : ∀ j, bj md t (pg 5 b) = j → (hlL md pg s.2.2.2.2.2.2 j).map (fun b => (pg 5 b, s.2.2.2.2.1 (b + 1))) ≠ [] := fun j hj e => by
        have hm : b ∈ hlL md pg s.2.2.2.2.2.2 j := List.mem_filter.mpr ⟨List.mem_range.mpr b7, by rw [hb.1, h2, decide_eq_true hj]; rfl⟩
        rw [List.map_eq_nil_iff.mp e] at hm
        exact absurd hm (List.not_mem_nil)
      rcases (by omega : md = 1 ∨ md = 2) with e | e
      · exact absurd h.1 (hin (3 * t) (by rw [e, bj_1]))
      · rcases (by omega : pg 5 b = 0 ∨ pg 5 b = 1 ∨ pg 5 b = 2) with e2 | e2 | e2
        · exact absurd h.1 (hin (3 * t) (by rw [e, bj_2, e2]; rfl))
        · exact absurd h.2.1 (hin (3 * t + 1) (by rw [e, bj_2, e2]))
        · exact absurd h.2.2 (hin (3 * t + 2) (by rw [e, bj_2, e2]))
  · intro h
    have hnil : ∀ i, i < 3 → (hlL md pg s.2.2.2.2.2.2 (3 * t + i)).map (fun b => (pg 5 b, s.2.2.2.2.1 (b + 1))) = [] := fun i hi => by
      unfold hlL
      rw [List.filter_eq_nil_iff.mpr (fun b _ q => ?_)]
      · rfl
      · rw [Bool.and_eq_true] at q
        obtain ⟨w1, w2, w3, w4⟩ := held_wr hI q.1
        have hy : pg 5 b < 3 := (hX.1.2.2.2.2.1 b w3).2.2.2.1 (by omega)
        have e := of_decide_eq_true q.2
        have e2 : pg 2 b = t := by
          rcases (by omega : md = 1 ∨ md = 2) with m | m
          · rw [m, bj_1] at e; omega
          · rw [m, bj_2] at e; omega
        have : (s.2.2.2.2.2.2 &&& pg 8 t).testBit b = true := by
          rw [Nat.testBit_and, q.1, (p9 t b ht).mpr ⟨w3, e2⟩]; rfl
        rw [h, Nat.zero_testBit] at this
        exact Bool.false_ne_true this
    exact ⟨hnil 0 (by omega), hnil 1 (by omega), hnil 2 (by omega)⟩
/-- what a READ gets -/
theorem rd_C (hX : PX T Ac pg nm zs kd vx rr vv) (hmd : md < 3) (m0 : md ≠ 0) (hI : IvC md T Ac pg nm s) {t x : Nat} (ht : t < T) (hx : x < 3) :
    rdL x (s.2.2.2.2.1 (srcM s.2.2.2.2.2.1 x)) ((abC md T pg s).2.2.2 (bj md t x)) = s.2.2.2.2.1 (srcF s.2.2.2.2.2.2 s.2.2.2.2.2.1 (pg 8 t) (pg 10 x) x) := by
  have hall : ∀ i, (abC md T pg s).2.2.2 i = (hlL md pg s.2.2.2.2.2.2 i).map (fun b => (pg 5 b, s.2.2.2.2.1 (b + 1))) := fun i => by
    show (if md = 0 then [] else _) = _
    rw [if_neg m0]
  have p9 := hX.1.2.2.2.2.2.2.2.2.1
  have p11 := hX.1.2.2.2.2.2.2.2.2.2.2
  have h3 := hI.2.2.2.1
  rw [hall]
  unfold hlL
  rw [rdL_fil]
  have e : laP (fun a => (s.2.2.2.2.2.2.testBit a && decide (bj md (pg 2 a) (pg 5 a) = bj md t x)) && decide (pg 5 a = x)) 7 = laP (fun a => (s.2.2.2.2.2.2 &&& pg 8 t &&& pg 10 x).testBit a) 7 := by
    refine laP_cg (fun b => ?_) 7
    rw [Nat.testBit_and, Nat.testBit_and]
    cases hb : s.2.2.2.2.2.2.testBit b with
    | false => rfl
    | true =>
      obtain ⟨w1, w2, w3, w4⟩ := held_wr hI hb
      have hy : pg 5 b < 3 := (hX.1.2.2.2.2.1 b w3).2.2.2.1 (by omega)
      rw [Bool.true_and, Bool.true_and]
      by_cases c : pg 2 b = t ∧ pg 5 b = x
      · rw [c.1, c.2, decide_eq_true rfl, decide_eq_true rfl, (p9 t b ht).mpr ⟨w3, c.1⟩, (p11 x b hx).mpr ⟨w3, by omega, c.2⟩]
      · have r : ((pg 8 t).testBit b && (pg 10 x).testBit b) = false := by
          cases q1 : (pg 8 t).testBit b with
          | false => rfl
          | true =>
            cases q2 : (pg 10 x).testBit b with
            | false => rfl
            | true => exact absurd ⟨((p9 t b ht).mp q1).2, ((p11 x b hx).mp q2).2.2⟩ c
        rw [r]
        by_cases c2 : pg 5 b = x
        · rw [decide_eq_false (fun q => c ⟨bj_th hmd m0 hx hy q, c2⟩), Bool.false_and]
        · rw [decide_eq_false c2, Bool.and_false]
  rw [e]
  have hw : s.2.2.2.2.2.2 &&& pg 8 t &&& pg 10 x < 128 := and_lt (and_lt h3)
  unfold srcF
  by_cases z : s.2.2.2.2.2.2 &&& pg 8 t &&& pg 10 x = 0
  · rw [if_pos ((la_0 _ hw).mpr z), if_pos z]
  · rw [if_neg (fun q => z ((la_0 _ hw).mp q)), if_neg z, hi9_la _ hw]
end CLT
