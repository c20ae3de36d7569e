theorem rL_ok9 {T Ac m : Nat} {pg : Nat → Nat → Nat} {nm : Nat → Int32} {zs kd vx rr : Nat → Nat} {vv : Nat → Int32} (hX : PX T Ac pg nm zs kd vx rr vv) (hm : m < 4) : (∀ r, r ∈ rL9 m T zs kd vx rr vv → okV r.1) ∧ (rL9 m T zs kd vx rr vv).length ≤ 4000 := by
  unfold rL9
  by_cases c : m = 3
  · rw [if_pos c]
    have hm := pdf_map (nx := nxF (aK zs kd vx rr vv) T) (oc := ocK) (en := enV) (Ok := okV) (Iv := RKA T zs) enV_in (fun A hA => ⟨uKA A, rfl, RKA_ok hX.2.1.1 hX.2.1.2.1 hA⟩) (fun A k hA hk => by
      obtain ⟨t, c, ht, _, e, _⟩ := nxF_mem hk
      exact RKA_s hX.2.1 hA ht e) 15 a0K [] [] (RKA_0 hX.2.1) (fun r hr => absurd hr (List.not_mem_nil))
    exact ⟨hm.2, outs_K hX⟩
  · rw [if_neg c]
    have hmd : m < 3 := by omega
    have hm := pdf_map (nx := nxF (aF m zs kd vx rr vv) T) (oc := ocA) (en := enV) (Ok := okV) (Iv := RA m T zs) enV_in (fun A hA => ⟨uA A, rfl, RA_ok hA⟩) (fun A k hA hk => by
      obtain ⟨t, c, ht, _, e, _⟩ := nxF_mem hk
      exact RA_s hX.2.1 hmd hA ht e) 15 a0B [] [] (RA_0 hX.2.1) (fun r hr => absurd hr (List.not_mem_nil))
    exact ⟨hm.2, outs_B hX hmd⟩
/-- a ready set of the class holds a list of outcomes -/
def ClO9 (L : List O9) (o : OS9) : Prop := ∃ F : List (Int64 × Int32 × List Int32), F.Perm (L.map kV9) ∧ o_n0 o = nI L.length ∧ srt L.length (o_rf o) (o_vf o) (o_of o) ∧ repH F (o_rf o) (o_vf o)
theorem Ru_Cl {L : List O9} {o : OS9} (h : RuS9 L o) : ClO9 L o := by
  obtain ⟨g, ⟨a1, a2, a3, a4⟩, e1, e2, e3⟩ := h
  have el : (gF g).length = L.length := by rw [e3, List.length_map]
  refine ⟨gF g, by rw [e3], by rw [← el]; exact e1, by rw [← el]; exact a3, fun i hi => ⟨(a4 i hi).1, (a4 i hi).2.1⟩⟩
theorem Gr_Cl {G : GG} {o : OS9} (h : GrS9 G o) : ClO9 G.2 o := by
  obtain ⟨g, ⟨a1, a2, a3, a4⟩, e1, e2, e3, e4⟩ := h
  have el : (gF g).length = G.2.length := by rw [e3.length_eq, List.length_map]
  exact ⟨gF g, e3, by rw [← el]; exact e1, by rw [← el]; exact a3, a4⟩
theorem okV_row {L : List O9} (hL : ∀ r, r ∈ L → okV r.1) {i : Nat} (hi : i < L.length) : ∀ j, j < 11 → okD (orow L i j) := fun j hj => by
  obtain ⟨u, e, hu⟩ := hL _ (oat_mem hi)
  unfold orow
  rw [e, v11_get hj]; exact hu j hj
/-- the i-th in rising order is the same for both -/
theorem row9 {L : List O9} {o : OS9} {se : Nat} {om or9 : Nat → Nat} {oc9 : Nat → Int32} {ws : Nat → Nat} {wi : Nat → Int32} (hL : ∀ r, r ∈ L → okV r.1) (hc : ClO9 L o) (ho : okO se L om or9 oc9 ws wi) {i : Nat} (hi : i < L.length) :
    o_rf o (o_of o i) = k1O (orow L (or9 (4000 * se + i))) ∧ o_vf o (o_of o i) = k2O (orow L (or9 (4000 * se + i))) := by
  obtain ⟨F, hF, h1, h2, h3⟩ := hc
  have el : F.length = L.length := by rw [hF.length_eq, List.length_map]
  have q := ris_eq (V := Int64 × Int32) (lt := fun a b => ltK a.1 a.2 b.1 b.2) (fun v => ltK_irr) (fun u v w => ltK_trans) (n := L.length) (m := L.length) (P := fun i => (o_rf o (o_of o i), o_vf o (o_of o i))) (Q := fun i => (k1O (orow L (or9 (4000 * se + i))), k2O (orow L (or9 (4000 * se + i)))))
    (fun a b hab hb => h2.2 a b hab hb)
    (fun a b hab hb => (keys_lx (okV_row hL (ho.2.2.2.1 a (by omega))) (okV_row hL (ho.2.2.2.1 b hb))).1.mpr (ho.2.2.2.2.1 a b hab hb))
    (fun a ha => by
      have hp := h2.1 a ha
      have hm : F[o_of o a]'(by omega) ∈ L.map kV9 := hF.mem_iff.mp (List.getElem_mem _)
      obtain ⟨r, hr, e⟩ := List.mem_map.mp hm
      obtain ⟨q, hq, eq⟩ := mem_oat hr
      obtain ⟨j, hj, ej⟩ := okO_onto ho q hq
      refine ⟨j, hj, ?_⟩
      rw [ej, (h3 _ (by omega)).1, (h3 _ (by omega)).2, ← e, ← eq]
      rfl)
    (fun b hb => by
      have hp := ho.2.2.2.1 b hb
      have hm : kV9 (oat L (or9 (4000 * se + b))) ∈ F := hF.mem_iff.mpr (List.mem_map.mpr ⟨_, oat_mem hp, rfl⟩)
      obtain ⟨p, hp, e⟩ := List.getElem_of_mem hm
      obtain ⟨i, hi, ei⟩ := srt_onto h2 p (by omega)
      refine ⟨i, hi, ?_⟩
      rw [ei, (h3 _ hp).1, (h3 _ hp).2, e]
      rfl)
  have q2 := (q.1 i hi).2
  exact ⟨(Prod.mk.inj q2).1, (Prod.mk.inj q2).2⟩
/-- outcome, ordered -/
theorem val_eq9 {L : List O9} {o : OS9} {se : Nat} {om or9 : Nat → Nat} {oc9 : Nat → Int32} {ws : Nat → Nat} {wi : Nat → Int32} (hL : ∀ r, r ∈ L → okV r.1) (hc : ClO9 L o) (ho : okO se L om or9 oc9 ws wi) {i9 w9 : Int32} : valX9 o i9 w9 = tolO se L.length oc9 or9 i9 w9 := by
  have e1 : (o_n0 o).toNatClampNeg = L.length := by
    obtain ⟨F, hF, h1, h2, h3⟩ := hc
    have := ho.2.1
    rw [h1, nI_clamp (by omega)]
  unfold valX9 valO tolO
  rw [e1]
  by_cases c : ¬ i9 < 0 ∧ i9.toNatClampNeg < L.length ∧ ¬ w9 < 0 ∧ w9.toNatClampNeg < 11
  · rw [if_pos c, if_pos c]
    obtain ⟨c1, c2, c3, c4⟩ := c
    have hp := ho.2.2.2.1 _ c2
    obtain ⟨q1, q2⟩ := row9 hL hc ho c2
    rw [(ho.2.2.1 _ hp _ c4).1, q1, q2]
    by_cases d : w9.toNatClampNeg < 8
    · rw [if_pos d]; exact dig_k1 (okV_row hL hp) d
    · rw [if_neg d]; exact dig_k2 (okV_row hL hp) (by omega) c4
  · rw [if_neg c, if_neg c]
/-- witness -/
theorem stp_eq9 {L : List O9} {o : OS9} {m : Nat} {R : RX9} {i9 w9 : Int32} (hm : m < 4) (hL : ∀ r, r ∈ L → okV r.1) (hE : o_E o ≤ 16) (hc : RuS9 L o) (ho : okO m L (r_om R) (r_or R) (r_oc R) (r_ws R) (r_wi R)) : stpX9 o i9 w9 = witR9 R m i9 w9 := by
  have hc2 := Ru_Cl hc
  have e1 : (o_n0 o).toNatClampNeg = L.length := by
    obtain ⟨F, hF, h1, h2, h3⟩ := hc2
    have := ho.2.1
    rw [h1, nI_clamp (by omega)]
  obtain ⟨g, ⟨a1, a2, a3, a4⟩, x1, x2, x3⟩ := hc
  have el : (gF g).length = L.length := by rw [x3, List.length_map]
  unfold stpX9 stpO witR9
  rw [e1, ho.1]
  by_cases c : ¬ i9 < 0 ∧ i9.toNatClampNeg < L.length
  · obtain ⟨c1, c2⟩ := c
    have hq := ho.2.2.2.1 _ c2
    obtain ⟨q1, q2⟩ := row9 hL hc2 ho c2
    rw [el] at a3
    have hp := a3.1 _ c2
    -- one place
    have epq : o_of o i9.toNatClampNeg = r_or R (4000 * m + i9.toNatClampNeg) := by
      obtain ⟨j, hj, ej⟩ := srt_onto a3 _ hq
      have k1 : o_rf o (o_of o j) = k1O (orow L (r_or R (4000 * m + i9.toNatClampNeg))) := by
        rw [ej, (a4 _ (by omega)).1]
        have : (gF g)[r_or R (4000 * m + i9.toNatClampNeg)]'(by omega) = kV9 (oat L (r_or R (4000 * m + i9.toNatClampNeg))) := by
          simp only [x3, List.getElem_map]
          congr 1
          unfold oat; rw [List.getD_eq_getElem?_getD, List.getElem?_eq_getElem hq]; rfl
        rw [this]; rfl
      have k2 : o_vf o (o_of o j) = k2O (orow L (r_or R (4000 * m + i9.toNatClampNeg))) := by
        rw [ej, (a4 _ (by omega)).2.1]
        have : (gF g)[r_or R (4000 * m + i9.toNatClampNeg)]'(by omega) = kV9 (oat L (r_or R (4000 * m + i9.toNatClampNeg))) := by
          simp only [x3, List.getElem_map]
          congr 1
          unfold oat; rw [List.getD_eq_getElem?_getD, List.getElem?_eq_getElem hq]; rfl
        rw [this]; rfl
      rcases Nat.lt_trichotomy i9.toNatClampNeg j with w | w | w
      · have := a3.2 _ _ w hj
        rw [q1, q2, k1, k2] at this; exact absurd this ltK_irr
      · rw [w, ej, ← w]
      · have := a3.2 _ _ w c2
        rw [q1, q2, k1, k2] at this; exact absurd this ltK_irr
    obtain ⟨q, hqe⟩ : ∃ q, q = r_or R (4000 * m + i9.toNatClampNeg) := ⟨_, rfl⟩
    rw [← hqe] at hq epq
    rw [epq, ← hqe]
    have hqF : q < (gF g).length := by omega
    have eF : (gF g)[q] = kV9 (oat L q) := by
      simp only [x3, List.getElem_map]
      congr 1
      unfold oat; rw [List.getD_eq_getElem?_getD, List.getElem?_eq_getElem hq]; rfl
    obtain ⟨b1, b2, b3, b4, b5⟩ := a4 q hqF
    obtain ⟨d1, d2, d3⟩ := ho.2.2.2.2.2.2 hm q hq
    have e2 : (gF g)[q].2.2 = (oat L q).2 := by rw [eF]; rfl
    have el2 : (gF g)[q].2.2.length = (oat L q).2.length := by rw [e2]
    have eln : (fun i => (o_lf o i).toNatClampNeg) q = (oat L q).2.length := by
      show (o_lf o q).toNatClampNeg = _
      rw [b3, nI_clamp (by omega), el2]
    rw [eln, d1]
    by_cases c3 : ¬ w9 < 0 ∧ w9.toNatClampNeg < (oat L q).2.length
    · rw [if_pos ⟨c1, c2, c3.1, c3.2⟩, if_pos ⟨c1, c2, c3.1, c3.2⟩, b5 _ (by omega), d3 _ c3.2]
      simp only [e2]
      rw [List.getD_eq_getElem?_getD, List.getElem?_eq_getElem c3.2]; rfl
    · rw [if_neg (fun w => c3 w.2.2), if_neg (fun w => c3 w.2.2)]
  · rw [if_neg (fun w => c ⟨w.1, w.2.1⟩), if_neg (fun w => c ⟨w.1, w.2.1⟩)]
/-- beyond -/
theorem mis_eq9 {La Lb : List O9} {a b : OS9} (hLa : ∀ r, r ∈ La → okV r.1) (hLb : ∀ r, r ∈ Lb → okV r.1) (la : La.length ≤ 4000) (lb : Lb.length ≤ 4000) (ha : RuS9 La a) (hb : RuS9 Lb b) : msX9 a b = byN9 La Lb La.length := by
  obtain ⟨g, ⟨a1, a2, a3, a4⟩, x1, x2, x3⟩ := ha
  obtain ⟨k, ⟨b1, b2, b3, b4⟩, y1, y2, y3⟩ := hb
  have el : (gF g).length = La.length := by rw [x3, List.length_map]
  have ek : (gF k).length = Lb.length := by rw [y3, List.length_map]
  unfold msX9
  rw [x1, y1, nI_clamp (by omega), nI_clamp (by omega), el]
  have go : ∀ i, i ≤ La.length → msN (o_rf a) (o_vf a) (o_rf b) (o_vf b) (o_of b) (gF k).length i = byN9 La Lb i := by
    intro i
    induction i with
    | zero => intro _; rfl
    | succ i ih =>
      intro hi
      have ih := ih (by omega)
      have hiF : i < (gF g).length := by omega
      have eF : (gF g)[i] = kV9 (oat La i) := by
        simp only [x3, List.getElem_map]
        congr 1
        unfold oat; rw [List.getD_eq_getElem?_getD, List.getElem?_eq_getElem (by omega)]; rfl
      unfold msN byN9
      rw [ih, hasO_rep b4 b3, (a4 i hiF).1, (a4 i hiF).2.1, eF]
      have : (gF k).any (fun r => r.1 == (kV9 (oat La i)).1 && r.2.1 == (kV9 (oat La i)).2.1) = Lb.any (fun r => r.1 == (oat La i).1) := by
        rw [Bool.eq_iff_iff, List.any_eq_true, List.any_eq_true]
        constructor
        · rintro ⟨r, hr, hp⟩
          rw [y3] at hr
          obtain ⟨s, hs, e⟩ := List.mem_map.mp hr
          have hp2 : r.1 = (kV9 (oat La i)).1 ∧ r.2.1 = (kV9 (oat La i)).2.1 := by simpa using hp
          refine ⟨s, hs, ?_⟩
          have : s.1 = (oat La i).1 := enV_in _ _ (hLb s hs) (hLa _ (oat_mem (by omega))) (by
            rw [← e] at hp2
            exact Prod.ext hp2.1 hp2.2)
          rw [this]; exact beq_self_eq_true _
        · rintro ⟨s, hs, hp⟩
          have hp2 : s.1 = (oat La i).1 := by simpa using hp
          refine ⟨kV9 s, by rw [y3]; exact List.mem_map.mpr ⟨s, hs, rfl⟩, ?_⟩
          unfold kV9
          rw [hp2]; simp
      rw [this]
      split <;> rfl
  exact go _ (Nat.le_refl _)
