/-- an end: all threads are at their ends; the writers of each variable, the newest first -/
def EndC (T Ac : Nat) (pg : Nat → Nat → Nat) (nm : Nat → Int32) (dn : Nat) (so : Int64) (pl : Nat → Nat) (rg cv : Nat → Int32) (G : Nat → List Nat) : Prop :=
  PgI T Ac pg nm dn so pl rg cv ∧ PJ T pg dn pl ∧ (∀ t, t < T → pg 0 t ≤ pl t) ∧
  ∀ x, x < 3 → (G x).Nodup ∧ (∀ a, a ∈ G x ↔ dn.testBit a = true ∧ 1 ≤ pg 4 a ∧ pg 4 a ≤ 3 ∧ pg 5 a = x) ∧ (G x).Pairwise (fun b a => pg 2 b = pg 2 a → a < b) ∧ (∀ a, a ∈ G x → pg 4 a = 3 → sA so a = nxL a (G x))
def uE (rg cv : Nat → Int32) (G : Nat → List Nat) : Nat → Int32 := fun k => if k < 8 then rg k else cv (hdL (G (k - 8)))
/-- an end's digits -/
noncomputable def eK (pg : Nat → Nat → Nat) (dn : Nat) (so : Int64) (G : Nat → List Nat) (a : Nat) : Nat :=
  if dn.testBit a = false then 0 else if (wMk pg).testBit a = true then smB a (G (pg 5 a)) else if pg 4 a = 0 then (if sA so a = 0 then 0 else 1 + pop7 (wMk pg % 2 ^ (sA so a - 1)))
  else if pg 4 a = 5 then @ite _ (pg 3 a + 1 < pg 0 (pg 2 a) ∧ ¬ dnP pg dn (pg 2 a) (pg 3 a + 1)) (Classical.propDecidable _) 1 0 else 0
section ENS
variable {T Ac : Nat} {pg : Nat → Nat → Nat} {nm : Nat → Int32} {zs kd vx rr : Nat → Nat} {vv : Nat → Int32} {dn : Nat} {so : Int64} {pl : Nat → Nat} {rg cv : Nat → Int32} {G : Nat → List Nat}
theorem eK_lt (hX : PX T Ac pg nm zs kd vx rr vv) (hE : EndC T Ac pg nm dn so pl rg cv G) {a : Nat} : eK pg dn so G a < rdY (wMk pg) (pg 2) a := by
  have hW := wM_lt hX
  obtain ⟨hI, hJ, hF, hG⟩ := hE
  have hlen : (lwT (wMk pg) (pg 2) 7).length = pop7 (wMk pg) := by rw [lw_th 7, lw_pop _ hW]
  unfold eK rdY
  by_cases d : dn.testBit a = false
  · rw [if_pos d]; split <;> omega
  · have d1 : dn.testBit a = true := by simpa using d
    rw [if_neg d]
    obtain ⟨c1, -⟩ := hI.2.1 a d1
    by_cases w : (wMk pg).testBit a = true
    · rw [if_pos w, if_pos w]
      have hk := (wM_bit hX a).mp w
      have hx : pg 5 a < 3 := (hX.1.2.2.2.2.1 a c1).2.2.2.1 (by omega)
      obtain ⟨k1, k2, k3, -⟩ := hG _ hx
      have h1 := smB_oth (th := pg 2) (a := a) _ ((k2 a).mpr ⟨d1, hk.2.1, hk.2.2, rfl⟩) k3
      have h2 := nd_oth (W := wMk pg) (t := pg 2 a) (n := a) (th := pg 2) (L := (G (pg 5 a)).filter (fun b => decide (b < a ∧ pg 2 b ≠ pg 2 a))) (k1.sublist List.filter_sublist) (fun b hb => by
        obtain ⟨q1, q2⟩ := List.mem_filter.mp hb
        have q2 := of_decide_eq_true q2
        obtain ⟨r1, r2, r3, -⟩ := (k2 b).mp q1
        exact ⟨q2.1, (wM_bit hX b).mpr ⟨(hI.2.1 b r1).1, r2, r3⟩, q2.2⟩)
      omega
    · rw [if_neg w, if_neg w, hlen]
      by_cases k0 : pg 4 a = 0
      · rw [if_pos k0]
        by_cases z : sA so a = 0
        · rw [if_pos z]; omega
        · rw [if_neg z]
          rcases hI.2.2.2.2.2.2.2.1 a d1 (Or.inl k0) with y | ⟨y1, y2, y3, y4⟩
          · exact absurd y z
          · have := pop_lt (wMk pg) hW (sA so a - 1) (by omega) ((wM_bit hX _).mpr ⟨(hI.2.1 _ y2).1, y3, y4⟩)
            rw [if_neg (by omega)]; omega
      · rw [if_neg k0]
        have h2 : 1 < 1 + (if pop7 (wMk pg) = 0 then 1 else pop7 (wMk pg)) := by split <;> omega
        by_cases k5 : pg 4 a = 5
        · rw [if_pos k5]
          by_cases q : pg 3 a + 1 < pg 0 (pg 2 a) ∧ ¬ dnP pg dn (pg 2 a) (pg 3 a + 1)
          · rw [if_pos q]; exact h2
          · rw [if_neg q]; omega
        · rw [if_neg k5]; omega
/-- the digits tell the outcome -/
theorem eK_inj {dn2 : Nat} {so2 : Int64} {pl2 : Nat → Nat} {rg2 cv2 : Nat → Int32} {G2 : Nat → List Nat} (hX : PX T Ac pg nm zs kd vx rr vv) (hE : EndC T Ac pg nm dn so pl rg cv G) (hE2 : EndC T Ac pg nm dn2 so2 pl2 rg2 cv2 G2) (h : ∀ a, a < 7 → eK pg dn so G a = eK pg dn2 so2 G2 a) :
    ∀ k, k < 11 → uE rg cv G k = uE rg2 cv2 G2 k := by
  have hW := wM_lt hX
  have p4 := hX.1.2.2.2.1
  have p5 := hX.1.2.2.2.2.1
  obtain ⟨hI, hJ, hF, hG⟩ := hE
  obtain ⟨hI2, hJ2, hF2, hG2⟩ := hE2
  have skd : ∀ (dn : Nat) (so : Int64) (G : Nat → List Nat) (a : Nat), dn.testBit a = true → pg 4 a = 5 → (eK pg dn so G a = 1 ↔ pg 3 a + 1 < pg 0 (pg 2 a) ∧ ¬ dnP pg dn (pg 2 a) (pg 3 a + 1)) := fun dn so G a d k5 => by
    unfold eK
    have w : ¬ (wMk pg).testBit a = true := fun q => by have := (wM_bit hX a).mp q; omega
    rw [if_neg (by rw [d]; decide), if_neg w, if_neg (by omega), if_pos k5]
    by_cases q : pg 3 a + 1 < pg 0 (pg 2 a) ∧ ¬ dnP pg dn (pg 2 a) (pg 3 a + 1)
    · rw [if_pos q]; exact ⟨fun _ => q, fun _ => rfl⟩
    · rw [if_neg q]; exact ⟨fun z => by omega, fun z => absurd z q⟩
  have hdn : ∀ n t p, p < n → t < T → p < pg 0 t → (dnP pg dn t p ↔ dnP pg dn2 t p) := by
    intro n
    induction n with
    | zero => intro t p hp; exact absurd hp (Nat.not_lt_zero p)
    | succ n ih =>
      intro t p hp ht h0
      rw [PJ_end hX hI hJ hF ht h0, PJ_end hX hI2 hJ2 hF2 ht h0]
      have tr : ∀ q, q < p → dnP pg dn t q → dnP pg dn2 t q → pg 4 (pg 1 (t * 7 + q)) = 5 → (¬ dnP pg dn t (q + 1) ↔ ¬ dnP pg dn2 t (q + 1)) := fun q q1 q2 q3 k5 => by
        obtain ⟨c1, c2, c3⟩ := p4 t q ht q2.1
        have b7 : pg 1 (t * 7 + q) < 7 := by have := hX.1.2.1; omega
        have e1 := skd dn so G _ q2.2 k5
        have e2 := skd dn2 so2 G2 _ q3.2 k5
        rw [h _ b7] at e1
        rw [c2, c3] at e1 e2
        exact ⟨fun z => (e2.mp (e1.mpr ⟨by omega, z⟩)).2, fun z => (e1.mp (e2.mpr ⟨by omega, z⟩)).2⟩
      refine not_congr ⟨?_, ?_⟩
      · rintro ⟨q, q1, q2, q3, q4, q5⟩
        have q2' := (ih t q (by omega) ht q2.1).mp q2
        exact ⟨q, q1, q2', q3, q4, (tr q q1 q2 q2' q3).mp q5⟩
      · rintro ⟨q, q1, q2, q3, q4, q5⟩
        have q2' := (ih t q (by omega) ht q2.1).mpr q2
        exact ⟨q, q1, q2', q3, q4, (tr q q1 q2' q2 q3).mpr q5⟩
  have to1 : ∀ a, dn.testBit a = true → dn2.testBit a = true := fun a ha => by
    have c1 := (hI.2.1 a ha).1
    obtain ⟨d1, d2⟩ := hX.2.2.2.2.2 a c1
    have := (hdn (pg 3 a + 1) (pg 2 a) (pg 3 a) (Nat.lt_succ_self _) (p5 a c1).1 d1).mp ⟨d1, by rw [d2]; exact ha⟩
    have := this.2
    rw [d2] at this; exact this
  have to2 : ∀ a, dn2.testBit a = true → dn.testBit a = true := fun a ha => by
    have c1 := (hI2.2.1 a ha).1
    obtain ⟨d1, d2⟩ := hX.2.2.2.2.2 a c1
    have := (hdn (pg 3 a + 1) (pg 2 a) (pg 3 a) (Nat.lt_succ_self _) (p5 a c1).1 d1).mpr ⟨d1, by rw [d2]; exact ha⟩
    have := this.2
    rw [d2] at this; exact this
  have e1 : dn = dn2 := Nat.eq_of_testBit_eq (fun a => by
    cases y : dn.testBit a with
    | true => rw [to1 a y]
    | false =>
      cases y2 : dn2.testBit a with
      | false => rfl
      | true => rw [to2 a y2] at y; exact y.symm)
  subst e1
  have eG : ∀ x, x < 3 → G x = G2 x := fun x hx => by
    obtain ⟨k1, k2, -⟩ := hG x hx
    obtain ⟨j1, j2, -⟩ := hG2 x hx
    refine smB_inj _ _ k1 j1 (fun a => ?_) (fun a ha => ?_)
    · rw [k2 a, j2 a]
    · obtain ⟨q1, q2, q3, q4⟩ := (k2 a).mp ha
      have w := (wM_bit hX a).mpr ⟨(hI.2.1 a q1).1, q2, q3⟩
      have := h a (bit_hi hI.1 q1)
      unfold eK at this
      have n1 : ¬ dn.testBit a = false := by rw [q1]; decide
      rw [if_neg n1, if_neg n1, if_pos w, if_pos w, q4] at this
      exact this
  have hso : ∀ a, dn.testBit a = true → pg 4 a = 0 ∨ pg 4 a = 3 → sA so a = sA so2 a := fun a d hk => by
    obtain ⟨c1, -⟩ := hI.2.1 a d
    by_cases k3 : pg 4 a = 3
    · have hx : pg 5 a < 3 := (p5 a c1).2.2.2.1 (by omega)
      rw [(hG _ hx).2.2.2 a (((hG _ hx).2.1 a).mpr ⟨d, by omega, by omega, rfl⟩) k3, (hG2 _ hx).2.2.2 a (((hG2 _ hx).2.1 a).mpr ⟨d, by omega, by omega, rfl⟩) k3, eG _ hx]
    · have k0 : pg 4 a = 0 := by omega
      have w : ¬ (wMk pg).testBit a = true := fun q => by have := (wM_bit hX a).mp q; omega
      have := h a (bit_hi hI.1 d)
      unfold eK at this
      have n1 : ¬ dn.testBit a = false := by rw [d]; decide
      rw [if_neg n1, if_neg n1, if_neg w, if_neg w, if_pos k0, if_pos k0] at this
      have hs : ∀ (so : Int64) (pl : Nat → Nat) (rg cv : Nat → Int32), PgI T Ac pg nm dn so pl rg cv → sA so a ≠ 0 → sA so a - 1 < 7 ∧ (wMk pg).testBit (sA so a - 1) = true := fun so pl rg cv hI z => by
        rcases hI.2.2.2.2.2.2.2.1 a d (Or.inl k0) with y | ⟨y1, y2, y3, y4⟩
        · exact absurd y z
        · exact ⟨by omega, (wM_bit hX _).mpr ⟨(hI.2.1 _ y2).1, y3, y4⟩⟩
      by_cases y1 : sA so a = 0
      · by_cases y2 : sA so2 a = 0
        · rw [y1, y2]
        · rw [if_pos y1, if_neg y2] at this; omega
      · by_cases y2 : sA so2 a = 0
        · rw [if_neg y1, if_pos y2] at this; omega
        · rw [if_neg y1, if_neg y2] at this
          obtain ⟨r1, r2⟩ := hs so pl rg cv hI y1
          obtain ⟨r3, r4⟩ := hs so2 pl2 rg2 cv2 hI2 y2
          have := pop_in (wMk pg) hW _ r1 _ r3 r2 r4 (by omega)
          omega
  obtain ⟨u1, u2, u3⟩ := PgI_uni hX hI hI2 hso
  intro k hk
  unfold uE
  by_cases z : k < 8
  · rw [if_pos z, if_pos z]; exact u2 k z
  · rw [if_neg z, if_neg z, ← eG (k - 8) (by omega)]
    refine u1 _ ?_
    cases hg : G (k - 8) with
    | nil => exact Or.inl rfl
    | cons a l =>
      obtain ⟨q1, q2, q3, q4⟩ := ((hG (k - 8) (by omega)).2.1 a).mp (by rw [hg]; exact List.mem_cons_self ..)
      refine Or.inr ⟨?_, ?_, ?_, ?_⟩
      · show a + 1 < 8; have := bit_hi hI.1 q1; omega
      · show dn.testBit (a + 1 - 1) = true; rw [Nat.add_sub_cancel]; exact q1
      · show 1 ≤ pg 4 (a + 1 - 1); rw [Nat.add_sub_cancel]; exact q2
      · show pg 4 (a + 1 - 1) ≤ 3; rw [Nat.add_sub_cancel]; exact q3
/-- a program has at most 4000 outcomes -/
theorem ends_4000 {V : Type} {L : List V} {en : (Nat → Int32) → V} (hX : PX T Ac pg nm zs kd vx rr vv) (hn : L.Nodup) (hen : ∀ u w : Nat → Int32, (∀ k, k < 11 → u k = w k) → en u = en w)
    (h : ∀ v, v ∈ L → ∃ dn so pl rg cv G, EndC T Ac pg nm dn so pl rg cv G ∧ v = en (uE rg cv G)) : L.length ≤ 4000 := by
  refine code_rel (R := fun v n => ∃ dn so pl rg cv G, EndC T Ac pg nm dn so pl rg cv G ∧ v = en (uE rg cv G) ∧ n = mxN (rdY (wMk pg) (pg 2)) (eK pg dn so G) 7) hn (fun v hv => ?_) (fun v w n hv hw => ?_)
  · obtain ⟨dn, so, pl, rg, cv, G, h1, h2⟩ := h v hv
    exact ⟨_, Nat.lt_of_lt_of_le (mx_lt 7 (fun a _ => eK_lt hX h1)) (prY (fun a ha => by
      have := (hX.1.2.2.2.2.1 a ((wM_bit hX a).mp ha).1).1
      have := hX.1.1
      omega)), dn, so, pl, rg, cv, G, h1, h2, rfl⟩
  · obtain ⟨dn, so, pl, rg, cv, G, h1, h2, h3⟩ := hv
    obtain ⟨dn2, so2, pl2, rg2, cv2, G2, j1, j2, j3⟩ := hw
    have q := mx_inj 7 (fun a _ => ⟨eK_lt hX h1, eK_lt hX j1⟩) (h3.symm.trans j3)
    rw [h2, j2]
    exact hen _ _ (eK_inj hX h1 j1 q)
end ENS
