theorem andn_b0 : ∀ a, a < 128 → ∀ b, b < 128 → ∀ i, i < 7 → (andn a b).testBit i = (a.testBit i && !b.testBit i) := by decide +kernel
theorem andn_b {a b i : Nat} (ha : a < 128) (hb : b < 128) : (andn a b).testBit i = (a.testBit i && !b.testBit i) := by
  by_cases hi : i < 7
  · exact andn_b0 a ha b hb i hi
  · have z : ∀ k, k < 128 → k.testBit i = false := fun k hk => by
      cases q : k.testBit i with
      | false => rfl
      | true => exact absurd (bit_hi hk q) hi
    rw [z _ (andn_lt ha), z a ha]; rfl
section RAC
variable {E T Ac : Nat} {pg : Nat → Nat → Nat} {nm : Nat → Int32} {zs kd vx rr : Nat → Nat} {vv : Nat → Int32}
theorem nxM_b {pl : Nat → Nat} {a : Nat} : ∀ n, (nxM pg pl n).testBit a = true ↔ ∃ t, t < n ∧ pl t < pg 0 t ∧ a = pg 1 (t * 7 + pl t)
  | 0 => ⟨fun q => by have q : Nat.testBit 0 a = true := q; rw [Nat.zero_testBit] at q; exact absurd q Bool.false_ne_true, fun ⟨t, ht, _⟩ => absurd ht (Nat.not_lt_zero t)⟩
  | n + 1 => by
    unfold nxM
    rw [Nat.testBit_or, Bool.or_eq_true, nxM_b n]
    constructor
    · rintro (⟨t, h1, h2⟩ | h)
      · exact ⟨t, by omega, h2⟩
      · by_cases q : pl n < pg 0 n
        · rw [if_pos q, Nat.testBit_two_pow] at h
          exact ⟨n, Nat.lt_succ_self n, q, (of_decide_eq_true h).symm⟩
        · rw [if_neg q, Nat.zero_testBit] at h; exact absurd h Bool.false_ne_true
    · rintro ⟨t, h1, h2, h3⟩
      by_cases z : t = n
      · rw [z] at h2 h3
        refine Or.inr ?_
        rw [if_pos h2, Nat.testBit_two_pow, h3]; exact decide_eq_true rfl
      · exact Or.inl ⟨t, by omega, h2, h3⟩
theorem riv_b (hX : PX T Ac pg nm zs kd vx rr vv) {a b : Nat} (ha : a < Ac) : (rivS (pg 4 a) (pg 10 (pg 5 a)) (pg 8 (pg 2 a)) (pg 9 0) (pg 9 3)).testBit b = true ↔ b < Ac ∧ pg 4 a < 4 ∧ pg 4 b < 4 ∧ pg 5 b = pg 5 a ∧ pg 2 b ≠ pg 2 a ∧ ¬ (pg 4 a = 0 ∧ pg 4 b = 0) ∧ ¬ (pg 4 a = 3 ∧ pg 4 b = 3) := by
  obtain ⟨p1, p2, p3, p4, p5, p6, p7, p8, p9, p10, p11⟩ := hX.1
  obtain ⟨b1, b2, b3, b4, b5, b6⟩ := p5 a ha
  unfold rivS
  by_cases k4 : 4 ≤ pg 4 a
  · rw [if_pos k4, Nat.zero_testBit]
    exact ⟨fun q => absurd q Bool.false_ne_true, fun q => by omega⟩
  · have hx := b4 (by omega)
    have h10 := p11 (pg 5 a) b hx
    have h8 := p9 (pg 2 a) b b1
    have h90 := p10 0 b (by omega)
    have h93 := p10 3 b (by omega)
    have base : (andn (pg 10 (pg 5 a)) (pg 8 (pg 2 a))).testBit b = true ↔ b < Ac ∧ pg 4 b < 4 ∧ pg 5 b = pg 5 a ∧ pg 2 b ≠ pg 2 a := by
      rw [andn_b (p8 _) (p6 _), Bool.and_eq_true, h10, Bool.not_eq_true', ← Bool.not_eq_true, h8]
      exact ⟨fun q => ⟨q.1.1, q.1.2.1, q.1.2.2, fun z => q.2 ⟨q.1.1, z⟩⟩, fun q => ⟨⟨q.1, q.2.1, q.2.2.1⟩, fun z => q.2.2.2 z.2⟩⟩
    rw [if_neg k4]
    by_cases k0 : pg 4 a = 0
    · rw [if_pos k0, andn_b (andn_lt (p8 _)) (p7 _), Bool.and_eq_true, base, Bool.not_eq_true', ← Bool.not_eq_true, h90]
      exact ⟨fun q => ⟨q.1.1, by omega, q.1.2.1, q.1.2.2.1, q.1.2.2.2, fun z => q.2 ⟨q.1.1, z.2⟩, fun z => by omega⟩, fun q => ⟨⟨q.1, q.2.2.1, q.2.2.2.1, q.2.2.2.2.1⟩, fun z => q.2.2.2.2.2.1 ⟨k0, z.2⟩⟩⟩
    · rw [if_neg k0]
      by_cases k3 : pg 4 a = 3
      · rw [if_pos k3, andn_b (andn_lt (p8 _)) (p7 _), Bool.and_eq_true, base, Bool.not_eq_true', ← Bool.not_eq_true, h93]
        exact ⟨fun q => ⟨q.1.1, by omega, q.1.2.1, q.1.2.2.1, q.1.2.2.2, fun z => k0 z.1, fun z => q.2 ⟨q.1.1, z.2⟩⟩, fun q => ⟨⟨q.1, q.2.2.1, q.2.2.2.1, q.2.2.2.2.1⟩, fun z => q.2.2.2.2.2.2 ⟨k3, z.2⟩⟩⟩
      · rw [if_neg k3, base]
        exact ⟨fun q => ⟨q.1, by omega, q.2.1, q.2.2.1, q.2.2.2, fun z => k0 z.1, fun z => k3 z.1⟩, fun q => ⟨q.1, q.2.2.1, q.2.2.2.1, q.2.2.2.2.1⟩⟩
theorem rcN_b {M : Nat} {f : Nat → Nat} {a b : Nat} : ∀ n, (rcN pg M f n a).testBit b = true ↔ (f a).testBit b = true ∨ (a < n ∧ M.testBit a = true ∧ M.testBit b = true ∧ (rivS (pg 4 a) (pg 10 (pg 5 a)) (pg 8 (pg 2 a)) (pg 9 0) (pg 9 3)).testBit b = true)
  | 0 => ⟨fun q => Or.inl q, fun q => by
    rcases q with q | q
    · exact q
    · exact absurd q.1 (Nat.not_lt_zero a)⟩
  | n + 1 => by
    have ih := rcN_b (M := M) (f := f) (a := a) (b := b) n
    unfold rcN
    by_cases e : a = n
    · rw [e] at ih ⊢
      by_cases q : M / 2 ^ n % 2 = 1
      · rw [if_pos q, updN_s, Nat.testBit_or, Bool.or_eq_true, Nat.testBit_and, Bool.and_eq_true, ih]
        constructor
        · rintro ((h | h) | h)
          · exact Or.inl h
          · exact absurd h.1 (Nat.lt_irrefl n)
          · exact Or.inr ⟨Nat.lt_succ_self n, tb_div.mp q, h.1, h.2⟩
        · rintro (h | h)
          · exact Or.inl (Or.inl h)
          · exact Or.inr h.2.2
      · rw [if_neg q, ih]
        constructor
        · rintro (h | h)
          · exact Or.inl h
          · exact absurd h.1 (Nat.lt_irrefl n)
        · rintro (h | h)
          · exact Or.inl h
          · exact absurd (tb_div.mpr h.2.1) q
    · have z : ∀ v, (if M / 2 ^ n % 2 = 1 then updN (rcN pg M f n) n v else rcN pg M f n) a = rcN pg M f n a := fun v => by
        split
        · exact updN_n e
        · rfl
      rw [z, ih]
      constructor
      · rintro (h | h)
        · exact Or.inl h
        · exact Or.inr ⟨by omega, h.2⟩
      · rintro (h | h)
        · exact Or.inl h
        · exact Or.inr ⟨by omega, h.2⟩
/-- a mark of the class, by places -/
def mkC9 (T : Nat) (pg : Nat → Nat → Nat) (g : G9) (i j : Nat) : Prop := (i / 7 < T ∧ i % 7 < pg 0 (i / 7)) ∧ (j / 7 < T ∧ j % 7 < pg 0 (j / 7)) ∧ ((gR g) (pg 1 i)).testBit (pg 1 j) = true
theorem id_at (hX : PX T Ac pg nm zs kd vx rr vv) {i : Nat} (h : i / 7 < T ∧ i % 7 < pg 0 (i / 7)) : pg 1 i < Ac ∧ pg 2 (pg 1 i) = i / 7 ∧ pg 3 (pg 1 i) = i % 7 := by
  have := hX.1.2.2.2.1 (i / 7) (i % 7) h.1 h.2
  rw [(by omega : i / 7 * 7 + i % 7 = i)] at this
  exact this
theorem note_mk (hX : PX T Ac pg nm zs kd vx rr vv) {s : S7} (hI : IvC 0 T Ac pg nm s) {g : G9} {i j : Nat} : mkC9 T pg (preC pg 0 T Ac s g) i j ↔ mkC9 T pg g i j ∨ raA T zs kd vx (abC 0 T pg s) i j := by
  have hT := hX.1.1
  have eR : gR (preC pg 0 T Ac s g) = rcN pg (nxM pg s.2.2.1 T) (gR g) Ac := by
    have e2 : gR (addKey (keyB s.2.1 s.1 s.2.2.2.2.2.1 s.2.2.2.2.2.2) g) = gR g := by
      unfold addKey; split <;> rfl
    unfold preC noteG
    rw [if_pos rfl]
    show rcN pg _ (gR (addKey _ g)) Ac = _
    rw [e2]
  have plA : ∀ t, t < T → s.2.2.1 t < pg 0 t → (abC 0 T pg s).1 t = s.2.2.1 t := fun t ht q => by rw [abC_1 hT ht, if_neg (by omega)]
  have plB : ∀ t, t < T → (abC 0 T pg s).1 t < zs t → s.2.2.1 t < pg 0 t := fun t ht q => by
    rw [abC_1 hT ht, hX.2.2.1 t ht] at q
    split at q <;> omega
  unfold mkC9
  rw [eR, rcN_b]
  constructor
  · rintro ⟨hi, hj, h | ⟨h1, h2, h3, h4⟩⟩
    · exact Or.inl ⟨hi, hj, h⟩
    · obtain ⟨i1, i2, i3⟩ := id_at hX hi
      obtain ⟨j1, j2, j3⟩ := id_at hX hj
      obtain ⟨t, t1, t2, t3⟩ := (nxM_b T).mp h2
      obtain ⟨u, u1, u2, u3⟩ := (nxM_b T).mp h3
      obtain ⟨q1, q2, q3, q4, q5, q6, q7⟩ := (riv_b hX i1).mp h4
      obtain ⟨-, x2, x3⟩ := hX.1.2.2.2.1 t _ t1 t2
      obtain ⟨-, y2, y3⟩ := hX.1.2.2.2.1 u _ u1 u2
      rw [← t3] at x2 x3
      rw [← u3] at y2 y3
      obtain ⟨f1, f2, -, -⟩ := hX.2.2.2.1 t _ t1 t2
      obtain ⟨g1, g2, -, -⟩ := hX.2.2.2.1 u _ u1 u2
      rw [← t3] at f1 f2
      rw [← u3] at g1 g2
      refine Or.inr ⟨t, u, t1, u1, fun e => q5 (by rw [y2, x2, e]), ?_, by rw [plA t t1 t2]; omega, by rw [plA u u1 u2]; omega⟩
      unfold cnA
      rw [plA t t1 t2, plA u u1 u2, f1, f2, g1, g2, hX.2.2.1 t t1, hX.2.2.1 u u1]
      exact ⟨t2, u2, by omega, by omega, q4.symm, q6, q7⟩
  · rintro (⟨hi, hj, h⟩ | ⟨t, u, t1, u1, ne, hc, ei, ej⟩)
    · exact ⟨hi, hj, Or.inl h⟩
    · have t2 := plB t t1 hc.1
      have u2 := plB u u1 hc.2.1
      have hc' := hc
      unfold cnA at hc'
      rw [plA t t1 t2, plA u u1 u2] at hc'
      rw [plA t t1 t2] at ei
      rw [plA u u1 u2] at ej
      have t7 := hX.1.2.2.1 t t1
      have u7 := hX.1.2.2.1 u u1
      obtain ⟨f1, f2, -, -⟩ := hX.2.2.2.1 t _ t1 t2
      obtain ⟨g1, g2, -, -⟩ := hX.2.2.2.1 u _ u1 u2
      have ei2 : t * 7 + s.2.2.1 t = i := by omega
      have ej2 : u * 7 + s.2.2.1 u = j := by omega
      have hi : i / 7 = t ∧ i % 7 = s.2.2.1 t := by omega
      have hj : j / 7 = u ∧ j % 7 = s.2.2.1 u := by omega
      have ri : i / 7 < T ∧ i % 7 < pg 0 (i / 7) := by rw [hi.1, hi.2]; exact ⟨t1, t2⟩
      have rj : j / 7 < T ∧ j % 7 < pg 0 (j / 7) := by rw [hj.1, hj.2]; exact ⟨u1, u2⟩
      obtain ⟨i1, i2, i3⟩ := id_at hX ri
      obtain ⟨j1, j2, j3⟩ := id_at hX rj
      rw [ei2] at f1 f2
      rw [ej2] at g1 g2
      rw [f1, f2, g1, g2] at hc'
      refine ⟨ri, rj, Or.inr ⟨i1, (nxM_b T).mpr ⟨t, t1, t2, by rw [ei2]⟩, (nxM_b T).mpr ⟨u, u1, u2, by rw [ej2]⟩, (riv_b hX i1).mpr ⟨j1, by omega, by omega, hc'.2.2.2.2.1.symm, ?_, hc'.2.2.2.2.2.1, hc'.2.2.2.2.2.2⟩⟩⟩
      rw [i2, j2, hi.1, hj.1]; exact fun q => ne q.symm
/-- the class's marks are the machine's -/
theorem cls_races (hX : PX T Ac pg nm zs kd vx rr vv) {KL SL C : Nat} {rc : Nat → Nat} {i j : Nat} : mkC9 T pg (walkG E T Ac pg nm 0 KL SL C rc) i j ↔ ∃ m, mks (nxF (aF 0 zs kd vx rr vv) T) (raA T zs kd vx) m a0B i j := by
  have hmd : 0 < 3 := by decide
  rw [walk_mdf hX hmd]
  have h := md_use (kn := knC) (pre := preC pg 0 T Ac) (nx := nxC pg nm 0 T) (fin := finC E) (oc := fun s : S7 => (rK s.2.2.2.1 7, vK s.2.2.2.2.1 (srcM s.2.2.2.2.2.1 0) (srcM s.2.2.2.2.2.1 1) (srcM s.2.2.2.2.2.1 2))) (rp := fun s i j => raA T zs kd vx (abC 0 T pg s) i j) (Iv := IvCR 0 T Ac pg nm zs)
    (sk := fun s s' => keyB s'.2.1 s'.1 s'.2.2.2.2.2.1 s'.2.2.2.2.2.2 = keyB s.2.1 s.1 s.2.2.2.2.2.1 s.2.2.2.2.2.2) (fo := foG) (mk := mkC9 T pg) (B := (pdf (nxF (aF 0 zs kd vx rr vv) T) (fun A => enV (ocA A)) 15 a0B [] []).length) (na := nxF (aF 0 zs kd vx rr vv) T) (oa := fun A => enV (ocA A)) (ra9 := raA T zs kd vx) (ab := abC 0 T pg) (rkA := rkA T zs)
    (fun s hI => nxC_sim hX hmd hI.1) (fun s hI => oc_C hI) (fun _ _ _ _ => Iff.rfl) (fun s k hI hk => (ch_C hX hmd hI hk).1) (fun s k hI hk => (ch_C hX hmd hI hk).2)
    (fun s g _ => by unfold foG preC; rw [note_L.2, addK_L.1]) (fun s g a b hI => note_mk hX hI.1)
    (fun s g s' _ _ q => by
      unfold knC at q ⊢
      have q2 : hasK (addKey (keyB s.2.1 s.1 s.2.2.2.2.2.1 s.2.2.2.2.2.2) g) (keyB s'.2.1 s'.1 s'.2.2.2.2.2.1 s'.2.2.2.2.2.2) = true := by
        unfold hasK at q ⊢; unfold preC at q; rw [note_L.1] at q; exact q
      exact addK_L.2 _ q2)
    (fun s p g _ _ => addOut_V.1) (fun s p g a b => by unfold mkC9 finC; rw [addOut_V.2.2]) (fun s p g s' => by unfold knC hasK finC; rw [addOut_V.2.1])
    (fun s s' hI hJ q => abC_key hX hI.1 hJ.1 q.symm)
    15 s07 [] (g0W KL (emptyS SL).1 C (if (0 : Nat) = 0 then fun _ => 0 else rc) (emptyS SL).2.1 (emptyS SL).2.2) ⟨IvC_0, by rw [abC_0]; exact RA_0 hX.2.1⟩ (by rw [abC_0]; exact rk_0 hX.2.1) (fun s' => rfl) (by rw [abC_0]; exact Nat.le_refl _)
  have h2 := h.2 i j
  rw [abC_0] at h2
  have hz : ¬ mkC9 T pg (g0W KL (emptyS SL).1 C (if (0 : Nat) = 0 then fun _ => 0 else rc) (emptyS SL).2.1 (emptyS SL).2.2) i j := fun q => by
    have q3 : Nat.testBit 0 (pg 1 j) = true := q.2.2
    rw [Nat.zero_testBit] at q3; exact Bool.false_ne_true q3
  constructor
  · intro q
    rcases h2.mp q with y | y
    · exact absurd y hz
    · exact y
  · intro q; exact h2.mpr (Or.inr q)
end RAC
