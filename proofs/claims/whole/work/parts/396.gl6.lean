/-- the reference's threads on their way and the class's state of them -/
def RG9 (T : Nat) (pg : Nat → Nat → Nat) (zs kd : Nat → Nat) (g : A9) (c : CF9) : Prop :=
  (∀ t, t < T → g.1 t = if zs t < c.2.2.1 t then zs t else c.2.2.1 t) ∧ g.2.1 = c.2.2.2.1 ∧ g.2.2.2.2 = g.2.2.2.1 ∧
  (∀ t q, t < T → q < pg 0 t → g.2.2.2.1 (7 * t + q) = if c.1.testBit (pg 1 (t * 7 + q)) = true ∧ ¬ kd (7 * t + q) = 5 then 1 else 0) ∧
  (∀ t q, t < T → q < pg 0 t → c.1.testBit (pg 1 (t * 7 + q)) = true → 1 ≤ kd (7 * t + q) → kd (7 * t + q) ≤ 3 → g.2.2.1 (7 * t + q) = c.2.2.2.2 (pg 1 (t * 7 + q) + 1))
/-- the choice FROM by the class's numbers -/
def FC9 (pg : Nat → Nat → Nat) (fm : Nat → Nat) (a : Nat) : Nat := if fm (7 * pg 2 a + pg 3 a) = 0 then 0 else pg 1 (fm (7 * pg 2 a + pg 3 a) - 1) + 1
/-- a taker is FROM a writer of the program -/
def fmO (T : Nat) (zs kd fm : Nat → Nat) : Prop := ∀ t q, t < T → q < zs t → (kd (7 * t + q) = 0 ∨ kd (7 * t + q) = 3) → fm (7 * t + q) ≠ 0 → (fm (7 * t + q) - 1) / 7 < T ∧ (fm (7 * t + q) - 1) % 7 < zs ((fm (7 * t + q) - 1) / 7) ∧ 1 ≤ kd (fm (7 * t + q) - 1) ∧ kd (fm (7 * t + q) - 1) ≤ 3
section GOS
variable {T Ac : Nat} {pg : Nat → Nat → Nat} {nm : Nat → Int32} {zs kd vx rr : Nat → Nat} {vv : Nat → Int32} {fm : Nat → Nat}
theorem px_inj (hX : PX T Ac pg nm zs kd vx rr vv) {t q t' q' : Nat} (ht : t < T) (hq : q < pg 0 t) (ht' : t' < T) (hq' : q' < pg 0 t') (h : pg 1 (t * 7 + q) = pg 1 (t' * 7 + q')) : t = t' ∧ q = q' := by
  obtain ⟨-, a2, a3⟩ := hX.1.2.2.2.1 t q ht hq
  obtain ⟨-, b2, b3⟩ := hX.1.2.2.2.1 t' q' ht' hq'
  rw [h] at a2 a3
  exact ⟨a2.symm.trans b2, a3.symm.trans b3⟩
theorem FC_at (hX : PX T Ac pg nm zs kd vx rr vv) {t q : Nat} (ht : t < T) (hq : q < pg 0 t) : FC9 pg fm (pg 1 (t * 7 + q)) = if fm (7 * t + q) = 0 then 0 else pg 1 (fm (7 * t + q) - 1) + 1 := by
  obtain ⟨-, a2, a3⟩ := hX.1.2.2.2.1 t q ht hq
  unfold FC9
  rw [a2, a3]
theorem ac_sim (hX : PX T Ac pg nm zs kd vx rr vv) (hf : fmO T zs kd fm) {g : A9} {c : CF9} {t : Nat} (hI : PI9 T Ac pg nm c) (hR : RG9 T pg zs kd g c) (ht : t < T) (hp : g.1 t < zs t) :
    (acF zs kd vx rr fm vv t g = none ∧ ¬ fEn pg (FC9 pg fm) c t) ∨ ∃ g2, acF zs kd vx rr fm vv t g = some g2 ∧ fEn pg (FC9 pg fm) c t ∧ RG9 T pg zs kd g2 (fS9 pg nm (FC9 pg fm) c t) := by
  obtain ⟨r1, r2, r3, r4, r5⟩ := hR
  have hz := hX.2.2.1 t ht
  have ep : g.1 t = c.2.2.1 t := by
    have := r1 t ht
    by_cases w : zs t < c.2.2.1 t
    · rw [if_pos w] at this; omega
    · rw [if_neg w] at this; exact this
  have hq : c.2.2.1 t < pg 0 t := by rw [← ep, ← hz]; exact hp
  obtain ⟨x1, x2, x3, x4⟩ := hX.2.2.2.1 t _ ht hq
  obtain ⟨a1, a2, a3, a4, a5, a6⟩ := px_next hX hI ht hq rfl
  have hFC := FC_at (fm := fm) hX ht hq
  have inj : ∀ t' q', t' < T → q' < pg 0 t' → (7 * t' + q' = 7 * t + c.2.2.1 t ↔ pg 1 (t' * 7 + q') = pg 1 (t * 7 + c.2.2.1 t)) := fun t' q' h1 h2 => by
    have := hX.1.2.2.1 t ht
    have := hX.1.2.2.1 t' h1
    constructor
    · intro e
      rw [show t' * 7 + q' = t * 7 + c.2.2.1 t by omega]
    · intro e
      obtain ⟨e1, e2⟩ := px_inj hX h1 h2 ht hq e
      omega
  have cv0 : c.2.2.2.2 0 = 0 := hI.2.2.2.2.2.2.1
  have hfo := hf t (c.2.2.1 t) ht (by rw [hz]; exact hq)
  have hzs7 : ∀ u, u < T → zs u = pg 0 u := hX.2.2.1
  unfold acF
  unfold fEn fS9 fQ9
  rw [show fA9 pg c t = pg 1 (t * 7 + c.2.2.1 t) from rfl, ep, hFC]
  obtain ⟨pl9, hd, gv, dn9, hp9⟩ := g
  obtain ⟨dn, so, pl, rg, cv⟩ := c
  dsimp only at *
  subst r2 r3
  generalize hi : 7 * t + pl t = i at *
  generalize ha : pg 1 (t * 7 + pl t) = a at *
  have tb : ∀ t' q', t' < T → q' < pg 0 t' → ¬ 7 * t' + q' = i → (dn ||| 2 ^ a).testBit (pg 1 (t' * 7 + q')) = dn.testBit (pg 1 (t' * 7 + q')) := fun t' q' h1 h2 h3 => b_ne (fun e => h3 ((inj t' q' h1 h2).mpr e))
  by_cases k5 : kd i = 5
  · refine Or.inr ⟨_, if_pos k5, ⟨hq, fun k => by omega⟩, ?_⟩
    refine ⟨fun u hu => ?_, ?_, rfl, fun t' q' h1 h2 => ?_, fun t' q' h1 h2 h3 h4 h5 => ?_⟩
    · show updN pl9 t _ u = if zs u < updN pl (pg 2 a) _ u then zs u else updN pl (pg 2 a) _ u
      rw [a3]
      by_cases e : u = t
      · rw [e, updN_s, updN_s]
        have : psP (pg 4 a) (hd (pg 6 a)) (nm a) (pg 5 a) = if hd (2 * t + rr i) = vv i then 1 else 1 + vx i := by
          unfold psP
          rw [← x1, ← x4, x3, ← x2]
          by_cases w : hd (2 * t + rr i) = vv i
          · rw [if_pos w, if_neg (fun z => z.2 w)]
          · rw [if_neg w, if_pos ⟨k5, w⟩]
        rw [this]
      · rw [updN_n e, updN_n e]; exact r1 u hu
    · show hd = rgP (pg 4 a) hd cv (pg 6 a) _
      unfold rgP
      rw [if_neg (by omega)]
    · have hh : hp9 (7 * t' + q') = if (dn ||| 2 ^ a).testBit (pg 1 (t' * 7 + q')) = true ∧ ¬ kd (7 * t' + q') = 5 then 1 else 0 := by
        by_cases e : 7 * t' + q' = i
        · rw [r4 t' q' h1 h2, e, if_neg (fun w => w.2 k5), if_neg (fun w => w.2 k5)]
        · rw [tb t' q' h1 h2 e]; exact r4 t' q' h1 h2
      exact hh
    · show gv (7 * t' + q') = vlP (pg 4 a) hd cv (nm a) a (pg 6 a) _ (pg 1 (t' * 7 + q') + 1)
      rw [vlP_vz, if_neg (by omega)]
      by_cases e : 7 * t' + q' = i
      · rw [e, k5] at h5; omega
      · have h3' : (dn ||| 2 ^ a).testBit (pg 1 (t' * 7 + q')) = true := h3
        rw [tb t' q' h1 h2 e] at h3'
        exact r5 t' q' h1 h2 h3' h4 h5
  · rw [if_neg k5]
    have hsrc : (kd i = 0 ∨ kd i = 3) → ¬ fm i = 0 → hp9 (fm i - 1) = (if dn.testBit (pg 1 (fm i - 1)) = true then 1 else 0) ∧ (dn.testBit (pg 1 (fm i - 1)) = true → gv (fm i - 1) = cv (pg 1 (fm i - 1) + 1)) ∧ pg 1 (fm i - 1) < 7 ∧ 1 ≤ pg 4 (pg 1 (fm i - 1)) ∧ pg 4 (pg 1 (fm i - 1)) ≤ 3 := fun k h0 => by
      obtain ⟨f1, f2, f3, f4⟩ := hfo k h0
      obtain ⟨b, hb⟩ : ∃ b, b = fm i - 1 := ⟨_, rfl⟩
      rw [← hb] at f1 f2 f3 f4 ⊢
      rw [hzs7 _ f1] at f2
      have e7 : 7 * (b / 7) + b % 7 = b := by omega
      have e8 : b / 7 * 7 + b % 7 = b := by omega
      have s4 := r4 (b / 7) (b % 7) f1 f2
      have s5 := r5 (b / 7) (b % 7) f1 f2
      have s1 := hX.2.2.2.1 (b / 7) (b % 7) f1 f2
      have s2 := hX.1.2.2.2.1 (b / 7) (b % 7) f1 f2
      rw [e7, e8] at s4 s5 s1
      rw [e8] at s2
      have := hX.1.2.1
      refine ⟨?_, fun w => s5 w f3 f4, by omega, by omega, by omega⟩
      rw [s4]
      by_cases w : dn.testBit (pg 1 b) = true
      · rw [if_pos w, if_pos ⟨w, by omega⟩]
      · rw [if_neg w, if_neg (fun z => w z.1)]
    by_cases wt : (kd i = 0 ∨ kd i = 3) ∧ ¬ fm i = 0 ∧ hp9 (fm i - 1) = 0
    · refine Or.inl ⟨if_pos wt, fun ⟨_, h⟩ => ?_⟩
      obtain ⟨h1, -⟩ := hsrc wt.1 wt.2.1
      have := h (by rw [← x1]; exact wt.1)
      rw [if_neg wt.2.1] at this
      rcases this with z | ⟨-, z, -⟩
      · exact absurd z (Nat.succ_ne_zero _)
      · rw [Nat.add_sub_cancel] at z
        rw [wt.2.2, if_pos z] at h1
        exact absurd h1 (by decide)
    · rw [if_neg wt]
      have hbit : (kd i = 0 ∨ kd i = 3) → ¬ fm i = 0 → dn.testBit (pg 1 (fm i - 1)) = true := fun k h0 => by
        obtain ⟨h1, -⟩ := hsrc k h0
        cases w : dn.testBit (pg 1 (fm i - 1)) with
        | true => rfl
        | false => rw [w, if_neg Bool.false_ne_true] at h1; exact absurd ⟨k, h0, h1⟩ wt
      have hval : (kd i = 0 ∨ kd i = 3) → acV kd fm gv i = cv (if fm i = 0 then 0 else pg 1 (fm i - 1) + 1) := fun k => by
        unfold acV
        by_cases h0 : fm i = 0
        · rw [if_neg (fun w => w.2 h0), if_pos h0, cv0]
        · rw [if_pos ⟨k, h0⟩, if_neg h0]; exact (hsrc k h0).2.1 (hbit k h0)
      refine Or.inr ⟨_, rfl, ⟨hq, fun k => ?_⟩, ?_⟩
      · rw [← x1] at k
        by_cases h0 : fm i = 0
        · rw [if_pos h0]; exact Or.inl rfl
        · rw [if_neg h0]
          obtain ⟨-, -, h3, h4, h5⟩ := hsrc k h0
          exact Or.inr ⟨by omega, by rw [Nat.add_sub_cancel]; exact hbit k h0, by rw [Nat.add_sub_cancel]; exact h4, by rw [Nat.add_sub_cancel]; exact h5⟩
      · refine ⟨fun u hu => ?_, ?_, rfl, fun t' q' h1 h2 => ?_, fun t' q' h1 h2 h3 h4 h5 => ?_⟩
        · show updN pl9 t _ u = if zs u < updN pl (pg 2 a) _ u then zs u else updN pl (pg 2 a) _ u
          rw [a3]
          by_cases e : u = t
          · rw [e, updN_s, updN_s]
            have : psP (pg 4 a) (hd (pg 6 a)) (nm a) (pg 5 a) = 1 := by
              unfold psP
              rw [if_neg (fun z => k5 (x1.trans z.1))]
            rw [this, if_neg (show ¬ zs t < pl t + 1 by omega)]
          · rw [updN_n e, updN_n e]; exact r1 u hu
        · show acH kd rr fm hd gv t i = rgP (pg 4 a) hd cv (pg 6 a) _
          unfold acH rgP
          by_cases k : kd i = 0 ∨ kd i = 3
          · rw [if_pos k, if_pos (by rw [← x1]; exact k), if_pos (by rw [← x1]; exact k), x3, hval k]
          · rw [if_neg k, if_neg (by rw [← x1]; exact k)]
        · have hh : updN hp9 i 1 (7 * t' + q') = if (dn ||| 2 ^ a).testBit (pg 1 (t' * 7 + q')) = true ∧ ¬ kd (7 * t' + q') = 5 then 1 else 0 := by
            by_cases e : 7 * t' + q' = i
            · rw [(inj t' q' h1 h2).mp e, e, updN_s, if_pos ⟨b_eq, k5⟩]
            · rw [tb t' q' h1 h2 e, updN_n e]; exact r4 t' q' h1 h2
          exact hh
        · show acG kd rr fm vv hd gv t i (7 * t' + q') = vlP (pg 4 a) hd cv (nm a) a (pg 6 a) _ (pg 1 (t' * 7 + q') + 1)
          have h3' : (dn ||| 2 ^ a).testBit (pg 1 (t' * 7 + q')) = true := h3
          by_cases e : 7 * t' + q' = i
          · rw [(inj t' q' h1 h2).mp e, e]
            rw [e] at h4 h5
            rw [vlP_vz, if_pos (by rw [← x1]; exact ⟨h4, h5⟩), pk_us]
            unfold acG vz9
            rw [if_neg (by omega), ← x1, ← x4, x3]
            by_cases k1 : kd i = 1
            · rw [if_pos k1, if_pos k1, pk_us]
            · rw [if_neg k1, if_neg k1]
              by_cases k2 : kd i = 2
              · rw [if_pos k2, if_pos k2, pk_us]
              · rw [if_neg k2, if_neg k2, pk_us, hval (by omega), if_pos (show kd i = 0 ∨ kd i = 3 by omega)]
          · rw [tb t' q' h1 h2 e] at h3'
            have ne : ¬ pg 1 (t' * 7 + q') + 1 = a + 1 := fun w => e ((inj t' q' h1 h2).mpr (Nat.succ.inj w))
            have eg : acG kd rr fm vv hd gv t i (7 * t' + q') = gv (7 * t' + q') := by
              unfold acG
              split
              · rfl
              · split
                · exact pk_un e
                · split <;> exact pk_un e
            rw [eg, vlP_vz]
            split
            · rw [pk_un ne]; exact r5 t' q' h1 h2 h3' h4 h5
            · exact r5 t' q' h1 h2 h3' h4 h5
theorem en_end (hX : PX T Ac pg nm zs kd vx rr vv) {F : Nat → Nat} {g : A9} {c : CF9} {t : Nat} (hR : RG9 T pg zs kd g c) (ht : t < T) (hp : ¬ g.1 t < zs t) : ¬ fEn pg F c t := fun h => by
  have h1 := h.1
  have hz := hX.2.2.1 t ht
  have := hR.1 t ht
  rw [if_neg (by omega)] at this
  omega
theorem gw1_sim (hX : PX T Ac pg nm zs kd vx rr vv) (hf : fmO T zs kd fm) {t : Nat} (ht : t < T) : ∀ (n : Nat) (g : A9) (c : CF9), PI9 T Ac pg nm c → RG9 T pg zs kd g c →
    ∃ l c2, fRun T pg nm (FC9 pg fm) l c c2 ∧ PI9 T Ac pg nm c2 ∧ RG9 T pg zs kd (gw1 zs kd vx rr fm vv t n g).2 c2 ∧ ((gw1 zs kd vx rr fm vv t n g).1 = false → n ≠ 0 → c2 = c ∧ ¬ fEn pg (FC9 pg fm) c t)
  | 0, g, c, hI, hR => ⟨[], c, rfl, hI, hR, fun _ q => absurd rfl q⟩
  | n + 1, g, c, hI, hR => by
    by_cases hp : g.1 t < zs t
    · rcases ac_sim hX hf hI hR ht hp with ⟨h1, h2⟩ | ⟨g2, h1, h2, h3⟩
      · rw [gw_no hp h1]
        exact ⟨[], c, rfl, hI, hR, fun _ _ => ⟨rfl, h2⟩⟩
      · have e : gw1 zs kd vx rr fm vv t (n + 1) g = (true, (gw1 zs kd vx rr fm vv t n g2).2) := by rw [gw1, if_pos hp, h1]
        rw [e]
        obtain ⟨l, c2, i1, i2, i3, -⟩ := gw1_sim hX hf ht n g2 _ (fS_pi hX hI ht h2) h3
        exact ⟨t :: l, c2, ⟨ht, h2, i1⟩, i2, i3, fun q => absurd (show true = false from q) (by decide)⟩
    · rw [gw_end hp]
      exact ⟨[], c, rfl, hI, hR, fun _ _ => ⟨rfl, en_end hX hR ht hp⟩⟩
theorem gwT_sim (hX : PX T Ac pg nm zs kd vx rr vv) (hf : fmO T zs kd fm) {K : Nat} (hK : K ≠ 0) {g : A9} {c : CF9} (hI : PI9 T Ac pg nm c) (hR : RG9 T pg zs kd g c) : ∀ n, n ≤ T →
    ∃ l c2, fRun T pg nm (FC9 pg fm) l c c2 ∧ PI9 T Ac pg nm c2 ∧ RG9 T pg zs kd (gwT K zs kd vx rr fm vv g n).2 c2 ∧ ((gwT K zs kd vx rr fm vv g n).1 = false → c2 = c ∧ ∀ t, t < n → ¬ fEn pg (FC9 pg fm) c t)
  | 0, _ => ⟨[], c, rfl, hI, hR, fun _ => ⟨rfl, fun t h => absurd h (Nat.not_lt_zero t)⟩⟩
  | n + 1, hn => by
    obtain ⟨l, c2, i1, i2, i3, i4⟩ := gwT_sim hX hf hK hI hR n (by omega)
    obtain ⟨m, c3, j1, j2, j3, j4⟩ := gw1_sim hX hf (by omega : n < T) K _ c2 i2 i3
    refine ⟨l ++ m, c3, fr_app l m c c2 c3 i1 j1, j2, j3, fun h => ?_⟩
    have h' : ((gwT K zs kd vx rr fm vv g n).1 || (gw1 zs kd vx rr fm vv n K (gwT K zs kd vx rr fm vv g n).2).1) = false := h
    rw [Bool.or_eq_false_iff] at h'
    obtain ⟨e1, e2⟩ := i4 h'.1
    obtain ⟨e3, e4⟩ := j4 h'.2 hK
    refine ⟨e3.trans e1, fun t ht => ?_⟩
    by_cases e : t = n
    · rw [e, ← e1]; exact e4
    · exact e2 t (by omega)
theorem gwA_sim (hX : PX T Ac pg nm zs kd vx rr vv) (hf : fmO T zs kd fm) {K : Nat} (hK : K ≠ 0) : ∀ n (g : A9) (c : CF9), GA T zs g → PI9 T Ac pg nm c → RG9 T pg zs kd g c → rmA T zs g < n →
    ∃ l c2, fRun T pg nm (FC9 pg fm) l c c2 ∧ PI9 T Ac pg nm c2 ∧ RG9 T pg zs kd (gwA K T zs kd vx rr fm vv n g) c2 ∧ fNo T pg (FC9 pg fm) c2
  | 0, _, _, _, _, _, h => absurd h (Nat.not_lt_zero _)
  | n + 1, g, c, hG, hI, hR, h => by
    obtain ⟨l, c2, i1, i2, i3, i4⟩ := gwT_sim hX hf hK hI hR T (Nat.le_refl T)
    obtain ⟨k1, k2, k3⟩ := gwT_ok (K := K) (kd := kd) (vx := vx) (rr := rr) (fm := fm) (vv := vv) hG T (Nat.le_refl T)
    rw [gwA]
    by_cases b : (gwT K zs kd vx rr fm vv g T).1 = true
    · rw [if_pos b]
      obtain ⟨m, c3, j1, j2, j3, j4⟩ := gwA_sim hX hf hK n _ c2 k1 i2 i3 (by have := k3 b; omega)
      exact ⟨l ++ m, c3, fr_app l m c c2 c3 i1 j1, j2, j3, j4⟩
    · rw [if_neg b]
      obtain ⟨e1, e2⟩ := i4 (by simpa using b)
      exact ⟨l, c2, i1, i2, i3, by rw [e1]; exact e2⟩
theorem RG_0 : RG9 T pg zs kd (a0S (fun _ => 0)) c09 := by
  refine ⟨fun t _ => ?_, rfl, rfl, fun t q _ _ => ?_, fun t q _ _ h => ?_⟩
  · show 0 = if zs t < 0 then zs t else 0
    rw [if_neg (Nat.not_lt_zero _)]
  · show 0 = if Nat.testBit 0 _ = true ∧ _ then 1 else 0
    exact (if_neg (fun w => absurd (show Nat.testBit 0 _ = true from w.1) (by rw [Nat.zero_testBit]; exact Bool.false_ne_true))).symm
  · have h' : Nat.testBit 0 (pg 1 (t * 7 + q)) = true := h
    rw [Nat.zero_testBit] at h'; exact absurd h' Bool.false_ne_true
/-- the reference's threads go to the end of the choice -/
theorem gz_sim (hX : PX T Ac pg nm zs kd vx rr vv) {li : Nat → Nat} {ld K N0 : Nat} {fl : Nat → Nat} (hf : fmO T zs kd (fQ li ld fl)) (hK : K ≠ 0) (hN : 30 ≤ N0) :
    ∃ l c2, fRun T pg nm (FC9 pg (fQ li ld fl)) l c09 c2 ∧ PI9 T Ac pg nm c2 ∧ RG9 T pg zs kd (gzQ K N0 T ld zs kd vx rr li vv fl) c2 ∧ fNo T pg (FC9 pg (fQ li ld fl)) c2 := by
  unfold gzQ
  have hlt := rm0_lt (gv := fun _ => 0) hX.2.1.1 hX.2.1.2.1
  exact gwA_sim hX hf hK N0 _ c09 GA_0 PgI_0 RG_0 (by omega)
end GOS
