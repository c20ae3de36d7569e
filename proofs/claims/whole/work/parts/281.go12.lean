def zzF (sf : Nat → Int32) (x : Nat) : Nat := (sf (37 + x)).toNatClampNeg
def roF (sf : Nat → Int32) (x q : Nat) : Nat := (sf (41 + 8 * x + q)).toNatClampNeg
def adF (sf : Nat → Int32) (x q : Nat) : Nat := (sf (84 + roF sf x q)).toNatClampNeg
def lnK (sf : Nat → Int32) (t w : Nat) : Nat → Int32 := lnF (upd sf t (sf t + 1)) t w (fun y => plF sf y (sf (95 + 4 * w + y))) (fun y => plF sf y (sf (139 + 4 * t + y))) 4
def fnK (sf : Nat → Int32) (t wn : Nat) : Nat → Int32 := kwF (puB (lnK sf t (roF sf 3 (zzF sf 3 - 1))) t 3 (zzF sf 3) (zzF sf 3) wn 0 1) t wn 4
def rdK (rr : Nat → Nat) (sf : Nat → Int32) (t a w : Nat) : Nat → Int32 := upd (lnK sf t w) (4 + 2 * t + rr a) (lnK sf t w (73 + w))
def adK (vx rr : Nat → Nat) (vv sf : Nat → Int32) (t a cn wn : Nat) : Nat → Int32 := kwF (puB (rdK rr sf t a (roF sf (vx a) cn)) t (vx a) (cn + 1) (zzF sf (vx a)) wn (rdK rr sf t a (roF sf (vx a) cn) (73 + roF sf (vx a) cn) + vv a) 1) t wn 4
def wrK (kd vx rr : Nat → Nat) (vv sf : Nat → Int32) (t a cn wn : Nat) : Nat → Int32 := kwF (puB (upd sf t (sf t + 1)) t (vx a) cn (zzF sf (vx a)) wn (if kd a = 1 then vv a else sf (4 + 2 * t + rr a) + vv a) 0) t wn 4
def poK (vx : Nat → Nat) (sf : Nat → Int32) (t a : Nat) : Nat := plF sf (vx a) (sf (139 + 4 * t + vx a))
/-- a step of model 3 -/
def stK (zs kd vx rr : Nat → Nat) (vv : Nat → Int32) : SF9 := fun sf t cn =>
  if ¬ (sf t).toNatClampNeg < zs t then none
  else if kd (7 * t + (sf t).toNatClampNeg) = 5 then (if cn = 0 then some (skR zs vx rr vv sf t (sf t).toNatClampNeg) else none)
  else if kd (7 * t + (sf t).toNatClampNeg) = 4 then (if cn = 0 then some (fnK sf t (sf 15).toNatClampNeg) else none)
  else if kd (7 * t + (sf t).toNatClampNeg) = 0 then
    (if poK vx sf t (7 * t + (sf t).toNatClampNeg) ≤ cn ∧ cn < zzF sf (vx (7 * t + (sf t).toNatClampNeg)) then some (rdK rr sf t (7 * t + (sf t).toNatClampNeg) (roF sf (vx (7 * t + (sf t).toNatClampNeg)) cn)) else none)
  else if kd (7 * t + (sf t).toNatClampNeg) = 3 then
    (if (poK vx sf t (7 * t + (sf t).toNatClampNeg) ≤ cn ∧ cn < zzF sf (vx (7 * t + (sf t).toNatClampNeg))) ∧ ¬ (cn + 1 < zzF sf (vx (7 * t + (sf t).toNatClampNeg)) ∧ adF sf (vx (7 * t + (sf t).toNatClampNeg)) (cn + 1) = 1) then some (adK vx rr vv sf t (7 * t + (sf t).toNatClampNeg) cn (sf 15).toNatClampNeg) else none)
  else (if (poK vx sf t (7 * t + (sf t).toNatClampNeg) < cn ∧ cn ≤ zzF sf (vx (7 * t + (sf t).toNatClampNeg))) ∧ ¬ (cn < zzF sf (vx (7 * t + (sf t).toNatClampNeg)) ∧ adF sf (vx (7 * t + (sf t).toNatClampNeg)) cn = 1) then some (wrK kd vx rr vv sf t (7 * t + (sf t).toNatClampNeg) cn (sf 15).toNatClampNeg) else none)
def IvK (T : Nat) (zs : Nat → Nat) (fu : Nat) (sf : Nat → Int32) : Prop := ∃ (pl zz : Nat → Nat) (ro : Nat → Nat → Nat) (ad : Nat → Nat) (wn rm : Nat), KD T zs sf pl zz ro ad wn rm ∧ rm ≤ fu
/-- what the pictures read -/
theorem KD_rd {T : Nat} {zs : Nat → Nat} {sf : Nat → Int32} {pl zz : Nat → Nat} {ro : Nat → Nat → Nat} {ad : Nat → Nat} {wn rm : Nat} (hT : T ≤ 4) (hz : ∀ t, t < T → zs t ≤ 7) (h : KD T zs sf pl zz ro ad wn rm) :
    (∀ t, t < 4 → (sf t).toNatClampNeg = pl t ∧ pl t ≤ 7) ∧ (sf 15).toNatClampNeg = wn ∧ (∀ x, x < 4 → zzF sf x = zz x) ∧ (∀ x, x < 4 → ∀ q, q < zz x → roF sf x q = ro x q ∧ sf (41 + 8 * x + q) = nI (roF sf x q) ∧ roF sf x q < wn ∧ sf (84 + roF sf x q) = nI (adF sf x q) ∧ adF sf x q < 2) ∧
    (∀ w, w < wn → ∀ y, y < 4 → inY sf y (sf (95 + 4 * w + y))) ∧ (∀ t, t < 4 → ∀ y, y < 4 → inY sf y (sf (139 + 4 * t + y))) := by
  have hz8 := KD_z8 h
  obtain ⟨a1, a2, a3, a4, a5, a6, a7, a8, a9, a10, a11, a12, a13, a14, a15⟩ := h
  have hp : ∀ t, t < 4 → pl t ≤ 7 := fun t ht => by
    by_cases c : t < T
    · have := a2 t c; have := hz t c; omega
    · rw [a3 t (by omega) ht]; omega
  refine ⟨fun t ht => ⟨by rw [a1 t ht, nI_clamp (by have := hp t ht; omega)], hp t ht⟩, by rw [a4, nI_clamp (by omega)], fun x hx => ?_, fun x hx q hq => ?_, fun w hw y hy => ?_, fun t ht y hy => ?_⟩
  · unfold zzF; rw [(a8 x hx).1, nI_clamp (by have := hz8 x hx; omega)]
  · obtain ⟨b1, b2⟩ := a10 x hx q hq
    have e : roF sf x q = ro x q := by unfold roF; rw [b1, nI_clamp (by omega)]
    obtain ⟨b3, b4⟩ := a13 (ro x q) b2
    have e2 : adF sf x q = ad (ro x q) := by unfold adF; rw [e, b3, nI_clamp (by omega)]
    rw [e, e2]; exact ⟨rfl, b1, b2, b3, b4⟩
  · obtain ⟨q, q1, q2⟩ := a11 w hw y hy; exact ⟨q, by have := hz8 y hy; omega, q2⟩
  · obtain ⟨q, q1, q2⟩ := a12 t ht y hy; exact ⟨q, by have := hz8 y hy; omega, q2⟩
theorem KD_lnK {T : Nat} {zs : Nat → Nat} {sf : Nat → Int32} {pl zz : Nat → Nat} {ro : Nat → Nat → Nat} {ad : Nat → Nat} {wn rm t w0 : Nat} (hT : T ≤ 4) (h : KD T zs sf pl zz ro ad wn rm) (ht : t < T) (hp : pl t < zs t) (hw0 : w0 < wn) : ∃ rm2, rm2 < rm ∧ KD T zs (lnK sf t w0) (updN pl t (pl t + 1)) zz ro ad wn rm2 := by
  have h1 : (upd sf t (sf t + 1)) t = nI (pl t + 1) := by rw [pk_us, h.1 t (by omega)]; exact nI_1 _
  obtain ⟨rm2, q1, q2⟩ := KD_move hT h ht (Nat.lt_succ_self _) hp h1 (fun i hi => pk_un hi)
  exact ⟨rm2, q1, KD_ln q2 (by omega) hw0⟩
theorem iv_stK {T : Nat} {zs kd vx rr : Nat → Nat} {vv : Nat → Int32} {fu : Nat} {sf s2 : Nat → Int32} {t c : Nat} (hPr : PrR T zs kd vx rr vv) (h : IvK T zs fu sf) (ht : t < T) (hs : stK zs kd vx rr vv sf t c = some s2) :
    0 < fu ∧ IvK T zs (fu - 1) s2 := by
  obtain ⟨r1, r2, r3, r4⟩ := hPr
  obtain ⟨pl, zz, ro, ad, wn, rm, hK, hfu⟩ := h
  obtain ⟨c1, c2, c3, c4, c5, c6⟩ := KD_rd r1 r2 hK
  have hz8 := KD_z8 hK
  have ht4 : t < 4 := by omega
  have hz := r2 t ht
  have fin : ∀ s3 pl2 zz2 ro2 ad2 wn2 rm2, rm2 < rm → KD T zs s3 pl2 zz2 ro2 ad2 wn2 rm2 → 0 < fu ∧ IvK T zs (fu - 1) s3 := fun s3 pl2 zz2 ro2 ad2 wn2 rm2 q1 q2 => ⟨by omega, pl2, zz2, ro2, ad2, wn2, rm2, q2, by omega⟩
  have hlast : rm + wn ≤ 11 ∧ rm ≤ 7 := ⟨hK.2.2.2.2.2.1, hK.2.2.2.2.2.2.1⟩
  unfold stK at hs
  rw [(c1 t ht4).1, c2] at hs
  by_cases m1 : pl t < zs t
  · rw [if_neg (fun q => q m1)] at hs
    obtain ⟨d1, d2, d3, d4, d5⟩ := r4 (7 * t + pl t) (by omega)
    have hS1 : (upd sf t (sf t + 1)) t = nI (pl t + 1) := by rw [pk_us, hK.1 t ht4]; exact nI_1 _
    by_cases k5 : kd (7 * t + pl t) = 5
    · rw [if_pos k5] at hs
      by_cases q : c = 0
      · rw [if_pos q] at hs
        have e := (Option.some.inj hs).symm
        subst e
        unfold skR
        by_cases g : sf (4 + 2 * t + rr (7 * t + pl t)) = vv (7 * t + pl t)
        · rw [if_pos g]
          obtain ⟨rm2, q1, q2⟩ := KD_move (s2 := upd sf t (nI (pl t + 1))) r1 hK ht (Nat.lt_succ_self _) m1 pk_us (fun i hi => pk_un hi)
          exact fin _ _ _ _ _ _ _ q1 q2
        · rw [if_neg g]
          obtain ⟨rm2, q1, q2⟩ := KD_move (s2 := upd (upd sf t (nI (pl t + 1))) t (nI (if zs t < pl t + 1 + vx (7 * t + pl t) then zs t else pl t + 1 + vx (7 * t + pl t)))) r1 hK ht (by split <;> omega) (by split <;> omega) pk_us (fun i hi => by rw [pk_un hi, pk_un hi])
          exact fin _ _ _ _ _ _ _ q1 q2
      · rw [if_neg q] at hs; exact absurd hs (by simp)
    · rw [if_neg k5] at hs
      by_cases k4 : kd (7 * t + pl t) = 4
      · rw [if_pos k4] at hs
        by_cases q : c = 0
        · rw [if_pos q] at hs
          have e := (Option.some.inj hs).symm
          subst e
          have h3 := hz8 3 (by decide)
          obtain ⟨b1, b2, b3, -⟩ := c4 3 (by decide) (zz 3 - 1) (by omega)
          unfold fnK
          rw [c3 3 (by decide)]
          obtain ⟨rm2, q1, q2⟩ := KD_lnK r1 hK ht m1 b3
          exact fin _ _ _ _ _ _ _ q1 (KD_put (an := 1) q2 ht4 (by decide) (Nat.le_refl _) (by omega) wB_0 (by decide))
        · rw [if_neg q] at hs; exact absurd hs (by simp)
      · rw [if_neg k4] at hs
        have hv3 := d5 (by omega)
        by_cases k0 : kd (7 * t + pl t) = 0
        · rw [if_pos k0] at hs
          split at hs
          · next q =>
            rw [c3 _ (by omega)] at q
            have e := (Option.some.inj hs).symm
            subst e
            obtain ⟨b1, b2, b3, -⟩ := c4 (vx (7 * t + pl t)) (by omega) c q.2
            obtain ⟨rm2, q1, q2⟩ := KD_lnK r1 hK ht m1 b3
            unfold rdK
            exact fin _ _ _ _ _ _ _ q1 (KD_reg q2 (by omega) (by omega) (q2.2.2.2.2.2.2.2.2.2.2.2.2.2.2 _ b3))
          · exact absurd hs (by simp)
        · rw [if_neg k0] at hs
          by_cases k3 : kd (7 * t + pl t) = 3
          · rw [if_pos k3] at hs
            split at hs
            · next q =>
              rw [c3 _ (by omega)] at q
              have e := (Option.some.inj hs).symm
              subst e
              obtain ⟨b1, b2, b3, -⟩ := c4 (vx (7 * t + pl t)) (by omega) c q.1.2
              obtain ⟨rm2, q1, q2⟩ := KD_lnK r1 hK ht m1 b3
              have q3 : KD T zs (rdK rr sf t (7 * t + pl t) (roF sf (vx (7 * t + pl t)) c)) (updN pl t (pl t + 1)) zz ro ad wn rm2 := by
                unfold rdK
                exact KD_reg q2 (by omega) (by omega) (q2.2.2.2.2.2.2.2.2.2.2.2.2.2.2 _ b3)
              unfold adK
              rw [c3 _ (by omega)]
              have hval : wB (rdK rr sf t (7 * t + pl t) (roF sf (vx (7 * t + pl t)) c) (73 + roF sf (vx (7 * t + pl t)) c)) (9 * (7 - rm)) := by
                have hw11 := (hz8 0 (by decide)).2.2
                unfold rdK
                rw [pk_un (by omega)]
                unfold lnK
                rw [lnF_o 4 (Or.inl (by omega)), pk_un (by omega)]
                exact hK.2.2.2.2.2.2.2.2.2.2.2.2.2.2 _ b3
              exact fin _ _ _ _ _ _ _ q1 (KD_put (an := 1) q3 ht4 (by omega) (by omega) (by omega) (wB_mono (wB_add hval d4 (by omega)) (by omega)) (by decide))
            · exact absurd hs (by simp)
          · rw [if_neg k3] at hs
            split at hs
            · next q =>
              rw [c3 _ (by omega)] at q
              have e := (Option.some.inj hs).symm
              subst e
              obtain ⟨rm2, q1, q2⟩ := KD_move (s2 := upd sf t (sf t + 1)) r1 hK ht (Nat.lt_succ_self _) m1 hS1 (fun i hi => pk_un hi)
              unfold wrK
              rw [c3 _ (by omega)]
              have hval : wB (if kd (7 * t + pl t) = 1 then vv (7 * t + pl t) else sf (4 + 2 * t + rr (7 * t + pl t)) + vv (7 * t + pl t)) (9 * (7 - rm) + 9) := by
                split
                · exact wB_mono d4 (by omega)
                · exact wB_add (hK.2.2.2.2.2.2.2.2.2.2.2.2.2.1 _ (by omega) (by omega)) d4 (by omega)
              exact fin _ _ _ _ _ _ _ q1 (KD_put (an := 0) q2 ht4 (by omega) q.1.2 (by omega) (wB_mono hval (by omega)) (by decide))
            · exact absurd hs (by simp)
  · rw [if_pos m1] at hs; exact absurd hs (by simp)
theorem en3_sz {sf : Nat → Int32} {T : Nat} {zz : Nat → Nat} {ro : Nat → Nat → Nat} (hT : T ≤ 4) (hz : zz 0 + zz 1 + zz 2 + zz 3 ≤ 11) (h1 : ∀ x, x < 4 → 1 ≤ zz x) : szB (en3 sf T zz ro) ≤ 320 := by
  have hm : ∀ (x n : Nat), szB (mpL (fun j => enB1 sf (ro x (j + 1))) n) = 20 * n := fun x n => by
    induction n with
    | zero => rfl
    | succ n ih => rw [mpL, szB_app, ih, enB1_sz]; omega
  have hr : ∀ x, szB (rwB sf T zz ro x) = 4 + (20 * (zz x - 1) + 3 * T) := fun x => by unfold rwB; rw [szB, szB_app, hm, tkB_sz]
  unfold en3
  rw [szB_app, show szB (hdB sf) = 68 from rfl, mpL, szB_app, mpL, szB_app, mpL, szB_app, mpL, szB_app, hr, hr, hr, hr]
  have g0 := h1 0 (by decide)
  have g1 := h1 1 (by decide)
  have g2 := h1 2 (by decide)
  have g3 := h1 3 (by decide)
  show 68 + (0 + (4 + (20 * (zz 0 - 1) + 3 * T)) + (4 + (20 * (zz 1 - 1) + 3 * T)) + (4 + (20 * (zz 2 - 1) + 3 * T)) + (4 + (20 * (zz 3 - 1) + 3 * T))) ≤ 320
  omega
def cd3 (T : Nat) : (Nat → Int32) → Nat → Int64 := fun sf => (wrB (en3 sf T (zzF sf) (roF sf))).1
def cb3 (T : Nat) : (Nat → Int32) → Nat := fun sf => szB (en3 sf T (zzF sf) (roF sf))
def laK (sf : Nat → Int32) (x : Nat) : Nat := roF sf x (zzF sf x - 1)
def nv3 : (Nat → Int32) → Nat → Int32 := fun sf k => if k < 8 then sf (4 + k) else sf (73 + laK sf (k - 8))
