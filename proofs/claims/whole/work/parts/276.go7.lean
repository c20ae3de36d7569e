theorem iv_act {T : Nat} {zs : Nat → Nat} {fu : Nat} {sf s2 : Nat → Int32} {pl bt bx : Nat → Nat} {nb rm t : Nat} (hT : T ≤ 4) (h : IvD T zs fu sf pl bt bx nb rm) (ht : t < T) (hp : pl t < zs t)
    (h1 : s2 t = nI (pl t + 1)) (h2 : ∀ i, i < 4 → i ≠ t → s2 i = sf i) (h3 : ∀ i, 15 ≤ i → s2 i = sf i) (h6 : AllB s2 (9 * (7 - rm) + 9)) : 0 < fu ∧ IvB T zs (fu - 1) s2 := by
  have h' := h
  obtain ⟨a1, a2, a3, a4, a5, a6, a7, a8, a9, a10⟩ := h'
  exact iv_move (nb2 := nb) (bt2 := bt) (bx2 := bx) hT h ht (Nat.lt_succ_self _) hp h1 h2 (by rw [h3 15 (by omega)]; exact a4) (by omega) (fun k hk => by rw [h3 _ (by omega), h3 _ (by omega)]; exact a5 k hk) h6 (fun k hk => by rw [h3 _ (by omega)]; exact wB_mono (a10 k hk) (by omega))
theorem tu_facts {kd vx rr : Nat → Nat} {vv sf : Nat → Int32} {t p9 b : Nat} (ht : t < 4) (hp : sf t = nI p9) (hr : rr (7 * t + p9) < 2) (hv : kd (7 * t + p9) < 4 → vx (7 * t + p9) < 3) (hb : AllB sf b) (hw : wB (vv (7 * t + p9)) 9) (hb2 : b ≤ 1000) :
    tuR kd vx rr vv sf t p9 t = nI (p9 + 1) ∧ (∀ i, i < 4 → i ≠ t → tuR kd vx rr vv sf t p9 i = sf i) ∧ (∀ i, 15 ≤ i → tuR kd vx rr vv sf t p9 i = sf i) ∧ AllB (tuR kd vx rr vv sf t p9) (b + 9) := by
  have B1 : AllB (upd sf t (sf t + 1)) b := AllB_out hb (Or.inl ht)
  have so : ∀ i, i ≠ t → (upd sf t (sf t + 1)) i = sf i := fun i h => pk_un h
  have st : (upd sf t (sf t + 1)) t = nI (p9 + 1) := by rw [pk_us, hp]; exact nI_1 p9
  unfold tuR
  by_cases k0 : kd (7 * t + p9) = 0
  · have hv3 := hv (by omega)
    rw [if_pos k0]
    exact ⟨by rw [pk_un (by omega)]; exact st, fun i h1 h2 => by rw [pk_un (by omega)]; exact so i h2, fun i h1 => by rw [pk_un (by omega)]; exact so i (by omega), AllB_mono (AllB_upd B1 (B1 _ (by omega) (by omega))) (by omega)⟩
  · rw [if_neg k0]
    by_cases k1 : kd (7 * t + p9) = 1
    · have hv3 := hv (by omega)
      rw [if_pos k1]
      exact ⟨by rw [pk_un (by omega)]; exact st, fun i h1 h2 => by rw [pk_un (by omega)]; exact so i h2, fun i h1 => by rw [pk_un (by omega)]; exact so i (by omega), AllB_upd (AllB_mono B1 (by omega)) (wB_mono hw (by omega))⟩
    · rw [if_neg k1]
      by_cases k2 : kd (7 * t + p9) = 2
      · have hv3 := hv (by omega)
        rw [if_pos k2]
        exact ⟨by rw [pk_un (by omega)]; exact st, fun i h1 h2 => by rw [pk_un (by omega)]; exact so i h2, fun i h1 => by rw [pk_un (by omega)]; exact so i (by omega), AllB_upd (AllB_mono B1 (by omega)) (wB_add (B1 _ (by omega) (by omega)) hw (by omega))⟩
      · rw [if_neg k2]
        by_cases k3 : kd (7 * t + p9) = 3
        · have hv3 := hv (by omega)
          rw [if_pos k3]
          have B2 : AllB (upd (upd sf t (sf t + 1)) (4 + 2 * t + rr (7 * t + p9)) ((upd sf t (sf t + 1)) (12 + vx (7 * t + p9)))) b := AllB_upd B1 (B1 _ (by omega) (by omega))
          exact ⟨by rw [pk_un (by omega), pk_un (by omega)]; exact st, fun i h1 h2 => by rw [pk_un (by omega), pk_un (by omega)]; exact so i h2, fun i h1 => by rw [pk_un (by omega), pk_un (by omega)]; exact so i (by omega), AllB_upd (AllB_mono B2 (by omega)) (wB_add (B2 _ (by omega) (by omega)) hw (by omega))⟩
        · rw [if_neg k3]
          exact ⟨st, fun i h1 h2 => so i h2, fun i h1 => so i (by omega), AllB_mono B1 (by omega)⟩
theorem iv_bu {T : Nat} {zs kd vx rr : Nat → Nat} {vv : Nat → Int32} {fu : Nat} {sf : Nat → Int32} {pl bt bx : Nat → Nat} {nb rm t p9 : Nat} (hT : T ≤ 4) (h : IvD T zs fu sf pl bt bx nb rm) (ht : t < T) (hp : pl t < zs t) (e9 : p9 = pl t)
    (hr : rr (7 * t + p9) < 2) (hv : vx (7 * t + p9) < 3) (hw : wB (vv (7 * t + p9)) 9) : (0 < fu ∧ IvB T zs (fu - 1) (buR kd vx rr vv sf t p9 nb)) ∧ ∀ i, 37 ≤ i → buR kd vx rr vv sf t p9 nb i = sf i := by
  have h' := h
  obtain ⟨a1, a2, a3, a4, a5, a6, a7, a8, a9, a10⟩ := h'
  have hm := smN_at (f := fun t => zs t - pl t) T ht
  have hm' : zs t - pl t ≤ rm := by rw [a6]; exact hm
  have ht4 : t < 4 := by omega
  have B1 : AllB (upd sf t (sf t + 1)) (9 * (7 - rm)) := AllB_out a9 (Or.inl ht4)
  have so : ∀ i, i ≠ t → (upd sf t (sf t + 1)) i = sf i := fun i h => pk_un h
  have st : (upd sf t (sf t + 1)) t = nI (pl t + 1) := by rw [pk_us, a1 t ht4]; exact nI_1 _
  unfold buR
  by_cases k0 : kd (7 * t + p9) = 0
  · rw [if_pos k0]
    refine ⟨iv_act hT h ht hp (by rw [pk_un (by omega)]; exact st) (fun i h1 h2 => by rw [pk_un (by omega)]; exact so i h2) (fun i h1 => by rw [pk_un (by omega)]; exact so i (by omega)) (AllB_mono (AllB_upd B1 (rdV_B (B1 _ (by omega) (by omega)) nb (fun k hk => by rw [so _ (by omega)]; exact a10 k hk))) (by omega)), fun i h1 => ?_⟩
    rw [pk_un (by omega)]; exact so i (by omega)
  · rw [if_neg k0]
    generalize hs1 : (upd sf t (sf t + 1)) = s1 at B1 so st ⊢
    refine ⟨iv_move (nb2 := nb + 1) (bt2 := updN bt nb t) (bx2 := updN bx nb (vx (7 * t + p9))) hT h ht (p := pl t + 1) (Nat.lt_succ_self _) hp ?_ (fun i h1 h2 => ?_) ?_ (Nat.le_refl _) (fun k hk => ?_) ?_ (fun k hk => ?_), fun i h1 => ?_⟩
    · rw [pk_un (by omega), pk_un (by omega), pk_un (by omega), pk_un (by omega)]; exact st
    · rw [pk_un (by omega), pk_un (by omega), pk_un (by omega), pk_un (by omega)]; exact so i h2
    · rw [pk_un (by omega), pk_un (by omega), pk_un (by omega), pk_us]
    · unfold updN
      by_cases c : k = nb
      · subst c
        rw [if_pos rfl, if_pos rfl, pk_un (by omega), pk_un (by omega), pk_us, pk_un (by omega), pk_us]; exact ⟨rfl, ht4, rfl, hv⟩
      · rw [if_neg c, if_neg c, pk_un (by omega), pk_un (by omega), pk_un (by omega), pk_un (by omega), so _ (by omega), pk_un (by omega), pk_un (by omega), pk_un (by omega), pk_un (by omega), so _ (by omega)]; exact a5 k (by omega)
    · exact AllB_out (AllB_out (AllB_out (AllB_out (AllB_mono B1 (by omega)) (Or.inr (by omega))) (Or.inr (by omega))) (Or.inr (by omega))) (Or.inr (by omega))
    · by_cases c : k = nb
      · subst c
        rw [pk_us]
        split
        · exact wB_mono hw (by omega)
        · rw [pk_un (by omega), pk_un (by omega), pk_un (by omega)]
          exact wB_add (B1 _ (by omega) (by omega)) hw (by omega)
      · rw [pk_un (by omega), pk_un (by omega), pk_un (by omega), pk_un (by omega), so _ (by omega)]; exact wB_mono (a10 k (by omega)) (by omega)
    · rw [pk_un (by omega), pk_un (by omega), pk_un (by omega), pk_un (by omega)]; exact so i (by omega)
theorem iv_sk {T : Nat} {zs vx rr : Nat → Nat} {vv : Nat → Int32} {fu : Nat} {sf : Nat → Int32} {pl bt bx : Nat → Nat} {nb rm t p9 : Nat} (hT : T ≤ 4) (h : IvD T zs fu sf pl bt bx nb rm) (ht : t < T) (hp : pl t < zs t) (e9 : p9 = pl t) :
    (0 < fu ∧ IvB T zs (fu - 1) (skR zs vx rr vv sf t p9)) ∧ ∀ i, 4 ≤ i → skR zs vx rr vv sf t p9 i = sf i := by
  have h' := h
  obtain ⟨a1, a2, a3, a4, a5, a6, a7, a8, a9, a10⟩ := h'
  have key : ∀ (s2 : Nat → Int32) (p : Nat), pl t < p → p ≤ zs t → s2 t = nI p → (∀ i, i ≠ t → s2 i = sf i) → (0 < fu ∧ IvB T zs (fu - 1) s2) ∧ ∀ i, 4 ≤ i → s2 i = sf i := fun s2 p h1 h2 h3 h4 =>
    ⟨iv_move (nb2 := nb) (bt2 := bt) (bx2 := bx) hT h ht h1 h2 h3 (fun i _ q => h4 i q) (by rw [h4 15 (by omega)]; exact a4) (by omega) (fun k hk => by rw [h4 _ (by omega), h4 _ (by omega)]; exact a5 k hk) (fun k q1 q2 => by rw [h4 k (by omega)]; exact wB_mono (a9 k q1 q2) (by omega)) (fun k hk => by rw [h4 _ (by omega)]; exact wB_mono (a10 k hk) (by omega)), fun i hi => h4 i (by omega)⟩
  subst e9
  unfold skR
  by_cases c : sf (4 + 2 * t + rr (7 * t + pl t)) = vv (7 * t + pl t)
  · rw [if_pos c]
    exact key _ (pl t + 1) (Nat.lt_succ_self _) hp pk_us (fun i q => pk_un q)
  · rw [if_neg c]
    exact key _ (if zs t < pl t + 1 + vx (7 * t + pl t) then zs t else pl t + 1 + vx (7 * t + pl t)) (by split <;> omega) (by split <;> omega) pk_us (fun i q => by rw [pk_un q, pk_un q])
/-- every step leads to such a state, with one step less to go -/
theorem iv_stB {T md : Nat} {zs kd vx rr : Nat → Nat} {vv : Nat → Int32} {fu : Nat} {sf s2 : Nat → Int32} {t c : Nat} (hPr : PrR T zs kd vx rr vv) (h : IvB T zs fu sf) (ht : t < T) (hs : stQ md zs kd vx rr vv sf t c = some s2) :
    0 < fu ∧ IvB T zs (fu - 1) s2 ∧ ∀ k, 37 ≤ k → k < 155 → s2 k = sf k := by
  obtain ⟨r1, r2, r3, r4⟩ := hPr
  obtain ⟨pl, bt, bx, nb, rm, hD⟩ := h
  obtain ⟨c1, c2, c3⟩ := IvD_pl r1 r2 hD
  have hD' := hD
  obtain ⟨a1, a2, a3, a4, a5, a6, a7, a8, a9, a10⟩ := hD'
  have ht4 : t < 4 := by omega
  have hz := r2 t ht
  unfold stQ at hs
  rw [(c1 t ht4).1, c2] at hs
  by_cases q1 : pl t < zs t ∧ kd (7 * t + pl t) = 5 ∧ c = 0
  · rw [if_pos q1] at hs
    have e := (Option.some.inj hs).symm
    subst e
    obtain ⟨⟨k1, k2⟩, k3⟩ := iv_sk (vx := vx) (rr := rr) (vv := vv) r1 hD ht q1.1 rfl
    exact ⟨k1, k2, fun k g1 g2 => k3 k (by omega)⟩
  · rw [if_neg q1] at hs
    by_cases q2 : 0 < c
    · rw [if_pos q2] at hs
      by_cases q3 : (md = 1 ∧ c = 1) ∨ (md = 2 ∧ c ≤ 3)
      · rw [if_pos q3] at hs
        obtain ⟨x9, hx9⟩ : ∃ x9 : Int32, x9 = if md = 1 then -1 else nI (c - 1) := ⟨_, rfl⟩
        rw [← hx9] at hs
        split at hs
        · exact absurd hs (by simp)
        · next q4 =>
          have e := (Option.some.inj hs).symm
          rw [flF_cg (by9 := bx) c3] at e
          subst e
          obtain ⟨k1, k2, k3⟩ := iv_flush hD q4
          exact ⟨k1, k2, fun k g1 g2 => k3 k g1⟩
      · rw [if_neg q3] at hs; exact absurd hs (by simp)
    · rw [if_neg q2] at hs
      by_cases q3 : pl t < zs t
      · rw [if_pos q3] at hs
        obtain ⟨d1, d2, d3, d4, d5⟩ := r4 (7 * t + pl t) (by omega)
        obtain ⟨u1, u2, u3, u4⟩ := tu_facts (kd := kd) (vx := vx) (rr := rr) (vv := vv) ht4 (a1 t ht4) d3 d5 a9 d4 (by omega)
        have tu : 0 < fu ∧ IvB T zs (fu - 1) (tuR kd vx rr vv sf t (pl t)) ∧ ∀ k, 37 ≤ k → k < 155 → tuR kd vx rr vv sf t (pl t) k = sf k := by
          obtain ⟨k1, k2⟩ := iv_act r1 hD ht q3 u1 u2 u3 u4
          exact ⟨k1, k2, fun k g1 g2 => u3 k (by omega)⟩
        by_cases q4 : md = 0
        · rw [if_pos q4] at hs
          have e := (Option.some.inj hs).symm
          subst e; exact tu
        · rw [if_neg q4] at hs
          by_cases q5 : kd (7 * t + pl t) = 3 ∨ kd (7 * t + pl t) = 4
          · rw [if_pos q5] at hs
            split at hs
            · have e := (Option.some.inj hs).symm
              subst e; exact tu
            · exact absurd hs (by simp)
          · rw [if_neg q5] at hs
            have e := (Option.some.inj hs).symm
            subst e
            have hk5 : ¬ kd (7 * t + pl t) = 5 := fun q => q1 ⟨q3, q, by omega⟩
            obtain ⟨⟨k1, k2⟩, k3⟩ := iv_bu (kd := kd) (vx := vx) (rr := rr) (vv := vv) r1 hD ht q3 rfl d3 (d5 (by omega)) d4
            exact ⟨k1, k2, fun k g1 g2 => k3 k g1⟩
      · rw [if_neg q3] at hs; exact absurd hs (by simp)
