theorem bu_sim {md : Nat} {kd vx rr : Nat → Nat} {vv sf : Nat → Int32} {bt bx : Nat → Nat} {t p9 nb : Nat} (hmd : md = 1 ∨ md = 2) (ht : t < 4) (hp : sf t = nI p9) (hp7 : p9 ≤ 7) (hr : rr (7 * t + p9) < 2) (hv3 : vx (7 * t + p9) < 3) (h15 : sf 15 = nI nb) (hn : nb < 7)
    (h5 : ∀ k, k < nb → sf (16 + k) = nI (bt k) ∧ bt k < 4 ∧ sf (23 + k) = nI (bx k) ∧ bx k < 3) :
    abR md (buR kd vx rr vv sf t p9 nb) = buA md kd vx rr vv (abR md sf) t (7 * t + p9) := by
  have hm0 : ¬ md = 0 := by omega
  have eA : (abR md sf).1 t = p9 := by rw [abR_at1 ht, hp, nI_clamp (by omega)]
  have st : sf t + 1 = nI (p9 + 1) := by rw [hp]; exact nI_1 p9
  have c15 : (sf 15).toNatClampNeg = nb := by rw [h15, nI_clamp (by omega)]
  have eB : ∀ j, (abR md sf).2.2.2 j = fbL md j (glR sf nb) := fun j => by unfold abR; dsimp only; rw [if_neg hm0, c15]
  unfold buR buA
  rw [st, eA]
  by_cases k0 : kd (7 * t + p9) = 0
  · rw [if_pos k0, if_pos k0, abR_at3 hv3, eB, rd_eq (bt := bt) (bx := bx) hmd ht hv3 nb (fun k hk => by rw [pk_un (by omega), pk_un (by omega)]; exact h5 k hk), glR_cg (sf := sf) (fun i h1 h2 => pk_un (by omega)) (by omega), pk_un (by omega : 12 + vx (7 * t + p9) ≠ t)]
    generalize rdL (vx (7 * t + p9)) (sf (12 + vx (7 * t + p9))) (fbL md (bj md t (vx (7 * t + p9))) (glR sf nb)) = V
    rw [abR_up (t := t) (p := p9 + 1) (R := upd (fun k => sf (4 + k)) (2 * t + rr (7 * t + p9)) V) (M := fun x => sf (12 + x)) ht (by omega) (by rw [pk_un (by omega), pk_us]) (fun i h1 h2 => by rw [pk_un (by omega), pk_un h2]) (fun k hk => ?_) (fun x hx => by rw [pk_un (by omega), pk_un (by omega)]) (fun i h1 h2 => by rw [pk_un (by omega), pk_un (by omega)]) (by omega), cutI_up (by omega)]
    · rfl
    · by_cases c : k = 2 * t + rr (7 * t + p9)
      · rw [c, pk_us, ← Nat.add_assoc, pk_us]
      · rw [pk_un (by omega), pk_un c, pk_un (by omega)]
  · rw [if_neg k0, if_neg k0, abR_at2 (by omega), eB, pk_un (by omega : 4 + 2 * t + rr (7 * t + p9) ≠ 23 + nb), pk_un (by omega : 4 + 2 * t + rr (7 * t + p9) ≠ 16 + nb), pk_un (by omega : 4 + 2 * t + rr (7 * t + p9) ≠ 15), pk_un (by omega : 4 + 2 * t + rr (7 * t + p9) ≠ t), ← Nat.add_assoc]
    generalize (if kd (7 * t + p9) = 1 then vv (7 * t + p9) else sf (4 + 2 * t + rr (7 * t + p9)) + vv (7 * t + p9)) = V
    obtain ⟨s2, hs⟩ : ∃ s2, s2 = upd (upd (upd (upd (upd sf t (nI (p9 + 1))) 15 (nI (nb + 1))) (16 + nb) (nI t)) (23 + nb) (nI (vx (7 * t + p9)))) (30 + nb) V := ⟨_, rfl⟩
    rw [← hs]
    have g : ∀ i, i ≠ t → i ≠ 15 → i ≠ 16 + nb → i ≠ 23 + nb → i ≠ 30 + nb → s2 i = sf i := fun i q1 q2 q3 q4 q5 => by rw [hs, pk_un q5, pk_un q4, pk_un q3, pk_un q2, pk_un q1]
    have g15 : (s2 15).toNatClampNeg = nb + 1 := by rw [hs, pk_un (by omega), pk_un (by omega), pk_un (by omega), pk_us, nI_clamp (by omega)]
    have gt : s2 t = nI (p9 + 1) := by rw [hs, pk_un (by omega), pk_un (by omega), pk_un (by omega), pk_un (by omega), pk_us]
    have gL : glR s2 (nb + 1) = glR sf nb ++ [(t, vx (7 * t + p9), V)] := by
      rw [glR_s]
      have q1 : s2 (16 + nb) = nI t := by rw [hs, pk_un (by omega), pk_un (by omega), pk_us]
      have q2 : s2 (23 + nb) = nI (vx (7 * t + p9)) := by rw [hs, pk_un (by omega), pk_us]
      have q3 : s2 (30 + nb) = V := by rw [hs, pk_us]
      rw [q1, q2, q3, nI_clamp (by omega), nI_clamp (by omega)]
      refine congrArg (· ++ _) ?_
      unfold glR
      refine List.map_congr_left (fun k hk => ?_)
      have hk := List.mem_range.mp hk
      rw [g _ (by omega) (by omega) (by omega) (by omega) (by omega), g _ (by omega) (by omega) (by omega) (by omega) (by omega), g _ (by omega) (by omega) (by omega) (by omega) (by omega)]
    show ((_, _, _, _) : AB) = (_, _, _, _)
    refine Prod.ext ?_ (Prod.ext (cutI_cg (fun i hi => g _ (by omega) (by omega) (by omega) (by omega) (by omega))) (Prod.ext (cutI_cg (fun i hi => g _ (by omega) (by omega) (by omega) (by omega) (by omega))) ?_))
    · show cutN 4 _ = updN (cutN 4 _) t (p9 + 1)
      rw [← cutN_up ht]
      refine cutN_cg (fun i hi => ?_)
      by_cases c : i = t
      · rw [c, gt, nI_clamp (by omega)]; unfold updN; rw [if_pos rfl]
      · rw [g i c (by omega) (by omega) (by omega) (by omega)]; unfold updN; rw [if_neg c]
    · funext i
      show (if md = 0 then [] else fbL md i (glR s2 (s2 15).toNatClampNeg)) = updB _ _ _ i
      rw [if_neg hm0, g15, gL, fbL_app]
      unfold updB
      by_cases c : i = bj md t (vx (7 * t + p9))
      · rw [if_pos c, c, fbL_1 (by exact rfl)]
      · rw [if_neg c, fbL_0 (by exact fun q => c q.symm), List.append_nil, eB]
theorem em_sim {md : Nat} {sf : Nat → Int32} {bt bx : Nat → Nat} {t nb : Nat} (hmd : md = 1 ∨ md = 2) (ht : t < 4) (h15 : sf 15 = nI nb) (hn : nb ≤ 7) (h5 : ∀ k, k < nb → sf (16 + k) = nI (bt k) ∧ bt k < 4 ∧ sf (23 + k) = nI (bx k) ∧ bx k < 3) :
    (∀ k, k < nb → ¬ sf (16 + k) = nI t) ↔ emA (abR md sf).2.2.2 t := by
  have hm0 : ¬ md = 0 := by omega
  have c15 : (sf 15).toNatClampNeg = nb := by rw [h15, nI_clamp (by omega)]
  have eB : ∀ j, (abR md sf).2.2.2 j = fbL md j (glR sf nb) := fun j => by unfold abR; dsimp only; rw [if_neg hm0, c15]
  have ent : ∀ k, k < nb → ((sf (16 + k)).toNatClampNeg, (sf (23 + k)).toNatClampNeg, sf (30 + k)) = (bt k, bx k, sf (30 + k)) := fun k hk => by
    obtain ⟨h1, h2, h3, h4⟩ := h5 k hk
    rw [h1, h3, nI_clamp (by omega), nI_clamp (by omega)]
  have bjt : ∀ k i, k < nb → i < 3 → bj md (bt k) (bx k) = 3 * t + i → bt k = t := fun k i hk hi q => by
    have := (h5 k hk).2.2.2
    rcases hmd with e | e
    · rw [e, bj_1] at q; omega
    · rw [e, bj_2] at q; omega
  constructor
  · intro h
    have hni : ∀ i, i < 3 → fbL md (3 * t + i) (glR sf nb) = [] := fun i hi => fbL_nil (fun e he q => by
      unfold glR at he
      obtain ⟨k, hk, rfl⟩ := List.mem_map.mp he
      have hk := List.mem_range.mp hk
      rw [ent k hk] at q
      exact h k hk (by rw [(h5 k hk).1, bjt k i hk hi q]))
    unfold emA
    rw [eB, eB, eB]
    exact ⟨hni 0 (by omega), hni 1 (by omega), hni 2 (by omega)⟩
  · intro h k hk q
    obtain ⟨q1, q2, q3, q4⟩ := h5 k hk
    have bt_t : bt k = t := nI_inj9 (by omega) (by omega) (by rw [← q1, q])
    unfold emA at h
    rw [eB, eB, eB] at h
    have hm : (bx k, sf (30 + k)) ∈ fbL md (bj md t (bx k)) (glR sf nb) := by
      unfold fbL
      refine List.mem_map.mpr ⟨(bt k, bx k, sf (30 + k)), List.mem_filter.mpr ⟨?_, decide_eq_true (by rw [bt_t])⟩, rfl⟩
      unfold glR
      exact List.mem_map.mpr ⟨k, List.mem_range.mpr hk, ent k hk⟩
    have hz : fbL md (bj md t (bx k)) (glR sf nb) = [] := by
      rcases hmd with e | e
      · subst e; rw [bj_1]; exact h.1
      · subst e; rw [bj_2]
        rcases (by omega : bx k = 0 ∨ bx k = 1 ∨ bx k = 2) with e | e | e
        · rw [e]; exact h.1
        · rw [e]; exact h.2.1
        · rw [e]; exact h.2.2
    rw [hz] at hm; exact absurd hm (List.not_mem_nil)
/-- the reference's step is the machine's -/
theorem simR {T md : Nat} {zs kd vx rr : Nat → Nat} {vv : Nat → Int32} {fu : Nat} {sf : Nat → Int32} {t c : Nat} (hPr : PrR T zs kd vx rr vv) (hmd : md < 3) (h : IvB T zs fu sf) (ht : t < T) :
    (stQ md zs kd vx rr vv sf t c).map (abR md) = aF md zs kd vx rr vv (abR md sf) t c := by
  obtain ⟨pl, bt, bx, nb, rm, hD⟩ := h
  obtain ⟨c1, c2, c3⟩ := IvD_pl hPr.1 hPr.2.1 hD
  have hT := hPr.1
  have ht4 : t < 4 := by omega
  have hz7 := hPr.2.1 t ht
  have hD' := hD
  obtain ⟨a1, a2, a3, a4, a5, a6, a7, a8, a9, a10⟩ := hD'
  have hm := smN_at (f := fun t => zs t - pl t) T ht
  have hm' : zs t - pl t ≤ rm := by rw [a6]; exact hm
  unfold stQ aF
  rw [abR_at1 ht4, (c1 t ht4).1, c2]
  by_cases k5 : pl t < zs t ∧ kd (7 * t + pl t) = 5 ∧ c = 0
  · have hpr := hPr.2.2.2 (7 * t + pl t) (by omega)
    rw [if_pos k5, if_pos k5]
    exact congrArg some (sk_sim ht4 (a1 t ht4) (c1 t ht4).2 hz7 hpr.2.2.1 (by omega))
  · rw [if_neg k5, if_neg k5]
    by_cases h0 : 0 < c
    · rw [if_pos h0, if_pos h0]
      by_cases hc : (md = 1 ∧ c = 1) ∨ (md = 2 ∧ c ≤ 3)
      · rw [if_pos hc, if_pos hc, flF_cg (by9 := bx) c3]
        refine fl_sim (x := c - 1) hT hPr.2.1 hD ht4 ?_
        rcases hc with ⟨e1, e2⟩ | ⟨e1, e2⟩
        · exact Or.inl ⟨e1, if_pos e1, by omega⟩
        · exact Or.inr ⟨e1, by omega, if_neg (by omega), rfl⟩
      · rw [if_neg hc, if_neg hc]; rfl
    · rw [if_neg h0, if_neg h0]
      by_cases hl : pl t < zs t
      · have hpr := hPr.2.2.2 (7 * t + pl t) (by omega)
        rw [if_pos hl, if_pos hl]
        by_cases m0 : md = 0
        · rw [if_pos m0, if_pos m0]
          exact congrArg some (tu_sim ht4 (a1 t ht4) (c1 t ht4).2 hpr.2.2.1 hpr.2.2.2.2 (by omega))
        · rw [if_neg m0, if_neg m0]
          by_cases k34 : kd (7 * t + pl t) = 3 ∨ kd (7 * t + pl t) = 4
          · rw [if_pos k34, if_pos k34]
            have em := em_sim (md := md) (bt := bt) (bx := bx) (by omega) ht4 a4 (by omega) a5
            by_cases he : ∀ k, k < nb → ¬ sf (16 + k) = nI t
            · rw [if_pos he, if_pos (em.mp he)]
              exact congrArg some (tu_sim ht4 (a1 t ht4) (c1 t ht4).2 hpr.2.2.1 hpr.2.2.2.2 (by omega))
            · rw [if_neg he, if_neg (fun q => he (em.mpr q))]; rfl
          · rw [if_neg k34, if_neg k34]
            have hk4 : kd (7 * t + pl t) < 4 := by
              have := hpr.1
              have : kd (7 * t + pl t) ≠ 5 := fun q => k5 ⟨hl, q, by omega⟩
              omega
            exact congrArg some (bu_sim (bt := bt) (bx := bx) (by omega) ht4 (a1 t ht4) (c1 t ht4).2 hpr.2.2.1 (hpr.2.2.2.2 hk4) a4 (by omega) a5)
      · rw [if_neg hl, if_neg hl]; rfl
