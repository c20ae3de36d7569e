theorem fl_sim {md T : Nat} {zs : Nat → Nat} {fu : Nat} {sf : Nat → Int32} {pl bt bx : Nat → Nat} {nb rm t x j : Nat} {x9 : Int32} (hT : T ≤ 4) (hz : ∀ t, t < T → zs t ≤ 7) (h : IvD T zs fu sf pl bt bx nb rm) (ht : t < 4) (hj : (md = 1 ∧ x9 = -1 ∧ j = 3 * t) ∨ (md = 2 ∧ x < 3 ∧ x9 = nI x ∧ j = 3 * t + x)) :
    (if fF (inB sf t x9) nb 0 = 0 then none else some (flF sf t x9 bx nb)).map (abR md) = flA (abR md sf) j := by
  obtain ⟨c1, c2, c3⟩ := IvD_pl hT hz h
  obtain ⟨a1, a2, a3, a4, a5, a6, a7, a8, a9, a10⟩ := h
  have hm0 : ¬ md = 0 := by rcases hj with ⟨e, -⟩ | ⟨e, -⟩ <;> omega
  have ent : ∀ k, k < nb → ((sf (16 + k)).toNatClampNeg, (sf (23 + k)).toNatClampNeg, sf (30 + k)) = (bt k, bx k, sf (30 + k)) := fun k hk => by
    obtain ⟨h1, h2, h3, h4⟩ := a5 k hk
    rw [h1, h3, nI_clamp (by omega), nI_clamp (by omega)]
  have eB : (abR md sf).2.2.2 j = fbL md j (glR sf nb) := by unfold abR; dsimp only; rw [if_neg hm0, c2]
  by_cases h0 : fF (inB sf t x9) nb 0 = 0
  · rw [if_pos h0]
    unfold flA
    rw [eB, fbL_nil]
    · rfl
    · intro e he q
      unfold glR at he
      obtain ⟨k, hk, rfl⟩ := List.mem_map.mp he
      have hk := List.mem_range.mp hk
      rw [ent k hk] at q
      exact fF_ex nb 0 k (Nat.zero_le k) (by omega) (by rw [in_j hj ht (a5 k hk)]; exact decide_eq_true q) h0
  · rw [if_neg h0]
    obtain ⟨q1, q2, q3⟩ := (fF_le (p := inB sf t x9) nb 0).resolve_left h0
    obtain ⟨-, -, -, -, q4⟩ := fF_first (p := inB sf t x9) nb 0 ⟨fF (inB sf t x9) nb 0 - 1, Nat.zero_le _, by omega, q3⟩
    have eF : flF sf t x9 bx nb = shN3 (flB sf bx nb (fF (inB sf t x9) nb 0 - 1)) (fF (inB sf t x9) nb 0 - 1) (nb - 1 - (fF (inB sf t x9) nb 0 - 1)) := by rw [flF, if_neg h0]
    obtain ⟨k0, hk0⟩ : ∃ k0, k0 = fF (inB sf t x9) nb 0 - 1 := ⟨_, rfl⟩
    rw [← hk0] at eF q3 q4
    have hkn : k0 < nb := by omega
    obtain ⟨b1, b2, b3, b4⟩ := a5 k0 hkn
    have hB : ∀ i, i ≠ 12 + bx k0 → i ≠ 15 → flB sf bx nb k0 i = sf i := fun i e1 e2 => by unfold flB; rw [pk_un e2, pk_un e1]
    have e : ∀ i, flF sf t x9 bx nb i = if (16 + k0 ≤ i ∧ i < 16 + k0 + (nb - 1 - k0)) ∨ (23 + k0 ≤ i ∧ i < 23 + k0 + (nb - 1 - k0)) ∨ (30 + k0 ≤ i ∧ i < 30 + k0 + (nb - 1 - k0)) then flB sf bx nb k0 (i + 1) else flB sf bx nb k0 i := fun i => by
      rw [eF]; exact shN3_at _ (by omega) i
    generalize flF sf t x9 bx nb = s2 at e ⊢
    -- the lists
    have eG : glR sf nb = glR sf k0 ++ ([(bt k0, bx k0, sf (30 + k0))] ++ (List.range (nb - 1 - k0)).map (fun i => ((sf (16 + (k0 + (1 + i)))).toNatClampNeg, (sf (23 + (k0 + (1 + i)))).toNatClampNeg, sf (30 + (k0 + (1 + i)))))) := by
      have q : nb = k0 + (1 + (nb - 1 - k0)) := by omega
      unfold glR
      rw [congrArg List.range q, map_split, map_split]
      rw [← ent k0 hkn]; rfl
    have eH : glR s2 (nb - 1) = glR sf k0 ++ (List.range (nb - 1 - k0)).map (fun i => ((sf (16 + (k0 + (1 + i)))).toNatClampNeg, (sf (23 + (k0 + (1 + i)))).toNatClampNeg, sf (30 + (k0 + (1 + i))))) := by
      have q : nb - 1 = k0 + (nb - 1 - k0) := by omega
      unfold glR
      rw [congrArg List.range q, map_split]
      refine congr (congrArg _ (List.map_congr_left (fun k hk => ?_))) (List.map_congr_left (fun k hk => ?_))
      · have hk := List.mem_range.mp hk
        rw [e, e, e, if_neg (by omega), if_neg (by omega), if_neg (by omega), hB _ (by omega) (by omega), hB _ (by omega) (by omega), hB _ (by omega) (by omega)]
      · have hk := List.mem_range.mp hk
        rw [e, e, e, if_pos (by omega), if_pos (by omega), if_pos (by omega), hB _ (by omega) (by omega), hB _ (by omega) (by omega), hB _ (by omega) (by omega)]
        rw [(by omega : 16 + (k0 + k) + 1 = 16 + (k0 + (1 + k))), (by omega : 23 + (k0 + k) + 1 = 23 + (k0 + (1 + k))), (by omega : 30 + (k0 + k) + 1 = 30 + (k0 + (1 + k)))]
    have e15 : (s2 15).toNatClampNeg = nb - 1 := by
      rw [e, if_neg (by omega)]; unfold flB; rw [pk_us, nI_clamp (by omega)]
    have hpos : bj md (bt k0) (bx k0) = j := by
      rw [in_j hj ht (a5 k0 hkn)] at q3; exact of_decide_eq_true q3
    have hfirst : fbL md j (glR sf k0) = [] := fbL_nil (fun e he q => by
      unfold glR at he
      obtain ⟨k, hk, rfl⟩ := List.mem_map.mp he
      have hk := List.mem_range.mp hk
      rw [ent k (by omega)] at q
      have := q4 k (Nat.zero_le k) hk
      rw [in_j hj ht (a5 k (by omega)), decide_eq_true q] at this
      exact Bool.noConfusion this)
    have eL : (abR md sf).2.2.2 j = (bx k0, sf (30 + k0)) :: fbL md j ((List.range (nb - 1 - k0)).map (fun i => ((sf (16 + (k0 + (1 + i)))).toNatClampNeg, (sf (23 + (k0 + (1 + i)))).toNatClampNeg, sf (30 + (k0 + (1 + i)))))) := by
      rw [eB, eG, fbL_app, fbL_app, hfirst, fbL_1 (by exact hpos)]; rfl
    unfold flA
    rw [eL]
    show some (abR md s2) = some _
    refine congrArg some ?_
    show ((_, _, _, _) : AB) = (_, _, _, _)
    refine Prod.ext (cutN_cg (fun i hi => ?_)) (Prod.ext (cutI_cg (fun i hi => ?_)) (Prod.ext ?_ ?_))
    · rw [e, if_neg (by omega), hB _ (by omega) (by omega)]
    · rw [e, if_neg (by omega), hB _ (by omega) (by omega)]
    · show cutI 3 (fun x => s2 (12 + x)) = upd (cutI 3 (fun x => sf (12 + x))) (bx k0) (sf (30 + k0))
      rw [← cutI_up b4]
      refine cutI_cg (fun i hi => ?_)
      rw [e, if_neg (by omega)]
      unfold flB
      rw [pk_un (by omega)]
      by_cases c : i = bx k0
      · rw [c, pk_us, pk_us]
      · rw [pk_un (by omega), pk_un c]
    · funext i
      show (if md = 0 then [] else fbL md i (glR s2 (s2 15).toNatClampNeg)) = updB _ j _ i
      rw [if_neg hm0, e15, eH, fbL_app]
      unfold updB
      by_cases c : i = j
      · rw [if_pos c, c, hfirst]; rfl
      · rw [if_neg c]
        show _ = (if md = 0 then [] else fbL md i (glR sf (sf 15).toNatClampNeg))
        rw [if_neg hm0, c2, eG, fbL_app, fbL_app, fbL_0 (by rw [hpos]; exact fun q => c q.symm)]; rfl
theorem abR_at1 {md : Nat} {sf : Nat → Int32} {t : Nat} (h : t < 4) : (abR md sf).1 t = (sf t).toNatClampNeg := cutN_at (f := fun t => (sf t).toNatClampNeg) h
theorem abR_at2 {md : Nat} {sf : Nat → Int32} {k : Nat} (h : k < 8) : (abR md sf).2.1 k = sf (4 + k) := cutI_at (f := fun k => sf (4 + k)) h
theorem abR_at3 {md : Nat} {sf : Nat → Int32} {x : Nat} (h : x < 3) : (abR md sf).2.2.1 x = sf (12 + x) := cutI_at (f := fun x => sf (12 + x)) h
theorem tu_sim {md : Nat} {kd vx rr : Nat → Nat} {vv sf : Nat → Int32} {t p9 : Nat} (ht : t < 4) (hp : sf t = nI p9) (hp7 : p9 ≤ 7) (hr : rr (7 * t + p9) < 2) (hv : kd (7 * t + p9) < 4 → vx (7 * t + p9) < 3) (hn : (sf 15).toNatClampNeg ≤ 7) :
    abR md (tuR kd vx rr vv sf t p9) = tuA kd vx rr vv (abR md sf) t (7 * t + p9) := by
  have eA : (abR md sf).1 t = p9 := by rw [abR_at1 ht, hp, nI_clamp (by omega)]
  have st : sf t + 1 = nI (p9 + 1) := by rw [hp]; exact nI_1 p9
  have c8 : cutI 8 (fun k => sf (4 + k)) = (abR md sf).2.1 := rfl
  have c3 : cutI 3 (fun x => sf (12 + x)) = (abR md sf).2.2.1 := rfl
  unfold tuR tuA
  rw [st, eA]
  by_cases k0 : kd (7 * t + p9) = 0
  · have hv3 := hv (by omega)
    rw [if_pos k0, if_pos k0, abR_at3 hv3, abR_up (t := t) (p := p9 + 1) (R := upd (fun k => sf (4 + k)) (2 * t + rr (7 * t + p9)) (sf (12 + vx (7 * t + p9)))) (M := fun x => sf (12 + x)) ht (by omega) (by rw [pk_un (by omega), pk_us]) (fun i h1 h2 => by rw [pk_un (by omega), pk_un h2]) (fun k hk => ?_) (fun x hx => by rw [pk_un (by omega), pk_un (by omega)]) (fun i h1 h2 => by rw [pk_un (by omega), pk_un (by omega)]) hn, cutI_up (by omega)]
    · rfl
    · by_cases c : k = 2 * t + rr (7 * t + p9)
      · rw [c, pk_us, ← Nat.add_assoc, pk_us, pk_un (by omega)]
      · rw [pk_un (by omega), pk_un c, pk_un (by omega)]
  · rw [if_neg k0, if_neg k0]
    by_cases k1 : kd (7 * t + p9) = 1
    · have hv3 := hv (by omega)
      rw [if_pos k1, if_pos k1, abR_up (t := t) (p := p9 + 1) (R := fun k => sf (4 + k)) (M := upd (fun x => sf (12 + x)) (vx (7 * t + p9)) (vv (7 * t + p9))) ht (by omega) (by rw [pk_un (by omega), pk_us]) (fun i h1 h2 => by rw [pk_un (by omega), pk_un h2]) (fun k hk => by rw [pk_un (by omega), pk_un (by omega)]) (fun x hx => ?_) (fun i h1 h2 => by rw [pk_un (by omega), pk_un (by omega)]) hn, cutI_up hv3]
      · rfl
      · by_cases c : x = vx (7 * t + p9)
        · rw [c, pk_us, pk_us]
        · rw [pk_un (by omega), pk_un c, pk_un (by omega)]
    · rw [if_neg k1, if_neg k1]
      by_cases k2 : kd (7 * t + p9) = 2
      · have hv3 := hv (by omega)
        rw [if_pos k2, if_pos k2, abR_at2 (by omega), abR_up (t := t) (p := p9 + 1) (R := fun k => sf (4 + k)) (M := upd (fun x => sf (12 + x)) (vx (7 * t + p9)) (sf (4 + (2 * t + rr (7 * t + p9))) + vv (7 * t + p9))) ht (by omega) (by rw [pk_un (by omega), pk_us]) (fun i h1 h2 => by rw [pk_un (by omega), pk_un h2]) (fun k hk => by rw [pk_un (by omega), pk_un (by omega)]) (fun x hx => ?_) (fun i h1 h2 => by rw [pk_un (by omega), pk_un (by omega)]) hn, cutI_up hv3]
        · rfl
        · by_cases c : x = vx (7 * t + p9)
          · rw [c, pk_us, pk_us, pk_un (by omega), ← Nat.add_assoc]
          · rw [pk_un (by omega), pk_un c, pk_un (by omega)]
      · rw [if_neg k2, if_neg k2]
        by_cases k3 : kd (7 * t + p9) = 3
        · have hv3 := hv (by omega)
          rw [if_pos k3, if_pos k3, abR_at3 hv3, abR_up (t := t) (p := p9 + 1) (R := upd (fun k => sf (4 + k)) (2 * t + rr (7 * t + p9)) (sf (12 + vx (7 * t + p9)))) (M := upd (fun x => sf (12 + x)) (vx (7 * t + p9)) (sf (12 + vx (7 * t + p9)) + vv (7 * t + p9))) ht (by omega) (by rw [pk_un (by omega), pk_un (by omega), pk_us]) (fun i h1 h2 => by rw [pk_un (by omega), pk_un (by omega), pk_un h2]) (fun k hk => ?_) (fun x hx => ?_) (fun i h1 h2 => by rw [pk_un (by omega), pk_un (by omega), pk_un (by omega)]) hn, cutI_up (by omega), cutI_up hv3]
          · rfl
          · by_cases c : k = 2 * t + rr (7 * t + p9)
            · rw [c, pk_us, pk_un (by omega), ← Nat.add_assoc, pk_us, pk_un (by omega)]
            · rw [pk_un (by omega), pk_un (by omega), pk_un c, pk_un (by omega)]
          · by_cases c : x = vx (7 * t + p9)
            · rw [c, pk_us, pk_us, pk_un (by omega), pk_un (by omega)]
            · rw [pk_un (by omega), pk_un c, pk_un (by omega), pk_un (by omega)]
        · rw [if_neg k3, if_neg k3, abR_up (t := t) (p := p9 + 1) (R := fun k => sf (4 + k)) (M := fun x => sf (12 + x)) ht (by omega) (by rw [pk_us]) (fun i h1 h2 => by rw [pk_un h2]) (fun k hk => by rw [pk_un (by omega)]) (fun x hx => by rw [pk_un (by omega)]) (fun i h1 h2 => by rw [pk_un (by omega)]) hn]
          rfl
theorem sk_sim {md : Nat} {zs vx rr : Nat → Nat} {vv sf : Nat → Int32} {t p9 : Nat} (ht : t < 4) (hp : sf t = nI p9) (hp7 : p9 ≤ 7) (hz7 : zs t ≤ 7) (hr : rr (7 * t + p9) < 2) (hn : (sf 15).toNatClampNeg ≤ 7) :
    abR md (skR zs vx rr vv sf t p9) = skA zs vx rr vv (abR md sf) t (7 * t + p9) := by
  have eA : (abR md sf).1 t = p9 := by rw [abR_at1 ht, hp, nI_clamp (by omega)]
  unfold skR skA
  rw [eA, abR_at2 (by omega), ← Nat.add_assoc]
  by_cases c : sf (4 + 2 * t + rr (7 * t + p9)) = vv (7 * t + p9)
  · rw [if_pos c, if_pos c, abR_up (t := t) (p := p9 + 1) (R := fun k => sf (4 + k)) (M := fun x => sf (12 + x)) ht (by omega) (by rw [pk_us]) (fun i h1 h2 => by rw [pk_un h2]) (fun k hk => by rw [pk_un (by omega)]) (fun x hx => by rw [pk_un (by omega)]) (fun i h1 h2 => by rw [pk_un (by omega)]) hn]
    rfl
  · rw [if_neg c, if_neg c, abR_up (t := t) (p := if zs t < p9 + 1 + vx (7 * t + p9) then zs t else p9 + 1 + vx (7 * t + p9)) (R := fun k => sf (4 + k)) (M := fun x => sf (12 + x)) ht (by split <;> omega) (by rw [pk_us]) (fun i h1 h2 => by rw [pk_un h2, pk_un h2]) (fun k hk => by rw [pk_un (by omega), pk_un (by omega)]) (fun x hx => by rw [pk_un (by omega), pk_un (by omega)]) (fun i h1 h2 => by rw [pk_un (by omega), pk_un (by omega)]) hn]
    rfl
