/-- how the threads go by the choices of a list -/
def gzQ (K N0 T ld : Nat) (zs kd vx rr li : Nat → Nat) (vv : Nat → Int32) (fl : Nat → Nat) : A9 := gwA K T zs kd vx rr (fQ li ld fl) vv N0 (a0S (fun _ => 0))
/-- all graphs of one choice -/
def onR (gm K N0 N1 T ld : Nat) (zs kd vx rr li : Nat → Nat) (vv : Nat → Int32) (std : (Nat → Nat) → (Nat → List Nat) → Bool) (fl : Nat → Nat) (g : GG) : GG :=
  if goP T ld zs kd vx li (fQ li ld fl) (gzQ K N0 T ld zs kd vx rr li vv fl) then rwR gm T zs kd vx (gzQ K N0 T ld zs kd vx rr li vv fl).2.2.2.1 (fun l a x => decide (mfL kd vx li (fQ li ld fl) (gzQ K N0 T ld zs kd vx rr li vv fl).2.2.2.1 ld l a x)) (std fl) (fun RL => v11 (nvR (gzQ K N0 T ld zs kd vx rr li vv fl).2.1 (gzQ K N0 T ld zs kd vx rr li vv fl).2.2.1 RL)) (N1 + 1) 0 (fun _ => []) g else g
def flO (kd : Nat → Nat) (k : Nat) (fl : Nat → Nat) : Prop := ∀ q, q < k → fl q ≤ 28 ∧ (¬ fl q = 0 → 1 ≤ kd (fl q - 1) ∧ kd (fl q - 1) ≤ 3)
/-- std tells whether a graph stands -/
def StdP (gm K N0 T ld : Nat) (zs kd vx rr li : Nat → Nat) (vv : Nat → Int32) (std : (Nat → Nat) → (Nat → List Nat) → Bool) : Prop :=
  ∀ fl fm, (∀ q, q < ld → fm (li q) = fl q) → flO kd ld fl → goP T ld zs kd vx li (fQ li ld fl) (gzQ K N0 T ld zs kd vx rr li vv fl) → ∀ RL rx rs nu ow rd bf sn, okRL RL rx rs → gdR gm T zs kd vx (gzQ K N0 T ld zs kd vx rr li vv fl).2.2.2.1 RL →
    (std fl RL = true ↔ wSt gm T ld zs kd vx li fm (gzQ K N0 T ld zs kd vx rr li vv fl).2.2.2.1 rx rs (wnT zs (gzQ K N0 T ld zs kd vx rr li vv fl).2.2.2.1 (nu, ow, rd, bf, sn, 0) T))
theorem okRL_0 {rx rs : Nat → Nat} (h : ∀ i, i < 28 → rx i < 28) : okRL (fun _ => []) rx (updN (updN (updN (updN rs 0 0) 1 0) 2 0) 3 0) := by
  refine ⟨fun x hx => ⟨?_, Nat.zero_le _, fun i hi => absurd hi (Nat.not_lt_zero i)⟩, h⟩
  rcases (by omega : x = 0 ∨ x = 1 ∨ x = 2 ∨ x = 3) with rfl | rfl | rfl | rfl <;> rfl
theorem gdR_0 {gm T : Nat} {zs kd vx hp : Nat → Nat} : gdR gm T zs kd vx hp (fun _ => []) := fun x _ => ⟨fun i j hi => absurd hi (Nat.not_lt_zero i), fun a ha => absurd ha (List.not_mem_nil)⟩
theorem mfL_cg {kd vx li fm fm' hp hp' : Nat → Nat} {ld a x : Nat} {l : List Nat} (hf : ∀ q, q < ld → fm (li q) = fm' (li q)) (ha : kd a = 3 → fm a = fm' a) (hh : hp = hp') : mfL kd vx li fm hp ld l a x ↔ mfL kd vx li fm' hp' ld l a x := by
  subst hh
  have e : fF (fun k => decide (kd (li k) = 3 ∧ hp (li k) = 1 ∧ vx (li k) = x ∧ fm (li k) = lsL l ∧ ¬ li k ∈ l)) ld 0 = fF (fun k => decide (kd (li k) = 3 ∧ hp (li k) = 1 ∧ vx (li k) = x ∧ fm' (li k) = lsL l ∧ ¬ li k ∈ l)) ld 0 := fF_cg ld 0 (fun j _ hj => by rw [hf j (by omega)])
  constructor
  · rintro (h | h | h)
    · exact Or.inl h
    · exact Or.inr (Or.inl ⟨h.1, by rw [← ha h.1]; exact h.2⟩)
    · exact Or.inr (Or.inr ⟨h.1, by rw [← e]; exact h.2⟩)
  · rintro (h | h | h)
    · exact Or.inl h
    · exact Or.inr (Or.inl ⟨h.1, by rw [ha h.1]; exact h.2⟩)
    · exact Or.inr (Or.inr ⟨h.1, by rw [e]; exact h.2⟩)
theorem nv_cg {gm T : Nat} {zs kd vx : Nat → Nat} {g h : A9} (hs : smA kd g h) (hB : g.2.2.2.1 = g.2.2.2.2) {RL : Nat → List Nat} (hg : gdR gm T zs kd vx g.2.2.2.1 RL) : v11 (nvR h.2.1 h.2.2.1 RL) = v11 (nvR g.2.1 g.2.2.1 RL) := by
  refine v11_eq.mpr fun k hk => ?_
  unfold nvR lvL
  split
  · rw [hs.2.1]
  · split
    · rfl
    · next c1 c2 =>
      have h9 := (hg (k - 8) (by omega)).2 _ (memD.mpr ⟨(RL (k - 8)).length - 1, by omega, rfl⟩)
      rcases h9.2.2 with h7 | h7
      · exact (hs.2.2.2.2 _ (by rw [← hB]; exact h9.2.1) (by omega)).symm
      · exact absurd h7.1 (by omega)
theorem ag_fQ {T ld : Nat} {zs kd li fl fm : Nat → Nat} (hz : ∀ t, t < T → zs t ≤ 7) (hli : liO T ld zs kd li) (hag : ∀ q, q < ld → fm (li q) = fl q) (hfl : flO kd ld fl) : agFm T zs kd fm (fQ li ld fl) ∧ agFm T zs kd fm fm := by
  have key : ∀ t k, t < T → k < zs t → (kd (7 * t + k) = 0 ∨ kd (7 * t + k) = 3) → fm (7 * t + k) = fQ li ld fl (7 * t + k) ∧ fm (7 * t + k) ≤ 28 ∧ (¬ fm (7 * t + k) = 0 → ¬ kd (fm (7 * t + k) - 1) = 4) := fun t k ht hk hkd => by
    have := hz t ht
    obtain ⟨q, hq, e⟩ := hli.2.2 (7 * t + k) (by rw [show (7 * t + k) / 7 = t from by omega]; exact ht) (by rw [show (7 * t + k) / 7 = t from by omega, show (7 * t + k) % 7 = k from by omega]; exact hk) hkd
    rw [← e, hag q hq, fQ_at hli hq]
    obtain ⟨h1, h2⟩ := hfl q hq
    exact ⟨rfl, h1, fun h3 => by have := h2 h3; omega⟩
  exact ⟨key, fun t k ht hk hkd => ⟨rfl, (key t k ht hk hkd).2⟩⟩
/-- all that one needs to know of a choice in the arrays -/
theorem one_facts {gm K N0 T ld : Nat} {zs kd vx rr li fl fm : Nat → Nat} {vv gv0 : Nat → Int32} {gz : A9} (hT : T ≤ 4) (hz : ∀ t, t < T → zs t ≤ 7) (hsum : smN zs T ≤ 7) (hvv : ∀ i, i < 28 → wB (vv i) 9) (hli : liO T ld zs kd li) (hag : ∀ q, q < ld → fm (li q) = fl q) (hfl : flO kd ld fl) (hgz : gwA K T zs kd vx rr fm vv N0 (a0S gv0) = gz) :
    smA kd gz (gzQ K N0 T ld zs kd vx rr li vv fl) ∧ GA T zs gz ∧ BA T zs kd gz ∧ (goP T ld zs kd vx li fm gz ↔ goP T ld zs kd vx li (fQ li ld fl) (gzQ K N0 T ld zs kd vx rr li vv fl)) := by
  obtain ⟨h1, h2⟩ := ag_fQ hz hli hag hfl
  have hs : smA kd gz (gzQ K N0 T ld zs kd vx rr li vv fl) := by rw [← hgz]; exact gwA_sm h1 N0 _ _ GA_0 smA_0
  refine ⟨hs, ?_, ?_, goP_cg (fun q hq => by rw [hag q hq, fQ_at hli hq]) hs⟩
  · rw [← hgz]; exact gwA_ok N0 _ GA_0
  · rw [← hgz]; exact gwA_inv (acF_BA hT hz hvv h2) N0 _ GA_0 (BA_0 hsum)
