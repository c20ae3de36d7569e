/-! A table of slots with keys, searched from a key's place on: own rows on plain functions. -/
theorem pigeon : ∀ (n N : Nat) (g : Nat → Nat), (∀ i, i < N → 1 ≤ g i ∧ g i ≤ n) → (∀ i j, i < N → j < N → g i = g j → i = j) → N ≤ n
  | 0, N, g, hg, _ => by
    rcases Nat.eq_zero_or_pos N with h | h
    · omega
    · have := hg 0 h; omega
  | n + 1, N, g, hg, hi => by
    by_cases hx : ∃ i, i < N ∧ g i = n + 1
    · obtain ⟨i0, h0, e0⟩ := hx
      have := pigeon n (N - 1) (fun i => g (if i = i0 then N - 1 else i)) (fun i hi' => by
        have hk : (if i = i0 then N - 1 else i) < N := by split <;> omega
        refine ⟨(hg _ hk).1, ?_⟩
        have h2 := (hg _ hk).2
        rcases Nat.lt_or_ge (g (if i = i0 then N - 1 else i)) (n + 1) with h | h
        · omega
        · have he : g (if i = i0 then N - 1 else i) = g i0 := by omega
          have := hi _ _ hk h0 he
          split at this <;> omega) (fun i j hi' hj' he => by
        have hk : (if i = i0 then N - 1 else i) < N := by split <;> omega
        have hk2 : (if j = i0 then N - 1 else j) < N := by split <;> omega
        have := hi _ _ hk hk2 he
        split at this <;> split at this <;> omega)
      omega
    · have := pigeon n N g (fun i hi' => ⟨(hg i hi').1, by
        have h2 := (hg i hi').2
        rcases Nat.lt_or_ge (g i) (n + 1) with h | h
        · omega
        · exact absurd ⟨i, hi', by omega⟩ hx⟩) hi
      omega
theorem least {P : Nat → Prop} : ∀ {d : Nat}, P d → ∃ c, c ≤ d ∧ P c ∧ ∀ b, b < c → ¬ P b := by
  intro d
  induction d using Nat.strongRecOn with
  | _ d ih =>
    intro hd
    by_cases hx : ∃ c, c < d ∧ P c
    · obtain ⟨c, hc, hP⟩ := hx
      obtain ⟨b, hb, hPb, hm⟩ := ih c hc hP
      exact ⟨b, by omega, hPb, hm⟩
    · exact ⟨d, Nat.le_refl d, hd, fun b hb hPb => hx ⟨b, hb, hPb⟩⟩
theorem mod_shift {N : Nat} (a c : Nat) : ((a + 1) % N + c) % N = (a + (c + 1)) % N := by
  rw [Nat.mod_add_mod]; congr 1; omega
theorem mod_ne {N h c d : Nat} (hcd : c < d) (hd : d < N) : (h + c) % N ≠ (h + d) % N := by
  intro e
  have h1 := Nat.sub_mod_eq_zero_of_mod_eq e.symm
  have h2 : h + d - (h + c) = d - c := by omega
  rw [h2] at h1
  have h3 := Nat.le_of_dvd (by omega) (Nat.dvd_of_mod_eq_zero h1)
  omega
theorem pr_at {N : Nat} {sf : Nat → Int32} {kf : Nat → Int64} {key : Int64} : ∀ (n a d : Nat), a < N → d < n →
    (sf ((a + d) % N) = 0 ∨ kf ((sf ((a + d) % N)).toNatClampNeg - 1) = key) →
    (∀ c, c < d → ¬ (sf ((a + c) % N) = 0 ∨ kf ((sf ((a + c) % N)).toNatClampNeg - 1) = key)) → pr N sf kf key n a = (a + d) % N
  | 0, _, _, _, hd, _, _ => by omega
  | n + 1, a, 0, ha, _, h, _ => by
    rw [Nat.add_zero, Nat.mod_eq_of_lt ha] at h
    rw [pr, if_pos h, Nat.add_zero, Nat.mod_eq_of_lt ha]
  | n + 1, a, d + 1, ha, hd, h, hc => by
    have h0 := hc 0 (by omega)
    rw [Nat.add_zero, Nat.mod_eq_of_lt ha] at h0
    rw [pr, if_neg h0]
    have := pr_at (N := N) (sf := sf) (kf := kf) (key := key) n ((a + 1) % N) d (Nat.mod_lt _ (by omega)) (by omega) (by rw [mod_shift]; exact h) (fun c hcd => by rw [mod_shift]; exact hc (c + 1) (by omega))
    rw [this, mod_shift]
/-- n keys stand in N slots: each slot has a key's number and 1, or 0; each key stands where a search for it ends. -/
def inT (N : Nat) (h : Int64 → Nat) (n : Nat) (kf : Nat → Int64) (g : Nat → Nat) : Prop :=
  (∀ i, i < N → g i ≤ n) ∧ (∀ i j, i < N → j < N → g i = g j → g i ≠ 0 → i = j) ∧
  (∀ j, j < n → ∃ d, d < N ∧ g ((h (kf j) + d) % N) = j + 1 ∧ ∀ c, c < d → g ((h (kf j) + c) % N) ≠ 0) ∧
  (∀ i j, i < n → j < n → kf i = kf j → i = j)
theorem inT_0 {N : Nat} {h : Int64 → Nat} {kf : Nat → Int64} {g : Nat → Nat} (hg : ∀ i, i < N → g i = 0) : inT N h 0 kf g :=
  ⟨fun i hi => by rw [hg i hi]; exact Nat.le_refl 0, fun i j hi _ _ h0 => absurd (hg i hi) h0, fun j hj => absurd hj (Nat.not_lt_zero j), fun i _ hi => absurd hi (Nat.not_lt_zero i)⟩
theorem inT_empty {N : Nat} {h : Int64 → Nat} {n : Nat} {kf : Nat → Int64} {g : Nat → Nat} (hI : inT N h n kf g) (hn : n < N) : ∃ i, i < N ∧ g i = 0 := by
  by_cases hx : ∃ i, i < N ∧ g i = 0
  · exact hx
  · have hp : ∀ i, i < N → g i ≠ 0 := fun i hi h0 => hx ⟨i, hi, h0⟩
    have := pigeon n N g (fun i hi => ⟨Nat.pos_of_ne_zero (hp i hi), hI.1 i hi⟩) (fun i j hi hj he => hI.2.1 i j hi hj he (hp i hi))
    omega
theorem inT_new {N : Nat} {h : Int64 → Nat} {n : Nat} {kf : Nat → Int64} {g : Nat → Nat} {sf : Nat → Int32} {key : Int64} (hI : inT N h n kf g) (hn : n < N) (h31 : N < 2 ^ 31) (hs : ∀ i, i < N → sf i = nI (g i)) (hh : h key < N) (hk : ∀ j, j < n → kf j ≠ key) :
    ∃ d, d < N ∧ pr N sf kf key N (h key) = (h key + d) % N ∧ g ((h key + d) % N) = 0 ∧ ∀ c, c < d → g ((h key + c) % N) ≠ 0 := by
  obtain ⟨i, hi, h0⟩ := inT_empty hI hn
  have hm : ∀ c, (h key + c) % N < N := fun c => Nat.mod_lt _ (by omega)
  have hd0 : g ((h key + (i + N - h key) % N) % N) = 0 := by
    have : (h key + (i + N - h key) % N) % N = i := by
      rw [Nat.add_mod_mod, show h key + (i + N - h key) = i + N from by omega, Nat.add_mod_right, Nat.mod_eq_of_lt hi]
    rw [this]; exact h0
  obtain ⟨d, hd, hP, hl⟩ := least (P := fun d => g ((h key + d) % N) = 0) hd0
  have hdN : d < N := Nat.lt_of_le_of_lt hd (Nat.mod_lt _ (by omega))
  refine ⟨d, hdN, ?_, hP, hl⟩
  refine pr_at N (h key) d hh hdN (Or.inl (by rw [hs _ (hm d), hP]; rfl)) (fun c hc => ?_)
  have hg0 := hl c hc
  have hgn := hI.1 _ (hm c)
  rintro (h1 | h1)
  · rw [hs _ (hm c)] at h1; exact nI_ne0 (Nat.pos_of_ne_zero hg0) (by omega) h1
  · rw [hs _ (hm c), nI_clamp (by omega)] at h1; exact hk _ (by omega) h1
theorem inT_old {N : Nat} {h : Int64 → Nat} {n : Nat} {kf : Nat → Int64} {g : Nat → Nat} {sf : Nat → Int32} {j : Nat} (hI : inT N h n kf g) (hn : n < N) (h31 : N < 2 ^ 31) (hs : ∀ i, i < N → sf i = nI (g i)) (hj : j < n) (hh : h (kf j) < N) :
    ∃ a, a < N ∧ pr N sf kf (kf j) N (h (kf j)) = a ∧ g a = j + 1 := by
  obtain ⟨d, hd, hP, hl⟩ := hI.2.2.1 j hj
  have hm : ∀ c, (h (kf j) + c) % N < N := fun c => Nat.mod_lt _ (by omega)
  refine ⟨_, hm d, ?_, hP⟩
  refine pr_at N (h (kf j)) d hh hd (Or.inr (by rw [hs _ (hm d), hP, nI_clamp (by omega)]; rfl)) (fun c hc => ?_)
  have hg0 := hl c hc
  have hgn := hI.1 _ (hm c)
  rintro (h1 | h1)
  · rw [hs _ (hm c)] at h1; exact nI_ne0 (Nat.pos_of_ne_zero hg0) (by omega) h1
  · rw [hs _ (hm c), nI_clamp (by omega)] at h1
    have h2 := hI.2.2.2 _ _ (by omega) hj h1
    have h3 := hI.2.1 _ _ (hm c) (hm d) (by rw [hP]; omega) hg0
    exact mod_ne hc hd h3
theorem inT_put {N : Nat} {h : Int64 → Nat} {n : Nat} {kf kf' : Nat → Int64} {g g' : Nat → Nat} {key : Int64} {d : Nat} (hI : inT N h n kf g) (hd : d < N) (h0 : g ((h key + d) % N) = 0) (hl : ∀ c, c < d → g ((h key + c) % N) ≠ 0) (hk : ∀ j, j < n → kf j ≠ key)
    (hf : ∀ j, j < n → kf' j = kf j) (hf2 : kf' n = key) (hg : ∀ i, i < N → g' i = if i = (h key + d) % N then n + 1 else g i) : inT N h (n + 1) kf' g' := by
  have hm : ∀ (x c : Nat), (x + c) % N < N := fun x c => Nat.mod_lt _ (by omega)
  have hne : ∀ i, i < N → g i ≠ 0 → g' i = g i := fun i hi q => by
    rw [hg i hi]; exact if_neg (fun e => q (by rw [e]; exact h0))
  refine ⟨fun i hi => ?_, fun i j hi hj he hz => ?_, fun j hj => ?_, fun i j hi hj he => ?_⟩
  · rw [hg i hi]; split
    · exact Nat.le_refl _
    · have := hI.1 i hi; omega
  · rw [hg i hi, hg j hj] at he
    rw [hg i hi] at hz
    have hgi := hI.1 i hi; have hgj := hI.1 j hj
    by_cases e1 : i = (h key + d) % N
    · by_cases e2 : j = (h key + d) % N
      · rw [e1, e2]
      · rw [if_pos e1, if_neg e2] at he; omega
    · by_cases e2 : j = (h key + d) % N
      · rw [if_neg e1, if_pos e2] at he; omega
      · rw [if_neg e1, if_neg e2] at he; rw [if_neg e1] at hz; exact hI.2.1 i j hi hj he hz
  · rcases Nat.lt_or_ge j n with hjn | hjn
    · rw [hf j hjn]
      obtain ⟨c, hc, hP, hlc⟩ := hI.2.2.1 j hjn
      exact ⟨c, hc, by rw [hne _ (hm _ _) (by rw [hP]; omega)]; exact hP, fun b hb => by rw [hne _ (hm _ _) (hlc b hb)]; exact hlc b hb⟩
    · have : j = n := by omega
      subst this
      rw [hf2]
      exact ⟨d, hd, by rw [hg _ (hm _ _), if_pos rfl], fun b hb => by rw [hne _ (hm _ _) (hl b hb)]; exact hl b hb⟩
  · rcases Nat.lt_or_ge i n with h1 | h1 <;> rcases Nat.lt_or_ge j n with h2 | h2
    · rw [hf i h1, hf j h2] at he; exact hI.2.2.2 i j h1 h2 he
    · have : j = n := by omega
      subst this; rw [hf i h1, hf2] at he; exact absurd he (hk i h1)
    · have : i = n := by omega
      subst this; rw [hf2, hf j h2] at he; exact absurd he.symm (hk j h2)
    · omega
