theorem fm_none {A B : Type} {f : A → Option B} : ∀ l : List A, (∀ a, a ∈ l → f a = none) → l.filterMap f = []
  | [], _ => rfl
  | a :: l, h => by rw [fm_cons, h a (List.mem_cons_self ..), fm_none l (fun b hb => h b (List.mem_cons_of_mem _ hb))]; rfl
theorem fm_rng {B : Type} {G : Nat → Option B} {kn m : Nat} (h : kn + m ≤ 9) : (List.range 9).filterMap (fun k => if kn ≤ k ∧ k < kn + m then G k else none) = (List.range m).filterMap (fun i => G (kn + i)) := by
  have e : List.range 9 = List.range kn ++ ((List.range m).map (fun i => kn + i) ++ (List.range (9 - kn - m)).map (fun i => kn + (m + i))) := by
    have h1 := map_split (fun i => i) kn (m + (9 - kn - m))
    rw [List.map_id', List.map_id', map_split _ m (9 - kn - m), (by omega : kn + (m + (9 - kn - m)) = 9)] at h1
    exact h1
  rw [e, List.filterMap_append, List.filterMap_append, fm_none (List.range kn) (fun k hk => if_neg (by have := List.mem_range.mp hk; omega)), fm_none ((List.range (9 - kn - m)).map (fun i => kn + (m + i))) (fun k hk => by
    obtain ⟨i, -, rfl⟩ := List.mem_map.mp hk
    exact if_neg (by omega)), List.nil_append, List.append_nil, List.filterMap_map]
  refine fm_cg _ (fun i hi => ?_)
  have := List.mem_range.mp hi
  show (if kn ≤ kn + i ∧ kn + i < kn + m then G (kn + i) else none) = G (kn + i)
  exact if_pos ⟨by omega, by omega⟩
theorem updF_id {k : Nat → Nat → Nat} {t : Nat} : updF k t (k t) = k := by
  funext u
  by_cases e : u = t
  · rw [e, updF_s]
  · rw [updF_n e]
section SIQ
variable {T Ac : Nat} {pg : Nat → Nat → Nat} {nm : Nat → Int32} {zs kd vx rr : Nat → Nat} {vv : Nat → Int32} {s : S9K} {t a : Nat}
theorem row_k3 (hI : IvQ T Ac pg nm s) {x p : Nat} (hx : x < 3) (h1 : 1 ≤ p) (h2 : p ≤ s.2.2.2.2.2.2.1 x) : pg 4 (sr9 s x p - 1) < 4 := by
  obtain ⟨y1, y2, y3, y4, y5, y6⟩ := row_in hI (by omega) h1 h2
  unfold rowN at y6
  split at y6
  · assumption
  · omega
theorem enP_v (hI : IvQ T Ac pg nm s) {x k : Nat} (hx : x < 3) (hk : k ≤ s.2.2.2.2.2.2.1 x) : (enP pg s (sr9 s x k)).1 = s.2.2.2.2.1 (sr9 s x k) := by
  show (if sr9 s x k = 0 ∨ pg 4 (sr9 s x k - 1) = 4 then 0 else s.2.2.2.2.1 (sr9 s x k)) = _
  by_cases z : k = 0
  · rw [z, sr9_0, if_pos (Or.inl rfl)]; exact hI.1.2.2.2.2.2.2.1.symm
  · have h1 := row_k3 hI hx (by omega) hk
    have h2 := (row_in hI (by omega : x < 4) (by omega : 1 ≤ k) hk).1
    rw [if_neg (by omega)]
theorem enP_an (hI : IvQ T Ac pg nm s) {x k : Nat} (hx : x < 3) (hk : k ≤ s.2.2.2.2.2.2.1 x) : (enP pg s (sr9 s x k)).2.1 = 1 ↔ adC pg s x k := by
  show (if sr9 s x k ≠ 0 ∧ (pg 4 (sr9 s x k - 1) = 3 ∨ pg 4 (sr9 s x k - 1) = 4) then 1 else 0) = 1 ↔ _
  unfold adC
  by_cases z : k = 0
  · rw [z, sr9_0, if_neg (fun q => q.1 rfl)]
    exact ⟨fun q => by omega, fun q => absurd rfl q.1⟩
  · have h1 := row_k3 hI hx (by omega) hk
    by_cases q : sr9 s x k ≠ 0 ∧ (pg 4 (sr9 s x k - 1) = 3 ∨ pg 4 (sr9 s x k - 1) = 4)
    · rw [if_pos q]; exact ⟨fun _ => ⟨q.1, by omega⟩, fun _ => rfl⟩
    · rw [if_neg q]; exact ⟨fun w => by omega, fun w => absurd ⟨w.1, Or.inl w.2⟩ q⟩
theorem adC_hi {x p : Nat} (h : s.2.2.2.2.2.2.1 x < p) : ¬ adC pg s x p := fun q => q.1 (sr9_hi h)
theorem kn9_kq : kn9 pg s a = kq s (s.2.2.2.2.2.2.2.1 (pg 2 a)) (pg 5 a) := rfl
theorem StK_rd {k : Nat} (k0 : pg 4 a = 0) (h : k ≤ s.2.2.2.2.2.2.1 (pg 5 a)) : StK9 pg s a (sr9 s (pg 5 a) k) 0 :=
  ⟨fun _ => Or.inl k0, fun q => absurd q (Nat.lt_irrefl 0), fun _ => ⟨k, h, rfl⟩, fun q => by omega, fun q => by omega⟩
theorem StK_sk (k5 : pg 4 a = 5) : StK9 pg s a 0 0 := ⟨fun _ => Or.inr k5, fun q => absurd q (Nat.lt_irrefl 0), fun q => by omega, fun q => by omega, fun _ => rfl⟩
theorem row_v (h : pg 4 a < 4) : rowN pg a = pg 5 a := if_pos h
theorem StK_wr (hX : PX T Ac pg nm zs kd vx rr vv) (hI : IvQ T Ac pg nm s) (haA : a < Ac) {pc : Nat} (k12 : pg 4 a = 1 ∨ pg 4 a = 2) (h1 : kn9 pg s a < pc) (h2 : pc ≤ s.2.2.2.2.2.2.1 (pg 5 a) + 1) (h3 : ¬ adC pg s (pg 5 a) pc) : StK9 pg s a 0 pc := by
  have hx := (hX.1.2.2.2.2.1 a haA).2.2.2.1 (by omega)
  have er := row_v (pg := pg) (a := a) (by omega)
  refine ⟨fun q => by omega, fun _ => ⟨by omega, by omega, by rw [er]; exact h2, ?_, fun q => ?_⟩, fun q => by omega, fun q => by omega, fun _ => rfl⟩
  · rw [er, hI.2.2.2.2.2.1, Nat.or_zero]; exact h1
  · rw [er] at q ⊢
    have h4 := row_k3 hI hx (by omega) q
    have h5 := (row_in hI (by omega : pg 5 a < 4) (by omega : 1 ≤ pc) q).1
    intro z
    exact h3 ⟨by omega, by omega⟩
theorem StK_ad (hX : PX T Ac pg nm zs kd vx rr vv) (hI : IvQ T Ac pg nm s) (haA : a < Ac) {k : Nat} (k3 : pg 4 a = 3) (h1 : kn9 pg s a ≤ k) (h2 : k ≤ s.2.2.2.2.2.2.1 (pg 5 a)) (h3 : ¬ adC pg s (pg 5 a) (k + 1)) : StK9 pg s a (sr9 s (pg 5 a) k) (k + 1) := by
  have hx := (hX.1.2.2.2.2.1 a haA).2.2.2.1 (by omega)
  have er := row_v (pg := pg) (a := a) (by omega)
  refine ⟨fun q => by omega, fun _ => ⟨by omega, by omega, by rw [er]; omega, ?_, fun q => ?_⟩, fun q => by omega, fun _ => ⟨by omega, by rw [er]; rfl⟩, fun q => by omega⟩
  · rw [er, kq_or]
    have hk : kq s (s.2.2.2.2.2.2.2.2 (sr9 s (pg 5 a) k)) (pg 5 a) ≤ k := by
      by_cases z : k = 0
      · rw [z, sr9_0, hI.2.2.2.2.2.1, kq_0]; exact Nat.le_refl 0
      · rw [hI.2.2.2.2.2.2.2.2.2.1 _ k (by omega) (by omega) h2]; exact Nat.le_refl k
    rw [kn9_kq] at h1
    split <;> omega
  · rw [er] at q ⊢
    have h4 := row_k3 hI hx (by omega) q
    have h5 := (row_in hI (by omega : pg 5 a < 4) (by omega : 1 ≤ k + 1) q).1
    intro z
    exact h3 ⟨by omega, by omega⟩
theorem StK_fn (k4 : pg 4 a = 4) : StK9 pg s a (sr9 s 3 (s.2.2.2.2.2.2.1 3)) (s.2.2.2.2.2.2.1 3 + 1) := by
  have er : rowN pg a = 3 := if_neg (by omega)
  refine ⟨fun q => absurd q (Nat.succ_ne_zero _), fun _ => ⟨by omega, by omega, by rw [er]; exact Nat.le_refl _, ?_, fun q => by rw [er] at q; omega⟩, fun q => by omega, fun _ => ⟨Nat.succ_pos _, by rw [er]; rfl⟩, fun q => by omega⟩
  rw [er]
  exact Nat.lt_succ_of_le kq_le
/-- each step is one of these -/
theorem nK_st (hX : PX T Ac pg nm zs kd vx rr vv) (hI : IvQ T Ac pg nm s) (haA : a < Ac) {k : Int32 × S9K} (h : k ∈ nK pg nm s a) : ∃ s9 pc, k.2 = tkC pg nm s a s9 pc ∧ StK9 pg s a s9 pc := by
  have hk6 := (hX.1.2.2.2.2.1 a haA).2.2.1
  have hkn : kn9 pg s a ≤ s.2.2.2.2.2.2.1 (pg 5 a) := kq_le
  unfold nK at h
  by_cases k0 : pg 4 a = 0
  · rw [if_pos k0] at h
    obtain ⟨i, hi, e⟩ := List.mem_filterMap.mp h
    have hi := List.mem_range.mp hi
    rw [← Option.some.inj e]
    exact ⟨_, _, rfl, StK_rd k0 (by omega)⟩
  · rw [if_neg k0] at h
    by_cases k12 : pg 4 a = 1 ∨ pg 4 a = 2
    · rw [if_pos k12] at h
      obtain ⟨i, hi, e⟩ := List.mem_filterMap.mp h
      have hi := List.mem_range.mp hi
      by_cases q : adC pg s (pg 5 a) (kn9 pg s a + 1 + i)
      · rw [if_pos q] at e; exact nomatch e
      · rw [if_neg q] at e
        rw [← Option.some.inj e]
        exact ⟨_, _, rfl, StK_wr hX hI haA k12 (by omega) (by omega) q⟩
    · rw [if_neg k12] at h
      by_cases k3 : pg 4 a = 3
      · rw [if_pos k3] at h
        obtain ⟨i, hi, e⟩ := List.mem_filterMap.mp h
        have hi := List.mem_range.mp hi
        by_cases q : adC pg s (pg 5 a) (kn9 pg s a + i + 1)
        · rw [if_pos q] at e; exact nomatch e
        · rw [if_neg q] at e
          rw [← Option.some.inj e]
          exact ⟨_, _, rfl, StK_ad hX hI haA k3 (by omega) (by omega) q⟩
      · rw [if_neg k3] at h
        by_cases k4 : pg 4 a = 4
        · rw [if_pos k4] at h
          rw [List.mem_singleton.mp h]
          exact ⟨_, _, rfl, StK_fn k4⟩
        · rw [if_neg k4] at h
          rw [List.mem_singleton.mp h]
          exact ⟨_, _, rfl, StK_sk (by omega)⟩
theorem IvQ_ch (hX : PX T Ac pg nm zs kd vx rr vv) (hI : IvQ T Ac pg nm s) {k : Int32 × S9K} (h : k ∈ nxK9 pg nm T s) : IvQ T Ac pg nm k.2 := by
  unfold nxK9 at h
  obtain ⟨t, ht, h⟩ := List.mem_flatMap.mp h
  have ht := List.mem_range.mp ht
  unfold nKt at h
  by_cases q : s.2.2.1 t < pg 0 t
  · rw [if_pos q] at h
    obtain ⟨a1, a2, -⟩ := px_next hX hI.1 ht q rfl
    obtain ⟨s9, pc, e, hS⟩ := nK_st hX hI a2 h
    rw [e]
    by_cases z : pc = 0
    · subst z; exact IvQ_rd hX hI ht q rfl hS
    · exact IvQ_wr hX hI ht q rfl hS (by omega)
  · rw [if_neg q] at h; exact absurd h (List.not_mem_nil)
theorem cov_Q (hX : PX T Ac pg nm zs kd vx rr vv) (hI : IvQ T Ac pg nm s) (ht : t < T) (hq : s.2.2.1 t < pg 0 t) : nKt pg nm s t ≠ [] := by
  obtain ⟨a1, a2, -⟩ := px_next hX hI.1 ht hq rfl
  unfold nKt
  rw [if_pos hq]
  generalize pg 1 (t * 7 + s.2.2.1 t) = a at a1 a2
  have hkn : kn9 pg s a ≤ s.2.2.2.2.2.2.1 (pg 5 a) := kq_le
  have ne : ∀ (f : Nat → Option (Int32 × S9K)) (n i : Nat) (z : Int32 × S9K), i < n → f i = some z → (List.range n).filterMap f ≠ [] := fun f n i z hi e q => by
    have : z ∈ (List.range n).filterMap f := List.mem_filterMap.mpr ⟨i, List.mem_range.mpr hi, e⟩
    rw [q] at this; exact absurd this (List.not_mem_nil)
  unfold nK
  by_cases k0 : pg 4 a = 0
  · rw [if_pos k0]; exact ne _ _ 0 _ (by omega) rfl
  · rw [if_neg k0]
    by_cases k12 : pg 4 a = 1 ∨ pg 4 a = 2
    · rw [if_pos k12]
      exact ne _ _ (s.2.2.2.2.2.2.1 (pg 5 a) - kn9 pg s a) _ (by omega) (if_neg (adC_hi (by omega)))
    · rw [if_neg k12]
      by_cases k3 : pg 4 a = 3
      · rw [if_pos k3]
        exact ne _ _ (s.2.2.2.2.2.2.1 (pg 5 a) - kn9 pg s a) _ (by omega) (if_neg (adC_hi (by omega)))
      · rw [if_neg k3]
        by_cases k4 : pg 4 a = 4
        · rw [if_pos k4]; exact List.cons_ne_nil _ _
        · rw [if_neg k4]; exact List.cons_ne_nil _ _
end SIQ
