def k9 (S : CX9) : List (ClassId × FieldType) := [((x_kr1 S), .object "OrderModels$OutcomeSet"), ((x_kr2 S), .object "OrderModels$OutcomeSet"), ((x_kb1 S), .int), ((x_kb2 S), .int), ((x_kk1 S), .int), ((x_n1 S), .int), ((x_n2 S), .int), ((x_n3 S), .int), ((x_n4 S), .int),
  (((x_xK S) 0), .int), (((x_xK S) 1), .int), (((x_xK S) 2), .int), (((x_xK S) 3), .int), (((x_xK S) 4), .int), (((x_xK S) 5), .int), (((x_xK S) 6), .int), (((x_xK S) 7), .int), (((x_xK S) 8), .int), (((x_xK S) 9), .int), (((x_xK S) 10), .int), (((x_xK S) 11), .int), ((x_l1 S), .int), ((x_l2 S), .int), ((x_l3 S), .int),
  (((x_pK S) 0), .int), (((x_pK S) 1), .int), (((x_pK S) 2), .int), (((x_pK S) 3), .int), (((x_pK S) 4), .int), (((x_pK S) 5), .int), (((x_pK S) 6), .int), (((x_pK S) 7), .int), (((x_pK S) 8), .int), (((x_pK S) 9), .int), (((x_pK S) 10), .int)]
theorem ct_9 (S : CX9) (q : ClassId × FieldType) : q ∈ ct9 S ↔ q ∈ k9 S ∨ (q = (x_d1 S, .long) ∨ q = (x_d2 S, .int)) ∨ ∃ m, m < 4 ∧ (q ∈ sT9 (x_SA S m) ∨ q ∈ sT9 (x_SB S m)) := by
  have e : ct9 S = k9 S ++ ([(x_d1 S, .long), (x_d2 S, .int)] ++ (sT9 (x_SA S 0) ++ (sT9 (x_SA S 1) ++ (sT9 (x_SA S 2) ++ (sT9 (x_SA S 3) ++ (sT9 (x_SB S 0) ++ (sT9 (x_SB S 1) ++ (sT9 (x_SB S 2) ++ sT9 (x_SB S 3))))))))) := rfl
  rw [e]
  simp only [List.mem_append]
  constructor
  · rintro (h | h | h | h | h | h | h | h | h | h)
    · exact Or.inl h
    · refine Or.inr (Or.inl ?_)
      rcases List.mem_cons.mp h with w | w
      · exact Or.inl w
      · exact Or.inr (List.mem_singleton.mp w)
    · exact Or.inr (Or.inr ⟨0, by decide, Or.inl h⟩)
    · exact Or.inr (Or.inr ⟨1, by decide, Or.inl h⟩)
    · exact Or.inr (Or.inr ⟨2, by decide, Or.inl h⟩)
    · exact Or.inr (Or.inr ⟨3, by decide, Or.inl h⟩)
    · exact Or.inr (Or.inr ⟨0, by decide, Or.inr h⟩)
    · exact Or.inr (Or.inr ⟨1, by decide, Or.inr h⟩)
    · exact Or.inr (Or.inr ⟨2, by decide, Or.inr h⟩)
    · exact Or.inr (Or.inr ⟨3, by decide, Or.inr h⟩)
  · rintro (h | h | ⟨m, hm, h⟩)
    · exact Or.inl h
    · refine Or.inr (Or.inl ?_)
      rcases h with w | w
      · exact List.mem_cons.mpr (Or.inl w)
      · exact List.mem_cons.mpr (Or.inr (List.mem_singleton.mpr w))
    · have c : m = 0 ∨ m = 1 ∨ m = 2 ∨ m = 3 := by omega
      rcases c with rfl | rfl | rfl | rfl <;> rcases h with h | h <;> simp [h]
theorem ct_s9 {S S2 : CX9} {tn : List (ClassId × FieldType)} (hk : k9 S2 = k9 S) (h1 : (x_d1 S2 = x_d1 S ∧ x_d2 S2 = x_d2 S) ∨ ((x_d1 S2, .long) ∈ tn ∧ (x_d2 S2, .int) ∈ tn)) (hs : ∀ m, m < 4 → (x_SA S2 m = x_SA S m ∨ ∀ q, q ∈ sT9 (x_SA S2 m) → q ∈ tn) ∧ (x_SB S2 m = x_SB S m ∨ ∀ q, q ∈ sT9 (x_SB S2 m) → q ∈ tn)) (q : ClassId × FieldType) (hq : q ∈ ct9 S2) : q ∈ ct9 S ∨ q ∈ tn := by
  rcases (ct_9 S2 q).mp hq with h | h | ⟨m, hm, h⟩
  · rw [hk] at h; exact Or.inl ((ct_9 S q).mpr (Or.inl h))
  · rcases h1 with ⟨w1, w2⟩ | ⟨w1, w2⟩
    · rw [w1, w2] at h; exact Or.inl ((ct_9 S q).mpr (Or.inr (Or.inl h)))
    · rcases h with h | h
      · rw [h]; exact Or.inr w1
      · rw [h]; exact Or.inr w2
  · obtain ⟨a, b⟩ := hs m hm
    rcases h with h | h
    · rcases a with w | w
      · rw [w] at h; exact Or.inl ((ct_9 S q).mpr (Or.inr (Or.inr ⟨m, hm, Or.inl h⟩)))
      · exact Or.inr (w q h)
    · rcases b with w | w
      · rw [w] at h; exact Or.inl ((ct_9 S q).mpr (Or.inr (Or.inr ⟨m, hm, Or.inr h⟩)))
      · exact Or.inr (w q h)
theorem upS_s {f : Nat → OS9} {m : Nat} {o : OS9} : upS9 f m o m = o := if_pos rfl
theorem upS_n {f : Nat → OS9} {m i : Nat} {o : OS9} (h : i ≠ m) : upS9 f m o i = f i := if_neg h
section CTN
variable {S : CX9} {m : Nat} {gz : G9} {j1 j2 : Nat} {d1 d2 : ClassId} {kf : Nat → Int64} {sf : Nat → Int32} {ad : Nat → Nat} {ck : Nat → ClassId} {rf : Nat → Int64} {vf lf qf : Nat → Int32} {of : Nat → Nat} {vl pv : Nat → Int32} {tl : Nat → Nat} {ze : Z9}
theorem ct_B9 (q : ClassId × FieldType) (hq : q ∈ ct9 (nB9 S m gz j1 j2 d1 d2 kf sf ad ck rf vf lf qf of vl pv)) : q ∈ ct9 S ∨ q ∈ [(d1, .long), (d2, .int), ((ck 1), .long), ((ck 2), .int), ((ck 3), .int), ((ck 4), .int), ((ck 5), .int)] := by
  refine ct_s9 (S := S) (S2 := nB9 S m gz j1 j2 d1 d2 kf sf ad ck rf vf lf qf of vl pv) (tn := [(d1, .long), (d2, .int), ((ck 1), .long), ((ck 2), .int), ((ck 3), .int), ((ck 4), .int), ((ck 5), .int)]) rfl (Or.inr ⟨List.mem_cons_self .., List.mem_cons_of_mem _ (List.mem_cons_self ..)⟩) (fun i hi => ⟨?_, Or.inl rfl⟩) q hq
  by_cases e : i = m
  · right; intro q h
    have h' : q ∈ sT9 (upS9 (x_SA S) m _ i) := h
    rw [e, upS_s] at h'
    exact List.mem_cons_of_mem _ (List.mem_cons_of_mem _ h')
  · exact Or.inl (upS_n e)
theorem ct_K9 (q : ClassId × FieldType) (hq : q ∈ ct9 (nK9 S gz j1 j2 d1 d2 kf sf ad ck rf vf lf qf of vl pv tl)) : q ∈ ct9 S ∨ q ∈ [(d1, .long), (d2, .int), ((ck 1), .long), ((ck 2), .int), ((ck 3), .int), ((ck 4), .int), ((ck 5), .int)] := by
  refine ct_s9 (S := S) (S2 := nK9 S gz j1 j2 d1 d2 kf sf ad ck rf vf lf qf of vl pv tl) (tn := [(d1, .long), (d2, .int), ((ck 1), .long), ((ck 2), .int), ((ck 3), .int), ((ck 4), .int), ((ck 5), .int)]) rfl (Or.inr ⟨List.mem_cons_self .., List.mem_cons_of_mem _ (List.mem_cons_self ..)⟩) (fun i hi => ⟨?_, Or.inl rfl⟩) q hq
  by_cases e : i = 3
  · right; intro q h
    have h' : q ∈ sT9 (upS9 (x_SA S) 3 _ i) := h
    rw [e, upS_s] at h'
    exact List.mem_cons_of_mem _ (List.mem_cons_of_mem _ h')
  · exact Or.inl (upS_n e)
theorem ct_G9 (q : ClassId × FieldType) (hq : q ∈ ct9 (nG9 S m ze ad ck rf vf lf qf of vl)) : q ∈ ct9 S ∨ q ∈ [((ck 1), .long), ((ck 2), .int), ((ck 3), .int), ((ck 4), .int), ((ck 5), .int)] := by
  refine ct_s9 (S := S) (S2 := nG9 S m ze ad ck rf vf lf qf of vl) (tn := [((ck 1), .long), ((ck 2), .int), ((ck 3), .int), ((ck 4), .int), ((ck 5), .int)]) rfl (Or.inl ⟨rfl, rfl⟩) (fun i hi => ⟨Or.inl rfl, ?_⟩) q hq
  by_cases e : i = m
  · right; intro q h
    have h' : q ∈ sT9 (upS9 (x_SB S) m _ i) := h
    rw [e, upS_s] at h'
    exact h'
  · exact Or.inl (upS_n e)
end CTN
