section IX8
variable {l m1 m2 : List Nat} {x y w : Nat}
theorem ix_len (hn : (m1 ++ y :: m2).Nodup) : (m1 ++ y :: m2).idxOf y = m1.length := by
  have h : ¬ y ∈ m1 := fun h => (List.nodup_append.mp hn).2.2 y h y (List.mem_cons_self ..) rfl
  rw [List.idxOf_append, if_neg h, List.idxOf_cons_self, Nat.zero_add]
/-- ahead in a list without doubles, by the places -/
theorem ix_in (hn : (m1 ++ y :: m2).Nodup) : w ∈ m1 ↔ w ∈ m1 ++ y :: m2 ∧ (m1 ++ y :: m2).idxOf w < (m1 ++ y :: m2).idxOf y := by
  rw [ix_len hn, List.idxOf_append]
  constructor
  · intro h
    rw [if_pos h]
    exact ⟨List.mem_append_left _ h, List.idxOf_lt_length_of_mem h⟩
  · rintro ⟨h1, h2⟩
    by_cases c : w ∈ m1
    · exact c
    · rw [if_neg c] at h2; omega
theorem ix_inj (h1 : x ∈ l) (h2 : y ∈ l) (h : l.idxOf x = l.idxOf y) : x = y := by
  have a := List.getElem_idxOf (List.idxOf_lt_length_of_mem h1)
  have b := List.getElem_idxOf (List.idxOf_lt_length_of_mem h2)
  rw [← a, ← b]
  simp only [h]
theorem ix_bf (hn : l.Nodup) : (∃ m1 m2, l = m1 ++ y :: m2 ∧ x ∈ m1) ↔ x ∈ l ∧ y ∈ l ∧ l.idxOf x < l.idxOf y := by
  constructor
  · rintro ⟨m1, m2, rfl, h⟩
    obtain ⟨a, b⟩ := (ix_in hn).mp h
    exact ⟨a, List.mem_append_right _ (List.mem_cons_self ..), b⟩
  · rintro ⟨h1, h2, h3⟩
    obtain ⟨m1, m2, rfl⟩ := List.append_of_mem h2
    exact ⟨m1, m2, rfl, (ix_in hn).mpr ⟨h1, h3⟩⟩
/-- right behind the last one -/
theorem ix_ls (hn : (m1 ++ y :: m2).Nodup) : (lsL m1 = 0 → (m1 ++ y :: m2).idxOf y = 0) ∧ (lsL m1 = w + 1 → w ∈ m1 ++ y :: m2 ∧ (m1 ++ y :: m2).idxOf w + 1 = (m1 ++ y :: m2).idxOf y) := by
  rw [ix_len hn]
  rcases List.eq_nil_or_concat m1 with e | ⟨m, a, e⟩
  · rw [e]
    exact ⟨fun _ => rfl, fun h => absurd (show 0 = w + 1 from h) (by omega)⟩
  · rw [List.concat_eq_append] at e
    subst e
    rw [lsL_sn]
    refine ⟨fun h => absurd h (Nat.succ_ne_zero a), fun h => ?_⟩
    have e : a = w := Nat.succ.inj h
    subst e
    refine ⟨List.mem_append_left _ (List.mem_append_right _ (List.mem_singleton.mpr rfl)), ?_⟩
    rw [List.append_assoc] at hn ⊢
    rw [List.length_append, List.length_singleton]
    exact congrArg (fun z => z + 1) (ix_len (m2 := y :: m2) hn)
end IX8
