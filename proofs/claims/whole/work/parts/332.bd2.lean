/-- how many smaller ones stand ahead of a -/
def smB (a : Nat) : List Nat → Nat
  | [] => 0
  | b :: l => if b = a then 0 else (if b < a then 1 else 0) + smB a l
/-- a row without doubles is told by its members and how many smaller ones stand ahead of each -/
theorem smB_inj : ∀ (L1 L2 : List Nat), L1.Nodup → L2.Nodup → (∀ a, a ∈ L1 ↔ a ∈ L2) → (∀ a, a ∈ L1 → smB a L1 = smB a L2) → L1 = L2
  | [], [], _, _, _, _ => rfl
  | [], y :: l2, _, _, h, _ => absurd ((h y).mpr (List.mem_cons_self ..)) (List.not_mem_nil)
  | x :: l1, [], _, _, h, _ => absurd ((h x).mp (List.mem_cons_self ..)) (List.not_mem_nil)
  | x :: l1, y :: l2, n1, n2, h, hs => by
    have exy : x = y := Classical.byContradiction fun hne => by
      have hx := hs x (List.mem_cons_self ..)
      rw [smB, if_pos rfl, smB, if_neg (fun q => hne q.symm)] at hx
      have hy := hs y ((h y).mpr (List.mem_cons_self ..))
      rw [smB, if_neg hne, smB, if_pos rfl] at hy
      by_cases c : y < x
      · rw [if_pos c] at hx; omega
      · rw [if_pos (show x < y by omega)] at hy; omega
    subst exy
    obtain ⟨m1, k1⟩ := List.nodup_cons.mp n1
    obtain ⟨m2, k2⟩ := List.nodup_cons.mp n2
    have e := smB_inj l1 l2 k1 k2 (fun a => by
      constructor
      · intro q
        rcases List.mem_cons.mp ((h a).mp (List.mem_cons_of_mem _ q)) with r | r
        · rw [r] at q; exact absurd q m1
        · exact r
      · intro q
        rcases List.mem_cons.mp ((h a).mpr (List.mem_cons_of_mem _ q)) with r | r
        · rw [r] at q; exact absurd q m2
        · exact r) (fun a ha => by
      have q := hs a (List.mem_cons_of_mem _ ha)
      have hne : ¬ x = a := fun e => m1 (by rw [e]; exact ha)
      rw [smB, if_neg hne, smB, if_neg hne] at q
      exact Nat.add_left_cancel q)
    rw [e]
/-- and each such number is below the number of smaller members, and one more -/
theorem smB_le {a : Nat} : ∀ L : List Nat, smB a L ≤ (L.filter (fun b => decide (b < a))).length
  | [] => Nat.le_refl 0
  | b :: l => by
    have ih := smB_le (a := a) l
    rw [smB, List.filter_cons]
    by_cases e : b = a
    · rw [if_pos e]; exact Nat.zero_le _
    · rw [if_neg e]
      by_cases c : b < a
      · rw [if_pos c, if_pos (decide_eq_true c)]; show 1 + smB a l ≤ _ + 1; omega
      · rw [if_neg c, if_neg (by rw [decide_eq_false c]; decide)]; omega
