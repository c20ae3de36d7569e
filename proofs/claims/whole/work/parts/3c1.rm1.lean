def JG9 (E C : Nat) (g : G9) : Prop :=
  4 * gc g + 5 * C ≤ 5 * gC g ∧ gs g + 2 * ((4 + E) * C) ≤ 2 * ((4 + E) * gC g) ∧ (gC g ≤ C ∨ gC g ≤ 8 ∨ gC g ≤ 2 * (gF g).length)
theorem addOut_JG {E C : Nat} {rk : Int64} {vk : Int32} {p : List Int32} {g : G9} (h : JG9 E C g) : JG9 E C (addOut E rk vk p g) := by
  unfold addOut
  by_cases hk : hasF g rk vk = true
  · rw [if_pos hk]; exact h
  · rw [if_neg hk]
    obtain ⟨h1, h2, h5⟩ := h
    have hlen : (gF g ++ [(rk, vk, p)]).length = (gF g).length + 1 := by rw [List.length_append]; rfl
    obtain ⟨r1, r2, r3⟩ := roomO_9 (gF g).length
    unfold JG9
    show 4 * (gc g + (addO false (gF g).length (gC g) E).2.2.1) + 5 * C ≤ 5 * (addO false (gF g).length (gC g) E).2.1 ∧
      (gs g + (addO false (gF g).length (gC g) E).2.2.2) + 2 * ((4 + E) * C) ≤ 2 * ((4 + E) * (addO false (gF g).length (gC g) E).2.1) ∧
      ((addO false (gF g).length (gC g) E).2.1 ≤ C ∨ (addO false (gF g).length (gC g) E).2.1 ≤ 8 ∨ (addO false (gF g).length (gC g) E).2.1 ≤ 2 * (gF g ++ [(rk, vk, p)]).length)
    rw [hlen]
    unfold addO
    dsimp only
    by_cases c1 : (gF g).length < gC g
    · rw [if_pos c1]; exact ⟨by dsimp only; omega, by dsimp only; omega, by dsimp only; omega⟩
    · rw [if_neg c1]
      refine ⟨by dsimp only; omega, ?_, by dsimp only; omega⟩
      dsimp only
      generalize roomO (gF g).length = R at *
      have e1 : 4 * R + R * E = (4 + E) * R := by rw [Nat.add_mul, Nat.mul_comm R E]
      have e2 : (4 + E) * (2 * gC g) ≤ (4 + E) * R := Nat.mul_le_mul_left _ (by omega)
      have e3 : (4 + E) * (2 * gC g) = 2 * ((4 + E) * gC g) := by rw [Nat.mul_left_comm]
      rw [e1]
      generalize (4 + E) * R = X at *
      generalize (4 + E) * gC g = Y at *
      generalize (4 + E) * (2 * gC g) = Z at *
      omega
/-- the rooms of the graphs' outcomes stay small -/
def RG0 (E C : Nat) (g : G9) : Prop := gC g ≤ 8000 ∧ 4 * gc g + 5 * C ≤ 5 * gC g ∧ gs g + 2 * ((4 + E) * C) ≤ 2 * ((4 + E) * gC g) ∧ (gF g).length ≤ 8192
section RMG
variable {K N0 N1 T Ac md ld E : Nat} {pg : Nat → Nat → Nat} {nm : Nat → Int32} {zs kd vx rr li : Nat → Nat} {vv : Nat → Int32} {sc : Nat → Nat → Nat}
theorem rb_G (hX : PX T Ac pg nm zs kd vx rr vv) (hL : liO T ld zs kd li) (hmd : md < 4) {C : Nat} {z : Z9} (hC : C ≤ 8000) : RG0 E C (yg (zy (srG pg nm E md T Ac sc C z))) := by
  obtain ⟨-, h2, h3, -, -⟩ := gr_both (K := 1) (N0 := 30) (N1 := 32) (E := E) (sc := sc) (C := C) (z := z) hX hL (by decide) (Nat.le_refl _) (Nat.le_refl _) hmd
  have hl := h2.length_eq
  rw [List.length_map] at hl
  have hcl := congrArg (fun q : G9 × Nat => q.1) (cl_add (E := E) (sc := sc) (md := md) hX (C := C) (z := z))
  dsimp only at hcl
  have hJ : JG9 E C (yg (zy (srG pg nm E md T Ac sc C z))) := by
    rw [hcl]
    have : ∀ (l : List (S8 × (Nat → List Nat))) (g : G9 × Nat), JG9 E C g.1 → JG9 E C (l.foldl (fun g p => (addOut E (enG (uG9 (cS8 p.1) p.2)).1 (enG (uG9 (cS8 p.1) p.2)).2 [] g.1, g.2 + 1)) g).1 := fun l => by
      induction l with
      | nil => intro g h; exact h
      | cons p l ih => intro g h; exact ih _ (addOut_JG h)
    refine this _ _ ⟨?_, ?_, Or.inl (Nat.le_refl _)⟩
    · show 4 * 0 + 5 * C ≤ 5 * C; omega
    · show 0 + 2 * ((4 + E) * C) ≤ 2 * ((4 + E) * C); omega
  obtain ⟨a1, a2, a3⟩ := hJ
  exact ⟨by omega, a1, a2, by omega⟩
end RMG
