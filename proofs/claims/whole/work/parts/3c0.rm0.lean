/-- what a walk makes is paid by the rooms that grow -/
def JR9 (E KL SL C : Nat) (g : G9) : Prop :=
  4 * gc g + (5 * C + KL + SL) ≤ 5 * gC g + gK g + gS g ∧ gs g + (2 * KL + 2 * SL + 2 * ((4 + E) * C)) ≤ 2 * gK g + 2 * gS g + 2 * ((4 + E) * gC g) ∧
  (gK g ≤ KL ∨ gK g ≤ 256 ∨ gK g ≤ 2 * (gL g).length) ∧ (gS g ≤ SL ∨ gS g ≤ 256 ∨ gS g ≤ 4 * (gL g).length) ∧ (gC g ≤ C ∨ gC g ≤ 8 ∨ gC g ≤ 2 * (gF g).length) ∧ 8 ≤ gE g ∧ (∃ j, gS g = 2 ^ j)
theorem pw_le9 {j e : Nat} (h : 2 ^ j < 2 ^ (e + 1)) : 2 ^ j ≤ 2 ^ e := by
  have : j < e + 1 := (Nat.pow_lt_pow_iff_right (by decide)).mp h
  exact Nat.pow_le_pow_right (by decide) (by omega)
theorem roomK_9 (n : Nat) : 256 ≤ roomK n ∧ 2 * n ≤ roomK n ∧ (roomK n = 256 ∨ roomK n = 2 * n) := by unfold roomK; split <;> omega
theorem roomO_9 (n : Nat) : 8 ≤ roomO n ∧ 2 * n ≤ roomO n ∧ (roomO n = 8 ∨ roomO n = 2 * n) := by unfold roomO; split <;> omega
theorem addKey_J {E KL SL C : Nat} {key : Int64} {g : G9} (h : JR9 E KL SL C g) : JR9 E KL SL C (addKey key g) := by
  by_cases hk : hasK g key = true
  · rw [addKey_yes hk]; exact h
  · rw [addKey_no (by simpa using hk)]
    obtain ⟨h1, h2, h3, h4, h5, h6, j, h7⟩ := h
    have hlen : (gL g ++ [key]).length = (gL g).length + 1 := by rw [List.length_append]; rfl
    obtain ⟨r1, r2, r3⟩ := roomK_9 (gL g).length
    have p8 : 2 ^ 8 ≤ 2 ^ gE g := Nat.pow_le_pow_right (by decide) h6
    have p9 : 2 ^ (gE g + 1) = 2 * 2 ^ gE g := by rw [Nat.pow_succ]; omega
    have hS : gS g < 2 ^ (gE g + 1) → gS g ≤ 2 ^ gE g := fun w => by rw [h7] at w ⊢; exact pw_le9 w
    unfold JR9
    show 4 * (gc g + (addS false (gL g).length (gE g) (gK g) (gS g)).2.2.2.2.1) + (5 * C + KL + SL) ≤ 5 * gC g + (addS false (gL g).length (gE g) (gK g) (gS g)).2.2.1 + (addS false (gL g).length (gE g) (gK g) (gS g)).2.2.2.1 ∧
      (gs g + (addS false (gL g).length (gE g) (gK g) (gS g)).2.2.2.2.2) + (2 * KL + 2 * SL + 2 * ((4 + E) * C)) ≤ 2 * (addS false (gL g).length (gE g) (gK g) (gS g)).2.2.1 + 2 * (addS false (gL g).length (gE g) (gK g) (gS g)).2.2.2.1 + 2 * ((4 + E) * gC g) ∧
      ((addS false (gL g).length (gE g) (gK g) (gS g)).2.2.1 ≤ KL ∨ (addS false (gL g).length (gE g) (gK g) (gS g)).2.2.1 ≤ 256 ∨ (addS false (gL g).length (gE g) (gK g) (gS g)).2.2.1 ≤ 2 * (gL g ++ [key]).length) ∧
      ((addS false (gL g).length (gE g) (gK g) (gS g)).2.2.2.1 ≤ SL ∨ (addS false (gL g).length (gE g) (gK g) (gS g)).2.2.2.1 ≤ 256 ∨ (addS false (gL g).length (gE g) (gK g) (gS g)).2.2.2.1 ≤ 4 * (gL g ++ [key]).length) ∧
      (gC g ≤ C ∨ gC g ≤ 8 ∨ gC g ≤ 2 * (gF g).length) ∧ 8 ≤ (addS false (gL g).length (gE g) (gK g) (gS g)).2.1 ∧ ∃ j, (addS false (gL g).length (gE g) (gK g) (gS g)).2.2.2.1 = 2 ^ j
    rw [hlen]
    unfold addS
    dsimp only
    generalize 2 ^ gE g = P at *
    by_cases c1 : (gL g).length < gK g
    · rw [if_pos c1]
      by_cases c2 : 2 * ((gL g).length + 1) ≤ P
      · rw [if_pos c2]; exact ⟨by dsimp only; omega, by dsimp only; omega, by dsimp only; omega, by dsimp only; omega, h5, h6, j, h7⟩
      · rw [if_neg c2]
        by_cases c3 : gS g < 2 ^ (gE g + 1)
        · rw [if_pos c3]
          have := hS c3
          exact ⟨by dsimp only; omega, by dsimp only; omega, by dsimp only; omega, by dsimp only; omega, h5, by dsimp only; omega, gE g + 1, rfl⟩
        · rw [if_neg c3]; exact ⟨by dsimp only; omega, by dsimp only; omega, by dsimp only; omega, by dsimp only; omega, h5, by dsimp only; omega, j, h7⟩
    · rw [if_neg c1]
      by_cases c2 : 2 * ((gL g).length + 1) ≤ P
      · rw [if_pos c2]; exact ⟨by dsimp only; omega, by dsimp only; omega, by dsimp only; omega, by dsimp only; omega, h5, h6, j, h7⟩
      · rw [if_neg c2]
        by_cases c3 : gS g < 2 ^ (gE g + 1)
        · rw [if_pos c3]
          have := hS c3
          exact ⟨by dsimp only; omega, by dsimp only; omega, by dsimp only; omega, by dsimp only; omega, h5, by dsimp only; omega, gE g + 1, rfl⟩
        · rw [if_neg c3]; exact ⟨by dsimp only; omega, by dsimp only; omega, by dsimp only; omega, by dsimp only; omega, h5, by dsimp only; omega, j, h7⟩
theorem addOut_J {E KL SL C : Nat} {rk : Int64} {vk : Int32} {p : List Int32} {g : G9} (h : JR9 E KL SL C g) : JR9 E KL SL C (addOut E rk vk p g) := by
  unfold addOut
  by_cases hk : hasF g rk vk = true
  · rw [if_pos hk]; exact h
  · rw [if_neg hk]
    obtain ⟨h1, h2, h3, h4, h5, h6, j, h7⟩ := h
    have hlen : (gF g ++ [(rk, vk, p)]).length = (gF g).length + 1 := by rw [List.length_append]; rfl
    obtain ⟨r1, r2, r3⟩ := roomO_9 (gF g).length
    unfold JR9
    show 4 * (gc g + (addO false (gF g).length (gC g) E).2.2.1) + (5 * C + KL + SL) ≤ 5 * (addO false (gF g).length (gC g) E).2.1 + gK g + gS g ∧
      (gs g + (addO false (gF g).length (gC g) E).2.2.2) + (2 * KL + 2 * SL + 2 * ((4 + E) * C)) ≤ 2 * gK g + 2 * gS g + 2 * ((4 + E) * (addO false (gF g).length (gC g) E).2.1) ∧
      (gK g ≤ KL ∨ gK g ≤ 256 ∨ gK g ≤ 2 * (gL g).length) ∧ (gS g ≤ SL ∨ gS g ≤ 256 ∨ gS g ≤ 4 * (gL g).length) ∧
      ((addO false (gF g).length (gC g) E).2.1 ≤ C ∨ (addO false (gF g).length (gC g) E).2.1 ≤ 8 ∨ (addO false (gF g).length (gC g) E).2.1 ≤ 2 * (gF g ++ [(rk, vk, p)]).length) ∧ 8 ≤ gE g ∧ ∃ j, gS g = 2 ^ j
    rw [hlen]
    unfold addO
    dsimp only
    by_cases c1 : (gF g).length < gC g
    · rw [if_pos c1]; exact ⟨by dsimp only; omega, by dsimp only; omega, h3, h4, by dsimp only; omega, h6, j, h7⟩
    · rw [if_neg c1]
      refine ⟨by dsimp only; omega, ?_, h3, h4, by dsimp only; omega, h6, j, h7⟩
      dsimp only
      generalize roomO (gF g).length = R at *
      have e1 : 4 * R + R * E = (4 + E) * R := by rw [Nat.add_mul, Nat.mul_comm R E]
      have e2 : (4 + E) * (2 * gC g) ≤ (4 + E) * R := Nat.mul_le_mul_left _ (by omega)
      have e3 : (4 + E) * (2 * gC g) = 2 * ((4 + E) * gC g) := by rw [Nat.mul_left_comm]
      rw [e1]
      generalize (4 + E) * R = X at *
      generalize (4 + E) * gC g = Y at *
      generalize (4 + E) * (2 * gC g) = Z at *
      omega
theorem mdf_J {S G : Type} {kn : G → S → Bool} {pre : S → G → G} {nx : S → List (Int32 × S)} {fin : S → List Int32 → G → G} {J : G → Prop} (hp : ∀ s g, J g → J (pre s g)) (hf : ∀ s p g, J g → J (fin s p g)) : ∀ n s p g, J g → J (mdf kn pre nx fin n s p g)
  | 0, _, _, _, h => h
  | n + 1, s, p, g, h => by
    unfold mdf
    split
    · exact h
    · split
      · exact hf _ _ _ (hp _ _ h)
      · have ih := mdf_J (kn := kn) (nx := nx) hp hf n
        have : ∀ (l : List (Int32 × S)) (g : G), J g → J (l.foldl (fun g c => mdf kn pre nx fin n c.2 (p ++ [c.1]) g) g) := fun l => by
          induction l with
          | nil => intro g h; exact h
          | cons c l il => intro g h; exact il _ (ih _ _ _ h)
        exact this _ _ (hp _ _ h)
/-- the rooms stay small -/
def RB9 (E KL SL C : Nat) (g : G9) : Prop :=
  gK g ≤ 362880 ∧ gS g ≤ 725760 ∧ gC g ≤ 8000 ∧ (∃ j, gS g = 2 ^ j) ∧ 4 * gc g + (5 * C + KL + SL) ≤ 5 * gC g + gK g + gS g ∧ gs g + (2 * KL + 2 * SL + 2 * ((4 + E) * C)) ≤ 2 * gK g + 2 * gS g + 2 * ((4 + E) * gC g) ∧
  (gL g).length ≤ 524288 ∧ (gF g).length ≤ 8192
theorem RB_of {E KL SL C : Nat} {g : G9} (h : JR9 E KL SL C g) (hK : KL ≤ 362880) (hS : SL ≤ 725760) (hC : C ≤ 8000) (h1 : (gL g).length ≤ 181440) (h2 : (gF g).length ≤ 4000) : RB9 E KL SL C g := by
  obtain ⟨a1, a2, a3, a4, a5, a6, a7⟩ := h
  exact ⟨by omega, by omega, by omega, a7, a1, a2, by omega, by omega⟩
theorem J_0 {E KL SL C : Nat} {rc : Nat → Nat} (hS : SL = 0 ∨ ∃ j, SL = 2 ^ j) : JR9 E KL SL C (g0W KL (emptyS SL).1 C rc (emptyS SL).2.1 (emptyS SL).2.2) := by
  have h128 : SL < 2 ^ 8 → SL ≤ 128 := fun w => by
    rcases hS with z | ⟨j, z⟩
    · omega
    · rw [z] at w ⊢; exact pw_le9 (e := 7) w
  unfold JR9
  show 4 * (emptyS SL).2.1 + (5 * C + KL + SL) ≤ 5 * C + KL + (emptyS SL).1 ∧ (emptyS SL).2.2 + (2 * KL + 2 * SL + 2 * ((4 + E) * C)) ≤ 2 * KL + 2 * (emptyS SL).1 + 2 * ((4 + E) * C) ∧ (KL ≤ KL ∨ KL ≤ 256 ∨ KL ≤ 2 * ([] : List Int64).length) ∧ ((emptyS SL).1 ≤ SL ∨ (emptyS SL).1 ≤ 256 ∨ (emptyS SL).1 ≤ 4 * ([] : List Int64).length) ∧ (C ≤ C ∨ C ≤ 8 ∨ C ≤ 2 * ([] : List Int64).length) ∧ 8 ≤ 8 ∧ ∃ j, (emptyS SL).1 = 2 ^ j
  unfold emptyS
  by_cases c : SL < 2 ^ 8
  · rw [if_pos c]
    have := h128 c
    exact ⟨by dsimp only; omega, by dsimp only; omega, Or.inl (Nat.le_refl _), Or.inr (Or.inl (by decide)), Or.inl (Nat.le_refl _), Nat.le_refl _, 8, rfl⟩
  · rw [if_neg c]
    refine ⟨by dsimp only; omega, by dsimp only; omega, Or.inl (Nat.le_refl _), Or.inl (Nat.le_refl _), Or.inl (Nat.le_refl _), Nat.le_refl _, ?_⟩
    rcases hS with z | z
    · rw [z] at c; exact absurd (by decide) c
    · exact z
section RMW
variable {E md T Ac : Nat} {pg : Nat → Nat → Nat} {nm : Nat → Int32} {zs kd vx rr : Nat → Nat} {vv : Nat → Int32} {KL SL C : Nat} {rc : Nat → Nat}
theorem rb_B (hX : PX T Ac pg nm zs kd vx rr vv) (hmd : md < 3) (hK : KL ≤ 362880) (hS : SL ≤ 725760) (hS2 : SL = 0 ∨ ∃ j, SL = 2 ^ j) (hC : C ≤ 8000) : RB9 E KL SL C (walkG E T Ac pg nm md KL SL C rc) := by
  refine RB_of ?_ hK hS hC (keys_B hX hmd) (outs_G hX hmd)
  rw [walk_mdf hX hmd]
  refine mdf_J (J := JR9 E KL SL C) (fun s g h => ?_) (fun s p g h => ?_) 15 s07 [] _ (J_0 hS2)
  · have hn : ∀ g, JR9 E KL SL C g → JR9 E KL SL C (noteG md T Ac pg s.2.2.1 g) := fun g h => by
      unfold noteG; split
      · exact h
      · exact h
    exact hn _ (addKey_J h)
  · exact addOut_J h
theorem rb_K (hX : PX T Ac pg nm zs kd vx rr vv) (hK : KL ≤ 362880) (hS : SL ≤ 725760) (hS2 : SL = 0 ∨ ∃ j, SL = 2 ^ j) (hC : C ≤ 8000) : RB9 E KL SL C (walkK E T pg nm KL SL C) := by
  refine RB_of ?_ hK hS hC (keys_K hX) (outs_GK hX)
  rw [walkK_mdf hX]
  exact mdf_J (J := JR9 E KL SL C) (fun s g h => addKey_J h) (fun s p g h => addOut_J h) 15 s09 [] _ (J_0 hS2)
end RMW
