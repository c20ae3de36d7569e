def MC9 (l : Launch) (dC : Nat → ClassId) (dI : Nat → Nat → Nat) (y : MethodName) (w : List Cond) (av : List Value) (S : CX9) (c sl : Nat) (G : Int32 → CX9 → Prop) : Prop := ∀ sz, Met l y w ({ frames := 104, cells := c, slots := sl, locals := 5200 }) (va_Pc (.ref (x_oa S) :: av) (SW9 dC dI S sz)) (va_Qi G (fun S2 t9 => PW9 l dC dI S sz S2 t9) (va_A (cw9 S) sz)) c sl (va_A (cw9 S) sz)
def MR9 (l : Launch) (dC : Nat → ClassId) (dI : Nat → Nat → Nat) (ra : Nat) (rA : Nat → Nat) (rK9 : Nat → ClassId) (y : MethodName) (w : List Cond) (av : List Value) (R : RX9) (G : Int32 → RX9 → Prop) : Prop := ∀ sz, Met l y w ({ frames := 70, cells := 0, slots := 0, locals := 3400 }) (va_Pc (.ref ra :: av) (SR9 dC dI ra rA rK9 R sz)) (va_Qi G (fun R2 t9 => PR9 dC dI ra rA rK9 R sz R2 t9) (va_A (rw9 ra rA rK9 R) sz)) 0 0 (va_A (rw9 ra rA rK9 R) sz)
/-- what a step gives: the same answer, the invariant, the cost paid -/
def UJ9 (S : CX9) (c sl : Nat) (GC : Int32 → CX9 → Prop) (GR : Int32 → RX9 → Prop) : Prop := ∀ r S2 r' R2, GC r S2 → GR r' R2 → r = r' ∧ JV9 S2 R2 ∧ 4 * c + pc9 S ≤ pc9 S2 ∧ sl + ps9 S ≤ ps9 S2 ∧ x_oa S2 = x_oa S
def UP9 (l : Launch) (dC : Nat → ClassId) (dI : Nat → Nat → Nat) (ra : Nat) (rA : Nat → Nat) (rK9 : Nat → ClassId) (yC : MethodName) (wC : List Cond) (yR : MethodName) (wR : List Cond) (av : List Value) (S : CX9) (R : RX9) : Prop :=
  ∃ c sl GC GR, MC9 l dC dI yC wC av S c sl GC ∧ MR9 l dC dI ra rA rK9 yR wR av R GR ∧ (4 * c + pc9 S ≤ 1408640 ∧ sl + ps9 S ≤ 3361280) ∧ UJ9 S c sl GC GR
section UPS
variable {l : Launch} {dC : Nat → ClassId} {dI : Nat → Nat → Nat} {ra : Nat} {rA : Nat → Nat} {rK9 : Nat → ClassId} {y : MethodName} {w : List Cond} {av : List Value} {S S2 : CX9} {R R2 : RX9} {c sl f lo : Nat}
theorem MC_g {G : Int32 → CX9 → Prop} (hf : f ≤ 104) (hl : lo ≤ 5200) (h : ∀ sz, Met l y w ({ frames := f, cells := c, slots := sl, locals := lo }) (va_Pc (.ref (x_oa S) :: av) (SW9 dC dI S sz)) (va_Qi G (fun S2 t9 => PW9 l dC dI S sz S2 t9) (va_A (cw9 S) sz)) c sl (va_A (cw9 S) sz)) : MC9 l dC dI y w av S c sl G := fun sz => Met_room hf hl (h sz)
theorem MC_u {P : Int32 → Prop} (hf : f ≤ 104) (hl : lo ≤ 5200) (h : ∀ sz, Met l y w ({ frames := f, cells := c, slots := sl, locals := lo }) (va_Pc (.ref (x_oa S) :: av) (SW9 dC dI S sz)) (va_Qi (fun (r : Int32) (_ : Unit) => P r) (fun _ t9 => PW9 l dC dI S sz S2 t9) (va_A (cw9 S) sz)) c sl (va_A (cw9 S) sz)) : MC9 l dC dI y w av S c sl (fun r S3 => P r ∧ S3 = S2) := fun sz =>
  Met_cons (Met_room hf hl (h sz)) (fun _ _ q => q) (fun _ _ _ _ _ ⟨⟨r, u, e, w1, w3⟩, w4⟩ => ⟨⟨r, S2, e, ⟨w1, rfl⟩, w3⟩, w4⟩)
theorem MR_g {G : Int32 → RX9 → Prop} (hf : f ≤ 70) (hl : lo ≤ 3400) (h : ∀ sz, Met l y w ({ frames := f, cells := 0, slots := 0, locals := lo }) (va_Pc (.ref ra :: av) (SR9 dC dI ra rA rK9 R sz)) (va_Qi G (fun R2 t9 => PR9 dC dI ra rA rK9 R sz R2 t9) (va_A (rw9 ra rA rK9 R) sz)) 0 0 (va_A (rw9 ra rA rK9 R) sz)) : MR9 l dC dI ra rA rK9 y w av R G := fun sz => Met_room hf hl (h sz)
theorem MR_u {P : Int32 → Prop} (hf : f ≤ 70) (hl : lo ≤ 3400) (h : ∀ sz, Met l y w ({ frames := f, cells := 0, slots := 0, locals := lo }) (va_Pc (.ref ra :: av) (SR9 dC dI ra rA rK9 R sz)) (va_Qi (fun (r : Int32) (_ : Unit) => P r) (fun _ t9 => PR9 dC dI ra rA rK9 R sz R2 t9) (va_A (rw9 ra rA rK9 R) sz)) 0 0 (va_A (rw9 ra rA rK9 R) sz)) : MR9 l dC dI ra rA rK9 y w av R (fun r R3 => P r ∧ R3 = R2) := fun sz =>
  Met_cons (Met_room hf hl (h sz)) (fun _ _ q => q) (fun _ _ _ _ _ ⟨⟨r, u, e, w1, w3⟩, w4⟩ => ⟨⟨r, R2, e, ⟨w1, rfl⟩, w3⟩, w4⟩)
/-- nothing changes -/
theorem UJ_0 (h : JV9 S R) {a : Int32} : UJ9 S 0 0 (fun r S3 => S3 = S ∧ r = a) (fun r R3 => R3 = R ∧ r = a) := by
  rintro r S2 r' R2 ⟨rfl, rfl⟩ ⟨rfl, rfl⟩
  exact ⟨rfl, h, by omega, by omega, rfl⟩
theorem JV_0 (h : JV9 S R) : 4 * 0 + pc9 S ≤ 1408640 ∧ 0 + ps9 S ≤ 3361280 := by
  obtain ⟨OS, ld, li, hI⟩ := h
  have := mx_0 hI.1; omega
theorem U_thread (h : JV9 S R) : UP9 l dC dI ra rA rK9 y_OM_thread w_OM_thread y_Ref_thread w_Ref_thread [] S R := by
  have h0 := JV_0 h
  obtain ⟨OS, ld, li, hI⟩ := id h
  have hT : x_T S ≤ 4 := hI.1.1.1.1
  by_cases q : x_T S < 4
  · refine ⟨0, 0, _, _, MC_u (by decide) (by decide) (fun sz => cT9y l dC dI S q sz), MR_u (by decide) (by decide) (fun sz => rT9y l dC dI ra rA rK9 R (by rw [← hI.2.2.1]; exact q) sz), h0, ?_⟩
    rintro r S2 r' R2 ⟨rfl, rfl⟩ ⟨rfl, rfl⟩
    obtain ⟨a, b, c⟩ := JV_T h q
    exact ⟨by rw [hI.2.2.1], a, by omega, by omega, rfl⟩
  · refine ⟨0, 0, _, _, MC_u (by decide) (by decide) (fun sz => cT9n l dC dI S (by omega) sz), MR_u (by decide) (by decide) (fun sz => rT9n l dC dI ra rA rK9 R (by rw [← hI.2.2.1]; omega) sz), h0, ?_⟩
    rintro r S2 r' R2 ⟨rfl, rfl⟩ ⟨rfl, rfl⟩
    exact ⟨rfl, h, by omega, by omega, rfl⟩
theorem U_clear (h : JV9 S R) : UP9 l dC dI ra rA rK9 y_OM_clear w_OM_clear y_Ref_clear w_Ref_clear [] S R := by
  have h0 := JV_0 h
  obtain ⟨OS, ld, li, hI⟩ := id h
  refine ⟨0, 0, _, _, MC_u (by decide) (by decide) (fun sz => cC9 l dC dI S sz), MR_u (by decide) (by decide) (fun sz => rC9 l dC dI ra rA rK9 R sz), h0, ?_⟩
  rintro r S2 r' R2 ⟨rfl, rfl⟩ ⟨rfl, rfl⟩
  obtain ⟨a, b, c⟩ := JV_C h
  exact ⟨by rw [hI.2.2.1], a, by omega, by omega, rfl⟩
theorem U_action {t9 k9 x9 r9 v9 : Int32} (h : JV9 S R) : UP9 l dC dI ra rA rK9 y_OM_action w_OM_action y_Ref_action w_Ref_action [.int t9, .int k9, .int x9, .int r9, .int v9] S R := by
  have h0 := JV_0 h
  obtain ⟨OS, ld, li, hI⟩ := id h
  have hX := hI.1.1
  have hT : x_T S ≤ 4 := hX.1.1
  have hA : x_Ac S ≤ 7 := hX.1.2.1
  have eT := hI.2.2.1
  have eA := hI.2.2.2.1
  have same : ∀ (r : Int32) (S2 : CX9) (r' : Int32) (R2 : RX9), (r = -1 ∧ S2 = S) → (r' = -1 ∧ R2 = R) → r = r' ∧ JV9 S2 R2 ∧ 4 * 0 + pc9 S ≤ pc9 S2 ∧ 0 + ps9 S ≤ ps9 S2 ∧ x_oa S2 = x_oa S := by
    rintro r S2 r' R2 ⟨rfl, rfl⟩ ⟨rfl, rfl⟩
    exact ⟨rfl, h, by omega, by omega, rfl⟩
  by_cases ha : actP k9 x9 r9 v9
  · by_cases hno : t9 < 0 ∨ nI (x_T S) ≤ t9 ∨ x_Ac S = 7
    · refine ⟨0, 0, _, _, MC_u (by decide) (by decide) (fun sz => cA9n l dC dI S t9 k9 x9 r9 v9 ha hT hA hno sz), MR_u (by decide) (by decide) (fun sz => rA9n l dC dI ra rA rK9 R t9 k9 x9 r9 v9 (by rw [← eT]; exact hT) (by rw [← eA]; exact hA) ?_ sz), h0, same⟩
      rw [← eT, ← eA]
      rcases hno with w | w | w
      · exact Or.inl w
      · exact Or.inr (Or.inl w)
      · exact Or.inr (Or.inr (Or.inl w))
    · have n1 : ¬ t9 < 0 := fun w => hno (Or.inl w)
      have n2 : ¬ nI (x_T S) ≤ t9 := fun w => hno (Or.inr (Or.inl w))
      have n3 : x_Ac S < 7 := by have : ¬ x_Ac S = 7 := fun w => hno (Or.inr (Or.inr w)); omega
      obtain ⟨t, t1, rfl⟩ := nI_of n1
      have ht : t < x_T S := by
        rw [i_le, nI_toInt t1, nI_toInt (show x_T S < 2 ^ 31 by omega)] at n2; omega
      obtain ⟨k, x, rn, rfl, rfl, rfl, hk, hx, hkx, hr, hv⟩ := act_n ha
      have ez : r_zs R t = x_pg S 0 t := hX.2.2.1 t ht
      have hz : r_zs R t ≤ 6 := by
        have q1 := smN_at (f := r_zs R) (r_T R) (show t < r_T R by omega)
        have q2 := hI.2.2.2.2.2
        omega
      have hR := MR_u (l := l) (dC := dC) (dI := dI) (ra := ra) (rA := rA) (rK9 := rK9) (by decide) (by decide) (fun sz => rA9y l dC dI ra rA rK9 R t k x rn v9 ha (by rw [← eT]; exact hT) (by rw [← eT]; exact ht) (by rw [← eA]; exact n3) hz hk hx hr sz)
      have fin : ∀ (r : Int32) (S2 : CX9) (r' : Int32) (R2 : RX9), (r = nI (x_pg S 0 t + 1) ∧ S2 = nA9 S t k x rn v9) → (r' = nI (r_zs R t + 1) ∧ R2 = nRa9 R t k x rn v9) → r = r' ∧ JV9 S2 R2 ∧ 4 * 0 + pc9 S ≤ pc9 S2 ∧ 0 + ps9 S ≤ ps9 S2 ∧ x_oa S2 = x_oa S := by
        rintro r S2 r' R2 ⟨rfl, rfl⟩ ⟨rfl, rfl⟩
        obtain ⟨a, b, c⟩ := JV_A (t := t) (k := k) (x := x) (rn := rn) (v := v9) h n3 ht hk hx hkx hr hv
        exact ⟨by rw [ez], a, by omega, by omega, rfl⟩
      by_cases hk4 : k < 4
      · exact ⟨0, 0, _, _, MC_u (by decide) (by decide) (fun sz => cA9v l dC dI S t k x rn v9 ha hT ht n3 (by rw [← ez]; exact hz) hk hx hr (hX.1.2.2.2.2.2.1 t) (hX.1.2.2.2.2.2.2.1 k) hk4 (hkx hk4) (hX.1.2.2.2.2.2.2.2.1 x) sz), hR, h0, fin⟩
      · exact ⟨0, 0, _, _, MC_u (by decide) (by decide) (fun sz => cA9o l dC dI S t k x rn v9 ha hT ht n3 (by rw [← ez]; exact hz) hk hx hr (hX.1.2.2.2.2.2.1 t) (hX.1.2.2.2.2.2.2.1 k) (by omega) sz), hR, h0, fin⟩
  · exact ⟨0, 0, _, _, MC_u (by decide) (by decide) (fun sz => cA9b l dC dI S t9 k9 x9 r9 v9 ha sz), MR_u (by decide) (by decide) (fun sz => rA9n l dC dI ra rA rK9 R t9 k9 x9 r9 v9 (by rw [← eT]; exact hT) (by rw [← eA]; exact hA) (Or.inr (Or.inr (Or.inr ha))) sz), h0, same⟩
end UPS
