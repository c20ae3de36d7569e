section MXS
variable {ld : Nat} {zs kd vx rr li : Nat → Nat} {vv : Nat → Int32} {S : CX9} {m o : Nat}
theorem mx_C (h : OkC9 ld zs kd vx rr li vv S) : (o_C (x_SA S 0) ≤ 8000 ∧ o_C (x_SA S 1) ≤ 8000 ∧ o_C (x_SA S 2) ≤ 8000 ∧ o_C (x_SA S 3) ≤ 8000) ∧ (o_C (x_SB S 0) ≤ 8000 ∧ o_C (x_SB S 1) ≤ 8000 ∧ o_C (x_SB S 2) ≤ 8000 ∧ o_C (x_SB S 3) ≤ 8000) ∧ x_KL S ≤ 362880 ∧ x_SL S ≤ 725760 := by
  obtain ⟨h1, h2, h3, h4, h5, h6, h7, h8, h9, h10, h11⟩ := h
  exact ⟨⟨(h10 0 (by decide)).1.1, (h10 1 (by decide)).1.1, (h10 2 (by decide)).1.1, (h10 3 (by decide)).1.1⟩, ⟨(h10 0 (by decide)).2.1, (h10 1 (by decide)).2.1, (h10 2 (by decide)).2.1, (h10 3 (by decide)).2.1⟩, h6, h7⟩
theorem mx_0 (h : OkC9 ld zs kd vx rr li vv S) : pc9 S ≤ 1408640 ∧ ps9 S ≤ 3361280 := by
  obtain ⟨⟨a0, a1, a2, a3⟩, ⟨b0, b1, b2, b3⟩, k1, k2⟩ := mx_C h
  unfold pc9 ps9; omega
theorem mx_R (h : OkC9 ld zs kd vx rr li vv S) (hm : m < 4) : 4 * mcR9 S m + pc9 S ≤ 1408640 ∧ msR9 S m + ps9 S ≤ 3361280 := by
  by_cases w : o_rd (x_SA S m) = 1
  · have := mx_0 h
    unfold mcR9 msR9; rw [if_pos w, if_pos w]; omega
  · have hE := (h.2.2.2.2.2.2.2.2.2.1 m hm).1.2.1
    obtain ⟨r1, r2, r3, r4, r5, r6, -, -⟩ := rb_R h hm
    obtain ⟨⟨a0, a1, a2, a3⟩, ⟨b0, b1, b2, b3⟩, k1, k2⟩ := mx_C h
    unfold mcR9 msR9; rw [if_neg w, if_neg w]
    unfold pc9 ps9
    generalize gR9 S m = g at *
    have c : m = 0 ∨ m = 1 ∨ m = 2 ∨ m = 3 := by omega
    rcases c with rfl | rfl | rfl | rfl
    · rw [if_neg (by decide)] at hE; rw [hE] at r6; constructor <;> omega
    · rw [if_pos (by decide)] at hE; rw [hE] at r6; constructor <;> omega
    · rw [if_pos (by decide)] at hE; rw [hE] at r6; constructor <;> omega
    · rw [if_neg (by decide)] at hE; rw [hE] at r6; constructor <;> omega
theorem mx_G (h : OkC9 ld zs kd vx rr li vv S) (hm : m < 4) : 4 * mcG9 S m + pc9 S ≤ 1408640 ∧ msG9 S m + ps9 S ≤ 3361280 := by
  by_cases w : o_rd (x_SB S m) = 1
  · have := mx_0 h
    unfold mcG9 msG9; rw [if_pos w, if_pos w]; omega
  · have hE := (h.2.2.2.2.2.2.2.2.2.1 m hm).2.2.1
    have hR : RG0 (o_E (x_SB S m)) (o_C (x_SB S m)) (yg (zy (gG9 S m))) := rb_G h.1 h.2.1 hm (h.2.2.2.2.2.2.2.2.2.1 m hm).2.1
    obtain ⟨r1, r2, r3, -⟩ := hR
    obtain ⟨⟨a0, a1, a2, a3⟩, ⟨b0, b1, b2, b3⟩, k1, k2⟩ := mx_C h
    unfold mcG9 msG9; rw [if_neg w, if_neg w]
    unfold pc9 ps9
    rw [hE] at r3
    generalize yg (zy (gG9 S m)) = g at *
    have c : m = 0 ∨ m = 1 ∨ m = 2 ∨ m = 3 := by omega
    rcases c with rfl | rfl | rfl | rfl <;> constructor <;> omega
theorem mx_B (h : OkC9 ld zs kd vx rr li vv S) (hm : m < 4) (ho : o < 4) (hne : m ≠ o) : 4 * (mcR9 S m + mcB9 S m o) + pc9 S ≤ 1408640 ∧ msR9 S m + msB9 S m o + ps9 S ≤ 3361280 := by
  have hR := mx_R h hm
  by_cases w : o_rd (x_SA S o) = 1
  · unfold mcB9 msB9; rw [if_pos w, if_pos w]; omega
  · have hX := h.1
    obtain ⟨⟨a0, a1, a2, a3⟩, ⟨b0, b1, b2, b3⟩, k1, k2⟩ := mx_C h
    have hEm := (h.2.2.2.2.2.2.2.2.2.1 m hm).1.2.1
    have hEo := (h.2.2.2.2.2.2.2.2.2.1 o ho).1.2.1
    obtain ⟨r1, r2, r3, r4, r5, r6, -, -⟩ := rb_R h hm
    obtain ⟨KL', hKL⟩ : ∃ KL', KL' = if o_rd (x_SA S m) = 1 then x_KL S else gK (gR9 S m) := ⟨_, rfl⟩
    obtain ⟨SL', hSL⟩ : ∃ SL', SL' = if o_rd (x_SA S m) = 1 then x_SL S else gS (gR9 S m) := ⟨_, rfl⟩
    have hK1 : KL' ≤ 362880 := by rw [hKL]; split <;> omega
    have hS1 : SL' ≤ 725760 := by rw [hSL]; split <;> omega
    have hS2 : SL' = 0 ∨ ∃ j, SL' = 2 ^ j := by
      rw [hSL]; split
      · exact h.2.2.2.2.2.2.2.1
      · exact Or.inr r4
    have hb : RB9 (o_E (x_SA S o)) KL' SL' (o_C (x_SA S o)) (gB9 S m o) := by
      unfold gB9
      rw [← hKL, ← hSL]
      by_cases e : o = 3
      · subst e
        rw [if_pos rfl]; exact rb_K hX hK1 hS1 hS2 (h.2.2.2.2.2.2.2.2.2.1 3 ho).1.1
      · rw [if_neg e]; exact rb_B hX (by omega) hK1 hS1 hS2 (h.2.2.2.2.2.2.2.2.2.1 o ho).1.1
    obtain ⟨s1, s2, s3, s4, s5, s6, -, -⟩ := hb
    -- what m pays for
    have pm : 4 * mcR9 S m + (5 * o_C (x_SA S m) + x_KL S + x_SL S) ≤ 40000 + KL' + SL' ∧ msR9 S m + (2 * x_KL S + 2 * x_SL S + 2 * ((4 + o_E (x_SA S m)) * o_C (x_SA S m))) ≤ 2 * KL' + 2 * SL' + 2 * ((4 + o_E (x_SA S m)) * 8000) := by
      have hc := (h.2.2.2.2.2.2.2.2.2.1 m hm).1.1
      have e1 : (4 + o_E (x_SA S m)) * o_C (x_SA S m) ≤ (4 + o_E (x_SA S m)) * 8000 := Nat.mul_le_mul_left _ hc
      have e2 : (4 + o_E (x_SA S m)) * gC (gR9 S m) ≤ (4 + o_E (x_SA S m)) * 8000 := Nat.mul_le_mul_left _ r3
      by_cases wm : o_rd (x_SA S m) = 1
      · rw [if_pos wm] at hKL hSL
        unfold mcR9 msR9; rw [if_pos wm, if_pos wm, hKL, hSL]; omega
      · rw [if_neg wm] at hKL hSL
        unfold mcR9 msR9; rw [if_neg wm, if_neg wm, hKL, hSL]; omega
    have po : 4 * gc (gB9 S m o) + (5 * o_C (x_SA S o) + KL' + SL') ≤ 40000 + 362880 + 725760 ∧ gs (gB9 S m o) + (2 * KL' + 2 * SL' + 2 * ((4 + o_E (x_SA S o)) * o_C (x_SA S o))) ≤ 2 * 362880 + 2 * 725760 + 2 * ((4 + o_E (x_SA S o)) * 8000) := by
      have e2 : (4 + o_E (x_SA S o)) * gC (gB9 S m o) ≤ (4 + o_E (x_SA S o)) * 8000 := Nat.mul_le_mul_left _ s3
      omega
    unfold mcB9 msB9; rw [if_neg w, if_neg w]
    clear r1 r2 r3 r4 r5 r6 s1 s2 s3 s4 s5 s6 hS2 hKL hSL hX
    generalize mcR9 S m = y1 at *
    generalize msR9 S m = y2 at *
    generalize gc (gB9 S m o) = y3 at *
    generalize gs (gB9 S m o) = y4 at *
    obtain ⟨p1, p2⟩ := pm
    obtain ⟨q1, q2⟩ := po
    rw [hEm] at p2
    rw [hEo] at q2
    unfold pc9 ps9
    have c : m = 0 ∨ m = 1 ∨ m = 2 ∨ m = 3 := by omega
    have d : o = 0 ∨ o = 1 ∨ o = 2 ∨ o = 3 := by omega
    rcases c with rfl | rfl | rfl | rfl <;> rcases d with rfl | rfl | rfl | rfl <;> first | exact absurd rfl hne | (simp at p2 q2; constructor <;> omega)
end MXS
