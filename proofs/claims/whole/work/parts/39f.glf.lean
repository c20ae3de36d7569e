/-- what the reference's threads keep: only the program's actions happen, takers after their sources -/
def gzI9 (T : Nat) (zs kd fm : Nat → Nat) (g : A9) : Prop :=
  (∀ a, g.2.2.2.1 a = 0 ∨ g.2.2.2.1 a = 1) ∧ g.2.2.2.2 = g.2.2.2.1 ∧ (∀ a, g.2.2.2.1 a = 1 → a / 7 < T ∧ a % 7 < zs (a / 7) ∧ kd a ≠ 5) ∧ (∀ a, g.2.2.2.1 a = 1 → (kd a = 0 ∨ kd a = 3) → fm a ≠ 0 → g.2.2.2.1 (fm a - 1) = 1)
section GZI
variable {gm K N0 T ld : Nat} {zs kd vx rr li fm : Nat → Nat} {vv : Nat → Int32} {fl : Nat → Nat}
theorem gzI_s (hz : ∀ t, t < T → zs t ≤ 7) (t : Nat) (g g2 : A9) (ht : t < T) (hI : gzI9 T zs kd fm g) (hp : g.1 t < zs t) (ho : acF zs kd vx rr fm vv t g = some g2) : gzI9 T zs kd fm g2 := by
  obtain ⟨i1, i2, i3, i4⟩ := hI
  obtain ⟨p, hd, gv, h9, dn⟩ := g
  dsimp only at i1 i2 i3 i4 hp
  subst i2
  have h7 := hz t ht
  unfold acF at ho
  dsimp only at ho
  by_cases k5 : kd (7 * t + p t) = 5
  · rw [if_pos k5] at ho
    rw [← Option.some.inj ho]; exact ⟨i1, rfl, i3, i4⟩
  · rw [if_neg k5] at ho
    by_cases w : (kd (7 * t + p t) = 0 ∨ kd (7 * t + p t) = 3) ∧ ¬ fm (7 * t + p t) = 0 ∧ dn (fm (7 * t + p t) - 1) = 0
    · rw [if_pos w] at ho; exact absurd ho (by simp)
    · rw [if_neg w] at ho
      rw [← Option.some.inj ho]
      refine ⟨fun a => ?_, rfl, fun a ha => ?_, fun a ha hk h0 => ?_⟩
      · show updN dn (7 * t + p t) 1 a = 0 ∨ updN dn (7 * t + p t) 1 a = 1
        by_cases e : a = 7 * t + p t
        · rw [e, updN_s]; exact Or.inr rfl
        · rw [updN_n e]; exact i1 a
      · have ha' : updN dn (7 * t + p t) 1 a = 1 := ha
        by_cases e : a = 7 * t + p t
        · have e1 : (7 * t + p t) / 7 = t := by omega
          have e2 : (7 * t + p t) % 7 = p t := by omega
          rw [e, e1, e2]; exact ⟨ht, hp, k5⟩
        · rw [updN_n e] at ha'; exact i3 a ha'
      · show updN dn (7 * t + p t) 1 (fm a - 1) = 1
        have ha' : updN dn (7 * t + p t) 1 a = 1 := ha
        by_cases e2 : fm a - 1 = 7 * t + p t
        · rw [e2, updN_s]
        · rw [updN_n e2]
          by_cases e : a = 7 * t + p t
          · rw [e] at hk h0 ⊢
            rcases i1 (fm (7 * t + p t) - 1) with z | z
            · exact absurd ⟨hk, h0, z⟩ w
            · exact z
          · rw [updN_n e] at ha'; exact i4 a ha' hk h0
theorem gz_inv (hz : ∀ t, t < T → zs t ≤ 7) : gzI9 T zs kd (fQ li ld fl) (gzQ K N0 T ld zs kd vx rr li vv fl) := by
  unfold gzQ
  refine gwA_inv (Iv := gzI9 T zs kd (fQ li ld fl)) (fun t g g2 ht _ hI hp ho => gzI_s hz t g g2 ht hI hp ho) N0 _ GA_0 ?_
  exact ⟨fun _ => Or.inl rfl, rfl, fun a h => absurd (show 0 = 1 from h) (by decide), fun a h => absurd (show 0 = 1 from h) (by decide)⟩
theorem gz_tkD (hz : ∀ t, t < T → zs t ≤ 7) (hPr : PrR T zs kd vx rr vv) (hL : liO T ld zs kd li) (hf : ∀ q, q < ld → fm (li q) = fl q) : tkD9 T ld zs vx li fm (gzQ K N0 T ld zs kd vx rr li vv fl).2.2.2.1 := fun k hk h1 => by
  obtain ⟨i1, i2, i3, i4⟩ := gz_inv (K := K) (N0 := N0) (ld := ld) (vx := vx) (rr := rr) (li := li) (vv := vv) (kd := kd) (fl := fl) hz
  obtain ⟨⟨l1, l2⟩, l3⟩ := hL.1 k hk
  have h28 : li k < 28 := by have := hPr.1; omega
  have hv := (hPr.2.2.2 (li k) h28).2.2.2.2 (by omega)
  refine ⟨⟨l1, l2, h1⟩, hv, fun h0 => ?_⟩
  rw [hf k hk, ← fQ_at (fl := fl) hL hk] at h0 ⊢
  have h2 := i4 (li k) h1 l3 h0
  obtain ⟨j1, j2, -⟩ := i3 _ h2
  exact ⟨j1, j2, h2⟩
theorem gd_rwD {hp : Nat → Nat} {RL : Nat → List Nat} (h : gdR gm T zs kd vx hp RL) : rwD9 T zs hp RL := fun x hx i hi => by
  obtain ⟨h1, h2⟩ := (h x hx).2 _ (memD.mpr ⟨i, hi, rfl⟩)
  exact ⟨h1.1, h1.2, h2.1⟩
/-- whether a graph of the reference stands -/
noncomputable def std9 (gm K N0 T ld : Nat) (zs kd vx rr li : Nat → Nat) (vv : Nat → Int32) (fl : Nat → Nat) (RL : Nat → List Nat) : Bool :=
  @decide (stG9 gm T ld zs kd vx li (fQ li ld fl) (gzQ K N0 T ld zs kd vx rr li vv fl).2.2.2.1 RL) (Classical.propDecidable _)
theorem std_9 {RL : Nat → List Nat} : std9 gm K N0 T ld zs kd vx rr li vv fl RL = true ↔ stG9 gm T ld zs kd vx li (fQ li ld fl) (gzQ K N0 T ld zs kd vx rr li vv fl).2.2.2.1 RL := by
  unfold std9
  exact @decide_eq_true_iff _ (Classical.propDecidable _)
theorem std_ok (hPr : PrR T zs kd vx rr vv) (hL : liO T ld zs kd li) : StdP gm K N0 T ld zs kd vx rr li vv (std9 gm K N0 T ld zs kd vx rr li vv) := by
  intro fl fm hf _ _ RL rx rs nu ow rd bf sn hR hG
  have hz := hPr.2.1
  rw [std_9, wSt_9 hPr.1 hz hR (gd_rwD hG) (gz_tkD hz hPr hL hf) (nu_ok hz rfl)]
  exact stG_cg (fun k hk => by rw [fQ_at hL hk, hf k hk])
end GZI
