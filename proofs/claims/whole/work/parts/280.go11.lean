/-- a state of model 3: places, sizes of the rows, who stands in them, ADDS, how many, what is left -/
def KD (T : Nat) (zs : Nat → Nat) (sf : Nat → Int32) (pl zz : Nat → Nat) (ro : Nat → Nat → Nat) (ad : Nat → Nat) (wn rm : Nat) : Prop :=
  (∀ t, t < 4 → sf t = nI (pl t)) ∧ (∀ t, t < T → pl t ≤ zs t) ∧ (∀ t, T ≤ t → t < 4 → pl t = 0) ∧ sf 15 = nI wn ∧ rm = smN (fun t => zs t - pl t) T ∧ rm + wn ≤ 11 ∧ rm ≤ 7 ∧
  (∀ x, x < 4 → sf (37 + x) = nI (zz x) ∧ 1 ≤ zz x) ∧ zz 0 + zz 1 + zz 2 + zz 3 = wn ∧ (∀ x, x < 4 → ∀ q, q < zz x → sf (41 + 8 * x + q) = nI (ro x q) ∧ ro x q < wn) ∧
  (∀ w, w < wn → ∀ y, y < 4 → ∃ q, q < zz y ∧ sf (41 + 8 * y + q) = sf (95 + 4 * w + y)) ∧ (∀ t, t < 4 → ∀ y, y < 4 → ∃ q, q < zz y ∧ sf (41 + 8 * y + q) = sf (139 + 4 * t + y)) ∧ (∀ w, w < wn → sf (84 + w) = nI (ad w) ∧ ad w < 2) ∧
  (∀ k, 4 ≤ k → k < 12 → wB (sf k) (9 * (7 - rm))) ∧ ∀ w, w < wn → wB (sf (73 + w)) (9 * (7 - rm))
section KDs
variable {T : Nat} {zs : Nat → Nat} {sf : Nat → Int32} {pl zz : Nat → Nat} {ro : Nat → Nat → Nat} {ad : Nat → Nat} {wn rm : Nat}
theorem KD_z8 (h : KD T zs sf pl zz ro ad wn rm) : ∀ x, x < 4 → zz x + 3 ≤ wn ∧ 1 ≤ zz x ∧ wn ≤ 11 := by
  obtain ⟨a1, a2, a3, a4, a5, a6, a7, a8, a9, -⟩ := h
  have h0 := (a8 0 (by decide)).2
  have h1 := (a8 1 (by decide)).2
  have h2 := (a8 2 (by decide)).2
  have h3 := (a8 3 (by decide)).2
  intro x hx
  rcases (by omega : x = 0 ∨ x = 1 ∨ x = 2 ∨ x = 3) with rfl | rfl | rfl | rfl <;> omega
theorem KD_move {s2 : Nat → Int32} {t p : Nat} (hT : T ≤ 4) (h : KD T zs sf pl zz ro ad wn rm) (ht : t < T) (hp1 : pl t < p) (hp2 : p ≤ zs t) (h1 : s2 t = nI p) (h2 : ∀ i, i ≠ t → s2 i = sf i) : ∃ rm2, rm2 < rm ∧ KD T zs s2 (updN pl t p) zz ro ad wn rm2 := by
  obtain ⟨a1, a2, a3, a4, a5, a6, a7, a8, a9, a10, a11, a12, a13, a14, a15⟩ := h
  have hs := smN_upd (zs := zs) (pl := pl) T ht (Nat.le_of_lt hp1) hp2
  rw [← a5] at hs
  have e : ∀ i, 4 ≤ i → s2 i = sf i := fun i hi => h2 i (by omega)
  refine ⟨smN (fun i => zs i - updN pl t p i) T, by omega, fun i hi => ?_, fun i hi => ?_, fun i h3 h4 => ?_, by rw [e 15 (by decide)]; exact a4, rfl, by omega, by omega, fun x hx => by rw [e _ (by omega)]; exact a8 x hx, a9, fun x hx q hq => by rw [e _ (by omega)]; exact a10 x hx q hq, fun w hw y hy => ?_, fun t' ht' y hy => ?_, fun w hw => by rw [e _ (by omega)]; exact a13 w hw, fun k h3 h4 => by rw [e _ h3]; exact wB_mono (a14 k h3 h4) (by omega), fun w hw => by rw [e _ (by omega)]; exact wB_mono (a15 w hw) (by omega)⟩
  · unfold updN; split
    · next q => rw [q]; exact h1
    · next q => rw [h2 i q]; exact a1 i hi
  · unfold updN; split
    · next q => rw [q]; exact hp2
    · exact a2 i hi
  · unfold updN; rw [if_neg (by omega)]; exact a3 i h3 h4
  · obtain ⟨q, q1, q2⟩ := a11 w hw y hy; exact ⟨q, q1, by rw [e _ (by omega), e _ (by omega)]; exact q2⟩
  · obtain ⟨q, q1, q2⟩ := a12 t' ht' y hy; exact ⟨q, q1, by rw [e _ (by omega), e _ (by omega)]; exact q2⟩
theorem lnF_in {t w : Nat} {pi pm : Nat → Nat} {y : Nat} : ∀ n, y < n → lnF sf t w pi pm n (139 + 4 * t + y) = sf (139 + 4 * t + y) ∨ lnF sf t w pi pm n (139 + 4 * t + y) = sf (95 + 4 * w + y)
  | 0, h => absurd h (Nat.not_lt_zero y)
  | n + 1, h => by
    unfold lnF
    by_cases e : y = n
    · subst e
      split
      · exact Or.inr pk_us
      · exact Or.inl (lnF_o y (Or.inr (Nat.le_refl _)))
    · split
      · rw [pk_un (by omega)]; exact lnF_in n (by omega)
      · exact lnF_in n (by omega)
theorem KD_ln {t w : Nat} {pi pm : Nat → Nat} (h : KD T zs sf pl zz ro ad wn rm) (ht : t < 4) (hw0 : w < wn) : KD T zs (lnF sf t w pi pm 4) pl zz ro ad wn rm := by
  have hz8 := KD_z8 h
  have h11 := (hz8 0 (by decide)).2.2
  obtain ⟨a1, a2, a3, a4, a5, a6, a7, a8, a9, a10, a11, a12, a13, a14, a15⟩ := h
  have e : ∀ i, i < 139 → lnF sf t w pi pm 4 i = sf i := fun i hi => lnF_o 4 (Or.inl (by omega))
  refine ⟨fun i hi => by rw [e _ (by omega)]; exact a1 i hi, a2, a3, by rw [e _ (by decide)]; exact a4, a5, a6, a7, fun x hx => by rw [e _ (by omega)]; exact a8 x hx, a9, fun x hx q hq => by have := hz8 x hx; rw [e _ (by omega)]; exact a10 x hx q hq, fun w hw y hy => ?_, fun t' ht' y hy => ?_, fun w hw => by rw [e _ (by omega)]; exact a13 w hw, fun k h3 h4 => by rw [e _ (by omega)]; exact a14 k h3 h4, fun w hw => by rw [e _ (by omega)]; exact a15 w hw⟩
  · have h8 := hz8 y hy
    obtain ⟨q, q1, q2⟩ := a11 w hw y hy
    exact ⟨q, q1, by rw [e _ (by omega), e _ (by omega)]; exact q2⟩
  · have h8 := hz8 y hy
    by_cases c : t' = t
    · subst c
      rcases lnF_in (sf := sf) (t := t') (w := w) (pi := pi) (pm := pm) 4 hy with g | g
      · obtain ⟨q, q1, q2⟩ := a12 t' ht' y hy
        exact ⟨q, q1, by rw [e _ (by omega), g]; exact q2⟩
      · obtain ⟨q, q1, q2⟩ := a11 w hw0 y hy
        exact ⟨q, q1, by rw [e _ (by omega), g]; exact q2⟩
    · obtain ⟨q, q1, q2⟩ := a12 t' ht' y hy
      exact ⟨q, q1, by rw [e _ (by omega), lnF_o 4 (by omega)]; exact q2⟩
theorem KD_reg {i : Nat} {v : Int32} (h : KD T zs sf pl zz ro ad wn rm) (h1 : 4 ≤ i) (h2 : i < 12) (hv : wB v (9 * (7 - rm))) : KD T zs (upd sf i v) pl zz ro ad wn rm := by
  obtain ⟨a1, a2, a3, a4, a5, a6, a7, a8, a9, a10, a11, a12, a13, a14, a15⟩ := h
  have e : ∀ k, k < 4 ∨ 12 ≤ k → upd sf i v k = sf k := fun k hk => pk_un (by omega)
  refine ⟨fun t ht => by rw [e _ (by omega)]; exact a1 t ht, a2, a3, by rw [e _ (by omega)]; exact a4, a5, a6, a7, fun x hx => by rw [e _ (by omega)]; exact a8 x hx, a9, fun x hx q hq => by rw [e _ (by omega)]; exact a10 x hx q hq, fun w hw y hy => ?_, fun t' ht' y hy => ?_, fun w hw => by rw [e _ (by omega)]; exact a13 w hw, fun k h3 h4 => ?_, fun w hw => by rw [e _ (by omega)]; exact a15 w hw⟩
  · obtain ⟨q, q1, q2⟩ := a11 w hw y hy
    exact ⟨q, q1, by rw [e _ (by omega), e _ (by omega)]; exact q2⟩
  · obtain ⟨q, q1, q2⟩ := a12 t' ht' y hy
    exact ⟨q, q1, by rw [e _ (by omega), e _ (by omega)]; exact q2⟩
  · by_cases c : k = i
    · rw [c, pk_us]; exact hv
    · rw [pk_un c]; exact a14 k h3 h4
theorem kwF_at {f : Nat → Int32} {t wn : Nat} (hw : wn ≤ 10) : ∀ n, n ≤ 4 → ∀ k, kwF f t wn n k = if 95 + 4 * wn ≤ k ∧ k < 95 + 4 * wn + n then f (139 + 4 * t + (k - (95 + 4 * wn))) else f k
  | 0, _, k => by unfold kwF; rw [if_neg (by omega)]
  | n + 1, h, k => by
    unfold kwF
    rw [kwF_at hw n (by omega) (139 + 4 * t + n), if_neg (by omega)]
    by_cases e : k = 95 + 4 * wn + n
    · rw [e, pk_us, if_pos (by omega), Nat.add_sub_cancel_left]
    · rw [pk_un e, kwF_at hw n (by omega) k]
      by_cases c : 95 + 4 * wn ≤ k ∧ k < 95 + 4 * wn + n
      · rw [if_pos c, if_pos (by omega)]
      · rw [if_neg c, if_neg (by omega)]
theorem puB_at {s : Nat → Int32} {t x pc z wn : Nat} {v an : Int32} {k : Nat} : puB s t x pc z wn v an k = if k = 139 + 4 * t + x then nI wn else if k = 84 + wn then an else if k = 73 + wn then v else if k = 37 + x then nI (z + 1) else if k = 41 + 8 * x + pc then nI wn else if 41 + 8 * x + pc < k ∧ k ≤ 41 + 8 * x + z then (if k - 1 = 15 then nI (wn + 1) else s (k - 1)) else if k = 15 then nI (wn + 1) else s k := rfl
/-- who stands in the rows when one comes -/
def roP (ro : Nat → Nat → Nat) (x pc wn : Nat) : Nat → Nat → Nat := fun y q => if y = x then (if q < pc then ro x q else if q = pc then wn else ro x (q - 1)) else ro y q
theorem KD_put {t x pc an : Nat} {v : Int32} (h : KD T zs sf pl zz ro ad wn rm) (ht : t < 4) (hx : x < 4) (hpc : pc ≤ zz x) (hrw : rm + wn < 11) (hv : wB v (9 * (7 - rm))) (han : an < 2) :
    KD T zs (kwF (puB sf t x pc (zz x) wn v (nI an)) t wn 4) pl (updN zz x (zz x + 1)) (roP ro x pc wn) (updN ad wn an) (wn + 1) rm := by
  have hz8 := KD_z8 h
  obtain ⟨a1, a2, a3, a4, a5, a6, a7, a8, a9, a10, a11, a12, a13, a14, a15⟩ := h
  have hw10 : wn ≤ 10 := by omega
  have hzx := hz8 x hx
  generalize hu : puB sf t x pc (zz x) wn v (nI an) = u
  have u0 : ∀ k, k ≠ 139 + 4 * t + x → k ≠ 84 + wn → k ≠ 73 + wn → k ≠ 37 + x → k ≠ 15 → ¬ (41 + 8 * x + pc ≤ k ∧ k ≤ 41 + 8 * x + zz x) → u k = sf k := fun k h1 h2 h3 h4 h5 h6 => by
    rw [← hu, puB_at, if_neg h1, if_neg h2, if_neg h3, if_neg h4, if_neg (by omega), if_neg (by omega), if_neg h5]
  have uK : u (139 + 4 * t + x) = nI wn := by rw [← hu, puB_at, if_pos rfl]
  have uA : u (84 + wn) = nI an := by rw [← hu, puB_at, if_neg (by omega), if_pos rfl]
  have uV : u (73 + wn) = v := by rw [← hu, puB_at, if_neg (by omega), if_neg (by omega), if_pos rfl]
  have uZ : u (37 + x) = nI (zz x + 1) := by rw [← hu, puB_at, if_neg (by omega), if_neg (by omega), if_neg (by omega), if_pos rfl]
  have uP : u (41 + 8 * x + pc) = nI wn := by rw [← hu, puB_at, if_neg (by omega), if_neg (by omega), if_neg (by omega), if_neg (by omega), if_pos rfl]
  have uM : ∀ q, pc < q → q ≤ zz x → u (41 + 8 * x + q) = sf (41 + 8 * x + (q - 1)) := fun q h1 h2 => by
    rw [← hu, puB_at, if_neg (by omega), if_neg (by omega), if_neg (by omega), if_neg (by omega), if_neg (by omega), if_pos (by omega), if_neg (by omega)]
    congr 1; omega
  have uW : u 15 = nI (wn + 1) := by rw [← hu, puB_at, if_neg (by omega), if_neg (by omega), if_neg (by omega), if_neg (by omega), if_neg (by omega), if_neg (by omega), if_pos rfl]
  have k0 : ∀ k, k < 95 + 4 * wn ∨ 95 + 4 * wn + 4 ≤ k → kwF u t wn 4 k = u k := fun k hk => by rw [kwF_at hw10 4 (Nat.le_refl 4), if_neg (by omega)]
  have kN : ∀ y, y < 4 → kwF u t wn 4 (95 + 4 * wn + y) = u (139 + 4 * t + y) := fun y hy => by rw [kwF_at hw10 4 (Nat.le_refl 4), if_pos (by omega), Nat.add_sub_cancel_left]
  -- the rows
  have rO : ∀ y, y < 4 → y ≠ x → ∀ q, q < zz y → kwF u t wn 4 (41 + 8 * y + q) = sf (41 + 8 * y + q) := fun y hy hne q hq => by
    have := hz8 y hy
    rw [k0 _ (by omega), u0 _ (by omega) (by omega) (by omega) (by omega) (by omega) (by omega)]
  have r1 : ∀ q, q < pc → kwF u t wn 4 (41 + 8 * x + q) = sf (41 + 8 * x + q) := fun q hq => by
    rw [k0 _ (by omega), u0 _ (by omega) (by omega) (by omega) (by omega) (by omega) (by omega)]
  have r2 : kwF u t wn 4 (41 + 8 * x + pc) = nI wn := by rw [k0 _ (by omega), uP]
  have r3 : ∀ q, pc < q → q ≤ zz x → kwF u t wn 4 (41 + 8 * x + q) = sf (41 + 8 * x + (q - 1)) := fun q h1 h2 => by rw [k0 _ (by omega), uM q h1 h2]
  -- one that stood in a row stands there still
  have stay : ∀ y, y < 4 → ∀ e : Int32, (∃ q, q < zz y ∧ sf (41 + 8 * y + q) = e) → ∃ q, q < updN zz x (zz x + 1) y ∧ kwF u t wn 4 (41 + 8 * y + q) = e := fun y hy e ⟨q, q1, q2⟩ => by
    by_cases c : y = x
    · subst c
      rw [updN_s]
      by_cases d : q < pc
      · exact ⟨q, by omega, by rw [r1 q d]; exact q2⟩
      · exact ⟨q + 1, by omega, by rw [r3 (q + 1) (by omega) (by omega), Nat.add_sub_cancel]; exact q2⟩
    · rw [updN_n c]; exact ⟨q, q1, by rw [rO y hy c q q1]; exact q2⟩
  have newin : ∃ q, q < updN zz x (zz x + 1) x ∧ kwF u t wn 4 (41 + 8 * x + q) = nI wn := ⟨pc, by rw [updN_s]; omega, r2⟩
  refine ⟨fun i hi => ?_, a2, a3, by rw [k0 _ (by omega), uW], a5, by omega, a7, fun y hy => ?_, ?_, fun y hy q hq => ?_, fun w hw y hy => ?_, fun t' ht' y hy => ?_, fun w hw => ?_, fun k h3 h4 => ?_, fun w hw => ?_⟩
  · rw [k0 _ (by omega), u0 _ (by omega) (by omega) (by omega) (by omega) (by omega) (by omega)]; exact a1 i hi
  · by_cases c : y = x
    · subst c; rw [updN_s, k0 _ (by omega), uZ]; exact ⟨rfl, by omega⟩
    · rw [updN_n c, k0 _ (by omega), u0 _ (by omega) (by omega) (by omega) (by omega) (by omega) (by omega)]; exact a8 y hy
  · rcases (by omega : x = 0 ∨ x = 1 ∨ x = 2 ∨ x = 3) with rfl | rfl | rfl | rfl
    · rw [updN_s, updN_n (by decide), updN_n (by decide), updN_n (by decide)]; omega
    · rw [updN_s, updN_n (by decide), updN_n (by decide), updN_n (by decide)]; omega
    · rw [updN_s, updN_n (by decide), updN_n (by decide), updN_n (by decide)]; omega
    · rw [updN_s, updN_n (by decide), updN_n (by decide), updN_n (by decide)]; omega
  · unfold roP
    by_cases c : y = x
    · subst c
      rw [updN_s] at hq
      rw [if_pos rfl]
      by_cases d : q < pc
      · rw [if_pos d, r1 q d]; obtain ⟨b1, b2⟩ := a10 y hy q (by omega); exact ⟨b1, by omega⟩
      · rw [if_neg d]
        by_cases e : q = pc
        · rw [if_pos e, e, r2]; exact ⟨rfl, Nat.lt_succ_self _⟩
        · rw [if_neg e, r3 q (by omega) (by omega)]; obtain ⟨b1, b2⟩ := a10 y hy (q - 1) (by omega); exact ⟨b1, by omega⟩
    · rw [updN_n c] at hq
      rw [if_neg c, rO y hy c q hq]; obtain ⟨b1, b2⟩ := a10 y hy q hq; exact ⟨b1, by omega⟩
  · by_cases c : w = wn
    · subst c
      rw [kN y hy]
      by_cases d : y = x
      · subst d; rw [uK]; exact newin
      · rw [u0 _ (by omega) (by omega) (by omega) (by omega) (by omega) (by omega)]; exact stay y hy _ (a12 t ht y hy)
    · rw [k0 _ (by omega), u0 _ (by omega) (by omega) (by omega) (by omega) (by omega) (by omega)]; exact stay y hy _ (a11 w (by omega) y hy)
  · by_cases c : t' = t ∧ y = x
    · obtain ⟨c1, c2⟩ := c
      subst c1; subst c2; rw [k0 _ (by omega), uK]; exact newin
    · rw [k0 _ (by omega), u0 _ (by omega) (by omega) (by omega) (by omega) (by omega) (by omega)]; exact stay y hy _ (a12 t' ht' y hy)
  · by_cases c : w = wn
    · subst c; rw [updN_s, k0 _ (by omega), uA]; exact ⟨rfl, han⟩
    · rw [updN_n c, k0 _ (by omega), u0 _ (by omega) (by omega) (by omega) (by omega) (by omega) (by omega)]; exact a13 w (by omega)
  · rw [k0 _ (by omega), u0 _ (by omega) (by omega) (by omega) (by omega) (by omega) (by omega)]; exact a14 k h3 h4
  · by_cases c : w = wn
    · subst c; rw [k0 _ (by omega), uV]; exact hv
    · rw [k0 _ (by omega), u0 _ (by omega) (by omega) (by omega) (by omega) (by omega) (by omega)]; exact a15 w (by omega)
end KDs
