/-- the pairs that are next at a time and are a race -/
def cnA (zs kd vx : Nat → Nat) (pl : Nat → Nat) (t u : Nat) : Prop :=
  pl t < zs t ∧ pl u < zs u ∧ kd (7 * t + pl t) ≤ 3 ∧ kd (7 * u + pl u) ≤ 3 ∧ vx (7 * t + pl t) = vx (7 * u + pl u) ∧ ¬ (kd (7 * t + pl t) = 0 ∧ kd (7 * u + pl u) = 0) ∧ ¬ (kd (7 * t + pl t) = 3 ∧ kd (7 * u + pl u) = 3)
def raA (T : Nat) (zs kd vx : Nat → Nat) (A : AB) (i j : Nat) : Prop := ∃ t u, t < T ∧ u < T ∧ t ≠ u ∧ cnA zs kd vx A.1 t u ∧ i = 7 * t + A.1 t ∧ j = 7 * u + A.1 u
theorem cnA_sym {zs kd vx pl : Nat → Nat} {t u : Nat} (h : cnA zs kd vx pl t u) : cnA zs kd vx pl u t := by
  obtain ⟨h1, h2, h3, h4, h5, h6, h7⟩ := h
  exact ⟨h2, h1, h4, h3, h5.symm, fun q => h6 ⟨q.2, q.1⟩, fun q => h7 ⟨q.2, q.1⟩⟩
theorem mkI_sem {zs kd vx pl : Nat → Nat} {t : Nat} {f : Nat → Int32} {k : Nat} : ∀ n, mkI zs kd vx pl t f n k = 1 ↔ f k = 1 ∨ ∃ i, i < n ∧ cnA zs kd vx pl t (t + 1 + i) ∧ (k = 28 * (7 * t + pl t) + (7 * (t + 1 + i) + pl (t + 1 + i)) ∨ k = 28 * (7 * (t + 1 + i) + pl (t + 1 + i)) + (7 * t + pl t))
  | 0 => ⟨fun q => Or.inl q, fun q => by
    rcases q with q | ⟨i, hi, -⟩
    · exact q
    · exact absurd hi (Nat.not_lt_zero i)⟩
  | n + 1 => by
    have ih := mkI_sem (zs := zs) (kd := kd) (vx := vx) (pl := pl) (t := t) (f := f) (k := k) n
    unfold mkI
    by_cases q : pl t < zs t ∧ pl (t + 1 + n) < zs (t + 1 + n) ∧ kd (7 * t + pl t) ≤ 3 ∧ kd (7 * (t + 1 + n) + pl (t + 1 + n)) ≤ 3 ∧ vx (7 * t + pl t) = vx (7 * (t + 1 + n) + pl (t + 1 + n)) ∧ ¬ (kd (7 * t + pl t) = 0 ∧ kd (7 * (t + 1 + n) + pl (t + 1 + n)) = 0) ∧ ¬ (kd (7 * t + pl t) = 3 ∧ kd (7 * (t + 1 + n) + pl (t + 1 + n)) = 3)
    · rw [if_pos q]
      by_cases e2 : k = 28 * (7 * (t + 1 + n) + pl (t + 1 + n)) + (7 * t + pl t)
      · rw [e2, pk_us]
        exact ⟨fun _ => Or.inr ⟨n, Nat.lt_succ_self n, q, Or.inr rfl⟩, fun _ => rfl⟩
      · rw [pk_un e2]
        by_cases e1 : k = 28 * (7 * t + pl t) + (7 * (t + 1 + n) + pl (t + 1 + n))
        · rw [e1, pk_us]
          exact ⟨fun _ => Or.inr ⟨n, Nat.lt_succ_self n, q, Or.inl rfl⟩, fun _ => rfl⟩
        · rw [pk_un e1, ih]
          constructor
          · rintro (h | ⟨i, h1, h2⟩)
            · exact Or.inl h
            · exact Or.inr ⟨i, by omega, h2⟩
          · rintro (h | ⟨i, h1, h2, h3⟩)
            · exact Or.inl h
            · by_cases z : i = n
              · rw [z] at h3; rcases h3 with h3 | h3
                · exact absurd h3 e1
                · exact absurd h3 e2
              · exact Or.inr ⟨i, by omega, h2, h3⟩
    · rw [if_neg q, ih]
      constructor
      · rintro (h | ⟨i, h1, h2⟩)
        · exact Or.inl h
        · exact Or.inr ⟨i, by omega, h2⟩
      · rintro (h | ⟨i, h1, h2, h3⟩)
        · exact Or.inl h
        · by_cases z : i = n
          · rw [z] at h2; exact absurd h2 q
          · exact Or.inr ⟨i, by omega, h2, h3⟩
theorem mkO_sem {zs kd vx pl : Nat → Nat} {T : Nat} {f : Nat → Int32} {k : Nat} : ∀ n, n ≤ T → (mkO zs kd vx pl T f n k = 1 ↔ f k = 1 ∨ ∃ t u, t < n ∧ t < u ∧ u < T ∧ cnA zs kd vx pl t u ∧ (k = 28 * (7 * t + pl t) + (7 * u + pl u) ∨ k = 28 * (7 * u + pl u) + (7 * t + pl t)))
  | 0, _ => ⟨fun q => Or.inl q, fun q => by
    rcases q with q | ⟨t, u, ht, -⟩
    · exact q
    · exact absurd ht (Nat.not_lt_zero t)⟩
  | n + 1, hn => by
    unfold mkO
    rw [mkI_sem, mkO_sem n (by omega)]
    constructor
    · rintro ((h | ⟨t, u, h1, h2⟩) | ⟨i, h1, h2, h3⟩)
      · exact Or.inl h
      · exact Or.inr ⟨t, u, by omega, h2⟩
      · exact Or.inr ⟨n, n + 1 + i, Nat.lt_succ_self n, by omega, by omega, h2, h3⟩
    · rintro (h | ⟨t, u, h1, h2, h3, h4, h5⟩)
      · exact Or.inl (Or.inl h)
      · by_cases z : t = n
        · rw [z] at h2 h4 h5
          refine Or.inr ⟨u - (n + 1), by omega, ?_⟩
          rw [(by omega : n + 1 + (u - (n + 1)) = u)]
          exact ⟨h4, h5⟩
        · exact Or.inl (Or.inr ⟨t, u, by omega, h2, h3, h4, h5⟩)
def mkRf (g : R9) (i j : Nat) : Prop := i < 28 ∧ j < 28 ∧ g.2.2 (28 * i + j) = 1
theorem cnA_cg {zs kd vx pl pl2 : Nat → Nat} {t u : Nat} (h1 : pl t = pl2 t) (h2 : pl u = pl2 u) : cnA zs kd vx pl t u ↔ cnA zs kd vx pl2 t u := by unfold cnA; rw [h1, h2]
/-- the reference's marks are the machine's -/
theorem mk_R {T : Nat} {zs kd vx rr : Nat → Nat} {vv : Nat → Int32} {fu : Nat} {sf : Nat → Int32} {rc : Nat → Int32} {i j : Nat} (hPr : PrR T zs kd vx rr vv) (h : IvB T zs fu sf) (hi : i < 28) (hj : j < 28) :
    mkS zs kd vx T sf rc (28 * i + j) = 1 ↔ rc (28 * i + j) = 1 ∨ raA T zs kd vx (abR 0 sf) i j := by
  have hT := hPr.1
  unfold mkS
  rw [mkO_sem T (Nat.le_refl T)]
  have ep : ∀ t, t < T → (sf t).toNatClampNeg = (abR 0 sf).1 t := fun t ht => (abR_at1 (by omega)).symm
  have lt : ∀ t, t < T → (abR 0 sf).1 t < zs t → 7 * t + (abR 0 sf).1 t < 28 := fun t ht q => by have := hPr.2.1 t ht; omega
  constructor
  · rintro (q | ⟨t, u, h1, h2, h3, h4, h5⟩)
    · exact Or.inl q
    · have c4 := (cnA_cg (pl := fun t => (sf t).toNatClampNeg) (pl2 := (abR 0 sf).1) (ep t h1) (ep u h3)).mp h4
      have l1 := lt t h1 c4.1
      have l2 := lt u h3 c4.2.1
      rw [ep t h1, ep u h3] at h5
      rcases h5 with h5 | h5
      · exact Or.inr ⟨t, u, h1, h3, by omega, c4, by omega, by omega⟩
      · exact Or.inr ⟨u, t, h3, h1, by omega, cnA_sym c4, by omega, by omega⟩
  · rintro (q | ⟨t, u, h1, h2, h3, h4, h5, h6⟩)
    · exact Or.inl q
    · have c4 := (cnA_cg (pl := fun t => (sf t).toNatClampNeg) (pl2 := (abR 0 sf).1) (ep t h1) (ep u h2)).mpr h4
      rw [← ep t h1] at h5
      rw [← ep u h2] at h6
      by_cases z : t < u
      · exact Or.inr ⟨t, u, h1, z, h2, c4, Or.inl (by rw [h5, h6])⟩
      · exact Or.inr ⟨u, t, h2, by omega, h1, cnA_sym c4, Or.inr (by rw [h5, h6])⟩
theorem ref_races {T : Nat} {zs kd vx rr : Nat → Nat} {vv : Nat → Int32} {rc0 : Nat → Int32} (hPr : PrR T zs kd vx rr vv) (h0 : ∀ k, k < 784 → rc0 k = 0) {nF : (Nat → Int32) → List Int32} {i j : Nat} (hi : i < 28) (hj : j < 28) :
    (frR (stQ 0 zs kd vx rr vv) (fun s9 => c5 (cdB 0 s9)) (mkS zs kd vx T) nF T 1 15 (fun _ => 0) [] (([], [], rc0) : R9)).2.2 (28 * i + j) = 1 ↔ ∃ m, mks (nxF (aF 0 zs kd vx rr vv) T) (raA T zs kd vx) m a0B i j := by
  have hmd : 0 < 3 := by decide
  rw [fr_mdf]
  have hpi := mdf_pi (kn := knR (fun s9 => c5 (cdB 0 s9))) (pre := beR (fun s9 => c5 (cdB 0 s9)) (mkS zs kd vx T) 1) (nx := nxF (stQ 0 zs kd vx rr vv) T) (fin := fnR nF 1)
    (kn2 := fun (g : R9 × List (Unit × List Int32)) s => knR (fun s9 => c5 (cdB 0 s9)) g.1 s) (pre2 := fun s g => (beR (fun s9 => c5 (cdB 0 s9)) (mkS zs kd vx T) 1 s g.1, g.2)) (fin2 := fun s p g => (g.1, adV g.2 () p)) (pi := fun g => g.1)
    (fun _ _ => rfl) (fun _ _ => rfl) (fun s p g => by unfold fnR; rw [if_neg (by decide)]) 15 (fun _ => 0) [] (([], [], rc0), [])
  rw [← hpi]
  have h := md_use (kn := fun (g : R9 × List (Unit × List Int32)) s => knR (fun s9 => c5 (cdB 0 s9)) g.1 s) (pre := fun s g => (beR (fun s9 => c5 (cdB 0 s9)) (mkS zs kd vx T) 1 s g.1, g.2)) (nx := nxF (stQ 0 zs kd vx rr vv) T) (fin := fun s p g => (g.1, adV g.2 () p)) (oc := fun _ => ()) (rp := fun s a b => a < 28 ∧ b < 28 ∧ raA T zs kd vx (abR 0 s) a b) (Iv := fun s => ∃ fu, IvB T zs fu s)
    (sk := fun s s' => c5 (cdB 0 s') = c5 (cdB 0 s)) (fo := fun g => g.2) (mk := fun g a b => mkRf g.1 a b) (B := (pdf (nxF (aF 0 zs kd vx rr vv) T) (fun _ => ()) 15 a0B [] []).length) (na := nxF (aF 0 zs kd vx rr vv) T) (oa := fun _ => ()) (ra9 := fun A a b => a < 28 ∧ b < 28 ∧ raA T zs kd vx A a b) (ab := abR 0) (rkA := rkA T zs)
    (fun s ⟨fu, hs⟩ => nxF_sim (fun t c ht _ => simR hPr hmd hs ht)) (fun s _ => rfl) (fun _ _ _ _ => Iff.rfl)
    (fun s c ⟨fu, hs⟩ hc => by
      obtain ⟨t, k, ht, _, e, _⟩ := nxF_mem hc
      exact ⟨fu - 1, (iv_stB hPr hs ht e).2.1⟩)
    (fun s c ⟨fu, hs⟩ hc => by
      obtain ⟨t, k, ht, _, e, _⟩ := nxF_mem hc
      have q := simR (c := k) hPr hmd hs ht
      rw [e] at q
      exact rk_dec hPr ht q.symm)
    (fun s g _ => rfl) (fun s g a b ⟨fu, hs⟩ => by
      unfold mkRf beR
      dsimp only
      rw [if_neg (by decide)]
      constructor
      · rintro ⟨q1, q2, q3⟩
        rcases (mk_R hPr hs q1 q2).mp q3 with q | q
        · exact Or.inl ⟨q1, q2, q⟩
        · exact Or.inr ⟨q1, q2, q⟩
      · rintro (⟨q1, q2, q3⟩ | ⟨q1, q2, q3⟩)
        · exact ⟨q1, q2, (mk_R hPr hs q1 q2).mpr (Or.inl q3)⟩
        · exact ⟨q1, q2, (mk_R hPr hs q1 q2).mpr (Or.inr q3)⟩)
    (fun s g s' _ _ q => by
      unfold knR at q ⊢
      rcases adM_in (of_decide_eq_true q) with h | h
      · exact Or.inl (decide_eq_true h)
      · exact Or.inr h)
    (fun s p g _ _ => rfl) (fun _ _ _ _ _ => Iff.rfl) (fun s p g s' => rfl)
    (fun s s' ⟨fu, hs⟩ ⟨f2, hs'⟩ q => cd_abR hPr.1 hPr.2.1 hmd hs hs' q.symm)
    15 (fun _ => 0) [] (([], [], rc0), []) ⟨14, IvB_0 hPr⟩ (by rw [abR_0]; exact rk_0 hPr) (fun s' => decide_eq_false (List.not_mem_nil)) (by rw [abR_0]; exact Nat.le_refl _)
  have h2 := h.2 i j
  rw [abR_0] at h2
  have hz : ¬ mkRf (([], [], rc0) : R9) i j := fun q => by
    have := q.2.2
    dsimp only at this
    rw [h0 _ (by omega)] at this
    exact absurd this (by decide)
  have hm : ∀ m A, mks (nxF (aF 0 zs kd vx rr vv) T) (fun A a b => a < 28 ∧ b < 28 ∧ raA T zs kd vx A a b) m A i j ↔ mks (nxF (aF 0 zs kd vx rr vv) T) (raA T zs kd vx) m A i j := by
    intro m
    induction m with
    | zero => intro A; exact Iff.rfl
    | succ m ih =>
      intro A
      unfold mks
      constructor
      · rintro (q | ⟨c, hc, q⟩)
        · exact Or.inl q.2.2
        · exact Or.inr ⟨c, hc, (ih c.2).mp q⟩
      · rintro (q | ⟨c, hc, q⟩)
        · exact Or.inl ⟨hi, hj, q⟩
        · exact Or.inr ⟨c, hc, (ih c.2).mpr q⟩
  constructor
  · intro q
    rcases h2.mp ⟨hi, hj, q⟩ with y | ⟨m, y⟩
    · exact absurd y hz
    · exact ⟨m, (hm m a0B).mp y⟩
  · rintro ⟨m, y⟩
    exact (h2.mpr (Or.inr ⟨m, (hm m a0B).mpr y⟩)).2.2
