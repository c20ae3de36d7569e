def a0B : AB := (fun _ => 0, fun _ => 0, fun _ => 0, fun _ => [])
def ocA (A : AB) : List Int32 := v11 (fun k => if k < 8 then A.2.1 k else A.2.2.1 (k - 8))
theorem v11_cg {f g : Nat → Int32} (h : ∀ k, k < 11 → f k = g k) : v11 f = v11 g := by
  unfold v11
  exact List.map_congr_left (fun k hk => h k (List.mem_range.mp hk))
theorem cutN_0 {n : Nat} : cutN n (fun _ => 0) = fun _ => 0 := by funext i; unfold cutN; split <;> rfl
theorem cutI_0 {n : Nat} : cutI n (fun _ => 0) = fun _ => 0 := by funext i; unfold cutI; split <;> rfl
theorem abR_0 {md : Nat} : abR md (fun _ => 0) = a0B := by
  unfold abR a0B
  rw [show (fun t => ((fun _ => 0 : Nat → Int32) t).toNatClampNeg) = (fun _ : Nat => 0) from rfl, cutN_0, cutI_0, cutI_0]
  refine congrArg (fun z => ((fun _ => 0, fun _ => 0, fun _ => 0, z) : AB)) ?_
  funext j
  by_cases h : md = 0
  · rw [if_pos h]
  · rw [if_neg h]; rfl
theorem oc_R {md : Nat} {sf : Nat → Int32} : v11 (nvB sf) = ocA (abR md sf) := by
  unfold ocA
  refine v11_cg (fun k hk => ?_)
  unfold nvB
  by_cases c : k < 8
  · rw [if_pos c, abR_at2 c]
  · rw [if_neg c, abR_at3 (by omega), (by omega : 12 + (k - 8) = 4 + k)]
theorem adO_V {L : List O9} {v p : List Int32} (h : (adV L v p).length ≤ 4000) : adO L v p = adV L v p := by
  unfold adO
  by_cases c : L.any (fun r => r.1 == v) = true
  · rw [if_pos c, adV_y]
    obtain ⟨r, hr, e⟩ := List.any_eq_true.mp c
    exact ⟨r, hr, by simpa using e⟩
  · have n : ¬ inV L v := fun q => c (by
      obtain ⟨r, hr, e⟩ := q
      exact List.any_eq_true.mpr ⟨r, hr, by simpa using e⟩)
    rw [if_neg c, adV_n n, if_pos]
    rw [adV_n n, List.length_append, List.length_singleton] at h; omega
theorem adM_in {M : List C5} {c d : C5} (h : d ∈ adM M c) : d ∈ M ∨ d = c := by
  unfold adM at h
  by_cases q : c ∈ M
  · rw [if_pos q] at h; exact Or.inl h
  · rw [if_neg q] at h
    by_cases q2 : M.length < 240000
    · rw [if_pos q2] at h
      rcases List.mem_append.mp h with h | h
      · exact Or.inl h
      · exact Or.inr (List.mem_singleton.mp h)
    · rw [if_neg q2] at h; exact Or.inl h
theorem rk_0 {T : Nat} {zs kd vx rr : Nat → Nat} {vv : Nat → Int32} (hPr : PrR T zs kd vx rr vv) : rkA T zs a0B < 15 := by
  have h := hPr.2.2.1
  unfold rkA a0B
  show 2 * smN (fun t => zs t - 0) T + 0 < 15
  rw [show (fun t => zs t - 0) = zs from rfl]; omega
/-- the reference's outcomes of models 0 to 2, with their runs, are the machine's -/
theorem ref_runs_B {T md : Nat} {zs kd vx rr : Nat → Nat} {vv : Nat → Int32} {rc0 : Nat → Int32} (hPr : PrR T zs kd vx rr vv) (hmd : md < 3) (hB : (pdf (nxF (aF md zs kd vx rr vv) T) ocA 15 a0B [] []).length ≤ 4000) :
    (frR (stQ md zs kd vx rr vv) (fun s9 => c5 (cdB md s9)) (mkS zs kd vx T) (fun s9 => v11 (nvB s9)) T 0 15 (fun _ => 0) [] (([], [], rc0) : R9)).2.1 = pdf (nxF (aF md zs kd vx rr vv) T) ocA 15 a0B [] [] := by
  rw [fr_mdf]
  have h1 : ∀ s, (∃ fu, IvB T zs fu s) → (nxF (stQ md zs kd vx rr vv) T s).map (fun c => (c.1, abR md c.2)) = nxF (aF md zs kd vx rr vv) T (abR md s) := fun s ⟨fu, hs⟩ => nxF_sim (fun t c ht _ => simR hPr hmd hs ht)
  have h := md_use (kn := knR (fun s9 => c5 (cdB md s9))) (pre := beR (fun s9 => c5 (cdB md s9)) (mkS zs kd vx T) 0) (nx := nxF (stQ md zs kd vx rr vv) T) (fin := fnR (fun s9 => v11 (nvB s9)) 0) (oc := fun s9 => v11 (nvB s9)) (rp := fun _ _ _ => False) (Iv := fun s => ∃ fu, IvB T zs fu s)
    (sk := fun s s' => c5 (cdB md s') = c5 (cdB md s)) (fo := fun g : R9 => g.2.1) (mk := fun _ _ _ => False) (B := 4000) (na := nxF (aF md zs kd vx rr vv) T) (oa := ocA) (ra9 := fun _ _ _ => False) (ab := abR md) (rkA := rkA T zs)
    h1 (fun s _ => oc_R) (fun _ _ _ _ => Iff.rfl)
    (fun s c ⟨fu, hs⟩ hc => by
      obtain ⟨t, k, ht, _, e, _⟩ := nxF_mem hc
      exact ⟨fu - 1, (iv_stB hPr hs ht e).2.1⟩)
    (fun s c ⟨fu, hs⟩ hc => by
      obtain ⟨t, k, ht, _, e, _⟩ := nxF_mem hc
      have q := simR (c := k) hPr hmd hs ht
      rw [e] at q
      exact rk_dec hPr ht q.symm)
    (fun s g _ => rfl) (fun s g a b _ => ⟨fun q => Or.inl q, fun q => by rcases q with q | q <;> exact q⟩)
    (fun s g s' _ _ q => by
      unfold knR at q ⊢
      rcases adM_in (of_decide_eq_true q) with h | h
      · exact Or.inl (decide_eq_true h)
      · exact Or.inr h)
    (fun s p g _ q => adO_V q) (fun _ _ _ _ _ => Iff.rfl) (fun s p g s' => rfl)
    (fun s s' ⟨fu, hs⟩ ⟨f2, hs'⟩ q => cd_abR hPr.1 hPr.2.1 hmd hs hs' q.symm)
    15 (fun _ => 0) [] (([], [], rc0) : R9) ⟨14, IvB_0 hPr⟩ (by rw [abR_0]; exact rk_0 hPr) (fun s' => decide_eq_false (List.not_mem_nil)) (by rw [abR_0]; exact hB)
  rw [abR_0] at h
  exact h.1
