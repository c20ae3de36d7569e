theorem blB_sz {sf : Nat → Int32} {t : Nat} {x9 : Int32} : ∀ n, szB (mpL (blB sf t x9) n) = 9 * ctB (inB sf t x9) n
  | 0 => rfl
  | n + 1 => by
    rw [mpL, szB_app, blB_sz n, ctB]
    unfold blB
    cases h : inB sf t x9 n with
    | true => rw [if_pos rfl, if_pos rfl]; show 9 * ctB (inB sf t x9) n + 9 = _; omega
    | false => rw [if_neg (by decide), if_neg (by decide)]; rfl
theorem bkB_sz {sf : Nat → Int32} {nb t : Nat} {x9 : Int32} : szB (bkB sf nb t x9) = 3 + 9 * ctB (inB sf t x9) nb := by
  unfold bkB; rw [szB, blB_sz]
theorem inB_t {sf : Nat → Int32} {t : Nat} {x9 : Int32} {k : Nat} (h : inB sf t x9 k = true) : sf (16 + k) = nI t := (of_decide_eq_true h).1
theorem inB_u {sf : Nat → Int32} {x9 y9 : Int32} {k i j : Nat} (hi : i < 4) (hj : j < 4) (h1 : inB sf i x9 k = true) (h2 : inB sf j y9 k = true) : i = j :=
  (nI_eq (by omega) (by omega)).mp ((inB_t h1).symm.trans (inB_t h2))
theorem ct_4 {sf : Nat → Int32} {x9 : Int32} : ∀ n, ctB (inB sf 0 x9) n + ctB (inB sf 1 x9) n + ctB (inB sf 2 x9) n + ctB (inB sf 3 x9) n ≤ n
  | 0 => Nat.le_refl 0
  | n + 1 => by
    have ih := ct_4 (sf := sf) (x9 := x9) n
    unfold ctB
    cases h0 : inB sf 0 x9 n <;> cases h1 : inB sf 1 x9 n <;> cases h2 : inB sf 2 x9 n <;> cases h3 : inB sf 3 x9 n <;>
      first
        | exact absurd (inB_u (by decide) (by decide) h0 h1) (by decide)
        | exact absurd (inB_u (by decide) (by decide) h0 h2) (by decide)
        | exact absurd (inB_u (by decide) (by decide) h0 h3) (by decide)
        | exact absurd (inB_u (by decide) (by decide) h1 h2) (by decide)
        | exact absurd (inB_u (by decide) (by decide) h1 h3) (by decide)
        | exact absurd (inB_u (by decide) (by decide) h2 h3) (by decide)
        | (simp; omega)
theorem inB_x {sf : Nat → Int32} {t k i j : Nat} (hi : i < 3) (hj : j < 3) (h1 : inB sf t (nI i) k = true) (h2 : inB sf t (nI j) k = true) : i = j := by
  have e1 := (of_decide_eq_true h1).2.resolve_left (nI_pos (by omega))
  have e2 := (of_decide_eq_true h2).2.resolve_left (nI_pos (by omega))
  exact (nI_eq (by omega) (by omega)).mp (e1.symm.trans e2)
theorem inB_m {sf : Nat → Int32} {t k : Nat} {x9 : Int32} (h : inB sf t x9 k = true) : inB sf t (-1) k = true := decide_eq_true ⟨(of_decide_eq_true h).1, Or.inl (by decide)⟩
theorem ct_3 {sf : Nat → Int32} {t : Nat} : ∀ n, ctB (inB sf t 0) n + ctB (inB sf t 1) n + ctB (inB sf t 2) n ≤ ctB (inB sf t (-1)) n
  | 0 => Nat.le_refl 0
  | n + 1 => by
    have ih := ct_3 (sf := sf) (t := t) n
    unfold ctB
    cases h0 : inB sf t 0 n <;> cases h1 : inB sf t 1 n <;> cases h2 : inB sf t 2 n <;> cases h3 : inB sf t (-1) n <;>
      first
        | exact absurd (inB_x (i := 0) (j := 1) (by decide) (by decide) h0 h1) (by decide)
        | exact absurd (inB_x (i := 0) (j := 2) (by decide) (by decide) h0 h2) (by decide)
        | exact absurd (inB_x (i := 1) (j := 2) (by decide) (by decide) h1 h2) (by decide)
        | exact absurd (h3.symm.trans (inB_m h0)) (by decide)
        | exact absurd (h3.symm.trans (inB_m h1)) (by decide)
        | exact absurd (h3.symm.trans (inB_m h2)) (by decide)
        | (simp; omega)
theorem enB_sz {md : Nat} {sf : Nat → Int32} {nb : Nat} (hn : nb ≤ 7) : szB (enB md sf nb) ≤ 320 := by
  unfold enB
  rw [szB_app, szB_app, show szB (hdB sf) = 68 from rfl, show szB (mpL (fun x => [((sf (12 + x) + 64).toInt64, 7)]) 3) = 21 from rfl]
  by_cases h0 : md = 0
  · rw [if_pos h0]; show 68 + (21 + 0) ≤ 320; omega
  · rw [if_neg h0]
    have e : szB (mpL (buB md sf nb) 4) = szB (buB md sf nb 0) + szB (buB md sf nb 1) + szB (buB md sf nb 2) + szB (buB md sf nb 3) := by
      rw [mpL, szB_app, mpL, szB_app, mpL, szB_app, mpL, szB_app]; show 0 + _ + _ + _ + _ = _; omega
    have c4 := ct_4 (sf := sf) (x9 := -1) nb
    rw [e]; unfold buB
    by_cases h1 : md = 1
    · rw [if_pos h1, if_pos h1, if_pos h1, if_pos h1, bkB_sz, bkB_sz, bkB_sz, bkB_sz]; omega
    · rw [if_neg h1, if_neg h1, if_neg h1, if_neg h1]
      simp only [szB_app, bkB_sz]
      have g0 := ct_3 (sf := sf) (t := 0) nb
      have g1 := ct_3 (sf := sf) (t := 1) nb
      have g2 := ct_3 (sf := sf) (t := 2) nb
      have g3 := ct_3 (sf := sf) (t := 3) nb
      omega
def cdB (md : Nat) : (Nat → Int32) → Nat → Int64 := fun sf => (wrB (enB md sf (sf 15).toNatClampNeg)).1
def cbB (md : Nat) : (Nat → Int32) → Nat := fun sf => szB (enB md sf (sf 15).toNatClampNeg)
def nvB : (Nat → Int32) → Nat → Int32 := fun sf k => sf (4 + k)
theorem StM_B (l : Launch) (dC : Nat → ClassId) (dI : Nat → Nat → Nat) (ra : Nat) (rA : Nat → Nat) (rK9 : Nat → ClassId) (T Ac md wd ld gm my : Nat) (ir mr : Int32) (zs kd vx rr : Nat → Nat) (vv : Nat → Int32) (OS : Nat → List O9) (hPr : PrR T zs kd vx rr vv) (hmd : md < 3) : StM l dC dI ra rA rK9 T Ac md wd ld gm my ir mr zs kd vx rr vv (IvB T zs) (stQ md zs kd vx rr vv) (cdB md) (cbB md) nvB OS :=
  fun fu sf hI t ht c hc mn cb sz => gen_Ref_step_B l dC dI ra rA rK9 T Ac md wd mn cb ld gm my ir mr t c sf vv zs kd vx rr fu _ hPr hmd hI ht hc rfl sz
theorem EnM_B (l : Launch) (dC : Nat → ClassId) (dI : Nat → Nat → Nat) (ra : Nat) (rA : Nat → Nat) (rK9 : Nat → ClassId) (T Ac md wd ld gm my : Nat) (ir mr : Int32) (zs kd vx rr : Nat → Nat) (vv : Nat → Int32) (OS : Nat → List O9) (hPr : PrR T zs kd vx rr vv) (hmd : md < 3) : EnM l dC dI ra rA rK9 T Ac md wd ld gm my ir mr zs kd vx rr vv (IvB T zs) (stQ md zs kd vx rr vv) (cdB md) (cbB md) nvB OS := by
  intro fu sf hI mn cb cf sz
  obtain ⟨pl, bt, bx, nb, rm, hD⟩ := hI
  obtain ⟨c1, c2, c3⟩ := IvD_pl hPr.1 hPr.2.1 hD
  have h15 : sf 15 = nI (sf 15).toNatClampNeg := by rw [c2]; exact hD.2.2.2.1
  have hn7 : (sf 15).toNatClampNeg ≤ 7 := by rw [c2]; have := hD.2.2.2.2.2.2.1; omega
  rcases (by omega : md = 0 ∨ md = 1 ∨ md = 2) with rfl | rfl | rfl
  · exact gen_Ref_encode_0 l dC dI ra rA rK9 T Ac 0 wd mn cb ld gm my ir mr _ sf cf rfl h15 hn7 (enB_sz hn7) sz
  · exact gen_Ref_encode_1 l dC dI ra rA rK9 T Ac 1 wd mn cb ld gm my ir mr _ sf cf rfl h15 hn7 (enB_sz hn7) sz
  · exact gen_Ref_encode_2 l dC dI ra rA rK9 T Ac 2 wd mn cb ld gm my ir mr _ sf cf rfl h15 hn7 (enB_sz hn7) sz
theorem EdM_B (l : Launch) (dC : Nat → ClassId) (dI : Nat → Nat → Nat) (ra : Nat) (rA : Nat → Nat) (rK9 : Nat → ClassId) (T Ac md wd ld gm my : Nat) (ir mr : Int32) (zs kd vx rr : Nat → Nat) (vv : Nat → Int32) (hmd : md < 3) : EdM l dC dI ra rA rK9 T Ac md wd ld gm my ir mr zs kd vx rr vv (IvB T zs) (stQ md zs kd vx rr vv) (cdB md) (cbB md) nvB := by
  intro fu sf hI mn cb dp nw9 oc9 wi sp9 om or9 ws OS wl hdp hO hwl sz
  obtain ⟨pl, bt, bx, nb, rm, hD⟩ := hI
  have h9 := hD.2.2.2.2.2.2.2.2.1
  exact gen_Ref_ends_bL l dC dI ra rA rK9 T Ac md wd mn cb ld gm my ir mr dp sf nw9 (nvB sf) oc9 wi sp9 om or9 ws (fun _ => 0) (fun _ => 0) OS wl hmd (fun x _ => by unfold nvB; rw [show 4 + (8 + x) = 12 + x from by omega]) hdp (fun k _ => rfl) (fun k hk => wB_sm (h9 (4 + k) (by omega) (by omega)) (by omega)) hO hwl sz
theorem from_B (l : Launch) (dC : Nat → ClassId) (dI : Nat → Nat → Nat) (ra : Nat) (rA : Nat → Nat) (rK9 : Nat → ClassId) (T Ac md wd ld gm my : Nat) (ir mr : Int32) (zs kd vx rr : Nat → Nat) (vv : Nat → Int32) (OS : Nat → List O9) (hPr : PrR T zs kd vx rr vv) (hmd : md < 3) (hwd : wd = 37) (fu : Nat) : FrM l dC dI ra rA rK9 T Ac md wd ld gm my ir mr zs kd vx rr vv (IvB T zs) (stQ md zs kd vx rr vv) (cdB md) (cbB md) nvB OS fu :=
  from_all l dC dI ra rA rK9 T Ac md wd ld gm my ir mr zs kd vx rr vv (IvB T zs) (stQ md zs kd vx rr vv) (cdB md) (cbB md) nvB OS hPr.1 (by omega) (by omega) hPr.2.1 (fun i hi => ⟨(hPr.2.2.2 i hi).1, (hPr.2.2.2 i hi).2.1⟩) (StM_B l dC dI ra rA rK9 T Ac md wd ld gm my ir mr zs kd vx rr vv OS hPr hmd) (EnM_B l dC dI ra rA rK9 T Ac md wd ld gm my ir mr zs kd vx rr vv OS hPr hmd) (EdM_B l dC dI ra rA rK9 T Ac md wd ld gm my ir mr zs kd vx rr vv hmd)
    (fun fu sf hI t ht => by obtain ⟨pl, bt, bx, nb, rm, hD⟩ := hI; obtain ⟨c1, -, -⟩ := IvD_pl hPr.1 hPr.2.1 hD; have h4 := hPr.1; obtain ⟨q1, q2⟩ := c1 t (by omega); exact ⟨by rw [q1]; exact hD.1 t (by omega), by rw [q1]; exact q2⟩)
    (fun fu sf t c s2 hI ht _ hs => by rw [hwd]; exact iv_stB hPr hI ht hs) fu
