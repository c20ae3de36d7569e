theorem StM_K (l : Launch) (dC : Nat → ClassId) (dI : Nat → Nat → Nat) (ra : Nat) (rA : Nat → Nat) (rK9 : Nat → ClassId) (T Ac md wd ld gm my : Nat) (ir mr : Int32) (zs kd vx rr : Nat → Nat) (vv : Nat → Int32) (OS : Nat → List O9) (hPr : PrR T zs kd vx rr vv) (hmd : md = 3) : StM l dC dI ra rA rK9 T Ac md wd ld gm my ir mr zs kd vx rr vv (IvK T zs) (stK zs kd vx rr vv) (cd3 T) (cb3 T) nv3 OS :=
  fun fu sf hI t ht c hc mn cb sz => gen_Ref_step_K l dC dI ra rA rK9 T Ac md wd mn cb ld gm my ir mr t c sf vv zs kd vx rr fu _ hPr hmd hI ht hc rfl sz
theorem EnM_K (l : Launch) (dC : Nat → ClassId) (dI : Nat → Nat → Nat) (ra : Nat) (rA : Nat → Nat) (rK9 : Nat → ClassId) (T Ac md wd ld gm my : Nat) (ir mr : Int32) (zs kd vx rr : Nat → Nat) (vv : Nat → Int32) (OS : Nat → List O9) (hPr : PrR T zs kd vx rr vv) (hmd : md = 3) : EnM l dC dI ra rA rK9 T Ac md wd ld gm my ir mr zs kd vx rr vv (IvK T zs) (stK zs kd vx rr vv) (cd3 T) (cb3 T) nv3 OS := by
  intro fu sf hI mn cb cf sz
  obtain ⟨pl, zz, ro0, ad0, wn, rm, hK9, hfu⟩ := hI
  obtain ⟨c1, c2, c3, c4, c5, c6⟩ := KD_rd hPr.1 hPr.2.1 hK9
  have hz8 := KD_z8 hK9
  have h4 := hPr.1
  have hsum : zzF sf 0 + zzF sf 1 + zzF sf 2 + zzF sf 3 ≤ 11 := by rw [c3 0 (by decide), c3 1 (by decide), c3 2 (by decide), c3 3 (by decide), hK9.2.2.2.2.2.2.2.2.1]; exact (hz8 0 (by decide)).2.2
  exact gen_Ref_encode_3 l dC dI ra rA rK9 T Ac md wd mn cb ld gm my ir mr sf cf (zzF sf) (roF sf) hmd h4 (fun x hx => by rw [c3 x hx]; exact ⟨(hK9.2.2.2.2.2.2.2.1 x hx).1, (hz8 x hx).2.1, by have := hz8 x hx; omega⟩) (fun x hx q hq => by rw [c3 x hx] at hq; obtain ⟨-, b2, b3, -⟩ := c4 x hx q hq; have := hz8 x hx; exact ⟨b2, by omega⟩) (fun x hx q hq y hy => by rw [c3 x hx] at hq; exact c5 _ (c4 x hx q hq).2.2.1 y hy) (fun t ht y hy => c6 t (by omega) y hy) (en3_sz h4 hsum (fun x hx => by rw [c3 x hx]; exact (hz8 x hx).2.1)) sz
theorem EdM_K (l : Launch) (dC : Nat → ClassId) (dI : Nat → Nat → Nat) (ra : Nat) (rA : Nat → Nat) (rK9 : Nat → ClassId) (T Ac md wd ld gm my : Nat) (ir mr : Int32) (zs kd vx rr : Nat → Nat) (vv : Nat → Int32) (hPr : PrR T zs kd vx rr vv) (hmd : md = 3) : EdM l dC dI ra rA rK9 T Ac md wd ld gm my ir mr zs kd vx rr vv (IvK T zs) (stK zs kd vx rr vv) (cd3 T) (cb3 T) nv3 := by
  intro fu sf hI mn cb dp nw9 oc9 wi sp9 om or9 ws OS wl hdp hO hwl sz
  obtain ⟨pl, zz, ro0, ad0, wn, rm, hK9, hfu⟩ := hI
  obtain ⟨c1, c2, c3, c4, c5, c6⟩ := KD_rd hPr.1 hPr.2.1 hK9
  have hz8 := KD_z8 hK9
  have hla : ∀ x, x < 3 → laK sf x < wn ∧ sf (41 + 8 * x + zzF sf x - 1) = nI (laK sf x) := fun x hx => by
    have h8 := hz8 x (by omega)
    unfold laK
    rw [c3 x (by omega)]
    obtain ⟨-, b2, b3, -⟩ := c4 x (by omega) (zz x - 1) (by omega)
    exact ⟨b3, by rw [show 41 + 8 * x + zz x - 1 = 41 + 8 * x + (zz x - 1) from by omega]; exact b2⟩
  refine gen_Ref_ends_3L l dC dI ra rA rK9 T Ac md wd mn cb ld gm my ir mr dp sf nw9 (nv3 sf) oc9 wi sp9 om or9 ws (zzF sf) (laK sf) OS wl hmd (fun x hx => ⟨by rw [c3 x (by omega)]; exact (hK9.2.2.2.2.2.2.2.1 x (by omega)).1, by rw [c3 x (by omega)]; exact (hz8 x (by omega)).2.1, by rw [c3 x (by omega)]; have := hz8 x (by omega); omega, (hla x hx).2, by have := (hla x hx).1; have := hz8 x (by omega); omega⟩) (fun x hx => by unfold nv3; rw [if_neg (by omega), Nat.add_sub_cancel_left]) hdp (fun k hk => by unfold nv3; rw [if_pos hk]) (fun k hk => ?_) hO hwl sz
  unfold nv3
  split
  · exact wB_sm (hK9.2.2.2.2.2.2.2.2.2.2.2.2.2.1 _ (by omega) (by omega)) (by omega)
  · exact wB_sm (hK9.2.2.2.2.2.2.2.2.2.2.2.2.2.2 _ (hla (k - 8) (by omega)).1) (by omega)
theorem from_K (l : Launch) (dC : Nat → ClassId) (dI : Nat → Nat → Nat) (ra : Nat) (rA : Nat → Nat) (rK9 : Nat → ClassId) (T Ac md wd ld gm my : Nat) (ir mr : Int32) (zs kd vx rr : Nat → Nat) (vv : Nat → Int32) (OS : Nat → List O9) (hPr : PrR T zs kd vx rr vv) (hmd : md = 3) (hwd : wd = 155) (fu : Nat) : FrM l dC dI ra rA rK9 T Ac md wd ld gm my ir mr zs kd vx rr vv (IvK T zs) (stK zs kd vx rr vv) (cd3 T) (cb3 T) nv3 OS fu :=
  from_all l dC dI ra rA rK9 T Ac md wd ld gm my ir mr zs kd vx rr vv (IvK T zs) (stK zs kd vx rr vv) (cd3 T) (cb3 T) nv3 OS hPr.1 (by omega) (by omega) hPr.2.1 (fun i hi => ⟨(hPr.2.2.2 i hi).1, (hPr.2.2.2 i hi).2.1⟩) (StM_K l dC dI ra rA rK9 T Ac md wd ld gm my ir mr zs kd vx rr vv OS hPr hmd) (EnM_K l dC dI ra rA rK9 T Ac md wd ld gm my ir mr zs kd vx rr vv OS hPr hmd) (EdM_K l dC dI ra rA rK9 T Ac md wd ld gm my ir mr zs kd vx rr vv hPr hmd)
    (fun fu sf hI t ht => by obtain ⟨pl, zz, ro0, ad0, wn, rm, hK9, hfu⟩ := hI; obtain ⟨c1, -⟩ := KD_rd hPr.1 hPr.2.1 hK9; have h4 := hPr.1; obtain ⟨q1, q2⟩ := c1 t (by omega); exact ⟨by rw [q1]; exact hK9.1 t (by omega), by rw [q1]; exact q2⟩)
    (fun fu sf t c s2 hI ht _ hs => by obtain ⟨q1, q2⟩ := iv_stK hPr hI ht hs; exact ⟨q1, q2, fun k h1 h2 => absurd h1 (by omega)⟩) fu
/-- the start of models 0 to 2 -/
theorem IvB_0 {T : Nat} {zs kd vx rr : Nat → Nat} {vv : Nat → Int32} (hPr : PrR T zs kd vx rr vv) : IvB T zs 14 (fun _ => 0) := by
  have h3 := hPr.2.2.1
  exact ⟨fun _ => 0, fun _ => 0, fun _ => 0, 0, smN (fun t => zs t - 0) T, fun _ _ => rfl, fun _ _ => Nat.zero_le _, fun _ _ _ => rfl, rfl, fun k hk => absurd hk (Nat.not_lt_zero k), rfl, by show smN zs T + 0 ≤ 7; omega, by show 2 * smN zs T + 0 ≤ 14; omega, fun k _ _ => wB_0, fun k hk => absurd hk (Nat.not_lt_zero k)⟩
theorem IvK_0 {T : Nat} {zs kd vx rr : Nat → Nat} {vv : Nat → Int32} (hPr : PrR T zs kd vx rr vv) : IvK T zs 14 bg3 := by
  have h3 := hPr.2.2.1
  refine ⟨fun _ => 0, fun _ => 1, fun x _ => x, fun _ => 0, 4, smN (fun t => zs t - 0) T, ⟨by decide +kernel, fun _ _ => Nat.zero_le _, fun _ _ _ => rfl, by decide +kernel, rfl, by show smN zs T + 4 ≤ 11; omega, by show smN zs T ≤ 7; omega, by decide +kernel, rfl, by decide +kernel, fun w hw y hy => ⟨0, Nat.one_pos, ?_⟩, fun t ht y hy => ⟨0, Nat.one_pos, ?_⟩, by decide +kernel, fun k h1 h2 => ?_, fun w hw => ?_⟩, by show smN zs T ≤ 14; omega⟩
  · exact (by decide +kernel : ∀ w, w < 4 → ∀ y, y < 4 → bg3 (41 + 8 * y + 0) = bg3 (95 + 4 * w + y)) w hw y hy
  · exact (by decide +kernel : ∀ t, t < 4 → ∀ y, y < 4 → bg3 (41 + 8 * y + 0) = bg3 (139 + 4 * t + y)) t ht y hy
  · rw [(by decide +kernel : ∀ k, k < 12 → 4 ≤ k → bg3 k = 0) k h2 h1]; exact wB_0
  · rw [(by decide +kernel : ∀ w, w < 4 → bg3 (73 + w) = 0) w hw]; exact wB_0
