section FRS
variable {T Ac : Nat} {pg : Nat → Nat → Nat} {nm : Nat → Int32} {zs kd vx rr : Nat → Nat} {vv : Nat → Int32} {F : Nat → Nat}
/-- along a way: the sources, the SKIPS -/
theorem fr_so (hX : PX T Ac pg nm zs kd vx rr vv) : ∀ (l : List Nat) (c e : CF9), PI9 T Ac pg nm c → fRun T pg nm F l c e → (∀ a, c.1.testBit a = true → sA c.2.1 a = fQ9 pg F a) → PJ T pg c.1 c.2.2.1 → (∀ a, e.1.testBit a = true → sA e.2.1 a = fQ9 pg F a) ∧ PJ T pg e.1 e.2.2.1
  | [], c, e, _, r, h1, h2 => by rw [← show c = e from r]; exact ⟨h1, h2⟩
  | t :: l, c, e, hI, ⟨r1, r2, r3⟩, h1, h2 => by
    obtain ⟨a1, a2, a3, a4, a5, a6⟩ := px_next hX hI r1 r2.1 rfl
    have hI2 := fS_pi hX hI r1 r2
    refine fr_so hX l _ e hI2 r3 (fun a ha => ?_) ?_
    · have a7 : a < 7 := bit_hi hI2.1 ha
      have hb : (c.1 ||| 2 ^ fA9 pg c t).testBit a = true := ha
      show sA (srcP c.2.1 (fQ9 pg F (fA9 pg c t)) (fA9 pg c t)) a = _
      rw [(sA_P (a := fA9 pg c t) hI.2.2.2.1 hI.2.2.2.2.1 (hI.2.2.2.2.2.1 _ a1 a5) (fQ9_8 r2) a1).1 a a7]
      by_cases e : a = fA9 pg c t
      · rw [if_pos e, e]
      · rw [if_neg e]
        exact h1 a ((or_b9.mp hb).resolve_right (fun q => e q.symm))
    · refine PJ_step hX hI h2 r1 r2.1 rfl (by unfold psP; split <;> omega) ?_
      unfold psP
      split
      · next q => exact Or.inr ⟨q.1, rfl⟩
      · exact Or.inl rfl
theorem fr_so0 (hX : PX T Ac pg nm zs kd vx rr vv) {l : List Nat} {e : CF9} (r : fRun T pg nm F l c09 e) : (∀ a, e.1.testBit a = true → sA e.2.1 a = fQ9 pg F a) ∧ PJ T pg e.1 e.2.2.1 :=
  fr_so hX l c09 e (show PI9 T Ac pg nm c09 from PgI_0) r (fun a h => absurd (show Nat.testBit 0 a = true from h) (by rw [Nat.zero_testBit]; exact Bool.false_ne_true)) PJ_0
end FRS
/-- what happens at an end -/
def eH9 (pg : Nat → Nat → Nat) (c : CF9) : Nat := andn c.1 (pg 9 5)
/-- a graph that stands, with its end -/
def GD9 (T Ac md : Nat) (pg : Nat → Nat → Nat) (nm : Nat → Int32) (c : CF9) (F : Nat → Nat) (RW : Nat → List Nat) : Prop :=
  PI9 T Ac pg nm c ∧ (∃ l, fRun T pg nm F l c09 c) ∧ (∀ t, t < T → ¬ c.2.2.1 t < pg 0 t) ∧ GrO9 Ac md pg F (eH9 pg c) RW ∧ stN9 md pg F (eH9 pg c) RW ∧ (∀ a, F a ≠ 0 → c.1.testBit a = true ∧ tkr9 pg a) ∧ (∀ y, 4 ≤ y → RW y = [])
/-- the choice as the class keeps it -/
def cd9 (pg : Nat → Nat → Nat) (c : CF9) (F : Nat → Nat) (a : Nat) : Nat := if c.1.testBit a = true ∧ tkr9 pg a then F a + 1 else 0
/-- the outcome of a graph -/
def uG9 (c : CF9) (RW : Nat → List Nat) (k : Nat) : Int32 := if k < 8 then c.2.2.2.1 k else c.2.2.2.2 (lsL (RW (k - 8)))
section CLG
variable {T Ac md : Nat} {pg : Nat → Nat → Nat} {nm : Nat → Int32} {zs kd vx rr : Nat → Nat} {vv : Nat → Int32} {F : Nat → Nat} {RW : Nat → List Nat} {sc : Nat → Nat → Nat} {s : S8} {c : CF9}
theorem eH_9 (hPg : PgOk T Ac pg) (hI : PI9 T Ac pg nm c) (a : Nat) : (eH9 pg c).testBit a = true ↔ c.1.testBit a = true ∧ pg 4 a ≠ 5 := by
  have nb : ∀ b : Bool, (!b) = true ↔ ¬ b = true := fun b => by cases b <;> decide
  unfold eH9
  rw [andn_b hI.1 (hPg.2.2.2.2.2.2.1 5), Bool.and_eq_true, nb, hPg.2.2.2.2.2.2.2.2.2.1 5 a (by decide)]
  exact ⟨fun w => ⟨w.1, fun q => w.2 ⟨(hI.2.1 a w.1).1, q⟩⟩, fun w => ⟨w.1, fun q => w.2 q.2⟩⟩
theorem sc_3 {a : Nat} (ha : a < Ac) : scE pg Ac (scS pg md Ac sc) s 3 a = ownT pg a ∧ scE pg Ac (scS pg md Ac sc) s 4 a = onoT pg a ∧ scE pg Ac (scS pg md Ac sc) s 5 a = okpT pg md a :=
  ⟨show twN (ownT pg) (sc 3) Ac a = _ from twN_at Ac ha, show twN (onoT pg) (sc 4) Ac a = _ from twN_at Ac ha, show twN (okpT pg md) (sc 5) Ac a = _ from twN_at Ac ha⟩
theorem r0_9 : r0E md - 1 = if md = 3 then 3 else 2 := by unfold r0E; split <;> rfl
theorem w_x9 (hPg : PgOk T Ac pg) {H x : Nat} (hx : x < 4) (a : Nat) (h : (wRw pg H x).testBit a = true) : a < Ac ∧ H.testBit a = true ∧ (x = 3 ∨ pg 5 a = x) := by
  obtain ⟨h1, h2, h3⟩ := (wRw_9 hPg hx).mp h
  exact ⟨h2, h1, h3.imp And.left (fun q => q.2.2.2)⟩
/-- a leaf of the class is a graph -/
theorem cl_gr (hX : PX T Ac pg nm zs kd vx rr vv) (hs : s ∈ chC pg nm T Ac (scS pg md Ac sc) 15 s08) (hR : RW ∈ prW pg Ac (mbE pg s) (scE pg Ac (scS pg md Ac sc) s) (r0E md - 1) (fun _ => [])) :
    GrO9 Ac md pg (fun a => fmS8 s a - 1) (mbE pg s) RW ∧ fmS8 s = cd9 pg (cS8 s) (fun a => fmS8 s a - 1) ∧ (∀ a, fmS8 s a - 1 ≠ 0 → (cS8 s).1.testBit a = true ∧ tkr9 pg a) := by
  have hPg := hX.1
  obtain ⟨hC, hE⟩ := ch_sound hX hs
  obtain ⟨i1, i2, i3, i4, i5, i6, i7, i8, i9⟩ := hC
  obtain ⟨l, hl⟩ := i2 (fun a => fmS8 s a - 1) (fun a _ => rfl)
  obtain ⟨so, pj⟩ := fr_so0 hX hl
  have hH : ∀ a, (mbE pg s).testBit a = true ↔ (cS8 s).1.testBit a = true ∧ pg 4 a ≠ 5 := eH_9 hPg i1
  have dn : ∀ a, fmS8 s a ≠ 0 → (cS8 s).1.testBit a = true ∧ tkr9 pg a := fun a h => by
    obtain ⟨j1, j2, j3, j4⟩ := i3 a h
    refine ⟨?_, j2⟩
    rcases j4 with q | ⟨t, t1, t2, -⟩
    · exact q
    · exact absurd t2 (hE t t1)
  obtain ⟨q1, q2⟩ := (prW_mem _ _ _).mp hR
  have hA : ∀ a, (mbE pg s).testBit a = true → a < Ac := fun a h => (i1.2.1 a ((hH a).mp h).1).1
  have hS := sc_R9 (sc := scS pg md Ac sc) hA
  refine ⟨⟨fun a h => ⟨hA a h, ((hH a).mp h).2⟩, fun y hy h3 => ?_, fun m3 => ?_, fun a ha ht => ?_⟩, ?_, fun a h => dn a (by omega)⟩
  · have := q2 y (by rw [r0_9]; split <;> omega)
    exact ((plC_mem hPg hS (fun a ha => (sc_3 ha).1) (and_lt (wrR_lt9 hPg y)) (w_x9 hPg hy) _).mp this).1
  · exact q1 3 (by rw [r0_9, if_neg m3]; decide)
  · have hd := ((hH a).mp ha).1
    have f0 := i4 a hd ht
    rcases i6 a f0 with q | ⟨k1, k2, k3, k4, k5⟩
    · exact Or.inl (by show fmS8 s a - 1 = 0; omega)
    · by_cases z : fmS8 s a - 1 = 0
      · exact Or.inl z
      · refine Or.inr ?_
        have e : fmS8 s a - 1 - 1 = fmS8 s a - 2 := by omega
        show (mbE pg s).testBit (fmS8 s a - 1 - 1) = true ∧ fmS8 s a - 1 - 1 ≠ a ∧ _
        rw [e]
        refine ⟨(hH _).mpr ⟨?_, by omega⟩, k2, k3, k4, k5⟩
        have h9 := i1.2.2.2.2.2.2.2.1 a hd ht
        rw [so a hd] at h9
        unfold fQ9 at h9
        rw [if_pos ht] at h9
        rcases h9 with w | ⟨-, w, -⟩
        · exact absurd w z
        · rw [← e]; exact w
  · funext a
    unfold cd9
    by_cases w : (cS8 s).1.testBit a = true ∧ tkr9 pg a
    · rw [if_pos w]
      have := i4 a w.1 w.2
      show fmS8 s a = fmS8 s a - 1 + 1
      omega
    · rw [if_neg w]
      refine Classical.byContradiction fun q => w (dn a q)
/-- a leaf of the class that stands -/
theorem cl_gd (hX : PX T Ac pg nm zs kd vx rr vv) (hmd : md < 4) (hs : s ∈ chC pg nm T Ac (scS pg md Ac sc) 15 s08) (hR : RW ∈ prW pg Ac (mbE pg s) (scE pg Ac (scS pg md Ac sc) s) (r0E md - 1) (fun _ => [])) :
    sdL pg md Ac (mbE pg s) (scE pg Ac (scS pg md Ac sc) s) (lfW pg md Ac (mbE pg s) (scE pg Ac (scS pg md Ac sc) s) (r0E md - 1) RW (x0E pg Ac s)) = true ↔ GD9 T Ac md pg nm (cS8 s) (fun a => fmS8 s a - 1) RW := by
  have hPg := hX.1
  obtain ⟨hG, -, hn⟩ := cl_gr hX hs hR
  obtain ⟨hC, hE⟩ := ch_sound hX hs
  have hS := sc_R9 (sc := scS pg md Ac sc) (fun a h => (hG.1 a h).1)
  have h := sd_9 (md := md) (RW := RW) hPg hG hmd hS (fm := fmS8 s) (fun a => rfl) (fun a ha => (sc_3 ha).1) (fun a ha => (sc_3 ha).2.1) (fun a ha => (sc_3 ha).2.2) (f := fun _ => 0) (h := fun _ => 0)
  have h' : sdL pg md Ac (mbE pg s) (scE pg Ac (scS pg md Ac sc) s) (lfW pg md Ac (mbE pg s) (scE pg Ac (scS pg md Ac sc) s) (r0E md - 1) RW (x0E pg Ac s)) = true ↔ stN9 md pg (fun a => fmS8 s a - 1) (mbE pg s) RW := h
  rw [h']
  constructor
  · intro w
    exact ⟨hC.1, hC.2.1 _ (fun a _ => rfl), hE, hG, w, hn, fun y hy => ((prW_mem _ _ _).mp hR).1 y (by rw [r0_9]; split <;> omega)⟩
  · intro w; exact w.2.2.2.2.1
/-- every graph that stands is a leaf of the class -/
theorem cl_of (hX : PX T Ac pg nm zs kd vx rr vv) (hmd : md < 4) (h : GD9 T Ac md pg nm c F RW) : ∃ s, s ∈ chC pg nm T Ac (scS pg md Ac sc) 15 s08 ∧ RW ∈ prW pg Ac (mbE pg s) (scE pg Ac (scS pg md Ac sc) s) (r0E md - 1) (fun _ => []) ∧ cS8 s = c ∧ F = (fun a => fmS8 s a - 1) ∧ fmS8 s = cd9 pg c F := by
  have hPg := hX.1
  obtain ⟨hI, ⟨l, hl⟩, hE, hG, hst, hn, h4⟩ := h
  have hH := eH_9 hPg hI
  have hO : OkF9 T Ac pg (scS pg md Ac sc 4) F c := by
    have tH : ∀ a, c.1.testBit a = true → tkr9 pg a → (eH9 pg c).testBit a = true := fun a h1 h2 => (hH a).mpr ⟨h1, by rcases h2 with q | q <;> omega⟩
    refine ⟨hE, fun a h1 h2 => ?_, fun a b h1 h2 h3 h5 h6 h7 => ?_, fun a b h1 h2 h3 h5 h6 h7 => ?_⟩
    · rcases hG.2.2.2 a (tH a h1 h2) h2 with q | ⟨q1, q2⟩
      · exact Or.inl q
      · exact Or.inr ⟨(hG.1 _ q1).1, q2⟩
    · have ha := tH a h1 (Or.inr h3)
      have hb := tH b h2 (Or.inr h5)
      obtain ⟨-, m1⟩ := row_w hPg hG ha (by omega)
      obtain ⟨-, m2⟩ := row_w hPg hG hb (by omega)
      have r1 := add_ix hPg hG ha h3
      have r2 := add_ix hPg hG hb h5
      rw [← h6] at m2 r2
      rcases r1 with ⟨u1, u2⟩ | ⟨u, u1, u2, u3⟩
      · rcases r2 with ⟨v1, v2⟩ | ⟨v, v1, v2, v3⟩
        · exact ix_inj m1 m2 (by omega)
        · omega
      · rcases r2 with ⟨v1, v2⟩ | ⟨v, v1, v2, v3⟩
        · omega
        · have e : u = v := by omega
          subst e
          exact ix_inj m1 m2 (by omega)
    · have ha := tH a h1 h3
      have e : scS pg md Ac sc 4 a = onoT pg a := show twN (onoT pg) (sc 4) Ac a = _ from twN_at Ac (hI.2.1 a h1).1
      rw [e] at h5
      obtain ⟨-, k1, k2, -⟩ := (ono_9 hPg (hI.2.1 a h1).1).mp h5
      exact past_st hPg hG hst ha ((hH b).mpr ⟨h2, by omega⟩) h3 h5 h7
  obtain ⟨z, z1, z2, z3⟩ := ch_comp hX hO hl
  have hf : fmS8 z = cd9 pg c F := funext z3
  have hF : F = fun a => fmS8 z a - 1 := by
    funext a
    rw [hf]
    unfold cd9
    by_cases w : c.1.testBit a = true ∧ tkr9 pg a
    · rw [if_pos w, Nat.add_sub_cancel]
    · rw [if_neg w]
      refine Classical.byContradiction fun q => w (hn a q)
  refine ⟨z, z1, ?_, z2, hF, hf⟩
  have eH : eH9 pg c = mbE pg z := by rw [← z2]; rfl
  have hS := sc_R9 (s := z) (pg := pg) (sc := scS pg md Ac sc) (Ac := Ac) (fun a h => by rw [← eH] at h; exact (hG.1 a h).1)
  rw [← eH, ← hF] at hS
  rw [← eH]
  refine (prW_mem _ _ _).mpr ⟨fun y hy => ?_, fun y hy => ?_⟩
  · rw [r0_9] at hy
    by_cases m3 : md = 3
    · rw [if_pos m3] at hy; exact h4 y (by omega)
    · rw [if_neg m3] at hy
      by_cases y3 : y = 3
      · rw [y3]; exact hG.2.2.1 m3
      · exact h4 y (by omega)
  · rw [r0_9] at hy
    have hy4 : y < 4 := by split at hy <;> omega
    have hy3 : y = 3 → md = 3 := fun q => by
      by_cases m3 : md = 3
      · exact m3
      · rw [if_neg m3] at hy; omega
    exact (plC_mem hPg hS (fun a ha => (sc_3 ha).1) (and_lt (wrR_lt9 hPg y)) (w_x9 hPg hy4) _).mpr ⟨hG.2.1 y hy4 hy3, ow_st hPg hG hst hy4 hy3⟩
end CLG
