/-- what an own one showed, by the choice F -/
def shF9 (pg : Nat → Nat → Nat) (F : Nat → Nat) (b : Nat) : Nat := if pg 4 b = 0 then F b else b + 1
/-- a choice F that comes to its end e, and that the class does not refuse -/
def OkF9 (T Ac : Nat) (pg : Nat → Nat → Nat) (oo F : Nat → Nat) (e : CF9) : Prop :=
  (∀ t, t < T → ¬ e.2.2.1 t < pg 0 t) ∧
  (∀ a, e.1.testBit a = true → tkr9 pg a → F a = 0 ∨ (F a - 1 < Ac ∧ F a - 1 ≠ a ∧ 1 ≤ pg 4 (F a - 1) ∧ pg 4 (F a - 1) ≤ 3 ∧ pg 5 (F a - 1) = pg 5 a)) ∧
  (∀ a b, e.1.testBit a = true → e.1.testBit b = true → pg 4 a = 3 → pg 4 b = 3 → pg 5 a = pg 5 b → F a = F b → a = b) ∧
  (∀ a b, e.1.testBit a = true → e.1.testBit b = true → tkr9 pg a → (oo a).testBit b = true → b < a → shF9 pg F b ≠ 0 → F a ≠ 0 ∧ ¬ (tkr9 pg (shF9 pg F b - 1) ∧ F (shF9 pg F b - 1) = F a) ∧ ¬ (aft pg (F a - 1)).testBit (shF9 pg F b - 1) = true)
def muC9 (s : S8) : Nat := cn9 (fun a => s.1.testBit a) 7 + cn9 (fun a => s.1.testBit a || decide (fmS8 s a ≠ 0)) 7
theorem mu_lt {s z : S8} {a : Nat} (ha : a < 7) (h1 : ∀ b, s.1.testBit b = true → z.1.testBit b = true) (h2 : ∀ b, fmS8 s b ≠ 0 → fmS8 z b ≠ 0) (h3 : s.1.testBit a = false) (h4 : z.1.testBit a = true ∨ (fmS8 s a = 0 ∧ fmS8 z a ≠ 0)) : muC9 s < muC9 z := by
  unfold muC9
  have m1 : cn9 (fun a => s.1.testBit a) 7 ≤ cn9 (fun a => z.1.testBit a) 7 := cn9_mo 7 (fun i _ h => h1 i h)
  have hi : ∀ i, i < 7 → (s.1.testBit i || decide (fmS8 s i ≠ 0)) = true → (z.1.testBit i || decide (fmS8 z i ≠ 0)) = true := fun i _ h => by
    rw [Bool.or_eq_true] at h ⊢
    rcases h with h | h
    · exact Or.inl (h1 i h)
    · exact Or.inr (decide_eq_true (h2 i (of_decide_eq_true h)))
  have m2 : cn9 (fun a => s.1.testBit a || decide (fmS8 s a ≠ 0)) 7 ≤ cn9 (fun a => z.1.testBit a || decide (fmS8 z a ≠ 0)) 7 := cn9_mo 7 hi
  rcases h4 with h4 | ⟨h4, h5⟩
  · have : cn9 (fun a => s.1.testBit a) 7 < cn9 (fun a => z.1.testBit a) 7 := cn9_st (j := a) 7 (fun i _ h => h1 i h) ha h4 h3
    omega
  · have : cn9 (fun a => s.1.testBit a || decide (fmS8 s a ≠ 0)) 7 < cn9 (fun a => z.1.testBit a || decide (fmS8 z a ≠ 0)) 7 := cn9_st (j := a) 7 hi ha (by rw [decide_eq_true h5, Bool.or_true]) (by rw [h3, decide_eq_false (fun w => w h4)]; rfl)
    omega
section CHQ
variable {T Ac : Nat} {pg : Nat → Nat → Nat} {nm : Nat → Int32} {zs kd vx rr : Nat → Nat} {vv : Nat → Int32} {sc : Nat → Nat → Nat} {F : Nat → Nat}
theorem ci_end (hX : PX T Ac pg nm zs kd vx rr vv) {s : S8} (hI : CI9 T Ac pg nm s) {l : List Nat} {e : CF9} (r : fRun T pg nm F l (cS8 s) e) (he : ∀ t, t < T → ¬ e.2.2.1 t < pg 0 t) {a : Nat} (ha : fmS8 s a ≠ 0) : e.1.testBit a = true := by
  obtain ⟨i1, i2, i3, -⟩ := hI
  obtain ⟨-, -, -, h⟩ := i3 a ha
  rcases h with h | ⟨t, h1, h2, h3, -⟩
  · exact (fr_cg (G := F) hX l _ e i1 r (fun _ _ _ => rfl)).2 a h
  · rw [h3]; exact (fr_in hX l _ e i1 r h1 h2 (he t h1)).1
theorem mb_t (hX : PX T Ac pg nm zs kd vx rr vv) {oo : Nat → Nat} {s : S8} {t : Nat} (hI : CI9 T Ac pg nm s) (hc : ∀ a, fmS8 s a ≠ 0 → fmS8 s a = F a + 1) {l : List Nat} {e : CF9} (r : fRun T pg nm F l (cS8 s) e) (hO : OkF9 T Ac pg oo F e) (ht : t < T) (hp : (cS8 s).2.2.1 t < pg 0 t) (hk : tkr9 pg (fA9 pg (cS8 s) t)) (hw : wmS8 s t = 0) :
    mbf pg (fmS8 s) (tkS8 s) oo s.1 (fA9 pg (cS8 s) t) (F (fA9 pg (cS8 s) t)) = true := by
  obtain ⟨o1, o2, o3, o4⟩ := id hO
  obtain ⟨i1, i2, i3, i4, i5, i6, i7, i8, i9⟩ := id hI
  have hf := ci_new hX hI ht hp hw
  obtain ⟨a1, a2, a3, a4, a5, a6⟩ := px_next hX i1 ht hp rfl
  have ea : fA9 pg (cS8 s) t = pg 1 (t * 7 + (cS8 s).2.2.1 t) := rfl
  rw [← ea] at a1 a2 a3 a4 a5 a6
  have hE := (fr_in hX l _ e i1 r ht hp (o1 t ht)).1
  have mo := (fr_cg (G := F) hX l _ e i1 r (fun _ _ _ => rfl)).2
  have hPg := hX.1
  generalize fA9 pg (cS8 s) t = a at *
  have h5 := (hPg.2.2.2.2.1 a a2).2.2.2.1 (px_4 hPg hk)
  unfold mbf
  rw [if_neg, if_neg]
  · refine decide_eq_true (Classical.byContradiction fun h => ?_)
    obtain ⟨h1, h2, h3⟩ := fF_lt (p := pst pg (fmS8 s) (oo a &&& s.1) (F a)) a 0 h
    generalize fF (pst pg (fmS8 s) (oo a &&& s.1) (F a)) a 0 = k at h h1 h2 h3
    have hb : k - 1 < a := by omega
    generalize k - 1 = b at h3 hb
    unfold pst at h3
    rw [Bool.and_eq_true, Bool.and_eq_true] at h3
    obtain ⟨g1, g2, g3⟩ := h3
    have g1 : (oo a &&& s.1).testBit b = true := tb_div.mp (by simpa using g1)
    rw [Nat.testBit_and, Bool.and_eq_true] at g1
    have es : shw pg (fmS8 s) b = shF9 pg F b := by
      unfold shw shF9
      by_cases k0 : pg 4 b = 0
      · rw [if_pos k0, if_pos k0, hc b (i4 b g1.2 (Or.inl k0)), Nat.add_sub_cancel]
      · rw [if_neg k0, if_neg k0]
    rw [es] at g2 g3
    obtain ⟨f1, f2, f3⟩ := o4 a b hE (mo b g1.2) hk g1.1 hb (by simpa using g2)
    rw [Bool.or_eq_true] at g3
    rcases g3 with g3 | g3
    · exact f1 (by simpa using g3)
    · unfold beh at g3
      rw [Bool.or_eq_true] at g3
      rcases g3 with g3 | g3
      · have g3 : fmS8 s (shF9 pg F b - 1) = F a + 1 := by simpa using g3
        have g4 : fmS8 s (shF9 pg F b - 1) ≠ 0 := by rw [g3]; exact Nat.succ_ne_zero _
        have := hc _ g4
        exact f2 ⟨(i3 _ g4).2.1, by omega⟩
      · exact f3 (tb_div.mp (by simpa using g3))
  · rintro ⟨k3, h⟩
    obtain ⟨b, b1, b2, b3⟩ := i8 _ _ (tb_div.mp h)
    have b4 : fmS8 s b ≠ 0 := by rw [b1]; exact Nat.succ_ne_zero _
    have := hc b b4
    have hab := o3 b a (ci_end hX hI r o1 b4) hE b2 k3 b3 (by omega)
    rw [hab] at b4; exact b4 hf
  · rintro ⟨h0, h⟩
    obtain ⟨z1, z2, z3, z4, z5⟩ := (o2 a hE hk).resolve_left h0
    rcases h with h | h
    · exact z2 h
    · have : (wtr pg (pg 5 a)).testBit (F a - 1) = true := by
        unfold wtr
        rw [andn_b (hPg.2.2.2.2.2.2.2.1 _) (hPg.2.2.2.2.2.2.1 0), (hPg.2.2.2.2.2.2.2.2.2.2 _ (F a - 1) h5).mpr ⟨z1, by omega, z5⟩, Bool.true_and]
        cases w : (pg 9 0).testBit (F a - 1) with
        | false => rfl
        | true => have := ((hPg.2.2.2.2.2.2.2.2.2.1 0 (F a - 1) (by omega)).mp w).2; omega
      rw [tb_div.mpr this] at h
      exact absurd h (by decide)
theorem chb_t (hX : PX T Ac pg nm zs kd vx rr vv) {oo : Nat → Nat} {s : S8} {t : Nat} (hI : CI9 T Ac pg nm s) (hc : ∀ a, fmS8 s a ≠ 0 → fmS8 s a = F a + 1) {l : List Nat} {e : CF9} (r : fRun T pg nm F l (cS8 s) e) (hO : OkF9 T Ac pg oo F e) (ht : t < T) (hp : (cS8 s).2.2.1 t < pg 0 t) (hk : tkr9 pg (fA9 pg (cS8 s) t)) :
    cHb pg s.2.2.1 s.1 (wmS8 s) (F (fA9 pg (cS8 s) t)) t = true := by
  obtain ⟨o1, o2, o3, o4⟩ := id hO
  obtain ⟨i1, i2, i3, i4, i5, i6, i7, i8, i9⟩ := id hI
  obtain ⟨hE, hW⟩ := fr_in hX l _ e i1 r ht hp (o1 t ht)
  unfold cHb
  by_cases wb : wrb s.1 (F (fA9 pg (cS8 s) t)) = true
  · rw [if_pos wb]
  · rw [if_neg wb]
    have h0 : F (fA9 pg (cS8 s) t) ≠ 0 := fun q => wb (by rw [q]; unfold wrb; simp)
    obtain ⟨z1, z2, z3, z4, z5⟩ := (o2 _ hE hk).resolve_left h0
    have hnb : s.1.testBit (F (fA9 pg (cS8 s) t) - 1) = false := by
      cases w : s.1.testBit (F (fA9 pg (cS8 s) t) - 1) with
      | false => rfl
      | true => exact absurd (show wrb s.1 (F (fA9 pg (cS8 s) t)) = true by unfold wrb; rw [tb_div.mpr w]; simp) wb
    have hEb : e.1.testBit (F (fA9 pg (cS8 s) t) - 1) = true := by
      rcases hW hk with w | ⟨-, w, -⟩
      · exact absurd w h0
      · exact w
    have hpl := fr_pl hX l _ e i1 r _ hEb hnb
    have hpl' : s.2.2.1 (pg 2 (F (fA9 pg (cS8 s) t) - 1)) ≤ pg 3 (F (fA9 pg (cS8 s) t) - 1) := hpl
    rw [if_neg (by omega)]
    have hidx := fr_idx hX (v := F (fA9 pg (cS8 s) t) - 1) l (cS8 s) e i1 r ht hp (o1 t ht) hk (by omega) (fun q => by
      rcases q with q | ⟨-, q, -⟩
      · exact absurd q (Nat.succ_ne_zero _)
      · rw [Nat.add_sub_cancel] at q
        have hnb' : (cS8 s).1.testBit (F (fA9 pg (cS8 s) t) - 1) = false := hnb
        rw [hnb'] at q; exact absurd q Bool.false_ne_true)
    refine chp_t hX hI hc r o1 4 _ (hX.1.2.2.2.2.1 _ z1).1 hidx ?_
    have h4 := hX.1.1
    have hu := (hX.1.2.2.2.2.1 _ z1).1
    have := cn9_st (p := fun u => decide (l.idxOf u < l.idxOf (pg 2 (F (fA9 pg (cS8 s) t) - 1)))) (q := fun _ => true) (j := pg 2 (F (fA9 pg (cS8 s) t) - 1)) T (fun _ _ _ => rfl) hu rfl (decide_eq_false (Nat.lt_irrefl _))
    have h5 := cn9_le (p := fun _ => true) T
    omega
/-- the class does not leave a good choice out -/
theorem ch_go (hX : PX T Ac pg nm zs kd vx rr vv) {e : CF9} (hO : OkF9 T Ac pg (sc 4) F e) : ∀ k s, CI9 T Ac pg nm s → (∀ a, fmS8 s a ≠ 0 → fmS8 s a = F a + 1) → (∃ l, fRun T pg nm F l (cS8 s) e) → 15 ≤ k + muC9 s → ∃ z, z ∈ chC pg nm T Ac sc k s ∧ ∀ a, fmS8 z a ≠ 0 → fmS8 z a = F a + 1
  | 0, s, _, _, _, h => by
    have h1 := cn9_le (p := fun a => s.1.testBit a) 7
    have h2 := cn9_le (p := fun a => s.1.testBit a || decide (fmS8 s a ≠ 0)) 7
    unfold muC9 at h
    omega
  | k + 1, s, hI, hc, ⟨l, r⟩, hm => by
    obtain ⟨i1, i2, i3, i4, i5, i6, i7, i8, i9⟩ := id hI
    unfold chC
    by_cases f0 : frT pg T s = 0
    · rw [if_pos f0]
      have e0 : fF (fun t => decide (s.2.2.1 t < pg 0 t)) T 0 = 0 := by
        cases l with
        | nil =>
          refine Classical.byContradiction fun h => ?_
          obtain ⟨h1, h2, h3⟩ := fF_lt (p := fun t => decide (s.2.2.1 t < pg 0 t)) T 0 h
          have r' : cS8 s = e := r
          have := hO.1 _ (by omega : fF (fun t => decide (s.2.2.1 t < pg 0 t)) T 0 - 1 < T)
          rw [← r'] at this
          exact this (of_decide_eq_true h3)
        | cons t l =>
          obtain ⟨r1, r2, -⟩ := r
          exfalso
          refine fF_ex T 0 t (Nat.zero_le t) (by omega) ?_ f0
          unfold fre
          rw [Bool.and_eq_true]
          refine ⟨decide_eq_true r2.1, ?_⟩
          cases hb : blk s.1 s.2.2.2.2.2.2.1 t with
          | false => rfl
          | true =>
            exfalso
            unfold blk at hb
            rw [Bool.and_eq_true] at hb
            have hw : wmS8 s t ≠ 0 := by
              have := hb.1
              show s.2.2.2.2.2.2.1 t ≠ 0
              simpa using this
            obtain ⟨c1, c2, c3⟩ := i5 t r1 hw
            have hF := hc _ (by rw [← c3]; exact hw)
            have hwr := r2.2 c2
            have hq : F (fA9 pg (cS8 s) t) = wmS8 s t - 1 := by omega
            rw [hq] at hwr
            have hn : wrb s.1 (wmS8 s t - 1) = false := by
              have := hb.2
              show wrb s.1 (s.2.2.2.2.2.2.1 t - 1) = false
              simpa using this
            rcases hwr with w | ⟨-, w, -⟩
            · rw [w] at hn; exact absurd hn (by unfold wrb; simp)
            · unfold wrb at hn
              have w' : s.1.testBit (wmS8 s t - 1 - 1) = true := w
              rw [Bool.or_eq_false_iff, tb_div.mpr w'] at hn
              exact absurd hn.2 (by decide)
      rw [if_pos e0]
      exact ⟨s, List.mem_singleton.mpr rfl, hc⟩
    · rw [if_neg f0]
      obtain ⟨g1, g2, g3⟩ := frT_in f0
      have ea : frA pg T s = fA9 pg (cS8 s) (frT pg T s - 1) := rfl
      obtain ⟨a1, a2, a3, a4, a5, a6⟩ := px_next hX i1 g1 g2 rfl
      have nx : ∀ z : S8, CI9 T Ac pg nm z → (∀ a, fmS8 z a ≠ 0 → fmS8 z a = F a + 1) → muC9 s < muC9 z → ∃ y, y ∈ chC pg nm T Ac sc k z ∧ ∀ a, fmS8 y a ≠ 0 → fmS8 y a = F a + 1 := fun z hz hcz hmu => by
        obtain ⟨lz, hlz⟩ := hz.2.1 F (fun a ha => by rw [hcz a ha, Nat.add_sub_cancel])
        obtain ⟨ls, hls⟩ := i2 F (fun a ha => by rw [hc a ha, Nat.add_sub_cancel])
        have hzE := fr_uni hX lz (ls ++ l) c09 (cS8 z) e PgI_0 (fr_app ls l c09 (cS8 s) e hls r) (fun t ht w => hO.1 t ht w.1) hlz
        exact ch_go hX hO k z hz hcz hzE (by omega)
      have tkm : ∀ {fm wm tk : Nat → Nat} {q : Nat}, (∀ b, fmS8 s b ≠ 0 → fm b ≠ 0) → muC9 s < muC9 (tkE pg nm s fm wm tk (fA9 pg (cS8 s) (frT pg T s - 1)) q) := fun h => mu_lt a1 (fun b hb => by show (s.1 ||| 2 ^ _).testBit b = true; rw [Nat.testBit_or, hb]; rfl) h a5 (Or.inl b_eq)
      by_cases k03 : ¬ (pg 4 (frA pg T s) = 0 ∨ pg 4 (frA pg T s) = 3)
      · rw [if_pos k03]
        exact nx _ (ci_1 hX s _ hI g1 g2 g3 k03) hc (tkm (fun b h => h))
      · rw [if_neg k03]
        have k03 := Decidable.not_not.mp k03
        by_cases w0 : s.2.2.2.2.2.2.1 (frT pg T s - 1) = 0
        · rw [if_pos w0]
          have hcd : cond9 pg sc s (frA pg T s) (frT pg T s - 1) (F (frA pg T s)) = true := decide_eq_true ⟨mb_t hX hI hc r hO g1 g2 k03 w0, chb_t hX hI hc r hO g1 g2 k03⟩
          have hE := (fr_in hX l _ e i1 r g1 g2 (hO.1 _ g1)).1
          have hFA : F (frA pg T s) ≤ Ac := by
            rcases hO.2.1 _ hE k03 with z | ⟨z, -⟩
            · rw [ea, z]; exact Nat.zero_le _
            · rw [ea]; omega
          have hf := ci_new hX hI g1 g2 w0
          have hcz : ∀ a, fmS8 (opt9 pg nm s (frA pg T s) (frT pg T s - 1) (F (frA pg T s))) a ≠ 0 → fmS8 (opt9 pg nm s (frA pg T s) (frT pg T s - 1) (F (frA pg T s))) a = F a + 1 := fun a ha => by
            rw [opt_fm] at ha ⊢
            by_cases e9 : a = frA pg T s
            · rw [e9, updN_s]
            · rw [updN_n e9] at ha ⊢; exact hc a ha
          obtain ⟨z, z1, z2⟩ := nx _ (ci_2 hX s _ _ hI g1 g2 k03 w0 hFA hcd) hcz (mu_lt a1 (fun b hb => by
              unfold opt9; split
              · show (s.1 ||| 2 ^ _).testBit b = true
                rw [Nat.testBit_or, hb]; rfl
              · exact hb) (fun b hb => by
              rw [← ea, opt_fm]
              unfold updN; split
              · exact Nat.succ_ne_zero _
              · exact hb) a5 (Or.inr ⟨hf, by rw [← ea, opt_fm]; show updN _ (frA pg T s) _ (frA pg T s) ≠ 0; rw [updN_s]; exact Nat.succ_ne_zero _⟩))
          exact ⟨z, List.mem_flatMap.mpr ⟨F (frA pg T s), List.mem_filter.mpr ⟨List.mem_range.mpr (by omega), hcd⟩, z1⟩, z2⟩
        · rw [if_neg w0]
          exact nx _ (ci_3 hX s _ hI g1 g2 g3 k03 w0) hc (tkm (fun b h => h))
/-- the class comes to every end of a good choice -/
theorem ch_comp (hX : PX T Ac pg nm zs kd vx rr vv) {e : CF9} {l : List Nat} (hO : OkF9 T Ac pg (sc 4) F e) (r : fRun T pg nm F l c09 e) : ∃ z, z ∈ chC pg nm T Ac sc 15 s08 ∧ cS8 z = e ∧ ∀ a, fmS8 z a = if e.1.testBit a = true ∧ tkr9 pg a then F a + 1 else 0 := by
  obtain ⟨z, z1, z2⟩ := ch_go hX hO 15 s08 ci_0 (fun a h => absurd rfl h) ⟨l, r⟩ (by omega)
  obtain ⟨c1, c2⟩ := ch_sound hX z1
  obtain ⟨i1, i2, i3, i4, -⟩ := id c1
  obtain ⟨m, hm⟩ := i2 F (fun a ha => by rw [z2 a ha, Nat.add_sub_cancel])
  have he : cS8 z = e := fr_eq hX (show PI9 T Ac pg nm c09 from PgI_0) r (fun t ht w => hO.1 t ht w.1) hm (fun t ht w => c2 t ht w.1)
  refine ⟨z, z1, he, fun a => ?_⟩
  have hd : e.1 = z.1 := by rw [← he]; rfl
  rw [hd]
  by_cases q : z.1.testBit a = true ∧ tkr9 pg a
  · rw [if_pos q]; exact z2 a (i4 a q.1 q.2)
  · rw [if_neg q]
    refine Classical.byContradiction fun h => ?_
    obtain ⟨-, b2, -, b4⟩ := i3 a h
    rcases b4 with w | ⟨t, w1, w2, -⟩
    · exact q ⟨w, b2⟩
    · exact c2 t w1 w2
end CHQ
