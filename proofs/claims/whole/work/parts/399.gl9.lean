section CHN
variable {T Ac : Nat} {pg : Nat → Nat → Nat} {nm : Nat → Int32} {zs kd vx rr : Nat → Nat} {vv : Nat → Int32} {sc : Nat → Nat → Nat}
theorem opt_fm {s : S8} {a t q : Nat} : fmS8 (opt9 pg nm s a t q) = updN (fmS8 s) a (q + 1) := by
  unfold opt9; split <;> rfl
theorem ch_keep (hX : PX T Ac pg nm zs kd vx rr vv) {k : Nat} {s e : S8} (hI : CI9 T Ac pg nm s) (he : e ∈ chC pg nm T Ac sc k s) {a : Nat} (ha : fmS8 s a ≠ 0) : fmS8 e a = fmS8 s a := by
  refine (ch_ind (pg := pg) (nm := nm) (T := T) (Ac := Ac) (sc := sc) (J := fun z => CI9 T Ac pg nm z ∧ fmS8 z a = fmS8 s a) (fun z t h ht hp hb hk => ⟨ci_1 hX z t h.1 ht hp hb hk, h.2⟩) (fun z t q h ht hp hk hw hq hc => ⟨ci_2 hX z t q h.1 ht hp hk hw hq hc, ?_⟩) (fun z t h ht hp hb hk hw => ⟨ci_3 hX z t h.1 ht hp hb hk hw, h.2⟩) k s ⟨hI, rfl⟩ e he).1.2
  rw [opt_fm]
  have hf := ci_new hX h.1 ht hp hw
  rw [updN_n (fun w => ha (by rw [← h.2, w]; exact hf))]
  exact h.2
/-- no choice comes twice -/
theorem ch_nd (hX : PX T Ac pg nm zs kd vx rr vv) : ∀ k s, CI9 T Ac pg nm s → ((chC pg nm T Ac sc k s).map fmS8).Nodup
  | 0, s, hI => List.nodup_nil
  | k + 1, s, hI => by
    unfold chC
    by_cases f0 : frT pg T s = 0
    · rw [if_pos f0]; split
      · exact List.nodup_cons.mpr ⟨List.not_mem_nil, List.nodup_nil⟩
      · exact List.nodup_nil
    · rw [if_neg f0]
      obtain ⟨g1, g2, g3⟩ := frT_in f0
      by_cases k03 : ¬ (pg 4 (frA pg T s) = 0 ∨ pg 4 (frA pg T s) = 3)
      · rw [if_pos k03]
        exact ch_nd hX k _ (ci_1 hX s _ hI g1 g2 g3 k03)
      · rw [if_neg k03]
        have k03 := Decidable.not_not.mp k03
        by_cases w0 : s.2.2.2.2.2.2.1 (frT pg T s - 1) = 0
        · rw [if_pos w0, List.map_flatMap]
          have ok : ∀ q, q ∈ (List.range (Ac + 1)).filter (fun q => cond9 pg sc s (frA pg T s) (frT pg T s - 1) q) → CI9 T Ac pg nm (opt9 pg nm s (frA pg T s) (frT pg T s - 1) q) := fun q hq => by
            obtain ⟨q1, q2⟩ := List.mem_filter.mp hq
            exact ci_2 hX s _ q hI g1 g2 k03 w0 (by have := List.mem_range.mp q1; omega) q2
          have at9 : ∀ q, q ∈ (List.range (Ac + 1)).filter (fun q => cond9 pg sc s (frA pg T s) (frT pg T s - 1) q) → ∀ f, f ∈ (chC pg nm T Ac sc k (opt9 pg nm s (frA pg T s) (frT pg T s - 1) q)).map fmS8 → f (frA pg T s) = q + 1 := fun q hq f hf => by
            obtain ⟨e, he, rfl⟩ := List.mem_map.mp hf
            rw [ch_keep hX (ok q hq) he (by rw [opt_fm, updN_s]; exact Nat.succ_ne_zero q), opt_fm, updN_s]
          refine nd_flat _ (List.Nodup.sublist List.filter_sublist List.nodup_range) (fun q hq => ch_nd hX k _ (ok q hq)) (fun p q f hp hq h1 h2 => ?_)
          have := (at9 p hp f h1).symm.trans (at9 q hq f h2)
          omega
        · rw [if_neg w0]
          exact ch_nd hX k _ (ci_3 hX s _ hI g1 g2 g3 k03 w0)
end CHN
/-- how many below n keep p -/
def cn9 (p : Nat → Bool) : Nat → Nat
  | 0 => 0
  | n + 1 => cn9 p n + (if p n = true then 1 else 0)
theorem cn9_le {p : Nat → Bool} : ∀ n, cn9 p n ≤ n
  | 0 => Nat.le_refl 0
  | n + 1 => by have := cn9_le (p := p) n; unfold cn9; split <;> omega
theorem cn9_mo {p q : Nat → Bool} : ∀ n, (∀ i, i < n → p i = true → q i = true) → cn9 p n ≤ cn9 q n
  | 0, _ => Nat.le_refl 0
  | n + 1, h => by
    have := cn9_mo n (fun i hi => h i (by omega))
    unfold cn9
    by_cases c : p n = true
    · rw [if_pos c, if_pos (h n (Nat.lt_succ_self n) c)]; omega
    · rw [if_neg c]; omega
theorem cn9_st {p q : Nat → Bool} {j : Nat} : ∀ n, (∀ i, i < n → p i = true → q i = true) → j < n → q j = true → p j = false → cn9 p n < cn9 q n
  | 0, _, hj, _, _ => absurd hj (Nat.not_lt_zero j)
  | n + 1, h, hj, h1, h2 => by
    unfold cn9
    by_cases e : j = n
    · have := cn9_mo n (fun i hi => h i (by omega))
      rw [← e, if_pos h1, if_neg (by rw [h2]; exact Bool.false_ne_true)]
      rw [← e] at this
      omega
    · have := cn9_st n (fun i hi => h i (by omega)) (by omega) h1 h2
      by_cases c : p n = true
      · rw [if_pos c, if_pos (h n (Nat.lt_succ_self n) c)]; omega
      · rw [if_neg c]; omega
section CHP
variable {T Ac : Nat} {pg : Nat → Nat → Nat} {nm : Nat → Int32} {zs kd vx rr : Nat → Nat} {vv : Nat → Int32} {sc : Nat → Nat → Nat} {F : Nat → Nat}
/-- what is not yet done stands at its place or before it -/
theorem fr_pl (hX : PX T Ac pg nm zs kd vx rr vv) : ∀ (l : List Nat) (c e : CF9), PI9 T Ac pg nm c → fRun T pg nm F l c e → ∀ b, e.1.testBit b = true → c.1.testBit b = false → c.2.2.1 (pg 2 b) ≤ pg 3 b
  | [], c, e, _, r, b, h1, h2 => by rw [← show c = e from r, h2] at h1; exact absurd h1 Bool.false_ne_true
  | t :: l, c, e, hI, ⟨r1, r2, r3⟩, b, h1, h2 => by
    obtain ⟨a1, a2, a3, a4, a5, a6⟩ := px_next hX hI r1 r2.1 rfl
    have ea : fA9 pg c t = pg 1 (t * 7 + c.2.2.1 t) := rfl
    rw [← ea] at a1 a2 a3 a4 a5 a6
    by_cases e9 : b = fA9 pg c t
    · rw [e9, a3, a4]; exact Nat.le_refl _
    · have ih := fr_pl hX l _ e (fS_pi hX hI r1 r2) r3 b h1 (by show (c.1 ||| 2 ^ fA9 pg c t).testBit b = false; rw [b_ne e9]; exact h2)
      have ih' : updN c.2.2.1 (pg 2 (fA9 pg c t)) _ (pg 2 b) ≤ pg 3 b := ih
      by_cases w : pg 2 b = pg 2 (fA9 pg c t)
      · rw [w, updN_s] at ih'; rw [w]; omega
      · rw [updN_n w] at ih'; exact ih'
/-- who waits acts later than the one it waits for -/
theorem fr_idx (hX : PX T Ac pg nm zs kd vx rr vv) {u v : Nat} : ∀ (l : List Nat) (c e : CF9), PI9 T Ac pg nm c → fRun T pg nm F l c e → u < T → c.2.2.1 u < pg 0 u → ¬ e.2.2.1 u < pg 0 u → tkr9 pg (fA9 pg c u) → F (fA9 pg c u) = v + 1 → ¬ wr pg c.1 (v + 1) → l.idxOf (pg 2 v) < l.idxOf u
  | [], c, e, _, r, _, h1, h2, _, _, _ => by rw [← show c = e from r] at h2; exact absurd h1 h2
  | t :: l, c, e, hI, ⟨r1, r2, r3⟩, hu, h1, h2, hk, hF, hn => by
    by_cases e1 : t = u
    · rw [e1] at r2
      have := r2.2 hk
      rw [hF] at this; exact absurd this hn
    · rw [List.idxOf_cons, List.idxOf_cons, show (t == u) = false from by simpa using e1]
      by_cases e2 : t = pg 2 v
      · rw [show (t == pg 2 v) = true from by simpa using e2]
        show 0 < l.idxOf u + 1
        omega
      · rw [show (t == pg 2 v) = false from by simpa using e2]
        obtain ⟨a1, a2, a3, a4, a5, a6⟩ := px_next hX hI r1 r2.1 rfl
        have ea : fA9 pg c t = pg 1 (t * 7 + c.2.2.1 t) := rfl
        rw [← ea] at a1 a2 a3 a4 a5 a6
        have ep : (fS9 pg nm F c t).2.2.1 u = c.2.2.1 u := updN_n (by rw [a3]; exact fun q => e1 q.symm)
        have eA : fA9 pg (fS9 pg nm F c t) u = fA9 pg c u := by unfold fA9; rw [ep]
        have := fr_idx hX l _ e (fS_pi hX hI r1 r2) r3 hu (by rw [ep]; exact h1) h2 (by rw [eA]; exact hk) (by rw [eA]; exact hF) (fun w => hn ?_)
        · show l.idxOf (pg 2 v) + 1 < l.idxOf u + 1
          omega
        · rcases w with w | ⟨w1, w2, w3⟩
          · exact Or.inl w
          · refine Or.inr ⟨w1, ?_, w3⟩
            rw [Nat.add_sub_cancel] at w2 ⊢
            have w2' : (c.1 ||| 2 ^ fA9 pg c t).testBit v = true := w2
            rw [b_ne (fun z => e2 (by rw [z, a3]))] at w2'
            exact w2'
theorem fr_in (hX : PX T Ac pg nm zs kd vx rr vv) {u : Nat} : ∀ (l : List Nat) (c e : CF9), PI9 T Ac pg nm c → fRun T pg nm F l c e → u < T → c.2.2.1 u < pg 0 u → ¬ e.2.2.1 u < pg 0 u → e.1.testBit (fA9 pg c u) = true ∧ (tkr9 pg (fA9 pg c u) → wr pg e.1 (F (fA9 pg c u)))
  | [], c, e, _, r, _, h1, h2 => by rw [← show c = e from r] at h2; exact absurd h1 h2
  | t :: l, c, e, hI, ⟨r1, r2, r3⟩, hu, h1, h2 => by
    obtain ⟨a1, a2, a3, a4, a5, a6⟩ := px_next hX hI r1 r2.1 rfl
    have ea : fA9 pg c t = pg 1 (t * 7 + c.2.2.1 t) := rfl
    rw [← ea] at a1 a2 a3 a4 a5 a6
    have mo := (fr_cg (G := F) hX l _ e (fS_pi hX hI r1 r2) r3 (fun _ _ _ => rfl)).2
    by_cases e1 : u = t
    · rw [e1]
      refine ⟨mo _ b_eq, fun k => ?_⟩
      rcases r2.2 k with w | ⟨w1, w2, w3⟩
      · exact Or.inl w
      · exact Or.inr ⟨w1, mo _ (by show (c.1 ||| 2 ^ _).testBit _ = true; rw [Nat.testBit_or, w2]; rfl), w3⟩
    · have ep : (fS9 pg nm F c t).2.2.1 u = c.2.2.1 u := updN_n (by rw [a3]; exact e1)
      have eA : fA9 pg (fS9 pg nm F c t) u = fA9 pg c u := by unfold fA9; rw [ep]
      have := fr_in hX l _ e (fS_pi hX hI r1 r2) r3 hu (by rw [ep]; exact h1) h2
      rw [eA] at this
      exact this
/-- the chain of waiting threads ends at one that can act -/
theorem chp_t (hX : PX T Ac pg nm zs kd vx rr vv) {s : S8} (hI : CI9 T Ac pg nm s) (hc : ∀ a, fmS8 s a ≠ 0 → fmS8 s a = F a + 1) {l : List Nat} {e : CF9} (r : fRun T pg nm F l (cS8 s) e) (he : ∀ t, t < T → ¬ e.2.2.1 t < pg 0 t) {w9 : Nat} :
    ∀ n t, t < T → l.idxOf t < l.idxOf w9 → cn9 (fun u => decide (l.idxOf u < l.idxOf t)) T < n → cHp pg s.1 (wmS8 s) w9 n t = true
  | 0, t, _, _, h => absurd h (Nat.not_lt_zero _)
  | n + 1, t, ht, h1, h2 => by
    obtain ⟨i1, i2, i3, i4, i5, i6, -⟩ := id hI
    unfold cHp
    rw [if_neg (fun q => by rw [q] at h1; exact absurd h1 (Nat.lt_irrefl _))]
    cases hb : blk s.1 (wmS8 s) t with
    | false => rw [if_pos rfl]
    | true =>
      rw [if_neg (by decide)]
      unfold blk at hb
      rw [Bool.and_eq_true] at hb
      have hw : wmS8 s t ≠ 0 := by simpa using hb.1
      have hnw : wrb s.1 (wmS8 s t - 1) = false := by simpa using hb.2
      obtain ⟨c1, c2, c3⟩ := i5 t ht hw
      have hf : fmS8 s (fA9 pg (cS8 s) t) ≠ 0 := by rw [← c3]; exact hw
      have hF := hc _ hf
      rw [← c3] at hF
      have h0 : wmS8 s t - 1 ≠ 0 := fun q => by rw [q] at hnw; exact absurd hnw (by unfold wrb; simp)
      have hwr : ¬ wr pg s.1 (wmS8 s t - 1 - 1 + 1) := fun q => by
        rw [(by omega : wmS8 s t - 1 - 1 + 1 = wmS8 s t - 1)] at q
        rcases q with q | ⟨-, q, -⟩
        · exact h0 q
        · unfold wrb at hnw
          rw [Bool.or_eq_false_iff, tb_div.mpr q] at hnw
          exact absurd hnw.2 (by decide)
      have hidx := fr_idx hX (v := wmS8 s t - 1 - 1) l (cS8 s) e i1 r ht c1 (he t ht) c2 (by omega) hwr
      have hA : wmS8 s t - 1 - 1 < Ac := by
        rcases i6 _ hf with z | ⟨z, -⟩
        · rw [← c3] at z; omega
        · rw [← c3] at z; omega
      refine chp_t hX hI hc r he n _ (hX.1.2.2.2.2.1 _ hA).1 (by omega) ?_
      have : cn9 (fun u => decide (l.idxOf u < l.idxOf (pg 2 (wmS8 s t - 1 - 1)))) T < cn9 (fun u => decide (l.idxOf u < l.idxOf t)) T :=
        cn9_st (j := pg 2 (wmS8 s t - 1 - 1)) T (fun i _ hi => decide_eq_true (by have := of_decide_eq_true hi; omega)) (hX.1.2.2.2.2.1 _ hA).1 (decide_eq_true hidx) (decide_eq_false (Nat.lt_irrefl _))
      omega
end CHP
