section CHJ
variable {T Ac : Nat} {pg : Nat → Nat → Nat} {nm : Nat → Int32} {zs kd vx rr : Nat → Nat} {vv : Nat → Int32} {sc : Nat → Nat → Nat}
theorem tks_3 {fm tk : Nat → Nat} {a q : Nat} (h0 : fm a = 0) (hb : pg 4 a = 3 → (tk (pg 5 a)).testBit q = false)
    (i7 : ∀ a, fm a ≠ 0 → pg 4 a = 3 → (tk (pg 5 a)).testBit (fm a - 1) = true) (i8 : ∀ x q, (tk x).testBit q = true → ∃ a, fm a = q + 1 ∧ pg 4 a = 3 ∧ pg 5 a = x)
    (i9 : ∀ a b, fm a ≠ 0 → fm a = fm b → pg 4 a = 3 → pg 4 b = 3 → pg 5 a = pg 5 b → a = b) :
    (∀ b, updN fm a (q + 1) b ≠ 0 → pg 4 b = 3 → (tkS pg tk a q (pg 5 b)).testBit (updN fm a (q + 1) b - 1) = true) ∧ (∀ x p, (tkS pg tk a q x).testBit p = true → ∃ b, updN fm a (q + 1) b = p + 1 ∧ pg 4 b = 3 ∧ pg 5 b = x) ∧
    (∀ b c, updN fm a (q + 1) b ≠ 0 → updN fm a (q + 1) b = updN fm a (q + 1) c → pg 4 b = 3 → pg 4 c = 3 → pg 5 b = pg 5 c → b = c) := by
  have hm : ∀ x p, (tk x).testBit p = true → (tkS pg tk a q x).testBit p = true := fun x p h => by
    unfold tkS; split
    · by_cases e : x = pg 5 a
      · rw [e, updN_s, Nat.testBit_or, ← e, h]; rfl
      · rw [updN_n e]; exact h
    · exact h
  have hc : ∀ b c, b = a → c ≠ a → updN fm a (q + 1) b = updN fm a (q + 1) c → pg 4 b = 3 → pg 4 c = 3 → pg 5 b = pg 5 c → False := fun b c e n hq kb kc h5 => by
    rw [e, updN_s, updN_n n] at hq
    have := i7 c (by rw [← hq]; exact Nat.succ_ne_zero q) kc
    rw [← h5, e, ← hq, Nat.add_sub_cancel, hb (by rw [← e]; exact kb)] at this
    exact absurd this Bool.false_ne_true
  refine ⟨fun b hf k => ?_, fun x p h => ?_, fun b c hf hq kb kc h5 => ?_⟩
  · by_cases e : b = a
    · rw [e] at k ⊢
      rw [updN_s, Nat.add_sub_cancel]
      unfold tkS
      rw [if_pos k, updN_s]; exact b_eq
    · rw [updN_n e] at hf ⊢
      exact hm _ _ (i7 b hf k)
  · have old : (tk x).testBit p = true → ∃ b, updN fm a (q + 1) b = p + 1 ∧ pg 4 b = 3 ∧ pg 5 b = x := fun h => by
      obtain ⟨b, b1, b2, b3⟩ := i8 x p h
      exact ⟨b, by rw [updN_n (fun e => by rw [e, h0] at b1; exact absurd b1.symm (Nat.succ_ne_zero p))]; exact b1, b2, b3⟩
    unfold tkS at h
    by_cases k : pg 4 a = 3
    · rw [if_pos k] at h
      by_cases e : x = pg 5 a
      · rw [e, updN_s] at h
        by_cases ep : p = q
        · exact ⟨a, by rw [updN_s, ep], k, e.symm⟩
        · rw [b_ne ep, ← e] at h; exact old h
      · rw [updN_n e] at h; exact old h
    · rw [if_neg k] at h; exact old h
  · by_cases e : b = a
    · by_cases e2 : c = a
      · rw [e, e2]
      · exact absurd (hc b c e e2 hq kb kc h5) (fun z => z)
    · by_cases e2 : c = a
      · exact absurd (hc c b e2 e hq.symm kc kb h5.symm) (fun z => z)
      · rw [updN_n e] at hf hq
        rw [updN_n e2] at hq
        exact i9 b c hf hq kb kc h5
theorem ci_new (hX : PX T Ac pg nm zs kd vx rr vv) {s : S8} {t : Nat} (hI : CI9 T Ac pg nm s) (ht : t < T) (hp : (cS8 s).2.2.1 t < pg 0 t) (hw : wmS8 s t = 0) : fmS8 s (fA9 pg (cS8 s) t) = 0 := by
  refine Classical.byContradiction fun h => ?_
  obtain ⟨i1, i2, i3, -⟩ := hI
  obtain ⟨a1, a2, a3, a4, a5, a6⟩ := px_next hX i1 ht hp rfl
  obtain ⟨b1, b2, b3, b4⟩ := i3 _ h
  rcases b4 with z | ⟨u, z1, z2, z3, z4⟩
  · have a5' : s.1.testBit (fA9 pg (cS8 s) t) = false := a5
    rw [a5'] at z; exact absurd z Bool.false_ne_true
  · obtain ⟨-, -, c3, -⟩ := px_next hX i1 z1 z2 rfl
    have : u = t := c3.symm.trans ((congrArg (pg 2) z3.symm).trans a3)
    rw [this, hw] at z4
    exact h z4.symm
theorem px_4 (hPg : PgOk T Ac pg) {a : Nat} (h : tkr9 pg a) : pg 4 a < 4 := by rcases h with h | h <;> omega
theorem ci_1 (hX : PX T Ac pg nm zs kd vx rr vv) (s : S8) (t : Nat) (hI : CI9 T Ac pg nm s) (ht : t < T) (hp : (cS8 s).2.2.1 t < pg 0 t) (hb : blk s.1 (wmS8 s) t = false) (hk : ¬ tkr9 pg (fA9 pg (cS8 s) t)) : CI9 T Ac pg nm (tkE pg nm s (fmS8 s) (wmS8 s) (tkS8 s) (fA9 pg (cS8 s) t) 0) := by
  obtain ⟨i1, i2, i3, i4, i5, i6, i7, i8, i9⟩ := id hI
  have hw : wmS8 s t = 0 := Classical.byContradiction fun h => hk (i5 t ht h).2.1
  have hf := ci_new hX hI ht hp hw
  exact ci_take hX hI ht hp (fun k => absurd k hk) (fun _ => ⟨rfl, hf⟩) (fun _ _ => rfl) (fun _ => rfl) (fun _ _ => rfl) hw (fun h => absurd hf h) i7 i8 i9
theorem ci_3 (hX : PX T Ac pg nm zs kd vx rr vv) (s : S8) (t : Nat) (hI : CI9 T Ac pg nm s) (ht : t < T) (hp : (cS8 s).2.2.1 t < pg 0 t) (hb : blk s.1 (wmS8 s) t = false) (hk : tkr9 pg (fA9 pg (cS8 s) t)) (hw : wmS8 s t ≠ 0) : CI9 T Ac pg nm (tkE pg nm s (fmS8 s) (updN (wmS8 s) t 0) (tkS8 s) (fA9 pg (cS8 s) t) (wmS8 s t - 1)) := by
  obtain ⟨i1, i2, i3, i4, i5, i6, i7, i8, i9⟩ := id hI
  have hA := hX.1.2.1
  obtain ⟨-, -, w3⟩ := i5 t ht hw
  have hf : fmS8 s (fA9 pg (cS8 s) t) ≠ 0 := by rw [← w3]; exact hw
  obtain ⟨c1, c2, c3, -⟩ := i3 _ hf
  have hwb : wrb s.1 (wmS8 s t - 1) = true := by
    unfold blk at hb
    cases z : wrb s.1 (wmS8 s t - 1) with
    | true => rfl
    | false => rw [z, show (wmS8 s t != 0) = true from by simpa using hw] at hb; exact absurd hb (by decide)
  refine ci_take hX hI ht hp (fun k => ⟨wr_of2 (by omega) hwb ?_, by omega, by omega⟩) (fun z => absurd hk z) (fun _ _ => rfl) (fun _ => rfl) (fun u hu => updN_n hu) updN_s (fun h => i6 _ h) i7 i8 i9
  rcases i6 _ hf with z | ⟨-, -, z1, z2, -⟩
  · exact Or.inl (by omega)
  · rw [← w3] at z1 z2
    exact Or.inr ⟨by rw [show wmS8 s t - 1 - 1 = wmS8 s t - 2 by omega]; exact z1, by rw [show wmS8 s t - 1 - 1 = wmS8 s t - 2 by omega]; exact z2⟩
theorem ci_2 (hX : PX T Ac pg nm zs kd vx rr vv) (s : S8) (t q : Nat) (hI : CI9 T Ac pg nm s) (ht : t < T) (hp : (cS8 s).2.2.1 t < pg 0 t) (hk : tkr9 pg (fA9 pg (cS8 s) t)) (hw : wmS8 s t = 0) (hq : q ≤ Ac) (hc : cond9 pg sc s (fA9 pg (cS8 s) t) t q = true) : CI9 T Ac pg nm (opt9 pg nm s (fA9 pg (cS8 s) t) t q) := by
  obtain ⟨i1, i2, i3, i4, i5, i6, i7, i8, i9⟩ := id hI
  have hA := hX.1.2.1
  obtain ⟨a1, a2, a3, a4, a5, a6⟩ := px_next hX i1 ht hp rfl
  have hf := ci_new hX hI ht hp hw
  obtain ⟨m1, m2, -⟩ := mb_in hX.1 a2 (px_4 hX.1 hk) (of_decide_eq_true hc).1
  have ea : fA9 pg (cS8 s) t = pg 1 (t * 7 + (cS8 s).2.2.1 t) := rfl
  rw [← ea] at a1 a2 a3 a4 a5 a6 m1 m2
  obtain ⟨n7, n8, n9⟩ := tks_3 (q := q) hf m2 i7 i8 i9
  have n6 : updN (fmS8 s) (fA9 pg (cS8 s) t) (q + 1) (fA9 pg (cS8 s) t) = 1 ∨ (updN (fmS8 s) (fA9 pg (cS8 s) t) (q + 1) (fA9 pg (cS8 s) t) - 2 < Ac ∧ updN (fmS8 s) (fA9 pg (cS8 s) t) (q + 1) (fA9 pg (cS8 s) t) - 2 ≠ fA9 pg (cS8 s) t ∧ 1 ≤ pg 4 (updN (fmS8 s) (fA9 pg (cS8 s) t) (q + 1) (fA9 pg (cS8 s) t) - 2) ∧ pg 4 (updN (fmS8 s) (fA9 pg (cS8 s) t) (q + 1) (fA9 pg (cS8 s) t) - 2) ≤ 3 ∧ pg 5 (updN (fmS8 s) (fA9 pg (cS8 s) t) (q + 1) (fA9 pg (cS8 s) t) - 2) = pg 5 (fA9 pg (cS8 s) t)) := by
    rw [updN_s]
    rcases m1 with z | z
    · exact Or.inl (by omega)
    · exact Or.inr z
  unfold opt9
  by_cases wb : wrb s.1 q = true
  · rw [if_pos wb]
    refine ci_take hX hI ht hp (fun k => ⟨wr_of2 (by omega) wb ?_, updN_s, hq⟩) (fun z => absurd hk z) (fun b hb => updN_n hb) (fun h => absurd hf h) (fun _ _ => rfl) hw (fun _ => n6) n7 n8 n9
    rcases m1 with z | ⟨-, -, z1, z2, -⟩
    · exact Or.inl z
    · exact Or.inr ⟨z1, z2⟩
  · rw [if_neg wb]
    have hfb : ∀ b, b ≠ fA9 pg (cS8 s) t → updN (fmS8 s) (fA9 pg (cS8 s) t) (q + 1) b = fmS8 s b := fun b hb => updN_n hb
    have hne : ∀ u, u < T → (cS8 s).2.2.1 u < pg 0 u → u ≠ t → fA9 pg (cS8 s) u ≠ fA9 pg (cS8 s) t := fun u hu hpu hut e => by
      obtain ⟨-, -, b3, -⟩ := px_next hX i1 hu hpu rfl
      exact hut (b3.symm.trans ((congrArg (pg 2) e).trans a3))
    refine ⟨i1, fun G hG => i2 G (fun b hb => ?_), fun b hb => ?_, fun b hb hkb => ?_, fun u hu hwu => ?_, fun b hb => ?_, n7, n8, n9⟩
    · have hbn : b ≠ fA9 pg (cS8 s) t := fun e => hb (by rw [e]; exact hf)
      have := hG b (show updN (fmS8 s) (fA9 pg (cS8 s) t) (q + 1) b ≠ 0 by rw [hfb b hbn]; exact hb)
      rw [this]
      show updN (fmS8 s) (fA9 pg (cS8 s) t) (q + 1) b - 1 = _
      rw [hfb b hbn]
    · have hb' : updN (fmS8 s) (fA9 pg (cS8 s) t) (q + 1) b ≠ 0 := hb
      show b < Ac ∧ tkr9 pg b ∧ updN (fmS8 s) (fA9 pg (cS8 s) t) (q + 1) b ≤ Ac + 1 ∧ (s.1.testBit b = true ∨ ∃ u, u < T ∧ (cS8 s).2.2.1 u < pg 0 u ∧ b = fA9 pg (cS8 s) u ∧ updN (wmS8 s) t (q + 1) u = updN (fmS8 s) (fA9 pg (cS8 s) t) (q + 1) b)
      by_cases e : b = fA9 pg (cS8 s) t
      · rw [e, updN_s]
        exact ⟨a2, hk, by omega, Or.inr ⟨t, ht, hp, rfl, updN_s⟩⟩
      · rw [hfb b e] at hb' ⊢
        obtain ⟨c1, c2, c3, c4⟩ := i3 b hb'
        refine ⟨c1, c2, c3, ?_⟩
        rcases c4 with z | ⟨u, z1, z2, z3, z4⟩
        · exact Or.inl z
        · exact Or.inr ⟨u, z1, z2, z3, by rw [updN_n (fun w => e (by rw [z3, w]))]; exact z4⟩
    · show updN (fmS8 s) (fA9 pg (cS8 s) t) (q + 1) b ≠ 0
      by_cases e : b = fA9 pg (cS8 s) t
      · rw [e, updN_s]; exact Nat.succ_ne_zero q
      · rw [hfb b e]; exact i4 b hb hkb
    · have hwu' : updN (wmS8 s) t (q + 1) u ≠ 0 := hwu
      show (cS8 s).2.2.1 u < pg 0 u ∧ tkr9 pg (fA9 pg (cS8 s) u) ∧ updN (wmS8 s) t (q + 1) u = updN (fmS8 s) (fA9 pg (cS8 s) t) (q + 1) (fA9 pg (cS8 s) u)
      by_cases e : u = t
      · rw [e, updN_s, updN_s]; exact ⟨hp, hk, rfl⟩
      · rw [updN_n e] at hwu' ⊢
        obtain ⟨c1, c2, c3⟩ := i5 u hu hwu'
        rw [hfb _ (hne u hu c1 e)]
        exact ⟨c1, c2, c3⟩
    · show updN (fmS8 s) (fA9 pg (cS8 s) t) (q + 1) b = 1 ∨ (updN (fmS8 s) (fA9 pg (cS8 s) t) (q + 1) b - 2 < Ac ∧ updN (fmS8 s) (fA9 pg (cS8 s) t) (q + 1) b - 2 ≠ b ∧ 1 ≤ pg 4 (updN (fmS8 s) (fA9 pg (cS8 s) t) (q + 1) b - 2) ∧ pg 4 (updN (fmS8 s) (fA9 pg (cS8 s) t) (q + 1) b - 2) ≤ 3 ∧ pg 5 (updN (fmS8 s) (fA9 pg (cS8 s) t) (q + 1) b - 2) = pg 5 b)
      have hb' : updN (fmS8 s) (fA9 pg (cS8 s) t) (q + 1) b ≠ 0 := hb
      by_cases e : b = fA9 pg (cS8 s) t
      · rw [e]; exact n6
      · rw [hfb b e] at hb' ⊢; exact i6 b hb'
theorem ci_0 : CI9 T Ac pg nm s08 := by
  have z : ∀ {P : Prop} a, fmS8 s08 a ≠ 0 → P := fun a h => absurd rfl h
  refine ⟨PgI_0, fun G _ => ⟨[], rfl⟩, fun a h => z a h, fun a h => ?_, fun t _ h => absurd rfl h, fun a h => z a h, fun a h => z a h, fun x q h => ?_, fun a b h => z a h⟩
  · have h' : Nat.testBit 0 a = true := h
    rw [Nat.zero_testBit] at h'; exact absurd h' Bool.false_ne_true
  · have h' : Nat.testBit 0 q = true := h
    rw [Nat.zero_testBit] at h'; exact absurd h' Bool.false_ne_true
/-- the class's choices of FROM are sound: each leads to its end -/
theorem ch_sound (hX : PX T Ac pg nm zs kd vx rr vv) {k : Nat} {e : S8} (he : e ∈ chC pg nm T Ac sc k s08) : CI9 T Ac pg nm e ∧ ∀ t, t < T → ¬ (cS8 e).2.2.1 t < pg 0 t :=
  ch_ind (J := CI9 T Ac pg nm) (ci_1 hX) (fun s t q hI ht hp hk hw hq hc => ci_2 hX s t q hI ht hp hk hw hq hc) (ci_3 hX) k s08 ci_0 e he
end CHJ
