def cS8 (s : S8) : CF9 := (s.1, s.2.1, s.2.2.1, s.2.2.2.1, s.2.2.2.2.1)
def fmS8 (s : S8) : Nat → Nat := s.2.2.2.2.2.1
def wmS8 (s : S8) : Nat → Nat := s.2.2.2.2.2.2.1
def tkS8 (s : S8) : Nat → Nat := s.2.2.2.2.2.2.2
abbrev tkr9 (pg : Nat → Nat → Nat) (a : Nat) : Prop := pg 4 a = 0 ∨ pg 4 a = 3
section CHI
variable {T Ac : Nat} {pg : Nat → Nat → Nat} {nm : Nat → Int32} {zs kd vx rr : Nat → Nat} {vv : Nat → Int32} {sc : Nat → Nat → Nat}
theorem frT_in {s : S8} (h : frT pg T s ≠ 0) : frT pg T s - 1 < T ∧ (cS8 s).2.2.1 (frT pg T s - 1) < pg 0 (frT pg T s - 1) ∧ blk s.1 (wmS8 s) (frT pg T s - 1) = false := by
  obtain ⟨h1, h2, h3⟩ := fF_lt (p := fre pg s.2.2.1 s.1 s.2.2.2.2.2.2.1) T 0 h
  have h4 : fre pg s.2.2.1 s.1 s.2.2.2.2.2.2.1 (frT pg T s - 1) = true := h3
  unfold fre at h4
  rw [Bool.and_eq_true] at h4
  have h1' : frT pg T s ≤ 0 + T := h1
  refine ⟨by omega, of_decide_eq_true h4.1, ?_⟩
  show blk s.1 s.2.2.2.2.2.2.1 (frT pg T s - 1) = false
  simpa using h4.2
/-- what the choosing keeps, its leaves keep -/
theorem ch_ind {J : S8 → Prop}
    (h1 : ∀ s t, J s → t < T → (cS8 s).2.2.1 t < pg 0 t → blk s.1 (wmS8 s) t = false → ¬ tkr9 pg (fA9 pg (cS8 s) t) → J (tkE pg nm s (fmS8 s) (wmS8 s) (tkS8 s) (fA9 pg (cS8 s) t) 0))
    (h2 : ∀ s t q, J s → t < T → (cS8 s).2.2.1 t < pg 0 t → tkr9 pg (fA9 pg (cS8 s) t) → wmS8 s t = 0 → q ≤ Ac → cond9 pg sc s (fA9 pg (cS8 s) t) t q = true → J (opt9 pg nm s (fA9 pg (cS8 s) t) t q))
    (h3 : ∀ s t, J s → t < T → (cS8 s).2.2.1 t < pg 0 t → blk s.1 (wmS8 s) t = false → tkr9 pg (fA9 pg (cS8 s) t) → wmS8 s t ≠ 0 → J (tkE pg nm s (fmS8 s) (updN (wmS8 s) t 0) (tkS8 s) (fA9 pg (cS8 s) t) (wmS8 s t - 1))) :
    ∀ k s, J s → ∀ e, e ∈ chC pg nm T Ac sc k s → J e ∧ ∀ t, t < T → ¬ (cS8 e).2.2.1 t < pg 0 t
  | 0, s, hJ, e, he => absurd he List.not_mem_nil
  | k + 1, s, hJ, e, he => by
    unfold chC at he
    by_cases f0 : frT pg T s = 0
    · rw [if_pos f0] at he
      by_cases e0 : fF (fun t => decide (s.2.2.1 t < pg 0 t)) T 0 = 0
      · rw [if_pos e0] at he
        rw [List.mem_singleton.mp he]
        exact ⟨hJ, fun t ht w => fF_ex T 0 t (Nat.zero_le t) (by omega) (decide_eq_true w) e0⟩
      · rw [if_neg e0] at he; exact absurd he List.not_mem_nil
    · rw [if_neg f0] at he
      obtain ⟨g1, g2, g3⟩ := frT_in f0
      have ea : frA pg T s = fA9 pg (cS8 s) (frT pg T s - 1) := rfl
      by_cases k03 : ¬ (pg 4 (frA pg T s) = 0 ∨ pg 4 (frA pg T s) = 3)
      · rw [if_pos k03] at he
        exact ch_ind h1 h2 h3 k _ (h1 s _ hJ g1 g2 g3 k03) e he
      · rw [if_neg k03] at he
        have k03 := Decidable.not_not.mp k03
        by_cases w0 : s.2.2.2.2.2.2.1 (frT pg T s - 1) = 0
        · rw [if_pos w0] at he
          obtain ⟨q, hq, he⟩ := List.mem_flatMap.mp he
          obtain ⟨q1, q2⟩ := List.mem_filter.mp hq
          exact ch_ind h1 h2 h3 k _ (h2 s _ q hJ g1 g2 k03 w0 (by have := List.mem_range.mp q1; omega) q2) e he
        · rw [if_neg w0] at he
          exact ch_ind h1 h2 h3 k _ (h3 s _ hJ g1 g2 g3 k03 w0) e he
/-- what holds while FROM is chosen -/
def CI9 (T Ac : Nat) (pg : Nat → Nat → Nat) (nm : Nat → Int32) (s : S8) : Prop :=
  PI9 T Ac pg nm (cS8 s) ∧ (∀ G : Nat → Nat, (∀ a, fmS8 s a ≠ 0 → G a = fmS8 s a - 1) → ∃ l, fRun T pg nm G l c09 (cS8 s)) ∧
  (∀ a, fmS8 s a ≠ 0 → a < Ac ∧ tkr9 pg a ∧ fmS8 s a ≤ Ac + 1 ∧ (s.1.testBit a = true ∨ ∃ t, t < T ∧ (cS8 s).2.2.1 t < pg 0 t ∧ a = fA9 pg (cS8 s) t ∧ wmS8 s t = fmS8 s a)) ∧
  (∀ a, s.1.testBit a = true → tkr9 pg a → fmS8 s a ≠ 0) ∧
  (∀ t, t < T → wmS8 s t ≠ 0 → (cS8 s).2.2.1 t < pg 0 t ∧ tkr9 pg (fA9 pg (cS8 s) t) ∧ wmS8 s t = fmS8 s (fA9 pg (cS8 s) t)) ∧
  (∀ a, fmS8 s a ≠ 0 → fmS8 s a = 1 ∨ (fmS8 s a - 2 < Ac ∧ fmS8 s a - 2 ≠ a ∧ 1 ≤ pg 4 (fmS8 s a - 2) ∧ pg 4 (fmS8 s a - 2) ≤ 3 ∧ pg 5 (fmS8 s a - 2) = pg 5 a)) ∧
  (∀ a, fmS8 s a ≠ 0 → pg 4 a = 3 → (tkS8 s (pg 5 a)).testBit (fmS8 s a - 1) = true) ∧
  (∀ x q, (tkS8 s x).testBit q = true → ∃ a, fmS8 s a = q + 1 ∧ pg 4 a = 3 ∧ pg 5 a = x) ∧
  (∀ a b, fmS8 s a ≠ 0 → fmS8 s a = fmS8 s b → pg 4 a = 3 → pg 4 b = 3 → pg 5 a = pg 5 b → a = b)
theorem mb_in (hPg : PgOk T Ac pg) {fm tk oo : Nat → Nat} {dn a q : Nat} (ha : a < Ac) (hk : pg 4 a < 4) (h : mbf pg fm tk oo dn a q = true) :
    (q = 0 ∨ (q - 1 < Ac ∧ q - 1 ≠ a ∧ 1 ≤ pg 4 (q - 1) ∧ pg 4 (q - 1) ≤ 3 ∧ pg 5 (q - 1) = pg 5 a)) ∧ (pg 4 a = 3 → (tk (pg 5 a)).testBit q = false) ∧ fF (pst pg fm (oo a &&& dn) q) a 0 = 0 := by
  unfold mbf at h
  by_cases c1 : q ≠ 0 ∧ (q - 1 = a ∨ wtr pg (pg 5 a) / 2 ^ (q - 1) % 2 = 0)
  · rw [if_pos c1] at h; exact absurd h Bool.false_ne_true
  · rw [if_neg c1] at h
    by_cases c2 : pg 4 a = 3 ∧ tk (pg 5 a) / 2 ^ q % 2 = 1
    · rw [if_pos c2] at h; exact absurd h Bool.false_ne_true
    · rw [if_neg c2] at h
      refine ⟨?_, fun k => ?_, of_decide_eq_true h⟩
      · by_cases q0 : q = 0
        · exact Or.inl q0
        · have w1 : q - 1 ≠ a := fun w => c1 ⟨q0, Or.inl w⟩
          have w2 : ¬ wtr pg (pg 5 a) / 2 ^ (q - 1) % 2 = 0 := fun w => c1 ⟨q0, Or.inr w⟩
          have w3 := tb_div.mp (show wtr pg (pg 5 a) / 2 ^ (q - 1) % 2 = 1 by omega)
          unfold wtr at w3
          have h5 := (hPg.2.2.2.2.1 a ha).2.2.2.1 hk
          rw [andn_b (hPg.2.2.2.2.2.2.2.1 _) (hPg.2.2.2.2.2.2.1 0), Bool.and_eq_true] at w3
          obtain ⟨v1, v2, v3⟩ := (hPg.2.2.2.2.2.2.2.2.2.2 _ (q - 1) h5).mp w3.1
          have v4 : ¬ (pg 9 0).testBit (q - 1) = true := by simpa using w3.2
          have v5 : ¬ pg 4 (q - 1) = 0 := fun z => v4 ((hPg.2.2.2.2.2.2.2.2.2.1 0 (q - 1) (by omega)).mpr ⟨v1, z⟩)
          exact Or.inr ⟨v1, w1, by omega, by omega, v3⟩
      · cases w : (tk (pg 5 a)).testBit q with
        | false => rfl
        | true => exact absurd ⟨k, tb_div.mpr w⟩ c2
theorem ci_take (hX : PX T Ac pg nm zs kd vx rr vv) {s : S8} {t q : Nat} {fm wm tk : Nat → Nat} (hI : CI9 T Ac pg nm s) (ht : t < T) (hp : (cS8 s).2.2.1 t < pg 0 t)
    (hk : tkr9 pg (fA9 pg (cS8 s) t) → wr pg s.1 q ∧ fm (fA9 pg (cS8 s) t) = q + 1 ∧ q ≤ Ac) (hk2 : ¬ tkr9 pg (fA9 pg (cS8 s) t) → q = 0 ∧ fm (fA9 pg (cS8 s) t) = 0)
    (hf : ∀ b, b ≠ fA9 pg (cS8 s) t → fm b = fmS8 s b) (hold : fmS8 s (fA9 pg (cS8 s) t) ≠ 0 → fm (fA9 pg (cS8 s) t) = fmS8 s (fA9 pg (cS8 s) t))
    (hw : ∀ u, u ≠ t → wm u = wmS8 s u) (hw0 : wm t = 0)
    (h6 : fm (fA9 pg (cS8 s) t) ≠ 0 → fm (fA9 pg (cS8 s) t) = 1 ∨ (fm (fA9 pg (cS8 s) t) - 2 < Ac ∧ fm (fA9 pg (cS8 s) t) - 2 ≠ fA9 pg (cS8 s) t ∧ 1 ≤ pg 4 (fm (fA9 pg (cS8 s) t) - 2) ∧ pg 4 (fm (fA9 pg (cS8 s) t) - 2) ≤ 3 ∧ pg 5 (fm (fA9 pg (cS8 s) t) - 2) = pg 5 (fA9 pg (cS8 s) t)))
    (h7 : ∀ a, fm a ≠ 0 → pg 4 a = 3 → (tk (pg 5 a)).testBit (fm a - 1) = true) (h8 : ∀ x q, (tk x).testBit q = true → ∃ a, fm a = q + 1 ∧ pg 4 a = 3 ∧ pg 5 a = x)
    (h9 : ∀ a b, fm a ≠ 0 → fm a = fm b → pg 4 a = 3 → pg 4 b = 3 → pg 5 a = pg 5 b → a = b) :
    CI9 T Ac pg nm (tkE pg nm s fm wm tk (fA9 pg (cS8 s) t) q) := by
  obtain ⟨i1, i2, i3, i4, i5, i6, -⟩ := hI
  obtain ⟨a1, a2, a3, a4, a5, a6⟩ := px_next hX i1 ht hp rfl
  have ea : fA9 pg (cS8 s) t = pg 1 (t * 7 + (cS8 s).2.2.1 t) := rfl
  rw [← ea] at a1 a2 a3 a4 a5 a6
  have ec : ∀ G : Nat → Nat, fQ9 pg G (fA9 pg (cS8 s) t) = q → fS9 pg nm G (cS8 s) t = cS8 (tkE pg nm s fm wm tk (fA9 pg (cS8 s) t) q) := fun G e => by
    unfold fS9; rw [e]; rfl
  have hGq : ∀ G : Nat → Nat, (∀ a, fm a ≠ 0 → G a = fm a - 1) → fQ9 pg G (fA9 pg (cS8 s) t) = q := fun G hG => by
    unfold fQ9
    by_cases k : pg 4 (fA9 pg (cS8 s) t) = 0 ∨ pg 4 (fA9 pg (cS8 s) t) = 3
    · rw [if_pos k, hG _ (by rw [(hk k).2.1]; exact Nat.succ_ne_zero q), (hk k).2.1, Nat.add_sub_cancel]
    · rw [if_neg k, (hk2 k).1]
  have hEn : ∀ G : Nat → Nat, (∀ a, fm a ≠ 0 → G a = fm a - 1) → fEn pg G (cS8 s) t := fun G hG => by
    refine ⟨hp, fun k => ?_⟩
    have := hGq G hG
    unfold fQ9 at this
    rw [if_pos k] at this
    rw [this]; exact (hk k).1
  have hfG : ∀ G : Nat → Nat, (∀ a, fm a ≠ 0 → G a = fm a - 1) → ∀ a, fmS8 s a ≠ 0 → G a = fmS8 s a - 1 := fun G hG a ha => by
    by_cases e : a = fA9 pg (cS8 s) t
    · rw [e] at ha ⊢
      rw [hG _ (by rw [hold ha]; exact ha), hold ha]
    · rw [← hf a e] at ha ⊢; exact hG a ha
  have hpl : ∀ u, u ≠ t → (cS8 (tkE pg nm s fm wm tk (fA9 pg (cS8 s) t) q)).2.2.1 u = (cS8 s).2.2.1 u := fun u hu => updN_n (by rw [a3]; exact hu)
  have hfA : ∀ u, u ≠ t → fA9 pg (cS8 (tkE pg nm s fm wm tk (fA9 pg (cS8 s) t) q)) u = fA9 pg (cS8 s) u := fun u hu => by
    show pg 1 (u * 7 + _) = _
    rw [hpl u hu]; rfl
  have hne : ∀ u, u < T → (cS8 s).2.2.1 u < pg 0 u → u ≠ t → fA9 pg (cS8 s) u ≠ fA9 pg (cS8 s) t := fun u hu hpu hut e => by
    obtain ⟨-, -, b3, -⟩ := px_next hX i1 hu hpu rfl
    exact hut (b3.symm.trans ((congrArg (pg 2) e).trans a3))
  refine ⟨?_, fun G hG => ?_, fun a ha => ?_, fun a ha hka => ?_, fun u hu hwu => ?_, fun a ha => ?_, h7, h8, h9⟩
  · obtain ⟨G, hG⟩ : ∃ G : Nat → Nat, ∀ a, fm a ≠ 0 → G a = fm a - 1 := ⟨fun a => fm a - 1, fun _ _ => rfl⟩
    rw [← ec G (hGq G hG)]
    exact fS_pi hX i1 ht (hEn G hG)
  · obtain ⟨l, hl⟩ := i2 G (hfG G hG)
    exact ⟨l ++ [t], fr_app l [t] c09 (cS8 s) _ hl ⟨ht, hEn G hG, ec G (hGq G hG)⟩⟩
  · have ha' : fm a ≠ 0 := ha
    show a < Ac ∧ tkr9 pg a ∧ fm a ≤ Ac + 1 ∧ _
    by_cases e : a = fA9 pg (cS8 s) t
    · have k : tkr9 pg (fA9 pg (cS8 s) t) := Classical.byContradiction fun z => ha' (by rw [e]; exact (hk2 z).2)
      refine ⟨by rw [e]; exact a2, by rw [e]; exact k, by rw [e, (hk k).2.1]; have := (hk k).2.2; omega, Or.inl ?_⟩
      rw [e]; exact b_eq
    · rw [hf a e] at ha' ⊢
      obtain ⟨b1, b2, b3, b4⟩ := i3 a ha'
      refine ⟨b1, b2, b3, ?_⟩
      rcases b4 with z | ⟨u, z1, z2, z3, z4⟩
      · exact Or.inl (by show (s.1 ||| 2 ^ _).testBit a = true; rw [Nat.testBit_or, z]; rfl)
      · have hut : u ≠ t := fun w => e (by rw [z3, w])
        exact Or.inr ⟨u, z1, by rw [hpl u hut]; exact z2, by rw [hfA u hut]; exact z3, by show wm u = fm a; rw [hw u hut, hf a e]; exact z4⟩
  · show fm a ≠ 0
    have ha' : (s.1 ||| 2 ^ fA9 pg (cS8 s) t).testBit a = true := ha
    by_cases e : a = fA9 pg (cS8 s) t
    · rw [e] at hka ⊢
      rw [(hk hka).2.1]; exact Nat.succ_ne_zero q
    · rw [b_ne e] at ha'
      rw [hf a e]; exact i4 a ha' hka
  · have hwu' : wm u ≠ 0 := hwu
    have hut : u ≠ t := fun w => hwu' (by rw [w]; exact hw0)
    rw [hw u hut] at hwu'
    obtain ⟨b1, b2, b3⟩ := i5 u hu hwu'
    rw [hpl u hut, hfA u hut]
    refine ⟨b1, b2, ?_⟩
    show wm u = fm (fA9 pg (cS8 s) u)
    rw [hw u hut, hf _ (hne u hu b1 hut)]; exact b3
  · show fm a = 1 ∨ (fm a - 2 < Ac ∧ fm a - 2 ≠ a ∧ 1 ≤ pg 4 (fm a - 2) ∧ pg 4 (fm a - 2) ≤ 3 ∧ pg 5 (fm a - 2) = pg 5 a)
    have ha' : fm a ≠ 0 := ha
    by_cases e : a = fA9 pg (cS8 s) t
    · rw [e] at ha' ⊢; exact h6 ha'
    · rw [hf a e] at ha' ⊢; exact i6 a ha'
end CHI
