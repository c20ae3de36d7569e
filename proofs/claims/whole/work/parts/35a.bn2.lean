/-- whether a place of a thread is done -/
def dnP (pg : Nat → Nat → Nat) (dn t p : Nat) : Prop := p < pg 0 t ∧ dn.testBit (pg 1 (t * 7 + p)) = true
/-- what SKIPS passed over -/
def PJ (T : Nat) (pg : Nat → Nat → Nat) (dn : Nat) (pl : Nat → Nat) : Prop :=
  (∀ b, dn.testBit b = true → pg 4 b = 5 → pg 3 b + 1 < pl (pg 2 b) → ¬ dnP pg dn (pg 2 b) (pg 3 b + 1) → pg 3 b + 1 + pg 5 b ≤ pl (pg 2 b) ∧ ∀ p, pg 3 b < p → p ≤ pg 3 b + pg 5 b → ¬ dnP pg dn (pg 2 b) p) ∧
  (∀ t p, t < T → p < pl t → p < pg 0 t → ¬ dnP pg dn t p → ∃ b, dn.testBit b = true ∧ pg 4 b = 5 ∧ pg 2 b = t ∧ pg 3 b < p ∧ p ≤ pg 3 b + pg 5 b ∧ ¬ dnP pg dn t (pg 3 b + 1))
section PJS
variable {T Ac : Nat} {pg : Nat → Nat → Nat} {nm : Nat → Int32} {zs kd vx rr : Nat → Nat} {vv : Nat → Int32} {dn : Nat} {so : Int64} {pl : Nat → Nat} {rg cv : Nat → Int32}
theorem PJ_0 : PJ T pg 0 (fun _ => 0) := by
  refine ⟨fun b h => ?_, fun t p _ h => absurd h (Nat.not_lt_zero p)⟩
  rw [Nat.zero_testBit] at h; exact absurd h Bool.false_ne_true
theorem PJ_step (hX : PX T Ac pg nm zs kd vx rr vv) (hI : PgI T Ac pg nm dn so pl rg cv) (hJ : PJ T pg dn pl) {t a ps : Nat} (ht : t < T) (hq : pl t < pg 0 t) (ha : a = pg 1 (t * 7 + pl t)) (h1 : 1 ≤ ps) (h5 : ps = 1 ∨ (pg 4 a = 5 ∧ ps = 1 + pg 5 a)) :
    PJ T pg (dn ||| 2 ^ a) (updN pl (pg 2 a) (pl (pg 2 a) + ps)) := by
  obtain ⟨a1, a2, a3, a4, a5, a6⟩ := px_next hX hI ht hq ha
  have p4 := hX.1.2.2.2.1
  obtain ⟨j1, j2⟩ := hJ
  have hne : ∀ u p, u < T → dnP pg (dn ||| 2 ^ a) u p → dnP pg dn u p ∨ (u = t ∧ p = pl t) := fun u p hu h => by
    obtain ⟨c1, c2, c3⟩ := p4 u p hu h.1
    by_cases e : pg 1 (u * 7 + p) = a
    · rw [e, a3] at c2; rw [e, a4] at c3; exact Or.inr ⟨c2.symm, c3.symm⟩
    · have := h.2; rw [b_ne e] at this; exact Or.inl ⟨h.1, this⟩
  have hup : ∀ u p, dnP pg dn u p → dnP pg (dn ||| 2 ^ a) u p := fun u p h => by
    refine ⟨h.1, ?_⟩
    rw [bit_set, h.2]; rfl
  have hat : dnP pg (dn ||| 2 ^ a) t (pl t) := ⟨hq, by rw [← ha]; exact b_eq⟩
  have far : ∀ p, pl t ≤ p → ¬ dnP pg dn t p := fun p hp h => by
    have := hI.2.2.1 t p ht hp h.1
    rw [h.2] at this; exact Bool.false_ne_true this.symm
  have hpl : ∀ u, u ≠ t → updN pl t (pl t + ps) u = pl u := fun u e => updN_n e
  have hplt : updN pl t (pl t + ps) t = pl t + ps := updN_s
  rw [a3]
  refine ⟨fun b hb k5 hl hn => ?_, fun u p hu hl h0 hn => ?_⟩
  · by_cases e : b = a
    · rw [e] at hl hn k5 ⊢
      rw [a3] at hl hn ⊢
      rw [hplt] at hl ⊢
      rw [a4] at hl hn ⊢
      have hps : ps = 1 + pg 5 a := by omega
      refine ⟨by omega, fun p q1 q2 q3 => ?_⟩
      rcases hne t p ht q3 with y | y
      · exact far p (by omega) y
      · omega
    · rw [b_ne e] at hb
      obtain ⟨c1, c2⟩ := hI.2.1 b hb
      have hu := (hX.1.2.2.2.2.1 b c1).1
      by_cases z : pg 2 b = t
      · rw [z] at hl hn c2 ⊢
        rw [hplt] at hl ⊢
        have hne2 : pg 3 b + 1 ≠ pl t := fun q => hn (by rw [q]; exact hat)
        have j := j1 b hb k5 (by rw [z]; omega) (fun q => hn (by rw [z] at q; exact hup _ _ q))
        rw [z] at j
        refine ⟨by omega, fun p q1 q2 q3 => ?_⟩
        rcases hne t p ht q3 with y | y
        · exact j.2 p q1 q2 y
        · omega
      · rw [hpl _ z] at hl ⊢
        have j := j1 b hb k5 hl (fun q => hn (hup _ _ q))
        refine ⟨j.1, fun p q1 q2 q3 => ?_⟩
        rcases hne _ p hu q3 with y | y
        · exact j.2 p q1 q2 y
        · exact z y.1
  · by_cases z : u = t
    · rw [z] at hl h0 hn ⊢
      rw [hplt] at hl
      by_cases e : p < pl t
      · obtain ⟨b, q1, q2, q3, q4, q5, q6⟩ := j2 t p ht e h0 (fun q => hn (hup _ _ q))
        refine ⟨b, by rw [bit_set, q1]; rfl, q2, q3, q4, q5, fun q => ?_⟩
        rcases hne t _ ht q with y | y
        · exact q6 y
        · omega
      · have e2 : p ≠ pl t := fun q => hn (by rw [q]; exact hat)
        have h5' : pg 4 a = 5 ∧ ps = 1 + pg 5 a := by
          rcases h5 with y | y
          · omega
          · exact y
        refine ⟨a, b_eq, h5'.1, a3, by omega, by omega, fun q => ?_⟩
        rcases hne t _ ht q with y | y
        · exact far _ (by omega) y
        · omega
    · rw [hpl u z] at hl
      obtain ⟨b, q1, q2, q3, q4, q5, q6⟩ := j2 u p hu hl h0 (fun q => hn (hup _ _ q))
      refine ⟨b, by rw [bit_set, q1]; rfl, q2, q3, q4, q5, fun q => ?_⟩
      rcases hne u _ hu q with y | y
      · exact q6 y
      · exact z y.1
/-- at an end: a place is done if no SKIP passed over it -/
theorem PJ_end (hX : PX T Ac pg nm zs kd vx rr vv) (hI : PgI T Ac pg nm dn so pl rg cv) (hJ : PJ T pg dn pl) (hE : ∀ t, t < T → pg 0 t ≤ pl t) {t p : Nat} (ht : t < T) (hp : p < pg 0 t) :
    dnP pg dn t p ↔ ¬ ∃ q, q < p ∧ dnP pg dn t q ∧ pg 4 (pg 1 (t * 7 + q)) = 5 ∧ p ≤ q + pg 5 (pg 1 (t * 7 + q)) ∧ ¬ dnP pg dn t (q + 1) := by
  have p4 := hX.1.2.2.2.1
  have hle := hE t ht
  constructor
  · rintro h ⟨q, q1, q2, q3, q4, q5⟩
    obtain ⟨c1, c2, c3⟩ := p4 t q ht q2.1
    have j := hJ.1 _ q2.2 q3 (by rw [c2, c3]; omega) (by rw [c2, c3]; exact q5)
    rw [c2, c3] at j
    exact j.2 p q1 q4 h
  · intro h
    refine Classical.byContradiction (fun hn => ?_)
    obtain ⟨b, q1, q2, q3, q4, q5, q6⟩ := hJ.2 t p ht (by omega) hp hn
    obtain ⟨d1, d2⟩ := hX.2.2.2.2.2 b (hI.2.1 b q1).1
    rw [q3] at d1 d2
    refine h ⟨pg 3 b, q4, ⟨d1, by rw [d2]; exact q1⟩, by rw [d2]; exact q2, by rw [d2]; exact q5, q6⟩
end PJS
/-- the threads of the writers below n, the last one first -/
def lwT (W : Nat) (th : Nat → Nat) : Nat → List Nat
  | 0 => []
  | n + 1 => if W.testBit n = true then th n :: lwT W th n else lwT W th n
def rdY (W : Nat) (th : Nat → Nat) (a : Nat) : Nat := if W.testBit a = true then 1 + othN (th a) (lwT W th a) else 1 + (if (lwT W th 7).length = 0 then 1 else (lwT W th 7).length)
theorem lwT_len {W : Nat} {th : Nat → Nat} : ∀ n, (lwT W th n).length ≤ n
  | 0 => Nat.le_refl 0
  | n + 1 => by
    unfold lwT
    have := lwT_len (W := W) (th := th) n
    split
    · rw [List.length_cons]; omega
    · omega
theorem pr_lw {W k : Nat} {th : Nat → Nat} : ∀ n, prR (fun a => if W.testBit a = true then 1 + othN (th a) (lwT W th a) else k) n = prdW (lwT W th n) * k ^ (n - (lwT W th n).length)
  | 0 => rfl
  | n + 1 => by
    have hl := lwT_len (W := W) (th := th) n
    rw [prR, pr_lw n, lwT]
    by_cases c : W.testBit n = true
    · rw [if_pos c, if_pos c, prdW, List.length_cons, Nat.add_sub_add_right, Nat.mul_comm _ (1 + _), Nat.mul_assoc]
    · rw [if_neg c, if_neg c, (by omega : n + 1 - (lwT W th n).length = n - (lwT W th n).length + 1), Nat.pow_succ, Nat.mul_assoc]
theorem lwT_mem {W : Nat} {th : Nat → Nat} {t : Nat} : ∀ n, t ∈ lwT W th n → ∃ a, a < n ∧ W.testBit a = true ∧ t = th a
  | 0, h => absurd h (List.not_mem_nil)
  | n + 1, h => by
    unfold lwT at h
    by_cases c : W.testBit n = true
    · rw [if_pos c] at h
      rcases List.mem_cons.mp h with q | q
      · exact ⟨n, Nat.lt_succ_self n, c, q⟩
      · obtain ⟨a, q1, q2⟩ := lwT_mem n q; exact ⟨a, by omega, q2⟩
    · rw [if_neg c] at h
      obtain ⟨a, q1, q2⟩ := lwT_mem n h; exact ⟨a, by omega, q2⟩
theorem prY {W : Nat} {th : Nat → Nat} (h : ∀ a, W.testBit a = true → th a < 4) : prR (rdY W th) 7 ≤ 4000 := by
  have e := pr_lw (W := W) (k := 1 + (if (lwT W th 7).length = 0 then 1 else (lwT W th 7).length)) (th := th) 7
  have hl := lwT_len (W := W) (th := th) 7
  have h4 : ∀ t, t ∈ lwT W th 7 → t < 4 := fun t ht => by
    obtain ⟨a, q1, q2, q3⟩ := lwT_mem 7 ht
    rw [q3]; exact h a q2
  show prR (fun a => if W.testBit a = true then 1 + othN (th a) (lwT W th a) else 1 + (if (lwT W th 7).length = 0 then 1 else (lwT W th 7).length)) 7 ≤ 4000
  rw [e]
  by_cases z : (lwT W th 7).length = 0
  · rw [if_pos z, z, List.eq_nil_of_length_eq_zero z]; decide
  · rw [if_neg z]; exact prd_4000 h4 (by omega)
theorem oth_mono {W t : Nat} {th : Nat → Nat} {m : Nat} : ∀ n, m ≤ n → othN t (lwT W th m) ≤ othN t (lwT W th n)
  | 0, h => by rw [(by omega : m = 0)]; exact Nat.le_refl _
  | n + 1, h => by
    by_cases e : m = n + 1
    · rw [e]; exact Nat.le_refl _
    · have := oth_mono (W := W) (t := t) (th := th) (m := m) n (by omega)
      refine Nat.le_trans this ?_
      rw [lwT]
      split
      · rw [othN]; omega
      · exact Nat.le_refl _
theorem oth_s {W t b : Nat} {th : Nat → Nat} (h1 : W.testBit b = true) (h2 : th b ≠ t) : othN t (lwT W th (b + 1)) = 1 + othN t (lwT W th b) := by
  rw [lwT, if_pos h1, othN, if_neg h2]
theorem nd_oth {W t n : Nat} {th : Nat → Nat} {L : List Nat} (hn : L.Nodup) (h : ∀ b, b ∈ L → b < n ∧ W.testBit b = true ∧ th b ≠ t) : L.length ≤ othN t (lwT W th n) := by
  refine code_len (code := fun b => othN t (lwT W th b)) hn (fun b hb => ?_) (fun b d hb hd e => ?_)
  · obtain ⟨q1, q2, q3⟩ := h b hb
    have := oth_s (t := t) q2 q3
    have := oth_mono (W := W) (t := t) (th := th) (m := b + 1) n (by omega)
    omega
  · obtain ⟨q1, q2, q3⟩ := h b hb
    obtain ⟨r1, r2, r3⟩ := h d hd
    have e1 := oth_s (t := t) q2 q3
    have e2 := oth_s (t := t) r2 r3
    rcases Nat.lt_trichotomy b d with z | z | z
    · have := oth_mono (W := W) (t := t) (th := th) (m := b + 1) d (by omega); omega
    · exact z
    · have := oth_mono (W := W) (t := t) (th := th) (m := d + 1) b (by omega); omega
theorem lw_pop : ∀ W, W < 128 → (lwT W (fun _ => 0) 7).length = pop7 W := by decide +kernel
theorem lw_th {W : Nat} {th : Nat → Nat} : ∀ n, (lwT W th n).length = (lwT W (fun _ => 0) n).length
  | 0 => rfl
  | n + 1 => by
    unfold lwT
    have := lw_th (W := W) (th := th) n
    split
    · rw [List.length_cons, List.length_cons, this]
    · exact this
/-- in the order in which they came, the newest first, only smaller ones of other threads are ahead -/
theorem smB_oth {th : Nat → Nat} {a : Nat} : ∀ L : List Nat, a ∈ L → L.Pairwise (fun b a => th b = th a → a < b) → smB a L ≤ (L.filter (fun b => decide (b < a ∧ th b ≠ th a))).length
  | [], h, _ => absurd h (List.not_mem_nil)
  | c :: l, h, hp => by
    obtain ⟨h1, h2⟩ := List.pairwise_cons.mp hp
    unfold smB
    by_cases e : c = a
    · rw [if_pos e]; exact Nat.zero_le _
    · rw [if_neg e]
      have ha : a ∈ l := by
        rcases List.mem_cons.mp h with q | q
        · exact absurd q.symm e
        · exact q
      have ih := smB_oth l ha h2
      by_cases q : c < a
      · have hne : th c ≠ th a := fun z => by have := h1 a ha z; omega
        have x1 : (fun b => decide (b < a ∧ th b ≠ th a)) c = true := decide_eq_true ⟨q, hne⟩
        rw [if_pos q, List.filter_cons_of_pos (p := fun b => decide (b < a ∧ th b ≠ th a)) x1, List.length_cons]; omega
      · have x1 : ¬ (fun b => decide (b < a ∧ th b ≠ th a)) c = true := fun z => q (of_decide_eq_true z).1
        rw [if_neg q, List.filter_cons_of_neg (p := fun b => decide (b < a ∧ th b ≠ th a)) x1]; omega
