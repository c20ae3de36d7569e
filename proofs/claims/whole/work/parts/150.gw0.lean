/-- what a walk gathers: keys met; the set's room (exponent, both arrays' lengths); outcomes with their runs; their room; racing pairs; cells and slots made -/
abbrev G9 : Type := List Int64 × Nat × Nat × Nat × List (Int64 × Int32 × List Int32) × Nat × (Nat → Nat) × Nat × Nat
def gL (g : G9) : List Int64 := g.1
def gE (g : G9) : Nat := g.2.1
def gK (g : G9) : Nat := g.2.2.1
def gS (g : G9) : Nat := g.2.2.2.1
def gF (g : G9) : List (Int64 × Int32 × List Int32) := g.2.2.2.2.1
def gC (g : G9) : Nat := g.2.2.2.2.2.1
def gR (g : G9) : Nat → Nat := g.2.2.2.2.2.2.1
def gc (g : G9) : Nat := g.2.2.2.2.2.2.2.1
def gs (g : G9) : Nat := g.2.2.2.2.2.2.2.2
def hasK (g : G9) (key : Int64) : Bool := (gL g).contains key
def addKey (key : Int64) (g : G9) : G9 :=
  if hasK g key = true then g else
    (gL g ++ [key], (addS false (gL g).length (gE g) (gK g) (gS g)).2.1, (addS false (gL g).length (gE g) (gK g) (gS g)).2.2.1, (addS false (gL g).length (gE g) (gK g) (gS g)).2.2.2.1, gF g, gC g, gR g, gc g + (addS false (gL g).length (gE g) (gK g) (gS g)).2.2.2.2.1, gs g + (addS false (gL g).length (gE g) (gK g) (gS g)).2.2.2.2.2)
def hasF (g : G9) (rk : Int64) (vk : Int32) : Bool := (gF g).any (fun r => r.1 == rk && r.2.1 == vk)
def addOut (E : Nat) (rk : Int64) (vk : Int32) (p : List Int32) (g : G9) : G9 :=
  if hasF g rk vk = true then g else
    (gL g, gE g, gK g, gS g, gF g ++ [(rk, vk, p)], (addO false (gF g).length (gC g) E).2.1, gR g, gc g + (addO false (gF g).length (gC g) E).2.2.1, gs g + (addO false (gF g).length (gC g) E).2.2.2)
def setR (f : Nat → Nat) (g : G9) : G9 := (gL g, gE g, gK g, gS g, gF g, gC g, f, gc g, gs g)
theorem hasB_rep {kf : Nat → Int64} {key : Int64} (L : List Int64) (h : ∀ i (q : i < L.length), kf i = L[i]) : hasB kf key L.length = L.contains key := by
  cases hb : hasB kf key L.length with
  | true =>
    obtain ⟨j, hj, e⟩ := hasB_yes hb
    have : key ∈ L := by rw [← e, h j hj]; exact List.getElem_mem hj
    simp [this]
  | false =>
    have : key ∉ L := fun q => by
      obtain ⟨i, hi, e⟩ := List.getElem_of_mem q
      exact hasB_no hb i hi ((h i hi).trans e)
    simp [this]
theorem addS_n {n e KL SL : Nat} : (addS false n e KL SL).1 = n + 1 := by
  unfold addS; dsimp only; split <;> split <;> (try split) <;> rfl
theorem addKey_yes {key : Int64} {g : G9} (h : hasK g key = true) : addKey key g = g := by unfold addKey; rw [if_pos h]
theorem addKey_no {key : Int64} {g : G9} (h : hasK g key = false) : addKey key g = (gL g ++ [key], (addS false (gL g).length (gE g) (gK g) (gS g)).2.1, (addS false (gL g).length (gE g) (gK g) (gS g)).2.2.1, (addS false (gL g).length (gE g) (gK g) (gS g)).2.2.2.1, gF g, gC g, gR g, gc g + (addS false (gL g).length (gE g) (gK g) (gS g)).2.2.2.2.1, gs g + (addS false (gL g).length (gE g) (gK g) (gS g)).2.2.2.2.2) := by
  unfold addKey; rw [if_neg (by rw [h]; decide)]
theorem addKey_S {g : G9} {kf : Nat → Int64} {key : Int64} (h : ∀ i (q : i < (gL g).length), kf i = (gL g)[i]) {n2 e2 KL2 SL2 mc ms : Nat} (hst : addS (hasB kf key (gL g).length) (gL g).length (gE g) (gK g) (gS g) = (n2, e2, KL2, SL2, mc, ms)) :
    (gL (addKey key g)).length = n2 ∧ gE (addKey key g) = e2 ∧ gK (addKey key g) = KL2 ∧ gS (addKey key g) = SL2 ∧ gc (addKey key g) - gc g = mc ∧ gs (addKey key g) - gs g = ms := by
  rw [hasB_rep _ h] at hst
  cases hk : hasK g key with
  | true =>
    rw [show (gL g).contains key = true from hk, show addS true (gL g).length (gE g) (gK g) (gS g) = ((gL g).length, gE g, gK g, gS g, 0, 0) from rfl] at hst
    cases hst
    rw [addKey_yes hk]
    exact ⟨rfl, rfl, rfl, rfl, Nat.sub_self _, Nat.sub_self _⟩
  | false =>
    rw [show (gL g).contains key = false from hk] at hst
    have h1 : (gL g).length + 1 = n2 := by rw [← addS_n (n := (gL g).length) (e := gE g) (KL := gK g) (SL := gS g), hst]
    rw [addKey_no hk]
    refine ⟨?_, ?_, ?_, ?_, ?_, ?_⟩
    · show (gL g ++ [key]).length = n2
      rw [List.length_append]; exact h1
    · show (addS false (gL g).length (gE g) (gK g) (gS g)).2.1 = e2
      rw [hst]
    · show (addS false (gL g).length (gE g) (gK g) (gS g)).2.2.1 = KL2
      rw [hst]
    · show (addS false (gL g).length (gE g) (gK g) (gS g)).2.2.2.1 = SL2
      rw [hst]
    · show gc g + (addS false (gL g).length (gE g) (gK g) (gS g)).2.2.2.2.1 - gc g = mc
      rw [hst]; exact Nat.add_sub_cancel_left _ _
    · show gs g + (addS false (gL g).length (gE g) (gK g) (gS g)).2.2.2.2.2 - gs g = ms
      rw [hst]; exact Nat.add_sub_cancel_left _ _
theorem addS_ok {b : Bool} {n e KL SL n2 e2 KL2 SL2 mc ms : Nat} (hst : addS b n e KL SL = (n2, e2, KL2, SL2, mc, ms)) (he : e ≤ 22) (hSL : 2 ^ e ≤ SL) (hS3 : SL < 2 ^ 31) (hK3 : KL < 2 ^ 23) (hn9 : n ≤ KL) (hn2 : 2 * n ≤ 2 ^ e) (hn20 : n < 1048576) :
    e2 ≤ 22 ∧ 2 ^ e2 ≤ SL2 ∧ SL2 < 2 ^ 31 ∧ KL2 < 2 ^ 23 ∧ n2 ≤ KL2 ∧ 2 * n2 ≤ 2 ^ e2 := by
  have hp : 2 ^ (e + 1) = 2 * 2 ^ e := by rw [Nat.pow_succ, Nat.mul_comm]
  have h0 : 0 < 2 ^ e := Nat.two_pow_pos e
  have hr : n + 1 ≤ roomK n ∧ roomK n < 2 ^ 23 := by unfold roomK; split <;> omega
  have hgrow : ¬ 2 * (n + 1) ≤ 2 ^ e → e + 1 ≤ 22 ∧ 2 ^ (e + 1) < 2 ^ 31 := fun q => by
    have h1 : 2 ^ e < 2 ^ 22 := by omega
    have h2 : e < 22 := (Nat.pow_lt_pow_iff_right (by decide)).mp h1
    exact ⟨h2, by rw [hp]; omega⟩
  cases b with
  | true =>
    rw [show addS true n e KL SL = (n, e, KL, SL, 0, 0) from rfl] at hst
    cases hst
    exact ⟨he, hSL, hS3, hK3, hn9, hn2⟩
  | false =>
    unfold addS at hst
    dsimp only at hst
    by_cases c1 : n < KL
    · rw [if_pos c1] at hst
      by_cases c2 : 2 * (n + 1) ≤ 2 ^ e
      · rw [if_pos c2] at hst; cases hst
        exact ⟨he, hSL, hS3, hK3, c1, c2⟩
      · obtain ⟨k1, k2⟩ := hgrow c2
        rw [if_neg c2] at hst
        by_cases c3 : SL < 2 ^ (e + 1)
        · rw [if_pos c3] at hst; cases hst
          exact ⟨k1, Nat.le_refl _, k2, hK3, c1, by rw [hp]; omega⟩
        · rw [if_neg c3] at hst; cases hst
          exact ⟨k1, Nat.le_of_not_lt c3, hS3, hK3, c1, by rw [hp]; omega⟩
    · rw [if_neg c1] at hst
      by_cases c2 : 2 * (n + 1) ≤ 2 ^ e
      · rw [if_pos c2] at hst; cases hst
        exact ⟨he, hSL, hS3, hr.2, hr.1, c2⟩
      · obtain ⟨k1, k2⟩ := hgrow c2
        rw [if_neg c2] at hst
        by_cases c3 : SL < 2 ^ (e + 1)
        · rw [if_pos c3] at hst; cases hst
          exact ⟨k1, Nat.le_refl _, k2, hr.2, hr.1, by rw [hp]; omega⟩
        · rw [if_neg c3] at hst; cases hst
          exact ⟨k1, Nat.le_of_not_lt c3, hS3, hr.2, hr.1, by rw [hp]; omega⟩
/-- the set's arrays hold what is gathered -/
def okS (g : G9) (kf : Nat → Int64) (sf : Nat → Int32) : Prop :=
  gE g ≤ 22 ∧ 2 ^ gE g ≤ gS g ∧ gS g < 2 ^ 31 ∧ gK g < 2 ^ 23 ∧ (gL g).length ≤ gK g ∧ 2 * (gL g).length ≤ 2 ^ gE g ∧
  (∀ i (q : i < (gL g).length), kf i = (gL g)[i]) ∧ ∃ gg : Nat → Nat, (∀ i, i < 2 ^ gE g → sf i = nI (gg i)) ∧ inT (2 ^ gE g) (fun k => hsh k (gE g)) (gL g).length kf gg
theorem rep_app {L : List Int64} {key : Int64} {kf kf2 : Nat → Int64} (h : ∀ i (q : i < L.length), kf i = L[i]) (h1 : ∀ j, j < L.length → kf2 j = kf j) (h2 : kf2 L.length = key) : ∀ i (q : i < (L ++ [key]).length), kf2 i = (L ++ [key])[i] := fun i q => by
  by_cases hi : i < L.length
  · rw [h1 i hi, h i hi, List.getElem_append_left hi]
  · have e : i = L.length := by rw [List.length_append] at q; simp at q; omega
    subst e
    rw [h2]; simp
theorem okS_add {g : G9} {kf kf2 : Nat → Int64} {sf sf2 : Nat → Int32} {g2 : Nat → Nat} {key : Int64} (hS : okS g kf sf) (hn20 : (gL g).length < 1048576) {n2 e2 KL2 SL2 mc ms : Nat} (hst : addS (hasB kf key (gL g).length) (gL g).length (gE g) (gK g) (gS g) = (n2, e2, KL2, SL2, mc, ms))
    (f1 : ∀ j, j < (gL g).length → kf2 j = kf j) (f2 : hasB kf key (gL g).length = false → kf2 (gL g).length = key) (f3 : ∀ i, i < 2 ^ e2 → sf2 i = nI (g2 i)) (f4 : inT (2 ^ e2) (fun k => hsh k e2) n2 kf2 g2) : okS (addKey key g) kf2 sf2 := by
  obtain ⟨a1, a2, a3, a4, a5, a6, a7, -⟩ := hS
  obtain ⟨q1, q2, q3, q4, q5, q6⟩ := addKey_S a7 hst
  obtain ⟨b1, b2, b3, b4, b5, b6⟩ := addS_ok hst a1 a2 a3 a4 a5 a6 hn20
  unfold okS
  refine ⟨by rw [q2]; exact b1, by rw [q2, q4]; exact b2, by rw [q4]; exact b3, by rw [q3]; exact b4, by rw [q1, q3]; exact b5, by rw [q1, q2]; exact b6, ?_, g2, by rw [q2]; exact f3, by rw [q1, q2]; exact f4⟩
  rw [hasB_rep _ a7] at f2
  cases hk : hasK g key with
  | true => rw [addKey_yes hk]; exact fun i q => (f1 i q).trans (a7 i q)
  | false => rw [addKey_no hk]; exact rep_app a7 f1 (f2 hk)
theorem srt_inj {n : Nat} {rf : Nat → Int64} {vf : Nat → Int32} {of : Nat → Nat} (h : srt n rf vf of) : ∀ i j, i < n → j < n → of i = of j → i = j := fun i j hi hj e => by
  rcases Nat.lt_trichotomy i j with q | q | q
  · have := h.2 i j q hj; rw [e] at this; exact absurd this ltK_irr
  · exact q
  · have := h.2 j i q hi; rw [e] at this; exact absurd this ltK_irr
theorem srt_onto {n : Nat} {rf : Nat → Int64} {vf : Nat → Int32} {of : Nat → Nat} (h : srt n rf vf of) (i : Nat) (hi : i < n) : ∃ j, j < n ∧ of j = i := by
  refine Classical.byContradiction fun hne => ?_
  have hn : ∀ j, j < n → of j ≠ i := fun j hj e => hne ⟨j, hj, e⟩
  have := pigeon (n - 1) n (fun j => if of j < i then of j + 1 else of j) (fun j hj => by
    have h1 := h.1 j hj
    have h2 := hn j hj
    split <;> omega) (fun j k hj hk e => by
    have h1 := hn j hj
    have h2 := hn k hk
    refine srt_inj h j k hj hk ?_
    split at e <;> split at e <;> omega)
  omega
def repF (E : Nat) (F : List (Int64 × Int32 × List Int32)) (rf : Nat → Int64) (vf lf qf : Nat → Int32) : Prop :=
  ∀ i (q : i < F.length), rf i = F[i].1 ∧ vf i = F[i].2.1 ∧ lf i = nI F[i].2.2.length ∧ F[i].2.2.length ≤ E ∧ ∀ k (q2 : k < F[i].2.2.length), qf (i * E + k) = F[i].2.2[k]
theorem hasO_rep {E : Nat} {F : List (Int64 × Int32 × List Int32)} {rf : Nat → Int64} {vf lf qf : Nat → Int32} {of : Nat → Nat} {rk : Int64} {vk : Int32} (h : repF E F rf vf lf qf) (hs : srt F.length rf vf of) : hasO rf vf of rk vk F.length = F.any (fun r => r.1 == rk && r.2.1 == vk) := by
  cases hb : hasO rf vf of rk vk F.length with
  | true =>
    obtain ⟨j, hj, e1, e2⟩ := hasO_yes hb
    have hj2 := hs.1 j hj
    symm
    rw [List.any_eq_true]
    refine ⟨F[of j], List.getElem_mem hj2, ?_⟩
    rw [← (h _ hj2).1, ← (h _ hj2).2.1, e1, e2]; simp
  | false =>
    symm
    rw [← Bool.not_eq_true, List.any_eq_true]
    rintro ⟨x, hx, hp⟩
    obtain ⟨i, hi, e⟩ := List.getElem_of_mem hx
    obtain ⟨j, hj, ej⟩ := srt_onto hs i hi
    have hp2 : x.1 = rk ∧ x.2.1 = vk := by simpa using hp
    exact hasO_no hb j hj (by rw [ej, (h i hi).1, (h i hi).2.1, e]; exact hp2)
theorem addO_n {n C E : Nat} : (addO false n C E).1 = n + 1 := by unfold addO; dsimp only; split <;> rfl
theorem addOut_yes {E : Nat} {rk : Int64} {vk : Int32} {p : List Int32} {g : G9} (h : hasF g rk vk = true) : addOut E rk vk p g = g := by unfold addOut; rw [if_pos h]
theorem addOut_no {E : Nat} {rk : Int64} {vk : Int32} {p : List Int32} {g : G9} (h : hasF g rk vk = false) : addOut E rk vk p g = (gL g, gE g, gK g, gS g, gF g ++ [(rk, vk, p)], (addO false (gF g).length (gC g) E).2.1, gR g, gc g + (addO false (gF g).length (gC g) E).2.2.1, gs g + (addO false (gF g).length (gC g) E).2.2.2) := by
  unfold addOut; rw [if_neg (by rw [h]; decide)]
theorem addOut_O {E : Nat} {g : G9} {rf : Nat → Int64} {vf lf qf : Nat → Int32} {of : Nat → Nat} {rk : Int64} {vk : Int32} {p : List Int32} (h : repF E (gF g) rf vf lf qf) (hs : srt (gF g).length rf vf of) {n2 C2 mc ms : Nat} (hst : addO (hasO rf vf of rk vk (gF g).length) (gF g).length (gC g) E = (n2, C2, mc, ms)) :
    (gF (addOut E rk vk p g)).length = n2 ∧ gC (addOut E rk vk p g) = C2 ∧ gc (addOut E rk vk p g) - gc g = mc ∧ gs (addOut E rk vk p g) - gs g = ms := by
  rw [hasO_rep h hs] at hst
  cases hk : hasF g rk vk with
  | true =>
    rw [show (gF g).any (fun r => r.1 == rk && r.2.1 == vk) = true from hk, show addO true (gF g).length (gC g) E = ((gF g).length, gC g, 0, 0) from rfl] at hst
    cases hst
    rw [addOut_yes hk]
    exact ⟨rfl, rfl, Nat.sub_self _, Nat.sub_self _⟩
  | false =>
    rw [show (gF g).any (fun r => r.1 == rk && r.2.1 == vk) = false from hk] at hst
    have h1 : (gF g).length + 1 = n2 := by rw [← addO_n (n := (gF g).length) (C := gC g) (E := E), hst]
    rw [addOut_no hk]
    refine ⟨?_, ?_, ?_, ?_⟩
    · show (gF g ++ [(rk, vk, p)]).length = n2
      rw [List.length_append]; exact h1
    · show (addO false (gF g).length (gC g) E).2.1 = C2
      rw [hst]
    · show gc g + (addO false (gF g).length (gC g) E).2.2.1 - gc g = mc
      rw [hst]; exact Nat.add_sub_cancel_left _ _
    · show gs g + (addO false (gF g).length (gC g) E).2.2.2 - gs g = ms
      rw [hst]; exact Nat.add_sub_cancel_left _ _
/-- the outcomes' arrays hold what is gathered -/
def okF (E : Nat) (g : G9) (rf : Nat → Int64) (vf lf qf : Nat → Int32) (of : Nat → Nat) : Prop :=
  gC g ≤ 65536 ∧ (gF g).length ≤ gC g ∧ srt (gF g).length rf vf of ∧ repF E (gF g) rf vf lf qf
theorem okF_add {E : Nat} {g : G9} {rf rf2 : Nat → Int64} {vf lf qf vf2 lf2 qf2 pv : Nat → Int32} {of of2 : Nat → Nat} {rk : Int64} {vk : Int32} {d : Nat} (hF : okF E g rf vf lf qf of) (hn : (gF g).length ≤ 8192) (hd : d ≤ E) {n2 C2 mc ms : Nat} (hst : addO (hasO rf vf of rk vk (gF g).length) (gF g).length (gC g) E = (n2, C2, mc, ms))
    (f1 : ∀ i, i < (gF g).length → rf2 i = rf i ∧ vf2 i = vf i ∧ lf2 i = lf i) (f2 : ∀ i, i < (gF g).length * E → qf2 i = qf i)
    (f4 : hasO rf vf of rk vk (gF g).length = false → rf2 (gF g).length = rk ∧ vf2 (gF g).length = vk ∧ lf2 (gF g).length = nI d ∧ ∀ k, k < d → qf2 ((gF g).length * E + k) = pv k) (f5 : srt n2 rf2 vf2 of2) :
    okF E (addOut E rk vk ((List.range d).map pv) g) rf2 vf2 lf2 qf2 of2 := by
  obtain ⟨a1, a2, a3, a4⟩ := hF
  obtain ⟨q1, q2, q3, q4⟩ := addOut_O (p := (List.range d).map pv) a4 a3 hst
  have hC : C2 ≤ 65536 ∧ n2 ≤ C2 := by
    cases hb : hasO rf vf of rk vk (gF g).length with
    | true =>
      rw [hb, show addO true (gF g).length (gC g) E = ((gF g).length, gC g, 0, 0) from rfl] at hst
      cases hst; exact ⟨a1, a2⟩
    | false =>
      rw [hb] at hst; unfold addO at hst; dsimp only at hst
      have hr : (gF g).length + 1 ≤ roomO (gF g).length ∧ roomO (gF g).length ≤ 65536 := by unfold roomO; split <;> omega
      by_cases c1 : (gF g).length < gC g
      · rw [if_pos c1] at hst; cases hst; exact ⟨a1, c1⟩
      · rw [if_neg c1] at hst; cases hst; exact ⟨hr.2, hr.1⟩
  have old : ∀ i (q : i < (gF g).length), rf2 i = (gF g)[i].1 ∧ vf2 i = (gF g)[i].2.1 ∧ lf2 i = nI (gF g)[i].2.2.length ∧ (gF g)[i].2.2.length ≤ E ∧ ∀ k (q2 : k < (gF g)[i].2.2.length), qf2 (i * E + k) = (gF g)[i].2.2[k] := fun i q => by
    obtain ⟨b1, b2, b3, b4, b5⟩ := a4 i q
    obtain ⟨c1, c2, c3⟩ := f1 i q
    refine ⟨c1.trans b1, c2.trans b2, c3.trans b3, b4, fun k q2 => ?_⟩
    rw [f2 (i * E + k) (by
      have : (i + 1) * E ≤ (gF g).length * E := Nat.mul_le_mul_right E q
      rw [Nat.succ_mul] at this
      omega)]
    exact b5 k q2
  unfold okF
  rw [q1, q2]
  refine ⟨hC.1, hC.2, f5, ?_⟩
  rw [hasO_rep a4 a3] at f4
  cases hk : hasF g rk vk with
  | true => rw [addOut_yes hk]; exact old
  | false =>
    obtain ⟨c1, c2, c3, c4⟩ := f4 hk
    rw [addOut_no hk]
    show repF E (gF g ++ [(rk, vk, (List.range d).map pv)]) rf2 vf2 lf2 qf2
    intro i q
    by_cases hi : i < (gF g).length
    · rw [List.getElem_append_left hi]; exact old i hi
    · have e : i = (gF g).length := by rw [List.length_append] at q; simp at q; omega
      subst e
      rw [List.getElem_append_right (Nat.le_refl _)]
      simp only [Nat.sub_self, List.getElem_cons_zero, List.length_map, List.length_range]
      refine ⟨c1, c2, c3, hd, fun k q2 => ?_⟩
      rw [c4 k q2]; simp
/-- more has been gathered -/
def gle (g h : G9) : Prop := (gL g).length ≤ (gL h).length ∧ (gF g).length ≤ (gF h).length ∧ gc g ≤ gc h ∧ gs g ≤ gs h
theorem gle_rf {g : G9} : gle g g := ⟨Nat.le_refl _, Nat.le_refl _, Nat.le_refl _, Nat.le_refl _⟩
theorem gle_tr {g h k : G9} (a : gle g h) (b : gle h k) : gle g k := ⟨Nat.le_trans a.1 b.1, Nat.le_trans a.2.1 b.2.1, Nat.le_trans a.2.2.1 b.2.2.1, Nat.le_trans a.2.2.2 b.2.2.2⟩
theorem gle_key {key : Int64} {g : G9} : gle g (addKey key g) := by
  cases hk : hasK g key with
  | true => rw [addKey_yes hk]; exact gle_rf
  | false =>
    rw [addKey_no hk]
    refine ⟨?_, Nat.le_refl _, Nat.le_add_right _ _, Nat.le_add_right _ _⟩
    show (gL g).length ≤ (gL g ++ [key]).length
    rw [List.length_append]; exact Nat.le_add_right _ _
theorem gle_out {E : Nat} {rk : Int64} {vk : Int32} {p : List Int32} {g : G9} : gle g (addOut E rk vk p g) := by
  cases hk : hasF g rk vk with
  | true => rw [addOut_yes hk]; exact gle_rf
  | false =>
    rw [addOut_no hk]
    refine ⟨Nat.le_refl _, ?_, Nat.le_add_right _ _, Nat.le_add_right _ _⟩
    show (gF g).length ≤ (gF g ++ [(rk, vk, p)]).length
    rw [List.length_append]; exact Nat.le_add_right _ _
theorem gle_setR {f : Nat → Nat} {g : G9} : gle g (setR f g) := gle_rf
