/-- what the laying of rows gathers: outcomes; graphs that stand; lasts; before; outerBefore; happens -/
abbrev Y9 : Type := G9 × Nat × (Nat → Nat) × (Nat → Nat) × (Nat → Nat) × (Nat → Nat)
def yg (y : Y9) : G9 := y.1
def ys (y : Y9) : Nat := y.2.1
def yl (y : Y9) : Nat → Nat := y.2.2.1
def yb (y : Y9) : Nat → Nat := y.2.2.2.1
def yo (y : Y9) : Nat → Nat := y.2.2.2.2.1
def yh (y : Y9) : Nat → Nat := y.2.2.2.2.2
def repH (F : List (Int64 × Int32 × List Int32)) (rf : Nat → Int64) (vf : Nat → Int32) : Prop := ∀ i (q : i < F.length), rf i = F[i].1 ∧ vf i = F[i].2.1
def okH (g : G9) (rf : Nat → Int64) (vf : Nat → Int32) (of : Nat → Nat) : Prop := gC g ≤ 65536 ∧ (gF g).length ≤ gC g ∧ srt (gF g).length rf vf of ∧ repH (gF g) rf vf
theorem hasO_repH {F : List (Int64 × Int32 × List Int32)} {rf : Nat → Int64} {vf : Nat → Int32} {of : Nat → Nat} {rk : Int64} {vk : Int32} (h : repH F rf vf) (hs : srt F.length rf vf of) : hasO rf vf of rk vk F.length = F.any (fun r => r.1 == rk && r.2.1 == vk) := by
  cases hb : hasO rf vf of rk vk F.length with
  | true =>
    obtain ⟨j, hj, e1, e2⟩ := hasO_yes hb
    have hj2 := hs.1 j hj
    symm
    rw [List.any_eq_true]
    refine ⟨F[of j], List.getElem_mem hj2, ?_⟩
    rw [← (h _ hj2).1, ← (h _ hj2).2, e1, e2]; simp
  | false =>
    symm
    rw [← Bool.not_eq_true, List.any_eq_true]
    rintro ⟨x, hx, hp⟩
    obtain ⟨i, hi, e⟩ := List.getElem_of_mem hx
    obtain ⟨j, hj, ej⟩ := srt_onto hs i hi
    have hp2 : x.1 = rk ∧ x.2.1 = vk := by simpa using hp
    exact hasO_no hb j hj (by rw [ej, (h i hi).1, (h i hi).2, e]; exact hp2)
theorem addOut_H {E : Nat} {g : G9} {rf : Nat → Int64} {vf : Nat → Int32} {of : Nat → Nat} {rk : Int64} {vk : Int32} {p : List Int32} (h : repH (gF g) rf vf) (hs : srt (gF g).length rf vf of) {n2 C2 mc ms : Nat} (hst : addO (hasO rf vf of rk vk (gF g).length) (gF g).length (gC g) E = (n2, C2, mc, ms)) :
    (gF (addOut E rk vk p g)).length = n2 ∧ gC (addOut E rk vk p g) = C2 ∧ gc (addOut E rk vk p g) - gc g = mc ∧ gs (addOut E rk vk p g) - gs g = ms := by
  rw [hasO_repH h hs] at hst
  cases hk : hasF g rk vk with
  | true =>
    rw [show (gF g).any (fun r => r.1 == rk && r.2.1 == vk) = true from hk, show addO true (gF g).length (gC g) E = ((gF g).length, gC g, 0, 0) from rfl] at hst
    cases hst
    rw [addOut_yes hk]
    exact ⟨rfl, rfl, Nat.sub_self _, Nat.sub_self _⟩
  | false =>
    rw [show (gF g).any (fun r => r.1 == rk && r.2.1 == vk) = false from hk] at hst
    have h1 : (gF g).length + 1 = n2 := by rw [← addO_n (n := (gF g).length) (C := gC g) (E := E), hst]
    rw [addOut_no hk]
    refine ⟨?_, ?_, ?_, ?_⟩
    · show (gF g ++ [(rk, vk, p)]).length = n2
      rw [List.length_append]; exact h1
    · show (addO false (gF g).length (gC g) E).2.1 = C2
      rw [hst]
    · show gc g + (addO false (gF g).length (gC g) E).2.2.1 - gc g = mc
      rw [hst]; exact Nat.add_sub_cancel_left _ _
    · show gs g + (addO false (gF g).length (gC g) E).2.2.2 - gs g = ms
      rw [hst]; exact Nat.add_sub_cancel_left _ _
theorem okH_add {E : Nat} {g : G9} {rf rf2 : Nat → Int64} {vf vf2 : Nat → Int32} {of of2 : Nat → Nat} {rk : Int64} {vk : Int32} {p : List Int32} (hF : okH g rf vf of) (hn : (gF g).length ≤ 8192) {n2 C2 mc ms : Nat} (hst : addO (hasO rf vf of rk vk (gF g).length) (gF g).length (gC g) E = (n2, C2, mc, ms))
    (f1 : ∀ i, i < (gF g).length → rf2 i = rf i ∧ vf2 i = vf i) (f4 : hasO rf vf of rk vk (gF g).length = false → rf2 (gF g).length = rk ∧ vf2 (gF g).length = vk) (f5 : srt n2 rf2 vf2 of2) : okH (addOut E rk vk p g) rf2 vf2 of2 := by
  obtain ⟨a1, a2, a3, a4⟩ := hF
  obtain ⟨q1, q2, q3, q4⟩ := addOut_H (p := p) a4 a3 hst
  have hC : C2 ≤ 65536 ∧ n2 ≤ C2 := by
    cases hb : hasO rf vf of rk vk (gF g).length with
    | true =>
      rw [hb, show addO true (gF g).length (gC g) E = ((gF g).length, gC g, 0, 0) from rfl] at hst
      cases hst; exact ⟨a1, a2⟩
    | false =>
      rw [hb] at hst; unfold addO at hst; dsimp only at hst
      have hr : (gF g).length + 1 ≤ roomO (gF g).length ∧ roomO (gF g).length ≤ 65536 := by unfold roomO; split <;> omega
      by_cases c1 : (gF g).length < gC g
      · rw [if_pos c1] at hst; cases hst; exact ⟨a1, c1⟩
      · rw [if_neg c1] at hst; cases hst; exact ⟨hr.2, hr.1⟩
  have old : ∀ i (q : i < (gF g).length), rf2 i = (gF g)[i].1 ∧ vf2 i = (gF g)[i].2.1 := fun i q => ⟨(f1 i q).1.trans (a4 i q).1, (f1 i q).2.trans (a4 i q).2⟩
  unfold okH
  rw [q1, q2]
  refine ⟨hC.1, hC.2, f5, ?_⟩
  rw [hasO_repH a4 a3] at f4
  cases hk : hasF g rk vk with
  | true => rw [addOut_yes hk]; exact old
  | false =>
    obtain ⟨c1, c2⟩ := f4 hk
    rw [addOut_no hk]
    show repH (gF g ++ [(rk, vk, p)]) rf2 vf2
    intro i q
    by_cases hi : i < (gF g).length
    · rw [List.getElem_append_left hi]; exact old i hi
    · have e : i = (gF g).length := by rw [List.length_append] at q; simp at q; omega
      subst e
      rw [List.getElem_append_right (Nat.le_refl _)]
      simp only [Nat.sub_self, List.getElem_cons_zero]
      exact ⟨c1, c2⟩
abbrev NY : Type := Nat → Nat → Nat → Nat → Nat → Y9 → Y9
section GY
variable (pg : Nat → Nat → Nat) (E md Ac mb : Nat) (sc : Nat → Nat → Nat) (rg cv : Nat → Int32)
/-- the arrays as the rows have them now -/
def scY (y : Y9) : Nat → Nat → Nat := fun k => if k = 8 then yl y else if k = 9 then yb y else if k = 10 then yo y else if k = 11 then yh y else sc k
def wrR (r : Nat) : Nat := if r = 3 then pg 9 4 else andn (pg 10 r) (pg 9 0)
def clH (r : Nat) (y : Y9) : Y9 := if md = 3 ∧ r = 3 then (yg y, ys y, yl y, yb y, yo y, coN Ac (hpN pg mb (sc 6) (yb y) (yh y) Ac) Ac) else y
def endY (y : Y9) : Y9 :=
  if stB pg md Ac mb (scY sc y) = true then (addOut E (rK rg 7) (vK cv (yl y 0) (yl y 1) (yl y 2)) [] (yg y), ys y + 1, yl y, yb y, ouG pg md Ac (scY sc y), yh y)
  else (yg y, ys y, yl y, yb y, ouG pg md Ac (scY sc y), yh y)
/-- the row below r begins, or all are laid -/
def stR (nx : NY) (r : Nat) (y : Y9) : Y9 :=
  if r = 0 then endY pg E md Ac mb sc rg cv (clH pg md Ac mb sc r y) else nx (r - 1) 0 (wrR pg (r - 1) &&& mb) 0 (sc 7 (r - 1)) (clH pg md Ac mb sc r y)
def adL (row todo : Nat) : Nat := if row = 3 then 0 else todo &&& pg 9 3
def bdL (row last todo : Nat) : Nat := adL pg row todo &&& (if last = 0 then sc 7 row else sc 6 last)
def chL (row last todo : Nat) : Nat := if bdL pg sc row last todo = 0 then andn todo (adL pg row todo) else bdL pg sc row last todo
def lpW (nx : NY) (row last todo ah se : Nat) : Nat → Y9 → Y9
  | 0, y => y
  | w + 1, y => if chL pg sc row last todo / 2 ^ w % 2 = 1 ∧ sc 3 w &&& todo = 0 ∧ se &&& aft pg w = 0 then
      nx row (w + 1) (clr todo w) (ah ||| 2 ^ w) (se ||| sc 6 (w + 1)) (yg (lpW nx row last todo ah se w y), ys (lpW nx row last todo ah se w y), yl (lpW nx row last todo ah se w y), updN (yb (lpW nx row last todo ah se w y)) w (ah ||| clr se w), yo (lpW nx row last todo ah se w y), yh (lpW nx row last todo ah se w y))
      else lpW nx row last todo ah se w y
def layS (d : Nat) (nx : NY) : NY := fun row last todo ah se y =>
  if 11 < d then y else if todo = 0 then stR pg E md Ac mb sc rg cv nx row (yg y, ys y, updN (yl y) row last, yb y, yo y, yh y) else lpW pg sc nx row last todo ah se Ac y
def layN : Nat → NY
  | 0 => layS pg E md Ac mb sc rg cv 12 (fun _ _ _ _ _ y => y)
  | k + 1 => layS pg E md Ac mb sc rg cv (11 - k) (layN k)
end GY
def ymono (nx : NY) : Prop := ∀ a b k e f y, gle (yg y) (yg (nx a b k e f y))
section GY2
variable {pg : Nat → Nat → Nat} {E md Ac mb : Nat} {sc : Nat → Nat → Nat} {rg cv : Nat → Int32} {nx : NY} {y : Y9}
theorem yg_clH {r : Nat} : yg (clH pg md Ac mb sc r y) = yg y := by unfold clH; split <;> rfl
theorem gle_endY : gle (yg y) (yg (endY pg E md Ac mb sc rg cv y)) := by
  unfold endY; split
  · exact gle_out
  · exact gle_rf
theorem gle_stR (hmo : ymono nx) {r : Nat} : gle (yg y) (yg (stR pg E md Ac mb sc rg cv nx r y)) := by
  unfold stR; split
  · have := gle_endY (pg := pg) (E := E) (md := md) (Ac := Ac) (mb := mb) (sc := sc) (rg := rg) (cv := cv) (y := clH pg md Ac mb sc r y)
    rw [yg_clH] at this; exact this
  · have := hmo (r - 1) 0 (wrR pg (r - 1) &&& mb) 0 (sc 7 (r - 1)) (clH pg md Ac mb sc r y)
    rw [yg_clH] at this; exact this
theorem gle_lpW (hmo : ymono nx) {row last todo ah se i : Nat} : ∀ {n : Nat}, i ≤ n → gle (yg (lpW pg sc nx row last todo ah se i y)) (yg (lpW pg sc nx row last todo ah se n y))
  | 0, h => by rw [Nat.le_zero.mp h]; exact gle_rf
  | n + 1, h => by
    rcases Nat.lt_or_eq_of_le h with q | q
    · refine gle_tr (gle_lpW hmo (Nat.le_of_lt_succ q)) ?_
      rw [lpW]; split
      · exact hmo row (n + 1) (clr todo n) (ah ||| 2 ^ n) (se ||| sc 6 (n + 1)) (yg (lpW pg sc nx row last todo ah se n y), ys (lpW pg sc nx row last todo ah se n y), yl (lpW pg sc nx row last todo ah se n y), updN (yb (lpW pg sc nx row last todo ah se n y)) n (ah ||| clr se n), yo (lpW pg sc nx row last todo ah se n y), yh (lpW pg sc nx row last todo ah se n y))
      · exact gle_rf
    · rw [q]; exact gle_rf
theorem ymono_lay (hmo : ymono nx) {d : Nat} : ymono (layS pg E md Ac mb sc rg cv d nx) := fun a b k e f y => by
  unfold layS; split
  · exact gle_rf
  · split
    · exact gle_stR hmo (y := (yg y, ys y, updN (yl y) a b, yb y, yo y, yh y))
    · exact gle_lpW hmo (i := 0) (Nat.zero_le _)
theorem ymono_N : ∀ k, ymono (layN pg E md Ac mb sc rg cv k)
  | 0 => ymono_lay (fun _ _ _ _ _ _ => gle_rf)
  | k + 1 => ymono_lay (ymono_N k)
end GY2
