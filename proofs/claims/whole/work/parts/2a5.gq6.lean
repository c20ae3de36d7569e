def updR (RL : Nat → List Nat) (x : Nat) (l : List Nat) : Nat → List Nat := fun i => if i = x then l else RL i
/-- the arrays hold the rows -/
def okRL (RL : Nat → List Nat) (rx rs : Nat → Nat) : Prop := (∀ x, x < 4 → rs x = (RL x).length ∧ (RL x).length ≤ 7 ∧ ∀ i, i < (RL x).length → rx (7 * x + i) = (RL x).getD i 0) ∧ ∀ i, i < 28 → rx i < 28
def ndL (l : List Nat) : Prop := ∀ i j, i < l.length → j < l.length → l.getD i 0 = l.getD j 0 → i = j
theorem getD_app1 {l : List Nat} {a i : Nat} (h : i < l.length) : (l ++ [a]).getD i 0 = l.getD i 0 := by
  rw [List.getD_eq_getElem?_getD, List.getD_eq_getElem?_getD, List.getElem?_append_left h]
theorem getD_app2 {l : List Nat} {a : Nat} : (l ++ [a]).getD l.length 0 = a := by
  rw [List.getD_eq_getElem?_getD, List.getElem?_append_right (Nat.le_refl _), Nat.sub_self]; rfl
theorem memD {l : List Nat} {a : Nat} : a ∈ l ↔ ∃ i, i < l.length ∧ l.getD i 0 = a := by
  rw [List.mem_iff_getElem]
  constructor
  · intro ⟨n, h, e⟩; exact ⟨n, h, by rw [List.getD_eq_getElem?_getD, List.getElem?_eq_getElem h]; exact e⟩
  · intro ⟨n, h, e⟩; exact ⟨n, h, by rw [List.getD_eq_getElem?_getD, List.getElem?_eq_getElem h] at e; exact e⟩
theorem ndL_app {l : List Nat} {a : Nat} (h : ndL l) (ha : ¬ a ∈ l) : ndL (l ++ [a]) := fun i j hi hj e => by
  have hl : (l ++ [a]).length = l.length + 1 := by rw [List.length_append]; rfl
  rw [hl] at hi hj
  by_cases c1 : i < l.length
  · rw [getD_app1 c1] at e
    by_cases c2 : j < l.length
    · rw [getD_app1 c2] at e; exact h i j c1 c2 e
    · rw [show j = l.length from by omega, getD_app2] at e; exact absurd (memD.mpr ⟨i, c1, e⟩) ha
  · rw [show i = l.length from by omega, getD_app2] at e
    by_cases c2 : j < l.length
    · rw [getD_app1 c2] at e; exact absurd (memD.mpr ⟨j, c2, e.symm⟩) ha
    · omega
def lsL (l : List Nat) : Nat := if l.length = 0 then 0 else l.getD (l.length - 1) 0 + 1
theorem lsN_L {RL : Nat → List Nat} {rx rs : Nat → Nat} (h : okRL RL rx rs) {x : Nat} (hx : x < 4) : lsN rx rs x = lsL (RL x) := by
  obtain ⟨h1, h2, h3⟩ := h.1 x hx
  unfold lsN lsL
  rw [h1]
  by_cases c : (RL x).length = 0
  · rw [if_pos c, if_pos c]
  · rw [if_neg c, if_neg c, h3 _ (by omega)]
theorem inRw_L {RL : Nat → List Nat} {rx rs : Nat → Nat} (h : okRL RL rx rs) {x a : Nat} (hx : x < 4) : inRw rx rs a x = 0 ↔ ¬ a ∈ RL x := by
  obtain ⟨h1, h2, h3⟩ := h.1 x hx
  constructor
  · intro q m
    obtain ⟨i, hi, e⟩ := memD.mp m
    exact fF_ex (p := fun j => rx (7 * x + j) == a) (rs x) 0 i (Nat.zero_le _) (by omega) (by rw [beq_iff_eq, h3 i hi]; exact e) q
  · intro q
    refine Classical.byContradiction fun c => ?_
    obtain ⟨k1, k2, k3⟩ := fF_lt (p := fun j => rx (7 * x + j) == a) (rs x) 0 c
    rw [beq_iff_eq] at k3
    rw [h3 _ (by omega)] at k3
    exact q (memD.mpr ⟨_, by omega, k3⟩)
/-- an action may come next in a row -/
abbrev mfL (kd vx li fm hp : Nat → Nat) (ld : Nat) (l : List Nat) (a x : Nat) : Prop := x = 3 ∨ (kd a = 3 ∧ fm a = lsL l) ∨ (¬ kd a = 3 ∧ fF (fun k => decide (kd (li k) = 3 ∧ hp (li k) = 1 ∧ vx (li k) = x ∧ fm (li k) = lsL l ∧ ¬ li k ∈ l)) ld 0 = 0)
theorem mfP_L {RL : Nat → List Nat} {rx rs : Nat → Nat} (h : okRL RL rx rs) {kd vx li fm hp : Nat → Nat} {ld a x : Nat} (hx : x < 4) : mfP kd vx li fm hp rx rs ld a x ↔ mfL kd vx li fm hp ld (RL x) a x := by
  unfold mfP mfL
  rw [lsN_L h hx]
  rw [show (fun k => decide (kd (li k) = 3 ∧ hp (li k) = 1 ∧ vx (li k) = x ∧ fm (li k) = lsL (RL x) ∧ inRw rx rs (li k) x = 0)) = (fun k => decide (kd (li k) = 3 ∧ hp (li k) = 1 ∧ vx (li k) = x ∧ fm (li k) = lsL (RL x) ∧ ¬ li k ∈ RL x)) from by
    funext k; congr 1; rw [inRw_L h hx]]
theorem okRL_app {RL : Nat → List Nat} {rx rs : Nat → Nat} (h : okRL RL rx rs) {x a : Nat} (hx : x < 4) (h7 : (RL x).length < 7) (ha : a < 28) : okRL (updR RL x (RL x ++ [a])) (updN rx (7 * x + rs x) a) (updN rs x (rs x + 1)) := by
  obtain ⟨h1, h2⟩ := h
  obtain ⟨e1, e2, e3⟩ := h1 x hx
  refine ⟨fun y hy => ?_, fun i hi => ?_⟩
  · unfold updR
    by_cases e : y = x
    · subst e
      rw [if_pos rfl, updN_s, List.length_append]
      refine ⟨by rw [e1]; rfl, h7, fun i hi => ?_⟩
      replace hi : i < (RL y).length + 1 := hi
      by_cases c : i = (RL y).length
      · rw [c, getD_app2, ← e1, updN_s]
      · rw [updN_n (by omega), getD_app1 (by omega)]; exact e3 i (by omega)
    · rw [if_neg e, updN_n e]
      obtain ⟨f1, f2, f3⟩ := h1 y hy
      exact ⟨f1, f2, fun i hi => by rw [updN_n (by omega)]; exact f3 i hi⟩
  · unfold updN; split
    · exact ha
    · exact h2 i hi
theorem okRL_back {RL : Nat → List Nat} {rx rs : Nat → Nat} {x a : Nat} (hx : x < 4) (h0 : ∀ y, y < 4 → rs y = (RL y).length ∧ (RL y).length ≤ 7) (h : okRL (updR RL x (RL x ++ [a])) rx (updN rs x (rs x + 1))) : okRL RL rx rs := by
  obtain ⟨h1, h2⟩ := h
  refine ⟨fun y hy => ⟨(h0 y hy).1, (h0 y hy).2, fun i hi => ?_⟩, h2⟩
  have f3 := (h1 y hy).2.2
  unfold updR at f3
  by_cases e : y = x
  · subst e; rw [if_pos rfl] at f3
    rw [f3 i (by rw [List.length_append]; exact Nat.lt_succ_of_lt hi), getD_app1 hi]
  · rw [if_neg e] at f3; exact f3 i hi
/-- rows of actions that happen, none twice -/
def gdR (gm T : Nat) (zs kd vx hp : Nat → Nat) (RL : Nat → List Nat) : Prop := ∀ x, x < 4 → ndL (RL x) ∧ ∀ a, a ∈ RL x → (a / 7 < T ∧ a % 7 < zs (a / 7)) ∧ ofP gm kd vx hp a x
theorem gdR_app {gm T : Nat} {zs kd vx hp : Nat → Nat} {RL : Nat → List Nat} (h : gdR gm T zs kd vx hp RL) {x a : Nat} (h1 : a / 7 < T ∧ a % 7 < zs (a / 7)) (h2 : ofP gm kd vx hp a x) (h3 : ¬ a ∈ RL x) : gdR gm T zs kd vx hp (updR RL x (RL x ++ [a])) := fun y hy => by
  unfold updR
  by_cases e : y = x
  · subst e; rw [if_pos rfl]
    refine ⟨ndL_app (h y hy).1 h3, fun b hb => ?_⟩
    rcases List.mem_append.mp hb with q | q
    · exact (h y hy).2 b q
    · rw [List.mem_singleton.mp q]; exact ⟨h1, h2⟩
  · rw [if_neg e]; exact h y hy
theorem smN_mono {f : Nat → Nat} {s t : Nat} : ∀ n, s < t → t < n → smN f s + f s ≤ smN f t := fun n h1 _ => smN_lt t h1
theorem pr_len {T : Nat} {zs : Nat → Nat} (hs : smN zs T ≤ 7) {l : List Nat} (hn : ndL l) (hp : ∀ a, a ∈ l → a / 7 < T ∧ a % 7 < zs (a / 7)) : l.length ≤ 7 := by
  refine pigeon 7 l.length (fun j => smN zs (l.getD j 0 / 7) + l.getD j 0 % 7 + 1) (fun j hj => ?_) (fun j k hj hk e => ?_)
  · have h1 := hp _ (memD.mpr ⟨j, hj, rfl⟩)
    have h2 := smN_lt (f := zs) T h1.1
    show 1 ≤ smN zs (l.getD j 0 / 7) + l.getD j 0 % 7 + 1 ∧ smN zs (l.getD j 0 / 7) + l.getD j 0 % 7 + 1 ≤ 7
    omega
  · have h1 := hp _ (memD.mpr ⟨j, hj, rfl⟩)
    have h2 := hp _ (memD.mpr ⟨k, hk, rfl⟩)
    replace e : smN zs (l.getD j 0 / 7) + l.getD j 0 % 7 + 1 = smN zs (l.getD k 0 / 7) + l.getD k 0 % 7 + 1 := e
    refine hn j k hj hk ?_
    rcases Nat.lt_trichotomy (l.getD j 0 / 7) (l.getD k 0 / 7) with q | q | q
    · have := smN_lt (f := zs) _ q; omega
    · rw [q] at e; omega
    · have := smN_lt (f := zs) _ q; omega
def lvL (gv : Nat → Int32) (l : List Nat) : Int32 := if l.length = 0 then 0 else gv (l.getD (l.length - 1) 0)
def nvR (hd gv : Nat → Int32) (RL : Nat → List Nat) (k : Nat) : Int32 := if k < 8 then hd k else lvL gv (RL (k - 8))
theorem lsV_L {RL : Nat → List Nat} {rx rs : Nat → Nat} {gv : Nat → Int32} (h : okRL RL rx rs) {x : Nat} (hx : x < 4) : lsV gv rx rs x = lvL gv (RL x) := by
  obtain ⟨h1, h2, h3⟩ := h.1 x hx
  unfold lsV lvL
  rw [h1]
  by_cases c : (RL x).length = 0
  · rw [if_pos c, if_pos c]
  · rw [if_neg c, if_neg c, h3 _ (by omega)]
def rwI (gm : Nat) (kd vx hp : Nat → Nat) (mf : List Nat → Nat → Nat → Bool) (rec : (Nat → List Nat) → GG → GG) (x : Nat) (RL : Nat → List Nat) (t : Nat) (r : Bool × GG) : Nat → Bool × GG
  | 0 => r
  | i + 1 => if ofP gm kd vx hp (7 * t + i) x ∧ ¬ (7 * t + i) ∈ RL x then (true, if mf (RL x) (7 * t + i) x = true then rec (updR RL x (RL x ++ [7 * t + i])) (rwI gm kd vx hp mf rec x RL t r i).2 else (rwI gm kd vx hp mf rec x RL t r i).2) else rwI gm kd vx hp mf rec x RL t r i
def rwTt (gm : Nat) (zs kd vx hp : Nat → Nat) (mf : List Nat → Nat → Nat → Bool) (rec : (Nat → List Nat) → GG → GG) (x : Nat) (RL : Nat → List Nat) (g : GG) : Nat → Bool × GG
  | 0 => (false, g)
  | t + 1 => rwI gm kd vx hp mf rec x RL t (rwTt gm zs kd vx hp mf rec x RL g t) (zs t)
/-- all rows from row x on -/
def rwR (gm T : Nat) (zs kd vx hp : Nat → Nat) (mf : List Nat → Nat → Nat → Bool) (std : (Nat → List Nat) → Bool) (nvL : (Nat → List Nat) → List Int32) : Nat → Nat → (Nat → List Nat) → GG → GG
  | 0, _, _, g => g
  | n + 1, x, RL, g => if x = 4 then whR (std RL) (nvL RL) g else if (rwTt gm zs kd vx hp mf (rwR gm T zs kd vx hp mf std nvL n x) x RL g T).1 = true then (rwTt gm zs kd vx hp mf (rwR gm T zs kd vx hp mf std nvL n x) x RL g T).2 else rwR gm T zs kd vx hp mf std nvL n (x + 1) RL (rwTt gm zs kd vx hp mf (rwR gm T zs kd vx hp mf std nvL n x) x RL g T).2
theorem updR_o {RL : Nat → List Nat} {x y : Nat} {l : List Nat} (h : y ≠ x) : updR RL x l y = RL y := if_neg h
theorem updR_s {RL : Nat → List Nat} {x : Nat} {l : List Nat} : updR RL x l x = l := if_pos rfl
def RwM (l : Launch) (dC : Nat → ClassId) (dI : Nat → Nat → Nat) (ra : Nat) (rA : Nat → Nat) (rK9 : Nat → ClassId) (T Ac md wd mn cb ld gm : Nat) (ir mr : Int32) (zs kd vx li gq ws : Nat → Nat) (wi : Nat → Int32) (OS : Nat → List O9) (fm hp : Nat → Nat) (hd9 gv : Nat → Int32) (mf : List Nat → Nat → Nat → Bool) (std : (Nat → List Nat) → Bool) (nvL : (Nat → List Nat) → List Int32) (n : Nat) : Prop :=
  ∀ (x : Nat) (RL : Nat → List Nat) (g g2 : GG) (rx rs : Nat → Nat) (my : Nat) (nu : Nat → Nat) (ow : Nat → Nat) (rd : Nat → Nat) (bf : Nat → Nat) (sn : Nat → Nat) (mk : Nat → Nat) (hq : Nat → Nat) (nw9 : Nat → Int32) (oc9 : Nat → Int32) (om : Nat → Nat) (or9 : Nat → Nat), x ≤ 4 → okRL RL rx rs → gdR gm T zs kd vx hp RL → (∀ y, x < y → y < 4 → RL y = []) → 8 * (4 - x) + 7 ≤ n + (if x < 4 then (RL x).length else 0) + 7 → ((∀ i, nu i < 7) ∧ (∀ i, ow i < 128) ∧ (∀ i, rd i < 128) ∧ (∀ i, bf i < 128) ∧ (∀ i, sn i < 128) ∧ (∀ i, mk i < 128) ∧ (∀ i, hq i < 128) ∧ okOs (updO OS (4 + gm) g.2) om or9 oc9 ws wi) → rwR gm T zs kd vx hp mf std nvL (n + 1) x RL g = g2 → ∀ sz : Nat, Met l y_Ref_rows w_Ref_rows ({ frames := n + 8, cells := 0, slots := 0, locals := 60 * n + 400 }) (va_Pc [.ref ra, .int (nI x)] (fun U => U.heap.size = sz ∧ va_P (dC, dI) classes [oc ra 8 [.int (nI T), .int (nI Ac), .ref (rA 2), .ref (rA 3), .ref (rA 4), .ref (rA 5), .ref (rA 6), .ref (rA 7), .ref (rA 8), .ref (rA 9), .ref (rA 10), .ref (rA 11), .ref (rA 12), .ref (rA 13), .int ir, .ref (rA 15), .ref (rA 16), .ref (rA 17), .ref (rA 18), .int (nI md), .int (nI wd), .ref (rA 21), .ref (rA 22), .ref (rA 23), .int (nI mn), .ref (rA 25), .int (nI cb), .int mr, .ref (rA 28), .ref (rA 29), .ref (rA 30), .ref (rA 31), .ref (rA 32), .ref (rA 33), .ref (rA 34), .ref (rA 35), .int (nI ld), .int (nI gm), .ref (rA 38), .ref (rA 39), .ref (rA 40), .ref (rA 41), .ref (rA 42), .ref (rA 43), .ref (rA 44), .ref (rA 45), .int (nI my), .ref (rA 47)], ia (rA 2) (rK9 2) 4 (fun i => nI (zs i)), ia (rA 30) (rK9 30) 28 (fun i => nI (hp i)), ia (rA 40) (rK9 40) 28 (fun i => nI (nu i)), ia (rA 41) (rK9 41) 7 (fun i => nI (ow i)), ia (rA 42) (rK9 42) 7 (fun i => nI (rd i)), ia (rA 43) (rK9 43) 7 (fun i => nI (bf i)), ia (rA 44) (rK9 44) 7 (fun i => nI (sn i)), ia (rA 45) (rK9 45) 7 (fun i => nI (mk i)), ia (rA 47) (rK9 47) 7 (fun i => nI (hq i)), ia (rA 38) (rK9 38) 28 (fun i => nI (rx i)), ia (rA 39) (rK9 39) 4 (fun i => nI (rs i)), ia (rA 35) (rK9 35) 7 (fun i => nI (li i)), ia (rA 29) (rK9 29) 28 (fun i0 => mN (fm i0)), ia (rA 4) (rK9 4) 28 (fun i => nI (vx i)), ia (rA 3) (rK9 3) 28 (fun i => nI (kd i)), ia (rA 13) (rK9 13) 4 (fun i => nI ((updN gq gm g.1) i)), ia (rA 34) (rK9 34) 8 hd9, ia (rA 28) (rK9 28) 11 nw9, ia (rA 32) (rK9 32) 28 gv, ia (rA 9) (rK9 9) 352000 oc9, ia (rA 8) (rK9 8) 8 (fun i => nI (om i)), ia (rA 12) (rK9 12) 32000 (fun i => nI (or9 i))] U.heap ∧ va_K (dC, dI) classes [((rK9 2), .int), ((rK9 30), .boolean), ((rK9 40), .int), ((rK9 41), .int), ((rK9 42), .int), ((rK9 43), .int), ((rK9 44), .int), ((rK9 45), .int), ((rK9 47), .int), ((rK9 38), .int), ((rK9 39), .int), ((rK9 35), .int), ((rK9 29), .int), ((rK9 4), .int), ((rK9 3), .int), ((rK9 13), .int), ((rK9 34), .int), ((rK9 28), .int), ((rK9 32), .int), ((rK9 9), .short), ((rK9 8), .int), ((rK9 12), .int)] U ∧ va_D (fun _ => True) [oc ra 8 [.int (nI T), .int (nI Ac), .ref (rA 2), .ref (rA 3), .ref (rA 4), .ref (rA 5), .ref (rA 6), .ref (rA 7), .ref (rA 8), .ref (rA 9), .ref (rA 10), .ref (rA 11), .ref (rA 12), .ref (rA 13), .int ir, .ref (rA 15), .ref (rA 16), .ref (rA 17), .ref (rA 18), .int (nI md), .int (nI wd), .ref (rA 21), .ref (rA 22), .ref (rA 23), .int (nI mn), .ref (rA 25), .int (nI cb), .int mr, .ref (rA 28), .ref (rA 29), .ref (rA 30), .ref (rA 31), .ref (rA 32), .ref (rA 33), .ref (rA 34), .ref (rA 35), .int (nI ld), .int (nI gm), .ref (rA 38), .ref (rA 39), .ref (rA 40), .ref (rA 41), .ref (rA 42), .ref (rA 43), .ref (rA 44), .ref (rA 45), .int (nI my), .ref (rA 47)], ia (rA 2) (rK9 2) 4 (fun i => nI (zs i)), ia (rA 30) (rK9 30) 28 (fun i => nI (hp i)), ia (rA 40) (rK9 40) 28 (fun i => nI (nu i)), ia (rA 41) (rK9 41) 7 (fun i => nI (ow i)), ia (rA 42) (rK9 42) 7 (fun i => nI (rd i)), ia (rA 43) (rK9 43) 7 (fun i => nI (bf i)), ia (rA 44) (rK9 44) 7 (fun i => nI (sn i)), ia (rA 45) (rK9 45) 7 (fun i => nI (mk i)), ia (rA 47) (rK9 47) 7 (fun i => nI (hq i)), ia (rA 38) (rK9 38) 28 (fun i => nI (rx i)), ia (rA 39) (rK9 39) 4 (fun i => nI (rs i)), ia (rA 35) (rK9 35) 7 (fun i => nI (li i)), ia (rA 29) (rK9 29) 28 (fun i0 => mN (fm i0)), ia (rA 4) (rK9 4) 28 (fun i => nI (vx i)), ia (rA 3) (rK9 3) 28 (fun i => nI (kd i)), ia (rA 13) (rK9 13) 4 (fun i => nI ((updN gq gm g.1) i)), ia (rA 34) (rK9 34) 8 hd9, ia (rA 28) (rK9 28) 11 nw9, ia (rA 32) (rK9 32) 28 gv, ia (rA 9) (rK9 9) 352000 oc9, ia (rA 8) (rK9 8) 8 (fun i => nI (om i)), ia (rA 12) (rK9 12) 32000 (fun i => nI (or9 i))] ∧ nw U)) (va_Qv (fun _ : Unit => True) (fun _ t9 => ∃ (rx2 : Nat → Nat) (my2 : Nat) (nu2 : Nat → Nat) (ow2 : Nat → Nat) (rd2 : Nat → Nat) (bf2 : Nat → Nat) (sn2 : Nat → Nat) (mk2 : Nat → Nat) (hq2 : Nat → Nat) (nw92 : Nat → Int32) (oc92 : Nat → Int32) (om2 : Nat → Nat) (or92 : Nat → Nat), okRL RL rx2 rs ∧ (∀ i, nu2 i < 7) ∧ (∀ i, ow2 i < 128) ∧ (∀ i, rd2 i < 128) ∧ (∀ i, bf2 i < 128) ∧ (∀ i, sn2 i < 128) ∧ (∀ i, mk2 i < 128) ∧ (∀ i, hq2 i < 128) ∧ okOs (updO OS (4 + gm) g2.2) om2 or92 oc92 ws wi ∧ va_P (dC, dI) classes [oc ra 8 [.int (nI T), .int (nI Ac), .ref (rA 2), .ref (rA 3), .ref (rA 4), .ref (rA 5), .ref (rA 6), .ref (rA 7), .ref (rA 8), .ref (rA 9), .ref (rA 10), .ref (rA 11), .ref (rA 12), .ref (rA 13), .int ir, .ref (rA 15), .ref (rA 16), .ref (rA 17), .ref (rA 18), .int (nI md), .int (nI wd), .ref (rA 21), .ref (rA 22), .ref (rA 23), .int (nI mn), .ref (rA 25), .int (nI cb), .int mr, .ref (rA 28), .ref (rA 29), .ref (rA 30), .ref (rA 31), .ref (rA 32), .ref (rA 33), .ref (rA 34), .ref (rA 35), .int (nI ld), .int (nI gm), .ref (rA 38), .ref (rA 39), .ref (rA 40), .ref (rA 41), .ref (rA 42), .ref (rA 43), .ref (rA 44), .ref (rA 45), .int (nI my2), .ref (rA 47)], ia (rA 2) (rK9 2) 4 (fun i => nI (zs i)), ia (rA 30) (rK9 30) 28 (fun i => nI (hp i)), ia (rA 40) (rK9 40) 28 (fun i => nI (nu2 i)), ia (rA 41) (rK9 41) 7 (fun i => nI (ow2 i)), ia (rA 42) (rK9 42) 7 (fun i => nI (rd2 i)), ia (rA 43) (rK9 43) 7 (fun i => nI (bf2 i)), ia (rA 44) (rK9 44) 7 (fun i => nI (sn2 i)), ia (rA 45) (rK9 45) 7 (fun i => nI (mk2 i)), ia (rA 47) (rK9 47) 7 (fun i => nI (hq2 i)), ia (rA 38) (rK9 38) 28 (fun i => nI (rx2 i)), ia (rA 39) (rK9 39) 4 (fun i => nI (rs i)), ia (rA 35) (rK9 35) 7 (fun i => nI (li i)), ia (rA 29) (rK9 29) 28 (fun i0 => mN (fm i0)), ia (rA 4) (rK9 4) 28 (fun i => nI (vx i)), ia (rA 3) (rK9 3) 28 (fun i => nI (kd i)), ia (rA 13) (rK9 13) 4 (fun i => nI ((updN gq gm g2.1) i)), ia (rA 34) (rK9 34) 8 hd9, ia (rA 28) (rK9 28) 11 nw92, ia (rA 32) (rK9 32) 28 gv, ia (rA 9) (rK9 9) 352000 oc92, ia (rA 8) (rK9 8) 8 (fun i => nI (om2 i)), ia (rA 12) (rK9 12) 32000 (fun i => nI (or92 i))] t9.heap ∧ va_K (dC, dI) classes [] t9 ∧ va_D (va_A [oc ra 8 [.int (nI T), .int (nI Ac), .ref (rA 2), .ref (rA 3), .ref (rA 4), .ref (rA 5), .ref (rA 6), .ref (rA 7), .ref (rA 8), .ref (rA 9), .ref (rA 10), .ref (rA 11), .ref (rA 12), .ref (rA 13), .int ir, .ref (rA 15), .ref (rA 16), .ref (rA 17), .ref (rA 18), .int (nI md), .int (nI wd), .ref (rA 21), .ref (rA 22), .ref (rA 23), .int (nI mn), .ref (rA 25), .int (nI cb), .int mr, .ref (rA 28), .ref (rA 29), .ref (rA 30), .ref (rA 31), .ref (rA 32), .ref (rA 33), .ref (rA 34), .ref (rA 35), .int (nI ld), .int (nI gm), .ref (rA 38), .ref (rA 39), .ref (rA 40), .ref (rA 41), .ref (rA 42), .ref (rA 43), .ref (rA 44), .ref (rA 45), .int (nI my), .ref (rA 47)], ia (rA 2) (rK9 2) 4 (fun i => nI (zs i)), ia (rA 30) (rK9 30) 28 (fun i => nI (hp i)), ia (rA 40) (rK9 40) 28 (fun i => nI (nu i)), ia (rA 41) (rK9 41) 7 (fun i => nI (ow i)), ia (rA 42) (rK9 42) 7 (fun i => nI (rd i)), ia (rA 43) (rK9 43) 7 (fun i => nI (bf i)), ia (rA 44) (rK9 44) 7 (fun i => nI (sn i)), ia (rA 45) (rK9 45) 7 (fun i => nI (mk i)), ia (rA 47) (rK9 47) 7 (fun i => nI (hq i)), ia (rA 38) (rK9 38) 28 (fun i => nI (rx i)), ia (rA 39) (rK9 39) 4 (fun i => nI (rs i)), ia (rA 35) (rK9 35) 7 (fun i => nI (li i)), ia (rA 29) (rK9 29) 28 (fun i0 => mN (fm i0)), ia (rA 4) (rK9 4) 28 (fun i => nI (vx i)), ia (rA 3) (rK9 3) 28 (fun i => nI (kd i)), ia (rA 13) (rK9 13) 4 (fun i => nI ((updN gq gm g.1) i)), ia (rA 34) (rK9 34) 8 hd9, ia (rA 28) (rK9 28) 11 nw9, ia (rA 32) (rK9 32) 28 gv, ia (rA 9) (rK9 9) 352000 oc9, ia (rA 8) (rK9 8) 8 (fun i => nI (om i)), ia (rA 12) (rK9 12) 32000 (fun i => nI (or9 i))] sz) [oc ra 8 [.int (nI T), .int (nI Ac), .ref (rA 2), .ref (rA 3), .ref (rA 4), .ref (rA 5), .ref (rA 6), .ref (rA 7), .ref (rA 8), .ref (rA 9), .ref (rA 10), .ref (rA 11), .ref (rA 12), .ref (rA 13), .int ir, .ref (rA 15), .ref (rA 16), .ref (rA 17), .ref (rA 18), .int (nI md), .int (nI wd), .ref (rA 21), .ref (rA 22), .ref (rA 23), .int (nI mn), .ref (rA 25), .int (nI cb), .int mr, .ref (rA 28), .ref (rA 29), .ref (rA 30), .ref (rA 31), .ref (rA 32), .ref (rA 33), .ref (rA 34), .ref (rA 35), .int (nI ld), .int (nI gm), .ref (rA 38), .ref (rA 39), .ref (rA 40), .ref (rA 41), .ref (rA 42), .ref (rA 43), .ref (rA 44), .ref (rA 45), .int (nI my2), .ref (rA 47)], ia (rA 2) (rK9 2) 4 (fun i => nI (zs i)), ia (rA 30) (rK9 30) 28 (fun i => nI (hp i)), ia (rA 40) (rK9 40) 28 (fun i => nI (nu2 i)), ia (rA 41) (rK9 41) 7 (fun i => nI (ow2 i)), ia (rA 42) (rK9 42) 7 (fun i => nI (rd2 i)), ia (rA 43) (rK9 43) 7 (fun i => nI (bf2 i)), ia (rA 44) (rK9 44) 7 (fun i => nI (sn2 i)), ia (rA 45) (rK9 45) 7 (fun i => nI (mk2 i)), ia (rA 47) (rK9 47) 7 (fun i => nI (hq2 i)), ia (rA 38) (rK9 38) 28 (fun i => nI (rx2 i)), ia (rA 39) (rK9 39) 4 (fun i => nI (rs i)), ia (rA 35) (rK9 35) 7 (fun i => nI (li i)), ia (rA 29) (rK9 29) 28 (fun i0 => mN (fm i0)), ia (rA 4) (rK9 4) 28 (fun i => nI (vx i)), ia (rA 3) (rK9 3) 28 (fun i => nI (kd i)), ia (rA 13) (rK9 13) 4 (fun i => nI ((updN gq gm g2.1) i)), ia (rA 34) (rK9 34) 8 hd9, ia (rA 28) (rK9 28) 11 nw92, ia (rA 32) (rK9 32) 28 gv, ia (rA 9) (rK9 9) 352000 oc92, ia (rA 8) (rK9 8) 8 (fun i => nI (om2 i)), ia (rA 12) (rK9 12) 32000 (fun i => nI (or92 i))]) (va_A [oc ra 8 [.int (nI T), .int (nI Ac), .ref (rA 2), .ref (rA 3), .ref (rA 4), .ref (rA 5), .ref (rA 6), .ref (rA 7), .ref (rA 8), .ref (rA 9), .ref (rA 10), .ref (rA 11), .ref (rA 12), .ref (rA 13), .int ir, .ref (rA 15), .ref (rA 16), .ref (rA 17), .ref (rA 18), .int (nI md), .int (nI wd), .ref (rA 21), .ref (rA 22), .ref (rA 23), .int (nI mn), .ref (rA 25), .int (nI cb), .int mr, .ref (rA 28), .ref (rA 29), .ref (rA 30), .ref (rA 31), .ref (rA 32), .ref (rA 33), .ref (rA 34), .ref (rA 35), .int (nI ld), .int (nI gm), .ref (rA 38), .ref (rA 39), .ref (rA 40), .ref (rA 41), .ref (rA 42), .ref (rA 43), .ref (rA 44), .ref (rA 45), .int (nI my), .ref (rA 47)], ia (rA 2) (rK9 2) 4 (fun i => nI (zs i)), ia (rA 30) (rK9 30) 28 (fun i => nI (hp i)), ia (rA 40) (rK9 40) 28 (fun i => nI (nu i)), ia (rA 41) (rK9 41) 7 (fun i => nI (ow i)), ia (rA 42) (rK9 42) 7 (fun i => nI (rd i)), ia (rA 43) (rK9 43) 7 (fun i => nI (bf i)), ia (rA 44) (rK9 44) 7 (fun i => nI (sn i)), ia (rA 45) (rK9 45) 7 (fun i => nI (mk i)), ia (rA 47) (rK9 47) 7 (fun i => nI (hq i)), ia (rA 38) (rK9 38) 28 (fun i => nI (rx i)), ia (rA 39) (rK9 39) 4 (fun i => nI (rs i)), ia (rA 35) (rK9 35) 7 (fun i => nI (li i)), ia (rA 29) (rK9 29) 28 (fun i0 => mN (fm i0)), ia (rA 4) (rK9 4) 28 (fun i => nI (vx i)), ia (rA 3) (rK9 3) 28 (fun i => nI (kd i)), ia (rA 13) (rK9 13) 4 (fun i => nI ((updN gq gm g.1) i)), ia (rA 34) (rK9 34) 8 hd9, ia (rA 28) (rK9 28) 11 nw9, ia (rA 32) (rK9 32) 28 gv, ia (rA 9) (rK9 9) 352000 oc9, ia (rA 8) (rK9 8) 8 (fun i => nI (om i)), ia (rA 12) (rK9 12) 32000 (fun i => nI (or9 i))] sz)) 0 0 (va_A [oc ra 8 [.int (nI T), .int (nI Ac), .ref (rA 2), .ref (rA 3), .ref (rA 4), .ref (rA 5), .ref (rA 6), .ref (rA 7), .ref (rA 8), .ref (rA 9), .ref (rA 10), .ref (rA 11), .ref (rA 12), .ref (rA 13), .int ir, .ref (rA 15), .ref (rA 16), .ref (rA 17), .ref (rA 18), .int (nI md), .int (nI wd), .ref (rA 21), .ref (rA 22), .ref (rA 23), .int (nI mn), .ref (rA 25), .int (nI cb), .int mr, .ref (rA 28), .ref (rA 29), .ref (rA 30), .ref (rA 31), .ref (rA 32), .ref (rA 33), .ref (rA 34), .ref (rA 35), .int (nI ld), .int (nI gm), .ref (rA 38), .ref (rA 39), .ref (rA 40), .ref (rA 41), .ref (rA 42), .ref (rA 43), .ref (rA 44), .ref (rA 45), .int (nI my), .ref (rA 47)], ia (rA 2) (rK9 2) 4 (fun i => nI (zs i)), ia (rA 30) (rK9 30) 28 (fun i => nI (hp i)), ia (rA 40) (rK9 40) 28 (fun i => nI (nu i)), ia (rA 41) (rK9 41) 7 (fun i => nI (ow i)), ia (rA 42) (rK9 42) 7 (fun i => nI (rd i)), ia (rA 43) (rK9 43) 7 (fun i => nI (bf i)), ia (rA 44) (rK9 44) 7 (fun i => nI (sn i)), ia (rA 45) (rK9 45) 7 (fun i => nI (mk i)), ia (rA 47) (rK9 47) 7 (fun i => nI (hq i)), ia (rA 38) (rK9 38) 28 (fun i => nI (rx i)), ia (rA 39) (rK9 39) 4 (fun i => nI (rs i)), ia (rA 35) (rK9 35) 7 (fun i => nI (li i)), ia (rA 29) (rK9 29) 28 (fun i0 => mN (fm i0)), ia (rA 4) (rK9 4) 28 (fun i => nI (vx i)), ia (rA 3) (rK9 3) 28 (fun i => nI (kd i)), ia (rA 13) (rK9 13) 4 (fun i => nI ((updN gq gm g.1) i)), ia (rA 34) (rK9 34) 8 hd9, ia (rA 28) (rK9 28) 11 nw9, ia (rA 32) (rK9 32) 28 gv, ia (rA 9) (rK9 9) 352000 oc9, ia (rA 8) (rK9 8) 8 (fun i => nI (om i)), ia (rA 12) (rK9 12) 32000 (fun i => nI (or9 i))] sz)
