theorem pop_clr : ∀ d, d < 128 → ∀ w, w < 7 → d.testBit w = true → pop7 (clr d w) + 1 = pop7 d := by decide +kernel
theorem pop_00 : ∀ d, d < 128 → (pop7 d = 0 ↔ d = 0) := by decide +kernel
/-- the state of a row that is being laid: the last one, who is to come, who is there, who is FROM one there, what is before -/
abbrev RS9 := Nat × Nat × Nat × Nat × (Nat → Nat)
def plc (sc : Nat → Nat → Nat) (g : RS9) (w : Nat) : RS9 := (w + 1, clr g.2.1 w, g.2.2.1 ||| 2 ^ w, g.2.2.2.1 ||| sc 6 (w + 1), updN g.2.2.2.2 w (g.2.2.1 ||| clr g.2.2.2.1 w))
def rsF (sc : Nat → Nat → Nat) (g : RS9) (l : List Nat) : RS9 := l.foldl (plc sc) g
def stC9 (sc : Nat → Nat → Nat) (W f0 : Nat) (l : List Nat) : Bool := decide ((rsF sc (0, W, 0, f0, fun _ => 0) l).2.1 = 0)
def nxC9 (pg : Nat → Nat → Nat) (sc : Nat → Nat → Nat) (Ac row W f0 : Nat) (l : List Nat) : List Nat := (List.range Ac).filter (fun w => okC9 pg sc row (rsF sc (0, W, 0, f0, fun _ => 0) l).1 (rsF sc (0, W, 0, f0, fun _ => 0) l).2.1 (rsF sc (0, W, 0, f0, fun _ => 0) l).2.2.2.1 w)
theorem rsF_app {sc : Nat → Nat → Nat} {g : RS9} {l m : List Nat} : rsF sc g (l ++ m) = rsF sc (rsF sc g l) m := List.foldl_append
theorem rsF_b {sc : Nat → Nat → Nat} {b : Nat → Nat} : ∀ (l : List Nat) (g h : RS9), g.1 = h.1 → g.2.1 = h.2.1 → g.2.2.1 = h.2.2.1 → g.2.2.2.1 = h.2.2.2.1 → (rsF sc g l).1 = (rsF sc h l).1 ∧ (rsF sc g l).2.1 = (rsF sc h l).2.1 ∧ (rsF sc g l).2.2.1 = (rsF sc h l).2.2.1 ∧ (rsF sc g l).2.2.2.1 = (rsF sc h l).2.2.2.1
  | [], _, _, a1, a2, a3, a4 => ⟨a1, a2, a3, a4⟩
  | w :: l, g, h, a1, a2, a3, a4 => by
    show (rsF sc (plc sc g w) l).1 = _ ∧ _
    exact rsF_b (b := b) l (plc sc g w) (plc sc h w) rfl (by unfold plc; dsimp only; rw [a2]) (by unfold plc; dsimp only; rw [a3]) (by unfold plc; dsimp only; rw [a4])
section LYP
variable {pg : Nat → Nat → Nat} {md Ac mb : Nat} {sc : Nat → Nat → Nat}
theorem ok_bit {row last todo se w : Nat} (h7 : todo < 128) (q : okC9 pg sc row last todo se w = true) : todo.testBit w = true := by
  have h1 := tb_div.mp (of_decide_eq_true q).1
  unfold chL at h1
  split at h1
  · have hl : adL pg row todo < 128 := by
      unfold adL
      split
      · decide
      · exact and_lt h7
    rw [andn_b h7 hl, Bool.and_eq_true] at h1
    exact h1.1
  · unfold bdL at h1
    rw [Nat.testBit_and, Bool.and_eq_true] at h1
    have h2 := h1.1
    unfold adL at h2
    split at h2
    · rw [Nat.zero_testBit] at h2; exact absurd h2 Bool.false_ne_true
    · rw [Nat.testBit_and, Bool.and_eq_true] at h2; exact h2.1
def tlC (pg : Nat → Nat → Nat) (md Ac mb : Nat) (sc : Nat → Nat → Nat) (R row : Nat) (x : LF9) : List LF9 := if row = 0 then [x] else lyC pg md Ac mb sc R (row - 1) 0 (wrR pg (row - 1) &&& mb) 0 (sc 7 (row - 1)) (hpC pg md Ac mb sc row x)
/-- the class lays a row -/
theorem ly_row {row W f0 : Nat} {x : LF9} {R : Nat} : ∀ n (l : List Nat) (g : RS9), g = rsF sc (0, W, 0, f0, x.2.1) l → g.2.1 < 128 → pop7 g.2.1 = n →
    lyC pg md Ac mb sc (n + 1 + R) row g.1 g.2.1 g.2.2.1 g.2.2.2.1 (x.1, g.2.2.2.2, x.2.2) = (enL (stC9 sc W f0) (nxC9 pg sc Ac row W f0) (n + 1) l).flatMap (fun m => tlC pg md Ac mb sc R row (updN x.1 row (rsF sc (0, W, 0, f0, x.2.1) m).1, (rsF sc (0, W, 0, f0, x.2.1) m).2.2.2.2, x.2.2))
  | 0, l, g, hg, h7, hn => by
    have z : g.2.1 = 0 := (pop_00 _ h7).mp hn
    have zs : stC9 sc W f0 l = true := by
      unfold stC9
      have e := (rsF_b (sc := sc) (b := x.2.1) l (0, W, 0, f0, x.2.1) (0, W, 0, f0, fun _ => 0) rfl rfl rfl rfl).2.1
      rw [← hg] at e
      rw [← e]; exact decide_eq_true z
    rw [(by omega : 0 + 1 + R = R + 1), lyC, if_pos z]
    have e1 : enL (stC9 sc W f0) (nxC9 pg sc Ac row W f0) (0 + 1) l = [l] := by unfold enL; exact if_pos zs
    rw [e1, List.flatMap_cons, List.flatMap_nil, List.append_nil, ← hg]
    unfold tlC
    rfl
  | n + 1, l, g, hg, h7, hn => by
    have z : ¬ g.2.1 = 0 := fun q => by rw [(pop_00 _ h7).mpr q] at hn; exact absurd hn.symm (Nat.succ_ne_zero n)
    obtain ⟨b1, b2, b3, b4⟩ := rsF_b (sc := sc) (b := x.2.1) l (0, W, 0, f0, x.2.1) (0, W, 0, f0, fun _ => 0) rfl rfl rfl rfl
    rw [← hg] at b1 b2 b3 b4
    have zs : ¬ stC9 sc W f0 l = true := fun q => by
      unfold stC9 at q
      rw [← b2] at q; exact z (of_decide_eq_true q)
    have e1 : enL (stC9 sc W f0) (nxC9 pg sc Ac row W f0) (n + 1 + 1) l = (nxC9 pg sc Ac row W f0 l).flatMap (fun a => enL (stC9 sc W f0) (nxC9 pg sc Ac row W f0) (n + 1) (l ++ [a])) := by
      rw [enL]; exact if_neg zs
    have e2 : nxC9 pg sc Ac row W f0 l = (List.range Ac).filter (fun w => okC9 pg sc row g.1 g.2.1 g.2.2.2.1 w) := by
      unfold nxC9; rw [← b1, ← b2, ← b4]
    rw [(by omega : n + 1 + 1 + R = (n + 1 + R) + 1), lyC, if_neg z, e1, flat_as, e2]
    refine fl_cg _ (fun w hw => ?_)
    have hok := (List.mem_filter.mp hw).2
    have hb := ok_bit h7 hok
    have w7 := bit_hi h7 hb
    have ih := ly_row (row := row) (W := W) (f0 := f0) (x := x) (R := R) n (l ++ [w]) (plc sc g w) (by rw [rsF_app, ← hg]; rfl) (clr_lt h7) (by have := pop_clr _ h7 w w7 hb; show pop7 (clr g.2.1 w) = n; omega)
    exact ih
/-- who is of a row -/
def wRw (pg : Nat → Nat → Nat) (mb row : Nat) : Nat := wrR pg row &&& mb
def plC (pg : Nat → Nat → Nat) (Ac mb : Nat) (sc : Nat → Nat → Nat) (row : Nat) : List (List Nat) := enL (stC9 sc (wRw pg mb row) (sc 7 row)) (nxC9 pg sc Ac row (wRw pg mb row) (sc 7 row)) (pop7 (wRw pg mb row) + 1) []
def apC (pg : Nat → Nat → Nat) (mb : Nat) (sc : Nat → Nat → Nat) (row : Nat) (x : LF9) (l : List Nat) : LF9 := (updN x.1 row (rsF sc (0, wRw pg mb row, 0, sc 7 row, x.2.1) l).1, (rsF sc (0, wRw pg mb row, 0, sc 7 row, x.2.1) l).2.2.2.2, x.2.2)
/-- all rows from row down -/
def prW (pg : Nat → Nat → Nat) (Ac mb : Nat) (sc : Nat → Nat → Nat) : Nat → (Nat → List Nat) → List (Nat → List Nat)
  | 0, RW => (plC pg Ac mb sc 0).map (fun l => updR RW 0 l)
  | row + 1, RW => (plC pg Ac mb sc (row + 1)).flatMap (fun l => prW pg Ac mb sc row (updR RW (row + 1) l))
/-- what such rows make -/
def lfW (pg : Nat → Nat → Nat) (md Ac mb : Nat) (sc : Nat → Nat → Nat) : Nat → (Nat → List Nat) → LF9 → LF9
  | 0, RW, x => apC pg mb sc 0 x (RW 0)
  | row + 1, RW, x => lfW pg md Ac mb sc row RW (hpC pg md Ac mb sc (row + 1) (apC pg mb sc (row + 1) x (RW (row + 1))))
def ndC (pg : Nat → Nat → Nat) (mb : Nat) : Nat → Nat
  | 0 => pop7 (wRw pg mb 0) + 1
  | row + 1 => ndC pg mb row + (pop7 (wRw pg mb (row + 1)) + 1)
theorem prW_hi {RW : Nat → List Nat} {L : Nat → List Nat} : ∀ row, L ∈ prW pg Ac mb sc row RW → (∀ y, row < y → L y = RW y) ∧ ∀ y, y ≤ row → L y ∈ plC pg Ac mb sc y
  | 0, h => by
    obtain ⟨l, hl, rfl⟩ := List.mem_map.mp h
    exact ⟨fun y hy => updR_o (by omega), fun y hy => by rw [(by omega : y = 0), updR_s]; exact hl⟩
  | row + 1, h => by
    obtain ⟨l, hl, h⟩ := List.mem_flatMap.mp h
    obtain ⟨h1, h2⟩ := prW_hi row h
    refine ⟨fun y hy => by rw [h1 y (by omega), updR_o (by omega)], fun y hy => ?_⟩
    by_cases e : y = row + 1
    · rw [e, h1 (row + 1) (Nat.lt_succ_self row), updR_s]; exact hl
    · exact h2 y (by omega)
theorem lfW_cg {RW L : Nat → List Nat} : ∀ row x, (∀ y, y ≤ row → RW y = L y) → lfW pg md Ac mb sc row RW x = lfW pg md Ac mb sc row L x
  | 0, x, h => by unfold lfW; rw [h 0 (Nat.le_refl 0)]
  | row + 1, x, h => by
    unfold lfW
    rw [h (row + 1) (Nat.le_refl _)]
    exact lfW_cg row _ (fun y hy => h y (by omega))
/-- the class's leaves are the rows, one by one -/
theorem ly_prod (hw : ∀ q, wRw pg mb q < 128) : ∀ row k x (RW : Nat → List Nat), ndC pg mb row ≤ k → lyC pg md Ac mb sc k row 0 (wRw pg mb row) 0 (sc 7 row) x = (prW pg Ac mb sc row RW).map (fun L => lfW pg md Ac mb sc row L x)
  | 0, k, x, RW, hk => by
    unfold ndC at hk
    have h := ly_row (pg := pg) (md := md) (Ac := Ac) (mb := mb) (sc := sc) (row := 0) (W := wRw pg mb 0) (f0 := sc 7 0) (x := x) (R := k - (pop7 (wRw pg mb 0) + 1)) (pop7 (wRw pg mb 0)) [] (0, wRw pg mb 0, 0, sc 7 0, x.2.1) rfl (hw 0) rfl
    rw [(by omega : pop7 (wRw pg mb 0) + 1 + (k - (pop7 (wRw pg mb 0) + 1)) = k)] at h
    have h' : lyC pg md Ac mb sc k 0 0 (wRw pg mb 0) 0 (sc 7 0) x = _ := h
    rw [h']
    unfold prW
    rw [List.map_map]
    have e : ∀ l : List (List Nat), l.flatMap (fun m => tlC pg md Ac mb sc (k - (pop7 (wRw pg mb 0) + 1)) 0 (updN x.1 0 (rsF sc (0, wRw pg mb 0, 0, sc 7 0, x.2.1) m).1, (rsF sc (0, wRw pg mb 0, 0, sc 7 0, x.2.1) m).2.2.2.2, x.2.2)) = l.map ((fun L => lfW pg md Ac mb sc 0 L x) ∘ fun l => updR RW 0 l) := fun l => by
      induction l with
      | nil => rfl
      | cons m l ih =>
        rw [List.flatMap_cons, List.map_cons, ih]
        show [_] ++ _ = _ :: _
        refine congrArg (fun z => z :: _) ?_
        show _ = apC pg mb sc 0 x (updR RW 0 m 0)
        rw [updR_s]; rfl
    exact e _
  | row + 1, k, x, RW, hk => by
    unfold ndC at hk
    have h := ly_row (pg := pg) (md := md) (Ac := Ac) (mb := mb) (sc := sc) (row := row + 1) (W := wRw pg mb (row + 1)) (f0 := sc 7 (row + 1)) (x := x) (R := k - (pop7 (wRw pg mb (row + 1)) + 1)) (pop7 (wRw pg mb (row + 1))) [] (0, wRw pg mb (row + 1), 0, sc 7 (row + 1), x.2.1) rfl (hw _) rfl
    rw [(by omega : pop7 (wRw pg mb (row + 1)) + 1 + (k - (pop7 (wRw pg mb (row + 1)) + 1)) = k)] at h
    have h' : lyC pg md Ac mb sc k (row + 1) 0 (wRw pg mb (row + 1)) 0 (sc 7 (row + 1)) x = _ := h
    rw [h']
    unfold prW
    rw [List.map_flatMap]
    refine fl_cg _ (fun m _ => ?_)
    unfold tlC
    rw [if_neg (Nat.succ_ne_zero row)]
    show lyC pg md Ac mb sc _ row 0 (wRw pg mb row) 0 (sc 7 row) _ = _
    rw [ly_prod hw row _ _ (updR RW (row + 1) m) (by omega)]
    refine List.map_congr_left (fun L hL => ?_)
    have e := (prW_hi row hL).1 (row + 1) (Nat.lt_succ_self row)
    rw [updR_s] at e
    show _ = lfW pg md Ac mb sc row L (hpC pg md Ac mb sc (row + 1) (apC pg mb sc (row + 1) x (L (row + 1))))
    rw [e]; rfl
end LYP
