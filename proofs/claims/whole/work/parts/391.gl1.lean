theorem plI_cg9 {f h f2 h2 : Nat → Nat} {L : Nat} : ∀ n, (∀ i, i < n → f i = f2 i ∧ h i = h2 i) → plI f h n L = plI f2 h2 n L
  | 0, _ => rfl
  | n + 1, q => by
    obtain ⟨a, b⟩ := q n (Nat.lt_succ_self n)
    unfold plI
    rw [plI_cg9 n (fun i hi => q i (by omega)), a, b]
theorem itR_cg9 {f h f2 h2 : Nat → Nat} {Ac L : Nat} (q : ∀ i, i < Ac → f i = f2 i ∧ h i = h2 i) : ∀ n, itR f h Ac n L = itR f2 h2 Ac n L
  | 0 => rfl
  | n + 1 => by unfold itR; rw [itR_cg9 q n, plI_cg9 Ac q]
theorem tuN_at9 {pg : Nat → Nat → Nat} {bf f : Nat → Nat} {i : Nat} : ∀ n, i < n → tuN pg bf f n i = if pg 4 i = 0 then andn (bf i) (pg 8 (pg 2 i)) else bf i
  | 0, h => absurd h (Nat.not_lt_zero i)
  | n + 1, h => by
    unfold tuN
    by_cases e : i = n
    · rw [e, updN_s]
    · rw [updN_n e]; exact tuN_at9 n (by omega)
theorem hpN_at9 {pg : Nat → Nat → Nat} {M : Nat} {rd bf f : Nat → Nat} {i : Nat} : ∀ n, i < n → hpN pg M rd bf f n i = hp0 pg M rd bf i
  | 0, h => absurd h (Nat.not_lt_zero i)
  | n + 1, h => by
    unfold hpN
    by_cases e : i = n
    · rw [e, updN_s]
    · rw [updN_n e]; exact hpN_at9 n (by omega)
theorem ciN_cg9 {m N : Nat} {f g : Nat → Nat} (hm : m < N) (q : ∀ i, i < N → f i = g i) : ∀ a, a ≤ N → ∀ i, i < N → ciN m f a i = ciN m g a i
  | 0, _, i, hi => q i hi
  | a + 1, ha, i, hi => by
    have ih := ciN_cg9 hm q a (by omega)
    unfold ciN
    rw [ih a (by omega)]
    by_cases c : ciN m g a a / 2 ^ m % 2 = 1
    · rw [if_pos c, if_pos c]
      by_cases e : i = a
      · rw [e, updN_s, updN_s, ih m hm]
      · rw [updN_n e, updN_n e]; exact ih i hi
    · rw [if_neg c, if_neg c]; exact ih i hi
theorem coN_cg9 {N : Nat} {f g : Nat → Nat} (q : ∀ i, i < N → f i = g i) : ∀ m, m ≤ N → ∀ i, i < N → coN N f m i = coN N g m i
  | 0, _, i, hi => q i hi
  | m + 1, hm, i, hi => by
    unfold coN
    exact ciN_cg9 (by omega) (coN_cg9 q m (by omega)) N (Nat.le_refl N) i hi
theorem fF_cg9 {p q : Nat → Bool} (n : Nat) (h : ∀ j, j < n → p j = q j) : fF p n 0 = fF q n 0 := fF_cg n 0 (fun j _ hj => h j (by omega))
/-- what is at a leaf: the last ones of the rows, what is before, what happens -/
abbrev LF9 := (Nat → Nat) × (Nat → Nat) × (Nat → Nat)
section LYS
variable (pg : Nat → Nat → Nat) (E md Ac mb : Nat) (sc : Nat → Nat → Nat) (rg cv : Nat → Int32)
def yLF (x : LF9) : Y9 := (g0G 0, 0, x.1, x.2.1, fun _ => 0, x.2.2)
def sdL (x : LF9) : Bool := stB pg md Ac mb (scY sc (yLF x))
def adF9 (x : LF9) (g : G9 × Nat) : G9 × Nat := if sdL pg md Ac mb sc x = true then (addOut E (rK rg 7) (vK cv (x.1 0) (x.1 1) (x.1 2)) [] g.1, g.2 + 1) else g
def hpC (r : Nat) (x : LF9) : LF9 := if md = 3 ∧ r = 3 then (x.1, x.2.1, coN Ac (hpN pg mb (sc 6) x.2.1 x.2.2 Ac) Ac) else x
def okC9 (row last todo se w : Nat) : Bool := decide (chL pg sc row last todo / 2 ^ w % 2 = 1 ∧ sc 3 w &&& todo = 0 ∧ se &&& aft pg w = 0)
/-- the rows that the class lays -/
def lyC : Nat → Nat → Nat → Nat → Nat → Nat → LF9 → List LF9
  | 0, _, _, _, _, _, _ => []
  | k + 1, row, last, todo, ah, se, x => if todo = 0 then (if row = 0 then [(updN x.1 row last, x.2)] else lyC k (row - 1) 0 (wrR pg (row - 1) &&& mb) 0 (sc 7 (row - 1)) (hpC pg md Ac mb sc row (updN x.1 row last, x.2)))
    else ((List.range Ac).filter (fun w => okC9 pg sc row last todo se w)).flatMap (fun w => lyC k row (w + 1) (clr todo w) (ah ||| 2 ^ w) (se ||| sc 6 (w + 1)) (x.1, updN x.2.1 w (ah ||| clr se w), x.2.2))
def unp (r i : Nat) : Prop := ∃ q, q < r ∧ (wrR pg q &&& mb).testBit i = true
def agS (r : Nat) (y : Y9) (x : LF9) : Prop := (∀ i, i < Ac → ¬ unp pg mb r i → yb y i = x.2.1 i) ∧ (∀ q, r ≤ q → q < 3 → yl y q = x.1 q) ∧ (md = 3 → r < 3 → ∀ i, i < Ac → yh y i = x.2.2 i)
def agL (row todo : Nat) (y : Y9) (x : LF9) : Prop := (∀ i, i < Ac → ¬ todo.testBit i = true → ¬ unp pg mb row i → yb y i = x.2.1 i) ∧ (∀ q, row < q → q < 3 → yl y q = x.1 q) ∧ (md = 3 → row < 3 → ∀ i, i < Ac → yh y i = x.2.2 i)
end LYS
section LYT
variable {pg : Nat → Nat → Nat} {E md Ac mb : Nat} {sc : Nat → Nat → Nat} {rg cv : Nat → Int32}
theorem sd_cg {y : Y9} {x : LF9} (h1 : ∀ i, i < Ac → yb y i = x.2.1 i) (h2 : md = 3 → ∀ i, i < Ac → yh y i = x.2.2 i) : stB pg md Ac mb (scY sc y) = sdL pg md Ac mb sc x := by
  have e : ∀ k, k = 3 ∨ k = 4 ∨ k = 5 → ∀ y, scY sc y k = sc k := fun k hk y => by
    unfold scY
    rw [if_neg (by omega), if_neg (by omega), if_neg (by omega), if_neg (by omega)]
  have e9 : ∀ y, scY sc y 9 = yb y := fun y => rfl
  have e11 : ∀ y, scY sc y 11 = yh y := fun y => rfl
  unfold sdL stB
  rw [e 3 (by omega), e 3 (by omega), e 4 (by omega), e 4 (by omega), e 5 (by omega), e 5 (by omega), e9, e9, e11, e11]
  by_cases m0 : md = 0
  · rw [if_pos m0, if_pos m0, itR_cg9 (f2 := sc 3) (h2 := yb (yLF x)) (fun i hi => ⟨rfl, h1 i hi⟩) 7]
  · rw [if_neg m0, if_neg m0]
    by_cases m3 : md = 3
    · rw [if_pos m3, if_pos m3, fF_cg9 (q := kno mb (yb (yLF x)) (yh (yLF x))) Ac (fun i hi => ?_)]
      unfold kno
      rw [h1 i hi, h2 m3 i hi]; rfl
    · rw [if_neg m3, if_neg m3, itR_cg9 (f := sc 4) (h := yb y) (f2 := sc 4) (h2 := yb (yLF x)) (fun i hi => ⟨rfl, h1 i hi⟩) 7,
        itR_cg9 (f := sc 5) (f2 := sc 5) (h := tuN pg (yb y) (scY sc y 10) Ac) (h2 := tuN pg (yb (yLF x)) (scY sc (yLF x) 10) Ac) (fun i hi => ⟨rfl, by rw [tuN_at9 Ac hi, tuN_at9 Ac hi, h1 i hi]; rfl⟩) 7]
theorem lpW_s9 {nx : NY} {row last todo ah se w : Nat} {y : Y9} : lpW pg sc nx row last todo ah se (w + 1) y = if chL pg sc row last todo / 2 ^ w % 2 = 1 ∧ sc 3 w &&& todo = 0 ∧ se &&& aft pg w = 0 then
      nx row (w + 1) (clr todo w) (ah ||| 2 ^ w) (se ||| sc 6 (w + 1)) (yg (lpW pg sc nx row last todo ah se w y), ys (lpW pg sc nx row last todo ah se w y), yl (lpW pg sc nx row last todo ah se w y), updN (yb (lpW pg sc nx row last todo ah se w y)) w (ah ||| clr se w), yo (lpW pg sc nx row last todo ah se w y), yh (lpW pg sc nx row last todo ah se w y))
      else lpW pg sc nx row last todo ah se w y := rfl
theorem unp_s {r i : Nat} (h : ¬ unp pg mb (r + 1) i) : ¬ unp pg mb r i := fun ⟨q, q1, q2⟩ => h ⟨q, by omega, q2⟩
theorem clr_t {d a b : Nat} (hd : d < 128) (h : (clr d a).testBit b = true) : d.testBit b = true := by
  have b7 := bit_hi (clr_lt hd) h
  by_cases ha : a < 7
  · rw [clr_bit d hd a ha b b7, Bool.and_eq_true] at h; exact h.1
  · unfold clr at h
    have : d.testBit a = false := by
      cases q : d.testBit a with
      | false => rfl
      | true => exact absurd (bit_hi hd q) ha
    rw [this, if_neg Bool.false_ne_true] at h; exact h
/-- the class lays the rows: what is gathered is what its leaves give -/
theorem lay_f (hfen : md = 3 → ∀ i, i < Ac → pg 4 i = 4 → ¬ unp pg mb 3 i) (hw : ∀ q, wrR pg q &&& mb < 128) : ∀ k row last todo ah se y x, row < 4 → todo < 128 → agL pg md Ac mb row todo y x →
    ((yg (layN pg E md Ac mb sc rg cv k row last todo ah se y), ys (layN pg E md Ac mb sc rg cv k row last todo ah se y)) = (lyC pg md Ac mb sc k row last todo ah se x).foldl (fun g L => adF9 pg E md Ac mb sc rg cv L g) (yg y, ys y)) ∧ agL pg md Ac mb row todo (layN pg E md Ac mb sc rg cv k row last todo ah se y) x
  | 0, row, last, todo, ah, se, y, x, _, _, hA => by
    have e : layN pg E md Ac mb sc rg cv 0 row last todo ah se y = y := by
      unfold layN layS; exact if_pos (by decide)
    rw [e]; exact ⟨rfl, hA⟩
  | k + 1, row, last, todo, ah, se, y, x, h4, h7, hA => by
    have e : layN pg E md Ac mb sc rg cv (k + 1) row last todo ah se y = if todo = 0 then stR pg E md Ac mb sc rg cv (layN pg E md Ac mb sc rg cv k) row (yg y, ys y, updN (yl y) row last, yb y, yo y, yh y) else lpW pg sc (layN pg E md Ac mb sc rg cv k) row last todo ah se Ac y := by
      show layS pg E md Ac mb sc rg cv (11 - k) (layN pg E md Ac mb sc rg cv k) row last todo ah se y = _
      unfold layS; exact if_neg (by omega)
    rw [e]
    obtain ⟨g1, g2, g3⟩ := hA
    unfold lyC
    by_cases z : todo = 0
    · rw [if_pos z, if_pos z]
      have nz : ∀ i, ¬ todo.testBit i = true := fun i q => by rw [z, Nat.zero_testBit] at q; exact Bool.false_ne_true q
      unfold stR
      by_cases r0 : row = 0
      · rw [if_pos r0, if_pos r0]
        have ec : clH pg md Ac mb sc row (yg y, ys y, updN (yl y) row last, yb y, yo y, yh y) = (yg y, ys y, updN (yl y) row last, yb y, yo y, yh y) := by
          unfold clH; exact if_neg (by omega)
        rw [ec]
        have nu : ∀ i, ¬ unp pg mb row i := fun i ⟨q, q1, _⟩ => by omega
        have es : stB pg md Ac mb (scY sc (yg y, ys y, updN (yl y) row last, yb y, yo y, yh y)) = sdL pg md Ac mb sc (updN x.1 row last, x.2) := sd_cg (fun i hi => g1 i hi (nz i) (nu i)) (fun m i hi => g3 m (by omega) i hi)
        have el : ∀ q, q < 3 → updN (yl y) row last q = updN x.1 row last q := fun q hq => by
          by_cases e2 : q = row
          · rw [e2, updN_s, updN_s]
          · rw [updN_n e2, updN_n e2]; exact g2 q (by omega) hq
        unfold endY
        rw [es]
        cases hb : sdL pg md Ac mb sc (updN x.1 row last, x.2) with
        | true =>
          rw [if_pos rfl]
          refine ⟨?_, g1, fun q h1 h2 => ?_, fun m h i hi => g3 m h i hi⟩
          · show (addOut E (rK rg 7) (vK cv (updN (yl y) row last 0) (updN (yl y) row last 1) (updN (yl y) row last 2)) [] (yg y), ys y + 1) = adF9 pg E md Ac mb sc rg cv (updN x.1 row last, x.2) (yg y, ys y)
            unfold adF9
            rw [hb, if_pos rfl, el 0 (by omega), el 1 (by omega), el 2 (by omega)]
          · show updN (yl y) row last q = x.1 q
            rw [updN_n (by omega)]; exact g2 q h1 h2
        | false =>
          rw [if_neg Bool.false_ne_true]
          refine ⟨?_, g1, fun q h1 h2 => ?_, fun m h i hi => g3 m h i hi⟩
          · show (yg y, ys y) = adF9 pg E md Ac mb sc rg cv (updN x.1 row last, x.2) (yg y, ys y)
            unfold adF9
            rw [hb, if_neg Bool.false_ne_true]
          · show updN (yl y) row last q = x.1 q
            rw [updN_n (by omega)]; exact g2 q h1 h2
      · rw [if_neg r0, if_neg r0]
        obtain ⟨y2, hy2⟩ : ∃ y2, y2 = clH pg md Ac mb sc row (yg y, ys y, updN (yl y) row last, yb y, yo y, yh y) := ⟨_, rfl⟩
        obtain ⟨x2, hx2⟩ : ∃ x2, x2 = hpC pg md Ac mb sc row (updN x.1 row last, x.2) := ⟨_, rfl⟩
        rw [← hy2, ← hx2]
        have b2 : yb y2 = yb y ∧ yl y2 = updN (yl y) row last ∧ yg y2 = yg y ∧ ys y2 = ys y := by
          rw [hy2]; unfold clH; split <;> exact ⟨rfl, rfl, rfl, rfl⟩
        have c2 : x2.2.1 = x.2.1 ∧ x2.1 = updN x.1 row last := by
          rw [hx2]; unfold hpC; split <;> exact ⟨rfl, rfl⟩
        have h2 : ∀ i, i < Ac → md = 3 → row - 1 < 3 → yh y2 i = x2.2.2 i := fun i hi m hr => by
          by_cases r3 : row = 3
          · have ey : yh y2 = coN Ac (hpN pg mb (sc 6) (yb y) (yh y) Ac) Ac := by rw [hy2]; unfold clH; rw [if_pos ⟨m, r3⟩]; rfl
            have ex : x2.2.2 = coN Ac (hpN pg mb (sc 6) x.2.1 x.2.2 Ac) Ac := by rw [hx2]; unfold hpC; rw [if_pos ⟨m, r3⟩]
            rw [ey, ex]
            refine coN_cg9 (fun j hj => ?_) Ac (Nat.le_refl Ac) i hi
            rw [hpN_at9 Ac hj, hpN_at9 Ac hj]
            unfold hp0
            by_cases k4 : pg 4 j = 4
            · rw [if_pos k4, if_pos k4, g1 j hj (nz j) (by rw [r3]; exact hfen m j hj k4)]
            · rw [if_neg k4, if_neg k4]
          · have ey : yh y2 = yh y := by rw [hy2]; unfold clH; rw [if_neg (fun q => r3 q.2)]; rfl
            have ex : x2.2.2 = x.2.2 := by rw [hx2]; unfold hpC; rw [if_neg (fun q => r3 q.2)]
            rw [ey, ex]; exact g3 m (by omega) i hi
        have hA2 : agL pg md Ac mb (row - 1) (wrR pg (row - 1) &&& mb) y2 x2 := by
          refine ⟨fun i hi q1 q2 => ?_, fun q q1 q2 => ?_, fun m hr i hi => h2 i hi m hr⟩
          · rw [b2.1, c2.1]
            refine g1 i hi (nz i) (fun ⟨q, w1, w2⟩ => ?_)
            by_cases w : q = row - 1
            · rw [w] at w2; exact q1 w2
            · exact q2 ⟨q, by omega, w2⟩
          · rw [b2.2.1, c2.2]
            by_cases e2 : q = row
            · rw [e2, updN_s, updN_s]
            · rw [updN_n e2, updN_n e2]; exact g2 q (by omega) q2
        obtain ⟨r1, r2, r3, r4⟩ := lay_f hfen hw k (row - 1) 0 (wrR pg (row - 1) &&& mb) 0 (sc 7 (row - 1)) y2 x2 (by omega) (hw _) hA2
        rw [b2.2.2.1, b2.2.2.2] at r1
        refine ⟨r1, fun i hi q1 q2 => ?_, fun q q1 q2 => ?_, fun m hr i hi => ?_⟩
        · rw [r2 i hi (fun w => q2 ⟨row - 1, by omega, w⟩) (fun ⟨q, w1, w2⟩ => q2 ⟨q, by omega, w2⟩), c2.1]
        · rw [r3 q (by omega) q2, c2.2, updN_n (by omega)]
        · rw [r4 m (by omega) i hi]
          have ex : x2.2.2 = x.2.2 := by rw [hx2]; unfold hpC; rw [if_neg (fun q => by omega)]
          rw [ex]
    · rw [if_neg z, if_neg z]
      have lp : ∀ n, n ≤ Ac → (((yg (lpW pg sc (layN pg E md Ac mb sc rg cv k) row last todo ah se n y), ys (lpW pg sc (layN pg E md Ac mb sc rg cv k) row last todo ah se n y)) = (((List.range n).filter (fun w => okC9 pg sc row last todo se w)).flatMap (fun w => lyC pg md Ac mb sc k row (w + 1) (clr todo w) (ah ||| 2 ^ w) (se ||| sc 6 (w + 1)) (x.1, updN x.2.1 w (ah ||| clr se w), x.2.2))).foldl (fun g L => adF9 pg E md Ac mb sc rg cv L g) (yg y, ys y)) ∧
          agL pg md Ac mb row todo (lpW pg sc (layN pg E md Ac mb sc rg cv k) row last todo ah se n y) x) := by
        intro n
        induction n with
        | zero => intro _; exact ⟨rfl, g1, g2, g3⟩
        | succ n ih =>
          intro hn
          obtain ⟨i1, i2, i3, i4⟩ := ih (by omega)
          rw [List.range_succ, List.filter_append, List.flatMap_append, List.foldl_append, ← i1]
          rw [lpW_s9]
          by_cases q : chL pg sc row last todo / 2 ^ n % 2 = 1 ∧ sc 3 n &&& todo = 0 ∧ se &&& aft pg n = 0
          · rw [if_pos q, List.filter_cons_of_pos (p := fun w => okC9 pg sc row last todo se w) (decide_eq_true q), List.filter_nil, List.flatMap_cons, List.flatMap_nil, List.append_nil]
            generalize lpW pg sc (layN pg E md Ac mb sc rg cv k) row last todo ah se n y = yn at i1 i2 i3 i4 ⊢
            obtain ⟨r1, r2, r3, r4⟩ := lay_f hfen hw k row (n + 1) (clr todo n) (ah ||| 2 ^ n) (se ||| sc 6 (n + 1)) (yg yn, ys yn, yl yn, updN (yb yn) n (ah ||| clr se n), yo yn, yh yn) (x.1, updN x.2.1 n (ah ||| clr se n), x.2.2) h4 (clr_lt h7) ⟨fun i hi q1 q2 => by
              show updN (yb yn) n _ i = updN x.2.1 n _ i
              by_cases e2 : i = n
              · rw [e2, updN_s, updN_s]
              · rw [updN_n e2, updN_n e2]
                refine i2 i hi (fun w => q1 ?_) q2
                have i7 := bit_hi h7 w
                by_cases n7 : n < 7
                · rw [clr_bit todo h7 n n7 i i7, w, show (n == i) = false from by simpa using fun e => e2 e.symm]; rfl
                · unfold clr
                  have : todo.testBit n = false := by
                    cases v : todo.testBit n with
                    | false => rfl
                    | true => exact absurd (bit_hi h7 v) n7
                  rw [this, if_neg Bool.false_ne_true]; exact w, i3, i4⟩
            refine ⟨r1, fun i hi q1 q2 => ?_, r3, r4⟩
            rw [r2 i hi (fun w => q1 (clr_t h7 w)) q2]
            have hch : todo.testBit n = true := by
              have h1 := tb_div.mp q.1
              unfold chL at h1
              split at h1
              · unfold andn at h1
                have : (todo - (todo &&& adL pg row todo)).testBit n = (andn todo (adL pg row todo)).testBit n := rfl
                have hl : adL pg row todo < 128 := by
                  unfold adL
                  split
                  · decide
                  · exact and_lt h7
                rw [this, andn_b h7 hl, Bool.and_eq_true] at h1
                exact h1.1
              · unfold bdL at h1
                rw [Nat.testBit_and, Bool.and_eq_true] at h1
                have h2 := h1.1
                unfold adL at h2
                split at h2
                · rw [Nat.zero_testBit] at h2; exact absurd h2 Bool.false_ne_true
                · rw [Nat.testBit_and, Bool.and_eq_true] at h2; exact h2.1
            show updN x.2.1 n _ i = x.2.1 i
            rw [updN_n (fun e2 => q1 (by rw [e2]; exact hch))]
          · rw [if_neg q, List.filter_cons_of_neg (p := fun w => okC9 pg sc row last todo se w) (by unfold okC9; rw [decide_eq_false q]; exact Bool.false_ne_true), List.filter_nil, List.flatMap_nil]
            exact ⟨rfl, i2, i3, i4⟩
      exact lp Ac (Nat.le_refl Ac)
end LYT
