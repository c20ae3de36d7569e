/-- a state of the class's choice of FROM: done, sources, places, registers, values, from, waits, taken -/
abbrev S8 := Nat × Int64 × (Nat → Nat) × (Nat → Int32) × (Nat → Int32) × (Nat → Nat) × (Nat → Nat) × (Nat → Nat)
def apZ (nx : NZ) (s : S8) (z : Z9) : Z9 := nx s.1 s.2.1 s.2.2.1 s.2.2.2.1 s.2.2.2.2.1 s.2.2.2.2.2.1 s.2.2.2.2.2.2.1 s.2.2.2.2.2.2.2 z
def tkE (pg : Nat → Nat → Nat) (nm : Nat → Int32) (s : S8) (fm wm tk : Nat → Nat) (a q : Nat) : S8 :=
  (s.1 ||| 2 ^ a, srcP s.2.1 q a, updN s.2.2.1 (pg 2 a) (s.2.2.1 (pg 2 a) + psP (pg 4 a) (s.2.2.2.1 (pg 6 a)) (nm a) (pg 5 a)), rgP (pg 4 a) s.2.2.2.1 s.2.2.2.2.1 (pg 6 a) q, vlP (pg 4 a) s.2.2.2.1 s.2.2.2.2.1 (nm a) a (pg 6 a) q, fm, wm, tk)
def frT (pg : Nat → Nat → Nat) (T : Nat) (s : S8) : Nat := fF (fre pg s.2.2.1 s.1 s.2.2.2.2.2.2.1) T 0
def frA (pg : Nat → Nat → Nat) (T : Nat) (s : S8) : Nat := pg 1 ((frT pg T s - 1) * 7 + s.2.2.1 (frT pg T s - 1))
def cond9 (pg : Nat → Nat → Nat) (sc : Nat → Nat → Nat) (s : S8) (a t q : Nat) : Bool := decide (mbf pg s.2.2.2.2.2.1 s.2.2.2.2.2.2.2 (sc 4) s.1 a q = true ∧ cHb pg s.2.2.1 s.1 s.2.2.2.2.2.2.1 q t = true)
def opt9 (pg : Nat → Nat → Nat) (nm : Nat → Int32) (s : S8) (a t q : Nat) : S8 :=
  if wrb s.1 q = true then tkE pg nm s (updN s.2.2.2.2.2.1 a (q + 1)) s.2.2.2.2.2.2.1 (tkS pg s.2.2.2.2.2.2.2 a q) a q
  else (s.1, s.2.1, s.2.2.1, s.2.2.2.1, s.2.2.2.2.1, updN s.2.2.2.2.2.1 a (q + 1), updN s.2.2.2.2.2.2.1 t (q + 1), tkS pg s.2.2.2.2.2.2.2 a q)
/-- the choices of FROM that the class goes through to the end -/
def chC (pg : Nat → Nat → Nat) (nm : Nat → Int32) (T Ac : Nat) (sc : Nat → Nat → Nat) : Nat → S8 → List S8
  | 0, _ => []
  | k + 1, s => if frT pg T s = 0 then (if fF (fun t => decide (s.2.2.1 t < pg 0 t)) T 0 = 0 then [s] else [])
    else if ¬ (pg 4 (frA pg T s) = 0 ∨ pg 4 (frA pg T s) = 3) then chC pg nm T Ac sc k (tkE pg nm s s.2.2.2.2.2.1 s.2.2.2.2.2.2.1 s.2.2.2.2.2.2.2 (frA pg T s) 0)
    else if s.2.2.2.2.2.2.1 (frT pg T s - 1) = 0 then ((List.range (Ac + 1)).filter (fun q => cond9 pg sc s (frA pg T s) (frT pg T s - 1) q)).flatMap (fun q => chC pg nm T Ac sc k (opt9 pg nm s (frA pg T s) (frT pg T s - 1) q))
    else chC pg nm T Ac sc k (tkE pg nm s s.2.2.2.2.2.1 (updN s.2.2.2.2.2.2.1 (frT pg T s - 1) 0) s.2.2.2.2.2.2.2 (frA pg T s) (s.2.2.2.2.2.2.1 (frT pg T s - 1) - 1))
section CHS
variable {pg : Nat → Nat → Nat} {nm : Nat → Int32} {E md T Ac : Nat} {sc : Nat → Nat → Nat}
def fnZ (pg : Nat → Nat → Nat) (E md Ac : Nat) (sc : Nat → Nat → Nat) (s : S8) (z : Z9) : Z9 := finZ pg E md Ac sc s.1 s.2.2.2.1 s.2.2.2.2.1 s.2.2.2.2.2.1 z
theorem csZ_s9 {nx : NZ} {dn : Nat} {so : Int64} {pl : Nat → Nat} {rg cv : Nat → Int32} {fm wm tk : Nat → Nat} {a t q : Nat} {z : Z9} : csZ pg nm sc nx dn so pl rg cv fm wm tk a t (q + 1) z = if mbf pg fm tk (sc 4) dn a q = true ∧ cHb pg pl dn wm q t = true then
      (if wrb dn q = true then takeZ pg nm nx dn so pl rg cv (updN fm a (q + 1)) wm (tkS pg tk a q) a q (csZ pg nm sc nx dn so pl rg cv fm wm tk a t q z) else nx dn so pl rg cv (updN fm a (q + 1)) (updN wm t (q + 1)) (tkS pg tk a q) (csZ pg nm sc nx dn so pl rg cv fm wm tk a t q z))
      else csZ pg nm sc nx dn so pl rg cv fm wm tk a t q z := rfl
theorem cs_f {nx : NZ} {r : S8 → List S8} {s : S8} {a t : Nat} {z : Z9} (h : ∀ q z, apZ nx (opt9 pg nm s a t q) z = (r (opt9 pg nm s a t q)).foldl (fun z s => fnZ pg E md Ac sc s z) z) :
    ∀ n, csZ pg nm sc nx s.1 s.2.1 s.2.2.1 s.2.2.2.1 s.2.2.2.2.1 s.2.2.2.2.2.1 s.2.2.2.2.2.2.1 s.2.2.2.2.2.2.2 a t n z = (((List.range n).filter (fun q => cond9 pg sc s a t q)).flatMap (fun q => r (opt9 pg nm s a t q))).foldl (fun z s => fnZ pg E md Ac sc s z) z
  | 0 => rfl
  | n + 1 => by
    rw [csZ_s9, cs_f h n, List.range_succ, List.filter_append, List.flatMap_append, List.foldl_append]
    by_cases q : mbf pg s.2.2.2.2.2.1 s.2.2.2.2.2.2.2 (sc 4) s.1 a n = true ∧ cHb pg s.2.2.1 s.1 s.2.2.2.2.2.2.1 n t = true
    · rw [if_pos q, List.filter_cons_of_pos (p := fun q => cond9 pg sc s a t q) (decide_eq_true q), List.filter_nil, List.flatMap_cons, List.flatMap_nil, List.append_nil, ← h n]
      unfold opt9
      by_cases w : wrb s.1 n = true
      · rw [if_pos w, if_pos w]; rfl
      · rw [if_neg w, if_neg w]; rfl
    · rw [if_neg q, List.filter_cons_of_neg (p := fun q => cond9 pg sc s a t q) (by unfold cond9; rw [decide_eq_false q]; exact Bool.false_ne_true), List.filter_nil, List.flatMap_nil]; rfl
theorem ch_f : ∀ k, k ≤ 15 → ∀ (s : S8) (z : Z9), apZ (chN pg nm E md T Ac sc k) s z = (chC pg nm T Ac sc k s).foldl (fun z s => fnZ pg E md Ac sc s z) z
  | 0, _, s, z => by
    show chZ pg nm E md T Ac sc 15 (fun _ _ _ _ _ _ _ _ z => z) s.1 s.2.1 s.2.2.1 s.2.2.2.1 s.2.2.2.2.1 s.2.2.2.2.2.1 s.2.2.2.2.2.2.1 s.2.2.2.2.2.2.2 z = z
    unfold chZ; exact if_pos (by decide)
  | k + 1, hk, s, z => by
    have ih := ch_f k (by omega)
    show chZ pg nm E md T Ac sc (14 - k) (chN pg nm E md T Ac sc k) s.1 s.2.1 s.2.2.1 s.2.2.2.1 s.2.2.2.2.1 s.2.2.2.2.2.1 s.2.2.2.2.2.2.1 s.2.2.2.2.2.2.2 z = _
    unfold chZ chC
    rw [if_neg (by omega)]
    show (if frT pg T s = 0 then _ else if ¬ (pg 4 (frA pg T s) = 0 ∨ pg 4 (frA pg T s) = 3) then _ else if s.2.2.2.2.2.2.1 (frT pg T s - 1) = 0 then _ else _) = _
    by_cases f0 : frT pg T s = 0
    · rw [if_pos f0, if_pos f0]
      by_cases e0 : fF (fun t => decide (s.2.2.1 t < pg 0 t)) T 0 = 0
      · rw [if_pos e0, if_pos e0]; rfl
      · rw [if_neg e0, if_neg e0]; rfl
    · rw [if_neg f0, if_neg f0]
      by_cases k03 : ¬ (pg 4 (frA pg T s) = 0 ∨ pg 4 (frA pg T s) = 3)
      · rw [if_pos k03, if_pos k03]
        exact ih (tkE pg nm s s.2.2.2.2.2.1 s.2.2.2.2.2.2.1 s.2.2.2.2.2.2.2 (frA pg T s) 0) z
      · rw [if_neg k03, if_neg k03]
        by_cases w0 : s.2.2.2.2.2.2.1 (frT pg T s - 1) = 0
        · rw [if_pos w0, if_pos w0]
          exact cs_f (r := chC pg nm T Ac sc k) (fun q z => ih _ z) (Ac + 1)
        · rw [if_neg w0, if_neg w0]
          exact ih (tkE pg nm s s.2.2.2.2.2.1 (updN s.2.2.2.2.2.2.1 (frT pg T s - 1) 0) s.2.2.2.2.2.2.2 (frA pg T s) (s.2.2.2.2.2.2.1 (frT pg T s - 1) - 1)) z
def mbE (pg : Nat → Nat → Nat) (s : S8) : Nat := andn s.1 (pg 9 5)
def scE (pg : Nat → Nat → Nat) (Ac : Nat) (sc : Nat → Nat → Nat) (s : S8) : Nat → Nat → Nat := scF sc (rdN pg s.2.2.2.2.2.1 (mbE pg s) Ac) (frN pg s.2.2.2.2.2.1 (mbE pg s) Ac)
def r0E (md : Nat) : Nat := if md = 3 then 4 else 3
def x0E (pg : Nat → Nat → Nat) (Ac : Nat) (s : S8) : LF9 := (fun _ => 0, bfN pg s.2.2.2.2.2.1 (mbE pg s) Ac, fun _ => 0)
/-- the rows for one choice -/
def lyE (pg : Nat → Nat → Nat) (md Ac : Nat) (sc : Nat → Nat → Nat) (s : S8) : List LF9 := lyC pg md Ac (mbE pg s) (scE pg Ac sc s) 12 (r0E md - 1) 0 (wrR pg (r0E md - 1) &&& mbE pg s) 0 (frN pg s.2.2.2.2.2.1 (mbE pg s) Ac (r0E md - 1)) (x0E pg Ac s)
def adE (pg : Nat → Nat → Nat) (E md Ac : Nat) (sc : Nat → Nat → Nat) (p : S8 × LF9) (g : G9 × Nat) : G9 × Nat := adF9 pg E md Ac (mbE pg p.1) (scE pg Ac sc p.1) p.1.2.2.2.1 p.1.2.2.2.2.1 p.2 g
theorem wrR_lt9 (hPg : PgOk T Ac pg) (q : Nat) : wrR pg q < 128 := by
  unfold wrR
  split
  · exact hPg.2.2.2.2.2.2.1 4
  · exact andn_lt (hPg.2.2.2.2.2.2.2.1 q)
theorem fn_f (hPg : PgOk T Ac pg) (s : S8) (z : Z9) : (yg (zy (fnZ pg E md Ac sc s z)), ys (zy (fnZ pg E md Ac sc s z))) = (lyE pg md Ac sc s).foldl (fun g L => adE pg E md Ac sc (s, L) g) (yg (zy z), ys (zy z)) := by
  have hfen : md = 3 → ∀ i, i < Ac → pg 4 i = 4 → ¬ unp pg (mbE pg s) 3 i := fun _ i hi k4 ⟨q, q1, q2⟩ => by
    rw [Nat.testBit_and, Bool.and_eq_true] at q2
    have h := q2.1
    unfold wrR at h
    rw [if_neg (by omega), andn_b (hPg.2.2.2.2.2.2.2.1 q) (hPg.2.2.2.2.2.2.1 0), Bool.and_eq_true] at h
    have := (hPg.2.2.2.2.2.2.2.2.2.2 q i q1).mp h.1
    omega
  have hw : ∀ q, wrR pg q &&& mbE pg s < 128 := fun q => and_lt (wrR_lt9 hPg q)
  have hr : r0E md - 1 < 4 ∧ r0E md ≠ 0 ∧ (md = 3 → r0E md - 1 = 3) ∧ 2 ≤ r0E md - 1 ∧ ¬ (md = 3 ∧ r0E md = 3) := by unfold r0E; split <;> omega
  have e : zy (fnZ pg E md Ac sc s z) = layN pg E md Ac (mbE pg s) (scE pg Ac sc s) s.2.2.2.1 s.2.2.2.2.1 12 (r0E md - 1) 0 (wrR pg (r0E md - 1) &&& mbE pg s) 0 (frN pg s.2.2.2.2.2.1 (mbE pg s) Ac (r0E md - 1)) (yg (zy z), ys (zy z), yl (zy z), bfN pg s.2.2.2.2.2.1 (mbE pg s) Ac, yo (zy z), yh (zy z)) := by
    show stR pg E md Ac (mbE pg s) (scE pg Ac sc s) s.2.2.2.1 s.2.2.2.2.1 (layN pg E md Ac (mbE pg s) (scE pg Ac sc s) s.2.2.2.1 s.2.2.2.2.1 12) (r0E md) (yg (zy z), ys (zy z), yl (zy z), bfN pg s.2.2.2.2.2.1 (mbE pg s) Ac, yo (zy z), yh (zy z)) = _
    unfold stR clH
    rw [if_neg hr.2.1, if_neg hr.2.2.2.2]
    rfl
  rw [e]
  exact (lay_f hfen hw 12 (r0E md - 1) 0 _ 0 _ _ (x0E pg Ac s) hr.1 (hw _) ⟨fun i _ _ _ => rfl, fun q q1 q2 => by omega, fun m q => by have := hr.2.2.1 m; omega⟩).1
def s08 : S8 := (0, 0, fun _ => 0, fun _ => 0, fun _ => 0, fun _ => 0, fun _ => 0, fun _ => 0)
/-- all graphs that the class looks at -/
def gfL (pg : Nat → Nat → Nat) (nm : Nat → Int32) (md T Ac : Nat) (sc : Nat → Nat → Nat) : List (S8 × LF9) := (chC pg nm T Ac sc 15 s08).flatMap (fun s => (lyE pg md Ac sc s).map (fun L => (s, L)))
theorem cls_graphs_f (hPg : PgOk T Ac pg) {C : Nat} {z : Z9} : (yg (zy (srG pg nm E md T Ac sc C z)), ys (zy (srG pg nm E md T Ac sc C z))) = (gfL pg nm md T Ac (scS pg md Ac sc)).foldl (fun g p => adE pg E md Ac (scS pg md Ac sc) p g) (g0G C, 0) := by
  have h := ch_f (pg := pg) (nm := nm) (E := E) (md := md) (T := T) (Ac := Ac) (sc := scS pg md Ac sc) 15 (Nat.le_refl 15) s08 (z0G C z)
  have e : srG pg nm E md T Ac sc C z = apZ (chN pg nm E md T Ac (scS pg md Ac sc) 15) s08 (z0G C z) := rfl
  rw [e, h]
  unfold gfL
  rw [fold_flat]
  have f : ∀ (l : List S8) (z : Z9), (yg (zy (l.foldl (fun z s => fnZ pg E md Ac (scS pg md Ac sc) s z) z)), ys (zy (l.foldl (fun z s => fnZ pg E md Ac (scS pg md Ac sc) s z) z))) = l.foldl (fun g s => ((lyE pg md Ac (scS pg md Ac sc) s).map (fun L => (s, L))).foldl (fun g p => adE pg E md Ac (scS pg md Ac sc) p g) g) (yg (zy z), ys (zy z)) := fun l => by
    induction l with
    | nil => intro z; rfl
    | cons s l ih => intro z; rw [List.foldl_cons, List.foldl_cons, ih, fn_f hPg, List.foldl_map]
  exact f _ _
end CHS
