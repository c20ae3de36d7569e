/-- one that stands in a row of model 3: its value, whether it is an ADD, the places that it knows -/
abbrev EK := Int32 × Nat × (Nat → Nat)
/-- a state of model 3 as both sides see it: places, registers, rows, the places that threads know -/
abbrev AK := (Nat → Nat) × (Nat → Int32) × (Nat → List EK) × (Nat → Nat → Nat)
def e0K : EK := (0, 0, fun _ => 0)
def mxK (f g : Nat → Nat) : Nat → Nat := fun y => if f y < g y then g y else f y
def shP (x pc : Nat) (f : Nat → Nat) : Nat → Nat := fun y => if y = x ∧ pc ≤ f y then f y + 1 else f y
def shE (x pc : Nat) (e : EK) : EK := (e.1, e.2.1, shP x pc e.2.2)
def updF (k : Nat → Nat → Nat) (t : Nat) (f : Nat → Nat) : Nat → Nat → Nat := fun u => if u = t then f else k u
def mvK (A : AK) (t p : Nat) : AK := (updN A.1 t p, A.2)
def lnA (A : AK) (t : Nat) (e : EK) : AK := (A.1, A.2.1, A.2.2.1, updF A.2.2.2 t (mxK (A.2.2.2 t) e.2.2))
def rgA (A : AK) (k : Nat) (v : Int32) : AK := (A.1, upd A.2.1 k v, A.2.2)
def nwK (A : AK) (t x pc : Nat) : Nat → Nat := updN (shP x pc (A.2.2.2 t)) x pc
def putA (A : AK) (t x pc : Nat) (v : Int32) (an : Nat) : AK :=
  (A.1, A.2.1, (fun y => if y = x then ((A.2.2.1 x).map (shE x pc)).take pc ++ (v, an, nwK A t x pc) :: ((A.2.2.1 x).map (shE x pc)).drop pc else (A.2.2.1 y).map (shE x pc)), fun u => if u = t then nwK A t x pc else shP x pc (A.2.2.2 u))
def atK (A : AK) (x k : Nat) : EK := (A.2.2.1 x).getD k e0K
def lnX (A : AK) (x : Nat) : Nat := (A.2.2.1 x).length
/-- a step of model 3 -/
def aK (zs kd vx rr : Nat → Nat) (vv : Nat → Int32) (A : AK) (t cn : Nat) : Option AK :=
  if ¬ A.1 t < zs t then none
  else if kd (7 * t + A.1 t) = 5 then (if cn = 0 then some (mvK A t (if A.2.1 (2 * t + rr (7 * t + A.1 t)) = vv (7 * t + A.1 t) then A.1 t + 1 else if zs t < A.1 t + 1 + vx (7 * t + A.1 t) then zs t else A.1 t + 1 + vx (7 * t + A.1 t))) else none)
  else if kd (7 * t + A.1 t) = 4 then (if cn = 0 then some (putA (lnA (mvK A t (A.1 t + 1)) t (atK A 3 (lnX A 3 - 1))) t 3 (lnX A 3) 0 1) else none)
  else if kd (7 * t + A.1 t) = 0 then
    (if A.2.2.2 t (vx (7 * t + A.1 t)) ≤ cn ∧ cn < lnX A (vx (7 * t + A.1 t)) then some (rgA (lnA (mvK A t (A.1 t + 1)) t (atK A (vx (7 * t + A.1 t)) cn)) (2 * t + rr (7 * t + A.1 t)) (atK A (vx (7 * t + A.1 t)) cn).1) else none)
  else if kd (7 * t + A.1 t) = 3 then
    (if (A.2.2.2 t (vx (7 * t + A.1 t)) ≤ cn ∧ cn < lnX A (vx (7 * t + A.1 t))) ∧ ¬ (cn + 1 < lnX A (vx (7 * t + A.1 t)) ∧ (atK A (vx (7 * t + A.1 t)) (cn + 1)).2.1 = 1) then
      some (putA (rgA (lnA (mvK A t (A.1 t + 1)) t (atK A (vx (7 * t + A.1 t)) cn)) (2 * t + rr (7 * t + A.1 t)) (atK A (vx (7 * t + A.1 t)) cn).1) t (vx (7 * t + A.1 t)) (cn + 1) ((atK A (vx (7 * t + A.1 t)) cn).1 + vv (7 * t + A.1 t)) 1) else none)
  else (if (A.2.2.2 t (vx (7 * t + A.1 t)) < cn ∧ cn ≤ lnX A (vx (7 * t + A.1 t))) ∧ ¬ (cn < lnX A (vx (7 * t + A.1 t)) ∧ (atK A (vx (7 * t + A.1 t)) cn).2.1 = 1) then
      some (putA (mvK A t (A.1 t + 1)) t (vx (7 * t + A.1 t)) cn (if kd (7 * t + A.1 t) = 1 then vv (7 * t + A.1 t) else A.2.1 (2 * t + rr (7 * t + A.1 t)) + vv (7 * t + A.1 t)) 0) else none)
def enR (sf : Nat → Int32) (w : Nat) : EK := (sf (73 + w), (sf (84 + w)).toNatClampNeg, cutN 4 (fun y => plF sf y (sf (95 + 4 * w + y))))
def rowsK (sf : Nat → Int32) (x : Nat) : List EK := if x < 4 then (List.range (zzF sf x)).map (fun q => enR sf (roF sf x q)) else []
def ktK (T : Nat) (sf : Nat → Int32) (t y : Nat) : Nat := if t < T ∧ y < 4 then plF sf y (sf (139 + 4 * t + y)) else 0
def abK (T : Nat) (sf : Nat → Int32) : AK := (cutN 4 (fun t => (sf t).toNatClampNeg), cutI 8 (fun k => sf (4 + k)), rowsK sf, ktK T sf)
theorem plF_cg {s2 sf : Nat → Int32} {y : Nat} {e : Int32} (h : ∀ q, q < 8 → s2 (41 + 8 * y + q) = sf (41 + 8 * y + q)) : plF s2 y e = plF sf y e := by
  unfold plF
  rw [fF_cg 8 0 (fun j _ hj => by rw [h j (by omega)])]
theorem plF_is {sf : Nat → Int32} {y p : Nat} {e : Int32} (hp : p < 8) (h : sf (41 + 8 * y + p) = e) (hn : ∀ q, q < p → ¬ sf (41 + 8 * y + q) = e) : plF sf y e = p := by
  obtain ⟨q1, q2, q3⟩ := plF_ok (sf := sf) (y := y) (e := e) ⟨p, hp, h⟩
  rcases Nat.lt_trichotomy (plF sf y e) p with z | z | z
  · exact absurd q2 (hn _ z)
  · exact z
  · exact absurd h (q3 p z)
theorem enR_cg {s2 sf : Nat → Int32} {w : Nat} (h : ∀ i, 37 ≤ i → (i < 139 ∨ 155 ≤ i) → s2 i = sf i) (hw : w < 11) : enR s2 w = enR sf w := by
  unfold enR
  rw [h (73 + w) (by omega) (by omega), h (84 + w) (by omega) (by omega)]
  refine congrArg (fun z => (sf (73 + w), (sf (84 + w)).toNatClampNeg, z)) (cutN_cg (fun y hy => ?_))
  rw [h (95 + 4 * w + y) (by omega) (by omega), plF_cg (fun q hq => h _ (by omega) (by omega))]
theorem zzF_cg {s2 sf : Nat → Int32} {x : Nat} (h : s2 (37 + x) = sf (37 + x)) : zzF s2 x = zzF sf x := by unfold zzF; rw [h]
theorem roF_cg {s2 sf : Nat → Int32} {x q : Nat} (h : s2 (41 + 8 * x + q) = sf (41 + 8 * x + q)) : roF s2 x q = roF sf x q := by unfold roF; rw [h]
theorem rowsK_cg {s2 sf : Nat → Int32} (h : ∀ i, 37 ≤ i → (i < 139 ∨ 155 ≤ i) → s2 i = sf i) (hz : ∀ x, x < 4 → zzF sf x ≤ 8) (hw : ∀ x q, x < 4 → q < zzF sf x → roF sf x q < 11) : rowsK s2 = rowsK sf := by
  funext x
  unfold rowsK
  by_cases c : x < 4
  · have := hz x c
    rw [if_pos c, if_pos c, zzF_cg (h _ (by omega) (by omega))]
    refine List.map_congr_left (fun q hq => ?_)
    have hq := List.mem_range.mp hq
    rw [roF_cg (h _ (by omega) (by omega)), enR_cg h (hw x q c hq)]
  · rw [if_neg c, if_neg c]
theorem ktK_cg {T : Nat} {s2 sf : Nat → Int32} (hT : T ≤ 4) (h : ∀ i, 41 ≤ i → (i < 73 ∨ (139 ≤ i ∧ i < 155)) → s2 i = sf i) : ktK T s2 = ktK T sf := by
  funext t y
  unfold ktK
  by_cases c : t < T ∧ y < 4
  · rw [if_pos c, if_pos c, h _ (by omega) (by omega), plF_cg (fun q hq => h _ (by omega) (by omega))]
  · rw [if_neg c, if_neg c]
theorem ktK_at {T : Nat} {sf : Nat → Int32} {t y : Nat} (ht : t < T) (hy : y < 4) : ktK T sf t y = plF sf y (sf (139 + 4 * t + y)) := if_pos ⟨ht, hy⟩
theorem ktK_out {T : Nat} {sf : Nat → Int32} {t y : Nat} (h : ¬ (t < T ∧ y < 4)) : ktK T sf t y = 0 := if_neg h
theorem enR_at {sf : Nat → Int32} {w y : Nat} (hy : y < 4) : (enR sf w).2.2 y = plF sf y (sf (95 + 4 * w + y)) := cutN_at (f := fun y => plF sf y (sf (95 + 4 * w + y))) hy
theorem enR_out {sf : Nat → Int32} {w y : Nat} (hy : ¬ y < 4) : (enR sf w).2.2 y = 0 := if_neg hy
theorem mxK_eq {f g : Nat → Nat} {y a b : Nat} (h1 : f y = a) (h2 : g y = b) : mxK f g y = if a < b then b else a := by unfold mxK; rw [h1, h2]
theorem updF_s {k : Nat → Nat → Nat} {t : Nat} {f : Nat → Nat} : updF k t f t = f := if_pos rfl
theorem updF_n {k : Nat → Nat → Nat} {t u : Nat} {f : Nat → Nat} (h : ¬ u = t) : updF k t f u = k u := if_neg h
section AKs
variable {T : Nat} {zs : Nat → Nat} {sf : Nat → Int32} {pl zz : Nat → Nat} {ro : Nat → Nat → Nat} {ad : Nat → Nat} {wn rm : Nat}
theorem KD_b (hT : T ≤ 4) (hz : ∀ t, t < T → zs t ≤ 7) (h : KD T zs sf pl zz ro ad wn rm) : (∀ x, x < 4 → zzF sf x = zz x ∧ zzF sf x ≤ 8) ∧ (∀ x q, x < 4 → q < zzF sf x → roF sf x q < wn ∧ roF sf x q < 11) := by
  obtain ⟨c1, c2, c3, c4, c5, c6⟩ := KD_rd hT hz h
  have hz8 := KD_z8 h
  refine ⟨fun x hx => ⟨c3 x hx, by rw [c3 x hx]; have := hz8 x hx; omega⟩, fun x q hx hq => ?_⟩
  rw [c3 x hx] at hq
  have := (c4 x hx q hq).2.2.1
  have := hz8 x hx
  omega
theorem ab_mv {t p : Nat} (hT : T ≤ 4) (hz : ∀ t, t < T → zs t ≤ 7) (h : KD T zs sf pl zz ro ad wn rm) (ht : t < 4) (hp : p < 100) : abK T (upd sf t (nI p)) = mvK (abK T sf) t p := by
  obtain ⟨b1, b2⟩ := KD_b hT hz h
  unfold abK mvK
  rw [rowsK_cg (s2 := upd sf t (nI p)) (sf := sf) (fun i h1 _ => pk_un (by omega)) (fun x hx => (b1 x hx).2) (fun x q hx hq => (b2 x q hx hq).2), ktK_cg (s2 := upd sf t (nI p)) (sf := sf) hT (fun i h1 _ => pk_un (by omega)), cutI_cg (g := fun k => sf (4 + k)) (fun k hk => pk_un (by omega)), ← cutN_up ht]
  rw [cutN_cg (fun i hi => ?_)]
  by_cases c : i = t
  · rw [c, pk_us, nI_clamp (by omega)]; unfold updN; rw [if_pos rfl]
  · rw [pk_un c]; unfold updN; rw [if_neg c]
theorem ab_rg {k : Nat} {v : Int32} (hT : T ≤ 4) (hz : ∀ t, t < T → zs t ≤ 7) (h : KD T zs sf pl zz ro ad wn rm) (hk : k < 8) : abK T (upd sf (4 + k) v) = rgA (abK T sf) k v := by
  obtain ⟨b1, b2⟩ := KD_b hT hz h
  unfold abK rgA
  rw [rowsK_cg (s2 := upd sf (4 + k) v) (sf := sf) (fun i h1 _ => pk_un (by omega)) (fun x hx => (b1 x hx).2) (fun x q hx hq => (b2 x q hx hq).2), ktK_cg (s2 := upd sf (4 + k) v) (sf := sf) hT (fun i h1 _ => pk_un (by omega)), cutN_cg (g := fun t => (sf t).toNatClampNeg) (fun t ht => by rw [pk_un (by omega)]), ← cutI_up hk]
  rw [cutI_cg (fun i hi => ?_)]
  by_cases c : i = k
  · rw [c, pk_us, pk_us]
  · rw [pk_un (by omega), pk_un c]
theorem lnF_val {f : Nat → Int32} {t w : Nat} {pi pm : Nat → Nat} {y : Nat} : ∀ n, y < n → lnF f t w pi pm n (139 + 4 * t + y) = if pm y < pi y then f (95 + 4 * w + y) else f (139 + 4 * t + y)
  | 0, h => absurd h (Nat.not_lt_zero y)
  | n + 1, h => by
    unfold lnF
    by_cases e : y = n
    · subst e
      by_cases c : pm y < pi y
      · rw [if_pos c, if_pos c, pk_us]
      · rw [if_neg c, if_neg c, lnF_o y (Or.inr (Nat.le_refl _))]
    · by_cases c : pm n < pi n
      · rw [if_pos c, pk_un (by omega)]; exact lnF_val n (by omega)
      · rw [if_neg c]; exact lnF_val n (by omega)
theorem ab_ln {t w : Nat} {pi pm : Nat → Nat} (hT : T ≤ 4) (hz : ∀ t, t < T → zs t ≤ 7) (h : KD T zs sf pl zz ro ad wn rm) (ht : t < T) (hpi : ∀ y, y < 4 → pi y = plF sf y (sf (95 + 4 * w + y))) (hpm : ∀ y, y < 4 → pm y = plF sf y (sf (139 + 4 * t + y))) : abK T (lnF sf t w pi pm 4) = lnA (abK T sf) t (enR sf w) := by
  obtain ⟨b1, b2⟩ := KD_b hT hz h
  have e : ∀ i, i < 139 ∨ 155 ≤ i → lnF sf t w pi pm 4 i = sf i := fun i hi => lnF_o 4 (by omega)
  have eo : ∀ u y, u ≠ t → y < 4 → lnF sf t w pi pm 4 (139 + 4 * u + y) = sf (139 + 4 * u + y) := fun u y hu hy => lnF_o 4 (by omega)
  unfold abK lnA
  rw [rowsK_cg (s2 := lnF sf t w pi pm 4) (sf := sf) (fun i _ h2 => e i (by omega)) (fun x hx => (b1 x hx).2) (fun x q hx hq => (b2 x q hx hq).2), cutN_cg (g := fun t => (sf t).toNatClampNeg) (fun t ht => by rw [e t (by omega)]), cutI_cg (g := fun k => sf (4 + k)) (fun k hk => e _ (by omega))]
  refine congrArg (fun z => ((_, _, _, z) : AK)) ?_
  funext u y
  show ktK T (lnF sf t w pi pm 4) u y = updF (ktK T sf) t (mxK (ktK T sf t) (enR sf w).2.2) u y
  by_cases c : u = t
  · rw [c, updF_s]
    by_cases hy : y < 4
    · rw [ktK_at ht hy, mxK_eq (ktK_at ht hy) (enR_at hy), plF_cg (sf := sf) (fun q hq => e _ (by omega)), lnF_val 4 hy, hpi y hy, hpm y hy]
      by_cases q : plF sf y (sf (139 + 4 * t + y)) < plF sf y (sf (95 + 4 * w + y))
      · rw [if_pos q, if_pos q]
      · rw [if_neg q, if_neg q]
    · rw [ktK_out (fun q => hy q.2), mxK_eq (ktK_out (fun q => hy q.2)) (enR_out hy)]; rfl
  · rw [updF_n c]
    by_cases q : u < T ∧ y < 4
    · rw [ktK_at q.1 q.2, ktK_at q.1 q.2, plF_cg (sf := sf) (fun q hq => e _ (by omega)), eo u y c q.2]
    · rw [ktK_out q, ktK_out q]
end AKs
