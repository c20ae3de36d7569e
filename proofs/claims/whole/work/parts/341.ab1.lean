/-- a state of models 0 to 2 as both sides see it: places, registers, memory, buffers (3 * thread, with a buffer for each variable: 3 * thread + variable) -/
abbrev AB := (Nat → Nat) × (Nat → Int32) × (Nat → Int32) × (Nat → List (Nat × Int32))
def cutN (n : Nat) (f : Nat → Nat) : Nat → Nat := fun i => if i < n then f i else 0
def cutI (n : Nat) (f : Nat → Int32) : Nat → Int32 := fun i => if i < n then f i else 0
theorem cutN_cg {n : Nat} {f g : Nat → Nat} (h : ∀ i, i < n → f i = g i) : cutN n f = cutN n g := by
  funext i; unfold cutN
  by_cases c : i < n
  · rw [if_pos c, if_pos c, h i c]
  · rw [if_neg c, if_neg c]
theorem cutI_cg {n : Nat} {f g : Nat → Int32} (h : ∀ i, i < n → f i = g i) : cutI n f = cutI n g := by
  funext i; unfold cutI
  by_cases c : i < n
  · rw [if_pos c, if_pos c, h i c]
  · rw [if_neg c, if_neg c]
theorem cutN_at {n i : Nat} {f : Nat → Nat} (h : i < n) : cutN n f i = f i := by unfold cutN; exact if_pos h
theorem cutI_at {n i : Nat} {f : Nat → Int32} (h : i < n) : cutI n f i = f i := by unfold cutI; exact if_pos h
theorem cutN_up {n i v : Nat} {f : Nat → Nat} (hi : i < n) : cutN n (updN f i v) = updN (cutN n f) i v := by
  funext j; unfold cutN updN
  by_cases e : j = i
  · rw [e, if_pos hi, if_pos rfl, if_pos rfl]
  · rw [if_neg e, if_neg e]
theorem cutI_up {n i : Nat} {v : Int32} {f : Nat → Int32} (hi : i < n) : cutI n (upd f i v) = upd (cutI n f) i v := by
  funext j
  by_cases e : j = i
  · rw [e, pk_us, cutI_at hi, pk_us]
  · rw [pk_un e]; unfold cutI; rw [pk_un e]
def updB (b : Nat → List (Nat × Int32)) (j : Nat) (L : List (Nat × Int32)) : Nat → List (Nat × Int32) := fun i => if i = j then L else b i
def bj (md t x : Nat) : Nat := if md = 1 then 3 * t else 3 * t + x
def rdL (x : Nat) (m0 : Int32) (L : List (Nat × Int32)) : Int32 := L.foldl (fun v e => if e.1 = x then e.2 else v) m0
def skA (zs vx rr : Nat → Nat) (vv : Nat → Int32) (A : AB) (t a : Nat) : AB :=
  (updN A.1 t (if A.2.1 (2 * t + rr a) = vv a then A.1 t + 1 else if zs t < A.1 t + 1 + vx a then zs t else A.1 t + 1 + vx a), A.2)
def tuA (kd vx rr : Nat → Nat) (vv : Nat → Int32) (A : AB) (t a : Nat) : AB :=
  if kd a = 0 then (updN A.1 t (A.1 t + 1), upd A.2.1 (2 * t + rr a) (A.2.2.1 (vx a)), A.2.2)
  else if kd a = 1 then (updN A.1 t (A.1 t + 1), A.2.1, upd A.2.2.1 (vx a) (vv a), A.2.2.2)
  else if kd a = 2 then (updN A.1 t (A.1 t + 1), A.2.1, upd A.2.2.1 (vx a) (A.2.1 (2 * t + rr a) + vv a), A.2.2.2)
  else if kd a = 3 then (updN A.1 t (A.1 t + 1), upd A.2.1 (2 * t + rr a) (A.2.2.1 (vx a)), upd A.2.2.1 (vx a) (A.2.2.1 (vx a) + vv a), A.2.2.2)
  else (updN A.1 t (A.1 t + 1), A.2)
def buA (md : Nat) (kd vx rr : Nat → Nat) (vv : Nat → Int32) (A : AB) (t a : Nat) : AB :=
  if kd a = 0 then (updN A.1 t (A.1 t + 1), upd A.2.1 (2 * t + rr a) (rdL (vx a) (A.2.2.1 (vx a)) (A.2.2.2 (bj md t (vx a)))), A.2.2)
  else (updN A.1 t (A.1 t + 1), A.2.1, A.2.2.1, updB A.2.2.2 (bj md t (vx a)) (A.2.2.2 (bj md t (vx a)) ++ [(vx a, if kd a = 1 then vv a else A.2.1 (2 * t + rr a) + vv a)]))
abbrev emA (b : Nat → List (Nat × Int32)) (t : Nat) : Prop := b (3 * t) = [] ∧ b (3 * t + 1) = [] ∧ b (3 * t + 2) = []
def flA (A : AB) (j : Nat) : Option AB :=
  match A.2.2.2 j with
  | [] => none
  | e :: L => some (A.1, A.2.1, upd A.2.2.1 e.1 e.2, updB A.2.2.2 j L)
/-- a step of models 0 to 2 -/
def aF (md : Nat) (zs kd vx rr : Nat → Nat) (vv : Nat → Int32) (A : AB) (t cn : Nat) : Option AB :=
  if A.1 t < zs t ∧ kd (7 * t + A.1 t) = 5 ∧ cn = 0 then some (skA zs vx rr vv A t (7 * t + A.1 t))
  else if 0 < cn then (if (md = 1 ∧ cn = 1) ∨ (md = 2 ∧ cn ≤ 3) then flA A (3 * t + (cn - 1)) else none)
  else if A.1 t < zs t then
    if md = 0 then some (tuA kd vx rr vv A t (7 * t + A.1 t))
    else if kd (7 * t + A.1 t) = 3 ∨ kd (7 * t + A.1 t) = 4 then (if emA A.2.2.2 t then some (tuA kd vx rr vv A t (7 * t + A.1 t)) else none)
    else some (buA md kd vx rr vv A t (7 * t + A.1 t))
  else none
/-- the reference's buffers as a list -/
def glR (sf : Nat → Int32) (nb : Nat) : List (Nat × Nat × Int32) := (List.range nb).map (fun k => ((sf (16 + k)).toNatClampNeg, (sf (23 + k)).toNatClampNeg, sf (30 + k)))
def fbL (md j : Nat) (G : List (Nat × Nat × Int32)) : List (Nat × Int32) := (G.filter (fun e => decide (bj md e.1 e.2.1 = j))).map (fun e => e.2)
def abR (md : Nat) (sf : Nat → Int32) : AB :=
  (cutN 4 (fun t => (sf t).toNatClampNeg), cutI 8 (fun k => sf (4 + k)), cutI 3 (fun x => sf (12 + x)), fun j => if md = 0 then [] else fbL md j (glR sf (sf 15).toNatClampNeg))
theorem glR_cg {sf s2 : Nat → Int32} {nb : Nat} (h : ∀ i, 16 ≤ i → i < 37 → s2 i = sf i) (hn : nb ≤ 7) : glR s2 nb = glR sf nb := by
  unfold glR
  refine List.map_congr_left (fun k hk => ?_)
  have hk := List.mem_range.mp hk
  rw [h (16 + k) (by omega) (by omega), h (23 + k) (by omega) (by omega), h (30 + k) (by omega) (by omega)]
theorem abR_up {md : Nat} {sf s2 : Nat → Int32} {t p : Nat} {R M : Nat → Int32} (ht : t < 4) (hp : p < 100) (e1 : s2 t = nI p) (e2 : ∀ i, i < 4 → i ≠ t → s2 i = sf i) (e3 : ∀ k, k < 8 → s2 (4 + k) = R k) (e4 : ∀ x, x < 3 → s2 (12 + x) = M x)
    (e5 : ∀ i, 15 ≤ i → i < 37 → s2 i = sf i) (hn : (sf 15).toNatClampNeg ≤ 7) : abR md s2 = (updN (abR md sf).1 t p, cutI 8 R, cutI 3 M, (abR md sf).2.2.2) := by
  unfold abR
  rw [cutI_cg e3, cutI_cg e4, e5 15 (by omega) (by omega), glR_cg (fun i h1 h2 => e5 i (by omega) h2) hn, ← cutN_up ht]
  rw [cutN_cg (fun i hi => ?_)]
  by_cases c : i = t
  · rw [c, e1, nI_clamp (by omega)]; unfold updN; rw [if_pos rfl]
  · rw [e2 i hi c]; unfold updN; rw [if_neg c]
theorem nI_inj9 {a b : Nat} (ha : a < 1000) (hb : b < 1000) (h : nI a = nI b) : a = b := by
  rw [← nI_clamp (n := a) (by omega), h, nI_clamp (by omega)]
theorem fbL_app {md j : Nat} {G H : List (Nat × Nat × Int32)} : fbL md j (G ++ H) = fbL md j G ++ fbL md j H := by
  unfold fbL; rw [List.filter_append, List.map_append]
theorem fbL_1 {md j : Nat} {e : Nat × Nat × Int32} (h : bj md e.1 e.2.1 = j) : fbL md j [e] = [e.2] := by
  unfold fbL; rw [List.filter_cons_of_pos (by exact decide_eq_true h)]; rfl
theorem fbL_0 {md j : Nat} {e : Nat × Nat × Int32} (h : ¬ bj md e.1 e.2.1 = j) : fbL md j [e] = [] := by
  unfold fbL; rw [List.filter_cons_of_neg (by rw [decide_eq_false h]; decide)]; rfl
theorem glR_s {sf : Nat → Int32} {n : Nat} : glR sf (n + 1) = glR sf n ++ [((sf (16 + n)).toNatClampNeg, (sf (23 + n)).toNatClampNeg, sf (30 + n))] := by
  unfold glR; rw [List.range_succ, List.map_append]; rfl
theorem rdL_app {x : Nat} {m0 : Int32} {L M : List (Nat × Int32)} : rdL x m0 (L ++ M) = rdL x (rdL x m0 L) M := by unfold rdL; exact List.foldl_append
theorem bj_1 {t x : Nat} : bj 1 t x = 3 * t := if_pos rfl
theorem bj_2 {t x : Nat} : bj 2 t x = 3 * t + x := if_neg (by decide)
theorem nI_neg : ∀ x, x < 3 → ¬ nI x < 0 := by decide
theorem rd_eq {md : Nat} {sf : Nat → Int32} {bt bx : Nat → Nat} {t x : Nat} {m0 : Int32} (hmd : md = 1 ∨ md = 2) (ht : t < 4) (hx : x < 3) : ∀ nb, (∀ k, k < nb → sf (16 + k) = nI (bt k) ∧ bt k < 4 ∧ sf (23 + k) = nI (bx k) ∧ bx k < 3) →
    rdV sf t (nI x) m0 nb = rdL x m0 (fbL md (bj md t x) (glR sf nb))
  | 0, _ => rfl
  | n + 1, h => by
    obtain ⟨h1, h2, h3, h4⟩ := h n (Nat.lt_succ_self n)
    unfold rdV
    rw [glR_s, fbL_app, rdL_app, ← rd_eq hmd ht hx n (fun k hk => h k (by omega)), h1, h3, nI_clamp (by omega), nI_clamp (by omega)]
    by_cases c : bt n = t ∧ bx n = x
    · rw [if_pos ⟨by rw [c.1], Or.inr (by rw [c.2])⟩, c.1, c.2, fbL_1 (by exact rfl)]
      show _ = if x = x then _ else _
      rw [if_pos rfl]
    · rw [if_neg (fun q => by
        rcases q with ⟨q1, q2 | q2⟩
        · exact nI_neg x hx q2
        · exact c ⟨nI_inj9 (by omega) (by omega) q1, nI_inj9 (by omega) (by omega) q2⟩)]
      by_cases d : bj md (bt n) (bx n) = bj md t x
      · rw [fbL_1 (by exact d)]
        show _ = if bx n = x then _ else _
        rw [if_neg]
        intro e
        rcases hmd with hmd | hmd
        · subst hmd; rw [bj_1, bj_1] at d; exact c ⟨by omega, e⟩
        · subst hmd; rw [bj_2, bj_2] at d; exact c ⟨by omega, e⟩
      · rw [fbL_0 (by exact d)]; rfl
theorem in_j {md : Nat} {sf : Nat → Int32} {bt bx : Nat → Nat} {t x j k : Nat} {x9 : Int32} (hj : (md = 1 ∧ x9 = -1 ∧ j = 3 * t) ∨ (md = 2 ∧ x < 3 ∧ x9 = nI x ∧ j = 3 * t + x)) (ht : t < 4) (h : sf (16 + k) = nI (bt k) ∧ bt k < 4 ∧ sf (23 + k) = nI (bx k) ∧ bx k < 3) :
    inB sf t x9 k = decide (bj md (bt k) (bx k) = j) := by
  obtain ⟨h1, h2, h3, h4⟩ := h
  unfold inB
  rw [h1, h3]
  refine decide_eq_decide.mpr ?_
  rcases hj with ⟨e1, e2, e3⟩ | ⟨e1, e0, e2, e3⟩
  · rw [e1, e2, e3, bj_1]
    constructor
    · rintro ⟨q1, -⟩; rw [nI_inj9 (by omega) (by omega) q1]
    · intro q; exact ⟨by rw [(by omega : bt k = t)], Or.inl (by decide)⟩
  · rw [e1, e2, e3, bj_2]
    constructor
    · rintro ⟨q1, q2 | q2⟩
      · exact absurd q2 (nI_neg x e0)
      · rw [nI_inj9 (by omega) (by omega) q1, nI_inj9 (by omega) (by omega) q2]
    · intro q; exact ⟨by rw [(by omega : bt k = t)], Or.inr (by rw [(by omega : bx k = x)])⟩
theorem map_split {V : Type} (f : Nat → V) (a : Nat) : ∀ b, (List.range (a + b)).map f = (List.range a).map f ++ (List.range b).map (fun i => f (a + i))
  | 0 => by rw [Nat.add_zero, List.range_zero, List.map_nil, List.append_nil]
  | b + 1 => by
    rw [← Nat.add_assoc, List.range_succ, List.map_append, map_split f a b, List.range_succ, List.map_append, List.append_assoc]; rfl
theorem fbL_nil {md j : Nat} {G : List (Nat × Nat × Int32)} (h : ∀ e, e ∈ G → ¬ bj md e.1 e.2.1 = j) : fbL md j G = [] := by
  unfold fbL
  rw [List.filter_eq_nil_iff.mpr (fun e he q => h e he (of_decide_eq_true q))]; rfl
