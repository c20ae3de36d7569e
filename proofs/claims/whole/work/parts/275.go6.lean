def smN (f : Nat → Nat) : Nat → Nat
  | 0 => 0
  | n + 1 => smN f n + f n
theorem smN_cg {f g : Nat → Nat} : ∀ n, (∀ i, i < n → f i = g i) → smN f n = smN g n
  | 0, _ => rfl
  | n + 1, h => by unfold smN; rw [smN_cg n (fun i hi => h i (by omega)), h n (Nat.lt_succ_self n)]
theorem smN_at {f : Nat → Nat} {i : Nat} : ∀ n, i < n → f i ≤ smN f n
  | 0, h => absurd h (Nat.not_lt_zero i)
  | n + 1, h => by
    unfold smN
    by_cases e : i = n
    · subst e; exact Nat.le_add_left _ _
    · have := smN_at (f := f) (i := i) n (by omega); omega
theorem smN_upd {zs pl : Nat → Nat} {t p : Nat} : ∀ n, t < n → pl t ≤ p → p ≤ zs t → smN (fun i => zs i - updN pl t p i) n + (p - pl t) = smN (fun i => zs i - pl i) n
  | 0, h, _, _ => absurd h (Nat.not_lt_zero t)
  | n + 1, ht, h1, h2 => by
    unfold smN
    by_cases e : t = n
    · subst e
      rw [smN_cg t (fun i hi => show zs i - updN pl t p i = zs i - pl i from by unfold updN; rw [if_neg (by omega)])]
      show smN (fun i => zs i - pl i) t + (zs t - updN pl t p t) + (p - pl t) = smN (fun i => zs i - pl i) t + (zs t - pl t)
      unfold updN; rw [if_pos rfl]; omega
    · have := smN_upd (zs := zs) (pl := pl) n (by omega) h1 h2
      show smN (fun i => zs i - updN pl t p i) n + (zs n - updN pl t p n) + (p - pl t) = smN (fun i => zs i - pl i) n + (zs n - pl n)
      rw [show updN pl t p n = pl n from by unfold updN; rw [if_neg (by omega)]]; omega
/-- a number between -b and b -/
def wB (v : Int32) (b : Nat) : Prop := -(b : Int) ≤ v.toInt ∧ v.toInt ≤ (b : Int)
theorem wB_mono {v : Int32} {b c : Nat} (h : wB v b) (hc : b ≤ c) : wB v c := by unfold wB at *; omega
theorem wB_0 {b : Nat} : wB 0 b := by unfold wB; rw [show (0 : Int32).toInt = 0 from rfl]; omega
theorem wB_add {x y : Int32} {b c : Nat} (hx : wB x b) (hy : wB y c) (h : b + c < 1000000) : wB (x + y) (b + c) := by
  unfold wB at *
  have h1 := hx.1; have h2 := hx.2; have h3 := hy.1; have h4 := hy.2
  rw [Int32.toInt_add]; unfold Int.bmod
  show -((b + c : Nat) : Int) ≤ (if (x.toInt + y.toInt) % 4294967296 < 2147483648 then (x.toInt + y.toInt) % 4294967296 else (x.toInt + y.toInt) % 4294967296 - 4294967296) ∧ (if (x.toInt + y.toInt) % 4294967296 < 2147483648 then (x.toInt + y.toInt) % 4294967296 else (x.toInt + y.toInt) % 4294967296 - 4294967296) ≤ ((b + c : Nat) : Int)
  split <;> omega
theorem wB_sm {v : Int32} {b : Nat} (h : wB v b) (hb : b ≤ 4000) : smI v := by unfold wB at h; unfold smI; omega
/-- registers and memory -/
def AllB (f : Nat → Int32) (b : Nat) : Prop := ∀ k, 4 ≤ k → k < 15 → wB (f k) b
theorem AllB_mono {f : Nat → Int32} {b c : Nat} (h : AllB f b) (hc : b ≤ c) : AllB f c := fun k h1 h2 => wB_mono (h k h1 h2) hc
theorem AllB_upd {f : Nat → Int32} {b i : Nat} {v : Int32} (h : AllB f b) (hv : wB v b) : AllB (upd f i v) b := fun k h1 h2 => by
  by_cases e : k = i
  · rw [e, pk_us]; exact hv
  · rw [pk_un e]; exact h k h1 h2
theorem AllB_out {f : Nat → Int32} {b i : Nat} {v : Int32} (h : AllB f b) (hi : i < 4 ∨ 15 ≤ i) : AllB (upd f i v) b := fun k h1 h2 => by rw [pk_un (by omega)]; exact h k h1 h2
/-- a program of the reference -/
def PrR (T : Nat) (zs kd vx rr : Nat → Nat) (vv : Nat → Int32) : Prop :=
  T ≤ 4 ∧ (∀ t, t < T → zs t ≤ 7) ∧ smN zs T ≤ 7 ∧ ∀ i, i < 28 → kd i < 6 ∧ vx i < 4 ∧ rr i < 2 ∧ wB (vv i) 9 ∧ (kd i < 4 → vx i < 3)
def skR (zs vx rr : Nat → Nat) (vv sf : Nat → Int32) (t p9 : Nat) : Nat → Int32 :=
  if sf (4 + 2 * t + rr (7 * t + p9)) = vv (7 * t + p9) then upd sf t (nI (p9 + 1)) else upd (upd sf t (nI (p9 + 1))) t (nI (if zs t < p9 + 1 + vx (7 * t + p9) then zs t else p9 + 1 + vx (7 * t + p9)))
def tuR (kd vx rr : Nat → Nat) (vv sf : Nat → Int32) (t p9 : Nat) : Nat → Int32 :=
  if kd (7 * t + p9) = 0 then upd (upd sf t (sf t + 1)) (4 + 2 * t + rr (7 * t + p9)) ((upd sf t (sf t + 1)) (12 + vx (7 * t + p9))) else if kd (7 * t + p9) = 1 then upd (upd sf t (sf t + 1)) (12 + vx (7 * t + p9)) (vv (7 * t + p9)) else if kd (7 * t + p9) = 2 then upd (upd sf t (sf t + 1)) (12 + vx (7 * t + p9)) ((upd sf t (sf t + 1)) (4 + 2 * t + rr (7 * t + p9)) + vv (7 * t + p9)) else if kd (7 * t + p9) = 3 then upd (upd (upd sf t (sf t + 1)) (4 + 2 * t + rr (7 * t + p9)) ((upd sf t (sf t + 1)) (12 + vx (7 * t + p9)))) (12 + vx (7 * t + p9)) ((upd (upd sf t (sf t + 1)) (4 + 2 * t + rr (7 * t + p9)) ((upd sf t (sf t + 1)) (12 + vx (7 * t + p9)))) (12 + vx (7 * t + p9)) + vv (7 * t + p9)) else upd sf t (sf t + 1)
def buR (kd vx rr : Nat → Nat) (vv sf : Nat → Int32) (t p9 nb : Nat) : Nat → Int32 :=
  if kd (7 * t + p9) = 0 then upd (upd sf t (sf t + 1)) (4 + 2 * t + rr (7 * t + p9)) (rdV (upd sf t (sf t + 1)) t (nI (vx (7 * t + p9))) ((upd sf t (sf t + 1)) (12 + vx (7 * t + p9))) nb) else upd (upd (upd (upd (upd sf t (sf t + 1)) 15 (nI (nb + 1))) (16 + nb) (nI t)) (23 + nb) (nI (vx (7 * t + p9)))) (30 + nb) (if kd (7 * t + p9) = 1 then vv (7 * t + p9) else (upd (upd (upd (upd sf t (sf t + 1)) 15 (nI (nb + 1))) (16 + nb) (nI t)) (23 + nb) (nI (vx (7 * t + p9)))) (4 + 2 * t + rr (7 * t + p9)) + vv (7 * t + p9))
/-- a step of models 0 to 2 -/
def stQ (md : Nat) (zs kd vx rr : Nat → Nat) (vv : Nat → Int32) : SF9 := fun sf t cn =>
  if (sf t).toNatClampNeg < zs t ∧ kd (7 * t + (sf t).toNatClampNeg) = 5 ∧ cn = 0 then some (skR zs vx rr vv sf t (sf t).toNatClampNeg)
  else if 0 < cn then
    if (md = 1 ∧ cn = 1) ∨ (md = 2 ∧ cn ≤ 3) then
      if fF (inB sf t (if md = 1 then -1 else nI (cn - 1))) (sf 15).toNatClampNeg 0 = 0 then none
      else some (flF sf t (if md = 1 then -1 else nI (cn - 1)) (fun k => (sf (23 + k)).toNatClampNeg) (sf 15).toNatClampNeg)
    else none
  else if (sf t).toNatClampNeg < zs t then
    if md = 0 then some (tuR kd vx rr vv sf t (sf t).toNatClampNeg)
    else if kd (7 * t + (sf t).toNatClampNeg) = 3 ∨ kd (7 * t + (sf t).toNatClampNeg) = 4 then
      if ∀ k, k < (sf 15).toNatClampNeg → ¬ sf (16 + k) = nI t then some (tuR kd vx rr vv sf t (sf t).toNatClampNeg) else none
    else some (buR kd vx rr vv sf t (sf t).toNatClampNeg (sf 15).toNatClampNeg)
  else none
def IvD (T : Nat) (zs : Nat → Nat) (fu : Nat) (sf : Nat → Int32) (pl bt bx : Nat → Nat) (nb rm : Nat) : Prop :=
  (∀ t, t < 4 → sf t = nI (pl t)) ∧ (∀ t, t < T → pl t ≤ zs t) ∧ (∀ t, T ≤ t → t < 4 → pl t = 0) ∧ sf 15 = nI nb ∧ (∀ k, k < nb → sf (16 + k) = nI (bt k) ∧ bt k < 4 ∧ sf (23 + k) = nI (bx k) ∧ bx k < 3) ∧
  rm = smN (fun t => zs t - pl t) T ∧ rm + nb ≤ 7 ∧ 2 * rm + nb ≤ fu ∧ AllB sf (9 * (7 - rm)) ∧ (∀ k, k < nb → wB (sf (30 + k)) (9 * (7 - rm)))
/-- a state of models 0 to 2 with at most fu steps to go -/
def IvB (T : Nat) (zs : Nat → Nat) (fu : Nat) (sf : Nat → Int32) : Prop := ∃ (pl bt bx : Nat → Nat) (nb rm : Nat), IvD T zs fu sf pl bt bx nb rm
theorem iv_move {T : Nat} {zs : Nat → Nat} {fu : Nat} {sf s2 : Nat → Int32} {pl bt bx : Nat → Nat} {nb rm t p nb2 : Nat} {bt2 bx2 : Nat → Nat} (hT : T ≤ 4) (h : IvD T zs fu sf pl bt bx nb rm) (ht : t < T) (hp1 : pl t < p) (hp2 : p ≤ zs t)
    (h1 : s2 t = nI p) (h2 : ∀ i, i < 4 → i ≠ t → s2 i = sf i) (h3 : s2 15 = nI nb2) (h4 : nb2 ≤ nb + 1) (h5 : ∀ k, k < nb2 → s2 (16 + k) = nI (bt2 k) ∧ bt2 k < 4 ∧ s2 (23 + k) = nI (bx2 k) ∧ bx2 k < 3)
    (h6 : AllB s2 (9 * (7 - rm) + 9)) (h7 : ∀ k, k < nb2 → wB (s2 (30 + k)) (9 * (7 - rm) + 9)) : 0 < fu ∧ IvB T zs (fu - 1) s2 := by
  obtain ⟨a1, a2, a3, a4, a5, a6, a7, a8, a9, a10⟩ := h
  have hs := smN_upd (zs := zs) (pl := pl) T ht (Nat.le_of_lt hp1) hp2
  have hm := smN_at (f := fun t => zs t - pl t) T ht
  have hm' : zs t - pl t ≤ rm := by rw [a6]; exact hm
  rw [← a6] at hs
  refine ⟨by omega, updN pl t p, bt2, bx2, nb2, smN (fun i => zs i - updN pl t p i) T, fun i hi => ?_, fun i hi => ?_, fun i h8 h9 => ?_, h3, h5, rfl, by omega, by omega, AllB_mono h6 (by omega), fun k hk => wB_mono (h7 k hk) (by omega)⟩
  · unfold updN; split
    · next e => rw [e]; exact h1
    · next e => rw [h2 i hi e]; exact a1 i hi
  · unfold updN; split
    · next e => rw [e]; exact hp2
    · exact a2 i hi
  · unfold updN; rw [if_neg (by omega)]; exact a3 i h8 h9
theorem rdV_B {sf : Nat → Int32} {t : Nat} {x9 m0 : Int32} {b : Nat} (hm : wB m0 b) : ∀ n, (∀ k, k < n → wB (sf (30 + k)) b) → wB (rdV sf t x9 m0 n) b
  | 0, _ => hm
  | n + 1, h => by
    unfold rdV; split
    · exact h n (Nat.lt_succ_self n)
    · exact rdV_B hm n (fun k hk => h k (by omega))
theorem sh3_at {f : Nat → Int32} {q : Nat} (hq : q < 6) (i : Nat) : sh3 f q i = if i = 16 + q then f (16 + q + 1) else if i = 23 + q then f (23 + q + 1) else if i = 30 + q then f (30 + q + 1) else f i := by
  unfold sh3
  by_cases e1 : i = 30 + q
  · rw [e1, pk_us, pk_un (by omega), pk_un (by omega), if_neg (by omega), if_neg (by omega), if_pos rfl]
  · rw [pk_un e1]
    by_cases e2 : i = 23 + q
    · rw [e2, pk_us, pk_un (by omega), if_neg (by omega), if_pos rfl]
    · rw [pk_un e2]
      by_cases e3 : i = 16 + q
      · rw [e3, pk_us, if_pos rfl]
      · rw [pk_un e3, if_neg e3, if_neg e2, if_neg e1]
theorem shN3_at {f : Nat → Int32} {k : Nat} : ∀ n, k + n ≤ 6 → ∀ i, shN3 f k n i = if (16 + k ≤ i ∧ i < 16 + k + n) ∨ (23 + k ≤ i ∧ i < 23 + k + n) ∨ (30 + k ≤ i ∧ i < 30 + k + n) then f (i + 1) else f i
  | 0, _, i => (if_neg (by omega)).symm
  | n + 1, h, i => by
    unfold shN3
    rw [sh3_at (by omega), shN3_at n (by omega), shN3_at n (by omega), shN3_at n (by omega), shN3_at n (by omega)]
    rw [if_neg (by omega : ¬ ((16 + k ≤ 16 + (k + n) + 1 ∧ 16 + (k + n) + 1 < 16 + k + n) ∨ (23 + k ≤ 16 + (k + n) + 1 ∧ 16 + (k + n) + 1 < 23 + k + n) ∨ (30 + k ≤ 16 + (k + n) + 1 ∧ 16 + (k + n) + 1 < 30 + k + n))),
      if_neg (by omega : ¬ ((16 + k ≤ 23 + (k + n) + 1 ∧ 23 + (k + n) + 1 < 16 + k + n) ∨ (23 + k ≤ 23 + (k + n) + 1 ∧ 23 + (k + n) + 1 < 23 + k + n) ∨ (30 + k ≤ 23 + (k + n) + 1 ∧ 23 + (k + n) + 1 < 30 + k + n))),
      if_neg (by omega : ¬ ((16 + k ≤ 30 + (k + n) + 1 ∧ 30 + (k + n) + 1 < 16 + k + n) ∨ (23 + k ≤ 30 + (k + n) + 1 ∧ 30 + (k + n) + 1 < 23 + k + n) ∨ (30 + k ≤ 30 + (k + n) + 1 ∧ 30 + (k + n) + 1 < 30 + k + n)))]
    by_cases e1 : i = 16 + (k + n)
    · rw [if_pos e1, if_pos (by omega), e1]
    · rw [if_neg e1]
      by_cases e2 : i = 23 + (k + n)
      · rw [if_pos e2, if_pos (by omega), e2]
      · rw [if_neg e2]
        by_cases e3 : i = 30 + (k + n)
        · rw [if_pos e3, if_pos (by omega), e3]
        · rw [if_neg e3]
          by_cases c : (16 + k ≤ i ∧ i < 16 + k + n) ∨ (23 + k ≤ i ∧ i < 23 + k + n) ∨ (30 + k ≤ i ∧ i < 30 + k + n)
          · rw [if_pos c, if_pos (by omega)]
          · rw [if_neg c, if_neg (by omega)]
theorem fF_le {p : Nat → Bool} : ∀ n i, fF p n i = 0 ∨ (i < fF p n i ∧ fF p n i ≤ i + n ∧ p (fF p n i - 1) = true)
  | 0, i => Or.inl rfl
  | n + 1, i => by
    unfold fF
    cases hp : p i with
    | true => rw [if_pos rfl]; exact Or.inr ⟨by omega, by omega, hp⟩
    | false =>
      rw [if_neg (by decide)]
      rcases fF_le (p := p) n (i + 1) with h | h
      · exact Or.inl h
      · exact Or.inr ⟨by omega, by omega, h.2.2⟩
theorem iv_flush {T : Nat} {zs : Nat → Nat} {fu : Nat} {sf : Nat → Int32} {pl bt bx : Nat → Nat} {nb rm t : Nat} {x9 : Int32} (h : IvD T zs fu sf pl bt bx nb rm) (h0 : ¬ fF (inB sf t x9) nb 0 = 0) :
    0 < fu ∧ IvB T zs (fu - 1) (flF sf t x9 bx nb) ∧ ∀ k, 37 ≤ k → flF sf t x9 bx nb k = sf k := by
  obtain ⟨a1, a2, a3, a4, a5, a6, a7, a8, a9, a10⟩ := h
  obtain ⟨q1, q2, -⟩ := (fF_le (p := inB sf t x9) nb 0).resolve_left h0
  obtain ⟨k0, hk0⟩ : ∃ k0, k0 = fF (inB sf t x9) nb 0 - 1 := ⟨_, rfl⟩
  have hkn : k0 < nb := by omega
  obtain ⟨b1, b2, b3, b4⟩ := a5 k0 hkn
  have hB : ∀ i, i ≠ 12 + bx k0 → i ≠ 15 → flB sf bx nb k0 i = sf i := fun i e1 e2 => by unfold flB; rw [pk_un e2, pk_un e1]
  have e : ∀ i, flF sf t x9 bx nb i = if (16 + k0 ≤ i ∧ i < 16 + k0 + (nb - 1 - k0)) ∨ (23 + k0 ≤ i ∧ i < 23 + k0 + (nb - 1 - k0)) ∨ (30 + k0 ≤ i ∧ i < 30 + k0 + (nb - 1 - k0)) then flB sf bx nb k0 (i + 1) else flB sf bx nb k0 i := fun i => by
    rw [flF, if_neg h0, ← hk0]; exact shN3_at _ (by omega) i
  refine ⟨by omega, ⟨pl, fun k => if k < k0 then bt k else bt (k + 1), fun k => if k < k0 then bx k else bx (k + 1), nb - 1, rm, fun i hi => ?_, a2, a3, ?_, fun k hk => ?_, a6, by omega, by omega, fun k h1 h2 => ?_, fun k hk => ?_⟩, fun k hk => ?_⟩
  · rw [e, if_neg (by omega), hB i (by omega) (by omega)]; exact a1 i hi
  · rw [e, if_neg (by omega)]; unfold flB; exact pk_us
  · rw [e, e]
    by_cases c : k < k0
    · rw [if_neg (by omega), if_neg (by omega)]; dsimp only; rw [if_pos c, if_pos c, hB _ (by omega) (by omega), hB _ (by omega) (by omega)]; exact a5 k (by omega)
    · rw [if_pos (by omega), if_pos (by omega)]; dsimp only; rw [if_neg c, if_neg c, hB _ (by omega) (by omega), hB _ (by omega) (by omega)]; exact a5 (k + 1) (by omega)
  · rw [e, if_neg (by omega)]
    unfold flB
    rw [pk_un (by omega)]
    by_cases c : k = 12 + bx k0
    · rw [c, pk_us]; exact a10 k0 hkn
    · rw [pk_un c]; exact a9 k h1 h2
  · rw [e]
    by_cases c : k < k0
    · rw [if_neg (by omega), hB _ (by omega) (by omega)]; exact a10 k (by omega)
    · rw [if_pos (by omega), hB _ (by omega) (by omega)]; exact a10 (k + 1) (by omega)
  · rw [e, if_neg (by omega), hB _ (by omega) (by omega)]
theorem IvD_pl {T : Nat} {zs : Nat → Nat} {fu : Nat} {sf : Nat → Int32} {pl bt bx : Nat → Nat} {nb rm : Nat} (hT : T ≤ 4) (hz : ∀ t, t < T → zs t ≤ 7) (h : IvD T zs fu sf pl bt bx nb rm) : (∀ t, t < 4 → (sf t).toNatClampNeg = pl t ∧ pl t ≤ 7) ∧ (sf 15).toNatClampNeg = nb ∧ ∀ k, k < nb → (sf (23 + k)).toNatClampNeg = bx k := by
  obtain ⟨a1, a2, a3, a4, a5, a6, a7, -⟩ := h
  have hp : ∀ t, t < 4 → pl t ≤ 7 := fun t ht => by
    by_cases c : t < T
    · have := a2 t c; have := hz t c; omega
    · rw [a3 t (by omega) ht]; omega
  refine ⟨fun t ht => ⟨?_, hp t ht⟩, ?_, fun k hk => ?_⟩
  · rw [a1 t ht, nI_clamp (by have := hp t ht; omega)]
  · rw [a4, nI_clamp (by omega)]
  · obtain ⟨-, -, b3, b4⟩ := a5 k hk; rw [b3, nI_clamp (by omega)]
theorem flF_cg {sf : Nat → Int32} {t : Nat} {x9 : Int32} {bx by9 : Nat → Nat} {nb : Nat} (h : ∀ k, k < nb → bx k = by9 k) : flF sf t x9 bx nb = flF sf t x9 by9 nb := by
  unfold flF
  by_cases h0 : fF (inB sf t x9) nb 0 = 0
  · rw [if_pos h0, if_pos h0]
  · rw [if_neg h0, if_neg h0]
    obtain ⟨q1, q2, -⟩ := (fF_le (p := inB sf t x9) nb 0).resolve_left h0
    unfold flB; rw [h _ (by omega)]
