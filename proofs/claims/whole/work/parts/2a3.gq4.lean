/-- numbers of the actions that happen: number, own, reads, before, seen, many -/
abbrev W6 := (Nat → Nat) × (Nat → Nat) × (Nat → Nat) × (Nat → Nat) × (Nat → Nat) × Nat
def wn1 (hp : Nat → Nat) (a : Nat) (s : W6) : W6 := if hp a = 1 then (updN s.1 a s.2.2.2.2.2, updN s.2.1 s.2.2.2.2.2 0, updN s.2.2.1 s.2.2.2.2.2 0, updN s.2.2.2.1 s.2.2.2.2.2 0, updN s.2.2.2.2.1 s.2.2.2.2.2 0, s.2.2.2.2.2 + 1) else s
def wnI (hp : Nat → Nat) (t : Nat) (s : W6) : Nat → W6
  | 0 => s
  | i + 1 => wn1 hp (7 * t + i) (wnI hp t s i)
def wnT (zs hp : Nat → Nat) (s : W6) : Nat → W6
  | 0 => s
  | t + 1 => wnI hp t (wnT zs hp s t) (zs t)
theorem wn1_my {hp : Nat → Nat} {a : Nat} {s : W6} : (wn1 hp a s).2.2.2.2.2 ≤ s.2.2.2.2.2 + 1 := by
  unfold wn1; split
  · exact Nat.le_refl _
  · exact Nat.le_succ _
theorem wnI_my {hp : Nat → Nat} {t : Nat} {s : W6} : ∀ i, (wnI hp t s i).2.2.2.2.2 ≤ s.2.2.2.2.2 + i
  | 0 => Nat.le_refl _
  | i + 1 => by unfold wnI; have h1 := wn1_my (hp := hp) (a := 7 * t + i) (s := wnI hp t s i); have h2 := wnI_my (hp := hp) (t := t) (s := s) i; omega
theorem wnT_my {zs hp : Nat → Nat} {s : W6} (h0 : s.2.2.2.2.2 = 0) : ∀ t, (wnT zs hp s t).2.2.2.2.2 ≤ smN zs t
  | 0 => by unfold wnT; rw [h0]; exact Nat.zero_le _
  | t + 1 => by unfold wnT smN; have h1 := wnI_my (hp := hp) (t := t) (s := wnT zs hp s t) (zs t); have h2 := wnT_my (zs := zs) (hp := hp) h0 t; omega
theorem smN_lt {f : Nat → Nat} {t : Nat} : ∀ n, t < n → smN f t + f t ≤ smN f n
  | 0, h => absurd h (Nat.not_lt_zero t)
  | n + 1, h => by
    show smN f t + f t ≤ smN f n + f n
    by_cases e : t = n
    · subst e; exact Nat.le_refl _
    · have := smN_lt (f := f) n (by omega : t < n); omega
def wnO (s : W6) : Prop := (∀ i, s.1 i < 7) ∧ (∀ i, s.2.1 i < 128) ∧ (∀ i, s.2.2.1 i < 128) ∧ (∀ i, s.2.2.2.1 i < 128) ∧ (∀ i, s.2.2.2.2.1 i < 128)
theorem up0 {f : Nat → Nat} {k : Nat} (h : ∀ i, f i < 128) : ∀ i, updN f k 0 i < 128 := fun i => by
  unfold updN; split
  · decide
  · exact h i
theorem wn1_ok {hp : Nat → Nat} {a : Nat} {s : W6} (h : wnO s) (hm : s.2.2.2.2.2 < 7) : wnO (wn1 hp a s) := by
  obtain ⟨h1, h2, h3, h4, h5⟩ := h
  unfold wn1; split
  · refine ⟨fun i => ?_, up0 h2, up0 h3, up0 h4, up0 h5⟩
    show updN s.1 a s.2.2.2.2.2 i < 7
    unfold updN; split
    · exact hm
    · exact h1 i
  · exact ⟨h1, h2, h3, h4, h5⟩
theorem wnI_ok {hp : Nat → Nat} {t : Nat} {s : W6} (h : wnO s) : ∀ i, s.2.2.2.2.2 + i ≤ 7 → wnO (wnI hp t s i)
  | 0, _ => h
  | i + 1, q => by unfold wnI; exact wn1_ok (wnI_ok h i (by omega)) (by have := wnI_my (hp := hp) (t := t) (s := s) i; omega)
theorem wnT_ok {zs hp : Nat → Nat} {s : W6} (h : wnO s) (h0 : s.2.2.2.2.2 = 0) : ∀ t, smN zs t ≤ 7 → wnO (wnT zs hp s t)
  | 0, _ => h
  | t + 1, q => by
    unfold wnT; unfold smN at q
    exact wnI_ok (wnT_ok h h0 t (by omega)) (zs t) (by have := wnT_my (zs := zs) (hp := hp) h0 t; omega)
/-- every number is an action's -/
def wnH (zs hp : Nat → Nat) (t i : Nat) (s : W6) : Prop := ∀ n, n < s.2.2.2.2.2 → ∃ u k, (u < t ∨ (u = t ∧ k < i)) ∧ k < zs u ∧ hp (7 * u + k) = 1 ∧ s.1 (7 * u + k) = n
theorem wnI_h {zs hp : Nat → Nat} {t : Nat} {s : W6} (hz : ∀ u, u ≤ t → zs u ≤ 7) (h : wnH zs hp t 0 s) : ∀ i, i ≤ zs t → wnH zs hp t i (wnI hp t s i)
  | 0, _ => h
  | i + 1, q => by
    have ih := wnI_h hz h i (by omega)
    have hzt := hz t (Nat.le_refl t)
    unfold wnI wn1
    by_cases c : hp (7 * t + i) = 1
    · rw [if_pos c]
      intro n hn
      replace hn : n < (wnI hp t s i).2.2.2.2.2 + 1 := hn
      show ∃ u k, (u < t ∨ (u = t ∧ k < i + 1)) ∧ k < zs u ∧ hp (7 * u + k) = 1 ∧ updN (wnI hp t s i).1 (7 * t + i) (wnI hp t s i).2.2.2.2.2 (7 * u + k) = n
      by_cases e : n = (wnI hp t s i).2.2.2.2.2
      · exact ⟨t, i, Or.inr ⟨rfl, Nat.lt_succ_self i⟩, by omega, c, by rw [updN_s]; exact e.symm⟩
      · obtain ⟨u, k, h1, h2, h3, h4⟩ := ih n (by omega)
        refine ⟨u, k, by omega, h2, h3, ?_⟩
        have hu := hz u (by omega)
        rw [updN_n (by omega)]; exact h4
    · rw [if_neg c]
      intro n hn
      obtain ⟨u, k, h1, h2⟩ := ih n hn
      exact ⟨u, k, by omega, h2⟩
theorem wnT_h {zs hp : Nat → Nat} {s : W6} (h0 : s.2.2.2.2.2 = 0) : ∀ t, (∀ u, u < t → zs u ≤ 7) → wnH zs hp t 0 (wnT zs hp s t)
  | 0, _ => fun n hn => by unfold wnT at hn; omega
  | t + 1, hz => by
    have h1 := wnI_h (hp := hp) (fun u hu => hz u (by omega)) (wnT_h (zs := zs) (hp := hp) h0 t (fun u hu => hz u (by omega))) (zs t) (Nat.le_refl _)
    intro n hn
    obtain ⟨u, k, g1, g2⟩ := h1 n hn
    exact ⟨u, k, by omega, g2⟩
theorem fF_ex {p : Nat → Bool} : ∀ n i j, i ≤ j → j < i + n → p j = true → fF p n i ≠ 0
  | 0, i, j, h1, h2, _ => by omega
  | n + 1, i, j, h1, h2, h3 => by
    unfold fF
    by_cases c : p i = true
    · rw [if_pos c]; exact Nat.succ_ne_zero i
    · rw [if_neg c]
      by_cases e : j = i
      · rw [e] at h3; exact absurd h3 c
      · exact fF_ex n (i + 1) j (by omega) (by omega) h3
theorem wn_ao {T : Nat} {zs hp : Nat → Nat} {s : W6} (hT : T ≤ 4) (hz : ∀ t, t < T → zs t ≤ 7) (h : wnH zs hp T 0 s) {n : Nat} (hn : n < s.2.2.2.2.2) : aoN T zs hp s.1 n = aoN T zs hp s.1 n - 1 + 1 ∧ aoN T zs hp s.1 n - 1 < 28 := by
  obtain ⟨u, k, h1, h2, h3, h4⟩ := h n hn
  have hu : u < T := by omega
  have hzu := hz u hu
  have ne : aoN T zs hp s.1 n ≠ 0 := fF_ex 28 0 (7 * u + k) (Nat.zero_le _) (by omega) (decide_eq_true ⟨by rw [show (7 * u + k) / 7 = u from by omega]; exact hu, by rw [show (7 * u + k) / 7 = u from by omega, show (7 * u + k) % 7 = k from by omega]; exact h2, h3, h4⟩)
  have := fF_lt (p := fun a => decide (a / 7 < T ∧ a % 7 < zs (a / 7) ∧ hp a = 1 ∧ s.1 a = n)) 28 0 ne
  refine ⟨by omega, ?_⟩
  show fF (fun a => decide (a / 7 < T ∧ a % 7 < zs (a / 7) ∧ hp a = 1 ∧ s.1 a = n)) 28 0 - 1 < 28
  omega
theorem owL_in {T : Nat} {zs hp : Nat → Nat} (hT : T ≤ 4) (hzs : ∀ t, t < T → zs t ≤ 7) : inL (mpP (owT zs hp) T) :=
  inL_mp T (fun t ht => inL_mp _ (fun i hi => inL_mp _ (fun j hj => by
    have := hzs t ht
    unfold owJ; split
    · intro p hp9; rw [List.mem_singleton] at hp9; subst hp9; exact ⟨by show 7 * t + i < 28; omega, by show 7 * t + i + 1 + j < 28; omega⟩
    · intro p hp9; exact absurd hp9 (by simp))))
theorem bfL_in {rx rs : Nat → Nat} (hrx : ∀ i, i < 28 → rx i < 28) (hrs : ∀ x, x < 4 → rs x ≤ 7) : inL (mpP (bfX rx rs) 4) :=
  inL_mp 4 (fun x hx => inL_mp _ (fun i hi => inL_mp _ (fun j hj => by
    have := hrs x hx
    unfold bfJ; intro p hp9; rw [List.mem_singleton] at hp9; subst hp9; exact ⟨hrx _ (by omega), hrx _ (by omega)⟩)))
/-- whether a graph stands, by the arrays -/
def wSt (gm T ld : Nat) (zs kd vx li fm hp rx rs : Nat → Nat) (s : W6) : Prop :=
  stP gm s.2.2.2.2.2 kd vx (prF s.1 (mpP (owT zs hp) T) s.2.1) (tkR s.1 rx rs (tkL s.1 rx rs li fm hp vx (s.2.2.1, s.2.2.2.2.1) ld) (rs 3)).1 (prF s.1 (mpP (bfX rx rs) 4) s.2.2.2.1) (tkR s.1 rx rs (tkL s.1 rx rs li fm hp vx (s.2.2.1, s.2.2.2.2.1) ld) (rs 3)).2 (fun n => aoN T zs hp s.1 n - 1)
/-- the last of a row, and one more -/
def lsV (gv : Nat → Int32) (rx rs : Nat → Nat) (x : Nat) : Int32 := if rs x = 0 then 0 else gv (rx (7 * x + (rs x - 1)))
def nwG (f gv : Nat → Int32) (rx rs : Nat → Nat) : Nat → (Nat → Int32)
  | 0 => f
  | x + 1 => upd (nwG f gv rx rs x) (8 + x) (lsV gv rx rs x)
abbrev GG := Nat × List O9
def whR (b : Bool) (v : List Int32) (g : GG) : GG := if b = true then (g.1 + 1, adO g.2 v []) else g
theorem updN_2' {f : Nat → Nat} {k v w : Nat} : updN (updN f k v) k w = updN f k w := updN_2
set_option maxHeartbeats 4000000 in
set_option maxRecDepth 100000 in
theorem gen_Ref_addOutcome_L (l : Launch) (dC : Nat → ClassId) (dI : Nat → Nat → Nat) (ra : Nat) (rA : Nat → Nat) (rK9 : Nat → ClassId) (T Ac md wd mn cb ld gm my : Nat) (ir mr : Int32) (se : Nat) (nv oc9 wi : Nat → Int32) (om or9 ws : Nat → Nat) (OS : Nat → List O9) (hse : se < 8) (h4 : 4 ≤ se) (hsm : ∀ k, k < 11 → smI (nv k)) (hO : okOs OS om or9 oc9 ws wi) (sz : Nat) : Met l y_Ref_addOutcome w_Ref_addOutcome ({ frames := 1, cells := 0, slots := 0, locals := 60 }) (va_Pc [.ref ra, .int (nI se)] (fun U => U.heap.size = sz ∧ va_P (dC, dI) classes [oc ra 8 [.int (nI T), .int (nI Ac), .ref (rA 2), .ref (rA 3), .ref (rA 4), .ref (rA 5), .ref (rA 6), .ref (rA 7), .ref (rA 8), .ref (rA 9), .ref (rA 10), .ref (rA 11), .ref (rA 12), .ref (rA 13), .int ir, .ref (rA 15), .ref (rA 16), .ref (rA 17), .ref (rA 18), .int (nI md), .int (nI wd), .ref (rA 21), .ref (rA 22), .ref (rA 23), .int (nI mn), .ref (rA 25), .int (nI cb), .int mr, .ref (rA 28), .ref (rA 29), .ref (rA 30), .ref (rA 31), .ref (rA 32), .ref (rA 33), .ref (rA 34), .ref (rA 35), .int (nI ld), .int (nI gm), .ref (rA 38), .ref (rA 39), .ref (rA 40), .ref (rA 41), .ref (rA 42), .ref (rA 43), .ref (rA 44), .ref (rA 45), .int (nI my), .ref (rA 47)], ia (rA 28) (rK9 28) 11 nv, ia (rA 9) (rK9 9) 352000 oc9, ia (rA 8) (rK9 8) 8 (fun i => nI (om i)), ia (rA 12) (rK9 12) 32000 (fun i => nI (or9 i))] U.heap ∧ va_K (dC, dI) classes [((rK9 28), .int), ((rK9 9), .short), ((rK9 8), .int), ((rK9 12), .int)] U ∧ va_D (fun _ => True) [oc ra 8 [.int (nI T), .int (nI Ac), .ref (rA 2), .ref (rA 3), .ref (rA 4), .ref (rA 5), .ref (rA 6), .ref (rA 7), .ref (rA 8), .ref (rA 9), .ref (rA 10), .ref (rA 11), .ref (rA 12), .ref (rA 13), .int ir, .ref (rA 15), .ref (rA 16), .ref (rA 17), .ref (rA 18), .int (nI md), .int (nI wd), .ref (rA 21), .ref (rA 22), .ref (rA 23), .int (nI mn), .ref (rA 25), .int (nI cb), .int mr, .ref (rA 28), .ref (rA 29), .ref (rA 30), .ref (rA 31), .ref (rA 32), .ref (rA 33), .ref (rA 34), .ref (rA 35), .int (nI ld), .int (nI gm), .ref (rA 38), .ref (rA 39), .ref (rA 40), .ref (rA 41), .ref (rA 42), .ref (rA 43), .ref (rA 44), .ref (rA 45), .int (nI my), .ref (rA 47)], ia (rA 28) (rK9 28) 11 nv, ia (rA 9) (rK9 9) 352000 oc9, ia (rA 8) (rK9 8) 8 (fun i => nI (om i)), ia (rA 12) (rK9 12) 32000 (fun i => nI (or9 i))] ∧ nw U)) (va_Qi (fun (r : Int32) (_ : Unit) => True) (fun _ t9 => ∃ (oc2 : Nat → Int32) (om2 or2 : Nat → Nat), okOs (updO OS se (adO (OS se) (v11 nv) [])) om2 or2 oc2 ws wi ∧ va_P (dC, dI) classes [oc ra 8 [.int (nI T), .int (nI Ac), .ref (rA 2), .ref (rA 3), .ref (rA 4), .ref (rA 5), .ref (rA 6), .ref (rA 7), .ref (rA 8), .ref (rA 9), .ref (rA 10), .ref (rA 11), .ref (rA 12), .ref (rA 13), .int ir, .ref (rA 15), .ref (rA 16), .ref (rA 17), .ref (rA 18), .int (nI md), .int (nI wd), .ref (rA 21), .ref (rA 22), .ref (rA 23), .int (nI mn), .ref (rA 25), .int (nI cb), .int mr, .ref (rA 28), .ref (rA 29), .ref (rA 30), .ref (rA 31), .ref (rA 32), .ref (rA 33), .ref (rA 34), .ref (rA 35), .int (nI ld), .int (nI gm), .ref (rA 38), .ref (rA 39), .ref (rA 40), .ref (rA 41), .ref (rA 42), .ref (rA 43), .ref (rA 44), .ref (rA 45), .int (nI my), .ref (rA 47)], ia (rA 28) (rK9 28) 11 nv, ia (rA 9) (rK9 9) 352000 oc2, ia (rA 8) (rK9 8) 8 (fun i => nI (om2 i)), ia (rA 12) (rK9 12) 32000 (fun i => nI (or2 i))] t9.heap ∧ va_K (dC, dI) classes [] t9 ∧ va_D (va_A [oc ra 8 [.int (nI T), .int (nI Ac), .ref (rA 2), .ref (rA 3), .ref (rA 4), .ref (rA 5), .ref (rA 6), .ref (rA 7), .ref (rA 8), .ref (rA 9), .ref (rA 10), .ref (rA 11), .ref (rA 12), .ref (rA 13), .int ir, .ref (rA 15), .ref (rA 16), .ref (rA 17), .ref (rA 18), .int (nI md), .int (nI wd), .ref (rA 21), .ref (rA 22), .ref (rA 23), .int (nI mn), .ref (rA 25), .int (nI cb), .int mr, .ref (rA 28), .ref (rA 29), .ref (rA 30), .ref (rA 31), .ref (rA 32), .ref (rA 33), .ref (rA 34), .ref (rA 35), .int (nI ld), .int (nI gm), .ref (rA 38), .ref (rA 39), .ref (rA 40), .ref (rA 41), .ref (rA 42), .ref (rA 43), .ref (rA 44), .ref (rA 45), .int (nI my), .ref (rA 47)], ia (rA 28) (rK9 28) 11 nv, ia (rA 9) (rK9 9) 352000 oc9, ia (rA 8) (rK9 8) 8 (fun i => nI (om i)), ia (rA 12) (rK9 12) 32000 (fun i => nI (or9 i))] sz) [oc ra 8 [.int (nI T), .int (nI Ac), .ref (rA 2), .ref (rA 3), .ref (rA 4), .ref (rA 5), .ref (rA 6), .ref (rA 7), .ref (rA 8), .ref (rA 9), .ref (rA 10), .ref (rA 11), .ref (rA 12), .ref (rA 13), .int ir, .ref (rA 15), .ref (rA 16), .ref (rA 17), .ref (rA 18), .int (nI md), .int (nI wd), .ref (rA 21), .ref (rA 22), .ref (rA 23), .int (nI mn), .ref (rA 25), .int (nI cb), .int mr, .ref (rA 28), .ref (rA 29), .ref (rA 30), .ref (rA 31), .ref (rA 32), .ref (rA 33), .ref (rA 34), .ref (rA 35), .int (nI ld), .int (nI gm), .ref (rA 38), .ref (rA 39), .ref (rA 40), .ref (rA 41), .ref (rA 42), .ref (rA 43), .ref (rA 44), .ref (rA 45), .int (nI my), .ref (rA 47)], ia (rA 28) (rK9 28) 11 nv, ia (rA 9) (rK9 9) 352000 oc2, ia (rA 8) (rK9 8) 8 (fun i => nI (om2 i)), ia (rA 12) (rK9 12) 32000 (fun i => nI (or2 i))]) (va_A [oc ra 8 [.int (nI T), .int (nI Ac), .ref (rA 2), .ref (rA 3), .ref (rA 4), .ref (rA 5), .ref (rA 6), .ref (rA 7), .ref (rA 8), .ref (rA 9), .ref (rA 10), .ref (rA 11), .ref (rA 12), .ref (rA 13), .int ir, .ref (rA 15), .ref (rA 16), .ref (rA 17), .ref (rA 18), .int (nI md), .int (nI wd), .ref (rA 21), .ref (rA 22), .ref (rA 23), .int (nI mn), .ref (rA 25), .int (nI cb), .int mr, .ref (rA 28), .ref (rA 29), .ref (rA 30), .ref (rA 31), .ref (rA 32), .ref (rA 33), .ref (rA 34), .ref (rA 35), .int (nI ld), .int (nI gm), .ref (rA 38), .ref (rA 39), .ref (rA 40), .ref (rA 41), .ref (rA 42), .ref (rA 43), .ref (rA 44), .ref (rA 45), .int (nI my), .ref (rA 47)], ia (rA 28) (rK9 28) 11 nv, ia (rA 9) (rK9 9) 352000 oc9, ia (rA 8) (rK9 8) 8 (fun i => nI (om i)), ia (rA 12) (rK9 12) 32000 (fun i => nI (or9 i))] sz)) 0 0 (va_A [oc ra 8 [.int (nI T), .int (nI Ac), .ref (rA 2), .ref (rA 3), .ref (rA 4), .ref (rA 5), .ref (rA 6), .ref (rA 7), .ref (rA 8), .ref (rA 9), .ref (rA 10), .ref (rA 11), .ref (rA 12), .ref (rA 13), .int ir, .ref (rA 15), .ref (rA 16), .ref (rA 17), .ref (rA 18), .int (nI md), .int (nI wd), .ref (rA 21), .ref (rA 22), .ref (rA 23), .int (nI mn), .ref (rA 25), .int (nI cb), .int mr, .ref (rA 28), .ref (rA 29), .ref (rA 30), .ref (rA 31), .ref (rA 32), .ref (rA 33), .ref (rA 34), .ref (rA 35), .int (nI ld), .int (nI gm), .ref (rA 38), .ref (rA 39), .ref (rA 40), .ref (rA 41), .ref (rA 42), .ref (rA 43), .ref (rA 44), .ref (rA 45), .int (nI my), .ref (rA 47)], ia (rA 28) (rK9 28) 11 nv, ia (rA 9) (rK9 9) 352000 oc9, ia (rA 8) (rK9 8) 8 (fun i => nI (om i)), ia (rA 12) (rK9 12) 32000 (fun i => nI (or9 i))] sz) := by
  have hO1 := hO se hse
  obtain ⟨p9, hp, q1, q2⟩ := pick9 (nv := nv) (OS se).length rfl hO1.2.2.2.2.1
  have hrw : ∀ i, i < (OS se).length → ∀ j, j < 11 → oc9 (11 * (4000 * se + or9 (4000 * se + i)) + j) = orow (OS se) (or9 (4000 * se + i)) j ∧ smI (orow (OS se) (or9 (4000 * se + i)) j) := fun i hi j hj => hO1.2.2.1 _ (hO1.2.2.2.1 i hi) j hj
  have hag : ∀ i, i < (OS se).length → ((0 < agF nv (fun j => oc9 (11 * (4000 * se + or9 (4000 * se + i)) + j)) 11 0 ↔ lxG nv (orow (OS se) (or9 (4000 * se + i))) 11 0) ∧ (agF nv (fun j => oc9 (11 * (4000 * se + or9 (4000 * se + i)) + j)) 11 0 = 0 ↔ ∀ k, k < 11 → nv k = orow (OS se) (or9 (4000 * se + i)) k)) := fun i hi => by
    have h9 := ag_lx (a := nv) (b := fun j => oc9 (11 * (4000 * se + or9 (4000 * se + i)) + j)) 11 0 (fun j _ hj => ⟨hsm j (by omega), by show smI (oc9 _); rw [(hrw i hi j (by omega)).1]; exact (hrw i hi j (by omega)).2⟩)
    refine ⟨h9.1.trans ⟨fun h => lx_cg 11 0 (fun j _ hj => ⟨rfl, (hrw i hi j (by omega)).1⟩) h, fun h => lx_cg 11 0 (fun j _ hj => ⟨rfl, (hrw i hi j (by omega)).1.symm⟩) h⟩, h9.2.trans ⟨fun h k hk => (h k (Nat.zero_le k) (by omega)).trans (hrw i hi k hk).1, fun h k _ hk => (h k (by omega)).trans (hrw i hi k (by omega)).1.symm⟩⟩
  have g1 : ∀ i, i < p9 → 0 < agF nv (fun j => oc9 (11 * (4000 * se + or9 (4000 * se + i)) + j)) 11 0 := fun i hi => (hag i (by omega)).1.mpr (q1 i hi)
  have g2 : ∀ i, p9 ≤ i → i < (OS se).length → ¬ 0 < agF nv (fun j => oc9 (11 * (4000 * se + or9 (4000 * se + i)) + j)) 11 0 := fun i h1 h2 h => q2 i h1 h2 ((hag i h2).1.mp h)
  have hhas := okO_has hO1 hp q1 q2
  have hle := hO1.2.1
  by_cases hf : (OS se).length = 4000
  · have e9 : adO (OS se) (v11 nv) [] = OS se := by unfold adO; split; rfl; rw [if_neg (by omega)]
    rw [e9, updO_self]
    refine Met_cons (gen_Ref_addOutcome_full l dC dI ra rA rK9 T Ac md wd mn cb ld gm my ir mr se (OS se).length p9 nv oc9 om or9 hse hf hO1.1 hO1.2.2.2.1 hp g1 g2  sz) (fun _ _ h => h) (fun a st o t _ hq => ?_)
    obtain ⟨⟨r, u, w1, w2, hP, hK, hD⟩, hF⟩ := hq
    exact ⟨⟨r, u, w1, trivial, oc9, om, or9, hO, hP, hK, hD⟩, hF⟩
  · by_cases hv : hasV (OS se) (v11 nv)
    · have e9 : adO (OS se) (v11 nv) [] = OS se := by unfold adO; rw [if_pos (hasV_iff.mp hv)]
      rw [e9, updO_self]
      obtain ⟨k1, k2⟩ := hhas.mp hv
      refine Met_cons (gen_Ref_addOutcome_has l dC dI ra rA rK9 T Ac md wd mn cb ld gm my ir mr se (OS se).length p9 nv oc9 om or9 hse (by omega) hO1.1 hO1.2.2.2.1 hp g1 g2 k1 ((hag p9 k1).2.mpr k2) sz) (fun _ _ h => h) (fun a st o t _ hq => ?_)
      obtain ⟨⟨r, u, w1, w2, hP, hK, hD⟩, hF⟩ := hq
      exact ⟨⟨r, u, w1, trivial, oc9, om, or9, hO, hP, hK, hD⟩, hF⟩
    · have e9 : adO (OS se) (v11 nv) [] = OS se ++ [(v11 nv, [])] := by unfold adO; rw [if_neg (fun q => hv (hasV_iff.mpr q)), if_pos (by omega)]
      rw [e9]
      refine Met_cons (gen_Ref_addOutcome_new l dC dI ra rA rK9 T Ac md wd mn cb ld gm my ir mr se (OS se).length p9 nv oc9 om or9 hse (by omega) hO1.1 hO1.2.2.2.1 hp g1 g2 (fun q h => hv (hhas.mpr ⟨q, (hag p9 q).2.mp h⟩)) sz) (fun _ _ h => h) (fun a st o t _ hq => ?_)
      obtain ⟨⟨r, u, w1, w2, hP, hK, hD⟩, hF⟩ := hq
      refine ⟨⟨r, u, w1, trivial, _, _, _, fun s9 hs9 => ?_, hP, hK, hD⟩, hF⟩
      by_cases e : s9 = se
      · subst e; rw [updO_s]; exact okO_add hO1 rfl (by omega) hp hsm q1 q2 hv (fun q => by omega)
      · unfold updO; rw [if_neg e]; exact okO_oth2 (hO s9 hs9) e (by omega) hp
