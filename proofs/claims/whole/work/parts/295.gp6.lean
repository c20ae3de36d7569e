theorem lim_le {a b : Nat} : (if a < b then a else b) ≤ a := by
  split
  · exact Nat.le_refl _
  · omega
/-- a thread acts as long as it can -/
def gw1 (zs kd vx rr fm : Nat → Nat) (vv : Nat → Int32) (t : Nat) : Nat → A9 → Bool × A9
  | 0, g => (false, g)
  | n + 1, g => if g.1 t < zs t then (match acF zs kd vx rr fm vv t g with
    | none => (false, g)
    | some g2 => (true, (gw1 zs kd vx rr fm vv t n g2).2)) else (false, g)
def gwT (K : Nat) (zs kd vx rr fm : Nat → Nat) (vv : Nat → Int32) (g : A9) : Nat → Bool × A9
  | 0 => (false, g)
  | t + 1 => ((gwT K zs kd vx rr fm vv g t).1 || (gw1 zs kd vx rr fm vv t K (gwT K zs kd vx rr fm vv g t).2).1, (gw1 zs kd vx rr fm vv t K (gwT K zs kd vx rr fm vv g t).2).2)
/-- all threads act as long as one can -/
def gwA (K T : Nat) (zs kd vx rr fm : Nat → Nat) (vv : Nat → Int32) : Nat → A9 → A9
  | 0, g => g
  | n + 1, g => if (gwT K zs kd vx rr fm vv g T).1 = true then gwA K T zs kd vx rr fm vv n (gwT K zs kd vx rr fm vv g T).2 else (gwT K zs kd vx rr fm vv g T).2
def GA (T : Nat) (zs : Nat → Nat) (g : A9) : Prop := (∀ t, t < T → g.1 t ≤ zs t) ∧ (∀ i, i < 28 → g.2.2.2.1 i < 2) ∧ (∀ i, i < 28 → g.2.2.2.2 i < 2)
def rmA (T : Nat) (zs : Nat → Nat) (g : A9) : Nat := smN (fun t => zs t - g.1 t) T
theorem acF_ok {T : Nat} {zs kd vx rr fm : Nat → Nat} {vv : Nat → Int32} {t : Nat} {g g2 : A9} (hG : GA T zs g) (ht : t < T) (hp : g.1 t < zs t) (h : acF zs kd vx rr fm vv t g = some g2) : GA T zs g2 ∧ rmA T zs g2 < rmA T zs g ∧ zs t - g2.1 t < zs t - g.1 t := by
  obtain ⟨a1, a2, a3⟩ := hG
  have mv : ∀ p, g.1 t < p → p ≤ zs t → ∀ r : (Nat → Int32) × (Nat → Int32) × (Nat → Nat) × (Nat → Nat), (∀ i, i < 28 → r.2.2.1 i < 2) → (∀ i, i < 28 → r.2.2.2 i < 2) → GA T zs (updN g.1 t p, r) ∧ rmA T zs (updN g.1 t p, r) < rmA T zs g ∧ zs t - (updN g.1 t p) t < zs t - g.1 t := fun p h1 h2 r b1 b2 => by
    have hs := smN_upd (zs := zs) (pl := g.1) T ht (Nat.le_of_lt h1) h2
    have hm := smN_at (f := fun t => zs t - g.1 t) T ht
    refine ⟨⟨fun i hi => ?_, b1, b2⟩, ?_, ?_⟩
    · show updN g.1 t p i ≤ zs i
      unfold updN; split
      · next e => rw [e]; exact h2
      · exact a1 i hi
    · show smN (fun i => zs i - updN g.1 t p i) T < smN (fun i => zs i - g.1 i) T
      replace hm : zs t - g.1 t ≤ smN (fun i => zs i - g.1 i) T := hm
      omega
    · rw [show updN g.1 t p t = p from by unfold updN; rw [if_pos rfl]]; omega
  unfold acF at h
  split at h
  · have e := (Option.some.inj h).symm
    subst e
    exact mv _ (by split <;> (split <;> omega)) lim_le _ a2 a3
  · split at h
    · exact absurd h (by simp)
    · have e := (Option.some.inj h).symm
      subst e
      refine mv _ (Nat.lt_succ_self _) hp _ (fun i hi => ?_) (fun i hi => ?_)
      · show updN _ _ 1 i < 2
        unfold updN; split
        · decide
        · exact a2 i hi
      · show updN _ _ 1 i < 2
        unfold updN; split
        · decide
        · exact a3 i hi
theorem gw1_ok {T : Nat} {zs kd vx rr fm : Nat → Nat} {vv : Nat → Int32} {t : Nat} (ht : t < T) : ∀ (n : Nat) (g : A9), GA T zs g → GA T zs (gw1 zs kd vx rr fm vv t n g).2 ∧ rmA T zs (gw1 zs kd vx rr fm vv t n g).2 ≤ rmA T zs g ∧ ((gw1 zs kd vx rr fm vv t n g).1 = true → rmA T zs (gw1 zs kd vx rr fm vv t n g).2 < rmA T zs g)
  | 0, g, hG => ⟨hG, Nat.le_refl _, fun h => absurd h (by simp [gw1])⟩
  | n + 1, g, hG => by
    unfold gw1
    by_cases hp : g.1 t < zs t
    · rw [if_pos hp]
      cases h : acF zs kd vx rr fm vv t g with
      | none => exact ⟨hG, Nat.le_refl _, fun q => absurd q (by simp)⟩
      | some g2 =>
        obtain ⟨b1, b2, b3⟩ := acF_ok hG ht hp h
        obtain ⟨c1, c2, c3⟩ := gw1_ok (kd := kd) (vx := vx) (rr := rr) (fm := fm) (vv := vv) ht n g2 b1
        exact ⟨c1, by show rmA T zs (gw1 zs kd vx rr fm vv t n g2).2 ≤ _; omega, fun _ => by show rmA T zs (gw1 zs kd vx rr fm vv t n g2).2 < _; omega⟩
    · rw [if_neg hp]; exact ⟨hG, Nat.le_refl _, fun q => absurd q (by simp)⟩
theorem gwT_ok {K T : Nat} {zs kd vx rr fm : Nat → Nat} {vv : Nat → Int32} {g : A9} (hG : GA T zs g) : ∀ n, n ≤ T → GA T zs (gwT K zs kd vx rr fm vv g n).2 ∧ rmA T zs (gwT K zs kd vx rr fm vv g n).2 ≤ rmA T zs g ∧ ((gwT K zs kd vx rr fm vv g n).1 = true → rmA T zs (gwT K zs kd vx rr fm vv g n).2 < rmA T zs g)
  | 0, _ => ⟨hG, Nat.le_refl _, fun h => absurd h (by simp [gwT])⟩
  | n + 1, hn => by
    obtain ⟨b1, b2, b3⟩ := gwT_ok (K := K) (kd := kd) (vx := vx) (rr := rr) (fm := fm) (vv := vv) hG n (by omega)
    obtain ⟨c1, c2, c3⟩ := gw1_ok (kd := kd) (vx := vx) (rr := rr) (fm := fm) (vv := vv) (t := n) (by omega) K _ b1
    unfold gwT
    refine ⟨c1, by show rmA T zs (gw1 zs kd vx rr fm vv n K (gwT K zs kd vx rr fm vv g n).2).2 ≤ _; omega, fun h => ?_⟩
    show rmA T zs (gw1 zs kd vx rr fm vv n K (gwT K zs kd vx rr fm vv g n).2).2 < _
    rcases Bool.or_eq_true_iff.mp h with q | q
    · have := b3 q; omega
    · have := c3 q; omega
theorem gwA_ok {K T : Nat} {zs kd vx rr fm : Nat → Nat} {vv : Nat → Int32} : ∀ (n : Nat) (g : A9), GA T zs g → GA T zs (gwA K T zs kd vx rr fm vv n g)
  | 0, _, h => h
  | n + 1, g, h => by
    unfold gwA
    have := (gwT_ok (K := K) (kd := kd) (vx := vx) (rr := rr) (fm := fm) (vv := vv) h T (Nat.le_refl T)).1
    split
    · exact gwA_ok n _ this
    · exact this
theorem gT_end {K : Nat} {zs kd vx rr fm : Nat → Nat} {vv : Nat → Int32} {g gi gj : A9} {t m : Nat} {b c : Bool} (hgi : gwT K zs kd vx rr fm vv g t = (b, gi)) (e1 : gw1 zs kd vx rr fm vv t m gj = (false, gj)) (h1 : (c || (gw1 zs kd vx rr fm vv t m gj).1) = (b || (gw1 zs kd vx rr fm vv t K gi).1)) (h2 : (gw1 zs kd vx rr fm vv t m gj).2 = (gw1 zs kd vx rr fm vv t K gi).2) : gwT K zs kd vx rr fm vv g (t + 1) = (c, gj) := by
  rw [e1] at h1 h2
  rw [gwT, hgi]
  show ((b || (gw1 zs kd vx rr fm vv t K gi).1), (gw1 zs kd vx rr fm vv t K gi).2) = (c, gj)
  rw [← h1, ← h2]
  cases c <;> rfl
theorem gT_go {zs kd vx rr fm : Nat → Nat} {vv : Nat → Int32} {gj g2 Y : A9} {t m : Nat} {c X : Bool} (hp : gj.1 t < zs t) (ho : acF zs kd vx rr fm vv t gj = some g2) (h1 : (c || (gw1 zs kd vx rr fm vv t (m + 1) gj).1) = X) (h2 : (gw1 zs kd vx rr fm vv t (m + 1) gj).2 = Y) : (true || (gw1 zs kd vx rr fm vv t m g2).1) = X ∧ (gw1 zs kd vx rr fm vv t m g2).2 = Y := by
  have e : gw1 zs kd vx rr fm vv t (m + 1) gj = (true, (gw1 zs kd vx rr fm vv t m g2).2) := by rw [gw1, if_pos hp, ho]
  rw [e] at h1 h2
  exact ⟨by rw [Bool.true_or, ← h1]; cases c <;> rfl, h2⟩
theorem gw_no {zs kd vx rr fm : Nat → Nat} {vv : Nat → Int32} {gj : A9} {t m : Nat} (hp : gj.1 t < zs t) (ho : acF zs kd vx rr fm vv t gj = none) : gw1 zs kd vx rr fm vv t (m + 1) gj = (false, gj) := by rw [gw1, if_pos hp, ho]
theorem gw_end {zs kd vx rr fm : Nat → Nat} {vv : Nat → Int32} {gj : A9} {t m : Nat} (hp : ¬ gj.1 t < zs t) : gw1 zs kd vx rr fm vv t (m + 1) gj = (false, gj) := by rw [gw1, if_neg hp]
theorem gA_s {K T : Nat} {zs kd vx rr fm : Nat → Nat} {vv : Nat → Int32} {g gi gz : A9} {n : Nat} {b : Bool} (h : gwT K zs kd vx rr fm vv g T = (b, gi)) (hz : gwA K T zs kd vx rr fm vv (n + 1) g = gz) : (b = true → gwA K T zs kd vx rr fm vv n gi = gz) ∧ (b = false → gi = gz) := by
  rw [gwA, h] at hz
  refine ⟨fun q => ?_, fun q => ?_⟩
  · rw [if_pos q] at hz; exact hz
  · rw [if_neg (by rw [q]; exact Bool.false_ne_true)] at hz; exact hz
/-- what is left to ask when all threads stand -/
abbrev fiP (kd vx li fm hp : Nat → Nat) (x : Nat) : Nat → Bool := fun k => decide (kd (li k) = 3 ∧ vx (li k) = x ∧ hp (li k) = 1 ∧ fm (li k) = 0)
def anB (kd vx li fm hp : Nat → Nat) (ld : Nat) : Nat → Bool
  | 0 => false
  | x + 1 => anB kd vx li fm hp ld x || decide (1 < ctB (fiP kd vx li fm hp x) ld)
def enT (zs pcn : Nat → Nat) (T : Nat) : Nat := fF (fun t => decide (pcn t < zs t)) T 0
def unT (li fm hp : Nat → Nat) (ld : Nat) : Nat := fF (fun k => decide (hp (li k) = 0 ∧ ¬ fm (li k) = 0)) ld 0
abbrev goP (T ld : Nat) (zs kd vx li fm : Nat → Nat) (g : A9) : Prop := enT zs g.1 T = 0 ∧ unT li fm g.2.2.2.1 ld = 0 ∧ anB kd vx li fm g.2.2.2.1 ld 3 = false
def a0S (gv : Nat → Int32) : A9 := (fun _ => 0, fun _ => 0, gv, fun _ => 0, fun _ => 0)
theorem GA_0 {T : Nat} {zs : Nat → Nat} {gv : Nat → Int32} : GA T zs (a0S gv) := ⟨fun _ _ => Nat.zero_le _, fun _ _ => (by decide : 0 < 2), fun _ _ => (by decide : 0 < 2)⟩
theorem smN_le7 {f : Nat → Nat} : ∀ n, (∀ t, t < n → f t ≤ 7) → smN f n ≤ 7 * n
  | 0, _ => Nat.le_refl 0
  | n + 1, h => by have h1 := smN_le7 n (fun t ht => h t (by omega)); have h2 := h n (Nat.lt_succ_self n); show smN f n + f n ≤ 7 * (n + 1); omega
theorem rm0_lt {T : Nat} {zs : Nat → Nat} {gv : Nat → Int32} (hT : T ≤ 4) (hzs : ∀ t, t < T → zs t ≤ 7) : rmA T zs (a0S gv) < 30 := by
  have h1 := smN_le7 (f := fun t => zs t - (a0S gv).1 t) T (fun t ht => Nat.le_trans (Nat.sub_le _ _) (hzs t ht))
  show smN (fun t => zs t - (a0S gv).1 t) T < 30
  omega
