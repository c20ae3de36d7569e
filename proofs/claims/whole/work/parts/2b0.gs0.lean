/-- the place of an action in the list of takers -/
def psL (li : Nat → Nat) (ld a : Nat) : Nat := fF (fun q => li q == a) ld 0 - 1
def fQ (li : Nat → Nat) (ld : Nat) (fl : Nat → Nat) (a : Nat) : Nat := fl (psL li ld a)
/-- the list holds the takers of the program, each once -/
def liO (T ld : Nat) (zs kd li : Nat → Nat) : Prop := (∀ q, q < ld → (li q / 7 < T ∧ li q % 7 < zs (li q / 7)) ∧ (kd (li q) = 0 ∨ kd (li q) = 3)) ∧ (∀ q r, q < ld → r < ld → li q = li r → q = r) ∧ ∀ a, a / 7 < T → a % 7 < zs (a / 7) → (kd a = 0 ∨ kd a = 3) → ∃ q, q < ld ∧ li q = a
theorem psL_at {T ld : Nat} {zs kd li : Nat → Nat} {q : Nat} (h : liO T ld zs kd li) (hq : q < ld) : psL li ld (li q) = q := by
  obtain ⟨k1, k2, k3, k4, k5⟩ := fF_first (p := fun r => li r == li q) ld 0 ⟨q, Nat.zero_le q, by omega, by simp⟩
  have e : li (fF (fun r => li r == li q) ld 0 - 1) = li q := by simpa using k4
  exact h.2.1 (psL li ld (li q)) q (by unfold psL; omega) hq e
theorem fQ_at {T ld : Nat} {zs kd li fl : Nat → Nat} {q : Nat} (h : liO T ld zs kd li) (hq : q < ld) : fQ li ld fl (li q) = fl q := by unfold fQ; rw [psL_at h hq]
/-- two ways that differ in what is given by those that are not done -/
def smA (kd : Nat → Nat) (g h : A9) : Prop := g.1 = h.1 ∧ g.2.1 = h.2.1 ∧ g.2.2.2.1 = h.2.2.2.1 ∧ g.2.2.2.2 = h.2.2.2.2 ∧ ∀ a, g.2.2.2.2 a = 1 → ¬ kd a = 4 → g.2.2.1 a = h.2.2.1 a
theorem acG_sm {kd rr fm fm' : Nat → Nat} {vv hd gv gv' : Nat → Int32} {t a b : Nat} (hV : acV kd fm gv a = acV kd fm' gv' a) (h1 : b = a → ¬ kd a = 4) (h2 : b ≠ a → gv b = gv' b) : acG kd rr fm vv hd gv t a b = acG kd rr fm' vv hd gv' t a b := by
  have up : ∀ x : Int32, upd gv a x b = upd gv' a x b := fun x => by
    by_cases e : b = a
    · rw [e, pk_us, pk_us]
    · rw [pk_un e, pk_un e]; exact h2 e
  unfold acG
  by_cases k4 : kd a = 4
  · rw [if_pos k4, if_pos k4]; exact h2 (fun e => h1 e k4)
  · rw [if_neg k4, if_neg k4]
    by_cases k1 : kd a = 1
    · rw [if_pos k1, if_pos k1]; exact up _
    · rw [if_neg k1, if_neg k1]
      by_cases k2 : kd a = 2
      · rw [if_pos k2, if_pos k2]; exact up _
      · rw [if_neg k2, if_neg k2, hV]; exact up _
theorem acF_sm {zs kd vx rr fm fm' : Nat → Nat} {vv : Nat → Int32} {t : Nat} {g h : A9} (hs : smA kd g h) (hd2 : ∀ i, i < 28 → g.2.2.2.2 i < 2) (hf : (kd (7 * t + g.1 t) = 0 ∨ kd (7 * t + g.1 t) = 3) → fm (7 * t + g.1 t) = fm' (7 * t + g.1 t) ∧ fm (7 * t + g.1 t) ≤ 28 ∧ (¬ fm (7 * t + g.1 t) = 0 → ¬ kd (fm (7 * t + g.1 t) - 1) = 4)) :
    (acF zs kd vx rr fm vv t g = none ∧ acF zs kd vx rr fm' vv t h = none) ∨ ∃ g2 h2, acF zs kd vx rr fm vv t g = some g2 ∧ acF zs kd vx rr fm' vv t h = some h2 ∧ smA kd g2 h2 := by
  obtain ⟨p, hd, gv, hp, dn⟩ := g
  obtain ⟨p', hd', gv', hp', dn'⟩ := h
  obtain ⟨e1, e2, e3, e4, e5⟩ := hs
  dsimp only at e1 e2 e3 e4 e5 hd2 hf
  subst e1; subst e2; subst e3; subst e4
  unfold acF
  dsimp only
  generalize 7 * t + p t = a at hf
  by_cases k5 : kd a = 5
  · rw [if_pos k5, if_pos k5]
    exact Or.inr ⟨_, _, rfl, rfl, rfl, rfl, rfl, rfl, e5⟩
  · rw [if_neg k5, if_neg k5]
    have fin : acV kd fm gv a = acV kd fm' gv' a → ∃ g2 h2, (some (updN p t (p t + 1), acH kd rr fm hd gv t a, acG kd rr fm vv hd gv t a, updN hp a 1, updN dn a 1) : Option A9) = some g2 ∧ (some (updN p t (p t + 1), acH kd rr fm' hd gv' t a, acG kd rr fm' vv hd gv' t a, updN hp a 1, updN dn a 1) : Option A9) = some h2 ∧ smA kd g2 h2 := fun hV => by
      refine ⟨_, _, rfl, rfl, rfl, ?_, rfl, rfl, fun b hb k4 => ?_⟩
      · show acH kd rr fm hd gv t a = acH kd rr fm' hd gv' t a
        unfold acH; rw [hV]
      · replace hb : updN dn a 1 b = 1 := hb
        exact acG_sm hV (fun e q => k4 (by rw [e]; exact q)) (fun e => e5 b (by rw [updN_n e] at hb; exact hb) k4)
    by_cases tk : kd a = 0 ∨ kd a = 3
    · obtain ⟨h1, h2, h3⟩ := hf tk
      rw [← h1]
      by_cases f0 : fm a = 0
      · rw [if_neg (fun q => q.2.1 f0), if_neg (fun q => q.2.1 f0)]
        exact Or.inr (fin (by unfold acV; rw [if_neg (fun q => q.2 f0), if_neg (fun q => q.2 (by rw [← h1]; exact f0))]))
      · by_cases d0 : dn (fm a - 1) = 0
        · rw [if_pos ⟨tk, f0, d0⟩, if_pos ⟨tk, f0, d0⟩]; exact Or.inl ⟨rfl, rfl⟩
        · rw [if_neg (fun q => d0 q.2.2), if_neg (fun q => d0 q.2.2)]
          have hd1 := hd2 (fm a - 1) (by omega)
          refine Or.inr (fin ?_)
          unfold acV
          rw [if_pos ⟨tk, f0⟩, if_pos ⟨tk, by rw [← h1]; exact f0⟩, ← h1]
          exact e5 _ (by omega) (h3 f0)
    · rw [if_neg (fun q => tk q.1), if_neg (fun q => tk q.1)]
      exact Or.inr (fin (by unfold acV; rw [if_neg (fun q => tk q.1), if_neg (fun q => tk q.1)]))
section SMA
variable {K T : Nat} {zs kd vx rr fm fm' : Nat → Nat} {vv : Nat → Int32}
/-- both choose alike for the takers of the program, and writers alone -/
def agFm (T : Nat) (zs kd fm fm' : Nat → Nat) : Prop := ∀ t k, t < T → k < zs t → (kd (7 * t + k) = 0 ∨ kd (7 * t + k) = 3) → fm (7 * t + k) = fm' (7 * t + k) ∧ fm (7 * t + k) ≤ 28 ∧ (¬ fm (7 * t + k) = 0 → ¬ kd (fm (7 * t + k) - 1) = 4)
theorem gw1_sm (ha : agFm T zs kd fm fm') {t : Nat} (ht : t < T) : ∀ (n : Nat) (g h : A9), GA T zs g → smA kd g h → (gw1 zs kd vx rr fm vv t n g).1 = (gw1 zs kd vx rr fm' vv t n h).1 ∧ smA kd (gw1 zs kd vx rr fm vv t n g).2 (gw1 zs kd vx rr fm' vv t n h).2
  | 0, _, _, _, hs => ⟨rfl, hs⟩
  | n + 1, g, h, hG, hs => by
    rw [gw1, gw1, ← hs.1]
    by_cases hp : g.1 t < zs t
    · rw [if_pos hp, if_pos hp]
      rcases acF_sm (zs := zs) (vx := vx) (rr := rr) (vv := vv) (t := t) hs hG.2.2 (ha t (g.1 t) ht hp) with ⟨e1, e2⟩ | ⟨g2, h2, e1, e2, e3⟩
      · rw [e1, e2]; exact ⟨rfl, hs⟩
      · rw [e1, e2]
        exact ⟨rfl, (gw1_sm ha ht n g2 h2 (acF_ok hG ht hp e1).1 e3).2⟩
    · rw [if_neg hp, if_neg hp]; exact ⟨rfl, hs⟩
theorem gwT_sm (ha : agFm T zs kd fm fm') {g h : A9} (hG : GA T zs g) (hs : smA kd g h) : ∀ n, n ≤ T → (gwT K zs kd vx rr fm vv g n).1 = (gwT K zs kd vx rr fm' vv h n).1 ∧ smA kd (gwT K zs kd vx rr fm vv g n).2 (gwT K zs kd vx rr fm' vv h n).2
  | 0, _ => ⟨rfl, hs⟩
  | n + 1, hn => by
    obtain ⟨h1, h2⟩ := gwT_sm ha hG hs n (by omega)
    have hG2 := (gwT_ok (K := K) (kd := kd) (vx := vx) (rr := rr) (fm := fm) (vv := vv) hG n (by omega)).1
    obtain ⟨h3, h4⟩ := gw1_sm (vx := vx) (rr := rr) (vv := vv) ha (t := n) (by omega) K _ _ hG2 h2
    rw [gwT, gwT]
    exact ⟨by show (_ || _) = (_ || _); rw [h1, h3], h4⟩
theorem gwA_sm (ha : agFm T zs kd fm fm') : ∀ (n : Nat) (g h : A9), GA T zs g → smA kd g h → smA kd (gwA K T zs kd vx rr fm vv n g) (gwA K T zs kd vx rr fm' vv n h)
  | 0, _, _, _, hs => hs
  | n + 1, g, h, hG, hs => by
    obtain ⟨h1, h2⟩ := gwT_sm (K := K) (vx := vx) (rr := rr) (vv := vv) ha hG hs T (Nat.le_refl T)
    have hG2 := (gwT_ok (K := K) (kd := kd) (vx := vx) (rr := rr) (fm := fm) (vv := vv) hG T (Nat.le_refl T)).1
    rw [gwA, gwA, ← h1]
    by_cases c : (gwT K zs kd vx rr fm vv g T).1 = true
    · rw [if_pos c, if_pos c]; exact gwA_sm ha n _ _ hG2 h2
    · rw [if_neg c, if_neg c]; exact h2
theorem smA_0 {gv gv' : Nat → Int32} : smA kd (a0S gv) (a0S gv') := ⟨rfl, rfl, rfl, rfl, fun a h => absurd (show (0 : Nat) = 1 from h) (by decide)⟩
/-- what every action keeps, all threads together keep -/
theorem gw1_inv {Iv : A9 → Prop} (hI : ∀ t g g2, t < T → GA T zs g → Iv g → g.1 t < zs t → acF zs kd vx rr fm vv t g = some g2 → Iv g2) {t : Nat} (ht : t < T) : ∀ (n : Nat) (g : A9), GA T zs g → Iv g → Iv (gw1 zs kd vx rr fm vv t n g).2
  | 0, _, _, h => h
  | n + 1, g, hG, h => by
    rw [gw1]
    by_cases hp : g.1 t < zs t
    · rw [if_pos hp]
      cases e : acF zs kd vx rr fm vv t g with
      | none => exact h
      | some g2 => exact gw1_inv hI ht n g2 (acF_ok hG ht hp e).1 (hI t g g2 ht hG h hp e)
    · rw [if_neg hp]; exact h
theorem gwT_inv {Iv : A9 → Prop} (hI : ∀ t g g2, t < T → GA T zs g → Iv g → g.1 t < zs t → acF zs kd vx rr fm vv t g = some g2 → Iv g2) {g : A9} (hG : GA T zs g) (h : Iv g) : ∀ n, n ≤ T → Iv (gwT K zs kd vx rr fm vv g n).2
  | 0, _ => h
  | n + 1, hn => by
    rw [gwT]
    exact gw1_inv hI (by omega) K _ (gwT_ok (K := K) (kd := kd) (vx := vx) (rr := rr) (fm := fm) (vv := vv) hG n (by omega)).1 (gwT_inv hI hG h n (by omega))
theorem gwA_inv {Iv : A9 → Prop} (hI : ∀ t g g2, t < T → GA T zs g → Iv g → g.1 t < zs t → acF zs kd vx rr fm vv t g = some g2 → Iv g2) : ∀ (n : Nat) (g : A9), GA T zs g → Iv g → Iv (gwA K T zs kd vx rr fm vv n g)
  | 0, _, _, h => h
  | n + 1, g, hG, h => by
    have hG2 := (gwT_ok (K := K) (kd := kd) (vx := vx) (rr := rr) (fm := fm) (vv := vv) hG T (Nat.le_refl T)).1
    have h2 := gwT_inv (K := K) hI hG h T (Nat.le_refl T)
    rw [gwA]; split
    · exact gwA_inv hI n _ hG2 h2
    · exact h2
end SMA
/-- numbers stay small; what happens is done -/
def BA (T : Nat) (zs kd : Nat → Nat) (g : A9) : Prop := (∀ k, wB (g.2.1 k) (9 * (7 - rmA T zs g))) ∧ (∀ a, g.2.2.2.2 a = 1 → ¬ kd a = 4 → wB (g.2.2.1 a) (9 * (7 - rmA T zs g))) ∧ g.2.2.2.1 = g.2.2.2.2 ∧ rmA T zs g ≤ 7
theorem acF_BA {T : Nat} {zs kd vx rr fm : Nat → Nat} {vv : Nat → Int32} (hT : T ≤ 4) (hz : ∀ t, t < T → zs t ≤ 7) (hvv : ∀ i, i < 28 → wB (vv i) 9) (ha : agFm T zs kd fm fm) : ∀ t g g2, t < T → GA T zs g → BA T zs kd g → g.1 t < zs t → acF zs kd vx rr fm vv t g = some g2 → BA T zs kd g2 := by
  intro t g g2 ht hG hB hp h
  obtain ⟨k1, k2, k3⟩ := acF_ok hG ht hp h
  have hzt := hz t ht
  obtain ⟨b1, b2, b3, b4⟩ := hB
  have hfa := ha t (g.1 t) ht hp
  have hv := hvv (7 * t + g.1 t) (by omega)
  have hle : 9 * (7 - rmA T zs g) + 9 ≤ 9 * (7 - rmA T zs g2) := by omega
  unfold BA
  generalize 9 * (7 - rmA T zs g2) = B2 at hle ⊢
  generalize hB1 : 9 * (7 - rmA T zs g) = B1 at b1 b2 hle
  have hB9 : B1 ≤ 63 := by omega
  obtain ⟨p, hd, gv, hp9, dn⟩ := g
  unfold acF at h
  dsimp only at h hfa hv b1 b2 b3 hp
  generalize ea : 7 * t + p t = a at h hfa hv
  have hG3 : ∀ i, i < 28 → dn i < 2 := hG.2.2
  by_cases k5 : kd a = 5
  · rw [if_pos k5] at h
    have e := (Option.some.inj h).symm
    subst e
    exact ⟨fun k => wB_mono (b1 k) (by omega), fun c hc k4 => wB_mono (b2 c hc k4) (by omega), b3, by omega⟩
  · rw [if_neg k5] at h
    by_cases w : (kd a = 0 ∨ kd a = 3) ∧ ¬ fm a = 0 ∧ dn (fm a - 1) = 0
    · rw [if_pos w] at h; exact absurd h (by simp)
    · rw [if_neg w] at h
      have e := (Option.some.inj h).symm
      subst e
      have hV : wB (acV kd fm gv a) B1 := by
        unfold acV; split
        · next q =>
          obtain ⟨-, q2, q3⟩ := hfa q.1
          have := hG3 (fm a - 1) (by omega)
          exact b2 _ (by have : ¬ dn (fm a - 1) = 0 := fun d => w ⟨q.1, q.2, d⟩; omega) (q3 q.2)
        · exact wB_0
      have hS : ∀ x : Int32, wB x B1 → wB (x + vv a) B2 := fun x hx => wB_mono (wB_add hx hv (by omega)) (by omega)
      refine ⟨fun k => ?_, fun c hc k4 => ?_, ?_, by omega⟩
      · show wB (acH kd rr fm hd gv t a k) B2
        unfold acH; split
        · by_cases q : k = 2 * t + rr a
          · rw [q, pk_us]; exact wB_mono hV (by omega)
          · rw [pk_un q]; exact wB_mono (b1 k) (by omega)
        · exact wB_mono (b1 k) (by omega)
      · replace hc : updN dn a 1 c = 1 := hc
        show wB (acG kd rr fm vv hd gv t a c) B2
        have old : c ≠ a → wB (gv c) B2 := fun q => wB_mono (b2 c (by rw [updN_n q] at hc; exact hc) k4) (by omega)
        have up : ∀ x : Int32, wB x B2 → wB (upd gv a x c) B2 := fun x hx => by
          by_cases q : c = a
          · rw [q, pk_us]; exact hx
          · rw [pk_un q]; exact old q
        unfold acG
        by_cases q4 : kd a = 4
        · rw [if_pos q4]; exact old (fun q => k4 (by rw [q]; exact q4))
        · rw [if_neg q4]
          by_cases q1 : kd a = 1
          · rw [if_pos q1]; exact up _ (wB_mono hv (by omega))
          · rw [if_neg q1]
            by_cases q2 : kd a = 2
            · rw [if_pos q2]; exact up _ (hS _ (b1 _))
            · rw [if_neg q2]; exact up _ (hS _ hV)
      · show updN hp9 a 1 = updN dn a 1
        rw [b3]
theorem BA_0 {T : Nat} {zs kd : Nat → Nat} {gv : Nat → Int32} (hs : smN zs T ≤ 7) : BA T zs kd (a0S gv) :=
  ⟨fun _ => wB_0, fun a h => absurd (show (0 : Nat) = 1 from h) (by decide), rfl, hs⟩
/-- the checks behind depend on the list's choices alone -/
theorem ctB_cg {p q : Nat → Bool} : ∀ n, (∀ i, i < n → p i = q i) → ctB p n = ctB q n
  | 0, _ => rfl
  | n + 1, h => by rw [ctB, ctB, h n (Nat.lt_succ_self n), ctB_cg n (fun i hi => h i (by omega))]
theorem goP_cg {T ld : Nat} {zs kd vx li fm fm' : Nat → Nat} {g h : A9} (hf : ∀ q, q < ld → fm (li q) = fm' (li q)) (hs : smA kd g h) : goP T ld zs kd vx li fm g ↔ goP T ld zs kd vx li fm' h := by
  obtain ⟨e1, e2, e3, e4, e5⟩ := hs
  have u : unT li fm g.2.2.2.1 ld = unT li fm' h.2.2.2.1 ld := by
    unfold unT; rw [← e3]
    exact fF_cg ld 0 (fun j _ hj => by rw [hf j (by omega)])
  have an : ∀ x, anB kd vx li fm g.2.2.2.1 ld x = anB kd vx li fm' h.2.2.2.1 ld x := fun x => by
    induction x with
    | zero => rfl
    | succ x ih => rw [anB, anB, ih, ctB_cg ld (fun i hi => show fiP kd vx li fm g.2.2.2.1 x i = fiP kd vx li fm' h.2.2.2.1 x i from by unfold fiP; rw [hf i hi, e3])]
  unfold goP
  rw [e1, u, an 3]
