/-- lists of pairs, piece by piece -/
def mpP (f : Nat → List (Nat × Nat)) : Nat → List (Nat × Nat)
  | 0 => []
  | i + 1 => mpP f i ++ f i
/-- pairs come to a relation -/
def pr1 (nu f : Nat → Nat) (a b : Nat) : Nat → Nat := updN f (nu a) (f (nu a) ||| 2 ^ nu b)
def prF (nu : Nat → Nat) (L : List (Nat × Nat)) (f : Nat → Nat) : Nat → Nat := L.foldl (fun f p => pr1 nu f p.1 p.2) f
theorem prF_1 {nu : Nat → Nat} {L : List (Nat × Nat)} {a b : Nat} {f : Nat → Nat} : prF nu (L ++ [(a, b)]) f = pr1 nu (prF nu L f) a b := by
  unfold prF; rw [List.foldl_append]; rfl
theorem pr1_lt {nu f : Nat → Nat} {a b : Nat} (hf : ∀ i, f i < 128) (hb : nu b < 7) : ∀ i, pr1 nu f a b i < 128 := fun i => by
  unfold pr1 updN; split
  · exact or_bit (hf _) hb
  · exact hf i
def inL (L : List (Nat × Nat)) : Prop := ∀ p, p ∈ L → p.1 < 28 ∧ p.2 < 28
theorem prF_lt {nu : Nat → Nat} (hn : ∀ i, i < 28 → nu i < 7) : ∀ (L : List (Nat × Nat)) (f : Nat → Nat), (∀ i, f i < 128) → inL L → ∀ i, prF nu L f i < 128
  | [], f, hf, _ => hf
  | p :: L, f, hf, hL => by
    show ∀ i, prF nu L (pr1 nu f p.1 p.2) i < 128
    exact prF_lt hn L _ (pr1_lt hf (hn _ (hL p (List.mem_cons_self ..)).2)) (fun q hq => hL q (List.mem_cons_of_mem _ hq))
theorem inL_app {L M : List (Nat × Nat)} (h1 : inL L) (h2 : inL M) : inL (L ++ M) := fun p hp => (List.mem_append.mp hp).elim (h1 p) (h2 p)
theorem inL_mp {f : Nat → List (Nat × Nat)} : ∀ n, (∀ i, i < n → inL (f i)) → inL (mpP f n)
  | 0, _ => fun p hp => absurd hp (by simp [mpP])
  | n + 1, h => by unfold mpP; exact inL_app (inL_mp n (fun i hi => h i (by omega))) (h n (Nat.lt_succ_self n))
/-- own pairs: two actions of one thread that happen -/
def owJ (hp : Nat → Nat) (t i : Nat) : Nat → List (Nat × Nat) := fun j => if hp (7 * t + i) = 1 ∧ hp (7 * t + i + 1 + j) = 1 then [(7 * t + i, 7 * t + i + 1 + j)] else []
def owI (zs hp : Nat → Nat) (t : Nat) : Nat → List (Nat × Nat) := fun i => mpP (owJ hp t i) (zs t - (i + 1))
def owT (zs hp : Nat → Nat) : Nat → List (Nat × Nat) := fun t => mpP (owI zs hp t) (zs t)
/-- pairs of a row -/
def bfJ (rx : Nat → Nat) (x i : Nat) : Nat → List (Nat × Nat) := fun j => [(rx (7 * x + i), rx (7 * x + i + 1 + j))]
def bfI (rx rs : Nat → Nat) (x : Nat) : Nat → List (Nat × Nat) := fun i => mpP (bfJ rx x i) (rs x - (i + 1))
def bfX (rx rs : Nat → Nat) : Nat → List (Nat × Nat) := fun x => mpP (bfI rx rs x) (rs x)
/-- what is taken: READS and SEEN -/
def tkQ (nu rx rs : Nat → Nat) (a w9 x : Nat) (s : (Nat → Nat) × (Nat → Nat)) : (Nat → Nat) × (Nat → Nat) := (if w9 = 0 then s.1 else updN s.1 (nu (w9 - 1)) (s.1 (nu (w9 - 1)) ||| 2 ^ nu a), (tkN rx nu x a w9 s.2 (rs x)).2)
def tkL (nu rx rs li fm hp vx : Nat → Nat) (s : (Nat → Nat) × (Nat → Nat)) : Nat → (Nat → Nat) × (Nat → Nat)
  | 0 => s
  | k + 1 => if hp (li k) = 1 then tkQ nu rx rs (li k) (fm (li k)) (vx (li k)) (tkL nu rx rs li fm hp vx s k) else tkL nu rx rs li fm hp vx s k
def tkR (nu rx rs : Nat → Nat) (s : (Nat → Nat) × (Nat → Nat)) : Nat → (Nat → Nat) × (Nat → Nat)
  | 0 => s
  | k + 1 => tkQ nu rx rs (rx (21 + k)) (if k = 0 then 0 else rx (20 + k) + 1) 3 (tkR nu rx rs s k)
def ok2 (s : (Nat → Nat) × (Nat → Nat)) : Prop := (∀ i, s.1 i < 128) ∧ (∀ i, s.2 i < 128)
theorem tkQ_ok {nu rx rs : Nat → Nat} {a w9 x : Nat} {s : (Nat → Nat) × (Nat → Nat)} (hs : ok2 s) (ha : a < 28) (hx : x < 4) (hr7 : rs x ≤ 7) (hn : ∀ i, i < 28 → nu i < 7) (hr : ∀ i, i < 28 → rx i < 28) : ok2 (tkQ nu rx rs a w9 x s) := by
  unfold tkQ
  refine ⟨fun i => ?_, fun i => tkN_lt hs.2 hn hr hx _ hr7 i⟩
  show (if w9 = 0 then s.1 else updN s.1 (nu (w9 - 1)) (s.1 (nu (w9 - 1)) ||| 2 ^ nu a)) i < 128
  split
  · exact hs.1 i
  · unfold updN; split
    · exact or_bit (hs.1 _) (hn a ha)
    · exact hs.1 i
theorem tkL_ok {nu rx rs li fm hp vx : Nat → Nat} {s : (Nat → Nat) × (Nat → Nat)} (hs : ok2 s) (hli : ∀ q, q < 7 → li q < 28) (hvx : ∀ i, i < 28 → vx i < 4) (hr7 : ∀ x, x < 4 → rs x ≤ 7) (hn : ∀ i, i < 28 → nu i < 7) (hr : ∀ i, i < 28 → rx i < 28) : ∀ k, k ≤ 7 → ok2 (tkL nu rx rs li fm hp vx s k)
  | 0, _ => hs
  | k + 1, h => by
    unfold tkL; split
    · exact tkQ_ok (tkL_ok hs hli hvx hr7 hn hr k (by omega)) (hli k (by omega)) (hvx _ (hli k (by omega))) (hr7 _ (hvx _ (hli k (by omega)))) hn hr
    · exact tkL_ok hs hli hvx hr7 hn hr k (by omega)
theorem tkR_ok {nu rx rs : Nat → Nat} {s : (Nat → Nat) × (Nat → Nat)} (hs : ok2 s) (hr7 : ∀ x, x < 4 → rs x ≤ 7) (hn : ∀ i, i < 28 → nu i < 7) (hr : ∀ i, i < 28 → rx i < 28) : ∀ k, k ≤ 7 → ok2 (tkR nu rx rs s k)
  | 0, _ => hs
  | k + 1, h => by unfold tkR; exact tkQ_ok (tkR_ok hs hr7 hn hr k (by omega)) (hr _ (by omega)) (by decide) (hr7 3 (by decide)) hn hr
