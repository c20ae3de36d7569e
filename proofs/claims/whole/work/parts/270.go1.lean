/-- a small number -/
def smI (v : Int32) : Prop := -4000 ≤ v.toInt ∧ v.toInt ≤ 4000
theorem bm_id {x : Int} {m : Nat} (h1 : -((m : Int) / 2) ≤ x) (h2 : x < ((m : Int) + 1) / 2) : x.bmod m = x := Int.bmod_eq_of_le h1 h2
theorem sm16 {v : Int32} (h : smI v) : v.toInt16.toInt32 = v := by
  refine Int32.toInt_inj.mp ?_
  rw [Int16.toInt_toInt32, Int32.toInt_toInt16]
  unfold smI at h
  exact bm_id (by show -((65536 : Int) / 2) ≤ v.toInt; omega) (by show v.toInt < ((65536 : Int) + 1) / 2; omega)
theorem sm_sub {a b : Int32} (ha : smI a) (hb : smI b) : (a - b).toInt = a.toInt - b.toInt := by
  unfold smI at ha hb
  rw [Int32.toInt_sub]
  exact bm_id (by show -((4294967296 : Int) / 2) ≤ a.toInt - b.toInt; omega) (by show a.toInt - b.toInt < ((4294967296 : Int) + 1) / 2; omega)
/-- a row of n numbers from k on is behind another one -/
def lxG (a b : Nat → Int32) : Nat → Nat → Prop
  | 0, _ => False
  | n + 1, k => (b k).toInt < (a k).toInt ∨ (a k = b k ∧ lxG a b n (k + 1))
theorem lx_cg {a b a2 b2 : Nat → Int32} : ∀ n k, (∀ j, k ≤ j → j < k + n → a j = a2 j ∧ b j = b2 j) → lxG a b n k → lxG a2 b2 n k
  | 0, _, _, h => h
  | n + 1, k, e, h => by
    obtain ⟨e1, e2⟩ := e k (Nat.le_refl k) (by omega)
    rcases h with h | ⟨h, h2⟩
    · exact Or.inl (by rw [← e1, ← e2]; exact h)
    · exact Or.inr ⟨by rw [← e1, ← e2]; exact h, lx_cg n (k + 1) (fun j q1 q2 => e j (by omega) (by omega)) h2⟩
theorem lx_tr {a b c : Nat → Int32} : ∀ n k, lxG a b n k → lxG b c n k → lxG a c n k
  | 0, _, h, _ => h
  | n + 1, k, h1, h2 => by
    rcases h1 with h1 | ⟨h1, g1⟩
    · rcases h2 with h2 | ⟨h2, g2⟩
      · exact Or.inl (by omega)
      · exact Or.inl (by rw [← h2]; exact h1)
    · rcases h2 with h2 | ⟨h2, g2⟩
      · exact Or.inl (by rw [h1]; exact h2)
      · exact Or.inr ⟨h1.trans h2, lx_tr n (k + 1) g1 g2⟩
theorem lx_irr {a b : Nat → Int32} : ∀ n k, (∀ j, k ≤ j → j < k + n → a j = b j) → ¬ lxG a b n k
  | 0, _, _, h => h
  | n + 1, k, e, h => by
    have e1 := e k (Nat.le_refl k) (by omega)
    rcases h with h | ⟨_, h2⟩
    · rw [e1] at h; omega
    · exact lx_irr n (k + 1) (fun j q1 q2 => e j (by omega) (by omega)) h2
theorem lx_tot {a b : Nat → Int32} : ∀ n k, lxG a b n k ∨ lxG b a n k ∨ ∀ j, k ≤ j → j < k + n → a j = b j
  | 0, k => Or.inr (Or.inr fun j q1 q2 => by omega)
  | n + 1, k => by
    rcases Int.lt_trichotomy (a k).toInt (b k).toInt with h | h | h
    · exact Or.inr (Or.inl (Or.inl h))
    · have e := Int32.toInt_inj.mp h
      rcases lx_tot n (k + 1) (a := a) (b := b) with g | g | g
      · exact Or.inl (Or.inr ⟨e, g⟩)
      · exact Or.inr (Or.inl (Or.inr ⟨e.symm, g⟩))
      · refine Or.inr (Or.inr fun j q1 q2 => ?_)
        by_cases q : j = k
        · rw [q]; exact e
        · exact g j (by omega) (by omega)
    · exact Or.inl (Or.inl h)
theorem ag_lx {a b : Nat → Int32} : ∀ n k, (∀ j, k ≤ j → j < k + n → smI (a j) ∧ smI (b j)) → ((0 < agF a b n k ↔ lxG a b n k) ∧ (agF a b n k = 0 ↔ ∀ j, k ≤ j → j < k + n → a j = b j))
  | 0, k, _ => ⟨⟨fun h => absurd (show (0 : Int32) < 0 from h) (by decide), fun h => absurd h (fun q => q)⟩, ⟨fun _ j q1 q2 => by omega, fun _ => rfl⟩⟩
  | n + 1, k, h => by
    obtain ⟨h1, h2⟩ := h k (Nat.le_refl k) (by omega)
    have es := sm_sub h1 h2
    have z0 : (0 : Int32).toInt = 0 := rfl
    have ih := ag_lx n (k + 1) (fun j q1 q2 => h j (by omega) (by omega))
    have e0 : a k - b k = 0 ↔ a k = b k := by
      constructor
      · intro e; refine Int32.toInt_inj.mp ?_; rw [e, z0] at es; omega
      · intro e; refine Int32.toInt_inj.mp ?_; rw [es, z0, e]; omega
    unfold agF lxG
    by_cases c : a k - b k = 0
    · rw [if_pos c]
      have c' := e0.mp c
      refine ⟨ih.1.trans ⟨fun q => Or.inr ⟨c', q⟩, fun q => ?_⟩, ih.2.trans ⟨fun q j q1 q2 => ?_, fun q j q1 q2 => q j (by omega) (by omega)⟩⟩
      · rcases q with q | q
        · rw [c'] at q; omega
        · exact q.2
      · by_cases e : j = k
        · rw [e]; exact c'
        · exact q j (by omega) (by omega)
    · rw [if_neg c]
      refine ⟨?_, ⟨fun q => absurd q c, fun q => absurd (e0.mpr (q k (Nat.le_refl k) (by omega))) c⟩⟩
      rw [i_lt, es, z0]
      exact ⟨fun q => Or.inl (by omega), fun q => by
        rcases q with q | q
        · omega
        · exact absurd (e0.mpr q.1) c⟩
/-- an outcome with its run -/
abbrev O9 := List Int32 × List Int32
def v11 (f : Nat → Int32) : List Int32 := (List.range 11).map f
theorem v11_at {f : Nat → Int32} {j : Nat} (h : j < 11) : (v11 f).getD j 0 = f j := by
  unfold v11; rw [List.getD_eq_getElem?_getD, List.getElem?_map, List.getElem?_range h]; rfl
theorem v11_eq {f g : Nat → Int32} : v11 f = v11 g ↔ ∀ j, j < 11 → f j = g j := by
  constructor
  · intro h j hj
    have e : (v11 f).getD j 0 = (v11 g).getD j 0 := by rw [h]
    rw [v11_at hj, v11_at hj] at e; exact e
  · intro h; unfold v11; exact List.map_congr_left fun j hj => h j (List.mem_range.mp hj)
def oat (L : List O9) (i : Nat) : O9 := L.getD i ([], [])
def orow (L : List O9) (i : Nat) : Nat → Int32 := fun j => (oat L i).1.getD j 0
theorem oat_lt {L : List O9} {r : O9} {i : Nat} (h : i < L.length) : oat (L ++ [r]) i = oat L i := by
  unfold oat; rw [List.getD_eq_getElem?_getD, List.getD_eq_getElem?_getD, List.getElem?_append_left h]
theorem oat_n {L : List O9} {r : O9} : oat (L ++ [r]) L.length = r := by
  unfold oat; rw [List.getD_eq_getElem?_getD, List.getElem?_append_right (Nat.le_refl _), Nat.sub_self]; rfl
theorem oat_mem {L : List O9} {i : Nat} (h : i < L.length) : oat L i ∈ L := by
  unfold oat; rw [List.getD_eq_getElem?_getD, List.getElem?_eq_getElem h]; exact List.getElem_mem h
theorem mem_oat {L : List O9} {r : O9} (h : r ∈ L) : ∃ i, i < L.length ∧ oat L i = r := by
  obtain ⟨i, hi, e⟩ := List.getElem_of_mem h
  exact ⟨i, hi, by unfold oat; rw [List.getD_eq_getElem?_getD, List.getElem?_eq_getElem hi]; exact e⟩
def hasV (L : List O9) (v : List Int32) : Prop := ∃ r, r ∈ L ∧ r.1 = v
theorem hasV_iff {L : List O9} {v : List Int32} : hasV L v ↔ L.any (fun r => r.1 == v) = true := by
  rw [List.any_eq_true]
  exact ⟨fun ⟨r, h1, h2⟩ => ⟨r, h1, by simpa using h2⟩, fun ⟨r, h1, h2⟩ => ⟨r, h1, by simpa using h2⟩⟩
/-- an outcome comes to a set, if it isn't there and there is room -/
def adO (L : List O9) (v p : List Int32) : List O9 := if L.any (fun r => r.1 == v) = true then L else if L.length < 4000 then L ++ [(v, p)] else L
def updO (OS : Nat → List O9) (k : Nat) (L : List O9) : Nat → List O9 := fun i => if i = k then L else OS i
theorem updO_s {OS : Nat → List O9} {k : Nat} {L : List O9} : updO OS k L k = L := if_pos rfl
theorem updO_self {OS : Nat → List O9} {k : Nat} : updO OS k (OS k) = OS := by
  funext i; unfold updO; split
  · next e => rw [e]
  · rfl
theorem updO_2 {OS : Nat → List O9} {k : Nat} {L M : List O9} : updO (updO OS k L) k M = updO OS k M := by
  funext i; unfold updO; split <;> rfl
/-- the reference's arrays hold a set of outcomes -/
def okO (se : Nat) (L : List O9) (om or9 : Nat → Nat) (oc9 : Nat → Int32) (ws : Nat → Nat) (wi : Nat → Int32) : Prop :=
  om se = L.length ∧ L.length ≤ 4000 ∧ (∀ i, i < L.length → ∀ j, j < 11 → oc9 (11 * (4000 * se + i) + j) = orow L i j ∧ smI (orow L i j)) ∧ (∀ i, i < L.length → or9 (4000 * se + i) < L.length) ∧
  (∀ i j, i < j → j < L.length → lxG (orow L (or9 (4000 * se + j))) (orow L (or9 (4000 * se + i))) 11 0) ∧ (∀ r, r ∈ L → ∃ f, r.1 = v11 f) ∧
  (se < 4 → ∀ i, i < L.length → ws (4000 * se + i) = (oat L i).2.length ∧ (oat L i).2.length ≤ 16 ∧ ∀ k, k < (oat L i).2.length → wi (16 * (4000 * se + i) + k) = (oat L i).2.getD k 0)
def okOs (OS : Nat → List O9) (om or9 : Nat → Nat) (oc9 : Nat → Int32) (ws : Nat → Nat) (wi : Nat → Int32) : Prop := ∀ se, se < 8 → okO se (OS se) om or9 oc9 ws wi
theorem okO_nil {se : Nat} {om or9 : Nat → Nat} {oc9 : Nat → Int32} {ws : Nat → Nat} {wi : Nat → Int32} (h : om se = 0) : okO se [] om or9 oc9 ws wi :=
  ⟨h, Nat.zero_le _, fun i q => absurd q (Nat.not_lt_zero i), fun i q => absurd q (Nat.not_lt_zero i), fun i j _ q => absurd q (Nat.not_lt_zero j), fun r q => absurd q (List.not_mem_nil), fun _ i q => absurd q (Nat.not_lt_zero i)⟩
theorem okOs_0 {OS : Nat → List O9} {om or9 : Nat → Nat} {oc9 : Nat → Int32} {ws : Nat → Nat} {wi : Nat → Int32} {k : Nat} (h : okOs OS om or9 oc9 ws wi) : okOs (updO OS k []) (updN om k 0) or9 oc9 ws wi := fun se hse => by
  unfold updO
  by_cases e : se = k
  · rw [if_pos e]; exact okO_nil (by unfold updN; rw [if_pos e])
  · rw [if_neg e]
    obtain ⟨a1, a2⟩ := h se hse
    exact ⟨by unfold updN; rw [if_neg e]; exact a1, a2⟩
theorem pick9 {nv : Nat → Int32} {L : List O9} {of : Nat → Nat} {b : Nat} (n : Nat) (hn : L.length = n) (hs : ∀ i j, i < j → j < L.length → lxG (orow L (of (b + j))) (orow L (of (b + i))) 11 0) :
    ∃ p9, p9 ≤ n ∧ (∀ i, i < p9 → lxG nv (orow L (of (b + i))) 11 0) ∧ (∀ i, p9 ≤ i → i < n → ¬ lxG nv (orow L (of (b + i))) 11 0) := by
  have go : ∀ m, m ≤ n → ∃ p9, p9 ≤ m ∧ (∀ i, i < p9 → lxG nv (orow L (of (b + i))) 11 0) ∧ (∀ i, p9 ≤ i → i < m → ¬ lxG nv (orow L (of (b + i))) 11 0) := by
    intro m
    induction m with
    | zero => intro _; exact ⟨0, Nat.le_refl 0, fun i q => absurd q (Nat.not_lt_zero i), fun i _ q => absurd q (Nat.not_lt_zero i)⟩
    | succ m ih =>
      intro hm
      by_cases c : lxG nv (orow L (of (b + m))) 11 0
      · refine ⟨m + 1, Nat.le_refl _, fun i hi => ?_, fun i h1 h2 => by omega⟩
        by_cases e : i = m
        · rw [e]; exact c
        · exact lx_tr 11 0 c (hs i m (by omega) (by omega))
      · obtain ⟨p, h1, h2, h3⟩ := ih (by omega)
        refine ⟨p, by omega, h2, fun i q1 q2 => ?_⟩
        by_cases e : i = m
        · rw [e]; exact c
        · exact h3 i q1 (by omega)
  exact go n (Nat.le_refl n)
theorem okO_onto {se : Nat} {L : List O9} {om or9 : Nat → Nat} {oc9 : Nat → Int32} {ws : Nat → Nat} {wi : Nat → Int32} (h : okO se L om or9 oc9 ws wi) (i : Nat) (hi : i < L.length) : ∃ j, j < L.length ∧ or9 (4000 * se + j) = i := by
  obtain ⟨a1, a2, a3, a4, a5, a6, a7⟩ := h
  have inj : ∀ j k, j < L.length → k < L.length → or9 (4000 * se + j) = or9 (4000 * se + k) → j = k := fun j k hj hk e => by
    rcases Nat.lt_trichotomy j k with q | q | q
    · have := a5 j k q hk; rw [e] at this; exact absurd this (lx_irr 11 0 fun _ _ _ => rfl)
    · exact q
    · have := a5 k j q hj; rw [e] at this; exact absurd this (lx_irr 11 0 fun _ _ _ => rfl)
  refine Classical.byContradiction fun hne => ?_
  have hn : ∀ j, j < L.length → or9 (4000 * se + j) ≠ i := fun j hj e => hne ⟨j, hj, e⟩
  have := pigeon (L.length - 1) L.length (fun j => if or9 (4000 * se + j) < i then or9 (4000 * se + j) + 1 else or9 (4000 * se + j)) (fun j hj => by
    have h1 := a4 j hj
    have h2 := hn j hj
    split <;> omega) (fun j k hj hk e => by
    have h1 := hn j hj
    have h2 := hn k hk
    refine inj j k hj hk ?_
    split at e <;> split at e <;> omega)
  omega
theorem okO_row {se : Nat} {L : List O9} {om or9 : Nat → Nat} {oc9 : Nat → Int32} {ws : Nat → Nat} {wi : Nat → Int32} (h : okO se L om or9 oc9 ws wi) {i : Nat} (hi : i < L.length) {nv : Nat → Int32} : (oat L i).1 = v11 nv ↔ ∀ k, k < 11 → nv k = orow L i k := by
  obtain ⟨f, e⟩ := h.2.2.2.2.2.1 _ (oat_mem hi)
  have er : ∀ k, k < 11 → orow L i k = f k := fun k hk => by unfold orow; rw [e]; exact v11_at hk
  rw [e, v11_eq]
  exact ⟨fun q k hk => by rw [er k hk]; exact (q k hk).symm, fun q k hk => by rw [q k hk, er k hk]⟩
theorem okO_has {se : Nat} {L : List O9} {om or9 : Nat → Nat} {oc9 : Nat → Int32} {ws : Nat → Nat} {wi : Nat → Int32} (h : okO se L om or9 oc9 ws wi) {nv : Nat → Int32} {p9 : Nat} (hp : p9 ≤ L.length)
    (q1 : ∀ i, i < p9 → lxG nv (orow L (or9 (4000 * se + i))) 11 0) (q2 : ∀ i, p9 ≤ i → i < L.length → ¬ lxG nv (orow L (or9 (4000 * se + i))) 11 0) : hasV L (v11 nv) ↔ p9 < L.length ∧ ∀ k, k < 11 → nv k = orow L (or9 (4000 * se + p9)) k := by
  constructor
  · intro ⟨r, hr, e⟩
    obtain ⟨i, hi, ei⟩ := mem_oat hr
    rw [← ei] at e
    have er := (okO_row h hi).mp e
    obtain ⟨j, hj, ej⟩ := okO_onto h i hi
    rw [← ej] at er
    have n1 : ¬ j < p9 := fun q => lx_irr 11 0 (fun k _ hk => er k (by omega)) (q1 j q)
    have n2 : ¬ p9 < j := fun q => q2 p9 (Nat.le_refl _) (by omega) (lx_cg 11 0 (fun k _ hk => ⟨(er k (by omega)).symm, rfl⟩) (h.2.2.2.2.1 p9 j q hj))
    have : j = p9 := by omega
    subst this
    exact ⟨hj, er⟩
  · intro ⟨h1, h2⟩
    have hi := h.2.2.2.1 p9 h1
    exact ⟨_, oat_mem hi, (okO_row h hi).mpr h2⟩
theorem wrO_at {oc nw : Nat → Int32} {b : Nat} : ∀ k i, wrO oc nw b k i = if b ≤ i ∧ i < b + k then (nw (i - b)).toInt16.toInt32 else oc i
  | 0, i => by unfold wrO; rw [if_neg (by omega)]
  | k + 1, i => by
    unfold wrO
    by_cases e : i = b + k
    · rw [e, pk_us, if_pos (by omega), Nat.add_sub_cancel_left]
    · rw [pk_un e, wrO_at k i]
      by_cases c : b ≤ i ∧ i < b + k
      · rw [if_pos c, if_pos (by omega)]
      · rw [if_neg c, if_neg (by omega)]
/-- one more outcome: what the arrays must hold of the run is told by hw -/
theorem okO_add {se n p9 : Nat} {L : List O9} {om or9 : Nat → Nat} {oc9 : Nat → Int32} {ws ws2 : Nat → Nat} {wi wi2 : Nat → Int32} {nv : Nat → Int32} {wl : List Int32} (h : okO se L om or9 oc9 ws wi) (hn : L.length = n) (hn4 : n < 4000) (hp : p9 ≤ n) (hsm : ∀ k, k < 11 → smI (nv k))
    (q1 : ∀ i, i < p9 → lxG nv (orow L (or9 (4000 * se + i))) 11 0) (q2 : ∀ i, p9 ≤ i → i < n → ¬ lxG nv (orow L (or9 (4000 * se + i))) 11 0) (hv : ¬ hasV L (v11 nv))
    (hw : se < 4 → (∀ i, i < n → ws2 (4000 * se + i) = ws (4000 * se + i) ∧ ∀ k, k < 16 → wi2 (16 * (4000 * se + i) + k) = wi (16 * (4000 * se + i) + k)) ∧ ws2 (4000 * se + n) = wl.length ∧ wl.length ≤ 16 ∧ ∀ k, k < wl.length → wi2 (16 * (4000 * se + n) + k) = wl.getD k 0) :
    okO se (L ++ [(v11 nv, wl)]) (updN om se (n + 1)) (updN (mvN or9 (4000 * se + p9) (4000 * se + n)) (4000 * se + p9) n) (wrO oc9 nv (11 * (4000 * se + n)) 11) ws2 wi2 := by
  have hh := okO_has h (by omega) q1 (fun i h1 h2 => q2 i h1 (by omega))
  obtain ⟨a1, a2, a3, a4, a5, a6, a7⟩ := h
  have hl : (L ++ [(v11 nv, wl)]).length = n + 1 := by rw [List.length_append, hn]; rfl
  have r1 : ∀ i, i < n → orow (L ++ [(v11 nv, wl)]) i = orow L i := fun i hi => by unfold orow; rw [oat_lt (by omega)]
  have r2 : ∀ j, j < 11 → orow (L ++ [(v11 nv, wl)]) n j = nv j := fun j hj => by unfold orow; rw [← hn, oat_n]; exact v11_at hj
  -- the new order
  have o1 : ∀ i, i < p9 → updN (mvN or9 (4000 * se + p9) (4000 * se + n)) (4000 * se + p9) n (4000 * se + i) = or9 (4000 * se + i) := fun i hi => by
    unfold updN; rw [if_neg (by omega)]; unfold mvN; rw [if_neg (by omega)]
  have o2 : updN (mvN or9 (4000 * se + p9) (4000 * se + n)) (4000 * se + p9) n (4000 * se + p9) = n := if_pos rfl
  have o3 : ∀ i, p9 < i → i ≤ n → updN (mvN or9 (4000 * se + p9) (4000 * se + n)) (4000 * se + p9) n (4000 * se + i) = or9 (4000 * se + (i - 1)) := fun i h1 h2 => by
    unfold updN; rw [if_neg (by omega)]; unfold mvN; rw [if_pos (by omega)]; congr 1; omega
  have up : ∀ i, p9 ≤ i → i < n → lxG (orow L (or9 (4000 * se + i))) nv 11 0 := fun i h1 h2 => by
    rcases lx_tot 11 0 (a := nv) (b := orow L (or9 (4000 * se + i))) with q | q | q
    · exact absurd q (q2 i h1 h2)
    · exact q
    · exfalso
      by_cases e : i = p9
      · subst e; exact hv (hh.mpr ⟨by omega, fun k hk => q k (Nat.zero_le k) (by omega)⟩)
      · exact q2 p9 (Nat.le_refl _) (by omega) (lx_cg 11 0 (fun k h3 h4 => ⟨(q k h3 h4).symm, rfl⟩) (a5 p9 i (by omega) (by omega)))
  refine ⟨?_, by omega, fun i hi j hj => ?_, fun i hi => ?_, fun i j hij hj => ?_, fun r hr => ?_, fun hs i hi => ?_⟩
  · rw [hl]; exact if_pos rfl
  · rw [hl] at hi
    rw [wrO_at]
    by_cases e : i = n
    · subst e
      rw [if_pos (by omega), Nat.add_sub_cancel_left, sm16 (hsm j hj), r2 j hj]
      exact ⟨rfl, hsm j hj⟩
    · rw [if_neg (by omega), r1 i (by omega)]
      exact a3 i (by omega) j hj
  · rw [hl] at hi ⊢
    by_cases c1 : i < p9
    · rw [o1 i c1]; have := a4 i (by omega); omega
    · by_cases c2 : i = p9
      · rw [c2, o2]; omega
      · rw [o3 i (by omega) (by omega)]; have := a4 (i - 1) (by omega); omega
  · rw [hl] at hj
    have g : ∀ i, i < n → or9 (4000 * se + i) < n := fun i hi => by have := a4 i (by omega); omega
    by_cases c1 : j < p9
    · rw [o1 j c1, o1 i (by omega), r1 _ (g j (by omega)), r1 _ (g i (by omega))]; exact a5 i j hij (by omega)
    · by_cases c2 : j = p9
      · rw [c2, o2, o1 i (by omega), r1 _ (g i (by omega))]
        exact lx_cg 11 0 (fun k _ hk => ⟨(r2 k (by omega)).symm, rfl⟩) (q1 i (by omega))
      · rw [o3 j (by omega) (by omega), r1 _ (g (j - 1) (by omega))]
        by_cases c3 : i < p9
        · rw [o1 i c3, r1 _ (g i (by omega))]; exact a5 i (j - 1) (by omega) (by omega)
        · by_cases c4 : i = p9
          · rw [c4, o2]; exact lx_cg 11 0 (fun k _ hk => ⟨rfl, (r2 k (by omega)).symm⟩) (up (j - 1) (by omega) (by omega))
          · rw [o3 i (by omega) (by omega), r1 _ (g (i - 1) (by omega))]; exact a5 (i - 1) (j - 1) (by omega) (by omega)
  · rcases List.mem_append.mp hr with hr | hr
    · exact a6 r hr
    · rw [List.mem_singleton.mp hr]; exact ⟨nv, rfl⟩
  · rw [hl] at hi
    obtain ⟨w1, w2, w3, w4⟩ := hw hs
    by_cases e : i = n
    · subst e; rw [← hn, oat_n, hn]; exact ⟨w2, w3, w4⟩
    · obtain ⟨b1, b2, b3⟩ := a7 hs i (by omega)
      obtain ⟨c1, c2⟩ := w1 i (by omega)
      rw [oat_lt (by omega)]
      exact ⟨c1.trans b1, b2, fun k hk => (c2 k (by omega)).trans (b3 k hk)⟩
theorem okO_new {se p9 dp : Nat} {L : List O9} {om or9 : Nat → Nat} {oc9 : Nat → Int32} {ws : Nat → Nat} {wi sp9 : Nat → Int32} {nv : Nat → Int32} {wl : List Int32} (h : okO se L om or9 oc9 ws wi) (hn4 : L.length < 4000) (hp : p9 ≤ L.length) (hsm : ∀ k, k < 11 → smI (nv k))
    (q1 : ∀ i, i < p9 → lxG nv (orow L (or9 (4000 * se + i))) 11 0) (q2 : ∀ i, p9 ≤ i → i < L.length → ¬ lxG nv (orow L (or9 (4000 * se + i))) 11 0) (hv : ¬ hasV L (v11 nv)) (hwl : se < 4 → wl.length = dp ∧ dp ≤ 16 ∧ ∀ k, k < dp → sp9 k = wl.getD k 0 ∧ smI (sp9 k)) :
    okO se (L ++ [(v11 nv, wl)]) (updN om se (L.length + 1)) (updN (mvN or9 (4000 * se + p9) (4000 * se + L.length)) (4000 * se + p9) L.length) (wrO oc9 nv (11 * (4000 * se + L.length)) 11) (updN ws (4000 * se + L.length) dp) (wrO wi sp9 (16 * (4000 * se + L.length)) dp) := by
  refine okO_add h rfl hn4 hp hsm q1 q2 hv fun hs => ?_
  obtain ⟨w1, w2, w3⟩ := hwl hs
  refine ⟨fun i hi => ⟨by unfold updN; rw [if_neg (by omega)], fun k hk => by rw [wrO_at, if_neg (by omega)]⟩, by unfold updN; rw [if_pos rfl, w1], by omega, fun k hk => ?_⟩
  rw [wrO_at, if_pos (by omega), Nat.add_sub_cancel_left, sm16 (w3 k (by omega)).2]
  exact (w3 k (by omega)).1
/-- another set is as it was -/
theorem okO_oth {se md n p9 dp : Nat} {L : List O9} {om or9 : Nat → Nat} {oc9 : Nat → Int32} {ws : Nat → Nat} {wi sp9 nv : Nat → Int32} (h : okO se L om or9 oc9 ws wi) (e : se ≠ md) (hn : n < 4000) (hp : p9 ≤ n) (hdp : dp ≤ 16) :
    okO se L (updN om md (n + 1)) (updN (mvN or9 (4000 * md + p9) (4000 * md + n)) (4000 * md + p9) n) (wrO oc9 nv (11 * (4000 * md + n)) 11) (updN ws (4000 * md + n) dp) (wrO wi sp9 (16 * (4000 * md + n)) dp) := by
  obtain ⟨a1, a2, a3, a4, a5, a6, a7⟩ := h
  have o : ∀ i, i < L.length → updN (mvN or9 (4000 * md + p9) (4000 * md + n)) (4000 * md + p9) n (4000 * se + i) = or9 (4000 * se + i) := fun i hi => by
    unfold updN; rw [if_neg (by omega)]; unfold mvN; rw [if_neg (by omega)]
  refine ⟨by unfold updN; rw [if_neg e]; exact a1, a2, fun i hi j hj => ?_, fun i hi => by rw [o i hi]; exact a4 i hi, fun i j hij hj => ?_, a6, fun hs i hi => ?_⟩
  · rw [wrO_at, if_neg (by omega)]; exact a3 i hi j hj
  · rw [o i (by omega), o j hj]; exact a5 i j hij hj
  · obtain ⟨b1, b2, b3⟩ := a7 hs i hi
    refine ⟨by unfold updN; rw [if_neg (by omega)]; exact b1, b2, fun k hk => ?_⟩
    rw [wrO_at, if_neg (by omega)]; exact b3 k hk
/-- another set is as it was, when no run is told -/
theorem okO_oth2 {se md n p9 : Nat} {L : List O9} {om or9 : Nat → Nat} {oc9 : Nat → Int32} {ws : Nat → Nat} {wi nv : Nat → Int32} (h : okO se L om or9 oc9 ws wi) (e : se ≠ md) (hn : n < 4000) (hp : p9 ≤ n) :
    okO se L (updN om md (n + 1)) (updN (mvN or9 (4000 * md + p9) (4000 * md + n)) (4000 * md + p9) n) (wrO oc9 nv (11 * (4000 * md + n)) 11) ws wi := by
  obtain ⟨a1, a2, a3, a4, a5, a6, a7⟩ := h
  have o : ∀ i, i < L.length → updN (mvN or9 (4000 * md + p9) (4000 * md + n)) (4000 * md + p9) n (4000 * se + i) = or9 (4000 * se + i) := fun i hi => by
    unfold updN; rw [if_neg (by omega)]; unfold mvN; rw [if_neg (by omega)]
  refine ⟨by unfold updN; rw [if_neg e]; exact a1, a2, fun i hi j hj => ?_, fun i hi => by rw [o i hi]; exact a4 i hi, fun i j hij hj => ?_, a6, a7⟩
  · rw [wrO_at, if_neg (by omega)]; exact a3 i hi j hj
  · rw [o i (by omega), o j hj]; exact a5 i j hij hj
