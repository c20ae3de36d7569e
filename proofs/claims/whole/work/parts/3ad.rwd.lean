theorem nd_map9 {A B : Type} {f : A → B} : ∀ l : List A, l.Nodup → (∀ a b, a ∈ l → b ∈ l → f a = f b → a = b) → (l.map f).Nodup
  | [], _, _ => List.nodup_nil
  | a :: l, hn, hi => by
    obtain ⟨q1, q2⟩ := List.nodup_cons.mp hn
    rw [List.map_cons]
    refine List.nodup_cons.mpr ⟨fun h => ?_, nd_map9 l q2 (fun b c hb hc => hi b c (List.mem_cons_of_mem _ hb) (List.mem_cons_of_mem _ hc))⟩
    obtain ⟨b, hb, e⟩ := List.mem_map.mp h
    have := hi b a (List.mem_cons_of_mem _ hb) (List.mem_cons_self ..) e
    exact q1 (by rw [← this]; exact hb)
/-- two lists with the same codes, none twice -/
theorem len_code9 {A B C : Type} {L : List A} {M : List B} {f : A → C} {g : B → C} (h1 : (L.map f).Nodup) (h2 : (M.map g).Nodup) (h3 : ∀ c, c ∈ L.map f ↔ c ∈ M.map g) : L.length = M.length := by
  have := ((List.perm_ext_iff_of_nodup h1 h2).mpr h3).length_eq
  rw [List.length_map, List.length_map] at this; exact this
section GCM
variable {T : Nat} {zs kd vx li : Nat → Nat}
theorem cb_mem (hz : ∀ t, t < T → zs t ≤ 7) {fl : Nat → Nat} {k b : Nat} : b ∈ cbL T zs kd vx li fl k ↔ pr9 T zs b ∧ cnP kd vx li k b ∧ frL kd li (updN fl k (b + 1)) k := by
  unfold cbL
  rw [List.mem_flatMap]
  constructor
  · rintro ⟨t, ht, h⟩
    have ht := List.mem_range.mp ht
    have h7 := hz t ht
    unfold cbI at h
    obtain ⟨h1, h2⟩ := List.mem_filter.mp h
    obtain ⟨i, hi, e⟩ := List.mem_map.mp h1
    have hi := List.mem_range.mp hi
    have e1 : b / 7 = t := by omega
    have e2 : b % 7 = i := by omega
    exact ⟨⟨by omega, by rw [e1, e2]; exact hi⟩, of_decide_eq_true h2⟩
  · rintro ⟨⟨h1, h2⟩, h3⟩
    refine ⟨b / 7, List.mem_range.mpr h1, ?_⟩
    unfold cbI
    exact List.mem_filter.mpr ⟨List.mem_map.mpr ⟨b % 7, List.mem_range.mpr h2, by omega⟩, decide_eq_true h3⟩
theorem cb_nd (hz : ∀ t, t < T → zs t ≤ 7) {fl : Nat → Nat} {k : Nat} : (cbL T zs kd vx li fl k).Nodup := by
  unfold cbL
  refine nd_flat _ List.nodup_range (fun t _ => ?_) (fun t u a ht hu h1 h2 => ?_)
  · unfold cbI
    refine List.Nodup.sublist List.filter_sublist ?_
    exact nd_map9 _ List.nodup_range (fun i j _ _ e => by omega)
  · unfold cbI at h1 h2
    obtain ⟨i, hi, e1⟩ := List.mem_map.mp (List.mem_filter.mp h1).1
    obtain ⟨j, hj, e2⟩ := List.mem_map.mp (List.mem_filter.mp h2).1
    have := hz t (List.mem_range.mp ht)
    have := hz u (List.mem_range.mp hu)
    have := List.mem_range.mp hi
    have := List.mem_range.mp hj
    omega
theorem frL_cg {f g : Nat → Nat} {k : Nat} (h : ∀ q, q ≤ k → f q = g q) : frL kd li f k ↔ frL kd li g k := by
  have e : fF (fun q => decide (kd (li q) = 3 ∧ f q = f k)) k 0 = fF (fun q => decide (kd (li q) = 3 ∧ g q = g k)) k 0 := fF_cg9 k (fun j hj => by rw [h j (by omega), h k (Nat.le_refl k)])
  show (¬ kd (li k) = 3 ∨ f k = 0 ∨ fF (fun q => decide (kd (li q) = 3 ∧ f q = f k)) k 0 = 0) ↔ (¬ kd (li k) = 3 ∨ g k = 0 ∨ fF (fun q => decide (kd (li q) = 3 ∧ g q = g k)) k 0 = 0)
  rw [e, h k (Nat.le_refl k)]
/-- the choices that the reference tries -/
theorem gc_mem (hz : ∀ t, t < T → zs t ≤ 7) : ∀ n k (fl L : Nat → Nat), L ∈ gcL T zs kd vx li n k fl ↔ (∀ q, q < k ∨ k + n ≤ q → L q = fl q) ∧ ∀ q, k ≤ q → q < k + n → (L q = 0 ∨ (pr9 T zs (L q - 1) ∧ cnP kd vx li q (L q - 1))) ∧ frL kd li L q
  | 0, k, fl, L => by
    show L ∈ [fl] ↔ _
    rw [List.mem_singleton]
    constructor
    · rintro rfl; exact ⟨fun _ _ => rfl, fun q h1 h2 => by omega⟩
    · rintro ⟨h, -⟩; funext q; exact h q (by omega)
  | n + 1, k, fl, L => by
    unfold gcL
    rw [List.mem_append]
    have up : ∀ v, L k = v → ((∀ q, q < k + 1 ∨ k + 1 + n ≤ q → L q = updN fl k v q) ↔ ∀ q, q < k ∨ k + (n + 1) ≤ q → L q = fl q) := fun v hv => by
      constructor
      · intro h q hq
        rw [h q (by omega), updN_n (by omega)]
      · intro h q hq
        by_cases e : q = k
        · rw [e, updN_s]; exact hv
        · rw [updN_n e]; exact h q (by omega)
    have fc : ∀ v, L k = v → (∀ q, q < k ∨ k + (n + 1) ≤ q → L q = fl q) → (frL kd li (updN fl k v) k ↔ frL kd li L k) := fun v hv h => frL_cg (fun q hq => by
      by_cases e : q = k
      · rw [e, updN_s, hv]
      · rw [updN_n e]; exact (h q (by omega)).symm)
    constructor
    · rintro (h | h)
      · by_cases c : frL kd li (updN fl k 0) k
        · rw [if_pos c] at h
          obtain ⟨h1, h2⟩ := (gc_mem hz n (k + 1) (updN fl k 0) L).mp h
          have hk : L k = 0 := by rw [h1 k (by omega), updN_s]
          have h3 := (up 0 hk).mp h1
          refine ⟨h3, fun q q1 q2 => ?_⟩
          by_cases e : q = k
          · subst e; exact ⟨Or.inl hk, (fc 0 hk h3).mp c⟩
          · exact h2 q (by omega) (by omega)
        · rw [if_neg c] at h; exact absurd h List.not_mem_nil
      · obtain ⟨b, hb, h⟩ := List.mem_flatMap.mp h
        obtain ⟨b1, b2, b3⟩ := (cb_mem hz).mp hb
        obtain ⟨h1, h2⟩ := (gc_mem hz n (k + 1) (updN fl k (b + 1)) L).mp h
        have hk : L k = b + 1 := by rw [h1 k (by omega), updN_s]
        have h3 := (up (b + 1) hk).mp h1
        refine ⟨h3, fun q q1 q2 => ?_⟩
        by_cases e : q = k
        · subst e
          rw [hk, Nat.add_sub_cancel]
          exact ⟨Or.inr ⟨b1, b2⟩, (fc (b + 1) hk h3).mp b3⟩
        · exact h2 q (by omega) (by omega)
    · rintro ⟨h1, h2⟩
      obtain ⟨h3, h4⟩ := h2 k (Nat.le_refl k) (by omega)
      rcases h3 with hk | ⟨h5, h6⟩
      · refine Or.inl ?_
        rw [if_pos ((fc 0 hk h1).mpr h4)]
        exact (gc_mem hz n (k + 1) (updN fl k 0) L).mpr ⟨(up 0 hk).mpr h1, fun q q1 q2 => h2 q (by omega) (by omega)⟩
      · by_cases hk : L k = 0
        · refine Or.inl ?_
          rw [if_pos ((fc 0 hk h1).mpr h4)]
          exact (gc_mem hz n (k + 1) (updN fl k 0) L).mpr ⟨(up 0 hk).mpr h1, fun q q1 q2 => h2 q (by omega) (by omega)⟩
        · have e : L k = L k - 1 + 1 := by omega
          exact Or.inr (List.mem_flatMap.mpr ⟨L k - 1, (cb_mem hz).mpr ⟨h5, h6, (fc (L k - 1 + 1) e h1).mpr h4⟩, (gc_mem hz n (k + 1) (updN fl k (L k - 1 + 1)) L).mpr ⟨(up (L k - 1 + 1) e).mpr h1, fun q q1 q2 => h2 q (by omega) (by omega)⟩⟩)
theorem gc_nd (hz : ∀ t, t < T → zs t ≤ 7) : ∀ n k (fl : Nat → Nat), (gcL T zs kd vx li n k fl).Nodup
  | 0, k, fl => List.nodup_cons.mpr ⟨List.not_mem_nil, List.nodup_nil⟩
  | n + 1, k, fl => by
    unfold gcL
    refine List.nodup_append.mpr ⟨?_, nd_flat _ (cb_nd hz) (fun b _ => gc_nd hz n (k + 1) _) (fun a b x _ _ ha hb => ?_), fun x hx y hy e => ?_⟩
    · split
      · exact gc_nd hz n (k + 1) _
      · exact List.nodup_nil
    · have h1 := ((gc_mem hz n (k + 1) _ x).mp ha).1 k (by omega)
      have h2 := ((gc_mem hz n (k + 1) _ x).mp hb).1 k (by omega)
      rw [updN_s] at h1 h2
      omega
    · split at hx
      · have h1 := ((gc_mem hz n (k + 1) _ x).mp hx).1 k (by omega)
        obtain ⟨b, hb, hy⟩ := List.mem_flatMap.mp hy
        have h2 := ((gc_mem hz n (k + 1) _ y).mp hy).1 k (by omega)
        rw [updN_s] at h1 h2
        rw [e] at h1; omega
      · exact absurd hx List.not_mem_nil
end GCM
section RWM
variable {gm T : Nat} {zs kd vx hp : Nat → Nat} {mf : List Nat → Nat → Nat → Bool}
theorem ex_len9 (hz : ∀ t, t < T → zs t ≤ 7) {x : Nat} : ∀ (e l : List Nat), exS (stR9 gm T zs kd vx hp x) (nxR9 gm T zs kd vx hp mf x) l e → e.length ≤ (rcL gm T zs kd vx hp x l).length
  | [], _, _ => Nat.zero_le _
  | a :: e, l, ⟨_, h2, h3⟩ => by
    have := rcL_len hz (List.mem_filter.mp h2).1
    have := ex_len9 hz e (l ++ [a]) h3
    rw [List.length_cons]; omega
/-- the rows that the reference lays -/
theorem rw_mem (hz : ∀ t, t < T → zs t ≤ 7) (h7 : ∀ x, (rcL gm T zs kd vx hp x []).length ≤ 7) : ∀ d x n (RL L : Nat → List Nat), x + d = 4 → (∀ y, x ≤ y → y < 4 → RL y = []) → 8 * d + 1 ≤ n →
    (L ∈ rwLv gm T zs kd vx hp mf n x RL ↔ (∀ y, y < x ∨ 4 ≤ y → L y = RL y) ∧ ∀ y, x ≤ y → y < 4 → exS (stR9 gm T zs kd vx hp y) (nxR9 gm T zs kd vx hp mf y) [] (L y))
  | 0, x, n, RL, L, hx, hR, hn => by
    have e : x = 4 := by omega
    obtain ⟨m, rfl⟩ : ∃ m, n = m + 1 := ⟨n - 1, by omega⟩
    unfold rwLv
    rw [if_pos e, List.mem_singleton]
    constructor
    · rintro rfl; exact ⟨fun _ _ => rfl, fun y h1 h2 => by omega⟩
    · rintro ⟨h, -⟩; funext y; exact h y (by omega)
  | d + 1, x, n, RL, L, hx, hR, hn => by
    have h8 := h7 x
    have e0 := hR x (Nat.le_refl x) (by omega)
    have hr := rw_row (gm := gm) (kd := kd) (vx := vx) (hp := hp) hz (mf := mf) (rcL gm T zs kd vx hp x []).length x RL (n - ((rcL gm T zs kd vx hp x []).length + 1)) (by omega) (by rw [e0])
    rw [(by omega : (rcL gm T zs kd vx hp x []).length + 1 + (n - ((rcL gm T zs kd vx hp x []).length + 1)) = n), e0] at hr
    rw [hr, List.mem_flatMap]
    have ih := fun l => rw_mem hz h7 d (x + 1) (n - ((rcL gm T zs kd vx hp x []).length + 1)) (updR RL x l) L (by omega) (fun y h1 h2 => by rw [updR_o (by omega)]; exact hR y (by omega) h2) (by omega)
    constructor
    · rintro ⟨l, hl, h⟩
      obtain ⟨e, h1, h2, -⟩ := (en_mem _ _ _).mp hl
      rw [List.nil_append] at h1
      subst h1
      obtain ⟨h3, h4⟩ := (ih l).mp h
      have hx9 : L x = l := by rw [h3 x (by omega), updR_s]
      refine ⟨fun y hy => by rw [h3 y (by omega), updR_o (by omega)], fun y y1 y2 => ?_⟩
      by_cases e : y = x
      · rw [e, hx9]; exact h2
      · exact h4 y (by omega) y2
    · rintro ⟨h1, h2⟩
      have hx9 := h2 x (Nat.le_refl x) (by omega)
      refine ⟨L x, (en_mem _ _ _).mpr ⟨L x, rfl, hx9, by have := ex_len9 hz _ _ hx9; omega⟩, (ih (L x)).mpr ⟨fun y hy => ?_, fun y y1 y2 => h2 y (by omega) y2⟩⟩
      by_cases e : y = x
      · rw [e, updR_s]
      · rw [updR_o e]; exact h1 y (by omega)
theorem rw_nd (hz : ∀ t, t < T → zs t ≤ 7) (h7 : ∀ x, (rcL gm T zs kd vx hp x []).length ≤ 7) : ∀ d x n (RL : Nat → List Nat), x + d = 4 → (∀ y, x ≤ y → y < 4 → RL y = []) → 8 * d + 1 ≤ n → (rwLv gm T zs kd vx hp mf n x RL).Nodup
  | 0, x, n, RL, hx, hR, hn => by
    obtain ⟨m, rfl⟩ : ∃ m, n = m + 1 := ⟨n - 1, by omega⟩
    unfold rwLv
    rw [if_pos (by omega)]
    exact List.nodup_cons.mpr ⟨List.not_mem_nil, List.nodup_nil⟩
  | d + 1, x, n, RL, hx, hR, hn => by
    have h8 := h7 x
    have e0 := hR x (Nat.le_refl x) (by omega)
    have hr := rw_row (gm := gm) (kd := kd) (vx := vx) (hp := hp) hz (mf := mf) (rcL gm T zs kd vx hp x []).length x RL (n - ((rcL gm T zs kd vx hp x []).length + 1)) (by omega) (by rw [e0])
    rw [(by omega : (rcL gm T zs kd vx hp x []).length + 1 + (n - ((rcL gm T zs kd vx hp x []).length + 1)) = n), e0] at hr
    rw [hr]
    have hu : ∀ l : List Nat, ∀ y, x + 1 ≤ y → y < 4 → updR RL x l y = [] := fun l y h1 h2 => by rw [updR_o (by omega)]; exact hR y (by omega) h2
    refine nd_flat _ (en_nd (fun l => List.Nodup.sublist List.filter_sublist (rcL_nd hz)) _ _) (fun l _ => rw_nd hz h7 d (x + 1) _ _ (by omega) (hu l) (by omega)) (fun l m L _ _ h1 h2 => ?_)
    have a := ((rw_mem hz h7 d (x + 1) _ _ L (by omega) (hu l) (by omega)).mp h1).1 x (by omega)
    have b := ((rw_mem hz h7 d (x + 1) _ _ L (by omega) (hu m) (by omega)).mp h2).1 x (by omega)
    rw [updR_s] at a b
    rw [← a, ← b]
end RWM
section PRM
variable {pg : Nat → Nat → Nat} {Ac mb : Nat} {sc : Nat → Nat → Nat}
theorem prW_mem : ∀ row (RW L : Nat → List Nat), L ∈ prW pg Ac mb sc row RW ↔ (∀ y, row < y → L y = RW y) ∧ ∀ y, y ≤ row → L y ∈ plC pg Ac mb sc y
  | 0, RW, L => by
    refine ⟨fun h => prW_hi 0 h, fun ⟨h1, h2⟩ => ?_⟩
    unfold prW
    refine List.mem_map.mpr ⟨L 0, h2 0 (Nat.le_refl 0), ?_⟩
    funext y
    by_cases e : y = 0
    · rw [e, updR_s]
    · rw [updR_o e]; exact (h1 y (by omega)).symm
  | row + 1, RW, L => by
    refine ⟨fun h => prW_hi (row + 1) h, fun ⟨h1, h2⟩ => ?_⟩
    unfold prW
    refine List.mem_flatMap.mpr ⟨L (row + 1), h2 (row + 1) (Nat.le_refl _), (prW_mem row _ L).mpr ⟨fun y hy => ?_, fun y hy => h2 y (by omega)⟩⟩
    by_cases e : y = row + 1
    · rw [e, updR_s]
    · rw [updR_o e]; exact h1 y (by omega)
theorem prW_nd : ∀ row (RW : Nat → List Nat), (prW pg Ac mb sc row RW).Nodup
  | 0, RW => by
    unfold prW
    refine nd_map9 _ plC_nd (fun a b _ _ e => ?_)
    have := congrFun e 0
    rw [updR_s, updR_s] at this; exact this
  | row + 1, RW => by
    unfold prW
    refine nd_flat _ plC_nd (fun l _ => prW_nd row _) (fun l m L _ _ h1 h2 => ?_)
    have a := ((prW_mem row _ L).mp h1).1 (row + 1) (Nat.lt_succ_self row)
    have b := ((prW_mem row _ L).mp h2).1 (row + 1) (Nat.lt_succ_self row)
    rw [updR_s] at a b
    rw [← a, ← b]
end PRM
