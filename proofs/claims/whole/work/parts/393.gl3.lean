/-- all rows that can be made one by one -/
def enL (stop : List Nat → Bool) (nxt : List Nat → List Nat) : Nat → List Nat → List (List Nat)
  | 0, _ => []
  | n + 1, l => if stop l = true then [l] else (nxt l).flatMap (fun a => enL stop nxt n (l ++ [a]))
def exS (stop : List Nat → Bool) (nxt : List Nat → List Nat) (l : List Nat) : List Nat → Prop
  | [] => stop l = true
  | a :: e => stop l = false ∧ a ∈ nxt l ∧ exS stop nxt (l ++ [a]) e
theorem en_mem {stop : List Nat → Bool} {nxt : List Nat → List Nat} : ∀ n l l2, l2 ∈ enL stop nxt n l ↔ ∃ e, l2 = l ++ e ∧ exS stop nxt l e ∧ e.length < n
  | 0, l, l2 => ⟨fun h => absurd h (List.not_mem_nil), fun ⟨e, _, _, h⟩ => absurd h (Nat.not_lt_zero _)⟩
  | n + 1, l, l2 => by
    unfold enL
    by_cases c : stop l = true
    · rw [if_pos c, List.mem_singleton]
      constructor
      · intro h; exact ⟨[], by rw [h, List.append_nil], c, Nat.succ_pos n⟩
      · rintro ⟨e, h1, h2, h3⟩
        cases e with
        | nil => rw [h1, List.append_nil]
        | cons a e => have := h2.1; rw [c] at this; exact absurd this.symm Bool.false_ne_true
    · have c2 : stop l = false := by simpa using c
      rw [if_neg c, List.mem_flatMap]
      constructor
      · rintro ⟨a, ha, h⟩
        obtain ⟨e, h1, h2, h3⟩ := (en_mem n (l ++ [a]) l2).mp h
        exact ⟨a :: e, by rw [h1, List.append_assoc]; rfl, ⟨c2, ha, h2⟩, by rw [List.length_cons]; omega⟩
      · rintro ⟨e, h1, h2, h3⟩
        cases e with
        | nil => exact absurd h2 c
        | cons a e =>
          rw [List.length_cons] at h3
          exact ⟨a, h2.2.1, (en_mem n (l ++ [a]) l2).mpr ⟨e, by rw [h1, List.append_assoc]; rfl, h2.2.2, by omega⟩⟩
theorem nd_flat {A B : Type} {f : A → List B} : ∀ l : List A, l.Nodup → (∀ a, a ∈ l → (f a).Nodup) → (∀ a b x, a ∈ l → b ∈ l → x ∈ f a → x ∈ f b → a = b) → (l.flatMap f).Nodup
  | [], _, _, _ => List.nodup_nil
  | a :: l, h, h1, h2 => by
    obtain ⟨q1, q2⟩ := List.nodup_cons.mp h
    rw [List.flatMap_cons]
    refine List.nodup_append.mpr ⟨h1 a (List.mem_cons_self ..), nd_flat l q2 (fun b hb => h1 b (List.mem_cons_of_mem _ hb)) (fun b c x hb hc => h2 b c x (List.mem_cons_of_mem _ hb) (List.mem_cons_of_mem _ hc)), fun x hx y hy e => ?_⟩
    obtain ⟨b, hb, hy⟩ := List.mem_flatMap.mp hy
    have := h2 a b x (List.mem_cons_self ..) (List.mem_cons_of_mem _ hb) hx (by rw [e]; exact hy)
    exact q1 (by rw [this]; exact hb)
theorem en_nd {stop : List Nat → Bool} {nxt : List Nat → List Nat} (h : ∀ l, (nxt l).Nodup) : ∀ n l, (enL stop nxt n l).Nodup
  | 0, _ => List.nodup_nil
  | n + 1, l => by
    unfold enL
    by_cases c : stop l = true
    · rw [if_pos c]; exact List.nodup_cons.mpr ⟨List.not_mem_nil, List.nodup_nil⟩
    · rw [if_neg c]
      refine nd_flat _ (h l) (fun a _ => en_nd h n _) (fun a b x _ _ ha hb => ?_)
      obtain ⟨e, h1, -⟩ := (en_mem n (l ++ [a]) x).mp ha
      obtain ⟨f, h2, -⟩ := (en_mem n (l ++ [b]) x).mp hb
      rw [h1, List.append_assoc, List.append_assoc] at h2
      have := List.append_cancel_left h2
      exact (List.cons.inj this).1
theorem updR_id {RL : Nat → List Nat} {x : Nat} : updR RL x (RL x) = RL := by
  funext i; unfold updR
  by_cases e : i = x
  · rw [if_pos e, e]
  · rw [if_neg e]
theorem updR_2 {RL : Nat → List Nat} {x : Nat} {l m : List Nat} : updR (updR RL x l) x m = updR RL x m := by
  funext i; unfold updR
  by_cases e : i = x
  · rw [if_pos e, if_pos e]
  · rw [if_neg e, if_neg e, if_neg e]
theorem len_fil {p : Nat → Bool} {a : Nat} : ∀ l : List Nat, l.Nodup → a ∈ l → p a = false → (∀ b, b ∈ l → b ≠ a → p b = true) → (l.filter p).length + 1 = l.length
  | [], _, h, _, _ => absurd h (List.not_mem_nil)
  | b :: l, hn, h, h1, h2 => by
    obtain ⟨q1, q2⟩ := List.nodup_cons.mp hn
    by_cases e : b = a
    · rw [List.filter_cons_of_neg (by rw [e, h1]; exact Bool.false_ne_true), List.length_cons]
      rw [List.filter_eq_self.mpr (fun x hx => h2 x (List.mem_cons_of_mem _ hx) (fun z => q1 (by rw [e, ← z]; exact hx)))]
    · rw [List.filter_cons_of_pos (h2 b (List.mem_cons_self ..) e), List.length_cons, List.length_cons]
      have ha : a ∈ l := by
        rcases List.mem_cons.mp h with q | q
        · exact absurd q.symm e
        · exact q
      rw [len_fil l q2 ha h1 (fun c hc => h2 c (List.mem_cons_of_mem _ hc))]
section RFR
variable {gm T : Nat} {zs kd vx hp : Nat → Nat}
theorem rcI_mem {x : Nat} {l : List Nat} {t n a : Nat} : a ∈ rcI gm kd vx hp x l t n ↔ (∃ i, i < n ∧ a = 7 * t + i) ∧ ofP gm kd vx hp a x ∧ ¬ a ∈ l := by
  unfold rcI
  rw [List.mem_filter, List.mem_map]
  constructor
  · rintro ⟨⟨i, hi, e⟩, h⟩
    exact ⟨⟨i, List.mem_range.mp hi, e.symm⟩, of_decide_eq_true h⟩
  · rintro ⟨⟨i, hi, e⟩, h⟩
    exact ⟨⟨i, List.mem_range.mpr hi, e.symm⟩, decide_eq_true h⟩
theorem rcL_mem (hz : ∀ t, t < T → zs t ≤ 7) {x : Nat} {l : List Nat} {a : Nat} : a ∈ rcL gm T zs kd vx hp x l ↔ (a / 7 < T ∧ a % 7 < zs (a / 7)) ∧ ofP gm kd vx hp a x ∧ ¬ a ∈ l := by
  unfold rcL
  rw [List.mem_flatMap]
  constructor
  · rintro ⟨t, ht, h⟩
    have ht := List.mem_range.mp ht
    have h7 := hz t ht
    obtain ⟨⟨i, hi, e⟩, h2⟩ := rcI_mem.mp h
    have e1 : a / 7 = t := by omega
    have e2 : a % 7 = i := by omega
    exact ⟨⟨by omega, by rw [e1, e2]; exact hi⟩, h2⟩
  · rintro ⟨⟨h1, h2⟩, h3⟩
    exact ⟨a / 7, List.mem_range.mpr h1, rcI_mem.mpr ⟨⟨a % 7, h2, by omega⟩, h3⟩⟩
theorem rcL_nd (hz : ∀ t, t < T → zs t ≤ 7) {x : Nat} {l : List Nat} : (rcL gm T zs kd vx hp x l).Nodup := by
  unfold rcL
  refine nd_flat _ List.nodup_range (fun t _ => ?_) (fun t u a ht hu h1 h2 => ?_)
  · unfold rcI
    refine List.Nodup.sublist List.filter_sublist ?_
    exact pw_map _ (fun i j h1 _ e => by omega)
  · obtain ⟨⟨i, hi, e1⟩, -⟩ := rcI_mem.mp h1
    obtain ⟨⟨j, hj, e2⟩, -⟩ := rcI_mem.mp h2
    have := hz t (List.mem_range.mp ht)
    have := hz u (List.mem_range.mp hu)
    omega
theorem rcL_len (hz : ∀ t, t < T → zs t ≤ 7) {x : Nat} {l : List Nat} {a : Nat} (ha : a ∈ rcL gm T zs kd vx hp x l) : (rcL gm T zs kd vx hp x (l ++ [a])).length + 1 = (rcL gm T zs kd vx hp x l).length := by
  have e : rcL gm T zs kd vx hp x (l ++ [a]) = (rcL gm T zs kd vx hp x l).filter (fun b => decide (b ≠ a)) := by
    unfold rcL
    have hf : ∀ L : List Nat, (L.flatMap (fun t => rcI gm kd vx hp x l t (zs t))).filter (fun b => decide (b ≠ a)) = L.flatMap (fun t => (rcI gm kd vx hp x l t (zs t)).filter (fun b => decide (b ≠ a))) := fun L => by
      induction L with
      | nil => rfl
      | cons t L ih => rw [List.flatMap_cons, List.flatMap_cons, List.filter_append, ih]
    rw [hf]
    refine fl_cg _ (fun t _ => ?_)
    unfold rcI
    rw [List.filter_filter]
    refine List.filter_congr (fun b _ => ?_)
    by_cases q : b = a
    · rw [q, decide_eq_false (fun w => w.2 (List.mem_append_right _ (List.mem_singleton.mpr rfl))), decide_eq_false (fun w => w rfl)]; rfl
    · have : (ofP gm kd vx hp b x ∧ ¬ b ∈ l ++ [a]) ↔ (ofP gm kd vx hp b x ∧ ¬ b ∈ l) := by
        refine and_congr_right (fun _ => not_congr ?_)
        rw [List.mem_append, List.mem_singleton]
        exact ⟨fun w => w.resolve_right q, fun w => Or.inl w⟩
      rw [decide_eq_decide.mpr this, decide_eq_true q, Bool.true_and]
  rw [e]
  exact len_fil _ (rcL_nd hz) ha (decide_eq_false (fun w => w rfl)) (fun b _ hb => decide_eq_true hb)
def stR9 (gm T : Nat) (zs kd vx hp : Nat → Nat) (x : Nat) (l : List Nat) : Bool := (rcL gm T zs kd vx hp x l).isEmpty
def nxR9 (gm T : Nat) (zs kd vx hp : Nat → Nat) (mf : List Nat → Nat → Nat → Bool) (x : Nat) (l : List Nat) : List Nat := (rcL gm T zs kd vx hp x l).filter (fun a => mf l a x)
theorem flat_as {A B C : Type} {f : A → List B} {g : B → List C} : ∀ l : List A, (l.flatMap f).flatMap g = l.flatMap (fun a => (f a).flatMap g)
  | [] => rfl
  | a :: l => by rw [List.flatMap_cons, List.flatMap_append, List.flatMap_cons, flat_as l]
/-- the reference lays a row -/
theorem rw_row (hz : ∀ t, t < T → zs t ≤ 7) {mf : List Nat → Nat → Nat → Bool} : ∀ n x (RL : Nat → List Nat) R, x < 4 → (rcL gm T zs kd vx hp x (RL x)).length = n → rwLv gm T zs kd vx hp mf (n + 1 + R) x RL = (enL (stR9 gm T zs kd vx hp x) (nxR9 gm T zs kd vx hp mf x) (n + 1) (RL x)).flatMap (fun l => rwLv gm T zs kd vx hp mf R (x + 1) (updR RL x l))
  | 0, x, RL, R, hx, hl => by
    have he : (rcL gm T zs kd vx hp x (RL x)).isEmpty = true := by rw [List.eq_nil_of_length_eq_zero hl]; rfl
    rw [(by omega : 0 + 1 + R = R + 1), rwLv, if_neg (by omega), if_pos he]
    have e1 : enL (stR9 gm T zs kd vx hp x) (nxR9 gm T zs kd vx hp mf x) (0 + 1) (RL x) = [RL x] := by
      unfold enL; exact if_pos he
    rw [e1, List.flatMap_cons, List.flatMap_nil, List.append_nil, updR_id]
  | n + 1, x, RL, R, hx, hl => by
    have he : ¬ (rcL gm T zs kd vx hp x (RL x)).isEmpty = true := fun q => by rw [List.isEmpty_iff.mp q] at hl; exact absurd hl (by simp)
    have e1 : enL (stR9 gm T zs kd vx hp x) (nxR9 gm T zs kd vx hp mf x) (n + 1 + 1) (RL x) = (nxR9 gm T zs kd vx hp mf x (RL x)).flatMap (fun a => enL (stR9 gm T zs kd vx hp x) (nxR9 gm T zs kd vx hp mf x) (n + 1) (RL x ++ [a])) := by
      rw [enL]; exact if_neg he
    rw [(by omega : n + 1 + 1 + R = (n + 1 + R) + 1), rwLv, if_neg (by omega), if_neg he, e1, flat_as]
    refine fl_cg _ (fun a ha => ?_)
    have ha := (List.mem_filter.mp ha).1
    have hl2 := rcL_len hz ha
    rw [rw_row hz n x (updR RL x (RL x ++ [a])) R hx (by rw [updR_s]; omega), updR_s]
    exact fl_cg _ (fun l _ => by rw [updR_2])
end RFR
