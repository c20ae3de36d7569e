/-- digits with a radix each -/
def mxN (r d : Nat → Nat) : Nat → Nat
  | 0 => 0
  | n + 1 => mxN r d n * r n + d n
def prR (r : Nat → Nat) : Nat → Nat
  | 0 => 1
  | n + 1 => prR r n * r n
theorem mx_lt {r d : Nat → Nat} : ∀ n, (∀ i, i < n → d i < r i) → mxN r d n < prR r n
  | 0, _ => by rw [mxN, prR]; exact Nat.one_pos
  | n + 1, h => by
    have h1 := mx_lt (r := r) (d := d) n (fun i hi => h i (by omega))
    have h2 := h n (Nat.lt_succ_self n)
    rw [mxN, prR]
    calc mxN r d n * r n + d n < mxN r d n * r n + r n := Nat.add_lt_add_left h2 _
      _ = (mxN r d n + 1) * r n := (Nat.succ_mul _ _).symm
      _ ≤ prR r n * r n := Nat.mul_le_mul_right _ h1
theorem mx_cut {X Y x y q : Nat} (hx : x < q) (hy : y < q) (h : X * q + x = Y * q + y) : X = Y ∧ x = y := by
  have h0 : 0 < q := by omega
  have e1 : (X * q + x) / q = X := by rw [Nat.add_comm, Nat.add_mul_div_right _ _ h0, Nat.div_eq_of_lt hx, Nat.zero_add]
  have e2 : (Y * q + y) / q = Y := by rw [Nat.add_comm, Nat.add_mul_div_right _ _ h0, Nat.div_eq_of_lt hy, Nat.zero_add]
  have e3 : X = Y := by rw [← e1, h, e2]
  subst e3
  exact ⟨rfl, Nat.add_left_cancel h⟩
theorem mx_inj {r d e : Nat → Nat} : ∀ n, (∀ i, i < n → d i < r i ∧ e i < r i) → mxN r d n = mxN r e n → ∀ i, i < n → d i = e i
  | 0, _, _, i, hi => absurd hi (Nat.not_lt_zero i)
  | n + 1, h, he, i, hi => by
    rw [mxN, mxN] at he
    obtain ⟨h1, h2⟩ := mx_cut (h n (Nat.lt_succ_self n)).1 (h n (Nat.lt_succ_self n)).2 he
    by_cases c : i = n
    · rw [c]; exact h2
    · exact mx_inj n (fun i hi => h i (by omega)) h1 i (by omega)
/-- things with different codes below B: at most B -/
theorem code_len {A : Type} {L : List A} {code : A → Nat} {B : Nat} (hn : L.Nodup) (hB : ∀ x, x ∈ L → code x < B) (hi : ∀ x y, x ∈ L → y ∈ L → code x = code y → x = y) : L.length ≤ B := by
  rcases Nat.eq_zero_or_pos L.length with h0 | h0
  · omega
  · refine pigeon B L.length (fun i => if h : i < L.length then code L[i] + 1 else 0) (fun i h => ?_) (fun i j h1 h2 e => ?_)
    · show 1 ≤ (if h : i < L.length then code L[i] + 1 else 0) ∧ _ ≤ B
      rw [dif_pos h]
      have := hB _ (List.getElem_mem h)
      omega
    · replace e : (if h : i < L.length then code L[i] + 1 else 0) = (if h : j < L.length then code L[j] + 1 else 0) := e
      rw [dif_pos h1, dif_pos h2] at e
      have e2 := hi _ _ (List.getElem_mem h1) (List.getElem_mem h2) (by omega)
      rcases Nat.lt_trichotomy i j with q | q | q
      · exact absurd e2 (List.pairwise_iff_getElem.mp hn i j h1 h2 q)
      · exact q
      · exact absurd e2.symm (List.pairwise_iff_getElem.mp hn j i h2 h1 q)
