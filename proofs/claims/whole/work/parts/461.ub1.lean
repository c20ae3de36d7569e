theorem rg9 {x : Int32} {a b : Nat} (hb : b < 1000) (h1 : (a : Int) ≤ x.toInt) (h2 : x.toInt < (b : Int)) : ∃ n, x = nI n ∧ a ≤ n ∧ n < b := by
  have h0 : ¬ x < 0 := by rw [i_lt]; have : (0 : Int32).toInt = 0 := by decide
                          rw [this]; omega
  obtain ⟨k, k1, k2⟩ := nI_of h0
  have e : x.toInt = (k : Int) := by rw [k2]; exact nI_toInt k1
  exact ⟨k, k2, by omega, by omega⟩
theorem ic0 : (0 : Int32).toInt = 0 := by decide
theorem ic1 : (1 : Int32).toInt = 1 := by decide
theorem ic2 : (2 : Int32).toInt = 2 := by decide
theorem ic3 : (3 : Int32).toInt = 3 := by decide
theorem ic9 : (9 : Int32).toInt = 9 := by decide
theorem icm : (-9 : Int32).toInt = -9 := by decide
theorem vw9 {v : Int32} (h : ¬ v < -9 ∧ ¬ 9 < v) : wB v 9 := by
  rw [i_lt, i_lt, ic9, icm] at h
  unfold wB; omega
theorem x3_9 {x : Int32} (h : ¬ x < 0 ∧ ¬ 3 ≤ x) : ∃ n, x = nI n ∧ n < 3 := by
  rw [i_lt, i_le, ic0, ic3] at h
  obtain ⟨n, e, -, h2⟩ := rg9 (x := x) (a := 0) (b := 3) (by decide) (by omega) (by omega)
  exact ⟨n, e, h2⟩
theorem r2_9 {x : Int32} (h : ¬ x < 0 ∧ ¬ 2 ≤ x) : ∃ n, x = nI n ∧ n < 2 := by
  rw [i_lt, i_le, ic0, ic2] at h
  obtain ⟨n, e, -, h2⟩ := rg9 (x := x) (a := 0) (b := 2) (by decide) (by omega) (by omega)
  exact ⟨n, e, h2⟩
theorem x4_9 {x : Int32} (h : ¬ x < 1 ∧ ¬ 3 < x) : ∃ n, x = nI n ∧ n < 4 := by
  rw [i_lt, i_lt, ic1, ic3] at h
  obtain ⟨n, e, -, h2⟩ := rg9 (x := x) (a := 1) (b := 4) (by decide) (by omega) (by omega)
  exact ⟨n, e, h2⟩
theorem act_n {k9 x9 r9 v9 : Int32} (h : actP k9 x9 r9 v9) : ∃ k x rn, k9 = nI k ∧ x9 = nI x ∧ r9 = nI rn ∧ k < 6 ∧ x < 4 ∧ (k < 4 → x < 3) ∧ rn < 2 ∧ wB v9 9 := by
  have z9 : wB 0 9 := by unfold wB; rw [ic0]; omega
  rcases h with ⟨rfl, hx, hr, rfl⟩ | ⟨rfl, hx, rfl, hv⟩ | ⟨hk, hx, hr, hv⟩ | ⟨rfl, rfl, rfl, rfl⟩ | ⟨rfl, hx, hr, hv⟩
  · obtain ⟨x, rfl, h1⟩ := x3_9 hx
    obtain ⟨r, rfl, h2⟩ := r2_9 hr
    exact ⟨0, x, r, rfl, rfl, rfl, by omega, by omega, fun _ => h1, h2, z9⟩
  · obtain ⟨x, rfl, h1⟩ := x3_9 hx
    exact ⟨1, x, 0, rfl, rfl, rfl, by omega, by omega, fun _ => h1, by omega, vw9 hv⟩
  · obtain ⟨x, rfl, h1⟩ := x3_9 hx
    obtain ⟨r, rfl, h2⟩ := r2_9 hr
    rcases hk with rfl | rfl
    · exact ⟨2, x, r, rfl, rfl, rfl, by omega, by omega, fun _ => h1, h2, vw9 hv⟩
    · exact ⟨3, x, r, rfl, rfl, rfl, by omega, by omega, fun _ => h1, h2, vw9 hv⟩
  · exact ⟨4, 0, 0, rfl, rfl, rfl, by omega, by omega, fun q => by omega, by omega, z9⟩
  · obtain ⟨x, rfl, h1⟩ := x4_9 hx
    obtain ⟨r, rfl, h2⟩ := r2_9 hr
    exact ⟨5, x, r, rfl, rfl, rfl, by omega, by omega, fun q => by omega, h2, vw9 hv⟩
theorem by_self9 {L : List O9} : ∀ i, i ≤ L.length → byN9 L L i = 0
  | 0, _ => rfl
  | i + 1, h => by rw [by_y9 ⟨_, oat_mem (by omega), rfl⟩, by_self9 i (by omega)]
theorem sFn_k {OS OS2 : Nat → List O9} {R R2 : RX9} {m o : Nat} (h : sFn9 OS R o R2 OS2) (hf : r_ff R m = 1) : r_ff R2 m = 1 := by
  rcases h with ⟨-, rfl, rfl⟩ | ⟨-, -, -, cb, cf, mf, nx, fs, kf, sp, nw, oc, om, or9, ws, wi, hR2⟩
  · exact hf
  · have : r_ff R2 = upd (r_ff R) o 1 := by rw [hR2]; rfl
    rw [this]
    by_cases e : m = o
    · rw [e, pk_us]
    · rw [pk_un e]; exact hf
theorem IV_is {S : CX9} {R : RX9} {OS : Nat → List O9} {ld : Nat} {li : Nat → Nat} (h : IV9 S R OS ld li) {t i : Int32} : isA9 S t i ↔ isR9 R t i := by
  have hX := IV_X h
  unfold isA9 isR9
  rw [h.2.2.1]
  constructor
  · rintro ⟨a, b, c, d⟩; exact ⟨a, b, c, by rw [hX.2.2.1 _ b]; exact d⟩
  · rintro ⟨a, b, c, d⟩; exact ⟨a, b, c, by rw [← hX.2.2.1 _ b]; exact d⟩
