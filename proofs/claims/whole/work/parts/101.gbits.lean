theorem lc0 {x y : Int64} {z : Int32} (h : z = lg_cmp x y) : z = 0 ↔ x = y := by
  subst h; unfold lg_cmp
  by_cases h1 : x > y
  · rw [if_pos h1]
    exact ⟨fun q => absurd q (by decide), fun q => (Int64.lt_irrefl (q ▸ h1)).elim⟩
  · rw [if_neg h1]
    by_cases h2 : x = y
    · rw [if_pos (by simp [h2])]; exact ⟨fun _ => h2, fun _ => rfl⟩
    · rw [if_neg (by simp [h2])]; exact ⟨fun q => absurd q (by decide), fun q => absurd q h2⟩
/-- a row of slots that is searched from a place on: the first place that is empty or holds the key -/
def pr (N : Nat) (sf : Nat → Int32) (kf : Nat → Int64) (key : Int64) : Nat → Nat → Nat
  | 0, a => a
  | n + 1, a => if sf a = 0 ∨ kf ((sf a).toNatClampNeg - 1) = key then a else pr N sf kf key n ((a + 1) % N)
def hsh (key : Int64) (e : Nat) : Nat := ((key * -7046029254386353131).toUInt64 >>> ((40 : Int32).toInt64.toUInt64 &&& Int64.toUInt64 63)).toInt64.toInt32.toBitVec.toNat % 2 ^ e
theorem mask_n {e : Nat} (he : e ≤ 30) : (nI (2 ^ e) - 1).toBitVec.toNat = 2 ^ e - 1 := by
  have h1 : 2 ^ e ≤ 2 ^ 30 := Nat.pow_le_pow_right (by decide) he
  have h0 : 0 < 2 ^ e := Nat.two_pow_pos e
  obtain ⟨k, hk⟩ : ∃ k, 2 ^ e = k + 1 := ⟨2 ^ e - 1, by omega⟩
  rw [hk, nI_pred, pk_tn (by omega)]; omega
