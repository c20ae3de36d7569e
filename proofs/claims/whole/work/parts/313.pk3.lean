theorem sh_cst : ∀ b, b < 8 → ((nI (7 * b)).toInt64 &&& 63).toBitVec.smod (64 : BitVec 64) = BitVec.ofNat 64 (7 * b) := by decide +kernel
theorem lN_shr {p b : Nat} (hp : p < 2 ^ 63) (hb : b < 8) : lN p >>> ((nI (7 * b)).toInt64 &&& 63) = lN (p / 2 ^ (7 * b)) := by
  refine Int64.toBitVec_inj.mp ?_
  rw [Int64.toBitVec_shiftRight, sh_cst b hb, lN_bv, lN_bv]
  show (BitVec.ofNat 64 p).sshiftRight (BitVec.ofNat 64 (7 * b)).toNat = _
  rw [BitVec.sshiftRight_eq_of_msb_false (by rw [BitVec.msb_eq_false_iff_two_mul_lt, BitVec.toNat_ofNat]; omega), BitVec.toNat_ofNat, Nat.mod_eq_of_lt (by omega : 7 * b < 2 ^ 64)]
  refine BitVec.eq_of_toNat_eq ?_
  have h1 : p / 2 ^ (7 * b) ≤ p := Nat.div_le_self _ _
  rw [BitVec.toNat_ushiftRight, BitVec.toNat_ofNat, BitVec.toNat_ofNat, Nat.shiftRight_eq_div_pow, Nat.mod_eq_of_lt (by omega : p < 2 ^ 64), Nat.mod_eq_of_lt (by omega : p / 2 ^ (7 * b) < 2 ^ 64)]
theorem lN_127 {p : Nat} (hp : p < 2 ^ 63) : lN p &&& 127 = lN (p % 128) := by
  refine Int64.toBitVec_inj.mp ?_
  rw [Int64.toBitVec_and, lN_bv, lN_bv, show (127 : Int64).toBitVec = BitVec.ofNat 64 127 from rfl]
  refine BitVec.eq_of_toNat_eq ?_
  rw [BitVec.toNat_and, BitVec.toNat_ofNat, BitVec.toNat_ofNat, BitVec.toNat_ofNat, Nat.mod_eq_of_lt (by omega : p < 2 ^ 64), Nat.mod_eq_of_lt (by omega : 127 < 2 ^ 64), Nat.mod_eq_of_lt (by omega : p % 128 < 2 ^ 64)]
  exact Nat.and_two_pow_sub_one_eq_mod p 7
theorem dig9_lN {p b : Nat} {v : Int32} (hp : p < 2 ^ 63) (hb : b < 8) (hv : okD v) (h : p / 2 ^ (7 * b) % 128 = dg v) : dig9 (lN p) b = v := by
  have h1 : p / 2 ^ (7 * b) ≤ p := Nat.div_le_self _ _
  unfold dig9
  rw [lN_shr hp hb, lN_127 (by omega), h, lN_i, ← dg_32 hv]
  refine Int32.toInt_inj.mp ?_
  rw [dg_32 hv]
  have hd := dg_lt hv
  rw [Int32.toInt_sub, nI_toInt (by omega), show (64 : Int32).toInt = 64 from rfl]
  rw [bm_id (by show -((4294967296 : Int) / 2) ≤ (dg v : Int) - 64; omega) (by show (dg v : Int) - 64 < ((4294967296 : Int) + 1) / 2; omega)]
  unfold okD at hv; unfold dg; omega
theorem pkN_dig {f : Nat → Nat} {k : Nat} : ∀ n w, w < n → (∀ j, j < n → f (k + j) < 128) → pkN f k n / 2 ^ (7 * (n - 1 - w)) % 128 = f (k + w)
  | 0, w, h, _ => absurd h (Nat.not_lt_zero w)
  | n + 1, w, h, hf => by
    rw [pkN_s]
    have hn := hf n (Nat.lt_succ_self n)
    by_cases c : w = n
    · subst c
      rw [show w + 1 - 1 - w = 0 from by omega, Nat.mul_zero, Nat.pow_zero, Nat.div_one]; omega
    · have ih := pkN_dig (f := f) (k := k) n w (by omega) (fun j hj => hf j (by omega))
      rw [show 7 * (n + 1 - 1 - w) = 7 + 7 * (n - 1 - w) from by omega, Nat.pow_add, ← Nat.div_div_eq_div_mul, show (2 : Nat) ^ 7 = 128 from rfl, show (pkN f k n * 128 + f (k + n)) / 128 = pkN f k n from by omega]
      exact ih
theorem dig_k1 {u : Nat → Int32} (hu : ∀ j, j < 11 → okD (u j)) {w : Nat} (hw : w < 8) : dig9 (k1O u) (7 - w) = u w := by
  have h := pkN_dig (f := fun i => dg (u i)) (k := 0) 8 w hw (fun j hj => by rw [Nat.zero_add]; exact dg_lt (hu j (by omega)))
  rw [Nat.zero_add] at h
  exact dig9_lN (k_bd hu).1 (by omega) (hu w (by omega)) h
theorem dig_k2 {u : Nat → Int32} (hu : ∀ j, j < 11 → okD (u j)) {w : Nat} (h8 : 8 ≤ w) (hw : w < 11) : dig9 (k2O u).toInt64 (10 - w) = u w := by
  have h := pkN_dig (f := fun i => dg (u i)) (k := 8) 3 (w - 8) (by omega) (fun j hj => dg_lt (hu (8 + j) (by omega)))
  rw [show 8 + (w - 8) = w from by omega, show 3 - 1 - (w - 8) = 10 - w from by omega] at h
  have hb := (k_bd hu).2
  unfold k2O
  rw [nI_l hb]
  exact dig9_lN (by omega) (by omega) (hu w hw) h
