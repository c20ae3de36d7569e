theorem bv_sh {X : Nat} : BitVec.ofNat 64 X <<< (7 : Nat) = BitVec.ofNat 64 (X * 128) := by
  refine BitVec.eq_of_toNat_eq ?_
  rw [BitVec.toNat_shiftLeft, BitVec.toNat_ofNat, BitVec.toNat_ofNat, Nat.shiftLeft_eq]
  omega
theorem bv_sh2 {X : Nat} : BitVec.ofNat 32 X <<< (7 : Nat) = BitVec.ofNat 32 (X * 128) := by
  refine BitVec.eq_of_toNat_eq ?_
  rw [BitVec.toNat_shiftLeft, BitVec.toNat_ofNat, BitVec.toNat_ofNat, Nat.shiftLeft_eq]
  omega
theorem or128 {X y : Nat} (hy : y < 128) : X * 128 ||| y = X * 128 + y := by
  have := Nat.two_pow_add_eq_or_of_lt (i := 7) (b := y) hy X
  rw [Nat.mul_comm X 128]; exact this.symm
theorem lN_bv (n : Nat) : (lN n).toBitVec = BitVec.ofNat 64 n := Int64.toBitVec_ofNat'
theorem nI_bv (n : Nat) : (nI n).toBitVec = BitVec.ofNat 32 n := Int32.toBitVec_ofNat'
theorem lN_sh (X : Nat) : lN X <<< ((7 : Int32).toInt64 &&& 63) = lN (X * 128) := by
  refine Int64.toBitVec_inj.mp ?_
  rw [Int64.toBitVec_shiftLeft, show ((7 : Int32).toInt64 &&& 63).toBitVec.smod (64 : BitVec 64) = (7 : BitVec 64) from by decide, lN_bv, lN_bv, BitVec.shiftLeft_eq']
  exact bv_sh
theorem nI_sh (X : Nat) : nI X <<< ((7 : Int32) &&& 31) = nI (X * 128) := by
  refine Int32.toBitVec_inj.mp ?_
  rw [Int32.toBitVec_shiftLeft, show ((7 : Int32) &&& 31).toBitVec.smod (32 : BitVec 32) = (7 : BitVec 32) from by decide, nI_bv, nI_bv, BitVec.shiftLeft_eq']
  exact bv_sh2
theorem lN_or {X y : Nat} (hy : y < 128) (hX : X * 128 < 2 ^ 63) : lN (X * 128) ||| lN y = lN (X * 128 + y) := by
  refine Int64.toBitVec_inj.mp ?_
  rw [Int64.toBitVec_or, lN_bv, lN_bv, lN_bv]
  refine BitVec.eq_of_toNat_eq ?_
  rw [BitVec.toNat_or, BitVec.toNat_ofNat, BitVec.toNat_ofNat, BitVec.toNat_ofNat, Nat.mod_eq_of_lt (by omega), Nat.mod_eq_of_lt (by omega), Nat.mod_eq_of_lt (by omega)]
  exact or128 hy
theorem nI_or7 {X y : Nat} (hy : y < 128) (hX : X * 128 < 2 ^ 31) : nI (X * 128) ||| nI y = nI (X * 128 + y) := by
  refine Int32.toBitVec_inj.mp ?_
  rw [Int32.toBitVec_or, nI_bv, nI_bv, nI_bv]
  refine BitVec.eq_of_toNat_eq ?_
  rw [BitVec.toNat_or, BitVec.toNat_ofNat, BitVec.toNat_ofNat, BitVec.toNat_ofNat, Nat.mod_eq_of_lt (by omega), Nat.mod_eq_of_lt (by omega), Nat.mod_eq_of_lt (by omega)]
  exact or128 hy
theorem dg_32 {v : Int32} (h : okD v) : v + 64 = nI (dg v) := by
  have hd := dg_lt h
  refine Int32.toInt_inj.mp ?_
  rw [nI_toInt (by omega), Int32.toInt_add, show (64 : Int32).toInt = 64 from rfl]
  unfold okD at h
  rw [bm_id (by show -((4294967296 : Int) / 2) ≤ v.toInt + 64; omega) (by show v.toInt + 64 < ((4294967296 : Int) + 1) / 2; omega)]
  unfold dg; omega
theorem dg_64 {v : Int32} (h : okD v) : (v + 64).toInt64 = lN (dg v) := by
  have hd := dg_lt h
  rw [dg_32 h]; exact nI_l (by omega)
/-- the key of the registers is their digits, packed -/
theorem rK_pk {rg : Nat → Int32} : ∀ n, n ≤ 7 → (∀ j, j ≤ n → okD (rg j)) → rK rg n = lN (pkN (fun i => dg (rg i)) 0 (n + 1))
  | 0, _, h => by
    unfold rK
    rw [dg_64 (h 0 (Nat.le_refl 0)), pkN_s, pkN_0, Nat.zero_mul, Nat.zero_add]
    exact Int64.zero_or
  | n + 1, hn, h => by
    have ih := rK_pk (rg := rg) n (by omega) (fun j hj => h j (by omega))
    have hd := dg_lt (h (n + 1) (Nat.le_refl _))
    have hb := pkN_lt (f := fun i => dg (rg i)) (k := 0) (n + 1) (fun j hj => by rw [Nat.zero_add]; exact dg_lt (h j (by omega)))
    have hp : 128 ^ (n + 1) ≤ 128 ^ 7 := Nat.pow_le_pow_right (by decide) (by omega)
    have h7 : (128 : Nat) ^ 7 = 562949953421312 := by decide
    unfold rK
    rw [ih, dg_64 (h (n + 1) (Nat.le_refl _)), lN_sh, lN_or hd (by omega), pkN_s (n := n + 1), Nat.zero_add]
theorem vK_pk {vl : Nat → Int32} {a b c : Nat} (ha : okD (vl a)) (hb : okD (vl b)) (hc : okD (vl c)) : vK vl a b c = nI ((dg (vl a) * 128 + dg (vl b)) * 128 + dg (vl c)) := by
  have h1 := dg_lt ha
  have h2 := dg_lt hb
  have h3 := dg_lt hc
  unfold vK
  rw [dg_32 ha, dg_32 hb, dg_32 hc, nI_sh, nI_or7 h2 (by omega), nI_sh, nI_or7 h3 (by omega)]
