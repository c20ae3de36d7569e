/-- the number that fields of bits make -/
def nmB : List (Int64 × Nat) → Nat
  | [] => 0
  | x :: L => x.1.toBitVec.toNat + 2 ^ x.2 * nmB L
def okW (L : List (Int64 × Nat)) : Prop := ∀ x, x ∈ L → 0 < x.2 ∧ x.2 < 64 ∧ x.1.toBitVec.toNat < 2 ^ x.2
def btA (f : Nat → Int64) (i : Nat) : Bool := (f (i / 64)).toBitVec.getLsbD (i % 64)
theorem sh64 : ∀ b, b < 64 → ((nI b).toInt64 &&& 63).toBitVec.smod (64 : BitVec 64) = BitVec.ofNat 64 b := by decide +kernel
theorem ush64 : ∀ b, b < 64 → ((nI b).toInt64.toUInt64 &&& Int64.toUInt64 63).toBitVec % (64 : BitVec 64) = BitVec.ofNat 64 b := by decide +kernel
theorem shl_bit {v : Int64} {b i : Nat} (hb : b < 64) (hi : i < 64) : (v <<< ((nI b).toInt64 &&& 63)).toBitVec.getLsbD i = (decide (b ≤ i) && v.toBitVec.getLsbD (i - b)) := by
  rw [Int64.toBitVec_shiftLeft, sh64 b hb, BitVec.shiftLeft_eq', BitVec.toNat_ofNat, Nat.mod_eq_of_lt (by omega), BitVec.getLsbD_shiftLeft, decide_eq_true hi, Bool.true_and]
  by_cases h : i < b
  · rw [decide_eq_true h, decide_eq_false (by omega : ¬ b ≤ i)]; rfl
  · rw [decide_eq_false h, decide_eq_true (by omega : b ≤ i)]; rfl
theorem shr_bit {v : Int64} {b i : Nat} (hb : b < 64) : ((v.toUInt64 >>> ((nI b).toInt64.toUInt64 &&& Int64.toUInt64 63)).toInt64).toBitVec.getLsbD i = v.toBitVec.getLsbD (b + i) := by
  show (v.toUInt64 >>> ((nI b).toInt64.toUInt64 &&& Int64.toUInt64 63)).toBitVec.getLsbD i = _
  rw [UInt64.toBitVec_shiftRight, ush64 b hb, BitVec.ushiftRight_eq', BitVec.toNat_ofNat, Nat.mod_eq_of_lt (by omega), BitVec.getLsbD_ushiftRight]
  rfl
theorem up_bit {v : Int64} {n j : Nat} (h : v.toBitVec.toNat < 2 ^ n) (hj : n ≤ j) : v.toBitVec.getLsbD j = false := by
  show v.toBitVec.toNat.testBit j = false
  exact Nat.testBit_lt_two_pow (Nat.lt_of_lt_of_le h (Nat.pow_le_pow_right (by omega) hj))
theorem updL_at {f : Nat → Int64} {k : Nat} {y : Int64} : vp_updL f k y k = y := by unfold vp_updL; exact if_pos rfl
theorem updL_ne {f : Nat → Int64} {k i : Nat} {y : Int64} (h : ¬ i = k) : vp_updL f k y i = f i := by unfold vp_updL; exact if_neg h
theorem bt_bit {cf : Nat → Int64} {cb n : Nat} {v : Int64} (hn : n < 64) (hv : v.toBitVec.toNat < 2 ^ n) (i : Nat) : btA (btF cf cb v n) i = (btA cf i || (decide (cb ≤ i) && v.toBitVec.getLsbD (i - cb))) := by
  have ho : cb % 64 < 64 := Nat.mod_lt _ (by decide)
  have hi : i % 64 < 64 := Nat.mod_lt _ (by decide)
  have e1 : cb = 64 * (cb / 64) + cb % 64 := (Nat.div_add_mod cb 64).symm
  have e2 : i = 64 * (i / 64) + i % 64 := (Nat.div_add_mod i 64).symm
  have far : ∀ j, n ≤ j → v.toBitVec.getLsbD j = false := fun j => up_bit hv
  have hw : i / 64 = cb / 64 → (cf (cb / 64) ||| (v <<< ((nI (cb % 64) : Int32).toInt64 &&& 63))).toBitVec.getLsbD (i % 64) = (btA cf i || (decide (cb ≤ i) && v.toBitVec.getLsbD (i - cb))) := fun q => by
    rw [Int64.toBitVec_or, BitVec.getLsbD_or, shl_bit ho hi]
    unfold btA
    rw [q]
    have a1 : decide (cb % 64 ≤ i % 64) = decide (cb ≤ i) := by
      by_cases h : cb ≤ i
      · rw [decide_eq_true h, decide_eq_true (by omega)]
      · rw [decide_eq_false h, decide_eq_false (by omega)]
    have a2 : i % 64 - cb % 64 = i - cb := by omega
    rw [a1, a2]
  unfold btF
  by_cases c : cb % 64 + n ≤ 64
  · rw [if_pos c]
    by_cases q : i / 64 = cb / 64
    · rw [← hw q]; unfold btA; rw [q, updL_at]
    · have : (decide (cb ≤ i) && v.toBitVec.getLsbD (i - cb)) = false := by
        by_cases h : cb ≤ i
        · rw [far (i - cb) (by omega), Bool.and_false]
        · rw [decide_eq_false h, Bool.false_and]
      rw [this, Bool.or_false]; unfold btA; rw [updL_ne q]
  · rw [if_neg c]
    by_cases q : i / 64 = cb / 64
    · rw [← hw q]; unfold btA; rw [q, updL_ne (by omega), updL_at]
    · by_cases q2 : i / 64 = cb / 64 + 1
      · unfold btA
        rw [q2, updL_at, updL_ne (by omega), Int64.toBitVec_or, BitVec.getLsbD_or, shr_bit (by omega), decide_eq_true (by omega : cb ≤ i), Bool.true_and, (by omega : 64 - cb % 64 + i % 64 = i - cb)]
      · have : (decide (cb ≤ i) && v.toBitVec.getLsbD (i - cb)) = false := by
          by_cases h : cb ≤ i
          · rw [far (i - cb) (by omega), Bool.and_false]
          · rw [decide_eq_false h, Bool.false_and]
        rw [this, Bool.or_false]; unfold btA; rw [updL_ne q2, updL_ne q]
theorem wr_bits : ∀ (L : List (Int64 × Nat)) (s : (Nat → Int64) × Nat) (N : Nat), okW L → (∀ i, btA s.1 i = N.testBit i) → N < 2 ^ s.2 → ∀ i, btA (L.foldl (fun s x => (btF s.1 s.2 x.1 x.2, s.2 + x.2)) s).1 i = (2 ^ s.2 * nmB L + N).testBit i
  | [], s, N, _, h, _, i => by rw [List.foldl_nil, nmB, Nat.mul_zero, Nat.zero_add]; exact h i
  | x :: L, s, N, hk, h, hN, i => by
    obtain ⟨k1, k2, k3⟩ := hk x (List.mem_cons_self ..)
    rw [List.foldl_cons, wr_bits L (btF s.1 s.2 x.1 x.2, s.2 + x.2) (2 ^ s.2 * x.1.toBitVec.toNat + N) (fun y hy => hk y (List.mem_cons_of_mem _ hy)) ?_ ?_]
    · rw [nmB, Nat.pow_add, Nat.mul_add, Nat.mul_assoc]
      congr 1
      omega
    · intro j
      show btA (btF s.1 s.2 x.1 x.2) j = _
      rw [bt_bit k2 k3, h j, Nat.testBit_two_pow_mul_add _ hN]
      by_cases q : j < s.2
      · rw [if_pos q, decide_eq_false (by omega), Bool.false_and, Bool.or_false]
      · rw [if_neg q, decide_eq_true (by omega), Bool.true_and, Nat.testBit_lt_two_pow (Nat.lt_of_lt_of_le hN (Nat.pow_le_pow_right (by omega) (by omega : s.2 ≤ j))), Bool.false_or]
        rfl
    · show _ < 2 ^ (s.2 + x.2)
      have h1 : 2 ^ s.2 * x.1.toBitVec.toNat + 2 ^ s.2 ≤ 2 ^ s.2 * 2 ^ x.2 := by
        rw [← Nat.mul_succ]; exact Nat.mul_le_mul_left _ k3
      rw [Nat.pow_add]; omega
theorem nm_lt : ∀ (L : List (Int64 × Nat)), okW L → nmB L < 2 ^ szB L
  | [], _ => by show 0 < 1; omega
  | x :: L, hk => by
    obtain ⟨k1, k2, k3⟩ := hk x (List.mem_cons_self ..)
    have ih := nm_lt L (fun y hy => hk y (List.mem_cons_of_mem _ hy))
    rw [nmB, szB, Nat.pow_add]
    have h1 : 2 ^ x.2 * nmB L + 2 ^ x.2 ≤ 2 ^ x.2 * 2 ^ szB L := by
      rw [← Nat.mul_succ]; exact Nat.mul_le_mul_left _ ih
    omega
theorem wr_nm {L : List (Int64 × Nat)} (hk : okW L) (i : Nat) : btA (wrB L).1 i = (nmB L).testBit i := by
  have h := wr_bits L (fun _ => 0, 0) 0 hk (fun i => by
    show ((0 : Int64).toBitVec).getLsbD (i % 64) = _
    rw [Nat.zero_testBit]; exact BitVec.getLsbD_zero) (by show 0 < 1; omega) i
  rw [show 2 ^ ((fun _ => 0, 0) : (Nat → Int64) × Nat).2 = 1 from rfl, Nat.one_mul, Nat.add_zero] at h
  exact h
theorem cod_inj {L M : List (Int64 × Nat)} (hL : okW L) (hM : okW M) (h1 : szB L ≤ 320) (h2 : szB M ≤ 320) (h : c5 (wrB L).1 = c5 (wrB M).1) : nmB L = nmB M := by
  unfold c5 at h
  simp only [Prod.mk.injEq] at h
  obtain ⟨a0, a1, a2, a3, a4⟩ := h
  refine Nat.eq_of_testBit_eq (fun i => ?_)
  by_cases q : i < 320
  · rw [← wr_nm hL i, ← wr_nm hM i]
    unfold btA
    have : (wrB L).1 (i / 64) = (wrB M).1 (i / 64) := by
      rcases (by omega : i / 64 = 0 ∨ i / 64 = 1 ∨ i / 64 = 2 ∨ i / 64 = 3 ∨ i / 64 = 4) with q | q | q | q | q <;> rw [q] <;> assumption
    rw [this]
  · rw [Nat.testBit_lt_two_pow (Nat.lt_of_lt_of_le (nm_lt L hL) (Nat.pow_le_pow_right (by omega) (by omega : szB L ≤ i))), Nat.testBit_lt_two_pow (Nat.lt_of_lt_of_le (nm_lt M hM) (Nat.pow_le_pow_right (by omega) (by omega : szB M ≤ i)))]
theorem nm_head {x y : Int64 × Nat} {L M : List (Int64 × Nat)} (hx : x.1.toBitVec.toNat < 2 ^ x.2) (hy : y.1.toBitVec.toNat < 2 ^ y.2) (e : x.2 = y.2) (h : nmB (x :: L) = nmB (y :: M)) : x = y ∧ nmB L = nmB M := by
  rw [nmB, nmB, e] at h
  rw [e] at hx
  have hp : 0 < 2 ^ y.2 := Nat.two_pow_pos _
  have h1 : (x.1.toBitVec.toNat + 2 ^ y.2 * nmB L) % 2 ^ y.2 = (y.1.toBitVec.toNat + 2 ^ y.2 * nmB M) % 2 ^ y.2 := by rw [h]
  have h2 : (x.1.toBitVec.toNat + 2 ^ y.2 * nmB L) / 2 ^ y.2 = (y.1.toBitVec.toNat + 2 ^ y.2 * nmB M) / 2 ^ y.2 := by rw [h]
  rw [Nat.add_mul_mod_self_left, Nat.add_mul_mod_self_left, Nat.mod_eq_of_lt hx, Nat.mod_eq_of_lt hy] at h1
  rw [Nat.add_mul_div_left _ _ hp, Nat.add_mul_div_left _ _ hp, Nat.div_eq_of_lt hx, Nat.div_eq_of_lt hy, Nat.zero_add, Nat.zero_add] at h2
  exact ⟨Prod.ext (Int64.toBitVec_inj.mp (BitVec.eq_of_toNat_eq h1)) e, h2⟩
theorem nm_app : ∀ (L1 M1 : List (Int64 × Nat)) {L M : List (Int64 × Nat)}, okW L1 → okW M1 → L1.map (fun x => x.2) = M1.map (fun x => x.2) → nmB (L1 ++ L) = nmB (M1 ++ M) → L1 = M1 ∧ nmB L = nmB M
  | [], [], _, _, _, _, _, h => ⟨rfl, h⟩
  | [], y :: M1, _, _, _, _, e, _ => nomatch e
  | x :: L1, [], _, _, _, _, e, _ => nomatch e
  | x :: L1, y :: M1, L, M, hL, hM, e, h => by
    rw [List.map_cons, List.map_cons] at e
    rw [List.cons_append, List.cons_append] at h
    obtain ⟨a, b⟩ := nm_head (hL x (List.mem_cons_self ..)).2.2 (hM y (List.mem_cons_self ..)).2.2 (List.cons.inj e).1 h
    obtain ⟨c, d⟩ := nm_app L1 M1 (fun z hz => hL z (List.mem_cons_of_mem _ hz)) (fun z hz => hM z (List.mem_cons_of_mem _ hz)) (List.cons.inj e).2 b
    exact ⟨by rw [a, c], d⟩
theorem okW_app {L M : List (Int64 × Nat)} (hL : okW L) (hM : okW M) : okW (L ++ M) := fun x hx => by
  rcases List.mem_append.mp hx with h | h
  · exact hL x h
  · exact hM x h
theorem okW_cons {x : Int64 × Nat} {L : List (Int64 × Nat)} (hx : 0 < x.2 ∧ x.2 < 64 ∧ x.1.toBitVec.toNat < 2 ^ x.2) (hL : okW L) : okW (x :: L) := fun y hy => by
  rcases List.mem_cons.mp hy with h | h
  · rw [h]; exact hx
  · exact hL y h
theorem okW_nil : okW [] := fun x hx => absurd hx (List.not_mem_nil)
theorem w_n {n w : Nat} (h : n < 2 ^ w) (h0 : 0 < w) (h6 : w < 31) : 0 < ((nI n).toInt64, w).2 ∧ ((nI n).toInt64, w).2 < 64 ∧ ((nI n).toInt64, w).1.toBitVec.toNat < 2 ^ ((nI n).toInt64, w).2 := by
  have h2 : 2 ^ w ≤ 2 ^ 30 := Nat.pow_le_pow_right (by omega) (by omega)
  refine ⟨h0, by show w < 64; omega, ?_⟩
  show (nI n).toInt64.toBitVec.toNat < 2 ^ w
  rw [nI_l (by omega), lN_bv, BitVec.toNat_ofNat, Nat.mod_eq_of_lt (by omega)]; exact h
theorem w_v {v : Int32} (h : okD v) : 0 < ((v + 64).toInt64, 7).2 ∧ ((v + 64).toInt64, 7).2 < 64 ∧ ((v + 64).toInt64, 7).1.toBitVec.toNat < 2 ^ ((v + 64).toInt64, 7).2 := by
  have hd := dg_lt h
  refine ⟨by show 0 < 7; decide, by show 7 < 64; decide, ?_⟩
  show (v + 64).toInt64.toBitVec.toNat < 128
  rw [dg_64 h, lN_bv, BitVec.toNat_ofNat, Nat.mod_eq_of_lt (by omega)]; exact hd
theorem i64_in {a b : Nat} (ha : a < 1000) (hb : b < 1000) (h : (nI a).toInt64 = (nI b).toInt64) : a = b := by
  rw [nI_l (by omega), nI_l (by omega)] at h
  exact (lN_eq9 (by omega) (by omega)).mp h
theorem v64_in {u v : Int32} (hu : okD u) (hv : okD v) (h : (u + 64).toInt64 = (v + 64).toInt64) : u = v := by
  have h1 := dg_lt hu; have h2 := dg_lt hv
  rw [dg_64 hu, dg_64 hv] at h
  exact (dg_inj hu hv).mp ((lN_eq9 (by omega) (by omega)).mp h)
theorem wB_okD {v : Int32} {b : Nat} (h : wB v b) (hb : b ≤ 63) : okD v := by unfold wB at h; unfold okD; omega
