/-- a row's members, the first one first -/
def rlQ (s : S9K) (x : Nat) : List Nat := (List.range (s.2.2.2.2.2.2.1 x)).map (fun i => sr9 s x (i + 1) - 1)
def w4M (pg : Nat → Nat → Nat) : Nat := pg 9 1 ||| pg 9 2 ||| pg 9 3 ||| pg 9 4
def dQ (pg : Nat → Nat → Nat) (s : S9K) (a : Nat) : Nat :=
  if s.1.testBit a = false then 0 else if (w4M pg).testBit a = true then 2 + smB a (rlQ s (rowN pg a)) else if pg 4 a = 0 then (if sA s.2.1 a = 0 then 1 else 2 + pop7 (w4M pg % 2 ^ (sA s.2.1 a - 1))) else 1
theorem dig_eq : ∀ z r q, r < 8 ^ z → q < 8 ^ z → (∀ i, i < z → r / 8 ^ i % 8 = q / 8 ^ i % 8) → r = q
  | 0, r, q, h1, h2, _ => by rw [Nat.pow_zero] at h1 h2; omega
  | z + 1, r, q, h1, h2, h => by
    rw [Nat.pow_succ] at h1 h2
    have e0 := h 0 (Nat.succ_pos z)
    rw [Nat.pow_zero, Nat.div_one, Nat.div_one] at e0
    have ih := dig_eq z (r / 8) (q / 8) (by omega) (by omega) (fun i hi => by
      have := h (i + 1) (by omega)
      rw [Nat.pow_succ, Nat.mul_comm, ← Nat.div_div_eq_div_mul, ← Nat.div_div_eq_div_mul] at this
      exact this)
    omega
section BKQ
variable {E T Ac : Nat} {pg : Nat → Nat → Nat} {nm : Nat → Int32} {zs kd vx rr : Nat → Nat} {vv : Nat → Int32} {s s2 : S9K}
theorem w4_bit (hX : PX T Ac pg nm zs kd vx rr vv) (a : Nat) : (w4M pg).testBit a = true ↔ a < Ac ∧ 1 ≤ pg 4 a ∧ pg 4 a ≤ 4 := by
  have p10 := hX.1.2.2.2.2.2.2.2.2.2.1
  unfold w4M
  rw [Nat.testBit_or, Nat.testBit_or, Nat.testBit_or, Bool.or_eq_true, Bool.or_eq_true, Bool.or_eq_true, p10 1 a (by omega), p10 2 a (by omega), p10 3 a (by omega), p10 4 a (by omega)]
  omega
theorem w4_lt (hX : PX T Ac pg nm zs kd vx rr vv) : w4M pg < 128 := by
  have p7 := hX.1.2.2.2.2.2.2.1
  exact Nat.or_lt_two_pow (n := 7) (Nat.or_lt_two_pow (n := 7) (Nat.or_lt_two_pow (n := 7) (p7 1) (p7 2)) (p7 3)) (p7 4)
theorem sr_len (x : Nat) : (rlQ s x).length = s.2.2.2.2.2.2.1 x := by unfold rlQ; rw [List.length_map, List.length_range]
theorem rlQ_mem (hI : IvQ T Ac pg nm s) {x : Nat} (hx : x < 4) (b : Nat) : b ∈ rlQ s x ↔ s.1.testBit b = true ∧ 1 ≤ pg 4 b ∧ pg 4 b ≤ 4 ∧ rowN pg b = x := by
  unfold rlQ
  rw [List.mem_map]
  constructor
  · rintro ⟨i, hi, rfl⟩
    have hi := List.mem_range.mp hi
    obtain ⟨y1, y2, y3, y4, y5, y6⟩ := row_in hI hx (by omega : 1 ≤ i + 1) (by omega)
    exact ⟨y3, y4, y5, y6⟩
  · rintro ⟨h1, h2, h3, h4⟩
    obtain ⟨p, q1, q2, q3⟩ := hI.2.2.2.2.1 b h1 h2 h3
    rw [h4] at q2 q3
    exact ⟨p - 1, List.mem_range.mpr (by omega), by rw [(by omega : p - 1 + 1 = p), q3, Nat.add_sub_cancel]⟩
theorem pw_map {V : Type} {f : Nat → V} {R : V → V → Prop} : ∀ n, (∀ i j, i < j → j < n → R (f i) (f j)) → ((List.range n).map f).Pairwise R
  | 0, _ => List.Pairwise.nil
  | n + 1, h => by
    rw [List.range_succ, List.map_append]
    refine List.pairwise_append.mpr ⟨pw_map n (fun i j h1 h2 => h i j h1 (by omega)), List.pairwise_singleton .., fun a ha b hb => ?_⟩
    obtain ⟨i, hi, rfl⟩ := List.mem_map.mp ha
    have hi := List.mem_range.mp hi
    rw [List.map_cons, List.map_nil] at hb
    rw [List.mem_singleton.mp hb]
    exact h i n hi (Nat.lt_succ_self n)
theorem rlQ_nd (hI : IvQ T Ac pg nm s) {x : Nat} (hx : x < 4) : (rlQ s x).Nodup := by
  unfold rlQ
  refine pw_map _ (fun i j h1 h2 e => ?_)
  have y1 := (row_in hI hx (by omega : 1 ≤ i + 1) (by omega)).1
  have y2 := (row_in hI hx (by omega : 1 ≤ j + 1) (by omega)).1
  have := hI.2.2.2.1 x (i + 1) (j + 1) hx (by omega) (by omega) (by omega) (by omega) (by omega)
  omega
theorem dQ_lt (hX : PX T Ac pg nm zs kd vx rr vv) (hI : IvQ T Ac pg nm s) {a : Nat} : dQ pg s a < rdX (w4M pg) a := by
  have hW := w4_lt hX
  unfold dQ rdX
  by_cases d : s.1.testBit a = false
  · rw [if_pos d]; split <;> omega
  · have d1 : s.1.testBit a = true := by simpa using d
    rw [if_neg d]
    obtain ⟨c1, -⟩ := hI.1.2.1 a d1
    by_cases w : (w4M pg).testBit a = true
    · rw [if_pos w, if_pos w]
      have r4 := row_4 hX c1
      have := smB_pop (m := w4M pg) (a := a) hW (rlQ_nd hI r4) (fun b hb => by
        obtain ⟨q1, q2, q3, -⟩ := (rlQ_mem hI r4 b).mp hb
        exact (w4_bit hX b).mpr ⟨(hI.1.2.1 b q1).1, q2, q3⟩)
      omega
    · rw [if_neg w, if_neg w]
      by_cases k0 : pg 4 a = 0
      · rw [if_pos k0]
        by_cases z : sA s.2.1 a = 0
        · rw [if_pos z]; omega
        · rw [if_neg z]
          rcases hI.1.2.2.2.2.2.2.2.1 a d1 (Or.inl k0) with y | ⟨y1, y2, y3, y4⟩
          · exact absurd y z
          · have := pop_lt (w4M pg) hW (sA s.2.1 a - 1) (by omega) ((w4_bit hX _).mpr ⟨(hI.1.2.1 _ y2).1, y3, by omega⟩)
            omega
      · rw [if_neg k0]; omega
/-- the digits tell the state's key -/
theorem dQ_inj (hX : PX T Ac pg nm zs kd vx rr vv) (hI : IvQ T Ac pg nm s) (hJ : IvQ T Ac pg nm s2) (h : ∀ a, a < 7 → dQ pg s a = dQ pg s2 a) : keyK s.2.1 s.1 s.2.2.2.2.2.1 s.2.2.2.2.2.2.1 = keyK s2.2.1 s2.1 s2.2.2.2.2.2.1 s2.2.2.2.2.2.2.1 := by
  have hW := w4_lt hX
  have z0 : ∀ (s : S9K) a, dQ pg s a = 0 ↔ s.1.testBit a = false := fun s a => by
    unfold dQ
    by_cases d : s.1.testBit a = false
    · rw [if_pos d]; exact ⟨fun _ => d, fun _ => rfl⟩
    · rw [if_neg d]
      refine ⟨fun q => ?_, fun q => absurd q d⟩
      split at q
      · omega
      · split at q
        · split at q <;> omega
        · omega
  have e1 : s.1 = s2.1 := bits_eq hI.1.1 hJ.1.1 (fun a ha => by
    have := h a ha
    have q1 := z0 s a
    have q2 := z0 s2 a
    rw [this] at q1
    cases y : s.1.testBit a with
    | false => rw [q2.mp (q1.mpr y)]
    | true =>
      cases y2 : s2.1.testBit a with
      | true => rfl
      | false => rw [q1.mp (q2.mpr y2)] at y; exact y.symm)
  have eG : ∀ x, x < 4 → rlQ s x = rlQ s2 x := fun x hx => by
    refine smB_inj _ _ (rlQ_nd hI hx) (rlQ_nd hJ hx) (fun a => ?_) (fun a ha => ?_)
    · rw [rlQ_mem hI hx a, rlQ_mem hJ hx a, e1]
    · obtain ⟨q1, q2, q3, q4⟩ := (rlQ_mem hI hx a).mp ha
      have w := (w4_bit hX a).mpr ⟨(hI.1.2.1 a q1).1, q2, q3⟩
      have := h a (bit_hi hI.1.1 q1)
      unfold dQ at this
      have n1 : ¬ s.1.testBit a = false := by rw [q1]; decide
      rw [← e1, if_neg n1, if_neg n1, if_pos w, if_pos w, q4] at this
      omega
  have ez : ∀ x, x < 4 → s.2.2.2.2.2.2.1 x = s2.2.2.2.2.2.2.1 x := fun x hx => by rw [← sr_len x, ← sr_len x, eG x hx]
  have es : ∀ x p, x < 4 → sr9 s x p = sr9 s2 x p := fun x p hx => by
    by_cases c1 : 1 ≤ p ∧ p ≤ s.2.2.2.2.2.2.1 x
    · have y1 := (row_in hI hx c1.1 c1.2).1
      have y2 := (row_in hJ hx c1.1 (by rw [← ez x hx]; exact c1.2)).1
      have g : (rlQ s x)[p - 1]? = (rlQ s2 x)[p - 1]? := by rw [eG x hx]
      unfold rlQ at g
      rw [List.getElem?_map, List.getElem?_map, List.getElem?_range (by omega), List.getElem?_range (by rw [← ez x hx]; omega)] at g
      have g : sr9 s x (p - 1 + 1) - 1 = sr9 s2 x (p - 1 + 1) - 1 := Option.some.inj g
      rw [(by omega : p - 1 + 1 = p)] at g
      omega
    · by_cases c2 : p = 0
      · rw [c2, sr9_0, sr9_0]
      · rw [sr9_hi (by omega), sr9_hi (by rw [← ez x hx]; omega)]
  have er : ∀ x, x < 4 → s.2.2.2.2.2.1 x = s2.2.2.2.2.2.1 x := fun x hx => by
    refine dig_eq (s.2.2.2.2.2.2.1 x) _ _ (hI.2.1.2.2.2.2.1 x hx).2 (by rw [ez x hx]; exact (hJ.2.1.2.2.2.2.1 x hx).2) (fun i hi => ?_)
    have g := es x (i + 1) hx
    unfold sr9 srA at g
    rw [if_neg (by omega), if_neg (by rw [← ez x hx]; omega), Nat.add_sub_cancel, p8] at g
    exact g
  have eso : s.2.1 = s2.2.1 := so_dig hI.1.2.2.2.1 hI.1.2.2.2.2.1 hJ.1.2.2.2.1 hJ.1.2.2.2.2.1 (fun a ha => by
    cases d : s.1.testBit a with
    | false => rw [hI.1.2.2.2.2.2.1 a ha d, hJ.1.2.2.2.2.2.1 a ha (by rw [← e1]; exact d)]
    | true =>
      have d2 : s2.1.testBit a = true := by rw [← e1]; exact d
      obtain ⟨c1, -⟩ := hI.1.2.1 a d
      by_cases k34 : pg 4 a = 3 ∨ pg 4 a = 4
      · have r4 := row_4 hX c1
        obtain ⟨p, q1, q2, q3⟩ := hI.2.2.2.2.1 a d (by omega) (by omega)
        have g1 := hI.2.2.2.2.2.2.2.2.2.2.2.2.2.1 _ p r4 q1 q2 (by rw [q3, Nat.add_sub_cancel]; exact k34)
        have q3' : sr9 s2 (rowN pg a) p = a + 1 := by rw [← es _ p r4]; exact q3
        have g2 := hJ.2.2.2.2.2.2.2.2.2.2.2.2.2.1 _ p r4 q1 (by rw [← ez _ r4]; exact q2) (by rw [q3', Nat.add_sub_cancel]; exact k34)
        rw [q3, Nat.add_sub_cancel] at g1
        rw [q3', Nat.add_sub_cancel] at g2
        rw [g1, g2, es _ _ r4]
      · by_cases k0 : pg 4 a = 0
        · have w : ¬ (w4M pg).testBit a = true := fun q => by have := (w4_bit hX a).mp q; omega
          have := h a ha
          unfold dQ at this
          have n1 : ¬ s.1.testBit a = false := by rw [d]; decide
          have n2 : ¬ s2.1.testBit a = false := by rw [d2]; decide
          rw [if_neg n1, if_neg n2, if_neg w, if_neg w, if_pos k0, if_pos k0] at this
          have hs : ∀ (s : S9K), IvQ T Ac pg nm s → s.1.testBit a = true → sA s.2.1 a ≠ 0 → sA s.2.1 a - 1 < 7 ∧ (w4M pg).testBit (sA s.2.1 a - 1) = true := fun s hI d z => by
            rcases hI.1.2.2.2.2.2.2.2.1 a d (Or.inl k0) with y | ⟨y1, y2, y3, y4⟩
            · exact absurd y z
            · exact ⟨by omega, (w4_bit hX _).mpr ⟨(hI.1.2.1 _ y2).1, y3, by omega⟩⟩
          by_cases y1 : sA s.2.1 a = 0
          · by_cases y2 : sA s2.2.1 a = 0
            · rw [y1, y2]
            · rw [if_pos y1, if_neg y2] at this; omega
          · by_cases y2 : sA s2.2.1 a = 0
            · rw [if_neg y1, if_pos y2] at this; omega
            · rw [if_neg y1, if_neg y2] at this
              obtain ⟨r1, r2⟩ := hs s hI d y1
              obtain ⟨r3, r4⟩ := hs s2 hJ d2 y2
              have := pop_in (w4M pg) hW _ r1 _ r3 r2 r4 (by omega)
              omega
        · have hk6 := (hX.1.2.2.2.2.1 a c1).2.2.1
          rw [hI.2.2.2.2.2.2.2.2.2.2.2.2.2.2.1 a ha (by omega), hJ.2.2.2.2.2.2.2.2.2.2.2.2.2.2.1 a ha (by omega)])
  have ra : ∀ i, i < 4 → s.2.2.2.2.2.1 i < 8 ^ s.2.2.2.2.2.2.1 i := fun i hi => (hI.2.1.2.2.2.2.1 i hi).2
  have rb : ∀ i, i < 4 → s2.2.2.2.2.2.1 i < 8 ^ s2.2.2.2.2.2.2.1 i := fun i hi => (hJ.2.1.2.2.2.2.1 i hi).2
  unfold keyK
  rw [eso, e1, rwK_n 4 (Q_7 hI) ra, rwK_n 4 (Q_7 hJ) rb]
  have : ∀ n, n ≤ 4 → pkW s.2.2.2.2.2.1 s.2.2.2.2.2.2.1 n = pkW s2.2.2.2.2.2.1 s2.2.2.2.2.2.2.1 n := fun n hn => by
    induction n with
    | zero => rfl
    | succ n ih => rw [pkW_s, pkW_s, ih (by omega), ez n (by omega), er n (by omega)]
  rw [this 4 (Nat.le_refl 4)]
/-- the class meets at most 181440 states of model 3 -/
theorem keys_K (hX : PX T Ac pg nm zs kd vx rr vv) {KL SL C : Nat} : (gL (walkK E T pg nm KL SL C)).length ≤ 181440 := by
  rw [walkK_mdf hX]
  have h := mdf_inv (kn := knK9) (pre := preK9) (nx := nxK9 pg nm T) (fin := finK9 E) (Iv := IvQ T Ac pg nm)
    (P := fun g => (gL g).Nodup ∧ ∀ k, k ∈ gL g → ∃ s, IvQ T Ac pg nm s ∧ k = keyK s.2.1 s.1 s.2.2.2.2.2.1 s.2.2.2.2.2.2.1)
    (fun s g hI hk hP => by
      unfold preK9
      unfold knK9 at hk
      unfold addKey
      rw [if_neg (by rw [hk]; exact Bool.false_ne_true)]
      show (gL g ++ [_]).Nodup ∧ ∀ k, k ∈ gL g ++ [_] → _
      refine ⟨List.nodup_append.mpr ⟨hP.1, List.nodup_cons.mpr ⟨List.not_mem_nil, List.nodup_nil⟩, fun a ha b hb e => ?_⟩, fun k hk2 => ?_⟩
      · rw [List.mem_singleton.mp hb] at e
        subst e
        unfold hasK at hk
        rw [List.contains_iff_mem.mpr ha] at hk
        exact Bool.false_ne_true hk.symm
      · rcases List.mem_append.mp hk2 with q | q
        · exact hP.2 k q
        · exact ⟨s, hI, List.mem_singleton.mp q⟩)
    (fun s p g _ _ hP => by unfold finK9; rw [addOut_V.2.1]; exact hP)
    (fun s k hI hk => IvQ_ch hX hI hk)
    15 s09 [] (g0W KL (emptyS SL).1 C (fun _ => 0) (emptyS SL).2.1 (emptyS SL).2.2) IvQ_0 ⟨List.nodup_nil, fun k hk => absurd hk (List.not_mem_nil)⟩
  refine code_rel (R := fun k n => ∃ s, IvQ T Ac pg nm s ∧ k = keyK s.2.1 s.1 s.2.2.2.2.2.1 s.2.2.2.2.2.2.1 ∧ n = mxN (rdX (w4M pg)) (dQ pg s) 7) h.1 (fun k hk => ?_) (fun k l n hk hl => ?_)
  · obtain ⟨s, h1, h3⟩ := h.2 k hk
    exact ⟨_, Nat.lt_of_lt_of_le (mx_lt 7 (fun a _ => dQ_lt hX h1)) (prX _ (w4_lt hX)), s, h1, h3, rfl⟩
  · obtain ⟨s, h1, h3, h4⟩ := hk
    obtain ⟨s2, j1, j3, j4⟩ := hl
    have q := mx_inj 7 (fun a _ => ⟨dQ_lt hX h1, dQ_lt hX j1⟩) (h4.symm.trans j4)
    rw [h3, j3, dQ_inj hX h1 j1 q]
theorem nxL_f {f : Nat → Nat} : ∀ z, (∀ i j, i < z → j < z → f i = f j → i = j) → ∀ p, p < z → nxL (f p) ((List.range z).map f).reverse = if p = 0 then 0 else f (p - 1) + 1
  | 0, _, p, hp => absurd hp (Nat.not_lt_zero p)
  | z + 1, h, p, hp => by
    rw [List.range_succ, List.map_append, List.reverse_append]
    show nxL (f p) (f z :: ((List.range z).map f).reverse) = _
    by_cases e : p = z
    · rw [e, nxL, if_pos rfl]
      cases z with
      | zero => rfl
      | succ w =>
        rw [List.range_succ, List.map_append, List.reverse_append, if_neg (Nat.succ_ne_zero w), Nat.add_sub_cancel]; rfl
    · rw [nxL, if_neg (fun q => e (h p z hp (Nat.lt_succ_self z) q.symm))]
      exact nxL_f z (fun i j hi hj => h i j (by omega) (by omega)) p (by omega)
theorem hdL_f {f : Nat → Nat} {z : Nat} : hdL ((List.range z).map f).reverse = if z = 0 then 0 else f (z - 1) + 1 := by
  cases z with
  | zero => rfl
  | succ w => rw [List.range_succ, List.map_append, List.reverse_append, if_neg (Nat.succ_ne_zero w), Nat.add_sub_cancel]; rfl
theorem PJ_chQ (hX : PX T Ac pg nm zs kd vx rr vv) {k : Int32 × S9K} (hI : IvQ T Ac pg nm s) (hJ : PJ T pg s.1 s.2.2.1) (h : k ∈ nxK9 pg nm T s) : PJ T pg k.2.1 k.2.2.2.1 := by
  unfold nxK9 at h
  obtain ⟨t, ht, h⟩ := List.mem_flatMap.mp h
  have ht := List.mem_range.mp ht
  unfold nKt at h
  by_cases q : s.2.2.1 t < pg 0 t
  · rw [if_pos q] at h
    obtain ⟨a1, a2, -⟩ := px_next hX hI.1 ht q rfl
    obtain ⟨s9, pc, e, -⟩ := nK_st hX hI a2 h
    rw [e]
    refine PJ_step hX hI.1 hJ ht q rfl (by unfold psP; split <;> omega) ?_
    unfold psP
    split
    · next q => exact Or.inr ⟨q.1, rfl⟩
    · exact Or.inl rfl
  · rw [if_neg q] at h; exact absurd h (List.not_mem_nil)
theorem EndC_Q (hX : PX T Ac pg nm zs kd vx rr vv) (hI : IvQ T Ac pg nm s) (hJ : PJ T pg s.1 s.2.2.1) (h : nxK9 pg nm T s = []) : EndC T Ac pg nm s.1 s.2.1 s.2.2.1 s.2.2.2.1 s.2.2.2.2.1 (fun x => (rlQ s x).reverse) ∧
    (rK s.2.2.2.1 7, vK s.2.2.2.2.1 (sr9 s 0 (s.2.2.2.2.2.2.1 0)) (sr9 s 1 (s.2.2.2.2.2.2.1 1)) (sr9 s 2 (s.2.2.2.2.2.2.1 2))) = enG (uE s.2.2.2.1 s.2.2.2.2.1 (fun x => (rlQ s x).reverse)) := by
  have inj : ∀ x, x < 4 → ∀ i j, i < s.2.2.2.2.2.2.1 x → j < s.2.2.2.2.2.2.1 x → sr9 s x (i + 1) - 1 = sr9 s x (j + 1) - 1 → i = j := fun x hx i j hi hj e => by
    have y1 := (row_in hI hx (by omega : 1 ≤ i + 1) (by omega)).1
    have y2 := (row_in hI hx (by omega : 1 ≤ j + 1) (by omega)).1
    have := hI.2.2.2.1 x (i + 1) (j + 1) hx (by omega) (by omega) (by omega) (by omega) (by omega)
    omega
  refine ⟨⟨hI.1, hJ, fun t ht => ?_, fun x hx => ⟨?_, fun a => ?_, ?_, fun a ha hk => ?_⟩⟩, ?_⟩
  · refine Classical.byContradiction (fun q => ?_)
    exact cov_Q hX hI ht (by omega) (fl_emp h t (List.mem_range.mpr ht))
  · exact List.pairwise_reverse.mpr ((rlQ_nd hI (by omega)).imp (fun q => fun e => q e.symm))
  · rw [List.mem_reverse, rlQ_mem hI (by omega)]
    constructor
    · rintro ⟨q1, q2, q3, q4⟩
      unfold rowN at q4
      split at q4
      · exact ⟨q1, q2, by omega, q4⟩
      · omega
    · rintro ⟨q1, q2, q3, q4⟩
      exact ⟨q1, q2, by omega, by rw [row_v (by omega)]; exact q4⟩
  · rw [List.pairwise_reverse]
    unfold rlQ
    refine pw_map _ (fun i j h1 h2 e => ?_)
    have := hI.2.2.2.2.2.2.2.2.2.2.2.2.1 x (i + 1) (j + 1) (by omega) (by omega) (by omega) (by omega) e.symm
    have y1 := (row_in hI (by omega : x < 4) (by omega : 1 ≤ i + 1) (by omega)).1
    omega
  · rw [List.mem_reverse] at ha
    unfold rlQ at ha
    obtain ⟨i, hi, e⟩ := List.mem_map.mp ha
    have hi := List.mem_range.mp hi
    have g := hI.2.2.2.2.2.2.2.2.2.2.2.2.2.1 x (i + 1) (by omega) (by omega) (by omega) (by rw [e]; exact Or.inl hk)
    rw [e, Nat.add_sub_cancel] at g
    rw [g, ← e]
    unfold rlQ
    rw [nxL_f (f := fun i => sr9 s x (i + 1) - 1) _ (inj x (by omega)) i hi]
    by_cases z : i = 0
    · rw [if_pos z, z, sr9_0]
    · have y := (row_in hI (by omega : x < 4) (by omega : 1 ≤ i) (by omega)).1
      rw [if_neg z, (by omega : i - 1 + 1 = i)]; omega
  · have hx : ∀ x, x < 3 → s.2.2.2.2.1 (sr9 s x (s.2.2.2.2.2.2.1 x)) = uE s.2.2.2.1 s.2.2.2.2.1 (fun x => (rlQ s x).reverse) (8 + x) := fun x hx => by
      unfold uE rlQ
      rw [if_neg (by omega), (by omega : 8 + x - 8 = x), hdL_f]
      by_cases z : s.2.2.2.2.2.2.1 x = 0
      · rw [if_pos z, z, sr9_0]
      · have y := (row_in hI (by omega : x < 4) (by omega : 1 ≤ s.2.2.2.2.2.2.1 x) (Nat.le_refl _)).1
        rw [if_neg z, (by omega : s.2.2.2.2.2.2.1 x - 1 + 1 = s.2.2.2.2.2.2.1 x), (by omega : sr9 s x (s.2.2.2.2.2.2.1 x) - 1 + 1 = sr9 s x (s.2.2.2.2.2.2.1 x))]
    unfold enG
    rw [rK_cg (u := s.2.2.2.1) (w := uE s.2.2.2.1 s.2.2.2.2.1 (fun x => (rlQ s x).reverse)) 7 (fun j hj => by unfold uE; rw [if_pos (by omega)]), vK_cg (f := s.2.2.2.2.1) (g := fun i => uE s.2.2.2.1 s.2.2.2.2.1 (fun x => (rlQ s x).reverse) (8 + i)) (hx 0 (by omega)) (hx 1 (by omega)) (hx 2 (by omega))]
theorem outs_GK (hX : PX T Ac pg nm zs kd vx rr vv) {KL SL C : Nat} : (gF (walkK E T pg nm KL SL C)).length ≤ 4000 := by
  rw [walkK_mdf hX]
  have h := mdf_inv (kn := knK9) (pre := preK9) (nx := nxK9 pg nm T) (fin := finK9 E) (Iv := fun s => IvQ T Ac pg nm s ∧ PJ T pg s.1 s.2.2.1)
    (P := fun g => ((foG g).map (fun r => r.1)).Nodup ∧ ∀ v, v ∈ (foG g).map (fun r => r.1) → ∃ dn so pl rg cv G, EndC T Ac pg nm dn so pl rg cv G ∧ v = enG (uE rg cv G))
    (fun s g _ _ hP => by
      have e : foG (preK9 s g) = foG g := by unfold foG preK9; rw [addK_L.1]
      rw [e]; exact hP)
    (fun s p g hI hn hP => by
      obtain ⟨e1, e2⟩ := EndC_Q hX hI.1 hI.2 hn
      unfold finK9
      rw [addOut_V.1, e2]
      by_cases q : inV (foG g) (enG (uE s.2.2.2.1 s.2.2.2.2.1 (fun x => (rlQ s x).reverse)))
      · rw [adV_y q]; exact hP
      · rw [adV_n q, List.map_append]
        refine ⟨List.nodup_append.mpr ⟨hP.1, List.nodup_cons.mpr ⟨List.not_mem_nil, List.nodup_nil⟩, fun a ha b hb e => ?_⟩, fun v hv => ?_⟩
        · rw [List.mem_singleton.mp hb] at e
          obtain ⟨r, hr, er⟩ := List.mem_map.mp ha
          exact q ⟨r, hr, by rw [er, e]⟩
        · rcases List.mem_append.mp hv with z | z
          · exact hP.2 v z
          · exact ⟨_, _, _, _, _, _, e1, List.mem_singleton.mp z⟩)
    (fun s k hI hk => ⟨IvQ_ch hX hI.1 hk, PJ_chQ hX hI.1 hI.2 hk⟩)
    15 s09 [] (g0W KL (emptyS SL).1 C (fun _ => 0) (emptyS SL).2.1 (emptyS SL).2.2) ⟨IvQ_0, PJ_0⟩ ⟨List.nodup_nil, fun k hk => absurd hk (List.not_mem_nil)⟩
  have := ends_4000 (en := enG) hX h.1 enG_cg h.2
  unfold foG at this
  rw [List.length_map, List.length_map] at this
  exact this
/-- model 3 has at most 4000 outcomes -/
theorem outs_K (hX : PX T Ac pg nm zs kd vx rr vv) : (pdf (nxF (aK zs kd vx rr vv) T) ocK 15 a0K [] []).length ≤ 4000 := by
  have h := outs_GK (E := 0) (KL := 0) (SL := 0) (C := 0) hX
  rw [cls_runs_K hX, List.length_map] at h
  exact h
end BKQ
