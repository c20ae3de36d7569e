theorem oM_cg {pg : Nat → Nat → Nat} {dn : Nat} {so : Int64} {ct ct2 : Nat → Nat} {t : Nat} : ∀ n, (∀ b, b < n → dn.testBit b = true → pg 2 b = t → ct (sA so b) = ct2 (sA so b)) → oM pg dn so ct t n = oM pg dn so ct2 t n
  | 0, _ => rfl
  | n + 1, h => by
    rw [oM_s, oM_s, oM_cg n (fun b hb => h b (by omega))]
    by_cases q : dn.testBit n = true ∧ pg 2 n = t
    · rw [if_pos q, if_pos q, h n (Nat.lt_succ_self n) q.1 q.2]
    · rw [if_neg q, if_neg q]
/-- all rows one behind the other -/
def pkW (rw zs : Nat → Nat) : Nat → Nat
  | 0 => 0
  | n + 1 => pkW rw zs n * 8 ^ zs n + rw n
theorem pkW_s {rw zs : Nat → Nat} {n : Nat} : pkW rw zs (n + 1) = pkW rw zs n * 8 ^ zs n + rw n := rfl
theorem smN_s {f : Nat → Nat} {n : Nat} : smN f (n + 1) = smN f n + f n := rfl
theorem pkW_lt {rw zs : Nat → Nat} : ∀ n, (∀ i, i < n → rw i < 8 ^ zs i) → pkW rw zs n < 8 ^ smN zs n
  | 0, _ => by show 0 < 1; decide
  | n + 1, h => by
    have ih := pkW_lt n (fun i hi => h i (by omega))
    have h2 := h n (Nat.lt_succ_self n)
    rw [pkW_s, smN_s, Nat.pow_add]
    have : pkW rw zs n * 8 ^ zs n + 8 ^ zs n ≤ 8 ^ smN zs n * 8 ^ zs n := by
      rw [← Nat.succ_mul]; exact Nat.mul_le_mul_right _ ih
    omega
theorem rwK_s {rw zs : Nat → Nat} {n : Nat} : rwK rw zs (n + 1) = (rwK rw zs n <<< ((nI (3 * zs n) : Int32).toInt64 &&& 63)) ||| (nI (rw n)).toInt64 := rfl
theorem rwK_n {rw zs : Nat → Nat} : ∀ n, smN zs n ≤ 7 → (∀ i, i < n → rw i < 8 ^ zs i) → rwK rw zs n = lN (pkW rw zs n)
  | 0, _, _ => rfl
  | n + 1, hz, h => by
    rw [smN_s] at hz
    have ih := rwK_n n (by omega) (fun i hi => h i (by omega))
    have hl := pkW_lt n (fun i hi => h i (by omega))
    have h2 := h n (Nat.lt_succ_self n)
    have hlt := pkW_lt (n + 1) h
    have b1 : 8 ^ smN zs n ≤ 8 ^ 7 := Nat.pow_le_pow_right (by decide) (by omega)
    have b2 : 8 ^ zs n ≤ 8 ^ 7 := Nat.pow_le_pow_right (by decide) (by omega)
    have b3 : 8 ^ smN zs (n + 1) ≤ 8 ^ 7 := Nat.pow_le_pow_right (by decide) (by rw [smN_s]; omega)
    rw [show (8 : Nat) ^ 7 = 2097152 from by decide] at b1 b2 b3
    rw [pkW_s] at hlt
    rw [rwK_s, ih, lN_shl (by omega) (by omega), nI_l (by omega), p8, lN_orN (by omega) (by omega)]
    have e := Nat.two_pow_add_eq_or_of_lt (i := 3 * zs n) (b := rw n) (by rw [p8]; exact h2) (pkW rw zs n)
    rw [p8, Nat.mul_comm] at e
    rw [← e, pkW_s]
theorem e21 : (21 : Int32) = nI 21 := by decide
theorem keyK_n {n dn : Nat} {rw zs : Nat → Nat} (h1 : n < 2 ^ 21) (h2 : dn < 128) (hz : smN zs 4 ≤ 7) (h : ∀ i, i < 4 → rw i < 8 ^ zs i) : keyK (lN n) dn rw zs = lN ((n * 128 + dn) * 2097152 + pkW rw zs 4) ∧ pkW rw zs 4 < 2097152 := by
  have hl := pkW_lt 4 h
  have b1 : 8 ^ smN zs 4 ≤ 8 ^ 7 := Nat.pow_le_pow_right (by decide) hz
  rw [show (8 : Nat) ^ 7 = 2097152 from by decide] at b1
  refine ⟨?_, by omega⟩
  unfold keyK keyP
  rw [lN_sh, nI_l (by omega), lN_or h2 (by omega), rwK_n 4 hz h, e21, lN_shl (by omega) (by decide), lN_orN (by omega) (by omega)]
  have e := Nat.two_pow_add_eq_or_of_lt (i := 21) (b := pkW rw zs 4) (by omega) (n * 128 + dn)
  rw [Nat.mul_comm] at e
  rw [← e]
theorem pkW_in {rw rw2 zs zs2 : Nat → Nat} : ∀ n, (∀ i, i < n → zs i = zs2 i) → (∀ i, i < n → rw i < 8 ^ zs i) → (∀ i, i < n → rw2 i < 8 ^ zs2 i) → pkW rw zs n = pkW rw2 zs2 n → ∀ i, i < n → rw i = rw2 i
  | 0, _, _, _, _, i, hi => absurd hi (Nat.not_lt_zero i)
  | n + 1, hz, h1, h2, e, i, hi => by
    rw [pkW_s, pkW_s, ← hz n (Nat.lt_succ_self n)] at e
    obtain ⟨q1, q2⟩ := mx_cut (h1 n (Nat.lt_succ_self n)) (by rw [hz n (Nat.lt_succ_self n)]; exact h2 n (Nat.lt_succ_self n)) e
    by_cases z : i = n
    · rw [z]; exact q2
    · exact pkW_in n (fun i hi => hz i (by omega)) (fun i hi => h1 i (by omega)) (fun i hi => h2 i (by omega)) q1 i (by omega)
section KQI
variable {T Ac : Nat} {pg : Nat → Nat → Nat} {nm : Nat → Int32} {zs kd vx rr : Nat → Nat} {vv : Nat → Int32} {s s2 : S9K}
theorem rows_7 {dn : Nat} : ∀ n, ctB (rowP pg dn 0) n + ctB (rowP pg dn 1) n + ctB (rowP pg dn 2) n + ctB (rowP pg dn 3) n ≤ n
  | 0 => Nat.le_refl 0
  | n + 1 => by
    have ih := rows_7 (dn := dn) n
    have one : ∀ x, (if rowP pg dn x n = true then 1 else 0) = if rowP pg dn x n = true ∧ rowN pg n = x then 1 else 0 := fun x => by
      by_cases q : rowP pg dn x n = true
      · have : rowN pg n = x := by
          unfold rowP at q
          rw [Bool.and_eq_true] at q
          exact (of_decide_eq_true q.2).2.2
        rw [if_pos q, if_pos ⟨q, this⟩]
      · rw [if_neg q, if_neg (fun z => q z.1)]
    show ctB (rowP pg dn 0) n + (if rowP pg dn 0 n = true then 1 else 0) + (ctB (rowP pg dn 1) n + (if rowP pg dn 1 n = true then 1 else 0)) + (ctB (rowP pg dn 2) n + (if rowP pg dn 2 n = true then 1 else 0)) + (ctB (rowP pg dn 3) n + (if rowP pg dn 3 n = true then 1 else 0)) ≤ n + 1
    rw [one 0, one 1, one 2, one 3]
    split <;> split <;> split <;> split <;> omega
theorem Q_7 (hI : IvQ T Ac pg nm s) : smN s.2.2.2.2.2.2.1 4 ≤ 7 := by
  have h := rows_7 (pg := pg) (dn := s.1) 7
  show 0 + s.2.2.2.2.2.2.1 0 + s.2.2.2.2.2.2.1 1 + s.2.2.2.2.2.2.1 2 + s.2.2.2.2.2.2.1 3 ≤ 7
  rw [hI.2.2.1 0 (by omega), hI.2.2.1 1 (by omega), hI.2.2.1 2 (by omega), hI.2.2.1 3 (by omega)]
  omega
theorem keyK_in (hI : IvQ T Ac pg nm s) (hJ : IvQ T Ac pg nm s2) (e : keyK s.2.1 s.1 s.2.2.2.2.2.1 s.2.2.2.2.2.2.1 = keyK s2.2.1 s2.1 s2.2.2.2.2.2.1 s2.2.2.2.2.2.2.1) :
    s.2.1 = s2.2.1 ∧ s.1 = s2.1 ∧ (∀ x, x < 4 → s.2.2.2.2.2.2.1 x = s2.2.2.2.2.2.2.1 x) ∧ ∀ x, x < 4 → s.2.2.2.2.2.1 x = s2.2.2.2.2.2.1 x := by
  have a1 := hI.1.2.2.2.1
  have b1 := hJ.1.2.2.2.1
  have ra : ∀ i, i < 4 → s.2.2.2.2.2.1 i < 8 ^ s.2.2.2.2.2.2.1 i := fun i hi => (hI.2.1.2.2.2.2.1 i hi).2
  have rb : ∀ i, i < 4 → s2.2.2.2.2.2.1 i < 8 ^ s2.2.2.2.2.2.2.1 i := fun i hi => (hJ.2.1.2.2.2.2.1 i hi).2
  obtain ⟨y1, y2⟩ := keyK_n (n := sn s.2.1) (dn := s.1) hI.1.2.2.2.2.1 hI.1.1 (Q_7 hI) ra
  obtain ⟨z1, z2⟩ := keyK_n (n := sn s2.2.1) (dn := s2.1) hJ.1.2.2.2.2.1 hJ.1.1 (Q_7 hJ) rb
  rw [← a1] at y1
  rw [← b1] at z1
  rw [y1, z1] at e
  have n1 := hI.1.2.2.2.2.1
  have n2 := hJ.1.2.2.2.2.1
  have m1 := hI.1.1
  have m2 := hJ.1.1
  have e := (lN_eq9 (by omega) (by omega)).mp e
  have h1 : sn s.2.1 = sn s2.2.1 := by omega
  have h2 : s.1 = s2.1 := by omega
  have h3 : pkW s.2.2.2.2.2.1 s.2.2.2.2.2.2.1 4 = pkW s2.2.2.2.2.2.1 s2.2.2.2.2.2.2.1 4 := by omega
  have hz : ∀ x, x < 4 → s.2.2.2.2.2.2.1 x = s2.2.2.2.2.2.2.1 x := fun x hx => by rw [hI.2.2.1 x hx, hJ.2.2.1 x hx, h2]
  exact ⟨by rw [a1, b1, h1], h2, hz, pkW_in 4 hz ra rb h3⟩
/-- the same done from the same sources: the same learned -/
theorem uni_Q (hX : PX T Ac pg nm zs kd vx rr vv) (hI : IvQ T Ac pg nm s) (hJ : IvQ T Ac pg nm s2) (e1 : s.2.1 = s2.2.1) (e2 : s.1 = s2.1) :
    (∀ q, wrT pg s.1 q → s.2.2.2.2.2.2.2.2 q = s2.2.2.2.2.2.2.2.2 q) ∧ ∀ t, t < T → s.2.2.2.2.2.2.2.1 t = s2.2.2.2.2.2.2.2.1 t := by
  obtain ⟨i1, i2, i3, i4, i5, i6, i7, i8, i9, i10, i11, i12, i13, i14, i15, ps, N, i16, i17, i18⟩ := hI
  obtain ⟨j1, j2, j3, j4, j5, j6, j7, j8, j9, j10, j11, j12, j13, j14, j15, -⟩ := hJ
  have key : ∀ n a, ps a < n → s.1.testBit a = true → 1 ≤ pg 4 a → pg 4 a ≤ 4 → s.2.2.2.2.2.2.2.2 (a + 1) = s2.2.2.2.2.2.2.2.2 (a + 1) := by
    intro n
    induction n with
    | zero => intro a h; exact absurd h (Nat.not_lt_zero _)
    | succ n ih =>
      intro a h hd k1 k4
      rw [i12 a hd k1 k4, j12 a (by rw [← e2]; exact hd) k1 k4, ← e1, ← e2]
      refine oM_cg (a + 1) (fun b hb hbd hbt => ?_)
      by_cases z : sA s.2.1 b = 0
      · rw [z, i6, j6]
      · obtain ⟨w1, w2⟩ := i18 b hbd z
        rcases w1 with w | ⟨w3, w4, w5, w6⟩
        · exact absurd w z
        · have hle : ps b ≤ ps a := by
            by_cases y : b = a
            · rw [y]; exact Nat.le_refl _
            · exact Nat.le_of_lt (i17 b a hbd hd hbt (by omega))
          have := ih (sA s.2.1 b - 1) (by omega) w4 w5 w6
          rw [(by omega : sA s.2.1 b - 1 + 1 = sA s.2.1 b)] at this
          exact this
  have cte : ∀ q, wrT pg s.1 q → s.2.2.2.2.2.2.2.2 q = s2.2.2.2.2.2.2.2.2 q := fun q hq => by
    by_cases z : q = 0
    · rw [z, i6, j6]
    · rcases hq with w | ⟨w3, w4, w5, w6⟩
      · exact absurd w z
      · have := key (ps (q - 1) + 1) (q - 1) (Nat.lt_succ_self _) w4 w5 w6
        rw [(by omega : q - 1 + 1 = q)] at this
        exact this
  refine ⟨cte, fun t ht => ?_⟩
  rw [i11 t ht, j11 t ht, ← e1, ← e2]
  refine oM_cg 7 (fun b _ hbd _ => ?_)
  by_cases z : sA s.2.1 b = 0
  · rw [z, i6, j6]
  · exact cte _ (i18 b hbd z).1
/-- one key, one state of the machine -/
theorem abQ_key (hX : PX T Ac pg nm zs kd vx rr vv) (hI : IvQ T Ac pg nm s) (hJ : IvQ T Ac pg nm s2) (e : keyK s.2.1 s.1 s.2.2.2.2.2.1 s.2.2.2.2.2.2.1 = keyK s2.2.1 s2.1 s2.2.2.2.2.2.1 s2.2.2.2.2.2.2.1) : abQ T pg s = abQ T pg s2 := by
  obtain ⟨e1, e2, e3, e4⟩ := keyK_in hI hJ e
  obtain ⟨c1, c2⟩ := uni_Q hX hI hJ e1 e2
  have hJ1 := hJ.1
  rw [← e2] at hJ1
  obtain ⟨u1, u2, u3⟩ := PgI_uni hX hI.1 hJ1 (fun a _ _ => by rw [e1])
  have es : ∀ x p, x < 4 → sr9 s x p = sr9 s2 x p := fun x p hx => by unfold sr9 srA; rw [e3 x hx, e4 x hx]
  have ek : ∀ K x, x < 4 → kq s K x = kq s2 K x := fun K x hx => by
    rw [kq_la, kq_la, e3 x hx]
    exact laP_cgn _ (fun i _ => by rw [es x _ hx])
  refine Prod.ext (cutN_cg (fun u _ => ?_)) (Prod.ext (cutI_cg u2) (Prod.ext ?_ ?_))
  · by_cases k : u < T
    · rw [if_pos k, if_pos k]
      have q := u3 u k
      show (if pg 0 u < s.2.2.1 u then pg 0 u else s.2.2.1 u) = (if pg 0 u < s2.2.2.1 u then pg 0 u else s2.2.2.1 u)
      rw [q]
    · rw [if_neg k, if_neg k]
  · funext x
    show rowsQ pg s x = rowsQ pg s2 x
    unfold rowsQ
    by_cases hx : x < 4
    · rw [if_pos hx, if_pos hx, ← e3 x hx]
      refine List.map_congr_left (fun p hp => ?_)
      have hp := List.mem_range.mp hp
      have hw := row_wr hI hx (by omega : p ≤ s.2.2.2.2.2.2.1 x)
      rw [← es x p hx]
      refine Prod.ext ?_ (Prod.ext rfl ?_)
      · show (if sr9 s x p = 0 ∨ pg 4 (sr9 s x p - 1) = 4 then 0 else s.2.2.2.2.1 (sr9 s x p)) = (if sr9 s x p = 0 ∨ pg 4 (sr9 s x p - 1) = 4 then 0 else s2.2.2.2.2.1 (sr9 s x p))
        by_cases q : sr9 s x p = 0 ∨ pg 4 (sr9 s x p - 1) = 4
        · rw [if_pos q, if_pos q]
        · rw [if_neg q, if_neg q]
          refine u1 _ ?_
          rcases hw with w | ⟨w1, w2, w3, w4⟩
          · exact absurd (Or.inl w) q
          · exact Or.inr ⟨w1, w2, w3, by omega⟩
      · show cutN 4 (fun y => kq s (s.2.2.2.2.2.2.2.2 (sr9 s x p)) y) = cutN 4 (fun y => kq s2 (s2.2.2.2.2.2.2.2.2 (sr9 s x p)) y)
        exact cutN_cg (fun y hy => by rw [c1 _ hw, ek _ y hy])
    · rw [if_neg hx, if_neg hx]
  · funext t y
    show ktQ T s t y = ktQ T s2 t y
    by_cases q : t < T ∧ y < 4
    · rw [ktQ_at q.1 q.2, ktQ_at q.1 q.2, c2 t q.1, ek _ y q.2]
    · rw [ktQ_out q, ktQ_out q]
theorem abQ_0 : abQ T pg s09 = a0K := by
  refine Prod.ext ?_ (Prod.ext cutI_0 (Prod.ext ?_ ?_))
  · show cutN 4 (fun t => if t < T then (if pg 0 t < 0 then pg 0 t else 0) else 0) = fun _ => 0
    rw [← cutN_0 (n := 4)]
    refine cutN_cg (fun t _ => ?_)
    by_cases k : t < T
    · rw [if_pos k, if_neg (Nat.not_lt_zero _)]
    · rw [if_neg k]
  · funext x
    show rowsQ pg s09 x = if x < 4 then [e0K] else []
    unfold rowsQ
    by_cases hx : x < 4
    · rw [if_pos hx, if_pos hx]
      show [enP pg s09 (sr9 s09 x 0)] = [e0K]
      rw [sr9_0, enP_0 rfl]
    · rw [if_neg hx, if_neg hx]
  · funext t y
    show ktQ T s09 t y = 0
    by_cases q : t < T ∧ y < 4
    · rw [ktQ_at q.1 q.2]; exact kq_0
    · exact ktQ_out q
end KQI
/-- a state of the machine of model 3 that can be reached -/
def RKA (T : Nat) (zs : Nat → Nat) (A : AK) : Prop := ∃ sf, IvK1 T zs sf ∧ A = abK T sf
theorem RKA_0 {T : Nat} {zs kd vx rr : Nat → Nat} {vv : Nat → Int32} (hPr : PrR T zs kd vx rr vv) : RKA T zs a0K := ⟨bg3, IvK1_0 hPr, (abK_0 hPr.1).symm⟩
theorem RKA_s {T : Nat} {zs kd vx rr : Nat → Nat} {vv : Nat → Int32} {A A2 : AK} {t k : Nat} (hPr : PrR T zs kd vx rr vv) (h : RKA T zs A) (ht : t < T) (e : aK zs kd vx rr vv A t k = some A2) : RKA T zs A2 := by
  obtain ⟨sf, hs, rfl⟩ := h
  rw [← simK1 hPr hs ht] at e
  obtain ⟨s2, q1, q2⟩ := Option.map_eq_some_iff.mp e
  exact ⟨s2, IvK1_s hPr hs ht q1, q2.symm⟩
def uKA (A : AK) : Nat → Int32 := fun k => if k < 8 then A.2.1 k else (atK A (k - 8) (lnX A (k - 8) - 1)).1
theorem RKA_ok {T : Nat} {zs : Nat → Nat} {A : AK} (hT : T ≤ 4) (hz : ∀ t, t < T → zs t ≤ 7) (h : RKA T zs A) : ∀ j, j < 11 → okD (uKA A j) := fun j hj => by
  obtain ⟨sf, ⟨⟨fu, pl, zz, ro, ad, wn, rm, hK, hfu⟩, hF⟩, rfl⟩ := h
  obtain ⟨c1, c2, c3, c4, c5, c6⟩ := KD_rd hT hz hK
  unfold uKA
  by_cases k : j < 8
  · rw [if_pos k, abK_2 k]
    exact wB_okD (hK.2.2.2.2.2.2.2.2.2.2.2.2.2.1 (4 + j) (by omega) (by omega)) (by omega)
  · have hx : j - 8 < 4 := by omega
    have h1 : 1 ≤ zzF sf (j - 8) := by rw [c3 _ hx]; exact (hK.2.2.2.2.2.2.2.1 _ hx).2
    rw [if_neg k, lnX_R hx, atK_R hx (by omega)]
    exact wB_okD (hK.2.2.2.2.2.2.2.2.2.2.2.2.2.2 _ (c4 _ hx _ (by rw [← c3 _ hx]; omega)).2.2.1) (by omega)
