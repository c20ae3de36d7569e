/-- one in a row, as the class sees it -/
def enP (pg : Nat → Nat → Nat) (s : S9K) (q : Nat) : EK := (if q = 0 ∨ pg 4 (q - 1) = 4 then 0 else s.2.2.2.2.1 q, if q ≠ 0 ∧ (pg 4 (q - 1) = 3 ∨ pg 4 (q - 1) = 4) then 1 else 0, cutN 4 (fun y => kq s (s.2.2.2.2.2.2.2.2 q) y))
def rowsQ (pg : Nat → Nat → Nat) (s : S9K) (x : Nat) : List EK := if x < 4 then (List.range (s.2.2.2.2.2.2.1 x + 1)).map (fun p => enP pg s (sr9 s x p)) else []
def ktQ (T : Nat) (s : S9K) (t y : Nat) : Nat := if t < T ∧ y < 4 then kq s (s.2.2.2.2.2.2.2.1 t) y else 0
def plQ (T : Nat) (pg : Nat → Nat → Nat) (s : S9K) : Nat → Nat := cutN 4 (fun t => if t < T then (if pg 0 t < s.2.2.1 t then pg 0 t else s.2.2.1 t) else 0)
def abQ (T : Nat) (pg : Nat → Nat → Nat) (s : S9K) : AK := (plQ T pg s, cutI 8 s.2.2.2.1, rowsQ pg s, ktQ T s)
theorem kq_0 {s : S9K} {x : Nat} : kq s 0 x = 0 := by
  rw [kq_la]
  have : ∀ n, laP (fun i => Nat.testBit 0 (sr9 s x (i + 1) - 1)) n = 0 := fun n => by
    induction n with
    | zero => rfl
    | succ n ih => rw [laP_s, Nat.zero_testBit, if_neg Bool.false_ne_true]; exact ih
  exact this _
theorem kq_le {s : S9K} {K x : Nat} : kq s K x ≤ s.2.2.2.2.2.2.1 x := by rw [kq_la]; exact laP_le _
theorem ktQ_at {T : Nat} {s : S9K} {t y : Nat} (ht : t < T) (hy : y < 4) : ktQ T s t y = kq s (s.2.2.2.2.2.2.2.1 t) y := if_pos ⟨ht, hy⟩
theorem ktQ_out {T : Nat} {s : S9K} {t y : Nat} (h : ¬ (t < T ∧ y < 4)) : ktQ T s t y = 0 := if_neg h
theorem enP_at {pg : Nat → Nat → Nat} {s : S9K} {q y : Nat} (hy : y < 4) : (enP pg s q).2.2 y = kq s (s.2.2.2.2.2.2.2.2 q) y := cutN_at (f := fun y => kq s (s.2.2.2.2.2.2.2.2 q) y) hy
theorem enP_out {pg : Nat → Nat → Nat} {s : S9K} {q y : Nat} (hy : ¬ y < 4) : (enP pg s q).2.2 y = 0 := if_neg hy
theorem enP_0 {pg : Nat → Nat → Nat} {s : S9K} (h : s.2.2.2.2.2.2.2.2 0 = 0) : enP pg s 0 = e0K := by
  refine Prod.ext ?_ (Prod.ext ?_ ?_)
  · show (if 0 = 0 ∨ pg 4 (0 - 1) = 4 then 0 else s.2.2.2.2.1 0) = 0
    exact if_pos (Or.inl rfl)
  · show (if 0 ≠ 0 ∧ (pg 4 (0 - 1) = 3 ∨ pg 4 (0 - 1) = 4) then 1 else 0) = 0
    exact if_neg (fun q => q.1 rfl)
  funext y
  by_cases hy : y < 4
  · rw [enP_at hy, h, kq_0]; rfl
  · rw [enP_out hy]; rfl
theorem lnX_Q {T : Nat} {pg : Nat → Nat → Nat} {s : S9K} {x : Nat} (hx : x < 4) : lnX (abQ T pg s) x = s.2.2.2.2.2.2.1 x + 1 := by
  show (rowsQ pg s x).length = _
  unfold rowsQ; rw [if_pos hx, List.length_map, List.length_range]
theorem atK_Q {T : Nat} {pg : Nat → Nat → Nat} {s : S9K} {x q : Nat} (hx : x < 4) (hq : q < s.2.2.2.2.2.2.1 x + 1) : atK (abQ T pg s) x q = enP pg s (sr9 s x q) := by
  show (rowsQ pg s x).getD q e0K = _
  unfold rowsQ
  rw [if_pos hx, List.getD_eq_getElem?_getD, List.getElem?_map, List.getElem?_range hq]; rfl
theorem mxK_0 {f g : Nat → Nat} (h : ∀ y, g y = 0) : mxK f g = f := by
  funext y; unfold mxK; rw [h y, if_neg (Nat.not_lt_zero _)]
section PIC
variable {T Ac : Nat} {pg : Nat → Nat → Nat} {nm : Nat → Int32} {zs kd vx rr : Nat → Nat} {vv : Nat → Int32} {s : S9K} {t a s9 pc : Nat}
theorem plQ_N (hX : PX T Ac pg nm zs kd vx rr vv) (hI : IvQ T Ac pg nm s) (ht : t < T) (hq : s.2.2.1 t < pg 0 t) (ha : a = pg 1 (t * 7 + s.2.2.1 t)) : plQ T pg (tkC pg nm s a s9 pc) = updN (plQ T pg s) t (if pg 0 t < s.2.2.1 t + psP (pg 4 a) (s.2.2.2.1 (pg 6 a)) (nm a) (pg 5 a) then pg 0 t else s.2.2.1 t + psP (pg 4 a) (s.2.2.2.1 (pg 6 a)) (nm a) (pg 5 a)) := by
  obtain ⟨a1, a2, a3, a4, a5, a6⟩ := px_next hX hI.1 ht hq ha
  have hT := hX.1.1
  unfold plQ
  rw [← cutN_up (by omega)]
  refine cutN_cg (fun u hu => ?_)
  show (if u < T then (if pg 0 u < updN s.2.2.1 (pg 2 a) (s.2.2.1 (pg 2 a) + psP (pg 4 a) (s.2.2.2.1 (pg 6 a)) (nm a) (pg 5 a)) u then pg 0 u else updN s.2.2.1 (pg 2 a) (s.2.2.1 (pg 2 a) + psP (pg 4 a) (s.2.2.2.1 (pg 6 a)) (nm a) (pg 5 a)) u) else 0) = _
  rw [a3]
  by_cases e : u = t
  · rw [e, if_pos ht, updN_s, updN_s]
  · rw [updN_n e, updN_n e]
theorem reg_Q (hX : PX T Ac pg nm zs kd vx rr vv) (haA : a < Ac) : cutI 8 (tkC pg nm s a s9 pc).2.2.2.1 = if pg 4 a = 0 ∨ pg 4 a = 3 then upd (cutI 8 s.2.2.2.1) (pg 6 a) (s.2.2.2.2.1 s9) else cutI 8 s.2.2.2.1 := by
  have h6 := (hX.1.2.2.2.2.1 a haA).2.2.2.2.2
  show cutI 8 (rgP (pg 4 a) s.2.2.2.1 s.2.2.2.2.1 (pg 6 a) s9) = _
  unfold rgP
  by_cases k : pg 4 a = 0 ∨ pg 4 a = 3
  · rw [if_pos k, if_pos k, cutI_up h6]
  · rw [if_neg k, if_neg k]
/-- what a thread knows when it has learned -/
theorem kt_ln (haT : pg 2 a < T) (u y : Nat) : (if u = pg 2 a then (if u < T ∧ y < 4 then kq s (s.2.2.2.2.2.2.2.1 (pg 2 a) ||| s.2.2.2.2.2.2.2.2 s9) y else 0) else ktQ T s u y) = updF (ktQ T s) (pg 2 a) (mxK (ktQ T s (pg 2 a)) (enP pg s s9).2.2) u y := by
  by_cases e : u = pg 2 a
  · rw [if_pos e, e, updF_s]
    by_cases hy : y < 4
    · rw [if_pos ⟨haT, hy⟩, mxK_eq (ktQ_at haT hy) (enP_at hy), kq_or]
    · rw [if_neg (fun q => hy q.2), mxK_eq (ktQ_out (fun q => hy q.2)) (enP_out hy)]; rfl
  · rw [if_neg e, updF_n e]
/-- a READ or a SKIP -/
theorem abQ_rd (hX : PX T Ac pg nm zs kd vx rr vv) (hI : IvQ T Ac pg nm s) (ht : t < T) (hq : s.2.2.1 t < pg 0 t) (ha : a = pg 1 (t * 7 + s.2.2.1 t)) (hS : StK9 pg s a s9 0) : (abQ T pg (tkC pg nm s a s9 0)).2.2.1 = rowsQ pg s ∧ (abQ T pg (tkC pg nm s a s9 0)).2.2.2 = updF (ktQ T s) t (mxK (ktQ T s t) (enP pg s s9).2.2) := by
  obtain ⟨a1, a2, a3, a4, a5, a6⟩ := px_next hX hI.1 ht hq ha
  have hk := hS.1 rfl
  have ez : (tkC pg nm s a s9 0).2.2.2.2.2.2.1 = s.2.2.2.2.2.2.1 := by show zsT pg a 0 _ = _; unfold zsT; exact if_neg (Nat.lt_irrefl 0)
  have er : (tkC pg nm s a s9 0).2.2.2.2.2.1 = s.2.2.2.2.2.1 := by show rwT pg a 0 _ = _; unfold rwT; exact if_neg (Nat.lt_irrefl 0)
  have ec : (tkC pg nm s a s9 0).2.2.2.2.2.2.2.2 = s.2.2.2.2.2.2.2.2 := by show ctT pg a 0 s.2.2.2.2.2.2.2.1 s.2.2.2.2.2.2.2.2 s9 = _; unfold ctT; exact if_neg (Nat.lt_irrefl 0)
  have es : ∀ x p, sr9 (tkC pg nm s a s9 0) x p = sr9 s x p := fun x p => by unfold sr9; rw [er, ez]
  have ek : ∀ K x, kq (tkC pg nm s a s9 0) K x = kq s K x := fun K x => by unfold kq; rw [er, ez]
  have ev : (tkC pg nm s a s9 0).2.2.2.2.1 = s.2.2.2.2.1 := by
    show vlP _ _ _ _ _ _ _ = _
    unfold vlP
    rw [if_neg (by omega), if_neg (by omega), if_neg (by omega)]
  constructor
  · funext x
    show rowsQ pg (tkC pg nm s a s9 0) x = rowsQ pg s x
    unfold rowsQ enP
    rw [ez, ec, ev]
    by_cases hx : x < 4
    · rw [if_pos hx, if_pos hx]
      refine List.map_congr_left (fun p _ => ?_)
      rw [es]
      refine congrArg (fun z => (_, _, z)) (cutN_cg (fun y _ => ek _ y))
    · rw [if_neg hx, if_neg hx]
  · funext u y
    show ktQ T (tkC pg nm s a s9 0) u y = _
    rw [← a3, ← kt_ln (by rw [a3]; exact ht)]
    have el : (tkC pg nm s a s9 0).2.2.2.2.2.2.2.1 = updN s.2.2.2.2.2.2.2.1 (pg 2 a) (s.2.2.2.2.2.2.2.1 (pg 2 a) ||| s.2.2.2.2.2.2.2.2 s9) := by
      show leT pg a 0 _ _ s9 = _
      unfold leT; exact if_neg (Nat.lt_irrefl 0)
    unfold ktQ
    rw [el, ek]
    by_cases e : u = pg 2 a
    · rw [if_pos e, e, updN_s]
    · rw [if_neg e, updN_n e]
/-- one comes to a row -/
theorem abQ_wr (hX : PX T Ac pg nm zs kd vx rr vv) (hI : IvQ T Ac pg nm s) (ht : t < T) (hq : s.2.2.1 t < pg 0 t) (ha : a = pg 1 (t * 7 + s.2.2.1 t)) (hS : StK9 pg s a s9 pc) (hp : 0 < pc) {P : Nat → Nat} {R : Nat → Int32} {v : Int32} {an : Nat}
    (hv : v = if pg 4 a = 4 then 0 else (tkC pg nm s a s9 pc).2.2.2.2.1 (a + 1)) (han : an = if pg 4 a = 3 ∨ pg 4 a = 4 then 1 else 0) (hP : plQ T pg (tkC pg nm s a s9 pc) = P) (hR : cutI 8 (tkC pg nm s a s9 pc).2.2.2.1 = R) :
    abQ T pg (tkC pg nm s a s9 pc) = putA (P, R, rowsQ pg s, updF (ktQ T s) t (mxK (ktQ T s t) (enP pg s s9).2.2)) t (rowN pg a) pc v an := by
  obtain ⟨a1, a2, a3, a4, a5, a6⟩ := px_next hX hI.1 ht hq ha
  obtain ⟨k1, k4, kz, kk, kad⟩ := hS.2.1 hp
  obtain ⟨w1, w2⟩ := st_src hX hI a2 hS
  have r4 := row_4 hX a2
  obtain ⟨z1, s1, s2, q1, q2, q3⟩ := put_rows hX hI ht hq ha hS hp
  obtain ⟨-, -, -, -, -, m6, -⟩ := st_com hX hI ht hq ha hS
  have hI0 := hI
  obtain ⟨j1, j2, j3, j4, j5, j6, j7, j8, j9, j10, j11, j12, j13, j14, j15, -⟩ := hI
  have ca : (tkC pg nm s a s9 pc).2.2.2.2.2.2.2.2 (a + 1) = s.2.2.2.2.2.2.2.1 (pg 2 a) ||| s.2.2.2.2.2.2.2.2 s9 ||| 2 ^ a := by
    show ctT pg a pc s.2.2.2.2.2.2.2.1 s.2.2.2.2.2.2.2.2 s9 (a + 1) = _
    unfold ctT; rw [if_pos hp, updN_s]
  have el : (tkC pg nm s a s9 pc).2.2.2.2.2.2.2.1 = updN s.2.2.2.2.2.2.2.1 (pg 2 a) (s.2.2.2.2.2.2.2.1 (pg 2 a) ||| s.2.2.2.2.2.2.2.2 s9 ||| 2 ^ a) := by
    show leT pg a pc _ _ s9 = _
    unfold leT; exact if_pos hp
  have ctna : ∀ q, wrT pg s.1 q → (s.2.2.2.2.2.2.2.2 q).testBit a = false := fun q hq2 => by
    cases z : (s.2.2.2.2.2.2.2.2 q).testBit a with
    | false => rfl
    | true => have := j8 q a hq2 z; rw [a5] at this; exact absurd this Bool.false_ne_true
  have lena : ∀ u, u < T → (s.2.2.2.2.2.2.2.1 u).testBit a = false := fun u hu => by
    cases z : (s.2.2.2.2.2.2.2.1 u).testBit a with
    | false => rfl
    | true => have := j7 _ a hu z; rw [a5] at this; exact absurd this Bool.false_ne_true
  have old : ∀ x p, x < 4 → 1 ≤ p → p ≤ s.2.2.2.2.2.2.1 x → sr9 s x p - 1 ≠ a := fun x p hx h1 h2 e => by
    have y3 := (row_in hI0 hx h1 h2).2.2.1
    rw [e, a5] at y3; exact Bool.false_ne_true y3
  have knoa : ∀ K y, y < 4 → kq s (K ||| 2 ^ a) y = kq s K y := fun K y hy => by
    rw [kq_la, kq_la]
    refine laP_cgn _ (fun i hi => ?_)
    have := old y (i + 1) hy (by omega) (by omega)
    rw [Nat.testBit_or, Nat.testBit_two_pow, decide_eq_false (fun q => this q.symm), Bool.or_false]
  -- an old set's places
  have kold : ∀ K, K.testBit a = false → ∀ y, y < 4 → kq (tkC pg nm s a s9 pc) K y = shP (rowN pg a) pc (fun y => kq s K y) y := fun K hK y hy => by
    show _ = if y = rowN pg a ∧ pc ≤ kq s K y then kq s K y + 1 else kq s K y
    by_cases e : y = rowN pg a
    · rw [e, q2 K hK]
      by_cases z : pc ≤ kq s K (rowN pg a)
      · rw [if_pos z, if_pos ⟨rfl, z⟩]
      · rw [if_neg z, if_neg (fun w => z w.2)]
    · rw [if_neg (fun w => e w.1), q1 K y e]
  -- the new set's places
  have knew : ∀ y, y < 4 → kq (tkC pg nm s a s9 pc) (s.2.2.2.2.2.2.2.1 (pg 2 a) ||| s.2.2.2.2.2.2.2.2 s9 ||| 2 ^ a) y = updN (shP (rowN pg a) pc (mxK (ktQ T s t) (enP pg s s9).2.2)) (rowN pg a) pc y := fun y hy => by
    by_cases e : y = rowN pg a
    · rw [e, updN_s]
      exact q3 _ (by rw [Nat.testBit_or, Nat.testBit_two_pow, decide_eq_true rfl, Bool.or_true]) (by rw [knoa _ _ r4]; exact kk)
    · rw [updN_n e, shP_x e, q1 _ y e, knoa _ y hy, mxK_eq (ktQ_at ht hy) (enP_at hy), kq_or, a3]
  have cvo : ∀ q, wrT pg s.1 q → (q = 0 ∨ pg 4 (q - 1) = 4) ∨ (tkC pg nm s a s9 pc).2.2.2.2.1 q = s.2.2.2.2.1 q := fun q hq2 => by
    rcases hq2 with z | ⟨y1, y2, y3, y4⟩
    · exact Or.inl (Or.inl z)
    · by_cases k : pg 4 (q - 1) = 4
      · exact Or.inl (Or.inr k)
      · exact Or.inr (vlP_bk (Or.inr ⟨y1, y2, y3, by omega⟩) a5)
  have eno : ∀ q, wrT pg s.1 q → enP pg (tkC pg nm s a s9 pc) q = shE (rowN pg a) pc (enP pg s q) := fun q hq2 => by
    refine Prod.ext ?_ (Prod.ext rfl ?_)
    · show (if q = 0 ∨ pg 4 (q - 1) = 4 then 0 else (tkC pg nm s a s9 pc).2.2.2.2.1 q) = (if q = 0 ∨ pg 4 (q - 1) = 4 then 0 else s.2.2.2.2.1 q)
      rcases cvo q hq2 with z | z
      · rw [if_pos z, if_pos z]
      · rw [z]
    · funext y
      show (enP pg (tkC pg nm s a s9 pc) q).2.2 y = shP (rowN pg a) pc (enP pg s q).2.2 y
      by_cases hy : y < 4
      · rw [enP_at hy, m6 q hq2, kold _ (ctna q hq2) y hy]
        unfold shP
        rw [enP_at hy]
      · rw [enP_out hy, shP_x (by omega), enP_out hy]
  have enn : enP pg (tkC pg nm s a s9 pc) (a + 1) = (v, an, updN (shP (rowN pg a) pc (mxK (ktQ T s t) (enP pg s s9).2.2)) (rowN pg a) pc) := by
    refine Prod.ext ?_ (Prod.ext ?_ ?_)
    · show (if a + 1 = 0 ∨ pg 4 (a + 1 - 1) = 4 then 0 else (tkC pg nm s a s9 pc).2.2.2.2.1 (a + 1)) = v
      rw [hv, Nat.add_sub_cancel]
      by_cases k : pg 4 a = 4
      · rw [if_pos (Or.inr k), if_pos k]
      · rw [if_neg (by omega), if_neg k]
    · show (if a + 1 ≠ 0 ∧ (pg 4 (a + 1 - 1) = 3 ∨ pg 4 (a + 1 - 1) = 4) then 1 else 0) = an
      rw [han, Nat.add_sub_cancel]
      by_cases k : pg 4 a = 3 ∨ pg 4 a = 4
      · rw [if_pos ⟨Nat.succ_ne_zero a, k⟩, if_pos k]
      · rw [if_neg (fun z => k z.2), if_neg k]
    · funext y
      show (enP pg (tkC pg nm s a s9 pc) (a + 1)).2.2 y = updN (shP (rowN pg a) pc (mxK (ktQ T s t) (enP pg s s9).2.2)) (rowN pg a) pc y
      by_cases hy : y < 4
      · rw [enP_at hy, ca, knew y hy]
      · rw [enP_out hy, updN_n (by omega), shP_x (by omega), mxK_eq (ktQ_out (fun q => hy q.2)) (enP_out hy)]; rfl
  have hnw : nwK (P, R, rowsQ pg s, updF (ktQ T s) t (mxK (ktQ T s t) (enP pg s s9).2.2)) t (rowN pg a) pc = updN (shP (rowN pg a) pc (mxK (ktQ T s t) (enP pg s s9).2.2)) (rowN pg a) pc := by
    show updN (shP (rowN pg a) pc (updF (ktQ T s) t (mxK (ktQ T s t) (enP pg s s9).2.2) t)) (rowN pg a) pc = _
    rw [updF_s]
  refine Prod.ext hP (Prod.ext hR (Prod.ext ?_ ?_))
  · funext y
    show rowsQ pg (tkC pg nm s a s9 pc) y = if y = rowN pg a then ((rowsQ pg s (rowN pg a)).map (shE (rowN pg a) pc)).take pc ++ (v, an, nwK (P, R, rowsQ pg s, updF (ktQ T s) t (mxK (ktQ T s t) (enP pg s s9).2.2)) t (rowN pg a) pc) :: ((rowsQ pg s (rowN pg a)).map (shE (rowN pg a) pc)).drop pc else (rowsQ pg s y).map (shE (rowN pg a) pc)
    rw [hnw]
    by_cases e : y = rowN pg a
    · rw [if_pos e, e]
      unfold rowsQ
      rw [if_pos r4, if_pos r4, z1, if_pos rfl]
      obtain ⟨t1, t2⟩ := tk_map (f := fun p => enP pg s (sr9 s (rowN pg a) p)) (g := shE (rowN pg a) pc) (pc := pc) (z := s.2.2.2.2.2.2.1 (rowN pg a) + 1) kz
      rw [t1, t2]
      have sp := map_split (fun p => enP pg (tkC pg nm s a s9 pc) (sr9 (tkC pg nm s a s9 pc) (rowN pg a) p)) pc (1 + (s.2.2.2.2.2.2.1 (rowN pg a) + 1 - pc))
      rw [(by omega : pc + (1 + (s.2.2.2.2.2.2.1 (rowN pg a) + 1 - pc)) = s.2.2.2.2.2.2.1 (rowN pg a) + 1 + 1), map_split _ 1 (s.2.2.2.2.2.2.1 (rowN pg a) + 1 - pc)] at sp
      rw [sp]
      refine congr (congrArg _ (List.map_congr_left (fun p hp2 => ?_))) ?_
      · have hp2 := List.mem_range.mp hp2
        have e2 : sr9 (tkC pg nm s a s9 pc) (rowN pg a) p = sr9 s (rowN pg a) p := by
          by_cases z : p = 0
          · rw [z, sr9_0, sr9_0]
          · rw [s2 p (by omega) (by omega), if_pos hp2]
        rw [e2, eno _ (row_wr hI0 r4 (by omega))]
      · show [enP pg (tkC pg nm s a s9 pc) (sr9 (tkC pg nm s a s9 pc) (rowN pg a) (pc + 0))] ++ (List.range (s.2.2.2.2.2.2.1 (rowN pg a) + 1 - pc)).map (fun i => enP pg (tkC pg nm s a s9 pc) (sr9 (tkC pg nm s a s9 pc) (rowN pg a) (pc + (1 + i)))) = _
        rw [Nat.add_zero, s2 pc hp kz, if_neg (Nat.lt_irrefl pc), if_pos rfl, enn]
        refine congrArg (fun z => (v, an, updN (shP (rowN pg a) pc (mxK (ktQ T s t) (enP pg s s9).2.2)) (rowN pg a) pc) :: z) (List.map_congr_left (fun i hi => ?_))
        have hi := List.mem_range.mp hi
        rw [s2 _ (by omega) (by omega), if_neg (by omega), if_neg (by omega), (by omega : pc + (1 + i) - 1 = pc + i), eno _ (row_wr hI0 r4 (by omega))]
    · rw [if_neg e]
      unfold rowsQ
      by_cases hy : y < 4
      · rw [if_pos hy, if_pos hy, z1, if_neg e, List.map_map]
        refine List.map_congr_left (fun p hp2 => ?_)
        have hp2 := List.mem_range.mp hp2
        rw [s1 y p e, eno _ (row_wr hI0 hy (by omega))]; rfl
      · rw [if_neg hy, if_neg hy]; rfl
  · funext u y
    show ktQ T (tkC pg nm s a s9 pc) u y = (if u = t then nwK (P, R, rowsQ pg s, updF (ktQ T s) t (mxK (ktQ T s t) (enP pg s s9).2.2)) t (rowN pg a) pc else shP (rowN pg a) pc (updF (ktQ T s) t (mxK (ktQ T s t) (enP pg s s9).2.2) u)) y
    rw [hnw]
    by_cases e : u = t
    · rw [if_pos e, e]
      by_cases hy : y < 4
      · rw [ktQ_at ht hy, el, a3, updN_s, ← knew y hy, a3]
      · rw [ktQ_out (fun q => hy q.2), updN_n (by omega), shP_x (by omega), mxK_eq (ktQ_out (fun q => hy q.2)) (enP_out hy)]; rfl
    · rw [if_neg e, updF_n e]
      by_cases q : u < T ∧ y < 4
      · rw [ktQ_at q.1 q.2, el, updN_n (by rw [a3]; exact e), kold _ (lena u q.1) y q.2]
        unfold shP
        rw [ktQ_at q.1 q.2]
      · rw [ktQ_out q]
        unfold shP
        rw [ktQ_out q, if_neg (fun z => absurd z.2 (by omega))]
end PIC
