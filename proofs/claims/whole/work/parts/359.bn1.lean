def wMk (pg : Nat → Nat → Nat) : Nat := pg 9 1 ||| pg 9 2 ||| pg 9 3
def rdX (W a : Nat) : Nat := if W.testBit a then 3 + pop7 (W % 2 ^ a) else 2 + pop7 W
theorem prX : ∀ W, W < 128 → prR (rdX W) 7 ≤ 181440 := by decide +kernel
theorem pop_lt : ∀ m, m < 128 → ∀ b, b < 7 → m.testBit b = true → pop7 (m % 2 ^ b) < pop7 m := by decide +kernel
theorem pop_in0 : ∀ m, m < 128 → ∀ b, b < 7 → ∀ d, d < 7 → (m.testBit b = true ∧ m.testBit d = true ∧ pop7 (m % 2 ^ b) = pop7 (m % 2 ^ d)) → b = d := by decide +kernel
theorem pop_in (m : Nat) (hm : m < 128) (b : Nat) (hb : b < 7) (d : Nat) (hd : d < 7) (h1 : m.testBit b = true) (h2 : m.testBit d = true) (h3 : pop7 (m % 2 ^ b) = pop7 (m % 2 ^ d)) : b = d := pop_in0 m hm b hb d hd ⟨h1, h2, h3⟩
theorem nd_pop {m : Nat} {L : List Nat} (hm : m < 128) (hn : L.Nodup) (h : ∀ b, b ∈ L → m.testBit b = true) : L.length ≤ pop7 m :=
  code_len (code := fun b => pop7 (m % 2 ^ b)) hn (fun b hb => pop_lt m hm b (bit_hi hm (h b hb)) (h b hb)) (fun b d hb hd e => pop_in m hm b (bit_hi hm (h b hb)) d (bit_hi hm (h d hd)) (h b hb) (h d hd) e)
theorem bit_mod {m a b : Nat} (h : m.testBit b = true) (hb : b < a) : (m % 2 ^ a).testBit b = true := by
  rw [Nat.testBit_mod_two_pow, decide_eq_true hb, h]; rfl
theorem smB_pop {m a : Nat} {L : List Nat} (hm : m < 128) (hn : L.Nodup) (h : ∀ b, b ∈ L → m.testBit b = true) : smB a L ≤ pop7 (m % 2 ^ a) := by
  refine Nat.le_trans (smB_le L) (nd_pop (Nat.lt_of_le_of_lt (Nat.mod_le _ _) hm) (hn.sublist List.filter_sublist) (fun b hb => ?_))
  obtain ⟨q1, q2⟩ := List.mem_filter.mp hb
  exact bit_mod (h b q1) (of_decide_eq_true q2)
/-- a state's digits -/
def dK (pg : Nat → Nat → Nat) (s : S7) (G : Nat → List Nat) (a : Nat) : Nat :=
  if s.1.testBit a = false then 0 else if (wMk pg).testBit a = true then (if s.2.2.2.2.2.2.testBit a = true then 1 else 2 + smB a (G (pg 5 a))) else if pg 4 a = 0 then (if sA s.2.1 a = 0 then 1 else 2 + pop7 (wMk pg % 2 ^ (sA s.2.1 a - 1))) else 1
section BNS
variable {md T Ac : Nat} {pg : Nat → Nat → Nat} {nm : Nat → Int32} {zs kd vx rr : Nat → Nat} {vv : Nat → Int32} {s : S7} {G : Nat → List Nat}
theorem wM_bit (hX : PX T Ac pg nm zs kd vx rr vv) (a : Nat) : (wMk pg).testBit a = true ↔ a < Ac ∧ 1 ≤ pg 4 a ∧ pg 4 a ≤ 3 := by
  have p10 := hX.1.2.2.2.2.2.2.2.2.2.1
  unfold wMk
  rw [Nat.testBit_or, Nat.testBit_or, Bool.or_eq_true, Bool.or_eq_true, p10 1 a (by omega), p10 2 a (by omega), p10 3 a (by omega)]
  omega
theorem wM_lt (hX : PX T Ac pg nm zs kd vx rr vv) : wMk pg < 128 := by
  have p7 := hX.1.2.2.2.2.2.2.1
  exact Nat.or_lt_two_pow (n := 7) (Nat.or_lt_two_pow (n := 7) (p7 1) (p7 2)) (p7 3)
theorem dK_lt (hX : PX T Ac pg nm zs kd vx rr vv) (hI : IvC md T Ac pg nm s) (hG : GO pg s G) {a : Nat} : dK pg s G a < rdX (wMk pg) a := by
  have hW := wM_lt hX
  unfold dK rdX
  by_cases d : s.1.testBit a = false
  · rw [if_pos d]; split <;> omega
  · have d1 : s.1.testBit a = true := by simpa using d
    rw [if_neg d]
    obtain ⟨c1, -⟩ := hI.1.2.1 a d1
    by_cases w : (wMk pg).testBit a = true
    · rw [if_pos w, if_pos w]
      by_cases h : s.2.2.2.2.2.2.testBit a = true
      · rw [if_pos h]; omega
      · rw [if_neg h]
        have hk := (wM_bit hX a).mp w
        have hx : pg 5 a < 3 := (hX.1.2.2.2.2.1 a c1).2.2.2.1 (by omega)
        obtain ⟨k1, k2, -⟩ := hG.1 _ hx
        have := smB_pop (m := wMk pg) (a := a) hW k1 (fun b hb => by
          obtain ⟨q1, q2, q3, -⟩ := (k2 b).mp hb
          exact (wM_bit hX b).mpr ⟨(hI.1.2.1 b q1).1, q2, q3⟩)
        omega
    · rw [if_neg w, if_neg w]
      by_cases k0 : pg 4 a = 0
      · rw [if_pos k0]
        by_cases z : sA s.2.1 a = 0
        · rw [if_pos z]; omega
        · rw [if_neg z]
          rcases hI.1.2.2.2.2.2.2.2.1 a d1 (Or.inl k0) with y | ⟨y1, y2, y3, y4⟩
          · exact absurd y z
          · have := pop_lt (wMk pg) hW (sA s.2.1 a - 1) (by omega) ((wM_bit hX _).mpr ⟨(hI.1.2.1 _ y2).1, y3, y4⟩)
            omega
      · rw [if_neg k0]; omega
theorem mm_dig {m n : Nat} (hm : m < 512) (hn : n < 512) (h : ∀ x, x < 3 → srcM m x = srcM n x) : m = n := by
  have h0 : m / 8 ^ 0 % 8 = n / 8 ^ 0 % 8 := h 0 (by omega)
  have h1 : m / 8 ^ 1 % 8 = n / 8 ^ 1 % 8 := h 1 (by omega)
  have h2 : m / 8 ^ 2 % 8 = n / 8 ^ 2 % 8 := h 2 (by omega)
  simp only [Nat.reducePow] at h0 h1 h2
  omega
theorem so_dig {so so2 : Int64} (a1 : so = lN (sn so)) (a2 : sn so < 2 ^ 21) (b1 : so2 = lN (sn so2)) (b2 : sn so2 < 2 ^ 21) (h : ∀ a, a < 7 → sA so a = sA so2 a) : so = so2 := by
  have h0 : sn so / 8 ^ 0 % 8 = sn so2 / 8 ^ 0 % 8 := h 0 (by omega)
  have h1 : sn so / 8 ^ 1 % 8 = sn so2 / 8 ^ 1 % 8 := h 1 (by omega)
  have h2 : sn so / 8 ^ 2 % 8 = sn so2 / 8 ^ 2 % 8 := h 2 (by omega)
  have h3 : sn so / 8 ^ 3 % 8 = sn so2 / 8 ^ 3 % 8 := h 3 (by omega)
  have h4 : sn so / 8 ^ 4 % 8 = sn so2 / 8 ^ 4 % 8 := h 4 (by omega)
  have h5 : sn so / 8 ^ 5 % 8 = sn so2 / 8 ^ 5 % 8 := h 5 (by omega)
  have h6 : sn so / 8 ^ 6 % 8 = sn so2 / 8 ^ 6 % 8 := h 6 (by omega)
  simp only [Nat.reducePow] at h0 h1 h2 h3 h4 h5 h6
  have e : sn so = sn so2 := by omega
  rw [a1, b1, e]
theorem bits_eq {m n : Nat} (hm : m < 128) (hn : n < 128) (h : ∀ a, a < 7 → m.testBit a = n.testBit a) : m = n := by
  refine Nat.eq_of_testBit_eq (fun a => ?_)
  by_cases c : a < 7
  · exact h a c
  · have : ∀ k, k < 128 → k.testBit a = false := fun k hk => by
      cases q : k.testBit a with
      | false => rfl
      | true => exact absurd (bit_hi hk q) c
    rw [this m hm, this n hn]
/-- the digits tell the state's key -/
theorem dK_inj {s2 : S7} {G2 : Nat → List Nat} (hX : PX T Ac pg nm zs kd vx rr vv) (hI : IvC md T Ac pg nm s) (hG : GO pg s G) (hJ : IvC md T Ac pg nm s2) (hH : GO pg s2 G2) (h : ∀ a, a < 7 → dK pg s G a = dK pg s2 G2 a) :
    s.2.1 = s2.2.1 ∧ s.1 = s2.1 ∧ s.2.2.2.2.2.1 = s2.2.2.2.2.2.1 ∧ s.2.2.2.2.2.2 = s2.2.2.2.2.2.2 := by
  have hW := wM_lt hX
  have z0 : ∀ (s : S7) G a, dK pg s G a = 0 ↔ s.1.testBit a = false := fun s G a => by
    unfold dK
    by_cases d : s.1.testBit a = false
    · rw [if_pos d]; exact ⟨fun _ => d, fun _ => rfl⟩
    · rw [if_neg d]
      refine ⟨fun q => ?_, fun q => absurd q d⟩
      split at q
      · split at q <;> omega
      · split at q
        · split at q <;> omega
        · omega
  have e1 : s.1 = s2.1 := bits_eq hI.1.1 hJ.1.1 (fun a ha => by
    have := h a ha
    have q1 := z0 s G a
    have q2 := z0 s2 G2 a
    rw [this] at q1
    cases y : s.1.testBit a with
    | false => rw [q2.mp (q1.mpr y)]
    | true =>
      cases y2 : s2.1.testBit a with
      | true => rfl
      | false => rw [q1.mp (q2.mpr y2)] at y; exact y.symm)
  have hd : ∀ (s : S7) G a, IvC md T Ac pg nm s → s.1.testBit a = true → (wMk pg).testBit a = true → (dK pg s G a = 1 ↔ s.2.2.2.2.2.2.testBit a = true) := fun s G a _ d w => by
    unfold dK
    rw [if_neg (by rw [d]; decide), if_pos w]
    by_cases q : s.2.2.2.2.2.2.testBit a = true
    · rw [if_pos q]; exact ⟨fun _ => q, fun _ => rfl⟩
    · rw [if_neg q]; exact ⟨fun z => by omega, fun z => absurd z q⟩
  have hb : ∀ a, s.2.2.2.2.2.2.testBit a = true → s2.2.2.2.2.2.2.testBit a = true := fun a q => by
    obtain ⟨w1, w2, w3, w4⟩ := held_wr hI q
    have w := (wM_bit hX a).mpr ⟨w3, by omega, by omega⟩
    have := (hd s G a hI w2 w).mpr q
    rw [h a (bit_hi hI.1.1 w2)] at this
    exact (hd s2 G2 a hJ (by rw [← e1]; exact w2) w).mp this
  have hb2 : ∀ a, s2.2.2.2.2.2.2.testBit a = true → s.2.2.2.2.2.2.testBit a = true := fun a q => by
    obtain ⟨w1, w2, w3, w4⟩ := held_wr hJ q
    have w := (wM_bit hX a).mpr ⟨w3, by omega, by omega⟩
    have := (hd s2 G2 a hJ w2 w).mpr q
    rw [← h a (bit_hi hJ.1.1 w2)] at this
    exact (hd s G a hI (by rw [e1]; exact w2) w).mp this
  have e4 : s.2.2.2.2.2.2 = s2.2.2.2.2.2.2 := Nat.eq_of_testBit_eq (fun a => by
    cases y : s.2.2.2.2.2.2.testBit a with
    | true => rw [hb a y]
    | false =>
      cases y2 : s2.2.2.2.2.2.2.testBit a with
      | false => rfl
      | true => rw [hb2 a y2] at y; exact y.symm)
  have eG : ∀ x, x < 3 → G x = G2 x := fun x hx => by
    obtain ⟨k1, k2, -⟩ := hG.1 x hx
    obtain ⟨j1, j2, -⟩ := hH.1 x hx
    refine smB_inj _ _ k1 j1 (fun a => ?_) (fun a ha => ?_)
    · rw [k2 a, j2 a, e1, e4]
    · obtain ⟨q1, q2, q3, q4, q5⟩ := (k2 a).mp ha
      have w := (wM_bit hX a).mpr ⟨(hI.1.2.1 a q1).1, q2, q3⟩
      have := h a (bit_hi hI.1.1 q1)
      unfold dK at this
      have n1 : ¬ s.1.testBit a = false := by rw [q1]; decide
      have n2 : ¬ s.2.2.2.2.2.2.testBit a = true := by rw [q5]; decide
      rw [← e1, ← e4, if_neg n1, if_neg n1, if_pos w, if_pos w, if_neg n2, if_neg n2, q4] at this
      omega
  refine ⟨so_dig hI.1.2.2.2.1 hI.1.2.2.2.2.1 hJ.1.2.2.2.1 hJ.1.2.2.2.2.1 (fun a ha => ?_), e1, mm_dig hI.2.2.1 hJ.2.2.1 (fun x hx => by rw [(hG.1 x hx).2.2.1, (hH.1 x hx).2.2.1, eG x hx]), e4⟩
  cases d : s.1.testBit a with
  | false => rw [hI.1.2.2.2.2.2.1 a ha d, hJ.1.2.2.2.2.2.1 a ha (by rw [← e1]; exact d)]
  | true =>
    have d2 : s2.1.testBit a = true := by rw [← e1]; exact d
    obtain ⟨c1, -⟩ := hI.1.2.1 a d
    by_cases k3 : pg 4 a = 3
    · have hx : pg 5 a < 3 := (hX.1.2.2.2.2.1 a c1).2.2.2.1 (by omega)
      have nh : ∀ (s : S7), IvC md T Ac pg nm s → s.2.2.2.2.2.2.testBit a = false := fun s hI => by
        cases q : s.2.2.2.2.2.2.testBit a with
        | false => rfl
        | true => have := (held_wr hI q).2.2.2; omega
      rw [(hG.1 _ hx).2.2.2.2 a (((hG.1 _ hx).2.1 a).mpr ⟨d, by omega, by omega, rfl, nh s hI⟩) k3, (hH.1 _ hx).2.2.2.2 a (((hH.1 _ hx).2.1 a).mpr ⟨d2, by omega, by omega, rfl, nh s2 hJ⟩) k3, eG _ hx]
    · by_cases k0 : pg 4 a = 0
      · have w : ¬ (wMk pg).testBit a = true := fun q => by have := (wM_bit hX a).mp q; omega
        have := h a ha
        unfold dK at this
        have n1 : ¬ s.1.testBit a = false := by rw [d]; decide
        have n2 : ¬ s2.1.testBit a = false := by rw [d2]; decide
        rw [if_neg n1, if_neg n2, if_neg w, if_neg w, if_pos k0, if_pos k0] at this
        have hs : ∀ (s : S7), IvC md T Ac pg nm s → s.1.testBit a = true → sA s.2.1 a ≠ 0 → sA s.2.1 a - 1 < 7 ∧ (wMk pg).testBit (sA s.2.1 a - 1) = true := fun s hI d z => by
          rcases hI.1.2.2.2.2.2.2.2.1 a d (Or.inl k0) with y | ⟨y1, y2, y3, y4⟩
          · exact absurd y z
          · exact ⟨by omega, (wM_bit hX _).mpr ⟨(hI.1.2.1 _ y2).1, y3, y4⟩⟩
        by_cases y1 : sA s.2.1 a = 0
        · by_cases y2 : sA s2.2.1 a = 0
          · rw [y1, y2]
          · rw [if_pos y1, if_neg y2] at this; omega
        · by_cases y2 : sA s2.2.1 a = 0
          · rw [if_neg y1, if_pos y2] at this; omega
          · rw [if_neg y1, if_neg y2] at this
            obtain ⟨r1, r2⟩ := hs s hI d y1
            obtain ⟨r3, r4⟩ := hs s2 hJ d2 y2
            have := pop_in (wMk pg) hW _ r1 _ r3 r2 r4 (by omega)
            omega
      · rw [hG.2.1 a ha (by omega), hH.2.1 a ha (by omega)]
end BNS
theorem mdf_inv {S G : Type} {kn : G → S → Bool} {pre : S → G → G} {nx : S → List (Int32 × S)} {fin : S → List Int32 → G → G} {Iv : S → Prop} {P : G → Prop} (h1 : ∀ s g, Iv s → kn g s = false → P g → P (pre s g)) (h2 : ∀ s p g, Iv s → nx s = [] → P g → P (fin s p g)) (h3 : ∀ s k, Iv s → k ∈ nx s → Iv k.2) :
    ∀ n s p g, Iv s → P g → P (mdf kn pre nx fin n s p g)
  | 0, _, _, _, _, h => h
  | n + 1, s, p, g, hI, h => by
    rw [mdf]
    by_cases a : kn g s = true
    · rw [if_pos a]; exact h
    · rw [if_neg a]
      have hp := h1 s g hI (by simpa using a) h
      by_cases b : (nx s).isEmpty = true
      · rw [if_pos b]; exact h2 s p _ hI (List.isEmpty_iff.mp b) hp
      · rw [if_neg b]
        have f : ∀ (l : List (Int32 × S)) (g : G), (∀ k, k ∈ l → Iv k.2) → P g → P (l.foldl (fun g k => mdf kn pre nx fin n k.2 (p ++ [k.1]) g) g) := fun l => by
          induction l with
          | nil => intro g _ hg; exact hg
          | cons k l ih => intro g hl hg; exact ih _ (fun k hk => hl k (List.mem_cons_of_mem _ hk)) (mdf_inv h1 h2 h3 n k.2 _ g (hl k (List.mem_cons_self ..)) hg)
        exact f _ _ (fun k hk => h3 s k hI hk) hp
theorem code_rel {A : Type} {L : List A} {R : A → Nat → Prop} {B : Nat} (hn : L.Nodup) (h1 : ∀ x, x ∈ L → ∃ n, n < B ∧ R x n) (h2 : ∀ x y n, R x n → R y n → x = y) : L.length ≤ B := by
  refine code_len (code := fun x => @dite _ (∃ n, n < B ∧ R x n) (Classical.propDecidable _) (fun h => Classical.choose h) (fun _ => 0)) hn (fun x hx => ?_) (fun x y hx hy e => ?_)
  · have h := h1 x hx
    rw [dif_pos h]
    exact (Classical.choose_spec h).1
  · have h := h1 x hx
    have g := h1 y hy
    rw [dif_pos h, dif_pos g] at e
    refine h2 x y _ (Classical.choose_spec h).2 ?_
    rw [e]; exact (Classical.choose_spec g).2
section BNT
variable {E md T Ac : Nat} {pg : Nat → Nat → Nat} {nm : Nat → Int32} {zs kd vx rr : Nat → Nat} {vv : Nat → Int32}
theorem GO_ch (hX : PX T Ac pg nm zs kd vx rr vv) (hmd : md < 3) {s : S7} {k : Int32 × S7} (hI : IvC md T Ac pg nm s) (hG : ∃ G, GO pg s G) (h : k ∈ nxC pg nm md T s) : ∃ G, GO pg k.2 G := by
  obtain ⟨G, hG⟩ := hG
  unfold nxC at h
  obtain ⟨t, ht, h⟩ := List.mem_flatMap.mp h
  have ht := List.mem_range.mp ht
  have h3 := hI.2.2.2.1
  have hl : ∀ w num, (∀ b, w.testBit b = true → s.2.2.2.2.2.2.testBit b = true) → w < 128 → (∀ a b, w.testBit a = true → s.2.2.2.2.2.2.testBit b = true → pg 2 b = pg 2 a → pg 5 b = pg 5 a → w.testBit b = true) → k ∈ lL pg s w num → ∃ G, GO pg k.2 G := fun w num q1 q2 q4 q3 => by
    unfold lL at q3
    by_cases z : w = 0
    · rw [if_pos z] at q3; exact absurd q3 (List.not_mem_nil)
    · rw [if_neg z] at q3
      rw [List.mem_singleton.mp q3]
      exact GO_L hX hI hG z q2 q1 (fun b => q4 _ b (lo9_in w q2 z).2)
  have hb : ∀ x b, (s.2.2.2.2.2.2 &&& x).testBit b = true → s.2.2.2.2.2.2.testBit b = true := fun x b q => by
    rw [Nat.testBit_and, Bool.and_eq_true] at q; exact q.1
  have hb2 : ∀ x y b, (s.2.2.2.2.2.2 &&& x &&& y).testBit b = true → s.2.2.2.2.2.2.testBit b = true := fun x y b q => by
    rw [Nat.testBit_and, Bool.and_eq_true] at q; exact hb x b q.1
  have p9 := hX.1.2.2.2.2.2.2.2.2.1
  have p11 := hX.1.2.2.2.2.2.2.2.2.2.2
  have hc1 : ∀ a b, (s.2.2.2.2.2.2 &&& pg 8 t).testBit a = true → s.2.2.2.2.2.2.testBit b = true → pg 2 b = pg 2 a → pg 5 b = pg 5 a → (s.2.2.2.2.2.2 &&& pg 8 t).testBit b = true := fun a b q1 q2 q3 _ => by
    rw [Nat.testBit_and, Bool.and_eq_true] at q1
    rw [Nat.testBit_and, q2, (p9 t b ht).mpr ⟨(held_wr hI q2).2.2.1, by rw [q3]; exact ((p9 t a ht).mp q1.2).2⟩]; rfl
  have hc2 : ∀ x, x < 3 → ∀ a b, (s.2.2.2.2.2.2 &&& pg 8 t &&& pg 10 x).testBit a = true → s.2.2.2.2.2.2.testBit b = true → pg 2 b = pg 2 a → pg 5 b = pg 5 a → (s.2.2.2.2.2.2 &&& pg 8 t &&& pg 10 x).testBit b = true := fun x hx a b q1 q2 q3 q4 => by
    rw [Nat.testBit_and, Bool.and_eq_true] at q1
    obtain ⟨w1, w2, w3, w4⟩ := held_wr hI q2
    rw [Nat.testBit_and, hc1 a b q1.1 q2 q3 q4, (p11 x b hx).mpr ⟨w3, by omega, by rw [q4]; exact ((p11 x a hx).mp q1.2).2.2⟩]; rfl
  rcases List.mem_append.mp h with h | h
  · unfold nN at h
    by_cases c : s.2.2.1 t < pg 0 t ∧ ¬ ((pg 4 (pg 1 (t * 7 + s.2.2.1 t)) = 4 ∨ pg 4 (pg 1 (t * 7 + s.2.2.1 t)) = 3) ∧ s.2.2.2.2.2.2 &&& pg 8 (pg 2 (pg 1 (t * 7 + s.2.2.1 t))) ≠ 0)
    · rw [if_pos c] at h
      rw [List.mem_singleton.mp h]
      have h2 := (px_next hX hI.1 ht c.1 rfl).2.2.1
      have c2 := c.2
      rw [h2] at c2
      exact GO_N hX hmd hI hG ht c.1 rfl c2
    · rw [if_neg c] at h; exact absurd h (List.not_mem_nil)
  · unfold nB at h
    by_cases z : s.2.2.2.2.2.2 &&& pg 8 t = 0
    · rw [if_pos z] at h; exact absurd h (List.not_mem_nil)
    · rw [if_neg z] at h
      by_cases m : md = 1
      · rw [if_pos m] at h; exact hl _ _ (hb _) (and_lt h3) hc1 h
      · rw [if_neg m] at h
        rcases List.mem_append.mp h with h | h
        · exact hl _ _ (hb2 _ _) (and_lt (and_lt h3)) (hc2 0 (by omega)) h
        · rcases List.mem_append.mp h with h | h
          · exact hl _ _ (hb2 _ _) (and_lt (and_lt h3)) (hc2 1 (by omega)) h
          · exact hl _ _ (hb2 _ _) (and_lt (and_lt h3)) (hc2 2 (by omega)) h
/-- the class meets at most 181440 states of models 0 to 2 -/
theorem keys_B (hX : PX T Ac pg nm zs kd vx rr vv) (hmd : md < 3) {KL SL C : Nat} {rc : Nat → Nat} : (gL (walkG E T Ac pg nm md KL SL C rc)).length ≤ 181440 := by
  rw [walk_mdf hX hmd]
  have h := mdf_inv (kn := knC) (pre := preC pg md T Ac) (nx := nxC pg nm md T) (fin := finC E) (Iv := fun s => IvC md T Ac pg nm s ∧ ∃ G, GO pg s G)
    (P := fun g => (gL g).Nodup ∧ ∀ k, k ∈ gL g → ∃ s G, IvC md T Ac pg nm s ∧ GO pg s G ∧ k = keyB s.2.1 s.1 s.2.2.2.2.2.1 s.2.2.2.2.2.2)
    (fun s g hI hk hP => by
      unfold preC
      rw [note_L.1]
      unfold knC at hk
      unfold addKey
      rw [if_neg (by rw [hk]; exact Bool.false_ne_true)]
      show (gL g ++ [_]).Nodup ∧ ∀ k, k ∈ gL g ++ [_] → _
      refine ⟨List.nodup_append.mpr ⟨hP.1, List.nodup_cons.mpr ⟨List.not_mem_nil, List.nodup_nil⟩, fun a ha b hb e => ?_⟩, fun k hk2 => ?_⟩
      · rw [List.mem_singleton.mp hb] at e
        subst e
        unfold hasK at hk
        rw [List.contains_iff_mem.mpr ha] at hk
        exact Bool.false_ne_true hk.symm
      · rcases List.mem_append.mp hk2 with q | q
        · exact hP.2 k q
        · obtain ⟨G, hG⟩ := hI.2
          exact ⟨s, G, hI.1, hG, List.mem_singleton.mp q⟩)
    (fun s p g _ _ hP => by unfold finC; rw [addOut_V.2.1]; exact hP)
    (fun s k hI hk => ⟨IvC_ch hX hI.1 hk, GO_ch hX hmd hI.1 hI.2 hk⟩)
    15 s07 [] (g0W KL (emptyS SL).1 C (if md = 0 then fun _ => 0 else rc) (emptyS SL).2.1 (emptyS SL).2.2) ⟨IvC_0, _, GO_0⟩ ⟨List.nodup_nil, fun k hk => absurd hk (List.not_mem_nil)⟩
  refine code_rel (R := fun k n => ∃ s G, IvC md T Ac pg nm s ∧ GO pg s G ∧ k = keyB s.2.1 s.1 s.2.2.2.2.2.1 s.2.2.2.2.2.2 ∧ n = mxN (rdX (wMk pg)) (dK pg s G) 7) h.1 (fun k hk => ?_) (fun k l n hk hl => ?_)
  · obtain ⟨s, G, h1, h2, h3⟩ := h.2 k hk
    exact ⟨_, Nat.lt_of_lt_of_le (mx_lt 7 (fun a _ => dK_lt hX h1 h2)) (prX _ (wM_lt hX)), s, G, h1, h2, h3, rfl⟩
  · obtain ⟨s, G, h1, h2, h3, h4⟩ := hk
    obtain ⟨s2, G2, j1, j2, j3, j4⟩ := hl
    have q := mx_inj 7 (fun a _ => ⟨dK_lt hX h1 h2, dK_lt hX j1 j2⟩) (h4.symm.trans j4)
    obtain ⟨e1, e2, e3, e4⟩ := dK_inj hX h1 h2 j1 j2 q
    rw [h3, j3, e1, e2, e3, e4]
end BNT
