theorem e9 : (9 : Int32) = nI 9 := by decide
theorem lN_sh9 {X : Nat} (h : X < 2 ^ 63) : lN X <<< ((9 : Int32).toInt64 &&& 63) = lN (X * 512) := by
  rw [e9]; exact lN_shl h (by decide)
theorem lN_or9 {X y : Nat} (hy : y < 512) (hX : X * 512 < 2 ^ 62) : lN (X * 512) ||| lN y = lN (X * 512 + y) := by
  rw [lN_orN (by omega) (by omega)]
  have := Nat.two_pow_add_eq_or_of_lt (i := 9) (b := y) hy X
  rw [Nat.mul_comm X 512]
  exact congrArg lN this.symm
theorem keyB_n {n dn mm hd : Nat} (h2 : n < 2 ^ 21) (h3 : dn < 128) (h4 : mm < 512) (h5 : hd < 128) : keyB (lN n) dn mm hd = lN (((n * 128 + dn) * 512 + mm) * 128 + hd) := by
  unfold keyB keyP
  rw [lN_sh, nI_l (by omega), lN_or h3 (by omega), lN_sh9 (by omega), nI_l (by omega), lN_or9 h4 (by omega), lN_sh, nI_l (by omega), lN_or h5 (by omega)]
theorem key_inj {so so2 : Int64} {dn mm hd dn2 mm2 hd2 : Nat} (a1 : so = lN (sn so)) (a2 : sn so < 2 ^ 21) (a3 : dn < 128) (a4 : mm < 512) (a5 : hd < 128) (b1 : so2 = lN (sn so2)) (b2 : sn so2 < 2 ^ 21) (b3 : dn2 < 128) (b4 : mm2 < 512) (b5 : hd2 < 128)
    (h : keyB so dn mm hd = keyB so2 dn2 mm2 hd2) : so = so2 ∧ dn = dn2 ∧ mm = mm2 ∧ hd = hd2 := by
  have e1 : keyB so dn mm hd = keyB (lN (sn so)) dn mm hd := by rw [← a1]
  have e2 : keyB so2 dn2 mm2 hd2 = keyB (lN (sn so2)) dn2 mm2 hd2 := by rw [← b1]
  rw [e1, e2, keyB_n a2 a3 a4 a5, keyB_n b2 b3 b4 b5] at h
  have h := (lN_eq9 (by omega) (by omega)).mp h
  have hs : sn so = sn so2 := by omega
  exact ⟨by rw [a1, b1, hs], by omega, by omega, by omega⟩
/-- a state of the machine that can be reached -/
def RA (md T : Nat) (zs : Nat → Nat) (A : AB) : Prop := ∃ fu sf, IvB T zs fu sf ∧ A = abR md sf
theorem RA_0 {md T : Nat} {zs kd vx rr : Nat → Nat} {vv : Nat → Int32} (hPr : PrR T zs kd vx rr vv) : RA md T zs a0B := ⟨14, fun _ => 0, IvB_0 hPr, abR_0.symm⟩
theorem RA_s {md T : Nat} {zs kd vx rr : Nat → Nat} {vv : Nat → Int32} {A A2 : AB} {t k : Nat} (hPr : PrR T zs kd vx rr vv) (hmd : md < 3) (h : RA md T zs A) (ht : t < T) (e : aF md zs kd vx rr vv A t k = some A2) : RA md T zs A2 := by
  obtain ⟨fu, sf, hs, rfl⟩ := h
  rw [← simR hPr hmd hs ht] at e
  obtain ⟨s2, q1, q2⟩ := Option.map_eq_some_iff.mp e
  exact ⟨fu - 1, s2, (iv_stB hPr hs ht q1).2.1, q2.symm⟩
def uA (A : AB) : Nat → Int32 := fun k => if k < 8 then A.2.1 k else A.2.2.1 (k - 8)
theorem RA_ok {md T : Nat} {zs : Nat → Nat} {A : AB} (h : RA md T zs A) : ∀ j, j < 11 → okD (uA A j) := fun j hj => by
  obtain ⟨fu, sf, ⟨pl, bt, bx, nb, rm, hD⟩, rfl⟩ := h
  have a9 := hD.2.2.2.2.2.2.2.2.1
  unfold uA
  by_cases c : j < 8
  · rw [if_pos c, abR_at2 c]; exact wB_okD (a9 (4 + j) (by omega) (by omega)) (by omega)
  · rw [if_neg c, abR_at3 (by omega)]; exact wB_okD (a9 _ (by omega) (by omega)) (by omega)
def enV (v : List Int32) : Int64 × Int32 := (k1O (fun k => v.getD k 0), k2O (fun k => v.getD k 0))
theorem v11_get {u : Nat → Int32} {k : Nat} (h : k < 11) : (v11 u).getD k 0 = u k := by
  unfold v11
  rw [List.getD_eq_getElem?_getD, List.getElem?_map, List.getElem?_range h]; rfl
theorem enV_u {u : Nat → Int32} (h : ∀ j, j < 11 → okD (u j)) : enV (v11 u) = (k1O u, k2O u) := by
  have e : ∀ j, j < 11 → (v11 u).getD j 0 = u j := fun j hj => v11_get hj
  have q := (keys_lx (u := fun k => (v11 u).getD k 0) (w := u) (fun j hj => by rw [e j hj]; exact h j hj) h).2.mpr e
  exact Prod.ext q.1 q.2
def okV (v : List Int32) : Prop := ∃ u, v = v11 u ∧ ∀ j, j < 11 → okD (u j)
theorem enV_in (v w : List Int32) (hv : okV v) (hw : okV w) (e : enV v = enV w) : v = w := by
  obtain ⟨u, rfl, hu⟩ := hv
  obtain ⟨x, rfl, hx⟩ := hw
  rw [enV_u hu, enV_u hx] at e
  exact v11_cg ((keys_lx hu hx).2.mp ⟨(Prod.mk.inj e).1, (Prod.mk.inj e).2⟩)
section CLV
variable {E md T Ac : Nat} {pg : Nat → Nat → Nat} {nm : Nat → Int32} {zs kd vx rr : Nat → Nat} {vv : Nat → Int32} {s : S7}
theorem abC_key {s2 : S7} (hX : PX T Ac pg nm zs kd vx rr vv) (hI : IvC md T Ac pg nm s) (hJ : IvC md T Ac pg nm s2) (e : keyB s.2.1 s.1 s.2.2.2.2.2.1 s.2.2.2.2.2.2 = keyB s2.2.1 s2.1 s2.2.2.2.2.2.1 s2.2.2.2.2.2.2) : abC md T pg s = abC md T pg s2 := by
  obtain ⟨dn, so, pl, rg, cv, mm, hd⟩ := s
  obtain ⟨dn2, so2, pl2, rg2, cv2, mm2, hd2⟩ := s2
  obtain ⟨e1, e2, e3, e4⟩ := key_inj hI.1.2.2.2.1 hI.1.2.2.2.2.1 hI.1.1 hI.2.2.1 hI.2.2.2.1 hJ.1.2.2.2.1 hJ.1.2.2.2.2.1 hJ.1.1 hJ.2.2.1 hJ.2.2.2.1 e
  dsimp only at e1 e2 e3 e4
  subst e1 e2 e3 e4
  obtain ⟨u1, u2, u3⟩ := PgI_uni hX hI.1 hJ.1 (fun _ _ _ => rfl)
  refine Prod.ext (cutN_cg (fun u _ => ?_)) (Prod.ext (cutI_cg u2) (Prod.ext (cutI_cg (fun x hx => u1 _ (hI.2.2.2.2.2.2.2.1 x hx))) ?_))
  · by_cases c : u < T
    · rw [if_pos c, if_pos c]
      have q : pl u = pl2 u := u3 u c
      show (if pg 0 u < pl u then pg 0 u else pl u) = (if pg 0 u < pl2 u then pg 0 u else pl2 u)
      rw [q]
    · rw [if_neg c, if_neg c]
  · funext j
    show (if md = 0 then [] else _) = (if md = 0 then [] else _)
    by_cases m : md = 0
    · rw [if_pos m, if_pos m]
    · rw [if_neg m, if_neg m]
      refine List.map_congr_left (fun b hb => ?_)
      have q := (List.mem_filter.mp hb).2
      rw [Bool.and_eq_true] at q
      rw [u1 _ (held_wr hI q.1).1]
theorem ex_bit {w : Nat} (h : ¬ w = 0) : ∃ b, w.testBit b = true := by
  refine Classical.byContradiction (fun q => h (z_bits (fun b => ?_)))
  cases hb : w.testBit b with
  | false => rfl
  | true => exact absurd ⟨b, hb⟩ q
theorem cov_C (hX : PX T Ac pg nm zs kd vx rr vv) (hmd : md < 3) (hI : IvC md T Ac pg nm s) {t : Nat} (ht : t < T) (h : nB pg md s t = []) : s.2.2.2.2.2.2 &&& pg 8 t = 0 := by
  refine Classical.byContradiction (fun q => ?_)
  have lne : ∀ w num, w ≠ 0 → lL pg s w num ≠ [] := fun w num h e => by unfold lL at e; rw [if_neg h] at e; exact List.cons_ne_nil _ _ e
  unfold nB at h
  rw [if_neg q] at h
  rcases (by omega : md = 0 ∨ md = 1 ∨ md = 2) with m | m | m
  · exact q (by rw [(hI.2.2.2.2.2.2.2.2.2 m).1, Nat.zero_and])
  · rw [if_pos m] at h; exact lne _ _ q h
  · rw [if_neg (by omega)] at h
    obtain ⟨q1, q2⟩ := List.append_eq_nil_iff.mp h
    obtain ⟨q3, q4⟩ := List.append_eq_nil_iff.mp q2
    obtain ⟨b, hb⟩ := ex_bit q
    have hb2 := hb
    rw [Nat.testBit_and, Bool.and_eq_true] at hb2
    obtain ⟨w1, w2, w3, w4⟩ := held_wr hI hb2.1
    have hy : pg 5 b < 3 := (hX.1.2.2.2.2.1 b w3).2.2.2.1 (by omega)
    have hx : (s.2.2.2.2.2.2 &&& pg 8 t &&& pg 10 (pg 5 b)) ≠ 0 := fun z => by
      have : (s.2.2.2.2.2.2 &&& pg 8 t &&& pg 10 (pg 5 b)).testBit b = true := by
        rw [Nat.testBit_and, hb, (hX.1.2.2.2.2.2.2.2.2.2.2 _ b hy).mpr ⟨w3, by omega, rfl⟩]; rfl
      rw [z, Nat.zero_testBit] at this
      exact Bool.false_ne_true this
    rcases (by omega : pg 5 b = 0 ∨ pg 5 b = 1 ∨ pg 5 b = 2) with z | z | z
    · rw [z] at hx; exact lne _ _ hx q1
    · rw [z] at hx; exact lne _ _ hx q3
    · rw [z] at hx; exact lne _ _ hx q4
theorem IvC_ch (hX : PX T Ac pg nm zs kd vx rr vv) (hI : IvC md T Ac pg nm s) {k : Int32 × S7} (h : k ∈ nxC pg nm md T s) : IvC md T Ac pg nm k.2 := by
  unfold nxC at h
  obtain ⟨t, ht, h⟩ := List.mem_flatMap.mp h
  have ht := List.mem_range.mp ht
  have h3 := hI.2.2.2.1
  have hl : ∀ w num, (∀ b, w.testBit b = true → s.2.2.2.2.2.2.testBit b = true) → w < 128 → k ∈ lL pg s w num → IvC md T Ac pg nm k.2 := fun w num q1 q2 q3 => by
    unfold lL at q3
    by_cases z : w = 0
    · rw [if_pos z] at q3; exact absurd q3 (List.not_mem_nil)
    · rw [if_neg z] at q3
      rw [List.mem_singleton.mp q3]
      exact IvC_L hX hI q1 z q2
  have hb : ∀ x b, (s.2.2.2.2.2.2 &&& x).testBit b = true → s.2.2.2.2.2.2.testBit b = true := fun x b q => by
    rw [Nat.testBit_and, Bool.and_eq_true] at q; exact q.1
  have hb2 : ∀ x y b, (s.2.2.2.2.2.2 &&& x &&& y).testBit b = true → s.2.2.2.2.2.2.testBit b = true := fun x y b q => by
    rw [Nat.testBit_and, Bool.and_eq_true] at q; exact hb x b q.1
  rcases List.mem_append.mp h with h | h
  · unfold nN at h
    by_cases c : s.2.2.1 t < pg 0 t ∧ ¬ ((pg 4 (pg 1 (t * 7 + s.2.2.1 t)) = 4 ∨ pg 4 (pg 1 (t * 7 + s.2.2.1 t)) = 3) ∧ s.2.2.2.2.2.2 &&& pg 8 (pg 2 (pg 1 (t * 7 + s.2.2.1 t))) ≠ 0)
    · rw [if_pos c] at h
      rw [List.mem_singleton.mp h]
      exact IvC_N hX hI ht c.1 rfl
    · rw [if_neg c] at h; exact absurd h (List.not_mem_nil)
  · unfold nB at h
    by_cases z : s.2.2.2.2.2.2 &&& pg 8 t = 0
    · rw [if_pos z] at h; exact absurd h (List.not_mem_nil)
    · rw [if_neg z] at h
      by_cases m : md = 1
      · rw [if_pos m] at h; exact hl _ _ (hb _) (and_lt h3) h
      · rw [if_neg m] at h
        rcases List.mem_append.mp h with h | h
        · exact hl _ _ (hb2 _ _) (and_lt (and_lt h3)) h
        · rcases List.mem_append.mp h with h | h
          · exact hl _ _ (hb2 _ _) (and_lt (and_lt h3)) h
          · exact hl _ _ (hb2 _ _) (and_lt (and_lt h3)) h
def s07 : S7 := (0, 0, fun _ => 0, fun _ => 0, fun _ => 0, 0, 0)
theorem IvC_0 : IvC md T Ac pg nm s07 := by
  refine ⟨PgI_0, by decide, by decide, by decide, fun t _ => Nat.zero_le _, fun a ha _ => srcU_0 a ha, fun t q _ _ _ => Nat.zero_testBit _, fun x hx => Or.inl ?_, fun a h => ?_, fun _ => ⟨rfl, Nat.zero_le _⟩⟩
  · show 0 / 8 ^ x % 8 = 0
    rw [Nat.zero_div]
  · have h2 : Nat.testBit 0 a = true := h
    rw [Nat.zero_testBit] at h2; exact absurd h2 Bool.false_ne_true
theorem abC_0 : abC md T pg s07 = a0B := by
  refine Prod.ext ?_ (Prod.ext cutI_0 (Prod.ext cutI_0 ?_))
  · show cutN 4 (fun t => if t < T then (if pg 0 t < 0 then pg 0 t else 0) else 0) = fun _ => 0
    rw [← cutN_0 (n := 4)]
    refine cutN_cg (fun t _ => ?_)
    by_cases c : t < T
    · rw [if_pos c, if_neg (Nat.not_lt_zero _)]
    · rw [if_neg c]
  · funext j
    show (if md = 0 then [] else (hlL md pg 0 j).map (fun b => (pg 5 b, (0 : Int32)))) = []
    by_cases m : md = 0
    · rw [if_pos m]
    · rw [if_neg m]
      unfold hlL
      rw [List.filter_eq_nil_iff.mpr (fun b _ => by rw [Nat.zero_testBit, Bool.false_and]; exact Bool.false_ne_true)]; rfl
end CLV
