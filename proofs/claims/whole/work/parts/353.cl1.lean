theorem fil_app {p p' : Nat → Bool} {a : Nat} (h1 : ∀ b, p' b = (p b || decide (b = a))) (h2 : ∀ b, p b = true → b < a) : ∀ n, a < n → (List.range n).filter p' = (List.range n).filter p ++ [a]
  | 0, h => absurd h (Nat.not_lt_zero a)
  | n + 1, h => by
    have hpf : ∀ b, a ≤ b → p b = false := fun b hb => by
      cases q : p b with
      | true => exact absurd (h2 b q) (by omega)
      | false => rfl
    rw [List.range_succ, List.filter_append, List.filter_append]
    by_cases e : n = a
    · rw [e]
      have e1 : (List.range a).filter p' = (List.range a).filter p := List.filter_congr (fun b hb => by
        have := List.mem_range.mp hb
        rw [h1, decide_eq_false (by omega), Bool.or_false])
      rw [e1, List.filter_cons_of_pos (by rw [h1, decide_eq_true rfl, Bool.or_true]), List.filter_cons_of_neg (by rw [hpf a (Nat.le_refl a)]; exact Bool.false_ne_true), List.filter_nil, List.filter_nil, List.append_nil]
    · have x1 : List.filter p' [n] = [] := List.filter_eq_nil_iff.mpr (fun b hb => by rw [List.mem_singleton.mp hb, h1, hpf n (by omega), decide_eq_false e]; exact Bool.false_ne_true)
      have x2 : List.filter p [n] = [] := List.filter_eq_nil_iff.mpr (fun b hb => by rw [List.mem_singleton.mp hb, hpf n (by omega)]; exact Bool.false_ne_true)
      rw [fil_app h1 h2 n (by omega), x1, x2, List.append_nil, List.append_nil]
theorem fil_rm {p p' : Nat → Bool} {a : Nat} (h1 : ∀ b, p' b = (p b && !decide (b = a))) (h2 : p a = true) (h3 : ∀ b, b < a → p b = false) : ∀ n, a < n → (List.range n).filter p = a :: (List.range n).filter p'
  | 0, h => absurd h (Nat.not_lt_zero a)
  | n + 1, h => by
    rw [List.range_succ, List.filter_append, List.filter_append]
    by_cases e : n = a
    · rw [e]
      have x1 : (List.range a).filter p = [] := List.filter_eq_nil_iff.mpr (fun b hb => by rw [h3 b (List.mem_range.mp hb)]; exact Bool.false_ne_true)
      have x2 : (List.range a).filter p' = [] := List.filter_eq_nil_iff.mpr (fun b hb => by rw [h1, h3 b (List.mem_range.mp hb)]; exact Bool.false_ne_true)
      have x3 : List.filter p' [a] = [] := List.filter_eq_nil_iff.mpr (fun b hb => by rw [List.mem_singleton.mp hb, h1, decide_eq_true rfl, h2]; exact Bool.false_ne_true)
      rw [x1, x2, x3, List.filter_cons_of_pos h2]; rfl
    · rw [fil_rm h1 h2 h3 n (by omega), List.cons_append]
      refine congrArg (fun z => a :: ((List.range n).filter p' ++ z)) ?_
      rw [show List.filter p [n] = List.filter p' [n] from List.filter_congr (fun b hb => by
        rw [List.mem_singleton.mp hb, h1, decide_eq_false e]; simp)]
theorem rdL_fil {x : Nat} {m0 : Int32} {p : Nat → Bool} {vr : Nat → Nat} {cv : Nat → Int32} : ∀ n, rdL x m0 (((List.range n).filter p).map (fun a => (vr a, cv (a + 1)))) = if laP (fun a => p a && decide (vr a = x)) n = 0 then m0 else cv (laP (fun a => p a && decide (vr a = x)) n)
  | 0 => rfl
  | n + 1 => by
    rw [List.range_succ, List.filter_append, List.map_append, rdL_app, rdL_fil n, laP]
    cases hp : p n with
    | false =>
      rw [List.filter_cons_of_neg (by rw [hp]; exact Bool.false_ne_true), Bool.false_and, if_neg Bool.false_ne_true]; rfl
    | true =>
      rw [List.filter_cons_of_pos hp, Bool.true_and]
      show (if vr n = x then cv (n + 1) else _) = _
      by_cases e : vr n = x
      · rw [if_pos e, decide_eq_true e, if_pos rfl, if_neg (Nat.succ_ne_zero n)]
      · rw [if_neg e, decide_eq_false e, if_neg Bool.false_ne_true]
theorem hi9_la : ∀ w, w < 128 → hi9 w = laP (fun a => w.testBit a) 7 := by decide +kernel
theorem la_0 : ∀ w, w < 128 → (laP (fun a => w.testBit a) 7 = 0 ↔ w = 0) := by decide +kernel
theorem lo9_min : ∀ w, w < 128 → w ≠ 0 → lo9 w < 7 ∧ w.testBit (lo9 w) = true ∧ ∀ b, b < lo9 w → w.testBit b = false := by decide +kernel
theorem and_lt {a b : Nat} (h : a < 128) : a &&& b < 128 := Nat.lt_of_le_of_lt Nat.and_le_left h
theorem z_bits {w : Nat} (h : ∀ b, w.testBit b = false) : w = 0 := Nat.eq_of_testBit_eq (fun b => by rw [h b, Nat.zero_testBit])
/-- the held ones of a buffer -/
def hlL (md : Nat) (pg : Nat → Nat → Nat) (hd j : Nat) : List Nat := (List.range 7).filter (fun a => hd.testBit a && decide (bj md (pg 2 a) (pg 5 a) = j))
def abC (md T : Nat) (pg : Nat → Nat → Nat) (s : S7) : AB :=
  (cutN 4 (fun t => if t < T then (if pg 0 t < s.2.2.1 t then pg 0 t else s.2.2.1 t) else 0), cutI 8 s.2.2.2.1, cutI 3 (fun x => s.2.2.2.2.1 (srcM s.2.2.2.2.2.1 x)), fun j => if md = 0 then [] else (hlL md pg s.2.2.2.2.2.2 j).map (fun a => (pg 5 a, s.2.2.2.2.1 (a + 1))))
def IvC (md T Ac : Nat) (pg : Nat → Nat → Nat) (nm : Nat → Int32) (s : S7) : Prop := PgI T Ac pg nm s.1 s.2.1 s.2.2.1 s.2.2.2.1 s.2.2.2.2.1 ∧ StOk md 0 T Ac pg s.1 s.2.1 s.2.2.1 s.2.2.2.2.2.1 s.2.2.2.2.2.2
theorem st_d0 {md d T Ac : Nat} {pg : Nat → Nat → Nat} {dn : Nat} {so : Int64} {pl : Nat → Nat} {mm hd : Nat} (h : StOk md d T Ac pg dn so pl mm hd) : StOk md 0 T Ac pg dn so pl mm hd := by
  obtain ⟨s1, s2, s3, s4, s5, s6, s7, s8, s9⟩ := h
  exact ⟨s1, s2, s3, s4, s5, s6, s7, s8, fun q => ⟨(s9 q).1, Nat.zero_le _⟩⟩
section CLS
variable {md T Ac : Nat} {pg : Nat → Nat → Nat} {nm : Nat → Int32} {zs kd vx rr : Nat → Nat} {vv : Nat → Int32} {s : S7}
theorem abC_1 {t : Nat} (hT : T ≤ 4) (ht : t < T) : (abC md T pg s).1 t = if pg 0 t < s.2.2.1 t then pg 0 t else s.2.2.1 t := by
  unfold abC
  dsimp only
  rw [cutN_at (by omega), if_pos ht]
theorem abC_2 {k : Nat} (h : k < 8) : (abC md T pg s).2.1 k = s.2.2.2.1 k := cutI_at h
theorem abC_3 {x : Nat} (h : x < 3) : (abC md T pg s).2.2.1 x = s.2.2.2.2.1 (srcM s.2.2.2.2.2.1 x) := cutI_at (f := fun x => s.2.2.2.2.1 (srcM s.2.2.2.2.2.1 x)) h
theorem IvC_N (hX : PX T Ac pg nm zs kd vx rr vv) (hI : IvC md T Ac pg nm s) {t a : Nat} (ht : t < T) (hq : s.2.2.1 t < pg 0 t) (ha : a = pg 1 (t * 7 + s.2.2.1 t)) : IvC md T Ac pg nm (cN pg nm md s a) := by
  obtain ⟨h1, h2⟩ := hI
  obtain ⟨a1, a2, a3, a4, a5, a6⟩ := px_next hX h1 ht hq ha
  have hw := wr_src hX.1 h2 a2
  have hps := psP_in (K := pg 4 a) (r := s.2.2.2.1 (pg 6 a)) (v := nm a) (hX.1.2.2.2.2.1 a a2).2.2.2.2.1
  exact ⟨PgI_step hX h1 ht hq ha (wr_lt hw) (fun _ => hw), st_d0 (st_goN hX.1 h2 ht hq ha (wr_lt hw) hps)⟩
theorem IvC_L (hX : PX T Ac pg nm zs kd vx rr vv) (hI : IvC md T Ac pg nm s) {w : Nat} (hw : ∀ b, w.testBit b = true → s.2.2.2.2.2.2.testBit b = true) (h0 : w ≠ 0) (h7 : w < 128) : IvC md T Ac pg nm (cL pg s w) := by
  obtain ⟨h1, h2⟩ := hI
  obtain ⟨q1, q2⟩ := lo9_in w h7 h0
  exact ⟨h1, st_d0 (st_let hX.1 h2 (hw _ q2)).2.2⟩
/-- what an action's step makes of places and registers -/
theorem abC_N (hX : PX T Ac pg nm zs kd vx rr vv) (hI : IvC md T Ac pg nm s) {t a : Nat} (ht : t < T) (hq : s.2.2.1 t < pg 0 t) (ha : a = pg 1 (t * 7 + s.2.2.1 t)) {p : Nat} {R M : Nat → Int32} {L : Nat → List (Nat × Int32)}
    (hp : (if pg 0 t < s.2.2.1 t + psP (pg 4 a) (s.2.2.2.1 (pg 6 a)) (nm a) (pg 5 a) then pg 0 t else s.2.2.1 t + psP (pg 4 a) (s.2.2.2.1 (pg 6 a)) (nm a) (pg 5 a)) = p)
    (hR : (abC md T pg (cN pg nm md s a)).2.1 = R) (hM : (abC md T pg (cN pg nm md s a)).2.2.1 = M) (hL : (abC md T pg (cN pg nm md s a)).2.2.2 = L) : abC md T pg (cN pg nm md s a) = (updN (abC md T pg s).1 t p, R, M, L) := by
  obtain ⟨a1, a2, a3, a4, a5, a6⟩ := px_next hX hI.1 ht hq ha
  have hT := hX.1.1
  refine Prod.ext ?_ (Prod.ext hR (Prod.ext hM hL))
  show cutN 4 (fun u => if u < T then (if pg 0 u < updN s.2.2.1 (pg 2 a) (s.2.2.1 (pg 2 a) + psP (pg 4 a) (s.2.2.2.1 (pg 6 a)) (nm a) (pg 5 a)) u then pg 0 u else updN s.2.2.1 (pg 2 a) (s.2.2.1 (pg 2 a) + psP (pg 4 a) (s.2.2.2.1 (pg 6 a)) (nm a) (pg 5 a)) u) else 0) = updN (cutN 4 _) t p
  rw [← cutN_up (by omega)]
  refine cutN_cg (fun u hu => ?_)
  rw [a3]
  by_cases e : u = t
  · rw [e, if_pos ht, updN_s, updN_s]; exact hp
  · rw [updN_n e, updN_n e]
theorem hl_same {a : Nat} {hd2 : Nat} {cv2 : Nat → Int32} (h : ∀ b, b < 7 → hd2.testBit b = s.2.2.2.2.2.2.testBit b) (hc : ∀ b, s.2.2.2.2.2.2.testBit b = true → cv2 (b + 1) = s.2.2.2.2.1 (b + 1)) (j : Nat) :
    (hlL md pg hd2 j).map (fun a => (pg 5 a, cv2 (a + 1))) = (hlL md pg s.2.2.2.2.2.2 j).map (fun a => (pg 5 a, s.2.2.2.2.1 (a + 1))) := by
  unfold hlL
  rw [List.filter_congr (q := fun a => s.2.2.2.2.2.2.testBit a && decide (bj md (pg 2 a) (pg 5 a) = j)) (fun b hb => by rw [h b (List.mem_range.mp hb)])]
  refine List.map_congr_left (fun b hb => ?_)
  have := (List.mem_filter.mp hb).2
  rw [Bool.and_eq_true] at this
  rw [hc b this.1]
end CLS
