section CGF
variable {T Ac md : Nat} {pg : Nat → Nat → Nat} {F G : Nat → Nat} {H : Nat} {RW : Nat → List Nat}
theorem stO_cg {W x : Nat} {l : List Nat} {a : Nat} (h : ∀ a, W.testBit a = true → pg 4 a = 3 → F a = G a) (w : stO9 pg F W x l a) : stO9 pg G W x l a := by
  obtain ⟨w1, w2, w3⟩ := w
  refine ⟨w1, w2, ?_⟩
  rcases w3 with q | q | q
  · exact Or.inl q
  · exact Or.inr (Or.inl ⟨q.1, by rw [← h a w1 q.1]; exact q.2⟩)
  · exact Or.inr (Or.inr ⟨q.1, fun b b1 b2 b3 => by rw [← h b b1 b3]; exact q.2 b b1 b2 b3⟩)
theorem rwE_cg {W x : Nat} (h : ∀ a, W.testBit a = true → pg 4 a = 3 → F a = G a) : ∀ (e l : List Nat), rwE9 pg F W x l e → rwE9 pg G W x l e
  | [], _, w => w
  | _ :: e, _, ⟨w1, w2⟩ => ⟨stO_cg h w1, rwE_cg h e _ w2⟩
theorem gr_cg9 (hPg : PgOk T Ac pg) (h : ∀ a, H.testBit a = true → tkr9 pg a → F a = G a) (hG : GrO9 Ac md pg F H RW) : GrO9 Ac md pg G H RW := by
  obtain ⟨h1, h2, h3, h4⟩ := hG
  refine ⟨h1, fun y hy h3 => rwE_cg (fun a ha k => h a ((wRw_9 hPg hy).mp ha).1 (Or.inr k)) _ _ (h2 y hy h3), h3, fun a ha ht => ?_⟩
  rw [← h a ha ht]; exact h4 a ha ht
theorem st_cg9 (h : ∀ a, H.testBit a = true → tkr9 pg a → F a = G a) : stN9 md pg F H RW ↔ stN9 md pg G H RW := by
  have e1 : cR9 pg F H = cR9 pg G H := by
    funext a b
    exact propext ⟨fun ⟨w1, w2, w3⟩ => ⟨w1, w2, by rw [← h b w1 w2]; exact w3⟩, fun ⟨w1, w2, w3⟩ => ⟨w1, w2, by rw [h b w1 w2]; exact w3⟩⟩
  have e2 : cS9 pg F H RW = cS9 pg G H RW := by
    funext a b
    exact propext ⟨fun ⟨w1, w2, w3, m1, m2, w4, w5⟩ => ⟨w1, w2, w3, m1, m2, w4, by rw [← h a w1 w2]; exact w5⟩, fun ⟨w1, w2, w3, m1, m2, w4, w5⟩ => ⟨w1, w2, w3, m1, m2, w4, by rw [h a w1 w2]; exact w5⟩⟩
  unfold stN9 hB9 cI9
  rw [e1, e2]
/-- two ADDs behind one source are one -/
theorem add_uni (hPg : PgOk T Ac pg) (hG : GrO9 Ac md pg F H RW) {a b : Nat} (ha : H.testBit a = true) (hb : H.testBit b = true) (h3 : pg 4 a = 3) (h5 : pg 4 b = 3) (h6 : pg 5 a = pg 5 b) (h7 : F a = F b) : a = b := by
  obtain ⟨-, m1⟩ := row_w hPg hG ha (by omega)
  obtain ⟨-, m2⟩ := row_w hPg hG hb (by omega)
  have r1 := add_ix hPg hG ha h3
  have r2 := add_ix hPg hG hb h5
  rw [← h6] at m2 r2
  rcases r1 with ⟨u1, u2⟩ | ⟨u, u1, u2, u3⟩
  · rcases r2 with ⟨v1, v2⟩ | ⟨v, v1, v2, v3⟩
    · exact ix_inj m1 m2 (by omega)
    · omega
  · rcases r2 with ⟨v1, v2⟩ | ⟨v, v1, v2, v3⟩
    · omega
    · have e : u = v := by omega
      subst e
      exact ix_inj m1 m2 (by omega)
theorem nd_nd9 {l : List Nat} (h : l.Nodup) : ndL l := fun i j hi hj e => by
  have f : ∀ i, i < l.length → l.idxOf (l.getD i 0) = i := fun i hi => by
    obtain ⟨l1, l2, e1, e2⟩ := cut_at l i hi
    have hn := h
    rw [e1] at hn
    have := ix_len hn
    rw [← e1, e2] at this; exact this
  rw [← f i hi, e, f j hj]
end CGF
theorem nd_of9 {f : Nat → Nat} : ∀ l : List Nat, (l.map f).Nodup → l.Nodup
  | [], _ => List.nodup_nil
  | a :: l, h => by
    rw [List.map_cons] at h
    obtain ⟨h1, h2⟩ := List.nodup_cons.mp h
    exact List.nodup_cons.mpr ⟨fun w => h1 (List.mem_map.mpr ⟨a, w, rfl⟩), nd_of9 l h2⟩
theorem ct_1 {p : Nat → Bool} : ∀ n, (∀ i j, i < n → j < n → p i = true → p j = true → i = j) → ctB p n ≤ 1 ∧ ((∀ i, i < n → p i = false) → ctB p n = 0)
  | 0, _ => ⟨Nat.zero_le 1, fun _ => rfl⟩
  | n + 1, h => by
    obtain ⟨i1, i2⟩ := ct_1 n (fun i j hi hj => h i j (by omega) (by omega))
    have e : ctB p (n + 1) = if p n = true then ctB p n + 1 else ctB p n := by
      show ctB p n + (if p n = true then 1 else 0) = _
      split <;> rfl
    rw [e]
    by_cases c : p n = true
    · rw [if_pos c, i2 (fun i hi => by
        cases q : p i with
        | false => rfl
        | true => have := h i n (by omega) (by omega) q c; omega)]
      exact ⟨Nat.le_refl 1, fun w => by rw [w n (by omega)] at c; exact absurd c Bool.false_ne_true⟩
    · rw [if_neg c]
      exact ⟨i1, fun w => i2 (fun i hi => w i (by omega))⟩
/-- the code of a leaf of the reference -/
def kf9 (Ac : Nat) (pg : Nat → Nat → Nat) (hp fm : Nat → Nat) (a : Nat) : Nat := if (a < Ac ∧ hp (rN9 pg a) = 1) ∧ tkr9 pg a then FC9 pg fm a + 1 else 0
def kw9 (pg : Nat → Nat → Nat) (RL : Nat → List Nat) (y : Nat) : List Nat := if y < 4 then (RL y).map (pg 1) else []
section RFG
variable {gm K N0 N1 T Ac ld : Nat} {pg : Nat → Nat → Nat} {nm : Nat → Int32} {zs kd vx rr li fl : Nat → Nat} {vv : Nat → Int32} {RL RW : Nat → List Nat} {c : CF9} {F : Nat → Nat}
theorem rf_mem : (fl, RL) ∈ rfL gm K N0 N1 T ld zs kd vx rr li vv ↔ fl ∈ gcL T zs kd vx li ld 0 (fun _ => 0) ∧ goP T ld zs kd vx li (fQ li ld fl) (gzQ K N0 T ld zs kd vx rr li vv fl) ∧ RL ∈ rwLv gm T zs kd vx (gzQ K N0 T ld zs kd vx rr li vv fl).2.2.2.1 (fun l a x => decide (mfL kd vx li (fQ li ld fl) (gzQ K N0 T ld zs kd vx rr li vv fl).2.2.2.1 ld l a x)) (N1 + 1) 0 (fun _ => []) := by
  unfold rfL
  rw [List.mem_flatMap]
  constructor
  · rintro ⟨f2, h1, h2⟩
    by_cases g : goP T ld zs kd vx li (fQ li ld f2) (gzQ K N0 T ld zs kd vx rr li vv f2)
    · rw [if_pos g] at h2
      obtain ⟨R2, h3, h4⟩ := List.mem_map.mp h2
      obtain ⟨e1, e2⟩ := Prod.mk.inj h4
      subst e1 e2
      exact ⟨h1, g, h3⟩
    · rw [if_neg g] at h2; exact absurd h2 List.not_mem_nil
  · rintro ⟨h1, h2, h3⟩
    exact ⟨fl, h1, by rw [if_pos h2]; exact List.mem_map.mpr ⟨RL, h3, rfl⟩⟩
theorem rc_7 (hX : PX T Ac pg nm zs kd vx rr vv) {hp : Nat → Nat} (x : Nat) : (rcL gm T zs kd vx hp x []).length ≤ 7 := by
  have hz := hX.2.1.2.1
  have := code_len (code := pg 1) (B := Ac) (rcL_nd (gm := gm) (kd := kd) (vx := vx) (hp := hp) (x := x) (l := []) hz) (fun a ha => (pr_c9 hX ((rcL_mem hz).mp ha).1).1) (fun a b ha hb e => pr_inj hX ((rcL_mem hz).mp ha).1 ((rcL_mem hz).mp hb).1 e)
  have := hX.1.2.1; omega
theorem gc_f9 (hX : PX T Ac pg nm zs kd vx rr vv) (hL : liO T ld zs kd li) (h : fl ∈ gcL T zs kd vx li ld 0 (fun _ => 0)) {b : Nat} (hb : pr9 T zs b) (hk : kd b = 0 ∨ kd b = 3) (h0 : fQ li ld fl b ≠ 0) : pr9 T zs (fQ li ld fl b - 1) ∧ fQ li ld fl b - 1 ≠ b ∧ (1 ≤ kd (fQ li ld fl b - 1) ∧ kd (fQ li ld fl b - 1) ≤ 3) ∧ vx (fQ li ld fl b - 1) = vx b := by
  obtain ⟨k, k1, rfl⟩ := hL.2.2 b hb.1 hb.2 hk
  rw [fQ_at hL k1] at h0 ⊢
  obtain ⟨h1, h2⟩ := (gc_mem hX.2.1.2.1 ld 0 (fun _ => 0) fl).mp h
  obtain ⟨q1, q2, q3⟩ := ((h2 k (Nat.zero_le k) (by omega)).1).resolve_left h0
  exact ⟨q1, q2, q3⟩
theorem gc_fmO (hX : PX T Ac pg nm zs kd vx rr vv) (hL : liO T ld zs kd li) (h : fl ∈ gcL T zs kd vx li ld 0 (fun _ => 0)) : fmO T zs kd (fQ li ld fl) := fun t q ht hq hk h0 => by
  have := hX.2.1.2.1 t ht
  have hb : pr9 T zs (7 * t + q) := ⟨by rw [show (7 * t + q) / 7 = t by omega]; exact ht, by rw [show (7 * t + q) / 7 = t by omega, show (7 * t + q) % 7 = q by omega]; exact hq⟩
  obtain ⟨h1, h2, h3, h4⟩ := gc_f9 hX hL h hb hk h0
  exact ⟨h1.1, h1.2, h3.1, h3.2⟩
/-- what happens on both sides -/
theorem rg_H (hX : PX T Ac pg nm zs kd vx rr vv) {g : A9} (hI : PI9 T Ac pg nm c) (hR : RG9 T pg zs kd g c) : hpH9 Ac pg g.2.2.2.1 (eH9 pg c) := fun a => by
  rw [eH_9 hX.1 hI]
  have f : a < Ac → (g.2.2.2.1 (rN9 pg a) = 1 ↔ c.1.testBit a = true ∧ pg 4 a ≠ 5) := fun ha => by
    obtain ⟨x1, x2⟩ := hX.2.2.2.2.2 a ha
    have ht := (hX.1.2.2.2.2.1 a ha).1
    have := hR.2.2.2.1 (pg 2 a) (pg 3 a) ht x1
    have e := (pr_c9 hX (pr_r9 hX ha).1).2.2.1
    rw [(pr_r9 hX ha).2.1] at e
    unfold rN9 at e ⊢
    rw [this, x2, ← e]
    by_cases w : c.1.testBit a = true ∧ ¬ pg 4 a = 5
    · rw [if_pos w]; exact ⟨fun _ => w, fun _ => rfl⟩
    · rw [if_neg w]; exact ⟨fun q => absurd q (by decide), fun q => absurd q w⟩
  constructor
  · intro w
    have ha := (hI.2.1 a w.1).1
    exact ⟨ha, (f ha).mpr w⟩
  · intro w; exact (f w.1).mp w.2
theorem w_W9 (hX : PX T Ac pg nm zs kd vx rr vv) {hp : Nat → Nat} {H y : Nat} (hH : hpH9 Ac pg hp H) (hy : y < 4) (h3 : y = 3 → gm = 3) : rwW9 gm pg kd vx hp Ac (wRw pg H y) y := fun a => by
  rw [wRw_9 hX.1 hy, hH]
  constructor
  · rintro ⟨⟨h1, h2⟩, -, h4⟩
    have e := pr_c9 hX (pr_r9 hX h1).1
    rw [(pr_r9 hX h1).2.1] at e
    refine ⟨h1, h2, ?_⟩
    rcases h4 with q | q
    · exact Or.inr ⟨q.1, h3 q.1, by omega⟩
    · exact Or.inl ⟨q.1, by omega, by omega⟩
  · rintro ⟨h1, h2, h4⟩
    have e := pr_c9 hX (pr_r9 hX h1).1
    rw [(pr_r9 hX h1).2.1] at e
    refine ⟨⟨h1, h2⟩, h1, ?_⟩
    rcases h4 with q | q
    · exact Or.inr ⟨q.1, by omega, by omega, by omega⟩
    · exact Or.inl ⟨q.1, by omega⟩
/-- a leaf of the reference is a graph -/
theorem rf_gd (hX : PX T Ac pg nm zs kd vx rr vv) (hL : liO T ld zs kd li) (hK : K ≠ 0) (hN : 30 ≤ N0) (hN1 : 32 ≤ N1) (h : (fl, RL) ∈ rfL gm K N0 N1 T ld zs kd vx rr li vv) :
    ∃ c F, (std9 gm K N0 T ld zs kd vx rr li vv fl RL = true ↔ GD9 T Ac gm pg nm c F (kw9 pg RL)) ∧ kf9 Ac pg (gzQ K N0 T ld zs kd vx rr li vv fl).2.2.2.1 (fQ li ld fl) = cd9 pg c F ∧
      (∀ k, k < 11 → nvR (gzQ K N0 T ld zs kd vx rr li vv fl).2.1 (gzQ K N0 T ld zs kd vx rr li vv fl).2.2.1 RL k = uG9 c (kw9 pg RL) k) ∧ (∀ y, y < 4 → ∀ b, b ∈ RL y → pr9 T zs b) := by
  have hz := hX.2.1.2.1
  have hPg := hX.1
  obtain ⟨h1, ⟨g1, g2, g3⟩, h2⟩ := rf_mem.mp h
  have hf := gc_fmO hX hL h1
  obtain ⟨l, c, r, hI, hR, hNo⟩ := gz_sim (K := K) (N0 := N0) hX hf hK hN
  have hinv := gz_inv (K := K) (N0 := N0) (T := T) (ld := ld) (zs := zs) (kd := kd) (vx := vx) (rr := rr) (li := li) (vv := vv) (fl := fl) hz
  have hgc := fun b => gc_f9 (b := b) hX hL h1
  have hstd := std_9 (gm := gm) (K := K) (N0 := N0) (T := T) (ld := ld) (zs := zs) (kd := kd) (vx := vx) (rr := rr) (li := li) (vv := vv) (fl := fl) (RL := RL)
  rw [hstd]
  generalize gzQ K N0 T ld zs kd vx rr li vv fl = g at *
  generalize fQ li ld fl = fm at *
  have hH := rg_H hX hI hR
  obtain ⟨hlo, hex⟩ := (rw_mem hz (fun x => rc_7 hX x) 4 0 (N1 + 1) _ RL (by decide) (fun _ _ _ => rfl) (by omega)).mp h2
  have hend : ∀ t, t < T → ¬ c.2.2.1 t < pg 0 t := fun t ht w => by
    have e1 := of_decide_eq_false (fF_no9.mp g1 t ht)
    have e2 := hR.1 t ht
    have e3 := hX.2.2.1 t ht
    rw [if_neg (by omega)] at e2
    omega
  have hro : ∀ y, y < 4 → (∀ b, b ∈ RL y → pr9 T zs b) ∧ ((y = 3 → gm = 3) → rwE9 pg (FC9 pg fm) (wRw pg (eH9 pg c) y) y [] ((RL y).map (pg 1))) ∧ (y = 3 → gm ≠ 3 → RL y = []) := fun y hy => by
    have ex := hex y (Nat.zero_le y) hy
    by_cases h3 : y = 3 → gm = 3
    · obtain ⟨e1, e2⟩ := (exR_9 hX hL hf hy (w_W9 hX hH hy h3) (RL y) [] (fun b hb => absurd hb List.not_mem_nil)).mp ex
      exact ⟨e1, fun _ => e2, fun q w => absurd (h3 q) w⟩
    · have y3 : y = 3 := Classical.byContradiction fun z => h3 (fun w => absurd w z)
      have m3 : gm ≠ 3 := fun z => h3 (fun _ => z)
      have e0 : RL y = [] := by
        cases q : RL y with
        | nil => rfl
        | cons a e =>
          rw [q] at ex
          obtain ⟨-, k1, -⟩ := ex
          obtain ⟨-, k2, -⟩ := (rcL_mem hz).mp (List.mem_filter.mp k1).1
          rcases k2.2 with w | w
          · omega
          · exact absurd w.2.1 m3
      exact ⟨fun b hb => by rw [e0] at hb; exact absurd hb List.not_mem_nil, fun w => absurd w h3, fun _ _ => e0⟩
  have hkw : ∀ y, y < 4 → kw9 pg RL y = (RL y).map (pg 1) := fun y hy => if_pos hy
  have hG : GrO9 Ac gm pg (FC9 pg fm) (eH9 pg c) (kw9 pg RL) := by
    refine ⟨fun a ha => ⟨((hH a).mp ha).1, ((eH_9 hPg hI a).mp ha).2⟩, fun y hy h3 => by rw [hkw y hy]; exact (hro y hy).2.1 h3, fun m3 => by rw [hkw 3 (by decide), (hro 3 (by decide)).2.2 rfl m3]; rfl, fun a ha ht => ?_⟩
    obtain ⟨a1, a2⟩ := (hH a).mp ha
    obtain ⟨r1, r2, -⟩ := pr_r9 hX a1
    have e := pr_c9 hX r1
    rw [r2] at e
    have hk : kd (rN9 pg a) = 0 ∨ kd (rN9 pg a) = 3 := by rw [← e.2.2.1]; exact ht
    have hFC := FC_9 (fm := fm) hX r1
    rw [r2] at hFC
    rw [hFC]
    by_cases z : fm (rN9 pg a) = 0
    · rw [if_pos z]; exact Or.inl rfl
    · rw [if_neg z, Nat.add_sub_cancel]
      obtain ⟨s1, s2, s3, s4⟩ := hgc _ r1 hk z
      have es := pr_c9 hX s1
      refine Or.inr ⟨(hp_a9 hX hH s1).mpr (hinv.2.2.2 _ a2 hk z), fun q => s2 (pr_inj hX s1 r1 (by rw [q, r2])), by omega, by omega, by omega⟩
  have hgr := fun y (hy : y < 4) => gr_row hG hy
  have hD : rwD9 T zs g.2.2.2.1 RL := fun x hx i hi => by
    have hm : (RL x).getD i 0 ∈ RL x := memD.mpr ⟨i, hi, rfl⟩
    have hp9 := (hro x hx).1 _ hm
    have : pg 1 ((RL x).getD i 0) ∈ kw9 pg RL x := by rw [hkw x hx]; exact List.mem_map.mpr ⟨_, hm, rfl⟩
    exact ⟨hp9.1, hp9.2, (hp_a9 hX hH hp9).mp (row_k hPg hG hx this).1⟩
  have hn : ∀ y, y < 4 → ndL (RL y) := fun y hy => nd_nd9 (nd_of9 (f := pg 1) _ (by rw [← hkw y hy]; exact (hgr y hy).1))
  have hst := st_map hX hL hf hH hD hn hkw hG
  have hag : ∀ a, c.1.testBit a = true → (pg 4 a = 0 ∨ pg 4 a = 3) → FC9 pg fm a = if c.1.testBit a = true ∧ tkr9 pg a then FC9 pg fm a else 0 := fun a w1 w2 => (if_pos ⟨w1, w2⟩).symm
  have hag2 : ∀ a, (eH9 pg c).testBit a = true → tkr9 pg a → FC9 pg fm a = (fun a => if c.1.testBit a = true ∧ tkr9 pg a then FC9 pg fm a else 0) a := fun a w1 w2 => hag a ((eH_9 hPg hI a).mp w1).1 w2
  refine ⟨c, fun a => if c.1.testBit a = true ∧ tkr9 pg a then FC9 pg fm a else 0, ?_, ?_, fun k hk => ?_, fun y hy => (hro y hy).1⟩
  · rw [hst, st_cg9 hag2]
    constructor
    · intro w
      refine ⟨hI, ⟨l, (fr_cg hX l c09 c (show PI9 T Ac pg nm c09 from PgI_0) r hag).1⟩, hend, gr_cg9 hPg hag2 hG, w, fun a q => ?_, fun y hy => if_neg (by omega)⟩
      refine Classical.byContradiction fun v => q (if_neg v)
    · intro w; exact w.2.2.2.2.1
  · funext a
    unfold kf9 cd9
    have e : ((a < Ac ∧ g.2.2.2.1 (rN9 pg a) = 1) ∧ tkr9 pg a) ↔ (c.1.testBit a = true ∧ tkr9 pg a) := by
      rw [← hH a, eH_9 hPg hI]
      exact ⟨fun w => ⟨w.1.1, w.2⟩, fun w => ⟨⟨w.1, by rcases w.2 with q | q <;> omega⟩, w.2⟩⟩
    by_cases w : c.1.testBit a = true ∧ tkr9 pg a
    · rw [if_pos (e.mpr w), if_pos w]
      exact congrArg (fun z => z + 1) (if_pos w).symm
    · rw [if_neg (fun q => w (e.mp q)), if_neg w]
  · unfold nvR uG9
    by_cases k8 : k < 8
    · rw [if_pos k8, if_pos k8, hR.2.1]
    · rw [if_neg k8, if_neg k8, hkw _ (by omega), lsL_map]
      have hy : k - 8 < 3 := by omega
      generalize k - 8 = y at hy ⊢
      unfold lvL
      by_cases z : (RL y).length = 0
      · have ez : lsL (RL y) = 0 := if_pos z
        rw [if_pos z, if_pos ez]
        exact hI.2.2.2.2.2.2.1.symm
      · have ez : lsL (RL y) = (RL y).getD ((RL y).length - 1) 0 + 1 := if_neg z
        rw [if_neg z, ez, if_neg (Nat.succ_ne_zero _), Nat.add_sub_cancel]
        have hm : (RL y).getD ((RL y).length - 1) 0 ∈ RL y := memD.mpr ⟨_, by omega, rfl⟩
        generalize (RL y).getD ((RL y).length - 1) 0 = b at hm
        have hb := (hro y (by omega)).1 b hm
        have hw : pg 1 b ∈ kw9 pg RL y := by rw [hkw y (by omega)]; exact List.mem_map.mpr ⟨b, hm, rfl⟩
        obtain ⟨q1, q2, q3⟩ := row_k hPg hG (by omega) hw
        have e := pr_c9 hX hb
        have hb2 : b % 7 < pg 0 (b / 7) := by rw [← hX.2.2.1 _ hb.1]; exact hb.2
        have := hR.2.2.2.2 (b / 7) (b % 7) hb.1 hb2
        rw [show b / 7 * 7 + b % 7 = b by omega, show 7 * (b / 7) + b % 7 = b by omega] at this
        exact this ((eH_9 hPg hI _).mp q1).1 (by omega) (by omega)
end RFG
