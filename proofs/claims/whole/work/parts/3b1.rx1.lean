theorem nd_inj9 {A B : Type} {f : A → B} : ∀ l : List A, (l.map f).Nodup → ∀ a b, a ∈ l → b ∈ l → f a = f b → a = b
  | [], _, a, _, h, _, _ => absurd h List.not_mem_nil
  | x :: l, hn, a, b, ha, hb, e => by
    rw [List.map_cons] at hn
    obtain ⟨q1, q2⟩ := List.nodup_cons.mp hn
    rcases List.mem_cons.mp ha with p | p
    · rcases List.mem_cons.mp hb with r | r
      · rw [p, r]
      · exact absurd (List.mem_map.mpr ⟨b, r, by rw [← e, p]⟩) q1
    · rcases List.mem_cons.mp hb with r | r
      · exact absurd (List.mem_map.mpr ⟨a, p, by rw [e, r]⟩) q1
      · exact nd_inj9 l q2 a b p r e
theorem nd_of_map9 {A B : Type} {f : A → B} : ∀ l : List A, (l.map f).Nodup → l.Nodup
  | [], _ => List.nodup_nil
  | a :: l, h => by
    rw [List.map_cons] at h
    obtain ⟨h1, h2⟩ := List.nodup_cons.mp h
    exact List.nodup_cons.mpr ⟨fun w => h1 (List.mem_map.mpr ⟨a, w, rfl⟩), nd_of_map9 l h2⟩
theorem pop_or9 : ∀ a, a < 128 → ∀ b, b < 128 → a &&& b = 0 → pop7 a + pop7 b = pop7 (a ||| b) := by decide +kernel
theorem pw_sp9 {R : Nat → Nat → Prop} : ∀ l : List Nat, (∀ a b m1 m2, l = m1 ++ b :: m2 → a ∈ m1 → R a b) → l.Pairwise R
  | [], _ => List.Pairwise.nil
  | x :: l, h => by
    refine List.pairwise_cons.mpr ⟨fun b hb => ?_, pw_sp9 l (fun a b m1 m2 e ha => h a b (x :: m1) m2 (by rw [e]; rfl) (List.mem_cons_of_mem _ ha))⟩
    obtain ⟨p, q, e⟩ := List.append_of_mem hb
    exact h x b (x :: p) q (by rw [e]; rfl) (List.mem_cons_self ..)
theorem hd_rev9 {l : List Nat} : hdL l.reverse = lsL l := by
  rcases List.eq_nil_or_concat l with e | ⟨m, a, e⟩
  · rw [e]; rfl
  · rw [List.concat_eq_append] at e
    rw [e, lsL_sn, List.reverse_append]; rfl
theorem nx_app9 {a : Nat} : ∀ (m l : List Nat), ¬ a ∈ m → nxL a (m ++ a :: l) = hdL l
  | [], l, _ => by
    show (if a = a then hdL l else nxL a l) = _
    exact if_pos rfl
  | b :: m, l, h => by
    show (if b = a then hdL (m ++ a :: l) else nxL a (m ++ a :: l)) = _
    rw [if_neg (fun e => h (by rw [e]; exact List.mem_cons_self ..))]
    exact nx_app9 m l (fun w => h (List.mem_cons_of_mem _ w))
section CNT
variable {K N0 N1 T Ac md ld E : Nat} {pg : Nat → Nat → Nat} {nm : Nat → Int32} {zs kd vx rr li : Nat → Nat} {vv : Nat → Int32} {sc : Nat → Nat → Nat} {c : CF9} {F : Nat → Nat} {RW : Nat → List Nat}
/-- the class's leaves by their rows -/
def clL (pg : Nat → Nat → Nat) (nm : Nat → Int32) (md T Ac : Nat) (sc : Nat → Nat → Nat) : List (S8 × (Nat → List Nat)) := (chC pg nm T Ac sc 15 s08).flatMap (fun s => (prW pg Ac (mbE pg s) (scE pg Ac sc s) (r0E md - 1) (fun _ => [])).map (fun RW => (s, RW)))
def clX (pg : Nat → Nat → Nat) (md Ac : Nat) (sc : Nat → Nat → Nat) (p : S8 × (Nat → List Nat)) : LF9 := lfW pg md Ac (mbE pg p.1) (scE pg Ac sc p.1) (r0E md - 1) p.2 (x0E pg Ac p.1)
def clS (pg : Nat → Nat → Nat) (md Ac : Nat) (sc : Nat → Nat → Nat) (p : S8 × (Nat → List Nat)) : Bool := sdL pg md Ac (mbE pg p.1) (scE pg Ac sc p.1) (clX pg md Ac sc p)
theorem nd_12 (hPg : PgOk T Ac pg) {mb : Nat} (hm : mb < 128) {row : Nat} (hr : row < 4) : ndC pg mb row ≤ 12 := by
  have h7 : ∀ y, wRw pg mb y < 128 := fun y => and_lt (wrR_lt9 hPg y)
  have dj : ∀ y z, y < 4 → z < 4 → y ≠ z → ∀ i, (wRw pg mb y).testBit i = true → (wRw pg mb z).testBit i = true → False := fun y z hy hz ne i w1 w2 => by
    obtain ⟨-, -, a⟩ := (wRw_9 hPg hy).mp w1
    obtain ⟨-, -, b⟩ := (wRw_9 hPg hz).mp w2
    omega
  have p2 := pop_or9 _ (h7 0) _ (h7 1) (and_0.mpr (dj 0 1 (by decide) (by decide) (by decide)))
  have o2 := or7 (h7 0) (h7 1)
  have p3 := pop_or9 _ o2 _ (h7 2) (and_0.mpr (fun i w1 w2 => by
    rw [Nat.testBit_or, Bool.or_eq_true] at w1
    rcases w1 with w1 | w1
    · exact dj 0 2 (by decide) (by decide) (by decide) i w1 w2
    · exact dj 1 2 (by decide) (by decide) (by decide) i w1 w2))
  have o3 := or7 o2 (h7 2)
  have p4 := pop_or9 _ o3 _ (h7 3) (and_0.mpr (fun i w1 w2 => by
    rw [Nat.testBit_or, Bool.or_eq_true, Nat.testBit_or, Bool.or_eq_true] at w1
    rcases w1 with (w1 | w1) | w1
    · exact dj 0 3 (by decide) (by decide) (by decide) i w1 w2
    · exact dj 1 3 (by decide) (by decide) (by decide) i w1 w2
    · exact dj 2 3 (by decide) (by decide) (by decide) i w1 w2))
  have l7 := pop7_le _ (or7 o3 (h7 3))
  have e0 : ndC pg mb 0 = pop7 (wRw pg mb 0) + 1 := rfl
  have e1 : ndC pg mb 1 = ndC pg mb 0 + (pop7 (wRw pg mb 1) + 1) := rfl
  have e2 : ndC pg mb 2 = ndC pg mb 1 + (pop7 (wRw pg mb 2) + 1) := rfl
  have e3 : ndC pg mb 3 = ndC pg mb 2 + (pop7 (wRw pg mb 3) + 1) := rfl
  have c : row = 0 ∨ row = 1 ∨ row = 2 ∨ row = 3 := by omega
  rcases c with q | q | q | q <;> rw [q] <;> omega
theorem gf_cl (hX : PX T Ac pg nm zs kd vx rr vv) : gfL pg nm md T Ac (scS pg md Ac sc) = (clL pg nm md T Ac (scS pg md Ac sc)).map (fun p => (p.1, clX pg md Ac (scS pg md Ac sc) p)) := by
  have hPg := hX.1
  unfold gfL clL
  rw [List.map_flatMap]
  refine fl_cg _ (fun s hs => ?_)
  rw [List.map_map]
  have hm : mbE pg s < 128 := andn_lt (ch_sound hX hs).1.1.1
  have hr : r0E md - 1 < 4 := by rw [r0_9]; split <;> decide
  have e : lyE pg md Ac (scS pg md Ac sc) s = (prW pg Ac (mbE pg s) (scE pg Ac (scS pg md Ac sc) s) (r0E md - 1) (fun _ => [])).map (fun L => lfW pg md Ac (mbE pg s) (scE pg Ac (scS pg md Ac sc) s) (r0E md - 1) L (x0E pg Ac s)) :=
    ly_prod (fun q => and_lt (wrR_lt9 hPg q)) (r0E md - 1) 12 (x0E pg Ac s) (fun _ => []) (nd_12 hPg hm hr)
  rw [e, List.map_map]; rfl
theorem cl_mem {s : S8} : (s, RW) ∈ clL pg nm md T Ac sc ↔ s ∈ chC pg nm T Ac sc 15 s08 ∧ RW ∈ prW pg Ac (mbE pg s) (scE pg Ac sc s) (r0E md - 1) (fun _ => []) := by
  unfold clL
  rw [List.mem_flatMap]
  constructor
  · rintro ⟨s2, h1, h2⟩
    obtain ⟨R2, h3, h4⟩ := List.mem_map.mp h2
    obtain ⟨e1, e2⟩ := Prod.mk.inj h4
    subst e1 e2
    exact ⟨h1, h3⟩
  · rintro ⟨h1, h2⟩
    exact ⟨s, h1, List.mem_map.mpr ⟨RW, h2, rfl⟩⟩
theorem cl_nd (hX : PX T Ac pg nm zs kd vx rr vv) : (((clL pg nm md T Ac sc).filter (clS pg md Ac sc)).map (fun p => (fmS8 p.1, p.2))).Nodup := by
  have hch := ch_nd (sc := sc) hX 15 s08 ci_0
  refine List.Nodup.sublist (List.Sublist.map _ List.filter_sublist) ?_
  unfold clL
  rw [List.map_flatMap]
  refine nd_flat _ (nd_of_map9 _ hch) (fun s _ => ?_) (fun s s2 x hs hs2 h1 h2 => ?_)
  · rw [List.map_map]
    exact nd_map9 _ (prW_nd _ _) (fun a b _ _ e => (Prod.mk.inj e).2)
  · rw [List.map_map] at h1 h2
    obtain ⟨a, -, e1⟩ := List.mem_map.mp h1
    obtain ⟨b, -, e2⟩ := List.mem_map.mp h2
    exact nd_inj9 _ hch s s2 hs hs2 (Prod.mk.inj (e1.trans e2.symm)).1
theorem map_inj9 (hX : PX T Ac pg nm zs kd vx rr vv) : ∀ l m : List Nat, (∀ b, b ∈ l → pr9 T zs b) → (∀ b, b ∈ m → pr9 T zs b) → l.map (pg 1) = m.map (pg 1) → l = m
  | [], [], _, _, _ => rfl
  | [], b :: m, _, _, e => by simp at e
  | a :: l, [], _, _, e => by simp at e
  | a :: l, b :: m, h1, h2, e => by
    rw [List.map_cons, List.map_cons] at e
    obtain ⟨e1, e2⟩ := List.cons.inj e
    rw [pr_inj hX (h1 a (List.mem_cons_self ..)) (h2 b (List.mem_cons_self ..)) e1, map_inj9 hX l m (fun b hb => h1 b (List.mem_cons_of_mem _ hb)) (fun b hb => h2 b (List.mem_cons_of_mem _ hb)) e2]
/-- the code of a leaf of the reference -/
noncomputable def kR9 (K N0 T Ac ld : Nat) (pg : Nat → Nat → Nat) (zs kd vx rr li : Nat → Nat) (vv : Nat → Int32) (p : (Nat → Nat) × (Nat → List Nat)) : (Nat → Nat) × (Nat → List Nat) := (kf9 Ac pg (gzQ K N0 T ld zs kd vx rr li vv p.1).2.2.2.1 (fQ li ld p.1), kw9 pg p.2)
theorem rf_inj (hX : PX T Ac pg nm zs kd vx rr vv) (hL : liO T ld zs kd li) (hK : K ≠ 0) (hN : 30 ≤ N0) (hN1 : 32 ≤ N1) {p q : (Nat → Nat) × (Nat → List Nat)} (hp : p ∈ rfL md K N0 N1 T ld zs kd vx rr li vv) (hq : q ∈ rfL md K N0 N1 T ld zs kd vx rr li vv) (e : kR9 K N0 T Ac ld pg zs kd vx rr li vv p = kR9 K N0 T Ac ld pg zs kd vx rr li vv q) : p = q := by
  obtain ⟨fl, RL⟩ := p
  obtain ⟨f2, R2⟩ := q
  have hz := hX.2.1.2.1
  obtain ⟨e1, e2⟩ := Prod.mk.inj e
  dsimp only at e1 e2
  obtain ⟨a1, ⟨-, a2, -⟩, a3⟩ := rf_mem.mp hp
  obtain ⟨b1, ⟨-, b2, -⟩, b3⟩ := rf_mem.mp hq
  obtain ⟨-, -, -, -, -, pm⟩ := rf_gd (Ac := Ac) (pg := pg) (nm := nm) hX hL hK hN hN1 hp
  obtain ⟨-, -, -, -, -, qm⟩ := rf_gd (Ac := Ac) (pg := pg) (nm := nm) hX hL hK hN hN1 hq
  have hi1 := (gz_inv (K := K) (N0 := N0) (T := T) (ld := ld) (zs := zs) (kd := kd) (vx := vx) (rr := rr) (li := li) (vv := vv) (fl := fl) hz).1
  have hi2 := (gz_inv (K := K) (N0 := N0) (T := T) (ld := ld) (zs := zs) (kd := kd) (vx := vx) (rr := rr) (li := li) (vv := vv) (fl := f2) hz).1
  have hR : RL = R2 := by
    funext y
    by_cases hy : y < 4
    · have := congrFun e2 y
      unfold kw9 at this
      rw [if_pos hy, if_pos hy] at this
      exact map_inj9 hX _ _ (pm y hy) (qm y hy) this
    · have c1 := ((rw_mem hz (fun x => rc_7 hX x) 4 0 (N1 + 1) _ RL (by decide) (fun _ _ _ => rfl) (by omega)).mp a3).1 y (by omega)
      have c2 := ((rw_mem hz (fun x => rc_7 hX x) 4 0 (N1 + 1) _ R2 (by decide) (fun _ _ _ => rfl) (by omega)).mp b3).1 y (by omega)
      rw [c1, c2]
  have hF : fl = f2 := by
    funext k
    by_cases hk : k < ld
    · obtain ⟨l1, l2⟩ := hL.1 k hk
      have hb : pr9 T zs (li k) := l1
      have er := pr_c9 hX hb
      have ht : tkr9 pg (pg 1 (li k)) := by
        show pg 4 (pg 1 (li k)) = 0 ∨ pg 4 (pg 1 (li k)) = 3
        rw [er.2.2.1]; exact l2
      have ek := congrFun e1 (pg 1 (li k))
      unfold kf9 at ek
      rw [er.2.1, FC_9 hX hb, FC_9 hX hb, fQ_at hL hk, fQ_at hL hk] at ek
      have u1 := of_decide_eq_false (fF_no9.mp a2 k hk)
      have u2 := of_decide_eq_false (fF_no9.mp b2 k hk)
      rw [fQ_at hL hk] at u1 u2
      have s1 := gc_f9 hX hL a1 hb l2
      have s2 := gc_f9 hX hL b1 hb l2
      rw [fQ_at hL hk] at s1 s2
      have A1 : (gzQ K N0 T ld zs kd vx rr li vv fl).2.2.2.1 (li k) = 1 → ((pg 1 (li k) < Ac ∧ (gzQ K N0 T ld zs kd vx rr li vv fl).2.2.2.1 (li k) = 1) ∧ tkr9 pg (pg 1 (li k))) := fun w => ⟨⟨er.1, w⟩, ht⟩
      have A2 : (gzQ K N0 T ld zs kd vx rr li vv f2).2.2.2.1 (li k) = 1 → ((pg 1 (li k) < Ac ∧ (gzQ K N0 T ld zs kd vx rr li vv f2).2.2.2.1 (li k) = 1) ∧ tkr9 pg (pg 1 (li k))) := fun w => ⟨⟨er.1, w⟩, ht⟩
      rcases hi1 (li k) with z1 | z1
      · have f0 : fl k = 0 := Classical.byContradiction fun w => u1 ⟨z1, w⟩
        rcases hi2 (li k) with z2 | z2
        · have g0 : f2 k = 0 := Classical.byContradiction fun w => u2 ⟨z2, w⟩
          rw [f0, g0]
        · rw [if_neg (show ¬ ((pg 1 (li k) < Ac ∧ (gzQ K N0 T ld zs kd vx rr li vv fl).2.2.2.1 (li k) = 1) ∧ tkr9 pg (pg 1 (li k))) from fun w => by have := w.1.2; omega), if_pos (A2 z2)] at ek
          omega
      · rcases hi2 (li k) with z2 | z2
        · rw [if_pos (A1 z1), if_neg (show ¬ ((pg 1 (li k) < Ac ∧ (gzQ K N0 T ld zs kd vx rr li vv f2).2.2.2.1 (li k) = 1) ∧ tkr9 pg (pg 1 (li k))) from fun w => by have := w.1.2; omega)] at ek
          omega
        · rw [if_pos (A1 z1), if_pos (A2 z2)] at ek
          have ek := Nat.succ.inj ek
          by_cases f0 : fl k = 0
          · rw [if_pos f0] at ek
            by_cases g0 : f2 k = 0
            · rw [f0, g0]
            · rw [if_neg g0] at ek; omega
          · rw [if_neg f0] at ek
            by_cases g0 : f2 k = 0
            · rw [if_pos g0] at ek; omega
            · rw [if_neg g0] at ek
              have := pr_inj hX (s1 f0).1 (s2 g0).1 (Nat.succ.inj ek)
              omega
    · have c1 := ((gc_mem hz ld 0 (fun _ => 0) fl).mp a1).1 k (by omega)
      have c2 := ((gc_mem hz ld 0 (fun _ => 0) f2).mp b1).1 k (by omega)
      rw [c1, c2]
  rw [hF, hR]
theorem rf_nd (hX : PX T Ac pg nm zs kd vx rr vv) (hN1 : 32 ≤ N1) : (rfL md K N0 N1 T ld zs kd vx rr li vv).Nodup := by
  have hz := hX.2.1.2.1
  unfold rfL
  refine nd_flat _ (gc_nd hz ld 0 _) (fun fl _ => ?_) (fun f1 f2 x _ _ h1 h2 => ?_)
  · split
    · exact nd_map9 _ (rw_nd hz (fun x => rc_7 hX x) 4 0 (N1 + 1) _ (by decide) (fun _ _ _ => rfl) (by omega)) (fun a b _ _ e => (Prod.mk.inj e).2)
    · exact List.nodup_nil
  · split at h1
    · split at h2
      · obtain ⟨a, -, e1⟩ := List.mem_map.mp h1
        obtain ⟨b, -, e2⟩ := List.mem_map.mp h2
        exact (Prod.mk.inj (e1.trans e2.symm)).1
      · exact absurd h2 List.not_mem_nil
    · exact absurd h1 List.not_mem_nil
/-- the leaves that stand: the same codes on both sides -/
theorem gr_codes (hX : PX T Ac pg nm zs kd vx rr vv) (hL : liO T ld zs kd li) (hK : K ≠ 0) (hN : 30 ≤ N0) (hN1 : 32 ≤ N1) (hmd : md < 4) (z : (Nat → Nat) × (Nat → List Nat)) :
    z ∈ ((clL pg nm md T Ac (scS pg md Ac sc)).filter (clS pg md Ac (scS pg md Ac sc))).map (fun p => (fmS8 p.1, p.2)) ↔ z ∈ ((rfL md K N0 N1 T ld zs kd vx rr li vv).filter (fun L => std9 md K N0 T ld zs kd vx rr li vv L.1 L.2)).map (kR9 K N0 T Ac ld pg zs kd vx rr li vv) := by
  rw [List.mem_map, List.mem_map]
  constructor
  · rintro ⟨⟨s, RW⟩, h1, rfl⟩
    obtain ⟨h2, h3⟩ := List.mem_filter.mp h1
    obtain ⟨h4, h5⟩ := cl_mem.mp h2
    have hgd := (cl_gd hX hmd h4 h5).mp h3
    obtain ⟨r1, r2, r3, r4⟩ := rf_of hX hL hK hN hN1 hgd
    refine ⟨_, List.mem_filter.mpr ⟨r1, r2⟩, ?_⟩
    show (_, _) = (_, _)
    rw [r3, r4, ← (cl_gr hX h4 h5).2.1]
  · rintro ⟨⟨fl, RL⟩, h1, rfl⟩
    obtain ⟨h2, h3⟩ := List.mem_filter.mp h1
    obtain ⟨c, F, g1, g2, -⟩ := rf_gd (Ac := Ac) (pg := pg) (nm := nm) hX hL hK hN hN1 h2
    have hgd := g1.mp h3
    obtain ⟨s, s1, s2, s3, s4, s5⟩ := cl_of (sc := sc) hX hmd hgd
    refine ⟨(s, kw9 pg RL), List.mem_filter.mpr ⟨cl_mem.mpr ⟨s1, s2⟩, (cl_gd hX hmd s1 s2).mpr (by rw [s3, ← s4]; exact hgd)⟩, ?_⟩
    show (_, _) = (_, _)
    rw [s5, ← g2]
/-- as many graphs stand on both sides -/
theorem gr_num (hX : PX T Ac pg nm zs kd vx rr vv) (hL : liO T ld zs kd li) (hK : K ≠ 0) (hN : 30 ≤ N0) (hN1 : 32 ≤ N1) (hmd : md < 4) :
    ((clL pg nm md T Ac (scS pg md Ac sc)).filter (clS pg md Ac (scS pg md Ac sc))).length = ((rfL md K N0 N1 T ld zs kd vx rr li vv).filter (fun L => std9 md K N0 T ld zs kd vx rr li vv L.1 L.2)).length :=
  len_code9 (cl_nd hX) (nd_map9 _ (List.Nodup.sublist List.filter_sublist (rf_nd hX hN1)) (fun p q hp hq e => rf_inj hX hL hK hN hN1 (List.mem_filter.mp hp).1 (List.mem_filter.mp hq).1 e)) (gr_codes hX hL hK hN hN1 hmd)
/-- the same outcomes -/
theorem gr_outs (hX : PX T Ac pg nm zs kd vx rr vv) (hL : liO T ld zs kd li) (hK : K ≠ 0) (hN : 30 ≤ N0) (hN1 : 32 ≤ N1) (hmd : md < 4) (v : Nat → Int32) :
    (∃ p, p ∈ (clL pg nm md T Ac (scS pg md Ac sc)).filter (clS pg md Ac (scS pg md Ac sc)) ∧ ∀ k, k < 11 → v k = uG9 (cS8 p.1) p.2 k) ↔
    ∃ p, p ∈ (rfL md K N0 N1 T ld zs kd vx rr li vv).filter (fun L => std9 md K N0 T ld zs kd vx rr li vv L.1 L.2) ∧ ∀ k, k < 11 → v k = nvR (gzQ K N0 T ld zs kd vx rr li vv p.1).2.1 (gzQ K N0 T ld zs kd vx rr li vv p.1).2.2.1 p.2 k := by
  constructor
  · rintro ⟨⟨s, RW⟩, h1, hv⟩
    obtain ⟨h2, h3⟩ := List.mem_filter.mp h1
    obtain ⟨h4, h5⟩ := cl_mem.mp h2
    have hgd := (cl_gd hX hmd h4 h5).mp h3
    obtain ⟨r1, r2, r3, r4⟩ := rf_of hX hL hK hN hN1 hgd
    obtain ⟨c, F, g1, g2, g3, -⟩ := rf_gd (Ac := Ac) (pg := pg) (nm := nm) hX hL hK hN hN1 r1
    have hgd2 := g1.mp r2
    have hu := gd_uni hX hgd hgd2 (r3.symm.trans g2)
    refine ⟨_, List.mem_filter.mpr ⟨r1, r2⟩, fun k hk => ?_⟩
    rw [hv k hk]
    show uG9 (cS8 s) RW k = _
    rw [g3 k hk, r4, hu.1]
  · rintro ⟨⟨fl, RL⟩, h1, hv⟩
    obtain ⟨h2, h3⟩ := List.mem_filter.mp h1
    obtain ⟨c, F, g1, g2, g3, -⟩ := rf_gd (Ac := Ac) (pg := pg) (nm := nm) hX hL hK hN hN1 h2
    have hgd := g1.mp h3
    obtain ⟨s, s1, s2, s3, s4, s5⟩ := cl_of (sc := sc) hX hmd hgd
    refine ⟨(s, kw9 pg RL), List.mem_filter.mpr ⟨cl_mem.mpr ⟨s1, s2⟩, (cl_gd hX hmd s1 s2).mpr (by rw [s3, ← s4]; exact hgd)⟩, fun k hk => ?_⟩
    rw [hv k hk]
    show nvR _ _ RL k = uG9 (cS8 s) (kw9 pg RL) k
    rw [g3 k hk, s3]
/-- a graph's end is an end -/
theorem gd_end (hX : PX T Ac pg nm zs kd vx rr vv) (h : GD9 T Ac md pg nm c F RW) : EndC T Ac pg nm c.1 c.2.1 c.2.2.1 c.2.2.2.1 c.2.2.2.2 (fun x => (RW x).reverse) ∧ ∀ k, uE c.2.2.2.1 c.2.2.2.2 (fun x => (RW x).reverse) k = uG9 c RW k := by
  have hPg := hX.1
  obtain ⟨hI, ⟨l, r⟩, hend, hG, hst, hnf, h4⟩ := h
  obtain ⟨so, pj⟩ := fr_so0 hX r
  have hE := eH_9 hPg hI
  refine ⟨⟨hI, pj, fun t ht => by have := hend t ht; omega, fun x hx => ⟨?_, fun a => ?_, ?_, fun a ha k3 => ?_⟩⟩, fun k => ?_⟩
  · exact List.pairwise_reverse.mpr ((gr_row hG (show x < 4 by omega)).1.imp (fun h => h.symm))
  · rw [List.mem_reverse]
    constructor
    · intro w
      obtain ⟨q1, q2, q3⟩ := row_k hPg hG (show x < 4 by omega) w
      exact ⟨((hE a).mp q1).1, by omega, by omega, by omega⟩
    · rintro ⟨w1, w2, w3, w4⟩
      have := (row_w hPg hG ((hE a).mpr ⟨w1, by omega⟩) ⟨w2, w3⟩).2
      rw [w4] at this; exact this
  · rw [List.pairwise_reverse]
    refine pw_sp9 _ (fun a b m1 m2 e ha hp => ?_)
    have hbm : b ∈ RW x := by rw [e]; exact List.mem_append_right _ (List.mem_cons_self ..)
    have ham : a ∈ RW x := by rw [e]; exact List.mem_append_left _ ha
    obtain ⟨q1, q2, q3⟩ := row_k hPg hG (show x < 4 by omega) hbm
    obtain ⟨p1, p2, p3⟩ := row_k hPg hG (show x < 4 by omega) ham
    have hnd := (gr_row hG (show x < 4 by omega)).1
    by_cases lt : a < b
    · exact lt
    · have ne : a ≠ b := fun w => by
        rw [e] at hnd
        exact (List.nodup_append.mp hnd).2.2 a ha b (List.mem_cons_self ..) w
      exact absurd (con_1 (Or.inl (Or.inr ⟨x, m1, m2, by omega, e, ha⟩))) (nr_9 hst (a := a) (b := b) ⟨q1, p1, hp, by omega⟩ (by omega))
  · have ha := List.mem_reverse.mp ha
    obtain ⟨q1, q2, q3⟩ := row_k hPg hG (show x < 4 by omega) ha
    have hnd := (gr_row hG (show x < 4 by omega)).1
    obtain ⟨m1, m2, e⟩ := List.append_of_mem ha
    have hs := (gr_row hG (show x < 4 by omega)).2.2.2 m1 a m2 e
    rw [so a ((hE a).mp q1).1]
    unfold fQ9
    rw [if_pos (Or.inr k3)]
    show F a = nxL a (RW x).reverse
    have e2 : (RW x).reverse = m2.reverse ++ a :: m1.reverse := by rw [e, List.reverse_append, List.reverse_cons, List.append_assoc]; rfl
    rw [e] at hnd
    have nm2 : ¬ a ∈ m2 := (List.nodup_cons.mp (List.nodup_append.mp hnd).2.1).1
    rw [e2, nx_app9 _ _ (fun w => nm2 (List.mem_reverse.mp w)), hd_rev9]
    rcases hs.2.2 with w | w | w
    · omega
    · exact w.2
    · exact absurd k3 w.1
  · unfold uE uG9
    by_cases k8 : k < 8
    · rw [if_pos k8, if_pos k8]
    · rw [if_neg k8, if_neg k8]
      show c.2.2.2.2 (hdL (RW (k - 8)).reverse) = _
      rw [hd_rev9]
end CNT
