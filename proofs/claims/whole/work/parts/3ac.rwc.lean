/-- one right behind the other -/
theorem nxt_sp {l : List Nat} {a b : Nat} : (∃ k, k + 1 < l.length ∧ l.getD k 0 = a ∧ l.getD (k + 1) 0 = b) ↔ ∃ l1 l2, l = l1 ++ a :: b :: l2 := by
  constructor
  · rintro ⟨k, h1, h2, h3⟩
    obtain ⟨l1, l2, e1, e2⟩ := cut_at l k (by omega)
    rw [h2] at e1
    cases l2 with
    | nil => rw [e1, List.length_append, e2] at h1; simp at h1
    | cons c l2 =>
      refine ⟨l1, l2, ?_⟩
      have : l.getD (k + 1) 0 = c := by
        rw [e1, show l1 ++ a :: c :: l2 = (l1 ++ [a]) ++ c :: l2 from by rw [List.append_assoc]; rfl, show k + 1 = (l1 ++ [a]).length from by rw [List.length_append, e2]; rfl]
        exact getD_mid
      rw [e1, ← h3, this]
  · rintro ⟨l1, l2, rfl⟩
    refine ⟨l1.length, by rw [List.length_append]; simp, getD_mid, ?_⟩
    rw [show l1 ++ a :: b :: l2 = (l1 ++ [a]) ++ b :: l2 from by rw [List.append_assoc]; rfl, show l1.length + 1 = (l1 ++ [a]).length from by rw [List.length_append]; rfl]
    exact getD_mid
section MAP
variable {gm T Ac ld : Nat} {pg : Nat → Nat → Nat} {nm : Nat → Int32} {zs kd vx rr li fm hp : Nat → Nat} {vv : Nat → Int32} {RL : Nat → List Nat} {H : Nat}
theorem im_pb (hX : PX T Ac pg nm zs kd vx rr vv) {E D : Nat → Nat → Prop} (h : ∀ a b, E a b ↔ pr9 T zs a ∧ pr9 T zs b ∧ D (pg 1 a) (pg 1 b)) (hD : ∀ x y, D x y → x < Ac ∧ y < Ac) (x y : Nat) : imR9 (pg 1) E x y ↔ D x y := by
  constructor
  · rintro ⟨a, b, w, rfl, rfl⟩; exact ((h a b).mp w).2.2
  · intro w
    obtain ⟨hx, hy⟩ := hD x y w
    obtain ⟨a1, a2, -⟩ := pr_r9 hX hx
    obtain ⟨b1, b2, -⟩ := pr_r9 hX hy
    exact ⟨rN9 pg x, rN9 pg y, (h _ _).mpr ⟨a1, b1, by rw [a2, b2]; exact w⟩, a2, b2⟩
theorem rng_pb (hX : PX T Ac pg nm zs kd vx rr vv) {E D : Nat → Nat → Prop} (h : ∀ a b, E a b ↔ pr9 T zs a ∧ pr9 T zs b ∧ D (pg 1 a) (pg 1 b)) (hD : ∀ x y, D x y → x < Ac ∧ y < Ac) : rng9 E ↔ rng9 D := by
  rw [← rng_im (f := pg 1) (E := E) (P := pr9 T zs) (fun a b w => ⟨((h a b).mp w).1, ((h a b).mp w).2.1⟩) (fun a b ha hb e => pr_inj hX ha hb e)]
  exact rng_cg (im_pb hX h hD)
theorem bck_pb (hX : PX T Ac pg nm zs kd vx rr vv) {E D E2 D2 : Nat → Nat → Prop} (h : ∀ a b, E a b ↔ pr9 T zs a ∧ pr9 T zs b ∧ D (pg 1 a) (pg 1 b)) (hD : ∀ x y, D x y → x < Ac ∧ y < Ac) (h2 : ∀ a b, E2 a b ↔ pr9 T zs a ∧ pr9 T zs b ∧ D2 (pg 1 a) (pg 1 b)) (hD2 : ∀ x y, D2 x y → x < Ac ∧ y < Ac) : bck9 E E2 ↔ bck9 D D2 := by
  rw [← bck_im (f := pg 1) (E := E) (D := E2) (P := pr9 T zs) (fun a b w => ⟨((h a b).mp w).1, ((h a b).mp w).2.1⟩) (fun a b w => ⟨((h2 a b).mp w).1, ((h2 a b).mp w).2.1⟩) (fun a b ha hb e => pr_inj hX ha hb e)]
  exact bck_cg (im_pb hX h hD) (im_pb hX h2 hD2)
/-- what happens, by the class's numbers -/
def hpH9 (Ac : Nat) (pg : Nat → Nat → Nat) (hp : Nat → Nat) (H : Nat) : Prop := ∀ c, H.testBit c = true ↔ c < Ac ∧ hp (rN9 pg c) = 1
theorem hp_a9 (hX : PX T Ac pg nm zs kd vx rr vv) (hH : hpH9 Ac pg hp H) {a : Nat} (ha : pr9 T zs a) : H.testBit (pg 1 a) = true ↔ hp a = 1 := by
  rw [hH, (pr_c9 hX ha).2.1]
  exact ⟨fun w => w.2, fun w => ⟨(pr_c9 hX ha).1, w⟩⟩
theorem pr_lt (hX : PX T Ac pg nm zs kd vx rr vv) {a b : Nat} (ha : pr9 T zs a) (hb : pr9 T zs b) (h : a / 7 = b / 7) : pg 1 a < pg 1 b ↔ a < b := by
  have hz := hX.2.2.1
  have mo : ∀ {a b : Nat}, pr9 T zs a → pr9 T zs b → a / 7 = b / 7 → a < b → pg 1 a < pg 1 b := fun {a b} ha hb h w => by
    have := hX.2.2.2.2.1 (a / 7) (a % 7) (b % 7) ha.1 (by omega) (by rw [h, ← hz _ hb.1]; exact hb.2)
    rw [show a / 7 * 7 + a % 7 = a by omega, show a / 7 * 7 + b % 7 = b by omega] at this
    exact this
  constructor
  · intro w
    by_cases e : a = b
    · rw [e] at w; omega
    · by_cases l : a < b
      · exact l
      · have := mo hb ha h.symm (by omega); omega
  · exact mo ha hb h
theorem rO_pb (hX : PX T Ac pg nm zs kd vx rr vv) (hH : hpH9 Ac pg hp H) (a b : Nat) : rO9 T zs hp a b ↔ pr9 T zs a ∧ pr9 T zs b ∧ cO9 pg H (pg 1 a) (pg 1 b) := by
  constructor
  · rintro ⟨⟨a1, a2, a3⟩, ⟨b1, b2, b3⟩, c1, c2⟩
    have ha : pr9 T zs a := ⟨a1, a2⟩
    have hb : pr9 T zs b := ⟨b1, b2⟩
    exact ⟨ha, hb, (hp_a9 hX hH ha).mpr a3, (hp_a9 hX hH hb).mpr b3, by rw [(pr_c9 hX ha).2.2.2.2, (pr_c9 hX hb).2.2.2.2]; exact c1, (pr_lt hX ha hb c1).mpr c2⟩
  · rintro ⟨ha, hb, h1, h2, h3, h4⟩
    rw [(pr_c9 hX ha).2.2.2.2, (pr_c9 hX hb).2.2.2.2] at h3
    exact ⟨⟨ha.1, ha.2, (hp_a9 hX hH ha).mp h1⟩, ⟨hb.1, hb.2, (hp_a9 hX hH hb).mp h2⟩, h3, (pr_lt hX ha hb h3).mp h4⟩
theorem map_sp (hX : PX T Ac pg nm zs kd vx rr vv) {l m1 m2 : List Nat} {b : Nat} (hl : ∀ c, c ∈ l → pr9 T zs c) (hb : pr9 T zs b) (e : l.map (pg 1) = m1 ++ pg 1 b :: m2) : ∃ l1 l2, l = l1 ++ b :: l2 ∧ l1.map (pg 1) = m1 ∧ l2.map (pg 1) = m2 := by
  obtain ⟨l1, l3, e1, e2, e3⟩ := List.map_eq_append_iff.mp e
  obtain ⟨c, l2, e4, e5, e6⟩ := List.map_eq_cons_iff.mp e3
  have hc : c = b := pr_inj hX (hl c (by rw [e1, e4]; exact List.mem_append_right _ (List.mem_cons_self ..))) hb e5
  exact ⟨l1, l2, by rw [e1, e4, hc], e2, e6⟩
variable {RW : Nat → List Nat}
theorem rR_pb (hX : PX T Ac pg nm zs kd vx rr vv) (hL : liO T ld zs kd li) (hf : fmO T zs kd fm) (hH : hpH9 Ac pg hp H) (hD : rwD9 T zs hp RL) (hRW : ∀ y, y < 4 → RW y = (RL y).map (pg 1)) (a b : Nat) : rRF9 ld li fm hp RL a b ↔ pr9 T zs a ∧ pr9 T zs b ∧ (cR9 pg (FC9 pg fm) H (pg 1 a) (pg 1 b) ∨ cF9 RW (pg 1 a) (pg 1 b)) := by
  have h3 : ∀ c, c ∈ RL 3 → pr9 T zs c := fun c hc => by
    obtain ⟨i, i1, i2⟩ := memD.mp hc
    have := hD 3 (by decide) i i1
    rw [i2] at this; exact ⟨this.1, this.2.1⟩
  constructor
  · rintro (⟨k, k1, k2, k3, rfl⟩ | hn)
    · obtain ⟨l1, l2⟩ := hL.1 k k1
      have hb : pr9 T zs (li k) := l1
      have hs := hf (li k / 7) (li k % 7) l1.1 l1.2
      rw [show 7 * (li k / 7) + li k % 7 = li k by omega] at hs
      obtain ⟨s1, s2, -⟩ := hs l2 (by omega)
      rw [k3, Nat.add_sub_cancel] at s1 s2
      refine ⟨⟨s1, s2⟩, hb, Or.inl ⟨(hp_a9 hX hH hb).mpr k2, ?_, ?_⟩⟩
      · show pg 4 (pg 1 (li k)) = 0 ∨ pg 4 (pg 1 (li k)) = 3
        rw [(pr_c9 hX hb).2.2.1]; exact l2
      · rw [FC_9 hX hb, if_neg (by omega), k3, Nat.add_sub_cancel]
    · obtain ⟨l1, l2, e⟩ := nxt_sp.mp hn
      refine ⟨h3 a (by rw [e]; simp), h3 b (by rw [e]; simp), Or.inr ⟨l1.map (pg 1), l2.map (pg 1), ?_⟩⟩
      rw [hRW 3 (by decide), e, List.map_append]; rfl
  · rintro ⟨ha, hb, ⟨c1, c2, c3⟩ | ⟨m1, m2, e⟩⟩
    · have k2 : kd b = 0 ∨ kd b = 3 := by rw [← (pr_c9 hX hb).2.2.1]; exact c2
      obtain ⟨k, k1, k3⟩ := hL.2.2 b hb.1 hb.2 k2
      rw [FC_9 hX hb] at c3
      have hs := hf (b / 7) (b % 7) hb.1 hb.2
      rw [show 7 * (b / 7) + b % 7 = b by omega] at hs
      by_cases z : fm b = 0
      · rw [if_pos z] at c3; omega
      · rw [if_neg z] at c3
        obtain ⟨s1, s2, -⟩ := hs k2 z
        have := pr_inj hX ⟨s1, s2⟩ ha (Nat.succ.inj c3)
        exact Or.inl ⟨k, k1, by rw [k3]; exact (hp_a9 hX hH hb).mp c1, by rw [k3]; omega, k3⟩
    · rw [hRW 3 (by decide)] at e
      obtain ⟨l1, l2, e1, e2, e3⟩ := map_sp hX h3 ha e
      obtain ⟨c, l4, e4, e5, e6⟩ := List.map_eq_cons_iff.mp e3
      have hc : c = b := pr_inj hX (h3 c (by rw [e1, e4]; simp)) hb e5
      exact Or.inr (nxt_sp.mpr ⟨l1, l4, by rw [e1, e4, hc]⟩)
theorem rB_pb (hX : PX T Ac pg nm zs kd vx rr vv) (hD : rwD9 T zs hp RL) (hRW : ∀ y, y < 4 → RW y = (RL y).map (pg 1)) (a b : Nat) : rB9 RL a b ↔ pr9 T zs a ∧ pr9 T zs b ∧ cB9 RW (pg 1 a) (pg 1 b) := by
  have hm : ∀ y, y < 4 → ∀ c, c ∈ RL y → pr9 T zs c := fun y hy c hc => by
    obtain ⟨i, i1, i2⟩ := memD.mp hc
    have := hD y hy i i1
    rw [i2] at this; exact ⟨this.1, this.2.1⟩
  constructor
  · rintro ⟨x, i, j, x1, x2, x3, x4, x5⟩
    obtain ⟨l1, l2, e, h⟩ := pair_sp.mp ⟨i, j, x2, x3, x4, x5⟩
    refine ⟨hm x x1 a (by rw [e]; exact List.mem_append_left _ h), hm x x1 b (by rw [e]; exact List.mem_append_right _ (List.mem_cons_self ..)), x, l1.map (pg 1), l2.map (pg 1), x1, ?_, List.mem_map.mpr ⟨a, h, rfl⟩⟩
    rw [hRW x x1, e, List.map_append]; rfl
  · rintro ⟨ha, hb, y, m1, m2, hy, e, h⟩
    rw [hRW y hy] at e
    obtain ⟨l1, l2, e1, e2, e3⟩ := map_sp hX (hm y hy) hb e
    rw [← e2] at h
    have := (in_map9 hX ha (fun c hc => hm y hy c (by rw [e1]; exact List.mem_append_left _ hc))).mp h
    obtain ⟨i, j, q⟩ := pair_sp.mpr ⟨l1, l2, e1, this⟩
    exact ⟨y, i, j, hy, q⟩
theorem rS_pb (hX : PX T Ac pg nm zs kd vx rr vv) (hL : liO T ld zs kd li) (hf : fmO T zs kd fm) (hH : hpH9 Ac pg hp H) (hD : rwD9 T zs hp RL) (hn : ∀ y, y < 4 → ndL (RL y)) (hRW : ∀ y, y < 4 → RW y = (RL y).map (pg 1)) (a b : Nat) : (rB9 RL a b ∨ rSF9 ld vx li fm hp RL a b) ↔ pr9 T zs a ∧ pr9 T zs b ∧ (cB9 RW (pg 1 a) (pg 1 b) ∨ cS9 pg (FC9 pg fm) H RW (pg 1 a) (pg 1 b)) := by
  have hm : ∀ y, y < 4 → ∀ c, c ∈ RL y → pr9 T zs c := fun y hy c hc => by
    obtain ⟨i, i1, i2⟩ := memD.mp hc
    have := hD y hy i i1
    rw [i2] at this; exact ⟨this.1, this.2.1⟩
  have v4 : ∀ c, pr9 T zs c → (kd c = 0 ∨ kd c = 3) → vx c < 3 := fun c hc hk => by
    have h28 : c < 28 := by have := hX.2.1.1; have := hc.1; omega
    exact (hX.2.1.2.2.2 c h28).2.2.2.2 (by omega)
  constructor
  · rintro (h | ⟨k, k1, k2, hs, rfl⟩ | ⟨k, k1, hs, rfl⟩)
    · obtain ⟨h1, h2, h3⟩ := (rB_pb hX hD hRW a b).mp h
      exact ⟨h1, h2, Or.inl h3⟩
    · obtain ⟨l0, lk⟩ := hL.1 k k1
      have ha : pr9 T zs (li k) := l0
      have hv := v4 _ ha lk
      obtain ⟨l1, l2, e, h1, h2⟩ := seL_sp.mp hs
      have hb := hm _ (show vx (li k) < 4 by omega) b (by rw [e]; exact List.mem_append_right _ (List.mem_cons_self ..))
      refine ⟨ha, hb, Or.inr ⟨(hp_a9 hX hH ha).mpr k2, ?_, fun q => h2 (pr_inj hX hb ha q), l1.map (pg 1), l2.map (pg 1), ?_, ?_⟩⟩
      · show pg 4 (pg 1 (li k)) = 0 ∨ pg 4 (pg 1 (li k)) = 3
        rw [(pr_c9 hX ha).2.2.1]; exact lk
      · rw [(pr_c9 hX ha).2.2.2.1, hRW _ (by omega), e, List.map_append]; rfl
      · rw [FC_9 hX ha]
        rcases h1 with q | ⟨w, w1, w2⟩
        · rw [if_pos q]; exact Or.inl rfl
        · rw [if_neg (by omega)]
          refine Or.inr ⟨pg 1 w, List.mem_map.mpr ⟨w, w1, rfl⟩, ?_⟩
          rw [← w2, Nat.add_sub_cancel]
    · obtain ⟨m, m1, m2, m3, m4⟩ := hs
      have hB : rB9 RL ((RL 3).getD k 0) b := by
        refine ⟨3, k, m, by decide, ?_, m1, rfl, m4⟩
        have nk : m ≠ k := fun q => m3 (by rw [q])
        by_cases z : k = 0
        · omega
        · rw [if_neg z] at m2
          rcases m2 with q | ⟨p, p1, p2⟩
          · omega
          · have := hn 3 (by decide) p (k - 1) (by omega) (by omega) (Nat.succ.inj p2)
            omega
      obtain ⟨h1, h2, h3⟩ := (rB_pb hX hD hRW _ b).mp hB
      exact ⟨h1, h2, Or.inl h3⟩
  · rintro ⟨ha, hb, h | ⟨s1, s2, s3, m1, m2, e, h⟩⟩
    · exact Or.inl ((rB_pb hX hD hRW a b).mpr ⟨ha, hb, h⟩)
    · have lk : kd a = 0 ∨ kd a = 3 := by rw [← (pr_c9 hX ha).2.2.1]; exact s2
      have hv := v4 a ha lk
      rw [(pr_c9 hX ha).2.2.2.1, hRW _ (by omega)] at e
      obtain ⟨k, k1, k3⟩ := hL.2.2 a ha.1 ha.2 lk
      obtain ⟨l1, l2, e1, e2, e3⟩ := map_sp hX (hm _ (by omega)) hb e
      refine Or.inr (Or.inl ⟨k, k1, by rw [k3]; exact (hp_a9 hX hH ha).mp s1, ?_, k3⟩)
      rw [k3]
      refine seL_sp.mpr ⟨l1, l2, e1, ?_, fun q => s3 (by rw [q])⟩
      rw [FC_9 hX ha] at h
      by_cases z : fm a = 0
      · exact Or.inl z
      · rw [if_neg z] at h
        rcases h with q | ⟨w, w1, w2⟩
        · omega
        · rw [← e2] at w1
          obtain ⟨u, u1, u2⟩ := List.mem_map.mp w1
          have hs := hf (a / 7) (a % 7) ha.1 ha.2
          rw [show 7 * (a / 7) + a % 7 = a by omega] at hs
          obtain ⟨t1, t2, -⟩ := hs lk z
          have eu : pg 1 u = pg 1 (fm a - 1) := by omega
          have := pr_inj hX (hm _ (show vx a < 4 by omega) u (by rw [e1]; exact List.mem_append_left _ u1)) ⟨t1, t2⟩ eu
          exact Or.inr ⟨u, u1, by omega⟩
/-- the reference's test is the test by the class's numbers -/
theorem st_map (hX : PX T Ac pg nm zs kd vx rr vv) (hL : liO T ld zs kd li) (hf : fmO T zs kd fm) (hH : hpH9 Ac pg hp H) (hD : rwD9 T zs hp RL) (hn : ∀ y, y < 4 → ndL (RL y)) (hRW : ∀ y, y < 4 → RW y = (RL y).map (pg 1)) (hG : GrO9 Ac gm pg (FC9 pg fm) H RW) :
    stG9 gm T ld zs kd vx li fm hp RL ↔ stN9 gm pg (FC9 pg fm) H RW := by
  have hPg := hX.1
  have hA : ∀ c, H.testBit c = true → c < Ac := fun c w => (hG.1 c w).1
  have dO : ∀ x y, cO9 pg H x y → x < Ac ∧ y < Ac := fun x y w => ⟨hA x w.1, hA y w.2.1⟩
  have dI : ∀ x y, cI9 pg (FC9 pg fm) H RW x y → x < Ac ∧ y < Ac := fun x y w => ⟨hA x (cI_H hPg hG w).1, hA y (cI_H hPg hG w).2⟩
  have hO := rO_pb (hp := hp) hX hH
  have hR := rR_pb hX hL hf hH hD hRW
  have hS := rS_pb hX hL hf hH hD hn hRW
  have hI : ∀ a b, ((rRF9 ld li fm hp RL a b ∨ rB9 RL a b) ∨ rSF9 ld vx li fm hp RL a b) ↔ pr9 T zs a ∧ pr9 T zs b ∧ cI9 pg (FC9 pg fm) H RW (pg 1 a) (pg 1 b) := fun a b => by
    rw [or_assoc, hR, hS]
    constructor
    · rintro (⟨h1, h2, h3 | h3⟩ | ⟨h1, h2, h3 | h3⟩)
      · exact ⟨h1, h2, Or.inl (Or.inl h3)⟩
      · exact ⟨h1, h2, Or.inl (Or.inr (cF_B h3))⟩
      · exact ⟨h1, h2, Or.inl (Or.inr h3)⟩
      · exact ⟨h1, h2, Or.inr h3⟩
    · rintro ⟨h1, h2, (h3 | h3) | h3⟩
      · exact Or.inl ⟨h1, h2, Or.inl h3⟩
      · exact Or.inr ⟨h1, h2, Or.inl h3⟩
      · exact Or.inr ⟨h1, h2, Or.inr h3⟩
  have hB : ∀ a b, (rO9 T zs hp a b ∨ rRF9 ld li fm hp RL a b) ↔ pr9 T zs a ∧ pr9 T zs b ∧ hB9 pg (FC9 pg fm) H RW (pg 1 a) (pg 1 b) := fun a b => by
    rw [hO, hR]
    constructor
    · rintro (⟨h1, h2, h3⟩ | ⟨h1, h2, h3⟩)
      · exact ⟨h1, h2, Or.inl h3⟩
      · exact ⟨h1, h2, Or.inr h3⟩
    · rintro ⟨h1, h2, h3 | h3⟩
      · exact Or.inl ⟨h1, h2, h3⟩
      · exact Or.inr ⟨h1, h2, h3⟩
  have dB : ∀ x y, hB9 pg (FC9 pg fm) H RW x y → x < Ac ∧ y < Ac := fun x y w => by
    rcases w with w | w | w
    · exact dO x y w
    · exact dI x y (Or.inl (Or.inl w))
    · exact dI x y (Or.inl (Or.inr (cF_B w)))
  unfold stG9 stN9
  rw [rng_pb hX (D := fun a b => cO9 pg H a b ∨ cI9 pg (FC9 pg fm) H RW a b) (E := fun a b => ((rO9 T zs hp a b ∨ rRF9 ld li fm hp RL a b) ∨ rB9 RL a b) ∨ rSF9 ld vx li fm hp RL a b) (fun a b => by
      have hi := hI a b
      have ho := hO a b
      constructor
      · rintro (((h | h) | h) | h)
        · exact ⟨(ho.mp h).1, (ho.mp h).2.1, Or.inl (ho.mp h).2.2⟩
        · have := hi.mp (Or.inl (Or.inl h)); exact ⟨this.1, this.2.1, Or.inr this.2.2⟩
        · have := hi.mp (Or.inl (Or.inr h)); exact ⟨this.1, this.2.1, Or.inr this.2.2⟩
        · have := hi.mp (Or.inr h); exact ⟨this.1, this.2.1, Or.inr this.2.2⟩
      · rintro ⟨h1, h2, h | h⟩
        · exact Or.inl (Or.inl (Or.inl (ho.mpr ⟨h1, h2, h⟩)))
        · rcases hi.mpr ⟨h1, h2, h⟩ with (q | q) | q
          · exact Or.inl (Or.inl (Or.inr q))
          · exact Or.inl (Or.inr q)
          · exact Or.inr q) (fun x y w => w.elim (dO x y) (dI x y)),
    rng_pb hX hB dB, bck_pb hX hB dB hI dI,
    rng_pb hX (D := fun a b => cI9 pg (FC9 pg fm) H RW a b ∨ (cO9 pg H a b ∧ ¬ pg 4 a = 4 ∧ ¬ pg 4 b = 4 ∧ pg 5 a = pg 5 b)) (E := fun a b => ((rRF9 ld li fm hp RL a b ∨ rB9 RL a b) ∨ rSF9 ld vx li fm hp RL a b) ∨ (rO9 T zs hp a b ∧ ¬ kd a = 4 ∧ ¬ kd b = 4 ∧ vx a = vx b)) (fun a b => by
      rw [hI, hO]
      constructor
      · rintro (⟨h1, h2, h3⟩ | ⟨⟨h1, h2, h3⟩, h4⟩)
        · exact ⟨h1, h2, Or.inl h3⟩
        · rw [(pr_c9 hX h1).2.2.1, (pr_c9 hX h2).2.2.1, (pr_c9 hX h1).2.2.2.1, (pr_c9 hX h2).2.2.2.1]
          exact ⟨h1, h2, Or.inr ⟨h3, h4⟩⟩
      · rintro ⟨h1, h2, h3 | ⟨h3, h4⟩⟩
        · exact Or.inl ⟨h1, h2, h3⟩
        · rw [(pr_c9 hX h1).2.2.1, (pr_c9 hX h2).2.2.1, (pr_c9 hX h1).2.2.2.1, (pr_c9 hX h2).2.2.2.1] at h4
          exact Or.inr ⟨⟨h1, h2, h3⟩, h4⟩) (fun x y w => w.elim (dI x y) (fun w => dO x y w.1)),
    rng_pb hX (D := fun a b => (cB9 RW a b ∨ cS9 pg (FC9 pg fm) H RW a b) ∨ ((cO9 pg H a b ∧ kpt9 gm pg a b) ∨ (cR9 pg (FC9 pg fm) H a b ∧ ¬ pg 2 a = pg 2 b))) (E := fun a b => (rB9 RL a b ∨ rSF9 ld vx li fm hp RL a b) ∨ ((rO9 T zs hp a b ∧ kepP gm kd vx a b) ∨ (rRF9 ld li fm hp RL a b ∧ ¬ a / 7 = b / 7))) (fun a b => by
      rw [hS, hO, hR]
      have kp : pr9 T zs a → pr9 T zs b → (kpt9 gm pg (pg 1 a) (pg 1 b) ↔ kepP gm kd vx a b) := fun h1 h2 => by
        unfold kpt9
        rw [(pr_c9 hX h1).2.2.1, (pr_c9 hX h2).2.2.1, (pr_c9 hX h1).2.2.2.1, (pr_c9 hX h2).2.2.2.1]
      constructor
      · rintro (⟨h1, h2, h3⟩ | ⟨⟨h1, h2, h3⟩, h4⟩ | ⟨⟨h1, h2, h3 | h3⟩, h4⟩)
        · exact ⟨h1, h2, Or.inl h3⟩
        · exact ⟨h1, h2, Or.inr (Or.inl ⟨h3, (kp h1 h2).mpr h4⟩)⟩
        · exact ⟨h1, h2, Or.inr (Or.inr ⟨h3, by rw [(pr_c9 hX h1).2.2.2.2, (pr_c9 hX h2).2.2.2.2]; exact h4⟩)⟩
        · exact ⟨h1, h2, Or.inl (Or.inl (cF_B h3))⟩
      · rintro ⟨h1, h2, h3 | ⟨h3, h4⟩ | ⟨h3, h4⟩⟩
        · exact Or.inl ⟨h1, h2, h3⟩
        · exact Or.inr (Or.inl ⟨⟨h1, h2, h3⟩, (kp h1 h2).mp h4⟩)
        · rw [(pr_c9 hX h1).2.2.2.2, (pr_c9 hX h2).2.2.2.2] at h4
          exact Or.inr (Or.inr ⟨⟨h1, h2, Or.inl h3⟩, h4⟩)) (fun x y w => by
      rcases w with (w | w) | w | w
      · exact dI x y (Or.inl (Or.inr w))
      · exact dI x y (Or.inr w)
      · exact dO x y w.1
      · exact dI x y (Or.inl (Or.inl w.1)))]
end MAP
