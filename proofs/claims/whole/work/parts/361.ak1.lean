section AKp
variable {T : Nat} {zs : Nat → Nat} {sf : Nat → Int32} {pl zz : Nat → Nat} {ro : Nat → Nat → Nat} {ad : Nat → Nat} {wn rm : Nat}
theorem tk_map {V W : Type} {f : Nat → V} {g : V → W} {pc z : Nat} (h : pc ≤ z) : (((List.range z).map f).map g).take pc = (List.range pc).map (fun q => g (f q)) ∧ (((List.range z).map f).map g).drop pc = (List.range (z - pc)).map (fun i => g (f (pc + i))) := by
  have e : ((List.range z).map f).map g = (List.range pc).map (fun q => g (f q)) ++ (List.range (z - pc)).map (fun i => g (f (pc + i))) := by
    rw [List.map_map]
    have := map_split (fun q => g (f q)) pc (z - pc)
    rw [(by omega : pc + (z - pc) = z)] at this
    exact this
  rw [e]
  have l : ((List.range pc).map (fun q => g (f q))).length = pc := by rw [List.length_map, List.length_range]
  exact ⟨List.take_left' l, List.drop_left' l⟩
theorem shP_x {x pc : Nat} {f : Nat → Nat} {y : Nat} (h : ¬ y = x) : shP x pc f y = f y := if_neg (fun q => h q.1)
theorem ab_put {t x pc an : Nat} {v : Int32} (hT : T ≤ 4) (hz : ∀ t, t < T → zs t ≤ 7) (h : KD T zs sf pl zz ro ad wn rm) (ht : t < T) (hx : x < 4) (hp1 : 1 ≤ pc) (hpc : pc ≤ zz x) (hrw : rm + wn < 11) (han : an < 2) :
    abK T (kwF (puB sf t x pc (zz x) wn v (nI an)) t wn 4) = putA (abK T sf) t x pc v an := by
  obtain ⟨b1, b2⟩ := KD_b hT hz h
  have hz8 := KD_z8 h
  obtain ⟨c1, c2, c3, c4, c5, c6⟩ := KD_rd hT hz h
  obtain ⟨a1, a2, a3, a4, a5, a6, a7, a8, a9, a10, a11, a12, a13, a14, a15⟩ := h
  have hw10 : wn ≤ 10 := by omega
  have hzx := hz8 x hx
  have ht4 : t < 4 := by omega
  generalize hu : puB sf t x pc (zz x) wn v (nI an) = u
  have u0 : ∀ k, k ≠ 139 + 4 * t + x → k ≠ 84 + wn → k ≠ 73 + wn → k ≠ 37 + x → k ≠ 15 → ¬ (41 + 8 * x + pc ≤ k ∧ k ≤ 41 + 8 * x + zz x) → u k = sf k := fun k h1 h2 h3 h4 h5 h6 => by
    rw [← hu, puB_at, if_neg h1, if_neg h2, if_neg h3, if_neg h4, if_neg (by omega), if_neg (by omega), if_neg h5]
  have uK : u (139 + 4 * t + x) = nI wn := by rw [← hu, puB_at, if_pos rfl]
  have uA9 : u (84 + wn) = nI an := by rw [← hu, puB_at, if_neg (by omega), if_pos rfl]
  have uV : u (73 + wn) = v := by rw [← hu, puB_at, if_neg (by omega), if_neg (by omega), if_pos rfl]
  have uZ : u (37 + x) = nI (zz x + 1) := by rw [← hu, puB_at, if_neg (by omega), if_neg (by omega), if_neg (by omega), if_pos rfl]
  have uP : u (41 + 8 * x + pc) = nI wn := by rw [← hu, puB_at, if_neg (by omega), if_neg (by omega), if_neg (by omega), if_neg (by omega), if_pos rfl]
  have uM : ∀ q, pc < q → q ≤ zz x → u (41 + 8 * x + q) = sf (41 + 8 * x + (q - 1)) := fun q h1 h2 => by
    rw [← hu, puB_at, if_neg (by omega), if_neg (by omega), if_neg (by omega), if_neg (by omega), if_neg (by omega), if_pos (by omega), if_neg (by omega)]
    congr 1; omega
  generalize hs2 : kwF u t wn 4 = s2
  have k0 : ∀ k, k < 95 + 4 * wn ∨ 95 + 4 * wn + 4 ≤ k → s2 k = u k := fun k hk => by rw [← hs2, kwF_at hw10 4 (Nat.le_refl 4), if_neg (by omega)]
  have kN : ∀ y, y < 4 → s2 (95 + 4 * wn + y) = u (139 + 4 * t + y) := fun y hy => by rw [← hs2, kwF_at hw10 4 (Nat.le_refl 4), if_pos (by omega), Nat.add_sub_cancel_left]
  have o : ∀ k, k ≠ 139 + 4 * t + x → k ≠ 84 + wn → k ≠ 73 + wn → k ≠ 37 + x → k ≠ 15 → ¬ (41 + 8 * x + pc ≤ k ∧ k ≤ 41 + 8 * x + zz x) → ¬ (95 + 4 * wn ≤ k ∧ k < 95 + 4 * wn + 4) → s2 k = sf k := fun k h1 h2 h3 h4 h5 h6 h7 => by
    rw [k0 k (by omega), u0 k h1 h2 h3 h4 h5 h6]
  have r1 : ∀ q, q < pc → s2 (41 + 8 * x + q) = sf (41 + 8 * x + q) := fun q hq => o _ (by omega) (by omega) (by omega) (by omega) (by omega) (by omega) (by omega)
  have r2 : s2 (41 + 8 * x + pc) = nI wn := by rw [k0 _ (by omega), uP]
  have r3 : ∀ q, pc < q → q ≤ zz x → s2 (41 + 8 * x + q) = sf (41 + 8 * x + (q - 1)) := fun q h1 h2 => by rw [k0 _ (by omega), uM q h1 h2]
  have rO : ∀ y, y < 4 → y ≠ x → ∀ q, q < 8 → s2 (41 + 8 * y + q) = sf (41 + 8 * y + q) := fun y hy hne q hq => o _ (by omega) (by omega) (by omega) (by omega) (by omega) (by omega) (by omega)
  -- places of those that stood there
  have plO : ∀ y, y < 4 → ∀ e : Int32, (∃ q, q < zz y ∧ sf (41 + 8 * y + q) = e) → plF s2 y e = shP x pc (fun y => plF sf y e) y := fun y hy e hq => by
    show plF s2 y e = if y = x ∧ pc ≤ plF sf y e then plF sf y e + 1 else plF sf y e
    by_cases c : y = x
    · rw [c] at hq ⊢
      obtain ⟨q, q1, q2⟩ := hq
      obtain ⟨m1, m2, m3⟩ := plF_ok (sf := sf) (y := x) (e := e) ⟨q, by omega, q2⟩
      have hpq : plF sf x e ≤ q := Classical.byContradiction (fun z => m3 q (by omega) q2)
      have ew : ¬ nI wn = e := fun z => by
        obtain ⟨w1, w2⟩ := a10 x hx q q1
        rw [← q2, w1] at z
        have := nI_inj9 (by omega) (by omega) z
        omega
      by_cases d : pc ≤ plF sf x e
      · rw [if_pos ⟨rfl, d⟩]
        refine plF_is (by omega) (by rw [r3 _ (by omega) (by omega), Nat.add_sub_cancel]; exact m2) (fun j hj => ?_)
        rcases Nat.lt_trichotomy j pc with z | z | z
        · rw [r1 j z]; exact m3 j (by omega)
        · rw [z, r2]; exact ew
        · rw [r3 j z (by omega)]; exact m3 (j - 1) (by omega)
      · rw [if_neg (fun z => d z.2)]
        exact plF_is m1 (by rw [r1 _ (by omega)]; exact m2) (fun j hj => by rw [r1 j (by omega)]; exact m3 j hj)
    · rw [if_neg (fun z => c z.1)]
      exact plF_cg (rO y hy c)
  have plW : plF s2 x (nI wn) = pc := plF_is (by omega) r2 (fun j hj => by
    rw [r1 j hj]
    obtain ⟨w1, w2⟩ := a10 x hx j (by omega)
    rw [w1]
    intro z
    have := nI_inj9 (by omega) (by omega) z
    omega)
  -- what each one knows
  have enO : ∀ w, w < wn → enR s2 w = shE x pc (enR sf w) := fun w hw => by
    refine Prod.ext (o _ (by omega) (by omega) (by omega) (by omega) (by omega) (by omega) (by omega)) (Prod.ext ?_ ?_)
    · show (s2 (84 + w)).toNatClampNeg = (sf (84 + w)).toNatClampNeg
      rw [o _ (by omega) (by omega) (by omega) (by omega) (by omega) (by omega) (by omega)]
    · funext y
      show (enR s2 w).2.2 y = shP x pc (enR sf w).2.2 y
      by_cases hy : y < 4
      · rw [enR_at hy, o _ (by omega) (by omega) (by omega) (by omega) (by omega) (by omega) (by omega), plO y hy _ (a11 w hw y hy)]
        unfold shP
        rw [enR_at hy]
      · rw [enR_out hy, shP_x (by omega), enR_out hy]
  have nwe : nwK (abK T sf) t x pc = cutN 4 (fun y => plF s2 y (s2 (95 + 4 * wn + y))) := by
    funext y
    show updN (shP x pc (ktK T sf t)) x pc y = _
    by_cases hy : y < 4
    · rw [cutN_at hy, kN y hy]
      by_cases c : y = x
      · rw [c, updN_s, uK, plW]
      · rw [updN_n c, shP_x c, ktK_at ht hy, u0 _ (by omega) (by omega) (by omega) (by omega) (by omega) (by omega), plF_cg (rO y hy c)]
    · rw [updN_n (by omega), shP_x (by omega), ktK_out (fun q => hy q.2)]
      exact (if_neg hy).symm
  have enN : enR s2 wn = (v, an, nwK (abK T sf) t x pc) := by
    rw [nwe]
    refine Prod.ext (by show s2 (73 + wn) = v; rw [k0 _ (by omega), uV]) (Prod.ext ?_ rfl)
    show (s2 (84 + wn)).toNatClampNeg = an
    rw [k0 _ (by omega), uA9, nI_clamp (by omega)]
  refine Prod.ext (cutN_cg (fun i hi => ?_)) (Prod.ext (cutI_cg (fun k hk => o _ (by omega) (by omega) (by omega) (by omega) (by omega) (by omega) (by omega))) (Prod.ext ?_ ?_))
  · rw [o _ (by omega) (by omega) (by omega) (by omega) (by omega) (by omega) (by omega)]
  · funext y
    show rowsK s2 y = if y = x then ((rowsK sf x).map (shE x pc)).take pc ++ (v, an, nwK (abK T sf) t x pc) :: ((rowsK sf x).map (shE x pc)).drop pc else (rowsK sf y).map (shE x pc)
    by_cases c : y = x
    · rw [if_pos c, c]
      have e2 : zzF s2 x = zz x + 1 := by unfold zzF; rw [k0 _ (by omega), uZ, nI_clamp (by omega)]
      unfold rowsK
      rw [if_pos hx, if_pos hx, e2, c3 x hx]
      obtain ⟨t1, t2⟩ := tk_map (f := fun q => enR sf (roF sf x q)) (g := shE x pc) hpc
      rw [t1, t2]
      have sp := map_split (fun q => enR s2 (roF s2 x q)) pc (1 + (zz x - pc))
      rw [(by omega : pc + (1 + (zz x - pc)) = zz x + 1), map_split _ 1 (zz x - pc)] at sp
      rw [sp]
      refine congr (congrArg _ (List.map_congr_left (fun q hq => ?_))) ?_
      · have hq := List.mem_range.mp hq
        rw [roF_cg (r1 q hq), enO _ (b2 x q hx (by rw [c3 x hx]; omega)).1]
      · show [enR s2 (roF s2 x (pc + 0))] ++ (List.range (zz x - pc)).map (fun i => enR s2 (roF s2 x (pc + (1 + i)))) = _
        have ew : roF s2 x (pc + 0) = wn := by unfold roF; rw [Nat.add_zero, r2, nI_clamp (by omega)]
        rw [ew, enN]
        refine congrArg (fun z => (v, an, nwK (abK T sf) t x pc) :: z) (List.map_congr_left (fun i hi => ?_))
        have hi := List.mem_range.mp hi
        have er : roF s2 x (pc + (1 + i)) = roF sf x (pc + i) := by
          unfold roF
          rw [r3 _ (by omega) (by omega), (by omega : pc + (1 + i) - 1 = pc + i)]
        rw [er, enO _ (b2 x _ hx (by rw [c3 x hx]; omega)).1]
    · rw [if_neg c]
      unfold rowsK
      by_cases hy : y < 4
      · rw [if_pos hy, if_pos hy, zzF_cg (o _ (by omega) (by omega) (by omega) (by omega) (by omega) (by omega) (by omega)), List.map_map]
        refine List.map_congr_left (fun q hq => ?_)
        have hq := List.mem_range.mp hq
        have := (b1 y hy).2
        rw [roF_cg (rO y hy c q (by omega)), enO _ (b2 y q hy hq).1]; rfl
      · rw [if_neg hy, if_neg hy]; rfl
  · funext u9 y
    show ktK T s2 u9 y = (if u9 = t then nwK (abK T sf) t x pc else shP x pc (ktK T sf u9)) y
    by_cases c : u9 = t
    · rw [if_pos c, c, nwe]
      by_cases hy : y < 4
      · rw [ktK_at ht hy, cutN_at hy, kN y hy, k0 _ (by omega)]
      · rw [ktK_out (fun q => hy q.2)]; exact (if_neg hy).symm
    · rw [if_neg c]
      by_cases q : u9 < T ∧ y < 4
      · rw [ktK_at q.1 q.2, o _ (by omega) (by omega) (by omega) (by omega) (by omega) (by omega) (by omega), plO y q.2 _ (a12 u9 (by omega) y q.2)]
        unfold shP
        rw [ktK_at q.1 q.2]
      · rw [ktK_out q]
        unfold shP
        rw [ktK_out q, if_neg (fun z => absurd z.2 (by omega))]
end AKp
