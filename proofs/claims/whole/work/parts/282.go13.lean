set_option maxHeartbeats 4000000 in
set_option maxRecDepth 100000 in
theorem gen_Ref_step_K (l : Launch) (dC : Nat → ClassId) (dI : Nat → Nat → Nat) (ra : Nat) (rA : Nat → Nat) (rK9 : Nat → ClassId) (T Ac md wd mn cb ld gm my : Nat) (ir mr : Int32) (t cn : Nat) (sf vv : Nat → Int32) (zs kd vx rr : Nat → Nat) (fu : Nat) (o9 : Option (Nat → Int32)) (hPr : PrR T zs kd vx rr vv) (hmd : md = 3) (hI : IvK T zs fu sf) (ht : t < T) (hc9 : cn < 9) (ho : stK zs kd vx rr vv sf t cn = o9) (sz : Nat) : Met l y_Ref_step w_Ref_step ({ frames := 4, cells := 0, slots := 0, locals := 200 }) (va_Pc [.ref ra, .int (nI t), .int (nI cn)] (fun U => U.heap.size = sz ∧ va_P (dC, dI) classes [oc ra 8 [.int (nI T), .int (nI Ac), .ref (rA 2), .ref (rA 3), .ref (rA 4), .ref (rA 5), .ref (rA 6), .ref (rA 7), .ref (rA 8), .ref (rA 9), .ref (rA 10), .ref (rA 11), .ref (rA 12), .ref (rA 13), .int ir, .ref (rA 15), .ref (rA 16), .ref (rA 17), .ref (rA 18), .int (nI md), .int (nI wd), .ref (rA 21), .ref (rA 22), .ref (rA 23), .int (nI mn), .ref (rA 25), .int (nI cb), .int mr, .ref (rA 28), .ref (rA 29), .ref (rA 30), .ref (rA 31), .ref (rA 32), .ref (rA 33), .ref (rA 34), .ref (rA 35), .int (nI ld), .int (nI gm), .ref (rA 38), .ref (rA 39), .ref (rA 40), .ref (rA 41), .ref (rA 42), .ref (rA 43), .ref (rA 44), .ref (rA 45), .int (nI my), .ref (rA 47)], ia (rA 16) (rK9 16) 155 sf, ia (rA 2) (rK9 2) 4 (fun i => nI (zs i)), ia (rA 3) (rK9 3) 28 (fun i => nI (kd i)), ia (rA 4) (rK9 4) 28 (fun i => nI (vx i)), ia (rA 5) (rK9 5) 28 (fun i => nI (rr i)), ia (rA 6) (rK9 6) 28 vv] U.heap ∧ va_K (dC, dI) classes [((rK9 16), .int), ((rK9 2), .int), ((rK9 3), .int), ((rK9 4), .int), ((rK9 5), .int), ((rK9 6), .int)] U ∧ va_D (fun _ => True) [oc ra 8 [.int (nI T), .int (nI Ac), .ref (rA 2), .ref (rA 3), .ref (rA 4), .ref (rA 5), .ref (rA 6), .ref (rA 7), .ref (rA 8), .ref (rA 9), .ref (rA 10), .ref (rA 11), .ref (rA 12), .ref (rA 13), .int ir, .ref (rA 15), .ref (rA 16), .ref (rA 17), .ref (rA 18), .int (nI md), .int (nI wd), .ref (rA 21), .ref (rA 22), .ref (rA 23), .int (nI mn), .ref (rA 25), .int (nI cb), .int mr, .ref (rA 28), .ref (rA 29), .ref (rA 30), .ref (rA 31), .ref (rA 32), .ref (rA 33), .ref (rA 34), .ref (rA 35), .int (nI ld), .int (nI gm), .ref (rA 38), .ref (rA 39), .ref (rA 40), .ref (rA 41), .ref (rA 42), .ref (rA 43), .ref (rA 44), .ref (rA 45), .int (nI my), .ref (rA 47)], ia (rA 16) (rK9 16) 155 sf, ia (rA 2) (rK9 2) 4 (fun i => nI (zs i)), ia (rA 3) (rK9 3) 28 (fun i => nI (kd i)), ia (rA 4) (rK9 4) 28 (fun i => nI (vx i)), ia (rA 5) (rK9 5) 28 (fun i => nI (rr i)), ia (rA 6) (rK9 6) 28 vv] ∧ nw U)) (va_Qi (fun (r : Int32) (_ : Unit) => r = if o9.isSome = true then 1 else 0) (fun _ t9 => va_P (dC, dI) classes [oc ra 8 [.int (nI T), .int (nI Ac), .ref (rA 2), .ref (rA 3), .ref (rA 4), .ref (rA 5), .ref (rA 6), .ref (rA 7), .ref (rA 8), .ref (rA 9), .ref (rA 10), .ref (rA 11), .ref (rA 12), .ref (rA 13), .int ir, .ref (rA 15), .ref (rA 16), .ref (rA 17), .ref (rA 18), .int (nI md), .int (nI wd), .ref (rA 21), .ref (rA 22), .ref (rA 23), .int (nI mn), .ref (rA 25), .int (nI cb), .int mr, .ref (rA 28), .ref (rA 29), .ref (rA 30), .ref (rA 31), .ref (rA 32), .ref (rA 33), .ref (rA 34), .ref (rA 35), .int (nI ld), .int (nI gm), .ref (rA 38), .ref (rA 39), .ref (rA 40), .ref (rA 41), .ref (rA 42), .ref (rA 43), .ref (rA 44), .ref (rA 45), .int (nI my), .ref (rA 47)], ia (rA 16) (rK9 16) 155 (o9.getD sf), ia (rA 2) (rK9 2) 4 (fun i => nI (zs i)), ia (rA 3) (rK9 3) 28 (fun i => nI (kd i)), ia (rA 4) (rK9 4) 28 (fun i => nI (vx i)), ia (rA 5) (rK9 5) 28 (fun i => nI (rr i)), ia (rA 6) (rK9 6) 28 vv] t9.heap ∧ va_K (dC, dI) classes [] t9 ∧ va_D (va_A [oc ra 8 [.int (nI T), .int (nI Ac), .ref (rA 2), .ref (rA 3), .ref (rA 4), .ref (rA 5), .ref (rA 6), .ref (rA 7), .ref (rA 8), .ref (rA 9), .ref (rA 10), .ref (rA 11), .ref (rA 12), .ref (rA 13), .int ir, .ref (rA 15), .ref (rA 16), .ref (rA 17), .ref (rA 18), .int (nI md), .int (nI wd), .ref (rA 21), .ref (rA 22), .ref (rA 23), .int (nI mn), .ref (rA 25), .int (nI cb), .int mr, .ref (rA 28), .ref (rA 29), .ref (rA 30), .ref (rA 31), .ref (rA 32), .ref (rA 33), .ref (rA 34), .ref (rA 35), .int (nI ld), .int (nI gm), .ref (rA 38), .ref (rA 39), .ref (rA 40), .ref (rA 41), .ref (rA 42), .ref (rA 43), .ref (rA 44), .ref (rA 45), .int (nI my), .ref (rA 47)], ia (rA 16) (rK9 16) 155 sf, ia (rA 2) (rK9 2) 4 (fun i => nI (zs i)), ia (rA 3) (rK9 3) 28 (fun i => nI (kd i)), ia (rA 4) (rK9 4) 28 (fun i => nI (vx i)), ia (rA 5) (rK9 5) 28 (fun i => nI (rr i)), ia (rA 6) (rK9 6) 28 vv] sz) [oc ra 8 [.int (nI T), .int (nI Ac), .ref (rA 2), .ref (rA 3), .ref (rA 4), .ref (rA 5), .ref (rA 6), .ref (rA 7), .ref (rA 8), .ref (rA 9), .ref (rA 10), .ref (rA 11), .ref (rA 12), .ref (rA 13), .int ir, .ref (rA 15), .ref (rA 16), .ref (rA 17), .ref (rA 18), .int (nI md), .int (nI wd), .ref (rA 21), .ref (rA 22), .ref (rA 23), .int (nI mn), .ref (rA 25), .int (nI cb), .int mr, .ref (rA 28), .ref (rA 29), .ref (rA 30), .ref (rA 31), .ref (rA 32), .ref (rA 33), .ref (rA 34), .ref (rA 35), .int (nI ld), .int (nI gm), .ref (rA 38), .ref (rA 39), .ref (rA 40), .ref (rA 41), .ref (rA 42), .ref (rA 43), .ref (rA 44), .ref (rA 45), .int (nI my), .ref (rA 47)], ia (rA 16) (rK9 16) 155 (o9.getD sf), ia (rA 2) (rK9 2) 4 (fun i => nI (zs i)), ia (rA 3) (rK9 3) 28 (fun i => nI (kd i)), ia (rA 4) (rK9 4) 28 (fun i => nI (vx i)), ia (rA 5) (rK9 5) 28 (fun i => nI (rr i)), ia (rA 6) (rK9 6) 28 vv]) (va_A [oc ra 8 [.int (nI T), .int (nI Ac), .ref (rA 2), .ref (rA 3), .ref (rA 4), .ref (rA 5), .ref (rA 6), .ref (rA 7), .ref (rA 8), .ref (rA 9), .ref (rA 10), .ref (rA 11), .ref (rA 12), .ref (rA 13), .int ir, .ref (rA 15), .ref (rA 16), .ref (rA 17), .ref (rA 18), .int (nI md), .int (nI wd), .ref (rA 21), .ref (rA 22), .ref (rA 23), .int (nI mn), .ref (rA 25), .int (nI cb), .int mr, .ref (rA 28), .ref (rA 29), .ref (rA 30), .ref (rA 31), .ref (rA 32), .ref (rA 33), .ref (rA 34), .ref (rA 35), .int (nI ld), .int (nI gm), .ref (rA 38), .ref (rA 39), .ref (rA 40), .ref (rA 41), .ref (rA 42), .ref (rA 43), .ref (rA 44), .ref (rA 45), .int (nI my), .ref (rA 47)], ia (rA 16) (rK9 16) 155 sf, ia (rA 2) (rK9 2) 4 (fun i => nI (zs i)), ia (rA 3) (rK9 3) 28 (fun i => nI (kd i)), ia (rA 4) (rK9 4) 28 (fun i => nI (vx i)), ia (rA 5) (rK9 5) 28 (fun i => nI (rr i)), ia (rA 6) (rK9 6) 28 vv] sz)) 0 0 (va_A [oc ra 8 [.int (nI T), .int (nI Ac), .ref (rA 2), .ref (rA 3), .ref (rA 4), .ref (rA 5), .ref (rA 6), .ref (rA 7), .ref (rA 8), .ref (rA 9), .ref (rA 10), .ref (rA 11), .ref (rA 12), .ref (rA 13), .int ir, .ref (rA 15), .ref (rA 16), .ref (rA 17), .ref (rA 18), .int (nI md), .int (nI wd), .ref (rA 21), .ref (rA 22), .ref (rA 23), .int (nI mn), .ref (rA 25), .int (nI cb), .int mr, .ref (rA 28), .ref (rA 29), .ref (rA 30), .ref (rA 31), .ref (rA 32), .ref (rA 33), .ref (rA 34), .ref (rA 35), .int (nI ld), .int (nI gm), .ref (rA 38), .ref (rA 39), .ref (rA 40), .ref (rA 41), .ref (rA 42), .ref (rA 43), .ref (rA 44), .ref (rA 45), .int (nI my), .ref (rA 47)], ia (rA 16) (rK9 16) 155 sf, ia (rA 2) (rK9 2) 4 (fun i => nI (zs i)), ia (rA 3) (rK9 3) 28 (fun i => nI (kd i)), ia (rA 4) (rK9 4) 28 (fun i => nI (vx i)), ia (rA 5) (rK9 5) 28 (fun i => nI (rr i)), ia (rA 6) (rK9 6) 28 vv] sz) := by
  obtain ⟨r1, r2, r3, r4⟩ := hPr
  obtain ⟨pl, zz, ro0, ad0, wn, rm, hK9, hfu⟩ := hI
  obtain ⟨c1, c2, c3, c4, c5, c6⟩ := KD_rd r1 r2 hK9
  have hz8 := KD_z8 hK9
  have ht4 : t < 4 := by omega
  have hz7 := r2 t ht
  obtain ⟨p9, hp0⟩ : ∃ p9, pl t = p9 := ⟨_, rfl⟩
  have hp9 : sf t = nI p9 := by rw [← hp0]; exact hK9.1 t ht4
  have hp7 : p9 ≤ 7 := by rw [← hp0]; exact (c1 t ht4).2
  have hcl : (sf t).toNatClampNeg = p9 := by rw [← hp0]; exact (c1 t ht4).1
  have hm4 : md < 4 := by omega
  have h15 : sf 15 = nI wn := hK9.2.2.2.1
  have hsm := smN_at (f := fun t => zs t - pl t) T ht
  have hsm2 : zs t - p9 ≤ rm := by rw [hK9.2.2.2.2.1, ← hp0]; exact hsm
  have hrw : rm + wn ≤ 11 := hK9.2.2.2.2.2.1
  have hrow : ∀ x, x < 4 → sf (37 + x) = nI (zzF sf x) ∧ zzF sf x + 3 ≤ wn ∧ 1 ≤ zzF sf x := fun x hx => by rw [c3 x hx]; exact ⟨(hK9.2.2.2.2.2.2.2.1 x hx).1, (hz8 x hx).1, (hz8 x hx).2.1⟩
  have hen : ∀ x, x < 4 → ∀ q, q < zzF sf x → sf (41 + 8 * x + q) = nI (roF sf x q) ∧ roF sf x q < 11 := fun x hx q hq => by rw [c3 x hx] at hq; obtain ⟨-, b2, b3, -⟩ := c4 x hx q hq; exact ⟨b2, by omega⟩
  have hadd : ∀ x, x < 4 → ∀ q, q < zzF sf x → sf (84 + roF sf x q) = nI (adF sf x q) ∧ adF sf x q < 2 := fun x hx q hq => by rw [c3 x hx] at hq; exact (c4 x hx q hq).2.2.2
  have hpi : ∀ x, x < 4 → ∀ q, q < zzF sf x → ∀ y, y < 4 → plF sf y (sf (95 + 4 * roF sf x q + y)) < 8 ∧ sf (41 + 8 * y + plF sf y (sf (95 + 4 * roF sf x q + y))) = sf (95 + 4 * roF sf x q + y) ∧ ∀ i, i < plF sf y (sf (95 + 4 * roF sf x q + y)) → ¬ sf (41 + 8 * y + i) = sf (95 + 4 * roF sf x q + y) := fun x hx q hq y hy => by rw [c3 x hx] at hq; exact plF_ok (c5 _ (c4 x hx q hq).2.2.1 y hy)
  have hpm : ∀ y, y < 4 → plF sf y (sf (139 + 4 * t + y)) < 8 ∧ sf (41 + 8 * y + plF sf y (sf (139 + 4 * t + y))) = sf (139 + 4 * t + y) ∧ ∀ i, i < plF sf y (sf (139 + 4 * t + y)) → ¬ sf (41 + 8 * y + i) = sf (139 + 4 * t + y) := fun y hy => plF_ok (c6 t ht4 y hy)
  unfold stK at ho
  rw [hcl, c2] at ho
  clear hp0 c1 c2 c3 c4 c5 c6 hz8 hsm hK9
  by_cases hmr : p9 < zs t
  · skip
    rw [if_neg (fun q => q hmr)] at ho
    obtain ⟨d1, d2, d3, d4, d5⟩ := r4 (7 * t + p9) (by omega)
    by_cases k5 : kd (7 * t + p9) = 5
    · skip
      rw [if_pos k5] at ho
      by_cases cz : cn = 0
      · skip
        rw [if_pos cz] at ho
        by_cases hcd : sf (4 + 2 * t + rr (7 * t + p9)) = vv (7 * t + p9)
        · skip
          have ho2 : o9 = some (upd sf t (nI (p9 + 1))) := by rw [← ho, skR, if_pos hcd]
          subst ho2
          refine Met_cons (Met_room (by decide) (by decide) (gen_Ref_step_skip_e l dC dI ra rA rK9 T Ac md wd mn cb ld gm my ir mr t p9 cn sf vv zs kd vx rr ht4 hc9 hm4 hp9 hp7 hz7 hmr d1 k5 cz d3 d2 hcd sz)) (fun _ _ h => h) (fun a st o t _ hq => ?_)
          obtain ⟨⟨r, u, w1, w2, hP, hK, hD9⟩, hF⟩ := hq
          exact ⟨⟨r, u, w1, w2.trans rfl, hP, hK, hD9⟩, hF⟩
        · skip
          have ho2 : o9 = some (upd (upd sf t (nI (p9 + 1))) t (nI (if zs t < p9 + 1 + vx (7 * t + p9) then zs t else p9 + 1 + vx (7 * t + p9)))) := by rw [← ho, skR, if_neg hcd]
          subst ho2
          refine Met_cons (Met_room (by decide) (by decide) (gen_Ref_step_skip_n l dC dI ra rA rK9 T Ac md wd mn cb ld gm my ir mr t p9 cn sf vv zs kd vx rr ht4 hc9 hm4 hp9 hp7 hz7 hmr d1 k5 cz d3 d2 hcd sz)) (fun _ _ h => h) (fun a st o t _ hq => ?_)
          obtain ⟨⟨r, u, w1, w2, hP, hK, hD9⟩, hF⟩ := hq
          exact ⟨⟨r, u, w1, w2.trans rfl, hP, hK, hD9⟩, hF⟩
      · skip
        have ho2 : o9 = none := by rw [← ho, if_neg cz]
        subst ho2
        refine Met_cons (Met_room (by decide) (by decide) (gen_Ref_step_s_3 l dC dI ra rA rK9 T Ac md wd mn cb ld gm my ir mr t p9 cn sf vv zs kd vx rr ht4 hc9 hm4 hp9 hp7 hz7 hmr d1 k5 hmd (by omega) sz)) (fun _ _ h => h) (fun a st o t _ hq => ?_)
        obtain ⟨⟨r, u, w1, w2, hP, hK, hD9⟩, hF⟩ := hq
        exact ⟨⟨r, u, w1, w2.trans rfl, hP, hK, hD9⟩, hF⟩
    · skip
      rw [if_neg k5] at ho
      by_cases k4 : kd (7 * t + p9) = 4
      · skip
        rw [if_pos k4] at ho
        obtain ⟨g1, g2, g3⟩ := hrow 3 (by decide)
        by_cases cz : cn = 0
        · skip
          rw [if_pos cz] at ho
          have ho2 : o9 = some (fnK sf t wn) := by rw [← ho]
          subst ho2
          refine Met_cons (Met_room (by decide) (by decide) (gen_Ref_step_ky l dC dI ra rA rK9 T Ac md wd mn cb ld gm my ir mr t p9 cn sf vv zs kd vx rr (fnK sf t wn) ht4 hc9 hm4 hp9 hp7 hz7 hmr d1 k5 hmd (fun sz => gen_Ref_known_4y l dC dI ra rA rK9 T Ac md wd mn cb ld gm my ir mr t (7 * t + p9) cn sf vv kd vx rr (zzF sf 3) wn (roF sf 3 (zzF sf 3 - 1)) (fun y => plF sf y (sf (95 + 4 * (roF sf 3 (zzF sf 3 - 1)) + y))) (fun y => plF sf y (sf (139 + 4 * t + y))) ht4 (by omega) k4 hc9 cz g3 (by omega) g1 (by have := hen 3 (by decide) (zzF sf 3 - 1) (by omega); exact this) h15 (by omega) (hpi 3 (by decide) _ (by omega)) hpm sz) sz)) (fun _ _ h => h) (fun a st o t _ hq => ?_)
          obtain ⟨⟨r, u, w1, w2, hP, hK, hD9⟩, hF⟩ := hq
          exact ⟨⟨r, u, w1, w2.trans rfl, hP, hK, hD9⟩, hF⟩
        · skip
          have ho2 : o9 = none := by rw [← ho, if_neg cz]
          subst ho2
          refine Met_cons (Met_room (by decide) (by decide) (gen_Ref_step_kn l dC dI ra rA rK9 T Ac md wd mn cb ld gm my ir mr t p9 cn sf vv zs kd vx rr sf ht4 hc9 hm4 hp9 hp7 hz7 hmr d1 k5 hmd (fun sz => gen_Ref_known_4n l dC dI ra rA rK9 T Ac md wd mn cb ld gm my ir mr t (7 * t + p9) cn sf vv kd vx rr 0 0 0 (fun _ => 0) (fun _ => 0) ht4 (by omega) k4 hc9 cz sz) sz)) (fun _ _ h => h) (fun a st o t _ hq => ?_)
          obtain ⟨⟨r, u, w1, w2, hP, hK, hD9⟩, hF⟩ := hq
          exact ⟨⟨r, u, w1, w2.trans rfl, hP, hK, hD9⟩, hF⟩
      · skip
        rw [if_neg k4] at ho
        have hv3 := d5 (by omega)
        obtain ⟨g1, g2, g3⟩ := hrow (vx (7 * t + p9)) (by omega)
        by_cases k0 : kd (7 * t + p9) = 0
        · skip
          rw [if_pos k0] at ho
          by_cases hcc : (poK vx sf t (7 * t + p9)) ≤ cn ∧ cn < (zzF sf (vx (7 * t + p9)))
          · skip
            have ho2 : o9 = some (rdK rr sf t (7 * t + p9) (roF sf (vx (7 * t + p9)) cn)) := by rw [← ho, if_pos hcc]
            subst ho2
            refine Met_cons (Met_room (by decide) (by decide) (gen_Ref_step_ky l dC dI ra rA rK9 T Ac md wd mn cb ld gm my ir mr t p9 cn sf vv zs kd vx rr (rdK rr sf t (7 * t + p9) (roF sf (vx (7 * t + p9)) cn)) ht4 hc9 hm4 hp9 hp7 hz7 hmr d1 k5 hmd (fun sz => gen_Ref_known_0y l dC dI ra rA rK9 T Ac md wd mn cb ld gm my ir mr t (7 * t + p9) cn sf vv kd vx rr (zzF sf (vx (7 * t + p9))) (poK vx sf t (7 * t + p9)) wn (roF sf (vx (7 * t + p9))) (adF sf (vx (7 * t + p9))) (fun y => plF sf y (sf (95 + 4 * roF sf (vx (7 * t + p9)) cn + y))) (fun y => plF sf y (sf (139 + 4 * t + y))) ht4 (by omega) k0 hv3 d3 hc9 (by omega) g1 (hpm (vx (7 * t + p9)) (by omega)) (hen (vx (7 * t + p9)) (by omega)) (hadd (vx (7 * t + p9)) (by omega)) hcc (hpi (vx (7 * t + p9)) (by omega) cn hcc.2) hpm sz) sz)) (fun _ _ h => h) (fun a st o t _ hq => ?_)
            obtain ⟨⟨r, u, w1, w2, hP, hK, hD9⟩, hF⟩ := hq
            exact ⟨⟨r, u, w1, w2.trans rfl, hP, hK, hD9⟩, hF⟩
          · skip
            have ho2 : o9 = none := by rw [← ho, if_neg hcc]
            subst ho2
            refine Met_cons (Met_room (by decide) (by decide) (gen_Ref_step_kn l dC dI ra rA rK9 T Ac md wd mn cb ld gm my ir mr t p9 cn sf vv zs kd vx rr sf ht4 hc9 hm4 hp9 hp7 hz7 hmr d1 k5 hmd (fun sz => gen_Ref_known_0n l dC dI ra rA rK9 T Ac md wd mn cb ld gm my ir mr t (7 * t + p9) cn sf vv kd vx rr (zzF sf (vx (7 * t + p9))) (poK vx sf t (7 * t + p9)) wn (roF sf (vx (7 * t + p9))) (adF sf (vx (7 * t + p9))) (fun y => plF sf y (sf (95 + 4 * roF sf (vx (7 * t + p9)) cn + y))) (fun y => plF sf y (sf (139 + 4 * t + y))) ht4 (by omega) k0 hv3 d3 hc9 (by omega) g1 (hpm (vx (7 * t + p9)) (by omega)) (hen (vx (7 * t + p9)) (by omega)) (hadd (vx (7 * t + p9)) (by omega)) hcc sz) sz)) (fun _ _ h => h) (fun a st o t _ hq => ?_)
            obtain ⟨⟨r, u, w1, w2, hP, hK, hD9⟩, hF⟩ := hq
            exact ⟨⟨r, u, w1, w2.trans rfl, hP, hK, hD9⟩, hF⟩
        · skip
          rw [if_neg k0] at ho
          by_cases k3 : kd (7 * t + p9) = 3
          · skip
            rw [if_pos k3] at ho
            by_cases hcc : ((poK vx sf t (7 * t + p9)) ≤ cn ∧ cn < (zzF sf (vx (7 * t + p9)))) ∧ ¬ (cn + 1 < (zzF sf (vx (7 * t + p9))) ∧ adF sf (vx (7 * t + p9)) (cn + 1) = 1)
            · skip
              have ho2 : o9 = some (adK vx rr vv sf t (7 * t + p9) cn wn) := by rw [← ho, if_pos hcc]
              subst ho2
              refine Met_cons (Met_room (by decide) (by decide) (gen_Ref_step_ky l dC dI ra rA rK9 T Ac md wd mn cb ld gm my ir mr t p9 cn sf vv zs kd vx rr (adK vx rr vv sf t (7 * t + p9) cn wn) ht4 hc9 hm4 hp9 hp7 hz7 hmr d1 k5 hmd (fun sz => gen_Ref_known_3y l dC dI ra rA rK9 T Ac md wd mn cb ld gm my ir mr t (7 * t + p9) cn sf vv kd vx rr (zzF sf (vx (7 * t + p9))) (poK vx sf t (7 * t + p9)) wn (roF sf (vx (7 * t + p9))) (adF sf (vx (7 * t + p9))) (fun y => plF sf y (sf (95 + 4 * roF sf (vx (7 * t + p9)) cn + y))) (fun y => plF sf y (sf (139 + 4 * t + y))) ht4 (by omega) k3 hv3 d3 hc9 (by omega) g1 (hpm (vx (7 * t + p9)) (by omega)) (hen (vx (7 * t + p9)) (by omega)) (hadd (vx (7 * t + p9)) (by omega)) hcc (hpi (vx (7 * t + p9)) (by omega) cn hcc.1.2) hpm h15 (by omega) (by omega) sz) sz)) (fun _ _ h => h) (fun a st o t _ hq => ?_)
              obtain ⟨⟨r, u, w1, w2, hP, hK, hD9⟩, hF⟩ := hq
              exact ⟨⟨r, u, w1, w2.trans rfl, hP, hK, hD9⟩, hF⟩
            · skip
              have ho2 : o9 = none := by rw [← ho, if_neg hcc]
              subst ho2
              refine Met_cons (Met_room (by decide) (by decide) (gen_Ref_step_kn l dC dI ra rA rK9 T Ac md wd mn cb ld gm my ir mr t p9 cn sf vv zs kd vx rr sf ht4 hc9 hm4 hp9 hp7 hz7 hmr d1 k5 hmd (fun sz => gen_Ref_known_3n l dC dI ra rA rK9 T Ac md wd mn cb ld gm my ir mr t (7 * t + p9) cn sf vv kd vx rr (zzF sf (vx (7 * t + p9))) (poK vx sf t (7 * t + p9)) wn (roF sf (vx (7 * t + p9))) (adF sf (vx (7 * t + p9))) (fun y => plF sf y (sf (95 + 4 * roF sf (vx (7 * t + p9)) cn + y))) (fun y => plF sf y (sf (139 + 4 * t + y))) ht4 (by omega) k3 hv3 d3 hc9 (by omega) g1 (hpm (vx (7 * t + p9)) (by omega)) (hen (vx (7 * t + p9)) (by omega)) (hadd (vx (7 * t + p9)) (by omega)) hcc sz) sz)) (fun _ _ h => h) (fun a st o t _ hq => ?_)
              obtain ⟨⟨r, u, w1, w2, hP, hK, hD9⟩, hF⟩ := hq
              exact ⟨⟨r, u, w1, w2.trans rfl, hP, hK, hD9⟩, hF⟩
          · skip
            rw [if_neg k3] at ho
            by_cases k1 : kd (7 * t + p9) = 1
            · skip
              by_cases hcc : ((poK vx sf t (7 * t + p9)) < cn ∧ cn ≤ (zzF sf (vx (7 * t + p9)))) ∧ ¬ (cn < (zzF sf (vx (7 * t + p9))) ∧ adF sf (vx (7 * t + p9)) cn = 1)
              · skip
                have ho2 : o9 = some (kwF (puB (upd sf t (sf t + 1)) t (vx (7 * t + p9)) cn (zzF sf (vx (7 * t + p9))) wn (vv (7 * t + p9)) 0) t wn 4) := by rw [← ho, if_pos hcc, wrK, if_pos k1]
                subst ho2
                refine Met_cons (Met_room (by decide) (by decide) (gen_Ref_step_ky l dC dI ra rA rK9 T Ac md wd mn cb ld gm my ir mr t p9 cn sf vv zs kd vx rr (kwF (puB (upd sf t (sf t + 1)) t (vx (7 * t + p9)) cn (zzF sf (vx (7 * t + p9))) wn (vv (7 * t + p9)) 0) t wn 4) ht4 hc9 hm4 hp9 hp7 hz7 hmr d1 k5 hmd (fun sz => gen_Ref_known_1y l dC dI ra rA rK9 T Ac md wd mn cb ld gm my ir mr t (7 * t + p9) cn sf vv kd vx rr (zzF sf (vx (7 * t + p9))) (poK vx sf t (7 * t + p9)) wn (roF sf (vx (7 * t + p9))) (adF sf (vx (7 * t + p9))) (fun y => plF sf y (sf (95 + 4 * roF sf (vx (7 * t + p9)) cn + y))) (fun y => plF sf y (sf (139 + 4 * t + y))) ht4 (by omega) k1 hv3 d3 hc9 (by omega) g1 (hpm (vx (7 * t + p9)) (by omega)) (hen (vx (7 * t + p9)) (by omega)) (hadd (vx (7 * t + p9)) (by omega)) hcc h15 (by omega) (by omega) sz) sz)) (fun _ _ h => h) (fun a st o t _ hq => ?_)
                obtain ⟨⟨r, u, w1, w2, hP, hK, hD9⟩, hF⟩ := hq
                exact ⟨⟨r, u, w1, w2.trans rfl, hP, hK, hD9⟩, hF⟩
              · skip
                have ho2 : o9 = none := by rw [← ho, if_neg hcc]
                subst ho2
                refine Met_cons (Met_room (by decide) (by decide) (gen_Ref_step_kn l dC dI ra rA rK9 T Ac md wd mn cb ld gm my ir mr t p9 cn sf vv zs kd vx rr sf ht4 hc9 hm4 hp9 hp7 hz7 hmr d1 k5 hmd (fun sz => gen_Ref_known_1n l dC dI ra rA rK9 T Ac md wd mn cb ld gm my ir mr t (7 * t + p9) cn sf vv kd vx rr (zzF sf (vx (7 * t + p9))) (poK vx sf t (7 * t + p9)) wn (roF sf (vx (7 * t + p9))) (adF sf (vx (7 * t + p9))) (fun y => plF sf y (sf (95 + 4 * roF sf (vx (7 * t + p9)) cn + y))) (fun y => plF sf y (sf (139 + 4 * t + y))) ht4 (by omega) k1 hv3 d3 hc9 (by omega) g1 (hpm (vx (7 * t + p9)) (by omega)) (hen (vx (7 * t + p9)) (by omega)) (hadd (vx (7 * t + p9)) (by omega)) hcc sz) sz)) (fun _ _ h => h) (fun a st o t _ hq => ?_)
                obtain ⟨⟨r, u, w1, w2, hP, hK, hD9⟩, hF⟩ := hq
                exact ⟨⟨r, u, w1, w2.trans rfl, hP, hK, hD9⟩, hF⟩
            · skip
              by_cases hcc : ((poK vx sf t (7 * t + p9)) < cn ∧ cn ≤ (zzF sf (vx (7 * t + p9)))) ∧ ¬ (cn < (zzF sf (vx (7 * t + p9))) ∧ adF sf (vx (7 * t + p9)) cn = 1)
              · skip
                have ho2 : o9 = some (kwF (puB (upd sf t (sf t + 1)) t (vx (7 * t + p9)) cn (zzF sf (vx (7 * t + p9))) wn (sf (4 + 2 * t + rr (7 * t + p9)) + vv (7 * t + p9)) 0) t wn 4) := by rw [← ho, if_pos hcc, wrK, if_neg k1]
                subst ho2
                refine Met_cons (Met_room (by decide) (by decide) (gen_Ref_step_ky l dC dI ra rA rK9 T Ac md wd mn cb ld gm my ir mr t p9 cn sf vv zs kd vx rr (kwF (puB (upd sf t (sf t + 1)) t (vx (7 * t + p9)) cn (zzF sf (vx (7 * t + p9))) wn (sf (4 + 2 * t + rr (7 * t + p9)) + vv (7 * t + p9)) 0) t wn 4) ht4 hc9 hm4 hp9 hp7 hz7 hmr d1 k5 hmd (fun sz => gen_Ref_known_2y l dC dI ra rA rK9 T Ac md wd mn cb ld gm my ir mr t (7 * t + p9) cn sf vv kd vx rr (zzF sf (vx (7 * t + p9))) (poK vx sf t (7 * t + p9)) wn (roF sf (vx (7 * t + p9))) (adF sf (vx (7 * t + p9))) (fun y => plF sf y (sf (95 + 4 * roF sf (vx (7 * t + p9)) cn + y))) (fun y => plF sf y (sf (139 + 4 * t + y))) ht4 (by omega) (by omega) hv3 d3 hc9 (by omega) g1 (hpm (vx (7 * t + p9)) (by omega)) (hen (vx (7 * t + p9)) (by omega)) (hadd (vx (7 * t + p9)) (by omega)) hcc h15 (by omega) (by omega) sz) sz)) (fun _ _ h => h) (fun a st o t _ hq => ?_)
                obtain ⟨⟨r, u, w1, w2, hP, hK, hD9⟩, hF⟩ := hq
                exact ⟨⟨r, u, w1, w2.trans rfl, hP, hK, hD9⟩, hF⟩
              · skip
                have ho2 : o9 = none := by rw [← ho, if_neg hcc]
                subst ho2
                refine Met_cons (Met_room (by decide) (by decide) (gen_Ref_step_kn l dC dI ra rA rK9 T Ac md wd mn cb ld gm my ir mr t p9 cn sf vv zs kd vx rr sf ht4 hc9 hm4 hp9 hp7 hz7 hmr d1 k5 hmd (fun sz => gen_Ref_known_2n l dC dI ra rA rK9 T Ac md wd mn cb ld gm my ir mr t (7 * t + p9) cn sf vv kd vx rr (zzF sf (vx (7 * t + p9))) (poK vx sf t (7 * t + p9)) wn (roF sf (vx (7 * t + p9))) (adF sf (vx (7 * t + p9))) (fun y => plF sf y (sf (95 + 4 * roF sf (vx (7 * t + p9)) cn + y))) (fun y => plF sf y (sf (139 + 4 * t + y))) ht4 (by omega) (by omega) hv3 d3 hc9 (by omega) g1 (hpm (vx (7 * t + p9)) (by omega)) (hen (vx (7 * t + p9)) (by omega)) (hadd (vx (7 * t + p9)) (by omega)) hcc sz) sz)) (fun _ _ h => h) (fun a st o t _ hq => ?_)
                obtain ⟨⟨r, u, w1, w2, hP, hK, hD9⟩, hF⟩ := hq
                exact ⟨⟨r, u, w1, w2.trans rfl, hP, hK, hD9⟩, hF⟩
  · skip
    have ho2 : o9 = none := by rw [← ho, if_pos hmr]
    subst ho2
    refine Met_cons (Met_room (by decide) (by decide) (gen_Ref_step_ke l dC dI ra rA rK9 T Ac md wd mn cb ld gm my ir mr t p9 cn sf vv zs kd vx rr ht4 hc9 hm4 hp9 hp7 hz7 (by omega) hmd sz)) (fun _ _ h => h) (fun a st o t _ hq => ?_)
    obtain ⟨⟨r, u, w1, w2, hP, hK, hD9⟩, hF⟩ := hq
    exact ⟨⟨r, u, w1, w2.trans rfl, hP, hK, hD9⟩, hF⟩
