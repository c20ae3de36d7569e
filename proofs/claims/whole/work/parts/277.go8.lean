set_option maxHeartbeats 4000000 in
set_option maxRecDepth 100000 in
theorem gen_Ref_step_B (l : Launch) (dC : Nat → ClassId) (dI : Nat → Nat → Nat) (ra : Nat) (rA : Nat → Nat) (rK9 : Nat → ClassId) (T Ac md wd mn cb ld gm my : Nat) (ir mr : Int32) (t cn : Nat) (sf vv : Nat → Int32) (zs kd vx rr : Nat → Nat) (fu : Nat) (o9 : Option (Nat → Int32)) (hPr : PrR T zs kd vx rr vv) (hmd : md < 3) (hI : IvB T zs fu sf) (ht : t < T) (hc9 : cn < 9) (ho : stQ md zs kd vx rr vv sf t cn = o9) (sz : Nat) : Met l y_Ref_step w_Ref_step ({ frames := 4, cells := 0, slots := 0, locals := 200 }) (va_Pc [.ref ra, .int (nI t), .int (nI cn)] (fun U => U.heap.size = sz ∧ va_P (dC, dI) classes [oc ra 8 [.int (nI T), .int (nI Ac), .ref (rA 2), .ref (rA 3), .ref (rA 4), .ref (rA 5), .ref (rA 6), .ref (rA 7), .ref (rA 8), .ref (rA 9), .ref (rA 10), .ref (rA 11), .ref (rA 12), .ref (rA 13), .int ir, .ref (rA 15), .ref (rA 16), .ref (rA 17), .ref (rA 18), .int (nI md), .int (nI wd), .ref (rA 21), .ref (rA 22), .ref (rA 23), .int (nI mn), .ref (rA 25), .int (nI cb), .int mr, .ref (rA 28), .ref (rA 29), .ref (rA 30), .ref (rA 31), .ref (rA 32), .ref (rA 33), .ref (rA 34), .ref (rA 35), .int (nI ld), .int (nI gm), .ref (rA 38), .ref (rA 39), .ref (rA 40), .ref (rA 41), .ref (rA 42), .ref (rA 43), .ref (rA 44), .ref (rA 45), .int (nI my), .ref (rA 47)], ia (rA 16) (rK9 16) 155 sf, ia (rA 2) (rK9 2) 4 (fun i => nI (zs i)), ia (rA 3) (rK9 3) 28 (fun i => nI (kd i)), ia (rA 4) (rK9 4) 28 (fun i => nI (vx i)), ia (rA 5) (rK9 5) 28 (fun i => nI (rr i)), ia (rA 6) (rK9 6) 28 vv] U.heap ∧ va_K (dC, dI) classes [((rK9 16), .int), ((rK9 2), .int), ((rK9 3), .int), ((rK9 4), .int), ((rK9 5), .int), ((rK9 6), .int)] U ∧ va_D (fun _ => True) [oc ra 8 [.int (nI T), .int (nI Ac), .ref (rA 2), .ref (rA 3), .ref (rA 4), .ref (rA 5), .ref (rA 6), .ref (rA 7), .ref (rA 8), .ref (rA 9), .ref (rA 10), .ref (rA 11), .ref (rA 12), .ref (rA 13), .int ir, .ref (rA 15), .ref (rA 16), .ref (rA 17), .ref (rA 18), .int (nI md), .int (nI wd), .ref (rA 21), .ref (rA 22), .ref (rA 23), .int (nI mn), .ref (rA 25), .int (nI cb), .int mr, .ref (rA 28), .ref (rA 29), .ref (rA 30), .ref (rA 31), .ref (rA 32), .ref (rA 33), .ref (rA 34), .ref (rA 35), .int (nI ld), .int (nI gm), .ref (rA 38), .ref (rA 39), .ref (rA 40), .ref (rA 41), .ref (rA 42), .ref (rA 43), .ref (rA 44), .ref (rA 45), .int (nI my), .ref (rA 47)], ia (rA 16) (rK9 16) 155 sf, ia (rA 2) (rK9 2) 4 (fun i => nI (zs i)), ia (rA 3) (rK9 3) 28 (fun i => nI (kd i)), ia (rA 4) (rK9 4) 28 (fun i => nI (vx i)), ia (rA 5) (rK9 5) 28 (fun i => nI (rr i)), ia (rA 6) (rK9 6) 28 vv] ∧ nw U)) (va_Qi (fun (r : Int32) (_ : Unit) => r = if o9.isSome = true then 1 else 0) (fun _ t9 => va_P (dC, dI) classes [oc ra 8 [.int (nI T), .int (nI Ac), .ref (rA 2), .ref (rA 3), .ref (rA 4), .ref (rA 5), .ref (rA 6), .ref (rA 7), .ref (rA 8), .ref (rA 9), .ref (rA 10), .ref (rA 11), .ref (rA 12), .ref (rA 13), .int ir, .ref (rA 15), .ref (rA 16), .ref (rA 17), .ref (rA 18), .int (nI md), .int (nI wd), .ref (rA 21), .ref (rA 22), .ref (rA 23), .int (nI mn), .ref (rA 25), .int (nI cb), .int mr, .ref (rA 28), .ref (rA 29), .ref (rA 30), .ref (rA 31), .ref (rA 32), .ref (rA 33), .ref (rA 34), .ref (rA 35), .int (nI ld), .int (nI gm), .ref (rA 38), .ref (rA 39), .ref (rA 40), .ref (rA 41), .ref (rA 42), .ref (rA 43), .ref (rA 44), .ref (rA 45), .int (nI my), .ref (rA 47)], ia (rA 16) (rK9 16) 155 (o9.getD sf), ia (rA 2) (rK9 2) 4 (fun i => nI (zs i)), ia (rA 3) (rK9 3) 28 (fun i => nI (kd i)), ia (rA 4) (rK9 4) 28 (fun i => nI (vx i)), ia (rA 5) (rK9 5) 28 (fun i => nI (rr i)), ia (rA 6) (rK9 6) 28 vv] t9.heap ∧ va_K (dC, dI) classes [] t9 ∧ va_D (va_A [oc ra 8 [.int (nI T), .int (nI Ac), .ref (rA 2), .ref (rA 3), .ref (rA 4), .ref (rA 5), .ref (rA 6), .ref (rA 7), .ref (rA 8), .ref (rA 9), .ref (rA 10), .ref (rA 11), .ref (rA 12), .ref (rA 13), .int ir, .ref (rA 15), .ref (rA 16), .ref (rA 17), .ref (rA 18), .int (nI md), .int (nI wd), .ref (rA 21), .ref (rA 22), .ref (rA 23), .int (nI mn), .ref (rA 25), .int (nI cb), .int mr, .ref (rA 28), .ref (rA 29), .ref (rA 30), .ref (rA 31), .ref (rA 32), .ref (rA 33), .ref (rA 34), .ref (rA 35), .int (nI ld), .int (nI gm), .ref (rA 38), .ref (rA 39), .ref (rA 40), .ref (rA 41), .ref (rA 42), .ref (rA 43), .ref (rA 44), .ref (rA 45), .int (nI my), .ref (rA 47)], ia (rA 16) (rK9 16) 155 sf, ia (rA 2) (rK9 2) 4 (fun i => nI (zs i)), ia (rA 3) (rK9 3) 28 (fun i => nI (kd i)), ia (rA 4) (rK9 4) 28 (fun i => nI (vx i)), ia (rA 5) (rK9 5) 28 (fun i => nI (rr i)), ia (rA 6) (rK9 6) 28 vv] sz) [oc ra 8 [.int (nI T), .int (nI Ac), .ref (rA 2), .ref (rA 3), .ref (rA 4), .ref (rA 5), .ref (rA 6), .ref (rA 7), .ref (rA 8), .ref (rA 9), .ref (rA 10), .ref (rA 11), .ref (rA 12), .ref (rA 13), .int ir, .ref (rA 15), .ref (rA 16), .ref (rA 17), .ref (rA 18), .int (nI md), .int (nI wd), .ref (rA 21), .ref (rA 22), .ref (rA 23), .int (nI mn), .ref (rA 25), .int (nI cb), .int mr, .ref (rA 28), .ref (rA 29), .ref (rA 30), .ref (rA 31), .ref (rA 32), .ref (rA 33), .ref (rA 34), .ref (rA 35), .int (nI ld), .int (nI gm), .ref (rA 38), .ref (rA 39), .ref (rA 40), .ref (rA 41), .ref (rA 42), .ref (rA 43), .ref (rA 44), .ref (rA 45), .int (nI my), .ref (rA 47)], ia (rA 16) (rK9 16) 155 (o9.getD sf), ia (rA 2) (rK9 2) 4 (fun i => nI (zs i)), ia (rA 3) (rK9 3) 28 (fun i => nI (kd i)), ia (rA 4) (rK9 4) 28 (fun i => nI (vx i)), ia (rA 5) (rK9 5) 28 (fun i => nI (rr i)), ia (rA 6) (rK9 6) 28 vv]) (va_A [oc ra 8 [.int (nI T), .int (nI Ac), .ref (rA 2), .ref (rA 3), .ref (rA 4), .ref (rA 5), .ref (rA 6), .ref (rA 7), .ref (rA 8), .ref (rA 9), .ref (rA 10), .ref (rA 11), .ref (rA 12), .ref (rA 13), .int ir, .ref (rA 15), .ref (rA 16), .ref (rA 17), .ref (rA 18), .int (nI md), .int (nI wd), .ref (rA 21), .ref (rA 22), .ref (rA 23), .int (nI mn), .ref (rA 25), .int (nI cb), .int mr, .ref (rA 28), .ref (rA 29), .ref (rA 30), .ref (rA 31), .ref (rA 32), .ref (rA 33), .ref (rA 34), .ref (rA 35), .int (nI ld), .int (nI gm), .ref (rA 38), .ref (rA 39), .ref (rA 40), .ref (rA 41), .ref (rA 42), .ref (rA 43), .ref (rA 44), .ref (rA 45), .int (nI my), .ref (rA 47)], ia (rA 16) (rK9 16) 155 sf, ia (rA 2) (rK9 2) 4 (fun i => nI (zs i)), ia (rA 3) (rK9 3) 28 (fun i => nI (kd i)), ia (rA 4) (rK9 4) 28 (fun i => nI (vx i)), ia (rA 5) (rK9 5) 28 (fun i => nI (rr i)), ia (rA 6) (rK9 6) 28 vv] sz)) 0 0 (va_A [oc ra 8 [.int (nI T), .int (nI Ac), .ref (rA 2), .ref (rA 3), .ref (rA 4), .ref (rA 5), .ref (rA 6), .ref (rA 7), .ref (rA 8), .ref (rA 9), .ref (rA 10), .ref (rA 11), .ref (rA 12), .ref (rA 13), .int ir, .ref (rA 15), .ref (rA 16), .ref (rA 17), .ref (rA 18), .int (nI md), .int (nI wd), .ref (rA 21), .ref (rA 22), .ref (rA 23), .int (nI mn), .ref (rA 25), .int (nI cb), .int mr, .ref (rA 28), .ref (rA 29), .ref (rA 30), .ref (rA 31), .ref (rA 32), .ref (rA 33), .ref (rA 34), .ref (rA 35), .int (nI ld), .int (nI gm), .ref (rA 38), .ref (rA 39), .ref (rA 40), .ref (rA 41), .ref (rA 42), .ref (rA 43), .ref (rA 44), .ref (rA 45), .int (nI my), .ref (rA 47)], ia (rA 16) (rK9 16) 155 sf, ia (rA 2) (rK9 2) 4 (fun i => nI (zs i)), ia (rA 3) (rK9 3) 28 (fun i => nI (kd i)), ia (rA 4) (rK9 4) 28 (fun i => nI (vx i)), ia (rA 5) (rK9 5) 28 (fun i => nI (rr i)), ia (rA 6) (rK9 6) 28 vv] sz) := by
  obtain ⟨r1, r2, r3, r4⟩ := hPr
  obtain ⟨pl, bt, bx, nb, rm, hD⟩ := hI
  obtain ⟨c1, c2, c3⟩ := IvD_pl r1 r2 hD
  obtain ⟨a1, a2, a3, a4, a5, a6, a7, a8, a9, a10⟩ := hD
  have ht4 : t < 4 := by omega
  have hz7 := r2 t ht
  obtain ⟨p9, hp0⟩ : ∃ p9, pl t = p9 := ⟨_, rfl⟩
  have hp9 : sf t = nI p9 := by rw [← hp0]; exact a1 t ht4
  have hp7 : p9 ≤ 7 := by rw [← hp0]; exact (c1 t ht4).2
  have hcl : (sf t).toNatClampNeg = p9 := by rw [← hp0]; exact (c1 t ht4).1
  have hsm := smN_at (f := fun t => zs t - pl t) T ht
  have hsm2 : zs t - p9 ≤ rm := by rw [a6, ← hp0]; exact hsm
  have hm4 : md < 4 := by omega
  have hn7 : nb ≤ 7 := by omega
  have hbx : ∀ k, k < nb → sf (23 + k) = nI (bx k) ∧ bx k < 3 := fun k hk => (a5 k hk).2.2
  unfold stQ at ho
  rw [hcl, c2] at ho
  clear hp0 c1 c2 hsm a1 a2 a3 a8 a9 a10
  by_cases hmr : p9 < zs t
  · skip
    obtain ⟨d1, d2, d3, d4, d5⟩ := r4 (7 * t + p9) (by omega)
    by_cases k5 : kd (7 * t + p9) = 5
    · skip
      by_cases cz : cn = 0
      · skip
        rw [if_pos ⟨hmr, k5, cz⟩] at ho
        by_cases hcd : sf (4 + 2 * t + rr (7 * t + p9)) = vv (7 * t + p9)
        · skip
          have ho2 : o9 = some (upd sf t (nI (p9 + 1))) := by rw [← ho, skR, if_pos hcd]
          subst ho2
          refine Met_cons (Met_room (by decide) (by decide) (gen_Ref_step_skip_e l dC dI ra rA rK9 T Ac md wd mn cb ld gm my ir mr t p9 cn sf vv zs kd vx rr ht4 hc9 hm4 hp9 hp7 hz7 hmr d1 k5 cz d3 d2 hcd sz)) (fun _ _ h => h) (fun a st o t _ hq => ?_)
          obtain ⟨⟨r, u, w1, w2, hP, hK, hD9⟩, hF⟩ := hq
          exact ⟨⟨r, u, w1, w2.trans rfl, hP, hK, hD9⟩, hF⟩
        · skip
          have ho2 : o9 = some (upd (upd sf t (nI (p9 + 1))) t (nI (if zs t < p9 + 1 + vx (7 * t + p9) then zs t else p9 + 1 + vx (7 * t + p9)))) := by rw [← ho, skR, if_neg hcd]
          subst ho2
          refine Met_cons (Met_room (by decide) (by decide) (gen_Ref_step_skip_n l dC dI ra rA rK9 T Ac md wd mn cb ld gm my ir mr t p9 cn sf vv zs kd vx rr ht4 hc9 hm4 hp9 hp7 hz7 hmr d1 k5 cz d3 d2 hcd sz)) (fun _ _ h => h) (fun a st o t _ hq => ?_)
          obtain ⟨⟨r, u, w1, w2, hP, hK, hD9⟩, hF⟩ := hq
          exact ⟨⟨r, u, w1, w2.trans rfl, hP, hK, hD9⟩, hF⟩
      · skip
        rw [if_neg (fun q => cz q.2.2)] at ho
        have hc1 : 1 ≤ cn := by omega
        rw [if_pos (show 0 < cn by omega)] at ho
        by_cases hmd0 : md = 0
        · skip
          rw [if_neg (by omega)] at ho
          have ho2 : o9 = none := by rw [← ho]
          subst ho2
          refine Met_cons (Met_room (by decide) (by decide) (gen_Ref_step_s_0 l dC dI ra rA rK9 T Ac md wd mn cb ld gm my ir mr t p9 cn sf vv zs kd vx rr ht4 hc9 hm4 hp9 hp7 hz7 hmr d1 k5 hmd0 hc1 sz)) (fun _ _ h => h) (fun a st o t _ hq => ?_)
          obtain ⟨⟨r, u, w1, w2, hP, hK, hD9⟩, hF⟩ := hq
          exact ⟨⟨r, u, w1, w2.trans rfl, hP, hK, hD9⟩, hF⟩
        · skip
          have hmd2 : md = 1 ∨ md = 2 := by omega
          by_cases hcc : (md = 1 ∧ cn = 1) ∨ (md = 2 ∧ cn ≤ 3)
          · skip
            rw [if_pos hcc] at ho
            obtain ⟨x9, hx9⟩ : ∃ x9 : Int32, x9 = if md = 1 then -1 else nI (cn - 1) := ⟨_, rfl⟩
            rw [← hx9, flF_cg (by9 := bx) c3] at ho
            by_cases h0 : fF (inB sf t x9) nb 0 = 0
            · skip
              have ho2 : o9 = none := by rw [← ho, if_pos h0]
              subst ho2
              refine Met_cons (Met_room (by decide) (by decide) (gen_Ref_step_s_f l dC dI ra rA rK9 T Ac md wd mn cb ld gm my ir mr t p9 cn sf vv zs kd vx rr nb x9 bx ht4 hc9 hm4 hp9 hp7 hz7 hmr d1 k5 hmd2 hc1 (by omega) hx9 a4 hn7 hbx sz)) (fun _ _ h => h) (fun a st o t _ hq => ?_)
              obtain ⟨⟨r, u, w1, w2, hP, hK, hD9⟩, hF⟩ := hq
              rw [if_pos h0] at w2; rw [flF, if_pos h0] at hP hD9
              exact ⟨⟨r, u, w1, w2.trans rfl, hP, hK, hD9⟩, hF⟩
            · skip
              have ho2 : o9 = some (flF sf t x9 bx nb) := by rw [← ho, if_neg h0]
              subst ho2
              refine Met_cons (Met_room (by decide) (by decide) (gen_Ref_step_s_f l dC dI ra rA rK9 T Ac md wd mn cb ld gm my ir mr t p9 cn sf vv zs kd vx rr nb x9 bx ht4 hc9 hm4 hp9 hp7 hz7 hmr d1 k5 hmd2 hc1 (by omega) hx9 a4 hn7 hbx sz)) (fun _ _ h => h) (fun a st o t _ hq => ?_)
              obtain ⟨⟨r, u, w1, w2, hP, hK, hD9⟩, hF⟩ := hq
              rw [if_neg h0] at w2
              exact ⟨⟨r, u, w1, w2.trans rfl, hP, hK, hD9⟩, hF⟩
          · skip
            rw [if_neg hcc] at ho
            have ho2 : o9 = none := by rw [← ho]
            subst ho2
            refine Met_cons (Met_room (by decide) (by decide) (gen_Ref_step_s_b l dC dI ra rA rK9 T Ac md wd mn cb ld gm my ir mr t p9 cn sf vv zs kd vx rr ht4 hc9 hm4 hp9 hp7 hz7 hmr d1 k5 hmd2 hc1 (by omega) sz)) (fun _ _ h => h) (fun a st o t _ hq => ?_)
            obtain ⟨⟨r, u, w1, w2, hP, hK, hD9⟩, hF⟩ := hq
            exact ⟨⟨r, u, w1, w2.trans rfl, hP, hK, hD9⟩, hF⟩
    · skip
      rw [if_neg (fun q => k5 q.2.1)] at ho
      by_cases cz : cn = 0
      · skip
        rw [if_neg (by omega), if_pos hmr] at ho
        by_cases hmd0 : md = 0
        · skip
          rw [if_pos hmd0] at ho
          rcases (by omega : kd (7 * t + p9) = 0 ∨ kd (7 * t + p9) = 1 ∨ kd (7 * t + p9) = 2 ∨ kd (7 * t + p9) = 3 ∨ kd (7 * t + p9) = 4) with hkk | hkk | hkk | hkk | hkk
          · skip
            have ho2 : o9 = some (upd (upd sf t (sf t + 1)) (4 + 2 * t + rr (7 * t + p9)) ((upd sf t (sf t + 1)) (12 + vx (7 * t + p9)))) := by rw [← ho, tuR, if_pos hkk]
            subst ho2
            refine Met_cons (Met_room (by decide) (by decide) (gen_Ref_step_t0 l dC dI ra rA rK9 T Ac md wd mn cb ld gm my ir mr t p9 cn sf vv zs kd vx rr ht4 hc9 hm4 hp9 hp7 hz7 hmr d1 k5 hmd0 cz hkk d2 d3 sz)) (fun _ _ h => h) (fun a st o t _ hq => ?_)
            obtain ⟨⟨r, u, w1, w2, hP, hK, hD9⟩, hF⟩ := hq
            exact ⟨⟨r, u, w1, w2.trans rfl, hP, hK, hD9⟩, hF⟩
          · skip
            have ho2 : o9 = some (upd (upd sf t (sf t + 1)) (12 + vx (7 * t + p9)) (vv (7 * t + p9))) := by rw [← ho, tuR, if_neg (by omega), if_pos hkk]
            subst ho2
            refine Met_cons (Met_room (by decide) (by decide) (gen_Ref_step_t1 l dC dI ra rA rK9 T Ac md wd mn cb ld gm my ir mr t p9 cn sf vv zs kd vx rr ht4 hc9 hm4 hp9 hp7 hz7 hmr d1 k5 hmd0 cz hkk d2 d3 sz)) (fun _ _ h => h) (fun a st o t _ hq => ?_)
            obtain ⟨⟨r, u, w1, w2, hP, hK, hD9⟩, hF⟩ := hq
            exact ⟨⟨r, u, w1, w2.trans rfl, hP, hK, hD9⟩, hF⟩
          · skip
            have ho2 : o9 = some (upd (upd sf t (sf t + 1)) (12 + vx (7 * t + p9)) ((upd sf t (sf t + 1)) (4 + 2 * t + rr (7 * t + p9)) + vv (7 * t + p9))) := by rw [← ho, tuR, if_neg (by omega), if_neg (by omega), if_pos hkk]
            subst ho2
            refine Met_cons (Met_room (by decide) (by decide) (gen_Ref_step_t2 l dC dI ra rA rK9 T Ac md wd mn cb ld gm my ir mr t p9 cn sf vv zs kd vx rr ht4 hc9 hm4 hp9 hp7 hz7 hmr d1 k5 hmd0 cz hkk d2 d3 sz)) (fun _ _ h => h) (fun a st o t _ hq => ?_)
            obtain ⟨⟨r, u, w1, w2, hP, hK, hD9⟩, hF⟩ := hq
            exact ⟨⟨r, u, w1, w2.trans rfl, hP, hK, hD9⟩, hF⟩
          · skip
            have ho2 : o9 = some (upd (upd (upd sf t (sf t + 1)) (4 + 2 * t + rr (7 * t + p9)) ((upd sf t (sf t + 1)) (12 + vx (7 * t + p9)))) (12 + vx (7 * t + p9)) ((upd (upd sf t (sf t + 1)) (4 + 2 * t + rr (7 * t + p9)) ((upd sf t (sf t + 1)) (12 + vx (7 * t + p9)))) (12 + vx (7 * t + p9)) + vv (7 * t + p9))) := by rw [← ho, tuR, if_neg (by omega), if_neg (by omega), if_neg (by omega), if_pos hkk]
            subst ho2
            refine Met_cons (Met_room (by decide) (by decide) (gen_Ref_step_t3 l dC dI ra rA rK9 T Ac md wd mn cb ld gm my ir mr t p9 cn sf vv zs kd vx rr ht4 hc9 hm4 hp9 hp7 hz7 hmr d1 k5 hmd0 cz hkk d2 d3 sz)) (fun _ _ h => h) (fun a st o t _ hq => ?_)
            obtain ⟨⟨r, u, w1, w2, hP, hK, hD9⟩, hF⟩ := hq
            exact ⟨⟨r, u, w1, w2.trans rfl, hP, hK, hD9⟩, hF⟩
          · skip
            have ho2 : o9 = some (upd sf t (sf t + 1)) := by rw [← ho, tuR, if_neg (by omega), if_neg (by omega), if_neg (by omega), if_neg (by omega)]
            subst ho2
            refine Met_cons (Met_room (by decide) (by decide) (gen_Ref_step_t4 l dC dI ra rA rK9 T Ac md wd mn cb ld gm my ir mr t p9 cn sf vv zs kd vx rr ht4 hc9 hm4 hp9 hp7 hz7 hmr d1 k5 hmd0 cz hkk d2 d3 sz)) (fun _ _ h => h) (fun a st o t _ hq => ?_)
            obtain ⟨⟨r, u, w1, w2, hP, hK, hD9⟩, hF⟩ := hq
            exact ⟨⟨r, u, w1, w2.trans rfl, hP, hK, hD9⟩, hF⟩
        · skip
          have hmd2 : md = 1 ∨ md = 2 := by omega
          rw [if_neg hmd0] at ho
          rcases (by omega : kd (7 * t + p9) = 0 ∨ kd (7 * t + p9) = 1 ∨ kd (7 * t + p9) = 2 ∨ kd (7 * t + p9) = 3 ∨ kd (7 * t + p9) = 4) with hkk | hkk | hkk | hkk | hkk
          · skip
            rw [if_neg (by omega)] at ho
            have ho2 : o9 = some (upd (upd sf t (sf t + 1)) (4 + 2 * t + rr (7 * t + p9)) (rdV (upd sf t (sf t + 1)) t (nI (vx (7 * t + p9))) ((upd sf t (sf t + 1)) (12 + vx (7 * t + p9))) nb)) := by rw [← ho, buR, if_pos hkk]
            subst ho2
            refine Met_cons (Met_room (by decide) (by decide) (gen_Ref_step_b0 l dC dI ra rA rK9 T Ac md wd mn cb ld gm my ir mr t p9 cn sf vv zs kd vx rr nb ht4 hc9 hm4 hp9 hp7 hz7 hmr d1 k5 hmd2 cz hkk d2 d3 a4 hn7 sz)) (fun _ _ h => h) (fun a st o t _ hq => ?_)
            obtain ⟨⟨r, u, w1, w2, hP, hK, hD9⟩, hF⟩ := hq
            exact ⟨⟨r, u, w1, w2.trans rfl, hP, hK, hD9⟩, hF⟩
          · skip
            rw [if_neg (by omega)] at ho
            have ho2 : o9 = some (upd (upd (upd (upd (upd sf t (sf t + 1)) 15 (nI (nb + 1))) (16 + nb) (nI t)) (23 + nb) (nI (vx (7 * t + p9)))) (30 + nb) (if kd (7 * t + p9) = 1 then vv (7 * t + p9) else (upd (upd (upd (upd sf t (sf t + 1)) 15 (nI (nb + 1))) (16 + nb) (nI t)) (23 + nb) (nI (vx (7 * t + p9)))) (4 + 2 * t + rr (7 * t + p9)) + vv (7 * t + p9))) := by rw [← ho, buR, if_neg (by omega)]
            subst ho2
            refine Met_cons (Met_room (by decide) (by decide) (gen_Ref_step_b1 l dC dI ra rA rK9 T Ac md wd mn cb ld gm my ir mr t p9 cn sf vv zs kd vx rr nb ht4 hc9 hm4 hp9 hp7 hz7 hmr d1 k5 hmd2 cz hkk d2 d3 a4 (by omega) sz)) (fun _ _ h => h) (fun a st o t _ hq => ?_)
            obtain ⟨⟨r, u, w1, w2, hP, hK, hD9⟩, hF⟩ := hq
            exact ⟨⟨r, u, w1, w2.trans rfl, hP, hK, hD9⟩, hF⟩
          · skip
            rw [if_neg (by omega)] at ho
            have ho2 : o9 = some (upd (upd (upd (upd (upd sf t (sf t + 1)) 15 (nI (nb + 1))) (16 + nb) (nI t)) (23 + nb) (nI (vx (7 * t + p9)))) (30 + nb) (if kd (7 * t + p9) = 1 then vv (7 * t + p9) else (upd (upd (upd (upd sf t (sf t + 1)) 15 (nI (nb + 1))) (16 + nb) (nI t)) (23 + nb) (nI (vx (7 * t + p9)))) (4 + 2 * t + rr (7 * t + p9)) + vv (7 * t + p9))) := by rw [← ho, buR, if_neg (by omega)]
            subst ho2
            refine Met_cons (Met_room (by decide) (by decide) (gen_Ref_step_b2 l dC dI ra rA rK9 T Ac md wd mn cb ld gm my ir mr t p9 cn sf vv zs kd vx rr nb ht4 hc9 hm4 hp9 hp7 hz7 hmr d1 k5 hmd2 cz hkk d2 d3 a4 (by omega) sz)) (fun _ _ h => h) (fun a st o t _ hq => ?_)
            obtain ⟨⟨r, u, w1, w2, hP, hK, hD9⟩, hF⟩ := hq
            exact ⟨⟨r, u, w1, w2.trans rfl, hP, hK, hD9⟩, hF⟩
          · skip
            rw [if_pos (by omega)] at ho
            by_cases hem : ∀ k, k < nb → ¬ sf (16 + k) = nI t
            · skip
              have ho2 : o9 = some (upd (upd (upd sf t (sf t + 1)) (4 + 2 * t + rr (7 * t + p9)) ((upd sf t (sf t + 1)) (12 + vx (7 * t + p9)))) (12 + vx (7 * t + p9)) ((upd (upd sf t (sf t + 1)) (4 + 2 * t + rr (7 * t + p9)) ((upd sf t (sf t + 1)) (12 + vx (7 * t + p9)))) (12 + vx (7 * t + p9)) + vv (7 * t + p9))) := by rw [← ho, if_pos hem, tuR, if_neg (by omega), if_neg (by omega), if_neg (by omega), if_pos hkk]
              subst ho2
              refine Met_cons (Met_room (by decide) (by decide) (gen_Ref_step_b3e l dC dI ra rA rK9 T Ac md wd mn cb ld gm my ir mr t p9 cn sf vv zs kd vx rr nb ht4 hc9 hm4 hp9 hp7 hz7 hmr d1 k5 hmd2 cz hkk d2 d3 a4 hn7 hem sz)) (fun _ _ h => h) (fun a st o t _ hq => ?_)
              obtain ⟨⟨r, u, w1, w2, hP, hK, hD9⟩, hF⟩ := hq
              exact ⟨⟨r, u, w1, w2.trans rfl, hP, hK, hD9⟩, hF⟩
            · skip
              have ho2 : o9 = none := by rw [← ho, if_neg hem]
              subst ho2
              refine Met_cons (Met_room (by decide) (by decide) (gen_Ref_step_b3w l dC dI ra rA rK9 T Ac md wd mn cb ld gm my ir mr t p9 cn sf vv zs kd vx rr nb ht4 hc9 hm4 hp9 hp7 hz7 hmr d1 k5 hmd2 cz hkk d2 d3 a4 hn7 (Classical.byContradiction fun q => hem (fun k hk e => q ⟨k, hk, e⟩)) sz)) (fun _ _ h => h) (fun a st o t _ hq => ?_)
              obtain ⟨⟨r, u, w1, w2, hP, hK, hD9⟩, hF⟩ := hq
              exact ⟨⟨r, u, w1, w2.trans rfl, hP, hK, hD9⟩, hF⟩
          · skip
            rw [if_pos (by omega)] at ho
            by_cases hem : ∀ k, k < nb → ¬ sf (16 + k) = nI t
            · skip
              have ho2 : o9 = some (upd sf t (sf t + 1)) := by rw [← ho, if_pos hem, tuR, if_neg (by omega), if_neg (by omega), if_neg (by omega), if_neg (by omega)]
              subst ho2
              refine Met_cons (Met_room (by decide) (by decide) (gen_Ref_step_b4e l dC dI ra rA rK9 T Ac md wd mn cb ld gm my ir mr t p9 cn sf vv zs kd vx rr nb ht4 hc9 hm4 hp9 hp7 hz7 hmr d1 k5 hmd2 cz hkk d2 d3 a4 hn7 hem sz)) (fun _ _ h => h) (fun a st o t _ hq => ?_)
              obtain ⟨⟨r, u, w1, w2, hP, hK, hD9⟩, hF⟩ := hq
              exact ⟨⟨r, u, w1, w2.trans rfl, hP, hK, hD9⟩, hF⟩
            · skip
              have ho2 : o9 = none := by rw [← ho, if_neg hem]
              subst ho2
              refine Met_cons (Met_room (by decide) (by decide) (gen_Ref_step_b4w l dC dI ra rA rK9 T Ac md wd mn cb ld gm my ir mr t p9 cn sf vv zs kd vx rr nb ht4 hc9 hm4 hp9 hp7 hz7 hmr d1 k5 hmd2 cz hkk d2 d3 a4 hn7 (Classical.byContradiction fun q => hem (fun k hk e => q ⟨k, hk, e⟩)) sz)) (fun _ _ h => h) (fun a st o t _ hq => ?_)
              obtain ⟨⟨r, u, w1, w2, hP, hK, hD9⟩, hF⟩ := hq
              exact ⟨⟨r, u, w1, w2.trans rfl, hP, hK, hD9⟩, hF⟩
      · skip
        have hc1 : 1 ≤ cn := by omega
        rw [if_pos (show 0 < cn by omega)] at ho
        by_cases hmd0 : md = 0
        · skip
          rw [if_neg (by omega)] at ho
          have ho2 : o9 = none := by rw [← ho]
          subst ho2
          refine Met_cons (Met_room (by decide) (by decide) (gen_Ref_step_m_0 l dC dI ra rA rK9 T Ac md wd mn cb ld gm my ir mr t p9 cn sf vv zs kd vx rr ht4 hc9 hm4 hp9 hp7 hz7 hmr d1 k5 hmd0 hc1 sz)) (fun _ _ h => h) (fun a st o t _ hq => ?_)
          obtain ⟨⟨r, u, w1, w2, hP, hK, hD9⟩, hF⟩ := hq
          exact ⟨⟨r, u, w1, w2.trans rfl, hP, hK, hD9⟩, hF⟩
        · skip
          have hmd2 : md = 1 ∨ md = 2 := by omega
          by_cases hcc : (md = 1 ∧ cn = 1) ∨ (md = 2 ∧ cn ≤ 3)
          · skip
            rw [if_pos hcc] at ho
            obtain ⟨x9, hx9⟩ : ∃ x9 : Int32, x9 = if md = 1 then -1 else nI (cn - 1) := ⟨_, rfl⟩
            rw [← hx9, flF_cg (by9 := bx) c3] at ho
            by_cases h0 : fF (inB sf t x9) nb 0 = 0
            · skip
              have ho2 : o9 = none := by rw [← ho, if_pos h0]
              subst ho2
              refine Met_cons (Met_room (by decide) (by decide) (gen_Ref_step_m_f l dC dI ra rA rK9 T Ac md wd mn cb ld gm my ir mr t p9 cn sf vv zs kd vx rr nb x9 bx ht4 hc9 hm4 hp9 hp7 hz7 hmr d1 k5 hmd2 hc1 (by omega) hx9 a4 hn7 hbx sz)) (fun _ _ h => h) (fun a st o t _ hq => ?_)
              obtain ⟨⟨r, u, w1, w2, hP, hK, hD9⟩, hF⟩ := hq
              rw [if_pos h0] at w2; rw [flF, if_pos h0] at hP hD9
              exact ⟨⟨r, u, w1, w2.trans rfl, hP, hK, hD9⟩, hF⟩
            · skip
              have ho2 : o9 = some (flF sf t x9 bx nb) := by rw [← ho, if_neg h0]
              subst ho2
              refine Met_cons (Met_room (by decide) (by decide) (gen_Ref_step_m_f l dC dI ra rA rK9 T Ac md wd mn cb ld gm my ir mr t p9 cn sf vv zs kd vx rr nb x9 bx ht4 hc9 hm4 hp9 hp7 hz7 hmr d1 k5 hmd2 hc1 (by omega) hx9 a4 hn7 hbx sz)) (fun _ _ h => h) (fun a st o t _ hq => ?_)
              obtain ⟨⟨r, u, w1, w2, hP, hK, hD9⟩, hF⟩ := hq
              rw [if_neg h0] at w2
              exact ⟨⟨r, u, w1, w2.trans rfl, hP, hK, hD9⟩, hF⟩
          · skip
            rw [if_neg hcc] at ho
            have ho2 : o9 = none := by rw [← ho]
            subst ho2
            refine Met_cons (Met_room (by decide) (by decide) (gen_Ref_step_m_b l dC dI ra rA rK9 T Ac md wd mn cb ld gm my ir mr t p9 cn sf vv zs kd vx rr ht4 hc9 hm4 hp9 hp7 hz7 hmr d1 k5 hmd2 hc1 (by omega) sz)) (fun _ _ h => h) (fun a st o t _ hq => ?_)
            obtain ⟨⟨r, u, w1, w2, hP, hK, hD9⟩, hF⟩ := hq
            exact ⟨⟨r, u, w1, w2.trans rfl, hP, hK, hD9⟩, hF⟩
  · skip
    have hme : zs t ≤ p9 := by omega
    rw [if_neg (fun q => hmr q.1)] at ho
    by_cases cz : cn = 0
    · skip
      rw [if_neg (by omega), if_neg hmr] at ho
      have ho2 : o9 = none := by rw [← ho]
      subst ho2
      refine Met_cons (Met_room (by decide) (by decide) (gen_Ref_step_e_n l dC dI ra rA rK9 T Ac md wd mn cb ld gm my ir mr t p9 cn sf vv zs kd vx rr ht4 hc9 hm4 hp9 hp7 hz7 hme hmd cz sz)) (fun _ _ h => h) (fun a st o t _ hq => ?_)
      obtain ⟨⟨r, u, w1, w2, hP, hK, hD9⟩, hF⟩ := hq
      exact ⟨⟨r, u, w1, w2.trans rfl, hP, hK, hD9⟩, hF⟩
    · skip
      have hc1 : 1 ≤ cn := by omega
      rw [if_pos (show 0 < cn by omega)] at ho
      by_cases hmd0 : md = 0
      · skip
        rw [if_neg (by omega)] at ho
        have ho2 : o9 = none := by rw [← ho]
        subst ho2
        refine Met_cons (Met_room (by decide) (by decide) (gen_Ref_step_e_0 l dC dI ra rA rK9 T Ac md wd mn cb ld gm my ir mr t p9 cn sf vv zs kd vx rr ht4 hc9 hm4 hp9 hp7 hz7 hme hmd0 hc1 sz)) (fun _ _ h => h) (fun a st o t _ hq => ?_)
        obtain ⟨⟨r, u, w1, w2, hP, hK, hD9⟩, hF⟩ := hq
        exact ⟨⟨r, u, w1, w2.trans rfl, hP, hK, hD9⟩, hF⟩
      · skip
        have hmd2 : md = 1 ∨ md = 2 := by omega
        by_cases hcc : (md = 1 ∧ cn = 1) ∨ (md = 2 ∧ cn ≤ 3)
        · skip
          rw [if_pos hcc] at ho
          obtain ⟨x9, hx9⟩ : ∃ x9 : Int32, x9 = if md = 1 then -1 else nI (cn - 1) := ⟨_, rfl⟩
          rw [← hx9, flF_cg (by9 := bx) c3] at ho
          by_cases h0 : fF (inB sf t x9) nb 0 = 0
          · skip
            have ho2 : o9 = none := by rw [← ho, if_pos h0]
            subst ho2
            refine Met_cons (Met_room (by decide) (by decide) (gen_Ref_step_e_f l dC dI ra rA rK9 T Ac md wd mn cb ld gm my ir mr t p9 cn sf vv zs kd vx rr nb x9 bx ht4 hc9 hm4 hp9 hp7 hz7 hme hmd2 hc1 (by omega) hx9 a4 hn7 hbx sz)) (fun _ _ h => h) (fun a st o t _ hq => ?_)
            obtain ⟨⟨r, u, w1, w2, hP, hK, hD9⟩, hF⟩ := hq
            rw [if_pos h0] at w2; rw [flF, if_pos h0] at hP hD9
            exact ⟨⟨r, u, w1, w2.trans rfl, hP, hK, hD9⟩, hF⟩
          · skip
            have ho2 : o9 = some (flF sf t x9 bx nb) := by rw [← ho, if_neg h0]
            subst ho2
            refine Met_cons (Met_room (by decide) (by decide) (gen_Ref_step_e_f l dC dI ra rA rK9 T Ac md wd mn cb ld gm my ir mr t p9 cn sf vv zs kd vx rr nb x9 bx ht4 hc9 hm4 hp9 hp7 hz7 hme hmd2 hc1 (by omega) hx9 a4 hn7 hbx sz)) (fun _ _ h => h) (fun a st o t _ hq => ?_)
            obtain ⟨⟨r, u, w1, w2, hP, hK, hD9⟩, hF⟩ := hq
            rw [if_neg h0] at w2
            exact ⟨⟨r, u, w1, w2.trans rfl, hP, hK, hD9⟩, hF⟩
        · skip
          rw [if_neg hcc] at ho
          have ho2 : o9 = none := by rw [← ho]
          subst ho2
          refine Met_cons (Met_room (by decide) (by decide) (gen_Ref_step_e_b l dC dI ra rA rK9 T Ac md wd mn cb ld gm my ir mr t p9 cn sf vv zs kd vx rr ht4 hc9 hm4 hp9 hp7 hz7 hme hmd2 hc1 (by omega) sz)) (fun _ _ h => h) (fun a st o t _ hq => ?_)
          obtain ⟨⟨r, u, w1, w2, hP, hK, hD9⟩, hF⟩ := hq
          exact ⟨⟨r, u, w1, w2.trans rfl, hP, hK, hD9⟩, hF⟩
