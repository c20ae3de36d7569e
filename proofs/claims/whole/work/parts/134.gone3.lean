def emptyS (SL : Nat) : Nat × Nat × Nat := if SL < 2 ^ 8 then (2 ^ 8, 1, 2 ^ 8) else (SL, 0, 0)
set_option maxHeartbeats 4000000 in
theorem gen_StateSet_empty (l : Launch) (dC : Nat → ClassId) (dI : Nat → Nat → Nat) (h0 h1 h2 : Nat) (z0 z1 : Int32) (kk ks : ClassId) (KL SL : Nat) (kf : Nat → Int64) (sf : Nat → Int32) (hS3 : SL < 2 ^ 31) (hK3 : KL < 2 ^ 31) (SL2 mc ms : Nat) (hst : emptyS SL = (SL2, mc, ms)) (sz : Nat) : Met l y_StateSet_empty w_StateSet_empty ({ frames := 2, cells := mc, slots := ms, locals := 60 }) (va_Pc [.ref h0] (fun U => U.heap.size = sz ∧ va_P (dC, dI) classes [oc h0 2 [.ref h1, .ref h2, .int z0, .int z1], la h1 kk KL kf, ia h2 ks SL sf] U.heap ∧ va_K (dC, dI) classes [(kk, .long), (ks, .int)] U ∧ va_D (fun _ => True) [oc h0 2 [.ref h1, .ref h2, .int z0, .int z1], la h1 kk KL kf, ia h2 ks SL sf] ∧ nw U)) (va_Qv (fun _ : Unit => True) (fun _ t9 => ∃ (a2 : Nat) (c2 : ClassId) (sf2 : Nat → Int32) (g : Nat → Nat), (∀ i, i < 2 ^ 8 → sf2 i = nI (g i)) ∧ inT (2 ^ 8) (fun k => hsh k 8) 0 kf g ∧ va_P (dC, dI) classes [oc h0 2 [.ref h1, .ref a2, .int (nI 0), .int (nI (2 ^ 8))], la h1 kk KL kf, ia a2 c2 SL2 sf2] t9.heap ∧ va_K (dC, dI) classes [(c2, .int)] t9 ∧ va_D (va_A [oc h0 2 [.ref h1, .ref h2, .int z0, .int z1], la h1 kk KL kf, ia h2 ks SL sf] sz) [oc h0 2 [.ref h1, .ref a2, .int (nI 0), .int (nI (2 ^ 8))], la h1 kk KL kf, ia a2 c2 SL2 sf2]) (va_A [oc h0 2 [.ref h1, .ref h2, .int z0, .int z1], la h1 kk KL kf, ia h2 ks SL sf] sz)) mc ms (va_A [oc h0 2 [.ref h1, .ref h2, .int z0, .int z1], la h1 kk KL kf, ia h2 ks SL sf] sz) := by
  unfold emptyS at hst
  by_cases hlt : SL < 2 ^ 8
  · rw [if_pos hlt] at hst
    cases hst
    refine Met_cons (gen_StateSet_empty_new l dC dI h0 h1 h2 z0 z1 kk ks KL SL kf sf hS3 hK3 hlt sz) (fun _ _ h => h) (fun a st o t _ hq => hq)
  · rw [if_neg hlt] at hst
    cases hst
    refine Met_cons (gen_StateSet_empty_old l dC dI h0 h1 h2 z0 z1 kk ks KL SL kf sf hS3 hK3 (by omega) sz) (fun _ _ h => h) (fun a st o t _ hq => ?_)
    obtain ⟨⟨u, w1, w2, sf2, g, f1, f2, hP, hK, hD⟩, hF⟩ := hq
    exact ⟨⟨u, w1, w2, h2, ks, sf2, g, f1, f2, hP, hK, hD⟩, hF⟩
