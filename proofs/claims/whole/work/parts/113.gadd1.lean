set_option maxHeartbeats 4000000 in
theorem gen_StateSet_add (l : Launch) (dC : Nat → ClassId) (dI : Nat → Nat → Nat) (h0 h1 h2 : Nat) (n e : Nat) (kk ks : ClassId) (KL SL : Nat) (kf : Nat → Int64) (sf : Nat → Int32) (g : Nat → Nat) (key : Int64) (he : e ≤ 22) (hSL : 2 ^ e ≤ SL) (hS3 : SL < 2 ^ 31) (hK3 : KL < 2 ^ 23) (hn9 : n ≤ KL) (hn2 : 2 * n ≤ 2 ^ e) (hn20 : n < 1048576) (hg : ∀ i, i < 2 ^ e → sf i = nI (g i)) (hT : inT (2 ^ e) (fun k => hsh k e) n kf g) (n2 e2 KL2 SL2 mc ms : Nat) (hst : addS (hasB kf key n) n e KL SL = (n2, e2, KL2, SL2, mc, ms)) (sz : Nat) : Met l y_StateSet_add w_StateSet_add ({ frames := 2, cells := mc, slots := ms, locals := 80 }) (va_Pc [.ref h0, .long key] (fun U => U.heap.size = sz ∧ va_P (dC, dI) classes [oc h0 2 [.ref h1, .ref h2, .int (nI n), .int (nI (2 ^ e))], la h1 kk KL kf, ia h2 ks SL sf] U.heap ∧ va_K (dC, dI) classes [(kk, .long), (ks, .int)] U ∧ va_D (fun _ => True) [oc h0 2 [.ref h1, .ref h2, .int (nI n), .int (nI (2 ^ e))], la h1 kk KL kf, ia h2 ks SL sf] ∧ nw U)) (va_Qi (fun (r : Int32) (_ : Unit) => r = if hasB kf key n then 0 else 1) (fun _ t => ∃ (a1 a2 : Nat) (c1 c2 : ClassId) (kf2 : Nat → Int64) (sf2 : Nat → Int32) (g2 : Nat → Nat), (∀ j, j < n → kf2 j = kf j) ∧ (hasB kf key n = false → kf2 n = key) ∧ (∀ i, i < 2 ^ e2 → sf2 i = nI (g2 i)) ∧ inT (2 ^ e2) (fun k => hsh k e2) n2 kf2 g2 ∧ va_P (dC, dI) classes [oc h0 2 [.ref a1, .ref a2, .int (nI n2), .int (nI (2 ^ e2))], la a1 c1 KL2 kf2, ia a2 c2 SL2 sf2] t.heap ∧ va_K (dC, dI) classes [(c1, .long), (c2, .int)] t ∧ va_D (va_A [oc h0 2 [.ref h1, .ref h2, .int (nI n), .int (nI (2 ^ e))], la h1 kk KL kf, ia h2 ks SL sf] sz) [oc h0 2 [.ref a1, .ref a2, .int (nI n2), .int (nI (2 ^ e2))], la a1 c1 KL2 kf2, ia a2 c2 SL2 sf2]) (va_A [oc h0 2 [.ref h1, .ref h2, .int (nI n), .int (nI (2 ^ e))], la h1 kk KL kf, ia h2 ks SL sf] sz)) mc ms (va_A [oc h0 2 [.ref h1, .ref h2, .int (nI n), .int (nI (2 ^ e))], la h1 kk KL kf, ia h2 ks SL sf] sz) := by
  cases hb9 : hasB kf key n with
  | true =>
    obtain ⟨j, hj, hjk⟩ := hasB_yes hb9
    rw [hb9] at hst
    cases hst
    refine Met_cons (gen_StateSet_add_has l dC dI h0 h1 h2 n e kk ks KL SL kf sf g key he hSL hS3 hK3 hn9 hn2 hn20 hg hT j hj hjk sz) (fun _ _ h => h) (fun a st o t _ hq => ?_)
    obtain ⟨⟨r, u, w1, w2, hP, hK, hD⟩, hF⟩ := hq
    exact ⟨⟨r, u, w1, w2, h1, h2, kk, ks, kf, sf, g, fun _ _ => rfl, fun q => absurd q (by simp), hg, hT, hP, hK, hD⟩, hF⟩
  | false =>
    have hk := hasB_no hb9
    rw [hb9] at hst
    unfold addS at hst
    simp only [] at hst
    by_cases hnK : n < KL
    · rw [if_pos hnK] at hst
      by_cases hge : 2 * (n + 1) ≤ 2 ^ e
      · rw [if_pos hge] at hst
        cases hst
        refine Met_cons (gen_StateSet_add_00 l dC dI h0 h1 h2 n e kk ks KL SL kf sf g key he hSL hS3 hK3 hn9 hn2 hn20 hg hT hk hnK hge sz) (fun _ _ h => h) (fun a st o t _ hq => ?_)
        obtain ⟨⟨r, u, w1, w2, kf2, sf2, g2, f1, f2, f3, f4, hP, hK, hD⟩, hF⟩ := hq
        exact ⟨⟨r, u, w1, w2, h1, h2, kk, ks, kf2, sf2, g2, f1, fun _ => f2, f3, f4, hP, hK, hD⟩, hF⟩
      · rw [if_neg hge] at hst
        by_cases hSe : SL < 2 ^ (e + 1)
        · rw [if_pos hSe] at hst
          cases hst
          refine Met_cons (gen_StateSet_add_01 l dC dI h0 h1 h2 n e kk ks KL SL kf sf g key he hSL hS3 hK3 hn9 hn2 hn20 hg hT hk hnK (by omega) hSe sz) (fun _ _ h => h) (fun a st o t _ hq => ?_)
          obtain ⟨⟨r, u, w1, w2, q2, kq2, kf2, sf2, g2, f1, f2, f3, f4, hP, hK, hD⟩, hF⟩ := hq
          exact ⟨⟨r, u, w1, w2, h1, q2, kk, kq2, kf2, sf2, g2, f1, fun _ => f2, f3, f4, hP, hK, hD⟩, hF⟩
        · rw [if_neg hSe] at hst
          cases hst
          refine Met_cons (gen_StateSet_add_02 l dC dI h0 h1 h2 n e kk ks KL SL kf sf g key he hSL hS3 hK3 hn9 hn2 hn20 hg hT hk hnK (by omega) (by omega) sz) (fun _ _ h => h) (fun a st o t _ hq => ?_)
          obtain ⟨⟨r, u, w1, w2, kf2, sf2, g2, f1, f2, f3, f4, hP, hK, hD⟩, hF⟩ := hq
          exact ⟨⟨r, u, w1, w2, h1, h2, kk, ks, kf2, sf2, g2, f1, fun _ => f2, f3, f4, hP, hK, hD⟩, hF⟩
    · rw [if_neg hnK] at hst
      by_cases hge : 2 * (n + 1) ≤ 2 ^ e
      · rw [if_pos hge] at hst
        cases hst
        refine Met_cons (gen_StateSet_add_10 l dC dI h0 h1 h2 n e kk ks KL SL kf sf g key he hSL hS3 hK3 hn9 hn2 hn20 hg hT hk _ rfl (by omega) hge sz) (fun _ _ h => h) (fun a st o t _ hq => ?_)
        obtain ⟨⟨r, u, w1, w2, q, kq, kf2, sf2, g2, f1, f2, f3, f4, hP, hK, hD⟩, hF⟩ := hq
        exact ⟨⟨r, u, w1, w2, q, h2, kq, ks, kf2, sf2, g2, f1, fun _ => f2, f3, f4, hP, hK, hD⟩, hF⟩
      · rw [if_neg hge] at hst
        by_cases hSe : SL < 2 ^ (e + 1)
        · rw [if_pos hSe] at hst
          cases hst
          refine Met_cons (gen_StateSet_add_11 l dC dI h0 h1 h2 n e kk ks KL SL kf sf g key he hSL hS3 hK3 hn9 hn2 hn20 hg hT hk _ rfl (by omega) (by omega) hSe sz) (fun _ _ h => h) (fun a st o t _ hq => ?_)
          obtain ⟨⟨r, u, w1, w2, q, kq, q2, kq2, kf2, sf2, g2, f1, f2, f3, f4, hP, hK, hD⟩, hF⟩ := hq
          exact ⟨⟨r, u, w1, w2, q, q2, kq, kq2, kf2, sf2, g2, f1, fun _ => f2, f3, f4, hP, hK, hD⟩, hF⟩
        · rw [if_neg hSe] at hst
          cases hst
          refine Met_cons (gen_StateSet_add_12 l dC dI h0 h1 h2 n e kk ks KL SL kf sf g key he hSL hS3 hK3 hn9 hn2 hn20 hg hT hk _ rfl (by omega) (by omega) (by omega) sz) (fun _ _ h => h) (fun a st o t _ hq => ?_)
          obtain ⟨⟨r, u, w1, w2, q, kq, kf2, sf2, g2, f1, f2, f3, f4, hP, hK, hD⟩, hF⟩ := hq
          exact ⟨⟨r, u, w1, w2, q, h2, kq, ks, kf2, sf2, g2, f1, fun _ => f2, f3, f4, hP, hK, hD⟩, hF⟩
