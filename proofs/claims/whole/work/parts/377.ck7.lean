section SIM9
variable {T Ac : Nat} {pg : Nat → Nat → Nat} {nm : Nat → Int32} {zs kd vx rr : Nat → Nat} {vv : Nat → Int32} {s : S9K} {t a : Nat}
theorem val_Q {s9 pc : Nat} : (pg 4 a = 1 → (tkC pg nm s a s9 pc).2.2.2.2.1 (a + 1) = nm a) ∧ (pg 4 a = 2 → (tkC pg nm s a s9 pc).2.2.2.2.1 (a + 1) = s.2.2.2.1 (pg 6 a) + nm a) ∧ (pg 4 a = 3 → (tkC pg nm s a s9 pc).2.2.2.2.1 (a + 1) = s.2.2.2.2.1 s9 + nm a) := by
  show (_ → vlP _ _ _ _ _ _ _ _ = _) ∧ (_ → vlP _ _ _ _ _ _ _ _ = _) ∧ (_ → vlP _ _ _ _ _ _ _ _ = _)
  unfold vlP
  refine ⟨fun e => ?_, fun e => ?_, fun e => ?_⟩
  · rw [if_pos e, pk_us]
  · rw [if_neg (by omega), if_pos e, pk_us]
  · rw [if_neg (by omega), if_neg (by omega), if_pos e, pk_us, pk_us]
/-- the class's steps of a thread in model 3 are the machine's -/
theorem nKt_sim (hX : PX T Ac pg nm zs kd vx rr vv) (hI : IvQ T Ac pg nm s) (ht : t < T) :
    (nKt pg nm s t).map (fun k => (k.1, abQ T pg k.2)) = (List.range 9).filterMap (fun k => (aK zs kd vx rr vv (abQ T pg s) t k).map (fun s2 => (nI (100 * t + k), s2))) := by
  have hz := hX.2.2.1 t ht
  have hT := hX.1.1
  have A1 : (abQ T pg s).1 t = if pg 0 t < s.2.2.1 t then pg 0 t else s.2.2.1 t := by
    show plQ T pg s t = _
    unfold plQ
    rw [cutN_at (by omega), if_pos ht]
  unfold nKt
  by_cases hq : s.2.2.1 t < pg 0 t
  · rw [if_pos hq]
    rw [if_neg (by omega)] at A1
    obtain ⟨a, ha⟩ : ∃ a, a = pg 1 (t * 7 + s.2.2.1 t) := ⟨_, rfl⟩
    obtain ⟨a1, a2, a3, a4, a5, a6⟩ := px_next hX hI.1 ht hq ha
    obtain ⟨f1, f2, f3, f4⟩ := hX.2.2.2.1 t _ ht hq
    rw [← ha] at f1 f2 f3 f4 ⊢
    obtain ⟨b1, b2, b3, b4, b5, b6⟩ := hX.1.2.2.2.2.1 a a2
    have hkn : kn9 pg s a ≤ s.2.2.2.2.2.2.1 (pg 5 a) := kq_le
    obtain ⟨-, -, -, -, -, p6, r4⟩ := k_next hX.1 hI.2.1 ht hq ha
    have hz6 : ∀ x, x < 4 → s.2.2.2.2.2.2.1 x ≤ 6 := fun x hx => by have := (hI.2.1.2.2.2.2.1 x hx).1; omega
    have nn : ¬ ¬ (abQ T pg s).1 t < zs t := by rw [A1, hz]; exact fun q => q hq
    -- the step by its kind
    have hA : ∀ k, aK zs kd vx rr vv (abQ T pg s) t k = aK zs kd vx rr vv (abQ T pg s) t k := fun _ => rfl
    unfold aK at hA
    by_cases k5 : pg 4 a = 5
    · have st : ∀ k, aK zs kd vx rr vv (abQ T pg s) t k = if 0 ≤ k ∧ k < 0 + 1 then some (abQ T pg (tkC pg nm s a 0 0)) else none := fun k => by
        unfold aK
        rw [if_neg nn, A1, f1, if_pos k5, f2, f4, ← f3, hz]
        by_cases q : k = 0
        · rw [if_pos q, if_pos (show 0 ≤ k ∧ k < 0 + 1 from by omega)]
          refine congrArg some ?_
          obtain ⟨y1, y2⟩ := abQ_rd hX hI ht hq ha (StK_sk (s := s) k5)
          rw [enP_0 hI.2.2.2.2.2.1, mxK_0 (g := e0K.2.2) (fun y => rfl), updF_id] at y2
          refine Prod.ext ?_ (Prod.ext ?_ (Prod.ext y1.symm y2.symm))
          · show updN (plQ T pg s) t _ = plQ T pg _
            rw [plQ_N hX hI ht hq ha]
            have e2 : (abQ T pg s).2.1 (pg 6 a) = s.2.2.2.1 (pg 6 a) := cutI_at b6
            rw [e2]
            by_cases e : s.2.2.2.1 (pg 6 a) = nm a
            · have z : psP (pg 4 a) (s.2.2.2.1 (pg 6 a)) (nm a) (pg 5 a) = 1 := by unfold psP; exact if_neg (fun q => q.2 e)
              rw [if_pos e, z, if_neg (by omega)]
            · have z : psP (pg 4 a) (s.2.2.2.1 (pg 6 a)) (nm a) (pg 5 a) = 1 + pg 5 a := by unfold psP; exact if_pos ⟨k5, e⟩
              rw [if_neg e, z, ← Nat.add_assoc]
          · show cutI 8 s.2.2.2.1 = cutI 8 _
            rw [reg_Q hX a2, if_neg (by omega)]
        · rw [if_neg q, if_neg (show ¬ (0 ≤ k ∧ k < 0 + 1) from by omega)]
      rw [fm_cg (List.range 9) (fun k _ => by rw [st k])]
      have e : (fun k => Option.map (fun s2 => (nI (100 * t + k), s2)) (if 0 ≤ k ∧ k < 0 + 1 then some (abQ T pg (tkC pg nm s a 0 0)) else none)) = (fun k => if 0 ≤ k ∧ k < 0 + 1 then some (nI (100 * t + k), abQ T pg (tkC pg nm s a 0 0)) else none) := by
        funext k
        by_cases q : 0 ≤ k ∧ k < 0 + 1
        · rw [if_pos q, if_pos q]; rfl
        · rw [if_neg q, if_neg q]; rfl
      rw [e, fm_rng (kn := 0) (m := 1) (by omega)]
      unfold nK
      rw [if_neg (by omega), if_neg (by omega), if_neg (by omega), if_neg (by omega), a3]
      show [(nI (t * 100 + 0), abQ T pg (tkC pg nm s a 0 0))] = [(nI (100 * t + (0 + 0)), abQ T pg (tkC pg nm s a 0 0))]
      rw [Nat.mul_comm]
    · have P1 : ∀ s9 pc, plQ T pg (tkC pg nm s a s9 pc) = updN (plQ T pg s) t (s.2.2.1 t + 1) := fun s9 pc => by
        rw [plQ_N hX hI ht hq ha, ps_1 k5, if_neg (by omega)]
      by_cases k4 : pg 4 a = 4
      · have er : rowN pg a = 3 := if_neg (by omega)
        have st : ∀ k, aK zs kd vx rr vv (abQ T pg s) t k = if 0 ≤ k ∧ k < 0 + 1 then some (abQ T pg (tkC pg nm s a (sr9 s 3 (s.2.2.2.2.2.2.1 3)) (s.2.2.2.2.2.2.1 3 + 1))) else none := fun k => by
          unfold aK
          rw [if_neg nn, A1, f1, if_neg k5, if_pos k4, lnX_Q (by decide), Nat.add_sub_cancel, atK_Q (by decide) (Nat.lt_succ_self _)]
          by_cases q : k = 0
          · rw [if_pos q, if_pos (by omega)]
            refine congrArg some ?_
            rw [abQ_wr hX hI ht hq ha (StK_fn k4) (Nat.succ_pos _) (v := 0) (an := 1) (if_pos k4).symm (if_pos (Or.inr k4)).symm (P1 _ _) (R := cutI 8 s.2.2.2.1) (by rw [reg_Q hX a2, if_neg (by omega)]), er]
            rfl
          · rw [if_neg q, if_neg (by omega)]
        rw [fm_cg (List.range 9) (fun k _ => by rw [st k])]
        have e : (fun k => Option.map (fun s2 => (nI (100 * t + k), s2)) (if 0 ≤ k ∧ k < 0 + 1 then some (abQ T pg (tkC pg nm s a (sr9 s 3 (s.2.2.2.2.2.2.1 3)) (s.2.2.2.2.2.2.1 3 + 1))) else none)) = (fun k => if 0 ≤ k ∧ k < 0 + 1 then some (nI (100 * t + k), abQ T pg (tkC pg nm s a (sr9 s 3 (s.2.2.2.2.2.2.1 3)) (s.2.2.2.2.2.2.1 3 + 1))) else none) := by
          funext k
          by_cases q : 0 ≤ k ∧ k < 0 + 1
          · rw [if_pos q, if_pos q]; rfl
          · rw [if_neg q, if_neg q]; rfl
        rw [e, fm_rng (kn := 0) (m := 1) (by omega)]
        unfold nK
        rw [if_neg (by omega), if_neg (by omega), if_neg (by omega), if_pos k4, a3]
        show [(nI (t * 100 + 0), abQ T pg (tkC pg nm s a _ _))] = [(nI (100 * t + (0 + 0)), abQ T pg (tkC pg nm s a _ _))]
        rw [Nat.mul_comm]
      · have hx : pg 5 a < 3 := b4 (by omega)
        have hx4 : pg 5 a < 4 := by omega
        have er : rowN pg a = pg 5 a := if_pos (by omega)
        have hzx := hz6 _ hx4
        have ek : (abQ T pg s).2.2.2 t (pg 5 a) = kn9 pg s a := by
          show ktQ T s t (pg 5 a) = _
          rw [ktQ_at ht hx4, kn9_kq, a3]
        have eg : (abQ T pg s).2.1 (pg 6 a) = s.2.2.2.1 (pg 6 a) := cutI_at b6
        by_cases k0 : pg 4 a = 0
        · have st : ∀ k, aK zs kd vx rr vv (abQ T pg s) t k = if kn9 pg s a ≤ k ∧ k < kn9 pg s a + (s.2.2.2.2.2.2.1 (pg 5 a) + 1 - kn9 pg s a) then some (abQ T pg (tkC pg nm s a (sr9 s (pg 5 a) k) 0)) else none := fun k => by
            unfold aK
            rw [if_neg nn, A1, f1, if_neg k5, if_neg k4, if_pos k0, f2, ek, lnX_Q hx4, ← f3]
            by_cases q : kn9 pg s a ≤ k ∧ k < s.2.2.2.2.2.2.1 (pg 5 a) + 1
            · rw [if_pos q, if_pos (by omega), atK_Q hx4 q.2, enP_v hI hx (by omega)]
              refine congrArg some ?_
              obtain ⟨y1, y2⟩ := abQ_rd hX hI ht hq ha (StK_rd (s := s) k0 (by omega : k ≤ s.2.2.2.2.2.2.1 (pg 5 a)))
              refine Prod.ext ?_ (Prod.ext ?_ (Prod.ext y1.symm y2.symm))
              · exact (P1 _ _).symm
              · show upd (cutI 8 s.2.2.2.1) (pg 6 a) _ = cutI 8 _
                rw [reg_Q hX a2, if_pos (Or.inl k0)]
            · rw [if_neg q, if_neg (by omega)]
          rw [fm_cg (List.range 9) (fun k _ => by rw [st k])]
          have e : (fun k => Option.map (fun s2 => (nI (100 * t + k), s2)) (if kn9 pg s a ≤ k ∧ k < kn9 pg s a + (s.2.2.2.2.2.2.1 (pg 5 a) + 1 - kn9 pg s a) then some (abQ T pg (tkC pg nm s a (sr9 s (pg 5 a) k) 0)) else none)) = (fun k => if kn9 pg s a ≤ k ∧ k < kn9 pg s a + (s.2.2.2.2.2.2.1 (pg 5 a) + 1 - kn9 pg s a) then some (nI (100 * t + k), abQ T pg (tkC pg nm s a (sr9 s (pg 5 a) k) 0)) else none) := by
            funext k
            by_cases q : kn9 pg s a ≤ k ∧ k < kn9 pg s a + (s.2.2.2.2.2.2.1 (pg 5 a) + 1 - kn9 pg s a)
            · rw [if_pos q, if_pos q]; rfl
            · rw [if_neg q, if_neg q]; rfl
          rw [e, fm_rng (by omega)]
          unfold nK
          rw [if_pos k0, List.map_filterMap, a3]
          refine fm_cg _ (fun i _ => ?_)
          rw [Nat.mul_comm]; rfl
        · by_cases k3 : pg 4 a = 3
          · have st : ∀ k, aK zs kd vx rr vv (abQ T pg s) t k = if kn9 pg s a ≤ k ∧ k < kn9 pg s a + (s.2.2.2.2.2.2.1 (pg 5 a) + 1 - kn9 pg s a) then @ite _ (adC pg s (pg 5 a) (k + 1)) (Classical.propDecidable _) none (some (abQ T pg (tkC pg nm s a (sr9 s (pg 5 a) k) (k + 1)))) else none := fun k => by
              unfold aK
              rw [if_neg nn, A1, f1, if_neg k5, if_neg k4, if_neg k0, if_pos k3, f2, ek, lnX_Q hx4, ← f3, f4]
              by_cases q : kn9 pg s a ≤ k ∧ k < s.2.2.2.2.2.2.1 (pg 5 a) + 1
              · rw [if_pos (show kn9 pg s a ≤ k ∧ k < kn9 pg s a + (s.2.2.2.2.2.2.1 (pg 5 a) + 1 - kn9 pg s a) from by omega)]
                have ad1 : (k + 1 < s.2.2.2.2.2.2.1 (pg 5 a) + 1 ∧ (atK (abQ T pg s) (pg 5 a) (k + 1)).2.1 = 1) ↔ adC pg s (pg 5 a) (k + 1) := by
                  constructor
                  · intro z
                    have := z.2
                    rw [atK_Q hx4 z.1] at this
                    exact (enP_an hI hx (by omega)).mp this
                  · intro z
                    have zl : k + 1 ≤ s.2.2.2.2.2.2.1 (pg 5 a) := Classical.byContradiction (fun w => adC_hi (by omega) z)
                    exact ⟨by omega, by rw [atK_Q hx4 (by omega)]; exact (enP_an hI hx zl).mpr z⟩
                by_cases q2 : adC pg s (pg 5 a) (k + 1)
                · rw [if_neg (fun z => z.2 (ad1.mpr q2)), if_pos q2]
                · rw [if_pos ⟨q, fun z => q2 (ad1.mp z)⟩, if_neg q2, atK_Q hx4 q.2, enP_v hI hx (by omega)]
                  refine congrArg some ?_
                  rw [abQ_wr hX hI ht hq ha (StK_ad hX hI a2 k3 q.1 (by omega) q2) (Nat.succ_pos _) (v := s.2.2.2.2.1 (sr9 s (pg 5 a) k) + nm a) (an := 1) (by rw [if_neg k4, val_Q.2.2 k3]) (if_pos (Or.inl k3)).symm (P1 _ _) (R := upd (cutI 8 s.2.2.2.1) (pg 6 a) (s.2.2.2.2.1 (sr9 s (pg 5 a) k))) (by rw [reg_Q hX a2, if_pos (Or.inr k3)]), er]
                  rfl
              · rw [if_neg (fun z => q z.1), if_neg (by omega)]
            rw [fm_cg (List.range 9) (fun k _ => by rw [st k])]
            have e : (fun k => Option.map (fun s2 => (nI (100 * t + k), s2)) (if kn9 pg s a ≤ k ∧ k < kn9 pg s a + (s.2.2.2.2.2.2.1 (pg 5 a) + 1 - kn9 pg s a) then @ite _ (adC pg s (pg 5 a) (k + 1)) (Classical.propDecidable _) none (some (abQ T pg (tkC pg nm s a (sr9 s (pg 5 a) k) (k + 1)))) else none)) = (fun k => if kn9 pg s a ≤ k ∧ k < kn9 pg s a + (s.2.2.2.2.2.2.1 (pg 5 a) + 1 - kn9 pg s a) then @ite _ (adC pg s (pg 5 a) (k + 1)) (Classical.propDecidable _) none (some (nI (100 * t + k), abQ T pg (tkC pg nm s a (sr9 s (pg 5 a) k) (k + 1)))) else none) := by
              funext k
              by_cases q : kn9 pg s a ≤ k ∧ k < kn9 pg s a + (s.2.2.2.2.2.2.1 (pg 5 a) + 1 - kn9 pg s a)
              · rw [if_pos q, if_pos q]
                by_cases q2 : adC pg s (pg 5 a) (k + 1)
                · rw [if_pos q2, if_pos q2]; rfl
                · rw [if_neg q2, if_neg q2]; rfl
              · rw [if_neg q, if_neg q]; rfl
            rw [e, fm_rng (by omega)]
            unfold nK
            rw [if_neg k0, if_neg (by omega), if_pos k3, List.map_filterMap, a3]
            refine fm_cg _ (fun i _ => ?_)
            by_cases q2 : adC pg s (pg 5 a) (kn9 pg s a + i + 1)
            · rw [if_pos q2, if_pos q2]; rfl
            · rw [if_neg q2, if_neg q2, Nat.mul_comm]; rfl
          · have k12 : pg 4 a = 1 ∨ pg 4 a = 2 := by omega
            have st : ∀ k, aK zs kd vx rr vv (abQ T pg s) t k = if kn9 pg s a + 1 ≤ k ∧ k < kn9 pg s a + 1 + (s.2.2.2.2.2.2.1 (pg 5 a) + 1 - kn9 pg s a) then @ite _ (adC pg s (pg 5 a) k) (Classical.propDecidable _) none (some (abQ T pg (tkC pg nm s a 0 k))) else none := fun k => by
              unfold aK
              rw [if_neg nn, A1, f1, if_neg k5, if_neg k4, if_neg k0, if_neg k3, f2, ek, lnX_Q hx4, ← f3, f4, eg]
              by_cases q : kn9 pg s a < k ∧ k ≤ s.2.2.2.2.2.2.1 (pg 5 a) + 1
              · rw [if_pos (show kn9 pg s a + 1 ≤ k ∧ k < kn9 pg s a + 1 + (s.2.2.2.2.2.2.1 (pg 5 a) + 1 - kn9 pg s a) from by omega)]
                have ad1 : (k < s.2.2.2.2.2.2.1 (pg 5 a) + 1 ∧ (atK (abQ T pg s) (pg 5 a) k).2.1 = 1) ↔ adC pg s (pg 5 a) k := by
                  constructor
                  · intro z
                    have := z.2
                    rw [atK_Q hx4 z.1] at this
                    exact (enP_an hI hx (by omega)).mp this
                  · intro z
                    have zl : k ≤ s.2.2.2.2.2.2.1 (pg 5 a) := Classical.byContradiction (fun w => adC_hi (by omega) z)
                    exact ⟨by omega, by rw [atK_Q hx4 (by omega)]; exact (enP_an hI hx zl).mpr z⟩
                by_cases q2 : adC pg s (pg 5 a) k
                · rw [if_neg (fun z => z.2 (ad1.mpr q2)), if_pos q2]
                · rw [if_pos ⟨q, fun z => q2 (ad1.mp z)⟩, if_neg q2]
                  refine congrArg some ?_
                  rw [abQ_wr hX hI ht hq ha (StK_wr hX hI a2 k12 q.1 q.2 q2) (by omega) (v := if pg 4 a = 1 then nm a else s.2.2.2.1 (pg 6 a) + nm a) (an := 0) (by
                    rw [if_neg k4]
                    by_cases k1 : pg 4 a = 1
                    · rw [if_pos k1, val_Q.1 k1]
                    · rw [if_neg k1, val_Q.2.1 (by omega)]) (if_neg (by omega)).symm (P1 _ _) (R := cutI 8 s.2.2.2.1) (by rw [reg_Q hX a2, if_neg (by omega)]), er, enP_0 hI.2.2.2.2.2.1, mxK_0 (g := e0K.2.2) (fun y => rfl), updF_id]
                  rfl
              · rw [if_neg (fun z => q z.1), if_neg (by omega)]
            rw [fm_cg (List.range 9) (fun k _ => by rw [st k])]
            have e : (fun k => Option.map (fun s2 => (nI (100 * t + k), s2)) (if kn9 pg s a + 1 ≤ k ∧ k < kn9 pg s a + 1 + (s.2.2.2.2.2.2.1 (pg 5 a) + 1 - kn9 pg s a) then @ite _ (adC pg s (pg 5 a) k) (Classical.propDecidable _) none (some (abQ T pg (tkC pg nm s a 0 k))) else none)) = (fun k => if kn9 pg s a + 1 ≤ k ∧ k < kn9 pg s a + 1 + (s.2.2.2.2.2.2.1 (pg 5 a) + 1 - kn9 pg s a) then @ite _ (adC pg s (pg 5 a) k) (Classical.propDecidable _) none (some (nI (100 * t + k), abQ T pg (tkC pg nm s a 0 k))) else none) := by
              funext k
              by_cases q : kn9 pg s a + 1 ≤ k ∧ k < kn9 pg s a + 1 + (s.2.2.2.2.2.2.1 (pg 5 a) + 1 - kn9 pg s a)
              · rw [if_pos q, if_pos q]
                by_cases q2 : adC pg s (pg 5 a) k
                · rw [if_pos q2, if_pos q2]; rfl
                · rw [if_neg q2, if_neg q2]; rfl
              · rw [if_neg q, if_neg q]; rfl
            rw [e, fm_rng (by omega)]
            unfold nK
            rw [if_neg k0, if_pos k12, List.map_filterMap, a3]
            refine fm_cg _ (fun i _ => ?_)
            by_cases q2 : adC pg s (pg 5 a) (kn9 pg s a + 1 + i)
            · rw [if_pos q2, if_pos q2]; rfl
            · rw [if_neg q2, if_neg q2, Nat.mul_comm]; rfl
  · rw [if_neg hq]
    symm
    refine fm_none _ (fun k _ => ?_)
    have : (abQ T pg s).1 t = pg 0 t := by rw [A1]; split <;> omega
    unfold aK
    rw [this, hz, if_pos (Nat.lt_irrefl _)]; rfl
theorem nxQ_sim (hX : PX T Ac pg nm zs kd vx rr vv) (hI : IvQ T Ac pg nm s) : (nxK9 pg nm T s).map (fun k => (k.1, abQ T pg k.2)) = nxF (aK zs kd vx rr vv) T (abQ T pg s) := by
  rw [nxF_flat]
  unfold nxK9
  rw [List.map_flatMap]
  exact fl_cg _ (fun t ht => nKt_sim hX hI (List.mem_range.mp ht))
end SIM9
