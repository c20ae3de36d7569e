theorem im_or {f : Nat → Nat} {E D : Nat → Nat → Prop} {x y : Nat} : imR9 f (fun a b => E a b ∨ D a b) x y ↔ imR9 f E x y ∨ imR9 f D x y := by
  constructor
  · rintro ⟨a, b, w | w, e⟩
    · exact Or.inl ⟨a, b, w, e⟩
    · exact Or.inr ⟨a, b, w, e⟩
  · rintro (⟨a, b, w, e⟩ | ⟨a, b, w, e⟩)
    · exact ⟨a, b, Or.inl w, e⟩
    · exact ⟨a, b, Or.inr w, e⟩
theorem msk_ior {f g nu : Nat → Nat} {N : Nat} {E D : Nat → Nat → Prop} (h : msk9 f N (imR9 nu E)) (k : msk9 g N (imR9 nu D)) : msk9 (fun i => f i ||| g i) N (imR9 nu (fun a b => E a b ∨ D a b)) :=
  msk_cg (msk_or h k) (fun _ _ => im_or.symm)
/-- a graph stands, by relations -/
def stG9 (gm T ld : Nat) (zs kd vx li fm hp : Nat → Nat) (RL : Nat → List Nat) : Prop :=
  (gm = 0 ∧ ¬ rng9 (fun a b => ((rO9 T zs hp a b ∨ rRF9 ld li fm hp RL a b) ∨ rB9 RL a b) ∨ rSF9 ld vx li fm hp RL a b)) ∨
  (gm = 3 ∧ ¬ rng9 (fun a b => rO9 T zs hp a b ∨ rRF9 ld li fm hp RL a b) ∧ ¬ bck9 (fun a b => rO9 T zs hp a b ∨ rRF9 ld li fm hp RL a b) (fun a b => (rRF9 ld li fm hp RL a b ∨ rB9 RL a b) ∨ rSF9 ld vx li fm hp RL a b)) ∨
  ((gm = 1 ∨ gm = 2) ∧ ¬ rng9 (fun a b => ((rRF9 ld li fm hp RL a b ∨ rB9 RL a b) ∨ rSF9 ld vx li fm hp RL a b) ∨ (rO9 T zs hp a b ∧ ¬ kd a = 4 ∧ ¬ kd b = 4 ∧ vx a = vx b)) ∧
    ¬ rng9 (fun a b => (rB9 RL a b ∨ rSF9 ld vx li fm hp RL a b) ∨ ((rO9 T zs hp a b ∧ kepP gm kd vx a b) ∨ (rRF9 ld li fm hp RL a b ∧ ¬ a / 7 = b / 7))))
section WSU
variable {gm T ld : Nat} {zs kd vx li fm hp rx rs : Nat → Nat} {RL : Nat → List Nat} {s : W6}
theorem msk_bt (hN : nuO9 T zs hp s) {f : Nat → Nat} {p : Nat → Nat → Bool} {E D : Nat → Nat → Prop} (h : msk9 f s.2.2.2.2.2 (imR9 s.1 E)) (hD : ∀ a b, D a b → DP9 T zs hp a ∧ DP9 T zs hp b) (hp9 : ∀ a b, DP9 T zs hp a → DP9 T zs hp b → (p (s.1 a) (s.1 b) = true ↔ D a b)) : msk9 (fun i => btN (p i) (f i) s.2.2.2.2.2) s.2.2.2.2.2 (imR9 s.1 (fun a b => E a b ∨ D a b)) := by
  refine ⟨fun i j w => ?_, fun i j hi hj => ?_⟩
  · rcases im_or.mp w with w | ⟨a, b, w1, w2, w3⟩
    · exact h.1 i j w
    · rw [← w2, ← w3]; exact ⟨hN.2.1 a (hD a b w1).1, hN.2.1 b (hD a b w1).2⟩
  · rw [btN_b9, im_or, h.2 i j hi hj]
    refine or_congr Iff.rfl ⟨fun ⟨_, w⟩ => ?_, fun ⟨a, b, w1, w2, w3⟩ => ⟨hj, ?_⟩⟩
    · obtain ⟨a, a1, a2⟩ := hN.2.2.2 i hi
      obtain ⟨b, b1, b2⟩ := hN.2.2.2 j hj
      rw [← a2, ← b2] at w
      exact ⟨a, b, (hp9 a b a1 b1).mp w, a2, b2⟩
    · rw [← w2, ← w3]; exact (hp9 a b (hD a b w1).1 (hD a b w1).2).mpr w1
/-- the reference's test is the test by relations -/
theorem wSt_9 (hT : T ≤ 4) (hz : ∀ t, t < T → zs t ≤ 7) (hR : okRL RL rx rs) (hW : rwD9 T zs hp RL) (hK : tkD9 T ld zs vx li fm hp) (hN : nuO9 T zs hp s) : wSt gm T ld zs kd vx li fm hp rx rs s ↔ stG9 gm T ld zs kd vx li fm hp RL := by
  have mO := ow_9 hz hN
  have mR := rd_9 hR hW hK hN
  have mB := bf_9 hR hW hN
  have mS := sn_9 hR hW hK hN
  have dO : ∀ a b, rO9 T zs hp a b → DP9 T zs hp a ∧ DP9 T zs hp b := fun a b h => rO_D h
  have dR : ∀ a b, rRF9 ld li fm hp RL a b → DP9 T zs hp a ∧ DP9 T zs hp b := fun a b h => rRF_D hW hK h
  have dB : ∀ a b, rB9 RL a b → DP9 T zs hp a ∧ DP9 T zs hp b := fun a b h => rB_D hW h
  have dS : ∀ a b, rSF9 ld vx li fm hp RL a b → DP9 T zs hp a ∧ DP9 T zs hp b := fun a b h => rSF_D hW hK h
  have hi := hN.2.2.1
  unfold wSt stP stG9
  generalize prF s.1 (mpP (owT zs hp) T) s.2.1 = ow at *
  generalize (tkR s.1 rx rs (tkL s.1 rx rs li fm hp vx (s.2.2.1, s.2.2.2.2.1) ld) (rs 3)).1 = rd at *
  generalize prF s.1 (mpP (bfX rx rs) 4) s.2.2.2.1 = bf at *
  generalize (tkR s.1 rx rs (tkL s.1 rx rs li fm hp vx (s.2.2.1, s.2.2.2.2.1) ld) (rs 3)).2 = sn at *
  have m0 : msk9 (s0F ow rd bf sn) s.2.2.2.2.2 _ := msk_ior (msk_ior (msk_ior mO mR) mB) mS
  have m3 : msk9 (s3F rd bf sn) s.2.2.2.2.2 _ := msk_ior (msk_ior mR mB) mS
  have mb : msk9 (sbF bf sn) s.2.2.2.2.2 _ := msk_ior mB mS
  have mh : msk9 (shF ow rd) s.2.2.2.2.2 _ := msk_ior mO mR
  have d0 : ∀ a b, ((rO9 T zs hp a b ∨ rRF9 ld li fm hp RL a b) ∨ rB9 RL a b) ∨ rSF9 ld vx li fm hp RL a b → DP9 T zs hp a ∧ DP9 T zs hp b := fun a b w => w.elim (fun w => w.elim (fun w => w.elim (dO a b) (dR a b)) (dB a b)) (dS a b)
  have d3 : ∀ a b, (rRF9 ld li fm hp RL a b ∨ rB9 RL a b) ∨ rSF9 ld vx li fm hp RL a b → DP9 T zs hp a ∧ DP9 T zs hp b := fun a b w => w.elim (fun w => w.elim (dR a b) (dB a b)) (dS a b)
  have db : ∀ a b, rB9 RL a b ∨ rSF9 ld vx li fm hp RL a b → DP9 T zs hp a ∧ DP9 T zs hp b := fun a b w => w.elim (dB a b) (dS a b)
  have dh : ∀ a b, rO9 T zs hp a b ∨ rRF9 ld li fm hp RL a b → DP9 T zs hp a ∧ DP9 T zs hp b := fun a b w => w.elim (dO a b) (dR a b)
  have bo : ∀ a b, DP9 T zs hp a → DP9 T zs hp b → (ow (s.1 a) / 2 ^ s.1 b % 2 = 1 ↔ rO9 T zs hp a b) := fun a b ha hb => by
    rw [tb_div, mO.2 _ _ (hN.2.1 a ha) (hN.2.1 b hb)]
    refine ⟨fun ⟨c, d, w1, w2, w3⟩ => ?_, fun w => ⟨a, b, w, rfl, rfl⟩⟩
    rw [← hi c a (dO c d w1).1 ha w2, ← hi d b (dO c d w1).2 hb w3]; exact w1
  have br : ∀ a b, DP9 T zs hp a → DP9 T zs hp b → (rd (s.1 a) / 2 ^ s.1 b % 2 = 1 ↔ rRF9 ld li fm hp RL a b) := fun a b ha hb => by
    rw [tb_div, mR.2 _ _ (hN.2.1 a ha) (hN.2.1 b hb)]
    refine ⟨fun ⟨c, d, w1, w2, w3⟩ => ?_, fun w => ⟨a, b, w, rfl, rfl⟩⟩
    rw [← hi c a (dR c d w1).1 ha w2, ← hi d b (dR c d w1).2 hb w3]; exact w1
  have m1 : msk9 (m1F s.2.2.2.2.2 kd vx ow rd bf sn (fun n => aoN T zs hp s.1 n - 1)) s.2.2.2.2.2 _ :=
    msk_bt hN m3 (p := fun i j => decide (c1P kd vx ow (fun n => aoN T zs hp s.1 n - 1) i j)) (D := fun a b => rO9 T zs hp a b ∧ ¬ kd a = 4 ∧ ¬ kd b = 4 ∧ vx a = vx b) (fun a b w => dO a b w.1) (fun a b ha hb => by
      rw [decide_eq_true_iff]
      show ow (s.1 a) / 2 ^ s.1 b % 2 = 1 ∧ ¬ kd (aoN T zs hp s.1 (s.1 a) - 1) = 4 ∧ ¬ kd (aoN T zs hp s.1 (s.1 b) - 1) = 4 ∧ vx (aoN T zs hp s.1 (s.1 a) - 1) = vx (aoN T zs hp s.1 (s.1 b) - 1) ↔ _
      rw [ao_nu hT hz hN ha, ao_nu hT hz hN hb, bo a b ha hb])
  have m2 : msk9 (m2F gm s.2.2.2.2.2 kd vx ow rd bf sn (fun n => aoN T zs hp s.1 n - 1)) s.2.2.2.2.2 _ :=
    msk_bt hN mb (p := fun i j => decide (c2P gm kd vx ow rd (fun n => aoN T zs hp s.1 n - 1) i j)) (D := fun a b => (rO9 T zs hp a b ∧ kepP gm kd vx a b) ∨ (rRF9 ld li fm hp RL a b ∧ ¬ a / 7 = b / 7)) (fun a b w => w.elim (fun w => dO a b w.1) (fun w => dR a b w.1)) (fun a b ha hb => by
      rw [decide_eq_true_iff]
      show (ow (s.1 a) / 2 ^ s.1 b % 2 = 1 ∧ kepP gm kd vx (aoN T zs hp s.1 (s.1 a) - 1) (aoN T zs hp s.1 (s.1 b) - 1)) ∨ (rd (s.1 a) / 2 ^ s.1 b % 2 = 1 ∧ ¬ (aoN T zs hp s.1 (s.1 a) - 1) / 7 = (aoN T zs hp s.1 (s.1 b) - 1) / 7) ↔ _
      rw [ao_nu hT hz hN ha, ao_nu hT hz hN hb, bo a b ha hb, br a b ha hb])
  have d1 : ∀ a b, ((rRF9 ld li fm hp RL a b ∨ rB9 RL a b) ∨ rSF9 ld vx li fm hp RL a b) ∨ (rO9 T zs hp a b ∧ ¬ kd a = 4 ∧ ¬ kd b = 4 ∧ vx a = vx b) → DP9 T zs hp a ∧ DP9 T zs hp b := fun a b w => w.elim (d3 a b) (fun w => dO a b w.1)
  have d2 : ∀ a b, (rB9 RL a b ∨ rSF9 ld vx li fm hp RL a b) ∨ ((rO9 T zs hp a b ∧ kepP gm kd vx a b) ∨ (rRF9 ld li fm hp RL a b ∧ ¬ a / 7 = b / 7)) → DP9 T zs hp a ∧ DP9 T zs hp b := fun a b w => w.elim (db a b) (fun w => w.elim (fun w => dO a b w.1) (fun w => dR a b w.1))
  rw [rngP_9 m0, rng_im d0 hi, rngP_9 mh, rng_im dh hi, kbkP_9 mh m3, bck_im dh d3 hi, rngP_9 m1, rng_im d1 hi, rngP_9 m2, rng_im d2 hi]
theorem stG_cg {fm2 : Nat → Nat} (h : ∀ k, k < ld → fm (li k) = fm2 (li k)) : stG9 gm T ld zs kd vx li fm hp RL ↔ stG9 gm T ld zs kd vx li fm2 hp RL := by
  have e1 : rRF9 ld li fm hp RL = rRF9 ld li fm2 hp RL := by
    funext a b
    unfold rRF9
    refine propext (or_congr ⟨fun ⟨k, k1, k2, k3, k4⟩ => ⟨k, k1, k2, by rw [← h k k1]; exact k3, k4⟩, fun ⟨k, k1, k2, k3, k4⟩ => ⟨k, k1, k2, by rw [h k k1]; exact k3, k4⟩⟩ Iff.rfl)
  have e2 : rSF9 ld vx li fm hp RL = rSF9 ld vx li fm2 hp RL := by
    funext a b
    unfold rSF9
    refine propext (or_congr ⟨fun ⟨k, k1, k2, k3, k4⟩ => ⟨k, k1, k2, by rw [← h k k1]; exact k3, k4⟩, fun ⟨k, k1, k2, k3, k4⟩ => ⟨k, k1, k2, by rw [h k k1]; exact k3, k4⟩⟩ Iff.rfl)
  unfold stG9
  rw [e1, e2]
end WSU
