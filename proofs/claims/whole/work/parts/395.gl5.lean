theorem upd_cm9 {f : Nat → Int32} {a b : Nat} {x y : Int32} (h : a ≠ b) : upd (upd f a x) b y = upd (upd f b y) a x := by
  funext i
  by_cases e : i = a
  · rw [e, pk_un h, pk_us, pk_us]
  · by_cases e2 : i = b
    · rw [e2, pk_us, pk_un (fun q => h q.symm), pk_us]
    · rw [pk_un e2, pk_un e, pk_un e, pk_un e2]
theorem updN_cm9 {f : Nat → Nat} {a b x y : Nat} (h : a ≠ b) : updN (updN f a x) b y = updN (updN f b y) a x := by
  funext i
  by_cases e : i = a
  · rw [e, updN_n h, updN_s, updN_s]
  · by_cases e2 : i = b
    · rw [e2, updN_s, updN_n (fun q => h q.symm), updN_s]
    · rw [updN_n e2, updN_n e, updN_n e, updN_n e2]
def vz9 (K : Nat) (rg cv : Nat → Int32) (v : Int32) (c s : Nat) : Int32 := if K = 1 then v else if K = 2 then rg c + v else cv s + v
theorem vlP_vz {K : Nat} {rg cv : Nat → Int32} {v : Int32} {a c s : Nat} : vlP K rg cv v a c s = if 1 ≤ K ∧ K ≤ 3 then upd cv (a + 1) (vz9 K rg cv v c s) else cv := by
  unfold vlP vz9
  by_cases k1 : K = 1
  · rw [if_pos k1, if_pos k1, if_pos (by omega)]
  · rw [if_neg k1, if_neg k1]
    by_cases k2 : K = 2
    · rw [if_pos k2, if_pos k2, if_pos (by omega)]
    · rw [if_neg k2, if_neg k2]
      by_cases k3 : K = 3
      · rw [if_pos k3, if_pos (by omega), pk_us]
      · rw [if_neg k3, if_neg (by omega)]
/-- a state of the threads on the class's side: done, sources, places, registers, values -/
abbrev CF9 := Nat × Int64 × (Nat → Nat) × (Nat → Int32) × (Nat → Int32)
def fA9 (pg : Nat → Nat → Nat) (c : CF9) (t : Nat) : Nat := pg 1 (t * 7 + c.2.2.1 t)
def fQ9 (pg : Nat → Nat → Nat) (F : Nat → Nat) (a : Nat) : Nat := if pg 4 a = 0 ∨ pg 4 a = 3 then F a else 0
/-- a thread may act by the choice F -/
def fEn (pg : Nat → Nat → Nat) (F : Nat → Nat) (c : CF9) (t : Nat) : Prop := c.2.2.1 t < pg 0 t ∧ (pg 4 (fA9 pg c t) = 0 ∨ pg 4 (fA9 pg c t) = 3 → wr pg c.1 (F (fA9 pg c t)))
/-- action a is done from q -/
def fD9 (pg : Nat → Nat → Nat) (nm : Nat → Int32) (c : CF9) (a q : Nat) : CF9 := (c.1 ||| 2 ^ a, srcP c.2.1 q a, updN c.2.2.1 (pg 2 a) (c.2.2.1 (pg 2 a) + psP (pg 4 a) (c.2.2.2.1 (pg 6 a)) (nm a) (pg 5 a)), rgP (pg 4 a) c.2.2.2.1 c.2.2.2.2 (pg 6 a) q, vlP (pg 4 a) c.2.2.2.1 c.2.2.2.2 (nm a) a (pg 6 a) q)
def fS9 (pg : Nat → Nat → Nat) (nm : Nat → Int32) (F : Nat → Nat) (c : CF9) (t : Nat) : CF9 := fD9 pg nm c (fA9 pg c t) (fQ9 pg F (fA9 pg c t))
def PI9 (T Ac : Nat) (pg : Nat → Nat → Nat) (nm : Nat → Int32) (c : CF9) : Prop := PgI T Ac pg nm c.1 c.2.1 c.2.2.1 c.2.2.2.1 c.2.2.2.2
def c09 : CF9 := (0, 0, fun _ => 0, fun _ => 0, fun _ => 0)
/-- threads act one after another by the choice F -/
def fRun (T : Nat) (pg : Nat → Nat → Nat) (nm : Nat → Int32) (F : Nat → Nat) : List Nat → CF9 → CF9 → Prop
  | [], c, e => c = e
  | t :: l, c, e => t < T ∧ fEn pg F c t ∧ fRun T pg nm F l (fS9 pg nm F c t) e
def fNo (T : Nat) (pg : Nat → Nat → Nat) (F : Nat → Nat) (c : CF9) : Prop := ∀ t, t < T → ¬ fEn pg F c t
section FMA
variable {T Ac : Nat} {pg : Nat → Nat → Nat} {nm : Nat → Int32} {zs kd vx rr : Nat → Nat} {vv : Nat → Int32} {F : Nat → Nat}
theorem fQ9_8 {c : CF9} {t : Nat} (he : fEn pg F c t) : fQ9 pg F (fA9 pg c t) < 8 := by
  unfold fQ9
  by_cases k : pg 4 (fA9 pg c t) = 0 ∨ pg 4 (fA9 pg c t) = 3
  · rw [if_pos k]; exact wr_lt (he.2 k)
  · rw [if_neg k]; decide
theorem fS_pi (hX : PX T Ac pg nm zs kd vx rr vv) {c : CF9} {t : Nat} (hI : PI9 T Ac pg nm c) (ht : t < T) (he : fEn pg F c t) : PI9 T Ac pg nm (fS9 pg nm F c t) :=
  PgI_step hX hI ht he.1 rfl (fQ9_8 he) (fun k => by unfold fQ9; exact (if_pos k).symm ▸ he.2 k)
/-- two threads act: it does not matter who is first -/
theorem fS_cm (hX : PX T Ac pg nm zs kd vx rr vv) {c : CF9} {t u : Nat} (hI : PI9 T Ac pg nm c) (ht : t < T) (hu : u < T) (hn : t ≠ u) (h1 : fEn pg F c t) (h2 : fEn pg F c u) :
    fEn pg F (fS9 pg nm F c t) u ∧ fS9 pg nm F (fS9 pg nm F c t) u = fS9 pg nm F (fS9 pg nm F c u) t := by
  have pn : ∀ {t u : Nat}, t < T → u < T → t ≠ u → fEn pg F c t → fA9 pg (fS9 pg nm F c t) u = fA9 pg c u ∧ (fS9 pg nm F c t).2.2.1 u = c.2.2.1 u := fun {t u} ht hu hn h1 => by
    obtain ⟨a1, a2, a3, a4, a5, a6⟩ := px_next hX hI ht h1.1 rfl
    have e : (fS9 pg nm F c t).2.2.1 u = c.2.2.1 u := updN_n (by rw [show fA9 pg c t = pg 1 (t * 7 + c.2.2.1 t) from rfl, a3]; exact fun q => hn q.symm)
    exact ⟨by unfold fA9; rw [e], e⟩
  obtain ⟨e1, e2⟩ := pn ht hu hn h1
  obtain ⟨e3, e4⟩ := pn hu ht (fun q => hn q.symm) h2
  refine ⟨⟨by rw [e2]; exact h2.1, fun k => ?_⟩, ?_⟩
  · rw [e1] at k ⊢; exact wr_set (h2.2 k)
  · show fD9 pg nm (fS9 pg nm F c t) (fA9 pg (fS9 pg nm F c t) u) (fQ9 pg F (fA9 pg (fS9 pg nm F c t) u)) = fD9 pg nm (fS9 pg nm F c u) (fA9 pg (fS9 pg nm F c u) t) (fQ9 pg F (fA9 pg (fS9 pg nm F c u) t))
    rw [e1, e3]
    obtain ⟨a1, a2, a3, a4, a5, a6⟩ := px_next hX hI ht h1.1 rfl
    obtain ⟨b1, b2, b3, b4, b5, b6⟩ := px_next hX hI hu h2.1 rfl
    have sa : ∀ {t b : Nat}, fEn pg F c t → c.1.testBit b = false → fQ9 pg F (fA9 pg c t) ≠ b + 1 := fun {t b} he hb q => by
      unfold fQ9 at q
      by_cases k : pg 4 (fA9 pg c t) = 0 ∨ pg 4 (fA9 pg c t) = 3
      · rw [if_pos k] at q
        rcases he.2 k with z | ⟨z1, z2, -⟩
        · rw [z] at q; exact absurd q.symm (Nat.succ_ne_zero b)
        · rw [q, Nat.add_sub_cancel, hb] at z2; exact absurd z2 Bool.false_ne_true
      · rw [if_neg k] at q; exact absurd q.symm (Nat.succ_ne_zero b)
    have s1 := sa h1 b5
    have s2 := sa h2 a5
    obtain ⟨r1, l1, x1⟩ := px_cell hX a2
    obtain ⟨r2, l2, x2⟩ := px_cell hX b2
    unfold fS9
    generalize fQ9 pg F (fA9 pg c t) = p at s1 ⊢
    generalize fQ9 pg F (fA9 pg c u) = q at s2 ⊢
    have ea : fA9 pg c t = pg 1 (t * 7 + c.2.2.1 t) := rfl
    have eb : fA9 pg c u = pg 1 (u * 7 + c.2.2.1 u) := rfl
    rw [← ea] at a1 a2 a3 a4 a5 a6 x1 s2
    rw [← eb] at b1 b2 b3 b4 b5 b6 x2 s1
    generalize fA9 pg c t = a at *
    generalize fA9 pg c u = b at *
    obtain ⟨dn, so, pl, rg, cv⟩ := c
    have hab : a ≠ b := fun w => hn (by rw [← a3, ← b3, w])
    have hc : pg 6 a ≠ pg 6 b := by omega
    have h2 : pg 2 a ≠ pg 2 b := by rw [a3, b3]; exact hn
    have rk : ∀ {K k k' s : Nat}, k ≠ k' → rgP K rg cv k s k' = rg k' := fun {K k k' s} w => by
      unfold rgP; split
      · exact pk_un (fun z => w z.symm)
      · rfl
    have ck : ∀ {K k s s' a : Nat} {v : Int32}, s' ≠ a + 1 → vlP K rg cv v a k s s' = cv s' := fun {K k s s' a v} w => by
      rw [vlP_vz]; split
      · exact pk_un w
      · rfl
    have zk : ∀ {K K' k k' s s' a : Nat} {v v' : Int32}, k' ≠ k → s ≠ a + 1 → vz9 K (rgP K' rg cv k' s') (vlP K' rg cv v' a k' s') v k s = vz9 K rg cv v k s := fun {K K' k k' s s' a v v'} w1 w2 => by
      unfold vz9; rw [rk w1, ck w2]
    show (_, _, _, _, _) = (_, _, _, _, _)
    refine Prod.ext ?_ (Prod.ext ?_ (Prod.ext ?_ (Prod.ext ?_ ?_)))
    · exact (Nat.or_assoc ..).trans ((congrArg (fun z => dn ||| z) (Nat.or_comm ..)).trans (Nat.or_assoc ..).symm)
    · show srcP (srcP so p a) q b = srcP (srcP so q b) p a
      unfold srcP
      apply Int64.toBitVec_inj.mp
      simp only [Int64.toBitVec_or]
      rw [BitVec.or_assoc, BitVec.or_assoc]
      exact congrArg (fun z => so.toBitVec ||| z) (BitVec.or_comm ..)
    · show updN (updN pl (pg 2 a) _) (pg 2 b) (updN pl (pg 2 a) _ (pg 2 b) + psP (pg 4 b) (rgP (pg 4 a) rg cv (pg 6 a) p (pg 6 b)) (nm b) (pg 5 b)) = updN (updN pl (pg 2 b) _) (pg 2 a) (updN pl (pg 2 b) _ (pg 2 a) + psP (pg 4 a) (rgP (pg 4 b) rg cv (pg 6 b) q (pg 6 a)) (nm a) (pg 5 a))
      rw [updN_n (fun w => h2 w.symm), updN_n h2, rk hc, rk (fun w => hc w.symm), updN_cm9 h2]
    · show rgP (pg 4 b) (rgP (pg 4 a) rg cv (pg 6 a) p) (vlP (pg 4 a) rg cv (nm a) a (pg 6 a) p) (pg 6 b) q = rgP (pg 4 a) (rgP (pg 4 b) rg cv (pg 6 b) q) (vlP (pg 4 b) rg cv (nm b) b (pg 6 b) q) (pg 6 a) p
      have e1 : vlP (pg 4 a) rg cv (nm a) a (pg 6 a) p q = cv q := ck s2
      have e2 : vlP (pg 4 b) rg cv (nm b) b (pg 6 b) q p = cv p := ck s1
      unfold rgP
      rw [e1, e2]
      by_cases ka : pg 4 a = 0 ∨ pg 4 a = 3
      · rw [if_pos ka, if_pos ka]
        by_cases kb : pg 4 b = 0 ∨ pg 4 b = 3
        · rw [if_pos kb, if_pos kb, upd_cm9 hc]
        · rw [if_neg kb, if_neg kb]
      · rw [if_neg ka, if_neg ka]
    · show vlP (pg 4 b) (rgP (pg 4 a) rg cv (pg 6 a) p) (vlP (pg 4 a) rg cv (nm a) a (pg 6 a) p) (nm b) b (pg 6 b) q = vlP (pg 4 a) (rgP (pg 4 b) rg cv (pg 6 b) q) (vlP (pg 4 b) rg cv (nm b) b (pg 6 b) q) (nm a) a (pg 6 a) p
      rw [vlP_vz (K := pg 4 b) (a := b) (rg := rgP (pg 4 a) rg cv (pg 6 a) p), vlP_vz (K := pg 4 a) (a := a) (rg := rgP (pg 4 b) rg cv (pg 6 b) q), zk hc s2, zk (fun w => hc w.symm) s1, vlP_vz, vlP_vz]
      by_cases ka : 1 ≤ pg 4 a ∧ pg 4 a ≤ 3
      · rw [if_pos ka, if_pos ka]
        by_cases kb : 1 ≤ pg 4 b ∧ pg 4 b ≤ 3
        · rw [if_pos kb, if_pos kb, upd_cm9 (by omega)]
        · rw [if_neg kb, if_neg kb]
      · rw [if_neg ka, if_neg ka]
theorem fr_pi (hX : PX T Ac pg nm zs kd vx rr vv) : ∀ (l : List Nat) (c e : CF9), PI9 T Ac pg nm c → fRun T pg nm F l c e → PI9 T Ac pg nm e
  | [], _, _, h, r => by rw [← show _ = _ from r]; exact h
  | t :: l, c, e, h, ⟨r1, r2, r3⟩ => fr_pi hX l _ e (fS_pi hX h r1 r2) r3
theorem fr_front (hX : PX T Ac pg nm zs kd vx rr vv) : ∀ (l : List Nat) (c e : CF9) (t : Nat), PI9 T Ac pg nm c → t < T → fEn pg F c t → fRun T pg nm F l c e → fNo T pg F e → ∃ l2, fRun T pg nm F l2 (fS9 pg nm F c t) e
  | [], c, e, t, hI, ht, he, r, hz => by
    rw [← show _ = _ from r] at hz
    exact absurd he (hz t ht)
  | u :: l, c, e, t, hI, ht, he, ⟨r1, r2, r3⟩, hz => by
    by_cases q : t = u
    · rw [q]; exact ⟨l, r3⟩
    · obtain ⟨c1, c2⟩ := fS_cm hX hI ht r1 q he r2
      obtain ⟨d1, d2⟩ := fS_cm hX hI r1 ht (fun w => q w.symm) r2 he
      obtain ⟨l2, h2⟩ := fr_front hX l (fS9 pg nm F c u) e t (fS_pi hX hI r1 r2) ht d1 r3 hz
      rw [d2] at h2
      exact ⟨u :: l2, r1, c1, h2⟩
/-- all ways by one choice come to one end -/
theorem fr_uni (hX : PX T Ac pg nm zs kd vx rr vv) : ∀ (m l : List Nat) (c d e : CF9), PI9 T Ac pg nm c → fRun T pg nm F l c e → fNo T pg F e → fRun T pg nm F m c d → ∃ l2, fRun T pg nm F l2 d e
  | [], l, c, d, e, hI, r, hz, s => by rw [← show _ = _ from s]; exact ⟨l, r⟩
  | t :: m, l, c, d, e, hI, r, hz, ⟨s1, s2, s3⟩ => by
    obtain ⟨l2, h2⟩ := fr_front hX l c e t hI s1 s2 r hz
    exact fr_uni hX m l2 _ d e (fS_pi hX hI s1 s2) h2 hz s3
theorem fr_eq (hX : PX T Ac pg nm zs kd vx rr vv) {m l : List Nat} {c d e : CF9} (hI : PI9 T Ac pg nm c) (r : fRun T pg nm F l c e) (hz : fNo T pg F e) (s : fRun T pg nm F m c d) (hd : fNo T pg F d) : d = e := by
  obtain ⟨l2, h2⟩ := fr_uni hX m l c d e hI r hz s
  cases l2 with
  | nil => exact h2
  | cons t l2 => exact absurd h2.2.1 (hd t h2.1)
theorem fr_app : ∀ (l m : List Nat) (c d e : CF9), fRun T pg nm F l c d → fRun T pg nm F m d e → fRun T pg nm F (l ++ m) c e
  | [], m, c, d, e, r, s => by rw [show c = d from r]; exact s
  | t :: l, m, c, d, e, ⟨r1, r2, r3⟩, s => ⟨r1, r2, fr_app l m _ d e r3 s⟩
/-- two choices that agree on what is done -/
theorem fr_cg {G : Nat → Nat} (hX : PX T Ac pg nm zs kd vx rr vv) : ∀ (l : List Nat) (c e : CF9), PI9 T Ac pg nm c → fRun T pg nm F l c e → (∀ a, e.1.testBit a = true → (pg 4 a = 0 ∨ pg 4 a = 3) → F a = G a) → fRun T pg nm G l c e ∧ ∀ a, c.1.testBit a = true → e.1.testBit a = true
  | [], c, e, _, r, _ => ⟨r, fun a h => by rw [← show c = e from r]; exact h⟩
  | t :: l, c, e, hI, ⟨r1, r2, r3⟩, h => by
    obtain ⟨-, w⟩ := fr_cg (G := F) hX l _ e (fS_pi hX hI r1 r2) r3 (fun _ _ _ => rfl)
    have hb : ∀ a, (c.1 ||| 2 ^ fA9 pg c t).testBit a = true → e.1.testBit a = true := w
    have hF : (pg 4 (fA9 pg c t) = 0 ∨ pg 4 (fA9 pg c t) = 3) → F (fA9 pg c t) = G (fA9 pg c t) := fun k => h _ (hb _ (by rw [bit_set]; simp)) k
    have eS : fS9 pg nm F c t = fS9 pg nm G c t := by
      unfold fS9 fQ9
      by_cases k : pg 4 (fA9 pg c t) = 0 ∨ pg 4 (fA9 pg c t) = 3
      · rw [if_pos k, if_pos k, hF k]
      · rw [if_neg k, if_neg k]
    have := (fr_cg hX l _ e (fS_pi hX hI r1 r2) r3 h).1
    rw [eS] at this
    exact ⟨⟨r1, ⟨r2.1, fun k => by rw [← hF k]; exact r2.2 k⟩, this⟩, fun a ha => hb a (by rw [Nat.testBit_or, ha]; rfl)⟩
end FMA
