def rN9 (pg : Nat → Nat → Nat) (c : Nat) : Nat := 7 * pg 2 c + pg 3 c
def pr9 (T : Nat) (zs : Nat → Nat) (a : Nat) : Prop := a / 7 < T ∧ a % 7 < zs (a / 7)
theorem fF_no9 {p : Nat → Bool} {n : Nat} : fF p n 0 = 0 ↔ ∀ k, k < n → p k = false := by
  constructor
  · intro h k hk
    cases q : p k with
    | false => rfl
    | true => exact absurd h (fF_ex n 0 k (Nat.zero_le k) (by omega) q)
  · intro h
    refine Classical.byContradiction fun w => ?_
    obtain ⟨h1, h2, h3⟩ := fF_lt (p := p) n 0 w
    rw [h _ (by omega)] at h3; exact absurd h3 Bool.false_ne_true
theorem lsL_map {f : Nat → Nat} (l : List Nat) : lsL (l.map f) = if lsL l = 0 then 0 else f (lsL l - 1) + 1 := by
  rcases List.eq_nil_or_concat l with e | ⟨m, a, e⟩
  · rw [e]; rfl
  · rw [List.concat_eq_append] at e
    rw [e, List.map_append, List.map_singleton, lsL_sn, lsL_sn, if_neg (Nat.succ_ne_zero a), Nat.add_sub_cancel]
theorem lsL_in {l : List Nat} (h : lsL l ≠ 0) : lsL l - 1 ∈ l := by
  rcases List.eq_nil_or_concat l with e | ⟨m, a, e⟩
  · rw [e] at h; exact absurd rfl h
  · rw [List.concat_eq_append] at e
    rw [e, lsL_sn, Nat.add_sub_cancel]
    exact List.mem_append_right _ (List.mem_singleton.mpr rfl)
section RRX
variable {gm T Ac ld : Nat} {pg : Nat → Nat → Nat} {nm : Nat → Int32} {zs kd vx rr li fm hp : Nat → Nat} {vv : Nat → Int32} {W x : Nat}
theorem pr_c9 (hX : PX T Ac pg nm zs kd vx rr vv) {a : Nat} (h : pr9 T zs a) : pg 1 a < Ac ∧ rN9 pg (pg 1 a) = a ∧ pg 4 (pg 1 a) = kd a ∧ pg 5 (pg 1 a) = vx a ∧ pg 2 (pg 1 a) = a / 7 := by
  obtain ⟨h1, h2⟩ := h
  rw [hX.2.2.1 _ h1] at h2
  have e : a / 7 * 7 + a % 7 = a := by omega
  have e2 : 7 * (a / 7) + a % 7 = a := by omega
  obtain ⟨b1, b2, b3⟩ := hX.1.2.2.2.1 _ _ h1 h2
  obtain ⟨c1, c2, -⟩ := hX.2.2.2.1 _ _ h1 h2
  rw [e] at b1 b2 b3 c1 c2
  rw [e2] at c1 c2
  refine ⟨b1, ?_, c1.symm, c2.symm, b2⟩
  unfold rN9; rw [b2, b3]; exact e2
theorem pr_r9 (hX : PX T Ac pg nm zs kd vx rr vv) {c : Nat} (h : c < Ac) : pr9 T zs (rN9 pg c) ∧ pg 1 (rN9 pg c) = c ∧ rN9 pg c < 28 := by
  obtain ⟨h1, h2⟩ := hX.2.2.2.2.2 c h
  have ht := (hX.1.2.2.2.2.1 c h).1
  have h7 := hX.1.2.2.1 _ ht
  have h4 := hX.1.1
  unfold rN9 pr9
  have e1 : (7 * pg 2 c + pg 3 c) / 7 = pg 2 c := by omega
  have e2 : (7 * pg 2 c + pg 3 c) % 7 = pg 3 c := by omega
  rw [e1, e2, hX.2.2.1 _ ht]
  refine ⟨⟨ht, h1⟩, ?_, by omega⟩
  rw [show 7 * pg 2 c + pg 3 c = pg 2 c * 7 + pg 3 c by omega]; exact h2
theorem pr_inj (hX : PX T Ac pg nm zs kd vx rr vv) {a b : Nat} (ha : pr9 T zs a) (hb : pr9 T zs b) (h : pg 1 a = pg 1 b) : a = b := by
  rw [← (pr_c9 hX ha).2.1, ← (pr_c9 hX hb).2.1, h]
theorem FC_9 (hX : PX T Ac pg nm zs kd vx rr vv) {a : Nat} (ha : pr9 T zs a) : FC9 pg fm (pg 1 a) = if fm a = 0 then 0 else pg 1 (fm a - 1) + 1 := by
  have := (pr_c9 hX ha).2.1
  unfold rN9 at this
  unfold FC9
  rw [this]
theorem FC_ls (hX : PX T Ac pg nm zs kd vx rr vv) (hf : fmO T zs kd fm) {a : Nat} (ha : pr9 T zs a) (hk : kd a = 0 ∨ kd a = 3) {l : List Nat} (hl : ∀ b, b ∈ l → pr9 T zs b) : FC9 pg fm (pg 1 a) = lsL (l.map (pg 1)) ↔ fm a = lsL l := by
  rw [FC_9 hX ha, lsL_map]
  have e2 : 7 * (a / 7) + a % 7 = a := by omega
  by_cases z : fm a = 0
  · rw [if_pos z, z]
    by_cases y : lsL l = 0
    · rw [if_pos y, y]
    · rw [if_neg y]; exact ⟨fun h => absurd h.symm (Nat.succ_ne_zero _), fun h => absurd h.symm y⟩
  · rw [if_neg z]
    by_cases y : lsL l = 0
    · rw [if_pos y, y]; exact ⟨fun h => absurd h (Nat.succ_ne_zero _), fun h => absurd h z⟩
    · rw [if_neg y]
      have hs := hf (a / 7) (a % 7) ha.1 ha.2
      rw [e2] at hs
      obtain ⟨s1, s2, -⟩ := hs hk z
      constructor
      · intro h
        have := pr_inj hX ⟨s1, s2⟩ (hl _ (lsL_in y)) (Nat.succ.inj h)
        omega
      · intro h; rw [h]
theorem in_map9 (hX : PX T Ac pg nm zs kd vx rr vv) {a : Nat} (ha : pr9 T zs a) {l : List Nat} (hl : ∀ b, b ∈ l → pr9 T zs b) : pg 1 a ∈ l.map (pg 1) ↔ a ∈ l := by
  rw [List.mem_map]
  constructor
  · rintro ⟨b, hb, e⟩; rw [← pr_inj hX (hl b hb) ha e]; exact hb
  · intro h; exact ⟨a, h, rfl⟩
/-- the row's members on the class's side -/
def rwW9 (gm : Nat) (pg : Nat → Nat → Nat) (kd vx hp : Nat → Nat) (Ac W x : Nat) : Prop := ∀ c, W.testBit c = true ↔ c < Ac ∧ ofP gm kd vx hp (rN9 pg c) x
theorem rwW_a (hX : PX T Ac pg nm zs kd vx rr vv) (hW : rwW9 gm pg kd vx hp Ac W x) {a : Nat} (ha : pr9 T zs a) : W.testBit (pg 1 a) = true ↔ ofP gm kd vx hp a x := by
  rw [hW, (pr_c9 hX ha).2.1]
  exact ⟨fun h => h.2, fun h => ⟨(pr_c9 hX ha).1, h⟩⟩
theorem stO_R (hX : PX T Ac pg nm zs kd vx rr vv) (hL : liO T ld zs kd li) (hf : fmO T zs kd fm) (hx : x < 4) (hW : rwW9 gm pg kd vx hp Ac W x) {l : List Nat} (hl : ∀ b, b ∈ l → pr9 T zs b) {a : Nat} :
    a ∈ nxR9 gm T zs kd vx hp (fun l a x => decide (mfL kd vx li fm hp ld l a x)) x l ↔ pr9 T zs a ∧ stO9 pg (FC9 pg fm) W x (l.map (pg 1)) (pg 1 a) := by
  have hz := hX.2.1.2.1
  unfold nxR9
  rw [List.mem_filter, rcL_mem hz, decide_eq_true_iff]
  show (pr9 T zs a ∧ ofP gm kd vx hp a x ∧ ¬ a ∈ l) ∧ mfL kd vx li fm hp ld l a x ↔ _
  rw [and_assoc]
  refine and_congr_right (fun ha => ?_)
  unfold stO9
  rw [rwW_a hX hW ha, in_map9 hX ha hl, and_assoc]
  refine and_congr_right (fun ho => and_congr_right (fun hn => ?_))
  rw [(pr_c9 hX ha).2.2.1]
  refine or_congr Iff.rfl ?_
  have g1 : (kd a = 3 ∧ fm a = lsL l) ↔ (kd a = 3 ∧ FC9 pg fm (pg 1 a) = lsL (l.map (pg 1))) := and_congr_right (fun k => (FC_ls hX hf ha (Or.inr k) hl).symm)
  rw [← g1]
  by_cases x3 : x = 3
  · have h4 : kd a = 4 := by
      rcases ho.2 with w | w
      · omega
      · exact w.2.2
    have ng : ¬ kd a = 3 := by omega
    refine or_congr Iff.rfl (and_congr_right (fun _ => ⟨fun _ b hb hb2 hb3 => ?_, fun _ => fF_no9.mpr (fun k hk => ?_)⟩))
    · obtain ⟨b1, b2⟩ := (hW b).mp hb
      have e := pr_c9 hX (pr_r9 hX b1).1
      rw [(pr_r9 hX b1).2.1] at e
      rcases b2.2 with w | w
      · omega
      · have := e.2.2.1; omega
    · refine decide_eq_false (fun ⟨w1, w2, w3, _⟩ => ?_)
      obtain ⟨⟨l1, l2⟩, -⟩ := hL.1 k hk
      have h28 : li k < 28 := by have := hX.2.1.1; omega
      have := (hX.2.1.2.2.2 (li k) h28).2.2.2.2 (by omega)
      omega
  · refine or_congr Iff.rfl (and_congr_right (fun _ => ?_))
    rw [fF_no9]
    constructor
    · intro h b hb hb2 hb3 hb4
      obtain ⟨b1, b2⟩ := (hW b).mp hb
      obtain ⟨r1, r2, -⟩ := pr_r9 hX b1
      have e := pr_c9 hX r1
      rw [r2] at e
      have k3 : kd (rN9 pg b) = 3 := by rw [← e.2.2.1]; exact hb3
      obtain ⟨q, q1, q2⟩ := hL.2.2 (rN9 pg b) r1.1 r1.2 (Or.inr k3)
      have := of_decide_eq_false (h q q1)
      rw [q2] at this
      refine this ⟨k3, b2.1, ?_, (FC_ls hX hf r1 (Or.inr k3) hl).mp (by rw [r2]; exact hb4), fun w => hb2 ?_⟩
      · rcases b2.2 with w | w
        · exact w.2.2
        · exact absurd w.1 x3
      · have := (in_map9 hX r1 hl).mpr w
        rw [r2] at this; exact this
    · intro h k hk
      refine decide_eq_false (fun ⟨w1, w2, w3, w4, w5⟩ => ?_)
      obtain ⟨l1, -⟩ := hL.1 k hk
      have lp : pr9 T zs (li k) := l1
      refine h (pg 1 (li k)) ((rwW_a hX hW lp).mpr ⟨w2, Or.inl ⟨by omega, by omega, w3⟩⟩) (fun w => w5 ((in_map9 hX lp hl).mp w)) (by rw [(pr_c9 hX lp).2.2.1]; exact w1) ((FC_ls hX hf lp (Or.inr w1) hl).mpr w4)
theorem stp_R (hX : PX T Ac pg nm zs kd vx rr vv) (hW : rwW9 gm pg kd vx hp Ac W x) {l : List Nat} (hl : ∀ b, b ∈ l → pr9 T zs b) : stR9 gm T zs kd vx hp x l = true ↔ ∀ c, W.testBit c = true → c ∈ l.map (pg 1) := by
  have hz := hX.2.1.2.1
  unfold stR9
  rw [List.isEmpty_iff]
  constructor
  · intro h c hc
    obtain ⟨b1, b2⟩ := (hW c).mp hc
    obtain ⟨r1, r2, -⟩ := pr_r9 hX b1
    have : rN9 pg c ∈ l := Classical.byContradiction fun w => by
      have := (rcL_mem (gm := gm) (kd := kd) (vx := vx) (hp := hp) (x := x) (l := l) hz).mpr ⟨r1, b2, w⟩
      rw [h] at this; exact absurd this List.not_mem_nil
    have := (in_map9 hX r1 hl).mpr this
    rw [r2] at this; exact this
  · intro h
    refine List.eq_nil_iff_forall_not_mem.mpr (fun a ha => ?_)
    obtain ⟨h1, h2, h3⟩ := (rcL_mem hz).mp ha
    have hp9 : pr9 T zs a := h1
    exact h3 ((in_map9 hX hp9 hl).mp (h _ ((rwW_a hX hW hp9).mpr h2)))
/-- the reference's rows are the same rows -/
theorem exR_9 (hX : PX T Ac pg nm zs kd vx rr vv) (hL : liO T ld zs kd li) (hf : fmO T zs kd fm) (hx : x < 4) (hW : rwW9 gm pg kd vx hp Ac W x) : ∀ (e l : List Nat), (∀ b, b ∈ l → pr9 T zs b) →
    (exS (stR9 gm T zs kd vx hp x) (nxR9 gm T zs kd vx hp (fun l a x => decide (mfL kd vx li fm hp ld l a x)) x) l e ↔ (∀ b, b ∈ e → pr9 T zs b) ∧ rwE9 pg (FC9 pg fm) W x (l.map (pg 1)) (e.map (pg 1)))
  | [], l, hl => by
    show stR9 gm T zs kd vx hp x l = true ↔ _ ∧ ∀ c, W.testBit c = true → c ∈ l.map (pg 1)
    rw [stp_R hX hW hl]
    exact ⟨fun h => ⟨fun b hb => absurd hb List.not_mem_nil, h⟩, fun h => h.2⟩
  | a :: e, l, hl => by
    show stR9 gm T zs kd vx hp x l = false ∧ a ∈ nxR9 gm T zs kd vx hp (fun l a x => decide (mfL kd vx li fm hp ld l a x)) x l ∧ exS _ _ (l ++ [a]) e ↔ _ ∧ stO9 pg (FC9 pg fm) W x (l.map (pg 1)) (pg 1 a) ∧ rwE9 pg (FC9 pg fm) W x (l.map (pg 1) ++ [pg 1 a]) (e.map (pg 1))
    rw [stO_R hX hL hf hx hW hl]
    have em : l.map (pg 1) ++ [pg 1 a] = (l ++ [a]).map (pg 1) := by rw [List.map_append]; rfl
    rw [em]
    have hl2 : pr9 T zs a → ∀ b, b ∈ l ++ [a] → pr9 T zs b := fun ha b hb => by
      rcases List.mem_append.mp hb with q | q
      · exact hl b q
      · rw [List.mem_singleton.mp q]; exact ha
    constructor
    · rintro ⟨-, ⟨h1, h2⟩, h3⟩
      obtain ⟨i1, i2⟩ := (exR_9 hX hL hf hx hW e (l ++ [a]) (hl2 h1)).mp h3
      exact ⟨fun b hb => (List.mem_cons.mp hb).elim (fun q => by rw [q]; exact h1) (i1 b), h2, i2⟩
    · rintro ⟨h1, h2, h3⟩
      have ha := h1 a (List.mem_cons_self ..)
      refine ⟨?_, ⟨ha, h2⟩, (exR_9 hX hL hf hx hW e (l ++ [a]) (hl2 ha)).mpr ⟨fun b hb => h1 b (List.mem_cons_of_mem _ hb), h3⟩⟩
      cases q : stR9 gm T zs kd vx hp x l with
      | false => rfl
      | true => exact absurd ((stp_R hX hW hl).mp q _ h2.1) h2.2.1
end RRX
