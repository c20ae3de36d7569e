section STB
variable {T Ac md : Nat} {pg : Nat → Nat → Nat} {F : Nat → Nat} {H : Nat} {RW : Nat → List Nat}
/-- a graph that stands has no way back against the own order -/
theorem nr_9 (hst : stN9 md pg F H RW) {a b : Nat} (ho : cO9 pg H b a) (hk : md = 3 ∨ (pg 4 a ≠ 4 ∧ pg 4 b ≠ 4 ∧ pg 5 b = pg 5 a)) : ¬ con9 (cI9 pg F H RW) a b := fun hc => by
  rcases hst with ⟨m, h⟩ | ⟨m, h1, h2⟩ | ⟨m, h1, h2⟩
  · by_cases z : md = 3
    · omega
    · exact h ⟨a, con_tr9 (con_mo (fun x y w => con_1 (Or.inr w)) hc) (con_1 (Or.inl ho))⟩
  · exact h2 ⟨b, a, con_1 (Or.inl ho), hc⟩
  · have hk := hk.resolve_left (by omega)
    exact h1 ⟨a, con_tr9 (con_mo (fun x y w => con_1 (Or.inl w)) hc) (con_1 (Or.inr ⟨ho, hk.2.1, hk.1, hk.2.2⟩))⟩
/-- what the class asks of a row besides holds of every graph that stands -/
theorem ow_st (hPg : PgOk T Ac pg) (hG : GrO9 Ac md pg F H RW) (hst : stN9 md pg F H RW) {x : Nat} (hx : x < 4) (hx3 : x = 3 → md = 3) : owE9 pg F H (wRw pg H x) x [] (RW x) := by
  rw [owE_pr]
  intro e1 b e2 e
  rw [List.nil_append]
  obtain ⟨n1, n2, n3, n4⟩ := gr_row hG hx
  have hbm : b ∈ RW x := by rw [e]; exact List.mem_append_right _ (List.mem_cons_self ..)
  obtain ⟨hb, hbA, kb⟩ := row_k hPg hG hx hbm
  refine ⟨fun v hv hn ho => ?_, fun r hr ht hs ha => ?_⟩
  · have hvm := n3 hx3 v hv
    obtain ⟨hvH, hvA, kv⟩ := row_k hPg hG hx hvm
    obtain ⟨o1, o2, o3⟩ := (own_9 hPg hbA).mp ho
    have ne : (RW x).idxOf v ≠ (RW x).idxOf b := fun q => by have := ix_inj hvm hbm q; omega
    have nl : ¬ (RW x).idxOf v < (RW x).idxOf b := fun q => hn (by
      rw [e] at n1 hvm q
      exact (ix_in n1).mpr ⟨hvm, q⟩)
    refine nr_9 hst (a := b) (b := v) ⟨hvH, hb, o2, o3⟩ (by omega) (con_1 (Or.inl (Or.inr ((cB_ix hG).mpr ⟨x, hx, hbm, hvm, by omega⟩))))
  · obtain ⟨a1, a2, a3⟩ := (aft_9 hPg hbA).mp ha
    have h5 := tk_5 hPg hG hr ht
    have e5 : pg 5 r = x := by
      rcases hs with q | ⟨w, w1, w2⟩
      · exact q.2
      · obtain ⟨c1, c2, c3, c4, c5⟩ := src_k hG hr ht w2
        obtain ⟨-, -, kw⟩ := row_k hPg hG hx (show w ∈ RW x by rw [e]; exact List.mem_append_left _ w1)
        omega
    have hS : cS9 pg F H RW r b := ⟨hr, ht, by omega, e1, e2, by rw [e5]; exact e, hs.imp And.left id⟩
    have hr4 : pg 4 r ≠ 4 := by rcases ht with q | q <;> omega
    exact nr_9 hst (a := r) (b := b) ⟨hb, hr, a2.symm, a3⟩ (by clear hS hs; omega) (con_1 (Or.inr hS))
/-- the class refuses no choice of a graph that stands -/
theorem past_st (hPg : PgOk T Ac pg) (hG : GrO9 Ac md pg F H RW) (hst : stN9 md pg F H RW) {a b : Nat} (ha : H.testBit a = true) (hb : H.testBit b = true) (ht : tkr9 pg a) (ho : (onoT pg a).testBit b = true) (hs : shF9 pg F b ≠ 0) :
    F a ≠ 0 ∧ ¬ (tkr9 pg (shF9 pg F b - 1) ∧ F (shF9 pg F b - 1) = F a) ∧ ¬ (aft pg (F a - 1)).testBit (shF9 pg F b - 1) = true := by
  obtain ⟨⟨o1, o2, o3⟩, o4, o5, o6⟩ := (ono_9 hPg (hG.1 a ha).1).mp ho
  obtain ⟨v, hv⟩ : ∃ v, v = shF9 pg F b - 1 := ⟨_, rfl⟩
  have hv1 : H.testBit v = true ∧ (1 ≤ pg 4 v ∧ pg 4 v ≤ 3) ∧ pg 5 v = pg 5 a ∧ (v = b ∨ cR9 pg F H v b) := by
    unfold shF9 at hs hv
    by_cases k : pg 4 b = 0
    · rw [if_pos k] at hs hv
      have e : F b = v + 1 := by omega
      obtain ⟨c1, c2, c3, c4, c5⟩ := src_k hG hb (Or.inl k) e
      exact ⟨c1, ⟨c3, c4⟩, by omega, Or.inr ⟨hb, Or.inl k, e⟩⟩
    · rw [if_neg k, Nat.add_sub_cancel] at hv
      rw [hv]; exact ⟨hb, by omega, o6, Or.inl rfl⟩
  obtain ⟨vH, vk, v5, vb⟩ := hv1
  rw [← hv]
  have nr : ¬ con9 (cI9 pg F H RW) a b := nr_9 hst (a := a) (b := b) ⟨hb, ha, o2, o3⟩ (Or.inr ⟨by omega, by omega, o6⟩)
  have nv : ¬ cI9 pg F H RW a v := fun w => nr (by
    rcases vb with q | q
    · rw [← q]; exact con_1 w
    · exact con_tr9 (con_1 w) (con_1 (Or.inl (Or.inl q))))
  have va : v ≠ a := fun q => by
    rcases vb with w | w
    · omega
    · rw [q] at w; exact nr (con_1 (Or.inl (Or.inl w)))
  obtain ⟨q5, hm⟩ := row_w hPg hG vH vk
  rw [v5] at hm
  have f0 : F a ≠ 0 := fun q => nv (Or.inr ((cS_ix hPg hG).mpr ⟨ha, ht, va, hm, Or.inl q⟩))
  obtain ⟨w, hw⟩ : ∃ w, F a = w + 1 := ⟨F a - 1, by omega⟩
  obtain ⟨c1, c2, c3, c4, c5⟩ := src_k hG ha ht hw
  obtain ⟨-, wm⟩ := row_w hPg hG c1 ⟨c3, c4⟩
  rw [c5] at wm
  have nlt : ¬ (RW (pg 5 a)).idxOf w < (RW (pg 5 a)).idxOf v := fun q => nv (Or.inr ((cS_ix hPg hG).mpr ⟨ha, ht, va, hm, Or.inr ⟨w, hw, wm, q⟩⟩))
  refine ⟨f0, fun ⟨t1, t2⟩ => ?_, fun t => ?_⟩
  · have k3 : pg 4 v = 3 := by rcases t1 with q | q <;> omega
    rcases add_ix hPg hG vH k3 with ⟨z, -⟩ | ⟨u, u1, u2, u3⟩
    · omega
    · have e : u = w := by omega
      rw [v5] at u3
      rw [e] at u3; omega
  · rw [hw, Nat.add_sub_cancel] at t
    obtain ⟨t1, t2, t3⟩ := (aft_9 hPg (hG.1 w c1).1).mp t
    have ne : (RW (pg 5 a)).idxOf w ≠ (RW (pg 5 a)).idxOf v := fun q => by have := ix_inj wm hm q; omega
    have h5 := tk_5 hPg hG ha ht
    exact nr_9 hst (a := v) (b := w) ⟨c1, vH, t2.symm, t3⟩ (Or.inr ⟨by omega, by omega, by omega⟩) (con_1 (Or.inl (Or.inr ((cB_ix hG).mpr ⟨pg 5 a, by omega, hm, wm, by omega⟩))))
end STB
