theorem rK_cg {u w : Nat → Int32} : ∀ n, (∀ j, j ≤ n → u j = w j) → rK u n = rK w n
  | 0, h => by unfold rK; rw [h 0 (Nat.le_refl 0)]
  | n + 1, h => by unfold rK; rw [rK_cg n (fun j hj => h j (by omega)), h (n + 1) (Nat.le_refl _)]
theorem vK_cg {f g : Nat → Int32} {a b c a2 b2 c2 : Nat} (h1 : f a = g a2) (h2 : f b = g b2) (h3 : f c = g c2) : vK f a b c = vK g a2 b2 c2 := by unfold vK; rw [h1, h2, h3]
def enG (u : Nat → Int32) : Int64 × Int32 := (rK u 7, vK (fun i => u (8 + i)) 0 1 2)
theorem enG_cg (u w : Nat → Int32) (h : ∀ k, k < 11 → u k = w k) : enG u = enG w := by
  unfold enG
  rw [rK_cg 7 (fun j hj => h j (by omega)), vK_cg (f := fun i => u (8 + i)) (g := fun i => w (8 + i)) (h (8 + 0) (by omega)) (h (8 + 1) (by omega)) (h (8 + 2) (by omega))]
section OUB
variable {E md T Ac : Nat} {pg : Nat → Nat → Nat} {nm : Nat → Int32} {zs kd vx rr : Nat → Nat} {vv : Nat → Int32}
theorem PJ_ch (hX : PX T Ac pg nm zs kd vx rr vv) {s : S7} {k : Int32 × S7} (hI : IvC md T Ac pg nm s) (hJ : PJ T pg s.1 s.2.2.1) (h : k ∈ nxC pg nm md T s) : PJ T pg k.2.1 k.2.2.2.1 := by
  unfold nxC at h
  obtain ⟨t, ht, h⟩ := List.mem_flatMap.mp h
  have ht := List.mem_range.mp ht
  have hl : ∀ w num, k ∈ lL pg s w num → PJ T pg k.2.1 k.2.2.2.1 := fun w num q3 => by
    unfold lL at q3
    by_cases z : w = 0
    · rw [if_pos z] at q3; exact absurd q3 (List.not_mem_nil)
    · rw [if_neg z] at q3
      rw [List.mem_singleton.mp q3]; exact hJ
  rcases List.mem_append.mp h with h | h
  · unfold nN at h
    by_cases c : s.2.2.1 t < pg 0 t ∧ ¬ ((pg 4 (pg 1 (t * 7 + s.2.2.1 t)) = 4 ∨ pg 4 (pg 1 (t * 7 + s.2.2.1 t)) = 3) ∧ s.2.2.2.2.2.2 &&& pg 8 (pg 2 (pg 1 (t * 7 + s.2.2.1 t))) ≠ 0)
    · rw [if_pos c] at h
      rw [List.mem_singleton.mp h]
      refine PJ_step hX hI.1 hJ ht c.1 rfl (by unfold psP; split <;> omega) ?_
      unfold psP
      split
      · next q => exact Or.inr ⟨q.1, rfl⟩
      · exact Or.inl rfl
    · rw [if_neg c] at h; exact absurd h (List.not_mem_nil)
  · unfold nB at h
    by_cases z : s.2.2.2.2.2.2 &&& pg 8 t = 0
    · rw [if_pos z] at h; exact absurd h (List.not_mem_nil)
    · rw [if_neg z] at h
      by_cases m : md = 1
      · rw [if_pos m] at h; exact hl _ _ h
      · rw [if_neg m] at h
        rcases List.mem_append.mp h with h | h
        · exact hl _ _ h
        · rcases List.mem_append.mp h with h | h
          · exact hl _ _ h
          · exact hl _ _ h
/-- at an end nothing is held, and all threads are at their ends -/
theorem end_C (hX : PX T Ac pg nm zs kd vx rr vv) (hmd : md < 3) {s : S7} (hI : IvC md T Ac pg nm s) (h : nxC pg nm md T s = []) : (∀ a, s.2.2.2.2.2.2.testBit a = false) ∧ ∀ t, t < T → pg 0 t ≤ s.2.2.1 t := by
  have hz : ∀ t, t < T → s.2.2.2.2.2.2 &&& pg 8 t = 0 := fun t ht => cov_C hX hmd hI ht (List.append_eq_nil_iff.mp (fl_emp h t (List.mem_range.mpr ht))).2
  refine ⟨fun a => ?_, fun t ht => ?_⟩
  · cases q : s.2.2.2.2.2.2.testBit a with
    | false => rfl
    | true =>
      obtain ⟨w1, w2, w3, w4⟩ := held_wr hI q
      have ht := (hX.1.2.2.2.2.1 a w3).1
      have : (s.2.2.2.2.2.2 &&& pg 8 (pg 2 a)).testBit a = true := by
        rw [Nat.testBit_and, q, (hX.1.2.2.2.2.2.2.2.2.1 _ a ht).mpr ⟨w3, rfl⟩]; rfl
      rw [hz _ ht, Nat.zero_testBit] at this
      exact absurd this Bool.false_ne_true
  · refine Classical.byContradiction (fun q => ?_)
    have hN := (List.append_eq_nil_iff.mp (fl_emp h t (List.mem_range.mpr ht))).1
    have h2 := (px_next hX hI.1 ht (by omega) rfl).2.2.1
    unfold nN at hN
    rw [if_pos ⟨by omega, fun z => z.2 (by rw [h2]; exact hz t ht)⟩] at hN
    exact List.cons_ne_nil _ _ hN
theorem EndC_C (hX : PX T Ac pg nm zs kd vx rr vv) (hmd : md < 3) {s : S7} {G : Nat → List Nat} (hI : IvC md T Ac pg nm s) (hG : GO pg s G) (hJ : PJ T pg s.1 s.2.2.1) (h : nxC pg nm md T s = []) : EndC T Ac pg nm s.1 s.2.1 s.2.2.1 s.2.2.2.1 s.2.2.2.2.1 G ∧ (rK s.2.2.2.1 7, vK s.2.2.2.2.1 (srcM s.2.2.2.2.2.1 0) (srcM s.2.2.2.2.2.1 1) (srcM s.2.2.2.2.2.1 2)) = enG (uE s.2.2.2.1 s.2.2.2.2.1 G) := by
  obtain ⟨e1, e2⟩ := end_C hX hmd hI h
  refine ⟨⟨hI.1, hJ, e2, fun x hx => ?_⟩, ?_⟩
  · obtain ⟨k1, k2, k3, k4, k5⟩ := hG.1 x hx
    refine ⟨k1, fun a => ?_, k4, k5⟩
    rw [k2 a, e1 a]
    exact ⟨fun q => ⟨q.1, q.2.1, q.2.2.1, q.2.2.2.1⟩, fun q => ⟨q.1, q.2.1, q.2.2.1, q.2.2.2, rfl⟩⟩
  · have hx : ∀ x, x < 3 → s.2.2.2.2.1 (srcM s.2.2.2.2.2.1 x) = uE s.2.2.2.1 s.2.2.2.2.1 G (8 + x) := fun x hx => by
      unfold uE
      rw [if_neg (by omega), (by omega : 8 + x - 8 = x), (hG.1 x hx).2.2.1]
    unfold enG
    rw [rK_cg (u := s.2.2.2.1) (w := uE s.2.2.2.1 s.2.2.2.2.1 G) 7 (fun j hj => by unfold uE; rw [if_pos (by omega)]), vK_cg (f := s.2.2.2.2.1) (g := fun i => uE s.2.2.2.1 s.2.2.2.2.1 G (8 + i)) (hx 0 (by omega)) (hx 1 (by omega)) (hx 2 (by omega))]
theorem outs_G (hX : PX T Ac pg nm zs kd vx rr vv) (hmd : md < 3) {KL SL C : Nat} {rc : Nat → Nat} : (gF (walkG E T Ac pg nm md KL SL C rc)).length ≤ 4000 := by
  rw [walk_mdf hX hmd]
  have h := mdf_inv (kn := knC) (pre := preC pg md T Ac) (nx := nxC pg nm md T) (fin := finC E) (Iv := fun s => IvC md T Ac pg nm s ∧ (∃ G, GO pg s G) ∧ PJ T pg s.1 s.2.2.1)
    (P := fun g => ((foG g).map (fun r => r.1)).Nodup ∧ ∀ v, v ∈ (foG g).map (fun r => r.1) → ∃ dn so pl rg cv G, EndC T Ac pg nm dn so pl rg cv G ∧ v = enG (uE rg cv G))
    (fun s g _ _ hP => by
      have e : foG (preC pg md T Ac s g) = foG g := by unfold foG preC; rw [note_L.2, addK_L.1]
      rw [e]; exact hP)
    (fun s p g hI hn hP => by
      obtain ⟨G, hG⟩ := hI.2.1
      obtain ⟨e1, e2⟩ := EndC_C hX hmd hI.1 hG hI.2.2 hn
      unfold finC
      rw [addOut_V.1, e2]
      by_cases q : inV (foG g) (enG (uE s.2.2.2.1 s.2.2.2.2.1 G))
      · rw [adV_y q]; exact hP
      · rw [adV_n q, List.map_append]
        refine ⟨List.nodup_append.mpr ⟨hP.1, List.nodup_cons.mpr ⟨List.not_mem_nil, List.nodup_nil⟩, fun a ha b hb e => ?_⟩, fun v hv => ?_⟩
        · rw [List.mem_singleton.mp hb] at e
          obtain ⟨r, hr, er⟩ := List.mem_map.mp ha
          exact q ⟨r, hr, by rw [er, e]⟩
        · rcases List.mem_append.mp hv with z | z
          · exact hP.2 v z
          · exact ⟨_, _, _, _, _, G, e1, List.mem_singleton.mp z⟩)
    (fun s k hI hk => ⟨IvC_ch hX hI.1 hk, GO_ch hX hmd hI.1 hI.2.1 hk, PJ_ch hX hI.1 hI.2.2 hk⟩)
    15 s07 [] (g0W KL (emptyS SL).1 C (if md = 0 then fun _ => 0 else rc) (emptyS SL).2.1 (emptyS SL).2.2) ⟨IvC_0, ⟨_, GO_0⟩, PJ_0⟩ ⟨List.nodup_nil, fun k hk => absurd hk (List.not_mem_nil)⟩
  have := ends_4000 (en := enG) hX h.1 enG_cg h.2
  unfold foG at this
  rw [List.length_map, List.length_map] at this
  exact this
/-- models 0 to 2 have at most 4000 outcomes -/
theorem outs_B (hX : PX T Ac pg nm zs kd vx rr vv) (hmd : md < 3) : (pdf (nxF (aF md zs kd vx rr vv) T) ocA 15 a0B [] []).length ≤ 4000 := by
  have h := outs_G (E := 0) (KL := 0) (SL := 0) (C := 0) (rc := fun _ => 0) hX hmd
  rw [cls_runs_B hX hmd, List.length_map] at h
  exact h
end OUB
