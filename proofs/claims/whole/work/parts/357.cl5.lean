section CLW
variable {E md T Ac : Nat} {pg : Nat → Nat → Nat} {nm : Nat → Int32} {zs kd vx rr : Nat → Nat} {vv : Nat → Int32}
theorem note_L {pl : Nat → Nat} {g : G9} : gL (noteG md T Ac pg pl g) = gL g ∧ gF (noteG md T Ac pg pl g) = gF g := by
  unfold noteG
  by_cases m : md = 0
  · rw [if_pos m]; exact ⟨rfl, rfl⟩
  · rw [if_neg m]; exact ⟨rfl, rfl⟩
theorem addK_L {key : Int64} {g : G9} : gF (addKey key g) = gF g ∧ ∀ k, hasK (addKey key g) k = true → hasK g k = true ∨ k = key := by
  unfold addKey
  by_cases h : hasK g key = true
  · rw [if_pos h]; exact ⟨rfl, fun k q => Or.inl q⟩
  · rw [if_neg h]
    refine ⟨rfl, fun k q => ?_⟩
    have q2 : (gL g ++ [key]).contains k = true := q
    rw [List.contains_iff_mem] at q2
    rcases List.mem_append.mp q2 with q3 | q3
    · exact Or.inl (by unfold hasK; rw [List.contains_iff_mem]; exact q3)
    · exact Or.inr (List.mem_singleton.mp q3)
def foG (g : G9) : List ((Int64 × Int32) × List Int32) := (gF g).map (fun r => ((r.1, r.2.1), r.2.2))
theorem addOut_V {rk : Int64} {vk : Int32} {p : List Int32} {g : G9} : foG (addOut E rk vk p g) = adV (foG g) (rk, vk) p ∧ gL (addOut E rk vk p g) = gL g ∧ gR (addOut E rk vk p g) = gR g := by
  unfold addOut
  have iff : hasF g rk vk = true ↔ inV (foG g) (rk, vk) := by
    unfold hasF foG inV
    rw [List.any_eq_true]
    constructor
    · rintro ⟨r, hr, e⟩
      rw [Bool.and_eq_true] at e
      exact ⟨_, List.mem_map.mpr ⟨r, hr, rfl⟩, Prod.ext (by simpa using e.1) (by simpa using e.2)⟩
    · rintro ⟨q, hq, e⟩
      obtain ⟨r, hr, e2⟩ := List.mem_map.mp hq
      subst e2
      have e3 := Prod.mk.inj e
      exact ⟨r, hr, by rw [Bool.and_eq_true]; exact ⟨by simpa using e3.1, by simpa using e3.2⟩⟩
  by_cases h : hasF g rk vk = true
  · rw [if_pos h, adV_y (iff.mp h)]; exact ⟨rfl, rfl, rfl⟩
  · rw [if_neg h, adV_n (fun q => h (iff.mpr q))]
    refine ⟨?_, rfl, rfl⟩
    show ((gF g ++ [(rk, vk, p)]).map (fun r => ((r.1, r.2.1), r.2.2))) = _
    rw [List.map_append]; rfl
def IvCR (md T Ac : Nat) (pg : Nat → Nat → Nat) (nm : Nat → Int32) (zs : Nat → Nat) (s : S7) : Prop := IvC md T Ac pg nm s ∧ RA md T zs (abC md T pg s)
theorem ch_C (hX : PX T Ac pg nm zs kd vx rr vv) (hmd : md < 3) {s : S7} {k : Int32 × S7} (hI : IvCR md T Ac pg nm zs s) (h : k ∈ nxC pg nm md T s) : IvCR md T Ac pg nm zs k.2 ∧ rkA T zs (abC md T pg k.2) < rkA T zs (abC md T pg s) := by
  have hm : (k.1, abC md T pg k.2) ∈ nxF (aF md zs kd vx rr vv) T (abC md T pg s) := by
    rw [← nxC_sim hX hmd hI.1]; exact List.mem_map.mpr ⟨k, h, rfl⟩
  obtain ⟨t, c, ht, _, e, _⟩ := nxF_mem hm
  exact ⟨⟨IvC_ch hX hI.1 h, RA_s hX.2.1 hmd hI.2 ht e⟩, rk_dec hX.2.1 ht e⟩
theorem oc_C {s : S7} (hI : IvCR md T Ac pg nm zs s) : (rK s.2.2.2.1 7, vK s.2.2.2.2.1 (srcM s.2.2.2.2.2.1 0) (srcM s.2.2.2.2.2.1 1) (srcM s.2.2.2.2.2.1 2)) = enV (ocA (abC md T pg s)) := by
  have hk := RA_ok hI.2
  have h8 : ∀ j, j < 8 → uA (abC md T pg s) j = s.2.2.2.1 j := fun j hj => by unfold uA; rw [if_pos hj, abC_2 hj]
  have h3 : ∀ x, x < 3 → uA (abC md T pg s) (8 + x) = s.2.2.2.2.1 (srcM s.2.2.2.2.2.1 x) := fun x hx => by
    unfold uA; rw [if_neg (by omega), (by omega : 8 + x - 8 = x), abC_3 hx]
  have e : ocA (abC md T pg s) = v11 (uA (abC md T pg s)) := rfl
  rw [e, enV_u hk]
  refine Prod.ext (k1O_rK h8 (fun j hj => by rw [← h8 j hj]; exact hk j (by omega))) (k2O_vK (h3 0 (by omega)) (h3 1 (by omega)) (h3 2 (by omega)) ?_ ?_ ?_)
  · rw [← h3 0 (by omega)]; exact hk _ (by omega)
  · rw [← h3 1 (by omega)]; exact hk _ (by omega)
  · rw [← h3 2 (by omega)]; exact hk _ (by omega)
theorem walk_mdf (hX : PX T Ac pg nm zs kd vx rr vv) (hmd : md < 3) {KL SL C : Nat} {rc : Nat → Nat} :
    walkG E T Ac pg nm md KL SL C rc = mdf knC (preC pg md T Ac) (nxC pg nm md T) (finC E) 15 s07 [] (g0W KL (emptyS SL).1 C (if md = 0 then fun _ => 0 else rc) (emptyS SL).2.1 (emptyS SL).2.2) := by
  have h := visit_mdf (E := E) (T := T) (Ac := Ac) (pg := pg) (nm := nm) (md := md) (Iv := IvCR md T Ac pg nm zs) (rk := fun s => rkA T zs (abC md T pg s)) (fun s k hI hk => ch_C hX hmd hI hk) (fun s hI t ht => cov_C hX hmd hI.1 ht) 14 (Nat.le_refl _) s07 (fun _ => 0) (g0W KL (emptyS SL).1 C (if md = 0 then fun _ => 0 else rc) (emptyS SL).2.1 (emptyS SL).2.2)
    ⟨IvC_0, by rw [abC_0]; exact RA_0 hX.2.1⟩ (by show rkA T zs (abC md T pg s07) ≤ 14; rw [abC_0]; have := rk_0 hX.2.1; omega)
  exact h
/-- the class's outcomes of models 0 to 2, with their runs, are the machine's -/
theorem cls_runs_B (hX : PX T Ac pg nm zs kd vx rr vv) (hmd : md < 3) {KL SL C : Nat} {rc : Nat → Nat} :
    gF (walkG E T Ac pg nm md KL SL C rc) = (pdf (nxF (aF md zs kd vx rr vv) T) ocA 15 a0B [] []).map (fun r => ((enV r.1).1, (enV r.1).2, r.2)) := by
  rw [walk_mdf hX hmd]
  have h := md_use (kn := knC) (pre := preC pg md T Ac) (nx := nxC pg nm md T) (fin := finC E) (oc := fun s : S7 => (rK s.2.2.2.1 7, vK s.2.2.2.2.1 (srcM s.2.2.2.2.2.1 0) (srcM s.2.2.2.2.2.1 1) (srcM s.2.2.2.2.2.1 2))) (rp := fun _ _ _ => False) (Iv := IvCR md T Ac pg nm zs)
    (sk := fun s s' => keyB s'.2.1 s'.1 s'.2.2.2.2.2.1 s'.2.2.2.2.2.2 = keyB s.2.1 s.1 s.2.2.2.2.2.1 s.2.2.2.2.2.2) (fo := foG) (mk := fun _ _ _ => False) (B := (pdf (nxF (aF md zs kd vx rr vv) T) (fun A => enV (ocA A)) 15 a0B [] []).length) (na := nxF (aF md zs kd vx rr vv) T) (oa := fun A => enV (ocA A)) (ra9 := fun _ _ _ => False) (ab := abC md T pg) (rkA := rkA T zs)
    (fun s hI => nxC_sim hX hmd hI.1) (fun s hI => oc_C hI) (fun _ _ _ _ => Iff.rfl) (fun s k hI hk => (ch_C hX hmd hI hk).1) (fun s k hI hk => (ch_C hX hmd hI hk).2)
    (fun s g _ => by unfold foG preC; rw [note_L.2, addK_L.1]) (fun s g a b _ => ⟨fun q => Or.inl q, fun q => by rcases q with q | q <;> exact q⟩)
    (fun s g s' _ _ q => by
      unfold knC at q ⊢
      have q2 : hasK (addKey (keyB s.2.1 s.1 s.2.2.2.2.2.1 s.2.2.2.2.2.2) g) (keyB s'.2.1 s'.1 s'.2.2.2.2.2.1 s'.2.2.2.2.2.2) = true := by
        unfold hasK at q ⊢; unfold preC at q; rw [note_L.1] at q; exact q
      exact addK_L.2 _ q2)
    (fun s p g _ _ => addOut_V.1) (fun _ _ _ _ _ => Iff.rfl) (fun s p g s' => by unfold knC hasK finC; rw [addOut_V.2.1])
    (fun s s' hI hJ q => abC_key hX hI.1 hJ.1 q.symm)
    15 s07 [] (g0W KL (emptyS SL).1 C (if md = 0 then fun _ => 0 else rc) (emptyS SL).2.1 (emptyS SL).2.2) ⟨IvC_0, by rw [abC_0]; exact RA_0 hX.2.1⟩ (by rw [abC_0]; exact rk_0 hX.2.1) (fun s' => rfl) (by rw [abC_0]; exact Nat.le_refl _)
  have h := h.1
  rw [abC_0] at h
  have hm := pdf_map (nx := nxF (aF md zs kd vx rr vv) T) (oc := ocA) (en := enV) (Ok := okV) (Iv := RA md T zs) enV_in (fun A hA => ⟨uA A, rfl, RA_ok hA⟩) (fun A k hA hk => by
    obtain ⟨t, c, ht, _, e, _⟩ := nxF_mem hk
    exact RA_s hX.2.1 hmd hA ht e) 15 a0B [] [] (RA_0 hX.2.1) (fun r hr => absurd hr (List.not_mem_nil))
  have hm := hm.1
  rw [List.map_nil] at hm
  have e0 : foG (g0W KL (emptyS SL).1 C (if md = 0 then fun _ => 0 else rc) (emptyS SL).2.1 (emptyS SL).2.2) = [] := rfl
  rw [e0, hm] at h
  have h2 := congrArg (List.map (fun q : (Int64 × Int32) × List Int32 => (q.1.1, q.1.2, q.2))) h
  unfold foG at h2
  rw [List.map_map, List.map_map] at h2
  rw [show ((fun q : (Int64 × Int32) × List Int32 => (q.1.1, q.1.2, q.2)) ∘ fun r : Int64 × Int32 × List Int32 => ((r.1, r.2.1), r.2.2)) = id from rfl, List.map_id] at h2
  exact h2
end CLW
