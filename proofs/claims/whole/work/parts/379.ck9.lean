section CLQ
variable {E T Ac : Nat} {pg : Nat → Nat → Nat} {nm : Nat → Int32} {zs kd vx rr : Nat → Nat} {vv : Nat → Int32}
def IvQR (T Ac : Nat) (pg : Nat → Nat → Nat) (nm : Nat → Int32) (zs : Nat → Nat) (s : S9K) : Prop := IvQ T Ac pg nm s ∧ RKA T zs (abQ T pg s)
theorem ch_Q (hX : PX T Ac pg nm zs kd vx rr vv) {s : S9K} {k : Int32 × S9K} (hI : IvQR T Ac pg nm zs s) (h : k ∈ nxK9 pg nm T s) : IvQR T Ac pg nm zs k.2 ∧ rkK T zs (abQ T pg k.2) < rkK T zs (abQ T pg s) := by
  have hm : (k.1, abQ T pg k.2) ∈ nxF (aK zs kd vx rr vv) T (abQ T pg s) := by
    rw [← nxQ_sim hX hI.1]; exact List.mem_map.mpr ⟨k, h, rfl⟩
  obtain ⟨t, c, ht, _, e, _⟩ := nxF_mem hm
  exact ⟨⟨IvQ_ch hX hI.1 h, RKA_s hX.2.1 hI.2 ht e⟩, rkK_dec ht e⟩
theorem oc_Q (hX : PX T Ac pg nm zs kd vx rr vv) {s : S9K} (hI : IvQR T Ac pg nm zs s) : (rK s.2.2.2.1 7, vK s.2.2.2.2.1 (sr9 s 0 (s.2.2.2.2.2.2.1 0)) (sr9 s 1 (s.2.2.2.2.2.2.1 1)) (sr9 s 2 (s.2.2.2.2.2.2.1 2))) = enV (ocK (abQ T pg s)) := by
  have hk := RKA_ok hX.2.1.1 hX.2.1.2.1 hI.2
  have h8 : ∀ j, j < 8 → uKA (abQ T pg s) j = s.2.2.2.1 j := fun j hj => by
    unfold uKA; rw [if_pos hj]; exact cutI_at hj
  have h3 : ∀ x, x < 3 → uKA (abQ T pg s) (8 + x) = s.2.2.2.2.1 (sr9 s x (s.2.2.2.2.2.2.1 x)) := fun x hx => by
    unfold uKA
    rw [if_neg (by omega), (by omega : 8 + x - 8 = x), lnX_Q (by omega), Nat.add_sub_cancel, atK_Q (by omega) (Nat.lt_succ_self _), enP_v hI.1 hx (Nat.le_refl _)]
  have e : ocK (abQ T pg s) = v11 (uKA (abQ T pg s)) := rfl
  rw [e, enV_u hk]
  refine Prod.ext (k1O_rK h8 (fun j hj => by rw [← h8 j hj]; exact hk j (by omega))) (k2O_vK (h3 0 (by omega)) (h3 1 (by omega)) (h3 2 (by omega)) ?_ ?_ ?_)
  · rw [← h3 0 (by omega)]; exact hk _ (by omega)
  · rw [← h3 1 (by omega)]; exact hk _ (by omega)
  · rw [← h3 2 (by omega)]; exact hk _ (by omega)
theorem walkK_mdf (hX : PX T Ac pg nm zs kd vx rr vv) {KL SL C : Nat} :
    walkK E T pg nm KL SL C = mdf knK9 preK9 (nxK9 pg nm T) (finK9 E) 15 s09 [] (g0W KL (emptyS SL).1 C (fun _ => 0) (emptyS SL).2.1 (emptyS SL).2.2) := by
  have h := visitK_mdf (E := E) (T := T) (pg := pg) (nm := nm) (Iv := IvQR T Ac pg nm zs) (rk := fun s => rkK T zs (abQ T pg s)) (fun s k hI hk => ch_Q hX hI hk) (fun s hI t ht hq => cov_Q hX hI.1 ht hq) 14 (Nat.le_refl _) s09 (fun _ => 0) (g0W KL (emptyS SL).1 C (fun _ => 0) (emptyS SL).2.1 (emptyS SL).2.2)
    ⟨IvQ_0, by rw [abQ_0]; exact RKA_0 hX.2.1⟩ (by show rkK T zs (abQ T pg s09) ≤ 14; rw [abQ_0]; have := rkK_0 hX.2.1; omega)
  exact h
/-- the class's outcomes of model 3, with their runs, are the machine's -/
theorem cls_runs_K (hX : PX T Ac pg nm zs kd vx rr vv) {KL SL C : Nat} :
    gF (walkK E T pg nm KL SL C) = (pdf (nxF (aK zs kd vx rr vv) T) ocK 15 a0K [] []).map (fun r => ((enV r.1).1, (enV r.1).2, r.2)) := by
  rw [walkK_mdf hX]
  have h := md_use (kn := knK9) (pre := preK9) (nx := nxK9 pg nm T) (fin := finK9 E) (oc := fun s : S9K => (rK s.2.2.2.1 7, vK s.2.2.2.2.1 (sr9 s 0 (s.2.2.2.2.2.2.1 0)) (sr9 s 1 (s.2.2.2.2.2.2.1 1)) (sr9 s 2 (s.2.2.2.2.2.2.1 2)))) (rp := fun _ _ _ => False) (Iv := IvQR T Ac pg nm zs)
    (sk := fun s s' => keyK s'.2.1 s'.1 s'.2.2.2.2.2.1 s'.2.2.2.2.2.2.1 = keyK s.2.1 s.1 s.2.2.2.2.2.1 s.2.2.2.2.2.2.1) (fo := foG) (mk := fun _ _ _ => False) (B := (pdf (nxF (aK zs kd vx rr vv) T) (fun A => enV (ocK A)) 15 a0K [] []).length) (na := nxF (aK zs kd vx rr vv) T) (oa := fun A => enV (ocK A)) (ra9 := fun _ _ _ => False) (ab := abQ T pg) (rkA := rkK T zs)
    (fun s hI => nxQ_sim hX hI.1) (fun s hI => oc_Q hX hI) (fun _ _ _ _ => Iff.rfl) (fun s k hI hk => (ch_Q hX hI hk).1) (fun s k hI hk => (ch_Q hX hI hk).2)
    (fun s g _ => by unfold foG preK9; rw [addK_L.1]) (fun s g a b _ => ⟨fun q => Or.inl q, fun q => by rcases q with q | q <;> exact q⟩)
    (fun s g s' _ _ q => addK_L.2 _ q)
    (fun s p g _ _ => addOut_V.1) (fun _ _ _ _ _ => Iff.rfl) (fun s p g s' => by unfold knK9 hasK finK9; rw [addOut_V.2.1])
    (fun s s' hI hJ q => abQ_key hX hI.1 hJ.1 q.symm)
    15 s09 [] (g0W KL (emptyS SL).1 C (fun _ => 0) (emptyS SL).2.1 (emptyS SL).2.2) ⟨IvQ_0, by rw [abQ_0]; exact RKA_0 hX.2.1⟩ (by rw [abQ_0]; exact rkK_0 hX.2.1) (fun s' => rfl) (by rw [abQ_0]; exact Nat.le_refl _)
  have h := h.1
  rw [abQ_0] at h
  have hm := pdf_map (nx := nxF (aK zs kd vx rr vv) T) (oc := ocK) (en := enV) (Ok := okV) (Iv := RKA T zs) enV_in (fun A hA => ⟨uKA A, rfl, RKA_ok hX.2.1.1 hX.2.1.2.1 hA⟩) (fun A k hA hk => by
    obtain ⟨t, c, ht, _, e, _⟩ := nxF_mem hk
    exact RKA_s hX.2.1 hA ht e) 15 a0K [] [] (RKA_0 hX.2.1) (fun r hr => absurd hr (List.not_mem_nil))
  have hm := hm.1
  rw [List.map_nil] at hm
  have e0 : foG (g0W KL (emptyS SL).1 C (fun _ => 0) (emptyS SL).2.1 (emptyS SL).2.2) = [] := rfl
  rw [e0, hm] at h
  have h2 := congrArg (List.map (fun q : (Int64 × Int32) × List Int32 => (q.1.1, q.1.2, q.2))) h
  unfold foG at h2
  rw [List.map_map, List.map_map] at h2
  rw [show ((fun q : (Int64 × Int32) × List Int32 => (q.1.1, q.1.2, q.2)) ∘ fun r : Int64 × Int32 × List Int32 => ((r.1, r.2.1), r.2.2)) = id from rfl, List.map_id] at h2
  exact h2
end CLQ
