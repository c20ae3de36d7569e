def nwS9 (R : RX9) (f : Nat → Int32) : RX9 := (r_T R, r_Ac R, r_md R, r_wd R, r_mn R, r_cb R, r_ld R, r_gm R, r_my R, r_ir R, r_mr R, r_zs R, r_kd R, r_vx R, r_rr R, r_vv R, r_ff R, r_om R, r_oc R, r_wi R, r_ws R, r_or R, r_gq R, r_rc R, r_sf R, r_kf R, r_sp R, r_mf R, r_nx R, r_fs R, r_cf R, f, r_fm R, r_hp R, r_dn R, r_gv R, r_pc R, r_hd R, r_li R, r_rx R, r_rs R, r_nu R, r_ow R, r_rd R, r_bf R, r_sn R, r_mk R, r_hq R)
theorem rD9 {ra : Nat} {rA : Nat → Nat} {rK9 : Nat → ClassId} {A : Nat → Prop} {R R2 : RX9} (h : va_D A (rw9 ra rA rK9 R)) : va_D A (rw9 ra rA rK9 R2) := dd_D (dd_of h rfl) rfl
def cpF9 (f g : Nat → Int32) (b k : Nat) : Nat → Int32 := fun j => if j < k then g (b + j) else f j
theorem cp_s9 {f g : Nat → Int32} {b k : Nat} : upd (cpF9 f g b k) k (g (b + k)) = cpF9 f g b (k + 1) := by
  funext j
  by_cases e : j = k
  · rw [e, pk_us]; unfold cpF9; rw [if_pos (Nat.lt_succ_self k)]
  · rw [pk_un e]; unfold cpF9
    by_cases c : j < k
    · rw [if_pos c, if_pos (by omega)]
    · rw [if_neg c, if_neg (by omega)]
theorem cp_09 {f g : Nat → Int32} {b : Nat} : cpF9 f g b 0 = f := by funext j; exact if_neg (Nat.not_lt_zero j)
/-- how many outcomes of L are not in M -/
def byN9 (L M : List O9) : Nat → Nat
  | 0 => 0
  | i + 1 => byN9 L M i + (if M.any (fun r => r.1 == (oat L i).1) = true then 0 else 1)
theorem by_le9 {L M : List O9} : ∀ i, byN9 L M i ≤ i
  | 0 => Nat.le_refl 0
  | i + 1 => by have := by_le9 (L := L) (M := M) i; show byN9 L M i + _ ≤ i + 1; split <;> omega
theorem by_y9 {L M : List O9} {i : Nat} (h : hasV M (oat L i).1) : byN9 L M (i + 1) = byN9 L M i + 0 := by
  show byN9 L M i + _ = _
  rw [if_pos (hasV_iff.mp h)]
theorem by_n9 {L M : List O9} {i : Nat} (h : ¬ hasV M (oat L i).1) : byN9 L M (i + 1) = byN9 L M i + 1 := by
  show byN9 L M i + _ = _
  rw [if_neg (fun w => h (hasV_iff.mpr w))]
theorem sFn_P {OS OS2 : Nat → List O9} {R R2 : RX9} {m : Nat} (hs : sFn9 OS R m R2 OS2) : r_T R2 = r_T R ∧ r_zs R2 = r_zs R ∧ r_kd R2 = r_kd R ∧ r_vx R2 = r_vx R ∧ r_rr R2 = r_rr R ∧ r_vv R2 = r_vv R := by
  rcases hs with ⟨-, rfl, rfl⟩ | ⟨-, -, -, cb, cf, mf, nx, fs, kf, sp, nw, oc, om, or9, ws, wi, rfl⟩ <;> exact ⟨rfl, rfl, rfl, rfl, rfl, rfl⟩
/-- the place that the search finds -/
theorem bs9 {se : Nat} {L : List O9} {om or9 : Nat → Nat} {oc9 : Nat → Int32} {ws : Nat → Nat} {wi : Nat → Int32} (h : okO se L om or9 oc9 ws wi) {nv : Nat → Int32} (hsm : ∀ k, k < 11 → smI (nv k)) :
    ∃ p9, p9 ≤ L.length ∧ (∀ i, i < p9 → 0 < agF nv (fun j => oc9 (11 * (4000 * se + or9 (4000 * se + i)) + j)) 11 0) ∧ (∀ i, p9 ≤ i → i < L.length → ¬ 0 < agF nv (fun j => oc9 (11 * (4000 * se + or9 (4000 * se + i)) + j)) 11 0) ∧ (hasV L (v11 nv) ↔ p9 < L.length ∧ agF nv (fun j => oc9 (11 * (4000 * se + or9 (4000 * se + p9)) + j)) 11 0 = 0) := by
  obtain ⟨p9, hp, q1, q2⟩ := pick9 (nv := nv) (L := L) (of := or9) (b := 4000 * se) L.length rfl h.2.2.2.2.1
  have ag : ∀ i, i < L.length → (0 < agF nv (fun j => oc9 (11 * (4000 * se + or9 (4000 * se + i)) + j)) 11 0 ↔ lxG nv (orow L (or9 (4000 * se + i))) 11 0) ∧ (agF nv (fun j => oc9 (11 * (4000 * se + or9 (4000 * se + i)) + j)) 11 0 = 0 ↔ ∀ k, k < 11 → nv k = orow L (or9 (4000 * se + i)) k) := fun i hi => by
    have hr := h.2.2.1 _ (h.2.2.2.1 i hi)
    obtain ⟨g1, g2⟩ := ag_lx (a := nv) (b := fun j => oc9 (11 * (4000 * se + or9 (4000 * se + i)) + j)) 11 0 (fun j _ hj => ⟨hsm j (by omega), by show smI (oc9 _); rw [(hr j (by omega)).1]; exact (hr j (by omega)).2⟩)
    refine ⟨g1.trans ⟨lx_cg 11 0 (fun j _ hj => ⟨rfl, (hr j (by omega)).1⟩), lx_cg 11 0 (fun j _ hj => ⟨rfl, (hr j (by omega)).1.symm⟩)⟩, g2.trans ⟨fun w k hk => (w k (Nat.zero_le k) (by omega)).trans (hr k hk).1, fun w k _ hk => (w k (by omega)).trans (hr k (by omega)).1.symm⟩⟩
  refine ⟨p9, hp, fun i hi => (ag i (by omega)).1.mpr (q1 i hi), fun i h1 h2 w => q2 i h1 h2 ((ag i h2).1.mp w), ?_⟩
  rw [okO_has h hp q1 q2]
  constructor
  · rintro ⟨w1, w2⟩; exact ⟨w1, (ag p9 w1).2.mpr w2⟩
  · rintro ⟨w1, w2⟩; exact ⟨w1, (ag p9 w1).2.mp w2⟩
set_option maxHeartbeats 4000000 in
set_option maxRecDepth 100000 in
theorem rAg9 (l : Launch) (dC : Nat → ClassId) (dI : Nat → Nat → Nat) (ra : Nat) (rA : Nat → Nat) (rK9 : Nat → ClassId) (R : RX9) (se : Nat) (i9 : Nat) (hse : se < 8) (hi9 : i9 < 4000) (sz : Nat) : Met l y_Ref_against w_Ref_against ({ frames := 0, cells := 0, slots := 0, locals := 0 }) (va_Pc [.ref ra, .int (nI se), .int (nI i9)] (SR9 dC dI ra rA rK9 R sz)) (va_Qi (fun (r : Int32) (_ : Unit) => r = agF (r_nw R) (fun j => (r_oc R) (11 * (4000 * se + i9) + j)) 11 0) (fun _ t9 => PR9 dC dI ra rA rK9 R sz R t9) (va_A (rw9 ra rA rK9 R) sz)) 0 0 (va_A (rw9 ra rA rK9 R) sz) := by
  have hCw : ([0, 21, 8] : List Nat).map (fun i => (rw9 ra rA rK9 R)[i]?) = ([oc ra 8 [.int (nI (r_T R)), .int (nI (r_Ac R)), .ref (rA 2), .ref (rA 3), .ref (rA 4), .ref (rA 5), .ref (rA 6), .ref (rA 7), .ref (rA 8), .ref (rA 9), .ref (rA 10), .ref (rA 11), .ref (rA 12), .ref (rA 13), .int (r_ir R), .ref (rA 15), .ref (rA 16), .ref (rA 17), .ref (rA 18), .int (nI (r_md R)), .int (nI (r_wd R)), .ref (rA 21), .ref (rA 22), .ref (rA 23), .int (nI (r_mn R)), .ref (rA 25), .int (nI (r_cb R)), .int (r_mr R), .ref (rA 28), .ref (rA 29), .ref (rA 30), .ref (rA 31), .ref (rA 32), .ref (rA 33), .ref (rA 34), .ref (rA 35), .int (nI (r_ld R)), .int (nI (r_gm R)), .ref (rA 38), .ref (rA 39), .ref (rA 40), .ref (rA 41), .ref (rA 42), .ref (rA 43), .ref (rA 44), .ref (rA 45), .int (nI (r_my R)), .ref (rA 47)], ia (rA 28) (rK9 28) 11 (r_nw R), ia (rA 9) (rK9 9) 352000 (r_oc R)] : va_W).map some := rfl
  exact Met_rr (R := R) (gen_Ref_against l dC dI ra rA rK9 (r_T R) (r_Ac R) (r_md R) (r_wd R) (r_mn R) (r_cb R) (r_ld R) (r_gm R) (r_my R) (r_ir R) (r_mr R) se i9 (r_nw R) (r_oc R) hse hi9 sz) [0, 21, 8] [20, 7] (by decide +kernel) hCw rfl
