/-- the reference's object and all that it holds -/
abbrev RX9 := Nat × Nat × Nat × Nat × Nat × Nat × Nat × Nat × Nat × Int32 × Int32 × (Nat → Nat) × (Nat → Nat) × (Nat → Nat) × (Nat → Nat) × (Nat → Int32) × (Nat → Int32) × (Nat → Nat) × (Nat → Int32) × (Nat → Int32) × (Nat → Nat) × (Nat → Nat) × (Nat → Nat) × (Nat → Int32) × (Nat → Int32) × (Nat → Int32) × (Nat → Int32) × (Nat → Int64) × (Nat → Nat) × (Nat → Nat) × (Nat → Int64) × (Nat → Int32) × (Nat → Nat) × (Nat → Nat) × (Nat → Nat) × (Nat → Int32) × (Nat → Nat) × (Nat → Int32) × (Nat → Nat) × (Nat → Nat) × (Nat → Nat) × (Nat → Nat) × (Nat → Nat) × (Nat → Nat) × (Nat → Nat) × (Nat → Nat) × (Nat → Nat) × (Nat → Nat)
def r_T (S : RX9) : Nat := S.1
def r_Ac (S : RX9) : Nat := S.2.1
def r_md (S : RX9) : Nat := S.2.2.1
def r_wd (S : RX9) : Nat := S.2.2.2.1
def r_mn (S : RX9) : Nat := S.2.2.2.2.1
def r_cb (S : RX9) : Nat := S.2.2.2.2.2.1
def r_ld (S : RX9) : Nat := S.2.2.2.2.2.2.1
def r_gm (S : RX9) : Nat := S.2.2.2.2.2.2.2.1
def r_my (S : RX9) : Nat := S.2.2.2.2.2.2.2.2.1
def r_ir (S : RX9) : Int32 := S.2.2.2.2.2.2.2.2.2.1
def r_mr (S : RX9) : Int32 := S.2.2.2.2.2.2.2.2.2.2.1
def r_zs (S : RX9) : Nat → Nat := S.2.2.2.2.2.2.2.2.2.2.2.1
def r_kd (S : RX9) : Nat → Nat := S.2.2.2.2.2.2.2.2.2.2.2.2.1
def r_vx (S : RX9) : Nat → Nat := S.2.2.2.2.2.2.2.2.2.2.2.2.2.1
def r_rr (S : RX9) : Nat → Nat := S.2.2.2.2.2.2.2.2.2.2.2.2.2.2.1
def r_vv (S : RX9) : Nat → Int32 := S.2.2.2.2.2.2.2.2.2.2.2.2.2.2.2.1
def r_ff (S : RX9) : Nat → Int32 := S.2.2.2.2.2.2.2.2.2.2.2.2.2.2.2.2.1
def r_om (S : RX9) : Nat → Nat := S.2.2.2.2.2.2.2.2.2.2.2.2.2.2.2.2.2.1
def r_oc (S : RX9) : Nat → Int32 := S.2.2.2.2.2.2.2.2.2.2.2.2.2.2.2.2.2.2.1
def r_wi (S : RX9) : Nat → Int32 := S.2.2.2.2.2.2.2.2.2.2.2.2.2.2.2.2.2.2.2.1
def r_ws (S : RX9) : Nat → Nat := S.2.2.2.2.2.2.2.2.2.2.2.2.2.2.2.2.2.2.2.2.1
def r_or (S : RX9) : Nat → Nat := S.2.2.2.2.2.2.2.2.2.2.2.2.2.2.2.2.2.2.2.2.2.1
def r_gq (S : RX9) : Nat → Nat := S.2.2.2.2.2.2.2.2.2.2.2.2.2.2.2.2.2.2.2.2.2.2.1
def r_rc (S : RX9) : Nat → Int32 := S.2.2.2.2.2.2.2.2.2.2.2.2.2.2.2.2.2.2.2.2.2.2.2.1
def r_sf (S : RX9) : Nat → Int32 := S.2.2.2.2.2.2.2.2.2.2.2.2.2.2.2.2.2.2.2.2.2.2.2.2.1
def r_kf (S : RX9) : Nat → Int32 := S.2.2.2.2.2.2.2.2.2.2.2.2.2.2.2.2.2.2.2.2.2.2.2.2.2.1
def r_sp (S : RX9) : Nat → Int32 := S.2.2.2.2.2.2.2.2.2.2.2.2.2.2.2.2.2.2.2.2.2.2.2.2.2.2.1
def r_mf (S : RX9) : Nat → Int64 := S.2.2.2.2.2.2.2.2.2.2.2.2.2.2.2.2.2.2.2.2.2.2.2.2.2.2.2.1
def r_nx (S : RX9) : Nat → Nat := S.2.2.2.2.2.2.2.2.2.2.2.2.2.2.2.2.2.2.2.2.2.2.2.2.2.2.2.2.1
def r_fs (S : RX9) : Nat → Nat := S.2.2.2.2.2.2.2.2.2.2.2.2.2.2.2.2.2.2.2.2.2.2.2.2.2.2.2.2.2.1
def r_cf (S : RX9) : Nat → Int64 := S.2.2.2.2.2.2.2.2.2.2.2.2.2.2.2.2.2.2.2.2.2.2.2.2.2.2.2.2.2.2.1
def r_nw (S : RX9) : Nat → Int32 := S.2.2.2.2.2.2.2.2.2.2.2.2.2.2.2.2.2.2.2.2.2.2.2.2.2.2.2.2.2.2.2.1
def r_fm (S : RX9) : Nat → Nat := S.2.2.2.2.2.2.2.2.2.2.2.2.2.2.2.2.2.2.2.2.2.2.2.2.2.2.2.2.2.2.2.2.1
def r_hp (S : RX9) : Nat → Nat := S.2.2.2.2.2.2.2.2.2.2.2.2.2.2.2.2.2.2.2.2.2.2.2.2.2.2.2.2.2.2.2.2.2.1
def r_dn (S : RX9) : Nat → Nat := S.2.2.2.2.2.2.2.2.2.2.2.2.2.2.2.2.2.2.2.2.2.2.2.2.2.2.2.2.2.2.2.2.2.2.1
def r_gv (S : RX9) : Nat → Int32 := S.2.2.2.2.2.2.2.2.2.2.2.2.2.2.2.2.2.2.2.2.2.2.2.2.2.2.2.2.2.2.2.2.2.2.2.1
def r_pc (S : RX9) : Nat → Nat := S.2.2.2.2.2.2.2.2.2.2.2.2.2.2.2.2.2.2.2.2.2.2.2.2.2.2.2.2.2.2.2.2.2.2.2.2.1
def r_hd (S : RX9) : Nat → Int32 := S.2.2.2.2.2.2.2.2.2.2.2.2.2.2.2.2.2.2.2.2.2.2.2.2.2.2.2.2.2.2.2.2.2.2.2.2.2.1
def r_li (S : RX9) : Nat → Nat := S.2.2.2.2.2.2.2.2.2.2.2.2.2.2.2.2.2.2.2.2.2.2.2.2.2.2.2.2.2.2.2.2.2.2.2.2.2.2.1
def r_rx (S : RX9) : Nat → Nat := S.2.2.2.2.2.2.2.2.2.2.2.2.2.2.2.2.2.2.2.2.2.2.2.2.2.2.2.2.2.2.2.2.2.2.2.2.2.2.2.1
def r_rs (S : RX9) : Nat → Nat := S.2.2.2.2.2.2.2.2.2.2.2.2.2.2.2.2.2.2.2.2.2.2.2.2.2.2.2.2.2.2.2.2.2.2.2.2.2.2.2.2.1
def r_nu (S : RX9) : Nat → Nat := S.2.2.2.2.2.2.2.2.2.2.2.2.2.2.2.2.2.2.2.2.2.2.2.2.2.2.2.2.2.2.2.2.2.2.2.2.2.2.2.2.2.1
def r_ow (S : RX9) : Nat → Nat := S.2.2.2.2.2.2.2.2.2.2.2.2.2.2.2.2.2.2.2.2.2.2.2.2.2.2.2.2.2.2.2.2.2.2.2.2.2.2.2.2.2.2.1
def r_rd (S : RX9) : Nat → Nat := S.2.2.2.2.2.2.2.2.2.2.2.2.2.2.2.2.2.2.2.2.2.2.2.2.2.2.2.2.2.2.2.2.2.2.2.2.2.2.2.2.2.2.2.1
def r_bf (S : RX9) : Nat → Nat := S.2.2.2.2.2.2.2.2.2.2.2.2.2.2.2.2.2.2.2.2.2.2.2.2.2.2.2.2.2.2.2.2.2.2.2.2.2.2.2.2.2.2.2.2.1
def r_sn (S : RX9) : Nat → Nat := S.2.2.2.2.2.2.2.2.2.2.2.2.2.2.2.2.2.2.2.2.2.2.2.2.2.2.2.2.2.2.2.2.2.2.2.2.2.2.2.2.2.2.2.2.2.1
def r_mk (S : RX9) : Nat → Nat := S.2.2.2.2.2.2.2.2.2.2.2.2.2.2.2.2.2.2.2.2.2.2.2.2.2.2.2.2.2.2.2.2.2.2.2.2.2.2.2.2.2.2.2.2.2.2.1
def r_hq (S : RX9) : Nat → Nat := S.2.2.2.2.2.2.2.2.2.2.2.2.2.2.2.2.2.2.2.2.2.2.2.2.2.2.2.2.2.2.2.2.2.2.2.2.2.2.2.2.2.2.2.2.2.2.2
def rw9 (ra : Nat) (rA : Nat → Nat) (rK9 : Nat → ClassId) (R : RX9) : va_W := [oc ra 8 [.int (nI (r_T R)), .int (nI (r_Ac R)), .ref (rA 2), .ref (rA 3), .ref (rA 4), .ref (rA 5), .ref (rA 6), .ref (rA 7), .ref (rA 8), .ref (rA 9), .ref (rA 10), .ref (rA 11), .ref (rA 12), .ref (rA 13), .int (r_ir R), .ref (rA 15), .ref (rA 16), .ref (rA 17), .ref (rA 18), .int (nI (r_md R)), .int (nI (r_wd R)), .ref (rA 21), .ref (rA 22), .ref (rA 23), .int (nI (r_mn R)), .ref (rA 25), .int (nI (r_cb R)), .int (r_mr R), .ref (rA 28), .ref (rA 29), .ref (rA 30), .ref (rA 31), .ref (rA 32), .ref (rA 33), .ref (rA 34), .ref (rA 35), .int (nI (r_ld R)), .int (nI (r_gm R)), .ref (rA 38), .ref (rA 39), .ref (rA 40), .ref (rA 41), .ref (rA 42), .ref (rA 43), .ref (rA 44), .ref (rA 45), .int (nI (r_my R)), .ref (rA 47)], ia (rA 2) (rK9 2) 4 (fun i => nI ((r_zs R) i)), ia (rA 3) (rK9 3) 28 (fun i => nI ((r_kd R) i)), ia (rA 4) (rK9 4) 28 (fun i => nI ((r_vx R) i)), ia (rA 5) (rK9 5) 28 (fun i => nI ((r_rr R) i)), ia (rA 6) (rK9 6) 28 (r_vv R), ia (rA 7) (rK9 7) 8 (r_ff R), ia (rA 8) (rK9 8) 8 (fun i => nI ((r_om R) i)), ia (rA 9) (rK9 9) 352000 (r_oc R), ia (rA 10) (rK9 10) 256000 (r_wi R), ia (rA 11) (rK9 11) 16000 (fun i => nI ((r_ws R) i)), ia (rA 12) (rK9 12) 32000 (fun i => nI ((r_or R) i)), ia (rA 13) (rK9 13) 4 (fun i => nI ((r_gq R) i)), ia (rA 15) (rK9 15) 784 (r_rc R), ia (rA 16) (rK9 16) 155 (r_sf R), ia (rA 17) (rK9 17) 2635 (r_kf R), ia (rA 18) (rK9 18) 17 (r_sp R), la (rA 21) (rK9 21) 1200000 (r_mf R), ia (rA 22) (rK9 22) 240000 (fun i0 => mN ((r_nx R) i0)), ia (rA 23) (rK9 23) 65536 (fun i0 => mN ((r_fs R) i0)), la (rA 25) (rK9 25) 5 (r_cf R), ia (rA 28) (rK9 28) 11 (r_nw R), ia (rA 29) (rK9 29) 28 (fun i0 => mN ((r_fm R) i0)), ia (rA 30) (rK9 30) 28 (fun i => nI ((r_hp R) i)), ia (rA 31) (rK9 31) 28 (fun i => nI ((r_dn R) i)), ia (rA 32) (rK9 32) 28 (r_gv R), ia (rA 33) (rK9 33) 4 (fun i => nI ((r_pc R) i)), ia (rA 34) (rK9 34) 8 (r_hd R), ia (rA 35) (rK9 35) 7 (fun i => nI ((r_li R) i)), ia (rA 38) (rK9 38) 28 (fun i => nI ((r_rx R) i)), ia (rA 39) (rK9 39) 4 (fun i => nI ((r_rs R) i)), ia (rA 40) (rK9 40) 28 (fun i => nI ((r_nu R) i)), ia (rA 41) (rK9 41) 7 (fun i => nI ((r_ow R) i)), ia (rA 42) (rK9 42) 7 (fun i => nI ((r_rd R) i)), ia (rA 43) (rK9 43) 7 (fun i => nI ((r_bf R) i)), ia (rA 44) (rK9 44) 7 (fun i => nI ((r_sn R) i)), ia (rA 45) (rK9 45) 7 (fun i => nI ((r_mk R) i)), ia (rA 47) (rK9 47) 7 (fun i => nI ((r_hq R) i))]
def rt9 (rK9 : Nat → ClassId) : List (ClassId × FieldType) := [((rK9 2), .int), ((rK9 3), .int), ((rK9 4), .int), ((rK9 5), .int), ((rK9 6), .int), ((rK9 7), .boolean), ((rK9 8), .int), ((rK9 9), .short), ((rK9 10), .short), ((rK9 11), .int), ((rK9 12), .int), ((rK9 13), .int), ((rK9 15), .boolean), ((rK9 16), .int), ((rK9 17), .int), ((rK9 18), .int), ((rK9 21), .long), ((rK9 22), .int), ((rK9 23), .int), ((rK9 25), .long), ((rK9 28), .int), ((rK9 29), .int), ((rK9 30), .boolean), ((rK9 31), .boolean), ((rK9 32), .int), ((rK9 33), .int), ((rK9 34), .int), ((rK9 35), .int), ((rK9 38), .int), ((rK9 39), .int), ((rK9 40), .int), ((rK9 41), .int), ((rK9 42), .int), ((rK9 43), .int), ((rK9 44), .int), ((rK9 45), .int), ((rK9 47), .int)]
def SR9 (dC : Nat → ClassId) (dI : Nat → Nat → Nat) (ra : Nat) (rA : Nat → Nat) (rK9 : Nat → ClassId) (R : RX9) (sz : Nat) (U : State) : Prop := U.heap.size = sz ∧ va_P (dC, dI) classes (rw9 ra rA rK9 R) U.heap ∧ va_K (dC, dI) classes (rt9 rK9) U ∧ va_D (fun _ => True) (rw9 ra rA rK9 R) ∧ nw U
def PR9 (dC : Nat → ClassId) (dI : Nat → Nat → Nat) (ra : Nat) (rA : Nat → Nat) (rK9 : Nat → ClassId) (R : RX9) (sz : Nat) (R2 : RX9) (t : State) : Prop := va_P (dC, dI) classes (rw9 ra rA rK9 R2) t.heap ∧ va_D (va_A (rw9 ra rA rK9 R) sz) (rw9 ra rA rK9 R2)
theorem oNr9 {dC : Nat → ClassId} {dI : Nat → Nat → Nat} {ra : Nat} {rA : Nat → Nat} {rK9 : Nat → ClassId} {R R2 : RX9} {A : Nat → Prop} {t : State} {H1 : Heap} {z : Nat} (hF : ∀ q, va_A (rw9 ra rA rK9 R) z q → A q) (hB : PR9 dC dI ra rA rK9 R z R2 t) (ht : t.heap = H1) :
    va_P (dC, dI) classes (rw9 ra rA rK9 R2) H1 ∧ va_D A (rw9 ra rA rK9 R2) := by
  obtain ⟨h1, h4⟩ := hB
  rw [ht] at h1
  exact ⟨h1, h4.weaken (fun _ _ _ h => hF _ h)⟩
theorem Met_rr {l : Launch} {y : MethodName} {cs : List Cond} {rm : Room} {dC : Nat → ClassId} {dI : Nat → Nat → Nat} {as : List Value} {sz : Nat} {ra : Nat} {rA : Nat → Nat} {rK9 : Nat → ClassId} {R : RX9} {wc : va_W} {tc tn : List (ClassId × FieldType)} {post : Int32 → Unit → Prop}
    (h : Met l y cs rm (va_Pc as (fun U => U.heap.size = sz ∧ va_P (dC, dI) classes wc U.heap ∧ va_K (dC, dI) classes tc U ∧ va_D (fun _ => True) wc ∧ nw U)) (va_Qi post (fun _ t9 => va_P (dC, dI) classes wc t9.heap ∧ va_K (dC, dI) classes tn t9 ∧ va_D (va_A wc sz) wc) (va_A wc sz)) 0 0 (va_A wc sz)) (isC isK : List Nat) (hn : va_nd isC = true) (hC : isC.map (fun i => (rw9 ra rA rK9 R)[i]?) = wc.map some) (hK : isK.filterMap (fun i => (rt9 rK9)[i]?) = tc) :
    Met l y cs rm (va_Pc as (SR9 dC dI ra rA rK9 R sz)) (va_Qi post (fun _ t9 => PR9 dC dI ra rA rK9 R sz R t9) (va_A (rw9 ra rA rK9 R) sz)) 0 0 (va_A (rw9 ra rA rK9 R) sz) := by
  refine Met_lift (ws := rw9 ra rA rK9 R) (ts := rt9 rK9) h isC isK hn hC hK ?_
  intro a st o t hs hq
  obtain ⟨z1, z2, z3, z4, z5⟩ := hs
  obtain ⟨⟨r, u, e1, e2, q1, q2, q3⟩, q4⟩ := hq
  obtain ⟨w1, w2⟩ := lk9 z1 z2 z4 isC hC q4 q1
  exact ⟨⟨r, u, e1, e2, w1, z4.self⟩, w2⟩
theorem Met_rv {l : Launch} {y : MethodName} {cs : List Cond} {rm : Room} {dC : Nat → ClassId} {dI : Nat → Nat → Nat} {as : List Value} {sz : Nat} {ra : Nat} {rA : Nat → Nat} {rK9 : Nat → ClassId} {R : RX9} {wc : va_W} {tc tn : List (ClassId × FieldType)} {post : Unit → Prop}
    (h : Met l y cs rm (va_Pc as (fun U => U.heap.size = sz ∧ va_P (dC, dI) classes wc U.heap ∧ va_K (dC, dI) classes tc U ∧ va_D (fun _ => True) wc ∧ nw U)) (va_Qv post (fun _ t9 => va_P (dC, dI) classes wc t9.heap ∧ va_K (dC, dI) classes tn t9 ∧ va_D (va_A wc sz) wc) (va_A wc sz)) 0 0 (va_A wc sz)) (isC isK : List Nat) (hn : va_nd isC = true) (hC : isC.map (fun i => (rw9 ra rA rK9 R)[i]?) = wc.map some) (hK : isK.filterMap (fun i => (rt9 rK9)[i]?) = tc) :
    Met l y cs rm (va_Pc as (SR9 dC dI ra rA rK9 R sz)) (va_Qv post (fun _ t9 => PR9 dC dI ra rA rK9 R sz R t9) (va_A (rw9 ra rA rK9 R) sz)) 0 0 (va_A (rw9 ra rA rK9 R) sz) := by
  refine Met_lift (ws := rw9 ra rA rK9 R) (ts := rt9 rK9) h isC isK hn hC hK ?_
  intro a st o t hs hq
  obtain ⟨z1, z2, z3, z4, z5⟩ := hs
  obtain ⟨⟨u, e1, e2, q1, q2, q3⟩, q4⟩ := hq
  obtain ⟨w1, w2⟩ := lk9 z1 z2 z4 isC hC q4 q1
  exact ⟨⟨u, e1, e2, w1, z4.self⟩, w2⟩
def nFb9 (R : RX9) (md wd : Nat) (sf0 : Nat → Int32) (g2 : R9) (cb : Nat) (cf : Nat → Int64) (mf : Nat → Int64) (nx : Nat → Nat) (fs : Nat → Nat) (kf : Nat → Int32) (sp : Nat → Int32) (nw : Nat → Int32) (oc : Nat → Int32) (om : Nat → Nat) (or9 : Nat → Nat) (ws : Nat → Nat) (wi : Nat → Int32) : RX9 := (r_T R, r_Ac R, md, wd, g2.1.length, cb, r_ld R, r_gm R, r_my R, r_ir R, 0, r_zs R, r_kd R, r_vx R, r_rr R, r_vv R, upd (r_ff R) md 1, om, oc, wi, ws, or9, r_gq R, g2.2.2, sf0, kf, sp, mf, nx, fs, cf, nw, r_fm R, r_hp R, r_dn R, r_gv R, r_pc R, r_hd R, r_li R, r_rx R, r_rs R, r_nu R, r_ow R, r_rd R, r_bf R, r_sn R, r_mk R, r_hq R)
def nFr9 (R : RX9) (g2 : R9) (cb : Nat) (cf : Nat → Int64) (mf : Nat → Int64) (nx : Nat → Nat) (fs : Nat → Nat) (kf : Nat → Int32) (sp : Nat → Int32) (nw : Nat → Int32) (oc : Nat → Int32) (om : Nat → Nat) (or9 : Nat → Nat) (ws : Nat → Nat) (wi : Nat → Int32) : RX9 := (r_T R, r_Ac R, 0, 37, g2.1.length, cb, r_ld R, r_gm R, r_my R, 1, 1, r_zs R, r_kd R, r_vx R, r_rr R, r_vv R, r_ff R, om, oc, wi, ws, or9, r_gq R, g2.2.2, fun _ => 0, kf, sp, mf, nx, fs, cf, nw, r_fm R, r_hp R, r_dn R, r_gv R, r_pc R, r_hd R, r_li R, r_rx R, r_rs R, r_nu R, r_ow R, r_rd R, r_bf R, r_sn R, r_mk R, r_hq R)
def nFg9 (R : RX9) (gm : Nat) (li : Nat → Nat) (ld : Nat) (g2 : GG) (fm : Nat → Nat) (gz : A9) (rx rs : Nat → Nat) (my : Nat) (nu ow rd bf sn mk hq : Nat → Nat) (nw oc : Nat → Int32) (om or9 : Nat → Nat) : RX9 := (r_T R, r_Ac R, r_md R, r_wd R, r_mn R, r_cb R, ld, gm, my, r_ir R, r_mr R, r_zs R, r_kd R, r_vx R, r_rr R, r_vv R, upd (r_ff R) (4 + gm) 1, om, oc, r_wi R, r_ws R, or9, updN (r_gq R) gm g2.1, r_rc R, r_sf R, r_kf R, r_sp R, r_mf R, r_nx R, r_fs R, r_cf R, nw, fm, gz.2.2.2.1, gz.2.2.2.2, gz.2.2.1, gz.1, gz.2.1, li, rx, rs, nu, ow, rd, bf, sn, mk, hq)
def nRt9 (R : RX9) : RX9 := (r_T R + 1, r_Ac R, r_md R, r_wd R, r_mn R, r_cb R, r_ld R, r_gm R, r_my R, 0, r_mr R, updN (r_zs R) (r_T R) 0, r_kd R, r_vx R, r_rr R, r_vv R, fun _ => 0, r_om R, r_oc R, r_wi R, r_ws R, r_or R, r_gq R, r_rc R, r_sf R, r_kf R, r_sp R, r_mf R, r_nx R, r_fs R, r_cf R, r_nw R, r_fm R, r_hp R, r_dn R, r_gv R, r_pc R, r_hd R, r_li R, r_rx R, r_rs R, r_nu R, r_ow R, r_rd R, r_bf R, r_sn R, r_mk R, r_hq R)
def nRa9 (R : RX9) (t k x rn : Nat) (v : Int32) : RX9 := (r_T R, r_Ac R + 1, r_md R, r_wd R, r_mn R, r_cb R, r_ld R, r_gm R, r_my R, 0, r_mr R, updN (r_zs R) t (r_zs R t + 1), updN (r_kd R) (7 * t + r_zs R t) k, updN (r_vx R) (7 * t + r_zs R t) x, updN (r_rr R) (7 * t + r_zs R t) rn, upd (r_vv R) (7 * t + r_zs R t) v, fun _ => 0, r_om R, r_oc R, r_wi R, r_ws R, r_or R, r_gq R, r_rc R, r_sf R, r_kf R, r_sp R, r_mf R, r_nx R, r_fs R, r_cf R, r_nw R, r_fm R, r_hp R, r_dn R, r_gv R, r_pc R, r_hd R, r_li R, r_rx R, r_rs R, r_nu R, r_ow R, r_rd R, r_bf R, r_sn R, r_mk R, r_hq R)
def nRc9 (R : RX9) : RX9 := (0, 0, r_md R, r_wd R, r_mn R, r_cb R, r_ld R, r_gm R, r_my R, 0, r_mr R, r_zs R, r_kd R, r_vx R, r_rr R, r_vv R, fun _ => 0, r_om R, r_oc R, r_wi R, r_ws R, r_or R, r_gq R, r_rc R, r_sf R, r_kf R, r_sp R, r_mf R, r_nx R, r_fs R, r_cf R, r_nw R, r_fm R, r_hp R, r_dn R, r_gv R, r_pc R, r_hd R, r_li R, r_rx R, r_rs R, r_nu R, r_ow R, r_rd R, r_bf R, r_sn R, r_mk R, r_hq R)
