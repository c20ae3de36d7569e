theorem lp_sub9 {L : Nat} (h : 6 ≤ L) : nI L - 6 = nI (L - 6) := by
  have := nI_add (L - 6) 6
  rw [(by omega : L - 6 + 6 = L)] at this
  rw [← this]
  show nI (L - 6) + 6 - 6 = nI (L - 6)
  exact Int32.add_sub_cancel _ _
theorem lp_gt9 {L i : Nat} (hL : L ≤ 3072) (hi : i ≤ 3072) (h : L < i + 6) : nI L - 6 < nI i := by
  rw [i_lt, nI_toInt (show i < 2 ^ 31 by omega)]
  by_cases c : L < 6
  · have := pk_sneg (a := L) (b := 6) (by decide) c
    rw [i_lt, ic0] at this
    have e : (nI L - 6).toInt < 0 := this
    omega
  · rw [lp_sub9 (by omega), nI_toInt (show L - 6 < 2 ^ 31 by omega)]; omega
theorem lp_le9 {L i : Nat} (hL : L ≤ 3072) (h : i + 6 ≤ L) : ¬ nI L - 6 < nI i := by
  rw [i_lt, nI_toInt (show i < 2 ^ 31 by omega), lp_sub9 (by omega), nI_toInt (show L - 6 < 2 ^ 31 by omega)]; omega
section LAWL
variable {p : Program} {e : Env} {s : State} {m : MethodId} {below : List Frame} {meth : Method} {c : Code} {l : Launch} {b L : Nat} {xs : Nat → Int32} {A : Nat → Prop} {dC : Nat → ClassId} {dI : Nat → Nat → Nat} {ra : Nat} {rA : Nat → Nat} {rK9 : Nat → ClassId}
set_option maxHeartbeats 4000000 in
set_option maxRecDepth 100000 in
theorem law_exit {i kc ns : Nat} {S : CX9} {R : RX9} {H : Heap} {locs : List Loc} {ls : Array Slot} (hC : LC9 p s m c b L xs A) (hL : L ≤ 3072) (hr : meth.sig.returnType = ret) (hlocks : meth.locks = false) (hAb : ∀ q, A q → s.heap.size ≤ q) (hi : i ≤ L) (h6 : L < i + 6) (hJ : JV9 S R) (hBW : BW9 dC dI ra rA rK9 A s S R H) (hS : va_S A s.heap H locs) (hl : lv_has ls 4 [(3, .int (nI i)), (2, .ref ra), (1, .ref (x_oa S)), (0, .ref b)]) (hk4 : 4 * kc ≤ 520 + pc9 S) (hs4 : ns ≤ 2165938 + ps9 S) : W p l e room_1 s m #[Value.ref b] below meth c H locs kc ns (lw_Z below #[Value.ref b] s) (F0 m 18 ls []) := by
  obtain ⟨hx, hb, hml, hown, hw, hX, hbl, hA, hbA, hn⟩ := id hC
  have hj := JV_0 hJ
  refine lv_iload_n hx hb d_law_law_18 rfl (lv_at hl 0 rfl) ?_
  refine lv_aload_n hx hb d_law_law_19 rfl (lv_at hl 3 rfl) ?_
  refine va_slen hx hb hX hbl hbA hS d_law_law_20 ?_
  refine lv_bipush (v := 6) hx hb d_law_law_21 (by decide) ?_
  refine lv_isub hx hb d_law_law_23 ?_
  refine lv_icmp_gt (tgt := 488) hx hb d_law_law_24 (by decide) (fun _ => ?_) (fun c9 => absurd (lp_gt9 hL (by omega) h6) c9)
  refine tp_pc (pc' := 488) (by rfl) ?_
  refine lv_iconst (v := 1) hx hb d_law_law_488 (by decide) ?_
  refine va_forget (fun q hq => hAb _ (hS.2.2 q hq)) ?_
  refine W.widen (k := 600000) (n := 7302250) (by omega) (by omega) ?_
  exact lw_ret hx hb hr hlocks d_law_law_489
set_option maxHeartbeats 4000000 in
set_option maxRecDepth 100000 in
theorem law_next {i : Nat} {oa : Nat} {ls : Array Slot} (hC : LC9 p s m c b L xs A) (hl : lv_has ls 4 [(3, .int (nI i)), (2, .ref ra), (1, .ref oa), (0, .ref b)])
    (ih : ∀ (S : CX9) (R : RX9) (H : Heap) (locs : List Loc) (ls : Array Slot) (kc ns : Nat), JV9 S R → BW9 dC dI ra rA rK9 A s S R H → va_S A s.heap H locs → lv_has ls 4 [(3, .int (nI (i + 6))), (2, .ref ra), (1, .ref (x_oa S)), (0, .ref b)] → 4 * kc ≤ 520 + pc9 S → ns ≤ 2165938 + ps9 S → W p l e room_1 s m #[Value.ref b] below meth c H locs kc ns (lw_Z below #[Value.ref b] s) (F0 m 18 ls [])) : LK9 p l e s m below meth c b A dC dI ra rA rK9 oa (lw_Z below #[Value.ref b] s) ls := by
  obtain ⟨hx, hb, hml, hown, hw, hX, hbl, hA, hbA, hn⟩ := id hC
  intro S2 R2 H2 locs2 kc2 ns2 hJ eo hBW hS hk hs
  refine lv_iinc (v := nI (i + 6)) (lv' := [(3, .int (nI (i + 6))), (2, .ref ra), (1, .ref oa), (0, .ref b)]) hx hb d_law_law_482 hl (k := 0) rfl (by exact nI_add i 6) (by decide) rfl ?_
  clear hl
  intro ls2 hl
  refine lv_goto (tgt := 18) hx hb d_law_law_485 (by decide) ?_
  refine tp_pc (pc' := 18) (by rfl) ?_
  exact ih S2 R2 H2 locs2 ls2 kc2 ns2 hJ hBW hS (by rw [eo]; exact hl) hk hs
set_option maxHeartbeats 4000000 in
set_option maxRecDepth 100000 in
theorem law_body {i kc ns : Nat} {S : CX9} {R : RX9} {H : Heap} {locs : List Loc} {ls : Array Slot} (hC : LC9 p s m c b L xs A) (hL : L ≤ 3072) (hi : i + 6 ≤ L) (hJ : JV9 S R) (hBW : BW9 dC dI ra rA rK9 A s S R H) (hS : va_S A s.heap H locs) (hl : lv_has ls 4 [(3, .int (nI i)), (2, .ref ra), (1, .ref (x_oa S)), (0, .ref b)]) (hk4 : 4 * kc ≤ 520 + pc9 S) (hs4 : ns ≤ 2165938 + ps9 S) (ih : LK9 p l e s m below meth c b A dC dI ra rA rK9 (x_oa S) (lw_Z below #[Value.ref b] s) ls) : W p l e room_1 s m #[Value.ref b] below meth c H locs kc ns (lw_Z below #[Value.ref b] s) (F0 m 18 ls []) := by
  obtain ⟨hx, hb, hml, hown, hw, hX, hbl, hA, hbA, hn⟩ := id hC
  refine lv_iload_n hx hb d_law_law_18 rfl (lv_at hl 0 rfl) ?_
  refine lv_aload_n hx hb d_law_law_19 rfl (lv_at hl 3 rfl) ?_
  refine va_slen hx hb hX hbl hbA hS d_law_law_20 ?_
  refine lv_bipush (v := 6) hx hb d_law_law_21 (by decide) ?_
  refine lv_isub hx hb d_law_law_23 ?_
  refine lv_icmp_gt (tgt := 488) hx hb d_law_law_24 (by decide) (fun c9 => absurd c9 (lp_le9 hL hi)) (fun _ => ?_)
  refine tp_pc (pc' := 27) (by rfl) ?_
  refine lv_aload_n hx hb d_law_law_27 rfl (lv_at hl 3 rfl) ?_
  refine lv_iload_n hx hb d_law_law_28 rfl (lv_at hl 0 rfl) ?_
  refine va_sld hx hb hX hbl hbA hS (i := nI i) (pk_in i L (by omega)) d_law_law_29 ?_
  refine lv_bipush (v := 15) hx hb d_law_law_30 (by decide) ?_
  refine lv_iand hx hb d_law_law_32 ?_
  refine lv_topi (fun z hz => ?_)
  clear hz
  rcases sw_0_11 z with rfl | rfl | rfl | rfl | rfl | rfl | rfl | rfl | rfl | rfl | rfl | rfl | hz
  · refine lv_tableIn (x := 0) (tgt := 96) hx hb d_law_law_33 (by decide) (by decide) (by rfl) (by decide) ?_
    refine tp_pc (pc' := 96) (by rfl) ?_
    exact law_thread hC hL hi hJ hBW hS hl hk4 hs4 ih
  · refine lv_tableIn (x := 1) (tgt := 109) hx hb d_law_law_33 (by decide) (by decide) (by rfl) (by decide) ?_
    refine tp_pc (pc' := 109) (by rfl) ?_
    exact law_action hC hL hi hJ hBW hS hl hk4 hs4 ih
  · refine lv_tableIn (x := 2) (tgt := 172) hx hb d_law_law_33 (by decide) (by decide) (by rfl) (by decide) ?_
    refine tp_pc (pc' := 172) (by rfl) ?_
    exact law_clear hC hL hi hJ hBW hS hl hk4 hs4 ih
  · refine lv_tableIn (x := 3) (tgt := 185) hx hb d_law_law_33 (by decide) (by decide) (by rfl) (by decide) ?_
    refine tp_pc (pc' := 185) (by rfl) ?_
    exact law_runs hC hL hi hJ hBW hS hl hk4 hs4 ih
  · refine lv_tableIn (x := 4) (tgt := 208) hx hb d_law_law_33 (by decide) (by decide) (by rfl) (by decide) ?_
    refine tp_pc (pc' := 208) (by rfl) ?_
    exact law_outcome hC hL hi hJ hBW hS hl hk4 hs4 ih
  · refine lv_tableIn (x := 5) (tgt := 251) hx hb d_law_law_33 (by decide) (by decide) (by rfl) (by decide) ?_
    refine tp_pc (pc' := 251) (by rfl) ?_
    exact law_witness hC hL hi hJ hBW hS hl hk4 hs4 ih
  · refine lv_tableIn (x := 6) (tgt := 294) hx hb d_law_law_33 (by decide) (by decide) (by rfl) (by decide) ?_
    refine tp_pc (pc' := 294) (by rfl) ?_
    exact law_orders hC hL hi hJ hBW hS hl hk4 hs4 ih
  · refine lv_tableIn (x := 7) (tgt := 317) hx hb d_law_law_33 (by decide) (by decide) (by rfl) (by decide) ?_
    refine tp_pc (pc' := 317) (by rfl) ?_
    exact law_ordered hC hL hi hJ hBW hS hl hk4 hs4 ih
  · refine lv_tableIn (x := 8) (tgt := 360) hx hb d_law_law_33 (by decide) (by decide) (by rfl) (by decide) ?_
    refine tp_pc (pc' := 360) (by rfl) ?_
    exact law_graphs hC hL hi hJ hBW hS hl hk4 hs4 ih
  · refine lv_tableIn (x := 9) (tgt := 383) hx hb d_law_law_33 (by decide) (by decide) (by rfl) (by decide) ?_
    refine tp_pc (pc' := 383) (by rfl) ?_
    exact law_beyond hC hL hi hJ hBW hS hl hk4 hs4 ih
  · refine lv_tableIn (x := 10) (tgt := 416) hx hb d_law_law_33 (by decide) (by decide) (by rfl) (by decide) ?_
    refine tp_pc (pc' := 416) (by rfl) ?_
    exact law_races hC hL hi hJ hBW hS hl hk4 hs4 ih
  · refine lv_tableIn (x := 11) (tgt := 429) hx hb d_law_law_33 (by decide) (by decide) (by rfl) (by decide) ?_
    refine tp_pc (pc' := 429) (by rfl) ?_
    exact law_race hC hL hi hJ hBW hS hl hk4 hs4 ih
  · refine lv_tableOut (tgt := 482) hx hb d_law_law_33 hz (by decide) ?_
    refine tp_pc (pc' := 482) (by rfl) ?_
    exact ih S R H locs kc ns hJ rfl hBW hS hk4 hs4
theorem law_loop (hC : LC9 p s m c b L xs A) (hL : L ≤ 3072) (hr : meth.sig.returnType = ret) (hlocks : meth.locks = false) (hAb : ∀ q, A q → s.heap.size ≤ q) : ∀ (n i : Nat) (S : CX9) (R : RX9) (H : Heap) (locs : List Loc) (ls : Array Slot) (kc ns : Nat), L ≤ i + n → i ≤ L → JV9 S R → BW9 dC dI ra rA rK9 A s S R H → va_S A s.heap H locs → lv_has ls 4 [(3, .int (nI i)), (2, .ref ra), (1, .ref (x_oa S)), (0, .ref b)] → 4 * kc ≤ 520 + pc9 S → ns ≤ 2165938 + ps9 S → W p l e room_1 s m #[Value.ref b] below meth c H locs kc ns (lw_Z below #[Value.ref b] s) (F0 m 18 ls []) := by
  intro n
  induction n with
  | zero =>
    intro i S R H locs ls kc ns h1 h2 hJ hBW hS hl hk hs
    exact law_exit hC hL hr hlocks hAb h2 (by omega) hJ hBW hS hl hk hs
  | succ n ihn =>
    intro i S R H locs ls kc ns h1 h2 hJ hBW hS hl hk hs
    by_cases c6 : i + 6 ≤ L
    · exact law_body hC hL c6 hJ hBW hS hl hk hs (law_next hC hl (fun S2 R2 H2 locs2 ls2 kc2 ns2 a1 a2 a3 a4 a5 a6 => ihn (i + 6) S2 R2 H2 locs2 ls2 kc2 ns2 (by omega) c6 a1 a2 a3 a4 a5 a6))
    · exact law_exit hC hL hr hlocks hAb h2 (by omega) hJ hBW hS hl hk hs
end LAWL
