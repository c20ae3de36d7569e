theorem m_427 : Cond.methodLink R_law 13 y_OM_thread ∈ wt := wt_in 427 (by decide +kernel) (by rfl)
theorem m_428 : Cond.instanceMethod y_OM_thread ∈ wt := wt_in 428 (by decide +kernel) (by rfl)
theorem m_429 : Cond.selects R_OM y_OM_thread y_OM_thread ∈ wt := wt_in 429 (by decide +kernel) (by rfl)
theorem m_1046 : Cond.methodLink R_law 17 y_Ref_thread ∈ wt := wt_in 1046 (by decide +kernel) (by rfl)
theorem m_1047 : Cond.instanceMethod y_Ref_thread ∈ wt := wt_in 1047 (by decide +kernel) (by rfl)
theorem m_1048 : Cond.selects R_Ref y_Ref_thread y_Ref_thread ∈ wt := wt_in 1048 (by decide +kernel) (by rfl)
theorem m_439 : Cond.methodLink R_law 18 y_OM_action ∈ wt := wt_in 439 (by decide +kernel) (by rfl)
theorem m_440 : Cond.instanceMethod y_OM_action ∈ wt := wt_in 440 (by decide +kernel) (by rfl)
theorem m_441 : Cond.selects R_OM y_OM_action y_OM_action ∈ wt := wt_in 441 (by decide +kernel) (by rfl)
theorem m_1054 : Cond.methodLink R_law 22 y_Ref_action ∈ wt := wt_in 1054 (by decide +kernel) (by rfl)
theorem m_1055 : Cond.instanceMethod y_Ref_action ∈ wt := wt_in 1055 (by decide +kernel) (by rfl)
theorem m_1056 : Cond.selects R_Ref y_Ref_action y_Ref_action ∈ wt := wt_in 1056 (by decide +kernel) (by rfl)
theorem m_450 : Cond.methodLink R_law 23 y_OM_clear ∈ wt := wt_in 450 (by decide +kernel) (by rfl)
theorem m_451 : Cond.instanceMethod y_OM_clear ∈ wt := wt_in 451 (by decide +kernel) (by rfl)
theorem m_452 : Cond.selects R_OM y_OM_clear y_OM_clear ∈ wt := wt_in 452 (by decide +kernel) (by rfl)
theorem m_1058 : Cond.methodLink R_law 26 y_Ref_clear ∈ wt := wt_in 1058 (by decide +kernel) (by rfl)
theorem m_1059 : Cond.instanceMethod y_Ref_clear ∈ wt := wt_in 1059 (by decide +kernel) (by rfl)
theorem m_1060 : Cond.selects R_Ref y_Ref_clear y_Ref_clear ∈ wt := wt_in 1060 (by decide +kernel) (by rfl)
theorem m_461 : Cond.methodLink R_law 27 y_OM_runs ∈ wt := wt_in 461 (by decide +kernel) (by rfl)
theorem m_462 : Cond.instanceMethod y_OM_runs ∈ wt := wt_in 462 (by decide +kernel) (by rfl)
theorem m_463 : Cond.selects R_OM y_OM_runs y_OM_runs ∈ wt := wt_in 463 (by decide +kernel) (by rfl)
theorem m_1062 : Cond.methodLink R_law 31 y_Ref_runs ∈ wt := wt_in 1062 (by decide +kernel) (by rfl)
theorem m_1063 : Cond.instanceMethod y_Ref_runs ∈ wt := wt_in 1063 (by decide +kernel) (by rfl)
theorem m_1064 : Cond.selects R_Ref y_Ref_runs y_Ref_runs ∈ wt := wt_in 1064 (by decide +kernel) (by rfl)
theorem m_716 : Cond.methodLink R_law 32 y_OM_outcome ∈ wt := wt_in 716 (by decide +kernel) (by rfl)
theorem m_717 : Cond.instanceMethod y_OM_outcome ∈ wt := wt_in 717 (by decide +kernel) (by rfl)
theorem m_718 : Cond.selects R_OM y_OM_outcome y_OM_outcome ∈ wt := wt_in 718 (by decide +kernel) (by rfl)
theorem m_1170 : Cond.methodLink R_law 36 y_Ref_outcome ∈ wt := wt_in 1170 (by decide +kernel) (by rfl)
theorem m_1171 : Cond.instanceMethod y_Ref_outcome ∈ wt := wt_in 1171 (by decide +kernel) (by rfl)
theorem m_1172 : Cond.selects R_Ref y_Ref_outcome y_Ref_outcome ∈ wt := wt_in 1172 (by decide +kernel) (by rfl)
theorem m_725 : Cond.methodLink R_law 37 y_OM_witness ∈ wt := wt_in 725 (by decide +kernel) (by rfl)
theorem m_726 : Cond.instanceMethod y_OM_witness ∈ wt := wt_in 726 (by decide +kernel) (by rfl)
theorem m_727 : Cond.selects R_OM y_OM_witness y_OM_witness ∈ wt := wt_in 727 (by decide +kernel) (by rfl)
theorem m_1178 : Cond.methodLink R_law 40 y_Ref_witness ∈ wt := wt_in 1178 (by decide +kernel) (by rfl)
theorem m_1179 : Cond.instanceMethod y_Ref_witness ∈ wt := wt_in 1179 (by decide +kernel) (by rfl)
theorem m_1180 : Cond.selects R_Ref y_Ref_witness y_Ref_witness ∈ wt := wt_in 1180 (by decide +kernel) (by rfl)
theorem m_733 : Cond.methodLink R_law 41 y_OM_orders ∈ wt := wt_in 733 (by decide +kernel) (by rfl)
theorem m_734 : Cond.instanceMethod y_OM_orders ∈ wt := wt_in 734 (by decide +kernel) (by rfl)
theorem m_735 : Cond.selects R_OM y_OM_orders y_OM_orders ∈ wt := wt_in 735 (by decide +kernel) (by rfl)
theorem m_1182 : Cond.methodLink R_law 44 y_Ref_orders ∈ wt := wt_in 1182 (by decide +kernel) (by rfl)
theorem m_1183 : Cond.instanceMethod y_Ref_orders ∈ wt := wt_in 1183 (by decide +kernel) (by rfl)
theorem m_1184 : Cond.selects R_Ref y_Ref_orders y_Ref_orders ∈ wt := wt_in 1184 (by decide +kernel) (by rfl)
theorem m_861 : Cond.methodLink R_law 45 y_OM_ordered ∈ wt := wt_in 861 (by decide +kernel) (by rfl)
theorem m_862 : Cond.instanceMethod y_OM_ordered ∈ wt := wt_in 862 (by decide +kernel) (by rfl)
theorem m_863 : Cond.selects R_OM y_OM_ordered y_OM_ordered ∈ wt := wt_in 863 (by decide +kernel) (by rfl)
theorem m_1272 : Cond.methodLink R_law 48 y_Ref_ordered ∈ wt := wt_in 1272 (by decide +kernel) (by rfl)
theorem m_1273 : Cond.instanceMethod y_Ref_ordered ∈ wt := wt_in 1273 (by decide +kernel) (by rfl)
theorem m_1274 : Cond.selects R_Ref y_Ref_ordered y_Ref_ordered ∈ wt := wt_in 1274 (by decide +kernel) (by rfl)
theorem m_865 : Cond.methodLink R_law 49 y_OM_graphs ∈ wt := wt_in 865 (by decide +kernel) (by rfl)
theorem m_866 : Cond.instanceMethod y_OM_graphs ∈ wt := wt_in 866 (by decide +kernel) (by rfl)
theorem m_867 : Cond.selects R_OM y_OM_graphs y_OM_graphs ∈ wt := wt_in 867 (by decide +kernel) (by rfl)
theorem m_1276 : Cond.methodLink R_law 52 y_Ref_graphs ∈ wt := wt_in 1276 (by decide +kernel) (by rfl)
theorem m_1277 : Cond.instanceMethod y_Ref_graphs ∈ wt := wt_in 1277 (by decide +kernel) (by rfl)
theorem m_1278 : Cond.selects R_Ref y_Ref_graphs y_Ref_graphs ∈ wt := wt_in 1278 (by decide +kernel) (by rfl)
theorem m_869 : Cond.methodLink R_law 53 y_OM_beyond ∈ wt := wt_in 869 (by decide +kernel) (by rfl)
theorem m_870 : Cond.instanceMethod y_OM_beyond ∈ wt := wt_in 870 (by decide +kernel) (by rfl)
theorem m_871 : Cond.selects R_OM y_OM_beyond y_OM_beyond ∈ wt := wt_in 871 (by decide +kernel) (by rfl)
theorem m_1280 : Cond.methodLink R_law 57 y_Ref_beyond ∈ wt := wt_in 1280 (by decide +kernel) (by rfl)
theorem m_1281 : Cond.instanceMethod y_Ref_beyond ∈ wt := wt_in 1281 (by decide +kernel) (by rfl)
theorem m_1282 : Cond.selects R_Ref y_Ref_beyond y_Ref_beyond ∈ wt := wt_in 1282 (by decide +kernel) (by rfl)
theorem m_877 : Cond.methodLink R_law 58 y_OM_races ∈ wt := wt_in 877 (by decide +kernel) (by rfl)
theorem m_878 : Cond.instanceMethod y_OM_races ∈ wt := wt_in 878 (by decide +kernel) (by rfl)
theorem m_879 : Cond.selects R_OM y_OM_races y_OM_races ∈ wt := wt_in 879 (by decide +kernel) (by rfl)
theorem m_1284 : Cond.methodLink R_law 61 y_Ref_races ∈ wt := wt_in 1284 (by decide +kernel) (by rfl)
theorem m_1285 : Cond.instanceMethod y_Ref_races ∈ wt := wt_in 1285 (by decide +kernel) (by rfl)
theorem m_1286 : Cond.selects R_Ref y_Ref_races y_Ref_races ∈ wt := wt_in 1286 (by decide +kernel) (by rfl)
theorem m_882 : Cond.methodLink R_law 62 y_OM_race ∈ wt := wt_in 882 (by decide +kernel) (by rfl)
theorem m_883 : Cond.instanceMethod y_OM_race ∈ wt := wt_in 883 (by decide +kernel) (by rfl)
theorem m_884 : Cond.selects R_OM y_OM_race y_OM_race ∈ wt := wt_in 884 (by decide +kernel) (by rfl)
theorem m_1292 : Cond.methodLink R_law 66 y_Ref_race ∈ wt := wt_in 1292 (by decide +kernel) (by rfl)
theorem m_1293 : Cond.instanceMethod y_Ref_race ∈ wt := wt_in 1293 (by decide +kernel) (by rfl)
theorem m_1294 : Cond.selects R_Ref y_Ref_race y_Ref_race ∈ wt := wt_in 1294 (by decide +kernel) (by rfl)
theorem m_114 : Cond.classLink R_law 7 R_OM ∈ wt := wt_in 114 (by decide +kernel) (by rfl)
theorem m_888 : Cond.classLink R_law 10 R_Ref ∈ wt := wt_in 888 (by decide +kernel) (by rfl)
theorem m_116 : Cond.methodLink R_law 9 y_OM_init ∈ wt := wt_in 116 (by decide +kernel) (by rfl)
theorem m_890 : Cond.methodLink R_law 12 y_Ref_init ∈ wt := wt_in 890 (by decide +kernel) (by rfl)
theorem m_117 : Cond.instanceMethod y_OM_init ∈ wt := wt_in 117 (by decide +kernel) (by rfl)
theorem m_891 : Cond.instanceMethod y_Ref_init ∈ wt := wt_in 891 (by decide +kernel) (by rfl)
/-- two worlds apart -/
def DJ9 (ws vs : va_W) : Prop := ∀ (i j : Nat) (p q : Nat × va_E), ws[i]? = some p → vs[j]? = some q → p.1 ≠ q.1
/-- both worlds on one heap -/
def BW9 (dC : Nat → ClassId) (dI : Nat → Nat → Nat) (ra : Nat) (rA : Nat → Nat) (rK9 : Nat → ClassId) (A : Nat → Prop) (s : State) (S : CX9) (R : RX9) (H : Heap) : Prop := va_P (dC, dI) classes (cw9 S) H ∧ va_P (dC, dI) classes (rw9 ra rA rK9 R) H ∧ va_K (dC, dI) classes (ct9 S) s ∧ va_K (dC, dI) classes (rt9 rK9) s ∧ va_D A (cw9 S) ∧ va_D A (rw9 ra rA rK9 R) ∧ DJ9 (cw9 S) (rw9 ra rA rK9 R)
theorem BW_c {l : Launch} {dC : Nat → ClassId} {dI : Nat → Nat → Nat} {ra : Nat} {rA : Nat → Nat} {rK9 : Nat → ClassId} {A : Nat → Prop} {s t : State} {S S2 : CX9} {R : RX9} {H H1 : Heap} (h : BW9 dC dI ra rA rK9 A s S R H) (hF : ∀ q, va_A (cw9 S) H.size q → A q) (hB : PW9 l dC dI S H.size S2 t) (ht : t.heap = H1) (hvm : s.vm.Alike t.vm) (hk : ∀ q : Nat, q < H.size → ¬ va_A (cw9 S) H.size q → H1[q]? = H[q]?) : BW9 dC dI ra rA rK9 A s S2 R H1 := by
  obtain ⟨hP, hPr, hK, hKr, hD, hDr, hdj⟩ := h
  obtain ⟨n1, n2, n3⟩ := oN9 hK hF hB ht hvm
  have ap : ∀ (k : Nat) (q : Nat × va_E), (rw9 ra rA rK9 R)[k]? = some q → ¬ va_A (cw9 S) H.size q.1 := fun k q hq z => by
    rcases z with ⟨k2, e, w⟩ | w
    · exact hdj k2 k (q.1, e) q w hq rfl
    · exact absurd (hPr k q hq).lt (Nat.not_lt.mpr w)
  refine ⟨n1, hPr.kept (fun k q hq => hk q.1 (hPr k q hq).lt (ap k q hq)), n2, hKr, n3, hDr, fun i j p q hp hq e => ?_⟩
  have := hB.2.2.2 i p hp
  rw [e] at this
  exact ap j q hq this
theorem BW_r {dC : Nat → ClassId} {dI : Nat → Nat → Nat} {ra : Nat} {rA : Nat → Nat} {rK9 : Nat → ClassId} {A : Nat → Prop} {s t : State} {S : CX9} {R R2 : RX9} {H H1 : Heap} (h : BW9 dC dI ra rA rK9 A s S R H) (hF : ∀ q, va_A (rw9 ra rA rK9 R) H.size q → A q) (hB : PR9 dC dI ra rA rK9 R H.size R2 t) (ht : t.heap = H1) (hk : ∀ q : Nat, q < H.size → ¬ va_A (rw9 ra rA rK9 R) H.size q → H1[q]? = H[q]?) : BW9 dC dI ra rA rK9 A s S R2 H1 := by
  obtain ⟨hP, hPr, hK, hKr, hD, hDr, hdj⟩ := h
  obtain ⟨n1, n3⟩ := oNr9 hF hB ht
  have ap : ∀ (k : Nat) (q : Nat × va_E), (cw9 S)[k]? = some q → ¬ va_A (rw9 ra rA rK9 R) H.size q.1 := fun k q hq z => by
    rcases z with ⟨k2, e, w⟩ | w
    · exact hdj k k2 q (q.1, e) hq w rfl
    · exact absurd (hP k q hq).lt (Nat.not_lt.mpr w)
  refine ⟨hP.kept (fun k q hq => hk q.1 (hP k q hq).lt (ap k q hq)), n1, hK, hKr, hD, n3, fun i j p q hp hq e => ?_⟩
  have := hB.2.2 j q hq
  rw [← e] at this
  exact ap i p hp this
/-- what the law's walk stands on -/
def LC9 (p : Program) (s : State) (m : MethodId) (c : Code) (b L : Nat) (xs : Nat → Int32) (A : Nat → Prop) : Prop := p.tables.exec = Jvm.exec ∧ c.code = code ∧ c.maxLocals = 4 ∧ s.vm.findClass R_law = some m.cls ∧ (∀ w ∈ wt, w.before #[Value.ref b] s = true) ∧ va_X b L xs s s.heap ∧ b < s.heap.size ∧ (∀ q, s.heap.size ≤ q → A q) ∧ ¬ A b ∧ nw s
section LAWC
variable {p : Program} {e : Env} {s : State} {m : MethodId} {below : List Frame} {meth : Method} {c : Code} {l : Launch} {b L i kc ns : Nat} {xs : Nat → Int32} {A : Nat → Prop} {dC : Nat → ClassId} {dI : Nat → Nat → Nat} {ra : Nat} {rA : Nat → Nat} {rK9 : Nat → ClassId} {S : CX9} {R : RX9} {H : Heap} {locs : List Loc} {ls : Array Slot} {Q : State → Prop}
theorem lw_cC (hC : LC9 p s m c b L xs A) (hls : ls.size = 4) (hBW : BW9 dC dI ra rA rK9 A s S R H) (hS : va_S A s.heap H locs) {y : MethodName} {w : List Cond} {av : List Value} {cc sl : Nat} {GC : Int32 → CX9 → Prop} (hM : MC9 l dC dI y w av S cc sl GC) {index maxL n pc : Nat} {bytes : ByteArray} (cw : CallW room_1 s #[Value.ref b] R_law R_OM index y bytes maxL (some .int) w ({ frames := 104, cells := cc, slots := sl, locals := 5200 }) cc sl n) (hav : av.length = n) (hdg : decode code pc = .ok (.invokevirtual index, 3)) (hf : kc + cc ≤ 600000 ∧ ns + sl ≤ 7302250)
    (kk : ∀ r S2 H1 locs1, GC r S2 → BW9 dC dI ra rA rK9 A s S2 R H1 → va_S A s.heap H1 locs1 → W p l e room_1 s m #[Value.ref b] below meth c H1 locs1 (kc + cc) (ns + sl) Q (F0 m (pc + 3) ls [.int r])) : W p l e room_1 s m #[Value.ref b] below meth c H locs kc ns Q (F0 m pc ls (av.reverse ++ [.ref (x_oa S)])) := by
  obtain ⟨hx, hb, hml, hown, hw, hX, hbl, hA, hbA, hn⟩ := hC
  obtain ⟨hP, hPr, hK, hKr, hD, hDr, hdj⟩ := id hBW
  have hFc := oF9 hD hS hA
  refine va_calli (va_runV (As := av) (rest := []) ⟨hx, hb, hml, hown, hw⟩ (hM H.size) cw ⟨fun a U g mk q => by obtain ⟨q0, q1, qP, qK, qD, qN⟩ := q; exact ⟨q0, q1, qP, va_K.moved (u := U) (U := U.calling g mk a) (Vm.Alike.refl U.vm) qK, qD, nw_call qN⟩, va_recv hK hP (ci := 7) (q0 := 0) rfl rfl, fun U hU hW => ⟨rfl, by rw [hU], by rw [hU]; exact hP, va_K.moved hW.alike hK, hD.weaken (fun _ _ _ _ => trivial), nw_warm hW hn⟩⟩ rfl hav hls rfl (lv_room (Nat.le_of_ble_eq_true rfl)) hdg hf) hS (fun q _ h => hFc q h) hFc ?_
  intro r S2 t H1 locs1 ht hvm hG hB hz1 hk1 hS1
  exact kk r S2 H1 locs1 hG (BW_c hBW hFc hB ht hvm hk1) hS1
theorem lw_cR (hC : LC9 p s m c b L xs A) (hls : ls.size = 4) (hBW : BW9 dC dI ra rA rK9 A s S R H) (hS : va_S A s.heap H locs) {y : MethodName} {w : List Cond} {av : List Value} {GR : Int32 → RX9 → Prop} (hM : MR9 l dC dI ra rA rK9 y w av R GR) {index maxL n pc : Nat} {bytes : ByteArray} {r1 : Int32} (cw : CallW room_1 s #[Value.ref b] R_law R_Ref index y bytes maxL (some .int) w ({ frames := 70, cells := 0, slots := 0, locals := 3400 }) 0 0 n) (hav : av.length = n) (hdg : decode code pc = .ok (.invokevirtual index, 3)) (hf : kc + 0 ≤ 600000 ∧ ns + 0 ≤ 7302250)
    (kk : ∀ r R2 H1 locs1, GR r R2 → BW9 dC dI ra rA rK9 A s S R2 H1 → va_S A s.heap H1 locs1 → W p l e room_1 s m #[Value.ref b] below meth c H1 locs1 kc ns Q (F0 m (pc + 3) ls [.int r, .int r1])) : W p l e room_1 s m #[Value.ref b] below meth c H locs kc ns Q (F0 m pc ls (av.reverse ++ [.ref ra, .int r1])) := by
  obtain ⟨hx, hb, hml, hown, hw, hX, hbl, hA, hbA, hn⟩ := hC
  obtain ⟨hP, hPr, hK, hKr, hD, hDr, hdj⟩ := id hBW
  have hFc := oF9 hDr hS hA
  refine va_calli (va_runV (As := av) (rest := [.int r1]) ⟨hx, hb, hml, hown, hw⟩ (hM H.size) cw ⟨fun a U g mk q => by obtain ⟨q0, q1, qP, qK, qD, qN⟩ := q; exact ⟨q0, q1, qP, va_K.moved (u := U) (U := U.calling g mk a) (Vm.Alike.refl U.vm) qK, qD, nw_call qN⟩, va_recv hKr hPr (ci := 8) (q0 := 0) rfl rfl, fun U hU hW => ⟨rfl, by rw [hU], by rw [hU]; exact hPr, va_K.moved hW.alike hKr, hDr.weaken (fun _ _ _ _ => trivial), nw_warm hW hn⟩⟩ rfl hav hls rfl (lv_room (Nat.le_of_ble_eq_true rfl)) hdg hf) hS (fun q _ h => hFc q h) hFc ?_
  intro r R2 t H1 locs1 ht hvm hG hB hz1 hk1 hS1
  exact kk r R2 H1 locs1 hG (BW_r hBW hFc hB ht hk1) hS1
/-- what is asked of the rest of the law behind a step, and what a step gives -/
def LK9 (p : Program) (l : Launch) (e : Env) (s : State) (m : MethodId) (below : List Frame) (meth : Method) (c : Code) (b : Nat) (A : Nat → Prop) (dC : Nat → ClassId) (dI : Nat → Nat → Nat) (ra : Nat) (rA : Nat → Nat) (rK9 : Nat → ClassId) (oa : Nat) (Q : State → Prop) (ls : Array Slot) : Prop :=
  ∀ S2 R2 H2 locs2 kc2 ns2, JV9 S2 R2 → x_oa S2 = oa → BW9 dC dI ra rA rK9 A s S2 R2 H2 → va_S A s.heap H2 locs2 → 4 * kc2 ≤ 520 + pc9 S2 → ns2 ≤ 2165938 + ps9 S2 → W p l e room_1 s m #[Value.ref b] below meth c H2 locs2 kc2 ns2 Q (F0 m 482 ls [])
end LAWC
