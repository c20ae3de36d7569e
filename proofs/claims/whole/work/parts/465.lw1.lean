section LAWD
variable {p : Program} {e : Env} {s : State} {m : MethodId} {below : List Frame} {meth : Method} {c : Code} {l : Launch} {b L i kc ns : Nat} {xs : Nat → Int32} {A : Nat → Prop} {dC : Nat → ClassId} {dI : Nat → Nat → Nat} {ra : Nat} {rA : Nat → Nat} {rK9 : Nat → ClassId} {S : CX9} {R : RX9} {H : Heap} {locs : List Loc} {ls : Array Slot} {Q : State → Prop}
set_option maxHeartbeats 4000000 in
set_option maxRecDepth 100000 in
theorem law_thread (hC : LC9 p s m c b L xs A) (hL : L ≤ 3072) (hi : i + 6 ≤ L) (hJ : JV9 S R) (hBW : BW9 dC dI ra rA rK9 A s S R H) (hS : va_S A s.heap H locs) (hl : lv_has ls 4 [(3, .int (nI i)), (2, .ref ra), (1, .ref (x_oa S)), (0, .ref b)]) (hk4 : 4 * kc ≤ 520 + pc9 S) (hs4 : ns ≤ 2165938 + ps9 S) (ih : LK9 p l e s m below meth c b A dC dI ra rA rK9 (x_oa S) Q ls) : W p l e room_1 s m #[Value.ref b] below meth c H locs kc ns Q (F0 m 96 ls []) := by
  obtain ⟨hx, hb, hml, hown, hw, hX, hbl, hA, hbA, hn⟩ := id hC
  obtain ⟨cc, sl, GC, GR, hMC, hMR, ⟨hb1, hb2⟩, hUJ⟩ : UP9 l dC dI ra rA rK9 y_OM_thread w_OM_thread y_Ref_thread w_Ref_thread [] S R := U_thread hJ
  refine lv_aload_n hx hb d_law_law_96 rfl (lv_at hl 2 rfl) ?_
  refine lw_cC (av := []) hC hl.1 hBW hS hMC (cw_V 0 hw g_OM_thread rfl rfl rfl (hw _ m_101) (hw _ m_427) (hw _ m_428) (hw _ m_429) (by decide +kernel) ⟨Nat.le_of_ble_eq_true rfl, Nat.le_of_ble_eq_true rfl⟩) rfl d_law_law_97 ⟨by omega, by omega⟩ ?_
  clear hS hBW
  intro r1 S2 H1 locs1 hG1 hBW hS
  refine tp_pc (pc' := 100) (by rfl) ?_
  refine lv_aload_n hx hb d_law_law_100 rfl (lv_at hl 1 rfl) ?_
  refine lw_cR (av := []) (r1 := r1) hC hl.1 hBW hS hMR (cw_V 0 hw g_Ref_thread rfl rfl rfl (hw _ m_109) (hw _ m_1046) (hw _ m_1047) (hw _ m_1048) (by decide +kernel) ⟨Nat.le_of_ble_eq_true rfl, Nat.le_of_ble_eq_true rfl⟩) rfl d_law_law_101 ⟨by omega, by omega⟩ ?_
  clear hS hBW
  intro r2 R2 H2 locs2 hG2 hBW hS
  obtain ⟨er, hJ2, c1, c2, eo⟩ := hUJ r1 S2 r2 R2 hG1 hG2
  refine tp_pc (pc' := 104) (by rfl) ?_
  refine lv_icmp_eq (tgt := 482) hx hb d_law_law_104 (by decide) (fun _ => ?_) (fun c9 => absurd er c9)
  refine tp_pc (pc' := 482) (by rfl) ?_
  exact ih S2 R2 H2 locs2 (kc + cc) (ns + sl) hJ2 eo hBW hS (by omega) (by omega)
set_option maxHeartbeats 4000000 in
set_option maxRecDepth 100000 in
theorem law_action (hC : LC9 p s m c b L xs A) (hL : L ≤ 3072) (hi : i + 6 ≤ L) (hJ : JV9 S R) (hBW : BW9 dC dI ra rA rK9 A s S R H) (hS : va_S A s.heap H locs) (hl : lv_has ls 4 [(3, .int (nI i)), (2, .ref ra), (1, .ref (x_oa S)), (0, .ref b)]) (hk4 : 4 * kc ≤ 520 + pc9 S) (hs4 : ns ≤ 2165938 + ps9 S) (ih : LK9 p l e s m below meth c b A dC dI ra rA rK9 (x_oa S) Q ls) : W p l e room_1 s m #[Value.ref b] below meth c H locs kc ns Q (F0 m 109 ls []) := by
  obtain ⟨hx, hb, hml, hown, hw, hX, hbl, hA, hbA, hn⟩ := id hC
  obtain ⟨cc, sl, GC, GR, hMC, hMR, ⟨hb1, hb2⟩, hUJ⟩ : UP9 l dC dI ra rA rK9 y_OM_action w_OM_action y_Ref_action w_Ref_action [.int (xs (i + 1)), .int (xs (i + 2)), .int (xs (i + 3)), .int (xs (i + 4)), .int (xs (i + 5))] S R := U_action hJ
  refine lv_aload_n hx hb d_law_law_109 rfl (lv_at hl 2 rfl) ?_
  refine lv_aload_n hx hb d_law_law_110 rfl (lv_at hl 3 rfl) ?_
  refine lv_iload_n hx hb d_law_law_111 rfl (lv_at hl 0 rfl) ?_
  refine lv_iconst (v := 1) hx hb d_law_law_112 (by decide) ?_
  refine lv_iadd hx hb d_law_law_113 ?_
  refine tp_i (y := nI (i + 1)) (by exact nI_add i 1) ?_
  refine va_sld hx hb hX hbl hbA hS (i := nI (i + 1)) (pk_in (i + 1) L (by omega)) d_law_law_114 ?_
  refine tp_i (y := xs (i + 1)) (by rw [show (nI (i + 1) : Int32).toNatClampNeg = i + 1 from pk_cl (i + 1)]) ?_
  refine lv_aload_n hx hb d_law_law_115 rfl (lv_at hl 3 rfl) ?_
  refine lv_iload_n hx hb d_law_law_116 rfl (lv_at hl 0 rfl) ?_
  refine lv_iconst (v := 2) hx hb d_law_law_117 (by decide) ?_
  refine lv_iadd hx hb d_law_law_118 ?_
  refine tp_i (y := nI (i + 2)) (by exact nI_add i 2) ?_
  refine va_sld hx hb hX hbl hbA hS (i := nI (i + 2)) (pk_in (i + 2) L (by omega)) d_law_law_119 ?_
  refine tp_i (y := xs (i + 2)) (by rw [show (nI (i + 2) : Int32).toNatClampNeg = i + 2 from pk_cl (i + 2)]) ?_
  refine lv_aload_n hx hb d_law_law_120 rfl (lv_at hl 3 rfl) ?_
  refine lv_iload_n hx hb d_law_law_121 rfl (lv_at hl 0 rfl) ?_
  refine lv_iconst (v := 3) hx hb d_law_law_122 (by decide) ?_
  refine lv_iadd hx hb d_law_law_123 ?_
  refine tp_i (y := nI (i + 3)) (by exact nI_add i 3) ?_
  refine va_sld hx hb hX hbl hbA hS (i := nI (i + 3)) (pk_in (i + 3) L (by omega)) d_law_law_124 ?_
  refine tp_i (y := xs (i + 3)) (by rw [show (nI (i + 3) : Int32).toNatClampNeg = i + 3 from pk_cl (i + 3)]) ?_
  refine lv_aload_n hx hb d_law_law_125 rfl (lv_at hl 3 rfl) ?_
  refine lv_iload_n hx hb d_law_law_126 rfl (lv_at hl 0 rfl) ?_
  refine lv_iconst (v := 4) hx hb d_law_law_127 (by decide) ?_
  refine lv_iadd hx hb d_law_law_128 ?_
  refine tp_i (y := nI (i + 4)) (by exact nI_add i 4) ?_
  refine va_sld hx hb hX hbl hbA hS (i := nI (i + 4)) (pk_in (i + 4) L (by omega)) d_law_law_129 ?_
  refine tp_i (y := xs (i + 4)) (by rw [show (nI (i + 4) : Int32).toNatClampNeg = i + 4 from pk_cl (i + 4)]) ?_
  refine lv_aload_n hx hb d_law_law_130 rfl (lv_at hl 3 rfl) ?_
  refine lv_iload_n hx hb d_law_law_131 rfl (lv_at hl 0 rfl) ?_
  refine lv_iconst (v := 5) hx hb d_law_law_132 (by decide) ?_
  refine lv_iadd hx hb d_law_law_133 ?_
  refine tp_i (y := nI (i + 5)) (by exact nI_add i 5) ?_
  refine va_sld hx hb hX hbl hbA hS (i := nI (i + 5)) (pk_in (i + 5) L (by omega)) d_law_law_134 ?_
  refine tp_i (y := xs (i + 5)) (by rw [show (nI (i + 5) : Int32).toNatClampNeg = i + 5 from pk_cl (i + 5)]) ?_
  refine lw_cC (av := [.int (xs (i + 1)), .int (xs (i + 2)), .int (xs (i + 3)), .int (xs (i + 4)), .int (xs (i + 5))]) hC hl.1 hBW hS hMC (cw_V 5 hw g_OM_action rfl rfl rfl (hw _ m_101) (hw _ m_439) (hw _ m_440) (hw _ m_441) (by decide +kernel) ⟨Nat.le_of_ble_eq_true rfl, Nat.le_of_ble_eq_true rfl⟩) rfl d_law_law_135 ⟨by omega, by omega⟩ ?_
  clear hS hBW
  intro r1 S2 H1 locs1 hG1 hBW hS
  refine tp_pc (pc' := 138) (by rfl) ?_
  refine lv_aload_n hx hb d_law_law_138 rfl (lv_at hl 1 rfl) ?_
  refine lv_aload_n hx hb d_law_law_139 rfl (lv_at hl 3 rfl) ?_
  refine lv_iload_n hx hb d_law_law_140 rfl (lv_at hl 0 rfl) ?_
  refine lv_iconst (v := 1) hx hb d_law_law_141 (by decide) ?_
  refine lv_iadd hx hb d_law_law_142 ?_
  refine tp_i (y := nI (i + 1)) (by exact nI_add i 1) ?_
  refine va_sld hx hb hX hbl hbA hS (i := nI (i + 1)) (pk_in (i + 1) L (by omega)) d_law_law_143 ?_
  refine tp_i (y := xs (i + 1)) (by rw [show (nI (i + 1) : Int32).toNatClampNeg = i + 1 from pk_cl (i + 1)]) ?_
  refine lv_aload_n hx hb d_law_law_144 rfl (lv_at hl 3 rfl) ?_
  refine lv_iload_n hx hb d_law_law_145 rfl (lv_at hl 0 rfl) ?_
  refine lv_iconst (v := 2) hx hb d_law_law_146 (by decide) ?_
  refine lv_iadd hx hb d_law_law_147 ?_
  refine tp_i (y := nI (i + 2)) (by exact nI_add i 2) ?_
  refine va_sld hx hb hX hbl hbA hS (i := nI (i + 2)) (pk_in (i + 2) L (by omega)) d_law_law_148 ?_
  refine tp_i (y := xs (i + 2)) (by rw [show (nI (i + 2) : Int32).toNatClampNeg = i + 2 from pk_cl (i + 2)]) ?_
  refine lv_aload_n hx hb d_law_law_149 rfl (lv_at hl 3 rfl) ?_
  refine lv_iload_n hx hb d_law_law_150 rfl (lv_at hl 0 rfl) ?_
  refine lv_iconst (v := 3) hx hb d_law_law_151 (by decide) ?_
  refine lv_iadd hx hb d_law_law_152 ?_
  refine tp_i (y := nI (i + 3)) (by exact nI_add i 3) ?_
  refine va_sld hx hb hX hbl hbA hS (i := nI (i + 3)) (pk_in (i + 3) L (by omega)) d_law_law_153 ?_
  refine tp_i (y := xs (i + 3)) (by rw [show (nI (i + 3) : Int32).toNatClampNeg = i + 3 from pk_cl (i + 3)]) ?_
  refine lv_aload_n hx hb d_law_law_154 rfl (lv_at hl 3 rfl) ?_
  refine lv_iload_n hx hb d_law_law_155 rfl (lv_at hl 0 rfl) ?_
  refine lv_iconst (v := 4) hx hb d_law_law_156 (by decide) ?_
  refine lv_iadd hx hb d_law_law_157 ?_
  refine tp_i (y := nI (i + 4)) (by exact nI_add i 4) ?_
  refine va_sld hx hb hX hbl hbA hS (i := nI (i + 4)) (pk_in (i + 4) L (by omega)) d_law_law_158 ?_
  refine tp_i (y := xs (i + 4)) (by rw [show (nI (i + 4) : Int32).toNatClampNeg = i + 4 from pk_cl (i + 4)]) ?_
  refine lv_aload_n hx hb d_law_law_159 rfl (lv_at hl 3 rfl) ?_
  refine lv_iload_n hx hb d_law_law_160 rfl (lv_at hl 0 rfl) ?_
  refine lv_iconst (v := 5) hx hb d_law_law_161 (by decide) ?_
  refine lv_iadd hx hb d_law_law_162 ?_
  refine tp_i (y := nI (i + 5)) (by exact nI_add i 5) ?_
  refine va_sld hx hb hX hbl hbA hS (i := nI (i + 5)) (pk_in (i + 5) L (by omega)) d_law_law_163 ?_
  refine tp_i (y := xs (i + 5)) (by rw [show (nI (i + 5) : Int32).toNatClampNeg = i + 5 from pk_cl (i + 5)]) ?_
  refine lw_cR (av := [.int (xs (i + 1)), .int (xs (i + 2)), .int (xs (i + 3)), .int (xs (i + 4)), .int (xs (i + 5))]) (r1 := r1) hC hl.1 hBW hS hMR (cw_V 5 hw g_Ref_action rfl rfl rfl (hw _ m_109) (hw _ m_1054) (hw _ m_1055) (hw _ m_1056) (by decide +kernel) ⟨Nat.le_of_ble_eq_true rfl, Nat.le_of_ble_eq_true rfl⟩) rfl d_law_law_164 ⟨by omega, by omega⟩ ?_
  clear hS hBW
  intro r2 R2 H2 locs2 hG2 hBW hS
  obtain ⟨er, hJ2, c1, c2, eo⟩ := hUJ r1 S2 r2 R2 hG1 hG2
  refine tp_pc (pc' := 167) (by rfl) ?_
  refine lv_icmp_eq (tgt := 482) hx hb d_law_law_167 (by decide) (fun _ => ?_) (fun c9 => absurd er c9)
  refine tp_pc (pc' := 482) (by rfl) ?_
  exact ih S2 R2 H2 locs2 (kc + cc) (ns + sl) hJ2 eo hBW hS (by omega) (by omega)
set_option maxHeartbeats 4000000 in
set_option maxRecDepth 100000 in
theorem law_clear (hC : LC9 p s m c b L xs A) (hL : L ≤ 3072) (hi : i + 6 ≤ L) (hJ : JV9 S R) (hBW : BW9 dC dI ra rA rK9 A s S R H) (hS : va_S A s.heap H locs) (hl : lv_has ls 4 [(3, .int (nI i)), (2, .ref ra), (1, .ref (x_oa S)), (0, .ref b)]) (hk4 : 4 * kc ≤ 520 + pc9 S) (hs4 : ns ≤ 2165938 + ps9 S) (ih : LK9 p l e s m below meth c b A dC dI ra rA rK9 (x_oa S) Q ls) : W p l e room_1 s m #[Value.ref b] below meth c H locs kc ns Q (F0 m 172 ls []) := by
  obtain ⟨hx, hb, hml, hown, hw, hX, hbl, hA, hbA, hn⟩ := id hC
  obtain ⟨cc, sl, GC, GR, hMC, hMR, ⟨hb1, hb2⟩, hUJ⟩ : UP9 l dC dI ra rA rK9 y_OM_clear w_OM_clear y_Ref_clear w_Ref_clear [] S R := U_clear hJ
  refine lv_aload_n hx hb d_law_law_172 rfl (lv_at hl 2 rfl) ?_
  refine lw_cC (av := []) hC hl.1 hBW hS hMC (cw_V 0 hw g_OM_clear rfl rfl rfl (hw _ m_101) (hw _ m_450) (hw _ m_451) (hw _ m_452) (by decide +kernel) ⟨Nat.le_of_ble_eq_true rfl, Nat.le_of_ble_eq_true rfl⟩) rfl d_law_law_173 ⟨by omega, by omega⟩ ?_
  clear hS hBW
  intro r1 S2 H1 locs1 hG1 hBW hS
  refine tp_pc (pc' := 176) (by rfl) ?_
  refine lv_aload_n hx hb d_law_law_176 rfl (lv_at hl 1 rfl) ?_
  refine lw_cR (av := []) (r1 := r1) hC hl.1 hBW hS hMR (cw_V 0 hw g_Ref_clear rfl rfl rfl (hw _ m_109) (hw _ m_1058) (hw _ m_1059) (hw _ m_1060) (by decide +kernel) ⟨Nat.le_of_ble_eq_true rfl, Nat.le_of_ble_eq_true rfl⟩) rfl d_law_law_177 ⟨by omega, by omega⟩ ?_
  clear hS hBW
  intro r2 R2 H2 locs2 hG2 hBW hS
  obtain ⟨er, hJ2, c1, c2, eo⟩ := hUJ r1 S2 r2 R2 hG1 hG2
  refine tp_pc (pc' := 180) (by rfl) ?_
  refine lv_icmp_eq (tgt := 482) hx hb d_law_law_180 (by decide) (fun _ => ?_) (fun c9 => absurd er c9)
  refine tp_pc (pc' := 482) (by rfl) ?_
  exact ih S2 R2 H2 locs2 (kc + cc) (ns + sl) hJ2 eo hBW hS (by omega) (by omega)
set_option maxHeartbeats 4000000 in
set_option maxRecDepth 100000 in
theorem law_runs (hC : LC9 p s m c b L xs A) (hL : L ≤ 3072) (hi : i + 6 ≤ L) (hJ : JV9 S R) (hBW : BW9 dC dI ra rA rK9 A s S R H) (hS : va_S A s.heap H locs) (hl : lv_has ls 4 [(3, .int (nI i)), (2, .ref ra), (1, .ref (x_oa S)), (0, .ref b)]) (hk4 : 4 * kc ≤ 520 + pc9 S) (hs4 : ns ≤ 2165938 + ps9 S) (ih : LK9 p l e s m below meth c b A dC dI ra rA rK9 (x_oa S) Q ls) : W p l e room_1 s m #[Value.ref b] below meth c H locs kc ns Q (F0 m 185 ls []) := by
  obtain ⟨hx, hb, hml, hown, hw, hX, hbl, hA, hbA, hn⟩ := id hC
  obtain ⟨cc, sl, GC, GR, hMC, hMR, ⟨hb1, hb2⟩, hUJ⟩ : UP9 l dC dI ra rA rK9 y_OM_runs w_OM_runs y_Ref_runs w_Ref_runs [.int (xs (i + 1))] S R := U_runs hJ
  refine lv_aload_n hx hb d_law_law_185 rfl (lv_at hl 2 rfl) ?_
  refine lv_aload_n hx hb d_law_law_186 rfl (lv_at hl 3 rfl) ?_
  refine lv_iload_n hx hb d_law_law_187 rfl (lv_at hl 0 rfl) ?_
  refine lv_iconst (v := 1) hx hb d_law_law_188 (by decide) ?_
  refine lv_iadd hx hb d_law_law_189 ?_
  refine tp_i (y := nI (i + 1)) (by exact nI_add i 1) ?_
  refine va_sld hx hb hX hbl hbA hS (i := nI (i + 1)) (pk_in (i + 1) L (by omega)) d_law_law_190 ?_
  refine tp_i (y := xs (i + 1)) (by rw [show (nI (i + 1) : Int32).toNatClampNeg = i + 1 from pk_cl (i + 1)]) ?_
  refine lw_cC (av := [.int (xs (i + 1))]) hC hl.1 hBW hS hMC (cw_V 1 hw g_OM_runs rfl rfl rfl (hw _ m_101) (hw _ m_461) (hw _ m_462) (hw _ m_463) (by decide +kernel) ⟨Nat.le_of_ble_eq_true rfl, Nat.le_of_ble_eq_true rfl⟩) rfl d_law_law_191 ⟨by omega, by omega⟩ ?_
  clear hS hBW
  intro r1 S2 H1 locs1 hG1 hBW hS
  refine tp_pc (pc' := 194) (by rfl) ?_
  refine lv_aload_n hx hb d_law_law_194 rfl (lv_at hl 1 rfl) ?_
  refine lv_aload_n hx hb d_law_law_195 rfl (lv_at hl 3 rfl) ?_
  refine lv_iload_n hx hb d_law_law_196 rfl (lv_at hl 0 rfl) ?_
  refine lv_iconst (v := 1) hx hb d_law_law_197 (by decide) ?_
  refine lv_iadd hx hb d_law_law_198 ?_
  refine tp_i (y := nI (i + 1)) (by exact nI_add i 1) ?_
  refine va_sld hx hb hX hbl hbA hS (i := nI (i + 1)) (pk_in (i + 1) L (by omega)) d_law_law_199 ?_
  refine tp_i (y := xs (i + 1)) (by rw [show (nI (i + 1) : Int32).toNatClampNeg = i + 1 from pk_cl (i + 1)]) ?_
  refine lw_cR (av := [.int (xs (i + 1))]) (r1 := r1) hC hl.1 hBW hS hMR (cw_V 1 hw g_Ref_runs rfl rfl rfl (hw _ m_109) (hw _ m_1062) (hw _ m_1063) (hw _ m_1064) (by decide +kernel) ⟨Nat.le_of_ble_eq_true rfl, Nat.le_of_ble_eq_true rfl⟩) rfl d_law_law_200 ⟨by omega, by omega⟩ ?_
  clear hS hBW
  intro r2 R2 H2 locs2 hG2 hBW hS
  obtain ⟨er, hJ2, c1, c2, eo⟩ := hUJ r1 S2 r2 R2 hG1 hG2
  refine tp_pc (pc' := 203) (by rfl) ?_
  refine lv_icmp_eq (tgt := 482) hx hb d_law_law_203 (by decide) (fun _ => ?_) (fun c9 => absurd er c9)
  refine tp_pc (pc' := 482) (by rfl) ?_
  exact ih S2 R2 H2 locs2 (kc + cc) (ns + sl) hJ2 eo hBW hS (by omega) (by omega)
set_option maxHeartbeats 4000000 in
set_option maxRecDepth 100000 in
theorem law_outcome (hC : LC9 p s m c b L xs A) (hL : L ≤ 3072) (hi : i + 6 ≤ L) (hJ : JV9 S R) (hBW : BW9 dC dI ra rA rK9 A s S R H) (hS : va_S A s.heap H locs) (hl : lv_has ls 4 [(3, .int (nI i)), (2, .ref ra), (1, .ref (x_oa S)), (0, .ref b)]) (hk4 : 4 * kc ≤ 520 + pc9 S) (hs4 : ns ≤ 2165938 + ps9 S) (ih : LK9 p l e s m below meth c b A dC dI ra rA rK9 (x_oa S) Q ls) : W p l e room_1 s m #[Value.ref b] below meth c H locs kc ns Q (F0 m 208 ls []) := by
  obtain ⟨hx, hb, hml, hown, hw, hX, hbl, hA, hbA, hn⟩ := id hC
  obtain ⟨cc, sl, GC, GR, hMC, hMR, ⟨hb1, hb2⟩, hUJ⟩ : UP9 l dC dI ra rA rK9 y_OM_outcome w_OM_outcome y_Ref_outcome w_Ref_outcome [.int (xs (i + 1)), .int (xs (i + 2)), .int (xs (i + 3))] S R := U_outcome hJ
  refine lv_aload_n hx hb d_law_law_208 rfl (lv_at hl 2 rfl) ?_
  refine lv_aload_n hx hb d_law_law_209 rfl (lv_at hl 3 rfl) ?_
  refine lv_iload_n hx hb d_law_law_210 rfl (lv_at hl 0 rfl) ?_
  refine lv_iconst (v := 1) hx hb d_law_law_211 (by decide) ?_
  refine lv_iadd hx hb d_law_law_212 ?_
  refine tp_i (y := nI (i + 1)) (by exact nI_add i 1) ?_
  refine va_sld hx hb hX hbl hbA hS (i := nI (i + 1)) (pk_in (i + 1) L (by omega)) d_law_law_213 ?_
  refine tp_i (y := xs (i + 1)) (by rw [show (nI (i + 1) : Int32).toNatClampNeg = i + 1 from pk_cl (i + 1)]) ?_
  refine lv_aload_n hx hb d_law_law_214 rfl (lv_at hl 3 rfl) ?_
  refine lv_iload_n hx hb d_law_law_215 rfl (lv_at hl 0 rfl) ?_
  refine lv_iconst (v := 2) hx hb d_law_law_216 (by decide) ?_
  refine lv_iadd hx hb d_law_law_217 ?_
  refine tp_i (y := nI (i + 2)) (by exact nI_add i 2) ?_
  refine va_sld hx hb hX hbl hbA hS (i := nI (i + 2)) (pk_in (i + 2) L (by omega)) d_law_law_218 ?_
  refine tp_i (y := xs (i + 2)) (by rw [show (nI (i + 2) : Int32).toNatClampNeg = i + 2 from pk_cl (i + 2)]) ?_
  refine lv_aload_n hx hb d_law_law_219 rfl (lv_at hl 3 rfl) ?_
  refine lv_iload_n hx hb d_law_law_220 rfl (lv_at hl 0 rfl) ?_
  refine lv_iconst (v := 3) hx hb d_law_law_221 (by decide) ?_
  refine lv_iadd hx hb d_law_law_222 ?_
  refine tp_i (y := nI (i + 3)) (by exact nI_add i 3) ?_
  refine va_sld hx hb hX hbl hbA hS (i := nI (i + 3)) (pk_in (i + 3) L (by omega)) d_law_law_223 ?_
  refine tp_i (y := xs (i + 3)) (by rw [show (nI (i + 3) : Int32).toNatClampNeg = i + 3 from pk_cl (i + 3)]) ?_
  refine lw_cC (av := [.int (xs (i + 1)), .int (xs (i + 2)), .int (xs (i + 3))]) hC hl.1 hBW hS hMC (cw_V 3 hw g_OM_outcome rfl rfl rfl (hw _ m_101) (hw _ m_716) (hw _ m_717) (hw _ m_718) (by decide +kernel) ⟨Nat.le_of_ble_eq_true rfl, Nat.le_of_ble_eq_true rfl⟩) rfl d_law_law_224 ⟨by omega, by omega⟩ ?_
  clear hS hBW
  intro r1 S2 H1 locs1 hG1 hBW hS
  refine tp_pc (pc' := 227) (by rfl) ?_
  refine lv_aload_n hx hb d_law_law_227 rfl (lv_at hl 1 rfl) ?_
  refine lv_aload_n hx hb d_law_law_228 rfl (lv_at hl 3 rfl) ?_
  refine lv_iload_n hx hb d_law_law_229 rfl (lv_at hl 0 rfl) ?_
  refine lv_iconst (v := 1) hx hb d_law_law_230 (by decide) ?_
  refine lv_iadd hx hb d_law_law_231 ?_
  refine tp_i (y := nI (i + 1)) (by exact nI_add i 1) ?_
  refine va_sld hx hb hX hbl hbA hS (i := nI (i + 1)) (pk_in (i + 1) L (by omega)) d_law_law_232 ?_
  refine tp_i (y := xs (i + 1)) (by rw [show (nI (i + 1) : Int32).toNatClampNeg = i + 1 from pk_cl (i + 1)]) ?_
  refine lv_aload_n hx hb d_law_law_233 rfl (lv_at hl 3 rfl) ?_
  refine lv_iload_n hx hb d_law_law_234 rfl (lv_at hl 0 rfl) ?_
  refine lv_iconst (v := 2) hx hb d_law_law_235 (by decide) ?_
  refine lv_iadd hx hb d_law_law_236 ?_
  refine tp_i (y := nI (i + 2)) (by exact nI_add i 2) ?_
  refine va_sld hx hb hX hbl hbA hS (i := nI (i + 2)) (pk_in (i + 2) L (by omega)) d_law_law_237 ?_
  refine tp_i (y := xs (i + 2)) (by rw [show (nI (i + 2) : Int32).toNatClampNeg = i + 2 from pk_cl (i + 2)]) ?_
  refine lv_aload_n hx hb d_law_law_238 rfl (lv_at hl 3 rfl) ?_
  refine lv_iload_n hx hb d_law_law_239 rfl (lv_at hl 0 rfl) ?_
  refine lv_iconst (v := 3) hx hb d_law_law_240 (by decide) ?_
  refine lv_iadd hx hb d_law_law_241 ?_
  refine tp_i (y := nI (i + 3)) (by exact nI_add i 3) ?_
  refine va_sld hx hb hX hbl hbA hS (i := nI (i + 3)) (pk_in (i + 3) L (by omega)) d_law_law_242 ?_
  refine tp_i (y := xs (i + 3)) (by rw [show (nI (i + 3) : Int32).toNatClampNeg = i + 3 from pk_cl (i + 3)]) ?_
  refine lw_cR (av := [.int (xs (i + 1)), .int (xs (i + 2)), .int (xs (i + 3))]) (r1 := r1) hC hl.1 hBW hS hMR (cw_V 3 hw g_Ref_outcome rfl rfl rfl (hw _ m_109) (hw _ m_1170) (hw _ m_1171) (hw _ m_1172) (by decide +kernel) ⟨Nat.le_of_ble_eq_true rfl, Nat.le_of_ble_eq_true rfl⟩) rfl d_law_law_243 ⟨by omega, by omega⟩ ?_
  clear hS hBW
  intro r2 R2 H2 locs2 hG2 hBW hS
  obtain ⟨er, hJ2, c1, c2, eo⟩ := hUJ r1 S2 r2 R2 hG1 hG2
  refine tp_pc (pc' := 246) (by rfl) ?_
  refine lv_icmp_eq (tgt := 482) hx hb d_law_law_246 (by decide) (fun _ => ?_) (fun c9 => absurd er c9)
  refine tp_pc (pc' := 482) (by rfl) ?_
  exact ih S2 R2 H2 locs2 (kc + cc) (ns + sl) hJ2 eo hBW hS (by omega) (by omega)
set_option maxHeartbeats 4000000 in
set_option maxRecDepth 100000 in
theorem law_witness (hC : LC9 p s m c b L xs A) (hL : L ≤ 3072) (hi : i + 6 ≤ L) (hJ : JV9 S R) (hBW : BW9 dC dI ra rA rK9 A s S R H) (hS : va_S A s.heap H locs) (hl : lv_has ls 4 [(3, .int (nI i)), (2, .ref ra), (1, .ref (x_oa S)), (0, .ref b)]) (hk4 : 4 * kc ≤ 520 + pc9 S) (hs4 : ns ≤ 2165938 + ps9 S) (ih : LK9 p l e s m below meth c b A dC dI ra rA rK9 (x_oa S) Q ls) : W p l e room_1 s m #[Value.ref b] below meth c H locs kc ns Q (F0 m 251 ls []) := by
  obtain ⟨hx, hb, hml, hown, hw, hX, hbl, hA, hbA, hn⟩ := id hC
  obtain ⟨cc, sl, GC, GR, hMC, hMR, ⟨hb1, hb2⟩, hUJ⟩ : UP9 l dC dI ra rA rK9 y_OM_witness w_OM_witness y_Ref_witness w_Ref_witness [.int (xs (i + 1)), .int (xs (i + 2)), .int (xs (i + 3))] S R := U_witness hJ
  refine lv_aload_n hx hb d_law_law_251 rfl (lv_at hl 2 rfl) ?_
  refine lv_aload_n hx hb d_law_law_252 rfl (lv_at hl 3 rfl) ?_
  refine lv_iload_n hx hb d_law_law_253 rfl (lv_at hl 0 rfl) ?_
  refine lv_iconst (v := 1) hx hb d_law_law_254 (by decide) ?_
  refine lv_iadd hx hb d_law_law_255 ?_
  refine tp_i (y := nI (i + 1)) (by exact nI_add i 1) ?_
  refine va_sld hx hb hX hbl hbA hS (i := nI (i + 1)) (pk_in (i + 1) L (by omega)) d_law_law_256 ?_
  refine tp_i (y := xs (i + 1)) (by rw [show (nI (i + 1) : Int32).toNatClampNeg = i + 1 from pk_cl (i + 1)]) ?_
  refine lv_aload_n hx hb d_law_law_257 rfl (lv_at hl 3 rfl) ?_
  refine lv_iload_n hx hb d_law_law_258 rfl (lv_at hl 0 rfl) ?_
  refine lv_iconst (v := 2) hx hb d_law_law_259 (by decide) ?_
  refine lv_iadd hx hb d_law_law_260 ?_
  refine tp_i (y := nI (i + 2)) (by exact nI_add i 2) ?_
  refine va_sld hx hb hX hbl hbA hS (i := nI (i + 2)) (pk_in (i + 2) L (by omega)) d_law_law_261 ?_
  refine tp_i (y := xs (i + 2)) (by rw [show (nI (i + 2) : Int32).toNatClampNeg = i + 2 from pk_cl (i + 2)]) ?_
  refine lv_aload_n hx hb d_law_law_262 rfl (lv_at hl 3 rfl) ?_
  refine lv_iload_n hx hb d_law_law_263 rfl (lv_at hl 0 rfl) ?_
  refine lv_iconst (v := 3) hx hb d_law_law_264 (by decide) ?_
  refine lv_iadd hx hb d_law_law_265 ?_
  refine tp_i (y := nI (i + 3)) (by exact nI_add i 3) ?_
  refine va_sld hx hb hX hbl hbA hS (i := nI (i + 3)) (pk_in (i + 3) L (by omega)) d_law_law_266 ?_
  refine tp_i (y := xs (i + 3)) (by rw [show (nI (i + 3) : Int32).toNatClampNeg = i + 3 from pk_cl (i + 3)]) ?_
  refine lw_cC (av := [.int (xs (i + 1)), .int (xs (i + 2)), .int (xs (i + 3))]) hC hl.1 hBW hS hMC (cw_V 3 hw g_OM_witness rfl rfl rfl (hw _ m_101) (hw _ m_725) (hw _ m_726) (hw _ m_727) (by decide +kernel) ⟨Nat.le_of_ble_eq_true rfl, Nat.le_of_ble_eq_true rfl⟩) rfl d_law_law_267 ⟨by omega, by omega⟩ ?_
  clear hS hBW
  intro r1 S2 H1 locs1 hG1 hBW hS
  refine tp_pc (pc' := 270) (by rfl) ?_
  refine lv_aload_n hx hb d_law_law_270 rfl (lv_at hl 1 rfl) ?_
  refine lv_aload_n hx hb d_law_law_271 rfl (lv_at hl 3 rfl) ?_
  refine lv_iload_n hx hb d_law_law_272 rfl (lv_at hl 0 rfl) ?_
  refine lv_iconst (v := 1) hx hb d_law_law_273 (by decide) ?_
  refine lv_iadd hx hb d_law_law_274 ?_
  refine tp_i (y := nI (i + 1)) (by exact nI_add i 1) ?_
  refine va_sld hx hb hX hbl hbA hS (i := nI (i + 1)) (pk_in (i + 1) L (by omega)) d_law_law_275 ?_
  refine tp_i (y := xs (i + 1)) (by rw [show (nI (i + 1) : Int32).toNatClampNeg = i + 1 from pk_cl (i + 1)]) ?_
  refine lv_aload_n hx hb d_law_law_276 rfl (lv_at hl 3 rfl) ?_
  refine lv_iload_n hx hb d_law_law_277 rfl (lv_at hl 0 rfl) ?_
  refine lv_iconst (v := 2) hx hb d_law_law_278 (by decide) ?_
  refine lv_iadd hx hb d_law_law_279 ?_
  refine tp_i (y := nI (i + 2)) (by exact nI_add i 2) ?_
  refine va_sld hx hb hX hbl hbA hS (i := nI (i + 2)) (pk_in (i + 2) L (by omega)) d_law_law_280 ?_
  refine tp_i (y := xs (i + 2)) (by rw [show (nI (i + 2) : Int32).toNatClampNeg = i + 2 from pk_cl (i + 2)]) ?_
  refine lv_aload_n hx hb d_law_law_281 rfl (lv_at hl 3 rfl) ?_
  refine lv_iload_n hx hb d_law_law_282 rfl (lv_at hl 0 rfl) ?_
  refine lv_iconst (v := 3) hx hb d_law_law_283 (by decide) ?_
  refine lv_iadd hx hb d_law_law_284 ?_
  refine tp_i (y := nI (i + 3)) (by exact nI_add i 3) ?_
  refine va_sld hx hb hX hbl hbA hS (i := nI (i + 3)) (pk_in (i + 3) L (by omega)) d_law_law_285 ?_
  refine tp_i (y := xs (i + 3)) (by rw [show (nI (i + 3) : Int32).toNatClampNeg = i + 3 from pk_cl (i + 3)]) ?_
  refine lw_cR (av := [.int (xs (i + 1)), .int (xs (i + 2)), .int (xs (i + 3))]) (r1 := r1) hC hl.1 hBW hS hMR (cw_V 3 hw g_Ref_witness rfl rfl rfl (hw _ m_109) (hw _ m_1178) (hw _ m_1179) (hw _ m_1180) (by decide +kernel) ⟨Nat.le_of_ble_eq_true rfl, Nat.le_of_ble_eq_true rfl⟩) rfl d_law_law_286 ⟨by omega, by omega⟩ ?_
  clear hS hBW
  intro r2 R2 H2 locs2 hG2 hBW hS
  obtain ⟨er, hJ2, c1, c2, eo⟩ := hUJ r1 S2 r2 R2 hG1 hG2
  refine tp_pc (pc' := 289) (by rfl) ?_
  refine lv_icmp_eq (tgt := 482) hx hb d_law_law_289 (by decide) (fun _ => ?_) (fun c9 => absurd er c9)
  refine tp_pc (pc' := 482) (by rfl) ?_
  exact ih S2 R2 H2 locs2 (kc + cc) (ns + sl) hJ2 eo hBW hS (by omega) (by omega)
set_option maxHeartbeats 4000000 in
set_option maxRecDepth 100000 in
theorem law_orders (hC : LC9 p s m c b L xs A) (hL : L ≤ 3072) (hi : i + 6 ≤ L) (hJ : JV9 S R) (hBW : BW9 dC dI ra rA rK9 A s S R H) (hS : va_S A s.heap H locs) (hl : lv_has ls 4 [(3, .int (nI i)), (2, .ref ra), (1, .ref (x_oa S)), (0, .ref b)]) (hk4 : 4 * kc ≤ 520 + pc9 S) (hs4 : ns ≤ 2165938 + ps9 S) (ih : LK9 p l e s m below meth c b A dC dI ra rA rK9 (x_oa S) Q ls) : W p l e room_1 s m #[Value.ref b] below meth c H locs kc ns Q (F0 m 294 ls []) := by
  obtain ⟨hx, hb, hml, hown, hw, hX, hbl, hA, hbA, hn⟩ := id hC
  obtain ⟨cc, sl, GC, GR, hMC, hMR, ⟨hb1, hb2⟩, hUJ⟩ : UP9 l dC dI ra rA rK9 y_OM_orders w_OM_orders y_Ref_orders w_Ref_orders [.int (xs (i + 1))] S R := U_orders hJ
  refine lv_aload_n hx hb d_law_law_294 rfl (lv_at hl 2 rfl) ?_
  refine lv_aload_n hx hb d_law_law_295 rfl (lv_at hl 3 rfl) ?_
  refine lv_iload_n hx hb d_law_law_296 rfl (lv_at hl 0 rfl) ?_
  refine lv_iconst (v := 1) hx hb d_law_law_297 (by decide) ?_
  refine lv_iadd hx hb d_law_law_298 ?_
  refine tp_i (y := nI (i + 1)) (by exact nI_add i 1) ?_
  refine va_sld hx hb hX hbl hbA hS (i := nI (i + 1)) (pk_in (i + 1) L (by omega)) d_law_law_299 ?_
  refine tp_i (y := xs (i + 1)) (by rw [show (nI (i + 1) : Int32).toNatClampNeg = i + 1 from pk_cl (i + 1)]) ?_
  refine lw_cC (av := [.int (xs (i + 1))]) hC hl.1 hBW hS hMC (cw_V 1 hw g_OM_orders rfl rfl rfl (hw _ m_101) (hw _ m_733) (hw _ m_734) (hw _ m_735) (by decide +kernel) ⟨Nat.le_of_ble_eq_true rfl, Nat.le_of_ble_eq_true rfl⟩) rfl d_law_law_300 ⟨by omega, by omega⟩ ?_
  clear hS hBW
  intro r1 S2 H1 locs1 hG1 hBW hS
  refine tp_pc (pc' := 303) (by rfl) ?_
  refine lv_aload_n hx hb d_law_law_303 rfl (lv_at hl 1 rfl) ?_
  refine lv_aload_n hx hb d_law_law_304 rfl (lv_at hl 3 rfl) ?_
  refine lv_iload_n hx hb d_law_law_305 rfl (lv_at hl 0 rfl) ?_
  refine lv_iconst (v := 1) hx hb d_law_law_306 (by decide) ?_
  refine lv_iadd hx hb d_law_law_307 ?_
  refine tp_i (y := nI (i + 1)) (by exact nI_add i 1) ?_
  refine va_sld hx hb hX hbl hbA hS (i := nI (i + 1)) (pk_in (i + 1) L (by omega)) d_law_law_308 ?_
  refine tp_i (y := xs (i + 1)) (by rw [show (nI (i + 1) : Int32).toNatClampNeg = i + 1 from pk_cl (i + 1)]) ?_
  refine lw_cR (av := [.int (xs (i + 1))]) (r1 := r1) hC hl.1 hBW hS hMR (cw_V 1 hw g_Ref_orders rfl rfl rfl (hw _ m_109) (hw _ m_1182) (hw _ m_1183) (hw _ m_1184) (by decide +kernel) ⟨Nat.le_of_ble_eq_true rfl, Nat.le_of_ble_eq_true rfl⟩) rfl d_law_law_309 ⟨by omega, by omega⟩ ?_
  clear hS hBW
  intro r2 R2 H2 locs2 hG2 hBW hS
  obtain ⟨er, hJ2, c1, c2, eo⟩ := hUJ r1 S2 r2 R2 hG1 hG2
  refine tp_pc (pc' := 312) (by rfl) ?_
  refine lv_icmp_eq (tgt := 482) hx hb d_law_law_312 (by decide) (fun _ => ?_) (fun c9 => absurd er c9)
  refine tp_pc (pc' := 482) (by rfl) ?_
  exact ih S2 R2 H2 locs2 (kc + cc) (ns + sl) hJ2 eo hBW hS (by omega) (by omega)
set_option maxHeartbeats 4000000 in
set_option maxRecDepth 100000 in
theorem law_ordered (hC : LC9 p s m c b L xs A) (hL : L ≤ 3072) (hi : i + 6 ≤ L) (hJ : JV9 S R) (hBW : BW9 dC dI ra rA rK9 A s S R H) (hS : va_S A s.heap H locs) (hl : lv_has ls 4 [(3, .int (nI i)), (2, .ref ra), (1, .ref (x_oa S)), (0, .ref b)]) (hk4 : 4 * kc ≤ 520 + pc9 S) (hs4 : ns ≤ 2165938 + ps9 S) (ih : LK9 p l e s m below meth c b A dC dI ra rA rK9 (x_oa S) Q ls) : W p l e room_1 s m #[Value.ref b] below meth c H locs kc ns Q (F0 m 317 ls []) := by
  obtain ⟨hx, hb, hml, hown, hw, hX, hbl, hA, hbA, hn⟩ := id hC
  obtain ⟨cc, sl, GC, GR, hMC, hMR, ⟨hb1, hb2⟩, hUJ⟩ : UP9 l dC dI ra rA rK9 y_OM_ordered w_OM_ordered y_Ref_ordered w_Ref_ordered [.int (xs (i + 1)), .int (xs (i + 2)), .int (xs (i + 3))] S R := U_ordered hJ
  refine lv_aload_n hx hb d_law_law_317 rfl (lv_at hl 2 rfl) ?_
  refine lv_aload_n hx hb d_law_law_318 rfl (lv_at hl 3 rfl) ?_
  refine lv_iload_n hx hb d_law_law_319 rfl (lv_at hl 0 rfl) ?_
  refine lv_iconst (v := 1) hx hb d_law_law_320 (by decide) ?_
  refine lv_iadd hx hb d_law_law_321 ?_
  refine tp_i (y := nI (i + 1)) (by exact nI_add i 1) ?_
  refine va_sld hx hb hX hbl hbA hS (i := nI (i + 1)) (pk_in (i + 1) L (by omega)) d_law_law_322 ?_
  refine tp_i (y := xs (i + 1)) (by rw [show (nI (i + 1) : Int32).toNatClampNeg = i + 1 from pk_cl (i + 1)]) ?_
  refine lv_aload_n hx hb d_law_law_323 rfl (lv_at hl 3 rfl) ?_
  refine lv_iload_n hx hb d_law_law_324 rfl (lv_at hl 0 rfl) ?_
  refine lv_iconst (v := 2) hx hb d_law_law_325 (by decide) ?_
  refine lv_iadd hx hb d_law_law_326 ?_
  refine tp_i (y := nI (i + 2)) (by exact nI_add i 2) ?_
  refine va_sld hx hb hX hbl hbA hS (i := nI (i + 2)) (pk_in (i + 2) L (by omega)) d_law_law_327 ?_
  refine tp_i (y := xs (i + 2)) (by rw [show (nI (i + 2) : Int32).toNatClampNeg = i + 2 from pk_cl (i + 2)]) ?_
  refine lv_aload_n hx hb d_law_law_328 rfl (lv_at hl 3 rfl) ?_
  refine lv_iload_n hx hb d_law_law_329 rfl (lv_at hl 0 rfl) ?_
  refine lv_iconst (v := 3) hx hb d_law_law_330 (by decide) ?_
  refine lv_iadd hx hb d_law_law_331 ?_
  refine tp_i (y := nI (i + 3)) (by exact nI_add i 3) ?_
  refine va_sld hx hb hX hbl hbA hS (i := nI (i + 3)) (pk_in (i + 3) L (by omega)) d_law_law_332 ?_
  refine tp_i (y := xs (i + 3)) (by rw [show (nI (i + 3) : Int32).toNatClampNeg = i + 3 from pk_cl (i + 3)]) ?_
  refine lw_cC (av := [.int (xs (i + 1)), .int (xs (i + 2)), .int (xs (i + 3))]) hC hl.1 hBW hS hMC (cw_V 3 hw g_OM_ordered rfl rfl rfl (hw _ m_101) (hw _ m_861) (hw _ m_862) (hw _ m_863) (by decide +kernel) ⟨Nat.le_of_ble_eq_true rfl, Nat.le_of_ble_eq_true rfl⟩) rfl d_law_law_333 ⟨by omega, by omega⟩ ?_
  clear hS hBW
  intro r1 S2 H1 locs1 hG1 hBW hS
  refine tp_pc (pc' := 336) (by rfl) ?_
  refine lv_aload_n hx hb d_law_law_336 rfl (lv_at hl 1 rfl) ?_
  refine lv_aload_n hx hb d_law_law_337 rfl (lv_at hl 3 rfl) ?_
  refine lv_iload_n hx hb d_law_law_338 rfl (lv_at hl 0 rfl) ?_
  refine lv_iconst (v := 1) hx hb d_law_law_339 (by decide) ?_
  refine lv_iadd hx hb d_law_law_340 ?_
  refine tp_i (y := nI (i + 1)) (by exact nI_add i 1) ?_
  refine va_sld hx hb hX hbl hbA hS (i := nI (i + 1)) (pk_in (i + 1) L (by omega)) d_law_law_341 ?_
  refine tp_i (y := xs (i + 1)) (by rw [show (nI (i + 1) : Int32).toNatClampNeg = i + 1 from pk_cl (i + 1)]) ?_
  refine lv_aload_n hx hb d_law_law_342 rfl (lv_at hl 3 rfl) ?_
  refine lv_iload_n hx hb d_law_law_343 rfl (lv_at hl 0 rfl) ?_
  refine lv_iconst (v := 2) hx hb d_law_law_344 (by decide) ?_
  refine lv_iadd hx hb d_law_law_345 ?_
  refine tp_i (y := nI (i + 2)) (by exact nI_add i 2) ?_
  refine va_sld hx hb hX hbl hbA hS (i := nI (i + 2)) (pk_in (i + 2) L (by omega)) d_law_law_346 ?_
  refine tp_i (y := xs (i + 2)) (by rw [show (nI (i + 2) : Int32).toNatClampNeg = i + 2 from pk_cl (i + 2)]) ?_
  refine lv_aload_n hx hb d_law_law_347 rfl (lv_at hl 3 rfl) ?_
  refine lv_iload_n hx hb d_law_law_348 rfl (lv_at hl 0 rfl) ?_
  refine lv_iconst (v := 3) hx hb d_law_law_349 (by decide) ?_
  refine lv_iadd hx hb d_law_law_350 ?_
  refine tp_i (y := nI (i + 3)) (by exact nI_add i 3) ?_
  refine va_sld hx hb hX hbl hbA hS (i := nI (i + 3)) (pk_in (i + 3) L (by omega)) d_law_law_351 ?_
  refine tp_i (y := xs (i + 3)) (by rw [show (nI (i + 3) : Int32).toNatClampNeg = i + 3 from pk_cl (i + 3)]) ?_
  refine lw_cR (av := [.int (xs (i + 1)), .int (xs (i + 2)), .int (xs (i + 3))]) (r1 := r1) hC hl.1 hBW hS hMR (cw_V 3 hw g_Ref_ordered rfl rfl rfl (hw _ m_109) (hw _ m_1272) (hw _ m_1273) (hw _ m_1274) (by decide +kernel) ⟨Nat.le_of_ble_eq_true rfl, Nat.le_of_ble_eq_true rfl⟩) rfl d_law_law_352 ⟨by omega, by omega⟩ ?_
  clear hS hBW
  intro r2 R2 H2 locs2 hG2 hBW hS
  obtain ⟨er, hJ2, c1, c2, eo⟩ := hUJ r1 S2 r2 R2 hG1 hG2
  refine tp_pc (pc' := 355) (by rfl) ?_
  refine lv_icmp_eq (tgt := 482) hx hb d_law_law_355 (by decide) (fun _ => ?_) (fun c9 => absurd er c9)
  refine tp_pc (pc' := 482) (by rfl) ?_
  exact ih S2 R2 H2 locs2 (kc + cc) (ns + sl) hJ2 eo hBW hS (by omega) (by omega)
set_option maxHeartbeats 4000000 in
set_option maxRecDepth 100000 in
theorem law_graphs (hC : LC9 p s m c b L xs A) (hL : L ≤ 3072) (hi : i + 6 ≤ L) (hJ : JV9 S R) (hBW : BW9 dC dI ra rA rK9 A s S R H) (hS : va_S A s.heap H locs) (hl : lv_has ls 4 [(3, .int (nI i)), (2, .ref ra), (1, .ref (x_oa S)), (0, .ref b)]) (hk4 : 4 * kc ≤ 520 + pc9 S) (hs4 : ns ≤ 2165938 + ps9 S) (ih : LK9 p l e s m below meth c b A dC dI ra rA rK9 (x_oa S) Q ls) : W p l e room_1 s m #[Value.ref b] below meth c H locs kc ns Q (F0 m 360 ls []) := by
  obtain ⟨hx, hb, hml, hown, hw, hX, hbl, hA, hbA, hn⟩ := id hC
  obtain ⟨cc, sl, GC, GR, hMC, hMR, ⟨hb1, hb2⟩, hUJ⟩ : UP9 l dC dI ra rA rK9 y_OM_graphs w_OM_graphs y_Ref_graphs w_Ref_graphs [.int (xs (i + 1))] S R := U_graphs hJ
  refine lv_aload_n hx hb d_law_law_360 rfl (lv_at hl 2 rfl) ?_
  refine lv_aload_n hx hb d_law_law_361 rfl (lv_at hl 3 rfl) ?_
  refine lv_iload_n hx hb d_law_law_362 rfl (lv_at hl 0 rfl) ?_
  refine lv_iconst (v := 1) hx hb d_law_law_363 (by decide) ?_
  refine lv_iadd hx hb d_law_law_364 ?_
  refine tp_i (y := nI (i + 1)) (by exact nI_add i 1) ?_
  refine va_sld hx hb hX hbl hbA hS (i := nI (i + 1)) (pk_in (i + 1) L (by omega)) d_law_law_365 ?_
  refine tp_i (y := xs (i + 1)) (by rw [show (nI (i + 1) : Int32).toNatClampNeg = i + 1 from pk_cl (i + 1)]) ?_
  refine lw_cC (av := [.int (xs (i + 1))]) hC hl.1 hBW hS hMC (cw_V 1 hw g_OM_graphs rfl rfl rfl (hw _ m_101) (hw _ m_865) (hw _ m_866) (hw _ m_867) (by decide +kernel) ⟨Nat.le_of_ble_eq_true rfl, Nat.le_of_ble_eq_true rfl⟩) rfl d_law_law_366 ⟨by omega, by omega⟩ ?_
  clear hS hBW
  intro r1 S2 H1 locs1 hG1 hBW hS
  refine tp_pc (pc' := 369) (by rfl) ?_
  refine lv_aload_n hx hb d_law_law_369 rfl (lv_at hl 1 rfl) ?_
  refine lv_aload_n hx hb d_law_law_370 rfl (lv_at hl 3 rfl) ?_
  refine lv_iload_n hx hb d_law_law_371 rfl (lv_at hl 0 rfl) ?_
  refine lv_iconst (v := 1) hx hb d_law_law_372 (by decide) ?_
  refine lv_iadd hx hb d_law_law_373 ?_
  refine tp_i (y := nI (i + 1)) (by exact nI_add i 1) ?_
  refine va_sld hx hb hX hbl hbA hS (i := nI (i + 1)) (pk_in (i + 1) L (by omega)) d_law_law_374 ?_
  refine tp_i (y := xs (i + 1)) (by rw [show (nI (i + 1) : Int32).toNatClampNeg = i + 1 from pk_cl (i + 1)]) ?_
  refine lw_cR (av := [.int (xs (i + 1))]) (r1 := r1) hC hl.1 hBW hS hMR (cw_V 1 hw g_Ref_graphs rfl rfl rfl (hw _ m_109) (hw _ m_1276) (hw _ m_1277) (hw _ m_1278) (by decide +kernel) ⟨Nat.le_of_ble_eq_true rfl, Nat.le_of_ble_eq_true rfl⟩) rfl d_law_law_375 ⟨by omega, by omega⟩ ?_
  clear hS hBW
  intro r2 R2 H2 locs2 hG2 hBW hS
  obtain ⟨er, hJ2, c1, c2, eo⟩ := hUJ r1 S2 r2 R2 hG1 hG2
  refine tp_pc (pc' := 378) (by rfl) ?_
  refine lv_icmp_eq (tgt := 482) hx hb d_law_law_378 (by decide) (fun _ => ?_) (fun c9 => absurd er c9)
  refine tp_pc (pc' := 482) (by rfl) ?_
  exact ih S2 R2 H2 locs2 (kc + cc) (ns + sl) hJ2 eo hBW hS (by omega) (by omega)
set_option maxHeartbeats 4000000 in
set_option maxRecDepth 100000 in
theorem law_beyond (hC : LC9 p s m c b L xs A) (hL : L ≤ 3072) (hi : i + 6 ≤ L) (hJ : JV9 S R) (hBW : BW9 dC dI ra rA rK9 A s S R H) (hS : va_S A s.heap H locs) (hl : lv_has ls 4 [(3, .int (nI i)), (2, .ref ra), (1, .ref (x_oa S)), (0, .ref b)]) (hk4 : 4 * kc ≤ 520 + pc9 S) (hs4 : ns ≤ 2165938 + ps9 S) (ih : LK9 p l e s m below meth c b A dC dI ra rA rK9 (x_oa S) Q ls) : W p l e room_1 s m #[Value.ref b] below meth c H locs kc ns Q (F0 m 383 ls []) := by
  obtain ⟨hx, hb, hml, hown, hw, hX, hbl, hA, hbA, hn⟩ := id hC
  obtain ⟨cc, sl, GC, GR, hMC, hMR, ⟨hb1, hb2⟩, hUJ⟩ : UP9 l dC dI ra rA rK9 y_OM_beyond w_OM_beyond y_Ref_beyond w_Ref_beyond [.int (xs (i + 1)), .int (xs (i + 2))] S R := U_beyond hJ
  refine lv_aload_n hx hb d_law_law_383 rfl (lv_at hl 2 rfl) ?_
  refine lv_aload_n hx hb d_law_law_384 rfl (lv_at hl 3 rfl) ?_
  refine lv_iload_n hx hb d_law_law_385 rfl (lv_at hl 0 rfl) ?_
  refine lv_iconst (v := 1) hx hb d_law_law_386 (by decide) ?_
  refine lv_iadd hx hb d_law_law_387 ?_
  refine tp_i (y := nI (i + 1)) (by exact nI_add i 1) ?_
  refine va_sld hx hb hX hbl hbA hS (i := nI (i + 1)) (pk_in (i + 1) L (by omega)) d_law_law_388 ?_
  refine tp_i (y := xs (i + 1)) (by rw [show (nI (i + 1) : Int32).toNatClampNeg = i + 1 from pk_cl (i + 1)]) ?_
  refine lv_aload_n hx hb d_law_law_389 rfl (lv_at hl 3 rfl) ?_
  refine lv_iload_n hx hb d_law_law_390 rfl (lv_at hl 0 rfl) ?_
  refine lv_iconst (v := 2) hx hb d_law_law_391 (by decide) ?_
  refine lv_iadd hx hb d_law_law_392 ?_
  refine tp_i (y := nI (i + 2)) (by exact nI_add i 2) ?_
  refine va_sld hx hb hX hbl hbA hS (i := nI (i + 2)) (pk_in (i + 2) L (by omega)) d_law_law_393 ?_
  refine tp_i (y := xs (i + 2)) (by rw [show (nI (i + 2) : Int32).toNatClampNeg = i + 2 from pk_cl (i + 2)]) ?_
  refine lw_cC (av := [.int (xs (i + 1)), .int (xs (i + 2))]) hC hl.1 hBW hS hMC (cw_V 2 hw g_OM_beyond rfl rfl rfl (hw _ m_101) (hw _ m_869) (hw _ m_870) (hw _ m_871) (by decide +kernel) ⟨Nat.le_of_ble_eq_true rfl, Nat.le_of_ble_eq_true rfl⟩) rfl d_law_law_394 ⟨by omega, by omega⟩ ?_
  clear hS hBW
  intro r1 S2 H1 locs1 hG1 hBW hS
  refine tp_pc (pc' := 397) (by rfl) ?_
  refine lv_aload_n hx hb d_law_law_397 rfl (lv_at hl 1 rfl) ?_
  refine lv_aload_n hx hb d_law_law_398 rfl (lv_at hl 3 rfl) ?_
  refine lv_iload_n hx hb d_law_law_399 rfl (lv_at hl 0 rfl) ?_
  refine lv_iconst (v := 1) hx hb d_law_law_400 (by decide) ?_
  refine lv_iadd hx hb d_law_law_401 ?_
  refine tp_i (y := nI (i + 1)) (by exact nI_add i 1) ?_
  refine va_sld hx hb hX hbl hbA hS (i := nI (i + 1)) (pk_in (i + 1) L (by omega)) d_law_law_402 ?_
  refine tp_i (y := xs (i + 1)) (by rw [show (nI (i + 1) : Int32).toNatClampNeg = i + 1 from pk_cl (i + 1)]) ?_
  refine lv_aload_n hx hb d_law_law_403 rfl (lv_at hl 3 rfl) ?_
  refine lv_iload_n hx hb d_law_law_404 rfl (lv_at hl 0 rfl) ?_
  refine lv_iconst (v := 2) hx hb d_law_law_405 (by decide) ?_
  refine lv_iadd hx hb d_law_law_406 ?_
  refine tp_i (y := nI (i + 2)) (by exact nI_add i 2) ?_
  refine va_sld hx hb hX hbl hbA hS (i := nI (i + 2)) (pk_in (i + 2) L (by omega)) d_law_law_407 ?_
  refine tp_i (y := xs (i + 2)) (by rw [show (nI (i + 2) : Int32).toNatClampNeg = i + 2 from pk_cl (i + 2)]) ?_
  refine lw_cR (av := [.int (xs (i + 1)), .int (xs (i + 2))]) (r1 := r1) hC hl.1 hBW hS hMR (cw_V 2 hw g_Ref_beyond rfl rfl rfl (hw _ m_109) (hw _ m_1280) (hw _ m_1281) (hw _ m_1282) (by decide +kernel) ⟨Nat.le_of_ble_eq_true rfl, Nat.le_of_ble_eq_true rfl⟩) rfl d_law_law_408 ⟨by omega, by omega⟩ ?_
  clear hS hBW
  intro r2 R2 H2 locs2 hG2 hBW hS
  obtain ⟨er, hJ2, c1, c2, eo⟩ := hUJ r1 S2 r2 R2 hG1 hG2
  refine tp_pc (pc' := 411) (by rfl) ?_
  refine lv_icmp_eq (tgt := 482) hx hb d_law_law_411 (by decide) (fun _ => ?_) (fun c9 => absurd er c9)
  refine tp_pc (pc' := 482) (by rfl) ?_
  exact ih S2 R2 H2 locs2 (kc + cc) (ns + sl) hJ2 eo hBW hS (by omega) (by omega)
set_option maxHeartbeats 4000000 in
set_option maxRecDepth 100000 in
theorem law_races (hC : LC9 p s m c b L xs A) (hL : L ≤ 3072) (hi : i + 6 ≤ L) (hJ : JV9 S R) (hBW : BW9 dC dI ra rA rK9 A s S R H) (hS : va_S A s.heap H locs) (hl : lv_has ls 4 [(3, .int (nI i)), (2, .ref ra), (1, .ref (x_oa S)), (0, .ref b)]) (hk4 : 4 * kc ≤ 520 + pc9 S) (hs4 : ns ≤ 2165938 + ps9 S) (ih : LK9 p l e s m below meth c b A dC dI ra rA rK9 (x_oa S) Q ls) : W p l e room_1 s m #[Value.ref b] below meth c H locs kc ns Q (F0 m 416 ls []) := by
  obtain ⟨hx, hb, hml, hown, hw, hX, hbl, hA, hbA, hn⟩ := id hC
  obtain ⟨cc, sl, GC, GR, hMC, hMR, ⟨hb1, hb2⟩, hUJ⟩ : UP9 l dC dI ra rA rK9 y_OM_races w_OM_races y_Ref_races w_Ref_races [] S R := U_races hJ
  refine lv_aload_n hx hb d_law_law_416 rfl (lv_at hl 2 rfl) ?_
  refine lw_cC (av := []) hC hl.1 hBW hS hMC (cw_V 0 hw g_OM_races rfl rfl rfl (hw _ m_101) (hw _ m_877) (hw _ m_878) (hw _ m_879) (by decide +kernel) ⟨Nat.le_of_ble_eq_true rfl, Nat.le_of_ble_eq_true rfl⟩) rfl d_law_law_417 ⟨by omega, by omega⟩ ?_
  clear hS hBW
  intro r1 S2 H1 locs1 hG1 hBW hS
  refine tp_pc (pc' := 420) (by rfl) ?_
  refine lv_aload_n hx hb d_law_law_420 rfl (lv_at hl 1 rfl) ?_
  refine lw_cR (av := []) (r1 := r1) hC hl.1 hBW hS hMR (cw_V 0 hw g_Ref_races rfl rfl rfl (hw _ m_109) (hw _ m_1284) (hw _ m_1285) (hw _ m_1286) (by decide +kernel) ⟨Nat.le_of_ble_eq_true rfl, Nat.le_of_ble_eq_true rfl⟩) rfl d_law_law_421 ⟨by omega, by omega⟩ ?_
  clear hS hBW
  intro r2 R2 H2 locs2 hG2 hBW hS
  obtain ⟨er, hJ2, c1, c2, eo⟩ := hUJ r1 S2 r2 R2 hG1 hG2
  refine tp_pc (pc' := 424) (by rfl) ?_
  refine lv_icmp_eq (tgt := 482) hx hb d_law_law_424 (by decide) (fun _ => ?_) (fun c9 => absurd er c9)
  refine tp_pc (pc' := 482) (by rfl) ?_
  exact ih S2 R2 H2 locs2 (kc + cc) (ns + sl) hJ2 eo hBW hS (by omega) (by omega)
set_option maxHeartbeats 4000000 in
set_option maxRecDepth 100000 in
theorem law_race (hC : LC9 p s m c b L xs A) (hL : L ≤ 3072) (hi : i + 6 ≤ L) (hJ : JV9 S R) (hBW : BW9 dC dI ra rA rK9 A s S R H) (hS : va_S A s.heap H locs) (hl : lv_has ls 4 [(3, .int (nI i)), (2, .ref ra), (1, .ref (x_oa S)), (0, .ref b)]) (hk4 : 4 * kc ≤ 520 + pc9 S) (hs4 : ns ≤ 2165938 + ps9 S) (ih : LK9 p l e s m below meth c b A dC dI ra rA rK9 (x_oa S) Q ls) : W p l e room_1 s m #[Value.ref b] below meth c H locs kc ns Q (F0 m 429 ls []) := by
  obtain ⟨hx, hb, hml, hown, hw, hX, hbl, hA, hbA, hn⟩ := id hC
  obtain ⟨cc, sl, GC, GR, hMC, hMR, ⟨hb1, hb2⟩, hUJ⟩ : UP9 l dC dI ra rA rK9 y_OM_race w_OM_race y_Ref_race w_Ref_race [.int (xs (i + 1)), .int (xs (i + 2)), .int (xs (i + 3)), .int (xs (i + 4))] S R := U_race hJ
  refine lv_aload_n hx hb d_law_law_429 rfl (lv_at hl 2 rfl) ?_
  refine lv_aload_n hx hb d_law_law_430 rfl (lv_at hl 3 rfl) ?_
  refine lv_iload_n hx hb d_law_law_431 rfl (lv_at hl 0 rfl) ?_
  refine lv_iconst (v := 1) hx hb d_law_law_432 (by decide) ?_
  refine lv_iadd hx hb d_law_law_433 ?_
  refine tp_i (y := nI (i + 1)) (by exact nI_add i 1) ?_
  refine va_sld hx hb hX hbl hbA hS (i := nI (i + 1)) (pk_in (i + 1) L (by omega)) d_law_law_434 ?_
  refine tp_i (y := xs (i + 1)) (by rw [show (nI (i + 1) : Int32).toNatClampNeg = i + 1 from pk_cl (i + 1)]) ?_
  refine lv_aload_n hx hb d_law_law_435 rfl (lv_at hl 3 rfl) ?_
  refine lv_iload_n hx hb d_law_law_436 rfl (lv_at hl 0 rfl) ?_
  refine lv_iconst (v := 2) hx hb d_law_law_437 (by decide) ?_
  refine lv_iadd hx hb d_law_law_438 ?_
  refine tp_i (y := nI (i + 2)) (by exact nI_add i 2) ?_
  refine va_sld hx hb hX hbl hbA hS (i := nI (i + 2)) (pk_in (i + 2) L (by omega)) d_law_law_439 ?_
  refine tp_i (y := xs (i + 2)) (by rw [show (nI (i + 2) : Int32).toNatClampNeg = i + 2 from pk_cl (i + 2)]) ?_
  refine lv_aload_n hx hb d_law_law_440 rfl (lv_at hl 3 rfl) ?_
  refine lv_iload_n hx hb d_law_law_441 rfl (lv_at hl 0 rfl) ?_
  refine lv_iconst (v := 3) hx hb d_law_law_442 (by decide) ?_
  refine lv_iadd hx hb d_law_law_443 ?_
  refine tp_i (y := nI (i + 3)) (by exact nI_add i 3) ?_
  refine va_sld hx hb hX hbl hbA hS (i := nI (i + 3)) (pk_in (i + 3) L (by omega)) d_law_law_444 ?_
  refine tp_i (y := xs (i + 3)) (by rw [show (nI (i + 3) : Int32).toNatClampNeg = i + 3 from pk_cl (i + 3)]) ?_
  refine lv_aload_n hx hb d_law_law_445 rfl (lv_at hl 3 rfl) ?_
  refine lv_iload_n hx hb d_law_law_446 rfl (lv_at hl 0 rfl) ?_
  refine lv_iconst (v := 4) hx hb d_law_law_447 (by decide) ?_
  refine lv_iadd hx hb d_law_law_448 ?_
  refine tp_i (y := nI (i + 4)) (by exact nI_add i 4) ?_
  refine va_sld hx hb hX hbl hbA hS (i := nI (i + 4)) (pk_in (i + 4) L (by omega)) d_law_law_449 ?_
  refine tp_i (y := xs (i + 4)) (by rw [show (nI (i + 4) : Int32).toNatClampNeg = i + 4 from pk_cl (i + 4)]) ?_
  refine lw_cC (av := [.int (xs (i + 1)), .int (xs (i + 2)), .int (xs (i + 3)), .int (xs (i + 4))]) hC hl.1 hBW hS hMC (cw_V 4 hw g_OM_race rfl rfl rfl (hw _ m_101) (hw _ m_882) (hw _ m_883) (hw _ m_884) (by decide +kernel) ⟨Nat.le_of_ble_eq_true rfl, Nat.le_of_ble_eq_true rfl⟩) rfl d_law_law_450 ⟨by omega, by omega⟩ ?_
  clear hS hBW
  intro r1 S2 H1 locs1 hG1 hBW hS
  refine tp_pc (pc' := 453) (by rfl) ?_
  refine lv_aload_n hx hb d_law_law_453 rfl (lv_at hl 1 rfl) ?_
  refine lv_aload_n hx hb d_law_law_454 rfl (lv_at hl 3 rfl) ?_
  refine lv_iload_n hx hb d_law_law_455 rfl (lv_at hl 0 rfl) ?_
  refine lv_iconst (v := 1) hx hb d_law_law_456 (by decide) ?_
  refine lv_iadd hx hb d_law_law_457 ?_
  refine tp_i (y := nI (i + 1)) (by exact nI_add i 1) ?_
  refine va_sld hx hb hX hbl hbA hS (i := nI (i + 1)) (pk_in (i + 1) L (by omega)) d_law_law_458 ?_
  refine tp_i (y := xs (i + 1)) (by rw [show (nI (i + 1) : Int32).toNatClampNeg = i + 1 from pk_cl (i + 1)]) ?_
  refine lv_aload_n hx hb d_law_law_459 rfl (lv_at hl 3 rfl) ?_
  refine lv_iload_n hx hb d_law_law_460 rfl (lv_at hl 0 rfl) ?_
  refine lv_iconst (v := 2) hx hb d_law_law_461 (by decide) ?_
  refine lv_iadd hx hb d_law_law_462 ?_
  refine tp_i (y := nI (i + 2)) (by exact nI_add i 2) ?_
  refine va_sld hx hb hX hbl hbA hS (i := nI (i + 2)) (pk_in (i + 2) L (by omega)) d_law_law_463 ?_
  refine tp_i (y := xs (i + 2)) (by rw [show (nI (i + 2) : Int32).toNatClampNeg = i + 2 from pk_cl (i + 2)]) ?_
  refine lv_aload_n hx hb d_law_law_464 rfl (lv_at hl 3 rfl) ?_
  refine lv_iload_n hx hb d_law_law_465 rfl (lv_at hl 0 rfl) ?_
  refine lv_iconst (v := 3) hx hb d_law_law_466 (by decide) ?_
  refine lv_iadd hx hb d_law_law_467 ?_
  refine tp_i (y := nI (i + 3)) (by exact nI_add i 3) ?_
  refine va_sld hx hb hX hbl hbA hS (i := nI (i + 3)) (pk_in (i + 3) L (by omega)) d_law_law_468 ?_
  refine tp_i (y := xs (i + 3)) (by rw [show (nI (i + 3) : Int32).toNatClampNeg = i + 3 from pk_cl (i + 3)]) ?_
  refine lv_aload_n hx hb d_law_law_469 rfl (lv_at hl 3 rfl) ?_
  refine lv_iload_n hx hb d_law_law_470 rfl (lv_at hl 0 rfl) ?_
  refine lv_iconst (v := 4) hx hb d_law_law_471 (by decide) ?_
  refine lv_iadd hx hb d_law_law_472 ?_
  refine tp_i (y := nI (i + 4)) (by exact nI_add i 4) ?_
  refine va_sld hx hb hX hbl hbA hS (i := nI (i + 4)) (pk_in (i + 4) L (by omega)) d_law_law_473 ?_
  refine tp_i (y := xs (i + 4)) (by rw [show (nI (i + 4) : Int32).toNatClampNeg = i + 4 from pk_cl (i + 4)]) ?_
  refine lw_cR (av := [.int (xs (i + 1)), .int (xs (i + 2)), .int (xs (i + 3)), .int (xs (i + 4))]) (r1 := r1) hC hl.1 hBW hS hMR (cw_V 4 hw g_Ref_race rfl rfl rfl (hw _ m_109) (hw _ m_1292) (hw _ m_1293) (hw _ m_1294) (by decide +kernel) ⟨Nat.le_of_ble_eq_true rfl, Nat.le_of_ble_eq_true rfl⟩) rfl d_law_law_474 ⟨by omega, by omega⟩ ?_
  clear hS hBW
  intro r2 R2 H2 locs2 hG2 hBW hS
  obtain ⟨er, hJ2, c1, c2, eo⟩ := hUJ r1 S2 r2 R2 hG1 hG2
  refine tp_pc (pc' := 477) (by rfl) ?_
  refine lv_icmp_eq (tgt := 482) hx hb d_law_law_477 (by decide) (fun _ => ?_) (fun c9 => absurd er c9)
  refine tp_pc (pc' := 482) (by rfl) ?_
  exact ih S2 R2 H2 locs2 (kc + cc) (ns + sl) hJ2 eo hBW hS (by omega) (by omega)
end LAWD
