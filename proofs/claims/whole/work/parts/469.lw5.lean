set_option maxHeartbeats 400000000 in
set_option maxRecDepth 100000 in
theorem whole_start {p : Program} {e : Env} {s : State} {m : MethodId} {below : List Frame} {meth : Method} {c : Code} (l : Launch) {b L : Nat} {xs : Nat → Int32} (hL : L ≤ 3072) (C0 : lw_At p s m meth c b L xs) : W p l e room_1 s m #[Value.ref b] below meth c s.heap [] 0 0 (lw_Z below #[Value.ref b] s) (entryFrame m ([Value.ref b] : List Value).toArray 4) := by
  obtain ⟨hx, hb, hr, hml, hown, hts, hX, hbl, hlocks, hgv⟩ := id C0
  have hw := fun w (h : w ∈ wt) => hts w (List.mem_filter.mp h).1
  obtain ⟨A, hA, hbA, hAb⟩ : ∃ A : Nat → Prop, (∀ q : Nat, s.heap.size ≤ q → A q) ∧ ¬ A b ∧ (∀ q : Nat, A q → s.heap.size ≤ q) := ⟨fun q => s.heap.size ≤ q, fun _ h => h, Nat.not_le.mpr hbl, fun _ h => h⟩
  have hn : nw s := nw_start hts
  obtain ⟨c0, iS0, hKn0⟩ := u_known (C := R_Program) (T := F_Program) (N := 13) (n := 13) hw i_Program (hw _ m_123)
  obtain ⟨c1, iS1, hKn1⟩ := u_known (C := R_Progress) (T := F_Progress) (N := 6) (n := 6) hw i_Progress (hw _ m_198)
  obtain ⟨c2, iS2, hKn2⟩ := u_known (C := R_StateSet) (T := F_StateSet) (N := 4) (n := 4) hw i_StateSet (hw _ m_225)
  obtain ⟨c3, iS3, hKn3⟩ := u_known (C := R_OutcomeSet) (T := F_OutcomeSet) (N := 9) (n := 9) hw i_OutcomeSet (hw _ m_373)
  obtain ⟨c4, iS4, hKn4⟩ := u_known (C := R_BufferWalk) (T := F_BufferWalk) (N := 9) (n := 9) hw i_BufferWalk (hw _ m_245)
  obtain ⟨c5, iS5, hKn5⟩ := u_known (C := R_KnowledgeWalk) (T := F_KnowledgeWalk) (N := 9) (n := 9) hw i_KnowledgeWalk (hw _ m_280)
  obtain ⟨c6, iS6, hKn6⟩ := u_known (C := R_GraphSearch) (T := F_GraphSearch) (N := 17) (n := 17) hw i_GraphSearch (hw _ m_314)
  obtain ⟨c7, iS7, hKn7⟩ := u_known (C := R_OM) (T := F_OM) (N := 6) (n := 6) hw i_OM (hw _ m_115)
  obtain ⟨c8, iS8, hKn8⟩ := u_known (C := R_Ref) (T := F_Ref) (N := 48) (n := 48) hw i_Ref (hw _ m_889)
  obtain ⟨dC, dI, hKc⟩ : ∃ (dC : Nat → ClassId) (dI : Nat → Nat → Nat), ∀ (k : Nat) (q : vw_C), classes[k]? = some q → u_Kn s q.1 q.2.1 q.2.2 (dC k) (dI k) := by
    refine ⟨fun k => if k = 0 then c0 else if k = 1 then c1 else if k = 2 then c2 else if k = 3 then c3 else if k = 4 then c4 else if k = 5 then c5 else if k = 6 then c6 else if k = 7 then c7 else c8, fun k => if k = 0 then iS0 else if k = 1 then iS1 else if k = 2 then iS2 else if k = 3 then iS3 else if k = 4 then iS4 else if k = 5 then iS5 else if k = 6 then iS6 else if k = 7 then iS7 else iS8, ?_⟩
    intro k q hq
    match k, hq with
    | 0, hq => cases hq; exact hKn0
    | 1, hq => cases hq; exact hKn1
    | 2, hq => cases hq; exact hKn2
    | 3, hq => cases hq; exact hKn3
    | 4, hq => cases hq; exact hKn4
    | 5, hq => cases hq; exact hKn5
    | 6, hq => cases hq; exact hKn6
    | 7, hq => cases hq; exact hKn7
    | 8, hq => cases hq; exact hKn8
    | k + 9, hq => simp [classes] at hq
  clear hKn0 hKn1 hKn2 hKn3 hKn4 hKn5 hKn6 hKn7 hKn8
  have hS : va_S A s.heap s.heap [] := va_S.rf
  have hK : va_K (dC, dI) classes [] s := ⟨hKc, fun k q h => by simp at h⟩
  have hP : va_P (dC, dI) classes [] s.heap := fun k q h => by simp at h
  have hl := lv_entry ([.ref b]) (n := 4) (Nat.le_of_ble_eq_true rfl)
  rw [lg_entry_eq]
  generalize (lg_sl ([.ref b]) ++ List.replicate (4 - (lg_sl ([.ref b])).length) Slot.unset).toArray = ls at hl ⊢
  replace hl : lv_has ls 4 [(0, .ref b)] := hl
  clear hKc C0 hgv
  refine va_new (ci := 7) (fs := [.null, .null, .null, .null, .null, .null]) (C := R_OM) (T := F_OM) (N := 6) hx hb hw i_OM t_OM t_OM_ok hown (hw _ m_114) (hw _ m_115) (hw _ m_101) hK hP vD0 hS hA rfl z_OM (Nat.le_of_ble_eq_true rfl) (Nat.le_of_ble_eq_true rfl) d_law_law_0 ?_
  clear hP hS
  intro q_1 H1 (hP : va_P (dC, dI) classes [oc q_1 7 [.null, .null, .null, .null, .null, .null]] H1) (hD : va_D A [oc q_1 7 [.null, .null, .null, .null, .null, .null]]) hS
  revert H1
  intro H hP hS
  refine W.widen (k := 1) (n := 6) (by exact Nat.le_of_ble_eq_true rfl) (by exact Nat.le_of_ble_eq_true rfl) ?_
  refine tp_pc (pc' := 3) (by rfl) ?_
  refine lv_dup hx hb d_law_law_3 rfl ?_
  have hFc := oF9 hD hS hA
  refine va_callv (va_runI (As := []) (rest := [.ref q_1]) ⟨hx, hb, hml, hown, hw⟩ (c_OM_init l dC dI q_1 H.size) (cwI 0 hw g_OM_init rfl rfl rfl (hw _ m_101) (hw _ m_116) (hw _ m_117) rfl (by decide +kernel) ⟨Nat.le_of_ble_eq_true rfl, Nat.le_of_ble_eq_true rfl⟩) ⟨fun a U g mk q => by obtain ⟨q0, q1, qP, qK, qD, qN⟩ := q; exact ⟨q0, q1, qP, va_K.moved (u := U) (U := U.calling g mk a) (Vm.Alike.refl U.vm) qK, qD, nw_call qN⟩, fun U hU hW => ⟨rfl, by rw [hU], by rw [hU]; exact hP, va_K.moved hW.alike hK, hD.weaken (fun _ _ _ _ => trivial), nw_warm hW hn⟩⟩ rfl rfl hl.1 rfl (lv_room (Nat.le_of_ble_eq_true rfl)) d_law_law_4 ⟨Nat.le_of_ble_eq_true rfl, Nat.le_of_ble_eq_true rfl⟩) hS (fun q _ h => hFc q h) hFc ?_
  intro u t H1 locs1 ht hvm hw1 hB hz1 hk1 hS1
  obtain ⟨Q_2, K_3, hP1, hK1, hD1⟩ := hB
  rw [ht] at hP1
  replace hK1 := va_K.moved hvm.symm hK1
  have hPa : va_P (dC, dI) classes (cw9 (sC9 q_1 Q_2 K_3)) H1 := hP1.sub [0, 42, 43, 20, 21, 22, 23, 24, 25, 26, 27, 28, 29, 30, 31, 32, 33, 34, 35, 36, 37, 38, 39, 40, 41, 13, 14, 15, 16, 1, 2, 3, 4, 5, 6, 7, 8, 9, 10, 11, 12, 17, 18, 19, 44, 45, 46, 47, 48, 49, 56, 57, 58, 59, 60, 61, 68, 69, 70, 71, 72, 73, 80, 81, 82, 83, 84, 85, 50, 51, 52, 53, 54, 55, 62, 63, 64, 65, 66, 67, 74, 75, 76, 77, 78, 79, 86, 87, 88, 89, 90, 91] (fm_of cs_C)
  have hKa : va_K (dC, dI) classes (ct9 (sC9 q_1 Q_2 K_3)) s := hK1.sub [35, 36, 16, 17, 18, 19, 20, 21, 22, 23, 24, 25, 26, 27, 28, 29, 30, 31, 32, 33, 34, 11, 12, 13, 0, 1, 2, 3, 4, 5, 6, 7, 8, 9, 10, 14, 15, 37, 38, 39, 40, 41, 47, 48, 49, 50, 51, 57, 58, 59, 60, 61, 67, 68, 69, 70, 71, 42, 43, 44, 45, 46, 52, 53, 54, 55, 56, 62, 63, 64, 65, 66, 72, 73, 74, 75, 76] cs_K
  have hDa : va_D A (cw9 (sC9 q_1 Q_2 K_3)) := (hD1.weaken (fun _ _ _ h => hFc _ h)).sub [0, 42, 43, 20, 21, 22, 23, 24, 25, 26, 27, 28, 29, 30, 31, 32, 33, 34, 35, 36, 37, 38, 39, 40, 41, 13, 14, 15, 16, 1, 2, 3, 4, 5, 6, 7, 8, 9, 10, 11, 12, 17, 18, 19, 44, 45, 46, 47, 48, 49, 56, 57, 58, 59, 60, 61, 68, 69, 70, 71, 72, 73, 80, 81, 82, 83, 84, 85, 50, 51, 52, 53, 54, 55, 62, 63, 64, 65, 66, 67, 74, 75, 76, 77, 78, 79, 86, 87, 88, 89, 90, 91] (by decide +kernel) cs_C
  clear hP1 hK1 hD1 hk1 hz1 hFc hvm ht hP hK hD hS t H hw1 u
  obtain ⟨S0, hS0⟩ : ∃ S0, S0 = sC9 q_1 Q_2 K_3 := ⟨_, rfl⟩
  rw [← hS0] at hPa hKa hDa
  have hJ : JV9 S0 sR9 := by rw [hS0]; exact JV_s
  have hoa : x_oa S0 = q_1 := by rw [hS0]; rfl
  clear hS0
  revert H1 locs1
  intro H locs hS hPa
  refine W.widen (k := 92) (n := 378) (by exact Nat.le_of_ble_eq_true rfl) (by exact Nat.le_of_ble_eq_true rfl) ?_
  refine tp_pc (pc' := 7) (by rfl) ?_
  refine lv_astore_n (lv' := [(1, .ref q_1), (0, .ref b)]) hx hb d_law_law_7 rfl hl (by decide) rfl ?_
  clear hl ls
  intro ls hl
  refine va_new (ci := 8) (fs := [.int 0, .int 0, .null, .null, .null, .null, .null, .null, .null, .null, .null, .null, .null, .null, .int 0, .null, .null, .null, .null, .int 0, .int 0, .null, .null, .null, .int 0, .null, .int 0, .int 0, .null, .null, .null, .null, .null, .null, .null, .null, .int 0, .int 0, .null, .null, .null, .null, .null, .null, .null, .null, .int 0, .null]) (C := R_Ref) (T := F_Ref) (N := 48) hx hb hw i_Ref t_Ref t_Ref_ok hown (hw _ m_888) (hw _ m_889) (hw _ m_109) hKa hPa hDa hS hA rfl z_Ref (Nat.le_of_ble_eq_true rfl) (Nat.le_of_ble_eq_true rfl) d_law_law_8 ?_
  clear hPa hS hDa
  intro q_5 H1 hP1 hD1 hS
  clear H
  revert H1
  intro H hP1 hS
  obtain ⟨hPa, hPb⟩ := P_app9 hP1
  obtain ⟨hDa, hDb, hdj⟩ := dj_app9 hD1
  clear hP1 hD1
  refine W.widen (k := 93) (n := 426) (by exact Nat.le_of_ble_eq_true rfl) (by exact Nat.le_of_ble_eq_true rfl) ?_
  refine tp_pc (pc' := 11) (by rfl) ?_
  refine lv_dup hx hb d_law_law_11 rfl ?_
  replace hPb : va_P (dC, dI) classes [oc q_5 8 [.int 0, .int 0, .null, .null, .null, .null, .null, .null, .null, .null, .null, .null, .null, .null, .int 0, .null, .null, .null, .null, .int 0, .int 0, .null, .null, .null, .int 0, .null, .int 0, .int 0, .null, .null, .null, .null, .null, .null, .null, .null, .int 0, .int 0, .null, .null, .null, .null, .null, .null, .null, .null, .int 0, .null]] H := hPb
  replace hDb : va_D A [oc q_5 8 [.int 0, .int 0, .null, .null, .null, .null, .null, .null, .null, .null, .null, .null, .null, .null, .int 0, .null, .null, .null, .null, .int 0, .int 0, .null, .null, .null, .int 0, .null, .int 0, .int 0, .null, .null, .null, .null, .null, .null, .null, .null, .int 0, .int 0, .null, .null, .null, .null, .null, .null, .null, .null, .int 0, .null]] := hDb
  replace hdj : DJ9 (cw9 S0) [oc q_5 8 [.int 0, .int 0, .null, .null, .null, .null, .null, .null, .null, .null, .null, .null, .null, .null, .int 0, .null, .null, .null, .null, .int 0, .int 0, .null, .null, .null, .int 0, .null, .int 0, .int 0, .null, .null, .null, .null, .null, .null, .null, .null, .int 0, .int 0, .null, .null, .null, .null, .null, .null, .null, .null, .int 0, .null]] := hdj
  have hKn := hKa.sub (tys' := []) [] rfl
  have hFc := oF9 hDb hS hA
  refine va_callv (va_runI (As := []) (rest := [.ref q_5]) ⟨hx, hb, hml, hown, hw⟩ (c_Ref_init l dC dI q_5 0 0 0 0 0 0 0 0 0 0 0 H.size) (cwI 0 hw g_Ref_init rfl rfl rfl (hw _ m_109) (hw _ m_890) (hw _ m_891) rfl (by decide +kernel) ⟨Nat.le_of_ble_eq_true rfl, Nat.le_of_ble_eq_true rfl⟩) ⟨fun a U g mk q => by obtain ⟨q0, q1, qP, qK, qD, qN⟩ := q; exact ⟨q0, q1, qP, va_K.moved (u := U) (U := U.calling g mk a) (Vm.Alike.refl U.vm) qK, qD, nw_call qN⟩, fun U hU hW => ⟨rfl, by rw [hU], by rw [hU]; exact hPb, va_K.moved hW.alike hKn, hDb.weaken (fun _ _ _ _ => trivial), nw_warm hW hn⟩⟩ rfl rfl hl.1 rfl (lv_room (Nat.le_of_ble_eq_true rfl)) d_law_law_12 ⟨Nat.le_of_ble_eq_true rfl, Nat.le_of_ble_eq_true rfl⟩) hS (fun q _ h => hFc q h) hFc ?_
  intro u t H1 locs1 ht hvm hw1 hB hz1 hk1 hS1
  obtain ⟨Q_6, K_7, hP1, hK1, hD1⟩ := hB
  rw [ht] at hP1
  replace hK1 := va_K.moved hvm.symm hK1
  obtain ⟨n1, n2, n3⟩ := two9 hPa hdj hFc hk1 hD1
  rw [cs_R] at hP1 n2 n3
  rw [cs_T] at hK1
  have hBW : BW9 dC dI q_5 (rm9 Q_6) (rm9 K_7) A s S0 sR9 H1 := ⟨n1, hP1, hKa, hK1, hDa, n2, n3⟩
  clear n1 n2 n3 hP1 hK1 hD1 hk1 hz1 hFc hKn hvm ht hPa hPb hKa hDa hDb hdj hS t locs H hw1 u
  revert H1 locs1
  intro H locs hS hBW
  refine W.widen (k := 130) (n := 2165938) (by exact Nat.le_of_ble_eq_true rfl) (by exact Nat.le_of_ble_eq_true rfl) ?_
  refine tp_pc (pc' := 15) (by rfl) ?_
  refine lv_astore_n (lv' := [(2, .ref q_5), (1, .ref q_1), (0, .ref b)]) hx hb d_law_law_15 rfl hl (by decide) rfl ?_
  clear hl ls
  intro ls hl
  refine lv_iconst (v := 0) hx hb d_law_law_16 (by decide) ?_
  refine lv_istore_n (lv' := [(3, .int 0), (2, .ref q_5), (1, .ref q_1), (0, .ref b)]) hx hb d_law_law_17 rfl hl (by decide) rfl ?_
  clear hl ls
  intro ls hl
  refine tp_pc (pc' := 18) (by rfl) ?_
  exact law_loop (xs := xs) ⟨hx, hb, hml, hown, hw, hX, hbl, hA, hbA, hn⟩ hL hr hlocks hAb L 0 S0 sR9 H locs ls 130 2165938 (by omega) (Nat.zero_le _) hJ hBW hS (by rw [hoa]; exact hl) (by omega) (by omega)
