theorem oF9 {A : Nat → Prop} {ws : va_W} {H0 H : Heap} {locs : List Loc} (hD : va_D A ws) (hS : va_S A H0 H locs) (hA : ∀ q, H0.size ≤ q → A q) (q : Nat) (h : va_A ws H.size q) : A q := by
  rcases h with ⟨k, e, w⟩ | w
  · exact hD.2 k (q, e) w
  · exact hA q (Nat.le_trans hS.1 w)
/-- behind a call of the class: its world -/
theorem oN9 {l : Launch} {dC : Nat → ClassId} {dI : Nat → Nat → Nat} {S S2 : CX9} {A : Nat → Prop} {s t : State} {H1 : Heap} {z : Nat} (hK : va_K (dC, dI) classes (ct9 S) s) (hF : ∀ q, va_A (cw9 S) z q → A q) (hB : PW9 l dC dI S z S2 t) (ht : t.heap = H1) (hvm : s.vm.Alike t.vm) :
    va_P (dC, dI) classes (cw9 S2) H1 ∧ va_K (dC, dI) classes (ct9 S2) s ∧ va_D A (cw9 S2) := by
  obtain ⟨h1, ⟨tn, h2, h3⟩, h4⟩ := hB
  rw [ht] at h1
  exact ⟨h1, KM9 hK (va_K.moved hvm.symm h2) h3, h4.weaken (fun _ _ _ h => hF _ h)⟩
noncomputable def gR9 (S : CX9) (m : Nat) : G9 := if m = 3 then walkK (o_E (x_SA S 3)) (x_T S) (x_pg S) (x_nm S) (x_KL S) (x_SL S) (o_C (x_SA S 3)) else walkG (o_E (x_SA S m)) (x_T S) (x_Ac S) (x_pg S) (x_nm S) m (x_KL S) (x_SL S) (o_C (x_SA S m)) (x_rc S)
noncomputable def gG9 (S : CX9) (m : Nat) : Z9 := srG (x_pg S) (x_nm S) (o_E (x_SB S m)) m (x_T S) (x_Ac S) (x_sc S) (o_C (x_SB S m)) (x_Z S)
/-- what every call of the class needs -/
def OkB9 (S : CX9) : Prop := PgOk (x_T S) (x_Ac S) (x_pg S) ∧ x_vl S 0 = 0 ∧ (∀ i, x_rc S i < 128) ∧ x_tl S 0 = 0 ∧ x_KL S < 2 ^ 23 ∧ x_SL S < 2 ^ 31 ∧ ZOk (x_Z S) ∧
  (∀ m, m < 4 → o_C (x_SA S m) ≤ 65536 ∧ o_C (x_SB S m) ≤ 65536 ∧ o_E (x_SA S m) = (if m = 1 ∨ m = 2 then 14 else 7) ∧ o_E (x_SB S m) = 0 ∧ (o_rd (x_SA S m) = 0 ∨ o_rd (x_SA S m) = 1) ∧ (o_rd (x_SB S m) = 0 ∨ o_rd (x_SB S m) = 1)) ∧
  (∀ m, m < 4 → (gL (gR9 S m)).length ≤ 524288 ∧ (gF (gR9 S m)).length ≤ 8192 ∧ (gF (yg (zy (gG9 S m)))).length ≤ 8192)
noncomputable def mcR9 (S : CX9) (m : Nat) : Nat := if o_rd (x_SA S m) = 1 then 0 else gc (gR9 S m)
noncomputable def msR9 (S : CX9) (m : Nat) : Nat := if o_rd (x_SA S m) = 1 then 0 else gs (gR9 S m)
noncomputable def mcG9 (S : CX9) (m : Nat) : Nat := if o_rd (x_SB S m) = 1 then 0 else gc (yg (zy (gG9 S m)))
noncomputable def msG9 (S : CX9) (m : Nat) : Nat := if o_rd (x_SB S m) = 1 then 0 else gs (yg (zy (gG9 S m)))
/-- the state behind foundByRuns -/
def sRn9 (S : CX9) (m : Nat) (S2 : CX9) : Prop := (o_rd (x_SA S m) = 1 ∧ S2 = S) ∨ (o_rd (x_SA S m) = 0 ∧ m < 3 ∧ ∃ j1 j2 d1 d2 kf sf ad ck rf vf lf qf of vl pv, okS (gR9 S m) kf sf ∧ okF (o_E (x_SA S m)) (gR9 S m) rf vf lf qf of ∧ (∀ i, gR (gR9 S m) i < 128) ∧ vl 0 = 0 ∧ S2 = nB9 S m (gR9 S m) j1 j2 d1 d2 kf sf ad ck rf vf lf qf of vl pv) ∨
  (o_rd (x_SA S m) = 0 ∧ m = 3 ∧ ∃ j1 j2 d1 d2 kf sf ad ck rf vf lf qf of vl pv tl, okS (gR9 S m) kf sf ∧ okF (o_E (x_SA S m)) (gR9 S m) rf vf lf qf of ∧ vl 0 = 0 ∧ tl 0 = 0 ∧ S2 = nK9 S (gR9 S m) j1 j2 d1 d2 kf sf ad ck rf vf lf qf of vl pv tl)
def sGn9 (S : CX9) (m : Nat) (S2 : CX9) : Prop := (o_rd (x_SB S m) = 1 ∧ S2 = S) ∨ (o_rd (x_SB S m) = 0 ∧ ∃ ad ck rf vf lf qf of vl, okH (yg (zy (gG9 S m))) rf vf of ∧ ZOk (gG9 S m) ∧ vl 0 = 0 ∧ S2 = nG9 S m (gG9 S m) ad ck rf vf lf qf of vl)
theorem gR_3 {S : CX9} : walkK (o_E (x_SA S 3)) (x_T S) (x_pg S) (x_nm S) (x_KL S) (x_SL S) (o_C (x_SA S 3)) = gR9 S 3 := (if_pos rfl).symm
theorem gR_m {S : CX9} {m : Nat} (h : m ≠ 3) : walkG (o_E (x_SA S m)) (x_T S) (x_Ac S) (x_pg S) (x_nm S) m (x_KL S) (x_SL S) (o_C (x_SA S m)) (x_rc S) = gR9 S m := (if_neg h).symm
theorem Met_eq9 {l : Launch} {y : MethodName} {cs : List Cond} {f lo c c' s9 s9' : Nat} {Pc : Array Value → State → Prop} {Qc : Array Value → State → Outcome → State → Prop} {free : Addr → Prop} (hc : c = c') (hs : s9 = s9') (h : Met l y cs ({ frames := f, cells := c, slots := s9, locals := lo }) Pc Qc c s9 free) : Met l y cs ({ frames := f, cells := c', slots := s9', locals := lo }) Pc Qc c' s9' free := by subst hc hs; exact h
set_option maxHeartbeats 4000000 in
/-- foundByRuns, for every model -/
theorem FR9 (l : Launch) (dC : Nat → ClassId) (dI : Nat → Nat → Nat) (S : CX9) (m : Nat) (hm : m < 4) (hO : OkB9 S) (sz : Nat) : Met l y_OM_foundByRuns w_OM_foundByRuns ({ frames := 82, cells := mcR9 S m, slots := msR9 S m, locals := 4100 }) (va_Pc [.ref (x_oa S), .int (nI m)] (SW9 dC dI S sz)) (va_Qr (fun _ : Unit => True) (fun _ a t9 => ∃ S2, a = x_fA S m ∧ sRn9 S m S2 ∧ PW9 l dC dI S sz S2 t9) (va_A (cw9 S) sz)) (mcR9 S m) (msR9 S m) (va_A (cw9 S) sz) := by
  obtain ⟨o1, o2, o3, o4, o5, o6, o7, o8, o9⟩ := hO
  obtain ⟨a1, a2, a3, a4, a5, a6⟩ := o8 m hm
  obtain ⟨b1, b2, b3⟩ := o9 m hm
  by_cases r : o_rd (x_SA S m) = 1
  · have e1 : 0 = mcR9 S m := (if_pos r).symm
    have e2 : 0 = msR9 S m := (if_pos r).symm
    refine Met_eq9 e1 e2 ?_
    have c : m = 0 ∨ m = 1 ∨ m = 2 ∨ m = 3 := by omega
    rcases c with rfl | rfl | rfl | rfl
    · exact Met_cons (Met_room (by decide) (by decide) (fR9r0 l dC dI S r sz)) (fun _ _ h => h) (fun _ _ _ _ _ ⟨⟨u, a, e, w1, w2, w3⟩, w4⟩ => ⟨⟨u, a, e, w1, S, w2, Or.inl ⟨r, rfl⟩, w3⟩, w4⟩)
    · exact Met_cons (Met_room (by decide) (by decide) (fR9r1 l dC dI S r sz)) (fun _ _ h => h) (fun _ _ _ _ _ ⟨⟨u, a, e, w1, w2, w3⟩, w4⟩ => ⟨⟨u, a, e, w1, S, w2, Or.inl ⟨r, rfl⟩, w3⟩, w4⟩)
    · exact Met_cons (Met_room (by decide) (by decide) (fR9r2 l dC dI S r sz)) (fun _ _ h => h) (fun _ _ _ _ _ ⟨⟨u, a, e, w1, w2, w3⟩, w4⟩ => ⟨⟨u, a, e, w1, S, w2, Or.inl ⟨r, rfl⟩, w3⟩, w4⟩)
    · exact Met_cons (Met_room (by decide) (by decide) (fR9r3 l dC dI S r sz)) (fun _ _ h => h) (fun _ _ _ _ _ ⟨⟨u, a, e, w1, w2, w3⟩, w4⟩ => ⟨⟨u, a, e, w1, S, w2, Or.inl ⟨r, rfl⟩, w3⟩, w4⟩)
  · have r0 := a5.resolve_right r
    have e1 : gc (gR9 S m) = mcR9 S m := (if_neg r).symm
    have e2 : gs (gR9 S m) = msR9 S m := (if_neg r).symm
    refine Met_eq9 e1 e2 ?_
    have c : m = 0 ∨ m = 1 ∨ m = 2 ∨ m = 3 := by omega
    rcases c with rfl | rfl | rfl | rfl
    · exact Met_cons (Met_room (by decide) (by decide) (fR9n0 l dC dI S (gR9 S 0) o1 a3 o2 o3 o5 o6 a1 (gR_m (by decide)) ⟨b1, b2⟩ r0 sz)) (fun _ _ h => h) (fun _ _ _ _ _ ⟨⟨u, a, e, w1, j1, j2, d1, d2, kf, sf, ad, ck, rf, vf, lf, qf, of, vl, pv, w2, x1, x2, x3, x4, w3⟩, w4⟩ => ⟨⟨u, a, e, w1, _, w2, Or.inr (Or.inl ⟨r0, by decide, j1, j2, d1, d2, kf, sf, ad, ck, rf, vf, lf, qf, of, vl, pv, x1, x2, x3, x4, rfl⟩), w3⟩, w4⟩)
    · exact Met_cons (Met_room (by decide) (by decide) (fR9n1 l dC dI S (gR9 S 1) o1 a3 o2 o3 o5 o6 a1 (gR_m (by decide)) ⟨b1, b2⟩ r0 sz)) (fun _ _ h => h) (fun _ _ _ _ _ ⟨⟨u, a, e, w1, j1, j2, d1, d2, kf, sf, ad, ck, rf, vf, lf, qf, of, vl, pv, w2, x1, x2, x3, x4, w3⟩, w4⟩ => ⟨⟨u, a, e, w1, _, w2, Or.inr (Or.inl ⟨r0, by decide, j1, j2, d1, d2, kf, sf, ad, ck, rf, vf, lf, qf, of, vl, pv, x1, x2, x3, x4, rfl⟩), w3⟩, w4⟩)
    · exact Met_cons (Met_room (by decide) (by decide) (fR9n2 l dC dI S (gR9 S 2) o1 a3 o2 o3 o5 o6 a1 (gR_m (by decide)) ⟨b1, b2⟩ r0 sz)) (fun _ _ h => h) (fun _ _ _ _ _ ⟨⟨u, a, e, w1, j1, j2, d1, d2, kf, sf, ad, ck, rf, vf, lf, qf, of, vl, pv, w2, x1, x2, x3, x4, w3⟩, w4⟩ => ⟨⟨u, a, e, w1, _, w2, Or.inr (Or.inl ⟨r0, by decide, j1, j2, d1, d2, kf, sf, ad, ck, rf, vf, lf, qf, of, vl, pv, x1, x2, x3, x4, rfl⟩), w3⟩, w4⟩)
    · exact Met_cons (Met_room (by decide) (by decide) (fR9n3 l dC dI S (gR9 S 3) o1 a3 o2 o4 o5 o6 a1 gR_3 ⟨b1, b2⟩ r0 sz)) (fun _ _ h => h) (fun _ _ _ _ _ ⟨⟨u, a, e, w1, j1, j2, d1, d2, kf, sf, ad, ck, rf, vf, lf, qf, of, vl, pv, tl, w2, x1, x2, x3, x4, w3⟩, w4⟩ => ⟨⟨u, a, e, w1, _, w2, Or.inr (Or.inr ⟨r0, rfl, j1, j2, d1, d2, kf, sf, ad, ck, rf, vf, lf, qf, of, vl, pv, tl, x1, x2, x3, x4, rfl⟩), w3⟩, w4⟩)
set_option maxHeartbeats 4000000 in
/-- foundByGraphs, for every model -/
theorem FG9 (l : Launch) (dC : Nat → ClassId) (dI : Nat → Nat → Nat) (S : CX9) (m : Nat) (hm : m < 4) (hO : OkB9 S) (sz : Nat) : Met l y_OM_foundByGraphs w_OM_foundByGraphs ({ frames := 102, cells := mcG9 S m, slots := msG9 S m, locals := 5100 }) (va_Pc [.ref (x_oa S), .int (nI m)] (SW9 dC dI S sz)) (va_Qr (fun _ : Unit => True) (fun _ a t9 => ∃ S2, a = x_fB S m ∧ sGn9 S m S2 ∧ PW9 l dC dI S sz S2 t9) (va_A (cw9 S) sz)) (mcG9 S m) (msG9 S m) (va_A (cw9 S) sz) := by
  obtain ⟨o1, o2, o3, o4, o5, o6, o7, o8, o9⟩ := hO
  obtain ⟨a1, a2, a3, a4, a5, a6⟩ := o8 m hm
  obtain ⟨b1, b2, b3⟩ := o9 m hm
  by_cases r : o_rd (x_SB S m) = 1
  · have e1 : 0 = mcG9 S m := (if_pos r).symm
    have e2 : 0 = msG9 S m := (if_pos r).symm
    refine Met_eq9 e1 e2 ?_
    have c : m = 0 ∨ m = 1 ∨ m = 2 ∨ m = 3 := by omega
    rcases c with rfl | rfl | rfl | rfl
    · exact Met_cons (Met_room (by decide) (by decide) (fG9r0 l dC dI S r sz)) (fun _ _ h => h) (fun _ _ _ _ _ ⟨⟨u, a, e, w1, w2, w3⟩, w4⟩ => ⟨⟨u, a, e, w1, S, w2, Or.inl ⟨r, rfl⟩, w3⟩, w4⟩)
    · exact Met_cons (Met_room (by decide) (by decide) (fG9r1 l dC dI S r sz)) (fun _ _ h => h) (fun _ _ _ _ _ ⟨⟨u, a, e, w1, w2, w3⟩, w4⟩ => ⟨⟨u, a, e, w1, S, w2, Or.inl ⟨r, rfl⟩, w3⟩, w4⟩)
    · exact Met_cons (Met_room (by decide) (by decide) (fG9r2 l dC dI S r sz)) (fun _ _ h => h) (fun _ _ _ _ _ ⟨⟨u, a, e, w1, w2, w3⟩, w4⟩ => ⟨⟨u, a, e, w1, S, w2, Or.inl ⟨r, rfl⟩, w3⟩, w4⟩)
    · exact Met_cons (Met_room (by decide) (by decide) (fG9r3 l dC dI S r sz)) (fun _ _ h => h) (fun _ _ _ _ _ ⟨⟨u, a, e, w1, w2, w3⟩, w4⟩ => ⟨⟨u, a, e, w1, S, w2, Or.inl ⟨r, rfl⟩, w3⟩, w4⟩)
  · have r0 := a6.resolve_right r
    have e1 : gc (yg (zy (gG9 S m))) = mcG9 S m := (if_neg r).symm
    have e2 : gs (yg (zy (gG9 S m))) = msG9 S m := (if_neg r).symm
    have hE : o_E (x_SB S m) ≤ 16 := by omega
    refine Met_eq9 e1 e2 ?_
    have c : m = 0 ∨ m = 1 ∨ m = 2 ∨ m = 3 := by omega
    rcases c with rfl | rfl | rfl | rfl
    · exact Met_cons (Met_room (by decide) (by decide) (fG9n0 l dC dI S (gG9 S 0) o1 hE o2 a2 o7 rfl b3 r0 sz)) (fun _ _ h => h) (fun _ _ _ _ _ ⟨⟨u, a, e, w1, ad, ck, rf, vf, lf, qf, of, vl, w2, x1, x2, x3, w3⟩, w4⟩ => ⟨⟨u, a, e, w1, _, w2, Or.inr ⟨r0, ad, ck, rf, vf, lf, qf, of, vl, x1, x2, x3, rfl⟩, w3⟩, w4⟩)
    · exact Met_cons (Met_room (by decide) (by decide) (fG9n1 l dC dI S (gG9 S 1) o1 hE o2 a2 o7 rfl b3 r0 sz)) (fun _ _ h => h) (fun _ _ _ _ _ ⟨⟨u, a, e, w1, ad, ck, rf, vf, lf, qf, of, vl, w2, x1, x2, x3, w3⟩, w4⟩ => ⟨⟨u, a, e, w1, _, w2, Or.inr ⟨r0, ad, ck, rf, vf, lf, qf, of, vl, x1, x2, x3, rfl⟩, w3⟩, w4⟩)
    · exact Met_cons (Met_room (by decide) (by decide) (fG9n2 l dC dI S (gG9 S 2) o1 hE o2 a2 o7 rfl b3 r0 sz)) (fun _ _ h => h) (fun _ _ _ _ _ ⟨⟨u, a, e, w1, ad, ck, rf, vf, lf, qf, of, vl, w2, x1, x2, x3, w3⟩, w4⟩ => ⟨⟨u, a, e, w1, _, w2, Or.inr ⟨r0, ad, ck, rf, vf, lf, qf, of, vl, x1, x2, x3, rfl⟩, w3⟩, w4⟩)
    · exact Met_cons (Met_room (by decide) (by decide) (fG9n3 l dC dI S (gG9 S 3) o1 hE o2 a2 o7 rfl b3 r0 sz)) (fun _ _ h => h) (fun _ _ _ _ _ ⟨⟨u, a, e, w1, ad, ck, rf, vf, lf, qf, of, vl, w2, x1, x2, x3, w3⟩, w4⟩ => ⟨⟨u, a, e, w1, _, w2, Or.inr ⟨r0, ad, ck, rf, vf, lf, qf, of, vl, x1, x2, x3, rfl⟩, w3⟩, w4⟩)
