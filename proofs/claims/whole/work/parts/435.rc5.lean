/-- a walk of the reference for a model -/
noncomputable def fn9 (R : RX9) (m : Nat) : R9 := if m = 3 then frR (stK (r_zs R) (r_kd R) (r_vx R) (r_rr R) (r_vv R)) (fun s9 => c5 (cd3 (r_T R) s9)) (mkS (r_zs R) (r_kd R) (r_vx R) (r_T R)) (fun s9 => v11 (nv3 s9)) (r_T R) 0 15 bg3 [] (([], [], r_rc R) : R9) else frR (stQ m (r_zs R) (r_kd R) (r_vx R) (r_rr R) (r_vv R)) (fun s9 => c5 (cdB m s9)) (mkS (r_zs R) (r_kd R) (r_vx R) (r_T R)) (fun s9 => v11 (nvB s9)) (r_T R) 0 15 (fun _ => 0) [] (([], [], r_rc R) : R9)
def okO9 (OS : Nat → List O9) (R : RX9) : Prop := okOs OS (r_om R) (r_or R) (r_oc R) (r_ws R) (r_wi R)
/-- the state behind find, and what is found then -/
def sFn9 (OS : Nat → List O9) (R : RX9) (m : Nat) (R2 : RX9) (OS2 : Nat → List O9) : Prop := (r_ff R m = 1 ∧ R2 = R ∧ OS2 = OS) ∨ (r_ff R m = 0 ∧ OS2 = updO OS m (fn9 R m).2.1 ∧ okO9 OS2 R2 ∧ ∃ cb cf mf nx fs kf sp nw oc om or9 ws wi, R2 = nFb9 R m (if m = 3 then 155 else 37) (if m = 3 then bg3 else fun _ => 0) (fn9 R m) cb cf mf nx fs kf sp nw oc om or9 ws wi)
set_option maxHeartbeats 4000000 in
theorem FI9 (l : Launch) (dC : Nat → ClassId) (dI : Nat → Nat → Nat) (ra : Nat) (rA : Nat → Nat) (rK9 : Nat → ClassId) (R : RX9) (OS : Nat → List O9) (m : Nat) (hm : m < 4) (hPr : PrR (r_T R) (r_zs R) (r_kd R) (r_vx R) (r_rr R) (r_vv R)) (hO : okO9 OS R) (hf : r_ff R m = 0 ∨ r_ff R m = 1) (sz : Nat) :
    Met l y_Ref_find w_Ref_find ({ frames := 26, cells := 0, slots := 0, locals := 1400 }) (va_Pc [.ref ra, .int (nI m)] (SR9 dC dI ra rA rK9 R sz)) (va_Qv (fun _ : Unit => True) (fun _ t9 => ∃ R2 OS2, sFn9 OS R m R2 OS2 ∧ PR9 dC dI ra rA rK9 R sz R2 t9) (va_A (rw9 ra rA rK9 R) sz)) 0 0 (va_A (rw9 ra rA rK9 R) sz) := by
  rcases hf with w | w
  · by_cases c : m = 3
    · subst c
      exact Met_cons (rF39 l dC dI ra rA rK9 R 3 OS (fn9 R 3) hPr rfl w hO (if_pos rfl).symm sz) (fun _ _ h => h) (fun _ _ _ _ _ ⟨⟨u, e, w1, cb, cf, mf, nx, fs, kf, sp, nw, oc, om, or9, ws, wi, q1, q2, q3, w3⟩, w4⟩ => ⟨⟨u, e, w1, nFb9 R 3 155 bg3 (fn9 R 3) cb cf mf nx fs kf sp nw oc om or9 ws wi, _, Or.inr ⟨w, rfl, q3, cb, cf, mf, nx, fs, kf, sp, nw, oc, om, or9, ws, wi, rfl⟩, w3⟩, w4⟩)
    · refine Met_cons (rFb9 l dC dI ra rA rK9 R m OS (fn9 R m) hPr (by omega) w hO (if_neg c).symm sz) (fun _ _ h => h) (fun _ _ _ _ _ ⟨⟨u, e, w1, cb, cf, mf, nx, fs, kf, sp, nw, oc, om, or9, ws, wi, q1, q2, q3, w3⟩, w4⟩ => ⟨⟨u, e, w1, nFb9 R m 37 (fun _ => 0) (fn9 R m) cb cf mf nx fs kf sp nw oc om or9 ws wi, _, Or.inr ⟨w, rfl, q3, cb, cf, mf, nx, fs, kf, sp, nw, oc, om, or9, ws, wi, ?_⟩, w3⟩, w4⟩)
      rw [if_neg c, if_neg c]
  · exact Met_cons (Met_room (by decide) (by decide) (rFo9 l dC dI ra rA rK9 R m hm w sz)) (fun _ _ h => h) (fun _ _ _ _ _ ⟨⟨u, e, w1, w3⟩, w4⟩ => ⟨⟨u, e, w1, R, OS, Or.inl ⟨w, rfl, rfl⟩, w3⟩, w4⟩)
