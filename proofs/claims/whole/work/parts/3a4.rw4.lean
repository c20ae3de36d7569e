section LF4
variable {pg : Nat → Nat → Nat} {md Ac mb : Nat} {sc : Nat → Nat → Nat} {RW : Nat → List Nat}
theorem hpC_b9 {r : Nat} {x : LF9} : (hpC pg md Ac mb sc r x).2.1 = x.2.1 ∧ (hpC pg md Ac mb sc r x).1 = x.1 := by
  unfold hpC; split <;> exact ⟨rfl, rfl⟩
theorem apC_out {row : Nat} {x : LF9} {l : List Nat} {b : Nat} (h : ¬ b ∈ l) : (apC pg mb sc row x l).2.1 b = x.2.1 b := rs_out l _ b h
/-- what is before one that is in no row stays -/
theorem lfW_out {b : Nat} : ∀ row x, (∀ y, y ≤ row → ¬ b ∈ RW y) → (lfW pg md Ac mb sc row RW x).2.1 b = x.2.1 b
  | 0, x, h => apC_out (h 0 (Nat.le_refl 0))
  | row + 1, x, h => by
    unfold lfW
    rw [lfW_out row _ (fun y hy => h y (by omega)), hpC_b9.1]
    exact apC_out (h (row + 1) (Nat.le_refl _))
/-- what is before one that is in a row: those ahead, and who takes from one ahead -/
theorem lfW_in {b y : Nat} {l1 l2 : List Nat} (hy : RW y = l1 ++ b :: l2) (h2 : ¬ b ∈ l2) (h3 : ∀ z, z < y → ¬ b ∈ RW z) : ∀ row x, y ≤ row → (lfW pg md Ac mb sc row RW x).2.1 b = (rsF sc (0, wRw pg mb y, 0, sc 7 y, fun _ => 0) l1).2.2.1 ||| clr (rsF sc (0, wRw pg mb y, 0, sc 7 y, fun _ => 0) l1).2.2.2.1 b := by
  have at9 : ∀ x : LF9, (apC pg mb sc y x (RW y)).2.1 b = (rsF sc (0, wRw pg mb y, 0, sc 7 y, fun _ => 0) l1).2.2.1 ||| clr (rsF sc (0, wRw pg mb y, 0, sc 7 y, fun _ => 0) l1).2.2.2.1 b := fun x => by
    show (rsF sc (0, wRw pg mb y, 0, sc 7 y, x.2.1) (RW y)).2.2.2.2 b = _
    rw [hy, rs_in h2]
    obtain ⟨-, -, e3, e4⟩ := rsF_b (sc := sc) (b := x.2.1) l1 (0, wRw pg mb y, 0, sc 7 y, x.2.1) (0, wRw pg mb y, 0, sc 7 y, fun _ => 0) rfl rfl rfl rfl
    rw [e3, e4]
  intro row
  induction row with
  | zero =>
    intro x hr
    have e : y = 0 := by omega
    have := at9 x
    rw [e] at this ⊢
    exact this
  | succ row ih =>
    intro x hr
    unfold lfW
    by_cases e : y = row + 1
    · rw [lfW_out row _ (fun z hz => h3 z (by omega)), hpC_b9.1, ← e]
      exact at9 x
    · exact ih _ (by omega)
theorem lfW_ls {y : Nat} : ∀ row x, y ≤ row → (lfW pg md Ac mb sc row RW x).1 y = lsL (RW y)
  | 0, x, h => by
    have e : y = 0 := by omega
    rw [e]
    show updN x.1 0 _ 0 = _
    rw [updN_s]; exact rs_last (RW 0)
  | row + 1, x, h => by
    unfold lfW
    by_cases e : y = row + 1
    · have hi : ∀ r (z : LF9), r < y → (lfW pg md Ac mb sc r RW z).1 y = z.1 y := fun r => by
        induction r with
        | zero => intro z hr; exact updN_n (by omega)
        | succ r ih =>
          intro z hr
          unfold lfW
          rw [ih _ (by omega), hpC_b9.2]
          exact updN_n (by omega)
      rw [hi row _ (by omega), hpC_b9.2, ← e]
      show updN x.1 y _ y = _
      rw [updN_s]; exact rs_last (RW y)
    · exact lfW_ls row _ (by omega)
end LF4
