/-- the written one at a place of a row; 0: the first one -/
def srA (rw zs : Nat → Nat) (x p9 : Nat) : Nat := if p9 < 1 ∨ zs x < p9 then 0 else rw x / 2 ^ (3 * (p9 - 1)) % 8
theorem srA_lt {rw zs : Nat → Nat} {x p9 : Nat} : srA rw zs x p9 < 8 := by
  unfold srA; split
  · decide
  · exact Nat.mod_lt _ (by decide)
theorem sh7_eq {q k : Nat} (hq : q < 2 ^ 31) (hk : k < 32) : (nI q >>> (nI k &&& 31)) &&& 7 = nI (q / 2 ^ k % 8) := by
  rw [pk_shrN hq _ k (sh_amt k hk)]
  exact pk_andN (Nat.lt_of_le_of_lt (Nat.div_le_self _ _) (by omega)) 3 (by decide)
theorem nI_or (a b : Nat) : nI a ||| nI b = nI (a ||| b) := by
  apply Int32.toBitVec_inj.mp
  rw [Int32.toBitVec_or]
  show BitVec.ofNat 32 a ||| BitVec.ofNat 32 b = BitVec.ofNat 32 (a ||| b)
  exact BitVec.ofNat_or.symm
theorem low_eq {q k : Nat} (hq : q < 2 ^ 31) (hk : k < 31) : nI q &&& (((1 : Int32) <<< (nI k &&& 31)) - 1) = nI (q % 2 ^ k) := by
  refine pk_andN (by omega) k ?_
  have h1 : 2 ^ k ≤ 2 ^ 30 := Nat.pow_le_pow_right (by decide) (by omega)
  have e : (1 : Int32) <<< (nI k &&& 31) = nI (2 ^ k) := by
    have := pk_shlN (n := 1) (nI k &&& 31) k (sh_amt k (by omega)) (by omega)
    rw [Nat.one_mul] at this; exact this
  rw [e]; exact mask_n (by omega)
/-- a written one comes to a place of a row -/
def insR (q p9 q9 : Nat) : Nat := ((q % 2 ^ (3 * (p9 - 1))) ||| (q9 * 2 ^ (3 * (p9 - 1)))) ||| (q / 2 ^ (3 * (p9 - 1)) * 2 ^ (3 * (p9 - 1) + 3))
theorem insR_lt {q p9 q9 : Nat} (hp1 : 1 ≤ p9) (hp9 : p9 ≤ 7) (hr9 : q < 2 ^ 18) (hq8 : q9 < 8) : q % 2 ^ (3 * (p9 - 1)) < 2 ^ 21 ∧ q9 * 2 ^ (3 * (p9 - 1)) < 2 ^ 21 ∧ q / 2 ^ (3 * (p9 - 1)) * 2 ^ (3 * (p9 - 1) + 3) < 2 ^ 21 ∧ insR q p9 q9 < 2 ^ 21 := by
  have h1 : q % 2 ^ (3 * (p9 - 1)) < 2 ^ 21 := Nat.lt_of_le_of_lt (Nat.mod_le _ _) (by omega)
  have h2 : q9 * 2 ^ (3 * (p9 - 1)) < 2 ^ 21 := by
    have : 2 ^ (3 * (p9 - 1)) ≤ 2 ^ 18 := Nat.pow_le_pow_right (by decide) (by omega)
    calc q9 * 2 ^ (3 * (p9 - 1)) ≤ 7 * 2 ^ 18 := Nat.mul_le_mul (by omega) this
      _ < 2 ^ 21 := by decide
  have h3 : q / 2 ^ (3 * (p9 - 1)) * 2 ^ (3 * (p9 - 1) + 3) < 2 ^ 21 := by
    rw [Nat.pow_add, ← Nat.mul_assoc]
    have := Nat.div_mul_le_self q (2 ^ (3 * (p9 - 1)))
    omega
  exact ⟨h1, h2, h3, Nat.or_lt_two_pow (Nat.or_lt_two_pow h1 h2) h3⟩
/-- the last place of a row that is known -/
def knP (K : Nat) (f : Nat → Nat) : Nat → Nat
  | 0 => 0
  | p + 1 => if K / 2 ^ (f (p + 1) - 1) % 2 = 1 then p + 1 else knP K f p
def rwK (rw zs : Nat → Nat) : Nat → Int64
  | 0 => 0
  | n + 1 => (rwK rw zs n <<< ((nI (3 * zs n) : Int32).toInt64 &&& 63)) ||| (nI (rw n)).toInt64
section OMloop3
variable {p : Program} {l : Launch} {e : Env} {R : Room} {s : State} {m : MethodId} {args : Array Value} {below : List Frame} {meth : Method} {c : Code} {H : Heap} {locs : List Loc} {cells slots : Nat} {Q : State → Prop} {pc : Nat} {ls : Array Slot}
/-- a loop that counts down -/
theorem lp_nd (N : Nat) (J : Nat → Heap → List Loc → Array Slot → Prop) (h0 : J N H locs ls)
    (step : ∀ i H locs ls, J (i + 1) H locs ls → (∀ H' locs' ls', J i H' locs' ls' → W p l e R s m args below meth c H' locs' cells slots Q (F0 m pc ls' [])) → W p l e R s m args below meth c H locs cells slots Q (F0 m pc ls []))
    (exit : ∀ H locs ls, J 0 H locs ls → W p l e R s m args below meth c H locs cells slots Q (F0 m pc ls [])) : W p l e R s m args below meth c H locs cells slots Q (F0 m pc ls []) := by
  have go : ∀ n H locs ls, J n H locs ls → W p l e R s m args below meth c H locs cells slots Q (F0 m pc ls []) := by
    intro n
    induction n with
    | zero => intro H locs ls h; exact exit H locs ls h
    | succ n ih => intro H locs ls h; exact step n H locs ls h (fun H' locs' ls' h' => ih H' locs' ls' h')
  exact go N H locs ls h0
end OMloop3
