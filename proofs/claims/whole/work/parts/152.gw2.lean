theorem rgP_ag {K : Nat} {rg vl cv : Nat → Int32} {k s9 : Nat} (h : vl s9 = cv s9) : rgP K rg vl k s9 = rgP K rg cv k s9 := by unfold rgP; rw [h]
theorem vlP_ag {pg : Nat → Nat → Nat} {rg vl cv : Nat → Int32} {v : Int32} {dn a k s9 : Nat} (hv : ∀ q, wr pg dn q → vl q = cv q) (hs : wr pg dn s9) : ∀ q, wr pg (dn ||| 2 ^ a) q → vlP (pg 4 a) rg vl v a k s9 q = vlP (pg 4 a) rg cv v a k s9 q := fun q hq => by
  have hd : q ≠ a + 1 → vl q = cv q := fun hne => by
    refine hv q ?_
    rcases hq with h | ⟨h1, h2, h3⟩
    · exact Or.inl h
    · rw [bit_set, Bool.or_eq_true] at h2
      rcases h2 with h2 | h2
      · exact Or.inr ⟨h1, h2, h3⟩
      · have e : a = q - 1 := by simpa using h2
        exact Or.inl (by omega)
  have up : ∀ x y : Int32, x = y → upd vl (a + 1) x q = upd cv (a + 1) y q := fun x y e => by
    by_cases h : q = a + 1
    · rw [h, pk_us, pk_us, e]
    · rw [pk_un h, pk_un h]; exact hd h
  unfold vlP
  by_cases k1 : pg 4 a = 1
  · rw [if_pos k1, if_pos k1]; exact up _ _ rfl
  · rw [if_neg k1, if_neg k1]
    by_cases k2 : pg 4 a = 2
    · rw [if_pos k2, if_pos k2]; exact up _ _ rfl
    · rw [if_neg k2, if_neg k2]
      by_cases k3 : pg 4 a = 3
      · rw [if_pos k3, if_pos k3]; exact up _ _ (by rw [hv s9 hs])
      · rw [if_neg k3, if_neg k3]
        refine hd fun e => ?_
        rcases hq with h | ⟨h1, h2, h3, h4⟩
        · omega
        · rw [e, Nat.add_sub_cancel] at h3 h4; omega
theorem vlP_bk {pg : Nat → Nat → Nat} {rg cv : Nat → Int32} {v : Int32} {dn a k s9 q : Nat} (hq : wr pg dn q) (ha : dn.testBit a = false) : vlP (pg 4 a) rg cv v a k s9 q = cv q := by
  have hne : q ≠ a + 1 := fun e => by
    rcases hq with h | ⟨h1, h2, h3⟩
    · omega
    · rw [e, Nat.add_sub_cancel, ha] at h2; exact absurd h2 (by decide)
  unfold vlP
  split
  · exact pk_un hne
  · split
    · exact pk_un hne
    · split
      · exact pk_un hne
      · rfl
theorem rgP_bk {K : Nat} {rg cv : Nat → Int32} {k s9 : Nat} : upd (rgP K rg cv k s9) k (rg k) = rg := by
  funext j
  by_cases h : j = k
  · rw [h, pk_us]
  · rw [pk_un h]; unfold rgP; split
    · exact pk_un h
    · rfl
theorem pl_bk {pl : Nat → Nat} {t x y : Nat} (h : y = pl t) : updN (updN pl t x) t y = pl := by
  funext j
  unfold updN
  by_cases e : j = t
  · rw [if_pos e, e, h]
  · rw [if_neg e, if_neg e]
theorem psP_in {K x : Nat} {r v : Int32} (hx : x < 4) : 1 ≤ psP K r v x ∧ psP K r v x ≤ 4 := by unfold psP; split <;> omega
abbrev NX : Type := Nat → Int64 → (Nat → Nat) → (Nat → Int32) → (Nat → Int32) → Nat → Nat → (Nat → Int32) → G9 → G9
/-- the next action a of the thread t, and what follows -/
def callN (pg : Nat → Nat → Nat) (nm : Nat → Int32) (md : Nat) (nx : NX) (d dn : Nat) (so : Int64) (pl : Nat → Nat) (rg cv : Nat → Int32) (mm hd : Nat) (pf : Nat → Int32) (t a : Nat) (g : G9) : G9 :=
  nx (dn ||| 2 ^ a) (srcP so (src9 pg hd mm a) a) (updN pl (pg 2 a) (pl (pg 2 a) + psP (pg 4 a) (rg (pg 6 a)) (nm a) (pg 5 a))) (rgP (pg 4 a) rg cv (pg 6 a) (src9 pg hd mm a)) (vlP (pg 4 a) rg cv (nm a) a (pg 6 a) (src9 pg hd mm a)) (mmP md (pg 4 a) mm (pg 5 a) a) (hdP md (pg 4 a) hd a) (upd pf d (nI (t * 100))) g
/-- it waits for the buffers -/
def wtB (pg : Nat → Nat → Nat) (hd a : Nat) : Prop := (pg 4 a = 4 ∨ pg 4 a = 3) ∧ hd &&& pg 8 (pg 2 a) ≠ 0
def goN (pg : Nat → Nat → Nat) (nm : Nat → Int32) (md : Nat) (nx : NX) (d dn : Nat) (so : Int64) (pl : Nat → Nat) (rg cv : Nat → Int32) (mm hd : Nat) (pf : Nat → Int32) (t : Nat) (g : G9) : Bool × G9 :=
  if pl t < pg 0 t ∧ d < 14 ∧ ¬ ((pg 4 (pg 1 (t * 7 + pl t)) = 4 ∨ pg 4 (pg 1 (t * 7 + pl t)) = 3) ∧ hd &&& pg 8 (pg 2 (pg 1 (t * 7 + pl t))) ≠ 0) then (true, callN pg nm md nx d dn so pl rg cv mm hd pf t (pg 1 (t * 7 + pl t)) g) else (false, g)
/-- the first one of a buffer goes -/
def letG (pg : Nat → Nat → Nat) (nx : NX) (d dn : Nat) (so : Int64) (pl : Nat → Nat) (rg cv : Nat → Int32) (mm hd : Nat) (pf : Nat → Int32) (w num : Nat) (g : G9) : G9 :=
  if w = 0 ∨ 14 ≤ d then g else nx dn so pl rg cv (putM mm (pg 5 (lo9 w)) (lo9 w)) (clr hd (lo9 w)) (upd pf d (nI num)) g
def goB (pg : Nat → Nat → Nat) (md : Nat) (nx : NX) (d dn : Nat) (so : Int64) (pl : Nat → Nat) (rg cv : Nat → Int32) (mm hd : Nat) (pf : Nat → Int32) (t : Nat) (g : G9) : Bool × G9 :=
  if hd &&& pg 8 t = 0 then (false, g) else (true, if md = 1 then letG pg nx d dn so pl rg cv mm hd pf (hd &&& pg 8 t) (t * 100 + 1) g else
    letG pg nx d dn so pl rg cv mm hd pf (hd &&& pg 8 t &&& pg 10 2) (t * 100 + 1 + 2) (letG pg nx d dn so pl rg cv mm hd pf (hd &&& pg 8 t &&& pg 10 1) (t * 100 + 1 + 1) (letG pg nx d dn so pl rg cv mm hd pf (hd &&& pg 8 t &&& pg 10 0) (t * 100 + 1 + 0) g)))
/-- the threads below n: whether none of them went, and what is gathered -/
def goT (pg : Nat → Nat → Nat) (nm : Nat → Int32) (md : Nat) (nx : NX) (d dn : Nat) (so : Int64) (pl : Nat → Nat) (rg cv : Nat → Int32) (mm hd : Nat) (pf : Nat → Int32) : Nat → G9 → Bool × G9
  | 0, g => (true, g)
  | t + 1, g => ((goT pg nm md nx d dn so pl rg cv mm hd pf t g).1 && !(goN pg nm md nx d dn so pl rg cv mm hd pf t (goT pg nm md nx d dn so pl rg cv mm hd pf t g).2).1 && !(goB pg md nx d dn so pl rg cv mm hd pf t (goN pg nm md nx d dn so pl rg cv mm hd pf t (goT pg nm md nx d dn so pl rg cv mm hd pf t g).2).2).1,
      (goB pg md nx d dn so pl rg cv mm hd pf t (goN pg nm md nx d dn so pl rg cv mm hd pf t (goT pg nm md nx d dn so pl rg cv mm hd pf t g).2).2).2)
def nxM (pg : Nat → Nat → Nat) (pl : Nat → Nat) : Nat → Nat
  | 0 => 0
  | t + 1 => nxM pg pl t ||| (if pl t < pg 0 t then 2 ^ pg 1 (t * 7 + pl t) else 0)
/-- the racing pairs of the actions below i -/
def rcN (pg : Nat → Nat → Nat) (M : Nat) (f : Nat → Nat) : Nat → (Nat → Nat)
  | 0 => f
  | i + 1 => if M / 2 ^ i % 2 = 1 then updN (rcN pg M f i) i (rcN pg M f i i ||| (M &&& rivS (pg 4 i) (pg 10 (pg 5 i)) (pg 8 (pg 2 i)) (pg 9 0) (pg 9 3))) else rcN pg M f i
def noteG (md T Ac : Nat) (pg : Nat → Nat → Nat) (pl : Nat → Nat) (g : G9) : G9 := if md = 0 then setR (rcN pg (nxM pg pl T) (gR g) Ac) g else g
def endG (E d : Nat) (rg cv : Nat → Int32) (mm : Nat) (pf : Nat → Int32) (r : Bool × G9) : G9 :=
  if r.1 = true then addOut E (rK rg 7) (vK cv (srcM mm 0) (srcM mm 1) (srcM mm 2)) ((List.range d).map pf) r.2 else r.2
def keyB (so : Int64) (dn mm hd : Nat) : Int64 := ((((keyP so dn) <<< ((9 : Int32).toInt64 &&& 63)) ||| (nI mm).toInt64) <<< ((7 : Int32).toInt64 &&& 63)) ||| (nI hd).toInt64
/-- one state of a run -/
def one9 (E T Ac : Nat) (pg : Nat → Nat → Nat) (nm : Nat → Int32) (md d : Nat) (nx : NX) : NX := fun dn so pl rg cv mm hd pf g =>
  if hasK g (keyB so dn mm hd) = true then g else endG E d rg cv mm pf (goT pg nm md nx d dn so pl rg cv mm hd pf T (noteG md T Ac pg pl (addKey (keyB so dn mm hd) g)))
/-- all runs behind a state with k steps at most -/
def visit (E T Ac : Nat) (pg : Nat → Nat → Nat) (nm : Nat → Int32) (md : Nat) : Nat → NX
  | 0 => one9 E T Ac pg nm md 14 (fun _ _ _ _ _ _ _ _ g => g)
  | k + 1 => one9 E T Ac pg nm md (13 - k) (visit E T Ac pg nm md k)
def gmono (nx : NX) : Prop := ∀ dn so pl rg cv mm hd pf g, gle g (nx dn so pl rg cv mm hd pf g)
section GM
variable {pg : Nat → Nat → Nat} {nm : Nat → Int32} {md : Nat} {nx : NX} {d dn : Nat} {so : Int64} {pl : Nat → Nat} {rg cv : Nat → Int32} {mm hd : Nat} {pf : Nat → Int32} {t : Nat} {g : G9}
theorem gle_goN (hmo : gmono nx) : gle g (goN pg nm md nx d dn so pl rg cv mm hd pf t g).2 := by
  unfold goN; split
  · exact hmo _ _ _ _ _ _ _ _ _
  · exact gle_rf
theorem gle_letG (hmo : gmono nx) {w num : Nat} : gle g (letG pg nx d dn so pl rg cv mm hd pf w num g) := by
  unfold letG; split
  · exact gle_rf
  · exact hmo _ _ _ _ _ _ _ _ _
theorem gle_goB (hmo : gmono nx) : gle g (goB pg md nx d dn so pl rg cv mm hd pf t g).2 := by
  unfold goB; split
  · exact gle_rf
  · dsimp only; split
    · exact gle_letG hmo
    · exact gle_tr (gle_letG hmo) (gle_tr (gle_letG hmo) (gle_letG hmo))
theorem gle_goT (hmo : gmono nx) : ∀ {n : Nat}, gle g (goT pg nm md nx d dn so pl rg cv mm hd pf n g).2
  | 0 => gle_rf
  | _ + 1 => gle_tr (gle_goT hmo) (gle_tr (gle_goN hmo) (gle_goB hmo))
end GM
theorem gle_note {md T Ac : Nat} {pg : Nat → Nat → Nat} {pl : Nat → Nat} {g : G9} : gle g (noteG md T Ac pg pl g) := by
  unfold noteG; split
  · exact gle_setR
  · exact gle_rf
theorem gle_end {E d : Nat} {rg cv : Nat → Int32} {mm : Nat} {pf : Nat → Int32} {r : Bool × G9} : gle r.2 (endG E d rg cv mm pf r) := by
  unfold endG; split
  · exact gle_out
  · exact gle_rf
theorem gmono_one {E T Ac : Nat} {pg : Nat → Nat → Nat} {nm : Nat → Int32} {md d : Nat} {nx : NX} (hmo : gmono nx) : gmono (one9 E T Ac pg nm md d nx) := fun dn so pl rg cv mm hd pf g => by
  unfold one9; split
  · exact gle_rf
  · exact gle_tr gle_key (gle_tr gle_note (gle_tr (gle_goT hmo) gle_end))
theorem gmono_visit {E T Ac : Nat} {pg : Nat → Nat → Nat} {nm : Nat → Int32} {md : Nat} : ∀ k, gmono (visit E T Ac pg nm md k)
  | 0 => gmono_one (fun _ _ _ _ _ _ _ _ _ => gle_rf)
  | k + 1 => gmono_one (gmono_visit k)
section OMloop2
variable {p : Program} {l : Launch} {e : Env} {R : Room} {s : State} {m : MethodId} {args : Array Value} {below : List Frame} {meth : Method} {c : Code} {H : Heap} {locs : List Loc} {cells slots : Nat} {Q : State → Prop} {pc : Nat} {ls : Array Slot}
/-- a counted loop that makes cells -/
theorem lp_c (N : Nat) (J : Nat → Nat → Nat → Heap → List Loc → Array Slot → Prop) (h0 : J 0 cells slots H locs ls)
    (step : ∀ i k n H locs ls, i < N → J i k n H locs ls → (∀ k' n' H' locs' ls', J (i + 1) k' n' H' locs' ls' → W p l e R s m args below meth c H' locs' k' n' Q (F0 m pc ls' [])) → W p l e R s m args below meth c H locs k n Q (F0 m pc ls []))
    (exit : ∀ k n H locs ls, J N k n H locs ls → W p l e R s m args below meth c H locs k n Q (F0 m pc ls [])) : W p l e R s m args below meth c H locs cells slots Q (F0 m pc ls []) := by
  have go : ∀ n i, i + n = N → ∀ k z H locs ls, J i k z H locs ls → W p l e R s m args below meth c H locs k z Q (F0 m pc ls []) := by
    intro n
    induction n with
    | zero => intro i hi k z H locs ls h; exact exit k z H locs ls (by rw [← hi]; exact h)
    | succ n ih => intro i hi k z H locs ls h; exact step i k z H locs ls (by omega) h (fun k' z' H' locs' ls' h' => ih (i + 1) (by omega) k' z' H' locs' ls' h')
  exact go N 0 (Nat.zero_add N) cells slots H locs ls h0
end OMloop2
