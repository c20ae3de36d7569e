abbrev NK : Type := Nat → Int64 → (Nat → Nat) → (Nat → Int32) → (Nat → Int32) → (Nat → Nat) → (Nat → Nat) → (Nat → Nat) → (Nat → Nat) → (Nat → Int32) → G9 → G9
/-- a step of model 3: the action a, what it has its value from, where its written one comes to the row, its number -/
def takeK (pg : Nat → Nat → Nat) (nm : Nat → Int32) (nx : NK) (d dn : Nat) (so : Int64) (pl : Nat → Nat) (rg cv : Nat → Int32) (rw zs le ct : Nat → Nat) (pf : Nat → Int32) (a s9 pc k9 : Nat) (g : G9) : G9 :=
  if 14 ≤ d then g else nx (dn ||| 2 ^ a) (srcP so s9 a) (updN pl (pg 2 a) (pl (pg 2 a) + psP (pg 4 a) (rg (pg 6 a)) (nm a) (pg 5 a))) (rgP (pg 4 a) rg cv (pg 6 a) s9) (vlP (pg 4 a) rg cv (nm a) a (pg 6 a) s9) (rwT pg a pc rw) (zsT pg a pc zs) (leT pg a pc le ct s9) (ctT pg a pc le ct s9) (upd pf d (nI (pg 2 a * 100 + k9))) g
/-- an ADD stands at the place -/
def isAd (pg : Nat → Nat → Nat) (rw zs : Nat → Nat) (x p9 : Nat) : Prop := srA rw zs x p9 ≠ 0 ∧ pg 4 (srA rw zs x p9 - 1) = 3
section GK
variable (pg : Nat → Nat → Nat) (nm : Nat → Int32) (nx : NK) (d dn : Nat) (so : Int64) (pl : Nat → Nat) (rg cv : Nat → Int32) (rw zs le ct : Nat → Nat) (pf : Nat → Int32)
def goRd (a kn : Nat) : Nat → G9 → G9
  | 0, g => g
  | i + 1, g => takeK pg nm nx d dn so pl rg cv rw zs le ct pf a (srA rw zs (pg 5 a) (kn + i)) 0 (kn + i) (goRd a kn i g)
noncomputable def goWr (a kn : Nat) : Nat → G9 → G9
  | 0, g => g
  | i + 1, g => if srA rw zs (pg 5 a) (kn + 1 + i) ≠ 0 ∧ pg 4 (srA rw zs (pg 5 a) (kn + 1 + i) - 1) = 3 then goWr a kn i g else takeK pg nm nx d dn so pl rg cv rw zs le ct pf a 0 (kn + 1 + i) (kn + 1 + i) (goWr a kn i g)
noncomputable def goAd (a kn : Nat) : Nat → G9 → G9
  | 0, g => g
  | i + 1, g => if srA rw zs (pg 5 a) (kn + i + 1) ≠ 0 ∧ pg 4 (srA rw zs (pg 5 a) (kn + i + 1) - 1) = 3 then goAd a kn i g else takeK pg nm nx d dn so pl rg cv rw zs le ct pf a (srA rw zs (pg 5 a) (kn + i)) (kn + i + 1) (kn + i) (goAd a kn i g)
/-- all steps of an action -/
noncomputable def goK (a : Nat) (g : G9) : G9 :=
  if pg 4 a = 0 then goRd pg nm nx d dn so pl rg cv rw zs le ct pf a (knP (le (pg 2 a)) (srA rw zs (pg 5 a)) (zs (pg 5 a))) (zs (pg 5 a) + 1 - knP (le (pg 2 a)) (srA rw zs (pg 5 a)) (zs (pg 5 a))) g
  else if pg 4 a = 1 ∨ pg 4 a = 2 then goWr pg nm nx d dn so pl rg cv rw zs le ct pf a (knP (le (pg 2 a)) (srA rw zs (pg 5 a)) (zs (pg 5 a))) (zs (pg 5 a) + 1 - knP (le (pg 2 a)) (srA rw zs (pg 5 a)) (zs (pg 5 a))) g
  else if pg 4 a = 3 then goAd pg nm nx d dn so pl rg cv rw zs le ct pf a (knP (le (pg 2 a)) (srA rw zs (pg 5 a)) (zs (pg 5 a))) (zs (pg 5 a) + 1 - knP (le (pg 2 a)) (srA rw zs (pg 5 a)) (zs (pg 5 a))) g
  else if pg 4 a = 4 then takeK pg nm nx d dn so pl rg cv rw zs le ct pf a (srA rw zs 3 (zs 3)) (zs 3 + 1) 0 g
  else takeK pg nm nx d dn so pl rg cv rw zs le ct pf a 0 0 0 g
noncomputable def goTK : Nat → G9 → Bool × G9
  | 0, g => (true, g)
  | t + 1, g => if pl t < pg 0 t then (false, goK pg nm nx d dn so pl rg cv rw zs le ct pf (pg 1 (t * 7 + pl t)) (goTK t g).2) else goTK t g
end GK
def keyK (so : Int64) (dn : Nat) (rw zs : Nat → Nat) : Int64 := ((keyP so dn) <<< ((21 : Int32).toInt64 &&& 63)) ||| rwK rw zs 4
def endK (E d : Nat) (rg cv : Nat → Int32) (rw zs : Nat → Nat) (pf : Nat → Int32) (r : Bool × G9) : G9 :=
  if r.1 = true then addOut E (rK rg 7) (vK cv (srA rw zs 0 (zs 0)) (srA rw zs 1 (zs 1)) (srA rw zs 2 (zs 2))) ((List.range d).map pf) r.2 else r.2
noncomputable def oneK (E T : Nat) (pg : Nat → Nat → Nat) (nm : Nat → Int32) (d : Nat) (nx : NK) : NK := fun dn so pl rg cv rw zs le ct pf g =>
  if hasK g (keyK so dn rw zs) = true then g else endK E d rg cv rw zs pf (goTK pg nm nx d dn so pl rg cv rw zs le ct pf T (addKey (keyK so dn rw zs) g))
noncomputable def visitK (E T : Nat) (pg : Nat → Nat → Nat) (nm : Nat → Int32) : Nat → NK
  | 0 => oneK E T pg nm 14 (fun _ _ _ _ _ _ _ _ _ _ g => g)
  | k + 1 => oneK E T pg nm (13 - k) (visitK E T pg nm k)
def kmono (nx : NK) : Prop := ∀ dn so pl rg cv rw zs le ct pf g, gle g (nx dn so pl rg cv rw zs le ct pf g)
section GM2
variable {pg : Nat → Nat → Nat} {nm : Nat → Int32} {nx : NK} {d dn : Nat} {so : Int64} {pl : Nat → Nat} {rg cv : Nat → Int32} {rw zs le ct : Nat → Nat} {pf : Nat → Int32} {a kn : Nat} {g : G9}
theorem gle_takeK (hmo : kmono nx) {s9 pc k9 : Nat} : gle g (takeK pg nm nx d dn so pl rg cv rw zs le ct pf a s9 pc k9 g) := by
  unfold takeK; split
  · exact gle_rf
  · exact hmo _ _ _ _ _ _ _ _ _ _ _
theorem gle_goRd (hmo : kmono nx) {i : Nat} : ∀ {n : Nat}, i ≤ n → gle (goRd pg nm nx d dn so pl rg cv rw zs le ct pf a kn i g) (goRd pg nm nx d dn so pl rg cv rw zs le ct pf a kn n g)
  | 0, h => by rw [Nat.le_zero.mp h]; exact gle_rf
  | n + 1, h => by
    rcases Nat.lt_or_eq_of_le h with q | q
    · exact gle_tr (gle_goRd hmo (Nat.le_of_lt_succ q)) (gle_takeK hmo)
    · rw [q]; exact gle_rf
theorem gle_goWr (hmo : kmono nx) {i : Nat} : ∀ {n : Nat}, i ≤ n → gle (goWr pg nm nx d dn so pl rg cv rw zs le ct pf a kn i g) (goWr pg nm nx d dn so pl rg cv rw zs le ct pf a kn n g)
  | 0, h => by rw [Nat.le_zero.mp h]; exact gle_rf
  | n + 1, h => by
    rcases Nat.lt_or_eq_of_le h with q | q
    · refine gle_tr (gle_goWr hmo (Nat.le_of_lt_succ q)) ?_
      rw [goWr]; split
      · exact gle_rf
      · exact gle_takeK hmo
    · rw [q]; exact gle_rf
theorem gle_goAd (hmo : kmono nx) {i : Nat} : ∀ {n : Nat}, i ≤ n → gle (goAd pg nm nx d dn so pl rg cv rw zs le ct pf a kn i g) (goAd pg nm nx d dn so pl rg cv rw zs le ct pf a kn n g)
  | 0, h => by rw [Nat.le_zero.mp h]; exact gle_rf
  | n + 1, h => by
    rcases Nat.lt_or_eq_of_le h with q | q
    · refine gle_tr (gle_goAd hmo (Nat.le_of_lt_succ q)) ?_
      rw [goAd]; split
      · exact gle_rf
      · exact gle_takeK hmo
    · rw [q]; exact gle_rf
theorem gle_goK (hmo : kmono nx) : gle g (goK pg nm nx d dn so pl rg cv rw zs le ct pf a g) := by
  unfold goK; split
  · exact gle_goRd hmo (i := 0) (Nat.zero_le _)
  · split
    · exact gle_goWr hmo (i := 0) (Nat.zero_le _)
    · split
      · exact gle_goAd hmo (i := 0) (Nat.zero_le _)
      · split
        · exact gle_takeK hmo
        · exact gle_takeK hmo
theorem gle_goTK (hmo : kmono nx) {i : Nat} : ∀ {n : Nat}, i ≤ n → gle (goTK pg nm nx d dn so pl rg cv rw zs le ct pf i g).2 (goTK pg nm nx d dn so pl rg cv rw zs le ct pf n g).2
  | 0, h => by rw [Nat.le_zero.mp h]; exact gle_rf
  | n + 1, h => by
    rcases Nat.lt_or_eq_of_le h with q | q
    · refine gle_tr (gle_goTK hmo (Nat.le_of_lt_succ q)) ?_
      rw [goTK]; split
      · exact gle_goK hmo
      · exact gle_rf
    · rw [q]; exact gle_rf
end GM2
theorem gle_endK {E d : Nat} {rg cv : Nat → Int32} {rw zs : Nat → Nat} {pf : Nat → Int32} {r : Bool × G9} : gle r.2 (endK E d rg cv rw zs pf r) := by
  unfold endK; split
  · exact gle_out
  · exact gle_rf
theorem kmono_one {E T : Nat} {pg : Nat → Nat → Nat} {nm : Nat → Int32} {d : Nat} {nx : NK} (hmo : kmono nx) : kmono (oneK E T pg nm d nx) := fun dn so pl rg cv rw zs le ct pf g => by
  unfold oneK; split
  · exact gle_rf
  · exact gle_tr gle_key (gle_tr (gle_goTK hmo (i := 0) (Nat.zero_le T)) gle_endK)
theorem kmono_visit {E T : Nat} {pg : Nat → Nat → Nat} {nm : Nat → Int32} : ∀ k, kmono (visitK E T pg nm k)
  | 0 => kmono_one (fun _ _ _ _ _ _ _ _ _ _ _ => gle_rf)
  | k + 1 => kmono_one (kmono_visit k)
