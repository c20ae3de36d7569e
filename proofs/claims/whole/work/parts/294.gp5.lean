/-- threads on their way: places, registers, what is given, what happens, what is done -/
abbrev A9 := (Nat → Nat) × (Nat → Int32) × (Nat → Int32) × (Nat → Nat) × (Nat → Nat)
def acV (kd fm : Nat → Nat) (gv : Nat → Int32) (a : Nat) : Int32 := if (kd a = 0 ∨ kd a = 3) ∧ ¬ fm a = 0 then gv (fm a - 1) else 0
def acG (kd rr fm : Nat → Nat) (vv hd gv : Nat → Int32) (t a : Nat) : Nat → Int32 :=
  if kd a = 4 then gv else if kd a = 1 then upd gv a (vv a) else if kd a = 2 then upd gv a (hd (2 * t + rr a) + vv a) else upd gv a (acV kd fm gv a + vv a)
def acH (kd rr fm : Nat → Nat) (hd gv : Nat → Int32) (t a : Nat) : Nat → Int32 := if kd a = 0 ∨ kd a = 3 then upd hd (2 * t + rr a) (acV kd fm gv a) else hd
/-- one action of a thread, if it need not wait -/
def acF (zs kd vx rr fm : Nat → Nat) (vv : Nat → Int32) (t : Nat) (g : A9) : Option A9 :=
  if kd (7 * t + g.1 t) = 5 then some (updN g.1 t (if zs t < g.1 t + (if g.2.1 (2 * t + rr (7 * t + g.1 t)) = vv (7 * t + g.1 t) then 1 else 1 + vx (7 * t + g.1 t)) then zs t else g.1 t + (if g.2.1 (2 * t + rr (7 * t + g.1 t)) = vv (7 * t + g.1 t) then 1 else 1 + vx (7 * t + g.1 t))), g.2)
  else if (kd (7 * t + g.1 t) = 0 ∨ kd (7 * t + g.1 t) = 3) ∧ ¬ fm (7 * t + g.1 t) = 0 ∧ g.2.2.2.2 (fm (7 * t + g.1 t) - 1) = 0 then none
  else some (updN g.1 t (g.1 t + 1), acH kd rr fm g.2.1 g.2.2.1 t (7 * t + g.1 t), acG kd rr fm vv g.2.1 g.2.2.1 t (7 * t + g.1 t), updN g.2.2.2.1 (7 * t + g.1 t) 1, updN g.2.2.2.2 (7 * t + g.1 t) 1)
set_option maxHeartbeats 4000000 in
set_option maxRecDepth 100000 in
theorem gen_Ref_act (l : Launch) (dC : Nat → ClassId) (dI : Nat → Nat → Nat) (ra : Nat) (rA : Nat → Nat) (rK9 : Nat → ClassId) (T Ac md wd mn cb ld gm my : Nat) (ir mr : Int32) (t : Nat) (zs kd vx rr fm : Nat → Nat) (vv : Nat → Int32) (g : A9) (o9 : Option A9) (ht : t < 4) (hpc : g.1 t < zs t) (hzt : zs t ≤ 7) (hkd : ∀ i, i < 28 → kd i < 6 ∧ vx i < 4 ∧ rr i < 2) (hfm : ∀ i, i < 28 → fm i ≤ 28) (hdn : ∀ i, i < 28 → g.2.2.2.2 i < 2) (ho : acF zs kd vx rr fm vv t g = o9) (sz : Nat) : Met l y_Ref_act w_Ref_act ({ frames := 1, cells := 0, slots := 0, locals := 40 }) (va_Pc [.ref ra, .int (nI t)] (fun U => U.heap.size = sz ∧ va_P (dC, dI) classes [oc ra 8 [.int (nI T), .int (nI Ac), .ref (rA 2), .ref (rA 3), .ref (rA 4), .ref (rA 5), .ref (rA 6), .ref (rA 7), .ref (rA 8), .ref (rA 9), .ref (rA 10), .ref (rA 11), .ref (rA 12), .ref (rA 13), .int ir, .ref (rA 15), .ref (rA 16), .ref (rA 17), .ref (rA 18), .int (nI md), .int (nI wd), .ref (rA 21), .ref (rA 22), .ref (rA 23), .int (nI mn), .ref (rA 25), .int (nI cb), .int mr, .ref (rA 28), .ref (rA 29), .ref (rA 30), .ref (rA 31), .ref (rA 32), .ref (rA 33), .ref (rA 34), .ref (rA 35), .int (nI ld), .int (nI gm), .ref (rA 38), .ref (rA 39), .ref (rA 40), .ref (rA 41), .ref (rA 42), .ref (rA 43), .ref (rA 44), .ref (rA 45), .int (nI my), .ref (rA 47)], ia (rA 33) (rK9 33) 4 (fun i => nI (g.1 i)), ia (rA 2) (rK9 2) 4 (fun i => nI (zs i)), ia (rA 3) (rK9 3) 28 (fun i => nI (kd i)), ia (rA 4) (rK9 4) 28 (fun i => nI (vx i)), ia (rA 5) (rK9 5) 28 (fun i => nI (rr i)), ia (rA 6) (rK9 6) 28 vv, ia (rA 34) (rK9 34) 8 g.2.1, ia (rA 29) (rK9 29) 28 (fun i0 => mN (fm i0)), ia (rA 31) (rK9 31) 28 (fun i => nI (g.2.2.2.2 i)), ia (rA 32) (rK9 32) 28 g.2.2.1, ia (rA 30) (rK9 30) 28 (fun i => nI (g.2.2.2.1 i))] U.heap ∧ va_K (dC, dI) classes [((rK9 33), .int), ((rK9 2), .int), ((rK9 3), .int), ((rK9 4), .int), ((rK9 5), .int), ((rK9 6), .int), ((rK9 34), .int), ((rK9 29), .int), ((rK9 31), .boolean), ((rK9 32), .int), ((rK9 30), .boolean)] U ∧ va_D (fun _ => True) [oc ra 8 [.int (nI T), .int (nI Ac), .ref (rA 2), .ref (rA 3), .ref (rA 4), .ref (rA 5), .ref (rA 6), .ref (rA 7), .ref (rA 8), .ref (rA 9), .ref (rA 10), .ref (rA 11), .ref (rA 12), .ref (rA 13), .int ir, .ref (rA 15), .ref (rA 16), .ref (rA 17), .ref (rA 18), .int (nI md), .int (nI wd), .ref (rA 21), .ref (rA 22), .ref (rA 23), .int (nI mn), .ref (rA 25), .int (nI cb), .int mr, .ref (rA 28), .ref (rA 29), .ref (rA 30), .ref (rA 31), .ref (rA 32), .ref (rA 33), .ref (rA 34), .ref (rA 35), .int (nI ld), .int (nI gm), .ref (rA 38), .ref (rA 39), .ref (rA 40), .ref (rA 41), .ref (rA 42), .ref (rA 43), .ref (rA 44), .ref (rA 45), .int (nI my), .ref (rA 47)], ia (rA 33) (rK9 33) 4 (fun i => nI (g.1 i)), ia (rA 2) (rK9 2) 4 (fun i => nI (zs i)), ia (rA 3) (rK9 3) 28 (fun i => nI (kd i)), ia (rA 4) (rK9 4) 28 (fun i => nI (vx i)), ia (rA 5) (rK9 5) 28 (fun i => nI (rr i)), ia (rA 6) (rK9 6) 28 vv, ia (rA 34) (rK9 34) 8 g.2.1, ia (rA 29) (rK9 29) 28 (fun i0 => mN (fm i0)), ia (rA 31) (rK9 31) 28 (fun i => nI (g.2.2.2.2 i)), ia (rA 32) (rK9 32) 28 g.2.2.1, ia (rA 30) (rK9 30) 28 (fun i => nI (g.2.2.2.1 i))] ∧ nw U)) (va_Qi (fun (r : Int32) (_ : Unit) => r = if o9.isSome = true then 1 else 0) (fun _ t9 => va_P (dC, dI) classes [oc ra 8 [.int (nI T), .int (nI Ac), .ref (rA 2), .ref (rA 3), .ref (rA 4), .ref (rA 5), .ref (rA 6), .ref (rA 7), .ref (rA 8), .ref (rA 9), .ref (rA 10), .ref (rA 11), .ref (rA 12), .ref (rA 13), .int ir, .ref (rA 15), .ref (rA 16), .ref (rA 17), .ref (rA 18), .int (nI md), .int (nI wd), .ref (rA 21), .ref (rA 22), .ref (rA 23), .int (nI mn), .ref (rA 25), .int (nI cb), .int mr, .ref (rA 28), .ref (rA 29), .ref (rA 30), .ref (rA 31), .ref (rA 32), .ref (rA 33), .ref (rA 34), .ref (rA 35), .int (nI ld), .int (nI gm), .ref (rA 38), .ref (rA 39), .ref (rA 40), .ref (rA 41), .ref (rA 42), .ref (rA 43), .ref (rA 44), .ref (rA 45), .int (nI my), .ref (rA 47)], ia (rA 33) (rK9 33) 4 (fun i => nI (((o9.getD g).1) i)), ia (rA 2) (rK9 2) 4 (fun i => nI (zs i)), ia (rA 3) (rK9 3) 28 (fun i => nI (kd i)), ia (rA 4) (rK9 4) 28 (fun i => nI (vx i)), ia (rA 5) (rK9 5) 28 (fun i => nI (rr i)), ia (rA 6) (rK9 6) 28 vv, ia (rA 34) (rK9 34) 8 ((o9.getD g).2.1), ia (rA 29) (rK9 29) 28 (fun i0 => mN (fm i0)), ia (rA 31) (rK9 31) 28 (fun i => nI (((o9.getD g).2.2.2.2) i)), ia (rA 32) (rK9 32) 28 ((o9.getD g).2.2.1), ia (rA 30) (rK9 30) 28 (fun i => nI (((o9.getD g).2.2.2.1) i))] t9.heap ∧ va_K (dC, dI) classes [] t9 ∧ va_D (va_A [oc ra 8 [.int (nI T), .int (nI Ac), .ref (rA 2), .ref (rA 3), .ref (rA 4), .ref (rA 5), .ref (rA 6), .ref (rA 7), .ref (rA 8), .ref (rA 9), .ref (rA 10), .ref (rA 11), .ref (rA 12), .ref (rA 13), .int ir, .ref (rA 15), .ref (rA 16), .ref (rA 17), .ref (rA 18), .int (nI md), .int (nI wd), .ref (rA 21), .ref (rA 22), .ref (rA 23), .int (nI mn), .ref (rA 25), .int (nI cb), .int mr, .ref (rA 28), .ref (rA 29), .ref (rA 30), .ref (rA 31), .ref (rA 32), .ref (rA 33), .ref (rA 34), .ref (rA 35), .int (nI ld), .int (nI gm), .ref (rA 38), .ref (rA 39), .ref (rA 40), .ref (rA 41), .ref (rA 42), .ref (rA 43), .ref (rA 44), .ref (rA 45), .int (nI my), .ref (rA 47)], ia (rA 33) (rK9 33) 4 (fun i => nI (g.1 i)), ia (rA 2) (rK9 2) 4 (fun i => nI (zs i)), ia (rA 3) (rK9 3) 28 (fun i => nI (kd i)), ia (rA 4) (rK9 4) 28 (fun i => nI (vx i)), ia (rA 5) (rK9 5) 28 (fun i => nI (rr i)), ia (rA 6) (rK9 6) 28 vv, ia (rA 34) (rK9 34) 8 g.2.1, ia (rA 29) (rK9 29) 28 (fun i0 => mN (fm i0)), ia (rA 31) (rK9 31) 28 (fun i => nI (g.2.2.2.2 i)), ia (rA 32) (rK9 32) 28 g.2.2.1, ia (rA 30) (rK9 30) 28 (fun i => nI (g.2.2.2.1 i))] sz) [oc ra 8 [.int (nI T), .int (nI Ac), .ref (rA 2), .ref (rA 3), .ref (rA 4), .ref (rA 5), .ref (rA 6), .ref (rA 7), .ref (rA 8), .ref (rA 9), .ref (rA 10), .ref (rA 11), .ref (rA 12), .ref (rA 13), .int ir, .ref (rA 15), .ref (rA 16), .ref (rA 17), .ref (rA 18), .int (nI md), .int (nI wd), .ref (rA 21), .ref (rA 22), .ref (rA 23), .int (nI mn), .ref (rA 25), .int (nI cb), .int mr, .ref (rA 28), .ref (rA 29), .ref (rA 30), .ref (rA 31), .ref (rA 32), .ref (rA 33), .ref (rA 34), .ref (rA 35), .int (nI ld), .int (nI gm), .ref (rA 38), .ref (rA 39), .ref (rA 40), .ref (rA 41), .ref (rA 42), .ref (rA 43), .ref (rA 44), .ref (rA 45), .int (nI my), .ref (rA 47)], ia (rA 33) (rK9 33) 4 (fun i => nI (((o9.getD g).1) i)), ia (rA 2) (rK9 2) 4 (fun i => nI (zs i)), ia (rA 3) (rK9 3) 28 (fun i => nI (kd i)), ia (rA 4) (rK9 4) 28 (fun i => nI (vx i)), ia (rA 5) (rK9 5) 28 (fun i => nI (rr i)), ia (rA 6) (rK9 6) 28 vv, ia (rA 34) (rK9 34) 8 ((o9.getD g).2.1), ia (rA 29) (rK9 29) 28 (fun i0 => mN (fm i0)), ia (rA 31) (rK9 31) 28 (fun i => nI (((o9.getD g).2.2.2.2) i)), ia (rA 32) (rK9 32) 28 ((o9.getD g).2.2.1), ia (rA 30) (rK9 30) 28 (fun i => nI (((o9.getD g).2.2.2.1) i))]) (va_A [oc ra 8 [.int (nI T), .int (nI Ac), .ref (rA 2), .ref (rA 3), .ref (rA 4), .ref (rA 5), .ref (rA 6), .ref (rA 7), .ref (rA 8), .ref (rA 9), .ref (rA 10), .ref (rA 11), .ref (rA 12), .ref (rA 13), .int ir, .ref (rA 15), .ref (rA 16), .ref (rA 17), .ref (rA 18), .int (nI md), .int (nI wd), .ref (rA 21), .ref (rA 22), .ref (rA 23), .int (nI mn), .ref (rA 25), .int (nI cb), .int mr, .ref (rA 28), .ref (rA 29), .ref (rA 30), .ref (rA 31), .ref (rA 32), .ref (rA 33), .ref (rA 34), .ref (rA 35), .int (nI ld), .int (nI gm), .ref (rA 38), .ref (rA 39), .ref (rA 40), .ref (rA 41), .ref (rA 42), .ref (rA 43), .ref (rA 44), .ref (rA 45), .int (nI my), .ref (rA 47)], ia (rA 33) (rK9 33) 4 (fun i => nI (g.1 i)), ia (rA 2) (rK9 2) 4 (fun i => nI (zs i)), ia (rA 3) (rK9 3) 28 (fun i => nI (kd i)), ia (rA 4) (rK9 4) 28 (fun i => nI (vx i)), ia (rA 5) (rK9 5) 28 (fun i => nI (rr i)), ia (rA 6) (rK9 6) 28 vv, ia (rA 34) (rK9 34) 8 g.2.1, ia (rA 29) (rK9 29) 28 (fun i0 => mN (fm i0)), ia (rA 31) (rK9 31) 28 (fun i => nI (g.2.2.2.2 i)), ia (rA 32) (rK9 32) 28 g.2.2.1, ia (rA 30) (rK9 30) 28 (fun i => nI (g.2.2.2.1 i))] sz)) 0 0 (va_A [oc ra 8 [.int (nI T), .int (nI Ac), .ref (rA 2), .ref (rA 3), .ref (rA 4), .ref (rA 5), .ref (rA 6), .ref (rA 7), .ref (rA 8), .ref (rA 9), .ref (rA 10), .ref (rA 11), .ref (rA 12), .ref (rA 13), .int ir, .ref (rA 15), .ref (rA 16), .ref (rA 17), .ref (rA 18), .int (nI md), .int (nI wd), .ref (rA 21), .ref (rA 22), .ref (rA 23), .int (nI mn), .ref (rA 25), .int (nI cb), .int mr, .ref (rA 28), .ref (rA 29), .ref (rA 30), .ref (rA 31), .ref (rA 32), .ref (rA 33), .ref (rA 34), .ref (rA 35), .int (nI ld), .int (nI gm), .ref (rA 38), .ref (rA 39), .ref (rA 40), .ref (rA 41), .ref (rA 42), .ref (rA 43), .ref (rA 44), .ref (rA 45), .int (nI my), .ref (rA 47)], ia (rA 33) (rK9 33) 4 (fun i => nI (g.1 i)), ia (rA 2) (rK9 2) 4 (fun i => nI (zs i)), ia (rA 3) (rK9 3) 28 (fun i => nI (kd i)), ia (rA 4) (rK9 4) 28 (fun i => nI (vx i)), ia (rA 5) (rK9 5) 28 (fun i => nI (rr i)), ia (rA 6) (rK9 6) 28 vv, ia (rA 34) (rK9 34) 8 g.2.1, ia (rA 29) (rK9 29) 28 (fun i0 => mN (fm i0)), ia (rA 31) (rK9 31) 28 (fun i => nI (g.2.2.2.2 i)), ia (rA 32) (rK9 32) 28 g.2.2.1, ia (rA 30) (rK9 30) 28 (fun i => nI (g.2.2.2.1 i))] sz) := by
  obtain ⟨pcn, hd9, gv, hp, dn⟩ := g
  replace hpc : pcn t < zs t := hpc
  replace hdn : ∀ i, i < 28 → dn i < 2 := hdn
  unfold acF at ho
  simp only [] at ho
  obtain ⟨a, ha⟩ : ∃ a, a = 7 * t + pcn t := ⟨_, rfl⟩
  rw [← ha] at ho
  have ha28 : a < 28 := by omega
  obtain ⟨k1, k2, k3⟩ := hkd a ha28
  have hfa28 := hfm a ha28
  rcases (by omega : kd a = 5 ∨ kd a = 4 ∨ kd a = 1 ∨ kd a = 2 ∨ kd a = 0 ∨ kd a = 3) with hkk | hkk | hkk | hkk | hkk | hkk
  · skip
    have ho2 : o9 = some ((updN pcn t (if zs t < pcn t + (if hd9 (2 * t + rr a) = vv a then 1 else 1 + vx a) then zs t else pcn t + (if hd9 (2 * t + rr a) = vv a then 1 else 1 + vx a)), hd9, gv, hp, dn)) := by rw [← ho, if_pos hkk]
    subst ho2
    refine Met_cons (gen_Ref_act_5 l dC dI ra rA rK9 T Ac md wd mn cb ld gm my ir mr t a pcn zs kd vx rr fm dn hp vv hd9 gv ht ha hpc hzt k2 k3 hkk sz) (fun _ _ h => h) (fun a st o t _ hq => ?_)
    obtain ⟨⟨r, u, w1, w2, hP, hK, hD9⟩, hF⟩ := hq
    exact ⟨⟨r, u, w1, w2.trans rfl, hP, hK, hD9⟩, hF⟩
  · skip
    have ho2 : o9 = some ((updN pcn t (pcn t + 1), hd9, gv, updN hp a 1, updN dn a 1)) := by rw [← ho, if_neg (by omega), if_neg (fun q => absurd q.1 (by omega)), acH, if_neg (by omega), acG, if_pos hkk]
    subst ho2
    refine Met_cons (gen_Ref_act_4 l dC dI ra rA rK9 T Ac md wd mn cb ld gm my ir mr t a pcn zs kd vx rr fm dn hp vv hd9 gv ht ha hpc hzt k2 k3 hkk sz) (fun _ _ h => h) (fun a st o t _ hq => ?_)
    obtain ⟨⟨r, u, w1, w2, hP, hK, hD9⟩, hF⟩ := hq
    exact ⟨⟨r, u, w1, w2.trans rfl, hP, hK, hD9⟩, hF⟩
  · skip
    have ho2 : o9 = some ((updN pcn t (pcn t + 1), hd9, upd gv a (vv a), updN hp a 1, updN dn a 1)) := by rw [← ho, if_neg (by omega), if_neg (fun q => absurd q.1 (by omega)), acH, if_neg (by omega), acG, if_neg (by omega), if_pos hkk]
    subst ho2
    refine Met_cons (gen_Ref_act_1 l dC dI ra rA rK9 T Ac md wd mn cb ld gm my ir mr t a pcn zs kd vx rr fm dn hp vv hd9 gv ht ha hpc hzt k2 k3 hkk sz) (fun _ _ h => h) (fun a st o t _ hq => ?_)
    obtain ⟨⟨r, u, w1, w2, hP, hK, hD9⟩, hF⟩ := hq
    exact ⟨⟨r, u, w1, w2.trans rfl, hP, hK, hD9⟩, hF⟩
  · skip
    have ho2 : o9 = some ((updN pcn t (pcn t + 1), hd9, upd gv a (hd9 (2 * t + rr a) + vv a), updN hp a 1, updN dn a 1)) := by rw [← ho, if_neg (by omega), if_neg (fun q => absurd q.1 (by omega)), acH, if_neg (by omega), acG, if_neg (by omega), if_neg (by omega), if_pos hkk]
    subst ho2
    refine Met_cons (gen_Ref_act_2 l dC dI ra rA rK9 T Ac md wd mn cb ld gm my ir mr t a pcn zs kd vx rr fm dn hp vv hd9 gv ht ha hpc hzt k2 k3 hkk sz) (fun _ _ h => h) (fun a st o t _ hq => ?_)
    obtain ⟨⟨r, u, w1, w2, hP, hK, hD9⟩, hF⟩ := hq
    exact ⟨⟨r, u, w1, w2.trans rfl, hP, hK, hD9⟩, hF⟩
  · skip
    by_cases hf0 : fm a = 0
    · skip
      have ho2 : o9 = some ((updN pcn t (pcn t + 1), upd hd9 (2 * t + rr a) 0, upd gv a (0 + vv a), updN hp a 1, updN dn a 1)) := by rw [← ho, if_neg (by omega), if_neg (fun q => q.2.1 hf0), acH, if_pos (by omega), acG, if_neg (by omega), if_neg (by omega), if_neg (by omega), acV, if_neg (fun q => q.2 hf0)]
      subst ho2
      refine Met_cons (gen_Ref_act_0n l dC dI ra rA rK9 T Ac md wd mn cb ld gm my ir mr t a pcn zs kd vx rr fm dn hp vv hd9 gv ht ha hpc hzt k2 k3 hkk hf0 sz) (fun _ _ h => h) (fun a st o t _ hq => ?_)
      obtain ⟨⟨r, u, w1, w2, hP, hK, hD9⟩, hF⟩ := hq
      exact ⟨⟨r, u, w1, w2.trans rfl, hP, hK, hD9⟩, hF⟩
    · skip
      have hfa : fm a = fm a - 1 + 1 := by omega
      have hd2 := hdn (fm a - 1) (by omega)
      by_cases hw : dn (fm a - 1) = 0
      · skip
        have ho2 : o9 = none := by rw [← ho, if_neg (by omega), if_pos ⟨by omega, hf0, hw⟩]
        subst ho2
        refine Met_cons (gen_Ref_act_0w l dC dI ra rA rK9 T Ac md wd mn cb ld gm my ir mr t a pcn zs kd vx rr fm dn hp vv hd9 gv (fm a - 1) ht ha hpc hzt k2 k3 hkk hfa (by omega) hw sz) (fun _ _ h => h) (fun a st o t _ hq => ?_)
        obtain ⟨⟨r, u, w1, w2, hP, hK, hD9⟩, hF⟩ := hq
        exact ⟨⟨r, u, w1, w2.trans rfl, hP, hK, hD9⟩, hF⟩
      · skip
        have ho2 : o9 = some ((updN pcn t (pcn t + 1), upd hd9 (2 * t + rr a) (gv (fm a - 1)), upd gv a (gv (fm a - 1) + vv a), updN hp a 1, updN dn a 1)) := by rw [← ho, if_neg (by omega), if_neg (fun q => hw q.2.2), acH, if_pos (by omega), acG, if_neg (by omega), if_neg (by omega), if_neg (by omega), acV, if_pos ⟨by omega, hf0⟩]
        subst ho2
        refine Met_cons (gen_Ref_act_0s l dC dI ra rA rK9 T Ac md wd mn cb ld gm my ir mr t a pcn zs kd vx rr fm dn hp vv hd9 gv (fm a - 1) ht ha hpc hzt k2 k3 hkk hfa (by omega) (by omega) sz) (fun _ _ h => h) (fun a st o t _ hq => ?_)
        obtain ⟨⟨r, u, w1, w2, hP, hK, hD9⟩, hF⟩ := hq
        exact ⟨⟨r, u, w1, w2.trans rfl, hP, hK, hD9⟩, hF⟩
  · skip
    by_cases hf0 : fm a = 0
    · skip
      have ho2 : o9 = some ((updN pcn t (pcn t + 1), upd hd9 (2 * t + rr a) 0, upd gv a (0 + vv a), updN hp a 1, updN dn a 1)) := by rw [← ho, if_neg (by omega), if_neg (fun q => q.2.1 hf0), acH, if_pos (by omega), acG, if_neg (by omega), if_neg (by omega), if_neg (by omega), acV, if_neg (fun q => q.2 hf0)]
      subst ho2
      refine Met_cons (gen_Ref_act_3n l dC dI ra rA rK9 T Ac md wd mn cb ld gm my ir mr t a pcn zs kd vx rr fm dn hp vv hd9 gv ht ha hpc hzt k2 k3 hkk hf0 sz) (fun _ _ h => h) (fun a st o t _ hq => ?_)
      obtain ⟨⟨r, u, w1, w2, hP, hK, hD9⟩, hF⟩ := hq
      exact ⟨⟨r, u, w1, w2.trans rfl, hP, hK, hD9⟩, hF⟩
    · skip
      have hfa : fm a = fm a - 1 + 1 := by omega
      have hd2 := hdn (fm a - 1) (by omega)
      by_cases hw : dn (fm a - 1) = 0
      · skip
        have ho2 : o9 = none := by rw [← ho, if_neg (by omega), if_pos ⟨by omega, hf0, hw⟩]
        subst ho2
        refine Met_cons (gen_Ref_act_3w l dC dI ra rA rK9 T Ac md wd mn cb ld gm my ir mr t a pcn zs kd vx rr fm dn hp vv hd9 gv (fm a - 1) ht ha hpc hzt k2 k3 hkk hfa (by omega) hw sz) (fun _ _ h => h) (fun a st o t _ hq => ?_)
        obtain ⟨⟨r, u, w1, w2, hP, hK, hD9⟩, hF⟩ := hq
        exact ⟨⟨r, u, w1, w2.trans rfl, hP, hK, hD9⟩, hF⟩
      · skip
        have ho2 : o9 = some ((updN pcn t (pcn t + 1), upd hd9 (2 * t + rr a) (gv (fm a - 1)), upd gv a (gv (fm a - 1) + vv a), updN hp a 1, updN dn a 1)) := by rw [← ho, if_neg (by omega), if_neg (fun q => hw q.2.2), acH, if_pos (by omega), acG, if_neg (by omega), if_neg (by omega), if_neg (by omega), acV, if_pos ⟨by omega, hf0⟩]
        subst ho2
        refine Met_cons (gen_Ref_act_3s l dC dI ra rA rK9 T Ac md wd mn cb ld gm my ir mr t a pcn zs kd vx rr fm dn hp vv hd9 gv (fm a - 1) ht ha hpc hzt k2 k3 hkk hfa (by omega) (by omega) sz) (fun _ _ h => h) (fun a st o t _ hq => ?_)
        obtain ⟨⟨r, u, w1, w2, hP, hK, hD9⟩, hF⟩ := hq
        exact ⟨⟨r, u, w1, w2.trans rfl, hP, hK, hD9⟩, hF⟩
