/-- the place of an entry in a row -/
def plF (sf : Nat → Int32) (y : Nat) (e : Int32) : Nat := fF (fun q => sf (41 + 8 * y + q) == e) 8 0 - 1
def inY (sf : Nat → Int32) (y : Nat) (e : Int32) : Prop := ∃ q, q < 8 ∧ sf (41 + 8 * y + q) = e
theorem fF_first {p : Nat → Bool} : ∀ (n i : Nat), (∃ q, i ≤ q ∧ q < i + n ∧ p q = true) → fF p n i ≠ 0 ∧ i ≤ fF p n i - 1 ∧ fF p n i - 1 < i + n ∧ p (fF p n i - 1) = true ∧ ∀ q, i ≤ q → q < fF p n i - 1 → p q = false
  | 0, i, ⟨q, h1, h2, _⟩ => absurd h2 (by omega)
  | n + 1, i, ⟨q, h1, h2, h3⟩ => by
    unfold fF
    cases hp : p i with
    | true => rw [if_pos rfl]; exact ⟨Nat.succ_ne_zero i, Nat.le_refl _, by omega, hp, fun q a b => absurd b (by omega)⟩
    | false =>
      rw [if_neg (by decide)]
      have hq : i ≠ q := fun e => by rw [← e, hp] at h3; exact absurd h3 (by decide)
      obtain ⟨g1, g2, g3, g4, g5⟩ := fF_first n (i + 1) ⟨q, by omega, by omega, h3⟩
      exact ⟨g1, by omega, by omega, g4, fun q a b => by
        by_cases e : q = i
        · rw [e]; exact hp
        · exact g5 q (by omega) b⟩
theorem plF_ok {sf : Nat → Int32} {y : Nat} {e : Int32} (h : inY sf y e) : plF sf y e < 8 ∧ sf (41 + 8 * y + plF sf y e) = e ∧ ∀ q, q < plF sf y e → ¬ sf (41 + 8 * y + q) = e := by
  obtain ⟨q, h1, h2⟩ := h
  obtain ⟨-, -, g3, g4, g5⟩ := fF_first (p := fun q => sf (41 + 8 * y + q) == e) 8 0 ⟨q, Nat.zero_le q, by omega, by simpa using h2⟩
  exact ⟨by unfold plF; omega, by unfold plF; simpa using g4, fun q hq he => by
    have := g5 q (Nat.zero_le q) hq
    rw [show (sf (41 + 8 * y + q) == e) = true from by simpa using he] at this
    exact absurd this (by decide)⟩
/-- one that is in a row: its value, whether it is an ADD, what it knows -/
def knB (sf : Nat → Int32) (wn : Nat) : Nat → List (Int64 × Nat) := fun y => [((nI (plF sf y (sf (95 + 4 * wn + y)))).toInt64, 3)]
def enB1 (sf : Nat → Int32) (wn : Nat) : List (Int64 × Nat) := ((sf (73 + wn) + 64).toInt64, 7) :: ((sf (84 + wn)).toInt64, 1) :: mpL (knB sf wn) 4
def tkB (sf : Nat → Int32) (x : Nat) : Nat → List (Int64 × Nat) := fun t => [((nI (plF sf x (sf (139 + 4 * t + x)))).toInt64, 3)]
def rwB (sf : Nat → Int32) (T : Nat) (zz : Nat → Nat) (ro : Nat → Nat → Nat) : Nat → List (Int64 × Nat) := fun x =>
  ((sf (37 + x)).toInt64, 4) :: (mpL (fun j => enB1 sf (ro x (j + 1))) (zz x - 1) ++ mpL (tkB sf x) T)
/-- a state of model 3 in fields -/
def en3 (sf : Nat → Int32) (T : Nat) (zz : Nat → Nat) (ro : Nat → Nat → Nat) : List (Int64 × Nat) := hdB sf ++ mpL (rwB sf T zz ro) 4
theorem knB_sz (sf : Nat → Int32) (wn : Nat) : ∀ i, szB (mpL (knB sf wn) i) = 3 * i
  | 0 => rfl
  | i + 1 => by rw [mpL, szB_app, knB_sz sf wn i]; rfl
theorem tkB_sz (sf : Nat → Int32) (x : Nat) : ∀ i, szB (mpL (tkB sf x) i) = 3 * i
  | 0 => rfl
  | i + 1 => by rw [mpL, szB_app, tkB_sz sf x i]; rfl
theorem enB1_sz (sf : Nat → Int32) (wn : Nat) : szB (enB1 sf wn) = 20 := by
  unfold enB1; rw [szB, szB, knB_sz]; rfl
set_option maxHeartbeats 4000000 in
set_option maxRecDepth 100000 in
theorem gen_Ref_encodeRows (l : Launch) (dC : Nat → ClassId) (dI : Nat → Nat → Nat) (ra : Nat) (rA : Nat → Nat) (rK9 : Nat → ClassId) (T Ac md wd mn cb ld gm my : Nat) (ir mr : Int32) (sf : Nat → Int32) (zz : Nat → Nat) (ro : Nat → Nat → Nat) (L0 : List (Int64 × Nat)) (hcb : cb = szB L0) (hT4 : T ≤ 4) (hzz : ∀ x, x < 4 → sf (37 + x) = nI (zz x) ∧ 1 ≤ zz x ∧ zz x ≤ 8) (hro : ∀ x, x < 4 → ∀ q, q < zz x → sf (41 + 8 * x + q) = nI (ro x q) ∧ ro x q < 11) (hkn : ∀ x, x < 4 → ∀ q, q < zz x → ∀ y, y < 4 → inY sf y (sf (95 + 4 * ro x q + y))) (htk : ∀ t, t < T → ∀ y, y < 4 → inY sf y (sf (139 + 4 * t + y))) (hs3 : szB (L0 ++ mpL (rwB sf T zz ro) 4) ≤ 320) (sz : Nat) : Met l y_Ref_encodeRows w_Ref_encodeRows ({ frames := 1, cells := 0, slots := 0, locals := 60 }) (va_Pc [.ref ra] (fun U => U.heap.size = sz ∧ va_P (dC, dI) classes [oc ra 8 [.int (nI T), .int (nI Ac), .ref (rA 2), .ref (rA 3), .ref (rA 4), .ref (rA 5), .ref (rA 6), .ref (rA 7), .ref (rA 8), .ref (rA 9), .ref (rA 10), .ref (rA 11), .ref (rA 12), .ref (rA 13), .int ir, .ref (rA 15), .ref (rA 16), .ref (rA 17), .ref (rA 18), .int (nI md), .int (nI wd), .ref (rA 21), .ref (rA 22), .ref (rA 23), .int (nI mn), .ref (rA 25), .int (nI cb), .int mr, .ref (rA 28), .ref (rA 29), .ref (rA 30), .ref (rA 31), .ref (rA 32), .ref (rA 33), .ref (rA 34), .ref (rA 35), .int (nI ld), .int (nI gm), .ref (rA 38), .ref (rA 39), .ref (rA 40), .ref (rA 41), .ref (rA 42), .ref (rA 43), .ref (rA 44), .ref (rA 45), .int (nI my), .ref (rA 47)], la (rA 25) (rK9 25) 5 ((wrB L0).1), ia (rA 16) (rK9 16) 155 sf] U.heap ∧ va_K (dC, dI) classes [((rK9 25), .long), ((rK9 16), .int)] U ∧ va_D (fun _ => True) [oc ra 8 [.int (nI T), .int (nI Ac), .ref (rA 2), .ref (rA 3), .ref (rA 4), .ref (rA 5), .ref (rA 6), .ref (rA 7), .ref (rA 8), .ref (rA 9), .ref (rA 10), .ref (rA 11), .ref (rA 12), .ref (rA 13), .int ir, .ref (rA 15), .ref (rA 16), .ref (rA 17), .ref (rA 18), .int (nI md), .int (nI wd), .ref (rA 21), .ref (rA 22), .ref (rA 23), .int (nI mn), .ref (rA 25), .int (nI cb), .int mr, .ref (rA 28), .ref (rA 29), .ref (rA 30), .ref (rA 31), .ref (rA 32), .ref (rA 33), .ref (rA 34), .ref (rA 35), .int (nI ld), .int (nI gm), .ref (rA 38), .ref (rA 39), .ref (rA 40), .ref (rA 41), .ref (rA 42), .ref (rA 43), .ref (rA 44), .ref (rA 45), .int (nI my), .ref (rA 47)], la (rA 25) (rK9 25) 5 ((wrB L0).1), ia (rA 16) (rK9 16) 155 sf] ∧ nw U)) (va_Qv (fun _ : Unit => True) (fun _ t9 => va_P (dC, dI) classes [oc ra 8 [.int (nI T), .int (nI Ac), .ref (rA 2), .ref (rA 3), .ref (rA 4), .ref (rA 5), .ref (rA 6), .ref (rA 7), .ref (rA 8), .ref (rA 9), .ref (rA 10), .ref (rA 11), .ref (rA 12), .ref (rA 13), .int ir, .ref (rA 15), .ref (rA 16), .ref (rA 17), .ref (rA 18), .int (nI md), .int (nI wd), .ref (rA 21), .ref (rA 22), .ref (rA 23), .int (nI mn), .ref (rA 25), .int (nI (szB (L0 ++ mpL (rwB sf T zz ro) 4))), .int mr, .ref (rA 28), .ref (rA 29), .ref (rA 30), .ref (rA 31), .ref (rA 32), .ref (rA 33), .ref (rA 34), .ref (rA 35), .int (nI ld), .int (nI gm), .ref (rA 38), .ref (rA 39), .ref (rA 40), .ref (rA 41), .ref (rA 42), .ref (rA 43), .ref (rA 44), .ref (rA 45), .int (nI my), .ref (rA 47)], la (rA 25) (rK9 25) 5 ((wrB (L0 ++ mpL (rwB sf T zz ro) 4)).1), ia (rA 16) (rK9 16) 155 sf] t9.heap ∧ va_K (dC, dI) classes [] t9 ∧ va_D (va_A [oc ra 8 [.int (nI T), .int (nI Ac), .ref (rA 2), .ref (rA 3), .ref (rA 4), .ref (rA 5), .ref (rA 6), .ref (rA 7), .ref (rA 8), .ref (rA 9), .ref (rA 10), .ref (rA 11), .ref (rA 12), .ref (rA 13), .int ir, .ref (rA 15), .ref (rA 16), .ref (rA 17), .ref (rA 18), .int (nI md), .int (nI wd), .ref (rA 21), .ref (rA 22), .ref (rA 23), .int (nI mn), .ref (rA 25), .int (nI cb), .int mr, .ref (rA 28), .ref (rA 29), .ref (rA 30), .ref (rA 31), .ref (rA 32), .ref (rA 33), .ref (rA 34), .ref (rA 35), .int (nI ld), .int (nI gm), .ref (rA 38), .ref (rA 39), .ref (rA 40), .ref (rA 41), .ref (rA 42), .ref (rA 43), .ref (rA 44), .ref (rA 45), .int (nI my), .ref (rA 47)], la (rA 25) (rK9 25) 5 ((wrB L0).1), ia (rA 16) (rK9 16) 155 sf] sz) [oc ra 8 [.int (nI T), .int (nI Ac), .ref (rA 2), .ref (rA 3), .ref (rA 4), .ref (rA 5), .ref (rA 6), .ref (rA 7), .ref (rA 8), .ref (rA 9), .ref (rA 10), .ref (rA 11), .ref (rA 12), .ref (rA 13), .int ir, .ref (rA 15), .ref (rA 16), .ref (rA 17), .ref (rA 18), .int (nI md), .int (nI wd), .ref (rA 21), .ref (rA 22), .ref (rA 23), .int (nI mn), .ref (rA 25), .int (nI (szB (L0 ++ mpL (rwB sf T zz ro) 4))), .int mr, .ref (rA 28), .ref (rA 29), .ref (rA 30), .ref (rA 31), .ref (rA 32), .ref (rA 33), .ref (rA 34), .ref (rA 35), .int (nI ld), .int (nI gm), .ref (rA 38), .ref (rA 39), .ref (rA 40), .ref (rA 41), .ref (rA 42), .ref (rA 43), .ref (rA 44), .ref (rA 45), .int (nI my), .ref (rA 47)], la (rA 25) (rK9 25) 5 ((wrB (L0 ++ mpL (rwB sf T zz ro) 4)).1), ia (rA 16) (rK9 16) 155 sf]) (va_A [oc ra 8 [.int (nI T), .int (nI Ac), .ref (rA 2), .ref (rA 3), .ref (rA 4), .ref (rA 5), .ref (rA 6), .ref (rA 7), .ref (rA 8), .ref (rA 9), .ref (rA 10), .ref (rA 11), .ref (rA 12), .ref (rA 13), .int ir, .ref (rA 15), .ref (rA 16), .ref (rA 17), .ref (rA 18), .int (nI md), .int (nI wd), .ref (rA 21), .ref (rA 22), .ref (rA 23), .int (nI mn), .ref (rA 25), .int (nI cb), .int mr, .ref (rA 28), .ref (rA 29), .ref (rA 30), .ref (rA 31), .ref (rA 32), .ref (rA 33), .ref (rA 34), .ref (rA 35), .int (nI ld), .int (nI gm), .ref (rA 38), .ref (rA 39), .ref (rA 40), .ref (rA 41), .ref (rA 42), .ref (rA 43), .ref (rA 44), .ref (rA 45), .int (nI my), .ref (rA 47)], la (rA 25) (rK9 25) 5 ((wrB L0).1), ia (rA 16) (rK9 16) 155 sf] sz)) 0 0 (va_A [oc ra 8 [.int (nI T), .int (nI Ac), .ref (rA 2), .ref (rA 3), .ref (rA 4), .ref (rA 5), .ref (rA 6), .ref (rA 7), .ref (rA 8), .ref (rA 9), .ref (rA 10), .ref (rA 11), .ref (rA 12), .ref (rA 13), .int ir, .ref (rA 15), .ref (rA 16), .ref (rA 17), .ref (rA 18), .int (nI md), .int (nI wd), .ref (rA 21), .ref (rA 22), .ref (rA 23), .int (nI mn), .ref (rA 25), .int (nI cb), .int mr, .ref (rA 28), .ref (rA 29), .ref (rA 30), .ref (rA 31), .ref (rA 32), .ref (rA 33), .ref (rA 34), .ref (rA 35), .int (nI ld), .int (nI gm), .ref (rA 38), .ref (rA 39), .ref (rA 40), .ref (rA 41), .ref (rA 42), .ref (rA 43), .ref (rA 44), .ref (rA 45), .int (nI my), .ref (rA 47)], la (rA 25) (rK9 25) 5 ((wrB L0).1), ia (rA 16) (rK9 16) 155 sf] sz) := by
  refine Met.ofW (cc := b_Ref_encodeRows) (maxL := 5) (ret := none) (by decide) rfl ?_
  intro p e0 s m args below meth c s₁ B hml hv
  obtain ⟨rfl, hsz, hP, hK, hD0, hn⟩ := hv
  have hx := B.exec
  have hb := B.bytes
  have hr := B.returns
  have hw := fun w (h : w ∈ wt) => atoms_spec (ws := w_Ref_encodeRows) B.pre w (List.mem_cons_of_mem _ h)
  have hown : s.vm.findClass R_Ref = some m.cls := findClass_of_methodNamed B.named
  have hlocks := B.notSynchronized
  subst hsz
  have hD1 := hD0.self (sz := s.heap.size)
  generalize hAe : va_A [oc ra 8 [.int (nI T), .int (nI Ac), .ref (rA 2), .ref (rA 3), .ref (rA 4), .ref (rA 5), .ref (rA 6), .ref (rA 7), .ref (rA 8), .ref (rA 9), .ref (rA 10), .ref (rA 11), .ref (rA 12), .ref (rA 13), .int ir, .ref (rA 15), .ref (rA 16), .ref (rA 17), .ref (rA 18), .int (nI md), .int (nI wd), .ref (rA 21), .ref (rA 22), .ref (rA 23), .int (nI mn), .ref (rA 25), .int (nI cb), .int mr, .ref (rA 28), .ref (rA 29), .ref (rA 30), .ref (rA 31), .ref (rA 32), .ref (rA 33), .ref (rA 34), .ref (rA 35), .int (nI ld), .int (nI gm), .ref (rA 38), .ref (rA 39), .ref (rA 40), .ref (rA 41), .ref (rA 42), .ref (rA 43), .ref (rA 44), .ref (rA 45), .int (nI my), .ref (rA 47)], la (rA 25) (rK9 25) 5 ((wrB L0).1), ia (rA 16) (rK9 16) 155 sf] s.heap.size = A at hD1 ⊢
  have hA : ∀ q : Nat, s.heap.size ≤ q → A q := fun q h => by rw [← hAe]; exact Or.inr h
  have hD : dd A [ra, (rA 25), (rA 16)] := dd_of hD1 rfl
  clear hAe hD0 hD1
  have hS : va_S A s.heap s.heap [] := va_S.rf
  replace hP : va_P (dC, dI) classes [oc ra 8 [.int (nI T), .int (nI Ac), .ref (rA 2), .ref (rA 3), .ref (rA 4), .ref (rA 5), .ref (rA 6), .ref (rA 7), .ref (rA 8), .ref (rA 9), .ref (rA 10), .ref (rA 11), .ref (rA 12), .ref (rA 13), .int ir, .ref (rA 15), .ref (rA 16), .ref (rA 17), .ref (rA 18), .int (nI md), .int (nI wd), .ref (rA 21), .ref (rA 22), .ref (rA 23), .int (nI mn), .ref (rA 25), .int (nI cb), .int mr, .ref (rA 28), .ref (rA 29), .ref (rA 30), .ref (rA 31), .ref (rA 32), .ref (rA 33), .ref (rA 34), .ref (rA 35), .int (nI ld), .int (nI gm), .ref (rA 38), .ref (rA 39), .ref (rA 40), .ref (rA 41), .ref (rA 42), .ref (rA 43), .ref (rA 44), .ref (rA 45), .int (nI my), .ref (rA 47)], la (rA 25) (rK9 25) 5 ((wrB L0).1), ia (rA 16) (rK9 16) 155 sf] s.heap := hP
  have hl := lv_entry ([.ref ra]) (n := 5) (Nat.le_of_ble_eq_true rfl)
  rw [lg_entry_eq]
  generalize (lg_sl ([.ref ra]) ++ List.replicate (5 - (lg_sl ([.ref ra])).length) Slot.unset).toArray = ls at hl ⊢
  replace hl : lv_has ls 5 [(0, .ref ra)] := hl
  subst hcb
  rw [szB_app] at hs3
  refine lv_iconst (v := 0) hx hb d_Ref_encodeRows_0 (by decide) ?_
  refine lv_istore_n (lv' := [(1, .int 0), (0, .ref ra)]) hx hb d_Ref_encodeRows_1 rfl hl (by decide) rfl ?_
  clear hl ls
  intro ls hl
  replace hP : va_P (dC, dI) classes [oc ra 8 [.int (nI T), .int (nI Ac), .ref (rA 2), .ref (rA 3), .ref (rA 4), .ref (rA 5), .ref (rA 6), .ref (rA 7), .ref (rA 8), .ref (rA 9), .ref (rA 10), .ref (rA 11), .ref (rA 12), .ref (rA 13), .int ir, .ref (rA 15), .ref (rA 16), .ref (rA 17), .ref (rA 18), .int (nI md), .int (nI wd), .ref (rA 21), .ref (rA 22), .ref (rA 23), .int (nI mn), .ref (rA 25), .int (nI (szB (L0 ++ mpL (rwB sf T zz ro) 0))), .int mr, .ref (rA 28), .ref (rA 29), .ref (rA 30), .ref (rA 31), .ref (rA 32), .ref (rA 33), .ref (rA 34), .ref (rA 35), .int (nI ld), .int (nI gm), .ref (rA 38), .ref (rA 39), .ref (rA 40), .ref (rA 41), .ref (rA 42), .ref (rA 43), .ref (rA 44), .ref (rA 45), .int (nI my), .ref (rA 47)], la (rA 25) (rK9 25) 5 ((wrB (L0 ++ mpL (rwB sf T zz ro) 0)).1), ia (rA 16) (rK9 16) 155 sf] s.heap := by rw [mpL_0, List.append_nil]; exact hP
  replace hP : va_P (dC, dI) classes [oc ra 8 [.int (nI T), .int (nI Ac), .ref (rA 2), .ref (rA 3), .ref (rA 4), .ref (rA 5), .ref (rA 6), .ref (rA 7), .ref (rA 8), .ref (rA 9), .ref (rA 10), .ref (rA 11), .ref (rA 12), .ref (rA 13), .int ir, .ref (rA 15), .ref (rA 16), .ref (rA 17), .ref (rA 18), .int (nI md), .int (nI wd), .ref (rA 21), .ref (rA 22), .ref (rA 23), .int (nI mn), .ref (rA 25), .int (nI (szB (L0 ++ mpL (rwB sf T zz ro) 0))), .int mr, .ref (rA 28), .ref (rA 29), .ref (rA 30), .ref (rA 31), .ref (rA 32), .ref (rA 33), .ref (rA 34), .ref (rA 35), .int (nI ld), .int (nI gm), .ref (rA 38), .ref (rA 39), .ref (rA 40), .ref (rA 41), .ref (rA 42), .ref (rA 43), .ref (rA 44), .ref (rA 45), .int (nI my), .ref (rA 47)], la (rA 25) (rK9 25) 5 ((wrB (L0 ++ mpL (rwB sf T zz ro) 0)).1), ia (rA 16) (rK9 16) 155 sf] s.heap := hP
  replace hl : lv_has ls 5 [(1, .int (nI 0)), (0, .ref ra)] := hl
  refine lp_n 4 (fun x1 H locs ls => va_P (dC, dI) classes [oc ra 8 [.int (nI T), .int (nI Ac), .ref (rA 2), .ref (rA 3), .ref (rA 4), .ref (rA 5), .ref (rA 6), .ref (rA 7), .ref (rA 8), .ref (rA 9), .ref (rA 10), .ref (rA 11), .ref (rA 12), .ref (rA 13), .int ir, .ref (rA 15), .ref (rA 16), .ref (rA 17), .ref (rA 18), .int (nI md), .int (nI wd), .ref (rA 21), .ref (rA 22), .ref (rA 23), .int (nI mn), .ref (rA 25), .int (nI (szB (L0 ++ mpL (rwB sf T zz ro) x1))), .int mr, .ref (rA 28), .ref (rA 29), .ref (rA 30), .ref (rA 31), .ref (rA 32), .ref (rA 33), .ref (rA 34), .ref (rA 35), .int (nI ld), .int (nI gm), .ref (rA 38), .ref (rA 39), .ref (rA 40), .ref (rA 41), .ref (rA 42), .ref (rA 43), .ref (rA 44), .ref (rA 45), .int (nI my), .ref (rA 47)], la (rA 25) (rK9 25) 5 ((wrB (L0 ++ mpL (rwB sf T zz ro) x1)).1), ia (rA 16) (rK9 16) 155 sf] H ∧ va_S A s.heap H locs ∧ lv_has ls 5 [(1, .int (nI x1)), (0, .ref ra)]) ⟨hP, hS, hl⟩ ?_ ?_
  · intro x1 H locs ls hx1 hI ih_x1
    obtain ⟨hP, hS, hl⟩ := hI
    refine lv_iload_n hx hb d_Ref_encodeRows_2 rfl (lv_at hl 0 rfl) ?_
    refine lv_iconst (v := 4) hx hb d_Ref_encodeRows_3 (by decide) ?_
    refine lv_icmp_ge (tgt := 180) hx hb d_Ref_encodeRows_4 (by decide) (fun c9 => absurd c9 (nI_ge (a := x1) (b := 4) hx1 (by decide))) (fun c9 => ?_)
    obtain ⟨z1, z2, z3⟩ := hzz x1 hx1
    have g1 := szB_mono (f := rwB sf T zz ro) hx1
    have g2 : szB (rwB sf T zz ro x1) = 4 + (szB (mpL (fun j => enB1 sf (ro x1 (j + 1))) (zz x1 - 1)) + szB (mpL (tkB sf x1) T)) := by unfold rwB; rw [szB, szB_app]
    refine tp_pc (pc' := 7) (by rfl) ?_
    refine lv_aload_n hx hb d_Ref_encodeRows_7 rfl (lv_at hl 1 rfl) ?_
    refine lv_aload_n hx hb d_Ref_encodeRows_8 rfl (lv_at hl 1 rfl) ?_
    refine va_get (D := (dC, dI)) (ci := 8) (v := .ref (rA 16)) (C := R_Ref) (T := F_Ref) (N := 48) hx hb hw i_Ref hown hK hP 0 rfl rfl 16 (by decide) (hw _ m_915) (fun _ h9 => h9) rfl d_Ref_encodeRows_9 ?_
    refine lv_bipush (v := 37) hx hb d_Ref_encodeRows_12 (by decide) ?_
    refine lv_iload_n hx hb d_Ref_encodeRows_14 rfl (lv_at hl 0 rfl) ?_
    refine lv_iadd hx hb d_Ref_encodeRows_15 ?_
    refine tp_i (y := nI (37 + x1)) (by exact nI_add 37 x1) ?_
    refine va_iald (D := (dC, dI)) hx hb hK hP 2 1 rfl rfl (i := nI (37 + x1)) (pk_in (37 + x1) 155 (by omega)) d_Ref_encodeRows_16 ?_
    refine tp_i (y := sf (37 + x1)) (by rw [show (nI (37 + x1) : Int32).toNatClampNeg = 37 + x1 from pk_cl (37 + x1)]) ?_
    refine lv_i2l (v := (sf (37 + x1)).toInt64) hx hb d_Ref_encodeRows_17 rfl ?_
    refine lv_iconst (v := 4) hx hb d_Ref_encodeRows_18 (by decide) ?_
    refine tp_i (y := nI 4) rfl ?_
    obtain ⟨hPc, hDc, hFc⟩ := cut3 (wc := [oc ra 8 [.int (nI T), .int (nI Ac), .ref (rA 2), .ref (rA 3), .ref (rA 4), .ref (rA 5), .ref (rA 6), .ref (rA 7), .ref (rA 8), .ref (rA 9), .ref (rA 10), .ref (rA 11), .ref (rA 12), .ref (rA 13), .int ir, .ref (rA 15), .ref (rA 16), .ref (rA 17), .ref (rA 18), .int (nI md), .int (nI wd), .ref (rA 21), .ref (rA 22), .ref (rA 23), .int (nI mn), .ref (rA 25), .int (nI (szB (L0 ++ mpL (rwB sf T zz ro) x1))), .int mr, .ref (rA 28), .ref (rA 29), .ref (rA 30), .ref (rA 31), .ref (rA 32), .ref (rA 33), .ref (rA 34), .ref (rA 35), .int (nI ld), .int (nI gm), .ref (rA 38), .ref (rA 39), .ref (rA 40), .ref (rA 41), .ref (rA 42), .ref (rA 43), .ref (rA 44), .ref (rA 45), .int (nI my), .ref (rA 47)], la (rA 25) (rK9 25) 5 ((wrB (L0 ++ mpL (rwB sf T zz ro) x1)).1)]) hP hD rfl hS hA [0, 1] (by decide +kernel) rfl
    have hKc := hK.sub (tys' := [((rK9 25), .long)]) [0] rfl
    refine va_callv (va_runV (As := [.long ((sf (37 + x1)).toInt64), .int (nI 4)]) (rest := []) ⟨hx, hb, hml, hown, hw⟩ (gen_Ref_bitsL l dC dI ra rA rK9 T Ac md wd mn (szB (L0 ++ mpL (rwB sf T zz ro) x1)) ld gm my ir mr ((sf (37 + x1)).toInt64) 4 (L0 ++ mpL (rwB sf T zz ro) x1) ((L0 ++ mpL (rwB sf T zz ro) x1) ++ [((sf (37 + x1)).toInt64, 4)]) (rfl) rfl (by decide) (by decide) (by simp only [szB_app, szB_1]; omega) H.size) (cw_V 2 hw g_Ref_bits rfl rfl rfl (hw _ m_109) (hw _ m_1093) (hw _ m_1095) (hw _ m_58) (by decide +kernel) ⟨Nat.le_of_ble_eq_true rfl, Nat.le_of_ble_eq_true rfl⟩) ⟨fun a U g mk q => by obtain ⟨q0, q1, qP, qK, qD, qN⟩ := q; exact ⟨q0, q1, qP, va_K.moved (u := U) (U := U.calling g mk a) (Vm.Alike.refl U.vm) qK, qD, nw_call qN⟩, va_recv hKc hPc (ci := 8) (q0 := 0) rfl rfl, fun U hU hW => ⟨rfl, by rw [hU], by rw [hU]; exact hPc, va_K.moved hW.alike hKc, hDc.weaken (fun _ _ _ _ => trivial), nw_warm hW hn⟩⟩ rfl rfl hl.1 rfl (lv_room (Nat.le_of_ble_eq_true rfl)) d_Ref_encodeRows_19 ⟨Nat.le_of_ble_eq_true rfl, Nat.le_of_ble_eq_true rfl⟩) hS (fun q _ h => hFc q h) hFc ?_
    intro u t9 H1 locs1 ht9 hvm hw1 hB hz1 hk1 hS1
    obtain ⟨hP1, hK1, hD1⟩ := hB
    rw [ht9] at hP1
    replace hK1 := va_K.moved hvm.symm hK1
    have hPD := join3 hP hD rfl [0, 1] [2] rfl (by rfl) (by decide +kernel) (by decide +kernel) hk1 hFc hP1 hD1
    replace hK : va_K (dC, dI) classes [((rK9 25), .long), ((rK9 16), .int)] s := hK.app hK1
    clear hP1 hK1 hD1 hk1 hz1 hFc hKc hDc hPc hvm ht9 hP hS t9 locs H
    have hP : va_P (dC, dI) classes [ia (rA 16) (rK9 16) 155 sf, oc ra 8 [.int (nI T), .int (nI Ac), .ref (rA 2), .ref (rA 3), .ref (rA 4), .ref (rA 5), .ref (rA 6), .ref (rA 7), .ref (rA 8), .ref (rA 9), .ref (rA 10), .ref (rA 11), .ref (rA 12), .ref (rA 13), .int ir, .ref (rA 15), .ref (rA 16), .ref (rA 17), .ref (rA 18), .int (nI md), .int (nI wd), .ref (rA 21), .ref (rA 22), .ref (rA 23), .int (nI mn), .ref (rA 25), .int (nI (szB ((L0 ++ mpL (rwB sf T zz ro) x1) ++ [((sf (37 + x1)).toInt64, 4)]))), .int mr, .ref (rA 28), .ref (rA 29), .ref (rA 30), .ref (rA 31), .ref (rA 32), .ref (rA 33), .ref (rA 34), .ref (rA 35), .int (nI ld), .int (nI gm), .ref (rA 38), .ref (rA 39), .ref (rA 40), .ref (rA 41), .ref (rA 42), .ref (rA 43), .ref (rA 44), .ref (rA 45), .int (nI my), .ref (rA 47)], la (rA 25) (rK9 25) 5 ((wrB ((L0 ++ mpL (rwB sf T zz ro) x1) ++ [((sf (37 + x1)).toInt64, 4)])).1)] H1 := hPD.1
    replace hD : dd A [(rA 16), ra, (rA 25)] := dd_of hPD.2 rfl
    clear hPD
    revert H1 locs1
    intro H locs hS hP
    clear hw1 u
    refine tp_pc (pc' := 22) (by rfl) ?_
    refine lv_iconst (v := 1) hx hb d_Ref_encodeRows_22 (by decide) ?_
    refine lv_istore_n (lv' := [(2, .int 1), (1, .int (nI x1)), (0, .ref ra)]) hx hb d_Ref_encodeRows_23 rfl hl (by decide) rfl ?_
    clear hl ls
    intro ls hl
    obtain ⟨hP8, hD8, -⟩ := cut3 (wc := [oc ra 8 [.int (nI T), .int (nI Ac), .ref (rA 2), .ref (rA 3), .ref (rA 4), .ref (rA 5), .ref (rA 6), .ref (rA 7), .ref (rA 8), .ref (rA 9), .ref (rA 10), .ref (rA 11), .ref (rA 12), .ref (rA 13), .int ir, .ref (rA 15), .ref (rA 16), .ref (rA 17), .ref (rA 18), .int (nI md), .int (nI wd), .ref (rA 21), .ref (rA 22), .ref (rA 23), .int (nI mn), .ref (rA 25), .int (nI (szB ((L0 ++ mpL (rwB sf T zz ro) x1) ++ [((sf (37 + x1)).toInt64, 4)]))), .int mr, .ref (rA 28), .ref (rA 29), .ref (rA 30), .ref (rA 31), .ref (rA 32), .ref (rA 33), .ref (rA 34), .ref (rA 35), .int (nI ld), .int (nI gm), .ref (rA 38), .ref (rA 39), .ref (rA 40), .ref (rA 41), .ref (rA 42), .ref (rA 43), .ref (rA 44), .ref (rA 45), .int (nI my), .ref (rA 47)], la (rA 25) (rK9 25) 5 ((wrB ((L0 ++ mpL (rwB sf T zz ro) x1) ++ [((sf (37 + x1)).toInt64, 4)])).1), ia (rA 16) (rK9 16) 155 sf]) hP hD rfl hS hA [1, 2, 0] (by decide +kernel) rfl
    clear hP
    have hP : va_P (dC, dI) classes [oc ra 8 [.int (nI T), .int (nI Ac), .ref (rA 2), .ref (rA 3), .ref (rA 4), .ref (rA 5), .ref (rA 6), .ref (rA 7), .ref (rA 8), .ref (rA 9), .ref (rA 10), .ref (rA 11), .ref (rA 12), .ref (rA 13), .int ir, .ref (rA 15), .ref (rA 16), .ref (rA 17), .ref (rA 18), .int (nI md), .int (nI wd), .ref (rA 21), .ref (rA 22), .ref (rA 23), .int (nI mn), .ref (rA 25), .int (nI (szB ((L0 ++ mpL (rwB sf T zz ro) x1) ++ [((sf (37 + x1)).toInt64, 4)]))), .int mr, .ref (rA 28), .ref (rA 29), .ref (rA 30), .ref (rA 31), .ref (rA 32), .ref (rA 33), .ref (rA 34), .ref (rA 35), .int (nI ld), .int (nI gm), .ref (rA 38), .ref (rA 39), .ref (rA 40), .ref (rA 41), .ref (rA 42), .ref (rA 43), .ref (rA 44), .ref (rA 45), .int (nI my), .ref (rA 47)], la (rA 25) (rK9 25) 5 ((wrB ((L0 ++ mpL (rwB sf T zz ro) x1) ++ [((sf (37 + x1)).toInt64, 4)])).1), ia (rA 16) (rK9 16) 155 sf] H := hP8
    clear hP8
    replace hD : dd A [ra, (rA 25), (rA 16)] := dd_of hD8 rfl
    clear hD8
    replace hP : va_P (dC, dI) classes [oc ra 8 [.int (nI T), .int (nI Ac), .ref (rA 2), .ref (rA 3), .ref (rA 4), .ref (rA 5), .ref (rA 6), .ref (rA 7), .ref (rA 8), .ref (rA 9), .ref (rA 10), .ref (rA 11), .ref (rA 12), .ref (rA 13), .int ir, .ref (rA 15), .ref (rA 16), .ref (rA 17), .ref (rA 18), .int (nI md), .int (nI wd), .ref (rA 21), .ref (rA 22), .ref (rA 23), .int (nI mn), .ref (rA 25), .int (nI (szB (((L0 ++ mpL (rwB sf T zz ro) x1) ++ [((sf (37 + x1)).toInt64, 4)]) ++ mpL (fun j => enB1 sf (ro x1 (j + 1))) 0))), .int mr, .ref (rA 28), .ref (rA 29), .ref (rA 30), .ref (rA 31), .ref (rA 32), .ref (rA 33), .ref (rA 34), .ref (rA 35), .int (nI ld), .int (nI gm), .ref (rA 38), .ref (rA 39), .ref (rA 40), .ref (rA 41), .ref (rA 42), .ref (rA 43), .ref (rA 44), .ref (rA 45), .int (nI my), .ref (rA 47)], la (rA 25) (rK9 25) 5 ((wrB (((L0 ++ mpL (rwB sf T zz ro) x1) ++ [((sf (37 + x1)).toInt64, 4)]) ++ mpL (fun j => enB1 sf (ro x1 (j + 1))) 0)).1), ia (rA 16) (rK9 16) 155 sf] H := by rw [mpL_0, List.append_nil]; exact hP
    replace hP : va_P (dC, dI) classes [oc ra 8 [.int (nI T), .int (nI Ac), .ref (rA 2), .ref (rA 3), .ref (rA 4), .ref (rA 5), .ref (rA 6), .ref (rA 7), .ref (rA 8), .ref (rA 9), .ref (rA 10), .ref (rA 11), .ref (rA 12), .ref (rA 13), .int ir, .ref (rA 15), .ref (rA 16), .ref (rA 17), .ref (rA 18), .int (nI md), .int (nI wd), .ref (rA 21), .ref (rA 22), .ref (rA 23), .int (nI mn), .ref (rA 25), .int (nI (szB (((L0 ++ mpL (rwB sf T zz ro) x1) ++ [((sf (37 + x1)).toInt64, 4)]) ++ mpL (fun j => enB1 sf (ro x1 (j + 1))) 0))), .int mr, .ref (rA 28), .ref (rA 29), .ref (rA 30), .ref (rA 31), .ref (rA 32), .ref (rA 33), .ref (rA 34), .ref (rA 35), .int (nI ld), .int (nI gm), .ref (rA 38), .ref (rA 39), .ref (rA 40), .ref (rA 41), .ref (rA 42), .ref (rA 43), .ref (rA 44), .ref (rA 45), .int (nI my), .ref (rA 47)], la (rA 25) (rK9 25) 5 ((wrB (((L0 ++ mpL (rwB sf T zz ro) x1) ++ [((sf (37 + x1)).toInt64, 4)]) ++ mpL (fun j => enB1 sf (ro x1 (j + 1))) 0)).1), ia (rA 16) (rK9 16) 155 sf] H := hP
    replace hl : lv_has ls 5 [(2, .int (nI (0 + 1))), (1, .int (nI x1)), (0, .ref ra)] := hl
    refine lp_n (zz x1 - 1) (fun i1 H locs ls => va_P (dC, dI) classes [oc ra 8 [.int (nI T), .int (nI Ac), .ref (rA 2), .ref (rA 3), .ref (rA 4), .ref (rA 5), .ref (rA 6), .ref (rA 7), .ref (rA 8), .ref (rA 9), .ref (rA 10), .ref (rA 11), .ref (rA 12), .ref (rA 13), .int ir, .ref (rA 15), .ref (rA 16), .ref (rA 17), .ref (rA 18), .int (nI md), .int (nI wd), .ref (rA 21), .ref (rA 22), .ref (rA 23), .int (nI mn), .ref (rA 25), .int (nI (szB (((L0 ++ mpL (rwB sf T zz ro) x1) ++ [((sf (37 + x1)).toInt64, 4)]) ++ mpL (fun j => enB1 sf (ro x1 (j + 1))) i1))), .int mr, .ref (rA 28), .ref (rA 29), .ref (rA 30), .ref (rA 31), .ref (rA 32), .ref (rA 33), .ref (rA 34), .ref (rA 35), .int (nI ld), .int (nI gm), .ref (rA 38), .ref (rA 39), .ref (rA 40), .ref (rA 41), .ref (rA 42), .ref (rA 43), .ref (rA 44), .ref (rA 45), .int (nI my), .ref (rA 47)], la (rA 25) (rK9 25) 5 ((wrB (((L0 ++ mpL (rwB sf T zz ro) x1) ++ [((sf (37 + x1)).toInt64, 4)]) ++ mpL (fun j => enB1 sf (ro x1 (j + 1))) i1)).1), ia (rA 16) (rK9 16) 155 sf] H ∧ va_S A s.heap H locs ∧ lv_has ls 5 [(2, .int (nI (i1 + 1))), (1, .int (nI x1)), (0, .ref ra)]) ⟨hP, hS, hl⟩ ?_ ?_
    · intro i1 H locs ls hi1 hI ih_i1
      obtain ⟨hP, hS, hl⟩ := hI
      have g3 := szB_mono (f := fun j => enB1 sf (ro x1 (j + 1))) hi1
      have g4 : szB (enB1 sf (ro x1 (i1 + 1))) = 20 := enB1_sz sf _
      refine lv_iload_n hx hb d_Ref_encodeRows_24 rfl (lv_at hl 0 rfl) ?_
      refine lv_aload_n hx hb d_Ref_encodeRows_25 rfl (lv_at hl 2 rfl) ?_
      refine va_get (D := (dC, dI)) (ci := 8) (v := .ref (rA 16)) (C := R_Ref) (T := F_Ref) (N := 48) hx hb hw i_Ref hown hK hP 0 rfl rfl 16 (by decide) (hw _ m_915) (fun _ h9 => h9) rfl d_Ref_encodeRows_26 ?_
      refine lv_bipush (v := 37) hx hb d_Ref_encodeRows_29 (by decide) ?_
      refine lv_iload_n hx hb d_Ref_encodeRows_31 rfl (lv_at hl 1 rfl) ?_
      refine lv_iadd hx hb d_Ref_encodeRows_32 ?_
      refine tp_i (y := nI (37 + x1)) (by exact nI_add 37 x1) ?_
      refine va_iald (D := (dC, dI)) hx hb hK hP 2 1 rfl rfl (i := nI (37 + x1)) (pk_in (37 + x1) 155 (by omega)) d_Ref_encodeRows_33 ?_
      refine tp_i (y := sf (37 + x1)) (by rw [show (nI (37 + x1) : Int32).toNatClampNeg = 37 + x1 from pk_cl (37 + x1)]) ?_
      refine tp_i (y := nI (zz x1)) z1 ?_
      refine lv_icmp_ge (tgt := 133) hx hb d_Ref_encodeRows_34 (by decide) (fun c9 => absurd c9 (nI_ge (a := i1 + 1) (b := zz x1) (by omega) (by omega))) (fun c9 => ?_)
      obtain ⟨r1, r2⟩ := hro x1 hx1 (i1 + 1) (by omega)
      have r3 := hkn x1 hx1 (i1 + 1) (by omega)
      refine tp_pc (pc' := 37) (by rfl) ?_
      refine lv_aload_n hx hb d_Ref_encodeRows_37 rfl (lv_at hl 2 rfl) ?_
      refine va_get (D := (dC, dI)) (ci := 8) (v := .ref (rA 16)) (C := R_Ref) (T := F_Ref) (N := 48) hx hb hw i_Ref hown hK hP 0 rfl rfl 16 (by decide) (hw _ m_915) (fun _ h9 => h9) rfl d_Ref_encodeRows_38 ?_
      refine lv_bipush (v := 41) hx hb d_Ref_encodeRows_41 (by decide) ?_
      refine lv_bipush (v := 8) hx hb d_Ref_encodeRows_43 (by decide) ?_
      refine lv_iload_n hx hb d_Ref_encodeRows_45 rfl (lv_at hl 1 rfl) ?_
      refine lv_imul hx hb d_Ref_encodeRows_46 ?_
      refine tp_i (y := nI (8 * x1)) (by exact pk_mul 8 x1) ?_
      refine lv_iadd hx hb d_Ref_encodeRows_47 ?_
      refine tp_i (y := nI (41 + (8 * x1))) (by exact nI_add 41 (8 * x1)) ?_
      refine lv_iload_n hx hb d_Ref_encodeRows_48 rfl (lv_at hl 0 rfl) ?_
      refine lv_iadd hx hb d_Ref_encodeRows_49 ?_
      refine tp_i (y := nI (41 + (8 * x1) + (i1 + 1))) (by exact nI_add (41 + (8 * x1)) (i1 + 1)) ?_
      refine va_iald (D := (dC, dI)) hx hb hK hP 2 1 rfl rfl (i := nI (41 + (8 * x1) + (i1 + 1))) (pk_in (41 + (8 * x1) + (i1 + 1)) 155 (by omega)) d_Ref_encodeRows_50 ?_
      refine tp_i (y := sf (41 + (8 * x1) + (i1 + 1))) (by rw [show (nI (41 + (8 * x1) + (i1 + 1)) : Int32).toNatClampNeg = 41 + (8 * x1) + (i1 + 1) from pk_cl (41 + (8 * x1) + (i1 + 1))]) ?_
      refine tp_i (y := nI (ro x1 (i1 + 1))) r1 ?_
      refine lv_istore_n (lv' := [(3, .int (nI (ro x1 (i1 + 1)))), (2, .int (nI (i1 + 1))), (1, .int (nI x1)), (0, .ref ra)]) hx hb d_Ref_encodeRows_51 rfl hl (by decide) rfl ?_
      clear hl ls
      intro ls hl
      refine lv_aload_n hx hb d_Ref_encodeRows_52 rfl (lv_at hl 3 rfl) ?_
      refine lv_aload_n hx hb d_Ref_encodeRows_53 rfl (lv_at hl 3 rfl) ?_
      refine va_get (D := (dC, dI)) (ci := 8) (v := .ref (rA 16)) (C := R_Ref) (T := F_Ref) (N := 48) hx hb hw i_Ref hown hK hP 0 rfl rfl 16 (by decide) (hw _ m_915) (fun _ h9 => h9) rfl d_Ref_encodeRows_54 ?_
      refine lv_bipush (v := 73) hx hb d_Ref_encodeRows_57 (by decide) ?_
      refine lv_iload_n hx hb d_Ref_encodeRows_59 rfl (lv_at hl 0 rfl) ?_
      refine lv_iadd hx hb d_Ref_encodeRows_60 ?_
      refine tp_i (y := nI (73 + (ro x1 (i1 + 1)))) (by exact nI_add 73 (ro x1 (i1 + 1))) ?_
      refine va_iald (D := (dC, dI)) hx hb hK hP 2 1 rfl rfl (i := nI (73 + (ro x1 (i1 + 1)))) (pk_in (73 + (ro x1 (i1 + 1))) 155 (by omega)) d_Ref_encodeRows_61 ?_
      refine tp_i (y := sf (73 + (ro x1 (i1 + 1)))) (by rw [show (nI (73 + (ro x1 (i1 + 1))) : Int32).toNatClampNeg = 73 + (ro x1 (i1 + 1)) from pk_cl (73 + (ro x1 (i1 + 1)))]) ?_
      refine lv_bipush (v := 64) hx hb d_Ref_encodeRows_62 (by decide) ?_
      refine lv_iadd hx hb d_Ref_encodeRows_64 ?_
      refine tp_i (y := (sf (73 + (ro x1 (i1 + 1)))) + 64) rfl ?_
      refine lv_i2l (v := ((sf (73 + (ro x1 (i1 + 1)))) + 64).toInt64) hx hb d_Ref_encodeRows_65 rfl ?_
      refine lv_bipush (v := 7) hx hb d_Ref_encodeRows_66 (by decide) ?_
      refine tp_i (y := nI 7) rfl ?_
      obtain ⟨hPc, hDc, hFc⟩ := cut3 (wc := [oc ra 8 [.int (nI T), .int (nI Ac), .ref (rA 2), .ref (rA 3), .ref (rA 4), .ref (rA 5), .ref (rA 6), .ref (rA 7), .ref (rA 8), .ref (rA 9), .ref (rA 10), .ref (rA 11), .ref (rA 12), .ref (rA 13), .int ir, .ref (rA 15), .ref (rA 16), .ref (rA 17), .ref (rA 18), .int (nI md), .int (nI wd), .ref (rA 21), .ref (rA 22), .ref (rA 23), .int (nI mn), .ref (rA 25), .int (nI (szB (((L0 ++ mpL (rwB sf T zz ro) x1) ++ [((sf (37 + x1)).toInt64, 4)]) ++ mpL (fun j => enB1 sf (ro x1 (j + 1))) i1))), .int mr, .ref (rA 28), .ref (rA 29), .ref (rA 30), .ref (rA 31), .ref (rA 32), .ref (rA 33), .ref (rA 34), .ref (rA 35), .int (nI ld), .int (nI gm), .ref (rA 38), .ref (rA 39), .ref (rA 40), .ref (rA 41), .ref (rA 42), .ref (rA 43), .ref (rA 44), .ref (rA 45), .int (nI my), .ref (rA 47)], la (rA 25) (rK9 25) 5 ((wrB (((L0 ++ mpL (rwB sf T zz ro) x1) ++ [((sf (37 + x1)).toInt64, 4)]) ++ mpL (fun j => enB1 sf (ro x1 (j + 1))) i1)).1)]) hP hD rfl hS hA [0, 1] (by decide +kernel) rfl
      have hKc := hK.sub (tys' := [((rK9 25), .long)]) [0] rfl
      refine va_callv (va_runV (As := [.long ((sf (73 + ro x1 (i1 + 1)) + 64).toInt64), .int (nI 7)]) (rest := []) ⟨hx, hb, hml, hown, hw⟩ (gen_Ref_bitsL l dC dI ra rA rK9 T Ac md wd mn (szB (((L0 ++ mpL (rwB sf T zz ro) x1) ++ [((sf (37 + x1)).toInt64, 4)]) ++ mpL (fun j => enB1 sf (ro x1 (j + 1))) i1)) ld gm my ir mr ((sf (73 + ro x1 (i1 + 1)) + 64).toInt64) 7 (((L0 ++ mpL (rwB sf T zz ro) x1) ++ [((sf (37 + x1)).toInt64, 4)]) ++ mpL (fun j => enB1 sf (ro x1 (j + 1))) i1) ((((L0 ++ mpL (rwB sf T zz ro) x1) ++ [((sf (37 + x1)).toInt64, 4)]) ++ mpL (fun j => enB1 sf (ro x1 (j + 1))) i1) ++ [((sf (73 + ro x1 (i1 + 1)) + 64).toInt64, 7)]) (rfl) rfl (by decide) (by decide) (by simp only [szB_app, szB_1]; omega) H.size) (cw_V 2 hw g_Ref_bits rfl rfl rfl (hw _ m_109) (hw _ m_1093) (hw _ m_1095) (hw _ m_58) (by decide +kernel) ⟨Nat.le_of_ble_eq_true rfl, Nat.le_of_ble_eq_true rfl⟩) ⟨fun a U g mk q => by obtain ⟨q0, q1, qP, qK, qD, qN⟩ := q; exact ⟨q0, q1, qP, va_K.moved (u := U) (U := U.calling g mk a) (Vm.Alike.refl U.vm) qK, qD, nw_call qN⟩, va_recv hKc hPc (ci := 8) (q0 := 0) rfl rfl, fun U hU hW => ⟨rfl, by rw [hU], by rw [hU]; exact hPc, va_K.moved hW.alike hKc, hDc.weaken (fun _ _ _ _ => trivial), nw_warm hW hn⟩⟩ rfl rfl hl.1 rfl (lv_room (Nat.le_of_ble_eq_true rfl)) d_Ref_encodeRows_68 ⟨Nat.le_of_ble_eq_true rfl, Nat.le_of_ble_eq_true rfl⟩) hS (fun q _ h => hFc q h) hFc ?_
      intro u t9 H1 locs1 ht9 hvm hw1 hB hz1 hk1 hS1
      obtain ⟨hP1, hK1, hD1⟩ := hB
      rw [ht9] at hP1
      replace hK1 := va_K.moved hvm.symm hK1
      have hPD := join3 hP hD rfl [0, 1] [2] rfl (by rfl) (by decide +kernel) (by decide +kernel) hk1 hFc hP1 hD1
      replace hK : va_K (dC, dI) classes [((rK9 25), .long), ((rK9 16), .int)] s := hK.app hK1
      clear hP1 hK1 hD1 hk1 hz1 hFc hKc hDc hPc hvm ht9 hP hS t9 locs H
      have hP : va_P (dC, dI) classes [ia (rA 16) (rK9 16) 155 sf, oc ra 8 [.int (nI T), .int (nI Ac), .ref (rA 2), .ref (rA 3), .ref (rA 4), .ref (rA 5), .ref (rA 6), .ref (rA 7), .ref (rA 8), .ref (rA 9), .ref (rA 10), .ref (rA 11), .ref (rA 12), .ref (rA 13), .int ir, .ref (rA 15), .ref (rA 16), .ref (rA 17), .ref (rA 18), .int (nI md), .int (nI wd), .ref (rA 21), .ref (rA 22), .ref (rA 23), .int (nI mn), .ref (rA 25), .int (nI (szB ((((L0 ++ mpL (rwB sf T zz ro) x1) ++ [((sf (37 + x1)).toInt64, 4)]) ++ mpL (fun j => enB1 sf (ro x1 (j + 1))) i1) ++ [((sf (73 + ro x1 (i1 + 1)) + 64).toInt64, 7)]))), .int mr, .ref (rA 28), .ref (rA 29), .ref (rA 30), .ref (rA 31), .ref (rA 32), .ref (rA 33), .ref (rA 34), .ref (rA 35), .int (nI ld), .int (nI gm), .ref (rA 38), .ref (rA 39), .ref (rA 40), .ref (rA 41), .ref (rA 42), .ref (rA 43), .ref (rA 44), .ref (rA 45), .int (nI my), .ref (rA 47)], la (rA 25) (rK9 25) 5 ((wrB ((((L0 ++ mpL (rwB sf T zz ro) x1) ++ [((sf (37 + x1)).toInt64, 4)]) ++ mpL (fun j => enB1 sf (ro x1 (j + 1))) i1) ++ [((sf (73 + ro x1 (i1 + 1)) + 64).toInt64, 7)])).1)] H1 := hPD.1
      replace hD : dd A [(rA 16), ra, (rA 25)] := dd_of hPD.2 rfl
      clear hPD
      revert H1 locs1
      intro H locs hS hP
      clear hw1 u
      refine tp_pc (pc' := 71) (by rfl) ?_
      refine lv_aload_n hx hb d_Ref_encodeRows_71 rfl (lv_at hl 3 rfl) ?_
      refine lv_aload_n hx hb d_Ref_encodeRows_72 rfl (lv_at hl 3 rfl) ?_
      refine va_get (D := (dC, dI)) (ci := 8) (v := .ref (rA 16)) (C := R_Ref) (T := F_Ref) (N := 48) hx hb hw i_Ref hown hK hP 1 rfl rfl 16 (by decide) (hw _ m_915) (fun _ h9 => h9) rfl d_Ref_encodeRows_73 ?_
      refine lv_bipush (v := 84) hx hb d_Ref_encodeRows_76 (by decide) ?_
      refine lv_iload_n hx hb d_Ref_encodeRows_78 rfl (lv_at hl 0 rfl) ?_
      refine lv_iadd hx hb d_Ref_encodeRows_79 ?_
      refine tp_i (y := nI (84 + (ro x1 (i1 + 1)))) (by exact nI_add 84 (ro x1 (i1 + 1))) ?_
      refine va_iald (D := (dC, dI)) hx hb hK hP 0 1 rfl rfl (i := nI (84 + (ro x1 (i1 + 1)))) (pk_in (84 + (ro x1 (i1 + 1))) 155 (by omega)) d_Ref_encodeRows_80 ?_
      refine tp_i (y := sf (84 + (ro x1 (i1 + 1)))) (by rw [show (nI (84 + (ro x1 (i1 + 1))) : Int32).toNatClampNeg = 84 + (ro x1 (i1 + 1)) from pk_cl (84 + (ro x1 (i1 + 1)))]) ?_
      refine lv_i2l (v := (sf (84 + (ro x1 (i1 + 1)))).toInt64) hx hb d_Ref_encodeRows_81 rfl ?_
      refine lv_iconst (v := 1) hx hb d_Ref_encodeRows_82 (by decide) ?_
      refine tp_i (y := nI 1) rfl ?_
      obtain ⟨hPc, hDc, hFc⟩ := cut3 (wc := [oc ra 8 [.int (nI T), .int (nI Ac), .ref (rA 2), .ref (rA 3), .ref (rA 4), .ref (rA 5), .ref (rA 6), .ref (rA 7), .ref (rA 8), .ref (rA 9), .ref (rA 10), .ref (rA 11), .ref (rA 12), .ref (rA 13), .int ir, .ref (rA 15), .ref (rA 16), .ref (rA 17), .ref (rA 18), .int (nI md), .int (nI wd), .ref (rA 21), .ref (rA 22), .ref (rA 23), .int (nI mn), .ref (rA 25), .int (nI (szB ((((L0 ++ mpL (rwB sf T zz ro) x1) ++ [((sf (37 + x1)).toInt64, 4)]) ++ mpL (fun j => enB1 sf (ro x1 (j + 1))) i1) ++ [((sf (73 + ro x1 (i1 + 1)) + 64).toInt64, 7)]))), .int mr, .ref (rA 28), .ref (rA 29), .ref (rA 30), .ref (rA 31), .ref (rA 32), .ref (rA 33), .ref (rA 34), .ref (rA 35), .int (nI ld), .int (nI gm), .ref (rA 38), .ref (rA 39), .ref (rA 40), .ref (rA 41), .ref (rA 42), .ref (rA 43), .ref (rA 44), .ref (rA 45), .int (nI my), .ref (rA 47)], la (rA 25) (rK9 25) 5 ((wrB ((((L0 ++ mpL (rwB sf T zz ro) x1) ++ [((sf (37 + x1)).toInt64, 4)]) ++ mpL (fun j => enB1 sf (ro x1 (j + 1))) i1) ++ [((sf (73 + ro x1 (i1 + 1)) + 64).toInt64, 7)])).1)]) hP hD rfl hS hA [1, 2] (by decide +kernel) rfl
      have hKc := hK.sub (tys' := [((rK9 25), .long)]) [0] rfl
      refine va_callv (va_runV (As := [.long ((sf (84 + ro x1 (i1 + 1))).toInt64), .int (nI 1)]) (rest := []) ⟨hx, hb, hml, hown, hw⟩ (gen_Ref_bitsL l dC dI ra rA rK9 T Ac md wd mn (szB ((((L0 ++ mpL (rwB sf T zz ro) x1) ++ [((sf (37 + x1)).toInt64, 4)]) ++ mpL (fun j => enB1 sf (ro x1 (j + 1))) i1) ++ [((sf (73 + ro x1 (i1 + 1)) + 64).toInt64, 7)])) ld gm my ir mr ((sf (84 + ro x1 (i1 + 1))).toInt64) 1 ((((L0 ++ mpL (rwB sf T zz ro) x1) ++ [((sf (37 + x1)).toInt64, 4)]) ++ mpL (fun j => enB1 sf (ro x1 (j + 1))) i1) ++ [((sf (73 + ro x1 (i1 + 1)) + 64).toInt64, 7)]) (((((L0 ++ mpL (rwB sf T zz ro) x1) ++ [((sf (37 + x1)).toInt64, 4)]) ++ mpL (fun j => enB1 sf (ro x1 (j + 1))) i1) ++ [((sf (73 + ro x1 (i1 + 1)) + 64).toInt64, 7)]) ++ [((sf (84 + ro x1 (i1 + 1))).toInt64, 1)]) (rfl) rfl (by decide) (by decide) (by simp only [szB_app, szB_1]; omega) H.size) (cw_V 2 hw g_Ref_bits rfl rfl rfl (hw _ m_109) (hw _ m_1093) (hw _ m_1095) (hw _ m_58) (by decide +kernel) ⟨Nat.le_of_ble_eq_true rfl, Nat.le_of_ble_eq_true rfl⟩) ⟨fun a U g mk q => by obtain ⟨q0, q1, qP, qK, qD, qN⟩ := q; exact ⟨q0, q1, qP, va_K.moved (u := U) (U := U.calling g mk a) (Vm.Alike.refl U.vm) qK, qD, nw_call qN⟩, va_recv hKc hPc (ci := 8) (q0 := 0) rfl rfl, fun U hU hW => ⟨rfl, by rw [hU], by rw [hU]; exact hPc, va_K.moved hW.alike hKc, hDc.weaken (fun _ _ _ _ => trivial), nw_warm hW hn⟩⟩ rfl rfl hl.1 rfl (lv_room (Nat.le_of_ble_eq_true rfl)) d_Ref_encodeRows_83 ⟨Nat.le_of_ble_eq_true rfl, Nat.le_of_ble_eq_true rfl⟩) hS (fun q _ h => hFc q h) hFc ?_
      intro u t9 H1 locs1 ht9 hvm hw1 hB hz1 hk1 hS1
      obtain ⟨hP1, hK1, hD1⟩ := hB
      rw [ht9] at hP1
      replace hK1 := va_K.moved hvm.symm hK1
      have hPD := join3 hP hD rfl [1, 2] [0] rfl (by rfl) (by decide +kernel) (by decide +kernel) hk1 hFc hP1 hD1
      replace hK : va_K (dC, dI) classes [((rK9 25), .long), ((rK9 16), .int)] s := hK.app hK1
      clear hP1 hK1 hD1 hk1 hz1 hFc hKc hDc hPc hvm ht9 hP hS t9 locs H
      have hP : va_P (dC, dI) classes [ia (rA 16) (rK9 16) 155 sf, oc ra 8 [.int (nI T), .int (nI Ac), .ref (rA 2), .ref (rA 3), .ref (rA 4), .ref (rA 5), .ref (rA 6), .ref (rA 7), .ref (rA 8), .ref (rA 9), .ref (rA 10), .ref (rA 11), .ref (rA 12), .ref (rA 13), .int ir, .ref (rA 15), .ref (rA 16), .ref (rA 17), .ref (rA 18), .int (nI md), .int (nI wd), .ref (rA 21), .ref (rA 22), .ref (rA 23), .int (nI mn), .ref (rA 25), .int (nI (szB (((((L0 ++ mpL (rwB sf T zz ro) x1) ++ [((sf (37 + x1)).toInt64, 4)]) ++ mpL (fun j => enB1 sf (ro x1 (j + 1))) i1) ++ [((sf (73 + ro x1 (i1 + 1)) + 64).toInt64, 7)]) ++ [((sf (84 + ro x1 (i1 + 1))).toInt64, 1)]))), .int mr, .ref (rA 28), .ref (rA 29), .ref (rA 30), .ref (rA 31), .ref (rA 32), .ref (rA 33), .ref (rA 34), .ref (rA 35), .int (nI ld), .int (nI gm), .ref (rA 38), .ref (rA 39), .ref (rA 40), .ref (rA 41), .ref (rA 42), .ref (rA 43), .ref (rA 44), .ref (rA 45), .int (nI my), .ref (rA 47)], la (rA 25) (rK9 25) 5 ((wrB (((((L0 ++ mpL (rwB sf T zz ro) x1) ++ [((sf (37 + x1)).toInt64, 4)]) ++ mpL (fun j => enB1 sf (ro x1 (j + 1))) i1) ++ [((sf (73 + ro x1 (i1 + 1)) + 64).toInt64, 7)]) ++ [((sf (84 + ro x1 (i1 + 1))).toInt64, 1)])).1)] H1 := hPD.1
      replace hD : dd A [(rA 16), ra, (rA 25)] := dd_of hPD.2 rfl
      clear hPD
      revert H1 locs1
      intro H locs hS hP
      clear hw1 u
      refine tp_pc (pc' := 86) (by rfl) ?_
      refine lv_iconst (v := 0) hx hb d_Ref_encodeRows_86 (by decide) ?_
      refine lv_istore (lv' := [(4, .int 0), (3, .int (nI (ro x1 (i1 + 1)))), (2, .int (nI (i1 + 1))), (1, .int (nI x1)), (0, .ref ra)]) hx hb d_Ref_encodeRows_87 hl (by decide) rfl ?_
      clear hl ls
      intro ls hl
      obtain ⟨hP8, hD8, -⟩ := cut3 (wc := [oc ra 8 [.int (nI T), .int (nI Ac), .ref (rA 2), .ref (rA 3), .ref (rA 4), .ref (rA 5), .ref (rA 6), .ref (rA 7), .ref (rA 8), .ref (rA 9), .ref (rA 10), .ref (rA 11), .ref (rA 12), .ref (rA 13), .int ir, .ref (rA 15), .ref (rA 16), .ref (rA 17), .ref (rA 18), .int (nI md), .int (nI wd), .ref (rA 21), .ref (rA 22), .ref (rA 23), .int (nI mn), .ref (rA 25), .int (nI (szB (((((L0 ++ mpL (rwB sf T zz ro) x1) ++ [((sf (37 + x1)).toInt64, 4)]) ++ mpL (fun j => enB1 sf (ro x1 (j + 1))) i1) ++ [((sf (73 + ro x1 (i1 + 1)) + 64).toInt64, 7)]) ++ [((sf (84 + ro x1 (i1 + 1))).toInt64, 1)]))), .int mr, .ref (rA 28), .ref (rA 29), .ref (rA 30), .ref (rA 31), .ref (rA 32), .ref (rA 33), .ref (rA 34), .ref (rA 35), .int (nI ld), .int (nI gm), .ref (rA 38), .ref (rA 39), .ref (rA 40), .ref (rA 41), .ref (rA 42), .ref (rA 43), .ref (rA 44), .ref (rA 45), .int (nI my), .ref (rA 47)], la (rA 25) (rK9 25) 5 ((wrB (((((L0 ++ mpL (rwB sf T zz ro) x1) ++ [((sf (37 + x1)).toInt64, 4)]) ++ mpL (fun j => enB1 sf (ro x1 (j + 1))) i1) ++ [((sf (73 + ro x1 (i1 + 1)) + 64).toInt64, 7)]) ++ [((sf (84 + ro x1 (i1 + 1))).toInt64, 1)])).1), ia (rA 16) (rK9 16) 155 sf]) hP hD rfl hS hA [1, 2, 0] (by decide +kernel) rfl
      clear hP
      have hP : va_P (dC, dI) classes [oc ra 8 [.int (nI T), .int (nI Ac), .ref (rA 2), .ref (rA 3), .ref (rA 4), .ref (rA 5), .ref (rA 6), .ref (rA 7), .ref (rA 8), .ref (rA 9), .ref (rA 10), .ref (rA 11), .ref (rA 12), .ref (rA 13), .int ir, .ref (rA 15), .ref (rA 16), .ref (rA 17), .ref (rA 18), .int (nI md), .int (nI wd), .ref (rA 21), .ref (rA 22), .ref (rA 23), .int (nI mn), .ref (rA 25), .int (nI (szB (((((L0 ++ mpL (rwB sf T zz ro) x1) ++ [((sf (37 + x1)).toInt64, 4)]) ++ mpL (fun j => enB1 sf (ro x1 (j + 1))) i1) ++ [((sf (73 + ro x1 (i1 + 1)) + 64).toInt64, 7)]) ++ [((sf (84 + ro x1 (i1 + 1))).toInt64, 1)]))), .int mr, .ref (rA 28), .ref (rA 29), .ref (rA 30), .ref (rA 31), .ref (rA 32), .ref (rA 33), .ref (rA 34), .ref (rA 35), .int (nI ld), .int (nI gm), .ref (rA 38), .ref (rA 39), .ref (rA 40), .ref (rA 41), .ref (rA 42), .ref (rA 43), .ref (rA 44), .ref (rA 45), .int (nI my), .ref (rA 47)], la (rA 25) (rK9 25) 5 ((wrB (((((L0 ++ mpL (rwB sf T zz ro) x1) ++ [((sf (37 + x1)).toInt64, 4)]) ++ mpL (fun j => enB1 sf (ro x1 (j + 1))) i1) ++ [((sf (73 + ro x1 (i1 + 1)) + 64).toInt64, 7)]) ++ [((sf (84 + ro x1 (i1 + 1))).toInt64, 1)])).1), ia (rA 16) (rK9 16) 155 sf] H := hP8
      clear hP8
      replace hD : dd A [ra, (rA 25), (rA 16)] := dd_of hD8 rfl
      clear hD8
      replace hP : va_P (dC, dI) classes [oc ra 8 [.int (nI T), .int (nI Ac), .ref (rA 2), .ref (rA 3), .ref (rA 4), .ref (rA 5), .ref (rA 6), .ref (rA 7), .ref (rA 8), .ref (rA 9), .ref (rA 10), .ref (rA 11), .ref (rA 12), .ref (rA 13), .int ir, .ref (rA 15), .ref (rA 16), .ref (rA 17), .ref (rA 18), .int (nI md), .int (nI wd), .ref (rA 21), .ref (rA 22), .ref (rA 23), .int (nI mn), .ref (rA 25), .int (nI (szB ((((((L0 ++ mpL (rwB sf T zz ro) x1) ++ [((sf (37 + x1)).toInt64, 4)]) ++ mpL (fun j => enB1 sf (ro x1 (j + 1))) i1) ++ [((sf (73 + ro x1 (i1 + 1)) + 64).toInt64, 7)]) ++ [((sf (84 + ro x1 (i1 + 1))).toInt64, 1)]) ++ mpL (knB sf (ro x1 (i1 + 1))) 0))), .int mr, .ref (rA 28), .ref (rA 29), .ref (rA 30), .ref (rA 31), .ref (rA 32), .ref (rA 33), .ref (rA 34), .ref (rA 35), .int (nI ld), .int (nI gm), .ref (rA 38), .ref (rA 39), .ref (rA 40), .ref (rA 41), .ref (rA 42), .ref (rA 43), .ref (rA 44), .ref (rA 45), .int (nI my), .ref (rA 47)], la (rA 25) (rK9 25) 5 ((wrB ((((((L0 ++ mpL (rwB sf T zz ro) x1) ++ [((sf (37 + x1)).toInt64, 4)]) ++ mpL (fun j => enB1 sf (ro x1 (j + 1))) i1) ++ [((sf (73 + ro x1 (i1 + 1)) + 64).toInt64, 7)]) ++ [((sf (84 + ro x1 (i1 + 1))).toInt64, 1)]) ++ mpL (knB sf (ro x1 (i1 + 1))) 0)).1), ia (rA 16) (rK9 16) 155 sf] H := by rw [mpL_0, List.append_nil]; exact hP
      replace hP : va_P (dC, dI) classes [oc ra 8 [.int (nI T), .int (nI Ac), .ref (rA 2), .ref (rA 3), .ref (rA 4), .ref (rA 5), .ref (rA 6), .ref (rA 7), .ref (rA 8), .ref (rA 9), .ref (rA 10), .ref (rA 11), .ref (rA 12), .ref (rA 13), .int ir, .ref (rA 15), .ref (rA 16), .ref (rA 17), .ref (rA 18), .int (nI md), .int (nI wd), .ref (rA 21), .ref (rA 22), .ref (rA 23), .int (nI mn), .ref (rA 25), .int (nI (szB ((((((L0 ++ mpL (rwB sf T zz ro) x1) ++ [((sf (37 + x1)).toInt64, 4)]) ++ mpL (fun j => enB1 sf (ro x1 (j + 1))) i1) ++ [((sf (73 + ro x1 (i1 + 1)) + 64).toInt64, 7)]) ++ [((sf (84 + ro x1 (i1 + 1))).toInt64, 1)]) ++ mpL (knB sf (ro x1 (i1 + 1))) 0))), .int mr, .ref (rA 28), .ref (rA 29), .ref (rA 30), .ref (rA 31), .ref (rA 32), .ref (rA 33), .ref (rA 34), .ref (rA 35), .int (nI ld), .int (nI gm), .ref (rA 38), .ref (rA 39), .ref (rA 40), .ref (rA 41), .ref (rA 42), .ref (rA 43), .ref (rA 44), .ref (rA 45), .int (nI my), .ref (rA 47)], la (rA 25) (rK9 25) 5 ((wrB ((((((L0 ++ mpL (rwB sf T zz ro) x1) ++ [((sf (37 + x1)).toInt64, 4)]) ++ mpL (fun j => enB1 sf (ro x1 (j + 1))) i1) ++ [((sf (73 + ro x1 (i1 + 1)) + 64).toInt64, 7)]) ++ [((sf (84 + ro x1 (i1 + 1))).toInt64, 1)]) ++ mpL (knB sf (ro x1 (i1 + 1))) 0)).1), ia (rA 16) (rK9 16) 155 sf] H := hP
      replace hl : lv_has ls 5 [(4, .int (nI 0)), (3, .int (nI (ro x1 (i1 + 1)))), (2, .int (nI (i1 + 1))), (1, .int (nI x1)), (0, .ref ra)] := hl
      refine lp_n 4 (fun y1 H locs ls => va_P (dC, dI) classes [oc ra 8 [.int (nI T), .int (nI Ac), .ref (rA 2), .ref (rA 3), .ref (rA 4), .ref (rA 5), .ref (rA 6), .ref (rA 7), .ref (rA 8), .ref (rA 9), .ref (rA 10), .ref (rA 11), .ref (rA 12), .ref (rA 13), .int ir, .ref (rA 15), .ref (rA 16), .ref (rA 17), .ref (rA 18), .int (nI md), .int (nI wd), .ref (rA 21), .ref (rA 22), .ref (rA 23), .int (nI mn), .ref (rA 25), .int (nI (szB ((((((L0 ++ mpL (rwB sf T zz ro) x1) ++ [((sf (37 + x1)).toInt64, 4)]) ++ mpL (fun j => enB1 sf (ro x1 (j + 1))) i1) ++ [((sf (73 + ro x1 (i1 + 1)) + 64).toInt64, 7)]) ++ [((sf (84 + ro x1 (i1 + 1))).toInt64, 1)]) ++ mpL (knB sf (ro x1 (i1 + 1))) y1))), .int mr, .ref (rA 28), .ref (rA 29), .ref (rA 30), .ref (rA 31), .ref (rA 32), .ref (rA 33), .ref (rA 34), .ref (rA 35), .int (nI ld), .int (nI gm), .ref (rA 38), .ref (rA 39), .ref (rA 40), .ref (rA 41), .ref (rA 42), .ref (rA 43), .ref (rA 44), .ref (rA 45), .int (nI my), .ref (rA 47)], la (rA 25) (rK9 25) 5 ((wrB ((((((L0 ++ mpL (rwB sf T zz ro) x1) ++ [((sf (37 + x1)).toInt64, 4)]) ++ mpL (fun j => enB1 sf (ro x1 (j + 1))) i1) ++ [((sf (73 + ro x1 (i1 + 1)) + 64).toInt64, 7)]) ++ [((sf (84 + ro x1 (i1 + 1))).toInt64, 1)]) ++ mpL (knB sf (ro x1 (i1 + 1))) y1)).1), ia (rA 16) (rK9 16) 155 sf] H ∧ va_S A s.heap H locs ∧ lv_has ls 5 [(4, .int (nI y1)), (3, .int (nI (ro x1 (i1 + 1)))), (2, .int (nI (i1 + 1))), (1, .int (nI x1)), (0, .ref ra)]) ⟨hP, hS, hl⟩ ?_ ?_
      · intro y1 H locs ls hy1 hI ih_y1
        obtain ⟨hP, hS, hl⟩ := hI
        refine lv_iload hx hb d_Ref_encodeRows_89 (lv_at hl 0 rfl) ?_
        refine lv_iconst (v := 4) hx hb d_Ref_encodeRows_91 (by decide) ?_
        refine lv_icmp_ge (tgt := 127) hx hb d_Ref_encodeRows_92 (by decide) (fun c9 => absurd c9 (nI_ge (a := y1) (b := 4) hy1 (by decide))) (fun c9 => ?_)
        obtain ⟨j1x, j2x, j3x⟩ := plF_ok (r3 y1 hy1)
        refine tp_pc (pc' := 95) (by rfl) ?_
        refine lv_aload_n hx hb d_Ref_encodeRows_95 rfl (lv_at hl 4 rfl) ?_
        refine lv_aload_n hx hb d_Ref_encodeRows_96 rfl (lv_at hl 4 rfl) ?_
        refine lv_iload hx hb d_Ref_encodeRows_97 (lv_at hl 0 rfl) ?_
        refine lv_aload_n hx hb d_Ref_encodeRows_99 rfl (lv_at hl 4 rfl) ?_
        refine va_get (D := (dC, dI)) (ci := 8) (v := .ref (rA 16)) (C := R_Ref) (T := F_Ref) (N := 48) hx hb hw i_Ref hown hK hP 0 rfl rfl 16 (by decide) (hw _ m_915) (fun _ h9 => h9) rfl d_Ref_encodeRows_100 ?_
        refine lv_bipush (v := 95) hx hb d_Ref_encodeRows_103 (by decide) ?_
        refine lv_iconst (v := 4) hx hb d_Ref_encodeRows_105 (by decide) ?_
        refine lv_iload_n hx hb d_Ref_encodeRows_106 rfl (lv_at hl 1 rfl) ?_
        refine lv_imul hx hb d_Ref_encodeRows_107 ?_
        refine tp_i (y := nI (4 * (ro x1 (i1 + 1)))) (by exact pk_mul 4 (ro x1 (i1 + 1))) ?_
        refine lv_iadd hx hb d_Ref_encodeRows_108 ?_
        refine tp_i (y := nI (95 + (4 * (ro x1 (i1 + 1))))) (by exact nI_add 95 (4 * (ro x1 (i1 + 1)))) ?_
        refine lv_iload hx hb d_Ref_encodeRows_109 (lv_at hl 0 rfl) ?_
        refine lv_iadd hx hb d_Ref_encodeRows_111 ?_
        refine tp_i (y := nI (95 + (4 * (ro x1 (i1 + 1))) + y1)) (by exact nI_add (95 + (4 * (ro x1 (i1 + 1)))) y1) ?_
        refine va_iald (D := (dC, dI)) hx hb hK hP 2 1 rfl rfl (i := nI (95 + (4 * (ro x1 (i1 + 1))) + y1)) (pk_in (95 + (4 * (ro x1 (i1 + 1))) + y1) 155 (by omega)) d_Ref_encodeRows_112 ?_
        refine tp_i (y := sf (95 + (4 * (ro x1 (i1 + 1))) + y1)) (by rw [show (nI (95 + (4 * (ro x1 (i1 + 1))) + y1) : Int32).toNatClampNeg = 95 + (4 * (ro x1 (i1 + 1))) + y1 from pk_cl (95 + (4 * (ro x1 (i1 + 1))) + y1)]) ?_
        refine tp_i (y := sf (95 + 4 * ro x1 (i1 + 1) + y1)) rfl ?_
        obtain ⟨hPc, hDc, hFc⟩ := cut3 (wc := [oc ra 8 [.int (nI T), .int (nI Ac), .ref (rA 2), .ref (rA 3), .ref (rA 4), .ref (rA 5), .ref (rA 6), .ref (rA 7), .ref (rA 8), .ref (rA 9), .ref (rA 10), .ref (rA 11), .ref (rA 12), .ref (rA 13), .int ir, .ref (rA 15), .ref (rA 16), .ref (rA 17), .ref (rA 18), .int (nI md), .int (nI wd), .ref (rA 21), .ref (rA 22), .ref (rA 23), .int (nI mn), .ref (rA 25), .int (nI (szB ((((((L0 ++ mpL (rwB sf T zz ro) x1) ++ [((sf (37 + x1)).toInt64, 4)]) ++ mpL (fun j => enB1 sf (ro x1 (j + 1))) i1) ++ [((sf (73 + ro x1 (i1 + 1)) + 64).toInt64, 7)]) ++ [((sf (84 + ro x1 (i1 + 1))).toInt64, 1)]) ++ mpL (knB sf (ro x1 (i1 + 1))) y1))), .int mr, .ref (rA 28), .ref (rA 29), .ref (rA 30), .ref (rA 31), .ref (rA 32), .ref (rA 33), .ref (rA 34), .ref (rA 35), .int (nI ld), .int (nI gm), .ref (rA 38), .ref (rA 39), .ref (rA 40), .ref (rA 41), .ref (rA 42), .ref (rA 43), .ref (rA 44), .ref (rA 45), .int (nI my), .ref (rA 47)], ia (rA 16) (rK9 16) 155 sf]) hP hD rfl hS hA [0, 2] (by decide +kernel) rfl
        have hKc := hK.sub (tys' := [((rK9 16), .int)]) [1] rfl
        refine va_calli (va_runV (As := [.int (nI y1), .int (sf (95 + 4 * ro x1 (i1 + 1) + y1))]) (rest := [.ref ra]) ⟨hx, hb, hml, hown, hw⟩ (gen_Ref_placeOf l dC dI ra rA rK9 T Ac md wd mn (szB ((((((L0 ++ mpL (rwB sf T zz ro) x1) ++ [((sf (37 + x1)).toInt64, 4)]) ++ mpL (fun j => enB1 sf (ro x1 (j + 1))) i1) ++ [((sf (73 + ro x1 (i1 + 1)) + 64).toInt64, 7)]) ++ [((sf (84 + ro x1 (i1 + 1))).toInt64, 1)]) ++ mpL (knB sf (ro x1 (i1 + 1))) y1)) ld gm my ir mr y1 (plF sf y1 (sf (95 + 4 * ro x1 (i1 + 1) + y1))) (sf (95 + 4 * ro x1 (i1 + 1) + y1)) sf (by omega) j1x j2x j3x H.size) (cw_V 2 hw g_Ref_placeOf rfl rfl rfl (hw _ m_109) (hw _ m_1101) (hw _ m_1103) (hw _ m_60) (by decide +kernel) ⟨Nat.le_of_ble_eq_true rfl, Nat.le_of_ble_eq_true rfl⟩) ⟨fun a U g mk q => by obtain ⟨q0, q1, qP, qK, qD, qN⟩ := q; exact ⟨q0, q1, qP, va_K.moved (u := U) (U := U.calling g mk a) (Vm.Alike.refl U.vm) qK, qD, nw_call qN⟩, va_recv hKc hPc (ci := 8) (q0 := 0) rfl rfl, fun U hU hW => ⟨rfl, by rw [hU], by rw [hU]; exact hPc, va_K.moved hW.alike hKc, hDc.weaken (fun _ _ _ _ => trivial), nw_warm hW hn⟩⟩ rfl rfl hl.1 rfl (lv_room (Nat.le_of_ble_eq_true rfl)) d_Ref_encodeRows_113 ⟨Nat.le_of_ble_eq_true rfl, Nat.le_of_ble_eq_true rfl⟩) hS (fun q _ h => hFc q h) hFc ?_
        intro r_4 u t9 H1 locs1 ht9 hvm hw1 hB hz1 hk1 hS1
        obtain ⟨hP1, hK1, hD1⟩ := hB
        rw [ht9] at hP1
        replace hK1 := va_K.moved hvm.symm hK1
        have hPD := join3 hP hD rfl [0, 2] [1] rfl (by rfl) (by decide +kernel) (by decide +kernel) hk1 hFc hP1 hD1
        replace hK : va_K (dC, dI) classes [((rK9 25), .long), ((rK9 16), .int)] s := hK.app hK1
        clear hP1 hK1 hD1 hk1 hz1 hFc hKc hDc hPc hvm ht9 hP hS t9 locs H
        have hP : va_P (dC, dI) classes [la (rA 25) (rK9 25) 5 ((wrB ((((((L0 ++ mpL (rwB sf T zz ro) x1) ++ [((sf (37 + x1)).toInt64, 4)]) ++ mpL (fun j => enB1 sf (ro x1 (j + 1))) i1) ++ [((sf (73 + ro x1 (i1 + 1)) + 64).toInt64, 7)]) ++ [((sf (84 + ro x1 (i1 + 1))).toInt64, 1)]) ++ mpL (knB sf (ro x1 (i1 + 1))) y1)).1), oc ra 8 [.int (nI T), .int (nI Ac), .ref (rA 2), .ref (rA 3), .ref (rA 4), .ref (rA 5), .ref (rA 6), .ref (rA 7), .ref (rA 8), .ref (rA 9), .ref (rA 10), .ref (rA 11), .ref (rA 12), .ref (rA 13), .int ir, .ref (rA 15), .ref (rA 16), .ref (rA 17), .ref (rA 18), .int (nI md), .int (nI wd), .ref (rA 21), .ref (rA 22), .ref (rA 23), .int (nI mn), .ref (rA 25), .int (nI (szB ((((((L0 ++ mpL (rwB sf T zz ro) x1) ++ [((sf (37 + x1)).toInt64, 4)]) ++ mpL (fun j => enB1 sf (ro x1 (j + 1))) i1) ++ [((sf (73 + ro x1 (i1 + 1)) + 64).toInt64, 7)]) ++ [((sf (84 + ro x1 (i1 + 1))).toInt64, 1)]) ++ mpL (knB sf (ro x1 (i1 + 1))) y1))), .int mr, .ref (rA 28), .ref (rA 29), .ref (rA 30), .ref (rA 31), .ref (rA 32), .ref (rA 33), .ref (rA 34), .ref (rA 35), .int (nI ld), .int (nI gm), .ref (rA 38), .ref (rA 39), .ref (rA 40), .ref (rA 41), .ref (rA 42), .ref (rA 43), .ref (rA 44), .ref (rA 45), .int (nI my), .ref (rA 47)], ia (rA 16) (rK9 16) 155 sf] H1 := hPD.1
        replace hD : dd A [(rA 25), ra, (rA 16)] := dd_of hPD.2 rfl
        clear hPD
        revert H1 locs1
        intro H locs hS hP
        refine tp_i (y := nI (plF sf y1 (sf (95 + 4 * ro x1 (i1 + 1) + y1)))) (hw1) ?_
        clear hw1 r_4 u
        refine tp_pc (pc' := 116) (by rfl) ?_
        refine lv_i2l (v := (nI (plF sf y1 (sf (95 + 4 * ro x1 (i1 + 1) + y1)))).toInt64) hx hb d_Ref_encodeRows_116 rfl ?_
        refine lv_iconst (v := 3) hx hb d_Ref_encodeRows_117 (by decide) ?_
        have g5 := knB_sz sf (ro x1 (i1 + 1)) y1
        refine tp_i (y := nI 3) rfl ?_
        obtain ⟨hPc, hDc, hFc⟩ := cut3 (wc := [oc ra 8 [.int (nI T), .int (nI Ac), .ref (rA 2), .ref (rA 3), .ref (rA 4), .ref (rA 5), .ref (rA 6), .ref (rA 7), .ref (rA 8), .ref (rA 9), .ref (rA 10), .ref (rA 11), .ref (rA 12), .ref (rA 13), .int ir, .ref (rA 15), .ref (rA 16), .ref (rA 17), .ref (rA 18), .int (nI md), .int (nI wd), .ref (rA 21), .ref (rA 22), .ref (rA 23), .int (nI mn), .ref (rA 25), .int (nI (szB ((((((L0 ++ mpL (rwB sf T zz ro) x1) ++ [((sf (37 + x1)).toInt64, 4)]) ++ mpL (fun j => enB1 sf (ro x1 (j + 1))) i1) ++ [((sf (73 + ro x1 (i1 + 1)) + 64).toInt64, 7)]) ++ [((sf (84 + ro x1 (i1 + 1))).toInt64, 1)]) ++ mpL (knB sf (ro x1 (i1 + 1))) y1))), .int mr, .ref (rA 28), .ref (rA 29), .ref (rA 30), .ref (rA 31), .ref (rA 32), .ref (rA 33), .ref (rA 34), .ref (rA 35), .int (nI ld), .int (nI gm), .ref (rA 38), .ref (rA 39), .ref (rA 40), .ref (rA 41), .ref (rA 42), .ref (rA 43), .ref (rA 44), .ref (rA 45), .int (nI my), .ref (rA 47)], la (rA 25) (rK9 25) 5 ((wrB ((((((L0 ++ mpL (rwB sf T zz ro) x1) ++ [((sf (37 + x1)).toInt64, 4)]) ++ mpL (fun j => enB1 sf (ro x1 (j + 1))) i1) ++ [((sf (73 + ro x1 (i1 + 1)) + 64).toInt64, 7)]) ++ [((sf (84 + ro x1 (i1 + 1))).toInt64, 1)]) ++ mpL (knB sf (ro x1 (i1 + 1))) y1)).1)]) hP hD rfl hS hA [1, 0] (by decide +kernel) rfl
        have hKc := hK.sub (tys' := [((rK9 25), .long)]) [0] rfl
        refine va_callv (va_runV (As := [.long ((nI (plF sf y1 (sf (95 + 4 * ro x1 (i1 + 1) + y1)))).toInt64), .int (nI 3)]) (rest := []) ⟨hx, hb, hml, hown, hw⟩ (gen_Ref_bitsL l dC dI ra rA rK9 T Ac md wd mn (szB ((((((L0 ++ mpL (rwB sf T zz ro) x1) ++ [((sf (37 + x1)).toInt64, 4)]) ++ mpL (fun j => enB1 sf (ro x1 (j + 1))) i1) ++ [((sf (73 + ro x1 (i1 + 1)) + 64).toInt64, 7)]) ++ [((sf (84 + ro x1 (i1 + 1))).toInt64, 1)]) ++ mpL (knB sf (ro x1 (i1 + 1))) y1)) ld gm my ir mr ((nI (plF sf y1 (sf (95 + 4 * ro x1 (i1 + 1) + y1)))).toInt64) 3 ((((((L0 ++ mpL (rwB sf T zz ro) x1) ++ [((sf (37 + x1)).toInt64, 4)]) ++ mpL (fun j => enB1 sf (ro x1 (j + 1))) i1) ++ [((sf (73 + ro x1 (i1 + 1)) + 64).toInt64, 7)]) ++ [((sf (84 + ro x1 (i1 + 1))).toInt64, 1)]) ++ mpL (knB sf (ro x1 (i1 + 1))) y1) ((((((L0 ++ mpL (rwB sf T zz ro) x1) ++ [((sf (37 + x1)).toInt64, 4)]) ++ mpL (fun j => enB1 sf (ro x1 (j + 1))) i1) ++ [((sf (73 + ro x1 (i1 + 1)) + 64).toInt64, 7)]) ++ [((sf (84 + ro x1 (i1 + 1))).toInt64, 1)]) ++ mpL (knB sf (ro x1 (i1 + 1))) (y1 + 1)) (by rw [mpL_s y1]; exact (List.append_assoc _ _ _).symm) rfl (by decide) (by decide) (by have g6 := knB_sz sf (ro x1 (i1 + 1)) (y1 + 1); simp only [szB_app, szB_1]; omega) H.size) (cw_V 2 hw g_Ref_bits rfl rfl rfl (hw _ m_109) (hw _ m_1093) (hw _ m_1095) (hw _ m_58) (by decide +kernel) ⟨Nat.le_of_ble_eq_true rfl, Nat.le_of_ble_eq_true rfl⟩) ⟨fun a U g mk q => by obtain ⟨q0, q1, qP, qK, qD, qN⟩ := q; exact ⟨q0, q1, qP, va_K.moved (u := U) (U := U.calling g mk a) (Vm.Alike.refl U.vm) qK, qD, nw_call qN⟩, va_recv hKc hPc (ci := 8) (q0 := 0) rfl rfl, fun U hU hW => ⟨rfl, by rw [hU], by rw [hU]; exact hPc, va_K.moved hW.alike hKc, hDc.weaken (fun _ _ _ _ => trivial), nw_warm hW hn⟩⟩ rfl rfl hl.1 rfl (lv_room (Nat.le_of_ble_eq_true rfl)) d_Ref_encodeRows_118 ⟨Nat.le_of_ble_eq_true rfl, Nat.le_of_ble_eq_true rfl⟩) hS (fun q _ h => hFc q h) hFc ?_
        intro u t9 H1 locs1 ht9 hvm hw1 hB hz1 hk1 hS1
        obtain ⟨hP1, hK1, hD1⟩ := hB
        rw [ht9] at hP1
        replace hK1 := va_K.moved hvm.symm hK1
        have hPD := join3 hP hD rfl [1, 0] [2] rfl (by rfl) (by decide +kernel) (by decide +kernel) hk1 hFc hP1 hD1
        replace hK : va_K (dC, dI) classes [((rK9 25), .long), ((rK9 16), .int)] s := hK.app hK1
        clear hP1 hK1 hD1 hk1 hz1 hFc hKc hDc hPc hvm ht9 hP hS t9 locs H
        have hP : va_P (dC, dI) classes [ia (rA 16) (rK9 16) 155 sf, oc ra 8 [.int (nI T), .int (nI Ac), .ref (rA 2), .ref (rA 3), .ref (rA 4), .ref (rA 5), .ref (rA 6), .ref (rA 7), .ref (rA 8), .ref (rA 9), .ref (rA 10), .ref (rA 11), .ref (rA 12), .ref (rA 13), .int ir, .ref (rA 15), .ref (rA 16), .ref (rA 17), .ref (rA 18), .int (nI md), .int (nI wd), .ref (rA 21), .ref (rA 22), .ref (rA 23), .int (nI mn), .ref (rA 25), .int (nI (szB ((((((L0 ++ mpL (rwB sf T zz ro) x1) ++ [((sf (37 + x1)).toInt64, 4)]) ++ mpL (fun j => enB1 sf (ro x1 (j + 1))) i1) ++ [((sf (73 + ro x1 (i1 + 1)) + 64).toInt64, 7)]) ++ [((sf (84 + ro x1 (i1 + 1))).toInt64, 1)]) ++ mpL (knB sf (ro x1 (i1 + 1))) (y1 + 1)))), .int mr, .ref (rA 28), .ref (rA 29), .ref (rA 30), .ref (rA 31), .ref (rA 32), .ref (rA 33), .ref (rA 34), .ref (rA 35), .int (nI ld), .int (nI gm), .ref (rA 38), .ref (rA 39), .ref (rA 40), .ref (rA 41), .ref (rA 42), .ref (rA 43), .ref (rA 44), .ref (rA 45), .int (nI my), .ref (rA 47)], la (rA 25) (rK9 25) 5 ((wrB ((((((L0 ++ mpL (rwB sf T zz ro) x1) ++ [((sf (37 + x1)).toInt64, 4)]) ++ mpL (fun j => enB1 sf (ro x1 (j + 1))) i1) ++ [((sf (73 + ro x1 (i1 + 1)) + 64).toInt64, 7)]) ++ [((sf (84 + ro x1 (i1 + 1))).toInt64, 1)]) ++ mpL (knB sf (ro x1 (i1 + 1))) (y1 + 1))).1)] H1 := hPD.1
        replace hD : dd A [(rA 16), ra, (rA 25)] := dd_of hPD.2 rfl
        clear hPD
        revert H1 locs1
        intro H locs hS hP
        clear hw1 u
        refine tp_pc (pc' := 121) (by rfl) ?_
        refine lv_iinc (v := nI (y1 + 1)) (lv' := [(4, .int (nI (y1 + 1))), (3, .int (nI (ro x1 (i1 + 1)))), (2, .int (nI (i1 + 1))), (1, .int (nI x1)), (0, .ref ra)]) hx hb d_Ref_encodeRows_121 hl (k := 0) rfl (by exact nI_1 y1) (by decide) rfl ?_
        clear hl ls
        intro ls hl
        refine lv_goto (tgt := 89) hx hb d_Ref_encodeRows_124 (by decide) ?_
        refine tp_pc (pc' := 89) (by rfl) ?_
        obtain ⟨hP8, -, -⟩ := cut3 (wc := [oc ra 8 [.int (nI T), .int (nI Ac), .ref (rA 2), .ref (rA 3), .ref (rA 4), .ref (rA 5), .ref (rA 6), .ref (rA 7), .ref (rA 8), .ref (rA 9), .ref (rA 10), .ref (rA 11), .ref (rA 12), .ref (rA 13), .int ir, .ref (rA 15), .ref (rA 16), .ref (rA 17), .ref (rA 18), .int (nI md), .int (nI wd), .ref (rA 21), .ref (rA 22), .ref (rA 23), .int (nI mn), .ref (rA 25), .int (nI (szB ((((((L0 ++ mpL (rwB sf T zz ro) x1) ++ [((sf (37 + x1)).toInt64, 4)]) ++ mpL (fun j => enB1 sf (ro x1 (j + 1))) i1) ++ [((sf (73 + ro x1 (i1 + 1)) + 64).toInt64, 7)]) ++ [((sf (84 + ro x1 (i1 + 1))).toInt64, 1)]) ++ mpL (knB sf (ro x1 (i1 + 1))) (y1 + 1)))), .int mr, .ref (rA 28), .ref (rA 29), .ref (rA 30), .ref (rA 31), .ref (rA 32), .ref (rA 33), .ref (rA 34), .ref (rA 35), .int (nI ld), .int (nI gm), .ref (rA 38), .ref (rA 39), .ref (rA 40), .ref (rA 41), .ref (rA 42), .ref (rA 43), .ref (rA 44), .ref (rA 45), .int (nI my), .ref (rA 47)], la (rA 25) (rK9 25) 5 ((wrB ((((((L0 ++ mpL (rwB sf T zz ro) x1) ++ [((sf (37 + x1)).toInt64, 4)]) ++ mpL (fun j => enB1 sf (ro x1 (j + 1))) i1) ++ [((sf (73 + ro x1 (i1 + 1)) + 64).toInt64, 7)]) ++ [((sf (84 + ro x1 (i1 + 1))).toInt64, 1)]) ++ mpL (knB sf (ro x1 (i1 + 1))) (y1 + 1))).1), ia (rA 16) (rK9 16) 155 sf]) hP hD rfl hS hA [1, 2, 0] (by decide +kernel) rfl
        exact ih_y1 _ _ _ ⟨hP8, hS, lv_sub hl [0, 1, 2, 3, 4] rfl⟩
      · intro H locs ls hI
        obtain ⟨hP, hS, hl⟩ := hI
        replace hl : lv_has ls 5 [(4, .int 4), (3, .int (nI (ro x1 (i1 + 1)))), (2, .int (nI (i1 + 1))), (1, .int (nI x1)), (0, .ref ra)] := hl
        refine lv_iload hx hb d_Ref_encodeRows_89 (lv_at hl 0 rfl) ?_
        refine lv_iconst (v := 4) hx hb d_Ref_encodeRows_91 (by decide) ?_
        refine lv_icmp_ge (tgt := 127) hx hb d_Ref_encodeRows_92 (by decide) (fun c_6 => ?_) (fun c_6 => absurd c_6 (by decide))
        refine tp_pc (pc' := 127) (by rfl) ?_
        refine lv_iinc (v := nI (i1 + 1 + 1)) (lv' := [(2, .int (nI (i1 + 1 + 1))), (4, .int 4), (3, .int (nI (ro x1 (i1 + 1)))), (1, .int (nI x1)), (0, .ref ra)]) hx hb d_Ref_encodeRows_127 hl (k := 2) rfl (by exact nI_1 (i1 + 1)) (by decide) rfl ?_
        clear hl ls
        intro ls hl
        refine lv_goto (tgt := 24) hx hb d_Ref_encodeRows_130 (by decide) ?_
        refine tp_pc (pc' := 24) (by rfl) ?_
        have e9 : (((L0 ++ mpL (rwB sf T zz ro) x1) ++ [((sf (37 + x1)).toInt64, 4)]) ++ mpL (fun j => enB1 sf (ro x1 (j + 1))) (i1 + 1)) = ((((((L0 ++ mpL (rwB sf T zz ro) x1) ++ [((sf (37 + x1)).toInt64, 4)]) ++ mpL (fun j => enB1 sf (ro x1 (j + 1))) i1) ++ [((sf (73 + ro x1 (i1 + 1)) + 64).toInt64, 7)]) ++ [((sf (84 + ro x1 (i1 + 1))).toInt64, 1)]) ++ mpL (knB sf (ro x1 (i1 + 1))) 4) := by rw [mpL_s i1]; show (_ ++ (_ ++ enB1 sf (ro x1 (i1 + 1)))) = _; unfold enB1; simp only [List.append_assoc, List.cons_append, List.nil_append]
        replace hP : va_P (dC, dI) classes [oc ra 8 [.int (nI T), .int (nI Ac), .ref (rA 2), .ref (rA 3), .ref (rA 4), .ref (rA 5), .ref (rA 6), .ref (rA 7), .ref (rA 8), .ref (rA 9), .ref (rA 10), .ref (rA 11), .ref (rA 12), .ref (rA 13), .int ir, .ref (rA 15), .ref (rA 16), .ref (rA 17), .ref (rA 18), .int (nI md), .int (nI wd), .ref (rA 21), .ref (rA 22), .ref (rA 23), .int (nI mn), .ref (rA 25), .int (nI (szB (((L0 ++ mpL (rwB sf T zz ro) x1) ++ [((sf (37 + x1)).toInt64, 4)]) ++ mpL (fun j => enB1 sf (ro x1 (j + 1))) (i1 + 1)))), .int mr, .ref (rA 28), .ref (rA 29), .ref (rA 30), .ref (rA 31), .ref (rA 32), .ref (rA 33), .ref (rA 34), .ref (rA 35), .int (nI ld), .int (nI gm), .ref (rA 38), .ref (rA 39), .ref (rA 40), .ref (rA 41), .ref (rA 42), .ref (rA 43), .ref (rA 44), .ref (rA 45), .int (nI my), .ref (rA 47)], la (rA 25) (rK9 25) 5 ((wrB (((L0 ++ mpL (rwB sf T zz ro) x1) ++ [((sf (37 + x1)).toInt64, 4)]) ++ mpL (fun j => enB1 sf (ro x1 (j + 1))) (i1 + 1))).1), ia (rA 16) (rK9 16) 155 sf] H := by rw [e9]; exact hP
        obtain ⟨hP8, -, -⟩ := cut3 (wc := [oc ra 8 [.int (nI T), .int (nI Ac), .ref (rA 2), .ref (rA 3), .ref (rA 4), .ref (rA 5), .ref (rA 6), .ref (rA 7), .ref (rA 8), .ref (rA 9), .ref (rA 10), .ref (rA 11), .ref (rA 12), .ref (rA 13), .int ir, .ref (rA 15), .ref (rA 16), .ref (rA 17), .ref (rA 18), .int (nI md), .int (nI wd), .ref (rA 21), .ref (rA 22), .ref (rA 23), .int (nI mn), .ref (rA 25), .int (nI (szB (((L0 ++ mpL (rwB sf T zz ro) x1) ++ [((sf (37 + x1)).toInt64, 4)]) ++ mpL (fun j => enB1 sf (ro x1 (j + 1))) (i1 + 1)))), .int mr, .ref (rA 28), .ref (rA 29), .ref (rA 30), .ref (rA 31), .ref (rA 32), .ref (rA 33), .ref (rA 34), .ref (rA 35), .int (nI ld), .int (nI gm), .ref (rA 38), .ref (rA 39), .ref (rA 40), .ref (rA 41), .ref (rA 42), .ref (rA 43), .ref (rA 44), .ref (rA 45), .int (nI my), .ref (rA 47)], la (rA 25) (rK9 25) 5 ((wrB (((L0 ++ mpL (rwB sf T zz ro) x1) ++ [((sf (37 + x1)).toInt64, 4)]) ++ mpL (fun j => enB1 sf (ro x1 (j + 1))) (i1 + 1))).1), ia (rA 16) (rK9 16) 155 sf]) hP hD rfl hS hA [0, 1, 2] (by decide +kernel) rfl
        exact ih_i1 _ _ _ ⟨hP8, hS, lv_sub hl [0, 3, 4] rfl⟩
    · intro H locs ls hI
      obtain ⟨hP, hS, hl⟩ := hI
      refine lv_iload_n hx hb d_Ref_encodeRows_24 rfl (lv_at hl 0 rfl) ?_
      refine lv_aload_n hx hb d_Ref_encodeRows_25 rfl (lv_at hl 2 rfl) ?_
      refine va_get (D := (dC, dI)) (ci := 8) (v := .ref (rA 16)) (C := R_Ref) (T := F_Ref) (N := 48) hx hb hw i_Ref hown hK hP 0 rfl rfl 16 (by decide) (hw _ m_915) (fun _ h9 => h9) rfl d_Ref_encodeRows_26 ?_
      refine lv_bipush (v := 37) hx hb d_Ref_encodeRows_29 (by decide) ?_
      refine lv_iload_n hx hb d_Ref_encodeRows_31 rfl (lv_at hl 1 rfl) ?_
      refine lv_iadd hx hb d_Ref_encodeRows_32 ?_
      refine tp_i (y := nI (37 + x1)) (by exact nI_add 37 x1) ?_
      refine va_iald (D := (dC, dI)) hx hb hK hP 2 1 rfl rfl (i := nI (37 + x1)) (pk_in (37 + x1) 155 (by omega)) d_Ref_encodeRows_33 ?_
      refine tp_i (y := sf (37 + x1)) (by rw [show (nI (37 + x1) : Int32).toNatClampNeg = 37 + x1 from pk_cl (37 + x1)]) ?_
      refine tp_i (y := nI (zz x1)) z1 ?_
      refine lv_icmp_ge (tgt := 133) hx hb d_Ref_encodeRows_34 (by decide) (fun c9 => ?_) (fun c9 => absurd (nI_le (a := zz x1) (b := zz x1 - 1 + 1) (by omega) (by omega)) c9)
      refine tp_pc (pc' := 133) (by rfl) ?_
      refine lv_iconst (v := 0) hx hb d_Ref_encodeRows_133 (by decide) ?_
      refine lv_istore_n (lv' := [(2, .int 0), (1, .int (nI x1)), (0, .ref ra)]) hx hb d_Ref_encodeRows_134 rfl hl (by decide) rfl ?_
      clear hl ls
      intro ls hl
      replace hP : va_P (dC, dI) classes [oc ra 8 [.int (nI T), .int (nI Ac), .ref (rA 2), .ref (rA 3), .ref (rA 4), .ref (rA 5), .ref (rA 6), .ref (rA 7), .ref (rA 8), .ref (rA 9), .ref (rA 10), .ref (rA 11), .ref (rA 12), .ref (rA 13), .int ir, .ref (rA 15), .ref (rA 16), .ref (rA 17), .ref (rA 18), .int (nI md), .int (nI wd), .ref (rA 21), .ref (rA 22), .ref (rA 23), .int (nI mn), .ref (rA 25), .int (nI (szB ((((L0 ++ mpL (rwB sf T zz ro) x1) ++ [((sf (37 + x1)).toInt64, 4)]) ++ mpL (fun j => enB1 sf (ro x1 (j + 1))) (zz x1 - 1)) ++ mpL (tkB sf x1) 0))), .int mr, .ref (rA 28), .ref (rA 29), .ref (rA 30), .ref (rA 31), .ref (rA 32), .ref (rA 33), .ref (rA 34), .ref (rA 35), .int (nI ld), .int (nI gm), .ref (rA 38), .ref (rA 39), .ref (rA 40), .ref (rA 41), .ref (rA 42), .ref (rA 43), .ref (rA 44), .ref (rA 45), .int (nI my), .ref (rA 47)], la (rA 25) (rK9 25) 5 ((wrB ((((L0 ++ mpL (rwB sf T zz ro) x1) ++ [((sf (37 + x1)).toInt64, 4)]) ++ mpL (fun j => enB1 sf (ro x1 (j + 1))) (zz x1 - 1)) ++ mpL (tkB sf x1) 0)).1), ia (rA 16) (rK9 16) 155 sf] H := by rw [mpL_0, List.append_nil]; exact hP
      replace hP : va_P (dC, dI) classes [oc ra 8 [.int (nI T), .int (nI Ac), .ref (rA 2), .ref (rA 3), .ref (rA 4), .ref (rA 5), .ref (rA 6), .ref (rA 7), .ref (rA 8), .ref (rA 9), .ref (rA 10), .ref (rA 11), .ref (rA 12), .ref (rA 13), .int ir, .ref (rA 15), .ref (rA 16), .ref (rA 17), .ref (rA 18), .int (nI md), .int (nI wd), .ref (rA 21), .ref (rA 22), .ref (rA 23), .int (nI mn), .ref (rA 25), .int (nI (szB ((((L0 ++ mpL (rwB sf T zz ro) x1) ++ [((sf (37 + x1)).toInt64, 4)]) ++ mpL (fun j => enB1 sf (ro x1 (j + 1))) (zz x1 - 1)) ++ mpL (tkB sf x1) 0))), .int mr, .ref (rA 28), .ref (rA 29), .ref (rA 30), .ref (rA 31), .ref (rA 32), .ref (rA 33), .ref (rA 34), .ref (rA 35), .int (nI ld), .int (nI gm), .ref (rA 38), .ref (rA 39), .ref (rA 40), .ref (rA 41), .ref (rA 42), .ref (rA 43), .ref (rA 44), .ref (rA 45), .int (nI my), .ref (rA 47)], la (rA 25) (rK9 25) 5 ((wrB ((((L0 ++ mpL (rwB sf T zz ro) x1) ++ [((sf (37 + x1)).toInt64, 4)]) ++ mpL (fun j => enB1 sf (ro x1 (j + 1))) (zz x1 - 1)) ++ mpL (tkB sf x1) 0)).1), ia (rA 16) (rK9 16) 155 sf] H := hP
      replace hl : lv_has ls 5 [(2, .int (nI 0)), (1, .int (nI x1)), (0, .ref ra)] := hl
      refine lp_n T (fun t1 H locs ls => va_P (dC, dI) classes [oc ra 8 [.int (nI T), .int (nI Ac), .ref (rA 2), .ref (rA 3), .ref (rA 4), .ref (rA 5), .ref (rA 6), .ref (rA 7), .ref (rA 8), .ref (rA 9), .ref (rA 10), .ref (rA 11), .ref (rA 12), .ref (rA 13), .int ir, .ref (rA 15), .ref (rA 16), .ref (rA 17), .ref (rA 18), .int (nI md), .int (nI wd), .ref (rA 21), .ref (rA 22), .ref (rA 23), .int (nI mn), .ref (rA 25), .int (nI (szB ((((L0 ++ mpL (rwB sf T zz ro) x1) ++ [((sf (37 + x1)).toInt64, 4)]) ++ mpL (fun j => enB1 sf (ro x1 (j + 1))) (zz x1 - 1)) ++ mpL (tkB sf x1) t1))), .int mr, .ref (rA 28), .ref (rA 29), .ref (rA 30), .ref (rA 31), .ref (rA 32), .ref (rA 33), .ref (rA 34), .ref (rA 35), .int (nI ld), .int (nI gm), .ref (rA 38), .ref (rA 39), .ref (rA 40), .ref (rA 41), .ref (rA 42), .ref (rA 43), .ref (rA 44), .ref (rA 45), .int (nI my), .ref (rA 47)], la (rA 25) (rK9 25) 5 ((wrB ((((L0 ++ mpL (rwB sf T zz ro) x1) ++ [((sf (37 + x1)).toInt64, 4)]) ++ mpL (fun j => enB1 sf (ro x1 (j + 1))) (zz x1 - 1)) ++ mpL (tkB sf x1) t1)).1), ia (rA 16) (rK9 16) 155 sf] H ∧ va_S A s.heap H locs ∧ lv_has ls 5 [(2, .int (nI t1)), (1, .int (nI x1)), (0, .ref ra)]) ⟨hP, hS, hl⟩ ?_ ?_
      · intro t1 H locs ls ht1 hI ih_t1
        obtain ⟨hP, hS, hl⟩ := hI
        refine lv_iload_n hx hb d_Ref_encodeRows_135 rfl (lv_at hl 0 rfl) ?_
        refine lv_aload_n hx hb d_Ref_encodeRows_136 rfl (lv_at hl 2 rfl) ?_
        refine va_get (D := (dC, dI)) (ci := 8) (v := .int (nI T)) (C := R_Ref) (T := F_Ref) (N := 48) hx hb hw i_Ref hown hK hP 0 rfl rfl 0 (by decide) (hw _ m_899) (fun _ h9 => h9) rfl d_Ref_encodeRows_137 ?_
        refine lv_icmp_ge (tgt := 174) hx hb d_Ref_encodeRows_140 (by decide) (fun c9 => absurd c9 (nI_ge ht1 (by omega))) (fun c9 => ?_)
        obtain ⟨j1x, j2x, j3x⟩ := plF_ok (htk t1 ht1 x1 hx1)
        refine tp_pc (pc' := 143) (by rfl) ?_
        refine lv_aload_n hx hb d_Ref_encodeRows_143 rfl (lv_at hl 2 rfl) ?_
        refine lv_aload_n hx hb d_Ref_encodeRows_144 rfl (lv_at hl 2 rfl) ?_
        refine lv_iload_n hx hb d_Ref_encodeRows_145 rfl (lv_at hl 1 rfl) ?_
        refine lv_aload_n hx hb d_Ref_encodeRows_146 rfl (lv_at hl 2 rfl) ?_
        refine va_get (D := (dC, dI)) (ci := 8) (v := .ref (rA 16)) (C := R_Ref) (T := F_Ref) (N := 48) hx hb hw i_Ref hown hK hP 0 rfl rfl 16 (by decide) (hw _ m_915) (fun _ h9 => h9) rfl d_Ref_encodeRows_147 ?_
        refine lv_sipush (v := 139) hx hb d_Ref_encodeRows_150 (by decide) ?_
        refine lv_iconst (v := 4) hx hb d_Ref_encodeRows_153 (by decide) ?_
        refine lv_iload_n hx hb d_Ref_encodeRows_154 rfl (lv_at hl 0 rfl) ?_
        refine lv_imul hx hb d_Ref_encodeRows_155 ?_
        refine tp_i (y := nI (4 * t1)) (by exact pk_mul 4 t1) ?_
        refine lv_iadd hx hb d_Ref_encodeRows_156 ?_
        refine tp_i (y := nI (139 + (4 * t1))) (by exact nI_add 139 (4 * t1)) ?_
        refine lv_iload_n hx hb d_Ref_encodeRows_157 rfl (lv_at hl 1 rfl) ?_
        refine lv_iadd hx hb d_Ref_encodeRows_158 ?_
        refine tp_i (y := nI (139 + (4 * t1) + x1)) (by exact nI_add (139 + (4 * t1)) x1) ?_
        refine va_iald (D := (dC, dI)) hx hb hK hP 2 1 rfl rfl (i := nI (139 + (4 * t1) + x1)) (pk_in (139 + (4 * t1) + x1) 155 (by omega)) d_Ref_encodeRows_159 ?_
        refine tp_i (y := sf (139 + (4 * t1) + x1)) (by rw [show (nI (139 + (4 * t1) + x1) : Int32).toNatClampNeg = 139 + (4 * t1) + x1 from pk_cl (139 + (4 * t1) + x1)]) ?_
        refine tp_i (y := sf (139 + 4 * t1 + x1)) rfl ?_
        obtain ⟨hPc, hDc, hFc⟩ := cut3 (wc := [oc ra 8 [.int (nI T), .int (nI Ac), .ref (rA 2), .ref (rA 3), .ref (rA 4), .ref (rA 5), .ref (rA 6), .ref (rA 7), .ref (rA 8), .ref (rA 9), .ref (rA 10), .ref (rA 11), .ref (rA 12), .ref (rA 13), .int ir, .ref (rA 15), .ref (rA 16), .ref (rA 17), .ref (rA 18), .int (nI md), .int (nI wd), .ref (rA 21), .ref (rA 22), .ref (rA 23), .int (nI mn), .ref (rA 25), .int (nI (szB ((((L0 ++ mpL (rwB sf T zz ro) x1) ++ [((sf (37 + x1)).toInt64, 4)]) ++ mpL (fun j => enB1 sf (ro x1 (j + 1))) (zz x1 - 1)) ++ mpL (tkB sf x1) t1))), .int mr, .ref (rA 28), .ref (rA 29), .ref (rA 30), .ref (rA 31), .ref (rA 32), .ref (rA 33), .ref (rA 34), .ref (rA 35), .int (nI ld), .int (nI gm), .ref (rA 38), .ref (rA 39), .ref (rA 40), .ref (rA 41), .ref (rA 42), .ref (rA 43), .ref (rA 44), .ref (rA 45), .int (nI my), .ref (rA 47)], ia (rA 16) (rK9 16) 155 sf]) hP hD rfl hS hA [0, 2] (by decide +kernel) rfl
        have hKc := hK.sub (tys' := [((rK9 16), .int)]) [1] rfl
        refine va_calli (va_runV (As := [.int (nI x1), .int (sf (139 + 4 * t1 + x1))]) (rest := [.ref ra]) ⟨hx, hb, hml, hown, hw⟩ (gen_Ref_placeOf l dC dI ra rA rK9 T Ac md wd mn (szB ((((L0 ++ mpL (rwB sf T zz ro) x1) ++ [((sf (37 + x1)).toInt64, 4)]) ++ mpL (fun j => enB1 sf (ro x1 (j + 1))) (zz x1 - 1)) ++ mpL (tkB sf x1) t1)) ld gm my ir mr x1 (plF sf x1 (sf (139 + 4 * t1 + x1))) (sf (139 + 4 * t1 + x1)) sf (by omega) j1x j2x j3x H.size) (cw_V 2 hw g_Ref_placeOf rfl rfl rfl (hw _ m_109) (hw _ m_1101) (hw _ m_1103) (hw _ m_60) (by decide +kernel) ⟨Nat.le_of_ble_eq_true rfl, Nat.le_of_ble_eq_true rfl⟩) ⟨fun a U g mk q => by obtain ⟨q0, q1, qP, qK, qD, qN⟩ := q; exact ⟨q0, q1, qP, va_K.moved (u := U) (U := U.calling g mk a) (Vm.Alike.refl U.vm) qK, qD, nw_call qN⟩, va_recv hKc hPc (ci := 8) (q0 := 0) rfl rfl, fun U hU hW => ⟨rfl, by rw [hU], by rw [hU]; exact hPc, va_K.moved hW.alike hKc, hDc.weaken (fun _ _ _ _ => trivial), nw_warm hW hn⟩⟩ rfl rfl hl.1 rfl (lv_room (Nat.le_of_ble_eq_true rfl)) d_Ref_encodeRows_160 ⟨Nat.le_of_ble_eq_true rfl, Nat.le_of_ble_eq_true rfl⟩) hS (fun q _ h => hFc q h) hFc ?_
        intro r_7 u t9 H1 locs1 ht9 hvm hw1 hB hz1 hk1 hS1
        obtain ⟨hP1, hK1, hD1⟩ := hB
        rw [ht9] at hP1
        replace hK1 := va_K.moved hvm.symm hK1
        have hPD := join3 hP hD rfl [0, 2] [1] rfl (by rfl) (by decide +kernel) (by decide +kernel) hk1 hFc hP1 hD1
        replace hK : va_K (dC, dI) classes [((rK9 25), .long), ((rK9 16), .int)] s := hK.app hK1
        clear hP1 hK1 hD1 hk1 hz1 hFc hKc hDc hPc hvm ht9 hP hS t9 locs H
        have hP : va_P (dC, dI) classes [la (rA 25) (rK9 25) 5 ((wrB ((((L0 ++ mpL (rwB sf T zz ro) x1) ++ [((sf (37 + x1)).toInt64, 4)]) ++ mpL (fun j => enB1 sf (ro x1 (j + 1))) (zz x1 - 1)) ++ mpL (tkB sf x1) t1)).1), oc ra 8 [.int (nI T), .int (nI Ac), .ref (rA 2), .ref (rA 3), .ref (rA 4), .ref (rA 5), .ref (rA 6), .ref (rA 7), .ref (rA 8), .ref (rA 9), .ref (rA 10), .ref (rA 11), .ref (rA 12), .ref (rA 13), .int ir, .ref (rA 15), .ref (rA 16), .ref (rA 17), .ref (rA 18), .int (nI md), .int (nI wd), .ref (rA 21), .ref (rA 22), .ref (rA 23), .int (nI mn), .ref (rA 25), .int (nI (szB ((((L0 ++ mpL (rwB sf T zz ro) x1) ++ [((sf (37 + x1)).toInt64, 4)]) ++ mpL (fun j => enB1 sf (ro x1 (j + 1))) (zz x1 - 1)) ++ mpL (tkB sf x1) t1))), .int mr, .ref (rA 28), .ref (rA 29), .ref (rA 30), .ref (rA 31), .ref (rA 32), .ref (rA 33), .ref (rA 34), .ref (rA 35), .int (nI ld), .int (nI gm), .ref (rA 38), .ref (rA 39), .ref (rA 40), .ref (rA 41), .ref (rA 42), .ref (rA 43), .ref (rA 44), .ref (rA 45), .int (nI my), .ref (rA 47)], ia (rA 16) (rK9 16) 155 sf] H1 := hPD.1
        replace hD : dd A [(rA 25), ra, (rA 16)] := dd_of hPD.2 rfl
        clear hPD
        revert H1 locs1
        intro H locs hS hP
        refine tp_i (y := nI (plF sf x1 (sf (139 + 4 * t1 + x1)))) (hw1) ?_
        clear hw1 r_7 u
        refine tp_pc (pc' := 163) (by rfl) ?_
        refine lv_i2l (v := (nI (plF sf x1 (sf (139 + 4 * t1 + x1)))).toInt64) hx hb d_Ref_encodeRows_163 rfl ?_
        refine lv_iconst (v := 3) hx hb d_Ref_encodeRows_164 (by decide) ?_
        have g5 := szB_mono (f := tkB sf x1) ht1
        have g7 : szB (tkB sf x1 t1) = 3 := rfl
        refine tp_i (y := nI 3) rfl ?_
        obtain ⟨hPc, hDc, hFc⟩ := cut3 (wc := [oc ra 8 [.int (nI T), .int (nI Ac), .ref (rA 2), .ref (rA 3), .ref (rA 4), .ref (rA 5), .ref (rA 6), .ref (rA 7), .ref (rA 8), .ref (rA 9), .ref (rA 10), .ref (rA 11), .ref (rA 12), .ref (rA 13), .int ir, .ref (rA 15), .ref (rA 16), .ref (rA 17), .ref (rA 18), .int (nI md), .int (nI wd), .ref (rA 21), .ref (rA 22), .ref (rA 23), .int (nI mn), .ref (rA 25), .int (nI (szB ((((L0 ++ mpL (rwB sf T zz ro) x1) ++ [((sf (37 + x1)).toInt64, 4)]) ++ mpL (fun j => enB1 sf (ro x1 (j + 1))) (zz x1 - 1)) ++ mpL (tkB sf x1) t1))), .int mr, .ref (rA 28), .ref (rA 29), .ref (rA 30), .ref (rA 31), .ref (rA 32), .ref (rA 33), .ref (rA 34), .ref (rA 35), .int (nI ld), .int (nI gm), .ref (rA 38), .ref (rA 39), .ref (rA 40), .ref (rA 41), .ref (rA 42), .ref (rA 43), .ref (rA 44), .ref (rA 45), .int (nI my), .ref (rA 47)], la (rA 25) (rK9 25) 5 ((wrB ((((L0 ++ mpL (rwB sf T zz ro) x1) ++ [((sf (37 + x1)).toInt64, 4)]) ++ mpL (fun j => enB1 sf (ro x1 (j + 1))) (zz x1 - 1)) ++ mpL (tkB sf x1) t1)).1)]) hP hD rfl hS hA [1, 0] (by decide +kernel) rfl
        have hKc := hK.sub (tys' := [((rK9 25), .long)]) [0] rfl
        refine va_callv (va_runV (As := [.long ((nI (plF sf x1 (sf (139 + 4 * t1 + x1)))).toInt64), .int (nI 3)]) (rest := []) ⟨hx, hb, hml, hown, hw⟩ (gen_Ref_bitsL l dC dI ra rA rK9 T Ac md wd mn (szB ((((L0 ++ mpL (rwB sf T zz ro) x1) ++ [((sf (37 + x1)).toInt64, 4)]) ++ mpL (fun j => enB1 sf (ro x1 (j + 1))) (zz x1 - 1)) ++ mpL (tkB sf x1) t1)) ld gm my ir mr ((nI (plF sf x1 (sf (139 + 4 * t1 + x1)))).toInt64) 3 ((((L0 ++ mpL (rwB sf T zz ro) x1) ++ [((sf (37 + x1)).toInt64, 4)]) ++ mpL (fun j => enB1 sf (ro x1 (j + 1))) (zz x1 - 1)) ++ mpL (tkB sf x1) t1) ((((L0 ++ mpL (rwB sf T zz ro) x1) ++ [((sf (37 + x1)).toInt64, 4)]) ++ mpL (fun j => enB1 sf (ro x1 (j + 1))) (zz x1 - 1)) ++ mpL (tkB sf x1) (t1 + 1)) (by rw [mpL_s t1]; exact (List.append_assoc _ _ _).symm) rfl (by decide) (by decide) (by rw [mpL_s t1]; simp only [szB_app, szB_1]; omega) H.size) (cw_V 2 hw g_Ref_bits rfl rfl rfl (hw _ m_109) (hw _ m_1093) (hw _ m_1095) (hw _ m_58) (by decide +kernel) ⟨Nat.le_of_ble_eq_true rfl, Nat.le_of_ble_eq_true rfl⟩) ⟨fun a U g mk q => by obtain ⟨q0, q1, qP, qK, qD, qN⟩ := q; exact ⟨q0, q1, qP, va_K.moved (u := U) (U := U.calling g mk a) (Vm.Alike.refl U.vm) qK, qD, nw_call qN⟩, va_recv hKc hPc (ci := 8) (q0 := 0) rfl rfl, fun U hU hW => ⟨rfl, by rw [hU], by rw [hU]; exact hPc, va_K.moved hW.alike hKc, hDc.weaken (fun _ _ _ _ => trivial), nw_warm hW hn⟩⟩ rfl rfl hl.1 rfl (lv_room (Nat.le_of_ble_eq_true rfl)) d_Ref_encodeRows_165 ⟨Nat.le_of_ble_eq_true rfl, Nat.le_of_ble_eq_true rfl⟩) hS (fun q _ h => hFc q h) hFc ?_
        intro u t9 H1 locs1 ht9 hvm hw1 hB hz1 hk1 hS1
        obtain ⟨hP1, hK1, hD1⟩ := hB
        rw [ht9] at hP1
        replace hK1 := va_K.moved hvm.symm hK1
        have hPD := join3 hP hD rfl [1, 0] [2] rfl (by rfl) (by decide +kernel) (by decide +kernel) hk1 hFc hP1 hD1
        replace hK : va_K (dC, dI) classes [((rK9 25), .long), ((rK9 16), .int)] s := hK.app hK1
        clear hP1 hK1 hD1 hk1 hz1 hFc hKc hDc hPc hvm ht9 hP hS t9 locs H
        have hP : va_P (dC, dI) classes [ia (rA 16) (rK9 16) 155 sf, oc ra 8 [.int (nI T), .int (nI Ac), .ref (rA 2), .ref (rA 3), .ref (rA 4), .ref (rA 5), .ref (rA 6), .ref (rA 7), .ref (rA 8), .ref (rA 9), .ref (rA 10), .ref (rA 11), .ref (rA 12), .ref (rA 13), .int ir, .ref (rA 15), .ref (rA 16), .ref (rA 17), .ref (rA 18), .int (nI md), .int (nI wd), .ref (rA 21), .ref (rA 22), .ref (rA 23), .int (nI mn), .ref (rA 25), .int (nI (szB ((((L0 ++ mpL (rwB sf T zz ro) x1) ++ [((sf (37 + x1)).toInt64, 4)]) ++ mpL (fun j => enB1 sf (ro x1 (j + 1))) (zz x1 - 1)) ++ mpL (tkB sf x1) (t1 + 1)))), .int mr, .ref (rA 28), .ref (rA 29), .ref (rA 30), .ref (rA 31), .ref (rA 32), .ref (rA 33), .ref (rA 34), .ref (rA 35), .int (nI ld), .int (nI gm), .ref (rA 38), .ref (rA 39), .ref (rA 40), .ref (rA 41), .ref (rA 42), .ref (rA 43), .ref (rA 44), .ref (rA 45), .int (nI my), .ref (rA 47)], la (rA 25) (rK9 25) 5 ((wrB ((((L0 ++ mpL (rwB sf T zz ro) x1) ++ [((sf (37 + x1)).toInt64, 4)]) ++ mpL (fun j => enB1 sf (ro x1 (j + 1))) (zz x1 - 1)) ++ mpL (tkB sf x1) (t1 + 1))).1)] H1 := hPD.1
        replace hD : dd A [(rA 16), ra, (rA 25)] := dd_of hPD.2 rfl
        clear hPD
        revert H1 locs1
        intro H locs hS hP
        clear hw1 u
        refine tp_pc (pc' := 168) (by rfl) ?_
        refine lv_iinc (v := nI (t1 + 1)) (lv' := [(2, .int (nI (t1 + 1))), (1, .int (nI x1)), (0, .ref ra)]) hx hb d_Ref_encodeRows_168 hl (k := 0) rfl (by exact nI_1 t1) (by decide) rfl ?_
        clear hl ls
        intro ls hl
        refine lv_goto (tgt := 135) hx hb d_Ref_encodeRows_171 (by decide) ?_
        refine tp_pc (pc' := 135) (by rfl) ?_
        obtain ⟨hP8, -, -⟩ := cut3 (wc := [oc ra 8 [.int (nI T), .int (nI Ac), .ref (rA 2), .ref (rA 3), .ref (rA 4), .ref (rA 5), .ref (rA 6), .ref (rA 7), .ref (rA 8), .ref (rA 9), .ref (rA 10), .ref (rA 11), .ref (rA 12), .ref (rA 13), .int ir, .ref (rA 15), .ref (rA 16), .ref (rA 17), .ref (rA 18), .int (nI md), .int (nI wd), .ref (rA 21), .ref (rA 22), .ref (rA 23), .int (nI mn), .ref (rA 25), .int (nI (szB ((((L0 ++ mpL (rwB sf T zz ro) x1) ++ [((sf (37 + x1)).toInt64, 4)]) ++ mpL (fun j => enB1 sf (ro x1 (j + 1))) (zz x1 - 1)) ++ mpL (tkB sf x1) (t1 + 1)))), .int mr, .ref (rA 28), .ref (rA 29), .ref (rA 30), .ref (rA 31), .ref (rA 32), .ref (rA 33), .ref (rA 34), .ref (rA 35), .int (nI ld), .int (nI gm), .ref (rA 38), .ref (rA 39), .ref (rA 40), .ref (rA 41), .ref (rA 42), .ref (rA 43), .ref (rA 44), .ref (rA 45), .int (nI my), .ref (rA 47)], la (rA 25) (rK9 25) 5 ((wrB ((((L0 ++ mpL (rwB sf T zz ro) x1) ++ [((sf (37 + x1)).toInt64, 4)]) ++ mpL (fun j => enB1 sf (ro x1 (j + 1))) (zz x1 - 1)) ++ mpL (tkB sf x1) (t1 + 1))).1), ia (rA 16) (rK9 16) 155 sf]) hP hD rfl hS hA [1, 2, 0] (by decide +kernel) rfl
        exact ih_t1 _ _ _ ⟨hP8, hS, lv_sub hl [0, 1, 2] rfl⟩
      · intro H locs ls hI
        obtain ⟨hP, hS, hl⟩ := hI
        refine lv_iload_n hx hb d_Ref_encodeRows_135 rfl (lv_at hl 0 rfl) ?_
        refine lv_aload_n hx hb d_Ref_encodeRows_136 rfl (lv_at hl 2 rfl) ?_
        refine va_get (D := (dC, dI)) (ci := 8) (v := .int (nI T)) (C := R_Ref) (T := F_Ref) (N := 48) hx hb hw i_Ref hown hK hP 0 rfl rfl 0 (by decide) (hw _ m_899) (fun _ h9 => h9) rfl d_Ref_encodeRows_137 ?_
        refine lv_icmp_ge (tgt := 174) hx hb d_Ref_encodeRows_140 (by decide) (fun c9 => ?_) (fun c9 => absurd (nI_le (Nat.le_refl T) (by omega)) c9)
        refine tp_pc (pc' := 174) (by rfl) ?_
        refine lv_iinc (v := nI (x1 + 1)) (lv' := [(1, .int (nI (x1 + 1))), (2, .int (nI T)), (0, .ref ra)]) hx hb d_Ref_encodeRows_174 hl (k := 1) rfl (by exact nI_1 x1) (by decide) rfl ?_
        clear hl ls
        intro ls hl
        refine lv_goto (tgt := 2) hx hb d_Ref_encodeRows_177 (by decide) ?_
        refine tp_pc (pc' := 2) (by rfl) ?_
        have e9 : (L0 ++ mpL (rwB sf T zz ro) (x1 + 1)) = ((((L0 ++ mpL (rwB sf T zz ro) x1) ++ [((sf (37 + x1)).toInt64, 4)]) ++ mpL (fun j => enB1 sf (ro x1 (j + 1))) (zz x1 - 1)) ++ mpL (tkB sf x1) T) := by rw [mpL_s x1]; unfold rwB; simp only [List.append_assoc, List.cons_append, List.nil_append]
        replace hP : va_P (dC, dI) classes [oc ra 8 [.int (nI T), .int (nI Ac), .ref (rA 2), .ref (rA 3), .ref (rA 4), .ref (rA 5), .ref (rA 6), .ref (rA 7), .ref (rA 8), .ref (rA 9), .ref (rA 10), .ref (rA 11), .ref (rA 12), .ref (rA 13), .int ir, .ref (rA 15), .ref (rA 16), .ref (rA 17), .ref (rA 18), .int (nI md), .int (nI wd), .ref (rA 21), .ref (rA 22), .ref (rA 23), .int (nI mn), .ref (rA 25), .int (nI (szB (L0 ++ mpL (rwB sf T zz ro) (x1 + 1)))), .int mr, .ref (rA 28), .ref (rA 29), .ref (rA 30), .ref (rA 31), .ref (rA 32), .ref (rA 33), .ref (rA 34), .ref (rA 35), .int (nI ld), .int (nI gm), .ref (rA 38), .ref (rA 39), .ref (rA 40), .ref (rA 41), .ref (rA 42), .ref (rA 43), .ref (rA 44), .ref (rA 45), .int (nI my), .ref (rA 47)], la (rA 25) (rK9 25) 5 ((wrB (L0 ++ mpL (rwB sf T zz ro) (x1 + 1))).1), ia (rA 16) (rK9 16) 155 sf] H := by rw [e9]; exact hP
        obtain ⟨hP8, -, -⟩ := cut3 (wc := [oc ra 8 [.int (nI T), .int (nI Ac), .ref (rA 2), .ref (rA 3), .ref (rA 4), .ref (rA 5), .ref (rA 6), .ref (rA 7), .ref (rA 8), .ref (rA 9), .ref (rA 10), .ref (rA 11), .ref (rA 12), .ref (rA 13), .int ir, .ref (rA 15), .ref (rA 16), .ref (rA 17), .ref (rA 18), .int (nI md), .int (nI wd), .ref (rA 21), .ref (rA 22), .ref (rA 23), .int (nI mn), .ref (rA 25), .int (nI (szB (L0 ++ mpL (rwB sf T zz ro) (x1 + 1)))), .int mr, .ref (rA 28), .ref (rA 29), .ref (rA 30), .ref (rA 31), .ref (rA 32), .ref (rA 33), .ref (rA 34), .ref (rA 35), .int (nI ld), .int (nI gm), .ref (rA 38), .ref (rA 39), .ref (rA 40), .ref (rA 41), .ref (rA 42), .ref (rA 43), .ref (rA 44), .ref (rA 45), .int (nI my), .ref (rA 47)], la (rA 25) (rK9 25) 5 ((wrB (L0 ++ mpL (rwB sf T zz ro) (x1 + 1))).1), ia (rA 16) (rK9 16) 155 sf]) hP hD rfl hS hA [0, 1, 2] (by decide +kernel) rfl
        exact ih_x1 _ _ _ ⟨hP8, hS, lv_sub hl [0, 2] rfl⟩
  · intro H locs ls hI
    obtain ⟨hP, hS, hl⟩ := hI
    replace hl : lv_has ls 5 [(1, .int 4), (0, .ref ra)] := hl
    refine lv_iload_n hx hb d_Ref_encodeRows_2 rfl (lv_at hl 0 rfl) ?_
    refine lv_iconst (v := 4) hx hb d_Ref_encodeRows_3 (by decide) ?_
    refine lv_icmp_ge (tgt := 180) hx hb d_Ref_encodeRows_4 (by decide) (fun c_9 => ?_) (fun c_9 => absurd c_9 (by decide))
    refine tp_pc (pc' := 180) (by rfl) ?_
    obtain ⟨hP9, hD9, -⟩ := cut3 (wc := [oc ra 8 [.int (nI T), .int (nI Ac), .ref (rA 2), .ref (rA 3), .ref (rA 4), .ref (rA 5), .ref (rA 6), .ref (rA 7), .ref (rA 8), .ref (rA 9), .ref (rA 10), .ref (rA 11), .ref (rA 12), .ref (rA 13), .int ir, .ref (rA 15), .ref (rA 16), .ref (rA 17), .ref (rA 18), .int (nI md), .int (nI wd), .ref (rA 21), .ref (rA 22), .ref (rA 23), .int (nI mn), .ref (rA 25), .int (nI (szB (L0 ++ mpL (rwB sf T zz ro) 4))), .int mr, .ref (rA 28), .ref (rA 29), .ref (rA 30), .ref (rA 31), .ref (rA 32), .ref (rA 33), .ref (rA 34), .ref (rA 35), .int (nI ld), .int (nI gm), .ref (rA 38), .ref (rA 39), .ref (rA 40), .ref (rA 41), .ref (rA 42), .ref (rA 43), .ref (rA 44), .ref (rA 45), .int (nI my), .ref (rA 47)], la (rA 25) (rK9 25) 5 ((wrB (L0 ++ mpL (rwB sf T zz ro) 4)).1), ia (rA 16) (rK9 16) 155 sf]) hP hD rfl hS hA [0, 1, 2] (by decide +kernel) rfl
    have hK9 := hK.sub (tys' := []) [] rfl
    refine W.widen (k := 0) (n := 0) (by exact Nat.le_of_ble_eq_true rfl) (by exact Nat.le_of_ble_eq_true rfl) ?_
    exact W.vret hx hb hr (fun t9 ht9 hW => ⟨⟨(), rfl, trivial, by rw [ht9]; exact hP9, va_K.moved hW.alike hK9, hD9⟩, hS.F ht9⟩) hS.2.2 d_Ref_encodeRows_180
set_option maxHeartbeats 4000000 in
set_option maxRecDepth 100000 in
theorem gen_Ref_encode_3 (l : Launch) (dC : Nat → ClassId) (dI : Nat → Nat → Nat) (ra : Nat) (rA : Nat → Nat) (rK9 : Nat → ClassId) (T Ac md wd mn cb ld gm my : Nat) (ir mr : Int32) (sf : Nat → Int32) (cf : Nat → Int64) (zz : Nat → Nat) (ro : Nat → Nat → Nat) (hmd : md = 3) (hT4 : T ≤ 4) (hzz : ∀ x, x < 4 → sf (37 + x) = nI (zz x) ∧ 1 ≤ zz x ∧ zz x ≤ 8) (hro : ∀ x, x < 4 → ∀ q, q < zz x → sf (41 + 8 * x + q) = nI (ro x q) ∧ ro x q < 11) (hkn : ∀ x, x < 4 → ∀ q, q < zz x → ∀ y, y < 4 → inY sf y (sf (95 + 4 * ro x q + y))) (htk : ∀ t, t < T → ∀ y, y < 4 → inY sf y (sf (139 + 4 * t + y))) (hs3 : szB (en3 sf T zz ro) ≤ 320) (sz : Nat) : Met l y_Ref_encode w_Ref_encode ({ frames := 2, cells := 0, slots := 0, locals := 120 }) (va_Pc [.ref ra] (fun U => U.heap.size = sz ∧ va_P (dC, dI) classes [oc ra 8 [.int (nI T), .int (nI Ac), .ref (rA 2), .ref (rA 3), .ref (rA 4), .ref (rA 5), .ref (rA 6), .ref (rA 7), .ref (rA 8), .ref (rA 9), .ref (rA 10), .ref (rA 11), .ref (rA 12), .ref (rA 13), .int ir, .ref (rA 15), .ref (rA 16), .ref (rA 17), .ref (rA 18), .int (nI md), .int (nI wd), .ref (rA 21), .ref (rA 22), .ref (rA 23), .int (nI mn), .ref (rA 25), .int (nI cb), .int mr, .ref (rA 28), .ref (rA 29), .ref (rA 30), .ref (rA 31), .ref (rA 32), .ref (rA 33), .ref (rA 34), .ref (rA 35), .int (nI ld), .int (nI gm), .ref (rA 38), .ref (rA 39), .ref (rA 40), .ref (rA 41), .ref (rA 42), .ref (rA 43), .ref (rA 44), .ref (rA 45), .int (nI my), .ref (rA 47)], la (rA 25) (rK9 25) 5 cf, ia (rA 16) (rK9 16) 155 sf] U.heap ∧ va_K (dC, dI) classes [((rK9 25), .long), ((rK9 16), .int)] U ∧ va_D (fun _ => True) [oc ra 8 [.int (nI T), .int (nI Ac), .ref (rA 2), .ref (rA 3), .ref (rA 4), .ref (rA 5), .ref (rA 6), .ref (rA 7), .ref (rA 8), .ref (rA 9), .ref (rA 10), .ref (rA 11), .ref (rA 12), .ref (rA 13), .int ir, .ref (rA 15), .ref (rA 16), .ref (rA 17), .ref (rA 18), .int (nI md), .int (nI wd), .ref (rA 21), .ref (rA 22), .ref (rA 23), .int (nI mn), .ref (rA 25), .int (nI cb), .int mr, .ref (rA 28), .ref (rA 29), .ref (rA 30), .ref (rA 31), .ref (rA 32), .ref (rA 33), .ref (rA 34), .ref (rA 35), .int (nI ld), .int (nI gm), .ref (rA 38), .ref (rA 39), .ref (rA 40), .ref (rA 41), .ref (rA 42), .ref (rA 43), .ref (rA 44), .ref (rA 45), .int (nI my), .ref (rA 47)], la (rA 25) (rK9 25) 5 cf, ia (rA 16) (rK9 16) 155 sf] ∧ nw U)) (va_Qv (fun _ : Unit => True) (fun _ t9 => va_P (dC, dI) classes [oc ra 8 [.int (nI T), .int (nI Ac), .ref (rA 2), .ref (rA 3), .ref (rA 4), .ref (rA 5), .ref (rA 6), .ref (rA 7), .ref (rA 8), .ref (rA 9), .ref (rA 10), .ref (rA 11), .ref (rA 12), .ref (rA 13), .int ir, .ref (rA 15), .ref (rA 16), .ref (rA 17), .ref (rA 18), .int (nI md), .int (nI wd), .ref (rA 21), .ref (rA 22), .ref (rA 23), .int (nI mn), .ref (rA 25), .int (nI (szB (en3 sf T zz ro))), .int mr, .ref (rA 28), .ref (rA 29), .ref (rA 30), .ref (rA 31), .ref (rA 32), .ref (rA 33), .ref (rA 34), .ref (rA 35), .int (nI ld), .int (nI gm), .ref (rA 38), .ref (rA 39), .ref (rA 40), .ref (rA 41), .ref (rA 42), .ref (rA 43), .ref (rA 44), .ref (rA 45), .int (nI my), .ref (rA 47)], la (rA 25) (rK9 25) 5 ((wrB (en3 sf T zz ro)).1), ia (rA 16) (rK9 16) 155 sf] t9.heap ∧ va_K (dC, dI) classes [] t9 ∧ va_D (va_A [oc ra 8 [.int (nI T), .int (nI Ac), .ref (rA 2), .ref (rA 3), .ref (rA 4), .ref (rA 5), .ref (rA 6), .ref (rA 7), .ref (rA 8), .ref (rA 9), .ref (rA 10), .ref (rA 11), .ref (rA 12), .ref (rA 13), .int ir, .ref (rA 15), .ref (rA 16), .ref (rA 17), .ref (rA 18), .int (nI md), .int (nI wd), .ref (rA 21), .ref (rA 22), .ref (rA 23), .int (nI mn), .ref (rA 25), .int (nI cb), .int mr, .ref (rA 28), .ref (rA 29), .ref (rA 30), .ref (rA 31), .ref (rA 32), .ref (rA 33), .ref (rA 34), .ref (rA 35), .int (nI ld), .int (nI gm), .ref (rA 38), .ref (rA 39), .ref (rA 40), .ref (rA 41), .ref (rA 42), .ref (rA 43), .ref (rA 44), .ref (rA 45), .int (nI my), .ref (rA 47)], la (rA 25) (rK9 25) 5 cf, ia (rA 16) (rK9 16) 155 sf] sz) [oc ra 8 [.int (nI T), .int (nI Ac), .ref (rA 2), .ref (rA 3), .ref (rA 4), .ref (rA 5), .ref (rA 6), .ref (rA 7), .ref (rA 8), .ref (rA 9), .ref (rA 10), .ref (rA 11), .ref (rA 12), .ref (rA 13), .int ir, .ref (rA 15), .ref (rA 16), .ref (rA 17), .ref (rA 18), .int (nI md), .int (nI wd), .ref (rA 21), .ref (rA 22), .ref (rA 23), .int (nI mn), .ref (rA 25), .int (nI (szB (en3 sf T zz ro))), .int mr, .ref (rA 28), .ref (rA 29), .ref (rA 30), .ref (rA 31), .ref (rA 32), .ref (rA 33), .ref (rA 34), .ref (rA 35), .int (nI ld), .int (nI gm), .ref (rA 38), .ref (rA 39), .ref (rA 40), .ref (rA 41), .ref (rA 42), .ref (rA 43), .ref (rA 44), .ref (rA 45), .int (nI my), .ref (rA 47)], la (rA 25) (rK9 25) 5 ((wrB (en3 sf T zz ro)).1), ia (rA 16) (rK9 16) 155 sf]) (va_A [oc ra 8 [.int (nI T), .int (nI Ac), .ref (rA 2), .ref (rA 3), .ref (rA 4), .ref (rA 5), .ref (rA 6), .ref (rA 7), .ref (rA 8), .ref (rA 9), .ref (rA 10), .ref (rA 11), .ref (rA 12), .ref (rA 13), .int ir, .ref (rA 15), .ref (rA 16), .ref (rA 17), .ref (rA 18), .int (nI md), .int (nI wd), .ref (rA 21), .ref (rA 22), .ref (rA 23), .int (nI mn), .ref (rA 25), .int (nI cb), .int mr, .ref (rA 28), .ref (rA 29), .ref (rA 30), .ref (rA 31), .ref (rA 32), .ref (rA 33), .ref (rA 34), .ref (rA 35), .int (nI ld), .int (nI gm), .ref (rA 38), .ref (rA 39), .ref (rA 40), .ref (rA 41), .ref (rA 42), .ref (rA 43), .ref (rA 44), .ref (rA 45), .int (nI my), .ref (rA 47)], la (rA 25) (rK9 25) 5 cf, ia (rA 16) (rK9 16) 155 sf] sz)) 0 0 (va_A [oc ra 8 [.int (nI T), .int (nI Ac), .ref (rA 2), .ref (rA 3), .ref (rA 4), .ref (rA 5), .ref (rA 6), .ref (rA 7), .ref (rA 8), .ref (rA 9), .ref (rA 10), .ref (rA 11), .ref (rA 12), .ref (rA 13), .int ir, .ref (rA 15), .ref (rA 16), .ref (rA 17), .ref (rA 18), .int (nI md), .int (nI wd), .ref (rA 21), .ref (rA 22), .ref (rA 23), .int (nI mn), .ref (rA 25), .int (nI cb), .int mr, .ref (rA 28), .ref (rA 29), .ref (rA 30), .ref (rA 31), .ref (rA 32), .ref (rA 33), .ref (rA 34), .ref (rA 35), .int (nI ld), .int (nI gm), .ref (rA 38), .ref (rA 39), .ref (rA 40), .ref (rA 41), .ref (rA 42), .ref (rA 43), .ref (rA 44), .ref (rA 45), .int (nI my), .ref (rA 47)], la (rA 25) (rK9 25) 5 cf, ia (rA 16) (rK9 16) 155 sf] sz) := by
  refine Met.ofW (cc := b_Ref_encode) (maxL := 7) (ret := none) (by decide) rfl ?_
  intro p e0 s m args below meth c s₁ B hml hv
  obtain ⟨rfl, hsz, hP, hK, hD0, hn⟩ := hv
  have hx := B.exec
  have hb := B.bytes
  have hr := B.returns
  have hw := fun w (h : w ∈ wt) => atoms_spec (ws := w_Ref_encode) B.pre w (List.mem_cons_of_mem _ h)
  have hown : s.vm.findClass R_Ref = some m.cls := findClass_of_methodNamed B.named
  have hlocks := B.notSynchronized
  subst hsz
  have hD1 := hD0.self (sz := s.heap.size)
  generalize hAe : va_A [oc ra 8 [.int (nI T), .int (nI Ac), .ref (rA 2), .ref (rA 3), .ref (rA 4), .ref (rA 5), .ref (rA 6), .ref (rA 7), .ref (rA 8), .ref (rA 9), .ref (rA 10), .ref (rA 11), .ref (rA 12), .ref (rA 13), .int ir, .ref (rA 15), .ref (rA 16), .ref (rA 17), .ref (rA 18), .int (nI md), .int (nI wd), .ref (rA 21), .ref (rA 22), .ref (rA 23), .int (nI mn), .ref (rA 25), .int (nI cb), .int mr, .ref (rA 28), .ref (rA 29), .ref (rA 30), .ref (rA 31), .ref (rA 32), .ref (rA 33), .ref (rA 34), .ref (rA 35), .int (nI ld), .int (nI gm), .ref (rA 38), .ref (rA 39), .ref (rA 40), .ref (rA 41), .ref (rA 42), .ref (rA 43), .ref (rA 44), .ref (rA 45), .int (nI my), .ref (rA 47)], la (rA 25) (rK9 25) 5 cf, ia (rA 16) (rK9 16) 155 sf] s.heap.size = A at hD1 ⊢
  have hA : ∀ q : Nat, s.heap.size ≤ q → A q := fun q h => by rw [← hAe]; exact Or.inr h
  have hD : dd A [ra, (rA 25), (rA 16)] := dd_of hD1 rfl
  clear hAe hD0 hD1
  have hS : va_S A s.heap s.heap [] := va_S.rf
  replace hP : va_P (dC, dI) classes [oc ra 8 [.int (nI T), .int (nI Ac), .ref (rA 2), .ref (rA 3), .ref (rA 4), .ref (rA 5), .ref (rA 6), .ref (rA 7), .ref (rA 8), .ref (rA 9), .ref (rA 10), .ref (rA 11), .ref (rA 12), .ref (rA 13), .int ir, .ref (rA 15), .ref (rA 16), .ref (rA 17), .ref (rA 18), .int (nI md), .int (nI wd), .ref (rA 21), .ref (rA 22), .ref (rA 23), .int (nI mn), .ref (rA 25), .int (nI cb), .int mr, .ref (rA 28), .ref (rA 29), .ref (rA 30), .ref (rA 31), .ref (rA 32), .ref (rA 33), .ref (rA 34), .ref (rA 35), .int (nI ld), .int (nI gm), .ref (rA 38), .ref (rA 39), .ref (rA 40), .ref (rA 41), .ref (rA 42), .ref (rA 43), .ref (rA 44), .ref (rA 45), .int (nI my), .ref (rA 47)], la (rA 25) (rK9 25) 5 cf, ia (rA 16) (rK9 16) 155 sf] s.heap := hP
  have hl := lv_entry ([.ref ra]) (n := 7) (Nat.le_of_ble_eq_true rfl)
  rw [lg_entry_eq]
  generalize (lg_sl ([.ref ra]) ++ List.replicate (7 - (lg_sl ([.ref ra])).length) Slot.unset).toArray = ls at hl ⊢
  replace hl : lv_has ls 7 [(0, .ref ra)] := hl
  refine lv_iconst (v := 0) hx hb d_Ref_encode_0 (by decide) ?_
  refine lv_istore_n (lv' := [(1, .int 0), (0, .ref ra)]) hx hb d_Ref_encode_1 rfl hl (by decide) rfl ?_
  clear hl ls
  intro ls hl
  refine lv_iload_n hx hb d_Ref_encode_2 rfl (lv_at hl 0 rfl) ?_
  refine lv_iconst (v := 5) hx hb d_Ref_encode_3 (by decide) ?_
  refine lv_icmp_ge (tgt := 20) hx hb d_Ref_encode_4 (by decide) (fun c_1 => absurd c_1 (by decide)) (fun c_1 => ?_)
  refine tp_pc (pc' := 7) (by rfl) ?_
  refine lv_aload_n hx hb d_Ref_encode_7 rfl (lv_at hl 1 rfl) ?_
  refine va_get (D := (dC, dI)) (ci := 8) (v := .ref (rA 25)) (C := R_Ref) (T := F_Ref) (N := 48) hx hb hw i_Ref hown hK hP 0 rfl rfl 25 (by decide) (hw _ m_924) (fun _ h9 => h9) rfl d_Ref_encode_8 ?_
  refine lv_iload_n hx hb d_Ref_encode_11 rfl (lv_at hl 0 rfl) ?_
  refine lv_lconst (v := 0) hx hb d_Ref_encode_12 (by decide) ?_
  refine va_last (D := (dC, dI)) hx hb hK hP (dd_D hD rfl) hS 1 0 rfl rfl (i := 0) (x := 0) (pk_in 0 5 (by omega)) d_Ref_encode_13 ?_
  clear hP hS
  intro H locs hP _ hS
  rw [show (0 : Int32).toNatClampNeg = 0 from pk_cl 0] at hP
  replace hP : va_P (dC, dI) classes [oc ra 8 [.int (nI T), .int (nI Ac), .ref (rA 2), .ref (rA 3), .ref (rA 4), .ref (rA 5), .ref (rA 6), .ref (rA 7), .ref (rA 8), .ref (rA 9), .ref (rA 10), .ref (rA 11), .ref (rA 12), .ref (rA 13), .int ir, .ref (rA 15), .ref (rA 16), .ref (rA 17), .ref (rA 18), .int (nI md), .int (nI wd), .ref (rA 21), .ref (rA 22), .ref (rA 23), .int (nI mn), .ref (rA 25), .int (nI cb), .int mr, .ref (rA 28), .ref (rA 29), .ref (rA 30), .ref (rA 31), .ref (rA 32), .ref (rA 33), .ref (rA 34), .ref (rA 35), .int (nI ld), .int (nI gm), .ref (rA 38), .ref (rA 39), .ref (rA 40), .ref (rA 41), .ref (rA 42), .ref (rA 43), .ref (rA 44), .ref (rA 45), .int (nI my), .ref (rA 47)], la (rA 25) (rK9 25) 5 (vp_updL cf 0 0), ia (rA 16) (rK9 16) 155 sf] H := hP
  refine tp_pc (pc' := 14) (by rfl) ?_
  refine lv_iinc (v := 1) (lv' := [(1, .int 1), (0, .ref ra)]) hx hb d_Ref_encode_14 hl (k := 0) rfl (by first | rfl | decide) (by decide) rfl ?_
  clear hl ls
  intro ls hl
  refine lv_goto (tgt := 2) hx hb d_Ref_encode_17 (by decide) ?_
  refine tp_pc (pc' := 2) (by rfl) ?_
  refine lv_iload_n hx hb d_Ref_encode_2 rfl (lv_at hl 0 rfl) ?_
  refine lv_iconst (v := 5) hx hb d_Ref_encode_3 (by decide) ?_
  refine lv_icmp_ge (tgt := 20) hx hb d_Ref_encode_4 (by decide) (fun c_2 => absurd c_2 (by decide)) (fun c_2 => ?_)
  refine tp_pc (pc' := 7) (by rfl) ?_
  refine lv_aload_n hx hb d_Ref_encode_7 rfl (lv_at hl 1 rfl) ?_
  refine va_get (D := (dC, dI)) (ci := 8) (v := .ref (rA 25)) (C := R_Ref) (T := F_Ref) (N := 48) hx hb hw i_Ref hown hK hP 0 rfl rfl 25 (by decide) (hw _ m_924) (fun _ h9 => h9) rfl d_Ref_encode_8 ?_
  refine lv_iload_n hx hb d_Ref_encode_11 rfl (lv_at hl 0 rfl) ?_
  refine lv_lconst (v := 0) hx hb d_Ref_encode_12 (by decide) ?_
  refine va_last (D := (dC, dI)) hx hb hK hP (dd_D hD rfl) hS 1 0 rfl rfl (i := 1) (x := 0) (pk_in 1 5 (by omega)) d_Ref_encode_13 ?_
  clear hP hS locs H
  intro H locs hP _ hS
  rw [show (1 : Int32).toNatClampNeg = 1 from pk_cl 1] at hP
  replace hP : va_P (dC, dI) classes [oc ra 8 [.int (nI T), .int (nI Ac), .ref (rA 2), .ref (rA 3), .ref (rA 4), .ref (rA 5), .ref (rA 6), .ref (rA 7), .ref (rA 8), .ref (rA 9), .ref (rA 10), .ref (rA 11), .ref (rA 12), .ref (rA 13), .int ir, .ref (rA 15), .ref (rA 16), .ref (rA 17), .ref (rA 18), .int (nI md), .int (nI wd), .ref (rA 21), .ref (rA 22), .ref (rA 23), .int (nI mn), .ref (rA 25), .int (nI cb), .int mr, .ref (rA 28), .ref (rA 29), .ref (rA 30), .ref (rA 31), .ref (rA 32), .ref (rA 33), .ref (rA 34), .ref (rA 35), .int (nI ld), .int (nI gm), .ref (rA 38), .ref (rA 39), .ref (rA 40), .ref (rA 41), .ref (rA 42), .ref (rA 43), .ref (rA 44), .ref (rA 45), .int (nI my), .ref (rA 47)], la (rA 25) (rK9 25) 5 (vp_updL (vp_updL cf 0 0) 1 0), ia (rA 16) (rK9 16) 155 sf] H := hP
  refine tp_pc (pc' := 14) (by rfl) ?_
  refine lv_iinc (v := 2) (lv' := [(1, .int 2), (0, .ref ra)]) hx hb d_Ref_encode_14 hl (k := 0) rfl (by first | rfl | decide) (by decide) rfl ?_
  clear hl ls
  intro ls hl
  refine lv_goto (tgt := 2) hx hb d_Ref_encode_17 (by decide) ?_
  refine tp_pc (pc' := 2) (by rfl) ?_
  refine lv_iload_n hx hb d_Ref_encode_2 rfl (lv_at hl 0 rfl) ?_
  refine lv_iconst (v := 5) hx hb d_Ref_encode_3 (by decide) ?_
  refine lv_icmp_ge (tgt := 20) hx hb d_Ref_encode_4 (by decide) (fun c_3 => absurd c_3 (by decide)) (fun c_3 => ?_)
  refine tp_pc (pc' := 7) (by rfl) ?_
  refine lv_aload_n hx hb d_Ref_encode_7 rfl (lv_at hl 1 rfl) ?_
  refine va_get (D := (dC, dI)) (ci := 8) (v := .ref (rA 25)) (C := R_Ref) (T := F_Ref) (N := 48) hx hb hw i_Ref hown hK hP 0 rfl rfl 25 (by decide) (hw _ m_924) (fun _ h9 => h9) rfl d_Ref_encode_8 ?_
  refine lv_iload_n hx hb d_Ref_encode_11 rfl (lv_at hl 0 rfl) ?_
  refine lv_lconst (v := 0) hx hb d_Ref_encode_12 (by decide) ?_
  refine va_last (D := (dC, dI)) hx hb hK hP (dd_D hD rfl) hS 1 0 rfl rfl (i := 2) (x := 0) (pk_in 2 5 (by omega)) d_Ref_encode_13 ?_
  clear hP hS locs H
  intro H locs hP _ hS
  rw [show (2 : Int32).toNatClampNeg = 2 from pk_cl 2] at hP
  replace hP : va_P (dC, dI) classes [oc ra 8 [.int (nI T), .int (nI Ac), .ref (rA 2), .ref (rA 3), .ref (rA 4), .ref (rA 5), .ref (rA 6), .ref (rA 7), .ref (rA 8), .ref (rA 9), .ref (rA 10), .ref (rA 11), .ref (rA 12), .ref (rA 13), .int ir, .ref (rA 15), .ref (rA 16), .ref (rA 17), .ref (rA 18), .int (nI md), .int (nI wd), .ref (rA 21), .ref (rA 22), .ref (rA 23), .int (nI mn), .ref (rA 25), .int (nI cb), .int mr, .ref (rA 28), .ref (rA 29), .ref (rA 30), .ref (rA 31), .ref (rA 32), .ref (rA 33), .ref (rA 34), .ref (rA 35), .int (nI ld), .int (nI gm), .ref (rA 38), .ref (rA 39), .ref (rA 40), .ref (rA 41), .ref (rA 42), .ref (rA 43), .ref (rA 44), .ref (rA 45), .int (nI my), .ref (rA 47)], la (rA 25) (rK9 25) 5 (vp_updL (vp_updL (vp_updL cf 0 0) 1 0) 2 0), ia (rA 16) (rK9 16) 155 sf] H := hP
  refine tp_pc (pc' := 14) (by rfl) ?_
  refine lv_iinc (v := 3) (lv' := [(1, .int 3), (0, .ref ra)]) hx hb d_Ref_encode_14 hl (k := 0) rfl (by first | rfl | decide) (by decide) rfl ?_
  clear hl ls
  intro ls hl
  refine lv_goto (tgt := 2) hx hb d_Ref_encode_17 (by decide) ?_
  refine tp_pc (pc' := 2) (by rfl) ?_
  refine lv_iload_n hx hb d_Ref_encode_2 rfl (lv_at hl 0 rfl) ?_
  refine lv_iconst (v := 5) hx hb d_Ref_encode_3 (by decide) ?_
  refine lv_icmp_ge (tgt := 20) hx hb d_Ref_encode_4 (by decide) (fun c_4 => absurd c_4 (by decide)) (fun c_4 => ?_)
  refine tp_pc (pc' := 7) (by rfl) ?_
  refine lv_aload_n hx hb d_Ref_encode_7 rfl (lv_at hl 1 rfl) ?_
  refine va_get (D := (dC, dI)) (ci := 8) (v := .ref (rA 25)) (C := R_Ref) (T := F_Ref) (N := 48) hx hb hw i_Ref hown hK hP 0 rfl rfl 25 (by decide) (hw _ m_924) (fun _ h9 => h9) rfl d_Ref_encode_8 ?_
  refine lv_iload_n hx hb d_Ref_encode_11 rfl (lv_at hl 0 rfl) ?_
  refine lv_lconst (v := 0) hx hb d_Ref_encode_12 (by decide) ?_
  refine va_last (D := (dC, dI)) hx hb hK hP (dd_D hD rfl) hS 1 0 rfl rfl (i := 3) (x := 0) (pk_in 3 5 (by omega)) d_Ref_encode_13 ?_
  clear hP hS locs H
  intro H locs hP _ hS
  rw [show (3 : Int32).toNatClampNeg = 3 from pk_cl 3] at hP
  replace hP : va_P (dC, dI) classes [oc ra 8 [.int (nI T), .int (nI Ac), .ref (rA 2), .ref (rA 3), .ref (rA 4), .ref (rA 5), .ref (rA 6), .ref (rA 7), .ref (rA 8), .ref (rA 9), .ref (rA 10), .ref (rA 11), .ref (rA 12), .ref (rA 13), .int ir, .ref (rA 15), .ref (rA 16), .ref (rA 17), .ref (rA 18), .int (nI md), .int (nI wd), .ref (rA 21), .ref (rA 22), .ref (rA 23), .int (nI mn), .ref (rA 25), .int (nI cb), .int mr, .ref (rA 28), .ref (rA 29), .ref (rA 30), .ref (rA 31), .ref (rA 32), .ref (rA 33), .ref (rA 34), .ref (rA 35), .int (nI ld), .int (nI gm), .ref (rA 38), .ref (rA 39), .ref (rA 40), .ref (rA 41), .ref (rA 42), .ref (rA 43), .ref (rA 44), .ref (rA 45), .int (nI my), .ref (rA 47)], la (rA 25) (rK9 25) 5 (vp_updL (vp_updL (vp_updL (vp_updL cf 0 0) 1 0) 2 0) 3 0), ia (rA 16) (rK9 16) 155 sf] H := hP
  refine tp_pc (pc' := 14) (by rfl) ?_
  refine lv_iinc (v := 4) (lv' := [(1, .int 4), (0, .ref ra)]) hx hb d_Ref_encode_14 hl (k := 0) rfl (by first | rfl | decide) (by decide) rfl ?_
  clear hl ls
  intro ls hl
  refine lv_goto (tgt := 2) hx hb d_Ref_encode_17 (by decide) ?_
  refine tp_pc (pc' := 2) (by rfl) ?_
  refine lv_iload_n hx hb d_Ref_encode_2 rfl (lv_at hl 0 rfl) ?_
  refine lv_iconst (v := 5) hx hb d_Ref_encode_3 (by decide) ?_
  refine lv_icmp_ge (tgt := 20) hx hb d_Ref_encode_4 (by decide) (fun c_5 => absurd c_5 (by decide)) (fun c_5 => ?_)
  refine tp_pc (pc' := 7) (by rfl) ?_
  refine lv_aload_n hx hb d_Ref_encode_7 rfl (lv_at hl 1 rfl) ?_
  refine va_get (D := (dC, dI)) (ci := 8) (v := .ref (rA 25)) (C := R_Ref) (T := F_Ref) (N := 48) hx hb hw i_Ref hown hK hP 0 rfl rfl 25 (by decide) (hw _ m_924) (fun _ h9 => h9) rfl d_Ref_encode_8 ?_
  refine lv_iload_n hx hb d_Ref_encode_11 rfl (lv_at hl 0 rfl) ?_
  refine lv_lconst (v := 0) hx hb d_Ref_encode_12 (by decide) ?_
  refine va_last (D := (dC, dI)) hx hb hK hP (dd_D hD rfl) hS 1 0 rfl rfl (i := 4) (x := 0) (pk_in 4 5 (by omega)) d_Ref_encode_13 ?_
  clear hP hS locs H
  intro H locs hP _ hS
  rw [show (4 : Int32).toNatClampNeg = 4 from pk_cl 4] at hP
  replace hP : va_P (dC, dI) classes [oc ra 8 [.int (nI T), .int (nI Ac), .ref (rA 2), .ref (rA 3), .ref (rA 4), .ref (rA 5), .ref (rA 6), .ref (rA 7), .ref (rA 8), .ref (rA 9), .ref (rA 10), .ref (rA 11), .ref (rA 12), .ref (rA 13), .int ir, .ref (rA 15), .ref (rA 16), .ref (rA 17), .ref (rA 18), .int (nI md), .int (nI wd), .ref (rA 21), .ref (rA 22), .ref (rA 23), .int (nI mn), .ref (rA 25), .int (nI cb), .int mr, .ref (rA 28), .ref (rA 29), .ref (rA 30), .ref (rA 31), .ref (rA 32), .ref (rA 33), .ref (rA 34), .ref (rA 35), .int (nI ld), .int (nI gm), .ref (rA 38), .ref (rA 39), .ref (rA 40), .ref (rA 41), .ref (rA 42), .ref (rA 43), .ref (rA 44), .ref (rA 45), .int (nI my), .ref (rA 47)], la (rA 25) (rK9 25) 5 (vp_updL (vp_updL (vp_updL (vp_updL (vp_updL cf 0 0) 1 0) 2 0) 3 0) 4 0), ia (rA 16) (rK9 16) 155 sf] H := hP
  refine tp_pc (pc' := 14) (by rfl) ?_
  refine lv_iinc (v := 5) (lv' := [(1, .int 5), (0, .ref ra)]) hx hb d_Ref_encode_14 hl (k := 0) rfl (by first | rfl | decide) (by decide) rfl ?_
  clear hl ls
  intro ls hl
  refine lv_goto (tgt := 2) hx hb d_Ref_encode_17 (by decide) ?_
  refine tp_pc (pc' := 2) (by rfl) ?_
  refine lv_iload_n hx hb d_Ref_encode_2 rfl (lv_at hl 0 rfl) ?_
  refine lv_iconst (v := 5) hx hb d_Ref_encode_3 (by decide) ?_
  refine lv_icmp_ge (tgt := 20) hx hb d_Ref_encode_4 (by decide) (fun c_6 => ?_) (fun c_6 => absurd c_6 (by decide))
  refine tp_pc (pc' := 20) (by rfl) ?_
  have hz : ∀ j, j < 5 → (vp_updL (vp_updL (vp_updL (vp_updL (vp_updL cf 0 0) 1 0) 2 0) 3 0) 4 0) j = 0 := fun j hj => by rcases (by omega : j = 0 ∨ j = 1 ∨ j = 2 ∨ j = 3 ∨ j = 4) with rfl | rfl | rfl | rfl | rfl <;> rfl
  replace hP : va_P (dC, dI) classes [oc ra 8 [.int (nI T), .int (nI Ac), .ref (rA 2), .ref (rA 3), .ref (rA 4), .ref (rA 5), .ref (rA 6), .ref (rA 7), .ref (rA 8), .ref (rA 9), .ref (rA 10), .ref (rA 11), .ref (rA 12), .ref (rA 13), .int ir, .ref (rA 15), .ref (rA 16), .ref (rA 17), .ref (rA 18), .int (nI md), .int (nI wd), .ref (rA 21), .ref (rA 22), .ref (rA 23), .int (nI mn), .ref (rA 25), .int (nI cb), .int mr, .ref (rA 28), .ref (rA 29), .ref (rA 30), .ref (rA 31), .ref (rA 32), .ref (rA 33), .ref (rA 34), .ref (rA 35), .int (nI ld), .int (nI gm), .ref (rA 38), .ref (rA 39), .ref (rA 40), .ref (rA 41), .ref (rA 42), .ref (rA 43), .ref (rA 44), .ref (rA 45), .int (nI my), .ref (rA 47)], la (rA 25) (rK9 25) 5 (fun _ => 0), ia (rA 16) (rK9 16) 155 sf] H := P_cgL (f := fun _ => 0) 1 rfl hz hP
  refine lv_aload_n hx hb d_Ref_encode_20 rfl (lv_at hl 1 rfl) ?_
  refine lv_iconst (v := 0) hx hb d_Ref_encode_21 (by decide) ?_
  refine va_put (D := (dC, dI)) (ci := 8) (v := .int 0) (ty := .int) (C := R_Ref) (T := F_Ref) (N := 48) hx hb hw i_Ref t_Ref t_Ref_ok n_Ref hown hK hP (dd_D hD rfl) hS 0 rfl rfl 26 (by decide) (hw _ m_925) (fun _ h9 => h9) rfl (by decide +kernel) rfl rfl (Nat.le_of_ble_eq_true rfl) d_Ref_encode_22 ?_
  clear hP hS locs H
  intro H locs (hP : va_P (dC, dI) classes [oc ra 8 [.int (nI T), .int (nI Ac), .ref (rA 2), .ref (rA 3), .ref (rA 4), .ref (rA 5), .ref (rA 6), .ref (rA 7), .ref (rA 8), .ref (rA 9), .ref (rA 10), .ref (rA 11), .ref (rA 12), .ref (rA 13), .int ir, .ref (rA 15), .ref (rA 16), .ref (rA 17), .ref (rA 18), .int (nI md), .int (nI wd), .ref (rA 21), .ref (rA 22), .ref (rA 23), .int (nI mn), .ref (rA 25), .int 0, .int mr, .ref (rA 28), .ref (rA 29), .ref (rA 30), .ref (rA 31), .ref (rA 32), .ref (rA 33), .ref (rA 34), .ref (rA 35), .int (nI ld), .int (nI gm), .ref (rA 38), .ref (rA 39), .ref (rA 40), .ref (rA 41), .ref (rA 42), .ref (rA 43), .ref (rA 44), .ref (rA 45), .int (nI my), .ref (rA 47)], la (rA 25) (rK9 25) 5 (fun _ => 0), ia (rA 16) (rK9 16) 155 sf] H) _ hS
  refine tp_pc (pc' := 25) (by rfl) ?_
  refine lv_iconst (v := 0) hx hb d_Ref_encode_25 (by decide) ?_
  refine lv_istore_n (lv' := [(1, .int 0), (0, .ref ra)]) hx hb d_Ref_encode_26 rfl hl (by decide) rfl ?_
  clear hl ls
  intro ls hl
  have z1 : szB (mpL (fun t => [((sf t).toInt64, 3)]) 4) = 12 := rfl
  have z2 : szB (mpL (fun k => [((sf (4 + k) + 64).toInt64, 7)]) 8) = 56 := rfl
  replace hP : va_P (dC, dI) classes [oc ra 8 [.int (nI T), .int (nI Ac), .ref (rA 2), .ref (rA 3), .ref (rA 4), .ref (rA 5), .ref (rA 6), .ref (rA 7), .ref (rA 8), .ref (rA 9), .ref (rA 10), .ref (rA 11), .ref (rA 12), .ref (rA 13), .int ir, .ref (rA 15), .ref (rA 16), .ref (rA 17), .ref (rA 18), .int (nI md), .int (nI wd), .ref (rA 21), .ref (rA 22), .ref (rA 23), .int (nI mn), .ref (rA 25), .int (nI (szB (mpL (fun t => [((sf t).toInt64, 3)]) 0))), .int mr, .ref (rA 28), .ref (rA 29), .ref (rA 30), .ref (rA 31), .ref (rA 32), .ref (rA 33), .ref (rA 34), .ref (rA 35), .int (nI ld), .int (nI gm), .ref (rA 38), .ref (rA 39), .ref (rA 40), .ref (rA 41), .ref (rA 42), .ref (rA 43), .ref (rA 44), .ref (rA 45), .int (nI my), .ref (rA 47)], la (rA 25) (rK9 25) 5 ((wrB (mpL (fun t => [((sf t).toInt64, 3)]) 0)).1), ia (rA 16) (rK9 16) 155 sf] H := hP
  replace hl : lv_has ls 7 [(1, .int (nI 0)), (0, .ref ra)] := hl
  refine lp_n 4 (fun i1 H locs ls => va_P (dC, dI) classes [oc ra 8 [.int (nI T), .int (nI Ac), .ref (rA 2), .ref (rA 3), .ref (rA 4), .ref (rA 5), .ref (rA 6), .ref (rA 7), .ref (rA 8), .ref (rA 9), .ref (rA 10), .ref (rA 11), .ref (rA 12), .ref (rA 13), .int ir, .ref (rA 15), .ref (rA 16), .ref (rA 17), .ref (rA 18), .int (nI md), .int (nI wd), .ref (rA 21), .ref (rA 22), .ref (rA 23), .int (nI mn), .ref (rA 25), .int (nI (szB (mpL (fun t => [((sf t).toInt64, 3)]) i1))), .int mr, .ref (rA 28), .ref (rA 29), .ref (rA 30), .ref (rA 31), .ref (rA 32), .ref (rA 33), .ref (rA 34), .ref (rA 35), .int (nI ld), .int (nI gm), .ref (rA 38), .ref (rA 39), .ref (rA 40), .ref (rA 41), .ref (rA 42), .ref (rA 43), .ref (rA 44), .ref (rA 45), .int (nI my), .ref (rA 47)], la (rA 25) (rK9 25) 5 ((wrB (mpL (fun t => [((sf t).toInt64, 3)]) i1)).1), ia (rA 16) (rK9 16) 155 sf] H ∧ va_S A s.heap H locs ∧ lv_has ls 7 [(1, .int (nI i1)), (0, .ref ra)]) ⟨hP, hS, hl⟩ ?_ ?_
  · intro i1 H locs ls hi1 hI ih_i1
    obtain ⟨hP, hS, hl⟩ := hI
    refine lv_iload_n hx hb d_Ref_encode_27 rfl (lv_at hl 0 rfl) ?_
    refine lv_iconst (v := 4) hx hb d_Ref_encode_28 (by decide) ?_
    refine lv_icmp_ge (tgt := 50) hx hb d_Ref_encode_29 (by decide) (fun c9 => absurd c9 (nI_ge (a := i1) (b := 4) hi1 (by decide))) (fun c9 => ?_)
    refine tp_pc (pc' := 32) (by rfl) ?_
    refine lv_aload_n hx hb d_Ref_encode_32 rfl (lv_at hl 1 rfl) ?_
    refine lv_aload_n hx hb d_Ref_encode_33 rfl (lv_at hl 1 rfl) ?_
    refine va_get (D := (dC, dI)) (ci := 8) (v := .ref (rA 16)) (C := R_Ref) (T := F_Ref) (N := 48) hx hb hw i_Ref hown hK hP 0 rfl rfl 16 (by decide) (hw _ m_915) (fun _ h9 => h9) rfl d_Ref_encode_34 ?_
    refine lv_iload_n hx hb d_Ref_encode_37 rfl (lv_at hl 0 rfl) ?_
    refine va_iald (D := (dC, dI)) hx hb hK hP 2 1 rfl rfl (i := nI i1) (pk_in i1 155 (by omega)) d_Ref_encode_38 ?_
    refine tp_i (y := sf i1) (by rw [show (nI i1 : Int32).toNatClampNeg = i1 from pk_cl i1]) ?_
    refine lv_i2l (v := (sf i1).toInt64) hx hb d_Ref_encode_39 rfl ?_
    refine lv_iconst (v := 3) hx hb d_Ref_encode_40 (by decide) ?_
    refine tp_i (y := nI 3) rfl ?_
    obtain ⟨hPc, hDc, hFc⟩ := cut3 (wc := [oc ra 8 [.int (nI T), .int (nI Ac), .ref (rA 2), .ref (rA 3), .ref (rA 4), .ref (rA 5), .ref (rA 6), .ref (rA 7), .ref (rA 8), .ref (rA 9), .ref (rA 10), .ref (rA 11), .ref (rA 12), .ref (rA 13), .int ir, .ref (rA 15), .ref (rA 16), .ref (rA 17), .ref (rA 18), .int (nI md), .int (nI wd), .ref (rA 21), .ref (rA 22), .ref (rA 23), .int (nI mn), .ref (rA 25), .int (nI (szB (mpL (fun t => [((sf t).toInt64, 3)]) i1))), .int mr, .ref (rA 28), .ref (rA 29), .ref (rA 30), .ref (rA 31), .ref (rA 32), .ref (rA 33), .ref (rA 34), .ref (rA 35), .int (nI ld), .int (nI gm), .ref (rA 38), .ref (rA 39), .ref (rA 40), .ref (rA 41), .ref (rA 42), .ref (rA 43), .ref (rA 44), .ref (rA 45), .int (nI my), .ref (rA 47)], la (rA 25) (rK9 25) 5 ((wrB (mpL (fun t => [((sf t).toInt64, 3)]) i1)).1)]) hP hD rfl hS hA [0, 1] (by decide +kernel) rfl
    have hKc := hK.sub (tys' := [((rK9 25), .long)]) [0] rfl
    refine va_callv (va_runV (As := [.long ((sf i1).toInt64), .int (nI 3)]) (rest := []) ⟨hx, hb, hml, hown, hw⟩ (gen_Ref_bitsL l dC dI ra rA rK9 T Ac md wd mn (szB (mpL (fun t => [((sf t).toInt64, 3)]) i1)) ld gm my ir mr ((sf i1).toInt64) 3 (mpL (fun t => [((sf t).toInt64, 3)]) i1) (mpL (fun t => [((sf t).toInt64, 3)]) (i1 + 1)) (rfl) rfl (by decide) (by decide) (by have := szB_mono0 (f := fun t => [((sf t).toInt64, 3)]) (show i1 + 1 ≤ 4 from hi1); omega) H.size) (cw_V 2 hw g_Ref_bits rfl rfl rfl (hw _ m_109) (hw _ m_1093) (hw _ m_1095) (hw _ m_58) (by decide +kernel) ⟨Nat.le_of_ble_eq_true rfl, Nat.le_of_ble_eq_true rfl⟩) ⟨fun a U g mk q => by obtain ⟨q0, q1, qP, qK, qD, qN⟩ := q; exact ⟨q0, q1, qP, va_K.moved (u := U) (U := U.calling g mk a) (Vm.Alike.refl U.vm) qK, qD, nw_call qN⟩, va_recv hKc hPc (ci := 8) (q0 := 0) rfl rfl, fun U hU hW => ⟨rfl, by rw [hU], by rw [hU]; exact hPc, va_K.moved hW.alike hKc, hDc.weaken (fun _ _ _ _ => trivial), nw_warm hW hn⟩⟩ rfl rfl hl.1 rfl (lv_room (Nat.le_of_ble_eq_true rfl)) d_Ref_encode_41 ⟨Nat.le_of_ble_eq_true rfl, Nat.le_of_ble_eq_true rfl⟩) hS (fun q _ h => hFc q h) hFc ?_
    intro u t9 H1 locs1 ht9 hvm hw1 hB hz1 hk1 hS1
    obtain ⟨hP1, hK1, hD1⟩ := hB
    rw [ht9] at hP1
    replace hK1 := va_K.moved hvm.symm hK1
    have hPD := join3 hP hD rfl [0, 1] [2] rfl (by rfl) (by decide +kernel) (by decide +kernel) hk1 hFc hP1 hD1
    replace hK : va_K (dC, dI) classes [((rK9 25), .long), ((rK9 16), .int)] s := hK.app hK1
    clear hP1 hK1 hD1 hk1 hz1 hFc hKc hDc hPc hvm ht9 hP hS t9 locs H
    have hP : va_P (dC, dI) classes [ia (rA 16) (rK9 16) 155 sf, oc ra 8 [.int (nI T), .int (nI Ac), .ref (rA 2), .ref (rA 3), .ref (rA 4), .ref (rA 5), .ref (rA 6), .ref (rA 7), .ref (rA 8), .ref (rA 9), .ref (rA 10), .ref (rA 11), .ref (rA 12), .ref (rA 13), .int ir, .ref (rA 15), .ref (rA 16), .ref (rA 17), .ref (rA 18), .int (nI md), .int (nI wd), .ref (rA 21), .ref (rA 22), .ref (rA 23), .int (nI mn), .ref (rA 25), .int (nI (szB (mpL (fun t => [((sf t).toInt64, 3)]) (i1 + 1)))), .int mr, .ref (rA 28), .ref (rA 29), .ref (rA 30), .ref (rA 31), .ref (rA 32), .ref (rA 33), .ref (rA 34), .ref (rA 35), .int (nI ld), .int (nI gm), .ref (rA 38), .ref (rA 39), .ref (rA 40), .ref (rA 41), .ref (rA 42), .ref (rA 43), .ref (rA 44), .ref (rA 45), .int (nI my), .ref (rA 47)], la (rA 25) (rK9 25) 5 ((wrB (mpL (fun t => [((sf t).toInt64, 3)]) (i1 + 1))).1)] H1 := hPD.1
    replace hD : dd A [(rA 16), ra, (rA 25)] := dd_of hPD.2 rfl
    clear hPD
    revert H1 locs1
    intro H locs hS hP
    clear hw1 u
    refine tp_pc (pc' := 44) (by rfl) ?_
    refine lv_iinc (v := nI (i1 + 1)) (lv' := [(1, .int (nI (i1 + 1))), (0, .ref ra)]) hx hb d_Ref_encode_44 hl (k := 0) rfl (by exact nI_1 i1) (by decide) rfl ?_
    clear hl ls
    intro ls hl
    refine lv_goto (tgt := 27) hx hb d_Ref_encode_47 (by decide) ?_
    refine tp_pc (pc' := 27) (by rfl) ?_
    obtain ⟨hP8, -, -⟩ := cut3 (wc := [oc ra 8 [.int (nI T), .int (nI Ac), .ref (rA 2), .ref (rA 3), .ref (rA 4), .ref (rA 5), .ref (rA 6), .ref (rA 7), .ref (rA 8), .ref (rA 9), .ref (rA 10), .ref (rA 11), .ref (rA 12), .ref (rA 13), .int ir, .ref (rA 15), .ref (rA 16), .ref (rA 17), .ref (rA 18), .int (nI md), .int (nI wd), .ref (rA 21), .ref (rA 22), .ref (rA 23), .int (nI mn), .ref (rA 25), .int (nI (szB (mpL (fun t => [((sf t).toInt64, 3)]) (i1 + 1)))), .int mr, .ref (rA 28), .ref (rA 29), .ref (rA 30), .ref (rA 31), .ref (rA 32), .ref (rA 33), .ref (rA 34), .ref (rA 35), .int (nI ld), .int (nI gm), .ref (rA 38), .ref (rA 39), .ref (rA 40), .ref (rA 41), .ref (rA 42), .ref (rA 43), .ref (rA 44), .ref (rA 45), .int (nI my), .ref (rA 47)], la (rA 25) (rK9 25) 5 ((wrB (mpL (fun t => [((sf t).toInt64, 3)]) (i1 + 1))).1), ia (rA 16) (rK9 16) 155 sf]) hP hD rfl hS hA [1, 2, 0] (by decide +kernel) rfl
    exact ih_i1 _ _ _ ⟨hP8, hS, lv_sub hl [0, 1] rfl⟩
  · intro H locs ls hI
    obtain ⟨hP, hS, hl⟩ := hI
    replace hl : lv_has ls 7 [(1, .int 4), (0, .ref ra)] := hl
    refine lv_iload_n hx hb d_Ref_encode_27 rfl (lv_at hl 0 rfl) ?_
    refine lv_iconst (v := 4) hx hb d_Ref_encode_28 (by decide) ?_
    refine lv_icmp_ge (tgt := 50) hx hb d_Ref_encode_29 (by decide) (fun c_8 => ?_) (fun c_8 => absurd c_8 (by decide))
    refine tp_pc (pc' := 50) (by rfl) ?_
    refine lv_iconst (v := 0) hx hb d_Ref_encode_50 (by decide) ?_
    refine lv_istore_n (lv' := [(1, .int 0), (0, .ref ra)]) hx hb d_Ref_encode_51 rfl hl (by decide) rfl ?_
    clear hl ls
    intro ls hl
    obtain ⟨hP8, hD8, -⟩ := cut3 (wc := [oc ra 8 [.int (nI T), .int (nI Ac), .ref (rA 2), .ref (rA 3), .ref (rA 4), .ref (rA 5), .ref (rA 6), .ref (rA 7), .ref (rA 8), .ref (rA 9), .ref (rA 10), .ref (rA 11), .ref (rA 12), .ref (rA 13), .int ir, .ref (rA 15), .ref (rA 16), .ref (rA 17), .ref (rA 18), .int (nI md), .int (nI wd), .ref (rA 21), .ref (rA 22), .ref (rA 23), .int (nI mn), .ref (rA 25), .int (nI (szB (mpL (fun t => [((sf t).toInt64, 3)]) 4))), .int mr, .ref (rA 28), .ref (rA 29), .ref (rA 30), .ref (rA 31), .ref (rA 32), .ref (rA 33), .ref (rA 34), .ref (rA 35), .int (nI ld), .int (nI gm), .ref (rA 38), .ref (rA 39), .ref (rA 40), .ref (rA 41), .ref (rA 42), .ref (rA 43), .ref (rA 44), .ref (rA 45), .int (nI my), .ref (rA 47)], la (rA 25) (rK9 25) 5 ((wrB (mpL (fun t => [((sf t).toInt64, 3)]) 4)).1), ia (rA 16) (rK9 16) 155 sf]) hP hD rfl hS hA [0, 1, 2] (by decide +kernel) rfl
    clear hP
    have hP : va_P (dC, dI) classes [oc ra 8 [.int (nI T), .int (nI Ac), .ref (rA 2), .ref (rA 3), .ref (rA 4), .ref (rA 5), .ref (rA 6), .ref (rA 7), .ref (rA 8), .ref (rA 9), .ref (rA 10), .ref (rA 11), .ref (rA 12), .ref (rA 13), .int ir, .ref (rA 15), .ref (rA 16), .ref (rA 17), .ref (rA 18), .int (nI md), .int (nI wd), .ref (rA 21), .ref (rA 22), .ref (rA 23), .int (nI mn), .ref (rA 25), .int (nI (szB (mpL (fun t => [((sf t).toInt64, 3)]) 4))), .int mr, .ref (rA 28), .ref (rA 29), .ref (rA 30), .ref (rA 31), .ref (rA 32), .ref (rA 33), .ref (rA 34), .ref (rA 35), .int (nI ld), .int (nI gm), .ref (rA 38), .ref (rA 39), .ref (rA 40), .ref (rA 41), .ref (rA 42), .ref (rA 43), .ref (rA 44), .ref (rA 45), .int (nI my), .ref (rA 47)], la (rA 25) (rK9 25) 5 ((wrB (mpL (fun t => [((sf t).toInt64, 3)]) 4)).1), ia (rA 16) (rK9 16) 155 sf] H := hP8
    clear hP8
    replace hD : dd A [ra, (rA 25), (rA 16)] := dd_of hD8 rfl
    clear hD8
    replace hP : va_P (dC, dI) classes [oc ra 8 [.int (nI T), .int (nI Ac), .ref (rA 2), .ref (rA 3), .ref (rA 4), .ref (rA 5), .ref (rA 6), .ref (rA 7), .ref (rA 8), .ref (rA 9), .ref (rA 10), .ref (rA 11), .ref (rA 12), .ref (rA 13), .int ir, .ref (rA 15), .ref (rA 16), .ref (rA 17), .ref (rA 18), .int (nI md), .int (nI wd), .ref (rA 21), .ref (rA 22), .ref (rA 23), .int (nI mn), .ref (rA 25), .int (nI (szB (mpL (fun t => [((sf t).toInt64, 3)]) 4 ++ mpL (fun k => [((sf (4 + k) + 64).toInt64, 7)]) 0))), .int mr, .ref (rA 28), .ref (rA 29), .ref (rA 30), .ref (rA 31), .ref (rA 32), .ref (rA 33), .ref (rA 34), .ref (rA 35), .int (nI ld), .int (nI gm), .ref (rA 38), .ref (rA 39), .ref (rA 40), .ref (rA 41), .ref (rA 42), .ref (rA 43), .ref (rA 44), .ref (rA 45), .int (nI my), .ref (rA 47)], la (rA 25) (rK9 25) 5 ((wrB (mpL (fun t => [((sf t).toInt64, 3)]) 4 ++ mpL (fun k => [((sf (4 + k) + 64).toInt64, 7)]) 0)).1), ia (rA 16) (rK9 16) 155 sf] H := by rw [mpL_0, List.append_nil]; exact hP
    replace hP : va_P (dC, dI) classes [oc ra 8 [.int (nI T), .int (nI Ac), .ref (rA 2), .ref (rA 3), .ref (rA 4), .ref (rA 5), .ref (rA 6), .ref (rA 7), .ref (rA 8), .ref (rA 9), .ref (rA 10), .ref (rA 11), .ref (rA 12), .ref (rA 13), .int ir, .ref (rA 15), .ref (rA 16), .ref (rA 17), .ref (rA 18), .int (nI md), .int (nI wd), .ref (rA 21), .ref (rA 22), .ref (rA 23), .int (nI mn), .ref (rA 25), .int (nI (szB (mpL (fun t => [((sf t).toInt64, 3)]) 4 ++ mpL (fun k => [((sf (4 + k) + 64).toInt64, 7)]) 0))), .int mr, .ref (rA 28), .ref (rA 29), .ref (rA 30), .ref (rA 31), .ref (rA 32), .ref (rA 33), .ref (rA 34), .ref (rA 35), .int (nI ld), .int (nI gm), .ref (rA 38), .ref (rA 39), .ref (rA 40), .ref (rA 41), .ref (rA 42), .ref (rA 43), .ref (rA 44), .ref (rA 45), .int (nI my), .ref (rA 47)], la (rA 25) (rK9 25) 5 ((wrB (mpL (fun t => [((sf t).toInt64, 3)]) 4 ++ mpL (fun k => [((sf (4 + k) + 64).toInt64, 7)]) 0)).1), ia (rA 16) (rK9 16) 155 sf] H := hP
    replace hl : lv_has ls 7 [(1, .int (nI 0)), (0, .ref ra)] := hl
    refine lp_n 8 (fun i1 H locs ls => va_P (dC, dI) classes [oc ra 8 [.int (nI T), .int (nI Ac), .ref (rA 2), .ref (rA 3), .ref (rA 4), .ref (rA 5), .ref (rA 6), .ref (rA 7), .ref (rA 8), .ref (rA 9), .ref (rA 10), .ref (rA 11), .ref (rA 12), .ref (rA 13), .int ir, .ref (rA 15), .ref (rA 16), .ref (rA 17), .ref (rA 18), .int (nI md), .int (nI wd), .ref (rA 21), .ref (rA 22), .ref (rA 23), .int (nI mn), .ref (rA 25), .int (nI (szB (mpL (fun t => [((sf t).toInt64, 3)]) 4 ++ mpL (fun k => [((sf (4 + k) + 64).toInt64, 7)]) i1))), .int mr, .ref (rA 28), .ref (rA 29), .ref (rA 30), .ref (rA 31), .ref (rA 32), .ref (rA 33), .ref (rA 34), .ref (rA 35), .int (nI ld), .int (nI gm), .ref (rA 38), .ref (rA 39), .ref (rA 40), .ref (rA 41), .ref (rA 42), .ref (rA 43), .ref (rA 44), .ref (rA 45), .int (nI my), .ref (rA 47)], la (rA 25) (rK9 25) 5 ((wrB (mpL (fun t => [((sf t).toInt64, 3)]) 4 ++ mpL (fun k => [((sf (4 + k) + 64).toInt64, 7)]) i1)).1), ia (rA 16) (rK9 16) 155 sf] H ∧ va_S A s.heap H locs ∧ lv_has ls 7 [(1, .int (nI i1)), (0, .ref ra)]) ⟨hP, hS, hl⟩ ?_ ?_
    · intro i1 H locs ls hi1 hI ih_i1
      obtain ⟨hP, hS, hl⟩ := hI
      refine lv_iload_n hx hb d_Ref_encode_52 rfl (lv_at hl 0 rfl) ?_
      refine lv_bipush (v := 8) hx hb d_Ref_encode_53 (by decide) ?_
      refine lv_icmp_ge (tgt := 82) hx hb d_Ref_encode_55 (by decide) (fun c9 => absurd c9 (nI_ge (a := i1) (b := 8) hi1 (by decide))) (fun c9 => ?_)
      refine tp_pc (pc' := 58) (by rfl) ?_
      refine lv_aload_n hx hb d_Ref_encode_58 rfl (lv_at hl 1 rfl) ?_
      refine lv_aload_n hx hb d_Ref_encode_59 rfl (lv_at hl 1 rfl) ?_
      refine va_get (D := (dC, dI)) (ci := 8) (v := .ref (rA 16)) (C := R_Ref) (T := F_Ref) (N := 48) hx hb hw i_Ref hown hK hP 0 rfl rfl 16 (by decide) (hw _ m_915) (fun _ h9 => h9) rfl d_Ref_encode_60 ?_
      refine lv_iconst (v := 4) hx hb d_Ref_encode_63 (by decide) ?_
      refine lv_iload_n hx hb d_Ref_encode_64 rfl (lv_at hl 0 rfl) ?_
      refine lv_iadd hx hb d_Ref_encode_65 ?_
      refine tp_i (y := nI (4 + i1)) (by exact nI_add 4 i1) ?_
      refine va_iald (D := (dC, dI)) hx hb hK hP 2 1 rfl rfl (i := nI (4 + i1)) (pk_in (4 + i1) 155 (by omega)) d_Ref_encode_66 ?_
      refine tp_i (y := sf (4 + i1)) (by rw [show (nI (4 + i1) : Int32).toNatClampNeg = 4 + i1 from pk_cl (4 + i1)]) ?_
      refine lv_bipush (v := 64) hx hb d_Ref_encode_67 (by decide) ?_
      refine lv_iadd hx hb d_Ref_encode_69 ?_
      refine tp_i (y := (sf (4 + i1)) + 64) rfl ?_
      refine lv_i2l (v := ((sf (4 + i1)) + 64).toInt64) hx hb d_Ref_encode_70 rfl ?_
      refine lv_bipush (v := 7) hx hb d_Ref_encode_71 (by decide) ?_
      refine tp_i (y := nI 7) rfl ?_
      obtain ⟨hPc, hDc, hFc⟩ := cut3 (wc := [oc ra 8 [.int (nI T), .int (nI Ac), .ref (rA 2), .ref (rA 3), .ref (rA 4), .ref (rA 5), .ref (rA 6), .ref (rA 7), .ref (rA 8), .ref (rA 9), .ref (rA 10), .ref (rA 11), .ref (rA 12), .ref (rA 13), .int ir, .ref (rA 15), .ref (rA 16), .ref (rA 17), .ref (rA 18), .int (nI md), .int (nI wd), .ref (rA 21), .ref (rA 22), .ref (rA 23), .int (nI mn), .ref (rA 25), .int (nI (szB (mpL (fun t => [((sf t).toInt64, 3)]) 4 ++ mpL (fun k => [((sf (4 + k) + 64).toInt64, 7)]) i1))), .int mr, .ref (rA 28), .ref (rA 29), .ref (rA 30), .ref (rA 31), .ref (rA 32), .ref (rA 33), .ref (rA 34), .ref (rA 35), .int (nI ld), .int (nI gm), .ref (rA 38), .ref (rA 39), .ref (rA 40), .ref (rA 41), .ref (rA 42), .ref (rA 43), .ref (rA 44), .ref (rA 45), .int (nI my), .ref (rA 47)], la (rA 25) (rK9 25) 5 ((wrB (mpL (fun t => [((sf t).toInt64, 3)]) 4 ++ mpL (fun k => [((sf (4 + k) + 64).toInt64, 7)]) i1)).1)]) hP hD rfl hS hA [0, 1] (by decide +kernel) rfl
      have hKc := hK.sub (tys' := [((rK9 25), .long)]) [0] rfl
      refine va_callv (va_runV (As := [.long ((sf (4 + i1) + 64).toInt64), .int (nI 7)]) (rest := []) ⟨hx, hb, hml, hown, hw⟩ (gen_Ref_bitsL l dC dI ra rA rK9 T Ac md wd mn (szB (mpL (fun t => [((sf t).toInt64, 3)]) 4 ++ mpL (fun k => [((sf (4 + k) + 64).toInt64, 7)]) i1)) ld gm my ir mr ((sf (4 + i1) + 64).toInt64) 7 (mpL (fun t => [((sf t).toInt64, 3)]) 4 ++ mpL (fun k => [((sf (4 + k) + 64).toInt64, 7)]) i1) (mpL (fun t => [((sf t).toInt64, 3)]) 4 ++ mpL (fun k => [((sf (4 + k) + 64).toInt64, 7)]) (i1 + 1)) (by rw [mpL_s i1]; exact (List.append_assoc _ _ _).symm) rfl (by decide) (by decide) (by rw [szB_app]; have := szB_mono0 (f := fun k => [((sf (4 + k) + 64).toInt64, 7)]) (show i1 + 1 ≤ 8 from hi1); omega) H.size) (cw_V 2 hw g_Ref_bits rfl rfl rfl (hw _ m_109) (hw _ m_1093) (hw _ m_1095) (hw _ m_58) (by decide +kernel) ⟨Nat.le_of_ble_eq_true rfl, Nat.le_of_ble_eq_true rfl⟩) ⟨fun a U g mk q => by obtain ⟨q0, q1, qP, qK, qD, qN⟩ := q; exact ⟨q0, q1, qP, va_K.moved (u := U) (U := U.calling g mk a) (Vm.Alike.refl U.vm) qK, qD, nw_call qN⟩, va_recv hKc hPc (ci := 8) (q0 := 0) rfl rfl, fun U hU hW => ⟨rfl, by rw [hU], by rw [hU]; exact hPc, va_K.moved hW.alike hKc, hDc.weaken (fun _ _ _ _ => trivial), nw_warm hW hn⟩⟩ rfl rfl hl.1 rfl (lv_room (Nat.le_of_ble_eq_true rfl)) d_Ref_encode_73 ⟨Nat.le_of_ble_eq_true rfl, Nat.le_of_ble_eq_true rfl⟩) hS (fun q _ h => hFc q h) hFc ?_
      intro u t9 H1 locs1 ht9 hvm hw1 hB hz1 hk1 hS1
      obtain ⟨hP1, hK1, hD1⟩ := hB
      rw [ht9] at hP1
      replace hK1 := va_K.moved hvm.symm hK1
      have hPD := join3 hP hD rfl [0, 1] [2] rfl (by rfl) (by decide +kernel) (by decide +kernel) hk1 hFc hP1 hD1
      replace hK : va_K (dC, dI) classes [((rK9 25), .long), ((rK9 16), .int)] s := hK.app hK1
      clear hP1 hK1 hD1 hk1 hz1 hFc hKc hDc hPc hvm ht9 hP hS t9 locs H
      have hP : va_P (dC, dI) classes [ia (rA 16) (rK9 16) 155 sf, oc ra 8 [.int (nI T), .int (nI Ac), .ref (rA 2), .ref (rA 3), .ref (rA 4), .ref (rA 5), .ref (rA 6), .ref (rA 7), .ref (rA 8), .ref (rA 9), .ref (rA 10), .ref (rA 11), .ref (rA 12), .ref (rA 13), .int ir, .ref (rA 15), .ref (rA 16), .ref (rA 17), .ref (rA 18), .int (nI md), .int (nI wd), .ref (rA 21), .ref (rA 22), .ref (rA 23), .int (nI mn), .ref (rA 25), .int (nI (szB (mpL (fun t => [((sf t).toInt64, 3)]) 4 ++ mpL (fun k => [((sf (4 + k) + 64).toInt64, 7)]) (i1 + 1)))), .int mr, .ref (rA 28), .ref (rA 29), .ref (rA 30), .ref (rA 31), .ref (rA 32), .ref (rA 33), .ref (rA 34), .ref (rA 35), .int (nI ld), .int (nI gm), .ref (rA 38), .ref (rA 39), .ref (rA 40), .ref (rA 41), .ref (rA 42), .ref (rA 43), .ref (rA 44), .ref (rA 45), .int (nI my), .ref (rA 47)], la (rA 25) (rK9 25) 5 ((wrB (mpL (fun t => [((sf t).toInt64, 3)]) 4 ++ mpL (fun k => [((sf (4 + k) + 64).toInt64, 7)]) (i1 + 1))).1)] H1 := hPD.1
      replace hD : dd A [(rA 16), ra, (rA 25)] := dd_of hPD.2 rfl
      clear hPD
      revert H1 locs1
      intro H locs hS hP
      clear hw1 u
      refine tp_pc (pc' := 76) (by rfl) ?_
      refine lv_iinc (v := nI (i1 + 1)) (lv' := [(1, .int (nI (i1 + 1))), (0, .ref ra)]) hx hb d_Ref_encode_76 hl (k := 0) rfl (by exact nI_1 i1) (by decide) rfl ?_
      clear hl ls
      intro ls hl
      refine lv_goto (tgt := 52) hx hb d_Ref_encode_79 (by decide) ?_
      refine tp_pc (pc' := 52) (by rfl) ?_
      obtain ⟨hP8, -, -⟩ := cut3 (wc := [oc ra 8 [.int (nI T), .int (nI Ac), .ref (rA 2), .ref (rA 3), .ref (rA 4), .ref (rA 5), .ref (rA 6), .ref (rA 7), .ref (rA 8), .ref (rA 9), .ref (rA 10), .ref (rA 11), .ref (rA 12), .ref (rA 13), .int ir, .ref (rA 15), .ref (rA 16), .ref (rA 17), .ref (rA 18), .int (nI md), .int (nI wd), .ref (rA 21), .ref (rA 22), .ref (rA 23), .int (nI mn), .ref (rA 25), .int (nI (szB (mpL (fun t => [((sf t).toInt64, 3)]) 4 ++ mpL (fun k => [((sf (4 + k) + 64).toInt64, 7)]) (i1 + 1)))), .int mr, .ref (rA 28), .ref (rA 29), .ref (rA 30), .ref (rA 31), .ref (rA 32), .ref (rA 33), .ref (rA 34), .ref (rA 35), .int (nI ld), .int (nI gm), .ref (rA 38), .ref (rA 39), .ref (rA 40), .ref (rA 41), .ref (rA 42), .ref (rA 43), .ref (rA 44), .ref (rA 45), .int (nI my), .ref (rA 47)], la (rA 25) (rK9 25) 5 ((wrB (mpL (fun t => [((sf t).toInt64, 3)]) 4 ++ mpL (fun k => [((sf (4 + k) + 64).toInt64, 7)]) (i1 + 1))).1), ia (rA 16) (rK9 16) 155 sf]) hP hD rfl hS hA [1, 2, 0] (by decide +kernel) rfl
      exact ih_i1 _ _ _ ⟨hP8, hS, lv_sub hl [0, 1] rfl⟩
    · intro H locs ls hI
      obtain ⟨hP, hS, hl⟩ := hI
      replace hl : lv_has ls 7 [(1, .int 8), (0, .ref ra)] := hl
      replace hP : va_P (dC, dI) classes [oc ra 8 [.int (nI T), .int (nI Ac), .ref (rA 2), .ref (rA 3), .ref (rA 4), .ref (rA 5), .ref (rA 6), .ref (rA 7), .ref (rA 8), .ref (rA 9), .ref (rA 10), .ref (rA 11), .ref (rA 12), .ref (rA 13), .int ir, .ref (rA 15), .ref (rA 16), .ref (rA 17), .ref (rA 18), .int (nI md), .int (nI wd), .ref (rA 21), .ref (rA 22), .ref (rA 23), .int (nI mn), .ref (rA 25), .int (nI (szB (hdB sf))), .int mr, .ref (rA 28), .ref (rA 29), .ref (rA 30), .ref (rA 31), .ref (rA 32), .ref (rA 33), .ref (rA 34), .ref (rA 35), .int (nI ld), .int (nI gm), .ref (rA 38), .ref (rA 39), .ref (rA 40), .ref (rA 41), .ref (rA 42), .ref (rA 43), .ref (rA 44), .ref (rA 45), .int (nI my), .ref (rA 47)], la (rA 25) (rK9 25) 5 ((wrB (hdB sf)).1), ia (rA 16) (rK9 16) 155 sf] H := by unfold hdB; exact hP
      refine lv_iload_n hx hb d_Ref_encode_52 rfl (lv_at hl 0 rfl) ?_
      refine lv_bipush (v := 8) hx hb d_Ref_encode_53 (by decide) ?_
      refine lv_icmp_ge (tgt := 82) hx hb d_Ref_encode_55 (by decide) (fun c_10 => ?_) (fun c_10 => absurd c_10 (by decide))
      refine tp_pc (pc' := 82) (by rfl) ?_
      refine lv_aload_n hx hb d_Ref_encode_82 rfl (lv_at hl 1 rfl) ?_
      refine va_get (D := (dC, dI)) (ci := 8) (v := .int (nI md)) (C := R_Ref) (T := F_Ref) (N := 48) hx hb hw i_Ref hown hK hP 0 rfl rfl 19 (by decide) (hw _ m_918) (fun _ h9 => h9) rfl d_Ref_encode_83 ?_
      refine lv_iconst (v := 3) hx hb d_Ref_encode_86 (by decide) ?_
      refine lv_icmp_ne (tgt := 95) hx hb d_Ref_encode_87 (by decide) (fun c9 => absurd ((nI_eq (a := md) (b := 3) (by omega) (by omega)).mpr hmd) c9) (fun c9 => ?_)
      refine tp_pc (pc' := 90) (by rfl) ?_
      refine lv_aload_n hx hb d_Ref_encode_90 rfl (lv_at hl 1 rfl) ?_
      obtain ⟨hPc, hDc, hFc⟩ := cut3 (wc := [oc ra 8 [.int (nI T), .int (nI Ac), .ref (rA 2), .ref (rA 3), .ref (rA 4), .ref (rA 5), .ref (rA 6), .ref (rA 7), .ref (rA 8), .ref (rA 9), .ref (rA 10), .ref (rA 11), .ref (rA 12), .ref (rA 13), .int ir, .ref (rA 15), .ref (rA 16), .ref (rA 17), .ref (rA 18), .int (nI md), .int (nI wd), .ref (rA 21), .ref (rA 22), .ref (rA 23), .int (nI mn), .ref (rA 25), .int (nI (szB (hdB sf))), .int mr, .ref (rA 28), .ref (rA 29), .ref (rA 30), .ref (rA 31), .ref (rA 32), .ref (rA 33), .ref (rA 34), .ref (rA 35), .int (nI ld), .int (nI gm), .ref (rA 38), .ref (rA 39), .ref (rA 40), .ref (rA 41), .ref (rA 42), .ref (rA 43), .ref (rA 44), .ref (rA 45), .int (nI my), .ref (rA 47)], la (rA 25) (rK9 25) 5 ((wrB (hdB sf)).1), ia (rA 16) (rK9 16) 155 sf]) hP hD rfl hS hA [0, 1, 2] (by decide +kernel) rfl
      have hKc := hK.sub (tys' := [((rK9 25), .long), ((rK9 16), .int)]) [0, 1] rfl
      refine va_callv (va_runV (As := []) (rest := []) ⟨hx, hb, hml, hown, hw⟩ (gen_Ref_encodeRows l dC dI ra rA rK9 T Ac md wd mn (szB (hdB sf)) ld gm my ir mr sf zz ro (hdB sf) rfl hT4 hzz hro hkn htk hs3 H.size) (cw_V 0 hw g_Ref_encodeRows rfl rfl rfl (hw _ m_109) (hw _ m_1097) (hw _ m_1099) (hw _ m_59) (by decide +kernel) ⟨Nat.le_of_ble_eq_true rfl, Nat.le_of_ble_eq_true rfl⟩) ⟨fun a U g mk q => by obtain ⟨q0, q1, qP, qK, qD, qN⟩ := q; exact ⟨q0, q1, qP, va_K.moved (u := U) (U := U.calling g mk a) (Vm.Alike.refl U.vm) qK, qD, nw_call qN⟩, va_recv hKc hPc (ci := 8) (q0 := 0) rfl rfl, fun U hU hW => ⟨rfl, by rw [hU], by rw [hU]; exact hPc, va_K.moved hW.alike hKc, hDc.weaken (fun _ _ _ _ => trivial), nw_warm hW hn⟩⟩ rfl rfl hl.1 rfl (lv_room (Nat.le_of_ble_eq_true rfl)) d_Ref_encode_91 ⟨Nat.le_of_ble_eq_true rfl, Nat.le_of_ble_eq_true rfl⟩) hS (fun q _ h => hFc q h) hFc ?_
      intro u t9 H1 locs1 ht9 hvm hw1 hB hz1 hk1 hS1
      obtain ⟨hP1, hK1, hD1⟩ := hB
      rw [ht9] at hP1
      replace hK1 := va_K.moved hvm.symm hK1
      have hPD := join3 hP hD rfl [0, 1, 2] [] rfl (by rfl) (by decide +kernel) (by decide +kernel) hk1 hFc hP1 hD1
      replace hK : va_K (dC, dI) classes [((rK9 25), .long), ((rK9 16), .int)] s := hK.app hK1
      clear hP1 hK1 hD1 hk1 hz1 hFc hKc hDc hPc hvm ht9 hP hS t9 locs H
      have hP : va_P (dC, dI) classes [oc ra 8 [.int (nI T), .int (nI Ac), .ref (rA 2), .ref (rA 3), .ref (rA 4), .ref (rA 5), .ref (rA 6), .ref (rA 7), .ref (rA 8), .ref (rA 9), .ref (rA 10), .ref (rA 11), .ref (rA 12), .ref (rA 13), .int ir, .ref (rA 15), .ref (rA 16), .ref (rA 17), .ref (rA 18), .int (nI md), .int (nI wd), .ref (rA 21), .ref (rA 22), .ref (rA 23), .int (nI mn), .ref (rA 25), .int (nI (szB (en3 sf T zz ro))), .int mr, .ref (rA 28), .ref (rA 29), .ref (rA 30), .ref (rA 31), .ref (rA 32), .ref (rA 33), .ref (rA 34), .ref (rA 35), .int (nI ld), .int (nI gm), .ref (rA 38), .ref (rA 39), .ref (rA 40), .ref (rA 41), .ref (rA 42), .ref (rA 43), .ref (rA 44), .ref (rA 45), .int (nI my), .ref (rA 47)], la (rA 25) (rK9 25) 5 ((wrB (en3 sf T zz ro)).1), ia (rA 16) (rK9 16) 155 sf] H1 := hPD.1
      replace hD : dd A [ra, (rA 25), (rA 16)] := dd_of hPD.2 rfl
      clear hPD
      revert H1 locs1
      intro H locs hS hP
      clear hw1 u
      refine tp_pc (pc' := 94) (by rfl) ?_
      obtain ⟨hP9, hD9, -⟩ := cut3 (wc := [oc ra 8 [.int (nI T), .int (nI Ac), .ref (rA 2), .ref (rA 3), .ref (rA 4), .ref (rA 5), .ref (rA 6), .ref (rA 7), .ref (rA 8), .ref (rA 9), .ref (rA 10), .ref (rA 11), .ref (rA 12), .ref (rA 13), .int ir, .ref (rA 15), .ref (rA 16), .ref (rA 17), .ref (rA 18), .int (nI md), .int (nI wd), .ref (rA 21), .ref (rA 22), .ref (rA 23), .int (nI mn), .ref (rA 25), .int (nI (szB (en3 sf T zz ro))), .int mr, .ref (rA 28), .ref (rA 29), .ref (rA 30), .ref (rA 31), .ref (rA 32), .ref (rA 33), .ref (rA 34), .ref (rA 35), .int (nI ld), .int (nI gm), .ref (rA 38), .ref (rA 39), .ref (rA 40), .ref (rA 41), .ref (rA 42), .ref (rA 43), .ref (rA 44), .ref (rA 45), .int (nI my), .ref (rA 47)], la (rA 25) (rK9 25) 5 ((wrB (en3 sf T zz ro)).1), ia (rA 16) (rK9 16) 155 sf]) hP hD rfl hS hA [0, 1, 2] (by decide +kernel) rfl
      have hK9 := hK.sub (tys' := []) [] rfl
      refine W.widen (k := 0) (n := 0) (by exact Nat.le_of_ble_eq_true rfl) (by exact Nat.le_of_ble_eq_true rfl) ?_
      exact W.vret hx hb hr (fun t9 ht9 hW => ⟨⟨(), rfl, trivial, by rw [ht9]; exact hP9, va_K.moved hW.alike hK9, hD9⟩, hS.F ht9⟩) hS.2.2 d_Ref_encode_94
