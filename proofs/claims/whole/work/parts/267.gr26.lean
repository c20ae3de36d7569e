abbrev C5 := Int64 × Int64 × Int64 × Int64 × Int64
def c5 (f : Nat → Int64) : C5 := (f 0, f 1, f 2, f 3, f 4)
def cg (c : C5) : Nat → Int64
  | 0 => c.1
  | 1 => c.2.1
  | 2 => c.2.2.1
  | 3 => c.2.2.2.1
  | _ => c.2.2.2.2
theorem cg_c5 (f : Nat → Int64) (k : Nat) (h : k < 5) : cg (c5 f) k = f k := by
  rcases (by omega : k = 0 ∨ k = 1 ∨ k = 2 ∨ k = 3 ∨ k = 4) with rfl | rfl | rfl | rfl | rfl <;> rfl
theorem c5_eq {c : C5} {f : Nat → Int64} (h0 : cg c 0 = f 0) (h1 : cg c 1 = f 1) (h2 : cg c 2 = f 2) (h3 : cg c 3 = f 3) (h4 : cg c 4 = f 4) : c = c5 f := by
  obtain ⟨a, b, d, e, g⟩ := c
  show (a, b, d, e, g) = (f 0, f 1, f 2, f 3, f 4)
  rw [← h0, ← h1, ← h2, ← h3, ← h4]; rfl
/-- the sum of a code -/
def hsS (h c : Int64) : Int64 := ((h ^^^ c) * -7046029254386353131) ^^^ (((h ^^^ c) * -7046029254386353131).toUInt64 >>> (((29 : Int32) : Int32).toInt64.toUInt64 &&& Int64.toUInt64 63)).toInt64
def hsK (f : Nat → Int64) : Nat → Int64
  | 0 => 0
  | k + 1 => hsS (hsK f k) (f k)
def slN (f : Nat → Int64) : Nat := (hsK f 5).toUInt64.toNat / 2 ^ 48
theorem slN_lt (f : Nat → Int64) : slN f < 65536 := by
  unfold slN; have := (hsK f 5).toUInt64.toNat_lt; omega
theorem sh48 (u : UInt64) : (u >>> (48 : UInt64)).toInt64.toInt32 = nI (u.toNat / 2 ^ 48) := by
  have e : (u >>> (48 : UInt64)).toNat = u.toNat / 2 ^ 48 := by
    rw [UInt64.toNat_shiftRight, show (48 : UInt64).toNat % 64 = 48 from rfl, Nat.shiftRight_eq_div_pow]
  rw [← e]
  refine Int32.toBitVec_inj.mp ?_
  refine BitVec.eq_of_toNat_eq ?_
  rw [Int64.toBitVec_toInt32, BitVec.signExtend_eq_setWidth_of_le _ (by decide), BitVec.toNat_setWidth]
  show (u >>> (48 : UInt64)).toNat % 2 ^ 32 = (nI (u >>> (48 : UInt64)).toNat).toBitVec.toNat
  unfold nI
  rw [Int32.toBitVec_ofNat', BitVec.toNat_ofNat]
theorem slN_eq (f : Nat → Int64) : (((hsK f 5).toUInt64 >>> (((48 : Int32) : Int32).toInt64.toUInt64 &&& Int64.toUInt64 63)).toInt64).toInt32 = nI (slN f) := sh48 (hsK f 5).toUInt64
def sl5 (c : C5) : Nat := slN (cg c)
theorem sl5_c5 (f : Nat → Int64) : sl5 (c5 f) = slN f := rfl
def at5 (M : List C5) (m : Nat) : C5 := M.getD m (0, 0, 0, 0, 0)
theorem at5_lt {M : List C5} {c : C5} {m : Nat} (h : m < M.length) : at5 (M ++ [c]) m = at5 M m := by
  unfold at5; rw [List.getD_eq_getElem?_getD, List.getD_eq_getElem?_getD, List.getElem?_append_left h]
theorem at5_n {M : List C5} {c : C5} : at5 (M ++ [c]) M.length = c := by
  unfold at5; rw [List.getD_eq_getElem?_getD, List.getElem?_append_right (Nat.le_refl _), Nat.sub_self]; rfl
theorem mem_at5 {M : List C5} {c : C5} : c ∈ M ↔ ∃ m, m < M.length ∧ at5 M m = c := by
  rw [List.mem_iff_getElem]
  constructor
  · intro ⟨n, h, e⟩; exact ⟨n, h, by unfold at5; rw [List.getD_eq_getElem?_getD, List.getElem?_eq_getElem h]; exact e⟩
  · intro ⟨n, h, e⟩; exact ⟨n, h, by unfold at5 at e; rw [List.getD_eq_getElem?_getD, List.getElem?_eq_getElem h] at e; exact e⟩
/-- the last one below n with the sum h, and one more; 0 if there is none -/
def prv (sl : Nat → Nat) (h : Nat) : Nat → Nat
  | 0 => 0
  | n + 1 => if sl n = h then n + 1 else prv sl h n
theorem prv_le {sl : Nat → Nat} {h : Nat} : ∀ n, prv sl h n ≤ n
  | 0 => Nat.le_refl 0
  | n + 1 => by unfold prv; split; exact Nat.le_refl _; exact Nat.le_succ_of_le (prv_le n)
theorem prv_sl {sl : Nat → Nat} {h : Nat} : ∀ n, prv sl h n ≠ 0 → sl (prv sl h n - 1) = h
  | 0, q => absurd rfl q
  | n + 1, q => by
    unfold prv at q ⊢
    by_cases e : sl n = h
    · rw [if_pos e]; exact e
    · rw [if_neg e] at q ⊢; exact prv_sl n q
theorem prv_no {sl : Nat → Nat} {h : Nat} : ∀ n m, prv sl h n ≤ m → m < n → sl m ≠ h
  | 0, m, _, q => absurd q (Nat.not_lt_zero m)
  | n + 1, m, p, q => by
    unfold prv at p
    by_cases e : sl n = h
    · rw [if_pos e] at p; omega
    · rw [if_neg e] at p
      by_cases c : m = n
      · rw [c]; exact e
      · exact prv_no n m p (by omega)
theorem prv_cg {sl sm : Nat → Nat} {h : Nat} : ∀ n, (∀ m, m < n → sl m = sm m) → prv sl h n = prv sm h n
  | 0, _ => rfl
  | n + 1, q => by unfold prv; rw [q n (Nat.lt_succ_self n), prv_cg n (fun m hm => q m (by omega))]
/-- the table of codes met: each one's row, its chain by sums -/
def okM (M : List C5) (mf : Nat → Int64) (nx fs : Nat → Nat) : Prop :=
  (∀ m, m < M.length → ∀ k, k < 5 → mf (5 * m + k) = cg (at5 M m) k) ∧ (∀ h, h < 65536 → fs h = prv (fun m => sl5 (at5 M m)) h M.length) ∧ (∀ m, m < M.length → nx m = prv (fun m => sl5 (at5 M m)) (sl5 (at5 M m)) m)
theorem okM_nil {mf : Nat → Int64} {nx fs : Nat → Nat} (h : ∀ i, i < 65536 → fs i = 0) : okM [] mf nx fs :=
  ⟨fun m q => absurd q (Nat.not_lt_zero m), fun i q => h i q, fun m q => absurd q (Nat.not_lt_zero m)⟩
theorem okM_new {M : List C5} {mf mf2 : Nat → Int64} {nx fs : Nat → Nat} {f : Nat → Int64} (hM : okM M mf nx fs) (h1 : ∀ k, k < 5 → mf2 (5 * M.length + k) = f k) (h2 : ∀ i, i < 5 * M.length → mf2 i = mf i) :
    okM (M ++ [c5 f]) mf2 (updN nx M.length (fs (slN f))) (updN fs (slN f) (M.length + 1)) := by
  have hl : (M ++ [c5 f]).length = M.length + 1 := by rw [List.length_append]; rfl
  have hcg : ∀ h n, n ≤ M.length → prv (fun m => sl5 (at5 (M ++ [c5 f]) m)) h n = prv (fun m => sl5 (at5 M m)) h n := fun h n hn => prv_cg n (fun m hm => by rw [at5_lt (by omega)])
  refine ⟨fun m hm k hk => ?_, fun h hh => ?_, fun m hm => ?_⟩
  · rw [hl] at hm
    by_cases e : m = M.length
    · subst e; rw [h1 k hk, at5_n, cg_c5 f k hk]
    · rw [h2 _ (by omega), at5_lt (by omega)]; exact hM.1 m (by omega) k hk
  · rw [hl, prv, hcg h _ (Nat.le_refl _)]
    show updN fs (slN f) (M.length + 1) h = if sl5 (at5 (M ++ [c5 f]) M.length) = h then _ else _
    rw [at5_n, sl5_c5]; unfold updN
    by_cases e : h = slN f
    · rw [if_pos e, if_pos e.symm]
    · rw [if_neg e, if_neg (fun q => e q.symm)]; exact hM.2.1 h hh
  · rw [hl] at hm
    unfold updN
    by_cases e : m = M.length
    · rw [if_pos e, e, at5_n, sl5_c5, hcg _ _ (Nat.le_refl _)]; exact hM.2.1 _ (slN_lt f)
    · rw [if_neg e, at5_lt (by omega), hcg _ _ (by omega)]; exact hM.2.2 m (by omega)
/-- a code comes to the table -/
def adM (M : List C5) (c : C5) : List C5 := if c ∈ M then M else if M.length < 240000 then M ++ [c] else M
theorem adM_le {M : List C5} {c : C5} (h : M.length ≤ 240000) : (adM M c).length ≤ 240000 := by
  unfold adM; split
  · exact h
  · split
    · rw [List.length_append]; show M.length + 1 ≤ 240000; omega
    · exact h
set_option maxHeartbeats 4000000 in
set_option maxRecDepth 100000 in
theorem gen_Ref_wasMet (l : Launch) (dC : Nat → ClassId) (dI : Nat → Nat → Nat) (ra : Nat) (rA : Nat → Nat) (rK9 : Nat → ClassId) (T Ac md wd mn cb ld gm my : Nat) (ir mr : Int32) (sf : Nat → Int32) (cf CF mf : Nat → Int64) (CB : Nat) (nx fs : Nat → Nat) (M : List C5) (hen : ∀ sz : Nat, Met l y_Ref_encode w_Ref_encode ({ frames := 2, cells := 0, slots := 0, locals := 120 }) (va_Pc [.ref ra] (fun U => U.heap.size = sz ∧ va_P (dC, dI) classes [oc ra 8 [.int (nI T), .int (nI Ac), .ref (rA 2), .ref (rA 3), .ref (rA 4), .ref (rA 5), .ref (rA 6), .ref (rA 7), .ref (rA 8), .ref (rA 9), .ref (rA 10), .ref (rA 11), .ref (rA 12), .ref (rA 13), .int ir, .ref (rA 15), .ref (rA 16), .ref (rA 17), .ref (rA 18), .int (nI md), .int (nI wd), .ref (rA 21), .ref (rA 22), .ref (rA 23), .int (nI mn), .ref (rA 25), .int (nI cb), .int mr, .ref (rA 28), .ref (rA 29), .ref (rA 30), .ref (rA 31), .ref (rA 32), .ref (rA 33), .ref (rA 34), .ref (rA 35), .int (nI ld), .int (nI gm), .ref (rA 38), .ref (rA 39), .ref (rA 40), .ref (rA 41), .ref (rA 42), .ref (rA 43), .ref (rA 44), .ref (rA 45), .int (nI my), .ref (rA 47)], la (rA 25) (rK9 25) 5 cf, ia (rA 16) (rK9 16) 155 sf] U.heap ∧ va_K (dC, dI) classes [((rK9 25), .long), ((rK9 16), .int)] U ∧ va_D (fun _ => True) [oc ra 8 [.int (nI T), .int (nI Ac), .ref (rA 2), .ref (rA 3), .ref (rA 4), .ref (rA 5), .ref (rA 6), .ref (rA 7), .ref (rA 8), .ref (rA 9), .ref (rA 10), .ref (rA 11), .ref (rA 12), .ref (rA 13), .int ir, .ref (rA 15), .ref (rA 16), .ref (rA 17), .ref (rA 18), .int (nI md), .int (nI wd), .ref (rA 21), .ref (rA 22), .ref (rA 23), .int (nI mn), .ref (rA 25), .int (nI cb), .int mr, .ref (rA 28), .ref (rA 29), .ref (rA 30), .ref (rA 31), .ref (rA 32), .ref (rA 33), .ref (rA 34), .ref (rA 35), .int (nI ld), .int (nI gm), .ref (rA 38), .ref (rA 39), .ref (rA 40), .ref (rA 41), .ref (rA 42), .ref (rA 43), .ref (rA 44), .ref (rA 45), .int (nI my), .ref (rA 47)], la (rA 25) (rK9 25) 5 cf, ia (rA 16) (rK9 16) 155 sf] ∧ nw U)) (va_Qv (fun _ : Unit => True) (fun _ t9 => va_P (dC, dI) classes [oc ra 8 [.int (nI T), .int (nI Ac), .ref (rA 2), .ref (rA 3), .ref (rA 4), .ref (rA 5), .ref (rA 6), .ref (rA 7), .ref (rA 8), .ref (rA 9), .ref (rA 10), .ref (rA 11), .ref (rA 12), .ref (rA 13), .int ir, .ref (rA 15), .ref (rA 16), .ref (rA 17), .ref (rA 18), .int (nI md), .int (nI wd), .ref (rA 21), .ref (rA 22), .ref (rA 23), .int (nI mn), .ref (rA 25), .int (nI CB), .int mr, .ref (rA 28), .ref (rA 29), .ref (rA 30), .ref (rA 31), .ref (rA 32), .ref (rA 33), .ref (rA 34), .ref (rA 35), .int (nI ld), .int (nI gm), .ref (rA 38), .ref (rA 39), .ref (rA 40), .ref (rA 41), .ref (rA 42), .ref (rA 43), .ref (rA 44), .ref (rA 45), .int (nI my), .ref (rA 47)], la (rA 25) (rK9 25) 5 CF, ia (rA 16) (rK9 16) 155 sf] t9.heap ∧ va_K (dC, dI) classes [] t9 ∧ va_D (va_A [oc ra 8 [.int (nI T), .int (nI Ac), .ref (rA 2), .ref (rA 3), .ref (rA 4), .ref (rA 5), .ref (rA 6), .ref (rA 7), .ref (rA 8), .ref (rA 9), .ref (rA 10), .ref (rA 11), .ref (rA 12), .ref (rA 13), .int ir, .ref (rA 15), .ref (rA 16), .ref (rA 17), .ref (rA 18), .int (nI md), .int (nI wd), .ref (rA 21), .ref (rA 22), .ref (rA 23), .int (nI mn), .ref (rA 25), .int (nI cb), .int mr, .ref (rA 28), .ref (rA 29), .ref (rA 30), .ref (rA 31), .ref (rA 32), .ref (rA 33), .ref (rA 34), .ref (rA 35), .int (nI ld), .int (nI gm), .ref (rA 38), .ref (rA 39), .ref (rA 40), .ref (rA 41), .ref (rA 42), .ref (rA 43), .ref (rA 44), .ref (rA 45), .int (nI my), .ref (rA 47)], la (rA 25) (rK9 25) 5 cf, ia (rA 16) (rK9 16) 155 sf] sz) [oc ra 8 [.int (nI T), .int (nI Ac), .ref (rA 2), .ref (rA 3), .ref (rA 4), .ref (rA 5), .ref (rA 6), .ref (rA 7), .ref (rA 8), .ref (rA 9), .ref (rA 10), .ref (rA 11), .ref (rA 12), .ref (rA 13), .int ir, .ref (rA 15), .ref (rA 16), .ref (rA 17), .ref (rA 18), .int (nI md), .int (nI wd), .ref (rA 21), .ref (rA 22), .ref (rA 23), .int (nI mn), .ref (rA 25), .int (nI CB), .int mr, .ref (rA 28), .ref (rA 29), .ref (rA 30), .ref (rA 31), .ref (rA 32), .ref (rA 33), .ref (rA 34), .ref (rA 35), .int (nI ld), .int (nI gm), .ref (rA 38), .ref (rA 39), .ref (rA 40), .ref (rA 41), .ref (rA 42), .ref (rA 43), .ref (rA 44), .ref (rA 45), .int (nI my), .ref (rA 47)], la (rA 25) (rK9 25) 5 CF, ia (rA 16) (rK9 16) 155 sf]) (va_A [oc ra 8 [.int (nI T), .int (nI Ac), .ref (rA 2), .ref (rA 3), .ref (rA 4), .ref (rA 5), .ref (rA 6), .ref (rA 7), .ref (rA 8), .ref (rA 9), .ref (rA 10), .ref (rA 11), .ref (rA 12), .ref (rA 13), .int ir, .ref (rA 15), .ref (rA 16), .ref (rA 17), .ref (rA 18), .int (nI md), .int (nI wd), .ref (rA 21), .ref (rA 22), .ref (rA 23), .int (nI mn), .ref (rA 25), .int (nI cb), .int mr, .ref (rA 28), .ref (rA 29), .ref (rA 30), .ref (rA 31), .ref (rA 32), .ref (rA 33), .ref (rA 34), .ref (rA 35), .int (nI ld), .int (nI gm), .ref (rA 38), .ref (rA 39), .ref (rA 40), .ref (rA 41), .ref (rA 42), .ref (rA 43), .ref (rA 44), .ref (rA 45), .int (nI my), .ref (rA 47)], la (rA 25) (rK9 25) 5 cf, ia (rA 16) (rK9 16) 155 sf] sz)) 0 0 (va_A [oc ra 8 [.int (nI T), .int (nI Ac), .ref (rA 2), .ref (rA 3), .ref (rA 4), .ref (rA 5), .ref (rA 6), .ref (rA 7), .ref (rA 8), .ref (rA 9), .ref (rA 10), .ref (rA 11), .ref (rA 12), .ref (rA 13), .int ir, .ref (rA 15), .ref (rA 16), .ref (rA 17), .ref (rA 18), .int (nI md), .int (nI wd), .ref (rA 21), .ref (rA 22), .ref (rA 23), .int (nI mn), .ref (rA 25), .int (nI cb), .int mr, .ref (rA 28), .ref (rA 29), .ref (rA 30), .ref (rA 31), .ref (rA 32), .ref (rA 33), .ref (rA 34), .ref (rA 35), .int (nI ld), .int (nI gm), .ref (rA 38), .ref (rA 39), .ref (rA 40), .ref (rA 41), .ref (rA 42), .ref (rA 43), .ref (rA 44), .ref (rA 45), .int (nI my), .ref (rA 47)], la (rA 25) (rK9 25) 5 cf, ia (rA 16) (rK9 16) 155 sf] sz)) (hM : okM M mf nx fs) (hmn : mn = M.length) (hm2 : mn ≤ 240000) (sz : Nat) : Met l y_Ref_wasMet w_Ref_wasMet ({ frames := 3, cells := 0, slots := 0, locals := 160 }) (va_Pc [.ref ra] (fun U => U.heap.size = sz ∧ va_P (dC, dI) classes [oc ra 8 [.int (nI T), .int (nI Ac), .ref (rA 2), .ref (rA 3), .ref (rA 4), .ref (rA 5), .ref (rA 6), .ref (rA 7), .ref (rA 8), .ref (rA 9), .ref (rA 10), .ref (rA 11), .ref (rA 12), .ref (rA 13), .int ir, .ref (rA 15), .ref (rA 16), .ref (rA 17), .ref (rA 18), .int (nI md), .int (nI wd), .ref (rA 21), .ref (rA 22), .ref (rA 23), .int (nI mn), .ref (rA 25), .int (nI cb), .int mr, .ref (rA 28), .ref (rA 29), .ref (rA 30), .ref (rA 31), .ref (rA 32), .ref (rA 33), .ref (rA 34), .ref (rA 35), .int (nI ld), .int (nI gm), .ref (rA 38), .ref (rA 39), .ref (rA 40), .ref (rA 41), .ref (rA 42), .ref (rA 43), .ref (rA 44), .ref (rA 45), .int (nI my), .ref (rA 47)], la (rA 25) (rK9 25) 5 cf, ia (rA 16) (rK9 16) 155 sf, la (rA 21) (rK9 21) 1200000 mf, ia (rA 22) (rK9 22) 240000 (fun i0 => mN (nx i0)), ia (rA 23) (rK9 23) 65536 (fun i0 => mN (fs i0))] U.heap ∧ va_K (dC, dI) classes [((rK9 25), .long), ((rK9 16), .int), ((rK9 21), .long), ((rK9 22), .int), ((rK9 23), .int)] U ∧ va_D (fun _ => True) [oc ra 8 [.int (nI T), .int (nI Ac), .ref (rA 2), .ref (rA 3), .ref (rA 4), .ref (rA 5), .ref (rA 6), .ref (rA 7), .ref (rA 8), .ref (rA 9), .ref (rA 10), .ref (rA 11), .ref (rA 12), .ref (rA 13), .int ir, .ref (rA 15), .ref (rA 16), .ref (rA 17), .ref (rA 18), .int (nI md), .int (nI wd), .ref (rA 21), .ref (rA 22), .ref (rA 23), .int (nI mn), .ref (rA 25), .int (nI cb), .int mr, .ref (rA 28), .ref (rA 29), .ref (rA 30), .ref (rA 31), .ref (rA 32), .ref (rA 33), .ref (rA 34), .ref (rA 35), .int (nI ld), .int (nI gm), .ref (rA 38), .ref (rA 39), .ref (rA 40), .ref (rA 41), .ref (rA 42), .ref (rA 43), .ref (rA 44), .ref (rA 45), .int (nI my), .ref (rA 47)], la (rA 25) (rK9 25) 5 cf, ia (rA 16) (rK9 16) 155 sf, la (rA 21) (rK9 21) 1200000 mf, ia (rA 22) (rK9 22) 240000 (fun i0 => mN (nx i0)), ia (rA 23) (rK9 23) 65536 (fun i0 => mN (fs i0))] ∧ nw U)) (va_Qi (fun (r : Int32) (_ : Unit) => r = if c5 CF ∈ M then 1 else 0) (fun _ t9 => ∃ (mf2 : Nat → Int64) (nx2 fs2 : Nat → Nat), okM (adM M (c5 CF)) mf2 nx2 fs2 ∧ va_P (dC, dI) classes [oc ra 8 [.int (nI T), .int (nI Ac), .ref (rA 2), .ref (rA 3), .ref (rA 4), .ref (rA 5), .ref (rA 6), .ref (rA 7), .ref (rA 8), .ref (rA 9), .ref (rA 10), .ref (rA 11), .ref (rA 12), .ref (rA 13), .int ir, .ref (rA 15), .ref (rA 16), .ref (rA 17), .ref (rA 18), .int (nI md), .int (nI wd), .ref (rA 21), .ref (rA 22), .ref (rA 23), .int (nI ((adM M (c5 CF)).length)), .ref (rA 25), .int (nI CB), .int mr, .ref (rA 28), .ref (rA 29), .ref (rA 30), .ref (rA 31), .ref (rA 32), .ref (rA 33), .ref (rA 34), .ref (rA 35), .int (nI ld), .int (nI gm), .ref (rA 38), .ref (rA 39), .ref (rA 40), .ref (rA 41), .ref (rA 42), .ref (rA 43), .ref (rA 44), .ref (rA 45), .int (nI my), .ref (rA 47)], la (rA 25) (rK9 25) 5 CF, ia (rA 16) (rK9 16) 155 sf, la (rA 21) (rK9 21) 1200000 mf2, ia (rA 22) (rK9 22) 240000 (fun i0 => mN (nx2 i0)), ia (rA 23) (rK9 23) 65536 (fun i0 => mN (fs2 i0))] t9.heap ∧ va_K (dC, dI) classes [] t9 ∧ va_D (va_A [oc ra 8 [.int (nI T), .int (nI Ac), .ref (rA 2), .ref (rA 3), .ref (rA 4), .ref (rA 5), .ref (rA 6), .ref (rA 7), .ref (rA 8), .ref (rA 9), .ref (rA 10), .ref (rA 11), .ref (rA 12), .ref (rA 13), .int ir, .ref (rA 15), .ref (rA 16), .ref (rA 17), .ref (rA 18), .int (nI md), .int (nI wd), .ref (rA 21), .ref (rA 22), .ref (rA 23), .int (nI mn), .ref (rA 25), .int (nI cb), .int mr, .ref (rA 28), .ref (rA 29), .ref (rA 30), .ref (rA 31), .ref (rA 32), .ref (rA 33), .ref (rA 34), .ref (rA 35), .int (nI ld), .int (nI gm), .ref (rA 38), .ref (rA 39), .ref (rA 40), .ref (rA 41), .ref (rA 42), .ref (rA 43), .ref (rA 44), .ref (rA 45), .int (nI my), .ref (rA 47)], la (rA 25) (rK9 25) 5 cf, ia (rA 16) (rK9 16) 155 sf, la (rA 21) (rK9 21) 1200000 mf, ia (rA 22) (rK9 22) 240000 (fun i0 => mN (nx i0)), ia (rA 23) (rK9 23) 65536 (fun i0 => mN (fs i0))] sz) [oc ra 8 [.int (nI T), .int (nI Ac), .ref (rA 2), .ref (rA 3), .ref (rA 4), .ref (rA 5), .ref (rA 6), .ref (rA 7), .ref (rA 8), .ref (rA 9), .ref (rA 10), .ref (rA 11), .ref (rA 12), .ref (rA 13), .int ir, .ref (rA 15), .ref (rA 16), .ref (rA 17), .ref (rA 18), .int (nI md), .int (nI wd), .ref (rA 21), .ref (rA 22), .ref (rA 23), .int (nI ((adM M (c5 CF)).length)), .ref (rA 25), .int (nI CB), .int mr, .ref (rA 28), .ref (rA 29), .ref (rA 30), .ref (rA 31), .ref (rA 32), .ref (rA 33), .ref (rA 34), .ref (rA 35), .int (nI ld), .int (nI gm), .ref (rA 38), .ref (rA 39), .ref (rA 40), .ref (rA 41), .ref (rA 42), .ref (rA 43), .ref (rA 44), .ref (rA 45), .int (nI my), .ref (rA 47)], la (rA 25) (rK9 25) 5 CF, ia (rA 16) (rK9 16) 155 sf, la (rA 21) (rK9 21) 1200000 mf2, ia (rA 22) (rK9 22) 240000 (fun i0 => mN (nx2 i0)), ia (rA 23) (rK9 23) 65536 (fun i0 => mN (fs2 i0))]) (va_A [oc ra 8 [.int (nI T), .int (nI Ac), .ref (rA 2), .ref (rA 3), .ref (rA 4), .ref (rA 5), .ref (rA 6), .ref (rA 7), .ref (rA 8), .ref (rA 9), .ref (rA 10), .ref (rA 11), .ref (rA 12), .ref (rA 13), .int ir, .ref (rA 15), .ref (rA 16), .ref (rA 17), .ref (rA 18), .int (nI md), .int (nI wd), .ref (rA 21), .ref (rA 22), .ref (rA 23), .int (nI mn), .ref (rA 25), .int (nI cb), .int mr, .ref (rA 28), .ref (rA 29), .ref (rA 30), .ref (rA 31), .ref (rA 32), .ref (rA 33), .ref (rA 34), .ref (rA 35), .int (nI ld), .int (nI gm), .ref (rA 38), .ref (rA 39), .ref (rA 40), .ref (rA 41), .ref (rA 42), .ref (rA 43), .ref (rA 44), .ref (rA 45), .int (nI my), .ref (rA 47)], la (rA 25) (rK9 25) 5 cf, ia (rA 16) (rK9 16) 155 sf, la (rA 21) (rK9 21) 1200000 mf, ia (rA 22) (rK9 22) 240000 (fun i0 => mN (nx i0)), ia (rA 23) (rK9 23) 65536 (fun i0 => mN (fs i0))] sz)) 0 0 (va_A [oc ra 8 [.int (nI T), .int (nI Ac), .ref (rA 2), .ref (rA 3), .ref (rA 4), .ref (rA 5), .ref (rA 6), .ref (rA 7), .ref (rA 8), .ref (rA 9), .ref (rA 10), .ref (rA 11), .ref (rA 12), .ref (rA 13), .int ir, .ref (rA 15), .ref (rA 16), .ref (rA 17), .ref (rA 18), .int (nI md), .int (nI wd), .ref (rA 21), .ref (rA 22), .ref (rA 23), .int (nI mn), .ref (rA 25), .int (nI cb), .int mr, .ref (rA 28), .ref (rA 29), .ref (rA 30), .ref (rA 31), .ref (rA 32), .ref (rA 33), .ref (rA 34), .ref (rA 35), .int (nI ld), .int (nI gm), .ref (rA 38), .ref (rA 39), .ref (rA 40), .ref (rA 41), .ref (rA 42), .ref (rA 43), .ref (rA 44), .ref (rA 45), .int (nI my), .ref (rA 47)], la (rA 25) (rK9 25) 5 cf, ia (rA 16) (rK9 16) 155 sf, la (rA 21) (rK9 21) 1200000 mf, ia (rA 22) (rK9 22) 240000 (fun i0 => mN (nx i0)), ia (rA 23) (rK9 23) 65536 (fun i0 => mN (fs i0))] sz) := by
  refine Met.ofW (cc := b_Ref_wasMet) (maxL := 7) (ret := (some .boolean)) (by decide) rfl ?_
  intro p e0 s m args below meth c s₁ B hml hv
  obtain ⟨rfl, hsz, hP, hK, hD0, hn⟩ := hv
  have hx := B.exec
  have hb := B.bytes
  have hr := B.returns
  have hw := fun w (h : w ∈ wt) => atoms_spec (ws := w_Ref_wasMet) B.pre w (List.mem_cons_of_mem _ h)
  have hown : s.vm.findClass R_Ref = some m.cls := findClass_of_methodNamed B.named
  have hlocks := B.notSynchronized
  subst hsz
  have hD1 := hD0.self (sz := s.heap.size)
  generalize hAe : va_A [oc ra 8 [.int (nI T), .int (nI Ac), .ref (rA 2), .ref (rA 3), .ref (rA 4), .ref (rA 5), .ref (rA 6), .ref (rA 7), .ref (rA 8), .ref (rA 9), .ref (rA 10), .ref (rA 11), .ref (rA 12), .ref (rA 13), .int ir, .ref (rA 15), .ref (rA 16), .ref (rA 17), .ref (rA 18), .int (nI md), .int (nI wd), .ref (rA 21), .ref (rA 22), .ref (rA 23), .int (nI mn), .ref (rA 25), .int (nI cb), .int mr, .ref (rA 28), .ref (rA 29), .ref (rA 30), .ref (rA 31), .ref (rA 32), .ref (rA 33), .ref (rA 34), .ref (rA 35), .int (nI ld), .int (nI gm), .ref (rA 38), .ref (rA 39), .ref (rA 40), .ref (rA 41), .ref (rA 42), .ref (rA 43), .ref (rA 44), .ref (rA 45), .int (nI my), .ref (rA 47)], la (rA 25) (rK9 25) 5 cf, ia (rA 16) (rK9 16) 155 sf, la (rA 21) (rK9 21) 1200000 mf, ia (rA 22) (rK9 22) 240000 (fun i0 => mN (nx i0)), ia (rA 23) (rK9 23) 65536 (fun i0 => mN (fs i0))] s.heap.size = A at hD1 ⊢
  have hA : ∀ q : Nat, s.heap.size ≤ q → A q := fun q h => by rw [← hAe]; exact Or.inr h
  have hD : dd A [ra, (rA 25), (rA 16), (rA 21), (rA 22), (rA 23)] := dd_of hD1 rfl
  clear hAe hD0 hD1
  have hS : va_S A s.heap s.heap [] := va_S.rf
  replace hP : va_P (dC, dI) classes [oc ra 8 [.int (nI T), .int (nI Ac), .ref (rA 2), .ref (rA 3), .ref (rA 4), .ref (rA 5), .ref (rA 6), .ref (rA 7), .ref (rA 8), .ref (rA 9), .ref (rA 10), .ref (rA 11), .ref (rA 12), .ref (rA 13), .int ir, .ref (rA 15), .ref (rA 16), .ref (rA 17), .ref (rA 18), .int (nI md), .int (nI wd), .ref (rA 21), .ref (rA 22), .ref (rA 23), .int (nI mn), .ref (rA 25), .int (nI cb), .int mr, .ref (rA 28), .ref (rA 29), .ref (rA 30), .ref (rA 31), .ref (rA 32), .ref (rA 33), .ref (rA 34), .ref (rA 35), .int (nI ld), .int (nI gm), .ref (rA 38), .ref (rA 39), .ref (rA 40), .ref (rA 41), .ref (rA 42), .ref (rA 43), .ref (rA 44), .ref (rA 45), .int (nI my), .ref (rA 47)], la (rA 25) (rK9 25) 5 cf, ia (rA 16) (rK9 16) 155 sf, la (rA 21) (rK9 21) 1200000 mf, ia (rA 22) (rK9 22) 240000 (fun i0 => mN (nx i0)), ia (rA 23) (rK9 23) 65536 (fun i0 => mN (fs i0))] s.heap := hP
  have hl := lv_entry ([.ref ra]) (n := 7) (Nat.le_of_ble_eq_true rfl)
  rw [lg_entry_eq]
  generalize (lg_sl ([.ref ra]) ++ List.replicate (7 - (lg_sl ([.ref ra])).length) Slot.unset).toArray = ls at hl ⊢
  replace hl : lv_has ls 7 [(0, .ref ra)] := hl
  refine lv_aload_n hx hb d_Ref_wasMet_0 rfl (lv_at hl 0 rfl) ?_
  obtain ⟨hPc, hDc, hFc⟩ := cut3 (wc := [oc ra 8 [.int (nI T), .int (nI Ac), .ref (rA 2), .ref (rA 3), .ref (rA 4), .ref (rA 5), .ref (rA 6), .ref (rA 7), .ref (rA 8), .ref (rA 9), .ref (rA 10), .ref (rA 11), .ref (rA 12), .ref (rA 13), .int ir, .ref (rA 15), .ref (rA 16), .ref (rA 17), .ref (rA 18), .int (nI md), .int (nI wd), .ref (rA 21), .ref (rA 22), .ref (rA 23), .int (nI mn), .ref (rA 25), .int (nI cb), .int mr, .ref (rA 28), .ref (rA 29), .ref (rA 30), .ref (rA 31), .ref (rA 32), .ref (rA 33), .ref (rA 34), .ref (rA 35), .int (nI ld), .int (nI gm), .ref (rA 38), .ref (rA 39), .ref (rA 40), .ref (rA 41), .ref (rA 42), .ref (rA 43), .ref (rA 44), .ref (rA 45), .int (nI my), .ref (rA 47)], la (rA 25) (rK9 25) 5 cf, ia (rA 16) (rK9 16) 155 sf]) hP hD rfl hS hA [0, 1, 2] (by decide +kernel) rfl
  have hKc := hK.sub (tys' := [((rK9 25), .long), ((rK9 16), .int)]) [0, 1] rfl
  refine va_callv (va_runV (As := []) (rest := []) ⟨hx, hb, hml, hown, hw⟩ (hen s.heap.size) (cw_V 0 hw g_Ref_encode rfl rfl rfl (hw _ m_109) (hw _ m_1089) (hw _ m_1091) (hw _ m_57) (by decide +kernel) ⟨Nat.le_of_ble_eq_true rfl, Nat.le_of_ble_eq_true rfl⟩) ⟨fun a U g mk q => by obtain ⟨q0, q1, qP, qK, qD, qN⟩ := q; exact ⟨q0, q1, qP, va_K.moved (u := U) (U := U.calling g mk a) (Vm.Alike.refl U.vm) qK, qD, nw_call qN⟩, va_recv hKc hPc (ci := 8) (q0 := 0) rfl rfl, fun U hU hW => ⟨rfl, by rw [hU], by rw [hU]; exact hPc, va_K.moved hW.alike hKc, hDc.weaken (fun _ _ _ _ => trivial), nw_warm hW hn⟩⟩ rfl rfl hl.1 rfl (lv_room (Nat.le_of_ble_eq_true rfl)) d_Ref_wasMet_1 ⟨Nat.le_of_ble_eq_true rfl, Nat.le_of_ble_eq_true rfl⟩) hS (fun q _ h => hFc q h) hFc ?_
  intro u t9 H1 locs1 ht9 hvm hw1 hB hz1 hk1 hS1
  obtain ⟨hP1, hK1, hD1⟩ := hB
  rw [ht9] at hP1
  replace hK1 := va_K.moved hvm.symm hK1
  have hPD := join3 hP hD rfl [0, 1, 2] [3, 4, 5] rfl (by rfl) (by decide +kernel) (by decide +kernel) hk1 hFc hP1 hD1
  replace hK : va_K (dC, dI) classes [((rK9 25), .long), ((rK9 16), .int), ((rK9 21), .long), ((rK9 22), .int), ((rK9 23), .int)] s := hK.app hK1
  clear hP1 hK1 hD1 hk1 hz1 hFc hKc hDc hPc hvm ht9 hP hS t9
  have hP : va_P (dC, dI) classes [la (rA 21) (rK9 21) 1200000 mf, ia (rA 22) (rK9 22) 240000 (fun i0 => mN (nx i0)), ia (rA 23) (rK9 23) 65536 (fun i0 => mN (fs i0)), oc ra 8 [.int (nI T), .int (nI Ac), .ref (rA 2), .ref (rA 3), .ref (rA 4), .ref (rA 5), .ref (rA 6), .ref (rA 7), .ref (rA 8), .ref (rA 9), .ref (rA 10), .ref (rA 11), .ref (rA 12), .ref (rA 13), .int ir, .ref (rA 15), .ref (rA 16), .ref (rA 17), .ref (rA 18), .int (nI md), .int (nI wd), .ref (rA 21), .ref (rA 22), .ref (rA 23), .int (nI mn), .ref (rA 25), .int (nI CB), .int mr, .ref (rA 28), .ref (rA 29), .ref (rA 30), .ref (rA 31), .ref (rA 32), .ref (rA 33), .ref (rA 34), .ref (rA 35), .int (nI ld), .int (nI gm), .ref (rA 38), .ref (rA 39), .ref (rA 40), .ref (rA 41), .ref (rA 42), .ref (rA 43), .ref (rA 44), .ref (rA 45), .int (nI my), .ref (rA 47)], la (rA 25) (rK9 25) 5 CF, ia (rA 16) (rK9 16) 155 sf] H1 := hPD.1
  replace hD : dd A [(rA 21), (rA 22), (rA 23), ra, (rA 25), (rA 16)] := dd_of hPD.2 rfl
  clear hPD
  revert H1 locs1
  intro H locs hS hP
  clear hw1 u
  obtain ⟨hP8, hD8, -⟩ := cut3 (wc := [oc ra 8 [.int (nI T), .int (nI Ac), .ref (rA 2), .ref (rA 3), .ref (rA 4), .ref (rA 5), .ref (rA 6), .ref (rA 7), .ref (rA 8), .ref (rA 9), .ref (rA 10), .ref (rA 11), .ref (rA 12), .ref (rA 13), .int ir, .ref (rA 15), .ref (rA 16), .ref (rA 17), .ref (rA 18), .int (nI md), .int (nI wd), .ref (rA 21), .ref (rA 22), .ref (rA 23), .int (nI mn), .ref (rA 25), .int (nI CB), .int mr, .ref (rA 28), .ref (rA 29), .ref (rA 30), .ref (rA 31), .ref (rA 32), .ref (rA 33), .ref (rA 34), .ref (rA 35), .int (nI ld), .int (nI gm), .ref (rA 38), .ref (rA 39), .ref (rA 40), .ref (rA 41), .ref (rA 42), .ref (rA 43), .ref (rA 44), .ref (rA 45), .int (nI my), .ref (rA 47)], la (rA 25) (rK9 25) 5 CF, ia (rA 16) (rK9 16) 155 sf, la (rA 21) (rK9 21) 1200000 mf, ia (rA 22) (rK9 22) 240000 (fun i0 => mN (nx i0)), ia (rA 23) (rK9 23) 65536 (fun i0 => mN (fs i0))]) hP hD rfl hS hA [3, 4, 5, 0, 1, 2] (by decide +kernel) rfl
  clear hP
  have hP : va_P (dC, dI) classes [oc ra 8 [.int (nI T), .int (nI Ac), .ref (rA 2), .ref (rA 3), .ref (rA 4), .ref (rA 5), .ref (rA 6), .ref (rA 7), .ref (rA 8), .ref (rA 9), .ref (rA 10), .ref (rA 11), .ref (rA 12), .ref (rA 13), .int ir, .ref (rA 15), .ref (rA 16), .ref (rA 17), .ref (rA 18), .int (nI md), .int (nI wd), .ref (rA 21), .ref (rA 22), .ref (rA 23), .int (nI mn), .ref (rA 25), .int (nI CB), .int mr, .ref (rA 28), .ref (rA 29), .ref (rA 30), .ref (rA 31), .ref (rA 32), .ref (rA 33), .ref (rA 34), .ref (rA 35), .int (nI ld), .int (nI gm), .ref (rA 38), .ref (rA 39), .ref (rA 40), .ref (rA 41), .ref (rA 42), .ref (rA 43), .ref (rA 44), .ref (rA 45), .int (nI my), .ref (rA 47)], la (rA 25) (rK9 25) 5 CF, ia (rA 16) (rK9 16) 155 sf, la (rA 21) (rK9 21) 1200000 mf, ia (rA 22) (rK9 22) 240000 (fun i0 => mN (nx i0)), ia (rA 23) (rK9 23) 65536 (fun i0 => mN (fs i0))] H := hP8
  clear hP8
  replace hD : dd A [ra, (rA 25), (rA 16), (rA 21), (rA 22), (rA 23)] := dd_of hD8 rfl
  clear hD8
  refine tp_pc (pc' := 4) (by rfl) ?_
  refine lv_lconst (v := 0) hx hb d_Ref_wasMet_4 (by decide) ?_
  refine lv_lstore_n (lv' := [(1, .long 0), (0, .ref ra)]) hx hb d_Ref_wasMet_5 rfl hl (by decide) rfl ?_
  clear hl ls
  intro ls hl
  refine lv_iconst (v := 0) hx hb d_Ref_wasMet_6 (by decide) ?_
  refine lv_istore_n (lv' := [(3, .int 0), (1, .long 0), (0, .ref ra)]) hx hb d_Ref_wasMet_7 rfl hl (by decide) rfl ?_
  clear hl ls
  intro ls hl
  refine lv_iload_n hx hb d_Ref_wasMet_8 rfl (lv_at hl 0 rfl) ?_
  refine lv_iconst (v := 5) hx hb d_Ref_wasMet_9 (by decide) ?_
  refine lv_icmp_ge (tgt := 39) hx hb d_Ref_wasMet_10 (by decide) (fun c_2 => absurd c_2 (by decide)) (fun c_2 => ?_)
  refine tp_pc (pc' := 13) (by rfl) ?_
  refine lv_lload_n hx hb d_Ref_wasMet_13 rfl (lv_at hl 1 rfl) ?_
  refine lv_aload_n hx hb d_Ref_wasMet_14 rfl (lv_at hl 2 rfl) ?_
  refine va_get (D := (dC, dI)) (ci := 8) (v := .ref (rA 25)) (C := R_Ref) (T := F_Ref) (N := 48) hx hb hw i_Ref hown hK hP 0 rfl rfl 25 (by decide) (hw _ m_924) (fun _ h9 => h9) rfl d_Ref_wasMet_15 ?_
  refine lv_iload_n hx hb d_Ref_wasMet_18 rfl (lv_at hl 0 rfl) ?_
  refine va_lald (D := (dC, dI)) hx hb hK hP 1 0 rfl rfl (i := 0) (pk_in 0 5 (by omega)) d_Ref_wasMet_19 ?_
  refine tp_l (y := CF 0) (by rw [show (0 : Int32).toNatClampNeg = 0 from pk_cl 0]) ?_
  refine lv_lxor hx hb d_Ref_wasMet_20 ?_
  refine tp_l (y := 0 ^^^ (CF 0)) rfl ?_
  refine lv_ldc2 hx hb hown (hw _ m_1109) d_Ref_wasMet_21 ?_
  refine lv_lmul hx hb d_Ref_wasMet_24 ?_
  refine tp_l (y := (0 ^^^ (CF 0)) * (-7046029254386353131)) rfl ?_
  refine lv_lstore_n (lv' := [(1, .long ((0 ^^^ (CF 0)) * (-7046029254386353131))), (3, .int 0), (0, .ref ra)]) hx hb d_Ref_wasMet_25 rfl hl (by decide) rfl ?_
  clear hl ls
  intro ls hl
  refine lv_lload_n hx hb d_Ref_wasMet_26 rfl (lv_at hl 0 rfl) ?_
  refine lv_lload_n hx hb d_Ref_wasMet_27 rfl (lv_at hl 0 rfl) ?_
  refine lv_bipush (v := 29) hx hb d_Ref_wasMet_28 (by decide) ?_
  refine lv_lushr (v := (((0 ^^^ (CF 0)) * (-7046029254386353131)).toUInt64 >>> ((29 : Int32).toInt64.toUInt64 &&& Int64.toUInt64 63)).toInt64) hx hb d_Ref_wasMet_30 rfl ?_
  refine lv_lxor hx hb d_Ref_wasMet_31 ?_
  refine tp_l (y := ((0 ^^^ (CF 0)) * (-7046029254386353131)) ^^^ ((((0 ^^^ (CF 0)) * (-7046029254386353131)).toUInt64 >>> ((29 : Int32).toInt64.toUInt64 &&& Int64.toUInt64 63)).toInt64)) rfl ?_
  refine tp_l (y := hsK CF 1) rfl ?_
  refine lv_lstore_n (lv' := [(1, .long (hsK CF 1)), (3, .int 0), (0, .ref ra)]) hx hb d_Ref_wasMet_32 rfl hl (by decide) rfl ?_
  clear hl ls
  intro ls hl
  refine lv_iinc (v := 1) (lv' := [(3, .int 1), (1, .long (hsK CF 1)), (0, .ref ra)]) hx hb d_Ref_wasMet_33 hl (k := 1) rfl (by first | rfl | decide) (by decide) rfl ?_
  clear hl ls
  intro ls hl
  refine lv_goto (tgt := 8) hx hb d_Ref_wasMet_36 (by decide) ?_
  refine tp_pc (pc' := 8) (by rfl) ?_
  refine lv_iload_n hx hb d_Ref_wasMet_8 rfl (lv_at hl 0 rfl) ?_
  refine lv_iconst (v := 5) hx hb d_Ref_wasMet_9 (by decide) ?_
  refine lv_icmp_ge (tgt := 39) hx hb d_Ref_wasMet_10 (by decide) (fun c_3 => absurd c_3 (by decide)) (fun c_3 => ?_)
  refine tp_pc (pc' := 13) (by rfl) ?_
  refine lv_lload_n hx hb d_Ref_wasMet_13 rfl (lv_at hl 1 rfl) ?_
  refine lv_aload_n hx hb d_Ref_wasMet_14 rfl (lv_at hl 2 rfl) ?_
  refine va_get (D := (dC, dI)) (ci := 8) (v := .ref (rA 25)) (C := R_Ref) (T := F_Ref) (N := 48) hx hb hw i_Ref hown hK hP 0 rfl rfl 25 (by decide) (hw _ m_924) (fun _ h9 => h9) rfl d_Ref_wasMet_15 ?_
  refine lv_iload_n hx hb d_Ref_wasMet_18 rfl (lv_at hl 0 rfl) ?_
  refine va_lald (D := (dC, dI)) hx hb hK hP 1 0 rfl rfl (i := 1) (pk_in 1 5 (by omega)) d_Ref_wasMet_19 ?_
  refine tp_l (y := CF 1) (by rw [show (1 : Int32).toNatClampNeg = 1 from pk_cl 1]) ?_
  refine lv_lxor hx hb d_Ref_wasMet_20 ?_
  refine tp_l (y := (hsK CF 1) ^^^ (CF 1)) rfl ?_
  refine lv_ldc2 hx hb hown (hw _ m_1109) d_Ref_wasMet_21 ?_
  refine lv_lmul hx hb d_Ref_wasMet_24 ?_
  refine tp_l (y := ((hsK CF 1) ^^^ (CF 1)) * (-7046029254386353131)) rfl ?_
  refine lv_lstore_n (lv' := [(1, .long (((hsK CF 1) ^^^ (CF 1)) * (-7046029254386353131))), (3, .int 1), (0, .ref ra)]) hx hb d_Ref_wasMet_25 rfl hl (by decide) rfl ?_
  clear hl ls
  intro ls hl
  refine lv_lload_n hx hb d_Ref_wasMet_26 rfl (lv_at hl 0 rfl) ?_
  refine lv_lload_n hx hb d_Ref_wasMet_27 rfl (lv_at hl 0 rfl) ?_
  refine lv_bipush (v := 29) hx hb d_Ref_wasMet_28 (by decide) ?_
  refine lv_lushr (v := ((((hsK CF 1) ^^^ (CF 1)) * (-7046029254386353131)).toUInt64 >>> ((29 : Int32).toInt64.toUInt64 &&& Int64.toUInt64 63)).toInt64) hx hb d_Ref_wasMet_30 rfl ?_
  refine lv_lxor hx hb d_Ref_wasMet_31 ?_
  refine tp_l (y := (((hsK CF 1) ^^^ (CF 1)) * (-7046029254386353131)) ^^^ (((((hsK CF 1) ^^^ (CF 1)) * (-7046029254386353131)).toUInt64 >>> ((29 : Int32).toInt64.toUInt64 &&& Int64.toUInt64 63)).toInt64)) rfl ?_
  refine tp_l (y := hsK CF 2) rfl ?_
  refine lv_lstore_n (lv' := [(1, .long (hsK CF 2)), (3, .int 1), (0, .ref ra)]) hx hb d_Ref_wasMet_32 rfl hl (by decide) rfl ?_
  clear hl ls
  intro ls hl
  refine lv_iinc (v := 2) (lv' := [(3, .int 2), (1, .long (hsK CF 2)), (0, .ref ra)]) hx hb d_Ref_wasMet_33 hl (k := 1) rfl (by first | rfl | decide) (by decide) rfl ?_
  clear hl ls
  intro ls hl
  refine lv_goto (tgt := 8) hx hb d_Ref_wasMet_36 (by decide) ?_
  refine tp_pc (pc' := 8) (by rfl) ?_
  refine lv_iload_n hx hb d_Ref_wasMet_8 rfl (lv_at hl 0 rfl) ?_
  refine lv_iconst (v := 5) hx hb d_Ref_wasMet_9 (by decide) ?_
  refine lv_icmp_ge (tgt := 39) hx hb d_Ref_wasMet_10 (by decide) (fun c_4 => absurd c_4 (by decide)) (fun c_4 => ?_)
  refine tp_pc (pc' := 13) (by rfl) ?_
  refine lv_lload_n hx hb d_Ref_wasMet_13 rfl (lv_at hl 1 rfl) ?_
  refine lv_aload_n hx hb d_Ref_wasMet_14 rfl (lv_at hl 2 rfl) ?_
  refine va_get (D := (dC, dI)) (ci := 8) (v := .ref (rA 25)) (C := R_Ref) (T := F_Ref) (N := 48) hx hb hw i_Ref hown hK hP 0 rfl rfl 25 (by decide) (hw _ m_924) (fun _ h9 => h9) rfl d_Ref_wasMet_15 ?_
  refine lv_iload_n hx hb d_Ref_wasMet_18 rfl (lv_at hl 0 rfl) ?_
  refine va_lald (D := (dC, dI)) hx hb hK hP 1 0 rfl rfl (i := 2) (pk_in 2 5 (by omega)) d_Ref_wasMet_19 ?_
  refine tp_l (y := CF 2) (by rw [show (2 : Int32).toNatClampNeg = 2 from pk_cl 2]) ?_
  refine lv_lxor hx hb d_Ref_wasMet_20 ?_
  refine tp_l (y := (hsK CF 2) ^^^ (CF 2)) rfl ?_
  refine lv_ldc2 hx hb hown (hw _ m_1109) d_Ref_wasMet_21 ?_
  refine lv_lmul hx hb d_Ref_wasMet_24 ?_
  refine tp_l (y := ((hsK CF 2) ^^^ (CF 2)) * (-7046029254386353131)) rfl ?_
  refine lv_lstore_n (lv' := [(1, .long (((hsK CF 2) ^^^ (CF 2)) * (-7046029254386353131))), (3, .int 2), (0, .ref ra)]) hx hb d_Ref_wasMet_25 rfl hl (by decide) rfl ?_
  clear hl ls
  intro ls hl
  refine lv_lload_n hx hb d_Ref_wasMet_26 rfl (lv_at hl 0 rfl) ?_
  refine lv_lload_n hx hb d_Ref_wasMet_27 rfl (lv_at hl 0 rfl) ?_
  refine lv_bipush (v := 29) hx hb d_Ref_wasMet_28 (by decide) ?_
  refine lv_lushr (v := ((((hsK CF 2) ^^^ (CF 2)) * (-7046029254386353131)).toUInt64 >>> ((29 : Int32).toInt64.toUInt64 &&& Int64.toUInt64 63)).toInt64) hx hb d_Ref_wasMet_30 rfl ?_
  refine lv_lxor hx hb d_Ref_wasMet_31 ?_
  refine tp_l (y := (((hsK CF 2) ^^^ (CF 2)) * (-7046029254386353131)) ^^^ (((((hsK CF 2) ^^^ (CF 2)) * (-7046029254386353131)).toUInt64 >>> ((29 : Int32).toInt64.toUInt64 &&& Int64.toUInt64 63)).toInt64)) rfl ?_
  refine tp_l (y := hsK CF 3) rfl ?_
  refine lv_lstore_n (lv' := [(1, .long (hsK CF 3)), (3, .int 2), (0, .ref ra)]) hx hb d_Ref_wasMet_32 rfl hl (by decide) rfl ?_
  clear hl ls
  intro ls hl
  refine lv_iinc (v := 3) (lv' := [(3, .int 3), (1, .long (hsK CF 3)), (0, .ref ra)]) hx hb d_Ref_wasMet_33 hl (k := 1) rfl (by first | rfl | decide) (by decide) rfl ?_
  clear hl ls
  intro ls hl
  refine lv_goto (tgt := 8) hx hb d_Ref_wasMet_36 (by decide) ?_
  refine tp_pc (pc' := 8) (by rfl) ?_
  refine lv_iload_n hx hb d_Ref_wasMet_8 rfl (lv_at hl 0 rfl) ?_
  refine lv_iconst (v := 5) hx hb d_Ref_wasMet_9 (by decide) ?_
  refine lv_icmp_ge (tgt := 39) hx hb d_Ref_wasMet_10 (by decide) (fun c_5 => absurd c_5 (by decide)) (fun c_5 => ?_)
  refine tp_pc (pc' := 13) (by rfl) ?_
  refine lv_lload_n hx hb d_Ref_wasMet_13 rfl (lv_at hl 1 rfl) ?_
  refine lv_aload_n hx hb d_Ref_wasMet_14 rfl (lv_at hl 2 rfl) ?_
  refine va_get (D := (dC, dI)) (ci := 8) (v := .ref (rA 25)) (C := R_Ref) (T := F_Ref) (N := 48) hx hb hw i_Ref hown hK hP 0 rfl rfl 25 (by decide) (hw _ m_924) (fun _ h9 => h9) rfl d_Ref_wasMet_15 ?_
  refine lv_iload_n hx hb d_Ref_wasMet_18 rfl (lv_at hl 0 rfl) ?_
  refine va_lald (D := (dC, dI)) hx hb hK hP 1 0 rfl rfl (i := 3) (pk_in 3 5 (by omega)) d_Ref_wasMet_19 ?_
  refine tp_l (y := CF 3) (by rw [show (3 : Int32).toNatClampNeg = 3 from pk_cl 3]) ?_
  refine lv_lxor hx hb d_Ref_wasMet_20 ?_
  refine tp_l (y := (hsK CF 3) ^^^ (CF 3)) rfl ?_
  refine lv_ldc2 hx hb hown (hw _ m_1109) d_Ref_wasMet_21 ?_
  refine lv_lmul hx hb d_Ref_wasMet_24 ?_
  refine tp_l (y := ((hsK CF 3) ^^^ (CF 3)) * (-7046029254386353131)) rfl ?_
  refine lv_lstore_n (lv' := [(1, .long (((hsK CF 3) ^^^ (CF 3)) * (-7046029254386353131))), (3, .int 3), (0, .ref ra)]) hx hb d_Ref_wasMet_25 rfl hl (by decide) rfl ?_
  clear hl ls
  intro ls hl
  refine lv_lload_n hx hb d_Ref_wasMet_26 rfl (lv_at hl 0 rfl) ?_
  refine lv_lload_n hx hb d_Ref_wasMet_27 rfl (lv_at hl 0 rfl) ?_
  refine lv_bipush (v := 29) hx hb d_Ref_wasMet_28 (by decide) ?_
  refine lv_lushr (v := ((((hsK CF 3) ^^^ (CF 3)) * (-7046029254386353131)).toUInt64 >>> ((29 : Int32).toInt64.toUInt64 &&& Int64.toUInt64 63)).toInt64) hx hb d_Ref_wasMet_30 rfl ?_
  refine lv_lxor hx hb d_Ref_wasMet_31 ?_
  refine tp_l (y := (((hsK CF 3) ^^^ (CF 3)) * (-7046029254386353131)) ^^^ (((((hsK CF 3) ^^^ (CF 3)) * (-7046029254386353131)).toUInt64 >>> ((29 : Int32).toInt64.toUInt64 &&& Int64.toUInt64 63)).toInt64)) rfl ?_
  refine tp_l (y := hsK CF 4) rfl ?_
  refine lv_lstore_n (lv' := [(1, .long (hsK CF 4)), (3, .int 3), (0, .ref ra)]) hx hb d_Ref_wasMet_32 rfl hl (by decide) rfl ?_
  clear hl ls
  intro ls hl
  refine lv_iinc (v := 4) (lv' := [(3, .int 4), (1, .long (hsK CF 4)), (0, .ref ra)]) hx hb d_Ref_wasMet_33 hl (k := 1) rfl (by first | rfl | decide) (by decide) rfl ?_
  clear hl ls
  intro ls hl
  refine lv_goto (tgt := 8) hx hb d_Ref_wasMet_36 (by decide) ?_
  refine tp_pc (pc' := 8) (by rfl) ?_
  refine lv_iload_n hx hb d_Ref_wasMet_8 rfl (lv_at hl 0 rfl) ?_
  refine lv_iconst (v := 5) hx hb d_Ref_wasMet_9 (by decide) ?_
  refine lv_icmp_ge (tgt := 39) hx hb d_Ref_wasMet_10 (by decide) (fun c_6 => absurd c_6 (by decide)) (fun c_6 => ?_)
  refine tp_pc (pc' := 13) (by rfl) ?_
  refine lv_lload_n hx hb d_Ref_wasMet_13 rfl (lv_at hl 1 rfl) ?_
  refine lv_aload_n hx hb d_Ref_wasMet_14 rfl (lv_at hl 2 rfl) ?_
  refine va_get (D := (dC, dI)) (ci := 8) (v := .ref (rA 25)) (C := R_Ref) (T := F_Ref) (N := 48) hx hb hw i_Ref hown hK hP 0 rfl rfl 25 (by decide) (hw _ m_924) (fun _ h9 => h9) rfl d_Ref_wasMet_15 ?_
  refine lv_iload_n hx hb d_Ref_wasMet_18 rfl (lv_at hl 0 rfl) ?_
  refine va_lald (D := (dC, dI)) hx hb hK hP 1 0 rfl rfl (i := 4) (pk_in 4 5 (by omega)) d_Ref_wasMet_19 ?_
  refine tp_l (y := CF 4) (by rw [show (4 : Int32).toNatClampNeg = 4 from pk_cl 4]) ?_
  refine lv_lxor hx hb d_Ref_wasMet_20 ?_
  refine tp_l (y := (hsK CF 4) ^^^ (CF 4)) rfl ?_
  refine lv_ldc2 hx hb hown (hw _ m_1109) d_Ref_wasMet_21 ?_
  refine lv_lmul hx hb d_Ref_wasMet_24 ?_
  refine tp_l (y := ((hsK CF 4) ^^^ (CF 4)) * (-7046029254386353131)) rfl ?_
  refine lv_lstore_n (lv' := [(1, .long (((hsK CF 4) ^^^ (CF 4)) * (-7046029254386353131))), (3, .int 4), (0, .ref ra)]) hx hb d_Ref_wasMet_25 rfl hl (by decide) rfl ?_
  clear hl ls
  intro ls hl
  refine lv_lload_n hx hb d_Ref_wasMet_26 rfl (lv_at hl 0 rfl) ?_
  refine lv_lload_n hx hb d_Ref_wasMet_27 rfl (lv_at hl 0 rfl) ?_
  refine lv_bipush (v := 29) hx hb d_Ref_wasMet_28 (by decide) ?_
  refine lv_lushr (v := ((((hsK CF 4) ^^^ (CF 4)) * (-7046029254386353131)).toUInt64 >>> ((29 : Int32).toInt64.toUInt64 &&& Int64.toUInt64 63)).toInt64) hx hb d_Ref_wasMet_30 rfl ?_
  refine lv_lxor hx hb d_Ref_wasMet_31 ?_
  refine tp_l (y := (((hsK CF 4) ^^^ (CF 4)) * (-7046029254386353131)) ^^^ (((((hsK CF 4) ^^^ (CF 4)) * (-7046029254386353131)).toUInt64 >>> ((29 : Int32).toInt64.toUInt64 &&& Int64.toUInt64 63)).toInt64)) rfl ?_
  refine tp_l (y := hsK CF 5) rfl ?_
  refine lv_lstore_n (lv' := [(1, .long (hsK CF 5)), (3, .int 4), (0, .ref ra)]) hx hb d_Ref_wasMet_32 rfl hl (by decide) rfl ?_
  clear hl ls
  intro ls hl
  refine lv_iinc (v := 5) (lv' := [(3, .int 5), (1, .long (hsK CF 5)), (0, .ref ra)]) hx hb d_Ref_wasMet_33 hl (k := 1) rfl (by first | rfl | decide) (by decide) rfl ?_
  clear hl ls
  intro ls hl
  refine lv_goto (tgt := 8) hx hb d_Ref_wasMet_36 (by decide) ?_
  refine tp_pc (pc' := 8) (by rfl) ?_
  refine lv_iload_n hx hb d_Ref_wasMet_8 rfl (lv_at hl 0 rfl) ?_
  refine lv_iconst (v := 5) hx hb d_Ref_wasMet_9 (by decide) ?_
  refine lv_icmp_ge (tgt := 39) hx hb d_Ref_wasMet_10 (by decide) (fun c_7 => ?_) (fun c_7 => absurd c_7 (by decide))
  refine tp_pc (pc' := 39) (by rfl) ?_
  refine lv_lload_n hx hb d_Ref_wasMet_39 rfl (lv_at hl 1 rfl) ?_
  refine lv_bipush (v := 48) hx hb d_Ref_wasMet_40 (by decide) ?_
  refine lv_lushr (v := ((hsK CF 5).toUInt64 >>> ((48 : Int32).toInt64.toUInt64 &&& Int64.toUInt64 63)).toInt64) hx hb d_Ref_wasMet_42 rfl ?_
  refine lv_l2i (v := (((hsK CF 5).toUInt64 >>> ((48 : Int32).toInt64.toUInt64 &&& Int64.toUInt64 63)).toInt64).toInt32) hx hb d_Ref_wasMet_43 rfl ?_
  refine tp_i (y := nI (slN CF)) (slN_eq CF) ?_
  have hsl := slN_lt CF
  refine lv_istore_n (lv' := [(3, .int (nI (slN CF))), (1, .long (hsK CF 5)), (0, .ref ra)]) hx hb d_Ref_wasMet_44 rfl hl (by decide) rfl ?_
  clear hl ls
  intro ls hl
  refine lv_aload_n hx hb d_Ref_wasMet_45 rfl (lv_at hl 2 rfl) ?_
  refine va_get (D := (dC, dI)) (ci := 8) (v := .ref (rA 23)) (C := R_Ref) (T := F_Ref) (N := 48) hx hb hw i_Ref hown hK hP 0 rfl rfl 23 (by decide) (hw _ m_922) (fun _ h9 => h9) rfl d_Ref_wasMet_46 ?_
  refine lv_iload_n hx hb d_Ref_wasMet_49 rfl (lv_at hl 0 rfl) ?_
  refine va_iald (D := (dC, dI)) hx hb hK hP 5 4 rfl rfl (i := nI (slN CF)) (pk_in (slN CF) 65536 (by omega)) d_Ref_wasMet_50 ?_
  refine tp_i (y := (fun i0 => mN (fs i0)) (slN CF)) (by rw [show (nI (slN CF) : Int32).toNatClampNeg = slN CF from pk_cl (slN CF)]) ?_
  refine tp_i (y := mN (fs (slN CF))) rfl ?_
  refine lv_istore (lv' := [(4, .int (mN (fs (slN CF)))), (3, .int (nI (slN CF))), (1, .long (hsK CF 5)), (0, .ref ra)]) hx hb d_Ref_wasMet_51 hl (by decide) rfl ?_
  clear hl ls
  intro ls hl
  refine lp_w (fun mu H locs ls => ∃ p9, mu = p9 ∧ p9 ≤ M.length ∧ (p9 ≠ 0 → sl5 (at5 M (p9 - 1)) = slN CF) ∧ (∀ m, p9 ≤ m → m < M.length → at5 M m ≠ c5 CF) ∧ va_P (dC, dI) classes [oc ra 8 [.int (nI T), .int (nI Ac), .ref (rA 2), .ref (rA 3), .ref (rA 4), .ref (rA 5), .ref (rA 6), .ref (rA 7), .ref (rA 8), .ref (rA 9), .ref (rA 10), .ref (rA 11), .ref (rA 12), .ref (rA 13), .int ir, .ref (rA 15), .ref (rA 16), .ref (rA 17), .ref (rA 18), .int (nI md), .int (nI wd), .ref (rA 21), .ref (rA 22), .ref (rA 23), .int (nI mn), .ref (rA 25), .int (nI CB), .int mr, .ref (rA 28), .ref (rA 29), .ref (rA 30), .ref (rA 31), .ref (rA 32), .ref (rA 33), .ref (rA 34), .ref (rA 35), .int (nI ld), .int (nI gm), .ref (rA 38), .ref (rA 39), .ref (rA 40), .ref (rA 41), .ref (rA 42), .ref (rA 43), .ref (rA 44), .ref (rA 45), .int (nI my), .ref (rA 47)], la (rA 25) (rK9 25) 5 CF, ia (rA 16) (rK9 16) 155 sf, la (rA 21) (rK9 21) 1200000 mf, ia (rA 22) (rK9 22) 240000 (fun i0 => mN (nx i0)), ia (rA 23) (rK9 23) 65536 (fun i0 => mN (fs i0))] H ∧ va_S A s.heap H locs ∧ lv_has ls 7 [(4, .int (mN p9)), (3, .int (nI (slN CF))), (1, .long (hsK CF 5)), (0, .ref ra)]) (fs (slN CF)) ⟨_, rfl, by rw [hM.2.1 _ hsl]; exact prv_le _, by rw [hM.2.1 _ hsl]; exact prv_sl _, fun m q1 q2 e => absurd (show sl5 (at5 M m) = slN CF from by rw [e]; exact sl5_c5 CF) (prv_no (sl := fun m => sl5 (at5 M m)) (h := slN CF) _ m (by rw [← hM.2.1 _ hsl]; exact q1) q2), hP, hS, hl⟩ ?_
  intro mu H locs ls hI ih
  obtain ⟨p9, u0, u1, u2, u3, hP, hS, hl⟩ := hI
  subst u0
  by_cases e0x : mu = 0
  · skip
    replace hl : lv_has ls 7 [(4, .int (-1)), (3, .int (nI (slN CF))), (1, .long (hsK CF 5)), (0, .ref ra)] := by rw [e0x] at hl; exact hl
    have hno : ¬ c5 CF ∈ M := fun q => by obtain ⟨m, q1, q2⟩ := mem_at5.mp q; exact u3 m (by omega) q1 q2
    refine lv_iload hx hb d_Ref_wasMet_53 (lv_at hl 0 rfl) ?_
    refine lv_if_lt (tgt := 130) hx hb d_Ref_wasMet_55 (by decide) (fun c_8 => ?_) (fun c_8 => absurd c_8 (by decide))
    refine tp_pc (pc' := 130) (by rfl) ?_
    refine lv_aload_n hx hb d_Ref_wasMet_130 rfl (lv_at hl 3 rfl) ?_
    refine va_get (D := (dC, dI)) (ci := 8) (v := .int (nI mn)) (C := R_Ref) (T := F_Ref) (N := 48) hx hb hw i_Ref hown hK hP 0 rfl rfl 24 (by decide) (hw _ m_923) (fun _ h9 => h9) rfl d_Ref_wasMet_131 ?_
    refine lv_ldc hx hb hown (hw _ m_897) d_Ref_wasMet_134 ?_
    refine lv_icmp_ge (tgt := 210) hx hb d_Ref_wasMet_136 (by decide) (fun c1 => ?_) (fun c1 => ?_)
    · skip
      have hc1 : 240000 ≤ mn := (nI_leI (a := 240000) (b := mn) (by omega) (by omega)).mp c1
      have hads : adM M (c5 CF) = M := by unfold adM; rw [if_neg hno, if_neg (by omega)]
      refine tp_pc (pc' := 210) (by rfl) ?_
      refine lv_iconst (v := 0) hx hb d_Ref_wasMet_210 (by decide) ?_
      replace hP : va_P (dC, dI) classes [oc ra 8 [.int (nI T), .int (nI Ac), .ref (rA 2), .ref (rA 3), .ref (rA 4), .ref (rA 5), .ref (rA 6), .ref (rA 7), .ref (rA 8), .ref (rA 9), .ref (rA 10), .ref (rA 11), .ref (rA 12), .ref (rA 13), .int ir, .ref (rA 15), .ref (rA 16), .ref (rA 17), .ref (rA 18), .int (nI md), .int (nI wd), .ref (rA 21), .ref (rA 22), .ref (rA 23), .int (nI ((adM M (c5 CF)).length)), .ref (rA 25), .int (nI CB), .int mr, .ref (rA 28), .ref (rA 29), .ref (rA 30), .ref (rA 31), .ref (rA 32), .ref (rA 33), .ref (rA 34), .ref (rA 35), .int (nI ld), .int (nI gm), .ref (rA 38), .ref (rA 39), .ref (rA 40), .ref (rA 41), .ref (rA 42), .ref (rA 43), .ref (rA 44), .ref (rA 45), .int (nI my), .ref (rA 47)], la (rA 25) (rK9 25) 5 CF, ia (rA 16) (rK9 16) 155 sf, la (rA 21) (rK9 21) 1200000 mf, ia (rA 22) (rK9 22) 240000 (fun i0 => mN (nx i0)), ia (rA 23) (rK9 23) 65536 (fun i0 => mN (fs i0))] H := by rw [hads, ← hmn]; exact hP
      obtain ⟨hP9, hD9, -⟩ := cut3 (wc := [oc ra 8 [.int (nI T), .int (nI Ac), .ref (rA 2), .ref (rA 3), .ref (rA 4), .ref (rA 5), .ref (rA 6), .ref (rA 7), .ref (rA 8), .ref (rA 9), .ref (rA 10), .ref (rA 11), .ref (rA 12), .ref (rA 13), .int ir, .ref (rA 15), .ref (rA 16), .ref (rA 17), .ref (rA 18), .int (nI md), .int (nI wd), .ref (rA 21), .ref (rA 22), .ref (rA 23), .int (nI ((adM M (c5 CF)).length)), .ref (rA 25), .int (nI CB), .int mr, .ref (rA 28), .ref (rA 29), .ref (rA 30), .ref (rA 31), .ref (rA 32), .ref (rA 33), .ref (rA 34), .ref (rA 35), .int (nI ld), .int (nI gm), .ref (rA 38), .ref (rA 39), .ref (rA 40), .ref (rA 41), .ref (rA 42), .ref (rA 43), .ref (rA 44), .ref (rA 45), .int (nI my), .ref (rA 47)], la (rA 25) (rK9 25) 5 CF, ia (rA 16) (rK9 16) 155 sf, la (rA 21) (rK9 21) 1200000 mf, ia (rA 22) (rK9 22) 240000 (fun i0 => mN (nx i0)), ia (rA 23) (rK9 23) 65536 (fun i0 => mN (fs i0))]) hP hD rfl hS hA [0, 1, 2, 3, 4, 5] (by decide +kernel) rfl
      have hK9 := hK.sub (tys' := []) [] rfl
      refine W.widen (k := 0) (n := 0) (by exact Nat.le_of_ble_eq_true rfl) (by exact Nat.le_of_ble_eq_true rfl) ?_
      exact W.zret (v := 0) (ty := .boolean) hx hb hr (by decide) (fun t9 ht9 hW => ⟨⟨0, (), rfl, by rw [if_neg hno], mf, nx, fs, by rw [hads]; exact hM, by rw [ht9]; exact hP9, va_K.moved hW.alike hK9, hD9⟩, hS.F ht9⟩) hS.2.2 d_Ref_wasMet_211
    · skip
      have hc1 : ¬ (240000 ≤ mn) := fun q9 => c1 ((nI_leI (a := 240000) (b := mn) (by omega) (by omega)).mpr q9)
      have hads : adM M (c5 CF) = M ++ [c5 CF] := by unfold adM; rw [if_neg hno, if_pos (by omega)]
      refine tp_pc (pc' := 139) (by rfl) ?_
      refine lv_iconst (v := 0) hx hb d_Ref_wasMet_139 (by decide) ?_
      refine lv_istore (lv' := [(4, .int 0), (3, .int (nI (slN CF))), (1, .long (hsK CF 5)), (0, .ref ra)]) hx hb d_Ref_wasMet_140 hl (by decide) rfl ?_
      clear hl ls
      intro ls hl
      refine lv_iload hx hb d_Ref_wasMet_142 (lv_at hl 0 rfl) ?_
      refine lv_iconst (v := 5) hx hb d_Ref_wasMet_144 (by decide) ?_
      refine lv_icmp_ge (tgt := 175) hx hb d_Ref_wasMet_145 (by decide) (fun c_9 => absurd c_9 (by decide)) (fun c_9 => ?_)
      refine tp_pc (pc' := 148) (by rfl) ?_
      refine lv_aload_n hx hb d_Ref_wasMet_148 rfl (lv_at hl 3 rfl) ?_
      refine va_get (D := (dC, dI)) (ci := 8) (v := .ref (rA 21)) (C := R_Ref) (T := F_Ref) (N := 48) hx hb hw i_Ref hown hK hP 0 rfl rfl 21 (by decide) (hw _ m_920) (fun _ h9 => h9) rfl d_Ref_wasMet_149 ?_
      refine lv_iconst (v := 5) hx hb d_Ref_wasMet_152 (by decide) ?_
      refine lv_aload_n hx hb d_Ref_wasMet_153 rfl (lv_at hl 3 rfl) ?_
      refine va_get (D := (dC, dI)) (ci := 8) (v := .int (nI mn)) (C := R_Ref) (T := F_Ref) (N := 48) hx hb hw i_Ref hown hK hP 0 rfl rfl 24 (by decide) (hw _ m_923) (fun _ h9 => h9) rfl d_Ref_wasMet_154 ?_
      refine lv_imul hx hb d_Ref_wasMet_157 ?_
      refine tp_i (y := nI (5 * mn)) (by exact pk_mul 5 mn) ?_
      refine lv_iload hx hb d_Ref_wasMet_158 (lv_at hl 0 rfl) ?_
      refine lv_iadd hx hb d_Ref_wasMet_160 ?_
      refine tp_i (y := nI (5 * mn + 0)) (by exact nI_add (5 * mn) 0) ?_
      refine lv_aload_n hx hb d_Ref_wasMet_161 rfl (lv_at hl 3 rfl) ?_
      refine va_get (D := (dC, dI)) (ci := 8) (v := .ref (rA 25)) (C := R_Ref) (T := F_Ref) (N := 48) hx hb hw i_Ref hown hK hP 0 rfl rfl 25 (by decide) (hw _ m_924) (fun _ h9 => h9) rfl d_Ref_wasMet_162 ?_
      refine lv_iload hx hb d_Ref_wasMet_165 (lv_at hl 0 rfl) ?_
      refine va_lald (D := (dC, dI)) hx hb hK hP 1 0 rfl rfl (i := 0) (pk_in 0 5 (by omega)) d_Ref_wasMet_167 ?_
      refine tp_l (y := CF 0) (by rw [show (0 : Int32).toNatClampNeg = 0 from pk_cl 0]) ?_
      refine va_last (D := (dC, dI)) hx hb hK hP (dd_D hD rfl) hS 3 2 rfl rfl (i := nI (5 * mn + 0)) (x := CF 0) (pk_in (5 * mn + 0) 1200000 (by omega)) d_Ref_wasMet_168 ?_
      clear hP hS locs H
      intro H locs hP _ hS
      rw [show (nI (5 * mn + 0) : Int32).toNatClampNeg = 5 * mn + 0 from pk_cl (5 * mn + 0)] at hP
      replace hP : va_P (dC, dI) classes [oc ra 8 [.int (nI T), .int (nI Ac), .ref (rA 2), .ref (rA 3), .ref (rA 4), .ref (rA 5), .ref (rA 6), .ref (rA 7), .ref (rA 8), .ref (rA 9), .ref (rA 10), .ref (rA 11), .ref (rA 12), .ref (rA 13), .int ir, .ref (rA 15), .ref (rA 16), .ref (rA 17), .ref (rA 18), .int (nI md), .int (nI wd), .ref (rA 21), .ref (rA 22), .ref (rA 23), .int (nI mn), .ref (rA 25), .int (nI CB), .int mr, .ref (rA 28), .ref (rA 29), .ref (rA 30), .ref (rA 31), .ref (rA 32), .ref (rA 33), .ref (rA 34), .ref (rA 35), .int (nI ld), .int (nI gm), .ref (rA 38), .ref (rA 39), .ref (rA 40), .ref (rA 41), .ref (rA 42), .ref (rA 43), .ref (rA 44), .ref (rA 45), .int (nI my), .ref (rA 47)], la (rA 25) (rK9 25) 5 CF, ia (rA 16) (rK9 16) 155 sf, la (rA 21) (rK9 21) 1200000 (vp_updL mf (5 * mn + 0) (CF 0)), ia (rA 22) (rK9 22) 240000 (fun i0 => mN (nx i0)), ia (rA 23) (rK9 23) 65536 (fun i0 => mN (fs i0))] H := hP
      refine tp_pc (pc' := 169) (by rfl) ?_
      refine lv_iinc (v := 1) (lv' := [(4, .int 1), (3, .int (nI (slN CF))), (1, .long (hsK CF 5)), (0, .ref ra)]) hx hb d_Ref_wasMet_169 hl (k := 0) rfl (by first | rfl | decide) (by decide) rfl ?_
      clear hl ls
      intro ls hl
      refine lv_goto (tgt := 142) hx hb d_Ref_wasMet_172 (by decide) ?_
      refine tp_pc (pc' := 142) (by rfl) ?_
      refine lv_iload hx hb d_Ref_wasMet_142 (lv_at hl 0 rfl) ?_
      refine lv_iconst (v := 5) hx hb d_Ref_wasMet_144 (by decide) ?_
      refine lv_icmp_ge (tgt := 175) hx hb d_Ref_wasMet_145 (by decide) (fun c_10 => absurd c_10 (by decide)) (fun c_10 => ?_)
      refine tp_pc (pc' := 148) (by rfl) ?_
      refine lv_aload_n hx hb d_Ref_wasMet_148 rfl (lv_at hl 3 rfl) ?_
      refine va_get (D := (dC, dI)) (ci := 8) (v := .ref (rA 21)) (C := R_Ref) (T := F_Ref) (N := 48) hx hb hw i_Ref hown hK hP 0 rfl rfl 21 (by decide) (hw _ m_920) (fun _ h9 => h9) rfl d_Ref_wasMet_149 ?_
      refine lv_iconst (v := 5) hx hb d_Ref_wasMet_152 (by decide) ?_
      refine lv_aload_n hx hb d_Ref_wasMet_153 rfl (lv_at hl 3 rfl) ?_
      refine va_get (D := (dC, dI)) (ci := 8) (v := .int (nI mn)) (C := R_Ref) (T := F_Ref) (N := 48) hx hb hw i_Ref hown hK hP 0 rfl rfl 24 (by decide) (hw _ m_923) (fun _ h9 => h9) rfl d_Ref_wasMet_154 ?_
      refine lv_imul hx hb d_Ref_wasMet_157 ?_
      refine tp_i (y := nI (5 * mn)) (by exact pk_mul 5 mn) ?_
      refine lv_iload hx hb d_Ref_wasMet_158 (lv_at hl 0 rfl) ?_
      refine lv_iadd hx hb d_Ref_wasMet_160 ?_
      refine tp_i (y := nI (5 * mn + 1)) (by exact nI_add (5 * mn) 1) ?_
      refine lv_aload_n hx hb d_Ref_wasMet_161 rfl (lv_at hl 3 rfl) ?_
      refine va_get (D := (dC, dI)) (ci := 8) (v := .ref (rA 25)) (C := R_Ref) (T := F_Ref) (N := 48) hx hb hw i_Ref hown hK hP 0 rfl rfl 25 (by decide) (hw _ m_924) (fun _ h9 => h9) rfl d_Ref_wasMet_162 ?_
      refine lv_iload hx hb d_Ref_wasMet_165 (lv_at hl 0 rfl) ?_
      refine va_lald (D := (dC, dI)) hx hb hK hP 1 0 rfl rfl (i := 1) (pk_in 1 5 (by omega)) d_Ref_wasMet_167 ?_
      refine tp_l (y := CF 1) (by rw [show (1 : Int32).toNatClampNeg = 1 from pk_cl 1]) ?_
      refine va_last (D := (dC, dI)) hx hb hK hP (dd_D hD rfl) hS 3 2 rfl rfl (i := nI (5 * mn + 1)) (x := CF 1) (pk_in (5 * mn + 1) 1200000 (by omega)) d_Ref_wasMet_168 ?_
      clear hP hS locs H
      intro H locs hP _ hS
      rw [show (nI (5 * mn + 1) : Int32).toNatClampNeg = 5 * mn + 1 from pk_cl (5 * mn + 1)] at hP
      replace hP : va_P (dC, dI) classes [oc ra 8 [.int (nI T), .int (nI Ac), .ref (rA 2), .ref (rA 3), .ref (rA 4), .ref (rA 5), .ref (rA 6), .ref (rA 7), .ref (rA 8), .ref (rA 9), .ref (rA 10), .ref (rA 11), .ref (rA 12), .ref (rA 13), .int ir, .ref (rA 15), .ref (rA 16), .ref (rA 17), .ref (rA 18), .int (nI md), .int (nI wd), .ref (rA 21), .ref (rA 22), .ref (rA 23), .int (nI mn), .ref (rA 25), .int (nI CB), .int mr, .ref (rA 28), .ref (rA 29), .ref (rA 30), .ref (rA 31), .ref (rA 32), .ref (rA 33), .ref (rA 34), .ref (rA 35), .int (nI ld), .int (nI gm), .ref (rA 38), .ref (rA 39), .ref (rA 40), .ref (rA 41), .ref (rA 42), .ref (rA 43), .ref (rA 44), .ref (rA 45), .int (nI my), .ref (rA 47)], la (rA 25) (rK9 25) 5 CF, ia (rA 16) (rK9 16) 155 sf, la (rA 21) (rK9 21) 1200000 (vp_updL (vp_updL mf (5 * mn + 0) (CF 0)) (5 * mn + 1) (CF 1)), ia (rA 22) (rK9 22) 240000 (fun i0 => mN (nx i0)), ia (rA 23) (rK9 23) 65536 (fun i0 => mN (fs i0))] H := hP
      refine tp_pc (pc' := 169) (by rfl) ?_
      refine lv_iinc (v := 2) (lv' := [(4, .int 2), (3, .int (nI (slN CF))), (1, .long (hsK CF 5)), (0, .ref ra)]) hx hb d_Ref_wasMet_169 hl (k := 0) rfl (by first | rfl | decide) (by decide) rfl ?_
      clear hl ls
      intro ls hl
      refine lv_goto (tgt := 142) hx hb d_Ref_wasMet_172 (by decide) ?_
      refine tp_pc (pc' := 142) (by rfl) ?_
      refine lv_iload hx hb d_Ref_wasMet_142 (lv_at hl 0 rfl) ?_
      refine lv_iconst (v := 5) hx hb d_Ref_wasMet_144 (by decide) ?_
      refine lv_icmp_ge (tgt := 175) hx hb d_Ref_wasMet_145 (by decide) (fun c_11 => absurd c_11 (by decide)) (fun c_11 => ?_)
      refine tp_pc (pc' := 148) (by rfl) ?_
      refine lv_aload_n hx hb d_Ref_wasMet_148 rfl (lv_at hl 3 rfl) ?_
      refine va_get (D := (dC, dI)) (ci := 8) (v := .ref (rA 21)) (C := R_Ref) (T := F_Ref) (N := 48) hx hb hw i_Ref hown hK hP 0 rfl rfl 21 (by decide) (hw _ m_920) (fun _ h9 => h9) rfl d_Ref_wasMet_149 ?_
      refine lv_iconst (v := 5) hx hb d_Ref_wasMet_152 (by decide) ?_
      refine lv_aload_n hx hb d_Ref_wasMet_153 rfl (lv_at hl 3 rfl) ?_
      refine va_get (D := (dC, dI)) (ci := 8) (v := .int (nI mn)) (C := R_Ref) (T := F_Ref) (N := 48) hx hb hw i_Ref hown hK hP 0 rfl rfl 24 (by decide) (hw _ m_923) (fun _ h9 => h9) rfl d_Ref_wasMet_154 ?_
      refine lv_imul hx hb d_Ref_wasMet_157 ?_
      refine tp_i (y := nI (5 * mn)) (by exact pk_mul 5 mn) ?_
      refine lv_iload hx hb d_Ref_wasMet_158 (lv_at hl 0 rfl) ?_
      refine lv_iadd hx hb d_Ref_wasMet_160 ?_
      refine tp_i (y := nI (5 * mn + 2)) (by exact nI_add (5 * mn) 2) ?_
      refine lv_aload_n hx hb d_Ref_wasMet_161 rfl (lv_at hl 3 rfl) ?_
      refine va_get (D := (dC, dI)) (ci := 8) (v := .ref (rA 25)) (C := R_Ref) (T := F_Ref) (N := 48) hx hb hw i_Ref hown hK hP 0 rfl rfl 25 (by decide) (hw _ m_924) (fun _ h9 => h9) rfl d_Ref_wasMet_162 ?_
      refine lv_iload hx hb d_Ref_wasMet_165 (lv_at hl 0 rfl) ?_
      refine va_lald (D := (dC, dI)) hx hb hK hP 1 0 rfl rfl (i := 2) (pk_in 2 5 (by omega)) d_Ref_wasMet_167 ?_
      refine tp_l (y := CF 2) (by rw [show (2 : Int32).toNatClampNeg = 2 from pk_cl 2]) ?_
      refine va_last (D := (dC, dI)) hx hb hK hP (dd_D hD rfl) hS 3 2 rfl rfl (i := nI (5 * mn + 2)) (x := CF 2) (pk_in (5 * mn + 2) 1200000 (by omega)) d_Ref_wasMet_168 ?_
      clear hP hS locs H
      intro H locs hP _ hS
      rw [show (nI (5 * mn + 2) : Int32).toNatClampNeg = 5 * mn + 2 from pk_cl (5 * mn + 2)] at hP
      replace hP : va_P (dC, dI) classes [oc ra 8 [.int (nI T), .int (nI Ac), .ref (rA 2), .ref (rA 3), .ref (rA 4), .ref (rA 5), .ref (rA 6), .ref (rA 7), .ref (rA 8), .ref (rA 9), .ref (rA 10), .ref (rA 11), .ref (rA 12), .ref (rA 13), .int ir, .ref (rA 15), .ref (rA 16), .ref (rA 17), .ref (rA 18), .int (nI md), .int (nI wd), .ref (rA 21), .ref (rA 22), .ref (rA 23), .int (nI mn), .ref (rA 25), .int (nI CB), .int mr, .ref (rA 28), .ref (rA 29), .ref (rA 30), .ref (rA 31), .ref (rA 32), .ref (rA 33), .ref (rA 34), .ref (rA 35), .int (nI ld), .int (nI gm), .ref (rA 38), .ref (rA 39), .ref (rA 40), .ref (rA 41), .ref (rA 42), .ref (rA 43), .ref (rA 44), .ref (rA 45), .int (nI my), .ref (rA 47)], la (rA 25) (rK9 25) 5 CF, ia (rA 16) (rK9 16) 155 sf, la (rA 21) (rK9 21) 1200000 (vp_updL (vp_updL (vp_updL mf (5 * mn + 0) (CF 0)) (5 * mn + 1) (CF 1)) (5 * mn + 2) (CF 2)), ia (rA 22) (rK9 22) 240000 (fun i0 => mN (nx i0)), ia (rA 23) (rK9 23) 65536 (fun i0 => mN (fs i0))] H := hP
      refine tp_pc (pc' := 169) (by rfl) ?_
      refine lv_iinc (v := 3) (lv' := [(4, .int 3), (3, .int (nI (slN CF))), (1, .long (hsK CF 5)), (0, .ref ra)]) hx hb d_Ref_wasMet_169 hl (k := 0) rfl (by first | rfl | decide) (by decide) rfl ?_
      clear hl ls
      intro ls hl
      refine lv_goto (tgt := 142) hx hb d_Ref_wasMet_172 (by decide) ?_
      refine tp_pc (pc' := 142) (by rfl) ?_
      refine lv_iload hx hb d_Ref_wasMet_142 (lv_at hl 0 rfl) ?_
      refine lv_iconst (v := 5) hx hb d_Ref_wasMet_144 (by decide) ?_
      refine lv_icmp_ge (tgt := 175) hx hb d_Ref_wasMet_145 (by decide) (fun c_12 => absurd c_12 (by decide)) (fun c_12 => ?_)
      refine tp_pc (pc' := 148) (by rfl) ?_
      refine lv_aload_n hx hb d_Ref_wasMet_148 rfl (lv_at hl 3 rfl) ?_
      refine va_get (D := (dC, dI)) (ci := 8) (v := .ref (rA 21)) (C := R_Ref) (T := F_Ref) (N := 48) hx hb hw i_Ref hown hK hP 0 rfl rfl 21 (by decide) (hw _ m_920) (fun _ h9 => h9) rfl d_Ref_wasMet_149 ?_
      refine lv_iconst (v := 5) hx hb d_Ref_wasMet_152 (by decide) ?_
      refine lv_aload_n hx hb d_Ref_wasMet_153 rfl (lv_at hl 3 rfl) ?_
      refine va_get (D := (dC, dI)) (ci := 8) (v := .int (nI mn)) (C := R_Ref) (T := F_Ref) (N := 48) hx hb hw i_Ref hown hK hP 0 rfl rfl 24 (by decide) (hw _ m_923) (fun _ h9 => h9) rfl d_Ref_wasMet_154 ?_
      refine lv_imul hx hb d_Ref_wasMet_157 ?_
      refine tp_i (y := nI (5 * mn)) (by exact pk_mul 5 mn) ?_
      refine lv_iload hx hb d_Ref_wasMet_158 (lv_at hl 0 rfl) ?_
      refine lv_iadd hx hb d_Ref_wasMet_160 ?_
      refine tp_i (y := nI (5 * mn + 3)) (by exact nI_add (5 * mn) 3) ?_
      refine lv_aload_n hx hb d_Ref_wasMet_161 rfl (lv_at hl 3 rfl) ?_
      refine va_get (D := (dC, dI)) (ci := 8) (v := .ref (rA 25)) (C := R_Ref) (T := F_Ref) (N := 48) hx hb hw i_Ref hown hK hP 0 rfl rfl 25 (by decide) (hw _ m_924) (fun _ h9 => h9) rfl d_Ref_wasMet_162 ?_
      refine lv_iload hx hb d_Ref_wasMet_165 (lv_at hl 0 rfl) ?_
      refine va_lald (D := (dC, dI)) hx hb hK hP 1 0 rfl rfl (i := 3) (pk_in 3 5 (by omega)) d_Ref_wasMet_167 ?_
      refine tp_l (y := CF 3) (by rw [show (3 : Int32).toNatClampNeg = 3 from pk_cl 3]) ?_
      refine va_last (D := (dC, dI)) hx hb hK hP (dd_D hD rfl) hS 3 2 rfl rfl (i := nI (5 * mn + 3)) (x := CF 3) (pk_in (5 * mn + 3) 1200000 (by omega)) d_Ref_wasMet_168 ?_
      clear hP hS locs H
      intro H locs hP _ hS
      rw [show (nI (5 * mn + 3) : Int32).toNatClampNeg = 5 * mn + 3 from pk_cl (5 * mn + 3)] at hP
      replace hP : va_P (dC, dI) classes [oc ra 8 [.int (nI T), .int (nI Ac), .ref (rA 2), .ref (rA 3), .ref (rA 4), .ref (rA 5), .ref (rA 6), .ref (rA 7), .ref (rA 8), .ref (rA 9), .ref (rA 10), .ref (rA 11), .ref (rA 12), .ref (rA 13), .int ir, .ref (rA 15), .ref (rA 16), .ref (rA 17), .ref (rA 18), .int (nI md), .int (nI wd), .ref (rA 21), .ref (rA 22), .ref (rA 23), .int (nI mn), .ref (rA 25), .int (nI CB), .int mr, .ref (rA 28), .ref (rA 29), .ref (rA 30), .ref (rA 31), .ref (rA 32), .ref (rA 33), .ref (rA 34), .ref (rA 35), .int (nI ld), .int (nI gm), .ref (rA 38), .ref (rA 39), .ref (rA 40), .ref (rA 41), .ref (rA 42), .ref (rA 43), .ref (rA 44), .ref (rA 45), .int (nI my), .ref (rA 47)], la (rA 25) (rK9 25) 5 CF, ia (rA 16) (rK9 16) 155 sf, la (rA 21) (rK9 21) 1200000 (vp_updL (vp_updL (vp_updL (vp_updL mf (5 * mn + 0) (CF 0)) (5 * mn + 1) (CF 1)) (5 * mn + 2) (CF 2)) (5 * mn + 3) (CF 3)), ia (rA 22) (rK9 22) 240000 (fun i0 => mN (nx i0)), ia (rA 23) (rK9 23) 65536 (fun i0 => mN (fs i0))] H := hP
      refine tp_pc (pc' := 169) (by rfl) ?_
      refine lv_iinc (v := 4) (lv' := [(4, .int 4), (3, .int (nI (slN CF))), (1, .long (hsK CF 5)), (0, .ref ra)]) hx hb d_Ref_wasMet_169 hl (k := 0) rfl (by first | rfl | decide) (by decide) rfl ?_
      clear hl ls
      intro ls hl
      refine lv_goto (tgt := 142) hx hb d_Ref_wasMet_172 (by decide) ?_
      refine tp_pc (pc' := 142) (by rfl) ?_
      refine lv_iload hx hb d_Ref_wasMet_142 (lv_at hl 0 rfl) ?_
      refine lv_iconst (v := 5) hx hb d_Ref_wasMet_144 (by decide) ?_
      refine lv_icmp_ge (tgt := 175) hx hb d_Ref_wasMet_145 (by decide) (fun c_13 => absurd c_13 (by decide)) (fun c_13 => ?_)
      refine tp_pc (pc' := 148) (by rfl) ?_
      refine lv_aload_n hx hb d_Ref_wasMet_148 rfl (lv_at hl 3 rfl) ?_
      refine va_get (D := (dC, dI)) (ci := 8) (v := .ref (rA 21)) (C := R_Ref) (T := F_Ref) (N := 48) hx hb hw i_Ref hown hK hP 0 rfl rfl 21 (by decide) (hw _ m_920) (fun _ h9 => h9) rfl d_Ref_wasMet_149 ?_
      refine lv_iconst (v := 5) hx hb d_Ref_wasMet_152 (by decide) ?_
      refine lv_aload_n hx hb d_Ref_wasMet_153 rfl (lv_at hl 3 rfl) ?_
      refine va_get (D := (dC, dI)) (ci := 8) (v := .int (nI mn)) (C := R_Ref) (T := F_Ref) (N := 48) hx hb hw i_Ref hown hK hP 0 rfl rfl 24 (by decide) (hw _ m_923) (fun _ h9 => h9) rfl d_Ref_wasMet_154 ?_
      refine lv_imul hx hb d_Ref_wasMet_157 ?_
      refine tp_i (y := nI (5 * mn)) (by exact pk_mul 5 mn) ?_
      refine lv_iload hx hb d_Ref_wasMet_158 (lv_at hl 0 rfl) ?_
      refine lv_iadd hx hb d_Ref_wasMet_160 ?_
      refine tp_i (y := nI (5 * mn + 4)) (by exact nI_add (5 * mn) 4) ?_
      refine lv_aload_n hx hb d_Ref_wasMet_161 rfl (lv_at hl 3 rfl) ?_
      refine va_get (D := (dC, dI)) (ci := 8) (v := .ref (rA 25)) (C := R_Ref) (T := F_Ref) (N := 48) hx hb hw i_Ref hown hK hP 0 rfl rfl 25 (by decide) (hw _ m_924) (fun _ h9 => h9) rfl d_Ref_wasMet_162 ?_
      refine lv_iload hx hb d_Ref_wasMet_165 (lv_at hl 0 rfl) ?_
      refine va_lald (D := (dC, dI)) hx hb hK hP 1 0 rfl rfl (i := 4) (pk_in 4 5 (by omega)) d_Ref_wasMet_167 ?_
      refine tp_l (y := CF 4) (by rw [show (4 : Int32).toNatClampNeg = 4 from pk_cl 4]) ?_
      refine va_last (D := (dC, dI)) hx hb hK hP (dd_D hD rfl) hS 3 2 rfl rfl (i := nI (5 * mn + 4)) (x := CF 4) (pk_in (5 * mn + 4) 1200000 (by omega)) d_Ref_wasMet_168 ?_
      clear hP hS locs H
      intro H locs hP _ hS
      rw [show (nI (5 * mn + 4) : Int32).toNatClampNeg = 5 * mn + 4 from pk_cl (5 * mn + 4)] at hP
      replace hP : va_P (dC, dI) classes [oc ra 8 [.int (nI T), .int (nI Ac), .ref (rA 2), .ref (rA 3), .ref (rA 4), .ref (rA 5), .ref (rA 6), .ref (rA 7), .ref (rA 8), .ref (rA 9), .ref (rA 10), .ref (rA 11), .ref (rA 12), .ref (rA 13), .int ir, .ref (rA 15), .ref (rA 16), .ref (rA 17), .ref (rA 18), .int (nI md), .int (nI wd), .ref (rA 21), .ref (rA 22), .ref (rA 23), .int (nI mn), .ref (rA 25), .int (nI CB), .int mr, .ref (rA 28), .ref (rA 29), .ref (rA 30), .ref (rA 31), .ref (rA 32), .ref (rA 33), .ref (rA 34), .ref (rA 35), .int (nI ld), .int (nI gm), .ref (rA 38), .ref (rA 39), .ref (rA 40), .ref (rA 41), .ref (rA 42), .ref (rA 43), .ref (rA 44), .ref (rA 45), .int (nI my), .ref (rA 47)], la (rA 25) (rK9 25) 5 CF, ia (rA 16) (rK9 16) 155 sf, la (rA 21) (rK9 21) 1200000 (vp_updL (vp_updL (vp_updL (vp_updL (vp_updL mf (5 * mn + 0) (CF 0)) (5 * mn + 1) (CF 1)) (5 * mn + 2) (CF 2)) (5 * mn + 3) (CF 3)) (5 * mn + 4) (CF 4)), ia (rA 22) (rK9 22) 240000 (fun i0 => mN (nx i0)), ia (rA 23) (rK9 23) 65536 (fun i0 => mN (fs i0))] H := hP
      refine tp_pc (pc' := 169) (by rfl) ?_
      refine lv_iinc (v := 5) (lv' := [(4, .int 5), (3, .int (nI (slN CF))), (1, .long (hsK CF 5)), (0, .ref ra)]) hx hb d_Ref_wasMet_169 hl (k := 0) rfl (by first | rfl | decide) (by decide) rfl ?_
      clear hl ls
      intro ls hl
      refine lv_goto (tgt := 142) hx hb d_Ref_wasMet_172 (by decide) ?_
      refine tp_pc (pc' := 142) (by rfl) ?_
      refine lv_iload hx hb d_Ref_wasMet_142 (lv_at hl 0 rfl) ?_
      refine lv_iconst (v := 5) hx hb d_Ref_wasMet_144 (by decide) ?_
      refine lv_icmp_ge (tgt := 175) hx hb d_Ref_wasMet_145 (by decide) (fun c_14 => ?_) (fun c_14 => absurd c_14 (by decide))
      refine tp_pc (pc' := 175) (by rfl) ?_
      refine lv_aload_n hx hb d_Ref_wasMet_175 rfl (lv_at hl 3 rfl) ?_
      refine va_get (D := (dC, dI)) (ci := 8) (v := .ref (rA 22)) (C := R_Ref) (T := F_Ref) (N := 48) hx hb hw i_Ref hown hK hP 0 rfl rfl 22 (by decide) (hw _ m_921) (fun _ h9 => h9) rfl d_Ref_wasMet_176 ?_
      refine lv_aload_n hx hb d_Ref_wasMet_179 rfl (lv_at hl 3 rfl) ?_
      refine va_get (D := (dC, dI)) (ci := 8) (v := .int (nI mn)) (C := R_Ref) (T := F_Ref) (N := 48) hx hb hw i_Ref hown hK hP 0 rfl rfl 24 (by decide) (hw _ m_923) (fun _ h9 => h9) rfl d_Ref_wasMet_180 ?_
      refine lv_aload_n hx hb d_Ref_wasMet_183 rfl (lv_at hl 3 rfl) ?_
      refine va_get (D := (dC, dI)) (ci := 8) (v := .ref (rA 23)) (C := R_Ref) (T := F_Ref) (N := 48) hx hb hw i_Ref hown hK hP 0 rfl rfl 23 (by decide) (hw _ m_922) (fun _ h9 => h9) rfl d_Ref_wasMet_184 ?_
      refine lv_iload_n hx hb d_Ref_wasMet_187 rfl (lv_at hl 1 rfl) ?_
      refine va_iald (D := (dC, dI)) hx hb hK hP 5 4 rfl rfl (i := nI (slN CF)) (pk_in (slN CF) 65536 (by omega)) d_Ref_wasMet_188 ?_
      refine tp_i (y := (fun i0 => mN (fs i0)) (slN CF)) (by rw [show (nI (slN CF) : Int32).toNatClampNeg = slN CF from pk_cl (slN CF)]) ?_
      refine tp_i (y := mN (fs (slN CF))) rfl ?_
      refine va_iast (D := (dC, dI)) hx hb hK hP (dd_D hD rfl) hS 4 3 rfl rfl (i := nI mn) (x := mN (fs (slN CF))) (pk_in mn 240000 (by omega)) d_Ref_wasMet_189 ?_
      clear hP hS locs H
      intro H locs hP _ hS
      rw [show (nI mn : Int32).toNatClampNeg = mn from pk_cl mn] at hP
      replace hP : va_P (dC, dI) classes [oc ra 8 [.int (nI T), .int (nI Ac), .ref (rA 2), .ref (rA 3), .ref (rA 4), .ref (rA 5), .ref (rA 6), .ref (rA 7), .ref (rA 8), .ref (rA 9), .ref (rA 10), .ref (rA 11), .ref (rA 12), .ref (rA 13), .int ir, .ref (rA 15), .ref (rA 16), .ref (rA 17), .ref (rA 18), .int (nI md), .int (nI wd), .ref (rA 21), .ref (rA 22), .ref (rA 23), .int (nI mn), .ref (rA 25), .int (nI CB), .int mr, .ref (rA 28), .ref (rA 29), .ref (rA 30), .ref (rA 31), .ref (rA 32), .ref (rA 33), .ref (rA 34), .ref (rA 35), .int (nI ld), .int (nI gm), .ref (rA 38), .ref (rA 39), .ref (rA 40), .ref (rA 41), .ref (rA 42), .ref (rA 43), .ref (rA 44), .ref (rA 45), .int (nI my), .ref (rA 47)], la (rA 25) (rK9 25) 5 CF, ia (rA 16) (rK9 16) 155 sf, la (rA 21) (rK9 21) 1200000 (vp_updL (vp_updL (vp_updL (vp_updL (vp_updL mf (5 * mn + 0) (CF 0)) (5 * mn + 1) (CF 1)) (5 * mn + 2) (CF 2)) (5 * mn + 3) (CF 3)) (5 * mn + 4) (CF 4)), ia (rA 22) (rK9 22) 240000 (upd (fun i0 => mN (nx i0)) mn (mN (fs (slN CF)))), ia (rA 23) (rK9 23) 65536 (fun i0 => mN (fs i0))] H := hP
      refine tp_pc (pc' := 190) (by rfl) ?_
      rw [upd_mN] at hP
      replace hP : va_P (dC, dI) classes [oc ra 8 [.int (nI T), .int (nI Ac), .ref (rA 2), .ref (rA 3), .ref (rA 4), .ref (rA 5), .ref (rA 6), .ref (rA 7), .ref (rA 8), .ref (rA 9), .ref (rA 10), .ref (rA 11), .ref (rA 12), .ref (rA 13), .int ir, .ref (rA 15), .ref (rA 16), .ref (rA 17), .ref (rA 18), .int (nI md), .int (nI wd), .ref (rA 21), .ref (rA 22), .ref (rA 23), .int (nI mn), .ref (rA 25), .int (nI CB), .int mr, .ref (rA 28), .ref (rA 29), .ref (rA 30), .ref (rA 31), .ref (rA 32), .ref (rA 33), .ref (rA 34), .ref (rA 35), .int (nI ld), .int (nI gm), .ref (rA 38), .ref (rA 39), .ref (rA 40), .ref (rA 41), .ref (rA 42), .ref (rA 43), .ref (rA 44), .ref (rA 45), .int (nI my), .ref (rA 47)], la (rA 25) (rK9 25) 5 CF, ia (rA 16) (rK9 16) 155 sf, la (rA 21) (rK9 21) 1200000 (vp_updL (vp_updL (vp_updL (vp_updL (vp_updL mf (5 * mn + 0) (CF 0)) (5 * mn + 1) (CF 1)) (5 * mn + 2) (CF 2)) (5 * mn + 3) (CF 3)) (5 * mn + 4) (CF 4)), ia (rA 22) (rK9 22) 240000 (fun i0 => mN (updN nx mn (fs (slN CF)) i0)), ia (rA 23) (rK9 23) 65536 (fun i0 => mN (fs i0))] H := hP
      refine lv_aload_n hx hb d_Ref_wasMet_190 rfl (lv_at hl 3 rfl) ?_
      refine va_get (D := (dC, dI)) (ci := 8) (v := .ref (rA 23)) (C := R_Ref) (T := F_Ref) (N := 48) hx hb hw i_Ref hown hK hP 0 rfl rfl 23 (by decide) (hw _ m_922) (fun _ h9 => h9) rfl d_Ref_wasMet_191 ?_
      refine lv_iload_n hx hb d_Ref_wasMet_194 rfl (lv_at hl 1 rfl) ?_
      refine lv_aload_n hx hb d_Ref_wasMet_195 rfl (lv_at hl 3 rfl) ?_
      refine va_get (D := (dC, dI)) (ci := 8) (v := .int (nI mn)) (C := R_Ref) (T := F_Ref) (N := 48) hx hb hw i_Ref hown hK hP 0 rfl rfl 24 (by decide) (hw _ m_923) (fun _ h9 => h9) rfl d_Ref_wasMet_196 ?_
      refine va_iast (D := (dC, dI)) hx hb hK hP (dd_D hD rfl) hS 5 4 rfl rfl (i := nI (slN CF)) (x := nI mn) (pk_in (slN CF) 65536 (by omega)) d_Ref_wasMet_199 ?_
      clear hP hS locs H
      intro H locs hP _ hS
      rw [show (nI (slN CF) : Int32).toNatClampNeg = slN CF from pk_cl (slN CF)] at hP
      replace hP : va_P (dC, dI) classes [oc ra 8 [.int (nI T), .int (nI Ac), .ref (rA 2), .ref (rA 3), .ref (rA 4), .ref (rA 5), .ref (rA 6), .ref (rA 7), .ref (rA 8), .ref (rA 9), .ref (rA 10), .ref (rA 11), .ref (rA 12), .ref (rA 13), .int ir, .ref (rA 15), .ref (rA 16), .ref (rA 17), .ref (rA 18), .int (nI md), .int (nI wd), .ref (rA 21), .ref (rA 22), .ref (rA 23), .int (nI mn), .ref (rA 25), .int (nI CB), .int mr, .ref (rA 28), .ref (rA 29), .ref (rA 30), .ref (rA 31), .ref (rA 32), .ref (rA 33), .ref (rA 34), .ref (rA 35), .int (nI ld), .int (nI gm), .ref (rA 38), .ref (rA 39), .ref (rA 40), .ref (rA 41), .ref (rA 42), .ref (rA 43), .ref (rA 44), .ref (rA 45), .int (nI my), .ref (rA 47)], la (rA 25) (rK9 25) 5 CF, ia (rA 16) (rK9 16) 155 sf, la (rA 21) (rK9 21) 1200000 (vp_updL (vp_updL (vp_updL (vp_updL (vp_updL mf (5 * mn + 0) (CF 0)) (5 * mn + 1) (CF 1)) (5 * mn + 2) (CF 2)) (5 * mn + 3) (CF 3)) (5 * mn + 4) (CF 4)), ia (rA 22) (rK9 22) 240000 (fun i0 => mN (updN nx mn (fs (slN CF)) i0)), ia (rA 23) (rK9 23) 65536 (upd (fun i0 => mN (fs i0)) (slN CF) (nI mn))] H := hP
      refine tp_pc (pc' := 200) (by rfl) ?_
      rw [upd_mS] at hP
      replace hP : va_P (dC, dI) classes [oc ra 8 [.int (nI T), .int (nI Ac), .ref (rA 2), .ref (rA 3), .ref (rA 4), .ref (rA 5), .ref (rA 6), .ref (rA 7), .ref (rA 8), .ref (rA 9), .ref (rA 10), .ref (rA 11), .ref (rA 12), .ref (rA 13), .int ir, .ref (rA 15), .ref (rA 16), .ref (rA 17), .ref (rA 18), .int (nI md), .int (nI wd), .ref (rA 21), .ref (rA 22), .ref (rA 23), .int (nI mn), .ref (rA 25), .int (nI CB), .int mr, .ref (rA 28), .ref (rA 29), .ref (rA 30), .ref (rA 31), .ref (rA 32), .ref (rA 33), .ref (rA 34), .ref (rA 35), .int (nI ld), .int (nI gm), .ref (rA 38), .ref (rA 39), .ref (rA 40), .ref (rA 41), .ref (rA 42), .ref (rA 43), .ref (rA 44), .ref (rA 45), .int (nI my), .ref (rA 47)], la (rA 25) (rK9 25) 5 CF, ia (rA 16) (rK9 16) 155 sf, la (rA 21) (rK9 21) 1200000 (vp_updL (vp_updL (vp_updL (vp_updL (vp_updL mf (5 * mn + 0) (CF 0)) (5 * mn + 1) (CF 1)) (5 * mn + 2) (CF 2)) (5 * mn + 3) (CF 3)) (5 * mn + 4) (CF 4)), ia (rA 22) (rK9 22) 240000 (fun i0 => mN (updN nx mn (fs (slN CF)) i0)), ia (rA 23) (rK9 23) 65536 (fun i0 => mN (updN fs (slN CF) (mn + 1) i0))] H := hP
      refine lv_aload_n hx hb d_Ref_wasMet_200 rfl (lv_at hl 3 rfl) ?_
      refine lv_dup hx hb d_Ref_wasMet_201 rfl ?_
      refine va_get (D := (dC, dI)) (ci := 8) (v := .int (nI mn)) (C := R_Ref) (T := F_Ref) (N := 48) hx hb hw i_Ref hown hK hP 0 rfl rfl 24 (by decide) (hw _ m_923) (fun _ h9 => h9) rfl d_Ref_wasMet_202 ?_
      refine lv_iconst (v := 1) hx hb d_Ref_wasMet_205 (by decide) ?_
      refine lv_iadd hx hb d_Ref_wasMet_206 ?_
      refine tp_i (y := nI (mn + 1)) (by exact nI_add mn 1) ?_
      refine va_put (D := (dC, dI)) (ci := 8) (v := .int (nI (mn + 1))) (ty := .int) (C := R_Ref) (T := F_Ref) (N := 48) hx hb hw i_Ref t_Ref t_Ref_ok n_Ref hown hK hP (dd_D hD rfl) hS 0 rfl rfl 24 (by decide) (hw _ m_923) (fun _ h9 => h9) rfl (by decide +kernel) rfl rfl (Nat.le_of_ble_eq_true rfl) d_Ref_wasMet_207 ?_
      clear hP hS locs H
      intro H locs (hP : va_P (dC, dI) classes [oc ra 8 [.int (nI T), .int (nI Ac), .ref (rA 2), .ref (rA 3), .ref (rA 4), .ref (rA 5), .ref (rA 6), .ref (rA 7), .ref (rA 8), .ref (rA 9), .ref (rA 10), .ref (rA 11), .ref (rA 12), .ref (rA 13), .int ir, .ref (rA 15), .ref (rA 16), .ref (rA 17), .ref (rA 18), .int (nI md), .int (nI wd), .ref (rA 21), .ref (rA 22), .ref (rA 23), .int (nI (mn + 1)), .ref (rA 25), .int (nI CB), .int mr, .ref (rA 28), .ref (rA 29), .ref (rA 30), .ref (rA 31), .ref (rA 32), .ref (rA 33), .ref (rA 34), .ref (rA 35), .int (nI ld), .int (nI gm), .ref (rA 38), .ref (rA 39), .ref (rA 40), .ref (rA 41), .ref (rA 42), .ref (rA 43), .ref (rA 44), .ref (rA 45), .int (nI my), .ref (rA 47)], la (rA 25) (rK9 25) 5 CF, ia (rA 16) (rK9 16) 155 sf, la (rA 21) (rK9 21) 1200000 (vp_updL (vp_updL (vp_updL (vp_updL (vp_updL mf (5 * mn + 0) (CF 0)) (5 * mn + 1) (CF 1)) (5 * mn + 2) (CF 2)) (5 * mn + 3) (CF 3)) (5 * mn + 4) (CF 4)), ia (rA 22) (rK9 22) 240000 (fun i0 => mN (updN nx mn (fs (slN CF)) i0)), ia (rA 23) (rK9 23) 65536 (fun i0 => mN (updN fs (slN CF) (mn + 1) i0))] H) _ hS
      refine tp_pc (pc' := 210) (by rfl) ?_
      refine lv_iconst (v := 0) hx hb d_Ref_wasMet_210 (by decide) ?_
      have hln : (adM M (c5 CF)).length = mn + 1 := by rw [hads, List.length_append, hmn]; rfl
      replace hP : va_P (dC, dI) classes [oc ra 8 [.int (nI T), .int (nI Ac), .ref (rA 2), .ref (rA 3), .ref (rA 4), .ref (rA 5), .ref (rA 6), .ref (rA 7), .ref (rA 8), .ref (rA 9), .ref (rA 10), .ref (rA 11), .ref (rA 12), .ref (rA 13), .int ir, .ref (rA 15), .ref (rA 16), .ref (rA 17), .ref (rA 18), .int (nI md), .int (nI wd), .ref (rA 21), .ref (rA 22), .ref (rA 23), .int (nI ((adM M (c5 CF)).length)), .ref (rA 25), .int (nI CB), .int mr, .ref (rA 28), .ref (rA 29), .ref (rA 30), .ref (rA 31), .ref (rA 32), .ref (rA 33), .ref (rA 34), .ref (rA 35), .int (nI ld), .int (nI gm), .ref (rA 38), .ref (rA 39), .ref (rA 40), .ref (rA 41), .ref (rA 42), .ref (rA 43), .ref (rA 44), .ref (rA 45), .int (nI my), .ref (rA 47)], la (rA 25) (rK9 25) 5 CF, ia (rA 16) (rK9 16) 155 sf, la (rA 21) (rK9 21) 1200000 (vp_updL (vp_updL (vp_updL (vp_updL (vp_updL mf (5 * mn + 0) (CF 0)) (5 * mn + 1) (CF 1)) (5 * mn + 2) (CF 2)) (5 * mn + 3) (CF 3)) (5 * mn + 4) (CF 4)), ia (rA 22) (rK9 22) 240000 (fun i0 => mN ((updN nx mn (fs (slN CF))) i0)), ia (rA 23) (rK9 23) 65536 (fun i0 => mN ((updN fs (slN CF) (mn + 1)) i0))] H := by rw [hln]; exact hP
      have hk1 : ∀ k, k < 5 → (vp_updL (vp_updL (vp_updL (vp_updL (vp_updL mf (5 * mn + 0) (CF 0)) (5 * mn + 1) (CF 1)) (5 * mn + 2) (CF 2)) (5 * mn + 3) (CF 3)) (5 * mn + 4) (CF 4)) (5 * M.length + k) = CF k := fun k hk => by rw [← hmn]; rcases (by omega : k = 0 ∨ k = 1 ∨ k = 2 ∨ k = 3 ∨ k = 4) with rfl | rfl | rfl | rfl | rfl <;> simp [vp_updL]
      have hk2 : ∀ i, i < 5 * M.length → (vp_updL (vp_updL (vp_updL (vp_updL (vp_updL mf (5 * mn + 0) (CF 0)) (5 * mn + 1) (CF 1)) (5 * mn + 2) (CF 2)) (5 * mn + 3) (CF 3)) (5 * mn + 4) (CF 4)) i = mf i := fun i hi => by rw [← hmn] at hi; simp only [vp_updL]; rw [if_neg (by omega), if_neg (by omega), if_neg (by omega), if_neg (by omega), if_neg (by omega)]
      have hMn := okM_new hM hk1 hk2
      rw [← hads, ← hmn] at hMn
      obtain ⟨hP9, hD9, -⟩ := cut3 (wc := [oc ra 8 [.int (nI T), .int (nI Ac), .ref (rA 2), .ref (rA 3), .ref (rA 4), .ref (rA 5), .ref (rA 6), .ref (rA 7), .ref (rA 8), .ref (rA 9), .ref (rA 10), .ref (rA 11), .ref (rA 12), .ref (rA 13), .int ir, .ref (rA 15), .ref (rA 16), .ref (rA 17), .ref (rA 18), .int (nI md), .int (nI wd), .ref (rA 21), .ref (rA 22), .ref (rA 23), .int (nI ((adM M (c5 CF)).length)), .ref (rA 25), .int (nI CB), .int mr, .ref (rA 28), .ref (rA 29), .ref (rA 30), .ref (rA 31), .ref (rA 32), .ref (rA 33), .ref (rA 34), .ref (rA 35), .int (nI ld), .int (nI gm), .ref (rA 38), .ref (rA 39), .ref (rA 40), .ref (rA 41), .ref (rA 42), .ref (rA 43), .ref (rA 44), .ref (rA 45), .int (nI my), .ref (rA 47)], la (rA 25) (rK9 25) 5 CF, ia (rA 16) (rK9 16) 155 sf, la (rA 21) (rK9 21) 1200000 (vp_updL (vp_updL (vp_updL (vp_updL (vp_updL mf (5 * mn + 0) (CF 0)) (5 * mn + 1) (CF 1)) (5 * mn + 2) (CF 2)) (5 * mn + 3) (CF 3)) (5 * mn + 4) (CF 4)), ia (rA 22) (rK9 22) 240000 (fun i0 => mN ((updN nx mn (fs (slN CF))) i0)), ia (rA 23) (rK9 23) 65536 (fun i0 => mN ((updN fs (slN CF) (mn + 1)) i0))]) hP hD rfl hS hA [0, 1, 2, 3, 4, 5] (by decide +kernel) rfl
      have hK9 := hK.sub (tys' := []) [] rfl
      refine W.widen (k := 0) (n := 0) (by exact Nat.le_of_ble_eq_true rfl) (by exact Nat.le_of_ble_eq_true rfl) ?_
      exact W.zret (v := 0) (ty := .boolean) hx hb hr (by decide) (fun t9 ht9 hW => ⟨⟨0, (), rfl, by rw [if_neg hno], _, _, _, hMn, by rw [ht9]; exact hP9, va_K.moved hW.alike hK9, hD9⟩, hS.F ht9⟩) hS.2.2 d_Ref_wasMet_211
  · skip
    obtain ⟨q0, rfl⟩ : ∃ q0, mu = q0 + 1 := ⟨mu - 1, by omega⟩
    replace hl : lv_has ls 7 [(4, .int (nI q0)), (3, .int (nI (slN CF))), (1, .long (hsK CF 5)), (0, .ref ra)] := by rw [mN_s (Nat.succ_ne_zero q0)] at hl; exact hl
    have hq0 : q0 < M.length := u1
    have hsq : sl5 (at5 M q0) = slN CF := u2 (Nat.succ_ne_zero q0)
    have hr0 := hM.1 q0 hq0
    refine lv_iload hx hb d_Ref_wasMet_53 (lv_at hl 0 rfl) ?_
    refine lv_if_lt (tgt := 130) hx hb d_Ref_wasMet_55 (by decide) (fun c9 => absurd c9 (nI_pos (by omega))) (fun c9 => ?_)
    refine tp_pc (pc' := 58) (by rfl) ?_
    refine lv_iconst (v := 1) hx hb d_Ref_wasMet_58 (by decide) ?_
    refine lv_istore (lv' := [(5, .int 1), (4, .int (nI q0)), (3, .int (nI (slN CF))), (1, .long (hsK CF 5)), (0, .ref ra)]) hx hb d_Ref_wasMet_59 hl (by decide) rfl ?_
    clear hl ls
    intro ls hl
    refine lv_iconst (v := 0) hx hb d_Ref_wasMet_61 (by decide) ?_
    refine lv_istore (lv' := [(6, .int 0), (5, .int 1), (4, .int (nI q0)), (3, .int (nI (slN CF))), (1, .long (hsK CF 5)), (0, .ref ra)]) hx hb d_Ref_wasMet_62 hl (by decide) rfl ?_
    clear hl ls
    intro ls hl
    refine lv_iload hx hb d_Ref_wasMet_64 (lv_at hl 0 rfl) ?_
    refine lv_iconst (v := 5) hx hb d_Ref_wasMet_66 (by decide) ?_
    refine lv_icmp_ge (tgt := 111) hx hb d_Ref_wasMet_67 (by decide) (fun c_15 => absurd c_15 (by decide)) (fun c_15 => ?_)
    refine tp_pc (pc' := 70) (by rfl) ?_
    refine lv_iload hx hb d_Ref_wasMet_70 (lv_at hl 1 rfl) ?_
    refine lv_if_eq (tgt := 111) hx hb d_Ref_wasMet_72 (by decide) (fun c_16 => absurd c_16 (by decide)) (fun c_16 => ?_)
    refine tp_pc (pc' := 75) (by rfl) ?_
    refine lv_aload_n hx hb d_Ref_wasMet_75 rfl (lv_at hl 5 rfl) ?_
    refine va_get (D := (dC, dI)) (ci := 8) (v := .ref (rA 21)) (C := R_Ref) (T := F_Ref) (N := 48) hx hb hw i_Ref hown hK hP 0 rfl rfl 21 (by decide) (hw _ m_920) (fun _ h9 => h9) rfl d_Ref_wasMet_76 ?_
    refine lv_iconst (v := 5) hx hb d_Ref_wasMet_79 (by decide) ?_
    refine lv_iload hx hb d_Ref_wasMet_80 (lv_at hl 2 rfl) ?_
    refine lv_imul hx hb d_Ref_wasMet_82 ?_
    refine tp_i (y := nI (5 * q0)) (by exact pk_mul 5 q0) ?_
    refine lv_iload hx hb d_Ref_wasMet_83 (lv_at hl 0 rfl) ?_
    refine lv_iadd hx hb d_Ref_wasMet_85 ?_
    refine tp_i (y := nI (5 * q0 + 0)) (by exact nI_add (5 * q0) 0) ?_
    refine va_lald (D := (dC, dI)) hx hb hK hP 3 2 rfl rfl (i := nI (5 * q0 + 0)) (pk_in (5 * q0 + 0) 1200000 (by omega)) d_Ref_wasMet_86 ?_
    refine tp_l (y := mf (5 * q0 + 0)) (by rw [show (nI (5 * q0 + 0) : Int32).toNatClampNeg = 5 * q0 + 0 from pk_cl (5 * q0 + 0)]) ?_
    refine lv_aload_n hx hb d_Ref_wasMet_87 rfl (lv_at hl 5 rfl) ?_
    refine va_get (D := (dC, dI)) (ci := 8) (v := .ref (rA 25)) (C := R_Ref) (T := F_Ref) (N := 48) hx hb hw i_Ref hown hK hP 0 rfl rfl 25 (by decide) (hw _ m_924) (fun _ h9 => h9) rfl d_Ref_wasMet_88 ?_
    refine lv_iload hx hb d_Ref_wasMet_91 (lv_at hl 0 rfl) ?_
    refine va_lald (D := (dC, dI)) hx hb hK hP 1 0 rfl rfl (i := 0) (pk_in 0 5 (by omega)) d_Ref_wasMet_93 ?_
    refine tp_l (y := CF 0) (by rw [show (0 : Int32).toNatClampNeg = 0 from pk_cl 0]) ?_
    refine W.lcmp hx hb d_Ref_wasMet_94 ?_
    refine lv_topi (fun z_17 hz_17 => ?_)
    refine lv_if_ne (tgt := 102) hx hb d_Ref_wasMet_95 (by decide) (fun c0 => ?_) (fun c0 => ?_)
    · skip
      have hne : at5 M q0 ≠ c5 CF := fun q => c0 ((lc0 hz_17).mpr (by rw [hr0 0 (by decide), q]; rfl))
      refine tp_pc (pc' := 102) (by rfl) ?_
      refine lv_iconst (v := 0) hx hb d_Ref_wasMet_102 (by decide) ?_
      refine lv_istore (lv' := [(5, .int 0), (6, .int 0), (4, .int (nI q0)), (3, .int (nI (slN CF))), (1, .long (hsK CF 5)), (0, .ref ra)]) hx hb d_Ref_wasMet_103 hl (by decide) rfl ?_
      clear hl ls
      intro ls hl
      refine lv_iinc (v := 1) (lv' := [(6, .int 1), (5, .int 0), (4, .int (nI q0)), (3, .int (nI (slN CF))), (1, .long (hsK CF 5)), (0, .ref ra)]) hx hb d_Ref_wasMet_105 hl (k := 1) rfl (by first | rfl | decide) (by decide) rfl ?_
      clear hl ls
      intro ls hl
      refine lv_goto (tgt := 64) hx hb d_Ref_wasMet_108 (by decide) ?_
      refine tp_pc (pc' := 64) (by rfl) ?_
      refine lv_iload hx hb d_Ref_wasMet_64 (lv_at hl 0 rfl) ?_
      refine lv_iconst (v := 5) hx hb d_Ref_wasMet_66 (by decide) ?_
      refine lv_icmp_ge (tgt := 111) hx hb d_Ref_wasMet_67 (by decide) (fun c_18 => absurd c_18 (by decide)) (fun c_18 => ?_)
      refine tp_pc (pc' := 70) (by rfl) ?_
      refine lv_iload hx hb d_Ref_wasMet_70 (lv_at hl 1 rfl) ?_
      refine lv_if_eq (tgt := 111) hx hb d_Ref_wasMet_72 (by decide) (fun c_19 => ?_) (fun c_19 => absurd c_19 (by decide))
      refine tp_pc (pc' := 111) (by rfl) ?_
      refine lv_iload hx hb d_Ref_wasMet_111 (lv_at hl 1 rfl) ?_
      refine lv_if_eq (tgt := 118) hx hb d_Ref_wasMet_113 (by decide) (fun c_20 => ?_) (fun c_20 => absurd c_20 (by decide))
      refine tp_pc (pc' := 118) (by rfl) ?_
      refine lv_aload_n hx hb d_Ref_wasMet_118 rfl (lv_at hl 5 rfl) ?_
      refine va_get (D := (dC, dI)) (ci := 8) (v := .ref (rA 22)) (C := R_Ref) (T := F_Ref) (N := 48) hx hb hw i_Ref hown hK hP 0 rfl rfl 22 (by decide) (hw _ m_921) (fun _ h9 => h9) rfl d_Ref_wasMet_119 ?_
      refine lv_iload hx hb d_Ref_wasMet_122 (lv_at hl 2 rfl) ?_
      refine va_iald (D := (dC, dI)) hx hb hK hP 4 3 rfl rfl (i := nI q0) (pk_in q0 240000 (by omega)) d_Ref_wasMet_124 ?_
      refine tp_i (y := (fun i0 => mN (nx i0)) q0) (by rw [show (nI q0 : Int32).toNatClampNeg = q0 from pk_cl q0]) ?_
      refine tp_i (y := mN (nx q0)) rfl ?_
      refine lv_istore (lv' := [(4, .int (mN (nx q0))), (6, .int 1), (5, .int 0), (3, .int (nI (slN CF))), (1, .long (hsK CF 5)), (0, .ref ra)]) hx hb d_Ref_wasMet_125 hl (by decide) rfl ?_
      clear hl ls
      intro ls hl
      refine lv_goto (tgt := 53) hx hb d_Ref_wasMet_127 (by decide) ?_
      refine tp_pc (pc' := 53) (by rfl) ?_
      have hnx := hM.2.2 q0 hq0
      rw [hsq] at hnx
      exact ih (nx q0) (by rw [hnx]; exact Nat.lt_succ_of_le (prv_le q0)) _ _ _ ⟨_, rfl, by rw [hnx]; have := prv_le (sl := fun m => sl5 (at5 M m)) (h := slN CF) q0; omega, by rw [hnx]; exact prv_sl q0, fun m q1 q2 e => by rw [hnx] at q1; by_cases g1 : m < q0; (exact absurd (show sl5 (at5 M m) = slN CF from by rw [e]; exact sl5_c5 CF) (prv_no (sl := fun m => sl5 (at5 M m)) (h := slN CF) q0 m q1 g1)); (by_cases g2 : m = q0; (exact hne (by rw [← g2]; exact e)); (exact u3 m (by omega) q2 e)), hP, hS, lv_sub hl [0, 3, 4, 5] rfl⟩
    · skip
      have e0 : cg (at5 M q0) 0 = CF 0 := (hr0 0 (by decide)).symm.trans ((lc0 hz_17).mp c0)
      refine tp_pc (pc' := 98) (by rfl) ?_
      refine lv_iconst (v := 1) hx hb d_Ref_wasMet_98 (by decide) ?_
      refine lv_goto (tgt := 103) hx hb d_Ref_wasMet_99 (by decide) ?_
      refine tp_pc (pc' := 103) (by rfl) ?_
      refine lv_istore (lv' := [(5, .int 1), (6, .int 0), (4, .int (nI q0)), (3, .int (nI (slN CF))), (1, .long (hsK CF 5)), (0, .ref ra)]) hx hb d_Ref_wasMet_103 hl (by decide) rfl ?_
      clear hl ls
      intro ls hl
      refine lv_iinc (v := 1) (lv' := [(6, .int 1), (5, .int 1), (4, .int (nI q0)), (3, .int (nI (slN CF))), (1, .long (hsK CF 5)), (0, .ref ra)]) hx hb d_Ref_wasMet_105 hl (k := 1) rfl (by first | rfl | decide) (by decide) rfl ?_
      clear hl ls
      intro ls hl
      refine lv_goto (tgt := 64) hx hb d_Ref_wasMet_108 (by decide) ?_
      refine tp_pc (pc' := 64) (by rfl) ?_
      refine lv_iload hx hb d_Ref_wasMet_64 (lv_at hl 0 rfl) ?_
      refine lv_iconst (v := 5) hx hb d_Ref_wasMet_66 (by decide) ?_
      refine lv_icmp_ge (tgt := 111) hx hb d_Ref_wasMet_67 (by decide) (fun c_21 => absurd c_21 (by decide)) (fun c_21 => ?_)
      refine tp_pc (pc' := 70) (by rfl) ?_
      refine lv_iload hx hb d_Ref_wasMet_70 (lv_at hl 1 rfl) ?_
      refine lv_if_eq (tgt := 111) hx hb d_Ref_wasMet_72 (by decide) (fun c_22 => absurd c_22 (by decide)) (fun c_22 => ?_)
      refine tp_pc (pc' := 75) (by rfl) ?_
      refine lv_aload_n hx hb d_Ref_wasMet_75 rfl (lv_at hl 5 rfl) ?_
      refine va_get (D := (dC, dI)) (ci := 8) (v := .ref (rA 21)) (C := R_Ref) (T := F_Ref) (N := 48) hx hb hw i_Ref hown hK hP 0 rfl rfl 21 (by decide) (hw _ m_920) (fun _ h9 => h9) rfl d_Ref_wasMet_76 ?_
      refine lv_iconst (v := 5) hx hb d_Ref_wasMet_79 (by decide) ?_
      refine lv_iload hx hb d_Ref_wasMet_80 (lv_at hl 2 rfl) ?_
      refine lv_imul hx hb d_Ref_wasMet_82 ?_
      refine tp_i (y := nI (5 * q0)) (by exact pk_mul 5 q0) ?_
      refine lv_iload hx hb d_Ref_wasMet_83 (lv_at hl 0 rfl) ?_
      refine lv_iadd hx hb d_Ref_wasMet_85 ?_
      refine tp_i (y := nI (5 * q0 + 1)) (by exact nI_add (5 * q0) 1) ?_
      refine va_lald (D := (dC, dI)) hx hb hK hP 3 2 rfl rfl (i := nI (5 * q0 + 1)) (pk_in (5 * q0 + 1) 1200000 (by omega)) d_Ref_wasMet_86 ?_
      refine tp_l (y := mf (5 * q0 + 1)) (by rw [show (nI (5 * q0 + 1) : Int32).toNatClampNeg = 5 * q0 + 1 from pk_cl (5 * q0 + 1)]) ?_
      refine lv_aload_n hx hb d_Ref_wasMet_87 rfl (lv_at hl 5 rfl) ?_
      refine va_get (D := (dC, dI)) (ci := 8) (v := .ref (rA 25)) (C := R_Ref) (T := F_Ref) (N := 48) hx hb hw i_Ref hown hK hP 0 rfl rfl 25 (by decide) (hw _ m_924) (fun _ h9 => h9) rfl d_Ref_wasMet_88 ?_
      refine lv_iload hx hb d_Ref_wasMet_91 (lv_at hl 0 rfl) ?_
      refine va_lald (D := (dC, dI)) hx hb hK hP 1 0 rfl rfl (i := 1) (pk_in 1 5 (by omega)) d_Ref_wasMet_93 ?_
      refine tp_l (y := CF 1) (by rw [show (1 : Int32).toNatClampNeg = 1 from pk_cl 1]) ?_
      refine W.lcmp hx hb d_Ref_wasMet_94 ?_
      refine lv_topi (fun z_23 hz_23 => ?_)
      refine lv_if_ne (tgt := 102) hx hb d_Ref_wasMet_95 (by decide) (fun c1 => ?_) (fun c1 => ?_)
      · skip
        have hne : at5 M q0 ≠ c5 CF := fun q => c1 ((lc0 hz_23).mpr (by rw [hr0 1 (by decide), q]; rfl))
        refine tp_pc (pc' := 102) (by rfl) ?_
        refine lv_iconst (v := 0) hx hb d_Ref_wasMet_102 (by decide) ?_
        refine lv_istore (lv' := [(5, .int 0), (6, .int 1), (4, .int (nI q0)), (3, .int (nI (slN CF))), (1, .long (hsK CF 5)), (0, .ref ra)]) hx hb d_Ref_wasMet_103 hl (by decide) rfl ?_
        clear hl ls
        intro ls hl
        refine lv_iinc (v := 2) (lv' := [(6, .int 2), (5, .int 0), (4, .int (nI q0)), (3, .int (nI (slN CF))), (1, .long (hsK CF 5)), (0, .ref ra)]) hx hb d_Ref_wasMet_105 hl (k := 1) rfl (by first | rfl | decide) (by decide) rfl ?_
        clear hl ls
        intro ls hl
        refine lv_goto (tgt := 64) hx hb d_Ref_wasMet_108 (by decide) ?_
        refine tp_pc (pc' := 64) (by rfl) ?_
        refine lv_iload hx hb d_Ref_wasMet_64 (lv_at hl 0 rfl) ?_
        refine lv_iconst (v := 5) hx hb d_Ref_wasMet_66 (by decide) ?_
        refine lv_icmp_ge (tgt := 111) hx hb d_Ref_wasMet_67 (by decide) (fun c_24 => absurd c_24 (by decide)) (fun c_24 => ?_)
        refine tp_pc (pc' := 70) (by rfl) ?_
        refine lv_iload hx hb d_Ref_wasMet_70 (lv_at hl 1 rfl) ?_
        refine lv_if_eq (tgt := 111) hx hb d_Ref_wasMet_72 (by decide) (fun c_25 => ?_) (fun c_25 => absurd c_25 (by decide))
        refine tp_pc (pc' := 111) (by rfl) ?_
        refine lv_iload hx hb d_Ref_wasMet_111 (lv_at hl 1 rfl) ?_
        refine lv_if_eq (tgt := 118) hx hb d_Ref_wasMet_113 (by decide) (fun c_26 => ?_) (fun c_26 => absurd c_26 (by decide))
        refine tp_pc (pc' := 118) (by rfl) ?_
        refine lv_aload_n hx hb d_Ref_wasMet_118 rfl (lv_at hl 5 rfl) ?_
        refine va_get (D := (dC, dI)) (ci := 8) (v := .ref (rA 22)) (C := R_Ref) (T := F_Ref) (N := 48) hx hb hw i_Ref hown hK hP 0 rfl rfl 22 (by decide) (hw _ m_921) (fun _ h9 => h9) rfl d_Ref_wasMet_119 ?_
        refine lv_iload hx hb d_Ref_wasMet_122 (lv_at hl 2 rfl) ?_
        refine va_iald (D := (dC, dI)) hx hb hK hP 4 3 rfl rfl (i := nI q0) (pk_in q0 240000 (by omega)) d_Ref_wasMet_124 ?_
        refine tp_i (y := (fun i0 => mN (nx i0)) q0) (by rw [show (nI q0 : Int32).toNatClampNeg = q0 from pk_cl q0]) ?_
        refine tp_i (y := mN (nx q0)) rfl ?_
        refine lv_istore (lv' := [(4, .int (mN (nx q0))), (6, .int 2), (5, .int 0), (3, .int (nI (slN CF))), (1, .long (hsK CF 5)), (0, .ref ra)]) hx hb d_Ref_wasMet_125 hl (by decide) rfl ?_
        clear hl ls
        intro ls hl
        refine lv_goto (tgt := 53) hx hb d_Ref_wasMet_127 (by decide) ?_
        refine tp_pc (pc' := 53) (by rfl) ?_
        have hnx := hM.2.2 q0 hq0
        rw [hsq] at hnx
        exact ih (nx q0) (by rw [hnx]; exact Nat.lt_succ_of_le (prv_le q0)) _ _ _ ⟨_, rfl, by rw [hnx]; have := prv_le (sl := fun m => sl5 (at5 M m)) (h := slN CF) q0; omega, by rw [hnx]; exact prv_sl q0, fun m q1 q2 e => by rw [hnx] at q1; by_cases g1 : m < q0; (exact absurd (show sl5 (at5 M m) = slN CF from by rw [e]; exact sl5_c5 CF) (prv_no (sl := fun m => sl5 (at5 M m)) (h := slN CF) q0 m q1 g1)); (by_cases g2 : m = q0; (exact hne (by rw [← g2]; exact e)); (exact u3 m (by omega) q2 e)), hP, hS, lv_sub hl [0, 3, 4, 5] rfl⟩
      · skip
        have e1 : cg (at5 M q0) 1 = CF 1 := (hr0 1 (by decide)).symm.trans ((lc0 hz_23).mp c1)
        refine tp_pc (pc' := 98) (by rfl) ?_
        refine lv_iconst (v := 1) hx hb d_Ref_wasMet_98 (by decide) ?_
        refine lv_goto (tgt := 103) hx hb d_Ref_wasMet_99 (by decide) ?_
        refine tp_pc (pc' := 103) (by rfl) ?_
        refine lv_istore (lv' := [(5, .int 1), (6, .int 1), (4, .int (nI q0)), (3, .int (nI (slN CF))), (1, .long (hsK CF 5)), (0, .ref ra)]) hx hb d_Ref_wasMet_103 hl (by decide) rfl ?_
        clear hl ls
        intro ls hl
        refine lv_iinc (v := 2) (lv' := [(6, .int 2), (5, .int 1), (4, .int (nI q0)), (3, .int (nI (slN CF))), (1, .long (hsK CF 5)), (0, .ref ra)]) hx hb d_Ref_wasMet_105 hl (k := 1) rfl (by first | rfl | decide) (by decide) rfl ?_
        clear hl ls
        intro ls hl
        refine lv_goto (tgt := 64) hx hb d_Ref_wasMet_108 (by decide) ?_
        refine tp_pc (pc' := 64) (by rfl) ?_
        refine lv_iload hx hb d_Ref_wasMet_64 (lv_at hl 0 rfl) ?_
        refine lv_iconst (v := 5) hx hb d_Ref_wasMet_66 (by decide) ?_
        refine lv_icmp_ge (tgt := 111) hx hb d_Ref_wasMet_67 (by decide) (fun c_27 => absurd c_27 (by decide)) (fun c_27 => ?_)
        refine tp_pc (pc' := 70) (by rfl) ?_
        refine lv_iload hx hb d_Ref_wasMet_70 (lv_at hl 1 rfl) ?_
        refine lv_if_eq (tgt := 111) hx hb d_Ref_wasMet_72 (by decide) (fun c_28 => absurd c_28 (by decide)) (fun c_28 => ?_)
        refine tp_pc (pc' := 75) (by rfl) ?_
        refine lv_aload_n hx hb d_Ref_wasMet_75 rfl (lv_at hl 5 rfl) ?_
        refine va_get (D := (dC, dI)) (ci := 8) (v := .ref (rA 21)) (C := R_Ref) (T := F_Ref) (N := 48) hx hb hw i_Ref hown hK hP 0 rfl rfl 21 (by decide) (hw _ m_920) (fun _ h9 => h9) rfl d_Ref_wasMet_76 ?_
        refine lv_iconst (v := 5) hx hb d_Ref_wasMet_79 (by decide) ?_
        refine lv_iload hx hb d_Ref_wasMet_80 (lv_at hl 2 rfl) ?_
        refine lv_imul hx hb d_Ref_wasMet_82 ?_
        refine tp_i (y := nI (5 * q0)) (by exact pk_mul 5 q0) ?_
        refine lv_iload hx hb d_Ref_wasMet_83 (lv_at hl 0 rfl) ?_
        refine lv_iadd hx hb d_Ref_wasMet_85 ?_
        refine tp_i (y := nI (5 * q0 + 2)) (by exact nI_add (5 * q0) 2) ?_
        refine va_lald (D := (dC, dI)) hx hb hK hP 3 2 rfl rfl (i := nI (5 * q0 + 2)) (pk_in (5 * q0 + 2) 1200000 (by omega)) d_Ref_wasMet_86 ?_
        refine tp_l (y := mf (5 * q0 + 2)) (by rw [show (nI (5 * q0 + 2) : Int32).toNatClampNeg = 5 * q0 + 2 from pk_cl (5 * q0 + 2)]) ?_
        refine lv_aload_n hx hb d_Ref_wasMet_87 rfl (lv_at hl 5 rfl) ?_
        refine va_get (D := (dC, dI)) (ci := 8) (v := .ref (rA 25)) (C := R_Ref) (T := F_Ref) (N := 48) hx hb hw i_Ref hown hK hP 0 rfl rfl 25 (by decide) (hw _ m_924) (fun _ h9 => h9) rfl d_Ref_wasMet_88 ?_
        refine lv_iload hx hb d_Ref_wasMet_91 (lv_at hl 0 rfl) ?_
        refine va_lald (D := (dC, dI)) hx hb hK hP 1 0 rfl rfl (i := 2) (pk_in 2 5 (by omega)) d_Ref_wasMet_93 ?_
        refine tp_l (y := CF 2) (by rw [show (2 : Int32).toNatClampNeg = 2 from pk_cl 2]) ?_
        refine W.lcmp hx hb d_Ref_wasMet_94 ?_
        refine lv_topi (fun z_29 hz_29 => ?_)
        refine lv_if_ne (tgt := 102) hx hb d_Ref_wasMet_95 (by decide) (fun c2 => ?_) (fun c2 => ?_)
        · skip
          have hne : at5 M q0 ≠ c5 CF := fun q => c2 ((lc0 hz_29).mpr (by rw [hr0 2 (by decide), q]; rfl))
          refine tp_pc (pc' := 102) (by rfl) ?_
          refine lv_iconst (v := 0) hx hb d_Ref_wasMet_102 (by decide) ?_
          refine lv_istore (lv' := [(5, .int 0), (6, .int 2), (4, .int (nI q0)), (3, .int (nI (slN CF))), (1, .long (hsK CF 5)), (0, .ref ra)]) hx hb d_Ref_wasMet_103 hl (by decide) rfl ?_
          clear hl ls
          intro ls hl
          refine lv_iinc (v := 3) (lv' := [(6, .int 3), (5, .int 0), (4, .int (nI q0)), (3, .int (nI (slN CF))), (1, .long (hsK CF 5)), (0, .ref ra)]) hx hb d_Ref_wasMet_105 hl (k := 1) rfl (by first | rfl | decide) (by decide) rfl ?_
          clear hl ls
          intro ls hl
          refine lv_goto (tgt := 64) hx hb d_Ref_wasMet_108 (by decide) ?_
          refine tp_pc (pc' := 64) (by rfl) ?_
          refine lv_iload hx hb d_Ref_wasMet_64 (lv_at hl 0 rfl) ?_
          refine lv_iconst (v := 5) hx hb d_Ref_wasMet_66 (by decide) ?_
          refine lv_icmp_ge (tgt := 111) hx hb d_Ref_wasMet_67 (by decide) (fun c_30 => absurd c_30 (by decide)) (fun c_30 => ?_)
          refine tp_pc (pc' := 70) (by rfl) ?_
          refine lv_iload hx hb d_Ref_wasMet_70 (lv_at hl 1 rfl) ?_
          refine lv_if_eq (tgt := 111) hx hb d_Ref_wasMet_72 (by decide) (fun c_31 => ?_) (fun c_31 => absurd c_31 (by decide))
          refine tp_pc (pc' := 111) (by rfl) ?_
          refine lv_iload hx hb d_Ref_wasMet_111 (lv_at hl 1 rfl) ?_
          refine lv_if_eq (tgt := 118) hx hb d_Ref_wasMet_113 (by decide) (fun c_32 => ?_) (fun c_32 => absurd c_32 (by decide))
          refine tp_pc (pc' := 118) (by rfl) ?_
          refine lv_aload_n hx hb d_Ref_wasMet_118 rfl (lv_at hl 5 rfl) ?_
          refine va_get (D := (dC, dI)) (ci := 8) (v := .ref (rA 22)) (C := R_Ref) (T := F_Ref) (N := 48) hx hb hw i_Ref hown hK hP 0 rfl rfl 22 (by decide) (hw _ m_921) (fun _ h9 => h9) rfl d_Ref_wasMet_119 ?_
          refine lv_iload hx hb d_Ref_wasMet_122 (lv_at hl 2 rfl) ?_
          refine va_iald (D := (dC, dI)) hx hb hK hP 4 3 rfl rfl (i := nI q0) (pk_in q0 240000 (by omega)) d_Ref_wasMet_124 ?_
          refine tp_i (y := (fun i0 => mN (nx i0)) q0) (by rw [show (nI q0 : Int32).toNatClampNeg = q0 from pk_cl q0]) ?_
          refine tp_i (y := mN (nx q0)) rfl ?_
          refine lv_istore (lv' := [(4, .int (mN (nx q0))), (6, .int 3), (5, .int 0), (3, .int (nI (slN CF))), (1, .long (hsK CF 5)), (0, .ref ra)]) hx hb d_Ref_wasMet_125 hl (by decide) rfl ?_
          clear hl ls
          intro ls hl
          refine lv_goto (tgt := 53) hx hb d_Ref_wasMet_127 (by decide) ?_
          refine tp_pc (pc' := 53) (by rfl) ?_
          have hnx := hM.2.2 q0 hq0
          rw [hsq] at hnx
          exact ih (nx q0) (by rw [hnx]; exact Nat.lt_succ_of_le (prv_le q0)) _ _ _ ⟨_, rfl, by rw [hnx]; have := prv_le (sl := fun m => sl5 (at5 M m)) (h := slN CF) q0; omega, by rw [hnx]; exact prv_sl q0, fun m q1 q2 e => by rw [hnx] at q1; by_cases g1 : m < q0; (exact absurd (show sl5 (at5 M m) = slN CF from by rw [e]; exact sl5_c5 CF) (prv_no (sl := fun m => sl5 (at5 M m)) (h := slN CF) q0 m q1 g1)); (by_cases g2 : m = q0; (exact hne (by rw [← g2]; exact e)); (exact u3 m (by omega) q2 e)), hP, hS, lv_sub hl [0, 3, 4, 5] rfl⟩
        · skip
          have e2 : cg (at5 M q0) 2 = CF 2 := (hr0 2 (by decide)).symm.trans ((lc0 hz_29).mp c2)
          refine tp_pc (pc' := 98) (by rfl) ?_
          refine lv_iconst (v := 1) hx hb d_Ref_wasMet_98 (by decide) ?_
          refine lv_goto (tgt := 103) hx hb d_Ref_wasMet_99 (by decide) ?_
          refine tp_pc (pc' := 103) (by rfl) ?_
          refine lv_istore (lv' := [(5, .int 1), (6, .int 2), (4, .int (nI q0)), (3, .int (nI (slN CF))), (1, .long (hsK CF 5)), (0, .ref ra)]) hx hb d_Ref_wasMet_103 hl (by decide) rfl ?_
          clear hl ls
          intro ls hl
          refine lv_iinc (v := 3) (lv' := [(6, .int 3), (5, .int 1), (4, .int (nI q0)), (3, .int (nI (slN CF))), (1, .long (hsK CF 5)), (0, .ref ra)]) hx hb d_Ref_wasMet_105 hl (k := 1) rfl (by first | rfl | decide) (by decide) rfl ?_
          clear hl ls
          intro ls hl
          refine lv_goto (tgt := 64) hx hb d_Ref_wasMet_108 (by decide) ?_
          refine tp_pc (pc' := 64) (by rfl) ?_
          refine lv_iload hx hb d_Ref_wasMet_64 (lv_at hl 0 rfl) ?_
          refine lv_iconst (v := 5) hx hb d_Ref_wasMet_66 (by decide) ?_
          refine lv_icmp_ge (tgt := 111) hx hb d_Ref_wasMet_67 (by decide) (fun c_33 => absurd c_33 (by decide)) (fun c_33 => ?_)
          refine tp_pc (pc' := 70) (by rfl) ?_
          refine lv_iload hx hb d_Ref_wasMet_70 (lv_at hl 1 rfl) ?_
          refine lv_if_eq (tgt := 111) hx hb d_Ref_wasMet_72 (by decide) (fun c_34 => absurd c_34 (by decide)) (fun c_34 => ?_)
          refine tp_pc (pc' := 75) (by rfl) ?_
          refine lv_aload_n hx hb d_Ref_wasMet_75 rfl (lv_at hl 5 rfl) ?_
          refine va_get (D := (dC, dI)) (ci := 8) (v := .ref (rA 21)) (C := R_Ref) (T := F_Ref) (N := 48) hx hb hw i_Ref hown hK hP 0 rfl rfl 21 (by decide) (hw _ m_920) (fun _ h9 => h9) rfl d_Ref_wasMet_76 ?_
          refine lv_iconst (v := 5) hx hb d_Ref_wasMet_79 (by decide) ?_
          refine lv_iload hx hb d_Ref_wasMet_80 (lv_at hl 2 rfl) ?_
          refine lv_imul hx hb d_Ref_wasMet_82 ?_
          refine tp_i (y := nI (5 * q0)) (by exact pk_mul 5 q0) ?_
          refine lv_iload hx hb d_Ref_wasMet_83 (lv_at hl 0 rfl) ?_
          refine lv_iadd hx hb d_Ref_wasMet_85 ?_
          refine tp_i (y := nI (5 * q0 + 3)) (by exact nI_add (5 * q0) 3) ?_
          refine va_lald (D := (dC, dI)) hx hb hK hP 3 2 rfl rfl (i := nI (5 * q0 + 3)) (pk_in (5 * q0 + 3) 1200000 (by omega)) d_Ref_wasMet_86 ?_
          refine tp_l (y := mf (5 * q0 + 3)) (by rw [show (nI (5 * q0 + 3) : Int32).toNatClampNeg = 5 * q0 + 3 from pk_cl (5 * q0 + 3)]) ?_
          refine lv_aload_n hx hb d_Ref_wasMet_87 rfl (lv_at hl 5 rfl) ?_
          refine va_get (D := (dC, dI)) (ci := 8) (v := .ref (rA 25)) (C := R_Ref) (T := F_Ref) (N := 48) hx hb hw i_Ref hown hK hP 0 rfl rfl 25 (by decide) (hw _ m_924) (fun _ h9 => h9) rfl d_Ref_wasMet_88 ?_
          refine lv_iload hx hb d_Ref_wasMet_91 (lv_at hl 0 rfl) ?_
          refine va_lald (D := (dC, dI)) hx hb hK hP 1 0 rfl rfl (i := 3) (pk_in 3 5 (by omega)) d_Ref_wasMet_93 ?_
          refine tp_l (y := CF 3) (by rw [show (3 : Int32).toNatClampNeg = 3 from pk_cl 3]) ?_
          refine W.lcmp hx hb d_Ref_wasMet_94 ?_
          refine lv_topi (fun z_35 hz_35 => ?_)
          refine lv_if_ne (tgt := 102) hx hb d_Ref_wasMet_95 (by decide) (fun c3 => ?_) (fun c3 => ?_)
          · skip
            have hne : at5 M q0 ≠ c5 CF := fun q => c3 ((lc0 hz_35).mpr (by rw [hr0 3 (by decide), q]; rfl))
            refine tp_pc (pc' := 102) (by rfl) ?_
            refine lv_iconst (v := 0) hx hb d_Ref_wasMet_102 (by decide) ?_
            refine lv_istore (lv' := [(5, .int 0), (6, .int 3), (4, .int (nI q0)), (3, .int (nI (slN CF))), (1, .long (hsK CF 5)), (0, .ref ra)]) hx hb d_Ref_wasMet_103 hl (by decide) rfl ?_
            clear hl ls
            intro ls hl
            refine lv_iinc (v := 4) (lv' := [(6, .int 4), (5, .int 0), (4, .int (nI q0)), (3, .int (nI (slN CF))), (1, .long (hsK CF 5)), (0, .ref ra)]) hx hb d_Ref_wasMet_105 hl (k := 1) rfl (by first | rfl | decide) (by decide) rfl ?_
            clear hl ls
            intro ls hl
            refine lv_goto (tgt := 64) hx hb d_Ref_wasMet_108 (by decide) ?_
            refine tp_pc (pc' := 64) (by rfl) ?_
            refine lv_iload hx hb d_Ref_wasMet_64 (lv_at hl 0 rfl) ?_
            refine lv_iconst (v := 5) hx hb d_Ref_wasMet_66 (by decide) ?_
            refine lv_icmp_ge (tgt := 111) hx hb d_Ref_wasMet_67 (by decide) (fun c_36 => absurd c_36 (by decide)) (fun c_36 => ?_)
            refine tp_pc (pc' := 70) (by rfl) ?_
            refine lv_iload hx hb d_Ref_wasMet_70 (lv_at hl 1 rfl) ?_
            refine lv_if_eq (tgt := 111) hx hb d_Ref_wasMet_72 (by decide) (fun c_37 => ?_) (fun c_37 => absurd c_37 (by decide))
            refine tp_pc (pc' := 111) (by rfl) ?_
            refine lv_iload hx hb d_Ref_wasMet_111 (lv_at hl 1 rfl) ?_
            refine lv_if_eq (tgt := 118) hx hb d_Ref_wasMet_113 (by decide) (fun c_38 => ?_) (fun c_38 => absurd c_38 (by decide))
            refine tp_pc (pc' := 118) (by rfl) ?_
            refine lv_aload_n hx hb d_Ref_wasMet_118 rfl (lv_at hl 5 rfl) ?_
            refine va_get (D := (dC, dI)) (ci := 8) (v := .ref (rA 22)) (C := R_Ref) (T := F_Ref) (N := 48) hx hb hw i_Ref hown hK hP 0 rfl rfl 22 (by decide) (hw _ m_921) (fun _ h9 => h9) rfl d_Ref_wasMet_119 ?_
            refine lv_iload hx hb d_Ref_wasMet_122 (lv_at hl 2 rfl) ?_
            refine va_iald (D := (dC, dI)) hx hb hK hP 4 3 rfl rfl (i := nI q0) (pk_in q0 240000 (by omega)) d_Ref_wasMet_124 ?_
            refine tp_i (y := (fun i0 => mN (nx i0)) q0) (by rw [show (nI q0 : Int32).toNatClampNeg = q0 from pk_cl q0]) ?_
            refine tp_i (y := mN (nx q0)) rfl ?_
            refine lv_istore (lv' := [(4, .int (mN (nx q0))), (6, .int 4), (5, .int 0), (3, .int (nI (slN CF))), (1, .long (hsK CF 5)), (0, .ref ra)]) hx hb d_Ref_wasMet_125 hl (by decide) rfl ?_
            clear hl ls
            intro ls hl
            refine lv_goto (tgt := 53) hx hb d_Ref_wasMet_127 (by decide) ?_
            refine tp_pc (pc' := 53) (by rfl) ?_
            have hnx := hM.2.2 q0 hq0
            rw [hsq] at hnx
            exact ih (nx q0) (by rw [hnx]; exact Nat.lt_succ_of_le (prv_le q0)) _ _ _ ⟨_, rfl, by rw [hnx]; have := prv_le (sl := fun m => sl5 (at5 M m)) (h := slN CF) q0; omega, by rw [hnx]; exact prv_sl q0, fun m q1 q2 e => by rw [hnx] at q1; by_cases g1 : m < q0; (exact absurd (show sl5 (at5 M m) = slN CF from by rw [e]; exact sl5_c5 CF) (prv_no (sl := fun m => sl5 (at5 M m)) (h := slN CF) q0 m q1 g1)); (by_cases g2 : m = q0; (exact hne (by rw [← g2]; exact e)); (exact u3 m (by omega) q2 e)), hP, hS, lv_sub hl [0, 3, 4, 5] rfl⟩
          · skip
            have e3 : cg (at5 M q0) 3 = CF 3 := (hr0 3 (by decide)).symm.trans ((lc0 hz_35).mp c3)
            refine tp_pc (pc' := 98) (by rfl) ?_
            refine lv_iconst (v := 1) hx hb d_Ref_wasMet_98 (by decide) ?_
            refine lv_goto (tgt := 103) hx hb d_Ref_wasMet_99 (by decide) ?_
            refine tp_pc (pc' := 103) (by rfl) ?_
            refine lv_istore (lv' := [(5, .int 1), (6, .int 3), (4, .int (nI q0)), (3, .int (nI (slN CF))), (1, .long (hsK CF 5)), (0, .ref ra)]) hx hb d_Ref_wasMet_103 hl (by decide) rfl ?_
            clear hl ls
            intro ls hl
            refine lv_iinc (v := 4) (lv' := [(6, .int 4), (5, .int 1), (4, .int (nI q0)), (3, .int (nI (slN CF))), (1, .long (hsK CF 5)), (0, .ref ra)]) hx hb d_Ref_wasMet_105 hl (k := 1) rfl (by first | rfl | decide) (by decide) rfl ?_
            clear hl ls
            intro ls hl
            refine lv_goto (tgt := 64) hx hb d_Ref_wasMet_108 (by decide) ?_
            refine tp_pc (pc' := 64) (by rfl) ?_
            refine lv_iload hx hb d_Ref_wasMet_64 (lv_at hl 0 rfl) ?_
            refine lv_iconst (v := 5) hx hb d_Ref_wasMet_66 (by decide) ?_
            refine lv_icmp_ge (tgt := 111) hx hb d_Ref_wasMet_67 (by decide) (fun c_39 => absurd c_39 (by decide)) (fun c_39 => ?_)
            refine tp_pc (pc' := 70) (by rfl) ?_
            refine lv_iload hx hb d_Ref_wasMet_70 (lv_at hl 1 rfl) ?_
            refine lv_if_eq (tgt := 111) hx hb d_Ref_wasMet_72 (by decide) (fun c_40 => absurd c_40 (by decide)) (fun c_40 => ?_)
            refine tp_pc (pc' := 75) (by rfl) ?_
            refine lv_aload_n hx hb d_Ref_wasMet_75 rfl (lv_at hl 5 rfl) ?_
            refine va_get (D := (dC, dI)) (ci := 8) (v := .ref (rA 21)) (C := R_Ref) (T := F_Ref) (N := 48) hx hb hw i_Ref hown hK hP 0 rfl rfl 21 (by decide) (hw _ m_920) (fun _ h9 => h9) rfl d_Ref_wasMet_76 ?_
            refine lv_iconst (v := 5) hx hb d_Ref_wasMet_79 (by decide) ?_
            refine lv_iload hx hb d_Ref_wasMet_80 (lv_at hl 2 rfl) ?_
            refine lv_imul hx hb d_Ref_wasMet_82 ?_
            refine tp_i (y := nI (5 * q0)) (by exact pk_mul 5 q0) ?_
            refine lv_iload hx hb d_Ref_wasMet_83 (lv_at hl 0 rfl) ?_
            refine lv_iadd hx hb d_Ref_wasMet_85 ?_
            refine tp_i (y := nI (5 * q0 + 4)) (by exact nI_add (5 * q0) 4) ?_
            refine va_lald (D := (dC, dI)) hx hb hK hP 3 2 rfl rfl (i := nI (5 * q0 + 4)) (pk_in (5 * q0 + 4) 1200000 (by omega)) d_Ref_wasMet_86 ?_
            refine tp_l (y := mf (5 * q0 + 4)) (by rw [show (nI (5 * q0 + 4) : Int32).toNatClampNeg = 5 * q0 + 4 from pk_cl (5 * q0 + 4)]) ?_
            refine lv_aload_n hx hb d_Ref_wasMet_87 rfl (lv_at hl 5 rfl) ?_
            refine va_get (D := (dC, dI)) (ci := 8) (v := .ref (rA 25)) (C := R_Ref) (T := F_Ref) (N := 48) hx hb hw i_Ref hown hK hP 0 rfl rfl 25 (by decide) (hw _ m_924) (fun _ h9 => h9) rfl d_Ref_wasMet_88 ?_
            refine lv_iload hx hb d_Ref_wasMet_91 (lv_at hl 0 rfl) ?_
            refine va_lald (D := (dC, dI)) hx hb hK hP 1 0 rfl rfl (i := 4) (pk_in 4 5 (by omega)) d_Ref_wasMet_93 ?_
            refine tp_l (y := CF 4) (by rw [show (4 : Int32).toNatClampNeg = 4 from pk_cl 4]) ?_
            refine W.lcmp hx hb d_Ref_wasMet_94 ?_
            refine lv_topi (fun z_41 hz_41 => ?_)
            refine lv_if_ne (tgt := 102) hx hb d_Ref_wasMet_95 (by decide) (fun c4 => ?_) (fun c4 => ?_)
            · skip
              have hne : at5 M q0 ≠ c5 CF := fun q => c4 ((lc0 hz_41).mpr (by rw [hr0 4 (by decide), q]; rfl))
              refine tp_pc (pc' := 102) (by rfl) ?_
              refine lv_iconst (v := 0) hx hb d_Ref_wasMet_102 (by decide) ?_
              refine lv_istore (lv' := [(5, .int 0), (6, .int 4), (4, .int (nI q0)), (3, .int (nI (slN CF))), (1, .long (hsK CF 5)), (0, .ref ra)]) hx hb d_Ref_wasMet_103 hl (by decide) rfl ?_
              clear hl ls
              intro ls hl
              refine lv_iinc (v := 5) (lv' := [(6, .int 5), (5, .int 0), (4, .int (nI q0)), (3, .int (nI (slN CF))), (1, .long (hsK CF 5)), (0, .ref ra)]) hx hb d_Ref_wasMet_105 hl (k := 1) rfl (by first | rfl | decide) (by decide) rfl ?_
              clear hl ls
              intro ls hl
              refine lv_goto (tgt := 64) hx hb d_Ref_wasMet_108 (by decide) ?_
              refine tp_pc (pc' := 64) (by rfl) ?_
              refine lv_iload hx hb d_Ref_wasMet_64 (lv_at hl 0 rfl) ?_
              refine lv_iconst (v := 5) hx hb d_Ref_wasMet_66 (by decide) ?_
              refine lv_icmp_ge (tgt := 111) hx hb d_Ref_wasMet_67 (by decide) (fun c_42 => ?_) (fun c_42 => absurd c_42 (by decide))
              refine tp_pc (pc' := 111) (by rfl) ?_
              refine lv_iload hx hb d_Ref_wasMet_111 (lv_at hl 1 rfl) ?_
              refine lv_if_eq (tgt := 118) hx hb d_Ref_wasMet_113 (by decide) (fun c_43 => ?_) (fun c_43 => absurd c_43 (by decide))
              refine tp_pc (pc' := 118) (by rfl) ?_
              refine lv_aload_n hx hb d_Ref_wasMet_118 rfl (lv_at hl 5 rfl) ?_
              refine va_get (D := (dC, dI)) (ci := 8) (v := .ref (rA 22)) (C := R_Ref) (T := F_Ref) (N := 48) hx hb hw i_Ref hown hK hP 0 rfl rfl 22 (by decide) (hw _ m_921) (fun _ h9 => h9) rfl d_Ref_wasMet_119 ?_
              refine lv_iload hx hb d_Ref_wasMet_122 (lv_at hl 2 rfl) ?_
              refine va_iald (D := (dC, dI)) hx hb hK hP 4 3 rfl rfl (i := nI q0) (pk_in q0 240000 (by omega)) d_Ref_wasMet_124 ?_
              refine tp_i (y := (fun i0 => mN (nx i0)) q0) (by rw [show (nI q0 : Int32).toNatClampNeg = q0 from pk_cl q0]) ?_
              refine tp_i (y := mN (nx q0)) rfl ?_
              refine lv_istore (lv' := [(4, .int (mN (nx q0))), (6, .int 5), (5, .int 0), (3, .int (nI (slN CF))), (1, .long (hsK CF 5)), (0, .ref ra)]) hx hb d_Ref_wasMet_125 hl (by decide) rfl ?_
              clear hl ls
              intro ls hl
              refine lv_goto (tgt := 53) hx hb d_Ref_wasMet_127 (by decide) ?_
              refine tp_pc (pc' := 53) (by rfl) ?_
              have hnx := hM.2.2 q0 hq0
              rw [hsq] at hnx
              exact ih (nx q0) (by rw [hnx]; exact Nat.lt_succ_of_le (prv_le q0)) _ _ _ ⟨_, rfl, by rw [hnx]; have := prv_le (sl := fun m => sl5 (at5 M m)) (h := slN CF) q0; omega, by rw [hnx]; exact prv_sl q0, fun m q1 q2 e => by rw [hnx] at q1; by_cases g1 : m < q0; (exact absurd (show sl5 (at5 M m) = slN CF from by rw [e]; exact sl5_c5 CF) (prv_no (sl := fun m => sl5 (at5 M m)) (h := slN CF) q0 m q1 g1)); (by_cases g2 : m = q0; (exact hne (by rw [← g2]; exact e)); (exact u3 m (by omega) q2 e)), hP, hS, lv_sub hl [0, 3, 4, 5] rfl⟩
            · skip
              have e4 : cg (at5 M q0) 4 = CF 4 := (hr0 4 (by decide)).symm.trans ((lc0 hz_41).mp c4)
              have hin : c5 CF ∈ M := mem_at5.mpr ⟨q0, hq0, c5_eq e0 e1 e2 e3 e4⟩
              have hads : adM M (c5 CF) = M := by unfold adM; rw [if_pos hin]
              refine tp_pc (pc' := 98) (by rfl) ?_
              refine lv_iconst (v := 1) hx hb d_Ref_wasMet_98 (by decide) ?_
              refine lv_goto (tgt := 103) hx hb d_Ref_wasMet_99 (by decide) ?_
              refine tp_pc (pc' := 103) (by rfl) ?_
              refine lv_istore (lv' := [(5, .int 1), (6, .int 4), (4, .int (nI q0)), (3, .int (nI (slN CF))), (1, .long (hsK CF 5)), (0, .ref ra)]) hx hb d_Ref_wasMet_103 hl (by decide) rfl ?_
              clear hl ls
              intro ls hl
              refine lv_iinc (v := 5) (lv' := [(6, .int 5), (5, .int 1), (4, .int (nI q0)), (3, .int (nI (slN CF))), (1, .long (hsK CF 5)), (0, .ref ra)]) hx hb d_Ref_wasMet_105 hl (k := 1) rfl (by first | rfl | decide) (by decide) rfl ?_
              clear hl ls
              intro ls hl
              refine lv_goto (tgt := 64) hx hb d_Ref_wasMet_108 (by decide) ?_
              refine tp_pc (pc' := 64) (by rfl) ?_
              refine lv_iload hx hb d_Ref_wasMet_64 (lv_at hl 0 rfl) ?_
              refine lv_iconst (v := 5) hx hb d_Ref_wasMet_66 (by decide) ?_
              refine lv_icmp_ge (tgt := 111) hx hb d_Ref_wasMet_67 (by decide) (fun c_44 => ?_) (fun c_44 => absurd c_44 (by decide))
              refine tp_pc (pc' := 111) (by rfl) ?_
              refine lv_iload hx hb d_Ref_wasMet_111 (lv_at hl 1 rfl) ?_
              refine lv_if_eq (tgt := 118) hx hb d_Ref_wasMet_113 (by decide) (fun c_45 => absurd c_45 (by decide)) (fun c_45 => ?_)
              refine tp_pc (pc' := 116) (by rfl) ?_
              refine lv_iconst (v := 1) hx hb d_Ref_wasMet_116 (by decide) ?_
              replace hP : va_P (dC, dI) classes [oc ra 8 [.int (nI T), .int (nI Ac), .ref (rA 2), .ref (rA 3), .ref (rA 4), .ref (rA 5), .ref (rA 6), .ref (rA 7), .ref (rA 8), .ref (rA 9), .ref (rA 10), .ref (rA 11), .ref (rA 12), .ref (rA 13), .int ir, .ref (rA 15), .ref (rA 16), .ref (rA 17), .ref (rA 18), .int (nI md), .int (nI wd), .ref (rA 21), .ref (rA 22), .ref (rA 23), .int (nI ((adM M (c5 CF)).length)), .ref (rA 25), .int (nI CB), .int mr, .ref (rA 28), .ref (rA 29), .ref (rA 30), .ref (rA 31), .ref (rA 32), .ref (rA 33), .ref (rA 34), .ref (rA 35), .int (nI ld), .int (nI gm), .ref (rA 38), .ref (rA 39), .ref (rA 40), .ref (rA 41), .ref (rA 42), .ref (rA 43), .ref (rA 44), .ref (rA 45), .int (nI my), .ref (rA 47)], la (rA 25) (rK9 25) 5 CF, ia (rA 16) (rK9 16) 155 sf, la (rA 21) (rK9 21) 1200000 mf, ia (rA 22) (rK9 22) 240000 (fun i0 => mN (nx i0)), ia (rA 23) (rK9 23) 65536 (fun i0 => mN (fs i0))] H := by rw [hads, ← hmn]; exact hP
              obtain ⟨hP9, hD9, -⟩ := cut3 (wc := [oc ra 8 [.int (nI T), .int (nI Ac), .ref (rA 2), .ref (rA 3), .ref (rA 4), .ref (rA 5), .ref (rA 6), .ref (rA 7), .ref (rA 8), .ref (rA 9), .ref (rA 10), .ref (rA 11), .ref (rA 12), .ref (rA 13), .int ir, .ref (rA 15), .ref (rA 16), .ref (rA 17), .ref (rA 18), .int (nI md), .int (nI wd), .ref (rA 21), .ref (rA 22), .ref (rA 23), .int (nI ((adM M (c5 CF)).length)), .ref (rA 25), .int (nI CB), .int mr, .ref (rA 28), .ref (rA 29), .ref (rA 30), .ref (rA 31), .ref (rA 32), .ref (rA 33), .ref (rA 34), .ref (rA 35), .int (nI ld), .int (nI gm), .ref (rA 38), .ref (rA 39), .ref (rA 40), .ref (rA 41), .ref (rA 42), .ref (rA 43), .ref (rA 44), .ref (rA 45), .int (nI my), .ref (rA 47)], la (rA 25) (rK9 25) 5 CF, ia (rA 16) (rK9 16) 155 sf, la (rA 21) (rK9 21) 1200000 mf, ia (rA 22) (rK9 22) 240000 (fun i0 => mN (nx i0)), ia (rA 23) (rK9 23) 65536 (fun i0 => mN (fs i0))]) hP hD rfl hS hA [0, 1, 2, 3, 4, 5] (by decide +kernel) rfl
              have hK9 := hK.sub (tys' := []) [] rfl
              refine W.widen (k := 0) (n := 0) (by exact Nat.le_of_ble_eq_true rfl) (by exact Nat.le_of_ble_eq_true rfl) ?_
              exact W.zret (v := 1) (ty := .boolean) hx hb hr (by decide) (fun t9 ht9 hW => ⟨⟨1, (), rfl, by rw [if_pos hin], mf, nx, fs, by rw [hads]; exact hM, by rw [ht9]; exact hP9, va_K.moved hW.alike hK9, hD9⟩, hS.F ht9⟩) hS.2.2 d_Ref_wasMet_117
