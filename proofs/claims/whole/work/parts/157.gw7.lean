theorem nxM_lt {T Ac : Nat} {pg : Nat → Nat → Nat} {pl : Nat → Nat} (hPg : PgOk T Ac pg) : ∀ n, n ≤ T → nxM pg pl n < 128
  | 0, _ => by unfold nxM; decide
  | t + 1, h => by
    have hPg3 := hPg
    obtain ⟨p1, p2, p3, p4, -⟩ := hPg3
    unfold nxM
    split
    · rename_i q
      exact set_lt _ (nxM_lt hPg t (by omega)) _ (by have := (p4 t _ (by omega) q).1; omega)
    · rw [Nat.or_zero]; exact nxM_lt hPg t (by omega)
theorem rivS_lt {k v t r q : Nat} (h : v < 128) : rivS k v t r q < 128 := by
  unfold rivS
  split
  · decide
  · split
    · exact andn_lt (andn_lt h)
    · split
      · exact andn_lt (andn_lt h)
      · exact andn_lt h
theorem or_lt : ∀ a, a < 128 → ∀ b, b < 128 → a ||| b < 128 := fun a ha b hb => Nat.or_lt_two_pow (n := 7) ha hb
theorem rcN_lt {pg : Nat → Nat → Nat} {M : Nat} {rc : Nat → Nat} (hrc : ∀ i, rc i < 128) (hM : M < 128) (p8 : ∀ i, pg 10 i < 128) : ∀ n i, rcN pg M rc n i < 128
  | 0, i => hrc i
  | n + 1, i => by
    unfold rcN
    split
    · unfold updN
      split
      · exact or_lt _ (rcN_lt hrc hM p8 n n) _ (Nat.and_lt_two_pow (n := 7) _ (rivS_lt (p8 _)))
      · exact rcN_lt hrc hM p8 n i
    · exact rcN_lt hrc hM p8 n i
theorem goT_le {pg : Nat → Nat → Nat} {nm : Nat → Int32} {md : Nat} {nx : NX} {d dn : Nat} {so : Int64} {pl : Nat → Nat} {rg cv : Nat → Int32} {mm hd : Nat} {pf : Nat → Int32} {g : G9} (hmo : gmono nx) {i : Nat} : ∀ {n : Nat}, i ≤ n → gle (goT pg nm md nx d dn so pl rg cv mm hd pf i g).2 (goT pg nm md nx d dn so pl rg cv mm hd pf n g).2
  | 0, h => by rw [Nat.le_zero.mp h]; exact gle_rf
  | n + 1, h => by
    rcases Nat.lt_or_eq_of_le h with q | q
    · exact gle_tr (goT_le hmo (Nat.le_of_lt_succ q)) (gle_tr (gle_goN hmo) (gle_goB hmo))
    · rw [q]; exact gle_rf
theorem vK_ag {vl cv : Nat → Int32} {a b k : Nat} (ha : vl a = cv a) (hb : vl b = cv b) (hk : vl k = cv k) : vK vl a b k = vK cv a b k := by unfold vK; rw [ha, hb, hk]
theorem map_ag {pv pf : Nat → Int32} {d : Nat} (h : ∀ i, i < d → pv i = pf i) : (List.range d).map pv = (List.range d).map pf := List.map_congr_left (fun i hi => h i (List.mem_range.mp hi))
