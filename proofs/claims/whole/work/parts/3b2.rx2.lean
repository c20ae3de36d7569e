section FRW
variable {T Ac md : Nat} {pg : Nat → Nat → Nat} {nm : Nat → Int32} {zs kd vx rr : Nat → Nat} {vv : Nat → Int32} {F : Nat → Nat} {c : CF9} {RW : Nat → List Nat}
/-- how large the values can be: nine for each action done -/
def JW9 (c : CF9) : Prop := (∀ k, wB (c.2.2.2.1 k) (9 * cn9 (fun a => c.1.testBit a) 7)) ∧ ∀ k, wB (c.2.2.2.2 k) (9 * cn9 (fun a => c.1.testBit a) 7)
theorem nm_9 (hX : PX T Ac pg nm zs kd vx rr vv) {a : Nat} (ha : a < Ac) : wB (nm a) 9 := by
  obtain ⟨x1, x2⟩ := hX.2.2.2.2.2 a ha
  have ht := (hX.1.2.2.2.2.1 a ha).1
  have := (hX.2.2.2.1 (pg 2 a) (pg 3 a) ht x1).2.2.2
  rw [x2] at this
  rw [← this]
  have h28 := (pr_r9 hX ha).2.2
  unfold rN9 at h28
  exact (hX.2.1.2.2.2 _ h28).2.2.2.1
theorem wB_upd {f : Nat → Int32} {i : Nat} {v : Int32} {b : Nat} (h : ∀ k, wB (f k) b) (hv : wB v b) (k : Nat) : wB (upd f i v k) b := by
  by_cases e : k = i
  · rw [e, pk_us]; exact hv
  · rw [pk_un e]; exact h k
theorem fr_wb (hX : PX T Ac pg nm zs kd vx rr vv) : ∀ (l : List Nat) (c e : CF9), PI9 T Ac pg nm c → fRun T pg nm F l c e → JW9 c → JW9 e
  | [], c, e, _, r, h => by rw [← show c = e from r]; exact h
  | t :: l, c, e, hI, ⟨r1, r2, r3⟩, ⟨h1, h2⟩ => by
    obtain ⟨a1, a2, a3, a4, a5, a6⟩ := px_next hX hI r1 r2.1 rfl
    refine fr_wb hX l _ e (fS_pi hX hI r1 r2) r3 ?_
    have hlt : cn9 (fun a => c.1.testBit a) 7 < cn9 (fun a => (c.1 ||| 2 ^ fA9 pg c t).testBit a) 7 := cn9_st (j := fA9 pg c t) 7 (fun i _ w => by rw [Nat.testBit_or, w]; rfl) a1 b_eq a5
    have h7 : cn9 (fun a => (c.1 ||| 2 ^ fA9 pg c t).testBit a) 7 ≤ 7 := cn9_le 7
    have hn := nm_9 hX a2
    have hn2 : wB (nm (fA9 pg c t)) 9 := hn
    show (∀ k, wB (rgP (pg 4 (fA9 pg c t)) c.2.2.2.1 c.2.2.2.2 (pg 6 (fA9 pg c t)) (fQ9 pg F (fA9 pg c t)) k) (9 * cn9 (fun a => (c.1 ||| 2 ^ fA9 pg c t).testBit a) 7)) ∧ ∀ k, wB (vlP (pg 4 (fA9 pg c t)) c.2.2.2.1 c.2.2.2.2 (nm (fA9 pg c t)) (fA9 pg c t) (pg 6 (fA9 pg c t)) (fQ9 pg F (fA9 pg c t)) k) (9 * cn9 (fun a => (c.1 ||| 2 ^ fA9 pg c t).testBit a) 7)
    generalize cn9 (fun a => (c.1 ||| 2 ^ fA9 pg c t).testBit a) 7 = n at hlt h7 ⊢
    generalize cn9 (fun a => c.1.testBit a) 7 = m at hlt h1 h2
    have g1 : ∀ k, wB (c.2.2.2.1 k) (9 * n) := fun k => wB_mono (h1 k) (by omega)
    have g2 : ∀ k, wB (c.2.2.2.2 k) (9 * n) := fun k => wB_mono (h2 k) (by omega)
    refine ⟨fun k => ?_, fun k => ?_⟩
    · unfold rgP
      split
      · exact wB_upd g1 (g2 _) k
      · exact g1 k
    · rw [vlP_vz]
      split
      · refine wB_upd g2 ?_ k
        unfold vz9
        split
        · exact wB_mono hn2 (by omega)
        · split
          · exact wB_mono (wB_add (h1 _) hn2 (by omega)) (by omega)
          · exact wB_mono (wB_add (h2 _) hn2 (by omega)) (by omega)
      · exact g2 k
theorem gd_okD (hX : PX T Ac pg nm zs kd vx rr vv) (h : GD9 T Ac md pg nm c F RW) (k : Nat) : okD (uG9 c RW k) := by
  obtain ⟨l, r⟩ := h.2.1
  obtain ⟨h1, h2⟩ := fr_wb hX l c09 c (show PI9 T Ac pg nm c09 from PgI_0) r ⟨fun _ => wB_0, fun _ => wB_0⟩
  have h7 : cn9 (fun a => c.1.testBit a) 7 ≤ 7 := cn9_le 7
  unfold uG9
  split
  · exact wB_okD (h1 k) (by omega)
  · exact wB_okD (h2 _) (by omega)
end FRW
/-- put to the end, if it isn't there -/
def ddL {A : Type} [DecidableEq A] (L : List A) (x : A) : List A := if x ∈ L then L else L ++ [x]
section DDL
theorem dd_1 {A : Type} [DecidableEq A] {L : List A} {x y : A} : y ∈ ddL L x ↔ y ∈ L ∨ y = x := by
  unfold ddL
  by_cases c : x ∈ L
  · rw [if_pos c]
    exact ⟨Or.inl, fun h => h.elim id (fun e => by rw [e]; exact c)⟩
  · rw [if_neg c, List.mem_append, List.mem_singleton]
theorem dd_mem {A : Type} [DecidableEq A] {y : A} : ∀ (l L : List A), y ∈ l.foldl ddL L ↔ y ∈ L ∨ y ∈ l
  | [], L => ⟨Or.inl, fun h => h.elim id (fun h => absurd h List.not_mem_nil)⟩
  | x :: l, L => by
    rw [List.foldl_cons, dd_mem l, dd_1, List.mem_cons, or_assoc]
theorem dd_n1 {A : Type} [DecidableEq A] {L : List A} {x : A} (h : L.Nodup) : (ddL L x).Nodup := by
  unfold ddL
  by_cases c : x ∈ L
  · rw [if_pos c]; exact h
  · rw [if_neg c]
    refine List.nodup_append.mpr ⟨h, List.nodup_cons.mpr ⟨List.not_mem_nil, List.nodup_nil⟩, fun a ha b hb e => c ?_⟩
    rw [List.mem_singleton.mp hb] at e
    rw [← e]; exact ha
theorem dd_nd {A : Type} [DecidableEq A] : ∀ (l L : List A), L.Nodup → (l.foldl ddL L).Nodup
  | [], _, h => h
  | _ :: l, _, h => dd_nd l _ (dd_n1 h)
end DDL
theorem fold_if9 {A C : Type} {s : A → Bool} {f : C → A → C} : ∀ (l : List A) (g : C), l.foldl (fun g p => if s p = true then f g p else g) g = (l.filter s).foldl f g
  | [], _ => rfl
  | a :: l, g => by
    rw [List.foldl_cons, fold_if9 l]
    cases q : s a with
    | true => rw [List.filter_cons_of_pos q, if_pos rfl, List.foldl_cons]
    | false => rw [List.filter_cons_of_neg (by rw [q]; exact Bool.false_ne_true), if_neg Bool.false_ne_true]
/-- the reference's list of outcomes, where it is never full -/
theorem adO_dd {V : List (List Int32)} (hB : ∀ D : List (List Int32), D.Nodup → (∀ v, v ∈ D → v ∈ V) → D.length ≤ 4000) : ∀ (l D : List (List Int32)), D.Nodup → (∀ v, v ∈ D → v ∈ V) → (∀ v, v ∈ l → v ∈ V) → l.foldl (fun o v => adO o v []) (D.map (fun v => (v, ([] : List Int32)))) = (l.foldl ddL D).map (fun v => (v, []))
  | [], _, _, _, _ => rfl
  | x :: l, D, hD, h1, h2 => by
    rw [List.foldl_cons, List.foldl_cons]
    have hx := h2 x (List.mem_cons_self ..)
    have e : adO (D.map (fun v => (v, ([] : List Int32)))) x [] = (ddL D x).map (fun v => (v, [])) := by
      unfold adO ddL
      have hc : ((D.map (fun v => (v, ([] : List Int32)))).any (fun r => r.1 == x) = true) ↔ x ∈ D := by
        rw [List.any_eq_true]
        constructor
        · rintro ⟨r, hr, e⟩
          obtain ⟨v, hv, rfl⟩ := List.mem_map.mp hr
          have : v = x := by simpa using e
          rw [← this]; exact hv
        · intro h; exact ⟨(x, []), List.mem_map.mpr ⟨x, h, rfl⟩, by simp⟩
      by_cases c : x ∈ D
      · rw [if_pos (hc.mpr c), if_pos c]
      · rw [if_neg (fun w => c (hc.mp w)), if_neg c]
        have hl := hB (ddL D x) (dd_n1 hD) (fun v hv => (dd_1.mp hv).elim (h1 v) (fun e => by rw [e]; exact hx))
        unfold ddL at hl
        rw [if_neg c, List.length_append] at hl
        rw [if_pos (by rw [List.length_map]; have : [x].length = 1 := rfl; omega), List.map_append]; rfl
    rw [e]
    exact adO_dd hB l _ (dd_n1 hD) (fun v hv => (dd_1.mp hv).elim (h1 v) (fun e => by rw [e]; exact hx)) (fun v hv => h2 v (List.mem_cons_of_mem _ hv))
section GRP
variable {K N0 N1 T Ac md ld E : Nat} {pg : Nat → Nat → Nat} {nm : Nat → Int32} {zs kd vx rr li : Nat → Nat} {vv : Nat → Int32} {sc : Nat → Nat → Nat}
/-- an outcome as the class keeps it -/
def kO9 (u : Nat → Int32) : Int64 × Int32 × List Int32 := ((enG u).1, (enG u).2, [])
theorem enG_V {u : Nat → Int32} (h : ∀ j, j < 11 → okD (u j)) : enG u = enV (v11 u) := by
  rw [enV_u h]
  unfold enG
  rw [k1O_rK (u := u) (rg := u) (fun _ _ => rfl) (fun j hj => h j (by omega)), k2O_vK (u := u) (cv := fun i => u (8 + i)) (a := 0) (b := 1) (c := 2) rfl rfl rfl (h 8 (by omega)) (h 9 (by omega)) (h 10 (by omega))]
theorem cl_add (hX : PX T Ac pg nm zs kd vx rr vv) {C : Nat} {z : Z9} : (yg (zy (srG pg nm E md T Ac sc C z)), ys (zy (srG pg nm E md T Ac sc C z))) =
    ((clL pg nm md T Ac (scS pg md Ac sc)).filter (clS pg md Ac (scS pg md Ac sc))).foldl (fun g p => (addOut E (enG (uG9 (cS8 p.1) p.2)).1 (enG (uG9 (cS8 p.1) p.2)).2 [] g.1, g.2 + 1)) (g0G C, 0) := by
  rw [cls_graphs_f hX.1, gf_cl hX, List.foldl_map, ← fold_if9]
  refine fold_cg9 _ _ (fun p hp g => ?_)
  have h2 : ∀ y, y < 3 → (clX pg md Ac (scS pg md Ac sc) p).1 y = lsL (p.2 y) := fun y hy => lfW_ls _ _ (by rw [r0_9]; split <;> omega)
  show (if clS pg md Ac (scS pg md Ac sc) p = true then _ else _) = _
  by_cases c : clS pg md Ac (scS pg md Ac sc) p = true
  · rw [if_pos c, if_pos c]
    have e1 : rK p.1.2.2.2.1 7 = (enG (uG9 (cS8 p.1) p.2)).1 := rK_cg 7 (fun j hj => (if_pos (by omega)).symm)
    have e2 : vK p.1.2.2.2.2.1 ((clX pg md Ac (scS pg md Ac sc) p).1 0) ((clX pg md Ac (scS pg md Ac sc) p).1 1) ((clX pg md Ac (scS pg md Ac sc) p).1 2) = (enG (uG9 (cS8 p.1) p.2)).2 := by
      rw [h2 0 (by decide), h2 1 (by decide), h2 2 (by decide)]
      exact vK_cg (f := p.1.2.2.2.2.1) (g := fun i => uG9 (cS8 p.1) p.2 (8 + i)) rfl rfl rfl
    rw [← e1, ← e2]
  · rw [if_neg c, if_neg c]
theorem add_dd : ∀ (l : List (Nat → Int32)) (g : G9 × Nat) (D : List (Int64 × Int32 × List Int32)), gF g.1 = D → (∀ r, r ∈ D → r.2.2 = []) →
    gF (l.foldl (fun g u => (addOut E (enG u).1 (enG u).2 [] g.1, g.2 + 1)) g).1 = (l.map kO9).foldl ddL D ∧ (l.foldl (fun g u => (addOut E (enG u).1 (enG u).2 [] g.1, g.2 + 1)) g).2 = g.2 + l.length
  | [], g, D, h, _ => ⟨h, rfl⟩
  | u :: l, g, D, h, hD => by
    have hc : hasF g.1 (enG u).1 (enG u).2 = true ↔ kO9 u ∈ D := by
      unfold hasF
      rw [h, List.any_eq_true]
      constructor
      · rintro ⟨r, hr, e⟩
        rw [Bool.and_eq_true] at e
        have e1 : r.1 = (enG u).1 := by simpa using e.1
        have e2 : r.2.1 = (enG u).2 := by simpa using e.2
        have : r = kO9 u := Prod.ext e1 (Prod.ext e2 (hD r hr))
        rw [← this]; exact hr
      · intro w; exact ⟨kO9 u, w, by unfold kO9; simp⟩
    have e : gF (addOut E (enG u).1 (enG u).2 [] g.1) = ddL D (kO9 u) := by
      unfold addOut ddL
      by_cases c : kO9 u ∈ D
      · rw [if_pos (hc.mpr c), if_pos c]; exact h
      · rw [if_neg (fun w => c (hc.mp w)), if_neg c]
        show gF g.1 ++ [_] = _
        rw [h]; rfl
    obtain ⟨i1, i2⟩ := add_dd l (addOut E (enG u).1 (enG u).2 [] g.1, g.2 + 1) (ddL D (kO9 u)) e (fun r hr => (dd_1.mp hr).elim (hD r) (fun e => by rw [e]; rfl))
    rw [List.foldl_cons, List.map_cons, List.foldl_cons]
    refine ⟨i1, ?_⟩
    rw [i2, List.length_cons]; omega
/-- what the class gathers of the graphs: as many as the reference counts, and its outcomes -/
theorem gr_both (hX : PX T Ac pg nm zs kd vx rr vv) (hL : liO T ld zs kd li) (hK : K ≠ 0) (hN : 30 ≤ N0) (hN1 : 32 ≤ N1) (hmd : md < 4) {C : Nat} {z : Z9} :
    (gchR T zs kd vx li (onR md K N0 N1 T ld zs kd vx rr li vv (std9 md K N0 T ld zs kd vx rr li vv)) ld 0 (fun _ => 0) (0, [])).1 = ys (zy (srG pg nm E md T Ac sc C z)) ∧
    (gF (yg (zy (srG pg nm E md T Ac sc C z)))).Perm ((gchR T zs kd vx li (onR md K N0 N1 T ld zs kd vx rr li vv (std9 md K N0 T ld zs kd vx rr li vv)) ld 0 (fun _ => 0) (0, [])).2.map (fun r => ((enV r.1).1, (enV r.1).2, r.2))) ∧
    (gchR T zs kd vx li (onR md K N0 N1 T ld zs kd vx rr li vv (std9 md K N0 T ld zs kd vx rr li vv)) ld 0 (fun _ => 0) (0, [])).2.length ≤ 4000 ∧
    (∀ r, r ∈ (gchR T zs kd vx li (onR md K N0 N1 T ld zs kd vx rr li vv (std9 md K N0 T ld zs kd vx rr li vv)) ld 0 (fun _ => 0) (0, [])).2 → okV r.1 ∧ r.2 = []) ∧
    ((gchR T zs kd vx li (onR md K N0 N1 T ld zs kd vx rr li vv (std9 md K N0 T ld zs kd vx rr li vv)) ld 0 (fun _ => 0) (0, [])).2.map (fun r => r.1)).Nodup := by
  rw [ref_graphs_f]
  obtain ⟨w1, w2⟩ := wh_fold (sd := fun L : (Nat → Nat) × (Nat → List Nat) => std9 md K N0 T ld zs kd vx rr li vv L.1 L.2) (nv := fun L => v11 (nvR (gzQ K N0 T ld zs kd vx rr li vv L.1).2.1 (gzQ K N0 T ld zs kd vx rr li vv L.1).2.2.1 L.2)) (rfL md K N0 N1 T ld zs kd vx rr li vv) (0, [])
  rw [w1, w2]
  have hnum := gr_num (sc := sc) hX hL hK hN hN1 hmd
  have houts := gr_outs (sc := sc) hX hL hK hN hN1 hmd
  have hcl := cl_add (E := E) (sc := sc) (md := md) hX (C := C) (z := z)
  have hgd : ∀ p, p ∈ (rfL md K N0 N1 T ld zs kd vx rr li vv).filter (fun L => std9 md K N0 T ld zs kd vx rr li vv L.1 L.2) → ∃ c F RW, GD9 T Ac md pg nm c F RW ∧ v11 (nvR (gzQ K N0 T ld zs kd vx rr li vv p.1).2.1 (gzQ K N0 T ld zs kd vx rr li vv p.1).2.2.1 p.2) = v11 (uG9 c RW) := fun p hp => by
    obtain ⟨p1, p2⟩ := List.mem_filter.mp hp
    obtain ⟨c, F, g1, g2, g3, -⟩ := rf_gd (Ac := Ac) (pg := pg) (nm := nm) hX hL hK hN hN1 (show (p.1, p.2) ∈ _ from p1)
    exact ⟨c, F, kw9 pg p.2, g1.mp p2, v11_cg g3⟩
  have hcgd : ∀ p, p ∈ (clL pg nm md T Ac (scS pg md Ac sc)).filter (clS pg md Ac (scS pg md Ac sc)) → GD9 T Ac md pg nm (cS8 p.1) (fun a => fmS8 p.1 a - 1) p.2 := fun p hp => by
    obtain ⟨p1, p2⟩ := List.mem_filter.mp hp
    obtain ⟨h4, h5⟩ := cl_mem.mp (show (p.1, p.2) ∈ _ from p1)
    exact (cl_gd hX hmd h4 h5).mp p2
  generalize (rfL md K N0 N1 T ld zs kd vx rr li vv).filter (fun L => std9 md K N0 T ld zs kd vx rr li vv L.1 L.2) = RF at *
  generalize (clL pg nm md T Ac (scS pg md Ac sc)).filter (clS pg md Ac (scS pg md Ac sc)) = CL at *
  obtain ⟨d1, d2⟩ := add_dd (E := E) (CL.map (fun p => uG9 (cS8 p.1) p.2)) (g0G C, 0) [] rfl (fun r hr => absurd hr List.not_mem_nil)
  rw [List.foldl_map] at d1 d2
  have f1 := congrArg (fun q : G9 × Nat => q.1) hcl
  have f2 := congrArg (fun q : G9 × Nat => q.2) hcl
  dsimp only at f1 f2
  rw [f1, f2, d1, d2, List.length_map, hnum]
  -- the reference's outcomes
  have hB : ∀ D : List (List Int32), D.Nodup → (∀ v, v ∈ D → v ∈ RF.map (fun L => v11 (nvR (gzQ K N0 T ld zs kd vx rr li vv L.1).2.1 (gzQ K N0 T ld zs kd vx rr li vv L.1).2.2.1 L.2))) → D.length ≤ 4000 := fun D hD h => by
    refine ends_4000 (en := v11) hX hD (fun u w h => v11_cg h) (fun v hv => ?_)
    obtain ⟨p, hp, rfl⟩ := List.mem_map.mp (h v hv)
    obtain ⟨c, F, RW, g1, g2⟩ := hgd p hp
    obtain ⟨e1, e2⟩ := gd_end hX g1
    exact ⟨_, _, _, _, _, _, e1, by rw [g2]; exact v11_cg (fun k _ => (e2 k).symm)⟩
  have hdd := adO_dd hB (RF.map (fun L => v11 (nvR (gzQ K N0 T ld zs kd vx rr li vv L.1).2.1 (gzQ K N0 T ld zs kd vx rr li vv L.1).2.2.1 L.2))) [] List.nodup_nil (fun v hv => absurd hv List.not_mem_nil) (fun v hv => hv)
  rw [List.foldl_map] at hdd
  have hdd2 : RF.foldl (fun o L => adO o (v11 (nvR (gzQ K N0 T ld zs kd vx rr li vv L.1).2.1 (gzQ K N0 T ld zs kd vx rr li vv L.1).2.2.1 L.2)) []) [] = _ := hdd
  rw [hdd2]
  have hm : ∀ v, v ∈ (RF.map (fun L => v11 (nvR (gzQ K N0 T ld zs kd vx rr li vv L.1).2.1 (gzQ K N0 T ld zs kd vx rr li vv L.1).2.2.1 L.2))).foldl ddL [] ↔ ∃ p, p ∈ RF ∧ v11 (nvR (gzQ K N0 T ld zs kd vx rr li vv p.1).2.1 (gzQ K N0 T ld zs kd vx rr li vv p.1).2.2.1 p.2) = v := fun v => by
    rw [dd_mem, List.mem_map]
    exact ⟨fun h => h.resolve_left List.not_mem_nil, Or.inr⟩
  have hnd := dd_nd (RF.map (fun L => v11 (nvR (gzQ K N0 T ld zs kd vx rr li vv L.1).2.1 (gzQ K N0 T ld zs kd vx rr li vv L.1).2.2.1 L.2))) [] List.nodup_nil
  have hlen := hB _ hnd (fun v hv => by obtain ⟨p, hp, e⟩ := (hm v).mp hv; exact List.mem_map.mpr ⟨p, hp, e⟩)
  generalize (RF.map (fun L => v11 (nvR (gzQ K N0 T ld zs kd vx rr li vv L.1).2.1 (gzQ K N0 T ld zs kd vx rr li vv L.1).2.2.1 L.2))).foldl ddL [] = B at *
  have hok : ∀ v, v ∈ B → okV v := fun v hv => by
    obtain ⟨p, hp, rfl⟩ := (hm v).mp hv
    obtain ⟨c, F, RW, g1, g2⟩ := hgd p hp
    exact ⟨uG9 c RW, g2, fun j _ => gd_okD hX g1 j⟩
  refine ⟨rfl, ?_, by rw [List.length_map]; exact hlen, fun r hr => ?_, ?_⟩
  · have eB : (B.map (fun v => (v, ([] : List Int32)))).map (fun r : O9 => ((enV r.1).1, (enV r.1).2, r.2)) = B.map (fun v => ((enV v).1, (enV v).2, ([] : List Int32))) := by rw [List.map_map]; rfl
    rw [eB]
    refine (List.perm_ext_iff_of_nodup (dd_nd (A := Int64 × Int32 × List Int32) _ _ List.nodup_nil) (nd_map9 _ hnd (fun v w hv hw e => enV_in v w (hok v hv) (hok w hw) (Prod.ext (Prod.mk.inj e).1 (Prod.mk.inj (Prod.mk.inj e).2).1)))).mpr (fun x => ?_)
    rw [dd_mem, List.map_map, List.mem_map, List.mem_map]
    constructor
    · rintro (h | ⟨p, hp, rfl⟩)
      · exact absurd h List.not_mem_nil
      · obtain ⟨q, hq, e⟩ := (houts (uG9 (cS8 p.1) p.2)).mp ⟨p, hp, fun _ _ => rfl⟩
        refine ⟨v11 (uG9 (cS8 p.1) p.2), (hm _).mpr ⟨q, hq, (v11_cg e).symm⟩, ?_⟩
        show ((enV _).1, (enV _).2, _) = ((enG _).1, (enG _).2, _)
        rw [enG_V (fun j _ => gd_okD hX (hcgd p hp) j)]
    · rintro ⟨v, hv, rfl⟩
      obtain ⟨q, hq, rfl⟩ := (hm v).mp hv
      obtain ⟨p, hp, e⟩ := (houts _).mpr ⟨q, hq, fun _ _ => rfl⟩
      refine Or.inr ⟨p, hp, ?_⟩
      show ((enG _).1, (enG _).2, _) = ((enV _).1, (enV _).2, _)
      rw [v11_cg e, enG_V (fun j _ => gd_okD hX (hcgd p hp) j)]
  · obtain ⟨v, hv, rfl⟩ := List.mem_map.mp hr
    exact ⟨hok v hv, rfl⟩
  · rw [List.map_map]
    exact nd_map9 _ hnd (fun a b _ _ e => e)
end GRP
