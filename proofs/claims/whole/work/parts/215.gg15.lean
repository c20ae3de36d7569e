set_option maxHeartbeats 4000000 in
set_option maxRecDepth 100000 in
theorem gen_GS_lay (l : Launch) (dC : Nat → ClassId) (dI : Nat → Nat → Nat) (pa : Nat) (pA : Nat → Nat) (pK : Nat → ClassId) (T Ac : Nat) (pg : Nat → Nat → Nat) (nm : Nat → Int32) (ga g1 g2 g3 : Nat) (l2 l3 : ClassId) (xa fa : Nat) (xA : Nat → Nat) (xK : Nat → ClassId) (E md mb : Nat) (rd : Int32) (fm wm : Nat → Nat) (sc : Nat → Nat → Nat) (dn : Nat) (so : Int64) (rg vl cv : Nat → Int32) (d fr lo : Nat) (nx : NY) (row last todo ah se : Nat) (yy yz : Y9) (ad : Nat → Nat) (ck : Nat → ClassId) (rf : Nat → Int64) (vf : Nat → Int32) (lf : Nat → Int32) (qf : Nat → Int32) (of : Nat → Nat) (hPg : PgOk T Ac pg) (hmd : md < 4) (hmb : mb < 128) (hE2 : E ≤ 16) (hs3 : ∀ i, i < Ac → sc 3 i < 128) (hs4 : ∀ i, i < Ac → sc 4 i < 128) (hs5 : ∀ i, i < Ac → sc 5 i < 128) (h6 : ∀ i, sc 6 i < 128) (h7 : ∀ i, sc 7 i < 128) (hmd2 : ∀ i, mb / 2 ^ i % 2 = 1 → dn.testBit i = true) (hv : ∀ q, wr pg dn q → vl q = cv q) (hd12 : d ≤ 12) (hfr : 10 ≤ fr) (hlo : 300 ≤ lo) (hmo : ymono nx) (hly : d < 12 → LyM l dC dI pa pA pK T Ac pg nm ga g1 g2 g3 l2 l3 xa fa xA xK E md mb rd fm wm sc dn so rg vl cv (d + 1) fr lo nx) (hro : row < 4) (hla : last < 8) (hto : todo < 128) (hah : ah < 128) (hse : se < 128) (hlw : (row < 3 → wr pg dn last)) (htw : (row < 3 → ∀ w, todo / 2 ^ w % 2 = 1 → wr pg dn (w + 1))) (hYy : YOk yy) (hyw : (∀ r, row < r → r < 3 → wr pg dn (yl yy r))) (hF9 : okH (yg yy) rf vf of) (hbig : ((gF (yg yz)).length ≤ 8192)) (hgo : layS pg E md Ac mb sc rg cv d nx row last todo ah se yy = yz) (sz : Nat) : Met l y_GraphSearch_lay w_GraphSearch_lay ({ frames := fr + 2, cells := gc (yg yz) - gc (yg yy), slots := gs (yg yz) - gs (yg yy), locals := lo + 80 }) (va_Pc [.ref xa, .int (nI row), .int (nI last), .int (nI todo), .int (nI ah), .int (nI se), .int (nI d)] (fun U => U.heap.size = sz ∧ va_P (dC, dI) classes [oc xa 6 [.ref pa, .ref ga, .ref (xA 0), .ref (xA 1), .ref (xA 2), .ref (xA 3), .ref (xA 4), .ref (xA 5), .ref (xA 6), .ref (xA 7), .ref (xA 8), .ref (xA 9), .ref (xA 10), .ref (xA 11), .ref fa, .int (nI md), .int (nI mb)], ia (xA 3) (xK 3) 7 (fun i => nI ((sc 3) i)), ia (xA 4) (xK 4) 7 (fun i => nI ((sc 4) i)), ia (xA 5) (xK 5) 7 (fun i => nI ((sc 5) i)), ia (xA 6) (xK 6) 8 (fun i => nI ((sc 6) i)), ia (xA 7) (xK 7) 4 (fun i => nI ((sc 7) i)), ia (xA 8) (xK 8) 4 (fun i => nI ((yl yy) i)), ia (xA 9) (xK 9) 7 (fun i => nI ((yb yy) i)), ia (xA 10) (xK 10) 7 (fun i => nI ((yo yy) i)), ia (xA 11) (xK 11) 7 (fun i => nI ((yh yy) i)), oc ga 1 [.ref pa, .ref g1, .ref g2, .ref g3, .int (nI dn), .long so], ia g2 l2 8 rg, ia g3 l3 8 vl, oc pa 0 [.ref (pA 0), .ref (pA 1), .ref (pA 2), .ref (pA 3), .ref (pA 4), .ref (pA 5), .ref (pA 6), .ref (pA 7), .ref (pA 8), .ref (pA 9), .ref (pA 10), .int (nI T), .int (nI Ac)], ia (pA 2) (pK 2) 7 (fun i => nI ((pg 2) i)), ia (pA 4) (pK 4) 7 (fun i => nI ((pg 4) i)), ia (pA 8) (pK 8) 4 (fun i => nI ((pg 8) i)), ia (pA 9) (pK 9) 6 (fun i => nI ((pg 9) i)), ia (pA 10) (pK 10) 3 (fun i => nI ((pg 10) i)), oc fa 3 [.int (nI E), .ref (ad 1), .ref (ad 2), .ref (ad 3), .ref (ad 4), .ref (ad 5), .int (nI ((gF (yg yy)).length)), .int (nI (ys yy)), .int rd], la (ad 1) (ck 1) (gC (yg yy)) rf, ia (ad 2) (ck 2) (gC (yg yy)) vf, ia (ad 3) (ck 3) (gC (yg yy)) lf, ia (ad 4) (ck 4) (gC (yg yy) * E) qf, ia (ad 5) (ck 5) (gC (yg yy)) (fun i => nI (of i))] U.heap ∧ va_K (dC, dI) classes [((xK 3), .int), ((xK 4), .int), ((xK 5), .int), ((xK 6), .int), ((xK 7), .int), ((xK 8), .int), ((xK 9), .int), ((xK 10), .int), ((xK 11), .int), (l2, .int), (l3, .int), ((pK 2), .int), ((pK 4), .int), ((pK 8), .int), ((pK 9), .int), ((pK 10), .int), ((ck 1), .long), ((ck 2), .int), ((ck 3), .int), ((ck 4), .int), ((ck 5), .int)] U ∧ va_D (fun _ => True) [oc xa 6 [.ref pa, .ref ga, .ref (xA 0), .ref (xA 1), .ref (xA 2), .ref (xA 3), .ref (xA 4), .ref (xA 5), .ref (xA 6), .ref (xA 7), .ref (xA 8), .ref (xA 9), .ref (xA 10), .ref (xA 11), .ref fa, .int (nI md), .int (nI mb)], ia (xA 3) (xK 3) 7 (fun i => nI ((sc 3) i)), ia (xA 4) (xK 4) 7 (fun i => nI ((sc 4) i)), ia (xA 5) (xK 5) 7 (fun i => nI ((sc 5) i)), ia (xA 6) (xK 6) 8 (fun i => nI ((sc 6) i)), ia (xA 7) (xK 7) 4 (fun i => nI ((sc 7) i)), ia (xA 8) (xK 8) 4 (fun i => nI ((yl yy) i)), ia (xA 9) (xK 9) 7 (fun i => nI ((yb yy) i)), ia (xA 10) (xK 10) 7 (fun i => nI ((yo yy) i)), ia (xA 11) (xK 11) 7 (fun i => nI ((yh yy) i)), oc ga 1 [.ref pa, .ref g1, .ref g2, .ref g3, .int (nI dn), .long so], ia g2 l2 8 rg, ia g3 l3 8 vl, oc pa 0 [.ref (pA 0), .ref (pA 1), .ref (pA 2), .ref (pA 3), .ref (pA 4), .ref (pA 5), .ref (pA 6), .ref (pA 7), .ref (pA 8), .ref (pA 9), .ref (pA 10), .int (nI T), .int (nI Ac)], ia (pA 2) (pK 2) 7 (fun i => nI ((pg 2) i)), ia (pA 4) (pK 4) 7 (fun i => nI ((pg 4) i)), ia (pA 8) (pK 8) 4 (fun i => nI ((pg 8) i)), ia (pA 9) (pK 9) 6 (fun i => nI ((pg 9) i)), ia (pA 10) (pK 10) 3 (fun i => nI ((pg 10) i)), oc fa 3 [.int (nI E), .ref (ad 1), .ref (ad 2), .ref (ad 3), .ref (ad 4), .ref (ad 5), .int (nI ((gF (yg yy)).length)), .int (nI (ys yy)), .int rd], la (ad 1) (ck 1) (gC (yg yy)) rf, ia (ad 2) (ck 2) (gC (yg yy)) vf, ia (ad 3) (ck 3) (gC (yg yy)) lf, ia (ad 4) (ck 4) (gC (yg yy) * E) qf, ia (ad 5) (ck 5) (gC (yg yy)) (fun i => nI (of i))] ∧ nw U)) (va_Qv (fun _ : Unit => True) (fun _ t9 => ∃ (ad2 : Nat → Nat) (ck2 : Nat → ClassId) (rf2 : Nat → Int64) (vf2 : Nat → Int32) (lf2 : Nat → Int32) (qf2 : Nat → Int32) (of2 : Nat → Nat), okH (yg yz) rf2 vf2 of2 ∧ YOk yz ∧ (∀ r, row < r → yl yz r = yl yy r) ∧ va_P (dC, dI) classes [oc xa 6 [.ref pa, .ref ga, .ref (xA 0), .ref (xA 1), .ref (xA 2), .ref (xA 3), .ref (xA 4), .ref (xA 5), .ref (xA 6), .ref (xA 7), .ref (xA 8), .ref (xA 9), .ref (xA 10), .ref (xA 11), .ref fa, .int (nI md), .int (nI mb)], ia (xA 3) (xK 3) 7 (fun i => nI ((sc 3) i)), ia (xA 4) (xK 4) 7 (fun i => nI ((sc 4) i)), ia (xA 5) (xK 5) 7 (fun i => nI ((sc 5) i)), ia (xA 6) (xK 6) 8 (fun i => nI ((sc 6) i)), ia (xA 7) (xK 7) 4 (fun i => nI ((sc 7) i)), ia (xA 8) (xK 8) 4 (fun i => nI ((yl yz) i)), ia (xA 9) (xK 9) 7 (fun i => nI ((yb yz) i)), ia (xA 10) (xK 10) 7 (fun i => nI ((yo yz) i)), ia (xA 11) (xK 11) 7 (fun i => nI ((yh yz) i)), oc ga 1 [.ref pa, .ref g1, .ref g2, .ref g3, .int (nI dn), .long so], ia g2 l2 8 rg, ia g3 l3 8 vl, oc pa 0 [.ref (pA 0), .ref (pA 1), .ref (pA 2), .ref (pA 3), .ref (pA 4), .ref (pA 5), .ref (pA 6), .ref (pA 7), .ref (pA 8), .ref (pA 9), .ref (pA 10), .int (nI T), .int (nI Ac)], ia (pA 2) (pK 2) 7 (fun i => nI ((pg 2) i)), ia (pA 4) (pK 4) 7 (fun i => nI ((pg 4) i)), ia (pA 8) (pK 8) 4 (fun i => nI ((pg 8) i)), ia (pA 9) (pK 9) 6 (fun i => nI ((pg 9) i)), ia (pA 10) (pK 10) 3 (fun i => nI ((pg 10) i)), oc fa 3 [.int (nI E), .ref (ad2 1), .ref (ad2 2), .ref (ad2 3), .ref (ad2 4), .ref (ad2 5), .int (nI ((gF (yg yz)).length)), .int (nI (ys yz)), .int rd], la (ad2 1) (ck2 1) (gC (yg yz)) rf2, ia (ad2 2) (ck2 2) (gC (yg yz)) vf2, ia (ad2 3) (ck2 3) (gC (yg yz)) lf2, ia (ad2 4) (ck2 4) (gC (yg yz) * E) qf2, ia (ad2 5) (ck2 5) (gC (yg yz)) (fun i => nI (of2 i))] t9.heap ∧ va_K (dC, dI) classes [((ck2 1), .long), ((ck2 2), .int), ((ck2 3), .int), ((ck2 4), .int), ((ck2 5), .int)] t9 ∧ va_D (va_A [oc xa 6 [.ref pa, .ref ga, .ref (xA 0), .ref (xA 1), .ref (xA 2), .ref (xA 3), .ref (xA 4), .ref (xA 5), .ref (xA 6), .ref (xA 7), .ref (xA 8), .ref (xA 9), .ref (xA 10), .ref (xA 11), .ref fa, .int (nI md), .int (nI mb)], ia (xA 3) (xK 3) 7 (fun i => nI ((sc 3) i)), ia (xA 4) (xK 4) 7 (fun i => nI ((sc 4) i)), ia (xA 5) (xK 5) 7 (fun i => nI ((sc 5) i)), ia (xA 6) (xK 6) 8 (fun i => nI ((sc 6) i)), ia (xA 7) (xK 7) 4 (fun i => nI ((sc 7) i)), ia (xA 8) (xK 8) 4 (fun i => nI ((yl yy) i)), ia (xA 9) (xK 9) 7 (fun i => nI ((yb yy) i)), ia (xA 10) (xK 10) 7 (fun i => nI ((yo yy) i)), ia (xA 11) (xK 11) 7 (fun i => nI ((yh yy) i)), oc ga 1 [.ref pa, .ref g1, .ref g2, .ref g3, .int (nI dn), .long so], ia g2 l2 8 rg, ia g3 l3 8 vl, oc pa 0 [.ref (pA 0), .ref (pA 1), .ref (pA 2), .ref (pA 3), .ref (pA 4), .ref (pA 5), .ref (pA 6), .ref (pA 7), .ref (pA 8), .ref (pA 9), .ref (pA 10), .int (nI T), .int (nI Ac)], ia (pA 2) (pK 2) 7 (fun i => nI ((pg 2) i)), ia (pA 4) (pK 4) 7 (fun i => nI ((pg 4) i)), ia (pA 8) (pK 8) 4 (fun i => nI ((pg 8) i)), ia (pA 9) (pK 9) 6 (fun i => nI ((pg 9) i)), ia (pA 10) (pK 10) 3 (fun i => nI ((pg 10) i)), oc fa 3 [.int (nI E), .ref (ad 1), .ref (ad 2), .ref (ad 3), .ref (ad 4), .ref (ad 5), .int (nI ((gF (yg yy)).length)), .int (nI (ys yy)), .int rd], la (ad 1) (ck 1) (gC (yg yy)) rf, ia (ad 2) (ck 2) (gC (yg yy)) vf, ia (ad 3) (ck 3) (gC (yg yy)) lf, ia (ad 4) (ck 4) (gC (yg yy) * E) qf, ia (ad 5) (ck 5) (gC (yg yy)) (fun i => nI (of i))] sz) [oc xa 6 [.ref pa, .ref ga, .ref (xA 0), .ref (xA 1), .ref (xA 2), .ref (xA 3), .ref (xA 4), .ref (xA 5), .ref (xA 6), .ref (xA 7), .ref (xA 8), .ref (xA 9), .ref (xA 10), .ref (xA 11), .ref fa, .int (nI md), .int (nI mb)], ia (xA 3) (xK 3) 7 (fun i => nI ((sc 3) i)), ia (xA 4) (xK 4) 7 (fun i => nI ((sc 4) i)), ia (xA 5) (xK 5) 7 (fun i => nI ((sc 5) i)), ia (xA 6) (xK 6) 8 (fun i => nI ((sc 6) i)), ia (xA 7) (xK 7) 4 (fun i => nI ((sc 7) i)), ia (xA 8) (xK 8) 4 (fun i => nI ((yl yz) i)), ia (xA 9) (xK 9) 7 (fun i => nI ((yb yz) i)), ia (xA 10) (xK 10) 7 (fun i => nI ((yo yz) i)), ia (xA 11) (xK 11) 7 (fun i => nI ((yh yz) i)), oc ga 1 [.ref pa, .ref g1, .ref g2, .ref g3, .int (nI dn), .long so], ia g2 l2 8 rg, ia g3 l3 8 vl, oc pa 0 [.ref (pA 0), .ref (pA 1), .ref (pA 2), .ref (pA 3), .ref (pA 4), .ref (pA 5), .ref (pA 6), .ref (pA 7), .ref (pA 8), .ref (pA 9), .ref (pA 10), .int (nI T), .int (nI Ac)], ia (pA 2) (pK 2) 7 (fun i => nI ((pg 2) i)), ia (pA 4) (pK 4) 7 (fun i => nI ((pg 4) i)), ia (pA 8) (pK 8) 4 (fun i => nI ((pg 8) i)), ia (pA 9) (pK 9) 6 (fun i => nI ((pg 9) i)), ia (pA 10) (pK 10) 3 (fun i => nI ((pg 10) i)), oc fa 3 [.int (nI E), .ref (ad2 1), .ref (ad2 2), .ref (ad2 3), .ref (ad2 4), .ref (ad2 5), .int (nI ((gF (yg yz)).length)), .int (nI (ys yz)), .int rd], la (ad2 1) (ck2 1) (gC (yg yz)) rf2, ia (ad2 2) (ck2 2) (gC (yg yz)) vf2, ia (ad2 3) (ck2 3) (gC (yg yz)) lf2, ia (ad2 4) (ck2 4) (gC (yg yz) * E) qf2, ia (ad2 5) (ck2 5) (gC (yg yz)) (fun i => nI (of2 i))]) (va_A [oc xa 6 [.ref pa, .ref ga, .ref (xA 0), .ref (xA 1), .ref (xA 2), .ref (xA 3), .ref (xA 4), .ref (xA 5), .ref (xA 6), .ref (xA 7), .ref (xA 8), .ref (xA 9), .ref (xA 10), .ref (xA 11), .ref fa, .int (nI md), .int (nI mb)], ia (xA 3) (xK 3) 7 (fun i => nI ((sc 3) i)), ia (xA 4) (xK 4) 7 (fun i => nI ((sc 4) i)), ia (xA 5) (xK 5) 7 (fun i => nI ((sc 5) i)), ia (xA 6) (xK 6) 8 (fun i => nI ((sc 6) i)), ia (xA 7) (xK 7) 4 (fun i => nI ((sc 7) i)), ia (xA 8) (xK 8) 4 (fun i => nI ((yl yy) i)), ia (xA 9) (xK 9) 7 (fun i => nI ((yb yy) i)), ia (xA 10) (xK 10) 7 (fun i => nI ((yo yy) i)), ia (xA 11) (xK 11) 7 (fun i => nI ((yh yy) i)), oc ga 1 [.ref pa, .ref g1, .ref g2, .ref g3, .int (nI dn), .long so], ia g2 l2 8 rg, ia g3 l3 8 vl, oc pa 0 [.ref (pA 0), .ref (pA 1), .ref (pA 2), .ref (pA 3), .ref (pA 4), .ref (pA 5), .ref (pA 6), .ref (pA 7), .ref (pA 8), .ref (pA 9), .ref (pA 10), .int (nI T), .int (nI Ac)], ia (pA 2) (pK 2) 7 (fun i => nI ((pg 2) i)), ia (pA 4) (pK 4) 7 (fun i => nI ((pg 4) i)), ia (pA 8) (pK 8) 4 (fun i => nI ((pg 8) i)), ia (pA 9) (pK 9) 6 (fun i => nI ((pg 9) i)), ia (pA 10) (pK 10) 3 (fun i => nI ((pg 10) i)), oc fa 3 [.int (nI E), .ref (ad 1), .ref (ad 2), .ref (ad 3), .ref (ad 4), .ref (ad 5), .int (nI ((gF (yg yy)).length)), .int (nI (ys yy)), .int rd], la (ad 1) (ck 1) (gC (yg yy)) rf, ia (ad 2) (ck 2) (gC (yg yy)) vf, ia (ad 3) (ck 3) (gC (yg yy)) lf, ia (ad 4) (ck 4) (gC (yg yy) * E) qf, ia (ad 5) (ck 5) (gC (yg yy)) (fun i => nI (of i))] sz)) (gc (yg yz) - gc (yg yy)) (gs (yg yz) - gs (yg yy)) (va_A [oc xa 6 [.ref pa, .ref ga, .ref (xA 0), .ref (xA 1), .ref (xA 2), .ref (xA 3), .ref (xA 4), .ref (xA 5), .ref (xA 6), .ref (xA 7), .ref (xA 8), .ref (xA 9), .ref (xA 10), .ref (xA 11), .ref fa, .int (nI md), .int (nI mb)], ia (xA 3) (xK 3) 7 (fun i => nI ((sc 3) i)), ia (xA 4) (xK 4) 7 (fun i => nI ((sc 4) i)), ia (xA 5) (xK 5) 7 (fun i => nI ((sc 5) i)), ia (xA 6) (xK 6) 8 (fun i => nI ((sc 6) i)), ia (xA 7) (xK 7) 4 (fun i => nI ((sc 7) i)), ia (xA 8) (xK 8) 4 (fun i => nI ((yl yy) i)), ia (xA 9) (xK 9) 7 (fun i => nI ((yb yy) i)), ia (xA 10) (xK 10) 7 (fun i => nI ((yo yy) i)), ia (xA 11) (xK 11) 7 (fun i => nI ((yh yy) i)), oc ga 1 [.ref pa, .ref g1, .ref g2, .ref g3, .int (nI dn), .long so], ia g2 l2 8 rg, ia g3 l3 8 vl, oc pa 0 [.ref (pA 0), .ref (pA 1), .ref (pA 2), .ref (pA 3), .ref (pA 4), .ref (pA 5), .ref (pA 6), .ref (pA 7), .ref (pA 8), .ref (pA 9), .ref (pA 10), .int (nI T), .int (nI Ac)], ia (pA 2) (pK 2) 7 (fun i => nI ((pg 2) i)), ia (pA 4) (pK 4) 7 (fun i => nI ((pg 4) i)), ia (pA 8) (pK 8) 4 (fun i => nI ((pg 8) i)), ia (pA 9) (pK 9) 6 (fun i => nI ((pg 9) i)), ia (pA 10) (pK 10) 3 (fun i => nI ((pg 10) i)), oc fa 3 [.int (nI E), .ref (ad 1), .ref (ad 2), .ref (ad 3), .ref (ad 4), .ref (ad 5), .int (nI ((gF (yg yy)).length)), .int (nI (ys yy)), .int rd], la (ad 1) (ck 1) (gC (yg yy)) rf, ia (ad 2) (ck 2) (gC (yg yy)) vf, ia (ad 3) (ck 3) (gC (yg yy)) lf, ia (ad 4) (ck 4) (gC (yg yy) * E) qf, ia (ad 5) (ck 5) (gC (yg yy)) (fun i => nI (of i))] sz) := by
  refine Met.ofW (cc := b_GraphSearch_lay) (maxL := 12) (ret := none) (by decide) rfl ?_
  intro p e0 s m args below meth c s₁ B hml hv
  obtain ⟨rfl, hsz, hP, hK, hD0, hn⟩ := hv
  have hx := B.exec
  have hb := B.bytes
  have hr := B.returns
  have hw := fun w (h : w ∈ wt) => atoms_spec (ws := w_GraphSearch_lay) B.pre w (List.mem_cons_of_mem _ h)
  have hown : s.vm.findClass R_GraphSearch = some m.cls := findClass_of_methodNamed B.named
  have hlocks := B.notSynchronized
  subst hsz
  have hD1 := hD0.self (sz := s.heap.size)
  generalize hAe : va_A [oc xa 6 [.ref pa, .ref ga, .ref (xA 0), .ref (xA 1), .ref (xA 2), .ref (xA 3), .ref (xA 4), .ref (xA 5), .ref (xA 6), .ref (xA 7), .ref (xA 8), .ref (xA 9), .ref (xA 10), .ref (xA 11), .ref fa, .int (nI md), .int (nI mb)], ia (xA 3) (xK 3) 7 (fun i => nI ((sc 3) i)), ia (xA 4) (xK 4) 7 (fun i => nI ((sc 4) i)), ia (xA 5) (xK 5) 7 (fun i => nI ((sc 5) i)), ia (xA 6) (xK 6) 8 (fun i => nI ((sc 6) i)), ia (xA 7) (xK 7) 4 (fun i => nI ((sc 7) i)), ia (xA 8) (xK 8) 4 (fun i => nI ((yl yy) i)), ia (xA 9) (xK 9) 7 (fun i => nI ((yb yy) i)), ia (xA 10) (xK 10) 7 (fun i => nI ((yo yy) i)), ia (xA 11) (xK 11) 7 (fun i => nI ((yh yy) i)), oc ga 1 [.ref pa, .ref g1, .ref g2, .ref g3, .int (nI dn), .long so], ia g2 l2 8 rg, ia g3 l3 8 vl, oc pa 0 [.ref (pA 0), .ref (pA 1), .ref (pA 2), .ref (pA 3), .ref (pA 4), .ref (pA 5), .ref (pA 6), .ref (pA 7), .ref (pA 8), .ref (pA 9), .ref (pA 10), .int (nI T), .int (nI Ac)], ia (pA 2) (pK 2) 7 (fun i => nI ((pg 2) i)), ia (pA 4) (pK 4) 7 (fun i => nI ((pg 4) i)), ia (pA 8) (pK 8) 4 (fun i => nI ((pg 8) i)), ia (pA 9) (pK 9) 6 (fun i => nI ((pg 9) i)), ia (pA 10) (pK 10) 3 (fun i => nI ((pg 10) i)), oc fa 3 [.int (nI E), .ref (ad 1), .ref (ad 2), .ref (ad 3), .ref (ad 4), .ref (ad 5), .int (nI ((gF (yg yy)).length)), .int (nI (ys yy)), .int rd], la (ad 1) (ck 1) (gC (yg yy)) rf, ia (ad 2) (ck 2) (gC (yg yy)) vf, ia (ad 3) (ck 3) (gC (yg yy)) lf, ia (ad 4) (ck 4) (gC (yg yy) * E) qf, ia (ad 5) (ck 5) (gC (yg yy)) (fun i => nI (of i))] s.heap.size = A at hD1 ⊢
  have hA : ∀ q : Nat, s.heap.size ≤ q → A q := fun q h => by rw [← hAe]; exact Or.inr h
  have hD : dd A [xa, (xA 3), (xA 4), (xA 5), (xA 6), (xA 7), (xA 8), (xA 9), (xA 10), (xA 11), ga, g2, g3, pa, (pA 2), (pA 4), (pA 8), (pA 9), (pA 10), fa, (ad 1), (ad 2), (ad 3), (ad 4), (ad 5)] := dd_of hD1 rfl
  clear hAe hD0 hD1
  have hS : va_S A s.heap s.heap [] := va_S.rf
  replace hP : va_P (dC, dI) classes [oc xa 6 [.ref pa, .ref ga, .ref (xA 0), .ref (xA 1), .ref (xA 2), .ref (xA 3), .ref (xA 4), .ref (xA 5), .ref (xA 6), .ref (xA 7), .ref (xA 8), .ref (xA 9), .ref (xA 10), .ref (xA 11), .ref fa, .int (nI md), .int (nI mb)], ia (xA 3) (xK 3) 7 (fun i => nI ((sc 3) i)), ia (xA 4) (xK 4) 7 (fun i => nI ((sc 4) i)), ia (xA 5) (xK 5) 7 (fun i => nI ((sc 5) i)), ia (xA 6) (xK 6) 8 (fun i => nI ((sc 6) i)), ia (xA 7) (xK 7) 4 (fun i => nI ((sc 7) i)), ia (xA 8) (xK 8) 4 (fun i => nI ((yl yy) i)), ia (xA 9) (xK 9) 7 (fun i => nI ((yb yy) i)), ia (xA 10) (xK 10) 7 (fun i => nI ((yo yy) i)), ia (xA 11) (xK 11) 7 (fun i => nI ((yh yy) i)), oc ga 1 [.ref pa, .ref g1, .ref g2, .ref g3, .int (nI dn), .long so], ia g2 l2 8 rg, ia g3 l3 8 vl, oc pa 0 [.ref (pA 0), .ref (pA 1), .ref (pA 2), .ref (pA 3), .ref (pA 4), .ref (pA 5), .ref (pA 6), .ref (pA 7), .ref (pA 8), .ref (pA 9), .ref (pA 10), .int (nI T), .int (nI Ac)], ia (pA 2) (pK 2) 7 (fun i => nI ((pg 2) i)), ia (pA 4) (pK 4) 7 (fun i => nI ((pg 4) i)), ia (pA 8) (pK 8) 4 (fun i => nI ((pg 8) i)), ia (pA 9) (pK 9) 6 (fun i => nI ((pg 9) i)), ia (pA 10) (pK 10) 3 (fun i => nI ((pg 10) i)), oc fa 3 [.int (nI E), .ref (ad 1), .ref (ad 2), .ref (ad 3), .ref (ad 4), .ref (ad 5), .int (nI ((gF (yg yy)).length)), .int (nI (ys yy)), .int rd], la (ad 1) (ck 1) (gC (yg yy)) rf, ia (ad 2) (ck 2) (gC (yg yy)) vf, ia (ad 3) (ck 3) (gC (yg yy)) lf, ia (ad 4) (ck 4) (gC (yg yy) * E) qf, ia (ad 5) (ck 5) (gC (yg yy)) (fun i => nI (of i))] s.heap := hP
  have hl := lv_entry ([.ref xa, .int (nI row), .int (nI last), .int (nI todo), .int (nI ah), .int (nI se), .int (nI d)]) (n := 12) (Nat.le_of_ble_eq_true rfl)
  rw [lg_entry_eq]
  generalize (lg_sl ([.ref xa, .int (nI row), .int (nI last), .int (nI todo), .int (nI ah), .int (nI se), .int (nI d)]) ++ List.replicate (12 - (lg_sl ([.ref xa, .int (nI row), .int (nI last), .int (nI todo), .int (nI ah), .int (nI se), .int (nI d)])).length) Slot.unset).toArray = ls at hl ⊢
  replace hl : lv_has ls 12 [(0, .ref xa), (1, .int (nI row)), (2, .int (nI last)), (3, .int (nI todo)), (4, .int (nI ah)), (5, .int (nI se)), (6, .int (nI d))] := hl
  have hPg3 := hPg
  obtain ⟨p1, p2, p3, p4, p5, p6, p7, p8, p9, p10, p11⟩ := hPg3
  obtain ⟨m1, m2, m3, m4⟩ : gle (yg yy) (yg yz) := by rw [← hgo]; exact ymono_lay hmo _ _ _ _ _ _
  refine lv_iload hx hb d_GraphSearch_lay_0 (lv_at hl 6 rfl) ?_
  refine lv_bipush (v := 11) hx hb d_GraphSearch_lay_2 (by decide) ?_
  refine lv_icmp_le (tgt := 8) hx hb d_GraphSearch_lay_4 (by decide) (fun c1 => ?_) (fun c1 => ?_)
  · skip
    have hc1 : d ≤ 11 := (nI_leI (a := d) (b := 11) (by omega) (by omega)).mp c1
    have hlt : d < 12 := by omega
    rw [layS, if_neg (by omega)] at hgo
    refine tp_pc (pc' := 8) (by rfl) ?_
    refine lv_iload_n hx hb d_GraphSearch_lay_8 rfl (lv_at hl 3 rfl) ?_
    refine lv_if_ne (tgt := 31) hx hb d_GraphSearch_lay_9 (by decide) (fun c2 => ?_) (fun c2 => ?_)
    · skip
      have hc2 : ¬ (todo = 0) := fun q9 => c2 ((nI_eq (a := todo) (b := 0) (by omega) (by omega)).mpr q9)
      rw [if_neg hc2] at hgo
      have ad8 : adL pg row todo < 128 := by unfold adL; split; (decide); (exact Nat.and_lt_two_pow (n := 7) _ (p7 3))
      have rl8 : (if last = 0 then sc 7 row else sc 6 last) < 128 := by split; (exact h7 _); (exact h6 _)
      have bd8 : bdL pg sc row last todo < 128 := by unfold bdL; exact Nat.and_lt_two_pow (n := 7) _ rl8
      have ch8 : chL pg sc row last todo < 128 := by unfold chL; split; (exact andn_lt hto); (exact bd8)
      refine tp_pc (pc' := 31) (by rfl) ?_
      refine lp_j 95 (fun ls => lv_has ls 12 [(9, .int (nI (chL pg sc row last todo))), (0, .ref xa), (1, .int (nI row)), (2, .int (nI last)), (3, .int (nI todo)), (4, .int (nI ah)), (5, .int (nI se)), (6, .int (nI d))]) ?_ ?_
      · intro ls hl
        refine lv_iconst (v := 0) hx hb d_GraphSearch_lay_95 (by decide) ?_
        refine lv_istore (lv' := [(10, .int 0), (9, .int (nI (chL pg sc row last todo))), (0, .ref xa), (1, .int (nI row)), (2, .int (nI last)), (3, .int (nI todo)), (4, .int (nI ah)), (5, .int (nI se)), (6, .int (nI d))]) hx hb d_GraphSearch_lay_96 hl (by decide) rfl ?_
        clear hl ls
        intro ls hl
        replace hl : lv_has ls 12 [(10, .int (nI 0)), (9, .int (nI (chL pg sc row last todo))), (0, .ref xa), (1, .int (nI row)), (2, .int (nI last)), (3, .int (nI todo)), (4, .int (nI ah)), (5, .int (nI se)), (6, .int (nI d))] := hl
        have hK8 := hK.sub (tys' := [((xK 3), .int), ((xK 4), .int), ((xK 5), .int), ((xK 6), .int), ((xK 7), .int), ((xK 8), .int), ((xK 9), .int), ((xK 10), .int), ((xK 11), .int), (l2, .int), (l3, .int), ((pK 2), .int), ((pK 4), .int), ((pK 8), .int), ((pK 9), .int), ((pK 10), .int), ((ck 1), .long), ((ck 2), .int), ((ck 3), .int), ((ck 4), .int), ((ck 5), .int)]) [0, 1, 2, 3, 4, 5, 6, 7, 8, 9, 10, 11, 12, 13, 14, 15, 16, 17, 18, 19, 20] rfl
        refine lp_c Ac (fun i1 kc ks H locs ls => ∃ (yi : Y9) (ad5 : Nat → Nat) (ck5 : Nat → ClassId) (rf5 : Nat → Int64) (vf5 : Nat → Int32) (lf5 : Nat → Int32) (qf5 : Nat → Int32) (of5 : Nat → Nat), lpW pg sc nx row last todo ah se i1 yy = yi ∧ okH (yg yi) rf5 vf5 of5 ∧ YOk yi ∧ (∀ r, row < r → yl yi r = yl yy r) ∧ kc = gc (yg yi) - gc (yg yy) ∧ ks = gs (yg yi) - gs (yg yy) ∧ va_P (dC, dI) classes [oc xa 6 [.ref pa, .ref ga, .ref (xA 0), .ref (xA 1), .ref (xA 2), .ref (xA 3), .ref (xA 4), .ref (xA 5), .ref (xA 6), .ref (xA 7), .ref (xA 8), .ref (xA 9), .ref (xA 10), .ref (xA 11), .ref fa, .int (nI md), .int (nI mb)], ia (xA 3) (xK 3) 7 (fun i => nI ((sc 3) i)), ia (xA 4) (xK 4) 7 (fun i => nI ((sc 4) i)), ia (xA 5) (xK 5) 7 (fun i => nI ((sc 5) i)), ia (xA 6) (xK 6) 8 (fun i => nI ((sc 6) i)), ia (xA 7) (xK 7) 4 (fun i => nI ((sc 7) i)), ia (xA 8) (xK 8) 4 (fun i => nI ((yl yi) i)), ia (xA 9) (xK 9) 7 (fun i => nI ((yb yi) i)), ia (xA 10) (xK 10) 7 (fun i => nI ((yo yi) i)), ia (xA 11) (xK 11) 7 (fun i => nI ((yh yi) i)), oc ga 1 [.ref pa, .ref g1, .ref g2, .ref g3, .int (nI dn), .long so], ia g2 l2 8 rg, ia g3 l3 8 vl, oc pa 0 [.ref (pA 0), .ref (pA 1), .ref (pA 2), .ref (pA 3), .ref (pA 4), .ref (pA 5), .ref (pA 6), .ref (pA 7), .ref (pA 8), .ref (pA 9), .ref (pA 10), .int (nI T), .int (nI Ac)], ia (pA 2) (pK 2) 7 (fun i => nI ((pg 2) i)), ia (pA 4) (pK 4) 7 (fun i => nI ((pg 4) i)), ia (pA 8) (pK 8) 4 (fun i => nI ((pg 8) i)), ia (pA 9) (pK 9) 6 (fun i => nI ((pg 9) i)), ia (pA 10) (pK 10) 3 (fun i => nI ((pg 10) i)), oc fa 3 [.int (nI E), .ref (ad5 1), .ref (ad5 2), .ref (ad5 3), .ref (ad5 4), .ref (ad5 5), .int (nI ((gF (yg yi)).length)), .int (nI (ys yi)), .int rd], la (ad5 1) (ck5 1) (gC (yg yi)) rf5, ia (ad5 2) (ck5 2) (gC (yg yi)) vf5, ia (ad5 3) (ck5 3) (gC (yg yi)) lf5, ia (ad5 4) (ck5 4) (gC (yg yi) * E) qf5, ia (ad5 5) (ck5 5) (gC (yg yi)) (fun i => nI (of5 i))] H ∧ va_K (dC, dI) classes [((xK 3), .int), ((xK 4), .int), ((xK 5), .int), ((xK 6), .int), ((xK 7), .int), ((xK 8), .int), ((xK 9), .int), ((xK 10), .int), ((xK 11), .int), (l2, .int), (l3, .int), ((pK 2), .int), ((pK 4), .int), ((pK 8), .int), ((pK 9), .int), ((pK 10), .int), ((ck5 1), .long), ((ck5 2), .int), ((ck5 3), .int), ((ck5 4), .int), ((ck5 5), .int)] s ∧ dd A [xa, (xA 3), (xA 4), (xA 5), (xA 6), (xA 7), (xA 8), (xA 9), (xA 10), (xA 11), ga, g2, g3, pa, (pA 2), (pA 4), (pA 8), (pA 9), (pA 10), fa, (ad5 1), (ad5 2), (ad5 3), (ad5 4), (ad5 5)] ∧ va_S A s.heap H locs ∧ lv_has ls 12 [(10, .int (nI i1)), (9, .int (nI (chL pg sc row last todo))), (0, .ref xa), (1, .int (nI row)), (2, .int (nI last)), (3, .int (nI todo)), (4, .int (nI ah)), (5, .int (nI se)), (6, .int (nI d))]) ⟨yy, ad, ck, rf, vf, lf, qf, of, rfl, hF9, hYy, fun _ _ => rfl, by omega, by omega, hP, hK8, hD, hS, hl⟩ ?_ ?_
        · clear hP hK8 hK hD hS hl
          intro i1 kc ks H locs ls hi1 hI ih
          obtain ⟨yi, ad5, ck5, rf5, vf5, lf5, qf5, of5,  hyi, xF5, xY5, xL5, rfl, rfl, hP, hK, hD, hS, hl⟩ := hI
          obtain ⟨n11, n12, n13, n14⟩ : gle (yg yy) (yg yi) := by rw [← hyi]; exact gle_lpW hmo (i := 0) (Nat.zero_le _)
          obtain ⟨n01, n02, n03, n04⟩ : gle (yg yi) (yg yz) := by rw [← hyi, ← hgo]; exact gle_lpW hmo (by omega)
          obtain ⟨k1, k2, k3, k4, k5, k6⟩ := p5 i1 hi1
          have af8 := aft_lt p6 i1
          refine lv_iload hx hb d_GraphSearch_lay_98 (lv_at hl 0 rfl) ?_
          refine lv_aload_n hx hb d_GraphSearch_lay_100 rfl (lv_at hl 2 rfl) ?_
          refine va_get (D := (dC, dI)) (ci := 6) (v := .ref pa) (C := R_GraphSearch) (T := F_GraphSearch) (N := 17) hx hb hw i_GraphSearch hown hK hP 0 rfl rfl 0 (by decide) (hw _ m_319) (fun _ h9 => h9) rfl d_GraphSearch_lay_101 ?_
          refine va_get (D := (dC, dI)) (ci := 0) (v := .int (nI Ac)) (C := R_Program) (T := F_Program) (N := 13) hx hb hw i_Program hown hK hP 13 rfl rfl 12 (by decide) (hw _ m_166) (fun _ h9 => h9) rfl d_GraphSearch_lay_104 ?_
          refine lv_icmp_ge (tgt := 212) hx hb d_GraphSearch_lay_107 (by decide) (fun c9 => absurd c9 (nI_ge hi1 (by omega))) (fun c9 => ?_)
          refine tp_pc (pc' := 110) (by rfl) ?_
          refine lv_iload hx hb d_GraphSearch_lay_110 (lv_at hl 1 rfl) ?_
          refine lv_iload hx hb d_GraphSearch_lay_112 (lv_at hl 0 rfl) ?_
          obtain ⟨b9, hb9⟩ : ∃ b9, b9 = chL pg sc row last todo / 2 ^ i1 % 2 := ⟨_, rfl⟩
          have hb92 : b9 < 2 := by rw [hb9]; exact Nat.mod_lt _ (by decide)
          obtain ⟨hPc, hDc, hFc⟩ := cut3 (wc := []) hP hD rfl hS hA [] (by decide +kernel) rfl
          have hKc := hK.sub (tys' := []) [] rfl
          refine va_calli (va_runSN (As := [.int (nI (chL pg sc row last todo)), .int (nI i1)]) (rest := []) ⟨hx, hb, hml, hown, hw⟩ (gen_isIn l dC dI (chL pg sc row last todo) i1 (by omega) (by omega) H.size) (⟨va_cnB 2 hw g_OM_isIn rfl rfl rfl (hn.1 (R_GraphSearch, 166, y_OM_isIn, "OrderModels") (nq 3 (by rfl))) (hw _ m_101) (by decide +kernel) ⟨by show _ ≤ (fr + 2 : Nat); (try dsimp only); omega, by show _ ≤ (lo + 80 : Nat); (try dsimp only); omega⟩, hw _ m_560, trivial⟩) ⟨fun a U g mk q => by obtain ⟨q0, q1, qP, qK, qD, qN⟩ := q; exact ⟨q0, q1, qP, va_K.moved (u := U) (U := U.calling g mk a) (Vm.Alike.refl U.vm) qK, qD, nw_call qN⟩, fun U hU hW => ⟨rfl, by rw [hU], by rw [hU]; exact hPc, va_K.moved hW.alike hKc, hDc.weaken (fun _ _ _ _ => trivial), nw_warm hW hn⟩⟩ rfl rfl hl.1 rfl (lv_room (Nat.le_of_ble_eq_true rfl)) d_GraphSearch_lay_114 ⟨by show _ ≤ (gc (yg yz) - gc (yg yy) : Nat); (try dsimp only); omega, by show _ ≤ (gs (yg yz) - gs (yg yy) : Nat); (try dsimp only); omega⟩) hS (fun q _ h => hFc q h) hFc ?_
          intro r_1 u t9 H1 locs1 ht9 hvm hw1 hB hz1 hk1 hS1
          obtain ⟨hP1, hK1, hD1⟩ := hB
          rw [ht9] at hP1
          replace hK1 := va_K.moved hvm.symm hK1
          have hPD := join3 hP hD rfl [] [0, 1, 2, 3, 4, 5, 6, 7, 8, 9, 10, 11, 12, 13, 14, 15, 16, 17, 18, 19, 20, 21, 22, 23, 24] rfl (by rfl) (by decide +kernel) (by decide +kernel) hk1 hFc hP1 hD1
          replace hK : va_K (dC, dI) classes [((xK 3), .int), ((xK 4), .int), ((xK 5), .int), ((xK 6), .int), ((xK 7), .int), ((xK 8), .int), ((xK 9), .int), ((xK 10), .int), ((xK 11), .int), (l2, .int), (l3, .int), ((pK 2), .int), ((pK 4), .int), ((pK 8), .int), ((pK 9), .int), ((pK 10), .int), ((ck5 1), .long), ((ck5 2), .int), ((ck5 3), .int), ((ck5 4), .int), ((ck5 5), .int)] s := hK.app hK1
          clear hP1 hK1 hD1 hk1 hz1 hFc hKc hDc hPc hvm ht9 hP hS t9 locs H
          have hP : va_P (dC, dI) classes [oc xa 6 [.ref pa, .ref ga, .ref (xA 0), .ref (xA 1), .ref (xA 2), .ref (xA 3), .ref (xA 4), .ref (xA 5), .ref (xA 6), .ref (xA 7), .ref (xA 8), .ref (xA 9), .ref (xA 10), .ref (xA 11), .ref fa, .int (nI md), .int (nI mb)], ia (xA 3) (xK 3) 7 (fun i => nI ((sc 3) i)), ia (xA 4) (xK 4) 7 (fun i => nI ((sc 4) i)), ia (xA 5) (xK 5) 7 (fun i => nI ((sc 5) i)), ia (xA 6) (xK 6) 8 (fun i => nI ((sc 6) i)), ia (xA 7) (xK 7) 4 (fun i => nI ((sc 7) i)), ia (xA 8) (xK 8) 4 (fun i => nI ((yl yi) i)), ia (xA 9) (xK 9) 7 (fun i => nI ((yb yi) i)), ia (xA 10) (xK 10) 7 (fun i => nI ((yo yi) i)), ia (xA 11) (xK 11) 7 (fun i => nI ((yh yi) i)), oc ga 1 [.ref pa, .ref g1, .ref g2, .ref g3, .int (nI dn), .long so], ia g2 l2 8 rg, ia g3 l3 8 vl, oc pa 0 [.ref (pA 0), .ref (pA 1), .ref (pA 2), .ref (pA 3), .ref (pA 4), .ref (pA 5), .ref (pA 6), .ref (pA 7), .ref (pA 8), .ref (pA 9), .ref (pA 10), .int (nI T), .int (nI Ac)], ia (pA 2) (pK 2) 7 (fun i => nI ((pg 2) i)), ia (pA 4) (pK 4) 7 (fun i => nI ((pg 4) i)), ia (pA 8) (pK 8) 4 (fun i => nI ((pg 8) i)), ia (pA 9) (pK 9) 6 (fun i => nI ((pg 9) i)), ia (pA 10) (pK 10) 3 (fun i => nI ((pg 10) i)), oc fa 3 [.int (nI E), .ref (ad5 1), .ref (ad5 2), .ref (ad5 3), .ref (ad5 4), .ref (ad5 5), .int (nI ((gF (yg yi)).length)), .int (nI (ys yi)), .int rd], la (ad5 1) (ck5 1) (gC (yg yi)) rf5, ia (ad5 2) (ck5 2) (gC (yg yi)) vf5, ia (ad5 3) (ck5 3) (gC (yg yi)) lf5, ia (ad5 4) (ck5 4) (gC (yg yi) * E) qf5, ia (ad5 5) (ck5 5) (gC (yg yi)) (fun i => nI (of5 i))] H1 := hPD.1
          replace hD : dd A [xa, (xA 3), (xA 4), (xA 5), (xA 6), (xA 7), (xA 8), (xA 9), (xA 10), (xA 11), ga, g2, g3, pa, (pA 2), (pA 4), (pA 8), (pA 9), (pA 10), fa, (ad5 1), (ad5 2), (ad5 3), (ad5 4), (ad5 5)] := dd_of hPD.2 rfl
          clear hPD
          revert H1 locs1
          intro H locs hS hP
          refine tp_i (y := nI b9) (by rw [hw1, hb9]) ?_
          clear hw1 r_1 u
          refine tp_pc (pc' := 117) (by rfl) ?_
          refine lv_if_eq (tgt := 206) hx hb d_GraphSearch_lay_117 (by decide) (fun d1 => ?_) (fun d1 => ?_)
          · skip
            have hd1 : b9 = 0 := (nI_eq (a := b9) (b := 0) (by omega) (by omega)).mp d1
            have hcn : ¬ (chL pg sc row last todo / 2 ^ i1 % 2 = 1 ∧ sc 3 i1 &&& todo = 0 ∧ se &&& aft pg i1 = 0) := fun h => by rw [← hb9] at h; omega
            refine tp_pc (pc' := 206) (by rfl) ?_
            refine lv_iinc (v := nI (i1 + 1)) (lv' := [(10, .int (nI (i1 + 1))), (9, .int (nI (chL pg sc row last todo))), (0, .ref xa), (1, .int (nI row)), (2, .int (nI last)), (3, .int (nI todo)), (4, .int (nI ah)), (5, .int (nI se)), (6, .int (nI d))]) hx hb d_GraphSearch_lay_206 hl (k := 0) rfl (by exact nI_1 i1) (by decide) rfl ?_
            clear hl ls
            intro ls hl
            refine lv_goto (tgt := 98) hx hb d_GraphSearch_lay_209 (by decide) ?_
            refine tp_pc (pc' := 98) (by rfl) ?_
            have hK8 := hK.sub (tys' := [((xK 3), .int), ((xK 4), .int), ((xK 5), .int), ((xK 6), .int), ((xK 7), .int), ((xK 8), .int), ((xK 9), .int), ((xK 10), .int), ((xK 11), .int), (l2, .int), (l3, .int), ((pK 2), .int), ((pK 4), .int), ((pK 8), .int), ((pK 9), .int), ((pK 10), .int), ((ck5 1), .long), ((ck5 2), .int), ((ck5 3), .int), ((ck5 4), .int), ((ck5 5), .int)]) [0, 1, 2, 3, 4, 5, 6, 7, 8, 9, 10, 11, 12, 13, 14, 15, 16, 17, 18, 19, 20] rfl
            exact ih _ _ _ _ _ ⟨yi, ad5, ck5, rf5, vf5, lf5, qf5, of5,  (by rw [lpW, if_neg hcn]; exact hyi), xF5, xY5, xL5, rfl, rfl, hP, hK8, hD, hS, lv_sub hl [0, 1, 2, 3, 4, 5, 6, 7, 8] rfl⟩
          · skip
            have hd1 : ¬ (b9 = 0) := fun q9 => d1 ((nI_eq (a := b9) (b := 0) (by omega) (by omega)).mpr q9)
            have hb1 := bit0 hb92 hd1
            obtain ⟨o9, ho9⟩ : ∃ o9, o9 = sc 3 i1 &&& todo := ⟨_, rfl⟩
            have o98 : o9 < 128 := by rw [ho9]; exact Nat.and_lt_two_pow (n := 7) _ hto
            refine tp_pc (pc' := 120) (by rfl) ?_
            refine lv_aload_n hx hb d_GraphSearch_lay_120 rfl (lv_at hl 2 rfl) ?_
            refine va_get (D := (dC, dI)) (ci := 6) (v := .ref (xA 3)) (C := R_GraphSearch) (T := F_GraphSearch) (N := 17) hx hb hw i_GraphSearch hown hK hP 0 rfl rfl 5 (by decide) (hw _ m_324) (fun _ h9 => h9) rfl d_GraphSearch_lay_121 ?_
            refine lv_iload hx hb d_GraphSearch_lay_124 (lv_at hl 0 rfl) ?_
            refine va_iald (D := (dC, dI)) hx hb hK hP 1 0 rfl rfl (i := nI i1) (pk_in i1 7 (by omega)) d_GraphSearch_lay_126 ?_
            refine tp_i (y := nI ((sc 3) i1)) (by rw [show (nI i1 : Int32).toNatClampNeg = i1 from pk_cl i1]) ?_
            refine lv_iload_n hx hb d_GraphSearch_lay_127 rfl (lv_at hl 5 rfl) ?_
            refine lv_iand hx hb d_GraphSearch_lay_128 ?_
            refine tp_i (y := (nI ((sc 3) i1)) &&& (nI todo)) rfl ?_
            refine tp_i (y := nI o9) (by rw [ho9]; exact and_eq (hs3 i1 hi1) hto) ?_
            refine lv_if_ne (tgt := 206) hx hb d_GraphSearch_lay_129 (by decide) (fun d2 => ?_) (fun d2 => ?_)
            · skip
              have hd2 : ¬ (o9 = 0) := fun q9 => d2 ((nI_eq (a := o9) (b := 0) (by omega) (by omega)).mpr q9)
              have hcn : ¬ (chL pg sc row last todo / 2 ^ i1 % 2 = 1 ∧ sc 3 i1 &&& todo = 0 ∧ se &&& aft pg i1 = 0) := fun h => hd2 (by rw [ho9]; exact h.2.1)
              refine tp_pc (pc' := 206) (by rfl) ?_
              refine lv_iinc (v := nI (i1 + 1)) (lv' := [(10, .int (nI (i1 + 1))), (9, .int (nI (chL pg sc row last todo))), (0, .ref xa), (1, .int (nI row)), (2, .int (nI last)), (3, .int (nI todo)), (4, .int (nI ah)), (5, .int (nI se)), (6, .int (nI d))]) hx hb d_GraphSearch_lay_206 hl (k := 0) rfl (by exact nI_1 i1) (by decide) rfl ?_
              clear hl ls
              intro ls hl
              refine lv_goto (tgt := 98) hx hb d_GraphSearch_lay_209 (by decide) ?_
              refine tp_pc (pc' := 98) (by rfl) ?_
              have hK8 := hK.sub (tys' := [((xK 3), .int), ((xK 4), .int), ((xK 5), .int), ((xK 6), .int), ((xK 7), .int), ((xK 8), .int), ((xK 9), .int), ((xK 10), .int), ((xK 11), .int), (l2, .int), (l3, .int), ((pK 2), .int), ((pK 4), .int), ((pK 8), .int), ((pK 9), .int), ((pK 10), .int), ((ck5 1), .long), ((ck5 2), .int), ((ck5 3), .int), ((ck5 4), .int), ((ck5 5), .int)]) [0, 1, 2, 3, 4, 5, 6, 7, 8, 9, 10, 11, 12, 13, 14, 15, 16, 17, 18, 19, 20] rfl
              exact ih _ _ _ _ _ ⟨yi, ad5, ck5, rf5, vf5, lf5, qf5, of5,  (by rw [lpW, if_neg hcn]; exact hyi), xF5, xY5, xL5, rfl, rfl, hP, hK8, hD, hS, lv_sub hl [0, 1, 2, 3, 4, 5, 6, 7, 8] rfl⟩
            · skip
              have hd2 : o9 = 0 := (nI_eq (a := o9) (b := 0) (by omega) (by omega)).mp d2
              refine tp_pc (pc' := 132) (by rfl) ?_
              refine lv_iload hx hb d_GraphSearch_lay_132 (lv_at hl 7 rfl) ?_
              refine lv_aload_n hx hb d_GraphSearch_lay_134 rfl (lv_at hl 2 rfl) ?_
              refine va_get (D := (dC, dI)) (ci := 6) (v := .ref pa) (C := R_GraphSearch) (T := F_GraphSearch) (N := 17) hx hb hw i_GraphSearch hown hK hP 0 rfl rfl 0 (by decide) (hw _ m_319) (fun _ h9 => h9) rfl d_GraphSearch_lay_135 ?_
              refine lv_iload hx hb d_GraphSearch_lay_138 (lv_at hl 0 rfl) ?_
              obtain ⟨hPc, hDc, hFc⟩ := cut3 (wc := [oc pa 0 [.ref (pA 0), .ref (pA 1), .ref (pA 2), .ref (pA 3), .ref (pA 4), .ref (pA 5), .ref (pA 6), .ref (pA 7), .ref (pA 8), .ref (pA 9), .ref (pA 10), .int (nI T), .int (nI Ac)], ia (pA 2) (pK 2) 7 (fun i => nI ((pg 2) i)), ia (pA 8) (pK 8) 4 (fun i => nI ((pg 8) i))]) hP hD rfl hS hA [13, 14, 16] (by decide +kernel) rfl
              have hKc := hK.sub (tys' := [((pK 2), .int), ((pK 8), .int)]) [11, 13] rfl
              refine va_calli (va_runV (As := [.int (nI i1)]) (rest := [.int (nI se)]) ⟨hx, hb, hml, hown, hw⟩ (gen_Program_ownAfter l dC dI pa pA pK T Ac pg nm i1 (by omega) (by omega) (p6 _) H.size) (cw_V 1 hw g_Program_ownAfter rfl rfl rfl (hw _ m_102) (hw _ m_800) (hw _ m_801) (hw _ m_802) (by decide +kernel) ⟨by show _ ≤ (fr + 2 : Nat); (try dsimp only); omega, by show _ ≤ (lo + 80 : Nat); (try dsimp only); omega⟩) ⟨fun a U g mk q => by obtain ⟨q0, q1, qP, qK, qD, qN⟩ := q; exact ⟨q0, q1, qP, va_K.moved (u := U) (U := U.calling g mk a) (Vm.Alike.refl U.vm) qK, qD, nw_call qN⟩, va_recv hKc hPc (ci := 0) (q0 := 0) rfl rfl, fun U hU hW => ⟨rfl, by rw [hU], by rw [hU]; exact hPc, va_K.moved hW.alike hKc, hDc.weaken (fun _ _ _ _ => trivial), nw_warm hW hn⟩⟩ rfl rfl hl.1 rfl (lv_room (Nat.le_of_ble_eq_true rfl)) d_GraphSearch_lay_140 ⟨by show _ ≤ (gc (yg yz) - gc (yg yy) : Nat); (try dsimp only); omega, by show _ ≤ (gs (yg yz) - gs (yg yy) : Nat); (try dsimp only); omega⟩) hS (fun q _ h => hFc q h) hFc ?_
              intro r_2 u t9 H1 locs1 ht9 hvm hw1 hB hz1 hk1 hS1
              obtain ⟨hP1, hK1, hD1⟩ := hB
              rw [ht9] at hP1
              replace hK1 := va_K.moved hvm.symm hK1
              have hPD := join3 hP hD rfl [13, 14, 16] [0, 1, 2, 3, 4, 5, 6, 7, 8, 9, 10, 11, 12, 15, 17, 18, 19, 20, 21, 22, 23, 24] rfl (by rfl) (by decide +kernel) (by decide +kernel) hk1 hFc hP1 hD1
              replace hK : va_K (dC, dI) classes [((xK 3), .int), ((xK 4), .int), ((xK 5), .int), ((xK 6), .int), ((xK 7), .int), ((xK 8), .int), ((xK 9), .int), ((xK 10), .int), ((xK 11), .int), (l2, .int), (l3, .int), ((pK 2), .int), ((pK 4), .int), ((pK 8), .int), ((pK 9), .int), ((pK 10), .int), ((ck5 1), .long), ((ck5 2), .int), ((ck5 3), .int), ((ck5 4), .int), ((ck5 5), .int)] s := hK.app hK1
              clear hP1 hK1 hD1 hk1 hz1 hFc hKc hDc hPc hvm ht9 hP hS t9 locs H
              have hP : va_P (dC, dI) classes [oc xa 6 [.ref pa, .ref ga, .ref (xA 0), .ref (xA 1), .ref (xA 2), .ref (xA 3), .ref (xA 4), .ref (xA 5), .ref (xA 6), .ref (xA 7), .ref (xA 8), .ref (xA 9), .ref (xA 10), .ref (xA 11), .ref fa, .int (nI md), .int (nI mb)], ia (xA 3) (xK 3) 7 (fun i => nI ((sc 3) i)), ia (xA 4) (xK 4) 7 (fun i => nI ((sc 4) i)), ia (xA 5) (xK 5) 7 (fun i => nI ((sc 5) i)), ia (xA 6) (xK 6) 8 (fun i => nI ((sc 6) i)), ia (xA 7) (xK 7) 4 (fun i => nI ((sc 7) i)), ia (xA 8) (xK 8) 4 (fun i => nI ((yl yi) i)), ia (xA 9) (xK 9) 7 (fun i => nI ((yb yi) i)), ia (xA 10) (xK 10) 7 (fun i => nI ((yo yi) i)), ia (xA 11) (xK 11) 7 (fun i => nI ((yh yi) i)), oc ga 1 [.ref pa, .ref g1, .ref g2, .ref g3, .int (nI dn), .long so], ia g2 l2 8 rg, ia g3 l3 8 vl, ia (pA 4) (pK 4) 7 (fun i => nI ((pg 4) i)), ia (pA 9) (pK 9) 6 (fun i => nI ((pg 9) i)), ia (pA 10) (pK 10) 3 (fun i => nI ((pg 10) i)), oc fa 3 [.int (nI E), .ref (ad5 1), .ref (ad5 2), .ref (ad5 3), .ref (ad5 4), .ref (ad5 5), .int (nI ((gF (yg yi)).length)), .int (nI (ys yi)), .int rd], la (ad5 1) (ck5 1) (gC (yg yi)) rf5, ia (ad5 2) (ck5 2) (gC (yg yi)) vf5, ia (ad5 3) (ck5 3) (gC (yg yi)) lf5, ia (ad5 4) (ck5 4) (gC (yg yi) * E) qf5, ia (ad5 5) (ck5 5) (gC (yg yi)) (fun i => nI (of5 i)), oc pa 0 [.ref (pA 0), .ref (pA 1), .ref (pA 2), .ref (pA 3), .ref (pA 4), .ref (pA 5), .ref (pA 6), .ref (pA 7), .ref (pA 8), .ref (pA 9), .ref (pA 10), .int (nI T), .int (nI Ac)], ia (pA 2) (pK 2) 7 (fun i => nI ((pg 2) i)), ia (pA 8) (pK 8) 4 (fun i => nI ((pg 8) i))] H1 := hPD.1
              replace hD : dd A [xa, (xA 3), (xA 4), (xA 5), (xA 6), (xA 7), (xA 8), (xA 9), (xA 10), (xA 11), ga, g2, g3, (pA 4), (pA 9), (pA 10), fa, (ad5 1), (ad5 2), (ad5 3), (ad5 4), (ad5 5), pa, (pA 2), (pA 8)] := dd_of hPD.2 rfl
              clear hPD
              revert H1 locs1
              intro H locs hS hP
              refine tp_i (y := nI (aft pg i1)) (hw1) ?_
              clear hw1 r_2 u
              obtain ⟨q9x, hq9x⟩ : ∃ q9x, q9x = se &&& aft pg i1 := ⟨_, rfl⟩
              have q98 : q9x < 128 := by rw [hq9x]; exact Nat.and_lt_two_pow (n := 7) _ af8
              refine tp_pc (pc' := 143) (by rfl) ?_
              refine lv_iand hx hb d_GraphSearch_lay_143 ?_
              refine tp_i (y := (nI se) &&& (nI (aft pg i1))) rfl ?_
              refine tp_i (y := nI q9x) (by rw [hq9x]; exact and_eq hse af8) ?_
              refine lv_if_ne (tgt := 206) hx hb d_GraphSearch_lay_144 (by decide) (fun d3 => ?_) (fun d3 => ?_)
              · skip
                have hd3 : ¬ (q9x = 0) := fun q9 => d3 ((nI_eq (a := q9x) (b := 0) (by omega) (by omega)).mpr q9)
                have hcn : ¬ (chL pg sc row last todo / 2 ^ i1 % 2 = 1 ∧ sc 3 i1 &&& todo = 0 ∧ se &&& aft pg i1 = 0) := fun h => hd3 (by rw [hq9x]; exact h.2.2)
                refine tp_pc (pc' := 206) (by rfl) ?_
                refine lv_iinc (v := nI (i1 + 1)) (lv' := [(10, .int (nI (i1 + 1))), (9, .int (nI (chL pg sc row last todo))), (0, .ref xa), (1, .int (nI row)), (2, .int (nI last)), (3, .int (nI todo)), (4, .int (nI ah)), (5, .int (nI se)), (6, .int (nI d))]) hx hb d_GraphSearch_lay_206 hl (k := 0) rfl (by exact nI_1 i1) (by decide) rfl ?_
                clear hl ls
                intro ls hl
                refine lv_goto (tgt := 98) hx hb d_GraphSearch_lay_209 (by decide) ?_
                refine tp_pc (pc' := 98) (by rfl) ?_
                have hK8 := hK.sub (tys' := [((xK 3), .int), ((xK 4), .int), ((xK 5), .int), ((xK 6), .int), ((xK 7), .int), ((xK 8), .int), ((xK 9), .int), ((xK 10), .int), ((xK 11), .int), (l2, .int), (l3, .int), ((pK 2), .int), ((pK 4), .int), ((pK 8), .int), ((pK 9), .int), ((pK 10), .int), ((ck5 1), .long), ((ck5 2), .int), ((ck5 3), .int), ((ck5 4), .int), ((ck5 5), .int)]) [0, 1, 2, 3, 4, 5, 6, 7, 8, 9, 10, 11, 12, 13, 14, 15, 16, 17, 18, 19, 20] rfl
                obtain ⟨hP8, hD8, -⟩ := cut3 (wc := [oc xa 6 [.ref pa, .ref ga, .ref (xA 0), .ref (xA 1), .ref (xA 2), .ref (xA 3), .ref (xA 4), .ref (xA 5), .ref (xA 6), .ref (xA 7), .ref (xA 8), .ref (xA 9), .ref (xA 10), .ref (xA 11), .ref fa, .int (nI md), .int (nI mb)], ia (xA 3) (xK 3) 7 (fun i => nI ((sc 3) i)), ia (xA 4) (xK 4) 7 (fun i => nI ((sc 4) i)), ia (xA 5) (xK 5) 7 (fun i => nI ((sc 5) i)), ia (xA 6) (xK 6) 8 (fun i => nI ((sc 6) i)), ia (xA 7) (xK 7) 4 (fun i => nI ((sc 7) i)), ia (xA 8) (xK 8) 4 (fun i => nI ((yl yi) i)), ia (xA 9) (xK 9) 7 (fun i => nI ((yb yi) i)), ia (xA 10) (xK 10) 7 (fun i => nI ((yo yi) i)), ia (xA 11) (xK 11) 7 (fun i => nI ((yh yi) i)), oc ga 1 [.ref pa, .ref g1, .ref g2, .ref g3, .int (nI dn), .long so], ia g2 l2 8 rg, ia g3 l3 8 vl, oc pa 0 [.ref (pA 0), .ref (pA 1), .ref (pA 2), .ref (pA 3), .ref (pA 4), .ref (pA 5), .ref (pA 6), .ref (pA 7), .ref (pA 8), .ref (pA 9), .ref (pA 10), .int (nI T), .int (nI Ac)], ia (pA 2) (pK 2) 7 (fun i => nI ((pg 2) i)), ia (pA 4) (pK 4) 7 (fun i => nI ((pg 4) i)), ia (pA 8) (pK 8) 4 (fun i => nI ((pg 8) i)), ia (pA 9) (pK 9) 6 (fun i => nI ((pg 9) i)), ia (pA 10) (pK 10) 3 (fun i => nI ((pg 10) i)), oc fa 3 [.int (nI E), .ref (ad5 1), .ref (ad5 2), .ref (ad5 3), .ref (ad5 4), .ref (ad5 5), .int (nI ((gF (yg yi)).length)), .int (nI (ys yi)), .int rd], la (ad5 1) (ck5 1) (gC (yg yi)) rf5, ia (ad5 2) (ck5 2) (gC (yg yi)) vf5, ia (ad5 3) (ck5 3) (gC (yg yi)) lf5, ia (ad5 4) (ck5 4) (gC (yg yi) * E) qf5, ia (ad5 5) (ck5 5) (gC (yg yi)) (fun i => nI (of5 i))]) hP hD rfl hS hA [0, 1, 2, 3, 4, 5, 6, 7, 8, 9, 10, 11, 12, 22, 23, 13, 24, 14, 15, 16, 17, 18, 19, 20, 21] (by decide +kernel) rfl
                clear hP
                have hP : va_P (dC, dI) classes [oc xa 6 [.ref pa, .ref ga, .ref (xA 0), .ref (xA 1), .ref (xA 2), .ref (xA 3), .ref (xA 4), .ref (xA 5), .ref (xA 6), .ref (xA 7), .ref (xA 8), .ref (xA 9), .ref (xA 10), .ref (xA 11), .ref fa, .int (nI md), .int (nI mb)], ia (xA 3) (xK 3) 7 (fun i => nI ((sc 3) i)), ia (xA 4) (xK 4) 7 (fun i => nI ((sc 4) i)), ia (xA 5) (xK 5) 7 (fun i => nI ((sc 5) i)), ia (xA 6) (xK 6) 8 (fun i => nI ((sc 6) i)), ia (xA 7) (xK 7) 4 (fun i => nI ((sc 7) i)), ia (xA 8) (xK 8) 4 (fun i => nI ((yl yi) i)), ia (xA 9) (xK 9) 7 (fun i => nI ((yb yi) i)), ia (xA 10) (xK 10) 7 (fun i => nI ((yo yi) i)), ia (xA 11) (xK 11) 7 (fun i => nI ((yh yi) i)), oc ga 1 [.ref pa, .ref g1, .ref g2, .ref g3, .int (nI dn), .long so], ia g2 l2 8 rg, ia g3 l3 8 vl, oc pa 0 [.ref (pA 0), .ref (pA 1), .ref (pA 2), .ref (pA 3), .ref (pA 4), .ref (pA 5), .ref (pA 6), .ref (pA 7), .ref (pA 8), .ref (pA 9), .ref (pA 10), .int (nI T), .int (nI Ac)], ia (pA 2) (pK 2) 7 (fun i => nI ((pg 2) i)), ia (pA 4) (pK 4) 7 (fun i => nI ((pg 4) i)), ia (pA 8) (pK 8) 4 (fun i => nI ((pg 8) i)), ia (pA 9) (pK 9) 6 (fun i => nI ((pg 9) i)), ia (pA 10) (pK 10) 3 (fun i => nI ((pg 10) i)), oc fa 3 [.int (nI E), .ref (ad5 1), .ref (ad5 2), .ref (ad5 3), .ref (ad5 4), .ref (ad5 5), .int (nI ((gF (yg yi)).length)), .int (nI (ys yi)), .int rd], la (ad5 1) (ck5 1) (gC (yg yi)) rf5, ia (ad5 2) (ck5 2) (gC (yg yi)) vf5, ia (ad5 3) (ck5 3) (gC (yg yi)) lf5, ia (ad5 4) (ck5 4) (gC (yg yi) * E) qf5, ia (ad5 5) (ck5 5) (gC (yg yi)) (fun i => nI (of5 i))] H := hP8
                clear hP8
                replace hD : dd A [xa, (xA 3), (xA 4), (xA 5), (xA 6), (xA 7), (xA 8), (xA 9), (xA 10), (xA 11), ga, g2, g3, pa, (pA 2), (pA 4), (pA 8), (pA 9), (pA 10), fa, (ad5 1), (ad5 2), (ad5 3), (ad5 4), (ad5 5)] := dd_of hD8 rfl
                clear hD8
                exact ih _ _ _ _ _ ⟨yi, ad5, ck5, rf5, vf5, lf5, qf5, of5,  (by rw [lpW, if_neg hcn]; exact hyi), xF5, xY5, xL5, rfl, rfl, hP, hK8, hD, hS, lv_sub hl [0, 1, 2, 3, 4, 5, 6, 7, 8] rfl⟩
              · skip
                have hd3 : q9x = 0 := (nI_eq (a := q9x) (b := 0) (by omega) (by omega)).mp d3
                have hcy : chL pg sc row last todo / 2 ^ i1 % 2 = 1 ∧ sc 3 i1 &&& todo = 0 ∧ se &&& aft pg i1 = 0 := ⟨by rw [← hb9]; exact hb1, by rw [← ho9]; exact hd2, by rw [← hq9x]; exact hd3⟩
                have i7 : i1 < 7 := by omega
                have ht1 := chL_in hto (p7 3) i7 hcy.1
                have pw8 := (pop7_low i1 i7).2.2.2
                refine tp_pc (pc' := 147) (by rfl) ?_
                refine lv_iconst (v := 1) hx hb d_GraphSearch_lay_147 (by decide) ?_
                refine lv_iload hx hb d_GraphSearch_lay_148 (lv_at hl 0 rfl) ?_
                refine lv_ishl hx hb d_GraphSearch_lay_150 ?_
                refine tp_i (y := 1 <<< ((nI i1) &&& 31)) rfl ?_
                refine tp_i (y := nI (2 ^ i1)) (pow_eq i1 i7) ?_
                have cs8 : clr se i1 < 128 := clr_lt hse
                refine lv_istore (lv' := [(11, .int (nI (2 ^ i1))), (10, .int (nI i1)), (9, .int (nI (chL pg sc row last todo))), (0, .ref xa), (1, .int (nI row)), (2, .int (nI last)), (3, .int (nI todo)), (4, .int (nI ah)), (5, .int (nI se)), (6, .int (nI d))]) hx hb d_GraphSearch_lay_151 hl (by decide) rfl ?_
                clear hl ls
                intro ls hl
                refine lv_aload_n hx hb d_GraphSearch_lay_153 rfl (lv_at hl 3 rfl) ?_
                refine va_get (D := (dC, dI)) (ci := 6) (v := .ref (xA 9)) (C := R_GraphSearch) (T := F_GraphSearch) (N := 17) hx hb hw i_GraphSearch hown hK hP 0 rfl rfl 11 (by decide) (hw _ m_330) (fun _ h9 => h9) rfl d_GraphSearch_lay_154 ?_
                refine lv_iload hx hb d_GraphSearch_lay_157 (lv_at hl 1 rfl) ?_
                refine lv_iload hx hb d_GraphSearch_lay_159 (lv_at hl 7 rfl) ?_
                refine lv_iload hx hb d_GraphSearch_lay_161 (lv_at hl 8 rfl) ?_
                refine lv_iload hx hb d_GraphSearch_lay_163 (lv_at hl 0 rfl) ?_
                refine lv_iconst (v := (-1)) hx hb d_GraphSearch_lay_165 (by decide) ?_
                refine lv_ixor hx hb d_GraphSearch_lay_166 ?_
                refine tp_i (y := (nI (2 ^ i1)) ^^^ (-1)) rfl ?_
                refine lv_iand hx hb d_GraphSearch_lay_167 ?_
                refine tp_i (y := (nI se) &&& ((nI (2 ^ i1)) ^^^ (-1))) rfl ?_
                refine tp_i (y := nI (clr se i1)) (clr_eq2 se hse i1 i7) ?_
                refine lv_ior hx hb d_GraphSearch_lay_168 ?_
                refine tp_i (y := (nI ah) ||| (nI (clr se i1))) rfl ?_
                refine tp_i (y := nI (ah ||| clr se i1)) (or_eq _ hah _ cs8) ?_
                have b18 : ah ||| clr se i1 < 128 := Nat.or_lt_two_pow (n := 7) hah cs8
                obtain ⟨y1, hy1⟩ : ∃ y1 : Y9, y1 = (yg yi, ys yi, yl yi, updN (yb yi) i1 (ah ||| clr se i1), yo yi, yh yi) := ⟨_, rfl⟩
                have hg1 : yg y1 = yg yi := by rw [hy1]; rfl
                have hl1 : yl y1 = yl yi := by rw [hy1]; rfl
                have hY1 : YOk y1 := by rw [hy1]; exact ⟨fun i => by show updN (yb yi) i1 (ah ||| clr se i1) i < 128; unfold updN; split; (exact b18); (exact xY5.1 i), xY5.2.1, xY5.2.2.1, xY5.2.2.2⟩
                refine va_iast (D := (dC, dI)) hx hb hK hP (dd_D hD rfl) hS 7 6 rfl rfl (i := nI i1) (x := nI (ah ||| clr se i1)) (pk_in i1 7 (by omega)) d_GraphSearch_lay_169 ?_
                clear hP hS locs H
                intro H locs hP _ hS
                rw [show (nI i1 : Int32).toNatClampNeg = i1 from pk_cl i1] at hP
                rw [show upd (fun i => nI ((yb yi) i)) i1 (nI (ah ||| clr se i1)) = fun i => nI (updN (yb yi) i1 (ah ||| clr se i1) i) from upd_nI] at hP
                replace hP : va_P (dC, dI) classes [oc xa 6 [.ref pa, .ref ga, .ref (xA 0), .ref (xA 1), .ref (xA 2), .ref (xA 3), .ref (xA 4), .ref (xA 5), .ref (xA 6), .ref (xA 7), .ref (xA 8), .ref (xA 9), .ref (xA 10), .ref (xA 11), .ref fa, .int (nI md), .int (nI mb)], ia (xA 3) (xK 3) 7 (fun i => nI ((sc 3) i)), ia (xA 4) (xK 4) 7 (fun i => nI ((sc 4) i)), ia (xA 5) (xK 5) 7 (fun i => nI ((sc 5) i)), ia (xA 6) (xK 6) 8 (fun i => nI ((sc 6) i)), ia (xA 7) (xK 7) 4 (fun i => nI ((sc 7) i)), ia (xA 8) (xK 8) 4 (fun i => nI ((yl yi) i)), ia (xA 9) (xK 9) 7 (fun i => nI ((updN (yb yi) i1 (ah ||| clr se i1)) i)), ia (xA 10) (xK 10) 7 (fun i => nI ((yo yi) i)), ia (xA 11) (xK 11) 7 (fun i => nI ((yh yi) i)), oc ga 1 [.ref pa, .ref g1, .ref g2, .ref g3, .int (nI dn), .long so], ia g2 l2 8 rg, ia g3 l3 8 vl, ia (pA 4) (pK 4) 7 (fun i => nI ((pg 4) i)), ia (pA 9) (pK 9) 6 (fun i => nI ((pg 9) i)), ia (pA 10) (pK 10) 3 (fun i => nI ((pg 10) i)), oc fa 3 [.int (nI E), .ref (ad5 1), .ref (ad5 2), .ref (ad5 3), .ref (ad5 4), .ref (ad5 5), .int (nI ((gF (yg yi)).length)), .int (nI (ys yi)), .int rd], la (ad5 1) (ck5 1) (gC (yg yi)) rf5, ia (ad5 2) (ck5 2) (gC (yg yi)) vf5, ia (ad5 3) (ck5 3) (gC (yg yi)) lf5, ia (ad5 4) (ck5 4) (gC (yg yi) * E) qf5, ia (ad5 5) (ck5 5) (gC (yg yi)) (fun i => nI (of5 i)), oc pa 0 [.ref (pA 0), .ref (pA 1), .ref (pA 2), .ref (pA 3), .ref (pA 4), .ref (pA 5), .ref (pA 6), .ref (pA 7), .ref (pA 8), .ref (pA 9), .ref (pA 10), .int (nI T), .int (nI Ac)], ia (pA 2) (pK 2) 7 (fun i => nI ((pg 2) i)), ia (pA 8) (pK 8) 4 (fun i => nI ((pg 8) i))] H := hP
                refine tp_pc (pc' := 170) (by rfl) ?_
                refine lv_aload_n hx hb d_GraphSearch_lay_170 rfl (lv_at hl 3 rfl) ?_
                refine lv_iload_n hx hb d_GraphSearch_lay_171 rfl (lv_at hl 4 rfl) ?_
                refine lv_iload hx hb d_GraphSearch_lay_172 (lv_at hl 1 rfl) ?_
                refine lv_iconst (v := 1) hx hb d_GraphSearch_lay_174 (by decide) ?_
                refine lv_iadd hx hb d_GraphSearch_lay_175 ?_
                refine tp_i (y := nI (i1 + 1)) (by exact nI_add i1 1) ?_
                refine lv_iload_n hx hb d_GraphSearch_lay_176 rfl (lv_at hl 6 rfl) ?_
                refine lv_iload hx hb d_GraphSearch_lay_177 (lv_at hl 0 rfl) ?_
                refine lv_iconst (v := (-1)) hx hb d_GraphSearch_lay_179 (by decide) ?_
                refine lv_ixor hx hb d_GraphSearch_lay_180 ?_
                refine tp_i (y := (nI (2 ^ i1)) ^^^ (-1)) rfl ?_
                refine lv_iand hx hb d_GraphSearch_lay_181 ?_
                refine tp_i (y := (nI todo) &&& ((nI (2 ^ i1)) ^^^ (-1))) rfl ?_
                refine tp_i (y := nI (clr todo i1)) (clr_eq2 todo hto i1 i7) ?_
                refine lv_iload hx hb d_GraphSearch_lay_182 (lv_at hl 7 rfl) ?_
                refine lv_iload hx hb d_GraphSearch_lay_184 (lv_at hl 0 rfl) ?_
                refine lv_ior hx hb d_GraphSearch_lay_186 ?_
                refine tp_i (y := (nI ah) ||| (nI (2 ^ i1))) rfl ?_
                refine tp_i (y := nI (ah ||| 2 ^ i1)) (or_eq2 ah hah i1 i7) ?_
                refine lv_iload hx hb d_GraphSearch_lay_187 (lv_at hl 8 rfl) ?_
                refine lv_aload_n hx hb d_GraphSearch_lay_189 rfl (lv_at hl 3 rfl) ?_
                refine va_get (D := (dC, dI)) (ci := 6) (v := .ref (xA 6)) (C := R_GraphSearch) (T := F_GraphSearch) (N := 17) hx hb hw i_GraphSearch hown hK hP 0 rfl rfl 8 (by decide) (hw _ m_327) (fun _ h9 => h9) rfl d_GraphSearch_lay_190 ?_
                refine lv_iload hx hb d_GraphSearch_lay_193 (lv_at hl 1 rfl) ?_
                refine lv_iconst (v := 1) hx hb d_GraphSearch_lay_195 (by decide) ?_
                refine lv_iadd hx hb d_GraphSearch_lay_196 ?_
                refine tp_i (y := nI (i1 + 1)) (by exact nI_add i1 1) ?_
                refine va_iald (D := (dC, dI)) hx hb hK hP 4 3 rfl rfl (i := nI (i1 + 1)) (pk_in (i1 + 1) 8 (by omega)) d_GraphSearch_lay_197 ?_
                refine tp_i (y := nI ((sc 6) (i1 + 1))) (by rw [show (nI (i1 + 1) : Int32).toNatClampNeg = i1 + 1 from pk_cl (i1 + 1)]) ?_
                refine lv_ior hx hb d_GraphSearch_lay_198 ?_
                refine tp_i (y := (nI se) ||| (nI ((sc 6) (i1 + 1)))) rfl ?_
                refine tp_i (y := nI (se ||| sc 6 (i1 + 1))) (or_eq _ hse _ (h6 _)) ?_
                refine lv_iload hx hb d_GraphSearch_lay_199 (lv_at hl 9 rfl) ?_
                refine lv_iconst (v := 1) hx hb d_GraphSearch_lay_201 (by decide) ?_
                refine lv_iadd hx hb d_GraphSearch_lay_202 ?_
                refine tp_i (y := nI (d + 1)) (by exact nI_add d 1) ?_
                obtain ⟨yj, hyj⟩ : ∃ yj, nx row (i1 + 1) (clr todo i1) (ah ||| 2 ^ i1) (se ||| sc 6 (i1 + 1)) y1 = yj := ⟨_, rfl⟩
                have hyn : lpW pg sc nx row last todo ah se (i1 + 1) yy = yj := by rw [lpW, if_pos hcy, hyi, ← hy1]; exact hyj
                obtain ⟨n21, n22, n23, n24⟩ : gle (yg yi) (yg yj) := by rw [← hyj, ← hg1]; exact hmo _ _ _ _ _ _
                obtain ⟨n31, n32, n33, n34⟩ : gle (yg yj) (yg yz) := by rw [← hyn, ← hgo]; exact gle_lpW hmo (by omega)
                replace hP : va_P (dC, dI) classes [oc xa 6 [.ref pa, .ref ga, .ref (xA 0), .ref (xA 1), .ref (xA 2), .ref (xA 3), .ref (xA 4), .ref (xA 5), .ref (xA 6), .ref (xA 7), .ref (xA 8), .ref (xA 9), .ref (xA 10), .ref (xA 11), .ref fa, .int (nI md), .int (nI mb)], ia (xA 3) (xK 3) 7 (fun i => nI ((sc 3) i)), ia (xA 4) (xK 4) 7 (fun i => nI ((sc 4) i)), ia (xA 5) (xK 5) 7 (fun i => nI ((sc 5) i)), ia (xA 6) (xK 6) 8 (fun i => nI ((sc 6) i)), ia (xA 7) (xK 7) 4 (fun i => nI ((sc 7) i)), ia (xA 8) (xK 8) 4 (fun i => nI ((yl y1) i)), ia (xA 9) (xK 9) 7 (fun i => nI ((yb y1) i)), ia (xA 10) (xK 10) 7 (fun i => nI ((yo y1) i)), ia (xA 11) (xK 11) 7 (fun i => nI ((yh y1) i)), oc ga 1 [.ref pa, .ref g1, .ref g2, .ref g3, .int (nI dn), .long so], ia g2 l2 8 rg, ia g3 l3 8 vl, ia (pA 4) (pK 4) 7 (fun i => nI ((pg 4) i)), ia (pA 9) (pK 9) 6 (fun i => nI ((pg 9) i)), ia (pA 10) (pK 10) 3 (fun i => nI ((pg 10) i)), oc fa 3 [.int (nI E), .ref (ad5 1), .ref (ad5 2), .ref (ad5 3), .ref (ad5 4), .ref (ad5 5), .int (nI ((gF (yg y1)).length)), .int (nI (ys y1)), .int rd], la (ad5 1) (ck5 1) (gC (yg y1)) rf5, ia (ad5 2) (ck5 2) (gC (yg y1)) vf5, ia (ad5 3) (ck5 3) (gC (yg y1)) lf5, ia (ad5 4) (ck5 4) (gC (yg y1) * E) qf5, ia (ad5 5) (ck5 5) (gC (yg y1)) (fun i => nI (of5 i)), oc pa 0 [.ref (pA 0), .ref (pA 1), .ref (pA 2), .ref (pA 3), .ref (pA 4), .ref (pA 5), .ref (pA 6), .ref (pA 7), .ref (pA 8), .ref (pA 9), .ref (pA 10), .int (nI T), .int (nI Ac)], ia (pA 2) (pK 2) 7 (fun i => nI ((pg 2) i)), ia (pA 8) (pK 8) 4 (fun i => nI ((pg 8) i))] H := by rw [hy1]; exact hP
                obtain ⟨hPc, hDc, hFc⟩ := cut3 (wc := [oc xa 6 [.ref pa, .ref ga, .ref (xA 0), .ref (xA 1), .ref (xA 2), .ref (xA 3), .ref (xA 4), .ref (xA 5), .ref (xA 6), .ref (xA 7), .ref (xA 8), .ref (xA 9), .ref (xA 10), .ref (xA 11), .ref fa, .int (nI md), .int (nI mb)], ia (xA 3) (xK 3) 7 (fun i => nI ((sc 3) i)), ia (xA 4) (xK 4) 7 (fun i => nI ((sc 4) i)), ia (xA 5) (xK 5) 7 (fun i => nI ((sc 5) i)), ia (xA 6) (xK 6) 8 (fun i => nI ((sc 6) i)), ia (xA 7) (xK 7) 4 (fun i => nI ((sc 7) i)), ia (xA 8) (xK 8) 4 (fun i => nI ((yl y1) i)), ia (xA 9) (xK 9) 7 (fun i => nI ((yb y1) i)), ia (xA 10) (xK 10) 7 (fun i => nI ((yo y1) i)), ia (xA 11) (xK 11) 7 (fun i => nI ((yh y1) i)), oc ga 1 [.ref pa, .ref g1, .ref g2, .ref g3, .int (nI dn), .long so], ia g2 l2 8 rg, ia g3 l3 8 vl, oc pa 0 [.ref (pA 0), .ref (pA 1), .ref (pA 2), .ref (pA 3), .ref (pA 4), .ref (pA 5), .ref (pA 6), .ref (pA 7), .ref (pA 8), .ref (pA 9), .ref (pA 10), .int (nI T), .int (nI Ac)], ia (pA 2) (pK 2) 7 (fun i => nI ((pg 2) i)), ia (pA 4) (pK 4) 7 (fun i => nI ((pg 4) i)), ia (pA 8) (pK 8) 4 (fun i => nI ((pg 8) i)), ia (pA 9) (pK 9) 6 (fun i => nI ((pg 9) i)), ia (pA 10) (pK 10) 3 (fun i => nI ((pg 10) i)), oc fa 3 [.int (nI E), .ref (ad5 1), .ref (ad5 2), .ref (ad5 3), .ref (ad5 4), .ref (ad5 5), .int (nI ((gF (yg y1)).length)), .int (nI (ys y1)), .int rd], la (ad5 1) (ck5 1) (gC (yg y1)) rf5, ia (ad5 2) (ck5 2) (gC (yg y1)) vf5, ia (ad5 3) (ck5 3) (gC (yg y1)) lf5, ia (ad5 4) (ck5 4) (gC (yg y1) * E) qf5, ia (ad5 5) (ck5 5) (gC (yg y1)) (fun i => nI (of5 i))]) hP hD rfl hS hA [0, 1, 2, 3, 4, 5, 6, 7, 8, 9, 10, 11, 12, 22, 23, 13, 24, 14, 15, 16, 17, 18, 19, 20, 21] (by decide +kernel) rfl
                have hKc := hK.sub (tys' := [((xK 3), .int), ((xK 4), .int), ((xK 5), .int), ((xK 6), .int), ((xK 7), .int), ((xK 8), .int), ((xK 9), .int), ((xK 10), .int), ((xK 11), .int), (l2, .int), (l3, .int), ((pK 2), .int), ((pK 4), .int), ((pK 8), .int), ((pK 9), .int), ((pK 10), .int), ((ck5 1), .long), ((ck5 2), .int), ((ck5 3), .int), ((ck5 4), .int), ((ck5 5), .int)]) [0, 1, 2, 3, 4, 5, 6, 7, 8, 9, 10, 11, 12, 13, 14, 15, 16, 17, 18, 19, 20] rfl
                refine va_callv (va_runV (As := [.int (nI row), .int (nI (i1 + 1)), .int (nI (clr todo i1)), .int (nI (ah ||| 2 ^ i1)), .int (nI (se ||| sc 6 (i1 + 1))), .int (nI (d + 1))]) (rest := []) ⟨hx, hb, hml, hown, hw⟩ (hly hlt row (i1 + 1) (clr todo i1) (ah ||| 2 ^ i1) (se ||| sc 6 (i1 + 1)) y1 yj ad5 ck5 rf5 vf5 lf5 qf5 of5 hro (by omega) (clr_lt hto) (set_lt ah hah i1 i7) (Nat.or_lt_two_pow (n := 7) hse (h6 _)) (fun h => htw h i1 ht1) (fun h w hw => htw h w (clr_b hto i7 hw)) hY1 (fun r h1 h2 => by rw [hl1, xL5 r h1]; exact hyw r h1 h2) (by rw [hg1]; exact xF5) (by omega) hyj H.size) (cw_V 6 hw g_GraphSearch_lay rfl rfl rfl (hw _ m_107) (hw _ m_808) (hw _ m_810) (hw _ m_40) (by decide +kernel) ⟨by show _ ≤ (fr + 2 : Nat); (try dsimp only); omega, by show _ ≤ (lo + 80 : Nat); (try dsimp only); omega⟩) ⟨fun a U g mk q => by obtain ⟨q0, q1, qP, qK, qD, qN⟩ := q; exact ⟨q0, q1, qP, va_K.moved (u := U) (U := U.calling g mk a) (Vm.Alike.refl U.vm) qK, qD, nw_call qN⟩, va_recv hKc hPc (ci := 6) (q0 := 0) rfl rfl, fun U hU hW => ⟨rfl, by rw [hU], by rw [hU]; exact hPc, va_K.moved hW.alike hKc, hDc.weaken (fun _ _ _ _ => trivial), nw_warm hW hn⟩⟩ rfl rfl hl.1 rfl (lv_room (Nat.le_of_ble_eq_true rfl)) d_GraphSearch_lay_203 ⟨by show (gc (yg yi) - gc (yg yy)) + (gc (yg yj) - gc (yg y1)) ≤ gc (yg yz) - gc (yg yy); rw [hg1]; omega, by show (gs (yg yi) - gs (yg yy)) + (gs (yg yj) - gs (yg y1)) ≤ gs (yg yz) - gs (yg yy); rw [hg1]; omega⟩) hS (fun q _ h => hFc q h) hFc ?_
                intro u t9 H1 locs1 ht9 hvm hw1 hB hz1 hk1 hS1
                obtain ⟨ad6, ck6, rf6, vf6, lf6, qf6, of6, xF6, xY6, xL6, hP1, hK1, hD1⟩ := hB
                rw [ht9] at hP1
                replace hK1 := va_K.moved hvm.symm hK1
                have hPD := join3 hP hD rfl [0, 1, 2, 3, 4, 5, 6, 7, 8, 9, 10, 11, 12, 22, 23, 13, 24, 14, 15, 16, 17, 18, 19, 20, 21] [] rfl (by rfl) (by decide +kernel) (by decide +kernel) hk1 hFc hP1 hD1
                replace hK : va_K (dC, dI) classes [((xK 3), .int), ((xK 4), .int), ((xK 5), .int), ((xK 6), .int), ((xK 7), .int), ((xK 8), .int), ((xK 9), .int), ((xK 10), .int), ((xK 11), .int), (l2, .int), (l3, .int), ((pK 2), .int), ((pK 4), .int), ((pK 8), .int), ((pK 9), .int), ((pK 10), .int), ((ck5 1), .long), ((ck5 2), .int), ((ck5 3), .int), ((ck5 4), .int), ((ck5 5), .int), ((ck6 1), .long), ((ck6 2), .int), ((ck6 3), .int), ((ck6 4), .int), ((ck6 5), .int)] s := hK.app hK1
                clear hP1 hK1 hD1 hk1 hz1 hFc hKc hDc hPc hvm ht9 hP hS t9 locs H
                have hP : va_P (dC, dI) classes [oc xa 6 [.ref pa, .ref ga, .ref (xA 0), .ref (xA 1), .ref (xA 2), .ref (xA 3), .ref (xA 4), .ref (xA 5), .ref (xA 6), .ref (xA 7), .ref (xA 8), .ref (xA 9), .ref (xA 10), .ref (xA 11), .ref fa, .int (nI md), .int (nI mb)], ia (xA 3) (xK 3) 7 (fun i => nI ((sc 3) i)), ia (xA 4) (xK 4) 7 (fun i => nI ((sc 4) i)), ia (xA 5) (xK 5) 7 (fun i => nI ((sc 5) i)), ia (xA 6) (xK 6) 8 (fun i => nI ((sc 6) i)), ia (xA 7) (xK 7) 4 (fun i => nI ((sc 7) i)), ia (xA 8) (xK 8) 4 (fun i => nI ((yl yj) i)), ia (xA 9) (xK 9) 7 (fun i => nI ((yb yj) i)), ia (xA 10) (xK 10) 7 (fun i => nI ((yo yj) i)), ia (xA 11) (xK 11) 7 (fun i => nI ((yh yj) i)), oc ga 1 [.ref pa, .ref g1, .ref g2, .ref g3, .int (nI dn), .long so], ia g2 l2 8 rg, ia g3 l3 8 vl, oc pa 0 [.ref (pA 0), .ref (pA 1), .ref (pA 2), .ref (pA 3), .ref (pA 4), .ref (pA 5), .ref (pA 6), .ref (pA 7), .ref (pA 8), .ref (pA 9), .ref (pA 10), .int (nI T), .int (nI Ac)], ia (pA 2) (pK 2) 7 (fun i => nI ((pg 2) i)), ia (pA 4) (pK 4) 7 (fun i => nI ((pg 4) i)), ia (pA 8) (pK 8) 4 (fun i => nI ((pg 8) i)), ia (pA 9) (pK 9) 6 (fun i => nI ((pg 9) i)), ia (pA 10) (pK 10) 3 (fun i => nI ((pg 10) i)), oc fa 3 [.int (nI E), .ref (ad6 1), .ref (ad6 2), .ref (ad6 3), .ref (ad6 4), .ref (ad6 5), .int (nI ((gF (yg yj)).length)), .int (nI (ys yj)), .int rd], la (ad6 1) (ck6 1) (gC (yg yj)) rf6, ia (ad6 2) (ck6 2) (gC (yg yj)) vf6, ia (ad6 3) (ck6 3) (gC (yg yj)) lf6, ia (ad6 4) (ck6 4) (gC (yg yj) * E) qf6, ia (ad6 5) (ck6 5) (gC (yg yj)) (fun i => nI (of6 i))] H1 := hPD.1
                replace hD : dd A [xa, (xA 3), (xA 4), (xA 5), (xA 6), (xA 7), (xA 8), (xA 9), (xA 10), (xA 11), ga, g2, g3, pa, (pA 2), (pA 4), (pA 8), (pA 9), (pA 10), fa, (ad6 1), (ad6 2), (ad6 3), (ad6 4), (ad6 5)] := dd_of hPD.2 rfl
                clear hPD
                revert H1 locs1
                intro H locs hS hP
                clear hw1 u
                refine W.widen (k := gc (yg yj) - gc (yg yy)) (n := gs (yg yj) - gs (yg yy)) (by rw [hg1]; omega) (by rw [hg1]; omega) ?_
                refine tp_pc (pc' := 206) (by rfl) ?_
                refine lv_iinc (v := nI (i1 + 1)) (lv' := [(10, .int (nI (i1 + 1))), (11, .int (nI (2 ^ i1))), (9, .int (nI (chL pg sc row last todo))), (0, .ref xa), (1, .int (nI row)), (2, .int (nI last)), (3, .int (nI todo)), (4, .int (nI ah)), (5, .int (nI se)), (6, .int (nI d))]) hx hb d_GraphSearch_lay_206 hl (k := 1) rfl (by exact nI_1 i1) (by decide) rfl ?_
                clear hl ls
                intro ls hl
                refine lv_goto (tgt := 98) hx hb d_GraphSearch_lay_209 (by decide) ?_
                refine tp_pc (pc' := 98) (by rfl) ?_
                have hK8 := hK.sub (tys' := [((xK 3), .int), ((xK 4), .int), ((xK 5), .int), ((xK 6), .int), ((xK 7), .int), ((xK 8), .int), ((xK 9), .int), ((xK 10), .int), ((xK 11), .int), (l2, .int), (l3, .int), ((pK 2), .int), ((pK 4), .int), ((pK 8), .int), ((pK 9), .int), ((pK 10), .int), ((ck6 1), .long), ((ck6 2), .int), ((ck6 3), .int), ((ck6 4), .int), ((ck6 5), .int)]) [0, 1, 2, 3, 4, 5, 6, 7, 8, 9, 10, 11, 12, 13, 14, 15, 21, 22, 23, 24, 25] rfl
                exact ih _ _ _ _ _ ⟨yj, ad6, ck6, rf6, vf6, lf6, qf6, of6,  hyn, xF6, xY6, (fun r h => by rw [xL6 r h, hl1]; exact xL5 r h), rfl, rfl, hP, hK8, hD, hS, lv_sub hl [0, 2, 3, 4, 5, 6, 7, 8, 9] rfl⟩
        · clear hP hK8 hK hD hS hl
          intro kc ks H locs ls hI
          obtain ⟨yi, ad5, ck5, rf5, vf5, lf5, qf5, of5,  hyi, xF5, xY5, xL5, rfl, rfl, hP, hK, hD, hS, hl⟩ := hI
          have e9 : yi = yz := by rw [← hyi]; exact hgo
          rw [e9] at hP xF5 xY5 xL5
          replace hP : va_P (dC, dI) classes [oc xa 6 [.ref pa, .ref ga, .ref (xA 0), .ref (xA 1), .ref (xA 2), .ref (xA 3), .ref (xA 4), .ref (xA 5), .ref (xA 6), .ref (xA 7), .ref (xA 8), .ref (xA 9), .ref (xA 10), .ref (xA 11), .ref fa, .int (nI md), .int (nI mb)], ia (xA 3) (xK 3) 7 (fun i => nI ((sc 3) i)), ia (xA 4) (xK 4) 7 (fun i => nI ((sc 4) i)), ia (xA 5) (xK 5) 7 (fun i => nI ((sc 5) i)), ia (xA 6) (xK 6) 8 (fun i => nI ((sc 6) i)), ia (xA 7) (xK 7) 4 (fun i => nI ((sc 7) i)), ia (xA 8) (xK 8) 4 (fun i => nI ((yl yz) i)), ia (xA 9) (xK 9) 7 (fun i => nI ((yb yz) i)), ia (xA 10) (xK 10) 7 (fun i => nI ((yo yz) i)), ia (xA 11) (xK 11) 7 (fun i => nI ((yh yz) i)), oc ga 1 [.ref pa, .ref g1, .ref g2, .ref g3, .int (nI dn), .long so], ia g2 l2 8 rg, ia g3 l3 8 vl, oc pa 0 [.ref (pA 0), .ref (pA 1), .ref (pA 2), .ref (pA 3), .ref (pA 4), .ref (pA 5), .ref (pA 6), .ref (pA 7), .ref (pA 8), .ref (pA 9), .ref (pA 10), .int (nI T), .int (nI Ac)], ia (pA 2) (pK 2) 7 (fun i => nI ((pg 2) i)), ia (pA 4) (pK 4) 7 (fun i => nI ((pg 4) i)), ia (pA 8) (pK 8) 4 (fun i => nI ((pg 8) i)), ia (pA 9) (pK 9) 6 (fun i => nI ((pg 9) i)), ia (pA 10) (pK 10) 3 (fun i => nI ((pg 10) i)), oc fa 3 [.int (nI E), .ref (ad5 1), .ref (ad5 2), .ref (ad5 3), .ref (ad5 4), .ref (ad5 5), .int (nI ((gF (yg yz)).length)), .int (nI (ys yz)), .int rd], la (ad5 1) (ck5 1) (gC (yg yz)) rf5, ia (ad5 2) (ck5 2) (gC (yg yz)) vf5, ia (ad5 3) (ck5 3) (gC (yg yz)) lf5, ia (ad5 4) (ck5 4) (gC (yg yz) * E) qf5, ia (ad5 5) (ck5 5) (gC (yg yz)) (fun i => nI (of5 i))] H := hP
          refine lv_iload hx hb d_GraphSearch_lay_98 (lv_at hl 0 rfl) ?_
          refine lv_aload_n hx hb d_GraphSearch_lay_100 rfl (lv_at hl 2 rfl) ?_
          refine va_get (D := (dC, dI)) (ci := 6) (v := .ref pa) (C := R_GraphSearch) (T := F_GraphSearch) (N := 17) hx hb hw i_GraphSearch hown hK hP 0 rfl rfl 0 (by decide) (hw _ m_319) (fun _ h9 => h9) rfl d_GraphSearch_lay_101 ?_
          refine va_get (D := (dC, dI)) (ci := 0) (v := .int (nI Ac)) (C := R_Program) (T := F_Program) (N := 13) hx hb hw i_Program hown hK hP 13 rfl rfl 12 (by decide) (hw _ m_166) (fun _ h9 => h9) rfl d_GraphSearch_lay_104 ?_
          refine lv_icmp_ge (tgt := 212) hx hb d_GraphSearch_lay_107 (by decide) (fun c9 => ?_) (fun c9 => absurd (nI_le (Nat.le_refl _) (by omega)) c9)
          refine tp_pc (pc' := 212) (by rfl) ?_
          obtain ⟨hP9, hD9, -⟩ := cut3 (wc := [oc xa 6 [.ref pa, .ref ga, .ref (xA 0), .ref (xA 1), .ref (xA 2), .ref (xA 3), .ref (xA 4), .ref (xA 5), .ref (xA 6), .ref (xA 7), .ref (xA 8), .ref (xA 9), .ref (xA 10), .ref (xA 11), .ref fa, .int (nI md), .int (nI mb)], ia (xA 3) (xK 3) 7 (fun i => nI ((sc 3) i)), ia (xA 4) (xK 4) 7 (fun i => nI ((sc 4) i)), ia (xA 5) (xK 5) 7 (fun i => nI ((sc 5) i)), ia (xA 6) (xK 6) 8 (fun i => nI ((sc 6) i)), ia (xA 7) (xK 7) 4 (fun i => nI ((sc 7) i)), ia (xA 8) (xK 8) 4 (fun i => nI ((yl yz) i)), ia (xA 9) (xK 9) 7 (fun i => nI ((yb yz) i)), ia (xA 10) (xK 10) 7 (fun i => nI ((yo yz) i)), ia (xA 11) (xK 11) 7 (fun i => nI ((yh yz) i)), oc ga 1 [.ref pa, .ref g1, .ref g2, .ref g3, .int (nI dn), .long so], ia g2 l2 8 rg, ia g3 l3 8 vl, oc pa 0 [.ref (pA 0), .ref (pA 1), .ref (pA 2), .ref (pA 3), .ref (pA 4), .ref (pA 5), .ref (pA 6), .ref (pA 7), .ref (pA 8), .ref (pA 9), .ref (pA 10), .int (nI T), .int (nI Ac)], ia (pA 2) (pK 2) 7 (fun i => nI ((pg 2) i)), ia (pA 4) (pK 4) 7 (fun i => nI ((pg 4) i)), ia (pA 8) (pK 8) 4 (fun i => nI ((pg 8) i)), ia (pA 9) (pK 9) 6 (fun i => nI ((pg 9) i)), ia (pA 10) (pK 10) 3 (fun i => nI ((pg 10) i)), oc fa 3 [.int (nI E), .ref (ad5 1), .ref (ad5 2), .ref (ad5 3), .ref (ad5 4), .ref (ad5 5), .int (nI ((gF (yg yz)).length)), .int (nI (ys yz)), .int rd], la (ad5 1) (ck5 1) (gC (yg yz)) rf5, ia (ad5 2) (ck5 2) (gC (yg yz)) vf5, ia (ad5 3) (ck5 3) (gC (yg yz)) lf5, ia (ad5 4) (ck5 4) (gC (yg yz) * E) qf5, ia (ad5 5) (ck5 5) (gC (yg yz)) (fun i => nI (of5 i))]) hP hD rfl hS hA [0, 1, 2, 3, 4, 5, 6, 7, 8, 9, 10, 11, 12, 13, 14, 15, 16, 17, 18, 19, 20, 21, 22, 23, 24] (by decide +kernel) rfl
          have hK9 := hK.sub (tys' := [((ck5 1), .long), ((ck5 2), .int), ((ck5 3), .int), ((ck5 4), .int), ((ck5 5), .int)]) [16, 17, 18, 19, 20] rfl
          refine W.widen (k := gc (yg yz) - gc (yg yy)) (n := gs (yg yz) - gs (yg yy)) (by rw [e9]; exact Nat.le_refl _) (by rw [e9]; exact Nat.le_refl _) ?_
          exact W.vret hx hb hr (fun t9 ht9 hW => ⟨⟨(), rfl, trivial, ad5, ck5, rf5, vf5, lf5, qf5, of5, xF5, xY5, xL5, by rw [ht9]; exact hP9, va_K.moved hW.alike hK9, hD9⟩, hS.F ht9⟩) hS.2.2 d_GraphSearch_lay_212
      · intro kJ
        refine lv_iload_n hx hb d_GraphSearch_lay_31 rfl (lv_at hl 1 rfl) ?_
        refine lv_iconst (v := 3) hx hb d_GraphSearch_lay_32 (by decide) ?_
        refine lv_icmp_ne (tgt := 40) hx hb d_GraphSearch_lay_33 (by decide) (fun c3 => ?_) (fun c3 => ?_)
        · skip
          have hc3 : ¬ (row = 3) := fun q9 => c3 ((nI_eq (a := row) (b := 3) (by omega) (by omega)).mpr q9)
          refine tp_pc (pc' := 40) (by rfl) ?_
          refine lv_iload_n hx hb d_GraphSearch_lay_40 rfl (lv_at hl 3 rfl) ?_
          refine lv_aload_n hx hb d_GraphSearch_lay_41 rfl (lv_at hl 0 rfl) ?_
          refine va_get (D := (dC, dI)) (ci := 6) (v := .ref pa) (C := R_GraphSearch) (T := F_GraphSearch) (N := 17) hx hb hw i_GraphSearch hown hK hP 0 rfl rfl 0 (by decide) (hw _ m_319) (fun _ h9 => h9) rfl d_GraphSearch_lay_42 ?_
          refine va_get (D := (dC, dI)) (ci := 0) (v := .ref (pA 9)) (C := R_Program) (T := F_Program) (N := 13) hx hb hw i_Program hown hK hP 13 rfl rfl 9 (by decide) (hw _ m_156) (fun _ h9 => h9) rfl d_GraphSearch_lay_45 ?_
          refine lv_iconst (v := 3) hx hb d_GraphSearch_lay_48 (by decide) ?_
          refine va_iald (D := (dC, dI)) hx hb hK hP 17 14 rfl rfl (i := 3) (pk_in 3 6 (by omega)) d_GraphSearch_lay_49 ?_
          refine tp_i (y := nI ((pg 9) 3)) (by rw [show (3 : Int32).toNatClampNeg = 3 from pk_cl 3]) ?_
          refine lv_iand hx hb d_GraphSearch_lay_50 ?_
          refine tp_i (y := (nI todo) &&& (nI ((pg 9) 3))) rfl ?_
          refine tp_i (y := nI (adL pg row todo)) (by rw [adL, if_neg hc3]; exact and_eq hto (p7 3)) ?_
          refine lv_istore (lv' := [(7, .int (nI (adL pg row todo))), (0, .ref xa), (1, .int (nI row)), (2, .int (nI last)), (3, .int (nI todo)), (4, .int (nI ah)), (5, .int (nI se)), (6, .int (nI d))]) hx hb d_GraphSearch_lay_51 hl (by decide) rfl ?_
          clear hl ls
          intro ls hl
          refine lv_iload hx hb d_GraphSearch_lay_53 (lv_at hl 0 rfl) ?_
          refine lv_iload_n hx hb d_GraphSearch_lay_55 rfl (lv_at hl 3 rfl) ?_
          refine lv_if_ne (tgt := 68) hx hb d_GraphSearch_lay_56 (by decide) (fun c4 => ?_) (fun c4 => ?_)
          · skip
            have hc4 : ¬ (last = 0) := fun q9 => c4 ((nI_eq (a := last) (b := 0) (by omega) (by omega)).mpr q9)
            refine tp_pc (pc' := 68) (by rfl) ?_
            refine lv_aload_n hx hb d_GraphSearch_lay_68 rfl (lv_at hl 1 rfl) ?_
            refine va_get (D := (dC, dI)) (ci := 6) (v := .ref (xA 6)) (C := R_GraphSearch) (T := F_GraphSearch) (N := 17) hx hb hw i_GraphSearch hown hK hP 0 rfl rfl 8 (by decide) (hw _ m_327) (fun _ h9 => h9) rfl d_GraphSearch_lay_69 ?_
            refine lv_iload_n hx hb d_GraphSearch_lay_72 rfl (lv_at hl 3 rfl) ?_
            refine va_iald (D := (dC, dI)) hx hb hK hP 4 3 rfl rfl (i := nI last) (pk_in last 8 (by omega)) d_GraphSearch_lay_73 ?_
            refine tp_i (y := nI ((sc 6) last)) (by rw [show (nI last : Int32).toNatClampNeg = last from pk_cl last]) ?_
            refine lv_iand hx hb d_GraphSearch_lay_74 ?_
            refine tp_i (y := (nI (adL pg row todo)) &&& (nI ((sc 6) last))) rfl ?_
            refine tp_i (y := nI (bdL pg sc row last todo)) (by rw [bdL, if_neg hc4]; exact and_eq ad8 (h6 _)) ?_
            refine lv_istore (lv' := [(8, .int (nI (bdL pg sc row last todo))), (7, .int (nI (adL pg row todo))), (0, .ref xa), (1, .int (nI row)), (2, .int (nI last)), (3, .int (nI todo)), (4, .int (nI ah)), (5, .int (nI se)), (6, .int (nI d))]) hx hb d_GraphSearch_lay_75 hl (by decide) rfl ?_
            clear hl ls
            intro ls hl
            refine lv_iload hx hb d_GraphSearch_lay_77 (lv_at hl 0 rfl) ?_
            refine lv_if_eq (tgt := 87) hx hb d_GraphSearch_lay_79 (by decide) (fun c5 => ?_) (fun c5 => ?_)
            · skip
              have hc5 : bdL pg sc row last todo = 0 := (nI_eq (a := bdL pg sc row last todo) (b := 0) (by omega) (by omega)).mp c5
              refine tp_pc (pc' := 87) (by rfl) ?_
              refine lv_iload_n hx hb d_GraphSearch_lay_87 rfl (lv_at hl 5 rfl) ?_
              refine lv_iload hx hb d_GraphSearch_lay_88 (lv_at hl 1 rfl) ?_
              refine lv_iconst (v := (-1)) hx hb d_GraphSearch_lay_90 (by decide) ?_
              refine lv_ixor hx hb d_GraphSearch_lay_91 ?_
              refine tp_i (y := (nI (adL pg row todo)) ^^^ (-1)) rfl ?_
              refine lv_iand hx hb d_GraphSearch_lay_92 ?_
              refine tp_i (y := (nI todo) &&& ((nI (adL pg row todo)) ^^^ (-1))) rfl ?_
              refine tp_i (y := nI (chL pg sc row last todo)) (by rw [chL, if_pos hc5]; exact andn_eq _ hto _ ad8) ?_
              refine lv_istore (lv' := [(9, .int (nI (chL pg sc row last todo))), (8, .int (nI (bdL pg sc row last todo))), (7, .int (nI (adL pg row todo))), (0, .ref xa), (1, .int (nI row)), (2, .int (nI last)), (3, .int (nI todo)), (4, .int (nI ah)), (5, .int (nI se)), (6, .int (nI d))]) hx hb d_GraphSearch_lay_93 hl (by decide) rfl ?_
              clear hl ls
              intro ls hl
              exact kJ _ (lv_sub hl [0, 3, 4, 5, 6, 7, 8, 9] rfl)
            · skip
              have hc5 : ¬ (bdL pg sc row last todo = 0) := fun q9 => c5 ((nI_eq (a := bdL pg sc row last todo) (b := 0) (by omega) (by omega)).mpr q9)
              refine tp_pc (pc' := 82) (by rfl) ?_
              refine lv_iload hx hb d_GraphSearch_lay_82 (lv_at hl 0 rfl) ?_
              refine lv_goto (tgt := 93) hx hb d_GraphSearch_lay_84 (by decide) ?_
              refine tp_pc (pc' := 93) (by rfl) ?_
              refine tp_i (y := nI (chL pg sc row last todo)) (by rw [chL, if_neg hc5]) ?_
              refine lv_istore (lv' := [(9, .int (nI (chL pg sc row last todo))), (8, .int (nI (bdL pg sc row last todo))), (7, .int (nI (adL pg row todo))), (0, .ref xa), (1, .int (nI row)), (2, .int (nI last)), (3, .int (nI todo)), (4, .int (nI ah)), (5, .int (nI se)), (6, .int (nI d))]) hx hb d_GraphSearch_lay_93 hl (by decide) rfl ?_
              clear hl ls
              intro ls hl
              exact kJ _ (lv_sub hl [0, 3, 4, 5, 6, 7, 8, 9] rfl)
          · skip
            have hc4 : last = 0 := (nI_eq (a := last) (b := 0) (by omega) (by omega)).mp c4
            refine tp_pc (pc' := 59) (by rfl) ?_
            refine lv_aload_n hx hb d_GraphSearch_lay_59 rfl (lv_at hl 1 rfl) ?_
            refine va_get (D := (dC, dI)) (ci := 6) (v := .ref (xA 7)) (C := R_GraphSearch) (T := F_GraphSearch) (N := 17) hx hb hw i_GraphSearch hown hK hP 0 rfl rfl 9 (by decide) (hw _ m_328) (fun _ h9 => h9) rfl d_GraphSearch_lay_60 ?_
            refine lv_iload_n hx hb d_GraphSearch_lay_63 rfl (lv_at hl 2 rfl) ?_
            refine va_iald (D := (dC, dI)) hx hb hK hP 5 4 rfl rfl (i := nI row) (pk_in row 4 (by omega)) d_GraphSearch_lay_64 ?_
            refine tp_i (y := nI ((sc 7) row)) (by rw [show (nI row : Int32).toNatClampNeg = row from pk_cl row]) ?_
            refine lv_goto (tgt := 74) hx hb d_GraphSearch_lay_65 (by decide) ?_
            refine tp_pc (pc' := 74) (by rfl) ?_
            refine lv_iand hx hb d_GraphSearch_lay_74 ?_
            refine tp_i (y := (nI (adL pg row todo)) &&& (nI ((sc 7) row))) rfl ?_
            refine tp_i (y := nI (bdL pg sc row last todo)) (by rw [bdL, if_pos hc4]; exact and_eq ad8 (h7 _)) ?_
            refine lv_istore (lv' := [(8, .int (nI (bdL pg sc row last todo))), (7, .int (nI (adL pg row todo))), (0, .ref xa), (1, .int (nI row)), (2, .int (nI last)), (3, .int (nI todo)), (4, .int (nI ah)), (5, .int (nI se)), (6, .int (nI d))]) hx hb d_GraphSearch_lay_75 hl (by decide) rfl ?_
            clear hl ls
            intro ls hl
            refine lv_iload hx hb d_GraphSearch_lay_77 (lv_at hl 0 rfl) ?_
            refine lv_if_eq (tgt := 87) hx hb d_GraphSearch_lay_79 (by decide) (fun c5 => ?_) (fun c5 => ?_)
            · skip
              have hc5 : bdL pg sc row last todo = 0 := (nI_eq (a := bdL pg sc row last todo) (b := 0) (by omega) (by omega)).mp c5
              refine tp_pc (pc' := 87) (by rfl) ?_
              refine lv_iload_n hx hb d_GraphSearch_lay_87 rfl (lv_at hl 5 rfl) ?_
              refine lv_iload hx hb d_GraphSearch_lay_88 (lv_at hl 1 rfl) ?_
              refine lv_iconst (v := (-1)) hx hb d_GraphSearch_lay_90 (by decide) ?_
              refine lv_ixor hx hb d_GraphSearch_lay_91 ?_
              refine tp_i (y := (nI (adL pg row todo)) ^^^ (-1)) rfl ?_
              refine lv_iand hx hb d_GraphSearch_lay_92 ?_
              refine tp_i (y := (nI todo) &&& ((nI (adL pg row todo)) ^^^ (-1))) rfl ?_
              refine tp_i (y := nI (chL pg sc row last todo)) (by rw [chL, if_pos hc5]; exact andn_eq _ hto _ ad8) ?_
              refine lv_istore (lv' := [(9, .int (nI (chL pg sc row last todo))), (8, .int (nI (bdL pg sc row last todo))), (7, .int (nI (adL pg row todo))), (0, .ref xa), (1, .int (nI row)), (2, .int (nI last)), (3, .int (nI todo)), (4, .int (nI ah)), (5, .int (nI se)), (6, .int (nI d))]) hx hb d_GraphSearch_lay_93 hl (by decide) rfl ?_
              clear hl ls
              intro ls hl
              exact kJ _ (lv_sub hl [0, 3, 4, 5, 6, 7, 8, 9] rfl)
            · skip
              have hc5 : ¬ (bdL pg sc row last todo = 0) := fun q9 => c5 ((nI_eq (a := bdL pg sc row last todo) (b := 0) (by omega) (by omega)).mpr q9)
              refine tp_pc (pc' := 82) (by rfl) ?_
              refine lv_iload hx hb d_GraphSearch_lay_82 (lv_at hl 0 rfl) ?_
              refine lv_goto (tgt := 93) hx hb d_GraphSearch_lay_84 (by decide) ?_
              refine tp_pc (pc' := 93) (by rfl) ?_
              refine tp_i (y := nI (chL pg sc row last todo)) (by rw [chL, if_neg hc5]) ?_
              refine lv_istore (lv' := [(9, .int (nI (chL pg sc row last todo))), (8, .int (nI (bdL pg sc row last todo))), (7, .int (nI (adL pg row todo))), (0, .ref xa), (1, .int (nI row)), (2, .int (nI last)), (3, .int (nI todo)), (4, .int (nI ah)), (5, .int (nI se)), (6, .int (nI d))]) hx hb d_GraphSearch_lay_93 hl (by decide) rfl ?_
              clear hl ls
              intro ls hl
              exact kJ _ (lv_sub hl [0, 3, 4, 5, 6, 7, 8, 9] rfl)
        · skip
          have hc3 : row = 3 := (nI_eq (a := row) (b := 3) (by omega) (by omega)).mp c3
          refine tp_pc (pc' := 36) (by rfl) ?_
          refine lv_iconst (v := 0) hx hb d_GraphSearch_lay_36 (by decide) ?_
          refine lv_goto (tgt := 51) hx hb d_GraphSearch_lay_37 (by decide) ?_
          refine tp_pc (pc' := 51) (by rfl) ?_
          refine tp_i (y := nI (adL pg row todo)) (by rw [adL, if_pos hc3]; rfl) ?_
          refine lv_istore (lv' := [(7, .int (nI (adL pg row todo))), (0, .ref xa), (1, .int (nI row)), (2, .int (nI last)), (3, .int (nI todo)), (4, .int (nI ah)), (5, .int (nI se)), (6, .int (nI d))]) hx hb d_GraphSearch_lay_51 hl (by decide) rfl ?_
          clear hl ls
          intro ls hl
          refine lv_iload hx hb d_GraphSearch_lay_53 (lv_at hl 0 rfl) ?_
          refine lv_iload_n hx hb d_GraphSearch_lay_55 rfl (lv_at hl 3 rfl) ?_
          refine lv_if_ne (tgt := 68) hx hb d_GraphSearch_lay_56 (by decide) (fun c4 => ?_) (fun c4 => ?_)
          · skip
            have hc4 : ¬ (last = 0) := fun q9 => c4 ((nI_eq (a := last) (b := 0) (by omega) (by omega)).mpr q9)
            refine tp_pc (pc' := 68) (by rfl) ?_
            refine lv_aload_n hx hb d_GraphSearch_lay_68 rfl (lv_at hl 1 rfl) ?_
            refine va_get (D := (dC, dI)) (ci := 6) (v := .ref (xA 6)) (C := R_GraphSearch) (T := F_GraphSearch) (N := 17) hx hb hw i_GraphSearch hown hK hP 0 rfl rfl 8 (by decide) (hw _ m_327) (fun _ h9 => h9) rfl d_GraphSearch_lay_69 ?_
            refine lv_iload_n hx hb d_GraphSearch_lay_72 rfl (lv_at hl 3 rfl) ?_
            refine va_iald (D := (dC, dI)) hx hb hK hP 4 3 rfl rfl (i := nI last) (pk_in last 8 (by omega)) d_GraphSearch_lay_73 ?_
            refine tp_i (y := nI ((sc 6) last)) (by rw [show (nI last : Int32).toNatClampNeg = last from pk_cl last]) ?_
            refine lv_iand hx hb d_GraphSearch_lay_74 ?_
            refine tp_i (y := (nI (adL pg row todo)) &&& (nI ((sc 6) last))) rfl ?_
            refine tp_i (y := nI (bdL pg sc row last todo)) (by rw [bdL, if_neg hc4]; exact and_eq ad8 (h6 _)) ?_
            refine lv_istore (lv' := [(8, .int (nI (bdL pg sc row last todo))), (7, .int (nI (adL pg row todo))), (0, .ref xa), (1, .int (nI row)), (2, .int (nI last)), (3, .int (nI todo)), (4, .int (nI ah)), (5, .int (nI se)), (6, .int (nI d))]) hx hb d_GraphSearch_lay_75 hl (by decide) rfl ?_
            clear hl ls
            intro ls hl
            refine lv_iload hx hb d_GraphSearch_lay_77 (lv_at hl 0 rfl) ?_
            refine lv_if_eq (tgt := 87) hx hb d_GraphSearch_lay_79 (by decide) (fun c5 => ?_) (fun c5 => ?_)
            · skip
              have hc5 : bdL pg sc row last todo = 0 := (nI_eq (a := bdL pg sc row last todo) (b := 0) (by omega) (by omega)).mp c5
              refine tp_pc (pc' := 87) (by rfl) ?_
              refine lv_iload_n hx hb d_GraphSearch_lay_87 rfl (lv_at hl 5 rfl) ?_
              refine lv_iload hx hb d_GraphSearch_lay_88 (lv_at hl 1 rfl) ?_
              refine lv_iconst (v := (-1)) hx hb d_GraphSearch_lay_90 (by decide) ?_
              refine lv_ixor hx hb d_GraphSearch_lay_91 ?_
              refine tp_i (y := (nI (adL pg row todo)) ^^^ (-1)) rfl ?_
              refine lv_iand hx hb d_GraphSearch_lay_92 ?_
              refine tp_i (y := (nI todo) &&& ((nI (adL pg row todo)) ^^^ (-1))) rfl ?_
              refine tp_i (y := nI (chL pg sc row last todo)) (by rw [chL, if_pos hc5]; exact andn_eq _ hto _ ad8) ?_
              refine lv_istore (lv' := [(9, .int (nI (chL pg sc row last todo))), (8, .int (nI (bdL pg sc row last todo))), (7, .int (nI (adL pg row todo))), (0, .ref xa), (1, .int (nI row)), (2, .int (nI last)), (3, .int (nI todo)), (4, .int (nI ah)), (5, .int (nI se)), (6, .int (nI d))]) hx hb d_GraphSearch_lay_93 hl (by decide) rfl ?_
              clear hl ls
              intro ls hl
              exact kJ _ (lv_sub hl [0, 3, 4, 5, 6, 7, 8, 9] rfl)
            · skip
              have hc5 : ¬ (bdL pg sc row last todo = 0) := fun q9 => c5 ((nI_eq (a := bdL pg sc row last todo) (b := 0) (by omega) (by omega)).mpr q9)
              refine tp_pc (pc' := 82) (by rfl) ?_
              refine lv_iload hx hb d_GraphSearch_lay_82 (lv_at hl 0 rfl) ?_
              refine lv_goto (tgt := 93) hx hb d_GraphSearch_lay_84 (by decide) ?_
              refine tp_pc (pc' := 93) (by rfl) ?_
              refine tp_i (y := nI (chL pg sc row last todo)) (by rw [chL, if_neg hc5]) ?_
              refine lv_istore (lv' := [(9, .int (nI (chL pg sc row last todo))), (8, .int (nI (bdL pg sc row last todo))), (7, .int (nI (adL pg row todo))), (0, .ref xa), (1, .int (nI row)), (2, .int (nI last)), (3, .int (nI todo)), (4, .int (nI ah)), (5, .int (nI se)), (6, .int (nI d))]) hx hb d_GraphSearch_lay_93 hl (by decide) rfl ?_
              clear hl ls
              intro ls hl
              exact kJ _ (lv_sub hl [0, 3, 4, 5, 6, 7, 8, 9] rfl)
          · skip
            have hc4 : last = 0 := (nI_eq (a := last) (b := 0) (by omega) (by omega)).mp c4
            refine tp_pc (pc' := 59) (by rfl) ?_
            refine lv_aload_n hx hb d_GraphSearch_lay_59 rfl (lv_at hl 1 rfl) ?_
            refine va_get (D := (dC, dI)) (ci := 6) (v := .ref (xA 7)) (C := R_GraphSearch) (T := F_GraphSearch) (N := 17) hx hb hw i_GraphSearch hown hK hP 0 rfl rfl 9 (by decide) (hw _ m_328) (fun _ h9 => h9) rfl d_GraphSearch_lay_60 ?_
            refine lv_iload_n hx hb d_GraphSearch_lay_63 rfl (lv_at hl 2 rfl) ?_
            refine va_iald (D := (dC, dI)) hx hb hK hP 5 4 rfl rfl (i := nI row) (pk_in row 4 (by omega)) d_GraphSearch_lay_64 ?_
            refine tp_i (y := nI ((sc 7) row)) (by rw [show (nI row : Int32).toNatClampNeg = row from pk_cl row]) ?_
            refine lv_goto (tgt := 74) hx hb d_GraphSearch_lay_65 (by decide) ?_
            refine tp_pc (pc' := 74) (by rfl) ?_
            refine lv_iand hx hb d_GraphSearch_lay_74 ?_
            refine tp_i (y := (nI (adL pg row todo)) &&& (nI ((sc 7) row))) rfl ?_
            refine tp_i (y := nI (bdL pg sc row last todo)) (by rw [bdL, if_pos hc4]; exact and_eq ad8 (h7 _)) ?_
            refine lv_istore (lv' := [(8, .int (nI (bdL pg sc row last todo))), (7, .int (nI (adL pg row todo))), (0, .ref xa), (1, .int (nI row)), (2, .int (nI last)), (3, .int (nI todo)), (4, .int (nI ah)), (5, .int (nI se)), (6, .int (nI d))]) hx hb d_GraphSearch_lay_75 hl (by decide) rfl ?_
            clear hl ls
            intro ls hl
            refine lv_iload hx hb d_GraphSearch_lay_77 (lv_at hl 0 rfl) ?_
            refine lv_if_eq (tgt := 87) hx hb d_GraphSearch_lay_79 (by decide) (fun c5 => ?_) (fun c5 => ?_)
            · skip
              have hc5 : bdL pg sc row last todo = 0 := (nI_eq (a := bdL pg sc row last todo) (b := 0) (by omega) (by omega)).mp c5
              refine tp_pc (pc' := 87) (by rfl) ?_
              refine lv_iload_n hx hb d_GraphSearch_lay_87 rfl (lv_at hl 5 rfl) ?_
              refine lv_iload hx hb d_GraphSearch_lay_88 (lv_at hl 1 rfl) ?_
              refine lv_iconst (v := (-1)) hx hb d_GraphSearch_lay_90 (by decide) ?_
              refine lv_ixor hx hb d_GraphSearch_lay_91 ?_
              refine tp_i (y := (nI (adL pg row todo)) ^^^ (-1)) rfl ?_
              refine lv_iand hx hb d_GraphSearch_lay_92 ?_
              refine tp_i (y := (nI todo) &&& ((nI (adL pg row todo)) ^^^ (-1))) rfl ?_
              refine tp_i (y := nI (chL pg sc row last todo)) (by rw [chL, if_pos hc5]; exact andn_eq _ hto _ ad8) ?_
              refine lv_istore (lv' := [(9, .int (nI (chL pg sc row last todo))), (8, .int (nI (bdL pg sc row last todo))), (7, .int (nI (adL pg row todo))), (0, .ref xa), (1, .int (nI row)), (2, .int (nI last)), (3, .int (nI todo)), (4, .int (nI ah)), (5, .int (nI se)), (6, .int (nI d))]) hx hb d_GraphSearch_lay_93 hl (by decide) rfl ?_
              clear hl ls
              intro ls hl
              exact kJ _ (lv_sub hl [0, 3, 4, 5, 6, 7, 8, 9] rfl)
            · skip
              have hc5 : ¬ (bdL pg sc row last todo = 0) := fun q9 => c5 ((nI_eq (a := bdL pg sc row last todo) (b := 0) (by omega) (by omega)).mpr q9)
              refine tp_pc (pc' := 82) (by rfl) ?_
              refine lv_iload hx hb d_GraphSearch_lay_82 (lv_at hl 0 rfl) ?_
              refine lv_goto (tgt := 93) hx hb d_GraphSearch_lay_84 (by decide) ?_
              refine tp_pc (pc' := 93) (by rfl) ?_
              refine tp_i (y := nI (chL pg sc row last todo)) (by rw [chL, if_neg hc5]) ?_
              refine lv_istore (lv' := [(9, .int (nI (chL pg sc row last todo))), (8, .int (nI (bdL pg sc row last todo))), (7, .int (nI (adL pg row todo))), (0, .ref xa), (1, .int (nI row)), (2, .int (nI last)), (3, .int (nI todo)), (4, .int (nI ah)), (5, .int (nI se)), (6, .int (nI d))]) hx hb d_GraphSearch_lay_93 hl (by decide) rfl ?_
              clear hl ls
              intro ls hl
              exact kJ _ (lv_sub hl [0, 3, 4, 5, 6, 7, 8, 9] rfl)
    · skip
      have hc2 : todo = 0 := (nI_eq (a := todo) (b := 0) (by omega) (by omega)).mp c2
      rw [if_pos hc2] at hgo
      obtain ⟨y1, hy1⟩ : ∃ y1 : Y9, y1 = (yg yy, ys yy, updN (yl yy) row last, yb yy, yo yy, yh yy) := ⟨_, rfl⟩
      rw [← hy1] at hgo
      have hg1 : yg y1 = yg yy := by rw [hy1]; rfl
      have hl1 : yl y1 = updN (yl yy) row last := by rw [hy1]; rfl
      have hY1 : YOk y1 := by rw [hy1]; exact ⟨hYy.1, hYy.2.1, hYy.2.2.1, fun i => by show updN (yl yy) row last i < 8; unfold updN; split; (exact hla); (exact hYy.2.2.2 i)⟩
      refine tp_pc (pc' := 12) (by rfl) ?_
      refine lv_aload_n hx hb d_GraphSearch_lay_12 rfl (lv_at hl 0 rfl) ?_
      refine va_get (D := (dC, dI)) (ci := 6) (v := .ref (xA 8)) (C := R_GraphSearch) (T := F_GraphSearch) (N := 17) hx hb hw i_GraphSearch hown hK hP 0 rfl rfl 10 (by decide) (hw _ m_329) (fun _ h9 => h9) rfl d_GraphSearch_lay_13 ?_
      refine lv_iload_n hx hb d_GraphSearch_lay_16 rfl (lv_at hl 1 rfl) ?_
      refine lv_iload_n hx hb d_GraphSearch_lay_17 rfl (lv_at hl 2 rfl) ?_
      refine va_iast (D := (dC, dI)) hx hb hK hP (dd_D hD rfl) hS 6 5 rfl rfl (i := nI row) (x := nI last) (pk_in row 4 (by omega)) d_GraphSearch_lay_18 ?_
      clear hP hS
      intro H locs hP _ hS
      rw [show (nI row : Int32).toNatClampNeg = row from pk_cl row] at hP
      rw [show upd (fun i => nI ((yl yy) i)) row (nI last) = fun i => nI (updN (yl yy) row last i) from upd_nI] at hP
      replace hP : va_P (dC, dI) classes [oc xa 6 [.ref pa, .ref ga, .ref (xA 0), .ref (xA 1), .ref (xA 2), .ref (xA 3), .ref (xA 4), .ref (xA 5), .ref (xA 6), .ref (xA 7), .ref (xA 8), .ref (xA 9), .ref (xA 10), .ref (xA 11), .ref fa, .int (nI md), .int (nI mb)], ia (xA 3) (xK 3) 7 (fun i => nI ((sc 3) i)), ia (xA 4) (xK 4) 7 (fun i => nI ((sc 4) i)), ia (xA 5) (xK 5) 7 (fun i => nI ((sc 5) i)), ia (xA 6) (xK 6) 8 (fun i => nI ((sc 6) i)), ia (xA 7) (xK 7) 4 (fun i => nI ((sc 7) i)), ia (xA 8) (xK 8) 4 (fun i => nI ((updN (yl yy) row last) i)), ia (xA 9) (xK 9) 7 (fun i => nI ((yb yy) i)), ia (xA 10) (xK 10) 7 (fun i => nI ((yo yy) i)), ia (xA 11) (xK 11) 7 (fun i => nI ((yh yy) i)), oc ga 1 [.ref pa, .ref g1, .ref g2, .ref g3, .int (nI dn), .long so], ia g2 l2 8 rg, ia g3 l3 8 vl, oc pa 0 [.ref (pA 0), .ref (pA 1), .ref (pA 2), .ref (pA 3), .ref (pA 4), .ref (pA 5), .ref (pA 6), .ref (pA 7), .ref (pA 8), .ref (pA 9), .ref (pA 10), .int (nI T), .int (nI Ac)], ia (pA 2) (pK 2) 7 (fun i => nI ((pg 2) i)), ia (pA 4) (pK 4) 7 (fun i => nI ((pg 4) i)), ia (pA 8) (pK 8) 4 (fun i => nI ((pg 8) i)), ia (pA 9) (pK 9) 6 (fun i => nI ((pg 9) i)), ia (pA 10) (pK 10) 3 (fun i => nI ((pg 10) i)), oc fa 3 [.int (nI E), .ref (ad 1), .ref (ad 2), .ref (ad 3), .ref (ad 4), .ref (ad 5), .int (nI ((gF (yg yy)).length)), .int (nI (ys yy)), .int rd], la (ad 1) (ck 1) (gC (yg yy)) rf, ia (ad 2) (ck 2) (gC (yg yy)) vf, ia (ad 3) (ck 3) (gC (yg yy)) lf, ia (ad 4) (ck 4) (gC (yg yy) * E) qf, ia (ad 5) (ck 5) (gC (yg yy)) (fun i => nI (of i))] H := hP
      refine tp_pc (pc' := 19) (by rfl) ?_
      refine lv_aload_n hx hb d_GraphSearch_lay_19 rfl (lv_at hl 0 rfl) ?_
      refine lv_iload_n hx hb d_GraphSearch_lay_20 rfl (lv_at hl 1 rfl) ?_
      refine lv_iconst (v := 1) hx hb d_GraphSearch_lay_21 (by decide) ?_
      refine lv_isub hx hb d_GraphSearch_lay_22 ?_
      refine tp_i (y := mN row) (row_m1 row hro) ?_
      refine lv_iload hx hb d_GraphSearch_lay_23 (lv_at hl 6 rfl) ?_
      refine lv_iconst (v := 1) hx hb d_GraphSearch_lay_25 (by decide) ?_
      refine lv_iadd hx hb d_GraphSearch_lay_26 ?_
      refine tp_i (y := nI (d + 1)) (by exact nI_add d 1) ?_
      replace hP : va_P (dC, dI) classes [oc xa 6 [.ref pa, .ref ga, .ref (xA 0), .ref (xA 1), .ref (xA 2), .ref (xA 3), .ref (xA 4), .ref (xA 5), .ref (xA 6), .ref (xA 7), .ref (xA 8), .ref (xA 9), .ref (xA 10), .ref (xA 11), .ref fa, .int (nI md), .int (nI mb)], ia (xA 3) (xK 3) 7 (fun i => nI ((sc 3) i)), ia (xA 4) (xK 4) 7 (fun i => nI ((sc 4) i)), ia (xA 5) (xK 5) 7 (fun i => nI ((sc 5) i)), ia (xA 6) (xK 6) 8 (fun i => nI ((sc 6) i)), ia (xA 7) (xK 7) 4 (fun i => nI ((sc 7) i)), ia (xA 8) (xK 8) 4 (fun i => nI ((yl y1) i)), ia (xA 9) (xK 9) 7 (fun i => nI ((yb y1) i)), ia (xA 10) (xK 10) 7 (fun i => nI ((yo y1) i)), ia (xA 11) (xK 11) 7 (fun i => nI ((yh y1) i)), oc ga 1 [.ref pa, .ref g1, .ref g2, .ref g3, .int (nI dn), .long so], ia g2 l2 8 rg, ia g3 l3 8 vl, oc pa 0 [.ref (pA 0), .ref (pA 1), .ref (pA 2), .ref (pA 3), .ref (pA 4), .ref (pA 5), .ref (pA 6), .ref (pA 7), .ref (pA 8), .ref (pA 9), .ref (pA 10), .int (nI T), .int (nI Ac)], ia (pA 2) (pK 2) 7 (fun i => nI ((pg 2) i)), ia (pA 4) (pK 4) 7 (fun i => nI ((pg 4) i)), ia (pA 8) (pK 8) 4 (fun i => nI ((pg 8) i)), ia (pA 9) (pK 9) 6 (fun i => nI ((pg 9) i)), ia (pA 10) (pK 10) 3 (fun i => nI ((pg 10) i)), oc fa 3 [.int (nI E), .ref (ad 1), .ref (ad 2), .ref (ad 3), .ref (ad 4), .ref (ad 5), .int (nI ((gF (yg y1)).length)), .int (nI (ys y1)), .int rd], la (ad 1) (ck 1) (gC (yg y1)) rf, ia (ad 2) (ck 2) (gC (yg y1)) vf, ia (ad 3) (ck 3) (gC (yg y1)) lf, ia (ad 4) (ck 4) (gC (yg y1) * E) qf, ia (ad 5) (ck 5) (gC (yg y1)) (fun i => nI (of i))] H := by rw [hy1]; exact hP
      obtain ⟨hPc, hDc, hFc⟩ := cut3 (wc := [oc xa 6 [.ref pa, .ref ga, .ref (xA 0), .ref (xA 1), .ref (xA 2), .ref (xA 3), .ref (xA 4), .ref (xA 5), .ref (xA 6), .ref (xA 7), .ref (xA 8), .ref (xA 9), .ref (xA 10), .ref (xA 11), .ref fa, .int (nI md), .int (nI mb)], ia (xA 3) (xK 3) 7 (fun i => nI ((sc 3) i)), ia (xA 4) (xK 4) 7 (fun i => nI ((sc 4) i)), ia (xA 5) (xK 5) 7 (fun i => nI ((sc 5) i)), ia (xA 6) (xK 6) 8 (fun i => nI ((sc 6) i)), ia (xA 7) (xK 7) 4 (fun i => nI ((sc 7) i)), ia (xA 8) (xK 8) 4 (fun i => nI ((yl y1) i)), ia (xA 9) (xK 9) 7 (fun i => nI ((yb y1) i)), ia (xA 10) (xK 10) 7 (fun i => nI ((yo y1) i)), ia (xA 11) (xK 11) 7 (fun i => nI ((yh y1) i)), oc ga 1 [.ref pa, .ref g1, .ref g2, .ref g3, .int (nI dn), .long so], ia g2 l2 8 rg, ia g3 l3 8 vl, oc pa 0 [.ref (pA 0), .ref (pA 1), .ref (pA 2), .ref (pA 3), .ref (pA 4), .ref (pA 5), .ref (pA 6), .ref (pA 7), .ref (pA 8), .ref (pA 9), .ref (pA 10), .int (nI T), .int (nI Ac)], ia (pA 2) (pK 2) 7 (fun i => nI ((pg 2) i)), ia (pA 4) (pK 4) 7 (fun i => nI ((pg 4) i)), ia (pA 8) (pK 8) 4 (fun i => nI ((pg 8) i)), ia (pA 9) (pK 9) 6 (fun i => nI ((pg 9) i)), ia (pA 10) (pK 10) 3 (fun i => nI ((pg 10) i)), oc fa 3 [.int (nI E), .ref (ad 1), .ref (ad 2), .ref (ad 3), .ref (ad 4), .ref (ad 5), .int (nI ((gF (yg y1)).length)), .int (nI (ys y1)), .int rd], la (ad 1) (ck 1) (gC (yg y1)) rf, ia (ad 2) (ck 2) (gC (yg y1)) vf, ia (ad 3) (ck 3) (gC (yg y1)) lf, ia (ad 4) (ck 4) (gC (yg y1) * E) qf, ia (ad 5) (ck 5) (gC (yg y1)) (fun i => nI (of i))]) hP hD rfl hS hA [0, 1, 2, 3, 4, 5, 6, 7, 8, 9, 10, 11, 12, 13, 14, 15, 16, 17, 18, 19, 20, 21, 22, 23, 24] (by decide +kernel) rfl
      have hKc := hK.sub (tys' := [((xK 3), .int), ((xK 4), .int), ((xK 5), .int), ((xK 6), .int), ((xK 7), .int), ((xK 8), .int), ((xK 9), .int), ((xK 10), .int), ((xK 11), .int), (l2, .int), (l3, .int), ((pK 2), .int), ((pK 4), .int), ((pK 8), .int), ((pK 9), .int), ((pK 10), .int), ((ck 1), .long), ((ck 2), .int), ((ck 3), .int), ((ck 4), .int), ((ck 5), .int)]) [0, 1, 2, 3, 4, 5, 6, 7, 8, 9, 10, 11, 12, 13, 14, 15, 16, 17, 18, 19, 20] rfl
      refine va_callv (va_runV (As := [.int (mN row), .int (nI (d + 1))]) (rest := []) ⟨hx, hb, hml, hown, hw⟩ (gen_GS_startRow l dC dI pa pA pK T Ac pg nm ga g1 g2 g3 l2 l3 xa fa xA xK E md mb rd fm wm sc dn so rg vl cv (d + 1) fr lo nx row y1 yz ad ck rf vf lf qf of hPg hmd hmb hE2 hs3 hs4 hs5 h6 h7 hmd2 hv (by omega) hfr hlo hmo (hly hlt) (by omega) hY1 (fun r h1 h2 => by rw [hl1]; unfold updN; split; (exact hlw (by omega)); (exact hyw r (by omega) h2)) (by rw [hg1]; exact hF9) hbig hgo H.size) (cw_V 2 hw g_GraphSearch_startRow rfl rfl rfl (hw _ m_107) (hw _ m_792) (hw _ m_794) (hw _ m_38) (by decide +kernel) ⟨by show _ ≤ (fr + 2 : Nat); (try dsimp only); omega, by show _ ≤ (lo + 80 : Nat); (try dsimp only); omega⟩) ⟨fun a U g mk q => by obtain ⟨q0, q1, qP, qK, qD, qN⟩ := q; exact ⟨q0, q1, qP, va_K.moved (u := U) (U := U.calling g mk a) (Vm.Alike.refl U.vm) qK, qD, nw_call qN⟩, va_recv hKc hPc (ci := 6) (q0 := 0) rfl rfl, fun U hU hW => ⟨rfl, by rw [hU], by rw [hU]; exact hPc, va_K.moved hW.alike hKc, hDc.weaken (fun _ _ _ _ => trivial), nw_warm hW hn⟩⟩ rfl rfl hl.1 rfl (lv_room (Nat.le_of_ble_eq_true rfl)) d_GraphSearch_lay_27 ⟨by show 0 + (gc (yg yz) - gc (yg y1)) ≤ gc (yg yz) - gc (yg yy); rw [hg1]; omega, by show 0 + (gs (yg yz) - gs (yg y1)) ≤ gs (yg yz) - gs (yg yy); rw [hg1]; omega⟩) hS (fun q _ h => hFc q h) hFc ?_
      intro u t9 H1 locs1 ht9 hvm hw1 hB hz1 hk1 hS1
      obtain ⟨ad2, ck2, rf2, vf2, lf2, qf2, of2, xF, xY, xL, hP1, hK1, hD1⟩ := hB
      rw [ht9] at hP1
      replace hK1 := va_K.moved hvm.symm hK1
      have hPD := join3 hP hD rfl [0, 1, 2, 3, 4, 5, 6, 7, 8, 9, 10, 11, 12, 13, 14, 15, 16, 17, 18, 19, 20, 21, 22, 23, 24] [] rfl (by rfl) (by decide +kernel) (by decide +kernel) hk1 hFc hP1 hD1
      replace hK : va_K (dC, dI) classes [((xK 3), .int), ((xK 4), .int), ((xK 5), .int), ((xK 6), .int), ((xK 7), .int), ((xK 8), .int), ((xK 9), .int), ((xK 10), .int), ((xK 11), .int), (l2, .int), (l3, .int), ((pK 2), .int), ((pK 4), .int), ((pK 8), .int), ((pK 9), .int), ((pK 10), .int), ((ck 1), .long), ((ck 2), .int), ((ck 3), .int), ((ck 4), .int), ((ck 5), .int), ((ck2 1), .long), ((ck2 2), .int), ((ck2 3), .int), ((ck2 4), .int), ((ck2 5), .int)] s := hK.app hK1
      clear hP1 hK1 hD1 hk1 hz1 hFc hKc hDc hPc hvm ht9 hP hS t9 locs H
      have hP : va_P (dC, dI) classes [oc xa 6 [.ref pa, .ref ga, .ref (xA 0), .ref (xA 1), .ref (xA 2), .ref (xA 3), .ref (xA 4), .ref (xA 5), .ref (xA 6), .ref (xA 7), .ref (xA 8), .ref (xA 9), .ref (xA 10), .ref (xA 11), .ref fa, .int (nI md), .int (nI mb)], ia (xA 3) (xK 3) 7 (fun i => nI ((sc 3) i)), ia (xA 4) (xK 4) 7 (fun i => nI ((sc 4) i)), ia (xA 5) (xK 5) 7 (fun i => nI ((sc 5) i)), ia (xA 6) (xK 6) 8 (fun i => nI ((sc 6) i)), ia (xA 7) (xK 7) 4 (fun i => nI ((sc 7) i)), ia (xA 8) (xK 8) 4 (fun i => nI ((yl yz) i)), ia (xA 9) (xK 9) 7 (fun i => nI ((yb yz) i)), ia (xA 10) (xK 10) 7 (fun i => nI ((yo yz) i)), ia (xA 11) (xK 11) 7 (fun i => nI ((yh yz) i)), oc ga 1 [.ref pa, .ref g1, .ref g2, .ref g3, .int (nI dn), .long so], ia g2 l2 8 rg, ia g3 l3 8 vl, oc pa 0 [.ref (pA 0), .ref (pA 1), .ref (pA 2), .ref (pA 3), .ref (pA 4), .ref (pA 5), .ref (pA 6), .ref (pA 7), .ref (pA 8), .ref (pA 9), .ref (pA 10), .int (nI T), .int (nI Ac)], ia (pA 2) (pK 2) 7 (fun i => nI ((pg 2) i)), ia (pA 4) (pK 4) 7 (fun i => nI ((pg 4) i)), ia (pA 8) (pK 8) 4 (fun i => nI ((pg 8) i)), ia (pA 9) (pK 9) 6 (fun i => nI ((pg 9) i)), ia (pA 10) (pK 10) 3 (fun i => nI ((pg 10) i)), oc fa 3 [.int (nI E), .ref (ad2 1), .ref (ad2 2), .ref (ad2 3), .ref (ad2 4), .ref (ad2 5), .int (nI ((gF (yg yz)).length)), .int (nI (ys yz)), .int rd], la (ad2 1) (ck2 1) (gC (yg yz)) rf2, ia (ad2 2) (ck2 2) (gC (yg yz)) vf2, ia (ad2 3) (ck2 3) (gC (yg yz)) lf2, ia (ad2 4) (ck2 4) (gC (yg yz) * E) qf2, ia (ad2 5) (ck2 5) (gC (yg yz)) (fun i => nI (of2 i))] H1 := hPD.1
      replace hD : dd A [xa, (xA 3), (xA 4), (xA 5), (xA 6), (xA 7), (xA 8), (xA 9), (xA 10), (xA 11), ga, g2, g3, pa, (pA 2), (pA 4), (pA 8), (pA 9), (pA 10), fa, (ad2 1), (ad2 2), (ad2 3), (ad2 4), (ad2 5)] := dd_of hPD.2 rfl
      clear hPD
      revert H1 locs1
      intro H locs hS hP
      clear hw1 u
      refine tp_pc (pc' := 30) (by rfl) ?_
      obtain ⟨hP9, hD9, -⟩ := cut3 (wc := [oc xa 6 [.ref pa, .ref ga, .ref (xA 0), .ref (xA 1), .ref (xA 2), .ref (xA 3), .ref (xA 4), .ref (xA 5), .ref (xA 6), .ref (xA 7), .ref (xA 8), .ref (xA 9), .ref (xA 10), .ref (xA 11), .ref fa, .int (nI md), .int (nI mb)], ia (xA 3) (xK 3) 7 (fun i => nI ((sc 3) i)), ia (xA 4) (xK 4) 7 (fun i => nI ((sc 4) i)), ia (xA 5) (xK 5) 7 (fun i => nI ((sc 5) i)), ia (xA 6) (xK 6) 8 (fun i => nI ((sc 6) i)), ia (xA 7) (xK 7) 4 (fun i => nI ((sc 7) i)), ia (xA 8) (xK 8) 4 (fun i => nI ((yl yz) i)), ia (xA 9) (xK 9) 7 (fun i => nI ((yb yz) i)), ia (xA 10) (xK 10) 7 (fun i => nI ((yo yz) i)), ia (xA 11) (xK 11) 7 (fun i => nI ((yh yz) i)), oc ga 1 [.ref pa, .ref g1, .ref g2, .ref g3, .int (nI dn), .long so], ia g2 l2 8 rg, ia g3 l3 8 vl, oc pa 0 [.ref (pA 0), .ref (pA 1), .ref (pA 2), .ref (pA 3), .ref (pA 4), .ref (pA 5), .ref (pA 6), .ref (pA 7), .ref (pA 8), .ref (pA 9), .ref (pA 10), .int (nI T), .int (nI Ac)], ia (pA 2) (pK 2) 7 (fun i => nI ((pg 2) i)), ia (pA 4) (pK 4) 7 (fun i => nI ((pg 4) i)), ia (pA 8) (pK 8) 4 (fun i => nI ((pg 8) i)), ia (pA 9) (pK 9) 6 (fun i => nI ((pg 9) i)), ia (pA 10) (pK 10) 3 (fun i => nI ((pg 10) i)), oc fa 3 [.int (nI E), .ref (ad2 1), .ref (ad2 2), .ref (ad2 3), .ref (ad2 4), .ref (ad2 5), .int (nI ((gF (yg yz)).length)), .int (nI (ys yz)), .int rd], la (ad2 1) (ck2 1) (gC (yg yz)) rf2, ia (ad2 2) (ck2 2) (gC (yg yz)) vf2, ia (ad2 3) (ck2 3) (gC (yg yz)) lf2, ia (ad2 4) (ck2 4) (gC (yg yz) * E) qf2, ia (ad2 5) (ck2 5) (gC (yg yz)) (fun i => nI (of2 i))]) hP hD rfl hS hA [0, 1, 2, 3, 4, 5, 6, 7, 8, 9, 10, 11, 12, 13, 14, 15, 16, 17, 18, 19, 20, 21, 22, 23, 24] (by decide +kernel) rfl
      have hK9 := hK.sub (tys' := [((ck2 1), .long), ((ck2 2), .int), ((ck2 3), .int), ((ck2 4), .int), ((ck2 5), .int)]) [21, 22, 23, 24, 25] rfl
      refine W.widen (k := gc (yg yz) - gc (yg yy)) (n := gs (yg yz) - gs (yg yy)) (by rw [hg1]; omega) (by rw [hg1]; omega) ?_
      exact W.vret hx hb hr (fun t9 ht9 hW => ⟨⟨(), rfl, trivial, ad2, ck2, rf2, vf2, lf2, qf2, of2, xF, xY, (fun r h => by rw [xL r (by omega), hl1]; exact if_neg (by omega)), by rw [ht9]; exact hP9, va_K.moved hW.alike hK9, hD9⟩, hS.F ht9⟩) hS.2.2 d_GraphSearch_lay_30
  · skip
    have hc1 : ¬ (d ≤ 11) := fun q9 => c1 ((nI_leI (a := d) (b := 11) (by omega) (by omega)).mpr q9)
    have e9 : yy = yz := by rw [← hgo, layS, if_pos (by omega)]
    rw [e9] at hP hF9 hYy
    replace hP : va_P (dC, dI) classes [oc xa 6 [.ref pa, .ref ga, .ref (xA 0), .ref (xA 1), .ref (xA 2), .ref (xA 3), .ref (xA 4), .ref (xA 5), .ref (xA 6), .ref (xA 7), .ref (xA 8), .ref (xA 9), .ref (xA 10), .ref (xA 11), .ref fa, .int (nI md), .int (nI mb)], ia (xA 3) (xK 3) 7 (fun i => nI ((sc 3) i)), ia (xA 4) (xK 4) 7 (fun i => nI ((sc 4) i)), ia (xA 5) (xK 5) 7 (fun i => nI ((sc 5) i)), ia (xA 6) (xK 6) 8 (fun i => nI ((sc 6) i)), ia (xA 7) (xK 7) 4 (fun i => nI ((sc 7) i)), ia (xA 8) (xK 8) 4 (fun i => nI ((yl yz) i)), ia (xA 9) (xK 9) 7 (fun i => nI ((yb yz) i)), ia (xA 10) (xK 10) 7 (fun i => nI ((yo yz) i)), ia (xA 11) (xK 11) 7 (fun i => nI ((yh yz) i)), oc ga 1 [.ref pa, .ref g1, .ref g2, .ref g3, .int (nI dn), .long so], ia g2 l2 8 rg, ia g3 l3 8 vl, oc pa 0 [.ref (pA 0), .ref (pA 1), .ref (pA 2), .ref (pA 3), .ref (pA 4), .ref (pA 5), .ref (pA 6), .ref (pA 7), .ref (pA 8), .ref (pA 9), .ref (pA 10), .int (nI T), .int (nI Ac)], ia (pA 2) (pK 2) 7 (fun i => nI ((pg 2) i)), ia (pA 4) (pK 4) 7 (fun i => nI ((pg 4) i)), ia (pA 8) (pK 8) 4 (fun i => nI ((pg 8) i)), ia (pA 9) (pK 9) 6 (fun i => nI ((pg 9) i)), ia (pA 10) (pK 10) 3 (fun i => nI ((pg 10) i)), oc fa 3 [.int (nI E), .ref (ad 1), .ref (ad 2), .ref (ad 3), .ref (ad 4), .ref (ad 5), .int (nI ((gF (yg yz)).length)), .int (nI (ys yz)), .int rd], la (ad 1) (ck 1) (gC (yg yz)) rf, ia (ad 2) (ck 2) (gC (yg yz)) vf, ia (ad 3) (ck 3) (gC (yg yz)) lf, ia (ad 4) (ck 4) (gC (yg yz) * E) qf, ia (ad 5) (ck 5) (gC (yg yz)) (fun i => nI (of i))] s.heap := hP
    refine tp_pc (pc' := 7) (by rfl) ?_
    obtain ⟨hP9, hD9, -⟩ := cut3 (wc := [oc xa 6 [.ref pa, .ref ga, .ref (xA 0), .ref (xA 1), .ref (xA 2), .ref (xA 3), .ref (xA 4), .ref (xA 5), .ref (xA 6), .ref (xA 7), .ref (xA 8), .ref (xA 9), .ref (xA 10), .ref (xA 11), .ref fa, .int (nI md), .int (nI mb)], ia (xA 3) (xK 3) 7 (fun i => nI ((sc 3) i)), ia (xA 4) (xK 4) 7 (fun i => nI ((sc 4) i)), ia (xA 5) (xK 5) 7 (fun i => nI ((sc 5) i)), ia (xA 6) (xK 6) 8 (fun i => nI ((sc 6) i)), ia (xA 7) (xK 7) 4 (fun i => nI ((sc 7) i)), ia (xA 8) (xK 8) 4 (fun i => nI ((yl yz) i)), ia (xA 9) (xK 9) 7 (fun i => nI ((yb yz) i)), ia (xA 10) (xK 10) 7 (fun i => nI ((yo yz) i)), ia (xA 11) (xK 11) 7 (fun i => nI ((yh yz) i)), oc ga 1 [.ref pa, .ref g1, .ref g2, .ref g3, .int (nI dn), .long so], ia g2 l2 8 rg, ia g3 l3 8 vl, oc pa 0 [.ref (pA 0), .ref (pA 1), .ref (pA 2), .ref (pA 3), .ref (pA 4), .ref (pA 5), .ref (pA 6), .ref (pA 7), .ref (pA 8), .ref (pA 9), .ref (pA 10), .int (nI T), .int (nI Ac)], ia (pA 2) (pK 2) 7 (fun i => nI ((pg 2) i)), ia (pA 4) (pK 4) 7 (fun i => nI ((pg 4) i)), ia (pA 8) (pK 8) 4 (fun i => nI ((pg 8) i)), ia (pA 9) (pK 9) 6 (fun i => nI ((pg 9) i)), ia (pA 10) (pK 10) 3 (fun i => nI ((pg 10) i)), oc fa 3 [.int (nI E), .ref (ad 1), .ref (ad 2), .ref (ad 3), .ref (ad 4), .ref (ad 5), .int (nI ((gF (yg yz)).length)), .int (nI (ys yz)), .int rd], la (ad 1) (ck 1) (gC (yg yz)) rf, ia (ad 2) (ck 2) (gC (yg yz)) vf, ia (ad 3) (ck 3) (gC (yg yz)) lf, ia (ad 4) (ck 4) (gC (yg yz) * E) qf, ia (ad 5) (ck 5) (gC (yg yz)) (fun i => nI (of i))]) hP hD rfl hS hA [0, 1, 2, 3, 4, 5, 6, 7, 8, 9, 10, 11, 12, 13, 14, 15, 16, 17, 18, 19, 20, 21, 22, 23, 24] (by decide +kernel) rfl
    have hK9 := hK.sub (tys' := [((ck 1), .long), ((ck 2), .int), ((ck 3), .int), ((ck 4), .int), ((ck 5), .int)]) [16, 17, 18, 19, 20] rfl
    refine W.widen (k := gc (yg yz) - gc (yg yy)) (n := gs (yg yz) - gs (yg yy)) (by omega) (by omega) ?_
    exact W.vret hx hb hr (fun t9 ht9 hW => ⟨⟨(), rfl, trivial, ad, ck, rf, vf, lf, qf, of, hF9, hYy, (fun r _ => by rw [e9]), by rw [ht9]; exact hP9, va_K.moved hW.alike hK9, hD9⟩, hS.F ht9⟩) hS.2.2 d_GraphSearch_lay_7
