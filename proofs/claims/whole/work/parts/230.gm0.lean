set_option maxHeartbeats 4000000 in
set_option maxRecDepth 100000 in
theorem gen_OM_forget (l : Launch) (dC : Nat → ClassId) (dI : Nat → Nat → Nat) (oa pa ba ka xa ra1 ra2 : Nat) (kr1 kr2 : ClassId) (fA fB : Nat → Nat) (eA nA sA yA eB nB sB yB : Nat → Int32) (aA aB : Nat → Nat → Nat)  (sz : Nat) : Met l y_OM_forget w_OM_forget ({ frames := 0, cells := 0, slots := 0, locals := 0 }) (va_Pc [.ref oa] (fun U => U.heap.size = sz ∧ va_P (dC, dI) classes [oc oa 7 [.ref pa, .ref ba, .ref ka, .ref xa, .ref ra1, .ref ra2], qa ra1 kr1 4 (va_up (va_up (va_up (va_up (fun _ => none) 0 (some (fA 0))) 1 (some (fA 1))) 2 (some (fA 2))) 3 (some (fA 3))), qa ra2 kr2 4 (va_up (va_up (va_up (va_up (fun _ => none) 0 (some (fB 0))) 1 (some (fB 1))) 2 (some (fB 2))) 3 (some (fB 3))), oc (fA 0) 3 [.int (eA 0), .ref (aA 0 1), .ref (aA 0 2), .ref (aA 0 3), .ref (aA 0 4), .ref (aA 0 5), .int (nA 0), .int (sA 0), .int (yA 0)], oc (fA 1) 3 [.int (eA 1), .ref (aA 1 1), .ref (aA 1 2), .ref (aA 1 3), .ref (aA 1 4), .ref (aA 1 5), .int (nA 1), .int (sA 1), .int (yA 1)], oc (fA 2) 3 [.int (eA 2), .ref (aA 2 1), .ref (aA 2 2), .ref (aA 2 3), .ref (aA 2 4), .ref (aA 2 5), .int (nA 2), .int (sA 2), .int (yA 2)], oc (fA 3) 3 [.int (eA 3), .ref (aA 3 1), .ref (aA 3 2), .ref (aA 3 3), .ref (aA 3 4), .ref (aA 3 5), .int (nA 3), .int (sA 3), .int (yA 3)], oc (fB 0) 3 [.int (eB 0), .ref (aB 0 1), .ref (aB 0 2), .ref (aB 0 3), .ref (aB 0 4), .ref (aB 0 5), .int (nB 0), .int (sB 0), .int (yB 0)], oc (fB 1) 3 [.int (eB 1), .ref (aB 1 1), .ref (aB 1 2), .ref (aB 1 3), .ref (aB 1 4), .ref (aB 1 5), .int (nB 1), .int (sB 1), .int (yB 1)], oc (fB 2) 3 [.int (eB 2), .ref (aB 2 1), .ref (aB 2 2), .ref (aB 2 3), .ref (aB 2 4), .ref (aB 2 5), .int (nB 2), .int (sB 2), .int (yB 2)], oc (fB 3) 3 [.int (eB 3), .ref (aB 3 1), .ref (aB 3 2), .ref (aB 3 3), .ref (aB 3 4), .ref (aB 3 5), .int (nB 3), .int (sB 3), .int (yB 3)]] U.heap ∧ va_K (dC, dI) classes [(kr1, .object "OrderModels$OutcomeSet"), (kr2, .object "OrderModels$OutcomeSet")] U ∧ va_D (fun _ => True) [oc oa 7 [.ref pa, .ref ba, .ref ka, .ref xa, .ref ra1, .ref ra2], qa ra1 kr1 4 (va_up (va_up (va_up (va_up (fun _ => none) 0 (some (fA 0))) 1 (some (fA 1))) 2 (some (fA 2))) 3 (some (fA 3))), qa ra2 kr2 4 (va_up (va_up (va_up (va_up (fun _ => none) 0 (some (fB 0))) 1 (some (fB 1))) 2 (some (fB 2))) 3 (some (fB 3))), oc (fA 0) 3 [.int (eA 0), .ref (aA 0 1), .ref (aA 0 2), .ref (aA 0 3), .ref (aA 0 4), .ref (aA 0 5), .int (nA 0), .int (sA 0), .int (yA 0)], oc (fA 1) 3 [.int (eA 1), .ref (aA 1 1), .ref (aA 1 2), .ref (aA 1 3), .ref (aA 1 4), .ref (aA 1 5), .int (nA 1), .int (sA 1), .int (yA 1)], oc (fA 2) 3 [.int (eA 2), .ref (aA 2 1), .ref (aA 2 2), .ref (aA 2 3), .ref (aA 2 4), .ref (aA 2 5), .int (nA 2), .int (sA 2), .int (yA 2)], oc (fA 3) 3 [.int (eA 3), .ref (aA 3 1), .ref (aA 3 2), .ref (aA 3 3), .ref (aA 3 4), .ref (aA 3 5), .int (nA 3), .int (sA 3), .int (yA 3)], oc (fB 0) 3 [.int (eB 0), .ref (aB 0 1), .ref (aB 0 2), .ref (aB 0 3), .ref (aB 0 4), .ref (aB 0 5), .int (nB 0), .int (sB 0), .int (yB 0)], oc (fB 1) 3 [.int (eB 1), .ref (aB 1 1), .ref (aB 1 2), .ref (aB 1 3), .ref (aB 1 4), .ref (aB 1 5), .int (nB 1), .int (sB 1), .int (yB 1)], oc (fB 2) 3 [.int (eB 2), .ref (aB 2 1), .ref (aB 2 2), .ref (aB 2 3), .ref (aB 2 4), .ref (aB 2 5), .int (nB 2), .int (sB 2), .int (yB 2)], oc (fB 3) 3 [.int (eB 3), .ref (aB 3 1), .ref (aB 3 2), .ref (aB 3 3), .ref (aB 3 4), .ref (aB 3 5), .int (nB 3), .int (sB 3), .int (yB 3)]] ∧ nw U)) (va_Qv (fun _ : Unit => True) (fun _ t9 => va_P (dC, dI) classes [oc oa 7 [.ref pa, .ref ba, .ref ka, .ref xa, .ref ra1, .ref ra2], qa ra1 kr1 4 (va_up (va_up (va_up (va_up (fun _ => none) 0 (some (fA 0))) 1 (some (fA 1))) 2 (some (fA 2))) 3 (some (fA 3))), qa ra2 kr2 4 (va_up (va_up (va_up (va_up (fun _ => none) 0 (some (fB 0))) 1 (some (fB 1))) 2 (some (fB 2))) 3 (some (fB 3))), oc (fA 0) 3 [.int (eA 0), .ref (aA 0 1), .ref (aA 0 2), .ref (aA 0 3), .ref (aA 0 4), .ref (aA 0 5), .int (nA 0), .int (sA 0), .int 0], oc (fA 1) 3 [.int (eA 1), .ref (aA 1 1), .ref (aA 1 2), .ref (aA 1 3), .ref (aA 1 4), .ref (aA 1 5), .int (nA 1), .int (sA 1), .int 0], oc (fA 2) 3 [.int (eA 2), .ref (aA 2 1), .ref (aA 2 2), .ref (aA 2 3), .ref (aA 2 4), .ref (aA 2 5), .int (nA 2), .int (sA 2), .int 0], oc (fA 3) 3 [.int (eA 3), .ref (aA 3 1), .ref (aA 3 2), .ref (aA 3 3), .ref (aA 3 4), .ref (aA 3 5), .int (nA 3), .int (sA 3), .int 0], oc (fB 0) 3 [.int (eB 0), .ref (aB 0 1), .ref (aB 0 2), .ref (aB 0 3), .ref (aB 0 4), .ref (aB 0 5), .int (nB 0), .int (sB 0), .int 0], oc (fB 1) 3 [.int (eB 1), .ref (aB 1 1), .ref (aB 1 2), .ref (aB 1 3), .ref (aB 1 4), .ref (aB 1 5), .int (nB 1), .int (sB 1), .int 0], oc (fB 2) 3 [.int (eB 2), .ref (aB 2 1), .ref (aB 2 2), .ref (aB 2 3), .ref (aB 2 4), .ref (aB 2 5), .int (nB 2), .int (sB 2), .int 0], oc (fB 3) 3 [.int (eB 3), .ref (aB 3 1), .ref (aB 3 2), .ref (aB 3 3), .ref (aB 3 4), .ref (aB 3 5), .int (nB 3), .int (sB 3), .int 0]] t9.heap ∧ va_K (dC, dI) classes [] t9 ∧ va_D (va_A [oc oa 7 [.ref pa, .ref ba, .ref ka, .ref xa, .ref ra1, .ref ra2], qa ra1 kr1 4 (va_up (va_up (va_up (va_up (fun _ => none) 0 (some (fA 0))) 1 (some (fA 1))) 2 (some (fA 2))) 3 (some (fA 3))), qa ra2 kr2 4 (va_up (va_up (va_up (va_up (fun _ => none) 0 (some (fB 0))) 1 (some (fB 1))) 2 (some (fB 2))) 3 (some (fB 3))), oc (fA 0) 3 [.int (eA 0), .ref (aA 0 1), .ref (aA 0 2), .ref (aA 0 3), .ref (aA 0 4), .ref (aA 0 5), .int (nA 0), .int (sA 0), .int (yA 0)], oc (fA 1) 3 [.int (eA 1), .ref (aA 1 1), .ref (aA 1 2), .ref (aA 1 3), .ref (aA 1 4), .ref (aA 1 5), .int (nA 1), .int (sA 1), .int (yA 1)], oc (fA 2) 3 [.int (eA 2), .ref (aA 2 1), .ref (aA 2 2), .ref (aA 2 3), .ref (aA 2 4), .ref (aA 2 5), .int (nA 2), .int (sA 2), .int (yA 2)], oc (fA 3) 3 [.int (eA 3), .ref (aA 3 1), .ref (aA 3 2), .ref (aA 3 3), .ref (aA 3 4), .ref (aA 3 5), .int (nA 3), .int (sA 3), .int (yA 3)], oc (fB 0) 3 [.int (eB 0), .ref (aB 0 1), .ref (aB 0 2), .ref (aB 0 3), .ref (aB 0 4), .ref (aB 0 5), .int (nB 0), .int (sB 0), .int (yB 0)], oc (fB 1) 3 [.int (eB 1), .ref (aB 1 1), .ref (aB 1 2), .ref (aB 1 3), .ref (aB 1 4), .ref (aB 1 5), .int (nB 1), .int (sB 1), .int (yB 1)], oc (fB 2) 3 [.int (eB 2), .ref (aB 2 1), .ref (aB 2 2), .ref (aB 2 3), .ref (aB 2 4), .ref (aB 2 5), .int (nB 2), .int (sB 2), .int (yB 2)], oc (fB 3) 3 [.int (eB 3), .ref (aB 3 1), .ref (aB 3 2), .ref (aB 3 3), .ref (aB 3 4), .ref (aB 3 5), .int (nB 3), .int (sB 3), .int (yB 3)]] sz) [oc oa 7 [.ref pa, .ref ba, .ref ka, .ref xa, .ref ra1, .ref ra2], qa ra1 kr1 4 (va_up (va_up (va_up (va_up (fun _ => none) 0 (some (fA 0))) 1 (some (fA 1))) 2 (some (fA 2))) 3 (some (fA 3))), qa ra2 kr2 4 (va_up (va_up (va_up (va_up (fun _ => none) 0 (some (fB 0))) 1 (some (fB 1))) 2 (some (fB 2))) 3 (some (fB 3))), oc (fA 0) 3 [.int (eA 0), .ref (aA 0 1), .ref (aA 0 2), .ref (aA 0 3), .ref (aA 0 4), .ref (aA 0 5), .int (nA 0), .int (sA 0), .int 0], oc (fA 1) 3 [.int (eA 1), .ref (aA 1 1), .ref (aA 1 2), .ref (aA 1 3), .ref (aA 1 4), .ref (aA 1 5), .int (nA 1), .int (sA 1), .int 0], oc (fA 2) 3 [.int (eA 2), .ref (aA 2 1), .ref (aA 2 2), .ref (aA 2 3), .ref (aA 2 4), .ref (aA 2 5), .int (nA 2), .int (sA 2), .int 0], oc (fA 3) 3 [.int (eA 3), .ref (aA 3 1), .ref (aA 3 2), .ref (aA 3 3), .ref (aA 3 4), .ref (aA 3 5), .int (nA 3), .int (sA 3), .int 0], oc (fB 0) 3 [.int (eB 0), .ref (aB 0 1), .ref (aB 0 2), .ref (aB 0 3), .ref (aB 0 4), .ref (aB 0 5), .int (nB 0), .int (sB 0), .int 0], oc (fB 1) 3 [.int (eB 1), .ref (aB 1 1), .ref (aB 1 2), .ref (aB 1 3), .ref (aB 1 4), .ref (aB 1 5), .int (nB 1), .int (sB 1), .int 0], oc (fB 2) 3 [.int (eB 2), .ref (aB 2 1), .ref (aB 2 2), .ref (aB 2 3), .ref (aB 2 4), .ref (aB 2 5), .int (nB 2), .int (sB 2), .int 0], oc (fB 3) 3 [.int (eB 3), .ref (aB 3 1), .ref (aB 3 2), .ref (aB 3 3), .ref (aB 3 4), .ref (aB 3 5), .int (nB 3), .int (sB 3), .int 0]]) (va_A [oc oa 7 [.ref pa, .ref ba, .ref ka, .ref xa, .ref ra1, .ref ra2], qa ra1 kr1 4 (va_up (va_up (va_up (va_up (fun _ => none) 0 (some (fA 0))) 1 (some (fA 1))) 2 (some (fA 2))) 3 (some (fA 3))), qa ra2 kr2 4 (va_up (va_up (va_up (va_up (fun _ => none) 0 (some (fB 0))) 1 (some (fB 1))) 2 (some (fB 2))) 3 (some (fB 3))), oc (fA 0) 3 [.int (eA 0), .ref (aA 0 1), .ref (aA 0 2), .ref (aA 0 3), .ref (aA 0 4), .ref (aA 0 5), .int (nA 0), .int (sA 0), .int (yA 0)], oc (fA 1) 3 [.int (eA 1), .ref (aA 1 1), .ref (aA 1 2), .ref (aA 1 3), .ref (aA 1 4), .ref (aA 1 5), .int (nA 1), .int (sA 1), .int (yA 1)], oc (fA 2) 3 [.int (eA 2), .ref (aA 2 1), .ref (aA 2 2), .ref (aA 2 3), .ref (aA 2 4), .ref (aA 2 5), .int (nA 2), .int (sA 2), .int (yA 2)], oc (fA 3) 3 [.int (eA 3), .ref (aA 3 1), .ref (aA 3 2), .ref (aA 3 3), .ref (aA 3 4), .ref (aA 3 5), .int (nA 3), .int (sA 3), .int (yA 3)], oc (fB 0) 3 [.int (eB 0), .ref (aB 0 1), .ref (aB 0 2), .ref (aB 0 3), .ref (aB 0 4), .ref (aB 0 5), .int (nB 0), .int (sB 0), .int (yB 0)], oc (fB 1) 3 [.int (eB 1), .ref (aB 1 1), .ref (aB 1 2), .ref (aB 1 3), .ref (aB 1 4), .ref (aB 1 5), .int (nB 1), .int (sB 1), .int (yB 1)], oc (fB 2) 3 [.int (eB 2), .ref (aB 2 1), .ref (aB 2 2), .ref (aB 2 3), .ref (aB 2 4), .ref (aB 2 5), .int (nB 2), .int (sB 2), .int (yB 2)], oc (fB 3) 3 [.int (eB 3), .ref (aB 3 1), .ref (aB 3 2), .ref (aB 3 3), .ref (aB 3 4), .ref (aB 3 5), .int (nB 3), .int (sB 3), .int (yB 3)]] sz)) 0 0 (va_A [oc oa 7 [.ref pa, .ref ba, .ref ka, .ref xa, .ref ra1, .ref ra2], qa ra1 kr1 4 (va_up (va_up (va_up (va_up (fun _ => none) 0 (some (fA 0))) 1 (some (fA 1))) 2 (some (fA 2))) 3 (some (fA 3))), qa ra2 kr2 4 (va_up (va_up (va_up (va_up (fun _ => none) 0 (some (fB 0))) 1 (some (fB 1))) 2 (some (fB 2))) 3 (some (fB 3))), oc (fA 0) 3 [.int (eA 0), .ref (aA 0 1), .ref (aA 0 2), .ref (aA 0 3), .ref (aA 0 4), .ref (aA 0 5), .int (nA 0), .int (sA 0), .int (yA 0)], oc (fA 1) 3 [.int (eA 1), .ref (aA 1 1), .ref (aA 1 2), .ref (aA 1 3), .ref (aA 1 4), .ref (aA 1 5), .int (nA 1), .int (sA 1), .int (yA 1)], oc (fA 2) 3 [.int (eA 2), .ref (aA 2 1), .ref (aA 2 2), .ref (aA 2 3), .ref (aA 2 4), .ref (aA 2 5), .int (nA 2), .int (sA 2), .int (yA 2)], oc (fA 3) 3 [.int (eA 3), .ref (aA 3 1), .ref (aA 3 2), .ref (aA 3 3), .ref (aA 3 4), .ref (aA 3 5), .int (nA 3), .int (sA 3), .int (yA 3)], oc (fB 0) 3 [.int (eB 0), .ref (aB 0 1), .ref (aB 0 2), .ref (aB 0 3), .ref (aB 0 4), .ref (aB 0 5), .int (nB 0), .int (sB 0), .int (yB 0)], oc (fB 1) 3 [.int (eB 1), .ref (aB 1 1), .ref (aB 1 2), .ref (aB 1 3), .ref (aB 1 4), .ref (aB 1 5), .int (nB 1), .int (sB 1), .int (yB 1)], oc (fB 2) 3 [.int (eB 2), .ref (aB 2 1), .ref (aB 2 2), .ref (aB 2 3), .ref (aB 2 4), .ref (aB 2 5), .int (nB 2), .int (sB 2), .int (yB 2)], oc (fB 3) 3 [.int (eB 3), .ref (aB 3 1), .ref (aB 3 2), .ref (aB 3 3), .ref (aB 3 4), .ref (aB 3 5), .int (nB 3), .int (sB 3), .int (yB 3)]] sz) := by
  refine Met.ofW (cc := b_OM_forget) (maxL := 2) (ret := none) (by decide) rfl ?_
  intro p e0 s m args below meth c s₁ B hml hv
  obtain ⟨rfl, hsz, hP, hK, hD0, hn⟩ := hv
  have hx := B.exec
  have hb := B.bytes
  have hr := B.returns
  have hw := fun w (h : w ∈ wt) => atoms_spec (ws := w_OM_forget) B.pre w (List.mem_cons_of_mem _ h)
  have hown : s.vm.findClass R_OM = some m.cls := findClass_of_methodNamed B.named
  have hlocks := B.notSynchronized
  subst hsz
  have hD1 := hD0.self (sz := s.heap.size)
  generalize hAe : va_A [oc oa 7 [.ref pa, .ref ba, .ref ka, .ref xa, .ref ra1, .ref ra2], qa ra1 kr1 4 (va_up (va_up (va_up (va_up (fun _ => none) 0 (some (fA 0))) 1 (some (fA 1))) 2 (some (fA 2))) 3 (some (fA 3))), qa ra2 kr2 4 (va_up (va_up (va_up (va_up (fun _ => none) 0 (some (fB 0))) 1 (some (fB 1))) 2 (some (fB 2))) 3 (some (fB 3))), oc (fA 0) 3 [.int (eA 0), .ref (aA 0 1), .ref (aA 0 2), .ref (aA 0 3), .ref (aA 0 4), .ref (aA 0 5), .int (nA 0), .int (sA 0), .int (yA 0)], oc (fA 1) 3 [.int (eA 1), .ref (aA 1 1), .ref (aA 1 2), .ref (aA 1 3), .ref (aA 1 4), .ref (aA 1 5), .int (nA 1), .int (sA 1), .int (yA 1)], oc (fA 2) 3 [.int (eA 2), .ref (aA 2 1), .ref (aA 2 2), .ref (aA 2 3), .ref (aA 2 4), .ref (aA 2 5), .int (nA 2), .int (sA 2), .int (yA 2)], oc (fA 3) 3 [.int (eA 3), .ref (aA 3 1), .ref (aA 3 2), .ref (aA 3 3), .ref (aA 3 4), .ref (aA 3 5), .int (nA 3), .int (sA 3), .int (yA 3)], oc (fB 0) 3 [.int (eB 0), .ref (aB 0 1), .ref (aB 0 2), .ref (aB 0 3), .ref (aB 0 4), .ref (aB 0 5), .int (nB 0), .int (sB 0), .int (yB 0)], oc (fB 1) 3 [.int (eB 1), .ref (aB 1 1), .ref (aB 1 2), .ref (aB 1 3), .ref (aB 1 4), .ref (aB 1 5), .int (nB 1), .int (sB 1), .int (yB 1)], oc (fB 2) 3 [.int (eB 2), .ref (aB 2 1), .ref (aB 2 2), .ref (aB 2 3), .ref (aB 2 4), .ref (aB 2 5), .int (nB 2), .int (sB 2), .int (yB 2)], oc (fB 3) 3 [.int (eB 3), .ref (aB 3 1), .ref (aB 3 2), .ref (aB 3 3), .ref (aB 3 4), .ref (aB 3 5), .int (nB 3), .int (sB 3), .int (yB 3)]] s.heap.size = A at hD1 ⊢
  have hA : ∀ q : Nat, s.heap.size ≤ q → A q := fun q h => by rw [← hAe]; exact Or.inr h
  have hD : dd A [oa, ra1, ra2, (fA 0), (fA 1), (fA 2), (fA 3), (fB 0), (fB 1), (fB 2), (fB 3)] := dd_of hD1 rfl
  clear hAe hD0 hD1
  have hS : va_S A s.heap s.heap [] := va_S.rf
  replace hP : va_P (dC, dI) classes [oc oa 7 [.ref pa, .ref ba, .ref ka, .ref xa, .ref ra1, .ref ra2], qa ra1 kr1 4 (va_up (va_up (va_up (va_up (fun _ => none) 0 (some (fA 0))) 1 (some (fA 1))) 2 (some (fA 2))) 3 (some (fA 3))), qa ra2 kr2 4 (va_up (va_up (va_up (va_up (fun _ => none) 0 (some (fB 0))) 1 (some (fB 1))) 2 (some (fB 2))) 3 (some (fB 3))), oc (fA 0) 3 [.int (eA 0), .ref (aA 0 1), .ref (aA 0 2), .ref (aA 0 3), .ref (aA 0 4), .ref (aA 0 5), .int (nA 0), .int (sA 0), .int (yA 0)], oc (fA 1) 3 [.int (eA 1), .ref (aA 1 1), .ref (aA 1 2), .ref (aA 1 3), .ref (aA 1 4), .ref (aA 1 5), .int (nA 1), .int (sA 1), .int (yA 1)], oc (fA 2) 3 [.int (eA 2), .ref (aA 2 1), .ref (aA 2 2), .ref (aA 2 3), .ref (aA 2 4), .ref (aA 2 5), .int (nA 2), .int (sA 2), .int (yA 2)], oc (fA 3) 3 [.int (eA 3), .ref (aA 3 1), .ref (aA 3 2), .ref (aA 3 3), .ref (aA 3 4), .ref (aA 3 5), .int (nA 3), .int (sA 3), .int (yA 3)], oc (fB 0) 3 [.int (eB 0), .ref (aB 0 1), .ref (aB 0 2), .ref (aB 0 3), .ref (aB 0 4), .ref (aB 0 5), .int (nB 0), .int (sB 0), .int (yB 0)], oc (fB 1) 3 [.int (eB 1), .ref (aB 1 1), .ref (aB 1 2), .ref (aB 1 3), .ref (aB 1 4), .ref (aB 1 5), .int (nB 1), .int (sB 1), .int (yB 1)], oc (fB 2) 3 [.int (eB 2), .ref (aB 2 1), .ref (aB 2 2), .ref (aB 2 3), .ref (aB 2 4), .ref (aB 2 5), .int (nB 2), .int (sB 2), .int (yB 2)], oc (fB 3) 3 [.int (eB 3), .ref (aB 3 1), .ref (aB 3 2), .ref (aB 3 3), .ref (aB 3 4), .ref (aB 3 5), .int (nB 3), .int (sB 3), .int (yB 3)]] s.heap := hP
  have hl := lv_entry ([.ref oa]) (n := 2) (Nat.le_of_ble_eq_true rfl)
  rw [lg_entry_eq]
  generalize (lg_sl ([.ref oa]) ++ List.replicate (2 - (lg_sl ([.ref oa])).length) Slot.unset).toArray = ls at hl ⊢
  replace hl : lv_has ls 2 [(0, .ref oa)] := hl
  refine lv_iconst (v := 0) hx hb d_OM_forget_0 (by decide) ?_
  refine lv_istore_n (lv' := [(1, .int 0), (0, .ref oa)]) hx hb d_OM_forget_1 rfl hl (by decide) rfl ?_
  clear hl ls
  intro ls hl
  refine lv_iload_n hx hb d_OM_forget_2 rfl (lv_at hl 0 rfl) ?_
  refine lv_iconst (v := 4) hx hb d_OM_forget_3 (by decide) ?_
  refine lv_icmp_ge (tgt := 33) hx hb d_OM_forget_4 (by decide) (fun c_1 => absurd c_1 (by decide)) (fun c_1 => ?_)
  refine tp_pc (pc' := 7) (by rfl) ?_
  refine lv_aload_n hx hb d_OM_forget_7 rfl (lv_at hl 1 rfl) ?_
  refine va_get (D := (dC, dI)) (ci := 7) (v := .ref ra1) (C := R_OM) (T := F_OM) (N := 6) hx hb hw i_OM hown hK hP 0 rfl rfl 4 (by decide) (hw _ m_412) (fun _ h9 => h9) rfl d_OM_forget_8 ?_
  refine lv_iload_n hx hb d_OM_forget_11 rfl (lv_at hl 0 rfl) ?_
  refine va_aldq (D := (dC, dI)) hx hb hK hP 1 0 rfl rfl (i := 0) (vp_c (by decide)) d_OM_forget_12 ?_
  refine tp_v (y := (fA 0)) (by rfl) ?_
  refine lv_iconst (v := 0) hx hb d_OM_forget_13 (by decide) ?_
  refine va_put (D := (dC, dI)) (ci := 3) (v := .int 0) (ty := .boolean) (C := R_OutcomeSet) (T := F_OutcomeSet) (N := 9) hx hb hw i_OutcomeSet t_OutcomeSet t_OutcomeSet_ok n_OutcomeSet hown hK hP (dd_D hD rfl) hS 3 rfl rfl 8 (by decide) (hw _ m_388) (fun _ h9 => h9) rfl (by decide +kernel) (by decide) rfl (Nat.le_of_ble_eq_true rfl) d_OM_forget_14 ?_
  clear hP hS
  intro H locs (hP : va_P (dC, dI) classes [oc oa 7 [.ref pa, .ref ba, .ref ka, .ref xa, .ref ra1, .ref ra2], qa ra1 kr1 4 (va_up (va_up (va_up (va_up (fun _ => none) 0 (some (fA 0))) 1 (some (fA 1))) 2 (some (fA 2))) 3 (some (fA 3))), qa ra2 kr2 4 (va_up (va_up (va_up (va_up (fun _ => none) 0 (some (fB 0))) 1 (some (fB 1))) 2 (some (fB 2))) 3 (some (fB 3))), oc (fA 0) 3 [.int (eA 0), .ref (aA 0 1), .ref (aA 0 2), .ref (aA 0 3), .ref (aA 0 4), .ref (aA 0 5), .int (nA 0), .int (sA 0), .int 0], oc (fA 1) 3 [.int (eA 1), .ref (aA 1 1), .ref (aA 1 2), .ref (aA 1 3), .ref (aA 1 4), .ref (aA 1 5), .int (nA 1), .int (sA 1), .int (yA 1)], oc (fA 2) 3 [.int (eA 2), .ref (aA 2 1), .ref (aA 2 2), .ref (aA 2 3), .ref (aA 2 4), .ref (aA 2 5), .int (nA 2), .int (sA 2), .int (yA 2)], oc (fA 3) 3 [.int (eA 3), .ref (aA 3 1), .ref (aA 3 2), .ref (aA 3 3), .ref (aA 3 4), .ref (aA 3 5), .int (nA 3), .int (sA 3), .int (yA 3)], oc (fB 0) 3 [.int (eB 0), .ref (aB 0 1), .ref (aB 0 2), .ref (aB 0 3), .ref (aB 0 4), .ref (aB 0 5), .int (nB 0), .int (sB 0), .int (yB 0)], oc (fB 1) 3 [.int (eB 1), .ref (aB 1 1), .ref (aB 1 2), .ref (aB 1 3), .ref (aB 1 4), .ref (aB 1 5), .int (nB 1), .int (sB 1), .int (yB 1)], oc (fB 2) 3 [.int (eB 2), .ref (aB 2 1), .ref (aB 2 2), .ref (aB 2 3), .ref (aB 2 4), .ref (aB 2 5), .int (nB 2), .int (sB 2), .int (yB 2)], oc (fB 3) 3 [.int (eB 3), .ref (aB 3 1), .ref (aB 3 2), .ref (aB 3 3), .ref (aB 3 4), .ref (aB 3 5), .int (nB 3), .int (sB 3), .int (yB 3)]] H) _ hS
  refine tp_pc (pc' := 17) (by rfl) ?_
  refine lv_aload_n hx hb d_OM_forget_17 rfl (lv_at hl 1 rfl) ?_
  refine va_get (D := (dC, dI)) (ci := 7) (v := .ref ra2) (C := R_OM) (T := F_OM) (N := 6) hx hb hw i_OM hown hK hP 0 rfl rfl 5 (by decide) (hw _ m_413) (fun _ h9 => h9) rfl d_OM_forget_18 ?_
  refine lv_iload_n hx hb d_OM_forget_21 rfl (lv_at hl 0 rfl) ?_
  refine va_aldq (D := (dC, dI)) hx hb hK hP 2 1 rfl rfl (i := 0) (vp_c (by decide)) d_OM_forget_22 ?_
  refine tp_v (y := (fB 0)) (by rfl) ?_
  refine lv_iconst (v := 0) hx hb d_OM_forget_23 (by decide) ?_
  refine va_put (D := (dC, dI)) (ci := 3) (v := .int 0) (ty := .boolean) (C := R_OutcomeSet) (T := F_OutcomeSet) (N := 9) hx hb hw i_OutcomeSet t_OutcomeSet t_OutcomeSet_ok n_OutcomeSet hown hK hP (dd_D hD rfl) hS 7 rfl rfl 8 (by decide) (hw _ m_388) (fun _ h9 => h9) rfl (by decide +kernel) (by decide) rfl (Nat.le_of_ble_eq_true rfl) d_OM_forget_24 ?_
  clear hP hS locs H
  intro H locs (hP : va_P (dC, dI) classes [oc oa 7 [.ref pa, .ref ba, .ref ka, .ref xa, .ref ra1, .ref ra2], qa ra1 kr1 4 (va_up (va_up (va_up (va_up (fun _ => none) 0 (some (fA 0))) 1 (some (fA 1))) 2 (some (fA 2))) 3 (some (fA 3))), qa ra2 kr2 4 (va_up (va_up (va_up (va_up (fun _ => none) 0 (some (fB 0))) 1 (some (fB 1))) 2 (some (fB 2))) 3 (some (fB 3))), oc (fA 0) 3 [.int (eA 0), .ref (aA 0 1), .ref (aA 0 2), .ref (aA 0 3), .ref (aA 0 4), .ref (aA 0 5), .int (nA 0), .int (sA 0), .int 0], oc (fA 1) 3 [.int (eA 1), .ref (aA 1 1), .ref (aA 1 2), .ref (aA 1 3), .ref (aA 1 4), .ref (aA 1 5), .int (nA 1), .int (sA 1), .int (yA 1)], oc (fA 2) 3 [.int (eA 2), .ref (aA 2 1), .ref (aA 2 2), .ref (aA 2 3), .ref (aA 2 4), .ref (aA 2 5), .int (nA 2), .int (sA 2), .int (yA 2)], oc (fA 3) 3 [.int (eA 3), .ref (aA 3 1), .ref (aA 3 2), .ref (aA 3 3), .ref (aA 3 4), .ref (aA 3 5), .int (nA 3), .int (sA 3), .int (yA 3)], oc (fB 0) 3 [.int (eB 0), .ref (aB 0 1), .ref (aB 0 2), .ref (aB 0 3), .ref (aB 0 4), .ref (aB 0 5), .int (nB 0), .int (sB 0), .int 0], oc (fB 1) 3 [.int (eB 1), .ref (aB 1 1), .ref (aB 1 2), .ref (aB 1 3), .ref (aB 1 4), .ref (aB 1 5), .int (nB 1), .int (sB 1), .int (yB 1)], oc (fB 2) 3 [.int (eB 2), .ref (aB 2 1), .ref (aB 2 2), .ref (aB 2 3), .ref (aB 2 4), .ref (aB 2 5), .int (nB 2), .int (sB 2), .int (yB 2)], oc (fB 3) 3 [.int (eB 3), .ref (aB 3 1), .ref (aB 3 2), .ref (aB 3 3), .ref (aB 3 4), .ref (aB 3 5), .int (nB 3), .int (sB 3), .int (yB 3)]] H) _ hS
  refine tp_pc (pc' := 27) (by rfl) ?_
  refine lv_iinc (v := 1) (lv' := [(1, .int 1), (0, .ref oa)]) hx hb d_OM_forget_27 hl (k := 0) rfl (by first | rfl | decide) (by decide) rfl ?_
  clear hl ls
  intro ls hl
  refine lv_goto (tgt := 2) hx hb d_OM_forget_30 (by decide) ?_
  refine tp_pc (pc' := 2) (by rfl) ?_
  refine lv_iload_n hx hb d_OM_forget_2 rfl (lv_at hl 0 rfl) ?_
  refine lv_iconst (v := 4) hx hb d_OM_forget_3 (by decide) ?_
  refine lv_icmp_ge (tgt := 33) hx hb d_OM_forget_4 (by decide) (fun c_2 => absurd c_2 (by decide)) (fun c_2 => ?_)
  refine tp_pc (pc' := 7) (by rfl) ?_
  refine lv_aload_n hx hb d_OM_forget_7 rfl (lv_at hl 1 rfl) ?_
  refine va_get (D := (dC, dI)) (ci := 7) (v := .ref ra1) (C := R_OM) (T := F_OM) (N := 6) hx hb hw i_OM hown hK hP 0 rfl rfl 4 (by decide) (hw _ m_412) (fun _ h9 => h9) rfl d_OM_forget_8 ?_
  refine lv_iload_n hx hb d_OM_forget_11 rfl (lv_at hl 0 rfl) ?_
  refine va_aldq (D := (dC, dI)) hx hb hK hP 1 0 rfl rfl (i := 1) (vp_c (by decide)) d_OM_forget_12 ?_
  refine tp_v (y := (fA 1)) (by rfl) ?_
  refine lv_iconst (v := 0) hx hb d_OM_forget_13 (by decide) ?_
  refine va_put (D := (dC, dI)) (ci := 3) (v := .int 0) (ty := .boolean) (C := R_OutcomeSet) (T := F_OutcomeSet) (N := 9) hx hb hw i_OutcomeSet t_OutcomeSet t_OutcomeSet_ok n_OutcomeSet hown hK hP (dd_D hD rfl) hS 4 rfl rfl 8 (by decide) (hw _ m_388) (fun _ h9 => h9) rfl (by decide +kernel) (by decide) rfl (Nat.le_of_ble_eq_true rfl) d_OM_forget_14 ?_
  clear hP hS locs H
  intro H locs (hP : va_P (dC, dI) classes [oc oa 7 [.ref pa, .ref ba, .ref ka, .ref xa, .ref ra1, .ref ra2], qa ra1 kr1 4 (va_up (va_up (va_up (va_up (fun _ => none) 0 (some (fA 0))) 1 (some (fA 1))) 2 (some (fA 2))) 3 (some (fA 3))), qa ra2 kr2 4 (va_up (va_up (va_up (va_up (fun _ => none) 0 (some (fB 0))) 1 (some (fB 1))) 2 (some (fB 2))) 3 (some (fB 3))), oc (fA 0) 3 [.int (eA 0), .ref (aA 0 1), .ref (aA 0 2), .ref (aA 0 3), .ref (aA 0 4), .ref (aA 0 5), .int (nA 0), .int (sA 0), .int 0], oc (fA 1) 3 [.int (eA 1), .ref (aA 1 1), .ref (aA 1 2), .ref (aA 1 3), .ref (aA 1 4), .ref (aA 1 5), .int (nA 1), .int (sA 1), .int 0], oc (fA 2) 3 [.int (eA 2), .ref (aA 2 1), .ref (aA 2 2), .ref (aA 2 3), .ref (aA 2 4), .ref (aA 2 5), .int (nA 2), .int (sA 2), .int (yA 2)], oc (fA 3) 3 [.int (eA 3), .ref (aA 3 1), .ref (aA 3 2), .ref (aA 3 3), .ref (aA 3 4), .ref (aA 3 5), .int (nA 3), .int (sA 3), .int (yA 3)], oc (fB 0) 3 [.int (eB 0), .ref (aB 0 1), .ref (aB 0 2), .ref (aB 0 3), .ref (aB 0 4), .ref (aB 0 5), .int (nB 0), .int (sB 0), .int 0], oc (fB 1) 3 [.int (eB 1), .ref (aB 1 1), .ref (aB 1 2), .ref (aB 1 3), .ref (aB 1 4), .ref (aB 1 5), .int (nB 1), .int (sB 1), .int (yB 1)], oc (fB 2) 3 [.int (eB 2), .ref (aB 2 1), .ref (aB 2 2), .ref (aB 2 3), .ref (aB 2 4), .ref (aB 2 5), .int (nB 2), .int (sB 2), .int (yB 2)], oc (fB 3) 3 [.int (eB 3), .ref (aB 3 1), .ref (aB 3 2), .ref (aB 3 3), .ref (aB 3 4), .ref (aB 3 5), .int (nB 3), .int (sB 3), .int (yB 3)]] H) _ hS
  refine tp_pc (pc' := 17) (by rfl) ?_
  refine lv_aload_n hx hb d_OM_forget_17 rfl (lv_at hl 1 rfl) ?_
  refine va_get (D := (dC, dI)) (ci := 7) (v := .ref ra2) (C := R_OM) (T := F_OM) (N := 6) hx hb hw i_OM hown hK hP 0 rfl rfl 5 (by decide) (hw _ m_413) (fun _ h9 => h9) rfl d_OM_forget_18 ?_
  refine lv_iload_n hx hb d_OM_forget_21 rfl (lv_at hl 0 rfl) ?_
  refine va_aldq (D := (dC, dI)) hx hb hK hP 2 1 rfl rfl (i := 1) (vp_c (by decide)) d_OM_forget_22 ?_
  refine tp_v (y := (fB 1)) (by rfl) ?_
  refine lv_iconst (v := 0) hx hb d_OM_forget_23 (by decide) ?_
  refine va_put (D := (dC, dI)) (ci := 3) (v := .int 0) (ty := .boolean) (C := R_OutcomeSet) (T := F_OutcomeSet) (N := 9) hx hb hw i_OutcomeSet t_OutcomeSet t_OutcomeSet_ok n_OutcomeSet hown hK hP (dd_D hD rfl) hS 8 rfl rfl 8 (by decide) (hw _ m_388) (fun _ h9 => h9) rfl (by decide +kernel) (by decide) rfl (Nat.le_of_ble_eq_true rfl) d_OM_forget_24 ?_
  clear hP hS locs H
  intro H locs (hP : va_P (dC, dI) classes [oc oa 7 [.ref pa, .ref ba, .ref ka, .ref xa, .ref ra1, .ref ra2], qa ra1 kr1 4 (va_up (va_up (va_up (va_up (fun _ => none) 0 (some (fA 0))) 1 (some (fA 1))) 2 (some (fA 2))) 3 (some (fA 3))), qa ra2 kr2 4 (va_up (va_up (va_up (va_up (fun _ => none) 0 (some (fB 0))) 1 (some (fB 1))) 2 (some (fB 2))) 3 (some (fB 3))), oc (fA 0) 3 [.int (eA 0), .ref (aA 0 1), .ref (aA 0 2), .ref (aA 0 3), .ref (aA 0 4), .ref (aA 0 5), .int (nA 0), .int (sA 0), .int 0], oc (fA 1) 3 [.int (eA 1), .ref (aA 1 1), .ref (aA 1 2), .ref (aA 1 3), .ref (aA 1 4), .ref (aA 1 5), .int (nA 1), .int (sA 1), .int 0], oc (fA 2) 3 [.int (eA 2), .ref (aA 2 1), .ref (aA 2 2), .ref (aA 2 3), .ref (aA 2 4), .ref (aA 2 5), .int (nA 2), .int (sA 2), .int (yA 2)], oc (fA 3) 3 [.int (eA 3), .ref (aA 3 1), .ref (aA 3 2), .ref (aA 3 3), .ref (aA 3 4), .ref (aA 3 5), .int (nA 3), .int (sA 3), .int (yA 3)], oc (fB 0) 3 [.int (eB 0), .ref (aB 0 1), .ref (aB 0 2), .ref (aB 0 3), .ref (aB 0 4), .ref (aB 0 5), .int (nB 0), .int (sB 0), .int 0], oc (fB 1) 3 [.int (eB 1), .ref (aB 1 1), .ref (aB 1 2), .ref (aB 1 3), .ref (aB 1 4), .ref (aB 1 5), .int (nB 1), .int (sB 1), .int 0], oc (fB 2) 3 [.int (eB 2), .ref (aB 2 1), .ref (aB 2 2), .ref (aB 2 3), .ref (aB 2 4), .ref (aB 2 5), .int (nB 2), .int (sB 2), .int (yB 2)], oc (fB 3) 3 [.int (eB 3), .ref (aB 3 1), .ref (aB 3 2), .ref (aB 3 3), .ref (aB 3 4), .ref (aB 3 5), .int (nB 3), .int (sB 3), .int (yB 3)]] H) _ hS
  refine tp_pc (pc' := 27) (by rfl) ?_
  refine lv_iinc (v := 2) (lv' := [(1, .int 2), (0, .ref oa)]) hx hb d_OM_forget_27 hl (k := 0) rfl (by first | rfl | decide) (by decide) rfl ?_
  clear hl ls
  intro ls hl
  refine lv_goto (tgt := 2) hx hb d_OM_forget_30 (by decide) ?_
  refine tp_pc (pc' := 2) (by rfl) ?_
  refine lv_iload_n hx hb d_OM_forget_2 rfl (lv_at hl 0 rfl) ?_
  refine lv_iconst (v := 4) hx hb d_OM_forget_3 (by decide) ?_
  refine lv_icmp_ge (tgt := 33) hx hb d_OM_forget_4 (by decide) (fun c_3 => absurd c_3 (by decide)) (fun c_3 => ?_)
  refine tp_pc (pc' := 7) (by rfl) ?_
  refine lv_aload_n hx hb d_OM_forget_7 rfl (lv_at hl 1 rfl) ?_
  refine va_get (D := (dC, dI)) (ci := 7) (v := .ref ra1) (C := R_OM) (T := F_OM) (N := 6) hx hb hw i_OM hown hK hP 0 rfl rfl 4 (by decide) (hw _ m_412) (fun _ h9 => h9) rfl d_OM_forget_8 ?_
  refine lv_iload_n hx hb d_OM_forget_11 rfl (lv_at hl 0 rfl) ?_
  refine va_aldq (D := (dC, dI)) hx hb hK hP 1 0 rfl rfl (i := 2) (vp_c (by decide)) d_OM_forget_12 ?_
  refine tp_v (y := (fA 2)) (by rfl) ?_
  refine lv_iconst (v := 0) hx hb d_OM_forget_13 (by decide) ?_
  refine va_put (D := (dC, dI)) (ci := 3) (v := .int 0) (ty := .boolean) (C := R_OutcomeSet) (T := F_OutcomeSet) (N := 9) hx hb hw i_OutcomeSet t_OutcomeSet t_OutcomeSet_ok n_OutcomeSet hown hK hP (dd_D hD rfl) hS 5 rfl rfl 8 (by decide) (hw _ m_388) (fun _ h9 => h9) rfl (by decide +kernel) (by decide) rfl (Nat.le_of_ble_eq_true rfl) d_OM_forget_14 ?_
  clear hP hS locs H
  intro H locs (hP : va_P (dC, dI) classes [oc oa 7 [.ref pa, .ref ba, .ref ka, .ref xa, .ref ra1, .ref ra2], qa ra1 kr1 4 (va_up (va_up (va_up (va_up (fun _ => none) 0 (some (fA 0))) 1 (some (fA 1))) 2 (some (fA 2))) 3 (some (fA 3))), qa ra2 kr2 4 (va_up (va_up (va_up (va_up (fun _ => none) 0 (some (fB 0))) 1 (some (fB 1))) 2 (some (fB 2))) 3 (some (fB 3))), oc (fA 0) 3 [.int (eA 0), .ref (aA 0 1), .ref (aA 0 2), .ref (aA 0 3), .ref (aA 0 4), .ref (aA 0 5), .int (nA 0), .int (sA 0), .int 0], oc (fA 1) 3 [.int (eA 1), .ref (aA 1 1), .ref (aA 1 2), .ref (aA 1 3), .ref (aA 1 4), .ref (aA 1 5), .int (nA 1), .int (sA 1), .int 0], oc (fA 2) 3 [.int (eA 2), .ref (aA 2 1), .ref (aA 2 2), .ref (aA 2 3), .ref (aA 2 4), .ref (aA 2 5), .int (nA 2), .int (sA 2), .int 0], oc (fA 3) 3 [.int (eA 3), .ref (aA 3 1), .ref (aA 3 2), .ref (aA 3 3), .ref (aA 3 4), .ref (aA 3 5), .int (nA 3), .int (sA 3), .int (yA 3)], oc (fB 0) 3 [.int (eB 0), .ref (aB 0 1), .ref (aB 0 2), .ref (aB 0 3), .ref (aB 0 4), .ref (aB 0 5), .int (nB 0), .int (sB 0), .int 0], oc (fB 1) 3 [.int (eB 1), .ref (aB 1 1), .ref (aB 1 2), .ref (aB 1 3), .ref (aB 1 4), .ref (aB 1 5), .int (nB 1), .int (sB 1), .int 0], oc (fB 2) 3 [.int (eB 2), .ref (aB 2 1), .ref (aB 2 2), .ref (aB 2 3), .ref (aB 2 4), .ref (aB 2 5), .int (nB 2), .int (sB 2), .int (yB 2)], oc (fB 3) 3 [.int (eB 3), .ref (aB 3 1), .ref (aB 3 2), .ref (aB 3 3), .ref (aB 3 4), .ref (aB 3 5), .int (nB 3), .int (sB 3), .int (yB 3)]] H) _ hS
  refine tp_pc (pc' := 17) (by rfl) ?_
  refine lv_aload_n hx hb d_OM_forget_17 rfl (lv_at hl 1 rfl) ?_
  refine va_get (D := (dC, dI)) (ci := 7) (v := .ref ra2) (C := R_OM) (T := F_OM) (N := 6) hx hb hw i_OM hown hK hP 0 rfl rfl 5 (by decide) (hw _ m_413) (fun _ h9 => h9) rfl d_OM_forget_18 ?_
  refine lv_iload_n hx hb d_OM_forget_21 rfl (lv_at hl 0 rfl) ?_
  refine va_aldq (D := (dC, dI)) hx hb hK hP 2 1 rfl rfl (i := 2) (vp_c (by decide)) d_OM_forget_22 ?_
  refine tp_v (y := (fB 2)) (by rfl) ?_
  refine lv_iconst (v := 0) hx hb d_OM_forget_23 (by decide) ?_
  refine va_put (D := (dC, dI)) (ci := 3) (v := .int 0) (ty := .boolean) (C := R_OutcomeSet) (T := F_OutcomeSet) (N := 9) hx hb hw i_OutcomeSet t_OutcomeSet t_OutcomeSet_ok n_OutcomeSet hown hK hP (dd_D hD rfl) hS 9 rfl rfl 8 (by decide) (hw _ m_388) (fun _ h9 => h9) rfl (by decide +kernel) (by decide) rfl (Nat.le_of_ble_eq_true rfl) d_OM_forget_24 ?_
  clear hP hS locs H
  intro H locs (hP : va_P (dC, dI) classes [oc oa 7 [.ref pa, .ref ba, .ref ka, .ref xa, .ref ra1, .ref ra2], qa ra1 kr1 4 (va_up (va_up (va_up (va_up (fun _ => none) 0 (some (fA 0))) 1 (some (fA 1))) 2 (some (fA 2))) 3 (some (fA 3))), qa ra2 kr2 4 (va_up (va_up (va_up (va_up (fun _ => none) 0 (some (fB 0))) 1 (some (fB 1))) 2 (some (fB 2))) 3 (some (fB 3))), oc (fA 0) 3 [.int (eA 0), .ref (aA 0 1), .ref (aA 0 2), .ref (aA 0 3), .ref (aA 0 4), .ref (aA 0 5), .int (nA 0), .int (sA 0), .int 0], oc (fA 1) 3 [.int (eA 1), .ref (aA 1 1), .ref (aA 1 2), .ref (aA 1 3), .ref (aA 1 4), .ref (aA 1 5), .int (nA 1), .int (sA 1), .int 0], oc (fA 2) 3 [.int (eA 2), .ref (aA 2 1), .ref (aA 2 2), .ref (aA 2 3), .ref (aA 2 4), .ref (aA 2 5), .int (nA 2), .int (sA 2), .int 0], oc (fA 3) 3 [.int (eA 3), .ref (aA 3 1), .ref (aA 3 2), .ref (aA 3 3), .ref (aA 3 4), .ref (aA 3 5), .int (nA 3), .int (sA 3), .int (yA 3)], oc (fB 0) 3 [.int (eB 0), .ref (aB 0 1), .ref (aB 0 2), .ref (aB 0 3), .ref (aB 0 4), .ref (aB 0 5), .int (nB 0), .int (sB 0), .int 0], oc (fB 1) 3 [.int (eB 1), .ref (aB 1 1), .ref (aB 1 2), .ref (aB 1 3), .ref (aB 1 4), .ref (aB 1 5), .int (nB 1), .int (sB 1), .int 0], oc (fB 2) 3 [.int (eB 2), .ref (aB 2 1), .ref (aB 2 2), .ref (aB 2 3), .ref (aB 2 4), .ref (aB 2 5), .int (nB 2), .int (sB 2), .int 0], oc (fB 3) 3 [.int (eB 3), .ref (aB 3 1), .ref (aB 3 2), .ref (aB 3 3), .ref (aB 3 4), .ref (aB 3 5), .int (nB 3), .int (sB 3), .int (yB 3)]] H) _ hS
  refine tp_pc (pc' := 27) (by rfl) ?_
  refine lv_iinc (v := 3) (lv' := [(1, .int 3), (0, .ref oa)]) hx hb d_OM_forget_27 hl (k := 0) rfl (by first | rfl | decide) (by decide) rfl ?_
  clear hl ls
  intro ls hl
  refine lv_goto (tgt := 2) hx hb d_OM_forget_30 (by decide) ?_
  refine tp_pc (pc' := 2) (by rfl) ?_
  refine lv_iload_n hx hb d_OM_forget_2 rfl (lv_at hl 0 rfl) ?_
  refine lv_iconst (v := 4) hx hb d_OM_forget_3 (by decide) ?_
  refine lv_icmp_ge (tgt := 33) hx hb d_OM_forget_4 (by decide) (fun c_4 => absurd c_4 (by decide)) (fun c_4 => ?_)
  refine tp_pc (pc' := 7) (by rfl) ?_
  refine lv_aload_n hx hb d_OM_forget_7 rfl (lv_at hl 1 rfl) ?_
  refine va_get (D := (dC, dI)) (ci := 7) (v := .ref ra1) (C := R_OM) (T := F_OM) (N := 6) hx hb hw i_OM hown hK hP 0 rfl rfl 4 (by decide) (hw _ m_412) (fun _ h9 => h9) rfl d_OM_forget_8 ?_
  refine lv_iload_n hx hb d_OM_forget_11 rfl (lv_at hl 0 rfl) ?_
  refine va_aldq (D := (dC, dI)) hx hb hK hP 1 0 rfl rfl (i := 3) (vp_c (by decide)) d_OM_forget_12 ?_
  refine tp_v (y := (fA 3)) (by rfl) ?_
  refine lv_iconst (v := 0) hx hb d_OM_forget_13 (by decide) ?_
  refine va_put (D := (dC, dI)) (ci := 3) (v := .int 0) (ty := .boolean) (C := R_OutcomeSet) (T := F_OutcomeSet) (N := 9) hx hb hw i_OutcomeSet t_OutcomeSet t_OutcomeSet_ok n_OutcomeSet hown hK hP (dd_D hD rfl) hS 6 rfl rfl 8 (by decide) (hw _ m_388) (fun _ h9 => h9) rfl (by decide +kernel) (by decide) rfl (Nat.le_of_ble_eq_true rfl) d_OM_forget_14 ?_
  clear hP hS locs H
  intro H locs (hP : va_P (dC, dI) classes [oc oa 7 [.ref pa, .ref ba, .ref ka, .ref xa, .ref ra1, .ref ra2], qa ra1 kr1 4 (va_up (va_up (va_up (va_up (fun _ => none) 0 (some (fA 0))) 1 (some (fA 1))) 2 (some (fA 2))) 3 (some (fA 3))), qa ra2 kr2 4 (va_up (va_up (va_up (va_up (fun _ => none) 0 (some (fB 0))) 1 (some (fB 1))) 2 (some (fB 2))) 3 (some (fB 3))), oc (fA 0) 3 [.int (eA 0), .ref (aA 0 1), .ref (aA 0 2), .ref (aA 0 3), .ref (aA 0 4), .ref (aA 0 5), .int (nA 0), .int (sA 0), .int 0], oc (fA 1) 3 [.int (eA 1), .ref (aA 1 1), .ref (aA 1 2), .ref (aA 1 3), .ref (aA 1 4), .ref (aA 1 5), .int (nA 1), .int (sA 1), .int 0], oc (fA 2) 3 [.int (eA 2), .ref (aA 2 1), .ref (aA 2 2), .ref (aA 2 3), .ref (aA 2 4), .ref (aA 2 5), .int (nA 2), .int (sA 2), .int 0], oc (fA 3) 3 [.int (eA 3), .ref (aA 3 1), .ref (aA 3 2), .ref (aA 3 3), .ref (aA 3 4), .ref (aA 3 5), .int (nA 3), .int (sA 3), .int 0], oc (fB 0) 3 [.int (eB 0), .ref (aB 0 1), .ref (aB 0 2), .ref (aB 0 3), .ref (aB 0 4), .ref (aB 0 5), .int (nB 0), .int (sB 0), .int 0], oc (fB 1) 3 [.int (eB 1), .ref (aB 1 1), .ref (aB 1 2), .ref (aB 1 3), .ref (aB 1 4), .ref (aB 1 5), .int (nB 1), .int (sB 1), .int 0], oc (fB 2) 3 [.int (eB 2), .ref (aB 2 1), .ref (aB 2 2), .ref (aB 2 3), .ref (aB 2 4), .ref (aB 2 5), .int (nB 2), .int (sB 2), .int 0], oc (fB 3) 3 [.int (eB 3), .ref (aB 3 1), .ref (aB 3 2), .ref (aB 3 3), .ref (aB 3 4), .ref (aB 3 5), .int (nB 3), .int (sB 3), .int (yB 3)]] H) _ hS
  refine tp_pc (pc' := 17) (by rfl) ?_
  refine lv_aload_n hx hb d_OM_forget_17 rfl (lv_at hl 1 rfl) ?_
  refine va_get (D := (dC, dI)) (ci := 7) (v := .ref ra2) (C := R_OM) (T := F_OM) (N := 6) hx hb hw i_OM hown hK hP 0 rfl rfl 5 (by decide) (hw _ m_413) (fun _ h9 => h9) rfl d_OM_forget_18 ?_
  refine lv_iload_n hx hb d_OM_forget_21 rfl (lv_at hl 0 rfl) ?_
  refine va_aldq (D := (dC, dI)) hx hb hK hP 2 1 rfl rfl (i := 3) (vp_c (by decide)) d_OM_forget_22 ?_
  refine tp_v (y := (fB 3)) (by rfl) ?_
  refine lv_iconst (v := 0) hx hb d_OM_forget_23 (by decide) ?_
  refine va_put (D := (dC, dI)) (ci := 3) (v := .int 0) (ty := .boolean) (C := R_OutcomeSet) (T := F_OutcomeSet) (N := 9) hx hb hw i_OutcomeSet t_OutcomeSet t_OutcomeSet_ok n_OutcomeSet hown hK hP (dd_D hD rfl) hS 10 rfl rfl 8 (by decide) (hw _ m_388) (fun _ h9 => h9) rfl (by decide +kernel) (by decide) rfl (Nat.le_of_ble_eq_true rfl) d_OM_forget_24 ?_
  clear hP hS locs H
  intro H locs (hP : va_P (dC, dI) classes [oc oa 7 [.ref pa, .ref ba, .ref ka, .ref xa, .ref ra1, .ref ra2], qa ra1 kr1 4 (va_up (va_up (va_up (va_up (fun _ => none) 0 (some (fA 0))) 1 (some (fA 1))) 2 (some (fA 2))) 3 (some (fA 3))), qa ra2 kr2 4 (va_up (va_up (va_up (va_up (fun _ => none) 0 (some (fB 0))) 1 (some (fB 1))) 2 (some (fB 2))) 3 (some (fB 3))), oc (fA 0) 3 [.int (eA 0), .ref (aA 0 1), .ref (aA 0 2), .ref (aA 0 3), .ref (aA 0 4), .ref (aA 0 5), .int (nA 0), .int (sA 0), .int 0], oc (fA 1) 3 [.int (eA 1), .ref (aA 1 1), .ref (aA 1 2), .ref (aA 1 3), .ref (aA 1 4), .ref (aA 1 5), .int (nA 1), .int (sA 1), .int 0], oc (fA 2) 3 [.int (eA 2), .ref (aA 2 1), .ref (aA 2 2), .ref (aA 2 3), .ref (aA 2 4), .ref (aA 2 5), .int (nA 2), .int (sA 2), .int 0], oc (fA 3) 3 [.int (eA 3), .ref (aA 3 1), .ref (aA 3 2), .ref (aA 3 3), .ref (aA 3 4), .ref (aA 3 5), .int (nA 3), .int (sA 3), .int 0], oc (fB 0) 3 [.int (eB 0), .ref (aB 0 1), .ref (aB 0 2), .ref (aB 0 3), .ref (aB 0 4), .ref (aB 0 5), .int (nB 0), .int (sB 0), .int 0], oc (fB 1) 3 [.int (eB 1), .ref (aB 1 1), .ref (aB 1 2), .ref (aB 1 3), .ref (aB 1 4), .ref (aB 1 5), .int (nB 1), .int (sB 1), .int 0], oc (fB 2) 3 [.int (eB 2), .ref (aB 2 1), .ref (aB 2 2), .ref (aB 2 3), .ref (aB 2 4), .ref (aB 2 5), .int (nB 2), .int (sB 2), .int 0], oc (fB 3) 3 [.int (eB 3), .ref (aB 3 1), .ref (aB 3 2), .ref (aB 3 3), .ref (aB 3 4), .ref (aB 3 5), .int (nB 3), .int (sB 3), .int 0]] H) _ hS
  refine tp_pc (pc' := 27) (by rfl) ?_
  refine lv_iinc (v := 4) (lv' := [(1, .int 4), (0, .ref oa)]) hx hb d_OM_forget_27 hl (k := 0) rfl (by first | rfl | decide) (by decide) rfl ?_
  clear hl ls
  intro ls hl
  refine lv_goto (tgt := 2) hx hb d_OM_forget_30 (by decide) ?_
  refine tp_pc (pc' := 2) (by rfl) ?_
  refine lv_iload_n hx hb d_OM_forget_2 rfl (lv_at hl 0 rfl) ?_
  refine lv_iconst (v := 4) hx hb d_OM_forget_3 (by decide) ?_
  refine lv_icmp_ge (tgt := 33) hx hb d_OM_forget_4 (by decide) (fun c_5 => ?_) (fun c_5 => absurd c_5 (by decide))
  refine tp_pc (pc' := 33) (by rfl) ?_
  obtain ⟨hP9, hD9, -⟩ := cut3 (wc := [oc oa 7 [.ref pa, .ref ba, .ref ka, .ref xa, .ref ra1, .ref ra2], qa ra1 kr1 4 (va_up (va_up (va_up (va_up (fun _ => none) 0 (some (fA 0))) 1 (some (fA 1))) 2 (some (fA 2))) 3 (some (fA 3))), qa ra2 kr2 4 (va_up (va_up (va_up (va_up (fun _ => none) 0 (some (fB 0))) 1 (some (fB 1))) 2 (some (fB 2))) 3 (some (fB 3))), oc (fA 0) 3 [.int (eA 0), .ref (aA 0 1), .ref (aA 0 2), .ref (aA 0 3), .ref (aA 0 4), .ref (aA 0 5), .int (nA 0), .int (sA 0), .int 0], oc (fA 1) 3 [.int (eA 1), .ref (aA 1 1), .ref (aA 1 2), .ref (aA 1 3), .ref (aA 1 4), .ref (aA 1 5), .int (nA 1), .int (sA 1), .int 0], oc (fA 2) 3 [.int (eA 2), .ref (aA 2 1), .ref (aA 2 2), .ref (aA 2 3), .ref (aA 2 4), .ref (aA 2 5), .int (nA 2), .int (sA 2), .int 0], oc (fA 3) 3 [.int (eA 3), .ref (aA 3 1), .ref (aA 3 2), .ref (aA 3 3), .ref (aA 3 4), .ref (aA 3 5), .int (nA 3), .int (sA 3), .int 0], oc (fB 0) 3 [.int (eB 0), .ref (aB 0 1), .ref (aB 0 2), .ref (aB 0 3), .ref (aB 0 4), .ref (aB 0 5), .int (nB 0), .int (sB 0), .int 0], oc (fB 1) 3 [.int (eB 1), .ref (aB 1 1), .ref (aB 1 2), .ref (aB 1 3), .ref (aB 1 4), .ref (aB 1 5), .int (nB 1), .int (sB 1), .int 0], oc (fB 2) 3 [.int (eB 2), .ref (aB 2 1), .ref (aB 2 2), .ref (aB 2 3), .ref (aB 2 4), .ref (aB 2 5), .int (nB 2), .int (sB 2), .int 0], oc (fB 3) 3 [.int (eB 3), .ref (aB 3 1), .ref (aB 3 2), .ref (aB 3 3), .ref (aB 3 4), .ref (aB 3 5), .int (nB 3), .int (sB 3), .int 0]]) hP hD rfl hS hA [0, 1, 2, 3, 4, 5, 6, 7, 8, 9, 10] (by decide +kernel) rfl
  have hK9 := hK.sub (tys' := []) [] rfl
  refine W.widen (k := 0) (n := 0) (by exact Nat.le_of_ble_eq_true rfl) (by exact Nat.le_of_ble_eq_true rfl) ?_
  exact W.vret hx hb hr (fun t9 ht9 hW => ⟨⟨(), rfl, trivial, by rw [ht9]; exact hP9, va_K.moved hW.alike hK9, hD9⟩, hS.F ht9⟩) hS.2.2 d_OM_forget_33
set_option maxHeartbeats 4000000 in
set_option maxRecDepth 100000 in
theorem gen_OM_isModel (l : Launch) (dC : Nat → ClassId) (dI : Nat → Nat → Nat) (m9 : Int32)  (sz : Nat) : Met l y_OM_isModel w_OM_isModel ({ frames := 0, cells := 0, slots := 0, locals := 0 }) (va_Pc [.int m9] (fun U => U.heap.size = sz ∧ va_P (dC, dI) classes [] U.heap ∧ va_K (dC, dI) classes [] U ∧ va_D (fun _ => True) [] ∧ nw U)) (va_Qi (fun (r : Int32) (_ : Unit) => r = if ¬ m9 < 0 ∧ m9.toNatClampNeg < 4 then 1 else 0) (fun _ t9 => va_P (dC, dI) classes [] t9.heap ∧ va_K (dC, dI) classes [] t9 ∧ va_D (va_A [] sz) []) (va_A [] sz)) 0 0 (va_A [] sz) := by
  refine Met.ofW (cc := b_OM_isModel) (maxL := 1) (ret := (some .boolean)) (by decide) rfl ?_
  intro p e0 s m args below meth c s₁ B hml hv
  obtain ⟨rfl, hsz, hP, hK, hD0, hn⟩ := hv
  have hx := B.exec
  have hb := B.bytes
  have hr := B.returns
  have hw := fun w (h : w ∈ wt) => atoms_spec (ws := w_OM_isModel) B.pre w (List.mem_cons_of_mem _ h)
  have hown : s.vm.findClass R_OM = some m.cls := findClass_of_methodNamed B.named
  have hlocks := B.notSynchronized
  subst hsz
  have hD1 := hD0.self (sz := s.heap.size)
  generalize hAe : va_A [] s.heap.size = A at hD1 ⊢
  have hA : ∀ q : Nat, s.heap.size ≤ q → A q := fun q h => by rw [← hAe]; exact Or.inr h
  have hD : dd A [] := dd_of hD1 rfl
  clear hAe hD0 hD1
  have hS : va_S A s.heap s.heap [] := va_S.rf
  replace hP : va_P (dC, dI) classes [] s.heap := hP
  have hl := lv_entry ([.int m9]) (n := 1) (Nat.le_of_ble_eq_true rfl)
  rw [lg_entry_eq]
  generalize (lg_sl ([.int m9]) ++ List.replicate (1 - (lg_sl ([.int m9])).length) Slot.unset).toArray = ls at hl ⊢
  replace hl : lv_has ls 1 [(0, .int m9)] := hl
  refine lv_iload_n hx hb d_OM_isModel_0 rfl (lv_at hl 0 rfl) ?_
  refine lv_if_lt (tgt := 13) hx hb d_OM_isModel_1 (by decide) (fun c1 => ?_) (fun c1 => ?_)
  · skip
    refine tp_pc (pc' := 13) (by rfl) ?_
    refine lv_iconst (v := 0) hx hb d_OM_isModel_13 (by decide) ?_
    obtain ⟨hP9, hD9, -⟩ := cut3 (wc := []) hP hD rfl hS hA [] (by decide +kernel) rfl
    have hK9 := hK.sub (tys' := []) [] rfl
    refine W.widen (k := 0) (n := 0) (by exact Nat.le_of_ble_eq_true rfl) (by exact Nat.le_of_ble_eq_true rfl) ?_
    exact W.zret (v := 0) (ty := .boolean) hx hb hr (by decide) (fun t9 ht9 hW => ⟨⟨0, (), rfl, by rw [if_neg (fun q => q.1 c1)], by rw [ht9]; exact hP9, va_K.moved hW.alike hK9, hD9⟩, hS.F ht9⟩) hS.2.2 d_OM_isModel_14
  · skip
    obtain ⟨j, hj, ej⟩ := nI_of c1
    subst ej
    replace hl : lv_has ls 1 [(0, .int (nI j))] := hl
    refine tp_pc (pc' := 4) (by rfl) ?_
    refine lv_iload_n hx hb d_OM_isModel_4 rfl (lv_at hl 0 rfl) ?_
    refine lv_iconst (v := 4) hx hb d_OM_isModel_5 (by decide) ?_
    refine lv_icmp_ge (tgt := 13) hx hb d_OM_isModel_6 (by decide) (fun c2 => ?_) (fun c2 => ?_)
    · skip
      have hc2 : 4 ≤ j := (nI_leI (a := 4) (b := j) (by omega) (by omega)).mp c2
      refine tp_pc (pc' := 13) (by rfl) ?_
      refine lv_iconst (v := 0) hx hb d_OM_isModel_13 (by decide) ?_
      obtain ⟨hP9, hD9, -⟩ := cut3 (wc := []) hP hD rfl hS hA [] (by decide +kernel) rfl
      have hK9 := hK.sub (tys' := []) [] rfl
      refine W.widen (k := 0) (n := 0) (by exact Nat.le_of_ble_eq_true rfl) (by exact Nat.le_of_ble_eq_true rfl) ?_
      exact W.zret (v := 0) (ty := .boolean) hx hb hr (by decide) (fun t9 ht9 hW => ⟨⟨0, (), rfl, by rw [if_neg (fun q => absurd q.2 (by rw [nI_clamp hj]; omega))], by rw [ht9]; exact hP9, va_K.moved hW.alike hK9, hD9⟩, hS.F ht9⟩) hS.2.2 d_OM_isModel_14
    · skip
      have hc2 : ¬ (4 ≤ j) := fun q9 => c2 ((nI_leI (a := 4) (b := j) (by omega) (by omega)).mpr q9)
      refine tp_pc (pc' := 9) (by rfl) ?_
      refine lv_iconst (v := 1) hx hb d_OM_isModel_9 (by decide) ?_
      refine lv_goto (tgt := 14) hx hb d_OM_isModel_10 (by decide) ?_
      refine tp_pc (pc' := 14) (by rfl) ?_
      obtain ⟨hP9, hD9, -⟩ := cut3 (wc := []) hP hD rfl hS hA [] (by decide +kernel) rfl
      have hK9 := hK.sub (tys' := []) [] rfl
      refine W.widen (k := 0) (n := 0) (by exact Nat.le_of_ble_eq_true rfl) (by exact Nat.le_of_ble_eq_true rfl) ?_
      exact W.zret (v := 1) (ty := .boolean) hx hb hr (by decide) (fun t9 ht9 hW => ⟨⟨1, (), rfl, by rw [if_pos ⟨c1, by rw [nI_clamp hj]; omega⟩], by rw [ht9]; exact hP9, va_K.moved hW.alike hK9, hD9⟩, hS.F ht9⟩) hS.2.2 d_OM_isModel_14
set_option maxHeartbeats 4000000 in
set_option maxRecDepth 100000 in
theorem gen_OM_foundByRuns_ready0 (l : Launch) (dC : Nat → ClassId) (dI : Nat → Nat → Nat) (oa pa ba ka xa ra1 ra2 : Nat) (kr1 kr2 : ClassId) (fA fB : Nat → Nat) (fa : Nat) (ad : Nat → Nat) (ee n0 sd : Int32)  (sz : Nat) : Met l y_OM_foundByRuns w_OM_foundByRuns ({ frames := 0, cells := 0, slots := 0, locals := 0 }) (va_Pc [.ref oa, .int 0] (fun U => U.heap.size = sz ∧ va_P (dC, dI) classes [oc oa 7 [.ref pa, .ref ba, .ref ka, .ref xa, .ref ra1, .ref ra2], qa ra1 kr1 4 (va_up (va_up (va_up (va_up (fun _ => none) 0 (some fa)) 1 (some (fA 1))) 2 (some (fA 2))) 3 (some (fA 3))), oc fa 3 [.int ee, .ref (ad 1), .ref (ad 2), .ref (ad 3), .ref (ad 4), .ref (ad 5), .int n0, .int sd, .int 1]] U.heap ∧ va_K (dC, dI) classes [(kr1, .object "OrderModels$OutcomeSet")] U ∧ va_D (fun _ => True) [oc oa 7 [.ref pa, .ref ba, .ref ka, .ref xa, .ref ra1, .ref ra2], qa ra1 kr1 4 (va_up (va_up (va_up (va_up (fun _ => none) 0 (some fa)) 1 (some (fA 1))) 2 (some (fA 2))) 3 (some (fA 3))), oc fa 3 [.int ee, .ref (ad 1), .ref (ad 2), .ref (ad 3), .ref (ad 4), .ref (ad 5), .int n0, .int sd, .int 1]] ∧ nw U)) (va_Qr (fun _ : Unit => True) (fun _ a t9 => a = fa ∧ va_P (dC, dI) classes [oc oa 7 [.ref pa, .ref ba, .ref ka, .ref xa, .ref ra1, .ref ra2], qa ra1 kr1 4 (va_up (va_up (va_up (va_up (fun _ => none) 0 (some fa)) 1 (some (fA 1))) 2 (some (fA 2))) 3 (some (fA 3))), oc fa 3 [.int ee, .ref (ad 1), .ref (ad 2), .ref (ad 3), .ref (ad 4), .ref (ad 5), .int n0, .int sd, .int 1]] t9.heap ∧ va_K (dC, dI) classes [] t9 ∧ va_D (va_A [oc oa 7 [.ref pa, .ref ba, .ref ka, .ref xa, .ref ra1, .ref ra2], qa ra1 kr1 4 (va_up (va_up (va_up (va_up (fun _ => none) 0 (some fa)) 1 (some (fA 1))) 2 (some (fA 2))) 3 (some (fA 3))), oc fa 3 [.int ee, .ref (ad 1), .ref (ad 2), .ref (ad 3), .ref (ad 4), .ref (ad 5), .int n0, .int sd, .int 1]] sz) [oc oa 7 [.ref pa, .ref ba, .ref ka, .ref xa, .ref ra1, .ref ra2], qa ra1 kr1 4 (va_up (va_up (va_up (va_up (fun _ => none) 0 (some fa)) 1 (some (fA 1))) 2 (some (fA 2))) 3 (some (fA 3))), oc fa 3 [.int ee, .ref (ad 1), .ref (ad 2), .ref (ad 3), .ref (ad 4), .ref (ad 5), .int n0, .int sd, .int 1]]) (va_A [oc oa 7 [.ref pa, .ref ba, .ref ka, .ref xa, .ref ra1, .ref ra2], qa ra1 kr1 4 (va_up (va_up (va_up (va_up (fun _ => none) 0 (some fa)) 1 (some (fA 1))) 2 (some (fA 2))) 3 (some (fA 3))), oc fa 3 [.int ee, .ref (ad 1), .ref (ad 2), .ref (ad 3), .ref (ad 4), .ref (ad 5), .int n0, .int sd, .int 1]] sz)) 0 0 (va_A [oc oa 7 [.ref pa, .ref ba, .ref ka, .ref xa, .ref ra1, .ref ra2], qa ra1 kr1 4 (va_up (va_up (va_up (va_up (fun _ => none) 0 (some fa)) 1 (some (fA 1))) 2 (some (fA 2))) 3 (some (fA 3))), oc fa 3 [.int ee, .ref (ad 1), .ref (ad 2), .ref (ad 3), .ref (ad 4), .ref (ad 5), .int n0, .int sd, .int 1]] sz) := by
  refine Met.ofW (cc := b_OM_foundByRuns) (maxL := 3) (ret := (some (.object "OrderModels$OutcomeSet"))) (by decide) rfl ?_
  intro p e0 s m args below meth c s₁ B hml hv
  obtain ⟨rfl, hsz, hP, hK, hD0, hn⟩ := hv
  have hx := B.exec
  have hb := B.bytes
  have hr := B.returns
  have hw := fun w (h : w ∈ wt) => atoms_spec (ws := w_OM_foundByRuns) B.pre w (List.mem_cons_of_mem _ h)
  have hown : s.vm.findClass R_OM = some m.cls := findClass_of_methodNamed B.named
  have hlocks := B.notSynchronized
  subst hsz
  have hD1 := hD0.self (sz := s.heap.size)
  generalize hAe : va_A [oc oa 7 [.ref pa, .ref ba, .ref ka, .ref xa, .ref ra1, .ref ra2], qa ra1 kr1 4 (va_up (va_up (va_up (va_up (fun _ => none) 0 (some fa)) 1 (some (fA 1))) 2 (some (fA 2))) 3 (some (fA 3))), oc fa 3 [.int ee, .ref (ad 1), .ref (ad 2), .ref (ad 3), .ref (ad 4), .ref (ad 5), .int n0, .int sd, .int 1]] s.heap.size = A at hD1 ⊢
  have hA : ∀ q : Nat, s.heap.size ≤ q → A q := fun q h => by rw [← hAe]; exact Or.inr h
  have hD : dd A [oa, ra1, fa] := dd_of hD1 rfl
  clear hAe hD0 hD1
  have hS : va_S A s.heap s.heap [] := va_S.rf
  replace hP : va_P (dC, dI) classes [oc oa 7 [.ref pa, .ref ba, .ref ka, .ref xa, .ref ra1, .ref ra2], qa ra1 kr1 4 (va_up (va_up (va_up (va_up (fun _ => none) 0 (some fa)) 1 (some (fA 1))) 2 (some (fA 2))) 3 (some (fA 3))), oc fa 3 [.int ee, .ref (ad 1), .ref (ad 2), .ref (ad 3), .ref (ad 4), .ref (ad 5), .int n0, .int sd, .int 1]] s.heap := hP
  have hl := lv_entry ([.ref oa, .int 0]) (n := 3) (Nat.le_of_ble_eq_true rfl)
  rw [lg_entry_eq]
  generalize (lg_sl ([.ref oa, .int 0]) ++ List.replicate (3 - (lg_sl ([.ref oa, .int 0])).length) Slot.unset).toArray = ls at hl ⊢
  replace hl : lv_has ls 3 [(0, .ref oa), (1, .int 0)] := hl
  refine lv_aload_n hx hb d_OM_foundByRuns_0 rfl (lv_at hl 0 rfl) ?_
  refine va_get (D := (dC, dI)) (ci := 7) (v := .ref ra1) (C := R_OM) (T := F_OM) (N := 6) hx hb hw i_OM hown hK hP 0 rfl rfl 4 (by decide) (hw _ m_412) (fun _ h9 => h9) rfl d_OM_foundByRuns_1 ?_
  refine lv_iload_n hx hb d_OM_foundByRuns_4 rfl (lv_at hl 1 rfl) ?_
  refine va_aldq (D := (dC, dI)) hx hb hK hP 1 0 rfl rfl (i := 0) (vp_c (by decide)) d_OM_foundByRuns_5 ?_
  refine tp_v (y := fa) (by rfl) ?_
  refine lv_astore_n (lv' := [(2, .ref fa), (0, .ref oa), (1, .int 0)]) hx hb d_OM_foundByRuns_6 rfl hl (by decide) rfl ?_
  clear hl ls
  intro ls hl
  refine lv_aload_n hx hb d_OM_foundByRuns_7 rfl (lv_at hl 0 rfl) ?_
  refine va_get (D := (dC, dI)) (ci := 3) (v := .int 1) (C := R_OutcomeSet) (T := F_OutcomeSet) (N := 9) hx hb hw i_OutcomeSet hown hK hP 2 rfl rfl 8 (by decide) (hw _ m_388) (fun _ h9 => h9) rfl d_OM_foundByRuns_8 ?_
  refine lv_if_ne (tgt := 44) hx hb d_OM_foundByRuns_11 (by decide) (fun c_1 => ?_) (fun c_1 => absurd c_1 (by decide))
  refine tp_pc (pc' := 44) (by rfl) ?_
  refine lv_aload_n hx hb d_OM_foundByRuns_44 rfl (lv_at hl 0 rfl) ?_
  obtain ⟨hP9, hD9, -⟩ := cut3 (wc := [oc oa 7 [.ref pa, .ref ba, .ref ka, .ref xa, .ref ra1, .ref ra2], qa ra1 kr1 4 (va_up (va_up (va_up (va_up (fun _ => none) 0 (some fa)) 1 (some (fA 1))) 2 (some (fA 2))) 3 (some (fA 3))), oc fa 3 [.int ee, .ref (ad 1), .ref (ad 2), .ref (ad 3), .ref (ad 4), .ref (ad 5), .int n0, .int sd, .int 1]]) hP hD rfl hS hA [0, 1, 2] (by decide +kernel) rfl
  have hK9 := hK.sub (tys' := []) [] rfl
  refine W.widen (k := 0) (n := 0) (by exact Nat.le_refl _) (by exact Nat.le_refl _) ?_
  exact W.aret hx hb hr (by first | exact Or.inl ⟨_, rfl⟩ | exact Or.inr ⟨_, rfl⟩) (Or.inr ⟨_, rfl⟩) (fun t9 ht9 hW => ⟨⟨(), fa, rfl, trivial, rfl, by rw [ht9]; exact hP9, va_K.moved hW.alike hK9, hD9⟩, hS.F ht9⟩) hS.2.2 d_OM_foundByRuns_45
set_option maxHeartbeats 4000000 in
set_option maxRecDepth 100000 in
theorem gen_OM_foundByRuns_ready1 (l : Launch) (dC : Nat → ClassId) (dI : Nat → Nat → Nat) (oa pa ba ka xa ra1 ra2 : Nat) (kr1 kr2 : ClassId) (fA fB : Nat → Nat) (fa : Nat) (ad : Nat → Nat) (ee n0 sd : Int32)  (sz : Nat) : Met l y_OM_foundByRuns w_OM_foundByRuns ({ frames := 0, cells := 0, slots := 0, locals := 0 }) (va_Pc [.ref oa, .int 1] (fun U => U.heap.size = sz ∧ va_P (dC, dI) classes [oc oa 7 [.ref pa, .ref ba, .ref ka, .ref xa, .ref ra1, .ref ra2], qa ra1 kr1 4 (va_up (va_up (va_up (va_up (fun _ => none) 0 (some (fA 0))) 1 (some fa)) 2 (some (fA 2))) 3 (some (fA 3))), oc fa 3 [.int ee, .ref (ad 1), .ref (ad 2), .ref (ad 3), .ref (ad 4), .ref (ad 5), .int n0, .int sd, .int 1]] U.heap ∧ va_K (dC, dI) classes [(kr1, .object "OrderModels$OutcomeSet")] U ∧ va_D (fun _ => True) [oc oa 7 [.ref pa, .ref ba, .ref ka, .ref xa, .ref ra1, .ref ra2], qa ra1 kr1 4 (va_up (va_up (va_up (va_up (fun _ => none) 0 (some (fA 0))) 1 (some fa)) 2 (some (fA 2))) 3 (some (fA 3))), oc fa 3 [.int ee, .ref (ad 1), .ref (ad 2), .ref (ad 3), .ref (ad 4), .ref (ad 5), .int n0, .int sd, .int 1]] ∧ nw U)) (va_Qr (fun _ : Unit => True) (fun _ a t9 => a = fa ∧ va_P (dC, dI) classes [oc oa 7 [.ref pa, .ref ba, .ref ka, .ref xa, .ref ra1, .ref ra2], qa ra1 kr1 4 (va_up (va_up (va_up (va_up (fun _ => none) 0 (some (fA 0))) 1 (some fa)) 2 (some (fA 2))) 3 (some (fA 3))), oc fa 3 [.int ee, .ref (ad 1), .ref (ad 2), .ref (ad 3), .ref (ad 4), .ref (ad 5), .int n0, .int sd, .int 1]] t9.heap ∧ va_K (dC, dI) classes [] t9 ∧ va_D (va_A [oc oa 7 [.ref pa, .ref ba, .ref ka, .ref xa, .ref ra1, .ref ra2], qa ra1 kr1 4 (va_up (va_up (va_up (va_up (fun _ => none) 0 (some (fA 0))) 1 (some fa)) 2 (some (fA 2))) 3 (some (fA 3))), oc fa 3 [.int ee, .ref (ad 1), .ref (ad 2), .ref (ad 3), .ref (ad 4), .ref (ad 5), .int n0, .int sd, .int 1]] sz) [oc oa 7 [.ref pa, .ref ba, .ref ka, .ref xa, .ref ra1, .ref ra2], qa ra1 kr1 4 (va_up (va_up (va_up (va_up (fun _ => none) 0 (some (fA 0))) 1 (some fa)) 2 (some (fA 2))) 3 (some (fA 3))), oc fa 3 [.int ee, .ref (ad 1), .ref (ad 2), .ref (ad 3), .ref (ad 4), .ref (ad 5), .int n0, .int sd, .int 1]]) (va_A [oc oa 7 [.ref pa, .ref ba, .ref ka, .ref xa, .ref ra1, .ref ra2], qa ra1 kr1 4 (va_up (va_up (va_up (va_up (fun _ => none) 0 (some (fA 0))) 1 (some fa)) 2 (some (fA 2))) 3 (some (fA 3))), oc fa 3 [.int ee, .ref (ad 1), .ref (ad 2), .ref (ad 3), .ref (ad 4), .ref (ad 5), .int n0, .int sd, .int 1]] sz)) 0 0 (va_A [oc oa 7 [.ref pa, .ref ba, .ref ka, .ref xa, .ref ra1, .ref ra2], qa ra1 kr1 4 (va_up (va_up (va_up (va_up (fun _ => none) 0 (some (fA 0))) 1 (some fa)) 2 (some (fA 2))) 3 (some (fA 3))), oc fa 3 [.int ee, .ref (ad 1), .ref (ad 2), .ref (ad 3), .ref (ad 4), .ref (ad 5), .int n0, .int sd, .int 1]] sz) := by
  refine Met.ofW (cc := b_OM_foundByRuns) (maxL := 3) (ret := (some (.object "OrderModels$OutcomeSet"))) (by decide) rfl ?_
  intro p e0 s m args below meth c s₁ B hml hv
  obtain ⟨rfl, hsz, hP, hK, hD0, hn⟩ := hv
  have hx := B.exec
  have hb := B.bytes
  have hr := B.returns
  have hw := fun w (h : w ∈ wt) => atoms_spec (ws := w_OM_foundByRuns) B.pre w (List.mem_cons_of_mem _ h)
  have hown : s.vm.findClass R_OM = some m.cls := findClass_of_methodNamed B.named
  have hlocks := B.notSynchronized
  subst hsz
  have hD1 := hD0.self (sz := s.heap.size)
  generalize hAe : va_A [oc oa 7 [.ref pa, .ref ba, .ref ka, .ref xa, .ref ra1, .ref ra2], qa ra1 kr1 4 (va_up (va_up (va_up (va_up (fun _ => none) 0 (some (fA 0))) 1 (some fa)) 2 (some (fA 2))) 3 (some (fA 3))), oc fa 3 [.int ee, .ref (ad 1), .ref (ad 2), .ref (ad 3), .ref (ad 4), .ref (ad 5), .int n0, .int sd, .int 1]] s.heap.size = A at hD1 ⊢
  have hA : ∀ q : Nat, s.heap.size ≤ q → A q := fun q h => by rw [← hAe]; exact Or.inr h
  have hD : dd A [oa, ra1, fa] := dd_of hD1 rfl
  clear hAe hD0 hD1
  have hS : va_S A s.heap s.heap [] := va_S.rf
  replace hP : va_P (dC, dI) classes [oc oa 7 [.ref pa, .ref ba, .ref ka, .ref xa, .ref ra1, .ref ra2], qa ra1 kr1 4 (va_up (va_up (va_up (va_up (fun _ => none) 0 (some (fA 0))) 1 (some fa)) 2 (some (fA 2))) 3 (some (fA 3))), oc fa 3 [.int ee, .ref (ad 1), .ref (ad 2), .ref (ad 3), .ref (ad 4), .ref (ad 5), .int n0, .int sd, .int 1]] s.heap := hP
  have hl := lv_entry ([.ref oa, .int 1]) (n := 3) (Nat.le_of_ble_eq_true rfl)
  rw [lg_entry_eq]
  generalize (lg_sl ([.ref oa, .int 1]) ++ List.replicate (3 - (lg_sl ([.ref oa, .int 1])).length) Slot.unset).toArray = ls at hl ⊢
  replace hl : lv_has ls 3 [(0, .ref oa), (1, .int 1)] := hl
  refine lv_aload_n hx hb d_OM_foundByRuns_0 rfl (lv_at hl 0 rfl) ?_
  refine va_get (D := (dC, dI)) (ci := 7) (v := .ref ra1) (C := R_OM) (T := F_OM) (N := 6) hx hb hw i_OM hown hK hP 0 rfl rfl 4 (by decide) (hw _ m_412) (fun _ h9 => h9) rfl d_OM_foundByRuns_1 ?_
  refine lv_iload_n hx hb d_OM_foundByRuns_4 rfl (lv_at hl 1 rfl) ?_
  refine va_aldq (D := (dC, dI)) hx hb hK hP 1 0 rfl rfl (i := 1) (vp_c (by decide)) d_OM_foundByRuns_5 ?_
  refine tp_v (y := fa) (by rfl) ?_
  refine lv_astore_n (lv' := [(2, .ref fa), (0, .ref oa), (1, .int 1)]) hx hb d_OM_foundByRuns_6 rfl hl (by decide) rfl ?_
  clear hl ls
  intro ls hl
  refine lv_aload_n hx hb d_OM_foundByRuns_7 rfl (lv_at hl 0 rfl) ?_
  refine va_get (D := (dC, dI)) (ci := 3) (v := .int 1) (C := R_OutcomeSet) (T := F_OutcomeSet) (N := 9) hx hb hw i_OutcomeSet hown hK hP 2 rfl rfl 8 (by decide) (hw _ m_388) (fun _ h9 => h9) rfl d_OM_foundByRuns_8 ?_
  refine lv_if_ne (tgt := 44) hx hb d_OM_foundByRuns_11 (by decide) (fun c_1 => ?_) (fun c_1 => absurd c_1 (by decide))
  refine tp_pc (pc' := 44) (by rfl) ?_
  refine lv_aload_n hx hb d_OM_foundByRuns_44 rfl (lv_at hl 0 rfl) ?_
  obtain ⟨hP9, hD9, -⟩ := cut3 (wc := [oc oa 7 [.ref pa, .ref ba, .ref ka, .ref xa, .ref ra1, .ref ra2], qa ra1 kr1 4 (va_up (va_up (va_up (va_up (fun _ => none) 0 (some (fA 0))) 1 (some fa)) 2 (some (fA 2))) 3 (some (fA 3))), oc fa 3 [.int ee, .ref (ad 1), .ref (ad 2), .ref (ad 3), .ref (ad 4), .ref (ad 5), .int n0, .int sd, .int 1]]) hP hD rfl hS hA [0, 1, 2] (by decide +kernel) rfl
  have hK9 := hK.sub (tys' := []) [] rfl
  refine W.widen (k := 0) (n := 0) (by exact Nat.le_refl _) (by exact Nat.le_refl _) ?_
  exact W.aret hx hb hr (by first | exact Or.inl ⟨_, rfl⟩ | exact Or.inr ⟨_, rfl⟩) (Or.inr ⟨_, rfl⟩) (fun t9 ht9 hW => ⟨⟨(), fa, rfl, trivial, rfl, by rw [ht9]; exact hP9, va_K.moved hW.alike hK9, hD9⟩, hS.F ht9⟩) hS.2.2 d_OM_foundByRuns_45
set_option maxHeartbeats 4000000 in
set_option maxRecDepth 100000 in
theorem gen_OM_foundByRuns_ready2 (l : Launch) (dC : Nat → ClassId) (dI : Nat → Nat → Nat) (oa pa ba ka xa ra1 ra2 : Nat) (kr1 kr2 : ClassId) (fA fB : Nat → Nat) (fa : Nat) (ad : Nat → Nat) (ee n0 sd : Int32)  (sz : Nat) : Met l y_OM_foundByRuns w_OM_foundByRuns ({ frames := 0, cells := 0, slots := 0, locals := 0 }) (va_Pc [.ref oa, .int 2] (fun U => U.heap.size = sz ∧ va_P (dC, dI) classes [oc oa 7 [.ref pa, .ref ba, .ref ka, .ref xa, .ref ra1, .ref ra2], qa ra1 kr1 4 (va_up (va_up (va_up (va_up (fun _ => none) 0 (some (fA 0))) 1 (some (fA 1))) 2 (some fa)) 3 (some (fA 3))), oc fa 3 [.int ee, .ref (ad 1), .ref (ad 2), .ref (ad 3), .ref (ad 4), .ref (ad 5), .int n0, .int sd, .int 1]] U.heap ∧ va_K (dC, dI) classes [(kr1, .object "OrderModels$OutcomeSet")] U ∧ va_D (fun _ => True) [oc oa 7 [.ref pa, .ref ba, .ref ka, .ref xa, .ref ra1, .ref ra2], qa ra1 kr1 4 (va_up (va_up (va_up (va_up (fun _ => none) 0 (some (fA 0))) 1 (some (fA 1))) 2 (some fa)) 3 (some (fA 3))), oc fa 3 [.int ee, .ref (ad 1), .ref (ad 2), .ref (ad 3), .ref (ad 4), .ref (ad 5), .int n0, .int sd, .int 1]] ∧ nw U)) (va_Qr (fun _ : Unit => True) (fun _ a t9 => a = fa ∧ va_P (dC, dI) classes [oc oa 7 [.ref pa, .ref ba, .ref ka, .ref xa, .ref ra1, .ref ra2], qa ra1 kr1 4 (va_up (va_up (va_up (va_up (fun _ => none) 0 (some (fA 0))) 1 (some (fA 1))) 2 (some fa)) 3 (some (fA 3))), oc fa 3 [.int ee, .ref (ad 1), .ref (ad 2), .ref (ad 3), .ref (ad 4), .ref (ad 5), .int n0, .int sd, .int 1]] t9.heap ∧ va_K (dC, dI) classes [] t9 ∧ va_D (va_A [oc oa 7 [.ref pa, .ref ba, .ref ka, .ref xa, .ref ra1, .ref ra2], qa ra1 kr1 4 (va_up (va_up (va_up (va_up (fun _ => none) 0 (some (fA 0))) 1 (some (fA 1))) 2 (some fa)) 3 (some (fA 3))), oc fa 3 [.int ee, .ref (ad 1), .ref (ad 2), .ref (ad 3), .ref (ad 4), .ref (ad 5), .int n0, .int sd, .int 1]] sz) [oc oa 7 [.ref pa, .ref ba, .ref ka, .ref xa, .ref ra1, .ref ra2], qa ra1 kr1 4 (va_up (va_up (va_up (va_up (fun _ => none) 0 (some (fA 0))) 1 (some (fA 1))) 2 (some fa)) 3 (some (fA 3))), oc fa 3 [.int ee, .ref (ad 1), .ref (ad 2), .ref (ad 3), .ref (ad 4), .ref (ad 5), .int n0, .int sd, .int 1]]) (va_A [oc oa 7 [.ref pa, .ref ba, .ref ka, .ref xa, .ref ra1, .ref ra2], qa ra1 kr1 4 (va_up (va_up (va_up (va_up (fun _ => none) 0 (some (fA 0))) 1 (some (fA 1))) 2 (some fa)) 3 (some (fA 3))), oc fa 3 [.int ee, .ref (ad 1), .ref (ad 2), .ref (ad 3), .ref (ad 4), .ref (ad 5), .int n0, .int sd, .int 1]] sz)) 0 0 (va_A [oc oa 7 [.ref pa, .ref ba, .ref ka, .ref xa, .ref ra1, .ref ra2], qa ra1 kr1 4 (va_up (va_up (va_up (va_up (fun _ => none) 0 (some (fA 0))) 1 (some (fA 1))) 2 (some fa)) 3 (some (fA 3))), oc fa 3 [.int ee, .ref (ad 1), .ref (ad 2), .ref (ad 3), .ref (ad 4), .ref (ad 5), .int n0, .int sd, .int 1]] sz) := by
  refine Met.ofW (cc := b_OM_foundByRuns) (maxL := 3) (ret := (some (.object "OrderModels$OutcomeSet"))) (by decide) rfl ?_
  intro p e0 s m args below meth c s₁ B hml hv
  obtain ⟨rfl, hsz, hP, hK, hD0, hn⟩ := hv
  have hx := B.exec
  have hb := B.bytes
  have hr := B.returns
  have hw := fun w (h : w ∈ wt) => atoms_spec (ws := w_OM_foundByRuns) B.pre w (List.mem_cons_of_mem _ h)
  have hown : s.vm.findClass R_OM = some m.cls := findClass_of_methodNamed B.named
  have hlocks := B.notSynchronized
  subst hsz
  have hD1 := hD0.self (sz := s.heap.size)
  generalize hAe : va_A [oc oa 7 [.ref pa, .ref ba, .ref ka, .ref xa, .ref ra1, .ref ra2], qa ra1 kr1 4 (va_up (va_up (va_up (va_up (fun _ => none) 0 (some (fA 0))) 1 (some (fA 1))) 2 (some fa)) 3 (some (fA 3))), oc fa 3 [.int ee, .ref (ad 1), .ref (ad 2), .ref (ad 3), .ref (ad 4), .ref (ad 5), .int n0, .int sd, .int 1]] s.heap.size = A at hD1 ⊢
  have hA : ∀ q : Nat, s.heap.size ≤ q → A q := fun q h => by rw [← hAe]; exact Or.inr h
  have hD : dd A [oa, ra1, fa] := dd_of hD1 rfl
  clear hAe hD0 hD1
  have hS : va_S A s.heap s.heap [] := va_S.rf
  replace hP : va_P (dC, dI) classes [oc oa 7 [.ref pa, .ref ba, .ref ka, .ref xa, .ref ra1, .ref ra2], qa ra1 kr1 4 (va_up (va_up (va_up (va_up (fun _ => none) 0 (some (fA 0))) 1 (some (fA 1))) 2 (some fa)) 3 (some (fA 3))), oc fa 3 [.int ee, .ref (ad 1), .ref (ad 2), .ref (ad 3), .ref (ad 4), .ref (ad 5), .int n0, .int sd, .int 1]] s.heap := hP
  have hl := lv_entry ([.ref oa, .int 2]) (n := 3) (Nat.le_of_ble_eq_true rfl)
  rw [lg_entry_eq]
  generalize (lg_sl ([.ref oa, .int 2]) ++ List.replicate (3 - (lg_sl ([.ref oa, .int 2])).length) Slot.unset).toArray = ls at hl ⊢
  replace hl : lv_has ls 3 [(0, .ref oa), (1, .int 2)] := hl
  refine lv_aload_n hx hb d_OM_foundByRuns_0 rfl (lv_at hl 0 rfl) ?_
  refine va_get (D := (dC, dI)) (ci := 7) (v := .ref ra1) (C := R_OM) (T := F_OM) (N := 6) hx hb hw i_OM hown hK hP 0 rfl rfl 4 (by decide) (hw _ m_412) (fun _ h9 => h9) rfl d_OM_foundByRuns_1 ?_
  refine lv_iload_n hx hb d_OM_foundByRuns_4 rfl (lv_at hl 1 rfl) ?_
  refine va_aldq (D := (dC, dI)) hx hb hK hP 1 0 rfl rfl (i := 2) (vp_c (by decide)) d_OM_foundByRuns_5 ?_
  refine tp_v (y := fa) (by rfl) ?_
  refine lv_astore_n (lv' := [(2, .ref fa), (0, .ref oa), (1, .int 2)]) hx hb d_OM_foundByRuns_6 rfl hl (by decide) rfl ?_
  clear hl ls
  intro ls hl
  refine lv_aload_n hx hb d_OM_foundByRuns_7 rfl (lv_at hl 0 rfl) ?_
  refine va_get (D := (dC, dI)) (ci := 3) (v := .int 1) (C := R_OutcomeSet) (T := F_OutcomeSet) (N := 9) hx hb hw i_OutcomeSet hown hK hP 2 rfl rfl 8 (by decide) (hw _ m_388) (fun _ h9 => h9) rfl d_OM_foundByRuns_8 ?_
  refine lv_if_ne (tgt := 44) hx hb d_OM_foundByRuns_11 (by decide) (fun c_1 => ?_) (fun c_1 => absurd c_1 (by decide))
  refine tp_pc (pc' := 44) (by rfl) ?_
  refine lv_aload_n hx hb d_OM_foundByRuns_44 rfl (lv_at hl 0 rfl) ?_
  obtain ⟨hP9, hD9, -⟩ := cut3 (wc := [oc oa 7 [.ref pa, .ref ba, .ref ka, .ref xa, .ref ra1, .ref ra2], qa ra1 kr1 4 (va_up (va_up (va_up (va_up (fun _ => none) 0 (some (fA 0))) 1 (some (fA 1))) 2 (some fa)) 3 (some (fA 3))), oc fa 3 [.int ee, .ref (ad 1), .ref (ad 2), .ref (ad 3), .ref (ad 4), .ref (ad 5), .int n0, .int sd, .int 1]]) hP hD rfl hS hA [0, 1, 2] (by decide +kernel) rfl
  have hK9 := hK.sub (tys' := []) [] rfl
  refine W.widen (k := 0) (n := 0) (by exact Nat.le_refl _) (by exact Nat.le_refl _) ?_
  exact W.aret hx hb hr (by first | exact Or.inl ⟨_, rfl⟩ | exact Or.inr ⟨_, rfl⟩) (Or.inr ⟨_, rfl⟩) (fun t9 ht9 hW => ⟨⟨(), fa, rfl, trivial, rfl, by rw [ht9]; exact hP9, va_K.moved hW.alike hK9, hD9⟩, hS.F ht9⟩) hS.2.2 d_OM_foundByRuns_45
set_option maxHeartbeats 4000000 in
set_option maxRecDepth 100000 in
theorem gen_OM_foundByRuns_ready3 (l : Launch) (dC : Nat → ClassId) (dI : Nat → Nat → Nat) (oa pa ba ka xa ra1 ra2 : Nat) (kr1 kr2 : ClassId) (fA fB : Nat → Nat) (fa : Nat) (ad : Nat → Nat) (ee n0 sd : Int32)  (sz : Nat) : Met l y_OM_foundByRuns w_OM_foundByRuns ({ frames := 0, cells := 0, slots := 0, locals := 0 }) (va_Pc [.ref oa, .int 3] (fun U => U.heap.size = sz ∧ va_P (dC, dI) classes [oc oa 7 [.ref pa, .ref ba, .ref ka, .ref xa, .ref ra1, .ref ra2], qa ra1 kr1 4 (va_up (va_up (va_up (va_up (fun _ => none) 0 (some (fA 0))) 1 (some (fA 1))) 2 (some (fA 2))) 3 (some fa)), oc fa 3 [.int ee, .ref (ad 1), .ref (ad 2), .ref (ad 3), .ref (ad 4), .ref (ad 5), .int n0, .int sd, .int 1]] U.heap ∧ va_K (dC, dI) classes [(kr1, .object "OrderModels$OutcomeSet")] U ∧ va_D (fun _ => True) [oc oa 7 [.ref pa, .ref ba, .ref ka, .ref xa, .ref ra1, .ref ra2], qa ra1 kr1 4 (va_up (va_up (va_up (va_up (fun _ => none) 0 (some (fA 0))) 1 (some (fA 1))) 2 (some (fA 2))) 3 (some fa)), oc fa 3 [.int ee, .ref (ad 1), .ref (ad 2), .ref (ad 3), .ref (ad 4), .ref (ad 5), .int n0, .int sd, .int 1]] ∧ nw U)) (va_Qr (fun _ : Unit => True) (fun _ a t9 => a = fa ∧ va_P (dC, dI) classes [oc oa 7 [.ref pa, .ref ba, .ref ka, .ref xa, .ref ra1, .ref ra2], qa ra1 kr1 4 (va_up (va_up (va_up (va_up (fun _ => none) 0 (some (fA 0))) 1 (some (fA 1))) 2 (some (fA 2))) 3 (some fa)), oc fa 3 [.int ee, .ref (ad 1), .ref (ad 2), .ref (ad 3), .ref (ad 4), .ref (ad 5), .int n0, .int sd, .int 1]] t9.heap ∧ va_K (dC, dI) classes [] t9 ∧ va_D (va_A [oc oa 7 [.ref pa, .ref ba, .ref ka, .ref xa, .ref ra1, .ref ra2], qa ra1 kr1 4 (va_up (va_up (va_up (va_up (fun _ => none) 0 (some (fA 0))) 1 (some (fA 1))) 2 (some (fA 2))) 3 (some fa)), oc fa 3 [.int ee, .ref (ad 1), .ref (ad 2), .ref (ad 3), .ref (ad 4), .ref (ad 5), .int n0, .int sd, .int 1]] sz) [oc oa 7 [.ref pa, .ref ba, .ref ka, .ref xa, .ref ra1, .ref ra2], qa ra1 kr1 4 (va_up (va_up (va_up (va_up (fun _ => none) 0 (some (fA 0))) 1 (some (fA 1))) 2 (some (fA 2))) 3 (some fa)), oc fa 3 [.int ee, .ref (ad 1), .ref (ad 2), .ref (ad 3), .ref (ad 4), .ref (ad 5), .int n0, .int sd, .int 1]]) (va_A [oc oa 7 [.ref pa, .ref ba, .ref ka, .ref xa, .ref ra1, .ref ra2], qa ra1 kr1 4 (va_up (va_up (va_up (va_up (fun _ => none) 0 (some (fA 0))) 1 (some (fA 1))) 2 (some (fA 2))) 3 (some fa)), oc fa 3 [.int ee, .ref (ad 1), .ref (ad 2), .ref (ad 3), .ref (ad 4), .ref (ad 5), .int n0, .int sd, .int 1]] sz)) 0 0 (va_A [oc oa 7 [.ref pa, .ref ba, .ref ka, .ref xa, .ref ra1, .ref ra2], qa ra1 kr1 4 (va_up (va_up (va_up (va_up (fun _ => none) 0 (some (fA 0))) 1 (some (fA 1))) 2 (some (fA 2))) 3 (some fa)), oc fa 3 [.int ee, .ref (ad 1), .ref (ad 2), .ref (ad 3), .ref (ad 4), .ref (ad 5), .int n0, .int sd, .int 1]] sz) := by
  refine Met.ofW (cc := b_OM_foundByRuns) (maxL := 3) (ret := (some (.object "OrderModels$OutcomeSet"))) (by decide) rfl ?_
  intro p e0 s m args below meth c s₁ B hml hv
  obtain ⟨rfl, hsz, hP, hK, hD0, hn⟩ := hv
  have hx := B.exec
  have hb := B.bytes
  have hr := B.returns
  have hw := fun w (h : w ∈ wt) => atoms_spec (ws := w_OM_foundByRuns) B.pre w (List.mem_cons_of_mem _ h)
  have hown : s.vm.findClass R_OM = some m.cls := findClass_of_methodNamed B.named
  have hlocks := B.notSynchronized
  subst hsz
  have hD1 := hD0.self (sz := s.heap.size)
  generalize hAe : va_A [oc oa 7 [.ref pa, .ref ba, .ref ka, .ref xa, .ref ra1, .ref ra2], qa ra1 kr1 4 (va_up (va_up (va_up (va_up (fun _ => none) 0 (some (fA 0))) 1 (some (fA 1))) 2 (some (fA 2))) 3 (some fa)), oc fa 3 [.int ee, .ref (ad 1), .ref (ad 2), .ref (ad 3), .ref (ad 4), .ref (ad 5), .int n0, .int sd, .int 1]] s.heap.size = A at hD1 ⊢
  have hA : ∀ q : Nat, s.heap.size ≤ q → A q := fun q h => by rw [← hAe]; exact Or.inr h
  have hD : dd A [oa, ra1, fa] := dd_of hD1 rfl
  clear hAe hD0 hD1
  have hS : va_S A s.heap s.heap [] := va_S.rf
  replace hP : va_P (dC, dI) classes [oc oa 7 [.ref pa, .ref ba, .ref ka, .ref xa, .ref ra1, .ref ra2], qa ra1 kr1 4 (va_up (va_up (va_up (va_up (fun _ => none) 0 (some (fA 0))) 1 (some (fA 1))) 2 (some (fA 2))) 3 (some fa)), oc fa 3 [.int ee, .ref (ad 1), .ref (ad 2), .ref (ad 3), .ref (ad 4), .ref (ad 5), .int n0, .int sd, .int 1]] s.heap := hP
  have hl := lv_entry ([.ref oa, .int 3]) (n := 3) (Nat.le_of_ble_eq_true rfl)
  rw [lg_entry_eq]
  generalize (lg_sl ([.ref oa, .int 3]) ++ List.replicate (3 - (lg_sl ([.ref oa, .int 3])).length) Slot.unset).toArray = ls at hl ⊢
  replace hl : lv_has ls 3 [(0, .ref oa), (1, .int 3)] := hl
  refine lv_aload_n hx hb d_OM_foundByRuns_0 rfl (lv_at hl 0 rfl) ?_
  refine va_get (D := (dC, dI)) (ci := 7) (v := .ref ra1) (C := R_OM) (T := F_OM) (N := 6) hx hb hw i_OM hown hK hP 0 rfl rfl 4 (by decide) (hw _ m_412) (fun _ h9 => h9) rfl d_OM_foundByRuns_1 ?_
  refine lv_iload_n hx hb d_OM_foundByRuns_4 rfl (lv_at hl 1 rfl) ?_
  refine va_aldq (D := (dC, dI)) hx hb hK hP 1 0 rfl rfl (i := 3) (vp_c (by decide)) d_OM_foundByRuns_5 ?_
  refine tp_v (y := fa) (by rfl) ?_
  refine lv_astore_n (lv' := [(2, .ref fa), (0, .ref oa), (1, .int 3)]) hx hb d_OM_foundByRuns_6 rfl hl (by decide) rfl ?_
  clear hl ls
  intro ls hl
  refine lv_aload_n hx hb d_OM_foundByRuns_7 rfl (lv_at hl 0 rfl) ?_
  refine va_get (D := (dC, dI)) (ci := 3) (v := .int 1) (C := R_OutcomeSet) (T := F_OutcomeSet) (N := 9) hx hb hw i_OutcomeSet hown hK hP 2 rfl rfl 8 (by decide) (hw _ m_388) (fun _ h9 => h9) rfl d_OM_foundByRuns_8 ?_
  refine lv_if_ne (tgt := 44) hx hb d_OM_foundByRuns_11 (by decide) (fun c_1 => ?_) (fun c_1 => absurd c_1 (by decide))
  refine tp_pc (pc' := 44) (by rfl) ?_
  refine lv_aload_n hx hb d_OM_foundByRuns_44 rfl (lv_at hl 0 rfl) ?_
  obtain ⟨hP9, hD9, -⟩ := cut3 (wc := [oc oa 7 [.ref pa, .ref ba, .ref ka, .ref xa, .ref ra1, .ref ra2], qa ra1 kr1 4 (va_up (va_up (va_up (va_up (fun _ => none) 0 (some (fA 0))) 1 (some (fA 1))) 2 (some (fA 2))) 3 (some fa)), oc fa 3 [.int ee, .ref (ad 1), .ref (ad 2), .ref (ad 3), .ref (ad 4), .ref (ad 5), .int n0, .int sd, .int 1]]) hP hD rfl hS hA [0, 1, 2] (by decide +kernel) rfl
  have hK9 := hK.sub (tys' := []) [] rfl
  refine W.widen (k := 0) (n := 0) (by exact Nat.le_refl _) (by exact Nat.le_refl _) ?_
  exact W.aret hx hb hr (by first | exact Or.inl ⟨_, rfl⟩ | exact Or.inr ⟨_, rfl⟩) (Or.inr ⟨_, rfl⟩) (fun t9 ht9 hW => ⟨⟨(), fa, rfl, trivial, rfl, by rw [ht9]; exact hP9, va_K.moved hW.alike hK9, hD9⟩, hS.F ht9⟩) hS.2.2 d_OM_foundByRuns_45
set_option maxHeartbeats 4000000 in
set_option maxRecDepth 100000 in
theorem gen_OM_foundByGraphs_ready0 (l : Launch) (dC : Nat → ClassId) (dI : Nat → Nat → Nat) (oa pa ba ka xa ra1 ra2 : Nat) (kr1 kr2 : ClassId) (fA fB : Nat → Nat) (fa : Nat) (ad : Nat → Nat) (ee n0 sd : Int32)  (sz : Nat) : Met l y_OM_foundByGraphs w_OM_foundByGraphs ({ frames := 0, cells := 0, slots := 0, locals := 0 }) (va_Pc [.ref oa, .int 0] (fun U => U.heap.size = sz ∧ va_P (dC, dI) classes [oc oa 7 [.ref pa, .ref ba, .ref ka, .ref xa, .ref ra1, .ref ra2], qa ra2 kr2 4 (va_up (va_up (va_up (va_up (fun _ => none) 0 (some fa)) 1 (some (fB 1))) 2 (some (fB 2))) 3 (some (fB 3))), oc fa 3 [.int ee, .ref (ad 1), .ref (ad 2), .ref (ad 3), .ref (ad 4), .ref (ad 5), .int n0, .int sd, .int 1]] U.heap ∧ va_K (dC, dI) classes [(kr2, .object "OrderModels$OutcomeSet")] U ∧ va_D (fun _ => True) [oc oa 7 [.ref pa, .ref ba, .ref ka, .ref xa, .ref ra1, .ref ra2], qa ra2 kr2 4 (va_up (va_up (va_up (va_up (fun _ => none) 0 (some fa)) 1 (some (fB 1))) 2 (some (fB 2))) 3 (some (fB 3))), oc fa 3 [.int ee, .ref (ad 1), .ref (ad 2), .ref (ad 3), .ref (ad 4), .ref (ad 5), .int n0, .int sd, .int 1]] ∧ nw U)) (va_Qr (fun _ : Unit => True) (fun _ a t9 => a = fa ∧ va_P (dC, dI) classes [oc oa 7 [.ref pa, .ref ba, .ref ka, .ref xa, .ref ra1, .ref ra2], qa ra2 kr2 4 (va_up (va_up (va_up (va_up (fun _ => none) 0 (some fa)) 1 (some (fB 1))) 2 (some (fB 2))) 3 (some (fB 3))), oc fa 3 [.int ee, .ref (ad 1), .ref (ad 2), .ref (ad 3), .ref (ad 4), .ref (ad 5), .int n0, .int sd, .int 1]] t9.heap ∧ va_K (dC, dI) classes [] t9 ∧ va_D (va_A [oc oa 7 [.ref pa, .ref ba, .ref ka, .ref xa, .ref ra1, .ref ra2], qa ra2 kr2 4 (va_up (va_up (va_up (va_up (fun _ => none) 0 (some fa)) 1 (some (fB 1))) 2 (some (fB 2))) 3 (some (fB 3))), oc fa 3 [.int ee, .ref (ad 1), .ref (ad 2), .ref (ad 3), .ref (ad 4), .ref (ad 5), .int n0, .int sd, .int 1]] sz) [oc oa 7 [.ref pa, .ref ba, .ref ka, .ref xa, .ref ra1, .ref ra2], qa ra2 kr2 4 (va_up (va_up (va_up (va_up (fun _ => none) 0 (some fa)) 1 (some (fB 1))) 2 (some (fB 2))) 3 (some (fB 3))), oc fa 3 [.int ee, .ref (ad 1), .ref (ad 2), .ref (ad 3), .ref (ad 4), .ref (ad 5), .int n0, .int sd, .int 1]]) (va_A [oc oa 7 [.ref pa, .ref ba, .ref ka, .ref xa, .ref ra1, .ref ra2], qa ra2 kr2 4 (va_up (va_up (va_up (va_up (fun _ => none) 0 (some fa)) 1 (some (fB 1))) 2 (some (fB 2))) 3 (some (fB 3))), oc fa 3 [.int ee, .ref (ad 1), .ref (ad 2), .ref (ad 3), .ref (ad 4), .ref (ad 5), .int n0, .int sd, .int 1]] sz)) 0 0 (va_A [oc oa 7 [.ref pa, .ref ba, .ref ka, .ref xa, .ref ra1, .ref ra2], qa ra2 kr2 4 (va_up (va_up (va_up (va_up (fun _ => none) 0 (some fa)) 1 (some (fB 1))) 2 (some (fB 2))) 3 (some (fB 3))), oc fa 3 [.int ee, .ref (ad 1), .ref (ad 2), .ref (ad 3), .ref (ad 4), .ref (ad 5), .int n0, .int sd, .int 1]] sz) := by
  refine Met.ofW (cc := b_OM_foundByGraphs) (maxL := 3) (ret := (some (.object "OrderModels$OutcomeSet"))) (by decide) rfl ?_
  intro p e0 s m args below meth c s₁ B hml hv
  obtain ⟨rfl, hsz, hP, hK, hD0, hn⟩ := hv
  have hx := B.exec
  have hb := B.bytes
  have hr := B.returns
  have hw := fun w (h : w ∈ wt) => atoms_spec (ws := w_OM_foundByGraphs) B.pre w (List.mem_cons_of_mem _ h)
  have hown : s.vm.findClass R_OM = some m.cls := findClass_of_methodNamed B.named
  have hlocks := B.notSynchronized
  subst hsz
  have hD1 := hD0.self (sz := s.heap.size)
  generalize hAe : va_A [oc oa 7 [.ref pa, .ref ba, .ref ka, .ref xa, .ref ra1, .ref ra2], qa ra2 kr2 4 (va_up (va_up (va_up (va_up (fun _ => none) 0 (some fa)) 1 (some (fB 1))) 2 (some (fB 2))) 3 (some (fB 3))), oc fa 3 [.int ee, .ref (ad 1), .ref (ad 2), .ref (ad 3), .ref (ad 4), .ref (ad 5), .int n0, .int sd, .int 1]] s.heap.size = A at hD1 ⊢
  have hA : ∀ q : Nat, s.heap.size ≤ q → A q := fun q h => by rw [← hAe]; exact Or.inr h
  have hD : dd A [oa, ra2, fa] := dd_of hD1 rfl
  clear hAe hD0 hD1
  have hS : va_S A s.heap s.heap [] := va_S.rf
  replace hP : va_P (dC, dI) classes [oc oa 7 [.ref pa, .ref ba, .ref ka, .ref xa, .ref ra1, .ref ra2], qa ra2 kr2 4 (va_up (va_up (va_up (va_up (fun _ => none) 0 (some fa)) 1 (some (fB 1))) 2 (some (fB 2))) 3 (some (fB 3))), oc fa 3 [.int ee, .ref (ad 1), .ref (ad 2), .ref (ad 3), .ref (ad 4), .ref (ad 5), .int n0, .int sd, .int 1]] s.heap := hP
  have hl := lv_entry ([.ref oa, .int 0]) (n := 3) (Nat.le_of_ble_eq_true rfl)
  rw [lg_entry_eq]
  generalize (lg_sl ([.ref oa, .int 0]) ++ List.replicate (3 - (lg_sl ([.ref oa, .int 0])).length) Slot.unset).toArray = ls at hl ⊢
  replace hl : lv_has ls 3 [(0, .ref oa), (1, .int 0)] := hl
  refine lv_aload_n hx hb d_OM_foundByGraphs_0 rfl (lv_at hl 0 rfl) ?_
  refine va_get (D := (dC, dI)) (ci := 7) (v := .ref ra2) (C := R_OM) (T := F_OM) (N := 6) hx hb hw i_OM hown hK hP 0 rfl rfl 5 (by decide) (hw _ m_413) (fun _ h9 => h9) rfl d_OM_foundByGraphs_1 ?_
  refine lv_iload_n hx hb d_OM_foundByGraphs_4 rfl (lv_at hl 1 rfl) ?_
  refine va_aldq (D := (dC, dI)) hx hb hK hP 1 0 rfl rfl (i := 0) (vp_c (by decide)) d_OM_foundByGraphs_5 ?_
  refine tp_v (y := fa) (by rfl) ?_
  refine lv_astore_n (lv' := [(2, .ref fa), (0, .ref oa), (1, .int 0)]) hx hb d_OM_foundByGraphs_6 rfl hl (by decide) rfl ?_
  clear hl ls
  intro ls hl
  refine lv_aload_n hx hb d_OM_foundByGraphs_7 rfl (lv_at hl 0 rfl) ?_
  refine va_get (D := (dC, dI)) (ci := 3) (v := .int 1) (C := R_OutcomeSet) (T := F_OutcomeSet) (N := 9) hx hb hw i_OutcomeSet hown hK hP 2 rfl rfl 8 (by decide) (hw _ m_388) (fun _ h9 => h9) rfl d_OM_foundByGraphs_8 ?_
  refine lv_if_ne (tgt := 28) hx hb d_OM_foundByGraphs_11 (by decide) (fun c_1 => ?_) (fun c_1 => absurd c_1 (by decide))
  refine tp_pc (pc' := 28) (by rfl) ?_
  refine lv_aload_n hx hb d_OM_foundByGraphs_28 rfl (lv_at hl 0 rfl) ?_
  obtain ⟨hP9, hD9, -⟩ := cut3 (wc := [oc oa 7 [.ref pa, .ref ba, .ref ka, .ref xa, .ref ra1, .ref ra2], qa ra2 kr2 4 (va_up (va_up (va_up (va_up (fun _ => none) 0 (some fa)) 1 (some (fB 1))) 2 (some (fB 2))) 3 (some (fB 3))), oc fa 3 [.int ee, .ref (ad 1), .ref (ad 2), .ref (ad 3), .ref (ad 4), .ref (ad 5), .int n0, .int sd, .int 1]]) hP hD rfl hS hA [0, 1, 2] (by decide +kernel) rfl
  have hK9 := hK.sub (tys' := []) [] rfl
  refine W.widen (k := 0) (n := 0) (by exact Nat.le_refl _) (by exact Nat.le_refl _) ?_
  exact W.aret hx hb hr (by first | exact Or.inl ⟨_, rfl⟩ | exact Or.inr ⟨_, rfl⟩) (Or.inr ⟨_, rfl⟩) (fun t9 ht9 hW => ⟨⟨(), fa, rfl, trivial, rfl, by rw [ht9]; exact hP9, va_K.moved hW.alike hK9, hD9⟩, hS.F ht9⟩) hS.2.2 d_OM_foundByGraphs_29
set_option maxHeartbeats 4000000 in
set_option maxRecDepth 100000 in
theorem gen_OM_foundByGraphs_ready1 (l : Launch) (dC : Nat → ClassId) (dI : Nat → Nat → Nat) (oa pa ba ka xa ra1 ra2 : Nat) (kr1 kr2 : ClassId) (fA fB : Nat → Nat) (fa : Nat) (ad : Nat → Nat) (ee n0 sd : Int32)  (sz : Nat) : Met l y_OM_foundByGraphs w_OM_foundByGraphs ({ frames := 0, cells := 0, slots := 0, locals := 0 }) (va_Pc [.ref oa, .int 1] (fun U => U.heap.size = sz ∧ va_P (dC, dI) classes [oc oa 7 [.ref pa, .ref ba, .ref ka, .ref xa, .ref ra1, .ref ra2], qa ra2 kr2 4 (va_up (va_up (va_up (va_up (fun _ => none) 0 (some (fB 0))) 1 (some fa)) 2 (some (fB 2))) 3 (some (fB 3))), oc fa 3 [.int ee, .ref (ad 1), .ref (ad 2), .ref (ad 3), .ref (ad 4), .ref (ad 5), .int n0, .int sd, .int 1]] U.heap ∧ va_K (dC, dI) classes [(kr2, .object "OrderModels$OutcomeSet")] U ∧ va_D (fun _ => True) [oc oa 7 [.ref pa, .ref ba, .ref ka, .ref xa, .ref ra1, .ref ra2], qa ra2 kr2 4 (va_up (va_up (va_up (va_up (fun _ => none) 0 (some (fB 0))) 1 (some fa)) 2 (some (fB 2))) 3 (some (fB 3))), oc fa 3 [.int ee, .ref (ad 1), .ref (ad 2), .ref (ad 3), .ref (ad 4), .ref (ad 5), .int n0, .int sd, .int 1]] ∧ nw U)) (va_Qr (fun _ : Unit => True) (fun _ a t9 => a = fa ∧ va_P (dC, dI) classes [oc oa 7 [.ref pa, .ref ba, .ref ka, .ref xa, .ref ra1, .ref ra2], qa ra2 kr2 4 (va_up (va_up (va_up (va_up (fun _ => none) 0 (some (fB 0))) 1 (some fa)) 2 (some (fB 2))) 3 (some (fB 3))), oc fa 3 [.int ee, .ref (ad 1), .ref (ad 2), .ref (ad 3), .ref (ad 4), .ref (ad 5), .int n0, .int sd, .int 1]] t9.heap ∧ va_K (dC, dI) classes [] t9 ∧ va_D (va_A [oc oa 7 [.ref pa, .ref ba, .ref ka, .ref xa, .ref ra1, .ref ra2], qa ra2 kr2 4 (va_up (va_up (va_up (va_up (fun _ => none) 0 (some (fB 0))) 1 (some fa)) 2 (some (fB 2))) 3 (some (fB 3))), oc fa 3 [.int ee, .ref (ad 1), .ref (ad 2), .ref (ad 3), .ref (ad 4), .ref (ad 5), .int n0, .int sd, .int 1]] sz) [oc oa 7 [.ref pa, .ref ba, .ref ka, .ref xa, .ref ra1, .ref ra2], qa ra2 kr2 4 (va_up (va_up (va_up (va_up (fun _ => none) 0 (some (fB 0))) 1 (some fa)) 2 (some (fB 2))) 3 (some (fB 3))), oc fa 3 [.int ee, .ref (ad 1), .ref (ad 2), .ref (ad 3), .ref (ad 4), .ref (ad 5), .int n0, .int sd, .int 1]]) (va_A [oc oa 7 [.ref pa, .ref ba, .ref ka, .ref xa, .ref ra1, .ref ra2], qa ra2 kr2 4 (va_up (va_up (va_up (va_up (fun _ => none) 0 (some (fB 0))) 1 (some fa)) 2 (some (fB 2))) 3 (some (fB 3))), oc fa 3 [.int ee, .ref (ad 1), .ref (ad 2), .ref (ad 3), .ref (ad 4), .ref (ad 5), .int n0, .int sd, .int 1]] sz)) 0 0 (va_A [oc oa 7 [.ref pa, .ref ba, .ref ka, .ref xa, .ref ra1, .ref ra2], qa ra2 kr2 4 (va_up (va_up (va_up (va_up (fun _ => none) 0 (some (fB 0))) 1 (some fa)) 2 (some (fB 2))) 3 (some (fB 3))), oc fa 3 [.int ee, .ref (ad 1), .ref (ad 2), .ref (ad 3), .ref (ad 4), .ref (ad 5), .int n0, .int sd, .int 1]] sz) := by
  refine Met.ofW (cc := b_OM_foundByGraphs) (maxL := 3) (ret := (some (.object "OrderModels$OutcomeSet"))) (by decide) rfl ?_
  intro p e0 s m args below meth c s₁ B hml hv
  obtain ⟨rfl, hsz, hP, hK, hD0, hn⟩ := hv
  have hx := B.exec
  have hb := B.bytes
  have hr := B.returns
  have hw := fun w (h : w ∈ wt) => atoms_spec (ws := w_OM_foundByGraphs) B.pre w (List.mem_cons_of_mem _ h)
  have hown : s.vm.findClass R_OM = some m.cls := findClass_of_methodNamed B.named
  have hlocks := B.notSynchronized
  subst hsz
  have hD1 := hD0.self (sz := s.heap.size)
  generalize hAe : va_A [oc oa 7 [.ref pa, .ref ba, .ref ka, .ref xa, .ref ra1, .ref ra2], qa ra2 kr2 4 (va_up (va_up (va_up (va_up (fun _ => none) 0 (some (fB 0))) 1 (some fa)) 2 (some (fB 2))) 3 (some (fB 3))), oc fa 3 [.int ee, .ref (ad 1), .ref (ad 2), .ref (ad 3), .ref (ad 4), .ref (ad 5), .int n0, .int sd, .int 1]] s.heap.size = A at hD1 ⊢
  have hA : ∀ q : Nat, s.heap.size ≤ q → A q := fun q h => by rw [← hAe]; exact Or.inr h
  have hD : dd A [oa, ra2, fa] := dd_of hD1 rfl
  clear hAe hD0 hD1
  have hS : va_S A s.heap s.heap [] := va_S.rf
  replace hP : va_P (dC, dI) classes [oc oa 7 [.ref pa, .ref ba, .ref ka, .ref xa, .ref ra1, .ref ra2], qa ra2 kr2 4 (va_up (va_up (va_up (va_up (fun _ => none) 0 (some (fB 0))) 1 (some fa)) 2 (some (fB 2))) 3 (some (fB 3))), oc fa 3 [.int ee, .ref (ad 1), .ref (ad 2), .ref (ad 3), .ref (ad 4), .ref (ad 5), .int n0, .int sd, .int 1]] s.heap := hP
  have hl := lv_entry ([.ref oa, .int 1]) (n := 3) (Nat.le_of_ble_eq_true rfl)
  rw [lg_entry_eq]
  generalize (lg_sl ([.ref oa, .int 1]) ++ List.replicate (3 - (lg_sl ([.ref oa, .int 1])).length) Slot.unset).toArray = ls at hl ⊢
  replace hl : lv_has ls 3 [(0, .ref oa), (1, .int 1)] := hl
  refine lv_aload_n hx hb d_OM_foundByGraphs_0 rfl (lv_at hl 0 rfl) ?_
  refine va_get (D := (dC, dI)) (ci := 7) (v := .ref ra2) (C := R_OM) (T := F_OM) (N := 6) hx hb hw i_OM hown hK hP 0 rfl rfl 5 (by decide) (hw _ m_413) (fun _ h9 => h9) rfl d_OM_foundByGraphs_1 ?_
  refine lv_iload_n hx hb d_OM_foundByGraphs_4 rfl (lv_at hl 1 rfl) ?_
  refine va_aldq (D := (dC, dI)) hx hb hK hP 1 0 rfl rfl (i := 1) (vp_c (by decide)) d_OM_foundByGraphs_5 ?_
  refine tp_v (y := fa) (by rfl) ?_
  refine lv_astore_n (lv' := [(2, .ref fa), (0, .ref oa), (1, .int 1)]) hx hb d_OM_foundByGraphs_6 rfl hl (by decide) rfl ?_
  clear hl ls
  intro ls hl
  refine lv_aload_n hx hb d_OM_foundByGraphs_7 rfl (lv_at hl 0 rfl) ?_
  refine va_get (D := (dC, dI)) (ci := 3) (v := .int 1) (C := R_OutcomeSet) (T := F_OutcomeSet) (N := 9) hx hb hw i_OutcomeSet hown hK hP 2 rfl rfl 8 (by decide) (hw _ m_388) (fun _ h9 => h9) rfl d_OM_foundByGraphs_8 ?_
  refine lv_if_ne (tgt := 28) hx hb d_OM_foundByGraphs_11 (by decide) (fun c_1 => ?_) (fun c_1 => absurd c_1 (by decide))
  refine tp_pc (pc' := 28) (by rfl) ?_
  refine lv_aload_n hx hb d_OM_foundByGraphs_28 rfl (lv_at hl 0 rfl) ?_
  obtain ⟨hP9, hD9, -⟩ := cut3 (wc := [oc oa 7 [.ref pa, .ref ba, .ref ka, .ref xa, .ref ra1, .ref ra2], qa ra2 kr2 4 (va_up (va_up (va_up (va_up (fun _ => none) 0 (some (fB 0))) 1 (some fa)) 2 (some (fB 2))) 3 (some (fB 3))), oc fa 3 [.int ee, .ref (ad 1), .ref (ad 2), .ref (ad 3), .ref (ad 4), .ref (ad 5), .int n0, .int sd, .int 1]]) hP hD rfl hS hA [0, 1, 2] (by decide +kernel) rfl
  have hK9 := hK.sub (tys' := []) [] rfl
  refine W.widen (k := 0) (n := 0) (by exact Nat.le_refl _) (by exact Nat.le_refl _) ?_
  exact W.aret hx hb hr (by first | exact Or.inl ⟨_, rfl⟩ | exact Or.inr ⟨_, rfl⟩) (Or.inr ⟨_, rfl⟩) (fun t9 ht9 hW => ⟨⟨(), fa, rfl, trivial, rfl, by rw [ht9]; exact hP9, va_K.moved hW.alike hK9, hD9⟩, hS.F ht9⟩) hS.2.2 d_OM_foundByGraphs_29
set_option maxHeartbeats 4000000 in
set_option maxRecDepth 100000 in
theorem gen_OM_foundByGraphs_ready2 (l : Launch) (dC : Nat → ClassId) (dI : Nat → Nat → Nat) (oa pa ba ka xa ra1 ra2 : Nat) (kr1 kr2 : ClassId) (fA fB : Nat → Nat) (fa : Nat) (ad : Nat → Nat) (ee n0 sd : Int32)  (sz : Nat) : Met l y_OM_foundByGraphs w_OM_foundByGraphs ({ frames := 0, cells := 0, slots := 0, locals := 0 }) (va_Pc [.ref oa, .int 2] (fun U => U.heap.size = sz ∧ va_P (dC, dI) classes [oc oa 7 [.ref pa, .ref ba, .ref ka, .ref xa, .ref ra1, .ref ra2], qa ra2 kr2 4 (va_up (va_up (va_up (va_up (fun _ => none) 0 (some (fB 0))) 1 (some (fB 1))) 2 (some fa)) 3 (some (fB 3))), oc fa 3 [.int ee, .ref (ad 1), .ref (ad 2), .ref (ad 3), .ref (ad 4), .ref (ad 5), .int n0, .int sd, .int 1]] U.heap ∧ va_K (dC, dI) classes [(kr2, .object "OrderModels$OutcomeSet")] U ∧ va_D (fun _ => True) [oc oa 7 [.ref pa, .ref ba, .ref ka, .ref xa, .ref ra1, .ref ra2], qa ra2 kr2 4 (va_up (va_up (va_up (va_up (fun _ => none) 0 (some (fB 0))) 1 (some (fB 1))) 2 (some fa)) 3 (some (fB 3))), oc fa 3 [.int ee, .ref (ad 1), .ref (ad 2), .ref (ad 3), .ref (ad 4), .ref (ad 5), .int n0, .int sd, .int 1]] ∧ nw U)) (va_Qr (fun _ : Unit => True) (fun _ a t9 => a = fa ∧ va_P (dC, dI) classes [oc oa 7 [.ref pa, .ref ba, .ref ka, .ref xa, .ref ra1, .ref ra2], qa ra2 kr2 4 (va_up (va_up (va_up (va_up (fun _ => none) 0 (some (fB 0))) 1 (some (fB 1))) 2 (some fa)) 3 (some (fB 3))), oc fa 3 [.int ee, .ref (ad 1), .ref (ad 2), .ref (ad 3), .ref (ad 4), .ref (ad 5), .int n0, .int sd, .int 1]] t9.heap ∧ va_K (dC, dI) classes [] t9 ∧ va_D (va_A [oc oa 7 [.ref pa, .ref ba, .ref ka, .ref xa, .ref ra1, .ref ra2], qa ra2 kr2 4 (va_up (va_up (va_up (va_up (fun _ => none) 0 (some (fB 0))) 1 (some (fB 1))) 2 (some fa)) 3 (some (fB 3))), oc fa 3 [.int ee, .ref (ad 1), .ref (ad 2), .ref (ad 3), .ref (ad 4), .ref (ad 5), .int n0, .int sd, .int 1]] sz) [oc oa 7 [.ref pa, .ref ba, .ref ka, .ref xa, .ref ra1, .ref ra2], qa ra2 kr2 4 (va_up (va_up (va_up (va_up (fun _ => none) 0 (some (fB 0))) 1 (some (fB 1))) 2 (some fa)) 3 (some (fB 3))), oc fa 3 [.int ee, .ref (ad 1), .ref (ad 2), .ref (ad 3), .ref (ad 4), .ref (ad 5), .int n0, .int sd, .int 1]]) (va_A [oc oa 7 [.ref pa, .ref ba, .ref ka, .ref xa, .ref ra1, .ref ra2], qa ra2 kr2 4 (va_up (va_up (va_up (va_up (fun _ => none) 0 (some (fB 0))) 1 (some (fB 1))) 2 (some fa)) 3 (some (fB 3))), oc fa 3 [.int ee, .ref (ad 1), .ref (ad 2), .ref (ad 3), .ref (ad 4), .ref (ad 5), .int n0, .int sd, .int 1]] sz)) 0 0 (va_A [oc oa 7 [.ref pa, .ref ba, .ref ka, .ref xa, .ref ra1, .ref ra2], qa ra2 kr2 4 (va_up (va_up (va_up (va_up (fun _ => none) 0 (some (fB 0))) 1 (some (fB 1))) 2 (some fa)) 3 (some (fB 3))), oc fa 3 [.int ee, .ref (ad 1), .ref (ad 2), .ref (ad 3), .ref (ad 4), .ref (ad 5), .int n0, .int sd, .int 1]] sz) := by
  refine Met.ofW (cc := b_OM_foundByGraphs) (maxL := 3) (ret := (some (.object "OrderModels$OutcomeSet"))) (by decide) rfl ?_
  intro p e0 s m args below meth c s₁ B hml hv
  obtain ⟨rfl, hsz, hP, hK, hD0, hn⟩ := hv
  have hx := B.exec
  have hb := B.bytes
  have hr := B.returns
  have hw := fun w (h : w ∈ wt) => atoms_spec (ws := w_OM_foundByGraphs) B.pre w (List.mem_cons_of_mem _ h)
  have hown : s.vm.findClass R_OM = some m.cls := findClass_of_methodNamed B.named
  have hlocks := B.notSynchronized
  subst hsz
  have hD1 := hD0.self (sz := s.heap.size)
  generalize hAe : va_A [oc oa 7 [.ref pa, .ref ba, .ref ka, .ref xa, .ref ra1, .ref ra2], qa ra2 kr2 4 (va_up (va_up (va_up (va_up (fun _ => none) 0 (some (fB 0))) 1 (some (fB 1))) 2 (some fa)) 3 (some (fB 3))), oc fa 3 [.int ee, .ref (ad 1), .ref (ad 2), .ref (ad 3), .ref (ad 4), .ref (ad 5), .int n0, .int sd, .int 1]] s.heap.size = A at hD1 ⊢
  have hA : ∀ q : Nat, s.heap.size ≤ q → A q := fun q h => by rw [← hAe]; exact Or.inr h
  have hD : dd A [oa, ra2, fa] := dd_of hD1 rfl
  clear hAe hD0 hD1
  have hS : va_S A s.heap s.heap [] := va_S.rf
  replace hP : va_P (dC, dI) classes [oc oa 7 [.ref pa, .ref ba, .ref ka, .ref xa, .ref ra1, .ref ra2], qa ra2 kr2 4 (va_up (va_up (va_up (va_up (fun _ => none) 0 (some (fB 0))) 1 (some (fB 1))) 2 (some fa)) 3 (some (fB 3))), oc fa 3 [.int ee, .ref (ad 1), .ref (ad 2), .ref (ad 3), .ref (ad 4), .ref (ad 5), .int n0, .int sd, .int 1]] s.heap := hP
  have hl := lv_entry ([.ref oa, .int 2]) (n := 3) (Nat.le_of_ble_eq_true rfl)
  rw [lg_entry_eq]
  generalize (lg_sl ([.ref oa, .int 2]) ++ List.replicate (3 - (lg_sl ([.ref oa, .int 2])).length) Slot.unset).toArray = ls at hl ⊢
  replace hl : lv_has ls 3 [(0, .ref oa), (1, .int 2)] := hl
  refine lv_aload_n hx hb d_OM_foundByGraphs_0 rfl (lv_at hl 0 rfl) ?_
  refine va_get (D := (dC, dI)) (ci := 7) (v := .ref ra2) (C := R_OM) (T := F_OM) (N := 6) hx hb hw i_OM hown hK hP 0 rfl rfl 5 (by decide) (hw _ m_413) (fun _ h9 => h9) rfl d_OM_foundByGraphs_1 ?_
  refine lv_iload_n hx hb d_OM_foundByGraphs_4 rfl (lv_at hl 1 rfl) ?_
  refine va_aldq (D := (dC, dI)) hx hb hK hP 1 0 rfl rfl (i := 2) (vp_c (by decide)) d_OM_foundByGraphs_5 ?_
  refine tp_v (y := fa) (by rfl) ?_
  refine lv_astore_n (lv' := [(2, .ref fa), (0, .ref oa), (1, .int 2)]) hx hb d_OM_foundByGraphs_6 rfl hl (by decide) rfl ?_
  clear hl ls
  intro ls hl
  refine lv_aload_n hx hb d_OM_foundByGraphs_7 rfl (lv_at hl 0 rfl) ?_
  refine va_get (D := (dC, dI)) (ci := 3) (v := .int 1) (C := R_OutcomeSet) (T := F_OutcomeSet) (N := 9) hx hb hw i_OutcomeSet hown hK hP 2 rfl rfl 8 (by decide) (hw _ m_388) (fun _ h9 => h9) rfl d_OM_foundByGraphs_8 ?_
  refine lv_if_ne (tgt := 28) hx hb d_OM_foundByGraphs_11 (by decide) (fun c_1 => ?_) (fun c_1 => absurd c_1 (by decide))
  refine tp_pc (pc' := 28) (by rfl) ?_
  refine lv_aload_n hx hb d_OM_foundByGraphs_28 rfl (lv_at hl 0 rfl) ?_
  obtain ⟨hP9, hD9, -⟩ := cut3 (wc := [oc oa 7 [.ref pa, .ref ba, .ref ka, .ref xa, .ref ra1, .ref ra2], qa ra2 kr2 4 (va_up (va_up (va_up (va_up (fun _ => none) 0 (some (fB 0))) 1 (some (fB 1))) 2 (some fa)) 3 (some (fB 3))), oc fa 3 [.int ee, .ref (ad 1), .ref (ad 2), .ref (ad 3), .ref (ad 4), .ref (ad 5), .int n0, .int sd, .int 1]]) hP hD rfl hS hA [0, 1, 2] (by decide +kernel) rfl
  have hK9 := hK.sub (tys' := []) [] rfl
  refine W.widen (k := 0) (n := 0) (by exact Nat.le_refl _) (by exact Nat.le_refl _) ?_
  exact W.aret hx hb hr (by first | exact Or.inl ⟨_, rfl⟩ | exact Or.inr ⟨_, rfl⟩) (Or.inr ⟨_, rfl⟩) (fun t9 ht9 hW => ⟨⟨(), fa, rfl, trivial, rfl, by rw [ht9]; exact hP9, va_K.moved hW.alike hK9, hD9⟩, hS.F ht9⟩) hS.2.2 d_OM_foundByGraphs_29
set_option maxHeartbeats 4000000 in
set_option maxRecDepth 100000 in
theorem gen_OM_foundByGraphs_ready3 (l : Launch) (dC : Nat → ClassId) (dI : Nat → Nat → Nat) (oa pa ba ka xa ra1 ra2 : Nat) (kr1 kr2 : ClassId) (fA fB : Nat → Nat) (fa : Nat) (ad : Nat → Nat) (ee n0 sd : Int32)  (sz : Nat) : Met l y_OM_foundByGraphs w_OM_foundByGraphs ({ frames := 0, cells := 0, slots := 0, locals := 0 }) (va_Pc [.ref oa, .int 3] (fun U => U.heap.size = sz ∧ va_P (dC, dI) classes [oc oa 7 [.ref pa, .ref ba, .ref ka, .ref xa, .ref ra1, .ref ra2], qa ra2 kr2 4 (va_up (va_up (va_up (va_up (fun _ => none) 0 (some (fB 0))) 1 (some (fB 1))) 2 (some (fB 2))) 3 (some fa)), oc fa 3 [.int ee, .ref (ad 1), .ref (ad 2), .ref (ad 3), .ref (ad 4), .ref (ad 5), .int n0, .int sd, .int 1]] U.heap ∧ va_K (dC, dI) classes [(kr2, .object "OrderModels$OutcomeSet")] U ∧ va_D (fun _ => True) [oc oa 7 [.ref pa, .ref ba, .ref ka, .ref xa, .ref ra1, .ref ra2], qa ra2 kr2 4 (va_up (va_up (va_up (va_up (fun _ => none) 0 (some (fB 0))) 1 (some (fB 1))) 2 (some (fB 2))) 3 (some fa)), oc fa 3 [.int ee, .ref (ad 1), .ref (ad 2), .ref (ad 3), .ref (ad 4), .ref (ad 5), .int n0, .int sd, .int 1]] ∧ nw U)) (va_Qr (fun _ : Unit => True) (fun _ a t9 => a = fa ∧ va_P (dC, dI) classes [oc oa 7 [.ref pa, .ref ba, .ref ka, .ref xa, .ref ra1, .ref ra2], qa ra2 kr2 4 (va_up (va_up (va_up (va_up (fun _ => none) 0 (some (fB 0))) 1 (some (fB 1))) 2 (some (fB 2))) 3 (some fa)), oc fa 3 [.int ee, .ref (ad 1), .ref (ad 2), .ref (ad 3), .ref (ad 4), .ref (ad 5), .int n0, .int sd, .int 1]] t9.heap ∧ va_K (dC, dI) classes [] t9 ∧ va_D (va_A [oc oa 7 [.ref pa, .ref ba, .ref ka, .ref xa, .ref ra1, .ref ra2], qa ra2 kr2 4 (va_up (va_up (va_up (va_up (fun _ => none) 0 (some (fB 0))) 1 (some (fB 1))) 2 (some (fB 2))) 3 (some fa)), oc fa 3 [.int ee, .ref (ad 1), .ref (ad 2), .ref (ad 3), .ref (ad 4), .ref (ad 5), .int n0, .int sd, .int 1]] sz) [oc oa 7 [.ref pa, .ref ba, .ref ka, .ref xa, .ref ra1, .ref ra2], qa ra2 kr2 4 (va_up (va_up (va_up (va_up (fun _ => none) 0 (some (fB 0))) 1 (some (fB 1))) 2 (some (fB 2))) 3 (some fa)), oc fa 3 [.int ee, .ref (ad 1), .ref (ad 2), .ref (ad 3), .ref (ad 4), .ref (ad 5), .int n0, .int sd, .int 1]]) (va_A [oc oa 7 [.ref pa, .ref ba, .ref ka, .ref xa, .ref ra1, .ref ra2], qa ra2 kr2 4 (va_up (va_up (va_up (va_up (fun _ => none) 0 (some (fB 0))) 1 (some (fB 1))) 2 (some (fB 2))) 3 (some fa)), oc fa 3 [.int ee, .ref (ad 1), .ref (ad 2), .ref (ad 3), .ref (ad 4), .ref (ad 5), .int n0, .int sd, .int 1]] sz)) 0 0 (va_A [oc oa 7 [.ref pa, .ref ba, .ref ka, .ref xa, .ref ra1, .ref ra2], qa ra2 kr2 4 (va_up (va_up (va_up (va_up (fun _ => none) 0 (some (fB 0))) 1 (some (fB 1))) 2 (some (fB 2))) 3 (some fa)), oc fa 3 [.int ee, .ref (ad 1), .ref (ad 2), .ref (ad 3), .ref (ad 4), .ref (ad 5), .int n0, .int sd, .int 1]] sz) := by
  refine Met.ofW (cc := b_OM_foundByGraphs) (maxL := 3) (ret := (some (.object "OrderModels$OutcomeSet"))) (by decide) rfl ?_
  intro p e0 s m args below meth c s₁ B hml hv
  obtain ⟨rfl, hsz, hP, hK, hD0, hn⟩ := hv
  have hx := B.exec
  have hb := B.bytes
  have hr := B.returns
  have hw := fun w (h : w ∈ wt) => atoms_spec (ws := w_OM_foundByGraphs) B.pre w (List.mem_cons_of_mem _ h)
  have hown : s.vm.findClass R_OM = some m.cls := findClass_of_methodNamed B.named
  have hlocks := B.notSynchronized
  subst hsz
  have hD1 := hD0.self (sz := s.heap.size)
  generalize hAe : va_A [oc oa 7 [.ref pa, .ref ba, .ref ka, .ref xa, .ref ra1, .ref ra2], qa ra2 kr2 4 (va_up (va_up (va_up (va_up (fun _ => none) 0 (some (fB 0))) 1 (some (fB 1))) 2 (some (fB 2))) 3 (some fa)), oc fa 3 [.int ee, .ref (ad 1), .ref (ad 2), .ref (ad 3), .ref (ad 4), .ref (ad 5), .int n0, .int sd, .int 1]] s.heap.size = A at hD1 ⊢
  have hA : ∀ q : Nat, s.heap.size ≤ q → A q := fun q h => by rw [← hAe]; exact Or.inr h
  have hD : dd A [oa, ra2, fa] := dd_of hD1 rfl
  clear hAe hD0 hD1
  have hS : va_S A s.heap s.heap [] := va_S.rf
  replace hP : va_P (dC, dI) classes [oc oa 7 [.ref pa, .ref ba, .ref ka, .ref xa, .ref ra1, .ref ra2], qa ra2 kr2 4 (va_up (va_up (va_up (va_up (fun _ => none) 0 (some (fB 0))) 1 (some (fB 1))) 2 (some (fB 2))) 3 (some fa)), oc fa 3 [.int ee, .ref (ad 1), .ref (ad 2), .ref (ad 3), .ref (ad 4), .ref (ad 5), .int n0, .int sd, .int 1]] s.heap := hP
  have hl := lv_entry ([.ref oa, .int 3]) (n := 3) (Nat.le_of_ble_eq_true rfl)
  rw [lg_entry_eq]
  generalize (lg_sl ([.ref oa, .int 3]) ++ List.replicate (3 - (lg_sl ([.ref oa, .int 3])).length) Slot.unset).toArray = ls at hl ⊢
  replace hl : lv_has ls 3 [(0, .ref oa), (1, .int 3)] := hl
  refine lv_aload_n hx hb d_OM_foundByGraphs_0 rfl (lv_at hl 0 rfl) ?_
  refine va_get (D := (dC, dI)) (ci := 7) (v := .ref ra2) (C := R_OM) (T := F_OM) (N := 6) hx hb hw i_OM hown hK hP 0 rfl rfl 5 (by decide) (hw _ m_413) (fun _ h9 => h9) rfl d_OM_foundByGraphs_1 ?_
  refine lv_iload_n hx hb d_OM_foundByGraphs_4 rfl (lv_at hl 1 rfl) ?_
  refine va_aldq (D := (dC, dI)) hx hb hK hP 1 0 rfl rfl (i := 3) (vp_c (by decide)) d_OM_foundByGraphs_5 ?_
  refine tp_v (y := fa) (by rfl) ?_
  refine lv_astore_n (lv' := [(2, .ref fa), (0, .ref oa), (1, .int 3)]) hx hb d_OM_foundByGraphs_6 rfl hl (by decide) rfl ?_
  clear hl ls
  intro ls hl
  refine lv_aload_n hx hb d_OM_foundByGraphs_7 rfl (lv_at hl 0 rfl) ?_
  refine va_get (D := (dC, dI)) (ci := 3) (v := .int 1) (C := R_OutcomeSet) (T := F_OutcomeSet) (N := 9) hx hb hw i_OutcomeSet hown hK hP 2 rfl rfl 8 (by decide) (hw _ m_388) (fun _ h9 => h9) rfl d_OM_foundByGraphs_8 ?_
  refine lv_if_ne (tgt := 28) hx hb d_OM_foundByGraphs_11 (by decide) (fun c_1 => ?_) (fun c_1 => absurd c_1 (by decide))
  refine tp_pc (pc' := 28) (by rfl) ?_
  refine lv_aload_n hx hb d_OM_foundByGraphs_28 rfl (lv_at hl 0 rfl) ?_
  obtain ⟨hP9, hD9, -⟩ := cut3 (wc := [oc oa 7 [.ref pa, .ref ba, .ref ka, .ref xa, .ref ra1, .ref ra2], qa ra2 kr2 4 (va_up (va_up (va_up (va_up (fun _ => none) 0 (some (fB 0))) 1 (some (fB 1))) 2 (some (fB 2))) 3 (some fa)), oc fa 3 [.int ee, .ref (ad 1), .ref (ad 2), .ref (ad 3), .ref (ad 4), .ref (ad 5), .int n0, .int sd, .int 1]]) hP hD rfl hS hA [0, 1, 2] (by decide +kernel) rfl
  have hK9 := hK.sub (tys' := []) [] rfl
  refine W.widen (k := 0) (n := 0) (by exact Nat.le_refl _) (by exact Nat.le_refl _) ?_
  exact W.aret hx hb hr (by first | exact Or.inl ⟨_, rfl⟩ | exact Or.inr ⟨_, rfl⟩) (Or.inr ⟨_, rfl⟩) (fun t9 ht9 hW => ⟨⟨(), fa, rfl, trivial, rfl, by rw [ht9]; exact hP9, va_K.moved hW.alike hK9, hD9⟩, hS.F ht9⟩) hS.2.2 d_OM_foundByGraphs_29
