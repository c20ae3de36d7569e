theorem nw_start {s : State} {b : Nat} (hts : ∀ w ∈ lw_tbl, w.before #[Value.ref b] s = true) : nw s := by
  refine ⟨?_, ?_, ?_, ?_⟩
  · intro q hq
    obtain ⟨i, hi⟩ := List.mem_iff_getElem?.mp hq
    match i, hi with
    | 0, hi => cases hi; exact va_Nw.of (w := Cond.methodLinkNest R_OM 11 y_Program_init "OrderModels") rfl (hts (Cond.methodLinkNest R_OM 11 y_Program_init "OrderModels") (List.mem_of_getElem? (i := 124) (by decide +kernel)))
    | 1, hi => cases hi; exact va_Nw.of (w := Cond.methodLinkNest R_OM 23 y_StateSet_init "OrderModels") rfl (hts (Cond.methodLinkNest R_OM 23 y_StateSet_init "OrderModels") (List.mem_of_getElem? (i := 226) (by decide +kernel)))
    | 2, hi => cases hi; exact va_Nw.of (w := Cond.methodLinkNest R_BufferWalk 146 y_OM_isIn "OrderModels") rfl (hts (Cond.methodLinkNest R_BufferWalk 146 y_OM_isIn "OrderModels") (List.mem_of_getElem? (i := 663) (by decide +kernel)))
    | 3, hi => cases hi; exact va_Nw.of (w := Cond.methodLinkNest R_GraphSearch 166 y_OM_isIn "OrderModels") rfl (hts (Cond.methodLinkNest R_GraphSearch 166 y_OM_isIn "OrderModels") (List.mem_of_getElem? (i := 786) (by decide +kernel)))
    | 4, hi => cases hi; exact va_Nw.of (w := Cond.methodLinkNest R_KnowledgeWalk 154 y_OM_isIn "OrderModels") rfl (hts (Cond.methodLinkNest R_KnowledgeWalk 154 y_OM_isIn "OrderModels") (List.mem_of_getElem? (i := 559) (by decide +kernel)))
    | 5, hi => cases hi; exact va_Nw.of (w := Cond.methodLinkNest R_Progress 67 y_OM_isIn "OrderModels") rfl (hts (Cond.methodLinkNest R_Progress 67 y_OM_isIn "OrderModels") (List.mem_of_getElem? (i := 777) (by decide +kernel)))
    | j + 6, hi => simp [wnM] at hi
  · exact va_AO.of (hts (.arrayOver (.object "OrderModels$OutcomeSet")) (List.mem_of_getElem? (i := 372) (by decide +kernel)))
  · exact va_Nw.of rfl (hts (.castable "[I" "java/lang/Cloneable") (List.mem_of_getElem? (i := 640) (by decide +kernel)))
  · exact va_Nw.of rfl (hts (.castable "[J" "java/lang/Cloneable") (List.mem_of_getElem? (i := 527) (by decide +kernel)))
