def R_Program : String := "OrderModels$Program"
def F_Program : u_T := fun k => match k with
  | 0 => ("OrderModels$Program", "lengths", "[I", true)
  | 1 => ("OrderModels$Program", "ids", "[I", true)
  | 2 => ("OrderModels$Program", "threadOf", "[I", true)
  | 3 => ("OrderModels$Program", "placeOf", "[I", true)
  | 4 => ("OrderModels$Program", "kindOf", "[I", true)
  | 5 => ("OrderModels$Program", "variableOf", "[I", true)
  | 6 => ("OrderModels$Program", "cellOf", "[I", true)
  | 7 => ("OrderModels$Program", "numberOf", "[I", true)
  | 8 => ("OrderModels$Program", "ofThread", "[I", true)
  | 9 => ("OrderModels$Program", "ofKind", "[I", true)
  | 10 => ("OrderModels$Program", "onVariable", "[I", true)
  | 11 => ("OrderModels$Program", "threads", "I", false)
  | _ => ("OrderModels$Program", "actions", "I", false)
def t_Program : Nat → FieldType := fun k => match k with
  | 0 => .array .int
  | 1 => .array .int
  | 2 => .array .int
  | 3 => .array .int
  | 4 => .array .int
  | 5 => .array .int
  | 6 => .array .int
  | 7 => .array .int
  | 8 => .array .int
  | 9 => .array .int
  | 10 => .array .int
  | 11 => .int
  | _ => .int
def R_Progress : String := "OrderModels$Progress"
def F_Progress : u_T := fun k => match k with
  | 0 => ("OrderModels$Progress", "program", "LOrderModels$Program;", true)
  | 1 => ("OrderModels$Progress", "places", "[I", true)
  | 2 => ("OrderModels$Progress", "registers", "[I", true)
  | 3 => ("OrderModels$Progress", "values", "[I", true)
  | 4 => ("OrderModels$Progress", "done", "I", false)
  | _ => ("OrderModels$Progress", "sources", "J", false)
def t_Progress : Nat → FieldType := fun k => match k with
  | 0 => .object "OrderModels$Program"
  | 1 => .array .int
  | 2 => .array .int
  | 3 => .array .int
  | 4 => .int
  | _ => .long
def R_StateSet : String := "OrderModels$StateSet"
def F_StateSet : u_T := fun k => match k with
  | 0 => ("OrderModels$StateSet", "keys", "[J", false)
  | 1 => ("OrderModels$StateSet", "slots", "[I", false)
  | 2 => ("OrderModels$StateSet", "size", "I", false)
  | _ => ("OrderModels$StateSet", "room", "I", false)
def t_StateSet : Nat → FieldType := fun k => match k with
  | 0 => .array .long
  | 1 => .array .int
  | 2 => .int
  | _ => .int
def R_OutcomeSet : String := "OrderModels$OutcomeSet"
def F_OutcomeSet : u_T := fun k => match k with
  | 0 => ("OrderModels$OutcomeSet", "stepsEach", "I", true)
  | 1 => ("OrderModels$OutcomeSet", "registers", "[J", false)
  | 2 => ("OrderModels$OutcomeSet", "variables", "[I", false)
  | 3 => ("OrderModels$OutcomeSet", "lengths", "[I", false)
  | 4 => ("OrderModels$OutcomeSet", "steps", "[I", false)
  | 5 => ("OrderModels$OutcomeSet", "order", "[I", false)
  | 6 => ("OrderModels$OutcomeSet", "size", "I", false)
  | 7 => ("OrderModels$OutcomeSet", "standing", "I", false)
  | _ => ("OrderModels$OutcomeSet", "ready", "Z", false)
def t_OutcomeSet : Nat → FieldType := fun k => match k with
  | 0 => .int
  | 1 => .array .long
  | 2 => .array .int
  | 3 => .array .int
  | 4 => .array .int
  | 5 => .array .int
  | 6 => .int
  | 7 => .int
  | _ => .boolean
def R_BufferWalk : String := "OrderModels$BufferWalk"
def F_BufferWalk : u_T := fun k => match k with
  | 0 => ("OrderModels$BufferWalk", "program", "LOrderModels$Program;", true)
  | 1 => ("OrderModels$BufferWalk", "progress", "LOrderModels$Progress;", true)
  | 2 => ("OrderModels$BufferWalk", "seen", "LOrderModels$StateSet;", true)
  | 3 => ("OrderModels$BufferWalk", "path", "[I", true)
  | 4 => ("OrderModels$BufferWalk", "racing", "[I", true)
  | 5 => ("OrderModels$BufferWalk", "found", "LOrderModels$OutcomeSet;", false)
  | 6 => ("OrderModels$BufferWalk", "model", "I", false)
  | 7 => ("OrderModels$BufferWalk", "memory", "I", false)
  | _ => ("OrderModels$BufferWalk", "held", "I", false)
def t_BufferWalk : Nat → FieldType := fun k => match k with
  | 0 => .object "OrderModels$Program"
  | 1 => .object "OrderModels$Progress"
  | 2 => .object "OrderModels$StateSet"
  | 3 => .array .int
  | 4 => .array .int
  | 5 => .object "OrderModels$OutcomeSet"
  | 6 => .int
  | 7 => .int
  | _ => .int
def R_KnowledgeWalk : String := "OrderModels$KnowledgeWalk"
def F_KnowledgeWalk : u_T := fun k => match k with
  | 0 => ("OrderModels$KnowledgeWalk", "program", "LOrderModels$Program;", true)
  | 1 => ("OrderModels$KnowledgeWalk", "progress", "LOrderModels$Progress;", true)
  | 2 => ("OrderModels$KnowledgeWalk", "seen", "LOrderModels$StateSet;", true)
  | 3 => ("OrderModels$KnowledgeWalk", "path", "[I", true)
  | 4 => ("OrderModels$KnowledgeWalk", "rows", "[I", true)
  | 5 => ("OrderModels$KnowledgeWalk", "sizes", "[I", true)
  | 6 => ("OrderModels$KnowledgeWalk", "learned", "[I", true)
  | 7 => ("OrderModels$KnowledgeWalk", "told", "[I", true)
  | _ => ("OrderModels$KnowledgeWalk", "found", "LOrderModels$OutcomeSet;", false)
def t_KnowledgeWalk : Nat → FieldType := fun k => match k with
  | 0 => .object "OrderModels$Program"
  | 1 => .object "OrderModels$Progress"
  | 2 => .object "OrderModels$StateSet"
  | 3 => .array .int
  | 4 => .array .int
  | 5 => .array .int
  | 6 => .array .int
  | 7 => .array .int
  | _ => .object "OrderModels$OutcomeSet"
def R_GraphSearch : String := "OrderModels$GraphSearch"
def F_GraphSearch : u_T := fun k => match k with
  | 0 => ("OrderModels$GraphSearch", "program", "LOrderModels$Program;", true)
  | 1 => ("OrderModels$GraphSearch", "progress", "LOrderModels$Progress;", true)
  | 2 => ("OrderModels$GraphSearch", "from", "[I", true)
  | 3 => ("OrderModels$GraphSearch", "waits", "[I", true)
  | 4 => ("OrderModels$GraphSearch", "taken", "[I", true)
  | 5 => ("OrderModels$GraphSearch", "own", "[I", true)
  | 6 => ("OrderModels$GraphSearch", "ownOnOne", "[I", true)
  | 7 => ("OrderModels$GraphSearch", "ownKept", "[I", true)
  | 8 => ("OrderModels$GraphSearch", "readers", "[I", true)
  | 9 => ("OrderModels$GraphSearch", "firstReaders", "[I", true)
  | 10 => ("OrderModels$GraphSearch", "lasts", "[I", true)
  | 11 => ("OrderModels$GraphSearch", "before", "[I", true)
  | 12 => ("OrderModels$GraphSearch", "outerBefore", "[I", true)
  | 13 => ("OrderModels$GraphSearch", "happens", "[I", true)
  | 14 => ("OrderModels$GraphSearch", "found", "LOrderModels$OutcomeSet;", false)
  | 15 => ("OrderModels$GraphSearch", "model", "I", false)
  | _ => ("OrderModels$GraphSearch", "members", "I", false)
def t_GraphSearch : Nat → FieldType := fun k => match k with
  | 0 => .object "OrderModels$Program"
  | 1 => .object "OrderModels$Progress"
  | 2 => .array .int
  | 3 => .array .int
  | 4 => .array .int
  | 5 => .array .int
  | 6 => .array .int
  | 7 => .array .int
  | 8 => .array .int
  | 9 => .array .int
  | 10 => .array .int
  | 11 => .array .int
  | 12 => .array .int
  | 13 => .array .int
  | 14 => .object "OrderModels$OutcomeSet"
  | 15 => .int
  | _ => .int
def R_OM : String := "OrderModels"
def F_OM : u_T := fun k => match k with
  | 0 => ("OrderModels", "program", "LOrderModels$Program;", true)
  | 1 => ("OrderModels", "bufferWalk", "LOrderModels$BufferWalk;", true)
  | 2 => ("OrderModels", "knowledgeWalk", "LOrderModels$KnowledgeWalk;", true)
  | 3 => ("OrderModels", "graphSearch", "LOrderModels$GraphSearch;", true)
  | 4 => ("OrderModels", "byRuns", "[LOrderModels$OutcomeSet;", true)
  | _ => ("OrderModels", "byGraphs", "[LOrderModels$OutcomeSet;", true)
def t_OM : Nat → FieldType := fun k => match k with
  | 0 => .object "OrderModels$Program"
  | 1 => .object "OrderModels$BufferWalk"
  | 2 => .object "OrderModels$KnowledgeWalk"
  | 3 => .object "OrderModels$GraphSearch"
  | 4 => .array (.object "OrderModels$OutcomeSet")
  | _ => .array (.object "OrderModels$OutcomeSet")
def R_Ref : String := "OrderModelsModel"
def F_Ref : u_T := fun k => match k with
  | 0 => ("OrderModelsModel", "threads", "I", false)
  | 1 => ("OrderModelsModel", "actions", "I", false)
  | 2 => ("OrderModelsModel", "sizes", "[I", true)
  | 3 => ("OrderModelsModel", "kinds", "[I", true)
  | 4 => ("OrderModelsModel", "variables", "[I", true)
  | 5 => ("OrderModelsModel", "registers", "[I", true)
  | 6 => ("OrderModelsModel", "values", "[I", true)
  | 7 => ("OrderModelsModel", "isFound", "[Z", true)
  | 8 => ("OrderModelsModel", "outcomeMany", "[I", true)
  | 9 => ("OrderModelsModel", "outcomes", "[S", true)
  | 10 => ("OrderModelsModel", "witnesses", "[S", true)
  | 11 => ("OrderModelsModel", "witnessSize", "[I", true)
  | 12 => ("OrderModelsModel", "order", "[I", true)
  | 13 => ("OrderModelsModel", "graphMany", "[I", true)
  | 14 => ("OrderModelsModel", "isRaced", "Z", false)
  | 15 => ("OrderModelsModel", "races", "[Z", true)
  | 16 => ("OrderModelsModel", "s", "[I", true)
  | 17 => ("OrderModelsModel", "kept", "[I", true)
  | 18 => ("OrderModelsModel", "steps", "[I", true)
  | 19 => ("OrderModelsModel", "model", "I", false)
  | 20 => ("OrderModelsModel", "wide", "I", false)
  | 21 => ("OrderModelsModel", "met", "[J", true)
  | 22 => ("OrderModelsModel", "metNext", "[I", true)
  | 23 => ("OrderModelsModel", "metFirst", "[I", true)
  | 24 => ("OrderModelsModel", "metMany", "I", false)
  | 25 => ("OrderModelsModel", "code", "[J", true)
  | 26 => ("OrderModelsModel", "codeBits", "I", false)
  | 27 => ("OrderModelsModel", "marksRaces", "Z", false)
  | 28 => ("OrderModelsModel", "now", "[I", true)
  | 29 => ("OrderModelsModel", "from", "[I", true)
  | 30 => ("OrderModelsModel", "happens", "[Z", true)
  | 31 => ("OrderModelsModel", "isDone", "[Z", true)
  | 32 => ("OrderModelsModel", "gives", "[I", true)
  | 33 => ("OrderModelsModel", "pc", "[I", true)
  | 34 => ("OrderModelsModel", "held", "[I", true)
  | 35 => ("OrderModelsModel", "list", "[I", true)
  | 36 => ("OrderModelsModel", "listed", "I", false)
  | 37 => ("OrderModelsModel", "graphModel", "I", false)
  | 38 => ("OrderModelsModel", "row", "[I", true)
  | 39 => ("OrderModelsModel", "rowSize", "[I", true)
  | 40 => ("OrderModelsModel", "number", "[I", true)
  | 41 => ("OrderModelsModel", "own", "[I", true)
  | 42 => ("OrderModelsModel", "reads", "[I", true)
  | 43 => ("OrderModelsModel", "before", "[I", true)
  | 44 => ("OrderModelsModel", "seen", "[I", true)
  | 45 => ("OrderModelsModel", "mask", "[I", true)
  | 46 => ("OrderModelsModel", "many", "I", false)
  | _ => ("OrderModelsModel", "hb", "[I", true)
def t_Ref : Nat → FieldType := fun k => match k with
  | 0 => .int
  | 1 => .int
  | 2 => .array .int
  | 3 => .array .int
  | 4 => .array .int
  | 5 => .array .int
  | 6 => .array .int
  | 7 => .array .boolean
  | 8 => .array .int
  | 9 => .array .short
  | 10 => .array .short
  | 11 => .array .int
  | 12 => .array .int
  | 13 => .array .int
  | 14 => .boolean
  | 15 => .array .boolean
  | 16 => .array .int
  | 17 => .array .int
  | 18 => .array .int
  | 19 => .int
  | 20 => .int
  | 21 => .array .long
  | 22 => .array .int
  | 23 => .array .int
  | 24 => .int
  | 25 => .array .long
  | 26 => .int
  | 27 => .boolean
  | 28 => .array .int
  | 29 => .array .int
  | 30 => .array .boolean
  | 31 => .array .boolean
  | 32 => .array .int
  | 33 => .array .int
  | 34 => .array .int
  | 35 => .array .int
  | 36 => .int
  | 37 => .int
  | 38 => .array .int
  | 39 => .array .int
  | 40 => .array .int
  | 41 => .array .int
  | 42 => .array .int
  | 43 => .array .int
  | 44 => .array .int
  | 45 => .array .int
  | 46 => .int
  | _ => .array .int
abbrev classes : List vw_C := [(R_Program, F_Program, 13), (R_Progress, F_Progress, 6), (R_StateSet, F_StateSet, 4), (R_OutcomeSet, F_OutcomeSet, 9), (R_BufferWalk, F_BufferWalk, 9), (R_KnowledgeWalk, F_KnowledgeWalk, 9), (R_GraphSearch, F_GraphSearch, 17), (R_OM, F_OM, 6), (R_Ref, F_Ref, 48)]
theorem n_Program : ∀ a, a < 13 → ∀ b, b < 13 → a ≠ b → (F_Program a).2.1 ≠ (F_Program b).2.1 := by decide +kernel
theorem t_Program_ok : ∀ k, k < 13 → parseFieldDescriptor (F_Program k).2.2.1 = some (t_Program k) := by decide +kernel
theorem i_Program : ∀ w ∈ u_ws R_Program F_Program 13, w ∈ wt := by
  intro w hw
  obtain ⟨k, hk, rfl⟩ := List.mem_map.mp hw
  have hk := List.mem_range.mp hk
  revert hk
  match k with
  | 0 => exact fun _ => wt_in 169 (by decide +kernel) (by decide +kernel)
  | 1 => exact fun _ => wt_in 171 (by decide +kernel) (by decide +kernel)
  | 2 => exact fun _ => wt_in 173 (by decide +kernel) (by decide +kernel)
  | 3 => exact fun _ => wt_in 175 (by decide +kernel) (by decide +kernel)
  | 4 => exact fun _ => wt_in 177 (by decide +kernel) (by decide +kernel)
  | 5 => exact fun _ => wt_in 179 (by decide +kernel) (by decide +kernel)
  | 6 => exact fun _ => wt_in 181 (by decide +kernel) (by decide +kernel)
  | 7 => exact fun _ => wt_in 183 (by decide +kernel) (by decide +kernel)
  | 8 => exact fun _ => wt_in 185 (by decide +kernel) (by decide +kernel)
  | 9 => exact fun _ => wt_in 187 (by decide +kernel) (by decide +kernel)
  | 10 => exact fun _ => wt_in 189 (by decide +kernel) (by decide +kernel)
  | 11 => exact fun _ => wt_in 191 (by decide +kernel) (by decide +kernel)
  | 12 => exact fun _ => wt_in 193 (by decide +kernel) (by decide +kernel)
  | k + 13 => exact fun h => absurd h (by omega)
theorem z_Program : ∀ j, j < 13 → defaultValue (t_Program j) = vp_V [.null, .null, .null, .null, .null, .null, .null, .null, .null, .null, .null, .int 0, .int 0] j := by
  intro j hj
  match j with
  | 0 => rfl
  | 1 => rfl
  | 2 => rfl
  | 3 => rfl
  | 4 => rfl
  | 5 => rfl
  | 6 => rfl
  | 7 => rfl
  | 8 => rfl
  | 9 => rfl
  | 10 => rfl
  | 11 => rfl
  | 12 => rfl
  | k + 13 => exact absurd hj (by omega)
theorem n_Progress : ∀ a, a < 6 → ∀ b, b < 6 → a ≠ b → (F_Progress a).2.1 ≠ (F_Progress b).2.1 := by decide +kernel
theorem t_Progress_ok : ∀ k, k < 6 → parseFieldDescriptor (F_Progress k).2.2.1 = some (t_Progress k) := by decide +kernel
theorem i_Progress : ∀ w ∈ u_ws R_Progress F_Progress 6, w ∈ wt := by
  intro w hw
  obtain ⟨k, hk, rfl⟩ := List.mem_map.mp hw
  have hk := List.mem_range.mp hk
  revert hk
  match k with
  | 0 => exact fun _ => wt_in 211 (by decide +kernel) (by decide +kernel)
  | 1 => exact fun _ => wt_in 213 (by decide +kernel) (by decide +kernel)
  | 2 => exact fun _ => wt_in 215 (by decide +kernel) (by decide +kernel)
  | 3 => exact fun _ => wt_in 217 (by decide +kernel) (by decide +kernel)
  | 4 => exact fun _ => wt_in 219 (by decide +kernel) (by decide +kernel)
  | 5 => exact fun _ => wt_in 221 (by decide +kernel) (by decide +kernel)
  | k + 6 => exact fun h => absurd h (by omega)
theorem z_Progress : ∀ j, j < 6 → defaultValue (t_Progress j) = vp_V [.null, .null, .null, .null, .int 0, .long 0] j := by
  intro j hj
  match j with
  | 0 => rfl
  | 1 => rfl
  | 2 => rfl
  | 3 => rfl
  | 4 => rfl
  | 5 => rfl
  | k + 6 => exact absurd hj (by omega)
theorem n_StateSet : ∀ a, a < 4 → ∀ b, b < 4 → a ≠ b → (F_StateSet a).2.1 ≠ (F_StateSet b).2.1 := by decide +kernel
theorem t_StateSet_ok : ∀ k, k < 4 → parseFieldDescriptor (F_StateSet k).2.2.1 = some (t_StateSet k) := by decide +kernel
theorem i_StateSet : ∀ w ∈ u_ws R_StateSet F_StateSet 4, w ∈ wt := by
  intro w hw
  obtain ⟨k, hk, rfl⟩ := List.mem_map.mp hw
  have hk := List.mem_range.mp hk
  revert hk
  match k with
  | 0 => exact fun _ => wt_in 234 (by decide +kernel) (by decide +kernel)
  | 1 => exact fun _ => wt_in 236 (by decide +kernel) (by decide +kernel)
  | 2 => exact fun _ => wt_in 238 (by decide +kernel) (by decide +kernel)
  | 3 => exact fun _ => wt_in 240 (by decide +kernel) (by decide +kernel)
  | k + 4 => exact fun h => absurd h (by omega)
theorem z_StateSet : ∀ j, j < 4 → defaultValue (t_StateSet j) = vp_V [.null, .null, .int 0, .int 0] j := by
  intro j hj
  match j with
  | 0 => rfl
  | 1 => rfl
  | 2 => rfl
  | 3 => rfl
  | k + 4 => exact absurd hj (by omega)
theorem n_OutcomeSet : ∀ a, a < 9 → ∀ b, b < 9 → a ≠ b → (F_OutcomeSet a).2.1 ≠ (F_OutcomeSet b).2.1 := by decide +kernel
theorem t_OutcomeSet_ok : ∀ k, k < 9 → parseFieldDescriptor (F_OutcomeSet k).2.2.1 = some (t_OutcomeSet k) := by decide +kernel
theorem i_OutcomeSet : ∀ w ∈ u_ws R_OutcomeSet F_OutcomeSet 9, w ∈ wt := by
  intro w hw
  obtain ⟨k, hk, rfl⟩ := List.mem_map.mp hw
  have hk := List.mem_range.mp hk
  revert hk
  match k with
  | 0 => exact fun _ => wt_in 389 (by decide +kernel) (by decide +kernel)
  | 1 => exact fun _ => wt_in 391 (by decide +kernel) (by decide +kernel)
  | 2 => exact fun _ => wt_in 393 (by decide +kernel) (by decide +kernel)
  | 3 => exact fun _ => wt_in 395 (by decide +kernel) (by decide +kernel)
  | 4 => exact fun _ => wt_in 397 (by decide +kernel) (by decide +kernel)
  | 5 => exact fun _ => wt_in 399 (by decide +kernel) (by decide +kernel)
  | 6 => exact fun _ => wt_in 401 (by decide +kernel) (by decide +kernel)
  | 7 => exact fun _ => wt_in 403 (by decide +kernel) (by decide +kernel)
  | 8 => exact fun _ => wt_in 405 (by decide +kernel) (by decide +kernel)
  | k + 9 => exact fun h => absurd h (by omega)
theorem z_OutcomeSet : ∀ j, j < 9 → defaultValue (t_OutcomeSet j) = vp_V [.int 0, .null, .null, .null, .null, .null, .int 0, .int 0, .int 0] j := by
  intro j hj
  match j with
  | 0 => rfl
  | 1 => rfl
  | 2 => rfl
  | 3 => rfl
  | 4 => rfl
  | 5 => rfl
  | 6 => rfl
  | 7 => rfl
  | 8 => rfl
  | k + 9 => exact absurd hj (by omega)
theorem n_BufferWalk : ∀ a, a < 9 → ∀ b, b < 9 → a ≠ b → (F_BufferWalk a).2.1 ≠ (F_BufferWalk b).2.1 := by decide +kernel
theorem t_BufferWalk_ok : ∀ k, k < 9 → parseFieldDescriptor (F_BufferWalk k).2.2.1 = some (t_BufferWalk k) := by decide +kernel
theorem i_BufferWalk : ∀ w ∈ u_ws R_BufferWalk F_BufferWalk 9, w ∈ wt := by
  intro w hw
  obtain ⟨k, hk, rfl⟩ := List.mem_map.mp hw
  have hk := List.mem_range.mp hk
  revert hk
  match k with
  | 0 => exact fun _ => wt_in 260 (by decide +kernel) (by decide +kernel)
  | 1 => exact fun _ => wt_in 262 (by decide +kernel) (by decide +kernel)
  | 2 => exact fun _ => wt_in 264 (by decide +kernel) (by decide +kernel)
  | 3 => exact fun _ => wt_in 266 (by decide +kernel) (by decide +kernel)
  | 4 => exact fun _ => wt_in 268 (by decide +kernel) (by decide +kernel)
  | 5 => exact fun _ => wt_in 270 (by decide +kernel) (by decide +kernel)
  | 6 => exact fun _ => wt_in 272 (by decide +kernel) (by decide +kernel)
  | 7 => exact fun _ => wt_in 274 (by decide +kernel) (by decide +kernel)
  | 8 => exact fun _ => wt_in 276 (by decide +kernel) (by decide +kernel)
  | k + 9 => exact fun h => absurd h (by omega)
theorem z_BufferWalk : ∀ j, j < 9 → defaultValue (t_BufferWalk j) = vp_V [.null, .null, .null, .null, .null, .null, .int 0, .int 0, .int 0] j := by
  intro j hj
  match j with
  | 0 => rfl
  | 1 => rfl
  | 2 => rfl
  | 3 => rfl
  | 4 => rfl
  | 5 => rfl
  | 6 => rfl
  | 7 => rfl
  | 8 => rfl
  | k + 9 => exact absurd hj (by omega)
theorem n_KnowledgeWalk : ∀ a, a < 9 → ∀ b, b < 9 → a ≠ b → (F_KnowledgeWalk a).2.1 ≠ (F_KnowledgeWalk b).2.1 := by decide +kernel
theorem t_KnowledgeWalk_ok : ∀ k, k < 9 → parseFieldDescriptor (F_KnowledgeWalk k).2.2.1 = some (t_KnowledgeWalk k) := by decide +kernel
theorem i_KnowledgeWalk : ∀ w ∈ u_ws R_KnowledgeWalk F_KnowledgeWalk 9, w ∈ wt := by
  intro w hw
  obtain ⟨k, hk, rfl⟩ := List.mem_map.mp hw
  have hk := List.mem_range.mp hk
  revert hk
  match k with
  | 0 => exact fun _ => wt_in 294 (by decide +kernel) (by decide +kernel)
  | 1 => exact fun _ => wt_in 296 (by decide +kernel) (by decide +kernel)
  | 2 => exact fun _ => wt_in 298 (by decide +kernel) (by decide +kernel)
  | 3 => exact fun _ => wt_in 300 (by decide +kernel) (by decide +kernel)
  | 4 => exact fun _ => wt_in 302 (by decide +kernel) (by decide +kernel)
  | 5 => exact fun _ => wt_in 304 (by decide +kernel) (by decide +kernel)
  | 6 => exact fun _ => wt_in 306 (by decide +kernel) (by decide +kernel)
  | 7 => exact fun _ => wt_in 308 (by decide +kernel) (by decide +kernel)
  | 8 => exact fun _ => wt_in 310 (by decide +kernel) (by decide +kernel)
  | k + 9 => exact fun h => absurd h (by omega)
theorem z_KnowledgeWalk : ∀ j, j < 9 → defaultValue (t_KnowledgeWalk j) = vp_V [.null, .null, .null, .null, .null, .null, .null, .null, .null] j := by
  intro j hj
  match j with
  | 0 => rfl
  | 1 => rfl
  | 2 => rfl
  | 3 => rfl
  | 4 => rfl
  | 5 => rfl
  | 6 => rfl
  | 7 => rfl
  | 8 => rfl
  | k + 9 => exact absurd hj (by omega)
theorem n_GraphSearch : ∀ a, a < 17 → ∀ b, b < 17 → a ≠ b → (F_GraphSearch a).2.1 ≠ (F_GraphSearch b).2.1 := by decide +kernel
theorem t_GraphSearch_ok : ∀ k, k < 17 → parseFieldDescriptor (F_GraphSearch k).2.2.1 = some (t_GraphSearch k) := by decide +kernel
theorem i_GraphSearch : ∀ w ∈ u_ws R_GraphSearch F_GraphSearch 17, w ∈ wt := by
  intro w hw
  obtain ⟨k, hk, rfl⟩ := List.mem_map.mp hw
  have hk := List.mem_range.mp hk
  revert hk
  match k with
  | 0 => exact fun _ => wt_in 336 (by decide +kernel) (by decide +kernel)
  | 1 => exact fun _ => wt_in 338 (by decide +kernel) (by decide +kernel)
  | 2 => exact fun _ => wt_in 340 (by decide +kernel) (by decide +kernel)
  | 3 => exact fun _ => wt_in 342 (by decide +kernel) (by decide +kernel)
  | 4 => exact fun _ => wt_in 344 (by decide +kernel) (by decide +kernel)
  | 5 => exact fun _ => wt_in 346 (by decide +kernel) (by decide +kernel)
  | 6 => exact fun _ => wt_in 348 (by decide +kernel) (by decide +kernel)
  | 7 => exact fun _ => wt_in 350 (by decide +kernel) (by decide +kernel)
  | 8 => exact fun _ => wt_in 352 (by decide +kernel) (by decide +kernel)
  | 9 => exact fun _ => wt_in 354 (by decide +kernel) (by decide +kernel)
  | 10 => exact fun _ => wt_in 356 (by decide +kernel) (by decide +kernel)
  | 11 => exact fun _ => wt_in 358 (by decide +kernel) (by decide +kernel)
  | 12 => exact fun _ => wt_in 360 (by decide +kernel) (by decide +kernel)
  | 13 => exact fun _ => wt_in 362 (by decide +kernel) (by decide +kernel)
  | 14 => exact fun _ => wt_in 364 (by decide +kernel) (by decide +kernel)
  | 15 => exact fun _ => wt_in 366 (by decide +kernel) (by decide +kernel)
  | 16 => exact fun _ => wt_in 368 (by decide +kernel) (by decide +kernel)
  | k + 17 => exact fun h => absurd h (by omega)
theorem z_GraphSearch : ∀ j, j < 17 → defaultValue (t_GraphSearch j) = vp_V [.null, .null, .null, .null, .null, .null, .null, .null, .null, .null, .null, .null, .null, .null, .null, .int 0, .int 0] j := by
  intro j hj
  match j with
  | 0 => rfl
  | 1 => rfl
  | 2 => rfl
  | 3 => rfl
  | 4 => rfl
  | 5 => rfl
  | 6 => rfl
  | 7 => rfl
  | 8 => rfl
  | 9 => rfl
  | 10 => rfl
  | 11 => rfl
  | 12 => rfl
  | 13 => rfl
  | 14 => rfl
  | 15 => rfl
  | 16 => rfl
  | k + 17 => exact absurd hj (by omega)
theorem n_OM : ∀ a, a < 6 → ∀ b, b < 6 → a ≠ b → (F_OM a).2.1 ≠ (F_OM b).2.1 := by decide +kernel
theorem t_OM_ok : ∀ k, k < 6 → parseFieldDescriptor (F_OM k).2.2.1 = some (t_OM k) := by decide +kernel
theorem i_OM : ∀ w ∈ u_ws R_OM F_OM 6, w ∈ wt := by
  intro w hw
  obtain ⟨k, hk, rfl⟩ := List.mem_map.mp hw
  have hk := List.mem_range.mp hk
  revert hk
  match k with
  | 0 => exact fun _ => wt_in 414 (by decide +kernel) (by decide +kernel)
  | 1 => exact fun _ => wt_in 416 (by decide +kernel) (by decide +kernel)
  | 2 => exact fun _ => wt_in 418 (by decide +kernel) (by decide +kernel)
  | 3 => exact fun _ => wt_in 420 (by decide +kernel) (by decide +kernel)
  | 4 => exact fun _ => wt_in 422 (by decide +kernel) (by decide +kernel)
  | 5 => exact fun _ => wt_in 424 (by decide +kernel) (by decide +kernel)
  | k + 6 => exact fun h => absurd h (by omega)
theorem z_OM : ∀ j, j < 6 → defaultValue (t_OM j) = vp_V [.null, .null, .null, .null, .null, .null] j := by
  intro j hj
  match j with
  | 0 => rfl
  | 1 => rfl
  | 2 => rfl
  | 3 => rfl
  | 4 => rfl
  | 5 => rfl
  | k + 6 => exact absurd hj (by omega)
theorem n_Ref : ∀ a, a < 48 → ∀ b, b < 48 → a ≠ b → (F_Ref a).2.1 ≠ (F_Ref b).2.1 := by decide +kernel
theorem t_Ref_ok : ∀ k, k < 48 → parseFieldDescriptor (F_Ref k).2.2.1 = some (t_Ref k) := by decide +kernel
theorem i_Ref : ∀ w ∈ u_ws R_Ref F_Ref 48, w ∈ wt := by
  intro w hw
  obtain ⟨k, hk, rfl⟩ := List.mem_map.mp hw
  have hk := List.mem_range.mp hk
  revert hk
  match k with
  | 0 => exact fun _ => wt_in 947 (by decide +kernel) (by decide +kernel)
  | 1 => exact fun _ => wt_in 949 (by decide +kernel) (by decide +kernel)
  | 2 => exact fun _ => wt_in 951 (by decide +kernel) (by decide +kernel)
  | 3 => exact fun _ => wt_in 953 (by decide +kernel) (by decide +kernel)
  | 4 => exact fun _ => wt_in 955 (by decide +kernel) (by decide +kernel)
  | 5 => exact fun _ => wt_in 957 (by decide +kernel) (by decide +kernel)
  | 6 => exact fun _ => wt_in 959 (by decide +kernel) (by decide +kernel)
  | 7 => exact fun _ => wt_in 961 (by decide +kernel) (by decide +kernel)
  | 8 => exact fun _ => wt_in 963 (by decide +kernel) (by decide +kernel)
  | 9 => exact fun _ => wt_in 965 (by decide +kernel) (by decide +kernel)
  | 10 => exact fun _ => wt_in 967 (by decide +kernel) (by decide +kernel)
  | 11 => exact fun _ => wt_in 969 (by decide +kernel) (by decide +kernel)
  | 12 => exact fun _ => wt_in 971 (by decide +kernel) (by decide +kernel)
  | 13 => exact fun _ => wt_in 973 (by decide +kernel) (by decide +kernel)
  | 14 => exact fun _ => wt_in 975 (by decide +kernel) (by decide +kernel)
  | 15 => exact fun _ => wt_in 977 (by decide +kernel) (by decide +kernel)
  | 16 => exact fun _ => wt_in 979 (by decide +kernel) (by decide +kernel)
  | 17 => exact fun _ => wt_in 981 (by decide +kernel) (by decide +kernel)
  | 18 => exact fun _ => wt_in 983 (by decide +kernel) (by decide +kernel)
  | 19 => exact fun _ => wt_in 985 (by decide +kernel) (by decide +kernel)
  | 20 => exact fun _ => wt_in 987 (by decide +kernel) (by decide +kernel)
  | 21 => exact fun _ => wt_in 989 (by decide +kernel) (by decide +kernel)
  | 22 => exact fun _ => wt_in 991 (by decide +kernel) (by decide +kernel)
  | 23 => exact fun _ => wt_in 993 (by decide +kernel) (by decide +kernel)
  | 24 => exact fun _ => wt_in 995 (by decide +kernel) (by decide +kernel)
  | 25 => exact fun _ => wt_in 997 (by decide +kernel) (by decide +kernel)
  | 26 => exact fun _ => wt_in 999 (by decide +kernel) (by decide +kernel)
  | 27 => exact fun _ => wt_in 1001 (by decide +kernel) (by decide +kernel)
  | 28 => exact fun _ => wt_in 1003 (by decide +kernel) (by decide +kernel)
  | 29 => exact fun _ => wt_in 1005 (by decide +kernel) (by decide +kernel)
  | 30 => exact fun _ => wt_in 1007 (by decide +kernel) (by decide +kernel)
  | 31 => exact fun _ => wt_in 1009 (by decide +kernel) (by decide +kernel)
  | 32 => exact fun _ => wt_in 1011 (by decide +kernel) (by decide +kernel)
  | 33 => exact fun _ => wt_in 1013 (by decide +kernel) (by decide +kernel)
  | 34 => exact fun _ => wt_in 1015 (by decide +kernel) (by decide +kernel)
  | 35 => exact fun _ => wt_in 1017 (by decide +kernel) (by decide +kernel)
  | 36 => exact fun _ => wt_in 1019 (by decide +kernel) (by decide +kernel)
  | 37 => exact fun _ => wt_in 1021 (by decide +kernel) (by decide +kernel)
  | 38 => exact fun _ => wt_in 1023 (by decide +kernel) (by decide +kernel)
  | 39 => exact fun _ => wt_in 1025 (by decide +kernel) (by decide +kernel)
  | 40 => exact fun _ => wt_in 1027 (by decide +kernel) (by decide +kernel)
  | 41 => exact fun _ => wt_in 1029 (by decide +kernel) (by decide +kernel)
  | 42 => exact fun _ => wt_in 1031 (by decide +kernel) (by decide +kernel)
  | 43 => exact fun _ => wt_in 1033 (by decide +kernel) (by decide +kernel)
  | 44 => exact fun _ => wt_in 1035 (by decide +kernel) (by decide +kernel)
  | 45 => exact fun _ => wt_in 1037 (by decide +kernel) (by decide +kernel)
  | 46 => exact fun _ => wt_in 1039 (by decide +kernel) (by decide +kernel)
  | 47 => exact fun _ => wt_in 1041 (by decide +kernel) (by decide +kernel)
  | k + 48 => exact fun h => absurd h (by omega)
theorem z_Ref : ∀ j, j < 48 → defaultValue (t_Ref j) = vp_V [.int 0, .int 0, .null, .null, .null, .null, .null, .null, .null, .null, .null, .null, .null, .null, .int 0, .null, .null, .null, .null, .int 0, .int 0, .null, .null, .null, .int 0, .null, .int 0, .int 0, .null, .null, .null, .null, .null, .null, .null, .null, .int 0, .int 0, .null, .null, .null, .null, .null, .null, .null, .null, .int 0, .null] j := by
  intro j hj
  match j with
  | 0 => rfl
  | 1 => rfl
  | 2 => rfl
  | 3 => rfl
  | 4 => rfl
  | 5 => rfl
  | 6 => rfl
  | 7 => rfl
  | 8 => rfl
  | 9 => rfl
  | 10 => rfl
  | 11 => rfl
  | 12 => rfl
  | 13 => rfl
  | 14 => rfl
  | 15 => rfl
  | 16 => rfl
  | 17 => rfl
  | 18 => rfl
  | 19 => rfl
  | 20 => rfl
  | 21 => rfl
  | 22 => rfl
  | 23 => rfl
  | 24 => rfl
  | 25 => rfl
  | 26 => rfl
  | 27 => rfl
  | 28 => rfl
  | 29 => rfl
  | 30 => rfl
  | 31 => rfl
  | 32 => rfl
  | 33 => rfl
  | 34 => rfl
  | 35 => rfl
  | 36 => rfl
  | 37 => rfl
  | 38 => rfl
  | 39 => rfl
  | 40 => rfl
  | 41 => rfl
  | 42 => rfl
  | 43 => rfl
  | 44 => rfl
  | 45 => rfl
  | 46 => rfl
  | 47 => rfl
  | k + 48 => exact absurd hj (by omega)
def R_Object : String := "java/lang/Object"
def R_Integer : String := "java/lang/Integer"
def R_Math : String := "java/lang/Math"
def R_System : String := "java/lang/System"
def R_Arrays : String := "java/util/Arrays"
abbrev b_OM_init : ByteArray := prog_1_method_1_code
def y_OM_init : MethodName := ⟨R_OM, "<init>", "()V"⟩
abbrev w_OM_init : List Cond := .code y_OM_init b_OM_init 5 none :: wt
set_option maxRecDepth 20000 in
theorem g_OM_init : GoodIn wt w_OM_init := gd_in wt_good (wt_in 118 (by rfl) (by rfl))
abbrev b_OM_thread : ByteArray := prog_1_method_2_code
def y_OM_thread : MethodName := ⟨R_OM, "thread", "()I"⟩
abbrev w_OM_thread : List Cond := .code y_OM_thread b_OM_thread 2 (some .int) :: wt
set_option maxRecDepth 20000 in
theorem g_OM_thread : GoodIn wt w_OM_thread := gd_in wt_good (wt_in 430 (by rfl) (by rfl))
abbrev b_OM_action : ByteArray := prog_1_method_3_code
def y_OM_action : MethodName := ⟨R_OM, "action", "(IIIII)I"⟩
abbrev w_OM_action : List Cond := .code y_OM_action b_OM_action 7 (some .int) :: wt
set_option maxRecDepth 20000 in
theorem g_OM_action : GoodIn wt w_OM_action := gd_in wt_good (wt_in 442 (by rfl) (by rfl))
abbrev b_OM_clear : ByteArray := prog_1_method_4_code
def y_OM_clear : MethodName := ⟨R_OM, "clear", "()I"⟩
abbrev w_OM_clear : List Cond := .code y_OM_clear b_OM_clear 2 (some .int) :: wt
set_option maxRecDepth 20000 in
theorem g_OM_clear : GoodIn wt w_OM_clear := gd_in wt_good (wt_in 453 (by rfl) (by rfl))
abbrev b_OM_runs : ByteArray := prog_1_method_5_code
def y_OM_runs : MethodName := ⟨R_OM, "runs", "(I)I"⟩
abbrev w_OM_runs : List Cond := .code y_OM_runs b_OM_runs 2 (some .int) :: wt
set_option maxRecDepth 20000 in
theorem g_OM_runs : GoodIn wt w_OM_runs := gd_in wt_good (wt_in 464 (by rfl) (by rfl))
abbrev b_OM_outcome : ByteArray := prog_1_method_6_code
def y_OM_outcome : MethodName := ⟨R_OM, "outcome", "(III)I"⟩
abbrev w_OM_outcome : List Cond := .code y_OM_outcome b_OM_outcome 4 (some .int) :: wt
set_option maxRecDepth 20000 in
theorem g_OM_outcome : GoodIn wt w_OM_outcome := gd_in wt_good (wt_in 719 (by rfl) (by rfl))
abbrev b_OM_witness : ByteArray := prog_1_method_7_code
def y_OM_witness : MethodName := ⟨R_OM, "witness", "(III)I"⟩
abbrev w_OM_witness : List Cond := .code y_OM_witness b_OM_witness 4 (some .int) :: wt
set_option maxRecDepth 20000 in
theorem g_OM_witness : GoodIn wt w_OM_witness := gd_in wt_good (wt_in 728 (by rfl) (by rfl))
abbrev b_OM_orders : ByteArray := prog_1_method_8_code
def y_OM_orders : MethodName := ⟨R_OM, "orders", "(I)I"⟩
abbrev w_OM_orders : List Cond := .code y_OM_orders b_OM_orders 2 (some .int) :: wt
set_option maxRecDepth 20000 in
theorem g_OM_orders : GoodIn wt w_OM_orders := gd_in wt_good (wt_in 736 (by rfl) (by rfl))
abbrev b_OM_ordered : ByteArray := prog_1_method_9_code
def y_OM_ordered : MethodName := ⟨R_OM, "ordered", "(III)I"⟩
abbrev w_OM_ordered : List Cond := .code y_OM_ordered b_OM_ordered 4 (some .int) :: wt
set_option maxRecDepth 20000 in
theorem g_OM_ordered : GoodIn wt w_OM_ordered := gd_in wt_good (wt_in 864 (by rfl) (by rfl))
abbrev b_OM_graphs : ByteArray := prog_1_method_10_code
def y_OM_graphs : MethodName := ⟨R_OM, "graphs", "(I)I"⟩
abbrev w_OM_graphs : List Cond := .code y_OM_graphs b_OM_graphs 2 (some .int) :: wt
set_option maxRecDepth 20000 in
theorem g_OM_graphs : GoodIn wt w_OM_graphs := gd_in wt_good (wt_in 868 (by rfl) (by rfl))
abbrev b_OM_beyond : ByteArray := prog_1_method_11_code
def y_OM_beyond : MethodName := ⟨R_OM, "beyond", "(II)I"⟩
abbrev w_OM_beyond : List Cond := .code y_OM_beyond b_OM_beyond 3 (some .int) :: wt
set_option maxRecDepth 20000 in
theorem g_OM_beyond : GoodIn wt w_OM_beyond := gd_in wt_good (wt_in 872 (by rfl) (by rfl))
abbrev b_OM_races : ByteArray := prog_1_method_12_code
def y_OM_races : MethodName := ⟨R_OM, "races", "()I"⟩
abbrev w_OM_races : List Cond := .code y_OM_races b_OM_races 3 (some .int) :: wt
set_option maxRecDepth 20000 in
theorem g_OM_races : GoodIn wt w_OM_races := gd_in wt_good (wt_in 880 (by rfl) (by rfl))
abbrev b_OM_race : ByteArray := prog_1_method_13_code
def y_OM_race : MethodName := ⟨R_OM, "race", "(IIII)I"⟩
abbrev w_OM_race : List Cond := .code y_OM_race b_OM_race 7 (some .int) :: wt
set_option maxRecDepth 20000 in
theorem g_OM_race : GoodIn wt w_OM_race := gd_in wt_good (wt_in 885 (by rfl) (by rfl))
abbrev b_OM_isModel : ByteArray := prog_1_method_14_code
def y_OM_isModel : MethodName := ⟨R_OM, "isModel", "(I)Z"⟩
abbrev w_OM_isModel : List Cond := .code y_OM_isModel b_OM_isModel 1 (some .boolean) :: wt
set_option maxRecDepth 20000 in
theorem g_OM_isModel : GoodIn wt w_OM_isModel := gd_in wt_good (wt_in 467 (by rfl) (by rfl))
abbrev b_OM_isIn : ByteArray := prog_1_method_15_code
def y_OM_isIn : MethodName := ⟨R_OM, "isIn", "(II)Z"⟩
abbrev w_OM_isIn : List Cond := .code y_OM_isIn b_OM_isIn 2 (some .boolean) :: wt
set_option maxRecDepth 20000 in
theorem g_OM_isIn : GoodIn wt w_OM_isIn := gd_in wt_good (wt_in 561 (by rfl) (by rfl))
abbrev b_OM_isAction : ByteArray := prog_1_method_16_code
def y_OM_isAction : MethodName := ⟨R_OM, "isAction", "(IIII)Z"⟩
abbrev w_OM_isAction : List Cond := .code y_OM_isAction b_OM_isAction 7 (some .boolean) :: wt
set_option maxRecDepth 20000 in
theorem g_OM_isAction : GoodIn wt w_OM_isAction := gd_in wt_good (wt_in 445 (by rfl) (by rfl))
abbrev b_OM_forget : ByteArray := prog_1_method_17_code
def y_OM_forget : MethodName := ⟨R_OM, "forget", "()V"⟩
abbrev w_OM_forget : List Cond := .code y_OM_forget b_OM_forget 2 none :: wt
set_option maxRecDepth 20000 in
theorem g_OM_forget : GoodIn wt w_OM_forget := gd_in wt_good (wt_in 438 (by rfl) (by rfl))
abbrev b_OM_foundByRuns : ByteArray := prog_1_method_18_code
def y_OM_foundByRuns : MethodName := ⟨R_OM, "foundByRuns", "(I)LOrderModels$OutcomeSet;"⟩
abbrev w_OM_foundByRuns : List Cond := .code y_OM_foundByRuns b_OM_foundByRuns 3 (some (.object "OrderModels$OutcomeSet")) :: wt
set_option maxRecDepth 20000 in
theorem g_OM_foundByRuns : GoodIn wt w_OM_foundByRuns := gd_in wt_good (wt_in 471 (by rfl) (by rfl))
abbrev b_OM_foundByGraphs : ByteArray := prog_1_method_19_code
def y_OM_foundByGraphs : MethodName := ⟨R_OM, "foundByGraphs", "(I)LOrderModels$OutcomeSet;"⟩
abbrev w_OM_foundByGraphs : List Cond := .code y_OM_foundByGraphs b_OM_foundByGraphs 3 (some (.object "OrderModels$OutcomeSet")) :: wt
set_option maxRecDepth 20000 in
theorem g_OM_foundByGraphs : GoodIn wt w_OM_foundByGraphs := gd_in wt_good (wt_in 740 (by rfl) (by rfl))
abbrev b_Ref_init : ByteArray := prog_10_method_1_code
def y_Ref_init : MethodName := ⟨R_Ref, "<init>", "()V"⟩
abbrev w_Ref_init : List Cond := .code y_Ref_init b_Ref_init 1 none :: wt
set_option maxRecDepth 20000 in
theorem g_Ref_init : GoodIn wt w_Ref_init := gd_in wt_good (wt_in 892 (by rfl) (by rfl))
abbrev b_Ref_anew : ByteArray := prog_10_method_3_code
def y_Ref_anew : MethodName := ⟨R_Ref, "anew", "()V"⟩
abbrev w_Ref_anew : List Cond := .code y_Ref_anew b_Ref_anew 2 none :: wt
set_option maxRecDepth 20000 in
theorem g_Ref_anew : GoodIn wt w_Ref_anew := gd_in wt_good (wt_in 1053 (by rfl) (by rfl))
abbrev b_Ref_thread : ByteArray := prog_10_method_4_code
def y_Ref_thread : MethodName := ⟨R_Ref, "thread", "()I"⟩
abbrev w_Ref_thread : List Cond := .code y_Ref_thread b_Ref_thread 1 (some .int) :: wt
set_option maxRecDepth 20000 in
theorem g_Ref_thread : GoodIn wt w_Ref_thread := gd_in wt_good (wt_in 1049 (by rfl) (by rfl))
abbrev b_Ref_action : ByteArray := prog_10_method_5_code
def y_Ref_action : MethodName := ⟨R_Ref, "action", "(IIIII)I"⟩
abbrev w_Ref_action : List Cond := .code y_Ref_action b_Ref_action 8 (some .int) :: wt
set_option maxRecDepth 20000 in
theorem g_Ref_action : GoodIn wt w_Ref_action := gd_in wt_good (wt_in 1057 (by rfl) (by rfl))
abbrev b_Ref_clear : ByteArray := prog_10_method_6_code
def y_Ref_clear : MethodName := ⟨R_Ref, "clear", "()I"⟩
abbrev w_Ref_clear : List Cond := .code y_Ref_clear b_Ref_clear 2 (some .int) :: wt
set_option maxRecDepth 20000 in
theorem g_Ref_clear : GoodIn wt w_Ref_clear := gd_in wt_good (wt_in 1061 (by rfl) (by rfl))
abbrev b_Ref_beginState : ByteArray := prog_10_method_7_code
def y_Ref_beginState : MethodName := ⟨R_Ref, "beginState", "()V"⟩
abbrev w_Ref_beginState : List Cond := .code y_Ref_beginState b_Ref_beginState 3 none :: wt
set_option maxRecDepth 20000 in
theorem g_Ref_beginState : GoodIn wt w_Ref_beginState := gd_in wt_good (wt_in 1080 (by rfl) (by rfl))
abbrev b_Ref_keep : ByteArray := prog_10_method_8_code
def y_Ref_keep : MethodName := ⟨R_Ref, "keep", "(I)V"⟩
abbrev w_Ref_keep : List Cond := .code y_Ref_keep b_Ref_keep 3 none :: wt
set_option maxRecDepth 20000 in
theorem g_Ref_keep : GoodIn wt w_Ref_keep := gd_in wt_good (wt_in 1117 (by rfl) (by rfl))
abbrev b_Ref_back : ByteArray := prog_10_method_9_code
def y_Ref_back : MethodName := ⟨R_Ref, "back", "(I)V"⟩
abbrev w_Ref_back : List Cond := .code y_Ref_back b_Ref_back 3 none :: wt
set_option maxRecDepth 20000 in
theorem g_Ref_back : GoodIn wt w_Ref_back := gd_in wt_good (wt_in 1157 (by rfl) (by rfl))
abbrev b_Ref_bits : ByteArray := prog_10_method_10_code
def y_Ref_bits : MethodName := ⟨R_Ref, "bits", "(JI)V"⟩
abbrev w_Ref_bits : List Cond := .code y_Ref_bits b_Ref_bits 6 none :: wt
set_option maxRecDepth 20000 in
theorem g_Ref_bits : GoodIn wt w_Ref_bits := gd_in wt_good (wt_in 1096 (by rfl) (by rfl))
abbrev b_Ref_placeOf : ByteArray := prog_10_method_11_code
def y_Ref_placeOf : MethodName := ⟨R_Ref, "placeOf", "(II)I"⟩
abbrev w_Ref_placeOf : List Cond := .code y_Ref_placeOf b_Ref_placeOf 4 (some .int) :: wt
set_option maxRecDepth 20000 in
theorem g_Ref_placeOf : GoodIn wt w_Ref_placeOf := gd_in wt_good (wt_in 1104 (by rfl) (by rfl))
abbrev b_Ref_encode : ByteArray := prog_10_method_12_code
def y_Ref_encode : MethodName := ⟨R_Ref, "encode", "()V"⟩
abbrev w_Ref_encode : List Cond := .code y_Ref_encode b_Ref_encode 7 none :: wt
set_option maxRecDepth 20000 in
theorem g_Ref_encode : GoodIn wt w_Ref_encode := gd_in wt_good (wt_in 1092 (by rfl) (by rfl))
abbrev b_Ref_isIn : ByteArray := prog_10_method_13_code
def y_Ref_isIn : MethodName := ⟨R_Ref, "isIn", "(III)Z"⟩
abbrev w_Ref_isIn : List Cond := .code y_Ref_isIn b_Ref_isIn 4 (some .boolean) :: wt
set_option maxRecDepth 20000 in
theorem g_Ref_isIn : GoodIn wt w_Ref_isIn := gd_in wt_good (wt_in 1108 (by rfl) (by rfl))
abbrev b_Ref_encodeRows : ByteArray := prog_10_method_14_code
def y_Ref_encodeRows : MethodName := ⟨R_Ref, "encodeRows", "()V"⟩
abbrev w_Ref_encodeRows : List Cond := .code y_Ref_encodeRows b_Ref_encodeRows 5 none :: wt
set_option maxRecDepth 20000 in
theorem g_Ref_encodeRows : GoodIn wt w_Ref_encodeRows := gd_in wt_good (wt_in 1100 (by rfl) (by rfl))
abbrev b_Ref_wasMet : ByteArray := prog_10_method_15_code
def y_Ref_wasMet : MethodName := ⟨R_Ref, "wasMet", "()Z"⟩
abbrev w_Ref_wasMet : List Cond := .code y_Ref_wasMet b_Ref_wasMet 7 (some .boolean) :: wt
set_option maxRecDepth 20000 in
theorem g_Ref_wasMet : GoodIn wt w_Ref_wasMet := gd_in wt_good (wt_in 1088 (by rfl) (by rfl))
abbrev b_Ref_search : ByteArray := prog_10_method_16_code
def y_Ref_search : MethodName := ⟨R_Ref, "search", "(IZ)V"⟩
abbrev w_Ref_search : List Cond := .code y_Ref_search b_Ref_search 4 none :: wt
set_option maxRecDepth 20000 in
theorem g_Ref_search : GoodIn wt w_Ref_search := gd_in wt_good (wt_in 1076 (by rfl) (by rfl))
abbrev b_Ref_from : ByteArray := prog_10_method_17_code
def y_Ref_from : MethodName := ⟨R_Ref, "from", "(I)V"⟩
abbrev w_Ref_from : List Cond := .code y_Ref_from b_Ref_from 5 none :: wt
set_option maxRecDepth 20000 in
theorem g_Ref_from : GoodIn wt w_Ref_from := gd_in wt_good (wt_in 1084 (by rfl) (by rfl))
abbrev b_Ref_step : ByteArray := prog_10_method_18_code
def y_Ref_step : MethodName := ⟨R_Ref, "step", "(II)Z"⟩
abbrev w_Ref_step : List Cond := .code y_Ref_step b_Ref_step 5 (some .boolean) :: wt
set_option maxRecDepth 20000 in
theorem g_Ref_step : GoodIn wt w_Ref_step := gd_in wt_good (wt_in 1121 (by rfl) (by rfl))
abbrev b_Ref_sent : ByteArray := prog_10_method_19_code
def y_Ref_sent : MethodName := ⟨R_Ref, "sent", "(II)I"⟩
abbrev w_Ref_sent : List Cond := .code y_Ref_sent b_Ref_sent 3 (some .int) :: wt
set_option maxRecDepth 20000 in
theorem g_Ref_sent : GoodIn wt w_Ref_sent := gd_in wt_good (wt_in 1141 (by rfl) (by rfl))
abbrev b_Ref_inTurn : ByteArray := prog_10_method_20_code
def y_Ref_inTurn : MethodName := ⟨R_Ref, "inTurn", "(II)Z"⟩
abbrev w_Ref_inTurn : List Cond := .code y_Ref_inTurn b_Ref_inTurn 5 (some .boolean) :: wt
set_option maxRecDepth 20000 in
theorem g_Ref_inTurn : GoodIn wt w_Ref_inTurn := gd_in wt_good (wt_in 1145 (by rfl) (by rfl))
abbrev b_Ref_isEmpty : ByteArray := prog_10_method_21_code
def y_Ref_isEmpty : MethodName := ⟨R_Ref, "isEmpty", "(I)Z"⟩
abbrev w_Ref_isEmpty : List Cond := .code y_Ref_isEmpty b_Ref_isEmpty 3 (some .boolean) :: wt
set_option maxRecDepth 20000 in
theorem g_Ref_isEmpty : GoodIn wt w_Ref_isEmpty := gd_in wt_good (wt_in 1153 (by rfl) (by rfl))
abbrev b_Ref_buffered : ByteArray := prog_10_method_22_code
def y_Ref_buffered : MethodName := ⟨R_Ref, "buffered", "(II)Z"⟩
abbrev w_Ref_buffered : List Cond := .code y_Ref_buffered b_Ref_buffered 7 (some .boolean) :: wt
set_option maxRecDepth 20000 in
theorem g_Ref_buffered : GoodIn wt w_Ref_buffered := gd_in wt_good (wt_in 1149 (by rfl) (by rfl))
abbrev b_Ref_flush : ByteArray := prog_10_method_23_code
def y_Ref_flush : MethodName := ⟨R_Ref, "flush", "(II)Z"⟩
abbrev w_Ref_flush : List Cond := .code y_Ref_flush b_Ref_flush 6 (some .boolean) :: wt
set_option maxRecDepth 20000 in
theorem g_Ref_flush : GoodIn wt w_Ref_flush := gd_in wt_good (wt_in 1125 (by rfl) (by rfl))
abbrev b_Ref_known : ByteArray := prog_10_method_24_code
def y_Ref_known : MethodName := ⟨R_Ref, "known", "(III)Z"⟩
abbrev w_Ref_known : List Cond := .code y_Ref_known b_Ref_known 11 (some .boolean) :: wt
set_option maxRecDepth 20000 in
theorem g_Ref_known : GoodIn wt w_Ref_known := gd_in wt_good (wt_in 1129 (by rfl) (by rfl))
abbrev b_Ref_learn : ByteArray := prog_10_method_25_code
def y_Ref_learn : MethodName := ⟨R_Ref, "learn", "(II)V"⟩
abbrev w_Ref_learn : List Cond := .code y_Ref_learn b_Ref_learn 6 none :: wt
set_option maxRecDepth 20000 in
theorem g_Ref_learn : GoodIn wt w_Ref_learn := gd_in wt_good (wt_in 1133 (by rfl) (by rfl))
abbrev b_Ref_put : ByteArray := prog_10_method_26_code
def y_Ref_put : MethodName := ⟨R_Ref, "put", "(IIIII)V"⟩
abbrev w_Ref_put : List Cond := .code y_Ref_put b_Ref_put 8 none :: wt
set_option maxRecDepth 20000 in
theorem g_Ref_put : GoodIn wt w_Ref_put := gd_in wt_good (wt_in 1137 (by rfl) (by rfl))
abbrev b_Ref_ends : ByteArray := prog_10_method_27_code
def y_Ref_ends : MethodName := ⟨R_Ref, "ends", "(I)V"⟩
abbrev w_Ref_ends : List Cond := .code y_Ref_ends b_Ref_ends 5 none :: wt
set_option maxRecDepth 20000 in
theorem g_Ref_ends : GoodIn wt w_Ref_ends := gd_in wt_good (wt_in 1161 (by rfl) (by rfl))
abbrev b_Ref_against : ByteArray := prog_10_method_28_code
def y_Ref_against : MethodName := ⟨R_Ref, "against", "(II)I"⟩
abbrev w_Ref_against : List Cond := .code y_Ref_against b_Ref_against 5 (some .int) :: wt
set_option maxRecDepth 20000 in
theorem g_Ref_against : GoodIn wt w_Ref_against := gd_in wt_good (wt_in 1169 (by rfl) (by rfl))
abbrev b_Ref_addOutcome : ByteArray := prog_10_method_29_code
def y_Ref_addOutcome : MethodName := ⟨R_Ref, "addOutcome", "(I)I"⟩
abbrev w_Ref_addOutcome : List Cond := .code y_Ref_addOutcome b_Ref_addOutcome 7 (some .int) :: wt
set_option maxRecDepth 20000 in
theorem g_Ref_addOutcome : GoodIn wt w_Ref_addOutcome := gd_in wt_good (wt_in 1165 (by rfl) (by rfl))
abbrev b_Ref_markRaces : ByteArray := prog_10_method_30_code
def y_Ref_markRaces : MethodName := ⟨R_Ref, "markRaces", "()V"⟩
abbrev w_Ref_markRaces : List Cond := .code y_Ref_markRaces b_Ref_markRaces 6 none :: wt
set_option maxRecDepth 20000 in
theorem g_Ref_markRaces : GoodIn wt w_Ref_markRaces := gd_in wt_good (wt_in 1113 (by rfl) (by rfl))
abbrev b_Ref_findRaces : ByteArray := prog_10_method_31_code
def y_Ref_findRaces : MethodName := ⟨R_Ref, "findRaces", "()V"⟩
abbrev w_Ref_findRaces : List Cond := .code y_Ref_findRaces b_Ref_findRaces 2 none :: wt
set_option maxRecDepth 20000 in
theorem g_Ref_findRaces : GoodIn wt w_Ref_findRaces := gd_in wt_good (wt_in 1291 (by rfl) (by rfl))
abbrev b_Ref_find : ByteArray := prog_10_method_32_code
def y_Ref_find : MethodName := ⟨R_Ref, "find", "(I)V"⟩
abbrev w_Ref_find : List Cond := .code y_Ref_find b_Ref_find 2 none :: wt
set_option maxRecDepth 20000 in
theorem g_Ref_find : GoodIn wt w_Ref_find := gd_in wt_good (wt_in 1072 (by rfl) (by rfl))
abbrev b_Ref_writes : ByteArray := prog_10_method_33_code
def y_Ref_writes : MethodName := ⟨R_Ref, "writes", "(I)Z"⟩
abbrev w_Ref_writes : List Cond := .code y_Ref_writes b_Ref_writes 1 (some .boolean) :: wt
set_option maxRecDepth 20000 in
theorem g_Ref_writes : GoodIn wt w_Ref_writes := gd_in wt_good (wt_in 1259 (by rfl) (by rfl))
abbrev b_Ref_takes : ByteArray := prog_10_method_34_code
def y_Ref_takes : MethodName := ⟨R_Ref, "takes", "(I)Z"⟩
abbrev w_Ref_takes : List Cond := .code y_Ref_takes b_Ref_takes 1 (some .boolean) :: wt
set_option maxRecDepth 20000 in
theorem g_Ref_takes : GoodIn wt w_Ref_takes := gd_in wt_good (wt_in 1192 (by rfl) (by rfl))
abbrev b_Ref_findGraphs : ByteArray := prog_10_method_35_code
def y_Ref_findGraphs : MethodName := ⟨R_Ref, "findGraphs", "(I)V"⟩
abbrev w_Ref_findGraphs : List Cond := .code y_Ref_findGraphs b_Ref_findGraphs 4 none :: wt
set_option maxRecDepth 20000 in
theorem g_Ref_findGraphs : GoodIn wt w_Ref_findGraphs := gd_in wt_good (wt_in 1189 (by rfl) (by rfl))
abbrev b_Ref_choose : ByteArray := prog_10_method_36_code
def y_Ref_choose : MethodName := ⟨R_Ref, "choose", "(I)V"⟩
abbrev w_Ref_choose : List Cond := .code y_Ref_choose b_Ref_choose 5 none :: wt
set_option maxRecDepth 20000 in
theorem g_Ref_choose : GoodIn wt w_Ref_choose := gd_in wt_good (wt_in 1196 (by rfl) (by rfl))
abbrev b_Ref_isFreeFrom : ByteArray := prog_10_method_37_code
def y_Ref_isFreeFrom : MethodName := ⟨R_Ref, "isFreeFrom", "(I)Z"⟩
abbrev w_Ref_isFreeFrom : List Cond := .code y_Ref_isFreeFrom b_Ref_isFreeFrom 4 (some .boolean) :: wt
set_option maxRecDepth 20000 in
theorem g_Ref_isFreeFrom : GoodIn wt w_Ref_isFreeFrom := gd_in wt_good (wt_in 1271 (by rfl) (by rfl))
abbrev b_Ref_goes : ByteArray := prog_10_method_38_code
def y_Ref_goes : MethodName := ⟨R_Ref, "goes", "()Z"⟩
abbrev w_Ref_goes : List Cond := .code y_Ref_goes b_Ref_goes 7 (some .boolean) :: wt
set_option maxRecDepth 20000 in
theorem g_Ref_goes : GoodIn wt w_Ref_goes := gd_in wt_good (wt_in 1204 (by rfl) (by rfl))
abbrev b_Ref_act : ByteArray := prog_10_method_39_code
def y_Ref_act : MethodName := ⟨R_Ref, "act", "(I)Z"⟩
abbrev w_Ref_act : List Cond := .code y_Ref_act b_Ref_act 6 (some .boolean) :: wt
set_option maxRecDepth 20000 in
theorem g_Ref_act : GoodIn wt w_Ref_act := gd_in wt_good (wt_in 1208 (by rfl) (by rfl))
abbrev b_Ref_one : ByteArray := prog_10_method_40_code
def y_Ref_one : MethodName := ⟨R_Ref, "one", "()V"⟩
abbrev w_Ref_one : List Cond := .code y_Ref_one b_Ref_one 2 none :: wt
set_option maxRecDepth 20000 in
theorem g_Ref_one : GoodIn wt w_Ref_one := gd_in wt_good (wt_in 1200 (by rfl) (by rfl))
abbrev b_Ref_isOf : ByteArray := prog_10_method_41_code
def y_Ref_isOf : MethodName := ⟨R_Ref, "isOf", "(II)Z"⟩
abbrev w_Ref_isOf : List Cond := .code y_Ref_isOf b_Ref_isOf 3 (some .boolean) :: wt
set_option maxRecDepth 20000 in
theorem g_Ref_isOf : GoodIn wt w_Ref_isOf := gd_in wt_good (wt_in 1256 (by rfl) (by rfl))
abbrev b_Ref_rows : ByteArray := prog_10_method_42_code
def y_Ref_rows : MethodName := ⟨R_Ref, "rows", "(I)V"⟩
abbrev w_Ref_rows : List Cond := .code y_Ref_rows b_Ref_rows 5 none :: wt
set_option maxRecDepth 20000 in
theorem g_Ref_rows : GoodIn wt w_Ref_rows := gd_in wt_good (wt_in 1212 (by rfl) (by rfl))
abbrev b_Ref_isInRow : ByteArray := prog_10_method_43_code
def y_Ref_isInRow : MethodName := ⟨R_Ref, "isInRow", "(II)Z"⟩
abbrev w_Ref_isInRow : List Cond := .code y_Ref_isInRow b_Ref_isInRow 4 (some .boolean) :: wt
set_option maxRecDepth 20000 in
theorem g_Ref_isInRow : GoodIn wt w_Ref_isInRow := gd_in wt_good (wt_in 1263 (by rfl) (by rfl))
abbrev b_Ref_mayFollow : ByteArray := prog_10_method_44_code
def y_Ref_mayFollow : MethodName := ⟨R_Ref, "mayFollow", "(II)Z"⟩
abbrev w_Ref_mayFollow : List Cond := .code y_Ref_mayFollow b_Ref_mayFollow 6 (some .boolean) :: wt
set_option maxRecDepth 20000 in
theorem g_Ref_mayFollow : GoodIn wt w_Ref_mayFollow := gd_in wt_good (wt_in 1267 (by rfl) (by rfl))
abbrev b_Ref_pair : ByteArray := prog_10_method_45_code
def y_Ref_pair : MethodName := ⟨R_Ref, "pair", "([III)V"⟩
abbrev w_Ref_pair : List Cond := .code y_Ref_pair b_Ref_pair 4 none :: wt
set_option maxRecDepth 20000 in
theorem g_Ref_pair : GoodIn wt w_Ref_pair := gd_in wt_good (wt_in 1224 (by rfl) (by rfl))
abbrev b_Ref_whole : ByteArray := prog_10_method_46_code
def y_Ref_whole : MethodName := ⟨R_Ref, "whole", "()V"⟩
abbrev w_Ref_whole : List Cond := .code y_Ref_whole b_Ref_whole 3 none :: wt
set_option maxRecDepth 20000 in
theorem g_Ref_whole : GoodIn wt w_Ref_whole := gd_in wt_good (wt_in 1216 (by rfl) (by rfl))
abbrev b_Ref_relate : ByteArray := prog_10_method_47_code
def y_Ref_relate : MethodName := ⟨R_Ref, "relate", "()V"⟩
abbrev w_Ref_relate : List Cond := .code y_Ref_relate b_Ref_relate 4 none :: wt
set_option maxRecDepth 20000 in
theorem g_Ref_relate : GoodIn wt w_Ref_relate := gd_in wt_good (wt_in 1220 (by rfl) (by rfl))
abbrev b_Ref_taken : ByteArray := prog_10_method_48_code
def y_Ref_taken : MethodName := ⟨R_Ref, "taken", "(III)V"⟩
abbrev w_Ref_taken : List Cond := .code y_Ref_taken b_Ref_taken 6 none :: wt
set_option maxRecDepth 20000 in
theorem g_Ref_taken : GoodIn wt w_Ref_taken := gd_in wt_good (wt_in 1228 (by rfl) (by rfl))
abbrev b_Ref_actionOf : ByteArray := prog_10_method_49_code
def y_Ref_actionOf : MethodName := ⟨R_Ref, "actionOf", "(I)I"⟩
abbrev w_Ref_actionOf : List Cond := .code y_Ref_actionOf b_Ref_actionOf 3 (some .int) :: wt
set_option maxRecDepth 20000 in
theorem g_Ref_actionOf : GoodIn wt w_Ref_actionOf := gd_in wt_good (wt_in 1244 (by rfl) (by rfl))
abbrev b_Ref_hasRing : ByteArray := prog_10_method_50_code
def y_Ref_hasRing : MethodName := ⟨R_Ref, "hasRing", "()Z"⟩
abbrev w_Ref_hasRing : List Cond := .code y_Ref_hasRing b_Ref_hasRing 3 (some .boolean) :: wt
set_option maxRecDepth 20000 in
theorem g_Ref_hasRing : GoodIn wt w_Ref_hasRing := gd_in wt_good (wt_in 1236 (by rfl) (by rfl))
abbrev b_Ref_isWrite : ByteArray := prog_10_method_51_code
def y_Ref_isWrite : MethodName := ⟨R_Ref, "isWrite", "(I)Z"⟩
abbrev w_Ref_isWrite : List Cond := .code y_Ref_isWrite b_Ref_isWrite 2 (some .boolean) :: wt
set_option maxRecDepth 20000 in
theorem g_Ref_isWrite : GoodIn wt w_Ref_isWrite := gd_in wt_good (wt_in 1252 (by rfl) (by rfl))
abbrev b_Ref_isKept : ByteArray := prog_10_method_52_code
def y_Ref_isKept : MethodName := ⟨R_Ref, "isKept", "(II)Z"⟩
abbrev w_Ref_isKept : List Cond := .code y_Ref_isKept b_Ref_isKept 3 (some .boolean) :: wt
set_option maxRecDepth 20000 in
theorem g_Ref_isKept : GoodIn wt w_Ref_isKept := gd_in wt_good (wt_in 1248 (by rfl) (by rfl))
abbrev b_Ref_stands : ByteArray := prog_10_method_53_code
def y_Ref_stands : MethodName := ⟨R_Ref, "stands", "()Z"⟩
abbrev w_Ref_stands : List Cond := .code y_Ref_stands b_Ref_stands 5 (some .boolean) :: wt
set_option maxRecDepth 20000 in
theorem g_Ref_stands : GoodIn wt w_Ref_stands := gd_in wt_good (wt_in 1232 (by rfl) (by rfl))
abbrev b_Ref_standsKnown : ByteArray := prog_10_method_54_code
def y_Ref_standsKnown : MethodName := ⟨R_Ref, "standsKnown", "()Z"⟩
abbrev w_Ref_standsKnown : List Cond := .code y_Ref_standsKnown b_Ref_standsKnown 3 (some .boolean) :: wt
set_option maxRecDepth 20000 in
theorem g_Ref_standsKnown : GoodIn wt w_Ref_standsKnown := gd_in wt_good (wt_in 1240 (by rfl) (by rfl))
abbrev b_Ref_isModel : ByteArray := prog_10_method_55_code
def y_Ref_isModel : MethodName := ⟨R_Ref, "isModel", "(I)Z"⟩
abbrev w_Ref_isModel : List Cond := .code y_Ref_isModel b_Ref_isModel 1 (some .boolean) :: wt
set_option maxRecDepth 20000 in
theorem g_Ref_isModel : GoodIn wt w_Ref_isModel := gd_in wt_good (wt_in 1068 (by rfl) (by rfl))
abbrev b_Ref_runs : ByteArray := prog_10_method_56_code
def y_Ref_runs : MethodName := ⟨R_Ref, "runs", "(I)I"⟩
abbrev w_Ref_runs : List Cond := .code y_Ref_runs b_Ref_runs 2 (some .int) :: wt
set_option maxRecDepth 20000 in
theorem g_Ref_runs : GoodIn wt w_Ref_runs := gd_in wt_good (wt_in 1065 (by rfl) (by rfl))
abbrev b_Ref_told : ByteArray := prog_10_method_57_code
def y_Ref_told : MethodName := ⟨R_Ref, "told", "(III)I"⟩
abbrev w_Ref_told : List Cond := .code y_Ref_told b_Ref_told 5 (some .int) :: wt
set_option maxRecDepth 20000 in
theorem g_Ref_told : GoodIn wt w_Ref_told := gd_in wt_good (wt_in 1177 (by rfl) (by rfl))
abbrev b_Ref_outcome : ByteArray := prog_10_method_58_code
def y_Ref_outcome : MethodName := ⟨R_Ref, "outcome", "(III)I"⟩
abbrev w_Ref_outcome : List Cond := .code y_Ref_outcome b_Ref_outcome 4 (some .int) :: wt
set_option maxRecDepth 20000 in
theorem g_Ref_outcome : GoodIn wt w_Ref_outcome := gd_in wt_good (wt_in 1173 (by rfl) (by rfl))
abbrev b_Ref_witness : ByteArray := prog_10_method_59_code
def y_Ref_witness : MethodName := ⟨R_Ref, "witness", "(III)I"⟩
abbrev w_Ref_witness : List Cond := .code y_Ref_witness b_Ref_witness 5 (some .int) :: wt
set_option maxRecDepth 20000 in
theorem g_Ref_witness : GoodIn wt w_Ref_witness := gd_in wt_good (wt_in 1181 (by rfl) (by rfl))
abbrev b_Ref_orders : ByteArray := prog_10_method_60_code
def y_Ref_orders : MethodName := ⟨R_Ref, "orders", "(I)I"⟩
abbrev w_Ref_orders : List Cond := .code y_Ref_orders b_Ref_orders 2 (some .int) :: wt
set_option maxRecDepth 20000 in
theorem g_Ref_orders : GoodIn wt w_Ref_orders := gd_in wt_good (wt_in 1185 (by rfl) (by rfl))
abbrev b_Ref_ordered : ByteArray := prog_10_method_61_code
def y_Ref_ordered : MethodName := ⟨R_Ref, "ordered", "(III)I"⟩
abbrev w_Ref_ordered : List Cond := .code y_Ref_ordered b_Ref_ordered 4 (some .int) :: wt
set_option maxRecDepth 20000 in
theorem g_Ref_ordered : GoodIn wt w_Ref_ordered := gd_in wt_good (wt_in 1275 (by rfl) (by rfl))
abbrev b_Ref_graphs : ByteArray := prog_10_method_62_code
def y_Ref_graphs : MethodName := ⟨R_Ref, "graphs", "(I)I"⟩
abbrev w_Ref_graphs : List Cond := .code y_Ref_graphs b_Ref_graphs 2 (some .int) :: wt
set_option maxRecDepth 20000 in
theorem g_Ref_graphs : GoodIn wt w_Ref_graphs := gd_in wt_good (wt_in 1279 (by rfl) (by rfl))
abbrev b_Ref_beyond : ByteArray := prog_10_method_63_code
def y_Ref_beyond : MethodName := ⟨R_Ref, "beyond", "(II)I"⟩
abbrev w_Ref_beyond : List Cond := .code y_Ref_beyond b_Ref_beyond 9 (some .int) :: wt
set_option maxRecDepth 20000 in
theorem g_Ref_beyond : GoodIn wt w_Ref_beyond := gd_in wt_good (wt_in 1283 (by rfl) (by rfl))
abbrev b_Ref_races : ByteArray := prog_10_method_64_code
def y_Ref_races : MethodName := ⟨R_Ref, "races", "()I"⟩
abbrev w_Ref_races : List Cond := .code y_Ref_races b_Ref_races 4 (some .int) :: wt
set_option maxRecDepth 20000 in
theorem g_Ref_races : GoodIn wt w_Ref_races := gd_in wt_good (wt_in 1287 (by rfl) (by rfl))
abbrev b_Ref_isAction : ByteArray := prog_10_method_65_code
def y_Ref_isAction : MethodName := ⟨R_Ref, "isAction", "(II)Z"⟩
abbrev w_Ref_isAction : List Cond := .code y_Ref_isAction b_Ref_isAction 3 (some .boolean) :: wt
set_option maxRecDepth 20000 in
theorem g_Ref_isAction : GoodIn wt w_Ref_isAction := gd_in wt_good (wt_in 1299 (by rfl) (by rfl))
abbrev b_Ref_race : ByteArray := prog_10_method_66_code
def y_Ref_race : MethodName := ⟨R_Ref, "race", "(IIII)I"⟩
abbrev w_Ref_race : List Cond := .code y_Ref_race b_Ref_race 5 (some .int) :: wt
set_option maxRecDepth 20000 in
theorem g_Ref_race : GoodIn wt w_Ref_race := gd_in wt_good (wt_in 1295 (by rfl) (by rfl))
abbrev b_BufferWalk_init : ByteArray := prog_2_method_1_code
def y_BufferWalk_init : MethodName := ⟨R_BufferWalk, "<init>", "(LOrderModels$Program;LOrderModels$Progress;LOrderModels$StateSet;)V"⟩
abbrev w_BufferWalk_init : List Cond := .code y_BufferWalk_init b_BufferWalk_init 4 none :: wt
set_option maxRecDepth 20000 in
theorem g_BufferWalk_init : GoodIn wt w_BufferWalk_init := gd_in wt_good (wt_in 248 (by rfl) (by rfl))
abbrev b_BufferWalk_walk : ByteArray := prog_2_method_2_code
def y_BufferWalk_walk : MethodName := ⟨R_BufferWalk, "walk", "(ILOrderModels$OutcomeSet;)V"⟩
abbrev w_BufferWalk_walk : List Cond := .code y_BufferWalk_walk b_BufferWalk_walk 3 none :: wt
set_option maxRecDepth 20000 in
theorem g_BufferWalk_walk : GoodIn wt w_BufferWalk_walk := gd_in wt_good (wt_in 647 (by rfl) (by rfl))
abbrev b_BufferWalk_spread : ByteArray := prog_2_method_3_code
def y_BufferWalk_spread : MethodName := ⟨R_BufferWalk, "spread", "(I)V"⟩
abbrev w_BufferWalk_spread : List Cond := .code y_BufferWalk_spread b_BufferWalk_spread 6 none :: wt
set_option maxRecDepth 20000 in
theorem g_BufferWalk_spread : GoodIn wt w_BufferWalk_spread := gd_in wt_good (wt_in 655 (by rfl) (by rfl))
abbrev b_BufferWalk_goNext : ByteArray := prog_2_method_4_code
def y_BufferWalk_goNext : MethodName := ⟨R_BufferWalk, "goNext", "(II)Z"⟩
abbrev w_BufferWalk_goNext : List Cond := .code y_BufferWalk_goNext b_BufferWalk_goNext 7 (some .boolean) :: wt
set_option maxRecDepth 20000 in
theorem g_BufferWalk_goNext : GoodIn wt w_BufferWalk_goNext := gd_in wt_good (wt_in 671 (by rfl) (by rfl))
abbrev b_BufferWalk_waitsForBuffers : ByteArray := prog_2_method_5_code
def y_BufferWalk_waitsForBuffers : MethodName := ⟨R_BufferWalk, "waitsForBuffers", "(I)Z"⟩
abbrev w_BufferWalk_waitsForBuffers : List Cond := .code y_BufferWalk_waitsForBuffers b_BufferWalk_waitsForBuffers 3 (some .boolean) :: wt
set_option maxRecDepth 20000 in
theorem g_BufferWalk_waitsForBuffers : GoodIn wt w_BufferWalk_waitsForBuffers := gd_in wt_good (wt_in 675 (by rfl) (by rfl))
abbrev b_BufferWalk_sourceFor : ByteArray := prog_2_method_6_code
def y_BufferWalk_sourceFor : MethodName := ⟨R_BufferWalk, "sourceFor", "(I)I"⟩
abbrev w_BufferWalk_sourceFor : List Cond := .code y_BufferWalk_sourceFor b_BufferWalk_sourceFor 5 (some .int) :: wt
set_option maxRecDepth 20000 in
theorem g_BufferWalk_sourceFor : GoodIn wt w_BufferWalk_sourceFor := gd_in wt_good (wt_in 684 (by rfl) (by rfl))
abbrev b_BufferWalk_keepWritten : ByteArray := prog_2_method_7_code
def y_BufferWalk_keepWritten : MethodName := ⟨R_BufferWalk, "keepWritten", "(I)V"⟩
abbrev w_BufferWalk_keepWritten : List Cond := .code y_BufferWalk_keepWritten b_BufferWalk_keepWritten 3 none :: wt
set_option maxRecDepth 20000 in
theorem g_BufferWalk_keepWritten : GoodIn wt w_BufferWalk_keepWritten := gd_in wt_good (wt_in 693 (by rfl) (by rfl))
abbrev b_BufferWalk_sourceIn : ByteArray := prog_2_method_8_code
def y_BufferWalk_sourceIn : MethodName := ⟨R_BufferWalk, "sourceIn", "(I)I"⟩
abbrev w_BufferWalk_sourceIn : List Cond := .code y_BufferWalk_sourceIn b_BufferWalk_sourceIn 2 (some .int) :: wt
set_option maxRecDepth 20000 in
theorem g_BufferWalk_sourceIn : GoodIn wt w_BufferWalk_sourceIn := gd_in wt_good (wt_in 688 (by rfl) (by rfl))
abbrev b_BufferWalk_putIntoMemory : ByteArray := prog_2_method_9_code
def y_BufferWalk_putIntoMemory : MethodName := ⟨R_BufferWalk, "putIntoMemory", "(I)V"⟩
abbrev w_BufferWalk_putIntoMemory : List Cond := .code y_BufferWalk_putIntoMemory b_BufferWalk_putIntoMemory 3 none :: wt
set_option maxRecDepth 20000 in
theorem g_BufferWalk_putIntoMemory : GoodIn wt w_BufferWalk_putIntoMemory := gd_in wt_good (wt_in 697 (by rfl) (by rfl))
abbrev b_BufferWalk_goFromBuffers : ByteArray := prog_2_method_10_code
def y_BufferWalk_goFromBuffers : MethodName := ⟨R_BufferWalk, "goFromBuffers", "(II)Z"⟩
abbrev w_BufferWalk_goFromBuffers : List Cond := .code y_BufferWalk_goFromBuffers b_BufferWalk_goFromBuffers 5 (some .boolean) :: wt
set_option maxRecDepth 20000 in
theorem g_BufferWalk_goFromBuffers : GoodIn wt w_BufferWalk_goFromBuffers := gd_in wt_good (wt_in 702 (by rfl) (by rfl))
abbrev b_BufferWalk_letGo : ByteArray := prog_2_method_11_code
def y_BufferWalk_letGo : MethodName := ⟨R_BufferWalk, "letGo", "(III)V"⟩
abbrev w_BufferWalk_letGo : List Cond := .code y_BufferWalk_letGo b_BufferWalk_letGo 6 none :: wt
set_option maxRecDepth 20000 in
theorem g_BufferWalk_letGo : GoodIn wt w_BufferWalk_letGo := gd_in wt_good (wt_in 706 (by rfl) (by rfl))
abbrev b_BufferWalk_noteRaces : ByteArray := prog_2_method_12_code
def y_BufferWalk_noteRaces : MethodName := ⟨R_BufferWalk, "noteRaces", "()V"⟩
abbrev w_BufferWalk_noteRaces : List Cond := .code y_BufferWalk_noteRaces b_BufferWalk_noteRaces 4 none :: wt
set_option maxRecDepth 20000 in
theorem g_BufferWalk_noteRaces : GoodIn wt w_BufferWalk_noteRaces := gd_in wt_good (wt_in 661 (by rfl) (by rfl))
abbrev b_GraphSearch_init : ByteArray := prog_3_method_1_code
def y_GraphSearch_init : MethodName := ⟨R_GraphSearch, "<init>", "(LOrderModels$Program;LOrderModels$Progress;)V"⟩
abbrev w_GraphSearch_init : List Cond := .code y_GraphSearch_init b_GraphSearch_init 3 none :: wt
set_option maxRecDepth 20000 in
theorem g_GraphSearch_init : GoodIn wt w_GraphSearch_init := gd_in wt_good (wt_in 317 (by rfl) (by rfl))
abbrev b_GraphSearch_search : ByteArray := prog_3_method_2_code
def y_GraphSearch_search : MethodName := ⟨R_GraphSearch, "search", "(ILOrderModels$OutcomeSet;)V"⟩
abbrev w_GraphSearch_search : List Cond := .code y_GraphSearch_search b_GraphSearch_search 4 none :: wt
set_option maxRecDepth 20000 in
theorem g_GraphSearch_search : GoodIn wt w_GraphSearch_search := gd_in wt_good (wt_in 744 (by rfl) (by rfl))
abbrev b_GraphSearch_tellOwn : ByteArray := prog_3_method_3_code
def y_GraphSearch_tellOwn : MethodName := ⟨R_GraphSearch, "tellOwn", "(I)V"⟩
abbrev w_GraphSearch_tellOwn : List Cond := .code y_GraphSearch_tellOwn b_GraphSearch_tellOwn 4 none :: wt
set_option maxRecDepth 20000 in
theorem g_GraphSearch_tellOwn : GoodIn wt w_GraphSearch_tellOwn := gd_in wt_good (wt_in 751 (by rfl) (by rfl))
abbrev b_GraphSearch_choose : ByteArray := prog_3_method_4_code
def y_GraphSearch_choose : MethodName := ⟨R_GraphSearch, "choose", "(I)V"⟩
abbrev w_GraphSearch_choose : List Cond := .code y_GraphSearch_choose b_GraphSearch_choose 5 none :: wt
set_option maxRecDepth 20000 in
theorem g_GraphSearch_choose : GoodIn wt w_GraphSearch_choose := gd_in wt_good (wt_in 763 (by rfl) (by rfl))
abbrev b_GraphSearch_freeThread : ByteArray := prog_3_method_5_code
def y_GraphSearch_freeThread : MethodName := ⟨R_GraphSearch, "freeThread", "()I"⟩
abbrev w_GraphSearch_freeThread : List Cond := .code y_GraphSearch_freeThread b_GraphSearch_freeThread 2 (some .int) :: wt
set_option maxRecDepth 20000 in
theorem g_GraphSearch_freeThread : GoodIn wt w_GraphSearch_freeThread := gd_in wt_good (wt_in 767 (by rfl) (by rfl))
abbrev b_GraphSearch_isBlocked : ByteArray := prog_3_method_6_code
def y_GraphSearch_isBlocked : MethodName := ⟨R_GraphSearch, "isBlocked", "(I)Z"⟩
abbrev w_GraphSearch_isBlocked : List Cond := .code y_GraphSearch_isBlocked b_GraphSearch_isBlocked 2 (some .boolean) :: wt
set_option maxRecDepth 20000 in
theorem g_GraphSearch_isBlocked : GoodIn wt w_GraphSearch_isBlocked := gd_in wt_good (wt_in 772 (by rfl) (by rfl))
abbrev b_GraphSearch_allEnded : ByteArray := prog_3_method_7_code
def y_GraphSearch_allEnded : MethodName := ⟨R_GraphSearch, "allEnded", "()Z"⟩
abbrev w_GraphSearch_allEnded : List Cond := .code y_GraphSearch_allEnded b_GraphSearch_allEnded 2 (some .boolean) :: wt
set_option maxRecDepth 20000 in
theorem g_GraphSearch_allEnded : GoodIn wt w_GraphSearch_allEnded := gd_in wt_good (wt_in 781 (by rfl) (by rfl))
abbrev b_GraphSearch_take : ByteArray := prog_3_method_8_code
def y_GraphSearch_take : MethodName := ⟨R_GraphSearch, "take", "(III)V"⟩
abbrev w_GraphSearch_take : List Cond := .code y_GraphSearch_take b_GraphSearch_take 5 none :: wt
set_option maxRecDepth 20000 in
theorem g_GraphSearch_take : GoodIn wt w_GraphSearch_take := gd_in wt_good (wt_in 837 (by rfl) (by rfl))
abbrev b_GraphSearch_chooseSource : ByteArray := prog_3_method_9_code
def y_GraphSearch_chooseSource : MethodName := ⟨R_GraphSearch, "chooseSource", "(II)V"⟩
abbrev w_GraphSearch_chooseSource : List Cond := .code y_GraphSearch_chooseSource b_GraphSearch_chooseSource 7 none :: wt
set_option maxRecDepth 20000 in
theorem g_GraphSearch_chooseSource : GoodIn wt w_GraphSearch_chooseSource := gd_in wt_good (wt_in 844 (by rfl) (by rfl))
abbrev b_GraphSearch_mayBeFrom : ByteArray := prog_3_method_10_code
def y_GraphSearch_mayBeFrom : MethodName := ⟨R_GraphSearch, "mayBeFrom", "(II)Z"⟩
abbrev w_GraphSearch_mayBeFrom : List Cond := .code y_GraphSearch_mayBeFrom b_GraphSearch_mayBeFrom 4 (some .boolean) :: wt
set_option maxRecDepth 20000 in
theorem g_GraphSearch_mayBeFrom : GoodIn wt w_GraphSearch_mayBeFrom := gd_in wt_good (wt_in 848 (by rfl) (by rfl))
abbrev b_GraphSearch_isPast : ByteArray := prog_3_method_11_code
def y_GraphSearch_isPast : MethodName := ⟨R_GraphSearch, "isPast", "(II)Z"⟩
abbrev w_GraphSearch_isPast : List Cond := .code y_GraphSearch_isPast b_GraphSearch_isPast 6 (some .boolean) :: wt
set_option maxRecDepth 20000 in
theorem g_GraphSearch_isPast : GoodIn wt w_GraphSearch_isPast := gd_in wt_good (wt_in 852 (by rfl) (by rfl))
abbrev b_GraphSearch_isBehind : ByteArray := prog_3_method_12_code
def y_GraphSearch_isBehind : MethodName := ⟨R_GraphSearch, "isBehind", "(II)Z"⟩
abbrev w_GraphSearch_isBehind : List Cond := .code y_GraphSearch_isBehind b_GraphSearch_isBehind 3 (some .boolean) :: wt
set_option maxRecDepth 20000 in
theorem g_GraphSearch_isBehind : GoodIn wt w_GraphSearch_isBehind := gd_in wt_good (wt_in 856 (by rfl) (by rfl))
abbrev b_GraphSearch_canHappen : ByteArray := prog_3_method_13_code
def y_GraphSearch_canHappen : MethodName := ⟨R_GraphSearch, "canHappen", "(II)Z"⟩
abbrev w_GraphSearch_canHappen : List Cond := .code y_GraphSearch_canHappen b_GraphSearch_canHappen 5 (some .boolean) :: wt
set_option maxRecDepth 20000 in
theorem g_GraphSearch_canHappen : GoodIn wt w_GraphSearch_canHappen := gd_in wt_good (wt_in 860 (by rfl) (by rfl))
abbrev b_GraphSearch_noteReaders : ByteArray := prog_3_method_14_code
def y_GraphSearch_noteReaders : MethodName := ⟨R_GraphSearch, "noteReaders", "()V"⟩
abbrev w_GraphSearch_noteReaders : List Cond := .code y_GraphSearch_noteReaders b_GraphSearch_noteReaders 2 none :: wt
set_option maxRecDepth 20000 in
theorem g_GraphSearch_noteReaders : GoodIn wt w_GraphSearch_noteReaders := gd_in wt_good (wt_in 785 (by rfl) (by rfl))
abbrev b_GraphSearch_noteReader : ByteArray := prog_3_method_15_code
def y_GraphSearch_noteReader : MethodName := ⟨R_GraphSearch, "noteReader", "(I)V"⟩
abbrev w_GraphSearch_noteReader : List Cond := .code y_GraphSearch_noteReader b_GraphSearch_noteReader 3 none :: wt
set_option maxRecDepth 20000 in
theorem g_GraphSearch_noteReader : GoodIn wt w_GraphSearch_noteReader := gd_in wt_good (wt_in 791 (by rfl) (by rfl))
abbrev b_GraphSearch_startRow : ByteArray := prog_3_method_16_code
def y_GraphSearch_startRow : MethodName := ⟨R_GraphSearch, "startRow", "(II)V"⟩
abbrev w_GraphSearch_startRow : List Cond := .code y_GraphSearch_startRow b_GraphSearch_startRow 4 none :: wt
set_option maxRecDepth 20000 in
theorem g_GraphSearch_startRow : GoodIn wt w_GraphSearch_startRow := gd_in wt_good (wt_in 795 (by rfl) (by rfl))
abbrev b_GraphSearch_lay : ByteArray := prog_3_method_17_code
def y_GraphSearch_lay : MethodName := ⟨R_GraphSearch, "lay", "(IIIIII)V"⟩
abbrev w_GraphSearch_lay : List Cond := .code y_GraphSearch_lay b_GraphSearch_lay 12 none :: wt
set_option maxRecDepth 20000 in
theorem g_GraphSearch_lay : GoodIn wt w_GraphSearch_lay := gd_in wt_good (wt_in 811 (by rfl) (by rfl))
abbrev b_GraphSearch_stands : ByteArray := prog_3_method_18_code
def y_GraphSearch_stands : MethodName := ⟨R_GraphSearch, "stands", "()Z"⟩
abbrev w_GraphSearch_stands : List Cond := .code y_GraphSearch_stands b_GraphSearch_stands 1 (some .boolean) :: wt
set_option maxRecDepth 20000 in
theorem g_GraphSearch_stands : GoodIn wt w_GraphSearch_stands := gd_in wt_good (wt_in 815 (by rfl) (by rfl))
abbrev b_GraphSearch_tellOuter : ByteArray := prog_3_method_19_code
def y_GraphSearch_tellOuter : MethodName := ⟨R_GraphSearch, "tellOuter", "()V"⟩
abbrev w_GraphSearch_tellOuter : List Cond := .code y_GraphSearch_tellOuter b_GraphSearch_tellOuter 3 none :: wt
set_option maxRecDepth 20000 in
theorem g_GraphSearch_tellOuter : GoodIn wt w_GraphSearch_tellOuter := gd_in wt_good (wt_in 827 (by rfl) (by rfl))
abbrev b_GraphSearch_hasNoRing : ByteArray := prog_3_method_20_code
def y_GraphSearch_hasNoRing : MethodName := ⟨R_GraphSearch, "hasNoRing", "([I[II)Z"⟩
abbrev w_GraphSearch_hasNoRing : List Cond := .code y_GraphSearch_hasNoRing b_GraphSearch_hasNoRing 7 (some .boolean) :: wt
set_option maxRecDepth 20000 in
theorem g_GraphSearch_hasNoRing : GoodIn wt w_GraphSearch_hasNoRing := gd_in wt_good (wt_in 819 (by rfl) (by rfl))
abbrev b_GraphSearch_closeHappens : ByteArray := prog_3_method_21_code
def y_GraphSearch_closeHappens : MethodName := ⟨R_GraphSearch, "closeHappens", "()V"⟩
abbrev w_GraphSearch_closeHappens : List Cond := .code y_GraphSearch_closeHappens b_GraphSearch_closeHappens 3 none :: wt
set_option maxRecDepth 20000 in
theorem g_GraphSearch_closeHappens : GoodIn wt w_GraphSearch_closeHappens := gd_in wt_good (wt_in 799 (by rfl) (by rfl))
abbrev b_GraphSearch_isKnownInOrder : ByteArray := prog_3_method_22_code
def y_GraphSearch_isKnownInOrder : MethodName := ⟨R_GraphSearch, "isKnownInOrder", "()Z"⟩
abbrev w_GraphSearch_isKnownInOrder : List Cond := .code y_GraphSearch_isKnownInOrder b_GraphSearch_isKnownInOrder 2 (some .boolean) :: wt
set_option maxRecDepth 20000 in
theorem g_GraphSearch_isKnownInOrder : GoodIn wt w_GraphSearch_isKnownInOrder := gd_in wt_good (wt_in 823 (by rfl) (by rfl))
abbrev b_KnowledgeWalk_init : ByteArray := prog_4_method_1_code
def y_KnowledgeWalk_init : MethodName := ⟨R_KnowledgeWalk, "<init>", "(LOrderModels$Program;LOrderModels$Progress;LOrderModels$StateSet;)V"⟩
abbrev w_KnowledgeWalk_init : List Cond := .code y_KnowledgeWalk_init b_KnowledgeWalk_init 4 none :: wt
set_option maxRecDepth 20000 in
theorem g_KnowledgeWalk_init : GoodIn wt w_KnowledgeWalk_init := gd_in wt_good (wt_in 283 (by rfl) (by rfl))
abbrev b_KnowledgeWalk_walk : ByteArray := prog_4_method_2_code
def y_KnowledgeWalk_walk : MethodName := ⟨R_KnowledgeWalk, "walk", "(LOrderModels$OutcomeSet;)V"⟩
abbrev w_KnowledgeWalk_walk : List Cond := .code y_KnowledgeWalk_walk b_KnowledgeWalk_walk 2 none :: wt
set_option maxRecDepth 20000 in
theorem g_KnowledgeWalk_walk : GoodIn wt w_KnowledgeWalk_walk := gd_in wt_good (wt_in 475 (by rfl) (by rfl))
abbrev b_KnowledgeWalk_spread : ByteArray := prog_4_method_3_code
def y_KnowledgeWalk_spread : MethodName := ⟨R_KnowledgeWalk, "spread", "(I)V"⟩
abbrev w_KnowledgeWalk_spread : List Cond := .code y_KnowledgeWalk_spread b_KnowledgeWalk_spread 5 none :: wt
set_option maxRecDepth 20000 in
theorem g_KnowledgeWalk_spread : GoodIn wt w_KnowledgeWalk_spread := gd_in wt_good (wt_in 502 (by rfl) (by rfl))
abbrev b_KnowledgeWalk_rowsKey : ByteArray := prog_4_method_4_code
def y_KnowledgeWalk_rowsKey : MethodName := ⟨R_KnowledgeWalk, "rowsKey", "()J"⟩
abbrev w_KnowledgeWalk_rowsKey : List Cond := .code y_KnowledgeWalk_rowsKey b_KnowledgeWalk_rowsKey 4 (some .long) :: wt
set_option maxRecDepth 20000 in
theorem g_KnowledgeWalk_rowsKey : GoodIn wt w_KnowledgeWalk_rowsKey := gd_in wt_good (wt_in 510 (by rfl) (by rfl))
abbrev b_KnowledgeWalk_goNext : ByteArray := prog_4_method_5_code
def y_KnowledgeWalk_goNext : MethodName := ⟨R_KnowledgeWalk, "goNext", "(II)V"⟩
abbrev w_KnowledgeWalk_goNext : List Cond := .code y_KnowledgeWalk_goNext b_KnowledgeWalk_goNext 3 none :: wt
set_option maxRecDepth 20000 in
theorem g_KnowledgeWalk_goNext : GoodIn wt w_KnowledgeWalk_goNext := gd_in wt_good (wt_in 546 (by rfl) (by rfl))
abbrev b_KnowledgeWalk_goRead : ByteArray := prog_4_method_6_code
def y_KnowledgeWalk_goRead : MethodName := ⟨R_KnowledgeWalk, "goRead", "(II)V"⟩
abbrev w_KnowledgeWalk_goRead : List Cond := .code y_KnowledgeWalk_goRead b_KnowledgeWalk_goRead 5 none :: wt
set_option maxRecDepth 20000 in
theorem g_KnowledgeWalk_goRead : GoodIn wt w_KnowledgeWalk_goRead := gd_in wt_good (wt_in 550 (by rfl) (by rfl))
abbrev b_KnowledgeWalk_goWrite : ByteArray := prog_4_method_7_code
def y_KnowledgeWalk_goWrite : MethodName := ⟨R_KnowledgeWalk, "goWrite", "(II)V"⟩
abbrev w_KnowledgeWalk_goWrite : List Cond := .code y_KnowledgeWalk_goWrite b_KnowledgeWalk_goWrite 5 none :: wt
set_option maxRecDepth 20000 in
theorem g_KnowledgeWalk_goWrite : GoodIn wt w_KnowledgeWalk_goWrite := gd_in wt_good (wt_in 591 (by rfl) (by rfl))
abbrev b_KnowledgeWalk_goAdd : ByteArray := prog_4_method_8_code
def y_KnowledgeWalk_goAdd : MethodName := ⟨R_KnowledgeWalk, "goAdd", "(II)V"⟩
abbrev w_KnowledgeWalk_goAdd : List Cond := .code y_KnowledgeWalk_goAdd b_KnowledgeWalk_goAdd 5 none :: wt
set_option maxRecDepth 20000 in
theorem g_KnowledgeWalk_goAdd : GoodIn wt w_KnowledgeWalk_goAdd := gd_in wt_good (wt_in 599 (by rfl) (by rfl))
abbrev b_KnowledgeWalk_take : ByteArray := prog_4_method_9_code
def y_KnowledgeWalk_take : MethodName := ⟨R_KnowledgeWalk, "take", "(IIIII)V"⟩
abbrev w_KnowledgeWalk_take : List Cond := .code y_KnowledgeWalk_take b_KnowledgeWalk_take 12 none :: wt
set_option maxRecDepth 20000 in
theorem g_KnowledgeWalk_take : GoodIn wt w_KnowledgeWalk_take := gd_in wt_good (wt_in 565 (by rfl) (by rfl))
abbrev b_KnowledgeWalk_insert : ByteArray := prog_4_method_10_code
def y_KnowledgeWalk_insert : MethodName := ⟨R_KnowledgeWalk, "insert", "(III)V"⟩
abbrev w_KnowledgeWalk_insert : List Cond := .code y_KnowledgeWalk_insert b_KnowledgeWalk_insert 7 none :: wt
set_option maxRecDepth 20000 in
theorem g_KnowledgeWalk_insert : GoodIn wt w_KnowledgeWalk_insert := gd_in wt_good (wt_in 581 (by rfl) (by rfl))
abbrev b_KnowledgeWalk_sourceAt : ByteArray := prog_4_method_11_code
def y_KnowledgeWalk_sourceAt : MethodName := ⟨R_KnowledgeWalk, "sourceAt", "(II)I"⟩
abbrev w_KnowledgeWalk_sourceAt : List Cond := .code y_KnowledgeWalk_sourceAt b_KnowledgeWalk_sourceAt 3 (some .int) :: wt
set_option maxRecDepth 20000 in
theorem g_KnowledgeWalk_sourceAt : GoodIn wt w_KnowledgeWalk_sourceAt := gd_in wt_good (wt_in 558 (by rfl) (by rfl))
abbrev b_KnowledgeWalk_lastIn : ByteArray := prog_4_method_12_code
def y_KnowledgeWalk_lastIn : MethodName := ⟨R_KnowledgeWalk, "lastIn", "(I)I"⟩
abbrev w_KnowledgeWalk_lastIn : List Cond := .code y_KnowledgeWalk_lastIn b_KnowledgeWalk_lastIn 2 (some .int) :: wt
set_option maxRecDepth 20000 in
theorem g_KnowledgeWalk_lastIn : GoodIn wt w_KnowledgeWalk_lastIn := gd_in wt_good (wt_in 603 (by rfl) (by rfl))
abbrev b_KnowledgeWalk_isAddAt : ByteArray := prog_4_method_13_code
def y_KnowledgeWalk_isAddAt : MethodName := ⟨R_KnowledgeWalk, "isAddAt", "(II)Z"⟩
abbrev w_KnowledgeWalk_isAddAt : List Cond := .code y_KnowledgeWalk_isAddAt b_KnowledgeWalk_isAddAt 4 (some .boolean) :: wt
set_option maxRecDepth 20000 in
theorem g_KnowledgeWalk_isAddAt : GoodIn wt w_KnowledgeWalk_isAddAt := gd_in wt_good (wt_in 595 (by rfl) (by rfl))
abbrev b_KnowledgeWalk_knownPlace : ByteArray := prog_4_method_14_code
def y_KnowledgeWalk_knownPlace : MethodName := ⟨R_KnowledgeWalk, "knownPlace", "(I)I"⟩
abbrev w_KnowledgeWalk_knownPlace : List Cond := .code y_KnowledgeWalk_knownPlace b_KnowledgeWalk_knownPlace 5 (some .int) :: wt
set_option maxRecDepth 20000 in
theorem g_KnowledgeWalk_knownPlace : GoodIn wt w_KnowledgeWalk_knownPlace := gd_in wt_good (wt_in 554 (by rfl) (by rfl))
abbrev b_OutcomeSet_init : ByteArray := prog_5_method_1_code
def y_OutcomeSet_init : MethodName := ⟨R_OutcomeSet, "<init>", "(I)V"⟩
abbrev w_OutcomeSet_init : List Cond := .code y_OutcomeSet_init b_OutcomeSet_init 2 none :: wt
set_option maxRecDepth 20000 in
theorem g_OutcomeSet_init : GoodIn wt w_OutcomeSet_init := gd_in wt_good (wt_in 376 (by rfl) (by rfl))
abbrev b_OutcomeSet_begin : ByteArray := prog_5_method_2_code
def y_OutcomeSet_begin : MethodName := ⟨R_OutcomeSet, "begin", "()V"⟩
abbrev w_OutcomeSet_begin : List Cond := .code y_OutcomeSet_begin b_OutcomeSet_begin 1 none :: wt
set_option maxRecDepth 20000 in
theorem g_OutcomeSet_begin : GoodIn wt w_OutcomeSet_begin := gd_in wt_good (wt_in 479 (by rfl) (by rfl))
abbrev b_OutcomeSet_addGraph : ByteArray := prog_5_method_3_code
def y_OutcomeSet_addGraph : MethodName := ⟨R_OutcomeSet, "addGraph", "(JI)V"⟩
abbrev w_OutcomeSet_addGraph : List Cond := .code y_OutcomeSet_addGraph b_OutcomeSet_addGraph 4 none :: wt
set_option maxRecDepth 20000 in
theorem g_OutcomeSet_addGraph : GoodIn wt w_OutcomeSet_addGraph := gd_in wt_good (wt_in 833 (by rfl) (by rfl))
abbrev b_OutcomeSet_addRun : ByteArray := prog_5_method_4_code
def y_OutcomeSet_addRun : MethodName := ⟨R_OutcomeSet, "addRun", "(JI[II)V"⟩
abbrev w_OutcomeSet_addRun : List Cond := .code y_OutcomeSet_addRun b_OutcomeSet_addRun 8 none :: wt
set_option maxRecDepth 20000 in
theorem g_OutcomeSet_addRun : GoodIn wt w_OutcomeSet_addRun := gd_in wt_good (wt_in 615 (by rfl) (by rfl))
abbrev b_OutcomeSet_add : ByteArray := prog_5_method_5_code
def y_OutcomeSet_add : MethodName := ⟨R_OutcomeSet, "add", "(JI)Z"⟩
abbrev w_OutcomeSet_add : List Cond := .code y_OutcomeSet_add b_OutcomeSet_add 5 (some .boolean) :: wt
set_option maxRecDepth 20000 in
theorem g_OutcomeSet_add : GoodIn wt w_OutcomeSet_add := gd_in wt_good (wt_in 619 (by rfl) (by rfl))
abbrev b_OutcomeSet_grow : ByteArray := prog_5_method_6_code
def y_OutcomeSet_grow : MethodName := ⟨R_OutcomeSet, "grow", "()V"⟩
abbrev w_OutcomeSet_grow : List Cond := .code y_OutcomeSet_grow b_OutcomeSet_grow 2 none :: wt
set_option maxRecDepth 20000 in
theorem g_OutcomeSet_grow : GoodIn wt w_OutcomeSet_grow := gd_in wt_good (wt_in 631 (by rfl) (by rfl))
abbrev b_OutcomeSet_firstNotLess : ByteArray := prog_5_method_7_code
def y_OutcomeSet_firstNotLess : MethodName := ⟨R_OutcomeSet, "firstNotLess", "(JI)I"⟩
abbrev w_OutcomeSet_firstNotLess : List Cond := .code y_OutcomeSet_firstNotLess b_OutcomeSet_firstNotLess 10 (some .int) :: wt
set_option maxRecDepth 20000 in
theorem g_OutcomeSet_firstNotLess : GoodIn wt w_OutcomeSet_firstNotLess := gd_in wt_good (wt_in 623 (by rfl) (by rfl))
abbrev b_OutcomeSet_isAt : ByteArray := prog_5_method_8_code
def y_OutcomeSet_isAt : MethodName := ⟨R_OutcomeSet, "isAt", "(IJI)Z"⟩
abbrev w_OutcomeSet_isAt : List Cond := .code y_OutcomeSet_isAt b_OutcomeSet_isAt 6 (some .boolean) :: wt
set_option maxRecDepth 20000 in
theorem g_OutcomeSet_isAt : GoodIn wt w_OutcomeSet_isAt := gd_in wt_good (wt_in 627 (by rfl) (by rfl))
abbrev b_OutcomeSet_countMissingIn : ByteArray := prog_5_method_9_code
def y_OutcomeSet_countMissingIn : MethodName := ⟨R_OutcomeSet, "countMissingIn", "(LOrderModels$OutcomeSet;)I"⟩
abbrev w_OutcomeSet_countMissingIn : List Cond := .code y_OutcomeSet_countMissingIn b_OutcomeSet_countMissingIn 5 (some .int) :: wt
set_option maxRecDepth 20000 in
theorem g_OutcomeSet_countMissingIn : GoodIn wt w_OutcomeSet_countMissingIn := gd_in wt_good (wt_in 876 (by rfl) (by rfl))
abbrev b_OutcomeSet_valueOf : ByteArray := prog_5_method_10_code
def y_OutcomeSet_valueOf : MethodName := ⟨R_OutcomeSet, "valueOf", "(II)I"⟩
abbrev w_OutcomeSet_valueOf : List Cond := .code y_OutcomeSet_valueOf b_OutcomeSet_valueOf 7 (some .int) :: wt
set_option maxRecDepth 20000 in
theorem g_OutcomeSet_valueOf : GoodIn wt w_OutcomeSet_valueOf := gd_in wt_good (wt_in 723 (by rfl) (by rfl))
abbrev b_OutcomeSet_stepOf : ByteArray := prog_5_method_11_code
def y_OutcomeSet_stepOf : MethodName := ⟨R_OutcomeSet, "stepOf", "(II)I"⟩
abbrev w_OutcomeSet_stepOf : List Cond := .code y_OutcomeSet_stepOf b_OutcomeSet_stepOf 4 (some .int) :: wt
set_option maxRecDepth 20000 in
theorem g_OutcomeSet_stepOf : GoodIn wt w_OutcomeSet_stepOf := gd_in wt_good (wt_in 732 (by rfl) (by rfl))
abbrev b_Program_init : ByteArray := prog_6_method_1_code
def y_Program_init : MethodName := ⟨R_Program, "<init>", "()V"⟩
abbrev w_Program_init : List Cond := .code y_Program_init b_Program_init 1 none :: wt
set_option maxRecDepth 20000 in
theorem g_Program_init : GoodIn wt w_Program_init := gd_in wt_good (wt_in 126 (by rfl) (by rfl))
abbrev b_Program_empty : ByteArray := prog_6_method_2_code
def y_Program_empty : MethodName := ⟨R_Program, "empty", "()V"⟩
abbrev w_Program_empty : List Cond := .code y_Program_empty b_Program_empty 1 none :: wt
set_option maxRecDepth 20000 in
theorem g_Program_empty : GoodIn wt w_Program_empty := gd_in wt_good (wt_in 457 (by rfl) (by rfl))
abbrev b_Program_addThread : ByteArray := prog_6_method_3_code
def y_Program_addThread : MethodName := ⟨R_Program, "addThread", "()I"⟩
abbrev w_Program_addThread : List Cond := .code y_Program_addThread b_Program_addThread 1 (some .int) :: wt
set_option maxRecDepth 20000 in
theorem g_Program_addThread : GoodIn wt w_Program_addThread := gd_in wt_good (wt_in 434 (by rfl) (by rfl))
abbrev b_Program_addAction : ByteArray := prog_6_method_4_code
def y_Program_addAction : MethodName := ⟨R_Program, "addAction", "(IIIII)I"⟩
abbrev w_Program_addAction : List Cond := .code y_Program_addAction b_Program_addAction 8 (some .int) :: wt
set_option maxRecDepth 20000 in
theorem g_Program_addAction : GoodIn wt w_Program_addAction := gd_in wt_good (wt_in 449 (by rfl) (by rfl))
abbrev b_Program_idAt : ByteArray := prog_6_method_5_code
def y_Program_idAt : MethodName := ⟨R_Program, "idAt", "(II)I"⟩
abbrev w_Program_idAt : List Cond := .code y_Program_idAt b_Program_idAt 3 (some .int) :: wt
set_option maxRecDepth 20000 in
theorem g_Program_idAt : GoodIn wt w_Program_idAt := gd_in wt_good (wt_in 542 (by rfl) (by rfl))
abbrev b_Program_takesValue : ByteArray := prog_6_method_6_code
def y_Program_takesValue : MethodName := ⟨R_Program, "takesValue", "(I)Z"⟩
abbrev w_Program_takesValue : List Cond := .code y_Program_takesValue b_Program_takesValue 2 (some .boolean) :: wt
set_option maxRecDepth 20000 in
theorem g_Program_takesValue : GoodIn wt w_Program_takesValue := gd_in wt_good (wt_in 680 (by rfl) (by rfl))
abbrev b_Program_stores : ByteArray := prog_6_method_7_code
def y_Program_stores : MethodName := ⟨R_Program, "stores", "()I"⟩
abbrev w_Program_stores : List Cond := .code y_Program_stores b_Program_stores 1 (some .int) :: wt
set_option maxRecDepth 20000 in
theorem g_Program_stores : GoodIn wt w_Program_stores := gd_in wt_good (wt_in 759 (by rfl) (by rfl))
abbrev b_Program_writersOf : ByteArray := prog_6_method_8_code
def y_Program_writersOf : MethodName := ⟨R_Program, "writersOf", "(I)I"⟩
abbrev w_Program_writersOf : List Cond := .code y_Program_writersOf b_Program_writersOf 2 (some .int) :: wt
set_option maxRecDepth 20000 in
theorem g_Program_writersOf : GoodIn wt w_Program_writersOf := gd_in wt_good (wt_in 807 (by rfl) (by rfl))
abbrev b_Program_rowOf : ByteArray := prog_6_method_9_code
def y_Program_rowOf : MethodName := ⟨R_Program, "rowOf", "(I)I"⟩
abbrev w_Program_rowOf : List Cond := .code y_Program_rowOf b_Program_rowOf 2 (some .int) :: wt
set_option maxRecDepth 20000 in
theorem g_Program_rowOf : GoodIn wt w_Program_rowOf := gd_in wt_good (wt_in 569 (by rfl) (by rfl))
abbrev b_Program_ownBefore : ByteArray := prog_6_method_10_code
def y_Program_ownBefore : MethodName := ⟨R_Program, "ownBefore", "(I)I"⟩
abbrev w_Program_ownBefore : List Cond := .code y_Program_ownBefore b_Program_ownBefore 2 (some .int) :: wt
set_option maxRecDepth 20000 in
theorem g_Program_ownBefore : GoodIn wt w_Program_ownBefore := gd_in wt_good (wt_in 755 (by rfl) (by rfl))
abbrev b_Program_ownAfter : ByteArray := prog_6_method_11_code
def y_Program_ownAfter : MethodName := ⟨R_Program, "ownAfter", "(I)I"⟩
abbrev w_Program_ownAfter : List Cond := .code y_Program_ownAfter b_Program_ownAfter 2 (some .int) :: wt
set_option maxRecDepth 20000 in
theorem g_Program_ownAfter : GoodIn wt w_Program_ownAfter := gd_in wt_good (wt_in 803 (by rfl) (by rfl))
abbrev b_Program_rivalsOf : ByteArray := prog_6_method_12_code
def y_Program_rivalsOf : MethodName := ⟨R_Program, "rivalsOf", "(I)I"⟩
abbrev w_Program_rivalsOf : List Cond := .code y_Program_rivalsOf b_Program_rivalsOf 4 (some .int) :: wt
set_option maxRecDepth 20000 in
theorem g_Program_rivalsOf : GoodIn wt w_Program_rivalsOf := gd_in wt_good (wt_in 667 (by rfl) (by rfl))
abbrev b_Progress_init : ByteArray := prog_7_method_1_code
def y_Progress_init : MethodName := ⟨R_Progress, "<init>", "(LOrderModels$Program;)V"⟩
abbrev w_Progress_init : List Cond := .code y_Progress_init b_Progress_init 2 none :: wt
set_option maxRecDepth 20000 in
theorem g_Progress_init : GoodIn wt w_Progress_init := gd_in wt_good (wt_in 201 (by rfl) (by rfl))
abbrev b_Progress_begin : ByteArray := prog_7_method_2_code
def y_Progress_begin : MethodName := ⟨R_Progress, "begin", "()V"⟩
abbrev w_Progress_begin : List Cond := .code y_Progress_begin b_Progress_begin 1 none :: wt
set_option maxRecDepth 20000 in
theorem g_Progress_begin : GoodIn wt w_Progress_begin := gd_in wt_good (wt_in 496 (by rfl) (by rfl))
abbrev b_Progress_next : ByteArray := prog_7_method_3_code
def y_Progress_next : MethodName := ⟨R_Progress, "next", "(I)I"⟩
abbrev w_Progress_next : List Cond := .code y_Progress_next b_Progress_next 2 (some .int) :: wt
set_option maxRecDepth 20000 in
theorem g_Progress_next : GoodIn wt w_Progress_next := gd_in wt_good (wt_in 538 (by rfl) (by rfl))
abbrev b_Progress_registerOf : ByteArray := prog_7_method_4_code
def y_Progress_registerOf : MethodName := ⟨R_Progress, "registerOf", "(I)I"⟩
abbrev w_Progress_registerOf : List Cond := .code y_Progress_registerOf b_Progress_registerOf 2 (some .int) :: wt
set_option maxRecDepth 20000 in
theorem g_Progress_registerOf : GoodIn wt w_Progress_registerOf := gd_in wt_good (wt_in 573 (by rfl) (by rfl))
abbrev b_Progress_perform : ByteArray := prog_7_method_5_code
def y_Progress_perform : MethodName := ⟨R_Progress, "perform", "(II)V"⟩
abbrev w_Progress_perform : List Cond := .code y_Progress_perform b_Progress_perform 6 none :: wt
set_option maxRecDepth 20000 in
theorem g_Progress_perform : GoodIn wt w_Progress_perform := gd_in wt_good (wt_in 577 (by rfl) (by rfl))
abbrev b_Progress_undo : ByteArray := prog_7_method_6_code
def y_Progress_undo : MethodName := ⟨R_Progress, "undo", "(II)V"⟩
abbrev w_Progress_undo : List Cond := .code y_Progress_undo b_Progress_undo 3 none :: wt
set_option maxRecDepth 20000 in
theorem g_Progress_undo : GoodIn wt w_Progress_undo := gd_in wt_good (wt_in 585 (by rfl) (by rfl))
abbrev b_Progress_isWritten : ByteArray := prog_7_method_7_code
def y_Progress_isWritten : MethodName := ⟨R_Progress, "isWritten", "(I)Z"⟩
abbrev w_Progress_isWritten : List Cond := .code y_Progress_isWritten b_Progress_isWritten 2 (some .boolean) :: wt
set_option maxRecDepth 20000 in
theorem g_Progress_isWritten : GoodIn wt w_Progress_isWritten := gd_in wt_good (wt_in 776 (by rfl) (by rfl))
abbrev b_Progress_key : ByteArray := prog_7_method_8_code
def y_Progress_key : MethodName := ⟨R_Progress, "key", "()J"⟩
abbrev w_Progress_key : List Cond := .code y_Progress_key b_Progress_key 1 (some .long) :: wt
set_option maxRecDepth 20000 in
theorem g_Progress_key : GoodIn wt w_Progress_key := gd_in wt_good (wt_in 506 (by rfl) (by rfl))
abbrev b_Progress_registersKey : ByteArray := prog_7_method_9_code
def y_Progress_registersKey : MethodName := ⟨R_Progress, "registersKey", "()J"⟩
abbrev w_Progress_registersKey : List Cond := .code y_Progress_registersKey b_Progress_registersKey 4 (some .long) :: wt
set_option maxRecDepth 20000 in
theorem g_Progress_registersKey : GoodIn wt w_Progress_registersKey := gd_in wt_good (wt_in 611 (by rfl) (by rfl))
abbrev b_Progress_variablesKey : ByteArray := prog_7_method_10_code
def y_Progress_variablesKey : MethodName := ⟨R_Progress, "variablesKey", "(III)I"⟩
abbrev w_Progress_variablesKey : List Cond := .code y_Progress_variablesKey b_Progress_variablesKey 5 (some .int) :: wt
set_option maxRecDepth 20000 in
theorem g_Progress_variablesKey : GoodIn wt w_Progress_variablesKey := gd_in wt_good (wt_in 607 (by rfl) (by rfl))
abbrev b_StateSet_init : ByteArray := prog_8_method_1_code
def y_StateSet_init : MethodName := ⟨R_StateSet, "<init>", "()V"⟩
abbrev w_StateSet_init : List Cond := .code y_StateSet_init b_StateSet_init 1 none :: wt
set_option maxRecDepth 20000 in
theorem g_StateSet_init : GoodIn wt w_StateSet_init := gd_in wt_good (wt_in 228 (by rfl) (by rfl))
abbrev b_StateSet_empty : ByteArray := prog_8_method_2_code
def y_StateSet_empty : MethodName := ⟨R_StateSet, "empty", "()V"⟩
abbrev w_StateSet_empty : List Cond := .code y_StateSet_empty b_StateSet_empty 1 none :: wt
set_option maxRecDepth 20000 in
theorem g_StateSet_empty : GoodIn wt w_StateSet_empty := gd_in wt_good (wt_in 483 (by rfl) (by rfl))
abbrev b_StateSet_add : ByteArray := prog_8_method_3_code
def y_StateSet_add : MethodName := ⟨R_StateSet, "add", "(J)Z"⟩
abbrev w_StateSet_add : List Cond := .code y_StateSet_add b_StateSet_add 4 (some .boolean) :: wt
set_option maxRecDepth 20000 in
theorem g_StateSet_add : GoodIn wt w_StateSet_add := gd_in wt_good (wt_in 514 (by rfl) (by rfl))
abbrev b_StateSet_makeRoom : ByteArray := prog_8_method_4_code
def y_StateSet_makeRoom : MethodName := ⟨R_StateSet, "makeRoom", "(I)V"⟩
abbrev w_StateSet_makeRoom : List Cond := .code y_StateSet_makeRoom b_StateSet_makeRoom 3 none :: wt
set_option maxRecDepth 20000 in
theorem g_StateSet_makeRoom : GoodIn wt w_StateSet_makeRoom := gd_in wt_good (wt_in 487 (by rfl) (by rfl))
abbrev b_StateSet_slotOf : ByteArray := prog_8_method_5_code
def y_StateSet_slotOf : MethodName := ⟨R_StateSet, "slotOf", "(J)I"⟩
abbrev w_StateSet_slotOf : List Cond := .code y_StateSet_slotOf b_StateSet_slotOf 6 (some .int) :: wt
set_option maxRecDepth 20000 in
theorem g_StateSet_slotOf : GoodIn wt w_StateSet_slotOf := gd_in wt_good (wt_in 491 (by rfl) (by rfl))
abbrev b_Object_init : ByteArray := object_method_1_code
def y_Object_init : MethodName := ⟨R_Object, "<init>", "()V"⟩
abbrev w_Object_init : List Cond := .code y_Object_init b_Object_init 1 none :: wt
set_option maxRecDepth 20000 in
theorem g_Object_init : GoodIn wt w_Object_init := gd_in wt_good (wt_in 121 (by rfl) (by rfl))
abbrev b_Integer_bitCount : ByteArray := prog_12_method_49_code
def y_Integer_bitCount : MethodName := ⟨R_Integer, "bitCount", "(I)I"⟩
abbrev w_Integer_bitCount : List Cond := .code y_Integer_bitCount b_Integer_bitCount 1 (some .int) :: wt
set_option maxRecDepth 20000 in
theorem g_Integer_bitCount : GoodIn wt w_Integer_bitCount := gd_in wt_good (wt_in 709 (by rfl) (by rfl))
abbrev b_Math_max : ByteArray := prog_13_method_65_code
def y_Math_max : MethodName := ⟨R_Math, "max", "(II)I"⟩
abbrev w_Math_max : List Cond := .code y_Math_max b_Math_max 2 (some .int) :: wt
set_option maxRecDepth 20000 in
theorem g_Math_max : GoodIn wt w_Math_max := gd_in wt_good (wt_in 518 (by rfl) (by rfl))
abbrev b_Math_min : ByteArray := prog_13_method_69_code
def y_Math_min : MethodName := ⟨R_Math, "min", "(II)I"⟩
abbrev w_Math_min : List Cond := .code y_Math_min b_Math_min 2 (some .int) :: wt
set_option maxRecDepth 20000 in
theorem g_Math_min : GoodIn wt w_Math_min := gd_in wt_good (wt_in 531 (by rfl) (by rfl))
abbrev b_Arrays_copyOf : ByteArray := prog_15_method_123_code
def y_Arrays_copyOf : MethodName := ⟨R_Arrays, "copyOf", "([II)[I"⟩
abbrev w_Arrays_copyOf : List Cond := .code y_Arrays_copyOf b_Arrays_copyOf 3 (some (.array .int)) :: wt
set_option maxRecDepth 20000 in
theorem g_Arrays_copyOf : GoodIn wt w_Arrays_copyOf := gd_in wt_good (wt_in 636 (by rfl) (by rfl))
abbrev b_Arrays_copyOf2 : ByteArray := prog_15_method_124_code
def y_Arrays_copyOf2 : MethodName := ⟨R_Arrays, "copyOf", "([JI)[J"⟩
abbrev w_Arrays_copyOf2 : List Cond := .code y_Arrays_copyOf2 b_Arrays_copyOf2 3 (some (.array .long)) :: wt
set_option maxRecDepth 20000 in
theorem g_Arrays_copyOf2 : GoodIn wt w_Arrays_copyOf2 := gd_in wt_good (wt_in 521 (by rfl) (by rfl))
abbrev b_Arrays_fill : ByteArray := prog_15_method_103_code
def y_Arrays_fill : MethodName := ⟨R_Arrays, "fill", "([II)V"⟩
abbrev w_Arrays_fill : List Cond := .code y_Arrays_fill b_Arrays_fill 4 none :: wt
set_option maxRecDepth 20000 in
theorem g_Arrays_fill : GoodIn wt w_Arrays_fill := gd_in wt_good (wt_in 460 (by rfl) (by rfl))
def wnM : List (String × Nat × MethodName × String) := [(R_OM, 11, y_Program_init, "OrderModels"), (R_OM, 23, y_StateSet_init, "OrderModels"), (R_BufferWalk, 146, y_OM_isIn, "OrderModels"), (R_GraphSearch, 166, y_OM_isIn, "OrderModels"), (R_KnowledgeWalk, 154, y_OM_isIn, "OrderModels"), (R_Progress, 67, y_OM_isIn, "OrderModels")]
theorem nq {q : String × Nat × MethodName × String} (i : Nat) (h : wnM[i]? = some q) : q ∈ wnM := List.mem_of_getElem? h
def nw (U : State) : Prop := (∀ q ∈ wnM, va_Nw (.methodLinkNest q.1 q.2.1 q.2.2.1 q.2.2.2) U) ∧ va_AO "OrderModels$OutcomeSet" U ∧ va_Nw (.castable "[I" "java/lang/Cloneable") U ∧ va_Nw (.castable "[J" "java/lang/Cloneable") U
theorem nw_warm {s U : State} (hW : s.WarmedH U.vm) (h : nw s) : nw U := ⟨fun q hq => va_Nw.warmM hW (h.1 q hq), va_AO.moved hW.alike h.2.1, va_Nw.warmC hW h.2.2.1, va_Nw.warmC hW h.2.2.2⟩
theorem nw_call {U : State} {g : JFrame} {mk : MethodId} {a : Array Value} (h : nw U) : nw (U.calling g mk a) := ⟨fun q hq => va_Nw.same rfl rfl (h.1 q hq), va_AO.moved (u := U) (U := U.calling g mk a) (Vm.Alike.refl U.vm) h.2.1, va_Nw.same rfl rfl h.2.2.1, va_Nw.same rfl rfl h.2.2.2⟩
