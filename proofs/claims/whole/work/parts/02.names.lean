def R_Program : String := "OrderModels$Program"
def F_Program : u_T := fun k => match k with
  | 0 => ("OrderModels$Program", "lengths", "[I", true)
  | 1 => ("OrderModels$Program", "ids", "[I", true)
  | 2 => ("OrderModels$Program", "threadOf", "[I", true)
  | 3 => ("OrderModels$Program", "placeOf", "[I", true)
  | 4 => ("OrderModels$Program", "kindOf", "[I", true)
  | 5 => ("OrderModels$Program", "variableOf", "[I", true)
  | 6 => ("OrderModels$Program", "cellOf", "[I", true)
  | 7 => ("OrderModels$Program", "numberOf", "[I", true)
  | 8 => ("OrderModels$Program", "ofThread", "[I", true)
  | 9 => ("OrderModels$Program", "ofKind", "[I", true)
  | 10 => ("OrderModels$Program", "onVariable", "[I", true)
  | 11 => ("OrderModels$Program", "threads", "I", false)
  | _ => ("OrderModels$Program", "actions", "I", false)
def t_Program : Nat → FieldType := fun k => match k with
  | 0 => .array .int
  | 1 => .array .int
  | 2 => .array .int
  | 3 => .array .int
  | 4 => .array .int
  | 5 => .array .int
  | 6 => .array .int
  | 7 => .array .int
  | 8 => .array .int
  | 9 => .array .int
  | 10 => .array .int
  | 11 => .int
  | _ => .int
def R_Progress : String := "OrderModels$Progress"
def F_Progress : u_T := fun k => match k with
  | 0 => ("OrderModels$Progress", "program", "LOrderModels$Program;", true)
  | 1 => ("OrderModels$Progress", "places", "[I", true)
  | 2 => ("OrderModels$Progress", "registers", "[I", true)
  | 3 => ("OrderModels$Progress", "values", "[I", true)
  | 4 => ("OrderModels$Progress", "done", "I", false)
  | _ => ("OrderModels$Progress", "sources", "J", false)
def t_Progress : Nat → FieldType := fun k => match k with
  | 0 => .object "OrderModels$Program"
  | 1 => .array .int
  | 2 => .array .int
  | 3 => .array .int
  | 4 => .int
  | _ => .long
def R_StateSet : String := "OrderModels$StateSet"
def F_StateSet : u_T := fun k => match k with
  | 0 => ("OrderModels$StateSet", "keys", "[J", false)
  | 1 => ("OrderModels$StateSet", "slots", "[I", false)
  | 2 => ("OrderModels$StateSet", "size", "I", false)
  | _ => ("OrderModels$StateSet", "room", "I", false)
def t_StateSet : Nat → FieldType := fun k => match k with
  | 0 => .array .long
  | 1 => .array .int
  | 2 => .int
  | _ => .int
def R_OutcomeSet : String := "OrderModels$OutcomeSet"
def F_OutcomeSet : u_T := fun k => match k with
  | 0 => ("OrderModels$OutcomeSet", "stepsEach", "I", true)
  | 1 => ("OrderModels$OutcomeSet", "registers", "[J", false)
  | 2 => ("OrderModels$OutcomeSet", "variables", "[I", false)
  | 3 => ("OrderModels$OutcomeSet", "lengths", "[I", false)
  | 4 => ("OrderModels$OutcomeSet", "steps", "[I", false)
  | 5 => ("OrderModels$OutcomeSet", "order", "[I", false)
  | 6 => ("OrderModels$OutcomeSet", "size", "I", false)
  | 7 => ("OrderModels$OutcomeSet", "standing", "I", false)
  | _ => ("OrderModels$OutcomeSet", "ready", "Z", false)
def t_OutcomeSet : Nat → FieldType := fun k => match k with
  | 0 => .int
  | 1 => .array .long
  | 2 => .array .int
  | 3 => .array .int
  | 4 => .array .int
  | 5 => .array .int
  | 6 => .int
  | 7 => .int
  | _ => .boolean
def R_BufferWalk : String := "OrderModels$BufferWalk"
def F_BufferWalk : u_T := fun k => match k with
  | 0 => ("OrderModels$BufferWalk", "program", "LOrderModels$Program;", true)
  | 1 => ("OrderModels$BufferWalk", "progress", "LOrderModels$Progress;", true)
  | 2 => ("OrderModels$BufferWalk", "seen", "LOrderModels$StateSet;", true)
  | 3 => ("OrderModels$BufferWalk", "path", "[I", true)
  | 4 => ("OrderModels$BufferWalk", "racing", "[I", true)
  | 5 => ("OrderModels$BufferWalk", "found", "LOrderModels$OutcomeSet;", false)
  | 6 => ("OrderModels$BufferWalk", "model", "I", false)
  | 7 => ("OrderModels$BufferWalk", "memory", "I", false)
  | _ => ("OrderModels$BufferWalk", "held", "I", false)
def t_BufferWalk : Nat → FieldType := fun k => match k with
  | 0 => .object "OrderModels$Program"
  | 1 => .object "OrderModels$Progress"
  | 2 => .object "OrderModels$StateSet"
  | 3 => .array .int
  | 4 => .array .int
  | 5 => .object "OrderModels$OutcomeSet"
  | 6 => .int
  | 7 => .int
  | _ => .int
def R_KnowledgeWalk : String := "OrderModels$KnowledgeWalk"
def F_KnowledgeWalk : u_T := fun k => match k with
  | 0 => ("OrderModels$KnowledgeWalk", "program", "LOrderModels$Program;", true)
  | 1 => ("OrderModels$KnowledgeWalk", "progress", "LOrderModels$Progress;", true)
  | 2 => ("OrderModels$KnowledgeWalk", "seen", "LOrderModels$StateSet;", true)
  | 3 => ("OrderModels$KnowledgeWalk", "path", "[I", true)
  | 4 => ("OrderModels$KnowledgeWalk", "rows", "[I", true)
  | 5 => ("OrderModels$KnowledgeWalk", "sizes", "[I", true)
  | 6 => ("OrderModels$KnowledgeWalk", "learned", "[I", true)
  | 7 => ("OrderModels$KnowledgeWalk", "told", "[I", true)
  | _ => ("OrderModels$KnowledgeWalk", "found", "LOrderModels$OutcomeSet;", false)
def t_KnowledgeWalk : Nat → FieldType := fun k => match k with
  | 0 => .object "OrderModels$Program"
  | 1 => .object "OrderModels$Progress"
  | 2 => .object "OrderModels$StateSet"
  | 3 => .array .int
  | 4 => .array .int
  | 5 => .array .int
  | 6 => .array .int
  | 7 => .array .int
  | _ => .object "OrderModels$OutcomeSet"
def R_GraphSearch : String := "OrderModels$GraphSearch"
def F_GraphSearch : u_T := fun k => match k with
  | 0 => ("OrderModels$GraphSearch", "program", "LOrderModels$Program;", true)
  | 1 => ("OrderModels$GraphSearch", "progress", "LOrderModels$Progress;", true)
  | 2 => ("OrderModels$GraphSearch", "from", "[I", true)
  | 3 => ("OrderModels$GraphSearch", "waits", "[I", true)
  | 4 => ("OrderModels$GraphSearch", "taken", "[I", true)
  | 5 => ("OrderModels$GraphSearch", "own", "[I", true)
  | 6 => ("OrderModels$GraphSearch", "ownOnOne", "[I", true)
  | 7 => ("OrderModels$GraphSearch", "ownKept", "[I", true)
  | 8 => ("OrderModels$GraphSearch", "readers", "[I", true)
  | 9 => ("OrderModels$GraphSearch", "firstReaders", "[I", true)
  | 10 => ("OrderModels$GraphSearch", "lasts", "[I", true)
  | 11 => ("OrderModels$GraphSearch", "before", "[I", true)
  | 12 => ("OrderModels$GraphSearch", "outerBefore", "[I", true)
  | 13 => ("OrderModels$GraphSearch", "happens", "[I", true)
  | 14 => ("OrderModels$GraphSearch", "found", "LOrderModels$OutcomeSet;", false)
  | 15 => ("OrderModels$GraphSearch", "model", "I", false)
  | _ => ("OrderModels$GraphSearch", "members", "I", false)
def t_GraphSearch : Nat → FieldType := fun k => match k with
  | 0 => .object "OrderModels$Program"
  | 1 => .object "OrderModels$Progress"
  | 2 => .array .int
  | 3 => .array .int
  | 4 => .array .int
  | 5 => .array .int
  | 6 => .array .int
  | 7 => .array .int
  | 8 => .array .int
  | 9 => .array .int
  | 10 => .array .int
  | 11 => .array .int
  | 12 => .array .int
  | 13 => .array .int
  | 14 => .object "OrderModels$OutcomeSet"
  | 15 => .int
  | _ => .int
def R_OM : String := "OrderModels"
def F_OM : u_T := fun k => match k with
  | 0 => ("OrderModels", "program", "LOrderModels$Program;", true)
  | 1 => ("OrderModels", "bufferWalk", "LOrderModels$BufferWalk;", true)
  | 2 => ("OrderModels", "knowledgeWalk", "LOrderModels$KnowledgeWalk;", true)
  | 3 => ("OrderModels", "graphSearch", "LOrderModels$GraphSearch;", true)
  | 4 => ("OrderModels", "byRuns", "[LOrderModels$OutcomeSet;", true)
  | _ => ("OrderModels", "byGraphs", "[LOrderModels$OutcomeSet;", true)
def t_OM : Nat → FieldType := fun k => match k with
  | 0 => .object "OrderModels$Program"
  | 1 => .object "OrderModels$BufferWalk"
  | 2 => .object "OrderModels$KnowledgeWalk"
  | 3 => .object "OrderModels$GraphSearch"
  | 4 => .array (.object "OrderModels$OutcomeSet")
  | _ => .array (.object "OrderModels$OutcomeSet")
def R_Ref : String := "OrderModelsModel"
def F_Ref : u_T := fun k => match k with
  | 0 => ("OrderModelsModel", "threads", "I", false)
  | 1 => ("OrderModelsModel", "actions", "I", false)
  | 2 => ("OrderModelsModel", "sizes", "[I", true)
  | 3 => ("OrderModelsModel", "kinds", "[I", true)
  | 4 => ("OrderModelsModel", "variables", "[I", true)
  | 5 => ("OrderModelsModel", "registers", "[I", true)
  | 6 => ("OrderModelsModel", "values", "[I", true)
  | 7 => ("OrderModelsModel", "isFound", "[Z", true)
  | 8 => ("OrderModelsModel", "outcomeMany", "[I", true)
  | 9 => ("OrderModelsModel", "outcomes", "[S", true)
  | 10 => ("OrderModelsModel", "witnesses", "[S", true)
  | 11 => ("OrderModelsModel", "witnessSize", "[I", true)
  | 12 => ("OrderModelsModel", "order", "[I", true)
  | 13 => ("OrderModelsModel", "graphMany", "[I", true)
  | 14 => ("OrderModelsModel", "isRaced", "Z", false)
  | 15 => ("OrderModelsModel", "races", "[Z", true)
  | 16 => ("OrderModelsModel", "s", "[I", true)
  | 17 => ("OrderModelsModel", "kept", "[I", true)
  | 18 => ("OrderModelsModel", "steps", "[I", true)
  | 19 => ("OrderModelsModel", "model", "I", false)
  | 20 => ("OrderModelsModel", "wide", "I", false)
  | 21 => ("OrderModelsModel", "met", "[J", true)
  | 22 => ("OrderModelsModel", "metNext", "[I", true)
  | 23 => ("OrderModelsModel", "metFirst", "[I", true)
  | 24 => ("OrderModelsModel", "metMany", "I", false)
  | 25 => ("OrderModelsModel", "code", "[J", true)
  | 26 => ("OrderModelsModel", "codeBits", "I", false)
  | 27 => ("OrderModelsModel", "marksRaces", "Z", false)
  | 28 => ("OrderModelsModel", "now", "[I", true)
  | 29 => ("OrderModelsModel", "from", "[I", true)
  | 30 => ("OrderModelsModel", "happens", "[Z", true)
  | 31 => ("OrderModelsModel", "isDone", "[Z", true)
  | 32 => ("OrderModelsModel", "gives", "[I", true)
  | 33 => ("OrderModelsModel", "pc", "[I", true)
  | 34 => ("OrderModelsModel", "held", "[I", true)
  | 35 => ("OrderModelsModel", "list", "[I", true)
  | 36 => ("OrderModelsModel", "listed", "I", false)
  | 37 => ("OrderModelsModel", "graphModel", "I", false)
  | 38 => ("OrderModelsModel", "row", "[I", true)
  | 39 => ("OrderModelsModel", "rowSize", "[I", true)
  | 40 => ("OrderModelsModel", "number", "[I", true)
  | 41 => ("OrderModelsModel", "own", "[I", true)
  | 42 => ("OrderModelsModel", "reads", "[I", true)
  | 43 => ("OrderModelsModel", "before", "[I", true)
  | 44 => ("OrderModelsModel", "seen", "[I", true)
  | 45 => ("OrderModelsModel", "mask", "[I", true)
  | 46 => ("OrderModelsModel", "many", "I", false)
  | _ => ("OrderModelsModel", "hb", "[I", true)
def t_Ref : Nat → FieldType := fun k => match k with
  | 0 => .int
  | 1 => .int
  | 2 => .array .int
  | 3 => .array .int
  | 4 => .array .int
  | 5 => .array .int
  | 6 => .array .int
  | 7 => .array .boolean
  | 8 => .array .int
  | 9 => .array .short
  | 10 => .array .short
  | 11 => .array .int
  | 12 => .array .int
  | 13 => .array .int
  | 14 => .boolean
  | 15 => .array .boolean
  | 16 => .array .int
  | 17 => .array .int
  | 18 => .array .int
  | 19 => .int
  | 20 => .int
  | 21 => .array .long
  | 22 => .array .int
  | 23 => .array .int
  | 24 => .int
  | 25 => .array .long
  | 26 => .int
  | 27 => .boolean
  | 28 => .array .int
  | 29 => .array .int
  | 30 => .array .boolean
  | 31 => .array .boolean
  | 32 => .array .int
  | 33 => .array .int
  | 34 => .array .int
  | 35 => .array .int
  | 36 => .int
  | 37 => .int
  | 38 => .array .int
  | 39 => .array .int
  | 40 => .array .int
  | 41 => .array .int
  | 42 => .array .int
  | 43 => .array .int
  | 44 => .array .int
  | 45 => .array .int
  | 46 => .int
  | _ => .array .int
abbrev classes : List vw_C := [(R_Program, F_Program, 13), (R_Progress, F_Progress, 6), (R_StateSet, F_StateSet, 4), (R_OutcomeSet, F_OutcomeSet, 9), (R_BufferWalk, F_BufferWalk, 9), (R_KnowledgeWalk, F_KnowledgeWalk, 9), (R_GraphSearch, F_GraphSearch, 17), (R_OM, F_OM, 6), (R_Ref, F_Ref, 48)]
theorem n_Program : ∀ a, a < 13 → ∀ b, b < 13 → a ≠ b → (F_Program a).2.1 ≠ (F_Program b).2.1 := by decide +kernel
theorem t_Program_ok : ∀ k, k < 13 → parseFieldDescriptor (F_Program k).2.2.1 = some (t_Program k) := by decide +kernel
theorem i_Program : ∀ w ∈ u_ws R_Program F_Program 13, w ∈ wt := by
  intro w hw
  obtain ⟨k, hk, rfl⟩ := List.mem_map.mp hw
  have hk := List.mem_range.mp hk
  revert hk
  match k with
  | 0 => exact fun _ => wt_in 169 (by decide +kernel) (by decide +kernel)
  | 1 => exact fun _ => wt_in 171 (by decide +kernel) (by decide +kernel)
  | 2 => exact fun _ => wt_in 173 (by decide +kernel) (by decide +kernel)
  | 3 => exact fun _ => wt_in 175 (by decide +kernel) (by decide +kernel)
  | 4 => exact fun _ => wt_in 177 (by decide +kernel) (by decide +kernel)
  | 5 => exact fun _ => wt_in 179 (by decide +kernel) (by decide +kernel)
  | 6 => exact fun _ => wt_in 181 (by decide +kernel) (by decide +kernel)
  | 7 => exact fun _ => wt_in 183 (by decide +kernel) (by decide +kernel)
  | 8 => exact fun _ => wt_in 185 (by decide +kernel) (by decide +kernel)
  | 9 => exact fun _ => wt_in 187 (by decide +kernel) (by decide +kernel)
  | 10 => exact fun _ => wt_in 189 (by decide +kernel) (by decide +kernel)
  | 11 => exact fun _ => wt_in 191 (by decide +kernel) (by decide +kernel)
  | 12 => exact fun _ => wt_in 193 (by decide +kernel) (by decide +kernel)
  | k + 13 => exact fun h => absurd h (by omega)
theorem z_Program : ∀ j, j < 13 → defaultValue (t_Program j) = vp_V [.null, .null, .null, .null, .null, .null, .null, .null, .null, .null, .null, .int 0, .int 0] j := by
  intro j hj
  match j with
  | 0 => rfl
  | 1 => rfl
  | 2 => rfl
  | 3 => rfl
  | 4 => rfl
  | 5 => rfl
  | 6 => rfl
  | 7 => rfl
  | 8 => rfl
  | 9 => rfl
  | 10 => rfl
  | 11 => rfl
  | 12 => rfl
  | k + 13 => exact absurd hj (by omega)
theorem n_Progress : ∀ a, a < 6 → ∀ b, b < 6 → a ≠ b → (F_Progress a).2.1 ≠ (F_Progress b).2.1 := by decide +kernel
theorem t_Progress_ok : ∀ k, k < 6 → parseFieldDescriptor (F_Progress k).2.2.1 = some (t_Progress k) := by decide +kernel
theorem i_Progress : ∀ w ∈ u_ws R_Progress F_Progress 6, w ∈ wt := by
  intro w hw
  obtain ⟨k, hk, rfl⟩ := List.mem_map.mp hw
  have hk := List.mem_range.mp hk
  revert hk
  match k with
  | 0 => exact fun _ => wt_in 211 (by decide +kernel) (by decide +kernel)
  | 1 => exact fun _ => wt_in 213 (by decide +kernel) (by decide +kernel)
  | 2 => exact fun _ => wt_in 215 (by decide +kernel) (by decide +kernel)
  | 3 => exact fun _ => wt_in 217 (by decide +kernel) (by decide +kernel)
  | 4 => exact fun _ => wt_in 219 (by decide +kernel) (by decide +kernel)
  | 5 => exact fun _ => wt_in 221 (by decide +kernel) (by decide +kernel)
  | k + 6 => exact fun h => absurd h (by omega)
theorem z_Progress : ∀ j, j < 6 → defaultValue (t_Progress j) = vp_V [.null, .null, .null, .null, .int 0, .long 0] j := by
  intro j hj
  match j with
  | 0 => rfl
  | 1 => rfl
  | 2 => rfl
  | 3 => rfl
  | 4 => rfl
  | 5 => rfl
  | k + 6 => exact absurd hj (by omega)
theorem n_StateSet : ∀ a, a < 4 → ∀ b, b < 4 → a ≠ b → (F_StateSet a).2.1 ≠ (F_StateSet b).2.1 := by decide +kernel
theorem t_StateSet_ok : ∀ k, k < 4 → parseFieldDescriptor (F_StateSet k).2.2.1 = some (t_StateSet k) := by decide +kernel
theorem i_StateSet : ∀ w ∈ u_ws R_StateSet F_StateSet 4, w ∈ wt := by
  intro w hw
  obtain ⟨k, hk, rfl⟩ := List.mem_map.mp hw
  have hk := List.mem_range.mp hk
  revert hk
  match k with
  | 0 => exact fun _ => wt_in 234 (by decide +kernel) (by decide +kernel)
  | 1 => exact fun _ => wt_in 236 (by decide +kernel) (by decide +kernel)
  | 2 => exact fun _ => wt_in 238 (by decide +kernel) (by decide +kernel)
  | 3 => exact fun _ => wt_in 240 (by decide +kernel) (by decide +kernel)
  | k + 4 => exact fun h => absurd h (by omega)
theorem z_StateSet : ∀ j, j < 4 → defaultValue (t_StateSet j) = vp_V [.null, .null, .int 0, .int 0] j := by
  intro j hj
  match j with
  | 0 => rfl
  | 1 => rfl
  | 2 => rfl
  | 3 => rfl
  | k + 4 => exact absurd hj (by omega)
theorem n_OutcomeSet : ∀ a, a < 9 → ∀ b, b < 9 → a ≠ b → (F_OutcomeSet a).2.1 ≠ (F_OutcomeSet b).2.1 := by decide +kernel
theorem t_OutcomeSet_ok : ∀ k, k < 9 → parseFieldDescriptor (F_OutcomeSet k).2.2.1 = some (t_OutcomeSet k) := by decide +kernel
theorem i_OutcomeSet : ∀ w ∈ u_ws R_OutcomeSet F_OutcomeSet 9, w ∈ wt := by
  intro w hw
  obtain ⟨k, hk, rfl⟩ := List.mem_map.mp hw
  have hk := List.mem_range.mp hk
  revert hk
  match k with
  | 0 => exact fun _ => wt_in 389 (by decide +kernel) (by decide +kernel)
  | 1 => exact fun _ => wt_in 391 (by decide +kernel) (by decide +kernel)
  | 2 => exact fun _ => wt_in 393 (by decide +kernel) (by decide +kernel)
  | 3 => exact fun _ => wt_in 395 (by decide +kernel) (by decide +kernel)
  | 4 => exact fun _ => wt_in 397 (by decide +kernel) (by decide +kernel)
  | 5 => exact fun _ => wt_in 399 (by decide +kernel) (by decide +kernel)
  | 6 => exact fun _ => wt_in 401 (by decide +kernel) (by decide +kernel)
  | 7 => exact fun _ => wt_in 403 (by decide +kernel) (by decide +kernel)
  | 8 => exact fun _ => wt_in 405 (by decide +kernel) (by decide +kernel)
  | k + 9 => exact fun h => absurd h (by omega)
theorem z_OutcomeSet : ∀ j, j < 9 → defaultValue (t_OutcomeSet j) = vp_V [.int 0, .null, .null, .null, .null, .null, .int 0, .int 0, .int 0] j := by
  intro j hj
  match j with
  | 0 => rfl
  | 1 => rfl
  | 2 => rfl
  | 3 => rfl
  | 4 => rfl
  | 5 => rfl
  | 6 => rfl
  | 7 => rfl
  | 8 => rfl
  | k + 9 => exact absurd hj (by omega)
theorem n_BufferWalk : ∀ a, a < 9 → ∀ b, b < 9 → a ≠ b → (F_BufferWalk a).2.1 ≠ (F_BufferWalk b).2.1 := by decide +kernel
theorem t_BufferWalk_ok : ∀ k, k < 9 → parseFieldDescriptor (F_BufferWalk k).2.2.1 = some (t_BufferWalk k) := by decide +kernel
theorem i_BufferWalk : ∀ w ∈ u_ws R_BufferWalk F_BufferWalk 9, w ∈ wt := by
  intro w hw
  obtain ⟨k, hk, rfl⟩ := List.mem_map.mp hw
  have hk := List.mem_range.mp hk
  revert hk
  match k with
  | 0 => exact fun _ => wt_in 260 (by decide +kernel) (by decide +kernel)
  | 1 => exact fun _ => wt_in 262 (by decide +kernel) (by decide +kernel)
  | 2 => exact fun _ => wt_in 264 (by decide +kernel) (by decide +kernel)
  | 3 => exact fun _ => wt_in 266 (by decide +kernel) (by decide +kernel)
  | 4 => exact fun _ => wt_in 268 (by decide +kernel) (by decide +kernel)
  | 5 => exact fun _ => wt_in 270 (by decide +kernel) (by decide +kernel)
  | 6 => exact fun _ => wt_in 272 (by decide +kernel) (by decide +kernel)
  | 7 => exact fun _ => wt_in 274 (by decide +kernel) (by decide +kernel)
  | 8 => exact fun _ => wt_in 276 (by decide +kernel) (by decide +kernel)
  | k + 9 => exact fun h => absurd h (by omega)
theorem z_BufferWalk : ∀ j, j < 9 → defaultValue (t_BufferWalk j) = vp_V [.null, .null, .null, .null, .null, .null, .int 0, .int 0, .int 0] j := by
  intro j hj
  match j with
  | 0 => rfl
  | 1 => rfl
  | 2 => rfl
  | 3 => rfl
  | 4 => rfl
  | 5 => rfl
  | 6 => rfl
  | 7 => rfl
  | 8 => rfl
  | k + 9 => exact absurd hj (by omega)
theorem n_KnowledgeWalk : ∀ a, a < 9 → ∀ b, b < 9 → a ≠ b → (F_KnowledgeWalk a).2.1 ≠ (F_KnowledgeWalk b).2.1 := by decide +kernel
theorem t_KnowledgeWalk_ok : ∀ k, k < 9 → parseFieldDescriptor (F_KnowledgeWalk k).2.2.1 = some (t_KnowledgeWalk k) := by decide +kernel
theorem i_KnowledgeWalk : ∀ w ∈ u_ws R_KnowledgeWalk F_KnowledgeWalk 9, w ∈ wt := by
  intro w hw
  obtain ⟨k, hk, rfl⟩ := List.mem_map.mp hw
  have hk := List.mem_range.mp hk
  revert hk
  match k with
  | 0 => exact fun _ => wt_in 294 (by decide +kernel) (by decide +kernel)
  | 1 => exact fun _ => wt_in 296 (by decide +kernel) (by decide +kernel)
  | 2 => exact fun _ => wt_in 298 (by decide +kernel) (by decide +kernel)
  | 3 => exact fun _ => wt_in 300 (by decide +kernel) (by decide +kernel)
  | 4 => exact fun _ => wt_in 302 (by decide +kernel) (by decide +kernel)
  | 5 => exact fun _ => wt_in 304 (by decide +kernel) (by decide +kernel)
  | 6 => exact fun _ => wt_in 306 (by decide +kernel) (by decide +kernel)
  | 7 => exact fun _ => wt_in 308 (by decide +kernel) (by decide +kernel)
  | 8 => exact fun _ => wt_in 310 (by decide +kernel) (by decide +kernel)
  | k + 9 => exact fun h => absurd h (by omega)
theorem z_KnowledgeWalk : ∀ j, j < 9 → defaultValue (t_KnowledgeWalk j) = vp_V [.null, .null, .null, .null, .null, .null, .null, .null, .null] j := by
  intro j hj
  match j with
  | 0 => rfl
  | 1 => rfl
  | 2 => rfl
  | 3 => rfl
  | 4 => rfl
  | 5 => rfl
  | 6 => rfl
  | 7 => rfl
  | 8 => rfl
  | k + 9 => exact absurd hj (by omega)
theorem n_GraphSearch : ∀ a, a < 17 → ∀ b, b < 17 → a ≠ b → (F_GraphSearch a).2.1 ≠ (F_GraphSearch b).2.1 := by decide +kernel
theorem t_GraphSearch_ok : ∀ k, k < 17 → parseFieldDescriptor (F_GraphSearch k).2.2.1 = some (t_GraphSearch k) := by decide +kernel
theorem i_GraphSearch : ∀ w ∈ u_ws R_GraphSearch F_GraphSearch 17, w ∈ wt := by
  intro w hw
  obtain ⟨k, hk, rfl⟩ := List.mem_map.mp hw
  have hk := List.mem_range.mp hk
  revert hk
  match k with
  | 0 => exact fun _ => wt_in 336 (by decide +kernel) (by decide +kernel)
  | 1 => exact fun _ => wt_in 338 (by decide +kernel) (by decide +kernel)
  | 2 => exact fun _ => wt_in 340 (by decide +kernel) (by decide +kernel)
  | 3 => exact fun _ => wt_in 342 (by decide +kernel) (by decide +kernel)
  | 4 => exact fun _ => wt_in 344 (by decide +kernel) (by decide +kernel)
  | 5 => exact fun _ => wt_in 346 (by decide +kernel) (by decide +kernel)
  | 6 => exact fun _ => wt_in 348 (by decide +kernel) (by decide +kernel)
  | 7 => exact fun _ => wt_in 350 (by decide +kernel) (by decide +kernel)
  | 8 => exact fun _ => wt_in 352 (by decide +kernel) (by decide +kernel)
  | 9 => exact fun _ => wt_in 354 (by decide +kernel) (by decide +kernel)
  | 10 => exact fun _ => wt_in 356 (by decide +kernel) (by decide +kernel)
  | 11 => exact fun _ => wt_in 358 (by decide +kernel) (by decide +kernel)
  | 12 => exact fun _ => wt_in 360 (by decide +kernel) (by decide +kernel)
  | 13 => exact fun _ => wt_in 362 (by decide +kernel) (by decide +kernel)
  | 14 => exact fun _ => wt_in 364 (by decide +kernel) (by decide +kernel)
  | 15 => exact fun _ => wt_in 366 (by decide +kernel) (by decide +kernel)
  | 16 => exact fun _ => wt_in 368 (by decide +kernel) (by decide +kernel)
  | k + 17 => exact fun h => absurd h (by omega)
theorem z_GraphSearch : ∀ j, j < 17 → defaultValue (t_GraphSearch j) = vp_V [.null, .null, .null, .null, .null, .null, .null, .null, .null, .null, .null, .null, .null, .null, .null, .int 0, .int 0] j := by
  intro j hj
  match j with
  | 0 => rfl
  | 1 => rfl
  | 2 => rfl
  | 3 => rfl
  | 4 => rfl
  | 5 => rfl
  | 6 => rfl
  | 7 => rfl
  | 8 => rfl
  | 9 => rfl
  | 10 => rfl
  | 11 => rfl
  | 12 => rfl
  | 13 => rfl
  | 14 => rfl
  | 15 => rfl
  | 16 => rfl
  | k + 17 => exact absurd hj (by omega)
theorem n_OM : ∀ a, a < 6 → ∀ b, b < 6 → a ≠ b → (F_OM a).2.1 ≠ (F_OM b).2.1 := by decide +kernel
theorem t_OM_ok : ∀ k, k < 6 → parseFieldDescriptor (F_OM k).2.2.1 = some (t_OM k) := by decide +kernel
theorem i_OM : ∀ w ∈ u_ws R_OM F_OM 6, w ∈ wt := by
  intro w hw
  obtain ⟨k, hk, rfl⟩ := List.mem_map.mp hw
  have hk := List.mem_range.mp hk
  revert hk
  match k with
  | 0 => exact fun _ => wt_in 414 (by decide +kernel) (by decide +kernel)
  | 1 => exact fun _ => wt_in 416 (by decide +kernel) (by decide +kernel)
  | 2 => exact fun _ => wt_in 418 (by decide +kernel) (by decide +kernel)
  | 3 => exact fun _ => wt_in 420 (by decide +kernel) (by decide +kernel)
  | 4 => exact fun _ => wt_in 422 (by decide +kernel) (by decide +kernel)
  | 5 => exact fun _ => wt_in 424 (by decide +kernel) (by decide +kernel)
  | k + 6 => exact fun h => absurd h (by omega)
theorem z_OM : ∀ j, j < 6 → defaultValue (t_OM j) = vp_V [.null, .null, .null, .null, .null, .null] j := by
  intro j hj
  match j with
  | 0 => rfl
  | 1 => rfl
  | 2 => rfl
  | 3 => rfl
  | 4 => rfl
  | 5 => rfl
  | k + 6 => exact absurd hj (by omega)
theorem n_Ref : ∀ a, a < 48 → ∀ b, b < 48 → a ≠ b → (F_Ref a).2.1 ≠ (F_Ref b).2.1 := by decide +kernel
theorem t_Ref_ok : ∀ k, k < 48 → parseFieldDescriptor (F_Ref k).2.2.1 = some (t_Ref k) := by decide +kernel
theorem i_Ref : ∀ w ∈ u_ws R_Ref F_Ref 48, w ∈ wt := by
  intro w hw
  obtain ⟨k, hk, rfl⟩ := List.mem_map.mp hw
  have hk := List.mem_range.mp hk
  revert hk
  match k with
  | 0 => exact fun _ => wt_in 947 (by decide +kernel) (by decide +kernel)
  | 1 => exact fun _ => wt_in 949 (by decide +kernel) (by decide +kernel)
  | 2 => exact fun _ => wt_in 951 (by decide +kernel) (by decide +kernel)
  | 3 => exact fun _ => wt_in 953 (by decide +kernel) (by decide +kernel)
  | 4 => exact fun _ => wt_in 955 (by decide +kernel) (by decide +kernel)
  | 5 => exact fun _ => wt_in 957 (by decide +kernel) (by decide +kernel)
  | 6 => exact fun _ => wt_in 959 (by decide +kernel) (by decide +kernel)
  | 7 => exact fun _ => wt_in 961 (by decide +kernel) (by decide +kernel)
  | 8 => exact fun _ => wt_in 963 (by decide +kernel) (by decide +kernel)
  | 9 => exact fun _ => wt_in 965 (by decide +kernel) (by decide +kernel)
  | 10 => exact fun _ => wt_in 967 (by decide +kernel) (by decide +kernel)
  | 11 => exact fun _ => wt_in 969 (by decide +kernel) (by decide +kernel)
  | 12 => exact fun _ => wt_in 971 (by decide +kernel) (by decide +kernel)
  | 13 => exact fun _ => wt_in 973 (by decide +kernel) (by decide +kernel)
  | 14 => exact fun _ => wt_in 975 (by decide +kernel) (by decide +kernel)
  | 15 => exact fun _ => wt_in 977 (by decide +kernel) (by decide +kernel)
  | 16 => exact fun _ => wt_in 979 (by decide +kernel) (by decide +kernel)
  | 17 => exact fun _ => wt_in 981 (by decide +kernel) (by decide +kernel)
  | 18 => exact fun _ => wt_in 983 (by decide +kernel) (by decide +kernel)
  | 19 => exact fun _ => wt_in 985 (by decide +kernel) (by decide +kernel)
  | 20 => exact fun _ => wt_in 987 (by decide +kernel) (by decide +kernel)
  | 21 => exact fun _ => wt_in 989 (by decide +kernel) (by decide +kernel)
  | 22 => exact fun _ => wt_in 991 (by decide +kernel) (by decide +kernel)
  | 23 => exact fun _ => wt_in 993 (by decide +kernel) (by decide +kernel)
  | 24 => exact fun _ => wt_in 995 (by decide +kernel) (by decide +kernel)
  | 25 => exact fun _ => wt_in 997 (by decide +kernel) (by decide +kernel)
  | 26 => exact fun _ => wt_in 999 (by decide +kernel) (by decide +kernel)
  | 27 => exact fun _ => wt_in 1001 (by decide +kernel) (by decide +kernel)
  | 28 => exact fun _ => wt_in 1003 (by decide +kernel) (by decide +kernel)
  | 29 => exact fun _ => wt_in 1005 (by decide +kernel) (by decide +kernel)
  | 30 => exact fun _ => wt_in 1007 (by decide +kernel) (by decide +kernel)
  | 31 => exact fun _ => wt_in 1009 (by decide +kernel) (by decide +kernel)
  | 32 => exact fun _ => wt_in 1011 (by decide +kernel) (by decide +kernel)
  | 33 => exact fun _ => wt_in 1013 (by decide +kernel) (by decide +kernel)
  | 34 => exact fun _ => wt_in 1015 (by decide +kernel) (by decide +kernel)
  | 35 => exact fun _ => wt_in 1017 (by decide +kernel) (by decide +kernel)
  | 36 => exact fun _ => wt_in 1019 (by decide +kernel) (by decide +kernel)
  | 37 => exact fun _ => wt_in 1021 (by decide +kernel) (by decide +kernel)
  | 38 => exact fun _ => wt_in 1023 (by decide +kernel) (by decide +kernel)
  | 39 => exact fun _ => wt_in 1025 (by decide +kernel) (by decide +kernel)
  | 40 => exact fun _ => wt_in 1027 (by decide +kernel) (by decide +kernel)
  | 41 => exact fun _ => wt_in 1029 (by decide +kernel) (by decide +kernel)
  | 42 => exact fun _ => wt_in 1031 (by decide +kernel) (by decide +kernel)
  | 43 => exact fun _ => wt_in 1033 (by decide +kernel) (by decide +kernel)
  | 44 => exact fun _ => wt_in 1035 (by decide +kernel) (by decide +kernel)
  | 45 => exact fun _ => wt_in 1037 (by decide +kernel) (by decide +kernel)
  | 46 => exact fun _ => wt_in 1039 (by decide +kernel) (by decide +kernel)
  | 47 => exact fun _ => wt_in 1041 (by decide +kernel) (by decide +kernel)
  | k + 48 => exact fun h => absurd h (by omega)
theorem z_Ref : ∀ j, j < 48 → defaultValue (t_Ref j) = vp_V [.int 0, .int 0, .null, .null, .null, .null, .null, .null, .null, .null, .null, .null, .null, .null, .int 0, .null, .null, .null, .null, .int 0, .int 0, .null, .null, .null, .int 0, .null, .int 0, .int 0, .null, .null, .null, .null, .null, .null, .null, .null, .int 0, .int 0, .null, .null, .null, .null, .null, .null, .null, .null, .int 0, .null] j := by
  intro j hj
  match j with
  | 0 => rfl
  | 1 => rfl
  | 2 => rfl
  | 3 => rfl
  | 4 => rfl
  | 5 => rfl
  | 6 => rfl
  | 7 => rfl
  | 8 => rfl
  | 9 => rfl
  | 10 => rfl
  | 11 => rfl
  | 12 => rfl
  | 13 => rfl
  | 14 => rfl
  | 15 => rfl
  | 16 => rfl
  | 17 => rfl
  | 18 => rfl
  | 19 => rfl
  | 20 => rfl
  | 21 => rfl
  | 22 => rfl
  | 23 => rfl
  | 24 => rfl
  | 25 => rfl
  | 26 => rfl
  | 27 => rfl
  | 28 => rfl
  | 29 => rfl
  | 30 => rfl
  | 31 => rfl
  | 32 => rfl
  | 33 => rfl
  | 34 => rfl
  | 35 => rfl
  | 36 => rfl
  | 37 => rfl
  | 38 => rfl
  | 39 => rfl
  | 40 => rfl
  | 41 => rfl
  | 42 => rfl
  | 43 => rfl
  | 44 => rfl
  | 45 => rfl
  | 46 => rfl
  | 47 => rfl
  | k + 48 => exact absurd hj (by omega)
def R_Object : String := "java/lang/Object"
def R_Integer : String := "java/lang/Integer"
def R_Math : String := "java/lang/Math"
def R_System : String := "java/lang/System"
def R_Arrays : String := "java/util/Arrays"
abbrev b_OM_init : ByteArray := prog_1_method_1_code
def y_OM_init : MethodName := ⟨R_OM, "<init>", "()V"⟩
abbrev w_OM_init : List Cond := .code y_OM_init b_OM_init 5 none :: wt
set_option maxRecDepth 20000 in
theorem g_OM_init : GoodIn wt w_OM_init := gd_in wt_good (wt_in 118 (by rfl) (by rfl))
abbrev b_Ref_init : ByteArray := prog_10_method_1_code
def y_Ref_init : MethodName := ⟨R_Ref, "<init>", "()V"⟩
abbrev w_Ref_init : List Cond := .code y_Ref_init b_Ref_init 1 none :: wt
set_option maxRecDepth 20000 in
theorem g_Ref_init : GoodIn wt w_Ref_init := gd_in wt_good (wt_in 892 (by rfl) (by rfl))
abbrev b_BufferWalk_init : ByteArray := prog_2_method_1_code
def y_BufferWalk_init : MethodName := ⟨R_BufferWalk, "<init>", "(LOrderModels$Program;LOrderModels$Progress;LOrderModels$StateSet;)V"⟩
abbrev w_BufferWalk_init : List Cond := .code y_BufferWalk_init b_BufferWalk_init 4 none :: wt
set_option maxRecDepth 20000 in
theorem g_BufferWalk_init : GoodIn wt w_BufferWalk_init := gd_in wt_good (wt_in 248 (by rfl) (by rfl))
abbrev b_GraphSearch_init : ByteArray := prog_3_method_1_code
def y_GraphSearch_init : MethodName := ⟨R_GraphSearch, "<init>", "(LOrderModels$Program;LOrderModels$Progress;)V"⟩
abbrev w_GraphSearch_init : List Cond := .code y_GraphSearch_init b_GraphSearch_init 3 none :: wt
set_option maxRecDepth 20000 in
theorem g_GraphSearch_init : GoodIn wt w_GraphSearch_init := gd_in wt_good (wt_in 317 (by rfl) (by rfl))
abbrev b_KnowledgeWalk_init : ByteArray := prog_4_method_1_code
def y_KnowledgeWalk_init : MethodName := ⟨R_KnowledgeWalk, "<init>", "(LOrderModels$Program;LOrderModels$Progress;LOrderModels$StateSet;)V"⟩
abbrev w_KnowledgeWalk_init : List Cond := .code y_KnowledgeWalk_init b_KnowledgeWalk_init 4 none :: wt
set_option maxRecDepth 20000 in
theorem g_KnowledgeWalk_init : GoodIn wt w_KnowledgeWalk_init := gd_in wt_good (wt_in 283 (by rfl) (by rfl))
abbrev b_OutcomeSet_init : ByteArray := prog_5_method_1_code
def y_OutcomeSet_init : MethodName := ⟨R_OutcomeSet, "<init>", "(I)V"⟩
abbrev w_OutcomeSet_init : List Cond := .code y_OutcomeSet_init b_OutcomeSet_init 2 none :: wt
set_option maxRecDepth 20000 in
theorem g_OutcomeSet_init : GoodIn wt w_OutcomeSet_init := gd_in wt_good (wt_in 376 (by rfl) (by rfl))
abbrev b_Program_init : ByteArray := prog_6_method_1_code
def y_Program_init : MethodName := ⟨R_Program, "<init>", "()V"⟩
abbrev w_Program_init : List Cond := .code y_Program_init b_Program_init 1 none :: wt
set_option maxRecDepth 20000 in
theorem g_Program_init : GoodIn wt w_Program_init := gd_in wt_good (wt_in 126 (by rfl) (by rfl))
abbrev b_Progress_init : ByteArray := prog_7_method_1_code
def y_Progress_init : MethodName := ⟨R_Progress, "<init>", "(LOrderModels$Program;)V"⟩
abbrev w_Progress_init : List Cond := .code y_Progress_init b_Progress_init 2 none :: wt
set_option maxRecDepth 20000 in
theorem g_Progress_init : GoodIn wt w_Progress_init := gd_in wt_good (wt_in 201 (by rfl) (by rfl))
abbrev b_StateSet_init : ByteArray := prog_8_method_1_code
def y_StateSet_init : MethodName := ⟨R_StateSet, "<init>", "()V"⟩
abbrev w_StateSet_init : List Cond := .code y_StateSet_init b_StateSet_init 1 none :: wt
set_option maxRecDepth 20000 in
theorem g_StateSet_init : GoodIn wt w_StateSet_init := gd_in wt_good (wt_in 228 (by rfl) (by rfl))
def wnM : List (String × Nat × MethodName × String) := [(R_OM, 11, y_Program_init, "OrderModels"), (R_OM, 23, y_StateSet_init, "OrderModels")]
theorem nq {q : String × Nat × MethodName × String} (i : Nat) (h : wnM[i]? = some q) : q ∈ wnM := List.mem_of_getElem? h
def nw (U : State) : Prop := (∀ q ∈ wnM, va_Nw (.methodLinkNest q.1 q.2.1 q.2.2.1 q.2.2.2) U) ∧ va_AO "OrderModels$OutcomeSet" U
theorem nw_warm {s U : State} (hW : s.WarmedH U.vm) (h : nw s) : nw U := ⟨fun q hq => va_Nw.warmM hW (h.1 q hq), va_AO.moved hW.alike h.2⟩
theorem nw_call {U : State} {g : JFrame} {mk : MethodId} {a : Array Value} (h : nw U) : nw (U.calling g mk a) := ⟨fun q hq => va_Nw.same rfl rfl (h.1 q hq), va_AO.moved (u := U) (U := U.calling g mk a) (Vm.Alike.refl U.vm) h.2⟩
