section WMN
/-- the words that every method's contract stands on: all good ones of the tables, and 'selects' of the private methods -/
def gw : List Cond := lw_tbl.filter goodWord
theorem gw_of {w : Cond} (h : w ∈ lw_tbl) (hg : goodWord w = true) : w ∈ gw := List.mem_filter.mpr ⟨h, hg⟩
theorem gw_at {w : Cond} (i : Nat) (h : tables_1[i]? = some w) (hg : goodWord w = true) : w ∈ gw := gw_of (List.mem_append_right _ (List.mem_of_getElem? h)) hg
theorem gw_good : ∀ w ∈ gw, goodWord w = true := fun _ h => (List.mem_filter.mp h).2
theorem gw_in {x y : Cond} (hy : y ∈ gw) : GoodIn (x :: gw) (y :: gw) := fun w h => (List.mem_cons.mp h).elim (fun e => by subst e; exact ⟨List.mem_cons_of_mem _ hy, good_of_word (gw_good _ hy)⟩) (fun h => ⟨List.mem_cons_of_mem _ h, good_of_word (gw_good _ h)⟩)
theorem gw_V {own : String} {ix : Nat} {y : MethodName} {x cd : Cond} (h1 : Cond.methodLink own ix y ∈ gw) (h2 : Cond.instanceMethod y ∈ gw) (h3 : Cond.selects y.cls y y ∈ gw) (h4 : Cond.initialized y.cls ∈ gw) (h5 : cd ∈ gw) : GoodIn (x :: gw) (wsV own ix y.cls y (cd :: gw)) := fun w h => by
  have hm : w ∈ gw := by
    simp only [wsV, List.cons_append, List.nil_append, List.mem_cons] at h
    rcases h with rfl | rfl | rfl | rfl | rfl | h
    · exact h1
    · exact h2
    · exact h3
    · exact h4
    · exact h5
    · exact h
  exact ⟨List.mem_cons_of_mem _ hm, good_of_word (gw_good _ hm)⟩
theorem gw_S {own : String} {ix : Nat} {y : MethodName} {x cd : Cond} (h1 : Cond.methodLink own ix y ∈ gw) (h2 : Cond.static y ∈ gw) (h4 : Cond.initialized y.cls ∈ gw) (h5 : cd ∈ gw) : GoodIn (x :: gw) ([.methodLink own ix y, .static y, .initialized y.cls] ++ (cd :: gw)) := fun w h => by
  have hm : w ∈ gw := by
    simp only [List.cons_append, List.nil_append, List.mem_cons] at h
    rcases h with rfl | rfl | rfl | rfl | h
    · exact h1
    · exact h2
    · exact h4
    · exact h5
    · exact h
  exact ⟨List.mem_cons_of_mem _ hm, good_of_word (gw_good _ hm)⟩
theorem gn_J : Cond.initialized "java/lang/Long" ∈ gw := gw_at 17 (by decide +kernel) rfl
theorem gn_A : Cond.initialized "java/lang/Math" ∈ gw := gw_at 18 (by decide +kernel) rfl
theorem gn_P : Cond.initialized "CodePruner" ∈ gw := gw_at 1 (by decide +kernel) rfl
theorem gn_G : Cond.initialized "CodePruner$Program" ∈ gw := gw_at 2 (by decide +kernel) rfl
theorem gn_E : Cond.initialized "CodePruner$Ends" ∈ gw := gw_at 3 (by decide +kernel) rfl
theorem gn_R : Cond.initialized "CodePruner$Pruned" ∈ gw := gw_at 4 (by decide +kernel) rfl
theorem gn_F : Cond.initialized "CodePruner$Flow" ∈ gw := gw_at 5 (by decide +kernel) rfl
theorem gn_U : Cond.initialized "CodePruner$Sources" ∈ gw := gw_at 6 (by decide +kernel) rfl
theorem gn_N : Cond.initialized "CodePruner$Needs" ∈ gw := gw_at 7 (by decide +kernel) rfl
theorem gn_M : Cond.initialized "CodePruner$Machine" ∈ gw := gw_at 8 (by decide +kernel) rfl
theorem gn_Z : Cond.initialized "CodePrunerModel" ∈ gw := gw_at 9 (by decide +kernel) rfl
-- CodePruner
abbrev R_P : String := "CodePruner"
def T_P : u_T := fun k => match k with
  | 0 => ("CodePruner", "program", "LCodePruner$Program;", true)
  | 1 => ("CodePruner", "pruning", "LCodePruner$Pruned;", true)
  | 2 => ("CodePruner", "machine", "LCodePruner$Machine;", true)
  | _ => ("CodePruner", "isPruned", "Z", false)
def ty_P : Nat → FieldType := fun k => match k with
  | 0 => .object "CodePruner$Program"
  | 1 => .object "CodePruner$Pruned"
  | 2 => .object "CodePruner$Machine"
  | _ => .boolean
theorem nm_P : ∀ a, a < 4 → ∀ b, b < 4 → a ≠ b → (T_P a).2.1 ≠ (T_P b).2.1 := by decide +kernel
theorem tk_P : ∀ k, k < 4 → parseFieldDescriptor (T_P k).2.2.1 = some (ty_P k) := by decide +kernel
theorem uw_P : ∀ w ∈ u_ws R_P T_P 4, w ∈ gw := by
  rw [show u_ws R_P T_P 4 = [Cond.laysFinal "CodePruner" "CodePruner" "program" "LCodePruner$Program;", Cond.laysFinal "CodePruner" "CodePruner" "pruning" "LCodePruner$Pruned;", Cond.laysFinal "CodePruner" "CodePruner" "machine" "LCodePruner$Machine;", Cond.lays "CodePruner" "CodePruner" "isPruned" "Z"] from rfl]
  exact List.forall_mem_cons.mpr ⟨gw_at 257 (by decide +kernel) rfl, List.forall_mem_cons.mpr ⟨gw_at 259 (by decide +kernel) rfl, List.forall_mem_cons.mpr ⟨gw_at 261 (by decide +kernel) rfl, List.forall_mem_cons.mpr ⟨gw_at 263 (by decide +kernel) rfl, fun _ h => nomatch h⟩⟩⟩⟩
-- CodePruner$Program
abbrev R_G : String := "CodePruner$Program"
def T_G : u_T := fun k => match k with
  | 0 => ("CodePruner$Program", "blocks", "I", false)
  | 1 => ("CodePruner$Program", "instructions", "I", false)
  | 2 => ("CodePruner$Program", "op", "[I", true)
  | 3 => ("CodePruner$Program", "a", "[I", true)
  | 4 => ("CodePruner$Program", "b", "[I", true)
  | 5 => ("CodePruner$Program", "c", "[I", true)
  | 6 => ("CodePruner$Program", "home", "[I", true)
  | 7 => ("CodePruner$Program", "length", "[I", true)
  | 8 => ("CodePruner$Program", "rows", "[[I", true)
  | _ => ("CodePruner$Program", "ends", "LCodePruner$Ends;", true)
def ty_G : Nat → FieldType := fun k => match k with
  | 0 => .int
  | 1 => .int
  | 2 => .array (.int)
  | 3 => .array (.int)
  | 4 => .array (.int)
  | 5 => .array (.int)
  | 6 => .array (.int)
  | 7 => .array (.int)
  | 8 => .array (.array (.int))
  | _ => .object "CodePruner$Ends"
theorem nm_G : ∀ a, a < 10 → ∀ b, b < 10 → a ≠ b → (T_G a).2.1 ≠ (T_G b).2.1 := by decide +kernel
theorem tk_G : ∀ k, k < 10 → parseFieldDescriptor (T_G k).2.2.1 = some (ty_G k) := by decide +kernel
theorem uw_G : ∀ w ∈ u_ws R_G T_G 10, w ∈ gw := by
  rw [show u_ws R_G T_G 10 = [Cond.lays "CodePruner$Program" "CodePruner$Program" "blocks" "I", Cond.lays "CodePruner$Program" "CodePruner$Program" "instructions" "I", Cond.laysFinal "CodePruner$Program" "CodePruner$Program" "op" "[I", Cond.laysFinal "CodePruner$Program" "CodePruner$Program" "a" "[I", Cond.laysFinal "CodePruner$Program" "CodePruner$Program" "b" "[I", Cond.laysFinal "CodePruner$Program" "CodePruner$Program" "c" "[I", Cond.laysFinal "CodePruner$Program" "CodePruner$Program" "home" "[I", Cond.laysFinal "CodePruner$Program" "CodePruner$Program" "length" "[I", Cond.laysFinal "CodePruner$Program" "CodePruner$Program" "rows" "[[I", Cond.laysFinal "CodePruner$Program" "CodePruner$Program" "ends" "LCodePruner$Ends;"] from rfl]
  exact List.forall_mem_cons.mpr ⟨gw_at 108 (by decide +kernel) rfl, List.forall_mem_cons.mpr ⟨gw_at 110 (by decide +kernel) rfl, List.forall_mem_cons.mpr ⟨gw_at 112 (by decide +kernel) rfl, List.forall_mem_cons.mpr ⟨gw_at 114 (by decide +kernel) rfl, List.forall_mem_cons.mpr ⟨gw_at 116 (by decide +kernel) rfl, List.forall_mem_cons.mpr ⟨gw_at 118 (by decide +kernel) rfl, List.forall_mem_cons.mpr ⟨gw_at 120 (by decide +kernel) rfl, List.forall_mem_cons.mpr ⟨gw_at 122 (by decide +kernel) rfl, List.forall_mem_cons.mpr ⟨gw_at 124 (by decide +kernel) rfl, List.forall_mem_cons.mpr ⟨gw_at 126 (by decide +kernel) rfl, fun _ h => nomatch h⟩⟩⟩⟩⟩⟩⟩⟩⟩⟩
-- CodePruner$Ends
abbrev R_E : String := "CodePruner$Ends"
def T_E : u_T := fun k => match k with
  | 0 => ("CodePruner$Ends", "kind", "[I", true)
  | 1 => ("CodePruner$Ends", "register", "[I", true)
  | 2 => ("CodePruner$Ends", "first", "[I", true)
  | 3 => ("CodePruner$Ends", "second", "[I", true)
  | _ => ("CodePruner$Ends", "leads", "[I", true)
def ty_E : Nat → FieldType := fun k => match k with
  | 0 => .array (.int)
  | 1 => .array (.int)
  | 2 => .array (.int)
  | 3 => .array (.int)
  | _ => .array (.int)
theorem nm_E : ∀ a, a < 5 → ∀ b, b < 5 → a ≠ b → (T_E a).2.1 ≠ (T_E b).2.1 := by decide +kernel
theorem tk_E : ∀ k, k < 5 → parseFieldDescriptor (T_E k).2.2.1 = some (ty_E k) := by decide +kernel
theorem uw_E : ∀ w ∈ u_ws R_E T_E 5, w ∈ gw := by
  rw [show u_ws R_E T_E 5 = [Cond.laysFinal "CodePruner$Ends" "CodePruner$Ends" "kind" "[I", Cond.laysFinal "CodePruner$Ends" "CodePruner$Ends" "register" "[I", Cond.laysFinal "CodePruner$Ends" "CodePruner$Ends" "first" "[I", Cond.laysFinal "CodePruner$Ends" "CodePruner$Ends" "second" "[I", Cond.laysFinal "CodePruner$Ends" "CodePruner$Ends" "leads" "[I"] from rfl]
  exact List.forall_mem_cons.mpr ⟨gw_at 60 (by decide +kernel) rfl, List.forall_mem_cons.mpr ⟨gw_at 62 (by decide +kernel) rfl, List.forall_mem_cons.mpr ⟨gw_at 64 (by decide +kernel) rfl, List.forall_mem_cons.mpr ⟨gw_at 66 (by decide +kernel) rfl, List.forall_mem_cons.mpr ⟨gw_at 68 (by decide +kernel) rfl, fun _ h => nomatch h⟩⟩⟩⟩⟩
-- CodePruner$Pruned
abbrev R_R : String := "CodePruner$Pruned"
def T_R : u_T := fun k => match k with
  | 0 => ("CodePruner$Pruned", "flow", "LCodePruner$Flow;", true)
  | 1 => ("CodePruner$Pruned", "sources", "LCodePruner$Sources;", true)
  | 2 => ("CodePruner$Pruned", "needs", "LCodePruner$Needs;", true)
  | 3 => ("CodePruner$Pruned", "ends", "LCodePruner$Ends;", true)
  | 4 => ("CodePruner$Pruned", "gone", "I", false)
  | _ => ("CodePruner$Pruned", "becameJumps", "I", false)
def ty_R : Nat → FieldType := fun k => match k with
  | 0 => .object "CodePruner$Flow"
  | 1 => .object "CodePruner$Sources"
  | 2 => .object "CodePruner$Needs"
  | 3 => .object "CodePruner$Ends"
  | 4 => .int
  | _ => .int
theorem nm_R : ∀ a, a < 6 → ∀ b, b < 6 → a ≠ b → (T_R a).2.1 ≠ (T_R b).2.1 := by decide +kernel
theorem tk_R : ∀ k, k < 6 → parseFieldDescriptor (T_R k).2.2.1 = some (ty_R k) := by decide +kernel
theorem uw_R : ∀ w ∈ u_ws R_R T_R 6, w ∈ gw := by
  rw [show u_ws R_R T_R 6 = [Cond.laysFinal "CodePruner$Pruned" "CodePruner$Pruned" "flow" "LCodePruner$Flow;", Cond.laysFinal "CodePruner$Pruned" "CodePruner$Pruned" "sources" "LCodePruner$Sources;", Cond.laysFinal "CodePruner$Pruned" "CodePruner$Pruned" "needs" "LCodePruner$Needs;", Cond.laysFinal "CodePruner$Pruned" "CodePruner$Pruned" "ends" "LCodePruner$Ends;", Cond.lays "CodePruner$Pruned" "CodePruner$Pruned" "gone" "I", Cond.lays "CodePruner$Pruned" "CodePruner$Pruned" "becameJumps" "I"] from rfl]
  exact List.forall_mem_cons.mpr ⟨gw_at 205 (by decide +kernel) rfl, List.forall_mem_cons.mpr ⟨gw_at 207 (by decide +kernel) rfl, List.forall_mem_cons.mpr ⟨gw_at 209 (by decide +kernel) rfl, List.forall_mem_cons.mpr ⟨gw_at 211 (by decide +kernel) rfl, List.forall_mem_cons.mpr ⟨gw_at 213 (by decide +kernel) rfl, List.forall_mem_cons.mpr ⟨gw_at 215 (by decide +kernel) rfl, fun _ h => nomatch h⟩⟩⟩⟩⟩⟩
-- CodePruner$Flow
abbrev R_F : String := "CodePruner$Flow"
def T_F : u_T := fun k => match k with
  | 0 => ("CodePruner$Flow", "dominated", "[I", true)
  | 1 => ("CodePruner$Flow", "following", "[I", true)
  | _ => ("CodePruner$Flow", "deciders", "[I", true)
def ty_F : Nat → FieldType := fun k => match k with
  | 0 => .array (.int)
  | 1 => .array (.int)
  | _ => .array (.int)
theorem nm_F : ∀ a, a < 3 → ∀ b, b < 3 → a ≠ b → (T_F a).2.1 ≠ (T_F b).2.1 := by decide +kernel
theorem tk_F : ∀ k, k < 3 → parseFieldDescriptor (T_F k).2.2.1 = some (ty_F k) := by decide +kernel
theorem uw_F : ∀ w ∈ u_ws R_F T_F 3, w ∈ gw := by
  rw [show u_ws R_F T_F 3 = [Cond.laysFinal "CodePruner$Flow" "CodePruner$Flow" "dominated" "[I", Cond.laysFinal "CodePruner$Flow" "CodePruner$Flow" "following" "[I", Cond.laysFinal "CodePruner$Flow" "CodePruner$Flow" "deciders" "[I"] from rfl]
  exact List.forall_mem_cons.mpr ⟨gw_at 148 (by decide +kernel) rfl, List.forall_mem_cons.mpr ⟨gw_at 150 (by decide +kernel) rfl, List.forall_mem_cons.mpr ⟨gw_at 152 (by decide +kernel) rfl, fun _ h => nomatch h⟩⟩⟩
-- CodePruner$Sources
abbrev R_U : String := "CodePruner$Sources"
def T_U : u_T := fun k => match k with
  | 0 => ("CodePruner$Sources", "setters", "[J", true)
  | 1 => ("CodePruner$Sources", "atStart", "[J", true)
  | 2 => ("CodePruner$Sources", "ofInstruction", "[J", true)
  | _ => ("CodePruner$Sources", "ofEnd", "[J", true)
def ty_U : Nat → FieldType := fun k => match k with
  | 0 => .array (.long)
  | 1 => .array (.long)
  | 2 => .array (.long)
  | _ => .array (.long)
theorem nm_U : ∀ a, a < 4 → ∀ b, b < 4 → a ≠ b → (T_U a).2.1 ≠ (T_U b).2.1 := by decide +kernel
theorem tk_U : ∀ k, k < 4 → parseFieldDescriptor (T_U k).2.2.1 = some (ty_U k) := by decide +kernel
theorem uw_U : ∀ w ∈ u_ws R_U T_U 4, w ∈ gw := by
  rw [show u_ws R_U T_U 4 = [Cond.laysFinal "CodePruner$Sources" "CodePruner$Sources" "setters" "[J", Cond.laysFinal "CodePruner$Sources" "CodePruner$Sources" "atStart" "[J", Cond.laysFinal "CodePruner$Sources" "CodePruner$Sources" "ofInstruction" "[J", Cond.laysFinal "CodePruner$Sources" "CodePruner$Sources" "ofEnd" "[J"] from rfl]
  exact List.forall_mem_cons.mpr ⟨gw_at 167 (by decide +kernel) rfl, List.forall_mem_cons.mpr ⟨gw_at 169 (by decide +kernel) rfl, List.forall_mem_cons.mpr ⟨gw_at 171 (by decide +kernel) rfl, List.forall_mem_cons.mpr ⟨gw_at 173 (by decide +kernel) rfl, fun _ h => nomatch h⟩⟩⟩⟩
-- CodePruner$Needs
abbrev R_N : String := "CodePruner$Needs"
def T_N : u_T := fun k => match k with
  | 0 => ("CodePruner$Needs", "instructions", "J", false)
  | _ => ("CodePruner$Needs", "ends", "I", false)
def ty_N : Nat → FieldType := fun k => match k with
  | 0 => .long
  | _ => .int
theorem nm_N : ∀ a, a < 2 → ∀ b, b < 2 → a ≠ b → (T_N a).2.1 ≠ (T_N b).2.1 := by decide +kernel
theorem tk_N : ∀ k, k < 2 → parseFieldDescriptor (T_N k).2.2.1 = some (ty_N k) := by decide +kernel
theorem uw_N : ∀ w ∈ u_ws R_N T_N 2, w ∈ gw := by
  rw [show u_ws R_N T_N 2 = [Cond.lays "CodePruner$Needs" "CodePruner$Needs" "instructions" "J", Cond.lays "CodePruner$Needs" "CodePruner$Needs" "ends" "I"] from rfl]
  exact List.forall_mem_cons.mpr ⟨gw_at 187 (by decide +kernel) rfl, List.forall_mem_cons.mpr ⟨gw_at 189 (by decide +kernel) rfl, fun _ h => nomatch h⟩⟩
-- CodePruner$Machine
abbrev R_M : String := "CodePruner$Machine"
def T_M : u_T := fun k => match k with
  | 0 => ("CodePruner$Machine", "registers", "[I", true)
  | 1 => ("CodePruner$Machine", "kept", "[I", true)
  | 2 => ("CodePruner$Machine", "steps", "I", false)
  | 3 => ("CodePruner$Machine", "putOut", "I", false)
  | 4 => ("CodePruner$Machine", "value", "I", false)
  | 5 => ("CodePruner$Machine", "input", "I", false)
  | 6 => ("CodePruner$Machine", "taken", "I", false)
  | _ => ("CodePruner$Machine", "fuel", "I", false)
def ty_M : Nat → FieldType := fun k => match k with
  | 0 => .array (.int)
  | 1 => .array (.int)
  | 2 => .int
  | 3 => .int
  | 4 => .int
  | 5 => .int
  | 6 => .int
  | _ => .int
theorem nm_M : ∀ a, a < 8 → ∀ b, b < 8 → a ≠ b → (T_M a).2.1 ≠ (T_M b).2.1 := by decide +kernel
theorem tk_M : ∀ k, k < 8 → parseFieldDescriptor (T_M k).2.2.1 = some (ty_M k) := by decide +kernel
theorem uw_M : ∀ w ∈ u_ws R_M T_M 8, w ∈ gw := by
  rw [show u_ws R_M T_M 8 = [Cond.laysFinal "CodePruner$Machine" "CodePruner$Machine" "registers" "[I", Cond.laysFinal "CodePruner$Machine" "CodePruner$Machine" "kept" "[I", Cond.lays "CodePruner$Machine" "CodePruner$Machine" "steps" "I", Cond.lays "CodePruner$Machine" "CodePruner$Machine" "putOut" "I", Cond.lays "CodePruner$Machine" "CodePruner$Machine" "value" "I", Cond.lays "CodePruner$Machine" "CodePruner$Machine" "input" "I", Cond.lays "CodePruner$Machine" "CodePruner$Machine" "taken" "I", Cond.lays "CodePruner$Machine" "CodePruner$Machine" "fuel" "I"] from rfl]
  exact List.forall_mem_cons.mpr ⟨gw_at 236 (by decide +kernel) rfl, List.forall_mem_cons.mpr ⟨gw_at 238 (by decide +kernel) rfl, List.forall_mem_cons.mpr ⟨gw_at 240 (by decide +kernel) rfl, List.forall_mem_cons.mpr ⟨gw_at 242 (by decide +kernel) rfl, List.forall_mem_cons.mpr ⟨gw_at 244 (by decide +kernel) rfl, List.forall_mem_cons.mpr ⟨gw_at 246 (by decide +kernel) rfl, List.forall_mem_cons.mpr ⟨gw_at 248 (by decide +kernel) rfl, List.forall_mem_cons.mpr ⟨gw_at 250 (by decide +kernel) rfl, fun _ h => nomatch h⟩⟩⟩⟩⟩⟩⟩⟩
-- CodePrunerModel
abbrev R_Z : String := "CodePrunerModel"
def T_Z : u_T := fun k => match k with
  | 0 => ("CodePrunerModel", "code", "I", false)
  | 1 => ("CodePrunerModel", "blocks", "I", false)
  | 2 => ("CodePrunerModel", "kind", "[I", true)
  | 3 => ("CodePrunerModel", "register", "[I", true)
  | 4 => ("CodePrunerModel", "yes", "[I", true)
  | 5 => ("CodePrunerModel", "no", "[I", true)
  | 6 => ("CodePrunerModel", "many", "I", false)
  | 7 => ("CodePrunerModel", "home", "[I", true)
  | 8 => ("CodePrunerModel", "op", "[I", true)
  | 9 => ("CodePrunerModel", "pa", "[I", true)
  | 10 => ("CodePrunerModel", "pb", "[I", true)
  | 11 => ("CodePrunerModel", "pc", "[I", true)
  | 12 => ("CodePrunerModel", "pruned", "Z", false)
  | 13 => ("CodePrunerModel", "behind", "[Z", true)
  | 14 => ("CodePrunerModel", "next", "[I", true)
  | 15 => ("CodePrunerModel", "reaches", "[Z", true)
  | 16 => ("CodePrunerModel", "reachesEnd", "[Z", true)
  | 17 => ("CodePrunerModel", "needed", "[Z", true)
  | 18 => ("CodePrunerModel", "endNeeded", "[Z", true)
  | 19 => ("CodePrunerModel", "cutKind", "[I", true)
  | 20 => ("CodePrunerModel", "cutYes", "[I", true)
  | 21 => ("CodePrunerModel", "cutNo", "[I", true)
  | 22 => ("CodePrunerModel", "value", "[I", true)
  | 23 => ("CodePrunerModel", "steps", "I", false)
  | 24 => ("CodePrunerModel", "put", "I", false)
  | 25 => ("CodePrunerModel", "returned", "I", false)
  | 26 => ("CodePrunerModel", "input", "I", false)
  | 27 => ("CodePrunerModel", "taken", "I", false)
  | _ => ("CodePrunerModel", "outs", "[I", true)
def ty_Z : Nat → FieldType := fun k => match k with
  | 0 => .int
  | 1 => .int
  | 2 => .array (.int)
  | 3 => .array (.int)
  | 4 => .array (.int)
  | 5 => .array (.int)
  | 6 => .int
  | 7 => .array (.int)
  | 8 => .array (.int)
  | 9 => .array (.int)
  | 10 => .array (.int)
  | 11 => .array (.int)
  | 12 => .boolean
  | 13 => .array (.boolean)
  | 14 => .array (.int)
  | 15 => .array (.boolean)
  | 16 => .array (.boolean)
  | 17 => .array (.boolean)
  | 18 => .array (.boolean)
  | 19 => .array (.int)
  | 20 => .array (.int)
  | 21 => .array (.int)
  | 22 => .array (.int)
  | 23 => .int
  | 24 => .int
  | 25 => .int
  | 26 => .int
  | 27 => .int
  | _ => .array (.int)
theorem nm_Z : ∀ a, a < 29 → ∀ b, b < 29 → a ≠ b → (T_Z a).2.1 ≠ (T_Z b).2.1 := by decide +kernel
theorem tk_Z : ∀ k, k < 29 → parseFieldDescriptor (T_Z k).2.2.1 = some (ty_Z k) := by decide +kernel
theorem uw_Z : ∀ w ∈ u_ws R_Z T_Z 29, w ∈ gw := by
  rw [show u_ws R_Z T_Z 29 = [Cond.lays "CodePrunerModel" "CodePrunerModel" "code" "I", Cond.lays "CodePrunerModel" "CodePrunerModel" "blocks" "I", Cond.laysFinal "CodePrunerModel" "CodePrunerModel" "kind" "[I", Cond.laysFinal "CodePrunerModel" "CodePrunerModel" "register" "[I", Cond.laysFinal "CodePrunerModel" "CodePrunerModel" "yes" "[I", Cond.laysFinal "CodePrunerModel" "CodePrunerModel" "no" "[I", Cond.lays "CodePrunerModel" "CodePrunerModel" "many" "I", Cond.laysFinal "CodePrunerModel" "CodePrunerModel" "home" "[I", Cond.laysFinal "CodePrunerModel" "CodePrunerModel" "op" "[I", Cond.laysFinal "CodePrunerModel" "CodePrunerModel" "pa" "[I", Cond.laysFinal "CodePrunerModel" "CodePrunerModel" "pb" "[I", Cond.laysFinal "CodePrunerModel" "CodePrunerModel" "pc" "[I", Cond.lays "CodePrunerModel" "CodePrunerModel" "pruned" "Z", Cond.laysFinal "CodePrunerModel" "CodePrunerModel" "behind" "[Z", Cond.laysFinal "CodePrunerModel" "CodePrunerModel" "next" "[I", Cond.laysFinal "CodePrunerModel" "CodePrunerModel" "reaches" "[Z", Cond.laysFinal "CodePrunerModel" "CodePrunerModel" "reachesEnd" "[Z", Cond.laysFinal "CodePrunerModel" "CodePrunerModel" "needed" "[Z", Cond.laysFinal "CodePrunerModel" "CodePrunerModel" "endNeeded" "[Z", Cond.laysFinal "CodePrunerModel" "CodePrunerModel" "cutKind" "[I", Cond.laysFinal "CodePrunerModel" "CodePrunerModel" "cutYes" "[I", Cond.laysFinal "CodePrunerModel" "CodePrunerModel" "cutNo" "[I", Cond.laysFinal "CodePrunerModel" "CodePrunerModel" "value" "[I", Cond.lays "CodePrunerModel" "CodePrunerModel" "steps" "I", Cond.lays "CodePrunerModel" "CodePrunerModel" "put" "I", Cond.lays "CodePrunerModel" "CodePrunerModel" "returned" "I", Cond.lays "CodePrunerModel" "CodePrunerModel" "input" "I", Cond.lays "CodePrunerModel" "CodePrunerModel" "taken" "I", Cond.laysFinal "CodePrunerModel" "CodePrunerModel" "outs" "[I"] from rfl]
  exact List.forall_mem_cons.mpr ⟨gw_at 692 (by decide +kernel) rfl, List.forall_mem_cons.mpr ⟨gw_at 694 (by decide +kernel) rfl, List.forall_mem_cons.mpr ⟨gw_at 696 (by decide +kernel) rfl, List.forall_mem_cons.mpr ⟨gw_at 698 (by decide +kernel) rfl, List.forall_mem_cons.mpr ⟨gw_at 700 (by decide +kernel) rfl, List.forall_mem_cons.mpr ⟨gw_at 702 (by decide +kernel) rfl, List.forall_mem_cons.mpr ⟨gw_at 704 (by decide +kernel) rfl, List.forall_mem_cons.mpr ⟨gw_at 706 (by decide +kernel) rfl, List.forall_mem_cons.mpr ⟨gw_at 708 (by decide +kernel) rfl, List.forall_mem_cons.mpr ⟨gw_at 710 (by decide +kernel) rfl, List.forall_mem_cons.mpr ⟨gw_at 712 (by decide +kernel) rfl, List.forall_mem_cons.mpr ⟨gw_at 714 (by decide +kernel) rfl, List.forall_mem_cons.mpr ⟨gw_at 716 (by decide +kernel) rfl, List.forall_mem_cons.mpr ⟨gw_at 718 (by decide +kernel) rfl, List.forall_mem_cons.mpr ⟨gw_at 720 (by decide +kernel) rfl, List.forall_mem_cons.mpr ⟨gw_at 722 (by decide +kernel) rfl, List.forall_mem_cons.mpr ⟨gw_at 724 (by decide +kernel) rfl, List.forall_mem_cons.mpr ⟨gw_at 726 (by decide +kernel) rfl, List.forall_mem_cons.mpr ⟨gw_at 728 (by decide +kernel) rfl, List.forall_mem_cons.mpr ⟨gw_at 730 (by decide +kernel) rfl, List.forall_mem_cons.mpr ⟨gw_at 732 (by decide +kernel) rfl, List.forall_mem_cons.mpr ⟨gw_at 734 (by decide +kernel) rfl, List.forall_mem_cons.mpr ⟨gw_at 736 (by decide +kernel) rfl, List.forall_mem_cons.mpr ⟨gw_at 738 (by decide +kernel) rfl, List.forall_mem_cons.mpr ⟨gw_at 740 (by decide +kernel) rfl, List.forall_mem_cons.mpr ⟨gw_at 742 (by decide +kernel) rfl, List.forall_mem_cons.mpr ⟨gw_at 744 (by decide +kernel) rfl, List.forall_mem_cons.mpr ⟨gw_at 746 (by decide +kernel) rfl, List.forall_mem_cons.mpr ⟨gw_at 748 (by decide +kernel) rfl, fun _ h => nomatch h⟩⟩⟩⟩⟩⟩⟩⟩⟩⟩⟩⟩⟩⟩⟩⟩⟩⟩⟩⟩⟩⟩⟩⟩⟩⟩⟩⟩⟩
abbrev cl0 : List vw_C := [(R_P, T_P, 4), (R_G, T_G, 10), (R_E, T_E, 5), (R_R, T_R, 6), (R_F, T_F, 3), (R_U, T_U, 4), (R_N, T_N, 2), (R_M, T_M, 8), (R_Z, T_Z, 29)]
def fl_P : List (Nat × Nat × Nat) := [(125, 2, 0), (128, 2, 2), (131, 2, 3), (34, 1, 0), (62, 1, 1), (72, 1, 9), (106, 4, 1), (112, 4, 2), (150, 6, 0), (102, 3, 0), (115, 3, 2), (124, 3, 3), (96, 3, 4), (99, 3, 5), (168, 7, 1), (159, 7, 2), (162, 7, 3), (165, 7, 4), (10, 0, 0), (19, 0, 1), (26, 0, 2), (30, 0, 3)]
theorem fk_P : ∀ r ∈ fl_P, wm_fok R_P gw cl0 r :=
  List.forall_mem_cons.mpr ⟨⟨R_E, T_E, 5, ty_E, rfl, uw_E, tk_E, nm_E, by decide, gw_at 46 (by decide +kernel) rfl, rfl⟩, List.forall_mem_cons.mpr ⟨⟨R_E, T_E, 5, ty_E, rfl, uw_E, tk_E, nm_E, by decide, gw_at 52 (by decide +kernel) rfl, rfl⟩, List.forall_mem_cons.mpr ⟨⟨R_E, T_E, 5, ty_E, rfl, uw_E, tk_E, nm_E, by decide, gw_at 55 (by decide +kernel) rfl, rfl⟩, List.forall_mem_cons.mpr ⟨⟨R_G, T_G, 10, ty_G, rfl, uw_G, tk_G, nm_G, by decide, gw_at 73 (by decide +kernel) rfl, rfl⟩, List.forall_mem_cons.mpr ⟨⟨R_G, T_G, 10, ty_G, rfl, uw_G, tk_G, nm_G, by decide, gw_at 81 (by decide +kernel) rfl, rfl⟩, List.forall_mem_cons.mpr ⟨⟨R_G, T_G, 10, ty_G, rfl, uw_G, tk_G, nm_G, by decide, gw_at 106 (by decide +kernel) rfl, rfl⟩, List.forall_mem_cons.mpr ⟨⟨R_F, T_F, 3, ty_F, rfl, uw_F, tk_F, nm_F, by decide, gw_at 144 (by decide +kernel) rfl, rfl⟩, List.forall_mem_cons.mpr ⟨⟨R_F, T_F, 3, ty_F, rfl, uw_F, tk_F, nm_F, by decide, gw_at 147 (by decide +kernel) rfl, rfl⟩, List.forall_mem_cons.mpr ⟨⟨R_N, T_N, 2, ty_N, rfl, uw_N, tk_N, nm_N, by decide, gw_at 185 (by decide +kernel) rfl, rfl⟩, List.forall_mem_cons.mpr ⟨⟨R_R, T_R, 6, ty_R, rfl, uw_R, tk_R, nm_R, by decide, gw_at 195 (by decide +kernel) rfl, rfl⟩, List.forall_mem_cons.mpr ⟨⟨R_R, T_R, 6, ty_R, rfl, uw_R, tk_R, nm_R, by decide, gw_at 198 (by decide +kernel) rfl, rfl⟩, List.forall_mem_cons.mpr ⟨⟨R_R, T_R, 6, ty_R, rfl, uw_R, tk_R, nm_R, by decide, gw_at 200 (by decide +kernel) rfl, rfl⟩, List.forall_mem_cons.mpr ⟨⟨R_R, T_R, 6, ty_R, rfl, uw_R, tk_R, nm_R, by decide, gw_at 202 (by decide +kernel) rfl, rfl⟩, List.forall_mem_cons.mpr ⟨⟨R_R, T_R, 6, ty_R, rfl, uw_R, tk_R, nm_R, by decide, gw_at 204 (by decide +kernel) rfl, rfl⟩, List.forall_mem_cons.mpr ⟨⟨R_M, T_M, 8, ty_M, rfl, uw_M, tk_M, nm_M, by decide, gw_at 226 (by decide +kernel) rfl, rfl⟩, List.forall_mem_cons.mpr ⟨⟨R_M, T_M, 8, ty_M, rfl, uw_M, tk_M, nm_M, by decide, gw_at 228 (by decide +kernel) rfl, rfl⟩, List.forall_mem_cons.mpr ⟨⟨R_M, T_M, 8, ty_M, rfl, uw_M, tk_M, nm_M, by decide, gw_at 230 (by decide +kernel) rfl, rfl⟩, List.forall_mem_cons.mpr ⟨⟨R_M, T_M, 8, ty_M, rfl, uw_M, tk_M, nm_M, by decide, gw_at 232 (by decide +kernel) rfl, rfl⟩, List.forall_mem_cons.mpr ⟨⟨R_P, T_P, 4, ty_P, rfl, uw_P, tk_P, nm_P, by decide, gw_at 253 (by decide +kernel) rfl, rfl⟩, List.forall_mem_cons.mpr ⟨⟨R_P, T_P, 4, ty_P, rfl, uw_P, tk_P, nm_P, by decide, gw_at 254 (by decide +kernel) rfl, rfl⟩, List.forall_mem_cons.mpr ⟨⟨R_P, T_P, 4, ty_P, rfl, uw_P, tk_P, nm_P, by decide, gw_at 255 (by decide +kernel) rfl, rfl⟩, List.forall_mem_cons.mpr ⟨⟨R_P, T_P, 4, ty_P, rfl, uw_P, tk_P, nm_P, by decide, gw_at 256 (by decide +kernel) rfl, rfl⟩, fun _ h => nomatch h⟩⟩⟩⟩⟩⟩⟩⟩⟩⟩⟩⟩⟩⟩⟩⟩⟩⟩⟩⟩⟩⟩
def cs_P : List (Nat × Value) := [(157, .long (-1))]
theorem ck_P : ∀ r ∈ cs_P, wm_cok R_P gw r := List.forall_mem_cons.mpr ⟨gw_at 649 (by decide +kernel) rfl, fun _ h => nomatch h⟩
def fl_G : List (Nat × Nat × Nat) := [(53, 2, 4), (9, 1, 0), (15, 1, 1), (18, 1, 2), (22, 1, 3), (25, 1, 4), (28, 1, 5), (31, 1, 6), (34, 1, 7), (39, 1, 8), (45, 1, 9)]
theorem fk_G : ∀ r ∈ fl_G, wm_fok R_G gw cl0 r :=
  List.forall_mem_cons.mpr ⟨⟨R_E, T_E, 5, ty_E, rfl, uw_E, tk_E, nm_E, by decide, gw_at 59 (by decide +kernel) rfl, rfl⟩, List.forall_mem_cons.mpr ⟨⟨R_G, T_G, 10, ty_G, rfl, uw_G, tk_G, nm_G, by decide, gw_at 72 (by decide +kernel) rfl, rfl⟩, List.forall_mem_cons.mpr ⟨⟨R_G, T_G, 10, ty_G, rfl, uw_G, tk_G, nm_G, by decide, gw_at 78 (by decide +kernel) rfl, rfl⟩, List.forall_mem_cons.mpr ⟨⟨R_G, T_G, 10, ty_G, rfl, uw_G, tk_G, nm_G, by decide, gw_at 83 (by decide +kernel) rfl, rfl⟩, List.forall_mem_cons.mpr ⟨⟨R_G, T_G, 10, ty_G, rfl, uw_G, tk_G, nm_G, by decide, gw_at 86 (by decide +kernel) rfl, rfl⟩, List.forall_mem_cons.mpr ⟨⟨R_G, T_G, 10, ty_G, rfl, uw_G, tk_G, nm_G, by decide, gw_at 88 (by decide +kernel) rfl, rfl⟩, List.forall_mem_cons.mpr ⟨⟨R_G, T_G, 10, ty_G, rfl, uw_G, tk_G, nm_G, by decide, gw_at 90 (by decide +kernel) rfl, rfl⟩, List.forall_mem_cons.mpr ⟨⟨R_G, T_G, 10, ty_G, rfl, uw_G, tk_G, nm_G, by decide, gw_at 92 (by decide +kernel) rfl, rfl⟩, List.forall_mem_cons.mpr ⟨⟨R_G, T_G, 10, ty_G, rfl, uw_G, tk_G, nm_G, by decide, gw_at 94 (by decide +kernel) rfl, rfl⟩, List.forall_mem_cons.mpr ⟨⟨R_G, T_G, 10, ty_G, rfl, uw_G, tk_G, nm_G, by decide, gw_at 98 (by decide +kernel) rfl, rfl⟩, List.forall_mem_cons.mpr ⟨⟨R_G, T_G, 10, ty_G, rfl, uw_G, tk_G, nm_G, by decide, gw_at 102 (by decide +kernel) rfl, rfl⟩, fun _ h => nomatch h⟩⟩⟩⟩⟩⟩⟩⟩⟩⟩⟩
def cs_G : List (Nat × Value) := []
theorem ck_G : ∀ r ∈ cs_G, wm_cok R_G gw r := fun _ h => nomatch h
def fl_E : List (Nat × Nat × Nat) := [(9, 2, 0), (15, 2, 1), (18, 2, 2), (21, 2, 3), (24, 2, 4)]
theorem fk_E : ∀ r ∈ fl_E, wm_fok R_E gw cl0 r :=
  List.forall_mem_cons.mpr ⟨⟨R_E, T_E, 5, ty_E, rfl, uw_E, tk_E, nm_E, by decide, gw_at 41 (by decide +kernel) rfl, rfl⟩, List.forall_mem_cons.mpr ⟨⟨R_E, T_E, 5, ty_E, rfl, uw_E, tk_E, nm_E, by decide, gw_at 47 (by decide +kernel) rfl, rfl⟩, List.forall_mem_cons.mpr ⟨⟨R_E, T_E, 5, ty_E, rfl, uw_E, tk_E, nm_E, by decide, gw_at 49 (by decide +kernel) rfl, rfl⟩, List.forall_mem_cons.mpr ⟨⟨R_E, T_E, 5, ty_E, rfl, uw_E, tk_E, nm_E, by decide, gw_at 53 (by decide +kernel) rfl, rfl⟩, List.forall_mem_cons.mpr ⟨⟨R_E, T_E, 5, ty_E, rfl, uw_E, tk_E, nm_E, by decide, gw_at 56 (by decide +kernel) rfl, rfl⟩, fun _ h => nomatch h⟩⟩⟩⟩⟩
def cs_E : List (Nat × Value) := []
theorem ck_E : ∀ r ∈ cs_E, wm_cok R_E gw r := fun _ h => nomatch h
def fl_R : List (Nat × Nat × Nat) := [(76, 2, 0), (106, 2, 2), (68, 1, 0), (54, 1, 1), (75, 1, 9), (96, 4, 1), (59, 6, 0), (12, 3, 0), (21, 3, 1), (28, 3, 2), (35, 3, 3), (39, 3, 4), (43, 3, 5)]
theorem fk_R : ∀ r ∈ fl_R, wm_fok R_R gw cl0 r :=
  List.forall_mem_cons.mpr ⟨⟨R_E, T_E, 5, ty_E, rfl, uw_E, tk_E, nm_E, by decide, gw_at 42 (by decide +kernel) rfl, rfl⟩, List.forall_mem_cons.mpr ⟨⟨R_E, T_E, 5, ty_E, rfl, uw_E, tk_E, nm_E, by decide, gw_at 51 (by decide +kernel) rfl, rfl⟩, List.forall_mem_cons.mpr ⟨⟨R_G, T_G, 10, ty_G, rfl, uw_G, tk_G, nm_G, by decide, gw_at 76 (by decide +kernel) rfl, rfl⟩, List.forall_mem_cons.mpr ⟨⟨R_G, T_G, 10, ty_G, rfl, uw_G, tk_G, nm_G, by decide, gw_at 79 (by decide +kernel) rfl, rfl⟩, List.forall_mem_cons.mpr ⟨⟨R_G, T_G, 10, ty_G, rfl, uw_G, tk_G, nm_G, by decide, gw_at 103 (by decide +kernel) rfl, rfl⟩, List.forall_mem_cons.mpr ⟨⟨R_F, T_F, 3, ty_F, rfl, uw_F, tk_F, nm_F, by decide, gw_at 143 (by decide +kernel) rfl, rfl⟩, List.forall_mem_cons.mpr ⟨⟨R_N, T_N, 2, ty_N, rfl, uw_N, tk_N, nm_N, by decide, gw_at 184 (by decide +kernel) rfl, rfl⟩, List.forall_mem_cons.mpr ⟨⟨R_R, T_R, 6, ty_R, rfl, uw_R, tk_R, nm_R, by decide, gw_at 194 (by decide +kernel) rfl, rfl⟩, List.forall_mem_cons.mpr ⟨⟨R_R, T_R, 6, ty_R, rfl, uw_R, tk_R, nm_R, by decide, gw_at 196 (by decide +kernel) rfl, rfl⟩, List.forall_mem_cons.mpr ⟨⟨R_R, T_R, 6, ty_R, rfl, uw_R, tk_R, nm_R, by decide, gw_at 197 (by decide +kernel) rfl, rfl⟩, List.forall_mem_cons.mpr ⟨⟨R_R, T_R, 6, ty_R, rfl, uw_R, tk_R, nm_R, by decide, gw_at 199 (by decide +kernel) rfl, rfl⟩, List.forall_mem_cons.mpr ⟨⟨R_R, T_R, 6, ty_R, rfl, uw_R, tk_R, nm_R, by decide, gw_at 201 (by decide +kernel) rfl, rfl⟩, List.forall_mem_cons.mpr ⟨⟨R_R, T_R, 6, ty_R, rfl, uw_R, tk_R, nm_R, by decide, gw_at 203 (by decide +kernel) rfl, rfl⟩, fun _ h => nomatch h⟩⟩⟩⟩⟩⟩⟩⟩⟩⟩⟩⟩⟩
def cs_R : List (Nat × Value) := []
theorem ck_R : ∀ r ∈ cs_R, wm_cok R_R gw r := fun _ h => nomatch h
def fl_F : List (Nat × Nat × Nat) := [(45, 2, 0), (50, 2, 4), (21, 1, 0), (41, 1, 9), (9, 4, 0), (15, 4, 1), (18, 4, 2)]
theorem fk_F : ∀ r ∈ fl_F, wm_fok R_F gw cl0 r :=
  List.forall_mem_cons.mpr ⟨⟨R_E, T_E, 5, ty_E, rfl, uw_E, tk_E, nm_E, by decide, gw_at 43 (by decide +kernel) rfl, rfl⟩, List.forall_mem_cons.mpr ⟨⟨R_E, T_E, 5, ty_E, rfl, uw_E, tk_E, nm_E, by decide, gw_at 57 (by decide +kernel) rfl, rfl⟩, List.forall_mem_cons.mpr ⟨⟨R_G, T_G, 10, ty_G, rfl, uw_G, tk_G, nm_G, by decide, gw_at 74 (by decide +kernel) rfl, rfl⟩, List.forall_mem_cons.mpr ⟨⟨R_G, T_G, 10, ty_G, rfl, uw_G, tk_G, nm_G, by decide, gw_at 104 (by decide +kernel) rfl, rfl⟩, List.forall_mem_cons.mpr ⟨⟨R_F, T_F, 3, ty_F, rfl, uw_F, tk_F, nm_F, by decide, gw_at 141 (by decide +kernel) rfl, rfl⟩, List.forall_mem_cons.mpr ⟨⟨R_F, T_F, 3, ty_F, rfl, uw_F, tk_F, nm_F, by decide, gw_at 142 (by decide +kernel) rfl, rfl⟩, List.forall_mem_cons.mpr ⟨⟨R_F, T_F, 3, ty_F, rfl, uw_F, tk_F, nm_F, by decide, gw_at 145 (by decide +kernel) rfl, rfl⟩, fun _ h => nomatch h⟩⟩⟩⟩⟩⟩⟩
def cs_F : List (Nat × Value) := []
theorem ck_F : ∀ r ∈ cs_F, wm_cok R_F gw r := fun _ h => nomatch h
def fl_U : List (Nat × Nat × Nat) := [(53, 2, 4), (28, 1, 0), (38, 1, 1), (61, 1, 7), (64, 1, 8), (49, 1, 9), (9, 5, 0), (15, 5, 1), (18, 5, 2), (21, 5, 3)]
theorem fk_U : ∀ r ∈ fl_U, wm_fok R_U gw cl0 r :=
  List.forall_mem_cons.mpr ⟨⟨R_E, T_E, 5, ty_E, rfl, uw_E, tk_E, nm_E, by decide, gw_at 58 (by decide +kernel) rfl, rfl⟩, List.forall_mem_cons.mpr ⟨⟨R_G, T_G, 10, ty_G, rfl, uw_G, tk_G, nm_G, by decide, gw_at 75 (by decide +kernel) rfl, rfl⟩, List.forall_mem_cons.mpr ⟨⟨R_G, T_G, 10, ty_G, rfl, uw_G, tk_G, nm_G, by decide, gw_at 80 (by decide +kernel) rfl, rfl⟩, List.forall_mem_cons.mpr ⟨⟨R_G, T_G, 10, ty_G, rfl, uw_G, tk_G, nm_G, by decide, gw_at 96 (by decide +kernel) rfl, rfl⟩, List.forall_mem_cons.mpr ⟨⟨R_G, T_G, 10, ty_G, rfl, uw_G, tk_G, nm_G, by decide, gw_at 100 (by decide +kernel) rfl, rfl⟩, List.forall_mem_cons.mpr ⟨⟨R_G, T_G, 10, ty_G, rfl, uw_G, tk_G, nm_G, by decide, gw_at 105 (by decide +kernel) rfl, rfl⟩, List.forall_mem_cons.mpr ⟨⟨R_U, T_U, 4, ty_U, rfl, uw_U, tk_U, nm_U, by decide, gw_at 161 (by decide +kernel) rfl, rfl⟩, List.forall_mem_cons.mpr ⟨⟨R_U, T_U, 4, ty_U, rfl, uw_U, tk_U, nm_U, by decide, gw_at 162 (by decide +kernel) rfl, rfl⟩, List.forall_mem_cons.mpr ⟨⟨R_U, T_U, 4, ty_U, rfl, uw_U, tk_U, nm_U, by decide, gw_at 163 (by decide +kernel) rfl, rfl⟩, List.forall_mem_cons.mpr ⟨⟨R_U, T_U, 4, ty_U, rfl, uw_U, tk_U, nm_U, by decide, gw_at 165 (by decide +kernel) rfl, rfl⟩, fun _ h => nomatch h⟩⟩⟩⟩⟩⟩⟩⟩⟩⟩
def cs_U : List (Nat × Value) := [(59, .long (-1))]
theorem ck_U : ∀ r ∈ cs_U, wm_cok R_U gw r := List.forall_mem_cons.mpr ⟨gw_at 533 (by decide +kernel) rfl, fun _ h => nomatch h⟩
def fl_N : List (Nat × Nat × Nat) := [(55, 2, 0), (49, 1, 0), (44, 1, 1), (46, 1, 2), (71, 1, 6), (31, 1, 7), (37, 1, 8), (52, 1, 9), (66, 4, 2), (60, 5, 2), (74, 5, 3), (9, 6, 0), (15, 6, 1)]
theorem fk_N : ∀ r ∈ fl_N, wm_fok R_N gw cl0 r :=
  List.forall_mem_cons.mpr ⟨⟨R_E, T_E, 5, ty_E, rfl, uw_E, tk_E, nm_E, by decide, gw_at 45 (by decide +kernel) rfl, rfl⟩, List.forall_mem_cons.mpr ⟨⟨R_G, T_G, 10, ty_G, rfl, uw_G, tk_G, nm_G, by decide, gw_at 77 (by decide +kernel) rfl, rfl⟩, List.forall_mem_cons.mpr ⟨⟨R_G, T_G, 10, ty_G, rfl, uw_G, tk_G, nm_G, by decide, gw_at 82 (by decide +kernel) rfl, rfl⟩, List.forall_mem_cons.mpr ⟨⟨R_G, T_G, 10, ty_G, rfl, uw_G, tk_G, nm_G, by decide, gw_at 85 (by decide +kernel) rfl, rfl⟩, List.forall_mem_cons.mpr ⟨⟨R_G, T_G, 10, ty_G, rfl, uw_G, tk_G, nm_G, by decide, gw_at 93 (by decide +kernel) rfl, rfl⟩, List.forall_mem_cons.mpr ⟨⟨R_G, T_G, 10, ty_G, rfl, uw_G, tk_G, nm_G, by decide, gw_at 97 (by decide +kernel) rfl, rfl⟩, List.forall_mem_cons.mpr ⟨⟨R_G, T_G, 10, ty_G, rfl, uw_G, tk_G, nm_G, by decide, gw_at 101 (by decide +kernel) rfl, rfl⟩, List.forall_mem_cons.mpr ⟨⟨R_G, T_G, 10, ty_G, rfl, uw_G, tk_G, nm_G, by decide, gw_at 107 (by decide +kernel) rfl, rfl⟩, List.forall_mem_cons.mpr ⟨⟨R_F, T_F, 3, ty_F, rfl, uw_F, tk_F, nm_F, by decide, gw_at 146 (by decide +kernel) rfl, rfl⟩, List.forall_mem_cons.mpr ⟨⟨R_U, T_U, 4, ty_U, rfl, uw_U, tk_U, nm_U, by decide, gw_at 164 (by decide +kernel) rfl, rfl⟩, List.forall_mem_cons.mpr ⟨⟨R_U, T_U, 4, ty_U, rfl, uw_U, tk_U, nm_U, by decide, gw_at 166 (by decide +kernel) rfl, rfl⟩, List.forall_mem_cons.mpr ⟨⟨R_N, T_N, 2, ty_N, rfl, uw_N, tk_N, nm_N, by decide, gw_at 183 (by decide +kernel) rfl, rfl⟩, List.forall_mem_cons.mpr ⟨⟨R_N, T_N, 2, ty_N, rfl, uw_N, tk_N, nm_N, by decide, gw_at 186 (by decide +kernel) rfl, rfl⟩, fun _ h => nomatch h⟩⟩⟩⟩⟩⟩⟩⟩⟩⟩⟩⟩⟩
def cs_N : List (Nat × Value) := []
theorem ck_N : ∀ r ∈ cs_N, wm_cok R_N gw r := fun _ h => nomatch h
def fl_M : List (Nat × Nat × Nat) := [(46, 2, 0), (41, 2, 1), (49, 2, 2), (52, 2, 3), (64, 1, 2), (74, 1, 3), (77, 1, 4), (67, 1, 5), (55, 1, 7), (60, 1, 8), (9, 7, 0), (15, 7, 1), (18, 7, 2), (22, 7, 3), (25, 7, 4), (28, 7, 5), (31, 7, 6), (34, 7, 7)]
theorem fk_M : ∀ r ∈ fl_M, wm_fok R_M gw cl0 r :=
  List.forall_mem_cons.mpr ⟨⟨R_E, T_E, 5, ty_E, rfl, uw_E, tk_E, nm_E, by decide, gw_at 44 (by decide +kernel) rfl, rfl⟩, List.forall_mem_cons.mpr ⟨⟨R_E, T_E, 5, ty_E, rfl, uw_E, tk_E, nm_E, by decide, gw_at 48 (by decide +kernel) rfl, rfl⟩, List.forall_mem_cons.mpr ⟨⟨R_E, T_E, 5, ty_E, rfl, uw_E, tk_E, nm_E, by decide, gw_at 50 (by decide +kernel) rfl, rfl⟩, List.forall_mem_cons.mpr ⟨⟨R_E, T_E, 5, ty_E, rfl, uw_E, tk_E, nm_E, by decide, gw_at 54 (by decide +kernel) rfl, rfl⟩, List.forall_mem_cons.mpr ⟨⟨R_G, T_G, 10, ty_G, rfl, uw_G, tk_G, nm_G, by decide, gw_at 84 (by decide +kernel) rfl, rfl⟩, List.forall_mem_cons.mpr ⟨⟨R_G, T_G, 10, ty_G, rfl, uw_G, tk_G, nm_G, by decide, gw_at 87 (by decide +kernel) rfl, rfl⟩, List.forall_mem_cons.mpr ⟨⟨R_G, T_G, 10, ty_G, rfl, uw_G, tk_G, nm_G, by decide, gw_at 89 (by decide +kernel) rfl, rfl⟩, List.forall_mem_cons.mpr ⟨⟨R_G, T_G, 10, ty_G, rfl, uw_G, tk_G, nm_G, by decide, gw_at 91 (by decide +kernel) rfl, rfl⟩, List.forall_mem_cons.mpr ⟨⟨R_G, T_G, 10, ty_G, rfl, uw_G, tk_G, nm_G, by decide, gw_at 95 (by decide +kernel) rfl, rfl⟩, List.forall_mem_cons.mpr ⟨⟨R_G, T_G, 10, ty_G, rfl, uw_G, tk_G, nm_G, by decide, gw_at 99 (by decide +kernel) rfl, rfl⟩, List.forall_mem_cons.mpr ⟨⟨R_M, T_M, 8, ty_M, rfl, uw_M, tk_M, nm_M, by decide, gw_at 224 (by decide +kernel) rfl, rfl⟩, List.forall_mem_cons.mpr ⟨⟨R_M, T_M, 8, ty_M, rfl, uw_M, tk_M, nm_M, by decide, gw_at 225 (by decide +kernel) rfl, rfl⟩, List.forall_mem_cons.mpr ⟨⟨R_M, T_M, 8, ty_M, rfl, uw_M, tk_M, nm_M, by decide, gw_at 227 (by decide +kernel) rfl, rfl⟩, List.forall_mem_cons.mpr ⟨⟨R_M, T_M, 8, ty_M, rfl, uw_M, tk_M, nm_M, by decide, gw_at 229 (by decide +kernel) rfl, rfl⟩, List.forall_mem_cons.mpr ⟨⟨R_M, T_M, 8, ty_M, rfl, uw_M, tk_M, nm_M, by decide, gw_at 231 (by decide +kernel) rfl, rfl⟩, List.forall_mem_cons.mpr ⟨⟨R_M, T_M, 8, ty_M, rfl, uw_M, tk_M, nm_M, by decide, gw_at 233 (by decide +kernel) rfl, rfl⟩, List.forall_mem_cons.mpr ⟨⟨R_M, T_M, 8, ty_M, rfl, uw_M, tk_M, nm_M, by decide, gw_at 234 (by decide +kernel) rfl, rfl⟩, List.forall_mem_cons.mpr ⟨⟨R_M, T_M, 8, ty_M, rfl, uw_M, tk_M, nm_M, by decide, gw_at 235 (by decide +kernel) rfl, rfl⟩, fun _ h => nomatch h⟩⟩⟩⟩⟩⟩⟩⟩⟩⟩⟩⟩⟩⟩⟩⟩⟩⟩
def cs_M : List (Nat × Value) := []
theorem ck_M : ∀ r ∈ cs_M, wm_cok R_M gw r := fun _ h => nomatch h
def fl_Z : List (Nat × Nat × Nat) := [(71, 8, 0), (98, 8, 1), (7, 8, 2), (13, 8, 3), (16, 8, 4), (19, 8, 5), (121, 8, 6), (22, 8, 7), (25, 8, 8), (28, 8, 9), (31, 8, 10), (34, 8, 11), (75, 8, 12), (37, 8, 13), (41, 8, 14), (44, 8, 15), (47, 8, 16), (50, 8, 17), (53, 8, 18), (56, 8, 19), (59, 8, 20), (62, 8, 21), (65, 8, 22), (83, 8, 23), (86, 8, 24), (89, 8, 25), (95, 8, 26), (92, 8, 27), (68, 8, 28)]
theorem fk_Z : ∀ r ∈ fl_Z, wm_fok R_Z gw cl0 r :=
  List.forall_mem_cons.mpr ⟨⟨R_Z, T_Z, 29, ty_Z, rfl, uw_Z, tk_Z, nm_Z, by decide, gw_at 663 (by decide +kernel) rfl, rfl⟩, List.forall_mem_cons.mpr ⟨⟨R_Z, T_Z, 29, ty_Z, rfl, uw_Z, tk_Z, nm_Z, by decide, gw_at 664 (by decide +kernel) rfl, rfl⟩, List.forall_mem_cons.mpr ⟨⟨R_Z, T_Z, 29, ty_Z, rfl, uw_Z, tk_Z, nm_Z, by decide, gw_at 665 (by decide +kernel) rfl, rfl⟩, List.forall_mem_cons.mpr ⟨⟨R_Z, T_Z, 29, ty_Z, rfl, uw_Z, tk_Z, nm_Z, by decide, gw_at 666 (by decide +kernel) rfl, rfl⟩, List.forall_mem_cons.mpr ⟨⟨R_Z, T_Z, 29, ty_Z, rfl, uw_Z, tk_Z, nm_Z, by decide, gw_at 667 (by decide +kernel) rfl, rfl⟩, List.forall_mem_cons.mpr ⟨⟨R_Z, T_Z, 29, ty_Z, rfl, uw_Z, tk_Z, nm_Z, by decide, gw_at 668 (by decide +kernel) rfl, rfl⟩, List.forall_mem_cons.mpr ⟨⟨R_Z, T_Z, 29, ty_Z, rfl, uw_Z, tk_Z, nm_Z, by decide, gw_at 669 (by decide +kernel) rfl, rfl⟩, List.forall_mem_cons.mpr ⟨⟨R_Z, T_Z, 29, ty_Z, rfl, uw_Z, tk_Z, nm_Z, by decide, gw_at 670 (by decide +kernel) rfl, rfl⟩, List.forall_mem_cons.mpr ⟨⟨R_Z, T_Z, 29, ty_Z, rfl, uw_Z, tk_Z, nm_Z, by decide, gw_at 671 (by decide +kernel) rfl, rfl⟩, List.forall_mem_cons.mpr ⟨⟨R_Z, T_Z, 29, ty_Z, rfl, uw_Z, tk_Z, nm_Z, by decide, gw_at 672 (by decide +kernel) rfl, rfl⟩, List.forall_mem_cons.mpr ⟨⟨R_Z, T_Z, 29, ty_Z, rfl, uw_Z, tk_Z, nm_Z, by decide, gw_at 673 (by decide +kernel) rfl, rfl⟩, List.forall_mem_cons.mpr ⟨⟨R_Z, T_Z, 29, ty_Z, rfl, uw_Z, tk_Z, nm_Z, by decide, gw_at 674 (by decide +kernel) rfl, rfl⟩, List.forall_mem_cons.mpr ⟨⟨R_Z, T_Z, 29, ty_Z, rfl, uw_Z, tk_Z, nm_Z, by decide, gw_at 675 (by decide +kernel) rfl, rfl⟩, List.forall_mem_cons.mpr ⟨⟨R_Z, T_Z, 29, ty_Z, rfl, uw_Z, tk_Z, nm_Z, by decide, gw_at 676 (by decide +kernel) rfl, rfl⟩, List.forall_mem_cons.mpr ⟨⟨R_Z, T_Z, 29, ty_Z, rfl, uw_Z, tk_Z, nm_Z, by decide, gw_at 677 (by decide +kernel) rfl, rfl⟩, List.forall_mem_cons.mpr ⟨⟨R_Z, T_Z, 29, ty_Z, rfl, uw_Z, tk_Z, nm_Z, by decide, gw_at 678 (by decide +kernel) rfl, rfl⟩, List.forall_mem_cons.mpr ⟨⟨R_Z, T_Z, 29, ty_Z, rfl, uw_Z, tk_Z, nm_Z, by decide, gw_at 679 (by decide +kernel) rfl, rfl⟩, List.forall_mem_cons.mpr ⟨⟨R_Z, T_Z, 29, ty_Z, rfl, uw_Z, tk_Z, nm_Z, by decide, gw_at 680 (by decide +kernel) rfl, rfl⟩, List.forall_mem_cons.mpr ⟨⟨R_Z, T_Z, 29, ty_Z, rfl, uw_Z, tk_Z, nm_Z, by decide, gw_at 681 (by decide +kernel) rfl, rfl⟩, List.forall_mem_cons.mpr ⟨⟨R_Z, T_Z, 29, ty_Z, rfl, uw_Z, tk_Z, nm_Z, by decide, gw_at 682 (by decide +kernel) rfl, rfl⟩, List.forall_mem_cons.mpr ⟨⟨R_Z, T_Z, 29, ty_Z, rfl, uw_Z, tk_Z, nm_Z, by decide, gw_at 683 (by decide +kernel) rfl, rfl⟩, List.forall_mem_cons.mpr ⟨⟨R_Z, T_Z, 29, ty_Z, rfl, uw_Z, tk_Z, nm_Z, by decide, gw_at 684 (by decide +kernel) rfl, rfl⟩, List.forall_mem_cons.mpr ⟨⟨R_Z, T_Z, 29, ty_Z, rfl, uw_Z, tk_Z, nm_Z, by decide, gw_at 685 (by decide +kernel) rfl, rfl⟩, List.forall_mem_cons.mpr ⟨⟨R_Z, T_Z, 29, ty_Z, rfl, uw_Z, tk_Z, nm_Z, by decide, gw_at 686 (by decide +kernel) rfl, rfl⟩, List.forall_mem_cons.mpr ⟨⟨R_Z, T_Z, 29, ty_Z, rfl, uw_Z, tk_Z, nm_Z, by decide, gw_at 687 (by decide +kernel) rfl, rfl⟩, List.forall_mem_cons.mpr ⟨⟨R_Z, T_Z, 29, ty_Z, rfl, uw_Z, tk_Z, nm_Z, by decide, gw_at 688 (by decide +kernel) rfl, rfl⟩, List.forall_mem_cons.mpr ⟨⟨R_Z, T_Z, 29, ty_Z, rfl, uw_Z, tk_Z, nm_Z, by decide, gw_at 689 (by decide +kernel) rfl, rfl⟩, List.forall_mem_cons.mpr ⟨⟨R_Z, T_Z, 29, ty_Z, rfl, uw_Z, tk_Z, nm_Z, by decide, gw_at 690 (by decide +kernel) rfl, rfl⟩, List.forall_mem_cons.mpr ⟨⟨R_Z, T_Z, 29, ty_Z, rfl, uw_Z, tk_Z, nm_Z, by decide, gw_at 691 (by decide +kernel) rfl, rfl⟩, fun _ h => nomatch h⟩⟩⟩⟩⟩⟩⟩⟩⟩⟩⟩⟩⟩⟩⟩⟩⟩⟩⟩⟩⟩⟩⟩⟩⟩⟩⟩⟩⟩
def cs_Z : List (Nat × Value) := []
theorem ck_Z : ∀ r ∈ cs_Z, wm_cok R_Z gw r := fun _ h => nomatch h
def fl_J : List (Nat × Nat × Nat) := []
theorem fk_J : ∀ r ∈ fl_J, wm_fok "java/lang/Long" gw cl0 r := fun _ h => nomatch h
def cs_J : List (Nat × Value) := [(314, .long 6148914691236517205), (316, .long 3689348814741910323), (318, .long 1085102592571150095)]
theorem ck_J : ∀ r ∈ cs_J, wm_cok "java/lang/Long" gw r := List.forall_mem_cons.mpr ⟨gw_at 561 (by decide +kernel) rfl, List.forall_mem_cons.mpr ⟨gw_at 562 (by decide +kernel) rfl, List.forall_mem_cons.mpr ⟨gw_at 563 (by decide +kernel) rfl, fun _ h => nomatch h⟩⟩⟩
def fl_A : List (Nat × Nat × Nat) := []
theorem fk_A : ∀ r ∈ fl_A, wm_fok "java/lang/Math" gw cl0 r := fun _ h => nomatch h
def cs_A : List (Nat × Value) := []
theorem ck_A : ∀ r ∈ cs_A, wm_cok "java/lang/Math" gw r := fun _ h => nomatch h
end WMN
