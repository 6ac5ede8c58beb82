/-! names: kinds of objects, fields, methods, the tables' words that a method needs -/
def gU : List Cond := lw_tbl.filter goodWord
theorem gU_good : GoodIn gU gU := fun w h => ⟨h, good_of_word (List.mem_filter.mp h).2⟩
theorem gU_mem {w : Cond} (h : w ∈ lw_tbl) (hg : goodWord w = true) : w ∈ gU := List.mem_filter.mpr ⟨h, hg⟩
theorem gU_of {args : Array Value} {s : State} (h : ∀ w ∈ lw_tbl, w.before args s = true) : ∀ w ∈ gU, w.before args s = true := fun w q => h w (List.mem_filter.mp q).1
def R_CG : String := "CommitGroups"
def F_CG : u_T := fun k => match k with
  | 0 => ("CommitGroups", "transactions", "[LCommitGroups$Transaction;", true)
  | 1 => ("CommitGroups", "groups", "[LCommitGroups$Group;", true)
  | 2 => ("CommitGroups", "shardStates", "[LCommitGroups$ShardState;", true)
  | 3 => ("CommitGroups", "decisionStates", "[LCommitGroups$DecisionState;", true)
  | 4 => ("CommitGroups", "coordinator", "LCommitGroups$Coordinator;", true)
  | _ => ("CommitGroups", "opened", "I", false)
def t_CG : Nat → FieldType := fun k => match k with
  | 0 => (.array (.object "CommitGroups$Transaction"))
  | 1 => (.array (.object "CommitGroups$Group"))
  | 2 => (.array (.object "CommitGroups$ShardState"))
  | 3 => (.array (.object "CommitGroups$DecisionState"))
  | 4 => (.object "CommitGroups$Coordinator")
  | _ => .int
theorem n_CG : ∀ a, a < 6 → ∀ b, b < 6 → a ≠ b → (F_CG a).2.1 ≠ (F_CG b).2.1 := by decide +kernel
theorem t_CG_ok : ∀ k, k < 6 → parseFieldDescriptor (F_CG k).2.2.1 = some (t_CG k) := by decide +kernel
theorem in_CG : ∀ w ∈ u_ws R_CG F_CG 6, w ∈ gU := by
  show ∀ w ∈ ([(Jvm.Cond.laysFinal "CommitGroups" "CommitGroups" "transactions" "[LCommitGroups$Transaction;"), (Jvm.Cond.laysFinal "CommitGroups" "CommitGroups" "groups" "[LCommitGroups$Group;"), (Jvm.Cond.laysFinal "CommitGroups" "CommitGroups" "shardStates" "[LCommitGroups$ShardState;"), (Jvm.Cond.laysFinal "CommitGroups" "CommitGroups" "decisionStates" "[LCommitGroups$DecisionState;"), (Jvm.Cond.laysFinal "CommitGroups" "CommitGroups" "coordinator" "LCommitGroups$Coordinator;"), (Jvm.Cond.lays "CommitGroups" "CommitGroups" "opened" "I")] : List Cond), w ∈ gU
  exact List.forall_mem_cons.mpr ⟨gU_mem (List.mem_append_right _ (List.mem_append_left _ (List.mem_of_getElem? (i := 189) rfl))) rfl, List.forall_mem_cons.mpr ⟨gU_mem (List.mem_append_right _ (List.mem_append_left _ (List.mem_of_getElem? (i := 191) rfl))) rfl, List.forall_mem_cons.mpr ⟨gU_mem (List.mem_append_right _ (List.mem_append_left _ (List.mem_of_getElem? (i := 193) rfl))) rfl, List.forall_mem_cons.mpr ⟨gU_mem (List.mem_append_right _ (List.mem_append_left _ (List.mem_of_getElem? (i := 195) rfl))) rfl, List.forall_mem_cons.mpr ⟨gU_mem (List.mem_append_right _ (List.mem_append_left _ (List.mem_of_getElem? (i := 197) rfl))) rfl, List.forall_mem_cons.mpr ⟨gU_mem (List.mem_append_right _ (List.mem_append_left _ (List.mem_of_getElem? (i := 199) rfl))) rfl, fun _ h => absurd h List.not_mem_nil⟩⟩⟩⟩⟩⟩
def R_Tx : String := "CommitGroups$Transaction"
def F_Tx : u_T := fun k => match k with
  | 0 => ("CommitGroups$Transaction", "kinds", "[I", true)
  | 1 => ("CommitGroups$Transaction", "keys", "[I", true)
  | 2 => ("CommitGroups$Transaction", "amounts", "[I", true)
  | 3 => ("CommitGroups$Transaction", "needs", "[I", true)
  | 4 => ("CommitGroups$Transaction", "operations", "I", false)
  | _ => ("CommitGroups$Transaction", "closed", "Z", false)
def t_Tx : Nat → FieldType := fun k => match k with
  | 0 => (.array .int)
  | 1 => (.array .int)
  | 2 => (.array .int)
  | 3 => (.array .int)
  | 4 => .int
  | _ => .boolean
theorem n_Tx : ∀ a, a < 6 → ∀ b, b < 6 → a ≠ b → (F_Tx a).2.1 ≠ (F_Tx b).2.1 := by decide +kernel
theorem t_Tx_ok : ∀ k, k < 6 → parseFieldDescriptor (F_Tx k).2.2.1 = some (t_Tx k) := by decide +kernel
theorem in_Tx : ∀ w ∈ u_ws R_Tx F_Tx 6, w ∈ gU := by
  show ∀ w ∈ ([(Jvm.Cond.laysFinal "CommitGroups$Transaction" "CommitGroups$Transaction" "kinds" "[I"), (Jvm.Cond.laysFinal "CommitGroups$Transaction" "CommitGroups$Transaction" "keys" "[I"), (Jvm.Cond.laysFinal "CommitGroups$Transaction" "CommitGroups$Transaction" "amounts" "[I"), (Jvm.Cond.laysFinal "CommitGroups$Transaction" "CommitGroups$Transaction" "needs" "[I"), (Jvm.Cond.lays "CommitGroups$Transaction" "CommitGroups$Transaction" "operations" "I"), (Jvm.Cond.lays "CommitGroups$Transaction" "CommitGroups$Transaction" "closed" "Z")] : List Cond), w ∈ gU
  exact List.forall_mem_cons.mpr ⟨gU_mem (List.mem_append_right _ (List.mem_append_left _ (List.mem_of_getElem? (i := 45) rfl))) rfl, List.forall_mem_cons.mpr ⟨gU_mem (List.mem_append_right _ (List.mem_append_left _ (List.mem_of_getElem? (i := 47) rfl))) rfl, List.forall_mem_cons.mpr ⟨gU_mem (List.mem_append_right _ (List.mem_append_left _ (List.mem_of_getElem? (i := 49) rfl))) rfl, List.forall_mem_cons.mpr ⟨gU_mem (List.mem_append_right _ (List.mem_append_left _ (List.mem_of_getElem? (i := 51) rfl))) rfl, List.forall_mem_cons.mpr ⟨gU_mem (List.mem_append_right _ (List.mem_append_left _ (List.mem_of_getElem? (i := 53) rfl))) rfl, List.forall_mem_cons.mpr ⟨gU_mem (List.mem_append_right _ (List.mem_append_left _ (List.mem_of_getElem? (i := 55) rfl))) rfl, fun _ h => absurd h List.not_mem_nil⟩⟩⟩⟩⟩⟩
def R_Co : String := "CommitGroups$Coordinator"
def F_Co : u_T := fun k => match k with
  | 0 => ("CommitGroups$Coordinator", "up", "Z", false)
  | 1 => ("CommitGroups$Coordinator", "votes", "[I", true)
  | 2 => ("CommitGroups$Coordinator", "decisions", "[I", true)
  | _ => ("CommitGroups$Coordinator", "results", "[I", true)
def t_Co : Nat → FieldType := fun k => match k with
  | 0 => .boolean
  | 1 => (.array .int)
  | 2 => (.array .int)
  | _ => (.array .int)
theorem n_Co : ∀ a, a < 4 → ∀ b, b < 4 → a ≠ b → (F_Co a).2.1 ≠ (F_Co b).2.1 := by decide +kernel
theorem t_Co_ok : ∀ k, k < 4 → parseFieldDescriptor (F_Co k).2.2.1 = some (t_Co k) := by decide +kernel
theorem in_Co : ∀ w ∈ u_ws R_Co F_Co 4, w ∈ gU := by
  show ∀ w ∈ ([(Jvm.Cond.lays "CommitGroups$Coordinator" "CommitGroups$Coordinator" "up" "Z"), (Jvm.Cond.laysFinal "CommitGroups$Coordinator" "CommitGroups$Coordinator" "votes" "[I"), (Jvm.Cond.laysFinal "CommitGroups$Coordinator" "CommitGroups$Coordinator" "decisions" "[I"), (Jvm.Cond.laysFinal "CommitGroups$Coordinator" "CommitGroups$Coordinator" "results" "[I")] : List Cond), w ∈ gU
  exact List.forall_mem_cons.mpr ⟨gU_mem (List.mem_append_right _ (List.mem_append_left _ (List.mem_of_getElem? (i := 79) rfl))) rfl, List.forall_mem_cons.mpr ⟨gU_mem (List.mem_append_right _ (List.mem_append_left _ (List.mem_of_getElem? (i := 81) rfl))) rfl, List.forall_mem_cons.mpr ⟨gU_mem (List.mem_append_right _ (List.mem_append_left _ (List.mem_of_getElem? (i := 83) rfl))) rfl, List.forall_mem_cons.mpr ⟨gU_mem (List.mem_append_right _ (List.mem_append_left _ (List.mem_of_getElem? (i := 85) rfl))) rfl, fun _ h => absurd h List.not_mem_nil⟩⟩⟩⟩
def R_SS : String := "CommitGroups$ShardState"
def F_SS : u_T := fun k => match k with
  | 0 => ("CommitGroups$ShardState", "shard", "I", true)
  | 1 => ("CommitGroups$ShardState", "transactions", "[LCommitGroups$Transaction;", true)
  | 2 => ("CommitGroups$ShardState", "values", "[I", true)
  | 3 => ("CommitGroups$ShardState", "tried", "[I", true)
  | 4 => ("CommitGroups$ShardState", "aloneBy", "[I", true)
  | 5 => ("CommitGroups$ShardState", "sharedBy", "[I", true)
  | 6 => ("CommitGroups$ShardState", "votes", "[I", true)
  | 7 => ("CommitGroups$ShardState", "finished", "[Z", true)
  | _ => ("CommitGroups$ShardState", "noted", "[I", true)
def t_SS : Nat → FieldType := fun k => match k with
  | 0 => .int
  | 1 => (.array (.object "CommitGroups$Transaction"))
  | 2 => (.array .int)
  | 3 => (.array .int)
  | 4 => (.array .int)
  | 5 => (.array .int)
  | 6 => (.array .int)
  | 7 => (.array .boolean)
  | _ => (.array .int)
theorem n_SS : ∀ a, a < 9 → ∀ b, b < 9 → a ≠ b → (F_SS a).2.1 ≠ (F_SS b).2.1 := by decide +kernel
theorem t_SS_ok : ∀ k, k < 9 → parseFieldDescriptor (F_SS k).2.2.1 = some (t_SS k) := by decide +kernel
theorem in_SS : ∀ w ∈ u_ws R_SS F_SS 9, w ∈ gU := by
  show ∀ w ∈ ([(Jvm.Cond.laysFinal "CommitGroups$ShardState" "CommitGroups$ShardState" "shard" "I"), (Jvm.Cond.laysFinal "CommitGroups$ShardState" "CommitGroups$ShardState" "transactions" "[LCommitGroups$Transaction;"), (Jvm.Cond.laysFinal "CommitGroups$ShardState" "CommitGroups$ShardState" "values" "[I"), (Jvm.Cond.laysFinal "CommitGroups$ShardState" "CommitGroups$ShardState" "tried" "[I"), (Jvm.Cond.laysFinal "CommitGroups$ShardState" "CommitGroups$ShardState" "aloneBy" "[I"), (Jvm.Cond.laysFinal "CommitGroups$ShardState" "CommitGroups$ShardState" "sharedBy" "[I"), (Jvm.Cond.laysFinal "CommitGroups$ShardState" "CommitGroups$ShardState" "votes" "[I"), (Jvm.Cond.laysFinal "CommitGroups$ShardState" "CommitGroups$ShardState" "finished" "[Z"), (Jvm.Cond.laysFinal "CommitGroups$ShardState" "CommitGroups$ShardState" "noted" "[I")] : List Cond), w ∈ gU
  exact List.forall_mem_cons.mpr ⟨gU_mem (List.mem_append_right _ (List.mem_append_left _ (List.mem_of_getElem? (i := 113) rfl))) rfl, List.forall_mem_cons.mpr ⟨gU_mem (List.mem_append_right _ (List.mem_append_left _ (List.mem_of_getElem? (i := 115) rfl))) rfl, List.forall_mem_cons.mpr ⟨gU_mem (List.mem_append_right _ (List.mem_append_left _ (List.mem_of_getElem? (i := 117) rfl))) rfl, List.forall_mem_cons.mpr ⟨gU_mem (List.mem_append_right _ (List.mem_append_left _ (List.mem_of_getElem? (i := 119) rfl))) rfl, List.forall_mem_cons.mpr ⟨gU_mem (List.mem_append_right _ (List.mem_append_left _ (List.mem_of_getElem? (i := 121) rfl))) rfl, List.forall_mem_cons.mpr ⟨gU_mem (List.mem_append_right _ (List.mem_append_left _ (List.mem_of_getElem? (i := 123) rfl))) rfl, List.forall_mem_cons.mpr ⟨gU_mem (List.mem_append_right _ (List.mem_append_left _ (List.mem_of_getElem? (i := 125) rfl))) rfl, List.forall_mem_cons.mpr ⟨gU_mem (List.mem_append_right _ (List.mem_append_left _ (List.mem_of_getElem? (i := 127) rfl))) rfl, List.forall_mem_cons.mpr ⟨gU_mem (List.mem_append_right _ (List.mem_append_left _ (List.mem_of_getElem? (i := 129) rfl))) rfl, fun _ h => absurd h List.not_mem_nil⟩⟩⟩⟩⟩⟩⟩⟩⟩
def R_DS : String := "CommitGroups$DecisionState"
def F_DS : u_T := fun k => match k with
  | _ => ("CommitGroups$DecisionState", "decisions", "[I", true)
def t_DS : Nat → FieldType := fun k => match k with
  | _ => (.array .int)
theorem n_DS : ∀ a, a < 1 → ∀ b, b < 1 → a ≠ b → (F_DS a).2.1 ≠ (F_DS b).2.1 := by decide +kernel
theorem t_DS_ok : ∀ k, k < 1 → parseFieldDescriptor (F_DS k).2.2.1 = some (t_DS k) := by decide +kernel
theorem in_DS : ∀ w ∈ u_ws R_DS F_DS 1, w ∈ gU := by
  show ∀ w ∈ ([(Jvm.Cond.laysFinal "CommitGroups$DecisionState" "CommitGroups$DecisionState" "decisions" "[I")] : List Cond), w ∈ gU
  exact List.forall_mem_cons.mpr ⟨gU_mem (List.mem_append_right _ (List.mem_append_left _ (List.mem_of_getElem? (i := 180) rfl))) rfl, fun _ h => absurd h List.not_mem_nil⟩
def R_Rp : String := "CommitGroups$Replica"
def F_Rp : u_T := fun k => match k with
  | 0 => ("CommitGroups$Replica", "state", "LCommitGroups$State;", true)
  | 1 => ("CommitGroups$Replica", "log", "[I", true)
  | 2 => ("CommitGroups$Replica", "up", "Z", false)
  | 3 => ("CommitGroups$Replica", "view", "I", false)
  | 4 => ("CommitGroups$Replica", "entries", "I", false)
  | _ => ("CommitGroups$Replica", "done", "I", false)
def t_Rp : Nat → FieldType := fun k => match k with
  | 0 => (.object "CommitGroups$State")
  | 1 => (.array .int)
  | 2 => .boolean
  | 3 => .int
  | 4 => .int
  | _ => .int
theorem n_Rp : ∀ a, a < 6 → ∀ b, b < 6 → a ≠ b → (F_Rp a).2.1 ≠ (F_Rp b).2.1 := by decide +kernel
theorem t_Rp_ok : ∀ k, k < 6 → parseFieldDescriptor (F_Rp k).2.2.1 = some (t_Rp k) := by decide +kernel
theorem in_Rp : ∀ w ∈ u_ws R_Rp F_Rp 6, w ∈ gU := by
  show ∀ w ∈ ([(Jvm.Cond.laysFinal "CommitGroups$Replica" "CommitGroups$Replica" "state" "LCommitGroups$State;"), (Jvm.Cond.laysFinal "CommitGroups$Replica" "CommitGroups$Replica" "log" "[I"), (Jvm.Cond.lays "CommitGroups$Replica" "CommitGroups$Replica" "up" "Z"), (Jvm.Cond.lays "CommitGroups$Replica" "CommitGroups$Replica" "view" "I"), (Jvm.Cond.lays "CommitGroups$Replica" "CommitGroups$Replica" "entries" "I"), (Jvm.Cond.lays "CommitGroups$Replica" "CommitGroups$Replica" "done" "I")] : List Cond), w ∈ gU
  exact List.forall_mem_cons.mpr ⟨gU_mem (List.mem_append_right _ (List.mem_append_left _ (List.mem_of_getElem? (i := 150) rfl))) rfl, List.forall_mem_cons.mpr ⟨gU_mem (List.mem_append_right _ (List.mem_append_left _ (List.mem_of_getElem? (i := 152) rfl))) rfl, List.forall_mem_cons.mpr ⟨gU_mem (List.mem_append_right _ (List.mem_append_left _ (List.mem_of_getElem? (i := 154) rfl))) rfl, List.forall_mem_cons.mpr ⟨gU_mem (List.mem_append_right _ (List.mem_append_left _ (List.mem_of_getElem? (i := 156) rfl))) rfl, List.forall_mem_cons.mpr ⟨gU_mem (List.mem_append_right _ (List.mem_append_left _ (List.mem_of_getElem? (i := 158) rfl))) rfl, List.forall_mem_cons.mpr ⟨gU_mem (List.mem_append_right _ (List.mem_append_left _ (List.mem_of_getElem? (i := 160) rfl))) rfl, fun _ h => absurd h List.not_mem_nil⟩⟩⟩⟩⟩⟩
def R_Gr : String := "CommitGroups$Group"
def F_Gr : u_T := fun k => match k with
  | _ => ("CommitGroups$Group", "replicas", "[LCommitGroups$Replica;", true)
def t_Gr : Nat → FieldType := fun k => match k with
  | _ => (.array (.object "CommitGroups$Replica"))
theorem n_Gr : ∀ a, a < 1 → ∀ b, b < 1 → a ≠ b → (F_Gr a).2.1 ≠ (F_Gr b).2.1 := by decide +kernel
theorem t_Gr_ok : ∀ k, k < 1 → parseFieldDescriptor (F_Gr k).2.2.1 = some (t_Gr k) := by decide +kernel
theorem in_Gr : ∀ w ∈ u_ws R_Gr F_Gr 1, w ∈ gU := by
  show ∀ w ∈ ([(Jvm.Cond.laysFinal "CommitGroups$Group" "CommitGroups$Group" "replicas" "[LCommitGroups$Replica;")] : List Cond), w ∈ gU
  exact List.forall_mem_cons.mpr ⟨gU_mem (List.mem_append_right _ (List.mem_append_left _ (List.mem_of_getElem? (i := 170) rfl))) rfl, fun _ h => absurd h List.not_mem_nil⟩
def R_Mo : String := "CommitGroupsModel"
def F_Mo : u_T := fun k => match k with
  | 0 => ("CommitGroupsModel", "count", "I", false)
  | 1 => ("CommitGroupsModel", "ops", "[I", true)
  | 2 => ("CommitGroupsModel", "closed", "[Z", true)
  | 3 => ("CommitGroupsModel", "opKind", "[I", true)
  | 4 => ("CommitGroupsModel", "opKey", "[I", true)
  | 5 => ("CommitGroupsModel", "opV", "[I", true)
  | 6 => ("CommitGroupsModel", "down", "[Z", true)
  | 7 => ("CommitGroupsModel", "views", "[I", true)
  | 8 => ("CommitGroupsModel", "lengths", "[I", true)
  | 9 => ("CommitGroupsModel", "done", "[I", true)
  | 10 => ("CommitGroupsModel", "log", "[I", true)
  | 11 => ("CommitGroupsModel", "halted", "Z", false)
  | 12 => ("CommitGroupsModel", "knownVote", "[I", true)
  | 13 => ("CommitGroupsModel", "known", "[I", true)
  | 14 => ("CommitGroupsModel", "voted", "[I", true)
  | 15 => ("CommitGroupsModel", "ended", "[Z", true)
  | 16 => ("CommitGroupsModel", "verdict", "[I", true)
  | 17 => ("CommitGroupsModel", "map", "[I", true)
  | _ => ("CommitGroupsModel", "last", "J", false)
def t_Mo : Nat → FieldType := fun k => match k with
  | 0 => .int
  | 1 => (.array .int)
  | 2 => (.array .boolean)
  | 3 => (.array .int)
  | 4 => (.array .int)
  | 5 => (.array .int)
  | 6 => (.array .boolean)
  | 7 => (.array .int)
  | 8 => (.array .int)
  | 9 => (.array .int)
  | 10 => (.array .int)
  | 11 => .boolean
  | 12 => (.array .int)
  | 13 => (.array .int)
  | 14 => (.array .int)
  | 15 => (.array .boolean)
  | 16 => (.array .int)
  | 17 => (.array .int)
  | _ => .long
theorem n_Mo : ∀ a, a < 19 → ∀ b, b < 19 → a ≠ b → (F_Mo a).2.1 ≠ (F_Mo b).2.1 := by decide +kernel
theorem t_Mo_ok : ∀ k, k < 19 → parseFieldDescriptor (F_Mo k).2.2.1 = some (t_Mo k) := by decide +kernel
theorem in_Mo : ∀ w ∈ u_ws R_Mo F_Mo 19, w ∈ gU := by
  show ∀ w ∈ ([(Jvm.Cond.lays "CommitGroupsModel" "CommitGroupsModel" "count" "I"), (Jvm.Cond.laysFinal "CommitGroupsModel" "CommitGroupsModel" "ops" "[I"), (Jvm.Cond.laysFinal "CommitGroupsModel" "CommitGroupsModel" "closed" "[Z"), (Jvm.Cond.laysFinal "CommitGroupsModel" "CommitGroupsModel" "opKind" "[I"), (Jvm.Cond.laysFinal "CommitGroupsModel" "CommitGroupsModel" "opKey" "[I"), (Jvm.Cond.laysFinal "CommitGroupsModel" "CommitGroupsModel" "opV" "[I"), (Jvm.Cond.laysFinal "CommitGroupsModel" "CommitGroupsModel" "down" "[Z"), (Jvm.Cond.laysFinal "CommitGroupsModel" "CommitGroupsModel" "views" "[I"), (Jvm.Cond.laysFinal "CommitGroupsModel" "CommitGroupsModel" "lengths" "[I"), (Jvm.Cond.laysFinal "CommitGroupsModel" "CommitGroupsModel" "done" "[I"), (Jvm.Cond.laysFinal "CommitGroupsModel" "CommitGroupsModel" "log" "[I"), (Jvm.Cond.lays "CommitGroupsModel" "CommitGroupsModel" "halted" "Z"), (Jvm.Cond.laysFinal "CommitGroupsModel" "CommitGroupsModel" "knownVote" "[I"), (Jvm.Cond.laysFinal "CommitGroupsModel" "CommitGroupsModel" "known" "[I"), (Jvm.Cond.laysFinal "CommitGroupsModel" "CommitGroupsModel" "voted" "[I"), (Jvm.Cond.laysFinal "CommitGroupsModel" "CommitGroupsModel" "ended" "[Z"), (Jvm.Cond.laysFinal "CommitGroupsModel" "CommitGroupsModel" "verdict" "[I"), (Jvm.Cond.laysFinal "CommitGroupsModel" "CommitGroupsModel" "map" "[I"), (Jvm.Cond.lays "CommitGroupsModel" "CommitGroupsModel" "last" "J")] : List Cond), w ∈ gU
  exact List.forall_mem_cons.mpr ⟨gU_mem (List.mem_append_right _ (List.mem_append_right _ (List.mem_append_left _ (List.mem_of_getElem? (i := 230) rfl)))) rfl, List.forall_mem_cons.mpr ⟨gU_mem (List.mem_append_right _ (List.mem_append_right _ (List.mem_append_left _ (List.mem_of_getElem? (i := 232) rfl)))) rfl, List.forall_mem_cons.mpr ⟨gU_mem (List.mem_append_right _ (List.mem_append_right _ (List.mem_append_left _ (List.mem_of_getElem? (i := 234) rfl)))) rfl, List.forall_mem_cons.mpr ⟨gU_mem (List.mem_append_right _ (List.mem_append_right _ (List.mem_append_left _ (List.mem_of_getElem? (i := 236) rfl)))) rfl, List.forall_mem_cons.mpr ⟨gU_mem (List.mem_append_right _ (List.mem_append_right _ (List.mem_append_left _ (List.mem_of_getElem? (i := 238) rfl)))) rfl, List.forall_mem_cons.mpr ⟨gU_mem (List.mem_append_right _ (List.mem_append_right _ (List.mem_append_right _ (List.mem_of_getElem? (i := 0) rfl)))) rfl, List.forall_mem_cons.mpr ⟨gU_mem (List.mem_append_right _ (List.mem_append_right _ (List.mem_append_right _ (List.mem_of_getElem? (i := 2) rfl)))) rfl, List.forall_mem_cons.mpr ⟨gU_mem (List.mem_append_right _ (List.mem_append_right _ (List.mem_append_right _ (List.mem_of_getElem? (i := 4) rfl)))) rfl, List.forall_mem_cons.mpr ⟨gU_mem (List.mem_append_right _ (List.mem_append_right _ (List.mem_append_right _ (List.mem_of_getElem? (i := 6) rfl)))) rfl, List.forall_mem_cons.mpr ⟨gU_mem (List.mem_append_right _ (List.mem_append_right _ (List.mem_append_right _ (List.mem_of_getElem? (i := 8) rfl)))) rfl, List.forall_mem_cons.mpr ⟨gU_mem (List.mem_append_right _ (List.mem_append_right _ (List.mem_append_right _ (List.mem_of_getElem? (i := 10) rfl)))) rfl, List.forall_mem_cons.mpr ⟨gU_mem (List.mem_append_right _ (List.mem_append_right _ (List.mem_append_right _ (List.mem_of_getElem? (i := 12) rfl)))) rfl, List.forall_mem_cons.mpr ⟨gU_mem (List.mem_append_right _ (List.mem_append_right _ (List.mem_append_right _ (List.mem_of_getElem? (i := 14) rfl)))) rfl, List.forall_mem_cons.mpr ⟨gU_mem (List.mem_append_right _ (List.mem_append_right _ (List.mem_append_right _ (List.mem_of_getElem? (i := 16) rfl)))) rfl, List.forall_mem_cons.mpr ⟨gU_mem (List.mem_append_right _ (List.mem_append_right _ (List.mem_append_right _ (List.mem_of_getElem? (i := 18) rfl)))) rfl, List.forall_mem_cons.mpr ⟨gU_mem (List.mem_append_right _ (List.mem_append_right _ (List.mem_append_right _ (List.mem_of_getElem? (i := 20) rfl)))) rfl, List.forall_mem_cons.mpr ⟨gU_mem (List.mem_append_right _ (List.mem_append_right _ (List.mem_append_right _ (List.mem_of_getElem? (i := 22) rfl)))) rfl, List.forall_mem_cons.mpr ⟨gU_mem (List.mem_append_right _ (List.mem_append_right _ (List.mem_append_right _ (List.mem_of_getElem? (i := 24) rfl)))) rfl, List.forall_mem_cons.mpr ⟨gU_mem (List.mem_append_right _ (List.mem_append_right _ (List.mem_append_right _ (List.mem_of_getElem? (i := 26) rfl)))) rfl, fun _ h => absurd h List.not_mem_nil⟩⟩⟩⟩⟩⟩⟩⟩⟩⟩⟩⟩⟩⟩⟩⟩⟩⟩⟩
def R_La : String := "CommitGroupsLaw"
abbrev cg_cl : List vw_C := [(R_CG, F_CG, 6), (R_Tx, F_Tx, 6), (R_Co, F_Co, 4), (R_SS, F_SS, 9), (R_DS, F_DS, 1), (R_Rp, F_Rp, 6), (R_Gr, F_Gr, 1), (R_Mo, F_Mo, 19)]
abbrev kCG : Nat := 0
abbrev kTx : Nat := 1
abbrev kCo : Nat := 2
abbrev kSS : Nat := 3
abbrev kDS : Nat := 4
abbrev kRp : Nat := 5
abbrev kGr : Nat := 6
abbrev kMo : Nat := 7
abbrev c_CG_init : ByteArray := prog_1_method_1_code
def y_CG_init : MethodName := ⟨"CommitGroups", "<init>", "()V"⟩
def w_CG_init : List Cond := Cond.code y_CG_init c_CG_init 6 (Option.none : Option Jvm.ClassFile.FieldType) :: gU
theorem wc_CG_init : Cond.code y_CG_init c_CG_init 6 (Option.none : Option Jvm.ClassFile.FieldType) ∈ gU := gU_mem (List.mem_append_right _ (List.mem_append_left _ (List.mem_of_getElem? (i := 18) rfl))) rfl
theorem wg_CG_init : GoodIn gU w_CG_init := fun w h => gU_good w ((List.mem_cons.mp h).elim (fun e => e ▸ wc_CG_init) id)
abbrev c_CG_opn : ByteArray := prog_1_method_2_code
def y_CG_opn : MethodName := ⟨"CommitGroups", "open", "()I"⟩
def w_CG_opn : List Cond := Cond.code y_CG_opn c_CG_opn 1 (Option.some Jvm.ClassFile.FieldType.int) :: gU
theorem wc_CG_opn : Cond.code y_CG_opn c_CG_opn 1 (Option.some Jvm.ClassFile.FieldType.int) ∈ gU := gU_mem (List.mem_append_right _ (List.mem_append_left _ (List.mem_of_getElem? (i := 205) rfl))) rfl
theorem wg_CG_opn : GoodIn gU w_CG_opn := fun w h => gU_good w ((List.mem_cons.mp h).elim (fun e => e ▸ wc_CG_opn) id)
abbrev c_CG_touch : ByteArray := prog_1_method_3_code
def y_CG_touch : MethodName := ⟨"CommitGroups", "touch", "(IIII)Z"⟩
def w_CG_touch : List Cond := Cond.code y_CG_touch c_CG_touch 5 (Option.some Jvm.ClassFile.FieldType.boolean) :: gU
theorem wc_CG_touch : Cond.code y_CG_touch c_CG_touch 5 (Option.some Jvm.ClassFile.FieldType.boolean) ∈ gU := gU_mem (List.mem_append_right _ (List.mem_append_left _ (List.mem_of_getElem? (i := 209) rfl))) rfl
theorem wg_CG_touch : GoodIn gU w_CG_touch := fun w h => gU_good w ((List.mem_cons.mp h).elim (fun e => e ▸ wc_CG_touch) id)
abbrev c_CG_prepare : ByteArray := prog_1_method_4_code
def y_CG_prepare : MethodName := ⟨"CommitGroups", "prepare", "(IIZ)I"⟩
def w_CG_prepare : List Cond := Cond.code y_CG_prepare c_CG_prepare 9 (Option.some Jvm.ClassFile.FieldType.int) :: gU
theorem wc_CG_prepare : Cond.code y_CG_prepare c_CG_prepare 9 (Option.some Jvm.ClassFile.FieldType.int) ∈ gU := gU_mem (List.mem_append_right _ (List.mem_append_left _ (List.mem_of_getElem? (i := 227) rfl))) rfl
theorem wg_CG_prepare : GoodIn gU w_CG_prepare := fun w h => gU_good w ((List.mem_cons.mp h).elim (fun e => e ▸ wc_CG_prepare) id)
abbrev c_CG_decide : ByteArray := prog_1_method_5_code
def y_CG_decide : MethodName := ⟨"CommitGroups", "decide", "(IZ)I"⟩
def w_CG_decide : List Cond := Cond.code y_CG_decide c_CG_decide 4 (Option.some Jvm.ClassFile.FieldType.int) :: gU
theorem wc_CG_decide : Cond.code y_CG_decide c_CG_decide 4 (Option.some Jvm.ClassFile.FieldType.int) ∈ gU := gU_mem (List.mem_append_right _ (List.mem_append_right _ (List.mem_append_left _ (List.mem_of_getElem? (i := 83) rfl)))) rfl
theorem wg_CG_decide : GoodIn gU w_CG_decide := fun w h => gU_good w ((List.mem_cons.mp h).elim (fun e => e ▸ wc_CG_decide) id)
abbrev c_CG_timeout : ByteArray := prog_1_method_6_code
def y_CG_timeout : MethodName := ⟨"CommitGroups", "timeout", "(IZ)I"⟩
def w_CG_timeout : List Cond := Cond.code y_CG_timeout c_CG_timeout 4 (Option.some Jvm.ClassFile.FieldType.int) :: gU
theorem wc_CG_timeout : Cond.code y_CG_timeout c_CG_timeout 4 (Option.some Jvm.ClassFile.FieldType.int) ∈ gU := gU_mem (List.mem_append_right _ (List.mem_append_right _ (List.mem_append_left _ (List.mem_of_getElem? (i := 104) rfl)))) rfl
theorem wg_CG_timeout : GoodIn gU w_CG_timeout := fun w h => gU_good w ((List.mem_cons.mp h).elim (fun e => e ▸ wc_CG_timeout) id)
abbrev c_CG_finish : ByteArray := prog_1_method_7_code
def y_CG_finish : MethodName := ⟨"CommitGroups", "finish", "(II)I"⟩
def w_CG_finish : List Cond := Cond.code y_CG_finish c_CG_finish 7 (Option.some Jvm.ClassFile.FieldType.int) :: gU
theorem wc_CG_finish : Cond.code y_CG_finish c_CG_finish 7 (Option.some Jvm.ClassFile.FieldType.int) ∈ gU := gU_mem (List.mem_append_right _ (List.mem_append_right _ (List.mem_append_left _ (List.mem_of_getElem? (i := 108) rfl)))) rfl
theorem wg_CG_finish : GoodIn gU w_CG_finish := fun w h => gU_good w ((List.mem_cons.mp h).elim (fun e => e ▸ wc_CG_finish) id)
abbrev c_CG_vote : ByteArray := prog_1_method_8_code
def y_CG_vote : MethodName := ⟨"CommitGroups", "vote", "(II)I"⟩
def w_CG_vote : List Cond := Cond.code y_CG_vote c_CG_vote 3 (Option.some Jvm.ClassFile.FieldType.int) :: gU
theorem wc_CG_vote : Cond.code y_CG_vote c_CG_vote 3 (Option.some Jvm.ClassFile.FieldType.int) ∈ gU := gU_mem (List.mem_append_right _ (List.mem_append_right _ (List.mem_append_left _ (List.mem_of_getElem? (i := 112) rfl)))) rfl
theorem wg_CG_vote : GoodIn gU w_CG_vote := fun w h => gU_good w ((List.mem_cons.mp h).elim (fun e => e ▸ wc_CG_vote) id)
abbrev c_CG_outcome : ByteArray := prog_1_method_9_code
def y_CG_outcome : MethodName := ⟨"CommitGroups", "outcome", "(I)I"⟩
def w_CG_outcome : List Cond := Cond.code y_CG_outcome c_CG_outcome 2 (Option.some Jvm.ClassFile.FieldType.int) :: gU
theorem wc_CG_outcome : Cond.code y_CG_outcome c_CG_outcome 2 (Option.some Jvm.ClassFile.FieldType.int) ∈ gU := gU_mem (List.mem_append_right _ (List.mem_append_right _ (List.mem_append_left _ (List.mem_of_getElem? (i := 116) rfl)))) rfl
theorem wg_CG_outcome : GoodIn gU w_CG_outcome := fun w h => gU_good w ((List.mem_cons.mp h).elim (fun e => e ▸ wc_CG_outcome) id)
abbrev c_CG_result : ByteArray := prog_1_method_10_code
def y_CG_result : MethodName := ⟨"CommitGroups", "result", "(II)J"⟩
def w_CG_result : List Cond := Cond.code y_CG_result c_CG_result 4 (Option.some Jvm.ClassFile.FieldType.long) :: gU
theorem wc_CG_result : Cond.code y_CG_result c_CG_result 4 (Option.some Jvm.ClassFile.FieldType.long) ∈ gU := gU_mem (List.mem_append_right _ (List.mem_append_right _ (List.mem_append_left _ (List.mem_of_getElem? (i := 120) rfl)))) rfl
theorem wg_CG_result : GoodIn gU w_CG_result := fun w h => gU_good w ((List.mem_cons.mp h).elim (fun e => e ▸ wc_CG_result) id)
abbrev c_CG_crash : ByteArray := prog_1_method_11_code
def y_CG_crash : MethodName := ⟨"CommitGroups", "crash", "(II)Z"⟩
def w_CG_crash : List Cond := Cond.code y_CG_crash c_CG_crash 3 (Option.some Jvm.ClassFile.FieldType.boolean) :: gU
theorem wc_CG_crash : Cond.code y_CG_crash c_CG_crash 3 (Option.some Jvm.ClassFile.FieldType.boolean) ∈ gU := gU_mem (List.mem_append_right _ (List.mem_append_right _ (List.mem_append_left _ (List.mem_of_getElem? (i := 125) rfl)))) rfl
theorem wg_CG_crash : GoodIn gU w_CG_crash := fun w h => gU_good w ((List.mem_cons.mp h).elim (fun e => e ▸ wc_CG_crash) id)
abbrev c_CG_restart : ByteArray := prog_1_method_12_code
def y_CG_restart : MethodName := ⟨"CommitGroups", "restart", "(II)Z"⟩
def w_CG_restart : List Cond := Cond.code y_CG_restart c_CG_restart 3 (Option.some Jvm.ClassFile.FieldType.boolean) :: gU
theorem wc_CG_restart : Cond.code y_CG_restart c_CG_restart 3 (Option.some Jvm.ClassFile.FieldType.boolean) ∈ gU := gU_mem (List.mem_append_right _ (List.mem_append_right _ (List.mem_append_left _ (List.mem_of_getElem? (i := 138) rfl)))) rfl
theorem wg_CG_restart : GoodIn gU w_CG_restart := fun w h => gU_good w ((List.mem_cons.mp h).elim (fun e => e ▸ wc_CG_restart) id)
abbrev c_CG_elect : ByteArray := prog_1_method_13_code
def y_CG_elect : MethodName := ⟨"CommitGroups", "elect", "(I)I"⟩
def w_CG_elect : List Cond := Cond.code y_CG_elect c_CG_elect 2 (Option.some Jvm.ClassFile.FieldType.int) :: gU
theorem wc_CG_elect : Cond.code y_CG_elect c_CG_elect 2 (Option.some Jvm.ClassFile.FieldType.int) ∈ gU := gU_mem (List.mem_append_right _ (List.mem_append_right _ (List.mem_append_left _ (List.mem_of_getElem? (i := 142) rfl)))) rfl
theorem wg_CG_elect : GoodIn gU w_CG_elect := fun w h => gU_good w ((List.mem_cons.mp h).elim (fun e => e ▸ wc_CG_elect) id)
abbrev c_CG_halt : ByteArray := prog_1_method_14_code
def y_CG_halt : MethodName := ⟨"CommitGroups", "halt", "()Z"⟩
def w_CG_halt : List Cond := Cond.code y_CG_halt c_CG_halt 1 (Option.some Jvm.ClassFile.FieldType.boolean) :: gU
theorem wc_CG_halt : Cond.code y_CG_halt c_CG_halt 1 (Option.some Jvm.ClassFile.FieldType.boolean) ∈ gU := gU_mem (List.mem_append_right _ (List.mem_append_right _ (List.mem_append_left _ (List.mem_of_getElem? (i := 159) rfl)))) rfl
theorem wg_CG_halt : GoodIn gU w_CG_halt := fun w h => gU_good w ((List.mem_cons.mp h).elim (fun e => e ▸ wc_CG_halt) id)
abbrev c_CG_resume : ByteArray := prog_1_method_15_code
def y_CG_resume : MethodName := ⟨"CommitGroups", "resume", "()Z"⟩
def w_CG_resume : List Cond := Cond.code y_CG_resume c_CG_resume 1 (Option.some Jvm.ClassFile.FieldType.boolean) :: gU
theorem wc_CG_resume : Cond.code y_CG_resume c_CG_resume 1 (Option.some Jvm.ClassFile.FieldType.boolean) ∈ gU := gU_mem (List.mem_append_right _ (List.mem_append_right _ (List.mem_append_left _ (List.mem_of_getElem? (i := 170) rfl)))) rfl
theorem wg_CG_resume : GoodIn gU w_CG_resume := fun w h => gU_good w ((List.mem_cons.mp h).elim (fun e => e ▸ wc_CG_resume) id)
abbrev c_CG_leader : ByteArray := prog_1_method_16_code
def y_CG_leader : MethodName := ⟨"CommitGroups", "leader", "(I)I"⟩
def w_CG_leader : List Cond := Cond.code y_CG_leader c_CG_leader 2 (Option.some Jvm.ClassFile.FieldType.int) :: gU
theorem wc_CG_leader : Cond.code y_CG_leader c_CG_leader 2 (Option.some Jvm.ClassFile.FieldType.int) ∈ gU := gU_mem (List.mem_append_right _ (List.mem_append_right _ (List.mem_append_left _ (List.mem_of_getElem? (i := 174) rfl)))) rfl
theorem wg_CG_leader : GoodIn gU w_CG_leader := fun w h => gU_good w ((List.mem_cons.mp h).elim (fun e => e ▸ wc_CG_leader) id)
abbrev c_CG_view : ByteArray := prog_1_method_17_code
def y_CG_view : MethodName := ⟨"CommitGroups", "view", "(II)I"⟩
def w_CG_view : List Cond := Cond.code y_CG_view c_CG_view 3 (Option.some Jvm.ClassFile.FieldType.int) :: gU
theorem wc_CG_view : Cond.code y_CG_view c_CG_view 3 (Option.some Jvm.ClassFile.FieldType.int) ∈ gU := gU_mem (List.mem_append_right _ (List.mem_append_right _ (List.mem_append_left _ (List.mem_of_getElem? (i := 178) rfl)))) rfl
theorem wg_CG_view : GoodIn gU w_CG_view := fun w h => gU_good w ((List.mem_cons.mp h).elim (fun e => e ▸ wc_CG_view) id)
abbrev c_CG_length : ByteArray := prog_1_method_18_code
def y_CG_length : MethodName := ⟨"CommitGroups", "length", "(II)I"⟩
def w_CG_length : List Cond := Cond.code y_CG_length c_CG_length 3 (Option.some Jvm.ClassFile.FieldType.int) :: gU
theorem wc_CG_length : Cond.code y_CG_length c_CG_length 3 (Option.some Jvm.ClassFile.FieldType.int) ∈ gU := gU_mem (List.mem_append_right _ (List.mem_append_right _ (List.mem_append_left _ (List.mem_of_getElem? (i := 182) rfl)))) rfl
theorem wg_CG_length : GoodIn gU w_CG_length := fun w h => gU_good w ((List.mem_cons.mp h).elim (fun e => e ▸ wc_CG_length) id)
abbrev c_CG_executed : ByteArray := prog_1_method_19_code
def y_CG_executed : MethodName := ⟨"CommitGroups", "executed", "(II)I"⟩
def w_CG_executed : List Cond := Cond.code y_CG_executed c_CG_executed 3 (Option.some Jvm.ClassFile.FieldType.int) :: gU
theorem wc_CG_executed : Cond.code y_CG_executed c_CG_executed 3 (Option.some Jvm.ClassFile.FieldType.int) ∈ gU := gU_mem (List.mem_append_right _ (List.mem_append_right _ (List.mem_append_left _ (List.mem_of_getElem? (i := 186) rfl)))) rfl
theorem wg_CG_executed : GoodIn gU w_CG_executed := fun w h => gU_good w ((List.mem_cons.mp h).elim (fun e => e ▸ wc_CG_executed) id)
abbrev c_CG_value : ByteArray := prog_1_method_20_code
def y_CG_value : MethodName := ⟨"CommitGroups", "value", "(II)I"⟩
def w_CG_value : List Cond := Cond.code y_CG_value c_CG_value 3 (Option.some Jvm.ClassFile.FieldType.int) :: gU
theorem wc_CG_value : Cond.code y_CG_value c_CG_value 3 (Option.some Jvm.ClassFile.FieldType.int) ∈ gU := gU_mem (List.mem_append_right _ (List.mem_append_right _ (List.mem_append_left _ (List.mem_of_getElem? (i := 190) rfl)))) rfl
theorem wg_CG_value : GoodIn gU w_CG_value := fun w h => gU_good w ((List.mem_cons.mp h).elim (fun e => e ▸ wc_CG_value) id)
abbrev c_CG_holds : ByteArray := prog_1_method_21_code
def y_CG_holds : MethodName := ⟨"CommitGroups", "holds", "(II)I"⟩
def w_CG_holds : List Cond := Cond.code y_CG_holds c_CG_holds 3 (Option.some Jvm.ClassFile.FieldType.int) :: gU
theorem wc_CG_holds : Cond.code y_CG_holds c_CG_holds 3 (Option.some Jvm.ClassFile.FieldType.int) ∈ gU := gU_mem (List.mem_append_right _ (List.mem_append_right _ (List.mem_append_left _ (List.mem_of_getElem? (i := 194) rfl)))) rfl
theorem wg_CG_holds : GoodIn gU w_CG_holds := fun w h => gU_good w ((List.mem_cons.mp h).elim (fun e => e ▸ wc_CG_holds) id)
abbrev c_CG_isTransaction : ByteArray := prog_1_method_22_code
def y_CG_isTransaction : MethodName := ⟨"CommitGroups", "isTransaction", "(I)Z"⟩
def w_CG_isTransaction : List Cond := Cond.code y_CG_isTransaction c_CG_isTransaction 2 (Option.some Jvm.ClassFile.FieldType.boolean) :: gU
theorem wc_CG_isTransaction : Cond.code y_CG_isTransaction c_CG_isTransaction 2 (Option.some Jvm.ClassFile.FieldType.boolean) ∈ gU := gU_mem (List.mem_append_right _ (List.mem_append_left _ (List.mem_of_getElem? (i := 213) rfl))) rfl
theorem wg_CG_isTransaction : GoodIn gU w_CG_isTransaction := fun w h => gU_good w ((List.mem_cons.mp h).elim (fun e => e ▸ wc_CG_isTransaction) id)
abbrev c_CG_isKey : ByteArray := prog_1_method_23_code
def y_CG_isKey : MethodName := ⟨"CommitGroups", "isKey", "(I)Z"⟩
def w_CG_isKey : List Cond := Cond.code y_CG_isKey c_CG_isKey 1 (Option.some Jvm.ClassFile.FieldType.boolean) :: gU
theorem wc_CG_isKey : Cond.code y_CG_isKey c_CG_isKey 1 (Option.some Jvm.ClassFile.FieldType.boolean) ∈ gU := gU_mem (List.mem_append_right _ (List.mem_append_left _ (List.mem_of_getElem? (i := 216) rfl))) rfl
theorem wg_CG_isKey : GoodIn gU w_CG_isKey := fun w h => gU_good w ((List.mem_cons.mp h).elim (fun e => e ▸ wc_CG_isKey) id)
abbrev c_CG_isShard : ByteArray := prog_1_method_24_code
def y_CG_isShard : MethodName := ⟨"CommitGroups", "isShard", "(I)Z"⟩
def w_CG_isShard : List Cond := Cond.code y_CG_isShard c_CG_isShard 1 (Option.some Jvm.ClassFile.FieldType.boolean) :: gU
theorem wc_CG_isShard : Cond.code y_CG_isShard c_CG_isShard 1 (Option.some Jvm.ClassFile.FieldType.boolean) ∈ gU := gU_mem (List.mem_append_right _ (List.mem_append_left _ (List.mem_of_getElem? (i := 234) rfl))) rfl
theorem wg_CG_isShard : GoodIn gU w_CG_isShard := fun w h => gU_good w ((List.mem_cons.mp h).elim (fun e => e ▸ wc_CG_isShard) id)
abbrev c_CG_isGroup : ByteArray := prog_1_method_25_code
def y_CG_isGroup : MethodName := ⟨"CommitGroups", "isGroup", "(I)Z"⟩
def w_CG_isGroup : List Cond := Cond.code y_CG_isGroup c_CG_isGroup 1 (Option.some Jvm.ClassFile.FieldType.boolean) :: gU
theorem wc_CG_isGroup : Cond.code y_CG_isGroup c_CG_isGroup 1 (Option.some Jvm.ClassFile.FieldType.boolean) ∈ gU := gU_mem (List.mem_append_right _ (List.mem_append_right _ (List.mem_append_left _ (List.mem_of_getElem? (i := 131) rfl)))) rfl
theorem wg_CG_isGroup : GoodIn gU w_CG_isGroup := fun w h => gU_good w ((List.mem_cons.mp h).elim (fun e => e ▸ wc_CG_isGroup) id)
abbrev c_CG_isReplicaNumber : ByteArray := prog_1_method_26_code
def y_CG_isReplicaNumber : MethodName := ⟨"CommitGroups", "isReplicaNumber", "(I)Z"⟩
def w_CG_isReplicaNumber : List Cond := Cond.code y_CG_isReplicaNumber c_CG_isReplicaNumber 1 (Option.some Jvm.ClassFile.FieldType.boolean) :: gU
theorem wc_CG_isReplicaNumber : Cond.code y_CG_isReplicaNumber c_CG_isReplicaNumber 1 (Option.some Jvm.ClassFile.FieldType.boolean) ∈ gU := gU_mem (List.mem_append_right _ (List.mem_append_right _ (List.mem_append_left _ (List.mem_of_getElem? (i := 134) rfl)))) rfl
theorem wg_CG_isReplicaNumber : GoodIn gU w_CG_isReplicaNumber := fun w h => gU_good w ((List.mem_cons.mp h).elim (fun e => e ▸ wc_CG_isReplicaNumber) id)
abbrev c_CG_isReplica : ByteArray := prog_1_method_27_code
def y_CG_isReplica : MethodName := ⟨"CommitGroups", "isReplica", "(II)Z"⟩
def w_CG_isReplica : List Cond := Cond.code y_CG_isReplica c_CG_isReplica 2 (Option.some Jvm.ClassFile.FieldType.boolean) :: gU
theorem wc_CG_isReplica : Cond.code y_CG_isReplica c_CG_isReplica 2 (Option.some Jvm.ClassFile.FieldType.boolean) ∈ gU := gU_mem (List.mem_append_right _ (List.mem_append_right _ (List.mem_append_left _ (List.mem_of_getElem? (i := 128) rfl)))) rfl
theorem wg_CG_isReplica : GoodIn gU w_CG_isReplica := fun w h => gU_good w ((List.mem_cons.mp h).elim (fun e => e ▸ wc_CG_isReplica) id)
abbrev c_CG_entry : ByteArray := prog_1_method_28_code
def y_CG_entry : MethodName := ⟨"CommitGroups", "entry", "(II)I"⟩
def w_CG_entry : List Cond := Cond.code y_CG_entry c_CG_entry 2 (Option.some Jvm.ClassFile.FieldType.int) :: gU
theorem wc_CG_entry : Cond.code y_CG_entry c_CG_entry 2 (Option.some Jvm.ClassFile.FieldType.int) ∈ gU := gU_mem (List.mem_append_right _ (List.mem_append_right _ (List.mem_append_left _ (List.mem_of_getElem? (i := 13) rfl)))) rfl
theorem wg_CG_entry : GoodIn gU w_CG_entry := fun w h => gU_good w ((List.mem_cons.mp h).elim (fun e => e ▸ wc_CG_entry) id)
abbrev c_CG_refusalAtShard : ByteArray := prog_1_method_29_code
def y_CG_refusalAtShard : MethodName := ⟨"CommitGroups", "refusalAtShard", "(II)I"⟩
def w_CG_refusalAtShard : List Cond := Cond.code y_CG_refusalAtShard c_CG_refusalAtShard 3 (Option.some Jvm.ClassFile.FieldType.int) :: gU
theorem wc_CG_refusalAtShard : Cond.code y_CG_refusalAtShard c_CG_refusalAtShard 3 (Option.some Jvm.ClassFile.FieldType.int) ∈ gU := gU_mem (List.mem_append_right _ (List.mem_append_left _ (List.mem_of_getElem? (i := 231) rfl))) rfl
theorem wg_CG_refusalAtShard : GoodIn gU w_CG_refusalAtShard := fun w h => gU_good w ((List.mem_cons.mp h).elim (fun e => e ▸ wc_CG_refusalAtShard) id)
abbrev c_CG_refusalOfDecision : ByteArray := prog_1_method_30_code
def y_CG_refusalOfDecision : MethodName := ⟨"CommitGroups", "refusalOfDecision", "(I)I"⟩
def w_CG_refusalOfDecision : List Cond := Cond.code y_CG_refusalOfDecision c_CG_refusalOfDecision 2 (Option.some Jvm.ClassFile.FieldType.int) :: gU
theorem wc_CG_refusalOfDecision : Cond.code y_CG_refusalOfDecision c_CG_refusalOfDecision 2 (Option.some Jvm.ClassFile.FieldType.int) ∈ gU := gU_mem (List.mem_append_right _ (List.mem_append_right _ (List.mem_append_left _ (List.mem_of_getElem? (i := 87) rfl)))) rfl
theorem wg_CG_refusalOfDecision : GoodIn gU w_CG_refusalOfDecision := fun w h => gU_good w ((List.mem_cons.mp h).elim (fun e => e ▸ wc_CG_refusalOfDecision) id)
abbrev c_CG_propose : ByteArray := prog_1_method_31_code
def y_CG_propose : MethodName := ⟨"CommitGroups", "propose", "(IIZ)I"⟩
def w_CG_propose : List Cond := Cond.code y_CG_propose c_CG_propose 8 (Option.some Jvm.ClassFile.FieldType.int) :: gU
theorem wc_CG_propose : Cond.code y_CG_propose c_CG_propose 8 (Option.some Jvm.ClassFile.FieldType.int) ∈ gU := gU_mem (List.mem_append_right _ (List.mem_append_right _ (List.mem_append_left _ (List.mem_of_getElem? (i := 95) rfl)))) rfl
theorem wg_CG_propose : GoodIn gU w_CG_propose := fun w h => gU_good w ((List.mem_cons.mp h).elim (fun e => e ▸ wc_CG_propose) id)
abbrev c_Mo_init : ByteArray := prog_10_method_1_code
def y_Mo_init : MethodName := ⟨"CommitGroupsModel", "<init>", "()V"⟩
def w_Mo_init : List Cond := Cond.code y_Mo_init c_Mo_init 1 (Option.none : Option Jvm.ClassFile.FieldType) :: gU
theorem wc_Mo_init : Cond.code y_Mo_init c_Mo_init 1 (Option.none : Option Jvm.ClassFile.FieldType) ∈ gU := gU_mem (List.mem_append_right _ (List.mem_append_right _ (List.mem_append_left _ (List.mem_of_getElem? (i := 209) rfl)))) rfl
theorem wg_Mo_init : GoodIn gU w_Mo_init := fun w h => gU_good w ((List.mem_cons.mp h).elim (fun e => e ▸ wc_Mo_init) id)
abbrev c_Mo_in : ByteArray := prog_10_method_2_code
def y_Mo_in : MethodName := ⟨"CommitGroupsModel", "in", "(III)Z"⟩
def w_Mo_in : List Cond := Cond.code y_Mo_in c_Mo_in 3 (Option.some Jvm.ClassFile.FieldType.boolean) :: gU
theorem wc_Mo_in : Cond.code y_Mo_in c_Mo_in 3 (Option.some Jvm.ClassFile.FieldType.boolean) ∈ gU := gU_mem (List.mem_append_right _ (List.mem_append_right _ (List.mem_append_right _ (List.mem_of_getElem? (i := 39) rfl)))) rfl
theorem wg_Mo_in : GoodIn gU w_Mo_in := fun w h => gU_good w ((List.mem_cons.mp h).elim (fun e => e ▸ wc_Mo_in) id)
abbrev c_Mo_opn : ByteArray := prog_10_method_3_code
def y_Mo_opn : MethodName := ⟨"CommitGroupsModel", "open", "()I"⟩
def w_Mo_opn : List Cond := Cond.code y_Mo_opn c_Mo_opn 1 (Option.some Jvm.ClassFile.FieldType.int) :: gU
theorem wc_Mo_opn : Cond.code y_Mo_opn c_Mo_opn 1 (Option.some Jvm.ClassFile.FieldType.int) ∈ gU := gU_mem (List.mem_append_right _ (List.mem_append_right _ (List.mem_append_right _ (List.mem_of_getElem? (i := 32) rfl)))) rfl
theorem wg_Mo_opn : GoodIn gU w_Mo_opn := fun w h => gU_good w ((List.mem_cons.mp h).elim (fun e => e ▸ wc_Mo_opn) id)
abbrev c_Mo_touch : ByteArray := prog_10_method_4_code
def y_Mo_touch : MethodName := ⟨"CommitGroupsModel", "touch", "(IIII)Z"⟩
def w_Mo_touch : List Cond := Cond.code y_Mo_touch c_Mo_touch 6 (Option.some Jvm.ClassFile.FieldType.boolean) :: gU
theorem wc_Mo_touch : Cond.code y_Mo_touch c_Mo_touch 6 (Option.some Jvm.ClassFile.FieldType.boolean) ∈ gU := gU_mem (List.mem_append_right _ (List.mem_append_right _ (List.mem_append_right _ (List.mem_of_getElem? (i := 36) rfl)))) rfl
theorem wg_Mo_touch : GoodIn gU w_Mo_touch := fun w h => gU_good w ((List.mem_cons.mp h).elim (fun e => e ▸ wc_Mo_touch) id)
abbrev c_Mo_touches : ByteArray := prog_10_method_5_code
def y_Mo_touches : MethodName := ⟨"CommitGroupsModel", "touches", "(II)Z"⟩
def w_Mo_touches : List Cond := Cond.code y_Mo_touches c_Mo_touches 5 (Option.some Jvm.ClassFile.FieldType.boolean) :: gU
theorem wc_Mo_touches : Cond.code y_Mo_touches c_Mo_touches 5 (Option.some Jvm.ClassFile.FieldType.boolean) ∈ gU := gU_mem (List.mem_append_right _ (List.mem_append_right _ (List.mem_append_right _ (List.mem_of_getElem? (i := 79) rfl)))) rfl
theorem wg_Mo_touches : GoodIn gU w_Mo_touches := fun w h => gU_good w ((List.mem_cons.mp h).elim (fun e => e ▸ wc_Mo_touches) id)
abbrev c_Mo_needs : ByteArray := prog_10_method_6_code
def y_Mo_needs : MethodName := ⟨"CommitGroupsModel", "needs", "(II)I"⟩
def w_Mo_needs : List Cond := Cond.code y_Mo_needs c_Mo_needs 5 (Option.some Jvm.ClassFile.FieldType.int) :: gU
theorem wc_Mo_needs : Cond.code y_Mo_needs c_Mo_needs 5 (Option.some Jvm.ClassFile.FieldType.int) ∈ gU := gU_mem (List.mem_append_right _ (List.mem_append_right _ (List.mem_append_right _ (List.mem_of_getElem? (i := 100) rfl)))) rfl
theorem wg_Mo_needs : GoodIn gU w_Mo_needs := fun w h => gU_good w ((List.mem_cons.mp h).elim (fun e => e ▸ wc_Mo_needs) id)
abbrev c_Mo_run : ByteArray := prog_10_method_7_code
def y_Mo_run : MethodName := ⟨"CommitGroupsModel", "run", "(II)V"⟩
def w_Mo_run : List Cond := Cond.code y_Mo_run c_Mo_run 5 (Option.none : Option Jvm.ClassFile.FieldType) :: gU
theorem wc_Mo_run : Cond.code y_Mo_run c_Mo_run 5 (Option.none : Option Jvm.ClassFile.FieldType) ∈ gU := gU_mem (List.mem_append_right _ (List.mem_append_right _ (List.mem_append_right _ (List.mem_of_getElem? (i := 104) rfl)))) rfl
theorem wg_Mo_run : GoodIn gU w_Mo_run := fun w h => gU_good w ((List.mem_cons.mp h).elim (fun e => e ▸ wc_Mo_run) id)
abbrev c_Mo_hinders : ByteArray := prog_10_method_8_code
def y_Mo_hinders : MethodName := ⟨"CommitGroupsModel", "hinders", "(III)Z"⟩
def w_Mo_hinders : List Cond := Cond.code y_Mo_hinders c_Mo_hinders 7 (Option.some Jvm.ClassFile.FieldType.boolean) :: gU
theorem wc_Mo_hinders : Cond.code y_Mo_hinders c_Mo_hinders 7 (Option.some Jvm.ClassFile.FieldType.boolean) ∈ gU := gU_mem (List.mem_append_right _ (List.mem_append_right _ (List.mem_append_right _ (List.mem_of_getElem? (i := 96) rfl)))) rfl
theorem wg_Mo_hinders : GoodIn gU w_Mo_hinders := fun w h => gU_good w ((List.mem_cons.mp h).elim (fun e => e ▸ wc_Mo_hinders) id)
abbrev c_Mo_free : ByteArray := prog_10_method_9_code
def y_Mo_free : MethodName := ⟨"CommitGroupsModel", "free", "(II)Z"⟩
def w_Mo_free : List Cond := Cond.code y_Mo_free c_Mo_free 4 (Option.some Jvm.ClassFile.FieldType.boolean) :: gU
theorem wc_Mo_free : Cond.code y_Mo_free c_Mo_free 4 (Option.some Jvm.ClassFile.FieldType.boolean) ∈ gU := gU_mem (List.mem_append_right _ (List.mem_append_right _ (List.mem_append_right _ (List.mem_of_getElem? (i := 92) rfl)))) rfl
theorem wg_Mo_free : GoodIn gU w_Mo_free := fun w h => gU_good w ((List.mem_cons.mp h).elim (fun e => e ▸ wc_Mo_free) id)
abbrev c_Mo_execute : ByteArray := prog_10_method_10_code
def y_Mo_execute : MethodName := ⟨"CommitGroupsModel", "execute", "(III)V"⟩
def w_Mo_execute : List Cond := Cond.code y_Mo_execute c_Mo_execute 5 (Option.none : Option Jvm.ClassFile.FieldType) :: gU
theorem wc_Mo_execute : Cond.code y_Mo_execute c_Mo_execute 5 (Option.none : Option Jvm.ClassFile.FieldType) ∈ gU := gU_mem (List.mem_append_right _ (List.mem_append_right _ (List.mem_append_right _ (List.mem_of_getElem? (i := 88) rfl)))) rfl
theorem wg_Mo_execute : GoodIn gU w_Mo_execute := fun w h => gU_good w ((List.mem_cons.mp h).elim (fun e => e ▸ wc_Mo_execute) id)
abbrev c_Mo_work : ByteArray := prog_10_method_11_code
def y_Mo_work : MethodName := ⟨"CommitGroupsModel", "work", "(II)V"⟩
def w_Mo_work : List Cond := Cond.code y_Mo_work c_Mo_work 6 (Option.none : Option Jvm.ClassFile.FieldType) :: gU
theorem wc_Mo_work : Cond.code y_Mo_work c_Mo_work 6 (Option.none : Option Jvm.ClassFile.FieldType) ∈ gU := gU_mem (List.mem_append_right _ (List.mem_append_right _ (List.mem_append_right _ (List.mem_of_getElem? (i := 84) rfl)))) rfl
theorem wg_Mo_work : GoodIn gU w_Mo_work := fun w h => gU_good w ((List.mem_cons.mp h).elim (fun e => e ▸ wc_Mo_work) id)
abbrev c_Mo_top : ByteArray := prog_10_method_12_code
def y_Mo_top : MethodName := ⟨"CommitGroupsModel", "top", "(I)I"⟩
def w_Mo_top : List Cond := Cond.code y_Mo_top c_Mo_top 4 (Option.some Jvm.ClassFile.FieldType.int) :: gU
theorem wc_Mo_top : Cond.code y_Mo_top c_Mo_top 4 (Option.some Jvm.ClassFile.FieldType.int) ∈ gU := gU_mem (List.mem_append_right _ (List.mem_append_right _ (List.mem_append_right _ (List.mem_of_getElem? (i := 47) rfl)))) rfl
theorem wg_Mo_top : GoodIn gU w_Mo_top := fun w h => gU_good w ((List.mem_cons.mp h).elim (fun e => e ▸ wc_Mo_top) id)
abbrev c_Mo_living : ByteArray := prog_10_method_13_code
def y_Mo_living : MethodName := ⟨"CommitGroupsModel", "living", "(I)I"⟩
def w_Mo_living : List Cond := Cond.code y_Mo_living c_Mo_living 4 (Option.some Jvm.ClassFile.FieldType.int) :: gU
theorem wc_Mo_living : Cond.code y_Mo_living c_Mo_living 4 (Option.some Jvm.ClassFile.FieldType.int) ∈ gU := gU_mem (List.mem_append_right _ (List.mem_append_right _ (List.mem_append_right _ (List.mem_of_getElem? (i := 55) rfl)))) rfl
theorem wg_Mo_living : GoodIn gU w_Mo_living := fun w h => gU_good w ((List.mem_cons.mp h).elim (fun e => e ▸ wc_Mo_living) id)
abbrev c_Mo_leader : ByteArray := prog_10_method_14_code
def y_Mo_leader : MethodName := ⟨"CommitGroupsModel", "leader", "(I)I"⟩
def w_Mo_leader : List Cond := Cond.code y_Mo_leader c_Mo_leader 3 (Option.some Jvm.ClassFile.FieldType.int) :: gU
theorem wc_Mo_leader : Cond.code y_Mo_leader c_Mo_leader 3 (Option.some Jvm.ClassFile.FieldType.int) ∈ gU := gU_mem (List.mem_append_right _ (List.mem_append_right _ (List.mem_append_right _ (List.mem_of_getElem? (i := 43) rfl)))) rfl
theorem wg_Mo_leader : GoodIn gU w_Mo_leader := fun w h => gU_good w ((List.mem_cons.mp h).elim (fun e => e ▸ wc_Mo_leader) id)
abbrev c_Mo_spread : ByteArray := prog_10_method_15_code
def y_Mo_spread : MethodName := ⟨"CommitGroupsModel", "spread", "(III)V"⟩
def w_Mo_spread : List Cond := Cond.code y_Mo_spread c_Mo_spread 9 (Option.none : Option Jvm.ClassFile.FieldType) :: gU
theorem wc_Mo_spread : Cond.code y_Mo_spread c_Mo_spread 9 (Option.none : Option Jvm.ClassFile.FieldType) ∈ gU := gU_mem (List.mem_append_right _ (List.mem_append_right _ (List.mem_append_right _ (List.mem_of_getElem? (i := 59) rfl)))) rfl
theorem wg_Mo_spread : GoodIn gU w_Mo_spread := fun w h => gU_good w ((List.mem_cons.mp h).elim (fun e => e ▸ wc_Mo_spread) id)
abbrev c_Mo_append : ByteArray := prog_10_method_16_code
def y_Mo_append : MethodName := ⟨"CommitGroupsModel", "append", "(III)I"⟩
def w_Mo_append : List Cond := Cond.code y_Mo_append c_Mo_append 6 (Option.some Jvm.ClassFile.FieldType.int) :: gU
theorem wc_Mo_append : Cond.code y_Mo_append c_Mo_append 6 (Option.some Jvm.ClassFile.FieldType.int) ∈ gU := gU_mem (List.mem_append_right _ (List.mem_append_right _ (List.mem_append_right _ (List.mem_of_getElem? (i := 108) rfl)))) rfl
theorem wg_Mo_append : GoodIn gU w_Mo_append := fun w h => gU_good w ((List.mem_cons.mp h).elim (fun e => e ▸ wc_Mo_append) id)
abbrev c_Mo_elect : ByteArray := prog_10_method_17_code
def y_Mo_elect : MethodName := ⟨"CommitGroupsModel", "elect", "(I)I"⟩
def w_Mo_elect : List Cond := Cond.code y_Mo_elect c_Mo_elect 6 (Option.some Jvm.ClassFile.FieldType.int) :: gU
theorem wc_Mo_elect : Cond.code y_Mo_elect c_Mo_elect 6 (Option.some Jvm.ClassFile.FieldType.int) ∈ gU := gU_mem (List.mem_append_right _ (List.mem_append_right _ (List.mem_append_right _ (List.mem_of_getElem? (i := 51) rfl)))) rfl
theorem wg_Mo_elect : GoodIn gU w_Mo_elect := fun w h => gU_good w ((List.mem_cons.mp h).elim (fun e => e ▸ wc_Mo_elect) id)
abbrev c_Mo_crash : ByteArray := prog_10_method_18_code
def y_Mo_crash : MethodName := ⟨"CommitGroupsModel", "crash", "(II)Z"⟩
def w_Mo_crash : List Cond := Cond.code y_Mo_crash c_Mo_crash 3 (Option.some Jvm.ClassFile.FieldType.boolean) :: gU
theorem wc_Mo_crash : Cond.code y_Mo_crash c_Mo_crash 3 (Option.some Jvm.ClassFile.FieldType.boolean) ∈ gU := gU_mem (List.mem_append_right _ (List.mem_append_right _ (List.mem_append_right _ (List.mem_of_getElem? (i := 63) rfl)))) rfl
theorem wg_Mo_crash : GoodIn gU w_Mo_crash := fun w h => gU_good w ((List.mem_cons.mp h).elim (fun e => e ▸ wc_Mo_crash) id)
abbrev c_Mo_restart : ByteArray := prog_10_method_19_code
def y_Mo_restart : MethodName := ⟨"CommitGroupsModel", "restart", "(II)Z"⟩
def w_Mo_restart : List Cond := Cond.code y_Mo_restart c_Mo_restart 3 (Option.some Jvm.ClassFile.FieldType.boolean) :: gU
theorem wc_Mo_restart : Cond.code y_Mo_restart c_Mo_restart 3 (Option.some Jvm.ClassFile.FieldType.boolean) ∈ gU := gU_mem (List.mem_append_right _ (List.mem_append_right _ (List.mem_append_right _ (List.mem_of_getElem? (i := 67) rfl)))) rfl
theorem wg_Mo_restart : GoodIn gU w_Mo_restart := fun w h => gU_good w ((List.mem_cons.mp h).elim (fun e => e ▸ wc_Mo_restart) id)
abbrev c_Mo_refusal : ByteArray := prog_10_method_20_code
def y_Mo_refusal : MethodName := ⟨"CommitGroupsModel", "refusal", "(II)I"⟩
def w_Mo_refusal : List Cond := Cond.code y_Mo_refusal c_Mo_refusal 3 (Option.some Jvm.ClassFile.FieldType.int) :: gU
theorem wc_Mo_refusal : Cond.code y_Mo_refusal c_Mo_refusal 3 (Option.some Jvm.ClassFile.FieldType.int) ∈ gU := gU_mem (List.mem_append_right _ (List.mem_append_right _ (List.mem_append_right _ (List.mem_of_getElem? (i := 75) rfl)))) rfl
theorem wg_Mo_refusal : GoodIn gU w_Mo_refusal := fun w h => gU_good w ((List.mem_cons.mp h).elim (fun e => e ▸ wc_Mo_refusal) id)
abbrev c_Mo_refusalAll : ByteArray := prog_10_method_21_code
def y_Mo_refusalAll : MethodName := ⟨"CommitGroupsModel", "refusalAll", "(I)I"⟩
def w_Mo_refusalAll : List Cond := Cond.code y_Mo_refusalAll c_Mo_refusalAll 2 (Option.some Jvm.ClassFile.FieldType.int) :: gU
theorem wc_Mo_refusalAll : Cond.code y_Mo_refusalAll c_Mo_refusalAll 2 (Option.some Jvm.ClassFile.FieldType.int) ∈ gU := gU_mem (List.mem_append_right _ (List.mem_append_right _ (List.mem_append_right _ (List.mem_of_getElem? (i := 116) rfl)))) rfl
theorem wg_Mo_refusalAll : GoodIn gU w_Mo_refusalAll := fun w h => gU_good w ((List.mem_cons.mp h).elim (fun e => e ▸ wc_Mo_refusalAll) id)
abbrev c_Mo_prepare : ByteArray := prog_10_method_22_code
def y_Mo_prepare : MethodName := ⟨"CommitGroupsModel", "prepare", "(IIZ)I"⟩
def w_Mo_prepare : List Cond := Cond.code y_Mo_prepare c_Mo_prepare 7 (Option.some Jvm.ClassFile.FieldType.int) :: gU
theorem wc_Mo_prepare : Cond.code y_Mo_prepare c_Mo_prepare 7 (Option.some Jvm.ClassFile.FieldType.int) ∈ gU := gU_mem (List.mem_append_right _ (List.mem_append_right _ (List.mem_append_right _ (List.mem_of_getElem? (i := 71) rfl)))) rfl
theorem wg_Mo_prepare : GoodIn gU w_Mo_prepare := fun w h => gU_good w ((List.mem_cons.mp h).elim (fun e => e ▸ wc_Mo_prepare) id)
abbrev c_Mo_propose : ByteArray := prog_10_method_23_code
def y_Mo_propose : MethodName := ⟨"CommitGroupsModel", "propose", "(IIZ)I"⟩
def w_Mo_propose : List Cond := Cond.code y_Mo_propose c_Mo_propose 6 (Option.some Jvm.ClassFile.FieldType.int) :: gU
theorem wc_Mo_propose : Cond.code y_Mo_propose c_Mo_propose 6 (Option.some Jvm.ClassFile.FieldType.int) ∈ gU := gU_mem (List.mem_append_right _ (List.mem_append_right _ (List.mem_append_right _ (List.mem_of_getElem? (i := 120) rfl)))) rfl
theorem wg_Mo_propose : GoodIn gU w_Mo_propose := fun w h => gU_good w ((List.mem_cons.mp h).elim (fun e => e ▸ wc_Mo_propose) id)
abbrev c_Mo_decide : ByteArray := prog_10_method_24_code
def y_Mo_decide : MethodName := ⟨"CommitGroupsModel", "decide", "(IZ)I"⟩
def w_Mo_decide : List Cond := Cond.code y_Mo_decide c_Mo_decide 7 (Option.some Jvm.ClassFile.FieldType.int) :: gU
theorem wc_Mo_decide : Cond.code y_Mo_decide c_Mo_decide 7 (Option.some Jvm.ClassFile.FieldType.int) ∈ gU := gU_mem (List.mem_append_right _ (List.mem_append_right _ (List.mem_append_right _ (List.mem_of_getElem? (i := 112) rfl)))) rfl
theorem wg_Mo_decide : GoodIn gU w_Mo_decide := fun w h => gU_good w ((List.mem_cons.mp h).elim (fun e => e ▸ wc_Mo_decide) id)
abbrev c_Mo_timeout : ByteArray := prog_10_method_25_code
def y_Mo_timeout : MethodName := ⟨"CommitGroupsModel", "timeout", "(IZ)I"⟩
def w_Mo_timeout : List Cond := Cond.code y_Mo_timeout c_Mo_timeout 4 (Option.some Jvm.ClassFile.FieldType.int) :: gU
theorem wc_Mo_timeout : Cond.code y_Mo_timeout c_Mo_timeout 4 (Option.some Jvm.ClassFile.FieldType.int) ∈ gU := gU_mem (List.mem_append_right _ (List.mem_append_right _ (List.mem_append_right _ (List.mem_of_getElem? (i := 124) rfl)))) rfl
theorem wg_Mo_timeout : GoodIn gU w_Mo_timeout := fun w h => gU_good w ((List.mem_cons.mp h).elim (fun e => e ▸ wc_Mo_timeout) id)
abbrev c_Mo_finish : ByteArray := prog_10_method_26_code
def y_Mo_finish : MethodName := ⟨"CommitGroupsModel", "finish", "(II)I"⟩
def w_Mo_finish : List Cond := Cond.code y_Mo_finish c_Mo_finish 6 (Option.some Jvm.ClassFile.FieldType.int) :: gU
theorem wc_Mo_finish : Cond.code y_Mo_finish c_Mo_finish 6 (Option.some Jvm.ClassFile.FieldType.int) ∈ gU := gU_mem (List.mem_append_right _ (List.mem_append_right _ (List.mem_append_right _ (List.mem_of_getElem? (i := 128) rfl)))) rfl
theorem wg_Mo_finish : GoodIn gU w_Mo_finish := fun w h => gU_good w ((List.mem_cons.mp h).elim (fun e => e ▸ wc_Mo_finish) id)
abbrev c_Mo_halt : ByteArray := prog_10_method_27_code
def y_Mo_halt : MethodName := ⟨"CommitGroupsModel", "halt", "()Z"⟩
def w_Mo_halt : List Cond := Cond.code y_Mo_halt c_Mo_halt 2 (Option.some Jvm.ClassFile.FieldType.boolean) :: gU
theorem wc_Mo_halt : Cond.code y_Mo_halt c_Mo_halt 2 (Option.some Jvm.ClassFile.FieldType.boolean) ∈ gU := gU_mem (List.mem_append_right _ (List.mem_append_right _ (List.mem_append_right _ (List.mem_of_getElem? (i := 132) rfl)))) rfl
theorem wg_Mo_halt : GoodIn gU w_Mo_halt := fun w h => gU_good w ((List.mem_cons.mp h).elim (fun e => e ▸ wc_Mo_halt) id)
abbrev c_Mo_resume : ByteArray := prog_10_method_28_code
def y_Mo_resume : MethodName := ⟨"CommitGroupsModel", "resume", "()Z"⟩
def w_Mo_resume : List Cond := Cond.code y_Mo_resume c_Mo_resume 2 (Option.some Jvm.ClassFile.FieldType.boolean) :: gU
theorem wc_Mo_resume : Cond.code y_Mo_resume c_Mo_resume 2 (Option.some Jvm.ClassFile.FieldType.boolean) ∈ gU := gU_mem (List.mem_append_right _ (List.mem_append_right _ (List.mem_append_right _ (List.mem_of_getElem? (i := 136) rfl)))) rfl
theorem wg_Mo_resume : GoodIn gU w_Mo_resume := fun w h => gU_good w ((List.mem_cons.mp h).elim (fun e => e ▸ wc_Mo_resume) id)
abbrev c_Mo_vote : ByteArray := prog_10_method_29_code
def y_Mo_vote : MethodName := ⟨"CommitGroupsModel", "vote", "(II)I"⟩
def w_Mo_vote : List Cond := Cond.code y_Mo_vote c_Mo_vote 3 (Option.some Jvm.ClassFile.FieldType.int) :: gU
theorem wc_Mo_vote : Cond.code y_Mo_vote c_Mo_vote 3 (Option.some Jvm.ClassFile.FieldType.int) ∈ gU := gU_mem (List.mem_append_right _ (List.mem_append_right _ (List.mem_append_right _ (List.mem_of_getElem? (i := 140) rfl)))) rfl
theorem wg_Mo_vote : GoodIn gU w_Mo_vote := fun w h => gU_good w ((List.mem_cons.mp h).elim (fun e => e ▸ wc_Mo_vote) id)
abbrev c_Mo_outcome : ByteArray := prog_10_method_30_code
def y_Mo_outcome : MethodName := ⟨"CommitGroupsModel", "outcome", "(I)I"⟩
def w_Mo_outcome : List Cond := Cond.code y_Mo_outcome c_Mo_outcome 2 (Option.some Jvm.ClassFile.FieldType.int) :: gU
theorem wc_Mo_outcome : Cond.code y_Mo_outcome c_Mo_outcome 2 (Option.some Jvm.ClassFile.FieldType.int) ∈ gU := gU_mem (List.mem_append_right _ (List.mem_append_right _ (List.mem_append_right _ (List.mem_of_getElem? (i := 144) rfl)))) rfl
theorem wg_Mo_outcome : GoodIn gU w_Mo_outcome := fun w h => gU_good w ((List.mem_cons.mp h).elim (fun e => e ▸ wc_Mo_outcome) id)
abbrev c_Mo_serial : ByteArray := prog_10_method_31_code
def y_Mo_serial : MethodName := ⟨"CommitGroupsModel", "serial", "(II)J"⟩
def w_Mo_serial : List Cond := Cond.code y_Mo_serial c_Mo_serial 10 (Option.some Jvm.ClassFile.FieldType.long) :: gU
theorem wc_Mo_serial : Cond.code y_Mo_serial c_Mo_serial 10 (Option.some Jvm.ClassFile.FieldType.long) ∈ gU := gU_mem (List.mem_append_right _ (List.mem_append_right _ (List.mem_append_right _ (List.mem_of_getElem? (i := 153) rfl)))) rfl
theorem wg_Mo_serial : GoodIn gU w_Mo_serial := fun w h => gU_good w ((List.mem_cons.mp h).elim (fun e => e ▸ wc_Mo_serial) id)
abbrev c_Mo_result : ByteArray := prog_10_method_32_code
def y_Mo_result : MethodName := ⟨"CommitGroupsModel", "result", "(II)J"⟩
def w_Mo_result : List Cond := Cond.code y_Mo_result c_Mo_result 4 (Option.some Jvm.ClassFile.FieldType.long) :: gU
theorem wc_Mo_result : Cond.code y_Mo_result c_Mo_result 4 (Option.some Jvm.ClassFile.FieldType.long) ∈ gU := gU_mem (List.mem_append_right _ (List.mem_append_right _ (List.mem_append_right _ (List.mem_of_getElem? (i := 148) rfl)))) rfl
theorem wg_Mo_result : GoodIn gU w_Mo_result := fun w h => gU_good w ((List.mem_cons.mp h).elim (fun e => e ▸ wc_Mo_result) id)
abbrev c_Mo_view : ByteArray := prog_10_method_33_code
def y_Mo_view : MethodName := ⟨"CommitGroupsModel", "view", "(II)I"⟩
def w_Mo_view : List Cond := Cond.code y_Mo_view c_Mo_view 3 (Option.some Jvm.ClassFile.FieldType.int) :: gU
theorem wc_Mo_view : Cond.code y_Mo_view c_Mo_view 3 (Option.some Jvm.ClassFile.FieldType.int) ∈ gU := gU_mem (List.mem_append_right _ (List.mem_append_right _ (List.mem_append_right _ (List.mem_of_getElem? (i := 157) rfl)))) rfl
theorem wg_Mo_view : GoodIn gU w_Mo_view := fun w h => gU_good w ((List.mem_cons.mp h).elim (fun e => e ▸ wc_Mo_view) id)
abbrev c_Mo_length : ByteArray := prog_10_method_34_code
def y_Mo_length : MethodName := ⟨"CommitGroupsModel", "length", "(II)I"⟩
def w_Mo_length : List Cond := Cond.code y_Mo_length c_Mo_length 3 (Option.some Jvm.ClassFile.FieldType.int) :: gU
theorem wc_Mo_length : Cond.code y_Mo_length c_Mo_length 3 (Option.some Jvm.ClassFile.FieldType.int) ∈ gU := gU_mem (List.mem_append_right _ (List.mem_append_right _ (List.mem_append_right _ (List.mem_of_getElem? (i := 161) rfl)))) rfl
theorem wg_Mo_length : GoodIn gU w_Mo_length := fun w h => gU_good w ((List.mem_cons.mp h).elim (fun e => e ▸ wc_Mo_length) id)
abbrev c_Mo_executed : ByteArray := prog_10_method_35_code
def y_Mo_executed : MethodName := ⟨"CommitGroupsModel", "executed", "(II)I"⟩
def w_Mo_executed : List Cond := Cond.code y_Mo_executed c_Mo_executed 3 (Option.some Jvm.ClassFile.FieldType.int) :: gU
theorem wc_Mo_executed : Cond.code y_Mo_executed c_Mo_executed 3 (Option.some Jvm.ClassFile.FieldType.int) ∈ gU := gU_mem (List.mem_append_right _ (List.mem_append_right _ (List.mem_append_right _ (List.mem_of_getElem? (i := 165) rfl)))) rfl
theorem wg_Mo_executed : GoodIn gU w_Mo_executed := fun w h => gU_good w ((List.mem_cons.mp h).elim (fun e => e ▸ wc_Mo_executed) id)
abbrev c_Mo_value : ByteArray := prog_10_method_36_code
def y_Mo_value : MethodName := ⟨"CommitGroupsModel", "value", "(II)I"⟩
def w_Mo_value : List Cond := Cond.code y_Mo_value c_Mo_value 3 (Option.some Jvm.ClassFile.FieldType.int) :: gU
theorem wc_Mo_value : Cond.code y_Mo_value c_Mo_value 3 (Option.some Jvm.ClassFile.FieldType.int) ∈ gU := gU_mem (List.mem_append_right _ (List.mem_append_right _ (List.mem_append_right _ (List.mem_of_getElem? (i := 169) rfl)))) rfl
theorem wg_Mo_value : GoodIn gU w_Mo_value := fun w h => gU_good w ((List.mem_cons.mp h).elim (fun e => e ▸ wc_Mo_value) id)
abbrev c_Mo_holds : ByteArray := prog_10_method_37_code
def y_Mo_holds : MethodName := ⟨"CommitGroupsModel", "holds", "(II)I"⟩
def w_Mo_holds : List Cond := Cond.code y_Mo_holds c_Mo_holds 6 (Option.some Jvm.ClassFile.FieldType.int) :: gU
theorem wc_Mo_holds : Cond.code y_Mo_holds c_Mo_holds 6 (Option.some Jvm.ClassFile.FieldType.int) ∈ gU := gU_mem (List.mem_append_right _ (List.mem_append_right _ (List.mem_append_right _ (List.mem_of_getElem? (i := 173) rfl)))) rfl
theorem wg_Mo_holds : GoodIn gU w_Mo_holds := fun w h => gU_good w ((List.mem_cons.mp h).elim (fun e => e ▸ wc_Mo_holds) id)
abbrev c_Co_init : ByteArray := prog_2_method_1_code
def y_Co_init : MethodName := ⟨"CommitGroups$Coordinator", "<init>", "()V"⟩
def w_Co_init : List Cond := Cond.code y_Co_init c_Co_init 1 (Option.none : Option Jvm.ClassFile.FieldType) :: gU
theorem wc_Co_init : Cond.code y_Co_init c_Co_init 1 (Option.none : Option Jvm.ClassFile.FieldType) ∈ gU := gU_mem (List.mem_append_right _ (List.mem_append_left _ (List.mem_of_getElem? (i := 69) rfl))) rfl
theorem wg_Co_init : GoodIn gU w_Co_init := fun w h => gU_good w ((List.mem_cons.mp h).elim (fun e => e ▸ wc_Co_init) id)
abbrev c_Co_forget : ByteArray := prog_2_method_2_code
def y_Co_forget : MethodName := ⟨"CommitGroups$Coordinator", "forget", "()V"⟩
def w_Co_forget : List Cond := Cond.code y_Co_forget c_Co_forget 1 (Option.none : Option Jvm.ClassFile.FieldType) :: gU
theorem wc_Co_forget : Cond.code y_Co_forget c_Co_forget 1 (Option.none : Option Jvm.ClassFile.FieldType) ∈ gU := gU_mem (List.mem_append_right _ (List.mem_append_right _ (List.mem_append_left _ (List.mem_of_getElem? (i := 163) rfl)))) rfl
theorem wg_Co_forget : GoodIn gU w_Co_forget := fun w h => gU_good w ((List.mem_cons.mp h).elim (fun e => e ▸ wc_Co_forget) id)
abbrev c_Co_learnVote : ByteArray := prog_2_method_3_code
def y_Co_learnVote : MethodName := ⟨"CommitGroups$Coordinator", "learnVote", "(ILCommitGroups$Transaction;LCommitGroups$ShardState;)V"⟩
def w_Co_learnVote : List Cond := Cond.code y_Co_learnVote c_Co_learnVote 5 (Option.none : Option Jvm.ClassFile.FieldType) :: gU
theorem wc_Co_learnVote : Cond.code y_Co_learnVote c_Co_learnVote 5 (Option.none : Option Jvm.ClassFile.FieldType) ∈ gU := gU_mem (List.mem_append_right _ (List.mem_append_right _ (List.mem_append_left _ (List.mem_of_getElem? (i := 79) rfl)))) rfl
theorem wg_Co_learnVote : GoodIn gU w_Co_learnVote := fun w h => gU_good w ((List.mem_cons.mp h).elim (fun e => e ▸ wc_Co_learnVote) id)
abbrev c_Co_knowsNo : ByteArray := prog_2_method_4_code
def y_Co_knowsNo : MethodName := ⟨"CommitGroups$Coordinator", "knowsNo", "(I)Z"⟩
def w_Co_knowsNo : List Cond := Cond.code y_Co_knowsNo c_Co_knowsNo 3 (Option.some Jvm.ClassFile.FieldType.boolean) :: gU
theorem wc_Co_knowsNo : Cond.code y_Co_knowsNo c_Co_knowsNo 3 (Option.some Jvm.ClassFile.FieldType.boolean) ∈ gU := gU_mem (List.mem_append_right _ (List.mem_append_right _ (List.mem_append_left _ (List.mem_of_getElem? (i := 91) rfl)))) rfl
theorem wg_Co_knowsNo : GoodIn gU w_Co_knowsNo := fun w h => gU_good w ((List.mem_cons.mp h).elim (fun e => e ▸ wc_Co_knowsNo) id)
abbrev c_Co_knowsAllVotes : ByteArray := prog_2_method_5_code
def y_Co_knowsAllVotes : MethodName := ⟨"CommitGroups$Coordinator", "knowsAllVotes", "(ILCommitGroups$Transaction;)Z"⟩
def w_Co_knowsAllVotes : List Cond := Cond.code y_Co_knowsAllVotes c_Co_knowsAllVotes 4 (Option.some Jvm.ClassFile.FieldType.boolean) :: gU
theorem wc_Co_knowsAllVotes : Cond.code y_Co_knowsAllVotes c_Co_knowsAllVotes 4 (Option.some Jvm.ClassFile.FieldType.boolean) ∈ gU := gU_mem (List.mem_append_right _ (List.mem_append_right _ (List.mem_append_left _ (List.mem_of_getElem? (i := 99) rfl)))) rfl
theorem wg_Co_knowsAllVotes : GoodIn gU w_Co_knowsAllVotes := fun w h => gU_good w ((List.mem_cons.mp h).elim (fun e => e ▸ wc_Co_knowsAllVotes) id)
abbrev c_DS_init : ByteArray := prog_3_method_1_code
def y_DS_init : MethodName := ⟨"CommitGroups$DecisionState", "<init>", "()V"⟩
def w_DS_init : List Cond := Cond.code y_DS_init c_DS_init 1 (Option.none : Option Jvm.ClassFile.FieldType) :: gU
theorem wc_DS_init : Cond.code y_DS_init c_DS_init 1 (Option.none : Option Jvm.ClassFile.FieldType) ∈ gU := gU_mem (List.mem_append_right _ (List.mem_append_left _ (List.mem_of_getElem? (i := 176) rfl))) rfl
theorem wg_DS_init : GoodIn gU w_DS_init := fun w h => gU_good w ((List.mem_cons.mp h).elim (fun e => e ▸ wc_DS_init) id)
abbrev c_DS_execute : ByteArray := prog_3_method_2_code
def y_DS_execute : MethodName := ⟨"CommitGroups$DecisionState", "execute", "(II)V"⟩
def w_DS_execute : List Cond := Cond.code y_DS_execute c_DS_execute 3 (Option.none : Option Jvm.ClassFile.FieldType) :: gU
theorem wc_DS_execute : Cond.code y_DS_execute c_DS_execute 3 (Option.none : Option Jvm.ClassFile.FieldType) ∈ gU := gU_mem (List.mem_append_right _ (List.mem_append_right _ (List.mem_append_left _ (List.mem_of_getElem? (i := 47) rfl)))) rfl
theorem wg_DS_execute : GoodIn gU w_DS_execute := fun w h => gU_good w ((List.mem_cons.mp h).elim (fun e => e ▸ wc_DS_execute) id)
abbrev c_Gr_init : ByteArray := prog_4_method_1_code
def y_Gr_init : MethodName := ⟨"CommitGroups$Group", "<init>", "([LCommitGroups$Replica;)V"⟩
def w_Gr_init : List Cond := Cond.code y_Gr_init c_Gr_init 2 (Option.none : Option Jvm.ClassFile.FieldType) :: gU
theorem wc_Gr_init : Cond.code y_Gr_init c_Gr_init 2 (Option.none : Option Jvm.ClassFile.FieldType) ∈ gU := gU_mem (List.mem_append_right _ (List.mem_append_left _ (List.mem_of_getElem? (i := 166) rfl))) rfl
theorem wg_Gr_init : GoodIn gU w_Gr_init := fun w h => gU_good w ((List.mem_cons.mp h).elim (fun e => e ▸ wc_Gr_init) id)
abbrev c_Gr_countUp : ByteArray := prog_4_method_2_code
def y_Gr_countUp : MethodName := ⟨"CommitGroups$Group", "countUp", "()I"⟩
def w_Gr_countUp : List Cond := Cond.code y_Gr_countUp c_Gr_countUp 3 (Option.some Jvm.ClassFile.FieldType.int) :: gU
theorem wc_Gr_countUp : Cond.code y_Gr_countUp c_Gr_countUp 3 (Option.some Jvm.ClassFile.FieldType.int) ∈ gU := gU_mem (List.mem_append_right _ (List.mem_append_right _ (List.mem_append_left _ (List.mem_of_getElem? (i := 26) rfl)))) rfl
theorem wg_Gr_countUp : GoodIn gU w_Gr_countUp := fun w h => gU_good w ((List.mem_cons.mp h).elim (fun e => e ▸ wc_Gr_countUp) id)
abbrev c_Gr_findLeader : ByteArray := prog_4_method_3_code
def y_Gr_findLeader : MethodName := ⟨"CommitGroups$Group", "findLeader", "()I"⟩
def w_Gr_findLeader : List Cond := Cond.code y_Gr_findLeader c_Gr_findLeader 2 (Option.some Jvm.ClassFile.FieldType.int) :: gU
theorem wc_Gr_findLeader : Cond.code y_Gr_findLeader c_Gr_findLeader 2 (Option.some Jvm.ClassFile.FieldType.int) ∈ gU := gU_mem (List.mem_append_right _ (List.mem_append_right _ (List.mem_append_left _ (List.mem_of_getElem? (i := 2) rfl)))) rfl
theorem wg_Gr_findLeader : GoodIn gU w_Gr_findLeader := fun w h => gU_good w ((List.mem_cons.mp h).elim (fun e => e ▸ wc_Gr_findLeader) id)
abbrev c_Gr_log : ByteArray := prog_4_method_4_code
def y_Gr_log : MethodName := ⟨"CommitGroups$Group", "log", "(I)I"⟩
def w_Gr_log : List Cond := Cond.code y_Gr_log c_Gr_log 4 (Option.some Jvm.ClassFile.FieldType.int) :: gU
theorem wc_Gr_log : Cond.code y_Gr_log c_Gr_log 4 (Option.some Jvm.ClassFile.FieldType.int) ∈ gU := gU_mem (List.mem_append_right _ (List.mem_append_right _ (List.mem_append_left _ (List.mem_of_getElem? (i := 17) rfl)))) rfl
theorem wg_Gr_log : GoodIn gU w_Gr_log := fun w h => gU_good w ((List.mem_cons.mp h).elim (fun e => e ▸ wc_Gr_log) id)
abbrev c_Gr_startView : ByteArray := prog_4_method_5_code
def y_Gr_startView : MethodName := ⟨"CommitGroups$Group", "startView", "()I"⟩
def w_Gr_startView : List Cond := Cond.code y_Gr_startView c_Gr_startView 2 (Option.some Jvm.ClassFile.FieldType.int) :: gU
theorem wc_Gr_startView : Cond.code y_Gr_startView c_Gr_startView 2 (Option.some Jvm.ClassFile.FieldType.int) ∈ gU := gU_mem (List.mem_append_right _ (List.mem_append_right _ (List.mem_append_left _ (List.mem_of_getElem? (i := 147) rfl)))) rfl
theorem wg_Gr_startView : GoodIn gU w_Gr_startView := fun w h => gU_good w ((List.mem_cons.mp h).elim (fun e => e ▸ wc_Gr_startView) id)
abbrev c_Gr_greatestView : ByteArray := prog_4_method_6_code
def y_Gr_greatestView : MethodName := ⟨"CommitGroups$Group", "greatestView", "()I"⟩
def w_Gr_greatestView : List Cond := Cond.code y_Gr_greatestView c_Gr_greatestView 3 (Option.some Jvm.ClassFile.FieldType.int) :: gU
theorem wc_Gr_greatestView : Cond.code y_Gr_greatestView c_Gr_greatestView 3 (Option.some Jvm.ClassFile.FieldType.int) ∈ gU := gU_mem (List.mem_append_right _ (List.mem_append_right _ (List.mem_append_left _ (List.mem_of_getElem? (i := 6) rfl)))) rfl
theorem wg_Gr_greatestView : GoodIn gU w_Gr_greatestView := fun w h => gU_good w ((List.mem_cons.mp h).elim (fun e => e ▸ wc_Gr_greatestView) id)
abbrev c_Gr_nextView : ByteArray := prog_4_method_7_code
def y_Gr_nextView : MethodName := ⟨"CommitGroups$Group", "nextView", "()I"⟩
def w_Gr_nextView : List Cond := Cond.code y_Gr_nextView c_Gr_nextView 3 (Option.some Jvm.ClassFile.FieldType.int) :: gU
theorem wc_Gr_nextView : Cond.code y_Gr_nextView c_Gr_nextView 3 (Option.some Jvm.ClassFile.FieldType.int) ∈ gU := gU_mem (List.mem_append_right _ (List.mem_append_right _ (List.mem_append_left _ (List.mem_of_getElem? (i := 151) rfl)))) rfl
theorem wg_Gr_nextView : GoodIn gU w_Gr_nextView := fun w h => gU_good w ((List.mem_cons.mp h).elim (fun e => e ▸ wc_Gr_nextView) id)
abbrev c_Gr_bestLog : ByteArray := prog_4_method_8_code
def y_Gr_bestLog : MethodName := ⟨"CommitGroups$Group", "bestLog", "()I"⟩
def w_Gr_bestLog : List Cond := Cond.code y_Gr_bestLog c_Gr_bestLog 5 (Option.some Jvm.ClassFile.FieldType.int) :: gU
theorem wc_Gr_bestLog : Cond.code y_Gr_bestLog c_Gr_bestLog 5 (Option.some Jvm.ClassFile.FieldType.int) ∈ gU := gU_mem (List.mem_append_right _ (List.mem_append_right _ (List.mem_append_left _ (List.mem_of_getElem? (i := 155) rfl)))) rfl
theorem wg_Gr_bestLog : GoodIn gU w_Gr_bestLog := fun w h => gU_good w ((List.mem_cons.mp h).elim (fun e => e ▸ wc_Gr_bestLog) id)
abbrev c_Gr_spread : ByteArray := prog_4_method_9_code
def y_Gr_spread : MethodName := ⟨"CommitGroups$Group", "spread", "(LCommitGroups$Replica;I)V"⟩
def w_Gr_spread : List Cond := Cond.code y_Gr_spread c_Gr_spread 5 (Option.none : Option Jvm.ClassFile.FieldType) :: gU
theorem wc_Gr_spread : Cond.code y_Gr_spread c_Gr_spread 5 (Option.none : Option Jvm.ClassFile.FieldType) ∈ gU := gU_mem (List.mem_append_right _ (List.mem_append_right _ (List.mem_append_left _ (List.mem_of_getElem? (i := 30) rfl)))) rfl
theorem wg_Gr_spread : GoodIn gU w_Gr_spread := fun w h => gU_good w ((List.mem_cons.mp h).elim (fun e => e ▸ wc_Gr_spread) id)
abbrev c_Rp_init : ByteArray := prog_5_method_1_code
def y_Rp_init : MethodName := ⟨"CommitGroups$Replica", "<init>", "(LCommitGroups$State;)V"⟩
def w_Rp_init : List Cond := Cond.code y_Rp_init c_Rp_init 2 (Option.none : Option Jvm.ClassFile.FieldType) :: gU
theorem wc_Rp_init : Cond.code y_Rp_init c_Rp_init 2 (Option.none : Option Jvm.ClassFile.FieldType) ∈ gU := gU_mem (List.mem_append_right _ (List.mem_append_left _ (List.mem_of_getElem? (i := 136) rfl))) rfl
theorem wg_Rp_init : GoodIn gU w_Rp_init := fun w h => gU_good w ((List.mem_cons.mp h).elim (fun e => e ▸ wc_Rp_init) id)
abbrev c_Rp_append : ByteArray := prog_5_method_2_code
def y_Rp_append : MethodName := ⟨"CommitGroups$Replica", "append", "(I)V"⟩
def w_Rp_append : List Cond := Cond.code y_Rp_append c_Rp_append 2 (Option.none : Option Jvm.ClassFile.FieldType) :: gU
theorem wc_Rp_append : Cond.code y_Rp_append c_Rp_append 2 (Option.none : Option Jvm.ClassFile.FieldType) ∈ gU := gU_mem (List.mem_append_right _ (List.mem_append_right _ (List.mem_append_left _ (List.mem_of_getElem? (i := 22) rfl)))) rfl
theorem wg_Rp_append : GoodIn gU w_Rp_append := fun w h => gU_good w ((List.mem_cons.mp h).elim (fun e => e ▸ wc_Rp_append) id)
abbrev c_Rp_copyLog : ByteArray := prog_5_method_3_code
def y_Rp_copyLog : MethodName := ⟨"CommitGroups$Replica", "copyLog", "(LCommitGroups$Replica;)V"⟩
def w_Rp_copyLog : List Cond := Cond.code y_Rp_copyLog c_Rp_copyLog 2 (Option.none : Option Jvm.ClassFile.FieldType) :: gU
theorem wc_Rp_copyLog : Cond.code y_Rp_copyLog c_Rp_copyLog 2 (Option.none : Option Jvm.ClassFile.FieldType) ∈ gU := gU_mem (List.mem_append_right _ (List.mem_append_right _ (List.mem_append_left _ (List.mem_of_getElem? (i := 34) rfl)))) rfl
theorem wg_Rp_copyLog : GoodIn gU w_Rp_copyLog := fun w h => gU_good w ((List.mem_cons.mp h).elim (fun e => e ▸ wc_Rp_copyLog) id)
abbrev c_Rp_catchUp : ByteArray := prog_5_method_4_code
def y_Rp_catchUp : MethodName := ⟨"CommitGroups$Replica", "catchUp", "()V"⟩
def w_Rp_catchUp : List Cond := Cond.code y_Rp_catchUp c_Rp_catchUp 1 (Option.none : Option Jvm.ClassFile.FieldType) :: gU
theorem wc_Rp_catchUp : Cond.code y_Rp_catchUp c_Rp_catchUp 1 (Option.none : Option Jvm.ClassFile.FieldType) ∈ gU := gU_mem (List.mem_append_right _ (List.mem_append_right _ (List.mem_append_left _ (List.mem_of_getElem? (i := 41) rfl)))) rfl
theorem wg_Rp_catchUp : GoodIn gU w_Rp_catchUp := fun w h => gU_good w ((List.mem_cons.mp h).elim (fun e => e ▸ wc_Rp_catchUp) id)
abbrev c_SS_init : ByteArray := prog_6_method_1_code
def y_SS_init : MethodName := ⟨"CommitGroups$ShardState", "<init>", "(I[LCommitGroups$Transaction;)V"⟩
def w_SS_init : List Cond := Cond.code y_SS_init c_SS_init 3 (Option.none : Option Jvm.ClassFile.FieldType) :: gU
theorem wc_SS_init : Cond.code y_SS_init c_SS_init 3 (Option.none : Option Jvm.ClassFile.FieldType) ∈ gU := gU_mem (List.mem_append_right _ (List.mem_append_left _ (List.mem_of_getElem? (i := 93) rfl))) rfl
theorem wg_SS_init : GoodIn gU w_SS_init := fun w h => gU_good w ((List.mem_cons.mp h).elim (fun e => e ▸ wc_SS_init) id)
abbrev c_SS_execute : ByteArray := prog_6_method_2_code
def y_SS_execute : MethodName := ⟨"CommitGroups$ShardState", "execute", "(II)V"⟩
def w_SS_execute : List Cond := Cond.code y_SS_execute c_SS_execute 3 (Option.none : Option Jvm.ClassFile.FieldType) :: gU
theorem wc_SS_execute : Cond.code y_SS_execute c_SS_execute 3 (Option.none : Option Jvm.ClassFile.FieldType) ∈ gU := gU_mem (List.mem_append_right _ (List.mem_append_right _ (List.mem_append_left _ (List.mem_of_getElem? (i := 50) rfl)))) rfl
theorem wg_SS_execute : GoodIn gU w_SS_execute := fun w h => gU_good w ((List.mem_cons.mp h).elim (fun e => e ▸ wc_SS_execute) id)
abbrev c_SS_holderOf : ByteArray := prog_6_method_3_code
def y_SS_holderOf : MethodName := ⟨"CommitGroups$ShardState", "holderOf", "(I)I"⟩
def w_SS_holderOf : List Cond := Cond.code y_SS_holderOf c_SS_holderOf 2 (Option.some Jvm.ClassFile.FieldType.int) :: gU
theorem wc_SS_holderOf : Cond.code y_SS_holderOf c_SS_holderOf 2 (Option.some Jvm.ClassFile.FieldType.int) ∈ gU := gU_mem (List.mem_append_right _ (List.mem_append_right _ (List.mem_append_left _ (List.mem_of_getElem? (i := 198) rfl)))) rfl
theorem wg_SS_holderOf : GoodIn gU w_SS_holderOf := fun w h => gU_good w ((List.mem_cons.mp h).elim (fun e => e ▸ wc_SS_holderOf) id)
abbrev c_SS_castVote : ByteArray := prog_6_method_4_code
def y_SS_castVote : MethodName := ⟨"CommitGroups$ShardState", "castVote", "(I)V"⟩
def w_SS_castVote : List Cond := Cond.code y_SS_castVote c_SS_castVote 2 (Option.none : Option Jvm.ClassFile.FieldType) :: gU
theorem wc_SS_castVote : Cond.code y_SS_castVote c_SS_castVote 2 (Option.none : Option Jvm.ClassFile.FieldType) ∈ gU := gU_mem (List.mem_append_right _ (List.mem_append_right _ (List.mem_append_left _ (List.mem_of_getElem? (i := 54) rfl)))) rfl
theorem wg_SS_castVote : GoodIn gU w_SS_castVote := fun w h => gU_good w ((List.mem_cons.mp h).elim (fun e => e ▸ wc_SS_castVote) id)
abbrev c_SS_isHindered : ByteArray := prog_6_method_5_code
def y_SS_isHindered : MethodName := ⟨"CommitGroups$ShardState", "isHindered", "(I)Z"⟩
def w_SS_isHindered : List Cond := Cond.code y_SS_isHindered c_SS_isHindered 6 (Option.some Jvm.ClassFile.FieldType.boolean) :: gU
theorem wc_SS_isHindered : Cond.code y_SS_isHindered c_SS_isHindered 6 (Option.some Jvm.ClassFile.FieldType.boolean) ∈ gU := gU_mem (List.mem_append_right _ (List.mem_append_right _ (List.mem_append_left _ (List.mem_of_getElem? (i := 58) rfl)))) rfl
theorem wg_SS_isHindered : GoodIn gU w_SS_isHindered := fun w h => gU_good w ((List.mem_cons.mp h).elim (fun e => e ▸ wc_SS_isHindered) id)
abbrev c_SS_takeKeys : ByteArray := prog_6_method_6_code
def y_SS_takeKeys : MethodName := ⟨"CommitGroups$ShardState", "takeKeys", "(I)V"⟩
def w_SS_takeKeys : List Cond := Cond.code y_SS_takeKeys c_SS_takeKeys 4 (Option.none : Option Jvm.ClassFile.FieldType) :: gU
theorem wc_SS_takeKeys : Cond.code y_SS_takeKeys c_SS_takeKeys 4 (Option.none : Option Jvm.ClassFile.FieldType) ∈ gU := gU_mem (List.mem_append_right _ (List.mem_append_right _ (List.mem_append_left _ (List.mem_of_getElem? (i := 62) rfl)))) rfl
theorem wg_SS_takeKeys : GoodIn gU w_SS_takeKeys := fun w h => gU_good w ((List.mem_cons.mp h).elim (fun e => e ▸ wc_SS_takeKeys) id)
abbrev c_SS_doOperations : ByteArray := prog_6_method_7_code
def y_SS_doOperations : MethodName := ⟨"CommitGroups$ShardState", "doOperations", "(I[I)V"⟩
def w_SS_doOperations : List Cond := Cond.code y_SS_doOperations c_SS_doOperations 7 (Option.none : Option Jvm.ClassFile.FieldType) :: gU
theorem wc_SS_doOperations : Cond.code y_SS_doOperations c_SS_doOperations 7 (Option.none : Option Jvm.ClassFile.FieldType) ∈ gU := gU_mem (List.mem_append_right _ (List.mem_append_right _ (List.mem_append_left _ (List.mem_of_getElem? (i := 67) rfl)))) rfl
theorem wg_SS_doOperations : GoodIn gU w_SS_doOperations := fun w h => gU_good w ((List.mem_cons.mp h).elim (fun e => e ▸ wc_SS_doOperations) id)
abbrev c_SS_refuseUnvoted : ByteArray := prog_6_method_8_code
def y_SS_refuseUnvoted : MethodName := ⟨"CommitGroups$ShardState", "refuseUnvoted", "(I)V"⟩
def w_SS_refuseUnvoted : List Cond := Cond.code y_SS_refuseUnvoted c_SS_refuseUnvoted 2 (Option.none : Option Jvm.ClassFile.FieldType) :: gU
theorem wc_SS_refuseUnvoted : Cond.code y_SS_refuseUnvoted c_SS_refuseUnvoted 2 (Option.none : Option Jvm.ClassFile.FieldType) ∈ gU := gU_mem (List.mem_append_right _ (List.mem_append_right _ (List.mem_append_left _ (List.mem_of_getElem? (i := 75) rfl)))) rfl
theorem wg_SS_refuseUnvoted : GoodIn gU w_SS_refuseUnvoted := fun w h => gU_good w ((List.mem_cons.mp h).elim (fun e => e ▸ wc_SS_refuseUnvoted) id)
abbrev c_SS_release : ByteArray := prog_6_method_9_code
def y_SS_release : MethodName := ⟨"CommitGroups$ShardState", "release", "(I)V"⟩
def w_SS_release : List Cond := Cond.code y_SS_release c_SS_release 3 (Option.none : Option Jvm.ClassFile.FieldType) :: gU
theorem wc_SS_release : Cond.code y_SS_release c_SS_release 3 (Option.none : Option Jvm.ClassFile.FieldType) ∈ gU := gU_mem (List.mem_append_right _ (List.mem_append_right _ (List.mem_append_left _ (List.mem_of_getElem? (i := 71) rfl)))) rfl
theorem wg_SS_release : GoodIn gU w_SS_release := fun w h => gU_good w ((List.mem_cons.mp h).elim (fun e => e ▸ wc_SS_release) id)
abbrev c_Sa_init : ByteArray := prog_7_method_1_code
def y_Sa_init : MethodName := ⟨"CommitGroups$State", "<init>", "()V"⟩
def w_Sa_init : List Cond := Cond.code y_Sa_init c_Sa_init 1 (Option.none : Option Jvm.ClassFile.FieldType) :: gU
theorem wc_Sa_init : Cond.code y_Sa_init c_Sa_init 1 (Option.none : Option Jvm.ClassFile.FieldType) ∈ gU := gU_mem (List.mem_append_right _ (List.mem_append_left _ (List.mem_of_getElem? (i := 96) rfl))) rfl
theorem wg_Sa_init : GoodIn gU w_Sa_init := fun w h => gU_good w ((List.mem_cons.mp h).elim (fun e => e ▸ wc_Sa_init) id)
abbrev c_Tx_init : ByteArray := prog_8_method_1_code
def y_Tx_init : MethodName := ⟨"CommitGroups$Transaction", "<init>", "()V"⟩
def w_Tx_init : List Cond := Cond.code y_Tx_init c_Tx_init 1 (Option.none : Option Jvm.ClassFile.FieldType) :: gU
theorem wc_Tx_init : Cond.code y_Tx_init c_Tx_init 1 (Option.none : Option Jvm.ClassFile.FieldType) ∈ gU := gU_mem (List.mem_append_right _ (List.mem_append_left _ (List.mem_of_getElem? (i := 27) rfl))) rfl
theorem wg_Tx_init : GoodIn gU w_Tx_init := fun w h => gU_good w ((List.mem_cons.mp h).elim (fun e => e ▸ wc_Tx_init) id)
abbrev c_Tx_addOperation : ByteArray := prog_8_method_2_code
def y_Tx_addOperation : MethodName := ⟨"CommitGroups$Transaction", "addOperation", "(III)Z"⟩
def w_Tx_addOperation : List Cond := Cond.code y_Tx_addOperation c_Tx_addOperation 4 (Option.some Jvm.ClassFile.FieldType.boolean) :: gU
theorem wc_Tx_addOperation : Cond.code y_Tx_addOperation c_Tx_addOperation 4 (Option.some Jvm.ClassFile.FieldType.boolean) ∈ gU := gU_mem (List.mem_append_right _ (List.mem_append_left _ (List.mem_of_getElem? (i := 220) rfl))) rfl
theorem wg_Tx_addOperation : GoodIn gU w_Tx_addOperation := fun w h => gU_good w ((List.mem_cons.mp h).elim (fun e => e ▸ wc_Tx_addOperation) id)
abbrev c_Tx_reaches : ByteArray := prog_8_method_3_code
def y_Tx_reaches : MethodName := ⟨"CommitGroups$Transaction", "reaches", "(I)Z"⟩
def w_Tx_reaches : List Cond := Cond.code y_Tx_reaches c_Tx_reaches 3 (Option.some Jvm.ClassFile.FieldType.boolean) :: gU
theorem wc_Tx_reaches : Cond.code y_Tx_reaches c_Tx_reaches 3 (Option.some Jvm.ClassFile.FieldType.boolean) ∈ gU := gU_mem (List.mem_append_right _ (List.mem_append_left _ (List.mem_of_getElem? (i := 238) rfl))) rfl
theorem wg_Tx_reaches : GoodIn gU w_Tx_reaches := fun w h => gU_good w ((List.mem_cons.mp h).elim (fun e => e ▸ wc_Tx_reaches) id)
abbrev c_Ob_init : ByteArray := object_method_1_code
def y_Ob_init : MethodName := ⟨"java/lang/Object", "<init>", "()V"⟩
def w_Ob_init : List Cond := Cond.code y_Ob_init c_Ob_init 1 (Option.none : Option Jvm.ClassFile.FieldType) :: gU
theorem wc_Ob_init : Cond.code y_Ob_init c_Ob_init 1 (Option.none : Option Jvm.ClassFile.FieldType) ∈ gU := gU_mem (List.mem_append_right _ (List.mem_append_left _ (List.mem_of_getElem? (i := 21) rfl))) rfl
theorem wg_Ob_init : GoodIn gU w_Ob_init := fun w h => gU_good w ((List.mem_cons.mp h).elim (fun e => e ▸ wc_Ob_init) id)
abbrev c_In_bitCount : ByteArray := prog_11_method_49_code
def y_In_bitCount : MethodName := ⟨"java/lang/Integer", "bitCount", "(I)I"⟩
def w_In_bitCount : List Cond := Cond.code y_In_bitCount c_In_bitCount 1 (Option.some Jvm.ClassFile.FieldType.int) :: gU
theorem wc_In_bitCount : Cond.code y_In_bitCount c_In_bitCount 1 (Option.some Jvm.ClassFile.FieldType.int) ∈ gU := gU_mem (List.mem_append_right _ (List.mem_append_right _ (List.mem_append_left _ (List.mem_of_getElem? (i := 201) rfl)))) rfl
theorem wg_In_bitCount : GoodIn gU w_In_bitCount := fun w h => gU_good w ((List.mem_cons.mp h).elim (fun e => e ▸ wc_In_bitCount) id)
abbrev c_Ma_floorMod : ByteArray := prog_12_method_50_code
def y_Ma_floorMod : MethodName := ⟨"java/lang/Math", "floorMod", "(II)I"⟩
def w_Ma_floorMod : List Cond := Cond.code y_Ma_floorMod c_Ma_floorMod 3 (Option.some Jvm.ClassFile.FieldType.int) :: gU
theorem wc_Ma_floorMod : Cond.code y_Ma_floorMod c_Ma_floorMod 3 (Option.some Jvm.ClassFile.FieldType.int) ∈ gU := gU_mem (List.mem_append_right _ (List.mem_append_right _ (List.mem_append_left _ (List.mem_of_getElem? (i := 10) rfl)))) rfl
theorem wg_Ma_floorMod : GoodIn gU w_Ma_floorMod := fun w h => gU_good w ((List.mem_cons.mp h).elim (fun e => e ▸ wc_Ma_floorMod) id)
abbrev c_Ma_max : ByteArray := prog_12_method_65_code
def y_Ma_max : MethodName := ⟨"java/lang/Math", "max", "(II)I"⟩
def w_Ma_max : List Cond := Cond.code y_Ma_max c_Ma_max 2 (Option.some Jvm.ClassFile.FieldType.int) :: gU
theorem wc_Ma_max : Cond.code y_Ma_max c_Ma_max 2 (Option.some Jvm.ClassFile.FieldType.int) ∈ gU := gU_mem (List.mem_append_right _ (List.mem_append_left _ (List.mem_of_getElem? (i := 223) rfl))) rfl
theorem wg_Ma_max : GoodIn gU w_Ma_max := fun w h => gU_good w ((List.mem_cons.mp h).elim (fun e => e ▸ wc_Ma_max) id)
abbrev c_Ar_fill : ByteArray := prog_14_method_103_code
def y_Ar_fill : MethodName := ⟨"java/util/Arrays", "fill", "([II)V"⟩
def w_Ar_fill : List Cond := Cond.code y_Ar_fill c_Ar_fill 4 (Option.none : Option Jvm.ClassFile.FieldType) :: gU
theorem wc_Ar_fill : Cond.code y_Ar_fill c_Ar_fill 4 (Option.none : Option Jvm.ClassFile.FieldType) ∈ gU := gU_mem (List.mem_append_right _ (List.mem_append_right _ (List.mem_append_left _ (List.mem_of_getElem? (i := 166) rfl)))) rfl
theorem wg_Ar_fill : GoodIn gU w_Ar_fill := fun w h => gU_good w ((List.mem_cons.mp h).elim (fun e => e ▸ wc_Ar_fill) id)
