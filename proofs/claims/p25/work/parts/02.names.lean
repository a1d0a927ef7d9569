def RX0 : String := "CachehallDesk$Builder"
def TX0 : u_T := fun k => match k with
  | 0 => ("CachehallDesk$Builder", "plan", "LCachehallDesk$Plan;", true)
  | 1 => ("CachehallDesk$Builder", "crew", "LCachehallDesk$Crew;", true)
  | 2 => ("CachehallDesk$Builder", "teams", "LCachehallDesk$Teams;", true)
  | 3 => ("CachehallDesk$Builder", "cache", "LCachehallDesk$Cache;", true)
  | 4 => ("CachehallDesk$Builder", "got", "LCachehallDesk$Got;", true)
  | 5 => ("CachehallDesk$Builder", "before", "LCachehallDesk$Snapshot;", true)
  | 6 => ("CachehallDesk$Builder", "checkEvery", "I", false)
  | 7 => ("CachehallDesk$Builder", "checker", "I", false)
  | _ => ("CachehallDesk$Builder", "checkedPrint", "I", false)
def tyX0 : Nat → FieldType := fun k => match k with
  | 0 => .object "CachehallDesk$Plan"
  | 1 => .object "CachehallDesk$Crew"
  | 2 => .object "CachehallDesk$Teams"
  | 3 => .object "CachehallDesk$Cache"
  | 4 => .object "CachehallDesk$Got"
  | 5 => .object "CachehallDesk$Snapshot"
  | 6 => .int
  | 7 => .int
  | _ => .int
abbrev wsX00 : List Cond := u_ws RX0 TX0 9
theorem nmX0 : ∀ a, a < 9 → ∀ b, b < 9 → a ≠ b → (TX0 a).2.1 ≠ (TX0 b).2.1 := by decide +kernel
theorem tyX0_ok : ∀ k, k < 9 → parseFieldDescriptor (TX0 k).2.2.1 = some (tyX0 k) := by decide +kernel
abbrev cX0_init : ByteArray := prog_2_method_1_code
def yX0_init : MethodName := ⟨RX0, "<init>", "()V"⟩
abbrev cX0_carryOut : ByteArray := prog_2_method_2_code
def yX0_carryOut : MethodName := ⟨RX0, "carryOut", "(II)Z"⟩
abbrev cX0_runsNeeded : ByteArray := prog_2_method_3_code
def yX0_runsNeeded : MethodName := ⟨RX0, "runsNeeded", "(II)I"⟩
abbrev cX0_printWouldDiffer : ByteArray := prog_2_method_4_code
def yX0_printWouldDiffer : MethodName := ⟨RX0, "printWouldDiffer", "(II)Z"⟩
abbrev cX0_goneFor : ByteArray := prog_2_method_5_code
def yX0_goneFor : MethodName := ⟨RX0, "goneFor", "(II)I"⟩
abbrev cX0_attempt : ByteArray := prog_2_method_6_code
def yX0_attempt : MethodName := ⟨RX0, "attempt", "(II)Z"⟩
abbrev cX0_obtain : ByteArray := prog_2_method_7_code
def yX0_obtain : MethodName := ⟨RX0, "obtain", "(II)Z"⟩
abbrev cX0_isCheckDue : ByteArray := prog_2_method_8_code
def yX0_isCheckDue : MethodName := ⟨RX0, "isCheckDue", "()Z"⟩
abbrev cX0_enter : ByteArray := prog_2_method_9_code
def yX0_enter : MethodName := ⟨RX0, "enter", "(IIII)Z"⟩
abbrev cX0_checkAgain : ByteArray := prog_2_method_10_code
def yX0_checkAgain : MethodName := ⟨RX0, "checkAgain", "(I)I"⟩
abbrev cX0_compareWithRun : ByteArray := prog_2_method_11_code
def yX0_compareWithRun : MethodName := ⟨RX0, "compareWithRun", "(II)I"⟩
def RX1 : String := "CachehallDesk$Cache"
def TX1 : u_T := fun k => match k with
  | 0 => ("CachehallDesk$Cache", "count", "I", false)
  | 1 => ("CachehallDesk$Cache", "wrong", "I", false)
  | 2 => ("CachehallDesk$Cache", "action", "[I", true)
  | 3 => ("CachehallDesk$Cache", "worker", "[I", true)
  | 4 => ("CachehallDesk$Cache", "team", "[I", true)
  | 5 => ("CachehallDesk$Cache", "print", "[I", true)
  | 6 => ("CachehallDesk$Cache", "hits", "[I", true)
  | 7 => ("CachehallDesk$Cache", "state", "[I", true)
  | 8 => ("CachehallDesk$Cache", "cost", "[I", true)
  | 9 => ("CachehallDesk$Cache", "size", "[I", true)
  | 10 => ("CachehallDesk$Cache", "contents", "[I", true)
  | 11 => ("CachehallDesk$Cache", "values", "[I", true)
  | 12 => ("CachehallDesk$Cache", "prints", "[I", true)
  | 13 => ("CachehallDesk$Cache", "from", "[I", true)
  | _ => ("CachehallDesk$Cache", "fromSet", "[J", true)
def tyX1 : Nat → FieldType := fun k => match k with
  | 0 => .int
  | 1 => .int
  | 2 => .array .int
  | 3 => .array .int
  | 4 => .array .int
  | 5 => .array .int
  | 6 => .array .int
  | 7 => .array .int
  | 8 => .array .int
  | 9 => .array .int
  | 10 => .array .int
  | 11 => .array .int
  | 12 => .array .int
  | 13 => .array .int
  | _ => .array .long
abbrev wsX10 : List Cond := u_ws RX1 TX1 15
theorem nmX1 : ∀ a, a < 15 → ∀ b, b < 15 → a ≠ b → (TX1 a).2.1 ≠ (TX1 b).2.1 := by decide +kernel
theorem tyX1_ok : ∀ k, k < 15 → parseFieldDescriptor (TX1 k).2.2.1 = some (tyX1 k) := by decide +kernel
abbrev cX1_init : ByteArray := prog_3_method_1_code
def yX1_init : MethodName := ⟨RX1, "<init>", "()V"⟩
abbrev cX1_isFull : ByteArray := prog_3_method_2_code
def yX1_isFull : MethodName := ⟨RX1, "isFull", "()Z"⟩
abbrev cX1_firstHit : ByteArray := prog_3_method_3_code
def yX1_firstHit : MethodName := ⟨RX1, "firstHit", "(LCachehallDesk$Plan;LCachehallDesk$Got;I)I"⟩
abbrev cX1_hasInputsOfNow : ByteArray := prog_3_method_4_code
def yX1_hasInputsOfNow : MethodName := ⟨RX1, "hasInputsOfNow", "(LCachehallDesk$Plan;I)Z"⟩
abbrev cX1_changedSettings : ByteArray := prog_3_method_5_code
def yX1_changedSettings : MethodName := ⟨RX1, "changedSettings", "(LCachehallDesk$Plan;I)I"⟩
abbrev cX1_hasPrints : ByteArray := prog_3_method_6_code
def yX1_hasPrints : MethodName := ⟨RX1, "hasPrints", "(ILCachehallDesk$Got;I)Z"⟩
abbrev cX1_add : ByteArray := prog_3_method_7_code
def yX1_add : MethodName := ⟨RX1, "add", "(LCachehallDesk$Plan;LCachehallDesk$Got;I)I"⟩
abbrev cX1_offspring : ByteArray := prog_3_method_8_code
def yX1_offspring : MethodName := ⟨RX1, "offspring", "(I)J"⟩
abbrev cX1_poison : ByteArray := prog_3_method_9_code
def yX1_poison : MethodName := ⟨RX1, "poison", "(I)V"⟩
abbrev cX1_dropAllOf : ByteArray := prog_3_method_10_code
def yX1_dropAllOf : MethodName := ⟨RX1, "dropAllOf", "(I)V"⟩
abbrev cX1_makeRoom : ByteArray := prog_3_method_11_code
def yX1_makeRoom : MethodName := ⟨RX1, "makeRoom", "(II)I"⟩
abbrev cX1_leastWorth : ByteArray := prog_3_method_12_code
def yX1_leastWorth : MethodName := ⟨RX1, "leastWorth", "(I)I"⟩
abbrev cX1_worth : ByteArray := prog_3_method_13_code
def yX1_worth : MethodName := ⟨RX1, "worth", "(I)I"⟩
abbrev cX1_isKeptBy : ByteArray := prog_3_method_14_code
def yX1_isKeptBy : MethodName := ⟨RX1, "isKeptBy", "(II)Z"⟩
abbrev cX1_usedBy : ByteArray := prog_3_method_15_code
def yX1_usedBy : MethodName := ⟨RX1, "usedBy", "(I)I"⟩
abbrev cX1_keptOfTeam : ByteArray := prog_3_method_16_code
def yX1_keptOfTeam : MethodName := ⟨RX1, "keptOfTeam", "(I)I"⟩
abbrev cX1_keptOfActions : ByteArray := prog_3_method_17_code
def yX1_keptOfActions : MethodName := ⟨RX1, "keptOfActions", "(I)I"⟩
abbrev cX1_poisonedOfWorker : ByteArray := prog_3_method_18_code
def yX1_poisonedOfWorker : MethodName := ⟨RX1, "poisonedOfWorker", "(I)I"⟩
abbrev cX1_inState : ByteArray := prog_3_method_19_code
def yX1_inState : MethodName := ⟨RX1, "inState", "(I)I"⟩
abbrev cX1_allHits : ByteArray := prog_3_method_20_code
def yX1_allHits : MethodName := ⟨RX1, "allHits", "()I"⟩
def RX2 : String := "CachehallDesk$Crew"
def TX2 : u_T := fun k => match k with
  | 0 => ("CachehallDesk$Crew", "count", "I", false)
  | 1 => ("CachehallDesk$Crew", "fault", "[I", true)
  | 2 => ("CachehallDesk$Crew", "trust", "[I", true)
  | 3 => ("CachehallDesk$Crew", "runs", "[I", true)
  | 4 => ("CachehallDesk$Crew", "busy", "[I", true)
  | _ => ("CachehallDesk$Crew", "checks", "[I", true)
def tyX2 : Nat → FieldType := fun k => match k with
  | 0 => .int
  | 1 => .array .int
  | 2 => .array .int
  | 3 => .array .int
  | 4 => .array .int
  | _ => .array .int
abbrev wsX20 : List Cond := u_ws RX2 TX2 6
theorem nmX2 : ∀ a, a < 6 → ∀ b, b < 6 → a ≠ b → (TX2 a).2.1 ≠ (TX2 b).2.1 := by decide +kernel
theorem tyX2_ok : ∀ k, k < 6 → parseFieldDescriptor (TX2 k).2.2.1 = some (tyX2 k) := by decide +kernel
abbrev cX2_init : ByteArray := prog_4_method_1_code
def yX2_init : MethodName := ⟨RX2, "<init>", "()V"⟩
abbrev cX2_choose : ByteArray := prog_4_method_2_code
def yX2_choose : MethodName := ⟨RX2, "choose", "(I)I"⟩
abbrev cX2_isBetter : ByteArray := prog_4_method_3_code
def yX2_isBetter : MethodName := ⟨RX2, "isBetter", "(II)Z"⟩
abbrev cX2_runOnce : ByteArray := prog_4_method_4_code
def yX2_runOnce : MethodName := ⟨RX2, "runOnce", "(III)I"⟩
abbrev cX2_changeTrust : ByteArray := prog_4_method_5_code
def yX2_changeTrust : MethodName := ⟨RX2, "changeTrust", "(II)V"⟩
abbrev cX2_allRuns : ByteArray := prog_4_method_6_code
def yX2_allRuns : MethodName := ⟨RX2, "allRuns", "()I"⟩
def RX3 : String := "CachehallDesk$Got"
def TX3 : u_T := fun k => match k with
  | 0 => ("CachehallDesk$Got", "print", "[I", true)
  | _ => ("CachehallDesk$Got", "entry", "[I", true)
def tyX3 : Nat → FieldType := fun k => match k with
  | 0 => .array .int
  | _ => .array .int
abbrev wsX30 : List Cond := u_ws RX3 TX3 2
theorem nmX3 : ∀ a, a < 2 → ∀ b, b < 2 → a ≠ b → (TX3 a).2.1 ≠ (TX3 b).2.1 := by decide +kernel
theorem tyX3_ok : ∀ k, k < 2 → parseFieldDescriptor (TX3 k).2.2.1 = some (tyX3 k) := by decide +kernel
abbrev cX3_init : ByteArray := prog_5_method_1_code
def yX3_init : MethodName := ⟨RX3, "<init>", "()V"⟩
def RX4 : String := "CachehallDesk$Plan"
def TX4 : u_T := fun k => match k with
  | 0 => ("CachehallDesk$Plan", "contents", "[I", true)
  | 1 => ("CachehallDesk$Plan", "values", "[I", true)
  | 2 => ("CachehallDesk$Plan", "count", "I", false)
  | 3 => ("CachehallDesk$Plan", "files", "[I", true)
  | 4 => ("CachehallDesk$Plan", "actions", "[I", true)
  | 5 => ("CachehallDesk$Plan", "settings", "[I", true)
  | 6 => ("CachehallDesk$Plan", "out", "[I", true)
  | 7 => ("CachehallDesk$Plan", "cost", "[I", true)
  | 8 => ("CachehallDesk$Plan", "size", "[I", true)
  | _ => ("CachehallDesk$Plan", "clean", "[I", true)
def tyX4 : Nat → FieldType := fun k => match k with
  | 0 => .array .int
  | 1 => .array .int
  | 2 => .int
  | 3 => .array .int
  | 4 => .array .int
  | 5 => .array .int
  | 6 => .array .int
  | 7 => .array .int
  | 8 => .array .int
  | _ => .array .int
abbrev wsX40 : List Cond := u_ws RX4 TX4 10
theorem nmX4 : ∀ a, a < 10 → ∀ b, b < 10 → a ≠ b → (TX4 a).2.1 ≠ (TX4 b).2.1 := by decide +kernel
theorem tyX4_ok : ∀ k, k < 10 → parseFieldDescriptor (TX4 k).2.2.1 = some (tyX4 k) := by decide +kernel
abbrev cX4_init : ByteArray := prog_6_method_1_code
def yX4_init : MethodName := ⟨RX4, "<init>", "()V"⟩
abbrev cX4_allActions : ByteArray := prog_6_method_2_code
def yX4_allActions : MethodName := ⟨RX4, "allActions", "()I"⟩
abbrev cX4_printOf : ByteArray := prog_6_method_3_code
def yX4_printOf : MethodName := ⟨RX4, "printOf", "(I[I)I"⟩
abbrev cX4_cleanPrint : ByteArray := prog_6_method_4_code
def yX4_cleanPrint : MethodName := ⟨RX4, "cleanPrint", "(I)I"⟩
abbrev cX4_neededFor : ByteArray := prog_6_method_5_code
def yX4_neededFor : MethodName := ⟨RX4, "neededFor", "(I)I"⟩
abbrev cX4_actionsTouchedBy : ByteArray := prog_6_method_6_code
def yX4_actionsTouchedBy : MethodName := ⟨RX4, "actionsTouchedBy", "(I)I"⟩
def RX5 : String := "CachehallDesk$Snapshot"
def TX5 : u_T := fun k => match k with
  | 0 => ("CachehallDesk$Snapshot", "out", "[I", true)
  | 1 => ("CachehallDesk$Snapshot", "trust", "[I", true)
  | 2 => ("CachehallDesk$Snapshot", "runs", "[I", true)
  | 3 => ("CachehallDesk$Snapshot", "busy", "[I", true)
  | 4 => ("CachehallDesk$Snapshot", "checks", "[I", true)
  | 5 => ("CachehallDesk$Snapshot", "saved", "[I", true)
  | 6 => ("CachehallDesk$Snapshot", "hits", "[I", true)
  | 7 => ("CachehallDesk$Snapshot", "state", "[I", true)
  | 8 => ("CachehallDesk$Snapshot", "count", "I", false)
  | _ => ("CachehallDesk$Snapshot", "wrong", "I", false)
def tyX5 : Nat → FieldType := fun k => match k with
  | 0 => .array .int
  | 1 => .array .int
  | 2 => .array .int
  | 3 => .array .int
  | 4 => .array .int
  | 5 => .array .int
  | 6 => .array .int
  | 7 => .array .int
  | 8 => .int
  | _ => .int
abbrev wsX50 : List Cond := u_ws RX5 TX5 10
theorem nmX5 : ∀ a, a < 10 → ∀ b, b < 10 → a ≠ b → (TX5 a).2.1 ≠ (TX5 b).2.1 := by decide +kernel
theorem tyX5_ok : ∀ k, k < 10 → parseFieldDescriptor (TX5 k).2.2.1 = some (tyX5 k) := by decide +kernel
abbrev cX5_init : ByteArray := prog_7_method_1_code
def yX5_init : MethodName := ⟨RX5, "<init>", "()V"⟩
abbrev cX5_take : ByteArray := prog_7_method_2_code
def yX5_take : MethodName := ⟨RX5, "take", "(LCachehallDesk$Plan;LCachehallDesk$Crew;LCachehallDesk$Teams;LCachehallDesk$Cache;)V"⟩
abbrev cX5_putBack : ByteArray := prog_7_method_3_code
def yX5_putBack : MethodName := ⟨RX5, "putBack", "(LCachehallDesk$Plan;LCachehallDesk$Crew;LCachehallDesk$Teams;LCachehallDesk$Cache;)V"⟩
def RX6 : String := "CachehallDesk$Teams"
def TX6 : u_T := fun k => match k with
  | 0 => ("CachehallDesk$Teams", "count", "I", false)
  | 1 => ("CachehallDesk$Teams", "quota", "[I", true)
  | 2 => ("CachehallDesk$Teams", "saved", "[I", true)
  | _ => ("CachehallDesk$Teams", "builds", "[I", true)
def tyX6 : Nat → FieldType := fun k => match k with
  | 0 => .int
  | 1 => .array .int
  | 2 => .array .int
  | _ => .array .int
abbrev wsX60 : List Cond := u_ws RX6 TX6 4
theorem nmX6 : ∀ a, a < 4 → ∀ b, b < 4 → a ≠ b → (TX6 a).2.1 ≠ (TX6 b).2.1 := by decide +kernel
theorem tyX6_ok : ∀ k, k < 4 → parseFieldDescriptor (TX6 k).2.2.1 = some (tyX6 k) := by decide +kernel
abbrev cX6_init : ByteArray := prog_8_method_1_code
def yX6_init : MethodName := ⟨RX6, "<init>", "()V"⟩
def RX7 : String := "CachehallDesk"
def TX7 : u_T := fun k => match k with
  | 0 => ("CachehallDesk", "builder", "LCachehallDesk$Builder;", true)
  | 1 => ("CachehallDesk", "plan", "LCachehallDesk$Plan;", true)
  | 2 => ("CachehallDesk", "crew", "LCachehallDesk$Crew;", true)
  | 3 => ("CachehallDesk", "teams", "LCachehallDesk$Teams;", true)
  | _ => ("CachehallDesk", "cache", "LCachehallDesk$Cache;", true)
def tyX7 : Nat → FieldType := fun k => match k with
  | 0 => .object "CachehallDesk$Builder"
  | 1 => .object "CachehallDesk$Plan"
  | 2 => .object "CachehallDesk$Crew"
  | 3 => .object "CachehallDesk$Teams"
  | _ => .object "CachehallDesk$Cache"
abbrev wsX70 : List Cond := u_ws RX7 TX7 5
theorem nmX7 : ∀ a, a < 5 → ∀ b, b < 5 → a ≠ b → (TX7 a).2.1 ≠ (TX7 b).2.1 := by decide +kernel
theorem tyX7_ok : ∀ k, k < 5 → parseFieldDescriptor (TX7 k).2.2.1 = some (tyX7 k) := by decide +kernel
abbrev cX7_init : ByteArray := prog_1_method_1_code
def yX7_init : MethodName := ⟨RX7, "<init>", "()V"⟩
abbrev cX7_action : ByteArray := prog_1_method_2_code
def yX7_action : MethodName := ⟨RX7, "action", "(IIIIII)I"⟩
abbrev cX7_file : ByteArray := prog_1_method_3_code
def yX7_file : MethodName := ⟨RX7, "file", "(II)I"⟩
abbrev cX7_set : ByteArray := prog_1_method_4_code
def yX7_set : MethodName := ⟨RX7, "set", "(II)I"⟩
abbrev cX7_ofAction : ByteArray := prog_1_method_5_code
def yX7_ofAction : MethodName := ⟨RX7, "ofAction", "(II)I"⟩
abbrev cX7_worker : ByteArray := prog_1_method_6_code
def yX7_worker : MethodName := ⟨RX7, "worker", "(I)I"⟩
abbrev cX7_ofWorker : ByteArray := prog_1_method_7_code
def yX7_ofWorker : MethodName := ⟨RX7, "ofWorker", "(II)I"⟩
abbrev cX7_team : ByteArray := prog_1_method_9_code
def yX7_team : MethodName := ⟨RX7, "team", "(I)I"⟩
abbrev cX7_quota : ByteArray := prog_1_method_10_code
def yX7_quota : MethodName := ⟨RX7, "quota", "(II)I"⟩
abbrev cX7_ofTeam : ByteArray := prog_1_method_11_code
def yX7_ofTeam : MethodName := ⟨RX7, "ofTeam", "(II)I"⟩
abbrev cX7_build : ByteArray := prog_1_method_12_code
def yX7_build : MethodName := ⟨RX7, "build", "(II)I"⟩
abbrev cX7_check : ByteArray := prog_1_method_13_code
def yX7_check : MethodName := ⟨RX7, "check", "(I)I"⟩
abbrev cX7_recheck : ByteArray := prog_1_method_14_code
def yX7_recheck : MethodName := ⟨RX7, "recheck", "(I)I"⟩
abbrev cX7_ofEntry : ByteArray := prog_1_method_15_code
def yX7_ofEntry : MethodName := ⟨RX7, "ofEntry", "(II)I"⟩
abbrev cX7_from : ByteArray := prog_1_method_16_code
def yX7_from : MethodName := ⟨RX7, "from", "(II)I"⟩
abbrev cX7_many : ByteArray := prog_1_method_17_code
def yX7_many : MethodName := ⟨RX7, "many", "(I)I"⟩
abbrev cX7_hitShare : ByteArray := prog_1_method_18_code
def yX7_hitShare : MethodName := ⟨RX7, "hitShare", "()D"⟩
abbrev cX7_wouldRun : ByteArray := prog_1_method_19_code
def yX7_wouldRun : MethodName := ⟨RX7, "wouldRun", "(II)I"⟩
abbrev cX7_wouldBeWrong : ByteArray := prog_1_method_20_code
def yX7_wouldBeWrong : MethodName := ⟨RX7, "wouldBeWrong", "(II)Z"⟩
abbrev cX7_touched : ByteArray := prog_1_method_21_code
def yX7_touched : MethodName := ⟨RX7, "touched", "(I)I"⟩
abbrev cX7_wouldGo : ByteArray := prog_1_method_22_code
def yX7_wouldGo : MethodName := ⟨RX7, "wouldGo", "(II)I"⟩
abbrev cX7_digest : ByteArray := prog_1_method_23_code
def yX7_digest : MethodName := ⟨RX7, "digest", "()J"⟩
abbrev cX7_needIndex : ByteArray := prog_1_method_24_code
def yX7_needIndex : MethodName := ⟨RX7, "needIndex", "(II)V"⟩
abbrev cX7_needArgument : ByteArray := prog_1_method_25_code
def yX7_needArgument : MethodName := ⟨RX7, "needArgument", "(Z)V"⟩
abbrev cX7_needState : ByteArray := prog_1_method_26_code
def yX7_needState : MethodName := ⟨RX7, "needState", "(Z)V"⟩
abbrev cX7_isWithin : ByteArray := prog_1_method_27_code
def yX7_isWithin : MethodName := ⟨RX7, "isWithin", "(III)Z"⟩
abbrev cX7_isIndex : ByteArray := prog_1_method_28_code
def yX7_isIndex : MethodName := ⟨RX7, "isIndex", "(II)Z"⟩
abbrev cX7_isPartOf : ByteArray := prog_1_method_29_code
def yX7_isPartOf : MethodName := ⟨RX7, "isPartOf", "(II)Z"⟩
abbrev cX7_has : ByteArray := prog_1_method_30_code
def yX7_has : MethodName := ⟨RX7, "has", "(JI)Z"⟩
abbrev cX7_weigh : ByteArray := prog_1_method_31_code
def yX7_weigh : MethodName := ⟨RX7, "weigh", "(I[II)I"⟩
def RX8 : String := "CachehallDeskModel$Action"
def TX8 : u_T := fun k => match k with
  | _ => ("", "", "", false)
def tyX8 : Nat → FieldType := fun k => match k with
  | _ => .int
abbrev wsX80 : List Cond := u_ws RX8 TX8 0
theorem nmX8 : ∀ a, a < 0 → ∀ b, b < 0 → a ≠ b → (TX8 a).2.1 ≠ (TX8 b).2.1 := by decide +kernel
theorem tyX8_ok : ∀ k, k < 0 → parseFieldDescriptor (TX8 k).2.2.1 = some (tyX8 k) := by decide +kernel
def RX9 : String := "CachehallDeskModel$Entry"
def TX9 : u_T := fun k => match k with
  | _ => ("", "", "", false)
def tyX9 : Nat → FieldType := fun k => match k with
  | _ => .int
abbrev wsX90 : List Cond := u_ws RX9 TX9 0
theorem nmX9 : ∀ a, a < 0 → ∀ b, b < 0 → a ≠ b → (TX9 a).2.1 ≠ (TX9 b).2.1 := by decide +kernel
theorem tyX9_ok : ∀ k, k < 0 → parseFieldDescriptor (TX9 k).2.2.1 = some (tyX9 k) := by decide +kernel
def RX10 : String := "CachehallDeskModel$Hall"
def TX10 : u_T := fun k => match k with
  | _ => ("", "", "", false)
def tyX10 : Nat → FieldType := fun k => match k with
  | _ => .int
abbrev wsX100 : List Cond := u_ws RX10 TX10 0
theorem nmX10 : ∀ a, a < 0 → ∀ b, b < 0 → a ≠ b → (TX10 a).2.1 ≠ (TX10 b).2.1 := by decide +kernel
theorem tyX10_ok : ∀ k, k < 0 → parseFieldDescriptor (TX10 k).2.2.1 = some (tyX10 k) := by decide +kernel
def RX11 : String := "CachehallDeskModel$Reading"
def TX11 : u_T := fun k => match k with
  | _ => ("", "", "", false)
def tyX11 : Nat → FieldType := fun k => match k with
  | _ => .int
abbrev wsX110 : List Cond := u_ws RX11 TX11 0
theorem nmX11 : ∀ a, a < 0 → ∀ b, b < 0 → a ≠ b → (TX11 a).2.1 ≠ (TX11 b).2.1 := by decide +kernel
theorem tyX11_ok : ∀ k, k < 0 → parseFieldDescriptor (TX11 k).2.2.1 = some (tyX11 k) := by decide +kernel
def RX12 : String := "CachehallDeskModel$Team"
def TX12 : u_T := fun k => match k with
  | _ => ("", "", "", false)
def tyX12 : Nat → FieldType := fun k => match k with
  | _ => .int
abbrev wsX120 : List Cond := u_ws RX12 TX12 0
theorem nmX12 : ∀ a, a < 0 → ∀ b, b < 0 → a ≠ b → (TX12 a).2.1 ≠ (TX12 b).2.1 := by decide +kernel
theorem tyX12_ok : ∀ k, k < 0 → parseFieldDescriptor (TX12 k).2.2.1 = some (tyX12 k) := by decide +kernel
def RX13 : String := "CachehallDeskModel$Worker"
def TX13 : u_T := fun k => match k with
  | _ => ("", "", "", false)
def tyX13 : Nat → FieldType := fun k => match k with
  | _ => .int
abbrev wsX130 : List Cond := u_ws RX13 TX13 0
theorem nmX13 : ∀ a, a < 0 → ∀ b, b < 0 → a ≠ b → (TX13 a).2.1 ≠ (TX13 b).2.1 := by decide +kernel
theorem tyX13_ok : ∀ k, k < 0 → parseFieldDescriptor (TX13 k).2.2.1 = some (tyX13 k) := by decide +kernel
def RX14 : String := "CachehallDeskModel"
def TX14 : u_T := fun k => match k with
  | _ => ("", "", "", false)
def tyX14 : Nat → FieldType := fun k => match k with
  | _ => .int
abbrev wsX140 : List Cond := u_ws RX14 TX14 0
theorem nmX14 : ∀ a, a < 0 → ∀ b, b < 0 → a ≠ b → (TX14 a).2.1 ≠ (TX14 b).2.1 := by decide +kernel
theorem tyX14_ok : ∀ k, k < 0 → parseFieldDescriptor (TX14 k).2.2.1 = some (tyX14 k) := by decide +kernel
def RJx145de : String := "java/io/Serializable"
def TJx145de : u_T := fun k => match k with
  | _ => ("", "", "", false)
def tyJx145de : Nat → FieldType := fun k => match k with
  | _ => .int
abbrev wsJx145de0 : List Cond := u_ws RJx145de TJx145de 0
theorem nmJx145de : ∀ a, a < 0 → ∀ b, b < 0 → a ≠ b → (TJx145de a).2.1 ≠ (TJx145de b).2.1 := by decide +kernel
theorem tyJx145de_ok : ∀ k, k < 0 → parseFieldDescriptor (TJx145de k).2.2.1 = some (tyJx145de k) := by decide +kernel
def RJxb160c : String := "java/lang/Comparable"
def TJxb160c : u_T := fun k => match k with
  | _ => ("", "", "", false)
def tyJxb160c : Nat → FieldType := fun k => match k with
  | _ => .int
abbrev wsJxb160c0 : List Cond := u_ws RJxb160c TJxb160c 0
theorem nmJxb160c : ∀ a, a < 0 → ∀ b, b < 0 → a ≠ b → (TJxb160c a).2.1 ≠ (TJxb160c b).2.1 := by decide +kernel
theorem tyJxb160c_ok : ∀ k, k < 0 → parseFieldDescriptor (TJxb160c k).2.2.1 = some (tyJxb160c k) := by decide +kernel
def RJxe99ae : String := "java/lang/Double"
def TJxe99ae : u_T := fun k => match k with
  | _ => ("", "", "", false)
def tyJxe99ae : Nat → FieldType := fun k => match k with
  | _ => .int
abbrev wsJxe99ae0 : List Cond := u_ws RJxe99ae TJxe99ae 0
theorem nmJxe99ae : ∀ a, a < 0 → ∀ b, b < 0 → a ≠ b → (TJxe99ae a).2.1 ≠ (TJxe99ae b).2.1 := by decide +kernel
theorem tyJxe99ae_ok : ∀ k, k < 0 → parseFieldDescriptor (TJxe99ae k).2.2.1 = some (tyJxe99ae k) := by decide +kernel
def RJ13 : String := "java/lang/Long"
def TJ13 : u_T := fun k => match k with
  | _ => ("", "", "", false)
def tyJ13 : Nat → FieldType := fun k => match k with
  | _ => .int
abbrev wsJ130 : List Cond := u_ws RJ13 TJ13 0
theorem nmJ13 : ∀ a, a < 0 → ∀ b, b < 0 → a ≠ b → (TJ13 a).2.1 ≠ (TJ13 b).2.1 := by decide +kernel
theorem tyJ13_ok : ∀ k, k < 0 → parseFieldDescriptor (TJ13 k).2.2.1 = some (tyJ13 k) := by decide +kernel
abbrev cJ13_bitCount_95d88 : ByteArray := prog_22_method_50_code
def yJ13_bitCount_95d88 : MethodName := ⟨RJ13, "bitCount", "(J)I"⟩
def RJ9 : String := "java/lang/Math"
def TJ9 : u_T := fun k => match k with
  | _ => ("", "", "", false)
def tyJ9 : Nat → FieldType := fun k => match k with
  | _ => .int
abbrev wsJ90 : List Cond := u_ws RJ9 TJ9 0
theorem nmJ9 : ∀ a, a < 0 → ∀ b, b < 0 → a ≠ b → (TJ9 a).2.1 ≠ (TJ9 b).2.1 := by decide +kernel
theorem tyJ9_ok : ∀ k, k < 0 → parseFieldDescriptor (TJ9 k).2.2.1 = some (tyJ9 k) := by decide +kernel
abbrev cJ9_abs_294c1 : ByteArray := prog_23_method_64_code
def yJ9_abs_294c1 : MethodName := ⟨RJ9, "abs", "(D)D"⟩
abbrev cJ9_max_7cf53 : ByteArray := prog_23_method_65_code
def yJ9_max_7cf53 : MethodName := ⟨RJ9, "max", "(II)I"⟩
abbrev cJ9_min_7cf53 : ByteArray := prog_23_method_69_code
def yJ9_min_7cf53 : MethodName := ⟨RJ9, "min", "(II)I"⟩
def RJxd2413 : String := "java/lang/Number"
def TJxd2413 : u_T := fun k => match k with
  | _ => ("", "", "", false)
def tyJxd2413 : Nat → FieldType := fun k => match k with
  | _ => .int
abbrev wsJxd24130 : List Cond := u_ws RJxd2413 TJxd2413 0
theorem nmJxd2413 : ∀ a, a < 0 → ∀ b, b < 0 → a ≠ b → (TJxd2413 a).2.1 ≠ (TJxd2413 b).2.1 := by decide +kernel
theorem tyJxd2413_ok : ∀ k, k < 0 → parseFieldDescriptor (TJxd2413 k).2.2.1 = some (tyJxd2413 k) := by decide +kernel
def RJ0 : String := "java/lang/String"
def TJ0 : u_T := fun k => match k with
  | _ => ("", "", "", false)
def tyJ0 : Nat → FieldType := fun k => match k with
  | _ => .int
abbrev wsJ00 : List Cond := u_ws RJ0 TJ0 0
theorem nmJ0 : ∀ a, a < 0 → ∀ b, b < 0 → a ≠ b → (TJ0 a).2.1 ≠ (TJ0 b).2.1 := by decide +kernel
theorem tyJ0_ok : ∀ k, k < 0 → parseFieldDescriptor (TJ0 k).2.2.1 = some (tyJ0 k) := by decide +kernel
def RJ10 : String := "java/lang/System"
def TJ10 : u_T := fun k => match k with
  | _ => ("", "", "", false)
def tyJ10 : Nat → FieldType := fun k => match k with
  | _ => .int
abbrev wsJ100 : List Cond := u_ws RJ10 TJ10 0
theorem nmJ10 : ∀ a, a < 0 → ∀ b, b < 0 → a ≠ b → (TJ10 a).2.1 ≠ (TJ10 b).2.1 := by decide +kernel
theorem tyJ10_ok : ∀ k, k < 0 → parseFieldDescriptor (TJ10 k).2.2.1 = some (tyJ10 k) := by decide +kernel
def RJxfd54e : String := "java/lang/constant/Constable"
def TJxfd54e : u_T := fun k => match k with
  | _ => ("", "", "", false)
def tyJxfd54e : Nat → FieldType := fun k => match k with
  | _ => .int
abbrev wsJxfd54e0 : List Cond := u_ws RJxfd54e TJxfd54e 0
theorem nmJxfd54e : ∀ a, a < 0 → ∀ b, b < 0 → a ≠ b → (TJxfd54e a).2.1 ≠ (TJxfd54e b).2.1 := by decide +kernel
theorem tyJxfd54e_ok : ∀ k, k < 0 → parseFieldDescriptor (TJxfd54e k).2.2.1 = some (tyJxfd54e k) := by decide +kernel
def RJx3cf43 : String := "java/lang/constant/ConstantDesc"
def TJx3cf43 : u_T := fun k => match k with
  | _ => ("", "", "", false)
def tyJx3cf43 : Nat → FieldType := fun k => match k with
  | _ => .int
abbrev wsJx3cf430 : List Cond := u_ws RJx3cf43 TJx3cf43 0
theorem nmJx3cf43 : ∀ a, a < 0 → ∀ b, b < 0 → a ≠ b → (TJx3cf43 a).2.1 ≠ (TJx3cf43 b).2.1 := by decide +kernel
theorem tyJx3cf43_ok : ∀ k, k < 0 → parseFieldDescriptor (TJx3cf43 k).2.2.1 = some (tyJx3cf43 k) := by decide +kernel
def RL : String := "CachehallDeskLaw"
abbrev cL_below : ByteArray := method_2_code
def yL_below : MethodName := ⟨RL, "below", "(II)I"⟩
abbrev cL_cell : ByteArray := method_3_code
def yL_cell : MethodName := ⟨RL, "cell", "([II)I"⟩
abbrev cL_law : ByteArray := code
def yL_law : MethodName := ⟨RL, "law", "([I)Z"⟩
abbrev cL_act : ByteArray := method_5_code
def yL_act : MethodName := ⟨RL, "act", "(LCachehallDesk;IIZ)Z"⟩
abbrev cL_areEntriesRight : ByteArray := method_6_code
def yL_areEntriesRight : MethodName := ⟨RL, "areEntriesRight", "(LCachehallDesk;)Z"⟩
abbrev cL_areSumsRight : ByteArray := method_7_code
def yL_areSumsRight : MethodName := ⟨RL, "areSumsRight", "(LCachehallDesk;)Z"⟩
abbrev cL_isAheadRight : ByteArray := method_8_code
def yL_isAheadRight : MethodName := ⟨RL, "isAheadRight", "(LCachehallDesk;I)Z"⟩
abbrev vwCl : List vw_C := [(RX0, TX0, 9), (RX1, TX1, 15), (RX2, TX2, 6), (RX3, TX3, 2), (RX4, TX4, 10), (RX5, TX5, 10), (RX6, TX6, 4), (RX7, TX7, 5)]
