def RX0 : String := "CachehallDesk$Builder"
def TX0 : u_T := fun k => match k with
  | 0 => ("CachehallDesk$Builder", "plan", "LCachehallDesk$Plan;", true)
  | 1 => ("CachehallDesk$Builder", "crew", "LCachehallDesk$Crew;", true)
  | 2 => ("CachehallDesk$Builder", "teams", "LCachehallDesk$Teams;", true)
  | 3 => ("CachehallDesk$Builder", "cache", "LCachehallDesk$Cache;", true)
  | 4 => ("CachehallDesk$Builder", "got", "LCachehallDesk$Got;", true)
  | 5 => ("CachehallDesk$Builder", "before", "LCachehallDesk$Snapshot;", true)
  | 6 => ("CachehallDesk$Builder", "checkEvery", "I", false)
  | 7 => ("CachehallDesk$Builder", "checker", "I", false)
  | _ => ("CachehallDesk$Builder", "checkedPrint", "I", false)
def tyX0 : Nat → FieldType := fun k => match k with
  | 0 => .object "CachehallDesk$Plan"
  | 1 => .object "CachehallDesk$Crew"
  | 2 => .object "CachehallDesk$Teams"
  | 3 => .object "CachehallDesk$Cache"
  | 4 => .object "CachehallDesk$Got"
  | 5 => .object "CachehallDesk$Snapshot"
  | 6 => .int
  | 7 => .int
  | _ => .int
abbrev wsX00 : List Cond := u_ws RX0 TX0 9
theorem nmX0 : ∀ a, a < 9 → ∀ b, b < 9 → a ≠ b → (TX0 a).2.1 ≠ (TX0 b).2.1 := by decide +kernel
theorem tyX0_ok : ∀ k, k < 9 → parseFieldDescriptor (TX0 k).2.2.1 = some (tyX0 k) := by decide +kernel
abbrev cX0_init : ByteArray := prog_2_method_1_code
def yX0_init : MethodName := ⟨RX0, "<init>", "()V"⟩
abbrev cX0_carryOut : ByteArray := prog_2_method_2_code
def yX0_carryOut : MethodName := ⟨RX0, "carryOut", "(II)Z"⟩
abbrev cX0_runsNeeded : ByteArray := prog_2_method_3_code
def yX0_runsNeeded : MethodName := ⟨RX0, "runsNeeded", "(II)I"⟩
abbrev cX0_printWouldDiffer : ByteArray := prog_2_method_4_code
def yX0_printWouldDiffer : MethodName := ⟨RX0, "printWouldDiffer", "(II)Z"⟩
abbrev cX0_goneFor : ByteArray := prog_2_method_5_code
def yX0_goneFor : MethodName := ⟨RX0, "goneFor", "(II)I"⟩
abbrev cX0_attempt : ByteArray := prog_2_method_6_code
def yX0_attempt : MethodName := ⟨RX0, "attempt", "(II)Z"⟩
abbrev cX0_obtain : ByteArray := prog_2_method_7_code
def yX0_obtain : MethodName := ⟨RX0, "obtain", "(II)Z"⟩
abbrev cX0_isCheckDue : ByteArray := prog_2_method_8_code
def yX0_isCheckDue : MethodName := ⟨RX0, "isCheckDue", "()Z"⟩
abbrev cX0_enter : ByteArray := prog_2_method_9_code
def yX0_enter : MethodName := ⟨RX0, "enter", "(IIII)Z"⟩
abbrev cX0_checkAgain : ByteArray := prog_2_method_10_code
def yX0_checkAgain : MethodName := ⟨RX0, "checkAgain", "(I)I"⟩
abbrev cX0_compareWithRun : ByteArray := prog_2_method_11_code
def yX0_compareWithRun : MethodName := ⟨RX0, "compareWithRun", "(II)I"⟩
def RX1 : String := "CachehallDesk$Cache"
def TX1 : u_T := fun k => match k with
  | 0 => ("CachehallDesk$Cache", "count", "I", false)
  | 1 => ("CachehallDesk$Cache", "wrong", "I", false)
  | 2 => ("CachehallDesk$Cache", "action", "[I", true)
  | 3 => ("CachehallDesk$Cache", "worker", "[I", true)
  | 4 => ("CachehallDesk$Cache", "team", "[I", true)
  | 5 => ("CachehallDesk$Cache", "print", "[I", true)
  | 6 => ("CachehallDesk$Cache", "hits", "[I", true)
  | 7 => ("CachehallDesk$Cache", "state", "[I", true)
  | 8 => ("CachehallDesk$Cache", "cost", "[I", true)
  | 9 => ("CachehallDesk$Cache", "size", "[I", true)
  | 10 => ("CachehallDesk$Cache", "contents", "[I", true)
  | 11 => ("CachehallDesk$Cache", "values", "[I", true)
  | 12 => ("CachehallDesk$Cache", "prints", "[I", true)
  | 13 => ("CachehallDesk$Cache", "from", "[I", true)
  | _ => ("CachehallDesk$Cache", "fromSet", "[J", true)
def tyX1 : Nat → FieldType := fun k => match k with
  | 0 => .int
  | 1 => .int
  | 2 => .array .int
  | 3 => .array .int
  | 4 => .array .int
  | 5 => .array .int
  | 6 => .array .int
  | 7 => .array .int
  | 8 => .array .int
  | 9 => .array .int
  | 10 => .array .int
  | 11 => .array .int
  | 12 => .array .int
  | 13 => .array .int
  | _ => .array .long
abbrev wsX10 : List Cond := u_ws RX1 TX1 15
theorem nmX1 : ∀ a, a < 15 → ∀ b, b < 15 → a ≠ b → (TX1 a).2.1 ≠ (TX1 b).2.1 := by decide +kernel
theorem tyX1_ok : ∀ k, k < 15 → parseFieldDescriptor (TX1 k).2.2.1 = some (tyX1 k) := by decide +kernel
abbrev cX1_init : ByteArray := prog_3_method_1_code
def yX1_init : MethodName := ⟨RX1, "<init>", "()V"⟩
abbrev cX1_isFull : ByteArray := prog_3_method_2_code
def yX1_isFull : MethodName := ⟨RX1, "isFull", "()Z"⟩
abbrev cX1_firstHit : ByteArray := prog_3_method_3_code
def yX1_firstHit : MethodName := ⟨RX1, "firstHit", "(LCachehallDesk$Plan;LCachehallDesk$Got;I)I"⟩
abbrev cX1_hasInputsOfNow : ByteArray := prog_3_method_4_code
def yX1_hasInputsOfNow : MethodName := ⟨RX1, "hasInputsOfNow", "(LCachehallDesk$Plan;I)Z"⟩
abbrev cX1_changedSettings : ByteArray := prog_3_method_5_code
def yX1_changedSettings : MethodName := ⟨RX1, "changedSettings", "(LCachehallDesk$Plan;I)I"⟩
abbrev cX1_hasPrints : ByteArray := prog_3_method_6_code
def yX1_hasPrints : MethodName := ⟨RX1, "hasPrints", "(ILCachehallDesk$Got;I)Z"⟩
abbrev cX1_add : ByteArray := prog_3_method_7_code
def yX1_add : MethodName := ⟨RX1, "add", "(LCachehallDesk$Plan;LCachehallDesk$Got;I)I"⟩
abbrev cX1_offspring : ByteArray := prog_3_method_8_code
def yX1_offspring : MethodName := ⟨RX1, "offspring", "(I)J"⟩
abbrev cX1_poison : ByteArray := prog_3_method_9_code
def yX1_poison : MethodName := ⟨RX1, "poison", "(I)V"⟩
abbrev cX1_dropAllOf : ByteArray := prog_3_method_10_code
def yX1_dropAllOf : MethodName := ⟨RX1, "dropAllOf", "(I)V"⟩
abbrev cX1_makeRoom : ByteArray := prog_3_method_11_code
def yX1_makeRoom : MethodName := ⟨RX1, "makeRoom", "(II)I"⟩
abbrev cX1_leastWorth : ByteArray := prog_3_method_12_code
def yX1_leastWorth : MethodName := ⟨RX1, "leastWorth", "(I)I"⟩
abbrev cX1_worth : ByteArray := prog_3_method_13_code
def yX1_worth : MethodName := ⟨RX1, "worth", "(I)I"⟩
abbrev cX1_isKeptBy : ByteArray := prog_3_method_14_code
def yX1_isKeptBy : MethodName := ⟨RX1, "isKeptBy", "(II)Z"⟩
abbrev cX1_usedBy : ByteArray := prog_3_method_15_code
def yX1_usedBy : MethodName := ⟨RX1, "usedBy", "(I)I"⟩
abbrev cX1_keptOfTeam : ByteArray := prog_3_method_16_code
def yX1_keptOfTeam : MethodName := ⟨RX1, "keptOfTeam", "(I)I"⟩
abbrev cX1_keptOfActions : ByteArray := prog_3_method_17_code
def yX1_keptOfActions : MethodName := ⟨RX1, "keptOfActions", "(I)I"⟩
abbrev cX1_poisonedOfWorker : ByteArray := prog_3_method_18_code
def yX1_poisonedOfWorker : MethodName := ⟨RX1, "poisonedOfWorker", "(I)I"⟩
abbrev cX1_inState : ByteArray := prog_3_method_19_code
def yX1_inState : MethodName := ⟨RX1, "inState", "(I)I"⟩
abbrev cX1_allHits : ByteArray := prog_3_method_20_code
def yX1_allHits : MethodName := ⟨RX1, "allHits", "()I"⟩
def RX2 : String := "CachehallDesk$Crew"
def TX2 : u_T := fun k => match k with
  | 0 => ("CachehallDesk$Crew", "count", "I", false)
  | 1 => ("CachehallDesk$Crew", "fault", "[I", true)
  | 2 => ("CachehallDesk$Crew", "trust", "[I", true)
  | 3 => ("CachehallDesk$Crew", "runs", "[I", true)
  | 4 => ("CachehallDesk$Crew", "busy", "[I", true)
  | _ => ("CachehallDesk$Crew", "checks", "[I", true)
def tyX2 : Nat → FieldType := fun k => match k with
  | 0 => .int
  | 1 => .array .int
  | 2 => .array .int
  | 3 => .array .int
  | 4 => .array .int
  | _ => .array .int
abbrev wsX20 : List Cond := u_ws RX2 TX2 6
theorem nmX2 : ∀ a, a < 6 → ∀ b, b < 6 → a ≠ b → (TX2 a).2.1 ≠ (TX2 b).2.1 := by decide +kernel
theorem tyX2_ok : ∀ k, k < 6 → parseFieldDescriptor (TX2 k).2.2.1 = some (tyX2 k) := by decide +kernel
abbrev cX2_init : ByteArray := prog_4_method_1_code
def yX2_init : MethodName := ⟨RX2, "<init>", "()V"⟩
abbrev cX2_choose : ByteArray := prog_4_method_2_code
def yX2_choose : MethodName := ⟨RX2, "choose", "(I)I"⟩
abbrev cX2_isBetter : ByteArray := prog_4_method_3_code
def yX2_isBetter : MethodName := ⟨RX2, "isBetter", "(II)Z"⟩
abbrev cX2_runOnce : ByteArray := prog_4_method_4_code
def yX2_runOnce : MethodName := ⟨RX2, "runOnce", "(III)I"⟩
abbrev cX2_changeTrust : ByteArray := prog_4_method_5_code
def yX2_changeTrust : MethodName := ⟨RX2, "changeTrust", "(II)V"⟩
abbrev cX2_allRuns : ByteArray := prog_4_method_6_code
def yX2_allRuns : MethodName := ⟨RX2, "allRuns", "()I"⟩
def RX3 : String := "CachehallDesk$Got"
def TX3 : u_T := fun k => match k with
  | 0 => ("CachehallDesk$Got", "print", "[I", true)
  | _ => ("CachehallDesk$Got", "entry", "[I", true)
def tyX3 : Nat → FieldType := fun k => match k with
  | 0 => .array .int
  | _ => .array .int
abbrev wsX30 : List Cond := u_ws RX3 TX3 2
theorem nmX3 : ∀ a, a < 2 → ∀ b, b < 2 → a ≠ b → (TX3 a).2.1 ≠ (TX3 b).2.1 := by decide +kernel
theorem tyX3_ok : ∀ k, k < 2 → parseFieldDescriptor (TX3 k).2.2.1 = some (tyX3 k) := by decide +kernel
abbrev cX3_init : ByteArray := prog_5_method_1_code
def yX3_init : MethodName := ⟨RX3, "<init>", "()V"⟩
def RX4 : String := "CachehallDesk$Plan"
def TX4 : u_T := fun k => match k with
  | 0 => ("CachehallDesk$Plan", "contents", "[I", true)
  | 1 => ("CachehallDesk$Plan", "values", "[I", true)
  | 2 => ("CachehallDesk$Plan", "count", "I", false)
  | 3 => ("CachehallDesk$Plan", "files", "[I", true)
  | 4 => ("CachehallDesk$Plan", "actions", "[I", true)
  | 5 => ("CachehallDesk$Plan", "settings", "[I", true)
  | 6 => ("CachehallDesk$Plan", "out", "[I", true)
  | 7 => ("CachehallDesk$Plan", "cost", "[I", true)
  | 8 => ("CachehallDesk$Plan", "size", "[I", true)
  | _ => ("CachehallDesk$Plan", "clean", "[I", true)
def tyX4 : Nat → FieldType := fun k => match k with
  | 0 => .array .int
  | 1 => .array .int
  | 2 => .int
  | 3 => .array .int
  | 4 => .array .int
  | 5 => .array .int
  | 6 => .array .int
  | 7 => .array .int
  | 8 => .array .int
  | _ => .array .int
abbrev wsX40 : List Cond := u_ws RX4 TX4 10
theorem nmX4 : ∀ a, a < 10 → ∀ b, b < 10 → a ≠ b → (TX4 a).2.1 ≠ (TX4 b).2.1 := by decide +kernel
theorem tyX4_ok : ∀ k, k < 10 → parseFieldDescriptor (TX4 k).2.2.1 = some (tyX4 k) := by decide +kernel
abbrev cX4_init : ByteArray := prog_6_method_1_code
def yX4_init : MethodName := ⟨RX4, "<init>", "()V"⟩
abbrev cX4_allActions : ByteArray := prog_6_method_2_code
def yX4_allActions : MethodName := ⟨RX4, "allActions", "()I"⟩
abbrev cX4_printOf : ByteArray := prog_6_method_3_code
def yX4_printOf : MethodName := ⟨RX4, "printOf", "(I[I)I"⟩
abbrev cX4_cleanPrint : ByteArray := prog_6_method_4_code
def yX4_cleanPrint : MethodName := ⟨RX4, "cleanPrint", "(I)I"⟩
abbrev cX4_neededFor : ByteArray := prog_6_method_5_code
def yX4_neededFor : MethodName := ⟨RX4, "neededFor", "(I)I"⟩
abbrev cX4_actionsTouchedBy : ByteArray := prog_6_method_6_code
def yX4_actionsTouchedBy : MethodName := ⟨RX4, "actionsTouchedBy", "(I)I"⟩
def RX5 : String := "CachehallDesk$Snapshot"
def TX5 : u_T := fun k => match k with
  | 0 => ("CachehallDesk$Snapshot", "out", "[I", true)
  | 1 => ("CachehallDesk$Snapshot", "trust", "[I", true)
  | 2 => ("CachehallDesk$Snapshot", "runs", "[I", true)
  | 3 => ("CachehallDesk$Snapshot", "busy", "[I", true)
  | 4 => ("CachehallDesk$Snapshot", "checks", "[I", true)
  | 5 => ("CachehallDesk$Snapshot", "saved", "[I", true)
  | 6 => ("CachehallDesk$Snapshot", "hits", "[I", true)
  | 7 => ("CachehallDesk$Snapshot", "state", "[I", true)
  | 8 => ("CachehallDesk$Snapshot", "count", "I", false)
  | _ => ("CachehallDesk$Snapshot", "wrong", "I", false)
def tyX5 : Nat → FieldType := fun k => match k with
  | 0 => .array .int
  | 1 => .array .int
  | 2 => .array .int
  | 3 => .array .int
  | 4 => .array .int
  | 5 => .array .int
  | 6 => .array .int
  | 7 => .array .int
  | 8 => .int
  | _ => .int
abbrev wsX50 : List Cond := u_ws RX5 TX5 10
theorem nmX5 : ∀ a, a < 10 → ∀ b, b < 10 → a ≠ b → (TX5 a).2.1 ≠ (TX5 b).2.1 := by decide +kernel
theorem tyX5_ok : ∀ k, k < 10 → parseFieldDescriptor (TX5 k).2.2.1 = some (tyX5 k) := by decide +kernel
abbrev cX5_init : ByteArray := prog_7_method_1_code
def yX5_init : MethodName := ⟨RX5, "<init>", "()V"⟩
abbrev cX5_take : ByteArray := prog_7_method_2_code
def yX5_take : MethodName := ⟨RX5, "take", "(LCachehallDesk$Plan;LCachehallDesk$Crew;LCachehallDesk$Teams;LCachehallDesk$Cache;)V"⟩
abbrev cX5_putBack : ByteArray := prog_7_method_3_code
def yX5_putBack : MethodName := ⟨RX5, "putBack", "(LCachehallDesk$Plan;LCachehallDesk$Crew;LCachehallDesk$Teams;LCachehallDesk$Cache;)V"⟩
def RX6 : String := "CachehallDesk$Teams"
def TX6 : u_T := fun k => match k with
  | 0 => ("CachehallDesk$Teams", "count", "I", false)
  | 1 => ("CachehallDesk$Teams", "quota", "[I", true)
  | 2 => ("CachehallDesk$Teams", "saved", "[I", true)
  | _ => ("CachehallDesk$Teams", "builds", "[I", true)
def tyX6 : Nat → FieldType := fun k => match k with
  | 0 => .int
  | 1 => .array .int
  | 2 => .array .int
  | _ => .array .int
abbrev wsX60 : List Cond := u_ws RX6 TX6 4
theorem nmX6 : ∀ a, a < 4 → ∀ b, b < 4 → a ≠ b → (TX6 a).2.1 ≠ (TX6 b).2.1 := by decide +kernel
theorem tyX6_ok : ∀ k, k < 4 → parseFieldDescriptor (TX6 k).2.2.1 = some (tyX6 k) := by decide +kernel
abbrev cX6_init : ByteArray := prog_8_method_1_code
def yX6_init : MethodName := ⟨RX6, "<init>", "()V"⟩
def RX7 : String := "CachehallDesk"
def TX7 : u_T := fun k => match k with
  | 0 => ("CachehallDesk", "builder", "LCachehallDesk$Builder;", true)
  | 1 => ("CachehallDesk", "plan", "LCachehallDesk$Plan;", true)
  | 2 => ("CachehallDesk", "crew", "LCachehallDesk$Crew;", true)
  | 3 => ("CachehallDesk", "teams", "LCachehallDesk$Teams;", true)
  | _ => ("CachehallDesk", "cache", "LCachehallDesk$Cache;", true)
def tyX7 : Nat → FieldType := fun k => match k with
  | 0 => .object "CachehallDesk$Builder"
  | 1 => .object "CachehallDesk$Plan"
  | 2 => .object "CachehallDesk$Crew"
  | 3 => .object "CachehallDesk$Teams"
  | _ => .object "CachehallDesk$Cache"
abbrev wsX70 : List Cond := u_ws RX7 TX7 5
theorem nmX7 : ∀ a, a < 5 → ∀ b, b < 5 → a ≠ b → (TX7 a).2.1 ≠ (TX7 b).2.1 := by decide +kernel
theorem tyX7_ok : ∀ k, k < 5 → parseFieldDescriptor (TX7 k).2.2.1 = some (tyX7 k) := by decide +kernel
abbrev cX7_init : ByteArray := prog_1_method_1_code
def yX7_init : MethodName := ⟨RX7, "<init>", "()V"⟩
abbrev cX7_action : ByteArray := prog_1_method_2_code
def yX7_action : MethodName := ⟨RX7, "action", "(IIIIII)I"⟩
abbrev cX7_file : ByteArray := prog_1_method_3_code
def yX7_file : MethodName := ⟨RX7, "file", "(II)I"⟩
abbrev cX7_set : ByteArray := prog_1_method_4_code
def yX7_set : MethodName := ⟨RX7, "set", "(II)I"⟩
abbrev cX7_ofAction : ByteArray := prog_1_method_5_code
def yX7_ofAction : MethodName := ⟨RX7, "ofAction", "(II)I"⟩
abbrev cX7_worker : ByteArray := prog_1_method_6_code
def yX7_worker : MethodName := ⟨RX7, "worker", "(I)I"⟩
abbrev cX7_ofWorker : ByteArray := prog_1_method_7_code
def yX7_ofWorker : MethodName := ⟨RX7, "ofWorker", "(II)I"⟩
abbrev cX7_mend : ByteArray := prog_1_method_8_code
def yX7_mend : MethodName := ⟨RX7, "mend", "(II)I"⟩
abbrev cX7_team : ByteArray := prog_1_method_9_code
def yX7_team : MethodName := ⟨RX7, "team", "(I)I"⟩
abbrev cX7_quota : ByteArray := prog_1_method_10_code
def yX7_quota : MethodName := ⟨RX7, "quota", "(II)I"⟩
abbrev cX7_ofTeam : ByteArray := prog_1_method_11_code
def yX7_ofTeam : MethodName := ⟨RX7, "ofTeam", "(II)I"⟩
abbrev cX7_build : ByteArray := prog_1_method_12_code
def yX7_build : MethodName := ⟨RX7, "build", "(II)I"⟩
abbrev cX7_check : ByteArray := prog_1_method_13_code
def yX7_check : MethodName := ⟨RX7, "check", "(I)I"⟩
abbrev cX7_recheck : ByteArray := prog_1_method_14_code
def yX7_recheck : MethodName := ⟨RX7, "recheck", "(I)I"⟩
abbrev cX7_ofEntry : ByteArray := prog_1_method_15_code
def yX7_ofEntry : MethodName := ⟨RX7, "ofEntry", "(II)I"⟩
abbrev cX7_from : ByteArray := prog_1_method_16_code
def yX7_from : MethodName := ⟨RX7, "from", "(II)I"⟩
abbrev cX7_many : ByteArray := prog_1_method_17_code
def yX7_many : MethodName := ⟨RX7, "many", "(I)I"⟩
abbrev cX7_hitShare : ByteArray := prog_1_method_18_code
def yX7_hitShare : MethodName := ⟨RX7, "hitShare", "()D"⟩
abbrev cX7_wouldRun : ByteArray := prog_1_method_19_code
def yX7_wouldRun : MethodName := ⟨RX7, "wouldRun", "(II)I"⟩
abbrev cX7_wouldBeWrong : ByteArray := prog_1_method_20_code
def yX7_wouldBeWrong : MethodName := ⟨RX7, "wouldBeWrong", "(II)Z"⟩
abbrev cX7_touched : ByteArray := prog_1_method_21_code
def yX7_touched : MethodName := ⟨RX7, "touched", "(I)I"⟩
abbrev cX7_wouldGo : ByteArray := prog_1_method_22_code
def yX7_wouldGo : MethodName := ⟨RX7, "wouldGo", "(II)I"⟩
abbrev cX7_digest : ByteArray := prog_1_method_23_code
def yX7_digest : MethodName := ⟨RX7, "digest", "()J"⟩
abbrev cX7_needIndex : ByteArray := prog_1_method_24_code
def yX7_needIndex : MethodName := ⟨RX7, "needIndex", "(II)V"⟩
abbrev cX7_needArgument : ByteArray := prog_1_method_25_code
def yX7_needArgument : MethodName := ⟨RX7, "needArgument", "(Z)V"⟩
abbrev cX7_needState : ByteArray := prog_1_method_26_code
def yX7_needState : MethodName := ⟨RX7, "needState", "(Z)V"⟩
abbrev cX7_isWithin : ByteArray := prog_1_method_27_code
def yX7_isWithin : MethodName := ⟨RX7, "isWithin", "(III)Z"⟩
abbrev cX7_isIndex : ByteArray := prog_1_method_28_code
def yX7_isIndex : MethodName := ⟨RX7, "isIndex", "(II)Z"⟩
abbrev cX7_isPartOf : ByteArray := prog_1_method_29_code
def yX7_isPartOf : MethodName := ⟨RX7, "isPartOf", "(II)Z"⟩
abbrev cX7_has : ByteArray := prog_1_method_30_code
def yX7_has : MethodName := ⟨RX7, "has", "(JI)Z"⟩
abbrev cX7_weigh : ByteArray := prog_1_method_31_code
def yX7_weigh : MethodName := ⟨RX7, "weigh", "(I[II)I"⟩
def RX8 : String := "CachehallDeskModel$Action"
def TX8 : u_T := fun k => match k with
  | 0 => ("CachehallDeskModel$Action", "number", "I", true)
  | 1 => ("CachehallDeskModel$Action", "files", "I", true)
  | 2 => ("CachehallDeskModel$Action", "actions", "I", true)
  | 3 => ("CachehallDeskModel$Action", "settings", "I", true)
  | 4 => ("CachehallDeskModel$Action", "out", "I", false)
  | 5 => ("CachehallDeskModel$Action", "cost", "I", true)
  | _ => ("CachehallDeskModel$Action", "size", "I", true)
def tyX8 : Nat → FieldType := fun k => match k with
  | 0 => .int
  | 1 => .int
  | 2 => .int
  | 3 => .int
  | 4 => .int
  | 5 => .int
  | _ => .int
abbrev wsX80 : List Cond := u_ws RX8 TX8 7
theorem nmX8 : ∀ a, a < 7 → ∀ b, b < 7 → a ≠ b → (TX8 a).2.1 ≠ (TX8 b).2.1 := by decide +kernel
theorem tyX8_ok : ∀ k, k < 7 → parseFieldDescriptor (TX8 k).2.2.1 = some (tyX8 k) := by decide +kernel
abbrev cX8_init : ByteArray := prog_11_method_1_code
def yX8_init : MethodName := ⟨RX8, "<init>", "(IIIIIII)V"⟩
def RX9 : String := "CachehallDeskModel$Entry"
def TX9 : u_T := fun k => match k with
  | 0 => ("CachehallDeskModel$Entry", "action", "LCachehallDeskModel$Action;", true)
  | 1 => ("CachehallDeskModel$Entry", "worker", "I", true)
  | 2 => ("CachehallDeskModel$Entry", "team", "I", true)
  | 3 => ("CachehallDeskModel$Entry", "print", "I", true)
  | 4 => ("CachehallDeskModel$Entry", "reading", "LCachehallDeskModel$Reading;", true)
  | 5 => ("CachehallDeskModel$Entry", "inKey", "I", true)
  | 6 => ("CachehallDeskModel$Entry", "hits", "I", false)
  | _ => ("CachehallDeskModel$Entry", "state", "I", false)
def tyX9 : Nat → FieldType := fun k => match k with
  | 0 => .object "CachehallDeskModel$Action"
  | 1 => .int
  | 2 => .int
  | 3 => .int
  | 4 => .object "CachehallDeskModel$Reading"
  | 5 => .int
  | 6 => .int
  | _ => .int
abbrev wsX90 : List Cond := u_ws RX9 TX9 8
theorem nmX9 : ∀ a, a < 8 → ∀ b, b < 8 → a ≠ b → (TX9 a).2.1 ≠ (TX9 b).2.1 := by decide +kernel
theorem tyX9_ok : ∀ k, k < 8 → parseFieldDescriptor (TX9 k).2.2.1 = some (tyX9 k) := by decide +kernel
abbrev cX9_init : ByteArray := prog_12_method_1_code
def yX9_init : MethodName := ⟨RX9, "<init>", "(LCachehallDeskModel$Action;IIILCachehallDeskModel$Reading;)V"⟩
abbrev cX9_copy : ByteArray := prog_12_method_2_code
def yX9_copy : MethodName := ⟨RX9, "copy", "(LCachehallDeskModel$Action;)LCachehallDeskModel$Entry;"⟩
abbrev cX9_init_ : ByteArray := prog_12_method_3_code
def yX9_init_ : MethodName := ⟨RX9, "<init>", "(LCachehallDeskModel$Action;IIILCachehallDeskModel$Reading;I)V"⟩
abbrev cX9_isLike : ByteArray := prog_12_method_4_code
def yX9_isLike : MethodName := ⟨RX9, "isLike", "(LCachehallDeskModel$Reading;)Z"⟩
abbrev cX9_worth : ByteArray := prog_12_method_5_code
def yX9_worth : MethodName := ⟨RX9, "worth", "()I"⟩
def RX10 : String := "CachehallDeskModel$Hall"
def TX10 : u_T := fun k => match k with
  | 0 => ("CachehallDeskModel$Hall", "actions", "Ljava/util/ArrayList;", true)
  | 1 => ("CachehallDeskModel$Hall", "contents", "[I", true)
  | 2 => ("CachehallDeskModel$Hall", "values", "[I", true)
  | 3 => ("CachehallDeskModel$Hall", "workers", "Ljava/util/ArrayList;", true)
  | 4 => ("CachehallDeskModel$Hall", "teams", "Ljava/util/ArrayList;", true)
  | 5 => ("CachehallDeskModel$Hall", "entries", "Ljava/util/ArrayList;", true)
  | 6 => ("CachehallDeskModel$Hall", "check", "I", false)
  | 7 => ("CachehallDeskModel$Hall", "hits", "I", false)
  | _ => ("CachehallDeskModel$Hall", "wrong", "I", false)
def tyX10 : Nat → FieldType := fun k => match k with
  | 0 => .object "java/util/ArrayList"
  | 1 => .array .int
  | 2 => .array .int
  | 3 => .object "java/util/ArrayList"
  | 4 => .object "java/util/ArrayList"
  | 5 => .object "java/util/ArrayList"
  | 6 => .int
  | 7 => .int
  | _ => .int
abbrev wsX100 : List Cond := u_ws RX10 TX10 9
theorem nmX10 : ∀ a, a < 9 → ∀ b, b < 9 → a ≠ b → (TX10 a).2.1 ≠ (TX10 b).2.1 := by decide +kernel
theorem tyX10_ok : ∀ k, k < 9 → parseFieldDescriptor (TX10 k).2.2.1 = some (tyX10 k) := by decide +kernel
abbrev cX10_init : ByteArray := prog_13_method_1_code
def yX10_init : MethodName := ⟨RX10, "<init>", "()V"⟩
abbrev cX10_copy : ByteArray := prog_13_method_2_code
def yX10_copy : MethodName := ⟨RX10, "copy", "()LCachehallDeskModel$Hall;"⟩
abbrev cX10_print : ByteArray := prog_13_method_3_code
def yX10_print : MethodName := ⟨RX10, "print", "(LCachehallDeskModel$Action;LCachehallDeskModel$Reading;)I"⟩
abbrev cX10_read : ByteArray := prog_13_method_4_code
def yX10_read : MethodName := ⟨RX10, "read", "(LCachehallDeskModel$Action;[I[I)LCachehallDeskModel$Reading;"⟩
abbrev cX10_chosen : ByteArray := prog_13_method_5_code
def yX10_chosen : MethodName := ⟨RX10, "chosen", "(I)I"⟩
abbrev cX10_run : ByteArray := prog_13_method_6_code
def yX10_run : MethodName := ⟨RX10, "run", "(ILCachehallDeskModel$Action;LCachehallDeskModel$Reading;)I"⟩
abbrev cX10_uses : ByteArray := prog_13_method_7_code
def yX10_uses : MethodName := ⟨RX10, "uses", "(I)I"⟩
abbrev cX10_shrink : ByteArray := prog_13_method_8_code
def yX10_shrink : MethodName := ⟨RX10, "shrink", "(II)I"⟩
abbrev cX10_isAdded : ByteArray := prog_13_method_9_code
def yX10_isAdded : MethodName := ⟨RX10, "isAdded", "(LCachehallDeskModel$Entry;)Z"⟩
abbrev cX10_cameOf : ByteArray := prog_13_method_10_code
def yX10_cameOf : MethodName := ⟨RX10, "cameOf", "(I)[Z"⟩
abbrev cX10_checked : ByteArray := prog_13_method_11_code
def yX10_checked : MethodName := ⟨RX10, "checked", "(ILCachehallDeskModel$Reading;I)I"⟩
abbrev cX10_whole : ByteArray := prog_13_method_12_code
def yX10_whole : MethodName := ⟨RX10, "whole", "(I)I"⟩
abbrev cX10_build : ByteArray := prog_13_method_13_code
def yX10_build : MethodName := ⟨RX10, "build", "(II)I"⟩
abbrev cX10_got : ByteArray := prog_13_method_14_code
def yX10_got : MethodName := ⟨RX10, "got", "(ILCachehallDeskModel$Action;LCachehallDeskModel$Reading;)I"⟩
abbrev cX10_would : ByteArray := prog_13_method_15_code
def yX10_would : MethodName := ⟨RX10, "would", "(I)I"⟩
abbrev cX10_runs : ByteArray := prog_13_method_16_code
def yX10_runs : MethodName := ⟨RX10, "runs", "()I"⟩
def RX11 : String := "CachehallDeskModel$Reading"
def TX11 : u_T := fun k => match k with
  | 0 => ("CachehallDeskModel$Reading", "contents", "[I", true)
  | 1 => ("CachehallDeskModel$Reading", "prints", "[I", true)
  | 2 => ("CachehallDeskModel$Reading", "from", "[I", true)
  | _ => ("CachehallDeskModel$Reading", "values", "[I", true)
def tyX11 : Nat → FieldType := fun k => match k with
  | 0 => .array .int
  | 1 => .array .int
  | 2 => .array .int
  | _ => .array .int
abbrev wsX110 : List Cond := u_ws RX11 TX11 4
theorem nmX11 : ∀ a, a < 4 → ∀ b, b < 4 → a ≠ b → (TX11 a).2.1 ≠ (TX11 b).2.1 := by decide +kernel
theorem tyX11_ok : ∀ k, k < 4 → parseFieldDescriptor (TX11 k).2.2.1 = some (tyX11 k) := by decide +kernel
abbrev cX11_init : ByteArray := prog_14_method_1_code
def yX11_init : MethodName := ⟨RX11, "<init>", "()V"⟩
def RX12 : String := "CachehallDeskModel$Team"
def TX12 : u_T := fun k => match k with
  | 0 => ("CachehallDeskModel$Team", "quota", "I", false)
  | 1 => ("CachehallDeskModel$Team", "saved", "I", false)
  | _ => ("CachehallDeskModel$Team", "builds", "I", false)
def tyX12 : Nat → FieldType := fun k => match k with
  | 0 => .int
  | 1 => .int
  | _ => .int
abbrev wsX120 : List Cond := u_ws RX12 TX12 3
theorem nmX12 : ∀ a, a < 3 → ∀ b, b < 3 → a ≠ b → (TX12 a).2.1 ≠ (TX12 b).2.1 := by decide +kernel
theorem tyX12_ok : ∀ k, k < 3 → parseFieldDescriptor (TX12 k).2.2.1 = some (tyX12 k) := by decide +kernel
abbrev cX12_init : ByteArray := prog_15_method_1_code
def yX12_init : MethodName := ⟨RX12, "<init>", "()V"⟩
def RX13 : String := "CachehallDeskModel$Worker"
def TX13 : u_T := fun k => match k with
  | 0 => ("CachehallDeskModel$Worker", "fault", "I", false)
  | 1 => ("CachehallDeskModel$Worker", "trust", "I", false)
  | 2 => ("CachehallDeskModel$Worker", "runs", "I", false)
  | 3 => ("CachehallDeskModel$Worker", "busy", "I", false)
  | _ => ("CachehallDeskModel$Worker", "checks", "I", false)
def tyX13 : Nat → FieldType := fun k => match k with
  | 0 => .int
  | 1 => .int
  | 2 => .int
  | 3 => .int
  | _ => .int
abbrev wsX130 : List Cond := u_ws RX13 TX13 5
theorem nmX13 : ∀ a, a < 5 → ∀ b, b < 5 → a ≠ b → (TX13 a).2.1 ≠ (TX13 b).2.1 := by decide +kernel
theorem tyX13_ok : ∀ k, k < 5 → parseFieldDescriptor (TX13 k).2.2.1 = some (tyX13 k) := by decide +kernel
abbrev cX13_init : ByteArray := prog_16_method_1_code
def yX13_init : MethodName := ⟨RX13, "<init>", "()V"⟩
def RX14 : String := "CachehallDeskModel"
def TX14 : u_T := fun k => match k with
  | 0 => ("CachehallDeskModel", "thrown", "I", false)
  | 1 => ("CachehallDeskModel", "hall", "LCachehallDeskModel$Hall;", false)
  | _ => ("CachehallDeskModel", "sum", "J", false)
def tyX14 : Nat → FieldType := fun k => match k with
  | 0 => .int
  | 1 => .object "CachehallDeskModel$Hall"
  | _ => .long
abbrev wsX140 : List Cond := u_ws RX14 TX14 3
theorem nmX14 : ∀ a, a < 3 → ∀ b, b < 3 → a ≠ b → (TX14 a).2.1 ≠ (TX14 b).2.1 := by decide +kernel
theorem tyX14_ok : ∀ k, k < 3 → parseFieldDescriptor (TX14 k).2.2.1 = some (tyX14 k) := by decide +kernel
abbrev cX14_init : ByteArray := prog_10_method_1_code
def yX14_init : MethodName := ⟨RX14, "<init>", "()V"⟩
abbrev cX14_thrown : ByteArray := prog_10_method_2_code
def yX14_thrown : MethodName := ⟨RX14, "thrown", "()I"⟩
abbrev cX14_refuse : ByteArray := prog_10_method_3_code
def yX14_refuse : MethodName := ⟨RX14, "refuse", "(I)I"⟩
abbrev cX14_is : ByteArray := prog_10_method_4_code
def yX14_is : MethodName := ⟨RX14, "is", "(III)Z"⟩
abbrev cX14_has : ByteArray := prog_10_method_5_code
def yX14_has : MethodName := ⟨RX14, "has", "(II)Z"⟩
abbrev cX14_isAction : ByteArray := prog_10_method_6_code
def yX14_isAction : MethodName := ⟨RX14, "isAction", "(I)Z"⟩
abbrev cX14_isWorker : ByteArray := prog_10_method_7_code
def yX14_isWorker : MethodName := ⟨RX14, "isWorker", "(I)Z"⟩
abbrev cX14_isTeam : ByteArray := prog_10_method_8_code
def yX14_isTeam : MethodName := ⟨RX14, "isTeam", "(I)Z"⟩
abbrev cX14_isEntry : ByteArray := prog_10_method_9_code
def yX14_isEntry : MethodName := ⟨RX14, "isEntry", "(I)Z"⟩
abbrev cX14_action : ByteArray := prog_10_method_10_code
def yX14_action : MethodName := ⟨RX14, "action", "(IIIIII)I"⟩
abbrev cX14_file : ByteArray := prog_10_method_11_code
def yX14_file : MethodName := ⟨RX14, "file", "(II)I"⟩
abbrev cX14_set : ByteArray := prog_10_method_12_code
def yX14_set : MethodName := ⟨RX14, "set", "(II)I"⟩
abbrev cX14_kept : ByteArray := prog_10_method_13_code
def yX14_kept : MethodName := ⟨RX14, "kept", "(II)I"⟩
abbrev cX14_ofActionNow : ByteArray := prog_10_method_14_code
def yX14_ofActionNow : MethodName := ⟨RX14, "ofActionNow", "(II)I"⟩
abbrev cX14_ofAction : ByteArray := prog_10_method_15_code
def yX14_ofAction : MethodName := ⟨RX14, "ofAction", "(II)I"⟩
abbrev cX14_worker : ByteArray := prog_10_method_16_code
def yX14_worker : MethodName := ⟨RX14, "worker", "(I)I"⟩
abbrev cX14_ofWorkerNow : ByteArray := prog_10_method_17_code
def yX14_ofWorkerNow : MethodName := ⟨RX14, "ofWorkerNow", "(II)I"⟩
abbrev cX14_ofWorker : ByteArray := prog_10_method_18_code
def yX14_ofWorker : MethodName := ⟨RX14, "ofWorker", "(II)I"⟩
abbrev cX14_mend : ByteArray := prog_10_method_19_code
def yX14_mend : MethodName := ⟨RX14, "mend", "(II)I"⟩
abbrev cX14_team : ByteArray := prog_10_method_20_code
def yX14_team : MethodName := ⟨RX14, "team", "(I)I"⟩
abbrev cX14_quota : ByteArray := prog_10_method_21_code
def yX14_quota : MethodName := ⟨RX14, "quota", "(II)I"⟩
abbrev cX14_ofTeamNow : ByteArray := prog_10_method_22_code
def yX14_ofTeamNow : MethodName := ⟨RX14, "ofTeamNow", "(II)I"⟩
abbrev cX14_ofTeam : ByteArray := prog_10_method_23_code
def yX14_ofTeam : MethodName := ⟨RX14, "ofTeam", "(II)I"⟩
abbrev cX14_build : ByteArray := prog_10_method_24_code
def yX14_build : MethodName := ⟨RX14, "build", "(II)I"⟩
abbrev cX14_check : ByteArray := prog_10_method_25_code
def yX14_check : MethodName := ⟨RX14, "check", "(I)I"⟩
abbrev cX14_isOther : ByteArray := prog_10_method_26_code
def yX14_isOther : MethodName := ⟨RX14, "isOther", "(LCachehallDeskModel$Entry;)Z"⟩
abbrev cX14_recheck : ByteArray := prog_10_method_27_code
def yX14_recheck : MethodName := ⟨RX14, "recheck", "(I)I"⟩
abbrev cX14_ofEntryNow : ByteArray := prog_10_method_28_code
def yX14_ofEntryNow : MethodName := ⟨RX14, "ofEntryNow", "(II)I"⟩
abbrev cX14_ofEntry : ByteArray := prog_10_method_29_code
def yX14_ofEntry : MethodName := ⟨RX14, "ofEntry", "(II)I"⟩
abbrev cX14_from : ByteArray := prog_10_method_30_code
def yX14_from : MethodName := ⟨RX14, "from", "(II)I"⟩
abbrev cX14_manyNow : ByteArray := prog_10_method_31_code
def yX14_manyNow : MethodName := ⟨RX14, "manyNow", "(I)I"⟩
abbrev cX14_many : ByteArray := prog_10_method_32_code
def yX14_many : MethodName := ⟨RX14, "many", "(I)I"⟩
abbrev cX14_hitShare : ByteArray := prog_10_method_33_code
def yX14_hitShare : MethodName := ⟨RX14, "hitShare", "()D"⟩
abbrev cX14_wouldRunNow : ByteArray := prog_10_method_34_code
def yX14_wouldRunNow : MethodName := ⟨RX14, "wouldRunNow", "(II)I"⟩
abbrev cX14_wouldRun : ByteArray := prog_10_method_35_code
def yX14_wouldRun : MethodName := ⟨RX14, "wouldRun", "(II)I"⟩
abbrev cX14_wouldBeWrong : ByteArray := prog_10_method_36_code
def yX14_wouldBeWrong : MethodName := ⟨RX14, "wouldBeWrong", "(II)Z"⟩
abbrev cX14_touchedNow : ByteArray := prog_10_method_37_code
def yX14_touchedNow : MethodName := ⟨RX14, "touchedNow", "(I)I"⟩
abbrev cX14_touched : ByteArray := prog_10_method_38_code
def yX14_touched : MethodName := ⟨RX14, "touched", "(I)I"⟩
abbrev cX14_wouldGo : ByteArray := prog_10_method_39_code
def yX14_wouldGo : MethodName := ⟨RX14, "wouldGo", "(II)I"⟩
abbrev cX14_add : ByteArray := prog_10_method_40_code
def yX14_add : MethodName := ⟨RX14, "add", "(I)V"⟩
abbrev cX14_digest : ByteArray := prog_10_method_41_code
def yX14_digest : MethodName := ⟨RX14, "digest", "()J"⟩
def RJx145de : String := "java/io/Serializable"
def TJx145de : u_T := fun k => match k with
  | _ => ("", "", "", false)
def tyJx145de : Nat → FieldType := fun k => match k with
  | _ => .int
abbrev wsJx145de0 : List Cond := u_ws RJx145de TJx145de 0
theorem nmJx145de : ∀ a, a < 0 → ∀ b, b < 0 → a ≠ b → (TJx145de a).2.1 ≠ (TJx145de b).2.1 := by decide +kernel
theorem tyJx145de_ok : ∀ k, k < 0 → parseFieldDescriptor (TJx145de k).2.2.1 = some (tyJx145de k) := by decide +kernel
def RJx8e188 : String := "java/lang/Cloneable"
def TJx8e188 : u_T := fun k => match k with
  | _ => ("", "", "", false)
def tyJx8e188 : Nat → FieldType := fun k => match k with
  | _ => .int
abbrev wsJx8e1880 : List Cond := u_ws RJx8e188 TJx8e188 0
theorem nmJx8e188 : ∀ a, a < 0 → ∀ b, b < 0 → a ≠ b → (TJx8e188 a).2.1 ≠ (TJx8e188 b).2.1 := by decide +kernel
theorem tyJx8e188_ok : ∀ k, k < 0 → parseFieldDescriptor (TJx8e188 k).2.2.1 = some (tyJx8e188 k) := by decide +kernel
def RJxab1ab : String := "java/lang/Iterable"
def TJxab1ab : u_T := fun k => match k with
  | _ => ("", "", "", false)
def tyJxab1ab : Nat → FieldType := fun k => match k with
  | _ => .int
abbrev wsJxab1ab0 : List Cond := u_ws RJxab1ab TJxab1ab 0
theorem nmJxab1ab : ∀ a, a < 0 → ∀ b, b < 0 → a ≠ b → (TJxab1ab a).2.1 ≠ (TJxab1ab b).2.1 := by decide +kernel
theorem tyJxab1ab_ok : ∀ k, k < 0 → parseFieldDescriptor (TJxab1ab k).2.2.1 = some (tyJxab1ab k) := by decide +kernel
def RJ13 : String := "java/lang/Long"
def TJ13 : u_T := fun k => match k with
  | _ => ("", "", "", false)
def tyJ13 : Nat → FieldType := fun k => match k with
  | _ => .int
abbrev wsJ130 : List Cond := u_ws RJ13 TJ13 0
theorem nmJ13 : ∀ a, a < 0 → ∀ b, b < 0 → a ≠ b → (TJ13 a).2.1 ≠ (TJ13 b).2.1 := by decide +kernel
theorem tyJ13_ok : ∀ k, k < 0 → parseFieldDescriptor (TJ13 k).2.2.1 = some (tyJ13 k) := by decide +kernel
abbrev cJ13_bitCount_95d88 : ByteArray := prog_24_method_50_code
def yJ13_bitCount_95d88 : MethodName := ⟨RJ13, "bitCount", "(J)I"⟩
def RJ9 : String := "java/lang/Math"
def TJ9 : u_T := fun k => match k with
  | _ => ("", "", "", false)
def tyJ9 : Nat → FieldType := fun k => match k with
  | _ => .int
abbrev wsJ90 : List Cond := u_ws RJ9 TJ9 0
theorem nmJ9 : ∀ a, a < 0 → ∀ b, b < 0 → a ≠ b → (TJ9 a).2.1 ≠ (TJ9 b).2.1 := by decide +kernel
theorem tyJ9_ok : ∀ k, k < 0 → parseFieldDescriptor (TJ9 k).2.2.1 = some (tyJ9 k) := by decide +kernel
abbrev cJ9_max_7cf53 : ByteArray := prog_25_method_65_code
def yJ9_max_7cf53 : MethodName := ⟨RJ9, "max", "(II)I"⟩
abbrev cJ9_min_7cf53 : ByteArray := prog_25_method_69_code
def yJ9_min_7cf53 : MethodName := ⟨RJ9, "min", "(II)I"⟩
def RJ0 : String := "java/lang/String"
def TJ0 : u_T := fun k => match k with
  | _ => ("", "", "", false)
def tyJ0 : Nat → FieldType := fun k => match k with
  | _ => .int
abbrev wsJ00 : List Cond := u_ws RJ0 TJ0 0
theorem nmJ0 : ∀ a, a < 0 → ∀ b, b < 0 → a ≠ b → (TJ0 a).2.1 ≠ (TJ0 b).2.1 := by decide +kernel
theorem tyJ0_ok : ∀ k, k < 0 → parseFieldDescriptor (TJ0 k).2.2.1 = some (tyJ0 k) := by decide +kernel
def RJ10 : String := "java/lang/System"
def TJ10 : u_T := fun k => match k with
  | _ => ("", "", "", false)
def tyJ10 : Nat → FieldType := fun k => match k with
  | _ => .int
abbrev wsJ100 : List Cond := u_ws RJ10 TJ10 0
theorem nmJ10 : ∀ a, a < 0 → ∀ b, b < 0 → a ≠ b → (TJ10 a).2.1 ≠ (TJ10 b).2.1 := by decide +kernel
theorem tyJ10_ok : ∀ k, k < 0 → parseFieldDescriptor (TJ10 k).2.2.1 = some (tyJ10 k) := by decide +kernel
def RJxa1e45 : String := "java/util/AbstractCollection"
def TJxa1e45 : u_T := fun k => match k with
  | _ => ("", "", "", false)
def tyJxa1e45 : Nat → FieldType := fun k => match k with
  | _ => .int
abbrev wsJxa1e450 : List Cond := u_ws RJxa1e45 TJxa1e45 0
theorem nmJxa1e45 : ∀ a, a < 0 → ∀ b, b < 0 → a ≠ b → (TJxa1e45 a).2.1 ≠ (TJxa1e45 b).2.1 := by decide +kernel
theorem tyJxa1e45_ok : ∀ k, k < 0 → parseFieldDescriptor (TJxa1e45 k).2.2.1 = some (tyJxa1e45 k) := by decide +kernel
abbrev cJxa1e45_init_da8c8 : ByteArray := prog_30_method_1_code
def yJxa1e45_init_da8c8 : MethodName := ⟨RJxa1e45, "<init>", "()V"⟩
def RJxc12de : String := "java/util/AbstractList"
def TJxc12de : u_T := fun k => match k with
  | _ => ("", "", "", false)
def tyJxc12de : Nat → FieldType := fun k => match k with
  | _ => .int
abbrev wsJxc12de0 : List Cond := u_ws RJxc12de TJxc12de 0
theorem nmJxc12de : ∀ a, a < 0 → ∀ b, b < 0 → a ≠ b → (TJxc12de a).2.1 ≠ (TJxc12de b).2.1 := by decide +kernel
theorem tyJxc12de_ok : ∀ k, k < 0 → parseFieldDescriptor (TJxc12de k).2.2.1 = some (tyJxc12de k) := by decide +kernel
abbrev cJxc12de_init_da8c8 : ByteArray := prog_31_method_1_code
def yJxc12de_init_da8c8 : MethodName := ⟨RJxc12de, "<init>", "()V"⟩
def RJx35411 : String := "java/util/ArrayList$Itr"
def TJx35411 : u_T := fun k => match k with
  | 0 => ("java/util/ArrayList$Itr", "cursor", "I", false)
  | 1 => ("java/util/ArrayList$Itr", "lastRet", "I", false)
  | 2 => ("java/util/ArrayList$Itr", "expectedModCount", "I", false)
  | _ => ("java/util/ArrayList$Itr", "this$0", "Ljava/util/ArrayList;", true)
def tyJx35411 : Nat → FieldType := fun k => match k with
  | 0 => .int
  | 1 => .int
  | 2 => .int
  | _ => .object "java/util/ArrayList"
abbrev wsJx354110 : List Cond := u_ws RJx35411 TJx35411 4
theorem nmJx35411 : ∀ a, a < 4 → ∀ b, b < 4 → a ≠ b → (TJx35411 a).2.1 ≠ (TJx35411 b).2.1 := by decide +kernel
theorem tyJx35411_ok : ∀ k, k < 4 → parseFieldDescriptor (TJx35411 k).2.2.1 = some (tyJx35411 k) := by decide +kernel
abbrev cJx35411_init_45d68 : ByteArray := prog_33_method_1_code
def yJx35411_init_45d68 : MethodName := ⟨RJx35411, "<init>", "(Ljava/util/ArrayList;)V"⟩
abbrev cJx35411_hasNext_aae02 : ByteArray := prog_33_method_2_code
def yJx35411_hasNext_aae02 : MethodName := ⟨RJx35411, "hasNext", "()Z"⟩
abbrev cJx35411_next_0502b : ByteArray := prog_33_method_3_code
def yJx35411_next_0502b : MethodName := ⟨RJx35411, "next", "()Ljava/lang/Object;"⟩
abbrev cJx35411_checkForComodification_da8c8 : ByteArray := prog_33_method_6_code
def yJx35411_checkForComodification_da8c8 : MethodName := ⟨RJx35411, "checkForComodification", "()V"⟩
def RJx4a65c : String := "java/util/ArrayList"
def TJx4a65c : u_T := fun k => match k with
  | 0 => ("java/util/AbstractList", "modCount", "I", false)
  | 1 => ("java/util/ArrayList", "elementData", "[Ljava/lang/Object;", false)
  | _ => ("java/util/ArrayList", "size", "I", false)
def tyJx4a65c : Nat → FieldType := fun k => match k with
  | 0 => .int
  | 1 => .array (.object "java/lang/Object")
  | _ => .int
abbrev wsJx4a65c0 : List Cond := u_ws RJx4a65c TJx4a65c 3
theorem nmJx4a65c : ∀ a, a < 3 → ∀ b, b < 3 → a ≠ b → (TJx4a65c a).2.1 ≠ (TJx4a65c b).2.1 := by decide +kernel
theorem tyJx4a65c_ok : ∀ k, k < 3 → parseFieldDescriptor (TJx4a65c k).2.2.1 = some (tyJx4a65c k) := by decide +kernel
abbrev cJx4a65c_init_da8c8 : ByteArray := prog_32_method_2_code
def yJx4a65c_init_da8c8 : MethodName := ⟨RJx4a65c, "<init>", "()V"⟩
abbrev cJx4a65c_grow_92f84 : ByteArray := prog_32_method_6_code
def yJx4a65c_grow_92f84 : MethodName := ⟨RJx4a65c, "grow", "(I)[Ljava/lang/Object;"⟩
abbrev cJx4a65c_grow_d5877 : ByteArray := prog_32_method_7_code
def yJx4a65c_grow_d5877 : MethodName := ⟨RJx4a65c, "grow", "()[Ljava/lang/Object;"⟩
abbrev cJx4a65c_size_8abf5 : ByteArray := prog_32_method_8_code
def yJx4a65c_size_8abf5 : MethodName := ⟨RJx4a65c, "size", "()I"⟩
abbrev cJx4a65c_elementData_915e3 : ByteArray := prog_32_method_18_code
def yJx4a65c_elementData_915e3 : MethodName := ⟨RJx4a65c, "elementData", "(I)Ljava/lang/Object;"⟩
abbrev cJx4a65c_get_915e3 : ByteArray := prog_32_method_20_code
def yJx4a65c_get_915e3 : MethodName := ⟨RJx4a65c, "get", "(I)Ljava/lang/Object;"⟩
abbrev cJx4a65c_add_72be8 : ByteArray := prog_32_method_24_code
def yJx4a65c_add_72be8 : MethodName := ⟨RJx4a65c, "add", "(Ljava/lang/Object;[Ljava/lang/Object;I)V"⟩
abbrev cJx4a65c_add_9ea2d : ByteArray := prog_32_method_25_code
def yJx4a65c_add_9ea2d : MethodName := ⟨RJx4a65c, "add", "(Ljava/lang/Object;)Z"⟩
abbrev cJx4a65c_iterator_32c93 : ByteArray := prog_32_method_55_code
def yJx4a65c_iterator_32c93 : MethodName := ⟨RJx4a65c, "iterator", "()Ljava/util/Iterator;"⟩
def RJ7 : String := "java/util/Arrays"
def TJ7 : u_T := fun k => match k with
  | _ => ("", "", "", false)
def tyJ7 : Nat → FieldType := fun k => match k with
  | _ => .int
abbrev wsJ70 : List Cond := u_ws RJ7 TJ7 0
theorem nmJ7 : ∀ a, a < 0 → ∀ b, b < 0 → a ≠ b → (TJ7 a).2.1 ≠ (TJ7 b).2.1 := by decide +kernel
theorem tyJ7_ok : ∀ k, k < 0 → parseFieldDescriptor (TJ7 k).2.2.1 = some (tyJ7 k) := by decide +kernel
abbrev cJ7_copyOf_1904c : ByteArray := prog_34_method_119_code
def yJ7_copyOf_1904c : MethodName := ⟨RJ7, "copyOf", "([Ljava/lang/Object;I)[Ljava/lang/Object;"⟩
abbrev cJ7_copyOf_6403c : ByteArray := prog_34_method_120_code
def yJ7_copyOf_6403c : MethodName := ⟨RJ7, "copyOf", "([Ljava/lang/Object;ILjava/lang/Class;)[Ljava/lang/Object;"⟩
def RJx5ef63 : String := "java/util/Collection"
def TJx5ef63 : u_T := fun k => match k with
  | _ => ("", "", "", false)
def tyJx5ef63 : Nat → FieldType := fun k => match k with
  | _ => .int
abbrev wsJx5ef630 : List Cond := u_ws RJx5ef63 TJx5ef63 0
theorem nmJx5ef63 : ∀ a, a < 0 → ∀ b, b < 0 → a ≠ b → (TJx5ef63 a).2.1 ≠ (TJx5ef63 b).2.1 := by decide +kernel
theorem tyJx5ef63_ok : ∀ k, k < 0 → parseFieldDescriptor (TJx5ef63 k).2.2.1 = some (tyJx5ef63 k) := by decide +kernel
def RJx4d0d8 : String := "java/util/Iterator"
def TJx4d0d8 : u_T := fun k => match k with
  | _ => ("", "", "", false)
def tyJx4d0d8 : Nat → FieldType := fun k => match k with
  | _ => .int
abbrev wsJx4d0d80 : List Cond := u_ws RJx4d0d8 TJx4d0d8 0
theorem nmJx4d0d8 : ∀ a, a < 0 → ∀ b, b < 0 → a ≠ b → (TJx4d0d8 a).2.1 ≠ (TJx4d0d8 b).2.1 := by decide +kernel
theorem tyJx4d0d8_ok : ∀ k, k < 0 → parseFieldDescriptor (TJx4d0d8 k).2.2.1 = some (tyJx4d0d8 k) := by decide +kernel
def RJxbd725 : String := "java/util/List"
def TJxbd725 : u_T := fun k => match k with
  | _ => ("", "", "", false)
def tyJxbd725 : Nat → FieldType := fun k => match k with
  | _ => .int
abbrev wsJxbd7250 : List Cond := u_ws RJxbd725 TJxbd725 0
theorem nmJxbd725 : ∀ a, a < 0 → ∀ b, b < 0 → a ≠ b → (TJxbd725 a).2.1 ≠ (TJxbd725 b).2.1 := by decide +kernel
theorem tyJxbd725_ok : ∀ k, k < 0 → parseFieldDescriptor (TJxbd725 k).2.2.1 = some (tyJxbd725 k) := by decide +kernel
def RJ15 : String := "java/util/Objects"
def TJ15 : u_T := fun k => match k with
  | _ => ("", "", "", false)
def tyJ15 : Nat → FieldType := fun k => match k with
  | _ => .int
abbrev wsJ150 : List Cond := u_ws RJ15 TJ15 0
theorem nmJ15 : ∀ a, a < 0 → ∀ b, b < 0 → a ≠ b → (TJ15 a).2.1 ≠ (TJ15 b).2.1 := by decide +kernel
theorem tyJ15_ok : ∀ k, k < 0 → parseFieldDescriptor (TJ15 k).2.2.1 = some (tyJ15 k) := by decide +kernel
abbrev cJ15_checkIndex_7cf53 : ByteArray := prog_38_method_17_code
def yJ15_checkIndex_7cf53 : MethodName := ⟨RJ15, "checkIndex", "(II)I"⟩
def RJxf0a74 : String := "java/util/RandomAccess"
def TJxf0a74 : u_T := fun k => match k with
  | _ => ("", "", "", false)
def tyJxf0a74 : Nat → FieldType := fun k => match k with
  | _ => .int
abbrev wsJxf0a740 : List Cond := u_ws RJxf0a74 TJxf0a74 0
theorem nmJxf0a74 : ∀ a, a < 0 → ∀ b, b < 0 → a ≠ b → (TJxf0a74 a).2.1 ≠ (TJxf0a74 b).2.1 := by decide +kernel
theorem tyJxf0a74_ok : ∀ k, k < 0 → parseFieldDescriptor (TJxf0a74 k).2.2.1 = some (tyJxf0a74 k) := by decide +kernel
def RJxa66e6 : String := "java/util/SequencedCollection"
def TJxa66e6 : u_T := fun k => match k with
  | _ => ("", "", "", false)
def tyJxa66e6 : Nat → FieldType := fun k => match k with
  | _ => .int
abbrev wsJxa66e60 : List Cond := u_ws RJxa66e6 TJxa66e6 0
theorem nmJxa66e6 : ∀ a, a < 0 → ∀ b, b < 0 → a ≠ b → (TJxa66e6 a).2.1 ≠ (TJxa66e6 b).2.1 := by decide +kernel
theorem tyJxa66e6_ok : ∀ k, k < 0 → parseFieldDescriptor (TJxa66e6 k).2.2.1 = some (tyJxa66e6 k) := by decide +kernel
def RJ8 : String := "jdk/internal/util/ArraysSupport"
def TJ8 : u_T := fun k => match k with
  | _ => ("", "", "", false)
def tyJ8 : Nat → FieldType := fun k => match k with
  | _ => .int
abbrev wsJ80 : List Cond := u_ws RJ8 TJ8 0
theorem nmJ8 : ∀ a, a < 0 → ∀ b, b < 0 → a ≠ b → (TJ8 a).2.1 ≠ (TJ8 b).2.1 := by decide +kernel
theorem tyJ8_ok : ∀ k, k < 0 → parseFieldDescriptor (TJ8 k).2.2.1 = some (tyJ8 k) := by decide +kernel
abbrev cJ8_newLength_cabcc : ByteArray := prog_41_method_27_code
def yJ8_newLength_cabcc : MethodName := ⟨RJ8, "newLength", "(III)I"⟩
abbrev cJ8_hugeLength_7cf53 : ByteArray := prog_41_method_28_code
def yJ8_hugeLength_7cf53 : MethodName := ⟨RJ8, "hugeLength", "(II)I"⟩
def RJ3 : String := "jdk/internal/util/Preconditions"
def TJ3 : u_T := fun k => match k with
  | _ => ("", "", "", false)
def tyJ3 : Nat → FieldType := fun k => match k with
  | _ => .int
abbrev wsJ30 : List Cond := u_ws RJ3 TJ3 0
theorem nmJ3 : ∀ a, a < 0 → ∀ b, b < 0 → a ≠ b → (TJ3 a).2.1 ≠ (TJ3 b).2.1 := by decide +kernel
theorem tyJ3_ok : ∀ k, k < 0 → parseFieldDescriptor (TJ3 k).2.2.1 = some (tyJ3 k) := by decide +kernel
abbrev cJ3_checkIndex_8e157 : ByteArray := prog_42_method_11_code
def yJ3_checkIndex_8e157 : MethodName := ⟨RJ3, "checkIndex", "(IILjava/util/function/BiFunction;)I"⟩
def RL : String := "CachehallDeskLaw"
abbrev cL_action : ByteArray := method_3_code
def yL_action : MethodName := ⟨RL, "action", "(LCachehallDesk;IIIIII[J)I"⟩
abbrev cL_file : ByteArray := method_4_code
def yL_file : MethodName := ⟨RL, "file", "(LCachehallDesk;II[J)I"⟩
abbrev cL_set : ByteArray := method_5_code
def yL_set : MethodName := ⟨RL, "set", "(LCachehallDesk;II[J)I"⟩
abbrev cL_ofAction : ByteArray := method_6_code
def yL_ofAction : MethodName := ⟨RL, "ofAction", "(LCachehallDesk;II[J)I"⟩
abbrev cL_worker : ByteArray := method_7_code
def yL_worker : MethodName := ⟨RL, "worker", "(LCachehallDesk;I[J)I"⟩
abbrev cL_ofWorker : ByteArray := method_8_code
def yL_ofWorker : MethodName := ⟨RL, "ofWorker", "(LCachehallDesk;II[J)I"⟩
abbrev cL_mend : ByteArray := method_9_code
def yL_mend : MethodName := ⟨RL, "mend", "(LCachehallDesk;II[J)I"⟩
abbrev cL_team : ByteArray := method_10_code
def yL_team : MethodName := ⟨RL, "team", "(LCachehallDesk;I[J)I"⟩
abbrev cL_quota : ByteArray := method_11_code
def yL_quota : MethodName := ⟨RL, "quota", "(LCachehallDesk;II[J)I"⟩
abbrev cL_ofTeam : ByteArray := method_12_code
def yL_ofTeam : MethodName := ⟨RL, "ofTeam", "(LCachehallDesk;II[J)I"⟩
abbrev cL_build : ByteArray := method_13_code
def yL_build : MethodName := ⟨RL, "build", "(LCachehallDesk;II[J)I"⟩
abbrev cL_check : ByteArray := method_14_code
def yL_check : MethodName := ⟨RL, "check", "(LCachehallDesk;I[J)I"⟩
abbrev cL_recheck : ByteArray := method_15_code
def yL_recheck : MethodName := ⟨RL, "recheck", "(LCachehallDesk;I[J)I"⟩
abbrev cL_ofEntry : ByteArray := method_16_code
def yL_ofEntry : MethodName := ⟨RL, "ofEntry", "(LCachehallDesk;II[J)I"⟩
abbrev cL_from : ByteArray := method_17_code
def yL_from : MethodName := ⟨RL, "from", "(LCachehallDesk;II[J)I"⟩
abbrev cL_many : ByteArray := method_18_code
def yL_many : MethodName := ⟨RL, "many", "(LCachehallDesk;I[J)I"⟩
abbrev cL_wouldRun : ByteArray := method_19_code
def yL_wouldRun : MethodName := ⟨RL, "wouldRun", "(LCachehallDesk;II[J)I"⟩
abbrev cL_wouldBeWrong : ByteArray := method_20_code
def yL_wouldBeWrong : MethodName := ⟨RL, "wouldBeWrong", "(LCachehallDesk;II[J)I"⟩
abbrev cL_touched : ByteArray := method_21_code
def yL_touched : MethodName := ⟨RL, "touched", "(LCachehallDesk;I[J)I"⟩
abbrev cL_wouldGo : ByteArray := method_22_code
def yL_wouldGo : MethodName := ⟨RL, "wouldGo", "(LCachehallDesk;II[J)I"⟩
abbrev cL_law : ByteArray := code
def yL_law : MethodName := ⟨RL, "law", "([I)Z"⟩
abbrev vwCl : List vw_C := [(RJx35411, TJx35411, 4), (RJx4a65c, TJx4a65c, 3), (RX0, TX0, 9), (RX1, TX1, 15), (RX2, TX2, 6), (RX3, TX3, 2), (RX4, TX4, 10), (RX5, TX5, 10), (RX6, TX6, 4), (RX7, TX7, 5), (RX8, TX8, 7), (RX9, TX9, 8), (RX10, TX10, 9), (RX11, TX11, 4), (RX12, TX12, 3), (RX13, TX13, 5), (RX14, TX14, 3)]
