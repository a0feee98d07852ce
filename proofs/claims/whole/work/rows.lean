section
/-! ===== BEGIN words of one list among another's, by their places ===== -/
theorem goodIn_r {big : List Cond} (ws : List Cond) (ps : List Nat) (hp : ws = ps.filterMap (fun i => big[i]?)) (h : ws.all goodWord = true) : GoodIn big ws := by
  intro w hw
  have h1 := List.all_eq_true.mp h w hw
  rw [hp] at hw
  obtain ⟨i, -, hi⟩ := List.mem_filterMap.mp hw
  have hm : w ∈ big := by first | exact List.mem_of_getElem? hi | exact List.getElem?_mem hi
  exact ⟨hm, good_of_word h1⟩
theorem goodIn_app {big a b : List Cond} (ha : GoodIn big a) (hb : GoodIn big b) : GoodIn big (a ++ b) := fun w h => (List.mem_append.mp h).elim (ha w) (hb w)
theorem goodIn_ca {big a b : List Cond} {c : Cond} (ha : GoodIn big (c :: a)) (hb : GoodIn big b) : GoodIn big (c :: (a ++ b)) := fun w h => (List.mem_cons.mp h).elim (fun e => ha w (List.mem_cons.mpr (Or.inl e))) (fun h => (List.mem_append.mp h).elim (fun h => ha w (List.mem_cons.mpr (Or.inr h))) (hb w))
theorem goodIn_sub {big ws : List Cond} (hm : ∀ w ∈ ws, w ∈ big) (h : ws.all goodWord = true) : GoodIn big ws := fun w hw => ⟨hm w hw, good_of_word (List.all_eq_true.mp h w hw)⟩
/-! ===== END ===== -/

/-! ===== BEGIN printed: names, fields, word lists, decode rows ===== -/
def RX0 : String := "SpeculativeScheduler$Attempts"
def TX0 : u_T := fun k => match k with
  | 0 => ("SpeculativeScheduler$Attempts", "count", "I", false)
  | 1 => ("SpeculativeScheduler$Attempts", "task", "[I", true)
  | 2 => ("SpeculativeScheduler$Attempts", "node", "[I", true)
  | 3 => ("SpeculativeScheduler$Attempts", "state", "[I", true)
  | 4 => ("SpeculativeScheduler$Attempts", "speculative", "[Z", true)
  | 5 => ("SpeculativeScheduler$Attempts", "age", "[I", true)
  | 6 => ("SpeculativeScheduler$Attempts", "done", "[I", true)
  | 7 => ("SpeculativeScheduler$Attempts", "progress", "[I", true)
  | 8 => ("SpeculativeScheduler$Attempts", "rate", "[I", true)
  | 9 => ("SpeculativeScheduler$Attempts", "running", "[I", true)
  | _ => ("SpeculativeScheduler$Attempts", "runningCount", "I", false)
def tyX0 : Nat → FieldType := fun k => match k with
  | 0 => .int
  | 1 => .array .int
  | 2 => .array .int
  | 3 => .array .int
  | 4 => .array .boolean
  | 5 => .array .int
  | 6 => .array .int
  | 7 => .array .int
  | 8 => .array .int
  | 9 => .array .int
  | _ => .int
abbrev wsX00 : List Cond := u_ws RX0 TX0 11
theorem nmX0 : ∀ a, a < 11 → ∀ b, b < 11 → a ≠ b → (TX0 a).2.1 ≠ (TX0 b).2.1 := by decide +kernel
theorem tyX0_ok : ∀ k, k < 11 → parseFieldDescriptor (TX0 k).2.2.1 = some (tyX0 k) := by decide +kernel
abbrev cX0_init : ByteArray := prog_2_method_1_code
def yX0_init : MethodName := ⟨RX0, "<init>", "()V"⟩
abbrev cX0_has : ByteArray := prog_2_method_2_code
def yX0_has : MethodName := ⟨RX0, "has", "(I)Z"⟩
abbrev cX0_clear : ByteArray := prog_2_method_3_code
def yX0_clear : MethodName := ⟨RX0, "clear", "()V"⟩
abbrev cX0_isFull : ByteArray := prog_2_method_4_code
def yX0_isFull : MethodName := ⟨RX0, "isFull", "()Z"⟩
abbrev cX0_add : ByteArray := prog_2_method_5_code
def yX0_add : MethodName := ⟨RX0, "add", "(IIZ)V"⟩
abbrev cX0_grow : ByteArray := prog_2_method_6_code
def yX0_grow : MethodName := ⟨RX0, "grow", "(III)V"⟩
abbrev cX0_dropEnded : ByteArray := prog_2_method_7_code
def yX0_dropEnded : MethodName := ⟨RX0, "dropEnded", "()V"⟩
abbrev cX0_remaining : ByteArray := prog_2_method_8_code
def yX0_remaining : MethodName := ⟨RX0, "remaining", "(I)I"⟩
abbrev cX0_meanOfRunning : ByteArray := prog_2_method_9_code
def yX0_meanOfRunning : MethodName := ⟨RX0, "meanOfRunning", "([I)I"⟩
abbrev cX0_countSpeculative : ByteArray := prog_2_method_10_code
def yX0_countSpeculative : MethodName := ⟨RX0, "countSpeculative", "()I"⟩
abbrev cX0_wasted : ByteArray := prog_2_method_11_code
def yX0_wasted : MethodName := ⟨RX0, "wasted", "()I"⟩
def RX1 : String := "SpeculativeScheduler$Cluster"
def TX1 : u_T := fun k => match k with
  | 0 => ("SpeculativeScheduler$Cluster", "settings", "LSpeculativeScheduler$Settings;", true)
  | 1 => ("SpeculativeScheduler$Cluster", "nodes", "LSpeculativeScheduler$Nodes;", true)
  | 2 => ("SpeculativeScheduler$Cluster", "tasks", "LSpeculativeScheduler$Tasks;", true)
  | 3 => ("SpeculativeScheduler$Cluster", "attempts", "LSpeculativeScheduler$Attempts;", true)
  | _ => ("SpeculativeScheduler$Cluster", "now", "I", false)
def tyX1 : Nat → FieldType := fun k => match k with
  | 0 => .object "SpeculativeScheduler$Settings"
  | 1 => .object "SpeculativeScheduler$Nodes"
  | 2 => .object "SpeculativeScheduler$Tasks"
  | 3 => .object "SpeculativeScheduler$Attempts"
  | _ => .int
abbrev wsX10 : List Cond := u_ws RX1 TX1 5
theorem nmX1 : ∀ a, a < 5 → ∀ b, b < 5 → a ≠ b → (TX1 a).2.1 ≠ (TX1 b).2.1 := by decide +kernel
theorem tyX1_ok : ∀ k, k < 5 → parseFieldDescriptor (TX1 k).2.2.1 = some (tyX1 k) := by decide +kernel
abbrev cX1_init : ByteArray := prog_3_method_1_code
def yX1_init : MethodName := ⟨RX1, "<init>", "()V"⟩
abbrev cX1_startAfresh : ByteArray := prog_3_method_2_code
def yX1_startAfresh : MethodName := ⟨RX1, "startAfresh", "(LSpeculativeScheduler$Cluster;I)V"⟩
abbrev cX1_runOneTick : ByteArray := prog_3_method_3_code
def yX1_runOneTick : MethodName := ⟨RX1, "runOneTick", "()I"⟩
abbrev cX1_startAttempts : ByteArray := prog_3_method_4_code
def yX1_startAttempts : MethodName := ⟨RX1, "startAttempts", "()V"⟩
abbrev cX1_taskToSpeculate : ByteArray := prog_3_method_5_code
def yX1_taskToSpeculate : MethodName := ⟨RX1, "taskToSpeculate", "(I)I"⟩
abbrev cX1_start : ByteArray := prog_3_method_6_code
def yX1_start : MethodName := ⟨RX1, "start", "(II)V"⟩
abbrev cX1_doWork : ByteArray := prog_3_method_7_code
def yX1_doWork : MethodName := ⟨RX1, "doWork", "()V"⟩
abbrev cX1_commitFinished : ByteArray := prog_3_method_8_code
def yX1_commitFinished : MethodName := ⟨RX1, "commitFinished", "()I"⟩
abbrev cX1_commit : ByteArray := prog_3_method_9_code
def yX1_commit : MethodName := ⟨RX1, "commit", "(II)V"⟩
abbrev cX1_loseAttemptsOn : ByteArray := prog_3_method_10_code
def yX1_loseAttemptsOn : MethodName := ⟨RX1, "loseAttemptsOn", "(I)I"⟩
abbrev cX1_end : ByteArray := prog_3_method_11_code
def yX1_end : MethodName := ⟨RX1, "end", "(II)V"⟩
abbrev cX1_findStraggler : ByteArray := prog_3_method_12_code
def yX1_findStraggler : MethodName := ⟨RX1, "findStraggler", "()I"⟩
abbrev cX1_isCandidate : ByteArray := prog_3_method_13_code
def yX1_isCandidate : MethodName := ⟨RX1, "isCandidate", "(I)Z"⟩
abbrev cX1_leastAdvanced : ByteArray := prog_3_method_14_code
def yX1_leastAdvanced : MethodName := ⟨RX1, "leastAdvanced", "()I"⟩
abbrev cX1_longestToRun : ByteArray := prog_3_method_15_code
def yX1_longestToRun : MethodName := ⟨RX1, "longestToRun", "()I"⟩
def RX2 : String := "SpeculativeScheduler$Nodes"
def TX2 : u_T := fun k => match k with
  | 0 => ("SpeculativeScheduler$Nodes", "count", "I", false)
  | 1 => ("SpeculativeScheduler$Nodes", "speed", "[I", true)
  | 2 => ("SpeculativeScheduler$Nodes", "slots", "[I", true)
  | 3 => ("SpeculativeScheduler$Nodes", "up", "[Z", true)
  | 4 => ("SpeculativeScheduler$Nodes", "busy", "[I", true)
  | 5 => ("SpeculativeScheduler$Nodes", "workSum", "[I", true)
  | _ => ("SpeculativeScheduler$Nodes", "ageSum", "[I", true)
def tyX2 : Nat → FieldType := fun k => match k with
  | 0 => .int
  | 1 => .array .int
  | 2 => .array .int
  | 3 => .array .boolean
  | 4 => .array .int
  | 5 => .array .int
  | _ => .array .int
abbrev wsX20 : List Cond := u_ws RX2 TX2 7
theorem nmX2 : ∀ a, a < 7 → ∀ b, b < 7 → a ≠ b → (TX2 a).2.1 ≠ (TX2 b).2.1 := by decide +kernel
theorem tyX2_ok : ∀ k, k < 7 → parseFieldDescriptor (TX2 k).2.2.1 = some (tyX2 k) := by decide +kernel
abbrev cX2_init : ByteArray := prog_4_method_1_code
def yX2_init : MethodName := ⟨RX2, "<init>", "()V"⟩
abbrev cX2_has : ByteArray := prog_4_method_2_code
def yX2_has : MethodName := ⟨RX2, "has", "(I)Z"⟩
abbrev cX2_add : ByteArray := prog_4_method_3_code
def yX2_add : MethodName := ⟨RX2, "add", "(II)I"⟩
abbrev cX2_copyUnused : ByteArray := prog_4_method_4_code
def yX2_copyUnused : MethodName := ⟨RX2, "copyUnused", "(LSpeculativeScheduler$Nodes;)V"⟩
abbrev cX2_hasFreeSlot : ByteArray := prog_4_method_5_code
def yX2_hasFreeSlot : MethodName := ⟨RX2, "hasFreeSlot", "(I)Z"⟩
abbrev cX2_score : ByteArray := prog_4_method_6_code
def yX2_score : MethodName := ⟨RX2, "score", "(I)I"⟩
abbrev cX2_isSlow : ByteArray := prog_4_method_7_code
def yX2_isSlow : MethodName := ⟨RX2, "isSlow", "(II)Z"⟩
abbrev cX2_meanScore : ByteArray := prog_4_method_8_code
def yX2_meanScore : MethodName := ⟨RX2, "meanScore", "()I"⟩
def RX3 : String := "SpeculativeScheduler$Settings"
def TX3 : u_T := fun k => match k with
  | 0 => ("SpeculativeScheduler$Settings", "policy", "I", false)
  | 1 => ("SpeculativeScheduler$Settings", "cap", "I", false)
  | 2 => ("SpeculativeScheduler$Settings", "minimumAge", "I", false)
  | 3 => ("SpeculativeScheduler$Settings", "taskThreshold", "I", false)
  | _ => ("SpeculativeScheduler$Settings", "nodeThreshold", "I", false)
def tyX3 : Nat → FieldType := fun k => match k with
  | 0 => .int
  | 1 => .int
  | 2 => .int
  | 3 => .int
  | _ => .int
abbrev wsX30 : List Cond := u_ws RX3 TX3 5
theorem nmX3 : ∀ a, a < 5 → ∀ b, b < 5 → a ≠ b → (TX3 a).2.1 ≠ (TX3 b).2.1 := by decide +kernel
theorem tyX3_ok : ∀ k, k < 5 → parseFieldDescriptor (TX3 k).2.2.1 = some (tyX3 k) := by decide +kernel
abbrev cX3_init : ByteArray := prog_5_method_1_code
def yX3_init : MethodName := ⟨RX3, "<init>", "()V"⟩
abbrev cX3_copyWithPolicy : ByteArray := prog_5_method_2_code
def yX3_copyWithPolicy : MethodName := ⟨RX3, "copyWithPolicy", "(LSpeculativeScheduler$Settings;I)V"⟩
def RX4 : String := "SpeculativeScheduler$Tasks"
def TX4 : u_T := fun k => match k with
  | 0 => ("SpeculativeScheduler$Tasks", "count", "I", false)
  | 1 => ("SpeculativeScheduler$Tasks", "work", "[I", true)
  | 2 => ("SpeculativeScheduler$Tasks", "runs", "[I", true)
  | 3 => ("SpeculativeScheduler$Tasks", "committed", "[I", true)
  | _ => ("SpeculativeScheduler$Tasks", "finish", "[I", true)
def tyX4 : Nat → FieldType := fun k => match k with
  | 0 => .int
  | 1 => .array .int
  | 2 => .array .int
  | 3 => .array .int
  | _ => .array .int
abbrev wsX40 : List Cond := u_ws RX4 TX4 5
theorem nmX4 : ∀ a, a < 5 → ∀ b, b < 5 → a ≠ b → (TX4 a).2.1 ≠ (TX4 b).2.1 := by decide +kernel
theorem tyX4_ok : ∀ k, k < 5 → parseFieldDescriptor (TX4 k).2.2.1 = some (tyX4 k) := by decide +kernel
abbrev cX4_init : ByteArray := prog_6_method_1_code
def yX4_init : MethodName := ⟨RX4, "<init>", "()V"⟩
abbrev cX4_has : ByteArray := prog_6_method_2_code
def yX4_has : MethodName := ⟨RX4, "has", "(I)Z"⟩
abbrev cX4_add : ByteArray := prog_6_method_3_code
def yX4_add : MethodName := ⟨RX4, "add", "(I)I"⟩
abbrev cX4_copyUnused : ByteArray := prog_6_method_4_code
def yX4_copyUnused : MethodName := ⟨RX4, "copyUnused", "(LSpeculativeScheduler$Tasks;)V"⟩
abbrev cX4_stateOf : ByteArray := prog_6_method_5_code
def yX4_stateOf : MethodName := ⟨RX4, "stateOf", "(I)I"⟩
abbrev cX4_firstWaiting : ByteArray := prog_6_method_6_code
def yX4_firstWaiting : MethodName := ⟨RX4, "firstWaiting", "()I"⟩
abbrev cX4_lastFinish : ByteArray := prog_6_method_7_code
def yX4_lastFinish : MethodName := ⟨RX4, "lastFinish", "()I"⟩
def RX5 : String := "SpeculativeScheduler"
def TX5 : u_T := fun k => match k with
  | 0 => ("SpeculativeScheduler", "live", "LSpeculativeScheduler$Cluster;", true)
  | _ => ("SpeculativeScheduler", "trial", "LSpeculativeScheduler$Cluster;", true)
def tyX5 : Nat → FieldType := fun k => match k with
  | 0 => .object "SpeculativeScheduler$Cluster"
  | _ => .object "SpeculativeScheduler$Cluster"
abbrev wsX50 : List Cond := u_ws RX5 TX5 2
theorem nmX5 : ∀ a, a < 2 → ∀ b, b < 2 → a ≠ b → (TX5 a).2.1 ≠ (TX5 b).2.1 := by decide +kernel
theorem tyX5_ok : ∀ k, k < 2 → parseFieldDescriptor (TX5 k).2.2.1 = some (tyX5 k) := by decide +kernel
abbrev cX5_init : ByteArray := prog_1_method_1_code
def yX5_init : MethodName := ⟨RX5, "<init>", "()V"⟩
abbrev cX5_addNode : ByteArray := prog_1_method_2_code
def yX5_addNode : MethodName := ⟨RX5, "addNode", "(II)I"⟩
abbrev cX5_setSpeed : ByteArray := prog_1_method_3_code
def yX5_setSpeed : MethodName := ⟨RX5, "setSpeed", "(II)I"⟩
abbrev cX5_failNode : ByteArray := prog_1_method_4_code
def yX5_failNode : MethodName := ⟨RX5, "failNode", "(I)I"⟩
abbrev cX5_repairNode : ByteArray := prog_1_method_5_code
def yX5_repairNode : MethodName := ⟨RX5, "repairNode", "(I)I"⟩
abbrev cX5_addTask : ByteArray := prog_1_method_6_code
def yX5_addTask : MethodName := ⟨RX5, "addTask", "(I)I"⟩
abbrev cX5_setPolicy : ByteArray := prog_1_method_7_code
def yX5_setPolicy : MethodName := ⟨RX5, "setPolicy", "(I)I"⟩
abbrev cX5_setLimits : ByteArray := prog_1_method_8_code
def yX5_setLimits : MethodName := ⟨RX5, "setLimits", "(II)I"⟩
abbrev cX5_setThresholds : ByteArray := prog_1_method_9_code
def yX5_setThresholds : MethodName := ⟨RX5, "setThresholds", "(II)I"⟩
abbrev cX5_tick : ByteArray := prog_1_method_10_code
def yX5_tick : MethodName := ⟨RX5, "tick", "(I)I"⟩
abbrev cX5_time : ByteArray := prog_1_method_11_code
def yX5_time : MethodName := ⟨RX5, "time", "()I"⟩
abbrev cX5_taskState : ByteArray := prog_1_method_12_code
def yX5_taskState : MethodName := ⟨RX5, "taskState", "(I)I"⟩
abbrev cX5_committedAttempt : ByteArray := prog_1_method_13_code
def yX5_committedAttempt : MethodName := ⟨RX5, "committedAttempt", "(I)I"⟩
abbrev cX5_finishTime : ByteArray := prog_1_method_14_code
def yX5_finishTime : MethodName := ⟨RX5, "finishTime", "(I)I"⟩
abbrev cX5_makespan : ByteArray := prog_1_method_15_code
def yX5_makespan : MethodName := ⟨RX5, "makespan", "()I"⟩
abbrev cX5_attemptCount : ByteArray := prog_1_method_16_code
def yX5_attemptCount : MethodName := ⟨RX5, "attemptCount", "()I"⟩
abbrev cX5_attemptTask : ByteArray := prog_1_method_17_code
def yX5_attemptTask : MethodName := ⟨RX5, "attemptTask", "(I)I"⟩
abbrev cX5_attemptNode : ByteArray := prog_1_method_18_code
def yX5_attemptNode : MethodName := ⟨RX5, "attemptNode", "(I)I"⟩
abbrev cX5_attemptState : ByteArray := prog_1_method_19_code
def yX5_attemptState : MethodName := ⟨RX5, "attemptState", "(I)I"⟩
abbrev cX5_isSpeculative : ByteArray := prog_1_method_20_code
def yX5_isSpeculative : MethodName := ⟨RX5, "isSpeculative", "(I)I"⟩
abbrev cX5_progress : ByteArray := prog_1_method_21_code
def yX5_progress : MethodName := ⟨RX5, "progress", "(I)I"⟩
abbrev cX5_remainingTime : ByteArray := prog_1_method_22_code
def yX5_remainingTime : MethodName := ⟨RX5, "remainingTime", "(I)I"⟩
abbrev cX5_nodeScore : ByteArray := prog_1_method_23_code
def yX5_nodeScore : MethodName := ⟨RX5, "nodeScore", "(I)I"⟩
abbrev cX5_isSlowNode : ByteArray := prog_1_method_24_code
def yX5_isSlowNode : MethodName := ⟨RX5, "isSlowNode", "(I)I"⟩
abbrev cX5_runningOn : ByteArray := prog_1_method_25_code
def yX5_runningOn : MethodName := ⟨RX5, "runningOn", "(I)I"⟩
abbrev cX5_straggler : ByteArray := prog_1_method_26_code
def yX5_straggler : MethodName := ⟨RX5, "straggler", "()I"⟩
abbrev cX5_runningSpeculative : ByteArray := prog_1_method_27_code
def yX5_runningSpeculative : MethodName := ⟨RX5, "runningSpeculative", "()I"⟩
abbrev cX5_wastedWork : ByteArray := prog_1_method_28_code
def yX5_wastedWork : MethodName := ⟨RX5, "wastedWork", "()I"⟩
abbrev cX5_simulatedMakespan : ByteArray := prog_1_method_29_code
def yX5_simulatedMakespan : MethodName := ⟨RX5, "simulatedMakespan", "(I)I"⟩
abbrev cX5_inRange : ByteArray := prog_1_method_30_code
def yX5_inRange : MethodName := ⟨RX5, "inRange", "(III)Z"⟩
abbrev cX5_isPolicy : ByteArray := prog_1_method_31_code
def yX5_isPolicy : MethodName := ⟨RX5, "isPolicy", "(I)Z"⟩
def RX6 : String := "SpeculativeSchedulerModel"
def TX6 : u_T := fun k => match k with
  | 0 => ("SpeculativeSchedulerModel", "nodes", "I", false)
  | 1 => ("SpeculativeSchedulerModel", "speedOf", "[I", true)
  | 2 => ("SpeculativeSchedulerModel", "slotsOf", "[I", true)
  | 3 => ("SpeculativeSchedulerModel", "isUp", "[Z", true)
  | 4 => ("SpeculativeSchedulerModel", "tasks", "I", false)
  | 5 => ("SpeculativeSchedulerModel", "workOf", "[I", true)
  | 6 => ("SpeculativeSchedulerModel", "policyNow", "I", false)
  | 7 => ("SpeculativeSchedulerModel", "cap", "I", false)
  | 8 => ("SpeculativeSchedulerModel", "minimumAge", "I", false)
  | 9 => ("SpeculativeSchedulerModel", "taskThreshold", "I", false)
  | 10 => ("SpeculativeSchedulerModel", "nodeThreshold", "I", false)
  | 11 => ("SpeculativeSchedulerModel", "side", "I", false)
  | 12 => ("SpeculativeSchedulerModel", "attempts", "[I", true)
  | 13 => ("SpeculativeSchedulerModel", "clock", "[I", true)
  | 14 => ("SpeculativeSchedulerModel", "taskOf", "[I", true)
  | 15 => ("SpeculativeSchedulerModel", "nodeOf", "[I", true)
  | 16 => ("SpeculativeSchedulerModel", "ageOf", "[I", true)
  | 17 => ("SpeculativeSchedulerModel", "doneOf", "[I", true)
  | 18 => ("SpeculativeSchedulerModel", "stateOf", "[I", true)
  | 19 => ("SpeculativeSchedulerModel", "isSecond", "[Z", true)
  | 20 => ("SpeculativeSchedulerModel", "commitOf", "[I", true)
  | 21 => ("SpeculativeSchedulerModel", "finishOf", "[I", true)
  | 22 => ("SpeculativeSchedulerModel", "runningOf", "[I", true)
  | 23 => ("SpeculativeSchedulerModel", "busyOf", "[I", true)
  | 24 => ("SpeculativeSchedulerModel", "agesOf", "[I", true)
  | _ => ("SpeculativeSchedulerModel", "worksOf", "[I", true)
def tyX6 : Nat → FieldType := fun k => match k with
  | 0 => .int
  | 1 => .array .int
  | 2 => .array .int
  | 3 => .array .boolean
  | 4 => .int
  | 5 => .array .int
  | 6 => .int
  | 7 => .int
  | 8 => .int
  | 9 => .int
  | 10 => .int
  | 11 => .int
  | 12 => .array .int
  | 13 => .array .int
  | 14 => .array .int
  | 15 => .array .int
  | 16 => .array .int
  | 17 => .array .int
  | 18 => .array .int
  | 19 => .array .boolean
  | 20 => .array .int
  | 21 => .array .int
  | 22 => .array .int
  | 23 => .array .int
  | 24 => .array .int
  | _ => .array .int
abbrev wsX60 : List Cond := u_ws RX6 TX6 26
theorem nmX6 : ∀ a, a < 26 → ∀ b, b < 26 → a ≠ b → (TX6 a).2.1 ≠ (TX6 b).2.1 := by decide +kernel
theorem tyX6_ok : ∀ k, k < 26 → parseFieldDescriptor (TX6 k).2.2.1 = some (tyX6 k) := by decide +kernel
abbrev cX6_init : ByteArray := prog_8_method_1_code
def yX6_init : MethodName := ⟨RX6, "<init>", "()V"⟩
abbrev cX6_within : ByteArray := prog_8_method_2_code
def yX6_within : MethodName := ⟨RX6, "within", "(III)Z"⟩
abbrev cX6_isNode : ByteArray := prog_8_method_3_code
def yX6_isNode : MethodName := ⟨RX6, "isNode", "(I)Z"⟩
abbrev cX6_isTask : ByteArray := prog_8_method_4_code
def yX6_isTask : MethodName := ⟨RX6, "isTask", "(I)Z"⟩
abbrev cX6_first : ByteArray := prog_8_method_5_code
def yX6_first : MethodName := ⟨RX6, "first", "()I"⟩
abbrev cX6_last : ByteArray := prog_8_method_6_code
def yX6_last : MethodName := ⟨RX6, "last", "()I"⟩
abbrev cX6_addNode : ByteArray := prog_8_method_7_code
def yX6_addNode : MethodName := ⟨RX6, "addNode", "(II)I"⟩
abbrev cX6_setSpeed : ByteArray := prog_8_method_8_code
def yX6_setSpeed : MethodName := ⟨RX6, "setSpeed", "(II)I"⟩
abbrev cX6_stops : ByteArray := prog_8_method_9_code
def yX6_stops : MethodName := ⟨RX6, "stops", "(II)V"⟩
abbrev cX6_failNode : ByteArray := prog_8_method_10_code
def yX6_failNode : MethodName := ⟨RX6, "failNode", "(I)I"⟩
abbrev cX6_repairNode : ByteArray := prog_8_method_11_code
def yX6_repairNode : MethodName := ⟨RX6, "repairNode", "(I)I"⟩
abbrev cX6_addTask : ByteArray := prog_8_method_12_code
def yX6_addTask : MethodName := ⟨RX6, "addTask", "(I)I"⟩
abbrev cX6_setPolicy : ByteArray := prog_8_method_13_code
def yX6_setPolicy : MethodName := ⟨RX6, "setPolicy", "(I)I"⟩
abbrev cX6_setLimits : ByteArray := prog_8_method_14_code
def yX6_setLimits : MethodName := ⟨RX6, "setLimits", "(II)I"⟩
abbrev cX6_setThresholds : ByteArray := prog_8_method_15_code
def yX6_setThresholds : MethodName := ⟨RX6, "setThresholds", "(II)I"⟩
abbrev cX6_progressOf : ByteArray := prog_8_method_16_code
def yX6_progressOf : MethodName := ⟨RX6, "progressOf", "(I)I"⟩
abbrev cX6_rateOf : ByteArray := prog_8_method_17_code
def yX6_rateOf : MethodName := ⟨RX6, "rateOf", "(I)I"⟩
abbrev cX6_remainingOf : ByteArray := prog_8_method_18_code
def yX6_remainingOf : MethodName := ⟨RX6, "remainingOf", "(I)I"⟩
abbrev cX6_scoreOf : ByteArray := prog_8_method_19_code
def yX6_scoreOf : MethodName := ⟨RX6, "scoreOf", "(I)I"⟩
abbrev cX6_meanRate : ByteArray := prog_8_method_20_code
def yX6_meanRate : MethodName := ⟨RX6, "meanRate", "()I"⟩
abbrev cX6_meanProgress : ByteArray := prog_8_method_21_code
def yX6_meanProgress : MethodName := ⟨RX6, "meanProgress", "()I"⟩
abbrev cX6_meanScore : ByteArray := prog_8_method_22_code
def yX6_meanScore : MethodName := ⟨RX6, "meanScore", "()I"⟩
abbrev cX6_isSlow : ByteArray := prog_8_method_23_code
def yX6_isSlow : MethodName := ⟨RX6, "isSlow", "(I)Z"⟩
abbrev cX6_isCandidate : ByteArray := prog_8_method_24_code
def yX6_isCandidate : MethodName := ⟨RX6, "isCandidate", "(I)Z"⟩
abbrev cX6_naiveStraggler : ByteArray := prog_8_method_25_code
def yX6_naiveStraggler : MethodName := ⟨RX6, "naiveStraggler", "()I"⟩
abbrev cX6_lateStraggler : ByteArray := prog_8_method_26_code
def yX6_lateStraggler : MethodName := ⟨RX6, "lateStraggler", "()I"⟩
abbrev cX6_stragglerBy : ByteArray := prog_8_method_27_code
def yX6_stragglerBy : MethodName := ⟨RX6, "stragglerBy", "(I)I"⟩
abbrev cX6_speculative : ByteArray := prog_8_method_28_code
def yX6_speculative : MethodName := ⟨RX6, "speculative", "()I"⟩
abbrev cX6_stateOfTask : ByteArray := prog_8_method_29_code
def yX6_stateOfTask : MethodName := ⟨RX6, "stateOfTask", "(I)I"⟩
abbrev cX6_firstWaiting : ByteArray := prog_8_method_30_code
def yX6_firstWaiting : MethodName := ⟨RX6, "firstWaiting", "()I"⟩
abbrev cX6_starts : ByteArray := prog_8_method_31_code
def yX6_starts : MethodName := ⟨RX6, "starts", "(II)V"⟩
abbrev cX6_startsOn : ByteArray := prog_8_method_32_code
def yX6_startsOn : MethodName := ⟨RX6, "startsOn", "(II)Z"⟩
abbrev cX6_hasSlot : ByteArray := prog_8_method_33_code
def yX6_hasSlot : MethodName := ⟨RX6, "hasSlot", "(I)Z"⟩
abbrev cX6_works : ByteArray := prog_8_method_34_code
def yX6_works : MethodName := ⟨RX6, "works", "()V"⟩
abbrev cX6_killsOther : ByteArray := prog_8_method_35_code
def yX6_killsOther : MethodName := ⟨RX6, "killsOther", "(I)V"⟩
abbrev cX6_commits : ByteArray := prog_8_method_36_code
def yX6_commits : MethodName := ⟨RX6, "commits", "()I"⟩
abbrev cX6_passes : ByteArray := prog_8_method_37_code
def yX6_passes : MethodName := ⟨RX6, "passes", "(I)I"⟩
abbrev cX6_tick : ByteArray := prog_8_method_38_code
def yX6_tick : MethodName := ⟨RX6, "tick", "(I)I"⟩
abbrev cX6_time : ByteArray := prog_8_method_39_code
def yX6_time : MethodName := ⟨RX6, "time", "()I"⟩
abbrev cX6_taskState : ByteArray := prog_8_method_40_code
def yX6_taskState : MethodName := ⟨RX6, "taskState", "(I)I"⟩
abbrev cX6_committedAttempt : ByteArray := prog_8_method_41_code
def yX6_committedAttempt : MethodName := ⟨RX6, "committedAttempt", "(I)I"⟩
abbrev cX6_finishTime : ByteArray := prog_8_method_42_code
def yX6_finishTime : MethodName := ⟨RX6, "finishTime", "(I)I"⟩
abbrev cX6_greatestFinish : ByteArray := prog_8_method_43_code
def yX6_greatestFinish : MethodName := ⟨RX6, "greatestFinish", "()I"⟩
abbrev cX6_makespan : ByteArray := prog_8_method_44_code
def yX6_makespan : MethodName := ⟨RX6, "makespan", "()I"⟩
abbrev cX6_isAttempt : ByteArray := prog_8_method_45_code
def yX6_isAttempt : MethodName := ⟨RX6, "isAttempt", "(I)Z"⟩
abbrev cX6_attemptCount : ByteArray := prog_8_method_46_code
def yX6_attemptCount : MethodName := ⟨RX6, "attemptCount", "()I"⟩
abbrev cX6_attemptTask : ByteArray := prog_8_method_47_code
def yX6_attemptTask : MethodName := ⟨RX6, "attemptTask", "(I)I"⟩
abbrev cX6_attemptNode : ByteArray := prog_8_method_48_code
def yX6_attemptNode : MethodName := ⟨RX6, "attemptNode", "(I)I"⟩
abbrev cX6_attemptState : ByteArray := prog_8_method_49_code
def yX6_attemptState : MethodName := ⟨RX6, "attemptState", "(I)I"⟩
abbrev cX6_isSpeculative : ByteArray := prog_8_method_50_code
def yX6_isSpeculative : MethodName := ⟨RX6, "isSpeculative", "(I)I"⟩
abbrev cX6_progress : ByteArray := prog_8_method_51_code
def yX6_progress : MethodName := ⟨RX6, "progress", "(I)I"⟩
abbrev cX6_remainingTime : ByteArray := prog_8_method_52_code
def yX6_remainingTime : MethodName := ⟨RX6, "remainingTime", "(I)I"⟩
abbrev cX6_nodeScore : ByteArray := prog_8_method_53_code
def yX6_nodeScore : MethodName := ⟨RX6, "nodeScore", "(I)I"⟩
abbrev cX6_isSlowNode : ByteArray := prog_8_method_54_code
def yX6_isSlowNode : MethodName := ⟨RX6, "isSlowNode", "(I)I"⟩
abbrev cX6_runningOn : ByteArray := prog_8_method_55_code
def yX6_runningOn : MethodName := ⟨RX6, "runningOn", "(I)I"⟩
abbrev cX6_straggler : ByteArray := prog_8_method_56_code
def yX6_straggler : MethodName := ⟨RX6, "straggler", "()I"⟩
abbrev cX6_runningSpeculative : ByteArray := prog_8_method_57_code
def yX6_runningSpeculative : MethodName := ⟨RX6, "runningSpeculative", "()I"⟩
abbrev cX6_wastedWork : ByteArray := prog_8_method_58_code
def yX6_wastedWork : MethodName := ⟨RX6, "wastedWork", "()I"⟩
abbrev cX6_clears : ByteArray := prog_8_method_59_code
def yX6_clears : MethodName := ⟨RX6, "clears", "()V"⟩
abbrev cX6_simulatedMakespan : ByteArray := prog_8_method_60_code
def yX6_simulatedMakespan : MethodName := ⟨RX6, "simulatedMakespan", "(I)I"⟩
def RJ9 : String := "java/lang/Math"
def TJ9 : u_T := fun k => match k with
  | _ => ("", "", "", false)
def tyJ9 : Nat → FieldType := fun k => match k with
  | _ => .int
abbrev wsJ90 : List Cond := u_ws RJ9 TJ9 0
theorem nmJ9 : ∀ a, a < 0 → ∀ b, b < 0 → a ≠ b → (TJ9 a).2.1 ≠ (TJ9 b).2.1 := by decide +kernel
theorem tyJ9_ok : ∀ k, k < 0 → parseFieldDescriptor (TJ9 k).2.2.1 = some (tyJ9 k) := by decide +kernel
abbrev cJ9_max_7cf53 : ByteArray := prog_9_method_65_code
def yJ9_max_7cf53 : MethodName := ⟨RJ9, "max", "(II)I"⟩
abbrev cJ9_min_7cf53 : ByteArray := prog_9_method_69_code
def yJ9_min_7cf53 : MethodName := ⟨RJ9, "min", "(II)I"⟩
def RL : String := "SpeculativeSchedulerLaw"
abbrev cL_law : ByteArray := code
def yL_law : MethodName := ⟨RL, "law", "([I)Z"⟩
def wsL_law_r1 : List Cond := [Cond.classLink RL 7 RX5, Cond.instantiable RX5 2, Cond.initialized RX5, Cond.classLink RL 10 RX6, Cond.instantiable RX6 26, Cond.initialized RX6, Cond.methodLink RL 9 yX5_init, Cond.instanceMethod yX5_init, Cond.code yX5_init cX5_init 1 none, Cond.methodLink RX5 3 objectInit, Cond.instanceMethod objectInit, Cond.code objectInit ⟨#[0xb1]⟩ 1 none, Cond.classLink RX5 9 RX1, Cond.instantiable RX1 5, Cond.initialized RX1, Cond.fieldLink RX5 12 "SpeculativeScheduler" "live" "LSpeculativeScheduler$Cluster;", Cond.fieldLink RX5 16 "SpeculativeScheduler" "trial" "LSpeculativeScheduler$Cluster;", Cond.instanceMethod yX1_init, Cond.code yX1_init cX1_init 1 none, Cond.methodLink RX1 3 objectInit, Cond.classLink RX1 9 RX3, Cond.instantiable RX3 5, Cond.initialized RX3, Cond.fieldLink RX1 12 "SpeculativeScheduler$Cluster" "settings" "LSpeculativeScheduler$Settings;"]
def wsL_law_r2 : List Cond := [Cond.classLink RX1 18 RX2, Cond.instantiable RX2 7, Cond.initialized RX2, Cond.fieldLink RX1 21 "SpeculativeScheduler$Cluster" "nodes" "LSpeculativeScheduler$Nodes;", Cond.classLink RX1 25 RX4, Cond.instantiable RX4 5, Cond.initialized RX4, Cond.fieldLink RX1 28 "SpeculativeScheduler$Cluster" "tasks" "LSpeculativeScheduler$Tasks;", Cond.classLink RX1 32 RX0, Cond.instantiable RX0 11, Cond.initialized RX0, Cond.fieldLink RX1 35 "SpeculativeScheduler$Cluster" "attempts" "LSpeculativeScheduler$Attempts;", Cond.fieldLink RX1 39 "SpeculativeScheduler$Cluster" "now" "I", Cond.instanceMethod yX3_init, Cond.code yX3_init cX3_init 1 none, Cond.methodLink RX3 3 objectInit, Cond.fieldLink RX3 9 "SpeculativeScheduler$Settings" "policy" "I", Cond.fieldLink RX3 15 "SpeculativeScheduler$Settings" "cap" "I", Cond.fieldLink RX3 18 "SpeculativeScheduler$Settings" "minimumAge" "I", Cond.fieldLink RX3 21 "SpeculativeScheduler$Settings" "taskThreshold" "I", Cond.fieldLink RX3 24 "SpeculativeScheduler$Settings" "nodeThreshold" "I", Cond.instanceMethod yX2_init, Cond.code yX2_init cX2_init 1 none, Cond.methodLink RX2 3 objectInit]
def wsL_law_r3 : List Cond := [Cond.fieldLink RX2 9 "SpeculativeScheduler$Nodes" "count" "I", Cond.arrayClass .int, Cond.fieldLink RX2 15 "SpeculativeScheduler$Nodes" "speed" "[I", Cond.fieldLink RX2 19 "SpeculativeScheduler$Nodes" "slots" "[I", Cond.arrayClass .boolean, Cond.fieldLink RX2 22 "SpeculativeScheduler$Nodes" "up" "[Z", Cond.fieldLink RX2 26 "SpeculativeScheduler$Nodes" "busy" "[I", Cond.fieldLink RX2 29 "SpeculativeScheduler$Nodes" "workSum" "[I", Cond.fieldLink RX2 32 "SpeculativeScheduler$Nodes" "ageSum" "[I", Cond.instanceMethod yX4_init, Cond.code yX4_init cX4_init 1 none, Cond.methodLink RX4 3 objectInit, Cond.fieldLink RX4 9 "SpeculativeScheduler$Tasks" "count" "I", Cond.fieldLink RX4 15 "SpeculativeScheduler$Tasks" "work" "[I", Cond.fieldLink RX4 19 "SpeculativeScheduler$Tasks" "runs" "[I", Cond.fieldLink RX4 22 "SpeculativeScheduler$Tasks" "committed" "[I", Cond.fieldLink RX4 25 "SpeculativeScheduler$Tasks" "finish" "[I", Cond.instanceMethod yX0_init, Cond.code yX0_init cX0_init 1 none, Cond.methodLink RX0 3 objectInit, Cond.fieldLink RX0 9 "SpeculativeScheduler$Attempts" "count" "I", Cond.fieldLink RX0 15 "SpeculativeScheduler$Attempts" "task" "[I", Cond.fieldLink RX0 19 "SpeculativeScheduler$Attempts" "node" "[I", Cond.fieldLink RX0 22 "SpeculativeScheduler$Attempts" "state" "[I"]
def wsL_law_r4 : List Cond := [Cond.fieldLink RX0 25 "SpeculativeScheduler$Attempts" "speculative" "[Z", Cond.fieldLink RX0 29 "SpeculativeScheduler$Attempts" "age" "[I", Cond.fieldLink RX0 32 "SpeculativeScheduler$Attempts" "done" "[I", Cond.fieldLink RX0 35 "SpeculativeScheduler$Attempts" "progress" "[I", Cond.fieldLink RX0 38 "SpeculativeScheduler$Attempts" "rate" "[I", Cond.fieldLink RX0 41 "SpeculativeScheduler$Attempts" "running" "[I", Cond.fieldLink RX0 44 "SpeculativeScheduler$Attempts" "runningCount" "I", Cond.methodLink RL 12 yX6_init, Cond.instanceMethod yX6_init, Cond.code yX6_init cX6_init 1 none, Cond.methodLink RX6 1 objectInit, Cond.fieldLink RX6 7 "SpeculativeSchedulerModel" "speedOf" "[I", Cond.fieldLink RX6 13 "SpeculativeSchedulerModel" "slotsOf" "[I", Cond.fieldLink RX6 16 "SpeculativeSchedulerModel" "isUp" "[Z", Cond.fieldLink RX6 20 "SpeculativeSchedulerModel" "workOf" "[I", Cond.fieldLink RX6 23 "SpeculativeSchedulerModel" "cap" "I", Cond.fieldLink RX6 27 "SpeculativeSchedulerModel" "minimumAge" "I", Cond.fieldLink RX6 30 "SpeculativeSchedulerModel" "taskThreshold" "I", Cond.fieldLink RX6 33 "SpeculativeSchedulerModel" "nodeThreshold" "I", Cond.fieldLink RX6 36 "SpeculativeSchedulerModel" "attempts" "[I", Cond.fieldLink RX6 39 "SpeculativeSchedulerModel" "clock" "[I", Cond.fieldLink RX6 42 "SpeculativeSchedulerModel" "taskOf" "[I", Cond.fieldLink RX6 45 "SpeculativeSchedulerModel" "nodeOf" "[I", Cond.fieldLink RX6 48 "SpeculativeSchedulerModel" "ageOf" "[I"]
def wsL_law_r5 : List Cond := [Cond.fieldLink RX6 51 "SpeculativeSchedulerModel" "doneOf" "[I", Cond.fieldLink RX6 54 "SpeculativeSchedulerModel" "stateOf" "[I", Cond.fieldLink RX6 57 "SpeculativeSchedulerModel" "isSecond" "[Z", Cond.fieldLink RX6 60 "SpeculativeSchedulerModel" "commitOf" "[I", Cond.fieldLink RX6 63 "SpeculativeSchedulerModel" "finishOf" "[I", Cond.fieldLink RX6 66 "SpeculativeSchedulerModel" "runningOf" "[I", Cond.fieldLink RX6 69 "SpeculativeSchedulerModel" "busyOf" "[I", Cond.fieldLink RX6 72 "SpeculativeSchedulerModel" "agesOf" "[I", Cond.fieldLink RX6 75 "SpeculativeSchedulerModel" "worksOf" "[I", Cond.fieldLink RX6 78 "SpeculativeSchedulerModel" "policyNow" "I", Cond.methodLink RL 13 yX5_addNode, Cond.instanceMethod yX5_addNode, Cond.selects RX5 yX5_addNode yX5_addNode, Cond.code yX5_addNode cX5_addNode 3 (some .int), Cond.fieldLink RX5 23 "SpeculativeScheduler$Cluster" "nodes" "LSpeculativeScheduler$Nodes;", Cond.methodLink RX5 19 yX5_inRange, Cond.static yX5_inRange, Cond.code yX5_inRange cX5_inRange 3 (some .boolean), Cond.methodLink RX5 27 yX2_add, Cond.instanceMethod yX2_add, Cond.selects RX2 yX2_add yX2_add, Cond.code yX2_add cX2_add 4 (some .int), Cond.methodLink RL 17 yX6_addNode, Cond.instanceMethod yX6_addNode]
def wsL_law_r6 : List Cond := [Cond.selects RX6 yX6_addNode yX6_addNode, Cond.code yX6_addNode cX6_addNode 3 (some .int), Cond.fieldLink RX6 81 "SpeculativeSchedulerModel" "nodes" "I", Cond.methodLink RX6 84 yX6_within, Cond.static yX6_within, Cond.code yX6_within cX6_within 3 (some .boolean), Cond.methodLink RL 18 yX5_setSpeed, Cond.instanceMethod yX5_setSpeed, Cond.selects RX5 yX5_setSpeed yX5_setSpeed, Cond.code yX5_setSpeed cX5_setSpeed 4 (some .int), Cond.fieldLink RX5 37 "SpeculativeScheduler$Nodes" "speed" "[I", Cond.methodLink RX5 33 yX2_has, Cond.instanceMethod yX2_has, Cond.selects RX2 yX2_has yX2_has, Cond.code yX2_has cX2_has 2 (some .boolean), Cond.methodLink RL 21 yX6_setSpeed, Cond.instanceMethod yX6_setSpeed, Cond.selects RX6 yX6_setSpeed yX6_setSpeed, Cond.code yX6_setSpeed cX6_setSpeed 4 (some .int), Cond.methodLink RX6 94 yX6_isNode, Cond.instanceMethod yX6_isNode, Cond.selects RX6 yX6_isNode yX6_isNode, Cond.code yX6_isNode cX6_isNode 2 (some .boolean), Cond.methodLink RL 22 yX5_failNode]
def wsL_law_r7 : List Cond := [Cond.instanceMethod yX5_failNode, Cond.selects RX5 yX5_failNode yX5_failNode, Cond.code yX5_failNode cX5_failNode 2 (some .int), Cond.fieldLink RX5 41 "SpeculativeScheduler$Nodes" "up" "[Z", Cond.methodLink RX5 45 yX1_loseAttemptsOn, Cond.instanceMethod yX1_loseAttemptsOn, Cond.selects RX1 yX1_loseAttemptsOn yX1_loseAttemptsOn, Cond.code yX1_loseAttemptsOn cX1_loseAttemptsOn 5 (some .int), Cond.fieldLink RX1 125 "SpeculativeScheduler$Attempts" "runningCount" "I", Cond.fieldLink RX1 128 "SpeculativeScheduler$Attempts" "running" "[I", Cond.fieldLink RX1 108 "SpeculativeScheduler$Attempts" "node" "[I", Cond.methodLink RX1 159 yX1_end, Cond.instanceMethod yX1_end, Cond.selects RX1 yX1_end yX1_end, Cond.code yX1_end cX1_end 3 none, Cond.fieldLink RX1 147 "SpeculativeScheduler$Attempts" "state" "[I", Cond.fieldLink RX1 115 "SpeculativeScheduler$Tasks" "runs" "[I", Cond.fieldLink RX1 112 "SpeculativeScheduler$Attempts" "task" "[I", Cond.fieldLink RX1 122 "SpeculativeScheduler$Nodes" "busy" "[I", Cond.methodLink RX1 156 yX0_dropEnded, Cond.instanceMethod yX0_dropEnded, Cond.selects RX0 yX0_dropEnded yX0_dropEnded, Cond.code yX0_dropEnded cX0_dropEnded 4 none, Cond.methodLink RL 26 yX6_failNode]
def wsL_law_r8 : List Cond := [Cond.instanceMethod yX6_failNode, Cond.selects RX6 yX6_failNode yX6_failNode, Cond.code yX6_failNode cX6_failNode 4 (some .int), Cond.methodLink RX6 98 yX6_stops, Cond.instanceMethod yX6_stops, Cond.selects RX6 yX6_stops yX6_stops, Cond.code yX6_stops cX6_stops 3 none, Cond.fieldLink RX6 91 "SpeculativeSchedulerModel" "side" "I", Cond.methodLink RL 27 yX5_repairNode, Cond.instanceMethod yX5_repairNode, Cond.selects RX5 yX5_repairNode yX5_repairNode, Cond.code yX5_repairNode cX5_repairNode 3 (some .int), Cond.methodLink RL 30 yX6_repairNode, Cond.instanceMethod yX6_repairNode, Cond.selects RX6 yX6_repairNode yX6_repairNode, Cond.code yX6_repairNode cX6_repairNode 3 (some .int), Cond.methodLink RL 31 yX5_addTask, Cond.instanceMethod yX5_addTask, Cond.selects RX5 yX5_addTask yX5_addTask, Cond.code yX5_addTask cX5_addTask 2 (some .int), Cond.fieldLink RX5 49 "SpeculativeScheduler$Cluster" "tasks" "LSpeculativeScheduler$Tasks;", Cond.methodLink RX5 53 yX4_add, Cond.instanceMethod yX4_add, Cond.selects RX4 yX4_add yX4_add]
def wsL_law_r9 : List Cond := [Cond.code yX4_add cX4_add 3 (some .int), Cond.methodLink RL 34 yX6_addTask, Cond.instanceMethod yX6_addTask, Cond.selects RX6 yX6_addTask yX6_addTask, Cond.code yX6_addTask cX6_addTask 2 (some .int), Cond.fieldLink RX6 88 "SpeculativeSchedulerModel" "tasks" "I", Cond.methodLink RL 35 yX5_setPolicy, Cond.instanceMethod yX5_setPolicy, Cond.selects RX5 yX5_setPolicy yX5_setPolicy, Cond.code yX5_setPolicy cX5_setPolicy 3 (some .int), Cond.fieldLink RX5 60 "SpeculativeScheduler$Cluster" "settings" "LSpeculativeScheduler$Settings;", Cond.fieldLink RX5 64 "SpeculativeScheduler$Settings" "policy" "I", Cond.methodLink RX5 57 yX5_isPolicy, Cond.static yX5_isPolicy, Cond.code yX5_isPolicy cX5_isPolicy 1 (some .boolean), Cond.methodLink RL 38 yX6_setPolicy, Cond.instanceMethod yX6_setPolicy, Cond.selects RX6 yX6_setPolicy yX6_setPolicy, Cond.code yX6_setPolicy cX6_setPolicy 3 (some .int), Cond.methodLink RL 39 yX5_setLimits, Cond.instanceMethod yX5_setLimits, Cond.selects RX5 yX5_setLimits yX5_setLimits, Cond.code yX5_setLimits cX5_setLimits 5 (some .int), Cond.fieldLink RX5 70 "SpeculativeScheduler$Settings" "cap" "I"]
def wsL_law_r10 : List Cond := [Cond.fieldLink RX5 73 "SpeculativeScheduler$Settings" "minimumAge" "I", Cond.methodLink RL 42 yX6_setLimits, Cond.instanceMethod yX6_setLimits, Cond.selects RX6 yX6_setLimits yX6_setLimits, Cond.code yX6_setLimits cX6_setLimits 4 (some .int), Cond.methodLink RL 43 yX5_setThresholds, Cond.instanceMethod yX5_setThresholds, Cond.selects RX5 yX5_setThresholds yX5_setThresholds, Cond.code yX5_setThresholds cX5_setThresholds 5 (some .int), Cond.fieldLink RX5 76 "SpeculativeScheduler$Settings" "taskThreshold" "I", Cond.fieldLink RX5 79 "SpeculativeScheduler$Settings" "nodeThreshold" "I", Cond.methodLink RL 46 yX6_setThresholds, Cond.instanceMethod yX6_setThresholds, Cond.selects RX6 yX6_setThresholds yX6_setThresholds, Cond.code yX6_setThresholds cX6_setThresholds 4 (some .int), Cond.methodLink RL 47 yX5_tick, Cond.instanceMethod yX5_tick, Cond.selects RX5 yX5_tick yX5_tick, Cond.code yX5_tick cX5_tick 4 (some .int), Cond.methodLink RX5 82 yX1_runOneTick, Cond.instanceMethod yX1_runOneTick, Cond.selects RX1 yX1_runOneTick yX1_runOneTick, Cond.code yX1_runOneTick cX1_runOneTick 2 (some .int), Cond.methodLink RX1 57 yX1_startAttempts]
def wsL_law_r11 : List Cond := [Cond.instanceMethod yX1_startAttempts, Cond.selects RX1 yX1_startAttempts yX1_startAttempts, Cond.code yX1_startAttempts cX1_startAttempts 4 none, Cond.fieldLink RX1 67 "SpeculativeScheduler$Nodes" "count" "I", Cond.methodLink RX1 70 yX2_hasFreeSlot, Cond.instanceMethod yX2_hasFreeSlot, Cond.selects RX2 yX2_hasFreeSlot yX2_hasFreeSlot, Cond.code yX2_hasFreeSlot cX2_hasFreeSlot 2 (some .boolean), Cond.methodLink RX1 74 yX0_isFull, Cond.instanceMethod yX0_isFull, Cond.selects RX0 yX0_isFull yX0_isFull, Cond.code yX0_isFull cX0_isFull 1 (some .boolean), Cond.methodLink RX1 78 yX4_firstWaiting, Cond.instanceMethod yX4_firstWaiting, Cond.selects RX4 yX4_firstWaiting yX4_firstWaiting, Cond.code yX4_firstWaiting cX4_firstWaiting 2 (some .int), Cond.methodLink RX4 32 yX4_stateOf, Cond.instanceMethod yX4_stateOf, Cond.selects RX4 yX4_stateOf yX4_stateOf, Cond.code yX4_stateOf cX4_stateOf 2 (some .int), Cond.methodLink RX1 81 yX1_taskToSpeculate, Cond.instanceMethod yX1_taskToSpeculate, Cond.selects RX1 yX1_taskToSpeculate yX1_taskToSpeculate, Cond.code yX1_taskToSpeculate cX1_taskToSpeculate 3 (some .int)]
def wsL_law_r12 : List Cond := [Cond.fieldLink RX1 92 "SpeculativeScheduler$Settings" "cap" "I", Cond.fieldLink RX1 95 "SpeculativeScheduler$Settings" "policy" "I", Cond.fieldLink RX1 98 "SpeculativeScheduler$Settings" "nodeThreshold" "I", Cond.methodLink RX1 89 yX0_countSpeculative, Cond.instanceMethod yX0_countSpeculative, Cond.selects RX0 yX0_countSpeculative yX0_countSpeculative, Cond.code yX0_countSpeculative cX0_countSpeculative 3 (some .int), Cond.methodLink RX1 101 yX2_isSlow, Cond.instanceMethod yX2_isSlow, Cond.selects RX2 yX2_isSlow yX2_isSlow, Cond.code yX2_isSlow cX2_isSlow 3 (some .boolean), Cond.methodLink RX2 39 yX2_score, Cond.instanceMethod yX2_score, Cond.selects RX2 yX2_score yX2_score, Cond.code yX2_score cX2_score 2 (some .int), Cond.methodLink RX2 43 yX2_meanScore, Cond.instanceMethod yX2_meanScore, Cond.selects RX2 yX2_meanScore yX2_meanScore, Cond.code yX2_meanScore cX2_meanScore 4 (some .int), Cond.methodLink RX1 105 yX1_findStraggler, Cond.instanceMethod yX1_findStraggler, Cond.selects RX1 yX1_findStraggler yX1_findStraggler, Cond.code yX1_findStraggler cX1_findStraggler 1 (some .int), Cond.methodLink RX1 168 yX1_leastAdvanced]
def wsL_law_r13 : List Cond := [Cond.instanceMethod yX1_leastAdvanced, Cond.selects RX1 yX1_leastAdvanced yX1_leastAdvanced, Cond.code yX1_leastAdvanced cX1_leastAdvanced 4 (some .int), Cond.fieldLink RX1 183 "SpeculativeScheduler$Attempts" "progress" "[I", Cond.methodLink RX1 180 yX1_isCandidate, Cond.instanceMethod yX1_isCandidate, Cond.selects RX1 yX1_isCandidate yX1_isCandidate, Cond.code yX1_isCandidate cX1_isCandidate 2 (some .boolean), Cond.fieldLink RX1 174 "SpeculativeScheduler$Attempts" "age" "[I", Cond.fieldLink RX1 177 "SpeculativeScheduler$Settings" "minimumAge" "I", Cond.methodLink RX1 186 yX0_meanOfRunning, Cond.instanceMethod yX0_meanOfRunning, Cond.selects RX0 yX0_meanOfRunning yX0_meanOfRunning, Cond.code yX0_meanOfRunning cX0_meanOfRunning 4 (some .int), Cond.methodLink RX1 171 yX1_longestToRun, Cond.instanceMethod yX1_longestToRun, Cond.selects RX1 yX1_longestToRun yX1_longestToRun, Cond.code yX1_longestToRun cX1_longestToRun 6 (some .int), Cond.fieldLink RX1 190 "SpeculativeScheduler$Attempts" "rate" "[I", Cond.fieldLink RX1 193 "SpeculativeScheduler$Settings" "taskThreshold" "I", Cond.methodLink RX1 196 yX0_remaining, Cond.instanceMethod yX0_remaining, Cond.selects RX0 yX0_remaining yX0_remaining, Cond.code yX0_remaining cX0_remaining 3 (some .int)]
def wsL_law_r14 : List Cond := [Cond.constant RX0 57 (1000000), Cond.methodLink RX1 85 yX1_start, Cond.instanceMethod yX1_start, Cond.selects RX1 yX1_start yX1_start, Cond.code yX1_start cX1_start 3 none, Cond.methodLink RX1 118 yX0_add, Cond.instanceMethod yX0_add, Cond.selects RX0 yX0_add yX0_add, Cond.code yX0_add cX0_add 5 none, Cond.methodLink RX0 47 yX0_isFull, Cond.methodLink RX1 60 yX1_doWork, Cond.instanceMethod yX1_doWork, Cond.selects RX1 yX1_doWork yX1_doWork, Cond.code yX1_doWork cX1_doWork 4 none, Cond.fieldLink RX1 131 "SpeculativeScheduler$Nodes" "speed" "[I", Cond.fieldLink RX1 134 "SpeculativeScheduler$Tasks" "work" "[I", Cond.fieldLink RX1 141 "SpeculativeScheduler$Nodes" "ageSum" "[I", Cond.fieldLink RX1 144 "SpeculativeScheduler$Nodes" "workSum" "[I", Cond.methodLink RX1 137 yX0_grow, Cond.instanceMethod yX0_grow, Cond.selects RX0 yX0_grow yX0_grow, Cond.code yX0_grow cX0_grow 5 none, Cond.methodLink RX0 51 Lib.Math.min.name, Cond.static Lib.Math.min.name]
def wsL_law_r15 : List Cond := [Cond.initialized "java/lang/Math", Cond.code Lib.Math.min.name Lib.Math.min.code 2 (some .int), Cond.methodLink RX1 63 yX1_commitFinished, Cond.instanceMethod yX1_commitFinished, Cond.selects RX1 yX1_commitFinished yX1_commitFinished, Cond.code yX1_commitFinished cX1_commitFinished 6 (some .int), Cond.fieldLink RX1 150 "SpeculativeScheduler$Attempts" "done" "[I", Cond.methodLink RX1 153 yX1_commit, Cond.instanceMethod yX1_commit, Cond.selects RX1 yX1_commit yX1_commit, Cond.code yX1_commit cX1_commit 5 none, Cond.fieldLink RX1 162 "SpeculativeScheduler$Tasks" "committed" "[I", Cond.fieldLink RX1 165 "SpeculativeScheduler$Tasks" "finish" "[I", Cond.methodLink RL 50 yX6_tick, Cond.instanceMethod yX6_tick, Cond.selects RX6 yX6_tick yX6_tick, Cond.code yX6_tick cX6_tick 4 (some .int), Cond.methodLink RX6 178 yX6_passes, Cond.instanceMethod yX6_passes, Cond.selects RX6 yX6_passes yX6_passes, Cond.code yX6_passes cX6_passes 4 (some .int), Cond.methodLink RX6 165 yX6_hasSlot, Cond.instanceMethod yX6_hasSlot, Cond.selects RX6 yX6_hasSlot yX6_hasSlot]
def wsL_law_r16 : List Cond := [Cond.code yX6_hasSlot cX6_hasSlot 2 (some .boolean), Cond.methodLink RX6 168 yX6_startsOn, Cond.instanceMethod yX6_startsOn, Cond.selects RX6 yX6_startsOn yX6_startsOn, Cond.code yX6_startsOn cX6_startsOn 6 (some .boolean), Cond.methodLink RX6 146 yX6_firstWaiting, Cond.instanceMethod yX6_firstWaiting, Cond.selects RX6 yX6_firstWaiting yX6_firstWaiting, Cond.code yX6_firstWaiting cX6_firstWaiting 2 (some .int), Cond.methodLink RX6 143 yX6_stateOfTask, Cond.instanceMethod yX6_stateOfTask, Cond.selects RX6 yX6_stateOfTask yX6_stateOfTask, Cond.code yX6_stateOfTask cX6_stateOfTask 3 (some .int), Cond.methodLink RX6 149 yX6_stragglerBy, Cond.instanceMethod yX6_stragglerBy, Cond.selects RX6 yX6_stragglerBy yX6_stragglerBy, Cond.code yX6_stragglerBy cX6_stragglerBy 2 (some .int), Cond.methodLink RX6 137 yX6_naiveStraggler, Cond.instanceMethod yX6_naiveStraggler, Cond.selects RX6 yX6_naiveStraggler yX6_naiveStraggler, Cond.code yX6_naiveStraggler cX6_naiveStraggler 3 (some .int), Cond.methodLink RX6 109 yX6_first, Cond.instanceMethod yX6_first, Cond.selects RX6 yX6_first yX6_first]
def wsL_law_r17 : List Cond := [Cond.code yX6_first cX6_first 1 (some .int), Cond.methodLink RX6 113 yX6_last, Cond.instanceMethod yX6_last, Cond.selects RX6 yX6_last yX6_last, Cond.code yX6_last cX6_last 1 (some .int), Cond.methodLink RX6 125 yX6_isCandidate, Cond.instanceMethod yX6_isCandidate, Cond.selects RX6 yX6_isCandidate yX6_isCandidate, Cond.code yX6_isCandidate cX6_isCandidate 2 (some .boolean), Cond.methodLink RX6 102 yX6_progressOf, Cond.instanceMethod yX6_progressOf, Cond.selects RX6 yX6_progressOf yX6_progressOf, Cond.code yX6_progressOf cX6_progressOf 3 (some .int), Cond.methodLink RX6 128 yX6_meanProgress, Cond.instanceMethod yX6_meanProgress, Cond.selects RX6 yX6_meanProgress yX6_meanProgress, Cond.code yX6_meanProgress cX6_meanProgress 4 (some .int), Cond.methodLink RX6 140 yX6_lateStraggler, Cond.instanceMethod yX6_lateStraggler, Cond.selects RX6 yX6_lateStraggler yX6_lateStraggler, Cond.code yX6_lateStraggler cX6_lateStraggler 5 (some .int), Cond.methodLink RX6 131 yX6_meanRate, Cond.instanceMethod yX6_meanRate, Cond.selects RX6 yX6_meanRate yX6_meanRate]
def wsL_law_r18 : List Cond := [Cond.code yX6_meanRate cX6_meanRate 4 (some .int), Cond.methodLink RX6 116 yX6_rateOf, Cond.instanceMethod yX6_rateOf, Cond.selects RX6 yX6_rateOf yX6_rateOf, Cond.code yX6_rateOf cX6_rateOf 2 (some .int), Cond.methodLink RX6 134 yX6_remainingOf, Cond.instanceMethod yX6_remainingOf, Cond.selects RX6 yX6_remainingOf yX6_remainingOf, Cond.code yX6_remainingOf cX6_remainingOf 3 (some .int), Cond.constant RX6 106 (1000000), Cond.constantLong RX6 107 (1000), Cond.methodLink RX6 152 yX6_speculative, Cond.instanceMethod yX6_speculative, Cond.selects RX6 yX6_speculative yX6_speculative, Cond.code yX6_speculative cX6_speculative 3 (some .int), Cond.methodLink RX6 155 yX6_isSlow, Cond.instanceMethod yX6_isSlow, Cond.selects RX6 yX6_isSlow yX6_isSlow, Cond.code yX6_isSlow cX6_isSlow 2 (some .boolean), Cond.methodLink RX6 119 yX6_scoreOf, Cond.instanceMethod yX6_scoreOf, Cond.selects RX6 yX6_scoreOf yX6_scoreOf, Cond.code yX6_scoreOf cX6_scoreOf 3 (some .int), Cond.methodLink RX6 122 yX6_meanScore]
def wsL_law_r19 : List Cond := [Cond.instanceMethod yX6_meanScore, Cond.selects RX6 yX6_meanScore yX6_meanScore, Cond.code yX6_meanScore cX6_meanScore 4 (some .int), Cond.methodLink RX6 158 yX6_starts, Cond.instanceMethod yX6_starts, Cond.selects RX6 yX6_starts yX6_starts, Cond.code yX6_starts cX6_starts 4 none, Cond.methodLink RX6 172 yX6_works, Cond.instanceMethod yX6_works, Cond.selects RX6 yX6_works yX6_works, Cond.code yX6_works cX6_works 3 none, Cond.methodLink RX6 175 yX6_commits, Cond.instanceMethod yX6_commits, Cond.selects RX6 yX6_commits yX6_commits, Cond.code yX6_commits cX6_commits 3 (some .int), Cond.methodLink RX6 161 yX6_killsOther, Cond.instanceMethod yX6_killsOther, Cond.selects RX6 yX6_killsOther yX6_killsOther, Cond.code yX6_killsOther cX6_killsOther 3 none, Cond.methodLink RL 51 yX5_time, Cond.instanceMethod yX5_time, Cond.selects RX5 yX5_time yX5_time, Cond.code yX5_time cX5_time 1 (some .int), Cond.fieldLink RX5 86 "SpeculativeScheduler$Cluster" "now" "I"]
def wsL_law_r20 : List Cond := [Cond.methodLink RL 55 yX6_time, Cond.instanceMethod yX6_time, Cond.selects RX6 yX6_time yX6_time, Cond.code yX6_time cX6_time 1 (some .int), Cond.methodLink RL 56 yX5_taskState, Cond.instanceMethod yX5_taskState, Cond.selects RX5 yX5_taskState yX5_taskState, Cond.code yX5_taskState cX5_taskState 2 (some .int), Cond.methodLink RX5 89 yX4_has, Cond.instanceMethod yX4_has, Cond.selects RX4 yX4_has yX4_has, Cond.code yX4_has cX4_has 2 (some .boolean), Cond.methodLink RX5 90 yX4_stateOf, Cond.methodLink RL 59 yX6_taskState, Cond.instanceMethod yX6_taskState, Cond.selects RX6 yX6_taskState yX6_taskState, Cond.code yX6_taskState cX6_taskState 2 (some .int), Cond.methodLink RX6 181 yX6_isTask, Cond.instanceMethod yX6_isTask, Cond.selects RX6 yX6_isTask yX6_isTask, Cond.code yX6_isTask cX6_isTask 2 (some .boolean), Cond.methodLink RL 60 yX5_committedAttempt, Cond.instanceMethod yX5_committedAttempt, Cond.selects RX5 yX5_committedAttempt yX5_committedAttempt]
def wsL_law_r21 : List Cond := [Cond.code yX5_committedAttempt cX5_committedAttempt 2 (some .int), Cond.fieldLink RX5 93 "SpeculativeScheduler$Tasks" "committed" "[I", Cond.methodLink RL 63 yX6_committedAttempt, Cond.instanceMethod yX6_committedAttempt, Cond.selects RX6 yX6_committedAttempt yX6_committedAttempt, Cond.code yX6_committedAttempt cX6_committedAttempt 2 (some .int), Cond.methodLink RL 64 yX5_finishTime, Cond.instanceMethod yX5_finishTime, Cond.selects RX5 yX5_finishTime yX5_finishTime, Cond.code yX5_finishTime cX5_finishTime 2 (some .int), Cond.fieldLink RX5 96 "SpeculativeScheduler$Tasks" "finish" "[I", Cond.methodLink RL 67 yX6_finishTime, Cond.instanceMethod yX6_finishTime, Cond.selects RX6 yX6_finishTime yX6_finishTime, Cond.code yX6_finishTime cX6_finishTime 2 (some .int), Cond.methodLink RL 68 yX5_makespan, Cond.instanceMethod yX5_makespan, Cond.selects RX5 yX5_makespan yX5_makespan, Cond.code yX5_makespan cX5_makespan 1 (some .int), Cond.methodLink RX5 99 yX4_lastFinish, Cond.instanceMethod yX4_lastFinish, Cond.selects RX4 yX4_lastFinish yX4_lastFinish, Cond.code yX4_lastFinish cX4_lastFinish 3 (some .int), Cond.methodLink RX4 35 Lib.Math.max.name]
def wsL_law_r22 : List Cond := [Cond.static Lib.Math.max.name, Cond.code Lib.Math.max.name Lib.Math.max.code 2 (some .int), Cond.methodLink RL 71 yX6_makespan, Cond.instanceMethod yX6_makespan, Cond.selects RX6 yX6_makespan yX6_makespan, Cond.code yX6_makespan cX6_makespan 1 (some .int), Cond.methodLink RX6 184 yX6_greatestFinish, Cond.instanceMethod yX6_greatestFinish, Cond.selects RX6 yX6_greatestFinish yX6_greatestFinish, Cond.code yX6_greatestFinish cX6_greatestFinish 4 (some .int), Cond.methodLink RL 72 yX5_attemptCount, Cond.instanceMethod yX5_attemptCount, Cond.selects RX5 yX5_attemptCount yX5_attemptCount, Cond.code yX5_attemptCount cX5_attemptCount 1 (some .int), Cond.fieldLink RX5 102 "SpeculativeScheduler$Cluster" "attempts" "LSpeculativeScheduler$Attempts;", Cond.fieldLink RX5 106 "SpeculativeScheduler$Attempts" "count" "I", Cond.methodLink RL 75 yX6_attemptCount, Cond.instanceMethod yX6_attemptCount, Cond.selects RX6 yX6_attemptCount yX6_attemptCount, Cond.code yX6_attemptCount cX6_attemptCount 1 (some .int), Cond.methodLink RL 76 yX5_attemptTask, Cond.instanceMethod yX5_attemptTask, Cond.selects RX5 yX5_attemptTask yX5_attemptTask, Cond.code yX5_attemptTask cX5_attemptTask 2 (some .int)]
def wsL_law_r23 : List Cond := [Cond.fieldLink RX5 112 "SpeculativeScheduler$Attempts" "task" "[I", Cond.methodLink RX5 111 yX0_has, Cond.instanceMethod yX0_has, Cond.selects RX0 yX0_has yX0_has, Cond.code yX0_has cX0_has 2 (some .boolean), Cond.methodLink RL 79 yX6_attemptTask, Cond.instanceMethod yX6_attemptTask, Cond.selects RX6 yX6_attemptTask yX6_attemptTask, Cond.code yX6_attemptTask cX6_attemptTask 2 (some .int), Cond.methodLink RX6 187 yX6_isAttempt, Cond.instanceMethod yX6_isAttempt, Cond.selects RX6 yX6_isAttempt yX6_isAttempt, Cond.code yX6_isAttempt cX6_isAttempt 2 (some .boolean), Cond.methodLink RL 80 yX5_attemptNode, Cond.instanceMethod yX5_attemptNode, Cond.selects RX5 yX5_attemptNode yX5_attemptNode, Cond.code yX5_attemptNode cX5_attemptNode 2 (some .int), Cond.fieldLink RX5 115 "SpeculativeScheduler$Attempts" "node" "[I", Cond.methodLink RL 83 yX6_attemptNode, Cond.instanceMethod yX6_attemptNode, Cond.selects RX6 yX6_attemptNode yX6_attemptNode, Cond.code yX6_attemptNode cX6_attemptNode 2 (some .int), Cond.methodLink RL 84 yX5_attemptState, Cond.instanceMethod yX5_attemptState]
def wsL_law_r24 : List Cond := [Cond.selects RX5 yX5_attemptState yX5_attemptState, Cond.code yX5_attemptState cX5_attemptState 2 (some .int), Cond.fieldLink RX5 118 "SpeculativeScheduler$Attempts" "state" "[I", Cond.methodLink RL 87 yX6_attemptState, Cond.instanceMethod yX6_attemptState, Cond.selects RX6 yX6_attemptState yX6_attemptState, Cond.code yX6_attemptState cX6_attemptState 2 (some .int), Cond.methodLink RL 88 yX5_isSpeculative, Cond.instanceMethod yX5_isSpeculative, Cond.selects RX5 yX5_isSpeculative yX5_isSpeculative, Cond.code yX5_isSpeculative cX5_isSpeculative 2 (some .int), Cond.fieldLink RX5 121 "SpeculativeScheduler$Attempts" "speculative" "[Z", Cond.methodLink RL 91 yX6_isSpeculative, Cond.instanceMethod yX6_isSpeculative, Cond.selects RX6 yX6_isSpeculative yX6_isSpeculative, Cond.code yX6_isSpeculative cX6_isSpeculative 2 (some .int), Cond.methodLink RL 92 yX5_progress, Cond.instanceMethod yX5_progress, Cond.selects RX5 yX5_progress yX5_progress, Cond.code yX5_progress cX5_progress 2 (some .int), Cond.fieldLink RX5 124 "SpeculativeScheduler$Attempts" "progress" "[I", Cond.methodLink RL 95 yX6_progress, Cond.instanceMethod yX6_progress, Cond.selects RX6 yX6_progress yX6_progress]
def wsL_law_r25 : List Cond := [Cond.code yX6_progress cX6_progress 2 (some .int), Cond.methodLink RL 96 yX5_remainingTime, Cond.instanceMethod yX5_remainingTime, Cond.selects RX5 yX5_remainingTime yX5_remainingTime, Cond.code yX5_remainingTime cX5_remainingTime 2 (some .int), Cond.methodLink RX5 127 yX0_remaining, Cond.methodLink RL 99 yX6_remainingTime, Cond.instanceMethod yX6_remainingTime, Cond.selects RX6 yX6_remainingTime yX6_remainingTime, Cond.code yX6_remainingTime cX6_remainingTime 2 (some .int), Cond.methodLink RL 100 yX5_nodeScore, Cond.instanceMethod yX5_nodeScore, Cond.selects RX5 yX5_nodeScore yX5_nodeScore, Cond.code yX5_nodeScore cX5_nodeScore 2 (some .int), Cond.methodLink RX5 130 yX2_score, Cond.methodLink RL 103 yX6_nodeScore, Cond.instanceMethod yX6_nodeScore, Cond.selects RX6 yX6_nodeScore yX6_nodeScore, Cond.code yX6_nodeScore cX6_nodeScore 2 (some .int), Cond.methodLink RL 104 yX5_isSlowNode, Cond.instanceMethod yX5_isSlowNode, Cond.selects RX5 yX5_isSlowNode yX5_isSlowNode, Cond.code yX5_isSlowNode cX5_isSlowNode 2 (some .int), Cond.methodLink RX5 133 yX2_isSlow]
def wsL_law_r26 : List Cond := [Cond.methodLink RL 107 yX6_isSlowNode, Cond.instanceMethod yX6_isSlowNode, Cond.selects RX6 yX6_isSlowNode yX6_isSlowNode, Cond.code yX6_isSlowNode cX6_isSlowNode 2 (some .int), Cond.methodLink RL 108 yX5_runningOn, Cond.instanceMethod yX5_runningOn, Cond.selects RX5 yX5_runningOn yX5_runningOn, Cond.code yX5_runningOn cX5_runningOn 2 (some .int), Cond.fieldLink RX5 137 "SpeculativeScheduler$Nodes" "busy" "[I", Cond.methodLink RL 111 yX6_runningOn, Cond.instanceMethod yX6_runningOn, Cond.selects RX6 yX6_runningOn yX6_runningOn, Cond.code yX6_runningOn cX6_runningOn 2 (some .int), Cond.methodLink RL 112 yX5_straggler, Cond.instanceMethod yX5_straggler, Cond.selects RX5 yX5_straggler yX5_straggler, Cond.code yX5_straggler cX5_straggler 1 (some .int), Cond.methodLink RX5 140 yX1_findStraggler, Cond.methodLink RL 115 yX6_straggler, Cond.instanceMethod yX6_straggler, Cond.selects RX6 yX6_straggler yX6_straggler, Cond.code yX6_straggler cX6_straggler 1 (some .int), Cond.methodLink RL 116 yX5_runningSpeculative, Cond.instanceMethod yX5_runningSpeculative]
def wsL_law_r27 : List Cond := [Cond.selects RX5 yX5_runningSpeculative yX5_runningSpeculative, Cond.code yX5_runningSpeculative cX5_runningSpeculative 1 (some .int), Cond.methodLink RX5 143 yX0_countSpeculative, Cond.methodLink RL 119 yX6_runningSpeculative, Cond.instanceMethod yX6_runningSpeculative, Cond.selects RX6 yX6_runningSpeculative yX6_runningSpeculative, Cond.code yX6_runningSpeculative cX6_runningSpeculative 1 (some .int), Cond.methodLink RL 120 yX5_wastedWork, Cond.instanceMethod yX5_wastedWork, Cond.selects RX5 yX5_wastedWork yX5_wastedWork, Cond.code yX5_wastedWork cX5_wastedWork 1 (some .int), Cond.methodLink RX5 146 yX0_wasted, Cond.instanceMethod yX0_wasted, Cond.selects RX0 yX0_wasted yX0_wasted, Cond.code yX0_wasted cX0_wasted 3 (some .int), Cond.methodLink RL 123 yX6_wastedWork, Cond.instanceMethod yX6_wastedWork, Cond.selects RX6 yX6_wastedWork yX6_wastedWork, Cond.code yX6_wastedWork cX6_wastedWork 3 (some .int), Cond.methodLink RL 124 yX5_simulatedMakespan, Cond.instanceMethod yX5_simulatedMakespan, Cond.selects RX5 yX5_simulatedMakespan yX5_simulatedMakespan, Cond.code yX5_simulatedMakespan cX5_simulatedMakespan 4 (some .int), Cond.fieldLink RX5 153 "SpeculativeScheduler$Tasks" "count" "I"]
def wsL_law_r28 : List Cond := [Cond.methodLink RX5 149 yX1_startAfresh, Cond.instanceMethod yX1_startAfresh, Cond.selects RX1 yX1_startAfresh yX1_startAfresh, Cond.code yX1_startAfresh cX1_startAfresh 3 none, Cond.methodLink RX1 43 yX3_copyWithPolicy, Cond.instanceMethod yX3_copyWithPolicy, Cond.selects RX3 yX3_copyWithPolicy yX3_copyWithPolicy, Cond.code yX3_copyWithPolicy cX3_copyWithPolicy 3 none, Cond.methodLink RX1 47 yX2_copyUnused, Cond.instanceMethod yX2_copyUnused, Cond.selects RX2 yX2_copyUnused yX2_copyUnused, Cond.code yX2_copyUnused cX2_copyUnused 3 none, Cond.methodLink RX2 35 yX2_add, Cond.methodLink RX1 51 yX4_copyUnused, Cond.instanceMethod yX4_copyUnused, Cond.selects RX4 yX4_copyUnused yX4_copyUnused, Cond.code yX4_copyUnused cX4_copyUnused 3 none, Cond.methodLink RX4 28 yX4_add, Cond.methodLink RX1 54 yX0_clear, Cond.instanceMethod yX0_clear, Cond.selects RX0 yX0_clear yX0_clear, Cond.code yX0_clear cX0_clear 1 none, Cond.methodLink RL 127 yX6_simulatedMakespan, Cond.instanceMethod yX6_simulatedMakespan]
def wsL_law_r29 : List Cond := [Cond.selects RX6 yX6_simulatedMakespan yX6_simulatedMakespan, Cond.code yX6_simulatedMakespan cX6_simulatedMakespan 3 (some .int), Cond.methodLink RX6 190 yX6_clears, Cond.instanceMethod yX6_clears, Cond.selects RX6 yX6_clears yX6_clears, Cond.code yX6_clears cX6_clears 2 none]
def wsL_law : List Cond := (wsL_law_r1 ++ (wsL_law_r2 ++ (wsL_law_r3 ++ (wsL_law_r4 ++ (wsL_law_r5 ++ (wsL_law_r6 ++ (wsL_law_r7 ++ (wsL_law_r8 ++ (wsL_law_r9 ++ (wsL_law_r10 ++ (wsL_law_r11 ++ (wsL_law_r12 ++ (wsL_law_r13 ++ (wsL_law_r14 ++ (wsL_law_r15 ++ (wsL_law_r16 ++ (wsL_law_r17 ++ (wsL_law_r18 ++ (wsL_law_r19 ++ (wsL_law_r20 ++ (wsL_law_r21 ++ (wsL_law_r22 ++ (wsL_law_r23 ++ (wsL_law_r24 ++ (wsL_law_r25 ++ (wsL_law_r26 ++ (wsL_law_r27 ++ (wsL_law_r28 ++ wsL_law_r29)))))))))))))))))))))))))))) ++ wsX50 ++ wsX60 ++ wsX10 ++ wsX30 ++ wsX20 ++ wsX40 ++ wsX00 ++ ([] : List Cond)
theorem inlX0 : ∀ w ∈ wsX00, w ∈ wsL_law := fun _ h => List.mem_append_left _ (List.mem_append_right _ h)
theorem inlX1 : ∀ w ∈ wsX10, w ∈ wsL_law := fun _ h => List.mem_append_left _ (List.mem_append_left _ (List.mem_append_left _ (List.mem_append_left _ (List.mem_append_left _ (List.mem_append_right _ h)))))
theorem inlX2 : ∀ w ∈ wsX20, w ∈ wsL_law := fun _ h => List.mem_append_left _ (List.mem_append_left _ (List.mem_append_left _ (List.mem_append_right _ h)))
theorem inlX3 : ∀ w ∈ wsX30, w ∈ wsL_law := fun _ h => List.mem_append_left _ (List.mem_append_left _ (List.mem_append_left _ (List.mem_append_left _ (List.mem_append_right _ h))))
theorem inlX4 : ∀ w ∈ wsX40, w ∈ wsL_law := fun _ h => List.mem_append_left _ (List.mem_append_left _ (List.mem_append_right _ h))
theorem inlX5 : ∀ w ∈ wsX50, w ∈ wsL_law := fun _ h => List.mem_append_left _ (List.mem_append_left _ (List.mem_append_left _ (List.mem_append_left _ (List.mem_append_left _ (List.mem_append_left _ (List.mem_append_left _ (List.mem_append_right _ h)))))))
theorem inlX6 : ∀ w ∈ wsX60, w ∈ wsL_law := fun _ h => List.mem_append_left _ (List.mem_append_left _ (List.mem_append_left _ (List.mem_append_left _ (List.mem_append_left _ (List.mem_append_left _ (List.mem_append_right _ h))))))
abbrev vwCl : List vw_C := [(RX0, TX0, 11), (RX1, TX1, 5), (RX2, TX2, 7), (RX3, TX3, 5), (RX4, TX4, 5), (RX5, TX5, 2), (RX6, TX6, 26)]
theorem wsL_r1 : ∀ w ∈ wsL_law_r1, w ∈ wsL_law := fun _ h => (List.mem_append_left _ (List.mem_append_left _ (List.mem_append_left _ (List.mem_append_left _ (List.mem_append_left _ (List.mem_append_left _ (List.mem_append_left _ (List.mem_append_left _ (List.mem_append_left _ h)))))))))
theorem wsL_r2 : ∀ w ∈ wsL_law_r2, w ∈ wsL_law := fun _ h => (List.mem_append_left _ (List.mem_append_left _ (List.mem_append_left _ (List.mem_append_left _ (List.mem_append_left _ (List.mem_append_left _ (List.mem_append_left _ (List.mem_append_left _ (List.mem_append_right _ (List.mem_append_left _ h))))))))))
theorem wsL_r3 : ∀ w ∈ wsL_law_r3, w ∈ wsL_law := fun _ h => (List.mem_append_left _ (List.mem_append_left _ (List.mem_append_left _ (List.mem_append_left _ (List.mem_append_left _ (List.mem_append_left _ (List.mem_append_left _ (List.mem_append_left _ (List.mem_append_right _ (List.mem_append_right _ (List.mem_append_left _ h)))))))))))
theorem wsL_r4 : ∀ w ∈ wsL_law_r4, w ∈ wsL_law := fun _ h => (List.mem_append_left _ (List.mem_append_left _ (List.mem_append_left _ (List.mem_append_left _ (List.mem_append_left _ (List.mem_append_left _ (List.mem_append_left _ (List.mem_append_left _ (List.mem_append_right _ (List.mem_append_right _ (List.mem_append_right _ (List.mem_append_left _ h))))))))))))
theorem wsL_r5 : ∀ w ∈ wsL_law_r5, w ∈ wsL_law := fun _ h => (List.mem_append_left _ (List.mem_append_left _ (List.mem_append_left _ (List.mem_append_left _ (List.mem_append_left _ (List.mem_append_left _ (List.mem_append_left _ (List.mem_append_left _ (List.mem_append_right _ (List.mem_append_right _ (List.mem_append_right _ (List.mem_append_right _ (List.mem_append_left _ h)))))))))))))
theorem wsL_r6 : ∀ w ∈ wsL_law_r6, w ∈ wsL_law := fun _ h => (List.mem_append_left _ (List.mem_append_left _ (List.mem_append_left _ (List.mem_append_left _ (List.mem_append_left _ (List.mem_append_left _ (List.mem_append_left _ (List.mem_append_left _ (List.mem_append_right _ (List.mem_append_right _ (List.mem_append_right _ (List.mem_append_right _ (List.mem_append_right _ (List.mem_append_left _ h))))))))))))))
theorem wsL_r7 : ∀ w ∈ wsL_law_r7, w ∈ wsL_law := fun _ h => (List.mem_append_left _ (List.mem_append_left _ (List.mem_append_left _ (List.mem_append_left _ (List.mem_append_left _ (List.mem_append_left _ (List.mem_append_left _ (List.mem_append_left _ (List.mem_append_right _ (List.mem_append_right _ (List.mem_append_right _ (List.mem_append_right _ (List.mem_append_right _ (List.mem_append_right _ (List.mem_append_left _ h)))))))))))))))
theorem wsL_r8 : ∀ w ∈ wsL_law_r8, w ∈ wsL_law := fun _ h => (List.mem_append_left _ (List.mem_append_left _ (List.mem_append_left _ (List.mem_append_left _ (List.mem_append_left _ (List.mem_append_left _ (List.mem_append_left _ (List.mem_append_left _ (List.mem_append_right _ (List.mem_append_right _ (List.mem_append_right _ (List.mem_append_right _ (List.mem_append_right _ (List.mem_append_right _ (List.mem_append_right _ (List.mem_append_left _ h))))))))))))))))
theorem wsL_r9 : ∀ w ∈ wsL_law_r9, w ∈ wsL_law := fun _ h => (List.mem_append_left _ (List.mem_append_left _ (List.mem_append_left _ (List.mem_append_left _ (List.mem_append_left _ (List.mem_append_left _ (List.mem_append_left _ (List.mem_append_left _ (List.mem_append_right _ (List.mem_append_right _ (List.mem_append_right _ (List.mem_append_right _ (List.mem_append_right _ (List.mem_append_right _ (List.mem_append_right _ (List.mem_append_right _ (List.mem_append_left _ h)))))))))))))))))
theorem wsL_r10 : ∀ w ∈ wsL_law_r10, w ∈ wsL_law := fun _ h => (List.mem_append_left _ (List.mem_append_left _ (List.mem_append_left _ (List.mem_append_left _ (List.mem_append_left _ (List.mem_append_left _ (List.mem_append_left _ (List.mem_append_left _ (List.mem_append_right _ (List.mem_append_right _ (List.mem_append_right _ (List.mem_append_right _ (List.mem_append_right _ (List.mem_append_right _ (List.mem_append_right _ (List.mem_append_right _ (List.mem_append_right _ (List.mem_append_left _ h))))))))))))))))))
theorem wsL_r11 : ∀ w ∈ wsL_law_r11, w ∈ wsL_law := fun _ h => (List.mem_append_left _ (List.mem_append_left _ (List.mem_append_left _ (List.mem_append_left _ (List.mem_append_left _ (List.mem_append_left _ (List.mem_append_left _ (List.mem_append_left _ (List.mem_append_right _ (List.mem_append_right _ (List.mem_append_right _ (List.mem_append_right _ (List.mem_append_right _ (List.mem_append_right _ (List.mem_append_right _ (List.mem_append_right _ (List.mem_append_right _ (List.mem_append_right _ (List.mem_append_left _ h)))))))))))))))))))
theorem wsL_r12 : ∀ w ∈ wsL_law_r12, w ∈ wsL_law := fun _ h => (List.mem_append_left _ (List.mem_append_left _ (List.mem_append_left _ (List.mem_append_left _ (List.mem_append_left _ (List.mem_append_left _ (List.mem_append_left _ (List.mem_append_left _ (List.mem_append_right _ (List.mem_append_right _ (List.mem_append_right _ (List.mem_append_right _ (List.mem_append_right _ (List.mem_append_right _ (List.mem_append_right _ (List.mem_append_right _ (List.mem_append_right _ (List.mem_append_right _ (List.mem_append_right _ (List.mem_append_left _ h))))))))))))))))))))
theorem wsL_r13 : ∀ w ∈ wsL_law_r13, w ∈ wsL_law := fun _ h => (List.mem_append_left _ (List.mem_append_left _ (List.mem_append_left _ (List.mem_append_left _ (List.mem_append_left _ (List.mem_append_left _ (List.mem_append_left _ (List.mem_append_left _ (List.mem_append_right _ (List.mem_append_right _ (List.mem_append_right _ (List.mem_append_right _ (List.mem_append_right _ (List.mem_append_right _ (List.mem_append_right _ (List.mem_append_right _ (List.mem_append_right _ (List.mem_append_right _ (List.mem_append_right _ (List.mem_append_right _ (List.mem_append_left _ h)))))))))))))))))))))
theorem wsL_r14 : ∀ w ∈ wsL_law_r14, w ∈ wsL_law := fun _ h => (List.mem_append_left _ (List.mem_append_left _ (List.mem_append_left _ (List.mem_append_left _ (List.mem_append_left _ (List.mem_append_left _ (List.mem_append_left _ (List.mem_append_left _ (List.mem_append_right _ (List.mem_append_right _ (List.mem_append_right _ (List.mem_append_right _ (List.mem_append_right _ (List.mem_append_right _ (List.mem_append_right _ (List.mem_append_right _ (List.mem_append_right _ (List.mem_append_right _ (List.mem_append_right _ (List.mem_append_right _ (List.mem_append_right _ (List.mem_append_left _ h))))))))))))))))))))))
theorem wsL_r15 : ∀ w ∈ wsL_law_r15, w ∈ wsL_law := fun _ h => (List.mem_append_left _ (List.mem_append_left _ (List.mem_append_left _ (List.mem_append_left _ (List.mem_append_left _ (List.mem_append_left _ (List.mem_append_left _ (List.mem_append_left _ (List.mem_append_right _ (List.mem_append_right _ (List.mem_append_right _ (List.mem_append_right _ (List.mem_append_right _ (List.mem_append_right _ (List.mem_append_right _ (List.mem_append_right _ (List.mem_append_right _ (List.mem_append_right _ (List.mem_append_right _ (List.mem_append_right _ (List.mem_append_right _ (List.mem_append_right _ (List.mem_append_left _ h)))))))))))))))))))))))
theorem wsL_r16 : ∀ w ∈ wsL_law_r16, w ∈ wsL_law := fun _ h => (List.mem_append_left _ (List.mem_append_left _ (List.mem_append_left _ (List.mem_append_left _ (List.mem_append_left _ (List.mem_append_left _ (List.mem_append_left _ (List.mem_append_left _ (List.mem_append_right _ (List.mem_append_right _ (List.mem_append_right _ (List.mem_append_right _ (List.mem_append_right _ (List.mem_append_right _ (List.mem_append_right _ (List.mem_append_right _ (List.mem_append_right _ (List.mem_append_right _ (List.mem_append_right _ (List.mem_append_right _ (List.mem_append_right _ (List.mem_append_right _ (List.mem_append_right _ (List.mem_append_left _ h))))))))))))))))))))))))
theorem wsL_r17 : ∀ w ∈ wsL_law_r17, w ∈ wsL_law := fun _ h => (List.mem_append_left _ (List.mem_append_left _ (List.mem_append_left _ (List.mem_append_left _ (List.mem_append_left _ (List.mem_append_left _ (List.mem_append_left _ (List.mem_append_left _ (List.mem_append_right _ (List.mem_append_right _ (List.mem_append_right _ (List.mem_append_right _ (List.mem_append_right _ (List.mem_append_right _ (List.mem_append_right _ (List.mem_append_right _ (List.mem_append_right _ (List.mem_append_right _ (List.mem_append_right _ (List.mem_append_right _ (List.mem_append_right _ (List.mem_append_right _ (List.mem_append_right _ (List.mem_append_right _ (List.mem_append_left _ h)))))))))))))))))))))))))
theorem wsL_r18 : ∀ w ∈ wsL_law_r18, w ∈ wsL_law := fun _ h => (List.mem_append_left _ (List.mem_append_left _ (List.mem_append_left _ (List.mem_append_left _ (List.mem_append_left _ (List.mem_append_left _ (List.mem_append_left _ (List.mem_append_left _ (List.mem_append_right _ (List.mem_append_right _ (List.mem_append_right _ (List.mem_append_right _ (List.mem_append_right _ (List.mem_append_right _ (List.mem_append_right _ (List.mem_append_right _ (List.mem_append_right _ (List.mem_append_right _ (List.mem_append_right _ (List.mem_append_right _ (List.mem_append_right _ (List.mem_append_right _ (List.mem_append_right _ (List.mem_append_right _ (List.mem_append_right _ (List.mem_append_left _ h))))))))))))))))))))))))))
theorem wsL_r19 : ∀ w ∈ wsL_law_r19, w ∈ wsL_law := fun _ h => (List.mem_append_left _ (List.mem_append_left _ (List.mem_append_left _ (List.mem_append_left _ (List.mem_append_left _ (List.mem_append_left _ (List.mem_append_left _ (List.mem_append_left _ (List.mem_append_right _ (List.mem_append_right _ (List.mem_append_right _ (List.mem_append_right _ (List.mem_append_right _ (List.mem_append_right _ (List.mem_append_right _ (List.mem_append_right _ (List.mem_append_right _ (List.mem_append_right _ (List.mem_append_right _ (List.mem_append_right _ (List.mem_append_right _ (List.mem_append_right _ (List.mem_append_right _ (List.mem_append_right _ (List.mem_append_right _ (List.mem_append_right _ (List.mem_append_left _ h)))))))))))))))))))))))))))
theorem wsL_r20 : ∀ w ∈ wsL_law_r20, w ∈ wsL_law := fun _ h => (List.mem_append_left _ (List.mem_append_left _ (List.mem_append_left _ (List.mem_append_left _ (List.mem_append_left _ (List.mem_append_left _ (List.mem_append_left _ (List.mem_append_left _ (List.mem_append_right _ (List.mem_append_right _ (List.mem_append_right _ (List.mem_append_right _ (List.mem_append_right _ (List.mem_append_right _ (List.mem_append_right _ (List.mem_append_right _ (List.mem_append_right _ (List.mem_append_right _ (List.mem_append_right _ (List.mem_append_right _ (List.mem_append_right _ (List.mem_append_right _ (List.mem_append_right _ (List.mem_append_right _ (List.mem_append_right _ (List.mem_append_right _ (List.mem_append_right _ (List.mem_append_left _ h))))))))))))))))))))))))))))
theorem wsL_r21 : ∀ w ∈ wsL_law_r21, w ∈ wsL_law := fun _ h => (List.mem_append_left _ (List.mem_append_left _ (List.mem_append_left _ (List.mem_append_left _ (List.mem_append_left _ (List.mem_append_left _ (List.mem_append_left _ (List.mem_append_left _ (List.mem_append_right _ (List.mem_append_right _ (List.mem_append_right _ (List.mem_append_right _ (List.mem_append_right _ (List.mem_append_right _ (List.mem_append_right _ (List.mem_append_right _ (List.mem_append_right _ (List.mem_append_right _ (List.mem_append_right _ (List.mem_append_right _ (List.mem_append_right _ (List.mem_append_right _ (List.mem_append_right _ (List.mem_append_right _ (List.mem_append_right _ (List.mem_append_right _ (List.mem_append_right _ (List.mem_append_right _ (List.mem_append_left _ h)))))))))))))))))))))))))))))
theorem wsL_r22 : ∀ w ∈ wsL_law_r22, w ∈ wsL_law := fun _ h => (List.mem_append_left _ (List.mem_append_left _ (List.mem_append_left _ (List.mem_append_left _ (List.mem_append_left _ (List.mem_append_left _ (List.mem_append_left _ (List.mem_append_left _ (List.mem_append_right _ (List.mem_append_right _ (List.mem_append_right _ (List.mem_append_right _ (List.mem_append_right _ (List.mem_append_right _ (List.mem_append_right _ (List.mem_append_right _ (List.mem_append_right _ (List.mem_append_right _ (List.mem_append_right _ (List.mem_append_right _ (List.mem_append_right _ (List.mem_append_right _ (List.mem_append_right _ (List.mem_append_right _ (List.mem_append_right _ (List.mem_append_right _ (List.mem_append_right _ (List.mem_append_right _ (List.mem_append_right _ (List.mem_append_left _ h))))))))))))))))))))))))))))))
theorem wsL_r23 : ∀ w ∈ wsL_law_r23, w ∈ wsL_law := fun _ h => (List.mem_append_left _ (List.mem_append_left _ (List.mem_append_left _ (List.mem_append_left _ (List.mem_append_left _ (List.mem_append_left _ (List.mem_append_left _ (List.mem_append_left _ (List.mem_append_right _ (List.mem_append_right _ (List.mem_append_right _ (List.mem_append_right _ (List.mem_append_right _ (List.mem_append_right _ (List.mem_append_right _ (List.mem_append_right _ (List.mem_append_right _ (List.mem_append_right _ (List.mem_append_right _ (List.mem_append_right _ (List.mem_append_right _ (List.mem_append_right _ (List.mem_append_right _ (List.mem_append_right _ (List.mem_append_right _ (List.mem_append_right _ (List.mem_append_right _ (List.mem_append_right _ (List.mem_append_right _ (List.mem_append_right _ (List.mem_append_left _ h)))))))))))))))))))))))))))))))
theorem wsL_r24 : ∀ w ∈ wsL_law_r24, w ∈ wsL_law := fun _ h => (List.mem_append_left _ (List.mem_append_left _ (List.mem_append_left _ (List.mem_append_left _ (List.mem_append_left _ (List.mem_append_left _ (List.mem_append_left _ (List.mem_append_left _ (List.mem_append_right _ (List.mem_append_right _ (List.mem_append_right _ (List.mem_append_right _ (List.mem_append_right _ (List.mem_append_right _ (List.mem_append_right _ (List.mem_append_right _ (List.mem_append_right _ (List.mem_append_right _ (List.mem_append_right _ (List.mem_append_right _ (List.mem_append_right _ (List.mem_append_right _ (List.mem_append_right _ (List.mem_append_right _ (List.mem_append_right _ (List.mem_append_right _ (List.mem_append_right _ (List.mem_append_right _ (List.mem_append_right _ (List.mem_append_right _ (List.mem_append_right _ (List.mem_append_left _ h))))))))))))))))))))))))))))))))
theorem wsL_r25 : ∀ w ∈ wsL_law_r25, w ∈ wsL_law := fun _ h => (List.mem_append_left _ (List.mem_append_left _ (List.mem_append_left _ (List.mem_append_left _ (List.mem_append_left _ (List.mem_append_left _ (List.mem_append_left _ (List.mem_append_left _ (List.mem_append_right _ (List.mem_append_right _ (List.mem_append_right _ (List.mem_append_right _ (List.mem_append_right _ (List.mem_append_right _ (List.mem_append_right _ (List.mem_append_right _ (List.mem_append_right _ (List.mem_append_right _ (List.mem_append_right _ (List.mem_append_right _ (List.mem_append_right _ (List.mem_append_right _ (List.mem_append_right _ (List.mem_append_right _ (List.mem_append_right _ (List.mem_append_right _ (List.mem_append_right _ (List.mem_append_right _ (List.mem_append_right _ (List.mem_append_right _ (List.mem_append_right _ (List.mem_append_right _ (List.mem_append_left _ h)))))))))))))))))))))))))))))))))
theorem wsL_r26 : ∀ w ∈ wsL_law_r26, w ∈ wsL_law := fun _ h => (List.mem_append_left _ (List.mem_append_left _ (List.mem_append_left _ (List.mem_append_left _ (List.mem_append_left _ (List.mem_append_left _ (List.mem_append_left _ (List.mem_append_left _ (List.mem_append_right _ (List.mem_append_right _ (List.mem_append_right _ (List.mem_append_right _ (List.mem_append_right _ (List.mem_append_right _ (List.mem_append_right _ (List.mem_append_right _ (List.mem_append_right _ (List.mem_append_right _ (List.mem_append_right _ (List.mem_append_right _ (List.mem_append_right _ (List.mem_append_right _ (List.mem_append_right _ (List.mem_append_right _ (List.mem_append_right _ (List.mem_append_right _ (List.mem_append_right _ (List.mem_append_right _ (List.mem_append_right _ (List.mem_append_right _ (List.mem_append_right _ (List.mem_append_right _ (List.mem_append_right _ (List.mem_append_left _ h))))))))))))))))))))))))))))))))))
theorem wsL_r27 : ∀ w ∈ wsL_law_r27, w ∈ wsL_law := fun _ h => (List.mem_append_left _ (List.mem_append_left _ (List.mem_append_left _ (List.mem_append_left _ (List.mem_append_left _ (List.mem_append_left _ (List.mem_append_left _ (List.mem_append_left _ (List.mem_append_right _ (List.mem_append_right _ (List.mem_append_right _ (List.mem_append_right _ (List.mem_append_right _ (List.mem_append_right _ (List.mem_append_right _ (List.mem_append_right _ (List.mem_append_right _ (List.mem_append_right _ (List.mem_append_right _ (List.mem_append_right _ (List.mem_append_right _ (List.mem_append_right _ (List.mem_append_right _ (List.mem_append_right _ (List.mem_append_right _ (List.mem_append_right _ (List.mem_append_right _ (List.mem_append_right _ (List.mem_append_right _ (List.mem_append_right _ (List.mem_append_right _ (List.mem_append_right _ (List.mem_append_right _ (List.mem_append_right _ (List.mem_append_left _ h)))))))))))))))))))))))))))))))))))
theorem wsL_r28 : ∀ w ∈ wsL_law_r28, w ∈ wsL_law := fun _ h => (List.mem_append_left _ (List.mem_append_left _ (List.mem_append_left _ (List.mem_append_left _ (List.mem_append_left _ (List.mem_append_left _ (List.mem_append_left _ (List.mem_append_left _ (List.mem_append_right _ (List.mem_append_right _ (List.mem_append_right _ (List.mem_append_right _ (List.mem_append_right _ (List.mem_append_right _ (List.mem_append_right _ (List.mem_append_right _ (List.mem_append_right _ (List.mem_append_right _ (List.mem_append_right _ (List.mem_append_right _ (List.mem_append_right _ (List.mem_append_right _ (List.mem_append_right _ (List.mem_append_right _ (List.mem_append_right _ (List.mem_append_right _ (List.mem_append_right _ (List.mem_append_right _ (List.mem_append_right _ (List.mem_append_right _ (List.mem_append_right _ (List.mem_append_right _ (List.mem_append_right _ (List.mem_append_right _ (List.mem_append_right _ (List.mem_append_left _ h))))))))))))))))))))))))))))))))))))
theorem wsL_r29 : ∀ w ∈ wsL_law_r29, w ∈ wsL_law := fun _ h => (List.mem_append_left _ (List.mem_append_left _ (List.mem_append_left _ (List.mem_append_left _ (List.mem_append_left _ (List.mem_append_left _ (List.mem_append_left _ (List.mem_append_left _ (List.mem_append_right _ (List.mem_append_right _ (List.mem_append_right _ (List.mem_append_right _ (List.mem_append_right _ (List.mem_append_right _ (List.mem_append_right _ (List.mem_append_right _ (List.mem_append_right _ (List.mem_append_right _ (List.mem_append_right _ (List.mem_append_right _ (List.mem_append_right _ (List.mem_append_right _ (List.mem_append_right _ (List.mem_append_right _ (List.mem_append_right _ (List.mem_append_right _ (List.mem_append_right _ (List.mem_append_right _ (List.mem_append_right _ (List.mem_append_right _ (List.mem_append_right _ (List.mem_append_right _ (List.mem_append_right _ (List.mem_append_right _ (List.mem_append_right _ (List.mem_append_right _ h))))))))))))))))))))))))))))))))))))
theorem q_1_0 : Cond.classLink RL 7 RX5 ∈ wsL_law := wsL_r1 _ (List.mem_of_getElem? (i := 0) rfl)
theorem q_1_1 : Cond.instantiable RX5 2 ∈ wsL_law := wsL_r1 _ (List.mem_of_getElem? (i := 1) rfl)
theorem q_1_2 : Cond.initialized RX5 ∈ wsL_law := wsL_r1 _ (List.mem_of_getElem? (i := 2) rfl)
theorem q_1_3 : Cond.classLink RL 10 RX6 ∈ wsL_law := wsL_r1 _ (List.mem_of_getElem? (i := 3) rfl)
theorem q_1_4 : Cond.instantiable RX6 26 ∈ wsL_law := wsL_r1 _ (List.mem_of_getElem? (i := 4) rfl)
theorem q_1_5 : Cond.initialized RX6 ∈ wsL_law := wsL_r1 _ (List.mem_of_getElem? (i := 5) rfl)
theorem q_1_6 : Cond.methodLink RL 9 yX5_init ∈ wsL_law := wsL_r1 _ (List.mem_of_getElem? (i := 6) rfl)
theorem q_1_7 : Cond.instanceMethod yX5_init ∈ wsL_law := wsL_r1 _ (List.mem_of_getElem? (i := 7) rfl)
theorem q_1_8 : Cond.code yX5_init cX5_init 1 none ∈ wsL_law := wsL_r1 _ (List.mem_of_getElem? (i := 8) rfl)
theorem q_1_9 : Cond.methodLink RX5 3 objectInit ∈ wsL_law := wsL_r1 _ (List.mem_of_getElem? (i := 9) rfl)
theorem q_1_10 : Cond.instanceMethod objectInit ∈ wsL_law := wsL_r1 _ (List.mem_of_getElem? (i := 10) rfl)
theorem q_1_11 : Cond.code objectInit ⟨#[0xb1]⟩ 1 none ∈ wsL_law := wsL_r1 _ (List.mem_of_getElem? (i := 11) rfl)
theorem q_1_12 : Cond.classLink RX5 9 RX1 ∈ wsL_law := wsL_r1 _ (List.mem_of_getElem? (i := 12) rfl)
theorem q_1_13 : Cond.instantiable RX1 5 ∈ wsL_law := wsL_r1 _ (List.mem_of_getElem? (i := 13) rfl)
theorem q_1_14 : Cond.initialized RX1 ∈ wsL_law := wsL_r1 _ (List.mem_of_getElem? (i := 14) rfl)
theorem q_1_15 : Cond.fieldLink RX5 12 "SpeculativeScheduler" "live" "LSpeculativeScheduler$Cluster;" ∈ wsL_law := wsL_r1 _ (List.mem_of_getElem? (i := 15) rfl)
theorem q_1_16 : Cond.fieldLink RX5 16 "SpeculativeScheduler" "trial" "LSpeculativeScheduler$Cluster;" ∈ wsL_law := wsL_r1 _ (List.mem_of_getElem? (i := 16) rfl)
theorem q_1_17 : Cond.instanceMethod yX1_init ∈ wsL_law := wsL_r1 _ (List.mem_of_getElem? (i := 17) rfl)
theorem q_1_18 : Cond.code yX1_init cX1_init 1 none ∈ wsL_law := wsL_r1 _ (List.mem_of_getElem? (i := 18) rfl)
theorem q_1_19 : Cond.methodLink RX1 3 objectInit ∈ wsL_law := wsL_r1 _ (List.mem_of_getElem? (i := 19) rfl)
theorem q_1_20 : Cond.classLink RX1 9 RX3 ∈ wsL_law := wsL_r1 _ (List.mem_of_getElem? (i := 20) rfl)
theorem q_1_21 : Cond.instantiable RX3 5 ∈ wsL_law := wsL_r1 _ (List.mem_of_getElem? (i := 21) rfl)
theorem q_1_22 : Cond.initialized RX3 ∈ wsL_law := wsL_r1 _ (List.mem_of_getElem? (i := 22) rfl)
theorem q_1_23 : Cond.fieldLink RX1 12 "SpeculativeScheduler$Cluster" "settings" "LSpeculativeScheduler$Settings;" ∈ wsL_law := wsL_r1 _ (List.mem_of_getElem? (i := 23) rfl)
theorem q_2_0 : Cond.classLink RX1 18 RX2 ∈ wsL_law := wsL_r2 _ (List.mem_of_getElem? (i := 0) rfl)
theorem q_2_1 : Cond.instantiable RX2 7 ∈ wsL_law := wsL_r2 _ (List.mem_of_getElem? (i := 1) rfl)
theorem q_2_2 : Cond.initialized RX2 ∈ wsL_law := wsL_r2 _ (List.mem_of_getElem? (i := 2) rfl)
theorem q_2_3 : Cond.fieldLink RX1 21 "SpeculativeScheduler$Cluster" "nodes" "LSpeculativeScheduler$Nodes;" ∈ wsL_law := wsL_r2 _ (List.mem_of_getElem? (i := 3) rfl)
theorem q_2_4 : Cond.classLink RX1 25 RX4 ∈ wsL_law := wsL_r2 _ (List.mem_of_getElem? (i := 4) rfl)
theorem q_2_5 : Cond.instantiable RX4 5 ∈ wsL_law := wsL_r2 _ (List.mem_of_getElem? (i := 5) rfl)
theorem q_2_6 : Cond.initialized RX4 ∈ wsL_law := wsL_r2 _ (List.mem_of_getElem? (i := 6) rfl)
theorem q_2_7 : Cond.fieldLink RX1 28 "SpeculativeScheduler$Cluster" "tasks" "LSpeculativeScheduler$Tasks;" ∈ wsL_law := wsL_r2 _ (List.mem_of_getElem? (i := 7) rfl)
theorem q_2_8 : Cond.classLink RX1 32 RX0 ∈ wsL_law := wsL_r2 _ (List.mem_of_getElem? (i := 8) rfl)
theorem q_2_9 : Cond.instantiable RX0 11 ∈ wsL_law := wsL_r2 _ (List.mem_of_getElem? (i := 9) rfl)
theorem q_2_10 : Cond.initialized RX0 ∈ wsL_law := wsL_r2 _ (List.mem_of_getElem? (i := 10) rfl)
theorem q_2_11 : Cond.fieldLink RX1 35 "SpeculativeScheduler$Cluster" "attempts" "LSpeculativeScheduler$Attempts;" ∈ wsL_law := wsL_r2 _ (List.mem_of_getElem? (i := 11) rfl)
theorem q_2_12 : Cond.fieldLink RX1 39 "SpeculativeScheduler$Cluster" "now" "I" ∈ wsL_law := wsL_r2 _ (List.mem_of_getElem? (i := 12) rfl)
theorem q_2_13 : Cond.instanceMethod yX3_init ∈ wsL_law := wsL_r2 _ (List.mem_of_getElem? (i := 13) rfl)
theorem q_2_14 : Cond.code yX3_init cX3_init 1 none ∈ wsL_law := wsL_r2 _ (List.mem_of_getElem? (i := 14) rfl)
theorem q_2_15 : Cond.methodLink RX3 3 objectInit ∈ wsL_law := wsL_r2 _ (List.mem_of_getElem? (i := 15) rfl)
theorem q_2_16 : Cond.fieldLink RX3 9 "SpeculativeScheduler$Settings" "policy" "I" ∈ wsL_law := wsL_r2 _ (List.mem_of_getElem? (i := 16) rfl)
theorem q_2_17 : Cond.fieldLink RX3 15 "SpeculativeScheduler$Settings" "cap" "I" ∈ wsL_law := wsL_r2 _ (List.mem_of_getElem? (i := 17) rfl)
theorem q_2_18 : Cond.fieldLink RX3 18 "SpeculativeScheduler$Settings" "minimumAge" "I" ∈ wsL_law := wsL_r2 _ (List.mem_of_getElem? (i := 18) rfl)
theorem q_2_19 : Cond.fieldLink RX3 21 "SpeculativeScheduler$Settings" "taskThreshold" "I" ∈ wsL_law := wsL_r2 _ (List.mem_of_getElem? (i := 19) rfl)
theorem q_2_20 : Cond.fieldLink RX3 24 "SpeculativeScheduler$Settings" "nodeThreshold" "I" ∈ wsL_law := wsL_r2 _ (List.mem_of_getElem? (i := 20) rfl)
theorem q_2_21 : Cond.instanceMethod yX2_init ∈ wsL_law := wsL_r2 _ (List.mem_of_getElem? (i := 21) rfl)
theorem q_2_22 : Cond.code yX2_init cX2_init 1 none ∈ wsL_law := wsL_r2 _ (List.mem_of_getElem? (i := 22) rfl)
theorem q_2_23 : Cond.methodLink RX2 3 objectInit ∈ wsL_law := wsL_r2 _ (List.mem_of_getElem? (i := 23) rfl)
theorem q_3_0 : Cond.fieldLink RX2 9 "SpeculativeScheduler$Nodes" "count" "I" ∈ wsL_law := wsL_r3 _ (List.mem_of_getElem? (i := 0) rfl)
theorem q_3_1 : Cond.arrayClass .int ∈ wsL_law := wsL_r3 _ (List.mem_of_getElem? (i := 1) rfl)
theorem q_3_2 : Cond.fieldLink RX2 15 "SpeculativeScheduler$Nodes" "speed" "[I" ∈ wsL_law := wsL_r3 _ (List.mem_of_getElem? (i := 2) rfl)
theorem q_3_3 : Cond.fieldLink RX2 19 "SpeculativeScheduler$Nodes" "slots" "[I" ∈ wsL_law := wsL_r3 _ (List.mem_of_getElem? (i := 3) rfl)
theorem q_3_4 : Cond.arrayClass .boolean ∈ wsL_law := wsL_r3 _ (List.mem_of_getElem? (i := 4) rfl)
theorem q_3_5 : Cond.fieldLink RX2 22 "SpeculativeScheduler$Nodes" "up" "[Z" ∈ wsL_law := wsL_r3 _ (List.mem_of_getElem? (i := 5) rfl)
theorem q_3_6 : Cond.fieldLink RX2 26 "SpeculativeScheduler$Nodes" "busy" "[I" ∈ wsL_law := wsL_r3 _ (List.mem_of_getElem? (i := 6) rfl)
theorem q_3_7 : Cond.fieldLink RX2 29 "SpeculativeScheduler$Nodes" "workSum" "[I" ∈ wsL_law := wsL_r3 _ (List.mem_of_getElem? (i := 7) rfl)
theorem q_3_8 : Cond.fieldLink RX2 32 "SpeculativeScheduler$Nodes" "ageSum" "[I" ∈ wsL_law := wsL_r3 _ (List.mem_of_getElem? (i := 8) rfl)
theorem q_3_9 : Cond.instanceMethod yX4_init ∈ wsL_law := wsL_r3 _ (List.mem_of_getElem? (i := 9) rfl)
theorem q_3_10 : Cond.code yX4_init cX4_init 1 none ∈ wsL_law := wsL_r3 _ (List.mem_of_getElem? (i := 10) rfl)
theorem q_3_11 : Cond.methodLink RX4 3 objectInit ∈ wsL_law := wsL_r3 _ (List.mem_of_getElem? (i := 11) rfl)
theorem q_3_12 : Cond.fieldLink RX4 9 "SpeculativeScheduler$Tasks" "count" "I" ∈ wsL_law := wsL_r3 _ (List.mem_of_getElem? (i := 12) rfl)
theorem q_3_13 : Cond.fieldLink RX4 15 "SpeculativeScheduler$Tasks" "work" "[I" ∈ wsL_law := wsL_r3 _ (List.mem_of_getElem? (i := 13) rfl)
theorem q_3_14 : Cond.fieldLink RX4 19 "SpeculativeScheduler$Tasks" "runs" "[I" ∈ wsL_law := wsL_r3 _ (List.mem_of_getElem? (i := 14) rfl)
theorem q_3_15 : Cond.fieldLink RX4 22 "SpeculativeScheduler$Tasks" "committed" "[I" ∈ wsL_law := wsL_r3 _ (List.mem_of_getElem? (i := 15) rfl)
theorem q_3_16 : Cond.fieldLink RX4 25 "SpeculativeScheduler$Tasks" "finish" "[I" ∈ wsL_law := wsL_r3 _ (List.mem_of_getElem? (i := 16) rfl)
theorem q_3_17 : Cond.instanceMethod yX0_init ∈ wsL_law := wsL_r3 _ (List.mem_of_getElem? (i := 17) rfl)
theorem q_3_18 : Cond.code yX0_init cX0_init 1 none ∈ wsL_law := wsL_r3 _ (List.mem_of_getElem? (i := 18) rfl)
theorem q_3_19 : Cond.methodLink RX0 3 objectInit ∈ wsL_law := wsL_r3 _ (List.mem_of_getElem? (i := 19) rfl)
theorem q_3_20 : Cond.fieldLink RX0 9 "SpeculativeScheduler$Attempts" "count" "I" ∈ wsL_law := wsL_r3 _ (List.mem_of_getElem? (i := 20) rfl)
theorem q_3_21 : Cond.fieldLink RX0 15 "SpeculativeScheduler$Attempts" "task" "[I" ∈ wsL_law := wsL_r3 _ (List.mem_of_getElem? (i := 21) rfl)
theorem q_3_22 : Cond.fieldLink RX0 19 "SpeculativeScheduler$Attempts" "node" "[I" ∈ wsL_law := wsL_r3 _ (List.mem_of_getElem? (i := 22) rfl)
theorem q_3_23 : Cond.fieldLink RX0 22 "SpeculativeScheduler$Attempts" "state" "[I" ∈ wsL_law := wsL_r3 _ (List.mem_of_getElem? (i := 23) rfl)
theorem q_4_0 : Cond.fieldLink RX0 25 "SpeculativeScheduler$Attempts" "speculative" "[Z" ∈ wsL_law := wsL_r4 _ (List.mem_of_getElem? (i := 0) rfl)
theorem q_4_1 : Cond.fieldLink RX0 29 "SpeculativeScheduler$Attempts" "age" "[I" ∈ wsL_law := wsL_r4 _ (List.mem_of_getElem? (i := 1) rfl)
theorem q_4_2 : Cond.fieldLink RX0 32 "SpeculativeScheduler$Attempts" "done" "[I" ∈ wsL_law := wsL_r4 _ (List.mem_of_getElem? (i := 2) rfl)
theorem q_4_3 : Cond.fieldLink RX0 35 "SpeculativeScheduler$Attempts" "progress" "[I" ∈ wsL_law := wsL_r4 _ (List.mem_of_getElem? (i := 3) rfl)
theorem q_4_4 : Cond.fieldLink RX0 38 "SpeculativeScheduler$Attempts" "rate" "[I" ∈ wsL_law := wsL_r4 _ (List.mem_of_getElem? (i := 4) rfl)
theorem q_4_5 : Cond.fieldLink RX0 41 "SpeculativeScheduler$Attempts" "running" "[I" ∈ wsL_law := wsL_r4 _ (List.mem_of_getElem? (i := 5) rfl)
theorem q_4_6 : Cond.fieldLink RX0 44 "SpeculativeScheduler$Attempts" "runningCount" "I" ∈ wsL_law := wsL_r4 _ (List.mem_of_getElem? (i := 6) rfl)
theorem q_4_7 : Cond.methodLink RL 12 yX6_init ∈ wsL_law := wsL_r4 _ (List.mem_of_getElem? (i := 7) rfl)
theorem q_4_8 : Cond.instanceMethod yX6_init ∈ wsL_law := wsL_r4 _ (List.mem_of_getElem? (i := 8) rfl)
theorem q_4_9 : Cond.code yX6_init cX6_init 1 none ∈ wsL_law := wsL_r4 _ (List.mem_of_getElem? (i := 9) rfl)
theorem q_4_10 : Cond.methodLink RX6 1 objectInit ∈ wsL_law := wsL_r4 _ (List.mem_of_getElem? (i := 10) rfl)
theorem q_4_11 : Cond.fieldLink RX6 7 "SpeculativeSchedulerModel" "speedOf" "[I" ∈ wsL_law := wsL_r4 _ (List.mem_of_getElem? (i := 11) rfl)
theorem q_4_12 : Cond.fieldLink RX6 13 "SpeculativeSchedulerModel" "slotsOf" "[I" ∈ wsL_law := wsL_r4 _ (List.mem_of_getElem? (i := 12) rfl)
theorem q_4_13 : Cond.fieldLink RX6 16 "SpeculativeSchedulerModel" "isUp" "[Z" ∈ wsL_law := wsL_r4 _ (List.mem_of_getElem? (i := 13) rfl)
theorem q_4_14 : Cond.fieldLink RX6 20 "SpeculativeSchedulerModel" "workOf" "[I" ∈ wsL_law := wsL_r4 _ (List.mem_of_getElem? (i := 14) rfl)
theorem q_4_15 : Cond.fieldLink RX6 23 "SpeculativeSchedulerModel" "cap" "I" ∈ wsL_law := wsL_r4 _ (List.mem_of_getElem? (i := 15) rfl)
theorem q_4_16 : Cond.fieldLink RX6 27 "SpeculativeSchedulerModel" "minimumAge" "I" ∈ wsL_law := wsL_r4 _ (List.mem_of_getElem? (i := 16) rfl)
theorem q_4_17 : Cond.fieldLink RX6 30 "SpeculativeSchedulerModel" "taskThreshold" "I" ∈ wsL_law := wsL_r4 _ (List.mem_of_getElem? (i := 17) rfl)
theorem q_4_18 : Cond.fieldLink RX6 33 "SpeculativeSchedulerModel" "nodeThreshold" "I" ∈ wsL_law := wsL_r4 _ (List.mem_of_getElem? (i := 18) rfl)
theorem q_4_19 : Cond.fieldLink RX6 36 "SpeculativeSchedulerModel" "attempts" "[I" ∈ wsL_law := wsL_r4 _ (List.mem_of_getElem? (i := 19) rfl)
theorem q_4_20 : Cond.fieldLink RX6 39 "SpeculativeSchedulerModel" "clock" "[I" ∈ wsL_law := wsL_r4 _ (List.mem_of_getElem? (i := 20) rfl)
theorem q_4_21 : Cond.fieldLink RX6 42 "SpeculativeSchedulerModel" "taskOf" "[I" ∈ wsL_law := wsL_r4 _ (List.mem_of_getElem? (i := 21) rfl)
theorem q_4_22 : Cond.fieldLink RX6 45 "SpeculativeSchedulerModel" "nodeOf" "[I" ∈ wsL_law := wsL_r4 _ (List.mem_of_getElem? (i := 22) rfl)
theorem q_4_23 : Cond.fieldLink RX6 48 "SpeculativeSchedulerModel" "ageOf" "[I" ∈ wsL_law := wsL_r4 _ (List.mem_of_getElem? (i := 23) rfl)
theorem q_5_0 : Cond.fieldLink RX6 51 "SpeculativeSchedulerModel" "doneOf" "[I" ∈ wsL_law := wsL_r5 _ (List.mem_of_getElem? (i := 0) rfl)
theorem q_5_1 : Cond.fieldLink RX6 54 "SpeculativeSchedulerModel" "stateOf" "[I" ∈ wsL_law := wsL_r5 _ (List.mem_of_getElem? (i := 1) rfl)
theorem q_5_2 : Cond.fieldLink RX6 57 "SpeculativeSchedulerModel" "isSecond" "[Z" ∈ wsL_law := wsL_r5 _ (List.mem_of_getElem? (i := 2) rfl)
theorem q_5_3 : Cond.fieldLink RX6 60 "SpeculativeSchedulerModel" "commitOf" "[I" ∈ wsL_law := wsL_r5 _ (List.mem_of_getElem? (i := 3) rfl)
theorem q_5_4 : Cond.fieldLink RX6 63 "SpeculativeSchedulerModel" "finishOf" "[I" ∈ wsL_law := wsL_r5 _ (List.mem_of_getElem? (i := 4) rfl)
theorem q_5_5 : Cond.fieldLink RX6 66 "SpeculativeSchedulerModel" "runningOf" "[I" ∈ wsL_law := wsL_r5 _ (List.mem_of_getElem? (i := 5) rfl)
theorem q_5_6 : Cond.fieldLink RX6 69 "SpeculativeSchedulerModel" "busyOf" "[I" ∈ wsL_law := wsL_r5 _ (List.mem_of_getElem? (i := 6) rfl)
theorem q_5_7 : Cond.fieldLink RX6 72 "SpeculativeSchedulerModel" "agesOf" "[I" ∈ wsL_law := wsL_r5 _ (List.mem_of_getElem? (i := 7) rfl)
theorem q_5_8 : Cond.fieldLink RX6 75 "SpeculativeSchedulerModel" "worksOf" "[I" ∈ wsL_law := wsL_r5 _ (List.mem_of_getElem? (i := 8) rfl)
theorem q_5_9 : Cond.fieldLink RX6 78 "SpeculativeSchedulerModel" "policyNow" "I" ∈ wsL_law := wsL_r5 _ (List.mem_of_getElem? (i := 9) rfl)
theorem q_5_10 : Cond.methodLink RL 13 yX5_addNode ∈ wsL_law := wsL_r5 _ (List.mem_of_getElem? (i := 10) rfl)
theorem q_5_11 : Cond.instanceMethod yX5_addNode ∈ wsL_law := wsL_r5 _ (List.mem_of_getElem? (i := 11) rfl)
theorem q_5_12 : Cond.selects RX5 yX5_addNode yX5_addNode ∈ wsL_law := wsL_r5 _ (List.mem_of_getElem? (i := 12) rfl)
theorem q_5_13 : Cond.code yX5_addNode cX5_addNode 3 (some .int) ∈ wsL_law := wsL_r5 _ (List.mem_of_getElem? (i := 13) rfl)
theorem q_5_14 : Cond.fieldLink RX5 23 "SpeculativeScheduler$Cluster" "nodes" "LSpeculativeScheduler$Nodes;" ∈ wsL_law := wsL_r5 _ (List.mem_of_getElem? (i := 14) rfl)
theorem q_5_15 : Cond.methodLink RX5 19 yX5_inRange ∈ wsL_law := wsL_r5 _ (List.mem_of_getElem? (i := 15) rfl)
theorem q_5_16 : Cond.static yX5_inRange ∈ wsL_law := wsL_r5 _ (List.mem_of_getElem? (i := 16) rfl)
theorem q_5_17 : Cond.code yX5_inRange cX5_inRange 3 (some .boolean) ∈ wsL_law := wsL_r5 _ (List.mem_of_getElem? (i := 17) rfl)
theorem q_5_18 : Cond.methodLink RX5 27 yX2_add ∈ wsL_law := wsL_r5 _ (List.mem_of_getElem? (i := 18) rfl)
theorem q_5_19 : Cond.instanceMethod yX2_add ∈ wsL_law := wsL_r5 _ (List.mem_of_getElem? (i := 19) rfl)
theorem q_5_20 : Cond.selects RX2 yX2_add yX2_add ∈ wsL_law := wsL_r5 _ (List.mem_of_getElem? (i := 20) rfl)
theorem q_5_21 : Cond.code yX2_add cX2_add 4 (some .int) ∈ wsL_law := wsL_r5 _ (List.mem_of_getElem? (i := 21) rfl)
theorem q_5_22 : Cond.methodLink RL 17 yX6_addNode ∈ wsL_law := wsL_r5 _ (List.mem_of_getElem? (i := 22) rfl)
theorem q_5_23 : Cond.instanceMethod yX6_addNode ∈ wsL_law := wsL_r5 _ (List.mem_of_getElem? (i := 23) rfl)
theorem q_6_0 : Cond.selects RX6 yX6_addNode yX6_addNode ∈ wsL_law := wsL_r6 _ (List.mem_of_getElem? (i := 0) rfl)
theorem q_6_1 : Cond.code yX6_addNode cX6_addNode 3 (some .int) ∈ wsL_law := wsL_r6 _ (List.mem_of_getElem? (i := 1) rfl)
theorem q_6_2 : Cond.fieldLink RX6 81 "SpeculativeSchedulerModel" "nodes" "I" ∈ wsL_law := wsL_r6 _ (List.mem_of_getElem? (i := 2) rfl)
theorem q_6_3 : Cond.methodLink RX6 84 yX6_within ∈ wsL_law := wsL_r6 _ (List.mem_of_getElem? (i := 3) rfl)
theorem q_6_4 : Cond.static yX6_within ∈ wsL_law := wsL_r6 _ (List.mem_of_getElem? (i := 4) rfl)
theorem q_6_5 : Cond.code yX6_within cX6_within 3 (some .boolean) ∈ wsL_law := wsL_r6 _ (List.mem_of_getElem? (i := 5) rfl)
theorem q_6_6 : Cond.methodLink RL 18 yX5_setSpeed ∈ wsL_law := wsL_r6 _ (List.mem_of_getElem? (i := 6) rfl)
theorem q_6_7 : Cond.instanceMethod yX5_setSpeed ∈ wsL_law := wsL_r6 _ (List.mem_of_getElem? (i := 7) rfl)
theorem q_6_8 : Cond.selects RX5 yX5_setSpeed yX5_setSpeed ∈ wsL_law := wsL_r6 _ (List.mem_of_getElem? (i := 8) rfl)
theorem q_6_9 : Cond.code yX5_setSpeed cX5_setSpeed 4 (some .int) ∈ wsL_law := wsL_r6 _ (List.mem_of_getElem? (i := 9) rfl)
theorem q_6_10 : Cond.fieldLink RX5 37 "SpeculativeScheduler$Nodes" "speed" "[I" ∈ wsL_law := wsL_r6 _ (List.mem_of_getElem? (i := 10) rfl)
theorem q_6_11 : Cond.methodLink RX5 33 yX2_has ∈ wsL_law := wsL_r6 _ (List.mem_of_getElem? (i := 11) rfl)
theorem q_6_12 : Cond.instanceMethod yX2_has ∈ wsL_law := wsL_r6 _ (List.mem_of_getElem? (i := 12) rfl)
theorem q_6_13 : Cond.selects RX2 yX2_has yX2_has ∈ wsL_law := wsL_r6 _ (List.mem_of_getElem? (i := 13) rfl)
theorem q_6_14 : Cond.code yX2_has cX2_has 2 (some .boolean) ∈ wsL_law := wsL_r6 _ (List.mem_of_getElem? (i := 14) rfl)
theorem q_6_15 : Cond.methodLink RL 21 yX6_setSpeed ∈ wsL_law := wsL_r6 _ (List.mem_of_getElem? (i := 15) rfl)
theorem q_6_16 : Cond.instanceMethod yX6_setSpeed ∈ wsL_law := wsL_r6 _ (List.mem_of_getElem? (i := 16) rfl)
theorem q_6_17 : Cond.selects RX6 yX6_setSpeed yX6_setSpeed ∈ wsL_law := wsL_r6 _ (List.mem_of_getElem? (i := 17) rfl)
theorem q_6_18 : Cond.code yX6_setSpeed cX6_setSpeed 4 (some .int) ∈ wsL_law := wsL_r6 _ (List.mem_of_getElem? (i := 18) rfl)
theorem q_6_19 : Cond.methodLink RX6 94 yX6_isNode ∈ wsL_law := wsL_r6 _ (List.mem_of_getElem? (i := 19) rfl)
theorem q_6_20 : Cond.instanceMethod yX6_isNode ∈ wsL_law := wsL_r6 _ (List.mem_of_getElem? (i := 20) rfl)
theorem q_6_21 : Cond.selects RX6 yX6_isNode yX6_isNode ∈ wsL_law := wsL_r6 _ (List.mem_of_getElem? (i := 21) rfl)
theorem q_6_22 : Cond.code yX6_isNode cX6_isNode 2 (some .boolean) ∈ wsL_law := wsL_r6 _ (List.mem_of_getElem? (i := 22) rfl)
theorem q_6_23 : Cond.methodLink RL 22 yX5_failNode ∈ wsL_law := wsL_r6 _ (List.mem_of_getElem? (i := 23) rfl)
theorem q_7_0 : Cond.instanceMethod yX5_failNode ∈ wsL_law := wsL_r7 _ (List.mem_of_getElem? (i := 0) rfl)
theorem q_7_1 : Cond.selects RX5 yX5_failNode yX5_failNode ∈ wsL_law := wsL_r7 _ (List.mem_of_getElem? (i := 1) rfl)
theorem q_7_2 : Cond.code yX5_failNode cX5_failNode 2 (some .int) ∈ wsL_law := wsL_r7 _ (List.mem_of_getElem? (i := 2) rfl)
theorem q_7_3 : Cond.fieldLink RX5 41 "SpeculativeScheduler$Nodes" "up" "[Z" ∈ wsL_law := wsL_r7 _ (List.mem_of_getElem? (i := 3) rfl)
theorem q_7_4 : Cond.methodLink RX5 45 yX1_loseAttemptsOn ∈ wsL_law := wsL_r7 _ (List.mem_of_getElem? (i := 4) rfl)
theorem q_7_5 : Cond.instanceMethod yX1_loseAttemptsOn ∈ wsL_law := wsL_r7 _ (List.mem_of_getElem? (i := 5) rfl)
theorem q_7_6 : Cond.selects RX1 yX1_loseAttemptsOn yX1_loseAttemptsOn ∈ wsL_law := wsL_r7 _ (List.mem_of_getElem? (i := 6) rfl)
theorem q_7_7 : Cond.code yX1_loseAttemptsOn cX1_loseAttemptsOn 5 (some .int) ∈ wsL_law := wsL_r7 _ (List.mem_of_getElem? (i := 7) rfl)
theorem q_7_8 : Cond.fieldLink RX1 125 "SpeculativeScheduler$Attempts" "runningCount" "I" ∈ wsL_law := wsL_r7 _ (List.mem_of_getElem? (i := 8) rfl)
theorem q_7_9 : Cond.fieldLink RX1 128 "SpeculativeScheduler$Attempts" "running" "[I" ∈ wsL_law := wsL_r7 _ (List.mem_of_getElem? (i := 9) rfl)
theorem q_7_10 : Cond.fieldLink RX1 108 "SpeculativeScheduler$Attempts" "node" "[I" ∈ wsL_law := wsL_r7 _ (List.mem_of_getElem? (i := 10) rfl)
theorem q_7_11 : Cond.methodLink RX1 159 yX1_end ∈ wsL_law := wsL_r7 _ (List.mem_of_getElem? (i := 11) rfl)
theorem q_7_12 : Cond.instanceMethod yX1_end ∈ wsL_law := wsL_r7 _ (List.mem_of_getElem? (i := 12) rfl)
theorem q_7_13 : Cond.selects RX1 yX1_end yX1_end ∈ wsL_law := wsL_r7 _ (List.mem_of_getElem? (i := 13) rfl)
theorem q_7_14 : Cond.code yX1_end cX1_end 3 none ∈ wsL_law := wsL_r7 _ (List.mem_of_getElem? (i := 14) rfl)
theorem q_7_15 : Cond.fieldLink RX1 147 "SpeculativeScheduler$Attempts" "state" "[I" ∈ wsL_law := wsL_r7 _ (List.mem_of_getElem? (i := 15) rfl)
theorem q_7_16 : Cond.fieldLink RX1 115 "SpeculativeScheduler$Tasks" "runs" "[I" ∈ wsL_law := wsL_r7 _ (List.mem_of_getElem? (i := 16) rfl)
theorem q_7_17 : Cond.fieldLink RX1 112 "SpeculativeScheduler$Attempts" "task" "[I" ∈ wsL_law := wsL_r7 _ (List.mem_of_getElem? (i := 17) rfl)
theorem q_7_18 : Cond.fieldLink RX1 122 "SpeculativeScheduler$Nodes" "busy" "[I" ∈ wsL_law := wsL_r7 _ (List.mem_of_getElem? (i := 18) rfl)
theorem q_7_19 : Cond.methodLink RX1 156 yX0_dropEnded ∈ wsL_law := wsL_r7 _ (List.mem_of_getElem? (i := 19) rfl)
theorem q_7_20 : Cond.instanceMethod yX0_dropEnded ∈ wsL_law := wsL_r7 _ (List.mem_of_getElem? (i := 20) rfl)
theorem q_7_21 : Cond.selects RX0 yX0_dropEnded yX0_dropEnded ∈ wsL_law := wsL_r7 _ (List.mem_of_getElem? (i := 21) rfl)
theorem q_7_22 : Cond.code yX0_dropEnded cX0_dropEnded 4 none ∈ wsL_law := wsL_r7 _ (List.mem_of_getElem? (i := 22) rfl)
theorem q_7_23 : Cond.methodLink RL 26 yX6_failNode ∈ wsL_law := wsL_r7 _ (List.mem_of_getElem? (i := 23) rfl)
theorem q_8_0 : Cond.instanceMethod yX6_failNode ∈ wsL_law := wsL_r8 _ (List.mem_of_getElem? (i := 0) rfl)
theorem q_8_1 : Cond.selects RX6 yX6_failNode yX6_failNode ∈ wsL_law := wsL_r8 _ (List.mem_of_getElem? (i := 1) rfl)
theorem q_8_2 : Cond.code yX6_failNode cX6_failNode 4 (some .int) ∈ wsL_law := wsL_r8 _ (List.mem_of_getElem? (i := 2) rfl)
theorem q_8_3 : Cond.methodLink RX6 98 yX6_stops ∈ wsL_law := wsL_r8 _ (List.mem_of_getElem? (i := 3) rfl)
theorem q_8_4 : Cond.instanceMethod yX6_stops ∈ wsL_law := wsL_r8 _ (List.mem_of_getElem? (i := 4) rfl)
theorem q_8_5 : Cond.selects RX6 yX6_stops yX6_stops ∈ wsL_law := wsL_r8 _ (List.mem_of_getElem? (i := 5) rfl)
theorem q_8_6 : Cond.code yX6_stops cX6_stops 3 none ∈ wsL_law := wsL_r8 _ (List.mem_of_getElem? (i := 6) rfl)
theorem q_8_7 : Cond.fieldLink RX6 91 "SpeculativeSchedulerModel" "side" "I" ∈ wsL_law := wsL_r8 _ (List.mem_of_getElem? (i := 7) rfl)
theorem q_8_8 : Cond.methodLink RL 27 yX5_repairNode ∈ wsL_law := wsL_r8 _ (List.mem_of_getElem? (i := 8) rfl)
theorem q_8_9 : Cond.instanceMethod yX5_repairNode ∈ wsL_law := wsL_r8 _ (List.mem_of_getElem? (i := 9) rfl)
theorem q_8_10 : Cond.selects RX5 yX5_repairNode yX5_repairNode ∈ wsL_law := wsL_r8 _ (List.mem_of_getElem? (i := 10) rfl)
theorem q_8_11 : Cond.code yX5_repairNode cX5_repairNode 3 (some .int) ∈ wsL_law := wsL_r8 _ (List.mem_of_getElem? (i := 11) rfl)
theorem q_8_12 : Cond.methodLink RL 30 yX6_repairNode ∈ wsL_law := wsL_r8 _ (List.mem_of_getElem? (i := 12) rfl)
theorem q_8_13 : Cond.instanceMethod yX6_repairNode ∈ wsL_law := wsL_r8 _ (List.mem_of_getElem? (i := 13) rfl)
theorem q_8_14 : Cond.selects RX6 yX6_repairNode yX6_repairNode ∈ wsL_law := wsL_r8 _ (List.mem_of_getElem? (i := 14) rfl)
theorem q_8_15 : Cond.code yX6_repairNode cX6_repairNode 3 (some .int) ∈ wsL_law := wsL_r8 _ (List.mem_of_getElem? (i := 15) rfl)
theorem q_8_16 : Cond.methodLink RL 31 yX5_addTask ∈ wsL_law := wsL_r8 _ (List.mem_of_getElem? (i := 16) rfl)
theorem q_8_17 : Cond.instanceMethod yX5_addTask ∈ wsL_law := wsL_r8 _ (List.mem_of_getElem? (i := 17) rfl)
theorem q_8_18 : Cond.selects RX5 yX5_addTask yX5_addTask ∈ wsL_law := wsL_r8 _ (List.mem_of_getElem? (i := 18) rfl)
theorem q_8_19 : Cond.code yX5_addTask cX5_addTask 2 (some .int) ∈ wsL_law := wsL_r8 _ (List.mem_of_getElem? (i := 19) rfl)
theorem q_8_20 : Cond.fieldLink RX5 49 "SpeculativeScheduler$Cluster" "tasks" "LSpeculativeScheduler$Tasks;" ∈ wsL_law := wsL_r8 _ (List.mem_of_getElem? (i := 20) rfl)
theorem q_8_21 : Cond.methodLink RX5 53 yX4_add ∈ wsL_law := wsL_r8 _ (List.mem_of_getElem? (i := 21) rfl)
theorem q_8_22 : Cond.instanceMethod yX4_add ∈ wsL_law := wsL_r8 _ (List.mem_of_getElem? (i := 22) rfl)
theorem q_8_23 : Cond.selects RX4 yX4_add yX4_add ∈ wsL_law := wsL_r8 _ (List.mem_of_getElem? (i := 23) rfl)
theorem q_9_0 : Cond.code yX4_add cX4_add 3 (some .int) ∈ wsL_law := wsL_r9 _ (List.mem_of_getElem? (i := 0) rfl)
theorem q_9_1 : Cond.methodLink RL 34 yX6_addTask ∈ wsL_law := wsL_r9 _ (List.mem_of_getElem? (i := 1) rfl)
theorem q_9_2 : Cond.instanceMethod yX6_addTask ∈ wsL_law := wsL_r9 _ (List.mem_of_getElem? (i := 2) rfl)
theorem q_9_3 : Cond.selects RX6 yX6_addTask yX6_addTask ∈ wsL_law := wsL_r9 _ (List.mem_of_getElem? (i := 3) rfl)
theorem q_9_4 : Cond.code yX6_addTask cX6_addTask 2 (some .int) ∈ wsL_law := wsL_r9 _ (List.mem_of_getElem? (i := 4) rfl)
theorem q_9_5 : Cond.fieldLink RX6 88 "SpeculativeSchedulerModel" "tasks" "I" ∈ wsL_law := wsL_r9 _ (List.mem_of_getElem? (i := 5) rfl)
theorem q_9_6 : Cond.methodLink RL 35 yX5_setPolicy ∈ wsL_law := wsL_r9 _ (List.mem_of_getElem? (i := 6) rfl)
theorem q_9_7 : Cond.instanceMethod yX5_setPolicy ∈ wsL_law := wsL_r9 _ (List.mem_of_getElem? (i := 7) rfl)
theorem q_9_8 : Cond.selects RX5 yX5_setPolicy yX5_setPolicy ∈ wsL_law := wsL_r9 _ (List.mem_of_getElem? (i := 8) rfl)
theorem q_9_9 : Cond.code yX5_setPolicy cX5_setPolicy 3 (some .int) ∈ wsL_law := wsL_r9 _ (List.mem_of_getElem? (i := 9) rfl)
theorem q_9_10 : Cond.fieldLink RX5 60 "SpeculativeScheduler$Cluster" "settings" "LSpeculativeScheduler$Settings;" ∈ wsL_law := wsL_r9 _ (List.mem_of_getElem? (i := 10) rfl)
theorem q_9_11 : Cond.fieldLink RX5 64 "SpeculativeScheduler$Settings" "policy" "I" ∈ wsL_law := wsL_r9 _ (List.mem_of_getElem? (i := 11) rfl)
theorem q_9_12 : Cond.methodLink RX5 57 yX5_isPolicy ∈ wsL_law := wsL_r9 _ (List.mem_of_getElem? (i := 12) rfl)
theorem q_9_13 : Cond.static yX5_isPolicy ∈ wsL_law := wsL_r9 _ (List.mem_of_getElem? (i := 13) rfl)
theorem q_9_14 : Cond.code yX5_isPolicy cX5_isPolicy 1 (some .boolean) ∈ wsL_law := wsL_r9 _ (List.mem_of_getElem? (i := 14) rfl)
theorem q_9_15 : Cond.methodLink RL 38 yX6_setPolicy ∈ wsL_law := wsL_r9 _ (List.mem_of_getElem? (i := 15) rfl)
theorem q_9_16 : Cond.instanceMethod yX6_setPolicy ∈ wsL_law := wsL_r9 _ (List.mem_of_getElem? (i := 16) rfl)
theorem q_9_17 : Cond.selects RX6 yX6_setPolicy yX6_setPolicy ∈ wsL_law := wsL_r9 _ (List.mem_of_getElem? (i := 17) rfl)
theorem q_9_18 : Cond.code yX6_setPolicy cX6_setPolicy 3 (some .int) ∈ wsL_law := wsL_r9 _ (List.mem_of_getElem? (i := 18) rfl)
theorem q_9_19 : Cond.methodLink RL 39 yX5_setLimits ∈ wsL_law := wsL_r9 _ (List.mem_of_getElem? (i := 19) rfl)
theorem q_9_20 : Cond.instanceMethod yX5_setLimits ∈ wsL_law := wsL_r9 _ (List.mem_of_getElem? (i := 20) rfl)
theorem q_9_21 : Cond.selects RX5 yX5_setLimits yX5_setLimits ∈ wsL_law := wsL_r9 _ (List.mem_of_getElem? (i := 21) rfl)
theorem q_9_22 : Cond.code yX5_setLimits cX5_setLimits 5 (some .int) ∈ wsL_law := wsL_r9 _ (List.mem_of_getElem? (i := 22) rfl)
theorem q_9_23 : Cond.fieldLink RX5 70 "SpeculativeScheduler$Settings" "cap" "I" ∈ wsL_law := wsL_r9 _ (List.mem_of_getElem? (i := 23) rfl)
theorem q_10_0 : Cond.fieldLink RX5 73 "SpeculativeScheduler$Settings" "minimumAge" "I" ∈ wsL_law := wsL_r10 _ (List.mem_of_getElem? (i := 0) rfl)
theorem q_10_1 : Cond.methodLink RL 42 yX6_setLimits ∈ wsL_law := wsL_r10 _ (List.mem_of_getElem? (i := 1) rfl)
theorem q_10_2 : Cond.instanceMethod yX6_setLimits ∈ wsL_law := wsL_r10 _ (List.mem_of_getElem? (i := 2) rfl)
theorem q_10_3 : Cond.selects RX6 yX6_setLimits yX6_setLimits ∈ wsL_law := wsL_r10 _ (List.mem_of_getElem? (i := 3) rfl)
theorem q_10_4 : Cond.code yX6_setLimits cX6_setLimits 4 (some .int) ∈ wsL_law := wsL_r10 _ (List.mem_of_getElem? (i := 4) rfl)
theorem q_10_5 : Cond.methodLink RL 43 yX5_setThresholds ∈ wsL_law := wsL_r10 _ (List.mem_of_getElem? (i := 5) rfl)
theorem q_10_6 : Cond.instanceMethod yX5_setThresholds ∈ wsL_law := wsL_r10 _ (List.mem_of_getElem? (i := 6) rfl)
theorem q_10_7 : Cond.selects RX5 yX5_setThresholds yX5_setThresholds ∈ wsL_law := wsL_r10 _ (List.mem_of_getElem? (i := 7) rfl)
theorem q_10_8 : Cond.code yX5_setThresholds cX5_setThresholds 5 (some .int) ∈ wsL_law := wsL_r10 _ (List.mem_of_getElem? (i := 8) rfl)
theorem q_10_9 : Cond.fieldLink RX5 76 "SpeculativeScheduler$Settings" "taskThreshold" "I" ∈ wsL_law := wsL_r10 _ (List.mem_of_getElem? (i := 9) rfl)
theorem q_10_10 : Cond.fieldLink RX5 79 "SpeculativeScheduler$Settings" "nodeThreshold" "I" ∈ wsL_law := wsL_r10 _ (List.mem_of_getElem? (i := 10) rfl)
theorem q_10_11 : Cond.methodLink RL 46 yX6_setThresholds ∈ wsL_law := wsL_r10 _ (List.mem_of_getElem? (i := 11) rfl)
theorem q_10_12 : Cond.instanceMethod yX6_setThresholds ∈ wsL_law := wsL_r10 _ (List.mem_of_getElem? (i := 12) rfl)
theorem q_10_13 : Cond.selects RX6 yX6_setThresholds yX6_setThresholds ∈ wsL_law := wsL_r10 _ (List.mem_of_getElem? (i := 13) rfl)
theorem q_10_14 : Cond.code yX6_setThresholds cX6_setThresholds 4 (some .int) ∈ wsL_law := wsL_r10 _ (List.mem_of_getElem? (i := 14) rfl)
theorem q_10_15 : Cond.methodLink RL 47 yX5_tick ∈ wsL_law := wsL_r10 _ (List.mem_of_getElem? (i := 15) rfl)
theorem q_10_16 : Cond.instanceMethod yX5_tick ∈ wsL_law := wsL_r10 _ (List.mem_of_getElem? (i := 16) rfl)
theorem q_10_17 : Cond.selects RX5 yX5_tick yX5_tick ∈ wsL_law := wsL_r10 _ (List.mem_of_getElem? (i := 17) rfl)
theorem q_10_18 : Cond.code yX5_tick cX5_tick 4 (some .int) ∈ wsL_law := wsL_r10 _ (List.mem_of_getElem? (i := 18) rfl)
theorem q_10_19 : Cond.methodLink RX5 82 yX1_runOneTick ∈ wsL_law := wsL_r10 _ (List.mem_of_getElem? (i := 19) rfl)
theorem q_10_20 : Cond.instanceMethod yX1_runOneTick ∈ wsL_law := wsL_r10 _ (List.mem_of_getElem? (i := 20) rfl)
theorem q_10_21 : Cond.selects RX1 yX1_runOneTick yX1_runOneTick ∈ wsL_law := wsL_r10 _ (List.mem_of_getElem? (i := 21) rfl)
theorem q_10_22 : Cond.code yX1_runOneTick cX1_runOneTick 2 (some .int) ∈ wsL_law := wsL_r10 _ (List.mem_of_getElem? (i := 22) rfl)
theorem q_10_23 : Cond.methodLink RX1 57 yX1_startAttempts ∈ wsL_law := wsL_r10 _ (List.mem_of_getElem? (i := 23) rfl)
theorem q_11_0 : Cond.instanceMethod yX1_startAttempts ∈ wsL_law := wsL_r11 _ (List.mem_of_getElem? (i := 0) rfl)
theorem q_11_1 : Cond.selects RX1 yX1_startAttempts yX1_startAttempts ∈ wsL_law := wsL_r11 _ (List.mem_of_getElem? (i := 1) rfl)
theorem q_11_2 : Cond.code yX1_startAttempts cX1_startAttempts 4 none ∈ wsL_law := wsL_r11 _ (List.mem_of_getElem? (i := 2) rfl)
theorem q_11_3 : Cond.fieldLink RX1 67 "SpeculativeScheduler$Nodes" "count" "I" ∈ wsL_law := wsL_r11 _ (List.mem_of_getElem? (i := 3) rfl)
theorem q_11_4 : Cond.methodLink RX1 70 yX2_hasFreeSlot ∈ wsL_law := wsL_r11 _ (List.mem_of_getElem? (i := 4) rfl)
theorem q_11_5 : Cond.instanceMethod yX2_hasFreeSlot ∈ wsL_law := wsL_r11 _ (List.mem_of_getElem? (i := 5) rfl)
theorem q_11_6 : Cond.selects RX2 yX2_hasFreeSlot yX2_hasFreeSlot ∈ wsL_law := wsL_r11 _ (List.mem_of_getElem? (i := 6) rfl)
theorem q_11_7 : Cond.code yX2_hasFreeSlot cX2_hasFreeSlot 2 (some .boolean) ∈ wsL_law := wsL_r11 _ (List.mem_of_getElem? (i := 7) rfl)
theorem q_11_8 : Cond.methodLink RX1 74 yX0_isFull ∈ wsL_law := wsL_r11 _ (List.mem_of_getElem? (i := 8) rfl)
theorem q_11_9 : Cond.instanceMethod yX0_isFull ∈ wsL_law := wsL_r11 _ (List.mem_of_getElem? (i := 9) rfl)
theorem q_11_10 : Cond.selects RX0 yX0_isFull yX0_isFull ∈ wsL_law := wsL_r11 _ (List.mem_of_getElem? (i := 10) rfl)
theorem q_11_11 : Cond.code yX0_isFull cX0_isFull 1 (some .boolean) ∈ wsL_law := wsL_r11 _ (List.mem_of_getElem? (i := 11) rfl)
theorem q_11_12 : Cond.methodLink RX1 78 yX4_firstWaiting ∈ wsL_law := wsL_r11 _ (List.mem_of_getElem? (i := 12) rfl)
theorem q_11_13 : Cond.instanceMethod yX4_firstWaiting ∈ wsL_law := wsL_r11 _ (List.mem_of_getElem? (i := 13) rfl)
theorem q_11_14 : Cond.selects RX4 yX4_firstWaiting yX4_firstWaiting ∈ wsL_law := wsL_r11 _ (List.mem_of_getElem? (i := 14) rfl)
theorem q_11_15 : Cond.code yX4_firstWaiting cX4_firstWaiting 2 (some .int) ∈ wsL_law := wsL_r11 _ (List.mem_of_getElem? (i := 15) rfl)
theorem q_11_16 : Cond.methodLink RX4 32 yX4_stateOf ∈ wsL_law := wsL_r11 _ (List.mem_of_getElem? (i := 16) rfl)
theorem q_11_17 : Cond.instanceMethod yX4_stateOf ∈ wsL_law := wsL_r11 _ (List.mem_of_getElem? (i := 17) rfl)
theorem q_11_18 : Cond.selects RX4 yX4_stateOf yX4_stateOf ∈ wsL_law := wsL_r11 _ (List.mem_of_getElem? (i := 18) rfl)
theorem q_11_19 : Cond.code yX4_stateOf cX4_stateOf 2 (some .int) ∈ wsL_law := wsL_r11 _ (List.mem_of_getElem? (i := 19) rfl)
theorem q_11_20 : Cond.methodLink RX1 81 yX1_taskToSpeculate ∈ wsL_law := wsL_r11 _ (List.mem_of_getElem? (i := 20) rfl)
theorem q_11_21 : Cond.instanceMethod yX1_taskToSpeculate ∈ wsL_law := wsL_r11 _ (List.mem_of_getElem? (i := 21) rfl)
theorem q_11_22 : Cond.selects RX1 yX1_taskToSpeculate yX1_taskToSpeculate ∈ wsL_law := wsL_r11 _ (List.mem_of_getElem? (i := 22) rfl)
theorem q_11_23 : Cond.code yX1_taskToSpeculate cX1_taskToSpeculate 3 (some .int) ∈ wsL_law := wsL_r11 _ (List.mem_of_getElem? (i := 23) rfl)
theorem q_12_0 : Cond.fieldLink RX1 92 "SpeculativeScheduler$Settings" "cap" "I" ∈ wsL_law := wsL_r12 _ (List.mem_of_getElem? (i := 0) rfl)
theorem q_12_1 : Cond.fieldLink RX1 95 "SpeculativeScheduler$Settings" "policy" "I" ∈ wsL_law := wsL_r12 _ (List.mem_of_getElem? (i := 1) rfl)
theorem q_12_2 : Cond.fieldLink RX1 98 "SpeculativeScheduler$Settings" "nodeThreshold" "I" ∈ wsL_law := wsL_r12 _ (List.mem_of_getElem? (i := 2) rfl)
theorem q_12_3 : Cond.methodLink RX1 89 yX0_countSpeculative ∈ wsL_law := wsL_r12 _ (List.mem_of_getElem? (i := 3) rfl)
theorem q_12_4 : Cond.instanceMethod yX0_countSpeculative ∈ wsL_law := wsL_r12 _ (List.mem_of_getElem? (i := 4) rfl)
theorem q_12_5 : Cond.selects RX0 yX0_countSpeculative yX0_countSpeculative ∈ wsL_law := wsL_r12 _ (List.mem_of_getElem? (i := 5) rfl)
theorem q_12_6 : Cond.code yX0_countSpeculative cX0_countSpeculative 3 (some .int) ∈ wsL_law := wsL_r12 _ (List.mem_of_getElem? (i := 6) rfl)
theorem q_12_7 : Cond.methodLink RX1 101 yX2_isSlow ∈ wsL_law := wsL_r12 _ (List.mem_of_getElem? (i := 7) rfl)
theorem q_12_8 : Cond.instanceMethod yX2_isSlow ∈ wsL_law := wsL_r12 _ (List.mem_of_getElem? (i := 8) rfl)
theorem q_12_9 : Cond.selects RX2 yX2_isSlow yX2_isSlow ∈ wsL_law := wsL_r12 _ (List.mem_of_getElem? (i := 9) rfl)
theorem q_12_10 : Cond.code yX2_isSlow cX2_isSlow 3 (some .boolean) ∈ wsL_law := wsL_r12 _ (List.mem_of_getElem? (i := 10) rfl)
theorem q_12_11 : Cond.methodLink RX2 39 yX2_score ∈ wsL_law := wsL_r12 _ (List.mem_of_getElem? (i := 11) rfl)
theorem q_12_12 : Cond.instanceMethod yX2_score ∈ wsL_law := wsL_r12 _ (List.mem_of_getElem? (i := 12) rfl)
theorem q_12_13 : Cond.selects RX2 yX2_score yX2_score ∈ wsL_law := wsL_r12 _ (List.mem_of_getElem? (i := 13) rfl)
theorem q_12_14 : Cond.code yX2_score cX2_score 2 (some .int) ∈ wsL_law := wsL_r12 _ (List.mem_of_getElem? (i := 14) rfl)
theorem q_12_15 : Cond.methodLink RX2 43 yX2_meanScore ∈ wsL_law := wsL_r12 _ (List.mem_of_getElem? (i := 15) rfl)
theorem q_12_16 : Cond.instanceMethod yX2_meanScore ∈ wsL_law := wsL_r12 _ (List.mem_of_getElem? (i := 16) rfl)
theorem q_12_17 : Cond.selects RX2 yX2_meanScore yX2_meanScore ∈ wsL_law := wsL_r12 _ (List.mem_of_getElem? (i := 17) rfl)
theorem q_12_18 : Cond.code yX2_meanScore cX2_meanScore 4 (some .int) ∈ wsL_law := wsL_r12 _ (List.mem_of_getElem? (i := 18) rfl)
theorem q_12_19 : Cond.methodLink RX1 105 yX1_findStraggler ∈ wsL_law := wsL_r12 _ (List.mem_of_getElem? (i := 19) rfl)
theorem q_12_20 : Cond.instanceMethod yX1_findStraggler ∈ wsL_law := wsL_r12 _ (List.mem_of_getElem? (i := 20) rfl)
theorem q_12_21 : Cond.selects RX1 yX1_findStraggler yX1_findStraggler ∈ wsL_law := wsL_r12 _ (List.mem_of_getElem? (i := 21) rfl)
theorem q_12_22 : Cond.code yX1_findStraggler cX1_findStraggler 1 (some .int) ∈ wsL_law := wsL_r12 _ (List.mem_of_getElem? (i := 22) rfl)
theorem q_12_23 : Cond.methodLink RX1 168 yX1_leastAdvanced ∈ wsL_law := wsL_r12 _ (List.mem_of_getElem? (i := 23) rfl)
theorem q_13_0 : Cond.instanceMethod yX1_leastAdvanced ∈ wsL_law := wsL_r13 _ (List.mem_of_getElem? (i := 0) rfl)
theorem q_13_1 : Cond.selects RX1 yX1_leastAdvanced yX1_leastAdvanced ∈ wsL_law := wsL_r13 _ (List.mem_of_getElem? (i := 1) rfl)
theorem q_13_2 : Cond.code yX1_leastAdvanced cX1_leastAdvanced 4 (some .int) ∈ wsL_law := wsL_r13 _ (List.mem_of_getElem? (i := 2) rfl)
theorem q_13_3 : Cond.fieldLink RX1 183 "SpeculativeScheduler$Attempts" "progress" "[I" ∈ wsL_law := wsL_r13 _ (List.mem_of_getElem? (i := 3) rfl)
theorem q_13_4 : Cond.methodLink RX1 180 yX1_isCandidate ∈ wsL_law := wsL_r13 _ (List.mem_of_getElem? (i := 4) rfl)
theorem q_13_5 : Cond.instanceMethod yX1_isCandidate ∈ wsL_law := wsL_r13 _ (List.mem_of_getElem? (i := 5) rfl)
theorem q_13_6 : Cond.selects RX1 yX1_isCandidate yX1_isCandidate ∈ wsL_law := wsL_r13 _ (List.mem_of_getElem? (i := 6) rfl)
theorem q_13_7 : Cond.code yX1_isCandidate cX1_isCandidate 2 (some .boolean) ∈ wsL_law := wsL_r13 _ (List.mem_of_getElem? (i := 7) rfl)
theorem q_13_8 : Cond.fieldLink RX1 174 "SpeculativeScheduler$Attempts" "age" "[I" ∈ wsL_law := wsL_r13 _ (List.mem_of_getElem? (i := 8) rfl)
theorem q_13_9 : Cond.fieldLink RX1 177 "SpeculativeScheduler$Settings" "minimumAge" "I" ∈ wsL_law := wsL_r13 _ (List.mem_of_getElem? (i := 9) rfl)
theorem q_13_10 : Cond.methodLink RX1 186 yX0_meanOfRunning ∈ wsL_law := wsL_r13 _ (List.mem_of_getElem? (i := 10) rfl)
theorem q_13_11 : Cond.instanceMethod yX0_meanOfRunning ∈ wsL_law := wsL_r13 _ (List.mem_of_getElem? (i := 11) rfl)
theorem q_13_12 : Cond.selects RX0 yX0_meanOfRunning yX0_meanOfRunning ∈ wsL_law := wsL_r13 _ (List.mem_of_getElem? (i := 12) rfl)
theorem q_13_13 : Cond.code yX0_meanOfRunning cX0_meanOfRunning 4 (some .int) ∈ wsL_law := wsL_r13 _ (List.mem_of_getElem? (i := 13) rfl)
theorem q_13_14 : Cond.methodLink RX1 171 yX1_longestToRun ∈ wsL_law := wsL_r13 _ (List.mem_of_getElem? (i := 14) rfl)
theorem q_13_15 : Cond.instanceMethod yX1_longestToRun ∈ wsL_law := wsL_r13 _ (List.mem_of_getElem? (i := 15) rfl)
theorem q_13_16 : Cond.selects RX1 yX1_longestToRun yX1_longestToRun ∈ wsL_law := wsL_r13 _ (List.mem_of_getElem? (i := 16) rfl)
theorem q_13_17 : Cond.code yX1_longestToRun cX1_longestToRun 6 (some .int) ∈ wsL_law := wsL_r13 _ (List.mem_of_getElem? (i := 17) rfl)
theorem q_13_18 : Cond.fieldLink RX1 190 "SpeculativeScheduler$Attempts" "rate" "[I" ∈ wsL_law := wsL_r13 _ (List.mem_of_getElem? (i := 18) rfl)
theorem q_13_19 : Cond.fieldLink RX1 193 "SpeculativeScheduler$Settings" "taskThreshold" "I" ∈ wsL_law := wsL_r13 _ (List.mem_of_getElem? (i := 19) rfl)
theorem q_13_20 : Cond.methodLink RX1 196 yX0_remaining ∈ wsL_law := wsL_r13 _ (List.mem_of_getElem? (i := 20) rfl)
theorem q_13_21 : Cond.instanceMethod yX0_remaining ∈ wsL_law := wsL_r13 _ (List.mem_of_getElem? (i := 21) rfl)
theorem q_13_22 : Cond.selects RX0 yX0_remaining yX0_remaining ∈ wsL_law := wsL_r13 _ (List.mem_of_getElem? (i := 22) rfl)
theorem q_13_23 : Cond.code yX0_remaining cX0_remaining 3 (some .int) ∈ wsL_law := wsL_r13 _ (List.mem_of_getElem? (i := 23) rfl)
theorem q_14_0 : Cond.constant RX0 57 (1000000) ∈ wsL_law := wsL_r14 _ (List.mem_of_getElem? (i := 0) rfl)
theorem q_14_1 : Cond.methodLink RX1 85 yX1_start ∈ wsL_law := wsL_r14 _ (List.mem_of_getElem? (i := 1) rfl)
theorem q_14_2 : Cond.instanceMethod yX1_start ∈ wsL_law := wsL_r14 _ (List.mem_of_getElem? (i := 2) rfl)
theorem q_14_3 : Cond.selects RX1 yX1_start yX1_start ∈ wsL_law := wsL_r14 _ (List.mem_of_getElem? (i := 3) rfl)
theorem q_14_4 : Cond.code yX1_start cX1_start 3 none ∈ wsL_law := wsL_r14 _ (List.mem_of_getElem? (i := 4) rfl)
theorem q_14_5 : Cond.methodLink RX1 118 yX0_add ∈ wsL_law := wsL_r14 _ (List.mem_of_getElem? (i := 5) rfl)
theorem q_14_6 : Cond.instanceMethod yX0_add ∈ wsL_law := wsL_r14 _ (List.mem_of_getElem? (i := 6) rfl)
theorem q_14_7 : Cond.selects RX0 yX0_add yX0_add ∈ wsL_law := wsL_r14 _ (List.mem_of_getElem? (i := 7) rfl)
theorem q_14_8 : Cond.code yX0_add cX0_add 5 none ∈ wsL_law := wsL_r14 _ (List.mem_of_getElem? (i := 8) rfl)
theorem q_14_9 : Cond.methodLink RX0 47 yX0_isFull ∈ wsL_law := wsL_r14 _ (List.mem_of_getElem? (i := 9) rfl)
theorem q_14_10 : Cond.methodLink RX1 60 yX1_doWork ∈ wsL_law := wsL_r14 _ (List.mem_of_getElem? (i := 10) rfl)
theorem q_14_11 : Cond.instanceMethod yX1_doWork ∈ wsL_law := wsL_r14 _ (List.mem_of_getElem? (i := 11) rfl)
theorem q_14_12 : Cond.selects RX1 yX1_doWork yX1_doWork ∈ wsL_law := wsL_r14 _ (List.mem_of_getElem? (i := 12) rfl)
theorem q_14_13 : Cond.code yX1_doWork cX1_doWork 4 none ∈ wsL_law := wsL_r14 _ (List.mem_of_getElem? (i := 13) rfl)
theorem q_14_14 : Cond.fieldLink RX1 131 "SpeculativeScheduler$Nodes" "speed" "[I" ∈ wsL_law := wsL_r14 _ (List.mem_of_getElem? (i := 14) rfl)
theorem q_14_15 : Cond.fieldLink RX1 134 "SpeculativeScheduler$Tasks" "work" "[I" ∈ wsL_law := wsL_r14 _ (List.mem_of_getElem? (i := 15) rfl)
theorem q_14_16 : Cond.fieldLink RX1 141 "SpeculativeScheduler$Nodes" "ageSum" "[I" ∈ wsL_law := wsL_r14 _ (List.mem_of_getElem? (i := 16) rfl)
theorem q_14_17 : Cond.fieldLink RX1 144 "SpeculativeScheduler$Nodes" "workSum" "[I" ∈ wsL_law := wsL_r14 _ (List.mem_of_getElem? (i := 17) rfl)
theorem q_14_18 : Cond.methodLink RX1 137 yX0_grow ∈ wsL_law := wsL_r14 _ (List.mem_of_getElem? (i := 18) rfl)
theorem q_14_19 : Cond.instanceMethod yX0_grow ∈ wsL_law := wsL_r14 _ (List.mem_of_getElem? (i := 19) rfl)
theorem q_14_20 : Cond.selects RX0 yX0_grow yX0_grow ∈ wsL_law := wsL_r14 _ (List.mem_of_getElem? (i := 20) rfl)
theorem q_14_21 : Cond.code yX0_grow cX0_grow 5 none ∈ wsL_law := wsL_r14 _ (List.mem_of_getElem? (i := 21) rfl)
theorem q_14_22 : Cond.methodLink RX0 51 Lib.Math.min.name ∈ wsL_law := wsL_r14 _ (List.mem_of_getElem? (i := 22) rfl)
theorem q_14_23 : Cond.static Lib.Math.min.name ∈ wsL_law := wsL_r14 _ (List.mem_of_getElem? (i := 23) rfl)
theorem q_15_0 : Cond.initialized "java/lang/Math" ∈ wsL_law := wsL_r15 _ (List.mem_of_getElem? (i := 0) rfl)
theorem q_15_1 : Cond.code Lib.Math.min.name Lib.Math.min.code 2 (some .int) ∈ wsL_law := wsL_r15 _ (List.mem_of_getElem? (i := 1) rfl)
theorem q_15_2 : Cond.methodLink RX1 63 yX1_commitFinished ∈ wsL_law := wsL_r15 _ (List.mem_of_getElem? (i := 2) rfl)
theorem q_15_3 : Cond.instanceMethod yX1_commitFinished ∈ wsL_law := wsL_r15 _ (List.mem_of_getElem? (i := 3) rfl)
theorem q_15_4 : Cond.selects RX1 yX1_commitFinished yX1_commitFinished ∈ wsL_law := wsL_r15 _ (List.mem_of_getElem? (i := 4) rfl)
theorem q_15_5 : Cond.code yX1_commitFinished cX1_commitFinished 6 (some .int) ∈ wsL_law := wsL_r15 _ (List.mem_of_getElem? (i := 5) rfl)
theorem q_15_6 : Cond.fieldLink RX1 150 "SpeculativeScheduler$Attempts" "done" "[I" ∈ wsL_law := wsL_r15 _ (List.mem_of_getElem? (i := 6) rfl)
theorem q_15_7 : Cond.methodLink RX1 153 yX1_commit ∈ wsL_law := wsL_r15 _ (List.mem_of_getElem? (i := 7) rfl)
theorem q_15_8 : Cond.instanceMethod yX1_commit ∈ wsL_law := wsL_r15 _ (List.mem_of_getElem? (i := 8) rfl)
theorem q_15_9 : Cond.selects RX1 yX1_commit yX1_commit ∈ wsL_law := wsL_r15 _ (List.mem_of_getElem? (i := 9) rfl)
theorem q_15_10 : Cond.code yX1_commit cX1_commit 5 none ∈ wsL_law := wsL_r15 _ (List.mem_of_getElem? (i := 10) rfl)
theorem q_15_11 : Cond.fieldLink RX1 162 "SpeculativeScheduler$Tasks" "committed" "[I" ∈ wsL_law := wsL_r15 _ (List.mem_of_getElem? (i := 11) rfl)
theorem q_15_12 : Cond.fieldLink RX1 165 "SpeculativeScheduler$Tasks" "finish" "[I" ∈ wsL_law := wsL_r15 _ (List.mem_of_getElem? (i := 12) rfl)
theorem q_15_13 : Cond.methodLink RL 50 yX6_tick ∈ wsL_law := wsL_r15 _ (List.mem_of_getElem? (i := 13) rfl)
theorem q_15_14 : Cond.instanceMethod yX6_tick ∈ wsL_law := wsL_r15 _ (List.mem_of_getElem? (i := 14) rfl)
theorem q_15_15 : Cond.selects RX6 yX6_tick yX6_tick ∈ wsL_law := wsL_r15 _ (List.mem_of_getElem? (i := 15) rfl)
theorem q_15_16 : Cond.code yX6_tick cX6_tick 4 (some .int) ∈ wsL_law := wsL_r15 _ (List.mem_of_getElem? (i := 16) rfl)
theorem q_15_17 : Cond.methodLink RX6 178 yX6_passes ∈ wsL_law := wsL_r15 _ (List.mem_of_getElem? (i := 17) rfl)
theorem q_15_18 : Cond.instanceMethod yX6_passes ∈ wsL_law := wsL_r15 _ (List.mem_of_getElem? (i := 18) rfl)
theorem q_15_19 : Cond.selects RX6 yX6_passes yX6_passes ∈ wsL_law := wsL_r15 _ (List.mem_of_getElem? (i := 19) rfl)
theorem q_15_20 : Cond.code yX6_passes cX6_passes 4 (some .int) ∈ wsL_law := wsL_r15 _ (List.mem_of_getElem? (i := 20) rfl)
theorem q_15_21 : Cond.methodLink RX6 165 yX6_hasSlot ∈ wsL_law := wsL_r15 _ (List.mem_of_getElem? (i := 21) rfl)
theorem q_15_22 : Cond.instanceMethod yX6_hasSlot ∈ wsL_law := wsL_r15 _ (List.mem_of_getElem? (i := 22) rfl)
theorem q_15_23 : Cond.selects RX6 yX6_hasSlot yX6_hasSlot ∈ wsL_law := wsL_r15 _ (List.mem_of_getElem? (i := 23) rfl)
theorem q_16_0 : Cond.code yX6_hasSlot cX6_hasSlot 2 (some .boolean) ∈ wsL_law := wsL_r16 _ (List.mem_of_getElem? (i := 0) rfl)
theorem q_16_1 : Cond.methodLink RX6 168 yX6_startsOn ∈ wsL_law := wsL_r16 _ (List.mem_of_getElem? (i := 1) rfl)
theorem q_16_2 : Cond.instanceMethod yX6_startsOn ∈ wsL_law := wsL_r16 _ (List.mem_of_getElem? (i := 2) rfl)
theorem q_16_3 : Cond.selects RX6 yX6_startsOn yX6_startsOn ∈ wsL_law := wsL_r16 _ (List.mem_of_getElem? (i := 3) rfl)
theorem q_16_4 : Cond.code yX6_startsOn cX6_startsOn 6 (some .boolean) ∈ wsL_law := wsL_r16 _ (List.mem_of_getElem? (i := 4) rfl)
theorem q_16_5 : Cond.methodLink RX6 146 yX6_firstWaiting ∈ wsL_law := wsL_r16 _ (List.mem_of_getElem? (i := 5) rfl)
theorem q_16_6 : Cond.instanceMethod yX6_firstWaiting ∈ wsL_law := wsL_r16 _ (List.mem_of_getElem? (i := 6) rfl)
theorem q_16_7 : Cond.selects RX6 yX6_firstWaiting yX6_firstWaiting ∈ wsL_law := wsL_r16 _ (List.mem_of_getElem? (i := 7) rfl)
theorem q_16_8 : Cond.code yX6_firstWaiting cX6_firstWaiting 2 (some .int) ∈ wsL_law := wsL_r16 _ (List.mem_of_getElem? (i := 8) rfl)
theorem q_16_9 : Cond.methodLink RX6 143 yX6_stateOfTask ∈ wsL_law := wsL_r16 _ (List.mem_of_getElem? (i := 9) rfl)
theorem q_16_10 : Cond.instanceMethod yX6_stateOfTask ∈ wsL_law := wsL_r16 _ (List.mem_of_getElem? (i := 10) rfl)
theorem q_16_11 : Cond.selects RX6 yX6_stateOfTask yX6_stateOfTask ∈ wsL_law := wsL_r16 _ (List.mem_of_getElem? (i := 11) rfl)
theorem q_16_12 : Cond.code yX6_stateOfTask cX6_stateOfTask 3 (some .int) ∈ wsL_law := wsL_r16 _ (List.mem_of_getElem? (i := 12) rfl)
theorem q_16_13 : Cond.methodLink RX6 149 yX6_stragglerBy ∈ wsL_law := wsL_r16 _ (List.mem_of_getElem? (i := 13) rfl)
theorem q_16_14 : Cond.instanceMethod yX6_stragglerBy ∈ wsL_law := wsL_r16 _ (List.mem_of_getElem? (i := 14) rfl)
theorem q_16_15 : Cond.selects RX6 yX6_stragglerBy yX6_stragglerBy ∈ wsL_law := wsL_r16 _ (List.mem_of_getElem? (i := 15) rfl)
theorem q_16_16 : Cond.code yX6_stragglerBy cX6_stragglerBy 2 (some .int) ∈ wsL_law := wsL_r16 _ (List.mem_of_getElem? (i := 16) rfl)
theorem q_16_17 : Cond.methodLink RX6 137 yX6_naiveStraggler ∈ wsL_law := wsL_r16 _ (List.mem_of_getElem? (i := 17) rfl)
theorem q_16_18 : Cond.instanceMethod yX6_naiveStraggler ∈ wsL_law := wsL_r16 _ (List.mem_of_getElem? (i := 18) rfl)
theorem q_16_19 : Cond.selects RX6 yX6_naiveStraggler yX6_naiveStraggler ∈ wsL_law := wsL_r16 _ (List.mem_of_getElem? (i := 19) rfl)
theorem q_16_20 : Cond.code yX6_naiveStraggler cX6_naiveStraggler 3 (some .int) ∈ wsL_law := wsL_r16 _ (List.mem_of_getElem? (i := 20) rfl)
theorem q_16_21 : Cond.methodLink RX6 109 yX6_first ∈ wsL_law := wsL_r16 _ (List.mem_of_getElem? (i := 21) rfl)
theorem q_16_22 : Cond.instanceMethod yX6_first ∈ wsL_law := wsL_r16 _ (List.mem_of_getElem? (i := 22) rfl)
theorem q_16_23 : Cond.selects RX6 yX6_first yX6_first ∈ wsL_law := wsL_r16 _ (List.mem_of_getElem? (i := 23) rfl)
theorem q_17_0 : Cond.code yX6_first cX6_first 1 (some .int) ∈ wsL_law := wsL_r17 _ (List.mem_of_getElem? (i := 0) rfl)
theorem q_17_1 : Cond.methodLink RX6 113 yX6_last ∈ wsL_law := wsL_r17 _ (List.mem_of_getElem? (i := 1) rfl)
theorem q_17_2 : Cond.instanceMethod yX6_last ∈ wsL_law := wsL_r17 _ (List.mem_of_getElem? (i := 2) rfl)
theorem q_17_3 : Cond.selects RX6 yX6_last yX6_last ∈ wsL_law := wsL_r17 _ (List.mem_of_getElem? (i := 3) rfl)
theorem q_17_4 : Cond.code yX6_last cX6_last 1 (some .int) ∈ wsL_law := wsL_r17 _ (List.mem_of_getElem? (i := 4) rfl)
theorem q_17_5 : Cond.methodLink RX6 125 yX6_isCandidate ∈ wsL_law := wsL_r17 _ (List.mem_of_getElem? (i := 5) rfl)
theorem q_17_6 : Cond.instanceMethod yX6_isCandidate ∈ wsL_law := wsL_r17 _ (List.mem_of_getElem? (i := 6) rfl)
theorem q_17_7 : Cond.selects RX6 yX6_isCandidate yX6_isCandidate ∈ wsL_law := wsL_r17 _ (List.mem_of_getElem? (i := 7) rfl)
theorem q_17_8 : Cond.code yX6_isCandidate cX6_isCandidate 2 (some .boolean) ∈ wsL_law := wsL_r17 _ (List.mem_of_getElem? (i := 8) rfl)
theorem q_17_9 : Cond.methodLink RX6 102 yX6_progressOf ∈ wsL_law := wsL_r17 _ (List.mem_of_getElem? (i := 9) rfl)
theorem q_17_10 : Cond.instanceMethod yX6_progressOf ∈ wsL_law := wsL_r17 _ (List.mem_of_getElem? (i := 10) rfl)
theorem q_17_11 : Cond.selects RX6 yX6_progressOf yX6_progressOf ∈ wsL_law := wsL_r17 _ (List.mem_of_getElem? (i := 11) rfl)
theorem q_17_12 : Cond.code yX6_progressOf cX6_progressOf 3 (some .int) ∈ wsL_law := wsL_r17 _ (List.mem_of_getElem? (i := 12) rfl)
theorem q_17_13 : Cond.methodLink RX6 128 yX6_meanProgress ∈ wsL_law := wsL_r17 _ (List.mem_of_getElem? (i := 13) rfl)
theorem q_17_14 : Cond.instanceMethod yX6_meanProgress ∈ wsL_law := wsL_r17 _ (List.mem_of_getElem? (i := 14) rfl)
theorem q_17_15 : Cond.selects RX6 yX6_meanProgress yX6_meanProgress ∈ wsL_law := wsL_r17 _ (List.mem_of_getElem? (i := 15) rfl)
theorem q_17_16 : Cond.code yX6_meanProgress cX6_meanProgress 4 (some .int) ∈ wsL_law := wsL_r17 _ (List.mem_of_getElem? (i := 16) rfl)
theorem q_17_17 : Cond.methodLink RX6 140 yX6_lateStraggler ∈ wsL_law := wsL_r17 _ (List.mem_of_getElem? (i := 17) rfl)
theorem q_17_18 : Cond.instanceMethod yX6_lateStraggler ∈ wsL_law := wsL_r17 _ (List.mem_of_getElem? (i := 18) rfl)
theorem q_17_19 : Cond.selects RX6 yX6_lateStraggler yX6_lateStraggler ∈ wsL_law := wsL_r17 _ (List.mem_of_getElem? (i := 19) rfl)
theorem q_17_20 : Cond.code yX6_lateStraggler cX6_lateStraggler 5 (some .int) ∈ wsL_law := wsL_r17 _ (List.mem_of_getElem? (i := 20) rfl)
theorem q_17_21 : Cond.methodLink RX6 131 yX6_meanRate ∈ wsL_law := wsL_r17 _ (List.mem_of_getElem? (i := 21) rfl)
theorem q_17_22 : Cond.instanceMethod yX6_meanRate ∈ wsL_law := wsL_r17 _ (List.mem_of_getElem? (i := 22) rfl)
theorem q_17_23 : Cond.selects RX6 yX6_meanRate yX6_meanRate ∈ wsL_law := wsL_r17 _ (List.mem_of_getElem? (i := 23) rfl)
theorem q_18_0 : Cond.code yX6_meanRate cX6_meanRate 4 (some .int) ∈ wsL_law := wsL_r18 _ (List.mem_of_getElem? (i := 0) rfl)
theorem q_18_1 : Cond.methodLink RX6 116 yX6_rateOf ∈ wsL_law := wsL_r18 _ (List.mem_of_getElem? (i := 1) rfl)
theorem q_18_2 : Cond.instanceMethod yX6_rateOf ∈ wsL_law := wsL_r18 _ (List.mem_of_getElem? (i := 2) rfl)
theorem q_18_3 : Cond.selects RX6 yX6_rateOf yX6_rateOf ∈ wsL_law := wsL_r18 _ (List.mem_of_getElem? (i := 3) rfl)
theorem q_18_4 : Cond.code yX6_rateOf cX6_rateOf 2 (some .int) ∈ wsL_law := wsL_r18 _ (List.mem_of_getElem? (i := 4) rfl)
theorem q_18_5 : Cond.methodLink RX6 134 yX6_remainingOf ∈ wsL_law := wsL_r18 _ (List.mem_of_getElem? (i := 5) rfl)
theorem q_18_6 : Cond.instanceMethod yX6_remainingOf ∈ wsL_law := wsL_r18 _ (List.mem_of_getElem? (i := 6) rfl)
theorem q_18_7 : Cond.selects RX6 yX6_remainingOf yX6_remainingOf ∈ wsL_law := wsL_r18 _ (List.mem_of_getElem? (i := 7) rfl)
theorem q_18_8 : Cond.code yX6_remainingOf cX6_remainingOf 3 (some .int) ∈ wsL_law := wsL_r18 _ (List.mem_of_getElem? (i := 8) rfl)
theorem q_18_9 : Cond.constant RX6 106 (1000000) ∈ wsL_law := wsL_r18 _ (List.mem_of_getElem? (i := 9) rfl)
theorem q_18_10 : Cond.constantLong RX6 107 (1000) ∈ wsL_law := wsL_r18 _ (List.mem_of_getElem? (i := 10) rfl)
theorem q_18_11 : Cond.methodLink RX6 152 yX6_speculative ∈ wsL_law := wsL_r18 _ (List.mem_of_getElem? (i := 11) rfl)
theorem q_18_12 : Cond.instanceMethod yX6_speculative ∈ wsL_law := wsL_r18 _ (List.mem_of_getElem? (i := 12) rfl)
theorem q_18_13 : Cond.selects RX6 yX6_speculative yX6_speculative ∈ wsL_law := wsL_r18 _ (List.mem_of_getElem? (i := 13) rfl)
theorem q_18_14 : Cond.code yX6_speculative cX6_speculative 3 (some .int) ∈ wsL_law := wsL_r18 _ (List.mem_of_getElem? (i := 14) rfl)
theorem q_18_15 : Cond.methodLink RX6 155 yX6_isSlow ∈ wsL_law := wsL_r18 _ (List.mem_of_getElem? (i := 15) rfl)
theorem q_18_16 : Cond.instanceMethod yX6_isSlow ∈ wsL_law := wsL_r18 _ (List.mem_of_getElem? (i := 16) rfl)
theorem q_18_17 : Cond.selects RX6 yX6_isSlow yX6_isSlow ∈ wsL_law := wsL_r18 _ (List.mem_of_getElem? (i := 17) rfl)
theorem q_18_18 : Cond.code yX6_isSlow cX6_isSlow 2 (some .boolean) ∈ wsL_law := wsL_r18 _ (List.mem_of_getElem? (i := 18) rfl)
theorem q_18_19 : Cond.methodLink RX6 119 yX6_scoreOf ∈ wsL_law := wsL_r18 _ (List.mem_of_getElem? (i := 19) rfl)
theorem q_18_20 : Cond.instanceMethod yX6_scoreOf ∈ wsL_law := wsL_r18 _ (List.mem_of_getElem? (i := 20) rfl)
theorem q_18_21 : Cond.selects RX6 yX6_scoreOf yX6_scoreOf ∈ wsL_law := wsL_r18 _ (List.mem_of_getElem? (i := 21) rfl)
theorem q_18_22 : Cond.code yX6_scoreOf cX6_scoreOf 3 (some .int) ∈ wsL_law := wsL_r18 _ (List.mem_of_getElem? (i := 22) rfl)
theorem q_18_23 : Cond.methodLink RX6 122 yX6_meanScore ∈ wsL_law := wsL_r18 _ (List.mem_of_getElem? (i := 23) rfl)
theorem q_19_0 : Cond.instanceMethod yX6_meanScore ∈ wsL_law := wsL_r19 _ (List.mem_of_getElem? (i := 0) rfl)
theorem q_19_1 : Cond.selects RX6 yX6_meanScore yX6_meanScore ∈ wsL_law := wsL_r19 _ (List.mem_of_getElem? (i := 1) rfl)
theorem q_19_2 : Cond.code yX6_meanScore cX6_meanScore 4 (some .int) ∈ wsL_law := wsL_r19 _ (List.mem_of_getElem? (i := 2) rfl)
theorem q_19_3 : Cond.methodLink RX6 158 yX6_starts ∈ wsL_law := wsL_r19 _ (List.mem_of_getElem? (i := 3) rfl)
theorem q_19_4 : Cond.instanceMethod yX6_starts ∈ wsL_law := wsL_r19 _ (List.mem_of_getElem? (i := 4) rfl)
theorem q_19_5 : Cond.selects RX6 yX6_starts yX6_starts ∈ wsL_law := wsL_r19 _ (List.mem_of_getElem? (i := 5) rfl)
theorem q_19_6 : Cond.code yX6_starts cX6_starts 4 none ∈ wsL_law := wsL_r19 _ (List.mem_of_getElem? (i := 6) rfl)
theorem q_19_7 : Cond.methodLink RX6 172 yX6_works ∈ wsL_law := wsL_r19 _ (List.mem_of_getElem? (i := 7) rfl)
theorem q_19_8 : Cond.instanceMethod yX6_works ∈ wsL_law := wsL_r19 _ (List.mem_of_getElem? (i := 8) rfl)
theorem q_19_9 : Cond.selects RX6 yX6_works yX6_works ∈ wsL_law := wsL_r19 _ (List.mem_of_getElem? (i := 9) rfl)
theorem q_19_10 : Cond.code yX6_works cX6_works 3 none ∈ wsL_law := wsL_r19 _ (List.mem_of_getElem? (i := 10) rfl)
theorem q_19_11 : Cond.methodLink RX6 175 yX6_commits ∈ wsL_law := wsL_r19 _ (List.mem_of_getElem? (i := 11) rfl)
theorem q_19_12 : Cond.instanceMethod yX6_commits ∈ wsL_law := wsL_r19 _ (List.mem_of_getElem? (i := 12) rfl)
theorem q_19_13 : Cond.selects RX6 yX6_commits yX6_commits ∈ wsL_law := wsL_r19 _ (List.mem_of_getElem? (i := 13) rfl)
theorem q_19_14 : Cond.code yX6_commits cX6_commits 3 (some .int) ∈ wsL_law := wsL_r19 _ (List.mem_of_getElem? (i := 14) rfl)
theorem q_19_15 : Cond.methodLink RX6 161 yX6_killsOther ∈ wsL_law := wsL_r19 _ (List.mem_of_getElem? (i := 15) rfl)
theorem q_19_16 : Cond.instanceMethod yX6_killsOther ∈ wsL_law := wsL_r19 _ (List.mem_of_getElem? (i := 16) rfl)
theorem q_19_17 : Cond.selects RX6 yX6_killsOther yX6_killsOther ∈ wsL_law := wsL_r19 _ (List.mem_of_getElem? (i := 17) rfl)
theorem q_19_18 : Cond.code yX6_killsOther cX6_killsOther 3 none ∈ wsL_law := wsL_r19 _ (List.mem_of_getElem? (i := 18) rfl)
theorem q_19_19 : Cond.methodLink RL 51 yX5_time ∈ wsL_law := wsL_r19 _ (List.mem_of_getElem? (i := 19) rfl)
theorem q_19_20 : Cond.instanceMethod yX5_time ∈ wsL_law := wsL_r19 _ (List.mem_of_getElem? (i := 20) rfl)
theorem q_19_21 : Cond.selects RX5 yX5_time yX5_time ∈ wsL_law := wsL_r19 _ (List.mem_of_getElem? (i := 21) rfl)
theorem q_19_22 : Cond.code yX5_time cX5_time 1 (some .int) ∈ wsL_law := wsL_r19 _ (List.mem_of_getElem? (i := 22) rfl)
theorem q_19_23 : Cond.fieldLink RX5 86 "SpeculativeScheduler$Cluster" "now" "I" ∈ wsL_law := wsL_r19 _ (List.mem_of_getElem? (i := 23) rfl)
theorem q_20_0 : Cond.methodLink RL 55 yX6_time ∈ wsL_law := wsL_r20 _ (List.mem_of_getElem? (i := 0) rfl)
theorem q_20_1 : Cond.instanceMethod yX6_time ∈ wsL_law := wsL_r20 _ (List.mem_of_getElem? (i := 1) rfl)
theorem q_20_2 : Cond.selects RX6 yX6_time yX6_time ∈ wsL_law := wsL_r20 _ (List.mem_of_getElem? (i := 2) rfl)
theorem q_20_3 : Cond.code yX6_time cX6_time 1 (some .int) ∈ wsL_law := wsL_r20 _ (List.mem_of_getElem? (i := 3) rfl)
theorem q_20_4 : Cond.methodLink RL 56 yX5_taskState ∈ wsL_law := wsL_r20 _ (List.mem_of_getElem? (i := 4) rfl)
theorem q_20_5 : Cond.instanceMethod yX5_taskState ∈ wsL_law := wsL_r20 _ (List.mem_of_getElem? (i := 5) rfl)
theorem q_20_6 : Cond.selects RX5 yX5_taskState yX5_taskState ∈ wsL_law := wsL_r20 _ (List.mem_of_getElem? (i := 6) rfl)
theorem q_20_7 : Cond.code yX5_taskState cX5_taskState 2 (some .int) ∈ wsL_law := wsL_r20 _ (List.mem_of_getElem? (i := 7) rfl)
theorem q_20_8 : Cond.methodLink RX5 89 yX4_has ∈ wsL_law := wsL_r20 _ (List.mem_of_getElem? (i := 8) rfl)
theorem q_20_9 : Cond.instanceMethod yX4_has ∈ wsL_law := wsL_r20 _ (List.mem_of_getElem? (i := 9) rfl)
theorem q_20_10 : Cond.selects RX4 yX4_has yX4_has ∈ wsL_law := wsL_r20 _ (List.mem_of_getElem? (i := 10) rfl)
theorem q_20_11 : Cond.code yX4_has cX4_has 2 (some .boolean) ∈ wsL_law := wsL_r20 _ (List.mem_of_getElem? (i := 11) rfl)
theorem q_20_12 : Cond.methodLink RX5 90 yX4_stateOf ∈ wsL_law := wsL_r20 _ (List.mem_of_getElem? (i := 12) rfl)
theorem q_20_13 : Cond.methodLink RL 59 yX6_taskState ∈ wsL_law := wsL_r20 _ (List.mem_of_getElem? (i := 13) rfl)
theorem q_20_14 : Cond.instanceMethod yX6_taskState ∈ wsL_law := wsL_r20 _ (List.mem_of_getElem? (i := 14) rfl)
theorem q_20_15 : Cond.selects RX6 yX6_taskState yX6_taskState ∈ wsL_law := wsL_r20 _ (List.mem_of_getElem? (i := 15) rfl)
theorem q_20_16 : Cond.code yX6_taskState cX6_taskState 2 (some .int) ∈ wsL_law := wsL_r20 _ (List.mem_of_getElem? (i := 16) rfl)
theorem q_20_17 : Cond.methodLink RX6 181 yX6_isTask ∈ wsL_law := wsL_r20 _ (List.mem_of_getElem? (i := 17) rfl)
theorem q_20_18 : Cond.instanceMethod yX6_isTask ∈ wsL_law := wsL_r20 _ (List.mem_of_getElem? (i := 18) rfl)
theorem q_20_19 : Cond.selects RX6 yX6_isTask yX6_isTask ∈ wsL_law := wsL_r20 _ (List.mem_of_getElem? (i := 19) rfl)
theorem q_20_20 : Cond.code yX6_isTask cX6_isTask 2 (some .boolean) ∈ wsL_law := wsL_r20 _ (List.mem_of_getElem? (i := 20) rfl)
theorem q_20_21 : Cond.methodLink RL 60 yX5_committedAttempt ∈ wsL_law := wsL_r20 _ (List.mem_of_getElem? (i := 21) rfl)
theorem q_20_22 : Cond.instanceMethod yX5_committedAttempt ∈ wsL_law := wsL_r20 _ (List.mem_of_getElem? (i := 22) rfl)
theorem q_20_23 : Cond.selects RX5 yX5_committedAttempt yX5_committedAttempt ∈ wsL_law := wsL_r20 _ (List.mem_of_getElem? (i := 23) rfl)
theorem q_21_0 : Cond.code yX5_committedAttempt cX5_committedAttempt 2 (some .int) ∈ wsL_law := wsL_r21 _ (List.mem_of_getElem? (i := 0) rfl)
theorem q_21_1 : Cond.fieldLink RX5 93 "SpeculativeScheduler$Tasks" "committed" "[I" ∈ wsL_law := wsL_r21 _ (List.mem_of_getElem? (i := 1) rfl)
theorem q_21_2 : Cond.methodLink RL 63 yX6_committedAttempt ∈ wsL_law := wsL_r21 _ (List.mem_of_getElem? (i := 2) rfl)
theorem q_21_3 : Cond.instanceMethod yX6_committedAttempt ∈ wsL_law := wsL_r21 _ (List.mem_of_getElem? (i := 3) rfl)
theorem q_21_4 : Cond.selects RX6 yX6_committedAttempt yX6_committedAttempt ∈ wsL_law := wsL_r21 _ (List.mem_of_getElem? (i := 4) rfl)
theorem q_21_5 : Cond.code yX6_committedAttempt cX6_committedAttempt 2 (some .int) ∈ wsL_law := wsL_r21 _ (List.mem_of_getElem? (i := 5) rfl)
theorem q_21_6 : Cond.methodLink RL 64 yX5_finishTime ∈ wsL_law := wsL_r21 _ (List.mem_of_getElem? (i := 6) rfl)
theorem q_21_7 : Cond.instanceMethod yX5_finishTime ∈ wsL_law := wsL_r21 _ (List.mem_of_getElem? (i := 7) rfl)
theorem q_21_8 : Cond.selects RX5 yX5_finishTime yX5_finishTime ∈ wsL_law := wsL_r21 _ (List.mem_of_getElem? (i := 8) rfl)
theorem q_21_9 : Cond.code yX5_finishTime cX5_finishTime 2 (some .int) ∈ wsL_law := wsL_r21 _ (List.mem_of_getElem? (i := 9) rfl)
theorem q_21_10 : Cond.fieldLink RX5 96 "SpeculativeScheduler$Tasks" "finish" "[I" ∈ wsL_law := wsL_r21 _ (List.mem_of_getElem? (i := 10) rfl)
theorem q_21_11 : Cond.methodLink RL 67 yX6_finishTime ∈ wsL_law := wsL_r21 _ (List.mem_of_getElem? (i := 11) rfl)
theorem q_21_12 : Cond.instanceMethod yX6_finishTime ∈ wsL_law := wsL_r21 _ (List.mem_of_getElem? (i := 12) rfl)
theorem q_21_13 : Cond.selects RX6 yX6_finishTime yX6_finishTime ∈ wsL_law := wsL_r21 _ (List.mem_of_getElem? (i := 13) rfl)
theorem q_21_14 : Cond.code yX6_finishTime cX6_finishTime 2 (some .int) ∈ wsL_law := wsL_r21 _ (List.mem_of_getElem? (i := 14) rfl)
theorem q_21_15 : Cond.methodLink RL 68 yX5_makespan ∈ wsL_law := wsL_r21 _ (List.mem_of_getElem? (i := 15) rfl)
theorem q_21_16 : Cond.instanceMethod yX5_makespan ∈ wsL_law := wsL_r21 _ (List.mem_of_getElem? (i := 16) rfl)
theorem q_21_17 : Cond.selects RX5 yX5_makespan yX5_makespan ∈ wsL_law := wsL_r21 _ (List.mem_of_getElem? (i := 17) rfl)
theorem q_21_18 : Cond.code yX5_makespan cX5_makespan 1 (some .int) ∈ wsL_law := wsL_r21 _ (List.mem_of_getElem? (i := 18) rfl)
theorem q_21_19 : Cond.methodLink RX5 99 yX4_lastFinish ∈ wsL_law := wsL_r21 _ (List.mem_of_getElem? (i := 19) rfl)
theorem q_21_20 : Cond.instanceMethod yX4_lastFinish ∈ wsL_law := wsL_r21 _ (List.mem_of_getElem? (i := 20) rfl)
theorem q_21_21 : Cond.selects RX4 yX4_lastFinish yX4_lastFinish ∈ wsL_law := wsL_r21 _ (List.mem_of_getElem? (i := 21) rfl)
theorem q_21_22 : Cond.code yX4_lastFinish cX4_lastFinish 3 (some .int) ∈ wsL_law := wsL_r21 _ (List.mem_of_getElem? (i := 22) rfl)
theorem q_21_23 : Cond.methodLink RX4 35 Lib.Math.max.name ∈ wsL_law := wsL_r21 _ (List.mem_of_getElem? (i := 23) rfl)
theorem q_22_0 : Cond.static Lib.Math.max.name ∈ wsL_law := wsL_r22 _ (List.mem_of_getElem? (i := 0) rfl)
theorem q_22_1 : Cond.code Lib.Math.max.name Lib.Math.max.code 2 (some .int) ∈ wsL_law := wsL_r22 _ (List.mem_of_getElem? (i := 1) rfl)
theorem q_22_2 : Cond.methodLink RL 71 yX6_makespan ∈ wsL_law := wsL_r22 _ (List.mem_of_getElem? (i := 2) rfl)
theorem q_22_3 : Cond.instanceMethod yX6_makespan ∈ wsL_law := wsL_r22 _ (List.mem_of_getElem? (i := 3) rfl)
theorem q_22_4 : Cond.selects RX6 yX6_makespan yX6_makespan ∈ wsL_law := wsL_r22 _ (List.mem_of_getElem? (i := 4) rfl)
theorem q_22_5 : Cond.code yX6_makespan cX6_makespan 1 (some .int) ∈ wsL_law := wsL_r22 _ (List.mem_of_getElem? (i := 5) rfl)
theorem q_22_6 : Cond.methodLink RX6 184 yX6_greatestFinish ∈ wsL_law := wsL_r22 _ (List.mem_of_getElem? (i := 6) rfl)
theorem q_22_7 : Cond.instanceMethod yX6_greatestFinish ∈ wsL_law := wsL_r22 _ (List.mem_of_getElem? (i := 7) rfl)
theorem q_22_8 : Cond.selects RX6 yX6_greatestFinish yX6_greatestFinish ∈ wsL_law := wsL_r22 _ (List.mem_of_getElem? (i := 8) rfl)
theorem q_22_9 : Cond.code yX6_greatestFinish cX6_greatestFinish 4 (some .int) ∈ wsL_law := wsL_r22 _ (List.mem_of_getElem? (i := 9) rfl)
theorem q_22_10 : Cond.methodLink RL 72 yX5_attemptCount ∈ wsL_law := wsL_r22 _ (List.mem_of_getElem? (i := 10) rfl)
theorem q_22_11 : Cond.instanceMethod yX5_attemptCount ∈ wsL_law := wsL_r22 _ (List.mem_of_getElem? (i := 11) rfl)
theorem q_22_12 : Cond.selects RX5 yX5_attemptCount yX5_attemptCount ∈ wsL_law := wsL_r22 _ (List.mem_of_getElem? (i := 12) rfl)
theorem q_22_13 : Cond.code yX5_attemptCount cX5_attemptCount 1 (some .int) ∈ wsL_law := wsL_r22 _ (List.mem_of_getElem? (i := 13) rfl)
theorem q_22_14 : Cond.fieldLink RX5 102 "SpeculativeScheduler$Cluster" "attempts" "LSpeculativeScheduler$Attempts;" ∈ wsL_law := wsL_r22 _ (List.mem_of_getElem? (i := 14) rfl)
theorem q_22_15 : Cond.fieldLink RX5 106 "SpeculativeScheduler$Attempts" "count" "I" ∈ wsL_law := wsL_r22 _ (List.mem_of_getElem? (i := 15) rfl)
theorem q_22_16 : Cond.methodLink RL 75 yX6_attemptCount ∈ wsL_law := wsL_r22 _ (List.mem_of_getElem? (i := 16) rfl)
theorem q_22_17 : Cond.instanceMethod yX6_attemptCount ∈ wsL_law := wsL_r22 _ (List.mem_of_getElem? (i := 17) rfl)
theorem q_22_18 : Cond.selects RX6 yX6_attemptCount yX6_attemptCount ∈ wsL_law := wsL_r22 _ (List.mem_of_getElem? (i := 18) rfl)
theorem q_22_19 : Cond.code yX6_attemptCount cX6_attemptCount 1 (some .int) ∈ wsL_law := wsL_r22 _ (List.mem_of_getElem? (i := 19) rfl)
theorem q_22_20 : Cond.methodLink RL 76 yX5_attemptTask ∈ wsL_law := wsL_r22 _ (List.mem_of_getElem? (i := 20) rfl)
theorem q_22_21 : Cond.instanceMethod yX5_attemptTask ∈ wsL_law := wsL_r22 _ (List.mem_of_getElem? (i := 21) rfl)
theorem q_22_22 : Cond.selects RX5 yX5_attemptTask yX5_attemptTask ∈ wsL_law := wsL_r22 _ (List.mem_of_getElem? (i := 22) rfl)
theorem q_22_23 : Cond.code yX5_attemptTask cX5_attemptTask 2 (some .int) ∈ wsL_law := wsL_r22 _ (List.mem_of_getElem? (i := 23) rfl)
theorem q_23_0 : Cond.fieldLink RX5 112 "SpeculativeScheduler$Attempts" "task" "[I" ∈ wsL_law := wsL_r23 _ (List.mem_of_getElem? (i := 0) rfl)
theorem q_23_1 : Cond.methodLink RX5 111 yX0_has ∈ wsL_law := wsL_r23 _ (List.mem_of_getElem? (i := 1) rfl)
theorem q_23_2 : Cond.instanceMethod yX0_has ∈ wsL_law := wsL_r23 _ (List.mem_of_getElem? (i := 2) rfl)
theorem q_23_3 : Cond.selects RX0 yX0_has yX0_has ∈ wsL_law := wsL_r23 _ (List.mem_of_getElem? (i := 3) rfl)
theorem q_23_4 : Cond.code yX0_has cX0_has 2 (some .boolean) ∈ wsL_law := wsL_r23 _ (List.mem_of_getElem? (i := 4) rfl)
theorem q_23_5 : Cond.methodLink RL 79 yX6_attemptTask ∈ wsL_law := wsL_r23 _ (List.mem_of_getElem? (i := 5) rfl)
theorem q_23_6 : Cond.instanceMethod yX6_attemptTask ∈ wsL_law := wsL_r23 _ (List.mem_of_getElem? (i := 6) rfl)
theorem q_23_7 : Cond.selects RX6 yX6_attemptTask yX6_attemptTask ∈ wsL_law := wsL_r23 _ (List.mem_of_getElem? (i := 7) rfl)
theorem q_23_8 : Cond.code yX6_attemptTask cX6_attemptTask 2 (some .int) ∈ wsL_law := wsL_r23 _ (List.mem_of_getElem? (i := 8) rfl)
theorem q_23_9 : Cond.methodLink RX6 187 yX6_isAttempt ∈ wsL_law := wsL_r23 _ (List.mem_of_getElem? (i := 9) rfl)
theorem q_23_10 : Cond.instanceMethod yX6_isAttempt ∈ wsL_law := wsL_r23 _ (List.mem_of_getElem? (i := 10) rfl)
theorem q_23_11 : Cond.selects RX6 yX6_isAttempt yX6_isAttempt ∈ wsL_law := wsL_r23 _ (List.mem_of_getElem? (i := 11) rfl)
theorem q_23_12 : Cond.code yX6_isAttempt cX6_isAttempt 2 (some .boolean) ∈ wsL_law := wsL_r23 _ (List.mem_of_getElem? (i := 12) rfl)
theorem q_23_13 : Cond.methodLink RL 80 yX5_attemptNode ∈ wsL_law := wsL_r23 _ (List.mem_of_getElem? (i := 13) rfl)
theorem q_23_14 : Cond.instanceMethod yX5_attemptNode ∈ wsL_law := wsL_r23 _ (List.mem_of_getElem? (i := 14) rfl)
theorem q_23_15 : Cond.selects RX5 yX5_attemptNode yX5_attemptNode ∈ wsL_law := wsL_r23 _ (List.mem_of_getElem? (i := 15) rfl)
theorem q_23_16 : Cond.code yX5_attemptNode cX5_attemptNode 2 (some .int) ∈ wsL_law := wsL_r23 _ (List.mem_of_getElem? (i := 16) rfl)
theorem q_23_17 : Cond.fieldLink RX5 115 "SpeculativeScheduler$Attempts" "node" "[I" ∈ wsL_law := wsL_r23 _ (List.mem_of_getElem? (i := 17) rfl)
theorem q_23_18 : Cond.methodLink RL 83 yX6_attemptNode ∈ wsL_law := wsL_r23 _ (List.mem_of_getElem? (i := 18) rfl)
theorem q_23_19 : Cond.instanceMethod yX6_attemptNode ∈ wsL_law := wsL_r23 _ (List.mem_of_getElem? (i := 19) rfl)
theorem q_23_20 : Cond.selects RX6 yX6_attemptNode yX6_attemptNode ∈ wsL_law := wsL_r23 _ (List.mem_of_getElem? (i := 20) rfl)
theorem q_23_21 : Cond.code yX6_attemptNode cX6_attemptNode 2 (some .int) ∈ wsL_law := wsL_r23 _ (List.mem_of_getElem? (i := 21) rfl)
theorem q_23_22 : Cond.methodLink RL 84 yX5_attemptState ∈ wsL_law := wsL_r23 _ (List.mem_of_getElem? (i := 22) rfl)
theorem q_23_23 : Cond.instanceMethod yX5_attemptState ∈ wsL_law := wsL_r23 _ (List.mem_of_getElem? (i := 23) rfl)
theorem q_24_0 : Cond.selects RX5 yX5_attemptState yX5_attemptState ∈ wsL_law := wsL_r24 _ (List.mem_of_getElem? (i := 0) rfl)
theorem q_24_1 : Cond.code yX5_attemptState cX5_attemptState 2 (some .int) ∈ wsL_law := wsL_r24 _ (List.mem_of_getElem? (i := 1) rfl)
theorem q_24_2 : Cond.fieldLink RX5 118 "SpeculativeScheduler$Attempts" "state" "[I" ∈ wsL_law := wsL_r24 _ (List.mem_of_getElem? (i := 2) rfl)
theorem q_24_3 : Cond.methodLink RL 87 yX6_attemptState ∈ wsL_law := wsL_r24 _ (List.mem_of_getElem? (i := 3) rfl)
theorem q_24_4 : Cond.instanceMethod yX6_attemptState ∈ wsL_law := wsL_r24 _ (List.mem_of_getElem? (i := 4) rfl)
theorem q_24_5 : Cond.selects RX6 yX6_attemptState yX6_attemptState ∈ wsL_law := wsL_r24 _ (List.mem_of_getElem? (i := 5) rfl)
theorem q_24_6 : Cond.code yX6_attemptState cX6_attemptState 2 (some .int) ∈ wsL_law := wsL_r24 _ (List.mem_of_getElem? (i := 6) rfl)
theorem q_24_7 : Cond.methodLink RL 88 yX5_isSpeculative ∈ wsL_law := wsL_r24 _ (List.mem_of_getElem? (i := 7) rfl)
theorem q_24_8 : Cond.instanceMethod yX5_isSpeculative ∈ wsL_law := wsL_r24 _ (List.mem_of_getElem? (i := 8) rfl)
theorem q_24_9 : Cond.selects RX5 yX5_isSpeculative yX5_isSpeculative ∈ wsL_law := wsL_r24 _ (List.mem_of_getElem? (i := 9) rfl)
theorem q_24_10 : Cond.code yX5_isSpeculative cX5_isSpeculative 2 (some .int) ∈ wsL_law := wsL_r24 _ (List.mem_of_getElem? (i := 10) rfl)
theorem q_24_11 : Cond.fieldLink RX5 121 "SpeculativeScheduler$Attempts" "speculative" "[Z" ∈ wsL_law := wsL_r24 _ (List.mem_of_getElem? (i := 11) rfl)
theorem q_24_12 : Cond.methodLink RL 91 yX6_isSpeculative ∈ wsL_law := wsL_r24 _ (List.mem_of_getElem? (i := 12) rfl)
theorem q_24_13 : Cond.instanceMethod yX6_isSpeculative ∈ wsL_law := wsL_r24 _ (List.mem_of_getElem? (i := 13) rfl)
theorem q_24_14 : Cond.selects RX6 yX6_isSpeculative yX6_isSpeculative ∈ wsL_law := wsL_r24 _ (List.mem_of_getElem? (i := 14) rfl)
theorem q_24_15 : Cond.code yX6_isSpeculative cX6_isSpeculative 2 (some .int) ∈ wsL_law := wsL_r24 _ (List.mem_of_getElem? (i := 15) rfl)
theorem q_24_16 : Cond.methodLink RL 92 yX5_progress ∈ wsL_law := wsL_r24 _ (List.mem_of_getElem? (i := 16) rfl)
theorem q_24_17 : Cond.instanceMethod yX5_progress ∈ wsL_law := wsL_r24 _ (List.mem_of_getElem? (i := 17) rfl)
theorem q_24_18 : Cond.selects RX5 yX5_progress yX5_progress ∈ wsL_law := wsL_r24 _ (List.mem_of_getElem? (i := 18) rfl)
theorem q_24_19 : Cond.code yX5_progress cX5_progress 2 (some .int) ∈ wsL_law := wsL_r24 _ (List.mem_of_getElem? (i := 19) rfl)
theorem q_24_20 : Cond.fieldLink RX5 124 "SpeculativeScheduler$Attempts" "progress" "[I" ∈ wsL_law := wsL_r24 _ (List.mem_of_getElem? (i := 20) rfl)
theorem q_24_21 : Cond.methodLink RL 95 yX6_progress ∈ wsL_law := wsL_r24 _ (List.mem_of_getElem? (i := 21) rfl)
theorem q_24_22 : Cond.instanceMethod yX6_progress ∈ wsL_law := wsL_r24 _ (List.mem_of_getElem? (i := 22) rfl)
theorem q_24_23 : Cond.selects RX6 yX6_progress yX6_progress ∈ wsL_law := wsL_r24 _ (List.mem_of_getElem? (i := 23) rfl)
theorem q_25_0 : Cond.code yX6_progress cX6_progress 2 (some .int) ∈ wsL_law := wsL_r25 _ (List.mem_of_getElem? (i := 0) rfl)
theorem q_25_1 : Cond.methodLink RL 96 yX5_remainingTime ∈ wsL_law := wsL_r25 _ (List.mem_of_getElem? (i := 1) rfl)
theorem q_25_2 : Cond.instanceMethod yX5_remainingTime ∈ wsL_law := wsL_r25 _ (List.mem_of_getElem? (i := 2) rfl)
theorem q_25_3 : Cond.selects RX5 yX5_remainingTime yX5_remainingTime ∈ wsL_law := wsL_r25 _ (List.mem_of_getElem? (i := 3) rfl)
theorem q_25_4 : Cond.code yX5_remainingTime cX5_remainingTime 2 (some .int) ∈ wsL_law := wsL_r25 _ (List.mem_of_getElem? (i := 4) rfl)
theorem q_25_5 : Cond.methodLink RX5 127 yX0_remaining ∈ wsL_law := wsL_r25 _ (List.mem_of_getElem? (i := 5) rfl)
theorem q_25_6 : Cond.methodLink RL 99 yX6_remainingTime ∈ wsL_law := wsL_r25 _ (List.mem_of_getElem? (i := 6) rfl)
theorem q_25_7 : Cond.instanceMethod yX6_remainingTime ∈ wsL_law := wsL_r25 _ (List.mem_of_getElem? (i := 7) rfl)
theorem q_25_8 : Cond.selects RX6 yX6_remainingTime yX6_remainingTime ∈ wsL_law := wsL_r25 _ (List.mem_of_getElem? (i := 8) rfl)
theorem q_25_9 : Cond.code yX6_remainingTime cX6_remainingTime 2 (some .int) ∈ wsL_law := wsL_r25 _ (List.mem_of_getElem? (i := 9) rfl)
theorem q_25_10 : Cond.methodLink RL 100 yX5_nodeScore ∈ wsL_law := wsL_r25 _ (List.mem_of_getElem? (i := 10) rfl)
theorem q_25_11 : Cond.instanceMethod yX5_nodeScore ∈ wsL_law := wsL_r25 _ (List.mem_of_getElem? (i := 11) rfl)
theorem q_25_12 : Cond.selects RX5 yX5_nodeScore yX5_nodeScore ∈ wsL_law := wsL_r25 _ (List.mem_of_getElem? (i := 12) rfl)
theorem q_25_13 : Cond.code yX5_nodeScore cX5_nodeScore 2 (some .int) ∈ wsL_law := wsL_r25 _ (List.mem_of_getElem? (i := 13) rfl)
theorem q_25_14 : Cond.methodLink RX5 130 yX2_score ∈ wsL_law := wsL_r25 _ (List.mem_of_getElem? (i := 14) rfl)
theorem q_25_15 : Cond.methodLink RL 103 yX6_nodeScore ∈ wsL_law := wsL_r25 _ (List.mem_of_getElem? (i := 15) rfl)
theorem q_25_16 : Cond.instanceMethod yX6_nodeScore ∈ wsL_law := wsL_r25 _ (List.mem_of_getElem? (i := 16) rfl)
theorem q_25_17 : Cond.selects RX6 yX6_nodeScore yX6_nodeScore ∈ wsL_law := wsL_r25 _ (List.mem_of_getElem? (i := 17) rfl)
theorem q_25_18 : Cond.code yX6_nodeScore cX6_nodeScore 2 (some .int) ∈ wsL_law := wsL_r25 _ (List.mem_of_getElem? (i := 18) rfl)
theorem q_25_19 : Cond.methodLink RL 104 yX5_isSlowNode ∈ wsL_law := wsL_r25 _ (List.mem_of_getElem? (i := 19) rfl)
theorem q_25_20 : Cond.instanceMethod yX5_isSlowNode ∈ wsL_law := wsL_r25 _ (List.mem_of_getElem? (i := 20) rfl)
theorem q_25_21 : Cond.selects RX5 yX5_isSlowNode yX5_isSlowNode ∈ wsL_law := wsL_r25 _ (List.mem_of_getElem? (i := 21) rfl)
theorem q_25_22 : Cond.code yX5_isSlowNode cX5_isSlowNode 2 (some .int) ∈ wsL_law := wsL_r25 _ (List.mem_of_getElem? (i := 22) rfl)
theorem q_25_23 : Cond.methodLink RX5 133 yX2_isSlow ∈ wsL_law := wsL_r25 _ (List.mem_of_getElem? (i := 23) rfl)
theorem q_26_0 : Cond.methodLink RL 107 yX6_isSlowNode ∈ wsL_law := wsL_r26 _ (List.mem_of_getElem? (i := 0) rfl)
theorem q_26_1 : Cond.instanceMethod yX6_isSlowNode ∈ wsL_law := wsL_r26 _ (List.mem_of_getElem? (i := 1) rfl)
theorem q_26_2 : Cond.selects RX6 yX6_isSlowNode yX6_isSlowNode ∈ wsL_law := wsL_r26 _ (List.mem_of_getElem? (i := 2) rfl)
theorem q_26_3 : Cond.code yX6_isSlowNode cX6_isSlowNode 2 (some .int) ∈ wsL_law := wsL_r26 _ (List.mem_of_getElem? (i := 3) rfl)
theorem q_26_4 : Cond.methodLink RL 108 yX5_runningOn ∈ wsL_law := wsL_r26 _ (List.mem_of_getElem? (i := 4) rfl)
theorem q_26_5 : Cond.instanceMethod yX5_runningOn ∈ wsL_law := wsL_r26 _ (List.mem_of_getElem? (i := 5) rfl)
theorem q_26_6 : Cond.selects RX5 yX5_runningOn yX5_runningOn ∈ wsL_law := wsL_r26 _ (List.mem_of_getElem? (i := 6) rfl)
theorem q_26_7 : Cond.code yX5_runningOn cX5_runningOn 2 (some .int) ∈ wsL_law := wsL_r26 _ (List.mem_of_getElem? (i := 7) rfl)
theorem q_26_8 : Cond.fieldLink RX5 137 "SpeculativeScheduler$Nodes" "busy" "[I" ∈ wsL_law := wsL_r26 _ (List.mem_of_getElem? (i := 8) rfl)
theorem q_26_9 : Cond.methodLink RL 111 yX6_runningOn ∈ wsL_law := wsL_r26 _ (List.mem_of_getElem? (i := 9) rfl)
theorem q_26_10 : Cond.instanceMethod yX6_runningOn ∈ wsL_law := wsL_r26 _ (List.mem_of_getElem? (i := 10) rfl)
theorem q_26_11 : Cond.selects RX6 yX6_runningOn yX6_runningOn ∈ wsL_law := wsL_r26 _ (List.mem_of_getElem? (i := 11) rfl)
theorem q_26_12 : Cond.code yX6_runningOn cX6_runningOn 2 (some .int) ∈ wsL_law := wsL_r26 _ (List.mem_of_getElem? (i := 12) rfl)
theorem q_26_13 : Cond.methodLink RL 112 yX5_straggler ∈ wsL_law := wsL_r26 _ (List.mem_of_getElem? (i := 13) rfl)
theorem q_26_14 : Cond.instanceMethod yX5_straggler ∈ wsL_law := wsL_r26 _ (List.mem_of_getElem? (i := 14) rfl)
theorem q_26_15 : Cond.selects RX5 yX5_straggler yX5_straggler ∈ wsL_law := wsL_r26 _ (List.mem_of_getElem? (i := 15) rfl)
theorem q_26_16 : Cond.code yX5_straggler cX5_straggler 1 (some .int) ∈ wsL_law := wsL_r26 _ (List.mem_of_getElem? (i := 16) rfl)
theorem q_26_17 : Cond.methodLink RX5 140 yX1_findStraggler ∈ wsL_law := wsL_r26 _ (List.mem_of_getElem? (i := 17) rfl)
theorem q_26_18 : Cond.methodLink RL 115 yX6_straggler ∈ wsL_law := wsL_r26 _ (List.mem_of_getElem? (i := 18) rfl)
theorem q_26_19 : Cond.instanceMethod yX6_straggler ∈ wsL_law := wsL_r26 _ (List.mem_of_getElem? (i := 19) rfl)
theorem q_26_20 : Cond.selects RX6 yX6_straggler yX6_straggler ∈ wsL_law := wsL_r26 _ (List.mem_of_getElem? (i := 20) rfl)
theorem q_26_21 : Cond.code yX6_straggler cX6_straggler 1 (some .int) ∈ wsL_law := wsL_r26 _ (List.mem_of_getElem? (i := 21) rfl)
theorem q_26_22 : Cond.methodLink RL 116 yX5_runningSpeculative ∈ wsL_law := wsL_r26 _ (List.mem_of_getElem? (i := 22) rfl)
theorem q_26_23 : Cond.instanceMethod yX5_runningSpeculative ∈ wsL_law := wsL_r26 _ (List.mem_of_getElem? (i := 23) rfl)
theorem q_27_0 : Cond.selects RX5 yX5_runningSpeculative yX5_runningSpeculative ∈ wsL_law := wsL_r27 _ (List.mem_of_getElem? (i := 0) rfl)
theorem q_27_1 : Cond.code yX5_runningSpeculative cX5_runningSpeculative 1 (some .int) ∈ wsL_law := wsL_r27 _ (List.mem_of_getElem? (i := 1) rfl)
theorem q_27_2 : Cond.methodLink RX5 143 yX0_countSpeculative ∈ wsL_law := wsL_r27 _ (List.mem_of_getElem? (i := 2) rfl)
theorem q_27_3 : Cond.methodLink RL 119 yX6_runningSpeculative ∈ wsL_law := wsL_r27 _ (List.mem_of_getElem? (i := 3) rfl)
theorem q_27_4 : Cond.instanceMethod yX6_runningSpeculative ∈ wsL_law := wsL_r27 _ (List.mem_of_getElem? (i := 4) rfl)
theorem q_27_5 : Cond.selects RX6 yX6_runningSpeculative yX6_runningSpeculative ∈ wsL_law := wsL_r27 _ (List.mem_of_getElem? (i := 5) rfl)
theorem q_27_6 : Cond.code yX6_runningSpeculative cX6_runningSpeculative 1 (some .int) ∈ wsL_law := wsL_r27 _ (List.mem_of_getElem? (i := 6) rfl)
theorem q_27_7 : Cond.methodLink RL 120 yX5_wastedWork ∈ wsL_law := wsL_r27 _ (List.mem_of_getElem? (i := 7) rfl)
theorem q_27_8 : Cond.instanceMethod yX5_wastedWork ∈ wsL_law := wsL_r27 _ (List.mem_of_getElem? (i := 8) rfl)
theorem q_27_9 : Cond.selects RX5 yX5_wastedWork yX5_wastedWork ∈ wsL_law := wsL_r27 _ (List.mem_of_getElem? (i := 9) rfl)
theorem q_27_10 : Cond.code yX5_wastedWork cX5_wastedWork 1 (some .int) ∈ wsL_law := wsL_r27 _ (List.mem_of_getElem? (i := 10) rfl)
theorem q_27_11 : Cond.methodLink RX5 146 yX0_wasted ∈ wsL_law := wsL_r27 _ (List.mem_of_getElem? (i := 11) rfl)
theorem q_27_12 : Cond.instanceMethod yX0_wasted ∈ wsL_law := wsL_r27 _ (List.mem_of_getElem? (i := 12) rfl)
theorem q_27_13 : Cond.selects RX0 yX0_wasted yX0_wasted ∈ wsL_law := wsL_r27 _ (List.mem_of_getElem? (i := 13) rfl)
theorem q_27_14 : Cond.code yX0_wasted cX0_wasted 3 (some .int) ∈ wsL_law := wsL_r27 _ (List.mem_of_getElem? (i := 14) rfl)
theorem q_27_15 : Cond.methodLink RL 123 yX6_wastedWork ∈ wsL_law := wsL_r27 _ (List.mem_of_getElem? (i := 15) rfl)
theorem q_27_16 : Cond.instanceMethod yX6_wastedWork ∈ wsL_law := wsL_r27 _ (List.mem_of_getElem? (i := 16) rfl)
theorem q_27_17 : Cond.selects RX6 yX6_wastedWork yX6_wastedWork ∈ wsL_law := wsL_r27 _ (List.mem_of_getElem? (i := 17) rfl)
theorem q_27_18 : Cond.code yX6_wastedWork cX6_wastedWork 3 (some .int) ∈ wsL_law := wsL_r27 _ (List.mem_of_getElem? (i := 18) rfl)
theorem q_27_19 : Cond.methodLink RL 124 yX5_simulatedMakespan ∈ wsL_law := wsL_r27 _ (List.mem_of_getElem? (i := 19) rfl)
theorem q_27_20 : Cond.instanceMethod yX5_simulatedMakespan ∈ wsL_law := wsL_r27 _ (List.mem_of_getElem? (i := 20) rfl)
theorem q_27_21 : Cond.selects RX5 yX5_simulatedMakespan yX5_simulatedMakespan ∈ wsL_law := wsL_r27 _ (List.mem_of_getElem? (i := 21) rfl)
theorem q_27_22 : Cond.code yX5_simulatedMakespan cX5_simulatedMakespan 4 (some .int) ∈ wsL_law := wsL_r27 _ (List.mem_of_getElem? (i := 22) rfl)
theorem q_27_23 : Cond.fieldLink RX5 153 "SpeculativeScheduler$Tasks" "count" "I" ∈ wsL_law := wsL_r27 _ (List.mem_of_getElem? (i := 23) rfl)
theorem q_28_0 : Cond.methodLink RX5 149 yX1_startAfresh ∈ wsL_law := wsL_r28 _ (List.mem_of_getElem? (i := 0) rfl)
theorem q_28_1 : Cond.instanceMethod yX1_startAfresh ∈ wsL_law := wsL_r28 _ (List.mem_of_getElem? (i := 1) rfl)
theorem q_28_2 : Cond.selects RX1 yX1_startAfresh yX1_startAfresh ∈ wsL_law := wsL_r28 _ (List.mem_of_getElem? (i := 2) rfl)
theorem q_28_3 : Cond.code yX1_startAfresh cX1_startAfresh 3 none ∈ wsL_law := wsL_r28 _ (List.mem_of_getElem? (i := 3) rfl)
theorem q_28_4 : Cond.methodLink RX1 43 yX3_copyWithPolicy ∈ wsL_law := wsL_r28 _ (List.mem_of_getElem? (i := 4) rfl)
theorem q_28_5 : Cond.instanceMethod yX3_copyWithPolicy ∈ wsL_law := wsL_r28 _ (List.mem_of_getElem? (i := 5) rfl)
theorem q_28_6 : Cond.selects RX3 yX3_copyWithPolicy yX3_copyWithPolicy ∈ wsL_law := wsL_r28 _ (List.mem_of_getElem? (i := 6) rfl)
theorem q_28_7 : Cond.code yX3_copyWithPolicy cX3_copyWithPolicy 3 none ∈ wsL_law := wsL_r28 _ (List.mem_of_getElem? (i := 7) rfl)
theorem q_28_8 : Cond.methodLink RX1 47 yX2_copyUnused ∈ wsL_law := wsL_r28 _ (List.mem_of_getElem? (i := 8) rfl)
theorem q_28_9 : Cond.instanceMethod yX2_copyUnused ∈ wsL_law := wsL_r28 _ (List.mem_of_getElem? (i := 9) rfl)
theorem q_28_10 : Cond.selects RX2 yX2_copyUnused yX2_copyUnused ∈ wsL_law := wsL_r28 _ (List.mem_of_getElem? (i := 10) rfl)
theorem q_28_11 : Cond.code yX2_copyUnused cX2_copyUnused 3 none ∈ wsL_law := wsL_r28 _ (List.mem_of_getElem? (i := 11) rfl)
theorem q_28_12 : Cond.methodLink RX2 35 yX2_add ∈ wsL_law := wsL_r28 _ (List.mem_of_getElem? (i := 12) rfl)
theorem q_28_13 : Cond.methodLink RX1 51 yX4_copyUnused ∈ wsL_law := wsL_r28 _ (List.mem_of_getElem? (i := 13) rfl)
theorem q_28_14 : Cond.instanceMethod yX4_copyUnused ∈ wsL_law := wsL_r28 _ (List.mem_of_getElem? (i := 14) rfl)
theorem q_28_15 : Cond.selects RX4 yX4_copyUnused yX4_copyUnused ∈ wsL_law := wsL_r28 _ (List.mem_of_getElem? (i := 15) rfl)
theorem q_28_16 : Cond.code yX4_copyUnused cX4_copyUnused 3 none ∈ wsL_law := wsL_r28 _ (List.mem_of_getElem? (i := 16) rfl)
theorem q_28_17 : Cond.methodLink RX4 28 yX4_add ∈ wsL_law := wsL_r28 _ (List.mem_of_getElem? (i := 17) rfl)
theorem q_28_18 : Cond.methodLink RX1 54 yX0_clear ∈ wsL_law := wsL_r28 _ (List.mem_of_getElem? (i := 18) rfl)
theorem q_28_19 : Cond.instanceMethod yX0_clear ∈ wsL_law := wsL_r28 _ (List.mem_of_getElem? (i := 19) rfl)
theorem q_28_20 : Cond.selects RX0 yX0_clear yX0_clear ∈ wsL_law := wsL_r28 _ (List.mem_of_getElem? (i := 20) rfl)
theorem q_28_21 : Cond.code yX0_clear cX0_clear 1 none ∈ wsL_law := wsL_r28 _ (List.mem_of_getElem? (i := 21) rfl)
theorem q_28_22 : Cond.methodLink RL 127 yX6_simulatedMakespan ∈ wsL_law := wsL_r28 _ (List.mem_of_getElem? (i := 22) rfl)
theorem q_28_23 : Cond.instanceMethod yX6_simulatedMakespan ∈ wsL_law := wsL_r28 _ (List.mem_of_getElem? (i := 23) rfl)
theorem q_29_0 : Cond.selects RX6 yX6_simulatedMakespan yX6_simulatedMakespan ∈ wsL_law := wsL_r29 _ (List.mem_of_getElem? (i := 0) rfl)
theorem q_29_1 : Cond.code yX6_simulatedMakespan cX6_simulatedMakespan 3 (some .int) ∈ wsL_law := wsL_r29 _ (List.mem_of_getElem? (i := 1) rfl)
theorem q_29_2 : Cond.methodLink RX6 190 yX6_clears ∈ wsL_law := wsL_r29 _ (List.mem_of_getElem? (i := 2) rfl)
theorem q_29_3 : Cond.instanceMethod yX6_clears ∈ wsL_law := wsL_r29 _ (List.mem_of_getElem? (i := 3) rfl)
theorem q_29_4 : Cond.selects RX6 yX6_clears yX6_clears ∈ wsL_law := wsL_r29 _ (List.mem_of_getElem? (i := 4) rfl)
theorem q_29_5 : Cond.code yX6_clears cX6_clears 2 none ∈ wsL_law := wsL_r29 _ (List.mem_of_getElem? (i := 5) rfl)
end
section
theorem dX0_init_0 : decode cX0_init 0 = .ok (.aload_n 0, 1) := by decide +kernel
theorem dX0_init_1 : decode cX0_init 1 = .ok (.invokespecial 3, 3) := by decide +kernel
theorem dX0_init_4 : decode cX0_init 4 = .ok (.aload_n 0, 1) := by decide +kernel
theorem dX0_init_5 : decode cX0_init 5 = .ok (.iconst 0, 1) := by decide +kernel
theorem dX0_init_6 : decode cX0_init 6 = .ok (.putfield 9, 3) := by decide +kernel
theorem dX0_init_9 : decode cX0_init 9 = .ok (.aload_n 0, 1) := by decide +kernel
theorem dX0_init_10 : decode cX0_init 10 = .ok (.sipush 200, 3) := by decide +kernel
theorem dX0_init_13 : decode cX0_init 13 = .ok (.newarray .int, 2) := by decide +kernel
theorem dX0_init_15 : decode cX0_init 15 = .ok (.putfield 15, 3) := by decide +kernel
theorem dX0_init_18 : decode cX0_init 18 = .ok (.aload_n 0, 1) := by decide +kernel
theorem dX0_init_19 : decode cX0_init 19 = .ok (.sipush 200, 3) := by decide +kernel
theorem dX0_init_22 : decode cX0_init 22 = .ok (.newarray .int, 2) := by decide +kernel
theorem dX0_init_24 : decode cX0_init 24 = .ok (.putfield 19, 3) := by decide +kernel
theorem dX0_init_27 : decode cX0_init 27 = .ok (.aload_n 0, 1) := by decide +kernel
theorem dX0_init_28 : decode cX0_init 28 = .ok (.sipush 200, 3) := by decide +kernel
theorem dX0_init_31 : decode cX0_init 31 = .ok (.newarray .int, 2) := by decide +kernel
theorem dX0_init_33 : decode cX0_init 33 = .ok (.putfield 22, 3) := by decide +kernel
theorem dX0_init_36 : decode cX0_init 36 = .ok (.aload_n 0, 1) := by decide +kernel
theorem dX0_init_37 : decode cX0_init 37 = .ok (.sipush 200, 3) := by decide +kernel
theorem dX0_init_40 : decode cX0_init 40 = .ok (.newarray .boolean, 2) := by decide +kernel
theorem dX0_init_42 : decode cX0_init 42 = .ok (.putfield 25, 3) := by decide +kernel
theorem dX0_init_45 : decode cX0_init 45 = .ok (.aload_n 0, 1) := by decide +kernel
theorem dX0_init_46 : decode cX0_init 46 = .ok (.sipush 200, 3) := by decide +kernel
theorem dX0_init_49 : decode cX0_init 49 = .ok (.newarray .int, 2) := by decide +kernel
theorem dX0_init_51 : decode cX0_init 51 = .ok (.putfield 29, 3) := by decide +kernel
theorem dX0_init_54 : decode cX0_init 54 = .ok (.aload_n 0, 1) := by decide +kernel
theorem dX0_init_55 : decode cX0_init 55 = .ok (.sipush 200, 3) := by decide +kernel
theorem dX0_init_58 : decode cX0_init 58 = .ok (.newarray .int, 2) := by decide +kernel
theorem dX0_init_60 : decode cX0_init 60 = .ok (.putfield 32, 3) := by decide +kernel
theorem dX0_init_63 : decode cX0_init 63 = .ok (.aload_n 0, 1) := by decide +kernel
theorem dX0_init_64 : decode cX0_init 64 = .ok (.sipush 200, 3) := by decide +kernel
theorem dX0_init_67 : decode cX0_init 67 = .ok (.newarray .int, 2) := by decide +kernel
theorem dX0_init_69 : decode cX0_init 69 = .ok (.putfield 35, 3) := by decide +kernel
theorem dX0_init_72 : decode cX0_init 72 = .ok (.aload_n 0, 1) := by decide +kernel
theorem dX0_init_73 : decode cX0_init 73 = .ok (.sipush 200, 3) := by decide +kernel
theorem dX0_init_76 : decode cX0_init 76 = .ok (.newarray .int, 2) := by decide +kernel
theorem dX0_init_78 : decode cX0_init 78 = .ok (.putfield 38, 3) := by decide +kernel
theorem dX0_init_81 : decode cX0_init 81 = .ok (.aload_n 0, 1) := by decide +kernel
theorem dX0_init_82 : decode cX0_init 82 = .ok (.bipush 32, 2) := by decide +kernel
theorem dX0_init_84 : decode cX0_init 84 = .ok (.newarray .int, 2) := by decide +kernel
theorem dX0_init_86 : decode cX0_init 86 = .ok (.putfield 41, 3) := by decide +kernel
theorem dX0_init_89 : decode cX0_init 89 = .ok (.aload_n 0, 1) := by decide +kernel
theorem dX0_init_90 : decode cX0_init 90 = .ok (.iconst 0, 1) := by decide +kernel
theorem dX0_init_91 : decode cX0_init 91 = .ok (.putfield 44, 3) := by decide +kernel
theorem dX0_init_94 : decode cX0_init 94 = .ok (.return_, 1) := by decide +kernel
theorem dX0_has_0 : decode cX0_has 0 = .ok (.iload_n 1, 1) := by decide +kernel
theorem dX0_has_1 : decode cX0_has 1 = .ok (.ifCond .lt 15, 3) := by decide +kernel
theorem dX0_has_4 : decode cX0_has 4 = .ok (.iload_n 1, 1) := by decide +kernel
theorem dX0_has_5 : decode cX0_has 5 = .ok (.aload_n 0, 1) := by decide +kernel
theorem dX0_has_6 : decode cX0_has 6 = .ok (.getfield 9, 3) := by decide +kernel
theorem dX0_has_9 : decode cX0_has 9 = .ok (.if_icmp .ge 7, 3) := by decide +kernel
theorem dX0_has_12 : decode cX0_has 12 = .ok (.iconst 1, 1) := by decide +kernel
theorem dX0_has_13 : decode cX0_has 13 = .ok (.goto 4, 3) := by decide +kernel
theorem dX0_has_16 : decode cX0_has 16 = .ok (.iconst 0, 1) := by decide +kernel
theorem dX0_has_17 : decode cX0_has 17 = .ok (.ireturn, 1) := by decide +kernel
theorem dX0_clear_0 : decode cX0_clear 0 = .ok (.aload_n 0, 1) := by decide +kernel
theorem dX0_clear_1 : decode cX0_clear 1 = .ok (.iconst 0, 1) := by decide +kernel
theorem dX0_clear_2 : decode cX0_clear 2 = .ok (.putfield 9, 3) := by decide +kernel
theorem dX0_clear_5 : decode cX0_clear 5 = .ok (.aload_n 0, 1) := by decide +kernel
theorem dX0_clear_6 : decode cX0_clear 6 = .ok (.iconst 0, 1) := by decide +kernel
theorem dX0_clear_7 : decode cX0_clear 7 = .ok (.putfield 44, 3) := by decide +kernel
theorem dX0_clear_10 : decode cX0_clear 10 = .ok (.return_, 1) := by decide +kernel
theorem dX0_isFull_0 : decode cX0_isFull 0 = .ok (.aload_n 0, 1) := by decide +kernel
theorem dX0_isFull_1 : decode cX0_isFull 1 = .ok (.getfield 9, 3) := by decide +kernel
theorem dX0_isFull_4 : decode cX0_isFull 4 = .ok (.sipush 200, 3) := by decide +kernel
theorem dX0_isFull_7 : decode cX0_isFull 7 = .ok (.if_icmp .ge 12, 3) := by decide +kernel
theorem dX0_isFull_10 : decode cX0_isFull 10 = .ok (.aload_n 0, 1) := by decide +kernel
theorem dX0_isFull_11 : decode cX0_isFull 11 = .ok (.getfield 44, 3) := by decide +kernel
theorem dX0_isFull_14 : decode cX0_isFull 14 = .ok (.bipush 32, 2) := by decide +kernel
theorem dX0_isFull_16 : decode cX0_isFull 16 = .ok (.if_icmp .lt 7, 3) := by decide +kernel
theorem dX0_isFull_19 : decode cX0_isFull 19 = .ok (.iconst 1, 1) := by decide +kernel
theorem dX0_isFull_20 : decode cX0_isFull 20 = .ok (.goto 4, 3) := by decide +kernel
theorem dX0_isFull_23 : decode cX0_isFull 23 = .ok (.iconst 0, 1) := by decide +kernel
theorem dX0_isFull_24 : decode cX0_isFull 24 = .ok (.ireturn, 1) := by decide +kernel
theorem dX0_add_0 : decode cX0_add 0 = .ok (.aload_n 0, 1) := by decide +kernel
theorem dX0_add_1 : decode cX0_add 1 = .ok (.invokevirtual 47, 3) := by decide +kernel
theorem dX0_add_4 : decode cX0_add 4 = .ok (.ifCond .eq 4, 3) := by decide +kernel
theorem dX0_add_7 : decode cX0_add 7 = .ok (.return_, 1) := by decide +kernel
theorem dX0_add_8 : decode cX0_add 8 = .ok (.aload_n 0, 1) := by decide +kernel
theorem dX0_add_9 : decode cX0_add 9 = .ok (.getfield 9, 3) := by decide +kernel
theorem dX0_add_12 : decode cX0_add 12 = .ok (.istore 4, 2) := by decide +kernel
theorem dX0_add_14 : decode cX0_add 14 = .ok (.aload_n 0, 1) := by decide +kernel
theorem dX0_add_15 : decode cX0_add 15 = .ok (.dup, 1) := by decide +kernel
theorem dX0_add_16 : decode cX0_add 16 = .ok (.getfield 9, 3) := by decide +kernel
theorem dX0_add_19 : decode cX0_add 19 = .ok (.iconst 1, 1) := by decide +kernel
theorem dX0_add_20 : decode cX0_add 20 = .ok (.iadd, 1) := by decide +kernel
theorem dX0_add_21 : decode cX0_add 21 = .ok (.putfield 9, 3) := by decide +kernel
theorem dX0_add_24 : decode cX0_add 24 = .ok (.aload_n 0, 1) := by decide +kernel
theorem dX0_add_25 : decode cX0_add 25 = .ok (.getfield 15, 3) := by decide +kernel
theorem dX0_add_28 : decode cX0_add 28 = .ok (.iload 4, 2) := by decide +kernel
theorem dX0_add_30 : decode cX0_add 30 = .ok (.iload_n 1, 1) := by decide +kernel
theorem dX0_add_31 : decode cX0_add 31 = .ok (.iastore, 1) := by decide +kernel
theorem dX0_add_32 : decode cX0_add 32 = .ok (.aload_n 0, 1) := by decide +kernel
theorem dX0_add_33 : decode cX0_add 33 = .ok (.getfield 19, 3) := by decide +kernel
theorem dX0_add_36 : decode cX0_add 36 = .ok (.iload 4, 2) := by decide +kernel
theorem dX0_add_38 : decode cX0_add 38 = .ok (.iload_n 2, 1) := by decide +kernel
theorem dX0_add_39 : decode cX0_add 39 = .ok (.iastore, 1) := by decide +kernel
theorem dX0_add_40 : decode cX0_add 40 = .ok (.aload_n 0, 1) := by decide +kernel
theorem dX0_add_41 : decode cX0_add 41 = .ok (.getfield 22, 3) := by decide +kernel
theorem dX0_add_44 : decode cX0_add 44 = .ok (.iload 4, 2) := by decide +kernel
theorem dX0_add_46 : decode cX0_add 46 = .ok (.iconst 1, 1) := by decide +kernel
theorem dX0_add_47 : decode cX0_add 47 = .ok (.iastore, 1) := by decide +kernel
theorem dX0_add_48 : decode cX0_add 48 = .ok (.aload_n 0, 1) := by decide +kernel
theorem dX0_add_49 : decode cX0_add 49 = .ok (.getfield 25, 3) := by decide +kernel
theorem dX0_add_52 : decode cX0_add 52 = .ok (.iload 4, 2) := by decide +kernel
theorem dX0_add_54 : decode cX0_add 54 = .ok (.iload_n 3, 1) := by decide +kernel
theorem dX0_add_55 : decode cX0_add 55 = .ok (.bastore, 1) := by decide +kernel
theorem dX0_add_56 : decode cX0_add 56 = .ok (.aload_n 0, 1) := by decide +kernel
theorem dX0_add_57 : decode cX0_add 57 = .ok (.getfield 29, 3) := by decide +kernel
theorem dX0_add_60 : decode cX0_add 60 = .ok (.iload 4, 2) := by decide +kernel
theorem dX0_add_62 : decode cX0_add 62 = .ok (.iconst 0, 1) := by decide +kernel
theorem dX0_add_63 : decode cX0_add 63 = .ok (.iastore, 1) := by decide +kernel
theorem dX0_add_64 : decode cX0_add 64 = .ok (.aload_n 0, 1) := by decide +kernel
theorem dX0_add_65 : decode cX0_add 65 = .ok (.getfield 32, 3) := by decide +kernel
theorem dX0_add_68 : decode cX0_add 68 = .ok (.iload 4, 2) := by decide +kernel
theorem dX0_add_70 : decode cX0_add 70 = .ok (.iconst 0, 1) := by decide +kernel
theorem dX0_add_71 : decode cX0_add 71 = .ok (.iastore, 1) := by decide +kernel
theorem dX0_add_72 : decode cX0_add 72 = .ok (.aload_n 0, 1) := by decide +kernel
theorem dX0_add_73 : decode cX0_add 73 = .ok (.getfield 35, 3) := by decide +kernel
theorem dX0_add_76 : decode cX0_add 76 = .ok (.iload 4, 2) := by decide +kernel
theorem dX0_add_78 : decode cX0_add 78 = .ok (.iconst 0, 1) := by decide +kernel
theorem dX0_add_79 : decode cX0_add 79 = .ok (.iastore, 1) := by decide +kernel
theorem dX0_add_80 : decode cX0_add 80 = .ok (.aload_n 0, 1) := by decide +kernel
theorem dX0_add_81 : decode cX0_add 81 = .ok (.getfield 38, 3) := by decide +kernel
theorem dX0_add_84 : decode cX0_add 84 = .ok (.iload 4, 2) := by decide +kernel
theorem dX0_add_86 : decode cX0_add 86 = .ok (.iconst 0, 1) := by decide +kernel
theorem dX0_add_87 : decode cX0_add 87 = .ok (.iastore, 1) := by decide +kernel
theorem dX0_add_88 : decode cX0_add 88 = .ok (.aload_n 0, 1) := by decide +kernel
theorem dX0_add_89 : decode cX0_add 89 = .ok (.getfield 41, 3) := by decide +kernel
theorem dX0_add_92 : decode cX0_add 92 = .ok (.aload_n 0, 1) := by decide +kernel
theorem dX0_add_93 : decode cX0_add 93 = .ok (.getfield 44, 3) := by decide +kernel
theorem dX0_add_96 : decode cX0_add 96 = .ok (.iload 4, 2) := by decide +kernel
theorem dX0_add_98 : decode cX0_add 98 = .ok (.iastore, 1) := by decide +kernel
theorem dX0_add_99 : decode cX0_add 99 = .ok (.aload_n 0, 1) := by decide +kernel
theorem dX0_add_100 : decode cX0_add 100 = .ok (.dup, 1) := by decide +kernel
theorem dX0_add_101 : decode cX0_add 101 = .ok (.getfield 44, 3) := by decide +kernel
theorem dX0_add_104 : decode cX0_add 104 = .ok (.iconst 1, 1) := by decide +kernel
theorem dX0_add_105 : decode cX0_add 105 = .ok (.iadd, 1) := by decide +kernel
theorem dX0_add_106 : decode cX0_add 106 = .ok (.putfield 44, 3) := by decide +kernel
theorem dX0_add_109 : decode cX0_add 109 = .ok (.return_, 1) := by decide +kernel
theorem dX0_grow_0 : decode cX0_grow 0 = .ok (.aload_n 0, 1) := by decide +kernel
theorem dX0_grow_1 : decode cX0_grow 1 = .ok (.getfield 29, 3) := by decide +kernel
theorem dX0_grow_4 : decode cX0_grow 4 = .ok (.iload_n 1, 1) := by decide +kernel
theorem dX0_grow_5 : decode cX0_grow 5 = .ok (.dup2, 1) := by decide +kernel
theorem dX0_grow_6 : decode cX0_grow 6 = .ok (.iaload, 1) := by decide +kernel
theorem dX0_grow_7 : decode cX0_grow 7 = .ok (.iconst 1, 1) := by decide +kernel
theorem dX0_grow_8 : decode cX0_grow 8 = .ok (.iadd, 1) := by decide +kernel
theorem dX0_grow_9 : decode cX0_grow 9 = .ok (.iastore, 1) := by decide +kernel
theorem dX0_grow_10 : decode cX0_grow 10 = .ok (.aload_n 0, 1) := by decide +kernel
theorem dX0_grow_11 : decode cX0_grow 11 = .ok (.getfield 32, 3) := by decide +kernel
theorem dX0_grow_14 : decode cX0_grow 14 = .ok (.iload_n 1, 1) := by decide +kernel
theorem dX0_grow_15 : decode cX0_grow 15 = .ok (.dup2, 1) := by decide +kernel
theorem dX0_grow_16 : decode cX0_grow 16 = .ok (.iaload, 1) := by decide +kernel
theorem dX0_grow_17 : decode cX0_grow 17 = .ok (.iload_n 2, 1) := by decide +kernel
theorem dX0_grow_18 : decode cX0_grow 18 = .ok (.iadd, 1) := by decide +kernel
theorem dX0_grow_19 : decode cX0_grow 19 = .ok (.iastore, 1) := by decide +kernel
theorem dX0_grow_20 : decode cX0_grow 20 = .ok (.iload_n 3, 1) := by decide +kernel
theorem dX0_grow_21 : decode cX0_grow 21 = .ok (.ifCond .le 18, 3) := by decide +kernel
theorem dX0_grow_24 : decode cX0_grow 24 = .ok (.aload_n 0, 1) := by decide +kernel
theorem dX0_grow_25 : decode cX0_grow 25 = .ok (.getfield 32, 3) := by decide +kernel
theorem dX0_grow_28 : decode cX0_grow 28 = .ok (.iload_n 1, 1) := by decide +kernel
theorem dX0_grow_29 : decode cX0_grow 29 = .ok (.iaload, 1) := by decide +kernel
theorem dX0_grow_30 : decode cX0_grow 30 = .ok (.sipush 1000, 3) := by decide +kernel
theorem dX0_grow_33 : decode cX0_grow 33 = .ok (.imul, 1) := by decide +kernel
theorem dX0_grow_34 : decode cX0_grow 34 = .ok (.iload_n 3, 1) := by decide +kernel
theorem dX0_grow_35 : decode cX0_grow 35 = .ok (.idiv, 1) := by decide +kernel
theorem dX0_grow_36 : decode cX0_grow 36 = .ok (.goto 4, 3) := by decide +kernel
theorem dX0_grow_39 : decode cX0_grow 39 = .ok (.iconst 0, 1) := by decide +kernel
theorem dX0_grow_40 : decode cX0_grow 40 = .ok (.istore 4, 2) := by decide +kernel
theorem dX0_grow_42 : decode cX0_grow 42 = .ok (.aload_n 0, 1) := by decide +kernel
theorem dX0_grow_43 : decode cX0_grow 43 = .ok (.getfield 35, 3) := by decide +kernel
theorem dX0_grow_46 : decode cX0_grow 46 = .ok (.iload_n 1, 1) := by decide +kernel
theorem dX0_grow_47 : decode cX0_grow 47 = .ok (.sipush 1000, 3) := by decide +kernel
theorem dX0_grow_50 : decode cX0_grow 50 = .ok (.iload 4, 2) := by decide +kernel
theorem dX0_grow_52 : decode cX0_grow 52 = .ok (.invokestatic 51, 3) := by decide +kernel
theorem dX0_grow_55 : decode cX0_grow 55 = .ok (.iastore, 1) := by decide +kernel
theorem dX0_grow_56 : decode cX0_grow 56 = .ok (.aload_n 0, 1) := by decide +kernel
theorem dX0_grow_57 : decode cX0_grow 57 = .ok (.getfield 38, 3) := by decide +kernel
theorem dX0_grow_60 : decode cX0_grow 60 = .ok (.iload_n 1, 1) := by decide +kernel
theorem dX0_grow_61 : decode cX0_grow 61 = .ok (.aload_n 0, 1) := by decide +kernel
theorem dX0_grow_62 : decode cX0_grow 62 = .ok (.getfield 29, 3) := by decide +kernel
theorem dX0_grow_65 : decode cX0_grow 65 = .ok (.iload_n 1, 1) := by decide +kernel
theorem dX0_grow_66 : decode cX0_grow 66 = .ok (.iaload, 1) := by decide +kernel
theorem dX0_grow_67 : decode cX0_grow 67 = .ok (.ifCond .le 19, 3) := by decide +kernel
theorem dX0_grow_70 : decode cX0_grow 70 = .ok (.aload_n 0, 1) := by decide +kernel
theorem dX0_grow_71 : decode cX0_grow 71 = .ok (.getfield 35, 3) := by decide +kernel
theorem dX0_grow_74 : decode cX0_grow 74 = .ok (.iload_n 1, 1) := by decide +kernel
theorem dX0_grow_75 : decode cX0_grow 75 = .ok (.iaload, 1) := by decide +kernel
theorem dX0_grow_76 : decode cX0_grow 76 = .ok (.aload_n 0, 1) := by decide +kernel
theorem dX0_grow_77 : decode cX0_grow 77 = .ok (.getfield 29, 3) := by decide +kernel
theorem dX0_grow_80 : decode cX0_grow 80 = .ok (.iload_n 1, 1) := by decide +kernel
theorem dX0_grow_81 : decode cX0_grow 81 = .ok (.iaload, 1) := by decide +kernel
theorem dX0_grow_82 : decode cX0_grow 82 = .ok (.idiv, 1) := by decide +kernel
theorem dX0_grow_83 : decode cX0_grow 83 = .ok (.goto 4, 3) := by decide +kernel
theorem dX0_grow_86 : decode cX0_grow 86 = .ok (.iconst 0, 1) := by decide +kernel
theorem dX0_grow_87 : decode cX0_grow 87 = .ok (.iastore, 1) := by decide +kernel
theorem dX0_grow_88 : decode cX0_grow 88 = .ok (.return_, 1) := by decide +kernel
theorem dX0_dropEnded_0 : decode cX0_dropEnded 0 = .ok (.iconst 0, 1) := by decide +kernel
theorem dX0_dropEnded_1 : decode cX0_dropEnded 1 = .ok (.istore_n 1, 1) := by decide +kernel
theorem dX0_dropEnded_2 : decode cX0_dropEnded 2 = .ok (.iconst 0, 1) := by decide +kernel
theorem dX0_dropEnded_3 : decode cX0_dropEnded 3 = .ok (.istore_n 2, 1) := by decide +kernel
theorem dX0_dropEnded_4 : decode cX0_dropEnded 4 = .ok (.iload_n 2, 1) := by decide +kernel
theorem dX0_dropEnded_5 : decode cX0_dropEnded 5 = .ok (.aload_n 0, 1) := by decide +kernel
theorem dX0_dropEnded_6 : decode cX0_dropEnded 6 = .ok (.getfield 44, 3) := by decide +kernel
theorem dX0_dropEnded_9 : decode cX0_dropEnded 9 = .ok (.if_icmp .ge 36, 3) := by decide +kernel
theorem dX0_dropEnded_12 : decode cX0_dropEnded 12 = .ok (.aload_n 0, 1) := by decide +kernel
theorem dX0_dropEnded_13 : decode cX0_dropEnded 13 = .ok (.getfield 41, 3) := by decide +kernel
theorem dX0_dropEnded_16 : decode cX0_dropEnded 16 = .ok (.iload_n 2, 1) := by decide +kernel
theorem dX0_dropEnded_17 : decode cX0_dropEnded 17 = .ok (.iaload, 1) := by decide +kernel
theorem dX0_dropEnded_18 : decode cX0_dropEnded 18 = .ok (.istore_n 3, 1) := by decide +kernel
theorem dX0_dropEnded_19 : decode cX0_dropEnded 19 = .ok (.aload_n 0, 1) := by decide +kernel
theorem dX0_dropEnded_20 : decode cX0_dropEnded 20 = .ok (.getfield 22, 3) := by decide +kernel
theorem dX0_dropEnded_23 : decode cX0_dropEnded 23 = .ok (.iload_n 3, 1) := by decide +kernel
theorem dX0_dropEnded_24 : decode cX0_dropEnded 24 = .ok (.iaload, 1) := by decide +kernel
theorem dX0_dropEnded_25 : decode cX0_dropEnded 25 = .ok (.iconst 1, 1) := by decide +kernel
theorem dX0_dropEnded_26 : decode cX0_dropEnded 26 = .ok (.if_icmp .ne 13, 3) := by decide +kernel
theorem dX0_dropEnded_29 : decode cX0_dropEnded 29 = .ok (.aload_n 0, 1) := by decide +kernel
theorem dX0_dropEnded_30 : decode cX0_dropEnded 30 = .ok (.getfield 41, 3) := by decide +kernel
theorem dX0_dropEnded_33 : decode cX0_dropEnded 33 = .ok (.iload_n 1, 1) := by decide +kernel
theorem dX0_dropEnded_34 : decode cX0_dropEnded 34 = .ok (.iload_n 3, 1) := by decide +kernel
theorem dX0_dropEnded_35 : decode cX0_dropEnded 35 = .ok (.iastore, 1) := by decide +kernel
theorem dX0_dropEnded_36 : decode cX0_dropEnded 36 = .ok (.iinc 1 1, 3) := by decide +kernel
theorem dX0_dropEnded_39 : decode cX0_dropEnded 39 = .ok (.iinc 2 1, 3) := by decide +kernel
theorem dX0_dropEnded_42 : decode cX0_dropEnded 42 = .ok (.goto (-38), 3) := by decide +kernel
theorem dX0_dropEnded_45 : decode cX0_dropEnded 45 = .ok (.aload_n 0, 1) := by decide +kernel
theorem dX0_dropEnded_46 : decode cX0_dropEnded 46 = .ok (.iload_n 1, 1) := by decide +kernel
theorem dX0_dropEnded_47 : decode cX0_dropEnded 47 = .ok (.putfield 44, 3) := by decide +kernel
theorem dX0_dropEnded_50 : decode cX0_dropEnded 50 = .ok (.return_, 1) := by decide +kernel
theorem dX0_remaining_0 : decode cX0_remaining 0 = .ok (.aload_n 0, 1) := by decide +kernel
theorem dX0_remaining_1 : decode cX0_remaining 1 = .ok (.getfield 35, 3) := by decide +kernel
theorem dX0_remaining_4 : decode cX0_remaining 4 = .ok (.iload_n 1, 1) := by decide +kernel
theorem dX0_remaining_5 : decode cX0_remaining 5 = .ok (.iaload, 1) := by decide +kernel
theorem dX0_remaining_6 : decode cX0_remaining 6 = .ok (.istore_n 2, 1) := by decide +kernel
theorem dX0_remaining_7 : decode cX0_remaining 7 = .ok (.iload_n 2, 1) := by decide +kernel
theorem dX0_remaining_8 : decode cX0_remaining 8 = .ok (.ifCond .ne 6, 3) := by decide +kernel
theorem dX0_remaining_11 : decode cX0_remaining 11 = .ok (.ldc 57, 2) := by decide +kernel
theorem dX0_remaining_13 : decode cX0_remaining 13 = .ok (.ireturn, 1) := by decide +kernel
theorem dX0_remaining_14 : decode cX0_remaining 14 = .ok (.sipush 1000, 3) := by decide +kernel
theorem dX0_remaining_17 : decode cX0_remaining 17 = .ok (.iload_n 2, 1) := by decide +kernel
theorem dX0_remaining_18 : decode cX0_remaining 18 = .ok (.isub, 1) := by decide +kernel
theorem dX0_remaining_19 : decode cX0_remaining 19 = .ok (.aload_n 0, 1) := by decide +kernel
theorem dX0_remaining_20 : decode cX0_remaining 20 = .ok (.getfield 29, 3) := by decide +kernel
theorem dX0_remaining_23 : decode cX0_remaining 23 = .ok (.iload_n 1, 1) := by decide +kernel
theorem dX0_remaining_24 : decode cX0_remaining 24 = .ok (.iaload, 1) := by decide +kernel
theorem dX0_remaining_25 : decode cX0_remaining 25 = .ok (.imul, 1) := by decide +kernel
theorem dX0_remaining_26 : decode cX0_remaining 26 = .ok (.iload_n 2, 1) := by decide +kernel
theorem dX0_remaining_27 : decode cX0_remaining 27 = .ok (.idiv, 1) := by decide +kernel
theorem dX0_remaining_28 : decode cX0_remaining 28 = .ok (.ireturn, 1) := by decide +kernel
theorem dX0_meanOfRunning_0 : decode cX0_meanOfRunning 0 = .ok (.iconst 0, 1) := by decide +kernel
theorem dX0_meanOfRunning_1 : decode cX0_meanOfRunning 1 = .ok (.istore_n 2, 1) := by decide +kernel
theorem dX0_meanOfRunning_2 : decode cX0_meanOfRunning 2 = .ok (.iconst 0, 1) := by decide +kernel
theorem dX0_meanOfRunning_3 : decode cX0_meanOfRunning 3 = .ok (.istore_n 3, 1) := by decide +kernel
theorem dX0_meanOfRunning_4 : decode cX0_meanOfRunning 4 = .ok (.iload_n 3, 1) := by decide +kernel
theorem dX0_meanOfRunning_5 : decode cX0_meanOfRunning 5 = .ok (.aload_n 0, 1) := by decide +kernel
theorem dX0_meanOfRunning_6 : decode cX0_meanOfRunning 6 = .ok (.getfield 44, 3) := by decide +kernel
theorem dX0_meanOfRunning_9 : decode cX0_meanOfRunning 9 = .ok (.if_icmp .ge 20, 3) := by decide +kernel
theorem dX0_meanOfRunning_12 : decode cX0_meanOfRunning 12 = .ok (.iload_n 2, 1) := by decide +kernel
theorem dX0_meanOfRunning_13 : decode cX0_meanOfRunning 13 = .ok (.aload_n 1, 1) := by decide +kernel
theorem dX0_meanOfRunning_14 : decode cX0_meanOfRunning 14 = .ok (.aload_n 0, 1) := by decide +kernel
theorem dX0_meanOfRunning_15 : decode cX0_meanOfRunning 15 = .ok (.getfield 41, 3) := by decide +kernel
theorem dX0_meanOfRunning_18 : decode cX0_meanOfRunning 18 = .ok (.iload_n 3, 1) := by decide +kernel
theorem dX0_meanOfRunning_19 : decode cX0_meanOfRunning 19 = .ok (.iaload, 1) := by decide +kernel
theorem dX0_meanOfRunning_20 : decode cX0_meanOfRunning 20 = .ok (.iaload, 1) := by decide +kernel
theorem dX0_meanOfRunning_21 : decode cX0_meanOfRunning 21 = .ok (.iadd, 1) := by decide +kernel
theorem dX0_meanOfRunning_22 : decode cX0_meanOfRunning 22 = .ok (.istore_n 2, 1) := by decide +kernel
theorem dX0_meanOfRunning_23 : decode cX0_meanOfRunning 23 = .ok (.iinc 3 1, 3) := by decide +kernel
theorem dX0_meanOfRunning_26 : decode cX0_meanOfRunning 26 = .ok (.goto (-22), 3) := by decide +kernel
theorem dX0_meanOfRunning_29 : decode cX0_meanOfRunning 29 = .ok (.aload_n 0, 1) := by decide +kernel
theorem dX0_meanOfRunning_30 : decode cX0_meanOfRunning 30 = .ok (.getfield 44, 3) := by decide +kernel
theorem dX0_meanOfRunning_33 : decode cX0_meanOfRunning 33 = .ok (.ifCond .le 12, 3) := by decide +kernel
theorem dX0_meanOfRunning_36 : decode cX0_meanOfRunning 36 = .ok (.iload_n 2, 1) := by decide +kernel
theorem dX0_meanOfRunning_37 : decode cX0_meanOfRunning 37 = .ok (.aload_n 0, 1) := by decide +kernel
theorem dX0_meanOfRunning_38 : decode cX0_meanOfRunning 38 = .ok (.getfield 44, 3) := by decide +kernel
theorem dX0_meanOfRunning_41 : decode cX0_meanOfRunning 41 = .ok (.idiv, 1) := by decide +kernel
theorem dX0_meanOfRunning_42 : decode cX0_meanOfRunning 42 = .ok (.goto 4, 3) := by decide +kernel
theorem dX0_meanOfRunning_45 : decode cX0_meanOfRunning 45 = .ok (.iconst 0, 1) := by decide +kernel
theorem dX0_meanOfRunning_46 : decode cX0_meanOfRunning 46 = .ok (.ireturn, 1) := by decide +kernel
theorem dX0_countSpeculative_0 : decode cX0_countSpeculative 0 = .ok (.iconst 0, 1) := by decide +kernel
theorem dX0_countSpeculative_1 : decode cX0_countSpeculative 1 = .ok (.istore_n 1, 1) := by decide +kernel
theorem dX0_countSpeculative_2 : decode cX0_countSpeculative 2 = .ok (.iconst 0, 1) := by decide +kernel
theorem dX0_countSpeculative_3 : decode cX0_countSpeculative 3 = .ok (.istore_n 2, 1) := by decide +kernel
theorem dX0_countSpeculative_4 : decode cX0_countSpeculative 4 = .ok (.iload_n 2, 1) := by decide +kernel
theorem dX0_countSpeculative_5 : decode cX0_countSpeculative 5 = .ok (.aload_n 0, 1) := by decide +kernel
theorem dX0_countSpeculative_6 : decode cX0_countSpeculative 6 = .ok (.getfield 44, 3) := by decide +kernel
theorem dX0_countSpeculative_9 : decode cX0_countSpeculative 9 = .ok (.if_icmp .ge 26, 3) := by decide +kernel
theorem dX0_countSpeculative_12 : decode cX0_countSpeculative 12 = .ok (.aload_n 0, 1) := by decide +kernel
theorem dX0_countSpeculative_13 : decode cX0_countSpeculative 13 = .ok (.getfield 25, 3) := by decide +kernel
theorem dX0_countSpeculative_16 : decode cX0_countSpeculative 16 = .ok (.aload_n 0, 1) := by decide +kernel
theorem dX0_countSpeculative_17 : decode cX0_countSpeculative 17 = .ok (.getfield 41, 3) := by decide +kernel
theorem dX0_countSpeculative_20 : decode cX0_countSpeculative 20 = .ok (.iload_n 2, 1) := by decide +kernel
theorem dX0_countSpeculative_21 : decode cX0_countSpeculative 21 = .ok (.iaload, 1) := by decide +kernel
theorem dX0_countSpeculative_22 : decode cX0_countSpeculative 22 = .ok (.baload, 1) := by decide +kernel
theorem dX0_countSpeculative_23 : decode cX0_countSpeculative 23 = .ok (.ifCond .eq 6, 3) := by decide +kernel
theorem dX0_countSpeculative_26 : decode cX0_countSpeculative 26 = .ok (.iinc 1 1, 3) := by decide +kernel
theorem dX0_countSpeculative_29 : decode cX0_countSpeculative 29 = .ok (.iinc 2 1, 3) := by decide +kernel
theorem dX0_countSpeculative_32 : decode cX0_countSpeculative 32 = .ok (.goto (-28), 3) := by decide +kernel
theorem dX0_countSpeculative_35 : decode cX0_countSpeculative 35 = .ok (.iload_n 1, 1) := by decide +kernel
theorem dX0_countSpeculative_36 : decode cX0_countSpeculative 36 = .ok (.ireturn, 1) := by decide +kernel
theorem dX0_wasted_0 : decode cX0_wasted 0 = .ok (.iconst 0, 1) := by decide +kernel
theorem dX0_wasted_1 : decode cX0_wasted 1 = .ok (.istore_n 1, 1) := by decide +kernel
theorem dX0_wasted_2 : decode cX0_wasted 2 = .ok (.iconst 0, 1) := by decide +kernel
theorem dX0_wasted_3 : decode cX0_wasted 3 = .ok (.istore_n 2, 1) := by decide +kernel
theorem dX0_wasted_4 : decode cX0_wasted 4 = .ok (.iload_n 2, 1) := by decide +kernel
theorem dX0_wasted_5 : decode cX0_wasted 5 = .ok (.aload_n 0, 1) := by decide +kernel
theorem dX0_wasted_6 : decode cX0_wasted 6 = .ok (.getfield 9, 3) := by decide +kernel
theorem dX0_wasted_9 : decode cX0_wasted 9 = .ok (.if_icmp .ge 38, 3) := by decide +kernel
theorem dX0_wasted_12 : decode cX0_wasted 12 = .ok (.aload_n 0, 1) := by decide +kernel
theorem dX0_wasted_13 : decode cX0_wasted 13 = .ok (.getfield 22, 3) := by decide +kernel
theorem dX0_wasted_16 : decode cX0_wasted 16 = .ok (.iload_n 2, 1) := by decide +kernel
theorem dX0_wasted_17 : decode cX0_wasted 17 = .ok (.iaload, 1) := by decide +kernel
theorem dX0_wasted_18 : decode cX0_wasted 18 = .ok (.iconst 3, 1) := by decide +kernel
theorem dX0_wasted_19 : decode cX0_wasted 19 = .ok (.if_icmp .eq 13, 3) := by decide +kernel
theorem dX0_wasted_22 : decode cX0_wasted 22 = .ok (.aload_n 0, 1) := by decide +kernel
theorem dX0_wasted_23 : decode cX0_wasted 23 = .ok (.getfield 22, 3) := by decide +kernel
theorem dX0_wasted_26 : decode cX0_wasted 26 = .ok (.iload_n 2, 1) := by decide +kernel
theorem dX0_wasted_27 : decode cX0_wasted 27 = .ok (.iaload, 1) := by decide +kernel
theorem dX0_wasted_28 : decode cX0_wasted 28 = .ok (.iconst 4, 1) := by decide +kernel
theorem dX0_wasted_29 : decode cX0_wasted 29 = .ok (.if_icmp .ne 12, 3) := by decide +kernel
theorem dX0_wasted_32 : decode cX0_wasted 32 = .ok (.iload_n 1, 1) := by decide +kernel
theorem dX0_wasted_33 : decode cX0_wasted 33 = .ok (.aload_n 0, 1) := by decide +kernel
theorem dX0_wasted_34 : decode cX0_wasted 34 = .ok (.getfield 32, 3) := by decide +kernel
theorem dX0_wasted_37 : decode cX0_wasted 37 = .ok (.iload_n 2, 1) := by decide +kernel
theorem dX0_wasted_38 : decode cX0_wasted 38 = .ok (.iaload, 1) := by decide +kernel
theorem dX0_wasted_39 : decode cX0_wasted 39 = .ok (.iadd, 1) := by decide +kernel
theorem dX0_wasted_40 : decode cX0_wasted 40 = .ok (.istore_n 1, 1) := by decide +kernel
theorem dX0_wasted_41 : decode cX0_wasted 41 = .ok (.iinc 2 1, 3) := by decide +kernel
theorem dX0_wasted_44 : decode cX0_wasted 44 = .ok (.goto (-40), 3) := by decide +kernel
theorem dX0_wasted_47 : decode cX0_wasted 47 = .ok (.iload_n 1, 1) := by decide +kernel
theorem dX0_wasted_48 : decode cX0_wasted 48 = .ok (.ireturn, 1) := by decide +kernel
theorem dX1_init_0 : decode cX1_init 0 = .ok (.aload_n 0, 1) := by decide +kernel
theorem dX1_init_1 : decode cX1_init 1 = .ok (.invokespecial 3, 3) := by decide +kernel
theorem dX1_init_4 : decode cX1_init 4 = .ok (.aload_n 0, 1) := by decide +kernel
theorem dX1_init_5 : decode cX1_init 5 = .ok (.new 9, 3) := by decide +kernel
theorem dX1_init_8 : decode cX1_init 8 = .ok (.dup, 1) := by decide +kernel
theorem dX1_init_9 : decode cX1_init 9 = .ok (.invokespecial 11, 3) := by decide +kernel
theorem dX1_init_12 : decode cX1_init 12 = .ok (.putfield 12, 3) := by decide +kernel
theorem dX1_init_15 : decode cX1_init 15 = .ok (.aload_n 0, 1) := by decide +kernel
theorem dX1_init_16 : decode cX1_init 16 = .ok (.new 18, 3) := by decide +kernel
theorem dX1_init_19 : decode cX1_init 19 = .ok (.dup, 1) := by decide +kernel
theorem dX1_init_20 : decode cX1_init 20 = .ok (.invokespecial 20, 3) := by decide +kernel
theorem dX1_init_23 : decode cX1_init 23 = .ok (.putfield 21, 3) := by decide +kernel
theorem dX1_init_26 : decode cX1_init 26 = .ok (.aload_n 0, 1) := by decide +kernel
theorem dX1_init_27 : decode cX1_init 27 = .ok (.new 25, 3) := by decide +kernel
theorem dX1_init_30 : decode cX1_init 30 = .ok (.dup, 1) := by decide +kernel
theorem dX1_init_31 : decode cX1_init 31 = .ok (.invokespecial 27, 3) := by decide +kernel
theorem dX1_init_34 : decode cX1_init 34 = .ok (.putfield 28, 3) := by decide +kernel
theorem dX1_init_37 : decode cX1_init 37 = .ok (.aload_n 0, 1) := by decide +kernel
theorem dX1_init_38 : decode cX1_init 38 = .ok (.new 32, 3) := by decide +kernel
theorem dX1_init_41 : decode cX1_init 41 = .ok (.dup, 1) := by decide +kernel
theorem dX1_init_42 : decode cX1_init 42 = .ok (.invokespecial 34, 3) := by decide +kernel
theorem dX1_init_45 : decode cX1_init 45 = .ok (.putfield 35, 3) := by decide +kernel
theorem dX1_init_48 : decode cX1_init 48 = .ok (.aload_n 0, 1) := by decide +kernel
theorem dX1_init_49 : decode cX1_init 49 = .ok (.iconst 0, 1) := by decide +kernel
theorem dX1_init_50 : decode cX1_init 50 = .ok (.putfield 39, 3) := by decide +kernel
theorem dX1_init_53 : decode cX1_init 53 = .ok (.return_, 1) := by decide +kernel
theorem dX1_startAfresh_0 : decode cX1_startAfresh 0 = .ok (.aload_n 0, 1) := by decide +kernel
theorem dX1_startAfresh_1 : decode cX1_startAfresh 1 = .ok (.getfield 12, 3) := by decide +kernel
theorem dX1_startAfresh_4 : decode cX1_startAfresh 4 = .ok (.aload_n 1, 1) := by decide +kernel
theorem dX1_startAfresh_5 : decode cX1_startAfresh 5 = .ok (.getfield 12, 3) := by decide +kernel
theorem dX1_startAfresh_8 : decode cX1_startAfresh 8 = .ok (.iload_n 2, 1) := by decide +kernel
theorem dX1_startAfresh_9 : decode cX1_startAfresh 9 = .ok (.invokevirtual 43, 3) := by decide +kernel
theorem dX1_startAfresh_12 : decode cX1_startAfresh 12 = .ok (.aload_n 0, 1) := by decide +kernel
theorem dX1_startAfresh_13 : decode cX1_startAfresh 13 = .ok (.getfield 21, 3) := by decide +kernel
theorem dX1_startAfresh_16 : decode cX1_startAfresh 16 = .ok (.aload_n 1, 1) := by decide +kernel
theorem dX1_startAfresh_17 : decode cX1_startAfresh 17 = .ok (.getfield 21, 3) := by decide +kernel
theorem dX1_startAfresh_20 : decode cX1_startAfresh 20 = .ok (.invokevirtual 47, 3) := by decide +kernel
theorem dX1_startAfresh_23 : decode cX1_startAfresh 23 = .ok (.aload_n 0, 1) := by decide +kernel
theorem dX1_startAfresh_24 : decode cX1_startAfresh 24 = .ok (.getfield 28, 3) := by decide +kernel
theorem dX1_startAfresh_27 : decode cX1_startAfresh 27 = .ok (.aload_n 1, 1) := by decide +kernel
theorem dX1_startAfresh_28 : decode cX1_startAfresh 28 = .ok (.getfield 28, 3) := by decide +kernel
theorem dX1_startAfresh_31 : decode cX1_startAfresh 31 = .ok (.invokevirtual 51, 3) := by decide +kernel
theorem dX1_startAfresh_34 : decode cX1_startAfresh 34 = .ok (.aload_n 0, 1) := by decide +kernel
theorem dX1_startAfresh_35 : decode cX1_startAfresh 35 = .ok (.getfield 35, 3) := by decide +kernel
theorem dX1_startAfresh_38 : decode cX1_startAfresh 38 = .ok (.invokevirtual 54, 3) := by decide +kernel
theorem dX1_startAfresh_41 : decode cX1_startAfresh 41 = .ok (.aload_n 0, 1) := by decide +kernel
theorem dX1_startAfresh_42 : decode cX1_startAfresh 42 = .ok (.iconst 0, 1) := by decide +kernel
theorem dX1_startAfresh_43 : decode cX1_startAfresh 43 = .ok (.putfield 39, 3) := by decide +kernel
theorem dX1_startAfresh_46 : decode cX1_startAfresh 46 = .ok (.return_, 1) := by decide +kernel
theorem dX1_runOneTick_0 : decode cX1_runOneTick 0 = .ok (.aload_n 0, 1) := by decide +kernel
theorem dX1_runOneTick_1 : decode cX1_runOneTick 1 = .ok (.invokevirtual 57, 3) := by decide +kernel
theorem dX1_runOneTick_4 : decode cX1_runOneTick 4 = .ok (.aload_n 0, 1) := by decide +kernel
theorem dX1_runOneTick_5 : decode cX1_runOneTick 5 = .ok (.invokevirtual 60, 3) := by decide +kernel
theorem dX1_runOneTick_8 : decode cX1_runOneTick 8 = .ok (.aload_n 0, 1) := by decide +kernel
theorem dX1_runOneTick_9 : decode cX1_runOneTick 9 = .ok (.invokevirtual 63, 3) := by decide +kernel
theorem dX1_runOneTick_12 : decode cX1_runOneTick 12 = .ok (.istore_n 1, 1) := by decide +kernel
theorem dX1_runOneTick_13 : decode cX1_runOneTick 13 = .ok (.aload_n 0, 1) := by decide +kernel
theorem dX1_runOneTick_14 : decode cX1_runOneTick 14 = .ok (.dup, 1) := by decide +kernel
theorem dX1_runOneTick_15 : decode cX1_runOneTick 15 = .ok (.getfield 39, 3) := by decide +kernel
theorem dX1_runOneTick_18 : decode cX1_runOneTick 18 = .ok (.iconst 1, 1) := by decide +kernel
theorem dX1_runOneTick_19 : decode cX1_runOneTick 19 = .ok (.iadd, 1) := by decide +kernel
theorem dX1_runOneTick_20 : decode cX1_runOneTick 20 = .ok (.putfield 39, 3) := by decide +kernel
theorem dX1_runOneTick_23 : decode cX1_runOneTick 23 = .ok (.iload_n 1, 1) := by decide +kernel
theorem dX1_runOneTick_24 : decode cX1_runOneTick 24 = .ok (.ireturn, 1) := by decide +kernel
theorem dX1_startAttempts_0 : decode cX1_startAttempts 0 = .ok (.iconst 0, 1) := by decide +kernel
theorem dX1_startAttempts_1 : decode cX1_startAttempts 1 = .ok (.istore_n 1, 1) := by decide +kernel
theorem dX1_startAttempts_2 : decode cX1_startAttempts 2 = .ok (.iload_n 1, 1) := by decide +kernel
theorem dX1_startAttempts_3 : decode cX1_startAttempts 3 = .ok (.aload_n 0, 1) := by decide +kernel
theorem dX1_startAttempts_4 : decode cX1_startAttempts 4 = .ok (.getfield 21, 3) := by decide +kernel
theorem dX1_startAttempts_7 : decode cX1_startAttempts 7 = .ok (.getfield 67, 3) := by decide +kernel
theorem dX1_startAttempts_10 : decode cX1_startAttempts 10 = .ok (.if_icmp .ge 81, 3) := by decide +kernel
theorem dX1_startAttempts_13 : decode cX1_startAttempts 13 = .ok (.iconst 0, 1) := by decide +kernel
theorem dX1_startAttempts_14 : decode cX1_startAttempts 14 = .ok (.istore_n 2, 1) := by decide +kernel
theorem dX1_startAttempts_15 : decode cX1_startAttempts 15 = .ok (.iload_n 2, 1) := by decide +kernel
theorem dX1_startAttempts_16 : decode cX1_startAttempts 16 = .ok (.iconst 4, 1) := by decide +kernel
theorem dX1_startAttempts_17 : decode cX1_startAttempts 17 = .ok (.if_icmp .ge 68, 3) := by decide +kernel
theorem dX1_startAttempts_20 : decode cX1_startAttempts 20 = .ok (.aload_n 0, 1) := by decide +kernel
theorem dX1_startAttempts_21 : decode cX1_startAttempts 21 = .ok (.getfield 21, 3) := by decide +kernel
theorem dX1_startAttempts_24 : decode cX1_startAttempts 24 = .ok (.iload_n 1, 1) := by decide +kernel
theorem dX1_startAttempts_25 : decode cX1_startAttempts 25 = .ok (.invokevirtual 70, 3) := by decide +kernel
theorem dX1_startAttempts_28 : decode cX1_startAttempts 28 = .ok (.ifCond .eq 57, 3) := by decide +kernel
theorem dX1_startAttempts_31 : decode cX1_startAttempts 31 = .ok (.aload_n 0, 1) := by decide +kernel
theorem dX1_startAttempts_32 : decode cX1_startAttempts 32 = .ok (.getfield 35, 3) := by decide +kernel
theorem dX1_startAttempts_35 : decode cX1_startAttempts 35 = .ok (.invokevirtual 74, 3) := by decide +kernel
theorem dX1_startAttempts_38 : decode cX1_startAttempts 38 = .ok (.ifCond .eq 6, 3) := by decide +kernel
theorem dX1_startAttempts_41 : decode cX1_startAttempts 41 = .ok (.goto 44, 3) := by decide +kernel
theorem dX1_startAttempts_44 : decode cX1_startAttempts 44 = .ok (.aload_n 0, 1) := by decide +kernel
theorem dX1_startAttempts_45 : decode cX1_startAttempts 45 = .ok (.getfield 28, 3) := by decide +kernel
theorem dX1_startAttempts_48 : decode cX1_startAttempts 48 = .ok (.invokevirtual 78, 3) := by decide +kernel
theorem dX1_startAttempts_51 : decode cX1_startAttempts 51 = .ok (.istore_n 3, 1) := by decide +kernel
theorem dX1_startAttempts_52 : decode cX1_startAttempts 52 = .ok (.iload_n 3, 1) := by decide +kernel
theorem dX1_startAttempts_53 : decode cX1_startAttempts 53 = .ok (.bipush (-6), 2) := by decide +kernel
theorem dX1_startAttempts_55 : decode cX1_startAttempts 55 = .ok (.if_icmp .ne 9, 3) := by decide +kernel
theorem dX1_startAttempts_58 : decode cX1_startAttempts 58 = .ok (.aload_n 0, 1) := by decide +kernel
theorem dX1_startAttempts_59 : decode cX1_startAttempts 59 = .ok (.iload_n 1, 1) := by decide +kernel
theorem dX1_startAttempts_60 : decode cX1_startAttempts 60 = .ok (.invokevirtual 81, 3) := by decide +kernel
theorem dX1_startAttempts_63 : decode cX1_startAttempts 63 = .ok (.istore_n 3, 1) := by decide +kernel
theorem dX1_startAttempts_64 : decode cX1_startAttempts 64 = .ok (.iload_n 3, 1) := by decide +kernel
theorem dX1_startAttempts_65 : decode cX1_startAttempts 65 = .ok (.bipush (-6), 2) := by decide +kernel
theorem dX1_startAttempts_67 : decode cX1_startAttempts 67 = .ok (.if_icmp .ne 6, 3) := by decide +kernel
theorem dX1_startAttempts_70 : decode cX1_startAttempts 70 = .ok (.goto 15, 3) := by decide +kernel
theorem dX1_startAttempts_73 : decode cX1_startAttempts 73 = .ok (.aload_n 0, 1) := by decide +kernel
theorem dX1_startAttempts_74 : decode cX1_startAttempts 74 = .ok (.iload_n 3, 1) := by decide +kernel
theorem dX1_startAttempts_75 : decode cX1_startAttempts 75 = .ok (.iload_n 1, 1) := by decide +kernel
theorem dX1_startAttempts_76 : decode cX1_startAttempts 76 = .ok (.invokevirtual 85, 3) := by decide +kernel
theorem dX1_startAttempts_79 : decode cX1_startAttempts 79 = .ok (.iinc 2 1, 3) := by decide +kernel
theorem dX1_startAttempts_82 : decode cX1_startAttempts 82 = .ok (.goto (-67), 3) := by decide +kernel
theorem dX1_startAttempts_85 : decode cX1_startAttempts 85 = .ok (.iinc 1 1, 3) := by decide +kernel
theorem dX1_startAttempts_88 : decode cX1_startAttempts 88 = .ok (.goto (-86), 3) := by decide +kernel
theorem dX1_startAttempts_91 : decode cX1_startAttempts 91 = .ok (.return_, 1) := by decide +kernel
theorem dX1_taskToSpeculate_0 : decode cX1_taskToSpeculate 0 = .ok (.aload_n 0, 1) := by decide +kernel
theorem dX1_taskToSpeculate_1 : decode cX1_taskToSpeculate 1 = .ok (.getfield 35, 3) := by decide +kernel
theorem dX1_taskToSpeculate_4 : decode cX1_taskToSpeculate 4 = .ok (.invokevirtual 89, 3) := by decide +kernel
theorem dX1_taskToSpeculate_7 : decode cX1_taskToSpeculate 7 = .ok (.aload_n 0, 1) := by decide +kernel
theorem dX1_taskToSpeculate_8 : decode cX1_taskToSpeculate 8 = .ok (.getfield 12, 3) := by decide +kernel
theorem dX1_taskToSpeculate_11 : decode cX1_taskToSpeculate 11 = .ok (.getfield 92, 3) := by decide +kernel
theorem dX1_taskToSpeculate_14 : decode cX1_taskToSpeculate 14 = .ok (.if_icmp .lt 6, 3) := by decide +kernel
theorem dX1_taskToSpeculate_17 : decode cX1_taskToSpeculate 17 = .ok (.bipush (-6), 2) := by decide +kernel
theorem dX1_taskToSpeculate_19 : decode cX1_taskToSpeculate 19 = .ok (.ireturn, 1) := by decide +kernel
theorem dX1_taskToSpeculate_20 : decode cX1_taskToSpeculate 20 = .ok (.aload_n 0, 1) := by decide +kernel
theorem dX1_taskToSpeculate_21 : decode cX1_taskToSpeculate 21 = .ok (.getfield 12, 3) := by decide +kernel
theorem dX1_taskToSpeculate_24 : decode cX1_taskToSpeculate 24 = .ok (.getfield 95, 3) := by decide +kernel
theorem dX1_taskToSpeculate_27 : decode cX1_taskToSpeculate 27 = .ok (.iconst 2, 1) := by decide +kernel
theorem dX1_taskToSpeculate_28 : decode cX1_taskToSpeculate 28 = .ok (.if_icmp .ne 24, 3) := by decide +kernel
theorem dX1_taskToSpeculate_31 : decode cX1_taskToSpeculate 31 = .ok (.aload_n 0, 1) := by decide +kernel
theorem dX1_taskToSpeculate_32 : decode cX1_taskToSpeculate 32 = .ok (.getfield 21, 3) := by decide +kernel
theorem dX1_taskToSpeculate_35 : decode cX1_taskToSpeculate 35 = .ok (.iload_n 1, 1) := by decide +kernel
theorem dX1_taskToSpeculate_36 : decode cX1_taskToSpeculate 36 = .ok (.aload_n 0, 1) := by decide +kernel
theorem dX1_taskToSpeculate_37 : decode cX1_taskToSpeculate 37 = .ok (.getfield 12, 3) := by decide +kernel
theorem dX1_taskToSpeculate_40 : decode cX1_taskToSpeculate 40 = .ok (.getfield 98, 3) := by decide +kernel
theorem dX1_taskToSpeculate_43 : decode cX1_taskToSpeculate 43 = .ok (.invokevirtual 101, 3) := by decide +kernel
theorem dX1_taskToSpeculate_46 : decode cX1_taskToSpeculate 46 = .ok (.ifCond .eq 6, 3) := by decide +kernel
theorem dX1_taskToSpeculate_49 : decode cX1_taskToSpeculate 49 = .ok (.bipush (-6), 2) := by decide +kernel
theorem dX1_taskToSpeculate_51 : decode cX1_taskToSpeculate 51 = .ok (.ireturn, 1) := by decide +kernel
theorem dX1_taskToSpeculate_52 : decode cX1_taskToSpeculate 52 = .ok (.aload_n 0, 1) := by decide +kernel
theorem dX1_taskToSpeculate_53 : decode cX1_taskToSpeculate 53 = .ok (.invokevirtual 105, 3) := by decide +kernel
theorem dX1_taskToSpeculate_56 : decode cX1_taskToSpeculate 56 = .ok (.istore_n 2, 1) := by decide +kernel
theorem dX1_taskToSpeculate_57 : decode cX1_taskToSpeculate 57 = .ok (.iload_n 2, 1) := by decide +kernel
theorem dX1_taskToSpeculate_58 : decode cX1_taskToSpeculate 58 = .ok (.bipush (-6), 2) := by decide +kernel
theorem dX1_taskToSpeculate_60 : decode cX1_taskToSpeculate 60 = .ok (.if_icmp .eq 16, 3) := by decide +kernel
theorem dX1_taskToSpeculate_63 : decode cX1_taskToSpeculate 63 = .ok (.aload_n 0, 1) := by decide +kernel
theorem dX1_taskToSpeculate_64 : decode cX1_taskToSpeculate 64 = .ok (.getfield 35, 3) := by decide +kernel
theorem dX1_taskToSpeculate_67 : decode cX1_taskToSpeculate 67 = .ok (.getfield 108, 3) := by decide +kernel
theorem dX1_taskToSpeculate_70 : decode cX1_taskToSpeculate 70 = .ok (.iload_n 2, 1) := by decide +kernel
theorem dX1_taskToSpeculate_71 : decode cX1_taskToSpeculate 71 = .ok (.iaload, 1) := by decide +kernel
theorem dX1_taskToSpeculate_72 : decode cX1_taskToSpeculate 72 = .ok (.iload_n 1, 1) := by decide +kernel
theorem dX1_taskToSpeculate_73 : decode cX1_taskToSpeculate 73 = .ok (.if_icmp .ne 6, 3) := by decide +kernel
theorem dX1_taskToSpeculate_76 : decode cX1_taskToSpeculate 76 = .ok (.bipush (-6), 2) := by decide +kernel
theorem dX1_taskToSpeculate_78 : decode cX1_taskToSpeculate 78 = .ok (.ireturn, 1) := by decide +kernel
theorem dX1_taskToSpeculate_79 : decode cX1_taskToSpeculate 79 = .ok (.aload_n 0, 1) := by decide +kernel
theorem dX1_taskToSpeculate_80 : decode cX1_taskToSpeculate 80 = .ok (.getfield 35, 3) := by decide +kernel
theorem dX1_taskToSpeculate_83 : decode cX1_taskToSpeculate 83 = .ok (.getfield 112, 3) := by decide +kernel
theorem dX1_taskToSpeculate_86 : decode cX1_taskToSpeculate 86 = .ok (.iload_n 2, 1) := by decide +kernel
theorem dX1_taskToSpeculate_87 : decode cX1_taskToSpeculate 87 = .ok (.iaload, 1) := by decide +kernel
theorem dX1_taskToSpeculate_88 : decode cX1_taskToSpeculate 88 = .ok (.ireturn, 1) := by decide +kernel
theorem dX1_start_0 : decode cX1_start 0 = .ok (.aload_n 0, 1) := by decide +kernel
theorem dX1_start_1 : decode cX1_start 1 = .ok (.getfield 35, 3) := by decide +kernel
theorem dX1_start_4 : decode cX1_start 4 = .ok (.iload_n 1, 1) := by decide +kernel
theorem dX1_start_5 : decode cX1_start 5 = .ok (.iload_n 2, 1) := by decide +kernel
theorem dX1_start_6 : decode cX1_start 6 = .ok (.aload_n 0, 1) := by decide +kernel
theorem dX1_start_7 : decode cX1_start 7 = .ok (.getfield 28, 3) := by decide +kernel
theorem dX1_start_10 : decode cX1_start 10 = .ok (.getfield 115, 3) := by decide +kernel
theorem dX1_start_13 : decode cX1_start 13 = .ok (.iload_n 1, 1) := by decide +kernel
theorem dX1_start_14 : decode cX1_start 14 = .ok (.iaload, 1) := by decide +kernel
theorem dX1_start_15 : decode cX1_start 15 = .ok (.ifCond .le 7, 3) := by decide +kernel
theorem dX1_start_18 : decode cX1_start 18 = .ok (.iconst 1, 1) := by decide +kernel
theorem dX1_start_19 : decode cX1_start 19 = .ok (.goto 4, 3) := by decide +kernel
theorem dX1_start_22 : decode cX1_start 22 = .ok (.iconst 0, 1) := by decide +kernel
theorem dX1_start_23 : decode cX1_start 23 = .ok (.invokevirtual 118, 3) := by decide +kernel
theorem dX1_start_26 : decode cX1_start 26 = .ok (.aload_n 0, 1) := by decide +kernel
theorem dX1_start_27 : decode cX1_start 27 = .ok (.getfield 28, 3) := by decide +kernel
theorem dX1_start_30 : decode cX1_start 30 = .ok (.getfield 115, 3) := by decide +kernel
theorem dX1_start_33 : decode cX1_start 33 = .ok (.iload_n 1, 1) := by decide +kernel
theorem dX1_start_34 : decode cX1_start 34 = .ok (.dup2, 1) := by decide +kernel
theorem dX1_start_35 : decode cX1_start 35 = .ok (.iaload, 1) := by decide +kernel
theorem dX1_start_36 : decode cX1_start 36 = .ok (.iconst 1, 1) := by decide +kernel
theorem dX1_start_37 : decode cX1_start 37 = .ok (.iadd, 1) := by decide +kernel
theorem dX1_start_38 : decode cX1_start 38 = .ok (.iastore, 1) := by decide +kernel
theorem dX1_start_39 : decode cX1_start 39 = .ok (.aload_n 0, 1) := by decide +kernel
theorem dX1_start_40 : decode cX1_start 40 = .ok (.getfield 21, 3) := by decide +kernel
theorem dX1_start_43 : decode cX1_start 43 = .ok (.getfield 122, 3) := by decide +kernel
theorem dX1_start_46 : decode cX1_start 46 = .ok (.iload_n 2, 1) := by decide +kernel
theorem dX1_start_47 : decode cX1_start 47 = .ok (.dup2, 1) := by decide +kernel
theorem dX1_start_48 : decode cX1_start 48 = .ok (.iaload, 1) := by decide +kernel
theorem dX1_start_49 : decode cX1_start 49 = .ok (.iconst 1, 1) := by decide +kernel
theorem dX1_start_50 : decode cX1_start 50 = .ok (.iadd, 1) := by decide +kernel
theorem dX1_start_51 : decode cX1_start 51 = .ok (.iastore, 1) := by decide +kernel
theorem dX1_start_52 : decode cX1_start 52 = .ok (.return_, 1) := by decide +kernel
theorem dX1_doWork_0 : decode cX1_doWork 0 = .ok (.iconst 0, 1) := by decide +kernel
theorem dX1_doWork_1 : decode cX1_doWork 1 = .ok (.istore_n 1, 1) := by decide +kernel
theorem dX1_doWork_2 : decode cX1_doWork 2 = .ok (.iload_n 1, 1) := by decide +kernel
theorem dX1_doWork_3 : decode cX1_doWork 3 = .ok (.aload_n 0, 1) := by decide +kernel
theorem dX1_doWork_4 : decode cX1_doWork 4 = .ok (.getfield 35, 3) := by decide +kernel
theorem dX1_doWork_7 : decode cX1_doWork 7 = .ok (.getfield 125, 3) := by decide +kernel
theorem dX1_doWork_10 : decode cX1_doWork 10 = .ok (.if_icmp .ge 97, 3) := by decide +kernel
theorem dX1_doWork_13 : decode cX1_doWork 13 = .ok (.aload_n 0, 1) := by decide +kernel
theorem dX1_doWork_14 : decode cX1_doWork 14 = .ok (.getfield 35, 3) := by decide +kernel
theorem dX1_doWork_17 : decode cX1_doWork 17 = .ok (.getfield 128, 3) := by decide +kernel
theorem dX1_doWork_20 : decode cX1_doWork 20 = .ok (.iload_n 1, 1) := by decide +kernel
theorem dX1_doWork_21 : decode cX1_doWork 21 = .ok (.iaload, 1) := by decide +kernel
theorem dX1_doWork_22 : decode cX1_doWork 22 = .ok (.istore_n 2, 1) := by decide +kernel
theorem dX1_doWork_23 : decode cX1_doWork 23 = .ok (.aload_n 0, 1) := by decide +kernel
theorem dX1_doWork_24 : decode cX1_doWork 24 = .ok (.getfield 35, 3) := by decide +kernel
theorem dX1_doWork_27 : decode cX1_doWork 27 = .ok (.getfield 108, 3) := by decide +kernel
theorem dX1_doWork_30 : decode cX1_doWork 30 = .ok (.iload_n 2, 1) := by decide +kernel
theorem dX1_doWork_31 : decode cX1_doWork 31 = .ok (.iaload, 1) := by decide +kernel
theorem dX1_doWork_32 : decode cX1_doWork 32 = .ok (.istore_n 3, 1) := by decide +kernel
theorem dX1_doWork_33 : decode cX1_doWork 33 = .ok (.aload_n 0, 1) := by decide +kernel
theorem dX1_doWork_34 : decode cX1_doWork 34 = .ok (.getfield 35, 3) := by decide +kernel
theorem dX1_doWork_37 : decode cX1_doWork 37 = .ok (.iload_n 2, 1) := by decide +kernel
theorem dX1_doWork_38 : decode cX1_doWork 38 = .ok (.aload_n 0, 1) := by decide +kernel
theorem dX1_doWork_39 : decode cX1_doWork 39 = .ok (.getfield 21, 3) := by decide +kernel
theorem dX1_doWork_42 : decode cX1_doWork 42 = .ok (.getfield 131, 3) := by decide +kernel
theorem dX1_doWork_45 : decode cX1_doWork 45 = .ok (.iload_n 3, 1) := by decide +kernel
theorem dX1_doWork_46 : decode cX1_doWork 46 = .ok (.iaload, 1) := by decide +kernel
theorem dX1_doWork_47 : decode cX1_doWork 47 = .ok (.aload_n 0, 1) := by decide +kernel
theorem dX1_doWork_48 : decode cX1_doWork 48 = .ok (.getfield 28, 3) := by decide +kernel
theorem dX1_doWork_51 : decode cX1_doWork 51 = .ok (.getfield 134, 3) := by decide +kernel
theorem dX1_doWork_54 : decode cX1_doWork 54 = .ok (.aload_n 0, 1) := by decide +kernel
theorem dX1_doWork_55 : decode cX1_doWork 55 = .ok (.getfield 35, 3) := by decide +kernel
theorem dX1_doWork_58 : decode cX1_doWork 58 = .ok (.getfield 112, 3) := by decide +kernel
theorem dX1_doWork_61 : decode cX1_doWork 61 = .ok (.iload_n 2, 1) := by decide +kernel
theorem dX1_doWork_62 : decode cX1_doWork 62 = .ok (.iaload, 1) := by decide +kernel
theorem dX1_doWork_63 : decode cX1_doWork 63 = .ok (.iaload, 1) := by decide +kernel
theorem dX1_doWork_64 : decode cX1_doWork 64 = .ok (.invokevirtual 137, 3) := by decide +kernel
theorem dX1_doWork_67 : decode cX1_doWork 67 = .ok (.aload_n 0, 1) := by decide +kernel
theorem dX1_doWork_68 : decode cX1_doWork 68 = .ok (.getfield 21, 3) := by decide +kernel
theorem dX1_doWork_71 : decode cX1_doWork 71 = .ok (.getfield 141, 3) := by decide +kernel
theorem dX1_doWork_74 : decode cX1_doWork 74 = .ok (.iload_n 3, 1) := by decide +kernel
theorem dX1_doWork_75 : decode cX1_doWork 75 = .ok (.dup2, 1) := by decide +kernel
theorem dX1_doWork_76 : decode cX1_doWork 76 = .ok (.iaload, 1) := by decide +kernel
theorem dX1_doWork_77 : decode cX1_doWork 77 = .ok (.iconst 1, 1) := by decide +kernel
theorem dX1_doWork_78 : decode cX1_doWork 78 = .ok (.iadd, 1) := by decide +kernel
theorem dX1_doWork_79 : decode cX1_doWork 79 = .ok (.iastore, 1) := by decide +kernel
theorem dX1_doWork_80 : decode cX1_doWork 80 = .ok (.aload_n 0, 1) := by decide +kernel
theorem dX1_doWork_81 : decode cX1_doWork 81 = .ok (.getfield 21, 3) := by decide +kernel
theorem dX1_doWork_84 : decode cX1_doWork 84 = .ok (.getfield 144, 3) := by decide +kernel
theorem dX1_doWork_87 : decode cX1_doWork 87 = .ok (.iload_n 3, 1) := by decide +kernel
theorem dX1_doWork_88 : decode cX1_doWork 88 = .ok (.dup2, 1) := by decide +kernel
theorem dX1_doWork_89 : decode cX1_doWork 89 = .ok (.iaload, 1) := by decide +kernel
theorem dX1_doWork_90 : decode cX1_doWork 90 = .ok (.aload_n 0, 1) := by decide +kernel
theorem dX1_doWork_91 : decode cX1_doWork 91 = .ok (.getfield 21, 3) := by decide +kernel
theorem dX1_doWork_94 : decode cX1_doWork 94 = .ok (.getfield 131, 3) := by decide +kernel
theorem dX1_doWork_97 : decode cX1_doWork 97 = .ok (.iload_n 3, 1) := by decide +kernel
theorem dX1_doWork_98 : decode cX1_doWork 98 = .ok (.iaload, 1) := by decide +kernel
theorem dX1_doWork_99 : decode cX1_doWork 99 = .ok (.iadd, 1) := by decide +kernel
theorem dX1_doWork_100 : decode cX1_doWork 100 = .ok (.iastore, 1) := by decide +kernel
theorem dX1_doWork_101 : decode cX1_doWork 101 = .ok (.iinc 1 1, 3) := by decide +kernel
theorem dX1_doWork_104 : decode cX1_doWork 104 = .ok (.goto (-102), 3) := by decide +kernel
theorem dX1_doWork_107 : decode cX1_doWork 107 = .ok (.return_, 1) := by decide +kernel
theorem dX1_commitFinished_0 : decode cX1_commitFinished 0 = .ok (.iconst 0, 1) := by decide +kernel
theorem dX1_commitFinished_1 : decode cX1_commitFinished 1 = .ok (.istore_n 1, 1) := by decide +kernel
theorem dX1_commitFinished_2 : decode cX1_commitFinished 2 = .ok (.iconst 0, 1) := by decide +kernel
theorem dX1_commitFinished_3 : decode cX1_commitFinished 3 = .ok (.istore_n 2, 1) := by decide +kernel
theorem dX1_commitFinished_4 : decode cX1_commitFinished 4 = .ok (.iload_n 2, 1) := by decide +kernel
theorem dX1_commitFinished_5 : decode cX1_commitFinished 5 = .ok (.aload_n 0, 1) := by decide +kernel
theorem dX1_commitFinished_6 : decode cX1_commitFinished 6 = .ok (.getfield 35, 3) := by decide +kernel
theorem dX1_commitFinished_9 : decode cX1_commitFinished 9 = .ok (.getfield 125, 3) := by decide +kernel
theorem dX1_commitFinished_12 : decode cX1_commitFinished 12 = .ok (.if_icmp .ge 87, 3) := by decide +kernel
theorem dX1_commitFinished_15 : decode cX1_commitFinished 15 = .ok (.aload_n 0, 1) := by decide +kernel
theorem dX1_commitFinished_16 : decode cX1_commitFinished 16 = .ok (.getfield 35, 3) := by decide +kernel
theorem dX1_commitFinished_19 : decode cX1_commitFinished 19 = .ok (.getfield 128, 3) := by decide +kernel
theorem dX1_commitFinished_22 : decode cX1_commitFinished 22 = .ok (.iload_n 2, 1) := by decide +kernel
theorem dX1_commitFinished_23 : decode cX1_commitFinished 23 = .ok (.iaload, 1) := by decide +kernel
theorem dX1_commitFinished_24 : decode cX1_commitFinished 24 = .ok (.istore_n 3, 1) := by decide +kernel
theorem dX1_commitFinished_25 : decode cX1_commitFinished 25 = .ok (.aload_n 0, 1) := by decide +kernel
theorem dX1_commitFinished_26 : decode cX1_commitFinished 26 = .ok (.getfield 35, 3) := by decide +kernel
theorem dX1_commitFinished_29 : decode cX1_commitFinished 29 = .ok (.getfield 112, 3) := by decide +kernel
theorem dX1_commitFinished_32 : decode cX1_commitFinished 32 = .ok (.iload_n 3, 1) := by decide +kernel
theorem dX1_commitFinished_33 : decode cX1_commitFinished 33 = .ok (.iaload, 1) := by decide +kernel
theorem dX1_commitFinished_34 : decode cX1_commitFinished 34 = .ok (.istore 4, 2) := by decide +kernel
theorem dX1_commitFinished_36 : decode cX1_commitFinished 36 = .ok (.aload_n 0, 1) := by decide +kernel
theorem dX1_commitFinished_37 : decode cX1_commitFinished 37 = .ok (.getfield 35, 3) := by decide +kernel
theorem dX1_commitFinished_40 : decode cX1_commitFinished 40 = .ok (.getfield 147, 3) := by decide +kernel
theorem dX1_commitFinished_43 : decode cX1_commitFinished 43 = .ok (.iload_n 3, 1) := by decide +kernel
theorem dX1_commitFinished_44 : decode cX1_commitFinished 44 = .ok (.iaload, 1) := by decide +kernel
theorem dX1_commitFinished_45 : decode cX1_commitFinished 45 = .ok (.iconst 1, 1) := by decide +kernel
theorem dX1_commitFinished_46 : decode cX1_commitFinished 46 = .ok (.if_icmp .ne 7, 3) := by decide +kernel
theorem dX1_commitFinished_49 : decode cX1_commitFinished 49 = .ok (.iconst 1, 1) := by decide +kernel
theorem dX1_commitFinished_50 : decode cX1_commitFinished 50 = .ok (.goto 4, 3) := by decide +kernel
theorem dX1_commitFinished_53 : decode cX1_commitFinished 53 = .ok (.iconst 0, 1) := by decide +kernel
theorem dX1_commitFinished_54 : decode cX1_commitFinished 54 = .ok (.istore 5, 2) := by decide +kernel
theorem dX1_commitFinished_56 : decode cX1_commitFinished 56 = .ok (.iload 5, 2) := by decide +kernel
theorem dX1_commitFinished_58 : decode cX1_commitFinished 58 = .ok (.ifCond .eq 35, 3) := by decide +kernel
theorem dX1_commitFinished_61 : decode cX1_commitFinished 61 = .ok (.aload_n 0, 1) := by decide +kernel
theorem dX1_commitFinished_62 : decode cX1_commitFinished 62 = .ok (.getfield 35, 3) := by decide +kernel
theorem dX1_commitFinished_65 : decode cX1_commitFinished 65 = .ok (.getfield 150, 3) := by decide +kernel
theorem dX1_commitFinished_68 : decode cX1_commitFinished 68 = .ok (.iload_n 3, 1) := by decide +kernel
theorem dX1_commitFinished_69 : decode cX1_commitFinished 69 = .ok (.iaload, 1) := by decide +kernel
theorem dX1_commitFinished_70 : decode cX1_commitFinished 70 = .ok (.aload_n 0, 1) := by decide +kernel
theorem dX1_commitFinished_71 : decode cX1_commitFinished 71 = .ok (.getfield 28, 3) := by decide +kernel
theorem dX1_commitFinished_74 : decode cX1_commitFinished 74 = .ok (.getfield 134, 3) := by decide +kernel
theorem dX1_commitFinished_77 : decode cX1_commitFinished 77 = .ok (.iload 4, 2) := by decide +kernel
theorem dX1_commitFinished_79 : decode cX1_commitFinished 79 = .ok (.iaload, 1) := by decide +kernel
theorem dX1_commitFinished_80 : decode cX1_commitFinished 80 = .ok (.if_icmp .lt 13, 3) := by decide +kernel
theorem dX1_commitFinished_83 : decode cX1_commitFinished 83 = .ok (.aload_n 0, 1) := by decide +kernel
theorem dX1_commitFinished_84 : decode cX1_commitFinished 84 = .ok (.iload_n 3, 1) := by decide +kernel
theorem dX1_commitFinished_85 : decode cX1_commitFinished 85 = .ok (.iload 4, 2) := by decide +kernel
theorem dX1_commitFinished_87 : decode cX1_commitFinished 87 = .ok (.invokevirtual 153, 3) := by decide +kernel
theorem dX1_commitFinished_90 : decode cX1_commitFinished 90 = .ok (.iinc 1 1, 3) := by decide +kernel
theorem dX1_commitFinished_93 : decode cX1_commitFinished 93 = .ok (.iinc 2 1, 3) := by decide +kernel
theorem dX1_commitFinished_96 : decode cX1_commitFinished 96 = .ok (.goto (-92), 3) := by decide +kernel
theorem dX1_commitFinished_99 : decode cX1_commitFinished 99 = .ok (.aload_n 0, 1) := by decide +kernel
theorem dX1_commitFinished_100 : decode cX1_commitFinished 100 = .ok (.getfield 35, 3) := by decide +kernel
theorem dX1_commitFinished_103 : decode cX1_commitFinished 103 = .ok (.invokevirtual 156, 3) := by decide +kernel
theorem dX1_commitFinished_106 : decode cX1_commitFinished 106 = .ok (.iload_n 1, 1) := by decide +kernel
theorem dX1_commitFinished_107 : decode cX1_commitFinished 107 = .ok (.ireturn, 1) := by decide +kernel
theorem dX1_commit_0 : decode cX1_commit 0 = .ok (.aload_n 0, 1) := by decide +kernel
theorem dX1_commit_1 : decode cX1_commit 1 = .ok (.iload_n 1, 1) := by decide +kernel
theorem dX1_commit_2 : decode cX1_commit 2 = .ok (.iconst 2, 1) := by decide +kernel
theorem dX1_commit_3 : decode cX1_commit 3 = .ok (.invokevirtual 159, 3) := by decide +kernel
theorem dX1_commit_6 : decode cX1_commit 6 = .ok (.aload_n 0, 1) := by decide +kernel
theorem dX1_commit_7 : decode cX1_commit 7 = .ok (.getfield 28, 3) := by decide +kernel
theorem dX1_commit_10 : decode cX1_commit 10 = .ok (.getfield 162, 3) := by decide +kernel
theorem dX1_commit_13 : decode cX1_commit 13 = .ok (.iload_n 2, 1) := by decide +kernel
theorem dX1_commit_14 : decode cX1_commit 14 = .ok (.iload_n 1, 1) := by decide +kernel
theorem dX1_commit_15 : decode cX1_commit 15 = .ok (.iastore, 1) := by decide +kernel
theorem dX1_commit_16 : decode cX1_commit 16 = .ok (.aload_n 0, 1) := by decide +kernel
theorem dX1_commit_17 : decode cX1_commit 17 = .ok (.getfield 28, 3) := by decide +kernel
theorem dX1_commit_20 : decode cX1_commit 20 = .ok (.getfield 165, 3) := by decide +kernel
theorem dX1_commit_23 : decode cX1_commit 23 = .ok (.iload_n 2, 1) := by decide +kernel
theorem dX1_commit_24 : decode cX1_commit 24 = .ok (.aload_n 0, 1) := by decide +kernel
theorem dX1_commit_25 : decode cX1_commit 25 = .ok (.getfield 39, 3) := by decide +kernel
theorem dX1_commit_28 : decode cX1_commit 28 = .ok (.iconst 1, 1) := by decide +kernel
theorem dX1_commit_29 : decode cX1_commit 29 = .ok (.iadd, 1) := by decide +kernel
theorem dX1_commit_30 : decode cX1_commit 30 = .ok (.iastore, 1) := by decide +kernel
theorem dX1_commit_31 : decode cX1_commit 31 = .ok (.iconst 0, 1) := by decide +kernel
theorem dX1_commit_32 : decode cX1_commit 32 = .ok (.istore_n 3, 1) := by decide +kernel
theorem dX1_commit_33 : decode cX1_commit 33 = .ok (.iload_n 3, 1) := by decide +kernel
theorem dX1_commit_34 : decode cX1_commit 34 = .ok (.aload_n 0, 1) := by decide +kernel
theorem dX1_commit_35 : decode cX1_commit 35 = .ok (.getfield 35, 3) := by decide +kernel
theorem dX1_commit_38 : decode cX1_commit 38 = .ok (.getfield 125, 3) := by decide +kernel
theorem dX1_commit_41 : decode cX1_commit 41 = .ok (.if_icmp .ge 55, 3) := by decide +kernel
theorem dX1_commit_44 : decode cX1_commit 44 = .ok (.aload_n 0, 1) := by decide +kernel
theorem dX1_commit_45 : decode cX1_commit 45 = .ok (.getfield 35, 3) := by decide +kernel
theorem dX1_commit_48 : decode cX1_commit 48 = .ok (.getfield 128, 3) := by decide +kernel
theorem dX1_commit_51 : decode cX1_commit 51 = .ok (.iload_n 3, 1) := by decide +kernel
theorem dX1_commit_52 : decode cX1_commit 52 = .ok (.iaload, 1) := by decide +kernel
theorem dX1_commit_53 : decode cX1_commit 53 = .ok (.istore 4, 2) := by decide +kernel
theorem dX1_commit_55 : decode cX1_commit 55 = .ok (.aload_n 0, 1) := by decide +kernel
theorem dX1_commit_56 : decode cX1_commit 56 = .ok (.getfield 35, 3) := by decide +kernel
theorem dX1_commit_59 : decode cX1_commit 59 = .ok (.getfield 112, 3) := by decide +kernel
theorem dX1_commit_62 : decode cX1_commit 62 = .ok (.iload 4, 2) := by decide +kernel
theorem dX1_commit_64 : decode cX1_commit 64 = .ok (.iaload, 1) := by decide +kernel
theorem dX1_commit_65 : decode cX1_commit 65 = .ok (.iload_n 2, 1) := by decide +kernel
theorem dX1_commit_66 : decode cX1_commit 66 = .ok (.if_icmp .ne 24, 3) := by decide +kernel
theorem dX1_commit_69 : decode cX1_commit 69 = .ok (.aload_n 0, 1) := by decide +kernel
theorem dX1_commit_70 : decode cX1_commit 70 = .ok (.getfield 35, 3) := by decide +kernel
theorem dX1_commit_73 : decode cX1_commit 73 = .ok (.getfield 147, 3) := by decide +kernel
theorem dX1_commit_76 : decode cX1_commit 76 = .ok (.iload 4, 2) := by decide +kernel
theorem dX1_commit_78 : decode cX1_commit 78 = .ok (.iaload, 1) := by decide +kernel
theorem dX1_commit_79 : decode cX1_commit 79 = .ok (.iconst 1, 1) := by decide +kernel
theorem dX1_commit_80 : decode cX1_commit 80 = .ok (.if_icmp .ne 10, 3) := by decide +kernel
theorem dX1_commit_83 : decode cX1_commit 83 = .ok (.aload_n 0, 1) := by decide +kernel
theorem dX1_commit_84 : decode cX1_commit 84 = .ok (.iload 4, 2) := by decide +kernel
theorem dX1_commit_86 : decode cX1_commit 86 = .ok (.iconst 3, 1) := by decide +kernel
theorem dX1_commit_87 : decode cX1_commit 87 = .ok (.invokevirtual 159, 3) := by decide +kernel
theorem dX1_commit_90 : decode cX1_commit 90 = .ok (.iinc 3 1, 3) := by decide +kernel
theorem dX1_commit_93 : decode cX1_commit 93 = .ok (.goto (-60), 3) := by decide +kernel
theorem dX1_commit_96 : decode cX1_commit 96 = .ok (.return_, 1) := by decide +kernel
theorem dX1_loseAttemptsOn_0 : decode cX1_loseAttemptsOn 0 = .ok (.iconst 0, 1) := by decide +kernel
theorem dX1_loseAttemptsOn_1 : decode cX1_loseAttemptsOn 1 = .ok (.istore_n 2, 1) := by decide +kernel
theorem dX1_loseAttemptsOn_2 : decode cX1_loseAttemptsOn 2 = .ok (.iconst 0, 1) := by decide +kernel
theorem dX1_loseAttemptsOn_3 : decode cX1_loseAttemptsOn 3 = .ok (.istore_n 3, 1) := by decide +kernel
theorem dX1_loseAttemptsOn_4 : decode cX1_loseAttemptsOn 4 = .ok (.iload_n 3, 1) := by decide +kernel
theorem dX1_loseAttemptsOn_5 : decode cX1_loseAttemptsOn 5 = .ok (.aload_n 0, 1) := by decide +kernel
theorem dX1_loseAttemptsOn_6 : decode cX1_loseAttemptsOn 6 = .ok (.getfield 35, 3) := by decide +kernel
theorem dX1_loseAttemptsOn_9 : decode cX1_loseAttemptsOn 9 = .ok (.getfield 125, 3) := by decide +kernel
theorem dX1_loseAttemptsOn_12 : decode cX1_loseAttemptsOn 12 = .ok (.if_icmp .ge 44, 3) := by decide +kernel
theorem dX1_loseAttemptsOn_15 : decode cX1_loseAttemptsOn 15 = .ok (.aload_n 0, 1) := by decide +kernel
theorem dX1_loseAttemptsOn_16 : decode cX1_loseAttemptsOn 16 = .ok (.getfield 35, 3) := by decide +kernel
theorem dX1_loseAttemptsOn_19 : decode cX1_loseAttemptsOn 19 = .ok (.getfield 128, 3) := by decide +kernel
theorem dX1_loseAttemptsOn_22 : decode cX1_loseAttemptsOn 22 = .ok (.iload_n 3, 1) := by decide +kernel
theorem dX1_loseAttemptsOn_23 : decode cX1_loseAttemptsOn 23 = .ok (.iaload, 1) := by decide +kernel
theorem dX1_loseAttemptsOn_24 : decode cX1_loseAttemptsOn 24 = .ok (.istore 4, 2) := by decide +kernel
theorem dX1_loseAttemptsOn_26 : decode cX1_loseAttemptsOn 26 = .ok (.aload_n 0, 1) := by decide +kernel
theorem dX1_loseAttemptsOn_27 : decode cX1_loseAttemptsOn 27 = .ok (.getfield 35, 3) := by decide +kernel
theorem dX1_loseAttemptsOn_30 : decode cX1_loseAttemptsOn 30 = .ok (.getfield 108, 3) := by decide +kernel
theorem dX1_loseAttemptsOn_33 : decode cX1_loseAttemptsOn 33 = .ok (.iload 4, 2) := by decide +kernel
theorem dX1_loseAttemptsOn_35 : decode cX1_loseAttemptsOn 35 = .ok (.iaload, 1) := by decide +kernel
theorem dX1_loseAttemptsOn_36 : decode cX1_loseAttemptsOn 36 = .ok (.iload_n 1, 1) := by decide +kernel
theorem dX1_loseAttemptsOn_37 : decode cX1_loseAttemptsOn 37 = .ok (.if_icmp .ne 13, 3) := by decide +kernel
theorem dX1_loseAttemptsOn_40 : decode cX1_loseAttemptsOn 40 = .ok (.aload_n 0, 1) := by decide +kernel
theorem dX1_loseAttemptsOn_41 : decode cX1_loseAttemptsOn 41 = .ok (.iload 4, 2) := by decide +kernel
theorem dX1_loseAttemptsOn_43 : decode cX1_loseAttemptsOn 43 = .ok (.iconst 4, 1) := by decide +kernel
theorem dX1_loseAttemptsOn_44 : decode cX1_loseAttemptsOn 44 = .ok (.invokevirtual 159, 3) := by decide +kernel
theorem dX1_loseAttemptsOn_47 : decode cX1_loseAttemptsOn 47 = .ok (.iinc 2 1, 3) := by decide +kernel
theorem dX1_loseAttemptsOn_50 : decode cX1_loseAttemptsOn 50 = .ok (.iinc 3 1, 3) := by decide +kernel
theorem dX1_loseAttemptsOn_53 : decode cX1_loseAttemptsOn 53 = .ok (.goto (-49), 3) := by decide +kernel
theorem dX1_loseAttemptsOn_56 : decode cX1_loseAttemptsOn 56 = .ok (.aload_n 0, 1) := by decide +kernel
theorem dX1_loseAttemptsOn_57 : decode cX1_loseAttemptsOn 57 = .ok (.getfield 35, 3) := by decide +kernel
theorem dX1_loseAttemptsOn_60 : decode cX1_loseAttemptsOn 60 = .ok (.invokevirtual 156, 3) := by decide +kernel
theorem dX1_loseAttemptsOn_63 : decode cX1_loseAttemptsOn 63 = .ok (.iload_n 2, 1) := by decide +kernel
theorem dX1_loseAttemptsOn_64 : decode cX1_loseAttemptsOn 64 = .ok (.ireturn, 1) := by decide +kernel
theorem dX1_end_0 : decode cX1_end 0 = .ok (.aload_n 0, 1) := by decide +kernel
theorem dX1_end_1 : decode cX1_end 1 = .ok (.getfield 35, 3) := by decide +kernel
theorem dX1_end_4 : decode cX1_end 4 = .ok (.getfield 147, 3) := by decide +kernel
theorem dX1_end_7 : decode cX1_end 7 = .ok (.iload_n 1, 1) := by decide +kernel
theorem dX1_end_8 : decode cX1_end 8 = .ok (.iload_n 2, 1) := by decide +kernel
theorem dX1_end_9 : decode cX1_end 9 = .ok (.iastore, 1) := by decide +kernel
theorem dX1_end_10 : decode cX1_end 10 = .ok (.aload_n 0, 1) := by decide +kernel
theorem dX1_end_11 : decode cX1_end 11 = .ok (.getfield 28, 3) := by decide +kernel
theorem dX1_end_14 : decode cX1_end 14 = .ok (.getfield 115, 3) := by decide +kernel
theorem dX1_end_17 : decode cX1_end 17 = .ok (.aload_n 0, 1) := by decide +kernel
theorem dX1_end_18 : decode cX1_end 18 = .ok (.getfield 35, 3) := by decide +kernel
theorem dX1_end_21 : decode cX1_end 21 = .ok (.getfield 112, 3) := by decide +kernel
theorem dX1_end_24 : decode cX1_end 24 = .ok (.iload_n 1, 1) := by decide +kernel
theorem dX1_end_25 : decode cX1_end 25 = .ok (.iaload, 1) := by decide +kernel
theorem dX1_end_26 : decode cX1_end 26 = .ok (.dup2, 1) := by decide +kernel
theorem dX1_end_27 : decode cX1_end 27 = .ok (.iaload, 1) := by decide +kernel
theorem dX1_end_28 : decode cX1_end 28 = .ok (.iconst 1, 1) := by decide +kernel
theorem dX1_end_29 : decode cX1_end 29 = .ok (.isub, 1) := by decide +kernel
theorem dX1_end_30 : decode cX1_end 30 = .ok (.iastore, 1) := by decide +kernel
theorem dX1_end_31 : decode cX1_end 31 = .ok (.aload_n 0, 1) := by decide +kernel
theorem dX1_end_32 : decode cX1_end 32 = .ok (.getfield 21, 3) := by decide +kernel
theorem dX1_end_35 : decode cX1_end 35 = .ok (.getfield 122, 3) := by decide +kernel
theorem dX1_end_38 : decode cX1_end 38 = .ok (.aload_n 0, 1) := by decide +kernel
theorem dX1_end_39 : decode cX1_end 39 = .ok (.getfield 35, 3) := by decide +kernel
theorem dX1_end_42 : decode cX1_end 42 = .ok (.getfield 108, 3) := by decide +kernel
theorem dX1_end_45 : decode cX1_end 45 = .ok (.iload_n 1, 1) := by decide +kernel
theorem dX1_end_46 : decode cX1_end 46 = .ok (.iaload, 1) := by decide +kernel
theorem dX1_end_47 : decode cX1_end 47 = .ok (.dup2, 1) := by decide +kernel
theorem dX1_end_48 : decode cX1_end 48 = .ok (.iaload, 1) := by decide +kernel
theorem dX1_end_49 : decode cX1_end 49 = .ok (.iconst 1, 1) := by decide +kernel
theorem dX1_end_50 : decode cX1_end 50 = .ok (.isub, 1) := by decide +kernel
theorem dX1_end_51 : decode cX1_end 51 = .ok (.iastore, 1) := by decide +kernel
theorem dX1_end_52 : decode cX1_end 52 = .ok (.return_, 1) := by decide +kernel
theorem dX1_findStraggler_0 : decode cX1_findStraggler 0 = .ok (.aload_n 0, 1) := by decide +kernel
theorem dX1_findStraggler_1 : decode cX1_findStraggler 1 = .ok (.getfield 12, 3) := by decide +kernel
theorem dX1_findStraggler_4 : decode cX1_findStraggler 4 = .ok (.getfield 95, 3) := by decide +kernel
theorem dX1_findStraggler_7 : decode cX1_findStraggler 7 = .ok (.iconst 1, 1) := by decide +kernel
theorem dX1_findStraggler_8 : decode cX1_findStraggler 8 = .ok (.if_icmp .ne 8, 3) := by decide +kernel
theorem dX1_findStraggler_11 : decode cX1_findStraggler 11 = .ok (.aload_n 0, 1) := by decide +kernel
theorem dX1_findStraggler_12 : decode cX1_findStraggler 12 = .ok (.invokevirtual 168, 3) := by decide +kernel
theorem dX1_findStraggler_15 : decode cX1_findStraggler 15 = .ok (.ireturn, 1) := by decide +kernel
theorem dX1_findStraggler_16 : decode cX1_findStraggler 16 = .ok (.aload_n 0, 1) := by decide +kernel
theorem dX1_findStraggler_17 : decode cX1_findStraggler 17 = .ok (.getfield 12, 3) := by decide +kernel
theorem dX1_findStraggler_20 : decode cX1_findStraggler 20 = .ok (.getfield 95, 3) := by decide +kernel
theorem dX1_findStraggler_23 : decode cX1_findStraggler 23 = .ok (.iconst 2, 1) := by decide +kernel
theorem dX1_findStraggler_24 : decode cX1_findStraggler 24 = .ok (.if_icmp .ne 10, 3) := by decide +kernel
theorem dX1_findStraggler_27 : decode cX1_findStraggler 27 = .ok (.aload_n 0, 1) := by decide +kernel
theorem dX1_findStraggler_28 : decode cX1_findStraggler 28 = .ok (.invokevirtual 171, 3) := by decide +kernel
theorem dX1_findStraggler_31 : decode cX1_findStraggler 31 = .ok (.goto 5, 3) := by decide +kernel
theorem dX1_findStraggler_34 : decode cX1_findStraggler 34 = .ok (.bipush (-6), 2) := by decide +kernel
theorem dX1_findStraggler_36 : decode cX1_findStraggler 36 = .ok (.ireturn, 1) := by decide +kernel
theorem dX1_isCandidate_0 : decode cX1_isCandidate 0 = .ok (.aload_n 0, 1) := by decide +kernel
theorem dX1_isCandidate_1 : decode cX1_isCandidate 1 = .ok (.getfield 28, 3) := by decide +kernel
theorem dX1_isCandidate_4 : decode cX1_isCandidate 4 = .ok (.getfield 115, 3) := by decide +kernel
theorem dX1_isCandidate_7 : decode cX1_isCandidate 7 = .ok (.aload_n 0, 1) := by decide +kernel
theorem dX1_isCandidate_8 : decode cX1_isCandidate 8 = .ok (.getfield 35, 3) := by decide +kernel
theorem dX1_isCandidate_11 : decode cX1_isCandidate 11 = .ok (.getfield 112, 3) := by decide +kernel
theorem dX1_isCandidate_14 : decode cX1_isCandidate 14 = .ok (.iload_n 1, 1) := by decide +kernel
theorem dX1_isCandidate_15 : decode cX1_isCandidate 15 = .ok (.iaload, 1) := by decide +kernel
theorem dX1_isCandidate_16 : decode cX1_isCandidate 16 = .ok (.iaload, 1) := by decide +kernel
theorem dX1_isCandidate_17 : decode cX1_isCandidate 17 = .ok (.iconst 1, 1) := by decide +kernel
theorem dX1_isCandidate_18 : decode cX1_isCandidate 18 = .ok (.if_icmp .ne 26, 3) := by decide +kernel
theorem dX1_isCandidate_21 : decode cX1_isCandidate 21 = .ok (.aload_n 0, 1) := by decide +kernel
theorem dX1_isCandidate_22 : decode cX1_isCandidate 22 = .ok (.getfield 35, 3) := by decide +kernel
theorem dX1_isCandidate_25 : decode cX1_isCandidate 25 = .ok (.getfield 174, 3) := by decide +kernel
theorem dX1_isCandidate_28 : decode cX1_isCandidate 28 = .ok (.iload_n 1, 1) := by decide +kernel
theorem dX1_isCandidate_29 : decode cX1_isCandidate 29 = .ok (.iaload, 1) := by decide +kernel
theorem dX1_isCandidate_30 : decode cX1_isCandidate 30 = .ok (.aload_n 0, 1) := by decide +kernel
theorem dX1_isCandidate_31 : decode cX1_isCandidate 31 = .ok (.getfield 12, 3) := by decide +kernel
theorem dX1_isCandidate_34 : decode cX1_isCandidate 34 = .ok (.getfield 177, 3) := by decide +kernel
theorem dX1_isCandidate_37 : decode cX1_isCandidate 37 = .ok (.if_icmp .lt 7, 3) := by decide +kernel
theorem dX1_isCandidate_40 : decode cX1_isCandidate 40 = .ok (.iconst 1, 1) := by decide +kernel
theorem dX1_isCandidate_41 : decode cX1_isCandidate 41 = .ok (.goto 4, 3) := by decide +kernel
theorem dX1_isCandidate_44 : decode cX1_isCandidate 44 = .ok (.iconst 0, 1) := by decide +kernel
theorem dX1_isCandidate_45 : decode cX1_isCandidate 45 = .ok (.ireturn, 1) := by decide +kernel
theorem dX1_leastAdvanced_0 : decode cX1_leastAdvanced 0 = .ok (.bipush (-6), 2) := by decide +kernel
theorem dX1_leastAdvanced_2 : decode cX1_leastAdvanced 2 = .ok (.istore_n 1, 1) := by decide +kernel
theorem dX1_leastAdvanced_3 : decode cX1_leastAdvanced 3 = .ok (.iconst 0, 1) := by decide +kernel
theorem dX1_leastAdvanced_4 : decode cX1_leastAdvanced 4 = .ok (.istore_n 2, 1) := by decide +kernel
theorem dX1_leastAdvanced_5 : decode cX1_leastAdvanced 5 = .ok (.iload_n 2, 1) := by decide +kernel
theorem dX1_leastAdvanced_6 : decode cX1_leastAdvanced 6 = .ok (.aload_n 0, 1) := by decide +kernel
theorem dX1_leastAdvanced_7 : decode cX1_leastAdvanced 7 = .ok (.getfield 35, 3) := by decide +kernel
theorem dX1_leastAdvanced_10 : decode cX1_leastAdvanced 10 = .ok (.getfield 125, 3) := by decide +kernel
theorem dX1_leastAdvanced_13 : decode cX1_leastAdvanced 13 = .ok (.if_icmp .ge 56, 3) := by decide +kernel
theorem dX1_leastAdvanced_16 : decode cX1_leastAdvanced 16 = .ok (.aload_n 0, 1) := by decide +kernel
theorem dX1_leastAdvanced_17 : decode cX1_leastAdvanced 17 = .ok (.getfield 35, 3) := by decide +kernel
theorem dX1_leastAdvanced_20 : decode cX1_leastAdvanced 20 = .ok (.getfield 128, 3) := by decide +kernel
theorem dX1_leastAdvanced_23 : decode cX1_leastAdvanced 23 = .ok (.iload_n 2, 1) := by decide +kernel
theorem dX1_leastAdvanced_24 : decode cX1_leastAdvanced 24 = .ok (.iaload, 1) := by decide +kernel
theorem dX1_leastAdvanced_25 : decode cX1_leastAdvanced 25 = .ok (.istore_n 3, 1) := by decide +kernel
theorem dX1_leastAdvanced_26 : decode cX1_leastAdvanced 26 = .ok (.aload_n 0, 1) := by decide +kernel
theorem dX1_leastAdvanced_27 : decode cX1_leastAdvanced 27 = .ok (.iload_n 3, 1) := by decide +kernel
theorem dX1_leastAdvanced_28 : decode cX1_leastAdvanced 28 = .ok (.invokevirtual 180, 3) := by decide +kernel
theorem dX1_leastAdvanced_31 : decode cX1_leastAdvanced 31 = .ok (.ifCond .eq 32, 3) := by decide +kernel
theorem dX1_leastAdvanced_34 : decode cX1_leastAdvanced 34 = .ok (.iload_n 1, 1) := by decide +kernel
theorem dX1_leastAdvanced_35 : decode cX1_leastAdvanced 35 = .ok (.bipush (-6), 2) := by decide +kernel
theorem dX1_leastAdvanced_37 : decode cX1_leastAdvanced 37 = .ok (.if_icmp .eq 24, 3) := by decide +kernel
theorem dX1_leastAdvanced_40 : decode cX1_leastAdvanced 40 = .ok (.aload_n 0, 1) := by decide +kernel
theorem dX1_leastAdvanced_41 : decode cX1_leastAdvanced 41 = .ok (.getfield 35, 3) := by decide +kernel
theorem dX1_leastAdvanced_44 : decode cX1_leastAdvanced 44 = .ok (.getfield 183, 3) := by decide +kernel
theorem dX1_leastAdvanced_47 : decode cX1_leastAdvanced 47 = .ok (.iload_n 3, 1) := by decide +kernel
theorem dX1_leastAdvanced_48 : decode cX1_leastAdvanced 48 = .ok (.iaload, 1) := by decide +kernel
theorem dX1_leastAdvanced_49 : decode cX1_leastAdvanced 49 = .ok (.aload_n 0, 1) := by decide +kernel
theorem dX1_leastAdvanced_50 : decode cX1_leastAdvanced 50 = .ok (.getfield 35, 3) := by decide +kernel
theorem dX1_leastAdvanced_53 : decode cX1_leastAdvanced 53 = .ok (.getfield 183, 3) := by decide +kernel
theorem dX1_leastAdvanced_56 : decode cX1_leastAdvanced 56 = .ok (.iload_n 1, 1) := by decide +kernel
theorem dX1_leastAdvanced_57 : decode cX1_leastAdvanced 57 = .ok (.iaload, 1) := by decide +kernel
theorem dX1_leastAdvanced_58 : decode cX1_leastAdvanced 58 = .ok (.if_icmp .ge 5, 3) := by decide +kernel
theorem dX1_leastAdvanced_61 : decode cX1_leastAdvanced 61 = .ok (.iload_n 3, 1) := by decide +kernel
theorem dX1_leastAdvanced_62 : decode cX1_leastAdvanced 62 = .ok (.istore_n 1, 1) := by decide +kernel
theorem dX1_leastAdvanced_63 : decode cX1_leastAdvanced 63 = .ok (.iinc 2 1, 3) := by decide +kernel
theorem dX1_leastAdvanced_66 : decode cX1_leastAdvanced 66 = .ok (.goto (-61), 3) := by decide +kernel
theorem dX1_leastAdvanced_69 : decode cX1_leastAdvanced 69 = .ok (.iload_n 1, 1) := by decide +kernel
theorem dX1_leastAdvanced_70 : decode cX1_leastAdvanced 70 = .ok (.bipush (-6), 2) := by decide +kernel
theorem dX1_leastAdvanced_72 : decode cX1_leastAdvanced 72 = .ok (.if_icmp .ne 6, 3) := by decide +kernel
theorem dX1_leastAdvanced_75 : decode cX1_leastAdvanced 75 = .ok (.bipush (-6), 2) := by decide +kernel
theorem dX1_leastAdvanced_77 : decode cX1_leastAdvanced 77 = .ok (.ireturn, 1) := by decide +kernel
theorem dX1_leastAdvanced_78 : decode cX1_leastAdvanced 78 = .ok (.aload_n 0, 1) := by decide +kernel
theorem dX1_leastAdvanced_79 : decode cX1_leastAdvanced 79 = .ok (.getfield 35, 3) := by decide +kernel
theorem dX1_leastAdvanced_82 : decode cX1_leastAdvanced 82 = .ok (.aload_n 0, 1) := by decide +kernel
theorem dX1_leastAdvanced_83 : decode cX1_leastAdvanced 83 = .ok (.getfield 35, 3) := by decide +kernel
theorem dX1_leastAdvanced_86 : decode cX1_leastAdvanced 86 = .ok (.getfield 183, 3) := by decide +kernel
theorem dX1_leastAdvanced_89 : decode cX1_leastAdvanced 89 = .ok (.invokevirtual 186, 3) := by decide +kernel
theorem dX1_leastAdvanced_92 : decode cX1_leastAdvanced 92 = .ok (.istore_n 2, 1) := by decide +kernel
theorem dX1_leastAdvanced_93 : decode cX1_leastAdvanced 93 = .ok (.aload_n 0, 1) := by decide +kernel
theorem dX1_leastAdvanced_94 : decode cX1_leastAdvanced 94 = .ok (.getfield 35, 3) := by decide +kernel
theorem dX1_leastAdvanced_97 : decode cX1_leastAdvanced 97 = .ok (.getfield 183, 3) := by decide +kernel
theorem dX1_leastAdvanced_100 : decode cX1_leastAdvanced 100 = .ok (.iload_n 1, 1) := by decide +kernel
theorem dX1_leastAdvanced_101 : decode cX1_leastAdvanced 101 = .ok (.iaload, 1) := by decide +kernel
theorem dX1_leastAdvanced_102 : decode cX1_leastAdvanced 102 = .ok (.sipush 200, 3) := by decide +kernel
theorem dX1_leastAdvanced_105 : decode cX1_leastAdvanced 105 = .ok (.iadd, 1) := by decide +kernel
theorem dX1_leastAdvanced_106 : decode cX1_leastAdvanced 106 = .ok (.iload_n 2, 1) := by decide +kernel
theorem dX1_leastAdvanced_107 : decode cX1_leastAdvanced 107 = .ok (.if_icmp .ge 7, 3) := by decide +kernel
theorem dX1_leastAdvanced_110 : decode cX1_leastAdvanced 110 = .ok (.iload_n 1, 1) := by decide +kernel
theorem dX1_leastAdvanced_111 : decode cX1_leastAdvanced 111 = .ok (.goto 5, 3) := by decide +kernel
theorem dX1_leastAdvanced_114 : decode cX1_leastAdvanced 114 = .ok (.bipush (-6), 2) := by decide +kernel
theorem dX1_leastAdvanced_116 : decode cX1_leastAdvanced 116 = .ok (.ireturn, 1) := by decide +kernel
theorem dX1_longestToRun_0 : decode cX1_longestToRun 0 = .ok (.aload_n 0, 1) := by decide +kernel
theorem dX1_longestToRun_1 : decode cX1_longestToRun 1 = .ok (.getfield 35, 3) := by decide +kernel
theorem dX1_longestToRun_4 : decode cX1_longestToRun 4 = .ok (.aload_n 0, 1) := by decide +kernel
theorem dX1_longestToRun_5 : decode cX1_longestToRun 5 = .ok (.getfield 35, 3) := by decide +kernel
theorem dX1_longestToRun_8 : decode cX1_longestToRun 8 = .ok (.getfield 190, 3) := by decide +kernel
theorem dX1_longestToRun_11 : decode cX1_longestToRun 11 = .ok (.invokevirtual 186, 3) := by decide +kernel
theorem dX1_longestToRun_14 : decode cX1_longestToRun 14 = .ok (.aload_n 0, 1) := by decide +kernel
theorem dX1_longestToRun_15 : decode cX1_longestToRun 15 = .ok (.getfield 12, 3) := by decide +kernel
theorem dX1_longestToRun_18 : decode cX1_longestToRun 18 = .ok (.getfield 193, 3) := by decide +kernel
theorem dX1_longestToRun_21 : decode cX1_longestToRun 21 = .ok (.imul, 1) := by decide +kernel
theorem dX1_longestToRun_22 : decode cX1_longestToRun 22 = .ok (.istore_n 1, 1) := by decide +kernel
theorem dX1_longestToRun_23 : decode cX1_longestToRun 23 = .ok (.bipush (-6), 2) := by decide +kernel
theorem dX1_longestToRun_25 : decode cX1_longestToRun 25 = .ok (.istore_n 2, 1) := by decide +kernel
theorem dX1_longestToRun_26 : decode cX1_longestToRun 26 = .ok (.iconst 0, 1) := by decide +kernel
theorem dX1_longestToRun_27 : decode cX1_longestToRun 27 = .ok (.istore_n 3, 1) := by decide +kernel
theorem dX1_longestToRun_28 : decode cX1_longestToRun 28 = .ok (.iload_n 3, 1) := by decide +kernel
theorem dX1_longestToRun_29 : decode cX1_longestToRun 29 = .ok (.aload_n 0, 1) := by decide +kernel
theorem dX1_longestToRun_30 : decode cX1_longestToRun 30 = .ok (.getfield 35, 3) := by decide +kernel
theorem dX1_longestToRun_33 : decode cX1_longestToRun 33 = .ok (.getfield 125, 3) := by decide +kernel
theorem dX1_longestToRun_36 : decode cX1_longestToRun 36 = .ok (.if_icmp .ge 87, 3) := by decide +kernel
theorem dX1_longestToRun_39 : decode cX1_longestToRun 39 = .ok (.aload_n 0, 1) := by decide +kernel
theorem dX1_longestToRun_40 : decode cX1_longestToRun 40 = .ok (.getfield 35, 3) := by decide +kernel
theorem dX1_longestToRun_43 : decode cX1_longestToRun 43 = .ok (.getfield 128, 3) := by decide +kernel
theorem dX1_longestToRun_46 : decode cX1_longestToRun 46 = .ok (.iload_n 3, 1) := by decide +kernel
theorem dX1_longestToRun_47 : decode cX1_longestToRun 47 = .ok (.iaload, 1) := by decide +kernel
theorem dX1_longestToRun_48 : decode cX1_longestToRun 48 = .ok (.istore 4, 2) := by decide +kernel
theorem dX1_longestToRun_50 : decode cX1_longestToRun 50 = .ok (.aload_n 0, 1) := by decide +kernel
theorem dX1_longestToRun_51 : decode cX1_longestToRun 51 = .ok (.getfield 35, 3) := by decide +kernel
theorem dX1_longestToRun_54 : decode cX1_longestToRun 54 = .ok (.getfield 190, 3) := by decide +kernel
theorem dX1_longestToRun_57 : decode cX1_longestToRun 57 = .ok (.iload 4, 2) := by decide +kernel
theorem dX1_longestToRun_59 : decode cX1_longestToRun 59 = .ok (.iaload, 1) := by decide +kernel
theorem dX1_longestToRun_60 : decode cX1_longestToRun 60 = .ok (.bipush 100, 2) := by decide +kernel
theorem dX1_longestToRun_62 : decode cX1_longestToRun 62 = .ok (.imul, 1) := by decide +kernel
theorem dX1_longestToRun_63 : decode cX1_longestToRun 63 = .ok (.iload_n 1, 1) := by decide +kernel
theorem dX1_longestToRun_64 : decode cX1_longestToRun 64 = .ok (.if_icmp .ge 7, 3) := by decide +kernel
theorem dX1_longestToRun_67 : decode cX1_longestToRun 67 = .ok (.iconst 1, 1) := by decide +kernel
theorem dX1_longestToRun_68 : decode cX1_longestToRun 68 = .ok (.goto 4, 3) := by decide +kernel
theorem dX1_longestToRun_71 : decode cX1_longestToRun 71 = .ok (.iconst 0, 1) := by decide +kernel
theorem dX1_longestToRun_72 : decode cX1_longestToRun 72 = .ok (.istore 5, 2) := by decide +kernel
theorem dX1_longestToRun_74 : decode cX1_longestToRun 74 = .ok (.iload 5, 2) := by decide +kernel
theorem dX1_longestToRun_76 : decode cX1_longestToRun 76 = .ok (.ifCond .eq 41, 3) := by decide +kernel
theorem dX1_longestToRun_79 : decode cX1_longestToRun 79 = .ok (.aload_n 0, 1) := by decide +kernel
theorem dX1_longestToRun_80 : decode cX1_longestToRun 80 = .ok (.iload 4, 2) := by decide +kernel
theorem dX1_longestToRun_82 : decode cX1_longestToRun 82 = .ok (.invokevirtual 180, 3) := by decide +kernel
theorem dX1_longestToRun_85 : decode cX1_longestToRun 85 = .ok (.ifCond .eq 32, 3) := by decide +kernel
theorem dX1_longestToRun_88 : decode cX1_longestToRun 88 = .ok (.iload_n 2, 1) := by decide +kernel
theorem dX1_longestToRun_89 : decode cX1_longestToRun 89 = .ok (.bipush (-6), 2) := by decide +kernel
theorem dX1_longestToRun_91 : decode cX1_longestToRun 91 = .ok (.if_icmp .eq 23, 3) := by decide +kernel
theorem dX1_longestToRun_94 : decode cX1_longestToRun 94 = .ok (.aload_n 0, 1) := by decide +kernel
theorem dX1_longestToRun_95 : decode cX1_longestToRun 95 = .ok (.getfield 35, 3) := by decide +kernel
theorem dX1_longestToRun_98 : decode cX1_longestToRun 98 = .ok (.iload 4, 2) := by decide +kernel
theorem dX1_longestToRun_100 : decode cX1_longestToRun 100 = .ok (.invokevirtual 196, 3) := by decide +kernel
theorem dX1_longestToRun_103 : decode cX1_longestToRun 103 = .ok (.aload_n 0, 1) := by decide +kernel
theorem dX1_longestToRun_104 : decode cX1_longestToRun 104 = .ok (.getfield 35, 3) := by decide +kernel
theorem dX1_longestToRun_107 : decode cX1_longestToRun 107 = .ok (.iload_n 2, 1) := by decide +kernel
theorem dX1_longestToRun_108 : decode cX1_longestToRun 108 = .ok (.invokevirtual 196, 3) := by decide +kernel
theorem dX1_longestToRun_111 : decode cX1_longestToRun 111 = .ok (.if_icmp .le 6, 3) := by decide +kernel
theorem dX1_longestToRun_114 : decode cX1_longestToRun 114 = .ok (.iload 4, 2) := by decide +kernel
theorem dX1_longestToRun_116 : decode cX1_longestToRun 116 = .ok (.istore_n 2, 1) := by decide +kernel
theorem dX1_longestToRun_117 : decode cX1_longestToRun 117 = .ok (.iinc 3 1, 3) := by decide +kernel
theorem dX1_longestToRun_120 : decode cX1_longestToRun 120 = .ok (.goto (-92), 3) := by decide +kernel
theorem dX1_longestToRun_123 : decode cX1_longestToRun 123 = .ok (.iload_n 2, 1) := by decide +kernel
theorem dX1_longestToRun_124 : decode cX1_longestToRun 124 = .ok (.ireturn, 1) := by decide +kernel
theorem dX2_init_0 : decode cX2_init 0 = .ok (.aload_n 0, 1) := by decide +kernel
theorem dX2_init_1 : decode cX2_init 1 = .ok (.invokespecial 3, 3) := by decide +kernel
theorem dX2_init_4 : decode cX2_init 4 = .ok (.aload_n 0, 1) := by decide +kernel
theorem dX2_init_5 : decode cX2_init 5 = .ok (.iconst 0, 1) := by decide +kernel
theorem dX2_init_6 : decode cX2_init 6 = .ok (.putfield 9, 3) := by decide +kernel
theorem dX2_init_9 : decode cX2_init 9 = .ok (.aload_n 0, 1) := by decide +kernel
theorem dX2_init_10 : decode cX2_init 10 = .ok (.bipush 8, 2) := by decide +kernel
theorem dX2_init_12 : decode cX2_init 12 = .ok (.newarray .int, 2) := by decide +kernel
theorem dX2_init_14 : decode cX2_init 14 = .ok (.putfield 15, 3) := by decide +kernel
theorem dX2_init_17 : decode cX2_init 17 = .ok (.aload_n 0, 1) := by decide +kernel
theorem dX2_init_18 : decode cX2_init 18 = .ok (.bipush 8, 2) := by decide +kernel
theorem dX2_init_20 : decode cX2_init 20 = .ok (.newarray .int, 2) := by decide +kernel
theorem dX2_init_22 : decode cX2_init 22 = .ok (.putfield 19, 3) := by decide +kernel
theorem dX2_init_25 : decode cX2_init 25 = .ok (.aload_n 0, 1) := by decide +kernel
theorem dX2_init_26 : decode cX2_init 26 = .ok (.bipush 8, 2) := by decide +kernel
theorem dX2_init_28 : decode cX2_init 28 = .ok (.newarray .boolean, 2) := by decide +kernel
theorem dX2_init_30 : decode cX2_init 30 = .ok (.putfield 22, 3) := by decide +kernel
theorem dX2_init_33 : decode cX2_init 33 = .ok (.aload_n 0, 1) := by decide +kernel
theorem dX2_init_34 : decode cX2_init 34 = .ok (.bipush 8, 2) := by decide +kernel
theorem dX2_init_36 : decode cX2_init 36 = .ok (.newarray .int, 2) := by decide +kernel
theorem dX2_init_38 : decode cX2_init 38 = .ok (.putfield 26, 3) := by decide +kernel
theorem dX2_init_41 : decode cX2_init 41 = .ok (.aload_n 0, 1) := by decide +kernel
theorem dX2_init_42 : decode cX2_init 42 = .ok (.bipush 8, 2) := by decide +kernel
theorem dX2_init_44 : decode cX2_init 44 = .ok (.newarray .int, 2) := by decide +kernel
theorem dX2_init_46 : decode cX2_init 46 = .ok (.putfield 29, 3) := by decide +kernel
theorem dX2_init_49 : decode cX2_init 49 = .ok (.aload_n 0, 1) := by decide +kernel
theorem dX2_init_50 : decode cX2_init 50 = .ok (.bipush 8, 2) := by decide +kernel
theorem dX2_init_52 : decode cX2_init 52 = .ok (.newarray .int, 2) := by decide +kernel
theorem dX2_init_54 : decode cX2_init 54 = .ok (.putfield 32, 3) := by decide +kernel
theorem dX2_init_57 : decode cX2_init 57 = .ok (.return_, 1) := by decide +kernel
theorem dX2_has_0 : decode cX2_has 0 = .ok (.iload_n 1, 1) := by decide +kernel
theorem dX2_has_1 : decode cX2_has 1 = .ok (.ifCond .lt 15, 3) := by decide +kernel
theorem dX2_has_4 : decode cX2_has 4 = .ok (.iload_n 1, 1) := by decide +kernel
theorem dX2_has_5 : decode cX2_has 5 = .ok (.aload_n 0, 1) := by decide +kernel
theorem dX2_has_6 : decode cX2_has 6 = .ok (.getfield 9, 3) := by decide +kernel
theorem dX2_has_9 : decode cX2_has 9 = .ok (.if_icmp .ge 7, 3) := by decide +kernel
theorem dX2_has_12 : decode cX2_has 12 = .ok (.iconst 1, 1) := by decide +kernel
theorem dX2_has_13 : decode cX2_has 13 = .ok (.goto 4, 3) := by decide +kernel
theorem dX2_has_16 : decode cX2_has 16 = .ok (.iconst 0, 1) := by decide +kernel
theorem dX2_has_17 : decode cX2_has 17 = .ok (.ireturn, 1) := by decide +kernel
theorem dX2_add_0 : decode cX2_add 0 = .ok (.aload_n 0, 1) := by decide +kernel
theorem dX2_add_1 : decode cX2_add 1 = .ok (.getfield 9, 3) := by decide +kernel
theorem dX2_add_4 : decode cX2_add 4 = .ok (.bipush 8, 2) := by decide +kernel
theorem dX2_add_6 : decode cX2_add 6 = .ok (.if_icmp .lt 6, 3) := by decide +kernel
theorem dX2_add_9 : decode cX2_add 9 = .ok (.bipush (-5), 2) := by decide +kernel
theorem dX2_add_11 : decode cX2_add 11 = .ok (.ireturn, 1) := by decide +kernel
theorem dX2_add_12 : decode cX2_add 12 = .ok (.aload_n 0, 1) := by decide +kernel
theorem dX2_add_13 : decode cX2_add 13 = .ok (.getfield 9, 3) := by decide +kernel
theorem dX2_add_16 : decode cX2_add 16 = .ok (.istore_n 3, 1) := by decide +kernel
theorem dX2_add_17 : decode cX2_add 17 = .ok (.aload_n 0, 1) := by decide +kernel
theorem dX2_add_18 : decode cX2_add 18 = .ok (.dup, 1) := by decide +kernel
theorem dX2_add_19 : decode cX2_add 19 = .ok (.getfield 9, 3) := by decide +kernel
theorem dX2_add_22 : decode cX2_add 22 = .ok (.iconst 1, 1) := by decide +kernel
theorem dX2_add_23 : decode cX2_add 23 = .ok (.iadd, 1) := by decide +kernel
theorem dX2_add_24 : decode cX2_add 24 = .ok (.putfield 9, 3) := by decide +kernel
theorem dX2_add_27 : decode cX2_add 27 = .ok (.aload_n 0, 1) := by decide +kernel
theorem dX2_add_28 : decode cX2_add 28 = .ok (.getfield 15, 3) := by decide +kernel
theorem dX2_add_31 : decode cX2_add 31 = .ok (.iload_n 3, 1) := by decide +kernel
theorem dX2_add_32 : decode cX2_add 32 = .ok (.iload_n 1, 1) := by decide +kernel
theorem dX2_add_33 : decode cX2_add 33 = .ok (.iastore, 1) := by decide +kernel
theorem dX2_add_34 : decode cX2_add 34 = .ok (.aload_n 0, 1) := by decide +kernel
theorem dX2_add_35 : decode cX2_add 35 = .ok (.getfield 19, 3) := by decide +kernel
theorem dX2_add_38 : decode cX2_add 38 = .ok (.iload_n 3, 1) := by decide +kernel
theorem dX2_add_39 : decode cX2_add 39 = .ok (.iload_n 2, 1) := by decide +kernel
theorem dX2_add_40 : decode cX2_add 40 = .ok (.iastore, 1) := by decide +kernel
theorem dX2_add_41 : decode cX2_add 41 = .ok (.aload_n 0, 1) := by decide +kernel
theorem dX2_add_42 : decode cX2_add 42 = .ok (.getfield 22, 3) := by decide +kernel
theorem dX2_add_45 : decode cX2_add 45 = .ok (.iload_n 3, 1) := by decide +kernel
theorem dX2_add_46 : decode cX2_add 46 = .ok (.iconst 1, 1) := by decide +kernel
theorem dX2_add_47 : decode cX2_add 47 = .ok (.bastore, 1) := by decide +kernel
theorem dX2_add_48 : decode cX2_add 48 = .ok (.aload_n 0, 1) := by decide +kernel
theorem dX2_add_49 : decode cX2_add 49 = .ok (.getfield 26, 3) := by decide +kernel
theorem dX2_add_52 : decode cX2_add 52 = .ok (.iload_n 3, 1) := by decide +kernel
theorem dX2_add_53 : decode cX2_add 53 = .ok (.iconst 0, 1) := by decide +kernel
theorem dX2_add_54 : decode cX2_add 54 = .ok (.iastore, 1) := by decide +kernel
theorem dX2_add_55 : decode cX2_add 55 = .ok (.aload_n 0, 1) := by decide +kernel
theorem dX2_add_56 : decode cX2_add 56 = .ok (.getfield 29, 3) := by decide +kernel
theorem dX2_add_59 : decode cX2_add 59 = .ok (.iload_n 3, 1) := by decide +kernel
theorem dX2_add_60 : decode cX2_add 60 = .ok (.iconst 0, 1) := by decide +kernel
theorem dX2_add_61 : decode cX2_add 61 = .ok (.iastore, 1) := by decide +kernel
theorem dX2_add_62 : decode cX2_add 62 = .ok (.aload_n 0, 1) := by decide +kernel
theorem dX2_add_63 : decode cX2_add 63 = .ok (.getfield 32, 3) := by decide +kernel
theorem dX2_add_66 : decode cX2_add 66 = .ok (.iload_n 3, 1) := by decide +kernel
theorem dX2_add_67 : decode cX2_add 67 = .ok (.iconst 0, 1) := by decide +kernel
theorem dX2_add_68 : decode cX2_add 68 = .ok (.iastore, 1) := by decide +kernel
theorem dX2_add_69 : decode cX2_add 69 = .ok (.iload_n 3, 1) := by decide +kernel
theorem dX2_add_70 : decode cX2_add 70 = .ok (.ireturn, 1) := by decide +kernel
theorem dX2_copyUnused_0 : decode cX2_copyUnused 0 = .ok (.aload_n 0, 1) := by decide +kernel
theorem dX2_copyUnused_1 : decode cX2_copyUnused 1 = .ok (.iconst 0, 1) := by decide +kernel
theorem dX2_copyUnused_2 : decode cX2_copyUnused 2 = .ok (.putfield 9, 3) := by decide +kernel
theorem dX2_copyUnused_5 : decode cX2_copyUnused 5 = .ok (.iconst 0, 1) := by decide +kernel
theorem dX2_copyUnused_6 : decode cX2_copyUnused 6 = .ok (.istore_n 2, 1) := by decide +kernel
theorem dX2_copyUnused_7 : decode cX2_copyUnused 7 = .ok (.iload_n 2, 1) := by decide +kernel
theorem dX2_copyUnused_8 : decode cX2_copyUnused 8 = .ok (.aload_n 1, 1) := by decide +kernel
theorem dX2_copyUnused_9 : decode cX2_copyUnused 9 = .ok (.getfield 9, 3) := by decide +kernel
theorem dX2_copyUnused_12 : decode cX2_copyUnused 12 = .ok (.if_icmp .ge 38, 3) := by decide +kernel
theorem dX2_copyUnused_15 : decode cX2_copyUnused 15 = .ok (.aload_n 0, 1) := by decide +kernel
theorem dX2_copyUnused_16 : decode cX2_copyUnused 16 = .ok (.aload_n 1, 1) := by decide +kernel
theorem dX2_copyUnused_17 : decode cX2_copyUnused 17 = .ok (.getfield 15, 3) := by decide +kernel
theorem dX2_copyUnused_20 : decode cX2_copyUnused 20 = .ok (.iload_n 2, 1) := by decide +kernel
theorem dX2_copyUnused_21 : decode cX2_copyUnused 21 = .ok (.iaload, 1) := by decide +kernel
theorem dX2_copyUnused_22 : decode cX2_copyUnused 22 = .ok (.aload_n 1, 1) := by decide +kernel
theorem dX2_copyUnused_23 : decode cX2_copyUnused 23 = .ok (.getfield 19, 3) := by decide +kernel
theorem dX2_copyUnused_26 : decode cX2_copyUnused 26 = .ok (.iload_n 2, 1) := by decide +kernel
theorem dX2_copyUnused_27 : decode cX2_copyUnused 27 = .ok (.iaload, 1) := by decide +kernel
theorem dX2_copyUnused_28 : decode cX2_copyUnused 28 = .ok (.invokevirtual 35, 3) := by decide +kernel
theorem dX2_copyUnused_31 : decode cX2_copyUnused 31 = .ok (.pop, 1) := by decide +kernel
theorem dX2_copyUnused_32 : decode cX2_copyUnused 32 = .ok (.aload_n 0, 1) := by decide +kernel
theorem dX2_copyUnused_33 : decode cX2_copyUnused 33 = .ok (.getfield 22, 3) := by decide +kernel
theorem dX2_copyUnused_36 : decode cX2_copyUnused 36 = .ok (.iload_n 2, 1) := by decide +kernel
theorem dX2_copyUnused_37 : decode cX2_copyUnused 37 = .ok (.aload_n 1, 1) := by decide +kernel
theorem dX2_copyUnused_38 : decode cX2_copyUnused 38 = .ok (.getfield 22, 3) := by decide +kernel
theorem dX2_copyUnused_41 : decode cX2_copyUnused 41 = .ok (.iload_n 2, 1) := by decide +kernel
theorem dX2_copyUnused_42 : decode cX2_copyUnused 42 = .ok (.baload, 1) := by decide +kernel
theorem dX2_copyUnused_43 : decode cX2_copyUnused 43 = .ok (.bastore, 1) := by decide +kernel
theorem dX2_copyUnused_44 : decode cX2_copyUnused 44 = .ok (.iinc 2 1, 3) := by decide +kernel
theorem dX2_copyUnused_47 : decode cX2_copyUnused 47 = .ok (.goto (-40), 3) := by decide +kernel
theorem dX2_copyUnused_50 : decode cX2_copyUnused 50 = .ok (.return_, 1) := by decide +kernel
theorem dX2_hasFreeSlot_0 : decode cX2_hasFreeSlot 0 = .ok (.aload_n 0, 1) := by decide +kernel
theorem dX2_hasFreeSlot_1 : decode cX2_hasFreeSlot 1 = .ok (.getfield 22, 3) := by decide +kernel
theorem dX2_hasFreeSlot_4 : decode cX2_hasFreeSlot 4 = .ok (.iload_n 1, 1) := by decide +kernel
theorem dX2_hasFreeSlot_5 : decode cX2_hasFreeSlot 5 = .ok (.baload, 1) := by decide +kernel
theorem dX2_hasFreeSlot_6 : decode cX2_hasFreeSlot 6 = .ok (.ifCond .eq 22, 3) := by decide +kernel
theorem dX2_hasFreeSlot_9 : decode cX2_hasFreeSlot 9 = .ok (.aload_n 0, 1) := by decide +kernel
theorem dX2_hasFreeSlot_10 : decode cX2_hasFreeSlot 10 = .ok (.getfield 26, 3) := by decide +kernel
theorem dX2_hasFreeSlot_13 : decode cX2_hasFreeSlot 13 = .ok (.iload_n 1, 1) := by decide +kernel
theorem dX2_hasFreeSlot_14 : decode cX2_hasFreeSlot 14 = .ok (.iaload, 1) := by decide +kernel
theorem dX2_hasFreeSlot_15 : decode cX2_hasFreeSlot 15 = .ok (.aload_n 0, 1) := by decide +kernel
theorem dX2_hasFreeSlot_16 : decode cX2_hasFreeSlot 16 = .ok (.getfield 19, 3) := by decide +kernel
theorem dX2_hasFreeSlot_19 : decode cX2_hasFreeSlot 19 = .ok (.iload_n 1, 1) := by decide +kernel
theorem dX2_hasFreeSlot_20 : decode cX2_hasFreeSlot 20 = .ok (.iaload, 1) := by decide +kernel
theorem dX2_hasFreeSlot_21 : decode cX2_hasFreeSlot 21 = .ok (.if_icmp .ge 7, 3) := by decide +kernel
theorem dX2_hasFreeSlot_24 : decode cX2_hasFreeSlot 24 = .ok (.iconst 1, 1) := by decide +kernel
theorem dX2_hasFreeSlot_25 : decode cX2_hasFreeSlot 25 = .ok (.goto 4, 3) := by decide +kernel
theorem dX2_hasFreeSlot_28 : decode cX2_hasFreeSlot 28 = .ok (.iconst 0, 1) := by decide +kernel
theorem dX2_hasFreeSlot_29 : decode cX2_hasFreeSlot 29 = .ok (.ireturn, 1) := by decide +kernel
theorem dX2_score_0 : decode cX2_score 0 = .ok (.aload_n 0, 1) := by decide +kernel
theorem dX2_score_1 : decode cX2_score 1 = .ok (.getfield 32, 3) := by decide +kernel
theorem dX2_score_4 : decode cX2_score 4 = .ok (.iload_n 1, 1) := by decide +kernel
theorem dX2_score_5 : decode cX2_score 5 = .ok (.iaload, 1) := by decide +kernel
theorem dX2_score_6 : decode cX2_score 6 = .ok (.ifCond .le 19, 3) := by decide +kernel
theorem dX2_score_9 : decode cX2_score 9 = .ok (.aload_n 0, 1) := by decide +kernel
theorem dX2_score_10 : decode cX2_score 10 = .ok (.getfield 29, 3) := by decide +kernel
theorem dX2_score_13 : decode cX2_score 13 = .ok (.iload_n 1, 1) := by decide +kernel
theorem dX2_score_14 : decode cX2_score 14 = .ok (.iaload, 1) := by decide +kernel
theorem dX2_score_15 : decode cX2_score 15 = .ok (.aload_n 0, 1) := by decide +kernel
theorem dX2_score_16 : decode cX2_score 16 = .ok (.getfield 32, 3) := by decide +kernel
theorem dX2_score_19 : decode cX2_score 19 = .ok (.iload_n 1, 1) := by decide +kernel
theorem dX2_score_20 : decode cX2_score 20 = .ok (.iaload, 1) := by decide +kernel
theorem dX2_score_21 : decode cX2_score 21 = .ok (.idiv, 1) := by decide +kernel
theorem dX2_score_22 : decode cX2_score 22 = .ok (.goto 4, 3) := by decide +kernel
theorem dX2_score_25 : decode cX2_score 25 = .ok (.iconst 0, 1) := by decide +kernel
theorem dX2_score_26 : decode cX2_score 26 = .ok (.ireturn, 1) := by decide +kernel
theorem dX2_isSlow_0 : decode cX2_isSlow 0 = .ok (.aload_n 0, 1) := by decide +kernel
theorem dX2_isSlow_1 : decode cX2_isSlow 1 = .ok (.getfield 32, 3) := by decide +kernel
theorem dX2_isSlow_4 : decode cX2_isSlow 4 = .ok (.iload_n 1, 1) := by decide +kernel
theorem dX2_isSlow_5 : decode cX2_isSlow 5 = .ok (.iaload, 1) := by decide +kernel
theorem dX2_isSlow_6 : decode cX2_isSlow 6 = .ok (.ifCond .le 24, 3) := by decide +kernel
theorem dX2_isSlow_9 : decode cX2_isSlow 9 = .ok (.aload_n 0, 1) := by decide +kernel
theorem dX2_isSlow_10 : decode cX2_isSlow 10 = .ok (.iload_n 1, 1) := by decide +kernel
theorem dX2_isSlow_11 : decode cX2_isSlow 11 = .ok (.invokevirtual 39, 3) := by decide +kernel
theorem dX2_isSlow_14 : decode cX2_isSlow 14 = .ok (.bipush 100, 2) := by decide +kernel
theorem dX2_isSlow_16 : decode cX2_isSlow 16 = .ok (.imul, 1) := by decide +kernel
theorem dX2_isSlow_17 : decode cX2_isSlow 17 = .ok (.aload_n 0, 1) := by decide +kernel
theorem dX2_isSlow_18 : decode cX2_isSlow 18 = .ok (.invokevirtual 43, 3) := by decide +kernel
theorem dX2_isSlow_21 : decode cX2_isSlow 21 = .ok (.iload_n 2, 1) := by decide +kernel
theorem dX2_isSlow_22 : decode cX2_isSlow 22 = .ok (.imul, 1) := by decide +kernel
theorem dX2_isSlow_23 : decode cX2_isSlow 23 = .ok (.if_icmp .ge 7, 3) := by decide +kernel
theorem dX2_isSlow_26 : decode cX2_isSlow 26 = .ok (.iconst 1, 1) := by decide +kernel
theorem dX2_isSlow_27 : decode cX2_isSlow 27 = .ok (.goto 4, 3) := by decide +kernel
theorem dX2_isSlow_30 : decode cX2_isSlow 30 = .ok (.iconst 0, 1) := by decide +kernel
theorem dX2_isSlow_31 : decode cX2_isSlow 31 = .ok (.ireturn, 1) := by decide +kernel
theorem dX2_meanScore_0 : decode cX2_meanScore 0 = .ok (.iconst 0, 1) := by decide +kernel
theorem dX2_meanScore_1 : decode cX2_meanScore 1 = .ok (.istore_n 1, 1) := by decide +kernel
theorem dX2_meanScore_2 : decode cX2_meanScore 2 = .ok (.iconst 0, 1) := by decide +kernel
theorem dX2_meanScore_3 : decode cX2_meanScore 3 = .ok (.istore_n 2, 1) := by decide +kernel
theorem dX2_meanScore_4 : decode cX2_meanScore 4 = .ok (.iconst 0, 1) := by decide +kernel
theorem dX2_meanScore_5 : decode cX2_meanScore 5 = .ok (.istore_n 3, 1) := by decide +kernel
theorem dX2_meanScore_6 : decode cX2_meanScore 6 = .ok (.iload_n 3, 1) := by decide +kernel
theorem dX2_meanScore_7 : decode cX2_meanScore 7 = .ok (.aload_n 0, 1) := by decide +kernel
theorem dX2_meanScore_8 : decode cX2_meanScore 8 = .ok (.getfield 9, 3) := by decide +kernel
theorem dX2_meanScore_11 : decode cX2_meanScore 11 = .ok (.if_icmp .ge 38, 3) := by decide +kernel
theorem dX2_meanScore_14 : decode cX2_meanScore 14 = .ok (.aload_n 0, 1) := by decide +kernel
theorem dX2_meanScore_15 : decode cX2_meanScore 15 = .ok (.getfield 22, 3) := by decide +kernel
theorem dX2_meanScore_18 : decode cX2_meanScore 18 = .ok (.iload_n 3, 1) := by decide +kernel
theorem dX2_meanScore_19 : decode cX2_meanScore 19 = .ok (.baload, 1) := by decide +kernel
theorem dX2_meanScore_20 : decode cX2_meanScore 20 = .ok (.ifCond .eq 23, 3) := by decide +kernel
theorem dX2_meanScore_23 : decode cX2_meanScore 23 = .ok (.aload_n 0, 1) := by decide +kernel
theorem dX2_meanScore_24 : decode cX2_meanScore 24 = .ok (.getfield 32, 3) := by decide +kernel
theorem dX2_meanScore_27 : decode cX2_meanScore 27 = .ok (.iload_n 3, 1) := by decide +kernel
theorem dX2_meanScore_28 : decode cX2_meanScore 28 = .ok (.iaload, 1) := by decide +kernel
theorem dX2_meanScore_29 : decode cX2_meanScore 29 = .ok (.ifCond .le 14, 3) := by decide +kernel
theorem dX2_meanScore_32 : decode cX2_meanScore 32 = .ok (.iload_n 1, 1) := by decide +kernel
theorem dX2_meanScore_33 : decode cX2_meanScore 33 = .ok (.aload_n 0, 1) := by decide +kernel
theorem dX2_meanScore_34 : decode cX2_meanScore 34 = .ok (.iload_n 3, 1) := by decide +kernel
theorem dX2_meanScore_35 : decode cX2_meanScore 35 = .ok (.invokevirtual 39, 3) := by decide +kernel
theorem dX2_meanScore_38 : decode cX2_meanScore 38 = .ok (.iadd, 1) := by decide +kernel
theorem dX2_meanScore_39 : decode cX2_meanScore 39 = .ok (.istore_n 1, 1) := by decide +kernel
theorem dX2_meanScore_40 : decode cX2_meanScore 40 = .ok (.iinc 2 1, 3) := by decide +kernel
theorem dX2_meanScore_43 : decode cX2_meanScore 43 = .ok (.iinc 3 1, 3) := by decide +kernel
theorem dX2_meanScore_46 : decode cX2_meanScore 46 = .ok (.goto (-40), 3) := by decide +kernel
theorem dX2_meanScore_49 : decode cX2_meanScore 49 = .ok (.iload_n 2, 1) := by decide +kernel
theorem dX2_meanScore_50 : decode cX2_meanScore 50 = .ok (.ifCond .le 9, 3) := by decide +kernel
theorem dX2_meanScore_53 : decode cX2_meanScore 53 = .ok (.iload_n 1, 1) := by decide +kernel
theorem dX2_meanScore_54 : decode cX2_meanScore 54 = .ok (.iload_n 2, 1) := by decide +kernel
theorem dX2_meanScore_55 : decode cX2_meanScore 55 = .ok (.idiv, 1) := by decide +kernel
theorem dX2_meanScore_56 : decode cX2_meanScore 56 = .ok (.goto 4, 3) := by decide +kernel
theorem dX2_meanScore_59 : decode cX2_meanScore 59 = .ok (.iconst 0, 1) := by decide +kernel
theorem dX2_meanScore_60 : decode cX2_meanScore 60 = .ok (.ireturn, 1) := by decide +kernel
theorem dX3_init_0 : decode cX3_init 0 = .ok (.aload_n 0, 1) := by decide +kernel
theorem dX3_init_1 : decode cX3_init 1 = .ok (.invokespecial 3, 3) := by decide +kernel
theorem dX3_init_4 : decode cX3_init 4 = .ok (.aload_n 0, 1) := by decide +kernel
theorem dX3_init_5 : decode cX3_init 5 = .ok (.iconst 2, 1) := by decide +kernel
theorem dX3_init_6 : decode cX3_init 6 = .ok (.putfield 9, 3) := by decide +kernel
theorem dX3_init_9 : decode cX3_init 9 = .ok (.aload_n 0, 1) := by decide +kernel
theorem dX3_init_10 : decode cX3_init 10 = .ok (.iconst 2, 1) := by decide +kernel
theorem dX3_init_11 : decode cX3_init 11 = .ok (.putfield 15, 3) := by decide +kernel
theorem dX3_init_14 : decode cX3_init 14 = .ok (.aload_n 0, 1) := by decide +kernel
theorem dX3_init_15 : decode cX3_init 15 = .ok (.iconst 3, 1) := by decide +kernel
theorem dX3_init_16 : decode cX3_init 16 = .ok (.putfield 18, 3) := by decide +kernel
theorem dX3_init_19 : decode cX3_init 19 = .ok (.aload_n 0, 1) := by decide +kernel
theorem dX3_init_20 : decode cX3_init 20 = .ok (.bipush 75, 2) := by decide +kernel
theorem dX3_init_22 : decode cX3_init 22 = .ok (.putfield 21, 3) := by decide +kernel
theorem dX3_init_25 : decode cX3_init 25 = .ok (.aload_n 0, 1) := by decide +kernel
theorem dX3_init_26 : decode cX3_init 26 = .ok (.bipush 50, 2) := by decide +kernel
theorem dX3_init_28 : decode cX3_init 28 = .ok (.putfield 24, 3) := by decide +kernel
theorem dX3_init_31 : decode cX3_init 31 = .ok (.return_, 1) := by decide +kernel
theorem dX3_copyWithPolicy_0 : decode cX3_copyWithPolicy 0 = .ok (.aload_n 0, 1) := by decide +kernel
theorem dX3_copyWithPolicy_1 : decode cX3_copyWithPolicy 1 = .ok (.iload_n 2, 1) := by decide +kernel
theorem dX3_copyWithPolicy_2 : decode cX3_copyWithPolicy 2 = .ok (.putfield 9, 3) := by decide +kernel
theorem dX3_copyWithPolicy_5 : decode cX3_copyWithPolicy 5 = .ok (.aload_n 0, 1) := by decide +kernel
theorem dX3_copyWithPolicy_6 : decode cX3_copyWithPolicy 6 = .ok (.aload_n 1, 1) := by decide +kernel
theorem dX3_copyWithPolicy_7 : decode cX3_copyWithPolicy 7 = .ok (.getfield 15, 3) := by decide +kernel
theorem dX3_copyWithPolicy_10 : decode cX3_copyWithPolicy 10 = .ok (.putfield 15, 3) := by decide +kernel
theorem dX3_copyWithPolicy_13 : decode cX3_copyWithPolicy 13 = .ok (.aload_n 0, 1) := by decide +kernel
theorem dX3_copyWithPolicy_14 : decode cX3_copyWithPolicy 14 = .ok (.aload_n 1, 1) := by decide +kernel
theorem dX3_copyWithPolicy_15 : decode cX3_copyWithPolicy 15 = .ok (.getfield 18, 3) := by decide +kernel
theorem dX3_copyWithPolicy_18 : decode cX3_copyWithPolicy 18 = .ok (.putfield 18, 3) := by decide +kernel
theorem dX3_copyWithPolicy_21 : decode cX3_copyWithPolicy 21 = .ok (.aload_n 0, 1) := by decide +kernel
theorem dX3_copyWithPolicy_22 : decode cX3_copyWithPolicy 22 = .ok (.aload_n 1, 1) := by decide +kernel
theorem dX3_copyWithPolicy_23 : decode cX3_copyWithPolicy 23 = .ok (.getfield 21, 3) := by decide +kernel
theorem dX3_copyWithPolicy_26 : decode cX3_copyWithPolicy 26 = .ok (.putfield 21, 3) := by decide +kernel
theorem dX3_copyWithPolicy_29 : decode cX3_copyWithPolicy 29 = .ok (.aload_n 0, 1) := by decide +kernel
theorem dX3_copyWithPolicy_30 : decode cX3_copyWithPolicy 30 = .ok (.aload_n 1, 1) := by decide +kernel
theorem dX3_copyWithPolicy_31 : decode cX3_copyWithPolicy 31 = .ok (.getfield 24, 3) := by decide +kernel
theorem dX3_copyWithPolicy_34 : decode cX3_copyWithPolicy 34 = .ok (.putfield 24, 3) := by decide +kernel
theorem dX3_copyWithPolicy_37 : decode cX3_copyWithPolicy 37 = .ok (.return_, 1) := by decide +kernel
theorem dX4_init_0 : decode cX4_init 0 = .ok (.aload_n 0, 1) := by decide +kernel
theorem dX4_init_1 : decode cX4_init 1 = .ok (.invokespecial 3, 3) := by decide +kernel
theorem dX4_init_4 : decode cX4_init 4 = .ok (.aload_n 0, 1) := by decide +kernel
theorem dX4_init_5 : decode cX4_init 5 = .ok (.iconst 0, 1) := by decide +kernel
theorem dX4_init_6 : decode cX4_init 6 = .ok (.putfield 9, 3) := by decide +kernel
theorem dX4_init_9 : decode cX4_init 9 = .ok (.aload_n 0, 1) := by decide +kernel
theorem dX4_init_10 : decode cX4_init 10 = .ok (.bipush 24, 2) := by decide +kernel
theorem dX4_init_12 : decode cX4_init 12 = .ok (.newarray .int, 2) := by decide +kernel
theorem dX4_init_14 : decode cX4_init 14 = .ok (.putfield 15, 3) := by decide +kernel
theorem dX4_init_17 : decode cX4_init 17 = .ok (.aload_n 0, 1) := by decide +kernel
theorem dX4_init_18 : decode cX4_init 18 = .ok (.bipush 24, 2) := by decide +kernel
theorem dX4_init_20 : decode cX4_init 20 = .ok (.newarray .int, 2) := by decide +kernel
theorem dX4_init_22 : decode cX4_init 22 = .ok (.putfield 19, 3) := by decide +kernel
theorem dX4_init_25 : decode cX4_init 25 = .ok (.aload_n 0, 1) := by decide +kernel
theorem dX4_init_26 : decode cX4_init 26 = .ok (.bipush 24, 2) := by decide +kernel
theorem dX4_init_28 : decode cX4_init 28 = .ok (.newarray .int, 2) := by decide +kernel
theorem dX4_init_30 : decode cX4_init 30 = .ok (.putfield 22, 3) := by decide +kernel
theorem dX4_init_33 : decode cX4_init 33 = .ok (.aload_n 0, 1) := by decide +kernel
theorem dX4_init_34 : decode cX4_init 34 = .ok (.bipush 24, 2) := by decide +kernel
theorem dX4_init_36 : decode cX4_init 36 = .ok (.newarray .int, 2) := by decide +kernel
theorem dX4_init_38 : decode cX4_init 38 = .ok (.putfield 25, 3) := by decide +kernel
theorem dX4_init_41 : decode cX4_init 41 = .ok (.return_, 1) := by decide +kernel
theorem dX4_has_0 : decode cX4_has 0 = .ok (.iload_n 1, 1) := by decide +kernel
theorem dX4_has_1 : decode cX4_has 1 = .ok (.ifCond .lt 15, 3) := by decide +kernel
theorem dX4_has_4 : decode cX4_has 4 = .ok (.iload_n 1, 1) := by decide +kernel
theorem dX4_has_5 : decode cX4_has 5 = .ok (.aload_n 0, 1) := by decide +kernel
theorem dX4_has_6 : decode cX4_has 6 = .ok (.getfield 9, 3) := by decide +kernel
theorem dX4_has_9 : decode cX4_has 9 = .ok (.if_icmp .ge 7, 3) := by decide +kernel
theorem dX4_has_12 : decode cX4_has 12 = .ok (.iconst 1, 1) := by decide +kernel
theorem dX4_has_13 : decode cX4_has 13 = .ok (.goto 4, 3) := by decide +kernel
theorem dX4_has_16 : decode cX4_has 16 = .ok (.iconst 0, 1) := by decide +kernel
theorem dX4_has_17 : decode cX4_has 17 = .ok (.ireturn, 1) := by decide +kernel
theorem dX4_add_0 : decode cX4_add 0 = .ok (.aload_n 0, 1) := by decide +kernel
theorem dX4_add_1 : decode cX4_add 1 = .ok (.getfield 9, 3) := by decide +kernel
theorem dX4_add_4 : decode cX4_add 4 = .ok (.bipush 24, 2) := by decide +kernel
theorem dX4_add_6 : decode cX4_add 6 = .ok (.if_icmp .lt 6, 3) := by decide +kernel
theorem dX4_add_9 : decode cX4_add 9 = .ok (.bipush (-5), 2) := by decide +kernel
theorem dX4_add_11 : decode cX4_add 11 = .ok (.ireturn, 1) := by decide +kernel
theorem dX4_add_12 : decode cX4_add 12 = .ok (.aload_n 0, 1) := by decide +kernel
theorem dX4_add_13 : decode cX4_add 13 = .ok (.getfield 9, 3) := by decide +kernel
theorem dX4_add_16 : decode cX4_add 16 = .ok (.istore_n 2, 1) := by decide +kernel
theorem dX4_add_17 : decode cX4_add 17 = .ok (.aload_n 0, 1) := by decide +kernel
theorem dX4_add_18 : decode cX4_add 18 = .ok (.dup, 1) := by decide +kernel
theorem dX4_add_19 : decode cX4_add 19 = .ok (.getfield 9, 3) := by decide +kernel
theorem dX4_add_22 : decode cX4_add 22 = .ok (.iconst 1, 1) := by decide +kernel
theorem dX4_add_23 : decode cX4_add 23 = .ok (.iadd, 1) := by decide +kernel
theorem dX4_add_24 : decode cX4_add 24 = .ok (.putfield 9, 3) := by decide +kernel
theorem dX4_add_27 : decode cX4_add 27 = .ok (.aload_n 0, 1) := by decide +kernel
theorem dX4_add_28 : decode cX4_add 28 = .ok (.getfield 15, 3) := by decide +kernel
theorem dX4_add_31 : decode cX4_add 31 = .ok (.iload_n 2, 1) := by decide +kernel
theorem dX4_add_32 : decode cX4_add 32 = .ok (.iload_n 1, 1) := by decide +kernel
theorem dX4_add_33 : decode cX4_add 33 = .ok (.iastore, 1) := by decide +kernel
theorem dX4_add_34 : decode cX4_add 34 = .ok (.aload_n 0, 1) := by decide +kernel
theorem dX4_add_35 : decode cX4_add 35 = .ok (.getfield 19, 3) := by decide +kernel
theorem dX4_add_38 : decode cX4_add 38 = .ok (.iload_n 2, 1) := by decide +kernel
theorem dX4_add_39 : decode cX4_add 39 = .ok (.iconst 0, 1) := by decide +kernel
theorem dX4_add_40 : decode cX4_add 40 = .ok (.iastore, 1) := by decide +kernel
theorem dX4_add_41 : decode cX4_add 41 = .ok (.aload_n 0, 1) := by decide +kernel
theorem dX4_add_42 : decode cX4_add 42 = .ok (.getfield 22, 3) := by decide +kernel
theorem dX4_add_45 : decode cX4_add 45 = .ok (.iload_n 2, 1) := by decide +kernel
theorem dX4_add_46 : decode cX4_add 46 = .ok (.bipush (-6), 2) := by decide +kernel
theorem dX4_add_48 : decode cX4_add 48 = .ok (.iastore, 1) := by decide +kernel
theorem dX4_add_49 : decode cX4_add 49 = .ok (.aload_n 0, 1) := by decide +kernel
theorem dX4_add_50 : decode cX4_add 50 = .ok (.getfield 25, 3) := by decide +kernel
theorem dX4_add_53 : decode cX4_add 53 = .ok (.iload_n 2, 1) := by decide +kernel
theorem dX4_add_54 : decode cX4_add 54 = .ok (.bipush (-6), 2) := by decide +kernel
theorem dX4_add_56 : decode cX4_add 56 = .ok (.iastore, 1) := by decide +kernel
theorem dX4_add_57 : decode cX4_add 57 = .ok (.iload_n 2, 1) := by decide +kernel
theorem dX4_add_58 : decode cX4_add 58 = .ok (.ireturn, 1) := by decide +kernel
theorem dX4_copyUnused_0 : decode cX4_copyUnused 0 = .ok (.aload_n 0, 1) := by decide +kernel
theorem dX4_copyUnused_1 : decode cX4_copyUnused 1 = .ok (.iconst 0, 1) := by decide +kernel
theorem dX4_copyUnused_2 : decode cX4_copyUnused 2 = .ok (.putfield 9, 3) := by decide +kernel
theorem dX4_copyUnused_5 : decode cX4_copyUnused 5 = .ok (.iconst 0, 1) := by decide +kernel
theorem dX4_copyUnused_6 : decode cX4_copyUnused 6 = .ok (.istore_n 2, 1) := by decide +kernel
theorem dX4_copyUnused_7 : decode cX4_copyUnused 7 = .ok (.iload_n 2, 1) := by decide +kernel
theorem dX4_copyUnused_8 : decode cX4_copyUnused 8 = .ok (.aload_n 1, 1) := by decide +kernel
theorem dX4_copyUnused_9 : decode cX4_copyUnused 9 = .ok (.getfield 9, 3) := by decide +kernel
theorem dX4_copyUnused_12 : decode cX4_copyUnused 12 = .ok (.if_icmp .ge 20, 3) := by decide +kernel
theorem dX4_copyUnused_15 : decode cX4_copyUnused 15 = .ok (.aload_n 0, 1) := by decide +kernel
theorem dX4_copyUnused_16 : decode cX4_copyUnused 16 = .ok (.aload_n 1, 1) := by decide +kernel
theorem dX4_copyUnused_17 : decode cX4_copyUnused 17 = .ok (.getfield 15, 3) := by decide +kernel
theorem dX4_copyUnused_20 : decode cX4_copyUnused 20 = .ok (.iload_n 2, 1) := by decide +kernel
theorem dX4_copyUnused_21 : decode cX4_copyUnused 21 = .ok (.iaload, 1) := by decide +kernel
theorem dX4_copyUnused_22 : decode cX4_copyUnused 22 = .ok (.invokevirtual 28, 3) := by decide +kernel
theorem dX4_copyUnused_25 : decode cX4_copyUnused 25 = .ok (.pop, 1) := by decide +kernel
theorem dX4_copyUnused_26 : decode cX4_copyUnused 26 = .ok (.iinc 2 1, 3) := by decide +kernel
theorem dX4_copyUnused_29 : decode cX4_copyUnused 29 = .ok (.goto (-22), 3) := by decide +kernel
theorem dX4_copyUnused_32 : decode cX4_copyUnused 32 = .ok (.return_, 1) := by decide +kernel
theorem dX4_stateOf_0 : decode cX4_stateOf 0 = .ok (.aload_n 0, 1) := by decide +kernel
theorem dX4_stateOf_1 : decode cX4_stateOf 1 = .ok (.getfield 22, 3) := by decide +kernel
theorem dX4_stateOf_4 : decode cX4_stateOf 4 = .ok (.iload_n 1, 1) := by decide +kernel
theorem dX4_stateOf_5 : decode cX4_stateOf 5 = .ok (.iaload, 1) := by decide +kernel
theorem dX4_stateOf_6 : decode cX4_stateOf 6 = .ok (.bipush (-6), 2) := by decide +kernel
theorem dX4_stateOf_8 : decode cX4_stateOf 8 = .ok (.if_icmp .eq 5, 3) := by decide +kernel
theorem dX4_stateOf_11 : decode cX4_stateOf 11 = .ok (.iconst 2, 1) := by decide +kernel
theorem dX4_stateOf_12 : decode cX4_stateOf 12 = .ok (.ireturn, 1) := by decide +kernel
theorem dX4_stateOf_13 : decode cX4_stateOf 13 = .ok (.aload_n 0, 1) := by decide +kernel
theorem dX4_stateOf_14 : decode cX4_stateOf 14 = .ok (.getfield 19, 3) := by decide +kernel
theorem dX4_stateOf_17 : decode cX4_stateOf 17 = .ok (.iload_n 1, 1) := by decide +kernel
theorem dX4_stateOf_18 : decode cX4_stateOf 18 = .ok (.iaload, 1) := by decide +kernel
theorem dX4_stateOf_19 : decode cX4_stateOf 19 = .ok (.ifCond .le 7, 3) := by decide +kernel
theorem dX4_stateOf_22 : decode cX4_stateOf 22 = .ok (.iconst 1, 1) := by decide +kernel
theorem dX4_stateOf_23 : decode cX4_stateOf 23 = .ok (.goto 4, 3) := by decide +kernel
theorem dX4_stateOf_26 : decode cX4_stateOf 26 = .ok (.iconst 0, 1) := by decide +kernel
theorem dX4_stateOf_27 : decode cX4_stateOf 27 = .ok (.ireturn, 1) := by decide +kernel
theorem dX4_firstWaiting_0 : decode cX4_firstWaiting 0 = .ok (.iconst 0, 1) := by decide +kernel
theorem dX4_firstWaiting_1 : decode cX4_firstWaiting 1 = .ok (.istore_n 1, 1) := by decide +kernel
theorem dX4_firstWaiting_2 : decode cX4_firstWaiting 2 = .ok (.iload_n 1, 1) := by decide +kernel
theorem dX4_firstWaiting_3 : decode cX4_firstWaiting 3 = .ok (.aload_n 0, 1) := by decide +kernel
theorem dX4_firstWaiting_4 : decode cX4_firstWaiting 4 = .ok (.getfield 9, 3) := by decide +kernel
theorem dX4_firstWaiting_7 : decode cX4_firstWaiting 7 = .ok (.if_icmp .ge 19, 3) := by decide +kernel
theorem dX4_firstWaiting_10 : decode cX4_firstWaiting 10 = .ok (.aload_n 0, 1) := by decide +kernel
theorem dX4_firstWaiting_11 : decode cX4_firstWaiting 11 = .ok (.iload_n 1, 1) := by decide +kernel
theorem dX4_firstWaiting_12 : decode cX4_firstWaiting 12 = .ok (.invokevirtual 32, 3) := by decide +kernel
theorem dX4_firstWaiting_15 : decode cX4_firstWaiting 15 = .ok (.ifCond .ne 5, 3) := by decide +kernel
theorem dX4_firstWaiting_18 : decode cX4_firstWaiting 18 = .ok (.iload_n 1, 1) := by decide +kernel
theorem dX4_firstWaiting_19 : decode cX4_firstWaiting 19 = .ok (.ireturn, 1) := by decide +kernel
theorem dX4_firstWaiting_20 : decode cX4_firstWaiting 20 = .ok (.iinc 1 1, 3) := by decide +kernel
theorem dX4_firstWaiting_23 : decode cX4_firstWaiting 23 = .ok (.goto (-21), 3) := by decide +kernel
theorem dX4_firstWaiting_26 : decode cX4_firstWaiting 26 = .ok (.bipush (-6), 2) := by decide +kernel
theorem dX4_firstWaiting_28 : decode cX4_firstWaiting 28 = .ok (.ireturn, 1) := by decide +kernel
theorem dX4_lastFinish_0 : decode cX4_lastFinish 0 = .ok (.bipush (-6), 2) := by decide +kernel
theorem dX4_lastFinish_2 : decode cX4_lastFinish 2 = .ok (.istore_n 1, 1) := by decide +kernel
theorem dX4_lastFinish_3 : decode cX4_lastFinish 3 = .ok (.iconst 0, 1) := by decide +kernel
theorem dX4_lastFinish_4 : decode cX4_lastFinish 4 = .ok (.istore_n 2, 1) := by decide +kernel
theorem dX4_lastFinish_5 : decode cX4_lastFinish 5 = .ok (.iload_n 2, 1) := by decide +kernel
theorem dX4_lastFinish_6 : decode cX4_lastFinish 6 = .ok (.aload_n 0, 1) := by decide +kernel
theorem dX4_lastFinish_7 : decode cX4_lastFinish 7 = .ok (.getfield 9, 3) := by decide +kernel
theorem dX4_lastFinish_10 : decode cX4_lastFinish 10 = .ok (.if_icmp .ge 34, 3) := by decide +kernel
theorem dX4_lastFinish_13 : decode cX4_lastFinish 13 = .ok (.aload_n 0, 1) := by decide +kernel
theorem dX4_lastFinish_14 : decode cX4_lastFinish 14 = .ok (.getfield 22, 3) := by decide +kernel
theorem dX4_lastFinish_17 : decode cX4_lastFinish 17 = .ok (.iload_n 2, 1) := by decide +kernel
theorem dX4_lastFinish_18 : decode cX4_lastFinish 18 = .ok (.iaload, 1) := by decide +kernel
theorem dX4_lastFinish_19 : decode cX4_lastFinish 19 = .ok (.bipush (-6), 2) := by decide +kernel
theorem dX4_lastFinish_21 : decode cX4_lastFinish 21 = .ok (.if_icmp .ne 6, 3) := by decide +kernel
theorem dX4_lastFinish_24 : decode cX4_lastFinish 24 = .ok (.bipush (-6), 2) := by decide +kernel
theorem dX4_lastFinish_26 : decode cX4_lastFinish 26 = .ok (.ireturn, 1) := by decide +kernel
theorem dX4_lastFinish_27 : decode cX4_lastFinish 27 = .ok (.iload_n 1, 1) := by decide +kernel
theorem dX4_lastFinish_28 : decode cX4_lastFinish 28 = .ok (.aload_n 0, 1) := by decide +kernel
theorem dX4_lastFinish_29 : decode cX4_lastFinish 29 = .ok (.getfield 25, 3) := by decide +kernel
theorem dX4_lastFinish_32 : decode cX4_lastFinish 32 = .ok (.iload_n 2, 1) := by decide +kernel
theorem dX4_lastFinish_33 : decode cX4_lastFinish 33 = .ok (.iaload, 1) := by decide +kernel
theorem dX4_lastFinish_34 : decode cX4_lastFinish 34 = .ok (.invokestatic 35, 3) := by decide +kernel
theorem dX4_lastFinish_37 : decode cX4_lastFinish 37 = .ok (.istore_n 1, 1) := by decide +kernel
theorem dX4_lastFinish_38 : decode cX4_lastFinish 38 = .ok (.iinc 2 1, 3) := by decide +kernel
theorem dX4_lastFinish_41 : decode cX4_lastFinish 41 = .ok (.goto (-36), 3) := by decide +kernel
theorem dX4_lastFinish_44 : decode cX4_lastFinish 44 = .ok (.iload_n 1, 1) := by decide +kernel
theorem dX4_lastFinish_45 : decode cX4_lastFinish 45 = .ok (.ireturn, 1) := by decide +kernel
theorem dX5_init_0 : decode cX5_init 0 = .ok (.aload_n 0, 1) := by decide +kernel
theorem dX5_init_1 : decode cX5_init 1 = .ok (.invokespecial 3, 3) := by decide +kernel
theorem dX5_init_4 : decode cX5_init 4 = .ok (.aload_n 0, 1) := by decide +kernel
theorem dX5_init_5 : decode cX5_init 5 = .ok (.new 9, 3) := by decide +kernel
theorem dX5_init_8 : decode cX5_init 8 = .ok (.dup, 1) := by decide +kernel
theorem dX5_init_9 : decode cX5_init 9 = .ok (.invokespecial 11, 3) := by decide +kernel
theorem dX5_init_12 : decode cX5_init 12 = .ok (.putfield 12, 3) := by decide +kernel
theorem dX5_init_15 : decode cX5_init 15 = .ok (.aload_n 0, 1) := by decide +kernel
theorem dX5_init_16 : decode cX5_init 16 = .ok (.new 9, 3) := by decide +kernel
theorem dX5_init_19 : decode cX5_init 19 = .ok (.dup, 1) := by decide +kernel
theorem dX5_init_20 : decode cX5_init 20 = .ok (.invokespecial 11, 3) := by decide +kernel
theorem dX5_init_23 : decode cX5_init 23 = .ok (.putfield 16, 3) := by decide +kernel
theorem dX5_init_26 : decode cX5_init 26 = .ok (.return_, 1) := by decide +kernel
theorem dX5_addNode_0 : decode cX5_addNode 0 = .ok (.iload_n 1, 1) := by decide +kernel
theorem dX5_addNode_1 : decode cX5_addNode 1 = .ok (.iconst 0, 1) := by decide +kernel
theorem dX5_addNode_2 : decode cX5_addNode 2 = .ok (.bipush 100, 2) := by decide +kernel
theorem dX5_addNode_4 : decode cX5_addNode 4 = .ok (.invokestatic 19, 3) := by decide +kernel
theorem dX5_addNode_7 : decode cX5_addNode 7 = .ok (.ifCond .eq 12, 3) := by decide +kernel
theorem dX5_addNode_10 : decode cX5_addNode 10 = .ok (.iload_n 2, 1) := by decide +kernel
theorem dX5_addNode_11 : decode cX5_addNode 11 = .ok (.iconst 1, 1) := by decide +kernel
theorem dX5_addNode_12 : decode cX5_addNode 12 = .ok (.iconst 4, 1) := by decide +kernel
theorem dX5_addNode_13 : decode cX5_addNode 13 = .ok (.invokestatic 19, 3) := by decide +kernel
theorem dX5_addNode_16 : decode cX5_addNode 16 = .ok (.ifCond .ne 6, 3) := by decide +kernel
theorem dX5_addNode_19 : decode cX5_addNode 19 = .ok (.bipush (-4), 2) := by decide +kernel
theorem dX5_addNode_21 : decode cX5_addNode 21 = .ok (.ireturn, 1) := by decide +kernel
theorem dX5_addNode_22 : decode cX5_addNode 22 = .ok (.aload_n 0, 1) := by decide +kernel
theorem dX5_addNode_23 : decode cX5_addNode 23 = .ok (.getfield 12, 3) := by decide +kernel
theorem dX5_addNode_26 : decode cX5_addNode 26 = .ok (.getfield 23, 3) := by decide +kernel
theorem dX5_addNode_29 : decode cX5_addNode 29 = .ok (.iload_n 1, 1) := by decide +kernel
theorem dX5_addNode_30 : decode cX5_addNode 30 = .ok (.iload_n 2, 1) := by decide +kernel
theorem dX5_addNode_31 : decode cX5_addNode 31 = .ok (.invokevirtual 27, 3) := by decide +kernel
theorem dX5_addNode_34 : decode cX5_addNode 34 = .ok (.ireturn, 1) := by decide +kernel
theorem dX5_setSpeed_0 : decode cX5_setSpeed 0 = .ok (.aload_n 0, 1) := by decide +kernel
theorem dX5_setSpeed_1 : decode cX5_setSpeed 1 = .ok (.getfield 12, 3) := by decide +kernel
theorem dX5_setSpeed_4 : decode cX5_setSpeed 4 = .ok (.getfield 23, 3) := by decide +kernel
theorem dX5_setSpeed_7 : decode cX5_setSpeed 7 = .ok (.iload_n 1, 1) := by decide +kernel
theorem dX5_setSpeed_8 : decode cX5_setSpeed 8 = .ok (.invokevirtual 33, 3) := by decide +kernel
theorem dX5_setSpeed_11 : decode cX5_setSpeed 11 = .ok (.ifCond .ne 5, 3) := by decide +kernel
theorem dX5_setSpeed_14 : decode cX5_setSpeed 14 = .ok (.iconst (-1), 1) := by decide +kernel
theorem dX5_setSpeed_15 : decode cX5_setSpeed 15 = .ok (.ireturn, 1) := by decide +kernel
theorem dX5_setSpeed_16 : decode cX5_setSpeed 16 = .ok (.iload_n 2, 1) := by decide +kernel
theorem dX5_setSpeed_17 : decode cX5_setSpeed 17 = .ok (.iconst 0, 1) := by decide +kernel
theorem dX5_setSpeed_18 : decode cX5_setSpeed 18 = .ok (.bipush 100, 2) := by decide +kernel
theorem dX5_setSpeed_20 : decode cX5_setSpeed 20 = .ok (.invokestatic 19, 3) := by decide +kernel
theorem dX5_setSpeed_23 : decode cX5_setSpeed 23 = .ok (.ifCond .ne 6, 3) := by decide +kernel
theorem dX5_setSpeed_26 : decode cX5_setSpeed 26 = .ok (.bipush (-4), 2) := by decide +kernel
theorem dX5_setSpeed_28 : decode cX5_setSpeed 28 = .ok (.ireturn, 1) := by decide +kernel
theorem dX5_setSpeed_29 : decode cX5_setSpeed 29 = .ok (.aload_n 0, 1) := by decide +kernel
theorem dX5_setSpeed_30 : decode cX5_setSpeed 30 = .ok (.getfield 12, 3) := by decide +kernel
theorem dX5_setSpeed_33 : decode cX5_setSpeed 33 = .ok (.getfield 23, 3) := by decide +kernel
theorem dX5_setSpeed_36 : decode cX5_setSpeed 36 = .ok (.getfield 37, 3) := by decide +kernel
theorem dX5_setSpeed_39 : decode cX5_setSpeed 39 = .ok (.iload_n 1, 1) := by decide +kernel
theorem dX5_setSpeed_40 : decode cX5_setSpeed 40 = .ok (.iaload, 1) := by decide +kernel
theorem dX5_setSpeed_41 : decode cX5_setSpeed 41 = .ok (.istore_n 3, 1) := by decide +kernel
theorem dX5_setSpeed_42 : decode cX5_setSpeed 42 = .ok (.aload_n 0, 1) := by decide +kernel
theorem dX5_setSpeed_43 : decode cX5_setSpeed 43 = .ok (.getfield 12, 3) := by decide +kernel
theorem dX5_setSpeed_46 : decode cX5_setSpeed 46 = .ok (.getfield 23, 3) := by decide +kernel
theorem dX5_setSpeed_49 : decode cX5_setSpeed 49 = .ok (.getfield 37, 3) := by decide +kernel
theorem dX5_setSpeed_52 : decode cX5_setSpeed 52 = .ok (.iload_n 1, 1) := by decide +kernel
theorem dX5_setSpeed_53 : decode cX5_setSpeed 53 = .ok (.iload_n 2, 1) := by decide +kernel
theorem dX5_setSpeed_54 : decode cX5_setSpeed 54 = .ok (.iastore, 1) := by decide +kernel
theorem dX5_setSpeed_55 : decode cX5_setSpeed 55 = .ok (.iload_n 3, 1) := by decide +kernel
theorem dX5_setSpeed_56 : decode cX5_setSpeed 56 = .ok (.ireturn, 1) := by decide +kernel
theorem dX5_failNode_0 : decode cX5_failNode 0 = .ok (.aload_n 0, 1) := by decide +kernel
theorem dX5_failNode_1 : decode cX5_failNode 1 = .ok (.getfield 12, 3) := by decide +kernel
theorem dX5_failNode_4 : decode cX5_failNode 4 = .ok (.getfield 23, 3) := by decide +kernel
theorem dX5_failNode_7 : decode cX5_failNode 7 = .ok (.iload_n 1, 1) := by decide +kernel
theorem dX5_failNode_8 : decode cX5_failNode 8 = .ok (.invokevirtual 33, 3) := by decide +kernel
theorem dX5_failNode_11 : decode cX5_failNode 11 = .ok (.ifCond .ne 5, 3) := by decide +kernel
theorem dX5_failNode_14 : decode cX5_failNode 14 = .ok (.iconst (-1), 1) := by decide +kernel
theorem dX5_failNode_15 : decode cX5_failNode 15 = .ok (.ireturn, 1) := by decide +kernel
theorem dX5_failNode_16 : decode cX5_failNode 16 = .ok (.aload_n 0, 1) := by decide +kernel
theorem dX5_failNode_17 : decode cX5_failNode 17 = .ok (.getfield 12, 3) := by decide +kernel
theorem dX5_failNode_20 : decode cX5_failNode 20 = .ok (.getfield 23, 3) := by decide +kernel
theorem dX5_failNode_23 : decode cX5_failNode 23 = .ok (.getfield 41, 3) := by decide +kernel
theorem dX5_failNode_26 : decode cX5_failNode 26 = .ok (.iload_n 1, 1) := by decide +kernel
theorem dX5_failNode_27 : decode cX5_failNode 27 = .ok (.baload, 1) := by decide +kernel
theorem dX5_failNode_28 : decode cX5_failNode 28 = .ok (.ifCond .ne 6, 3) := by decide +kernel
theorem dX5_failNode_31 : decode cX5_failNode 31 = .ok (.bipush (-6), 2) := by decide +kernel
theorem dX5_failNode_33 : decode cX5_failNode 33 = .ok (.ireturn, 1) := by decide +kernel
theorem dX5_failNode_34 : decode cX5_failNode 34 = .ok (.aload_n 0, 1) := by decide +kernel
theorem dX5_failNode_35 : decode cX5_failNode 35 = .ok (.getfield 12, 3) := by decide +kernel
theorem dX5_failNode_38 : decode cX5_failNode 38 = .ok (.getfield 23, 3) := by decide +kernel
theorem dX5_failNode_41 : decode cX5_failNode 41 = .ok (.getfield 41, 3) := by decide +kernel
theorem dX5_failNode_44 : decode cX5_failNode 44 = .ok (.iload_n 1, 1) := by decide +kernel
theorem dX5_failNode_45 : decode cX5_failNode 45 = .ok (.iconst 0, 1) := by decide +kernel
theorem dX5_failNode_46 : decode cX5_failNode 46 = .ok (.bastore, 1) := by decide +kernel
theorem dX5_failNode_47 : decode cX5_failNode 47 = .ok (.aload_n 0, 1) := by decide +kernel
theorem dX5_failNode_48 : decode cX5_failNode 48 = .ok (.getfield 12, 3) := by decide +kernel
theorem dX5_failNode_51 : decode cX5_failNode 51 = .ok (.iload_n 1, 1) := by decide +kernel
theorem dX5_failNode_52 : decode cX5_failNode 52 = .ok (.invokevirtual 45, 3) := by decide +kernel
theorem dX5_failNode_55 : decode cX5_failNode 55 = .ok (.ireturn, 1) := by decide +kernel
theorem dX5_repairNode_0 : decode cX5_repairNode 0 = .ok (.aload_n 0, 1) := by decide +kernel
theorem dX5_repairNode_1 : decode cX5_repairNode 1 = .ok (.getfield 12, 3) := by decide +kernel
theorem dX5_repairNode_4 : decode cX5_repairNode 4 = .ok (.getfield 23, 3) := by decide +kernel
theorem dX5_repairNode_7 : decode cX5_repairNode 7 = .ok (.iload_n 1, 1) := by decide +kernel
theorem dX5_repairNode_8 : decode cX5_repairNode 8 = .ok (.invokevirtual 33, 3) := by decide +kernel
theorem dX5_repairNode_11 : decode cX5_repairNode 11 = .ok (.ifCond .ne 5, 3) := by decide +kernel
theorem dX5_repairNode_14 : decode cX5_repairNode 14 = .ok (.iconst (-1), 1) := by decide +kernel
theorem dX5_repairNode_15 : decode cX5_repairNode 15 = .ok (.ireturn, 1) := by decide +kernel
theorem dX5_repairNode_16 : decode cX5_repairNode 16 = .ok (.aload_n 0, 1) := by decide +kernel
theorem dX5_repairNode_17 : decode cX5_repairNode 17 = .ok (.getfield 12, 3) := by decide +kernel
theorem dX5_repairNode_20 : decode cX5_repairNode 20 = .ok (.getfield 23, 3) := by decide +kernel
theorem dX5_repairNode_23 : decode cX5_repairNode 23 = .ok (.getfield 41, 3) := by decide +kernel
theorem dX5_repairNode_26 : decode cX5_repairNode 26 = .ok (.iload_n 1, 1) := by decide +kernel
theorem dX5_repairNode_27 : decode cX5_repairNode 27 = .ok (.baload, 1) := by decide +kernel
theorem dX5_repairNode_28 : decode cX5_repairNode 28 = .ok (.ifCond .eq 7, 3) := by decide +kernel
theorem dX5_repairNode_31 : decode cX5_repairNode 31 = .ok (.iconst 0, 1) := by decide +kernel
theorem dX5_repairNode_32 : decode cX5_repairNode 32 = .ok (.goto 4, 3) := by decide +kernel
theorem dX5_repairNode_35 : decode cX5_repairNode 35 = .ok (.iconst 1, 1) := by decide +kernel
theorem dX5_repairNode_36 : decode cX5_repairNode 36 = .ok (.istore_n 2, 1) := by decide +kernel
theorem dX5_repairNode_37 : decode cX5_repairNode 37 = .ok (.aload_n 0, 1) := by decide +kernel
theorem dX5_repairNode_38 : decode cX5_repairNode 38 = .ok (.getfield 12, 3) := by decide +kernel
theorem dX5_repairNode_41 : decode cX5_repairNode 41 = .ok (.getfield 23, 3) := by decide +kernel
theorem dX5_repairNode_44 : decode cX5_repairNode 44 = .ok (.getfield 41, 3) := by decide +kernel
theorem dX5_repairNode_47 : decode cX5_repairNode 47 = .ok (.iload_n 1, 1) := by decide +kernel
theorem dX5_repairNode_48 : decode cX5_repairNode 48 = .ok (.iconst 1, 1) := by decide +kernel
theorem dX5_repairNode_49 : decode cX5_repairNode 49 = .ok (.bastore, 1) := by decide +kernel
theorem dX5_repairNode_50 : decode cX5_repairNode 50 = .ok (.iload_n 2, 1) := by decide +kernel
theorem dX5_repairNode_51 : decode cX5_repairNode 51 = .ok (.ireturn, 1) := by decide +kernel
theorem dX5_addTask_0 : decode cX5_addTask 0 = .ok (.iload_n 1, 1) := by decide +kernel
theorem dX5_addTask_1 : decode cX5_addTask 1 = .ok (.iconst 1, 1) := by decide +kernel
theorem dX5_addTask_2 : decode cX5_addTask 2 = .ok (.sipush 10000, 3) := by decide +kernel
theorem dX5_addTask_5 : decode cX5_addTask 5 = .ok (.invokestatic 19, 3) := by decide +kernel
theorem dX5_addTask_8 : decode cX5_addTask 8 = .ok (.ifCond .ne 6, 3) := by decide +kernel
theorem dX5_addTask_11 : decode cX5_addTask 11 = .ok (.bipush (-4), 2) := by decide +kernel
theorem dX5_addTask_13 : decode cX5_addTask 13 = .ok (.ireturn, 1) := by decide +kernel
theorem dX5_addTask_14 : decode cX5_addTask 14 = .ok (.aload_n 0, 1) := by decide +kernel
theorem dX5_addTask_15 : decode cX5_addTask 15 = .ok (.getfield 12, 3) := by decide +kernel
theorem dX5_addTask_18 : decode cX5_addTask 18 = .ok (.getfield 49, 3) := by decide +kernel
theorem dX5_addTask_21 : decode cX5_addTask 21 = .ok (.iload_n 1, 1) := by decide +kernel
theorem dX5_addTask_22 : decode cX5_addTask 22 = .ok (.invokevirtual 53, 3) := by decide +kernel
theorem dX5_addTask_25 : decode cX5_addTask 25 = .ok (.ireturn, 1) := by decide +kernel
theorem dX5_setPolicy_0 : decode cX5_setPolicy 0 = .ok (.iload_n 1, 1) := by decide +kernel
theorem dX5_setPolicy_1 : decode cX5_setPolicy 1 = .ok (.invokestatic 57, 3) := by decide +kernel
theorem dX5_setPolicy_4 : decode cX5_setPolicy 4 = .ok (.ifCond .ne 6, 3) := by decide +kernel
theorem dX5_setPolicy_7 : decode cX5_setPolicy 7 = .ok (.bipush (-4), 2) := by decide +kernel
theorem dX5_setPolicy_9 : decode cX5_setPolicy 9 = .ok (.ireturn, 1) := by decide +kernel
theorem dX5_setPolicy_10 : decode cX5_setPolicy 10 = .ok (.aload_n 0, 1) := by decide +kernel
theorem dX5_setPolicy_11 : decode cX5_setPolicy 11 = .ok (.getfield 12, 3) := by decide +kernel
theorem dX5_setPolicy_14 : decode cX5_setPolicy 14 = .ok (.getfield 60, 3) := by decide +kernel
theorem dX5_setPolicy_17 : decode cX5_setPolicy 17 = .ok (.getfield 64, 3) := by decide +kernel
theorem dX5_setPolicy_20 : decode cX5_setPolicy 20 = .ok (.istore_n 2, 1) := by decide +kernel
theorem dX5_setPolicy_21 : decode cX5_setPolicy 21 = .ok (.aload_n 0, 1) := by decide +kernel
theorem dX5_setPolicy_22 : decode cX5_setPolicy 22 = .ok (.getfield 12, 3) := by decide +kernel
theorem dX5_setPolicy_25 : decode cX5_setPolicy 25 = .ok (.getfield 60, 3) := by decide +kernel
theorem dX5_setPolicy_28 : decode cX5_setPolicy 28 = .ok (.iload_n 1, 1) := by decide +kernel
theorem dX5_setPolicy_29 : decode cX5_setPolicy 29 = .ok (.putfield 64, 3) := by decide +kernel
theorem dX5_setPolicy_32 : decode cX5_setPolicy 32 = .ok (.iload_n 2, 1) := by decide +kernel
theorem dX5_setPolicy_33 : decode cX5_setPolicy 33 = .ok (.ireturn, 1) := by decide +kernel
theorem dX5_setLimits_0 : decode cX5_setLimits 0 = .ok (.iload_n 1, 1) := by decide +kernel
theorem dX5_setLimits_1 : decode cX5_setLimits 1 = .ok (.iconst 0, 1) := by decide +kernel
theorem dX5_setLimits_2 : decode cX5_setLimits 2 = .ok (.bipush 32, 2) := by decide +kernel
theorem dX5_setLimits_4 : decode cX5_setLimits 4 = .ok (.invokestatic 19, 3) := by decide +kernel
theorem dX5_setLimits_7 : decode cX5_setLimits 7 = .ok (.ifCond .eq 13, 3) := by decide +kernel
theorem dX5_setLimits_10 : decode cX5_setLimits 10 = .ok (.iload_n 2, 1) := by decide +kernel
theorem dX5_setLimits_11 : decode cX5_setLimits 11 = .ok (.iconst 0, 1) := by decide +kernel
theorem dX5_setLimits_12 : decode cX5_setLimits 12 = .ok (.bipush 100, 2) := by decide +kernel
theorem dX5_setLimits_14 : decode cX5_setLimits 14 = .ok (.invokestatic 19, 3) := by decide +kernel
theorem dX5_setLimits_17 : decode cX5_setLimits 17 = .ok (.ifCond .ne 6, 3) := by decide +kernel
theorem dX5_setLimits_20 : decode cX5_setLimits 20 = .ok (.bipush (-4), 2) := by decide +kernel
theorem dX5_setLimits_22 : decode cX5_setLimits 22 = .ok (.ireturn, 1) := by decide +kernel
theorem dX5_setLimits_23 : decode cX5_setLimits 23 = .ok (.aload_n 0, 1) := by decide +kernel
theorem dX5_setLimits_24 : decode cX5_setLimits 24 = .ok (.getfield 12, 3) := by decide +kernel
theorem dX5_setLimits_27 : decode cX5_setLimits 27 = .ok (.getfield 60, 3) := by decide +kernel
theorem dX5_setLimits_30 : decode cX5_setLimits 30 = .ok (.astore_n 3, 1) := by decide +kernel
theorem dX5_setLimits_31 : decode cX5_setLimits 31 = .ok (.aload_n 3, 1) := by decide +kernel
theorem dX5_setLimits_32 : decode cX5_setLimits 32 = .ok (.getfield 70, 3) := by decide +kernel
theorem dX5_setLimits_35 : decode cX5_setLimits 35 = .ok (.iload_n 1, 1) := by decide +kernel
theorem dX5_setLimits_36 : decode cX5_setLimits 36 = .ok (.if_icmp .ne 11, 3) := by decide +kernel
theorem dX5_setLimits_39 : decode cX5_setLimits 39 = .ok (.aload_n 3, 1) := by decide +kernel
theorem dX5_setLimits_40 : decode cX5_setLimits 40 = .ok (.getfield 73, 3) := by decide +kernel
theorem dX5_setLimits_43 : decode cX5_setLimits 43 = .ok (.iload_n 2, 1) := by decide +kernel
theorem dX5_setLimits_44 : decode cX5_setLimits 44 = .ok (.if_icmp .eq 7, 3) := by decide +kernel
theorem dX5_setLimits_47 : decode cX5_setLimits 47 = .ok (.iconst 1, 1) := by decide +kernel
theorem dX5_setLimits_48 : decode cX5_setLimits 48 = .ok (.goto 4, 3) := by decide +kernel
theorem dX5_setLimits_51 : decode cX5_setLimits 51 = .ok (.iconst 0, 1) := by decide +kernel
theorem dX5_setLimits_52 : decode cX5_setLimits 52 = .ok (.istore 4, 2) := by decide +kernel
theorem dX5_setLimits_54 : decode cX5_setLimits 54 = .ok (.aload_n 3, 1) := by decide +kernel
theorem dX5_setLimits_55 : decode cX5_setLimits 55 = .ok (.iload_n 1, 1) := by decide +kernel
theorem dX5_setLimits_56 : decode cX5_setLimits 56 = .ok (.putfield 70, 3) := by decide +kernel
theorem dX5_setLimits_59 : decode cX5_setLimits 59 = .ok (.aload_n 3, 1) := by decide +kernel
theorem dX5_setLimits_60 : decode cX5_setLimits 60 = .ok (.iload_n 2, 1) := by decide +kernel
theorem dX5_setLimits_61 : decode cX5_setLimits 61 = .ok (.putfield 73, 3) := by decide +kernel
theorem dX5_setLimits_64 : decode cX5_setLimits 64 = .ok (.iload 4, 2) := by decide +kernel
theorem dX5_setLimits_66 : decode cX5_setLimits 66 = .ok (.ifCond .eq 7, 3) := by decide +kernel
theorem dX5_setLimits_69 : decode cX5_setLimits 69 = .ok (.iconst 1, 1) := by decide +kernel
theorem dX5_setLimits_70 : decode cX5_setLimits 70 = .ok (.goto 4, 3) := by decide +kernel
theorem dX5_setLimits_73 : decode cX5_setLimits 73 = .ok (.iconst 0, 1) := by decide +kernel
theorem dX5_setLimits_74 : decode cX5_setLimits 74 = .ok (.ireturn, 1) := by decide +kernel
theorem dX5_setThresholds_0 : decode cX5_setThresholds 0 = .ok (.iload_n 1, 1) := by decide +kernel
theorem dX5_setThresholds_1 : decode cX5_setThresholds 1 = .ok (.iconst 1, 1) := by decide +kernel
theorem dX5_setThresholds_2 : decode cX5_setThresholds 2 = .ok (.sipush 200, 3) := by decide +kernel
theorem dX5_setThresholds_5 : decode cX5_setThresholds 5 = .ok (.invokestatic 19, 3) := by decide +kernel
theorem dX5_setThresholds_8 : decode cX5_setThresholds 8 = .ok (.ifCond .eq 14, 3) := by decide +kernel
theorem dX5_setThresholds_11 : decode cX5_setThresholds 11 = .ok (.iload_n 2, 1) := by decide +kernel
theorem dX5_setThresholds_12 : decode cX5_setThresholds 12 = .ok (.iconst 1, 1) := by decide +kernel
theorem dX5_setThresholds_13 : decode cX5_setThresholds 13 = .ok (.sipush 200, 3) := by decide +kernel
theorem dX5_setThresholds_16 : decode cX5_setThresholds 16 = .ok (.invokestatic 19, 3) := by decide +kernel
theorem dX5_setThresholds_19 : decode cX5_setThresholds 19 = .ok (.ifCond .ne 6, 3) := by decide +kernel
theorem dX5_setThresholds_22 : decode cX5_setThresholds 22 = .ok (.bipush (-4), 2) := by decide +kernel
theorem dX5_setThresholds_24 : decode cX5_setThresholds 24 = .ok (.ireturn, 1) := by decide +kernel
theorem dX5_setThresholds_25 : decode cX5_setThresholds 25 = .ok (.aload_n 0, 1) := by decide +kernel
theorem dX5_setThresholds_26 : decode cX5_setThresholds 26 = .ok (.getfield 12, 3) := by decide +kernel
theorem dX5_setThresholds_29 : decode cX5_setThresholds 29 = .ok (.getfield 60, 3) := by decide +kernel
theorem dX5_setThresholds_32 : decode cX5_setThresholds 32 = .ok (.astore_n 3, 1) := by decide +kernel
theorem dX5_setThresholds_33 : decode cX5_setThresholds 33 = .ok (.aload_n 3, 1) := by decide +kernel
theorem dX5_setThresholds_34 : decode cX5_setThresholds 34 = .ok (.getfield 76, 3) := by decide +kernel
theorem dX5_setThresholds_37 : decode cX5_setThresholds 37 = .ok (.iload_n 1, 1) := by decide +kernel
theorem dX5_setThresholds_38 : decode cX5_setThresholds 38 = .ok (.if_icmp .ne 11, 3) := by decide +kernel
theorem dX5_setThresholds_41 : decode cX5_setThresholds 41 = .ok (.aload_n 3, 1) := by decide +kernel
theorem dX5_setThresholds_42 : decode cX5_setThresholds 42 = .ok (.getfield 79, 3) := by decide +kernel
theorem dX5_setThresholds_45 : decode cX5_setThresholds 45 = .ok (.iload_n 2, 1) := by decide +kernel
theorem dX5_setThresholds_46 : decode cX5_setThresholds 46 = .ok (.if_icmp .eq 7, 3) := by decide +kernel
theorem dX5_setThresholds_49 : decode cX5_setThresholds 49 = .ok (.iconst 1, 1) := by decide +kernel
theorem dX5_setThresholds_50 : decode cX5_setThresholds 50 = .ok (.goto 4, 3) := by decide +kernel
theorem dX5_setThresholds_53 : decode cX5_setThresholds 53 = .ok (.iconst 0, 1) := by decide +kernel
theorem dX5_setThresholds_54 : decode cX5_setThresholds 54 = .ok (.istore 4, 2) := by decide +kernel
theorem dX5_setThresholds_56 : decode cX5_setThresholds 56 = .ok (.aload_n 3, 1) := by decide +kernel
theorem dX5_setThresholds_57 : decode cX5_setThresholds 57 = .ok (.iload_n 1, 1) := by decide +kernel
theorem dX5_setThresholds_58 : decode cX5_setThresholds 58 = .ok (.putfield 76, 3) := by decide +kernel
theorem dX5_setThresholds_61 : decode cX5_setThresholds 61 = .ok (.aload_n 3, 1) := by decide +kernel
theorem dX5_setThresholds_62 : decode cX5_setThresholds 62 = .ok (.iload_n 2, 1) := by decide +kernel
theorem dX5_setThresholds_63 : decode cX5_setThresholds 63 = .ok (.putfield 79, 3) := by decide +kernel
theorem dX5_setThresholds_66 : decode cX5_setThresholds 66 = .ok (.iload 4, 2) := by decide +kernel
theorem dX5_setThresholds_68 : decode cX5_setThresholds 68 = .ok (.ifCond .eq 7, 3) := by decide +kernel
theorem dX5_setThresholds_71 : decode cX5_setThresholds 71 = .ok (.iconst 1, 1) := by decide +kernel
theorem dX5_setThresholds_72 : decode cX5_setThresholds 72 = .ok (.goto 4, 3) := by decide +kernel
theorem dX5_setThresholds_75 : decode cX5_setThresholds 75 = .ok (.iconst 0, 1) := by decide +kernel
theorem dX5_setThresholds_76 : decode cX5_setThresholds 76 = .ok (.ireturn, 1) := by decide +kernel
theorem dX5_tick_0 : decode cX5_tick 0 = .ok (.iload_n 1, 1) := by decide +kernel
theorem dX5_tick_1 : decode cX5_tick 1 = .ok (.iconst 1, 1) := by decide +kernel
theorem dX5_tick_2 : decode cX5_tick 2 = .ok (.sipush 500, 3) := by decide +kernel
theorem dX5_tick_5 : decode cX5_tick 5 = .ok (.invokestatic 19, 3) := by decide +kernel
theorem dX5_tick_8 : decode cX5_tick 8 = .ok (.ifCond .ne 6, 3) := by decide +kernel
theorem dX5_tick_11 : decode cX5_tick 11 = .ok (.bipush (-4), 2) := by decide +kernel
theorem dX5_tick_13 : decode cX5_tick 13 = .ok (.ireturn, 1) := by decide +kernel
theorem dX5_tick_14 : decode cX5_tick 14 = .ok (.iconst 0, 1) := by decide +kernel
theorem dX5_tick_15 : decode cX5_tick 15 = .ok (.istore_n 2, 1) := by decide +kernel
theorem dX5_tick_16 : decode cX5_tick 16 = .ok (.iconst 0, 1) := by decide +kernel
theorem dX5_tick_17 : decode cX5_tick 17 = .ok (.istore_n 3, 1) := by decide +kernel
theorem dX5_tick_18 : decode cX5_tick 18 = .ok (.iload_n 3, 1) := by decide +kernel
theorem dX5_tick_19 : decode cX5_tick 19 = .ok (.iload_n 1, 1) := by decide +kernel
theorem dX5_tick_20 : decode cX5_tick 20 = .ok (.if_icmp .ge 19, 3) := by decide +kernel
theorem dX5_tick_23 : decode cX5_tick 23 = .ok (.iload_n 2, 1) := by decide +kernel
theorem dX5_tick_24 : decode cX5_tick 24 = .ok (.aload_n 0, 1) := by decide +kernel
theorem dX5_tick_25 : decode cX5_tick 25 = .ok (.getfield 12, 3) := by decide +kernel
theorem dX5_tick_28 : decode cX5_tick 28 = .ok (.invokevirtual 82, 3) := by decide +kernel
theorem dX5_tick_31 : decode cX5_tick 31 = .ok (.iadd, 1) := by decide +kernel
theorem dX5_tick_32 : decode cX5_tick 32 = .ok (.istore_n 2, 1) := by decide +kernel
theorem dX5_tick_33 : decode cX5_tick 33 = .ok (.iinc 3 1, 3) := by decide +kernel
theorem dX5_tick_36 : decode cX5_tick 36 = .ok (.goto (-18), 3) := by decide +kernel
theorem dX5_tick_39 : decode cX5_tick 39 = .ok (.iload_n 2, 1) := by decide +kernel
theorem dX5_tick_40 : decode cX5_tick 40 = .ok (.ireturn, 1) := by decide +kernel
theorem dX5_time_0 : decode cX5_time 0 = .ok (.aload_n 0, 1) := by decide +kernel
theorem dX5_time_1 : decode cX5_time 1 = .ok (.getfield 12, 3) := by decide +kernel
theorem dX5_time_4 : decode cX5_time 4 = .ok (.getfield 86, 3) := by decide +kernel
theorem dX5_time_7 : decode cX5_time 7 = .ok (.ireturn, 1) := by decide +kernel
theorem dX5_taskState_0 : decode cX5_taskState 0 = .ok (.aload_n 0, 1) := by decide +kernel
theorem dX5_taskState_1 : decode cX5_taskState 1 = .ok (.getfield 12, 3) := by decide +kernel
theorem dX5_taskState_4 : decode cX5_taskState 4 = .ok (.getfield 49, 3) := by decide +kernel
theorem dX5_taskState_7 : decode cX5_taskState 7 = .ok (.iload_n 1, 1) := by decide +kernel
theorem dX5_taskState_8 : decode cX5_taskState 8 = .ok (.invokevirtual 89, 3) := by decide +kernel
theorem dX5_taskState_11 : decode cX5_taskState 11 = .ok (.ifCond .eq 17, 3) := by decide +kernel
theorem dX5_taskState_14 : decode cX5_taskState 14 = .ok (.aload_n 0, 1) := by decide +kernel
theorem dX5_taskState_15 : decode cX5_taskState 15 = .ok (.getfield 12, 3) := by decide +kernel
theorem dX5_taskState_18 : decode cX5_taskState 18 = .ok (.getfield 49, 3) := by decide +kernel
theorem dX5_taskState_21 : decode cX5_taskState 21 = .ok (.iload_n 1, 1) := by decide +kernel
theorem dX5_taskState_22 : decode cX5_taskState 22 = .ok (.invokevirtual 90, 3) := by decide +kernel
theorem dX5_taskState_25 : decode cX5_taskState 25 = .ok (.goto 5, 3) := by decide +kernel
theorem dX5_taskState_28 : decode cX5_taskState 28 = .ok (.bipush (-2), 2) := by decide +kernel
theorem dX5_taskState_30 : decode cX5_taskState 30 = .ok (.ireturn, 1) := by decide +kernel
theorem dX5_committedAttempt_0 : decode cX5_committedAttempt 0 = .ok (.aload_n 0, 1) := by decide +kernel
theorem dX5_committedAttempt_1 : decode cX5_committedAttempt 1 = .ok (.getfield 12, 3) := by decide +kernel
theorem dX5_committedAttempt_4 : decode cX5_committedAttempt 4 = .ok (.getfield 49, 3) := by decide +kernel
theorem dX5_committedAttempt_7 : decode cX5_committedAttempt 7 = .ok (.iload_n 1, 1) := by decide +kernel
theorem dX5_committedAttempt_8 : decode cX5_committedAttempt 8 = .ok (.invokevirtual 89, 3) := by decide +kernel
theorem dX5_committedAttempt_11 : decode cX5_committedAttempt 11 = .ok (.ifCond .eq 18, 3) := by decide +kernel
theorem dX5_committedAttempt_14 : decode cX5_committedAttempt 14 = .ok (.aload_n 0, 1) := by decide +kernel
theorem dX5_committedAttempt_15 : decode cX5_committedAttempt 15 = .ok (.getfield 12, 3) := by decide +kernel
theorem dX5_committedAttempt_18 : decode cX5_committedAttempt 18 = .ok (.getfield 49, 3) := by decide +kernel
theorem dX5_committedAttempt_21 : decode cX5_committedAttempt 21 = .ok (.getfield 93, 3) := by decide +kernel
theorem dX5_committedAttempt_24 : decode cX5_committedAttempt 24 = .ok (.iload_n 1, 1) := by decide +kernel
theorem dX5_committedAttempt_25 : decode cX5_committedAttempt 25 = .ok (.iaload, 1) := by decide +kernel
theorem dX5_committedAttempt_26 : decode cX5_committedAttempt 26 = .ok (.goto 5, 3) := by decide +kernel
theorem dX5_committedAttempt_29 : decode cX5_committedAttempt 29 = .ok (.bipush (-2), 2) := by decide +kernel
theorem dX5_committedAttempt_31 : decode cX5_committedAttempt 31 = .ok (.ireturn, 1) := by decide +kernel
theorem dX5_finishTime_0 : decode cX5_finishTime 0 = .ok (.aload_n 0, 1) := by decide +kernel
theorem dX5_finishTime_1 : decode cX5_finishTime 1 = .ok (.getfield 12, 3) := by decide +kernel
theorem dX5_finishTime_4 : decode cX5_finishTime 4 = .ok (.getfield 49, 3) := by decide +kernel
theorem dX5_finishTime_7 : decode cX5_finishTime 7 = .ok (.iload_n 1, 1) := by decide +kernel
theorem dX5_finishTime_8 : decode cX5_finishTime 8 = .ok (.invokevirtual 89, 3) := by decide +kernel
theorem dX5_finishTime_11 : decode cX5_finishTime 11 = .ok (.ifCond .eq 18, 3) := by decide +kernel
theorem dX5_finishTime_14 : decode cX5_finishTime 14 = .ok (.aload_n 0, 1) := by decide +kernel
theorem dX5_finishTime_15 : decode cX5_finishTime 15 = .ok (.getfield 12, 3) := by decide +kernel
theorem dX5_finishTime_18 : decode cX5_finishTime 18 = .ok (.getfield 49, 3) := by decide +kernel
theorem dX5_finishTime_21 : decode cX5_finishTime 21 = .ok (.getfield 96, 3) := by decide +kernel
theorem dX5_finishTime_24 : decode cX5_finishTime 24 = .ok (.iload_n 1, 1) := by decide +kernel
theorem dX5_finishTime_25 : decode cX5_finishTime 25 = .ok (.iaload, 1) := by decide +kernel
theorem dX5_finishTime_26 : decode cX5_finishTime 26 = .ok (.goto 5, 3) := by decide +kernel
theorem dX5_finishTime_29 : decode cX5_finishTime 29 = .ok (.bipush (-2), 2) := by decide +kernel
theorem dX5_finishTime_31 : decode cX5_finishTime 31 = .ok (.ireturn, 1) := by decide +kernel
theorem dX5_makespan_0 : decode cX5_makespan 0 = .ok (.aload_n 0, 1) := by decide +kernel
theorem dX5_makespan_1 : decode cX5_makespan 1 = .ok (.getfield 12, 3) := by decide +kernel
theorem dX5_makespan_4 : decode cX5_makespan 4 = .ok (.getfield 49, 3) := by decide +kernel
theorem dX5_makespan_7 : decode cX5_makespan 7 = .ok (.invokevirtual 99, 3) := by decide +kernel
theorem dX5_makespan_10 : decode cX5_makespan 10 = .ok (.ireturn, 1) := by decide +kernel
theorem dX5_attemptCount_0 : decode cX5_attemptCount 0 = .ok (.aload_n 0, 1) := by decide +kernel
theorem dX5_attemptCount_1 : decode cX5_attemptCount 1 = .ok (.getfield 12, 3) := by decide +kernel
theorem dX5_attemptCount_4 : decode cX5_attemptCount 4 = .ok (.getfield 102, 3) := by decide +kernel
theorem dX5_attemptCount_7 : decode cX5_attemptCount 7 = .ok (.getfield 106, 3) := by decide +kernel
theorem dX5_attemptCount_10 : decode cX5_attemptCount 10 = .ok (.ireturn, 1) := by decide +kernel
theorem dX5_attemptTask_0 : decode cX5_attemptTask 0 = .ok (.aload_n 0, 1) := by decide +kernel
theorem dX5_attemptTask_1 : decode cX5_attemptTask 1 = .ok (.getfield 12, 3) := by decide +kernel
theorem dX5_attemptTask_4 : decode cX5_attemptTask 4 = .ok (.getfield 102, 3) := by decide +kernel
theorem dX5_attemptTask_7 : decode cX5_attemptTask 7 = .ok (.iload_n 1, 1) := by decide +kernel
theorem dX5_attemptTask_8 : decode cX5_attemptTask 8 = .ok (.invokevirtual 111, 3) := by decide +kernel
theorem dX5_attemptTask_11 : decode cX5_attemptTask 11 = .ok (.ifCond .eq 18, 3) := by decide +kernel
theorem dX5_attemptTask_14 : decode cX5_attemptTask 14 = .ok (.aload_n 0, 1) := by decide +kernel
theorem dX5_attemptTask_15 : decode cX5_attemptTask 15 = .ok (.getfield 12, 3) := by decide +kernel
theorem dX5_attemptTask_18 : decode cX5_attemptTask 18 = .ok (.getfield 102, 3) := by decide +kernel
theorem dX5_attemptTask_21 : decode cX5_attemptTask 21 = .ok (.getfield 112, 3) := by decide +kernel
theorem dX5_attemptTask_24 : decode cX5_attemptTask 24 = .ok (.iload_n 1, 1) := by decide +kernel
theorem dX5_attemptTask_25 : decode cX5_attemptTask 25 = .ok (.iaload, 1) := by decide +kernel
theorem dX5_attemptTask_26 : decode cX5_attemptTask 26 = .ok (.goto 5, 3) := by decide +kernel
theorem dX5_attemptTask_29 : decode cX5_attemptTask 29 = .ok (.bipush (-3), 2) := by decide +kernel
theorem dX5_attemptTask_31 : decode cX5_attemptTask 31 = .ok (.ireturn, 1) := by decide +kernel
theorem dX5_attemptNode_0 : decode cX5_attemptNode 0 = .ok (.aload_n 0, 1) := by decide +kernel
theorem dX5_attemptNode_1 : decode cX5_attemptNode 1 = .ok (.getfield 12, 3) := by decide +kernel
theorem dX5_attemptNode_4 : decode cX5_attemptNode 4 = .ok (.getfield 102, 3) := by decide +kernel
theorem dX5_attemptNode_7 : decode cX5_attemptNode 7 = .ok (.iload_n 1, 1) := by decide +kernel
theorem dX5_attemptNode_8 : decode cX5_attemptNode 8 = .ok (.invokevirtual 111, 3) := by decide +kernel
theorem dX5_attemptNode_11 : decode cX5_attemptNode 11 = .ok (.ifCond .eq 18, 3) := by decide +kernel
theorem dX5_attemptNode_14 : decode cX5_attemptNode 14 = .ok (.aload_n 0, 1) := by decide +kernel
theorem dX5_attemptNode_15 : decode cX5_attemptNode 15 = .ok (.getfield 12, 3) := by decide +kernel
theorem dX5_attemptNode_18 : decode cX5_attemptNode 18 = .ok (.getfield 102, 3) := by decide +kernel
theorem dX5_attemptNode_21 : decode cX5_attemptNode 21 = .ok (.getfield 115, 3) := by decide +kernel
theorem dX5_attemptNode_24 : decode cX5_attemptNode 24 = .ok (.iload_n 1, 1) := by decide +kernel
theorem dX5_attemptNode_25 : decode cX5_attemptNode 25 = .ok (.iaload, 1) := by decide +kernel
theorem dX5_attemptNode_26 : decode cX5_attemptNode 26 = .ok (.goto 5, 3) := by decide +kernel
theorem dX5_attemptNode_29 : decode cX5_attemptNode 29 = .ok (.bipush (-3), 2) := by decide +kernel
theorem dX5_attemptNode_31 : decode cX5_attemptNode 31 = .ok (.ireturn, 1) := by decide +kernel
theorem dX5_attemptState_0 : decode cX5_attemptState 0 = .ok (.aload_n 0, 1) := by decide +kernel
theorem dX5_attemptState_1 : decode cX5_attemptState 1 = .ok (.getfield 12, 3) := by decide +kernel
theorem dX5_attemptState_4 : decode cX5_attemptState 4 = .ok (.getfield 102, 3) := by decide +kernel
theorem dX5_attemptState_7 : decode cX5_attemptState 7 = .ok (.iload_n 1, 1) := by decide +kernel
theorem dX5_attemptState_8 : decode cX5_attemptState 8 = .ok (.invokevirtual 111, 3) := by decide +kernel
theorem dX5_attemptState_11 : decode cX5_attemptState 11 = .ok (.ifCond .eq 18, 3) := by decide +kernel
theorem dX5_attemptState_14 : decode cX5_attemptState 14 = .ok (.aload_n 0, 1) := by decide +kernel
theorem dX5_attemptState_15 : decode cX5_attemptState 15 = .ok (.getfield 12, 3) := by decide +kernel
theorem dX5_attemptState_18 : decode cX5_attemptState 18 = .ok (.getfield 102, 3) := by decide +kernel
theorem dX5_attemptState_21 : decode cX5_attemptState 21 = .ok (.getfield 118, 3) := by decide +kernel
theorem dX5_attemptState_24 : decode cX5_attemptState 24 = .ok (.iload_n 1, 1) := by decide +kernel
theorem dX5_attemptState_25 : decode cX5_attemptState 25 = .ok (.iaload, 1) := by decide +kernel
theorem dX5_attemptState_26 : decode cX5_attemptState 26 = .ok (.goto 5, 3) := by decide +kernel
theorem dX5_attemptState_29 : decode cX5_attemptState 29 = .ok (.bipush (-3), 2) := by decide +kernel
theorem dX5_attemptState_31 : decode cX5_attemptState 31 = .ok (.ireturn, 1) := by decide +kernel
theorem dX5_isSpeculative_0 : decode cX5_isSpeculative 0 = .ok (.aload_n 0, 1) := by decide +kernel
theorem dX5_isSpeculative_1 : decode cX5_isSpeculative 1 = .ok (.getfield 12, 3) := by decide +kernel
theorem dX5_isSpeculative_4 : decode cX5_isSpeculative 4 = .ok (.getfield 102, 3) := by decide +kernel
theorem dX5_isSpeculative_7 : decode cX5_isSpeculative 7 = .ok (.iload_n 1, 1) := by decide +kernel
theorem dX5_isSpeculative_8 : decode cX5_isSpeculative 8 = .ok (.invokevirtual 111, 3) := by decide +kernel
theorem dX5_isSpeculative_11 : decode cX5_isSpeculative 11 = .ok (.ifCond .ne 6, 3) := by decide +kernel
theorem dX5_isSpeculative_14 : decode cX5_isSpeculative 14 = .ok (.bipush (-3), 2) := by decide +kernel
theorem dX5_isSpeculative_16 : decode cX5_isSpeculative 16 = .ok (.ireturn, 1) := by decide +kernel
theorem dX5_isSpeculative_17 : decode cX5_isSpeculative 17 = .ok (.aload_n 0, 1) := by decide +kernel
theorem dX5_isSpeculative_18 : decode cX5_isSpeculative 18 = .ok (.getfield 12, 3) := by decide +kernel
theorem dX5_isSpeculative_21 : decode cX5_isSpeculative 21 = .ok (.getfield 102, 3) := by decide +kernel
theorem dX5_isSpeculative_24 : decode cX5_isSpeculative 24 = .ok (.getfield 121, 3) := by decide +kernel
theorem dX5_isSpeculative_27 : decode cX5_isSpeculative 27 = .ok (.iload_n 1, 1) := by decide +kernel
theorem dX5_isSpeculative_28 : decode cX5_isSpeculative 28 = .ok (.baload, 1) := by decide +kernel
theorem dX5_isSpeculative_29 : decode cX5_isSpeculative 29 = .ok (.ifCond .eq 7, 3) := by decide +kernel
theorem dX5_isSpeculative_32 : decode cX5_isSpeculative 32 = .ok (.iconst 1, 1) := by decide +kernel
theorem dX5_isSpeculative_33 : decode cX5_isSpeculative 33 = .ok (.goto 4, 3) := by decide +kernel
theorem dX5_isSpeculative_36 : decode cX5_isSpeculative 36 = .ok (.iconst 0, 1) := by decide +kernel
theorem dX5_isSpeculative_37 : decode cX5_isSpeculative 37 = .ok (.ireturn, 1) := by decide +kernel
theorem dX5_progress_0 : decode cX5_progress 0 = .ok (.aload_n 0, 1) := by decide +kernel
theorem dX5_progress_1 : decode cX5_progress 1 = .ok (.getfield 12, 3) := by decide +kernel
theorem dX5_progress_4 : decode cX5_progress 4 = .ok (.getfield 102, 3) := by decide +kernel
theorem dX5_progress_7 : decode cX5_progress 7 = .ok (.iload_n 1, 1) := by decide +kernel
theorem dX5_progress_8 : decode cX5_progress 8 = .ok (.invokevirtual 111, 3) := by decide +kernel
theorem dX5_progress_11 : decode cX5_progress 11 = .ok (.ifCond .eq 18, 3) := by decide +kernel
theorem dX5_progress_14 : decode cX5_progress 14 = .ok (.aload_n 0, 1) := by decide +kernel
theorem dX5_progress_15 : decode cX5_progress 15 = .ok (.getfield 12, 3) := by decide +kernel
theorem dX5_progress_18 : decode cX5_progress 18 = .ok (.getfield 102, 3) := by decide +kernel
theorem dX5_progress_21 : decode cX5_progress 21 = .ok (.getfield 124, 3) := by decide +kernel
theorem dX5_progress_24 : decode cX5_progress 24 = .ok (.iload_n 1, 1) := by decide +kernel
theorem dX5_progress_25 : decode cX5_progress 25 = .ok (.iaload, 1) := by decide +kernel
theorem dX5_progress_26 : decode cX5_progress 26 = .ok (.goto 5, 3) := by decide +kernel
theorem dX5_progress_29 : decode cX5_progress 29 = .ok (.bipush (-3), 2) := by decide +kernel
theorem dX5_progress_31 : decode cX5_progress 31 = .ok (.ireturn, 1) := by decide +kernel
theorem dX5_remainingTime_0 : decode cX5_remainingTime 0 = .ok (.aload_n 0, 1) := by decide +kernel
theorem dX5_remainingTime_1 : decode cX5_remainingTime 1 = .ok (.getfield 12, 3) := by decide +kernel
theorem dX5_remainingTime_4 : decode cX5_remainingTime 4 = .ok (.getfield 102, 3) := by decide +kernel
theorem dX5_remainingTime_7 : decode cX5_remainingTime 7 = .ok (.iload_n 1, 1) := by decide +kernel
theorem dX5_remainingTime_8 : decode cX5_remainingTime 8 = .ok (.invokevirtual 111, 3) := by decide +kernel
theorem dX5_remainingTime_11 : decode cX5_remainingTime 11 = .ok (.ifCond .ne 6, 3) := by decide +kernel
theorem dX5_remainingTime_14 : decode cX5_remainingTime 14 = .ok (.bipush (-3), 2) := by decide +kernel
theorem dX5_remainingTime_16 : decode cX5_remainingTime 16 = .ok (.ireturn, 1) := by decide +kernel
theorem dX5_remainingTime_17 : decode cX5_remainingTime 17 = .ok (.aload_n 0, 1) := by decide +kernel
theorem dX5_remainingTime_18 : decode cX5_remainingTime 18 = .ok (.getfield 12, 3) := by decide +kernel
theorem dX5_remainingTime_21 : decode cX5_remainingTime 21 = .ok (.getfield 102, 3) := by decide +kernel
theorem dX5_remainingTime_24 : decode cX5_remainingTime 24 = .ok (.getfield 118, 3) := by decide +kernel
theorem dX5_remainingTime_27 : decode cX5_remainingTime 27 = .ok (.iload_n 1, 1) := by decide +kernel
theorem dX5_remainingTime_28 : decode cX5_remainingTime 28 = .ok (.iaload, 1) := by decide +kernel
theorem dX5_remainingTime_29 : decode cX5_remainingTime 29 = .ok (.iconst 1, 1) := by decide +kernel
theorem dX5_remainingTime_30 : decode cX5_remainingTime 30 = .ok (.if_icmp .ne 17, 3) := by decide +kernel
theorem dX5_remainingTime_33 : decode cX5_remainingTime 33 = .ok (.aload_n 0, 1) := by decide +kernel
theorem dX5_remainingTime_34 : decode cX5_remainingTime 34 = .ok (.getfield 12, 3) := by decide +kernel
theorem dX5_remainingTime_37 : decode cX5_remainingTime 37 = .ok (.getfield 102, 3) := by decide +kernel
theorem dX5_remainingTime_40 : decode cX5_remainingTime 40 = .ok (.iload_n 1, 1) := by decide +kernel
theorem dX5_remainingTime_41 : decode cX5_remainingTime 41 = .ok (.invokevirtual 127, 3) := by decide +kernel
theorem dX5_remainingTime_44 : decode cX5_remainingTime 44 = .ok (.goto 5, 3) := by decide +kernel
theorem dX5_remainingTime_47 : decode cX5_remainingTime 47 = .ok (.bipush (-6), 2) := by decide +kernel
theorem dX5_remainingTime_49 : decode cX5_remainingTime 49 = .ok (.ireturn, 1) := by decide +kernel
theorem dX5_nodeScore_0 : decode cX5_nodeScore 0 = .ok (.aload_n 0, 1) := by decide +kernel
theorem dX5_nodeScore_1 : decode cX5_nodeScore 1 = .ok (.getfield 12, 3) := by decide +kernel
theorem dX5_nodeScore_4 : decode cX5_nodeScore 4 = .ok (.getfield 23, 3) := by decide +kernel
theorem dX5_nodeScore_7 : decode cX5_nodeScore 7 = .ok (.iload_n 1, 1) := by decide +kernel
theorem dX5_nodeScore_8 : decode cX5_nodeScore 8 = .ok (.invokevirtual 33, 3) := by decide +kernel
theorem dX5_nodeScore_11 : decode cX5_nodeScore 11 = .ok (.ifCond .eq 17, 3) := by decide +kernel
theorem dX5_nodeScore_14 : decode cX5_nodeScore 14 = .ok (.aload_n 0, 1) := by decide +kernel
theorem dX5_nodeScore_15 : decode cX5_nodeScore 15 = .ok (.getfield 12, 3) := by decide +kernel
theorem dX5_nodeScore_18 : decode cX5_nodeScore 18 = .ok (.getfield 23, 3) := by decide +kernel
theorem dX5_nodeScore_21 : decode cX5_nodeScore 21 = .ok (.iload_n 1, 1) := by decide +kernel
theorem dX5_nodeScore_22 : decode cX5_nodeScore 22 = .ok (.invokevirtual 130, 3) := by decide +kernel
theorem dX5_nodeScore_25 : decode cX5_nodeScore 25 = .ok (.goto 4, 3) := by decide +kernel
theorem dX5_nodeScore_28 : decode cX5_nodeScore 28 = .ok (.iconst (-1), 1) := by decide +kernel
theorem dX5_nodeScore_29 : decode cX5_nodeScore 29 = .ok (.ireturn, 1) := by decide +kernel
theorem dX5_isSlowNode_0 : decode cX5_isSlowNode 0 = .ok (.aload_n 0, 1) := by decide +kernel
theorem dX5_isSlowNode_1 : decode cX5_isSlowNode 1 = .ok (.getfield 12, 3) := by decide +kernel
theorem dX5_isSlowNode_4 : decode cX5_isSlowNode 4 = .ok (.getfield 23, 3) := by decide +kernel
theorem dX5_isSlowNode_7 : decode cX5_isSlowNode 7 = .ok (.iload_n 1, 1) := by decide +kernel
theorem dX5_isSlowNode_8 : decode cX5_isSlowNode 8 = .ok (.invokevirtual 33, 3) := by decide +kernel
theorem dX5_isSlowNode_11 : decode cX5_isSlowNode 11 = .ok (.ifCond .ne 5, 3) := by decide +kernel
theorem dX5_isSlowNode_14 : decode cX5_isSlowNode 14 = .ok (.iconst (-1), 1) := by decide +kernel
theorem dX5_isSlowNode_15 : decode cX5_isSlowNode 15 = .ok (.ireturn, 1) := by decide +kernel
theorem dX5_isSlowNode_16 : decode cX5_isSlowNode 16 = .ok (.aload_n 0, 1) := by decide +kernel
theorem dX5_isSlowNode_17 : decode cX5_isSlowNode 17 = .ok (.getfield 12, 3) := by decide +kernel
theorem dX5_isSlowNode_20 : decode cX5_isSlowNode 20 = .ok (.getfield 23, 3) := by decide +kernel
theorem dX5_isSlowNode_23 : decode cX5_isSlowNode 23 = .ok (.iload_n 1, 1) := by decide +kernel
theorem dX5_isSlowNode_24 : decode cX5_isSlowNode 24 = .ok (.aload_n 0, 1) := by decide +kernel
theorem dX5_isSlowNode_25 : decode cX5_isSlowNode 25 = .ok (.getfield 12, 3) := by decide +kernel
theorem dX5_isSlowNode_28 : decode cX5_isSlowNode 28 = .ok (.getfield 60, 3) := by decide +kernel
theorem dX5_isSlowNode_31 : decode cX5_isSlowNode 31 = .ok (.getfield 79, 3) := by decide +kernel
theorem dX5_isSlowNode_34 : decode cX5_isSlowNode 34 = .ok (.invokevirtual 133, 3) := by decide +kernel
theorem dX5_isSlowNode_37 : decode cX5_isSlowNode 37 = .ok (.ifCond .eq 7, 3) := by decide +kernel
theorem dX5_isSlowNode_40 : decode cX5_isSlowNode 40 = .ok (.iconst 1, 1) := by decide +kernel
theorem dX5_isSlowNode_41 : decode cX5_isSlowNode 41 = .ok (.goto 4, 3) := by decide +kernel
theorem dX5_isSlowNode_44 : decode cX5_isSlowNode 44 = .ok (.iconst 0, 1) := by decide +kernel
theorem dX5_isSlowNode_45 : decode cX5_isSlowNode 45 = .ok (.ireturn, 1) := by decide +kernel
theorem dX5_runningOn_0 : decode cX5_runningOn 0 = .ok (.aload_n 0, 1) := by decide +kernel
theorem dX5_runningOn_1 : decode cX5_runningOn 1 = .ok (.getfield 12, 3) := by decide +kernel
theorem dX5_runningOn_4 : decode cX5_runningOn 4 = .ok (.getfield 23, 3) := by decide +kernel
theorem dX5_runningOn_7 : decode cX5_runningOn 7 = .ok (.iload_n 1, 1) := by decide +kernel
theorem dX5_runningOn_8 : decode cX5_runningOn 8 = .ok (.invokevirtual 33, 3) := by decide +kernel
theorem dX5_runningOn_11 : decode cX5_runningOn 11 = .ok (.ifCond .eq 18, 3) := by decide +kernel
theorem dX5_runningOn_14 : decode cX5_runningOn 14 = .ok (.aload_n 0, 1) := by decide +kernel
theorem dX5_runningOn_15 : decode cX5_runningOn 15 = .ok (.getfield 12, 3) := by decide +kernel
theorem dX5_runningOn_18 : decode cX5_runningOn 18 = .ok (.getfield 23, 3) := by decide +kernel
theorem dX5_runningOn_21 : decode cX5_runningOn 21 = .ok (.getfield 137, 3) := by decide +kernel
theorem dX5_runningOn_24 : decode cX5_runningOn 24 = .ok (.iload_n 1, 1) := by decide +kernel
theorem dX5_runningOn_25 : decode cX5_runningOn 25 = .ok (.iaload, 1) := by decide +kernel
theorem dX5_runningOn_26 : decode cX5_runningOn 26 = .ok (.goto 4, 3) := by decide +kernel
theorem dX5_runningOn_29 : decode cX5_runningOn 29 = .ok (.iconst (-1), 1) := by decide +kernel
theorem dX5_runningOn_30 : decode cX5_runningOn 30 = .ok (.ireturn, 1) := by decide +kernel
theorem dX5_straggler_0 : decode cX5_straggler 0 = .ok (.aload_n 0, 1) := by decide +kernel
theorem dX5_straggler_1 : decode cX5_straggler 1 = .ok (.getfield 12, 3) := by decide +kernel
theorem dX5_straggler_4 : decode cX5_straggler 4 = .ok (.invokevirtual 140, 3) := by decide +kernel
theorem dX5_straggler_7 : decode cX5_straggler 7 = .ok (.ireturn, 1) := by decide +kernel
theorem dX5_runningSpeculative_0 : decode cX5_runningSpeculative 0 = .ok (.aload_n 0, 1) := by decide +kernel
theorem dX5_runningSpeculative_1 : decode cX5_runningSpeculative 1 = .ok (.getfield 12, 3) := by decide +kernel
theorem dX5_runningSpeculative_4 : decode cX5_runningSpeculative 4 = .ok (.getfield 102, 3) := by decide +kernel
theorem dX5_runningSpeculative_7 : decode cX5_runningSpeculative 7 = .ok (.invokevirtual 143, 3) := by decide +kernel
theorem dX5_runningSpeculative_10 : decode cX5_runningSpeculative 10 = .ok (.ireturn, 1) := by decide +kernel
theorem dX5_wastedWork_0 : decode cX5_wastedWork 0 = .ok (.aload_n 0, 1) := by decide +kernel
theorem dX5_wastedWork_1 : decode cX5_wastedWork 1 = .ok (.getfield 12, 3) := by decide +kernel
theorem dX5_wastedWork_4 : decode cX5_wastedWork 4 = .ok (.getfield 102, 3) := by decide +kernel
theorem dX5_wastedWork_7 : decode cX5_wastedWork 7 = .ok (.invokevirtual 146, 3) := by decide +kernel
theorem dX5_wastedWork_10 : decode cX5_wastedWork 10 = .ok (.ireturn, 1) := by decide +kernel
theorem dX5_simulatedMakespan_0 : decode cX5_simulatedMakespan 0 = .ok (.iload_n 1, 1) := by decide +kernel
theorem dX5_simulatedMakespan_1 : decode cX5_simulatedMakespan 1 = .ok (.invokestatic 57, 3) := by decide +kernel
theorem dX5_simulatedMakespan_4 : decode cX5_simulatedMakespan 4 = .ok (.ifCond .ne 6, 3) := by decide +kernel
theorem dX5_simulatedMakespan_7 : decode cX5_simulatedMakespan 7 = .ok (.bipush (-4), 2) := by decide +kernel
theorem dX5_simulatedMakespan_9 : decode cX5_simulatedMakespan 9 = .ok (.ireturn, 1) := by decide +kernel
theorem dX5_simulatedMakespan_10 : decode cX5_simulatedMakespan 10 = .ok (.aload_n 0, 1) := by decide +kernel
theorem dX5_simulatedMakespan_11 : decode cX5_simulatedMakespan 11 = .ok (.getfield 16, 3) := by decide +kernel
theorem dX5_simulatedMakespan_14 : decode cX5_simulatedMakespan 14 = .ok (.aload_n 0, 1) := by decide +kernel
theorem dX5_simulatedMakespan_15 : decode cX5_simulatedMakespan 15 = .ok (.getfield 12, 3) := by decide +kernel
theorem dX5_simulatedMakespan_18 : decode cX5_simulatedMakespan 18 = .ok (.iload_n 1, 1) := by decide +kernel
theorem dX5_simulatedMakespan_19 : decode cX5_simulatedMakespan 19 = .ok (.invokevirtual 149, 3) := by decide +kernel
theorem dX5_simulatedMakespan_22 : decode cX5_simulatedMakespan 22 = .ok (.aload_n 0, 1) := by decide +kernel
theorem dX5_simulatedMakespan_23 : decode cX5_simulatedMakespan 23 = .ok (.getfield 16, 3) := by decide +kernel
theorem dX5_simulatedMakespan_26 : decode cX5_simulatedMakespan 26 = .ok (.getfield 49, 3) := by decide +kernel
theorem dX5_simulatedMakespan_29 : decode cX5_simulatedMakespan 29 = .ok (.getfield 153, 3) := by decide +kernel
theorem dX5_simulatedMakespan_32 : decode cX5_simulatedMakespan 32 = .ok (.istore_n 2, 1) := by decide +kernel
theorem dX5_simulatedMakespan_33 : decode cX5_simulatedMakespan 33 = .ok (.iconst 0, 1) := by decide +kernel
theorem dX5_simulatedMakespan_34 : decode cX5_simulatedMakespan 34 = .ok (.istore_n 3, 1) := by decide +kernel
theorem dX5_simulatedMakespan_35 : decode cX5_simulatedMakespan 35 = .ok (.iload_n 3, 1) := by decide +kernel
theorem dX5_simulatedMakespan_36 : decode cX5_simulatedMakespan 36 = .ok (.sipush 2000, 3) := by decide +kernel
theorem dX5_simulatedMakespan_39 : decode cX5_simulatedMakespan 39 = .ok (.if_icmp .ge 23, 3) := by decide +kernel
theorem dX5_simulatedMakespan_42 : decode cX5_simulatedMakespan 42 = .ok (.iload_n 2, 1) := by decide +kernel
theorem dX5_simulatedMakespan_43 : decode cX5_simulatedMakespan 43 = .ok (.ifCond .le 19, 3) := by decide +kernel
theorem dX5_simulatedMakespan_46 : decode cX5_simulatedMakespan 46 = .ok (.iload_n 2, 1) := by decide +kernel
theorem dX5_simulatedMakespan_47 : decode cX5_simulatedMakespan 47 = .ok (.aload_n 0, 1) := by decide +kernel
theorem dX5_simulatedMakespan_48 : decode cX5_simulatedMakespan 48 = .ok (.getfield 16, 3) := by decide +kernel
theorem dX5_simulatedMakespan_51 : decode cX5_simulatedMakespan 51 = .ok (.invokevirtual 82, 3) := by decide +kernel
theorem dX5_simulatedMakespan_54 : decode cX5_simulatedMakespan 54 = .ok (.isub, 1) := by decide +kernel
theorem dX5_simulatedMakespan_55 : decode cX5_simulatedMakespan 55 = .ok (.istore_n 2, 1) := by decide +kernel
theorem dX5_simulatedMakespan_56 : decode cX5_simulatedMakespan 56 = .ok (.iinc 3 1, 3) := by decide +kernel
theorem dX5_simulatedMakespan_59 : decode cX5_simulatedMakespan 59 = .ok (.goto (-24), 3) := by decide +kernel
theorem dX5_simulatedMakespan_62 : decode cX5_simulatedMakespan 62 = .ok (.aload_n 0, 1) := by decide +kernel
theorem dX5_simulatedMakespan_63 : decode cX5_simulatedMakespan 63 = .ok (.getfield 16, 3) := by decide +kernel
theorem dX5_simulatedMakespan_66 : decode cX5_simulatedMakespan 66 = .ok (.getfield 49, 3) := by decide +kernel
theorem dX5_simulatedMakespan_69 : decode cX5_simulatedMakespan 69 = .ok (.invokevirtual 99, 3) := by decide +kernel
theorem dX5_simulatedMakespan_72 : decode cX5_simulatedMakespan 72 = .ok (.ireturn, 1) := by decide +kernel
theorem dX5_inRange_0 : decode cX5_inRange 0 = .ok (.iload_n 0, 1) := by decide +kernel
theorem dX5_inRange_1 : decode cX5_inRange 1 = .ok (.iload_n 1, 1) := by decide +kernel
theorem dX5_inRange_2 : decode cX5_inRange 2 = .ok (.if_icmp .lt 12, 3) := by decide +kernel
theorem dX5_inRange_5 : decode cX5_inRange 5 = .ok (.iload_n 0, 1) := by decide +kernel
theorem dX5_inRange_6 : decode cX5_inRange 6 = .ok (.iload_n 2, 1) := by decide +kernel
theorem dX5_inRange_7 : decode cX5_inRange 7 = .ok (.if_icmp .gt 7, 3) := by decide +kernel
theorem dX5_inRange_10 : decode cX5_inRange 10 = .ok (.iconst 1, 1) := by decide +kernel
theorem dX5_inRange_11 : decode cX5_inRange 11 = .ok (.goto 4, 3) := by decide +kernel
theorem dX5_inRange_14 : decode cX5_inRange 14 = .ok (.iconst 0, 1) := by decide +kernel
theorem dX5_inRange_15 : decode cX5_inRange 15 = .ok (.ireturn, 1) := by decide +kernel
theorem dX5_isPolicy_0 : decode cX5_isPolicy 0 = .ok (.iload_n 0, 1) := by decide +kernel
theorem dX5_isPolicy_1 : decode cX5_isPolicy 1 = .ok (.ifCond .eq 13, 3) := by decide +kernel
theorem dX5_isPolicy_4 : decode cX5_isPolicy 4 = .ok (.iload_n 0, 1) := by decide +kernel
theorem dX5_isPolicy_5 : decode cX5_isPolicy 5 = .ok (.iconst 1, 1) := by decide +kernel
theorem dX5_isPolicy_6 : decode cX5_isPolicy 6 = .ok (.if_icmp .eq 8, 3) := by decide +kernel
theorem dX5_isPolicy_9 : decode cX5_isPolicy 9 = .ok (.iload_n 0, 1) := by decide +kernel
theorem dX5_isPolicy_10 : decode cX5_isPolicy 10 = .ok (.iconst 2, 1) := by decide +kernel
theorem dX5_isPolicy_11 : decode cX5_isPolicy 11 = .ok (.if_icmp .ne 7, 3) := by decide +kernel
theorem dX5_isPolicy_14 : decode cX5_isPolicy 14 = .ok (.iconst 1, 1) := by decide +kernel
theorem dX5_isPolicy_15 : decode cX5_isPolicy 15 = .ok (.goto 4, 3) := by decide +kernel
theorem dX5_isPolicy_18 : decode cX5_isPolicy 18 = .ok (.iconst 0, 1) := by decide +kernel
theorem dX5_isPolicy_19 : decode cX5_isPolicy 19 = .ok (.ireturn, 1) := by decide +kernel
theorem dJ9_max_7cf53_0 : decode cJ9_max_7cf53 0 = .ok (.iload_n 0, 1) := by decide +kernel
theorem dJ9_max_7cf53_1 : decode cJ9_max_7cf53 1 = .ok (.iload_n 1, 1) := by decide +kernel
theorem dJ9_max_7cf53_2 : decode cJ9_max_7cf53 2 = .ok (.if_icmp .lt 7, 3) := by decide +kernel
theorem dJ9_max_7cf53_5 : decode cJ9_max_7cf53 5 = .ok (.iload_n 0, 1) := by decide +kernel
theorem dJ9_max_7cf53_6 : decode cJ9_max_7cf53 6 = .ok (.goto 4, 3) := by decide +kernel
theorem dJ9_max_7cf53_9 : decode cJ9_max_7cf53 9 = .ok (.iload_n 1, 1) := by decide +kernel
theorem dJ9_max_7cf53_10 : decode cJ9_max_7cf53 10 = .ok (.ireturn, 1) := by decide +kernel
theorem dJ9_min_7cf53_0 : decode cJ9_min_7cf53 0 = .ok (.iload_n 0, 1) := by decide +kernel
theorem dJ9_min_7cf53_1 : decode cJ9_min_7cf53 1 = .ok (.iload_n 1, 1) := by decide +kernel
theorem dJ9_min_7cf53_2 : decode cJ9_min_7cf53 2 = .ok (.if_icmp .gt 7, 3) := by decide +kernel
theorem dJ9_min_7cf53_5 : decode cJ9_min_7cf53 5 = .ok (.iload_n 0, 1) := by decide +kernel
theorem dJ9_min_7cf53_6 : decode cJ9_min_7cf53 6 = .ok (.goto 4, 3) := by decide +kernel
theorem dJ9_min_7cf53_9 : decode cJ9_min_7cf53 9 = .ok (.iload_n 1, 1) := by decide +kernel
theorem dJ9_min_7cf53_10 : decode cJ9_min_7cf53 10 = .ok (.ireturn, 1) := by decide +kernel
end
section
theorem dX6_init_0 : decode cX6_init 0 = .ok (.aload_n 0, 1) := by decide +kernel
theorem dX6_init_1 : decode cX6_init 1 = .ok (.invokespecial 1, 3) := by decide +kernel
theorem dX6_init_4 : decode cX6_init 4 = .ok (.aload_n 0, 1) := by decide +kernel
theorem dX6_init_5 : decode cX6_init 5 = .ok (.bipush 8, 2) := by decide +kernel
theorem dX6_init_7 : decode cX6_init 7 = .ok (.newarray .int, 2) := by decide +kernel
theorem dX6_init_9 : decode cX6_init 9 = .ok (.putfield 7, 3) := by decide +kernel
theorem dX6_init_12 : decode cX6_init 12 = .ok (.aload_n 0, 1) := by decide +kernel
theorem dX6_init_13 : decode cX6_init 13 = .ok (.bipush 8, 2) := by decide +kernel
theorem dX6_init_15 : decode cX6_init 15 = .ok (.newarray .int, 2) := by decide +kernel
theorem dX6_init_17 : decode cX6_init 17 = .ok (.putfield 13, 3) := by decide +kernel
theorem dX6_init_20 : decode cX6_init 20 = .ok (.aload_n 0, 1) := by decide +kernel
theorem dX6_init_21 : decode cX6_init 21 = .ok (.bipush 8, 2) := by decide +kernel
theorem dX6_init_23 : decode cX6_init 23 = .ok (.newarray .boolean, 2) := by decide +kernel
theorem dX6_init_25 : decode cX6_init 25 = .ok (.putfield 16, 3) := by decide +kernel
theorem dX6_init_28 : decode cX6_init 28 = .ok (.aload_n 0, 1) := by decide +kernel
theorem dX6_init_29 : decode cX6_init 29 = .ok (.bipush 24, 2) := by decide +kernel
theorem dX6_init_31 : decode cX6_init 31 = .ok (.newarray .int, 2) := by decide +kernel
theorem dX6_init_33 : decode cX6_init 33 = .ok (.putfield 20, 3) := by decide +kernel
theorem dX6_init_36 : decode cX6_init 36 = .ok (.aload_n 0, 1) := by decide +kernel
theorem dX6_init_37 : decode cX6_init 37 = .ok (.iconst 2, 1) := by decide +kernel
theorem dX6_init_38 : decode cX6_init 38 = .ok (.putfield 23, 3) := by decide +kernel
theorem dX6_init_41 : decode cX6_init 41 = .ok (.aload_n 0, 1) := by decide +kernel
theorem dX6_init_42 : decode cX6_init 42 = .ok (.iconst 3, 1) := by decide +kernel
theorem dX6_init_43 : decode cX6_init 43 = .ok (.putfield 27, 3) := by decide +kernel
theorem dX6_init_46 : decode cX6_init 46 = .ok (.aload_n 0, 1) := by decide +kernel
theorem dX6_init_47 : decode cX6_init 47 = .ok (.bipush 75, 2) := by decide +kernel
theorem dX6_init_49 : decode cX6_init 49 = .ok (.putfield 30, 3) := by decide +kernel
theorem dX6_init_52 : decode cX6_init 52 = .ok (.aload_n 0, 1) := by decide +kernel
theorem dX6_init_53 : decode cX6_init 53 = .ok (.bipush 50, 2) := by decide +kernel
theorem dX6_init_55 : decode cX6_init 55 = .ok (.putfield 33, 3) := by decide +kernel
theorem dX6_init_58 : decode cX6_init 58 = .ok (.aload_n 0, 1) := by decide +kernel
theorem dX6_init_59 : decode cX6_init 59 = .ok (.iconst 2, 1) := by decide +kernel
theorem dX6_init_60 : decode cX6_init 60 = .ok (.newarray .int, 2) := by decide +kernel
theorem dX6_init_62 : decode cX6_init 62 = .ok (.putfield 36, 3) := by decide +kernel
theorem dX6_init_65 : decode cX6_init 65 = .ok (.aload_n 0, 1) := by decide +kernel
theorem dX6_init_66 : decode cX6_init 66 = .ok (.iconst 2, 1) := by decide +kernel
theorem dX6_init_67 : decode cX6_init 67 = .ok (.newarray .int, 2) := by decide +kernel
theorem dX6_init_69 : decode cX6_init 69 = .ok (.putfield 39, 3) := by decide +kernel
theorem dX6_init_72 : decode cX6_init 72 = .ok (.aload_n 0, 1) := by decide +kernel
theorem dX6_init_73 : decode cX6_init 73 = .ok (.sipush 400, 3) := by decide +kernel
theorem dX6_init_76 : decode cX6_init 76 = .ok (.newarray .int, 2) := by decide +kernel
theorem dX6_init_78 : decode cX6_init 78 = .ok (.putfield 42, 3) := by decide +kernel
theorem dX6_init_81 : decode cX6_init 81 = .ok (.aload_n 0, 1) := by decide +kernel
theorem dX6_init_82 : decode cX6_init 82 = .ok (.sipush 400, 3) := by decide +kernel
theorem dX6_init_85 : decode cX6_init 85 = .ok (.newarray .int, 2) := by decide +kernel
theorem dX6_init_87 : decode cX6_init 87 = .ok (.putfield 45, 3) := by decide +kernel
theorem dX6_init_90 : decode cX6_init 90 = .ok (.aload_n 0, 1) := by decide +kernel
theorem dX6_init_91 : decode cX6_init 91 = .ok (.sipush 400, 3) := by decide +kernel
theorem dX6_init_94 : decode cX6_init 94 = .ok (.newarray .int, 2) := by decide +kernel
theorem dX6_init_96 : decode cX6_init 96 = .ok (.putfield 48, 3) := by decide +kernel
theorem dX6_init_99 : decode cX6_init 99 = .ok (.aload_n 0, 1) := by decide +kernel
theorem dX6_init_100 : decode cX6_init 100 = .ok (.sipush 400, 3) := by decide +kernel
theorem dX6_init_103 : decode cX6_init 103 = .ok (.newarray .int, 2) := by decide +kernel
theorem dX6_init_105 : decode cX6_init 105 = .ok (.putfield 51, 3) := by decide +kernel
theorem dX6_init_108 : decode cX6_init 108 = .ok (.aload_n 0, 1) := by decide +kernel
theorem dX6_init_109 : decode cX6_init 109 = .ok (.sipush 400, 3) := by decide +kernel
theorem dX6_init_112 : decode cX6_init 112 = .ok (.newarray .int, 2) := by decide +kernel
theorem dX6_init_114 : decode cX6_init 114 = .ok (.putfield 54, 3) := by decide +kernel
theorem dX6_init_117 : decode cX6_init 117 = .ok (.aload_n 0, 1) := by decide +kernel
theorem dX6_init_118 : decode cX6_init 118 = .ok (.sipush 400, 3) := by decide +kernel
theorem dX6_init_121 : decode cX6_init 121 = .ok (.newarray .boolean, 2) := by decide +kernel
theorem dX6_init_123 : decode cX6_init 123 = .ok (.putfield 57, 3) := by decide +kernel
theorem dX6_init_126 : decode cX6_init 126 = .ok (.aload_n 0, 1) := by decide +kernel
theorem dX6_init_127 : decode cX6_init 127 = .ok (.bipush 48, 2) := by decide +kernel
theorem dX6_init_129 : decode cX6_init 129 = .ok (.newarray .int, 2) := by decide +kernel
theorem dX6_init_131 : decode cX6_init 131 = .ok (.putfield 60, 3) := by decide +kernel
theorem dX6_init_134 : decode cX6_init 134 = .ok (.aload_n 0, 1) := by decide +kernel
theorem dX6_init_135 : decode cX6_init 135 = .ok (.bipush 48, 2) := by decide +kernel
theorem dX6_init_137 : decode cX6_init 137 = .ok (.newarray .int, 2) := by decide +kernel
theorem dX6_init_139 : decode cX6_init 139 = .ok (.putfield 63, 3) := by decide +kernel
theorem dX6_init_142 : decode cX6_init 142 = .ok (.aload_n 0, 1) := by decide +kernel
theorem dX6_init_143 : decode cX6_init 143 = .ok (.bipush 48, 2) := by decide +kernel
theorem dX6_init_145 : decode cX6_init 145 = .ok (.newarray .int, 2) := by decide +kernel
theorem dX6_init_147 : decode cX6_init 147 = .ok (.putfield 66, 3) := by decide +kernel
theorem dX6_init_150 : decode cX6_init 150 = .ok (.aload_n 0, 1) := by decide +kernel
theorem dX6_init_151 : decode cX6_init 151 = .ok (.bipush 16, 2) := by decide +kernel
theorem dX6_init_153 : decode cX6_init 153 = .ok (.newarray .int, 2) := by decide +kernel
theorem dX6_init_155 : decode cX6_init 155 = .ok (.putfield 69, 3) := by decide +kernel
theorem dX6_init_158 : decode cX6_init 158 = .ok (.aload_n 0, 1) := by decide +kernel
theorem dX6_init_159 : decode cX6_init 159 = .ok (.bipush 16, 2) := by decide +kernel
theorem dX6_init_161 : decode cX6_init 161 = .ok (.newarray .int, 2) := by decide +kernel
theorem dX6_init_163 : decode cX6_init 163 = .ok (.putfield 72, 3) := by decide +kernel
theorem dX6_init_166 : decode cX6_init 166 = .ok (.aload_n 0, 1) := by decide +kernel
theorem dX6_init_167 : decode cX6_init 167 = .ok (.bipush 16, 2) := by decide +kernel
theorem dX6_init_169 : decode cX6_init 169 = .ok (.newarray .int, 2) := by decide +kernel
theorem dX6_init_171 : decode cX6_init 171 = .ok (.putfield 75, 3) := by decide +kernel
theorem dX6_init_174 : decode cX6_init 174 = .ok (.aload_n 0, 1) := by decide +kernel
theorem dX6_init_175 : decode cX6_init 175 = .ok (.iconst 2, 1) := by decide +kernel
theorem dX6_init_176 : decode cX6_init 176 = .ok (.putfield 78, 3) := by decide +kernel
theorem dX6_init_179 : decode cX6_init 179 = .ok (.return_, 1) := by decide +kernel
theorem dX6_within_0 : decode cX6_within 0 = .ok (.iload_n 0, 1) := by decide +kernel
theorem dX6_within_1 : decode cX6_within 1 = .ok (.iload_n 1, 1) := by decide +kernel
theorem dX6_within_2 : decode cX6_within 2 = .ok (.if_icmp .lt 12, 3) := by decide +kernel
theorem dX6_within_5 : decode cX6_within 5 = .ok (.iload_n 0, 1) := by decide +kernel
theorem dX6_within_6 : decode cX6_within 6 = .ok (.iload_n 2, 1) := by decide +kernel
theorem dX6_within_7 : decode cX6_within 7 = .ok (.if_icmp .gt 7, 3) := by decide +kernel
theorem dX6_within_10 : decode cX6_within 10 = .ok (.iconst 1, 1) := by decide +kernel
theorem dX6_within_11 : decode cX6_within 11 = .ok (.goto 4, 3) := by decide +kernel
theorem dX6_within_14 : decode cX6_within 14 = .ok (.iconst 0, 1) := by decide +kernel
theorem dX6_within_15 : decode cX6_within 15 = .ok (.ireturn, 1) := by decide +kernel
theorem dX6_isNode_0 : decode cX6_isNode 0 = .ok (.iload_n 1, 1) := by decide +kernel
theorem dX6_isNode_1 : decode cX6_isNode 1 = .ok (.iconst 0, 1) := by decide +kernel
theorem dX6_isNode_2 : decode cX6_isNode 2 = .ok (.aload_n 0, 1) := by decide +kernel
theorem dX6_isNode_3 : decode cX6_isNode 3 = .ok (.getfield 81, 3) := by decide +kernel
theorem dX6_isNode_6 : decode cX6_isNode 6 = .ok (.iconst 1, 1) := by decide +kernel
theorem dX6_isNode_7 : decode cX6_isNode 7 = .ok (.isub, 1) := by decide +kernel
theorem dX6_isNode_8 : decode cX6_isNode 8 = .ok (.invokestatic 84, 3) := by decide +kernel
theorem dX6_isNode_11 : decode cX6_isNode 11 = .ok (.ireturn, 1) := by decide +kernel
theorem dX6_isTask_0 : decode cX6_isTask 0 = .ok (.iload_n 1, 1) := by decide +kernel
theorem dX6_isTask_1 : decode cX6_isTask 1 = .ok (.iconst 0, 1) := by decide +kernel
theorem dX6_isTask_2 : decode cX6_isTask 2 = .ok (.aload_n 0, 1) := by decide +kernel
theorem dX6_isTask_3 : decode cX6_isTask 3 = .ok (.getfield 88, 3) := by decide +kernel
theorem dX6_isTask_6 : decode cX6_isTask 6 = .ok (.iconst 1, 1) := by decide +kernel
theorem dX6_isTask_7 : decode cX6_isTask 7 = .ok (.isub, 1) := by decide +kernel
theorem dX6_isTask_8 : decode cX6_isTask 8 = .ok (.invokestatic 84, 3) := by decide +kernel
theorem dX6_isTask_11 : decode cX6_isTask 11 = .ok (.ireturn, 1) := by decide +kernel
theorem dX6_first_0 : decode cX6_first 0 = .ok (.sipush 200, 3) := by decide +kernel
theorem dX6_first_3 : decode cX6_first 3 = .ok (.aload_n 0, 1) := by decide +kernel
theorem dX6_first_4 : decode cX6_first 4 = .ok (.getfield 91, 3) := by decide +kernel
theorem dX6_first_7 : decode cX6_first 7 = .ok (.imul, 1) := by decide +kernel
theorem dX6_first_8 : decode cX6_first 8 = .ok (.ireturn, 1) := by decide +kernel
theorem dX6_last_0 : decode cX6_last 0 = .ok (.sipush 200, 3) := by decide +kernel
theorem dX6_last_3 : decode cX6_last 3 = .ok (.aload_n 0, 1) := by decide +kernel
theorem dX6_last_4 : decode cX6_last 4 = .ok (.getfield 91, 3) := by decide +kernel
theorem dX6_last_7 : decode cX6_last 7 = .ok (.imul, 1) := by decide +kernel
theorem dX6_last_8 : decode cX6_last 8 = .ok (.aload_n 0, 1) := by decide +kernel
theorem dX6_last_9 : decode cX6_last 9 = .ok (.getfield 36, 3) := by decide +kernel
theorem dX6_last_12 : decode cX6_last 12 = .ok (.aload_n 0, 1) := by decide +kernel
theorem dX6_last_13 : decode cX6_last 13 = .ok (.getfield 91, 3) := by decide +kernel
theorem dX6_last_16 : decode cX6_last 16 = .ok (.iaload, 1) := by decide +kernel
theorem dX6_last_17 : decode cX6_last 17 = .ok (.iadd, 1) := by decide +kernel
theorem dX6_last_18 : decode cX6_last 18 = .ok (.ireturn, 1) := by decide +kernel
theorem dX6_addNode_0 : decode cX6_addNode 0 = .ok (.iload_n 1, 1) := by decide +kernel
theorem dX6_addNode_1 : decode cX6_addNode 1 = .ok (.iconst 0, 1) := by decide +kernel
theorem dX6_addNode_2 : decode cX6_addNode 2 = .ok (.bipush 100, 2) := by decide +kernel
theorem dX6_addNode_4 : decode cX6_addNode 4 = .ok (.invokestatic 84, 3) := by decide +kernel
theorem dX6_addNode_7 : decode cX6_addNode 7 = .ok (.ifCond .eq 12, 3) := by decide +kernel
theorem dX6_addNode_10 : decode cX6_addNode 10 = .ok (.iload_n 2, 1) := by decide +kernel
theorem dX6_addNode_11 : decode cX6_addNode 11 = .ok (.iconst 1, 1) := by decide +kernel
theorem dX6_addNode_12 : decode cX6_addNode 12 = .ok (.iconst 4, 1) := by decide +kernel
theorem dX6_addNode_13 : decode cX6_addNode 13 = .ok (.invokestatic 84, 3) := by decide +kernel
theorem dX6_addNode_16 : decode cX6_addNode 16 = .ok (.ifCond .ne 6, 3) := by decide +kernel
theorem dX6_addNode_19 : decode cX6_addNode 19 = .ok (.bipush (-4), 2) := by decide +kernel
theorem dX6_addNode_21 : decode cX6_addNode 21 = .ok (.ireturn, 1) := by decide +kernel
theorem dX6_addNode_22 : decode cX6_addNode 22 = .ok (.aload_n 0, 1) := by decide +kernel
theorem dX6_addNode_23 : decode cX6_addNode 23 = .ok (.getfield 81, 3) := by decide +kernel
theorem dX6_addNode_26 : decode cX6_addNode 26 = .ok (.bipush 8, 2) := by decide +kernel
theorem dX6_addNode_28 : decode cX6_addNode 28 = .ok (.if_icmp .ne 6, 3) := by decide +kernel
theorem dX6_addNode_31 : decode cX6_addNode 31 = .ok (.bipush (-5), 2) := by decide +kernel
theorem dX6_addNode_33 : decode cX6_addNode 33 = .ok (.ireturn, 1) := by decide +kernel
theorem dX6_addNode_34 : decode cX6_addNode 34 = .ok (.aload_n 0, 1) := by decide +kernel
theorem dX6_addNode_35 : decode cX6_addNode 35 = .ok (.getfield 7, 3) := by decide +kernel
theorem dX6_addNode_38 : decode cX6_addNode 38 = .ok (.aload_n 0, 1) := by decide +kernel
theorem dX6_addNode_39 : decode cX6_addNode 39 = .ok (.getfield 81, 3) := by decide +kernel
theorem dX6_addNode_42 : decode cX6_addNode 42 = .ok (.iload_n 1, 1) := by decide +kernel
theorem dX6_addNode_43 : decode cX6_addNode 43 = .ok (.iastore, 1) := by decide +kernel
theorem dX6_addNode_44 : decode cX6_addNode 44 = .ok (.aload_n 0, 1) := by decide +kernel
theorem dX6_addNode_45 : decode cX6_addNode 45 = .ok (.getfield 13, 3) := by decide +kernel
theorem dX6_addNode_48 : decode cX6_addNode 48 = .ok (.aload_n 0, 1) := by decide +kernel
theorem dX6_addNode_49 : decode cX6_addNode 49 = .ok (.getfield 81, 3) := by decide +kernel
theorem dX6_addNode_52 : decode cX6_addNode 52 = .ok (.iload_n 2, 1) := by decide +kernel
theorem dX6_addNode_53 : decode cX6_addNode 53 = .ok (.iastore, 1) := by decide +kernel
theorem dX6_addNode_54 : decode cX6_addNode 54 = .ok (.aload_n 0, 1) := by decide +kernel
theorem dX6_addNode_55 : decode cX6_addNode 55 = .ok (.getfield 16, 3) := by decide +kernel
theorem dX6_addNode_58 : decode cX6_addNode 58 = .ok (.aload_n 0, 1) := by decide +kernel
theorem dX6_addNode_59 : decode cX6_addNode 59 = .ok (.getfield 81, 3) := by decide +kernel
theorem dX6_addNode_62 : decode cX6_addNode 62 = .ok (.iconst 1, 1) := by decide +kernel
theorem dX6_addNode_63 : decode cX6_addNode 63 = .ok (.bastore, 1) := by decide +kernel
theorem dX6_addNode_64 : decode cX6_addNode 64 = .ok (.aload_n 0, 1) := by decide +kernel
theorem dX6_addNode_65 : decode cX6_addNode 65 = .ok (.dup, 1) := by decide +kernel
theorem dX6_addNode_66 : decode cX6_addNode 66 = .ok (.getfield 81, 3) := by decide +kernel
theorem dX6_addNode_69 : decode cX6_addNode 69 = .ok (.iconst 1, 1) := by decide +kernel
theorem dX6_addNode_70 : decode cX6_addNode 70 = .ok (.iadd, 1) := by decide +kernel
theorem dX6_addNode_71 : decode cX6_addNode 71 = .ok (.putfield 81, 3) := by decide +kernel
theorem dX6_addNode_74 : decode cX6_addNode 74 = .ok (.aload_n 0, 1) := by decide +kernel
theorem dX6_addNode_75 : decode cX6_addNode 75 = .ok (.getfield 81, 3) := by decide +kernel
theorem dX6_addNode_78 : decode cX6_addNode 78 = .ok (.iconst 1, 1) := by decide +kernel
theorem dX6_addNode_79 : decode cX6_addNode 79 = .ok (.isub, 1) := by decide +kernel
theorem dX6_addNode_80 : decode cX6_addNode 80 = .ok (.ireturn, 1) := by decide +kernel
theorem dX6_setSpeed_0 : decode cX6_setSpeed 0 = .ok (.aload_n 0, 1) := by decide +kernel
theorem dX6_setSpeed_1 : decode cX6_setSpeed 1 = .ok (.iload_n 1, 1) := by decide +kernel
theorem dX6_setSpeed_2 : decode cX6_setSpeed 2 = .ok (.invokevirtual 94, 3) := by decide +kernel
theorem dX6_setSpeed_5 : decode cX6_setSpeed 5 = .ok (.ifCond .ne 5, 3) := by decide +kernel
theorem dX6_setSpeed_8 : decode cX6_setSpeed 8 = .ok (.iconst (-1), 1) := by decide +kernel
theorem dX6_setSpeed_9 : decode cX6_setSpeed 9 = .ok (.ireturn, 1) := by decide +kernel
theorem dX6_setSpeed_10 : decode cX6_setSpeed 10 = .ok (.iload_n 2, 1) := by decide +kernel
theorem dX6_setSpeed_11 : decode cX6_setSpeed 11 = .ok (.iconst 0, 1) := by decide +kernel
theorem dX6_setSpeed_12 : decode cX6_setSpeed 12 = .ok (.bipush 100, 2) := by decide +kernel
theorem dX6_setSpeed_14 : decode cX6_setSpeed 14 = .ok (.invokestatic 84, 3) := by decide +kernel
theorem dX6_setSpeed_17 : decode cX6_setSpeed 17 = .ok (.ifCond .ne 6, 3) := by decide +kernel
theorem dX6_setSpeed_20 : decode cX6_setSpeed 20 = .ok (.bipush (-4), 2) := by decide +kernel
theorem dX6_setSpeed_22 : decode cX6_setSpeed 22 = .ok (.ireturn, 1) := by decide +kernel
theorem dX6_setSpeed_23 : decode cX6_setSpeed 23 = .ok (.aload_n 0, 1) := by decide +kernel
theorem dX6_setSpeed_24 : decode cX6_setSpeed 24 = .ok (.getfield 7, 3) := by decide +kernel
theorem dX6_setSpeed_27 : decode cX6_setSpeed 27 = .ok (.iload_n 1, 1) := by decide +kernel
theorem dX6_setSpeed_28 : decode cX6_setSpeed 28 = .ok (.iaload, 1) := by decide +kernel
theorem dX6_setSpeed_29 : decode cX6_setSpeed 29 = .ok (.istore_n 3, 1) := by decide +kernel
theorem dX6_setSpeed_30 : decode cX6_setSpeed 30 = .ok (.aload_n 0, 1) := by decide +kernel
theorem dX6_setSpeed_31 : decode cX6_setSpeed 31 = .ok (.getfield 7, 3) := by decide +kernel
theorem dX6_setSpeed_34 : decode cX6_setSpeed 34 = .ok (.iload_n 1, 1) := by decide +kernel
theorem dX6_setSpeed_35 : decode cX6_setSpeed 35 = .ok (.iload_n 2, 1) := by decide +kernel
theorem dX6_setSpeed_36 : decode cX6_setSpeed 36 = .ok (.iastore, 1) := by decide +kernel
theorem dX6_setSpeed_37 : decode cX6_setSpeed 37 = .ok (.iload_n 3, 1) := by decide +kernel
theorem dX6_setSpeed_38 : decode cX6_setSpeed 38 = .ok (.ireturn, 1) := by decide +kernel
theorem dX6_stops_0 : decode cX6_stops 0 = .ok (.aload_n 0, 1) := by decide +kernel
theorem dX6_stops_1 : decode cX6_stops 1 = .ok (.getfield 54, 3) := by decide +kernel
theorem dX6_stops_4 : decode cX6_stops 4 = .ok (.iload_n 1, 1) := by decide +kernel
theorem dX6_stops_5 : decode cX6_stops 5 = .ok (.iload_n 2, 1) := by decide +kernel
theorem dX6_stops_6 : decode cX6_stops 6 = .ok (.iastore, 1) := by decide +kernel
theorem dX6_stops_7 : decode cX6_stops 7 = .ok (.aload_n 0, 1) := by decide +kernel
theorem dX6_stops_8 : decode cX6_stops 8 = .ok (.getfield 66, 3) := by decide +kernel
theorem dX6_stops_11 : decode cX6_stops 11 = .ok (.bipush 24, 2) := by decide +kernel
theorem dX6_stops_13 : decode cX6_stops 13 = .ok (.aload_n 0, 1) := by decide +kernel
theorem dX6_stops_14 : decode cX6_stops 14 = .ok (.getfield 91, 3) := by decide +kernel
theorem dX6_stops_17 : decode cX6_stops 17 = .ok (.imul, 1) := by decide +kernel
theorem dX6_stops_18 : decode cX6_stops 18 = .ok (.aload_n 0, 1) := by decide +kernel
theorem dX6_stops_19 : decode cX6_stops 19 = .ok (.getfield 42, 3) := by decide +kernel
theorem dX6_stops_22 : decode cX6_stops 22 = .ok (.iload_n 1, 1) := by decide +kernel
theorem dX6_stops_23 : decode cX6_stops 23 = .ok (.iaload, 1) := by decide +kernel
theorem dX6_stops_24 : decode cX6_stops 24 = .ok (.iadd, 1) := by decide +kernel
theorem dX6_stops_25 : decode cX6_stops 25 = .ok (.dup2, 1) := by decide +kernel
theorem dX6_stops_26 : decode cX6_stops 26 = .ok (.iaload, 1) := by decide +kernel
theorem dX6_stops_27 : decode cX6_stops 27 = .ok (.iconst 1, 1) := by decide +kernel
theorem dX6_stops_28 : decode cX6_stops 28 = .ok (.isub, 1) := by decide +kernel
theorem dX6_stops_29 : decode cX6_stops 29 = .ok (.iastore, 1) := by decide +kernel
theorem dX6_stops_30 : decode cX6_stops 30 = .ok (.aload_n 0, 1) := by decide +kernel
theorem dX6_stops_31 : decode cX6_stops 31 = .ok (.getfield 69, 3) := by decide +kernel
theorem dX6_stops_34 : decode cX6_stops 34 = .ok (.bipush 8, 2) := by decide +kernel
theorem dX6_stops_36 : decode cX6_stops 36 = .ok (.aload_n 0, 1) := by decide +kernel
theorem dX6_stops_37 : decode cX6_stops 37 = .ok (.getfield 91, 3) := by decide +kernel
theorem dX6_stops_40 : decode cX6_stops 40 = .ok (.imul, 1) := by decide +kernel
theorem dX6_stops_41 : decode cX6_stops 41 = .ok (.aload_n 0, 1) := by decide +kernel
theorem dX6_stops_42 : decode cX6_stops 42 = .ok (.getfield 45, 3) := by decide +kernel
theorem dX6_stops_45 : decode cX6_stops 45 = .ok (.iload_n 1, 1) := by decide +kernel
theorem dX6_stops_46 : decode cX6_stops 46 = .ok (.iaload, 1) := by decide +kernel
theorem dX6_stops_47 : decode cX6_stops 47 = .ok (.iadd, 1) := by decide +kernel
theorem dX6_stops_48 : decode cX6_stops 48 = .ok (.dup2, 1) := by decide +kernel
theorem dX6_stops_49 : decode cX6_stops 49 = .ok (.iaload, 1) := by decide +kernel
theorem dX6_stops_50 : decode cX6_stops 50 = .ok (.iconst 1, 1) := by decide +kernel
theorem dX6_stops_51 : decode cX6_stops 51 = .ok (.isub, 1) := by decide +kernel
theorem dX6_stops_52 : decode cX6_stops 52 = .ok (.iastore, 1) := by decide +kernel
theorem dX6_stops_53 : decode cX6_stops 53 = .ok (.return_, 1) := by decide +kernel
theorem dX6_failNode_0 : decode cX6_failNode 0 = .ok (.aload_n 0, 1) := by decide +kernel
theorem dX6_failNode_1 : decode cX6_failNode 1 = .ok (.iload_n 1, 1) := by decide +kernel
theorem dX6_failNode_2 : decode cX6_failNode 2 = .ok (.invokevirtual 94, 3) := by decide +kernel
theorem dX6_failNode_5 : decode cX6_failNode 5 = .ok (.ifCond .ne 5, 3) := by decide +kernel
theorem dX6_failNode_8 : decode cX6_failNode 8 = .ok (.iconst (-1), 1) := by decide +kernel
theorem dX6_failNode_9 : decode cX6_failNode 9 = .ok (.ireturn, 1) := by decide +kernel
theorem dX6_failNode_10 : decode cX6_failNode 10 = .ok (.aload_n 0, 1) := by decide +kernel
theorem dX6_failNode_11 : decode cX6_failNode 11 = .ok (.getfield 16, 3) := by decide +kernel
theorem dX6_failNode_14 : decode cX6_failNode 14 = .ok (.iload_n 1, 1) := by decide +kernel
theorem dX6_failNode_15 : decode cX6_failNode 15 = .ok (.baload, 1) := by decide +kernel
theorem dX6_failNode_16 : decode cX6_failNode 16 = .ok (.ifCond .ne 6, 3) := by decide +kernel
theorem dX6_failNode_19 : decode cX6_failNode 19 = .ok (.bipush (-6), 2) := by decide +kernel
theorem dX6_failNode_21 : decode cX6_failNode 21 = .ok (.ireturn, 1) := by decide +kernel
theorem dX6_failNode_22 : decode cX6_failNode 22 = .ok (.aload_n 0, 1) := by decide +kernel
theorem dX6_failNode_23 : decode cX6_failNode 23 = .ok (.getfield 16, 3) := by decide +kernel
theorem dX6_failNode_26 : decode cX6_failNode 26 = .ok (.iload_n 1, 1) := by decide +kernel
theorem dX6_failNode_27 : decode cX6_failNode 27 = .ok (.iconst 0, 1) := by decide +kernel
theorem dX6_failNode_28 : decode cX6_failNode 28 = .ok (.bastore, 1) := by decide +kernel
theorem dX6_failNode_29 : decode cX6_failNode 29 = .ok (.iconst 0, 1) := by decide +kernel
theorem dX6_failNode_30 : decode cX6_failNode 30 = .ok (.istore_n 2, 1) := by decide +kernel
theorem dX6_failNode_31 : decode cX6_failNode 31 = .ok (.iconst 0, 1) := by decide +kernel
theorem dX6_failNode_32 : decode cX6_failNode 32 = .ok (.istore_n 3, 1) := by decide +kernel
theorem dX6_failNode_33 : decode cX6_failNode 33 = .ok (.iload_n 3, 1) := by decide +kernel
theorem dX6_failNode_34 : decode cX6_failNode 34 = .ok (.aload_n 0, 1) := by decide +kernel
theorem dX6_failNode_35 : decode cX6_failNode 35 = .ok (.getfield 36, 3) := by decide +kernel
theorem dX6_failNode_38 : decode cX6_failNode 38 = .ok (.iconst 0, 1) := by decide +kernel
theorem dX6_failNode_39 : decode cX6_failNode 39 = .ok (.iaload, 1) := by decide +kernel
theorem dX6_failNode_40 : decode cX6_failNode 40 = .ok (.if_icmp .ge 38, 3) := by decide +kernel
theorem dX6_failNode_43 : decode cX6_failNode 43 = .ok (.aload_n 0, 1) := by decide +kernel
theorem dX6_failNode_44 : decode cX6_failNode 44 = .ok (.getfield 54, 3) := by decide +kernel
theorem dX6_failNode_47 : decode cX6_failNode 47 = .ok (.iload_n 3, 1) := by decide +kernel
theorem dX6_failNode_48 : decode cX6_failNode 48 = .ok (.iaload, 1) := by decide +kernel
theorem dX6_failNode_49 : decode cX6_failNode 49 = .ok (.iconst 1, 1) := by decide +kernel
theorem dX6_failNode_50 : decode cX6_failNode 50 = .ok (.if_icmp .ne 22, 3) := by decide +kernel
theorem dX6_failNode_53 : decode cX6_failNode 53 = .ok (.aload_n 0, 1) := by decide +kernel
theorem dX6_failNode_54 : decode cX6_failNode 54 = .ok (.getfield 45, 3) := by decide +kernel
theorem dX6_failNode_57 : decode cX6_failNode 57 = .ok (.iload_n 3, 1) := by decide +kernel
theorem dX6_failNode_58 : decode cX6_failNode 58 = .ok (.iaload, 1) := by decide +kernel
theorem dX6_failNode_59 : decode cX6_failNode 59 = .ok (.iload_n 1, 1) := by decide +kernel
theorem dX6_failNode_60 : decode cX6_failNode 60 = .ok (.if_icmp .ne 12, 3) := by decide +kernel
theorem dX6_failNode_63 : decode cX6_failNode 63 = .ok (.aload_n 0, 1) := by decide +kernel
theorem dX6_failNode_64 : decode cX6_failNode 64 = .ok (.iload_n 3, 1) := by decide +kernel
theorem dX6_failNode_65 : decode cX6_failNode 65 = .ok (.iconst 4, 1) := by decide +kernel
theorem dX6_failNode_66 : decode cX6_failNode 66 = .ok (.invokevirtual 98, 3) := by decide +kernel
theorem dX6_failNode_69 : decode cX6_failNode 69 = .ok (.iinc 2 1, 3) := by decide +kernel
theorem dX6_failNode_72 : decode cX6_failNode 72 = .ok (.iinc 3 1, 3) := by decide +kernel
theorem dX6_failNode_75 : decode cX6_failNode 75 = .ok (.goto (-42), 3) := by decide +kernel
theorem dX6_failNode_78 : decode cX6_failNode 78 = .ok (.iload_n 2, 1) := by decide +kernel
theorem dX6_failNode_79 : decode cX6_failNode 79 = .ok (.ireturn, 1) := by decide +kernel
theorem dX6_repairNode_0 : decode cX6_repairNode 0 = .ok (.aload_n 0, 1) := by decide +kernel
theorem dX6_repairNode_1 : decode cX6_repairNode 1 = .ok (.iload_n 1, 1) := by decide +kernel
theorem dX6_repairNode_2 : decode cX6_repairNode 2 = .ok (.invokevirtual 94, 3) := by decide +kernel
theorem dX6_repairNode_5 : decode cX6_repairNode 5 = .ok (.ifCond .ne 5, 3) := by decide +kernel
theorem dX6_repairNode_8 : decode cX6_repairNode 8 = .ok (.iconst (-1), 1) := by decide +kernel
theorem dX6_repairNode_9 : decode cX6_repairNode 9 = .ok (.ireturn, 1) := by decide +kernel
theorem dX6_repairNode_10 : decode cX6_repairNode 10 = .ok (.aload_n 0, 1) := by decide +kernel
theorem dX6_repairNode_11 : decode cX6_repairNode 11 = .ok (.getfield 16, 3) := by decide +kernel
theorem dX6_repairNode_14 : decode cX6_repairNode 14 = .ok (.iload_n 1, 1) := by decide +kernel
theorem dX6_repairNode_15 : decode cX6_repairNode 15 = .ok (.baload, 1) := by decide +kernel
theorem dX6_repairNode_16 : decode cX6_repairNode 16 = .ok (.ifCond .eq 7, 3) := by decide +kernel
theorem dX6_repairNode_19 : decode cX6_repairNode 19 = .ok (.iconst 0, 1) := by decide +kernel
theorem dX6_repairNode_20 : decode cX6_repairNode 20 = .ok (.goto 4, 3) := by decide +kernel
theorem dX6_repairNode_23 : decode cX6_repairNode 23 = .ok (.iconst 1, 1) := by decide +kernel
theorem dX6_repairNode_24 : decode cX6_repairNode 24 = .ok (.istore_n 2, 1) := by decide +kernel
theorem dX6_repairNode_25 : decode cX6_repairNode 25 = .ok (.aload_n 0, 1) := by decide +kernel
theorem dX6_repairNode_26 : decode cX6_repairNode 26 = .ok (.getfield 16, 3) := by decide +kernel
theorem dX6_repairNode_29 : decode cX6_repairNode 29 = .ok (.iload_n 1, 1) := by decide +kernel
theorem dX6_repairNode_30 : decode cX6_repairNode 30 = .ok (.iconst 1, 1) := by decide +kernel
theorem dX6_repairNode_31 : decode cX6_repairNode 31 = .ok (.bastore, 1) := by decide +kernel
theorem dX6_repairNode_32 : decode cX6_repairNode 32 = .ok (.iload_n 2, 1) := by decide +kernel
theorem dX6_repairNode_33 : decode cX6_repairNode 33 = .ok (.ireturn, 1) := by decide +kernel
theorem dX6_addTask_0 : decode cX6_addTask 0 = .ok (.iload_n 1, 1) := by decide +kernel
theorem dX6_addTask_1 : decode cX6_addTask 1 = .ok (.iconst 1, 1) := by decide +kernel
theorem dX6_addTask_2 : decode cX6_addTask 2 = .ok (.sipush 10000, 3) := by decide +kernel
theorem dX6_addTask_5 : decode cX6_addTask 5 = .ok (.invokestatic 84, 3) := by decide +kernel
theorem dX6_addTask_8 : decode cX6_addTask 8 = .ok (.ifCond .ne 6, 3) := by decide +kernel
theorem dX6_addTask_11 : decode cX6_addTask 11 = .ok (.bipush (-4), 2) := by decide +kernel
theorem dX6_addTask_13 : decode cX6_addTask 13 = .ok (.ireturn, 1) := by decide +kernel
theorem dX6_addTask_14 : decode cX6_addTask 14 = .ok (.aload_n 0, 1) := by decide +kernel
theorem dX6_addTask_15 : decode cX6_addTask 15 = .ok (.getfield 88, 3) := by decide +kernel
theorem dX6_addTask_18 : decode cX6_addTask 18 = .ok (.bipush 24, 2) := by decide +kernel
theorem dX6_addTask_20 : decode cX6_addTask 20 = .ok (.if_icmp .ne 6, 3) := by decide +kernel
theorem dX6_addTask_23 : decode cX6_addTask 23 = .ok (.bipush (-5), 2) := by decide +kernel
theorem dX6_addTask_25 : decode cX6_addTask 25 = .ok (.ireturn, 1) := by decide +kernel
theorem dX6_addTask_26 : decode cX6_addTask 26 = .ok (.aload_n 0, 1) := by decide +kernel
theorem dX6_addTask_27 : decode cX6_addTask 27 = .ok (.getfield 20, 3) := by decide +kernel
theorem dX6_addTask_30 : decode cX6_addTask 30 = .ok (.aload_n 0, 1) := by decide +kernel
theorem dX6_addTask_31 : decode cX6_addTask 31 = .ok (.getfield 88, 3) := by decide +kernel
theorem dX6_addTask_34 : decode cX6_addTask 34 = .ok (.iload_n 1, 1) := by decide +kernel
theorem dX6_addTask_35 : decode cX6_addTask 35 = .ok (.iastore, 1) := by decide +kernel
theorem dX6_addTask_36 : decode cX6_addTask 36 = .ok (.aload_n 0, 1) := by decide +kernel
theorem dX6_addTask_37 : decode cX6_addTask 37 = .ok (.getfield 60, 3) := by decide +kernel
theorem dX6_addTask_40 : decode cX6_addTask 40 = .ok (.aload_n 0, 1) := by decide +kernel
theorem dX6_addTask_41 : decode cX6_addTask 41 = .ok (.getfield 88, 3) := by decide +kernel
theorem dX6_addTask_44 : decode cX6_addTask 44 = .ok (.bipush (-6), 2) := by decide +kernel
theorem dX6_addTask_46 : decode cX6_addTask 46 = .ok (.iastore, 1) := by decide +kernel
theorem dX6_addTask_47 : decode cX6_addTask 47 = .ok (.aload_n 0, 1) := by decide +kernel
theorem dX6_addTask_48 : decode cX6_addTask 48 = .ok (.getfield 63, 3) := by decide +kernel
theorem dX6_addTask_51 : decode cX6_addTask 51 = .ok (.aload_n 0, 1) := by decide +kernel
theorem dX6_addTask_52 : decode cX6_addTask 52 = .ok (.getfield 88, 3) := by decide +kernel
theorem dX6_addTask_55 : decode cX6_addTask 55 = .ok (.bipush (-6), 2) := by decide +kernel
theorem dX6_addTask_57 : decode cX6_addTask 57 = .ok (.iastore, 1) := by decide +kernel
theorem dX6_addTask_58 : decode cX6_addTask 58 = .ok (.aload_n 0, 1) := by decide +kernel
theorem dX6_addTask_59 : decode cX6_addTask 59 = .ok (.dup, 1) := by decide +kernel
theorem dX6_addTask_60 : decode cX6_addTask 60 = .ok (.getfield 88, 3) := by decide +kernel
theorem dX6_addTask_63 : decode cX6_addTask 63 = .ok (.iconst 1, 1) := by decide +kernel
theorem dX6_addTask_64 : decode cX6_addTask 64 = .ok (.iadd, 1) := by decide +kernel
theorem dX6_addTask_65 : decode cX6_addTask 65 = .ok (.putfield 88, 3) := by decide +kernel
theorem dX6_addTask_68 : decode cX6_addTask 68 = .ok (.aload_n 0, 1) := by decide +kernel
theorem dX6_addTask_69 : decode cX6_addTask 69 = .ok (.getfield 88, 3) := by decide +kernel
theorem dX6_addTask_72 : decode cX6_addTask 72 = .ok (.iconst 1, 1) := by decide +kernel
theorem dX6_addTask_73 : decode cX6_addTask 73 = .ok (.isub, 1) := by decide +kernel
theorem dX6_addTask_74 : decode cX6_addTask 74 = .ok (.ireturn, 1) := by decide +kernel
theorem dX6_setPolicy_0 : decode cX6_setPolicy 0 = .ok (.iload_n 1, 1) := by decide +kernel
theorem dX6_setPolicy_1 : decode cX6_setPolicy 1 = .ok (.iconst 0, 1) := by decide +kernel
theorem dX6_setPolicy_2 : decode cX6_setPolicy 2 = .ok (.iconst 2, 1) := by decide +kernel
theorem dX6_setPolicy_3 : decode cX6_setPolicy 3 = .ok (.invokestatic 84, 3) := by decide +kernel
theorem dX6_setPolicy_6 : decode cX6_setPolicy 6 = .ok (.ifCond .ne 6, 3) := by decide +kernel
theorem dX6_setPolicy_9 : decode cX6_setPolicy 9 = .ok (.bipush (-4), 2) := by decide +kernel
theorem dX6_setPolicy_11 : decode cX6_setPolicy 11 = .ok (.ireturn, 1) := by decide +kernel
theorem dX6_setPolicy_12 : decode cX6_setPolicy 12 = .ok (.aload_n 0, 1) := by decide +kernel
theorem dX6_setPolicy_13 : decode cX6_setPolicy 13 = .ok (.getfield 78, 3) := by decide +kernel
theorem dX6_setPolicy_16 : decode cX6_setPolicy 16 = .ok (.istore_n 2, 1) := by decide +kernel
theorem dX6_setPolicy_17 : decode cX6_setPolicy 17 = .ok (.aload_n 0, 1) := by decide +kernel
theorem dX6_setPolicy_18 : decode cX6_setPolicy 18 = .ok (.iload_n 1, 1) := by decide +kernel
theorem dX6_setPolicy_19 : decode cX6_setPolicy 19 = .ok (.putfield 78, 3) := by decide +kernel
theorem dX6_setPolicy_22 : decode cX6_setPolicy 22 = .ok (.iload_n 2, 1) := by decide +kernel
theorem dX6_setPolicy_23 : decode cX6_setPolicy 23 = .ok (.ireturn, 1) := by decide +kernel
theorem dX6_setLimits_0 : decode cX6_setLimits 0 = .ok (.iload_n 1, 1) := by decide +kernel
theorem dX6_setLimits_1 : decode cX6_setLimits 1 = .ok (.iconst 0, 1) := by decide +kernel
theorem dX6_setLimits_2 : decode cX6_setLimits 2 = .ok (.bipush 32, 2) := by decide +kernel
theorem dX6_setLimits_4 : decode cX6_setLimits 4 = .ok (.invokestatic 84, 3) := by decide +kernel
theorem dX6_setLimits_7 : decode cX6_setLimits 7 = .ok (.ifCond .eq 13, 3) := by decide +kernel
theorem dX6_setLimits_10 : decode cX6_setLimits 10 = .ok (.iload_n 2, 1) := by decide +kernel
theorem dX6_setLimits_11 : decode cX6_setLimits 11 = .ok (.iconst 0, 1) := by decide +kernel
theorem dX6_setLimits_12 : decode cX6_setLimits 12 = .ok (.bipush 100, 2) := by decide +kernel
theorem dX6_setLimits_14 : decode cX6_setLimits 14 = .ok (.invokestatic 84, 3) := by decide +kernel
theorem dX6_setLimits_17 : decode cX6_setLimits 17 = .ok (.ifCond .ne 6, 3) := by decide +kernel
theorem dX6_setLimits_20 : decode cX6_setLimits 20 = .ok (.bipush (-4), 2) := by decide +kernel
theorem dX6_setLimits_22 : decode cX6_setLimits 22 = .ok (.ireturn, 1) := by decide +kernel
theorem dX6_setLimits_23 : decode cX6_setLimits 23 = .ok (.aload_n 0, 1) := by decide +kernel
theorem dX6_setLimits_24 : decode cX6_setLimits 24 = .ok (.getfield 23, 3) := by decide +kernel
theorem dX6_setLimits_27 : decode cX6_setLimits 27 = .ok (.iload_n 1, 1) := by decide +kernel
theorem dX6_setLimits_28 : decode cX6_setLimits 28 = .ok (.if_icmp .ne 15, 3) := by decide +kernel
theorem dX6_setLimits_31 : decode cX6_setLimits 31 = .ok (.aload_n 0, 1) := by decide +kernel
theorem dX6_setLimits_32 : decode cX6_setLimits 32 = .ok (.getfield 27, 3) := by decide +kernel
theorem dX6_setLimits_35 : decode cX6_setLimits 35 = .ok (.iload_n 2, 1) := by decide +kernel
theorem dX6_setLimits_36 : decode cX6_setLimits 36 = .ok (.if_icmp .ne 7, 3) := by decide +kernel
theorem dX6_setLimits_39 : decode cX6_setLimits 39 = .ok (.iconst 1, 1) := by decide +kernel
theorem dX6_setLimits_40 : decode cX6_setLimits 40 = .ok (.goto 4, 3) := by decide +kernel
theorem dX6_setLimits_43 : decode cX6_setLimits 43 = .ok (.iconst 0, 1) := by decide +kernel
theorem dX6_setLimits_44 : decode cX6_setLimits 44 = .ok (.istore_n 3, 1) := by decide +kernel
theorem dX6_setLimits_45 : decode cX6_setLimits 45 = .ok (.aload_n 0, 1) := by decide +kernel
theorem dX6_setLimits_46 : decode cX6_setLimits 46 = .ok (.iload_n 1, 1) := by decide +kernel
theorem dX6_setLimits_47 : decode cX6_setLimits 47 = .ok (.putfield 23, 3) := by decide +kernel
theorem dX6_setLimits_50 : decode cX6_setLimits 50 = .ok (.aload_n 0, 1) := by decide +kernel
theorem dX6_setLimits_51 : decode cX6_setLimits 51 = .ok (.iload_n 2, 1) := by decide +kernel
theorem dX6_setLimits_52 : decode cX6_setLimits 52 = .ok (.putfield 27, 3) := by decide +kernel
theorem dX6_setLimits_55 : decode cX6_setLimits 55 = .ok (.iload_n 3, 1) := by decide +kernel
theorem dX6_setLimits_56 : decode cX6_setLimits 56 = .ok (.ifCond .eq 7, 3) := by decide +kernel
theorem dX6_setLimits_59 : decode cX6_setLimits 59 = .ok (.iconst 0, 1) := by decide +kernel
theorem dX6_setLimits_60 : decode cX6_setLimits 60 = .ok (.goto 4, 3) := by decide +kernel
theorem dX6_setLimits_63 : decode cX6_setLimits 63 = .ok (.iconst 1, 1) := by decide +kernel
theorem dX6_setLimits_64 : decode cX6_setLimits 64 = .ok (.ireturn, 1) := by decide +kernel
theorem dX6_setThresholds_0 : decode cX6_setThresholds 0 = .ok (.iload_n 1, 1) := by decide +kernel
theorem dX6_setThresholds_1 : decode cX6_setThresholds 1 = .ok (.iconst 1, 1) := by decide +kernel
theorem dX6_setThresholds_2 : decode cX6_setThresholds 2 = .ok (.sipush 200, 3) := by decide +kernel
theorem dX6_setThresholds_5 : decode cX6_setThresholds 5 = .ok (.invokestatic 84, 3) := by decide +kernel
theorem dX6_setThresholds_8 : decode cX6_setThresholds 8 = .ok (.ifCond .eq 14, 3) := by decide +kernel
theorem dX6_setThresholds_11 : decode cX6_setThresholds 11 = .ok (.iload_n 2, 1) := by decide +kernel
theorem dX6_setThresholds_12 : decode cX6_setThresholds 12 = .ok (.iconst 1, 1) := by decide +kernel
theorem dX6_setThresholds_13 : decode cX6_setThresholds 13 = .ok (.sipush 200, 3) := by decide +kernel
theorem dX6_setThresholds_16 : decode cX6_setThresholds 16 = .ok (.invokestatic 84, 3) := by decide +kernel
theorem dX6_setThresholds_19 : decode cX6_setThresholds 19 = .ok (.ifCond .ne 6, 3) := by decide +kernel
theorem dX6_setThresholds_22 : decode cX6_setThresholds 22 = .ok (.bipush (-4), 2) := by decide +kernel
theorem dX6_setThresholds_24 : decode cX6_setThresholds 24 = .ok (.ireturn, 1) := by decide +kernel
theorem dX6_setThresholds_25 : decode cX6_setThresholds 25 = .ok (.aload_n 0, 1) := by decide +kernel
theorem dX6_setThresholds_26 : decode cX6_setThresholds 26 = .ok (.getfield 30, 3) := by decide +kernel
theorem dX6_setThresholds_29 : decode cX6_setThresholds 29 = .ok (.iload_n 1, 1) := by decide +kernel
theorem dX6_setThresholds_30 : decode cX6_setThresholds 30 = .ok (.if_icmp .ne 15, 3) := by decide +kernel
theorem dX6_setThresholds_33 : decode cX6_setThresholds 33 = .ok (.aload_n 0, 1) := by decide +kernel
theorem dX6_setThresholds_34 : decode cX6_setThresholds 34 = .ok (.getfield 33, 3) := by decide +kernel
theorem dX6_setThresholds_37 : decode cX6_setThresholds 37 = .ok (.iload_n 2, 1) := by decide +kernel
theorem dX6_setThresholds_38 : decode cX6_setThresholds 38 = .ok (.if_icmp .ne 7, 3) := by decide +kernel
theorem dX6_setThresholds_41 : decode cX6_setThresholds 41 = .ok (.iconst 1, 1) := by decide +kernel
theorem dX6_setThresholds_42 : decode cX6_setThresholds 42 = .ok (.goto 4, 3) := by decide +kernel
theorem dX6_setThresholds_45 : decode cX6_setThresholds 45 = .ok (.iconst 0, 1) := by decide +kernel
theorem dX6_setThresholds_46 : decode cX6_setThresholds 46 = .ok (.istore_n 3, 1) := by decide +kernel
theorem dX6_setThresholds_47 : decode cX6_setThresholds 47 = .ok (.aload_n 0, 1) := by decide +kernel
theorem dX6_setThresholds_48 : decode cX6_setThresholds 48 = .ok (.iload_n 1, 1) := by decide +kernel
theorem dX6_setThresholds_49 : decode cX6_setThresholds 49 = .ok (.putfield 30, 3) := by decide +kernel
theorem dX6_setThresholds_52 : decode cX6_setThresholds 52 = .ok (.aload_n 0, 1) := by decide +kernel
theorem dX6_setThresholds_53 : decode cX6_setThresholds 53 = .ok (.iload_n 2, 1) := by decide +kernel
theorem dX6_setThresholds_54 : decode cX6_setThresholds 54 = .ok (.putfield 33, 3) := by decide +kernel
theorem dX6_setThresholds_57 : decode cX6_setThresholds 57 = .ok (.iload_n 3, 1) := by decide +kernel
theorem dX6_setThresholds_58 : decode cX6_setThresholds 58 = .ok (.ifCond .eq 7, 3) := by decide +kernel
theorem dX6_setThresholds_61 : decode cX6_setThresholds 61 = .ok (.iconst 0, 1) := by decide +kernel
theorem dX6_setThresholds_62 : decode cX6_setThresholds 62 = .ok (.goto 4, 3) := by decide +kernel
theorem dX6_setThresholds_65 : decode cX6_setThresholds 65 = .ok (.iconst 1, 1) := by decide +kernel
theorem dX6_setThresholds_66 : decode cX6_setThresholds 66 = .ok (.ireturn, 1) := by decide +kernel
theorem dX6_progressOf_0 : decode cX6_progressOf 0 = .ok (.aload_n 0, 1) := by decide +kernel
theorem dX6_progressOf_1 : decode cX6_progressOf 1 = .ok (.getfield 51, 3) := by decide +kernel
theorem dX6_progressOf_4 : decode cX6_progressOf 4 = .ok (.iload_n 1, 1) := by decide +kernel
theorem dX6_progressOf_5 : decode cX6_progressOf 5 = .ok (.iaload, 1) := by decide +kernel
theorem dX6_progressOf_6 : decode cX6_progressOf 6 = .ok (.sipush 1000, 3) := by decide +kernel
theorem dX6_progressOf_9 : decode cX6_progressOf 9 = .ok (.imul, 1) := by decide +kernel
theorem dX6_progressOf_10 : decode cX6_progressOf 10 = .ok (.aload_n 0, 1) := by decide +kernel
theorem dX6_progressOf_11 : decode cX6_progressOf 11 = .ok (.getfield 20, 3) := by decide +kernel
theorem dX6_progressOf_14 : decode cX6_progressOf 14 = .ok (.aload_n 0, 1) := by decide +kernel
theorem dX6_progressOf_15 : decode cX6_progressOf 15 = .ok (.getfield 42, 3) := by decide +kernel
theorem dX6_progressOf_18 : decode cX6_progressOf 18 = .ok (.iload_n 1, 1) := by decide +kernel
theorem dX6_progressOf_19 : decode cX6_progressOf 19 = .ok (.iaload, 1) := by decide +kernel
theorem dX6_progressOf_20 : decode cX6_progressOf 20 = .ok (.iaload, 1) := by decide +kernel
theorem dX6_progressOf_21 : decode cX6_progressOf 21 = .ok (.idiv, 1) := by decide +kernel
theorem dX6_progressOf_22 : decode cX6_progressOf 22 = .ok (.istore_n 2, 1) := by decide +kernel
theorem dX6_progressOf_23 : decode cX6_progressOf 23 = .ok (.iload_n 2, 1) := by decide +kernel
theorem dX6_progressOf_24 : decode cX6_progressOf 24 = .ok (.sipush 1000, 3) := by decide +kernel
theorem dX6_progressOf_27 : decode cX6_progressOf 27 = .ok (.if_icmp .le 9, 3) := by decide +kernel
theorem dX6_progressOf_30 : decode cX6_progressOf 30 = .ok (.sipush 1000, 3) := by decide +kernel
theorem dX6_progressOf_33 : decode cX6_progressOf 33 = .ok (.goto 4, 3) := by decide +kernel
theorem dX6_progressOf_36 : decode cX6_progressOf 36 = .ok (.iload_n 2, 1) := by decide +kernel
theorem dX6_progressOf_37 : decode cX6_progressOf 37 = .ok (.ireturn, 1) := by decide +kernel
theorem dX6_rateOf_0 : decode cX6_rateOf 0 = .ok (.aload_n 0, 1) := by decide +kernel
theorem dX6_rateOf_1 : decode cX6_rateOf 1 = .ok (.getfield 48, 3) := by decide +kernel
theorem dX6_rateOf_4 : decode cX6_rateOf 4 = .ok (.iload_n 1, 1) := by decide +kernel
theorem dX6_rateOf_5 : decode cX6_rateOf 5 = .ok (.iaload, 1) := by decide +kernel
theorem dX6_rateOf_6 : decode cX6_rateOf 6 = .ok (.ifCond .ne 7, 3) := by decide +kernel
theorem dX6_rateOf_9 : decode cX6_rateOf 9 = .ok (.iconst 0, 1) := by decide +kernel
theorem dX6_rateOf_10 : decode cX6_rateOf 10 = .ok (.goto 15, 3) := by decide +kernel
theorem dX6_rateOf_13 : decode cX6_rateOf 13 = .ok (.aload_n 0, 1) := by decide +kernel
theorem dX6_rateOf_14 : decode cX6_rateOf 14 = .ok (.iload_n 1, 1) := by decide +kernel
theorem dX6_rateOf_15 : decode cX6_rateOf 15 = .ok (.invokevirtual 102, 3) := by decide +kernel
theorem dX6_rateOf_18 : decode cX6_rateOf 18 = .ok (.aload_n 0, 1) := by decide +kernel
theorem dX6_rateOf_19 : decode cX6_rateOf 19 = .ok (.getfield 48, 3) := by decide +kernel
theorem dX6_rateOf_22 : decode cX6_rateOf 22 = .ok (.iload_n 1, 1) := by decide +kernel
theorem dX6_rateOf_23 : decode cX6_rateOf 23 = .ok (.iaload, 1) := by decide +kernel
theorem dX6_rateOf_24 : decode cX6_rateOf 24 = .ok (.idiv, 1) := by decide +kernel
theorem dX6_rateOf_25 : decode cX6_rateOf 25 = .ok (.ireturn, 1) := by decide +kernel
theorem dX6_remainingOf_0 : decode cX6_remainingOf 0 = .ok (.aload_n 0, 1) := by decide +kernel
theorem dX6_remainingOf_1 : decode cX6_remainingOf 1 = .ok (.iload_n 1, 1) := by decide +kernel
theorem dX6_remainingOf_2 : decode cX6_remainingOf 2 = .ok (.invokevirtual 102, 3) := by decide +kernel
theorem dX6_remainingOf_5 : decode cX6_remainingOf 5 = .ok (.istore_n 2, 1) := by decide +kernel
theorem dX6_remainingOf_6 : decode cX6_remainingOf 6 = .ok (.iload_n 2, 1) := by decide +kernel
theorem dX6_remainingOf_7 : decode cX6_remainingOf 7 = .ok (.ifCond .ne 8, 3) := by decide +kernel
theorem dX6_remainingOf_10 : decode cX6_remainingOf 10 = .ok (.ldc 106, 2) := by decide +kernel
theorem dX6_remainingOf_12 : decode cX6_remainingOf 12 = .ok (.goto 21, 3) := by decide +kernel
theorem dX6_remainingOf_15 : decode cX6_remainingOf 15 = .ok (.ldc2_w 107, 3) := by decide +kernel
theorem dX6_remainingOf_18 : decode cX6_remainingOf 18 = .ok (.iload_n 2, 1) := by decide +kernel
theorem dX6_remainingOf_19 : decode cX6_remainingOf 19 = .ok (.i2l, 1) := by decide +kernel
theorem dX6_remainingOf_20 : decode cX6_remainingOf 20 = .ok (.lsub, 1) := by decide +kernel
theorem dX6_remainingOf_21 : decode cX6_remainingOf 21 = .ok (.aload_n 0, 1) := by decide +kernel
theorem dX6_remainingOf_22 : decode cX6_remainingOf 22 = .ok (.getfield 48, 3) := by decide +kernel
theorem dX6_remainingOf_25 : decode cX6_remainingOf 25 = .ok (.iload_n 1, 1) := by decide +kernel
theorem dX6_remainingOf_26 : decode cX6_remainingOf 26 = .ok (.iaload, 1) := by decide +kernel
theorem dX6_remainingOf_27 : decode cX6_remainingOf 27 = .ok (.i2l, 1) := by decide +kernel
theorem dX6_remainingOf_28 : decode cX6_remainingOf 28 = .ok (.lmul, 1) := by decide +kernel
theorem dX6_remainingOf_29 : decode cX6_remainingOf 29 = .ok (.iload_n 2, 1) := by decide +kernel
theorem dX6_remainingOf_30 : decode cX6_remainingOf 30 = .ok (.i2l, 1) := by decide +kernel
theorem dX6_remainingOf_31 : decode cX6_remainingOf 31 = .ok (.ldiv, 1) := by decide +kernel
theorem dX6_remainingOf_32 : decode cX6_remainingOf 32 = .ok (.l2i, 1) := by decide +kernel
theorem dX6_remainingOf_33 : decode cX6_remainingOf 33 = .ok (.ireturn, 1) := by decide +kernel
theorem dX6_scoreOf_0 : decode cX6_scoreOf 0 = .ok (.aload_n 0, 1) := by decide +kernel
theorem dX6_scoreOf_1 : decode cX6_scoreOf 1 = .ok (.getfield 72, 3) := by decide +kernel
theorem dX6_scoreOf_4 : decode cX6_scoreOf 4 = .ok (.bipush 8, 2) := by decide +kernel
theorem dX6_scoreOf_6 : decode cX6_scoreOf 6 = .ok (.aload_n 0, 1) := by decide +kernel
theorem dX6_scoreOf_7 : decode cX6_scoreOf 7 = .ok (.getfield 91, 3) := by decide +kernel
theorem dX6_scoreOf_10 : decode cX6_scoreOf 10 = .ok (.imul, 1) := by decide +kernel
theorem dX6_scoreOf_11 : decode cX6_scoreOf 11 = .ok (.iload_n 1, 1) := by decide +kernel
theorem dX6_scoreOf_12 : decode cX6_scoreOf 12 = .ok (.iadd, 1) := by decide +kernel
theorem dX6_scoreOf_13 : decode cX6_scoreOf 13 = .ok (.iaload, 1) := by decide +kernel
theorem dX6_scoreOf_14 : decode cX6_scoreOf 14 = .ok (.istore_n 2, 1) := by decide +kernel
theorem dX6_scoreOf_15 : decode cX6_scoreOf 15 = .ok (.iload_n 2, 1) := by decide +kernel
theorem dX6_scoreOf_16 : decode cX6_scoreOf 16 = .ok (.ifCond .ne 7, 3) := by decide +kernel
theorem dX6_scoreOf_19 : decode cX6_scoreOf 19 = .ok (.iconst 0, 1) := by decide +kernel
theorem dX6_scoreOf_20 : decode cX6_scoreOf 20 = .ok (.goto 19, 3) := by decide +kernel
theorem dX6_scoreOf_23 : decode cX6_scoreOf 23 = .ok (.aload_n 0, 1) := by decide +kernel
theorem dX6_scoreOf_24 : decode cX6_scoreOf 24 = .ok (.getfield 75, 3) := by decide +kernel
theorem dX6_scoreOf_27 : decode cX6_scoreOf 27 = .ok (.bipush 8, 2) := by decide +kernel
theorem dX6_scoreOf_29 : decode cX6_scoreOf 29 = .ok (.aload_n 0, 1) := by decide +kernel
theorem dX6_scoreOf_30 : decode cX6_scoreOf 30 = .ok (.getfield 91, 3) := by decide +kernel
theorem dX6_scoreOf_33 : decode cX6_scoreOf 33 = .ok (.imul, 1) := by decide +kernel
theorem dX6_scoreOf_34 : decode cX6_scoreOf 34 = .ok (.iload_n 1, 1) := by decide +kernel
theorem dX6_scoreOf_35 : decode cX6_scoreOf 35 = .ok (.iadd, 1) := by decide +kernel
theorem dX6_scoreOf_36 : decode cX6_scoreOf 36 = .ok (.iaload, 1) := by decide +kernel
theorem dX6_scoreOf_37 : decode cX6_scoreOf 37 = .ok (.iload_n 2, 1) := by decide +kernel
theorem dX6_scoreOf_38 : decode cX6_scoreOf 38 = .ok (.idiv, 1) := by decide +kernel
theorem dX6_scoreOf_39 : decode cX6_scoreOf 39 = .ok (.ireturn, 1) := by decide +kernel
theorem dX6_meanRate_0 : decode cX6_meanRate 0 = .ok (.iconst 0, 1) := by decide +kernel
theorem dX6_meanRate_1 : decode cX6_meanRate 1 = .ok (.istore_n 1, 1) := by decide +kernel
theorem dX6_meanRate_2 : decode cX6_meanRate 2 = .ok (.iconst 0, 1) := by decide +kernel
theorem dX6_meanRate_3 : decode cX6_meanRate 3 = .ok (.istore_n 2, 1) := by decide +kernel
theorem dX6_meanRate_4 : decode cX6_meanRate 4 = .ok (.aload_n 0, 1) := by decide +kernel
theorem dX6_meanRate_5 : decode cX6_meanRate 5 = .ok (.invokevirtual 109, 3) := by decide +kernel
theorem dX6_meanRate_8 : decode cX6_meanRate 8 = .ok (.istore_n 3, 1) := by decide +kernel
theorem dX6_meanRate_9 : decode cX6_meanRate 9 = .ok (.iload_n 3, 1) := by decide +kernel
theorem dX6_meanRate_10 : decode cX6_meanRate 10 = .ok (.aload_n 0, 1) := by decide +kernel
theorem dX6_meanRate_11 : decode cX6_meanRate 11 = .ok (.invokevirtual 113, 3) := by decide +kernel
theorem dX6_meanRate_14 : decode cX6_meanRate 14 = .ok (.if_icmp .ge 30, 3) := by decide +kernel
theorem dX6_meanRate_17 : decode cX6_meanRate 17 = .ok (.aload_n 0, 1) := by decide +kernel
theorem dX6_meanRate_18 : decode cX6_meanRate 18 = .ok (.getfield 54, 3) := by decide +kernel
theorem dX6_meanRate_21 : decode cX6_meanRate 21 = .ok (.iload_n 3, 1) := by decide +kernel
theorem dX6_meanRate_22 : decode cX6_meanRate 22 = .ok (.iaload, 1) := by decide +kernel
theorem dX6_meanRate_23 : decode cX6_meanRate 23 = .ok (.iconst 1, 1) := by decide +kernel
theorem dX6_meanRate_24 : decode cX6_meanRate 24 = .ok (.if_icmp .ne 14, 3) := by decide +kernel
theorem dX6_meanRate_27 : decode cX6_meanRate 27 = .ok (.iload_n 1, 1) := by decide +kernel
theorem dX6_meanRate_28 : decode cX6_meanRate 28 = .ok (.aload_n 0, 1) := by decide +kernel
theorem dX6_meanRate_29 : decode cX6_meanRate 29 = .ok (.iload_n 3, 1) := by decide +kernel
theorem dX6_meanRate_30 : decode cX6_meanRate 30 = .ok (.invokevirtual 116, 3) := by decide +kernel
theorem dX6_meanRate_33 : decode cX6_meanRate 33 = .ok (.iadd, 1) := by decide +kernel
theorem dX6_meanRate_34 : decode cX6_meanRate 34 = .ok (.istore_n 1, 1) := by decide +kernel
theorem dX6_meanRate_35 : decode cX6_meanRate 35 = .ok (.iinc 2 1, 3) := by decide +kernel
theorem dX6_meanRate_38 : decode cX6_meanRate 38 = .ok (.iinc 3 1, 3) := by decide +kernel
theorem dX6_meanRate_41 : decode cX6_meanRate 41 = .ok (.goto (-32), 3) := by decide +kernel
theorem dX6_meanRate_44 : decode cX6_meanRate 44 = .ok (.iload_n 2, 1) := by decide +kernel
theorem dX6_meanRate_45 : decode cX6_meanRate 45 = .ok (.ifCond .ne 7, 3) := by decide +kernel
theorem dX6_meanRate_48 : decode cX6_meanRate 48 = .ok (.iconst 0, 1) := by decide +kernel
theorem dX6_meanRate_49 : decode cX6_meanRate 49 = .ok (.goto 6, 3) := by decide +kernel
theorem dX6_meanRate_52 : decode cX6_meanRate 52 = .ok (.iload_n 1, 1) := by decide +kernel
theorem dX6_meanRate_53 : decode cX6_meanRate 53 = .ok (.iload_n 2, 1) := by decide +kernel
theorem dX6_meanRate_54 : decode cX6_meanRate 54 = .ok (.idiv, 1) := by decide +kernel
theorem dX6_meanRate_55 : decode cX6_meanRate 55 = .ok (.ireturn, 1) := by decide +kernel
theorem dX6_meanProgress_0 : decode cX6_meanProgress 0 = .ok (.iconst 0, 1) := by decide +kernel
theorem dX6_meanProgress_1 : decode cX6_meanProgress 1 = .ok (.istore_n 1, 1) := by decide +kernel
theorem dX6_meanProgress_2 : decode cX6_meanProgress 2 = .ok (.iconst 0, 1) := by decide +kernel
theorem dX6_meanProgress_3 : decode cX6_meanProgress 3 = .ok (.istore_n 2, 1) := by decide +kernel
theorem dX6_meanProgress_4 : decode cX6_meanProgress 4 = .ok (.aload_n 0, 1) := by decide +kernel
theorem dX6_meanProgress_5 : decode cX6_meanProgress 5 = .ok (.invokevirtual 109, 3) := by decide +kernel
theorem dX6_meanProgress_8 : decode cX6_meanProgress 8 = .ok (.istore_n 3, 1) := by decide +kernel
theorem dX6_meanProgress_9 : decode cX6_meanProgress 9 = .ok (.iload_n 3, 1) := by decide +kernel
theorem dX6_meanProgress_10 : decode cX6_meanProgress 10 = .ok (.aload_n 0, 1) := by decide +kernel
theorem dX6_meanProgress_11 : decode cX6_meanProgress 11 = .ok (.invokevirtual 113, 3) := by decide +kernel
theorem dX6_meanProgress_14 : decode cX6_meanProgress 14 = .ok (.if_icmp .ge 30, 3) := by decide +kernel
theorem dX6_meanProgress_17 : decode cX6_meanProgress 17 = .ok (.aload_n 0, 1) := by decide +kernel
theorem dX6_meanProgress_18 : decode cX6_meanProgress 18 = .ok (.getfield 54, 3) := by decide +kernel
theorem dX6_meanProgress_21 : decode cX6_meanProgress 21 = .ok (.iload_n 3, 1) := by decide +kernel
theorem dX6_meanProgress_22 : decode cX6_meanProgress 22 = .ok (.iaload, 1) := by decide +kernel
theorem dX6_meanProgress_23 : decode cX6_meanProgress 23 = .ok (.iconst 1, 1) := by decide +kernel
theorem dX6_meanProgress_24 : decode cX6_meanProgress 24 = .ok (.if_icmp .ne 14, 3) := by decide +kernel
theorem dX6_meanProgress_27 : decode cX6_meanProgress 27 = .ok (.iload_n 1, 1) := by decide +kernel
theorem dX6_meanProgress_28 : decode cX6_meanProgress 28 = .ok (.aload_n 0, 1) := by decide +kernel
theorem dX6_meanProgress_29 : decode cX6_meanProgress 29 = .ok (.iload_n 3, 1) := by decide +kernel
theorem dX6_meanProgress_30 : decode cX6_meanProgress 30 = .ok (.invokevirtual 102, 3) := by decide +kernel
theorem dX6_meanProgress_33 : decode cX6_meanProgress 33 = .ok (.iadd, 1) := by decide +kernel
theorem dX6_meanProgress_34 : decode cX6_meanProgress 34 = .ok (.istore_n 1, 1) := by decide +kernel
theorem dX6_meanProgress_35 : decode cX6_meanProgress 35 = .ok (.iinc 2 1, 3) := by decide +kernel
theorem dX6_meanProgress_38 : decode cX6_meanProgress 38 = .ok (.iinc 3 1, 3) := by decide +kernel
theorem dX6_meanProgress_41 : decode cX6_meanProgress 41 = .ok (.goto (-32), 3) := by decide +kernel
theorem dX6_meanProgress_44 : decode cX6_meanProgress 44 = .ok (.iload_n 2, 1) := by decide +kernel
theorem dX6_meanProgress_45 : decode cX6_meanProgress 45 = .ok (.ifCond .ne 7, 3) := by decide +kernel
theorem dX6_meanProgress_48 : decode cX6_meanProgress 48 = .ok (.iconst 0, 1) := by decide +kernel
theorem dX6_meanProgress_49 : decode cX6_meanProgress 49 = .ok (.goto 6, 3) := by decide +kernel
theorem dX6_meanProgress_52 : decode cX6_meanProgress 52 = .ok (.iload_n 1, 1) := by decide +kernel
theorem dX6_meanProgress_53 : decode cX6_meanProgress 53 = .ok (.iload_n 2, 1) := by decide +kernel
theorem dX6_meanProgress_54 : decode cX6_meanProgress 54 = .ok (.idiv, 1) := by decide +kernel
theorem dX6_meanProgress_55 : decode cX6_meanProgress 55 = .ok (.ireturn, 1) := by decide +kernel
theorem dX6_meanScore_0 : decode cX6_meanScore 0 = .ok (.iconst 0, 1) := by decide +kernel
theorem dX6_meanScore_1 : decode cX6_meanScore 1 = .ok (.istore_n 1, 1) := by decide +kernel
theorem dX6_meanScore_2 : decode cX6_meanScore 2 = .ok (.iconst 0, 1) := by decide +kernel
theorem dX6_meanScore_3 : decode cX6_meanScore 3 = .ok (.istore_n 2, 1) := by decide +kernel
theorem dX6_meanScore_4 : decode cX6_meanScore 4 = .ok (.iconst 0, 1) := by decide +kernel
theorem dX6_meanScore_5 : decode cX6_meanScore 5 = .ok (.istore_n 3, 1) := by decide +kernel
theorem dX6_meanScore_6 : decode cX6_meanScore 6 = .ok (.iload_n 3, 1) := by decide +kernel
theorem dX6_meanScore_7 : decode cX6_meanScore 7 = .ok (.aload_n 0, 1) := by decide +kernel
theorem dX6_meanScore_8 : decode cX6_meanScore 8 = .ok (.getfield 81, 3) := by decide +kernel
theorem dX6_meanScore_11 : decode cX6_meanScore 11 = .ok (.if_icmp .ge 46, 3) := by decide +kernel
theorem dX6_meanScore_14 : decode cX6_meanScore 14 = .ok (.aload_n 0, 1) := by decide +kernel
theorem dX6_meanScore_15 : decode cX6_meanScore 15 = .ok (.getfield 16, 3) := by decide +kernel
theorem dX6_meanScore_18 : decode cX6_meanScore 18 = .ok (.iload_n 3, 1) := by decide +kernel
theorem dX6_meanScore_19 : decode cX6_meanScore 19 = .ok (.baload, 1) := by decide +kernel
theorem dX6_meanScore_20 : decode cX6_meanScore 20 = .ok (.ifCond .eq 31, 3) := by decide +kernel
theorem dX6_meanScore_23 : decode cX6_meanScore 23 = .ok (.aload_n 0, 1) := by decide +kernel
theorem dX6_meanScore_24 : decode cX6_meanScore 24 = .ok (.getfield 72, 3) := by decide +kernel
theorem dX6_meanScore_27 : decode cX6_meanScore 27 = .ok (.bipush 8, 2) := by decide +kernel
theorem dX6_meanScore_29 : decode cX6_meanScore 29 = .ok (.aload_n 0, 1) := by decide +kernel
theorem dX6_meanScore_30 : decode cX6_meanScore 30 = .ok (.getfield 91, 3) := by decide +kernel
theorem dX6_meanScore_33 : decode cX6_meanScore 33 = .ok (.imul, 1) := by decide +kernel
theorem dX6_meanScore_34 : decode cX6_meanScore 34 = .ok (.iload_n 3, 1) := by decide +kernel
theorem dX6_meanScore_35 : decode cX6_meanScore 35 = .ok (.iadd, 1) := by decide +kernel
theorem dX6_meanScore_36 : decode cX6_meanScore 36 = .ok (.iaload, 1) := by decide +kernel
theorem dX6_meanScore_37 : decode cX6_meanScore 37 = .ok (.ifCond .le 14, 3) := by decide +kernel
theorem dX6_meanScore_40 : decode cX6_meanScore 40 = .ok (.iload_n 1, 1) := by decide +kernel
theorem dX6_meanScore_41 : decode cX6_meanScore 41 = .ok (.aload_n 0, 1) := by decide +kernel
theorem dX6_meanScore_42 : decode cX6_meanScore 42 = .ok (.iload_n 3, 1) := by decide +kernel
theorem dX6_meanScore_43 : decode cX6_meanScore 43 = .ok (.invokevirtual 119, 3) := by decide +kernel
theorem dX6_meanScore_46 : decode cX6_meanScore 46 = .ok (.iadd, 1) := by decide +kernel
theorem dX6_meanScore_47 : decode cX6_meanScore 47 = .ok (.istore_n 1, 1) := by decide +kernel
theorem dX6_meanScore_48 : decode cX6_meanScore 48 = .ok (.iinc 2 1, 3) := by decide +kernel
theorem dX6_meanScore_51 : decode cX6_meanScore 51 = .ok (.iinc 3 1, 3) := by decide +kernel
theorem dX6_meanScore_54 : decode cX6_meanScore 54 = .ok (.goto (-48), 3) := by decide +kernel
theorem dX6_meanScore_57 : decode cX6_meanScore 57 = .ok (.iload_n 2, 1) := by decide +kernel
theorem dX6_meanScore_58 : decode cX6_meanScore 58 = .ok (.ifCond .ne 7, 3) := by decide +kernel
theorem dX6_meanScore_61 : decode cX6_meanScore 61 = .ok (.iconst 0, 1) := by decide +kernel
theorem dX6_meanScore_62 : decode cX6_meanScore 62 = .ok (.goto 6, 3) := by decide +kernel
theorem dX6_meanScore_65 : decode cX6_meanScore 65 = .ok (.iload_n 1, 1) := by decide +kernel
theorem dX6_meanScore_66 : decode cX6_meanScore 66 = .ok (.iload_n 2, 1) := by decide +kernel
theorem dX6_meanScore_67 : decode cX6_meanScore 67 = .ok (.idiv, 1) := by decide +kernel
theorem dX6_meanScore_68 : decode cX6_meanScore 68 = .ok (.ireturn, 1) := by decide +kernel
theorem dX6_isSlow_0 : decode cX6_isSlow 0 = .ok (.aload_n 0, 1) := by decide +kernel
theorem dX6_isSlow_1 : decode cX6_isSlow 1 = .ok (.getfield 72, 3) := by decide +kernel
theorem dX6_isSlow_4 : decode cX6_isSlow 4 = .ok (.bipush 8, 2) := by decide +kernel
theorem dX6_isSlow_6 : decode cX6_isSlow 6 = .ok (.aload_n 0, 1) := by decide +kernel
theorem dX6_isSlow_7 : decode cX6_isSlow 7 = .ok (.getfield 91, 3) := by decide +kernel
theorem dX6_isSlow_10 : decode cX6_isSlow 10 = .ok (.imul, 1) := by decide +kernel
theorem dX6_isSlow_11 : decode cX6_isSlow 11 = .ok (.iload_n 1, 1) := by decide +kernel
theorem dX6_isSlow_12 : decode cX6_isSlow 12 = .ok (.iadd, 1) := by decide +kernel
theorem dX6_isSlow_13 : decode cX6_isSlow 13 = .ok (.iaload, 1) := by decide +kernel
theorem dX6_isSlow_14 : decode cX6_isSlow 14 = .ok (.ifCond .le 27, 3) := by decide +kernel
theorem dX6_isSlow_17 : decode cX6_isSlow 17 = .ok (.aload_n 0, 1) := by decide +kernel
theorem dX6_isSlow_18 : decode cX6_isSlow 18 = .ok (.iload_n 1, 1) := by decide +kernel
theorem dX6_isSlow_19 : decode cX6_isSlow 19 = .ok (.invokevirtual 119, 3) := by decide +kernel
theorem dX6_isSlow_22 : decode cX6_isSlow 22 = .ok (.bipush 100, 2) := by decide +kernel
theorem dX6_isSlow_24 : decode cX6_isSlow 24 = .ok (.imul, 1) := by decide +kernel
theorem dX6_isSlow_25 : decode cX6_isSlow 25 = .ok (.aload_n 0, 1) := by decide +kernel
theorem dX6_isSlow_26 : decode cX6_isSlow 26 = .ok (.invokevirtual 122, 3) := by decide +kernel
theorem dX6_isSlow_29 : decode cX6_isSlow 29 = .ok (.aload_n 0, 1) := by decide +kernel
theorem dX6_isSlow_30 : decode cX6_isSlow 30 = .ok (.getfield 33, 3) := by decide +kernel
theorem dX6_isSlow_33 : decode cX6_isSlow 33 = .ok (.imul, 1) := by decide +kernel
theorem dX6_isSlow_34 : decode cX6_isSlow 34 = .ok (.if_icmp .ge 7, 3) := by decide +kernel
theorem dX6_isSlow_37 : decode cX6_isSlow 37 = .ok (.iconst 1, 1) := by decide +kernel
theorem dX6_isSlow_38 : decode cX6_isSlow 38 = .ok (.goto 4, 3) := by decide +kernel
theorem dX6_isSlow_41 : decode cX6_isSlow 41 = .ok (.iconst 0, 1) := by decide +kernel
theorem dX6_isSlow_42 : decode cX6_isSlow 42 = .ok (.ireturn, 1) := by decide +kernel
theorem dX6_isCandidate_0 : decode cX6_isCandidate 0 = .ok (.aload_n 0, 1) := by decide +kernel
theorem dX6_isCandidate_1 : decode cX6_isCandidate 1 = .ok (.getfield 54, 3) := by decide +kernel
theorem dX6_isCandidate_4 : decode cX6_isCandidate 4 = .ok (.iload_n 1, 1) := by decide +kernel
theorem dX6_isCandidate_5 : decode cX6_isCandidate 5 = .ok (.iaload, 1) := by decide +kernel
theorem dX6_isCandidate_6 : decode cX6_isCandidate 6 = .ok (.iconst 1, 1) := by decide +kernel
theorem dX6_isCandidate_7 : decode cX6_isCandidate 7 = .ok (.if_icmp .ne 43, 3) := by decide +kernel
theorem dX6_isCandidate_10 : decode cX6_isCandidate 10 = .ok (.aload_n 0, 1) := by decide +kernel
theorem dX6_isCandidate_11 : decode cX6_isCandidate 11 = .ok (.getfield 66, 3) := by decide +kernel
theorem dX6_isCandidate_14 : decode cX6_isCandidate 14 = .ok (.bipush 24, 2) := by decide +kernel
theorem dX6_isCandidate_16 : decode cX6_isCandidate 16 = .ok (.aload_n 0, 1) := by decide +kernel
theorem dX6_isCandidate_17 : decode cX6_isCandidate 17 = .ok (.getfield 91, 3) := by decide +kernel
theorem dX6_isCandidate_20 : decode cX6_isCandidate 20 = .ok (.imul, 1) := by decide +kernel
theorem dX6_isCandidate_21 : decode cX6_isCandidate 21 = .ok (.aload_n 0, 1) := by decide +kernel
theorem dX6_isCandidate_22 : decode cX6_isCandidate 22 = .ok (.getfield 42, 3) := by decide +kernel
theorem dX6_isCandidate_25 : decode cX6_isCandidate 25 = .ok (.iload_n 1, 1) := by decide +kernel
theorem dX6_isCandidate_26 : decode cX6_isCandidate 26 = .ok (.iaload, 1) := by decide +kernel
theorem dX6_isCandidate_27 : decode cX6_isCandidate 27 = .ok (.iadd, 1) := by decide +kernel
theorem dX6_isCandidate_28 : decode cX6_isCandidate 28 = .ok (.iaload, 1) := by decide +kernel
theorem dX6_isCandidate_29 : decode cX6_isCandidate 29 = .ok (.iconst 1, 1) := by decide +kernel
theorem dX6_isCandidate_30 : decode cX6_isCandidate 30 = .ok (.if_icmp .ne 20, 3) := by decide +kernel
theorem dX6_isCandidate_33 : decode cX6_isCandidate 33 = .ok (.aload_n 0, 1) := by decide +kernel
theorem dX6_isCandidate_34 : decode cX6_isCandidate 34 = .ok (.getfield 48, 3) := by decide +kernel
theorem dX6_isCandidate_37 : decode cX6_isCandidate 37 = .ok (.iload_n 1, 1) := by decide +kernel
theorem dX6_isCandidate_38 : decode cX6_isCandidate 38 = .ok (.iaload, 1) := by decide +kernel
theorem dX6_isCandidate_39 : decode cX6_isCandidate 39 = .ok (.aload_n 0, 1) := by decide +kernel
theorem dX6_isCandidate_40 : decode cX6_isCandidate 40 = .ok (.getfield 27, 3) := by decide +kernel
theorem dX6_isCandidate_43 : decode cX6_isCandidate 43 = .ok (.if_icmp .lt 7, 3) := by decide +kernel
theorem dX6_isCandidate_46 : decode cX6_isCandidate 46 = .ok (.iconst 1, 1) := by decide +kernel
theorem dX6_isCandidate_47 : decode cX6_isCandidate 47 = .ok (.goto 4, 3) := by decide +kernel
theorem dX6_isCandidate_50 : decode cX6_isCandidate 50 = .ok (.iconst 0, 1) := by decide +kernel
theorem dX6_isCandidate_51 : decode cX6_isCandidate 51 = .ok (.ireturn, 1) := by decide +kernel
theorem dX6_naiveStraggler_0 : decode cX6_naiveStraggler 0 = .ok (.bipush (-6), 2) := by decide +kernel
theorem dX6_naiveStraggler_2 : decode cX6_naiveStraggler 2 = .ok (.istore_n 1, 1) := by decide +kernel
theorem dX6_naiveStraggler_3 : decode cX6_naiveStraggler 3 = .ok (.aload_n 0, 1) := by decide +kernel
theorem dX6_naiveStraggler_4 : decode cX6_naiveStraggler 4 = .ok (.invokevirtual 109, 3) := by decide +kernel
theorem dX6_naiveStraggler_7 : decode cX6_naiveStraggler 7 = .ok (.istore_n 2, 1) := by decide +kernel
theorem dX6_naiveStraggler_8 : decode cX6_naiveStraggler 8 = .ok (.iload_n 2, 1) := by decide +kernel
theorem dX6_naiveStraggler_9 : decode cX6_naiveStraggler 9 = .ok (.aload_n 0, 1) := by decide +kernel
theorem dX6_naiveStraggler_10 : decode cX6_naiveStraggler 10 = .ok (.invokevirtual 113, 3) := by decide +kernel
theorem dX6_naiveStraggler_13 : decode cX6_naiveStraggler 13 = .ok (.if_icmp .ge 42, 3) := by decide +kernel
theorem dX6_naiveStraggler_16 : decode cX6_naiveStraggler 16 = .ok (.aload_n 0, 1) := by decide +kernel
theorem dX6_naiveStraggler_17 : decode cX6_naiveStraggler 17 = .ok (.iload_n 2, 1) := by decide +kernel
theorem dX6_naiveStraggler_18 : decode cX6_naiveStraggler 18 = .ok (.invokevirtual 125, 3) := by decide +kernel
theorem dX6_naiveStraggler_21 : decode cX6_naiveStraggler 21 = .ok (.ifCond .eq 26, 3) := by decide +kernel
theorem dX6_naiveStraggler_24 : decode cX6_naiveStraggler 24 = .ok (.iload_n 1, 1) := by decide +kernel
theorem dX6_naiveStraggler_25 : decode cX6_naiveStraggler 25 = .ok (.bipush (-6), 2) := by decide +kernel
theorem dX6_naiveStraggler_27 : decode cX6_naiveStraggler 27 = .ok (.if_icmp .eq 16, 3) := by decide +kernel
theorem dX6_naiveStraggler_30 : decode cX6_naiveStraggler 30 = .ok (.aload_n 0, 1) := by decide +kernel
theorem dX6_naiveStraggler_31 : decode cX6_naiveStraggler 31 = .ok (.iload_n 2, 1) := by decide +kernel
theorem dX6_naiveStraggler_32 : decode cX6_naiveStraggler 32 = .ok (.invokevirtual 102, 3) := by decide +kernel
theorem dX6_naiveStraggler_35 : decode cX6_naiveStraggler 35 = .ok (.aload_n 0, 1) := by decide +kernel
theorem dX6_naiveStraggler_36 : decode cX6_naiveStraggler 36 = .ok (.iload_n 1, 1) := by decide +kernel
theorem dX6_naiveStraggler_37 : decode cX6_naiveStraggler 37 = .ok (.invokevirtual 102, 3) := by decide +kernel
theorem dX6_naiveStraggler_40 : decode cX6_naiveStraggler 40 = .ok (.if_icmp .ge 7, 3) := by decide +kernel
theorem dX6_naiveStraggler_43 : decode cX6_naiveStraggler 43 = .ok (.iload_n 2, 1) := by decide +kernel
theorem dX6_naiveStraggler_44 : decode cX6_naiveStraggler 44 = .ok (.goto 4, 3) := by decide +kernel
theorem dX6_naiveStraggler_47 : decode cX6_naiveStraggler 47 = .ok (.iload_n 1, 1) := by decide +kernel
theorem dX6_naiveStraggler_48 : decode cX6_naiveStraggler 48 = .ok (.istore_n 1, 1) := by decide +kernel
theorem dX6_naiveStraggler_49 : decode cX6_naiveStraggler 49 = .ok (.iinc 2 1, 3) := by decide +kernel
theorem dX6_naiveStraggler_52 : decode cX6_naiveStraggler 52 = .ok (.goto (-44), 3) := by decide +kernel
theorem dX6_naiveStraggler_55 : decode cX6_naiveStraggler 55 = .ok (.iload_n 1, 1) := by decide +kernel
theorem dX6_naiveStraggler_56 : decode cX6_naiveStraggler 56 = .ok (.bipush (-6), 2) := by decide +kernel
theorem dX6_naiveStraggler_58 : decode cX6_naiveStraggler 58 = .ok (.if_icmp .eq 23, 3) := by decide +kernel
theorem dX6_naiveStraggler_61 : decode cX6_naiveStraggler 61 = .ok (.aload_n 0, 1) := by decide +kernel
theorem dX6_naiveStraggler_62 : decode cX6_naiveStraggler 62 = .ok (.iload_n 1, 1) := by decide +kernel
theorem dX6_naiveStraggler_63 : decode cX6_naiveStraggler 63 = .ok (.invokevirtual 102, 3) := by decide +kernel
theorem dX6_naiveStraggler_66 : decode cX6_naiveStraggler 66 = .ok (.sipush 200, 3) := by decide +kernel
theorem dX6_naiveStraggler_69 : decode cX6_naiveStraggler 69 = .ok (.iadd, 1) := by decide +kernel
theorem dX6_naiveStraggler_70 : decode cX6_naiveStraggler 70 = .ok (.aload_n 0, 1) := by decide +kernel
theorem dX6_naiveStraggler_71 : decode cX6_naiveStraggler 71 = .ok (.invokevirtual 128, 3) := by decide +kernel
theorem dX6_naiveStraggler_74 : decode cX6_naiveStraggler 74 = .ok (.if_icmp .ge 7, 3) := by decide +kernel
theorem dX6_naiveStraggler_77 : decode cX6_naiveStraggler 77 = .ok (.iload_n 1, 1) := by decide +kernel
theorem dX6_naiveStraggler_78 : decode cX6_naiveStraggler 78 = .ok (.goto 5, 3) := by decide +kernel
theorem dX6_naiveStraggler_81 : decode cX6_naiveStraggler 81 = .ok (.bipush (-6), 2) := by decide +kernel
theorem dX6_naiveStraggler_83 : decode cX6_naiveStraggler 83 = .ok (.ireturn, 1) := by decide +kernel
theorem dX6_lateStraggler_0 : decode cX6_lateStraggler 0 = .ok (.aload_n 0, 1) := by decide +kernel
theorem dX6_lateStraggler_1 : decode cX6_lateStraggler 1 = .ok (.invokevirtual 131, 3) := by decide +kernel
theorem dX6_lateStraggler_4 : decode cX6_lateStraggler 4 = .ok (.aload_n 0, 1) := by decide +kernel
theorem dX6_lateStraggler_5 : decode cX6_lateStraggler 5 = .ok (.getfield 30, 3) := by decide +kernel
theorem dX6_lateStraggler_8 : decode cX6_lateStraggler 8 = .ok (.imul, 1) := by decide +kernel
theorem dX6_lateStraggler_9 : decode cX6_lateStraggler 9 = .ok (.istore_n 1, 1) := by decide +kernel
theorem dX6_lateStraggler_10 : decode cX6_lateStraggler 10 = .ok (.bipush (-6), 2) := by decide +kernel
theorem dX6_lateStraggler_12 : decode cX6_lateStraggler 12 = .ok (.istore_n 2, 1) := by decide +kernel
theorem dX6_lateStraggler_13 : decode cX6_lateStraggler 13 = .ok (.aload_n 0, 1) := by decide +kernel
theorem dX6_lateStraggler_14 : decode cX6_lateStraggler 14 = .ok (.invokevirtual 109, 3) := by decide +kernel
theorem dX6_lateStraggler_17 : decode cX6_lateStraggler 17 = .ok (.istore_n 3, 1) := by decide +kernel
theorem dX6_lateStraggler_18 : decode cX6_lateStraggler 18 = .ok (.iload_n 3, 1) := by decide +kernel
theorem dX6_lateStraggler_19 : decode cX6_lateStraggler 19 = .ok (.aload_n 0, 1) := by decide +kernel
theorem dX6_lateStraggler_20 : decode cX6_lateStraggler 20 = .ok (.invokevirtual 113, 3) := by decide +kernel
theorem dX6_lateStraggler_23 : decode cX6_lateStraggler 23 = .ok (.if_icmp .ge 66, 3) := by decide +kernel
theorem dX6_lateStraggler_26 : decode cX6_lateStraggler 26 = .ok (.aload_n 0, 1) := by decide +kernel
theorem dX6_lateStraggler_27 : decode cX6_lateStraggler 27 = .ok (.iload_n 3, 1) := by decide +kernel
theorem dX6_lateStraggler_28 : decode cX6_lateStraggler 28 = .ok (.invokevirtual 125, 3) := by decide +kernel
theorem dX6_lateStraggler_31 : decode cX6_lateStraggler 31 = .ok (.ifCond .eq 19, 3) := by decide +kernel
theorem dX6_lateStraggler_34 : decode cX6_lateStraggler 34 = .ok (.aload_n 0, 1) := by decide +kernel
theorem dX6_lateStraggler_35 : decode cX6_lateStraggler 35 = .ok (.iload_n 3, 1) := by decide +kernel
theorem dX6_lateStraggler_36 : decode cX6_lateStraggler 36 = .ok (.invokevirtual 116, 3) := by decide +kernel
theorem dX6_lateStraggler_39 : decode cX6_lateStraggler 39 = .ok (.bipush 100, 2) := by decide +kernel
theorem dX6_lateStraggler_41 : decode cX6_lateStraggler 41 = .ok (.imul, 1) := by decide +kernel
theorem dX6_lateStraggler_42 : decode cX6_lateStraggler 42 = .ok (.iload_n 1, 1) := by decide +kernel
theorem dX6_lateStraggler_43 : decode cX6_lateStraggler 43 = .ok (.if_icmp .ge 7, 3) := by decide +kernel
theorem dX6_lateStraggler_46 : decode cX6_lateStraggler 46 = .ok (.iconst 1, 1) := by decide +kernel
theorem dX6_lateStraggler_47 : decode cX6_lateStraggler 47 = .ok (.goto 4, 3) := by decide +kernel
theorem dX6_lateStraggler_50 : decode cX6_lateStraggler 50 = .ok (.iconst 0, 1) := by decide +kernel
theorem dX6_lateStraggler_51 : decode cX6_lateStraggler 51 = .ok (.istore 4, 2) := by decide +kernel
theorem dX6_lateStraggler_53 : decode cX6_lateStraggler 53 = .ok (.iload 4, 2) := by decide +kernel
theorem dX6_lateStraggler_55 : decode cX6_lateStraggler 55 = .ok (.ifCond .eq 26, 3) := by decide +kernel
theorem dX6_lateStraggler_58 : decode cX6_lateStraggler 58 = .ok (.iload_n 2, 1) := by decide +kernel
theorem dX6_lateStraggler_59 : decode cX6_lateStraggler 59 = .ok (.bipush (-6), 2) := by decide +kernel
theorem dX6_lateStraggler_61 : decode cX6_lateStraggler 61 = .ok (.if_icmp .eq 16, 3) := by decide +kernel
theorem dX6_lateStraggler_64 : decode cX6_lateStraggler 64 = .ok (.aload_n 0, 1) := by decide +kernel
theorem dX6_lateStraggler_65 : decode cX6_lateStraggler 65 = .ok (.iload_n 3, 1) := by decide +kernel
theorem dX6_lateStraggler_66 : decode cX6_lateStraggler 66 = .ok (.invokevirtual 134, 3) := by decide +kernel
theorem dX6_lateStraggler_69 : decode cX6_lateStraggler 69 = .ok (.aload_n 0, 1) := by decide +kernel
theorem dX6_lateStraggler_70 : decode cX6_lateStraggler 70 = .ok (.iload_n 2, 1) := by decide +kernel
theorem dX6_lateStraggler_71 : decode cX6_lateStraggler 71 = .ok (.invokevirtual 134, 3) := by decide +kernel
theorem dX6_lateStraggler_74 : decode cX6_lateStraggler 74 = .ok (.if_icmp .le 7, 3) := by decide +kernel
theorem dX6_lateStraggler_77 : decode cX6_lateStraggler 77 = .ok (.iload_n 3, 1) := by decide +kernel
theorem dX6_lateStraggler_78 : decode cX6_lateStraggler 78 = .ok (.goto 4, 3) := by decide +kernel
theorem dX6_lateStraggler_81 : decode cX6_lateStraggler 81 = .ok (.iload_n 2, 1) := by decide +kernel
theorem dX6_lateStraggler_82 : decode cX6_lateStraggler 82 = .ok (.istore_n 2, 1) := by decide +kernel
theorem dX6_lateStraggler_83 : decode cX6_lateStraggler 83 = .ok (.iinc 3 1, 3) := by decide +kernel
theorem dX6_lateStraggler_86 : decode cX6_lateStraggler 86 = .ok (.goto (-68), 3) := by decide +kernel
theorem dX6_lateStraggler_89 : decode cX6_lateStraggler 89 = .ok (.iload_n 2, 1) := by decide +kernel
theorem dX6_lateStraggler_90 : decode cX6_lateStraggler 90 = .ok (.ireturn, 1) := by decide +kernel
theorem dX6_stragglerBy_0 : decode cX6_stragglerBy 0 = .ok (.iload_n 1, 1) := by decide +kernel
theorem dX6_stragglerBy_1 : decode cX6_stragglerBy 1 = .ok (.iconst 1, 1) := by decide +kernel
theorem dX6_stragglerBy_2 : decode cX6_stragglerBy 2 = .ok (.if_icmp .ne 10, 3) := by decide +kernel
theorem dX6_stragglerBy_5 : decode cX6_stragglerBy 5 = .ok (.aload_n 0, 1) := by decide +kernel
theorem dX6_stragglerBy_6 : decode cX6_stragglerBy 6 = .ok (.invokevirtual 137, 3) := by decide +kernel
theorem dX6_stragglerBy_9 : decode cX6_stragglerBy 9 = .ok (.goto 17, 3) := by decide +kernel
theorem dX6_stragglerBy_12 : decode cX6_stragglerBy 12 = .ok (.iload_n 1, 1) := by decide +kernel
theorem dX6_stragglerBy_13 : decode cX6_stragglerBy 13 = .ok (.iconst 2, 1) := by decide +kernel
theorem dX6_stragglerBy_14 : decode cX6_stragglerBy 14 = .ok (.if_icmp .ne 10, 3) := by decide +kernel
theorem dX6_stragglerBy_17 : decode cX6_stragglerBy 17 = .ok (.aload_n 0, 1) := by decide +kernel
theorem dX6_stragglerBy_18 : decode cX6_stragglerBy 18 = .ok (.invokevirtual 140, 3) := by decide +kernel
theorem dX6_stragglerBy_21 : decode cX6_stragglerBy 21 = .ok (.goto 5, 3) := by decide +kernel
theorem dX6_stragglerBy_24 : decode cX6_stragglerBy 24 = .ok (.bipush (-6), 2) := by decide +kernel
theorem dX6_stragglerBy_26 : decode cX6_stragglerBy 26 = .ok (.ireturn, 1) := by decide +kernel
theorem dX6_speculative_0 : decode cX6_speculative 0 = .ok (.iconst 0, 1) := by decide +kernel
theorem dX6_speculative_1 : decode cX6_speculative 1 = .ok (.istore_n 1, 1) := by decide +kernel
theorem dX6_speculative_2 : decode cX6_speculative 2 = .ok (.aload_n 0, 1) := by decide +kernel
theorem dX6_speculative_3 : decode cX6_speculative 3 = .ok (.invokevirtual 109, 3) := by decide +kernel
theorem dX6_speculative_6 : decode cX6_speculative 6 = .ok (.istore_n 2, 1) := by decide +kernel
theorem dX6_speculative_7 : decode cX6_speculative 7 = .ok (.iload_n 2, 1) := by decide +kernel
theorem dX6_speculative_8 : decode cX6_speculative 8 = .ok (.aload_n 0, 1) := by decide +kernel
theorem dX6_speculative_9 : decode cX6_speculative 9 = .ok (.invokevirtual 113, 3) := by decide +kernel
theorem dX6_speculative_12 : decode cX6_speculative 12 = .ok (.if_icmp .ge 36, 3) := by decide +kernel
theorem dX6_speculative_15 : decode cX6_speculative 15 = .ok (.iload_n 1, 1) := by decide +kernel
theorem dX6_speculative_16 : decode cX6_speculative 16 = .ok (.aload_n 0, 1) := by decide +kernel
theorem dX6_speculative_17 : decode cX6_speculative 17 = .ok (.getfield 54, 3) := by decide +kernel
theorem dX6_speculative_20 : decode cX6_speculative 20 = .ok (.iload_n 2, 1) := by decide +kernel
theorem dX6_speculative_21 : decode cX6_speculative 21 = .ok (.iaload, 1) := by decide +kernel
theorem dX6_speculative_22 : decode cX6_speculative 22 = .ok (.iconst 1, 1) := by decide +kernel
theorem dX6_speculative_23 : decode cX6_speculative 23 = .ok (.if_icmp .ne 16, 3) := by decide +kernel
theorem dX6_speculative_26 : decode cX6_speculative 26 = .ok (.aload_n 0, 1) := by decide +kernel
theorem dX6_speculative_27 : decode cX6_speculative 27 = .ok (.getfield 57, 3) := by decide +kernel
theorem dX6_speculative_30 : decode cX6_speculative 30 = .ok (.iload_n 2, 1) := by decide +kernel
theorem dX6_speculative_31 : decode cX6_speculative 31 = .ok (.baload, 1) := by decide +kernel
theorem dX6_speculative_32 : decode cX6_speculative 32 = .ok (.ifCond .eq 7, 3) := by decide +kernel
theorem dX6_speculative_35 : decode cX6_speculative 35 = .ok (.iconst 1, 1) := by decide +kernel
theorem dX6_speculative_36 : decode cX6_speculative 36 = .ok (.goto 4, 3) := by decide +kernel
theorem dX6_speculative_39 : decode cX6_speculative 39 = .ok (.iconst 0, 1) := by decide +kernel
theorem dX6_speculative_40 : decode cX6_speculative 40 = .ok (.iadd, 1) := by decide +kernel
theorem dX6_speculative_41 : decode cX6_speculative 41 = .ok (.istore_n 1, 1) := by decide +kernel
theorem dX6_speculative_42 : decode cX6_speculative 42 = .ok (.iinc 2 1, 3) := by decide +kernel
theorem dX6_speculative_45 : decode cX6_speculative 45 = .ok (.goto (-38), 3) := by decide +kernel
theorem dX6_speculative_48 : decode cX6_speculative 48 = .ok (.iload_n 1, 1) := by decide +kernel
theorem dX6_speculative_49 : decode cX6_speculative 49 = .ok (.ireturn, 1) := by decide +kernel
theorem dX6_stateOfTask_0 : decode cX6_stateOfTask 0 = .ok (.bipush 24, 2) := by decide +kernel
theorem dX6_stateOfTask_2 : decode cX6_stateOfTask 2 = .ok (.aload_n 0, 1) := by decide +kernel
theorem dX6_stateOfTask_3 : decode cX6_stateOfTask 3 = .ok (.getfield 91, 3) := by decide +kernel
theorem dX6_stateOfTask_6 : decode cX6_stateOfTask 6 = .ok (.imul, 1) := by decide +kernel
theorem dX6_stateOfTask_7 : decode cX6_stateOfTask 7 = .ok (.iload_n 1, 1) := by decide +kernel
theorem dX6_stateOfTask_8 : decode cX6_stateOfTask 8 = .ok (.iadd, 1) := by decide +kernel
theorem dX6_stateOfTask_9 : decode cX6_stateOfTask 9 = .ok (.istore_n 2, 1) := by decide +kernel
theorem dX6_stateOfTask_10 : decode cX6_stateOfTask 10 = .ok (.aload_n 0, 1) := by decide +kernel
theorem dX6_stateOfTask_11 : decode cX6_stateOfTask 11 = .ok (.getfield 60, 3) := by decide +kernel
theorem dX6_stateOfTask_14 : decode cX6_stateOfTask 14 = .ok (.iload_n 2, 1) := by decide +kernel
theorem dX6_stateOfTask_15 : decode cX6_stateOfTask 15 = .ok (.iaload, 1) := by decide +kernel
theorem dX6_stateOfTask_16 : decode cX6_stateOfTask 16 = .ok (.bipush (-6), 2) := by decide +kernel
theorem dX6_stateOfTask_18 : decode cX6_stateOfTask 18 = .ok (.if_icmp .eq 7, 3) := by decide +kernel
theorem dX6_stateOfTask_21 : decode cX6_stateOfTask 21 = .ok (.iconst 2, 1) := by decide +kernel
theorem dX6_stateOfTask_22 : decode cX6_stateOfTask 22 = .ok (.goto 17, 3) := by decide +kernel
theorem dX6_stateOfTask_25 : decode cX6_stateOfTask 25 = .ok (.aload_n 0, 1) := by decide +kernel
theorem dX6_stateOfTask_26 : decode cX6_stateOfTask 26 = .ok (.getfield 66, 3) := by decide +kernel
theorem dX6_stateOfTask_29 : decode cX6_stateOfTask 29 = .ok (.iload_n 2, 1) := by decide +kernel
theorem dX6_stateOfTask_30 : decode cX6_stateOfTask 30 = .ok (.iaload, 1) := by decide +kernel
theorem dX6_stateOfTask_31 : decode cX6_stateOfTask 31 = .ok (.ifCond .le 7, 3) := by decide +kernel
theorem dX6_stateOfTask_34 : decode cX6_stateOfTask 34 = .ok (.iconst 1, 1) := by decide +kernel
theorem dX6_stateOfTask_35 : decode cX6_stateOfTask 35 = .ok (.goto 4, 3) := by decide +kernel
theorem dX6_stateOfTask_38 : decode cX6_stateOfTask 38 = .ok (.iconst 0, 1) := by decide +kernel
theorem dX6_stateOfTask_39 : decode cX6_stateOfTask 39 = .ok (.ireturn, 1) := by decide +kernel
theorem dX6_firstWaiting_0 : decode cX6_firstWaiting 0 = .ok (.iconst 0, 1) := by decide +kernel
theorem dX6_firstWaiting_1 : decode cX6_firstWaiting 1 = .ok (.istore_n 1, 1) := by decide +kernel
theorem dX6_firstWaiting_2 : decode cX6_firstWaiting 2 = .ok (.iload_n 1, 1) := by decide +kernel
theorem dX6_firstWaiting_3 : decode cX6_firstWaiting 3 = .ok (.aload_n 0, 1) := by decide +kernel
theorem dX6_firstWaiting_4 : decode cX6_firstWaiting 4 = .ok (.getfield 88, 3) := by decide +kernel
theorem dX6_firstWaiting_7 : decode cX6_firstWaiting 7 = .ok (.if_icmp .ge 19, 3) := by decide +kernel
theorem dX6_firstWaiting_10 : decode cX6_firstWaiting 10 = .ok (.aload_n 0, 1) := by decide +kernel
theorem dX6_firstWaiting_11 : decode cX6_firstWaiting 11 = .ok (.iload_n 1, 1) := by decide +kernel
theorem dX6_firstWaiting_12 : decode cX6_firstWaiting 12 = .ok (.invokevirtual 143, 3) := by decide +kernel
theorem dX6_firstWaiting_15 : decode cX6_firstWaiting 15 = .ok (.ifCond .ne 5, 3) := by decide +kernel
theorem dX6_firstWaiting_18 : decode cX6_firstWaiting 18 = .ok (.iload_n 1, 1) := by decide +kernel
theorem dX6_firstWaiting_19 : decode cX6_firstWaiting 19 = .ok (.ireturn, 1) := by decide +kernel
theorem dX6_firstWaiting_20 : decode cX6_firstWaiting 20 = .ok (.iinc 1 1, 3) := by decide +kernel
theorem dX6_firstWaiting_23 : decode cX6_firstWaiting 23 = .ok (.goto (-21), 3) := by decide +kernel
theorem dX6_firstWaiting_26 : decode cX6_firstWaiting 26 = .ok (.bipush (-6), 2) := by decide +kernel
theorem dX6_firstWaiting_28 : decode cX6_firstWaiting 28 = .ok (.ireturn, 1) := by decide +kernel
theorem dX6_starts_0 : decode cX6_starts 0 = .ok (.aload_n 0, 1) := by decide +kernel
theorem dX6_starts_1 : decode cX6_starts 1 = .ok (.invokevirtual 113, 3) := by decide +kernel
theorem dX6_starts_4 : decode cX6_starts 4 = .ok (.istore_n 3, 1) := by decide +kernel
theorem dX6_starts_5 : decode cX6_starts 5 = .ok (.aload_n 0, 1) := by decide +kernel
theorem dX6_starts_6 : decode cX6_starts 6 = .ok (.getfield 42, 3) := by decide +kernel
theorem dX6_starts_9 : decode cX6_starts 9 = .ok (.iload_n 3, 1) := by decide +kernel
theorem dX6_starts_10 : decode cX6_starts 10 = .ok (.iload_n 1, 1) := by decide +kernel
theorem dX6_starts_11 : decode cX6_starts 11 = .ok (.iastore, 1) := by decide +kernel
theorem dX6_starts_12 : decode cX6_starts 12 = .ok (.aload_n 0, 1) := by decide +kernel
theorem dX6_starts_13 : decode cX6_starts 13 = .ok (.getfield 45, 3) := by decide +kernel
theorem dX6_starts_16 : decode cX6_starts 16 = .ok (.iload_n 3, 1) := by decide +kernel
theorem dX6_starts_17 : decode cX6_starts 17 = .ok (.iload_n 2, 1) := by decide +kernel
theorem dX6_starts_18 : decode cX6_starts 18 = .ok (.iastore, 1) := by decide +kernel
theorem dX6_starts_19 : decode cX6_starts 19 = .ok (.aload_n 0, 1) := by decide +kernel
theorem dX6_starts_20 : decode cX6_starts 20 = .ok (.getfield 48, 3) := by decide +kernel
theorem dX6_starts_23 : decode cX6_starts 23 = .ok (.iload_n 3, 1) := by decide +kernel
theorem dX6_starts_24 : decode cX6_starts 24 = .ok (.iconst 0, 1) := by decide +kernel
theorem dX6_starts_25 : decode cX6_starts 25 = .ok (.iastore, 1) := by decide +kernel
theorem dX6_starts_26 : decode cX6_starts 26 = .ok (.aload_n 0, 1) := by decide +kernel
theorem dX6_starts_27 : decode cX6_starts 27 = .ok (.getfield 51, 3) := by decide +kernel
theorem dX6_starts_30 : decode cX6_starts 30 = .ok (.iload_n 3, 1) := by decide +kernel
theorem dX6_starts_31 : decode cX6_starts 31 = .ok (.iconst 0, 1) := by decide +kernel
theorem dX6_starts_32 : decode cX6_starts 32 = .ok (.iastore, 1) := by decide +kernel
theorem dX6_starts_33 : decode cX6_starts 33 = .ok (.aload_n 0, 1) := by decide +kernel
theorem dX6_starts_34 : decode cX6_starts 34 = .ok (.getfield 54, 3) := by decide +kernel
theorem dX6_starts_37 : decode cX6_starts 37 = .ok (.iload_n 3, 1) := by decide +kernel
theorem dX6_starts_38 : decode cX6_starts 38 = .ok (.iconst 1, 1) := by decide +kernel
theorem dX6_starts_39 : decode cX6_starts 39 = .ok (.iastore, 1) := by decide +kernel
theorem dX6_starts_40 : decode cX6_starts 40 = .ok (.aload_n 0, 1) := by decide +kernel
theorem dX6_starts_41 : decode cX6_starts 41 = .ok (.getfield 57, 3) := by decide +kernel
theorem dX6_starts_44 : decode cX6_starts 44 = .ok (.iload_n 3, 1) := by decide +kernel
theorem dX6_starts_45 : decode cX6_starts 45 = .ok (.aload_n 0, 1) := by decide +kernel
theorem dX6_starts_46 : decode cX6_starts 46 = .ok (.getfield 66, 3) := by decide +kernel
theorem dX6_starts_49 : decode cX6_starts 49 = .ok (.bipush 24, 2) := by decide +kernel
theorem dX6_starts_51 : decode cX6_starts 51 = .ok (.aload_n 0, 1) := by decide +kernel
theorem dX6_starts_52 : decode cX6_starts 52 = .ok (.getfield 91, 3) := by decide +kernel
theorem dX6_starts_55 : decode cX6_starts 55 = .ok (.imul, 1) := by decide +kernel
theorem dX6_starts_56 : decode cX6_starts 56 = .ok (.iload_n 1, 1) := by decide +kernel
theorem dX6_starts_57 : decode cX6_starts 57 = .ok (.iadd, 1) := by decide +kernel
theorem dX6_starts_58 : decode cX6_starts 58 = .ok (.iaload, 1) := by decide +kernel
theorem dX6_starts_59 : decode cX6_starts 59 = .ok (.ifCond .le 7, 3) := by decide +kernel
theorem dX6_starts_62 : decode cX6_starts 62 = .ok (.iconst 1, 1) := by decide +kernel
theorem dX6_starts_63 : decode cX6_starts 63 = .ok (.goto 4, 3) := by decide +kernel
theorem dX6_starts_66 : decode cX6_starts 66 = .ok (.iconst 0, 1) := by decide +kernel
theorem dX6_starts_67 : decode cX6_starts 67 = .ok (.bastore, 1) := by decide +kernel
theorem dX6_starts_68 : decode cX6_starts 68 = .ok (.aload_n 0, 1) := by decide +kernel
theorem dX6_starts_69 : decode cX6_starts 69 = .ok (.getfield 66, 3) := by decide +kernel
theorem dX6_starts_72 : decode cX6_starts 72 = .ok (.bipush 24, 2) := by decide +kernel
theorem dX6_starts_74 : decode cX6_starts 74 = .ok (.aload_n 0, 1) := by decide +kernel
theorem dX6_starts_75 : decode cX6_starts 75 = .ok (.getfield 91, 3) := by decide +kernel
theorem dX6_starts_78 : decode cX6_starts 78 = .ok (.imul, 1) := by decide +kernel
theorem dX6_starts_79 : decode cX6_starts 79 = .ok (.iload_n 1, 1) := by decide +kernel
theorem dX6_starts_80 : decode cX6_starts 80 = .ok (.iadd, 1) := by decide +kernel
theorem dX6_starts_81 : decode cX6_starts 81 = .ok (.dup2, 1) := by decide +kernel
theorem dX6_starts_82 : decode cX6_starts 82 = .ok (.iaload, 1) := by decide +kernel
theorem dX6_starts_83 : decode cX6_starts 83 = .ok (.iconst 1, 1) := by decide +kernel
theorem dX6_starts_84 : decode cX6_starts 84 = .ok (.iadd, 1) := by decide +kernel
theorem dX6_starts_85 : decode cX6_starts 85 = .ok (.iastore, 1) := by decide +kernel
theorem dX6_starts_86 : decode cX6_starts 86 = .ok (.aload_n 0, 1) := by decide +kernel
theorem dX6_starts_87 : decode cX6_starts 87 = .ok (.getfield 69, 3) := by decide +kernel
theorem dX6_starts_90 : decode cX6_starts 90 = .ok (.bipush 8, 2) := by decide +kernel
theorem dX6_starts_92 : decode cX6_starts 92 = .ok (.aload_n 0, 1) := by decide +kernel
theorem dX6_starts_93 : decode cX6_starts 93 = .ok (.getfield 91, 3) := by decide +kernel
theorem dX6_starts_96 : decode cX6_starts 96 = .ok (.imul, 1) := by decide +kernel
theorem dX6_starts_97 : decode cX6_starts 97 = .ok (.iload_n 2, 1) := by decide +kernel
theorem dX6_starts_98 : decode cX6_starts 98 = .ok (.iadd, 1) := by decide +kernel
theorem dX6_starts_99 : decode cX6_starts 99 = .ok (.dup2, 1) := by decide +kernel
theorem dX6_starts_100 : decode cX6_starts 100 = .ok (.iaload, 1) := by decide +kernel
theorem dX6_starts_101 : decode cX6_starts 101 = .ok (.iconst 1, 1) := by decide +kernel
theorem dX6_starts_102 : decode cX6_starts 102 = .ok (.iadd, 1) := by decide +kernel
theorem dX6_starts_103 : decode cX6_starts 103 = .ok (.iastore, 1) := by decide +kernel
theorem dX6_starts_104 : decode cX6_starts 104 = .ok (.aload_n 0, 1) := by decide +kernel
theorem dX6_starts_105 : decode cX6_starts 105 = .ok (.getfield 36, 3) := by decide +kernel
theorem dX6_starts_108 : decode cX6_starts 108 = .ok (.aload_n 0, 1) := by decide +kernel
theorem dX6_starts_109 : decode cX6_starts 109 = .ok (.getfield 91, 3) := by decide +kernel
theorem dX6_starts_112 : decode cX6_starts 112 = .ok (.dup2, 1) := by decide +kernel
theorem dX6_starts_113 : decode cX6_starts 113 = .ok (.iaload, 1) := by decide +kernel
theorem dX6_starts_114 : decode cX6_starts 114 = .ok (.iconst 1, 1) := by decide +kernel
theorem dX6_starts_115 : decode cX6_starts 115 = .ok (.iadd, 1) := by decide +kernel
theorem dX6_starts_116 : decode cX6_starts 116 = .ok (.iastore, 1) := by decide +kernel
theorem dX6_starts_117 : decode cX6_starts 117 = .ok (.return_, 1) := by decide +kernel
theorem dX6_startsOn_0 : decode cX6_startsOn 0 = .ok (.aload_n 0, 1) := by decide +kernel
theorem dX6_startsOn_1 : decode cX6_startsOn 1 = .ok (.invokevirtual 146, 3) := by decide +kernel
theorem dX6_startsOn_4 : decode cX6_startsOn 4 = .ok (.istore_n 3, 1) := by decide +kernel
theorem dX6_startsOn_5 : decode cX6_startsOn 5 = .ok (.iload_n 3, 1) := by decide +kernel
theorem dX6_startsOn_6 : decode cX6_startsOn 6 = .ok (.bipush (-6), 2) := by decide +kernel
theorem dX6_startsOn_8 : decode cX6_startsOn 8 = .ok (.if_icmp .ne 74, 3) := by decide +kernel
theorem dX6_startsOn_11 : decode cX6_startsOn 11 = .ok (.aload_n 0, 1) := by decide +kernel
theorem dX6_startsOn_12 : decode cX6_startsOn 12 = .ok (.iload_n 2, 1) := by decide +kernel
theorem dX6_startsOn_13 : decode cX6_startsOn 13 = .ok (.invokevirtual 149, 3) := by decide +kernel
theorem dX6_startsOn_16 : decode cX6_startsOn 16 = .ok (.istore 4, 2) := by decide +kernel
theorem dX6_startsOn_18 : decode cX6_startsOn 18 = .ok (.iload 4, 2) := by decide +kernel
theorem dX6_startsOn_20 : decode cX6_startsOn 20 = .ok (.bipush (-6), 2) := by decide +kernel
theorem dX6_startsOn_22 : decode cX6_startsOn 22 = .ok (.if_icmp .eq 42, 3) := by decide +kernel
theorem dX6_startsOn_25 : decode cX6_startsOn 25 = .ok (.aload_n 0, 1) := by decide +kernel
theorem dX6_startsOn_26 : decode cX6_startsOn 26 = .ok (.getfield 45, 3) := by decide +kernel
theorem dX6_startsOn_29 : decode cX6_startsOn 29 = .ok (.iload 4, 2) := by decide +kernel
theorem dX6_startsOn_31 : decode cX6_startsOn 31 = .ok (.iaload, 1) := by decide +kernel
theorem dX6_startsOn_32 : decode cX6_startsOn 32 = .ok (.iload_n 1, 1) := by decide +kernel
theorem dX6_startsOn_33 : decode cX6_startsOn 33 = .ok (.if_icmp .eq 31, 3) := by decide +kernel
theorem dX6_startsOn_36 : decode cX6_startsOn 36 = .ok (.aload_n 0, 1) := by decide +kernel
theorem dX6_startsOn_37 : decode cX6_startsOn 37 = .ok (.invokevirtual 152, 3) := by decide +kernel
theorem dX6_startsOn_40 : decode cX6_startsOn 40 = .ok (.aload_n 0, 1) := by decide +kernel
theorem dX6_startsOn_41 : decode cX6_startsOn 41 = .ok (.getfield 23, 3) := by decide +kernel
theorem dX6_startsOn_44 : decode cX6_startsOn 44 = .ok (.if_icmp .ge 20, 3) := by decide +kernel
theorem dX6_startsOn_47 : decode cX6_startsOn 47 = .ok (.iload_n 2, 1) := by decide +kernel
theorem dX6_startsOn_48 : decode cX6_startsOn 48 = .ok (.iconst 2, 1) := by decide +kernel
theorem dX6_startsOn_49 : decode cX6_startsOn 49 = .ok (.if_icmp .ne 11, 3) := by decide +kernel
theorem dX6_startsOn_52 : decode cX6_startsOn 52 = .ok (.aload_n 0, 1) := by decide +kernel
theorem dX6_startsOn_53 : decode cX6_startsOn 53 = .ok (.iload_n 1, 1) := by decide +kernel
theorem dX6_startsOn_54 : decode cX6_startsOn 54 = .ok (.invokevirtual 155, 3) := by decide +kernel
theorem dX6_startsOn_57 : decode cX6_startsOn 57 = .ok (.ifCond .ne 7, 3) := by decide +kernel
theorem dX6_startsOn_60 : decode cX6_startsOn 60 = .ok (.iconst 1, 1) := by decide +kernel
theorem dX6_startsOn_61 : decode cX6_startsOn 61 = .ok (.goto 4, 3) := by decide +kernel
theorem dX6_startsOn_64 : decode cX6_startsOn 64 = .ok (.iconst 0, 1) := by decide +kernel
theorem dX6_startsOn_65 : decode cX6_startsOn 65 = .ok (.istore 5, 2) := by decide +kernel
theorem dX6_startsOn_67 : decode cX6_startsOn 67 = .ok (.iload 5, 2) := by decide +kernel
theorem dX6_startsOn_69 : decode cX6_startsOn 69 = .ok (.ifCond .ne 5, 3) := by decide +kernel
theorem dX6_startsOn_72 : decode cX6_startsOn 72 = .ok (.iconst 0, 1) := by decide +kernel
theorem dX6_startsOn_73 : decode cX6_startsOn 73 = .ok (.ireturn, 1) := by decide +kernel
theorem dX6_startsOn_74 : decode cX6_startsOn 74 = .ok (.aload_n 0, 1) := by decide +kernel
theorem dX6_startsOn_75 : decode cX6_startsOn 75 = .ok (.getfield 42, 3) := by decide +kernel
theorem dX6_startsOn_78 : decode cX6_startsOn 78 = .ok (.iload 4, 2) := by decide +kernel
theorem dX6_startsOn_80 : decode cX6_startsOn 80 = .ok (.iaload, 1) := by decide +kernel
theorem dX6_startsOn_81 : decode cX6_startsOn 81 = .ok (.istore_n 3, 1) := by decide +kernel
theorem dX6_startsOn_82 : decode cX6_startsOn 82 = .ok (.aload_n 0, 1) := by decide +kernel
theorem dX6_startsOn_83 : decode cX6_startsOn 83 = .ok (.iload_n 3, 1) := by decide +kernel
theorem dX6_startsOn_84 : decode cX6_startsOn 84 = .ok (.iload_n 1, 1) := by decide +kernel
theorem dX6_startsOn_85 : decode cX6_startsOn 85 = .ok (.invokevirtual 158, 3) := by decide +kernel
theorem dX6_startsOn_88 : decode cX6_startsOn 88 = .ok (.iconst 1, 1) := by decide +kernel
theorem dX6_startsOn_89 : decode cX6_startsOn 89 = .ok (.ireturn, 1) := by decide +kernel
theorem dX6_hasSlot_0 : decode cX6_hasSlot 0 = .ok (.aload_n 0, 1) := by decide +kernel
theorem dX6_hasSlot_1 : decode cX6_hasSlot 1 = .ok (.getfield 16, 3) := by decide +kernel
theorem dX6_hasSlot_4 : decode cX6_hasSlot 4 = .ok (.iload_n 1, 1) := by decide +kernel
theorem dX6_hasSlot_5 : decode cX6_hasSlot 5 = .ok (.baload, 1) := by decide +kernel
theorem dX6_hasSlot_6 : decode cX6_hasSlot 6 = .ok (.ifCond .eq 45, 3) := by decide +kernel
theorem dX6_hasSlot_9 : decode cX6_hasSlot 9 = .ok (.aload_n 0, 1) := by decide +kernel
theorem dX6_hasSlot_10 : decode cX6_hasSlot 10 = .ok (.getfield 69, 3) := by decide +kernel
theorem dX6_hasSlot_13 : decode cX6_hasSlot 13 = .ok (.bipush 8, 2) := by decide +kernel
theorem dX6_hasSlot_15 : decode cX6_hasSlot 15 = .ok (.aload_n 0, 1) := by decide +kernel
theorem dX6_hasSlot_16 : decode cX6_hasSlot 16 = .ok (.getfield 91, 3) := by decide +kernel
theorem dX6_hasSlot_19 : decode cX6_hasSlot 19 = .ok (.imul, 1) := by decide +kernel
theorem dX6_hasSlot_20 : decode cX6_hasSlot 20 = .ok (.iload_n 1, 1) := by decide +kernel
theorem dX6_hasSlot_21 : decode cX6_hasSlot 21 = .ok (.iadd, 1) := by decide +kernel
theorem dX6_hasSlot_22 : decode cX6_hasSlot 22 = .ok (.iaload, 1) := by decide +kernel
theorem dX6_hasSlot_23 : decode cX6_hasSlot 23 = .ok (.aload_n 0, 1) := by decide +kernel
theorem dX6_hasSlot_24 : decode cX6_hasSlot 24 = .ok (.getfield 13, 3) := by decide +kernel
theorem dX6_hasSlot_27 : decode cX6_hasSlot 27 = .ok (.iload_n 1, 1) := by decide +kernel
theorem dX6_hasSlot_28 : decode cX6_hasSlot 28 = .ok (.iaload, 1) := by decide +kernel
theorem dX6_hasSlot_29 : decode cX6_hasSlot 29 = .ok (.if_icmp .ge 22, 3) := by decide +kernel
theorem dX6_hasSlot_32 : decode cX6_hasSlot 32 = .ok (.aload_n 0, 1) := by decide +kernel
theorem dX6_hasSlot_33 : decode cX6_hasSlot 33 = .ok (.getfield 36, 3) := by decide +kernel
theorem dX6_hasSlot_36 : decode cX6_hasSlot 36 = .ok (.aload_n 0, 1) := by decide +kernel
theorem dX6_hasSlot_37 : decode cX6_hasSlot 37 = .ok (.getfield 91, 3) := by decide +kernel
theorem dX6_hasSlot_40 : decode cX6_hasSlot 40 = .ok (.iaload, 1) := by decide +kernel
theorem dX6_hasSlot_41 : decode cX6_hasSlot 41 = .ok (.sipush 200, 3) := by decide +kernel
theorem dX6_hasSlot_44 : decode cX6_hasSlot 44 = .ok (.if_icmp .ge 7, 3) := by decide +kernel
theorem dX6_hasSlot_47 : decode cX6_hasSlot 47 = .ok (.iconst 1, 1) := by decide +kernel
theorem dX6_hasSlot_48 : decode cX6_hasSlot 48 = .ok (.goto 4, 3) := by decide +kernel
theorem dX6_hasSlot_51 : decode cX6_hasSlot 51 = .ok (.iconst 0, 1) := by decide +kernel
theorem dX6_hasSlot_52 : decode cX6_hasSlot 52 = .ok (.ireturn, 1) := by decide +kernel
theorem dX6_works_0 : decode cX6_works 0 = .ok (.aload_n 0, 1) := by decide +kernel
theorem dX6_works_1 : decode cX6_works 1 = .ok (.invokevirtual 109, 3) := by decide +kernel
theorem dX6_works_4 : decode cX6_works 4 = .ok (.istore_n 1, 1) := by decide +kernel
theorem dX6_works_5 : decode cX6_works 5 = .ok (.iload_n 1, 1) := by decide +kernel
theorem dX6_works_6 : decode cX6_works 6 = .ok (.aload_n 0, 1) := by decide +kernel
theorem dX6_works_7 : decode cX6_works 7 = .ok (.invokevirtual 113, 3) := by decide +kernel
theorem dX6_works_10 : decode cX6_works 10 = .ok (.if_icmp .ge 92, 3) := by decide +kernel
theorem dX6_works_13 : decode cX6_works 13 = .ok (.aload_n 0, 1) := by decide +kernel
theorem dX6_works_14 : decode cX6_works 14 = .ok (.getfield 54, 3) := by decide +kernel
theorem dX6_works_17 : decode cX6_works 17 = .ok (.iload_n 1, 1) := by decide +kernel
theorem dX6_works_18 : decode cX6_works 18 = .ok (.iaload, 1) := by decide +kernel
theorem dX6_works_19 : decode cX6_works 19 = .ok (.iconst 1, 1) := by decide +kernel
theorem dX6_works_20 : decode cX6_works 20 = .ok (.if_icmp .ne 76, 3) := by decide +kernel
theorem dX6_works_23 : decode cX6_works 23 = .ok (.aload_n 0, 1) := by decide +kernel
theorem dX6_works_24 : decode cX6_works 24 = .ok (.getfield 45, 3) := by decide +kernel
theorem dX6_works_27 : decode cX6_works 27 = .ok (.iload_n 1, 1) := by decide +kernel
theorem dX6_works_28 : decode cX6_works 28 = .ok (.iaload, 1) := by decide +kernel
theorem dX6_works_29 : decode cX6_works 29 = .ok (.istore_n 2, 1) := by decide +kernel
theorem dX6_works_30 : decode cX6_works 30 = .ok (.aload_n 0, 1) := by decide +kernel
theorem dX6_works_31 : decode cX6_works 31 = .ok (.getfield 48, 3) := by decide +kernel
theorem dX6_works_34 : decode cX6_works 34 = .ok (.iload_n 1, 1) := by decide +kernel
theorem dX6_works_35 : decode cX6_works 35 = .ok (.dup2, 1) := by decide +kernel
theorem dX6_works_36 : decode cX6_works 36 = .ok (.iaload, 1) := by decide +kernel
theorem dX6_works_37 : decode cX6_works 37 = .ok (.iconst 1, 1) := by decide +kernel
theorem dX6_works_38 : decode cX6_works 38 = .ok (.iadd, 1) := by decide +kernel
theorem dX6_works_39 : decode cX6_works 39 = .ok (.iastore, 1) := by decide +kernel
theorem dX6_works_40 : decode cX6_works 40 = .ok (.aload_n 0, 1) := by decide +kernel
theorem dX6_works_41 : decode cX6_works 41 = .ok (.getfield 51, 3) := by decide +kernel
theorem dX6_works_44 : decode cX6_works 44 = .ok (.iload_n 1, 1) := by decide +kernel
theorem dX6_works_45 : decode cX6_works 45 = .ok (.dup2, 1) := by decide +kernel
theorem dX6_works_46 : decode cX6_works 46 = .ok (.iaload, 1) := by decide +kernel
theorem dX6_works_47 : decode cX6_works 47 = .ok (.aload_n 0, 1) := by decide +kernel
theorem dX6_works_48 : decode cX6_works 48 = .ok (.getfield 7, 3) := by decide +kernel
theorem dX6_works_51 : decode cX6_works 51 = .ok (.iload_n 2, 1) := by decide +kernel
theorem dX6_works_52 : decode cX6_works 52 = .ok (.iaload, 1) := by decide +kernel
theorem dX6_works_53 : decode cX6_works 53 = .ok (.iadd, 1) := by decide +kernel
theorem dX6_works_54 : decode cX6_works 54 = .ok (.iastore, 1) := by decide +kernel
theorem dX6_works_55 : decode cX6_works 55 = .ok (.aload_n 0, 1) := by decide +kernel
theorem dX6_works_56 : decode cX6_works 56 = .ok (.getfield 72, 3) := by decide +kernel
theorem dX6_works_59 : decode cX6_works 59 = .ok (.bipush 8, 2) := by decide +kernel
theorem dX6_works_61 : decode cX6_works 61 = .ok (.aload_n 0, 1) := by decide +kernel
theorem dX6_works_62 : decode cX6_works 62 = .ok (.getfield 91, 3) := by decide +kernel
theorem dX6_works_65 : decode cX6_works 65 = .ok (.imul, 1) := by decide +kernel
theorem dX6_works_66 : decode cX6_works 66 = .ok (.iload_n 2, 1) := by decide +kernel
theorem dX6_works_67 : decode cX6_works 67 = .ok (.iadd, 1) := by decide +kernel
theorem dX6_works_68 : decode cX6_works 68 = .ok (.dup2, 1) := by decide +kernel
theorem dX6_works_69 : decode cX6_works 69 = .ok (.iaload, 1) := by decide +kernel
theorem dX6_works_70 : decode cX6_works 70 = .ok (.iconst 1, 1) := by decide +kernel
theorem dX6_works_71 : decode cX6_works 71 = .ok (.iadd, 1) := by decide +kernel
theorem dX6_works_72 : decode cX6_works 72 = .ok (.iastore, 1) := by decide +kernel
theorem dX6_works_73 : decode cX6_works 73 = .ok (.aload_n 0, 1) := by decide +kernel
theorem dX6_works_74 : decode cX6_works 74 = .ok (.getfield 75, 3) := by decide +kernel
theorem dX6_works_77 : decode cX6_works 77 = .ok (.bipush 8, 2) := by decide +kernel
theorem dX6_works_79 : decode cX6_works 79 = .ok (.aload_n 0, 1) := by decide +kernel
theorem dX6_works_80 : decode cX6_works 80 = .ok (.getfield 91, 3) := by decide +kernel
theorem dX6_works_83 : decode cX6_works 83 = .ok (.imul, 1) := by decide +kernel
theorem dX6_works_84 : decode cX6_works 84 = .ok (.iload_n 2, 1) := by decide +kernel
theorem dX6_works_85 : decode cX6_works 85 = .ok (.iadd, 1) := by decide +kernel
theorem dX6_works_86 : decode cX6_works 86 = .ok (.dup2, 1) := by decide +kernel
theorem dX6_works_87 : decode cX6_works 87 = .ok (.iaload, 1) := by decide +kernel
theorem dX6_works_88 : decode cX6_works 88 = .ok (.aload_n 0, 1) := by decide +kernel
theorem dX6_works_89 : decode cX6_works 89 = .ok (.getfield 7, 3) := by decide +kernel
theorem dX6_works_92 : decode cX6_works 92 = .ok (.iload_n 2, 1) := by decide +kernel
theorem dX6_works_93 : decode cX6_works 93 = .ok (.iaload, 1) := by decide +kernel
theorem dX6_works_94 : decode cX6_works 94 = .ok (.iadd, 1) := by decide +kernel
theorem dX6_works_95 : decode cX6_works 95 = .ok (.iastore, 1) := by decide +kernel
theorem dX6_works_96 : decode cX6_works 96 = .ok (.iinc 1 1, 3) := by decide +kernel
theorem dX6_works_99 : decode cX6_works 99 = .ok (.goto (-94), 3) := by decide +kernel
theorem dX6_works_102 : decode cX6_works 102 = .ok (.return_, 1) := by decide +kernel
theorem dX6_killsOther_0 : decode cX6_killsOther 0 = .ok (.aload_n 0, 1) := by decide +kernel
theorem dX6_killsOther_1 : decode cX6_killsOther 1 = .ok (.invokevirtual 109, 3) := by decide +kernel
theorem dX6_killsOther_4 : decode cX6_killsOther 4 = .ok (.istore_n 2, 1) := by decide +kernel
theorem dX6_killsOther_5 : decode cX6_killsOther 5 = .ok (.iload_n 2, 1) := by decide +kernel
theorem dX6_killsOther_6 : decode cX6_killsOther 6 = .ok (.aload_n 0, 1) := by decide +kernel
theorem dX6_killsOther_7 : decode cX6_killsOther 7 = .ok (.invokevirtual 113, 3) := by decide +kernel
theorem dX6_killsOther_10 : decode cX6_killsOther 10 = .ok (.if_icmp .ge 40, 3) := by decide +kernel
theorem dX6_killsOther_13 : decode cX6_killsOther 13 = .ok (.aload_n 0, 1) := by decide +kernel
theorem dX6_killsOther_14 : decode cX6_killsOther 14 = .ok (.getfield 54, 3) := by decide +kernel
theorem dX6_killsOther_17 : decode cX6_killsOther 17 = .ok (.iload_n 2, 1) := by decide +kernel
theorem dX6_killsOther_18 : decode cX6_killsOther 18 = .ok (.iaload, 1) := by decide +kernel
theorem dX6_killsOther_19 : decode cX6_killsOther 19 = .ok (.iconst 1, 1) := by decide +kernel
theorem dX6_killsOther_20 : decode cX6_killsOther 20 = .ok (.if_icmp .ne 24, 3) := by decide +kernel
theorem dX6_killsOther_23 : decode cX6_killsOther 23 = .ok (.aload_n 0, 1) := by decide +kernel
theorem dX6_killsOther_24 : decode cX6_killsOther 24 = .ok (.getfield 42, 3) := by decide +kernel
theorem dX6_killsOther_27 : decode cX6_killsOther 27 = .ok (.iload_n 2, 1) := by decide +kernel
theorem dX6_killsOther_28 : decode cX6_killsOther 28 = .ok (.iaload, 1) := by decide +kernel
theorem dX6_killsOther_29 : decode cX6_killsOther 29 = .ok (.aload_n 0, 1) := by decide +kernel
theorem dX6_killsOther_30 : decode cX6_killsOther 30 = .ok (.getfield 42, 3) := by decide +kernel
theorem dX6_killsOther_33 : decode cX6_killsOther 33 = .ok (.iload_n 1, 1) := by decide +kernel
theorem dX6_killsOther_34 : decode cX6_killsOther 34 = .ok (.iaload, 1) := by decide +kernel
theorem dX6_killsOther_35 : decode cX6_killsOther 35 = .ok (.if_icmp .ne 9, 3) := by decide +kernel
theorem dX6_killsOther_38 : decode cX6_killsOther 38 = .ok (.aload_n 0, 1) := by decide +kernel
theorem dX6_killsOther_39 : decode cX6_killsOther 39 = .ok (.iload_n 2, 1) := by decide +kernel
theorem dX6_killsOther_40 : decode cX6_killsOther 40 = .ok (.iconst 3, 1) := by decide +kernel
theorem dX6_killsOther_41 : decode cX6_killsOther 41 = .ok (.invokevirtual 98, 3) := by decide +kernel
theorem dX6_killsOther_44 : decode cX6_killsOther 44 = .ok (.iinc 2 1, 3) := by decide +kernel
theorem dX6_killsOther_47 : decode cX6_killsOther 47 = .ok (.goto (-42), 3) := by decide +kernel
theorem dX6_killsOther_50 : decode cX6_killsOther 50 = .ok (.return_, 1) := by decide +kernel
theorem dX6_commits_0 : decode cX6_commits 0 = .ok (.iconst 0, 1) := by decide +kernel
theorem dX6_commits_1 : decode cX6_commits 1 = .ok (.istore_n 1, 1) := by decide +kernel
theorem dX6_commits_2 : decode cX6_commits 2 = .ok (.aload_n 0, 1) := by decide +kernel
theorem dX6_commits_3 : decode cX6_commits 3 = .ok (.invokevirtual 109, 3) := by decide +kernel
theorem dX6_commits_6 : decode cX6_commits 6 = .ok (.istore_n 2, 1) := by decide +kernel
theorem dX6_commits_7 : decode cX6_commits 7 = .ok (.iload_n 2, 1) := by decide +kernel
theorem dX6_commits_8 : decode cX6_commits 8 = .ok (.aload_n 0, 1) := by decide +kernel
theorem dX6_commits_9 : decode cX6_commits 9 = .ok (.invokevirtual 113, 3) := by decide +kernel
theorem dX6_commits_12 : decode cX6_commits 12 = .ok (.if_icmp .ge 108, 3) := by decide +kernel
theorem dX6_commits_15 : decode cX6_commits 15 = .ok (.aload_n 0, 1) := by decide +kernel
theorem dX6_commits_16 : decode cX6_commits 16 = .ok (.getfield 54, 3) := by decide +kernel
theorem dX6_commits_19 : decode cX6_commits 19 = .ok (.iload_n 2, 1) := by decide +kernel
theorem dX6_commits_20 : decode cX6_commits 20 = .ok (.iaload, 1) := by decide +kernel
theorem dX6_commits_21 : decode cX6_commits 21 = .ok (.iconst 1, 1) := by decide +kernel
theorem dX6_commits_22 : decode cX6_commits 22 = .ok (.if_icmp .ne 92, 3) := by decide +kernel
theorem dX6_commits_25 : decode cX6_commits 25 = .ok (.aload_n 0, 1) := by decide +kernel
theorem dX6_commits_26 : decode cX6_commits 26 = .ok (.getfield 51, 3) := by decide +kernel
theorem dX6_commits_29 : decode cX6_commits 29 = .ok (.iload_n 2, 1) := by decide +kernel
theorem dX6_commits_30 : decode cX6_commits 30 = .ok (.iaload, 1) := by decide +kernel
theorem dX6_commits_31 : decode cX6_commits 31 = .ok (.aload_n 0, 1) := by decide +kernel
theorem dX6_commits_32 : decode cX6_commits 32 = .ok (.getfield 20, 3) := by decide +kernel
theorem dX6_commits_35 : decode cX6_commits 35 = .ok (.aload_n 0, 1) := by decide +kernel
theorem dX6_commits_36 : decode cX6_commits 36 = .ok (.getfield 42, 3) := by decide +kernel
theorem dX6_commits_39 : decode cX6_commits 39 = .ok (.iload_n 2, 1) := by decide +kernel
theorem dX6_commits_40 : decode cX6_commits 40 = .ok (.iaload, 1) := by decide +kernel
theorem dX6_commits_41 : decode cX6_commits 41 = .ok (.iaload, 1) := by decide +kernel
theorem dX6_commits_42 : decode cX6_commits 42 = .ok (.if_icmp .lt 72, 3) := by decide +kernel
theorem dX6_commits_45 : decode cX6_commits 45 = .ok (.aload_n 0, 1) := by decide +kernel
theorem dX6_commits_46 : decode cX6_commits 46 = .ok (.iload_n 2, 1) := by decide +kernel
theorem dX6_commits_47 : decode cX6_commits 47 = .ok (.iconst 2, 1) := by decide +kernel
theorem dX6_commits_48 : decode cX6_commits 48 = .ok (.invokevirtual 98, 3) := by decide +kernel
theorem dX6_commits_51 : decode cX6_commits 51 = .ok (.aload_n 0, 1) := by decide +kernel
theorem dX6_commits_52 : decode cX6_commits 52 = .ok (.iload_n 2, 1) := by decide +kernel
theorem dX6_commits_53 : decode cX6_commits 53 = .ok (.invokevirtual 161, 3) := by decide +kernel
theorem dX6_commits_56 : decode cX6_commits 56 = .ok (.aload_n 0, 1) := by decide +kernel
theorem dX6_commits_57 : decode cX6_commits 57 = .ok (.getfield 60, 3) := by decide +kernel
theorem dX6_commits_60 : decode cX6_commits 60 = .ok (.bipush 24, 2) := by decide +kernel
theorem dX6_commits_62 : decode cX6_commits 62 = .ok (.aload_n 0, 1) := by decide +kernel
theorem dX6_commits_63 : decode cX6_commits 63 = .ok (.getfield 91, 3) := by decide +kernel
theorem dX6_commits_66 : decode cX6_commits 66 = .ok (.imul, 1) := by decide +kernel
theorem dX6_commits_67 : decode cX6_commits 67 = .ok (.aload_n 0, 1) := by decide +kernel
theorem dX6_commits_68 : decode cX6_commits 68 = .ok (.getfield 42, 3) := by decide +kernel
theorem dX6_commits_71 : decode cX6_commits 71 = .ok (.iload_n 2, 1) := by decide +kernel
theorem dX6_commits_72 : decode cX6_commits 72 = .ok (.iaload, 1) := by decide +kernel
theorem dX6_commits_73 : decode cX6_commits 73 = .ok (.iadd, 1) := by decide +kernel
theorem dX6_commits_74 : decode cX6_commits 74 = .ok (.iload_n 2, 1) := by decide +kernel
theorem dX6_commits_75 : decode cX6_commits 75 = .ok (.aload_n 0, 1) := by decide +kernel
theorem dX6_commits_76 : decode cX6_commits 76 = .ok (.invokevirtual 109, 3) := by decide +kernel
theorem dX6_commits_79 : decode cX6_commits 79 = .ok (.isub, 1) := by decide +kernel
theorem dX6_commits_80 : decode cX6_commits 80 = .ok (.iastore, 1) := by decide +kernel
theorem dX6_commits_81 : decode cX6_commits 81 = .ok (.aload_n 0, 1) := by decide +kernel
theorem dX6_commits_82 : decode cX6_commits 82 = .ok (.getfield 63, 3) := by decide +kernel
theorem dX6_commits_85 : decode cX6_commits 85 = .ok (.bipush 24, 2) := by decide +kernel
theorem dX6_commits_87 : decode cX6_commits 87 = .ok (.aload_n 0, 1) := by decide +kernel
theorem dX6_commits_88 : decode cX6_commits 88 = .ok (.getfield 91, 3) := by decide +kernel
theorem dX6_commits_91 : decode cX6_commits 91 = .ok (.imul, 1) := by decide +kernel
theorem dX6_commits_92 : decode cX6_commits 92 = .ok (.aload_n 0, 1) := by decide +kernel
theorem dX6_commits_93 : decode cX6_commits 93 = .ok (.getfield 42, 3) := by decide +kernel
theorem dX6_commits_96 : decode cX6_commits 96 = .ok (.iload_n 2, 1) := by decide +kernel
theorem dX6_commits_97 : decode cX6_commits 97 = .ok (.iaload, 1) := by decide +kernel
theorem dX6_commits_98 : decode cX6_commits 98 = .ok (.iadd, 1) := by decide +kernel
theorem dX6_commits_99 : decode cX6_commits 99 = .ok (.aload_n 0, 1) := by decide +kernel
theorem dX6_commits_100 : decode cX6_commits 100 = .ok (.getfield 39, 3) := by decide +kernel
theorem dX6_commits_103 : decode cX6_commits 103 = .ok (.aload_n 0, 1) := by decide +kernel
theorem dX6_commits_104 : decode cX6_commits 104 = .ok (.getfield 91, 3) := by decide +kernel
theorem dX6_commits_107 : decode cX6_commits 107 = .ok (.iaload, 1) := by decide +kernel
theorem dX6_commits_108 : decode cX6_commits 108 = .ok (.iconst 1, 1) := by decide +kernel
theorem dX6_commits_109 : decode cX6_commits 109 = .ok (.iadd, 1) := by decide +kernel
theorem dX6_commits_110 : decode cX6_commits 110 = .ok (.iastore, 1) := by decide +kernel
theorem dX6_commits_111 : decode cX6_commits 111 = .ok (.iinc 1 1, 3) := by decide +kernel
theorem dX6_commits_114 : decode cX6_commits 114 = .ok (.iinc 2 1, 3) := by decide +kernel
theorem dX6_commits_117 : decode cX6_commits 117 = .ok (.goto (-110), 3) := by decide +kernel
theorem dX6_commits_120 : decode cX6_commits 120 = .ok (.iload_n 1, 1) := by decide +kernel
theorem dX6_commits_121 : decode cX6_commits 121 = .ok (.ireturn, 1) := by decide +kernel
theorem dX6_passes_0 : decode cX6_passes 0 = .ok (.iconst 0, 1) := by decide +kernel
theorem dX6_passes_1 : decode cX6_passes 1 = .ok (.istore_n 2, 1) := by decide +kernel
theorem dX6_passes_2 : decode cX6_passes 2 = .ok (.iload_n 2, 1) := by decide +kernel
theorem dX6_passes_3 : decode cX6_passes 3 = .ok (.aload_n 0, 1) := by decide +kernel
theorem dX6_passes_4 : decode cX6_passes 4 = .ok (.getfield 81, 3) := by decide +kernel
theorem dX6_passes_7 : decode cX6_passes 7 = .ok (.if_icmp .ge 33, 3) := by decide +kernel
theorem dX6_passes_10 : decode cX6_passes 10 = .ok (.iconst 1, 1) := by decide +kernel
theorem dX6_passes_11 : decode cX6_passes 11 = .ok (.istore_n 3, 1) := by decide +kernel
theorem dX6_passes_12 : decode cX6_passes 12 = .ok (.iload_n 3, 1) := by decide +kernel
theorem dX6_passes_13 : decode cX6_passes 13 = .ok (.ifCond .eq 21, 3) := by decide +kernel
theorem dX6_passes_16 : decode cX6_passes 16 = .ok (.aload_n 0, 1) := by decide +kernel
theorem dX6_passes_17 : decode cX6_passes 17 = .ok (.iload_n 2, 1) := by decide +kernel
theorem dX6_passes_18 : decode cX6_passes 18 = .ok (.invokevirtual 165, 3) := by decide +kernel
theorem dX6_passes_21 : decode cX6_passes 21 = .ok (.ifCond .eq 13, 3) := by decide +kernel
theorem dX6_passes_24 : decode cX6_passes 24 = .ok (.aload_n 0, 1) := by decide +kernel
theorem dX6_passes_25 : decode cX6_passes 25 = .ok (.iload_n 2, 1) := by decide +kernel
theorem dX6_passes_26 : decode cX6_passes 26 = .ok (.iload_n 1, 1) := by decide +kernel
theorem dX6_passes_27 : decode cX6_passes 27 = .ok (.invokevirtual 168, 3) := by decide +kernel
theorem dX6_passes_30 : decode cX6_passes 30 = .ok (.istore_n 3, 1) := by decide +kernel
theorem dX6_passes_31 : decode cX6_passes 31 = .ok (.goto (-19), 3) := by decide +kernel
theorem dX6_passes_34 : decode cX6_passes 34 = .ok (.iinc 2 1, 3) := by decide +kernel
theorem dX6_passes_37 : decode cX6_passes 37 = .ok (.goto (-35), 3) := by decide +kernel
theorem dX6_passes_40 : decode cX6_passes 40 = .ok (.aload_n 0, 1) := by decide +kernel
theorem dX6_passes_41 : decode cX6_passes 41 = .ok (.invokevirtual 172, 3) := by decide +kernel
theorem dX6_passes_44 : decode cX6_passes 44 = .ok (.aload_n 0, 1) := by decide +kernel
theorem dX6_passes_45 : decode cX6_passes 45 = .ok (.invokevirtual 175, 3) := by decide +kernel
theorem dX6_passes_48 : decode cX6_passes 48 = .ok (.istore_n 2, 1) := by decide +kernel
theorem dX6_passes_49 : decode cX6_passes 49 = .ok (.aload_n 0, 1) := by decide +kernel
theorem dX6_passes_50 : decode cX6_passes 50 = .ok (.getfield 39, 3) := by decide +kernel
theorem dX6_passes_53 : decode cX6_passes 53 = .ok (.aload_n 0, 1) := by decide +kernel
theorem dX6_passes_54 : decode cX6_passes 54 = .ok (.getfield 91, 3) := by decide +kernel
theorem dX6_passes_57 : decode cX6_passes 57 = .ok (.dup2, 1) := by decide +kernel
theorem dX6_passes_58 : decode cX6_passes 58 = .ok (.iaload, 1) := by decide +kernel
theorem dX6_passes_59 : decode cX6_passes 59 = .ok (.iconst 1, 1) := by decide +kernel
theorem dX6_passes_60 : decode cX6_passes 60 = .ok (.iadd, 1) := by decide +kernel
theorem dX6_passes_61 : decode cX6_passes 61 = .ok (.iastore, 1) := by decide +kernel
theorem dX6_passes_62 : decode cX6_passes 62 = .ok (.iload_n 2, 1) := by decide +kernel
theorem dX6_passes_63 : decode cX6_passes 63 = .ok (.ireturn, 1) := by decide +kernel
theorem dX6_tick_0 : decode cX6_tick 0 = .ok (.iload_n 1, 1) := by decide +kernel
theorem dX6_tick_1 : decode cX6_tick 1 = .ok (.iconst 1, 1) := by decide +kernel
theorem dX6_tick_2 : decode cX6_tick 2 = .ok (.sipush 500, 3) := by decide +kernel
theorem dX6_tick_5 : decode cX6_tick 5 = .ok (.invokestatic 84, 3) := by decide +kernel
theorem dX6_tick_8 : decode cX6_tick 8 = .ok (.ifCond .ne 6, 3) := by decide +kernel
theorem dX6_tick_11 : decode cX6_tick 11 = .ok (.bipush (-4), 2) := by decide +kernel
theorem dX6_tick_13 : decode cX6_tick 13 = .ok (.ireturn, 1) := by decide +kernel
theorem dX6_tick_14 : decode cX6_tick 14 = .ok (.iconst 0, 1) := by decide +kernel
theorem dX6_tick_15 : decode cX6_tick 15 = .ok (.istore_n 2, 1) := by decide +kernel
theorem dX6_tick_16 : decode cX6_tick 16 = .ok (.iconst 0, 1) := by decide +kernel
theorem dX6_tick_17 : decode cX6_tick 17 = .ok (.istore_n 3, 1) := by decide +kernel
theorem dX6_tick_18 : decode cX6_tick 18 = .ok (.iload_n 3, 1) := by decide +kernel
theorem dX6_tick_19 : decode cX6_tick 19 = .ok (.iload_n 1, 1) := by decide +kernel
theorem dX6_tick_20 : decode cX6_tick 20 = .ok (.if_icmp .ge 20, 3) := by decide +kernel
theorem dX6_tick_23 : decode cX6_tick 23 = .ok (.iload_n 2, 1) := by decide +kernel
theorem dX6_tick_24 : decode cX6_tick 24 = .ok (.aload_n 0, 1) := by decide +kernel
theorem dX6_tick_25 : decode cX6_tick 25 = .ok (.aload_n 0, 1) := by decide +kernel
theorem dX6_tick_26 : decode cX6_tick 26 = .ok (.getfield 78, 3) := by decide +kernel
theorem dX6_tick_29 : decode cX6_tick 29 = .ok (.invokevirtual 178, 3) := by decide +kernel
theorem dX6_tick_32 : decode cX6_tick 32 = .ok (.iadd, 1) := by decide +kernel
theorem dX6_tick_33 : decode cX6_tick 33 = .ok (.istore_n 2, 1) := by decide +kernel
theorem dX6_tick_34 : decode cX6_tick 34 = .ok (.iinc 3 1, 3) := by decide +kernel
theorem dX6_tick_37 : decode cX6_tick 37 = .ok (.goto (-19), 3) := by decide +kernel
theorem dX6_tick_40 : decode cX6_tick 40 = .ok (.iload_n 2, 1) := by decide +kernel
theorem dX6_tick_41 : decode cX6_tick 41 = .ok (.ireturn, 1) := by decide +kernel
theorem dX6_time_0 : decode cX6_time 0 = .ok (.aload_n 0, 1) := by decide +kernel
theorem dX6_time_1 : decode cX6_time 1 = .ok (.getfield 39, 3) := by decide +kernel
theorem dX6_time_4 : decode cX6_time 4 = .ok (.iconst 0, 1) := by decide +kernel
theorem dX6_time_5 : decode cX6_time 5 = .ok (.iaload, 1) := by decide +kernel
theorem dX6_time_6 : decode cX6_time 6 = .ok (.ireturn, 1) := by decide +kernel
theorem dX6_taskState_0 : decode cX6_taskState 0 = .ok (.aload_n 0, 1) := by decide +kernel
theorem dX6_taskState_1 : decode cX6_taskState 1 = .ok (.iload_n 1, 1) := by decide +kernel
theorem dX6_taskState_2 : decode cX6_taskState 2 = .ok (.invokevirtual 181, 3) := by decide +kernel
theorem dX6_taskState_5 : decode cX6_taskState 5 = .ok (.ifCond .eq 11, 3) := by decide +kernel
theorem dX6_taskState_8 : decode cX6_taskState 8 = .ok (.aload_n 0, 1) := by decide +kernel
theorem dX6_taskState_9 : decode cX6_taskState 9 = .ok (.iload_n 1, 1) := by decide +kernel
theorem dX6_taskState_10 : decode cX6_taskState 10 = .ok (.invokevirtual 143, 3) := by decide +kernel
theorem dX6_taskState_13 : decode cX6_taskState 13 = .ok (.goto 5, 3) := by decide +kernel
theorem dX6_taskState_16 : decode cX6_taskState 16 = .ok (.bipush (-2), 2) := by decide +kernel
theorem dX6_taskState_18 : decode cX6_taskState 18 = .ok (.ireturn, 1) := by decide +kernel
theorem dX6_committedAttempt_0 : decode cX6_committedAttempt 0 = .ok (.aload_n 0, 1) := by decide +kernel
theorem dX6_committedAttempt_1 : decode cX6_committedAttempt 1 = .ok (.iload_n 1, 1) := by decide +kernel
theorem dX6_committedAttempt_2 : decode cX6_committedAttempt 2 = .ok (.invokevirtual 181, 3) := by decide +kernel
theorem dX6_committedAttempt_5 : decode cX6_committedAttempt 5 = .ok (.ifCond .eq 12, 3) := by decide +kernel
theorem dX6_committedAttempt_8 : decode cX6_committedAttempt 8 = .ok (.aload_n 0, 1) := by decide +kernel
theorem dX6_committedAttempt_9 : decode cX6_committedAttempt 9 = .ok (.getfield 60, 3) := by decide +kernel
theorem dX6_committedAttempt_12 : decode cX6_committedAttempt 12 = .ok (.iload_n 1, 1) := by decide +kernel
theorem dX6_committedAttempt_13 : decode cX6_committedAttempt 13 = .ok (.iaload, 1) := by decide +kernel
theorem dX6_committedAttempt_14 : decode cX6_committedAttempt 14 = .ok (.goto 5, 3) := by decide +kernel
theorem dX6_committedAttempt_17 : decode cX6_committedAttempt 17 = .ok (.bipush (-2), 2) := by decide +kernel
theorem dX6_committedAttempt_19 : decode cX6_committedAttempt 19 = .ok (.ireturn, 1) := by decide +kernel
theorem dX6_finishTime_0 : decode cX6_finishTime 0 = .ok (.aload_n 0, 1) := by decide +kernel
theorem dX6_finishTime_1 : decode cX6_finishTime 1 = .ok (.iload_n 1, 1) := by decide +kernel
theorem dX6_finishTime_2 : decode cX6_finishTime 2 = .ok (.invokevirtual 181, 3) := by decide +kernel
theorem dX6_finishTime_5 : decode cX6_finishTime 5 = .ok (.ifCond .eq 12, 3) := by decide +kernel
theorem dX6_finishTime_8 : decode cX6_finishTime 8 = .ok (.aload_n 0, 1) := by decide +kernel
theorem dX6_finishTime_9 : decode cX6_finishTime 9 = .ok (.getfield 63, 3) := by decide +kernel
theorem dX6_finishTime_12 : decode cX6_finishTime 12 = .ok (.iload_n 1, 1) := by decide +kernel
theorem dX6_finishTime_13 : decode cX6_finishTime 13 = .ok (.iaload, 1) := by decide +kernel
theorem dX6_finishTime_14 : decode cX6_finishTime 14 = .ok (.goto 5, 3) := by decide +kernel
theorem dX6_finishTime_17 : decode cX6_finishTime 17 = .ok (.bipush (-2), 2) := by decide +kernel
theorem dX6_finishTime_19 : decode cX6_finishTime 19 = .ok (.ireturn, 1) := by decide +kernel
theorem dX6_greatestFinish_0 : decode cX6_greatestFinish 0 = .ok (.bipush (-6), 2) := by decide +kernel
theorem dX6_greatestFinish_2 : decode cX6_greatestFinish 2 = .ok (.istore_n 1, 1) := by decide +kernel
theorem dX6_greatestFinish_3 : decode cX6_greatestFinish 3 = .ok (.iconst 0, 1) := by decide +kernel
theorem dX6_greatestFinish_4 : decode cX6_greatestFinish 4 = .ok (.istore_n 2, 1) := by decide +kernel
theorem dX6_greatestFinish_5 : decode cX6_greatestFinish 5 = .ok (.iload_n 2, 1) := by decide +kernel
theorem dX6_greatestFinish_6 : decode cX6_greatestFinish 6 = .ok (.aload_n 0, 1) := by decide +kernel
theorem dX6_greatestFinish_7 : decode cX6_greatestFinish 7 = .ok (.getfield 88, 3) := by decide +kernel
theorem dX6_greatestFinish_10 : decode cX6_greatestFinish 10 = .ok (.if_icmp .ge 44, 3) := by decide +kernel
theorem dX6_greatestFinish_13 : decode cX6_greatestFinish 13 = .ok (.aload_n 0, 1) := by decide +kernel
theorem dX6_greatestFinish_14 : decode cX6_greatestFinish 14 = .ok (.getfield 63, 3) := by decide +kernel
theorem dX6_greatestFinish_17 : decode cX6_greatestFinish 17 = .ok (.bipush 24, 2) := by decide +kernel
theorem dX6_greatestFinish_19 : decode cX6_greatestFinish 19 = .ok (.aload_n 0, 1) := by decide +kernel
theorem dX6_greatestFinish_20 : decode cX6_greatestFinish 20 = .ok (.getfield 91, 3) := by decide +kernel
theorem dX6_greatestFinish_23 : decode cX6_greatestFinish 23 = .ok (.imul, 1) := by decide +kernel
theorem dX6_greatestFinish_24 : decode cX6_greatestFinish 24 = .ok (.iload_n 2, 1) := by decide +kernel
theorem dX6_greatestFinish_25 : decode cX6_greatestFinish 25 = .ok (.iadd, 1) := by decide +kernel
theorem dX6_greatestFinish_26 : decode cX6_greatestFinish 26 = .ok (.iaload, 1) := by decide +kernel
theorem dX6_greatestFinish_27 : decode cX6_greatestFinish 27 = .ok (.istore_n 3, 1) := by decide +kernel
theorem dX6_greatestFinish_28 : decode cX6_greatestFinish 28 = .ok (.iload_n 3, 1) := by decide +kernel
theorem dX6_greatestFinish_29 : decode cX6_greatestFinish 29 = .ok (.bipush (-6), 2) := by decide +kernel
theorem dX6_greatestFinish_31 : decode cX6_greatestFinish 31 = .ok (.if_icmp .ne 6, 3) := by decide +kernel
theorem dX6_greatestFinish_34 : decode cX6_greatestFinish 34 = .ok (.bipush (-6), 2) := by decide +kernel
theorem dX6_greatestFinish_36 : decode cX6_greatestFinish 36 = .ok (.ireturn, 1) := by decide +kernel
theorem dX6_greatestFinish_37 : decode cX6_greatestFinish 37 = .ok (.iload_n 3, 1) := by decide +kernel
theorem dX6_greatestFinish_38 : decode cX6_greatestFinish 38 = .ok (.iload_n 1, 1) := by decide +kernel
theorem dX6_greatestFinish_39 : decode cX6_greatestFinish 39 = .ok (.if_icmp .le 7, 3) := by decide +kernel
theorem dX6_greatestFinish_42 : decode cX6_greatestFinish 42 = .ok (.iload_n 3, 1) := by decide +kernel
theorem dX6_greatestFinish_43 : decode cX6_greatestFinish 43 = .ok (.goto 4, 3) := by decide +kernel
theorem dX6_greatestFinish_46 : decode cX6_greatestFinish 46 = .ok (.iload_n 1, 1) := by decide +kernel
theorem dX6_greatestFinish_47 : decode cX6_greatestFinish 47 = .ok (.istore_n 1, 1) := by decide +kernel
theorem dX6_greatestFinish_48 : decode cX6_greatestFinish 48 = .ok (.iinc 2 1, 3) := by decide +kernel
theorem dX6_greatestFinish_51 : decode cX6_greatestFinish 51 = .ok (.goto (-46), 3) := by decide +kernel
theorem dX6_greatestFinish_54 : decode cX6_greatestFinish 54 = .ok (.iload_n 1, 1) := by decide +kernel
theorem dX6_greatestFinish_55 : decode cX6_greatestFinish 55 = .ok (.ireturn, 1) := by decide +kernel
theorem dX6_makespan_0 : decode cX6_makespan 0 = .ok (.aload_n 0, 1) := by decide +kernel
theorem dX6_makespan_1 : decode cX6_makespan 1 = .ok (.invokevirtual 184, 3) := by decide +kernel
theorem dX6_makespan_4 : decode cX6_makespan 4 = .ok (.ireturn, 1) := by decide +kernel
theorem dX6_isAttempt_0 : decode cX6_isAttempt 0 = .ok (.iload_n 1, 1) := by decide +kernel
theorem dX6_isAttempt_1 : decode cX6_isAttempt 1 = .ok (.iconst 0, 1) := by decide +kernel
theorem dX6_isAttempt_2 : decode cX6_isAttempt 2 = .ok (.aload_n 0, 1) := by decide +kernel
theorem dX6_isAttempt_3 : decode cX6_isAttempt 3 = .ok (.getfield 36, 3) := by decide +kernel
theorem dX6_isAttempt_6 : decode cX6_isAttempt 6 = .ok (.iconst 0, 1) := by decide +kernel
theorem dX6_isAttempt_7 : decode cX6_isAttempt 7 = .ok (.iaload, 1) := by decide +kernel
theorem dX6_isAttempt_8 : decode cX6_isAttempt 8 = .ok (.iconst 1, 1) := by decide +kernel
theorem dX6_isAttempt_9 : decode cX6_isAttempt 9 = .ok (.isub, 1) := by decide +kernel
theorem dX6_isAttempt_10 : decode cX6_isAttempt 10 = .ok (.invokestatic 84, 3) := by decide +kernel
theorem dX6_isAttempt_13 : decode cX6_isAttempt 13 = .ok (.ireturn, 1) := by decide +kernel
theorem dX6_attemptCount_0 : decode cX6_attemptCount 0 = .ok (.aload_n 0, 1) := by decide +kernel
theorem dX6_attemptCount_1 : decode cX6_attemptCount 1 = .ok (.getfield 36, 3) := by decide +kernel
theorem dX6_attemptCount_4 : decode cX6_attemptCount 4 = .ok (.iconst 0, 1) := by decide +kernel
theorem dX6_attemptCount_5 : decode cX6_attemptCount 5 = .ok (.iaload, 1) := by decide +kernel
theorem dX6_attemptCount_6 : decode cX6_attemptCount 6 = .ok (.ireturn, 1) := by decide +kernel
theorem dX6_attemptTask_0 : decode cX6_attemptTask 0 = .ok (.aload_n 0, 1) := by decide +kernel
theorem dX6_attemptTask_1 : decode cX6_attemptTask 1 = .ok (.iload_n 1, 1) := by decide +kernel
theorem dX6_attemptTask_2 : decode cX6_attemptTask 2 = .ok (.invokevirtual 187, 3) := by decide +kernel
theorem dX6_attemptTask_5 : decode cX6_attemptTask 5 = .ok (.ifCond .eq 12, 3) := by decide +kernel
theorem dX6_attemptTask_8 : decode cX6_attemptTask 8 = .ok (.aload_n 0, 1) := by decide +kernel
theorem dX6_attemptTask_9 : decode cX6_attemptTask 9 = .ok (.getfield 42, 3) := by decide +kernel
theorem dX6_attemptTask_12 : decode cX6_attemptTask 12 = .ok (.iload_n 1, 1) := by decide +kernel
theorem dX6_attemptTask_13 : decode cX6_attemptTask 13 = .ok (.iaload, 1) := by decide +kernel
theorem dX6_attemptTask_14 : decode cX6_attemptTask 14 = .ok (.goto 5, 3) := by decide +kernel
theorem dX6_attemptTask_17 : decode cX6_attemptTask 17 = .ok (.bipush (-3), 2) := by decide +kernel
theorem dX6_attemptTask_19 : decode cX6_attemptTask 19 = .ok (.ireturn, 1) := by decide +kernel
theorem dX6_attemptNode_0 : decode cX6_attemptNode 0 = .ok (.aload_n 0, 1) := by decide +kernel
theorem dX6_attemptNode_1 : decode cX6_attemptNode 1 = .ok (.iload_n 1, 1) := by decide +kernel
theorem dX6_attemptNode_2 : decode cX6_attemptNode 2 = .ok (.invokevirtual 187, 3) := by decide +kernel
theorem dX6_attemptNode_5 : decode cX6_attemptNode 5 = .ok (.ifCond .eq 12, 3) := by decide +kernel
theorem dX6_attemptNode_8 : decode cX6_attemptNode 8 = .ok (.aload_n 0, 1) := by decide +kernel
theorem dX6_attemptNode_9 : decode cX6_attemptNode 9 = .ok (.getfield 45, 3) := by decide +kernel
theorem dX6_attemptNode_12 : decode cX6_attemptNode 12 = .ok (.iload_n 1, 1) := by decide +kernel
theorem dX6_attemptNode_13 : decode cX6_attemptNode 13 = .ok (.iaload, 1) := by decide +kernel
theorem dX6_attemptNode_14 : decode cX6_attemptNode 14 = .ok (.goto 5, 3) := by decide +kernel
theorem dX6_attemptNode_17 : decode cX6_attemptNode 17 = .ok (.bipush (-3), 2) := by decide +kernel
theorem dX6_attemptNode_19 : decode cX6_attemptNode 19 = .ok (.ireturn, 1) := by decide +kernel
theorem dX6_attemptState_0 : decode cX6_attemptState 0 = .ok (.aload_n 0, 1) := by decide +kernel
theorem dX6_attemptState_1 : decode cX6_attemptState 1 = .ok (.iload_n 1, 1) := by decide +kernel
theorem dX6_attemptState_2 : decode cX6_attemptState 2 = .ok (.invokevirtual 187, 3) := by decide +kernel
theorem dX6_attemptState_5 : decode cX6_attemptState 5 = .ok (.ifCond .eq 12, 3) := by decide +kernel
theorem dX6_attemptState_8 : decode cX6_attemptState 8 = .ok (.aload_n 0, 1) := by decide +kernel
theorem dX6_attemptState_9 : decode cX6_attemptState 9 = .ok (.getfield 54, 3) := by decide +kernel
theorem dX6_attemptState_12 : decode cX6_attemptState 12 = .ok (.iload_n 1, 1) := by decide +kernel
theorem dX6_attemptState_13 : decode cX6_attemptState 13 = .ok (.iaload, 1) := by decide +kernel
theorem dX6_attemptState_14 : decode cX6_attemptState 14 = .ok (.goto 5, 3) := by decide +kernel
theorem dX6_attemptState_17 : decode cX6_attemptState 17 = .ok (.bipush (-3), 2) := by decide +kernel
theorem dX6_attemptState_19 : decode cX6_attemptState 19 = .ok (.ireturn, 1) := by decide +kernel
theorem dX6_isSpeculative_0 : decode cX6_isSpeculative 0 = .ok (.aload_n 0, 1) := by decide +kernel
theorem dX6_isSpeculative_1 : decode cX6_isSpeculative 1 = .ok (.iload_n 1, 1) := by decide +kernel
theorem dX6_isSpeculative_2 : decode cX6_isSpeculative 2 = .ok (.invokevirtual 187, 3) := by decide +kernel
theorem dX6_isSpeculative_5 : decode cX6_isSpeculative 5 = .ok (.ifCond .ne 8, 3) := by decide +kernel
theorem dX6_isSpeculative_8 : decode cX6_isSpeculative 8 = .ok (.bipush (-3), 2) := by decide +kernel
theorem dX6_isSpeculative_10 : decode cX6_isSpeculative 10 = .ok (.goto 17, 3) := by decide +kernel
theorem dX6_isSpeculative_13 : decode cX6_isSpeculative 13 = .ok (.aload_n 0, 1) := by decide +kernel
theorem dX6_isSpeculative_14 : decode cX6_isSpeculative 14 = .ok (.getfield 57, 3) := by decide +kernel
theorem dX6_isSpeculative_17 : decode cX6_isSpeculative 17 = .ok (.iload_n 1, 1) := by decide +kernel
theorem dX6_isSpeculative_18 : decode cX6_isSpeculative 18 = .ok (.baload, 1) := by decide +kernel
theorem dX6_isSpeculative_19 : decode cX6_isSpeculative 19 = .ok (.ifCond .eq 7, 3) := by decide +kernel
theorem dX6_isSpeculative_22 : decode cX6_isSpeculative 22 = .ok (.iconst 1, 1) := by decide +kernel
theorem dX6_isSpeculative_23 : decode cX6_isSpeculative 23 = .ok (.goto 4, 3) := by decide +kernel
theorem dX6_isSpeculative_26 : decode cX6_isSpeculative 26 = .ok (.iconst 0, 1) := by decide +kernel
theorem dX6_isSpeculative_27 : decode cX6_isSpeculative 27 = .ok (.ireturn, 1) := by decide +kernel
theorem dX6_progress_0 : decode cX6_progress 0 = .ok (.aload_n 0, 1) := by decide +kernel
theorem dX6_progress_1 : decode cX6_progress 1 = .ok (.iload_n 1, 1) := by decide +kernel
theorem dX6_progress_2 : decode cX6_progress 2 = .ok (.invokevirtual 187, 3) := by decide +kernel
theorem dX6_progress_5 : decode cX6_progress 5 = .ok (.ifCond .eq 11, 3) := by decide +kernel
theorem dX6_progress_8 : decode cX6_progress 8 = .ok (.aload_n 0, 1) := by decide +kernel
theorem dX6_progress_9 : decode cX6_progress 9 = .ok (.iload_n 1, 1) := by decide +kernel
theorem dX6_progress_10 : decode cX6_progress 10 = .ok (.invokevirtual 102, 3) := by decide +kernel
theorem dX6_progress_13 : decode cX6_progress 13 = .ok (.goto 5, 3) := by decide +kernel
theorem dX6_progress_16 : decode cX6_progress 16 = .ok (.bipush (-3), 2) := by decide +kernel
theorem dX6_progress_18 : decode cX6_progress 18 = .ok (.ireturn, 1) := by decide +kernel
theorem dX6_remainingTime_0 : decode cX6_remainingTime 0 = .ok (.aload_n 0, 1) := by decide +kernel
theorem dX6_remainingTime_1 : decode cX6_remainingTime 1 = .ok (.iload_n 1, 1) := by decide +kernel
theorem dX6_remainingTime_2 : decode cX6_remainingTime 2 = .ok (.invokevirtual 187, 3) := by decide +kernel
theorem dX6_remainingTime_5 : decode cX6_remainingTime 5 = .ok (.ifCond .ne 6, 3) := by decide +kernel
theorem dX6_remainingTime_8 : decode cX6_remainingTime 8 = .ok (.bipush (-3), 2) := by decide +kernel
theorem dX6_remainingTime_10 : decode cX6_remainingTime 10 = .ok (.ireturn, 1) := by decide +kernel
theorem dX6_remainingTime_11 : decode cX6_remainingTime 11 = .ok (.aload_n 0, 1) := by decide +kernel
theorem dX6_remainingTime_12 : decode cX6_remainingTime 12 = .ok (.getfield 54, 3) := by decide +kernel
theorem dX6_remainingTime_15 : decode cX6_remainingTime 15 = .ok (.iload_n 1, 1) := by decide +kernel
theorem dX6_remainingTime_16 : decode cX6_remainingTime 16 = .ok (.iaload, 1) := by decide +kernel
theorem dX6_remainingTime_17 : decode cX6_remainingTime 17 = .ok (.iconst 1, 1) := by decide +kernel
theorem dX6_remainingTime_18 : decode cX6_remainingTime 18 = .ok (.if_icmp .ne 11, 3) := by decide +kernel
theorem dX6_remainingTime_21 : decode cX6_remainingTime 21 = .ok (.aload_n 0, 1) := by decide +kernel
theorem dX6_remainingTime_22 : decode cX6_remainingTime 22 = .ok (.iload_n 1, 1) := by decide +kernel
theorem dX6_remainingTime_23 : decode cX6_remainingTime 23 = .ok (.invokevirtual 134, 3) := by decide +kernel
theorem dX6_remainingTime_26 : decode cX6_remainingTime 26 = .ok (.goto 5, 3) := by decide +kernel
theorem dX6_remainingTime_29 : decode cX6_remainingTime 29 = .ok (.bipush (-6), 2) := by decide +kernel
theorem dX6_remainingTime_31 : decode cX6_remainingTime 31 = .ok (.ireturn, 1) := by decide +kernel
theorem dX6_nodeScore_0 : decode cX6_nodeScore 0 = .ok (.aload_n 0, 1) := by decide +kernel
theorem dX6_nodeScore_1 : decode cX6_nodeScore 1 = .ok (.iload_n 1, 1) := by decide +kernel
theorem dX6_nodeScore_2 : decode cX6_nodeScore 2 = .ok (.invokevirtual 94, 3) := by decide +kernel
theorem dX6_nodeScore_5 : decode cX6_nodeScore 5 = .ok (.ifCond .eq 11, 3) := by decide +kernel
theorem dX6_nodeScore_8 : decode cX6_nodeScore 8 = .ok (.aload_n 0, 1) := by decide +kernel
theorem dX6_nodeScore_9 : decode cX6_nodeScore 9 = .ok (.iload_n 1, 1) := by decide +kernel
theorem dX6_nodeScore_10 : decode cX6_nodeScore 10 = .ok (.invokevirtual 119, 3) := by decide +kernel
theorem dX6_nodeScore_13 : decode cX6_nodeScore 13 = .ok (.goto 4, 3) := by decide +kernel
theorem dX6_nodeScore_16 : decode cX6_nodeScore 16 = .ok (.iconst (-1), 1) := by decide +kernel
theorem dX6_nodeScore_17 : decode cX6_nodeScore 17 = .ok (.ireturn, 1) := by decide +kernel
theorem dX6_isSlowNode_0 : decode cX6_isSlowNode 0 = .ok (.aload_n 0, 1) := by decide +kernel
theorem dX6_isSlowNode_1 : decode cX6_isSlowNode 1 = .ok (.iload_n 1, 1) := by decide +kernel
theorem dX6_isSlowNode_2 : decode cX6_isSlowNode 2 = .ok (.invokevirtual 94, 3) := by decide +kernel
theorem dX6_isSlowNode_5 : decode cX6_isSlowNode 5 = .ok (.ifCond .ne 7, 3) := by decide +kernel
theorem dX6_isSlowNode_8 : decode cX6_isSlowNode 8 = .ok (.iconst (-1), 1) := by decide +kernel
theorem dX6_isSlowNode_9 : decode cX6_isSlowNode 9 = .ok (.goto 16, 3) := by decide +kernel
theorem dX6_isSlowNode_12 : decode cX6_isSlowNode 12 = .ok (.aload_n 0, 1) := by decide +kernel
theorem dX6_isSlowNode_13 : decode cX6_isSlowNode 13 = .ok (.iload_n 1, 1) := by decide +kernel
theorem dX6_isSlowNode_14 : decode cX6_isSlowNode 14 = .ok (.invokevirtual 155, 3) := by decide +kernel
theorem dX6_isSlowNode_17 : decode cX6_isSlowNode 17 = .ok (.ifCond .eq 7, 3) := by decide +kernel
theorem dX6_isSlowNode_20 : decode cX6_isSlowNode 20 = .ok (.iconst 1, 1) := by decide +kernel
theorem dX6_isSlowNode_21 : decode cX6_isSlowNode 21 = .ok (.goto 4, 3) := by decide +kernel
theorem dX6_isSlowNode_24 : decode cX6_isSlowNode 24 = .ok (.iconst 0, 1) := by decide +kernel
theorem dX6_isSlowNode_25 : decode cX6_isSlowNode 25 = .ok (.ireturn, 1) := by decide +kernel
theorem dX6_runningOn_0 : decode cX6_runningOn 0 = .ok (.aload_n 0, 1) := by decide +kernel
theorem dX6_runningOn_1 : decode cX6_runningOn 1 = .ok (.iload_n 1, 1) := by decide +kernel
theorem dX6_runningOn_2 : decode cX6_runningOn 2 = .ok (.invokevirtual 94, 3) := by decide +kernel
theorem dX6_runningOn_5 : decode cX6_runningOn 5 = .ok (.ifCond .eq 12, 3) := by decide +kernel
theorem dX6_runningOn_8 : decode cX6_runningOn 8 = .ok (.aload_n 0, 1) := by decide +kernel
theorem dX6_runningOn_9 : decode cX6_runningOn 9 = .ok (.getfield 69, 3) := by decide +kernel
theorem dX6_runningOn_12 : decode cX6_runningOn 12 = .ok (.iload_n 1, 1) := by decide +kernel
theorem dX6_runningOn_13 : decode cX6_runningOn 13 = .ok (.iaload, 1) := by decide +kernel
theorem dX6_runningOn_14 : decode cX6_runningOn 14 = .ok (.goto 4, 3) := by decide +kernel
theorem dX6_runningOn_17 : decode cX6_runningOn 17 = .ok (.iconst (-1), 1) := by decide +kernel
theorem dX6_runningOn_18 : decode cX6_runningOn 18 = .ok (.ireturn, 1) := by decide +kernel
theorem dX6_straggler_0 : decode cX6_straggler 0 = .ok (.aload_n 0, 1) := by decide +kernel
theorem dX6_straggler_1 : decode cX6_straggler 1 = .ok (.aload_n 0, 1) := by decide +kernel
theorem dX6_straggler_2 : decode cX6_straggler 2 = .ok (.getfield 78, 3) := by decide +kernel
theorem dX6_straggler_5 : decode cX6_straggler 5 = .ok (.invokevirtual 149, 3) := by decide +kernel
theorem dX6_straggler_8 : decode cX6_straggler 8 = .ok (.ireturn, 1) := by decide +kernel
theorem dX6_runningSpeculative_0 : decode cX6_runningSpeculative 0 = .ok (.aload_n 0, 1) := by decide +kernel
theorem dX6_runningSpeculative_1 : decode cX6_runningSpeculative 1 = .ok (.invokevirtual 152, 3) := by decide +kernel
theorem dX6_runningSpeculative_4 : decode cX6_runningSpeculative 4 = .ok (.ireturn, 1) := by decide +kernel
theorem dX6_wastedWork_0 : decode cX6_wastedWork 0 = .ok (.iconst 0, 1) := by decide +kernel
theorem dX6_wastedWork_1 : decode cX6_wastedWork 1 = .ok (.istore_n 1, 1) := by decide +kernel
theorem dX6_wastedWork_2 : decode cX6_wastedWork 2 = .ok (.iconst 0, 1) := by decide +kernel
theorem dX6_wastedWork_3 : decode cX6_wastedWork 3 = .ok (.istore_n 2, 1) := by decide +kernel
theorem dX6_wastedWork_4 : decode cX6_wastedWork 4 = .ok (.iload_n 2, 1) := by decide +kernel
theorem dX6_wastedWork_5 : decode cX6_wastedWork 5 = .ok (.aload_n 0, 1) := by decide +kernel
theorem dX6_wastedWork_6 : decode cX6_wastedWork 6 = .ok (.getfield 36, 3) := by decide +kernel
theorem dX6_wastedWork_9 : decode cX6_wastedWork 9 = .ok (.iconst 0, 1) := by decide +kernel
theorem dX6_wastedWork_10 : decode cX6_wastedWork 10 = .ok (.iaload, 1) := by decide +kernel
theorem dX6_wastedWork_11 : decode cX6_wastedWork 11 = .ok (.if_icmp .ge 42, 3) := by decide +kernel
theorem dX6_wastedWork_14 : decode cX6_wastedWork 14 = .ok (.iload_n 1, 1) := by decide +kernel
theorem dX6_wastedWork_15 : decode cX6_wastedWork 15 = .ok (.aload_n 0, 1) := by decide +kernel
theorem dX6_wastedWork_16 : decode cX6_wastedWork 16 = .ok (.getfield 54, 3) := by decide +kernel
theorem dX6_wastedWork_19 : decode cX6_wastedWork 19 = .ok (.iload_n 2, 1) := by decide +kernel
theorem dX6_wastedWork_20 : decode cX6_wastedWork 20 = .ok (.iaload, 1) := by decide +kernel
theorem dX6_wastedWork_21 : decode cX6_wastedWork 21 = .ok (.iconst 3, 1) := by decide +kernel
theorem dX6_wastedWork_22 : decode cX6_wastedWork 22 = .ok (.if_icmp .eq 13, 3) := by decide +kernel
theorem dX6_wastedWork_25 : decode cX6_wastedWork 25 = .ok (.aload_n 0, 1) := by decide +kernel
theorem dX6_wastedWork_26 : decode cX6_wastedWork 26 = .ok (.getfield 54, 3) := by decide +kernel
theorem dX6_wastedWork_29 : decode cX6_wastedWork 29 = .ok (.iload_n 2, 1) := by decide +kernel
theorem dX6_wastedWork_30 : decode cX6_wastedWork 30 = .ok (.iaload, 1) := by decide +kernel
theorem dX6_wastedWork_31 : decode cX6_wastedWork 31 = .ok (.iconst 4, 1) := by decide +kernel
theorem dX6_wastedWork_32 : decode cX6_wastedWork 32 = .ok (.if_icmp .ne 12, 3) := by decide +kernel
theorem dX6_wastedWork_35 : decode cX6_wastedWork 35 = .ok (.aload_n 0, 1) := by decide +kernel
theorem dX6_wastedWork_36 : decode cX6_wastedWork 36 = .ok (.getfield 51, 3) := by decide +kernel
theorem dX6_wastedWork_39 : decode cX6_wastedWork 39 = .ok (.iload_n 2, 1) := by decide +kernel
theorem dX6_wastedWork_40 : decode cX6_wastedWork 40 = .ok (.iaload, 1) := by decide +kernel
theorem dX6_wastedWork_41 : decode cX6_wastedWork 41 = .ok (.goto 4, 3) := by decide +kernel
theorem dX6_wastedWork_44 : decode cX6_wastedWork 44 = .ok (.iconst 0, 1) := by decide +kernel
theorem dX6_wastedWork_45 : decode cX6_wastedWork 45 = .ok (.iadd, 1) := by decide +kernel
theorem dX6_wastedWork_46 : decode cX6_wastedWork 46 = .ok (.istore_n 1, 1) := by decide +kernel
theorem dX6_wastedWork_47 : decode cX6_wastedWork 47 = .ok (.iinc 2 1, 3) := by decide +kernel
theorem dX6_wastedWork_50 : decode cX6_wastedWork 50 = .ok (.goto (-46), 3) := by decide +kernel
theorem dX6_wastedWork_53 : decode cX6_wastedWork 53 = .ok (.iload_n 1, 1) := by decide +kernel
theorem dX6_wastedWork_54 : decode cX6_wastedWork 54 = .ok (.ireturn, 1) := by decide +kernel
theorem dX6_clears_0 : decode cX6_clears 0 = .ok (.aload_n 0, 1) := by decide +kernel
theorem dX6_clears_1 : decode cX6_clears 1 = .ok (.getfield 36, 3) := by decide +kernel
theorem dX6_clears_4 : decode cX6_clears 4 = .ok (.iconst 1, 1) := by decide +kernel
theorem dX6_clears_5 : decode cX6_clears 5 = .ok (.iconst 0, 1) := by decide +kernel
theorem dX6_clears_6 : decode cX6_clears 6 = .ok (.iastore, 1) := by decide +kernel
theorem dX6_clears_7 : decode cX6_clears 7 = .ok (.aload_n 0, 1) := by decide +kernel
theorem dX6_clears_8 : decode cX6_clears 8 = .ok (.getfield 39, 3) := by decide +kernel
theorem dX6_clears_11 : decode cX6_clears 11 = .ok (.iconst 1, 1) := by decide +kernel
theorem dX6_clears_12 : decode cX6_clears 12 = .ok (.iconst 0, 1) := by decide +kernel
theorem dX6_clears_13 : decode cX6_clears 13 = .ok (.iastore, 1) := by decide +kernel
theorem dX6_clears_14 : decode cX6_clears 14 = .ok (.bipush 24, 2) := by decide +kernel
theorem dX6_clears_16 : decode cX6_clears 16 = .ok (.istore_n 1, 1) := by decide +kernel
theorem dX6_clears_17 : decode cX6_clears 17 = .ok (.iload_n 1, 1) := by decide +kernel
theorem dX6_clears_18 : decode cX6_clears 18 = .ok (.bipush 48, 2) := by decide +kernel
theorem dX6_clears_20 : decode cX6_clears 20 = .ok (.if_icmp .ge 32, 3) := by decide +kernel
theorem dX6_clears_23 : decode cX6_clears 23 = .ok (.aload_n 0, 1) := by decide +kernel
theorem dX6_clears_24 : decode cX6_clears 24 = .ok (.getfield 60, 3) := by decide +kernel
theorem dX6_clears_27 : decode cX6_clears 27 = .ok (.iload_n 1, 1) := by decide +kernel
theorem dX6_clears_28 : decode cX6_clears 28 = .ok (.bipush (-6), 2) := by decide +kernel
theorem dX6_clears_30 : decode cX6_clears 30 = .ok (.iastore, 1) := by decide +kernel
theorem dX6_clears_31 : decode cX6_clears 31 = .ok (.aload_n 0, 1) := by decide +kernel
theorem dX6_clears_32 : decode cX6_clears 32 = .ok (.getfield 63, 3) := by decide +kernel
theorem dX6_clears_35 : decode cX6_clears 35 = .ok (.iload_n 1, 1) := by decide +kernel
theorem dX6_clears_36 : decode cX6_clears 36 = .ok (.bipush (-6), 2) := by decide +kernel
theorem dX6_clears_38 : decode cX6_clears 38 = .ok (.iastore, 1) := by decide +kernel
theorem dX6_clears_39 : decode cX6_clears 39 = .ok (.aload_n 0, 1) := by decide +kernel
theorem dX6_clears_40 : decode cX6_clears 40 = .ok (.getfield 66, 3) := by decide +kernel
theorem dX6_clears_43 : decode cX6_clears 43 = .ok (.iload_n 1, 1) := by decide +kernel
theorem dX6_clears_44 : decode cX6_clears 44 = .ok (.iconst 0, 1) := by decide +kernel
theorem dX6_clears_45 : decode cX6_clears 45 = .ok (.iastore, 1) := by decide +kernel
theorem dX6_clears_46 : decode cX6_clears 46 = .ok (.iinc 1 1, 3) := by decide +kernel
theorem dX6_clears_49 : decode cX6_clears 49 = .ok (.goto (-32), 3) := by decide +kernel
theorem dX6_clears_52 : decode cX6_clears 52 = .ok (.bipush 8, 2) := by decide +kernel
theorem dX6_clears_54 : decode cX6_clears 54 = .ok (.istore_n 1, 1) := by decide +kernel
theorem dX6_clears_55 : decode cX6_clears 55 = .ok (.iload_n 1, 1) := by decide +kernel
theorem dX6_clears_56 : decode cX6_clears 56 = .ok (.bipush 16, 2) := by decide +kernel
theorem dX6_clears_58 : decode cX6_clears 58 = .ok (.if_icmp .ge 30, 3) := by decide +kernel
theorem dX6_clears_61 : decode cX6_clears 61 = .ok (.aload_n 0, 1) := by decide +kernel
theorem dX6_clears_62 : decode cX6_clears 62 = .ok (.getfield 69, 3) := by decide +kernel
theorem dX6_clears_65 : decode cX6_clears 65 = .ok (.iload_n 1, 1) := by decide +kernel
theorem dX6_clears_66 : decode cX6_clears 66 = .ok (.iconst 0, 1) := by decide +kernel
theorem dX6_clears_67 : decode cX6_clears 67 = .ok (.iastore, 1) := by decide +kernel
theorem dX6_clears_68 : decode cX6_clears 68 = .ok (.aload_n 0, 1) := by decide +kernel
theorem dX6_clears_69 : decode cX6_clears 69 = .ok (.getfield 72, 3) := by decide +kernel
theorem dX6_clears_72 : decode cX6_clears 72 = .ok (.iload_n 1, 1) := by decide +kernel
theorem dX6_clears_73 : decode cX6_clears 73 = .ok (.iconst 0, 1) := by decide +kernel
theorem dX6_clears_74 : decode cX6_clears 74 = .ok (.iastore, 1) := by decide +kernel
theorem dX6_clears_75 : decode cX6_clears 75 = .ok (.aload_n 0, 1) := by decide +kernel
theorem dX6_clears_76 : decode cX6_clears 76 = .ok (.getfield 75, 3) := by decide +kernel
theorem dX6_clears_79 : decode cX6_clears 79 = .ok (.iload_n 1, 1) := by decide +kernel
theorem dX6_clears_80 : decode cX6_clears 80 = .ok (.iconst 0, 1) := by decide +kernel
theorem dX6_clears_81 : decode cX6_clears 81 = .ok (.iastore, 1) := by decide +kernel
theorem dX6_clears_82 : decode cX6_clears 82 = .ok (.iinc 1 1, 3) := by decide +kernel
theorem dX6_clears_85 : decode cX6_clears 85 = .ok (.goto (-30), 3) := by decide +kernel
theorem dX6_clears_88 : decode cX6_clears 88 = .ok (.return_, 1) := by decide +kernel
theorem dX6_simulatedMakespan_0 : decode cX6_simulatedMakespan 0 = .ok (.iload_n 1, 1) := by decide +kernel
theorem dX6_simulatedMakespan_1 : decode cX6_simulatedMakespan 1 = .ok (.iconst 0, 1) := by decide +kernel
theorem dX6_simulatedMakespan_2 : decode cX6_simulatedMakespan 2 = .ok (.iconst 2, 1) := by decide +kernel
theorem dX6_simulatedMakespan_3 : decode cX6_simulatedMakespan 3 = .ok (.invokestatic 84, 3) := by decide +kernel
theorem dX6_simulatedMakespan_6 : decode cX6_simulatedMakespan 6 = .ok (.ifCond .ne 6, 3) := by decide +kernel
theorem dX6_simulatedMakespan_9 : decode cX6_simulatedMakespan 9 = .ok (.bipush (-4), 2) := by decide +kernel
theorem dX6_simulatedMakespan_11 : decode cX6_simulatedMakespan 11 = .ok (.ireturn, 1) := by decide +kernel
theorem dX6_simulatedMakespan_12 : decode cX6_simulatedMakespan 12 = .ok (.aload_n 0, 1) := by decide +kernel
theorem dX6_simulatedMakespan_13 : decode cX6_simulatedMakespan 13 = .ok (.iconst 1, 1) := by decide +kernel
theorem dX6_simulatedMakespan_14 : decode cX6_simulatedMakespan 14 = .ok (.putfield 91, 3) := by decide +kernel
theorem dX6_simulatedMakespan_17 : decode cX6_simulatedMakespan 17 = .ok (.aload_n 0, 1) := by decide +kernel
theorem dX6_simulatedMakespan_18 : decode cX6_simulatedMakespan 18 = .ok (.invokevirtual 190, 3) := by decide +kernel
theorem dX6_simulatedMakespan_21 : decode cX6_simulatedMakespan 21 = .ok (.aload_n 0, 1) := by decide +kernel
theorem dX6_simulatedMakespan_22 : decode cX6_simulatedMakespan 22 = .ok (.getfield 88, 3) := by decide +kernel
theorem dX6_simulatedMakespan_25 : decode cX6_simulatedMakespan 25 = .ok (.ifCond .le 33, 3) := by decide +kernel
theorem dX6_simulatedMakespan_28 : decode cX6_simulatedMakespan 28 = .ok (.aload_n 0, 1) := by decide +kernel
theorem dX6_simulatedMakespan_29 : decode cX6_simulatedMakespan 29 = .ok (.invokevirtual 184, 3) := by decide +kernel
theorem dX6_simulatedMakespan_32 : decode cX6_simulatedMakespan 32 = .ok (.bipush (-6), 2) := by decide +kernel
theorem dX6_simulatedMakespan_34 : decode cX6_simulatedMakespan 34 = .ok (.if_icmp .ne 24, 3) := by decide +kernel
theorem dX6_simulatedMakespan_37 : decode cX6_simulatedMakespan 37 = .ok (.aload_n 0, 1) := by decide +kernel
theorem dX6_simulatedMakespan_38 : decode cX6_simulatedMakespan 38 = .ok (.getfield 39, 3) := by decide +kernel
theorem dX6_simulatedMakespan_41 : decode cX6_simulatedMakespan 41 = .ok (.iconst 1, 1) := by decide +kernel
theorem dX6_simulatedMakespan_42 : decode cX6_simulatedMakespan 42 = .ok (.iaload, 1) := by decide +kernel
theorem dX6_simulatedMakespan_43 : decode cX6_simulatedMakespan 43 = .ok (.sipush 2000, 3) := by decide +kernel
theorem dX6_simulatedMakespan_46 : decode cX6_simulatedMakespan 46 = .ok (.if_icmp .ge 12, 3) := by decide +kernel
theorem dX6_simulatedMakespan_49 : decode cX6_simulatedMakespan 49 = .ok (.aload_n 0, 1) := by decide +kernel
theorem dX6_simulatedMakespan_50 : decode cX6_simulatedMakespan 50 = .ok (.iload_n 1, 1) := by decide +kernel
theorem dX6_simulatedMakespan_51 : decode cX6_simulatedMakespan 51 = .ok (.invokevirtual 178, 3) := by decide +kernel
theorem dX6_simulatedMakespan_54 : decode cX6_simulatedMakespan 54 = .ok (.pop, 1) := by decide +kernel
theorem dX6_simulatedMakespan_55 : decode cX6_simulatedMakespan 55 = .ok (.goto (-34), 3) := by decide +kernel
theorem dX6_simulatedMakespan_58 : decode cX6_simulatedMakespan 58 = .ok (.aload_n 0, 1) := by decide +kernel
theorem dX6_simulatedMakespan_59 : decode cX6_simulatedMakespan 59 = .ok (.invokevirtual 184, 3) := by decide +kernel
theorem dX6_simulatedMakespan_62 : decode cX6_simulatedMakespan 62 = .ok (.istore_n 2, 1) := by decide +kernel
theorem dX6_simulatedMakespan_63 : decode cX6_simulatedMakespan 63 = .ok (.aload_n 0, 1) := by decide +kernel
theorem dX6_simulatedMakespan_64 : decode cX6_simulatedMakespan 64 = .ok (.iconst 0, 1) := by decide +kernel
theorem dX6_simulatedMakespan_65 : decode cX6_simulatedMakespan 65 = .ok (.putfield 91, 3) := by decide +kernel
theorem dX6_simulatedMakespan_68 : decode cX6_simulatedMakespan 68 = .ok (.iload_n 2, 1) := by decide +kernel
theorem dX6_simulatedMakespan_69 : decode cX6_simulatedMakespan 69 = .ok (.ireturn, 1) := by decide +kernel
end
section
theorem dL_law_0 : decode cL_law 0 = .ok (.new 7, 3) := by decide +kernel
theorem dL_law_3 : decode cL_law 3 = .ok (.dup, 1) := by decide +kernel
theorem dL_law_4 : decode cL_law 4 = .ok (.invokespecial 9, 3) := by decide +kernel
theorem dL_law_7 : decode cL_law 7 = .ok (.astore_n 1, 1) := by decide +kernel
theorem dL_law_8 : decode cL_law 8 = .ok (.new 10, 3) := by decide +kernel
theorem dL_law_11 : decode cL_law 11 = .ok (.dup, 1) := by decide +kernel
theorem dL_law_12 : decode cL_law 12 = .ok (.invokespecial 12, 3) := by decide +kernel
theorem dL_law_15 : decode cL_law 15 = .ok (.astore_n 2, 1) := by decide +kernel
theorem dL_law_16 : decode cL_law 16 = .ok (.iconst 0, 1) := by decide +kernel
theorem dL_law_17 : decode cL_law 17 = .ok (.istore_n 3, 1) := by decide +kernel
theorem dL_law_18 : decode cL_law 18 = .ok (.iload_n 3, 1) := by decide +kernel
theorem dL_law_19 : decode cL_law 19 = .ok (.aload_n 0, 1) := by decide +kernel
theorem dL_law_20 : decode cL_law 20 = .ok (.arraylength, 1) := by decide +kernel
theorem dL_law_21 : decode cL_law 21 = .ok (.iconst 3, 1) := by decide +kernel
theorem dL_law_22 : decode cL_law 22 = .ok (.isub, 1) := by decide +kernel
theorem dL_law_23 : decode cL_law 23 = .ok (.if_icmp .gt 767, 3) := by decide +kernel
theorem dL_law_26 : decode cL_law 26 = .ok (.aload_n 0, 1) := by decide +kernel
theorem dL_law_27 : decode cL_law 27 = .ok (.iload_n 3, 1) := by decide +kernel
theorem dL_law_28 : decode cL_law 28 = .ok (.iaload, 1) := by decide +kernel
theorem dL_law_29 : decode cL_law 29 = .ok (.bipush 31, 2) := by decide +kernel
theorem dL_law_31 : decode cL_law 31 = .ok (.iand, 1) := by decide +kernel
theorem dL_law_32 : decode cL_law 32 = .ok (.tableswitch 752 0 27 #[128, 161, 194, 217, 240, 263, 286, 319, 352, 375, 388, 411, 434, 457, 470, 483, 506, 529, 552, 575, 598, 621, 644, 667, 690, 703, 716, 729], 128) := by decide +kernel
theorem dL_law_160 : decode cL_law 160 = .ok (.aload_n 1, 1) := by decide +kernel
theorem dL_law_161 : decode cL_law 161 = .ok (.aload_n 0, 1) := by decide +kernel
theorem dL_law_162 : decode cL_law 162 = .ok (.iload_n 3, 1) := by decide +kernel
theorem dL_law_163 : decode cL_law 163 = .ok (.iconst 1, 1) := by decide +kernel
theorem dL_law_164 : decode cL_law 164 = .ok (.iadd, 1) := by decide +kernel
theorem dL_law_165 : decode cL_law 165 = .ok (.iaload, 1) := by decide +kernel
theorem dL_law_166 : decode cL_law 166 = .ok (.aload_n 0, 1) := by decide +kernel
theorem dL_law_167 : decode cL_law 167 = .ok (.iload_n 3, 1) := by decide +kernel
theorem dL_law_168 : decode cL_law 168 = .ok (.iconst 2, 1) := by decide +kernel
theorem dL_law_169 : decode cL_law 169 = .ok (.iadd, 1) := by decide +kernel
theorem dL_law_170 : decode cL_law 170 = .ok (.iaload, 1) := by decide +kernel
theorem dL_law_171 : decode cL_law 171 = .ok (.invokevirtual 13, 3) := by decide +kernel
theorem dL_law_174 : decode cL_law 174 = .ok (.aload_n 2, 1) := by decide +kernel
theorem dL_law_175 : decode cL_law 175 = .ok (.aload_n 0, 1) := by decide +kernel
theorem dL_law_176 : decode cL_law 176 = .ok (.iload_n 3, 1) := by decide +kernel
theorem dL_law_177 : decode cL_law 177 = .ok (.iconst 1, 1) := by decide +kernel
theorem dL_law_178 : decode cL_law 178 = .ok (.iadd, 1) := by decide +kernel
theorem dL_law_179 : decode cL_law 179 = .ok (.iaload, 1) := by decide +kernel
theorem dL_law_180 : decode cL_law 180 = .ok (.aload_n 0, 1) := by decide +kernel
theorem dL_law_181 : decode cL_law 181 = .ok (.iload_n 3, 1) := by decide +kernel
theorem dL_law_182 : decode cL_law 182 = .ok (.iconst 2, 1) := by decide +kernel
theorem dL_law_183 : decode cL_law 183 = .ok (.iadd, 1) := by decide +kernel
theorem dL_law_184 : decode cL_law 184 = .ok (.iaload, 1) := by decide +kernel
theorem dL_law_185 : decode cL_law 185 = .ok (.invokevirtual 17, 3) := by decide +kernel
theorem dL_law_188 : decode cL_law 188 = .ok (.if_icmp .eq 596, 3) := by decide +kernel
theorem dL_law_191 : decode cL_law 191 = .ok (.iconst 0, 1) := by decide +kernel
theorem dL_law_192 : decode cL_law 192 = .ok (.ireturn, 1) := by decide +kernel
theorem dL_law_193 : decode cL_law 193 = .ok (.aload_n 1, 1) := by decide +kernel
theorem dL_law_194 : decode cL_law 194 = .ok (.aload_n 0, 1) := by decide +kernel
theorem dL_law_195 : decode cL_law 195 = .ok (.iload_n 3, 1) := by decide +kernel
theorem dL_law_196 : decode cL_law 196 = .ok (.iconst 1, 1) := by decide +kernel
theorem dL_law_197 : decode cL_law 197 = .ok (.iadd, 1) := by decide +kernel
theorem dL_law_198 : decode cL_law 198 = .ok (.iaload, 1) := by decide +kernel
theorem dL_law_199 : decode cL_law 199 = .ok (.aload_n 0, 1) := by decide +kernel
theorem dL_law_200 : decode cL_law 200 = .ok (.iload_n 3, 1) := by decide +kernel
theorem dL_law_201 : decode cL_law 201 = .ok (.iconst 2, 1) := by decide +kernel
theorem dL_law_202 : decode cL_law 202 = .ok (.iadd, 1) := by decide +kernel
theorem dL_law_203 : decode cL_law 203 = .ok (.iaload, 1) := by decide +kernel
theorem dL_law_204 : decode cL_law 204 = .ok (.invokevirtual 18, 3) := by decide +kernel
theorem dL_law_207 : decode cL_law 207 = .ok (.aload_n 2, 1) := by decide +kernel
theorem dL_law_208 : decode cL_law 208 = .ok (.aload_n 0, 1) := by decide +kernel
theorem dL_law_209 : decode cL_law 209 = .ok (.iload_n 3, 1) := by decide +kernel
theorem dL_law_210 : decode cL_law 210 = .ok (.iconst 1, 1) := by decide +kernel
theorem dL_law_211 : decode cL_law 211 = .ok (.iadd, 1) := by decide +kernel
theorem dL_law_212 : decode cL_law 212 = .ok (.iaload, 1) := by decide +kernel
theorem dL_law_213 : decode cL_law 213 = .ok (.aload_n 0, 1) := by decide +kernel
theorem dL_law_214 : decode cL_law 214 = .ok (.iload_n 3, 1) := by decide +kernel
theorem dL_law_215 : decode cL_law 215 = .ok (.iconst 2, 1) := by decide +kernel
theorem dL_law_216 : decode cL_law 216 = .ok (.iadd, 1) := by decide +kernel
theorem dL_law_217 : decode cL_law 217 = .ok (.iaload, 1) := by decide +kernel
theorem dL_law_218 : decode cL_law 218 = .ok (.invokevirtual 21, 3) := by decide +kernel
theorem dL_law_221 : decode cL_law 221 = .ok (.if_icmp .eq 563, 3) := by decide +kernel
theorem dL_law_224 : decode cL_law 224 = .ok (.iconst 0, 1) := by decide +kernel
theorem dL_law_225 : decode cL_law 225 = .ok (.ireturn, 1) := by decide +kernel
theorem dL_law_226 : decode cL_law 226 = .ok (.aload_n 1, 1) := by decide +kernel
theorem dL_law_227 : decode cL_law 227 = .ok (.aload_n 0, 1) := by decide +kernel
theorem dL_law_228 : decode cL_law 228 = .ok (.iload_n 3, 1) := by decide +kernel
theorem dL_law_229 : decode cL_law 229 = .ok (.iconst 1, 1) := by decide +kernel
theorem dL_law_230 : decode cL_law 230 = .ok (.iadd, 1) := by decide +kernel
theorem dL_law_231 : decode cL_law 231 = .ok (.iaload, 1) := by decide +kernel
theorem dL_law_232 : decode cL_law 232 = .ok (.invokevirtual 22, 3) := by decide +kernel
theorem dL_law_235 : decode cL_law 235 = .ok (.aload_n 2, 1) := by decide +kernel
theorem dL_law_236 : decode cL_law 236 = .ok (.aload_n 0, 1) := by decide +kernel
theorem dL_law_237 : decode cL_law 237 = .ok (.iload_n 3, 1) := by decide +kernel
theorem dL_law_238 : decode cL_law 238 = .ok (.iconst 1, 1) := by decide +kernel
theorem dL_law_239 : decode cL_law 239 = .ok (.iadd, 1) := by decide +kernel
theorem dL_law_240 : decode cL_law 240 = .ok (.iaload, 1) := by decide +kernel
theorem dL_law_241 : decode cL_law 241 = .ok (.invokevirtual 26, 3) := by decide +kernel
theorem dL_law_244 : decode cL_law 244 = .ok (.if_icmp .eq 540, 3) := by decide +kernel
theorem dL_law_247 : decode cL_law 247 = .ok (.iconst 0, 1) := by decide +kernel
theorem dL_law_248 : decode cL_law 248 = .ok (.ireturn, 1) := by decide +kernel
theorem dL_law_249 : decode cL_law 249 = .ok (.aload_n 1, 1) := by decide +kernel
theorem dL_law_250 : decode cL_law 250 = .ok (.aload_n 0, 1) := by decide +kernel
theorem dL_law_251 : decode cL_law 251 = .ok (.iload_n 3, 1) := by decide +kernel
theorem dL_law_252 : decode cL_law 252 = .ok (.iconst 1, 1) := by decide +kernel
theorem dL_law_253 : decode cL_law 253 = .ok (.iadd, 1) := by decide +kernel
theorem dL_law_254 : decode cL_law 254 = .ok (.iaload, 1) := by decide +kernel
theorem dL_law_255 : decode cL_law 255 = .ok (.invokevirtual 27, 3) := by decide +kernel
theorem dL_law_258 : decode cL_law 258 = .ok (.aload_n 2, 1) := by decide +kernel
theorem dL_law_259 : decode cL_law 259 = .ok (.aload_n 0, 1) := by decide +kernel
theorem dL_law_260 : decode cL_law 260 = .ok (.iload_n 3, 1) := by decide +kernel
theorem dL_law_261 : decode cL_law 261 = .ok (.iconst 1, 1) := by decide +kernel
theorem dL_law_262 : decode cL_law 262 = .ok (.iadd, 1) := by decide +kernel
theorem dL_law_263 : decode cL_law 263 = .ok (.iaload, 1) := by decide +kernel
theorem dL_law_264 : decode cL_law 264 = .ok (.invokevirtual 30, 3) := by decide +kernel
theorem dL_law_267 : decode cL_law 267 = .ok (.if_icmp .eq 517, 3) := by decide +kernel
theorem dL_law_270 : decode cL_law 270 = .ok (.iconst 0, 1) := by decide +kernel
theorem dL_law_271 : decode cL_law 271 = .ok (.ireturn, 1) := by decide +kernel
theorem dL_law_272 : decode cL_law 272 = .ok (.aload_n 1, 1) := by decide +kernel
theorem dL_law_273 : decode cL_law 273 = .ok (.aload_n 0, 1) := by decide +kernel
theorem dL_law_274 : decode cL_law 274 = .ok (.iload_n 3, 1) := by decide +kernel
theorem dL_law_275 : decode cL_law 275 = .ok (.iconst 1, 1) := by decide +kernel
theorem dL_law_276 : decode cL_law 276 = .ok (.iadd, 1) := by decide +kernel
theorem dL_law_277 : decode cL_law 277 = .ok (.iaload, 1) := by decide +kernel
theorem dL_law_278 : decode cL_law 278 = .ok (.invokevirtual 31, 3) := by decide +kernel
theorem dL_law_281 : decode cL_law 281 = .ok (.aload_n 2, 1) := by decide +kernel
theorem dL_law_282 : decode cL_law 282 = .ok (.aload_n 0, 1) := by decide +kernel
theorem dL_law_283 : decode cL_law 283 = .ok (.iload_n 3, 1) := by decide +kernel
theorem dL_law_284 : decode cL_law 284 = .ok (.iconst 1, 1) := by decide +kernel
theorem dL_law_285 : decode cL_law 285 = .ok (.iadd, 1) := by decide +kernel
theorem dL_law_286 : decode cL_law 286 = .ok (.iaload, 1) := by decide +kernel
theorem dL_law_287 : decode cL_law 287 = .ok (.invokevirtual 34, 3) := by decide +kernel
theorem dL_law_290 : decode cL_law 290 = .ok (.if_icmp .eq 494, 3) := by decide +kernel
theorem dL_law_293 : decode cL_law 293 = .ok (.iconst 0, 1) := by decide +kernel
theorem dL_law_294 : decode cL_law 294 = .ok (.ireturn, 1) := by decide +kernel
theorem dL_law_295 : decode cL_law 295 = .ok (.aload_n 1, 1) := by decide +kernel
theorem dL_law_296 : decode cL_law 296 = .ok (.aload_n 0, 1) := by decide +kernel
theorem dL_law_297 : decode cL_law 297 = .ok (.iload_n 3, 1) := by decide +kernel
theorem dL_law_298 : decode cL_law 298 = .ok (.iconst 1, 1) := by decide +kernel
theorem dL_law_299 : decode cL_law 299 = .ok (.iadd, 1) := by decide +kernel
theorem dL_law_300 : decode cL_law 300 = .ok (.iaload, 1) := by decide +kernel
theorem dL_law_301 : decode cL_law 301 = .ok (.invokevirtual 35, 3) := by decide +kernel
theorem dL_law_304 : decode cL_law 304 = .ok (.aload_n 2, 1) := by decide +kernel
theorem dL_law_305 : decode cL_law 305 = .ok (.aload_n 0, 1) := by decide +kernel
theorem dL_law_306 : decode cL_law 306 = .ok (.iload_n 3, 1) := by decide +kernel
theorem dL_law_307 : decode cL_law 307 = .ok (.iconst 1, 1) := by decide +kernel
theorem dL_law_308 : decode cL_law 308 = .ok (.iadd, 1) := by decide +kernel
theorem dL_law_309 : decode cL_law 309 = .ok (.iaload, 1) := by decide +kernel
theorem dL_law_310 : decode cL_law 310 = .ok (.invokevirtual 38, 3) := by decide +kernel
theorem dL_law_313 : decode cL_law 313 = .ok (.if_icmp .eq 471, 3) := by decide +kernel
theorem dL_law_316 : decode cL_law 316 = .ok (.iconst 0, 1) := by decide +kernel
theorem dL_law_317 : decode cL_law 317 = .ok (.ireturn, 1) := by decide +kernel
theorem dL_law_318 : decode cL_law 318 = .ok (.aload_n 1, 1) := by decide +kernel
theorem dL_law_319 : decode cL_law 319 = .ok (.aload_n 0, 1) := by decide +kernel
theorem dL_law_320 : decode cL_law 320 = .ok (.iload_n 3, 1) := by decide +kernel
theorem dL_law_321 : decode cL_law 321 = .ok (.iconst 1, 1) := by decide +kernel
theorem dL_law_322 : decode cL_law 322 = .ok (.iadd, 1) := by decide +kernel
theorem dL_law_323 : decode cL_law 323 = .ok (.iaload, 1) := by decide +kernel
theorem dL_law_324 : decode cL_law 324 = .ok (.aload_n 0, 1) := by decide +kernel
theorem dL_law_325 : decode cL_law 325 = .ok (.iload_n 3, 1) := by decide +kernel
theorem dL_law_326 : decode cL_law 326 = .ok (.iconst 2, 1) := by decide +kernel
theorem dL_law_327 : decode cL_law 327 = .ok (.iadd, 1) := by decide +kernel
theorem dL_law_328 : decode cL_law 328 = .ok (.iaload, 1) := by decide +kernel
theorem dL_law_329 : decode cL_law 329 = .ok (.invokevirtual 39, 3) := by decide +kernel
theorem dL_law_332 : decode cL_law 332 = .ok (.aload_n 2, 1) := by decide +kernel
theorem dL_law_333 : decode cL_law 333 = .ok (.aload_n 0, 1) := by decide +kernel
theorem dL_law_334 : decode cL_law 334 = .ok (.iload_n 3, 1) := by decide +kernel
theorem dL_law_335 : decode cL_law 335 = .ok (.iconst 1, 1) := by decide +kernel
theorem dL_law_336 : decode cL_law 336 = .ok (.iadd, 1) := by decide +kernel
theorem dL_law_337 : decode cL_law 337 = .ok (.iaload, 1) := by decide +kernel
theorem dL_law_338 : decode cL_law 338 = .ok (.aload_n 0, 1) := by decide +kernel
theorem dL_law_339 : decode cL_law 339 = .ok (.iload_n 3, 1) := by decide +kernel
theorem dL_law_340 : decode cL_law 340 = .ok (.iconst 2, 1) := by decide +kernel
theorem dL_law_341 : decode cL_law 341 = .ok (.iadd, 1) := by decide +kernel
theorem dL_law_342 : decode cL_law 342 = .ok (.iaload, 1) := by decide +kernel
theorem dL_law_343 : decode cL_law 343 = .ok (.invokevirtual 42, 3) := by decide +kernel
theorem dL_law_346 : decode cL_law 346 = .ok (.if_icmp .eq 438, 3) := by decide +kernel
theorem dL_law_349 : decode cL_law 349 = .ok (.iconst 0, 1) := by decide +kernel
theorem dL_law_350 : decode cL_law 350 = .ok (.ireturn, 1) := by decide +kernel
theorem dL_law_351 : decode cL_law 351 = .ok (.aload_n 1, 1) := by decide +kernel
theorem dL_law_352 : decode cL_law 352 = .ok (.aload_n 0, 1) := by decide +kernel
theorem dL_law_353 : decode cL_law 353 = .ok (.iload_n 3, 1) := by decide +kernel
theorem dL_law_354 : decode cL_law 354 = .ok (.iconst 1, 1) := by decide +kernel
theorem dL_law_355 : decode cL_law 355 = .ok (.iadd, 1) := by decide +kernel
theorem dL_law_356 : decode cL_law 356 = .ok (.iaload, 1) := by decide +kernel
theorem dL_law_357 : decode cL_law 357 = .ok (.aload_n 0, 1) := by decide +kernel
theorem dL_law_358 : decode cL_law 358 = .ok (.iload_n 3, 1) := by decide +kernel
theorem dL_law_359 : decode cL_law 359 = .ok (.iconst 2, 1) := by decide +kernel
theorem dL_law_360 : decode cL_law 360 = .ok (.iadd, 1) := by decide +kernel
theorem dL_law_361 : decode cL_law 361 = .ok (.iaload, 1) := by decide +kernel
theorem dL_law_362 : decode cL_law 362 = .ok (.invokevirtual 43, 3) := by decide +kernel
theorem dL_law_365 : decode cL_law 365 = .ok (.aload_n 2, 1) := by decide +kernel
theorem dL_law_366 : decode cL_law 366 = .ok (.aload_n 0, 1) := by decide +kernel
theorem dL_law_367 : decode cL_law 367 = .ok (.iload_n 3, 1) := by decide +kernel
theorem dL_law_368 : decode cL_law 368 = .ok (.iconst 1, 1) := by decide +kernel
theorem dL_law_369 : decode cL_law 369 = .ok (.iadd, 1) := by decide +kernel
theorem dL_law_370 : decode cL_law 370 = .ok (.iaload, 1) := by decide +kernel
theorem dL_law_371 : decode cL_law 371 = .ok (.aload_n 0, 1) := by decide +kernel
theorem dL_law_372 : decode cL_law 372 = .ok (.iload_n 3, 1) := by decide +kernel
theorem dL_law_373 : decode cL_law 373 = .ok (.iconst 2, 1) := by decide +kernel
theorem dL_law_374 : decode cL_law 374 = .ok (.iadd, 1) := by decide +kernel
theorem dL_law_375 : decode cL_law 375 = .ok (.iaload, 1) := by decide +kernel
theorem dL_law_376 : decode cL_law 376 = .ok (.invokevirtual 46, 3) := by decide +kernel
theorem dL_law_379 : decode cL_law 379 = .ok (.if_icmp .eq 405, 3) := by decide +kernel
theorem dL_law_382 : decode cL_law 382 = .ok (.iconst 0, 1) := by decide +kernel
theorem dL_law_383 : decode cL_law 383 = .ok (.ireturn, 1) := by decide +kernel
theorem dL_law_384 : decode cL_law 384 = .ok (.aload_n 1, 1) := by decide +kernel
theorem dL_law_385 : decode cL_law 385 = .ok (.aload_n 0, 1) := by decide +kernel
theorem dL_law_386 : decode cL_law 386 = .ok (.iload_n 3, 1) := by decide +kernel
theorem dL_law_387 : decode cL_law 387 = .ok (.iconst 1, 1) := by decide +kernel
theorem dL_law_388 : decode cL_law 388 = .ok (.iadd, 1) := by decide +kernel
theorem dL_law_389 : decode cL_law 389 = .ok (.iaload, 1) := by decide +kernel
theorem dL_law_390 : decode cL_law 390 = .ok (.invokevirtual 47, 3) := by decide +kernel
theorem dL_law_393 : decode cL_law 393 = .ok (.aload_n 2, 1) := by decide +kernel
theorem dL_law_394 : decode cL_law 394 = .ok (.aload_n 0, 1) := by decide +kernel
theorem dL_law_395 : decode cL_law 395 = .ok (.iload_n 3, 1) := by decide +kernel
theorem dL_law_396 : decode cL_law 396 = .ok (.iconst 1, 1) := by decide +kernel
theorem dL_law_397 : decode cL_law 397 = .ok (.iadd, 1) := by decide +kernel
theorem dL_law_398 : decode cL_law 398 = .ok (.iaload, 1) := by decide +kernel
theorem dL_law_399 : decode cL_law 399 = .ok (.invokevirtual 50, 3) := by decide +kernel
theorem dL_law_402 : decode cL_law 402 = .ok (.if_icmp .eq 382, 3) := by decide +kernel
theorem dL_law_405 : decode cL_law 405 = .ok (.iconst 0, 1) := by decide +kernel
theorem dL_law_406 : decode cL_law 406 = .ok (.ireturn, 1) := by decide +kernel
theorem dL_law_407 : decode cL_law 407 = .ok (.aload_n 1, 1) := by decide +kernel
theorem dL_law_408 : decode cL_law 408 = .ok (.invokevirtual 51, 3) := by decide +kernel
theorem dL_law_411 : decode cL_law 411 = .ok (.aload_n 2, 1) := by decide +kernel
theorem dL_law_412 : decode cL_law 412 = .ok (.invokevirtual 55, 3) := by decide +kernel
theorem dL_law_415 : decode cL_law 415 = .ok (.if_icmp .eq 369, 3) := by decide +kernel
theorem dL_law_418 : decode cL_law 418 = .ok (.iconst 0, 1) := by decide +kernel
theorem dL_law_419 : decode cL_law 419 = .ok (.ireturn, 1) := by decide +kernel
theorem dL_law_420 : decode cL_law 420 = .ok (.aload_n 1, 1) := by decide +kernel
theorem dL_law_421 : decode cL_law 421 = .ok (.aload_n 0, 1) := by decide +kernel
theorem dL_law_422 : decode cL_law 422 = .ok (.iload_n 3, 1) := by decide +kernel
theorem dL_law_423 : decode cL_law 423 = .ok (.iconst 1, 1) := by decide +kernel
theorem dL_law_424 : decode cL_law 424 = .ok (.iadd, 1) := by decide +kernel
theorem dL_law_425 : decode cL_law 425 = .ok (.iaload, 1) := by decide +kernel
theorem dL_law_426 : decode cL_law 426 = .ok (.invokevirtual 56, 3) := by decide +kernel
theorem dL_law_429 : decode cL_law 429 = .ok (.aload_n 2, 1) := by decide +kernel
theorem dL_law_430 : decode cL_law 430 = .ok (.aload_n 0, 1) := by decide +kernel
theorem dL_law_431 : decode cL_law 431 = .ok (.iload_n 3, 1) := by decide +kernel
theorem dL_law_432 : decode cL_law 432 = .ok (.iconst 1, 1) := by decide +kernel
theorem dL_law_433 : decode cL_law 433 = .ok (.iadd, 1) := by decide +kernel
theorem dL_law_434 : decode cL_law 434 = .ok (.iaload, 1) := by decide +kernel
theorem dL_law_435 : decode cL_law 435 = .ok (.invokevirtual 59, 3) := by decide +kernel
theorem dL_law_438 : decode cL_law 438 = .ok (.if_icmp .eq 346, 3) := by decide +kernel
theorem dL_law_441 : decode cL_law 441 = .ok (.iconst 0, 1) := by decide +kernel
theorem dL_law_442 : decode cL_law 442 = .ok (.ireturn, 1) := by decide +kernel
theorem dL_law_443 : decode cL_law 443 = .ok (.aload_n 1, 1) := by decide +kernel
theorem dL_law_444 : decode cL_law 444 = .ok (.aload_n 0, 1) := by decide +kernel
theorem dL_law_445 : decode cL_law 445 = .ok (.iload_n 3, 1) := by decide +kernel
theorem dL_law_446 : decode cL_law 446 = .ok (.iconst 1, 1) := by decide +kernel
theorem dL_law_447 : decode cL_law 447 = .ok (.iadd, 1) := by decide +kernel
theorem dL_law_448 : decode cL_law 448 = .ok (.iaload, 1) := by decide +kernel
theorem dL_law_449 : decode cL_law 449 = .ok (.invokevirtual 60, 3) := by decide +kernel
theorem dL_law_452 : decode cL_law 452 = .ok (.aload_n 2, 1) := by decide +kernel
theorem dL_law_453 : decode cL_law 453 = .ok (.aload_n 0, 1) := by decide +kernel
theorem dL_law_454 : decode cL_law 454 = .ok (.iload_n 3, 1) := by decide +kernel
theorem dL_law_455 : decode cL_law 455 = .ok (.iconst 1, 1) := by decide +kernel
theorem dL_law_456 : decode cL_law 456 = .ok (.iadd, 1) := by decide +kernel
theorem dL_law_457 : decode cL_law 457 = .ok (.iaload, 1) := by decide +kernel
theorem dL_law_458 : decode cL_law 458 = .ok (.invokevirtual 63, 3) := by decide +kernel
theorem dL_law_461 : decode cL_law 461 = .ok (.if_icmp .eq 323, 3) := by decide +kernel
theorem dL_law_464 : decode cL_law 464 = .ok (.iconst 0, 1) := by decide +kernel
theorem dL_law_465 : decode cL_law 465 = .ok (.ireturn, 1) := by decide +kernel
theorem dL_law_466 : decode cL_law 466 = .ok (.aload_n 1, 1) := by decide +kernel
theorem dL_law_467 : decode cL_law 467 = .ok (.aload_n 0, 1) := by decide +kernel
theorem dL_law_468 : decode cL_law 468 = .ok (.iload_n 3, 1) := by decide +kernel
theorem dL_law_469 : decode cL_law 469 = .ok (.iconst 1, 1) := by decide +kernel
theorem dL_law_470 : decode cL_law 470 = .ok (.iadd, 1) := by decide +kernel
theorem dL_law_471 : decode cL_law 471 = .ok (.iaload, 1) := by decide +kernel
theorem dL_law_472 : decode cL_law 472 = .ok (.invokevirtual 64, 3) := by decide +kernel
theorem dL_law_475 : decode cL_law 475 = .ok (.aload_n 2, 1) := by decide +kernel
theorem dL_law_476 : decode cL_law 476 = .ok (.aload_n 0, 1) := by decide +kernel
theorem dL_law_477 : decode cL_law 477 = .ok (.iload_n 3, 1) := by decide +kernel
theorem dL_law_478 : decode cL_law 478 = .ok (.iconst 1, 1) := by decide +kernel
theorem dL_law_479 : decode cL_law 479 = .ok (.iadd, 1) := by decide +kernel
theorem dL_law_480 : decode cL_law 480 = .ok (.iaload, 1) := by decide +kernel
theorem dL_law_481 : decode cL_law 481 = .ok (.invokevirtual 67, 3) := by decide +kernel
theorem dL_law_484 : decode cL_law 484 = .ok (.if_icmp .eq 300, 3) := by decide +kernel
theorem dL_law_487 : decode cL_law 487 = .ok (.iconst 0, 1) := by decide +kernel
theorem dL_law_488 : decode cL_law 488 = .ok (.ireturn, 1) := by decide +kernel
theorem dL_law_489 : decode cL_law 489 = .ok (.aload_n 1, 1) := by decide +kernel
theorem dL_law_490 : decode cL_law 490 = .ok (.invokevirtual 68, 3) := by decide +kernel
theorem dL_law_493 : decode cL_law 493 = .ok (.aload_n 2, 1) := by decide +kernel
theorem dL_law_494 : decode cL_law 494 = .ok (.invokevirtual 71, 3) := by decide +kernel
theorem dL_law_497 : decode cL_law 497 = .ok (.if_icmp .eq 287, 3) := by decide +kernel
theorem dL_law_500 : decode cL_law 500 = .ok (.iconst 0, 1) := by decide +kernel
theorem dL_law_501 : decode cL_law 501 = .ok (.ireturn, 1) := by decide +kernel
theorem dL_law_502 : decode cL_law 502 = .ok (.aload_n 1, 1) := by decide +kernel
theorem dL_law_503 : decode cL_law 503 = .ok (.invokevirtual 72, 3) := by decide +kernel
theorem dL_law_506 : decode cL_law 506 = .ok (.aload_n 2, 1) := by decide +kernel
theorem dL_law_507 : decode cL_law 507 = .ok (.invokevirtual 75, 3) := by decide +kernel
theorem dL_law_510 : decode cL_law 510 = .ok (.if_icmp .eq 274, 3) := by decide +kernel
theorem dL_law_513 : decode cL_law 513 = .ok (.iconst 0, 1) := by decide +kernel
theorem dL_law_514 : decode cL_law 514 = .ok (.ireturn, 1) := by decide +kernel
theorem dL_law_515 : decode cL_law 515 = .ok (.aload_n 1, 1) := by decide +kernel
theorem dL_law_516 : decode cL_law 516 = .ok (.aload_n 0, 1) := by decide +kernel
theorem dL_law_517 : decode cL_law 517 = .ok (.iload_n 3, 1) := by decide +kernel
theorem dL_law_518 : decode cL_law 518 = .ok (.iconst 1, 1) := by decide +kernel
theorem dL_law_519 : decode cL_law 519 = .ok (.iadd, 1) := by decide +kernel
theorem dL_law_520 : decode cL_law 520 = .ok (.iaload, 1) := by decide +kernel
theorem dL_law_521 : decode cL_law 521 = .ok (.invokevirtual 76, 3) := by decide +kernel
theorem dL_law_524 : decode cL_law 524 = .ok (.aload_n 2, 1) := by decide +kernel
theorem dL_law_525 : decode cL_law 525 = .ok (.aload_n 0, 1) := by decide +kernel
theorem dL_law_526 : decode cL_law 526 = .ok (.iload_n 3, 1) := by decide +kernel
theorem dL_law_527 : decode cL_law 527 = .ok (.iconst 1, 1) := by decide +kernel
theorem dL_law_528 : decode cL_law 528 = .ok (.iadd, 1) := by decide +kernel
theorem dL_law_529 : decode cL_law 529 = .ok (.iaload, 1) := by decide +kernel
theorem dL_law_530 : decode cL_law 530 = .ok (.invokevirtual 79, 3) := by decide +kernel
theorem dL_law_533 : decode cL_law 533 = .ok (.if_icmp .eq 251, 3) := by decide +kernel
theorem dL_law_536 : decode cL_law 536 = .ok (.iconst 0, 1) := by decide +kernel
theorem dL_law_537 : decode cL_law 537 = .ok (.ireturn, 1) := by decide +kernel
theorem dL_law_538 : decode cL_law 538 = .ok (.aload_n 1, 1) := by decide +kernel
theorem dL_law_539 : decode cL_law 539 = .ok (.aload_n 0, 1) := by decide +kernel
theorem dL_law_540 : decode cL_law 540 = .ok (.iload_n 3, 1) := by decide +kernel
theorem dL_law_541 : decode cL_law 541 = .ok (.iconst 1, 1) := by decide +kernel
theorem dL_law_542 : decode cL_law 542 = .ok (.iadd, 1) := by decide +kernel
theorem dL_law_543 : decode cL_law 543 = .ok (.iaload, 1) := by decide +kernel
theorem dL_law_544 : decode cL_law 544 = .ok (.invokevirtual 80, 3) := by decide +kernel
theorem dL_law_547 : decode cL_law 547 = .ok (.aload_n 2, 1) := by decide +kernel
theorem dL_law_548 : decode cL_law 548 = .ok (.aload_n 0, 1) := by decide +kernel
theorem dL_law_549 : decode cL_law 549 = .ok (.iload_n 3, 1) := by decide +kernel
theorem dL_law_550 : decode cL_law 550 = .ok (.iconst 1, 1) := by decide +kernel
theorem dL_law_551 : decode cL_law 551 = .ok (.iadd, 1) := by decide +kernel
theorem dL_law_552 : decode cL_law 552 = .ok (.iaload, 1) := by decide +kernel
theorem dL_law_553 : decode cL_law 553 = .ok (.invokevirtual 83, 3) := by decide +kernel
theorem dL_law_556 : decode cL_law 556 = .ok (.if_icmp .eq 228, 3) := by decide +kernel
theorem dL_law_559 : decode cL_law 559 = .ok (.iconst 0, 1) := by decide +kernel
theorem dL_law_560 : decode cL_law 560 = .ok (.ireturn, 1) := by decide +kernel
theorem dL_law_561 : decode cL_law 561 = .ok (.aload_n 1, 1) := by decide +kernel
theorem dL_law_562 : decode cL_law 562 = .ok (.aload_n 0, 1) := by decide +kernel
theorem dL_law_563 : decode cL_law 563 = .ok (.iload_n 3, 1) := by decide +kernel
theorem dL_law_564 : decode cL_law 564 = .ok (.iconst 1, 1) := by decide +kernel
theorem dL_law_565 : decode cL_law 565 = .ok (.iadd, 1) := by decide +kernel
theorem dL_law_566 : decode cL_law 566 = .ok (.iaload, 1) := by decide +kernel
theorem dL_law_567 : decode cL_law 567 = .ok (.invokevirtual 84, 3) := by decide +kernel
theorem dL_law_570 : decode cL_law 570 = .ok (.aload_n 2, 1) := by decide +kernel
theorem dL_law_571 : decode cL_law 571 = .ok (.aload_n 0, 1) := by decide +kernel
theorem dL_law_572 : decode cL_law 572 = .ok (.iload_n 3, 1) := by decide +kernel
theorem dL_law_573 : decode cL_law 573 = .ok (.iconst 1, 1) := by decide +kernel
theorem dL_law_574 : decode cL_law 574 = .ok (.iadd, 1) := by decide +kernel
theorem dL_law_575 : decode cL_law 575 = .ok (.iaload, 1) := by decide +kernel
theorem dL_law_576 : decode cL_law 576 = .ok (.invokevirtual 87, 3) := by decide +kernel
theorem dL_law_579 : decode cL_law 579 = .ok (.if_icmp .eq 205, 3) := by decide +kernel
theorem dL_law_582 : decode cL_law 582 = .ok (.iconst 0, 1) := by decide +kernel
theorem dL_law_583 : decode cL_law 583 = .ok (.ireturn, 1) := by decide +kernel
theorem dL_law_584 : decode cL_law 584 = .ok (.aload_n 1, 1) := by decide +kernel
theorem dL_law_585 : decode cL_law 585 = .ok (.aload_n 0, 1) := by decide +kernel
theorem dL_law_586 : decode cL_law 586 = .ok (.iload_n 3, 1) := by decide +kernel
theorem dL_law_587 : decode cL_law 587 = .ok (.iconst 1, 1) := by decide +kernel
theorem dL_law_588 : decode cL_law 588 = .ok (.iadd, 1) := by decide +kernel
theorem dL_law_589 : decode cL_law 589 = .ok (.iaload, 1) := by decide +kernel
theorem dL_law_590 : decode cL_law 590 = .ok (.invokevirtual 88, 3) := by decide +kernel
theorem dL_law_593 : decode cL_law 593 = .ok (.aload_n 2, 1) := by decide +kernel
theorem dL_law_594 : decode cL_law 594 = .ok (.aload_n 0, 1) := by decide +kernel
theorem dL_law_595 : decode cL_law 595 = .ok (.iload_n 3, 1) := by decide +kernel
theorem dL_law_596 : decode cL_law 596 = .ok (.iconst 1, 1) := by decide +kernel
theorem dL_law_597 : decode cL_law 597 = .ok (.iadd, 1) := by decide +kernel
theorem dL_law_598 : decode cL_law 598 = .ok (.iaload, 1) := by decide +kernel
theorem dL_law_599 : decode cL_law 599 = .ok (.invokevirtual 91, 3) := by decide +kernel
theorem dL_law_602 : decode cL_law 602 = .ok (.if_icmp .eq 182, 3) := by decide +kernel
theorem dL_law_605 : decode cL_law 605 = .ok (.iconst 0, 1) := by decide +kernel
theorem dL_law_606 : decode cL_law 606 = .ok (.ireturn, 1) := by decide +kernel
theorem dL_law_607 : decode cL_law 607 = .ok (.aload_n 1, 1) := by decide +kernel
theorem dL_law_608 : decode cL_law 608 = .ok (.aload_n 0, 1) := by decide +kernel
theorem dL_law_609 : decode cL_law 609 = .ok (.iload_n 3, 1) := by decide +kernel
theorem dL_law_610 : decode cL_law 610 = .ok (.iconst 1, 1) := by decide +kernel
theorem dL_law_611 : decode cL_law 611 = .ok (.iadd, 1) := by decide +kernel
theorem dL_law_612 : decode cL_law 612 = .ok (.iaload, 1) := by decide +kernel
theorem dL_law_613 : decode cL_law 613 = .ok (.invokevirtual 92, 3) := by decide +kernel
theorem dL_law_616 : decode cL_law 616 = .ok (.aload_n 2, 1) := by decide +kernel
theorem dL_law_617 : decode cL_law 617 = .ok (.aload_n 0, 1) := by decide +kernel
theorem dL_law_618 : decode cL_law 618 = .ok (.iload_n 3, 1) := by decide +kernel
theorem dL_law_619 : decode cL_law 619 = .ok (.iconst 1, 1) := by decide +kernel
theorem dL_law_620 : decode cL_law 620 = .ok (.iadd, 1) := by decide +kernel
theorem dL_law_621 : decode cL_law 621 = .ok (.iaload, 1) := by decide +kernel
theorem dL_law_622 : decode cL_law 622 = .ok (.invokevirtual 95, 3) := by decide +kernel
theorem dL_law_625 : decode cL_law 625 = .ok (.if_icmp .eq 159, 3) := by decide +kernel
theorem dL_law_628 : decode cL_law 628 = .ok (.iconst 0, 1) := by decide +kernel
theorem dL_law_629 : decode cL_law 629 = .ok (.ireturn, 1) := by decide +kernel
theorem dL_law_630 : decode cL_law 630 = .ok (.aload_n 1, 1) := by decide +kernel
theorem dL_law_631 : decode cL_law 631 = .ok (.aload_n 0, 1) := by decide +kernel
theorem dL_law_632 : decode cL_law 632 = .ok (.iload_n 3, 1) := by decide +kernel
theorem dL_law_633 : decode cL_law 633 = .ok (.iconst 1, 1) := by decide +kernel
theorem dL_law_634 : decode cL_law 634 = .ok (.iadd, 1) := by decide +kernel
theorem dL_law_635 : decode cL_law 635 = .ok (.iaload, 1) := by decide +kernel
theorem dL_law_636 : decode cL_law 636 = .ok (.invokevirtual 96, 3) := by decide +kernel
theorem dL_law_639 : decode cL_law 639 = .ok (.aload_n 2, 1) := by decide +kernel
theorem dL_law_640 : decode cL_law 640 = .ok (.aload_n 0, 1) := by decide +kernel
theorem dL_law_641 : decode cL_law 641 = .ok (.iload_n 3, 1) := by decide +kernel
theorem dL_law_642 : decode cL_law 642 = .ok (.iconst 1, 1) := by decide +kernel
theorem dL_law_643 : decode cL_law 643 = .ok (.iadd, 1) := by decide +kernel
theorem dL_law_644 : decode cL_law 644 = .ok (.iaload, 1) := by decide +kernel
theorem dL_law_645 : decode cL_law 645 = .ok (.invokevirtual 99, 3) := by decide +kernel
theorem dL_law_648 : decode cL_law 648 = .ok (.if_icmp .eq 136, 3) := by decide +kernel
theorem dL_law_651 : decode cL_law 651 = .ok (.iconst 0, 1) := by decide +kernel
theorem dL_law_652 : decode cL_law 652 = .ok (.ireturn, 1) := by decide +kernel
theorem dL_law_653 : decode cL_law 653 = .ok (.aload_n 1, 1) := by decide +kernel
theorem dL_law_654 : decode cL_law 654 = .ok (.aload_n 0, 1) := by decide +kernel
theorem dL_law_655 : decode cL_law 655 = .ok (.iload_n 3, 1) := by decide +kernel
theorem dL_law_656 : decode cL_law 656 = .ok (.iconst 1, 1) := by decide +kernel
theorem dL_law_657 : decode cL_law 657 = .ok (.iadd, 1) := by decide +kernel
theorem dL_law_658 : decode cL_law 658 = .ok (.iaload, 1) := by decide +kernel
theorem dL_law_659 : decode cL_law 659 = .ok (.invokevirtual 100, 3) := by decide +kernel
theorem dL_law_662 : decode cL_law 662 = .ok (.aload_n 2, 1) := by decide +kernel
theorem dL_law_663 : decode cL_law 663 = .ok (.aload_n 0, 1) := by decide +kernel
theorem dL_law_664 : decode cL_law 664 = .ok (.iload_n 3, 1) := by decide +kernel
theorem dL_law_665 : decode cL_law 665 = .ok (.iconst 1, 1) := by decide +kernel
theorem dL_law_666 : decode cL_law 666 = .ok (.iadd, 1) := by decide +kernel
theorem dL_law_667 : decode cL_law 667 = .ok (.iaload, 1) := by decide +kernel
theorem dL_law_668 : decode cL_law 668 = .ok (.invokevirtual 103, 3) := by decide +kernel
theorem dL_law_671 : decode cL_law 671 = .ok (.if_icmp .eq 113, 3) := by decide +kernel
theorem dL_law_674 : decode cL_law 674 = .ok (.iconst 0, 1) := by decide +kernel
theorem dL_law_675 : decode cL_law 675 = .ok (.ireturn, 1) := by decide +kernel
theorem dL_law_676 : decode cL_law 676 = .ok (.aload_n 1, 1) := by decide +kernel
theorem dL_law_677 : decode cL_law 677 = .ok (.aload_n 0, 1) := by decide +kernel
theorem dL_law_678 : decode cL_law 678 = .ok (.iload_n 3, 1) := by decide +kernel
theorem dL_law_679 : decode cL_law 679 = .ok (.iconst 1, 1) := by decide +kernel
theorem dL_law_680 : decode cL_law 680 = .ok (.iadd, 1) := by decide +kernel
theorem dL_law_681 : decode cL_law 681 = .ok (.iaload, 1) := by decide +kernel
theorem dL_law_682 : decode cL_law 682 = .ok (.invokevirtual 104, 3) := by decide +kernel
theorem dL_law_685 : decode cL_law 685 = .ok (.aload_n 2, 1) := by decide +kernel
theorem dL_law_686 : decode cL_law 686 = .ok (.aload_n 0, 1) := by decide +kernel
theorem dL_law_687 : decode cL_law 687 = .ok (.iload_n 3, 1) := by decide +kernel
theorem dL_law_688 : decode cL_law 688 = .ok (.iconst 1, 1) := by decide +kernel
theorem dL_law_689 : decode cL_law 689 = .ok (.iadd, 1) := by decide +kernel
theorem dL_law_690 : decode cL_law 690 = .ok (.iaload, 1) := by decide +kernel
theorem dL_law_691 : decode cL_law 691 = .ok (.invokevirtual 107, 3) := by decide +kernel
theorem dL_law_694 : decode cL_law 694 = .ok (.if_icmp .eq 90, 3) := by decide +kernel
theorem dL_law_697 : decode cL_law 697 = .ok (.iconst 0, 1) := by decide +kernel
theorem dL_law_698 : decode cL_law 698 = .ok (.ireturn, 1) := by decide +kernel
theorem dL_law_699 : decode cL_law 699 = .ok (.aload_n 1, 1) := by decide +kernel
theorem dL_law_700 : decode cL_law 700 = .ok (.aload_n 0, 1) := by decide +kernel
theorem dL_law_701 : decode cL_law 701 = .ok (.iload_n 3, 1) := by decide +kernel
theorem dL_law_702 : decode cL_law 702 = .ok (.iconst 1, 1) := by decide +kernel
theorem dL_law_703 : decode cL_law 703 = .ok (.iadd, 1) := by decide +kernel
theorem dL_law_704 : decode cL_law 704 = .ok (.iaload, 1) := by decide +kernel
theorem dL_law_705 : decode cL_law 705 = .ok (.invokevirtual 108, 3) := by decide +kernel
theorem dL_law_708 : decode cL_law 708 = .ok (.aload_n 2, 1) := by decide +kernel
theorem dL_law_709 : decode cL_law 709 = .ok (.aload_n 0, 1) := by decide +kernel
theorem dL_law_710 : decode cL_law 710 = .ok (.iload_n 3, 1) := by decide +kernel
theorem dL_law_711 : decode cL_law 711 = .ok (.iconst 1, 1) := by decide +kernel
theorem dL_law_712 : decode cL_law 712 = .ok (.iadd, 1) := by decide +kernel
theorem dL_law_713 : decode cL_law 713 = .ok (.iaload, 1) := by decide +kernel
theorem dL_law_714 : decode cL_law 714 = .ok (.invokevirtual 111, 3) := by decide +kernel
theorem dL_law_717 : decode cL_law 717 = .ok (.if_icmp .eq 67, 3) := by decide +kernel
theorem dL_law_720 : decode cL_law 720 = .ok (.iconst 0, 1) := by decide +kernel
theorem dL_law_721 : decode cL_law 721 = .ok (.ireturn, 1) := by decide +kernel
theorem dL_law_722 : decode cL_law 722 = .ok (.aload_n 1, 1) := by decide +kernel
theorem dL_law_723 : decode cL_law 723 = .ok (.invokevirtual 112, 3) := by decide +kernel
theorem dL_law_726 : decode cL_law 726 = .ok (.aload_n 2, 1) := by decide +kernel
theorem dL_law_727 : decode cL_law 727 = .ok (.invokevirtual 115, 3) := by decide +kernel
theorem dL_law_730 : decode cL_law 730 = .ok (.if_icmp .eq 54, 3) := by decide +kernel
theorem dL_law_733 : decode cL_law 733 = .ok (.iconst 0, 1) := by decide +kernel
theorem dL_law_734 : decode cL_law 734 = .ok (.ireturn, 1) := by decide +kernel
theorem dL_law_735 : decode cL_law 735 = .ok (.aload_n 1, 1) := by decide +kernel
theorem dL_law_736 : decode cL_law 736 = .ok (.invokevirtual 116, 3) := by decide +kernel
theorem dL_law_739 : decode cL_law 739 = .ok (.aload_n 2, 1) := by decide +kernel
theorem dL_law_740 : decode cL_law 740 = .ok (.invokevirtual 119, 3) := by decide +kernel
theorem dL_law_743 : decode cL_law 743 = .ok (.if_icmp .eq 41, 3) := by decide +kernel
theorem dL_law_746 : decode cL_law 746 = .ok (.iconst 0, 1) := by decide +kernel
theorem dL_law_747 : decode cL_law 747 = .ok (.ireturn, 1) := by decide +kernel
theorem dL_law_748 : decode cL_law 748 = .ok (.aload_n 1, 1) := by decide +kernel
theorem dL_law_749 : decode cL_law 749 = .ok (.invokevirtual 120, 3) := by decide +kernel
theorem dL_law_752 : decode cL_law 752 = .ok (.aload_n 2, 1) := by decide +kernel
theorem dL_law_753 : decode cL_law 753 = .ok (.invokevirtual 123, 3) := by decide +kernel
theorem dL_law_756 : decode cL_law 756 = .ok (.if_icmp .eq 28, 3) := by decide +kernel
theorem dL_law_759 : decode cL_law 759 = .ok (.iconst 0, 1) := by decide +kernel
theorem dL_law_760 : decode cL_law 760 = .ok (.ireturn, 1) := by decide +kernel
theorem dL_law_761 : decode cL_law 761 = .ok (.aload_n 1, 1) := by decide +kernel
theorem dL_law_762 : decode cL_law 762 = .ok (.aload_n 0, 1) := by decide +kernel
theorem dL_law_763 : decode cL_law 763 = .ok (.iload_n 3, 1) := by decide +kernel
theorem dL_law_764 : decode cL_law 764 = .ok (.iconst 1, 1) := by decide +kernel
theorem dL_law_765 : decode cL_law 765 = .ok (.iadd, 1) := by decide +kernel
theorem dL_law_766 : decode cL_law 766 = .ok (.iaload, 1) := by decide +kernel
theorem dL_law_767 : decode cL_law 767 = .ok (.invokevirtual 124, 3) := by decide +kernel
theorem dL_law_770 : decode cL_law 770 = .ok (.aload_n 2, 1) := by decide +kernel
theorem dL_law_771 : decode cL_law 771 = .ok (.aload_n 0, 1) := by decide +kernel
theorem dL_law_772 : decode cL_law 772 = .ok (.iload_n 3, 1) := by decide +kernel
theorem dL_law_773 : decode cL_law 773 = .ok (.iconst 1, 1) := by decide +kernel
theorem dL_law_774 : decode cL_law 774 = .ok (.iadd, 1) := by decide +kernel
theorem dL_law_775 : decode cL_law 775 = .ok (.iaload, 1) := by decide +kernel
theorem dL_law_776 : decode cL_law 776 = .ok (.invokevirtual 127, 3) := by decide +kernel
theorem dL_law_779 : decode cL_law 779 = .ok (.if_icmp .eq 5, 3) := by decide +kernel
theorem dL_law_782 : decode cL_law 782 = .ok (.iconst 0, 1) := by decide +kernel
theorem dL_law_783 : decode cL_law 783 = .ok (.ireturn, 1) := by decide +kernel
theorem dL_law_784 : decode cL_law 784 = .ok (.iinc 3 3, 3) := by decide +kernel
theorem dL_law_787 : decode cL_law 787 = .ok (.goto (-769), 3) := by decide +kernel
theorem dL_law_790 : decode cL_law 790 = .ok (.iconst 1, 1) := by decide +kernel
theorem dL_law_791 : decode cL_law 791 = .ok (.ireturn, 1) := by decide +kernel
end
section
/-! Rows of this claim: one memory for a world ('row, column'), a bundle of the heap's facts, an instruction a row, a call a row, the frame rule for a contract. -/
abbrev xM : Type := Nat → Nat → Int32
def xu (M : xM) (k j : Nat) (x : Int32) : xM := fun r => if r = k then upd (M k) j x else M r
/-- the words that every contract takes: its own code, and all the words of the law -/
def xw (y : MethodName) (cc : ByteArray) (n : Nat) (r : Option FieldType) : List Cond := Cond.code y cc n r :: wsL_law
abbrev xT (cI cZ : ClassId) : List (ClassId × FieldType) := [(cI, .int), (cZ, .boolean)]
theorem wsL_good : wsL_law.all goodWord = true := by decide +kernel
theorem x_good {y y2 : MethodName} {b b2 : ByteArray} {n n2 : Nat} {r r2 : Option FieldType} (h : Cond.code y2 b2 n2 r2 ∈ wsL_law) : GoodIn (xw y b n r) (xw y2 b2 n2 r2) := by
  intro w hw
  rcases List.mem_cons.mp hw with rfl | hw
  · exact ⟨List.mem_cons_of_mem _ h, good_of_word (List.all_eq_true.mp wsL_good _ h)⟩
  · exact ⟨List.mem_cons_of_mem _ hw, good_of_word (List.all_eq_true.mp wsL_good _ hw)⟩
theorem x_goodL {y2 : MethodName} {b2 : ByteArray} {n2 : Nat} {r2 : Option FieldType} (h : Cond.code y2 b2 n2 r2 ∈ wsL_law) : GoodIn wsL_law (xw y2 b2 n2 r2) := by
  intro w hw
  rcases List.mem_cons.mp hw with rfl | hw
  · exact ⟨h, good_of_word (List.all_eq_true.mp wsL_good _ h)⟩
  · exact ⟨hw, good_of_word (List.all_eq_true.mp wsL_good _ hw)⟩
/-- what stays in a walk -/
def xC (p : Program) (s : State) (m : MethodId) (args : Array Value) (c : Code) (cc : ByteArray) (nL : Nat) (own : String) (D : va_G) (cI cZ : ClassId) : Prop :=
  (p.tables.exec = Jvm.exec ∧ c.code = cc ∧ c.maxLocals = nL ∧ s.vm.findClass own = some m.cls ∧ ∀ w ∈ wsL_law, w.before args s = true) ∧ va_K D vwCl (xT cI cZ) s
/-- what the heap holds -/
def xI (D : va_G) (ws : va_W) (A : Nat → Prop) (H0 H : Heap) (locs : List Loc) : Prop := va_P D vwCl ws H ∧ va_D A ws ∧ va_S A H0 H locs
def xPre (D : va_G) (cI cZ : ClassId) (ws : va_W) (sz : Nat) (U : State) : Prop := U.heap.size = sz ∧ va_P D vwCl ws U.heap ∧ va_K D vwCl (xT cI cZ) U ∧ va_D (fun _ => True) ws
def xPost {S : Type} (D : va_G) (cI cZ : ClassId) (A : Nat → Prop) (w : S → va_W) (u : S) (t : State) : Prop := va_P D vwCl (w u) t.heap ∧ va_K D vwCl (xT cI cZ) t ∧ va_D A (w u)
/-- contracts: an int (or boolean) comes back; nothing comes back -/
def xMi {S : Type} (l : Launch) (y : MethodName) (cc : ByteArray) (n : Nat) (r : Option FieldType) (rm : Room) (D : va_G) (cI cZ : ClassId) (w : S → va_W) (u : S) (av : List Value) (post : Int32 → S → Prop) : Prop :=
  ∀ sz : Nat, Met l y (xw y cc n r) rm (va_Pc av (xPre D cI cZ (w u) sz)) (va_Qi post (xPost D cI cZ (va_A (w u) sz) w) (va_A (w u) sz)) 0 0 (va_A (w u) sz)
def xMv {S : Type} (l : Launch) (y : MethodName) (cc : ByteArray) (n : Nat) (r : Option FieldType) (rm : Room) (D : va_G) (cI cZ : ClassId) (w : S → va_W) (u : S) (av : List Value) (post : S → Prop) : Prop :=
  ∀ sz : Nat, Met l y (xw y cc n r) rm (va_Pc av (xPre D cI cZ (w u) sz)) (va_Qv post (xPost D cI cZ (va_A (w u) sz) w) (va_A (w u) sz)) 0 0 (va_A (w u) sz)
theorem xPre_blind {D : va_G} {cI cZ : ClassId} {ws : va_W} {sz : Nat} {av : List Value} : FrameBlind (va_Pc av (xPre D cI cZ ws sz)) := by
  intro a U g mk h
  obtain ⟨h0, h1, h2, h3, h4⟩ := h
  exact ⟨h0, h1, h2, va_K.moved (u := U) (U := U.calling g mk a) (Vm.Alike.refl U.vm) h3, h4⟩
section XR
variable {p : Program} {l : Launch} {e : Env} {R : Room} {s : State} {m : MethodId} {args : Array Value} {below : List Frame} {meth : Method} {c : Code} {H : Heap} {locs : List Loc} {cells slots : Nat} {Q : State → Prop}
variable {cc : ByteArray} {nL pc : Nat} {ls : Array Slot} {rest : List Value} {D : va_G} {A : Nat → Prop} {a : Nat} {cI cZ : ClassId} {ws : va_W} {H0 : Heap} {own : String}
theorem x_at (n : Nat) {st : List Value} (h : pc = n) (k : W p l e R s m args below meth c H locs cells slots Q (F0 m n ls st)) : W p l e R s m args below meth c H locs cells slots Q (F0 m pc ls st) := by
  subst h
  exact k
theorem x_get (C : xC p s m args c cc nL own D cI cZ) (I : xI D ws A H0 H locs) {q0 ci N index k : Nat} {Cn ref : String} {T : u_T} {fs : List Value} {v : Value} (he : ws[q0]? = some (a, .inr (ci, fs))) (hc : vwCl[ci]? = some (Cn, T, N)) (hin : ∀ w ∈ u_ws Cn T N, w ∈ wsL_law) (hlink : Cond.fieldLink own index ref (T k).2.1 (T k).2.2.1 ∈ wsL_law) (hk : k < N) (hsame : (T k).1 = ref) (hv : fs[k]? = some v) (hdg : decode cc pc = .ok (.getfield index, 3))
    (kk : W p l e R s m args below meth c H locs cells slots Q (F0 m (pc + 3) ls (v :: rest))) : W p l e R s m args below meth c H locs cells slots Q (F0 m pc ls (.ref a :: rest)) :=
  va_get C.1.1 C.1.2.1 C.1.2.2.2.2 hin C.1.2.2.2.1 C.2 I.1 q0 he hc k hk (C.1.2.2.2.2 _ hlink) (fun x h => by rw [← hsame]; exact h) hv hdg kk
theorem x_puti (C : xC p s m args c cc nL own D cI cZ) (I : xI D ws A H0 H locs) {q0 ci N index k : Nat} {Cn ref : String} {T : u_T} {fs : List Value} {x : Int32} {ws' : va_W} (he : ws[q0]? = some (a, .inr (ci, fs))) (hc : vwCl[ci]? = some (Cn, T, N)) (hin : ∀ w ∈ u_ws Cn T N, w ∈ wsL_law) {ty0 : Nat → FieldType} (hty : ∀ k, k < N → parseFieldDescriptor (T k).2.2.1 = some (ty0 k)) (hnm : ∀ a, a < N → ∀ b, b < N → a ≠ b → (T a).2.1 ≠ (T b).2.1) (hlink : Cond.fieldLink own index ref (T k).2.1 (T k).2.2.1 ∈ wsL_law) (hk : k < N) (hsame : (T k).1 = ref) (hfin : (T k).2.2.2 = false) (hi : ty0 k = .int) (hl : k < fs.length) (hw : ws.set q0 (a, .inr (ci, fs.set k (.int x))) = ws') (hdg : decode cc pc = .ok (.putfield index, 3))
    (kk : ∀ (H1 : Heap) (locs1 : List Loc), xI D ws' A H0 H1 locs1 → W p l e R s m args below meth c H1 locs1 cells slots Q (F0 m (pc + 3) ls rest)) : W p l e R s m args below meth c H locs cells slots Q (F0 m pc ls (.int x :: .ref a :: rest)) :=
  va_put C.1.1 C.1.2.1 C.1.2.2.2.2 hin ty0 hty hnm C.1.2.2.2.1 C.2 I.1 I.2.1 I.2.2 q0 he hc k hk (C.1.2.2.2.2 _ hlink) (fun x h => by rw [← hsame]; exact h) hfin (ty := .int) (by rw [hty k hk, hi]) (vp_nar_int x) rfl hl hdg
    (fun H1 locs1 h1 h2 h3 => kk H1 locs1 (by subst hw; exact ⟨h1, h2, h3⟩))
theorem x_ald (C : xC p s m args c cc nL own D cI cZ) (I : xI D ws A H0 H locs) {q0 n : Nat} {f : Nat → Int32} (he : ws[q0]? = some (a, .inl (cI, n, .inl f))) {i : Int32} (hin : vp_in i n) (hdg : decode cc pc = .ok (.iaload, 1))
    (kk : W p l e R s m args below meth c H locs cells slots Q (F0 m (pc + 1) ls (.int (f i.toNatClampNeg) :: rest))) : W p l e R s m args below meth c H locs cells slots Q (F0 m pc ls (.int i :: .ref a :: rest)) :=
  va_iald C.1.1 C.1.2.1 C.2 I.1 q0 0 he rfl hin hdg kk
theorem x_zld (C : xC p s m args c cc nL own D cI cZ) (I : xI D ws A H0 H locs) {q0 n : Nat} {f : Nat → Int32} (he : ws[q0]? = some (a, .inl (cZ, n, .inl f))) {i : Int32} (hin : vp_in i n) (hdg : decode cc pc = .ok (.baload, 1))
    (kk : W p l e R s m args below meth c H locs cells slots Q (F0 m (pc + 1) ls (.int (f i.toNatClampNeg) :: rest))) : W p l e R s m args below meth c H locs cells slots Q (F0 m pc ls (.int i :: .ref a :: rest)) :=
  va_zald C.1.1 C.1.2.1 C.2 I.1 q0 1 he rfl hin hdg kk
theorem x_ast (C : xC p s m args c cc nL own D cI cZ) (I : xI D ws A H0 H locs) {q0 n : Nat} {f : Nat → Int32} (he : ws[q0]? = some (a, .inl (cI, n, .inl f))) {i x : Int32} (hin : vp_in i n) {ws' : va_W} (hw : ws.set q0 (a, .inl (cI, n, .inl (upd f i.toNatClampNeg x))) = ws') (hdg : decode cc pc = .ok (.iastore, 1))
    (kk : ∀ (H1 : Heap) (locs1 : List Loc), xI D ws' A H0 H1 locs1 → W p l e R s m args below meth c H1 locs1 cells slots Q (F0 m (pc + 1) ls rest)) : W p l e R s m args below meth c H locs cells slots Q (F0 m pc ls (.int x :: .int i :: .ref a :: rest)) :=
  va_iast C.1.1 C.1.2.1 C.2 I.1 I.2.1 I.2.2 q0 0 he rfl hin hdg (fun H1 locs1 h1 h2 h3 => kk H1 locs1 (by subst hw; exact ⟨h1, h2, h3⟩))
theorem x_zst (C : xC p s m args c cc nL own D cI cZ) (I : xI D ws A H0 H locs) {q0 n : Nat} {f : Nat → Int32} (he : ws[q0]? = some (a, .inl (cZ, n, .inl f))) {i x : Int32} (hin : vp_in i n) {ws' : va_W} (hw : ws.set q0 (a, .inl (cZ, n, .inl (upd f i.toNatClampNeg (vp_nar .boolean x)))) = ws') (hdg : decode cc pc = .ok (.bastore, 1))
    (kk : ∀ (H1 : Heap) (locs1 : List Loc), xI D ws' A H0 H1 locs1 → W p l e R s m args below meth c H1 locs1 cells slots Q (F0 m (pc + 1) ls rest)) : W p l e R s m args below meth c H locs cells slots Q (F0 m pc ls (.int x :: .int i :: .ref a :: rest)) :=
  va_zast C.1.1 C.1.2.1 C.2 I.1 I.2.1 I.2.2 q0 1 he rfl hin hdg (fun H1 locs1 h1 h2 h3 => kk H1 locs1 (by subst hw; exact ⟨h1, h2, h3⟩))
theorem x_ldc (C : xC p s m args c cc nL own D cI cZ) {index : Nat} {v : Int32} (hm : Cond.constant own index v ∈ wsL_law) (hdg : decode cc pc = .ok (.ldc index, 2))
    (kk : W p l e R s m args below meth c H locs cells slots Q (F0 m (pc + 2) ls (.int v :: rest))) : W p l e R s m args below meth c H locs cells slots Q (F0 m pc ls rest) :=
  lv_ldc C.1.1 C.1.2.1 C.1.2.2.2.1 (C.1.2.2.2.2 _ hm) hdg kk
theorem x_ldc2 (C : xC p s m args c cc nL own D cI cZ) {index : Nat} {v : Int64} (hm : Cond.constantLong own index v ∈ wsL_law) (hdg : decode cc pc = .ok (.ldc2_w index, 3))
    (kk : W p l e R s m args below meth c H locs cells slots Q (F0 m (pc + 3) ls (.long v :: rest))) : W p l e R s m args below meth c H locs cells slots Q (F0 m pc ls rest) :=
  lv_ldc2 C.1.1 C.1.2.1 C.1.2.2.2.1 (C.1.2.2.2.2 _ hm) hdg kk
/-- what a call asks of the tables -/
def xL (own : String) (index : Nat) (y : MethodName) (bytes : ByteArray) (maxL n : Nat) (ret : Option FieldType) : Prop :=
  Cond.methodLink own index y ∈ wsL_law ∧ Cond.initialized y.cls ∈ wsL_law ∧ Cond.code y bytes maxL ret ∈ wsL_law ∧ (y.cls ≠ "java/lang/invoke/MethodHandle" ∧ y.cls ≠ "java/lang/invoke/VarHandle" ∧ (parseMethodDescriptor y.desc).map (fun d => d.parameters.length) = some n)
def xLV (own : String) (index : Nat) (y : MethodName) (bytes : ByteArray) (maxL n : Nat) (ret : Option FieldType) : Prop := xL own index y bytes maxL n ret ∧ Cond.instanceMethod y ∈ wsL_law ∧ Cond.selects y.cls y y ∈ wsL_law
def xLS (own : String) (index : Nat) (y : MethodName) (bytes : ByteArray) (maxL n : Nat) (ret : Option FieldType) : Prop := xL own index y bytes maxL n ret ∧ Cond.static y ∈ wsL_law
theorem x_callB (C : xC p s m args c cc nL own D cI cZ) {index maxL n : Nat} {y : MethodName} {bytes : ByteArray} {ret : Option FieldType} (hL : xL own index y bytes maxL n ret) {rm : Room} (hR : rm.frames + 1 ≤ R.frames ∧ 8 + (maxL + 11) + rm.locals ≤ R.locals) (hz : rm.cells = 0 ∧ rm.slots = 0) : CallB R s args own index y bytes maxL ret (xw y bytes maxL ret) rm 0 0 n :=
  callB_of n C.1.2.2.2.2 (x_goodL hL.2.2.1) rfl hz.1 hz.2 (C.1.2.2.2.2 _ hL.2.1) (C.1.2.2.2.2 _ hL.1) hL.2.2.2 hR
variable {S : Type} {w : S → va_W} {u : S} {As : List Value} {b index maxL n : Nat} {y : MethodName} {bytes : ByteArray} {ret : Option FieldType} {rm : Room}
theorem x_freed (hA : ∀ q, H0.size ≤ q → A q) (I : xI D ws A H0 H locs) : ∀ q, va_A ws H.size q → A q := by
  intro q h
  rcases h with ⟨k, e, h⟩ | h
  · exact I.2.1.2 k _ h
  · exact hA q (Nat.le_trans I.2.2.1 h)
theorem x_in (C : xC p s m args c cc nL own D cI cZ) (I : xI D ws A H0 H locs) : ∀ U : State, U.heap = H → s.WarmedH U.vm → xPre D cI cZ ws H.size U := fun U hU hW => ⟨by rw [hU], by rw [hU]; exact I.1, va_K.moved hW.alike C.2, I.2.1.weaken (fun _ _ _ _ => trivial)⟩
theorem x_calli (C : xC p s m args c cc nL own D cI cZ) (I : xI D (w u) A H0 H locs) (hA : ∀ q, H0.size ≤ q → A q) {post : Int32 → S → Prop} (hM : xMi l y bytes maxL ret rm D cI cZ w u (.ref b :: As) post) (hL : xLV own index y bytes maxL n ret) {q0 ci N : Nat} {T : u_T} {fs : List Value} (he : (w u)[q0]? = some (b, .inr (ci, fs))) (hc : vwCl[ci]? = some (y.cls, T, N)) (hR : rm.frames + 1 ≤ R.frames ∧ 8 + (maxL + 11) + rm.locals ≤ R.locals) (hz : rm.cells = 0 ∧ rm.slots = 0) (hcs : cells ≤ R.cells ∧ slots ≤ R.slots) (hn : As.length = n) (hl : ls.size = nL) {st0 : List Value} (hst : st0 = As.reverse ++ .ref b :: rest) (hrest : (rest.map fun v => v.category).sum ≤ 8) (hdg : decode cc pc = .ok (.invokevirtual index, 3))
    (kk : ∀ (r : Int32) (u2 : S) (H1 : Heap) (locs1 : List Loc), post r u2 → xI D (w u2) A H0 H1 locs1 → W p l e R s m args below meth c H1 locs1 cells slots Q (F0 m (pc + 3) ls (.int r :: rest))) : W p l e R s m args below meth c H locs cells slots Q (F0 m pc ls st0) := by
  have hF := x_freed hA I
  refine va_calli (va_runV (As := As) (rest := rest) C.1 (hM H.size) ⟨x_callB C hL.1 hR hz, C.1.2.2.2.2 _ hL.2.1, C.1.2.2.2.2 _ hL.2.2⟩ ⟨xPre_blind, va_recv C.2 I.1 hc he, fun U hU hW => ⟨rfl, x_in C I U hU hW⟩⟩ rfl hn hl hst (lv_room hrest) hdg hcs) I.2.2 (fun q _ h => hF q h) hF (fun r u2 t H1 locs1 ht hvm hp hB hz1 hk1 hS => ?_)
  obtain ⟨h1, h2, h3⟩ := hB
  rw [ht] at h1
  exact kk r u2 H1 locs1 hp ⟨h1, h3.weaken (fun _ q _ h => hF _ h), hS⟩
theorem x_callv (C : xC p s m args c cc nL own D cI cZ) (I : xI D (w u) A H0 H locs) (hA : ∀ q, H0.size ≤ q → A q) {post : S → Prop} (hM : xMv l y bytes maxL ret rm D cI cZ w u (.ref b :: As) post) (hL : xLV own index y bytes maxL n ret) {q0 ci N : Nat} {T : u_T} {fs : List Value} (he : (w u)[q0]? = some (b, .inr (ci, fs))) (hc : vwCl[ci]? = some (y.cls, T, N)) (hR : rm.frames + 1 ≤ R.frames ∧ 8 + (maxL + 11) + rm.locals ≤ R.locals) (hz : rm.cells = 0 ∧ rm.slots = 0) (hcs : cells ≤ R.cells ∧ slots ≤ R.slots) (hn : As.length = n) (hl : ls.size = nL) {st0 : List Value} (hst : st0 = As.reverse ++ .ref b :: rest) (hrest : (rest.map fun v => v.category).sum ≤ 8) (hdg : decode cc pc = .ok (.invokevirtual index, 3))
    (kk : ∀ (u2 : S) (H1 : Heap) (locs1 : List Loc), post u2 → xI D (w u2) A H0 H1 locs1 → W p l e R s m args below meth c H1 locs1 cells slots Q (F0 m (pc + 3) ls rest)) : W p l e R s m args below meth c H locs cells slots Q (F0 m pc ls st0) := by
  have hF := x_freed hA I
  refine va_callv (va_runV (As := As) (rest := rest) C.1 (hM H.size) ⟨x_callB C hL.1 hR hz, C.1.2.2.2.2 _ hL.2.1, C.1.2.2.2.2 _ hL.2.2⟩ ⟨xPre_blind, va_recv C.2 I.1 hc he, fun U hU hW => ⟨rfl, x_in C I U hU hW⟩⟩ rfl hn hl hst (lv_room hrest) hdg hcs) I.2.2 (fun q _ h => hF q h) hF (fun u2 t H1 locs1 ht hvm hp hB hz1 hk1 hS => ?_)
  obtain ⟨h1, h2, h3⟩ := hB
  rw [ht] at h1
  exact kk u2 H1 locs1 hp ⟨h1, h3.weaken (fun _ q _ h => hF _ h), hS⟩
theorem x_calls (C : xC p s m args c cc nL own D cI cZ) (I : xI D (w u) A H0 H locs) (hA : ∀ q, H0.size ≤ q → A q) {post : Int32 → S → Prop} (hM : xMi l y bytes maxL ret rm D cI cZ w u As post) (hL : xLS own index y bytes maxL n ret) (hR : rm.frames + 1 ≤ R.frames ∧ 8 + (maxL + 11) + rm.locals ≤ R.locals) (hz : rm.cells = 0 ∧ rm.slots = 0) (hcs : cells ≤ R.cells ∧ slots ≤ R.slots) (hn : As.length = n) (hl : ls.size = nL) {st0 : List Value} (hst : st0 = As.reverse ++ rest) (hrest : (rest.map fun v => v.category).sum ≤ 8) (hdg : decode cc pc = .ok (.invokestatic index, 3))
    (kk : ∀ (r : Int32) (u2 : S) (H1 : Heap) (locs1 : List Loc), post r u2 → xI D (w u2) A H0 H1 locs1 → W p l e R s m args below meth c H1 locs1 cells slots Q (F0 m (pc + 3) ls (.int r :: rest))) : W p l e R s m args below meth c H locs cells slots Q (F0 m pc ls st0) := by
  have hF := x_freed hA I
  refine va_calli (va_runS (As := As) (rest := rest) C.1 (hM H.size) ⟨x_callB C hL.1 hR hz, C.1.2.2.2.2 _ hL.2⟩ ⟨xPre_blind, fun U hU hW => ⟨rfl, x_in C I U hU hW⟩⟩ rfl hn hl hst (lv_room hrest) hdg hcs) I.2.2 (fun q _ h => hF q h) hF (fun r u2 t H1 locs1 ht hvm hp hB hz1 hk1 hS => ?_)
  obtain ⟨h1, h2, h3⟩ := hB
  rw [ht] at h1
  exact kk r u2 H1 locs1 hp ⟨h1, h3.weaken (fun _ q _ h => hF _ h), hS⟩
theorem x_mmin (C : xC p s m args c cc nL own D cI cZ) {index : Nat} (hlink : Cond.methodLink own index Lib.Math.min.name ∈ wsL_law) (hq : Cond.static Lib.Math.min.name ∈ wsL_law ∧ Cond.initialized "java/lang/Math" ∈ wsL_law ∧ Cond.code Lib.Math.min.name Lib.Math.min.code 2 (some .int) ∈ wsL_law) (hl : ls.size = nL) (hframes : 1 ≤ R.frames) (hlocals : (rest.map fun v => v.category).sum + 13 ≤ R.locals) (hcs : cells ≤ R.cells ∧ slots ≤ R.slots) {x y : Int32} (hdg : decode cc pc = .ok (.invokestatic index, 3))
    (kk : W p l e R s m args below meth c H locs cells slots Q (F0 m (pc + 3) ls (.int (if y < x then y else x) :: rest))) : W p l e R s m args below meth c H locs cells slots Q (F0 m pc ls (.int y :: .int x :: rest)) :=
  va_mmin C.1.1 C.1.2.1 (C.1.2.2.1.trans hl.symm) C.1.2.2.2.1 (C.1.2.2.2.2 _ hlink) (C.1.2.2.2.2 _ hq.1) (C.1.2.2.2.2 _ hq.2.1) (C.1.2.2.2.2 _ hq.2.2) hframes hlocals hcs.1 hcs.2 hdg kk
theorem x_mmax (C : xC p s m args c cc nL own D cI cZ) {index : Nat} (hlink : Cond.methodLink own index Lib.Math.max.name ∈ wsL_law) (hq : Cond.static Lib.Math.max.name ∈ wsL_law ∧ Cond.initialized "java/lang/Math" ∈ wsL_law ∧ Cond.code Lib.Math.max.name Lib.Math.max.code 2 (some .int) ∈ wsL_law) (hl : ls.size = nL) (hframes : 1 ≤ R.frames) (hlocals : (rest.map fun v => v.category).sum + 13 ≤ R.locals) (hcs : cells ≤ R.cells ∧ slots ≤ R.slots) {x y : Int32} (hdg : decode cc pc = .ok (.invokestatic index, 3))
    (kk : W p l e R s m args below meth c H locs cells slots Q (F0 m (pc + 3) ls (.int (if x < y then y else x) :: rest))) : W p l e R s m args below meth c H locs cells slots Q (F0 m pc ls (.int y :: .int x :: rest)) :=
  va_mmax C.1.1 C.1.2.1 (C.1.2.2.1.trans hl.symm) C.1.2.2.2.1 (C.1.2.2.2.2 _ hlink) (C.1.2.2.2.2 _ hq.1) (C.1.2.2.2.2 _ hq.2.1) (C.1.2.2.2.2 _ hq.2.2) hframes hlocals hcs.1 hcs.2 hdg kk
/-- ends -/
theorem x_ireti (C : xC p s m args c cc nL own D cI cZ) {post : Int32 → S → Prop} (I : xI D (w u) A s.heap H locs) (hr : meth.sig.returnType = some .int) (hlocks : meth.locks = false) {v : Int32} (hp : post v u) (hdg : decode cc pc = .ok (.ireturn, 1)) : W p l e R s m args below meth c H locs cells slots (MQ below (va_Qi post (xPost D cI cZ A w) A) args s cells slots A) (F0 m pc ls [.int v]) :=
  W.iret C.1.1 C.1.2.1 hr (fun t ht hW => ⟨⟨v, u, rfl, hp, by rw [ht]; exact I.1, va_K.moved hW.alike C.2, I.2.1⟩, I.2.2.F ht⟩) I.2.2.2.2 hdg
theorem x_iretz (C : xC p s m args c cc nL own D cI cZ) {post : Int32 → S → Prop} (I : xI D (w u) A s.heap H locs) (hr : meth.sig.returnType = some .boolean) (hlocks : meth.locks = false) {v : Int32} (hn : narrow .boolean (.int v) = .int v) (hp : post v u) (hdg : decode cc pc = .ok (.ireturn, 1)) : W p l e R s m args below meth c H locs cells slots (MQ below (va_Qi post (xPost D cI cZ A w) A) args s cells slots A) (F0 m pc ls [.int v]) :=
  W.zret C.1.1 C.1.2.1 hr hn (fun t ht hW => ⟨⟨v, u, rfl, hp, by rw [ht]; exact I.1, va_K.moved hW.alike C.2, I.2.1⟩, I.2.2.F ht⟩) I.2.2.2.2 hdg
theorem x_retv (C : xC p s m args c cc nL own D cI cZ) {post : S → Prop} (I : xI D (w u) A s.heap H locs) (hr : meth.sig.returnType = none) (hlocks : meth.locks = false) (hp : post u) (hdg : decode cc pc = .ok (.return_, 1)) : W p l e R s m args below meth c H locs cells slots (MQ below (va_Qv post (xPost D cI cZ A w) A) args s cells slots A) (F0 m pc ls []) :=
  W.vret C.1.1 C.1.2.1 hr (fun t ht hW => ⟨⟨u, rfl, hp, by rw [ht]; exact I.1, va_K.moved hW.alike C.2, I.2.1⟩, I.2.2.F ht⟩) I.2.2.2.2 hdg
end XR
/-- what a walk of a body begins with -/
def xB {S : Type} (l : Launch) (y : MethodName) (cc : ByteArray) (n : Nat) (r : Option FieldType) (rm : Room) (D : va_G) (cI cZ : ClassId) (w : S → va_W) (u : S) (av : List Value) (own : String) (Qc : (Nat → Prop) → Array Value → State → Outcome → State → Prop) : Prop :=
  ∀ (p : Program) (e : Env) (s : State) (m : MethodId) (below : List Frame) (meth : Method) (c : Code) (A : Nat → Prop) (ls : Array Slot), xC p s m av.toArray c cc n own D cI cZ → meth.sig.returnType = r → meth.locks = false → (∀ q : Nat, s.heap.size ≤ q → A q) → xI D (w u) A s.heap s.heap [] → lv_has ls n (lv_args 0 av) →
    W p l e rm s m av.toArray below meth c s.heap [] 0 0 (MQ below (Qc A) av.toArray s 0 0 A) (F0 m 0 ls [])
theorem x_body {S : Type} {l : Launch} {y : MethodName} {cc : ByteArray} {n : Nat} {r : Option FieldType} {rm : Room} {D : va_G} {cI cZ : ClassId} {w : S → va_W} {u : S} {av : List Value} {own : String} {Qc : (Nat → Prop) → Array Value → State → Outcome → State → Prop} (hy : plainName y.cls = true) (ho : y.cls = own) (hav : (lg_sl av).length ≤ n) (h : xB l y cc n r rm D cI cZ w u av own Qc) (sz : Nat) :
    Met l y (xw y cc n r) rm (va_Pc av (xPre D cI cZ (w u) sz)) (Qc (va_A (w u) sz)) 0 0 (va_A (w u) sz) := by
  refine Met.ofW (cc := cc) (maxL := n) (ret := r) hy rfl ?_
  intro p e s m args below meth c s₁ B hml hv
  obtain ⟨rfl, hsz, hP, hK, hD0⟩ := hv
  subst hsz
  have hts := atoms_spec (ws := xw y cc n r) B.pre
  have hown : s.vm.findClass own = some m.cls := by rw [← ho]; exact findClass_of_methodNamed B.named
  have hl := lv_entry av (n := n) hav
  rw [lg_entry_eq]
  exact h p e s m below meth c (va_A (w u) s.heap.size) _ ⟨⟨B.exec, B.bytes, hml, hown, fun w hw => hts w (List.mem_cons_of_mem _ hw)⟩, hK⟩ B.returns B.notSynchronized (fun q h => Or.inr h) ⟨hP, hD0.self, va_S.rf⟩ hl
theorem x_bodyi {S : Type} {l : Launch} {y : MethodName} {cc : ByteArray} {n : Nat} {r : Option FieldType} {rm : Room} {D : va_G} {cI cZ : ClassId} {w : S → va_W} {u : S} {av : List Value} {own : String} {post : Int32 → S → Prop} (hy : plainName y.cls = true) (ho : y.cls = own) (hav : (lg_sl av).length ≤ n) (h : xB l y cc n r rm D cI cZ w u av own (fun A => va_Qi post (xPost D cI cZ A w) A)) : xMi l y cc n r rm D cI cZ w u av post := fun sz => x_body hy ho hav h sz
theorem x_bodyv {S : Type} {l : Launch} {y : MethodName} {cc : ByteArray} {n : Nat} {r : Option FieldType} {rm : Room} {D : va_G} {cI cZ : ClassId} {w : S → va_W} {u : S} {av : List Value} {own : String} {post : S → Prop} (hy : plainName y.cls = true) (ho : y.cls = own) (hav : (lg_sl av).length ≤ n) (h : xB l y cc n r rm D cI cZ w u av own (fun A => va_Qv post (xPost D cI cZ A w) A)) : xMv l y cc n r rm D cI cZ w u av post := fun sz => x_body hy ho hav h sz
/-! the frame rule for a contract: a smaller world's contract in a larger world -/
theorem x_Pl {D : va_G} {a b : va_W} {H : Heap} (h : va_P D vwCl (a ++ b) H) : va_P D vwCl a H := fun k q hk => h k q (by rw [List.getElem?_append_left (List.getElem?_eq_some_iff.mp hk).1]; exact hk)
theorem x_Pr {D : va_G} {a b : va_W} {H : Heap} (h : va_P D vwCl (a ++ b) H) : va_P D vwCl b H := fun k q hk => h (a.length + k) q (by rw [List.getElem?_append_right (by omega)]; rw [show a.length + k - a.length = k by omega]; exact hk)
theorem x_Dl {A : Nat → Prop} {a b : va_W} (h : va_D A (a ++ b)) : va_D A a := by
  have e : ∀ (k : Nat) (q : Nat × va_E), a[k]? = some q → (a ++ b)[k]? = some q := fun k q hk => by rw [List.getElem?_append_left (List.getElem?_eq_some_iff.mp hk).1]; exact hk
  exact ⟨fun i j p q hi hj => h.1 i j p q (e i p hi) (e j q hj), fun k q hk => h.2 k q (e k q hk)⟩
theorem x_Dr {A : Nat → Prop} {a b : va_W} (h : va_D A (a ++ b)) : va_D A b := by
  have e : ∀ (k : Nat) (q : Nat × va_E), b[k]? = some q → (a ++ b)[a.length + k]? = some q := fun k q hk => by rw [List.getElem?_append_right (by omega)]; rw [show a.length + k - a.length = k by omega]; exact hk
  exact ⟨fun i j p q hi hj hpq => by have := h.1 _ _ p q (e i p hi) (e j q hj) hpq; omega, fun k q hk => h.2 _ q (e k q hk)⟩
theorem x_Dx {A : Nat → Prop} {a b : va_W} (h : va_D A (a ++ b)) : ∀ (i j : Nat) (p q : Nat × va_E), a[i]? = some p → b[j]? = some q → p.1 ≠ q.1 := by
  intro i j p q hi hj hpq
  have hil := (List.getElem?_eq_some_iff.mp hi).1
  have := h.1 i (a.length + j) p q (by rw [List.getElem?_append_left hil]; exact hi) (by rw [List.getElem?_append_right (by omega)]; rw [show a.length + j - a.length = j by omega]; exact hj) hpq
  omega
/-- cells apart from a callee's: they stay, and stay apart -/
theorem x_keep {D : va_G} {X w1 w2 : va_W} {sz : Nat} {H H1 : Heap} (hP : va_P D vwCl X H) (hz : H.size = sz) (hx : ∀ (i j : Nat) (p q : Nat × va_E), X[i]? = some p → w1[j]? = some q → p.1 ≠ q.1) (hk : ∀ q : Nat, q < H.size → ¬ va_A w1 sz q → H1[q]? = H[q]?) (hD2 : va_D (va_A w1 sz) w2) : va_P D vwCl X H1 ∧ ∀ (i j : Nat) (p q : Nat × va_E), X[i]? = some p → w2[j]? = some q → p.1 ≠ q.1 := by
  have ap : ∀ (k : Nat) (q : Nat × va_E), X[k]? = some q → q.1 < H.size ∧ ¬ va_A w1 sz q.1 := by
    intro k q hq
    have hl := (hP k q hq).lt
    refine ⟨hl, fun h => ?_⟩
    rcases h with ⟨k2, e, h⟩ | h
    · exact hx k k2 q (q.1, e) hq h rfl
    · omega
  exact ⟨fun k q hq => (hP k q hq).kept (hk q.1 (ap k q hq).1 (ap k q hq).2), fun i j p q hi hj hpq => (ap i p hi).2 (by rw [hpq]; exact hD2.2 j q hj)⟩
theorem x_AA {X w1 Y : va_W} {sz q : Nat} (h : va_A w1 sz q) : va_A (X ++ (w1 ++ Y)) sz q := by
  rcases h with ⟨k, e, h⟩ | h
  · refine Or.inl ⟨X.length + k, e, ?_⟩
    rw [List.getElem?_append_right (by omega), show X.length + k - X.length = k by omega, List.getElem?_append_left (List.getElem?_eq_some_iff.mp h).1]
    exact h
  · exact Or.inr h
theorem x_lift0 {S1 S2 : Type} {D : va_G} {cI cZ : ClassId} {w1 : S1 → va_W} {w : S2 → va_W} {u1 : S1} {u : S2} (X Y : va_W) (inj : S1 → S2) (hw : ∀ v, w (inj v) = X ++ (w1 v ++ Y)) (hu : inj u1 = u) {sz : Nat} {st t : State} (hpre : xPre D cI cZ (w u) sz st) {v : S1} (hB : xPost D cI cZ (va_A (w1 u1) sz) w1 v t) (hF : va_F (va_A (w1 u1) sz) st t) : xPost D cI cZ (va_A (w u) sz) w (inj v) t ∧ va_F (va_A (w u) sz) st t := by
  subst hu
  obtain ⟨hsz, hP, hK, hD⟩ := hpre
  obtain ⟨hP1, hK1, hD1⟩ := hB
  rw [hw] at hP hD ⊢
  have hx1 := x_Dx hD
  have hD' := x_Dr hD
  have hx2 := x_Dx hD'
  have hk : ∀ q : Nat, q < st.heap.size → ¬ va_A (w1 u1) sz q → t.heap[q]? = st.heap[q]? := hF.2
  obtain ⟨a1, a2⟩ := x_keep (w2 := w1 v) (x_Pl hP) hsz (fun i j p q hi hj => hx1 i j p q hi (by rw [List.getElem?_append_left (List.getElem?_eq_some_iff.mp hj).1]; exact hj)) hk hD1
  obtain ⟨b1, b2⟩ := x_keep (w2 := w1 v) (x_Pr (x_Pr hP)) hsz (fun i j p q hi hj => (hx2 j i q p hj hi).symm) hk hD1
  have e1 : va_D (va_A (X ++ (w1 u1 ++ Y)) sz) (w1 v) := hD1.weaken (fun _ _ _ h => x_AA h)
  have e2 : va_D (va_A (X ++ (w1 u1 ++ Y)) sz) X := x_Dl hD.self
  have e3 : va_D (va_A (X ++ (w1 u1 ++ Y)) sz) Y := x_Dr (x_Dr hD.self)
  refine ⟨⟨by rw [hw]; exact a1.app (hP1.app b1), hK1, ?_⟩, hF.1, fun q h1 h2 => hk q h1 (fun h => h2 (x_AA h))⟩
  rw [hw]
  refine e2.app (e1.app e3 (fun i j p q hi hj => (b2 j i q p hj hi).symm)) (fun i j p q hi hj => ?_)
  by_cases hjl : j < (w1 v).length
  · rw [List.getElem?_append_left hjl] at hj
    exact a2 i j p q hi hj
  · rw [List.getElem?_append_right (by omega)] at hj
    refine hx1 i ((w1 u1).length + (j - (w1 v).length)) p q hi ?_
    rw [List.getElem?_append_right (by omega), show (w1 u1).length + (j - (w1 v).length) - (w1 u1).length = j - (w1 v).length by omega]
    exact hj
theorem x_liftP {S1 S2 : Type} {D : va_G} {cI cZ : ClassId} {w1 : S1 → va_W} {w : S2 → va_W} {u1 : S1} {u : S2} (X Y : va_W) (inj : S1 → S2) (hw : ∀ v, w (inj v) = X ++ (w1 v ++ Y)) (hu : inj u1 = u) {sz : Nat} {st : State} (hpre : xPre D cI cZ (w u) sz st) : xPre D cI cZ (w1 u1) sz st := by
  subst hu
  obtain ⟨hsz, hP, hK, hD⟩ := hpre
  rw [hw] at hP hD
  exact ⟨hsz, x_Pl (x_Pr hP), hK, x_Dl (x_Dr hD)⟩
theorem x_lifti {S1 S2 : Type} {l : Launch} {y : MethodName} {cc : ByteArray} {n : Nat} {r : Option FieldType} {rm : Room} {D : va_G} {cI cZ : ClassId} {w1 : S1 → va_W} {w : S2 → va_W} {u1 : S1} {u : S2} {av : List Value} {post : Int32 → S2 → Prop} (X Y : va_W) (inj : S1 → S2) (hw : ∀ v, w (inj v) = X ++ (w1 v ++ Y)) (hu : inj u1 = u) (h : xMi l y cc n r rm D cI cZ w1 u1 av (fun r v => post r (inj v))) : xMi l y cc n r rm D cI cZ w u av post := by
  intro sz
  refine MetFree.mono (h sz) (fun a s hp => ⟨hp.1, x_liftP X Y inj hw hu hp.2⟩) (fun _ _ _ _ _ h => h) (fun a s o t hp hq => ?_)
  obtain ⟨⟨⟨rv, v, ho, hpost, hB⟩, hF⟩, L, hL, hfree⟩ := hq
  obtain ⟨g1, g2⟩ := x_lift0 X Y inj hw hu hp.2 hB hF
  refine ⟨⟨⟨rv, inj v, ho, hpost, g1⟩, g2⟩, L, hL, fun q hq => ?_⟩
  have := hfree q hq
  rw [← hu, hw]
  exact x_AA this
theorem x_liftv {S1 S2 : Type} {l : Launch} {y : MethodName} {cc : ByteArray} {n : Nat} {r : Option FieldType} {rm : Room} {D : va_G} {cI cZ : ClassId} {w1 : S1 → va_W} {w : S2 → va_W} {u1 : S1} {u : S2} {av : List Value} {post : S2 → Prop} (X Y : va_W) (inj : S1 → S2) (hw : ∀ v, w (inj v) = X ++ (w1 v ++ Y)) (hu : inj u1 = u) (h : xMv l y cc n r rm D cI cZ w1 u1 av (fun v => post (inj v))) : xMv l y cc n r rm D cI cZ w u av post := by
  intro sz
  refine MetFree.mono (h sz) (fun a s hp => ⟨hp.1, x_liftP X Y inj hw hu hp.2⟩) (fun _ _ _ _ _ h => h) (fun a s o t hp hq => ?_)
  obtain ⟨⟨⟨v, ho, hpost, hB⟩, hF⟩, L, hL, hfree⟩ := hq
  obtain ⟨g1, g2⟩ := x_lift0 X Y inj hw hu hp.2 hB hF
  refine ⟨⟨⟨inj v, ho, hpost, g1⟩, g2⟩, L, hL, fun q hq => ?_⟩
  have := hfree q hq
  rw [← hu, hw]
  exact x_AA this
end
