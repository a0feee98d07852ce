/-! ===== BEGIN words of one list among another's, by their places ===== -/
theorem goodIn_r {big : List Cond} (ws : List Cond) (ps : List Nat) (hp : ws = ps.filterMap (fun i => big[i]?)) (h : ws.all goodWord = true) : GoodIn big ws := by
  intro w hw
  have h1 := List.all_eq_true.mp h w hw
  rw [hp] at hw
  obtain ⟨i, -, hi⟩ := List.mem_filterMap.mp hw
  have hm : w ∈ big := by first | exact List.mem_of_getElem? hi | exact List.getElem?_mem hi
  exact ⟨hm, good_of_word h1⟩
theorem goodIn_app {big a b : List Cond} (ha : GoodIn big a) (hb : GoodIn big b) : GoodIn big (a ++ b) := fun w h => (List.mem_append.mp h).elim (ha w) (hb w)
theorem goodIn_ca {big a b : List Cond} {c : Cond} (ha : GoodIn big (c :: a)) (hb : GoodIn big b) : GoodIn big (c :: (a ++ b)) := fun w h => (List.mem_cons.mp h).elim (fun e => ha w (List.mem_cons.mpr (Or.inl e))) (fun h => (List.mem_append.mp h).elim (fun h => ha w (List.mem_cons.mpr (Or.inr h))) (hb w))
theorem goodIn_sub {big ws : List Cond} (hm : ∀ w ∈ ws, w ∈ big) (h : ws.all goodWord = true) : GoodIn big ws := fun w hw => ⟨hm w hw, good_of_word (List.all_eq_true.mp h w hw)⟩
/-! ===== END ===== -/

/-! ===== BEGIN printed: names, fields, word lists, decode rows ===== -/
def RX0 : String := "SpeculativeScheduler$Attempts"
def TX0 : u_T := fun k => match k with
  | 0 => ("SpeculativeScheduler$Attempts", "count", "I", false)
  | 1 => ("SpeculativeScheduler$Attempts", "task", "[I", true)
  | 2 => ("SpeculativeScheduler$Attempts", "node", "[I", true)
  | 3 => ("SpeculativeScheduler$Attempts", "state", "[I", true)
  | 4 => ("SpeculativeScheduler$Attempts", "speculative", "[Z", true)
  | 5 => ("SpeculativeScheduler$Attempts", "age", "[I", true)
  | 6 => ("SpeculativeScheduler$Attempts", "done", "[I", true)
  | 7 => ("SpeculativeScheduler$Attempts", "progress", "[I", true)
  | 8 => ("SpeculativeScheduler$Attempts", "rate", "[I", true)
  | 9 => ("SpeculativeScheduler$Attempts", "running", "[I", true)
  | _ => ("SpeculativeScheduler$Attempts", "runningCount", "I", false)
def tyX0 : Nat → FieldType := fun k => match k with
  | 0 => .int
  | 1 => .array .int
  | 2 => .array .int
  | 3 => .array .int
  | 4 => .array .boolean
  | 5 => .array .int
  | 6 => .array .int
  | 7 => .array .int
  | 8 => .array .int
  | 9 => .array .int
  | _ => .int
abbrev wsX00 : List Cond := u_ws RX0 TX0 11
theorem nmX0 : ∀ a, a < 11 → ∀ b, b < 11 → a ≠ b → (TX0 a).2.1 ≠ (TX0 b).2.1 := by decide +kernel
theorem tyX0_ok : ∀ k, k < 11 → parseFieldDescriptor (TX0 k).2.2.1 = some (tyX0 k) := by decide +kernel
abbrev cX0_init : ByteArray := prog_2_method_1_code
def yX0_init : MethodName := ⟨RX0, "<init>", "()V"⟩
abbrev cX0_has : ByteArray := prog_2_method_2_code
def yX0_has : MethodName := ⟨RX0, "has", "(I)Z"⟩
abbrev cX0_clear : ByteArray := prog_2_method_3_code
def yX0_clear : MethodName := ⟨RX0, "clear", "()V"⟩
abbrev cX0_isFull : ByteArray := prog_2_method_4_code
def yX0_isFull : MethodName := ⟨RX0, "isFull", "()Z"⟩
abbrev cX0_add : ByteArray := prog_2_method_5_code
def yX0_add : MethodName := ⟨RX0, "add", "(IIZ)V"⟩
abbrev cX0_grow : ByteArray := prog_2_method_6_code
def yX0_grow : MethodName := ⟨RX0, "grow", "(III)V"⟩
abbrev cX0_dropEnded : ByteArray := prog_2_method_7_code
def yX0_dropEnded : MethodName := ⟨RX0, "dropEnded", "()V"⟩
abbrev cX0_remaining : ByteArray := prog_2_method_8_code
def yX0_remaining : MethodName := ⟨RX0, "remaining", "(I)I"⟩
abbrev cX0_meanOfRunning : ByteArray := prog_2_method_9_code
def yX0_meanOfRunning : MethodName := ⟨RX0, "meanOfRunning", "([I)I"⟩
abbrev cX0_countSpeculative : ByteArray := prog_2_method_10_code
def yX0_countSpeculative : MethodName := ⟨RX0, "countSpeculative", "()I"⟩
abbrev cX0_wasted : ByteArray := prog_2_method_11_code
def yX0_wasted : MethodName := ⟨RX0, "wasted", "()I"⟩
def RX1 : String := "SpeculativeScheduler$Cluster"
def TX1 : u_T := fun k => match k with
  | 0 => ("SpeculativeScheduler$Cluster", "settings", "LSpeculativeScheduler$Settings;", true)
  | 1 => ("SpeculativeScheduler$Cluster", "nodes", "LSpeculativeScheduler$Nodes;", true)
  | 2 => ("SpeculativeScheduler$Cluster", "tasks", "LSpeculativeScheduler$Tasks;", true)
  | 3 => ("SpeculativeScheduler$Cluster", "attempts", "LSpeculativeScheduler$Attempts;", true)
  | _ => ("SpeculativeScheduler$Cluster", "now", "I", false)
def tyX1 : Nat → FieldType := fun k => match k with
  | 0 => .object "SpeculativeScheduler$Settings"
  | 1 => .object "SpeculativeScheduler$Nodes"
  | 2 => .object "SpeculativeScheduler$Tasks"
  | 3 => .object "SpeculativeScheduler$Attempts"
  | _ => .int
abbrev wsX10 : List Cond := u_ws RX1 TX1 5
theorem nmX1 : ∀ a, a < 5 → ∀ b, b < 5 → a ≠ b → (TX1 a).2.1 ≠ (TX1 b).2.1 := by decide +kernel
theorem tyX1_ok : ∀ k, k < 5 → parseFieldDescriptor (TX1 k).2.2.1 = some (tyX1 k) := by decide +kernel
abbrev cX1_init : ByteArray := prog_3_method_1_code
def yX1_init : MethodName := ⟨RX1, "<init>", "()V"⟩
abbrev cX1_startAfresh : ByteArray := prog_3_method_2_code
def yX1_startAfresh : MethodName := ⟨RX1, "startAfresh", "(LSpeculativeScheduler$Cluster;I)V"⟩
abbrev cX1_runOneTick : ByteArray := prog_3_method_3_code
def yX1_runOneTick : MethodName := ⟨RX1, "runOneTick", "()I"⟩
abbrev cX1_startAttempts : ByteArray := prog_3_method_4_code
def yX1_startAttempts : MethodName := ⟨RX1, "startAttempts", "()V"⟩
abbrev cX1_taskToSpeculate : ByteArray := prog_3_method_5_code
def yX1_taskToSpeculate : MethodName := ⟨RX1, "taskToSpeculate", "(I)I"⟩
abbrev cX1_start : ByteArray := prog_3_method_6_code
def yX1_start : MethodName := ⟨RX1, "start", "(II)V"⟩
abbrev cX1_doWork : ByteArray := prog_3_method_7_code
def yX1_doWork : MethodName := ⟨RX1, "doWork", "()V"⟩
abbrev cX1_commitFinished : ByteArray := prog_3_method_8_code
def yX1_commitFinished : MethodName := ⟨RX1, "commitFinished", "()I"⟩
abbrev cX1_commit : ByteArray := prog_3_method_9_code
def yX1_commit : MethodName := ⟨RX1, "commit", "(II)V"⟩
abbrev cX1_loseAttemptsOn : ByteArray := prog_3_method_10_code
def yX1_loseAttemptsOn : MethodName := ⟨RX1, "loseAttemptsOn", "(I)I"⟩
abbrev cX1_end : ByteArray := prog_3_method_11_code
def yX1_end : MethodName := ⟨RX1, "end", "(II)V"⟩
abbrev cX1_findStraggler : ByteArray := prog_3_method_12_code
def yX1_findStraggler : MethodName := ⟨RX1, "findStraggler", "()I"⟩
abbrev cX1_isCandidate : ByteArray := prog_3_method_13_code
def yX1_isCandidate : MethodName := ⟨RX1, "isCandidate", "(I)Z"⟩
abbrev cX1_leastAdvanced : ByteArray := prog_3_method_14_code
def yX1_leastAdvanced : MethodName := ⟨RX1, "leastAdvanced", "()I"⟩
abbrev cX1_longestToRun : ByteArray := prog_3_method_15_code
def yX1_longestToRun : MethodName := ⟨RX1, "longestToRun", "()I"⟩
def RX2 : String := "SpeculativeScheduler$Nodes"
def TX2 : u_T := fun k => match k with
  | 0 => ("SpeculativeScheduler$Nodes", "count", "I", false)
  | 1 => ("SpeculativeScheduler$Nodes", "speed", "[I", true)
  | 2 => ("SpeculativeScheduler$Nodes", "slots", "[I", true)
  | 3 => ("SpeculativeScheduler$Nodes", "up", "[Z", true)
  | 4 => ("SpeculativeScheduler$Nodes", "busy", "[I", true)
  | 5 => ("SpeculativeScheduler$Nodes", "workSum", "[I", true)
  | _ => ("SpeculativeScheduler$Nodes", "ageSum", "[I", true)
def tyX2 : Nat → FieldType := fun k => match k with
  | 0 => .int
  | 1 => .array .int
  | 2 => .array .int
  | 3 => .array .boolean
  | 4 => .array .int
  | 5 => .array .int
  | _ => .array .int
abbrev wsX20 : List Cond := u_ws RX2 TX2 7
theorem nmX2 : ∀ a, a < 7 → ∀ b, b < 7 → a ≠ b → (TX2 a).2.1 ≠ (TX2 b).2.1 := by decide +kernel
theorem tyX2_ok : ∀ k, k < 7 → parseFieldDescriptor (TX2 k).2.2.1 = some (tyX2 k) := by decide +kernel
abbrev cX2_init : ByteArray := prog_4_method_1_code
def yX2_init : MethodName := ⟨RX2, "<init>", "()V"⟩
abbrev cX2_has : ByteArray := prog_4_method_2_code
def yX2_has : MethodName := ⟨RX2, "has", "(I)Z"⟩
abbrev cX2_add : ByteArray := prog_4_method_3_code
def yX2_add : MethodName := ⟨RX2, "add", "(II)I"⟩
abbrev cX2_copyUnused : ByteArray := prog_4_method_4_code
def yX2_copyUnused : MethodName := ⟨RX2, "copyUnused", "(LSpeculativeScheduler$Nodes;)V"⟩
abbrev cX2_hasFreeSlot : ByteArray := prog_4_method_5_code
def yX2_hasFreeSlot : MethodName := ⟨RX2, "hasFreeSlot", "(I)Z"⟩
abbrev cX2_score : ByteArray := prog_4_method_6_code
def yX2_score : MethodName := ⟨RX2, "score", "(I)I"⟩
abbrev cX2_isSlow : ByteArray := prog_4_method_7_code
def yX2_isSlow : MethodName := ⟨RX2, "isSlow", "(II)Z"⟩
abbrev cX2_meanScore : ByteArray := prog_4_method_8_code
def yX2_meanScore : MethodName := ⟨RX2, "meanScore", "()I"⟩
def RX3 : String := "SpeculativeScheduler$Settings"
def TX3 : u_T := fun k => match k with
  | 0 => ("SpeculativeScheduler$Settings", "policy", "I", false)
  | 1 => ("SpeculativeScheduler$Settings", "cap", "I", false)
  | 2 => ("SpeculativeScheduler$Settings", "minimumAge", "I", false)
  | 3 => ("SpeculativeScheduler$Settings", "taskThreshold", "I", false)
  | _ => ("SpeculativeScheduler$Settings", "nodeThreshold", "I", false)
def tyX3 : Nat → FieldType := fun k => match k with
  | 0 => .int
  | 1 => .int
  | 2 => .int
  | 3 => .int
  | _ => .int
abbrev wsX30 : List Cond := u_ws RX3 TX3 5
theorem nmX3 : ∀ a, a < 5 → ∀ b, b < 5 → a ≠ b → (TX3 a).2.1 ≠ (TX3 b).2.1 := by decide +kernel
theorem tyX3_ok : ∀ k, k < 5 → parseFieldDescriptor (TX3 k).2.2.1 = some (tyX3 k) := by decide +kernel
abbrev cX3_init : ByteArray := prog_5_method_1_code
def yX3_init : MethodName := ⟨RX3, "<init>", "()V"⟩
abbrev cX3_copyWithPolicy : ByteArray := prog_5_method_2_code
def yX3_copyWithPolicy : MethodName := ⟨RX3, "copyWithPolicy", "(LSpeculativeScheduler$Settings;I)V"⟩
def RX4 : String := "SpeculativeScheduler$Tasks"
def TX4 : u_T := fun k => match k with
  | 0 => ("SpeculativeScheduler$Tasks", "count", "I", false)
  | 1 => ("SpeculativeScheduler$Tasks", "work", "[I", true)
  | 2 => ("SpeculativeScheduler$Tasks", "runs", "[I", true)
  | 3 => ("SpeculativeScheduler$Tasks", "committed", "[I", true)
  | _ => ("SpeculativeScheduler$Tasks", "finish", "[I", true)
def tyX4 : Nat → FieldType := fun k => match k with
  | 0 => .int
  | 1 => .array .int
  | 2 => .array .int
  | 3 => .array .int
  | _ => .array .int
abbrev wsX40 : List Cond := u_ws RX4 TX4 5
theorem nmX4 : ∀ a, a < 5 → ∀ b, b < 5 → a ≠ b → (TX4 a).2.1 ≠ (TX4 b).2.1 := by decide +kernel
theorem tyX4_ok : ∀ k, k < 5 → parseFieldDescriptor (TX4 k).2.2.1 = some (tyX4 k) := by decide +kernel
abbrev cX4_init : ByteArray := prog_6_method_1_code
def yX4_init : MethodName := ⟨RX4, "<init>", "()V"⟩
abbrev cX4_has : ByteArray := prog_6_method_2_code
def yX4_has : MethodName := ⟨RX4, "has", "(I)Z"⟩
abbrev cX4_add : ByteArray := prog_6_method_3_code
def yX4_add : MethodName := ⟨RX4, "add", "(I)I"⟩
abbrev cX4_copyUnused : ByteArray := prog_6_method_4_code
def yX4_copyUnused : MethodName := ⟨RX4, "copyUnused", "(LSpeculativeScheduler$Tasks;)V"⟩
abbrev cX4_stateOf : ByteArray := prog_6_method_5_code
def yX4_stateOf : MethodName := ⟨RX4, "stateOf", "(I)I"⟩
abbrev cX4_firstWaiting : ByteArray := prog_6_method_6_code
def yX4_firstWaiting : MethodName := ⟨RX4, "firstWaiting", "()I"⟩
abbrev cX4_lastFinish : ByteArray := prog_6_method_7_code
def yX4_lastFinish : MethodName := ⟨RX4, "lastFinish", "()I"⟩
def RX5 : String := "SpeculativeScheduler"
def TX5 : u_T := fun k => match k with
  | 0 => ("SpeculativeScheduler", "live", "LSpeculativeScheduler$Cluster;", true)
  | _ => ("SpeculativeScheduler", "trial", "LSpeculativeScheduler$Cluster;", true)
def tyX5 : Nat → FieldType := fun k => match k with
  | 0 => .object "SpeculativeScheduler$Cluster"
  | _ => .object "SpeculativeScheduler$Cluster"
abbrev wsX50 : List Cond := u_ws RX5 TX5 2
theorem nmX5 : ∀ a, a < 2 → ∀ b, b < 2 → a ≠ b → (TX5 a).2.1 ≠ (TX5 b).2.1 := by decide +kernel
theorem tyX5_ok : ∀ k, k < 2 → parseFieldDescriptor (TX5 k).2.2.1 = some (tyX5 k) := by decide +kernel
abbrev cX5_init : ByteArray := prog_1_method_1_code
def yX5_init : MethodName := ⟨RX5, "<init>", "()V"⟩
abbrev cX5_addNode : ByteArray := prog_1_method_2_code
def yX5_addNode : MethodName := ⟨RX5, "addNode", "(II)I"⟩
abbrev cX5_setSpeed : ByteArray := prog_1_method_3_code
def yX5_setSpeed : MethodName := ⟨RX5, "setSpeed", "(II)I"⟩
abbrev cX5_failNode : ByteArray := prog_1_method_4_code
def yX5_failNode : MethodName := ⟨RX5, "failNode", "(I)I"⟩
abbrev cX5_repairNode : ByteArray := prog_1_method_5_code
def yX5_repairNode : MethodName := ⟨RX5, "repairNode", "(I)I"⟩
abbrev cX5_addTask : ByteArray := prog_1_method_6_code
def yX5_addTask : MethodName := ⟨RX5, "addTask", "(I)I"⟩
abbrev cX5_setPolicy : ByteArray := prog_1_method_7_code
def yX5_setPolicy : MethodName := ⟨RX5, "setPolicy", "(I)I"⟩
abbrev cX5_setLimits : ByteArray := prog_1_method_8_code
def yX5_setLimits : MethodName := ⟨RX5, "setLimits", "(II)I"⟩
abbrev cX5_setThresholds : ByteArray := prog_1_method_9_code
def yX5_setThresholds : MethodName := ⟨RX5, "setThresholds", "(II)I"⟩
abbrev cX5_tick : ByteArray := prog_1_method_10_code
def yX5_tick : MethodName := ⟨RX5, "tick", "(I)I"⟩
abbrev cX5_time : ByteArray := prog_1_method_11_code
def yX5_time : MethodName := ⟨RX5, "time", "()I"⟩
abbrev cX5_taskState : ByteArray := prog_1_method_12_code
def yX5_taskState : MethodName := ⟨RX5, "taskState", "(I)I"⟩
abbrev cX5_committedAttempt : ByteArray := prog_1_method_13_code
def yX5_committedAttempt : MethodName := ⟨RX5, "committedAttempt", "(I)I"⟩
abbrev cX5_finishTime : ByteArray := prog_1_method_14_code
def yX5_finishTime : MethodName := ⟨RX5, "finishTime", "(I)I"⟩
abbrev cX5_makespan : ByteArray := prog_1_method_15_code
def yX5_makespan : MethodName := ⟨RX5, "makespan", "()I"⟩
abbrev cX5_attemptCount : ByteArray := prog_1_method_16_code
def yX5_attemptCount : MethodName := ⟨RX5, "attemptCount", "()I"⟩
abbrev cX5_attemptTask : ByteArray := prog_1_method_17_code
def yX5_attemptTask : MethodName := ⟨RX5, "attemptTask", "(I)I"⟩
abbrev cX5_attemptNode : ByteArray := prog_1_method_18_code
def yX5_attemptNode : MethodName := ⟨RX5, "attemptNode", "(I)I"⟩
abbrev cX5_attemptState : ByteArray := prog_1_method_19_code
def yX5_attemptState : MethodName := ⟨RX5, "attemptState", "(I)I"⟩
abbrev cX5_isSpeculative : ByteArray := prog_1_method_20_code
def yX5_isSpeculative : MethodName := ⟨RX5, "isSpeculative", "(I)I"⟩
abbrev cX5_progress : ByteArray := prog_1_method_21_code
def yX5_progress : MethodName := ⟨RX5, "progress", "(I)I"⟩
abbrev cX5_remainingTime : ByteArray := prog_1_method_22_code
def yX5_remainingTime : MethodName := ⟨RX5, "remainingTime", "(I)I"⟩
abbrev cX5_nodeScore : ByteArray := prog_1_method_23_code
def yX5_nodeScore : MethodName := ⟨RX5, "nodeScore", "(I)I"⟩
abbrev cX5_isSlowNode : ByteArray := prog_1_method_24_code
def yX5_isSlowNode : MethodName := ⟨RX5, "isSlowNode", "(I)I"⟩
abbrev cX5_runningOn : ByteArray := prog_1_method_25_code
def yX5_runningOn : MethodName := ⟨RX5, "runningOn", "(I)I"⟩
abbrev cX5_straggler : ByteArray := prog_1_method_26_code
def yX5_straggler : MethodName := ⟨RX5, "straggler", "()I"⟩
abbrev cX5_runningSpeculative : ByteArray := prog_1_method_27_code
def yX5_runningSpeculative : MethodName := ⟨RX5, "runningSpeculative", "()I"⟩
abbrev cX5_wastedWork : ByteArray := prog_1_method_28_code
def yX5_wastedWork : MethodName := ⟨RX5, "wastedWork", "()I"⟩
abbrev cX5_simulatedMakespan : ByteArray := prog_1_method_29_code
def yX5_simulatedMakespan : MethodName := ⟨RX5, "simulatedMakespan", "(I)I"⟩
abbrev cX5_inRange : ByteArray := prog_1_method_30_code
def yX5_inRange : MethodName := ⟨RX5, "inRange", "(III)Z"⟩
abbrev cX5_isPolicy : ByteArray := prog_1_method_31_code
def yX5_isPolicy : MethodName := ⟨RX5, "isPolicy", "(I)Z"⟩
def RX6 : String := "SpeculativeSchedulerModel"
def TX6 : u_T := fun k => match k with
  | 0 => ("SpeculativeSchedulerModel", "nodes", "I", false)
  | 1 => ("SpeculativeSchedulerModel", "speedOf", "[I", true)
  | 2 => ("SpeculativeSchedulerModel", "slotsOf", "[I", true)
  | 3 => ("SpeculativeSchedulerModel", "isUp", "[Z", true)
  | 4 => ("SpeculativeSchedulerModel", "tasks", "I", false)
  | 5 => ("SpeculativeSchedulerModel", "workOf", "[I", true)
  | 6 => ("SpeculativeSchedulerModel", "policyNow", "I", false)
  | 7 => ("SpeculativeSchedulerModel", "cap", "I", false)
  | 8 => ("SpeculativeSchedulerModel", "minimumAge", "I", false)
  | 9 => ("SpeculativeSchedulerModel", "taskThreshold", "I", false)
  | 10 => ("SpeculativeSchedulerModel", "nodeThreshold", "I", false)
  | 11 => ("SpeculativeSchedulerModel", "side", "I", false)
  | 12 => ("SpeculativeSchedulerModel", "attempts", "[I", true)
  | 13 => ("SpeculativeSchedulerModel", "clock", "[I", true)
  | 14 => ("SpeculativeSchedulerModel", "taskOf", "[I", true)
  | 15 => ("SpeculativeSchedulerModel", "nodeOf", "[I", true)
  | 16 => ("SpeculativeSchedulerModel", "ageOf", "[I", true)
  | 17 => ("SpeculativeSchedulerModel", "doneOf", "[I", true)
  | 18 => ("SpeculativeSchedulerModel", "stateOf", "[I", true)
  | 19 => ("SpeculativeSchedulerModel", "isSecond", "[Z", true)
  | 20 => ("SpeculativeSchedulerModel", "commitOf", "[I", true)
  | 21 => ("SpeculativeSchedulerModel", "finishOf", "[I", true)
  | 22 => ("SpeculativeSchedulerModel", "runningOf", "[I", true)
  | 23 => ("SpeculativeSchedulerModel", "busyOf", "[I", true)
  | 24 => ("SpeculativeSchedulerModel", "agesOf", "[I", true)
  | _ => ("SpeculativeSchedulerModel", "worksOf", "[I", true)
def tyX6 : Nat → FieldType := fun k => match k with
  | 0 => .int
  | 1 => .array .int
  | 2 => .array .int
  | 3 => .array .boolean
  | 4 => .int
  | 5 => .array .int
  | 6 => .int
  | 7 => .int
  | 8 => .int
  | 9 => .int
  | 10 => .int
  | 11 => .int
  | 12 => .array .int
  | 13 => .array .int
  | 14 => .array .int
  | 15 => .array .int
  | 16 => .array .int
  | 17 => .array .int
  | 18 => .array .int
  | 19 => .array .boolean
  | 20 => .array .int
  | 21 => .array .int
  | 22 => .array .int
  | 23 => .array .int
  | 24 => .array .int
  | _ => .array .int
abbrev wsX60 : List Cond := u_ws RX6 TX6 26
theorem nmX6 : ∀ a, a < 26 → ∀ b, b < 26 → a ≠ b → (TX6 a).2.1 ≠ (TX6 b).2.1 := by decide +kernel
theorem tyX6_ok : ∀ k, k < 26 → parseFieldDescriptor (TX6 k).2.2.1 = some (tyX6 k) := by decide +kernel
abbrev cX6_init : ByteArray := prog_8_method_1_code
def yX6_init : MethodName := ⟨RX6, "<init>", "()V"⟩
abbrev cX6_within : ByteArray := prog_8_method_2_code
def yX6_within : MethodName := ⟨RX6, "within", "(III)Z"⟩
abbrev cX6_isNode : ByteArray := prog_8_method_3_code
def yX6_isNode : MethodName := ⟨RX6, "isNode", "(I)Z"⟩
abbrev cX6_isTask : ByteArray := prog_8_method_4_code
def yX6_isTask : MethodName := ⟨RX6, "isTask", "(I)Z"⟩
abbrev cX6_first : ByteArray := prog_8_method_5_code
def yX6_first : MethodName := ⟨RX6, "first", "()I"⟩
abbrev cX6_last : ByteArray := prog_8_method_6_code
def yX6_last : MethodName := ⟨RX6, "last", "()I"⟩
abbrev cX6_addNode : ByteArray := prog_8_method_7_code
def yX6_addNode : MethodName := ⟨RX6, "addNode", "(II)I"⟩
abbrev cX6_setSpeed : ByteArray := prog_8_method_8_code
def yX6_setSpeed : MethodName := ⟨RX6, "setSpeed", "(II)I"⟩
abbrev cX6_stops : ByteArray := prog_8_method_9_code
def yX6_stops : MethodName := ⟨RX6, "stops", "(II)V"⟩
abbrev cX6_failNode : ByteArray := prog_8_method_10_code
def yX6_failNode : MethodName := ⟨RX6, "failNode", "(I)I"⟩
abbrev cX6_repairNode : ByteArray := prog_8_method_11_code
def yX6_repairNode : MethodName := ⟨RX6, "repairNode", "(I)I"⟩
abbrev cX6_addTask : ByteArray := prog_8_method_12_code
def yX6_addTask : MethodName := ⟨RX6, "addTask", "(I)I"⟩
abbrev cX6_setPolicy : ByteArray := prog_8_method_13_code
def yX6_setPolicy : MethodName := ⟨RX6, "setPolicy", "(I)I"⟩
abbrev cX6_setLimits : ByteArray := prog_8_method_14_code
def yX6_setLimits : MethodName := ⟨RX6, "setLimits", "(II)I"⟩
abbrev cX6_setThresholds : ByteArray := prog_8_method_15_code
def yX6_setThresholds : MethodName := ⟨RX6, "setThresholds", "(II)I"⟩
abbrev cX6_progressOf : ByteArray := prog_8_method_16_code
def yX6_progressOf : MethodName := ⟨RX6, "progressOf", "(I)I"⟩
abbrev cX6_rateOf : ByteArray := prog_8_method_17_code
def yX6_rateOf : MethodName := ⟨RX6, "rateOf", "(I)I"⟩
abbrev cX6_remainingOf : ByteArray := prog_8_method_18_code
def yX6_remainingOf : MethodName := ⟨RX6, "remainingOf", "(I)I"⟩
abbrev cX6_scoreOf : ByteArray := prog_8_method_19_code
def yX6_scoreOf : MethodName := ⟨RX6, "scoreOf", "(I)I"⟩
abbrev cX6_meanRate : ByteArray := prog_8_method_20_code
def yX6_meanRate : MethodName := ⟨RX6, "meanRate", "()I"⟩
abbrev cX6_meanProgress : ByteArray := prog_8_method_21_code
def yX6_meanProgress : MethodName := ⟨RX6, "meanProgress", "()I"⟩
abbrev cX6_meanScore : ByteArray := prog_8_method_22_code
def yX6_meanScore : MethodName := ⟨RX6, "meanScore", "()I"⟩
abbrev cX6_isSlow : ByteArray := prog_8_method_23_code
def yX6_isSlow : MethodName := ⟨RX6, "isSlow", "(I)Z"⟩
abbrev cX6_isCandidate : ByteArray := prog_8_method_24_code
def yX6_isCandidate : MethodName := ⟨RX6, "isCandidate", "(I)Z"⟩
abbrev cX6_naiveStraggler : ByteArray := prog_8_method_25_code
def yX6_naiveStraggler : MethodName := ⟨RX6, "naiveStraggler", "()I"⟩
abbrev cX6_lateStraggler : ByteArray := prog_8_method_26_code
def yX6_lateStraggler : MethodName := ⟨RX6, "lateStraggler", "()I"⟩
abbrev cX6_stragglerBy : ByteArray := prog_8_method_27_code
def yX6_stragglerBy : MethodName := ⟨RX6, "stragglerBy", "(I)I"⟩
abbrev cX6_speculative : ByteArray := prog_8_method_28_code
def yX6_speculative : MethodName := ⟨RX6, "speculative", "()I"⟩
abbrev cX6_stateOfTask : ByteArray := prog_8_method_29_code
def yX6_stateOfTask : MethodName := ⟨RX6, "stateOfTask", "(I)I"⟩
abbrev cX6_firstWaiting : ByteArray := prog_8_method_30_code
def yX6_firstWaiting : MethodName := ⟨RX6, "firstWaiting", "()I"⟩
abbrev cX6_starts : ByteArray := prog_8_method_31_code
def yX6_starts : MethodName := ⟨RX6, "starts", "(II)V"⟩
abbrev cX6_startsOn : ByteArray := prog_8_method_32_code
def yX6_startsOn : MethodName := ⟨RX6, "startsOn", "(II)Z"⟩
abbrev cX6_hasSlot : ByteArray := prog_8_method_33_code
def yX6_hasSlot : MethodName := ⟨RX6, "hasSlot", "(I)Z"⟩
abbrev cX6_works : ByteArray := prog_8_method_34_code
def yX6_works : MethodName := ⟨RX6, "works", "()V"⟩
abbrev cX6_killsOther : ByteArray := prog_8_method_35_code
def yX6_killsOther : MethodName := ⟨RX6, "killsOther", "(I)V"⟩
abbrev cX6_commits : ByteArray := prog_8_method_36_code
def yX6_commits : MethodName := ⟨RX6, "commits", "()I"⟩
abbrev cX6_passes : ByteArray := prog_8_method_37_code
def yX6_passes : MethodName := ⟨RX6, "passes", "(I)I"⟩
abbrev cX6_tick : ByteArray := prog_8_method_38_code
def yX6_tick : MethodName := ⟨RX6, "tick", "(I)I"⟩
abbrev cX6_time : ByteArray := prog_8_method_39_code
def yX6_time : MethodName := ⟨RX6, "time", "()I"⟩
abbrev cX6_taskState : ByteArray := prog_8_method_40_code
def yX6_taskState : MethodName := ⟨RX6, "taskState", "(I)I"⟩
abbrev cX6_committedAttempt : ByteArray := prog_8_method_41_code
def yX6_committedAttempt : MethodName := ⟨RX6, "committedAttempt", "(I)I"⟩
abbrev cX6_finishTime : ByteArray := prog_8_method_42_code
def yX6_finishTime : MethodName := ⟨RX6, "finishTime", "(I)I"⟩
abbrev cX6_greatestFinish : ByteArray := prog_8_method_43_code
def yX6_greatestFinish : MethodName := ⟨RX6, "greatestFinish", "()I"⟩
abbrev cX6_makespan : ByteArray := prog_8_method_44_code
def yX6_makespan : MethodName := ⟨RX6, "makespan", "()I"⟩
abbrev cX6_isAttempt : ByteArray := prog_8_method_45_code
def yX6_isAttempt : MethodName := ⟨RX6, "isAttempt", "(I)Z"⟩
abbrev cX6_attemptCount : ByteArray := prog_8_method_46_code
def yX6_attemptCount : MethodName := ⟨RX6, "attemptCount", "()I"⟩
abbrev cX6_attemptTask : ByteArray := prog_8_method_47_code
def yX6_attemptTask : MethodName := ⟨RX6, "attemptTask", "(I)I"⟩
abbrev cX6_attemptNode : ByteArray := prog_8_method_48_code
def yX6_attemptNode : MethodName := ⟨RX6, "attemptNode", "(I)I"⟩
abbrev cX6_attemptState : ByteArray := prog_8_method_49_code
def yX6_attemptState : MethodName := ⟨RX6, "attemptState", "(I)I"⟩
abbrev cX6_isSpeculative : ByteArray := prog_8_method_50_code
def yX6_isSpeculative : MethodName := ⟨RX6, "isSpeculative", "(I)I"⟩
abbrev cX6_progress : ByteArray := prog_8_method_51_code
def yX6_progress : MethodName := ⟨RX6, "progress", "(I)I"⟩
abbrev cX6_remainingTime : ByteArray := prog_8_method_52_code
def yX6_remainingTime : MethodName := ⟨RX6, "remainingTime", "(I)I"⟩
abbrev cX6_nodeScore : ByteArray := prog_8_method_53_code
def yX6_nodeScore : MethodName := ⟨RX6, "nodeScore", "(I)I"⟩
abbrev cX6_isSlowNode : ByteArray := prog_8_method_54_code
def yX6_isSlowNode : MethodName := ⟨RX6, "isSlowNode", "(I)I"⟩
abbrev cX6_runningOn : ByteArray := prog_8_method_55_code
def yX6_runningOn : MethodName := ⟨RX6, "runningOn", "(I)I"⟩
abbrev cX6_straggler : ByteArray := prog_8_method_56_code
def yX6_straggler : MethodName := ⟨RX6, "straggler", "()I"⟩
abbrev cX6_runningSpeculative : ByteArray := prog_8_method_57_code
def yX6_runningSpeculative : MethodName := ⟨RX6, "runningSpeculative", "()I"⟩
abbrev cX6_wastedWork : ByteArray := prog_8_method_58_code
def yX6_wastedWork : MethodName := ⟨RX6, "wastedWork", "()I"⟩
abbrev cX6_clears : ByteArray := prog_8_method_59_code
def yX6_clears : MethodName := ⟨RX6, "clears", "()V"⟩
abbrev cX6_simulatedMakespan : ByteArray := prog_8_method_60_code
def yX6_simulatedMakespan : MethodName := ⟨RX6, "simulatedMakespan", "(I)I"⟩
def RJ9 : String := "java/lang/Math"
def TJ9 : u_T := fun k => match k with
  | _ => ("", "", "", false)
def tyJ9 : Nat → FieldType := fun k => match k with
  | _ => .int
abbrev wsJ90 : List Cond := u_ws RJ9 TJ9 0
theorem nmJ9 : ∀ a, a < 0 → ∀ b, b < 0 → a ≠ b → (TJ9 a).2.1 ≠ (TJ9 b).2.1 := by decide +kernel
theorem tyJ9_ok : ∀ k, k < 0 → parseFieldDescriptor (TJ9 k).2.2.1 = some (tyJ9 k) := by decide +kernel
abbrev cJ9_max_7cf53 : ByteArray := prog_9_method_65_code
def yJ9_max_7cf53 : MethodName := ⟨RJ9, "max", "(II)I"⟩
abbrev cJ9_min_7cf53 : ByteArray := prog_9_method_69_code
def yJ9_min_7cf53 : MethodName := ⟨RJ9, "min", "(II)I"⟩
def RL : String := "SpeculativeSchedulerLaw"
abbrev cL_law : ByteArray := code
def yL_law : MethodName := ⟨RL, "law", "([I)Z"⟩
def wsL_law_r1 : List Cond := [Cond.classLink RL 7 RX5, Cond.instantiable RX5 2, Cond.initialized RX5, Cond.classLink RL 10 RX6, Cond.instantiable RX6 26, Cond.initialized RX6, Cond.methodLink RL 9 yX5_init, Cond.instanceMethod yX5_init, Cond.code yX5_init cX5_init 1 none, Cond.methodLink RX5 3 objectInit, Cond.instanceMethod objectInit, Cond.code objectInit ⟨#[0xb1]⟩ 1 none, Cond.classLink RX5 9 RX1, Cond.instantiable RX1 5, Cond.initialized RX1, Cond.fieldLink RX5 12 "SpeculativeScheduler" "live" "LSpeculativeScheduler$Cluster;", Cond.fieldLink RX5 16 "SpeculativeScheduler" "trial" "LSpeculativeScheduler$Cluster;", Cond.instanceMethod yX1_init, Cond.code yX1_init cX1_init 1 none, Cond.methodLink RX1 3 objectInit, Cond.classLink RX1 9 RX3, Cond.instantiable RX3 5, Cond.initialized RX3, Cond.fieldLink RX1 12 "SpeculativeScheduler$Cluster" "settings" "LSpeculativeScheduler$Settings;"]
def wsL_law_r2 : List Cond := [Cond.classLink RX1 18 RX2, Cond.instantiable RX2 7, Cond.initialized RX2, Cond.fieldLink RX1 21 "SpeculativeScheduler$Cluster" "nodes" "LSpeculativeScheduler$Nodes;", Cond.classLink RX1 25 RX4, Cond.instantiable RX4 5, Cond.initialized RX4, Cond.fieldLink RX1 28 "SpeculativeScheduler$Cluster" "tasks" "LSpeculativeScheduler$Tasks;", Cond.classLink RX1 32 RX0, Cond.instantiable RX0 11, Cond.initialized RX0, Cond.fieldLink RX1 35 "SpeculativeScheduler$Cluster" "attempts" "LSpeculativeScheduler$Attempts;", Cond.fieldLink RX1 39 "SpeculativeScheduler$Cluster" "now" "I", Cond.instanceMethod yX3_init, Cond.code yX3_init cX3_init 1 none, Cond.methodLink RX3 3 objectInit, Cond.fieldLink RX3 9 "SpeculativeScheduler$Settings" "policy" "I", Cond.fieldLink RX3 15 "SpeculativeScheduler$Settings" "cap" "I", Cond.fieldLink RX3 18 "SpeculativeScheduler$Settings" "minimumAge" "I", Cond.fieldLink RX3 21 "SpeculativeScheduler$Settings" "taskThreshold" "I", Cond.fieldLink RX3 24 "SpeculativeScheduler$Settings" "nodeThreshold" "I", Cond.instanceMethod yX2_init, Cond.code yX2_init cX2_init 1 none, Cond.methodLink RX2 3 objectInit]
def wsL_law_r3 : List Cond := [Cond.fieldLink RX2 9 "SpeculativeScheduler$Nodes" "count" "I", Cond.arrayClass .int, Cond.fieldLink RX2 15 "SpeculativeScheduler$Nodes" "speed" "[I", Cond.fieldLink RX2 19 "SpeculativeScheduler$Nodes" "slots" "[I", Cond.arrayClass .boolean, Cond.fieldLink RX2 22 "SpeculativeScheduler$Nodes" "up" "[Z", Cond.fieldLink RX2 26 "SpeculativeScheduler$Nodes" "busy" "[I", Cond.fieldLink RX2 29 "SpeculativeScheduler$Nodes" "workSum" "[I", Cond.fieldLink RX2 32 "SpeculativeScheduler$Nodes" "ageSum" "[I", Cond.instanceMethod yX4_init, Cond.code yX4_init cX4_init 1 none, Cond.methodLink RX4 3 objectInit, Cond.fieldLink RX4 9 "SpeculativeScheduler$Tasks" "count" "I", Cond.fieldLink RX4 15 "SpeculativeScheduler$Tasks" "work" "[I", Cond.fieldLink RX4 19 "SpeculativeScheduler$Tasks" "runs" "[I", Cond.fieldLink RX4 22 "SpeculativeScheduler$Tasks" "committed" "[I", Cond.fieldLink RX4 25 "SpeculativeScheduler$Tasks" "finish" "[I", Cond.instanceMethod yX0_init, Cond.code yX0_init cX0_init 1 none, Cond.methodLink RX0 3 objectInit, Cond.fieldLink RX0 9 "SpeculativeScheduler$Attempts" "count" "I", Cond.fieldLink RX0 15 "SpeculativeScheduler$Attempts" "task" "[I", Cond.fieldLink RX0 19 "SpeculativeScheduler$Attempts" "node" "[I", Cond.fieldLink RX0 22 "SpeculativeScheduler$Attempts" "state" "[I"]
def wsL_law_r4 : List Cond := [Cond.fieldLink RX0 25 "SpeculativeScheduler$Attempts" "speculative" "[Z", Cond.fieldLink RX0 29 "SpeculativeScheduler$Attempts" "age" "[I", Cond.fieldLink RX0 32 "SpeculativeScheduler$Attempts" "done" "[I", Cond.fieldLink RX0 35 "SpeculativeScheduler$Attempts" "progress" "[I", Cond.fieldLink RX0 38 "SpeculativeScheduler$Attempts" "rate" "[I", Cond.fieldLink RX0 41 "SpeculativeScheduler$Attempts" "running" "[I", Cond.fieldLink RX0 44 "SpeculativeScheduler$Attempts" "runningCount" "I", Cond.methodLink RL 12 yX6_init, Cond.instanceMethod yX6_init, Cond.code yX6_init cX6_init 1 none, Cond.methodLink RX6 1 objectInit, Cond.fieldLink RX6 7 "SpeculativeSchedulerModel" "speedOf" "[I", Cond.fieldLink RX6 13 "SpeculativeSchedulerModel" "slotsOf" "[I", Cond.fieldLink RX6 16 "SpeculativeSchedulerModel" "isUp" "[Z", Cond.fieldLink RX6 20 "SpeculativeSchedulerModel" "workOf" "[I", Cond.fieldLink RX6 23 "SpeculativeSchedulerModel" "cap" "I", Cond.fieldLink RX6 27 "SpeculativeSchedulerModel" "minimumAge" "I", Cond.fieldLink RX6 30 "SpeculativeSchedulerModel" "taskThreshold" "I", Cond.fieldLink RX6 33 "SpeculativeSchedulerModel" "nodeThreshold" "I", Cond.fieldLink RX6 36 "SpeculativeSchedulerModel" "attempts" "[I", Cond.fieldLink RX6 39 "SpeculativeSchedulerModel" "clock" "[I", Cond.fieldLink RX6 42 "SpeculativeSchedulerModel" "taskOf" "[I", Cond.fieldLink RX6 45 "SpeculativeSchedulerModel" "nodeOf" "[I", Cond.fieldLink RX6 48 "SpeculativeSchedulerModel" "ageOf" "[I"]
def wsL_law_r5 : List Cond := [Cond.fieldLink RX6 51 "SpeculativeSchedulerModel" "doneOf" "[I", Cond.fieldLink RX6 54 "SpeculativeSchedulerModel" "stateOf" "[I", Cond.fieldLink RX6 57 "SpeculativeSchedulerModel" "isSecond" "[Z", Cond.fieldLink RX6 60 "SpeculativeSchedulerModel" "commitOf" "[I", Cond.fieldLink RX6 63 "SpeculativeSchedulerModel" "finishOf" "[I", Cond.fieldLink RX6 66 "SpeculativeSchedulerModel" "runningOf" "[I", Cond.fieldLink RX6 69 "SpeculativeSchedulerModel" "busyOf" "[I", Cond.fieldLink RX6 72 "SpeculativeSchedulerModel" "agesOf" "[I", Cond.fieldLink RX6 75 "SpeculativeSchedulerModel" "worksOf" "[I", Cond.fieldLink RX6 78 "SpeculativeSchedulerModel" "policyNow" "I", Cond.methodLink RL 13 yX5_addNode, Cond.instanceMethod yX5_addNode, Cond.selects RX5 yX5_addNode yX5_addNode, Cond.code yX5_addNode cX5_addNode 3 (some .int), Cond.fieldLink RX5 23 "SpeculativeScheduler$Cluster" "nodes" "LSpeculativeScheduler$Nodes;", Cond.methodLink RX5 19 yX5_inRange, Cond.static yX5_inRange, Cond.code yX5_inRange cX5_inRange 3 (some .boolean), Cond.methodLink RX5 27 yX2_add, Cond.instanceMethod yX2_add, Cond.selects RX2 yX2_add yX2_add, Cond.code yX2_add cX2_add 4 (some .int), Cond.methodLink RL 17 yX6_addNode, Cond.instanceMethod yX6_addNode]
def wsL_law_r6 : List Cond := [Cond.selects RX6 yX6_addNode yX6_addNode, Cond.code yX6_addNode cX6_addNode 3 (some .int), Cond.fieldLink RX6 81 "SpeculativeSchedulerModel" "nodes" "I", Cond.methodLink RX6 84 yX6_within, Cond.static yX6_within, Cond.code yX6_within cX6_within 3 (some .boolean), Cond.methodLink RL 18 yX5_setSpeed, Cond.instanceMethod yX5_setSpeed, Cond.selects RX5 yX5_setSpeed yX5_setSpeed, Cond.code yX5_setSpeed cX5_setSpeed 4 (some .int), Cond.fieldLink RX5 37 "SpeculativeScheduler$Nodes" "speed" "[I", Cond.methodLink RX5 33 yX2_has, Cond.instanceMethod yX2_has, Cond.selects RX2 yX2_has yX2_has, Cond.code yX2_has cX2_has 2 (some .boolean), Cond.methodLink RL 21 yX6_setSpeed, Cond.instanceMethod yX6_setSpeed, Cond.selects RX6 yX6_setSpeed yX6_setSpeed, Cond.code yX6_setSpeed cX6_setSpeed 4 (some .int), Cond.methodLink RX6 94 yX6_isNode, Cond.instanceMethod yX6_isNode, Cond.selects RX6 yX6_isNode yX6_isNode, Cond.code yX6_isNode cX6_isNode 2 (some .boolean), Cond.methodLink RL 22 yX5_failNode]
def wsL_law_r7 : List Cond := [Cond.instanceMethod yX5_failNode, Cond.selects RX5 yX5_failNode yX5_failNode, Cond.code yX5_failNode cX5_failNode 2 (some .int), Cond.fieldLink RX5 41 "SpeculativeScheduler$Nodes" "up" "[Z", Cond.methodLink RX5 45 yX1_loseAttemptsOn, Cond.instanceMethod yX1_loseAttemptsOn, Cond.selects RX1 yX1_loseAttemptsOn yX1_loseAttemptsOn, Cond.code yX1_loseAttemptsOn cX1_loseAttemptsOn 5 (some .int), Cond.fieldLink RX1 125 "SpeculativeScheduler$Attempts" "runningCount" "I", Cond.fieldLink RX1 128 "SpeculativeScheduler$Attempts" "running" "[I", Cond.fieldLink RX1 108 "SpeculativeScheduler$Attempts" "node" "[I", Cond.methodLink RX1 159 yX1_end, Cond.instanceMethod yX1_end, Cond.selects RX1 yX1_end yX1_end, Cond.code yX1_end cX1_end 3 none, Cond.fieldLink RX1 147 "SpeculativeScheduler$Attempts" "state" "[I", Cond.fieldLink RX1 115 "SpeculativeScheduler$Tasks" "runs" "[I", Cond.fieldLink RX1 112 "SpeculativeScheduler$Attempts" "task" "[I", Cond.fieldLink RX1 122 "SpeculativeScheduler$Nodes" "busy" "[I", Cond.methodLink RX1 156 yX0_dropEnded, Cond.instanceMethod yX0_dropEnded, Cond.selects RX0 yX0_dropEnded yX0_dropEnded, Cond.code yX0_dropEnded cX0_dropEnded 4 none, Cond.methodLink RL 26 yX6_failNode]
def wsL_law_r8 : List Cond := [Cond.instanceMethod yX6_failNode, Cond.selects RX6 yX6_failNode yX6_failNode, Cond.code yX6_failNode cX6_failNode 4 (some .int), Cond.methodLink RX6 98 yX6_stops, Cond.instanceMethod yX6_stops, Cond.selects RX6 yX6_stops yX6_stops, Cond.code yX6_stops cX6_stops 3 none, Cond.fieldLink RX6 91 "SpeculativeSchedulerModel" "side" "I", Cond.methodLink RL 27 yX5_repairNode, Cond.instanceMethod yX5_repairNode, Cond.selects RX5 yX5_repairNode yX5_repairNode, Cond.code yX5_repairNode cX5_repairNode 3 (some .int), Cond.methodLink RL 30 yX6_repairNode, Cond.instanceMethod yX6_repairNode, Cond.selects RX6 yX6_repairNode yX6_repairNode, Cond.code yX6_repairNode cX6_repairNode 3 (some .int), Cond.methodLink RL 31 yX5_addTask, Cond.instanceMethod yX5_addTask, Cond.selects RX5 yX5_addTask yX5_addTask, Cond.code yX5_addTask cX5_addTask 2 (some .int), Cond.fieldLink RX5 49 "SpeculativeScheduler$Cluster" "tasks" "LSpeculativeScheduler$Tasks;", Cond.methodLink RX5 53 yX4_add, Cond.instanceMethod yX4_add, Cond.selects RX4 yX4_add yX4_add]
def wsL_law_r9 : List Cond := [Cond.code yX4_add cX4_add 3 (some .int), Cond.methodLink RL 34 yX6_addTask, Cond.instanceMethod yX6_addTask, Cond.selects RX6 yX6_addTask yX6_addTask, Cond.code yX6_addTask cX6_addTask 2 (some .int), Cond.fieldLink RX6 88 "SpeculativeSchedulerModel" "tasks" "I", Cond.methodLink RL 35 yX5_setPolicy, Cond.instanceMethod yX5_setPolicy, Cond.selects RX5 yX5_setPolicy yX5_setPolicy, Cond.code yX5_setPolicy cX5_setPolicy 3 (some .int), Cond.fieldLink RX5 60 "SpeculativeScheduler$Cluster" "settings" "LSpeculativeScheduler$Settings;", Cond.fieldLink RX5 64 "SpeculativeScheduler$Settings" "policy" "I", Cond.methodLink RX5 57 yX5_isPolicy, Cond.static yX5_isPolicy, Cond.code yX5_isPolicy cX5_isPolicy 1 (some .boolean), Cond.methodLink RL 38 yX6_setPolicy, Cond.instanceMethod yX6_setPolicy, Cond.selects RX6 yX6_setPolicy yX6_setPolicy, Cond.code yX6_setPolicy cX6_setPolicy 3 (some .int), Cond.methodLink RL 39 yX5_setLimits, Cond.instanceMethod yX5_setLimits, Cond.selects RX5 yX5_setLimits yX5_setLimits, Cond.code yX5_setLimits cX5_setLimits 5 (some .int), Cond.fieldLink RX5 70 "SpeculativeScheduler$Settings" "cap" "I"]
def wsL_law_r10 : List Cond := [Cond.fieldLink RX5 73 "SpeculativeScheduler$Settings" "minimumAge" "I", Cond.methodLink RL 42 yX6_setLimits, Cond.instanceMethod yX6_setLimits, Cond.selects RX6 yX6_setLimits yX6_setLimits, Cond.code yX6_setLimits cX6_setLimits 4 (some .int), Cond.methodLink RL 43 yX5_setThresholds, Cond.instanceMethod yX5_setThresholds, Cond.selects RX5 yX5_setThresholds yX5_setThresholds, Cond.code yX5_setThresholds cX5_setThresholds 5 (some .int), Cond.fieldLink RX5 76 "SpeculativeScheduler$Settings" "taskThreshold" "I", Cond.fieldLink RX5 79 "SpeculativeScheduler$Settings" "nodeThreshold" "I", Cond.methodLink RL 46 yX6_setThresholds, Cond.instanceMethod yX6_setThresholds, Cond.selects RX6 yX6_setThresholds yX6_setThresholds, Cond.code yX6_setThresholds cX6_setThresholds 4 (some .int), Cond.methodLink RL 47 yX5_tick, Cond.instanceMethod yX5_tick, Cond.selects RX5 yX5_tick yX5_tick, Cond.code yX5_tick cX5_tick 4 (some .int), Cond.methodLink RX5 82 yX1_runOneTick, Cond.instanceMethod yX1_runOneTick, Cond.selects RX1 yX1_runOneTick yX1_runOneTick, Cond.code yX1_runOneTick cX1_runOneTick 2 (some .int), Cond.methodLink RX1 57 yX1_startAttempts]
def wsL_law_r11 : List Cond := [Cond.instanceMethod yX1_startAttempts, Cond.selects RX1 yX1_startAttempts yX1_startAttempts, Cond.code yX1_startAttempts cX1_startAttempts 4 none, Cond.fieldLink RX1 67 "SpeculativeScheduler$Nodes" "count" "I", Cond.methodLink RX1 70 yX2_hasFreeSlot, Cond.instanceMethod yX2_hasFreeSlot, Cond.selects RX2 yX2_hasFreeSlot yX2_hasFreeSlot, Cond.code yX2_hasFreeSlot cX2_hasFreeSlot 2 (some .boolean), Cond.methodLink RX1 74 yX0_isFull, Cond.instanceMethod yX0_isFull, Cond.selects RX0 yX0_isFull yX0_isFull, Cond.code yX0_isFull cX0_isFull 1 (some .boolean), Cond.methodLink RX1 78 yX4_firstWaiting, Cond.instanceMethod yX4_firstWaiting, Cond.selects RX4 yX4_firstWaiting yX4_firstWaiting, Cond.code yX4_firstWaiting cX4_firstWaiting 2 (some .int), Cond.methodLink RX4 32 yX4_stateOf, Cond.instanceMethod yX4_stateOf, Cond.selects RX4 yX4_stateOf yX4_stateOf, Cond.code yX4_stateOf cX4_stateOf 2 (some .int), Cond.methodLink RX1 81 yX1_taskToSpeculate, Cond.instanceMethod yX1_taskToSpeculate, Cond.selects RX1 yX1_taskToSpeculate yX1_taskToSpeculate, Cond.code yX1_taskToSpeculate cX1_taskToSpeculate 3 (some .int)]
def wsL_law_r12 : List Cond := [Cond.fieldLink RX1 92 "SpeculativeScheduler$Settings" "cap" "I", Cond.fieldLink RX1 95 "SpeculativeScheduler$Settings" "policy" "I", Cond.fieldLink RX1 98 "SpeculativeScheduler$Settings" "nodeThreshold" "I", Cond.methodLink RX1 89 yX0_countSpeculative, Cond.instanceMethod yX0_countSpeculative, Cond.selects RX0 yX0_countSpeculative yX0_countSpeculative, Cond.code yX0_countSpeculative cX0_countSpeculative 3 (some .int), Cond.methodLink RX1 101 yX2_isSlow, Cond.instanceMethod yX2_isSlow, Cond.selects RX2 yX2_isSlow yX2_isSlow, Cond.code yX2_isSlow cX2_isSlow 3 (some .boolean), Cond.methodLink RX2 39 yX2_score, Cond.instanceMethod yX2_score, Cond.selects RX2 yX2_score yX2_score, Cond.code yX2_score cX2_score 2 (some .int), Cond.methodLink RX2 43 yX2_meanScore, Cond.instanceMethod yX2_meanScore, Cond.selects RX2 yX2_meanScore yX2_meanScore, Cond.code yX2_meanScore cX2_meanScore 4 (some .int), Cond.methodLink RX1 105 yX1_findStraggler, Cond.instanceMethod yX1_findStraggler, Cond.selects RX1 yX1_findStraggler yX1_findStraggler, Cond.code yX1_findStraggler cX1_findStraggler 1 (some .int), Cond.methodLink RX1 168 yX1_leastAdvanced]
def wsL_law_r13 : List Cond := [Cond.instanceMethod yX1_leastAdvanced, Cond.selects RX1 yX1_leastAdvanced yX1_leastAdvanced, Cond.code yX1_leastAdvanced cX1_leastAdvanced 4 (some .int), Cond.fieldLink RX1 183 "SpeculativeScheduler$Attempts" "progress" "[I", Cond.methodLink RX1 180 yX1_isCandidate, Cond.instanceMethod yX1_isCandidate, Cond.selects RX1 yX1_isCandidate yX1_isCandidate, Cond.code yX1_isCandidate cX1_isCandidate 2 (some .boolean), Cond.fieldLink RX1 174 "SpeculativeScheduler$Attempts" "age" "[I", Cond.fieldLink RX1 177 "SpeculativeScheduler$Settings" "minimumAge" "I", Cond.methodLink RX1 186 yX0_meanOfRunning, Cond.instanceMethod yX0_meanOfRunning, Cond.selects RX0 yX0_meanOfRunning yX0_meanOfRunning, Cond.code yX0_meanOfRunning cX0_meanOfRunning 4 (some .int), Cond.methodLink RX1 171 yX1_longestToRun, Cond.instanceMethod yX1_longestToRun, Cond.selects RX1 yX1_longestToRun yX1_longestToRun, Cond.code yX1_longestToRun cX1_longestToRun 6 (some .int), Cond.fieldLink RX1 190 "SpeculativeScheduler$Attempts" "rate" "[I", Cond.fieldLink RX1 193 "SpeculativeScheduler$Settings" "taskThreshold" "I", Cond.methodLink RX1 196 yX0_remaining, Cond.instanceMethod yX0_remaining, Cond.selects RX0 yX0_remaining yX0_remaining, Cond.code yX0_remaining cX0_remaining 3 (some .int)]
def wsL_law_r14 : List Cond := [Cond.constant RX0 57 (1000000), Cond.methodLink RX1 85 yX1_start, Cond.instanceMethod yX1_start, Cond.selects RX1 yX1_start yX1_start, Cond.code yX1_start cX1_start 3 none, Cond.methodLink RX1 118 yX0_add, Cond.instanceMethod yX0_add, Cond.selects RX0 yX0_add yX0_add, Cond.code yX0_add cX0_add 5 none, Cond.methodLink RX0 47 yX0_isFull, Cond.methodLink RX1 60 yX1_doWork, Cond.instanceMethod yX1_doWork, Cond.selects RX1 yX1_doWork yX1_doWork, Cond.code yX1_doWork cX1_doWork 4 none, Cond.fieldLink RX1 131 "SpeculativeScheduler$Nodes" "speed" "[I", Cond.fieldLink RX1 134 "SpeculativeScheduler$Tasks" "work" "[I", Cond.fieldLink RX1 141 "SpeculativeScheduler$Nodes" "ageSum" "[I", Cond.fieldLink RX1 144 "SpeculativeScheduler$Nodes" "workSum" "[I", Cond.methodLink RX1 137 yX0_grow, Cond.instanceMethod yX0_grow, Cond.selects RX0 yX0_grow yX0_grow, Cond.code yX0_grow cX0_grow 5 none, Cond.methodLink RX0 51 Lib.Math.min.name, Cond.static Lib.Math.min.name]
def wsL_law_r15 : List Cond := [Cond.initialized "java/lang/Math", Cond.code Lib.Math.min.name Lib.Math.min.code 2 (some .int), Cond.methodLink RX1 63 yX1_commitFinished, Cond.instanceMethod yX1_commitFinished, Cond.selects RX1 yX1_commitFinished yX1_commitFinished, Cond.code yX1_commitFinished cX1_commitFinished 6 (some .int), Cond.fieldLink RX1 150 "SpeculativeScheduler$Attempts" "done" "[I", Cond.methodLink RX1 153 yX1_commit, Cond.instanceMethod yX1_commit, Cond.selects RX1 yX1_commit yX1_commit, Cond.code yX1_commit cX1_commit 5 none, Cond.fieldLink RX1 162 "SpeculativeScheduler$Tasks" "committed" "[I", Cond.fieldLink RX1 165 "SpeculativeScheduler$Tasks" "finish" "[I", Cond.methodLink RL 50 yX6_tick, Cond.instanceMethod yX6_tick, Cond.selects RX6 yX6_tick yX6_tick, Cond.code yX6_tick cX6_tick 4 (some .int), Cond.methodLink RX6 178 yX6_passes, Cond.instanceMethod yX6_passes, Cond.selects RX6 yX6_passes yX6_passes, Cond.code yX6_passes cX6_passes 4 (some .int), Cond.methodLink RX6 165 yX6_hasSlot, Cond.instanceMethod yX6_hasSlot, Cond.selects RX6 yX6_hasSlot yX6_hasSlot]
def wsL_law_r16 : List Cond := [Cond.code yX6_hasSlot cX6_hasSlot 2 (some .boolean), Cond.methodLink RX6 168 yX6_startsOn, Cond.instanceMethod yX6_startsOn, Cond.selects RX6 yX6_startsOn yX6_startsOn, Cond.code yX6_startsOn cX6_startsOn 6 (some .boolean), Cond.methodLink RX6 146 yX6_firstWaiting, Cond.instanceMethod yX6_firstWaiting, Cond.selects RX6 yX6_firstWaiting yX6_firstWaiting, Cond.code yX6_firstWaiting cX6_firstWaiting 2 (some .int), Cond.methodLink RX6 143 yX6_stateOfTask, Cond.instanceMethod yX6_stateOfTask, Cond.selects RX6 yX6_stateOfTask yX6_stateOfTask, Cond.code yX6_stateOfTask cX6_stateOfTask 3 (some .int), Cond.methodLink RX6 149 yX6_stragglerBy, Cond.instanceMethod yX6_stragglerBy, Cond.selects RX6 yX6_stragglerBy yX6_stragglerBy, Cond.code yX6_stragglerBy cX6_stragglerBy 2 (some .int), Cond.methodLink RX6 137 yX6_naiveStraggler, Cond.instanceMethod yX6_naiveStraggler, Cond.selects RX6 yX6_naiveStraggler yX6_naiveStraggler, Cond.code yX6_naiveStraggler cX6_naiveStraggler 3 (some .int), Cond.methodLink RX6 109 yX6_first, Cond.instanceMethod yX6_first, Cond.selects RX6 yX6_first yX6_first]
def wsL_law_r17 : List Cond := [Cond.code yX6_first cX6_first 1 (some .int), Cond.methodLink RX6 113 yX6_last, Cond.instanceMethod yX6_last, Cond.selects RX6 yX6_last yX6_last, Cond.code yX6_last cX6_last 1 (some .int), Cond.methodLink RX6 125 yX6_isCandidate, Cond.instanceMethod yX6_isCandidate, Cond.selects RX6 yX6_isCandidate yX6_isCandidate, Cond.code yX6_isCandidate cX6_isCandidate 2 (some .boolean), Cond.methodLink RX6 102 yX6_progressOf, Cond.instanceMethod yX6_progressOf, Cond.selects RX6 yX6_progressOf yX6_progressOf, Cond.code yX6_progressOf cX6_progressOf 3 (some .int), Cond.methodLink RX6 128 yX6_meanProgress, Cond.instanceMethod yX6_meanProgress, Cond.selects RX6 yX6_meanProgress yX6_meanProgress, Cond.code yX6_meanProgress cX6_meanProgress 4 (some .int), Cond.methodLink RX6 140 yX6_lateStraggler, Cond.instanceMethod yX6_lateStraggler, Cond.selects RX6 yX6_lateStraggler yX6_lateStraggler, Cond.code yX6_lateStraggler cX6_lateStraggler 5 (some .int), Cond.methodLink RX6 131 yX6_meanRate, Cond.instanceMethod yX6_meanRate, Cond.selects RX6 yX6_meanRate yX6_meanRate]
def wsL_law_r18 : List Cond := [Cond.code yX6_meanRate cX6_meanRate 4 (some .int), Cond.methodLink RX6 116 yX6_rateOf, Cond.instanceMethod yX6_rateOf, Cond.selects RX6 yX6_rateOf yX6_rateOf, Cond.code yX6_rateOf cX6_rateOf 2 (some .int), Cond.methodLink RX6 134 yX6_remainingOf, Cond.instanceMethod yX6_remainingOf, Cond.selects RX6 yX6_remainingOf yX6_remainingOf, Cond.code yX6_remainingOf cX6_remainingOf 3 (some .int), Cond.constant RX6 106 (1000000), Cond.constantLong RX6 107 (1000), Cond.methodLink RX6 152 yX6_speculative, Cond.instanceMethod yX6_speculative, Cond.selects RX6 yX6_speculative yX6_speculative, Cond.code yX6_speculative cX6_speculative 3 (some .int), Cond.methodLink RX6 155 yX6_isSlow, Cond.instanceMethod yX6_isSlow, Cond.selects RX6 yX6_isSlow yX6_isSlow, Cond.code yX6_isSlow cX6_isSlow 2 (some .boolean), Cond.methodLink RX6 119 yX6_scoreOf, Cond.instanceMethod yX6_scoreOf, Cond.selects RX6 yX6_scoreOf yX6_scoreOf, Cond.code yX6_scoreOf cX6_scoreOf 3 (some .int), Cond.methodLink RX6 122 yX6_meanScore]
def wsL_law_r19 : List Cond := [Cond.instanceMethod yX6_meanScore, Cond.selects RX6 yX6_meanScore yX6_meanScore, Cond.code yX6_meanScore cX6_meanScore 4 (some .int), Cond.methodLink RX6 158 yX6_starts, Cond.instanceMethod yX6_starts, Cond.selects RX6 yX6_starts yX6_starts, Cond.code yX6_starts cX6_starts 4 none, Cond.methodLink RX6 172 yX6_works, Cond.instanceMethod yX6_works, Cond.selects RX6 yX6_works yX6_works, Cond.code yX6_works cX6_works 3 none, Cond.methodLink RX6 175 yX6_commits, Cond.instanceMethod yX6_commits, Cond.selects RX6 yX6_commits yX6_commits, Cond.code yX6_commits cX6_commits 3 (some .int), Cond.methodLink RX6 161 yX6_killsOther, Cond.instanceMethod yX6_killsOther, Cond.selects RX6 yX6_killsOther yX6_killsOther, Cond.code yX6_killsOther cX6_killsOther 3 none, Cond.methodLink RL 51 yX5_time, Cond.instanceMethod yX5_time, Cond.selects RX5 yX5_time yX5_time, Cond.code yX5_time cX5_time 1 (some .int), Cond.fieldLink RX5 86 "SpeculativeScheduler$Cluster" "now" "I"]
def wsL_law_r20 : List Cond := [Cond.methodLink RL 55 yX6_time, Cond.instanceMethod yX6_time, Cond.selects RX6 yX6_time yX6_time, Cond.code yX6_time cX6_time 1 (some .int), Cond.methodLink RL 56 yX5_taskState, Cond.instanceMethod yX5_taskState, Cond.selects RX5 yX5_taskState yX5_taskState, Cond.code yX5_taskState cX5_taskState 2 (some .int), Cond.methodLink RX5 89 yX4_has, Cond.instanceMethod yX4_has, Cond.selects RX4 yX4_has yX4_has, Cond.code yX4_has cX4_has 2 (some .boolean), Cond.methodLink RX5 90 yX4_stateOf, Cond.methodLink RL 59 yX6_taskState, Cond.instanceMethod yX6_taskState, Cond.selects RX6 yX6_taskState yX6_taskState, Cond.code yX6_taskState cX6_taskState 2 (some .int), Cond.methodLink RX6 181 yX6_isTask, Cond.instanceMethod yX6_isTask, Cond.selects RX6 yX6_isTask yX6_isTask, Cond.code yX6_isTask cX6_isTask 2 (some .boolean), Cond.methodLink RL 60 yX5_committedAttempt, Cond.instanceMethod yX5_committedAttempt, Cond.selects RX5 yX5_committedAttempt yX5_committedAttempt]
def wsL_law_r21 : List Cond := [Cond.code yX5_committedAttempt cX5_committedAttempt 2 (some .int), Cond.fieldLink RX5 93 "SpeculativeScheduler$Tasks" "committed" "[I", Cond.methodLink RL 63 yX6_committedAttempt, Cond.instanceMethod yX6_committedAttempt, Cond.selects RX6 yX6_committedAttempt yX6_committedAttempt, Cond.code yX6_committedAttempt cX6_committedAttempt 2 (some .int), Cond.methodLink RL 64 yX5_finishTime, Cond.instanceMethod yX5_finishTime, Cond.selects RX5 yX5_finishTime yX5_finishTime, Cond.code yX5_finishTime cX5_finishTime 2 (some .int), Cond.fieldLink RX5 96 "SpeculativeScheduler$Tasks" "finish" "[I", Cond.methodLink RL 67 yX6_finishTime, Cond.instanceMethod yX6_finishTime, Cond.selects RX6 yX6_finishTime yX6_finishTime, Cond.code yX6_finishTime cX6_finishTime 2 (some .int), Cond.methodLink RL 68 yX5_makespan, Cond.instanceMethod yX5_makespan, Cond.selects RX5 yX5_makespan yX5_makespan, Cond.code yX5_makespan cX5_makespan 1 (some .int), Cond.methodLink RX5 99 yX4_lastFinish, Cond.instanceMethod yX4_lastFinish, Cond.selects RX4 yX4_lastFinish yX4_lastFinish, Cond.code yX4_lastFinish cX4_lastFinish 3 (some .int), Cond.methodLink RX4 35 Lib.Math.max.name]
def wsL_law_r22 : List Cond := [Cond.static Lib.Math.max.name, Cond.code Lib.Math.max.name Lib.Math.max.code 2 (some .int), Cond.methodLink RL 71 yX6_makespan, Cond.instanceMethod yX6_makespan, Cond.selects RX6 yX6_makespan yX6_makespan, Cond.code yX6_makespan cX6_makespan 1 (some .int), Cond.methodLink RX6 184 yX6_greatestFinish, Cond.instanceMethod yX6_greatestFinish, Cond.selects RX6 yX6_greatestFinish yX6_greatestFinish, Cond.code yX6_greatestFinish cX6_greatestFinish 4 (some .int), Cond.methodLink RL 72 yX5_attemptCount, Cond.instanceMethod yX5_attemptCount, Cond.selects RX5 yX5_attemptCount yX5_attemptCount, Cond.code yX5_attemptCount cX5_attemptCount 1 (some .int), Cond.fieldLink RX5 102 "SpeculativeScheduler$Cluster" "attempts" "LSpeculativeScheduler$Attempts;", Cond.fieldLink RX5 106 "SpeculativeScheduler$Attempts" "count" "I", Cond.methodLink RL 75 yX6_attemptCount, Cond.instanceMethod yX6_attemptCount, Cond.selects RX6 yX6_attemptCount yX6_attemptCount, Cond.code yX6_attemptCount cX6_attemptCount 1 (some .int), Cond.methodLink RL 76 yX5_attemptTask, Cond.instanceMethod yX5_attemptTask, Cond.selects RX5 yX5_attemptTask yX5_attemptTask, Cond.code yX5_attemptTask cX5_attemptTask 2 (some .int)]
def wsL_law_r23 : List Cond := [Cond.fieldLink RX5 112 "SpeculativeScheduler$Attempts" "task" "[I", Cond.methodLink RX5 111 yX0_has, Cond.instanceMethod yX0_has, Cond.selects RX0 yX0_has yX0_has, Cond.code yX0_has cX0_has 2 (some .boolean), Cond.methodLink RL 79 yX6_attemptTask, Cond.instanceMethod yX6_attemptTask, Cond.selects RX6 yX6_attemptTask yX6_attemptTask, Cond.code yX6_attemptTask cX6_attemptTask 2 (some .int), Cond.methodLink RX6 187 yX6_isAttempt, Cond.instanceMethod yX6_isAttempt, Cond.selects RX6 yX6_isAttempt yX6_isAttempt, Cond.code yX6_isAttempt cX6_isAttempt 2 (some .boolean), Cond.methodLink RL 80 yX5_attemptNode, Cond.instanceMethod yX5_attemptNode, Cond.selects RX5 yX5_attemptNode yX5_attemptNode, Cond.code yX5_attemptNode cX5_attemptNode 2 (some .int), Cond.fieldLink RX5 115 "SpeculativeScheduler$Attempts" "node" "[I", Cond.methodLink RL 83 yX6_attemptNode, Cond.instanceMethod yX6_attemptNode, Cond.selects RX6 yX6_attemptNode yX6_attemptNode, Cond.code yX6_attemptNode cX6_attemptNode 2 (some .int), Cond.methodLink RL 84 yX5_attemptState, Cond.instanceMethod yX5_attemptState]
def wsL_law_r24 : List Cond := [Cond.selects RX5 yX5_attemptState yX5_attemptState, Cond.code yX5_attemptState cX5_attemptState 2 (some .int), Cond.fieldLink RX5 118 "SpeculativeScheduler$Attempts" "state" "[I", Cond.methodLink RL 87 yX6_attemptState, Cond.instanceMethod yX6_attemptState, Cond.selects RX6 yX6_attemptState yX6_attemptState, Cond.code yX6_attemptState cX6_attemptState 2 (some .int), Cond.methodLink RL 88 yX5_isSpeculative, Cond.instanceMethod yX5_isSpeculative, Cond.selects RX5 yX5_isSpeculative yX5_isSpeculative, Cond.code yX5_isSpeculative cX5_isSpeculative 2 (some .int), Cond.fieldLink RX5 121 "SpeculativeScheduler$Attempts" "speculative" "[Z", Cond.methodLink RL 91 yX6_isSpeculative, Cond.instanceMethod yX6_isSpeculative, Cond.selects RX6 yX6_isSpeculative yX6_isSpeculative, Cond.code yX6_isSpeculative cX6_isSpeculative 2 (some .int), Cond.methodLink RL 92 yX5_progress, Cond.instanceMethod yX5_progress, Cond.selects RX5 yX5_progress yX5_progress, Cond.code yX5_progress cX5_progress 2 (some .int), Cond.fieldLink RX5 124 "SpeculativeScheduler$Attempts" "progress" "[I", Cond.methodLink RL 95 yX6_progress, Cond.instanceMethod yX6_progress, Cond.selects RX6 yX6_progress yX6_progress]
def wsL_law_r25 : List Cond := [Cond.code yX6_progress cX6_progress 2 (some .int), Cond.methodLink RL 96 yX5_remainingTime, Cond.instanceMethod yX5_remainingTime, Cond.selects RX5 yX5_remainingTime yX5_remainingTime, Cond.code yX5_remainingTime cX5_remainingTime 2 (some .int), Cond.methodLink RX5 127 yX0_remaining, Cond.methodLink RL 99 yX6_remainingTime, Cond.instanceMethod yX6_remainingTime, Cond.selects RX6 yX6_remainingTime yX6_remainingTime, Cond.code yX6_remainingTime cX6_remainingTime 2 (some .int), Cond.methodLink RL 100 yX5_nodeScore, Cond.instanceMethod yX5_nodeScore, Cond.selects RX5 yX5_nodeScore yX5_nodeScore, Cond.code yX5_nodeScore cX5_nodeScore 2 (some .int), Cond.methodLink RX5 130 yX2_score, Cond.methodLink RL 103 yX6_nodeScore, Cond.instanceMethod yX6_nodeScore, Cond.selects RX6 yX6_nodeScore yX6_nodeScore, Cond.code yX6_nodeScore cX6_nodeScore 2 (some .int), Cond.methodLink RL 104 yX5_isSlowNode, Cond.instanceMethod yX5_isSlowNode, Cond.selects RX5 yX5_isSlowNode yX5_isSlowNode, Cond.code yX5_isSlowNode cX5_isSlowNode 2 (some .int), Cond.methodLink RX5 133 yX2_isSlow]
def wsL_law_r26 : List Cond := [Cond.methodLink RL 107 yX6_isSlowNode, Cond.instanceMethod yX6_isSlowNode, Cond.selects RX6 yX6_isSlowNode yX6_isSlowNode, Cond.code yX6_isSlowNode cX6_isSlowNode 2 (some .int), Cond.methodLink RL 108 yX5_runningOn, Cond.instanceMethod yX5_runningOn, Cond.selects RX5 yX5_runningOn yX5_runningOn, Cond.code yX5_runningOn cX5_runningOn 2 (some .int), Cond.fieldLink RX5 137 "SpeculativeScheduler$Nodes" "busy" "[I", Cond.methodLink RL 111 yX6_runningOn, Cond.instanceMethod yX6_runningOn, Cond.selects RX6 yX6_runningOn yX6_runningOn, Cond.code yX6_runningOn cX6_runningOn 2 (some .int), Cond.methodLink RL 112 yX5_straggler, Cond.instanceMethod yX5_straggler, Cond.selects RX5 yX5_straggler yX5_straggler, Cond.code yX5_straggler cX5_straggler 1 (some .int), Cond.methodLink RX5 140 yX1_findStraggler, Cond.methodLink RL 115 yX6_straggler, Cond.instanceMethod yX6_straggler, Cond.selects RX6 yX6_straggler yX6_straggler, Cond.code yX6_straggler cX6_straggler 1 (some .int), Cond.methodLink RL 116 yX5_runningSpeculative, Cond.instanceMethod yX5_runningSpeculative]
def wsL_law_r27 : List Cond := [Cond.selects RX5 yX5_runningSpeculative yX5_runningSpeculative, Cond.code yX5_runningSpeculative cX5_runningSpeculative 1 (some .int), Cond.methodLink RX5 143 yX0_countSpeculative, Cond.methodLink RL 119 yX6_runningSpeculative, Cond.instanceMethod yX6_runningSpeculative, Cond.selects RX6 yX6_runningSpeculative yX6_runningSpeculative, Cond.code yX6_runningSpeculative cX6_runningSpeculative 1 (some .int), Cond.methodLink RL 120 yX5_wastedWork, Cond.instanceMethod yX5_wastedWork, Cond.selects RX5 yX5_wastedWork yX5_wastedWork, Cond.code yX5_wastedWork cX5_wastedWork 1 (some .int), Cond.methodLink RX5 146 yX0_wasted, Cond.instanceMethod yX0_wasted, Cond.selects RX0 yX0_wasted yX0_wasted, Cond.code yX0_wasted cX0_wasted 3 (some .int), Cond.methodLink RL 123 yX6_wastedWork, Cond.instanceMethod yX6_wastedWork, Cond.selects RX6 yX6_wastedWork yX6_wastedWork, Cond.code yX6_wastedWork cX6_wastedWork 3 (some .int), Cond.methodLink RL 124 yX5_simulatedMakespan, Cond.instanceMethod yX5_simulatedMakespan, Cond.selects RX5 yX5_simulatedMakespan yX5_simulatedMakespan, Cond.code yX5_simulatedMakespan cX5_simulatedMakespan 4 (some .int), Cond.fieldLink RX5 153 "SpeculativeScheduler$Tasks" "count" "I"]
def wsL_law_r28 : List Cond := [Cond.methodLink RX5 149 yX1_startAfresh, Cond.instanceMethod yX1_startAfresh, Cond.selects RX1 yX1_startAfresh yX1_startAfresh, Cond.code yX1_startAfresh cX1_startAfresh 3 none, Cond.methodLink RX1 43 yX3_copyWithPolicy, Cond.instanceMethod yX3_copyWithPolicy, Cond.selects RX3 yX3_copyWithPolicy yX3_copyWithPolicy, Cond.code yX3_copyWithPolicy cX3_copyWithPolicy 3 none, Cond.methodLink RX1 47 yX2_copyUnused, Cond.instanceMethod yX2_copyUnused, Cond.selects RX2 yX2_copyUnused yX2_copyUnused, Cond.code yX2_copyUnused cX2_copyUnused 3 none, Cond.methodLink RX2 35 yX2_add, Cond.methodLink RX1 51 yX4_copyUnused, Cond.instanceMethod yX4_copyUnused, Cond.selects RX4 yX4_copyUnused yX4_copyUnused, Cond.code yX4_copyUnused cX4_copyUnused 3 none, Cond.methodLink RX4 28 yX4_add, Cond.methodLink RX1 54 yX0_clear, Cond.instanceMethod yX0_clear, Cond.selects RX0 yX0_clear yX0_clear, Cond.code yX0_clear cX0_clear 1 none, Cond.methodLink RL 127 yX6_simulatedMakespan, Cond.instanceMethod yX6_simulatedMakespan]
def wsL_law_r29 : List Cond := [Cond.selects RX6 yX6_simulatedMakespan yX6_simulatedMakespan, Cond.code yX6_simulatedMakespan cX6_simulatedMakespan 3 (some .int), Cond.methodLink RX6 190 yX6_clears, Cond.instanceMethod yX6_clears, Cond.selects RX6 yX6_clears yX6_clears, Cond.code yX6_clears cX6_clears 2 none]
def wsL_law : List Cond := (wsL_law_r1 ++ (wsL_law_r2 ++ (wsL_law_r3 ++ (wsL_law_r4 ++ (wsL_law_r5 ++ (wsL_law_r6 ++ (wsL_law_r7 ++ (wsL_law_r8 ++ (wsL_law_r9 ++ (wsL_law_r10 ++ (wsL_law_r11 ++ (wsL_law_r12 ++ (wsL_law_r13 ++ (wsL_law_r14 ++ (wsL_law_r15 ++ (wsL_law_r16 ++ (wsL_law_r17 ++ (wsL_law_r18 ++ (wsL_law_r19 ++ (wsL_law_r20 ++ (wsL_law_r21 ++ (wsL_law_r22 ++ (wsL_law_r23 ++ (wsL_law_r24 ++ (wsL_law_r25 ++ (wsL_law_r26 ++ (wsL_law_r27 ++ (wsL_law_r28 ++ wsL_law_r29)))))))))))))))))))))))))))) ++ wsX50 ++ wsX60 ++ wsX10 ++ wsX30 ++ wsX20 ++ wsX40 ++ wsX00 ++ ([] : List Cond)
theorem inlX0 : ∀ w ∈ wsX00, w ∈ wsL_law := fun _ h => List.mem_append_left _ (List.mem_append_right _ h)
theorem inlX1 : ∀ w ∈ wsX10, w ∈ wsL_law := fun _ h => List.mem_append_left _ (List.mem_append_left _ (List.mem_append_left _ (List.mem_append_left _ (List.mem_append_left _ (List.mem_append_right _ h)))))
theorem inlX2 : ∀ w ∈ wsX20, w ∈ wsL_law := fun _ h => List.mem_append_left _ (List.mem_append_left _ (List.mem_append_left _ (List.mem_append_right _ h)))
theorem inlX3 : ∀ w ∈ wsX30, w ∈ wsL_law := fun _ h => List.mem_append_left _ (List.mem_append_left _ (List.mem_append_left _ (List.mem_append_left _ (List.mem_append_right _ h))))
theorem inlX4 : ∀ w ∈ wsX40, w ∈ wsL_law := fun _ h => List.mem_append_left _ (List.mem_append_left _ (List.mem_append_right _ h))
theorem inlX5 : ∀ w ∈ wsX50, w ∈ wsL_law := fun _ h => List.mem_append_left _ (List.mem_append_left _ (List.mem_append_left _ (List.mem_append_left _ (List.mem_append_left _ (List.mem_append_left _ (List.mem_append_left _ (List.mem_append_right _ h)))))))
theorem inlX6 : ∀ w ∈ wsX60, w ∈ wsL_law := fun _ h => List.mem_append_left _ (List.mem_append_left _ (List.mem_append_left _ (List.mem_append_left _ (List.mem_append_left _ (List.mem_append_left _ (List.mem_append_right _ h))))))
abbrev vwCl : List vw_C := [(RX0, TX0, 11), (RX1, TX1, 5), (RX2, TX2, 7), (RX3, TX3, 5), (RX4, TX4, 5), (RX5, TX5, 2), (RX6, TX6, 26)]
theorem wsL_r1 : ∀ w ∈ wsL_law_r1, w ∈ wsL_law := fun _ h => (List.mem_append_left _ (List.mem_append_left _ (List.mem_append_left _ (List.mem_append_left _ (List.mem_append_left _ (List.mem_append_left _ (List.mem_append_left _ (List.mem_append_left _ (List.mem_append_left _ h)))))))))
theorem wsL_r2 : ∀ w ∈ wsL_law_r2, w ∈ wsL_law := fun _ h => (List.mem_append_left _ (List.mem_append_left _ (List.mem_append_left _ (List.mem_append_left _ (List.mem_append_left _ (List.mem_append_left _ (List.mem_append_left _ (List.mem_append_left _ (List.mem_append_right _ (List.mem_append_left _ h))))))))))
theorem wsL_r3 : ∀ w ∈ wsL_law_r3, w ∈ wsL_law := fun _ h => (List.mem_append_left _ (List.mem_append_left _ (List.mem_append_left _ (List.mem_append_left _ (List.mem_append_left _ (List.mem_append_left _ (List.mem_append_left _ (List.mem_append_left _ (List.mem_append_right _ (List.mem_append_right _ (List.mem_append_left _ h)))))))))))
theorem wsL_r4 : ∀ w ∈ wsL_law_r4, w ∈ wsL_law := fun _ h => (List.mem_append_left _ (List.mem_append_left _ (List.mem_append_left _ (List.mem_append_left _ (List.mem_append_left _ (List.mem_append_left _ (List.mem_append_left _ (List.mem_append_left _ (List.mem_append_right _ (List.mem_append_right _ (List.mem_append_right _ (List.mem_append_left _ h))))))))))))
theorem wsL_r5 : ∀ w ∈ wsL_law_r5, w ∈ wsL_law := fun _ h => (List.mem_append_left _ (List.mem_append_left _ (List.mem_append_left _ (List.mem_append_left _ (List.mem_append_left _ (List.mem_append_left _ (List.mem_append_left _ (List.mem_append_left _ (List.mem_append_right _ (List.mem_append_right _ (List.mem_append_right _ (List.mem_append_right _ (List.mem_append_left _ h)))))))))))))
theorem wsL_r6 : ∀ w ∈ wsL_law_r6, w ∈ wsL_law := fun _ h => (List.mem_append_left _ (List.mem_append_left _ (List.mem_append_left _ (List.mem_append_left _ (List.mem_append_left _ (List.mem_append_left _ (List.mem_append_left _ (List.mem_append_left _ (List.mem_append_right _ (List.mem_append_right _ (List.mem_append_right _ (List.mem_append_right _ (List.mem_append_right _ (List.mem_append_left _ h))))))))))))))
theorem wsL_r7 : ∀ w ∈ wsL_law_r7, w ∈ wsL_law := fun _ h => (List.mem_append_left _ (List.mem_append_left _ (List.mem_append_left _ (List.mem_append_left _ (List.mem_append_left _ (List.mem_append_left _ (List.mem_append_left _ (List.mem_append_left _ (List.mem_append_right _ (List.mem_append_right _ (List.mem_append_right _ (List.mem_append_right _ (List.mem_append_right _ (List.mem_append_right _ (List.mem_append_left _ h)))))))))))))))
theorem wsL_r8 : ∀ w ∈ wsL_law_r8, w ∈ wsL_law := fun _ h => (List.mem_append_left _ (List.mem_append_left _ (List.mem_append_left _ (List.mem_append_left _ (List.mem_append_left _ (List.mem_append_left _ (List.mem_append_left _ (List.mem_append_left _ (List.mem_append_right _ (List.mem_append_right _ (List.mem_append_right _ (List.mem_append_right _ (List.mem_append_right _ (List.mem_append_right _ (List.mem_append_right _ (List.mem_append_left _ h))))))))))))))))
theorem wsL_r9 : ∀ w ∈ wsL_law_r9, w ∈ wsL_law := fun _ h => (List.mem_append_left _ (List.mem_append_left _ (List.mem_append_left _ (List.mem_append_left _ (List.mem_append_left _ (List.mem_append_left _ (List.mem_append_left _ (List.mem_append_left _ (List.mem_append_right _ (List.mem_append_right _ (List.mem_append_right _ (List.mem_append_right _ (List.mem_append_right _ (List.mem_append_right _ (List.mem_append_right _ (List.mem_append_right _ (List.mem_append_left _ h)))))))))))))))))
theorem wsL_r10 : ∀ w ∈ wsL_law_r10, w ∈ wsL_law := fun _ h => (List.mem_append_left _ (List.mem_append_left _ (List.mem_append_left _ (List.mem_append_left _ (List.mem_append_left _ (List.mem_append_left _ (List.mem_append_left _ (List.mem_append_left _ (List.mem_append_right _ (List.mem_append_right _ (List.mem_append_right _ (List.mem_append_right _ (List.mem_append_right _ (List.mem_append_right _ (List.mem_append_right _ (List.mem_append_right _ (List.mem_append_right _ (List.mem_append_left _ h))))))))))))))))))
theorem wsL_r11 : ∀ w ∈ wsL_law_r11, w ∈ wsL_law := fun _ h => (List.mem_append_left _ (List.mem_append_left _ (List.mem_append_left _ (List.mem_append_left _ (List.mem_append_left _ (List.mem_append_left _ (List.mem_append_left _ (List.mem_append_left _ (List.mem_append_right _ (List.mem_append_right _ (List.mem_append_right _ (List.mem_append_right _ (List.mem_append_right _ (List.mem_append_right _ (List.mem_append_right _ (List.mem_append_right _ (List.mem_append_right _ (List.mem_append_right _ (List.mem_append_left _ h)))))))))))))))))))
theorem wsL_r12 : ∀ w ∈ wsL_law_r12, w ∈ wsL_law := fun _ h => (List.mem_append_left _ (List.mem_append_left _ (List.mem_append_left _ (List.mem_append_left _ (List.mem_append_left _ (List.mem_append_left _ (List.mem_append_left _ (List.mem_append_left _ (List.mem_append_right _ (List.mem_append_right _ (List.mem_append_right _ (List.mem_append_right _ (List.mem_append_right _ (List.mem_append_right _ (List.mem_append_right _ (List.mem_append_right _ (List.mem_append_right _ (List.mem_append_right _ (List.mem_append_right _ (List.mem_append_left _ h))))))))))))))))))))
theorem wsL_r13 : ∀ w ∈ wsL_law_r13, w ∈ wsL_law := fun _ h => (List.mem_append_left _ (List.mem_append_left _ (List.mem_append_left _ (List.mem_append_left _ (List.mem_append_left _ (List.mem_append_left _ (List.mem_append_left _ (List.mem_append_left _ (List.mem_append_right _ (List.mem_append_right _ (List.mem_append_right _ (List.mem_append_right _ (List.mem_append_right _ (List.mem_append_right _ (List.mem_append_right _ (List.mem_append_right _ (List.mem_append_right _ (List.mem_append_right _ (List.mem_append_right _ (List.mem_append_right _ (List.mem_append_left _ h)))))))))))))))))))))
theorem wsL_r14 : ∀ w ∈ wsL_law_r14, w ∈ wsL_law := fun _ h => (List.mem_append_left _ (List.mem_append_left _ (List.mem_append_left _ (List.mem_append_left _ (List.mem_append_left _ (List.mem_append_left _ (List.mem_append_left _ (List.mem_append_left _ (List.mem_append_right _ (List.mem_append_right _ (List.mem_append_right _ (List.mem_append_right _ (List.mem_append_right _ (List.mem_append_right _ (List.mem_append_right _ (List.mem_append_right _ (List.mem_append_right _ (List.mem_append_right _ (List.mem_append_right _ (List.mem_append_right _ (List.mem_append_right _ (List.mem_append_left _ h))))))))))))))))))))))
theorem wsL_r15 : ∀ w ∈ wsL_law_r15, w ∈ wsL_law := fun _ h => (List.mem_append_left _ (List.mem_append_left _ (List.mem_append_left _ (List.mem_append_left _ (List.mem_append_left _ (List.mem_append_left _ (List.mem_append_left _ (List.mem_append_left _ (List.mem_append_right _ (List.mem_append_right _ (List.mem_append_right _ (List.mem_append_right _ (List.mem_append_right _ (List.mem_append_right _ (List.mem_append_right _ (List.mem_append_right _ (List.mem_append_right _ (List.mem_append_right _ (List.mem_append_right _ (List.mem_append_right _ (List.mem_append_right _ (List.mem_append_right _ (List.mem_append_left _ h)))))))))))))))))))))))
theorem wsL_r16 : ∀ w ∈ wsL_law_r16, w ∈ wsL_law := fun _ h => (List.mem_append_left _ (List.mem_append_left _ (List.mem_append_left _ (List.mem_append_left _ (List.mem_append_left _ (List.mem_append_left _ (List.mem_append_left _ (List.mem_append_left _ (List.mem_append_right _ (List.mem_append_right _ (List.mem_append_right _ (List.mem_append_right _ (List.mem_append_right _ (List.mem_append_right _ (List.mem_append_right _ (List.mem_append_right _ (List.mem_append_right _ (List.mem_append_right _ (List.mem_append_right _ (List.mem_append_right _ (List.mem_append_right _ (List.mem_append_right _ (List.mem_append_right _ (List.mem_append_left _ h))))))))))))))))))))))))
theorem wsL_r17 : ∀ w ∈ wsL_law_r17, w ∈ wsL_law := fun _ h => (List.mem_append_left _ (List.mem_append_left _ (List.mem_append_left _ (List.mem_append_left _ (List.mem_append_left _ (List.mem_append_left _ (List.mem_append_left _ (List.mem_append_left _ (List.mem_append_right _ (List.mem_append_right _ (List.mem_append_right _ (List.mem_append_right _ (List.mem_append_right _ (List.mem_append_right _ (List.mem_append_right _ (List.mem_append_right _ (List.mem_append_right _ (List.mem_append_right _ (List.mem_append_right _ (List.mem_append_right _ (List.mem_append_right _ (List.mem_append_right _ (List.mem_append_right _ (List.mem_append_right _ (List.mem_append_left _ h)))))))))))))))))))))))))
theorem wsL_r18 : ∀ w ∈ wsL_law_r18, w ∈ wsL_law := fun _ h => (List.mem_append_left _ (List.mem_append_left _ (List.mem_append_left _ (List.mem_append_left _ (List.mem_append_left _ (List.mem_append_left _ (List.mem_append_left _ (List.mem_append_left _ (List.mem_append_right _ (List.mem_append_right _ (List.mem_append_right _ (List.mem_append_right _ (List.mem_append_right _ (List.mem_append_right _ (List.mem_append_right _ (List.mem_append_right _ (List.mem_append_right _ (List.mem_append_right _ (List.mem_append_right _ (List.mem_append_right _ (List.mem_append_right _ (List.mem_append_right _ (List.mem_append_right _ (List.mem_append_right _ (List.mem_append_right _ (List.mem_append_left _ h))))))))))))))))))))))))))
theorem wsL_r19 : ∀ w ∈ wsL_law_r19, w ∈ wsL_law := fun _ h => (List.mem_append_left _ (List.mem_append_left _ (List.mem_append_left _ (List.mem_append_left _ (List.mem_append_left _ (List.mem_append_left _ (List.mem_append_left _ (List.mem_append_left _ (List.mem_append_right _ (List.mem_append_right _ (List.mem_append_right _ (List.mem_append_right _ (List.mem_append_right _ (List.mem_append_right _ (List.mem_append_right _ (List.mem_append_right _ (List.mem_append_right _ (List.mem_append_right _ (List.mem_append_right _ (List.mem_append_right _ (List.mem_append_right _ (List.mem_append_right _ (List.mem_append_right _ (List.mem_append_right _ (List.mem_append_right _ (List.mem_append_right _ (List.mem_append_left _ h)))))))))))))))))))))))))))
theorem wsL_r20 : ∀ w ∈ wsL_law_r20, w ∈ wsL_law := fun _ h => (List.mem_append_left _ (List.mem_append_left _ (List.mem_append_left _ (List.mem_append_left _ (List.mem_append_left _ (List.mem_append_left _ (List.mem_append_left _ (List.mem_append_left _ (List.mem_append_right _ (List.mem_append_right _ (List.mem_append_right _ (List.mem_append_right _ (List.mem_append_right _ (List.mem_append_right _ (List.mem_append_right _ (List.mem_append_right _ (List.mem_append_right _ (List.mem_append_right _ (List.mem_append_right _ (List.mem_append_right _ (List.mem_append_right _ (List.mem_append_right _ (List.mem_append_right _ (List.mem_append_right _ (List.mem_append_right _ (List.mem_append_right _ (List.mem_append_right _ (List.mem_append_left _ h))))))))))))))))))))))))))))
theorem wsL_r21 : ∀ w ∈ wsL_law_r21, w ∈ wsL_law := fun _ h => (List.mem_append_left _ (List.mem_append_left _ (List.mem_append_left _ (List.mem_append_left _ (List.mem_append_left _ (List.mem_append_left _ (List.mem_append_left _ (List.mem_append_left _ (List.mem_append_right _ (List.mem_append_right _ (List.mem_append_right _ (List.mem_append_right _ (List.mem_append_right _ (List.mem_append_right _ (List.mem_append_right _ (List.mem_append_right _ (List.mem_append_right _ (List.mem_append_right _ (List.mem_append_right _ (List.mem_append_right _ (List.mem_append_right _ (List.mem_append_right _ (List.mem_append_right _ (List.mem_append_right _ (List.mem_append_right _ (List.mem_append_right _ (List.mem_append_right _ (List.mem_append_right _ (List.mem_append_left _ h)))))))))))))))))))))))))))))
theorem wsL_r22 : ∀ w ∈ wsL_law_r22, w ∈ wsL_law := fun _ h => (List.mem_append_left _ (List.mem_append_left _ (List.mem_append_left _ (List.mem_append_left _ (List.mem_append_left _ (List.mem_append_left _ (List.mem_append_left _ (List.mem_append_left _ (List.mem_append_right _ (List.mem_append_right _ (List.mem_append_right _ (List.mem_append_right _ (List.mem_append_right _ (List.mem_append_right _ (List.mem_append_right _ (List.mem_append_right _ (List.mem_append_right _ (List.mem_append_right _ (List.mem_append_right _ (List.mem_append_right _ (List.mem_append_right _ (List.mem_append_right _ (List.mem_append_right _ (List.mem_append_right _ (List.mem_append_right _ (List.mem_append_right _ (List.mem_append_right _ (List.mem_append_right _ (List.mem_append_right _ (List.mem_append_left _ h))))))))))))))))))))))))))))))
theorem wsL_r23 : ∀ w ∈ wsL_law_r23, w ∈ wsL_law := fun _ h => (List.mem_append_left _ (List.mem_append_left _ (List.mem_append_left _ (List.mem_append_left _ (List.mem_append_left _ (List.mem_append_left _ (List.mem_append_left _ (List.mem_append_left _ (List.mem_append_right _ (List.mem_append_right _ (List.mem_append_right _ (List.mem_append_right _ (List.mem_append_right _ (List.mem_append_right _ (List.mem_append_right _ (List.mem_append_right _ (List.mem_append_right _ (List.mem_append_right _ (List.mem_append_right _ (List.mem_append_right _ (List.mem_append_right _ (List.mem_append_right _ (List.mem_append_right _ (List.mem_append_right _ (List.mem_append_right _ (List.mem_append_right _ (List.mem_append_right _ (List.mem_append_right _ (List.mem_append_right _ (List.mem_append_right _ (List.mem_append_left _ h)))))))))))))))))))))))))))))))
theorem wsL_r24 : ∀ w ∈ wsL_law_r24, w ∈ wsL_law := fun _ h => (List.mem_append_left _ (List.mem_append_left _ (List.mem_append_left _ (List.mem_append_left _ (List.mem_append_left _ (List.mem_append_left _ (List.mem_append_left _ (List.mem_append_left _ (List.mem_append_right _ (List.mem_append_right _ (List.mem_append_right _ (List.mem_append_right _ (List.mem_append_right _ (List.mem_append_right _ (List.mem_append_right _ (List.mem_append_right _ (List.mem_append_right _ (List.mem_append_right _ (List.mem_append_right _ (List.mem_append_right _ (List.mem_append_right _ (List.mem_append_right _ (List.mem_append_right _ (List.mem_append_right _ (List.mem_append_right _ (List.mem_append_right _ (List.mem_append_right _ (List.mem_append_right _ (List.mem_append_right _ (List.mem_append_right _ (List.mem_append_right _ (List.mem_append_left _ h))))))))))))))))))))))))))))))))
theorem wsL_r25 : ∀ w ∈ wsL_law_r25, w ∈ wsL_law := fun _ h => (List.mem_append_left _ (List.mem_append_left _ (List.mem_append_left _ (List.mem_append_left _ (List.mem_append_left _ (List.mem_append_left _ (List.mem_append_left _ (List.mem_append_left _ (List.mem_append_right _ (List.mem_append_right _ (List.mem_append_right _ (List.mem_append_right _ (List.mem_append_right _ (List.mem_append_right _ (List.mem_append_right _ (List.mem_append_right _ (List.mem_append_right _ (List.mem_append_right _ (List.mem_append_right _ (List.mem_append_right _ (List.mem_append_right _ (List.mem_append_right _ (List.mem_append_right _ (List.mem_append_right _ (List.mem_append_right _ (List.mem_append_right _ (List.mem_append_right _ (List.mem_append_right _ (List.mem_append_right _ (List.mem_append_right _ (List.mem_append_right _ (List.mem_append_right _ (List.mem_append_left _ h)))))))))))))))))))))))))))))))))
theorem wsL_r26 : ∀ w ∈ wsL_law_r26, w ∈ wsL_law := fun _ h => (List.mem_append_left _ (List.mem_append_left _ (List.mem_append_left _ (List.mem_append_left _ (List.mem_append_left _ (List.mem_append_left _ (List.mem_append_left _ (List.mem_append_left _ (List.mem_append_right _ (List.mem_append_right _ (List.mem_append_right _ (List.mem_append_right _ (List.mem_append_right _ (List.mem_append_right _ (List.mem_append_right _ (List.mem_append_right _ (List.mem_append_right _ (List.mem_append_right _ (List.mem_append_right _ (List.mem_append_right _ (List.mem_append_right _ (List.mem_append_right _ (List.mem_append_right _ (List.mem_append_right _ (List.mem_append_right _ (List.mem_append_right _ (List.mem_append_right _ (List.mem_append_right _ (List.mem_append_right _ (List.mem_append_right _ (List.mem_append_right _ (List.mem_append_right _ (List.mem_append_right _ (List.mem_append_left _ h))))))))))))))))))))))))))))))))))
theorem wsL_r27 : ∀ w ∈ wsL_law_r27, w ∈ wsL_law := fun _ h => (List.mem_append_left _ (List.mem_append_left _ (List.mem_append_left _ (List.mem_append_left _ (List.mem_append_left _ (List.mem_append_left _ (List.mem_append_left _ (List.mem_append_left _ (List.mem_append_right _ (List.mem_append_right _ (List.mem_append_right _ (List.mem_append_right _ (List.mem_append_right _ (List.mem_append_right _ (List.mem_append_right _ (List.mem_append_right _ (List.mem_append_right _ (List.mem_append_right _ (List.mem_append_right _ (List.mem_append_right _ (List.mem_append_right _ (List.mem_append_right _ (List.mem_append_right _ (List.mem_append_right _ (List.mem_append_right _ (List.mem_append_right _ (List.mem_append_right _ (List.mem_append_right _ (List.mem_append_right _ (List.mem_append_right _ (List.mem_append_right _ (List.mem_append_right _ (List.mem_append_right _ (List.mem_append_right _ (List.mem_append_left _ h)))))))))))))))))))))))))))))))))))
theorem wsL_r28 : ∀ w ∈ wsL_law_r28, w ∈ wsL_law := fun _ h => (List.mem_append_left _ (List.mem_append_left _ (List.mem_append_left _ (List.mem_append_left _ (List.mem_append_left _ (List.mem_append_left _ (List.mem_append_left _ (List.mem_append_left _ (List.mem_append_right _ (List.mem_append_right _ (List.mem_append_right _ (List.mem_append_right _ (List.mem_append_right _ (List.mem_append_right _ (List.mem_append_right _ (List.mem_append_right _ (List.mem_append_right _ (List.mem_append_right _ (List.mem_append_right _ (List.mem_append_right _ (List.mem_append_right _ (List.mem_append_right _ (List.mem_append_right _ (List.mem_append_right _ (List.mem_append_right _ (List.mem_append_right _ (List.mem_append_right _ (List.mem_append_right _ (List.mem_append_right _ (List.mem_append_right _ (List.mem_append_right _ (List.mem_append_right _ (List.mem_append_right _ (List.mem_append_right _ (List.mem_append_right _ (List.mem_append_left _ h))))))))))))))))))))))))))))))))))))
theorem wsL_r29 : ∀ w ∈ wsL_law_r29, w ∈ wsL_law := fun _ h => (List.mem_append_left _ (List.mem_append_left _ (List.mem_append_left _ (List.mem_append_left _ (List.mem_append_left _ (List.mem_append_left _ (List.mem_append_left _ (List.mem_append_left _ (List.mem_append_right _ (List.mem_append_right _ (List.mem_append_right _ (List.mem_append_right _ (List.mem_append_right _ (List.mem_append_right _ (List.mem_append_right _ (List.mem_append_right _ (List.mem_append_right _ (List.mem_append_right _ (List.mem_append_right _ (List.mem_append_right _ (List.mem_append_right _ (List.mem_append_right _ (List.mem_append_right _ (List.mem_append_right _ (List.mem_append_right _ (List.mem_append_right _ (List.mem_append_right _ (List.mem_append_right _ (List.mem_append_right _ (List.mem_append_right _ (List.mem_append_right _ (List.mem_append_right _ (List.mem_append_right _ (List.mem_append_right _ (List.mem_append_right _ (List.mem_append_right _ h))))))))))))))))))))))))))))))))))))
theorem q_1_0 : Cond.classLink RL 7 RX5 ∈ wsL_law := wsL_r1 _ (List.mem_of_getElem? (i := 0) rfl)
theorem q_1_1 : Cond.instantiable RX5 2 ∈ wsL_law := wsL_r1 _ (List.mem_of_getElem? (i := 1) rfl)
theorem q_1_2 : Cond.initialized RX5 ∈ wsL_law := wsL_r1 _ (List.mem_of_getElem? (i := 2) rfl)
theorem q_1_3 : Cond.classLink RL 10 RX6 ∈ wsL_law := wsL_r1 _ (List.mem_of_getElem? (i := 3) rfl)
theorem q_1_4 : Cond.instantiable RX6 26 ∈ wsL_law := wsL_r1 _ (List.mem_of_getElem? (i := 4) rfl)
theorem q_1_5 : Cond.initialized RX6 ∈ wsL_law := wsL_r1 _ (List.mem_of_getElem? (i := 5) rfl)
theorem q_1_6 : Cond.methodLink RL 9 yX5_init ∈ wsL_law := wsL_r1 _ (List.mem_of_getElem? (i := 6) rfl)
theorem q_1_7 : Cond.instanceMethod yX5_init ∈ wsL_law := wsL_r1 _ (List.mem_of_getElem? (i := 7) rfl)
theorem q_1_8 : Cond.code yX5_init cX5_init 1 none ∈ wsL_law := wsL_r1 _ (List.mem_of_getElem? (i := 8) rfl)
theorem q_1_9 : Cond.methodLink RX5 3 objectInit ∈ wsL_law := wsL_r1 _ (List.mem_of_getElem? (i := 9) rfl)
theorem q_1_10 : Cond.instanceMethod objectInit ∈ wsL_law := wsL_r1 _ (List.mem_of_getElem? (i := 10) rfl)
theorem q_1_11 : Cond.code objectInit ⟨#[0xb1]⟩ 1 none ∈ wsL_law := wsL_r1 _ (List.mem_of_getElem? (i := 11) rfl)
theorem q_1_12 : Cond.classLink RX5 9 RX1 ∈ wsL_law := wsL_r1 _ (List.mem_of_getElem? (i := 12) rfl)
theorem q_1_13 : Cond.instantiable RX1 5 ∈ wsL_law := wsL_r1 _ (List.mem_of_getElem? (i := 13) rfl)
theorem q_1_14 : Cond.initialized RX1 ∈ wsL_law := wsL_r1 _ (List.mem_of_getElem? (i := 14) rfl)
theorem q_1_15 : Cond.fieldLink RX5 12 "SpeculativeScheduler" "live" "LSpeculativeScheduler$Cluster;" ∈ wsL_law := wsL_r1 _ (List.mem_of_getElem? (i := 15) rfl)
theorem q_1_16 : Cond.fieldLink RX5 16 "SpeculativeScheduler" "trial" "LSpeculativeScheduler$Cluster;" ∈ wsL_law := wsL_r1 _ (List.mem_of_getElem? (i := 16) rfl)
theorem q_1_17 : Cond.instanceMethod yX1_init ∈ wsL_law := wsL_r1 _ (List.mem_of_getElem? (i := 17) rfl)
theorem q_1_18 : Cond.code yX1_init cX1_init 1 none ∈ wsL_law := wsL_r1 _ (List.mem_of_getElem? (i := 18) rfl)
theorem q_1_19 : Cond.methodLink RX1 3 objectInit ∈ wsL_law := wsL_r1 _ (List.mem_of_getElem? (i := 19) rfl)
theorem q_1_20 : Cond.classLink RX1 9 RX3 ∈ wsL_law := wsL_r1 _ (List.mem_of_getElem? (i := 20) rfl)
theorem q_1_21 : Cond.instantiable RX3 5 ∈ wsL_law := wsL_r1 _ (List.mem_of_getElem? (i := 21) rfl)
theorem q_1_22 : Cond.initialized RX3 ∈ wsL_law := wsL_r1 _ (List.mem_of_getElem? (i := 22) rfl)
theorem q_1_23 : Cond.fieldLink RX1 12 "SpeculativeScheduler$Cluster" "settings" "LSpeculativeScheduler$Settings;" ∈ wsL_law := wsL_r1 _ (List.mem_of_getElem? (i := 23) rfl)
theorem q_2_0 : Cond.classLink RX1 18 RX2 ∈ wsL_law := wsL_r2 _ (List.mem_of_getElem? (i := 0) rfl)
theorem q_2_1 : Cond.instantiable RX2 7 ∈ wsL_law := wsL_r2 _ (List.mem_of_getElem? (i := 1) rfl)
theorem q_2_2 : Cond.initialized RX2 ∈ wsL_law := wsL_r2 _ (List.mem_of_getElem? (i := 2) rfl)
theorem q_2_3 : Cond.fieldLink RX1 21 "SpeculativeScheduler$Cluster" "nodes" "LSpeculativeScheduler$Nodes;" ∈ wsL_law := wsL_r2 _ (List.mem_of_getElem? (i := 3) rfl)
theorem q_2_4 : Cond.classLink RX1 25 RX4 ∈ wsL_law := wsL_r2 _ (List.mem_of_getElem? (i := 4) rfl)
theorem q_2_5 : Cond.instantiable RX4 5 ∈ wsL_law := wsL_r2 _ (List.mem_of_getElem? (i := 5) rfl)
theorem q_2_6 : Cond.initialized RX4 ∈ wsL_law := wsL_r2 _ (List.mem_of_getElem? (i := 6) rfl)
theorem q_2_7 : Cond.fieldLink RX1 28 "SpeculativeScheduler$Cluster" "tasks" "LSpeculativeScheduler$Tasks;" ∈ wsL_law := wsL_r2 _ (List.mem_of_getElem? (i := 7) rfl)
theorem q_2_8 : Cond.classLink RX1 32 RX0 ∈ wsL_law := wsL_r2 _ (List.mem_of_getElem? (i := 8) rfl)
theorem q_2_9 : Cond.instantiable RX0 11 ∈ wsL_law := wsL_r2 _ (List.mem_of_getElem? (i := 9) rfl)
theorem q_2_10 : Cond.initialized RX0 ∈ wsL_law := wsL_r2 _ (List.mem_of_getElem? (i := 10) rfl)
theorem q_2_11 : Cond.fieldLink RX1 35 "SpeculativeScheduler$Cluster" "attempts" "LSpeculativeScheduler$Attempts;" ∈ wsL_law := wsL_r2 _ (List.mem_of_getElem? (i := 11) rfl)
theorem q_2_12 : Cond.fieldLink RX1 39 "SpeculativeScheduler$Cluster" "now" "I" ∈ wsL_law := wsL_r2 _ (List.mem_of_getElem? (i := 12) rfl)
theorem q_2_13 : Cond.instanceMethod yX3_init ∈ wsL_law := wsL_r2 _ (List.mem_of_getElem? (i := 13) rfl)
theorem q_2_14 : Cond.code yX3_init cX3_init 1 none ∈ wsL_law := wsL_r2 _ (List.mem_of_getElem? (i := 14) rfl)
theorem q_2_15 : Cond.methodLink RX3 3 objectInit ∈ wsL_law := wsL_r2 _ (List.mem_of_getElem? (i := 15) rfl)
theorem q_2_16 : Cond.fieldLink RX3 9 "SpeculativeScheduler$Settings" "policy" "I" ∈ wsL_law := wsL_r2 _ (List.mem_of_getElem? (i := 16) rfl)
theorem q_2_17 : Cond.fieldLink RX3 15 "SpeculativeScheduler$Settings" "cap" "I" ∈ wsL_law := wsL_r2 _ (List.mem_of_getElem? (i := 17) rfl)
theorem q_2_18 : Cond.fieldLink RX3 18 "SpeculativeScheduler$Settings" "minimumAge" "I" ∈ wsL_law := wsL_r2 _ (List.mem_of_getElem? (i := 18) rfl)
theorem q_2_19 : Cond.fieldLink RX3 21 "SpeculativeScheduler$Settings" "taskThreshold" "I" ∈ wsL_law := wsL_r2 _ (List.mem_of_getElem? (i := 19) rfl)
theorem q_2_20 : Cond.fieldLink RX3 24 "SpeculativeScheduler$Settings" "nodeThreshold" "I" ∈ wsL_law := wsL_r2 _ (List.mem_of_getElem? (i := 20) rfl)
theorem q_2_21 : Cond.instanceMethod yX2_init ∈ wsL_law := wsL_r2 _ (List.mem_of_getElem? (i := 21) rfl)
theorem q_2_22 : Cond.code yX2_init cX2_init 1 none ∈ wsL_law := wsL_r2 _ (List.mem_of_getElem? (i := 22) rfl)
theorem q_2_23 : Cond.methodLink RX2 3 objectInit ∈ wsL_law := wsL_r2 _ (List.mem_of_getElem? (i := 23) rfl)
theorem q_3_0 : Cond.fieldLink RX2 9 "SpeculativeScheduler$Nodes" "count" "I" ∈ wsL_law := wsL_r3 _ (List.mem_of_getElem? (i := 0) rfl)
theorem q_3_1 : Cond.arrayClass .int ∈ wsL_law := wsL_r3 _ (List.mem_of_getElem? (i := 1) rfl)
theorem q_3_2 : Cond.fieldLink RX2 15 "SpeculativeScheduler$Nodes" "speed" "[I" ∈ wsL_law := wsL_r3 _ (List.mem_of_getElem? (i := 2) rfl)
theorem q_3_3 : Cond.fieldLink RX2 19 "SpeculativeScheduler$Nodes" "slots" "[I" ∈ wsL_law := wsL_r3 _ (List.mem_of_getElem? (i := 3) rfl)
theorem q_3_4 : Cond.arrayClass .boolean ∈ wsL_law := wsL_r3 _ (List.mem_of_getElem? (i := 4) rfl)
theorem q_3_5 : Cond.fieldLink RX2 22 "SpeculativeScheduler$Nodes" "up" "[Z" ∈ wsL_law := wsL_r3 _ (List.mem_of_getElem? (i := 5) rfl)
theorem q_3_6 : Cond.fieldLink RX2 26 "SpeculativeScheduler$Nodes" "busy" "[I" ∈ wsL_law := wsL_r3 _ (List.mem_of_getElem? (i := 6) rfl)
theorem q_3_7 : Cond.fieldLink RX2 29 "SpeculativeScheduler$Nodes" "workSum" "[I" ∈ wsL_law := wsL_r3 _ (List.mem_of_getElem? (i := 7) rfl)
theorem q_3_8 : Cond.fieldLink RX2 32 "SpeculativeScheduler$Nodes" "ageSum" "[I" ∈ wsL_law := wsL_r3 _ (List.mem_of_getElem? (i := 8) rfl)
theorem q_3_9 : Cond.instanceMethod yX4_init ∈ wsL_law := wsL_r3 _ (List.mem_of_getElem? (i := 9) rfl)
theorem q_3_10 : Cond.code yX4_init cX4_init 1 none ∈ wsL_law := wsL_r3 _ (List.mem_of_getElem? (i := 10) rfl)
theorem q_3_11 : Cond.methodLink RX4 3 objectInit ∈ wsL_law := wsL_r3 _ (List.mem_of_getElem? (i := 11) rfl)
theorem q_3_12 : Cond.fieldLink RX4 9 "SpeculativeScheduler$Tasks" "count" "I" ∈ wsL_law := wsL_r3 _ (List.mem_of_getElem? (i := 12) rfl)
theorem q_3_13 : Cond.fieldLink RX4 15 "SpeculativeScheduler$Tasks" "work" "[I" ∈ wsL_law := wsL_r3 _ (List.mem_of_getElem? (i := 13) rfl)
theorem q_3_14 : Cond.fieldLink RX4 19 "SpeculativeScheduler$Tasks" "runs" "[I" ∈ wsL_law := wsL_r3 _ (List.mem_of_getElem? (i := 14) rfl)
theorem q_3_15 : Cond.fieldLink RX4 22 "SpeculativeScheduler$Tasks" "committed" "[I" ∈ wsL_law := wsL_r3 _ (List.mem_of_getElem? (i := 15) rfl)
theorem q_3_16 : Cond.fieldLink RX4 25 "SpeculativeScheduler$Tasks" "finish" "[I" ∈ wsL_law := wsL_r3 _ (List.mem_of_getElem? (i := 16) rfl)
theorem q_3_17 : Cond.instanceMethod yX0_init ∈ wsL_law := wsL_r3 _ (List.mem_of_getElem? (i := 17) rfl)
theorem q_3_18 : Cond.code yX0_init cX0_init 1 none ∈ wsL_law := wsL_r3 _ (List.mem_of_getElem? (i := 18) rfl)
theorem q_3_19 : Cond.methodLink RX0 3 objectInit ∈ wsL_law := wsL_r3 _ (List.mem_of_getElem? (i := 19) rfl)
theorem q_3_20 : Cond.fieldLink RX0 9 "SpeculativeScheduler$Attempts" "count" "I" ∈ wsL_law := wsL_r3 _ (List.mem_of_getElem? (i := 20) rfl)
theorem q_3_21 : Cond.fieldLink RX0 15 "SpeculativeScheduler$Attempts" "task" "[I" ∈ wsL_law := wsL_r3 _ (List.mem_of_getElem? (i := 21) rfl)
theorem q_3_22 : Cond.fieldLink RX0 19 "SpeculativeScheduler$Attempts" "node" "[I" ∈ wsL_law := wsL_r3 _ (List.mem_of_getElem? (i := 22) rfl)
theorem q_3_23 : Cond.fieldLink RX0 22 "SpeculativeScheduler$Attempts" "state" "[I" ∈ wsL_law := wsL_r3 _ (List.mem_of_getElem? (i := 23) rfl)
theorem q_4_0 : Cond.fieldLink RX0 25 "SpeculativeScheduler$Attempts" "speculative" "[Z" ∈ wsL_law := wsL_r4 _ (List.mem_of_getElem? (i := 0) rfl)
theorem q_4_1 : Cond.fieldLink RX0 29 "SpeculativeScheduler$Attempts" "age" "[I" ∈ wsL_law := wsL_r4 _ (List.mem_of_getElem? (i := 1) rfl)
theorem q_4_2 : Cond.fieldLink RX0 32 "SpeculativeScheduler$Attempts" "done" "[I" ∈ wsL_law := wsL_r4 _ (List.mem_of_getElem? (i := 2) rfl)
theorem q_4_3 : Cond.fieldLink RX0 35 "SpeculativeScheduler$Attempts" "progress" "[I" ∈ wsL_law := wsL_r4 _ (List.mem_of_getElem? (i := 3) rfl)
theorem q_4_4 : Cond.fieldLink RX0 38 "SpeculativeScheduler$Attempts" "rate" "[I" ∈ wsL_law := wsL_r4 _ (List.mem_of_getElem? (i := 4) rfl)
theorem q_4_5 : Cond.fieldLink RX0 41 "SpeculativeScheduler$Attempts" "running" "[I" ∈ wsL_law := wsL_r4 _ (List.mem_of_getElem? (i := 5) rfl)
theorem q_4_6 : Cond.fieldLink RX0 44 "SpeculativeScheduler$Attempts" "runningCount" "I" ∈ wsL_law := wsL_r4 _ (List.mem_of_getElem? (i := 6) rfl)
theorem q_4_7 : Cond.methodLink RL 12 yX6_init ∈ wsL_law := wsL_r4 _ (List.mem_of_getElem? (i := 7) rfl)
theorem q_4_8 : Cond.instanceMethod yX6_init ∈ wsL_law := wsL_r4 _ (List.mem_of_getElem? (i := 8) rfl)
theorem q_4_9 : Cond.code yX6_init cX6_init 1 none ∈ wsL_law := wsL_r4 _ (List.mem_of_getElem? (i := 9) rfl)
theorem q_4_10 : Cond.methodLink RX6 1 objectInit ∈ wsL_law := wsL_r4 _ (List.mem_of_getElem? (i := 10) rfl)
theorem q_4_11 : Cond.fieldLink RX6 7 "SpeculativeSchedulerModel" "speedOf" "[I" ∈ wsL_law := wsL_r4 _ (List.mem_of_getElem? (i := 11) rfl)
theorem q_4_12 : Cond.fieldLink RX6 13 "SpeculativeSchedulerModel" "slotsOf" "[I" ∈ wsL_law := wsL_r4 _ (List.mem_of_getElem? (i := 12) rfl)
theorem q_4_13 : Cond.fieldLink RX6 16 "SpeculativeSchedulerModel" "isUp" "[Z" ∈ wsL_law := wsL_r4 _ (List.mem_of_getElem? (i := 13) rfl)
theorem q_4_14 : Cond.fieldLink RX6 20 "SpeculativeSchedulerModel" "workOf" "[I" ∈ wsL_law := wsL_r4 _ (List.mem_of_getElem? (i := 14) rfl)
theorem q_4_15 : Cond.fieldLink RX6 23 "SpeculativeSchedulerModel" "cap" "I" ∈ wsL_law := wsL_r4 _ (List.mem_of_getElem? (i := 15) rfl)
theorem q_4_16 : Cond.fieldLink RX6 27 "SpeculativeSchedulerModel" "minimumAge" "I" ∈ wsL_law := wsL_r4 _ (List.mem_of_getElem? (i := 16) rfl)
theorem q_4_17 : Cond.fieldLink RX6 30 "SpeculativeSchedulerModel" "taskThreshold" "I" ∈ wsL_law := wsL_r4 _ (List.mem_of_getElem? (i := 17) rfl)
theorem q_4_18 : Cond.fieldLink RX6 33 "SpeculativeSchedulerModel" "nodeThreshold" "I" ∈ wsL_law := wsL_r4 _ (List.mem_of_getElem? (i := 18) rfl)
theorem q_4_19 : Cond.fieldLink RX6 36 "SpeculativeSchedulerModel" "attempts" "[I" ∈ wsL_law := wsL_r4 _ (List.mem_of_getElem? (i := 19) rfl)
theorem q_4_20 : Cond.fieldLink RX6 39 "SpeculativeSchedulerModel" "clock" "[I" ∈ wsL_law := wsL_r4 _ (List.mem_of_getElem? (i := 20) rfl)
theorem q_4_21 : Cond.fieldLink RX6 42 "SpeculativeSchedulerModel" "taskOf" "[I" ∈ wsL_law := wsL_r4 _ (List.mem_of_getElem? (i := 21) rfl)
theorem q_4_22 : Cond.fieldLink RX6 45 "SpeculativeSchedulerModel" "nodeOf" "[I" ∈ wsL_law := wsL_r4 _ (List.mem_of_getElem? (i := 22) rfl)
theorem q_4_23 : Cond.fieldLink RX6 48 "SpeculativeSchedulerModel" "ageOf" "[I" ∈ wsL_law := wsL_r4 _ (List.mem_of_getElem? (i := 23) rfl)
theorem q_5_0 : Cond.fieldLink RX6 51 "SpeculativeSchedulerModel" "doneOf" "[I" ∈ wsL_law := wsL_r5 _ (List.mem_of_getElem? (i := 0) rfl)
theorem q_5_1 : Cond.fieldLink RX6 54 "SpeculativeSchedulerModel" "stateOf" "[I" ∈ wsL_law := wsL_r5 _ (List.mem_of_getElem? (i := 1) rfl)
theorem q_5_2 : Cond.fieldLink RX6 57 "SpeculativeSchedulerModel" "isSecond" "[Z" ∈ wsL_law := wsL_r5 _ (List.mem_of_getElem? (i := 2) rfl)
theorem q_5_3 : Cond.fieldLink RX6 60 "SpeculativeSchedulerModel" "commitOf" "[I" ∈ wsL_law := wsL_r5 _ (List.mem_of_getElem? (i := 3) rfl)
theorem q_5_4 : Cond.fieldLink RX6 63 "SpeculativeSchedulerModel" "finishOf" "[I" ∈ wsL_law := wsL_r5 _ (List.mem_of_getElem? (i := 4) rfl)
theorem q_5_5 : Cond.fieldLink RX6 66 "SpeculativeSchedulerModel" "runningOf" "[I" ∈ wsL_law := wsL_r5 _ (List.mem_of_getElem? (i := 5) rfl)
theorem q_5_6 : Cond.fieldLink RX6 69 "SpeculativeSchedulerModel" "busyOf" "[I" ∈ wsL_law := wsL_r5 _ (List.mem_of_getElem? (i := 6) rfl)
theorem q_5_7 : Cond.fieldLink RX6 72 "SpeculativeSchedulerModel" "agesOf" "[I" ∈ wsL_law := wsL_r5 _ (List.mem_of_getElem? (i := 7) rfl)
theorem q_5_8 : Cond.fieldLink RX6 75 "SpeculativeSchedulerModel" "worksOf" "[I" ∈ wsL_law := wsL_r5 _ (List.mem_of_getElem? (i := 8) rfl)
theorem q_5_9 : Cond.fieldLink RX6 78 "SpeculativeSchedulerModel" "policyNow" "I" ∈ wsL_law := wsL_r5 _ (List.mem_of_getElem? (i := 9) rfl)
theorem q_5_10 : Cond.methodLink RL 13 yX5_addNode ∈ wsL_law := wsL_r5 _ (List.mem_of_getElem? (i := 10) rfl)
theorem q_5_11 : Cond.instanceMethod yX5_addNode ∈ wsL_law := wsL_r5 _ (List.mem_of_getElem? (i := 11) rfl)
theorem q_5_12 : Cond.selects RX5 yX5_addNode yX5_addNode ∈ wsL_law := wsL_r5 _ (List.mem_of_getElem? (i := 12) rfl)
theorem q_5_13 : Cond.code yX5_addNode cX5_addNode 3 (some .int) ∈ wsL_law := wsL_r5 _ (List.mem_of_getElem? (i := 13) rfl)
theorem q_5_14 : Cond.fieldLink RX5 23 "SpeculativeScheduler$Cluster" "nodes" "LSpeculativeScheduler$Nodes;" ∈ wsL_law := wsL_r5 _ (List.mem_of_getElem? (i := 14) rfl)
theorem q_5_15 : Cond.methodLink RX5 19 yX5_inRange ∈ wsL_law := wsL_r5 _ (List.mem_of_getElem? (i := 15) rfl)
theorem q_5_16 : Cond.static yX5_inRange ∈ wsL_law := wsL_r5 _ (List.mem_of_getElem? (i := 16) rfl)
theorem q_5_17 : Cond.code yX5_inRange cX5_inRange 3 (some .boolean) ∈ wsL_law := wsL_r5 _ (List.mem_of_getElem? (i := 17) rfl)
theorem q_5_18 : Cond.methodLink RX5 27 yX2_add ∈ wsL_law := wsL_r5 _ (List.mem_of_getElem? (i := 18) rfl)
theorem q_5_19 : Cond.instanceMethod yX2_add ∈ wsL_law := wsL_r5 _ (List.mem_of_getElem? (i := 19) rfl)
theorem q_5_20 : Cond.selects RX2 yX2_add yX2_add ∈ wsL_law := wsL_r5 _ (List.mem_of_getElem? (i := 20) rfl)
theorem q_5_21 : Cond.code yX2_add cX2_add 4 (some .int) ∈ wsL_law := wsL_r5 _ (List.mem_of_getElem? (i := 21) rfl)
theorem q_5_22 : Cond.methodLink RL 17 yX6_addNode ∈ wsL_law := wsL_r5 _ (List.mem_of_getElem? (i := 22) rfl)
theorem q_5_23 : Cond.instanceMethod yX6_addNode ∈ wsL_law := wsL_r5 _ (List.mem_of_getElem? (i := 23) rfl)
theorem q_6_0 : Cond.selects RX6 yX6_addNode yX6_addNode ∈ wsL_law := wsL_r6 _ (List.mem_of_getElem? (i := 0) rfl)
theorem q_6_1 : Cond.code yX6_addNode cX6_addNode 3 (some .int) ∈ wsL_law := wsL_r6 _ (List.mem_of_getElem? (i := 1) rfl)
theorem q_6_2 : Cond.fieldLink RX6 81 "SpeculativeSchedulerModel" "nodes" "I" ∈ wsL_law := wsL_r6 _ (List.mem_of_getElem? (i := 2) rfl)
theorem q_6_3 : Cond.methodLink RX6 84 yX6_within ∈ wsL_law := wsL_r6 _ (List.mem_of_getElem? (i := 3) rfl)
theorem q_6_4 : Cond.static yX6_within ∈ wsL_law := wsL_r6 _ (List.mem_of_getElem? (i := 4) rfl)
theorem q_6_5 : Cond.code yX6_within cX6_within 3 (some .boolean) ∈ wsL_law := wsL_r6 _ (List.mem_of_getElem? (i := 5) rfl)
theorem q_6_6 : Cond.methodLink RL 18 yX5_setSpeed ∈ wsL_law := wsL_r6 _ (List.mem_of_getElem? (i := 6) rfl)
theorem q_6_7 : Cond.instanceMethod yX5_setSpeed ∈ wsL_law := wsL_r6 _ (List.mem_of_getElem? (i := 7) rfl)
theorem q_6_8 : Cond.selects RX5 yX5_setSpeed yX5_setSpeed ∈ wsL_law := wsL_r6 _ (List.mem_of_getElem? (i := 8) rfl)
theorem q_6_9 : Cond.code yX5_setSpeed cX5_setSpeed 4 (some .int) ∈ wsL_law := wsL_r6 _ (List.mem_of_getElem? (i := 9) rfl)
theorem q_6_10 : Cond.fieldLink RX5 37 "SpeculativeScheduler$Nodes" "speed" "[I" ∈ wsL_law := wsL_r6 _ (List.mem_of_getElem? (i := 10) rfl)
theorem q_6_11 : Cond.methodLink RX5 33 yX2_has ∈ wsL_law := wsL_r6 _ (List.mem_of_getElem? (i := 11) rfl)
theorem q_6_12 : Cond.instanceMethod yX2_has ∈ wsL_law := wsL_r6 _ (List.mem_of_getElem? (i := 12) rfl)
theorem q_6_13 : Cond.selects RX2 yX2_has yX2_has ∈ wsL_law := wsL_r6 _ (List.mem_of_getElem? (i := 13) rfl)
theorem q_6_14 : Cond.code yX2_has cX2_has 2 (some .boolean) ∈ wsL_law := wsL_r6 _ (List.mem_of_getElem? (i := 14) rfl)
theorem q_6_15 : Cond.methodLink RL 21 yX6_setSpeed ∈ wsL_law := wsL_r6 _ (List.mem_of_getElem? (i := 15) rfl)
theorem q_6_16 : Cond.instanceMethod yX6_setSpeed ∈ wsL_law := wsL_r6 _ (List.mem_of_getElem? (i := 16) rfl)
theorem q_6_17 : Cond.selects RX6 yX6_setSpeed yX6_setSpeed ∈ wsL_law := wsL_r6 _ (List.mem_of_getElem? (i := 17) rfl)
theorem q_6_18 : Cond.code yX6_setSpeed cX6_setSpeed 4 (some .int) ∈ wsL_law := wsL_r6 _ (List.mem_of_getElem? (i := 18) rfl)
theorem q_6_19 : Cond.methodLink RX6 94 yX6_isNode ∈ wsL_law := wsL_r6 _ (List.mem_of_getElem? (i := 19) rfl)
theorem q_6_20 : Cond.instanceMethod yX6_isNode ∈ wsL_law := wsL_r6 _ (List.mem_of_getElem? (i := 20) rfl)
theorem q_6_21 : Cond.selects RX6 yX6_isNode yX6_isNode ∈ wsL_law := wsL_r6 _ (List.mem_of_getElem? (i := 21) rfl)
theorem q_6_22 : Cond.code yX6_isNode cX6_isNode 2 (some .boolean) ∈ wsL_law := wsL_r6 _ (List.mem_of_getElem? (i := 22) rfl)
theorem q_6_23 : Cond.methodLink RL 22 yX5_failNode ∈ wsL_law := wsL_r6 _ (List.mem_of_getElem? (i := 23) rfl)
theorem q_7_0 : Cond.instanceMethod yX5_failNode ∈ wsL_law := wsL_r7 _ (List.mem_of_getElem? (i := 0) rfl)
theorem q_7_1 : Cond.selects RX5 yX5_failNode yX5_failNode ∈ wsL_law := wsL_r7 _ (List.mem_of_getElem? (i := 1) rfl)
theorem q_7_2 : Cond.code yX5_failNode cX5_failNode 2 (some .int) ∈ wsL_law := wsL_r7 _ (List.mem_of_getElem? (i := 2) rfl)
theorem q_7_3 : Cond.fieldLink RX5 41 "SpeculativeScheduler$Nodes" "up" "[Z" ∈ wsL_law := wsL_r7 _ (List.mem_of_getElem? (i := 3) rfl)
theorem q_7_4 : Cond.methodLink RX5 45 yX1_loseAttemptsOn ∈ wsL_law := wsL_r7 _ (List.mem_of_getElem? (i := 4) rfl)
theorem q_7_5 : Cond.instanceMethod yX1_loseAttemptsOn ∈ wsL_law := wsL_r7 _ (List.mem_of_getElem? (i := 5) rfl)
theorem q_7_6 : Cond.selects RX1 yX1_loseAttemptsOn yX1_loseAttemptsOn ∈ wsL_law := wsL_r7 _ (List.mem_of_getElem? (i := 6) rfl)
theorem q_7_7 : Cond.code yX1_loseAttemptsOn cX1_loseAttemptsOn 5 (some .int) ∈ wsL_law := wsL_r7 _ (List.mem_of_getElem? (i := 7) rfl)
theorem q_7_8 : Cond.fieldLink RX1 125 "SpeculativeScheduler$Attempts" "runningCount" "I" ∈ wsL_law := wsL_r7 _ (List.mem_of_getElem? (i := 8) rfl)
theorem q_7_9 : Cond.fieldLink RX1 128 "SpeculativeScheduler$Attempts" "running" "[I" ∈ wsL_law := wsL_r7 _ (List.mem_of_getElem? (i := 9) rfl)
theorem q_7_10 : Cond.fieldLink RX1 108 "SpeculativeScheduler$Attempts" "node" "[I" ∈ wsL_law := wsL_r7 _ (List.mem_of_getElem? (i := 10) rfl)
theorem q_7_11 : Cond.methodLink RX1 159 yX1_end ∈ wsL_law := wsL_r7 _ (List.mem_of_getElem? (i := 11) rfl)
theorem q_7_12 : Cond.instanceMethod yX1_end ∈ wsL_law := wsL_r7 _ (List.mem_of_getElem? (i := 12) rfl)
theorem q_7_13 : Cond.selects RX1 yX1_end yX1_end ∈ wsL_law := wsL_r7 _ (List.mem_of_getElem? (i := 13) rfl)
theorem q_7_14 : Cond.code yX1_end cX1_end 3 none ∈ wsL_law := wsL_r7 _ (List.mem_of_getElem? (i := 14) rfl)
theorem q_7_15 : Cond.fieldLink RX1 147 "SpeculativeScheduler$Attempts" "state" "[I" ∈ wsL_law := wsL_r7 _ (List.mem_of_getElem? (i := 15) rfl)
theorem q_7_16 : Cond.fieldLink RX1 115 "SpeculativeScheduler$Tasks" "runs" "[I" ∈ wsL_law := wsL_r7 _ (List.mem_of_getElem? (i := 16) rfl)
theorem q_7_17 : Cond.fieldLink RX1 112 "SpeculativeScheduler$Attempts" "task" "[I" ∈ wsL_law := wsL_r7 _ (List.mem_of_getElem? (i := 17) rfl)
theorem q_7_18 : Cond.fieldLink RX1 122 "SpeculativeScheduler$Nodes" "busy" "[I" ∈ wsL_law := wsL_r7 _ (List.mem_of_getElem? (i := 18) rfl)
theorem q_7_19 : Cond.methodLink RX1 156 yX0_dropEnded ∈ wsL_law := wsL_r7 _ (List.mem_of_getElem? (i := 19) rfl)
theorem q_7_20 : Cond.instanceMethod yX0_dropEnded ∈ wsL_law := wsL_r7 _ (List.mem_of_getElem? (i := 20) rfl)
theorem q_7_21 : Cond.selects RX0 yX0_dropEnded yX0_dropEnded ∈ wsL_law := wsL_r7 _ (List.mem_of_getElem? (i := 21) rfl)
theorem q_7_22 : Cond.code yX0_dropEnded cX0_dropEnded 4 none ∈ wsL_law := wsL_r7 _ (List.mem_of_getElem? (i := 22) rfl)
theorem q_7_23 : Cond.methodLink RL 26 yX6_failNode ∈ wsL_law := wsL_r7 _ (List.mem_of_getElem? (i := 23) rfl)
theorem q_8_0 : Cond.instanceMethod yX6_failNode ∈ wsL_law := wsL_r8 _ (List.mem_of_getElem? (i := 0) rfl)
theorem q_8_1 : Cond.selects RX6 yX6_failNode yX6_failNode ∈ wsL_law := wsL_r8 _ (List.mem_of_getElem? (i := 1) rfl)
theorem q_8_2 : Cond.code yX6_failNode cX6_failNode 4 (some .int) ∈ wsL_law := wsL_r8 _ (List.mem_of_getElem? (i := 2) rfl)
theorem q_8_3 : Cond.methodLink RX6 98 yX6_stops ∈ wsL_law := wsL_r8 _ (List.mem_of_getElem? (i := 3) rfl)
theorem q_8_4 : Cond.instanceMethod yX6_stops ∈ wsL_law := wsL_r8 _ (List.mem_of_getElem? (i := 4) rfl)
theorem q_8_5 : Cond.selects RX6 yX6_stops yX6_stops ∈ wsL_law := wsL_r8 _ (List.mem_of_getElem? (i := 5) rfl)
theorem q_8_6 : Cond.code yX6_stops cX6_stops 3 none ∈ wsL_law := wsL_r8 _ (List.mem_of_getElem? (i := 6) rfl)
theorem q_8_7 : Cond.fieldLink RX6 91 "SpeculativeSchedulerModel" "side" "I" ∈ wsL_law := wsL_r8 _ (List.mem_of_getElem? (i := 7) rfl)
theorem q_8_8 : Cond.methodLink RL 27 yX5_repairNode ∈ wsL_law := wsL_r8 _ (List.mem_of_getElem? (i := 8) rfl)
theorem q_8_9 : Cond.instanceMethod yX5_repairNode ∈ wsL_law := wsL_r8 _ (List.mem_of_getElem? (i := 9) rfl)
theorem q_8_10 : Cond.selects RX5 yX5_repairNode yX5_repairNode ∈ wsL_law := wsL_r8 _ (List.mem_of_getElem? (i := 10) rfl)
theorem q_8_11 : Cond.code yX5_repairNode cX5_repairNode 3 (some .int) ∈ wsL_law := wsL_r8 _ (List.mem_of_getElem? (i := 11) rfl)
theorem q_8_12 : Cond.methodLink RL 30 yX6_repairNode ∈ wsL_law := wsL_r8 _ (List.mem_of_getElem? (i := 12) rfl)
theorem q_8_13 : Cond.instanceMethod yX6_repairNode ∈ wsL_law := wsL_r8 _ (List.mem_of_getElem? (i := 13) rfl)
theorem q_8_14 : Cond.selects RX6 yX6_repairNode yX6_repairNode ∈ wsL_law := wsL_r8 _ (List.mem_of_getElem? (i := 14) rfl)
theorem q_8_15 : Cond.code yX6_repairNode cX6_repairNode 3 (some .int) ∈ wsL_law := wsL_r8 _ (List.mem_of_getElem? (i := 15) rfl)
theorem q_8_16 : Cond.methodLink RL 31 yX5_addTask ∈ wsL_law := wsL_r8 _ (List.mem_of_getElem? (i := 16) rfl)
theorem q_8_17 : Cond.instanceMethod yX5_addTask ∈ wsL_law := wsL_r8 _ (List.mem_of_getElem? (i := 17) rfl)
theorem q_8_18 : Cond.selects RX5 yX5_addTask yX5_addTask ∈ wsL_law := wsL_r8 _ (List.mem_of_getElem? (i := 18) rfl)
theorem q_8_19 : Cond.code yX5_addTask cX5_addTask 2 (some .int) ∈ wsL_law := wsL_r8 _ (List.mem_of_getElem? (i := 19) rfl)
theorem q_8_20 : Cond.fieldLink RX5 49 "SpeculativeScheduler$Cluster" "tasks" "LSpeculativeScheduler$Tasks;" ∈ wsL_law := wsL_r8 _ (List.mem_of_getElem? (i := 20) rfl)
theorem q_8_21 : Cond.methodLink RX5 53 yX4_add ∈ wsL_law := wsL_r8 _ (List.mem_of_getElem? (i := 21) rfl)
theorem q_8_22 : Cond.instanceMethod yX4_add ∈ wsL_law := wsL_r8 _ (List.mem_of_getElem? (i := 22) rfl)
theorem q_8_23 : Cond.selects RX4 yX4_add yX4_add ∈ wsL_law := wsL_r8 _ (List.mem_of_getElem? (i := 23) rfl)
theorem q_9_0 : Cond.code yX4_add cX4_add 3 (some .int) ∈ wsL_law := wsL_r9 _ (List.mem_of_getElem? (i := 0) rfl)
theorem q_9_1 : Cond.methodLink RL 34 yX6_addTask ∈ wsL_law := wsL_r9 _ (List.mem_of_getElem? (i := 1) rfl)
theorem q_9_2 : Cond.instanceMethod yX6_addTask ∈ wsL_law := wsL_r9 _ (List.mem_of_getElem? (i := 2) rfl)
theorem q_9_3 : Cond.selects RX6 yX6_addTask yX6_addTask ∈ wsL_law := wsL_r9 _ (List.mem_of_getElem? (i := 3) rfl)
theorem q_9_4 : Cond.code yX6_addTask cX6_addTask 2 (some .int) ∈ wsL_law := wsL_r9 _ (List.mem_of_getElem? (i := 4) rfl)
theorem q_9_5 : Cond.fieldLink RX6 88 "SpeculativeSchedulerModel" "tasks" "I" ∈ wsL_law := wsL_r9 _ (List.mem_of_getElem? (i := 5) rfl)
theorem q_9_6 : Cond.methodLink RL 35 yX5_setPolicy ∈ wsL_law := wsL_r9 _ (List.mem_of_getElem? (i := 6) rfl)
theorem q_9_7 : Cond.instanceMethod yX5_setPolicy ∈ wsL_law := wsL_r9 _ (List.mem_of_getElem? (i := 7) rfl)
theorem q_9_8 : Cond.selects RX5 yX5_setPolicy yX5_setPolicy ∈ wsL_law := wsL_r9 _ (List.mem_of_getElem? (i := 8) rfl)
theorem q_9_9 : Cond.code yX5_setPolicy cX5_setPolicy 3 (some .int) ∈ wsL_law := wsL_r9 _ (List.mem_of_getElem? (i := 9) rfl)
theorem q_9_10 : Cond.fieldLink RX5 60 "SpeculativeScheduler$Cluster" "settings" "LSpeculativeScheduler$Settings;" ∈ wsL_law := wsL_r9 _ (List.mem_of_getElem? (i := 10) rfl)
theorem q_9_11 : Cond.fieldLink RX5 64 "SpeculativeScheduler$Settings" "policy" "I" ∈ wsL_law := wsL_r9 _ (List.mem_of_getElem? (i := 11) rfl)
theorem q_9_12 : Cond.methodLink RX5 57 yX5_isPolicy ∈ wsL_law := wsL_r9 _ (List.mem_of_getElem? (i := 12) rfl)
theorem q_9_13 : Cond.static yX5_isPolicy ∈ wsL_law := wsL_r9 _ (List.mem_of_getElem? (i := 13) rfl)
theorem q_9_14 : Cond.code yX5_isPolicy cX5_isPolicy 1 (some .boolean) ∈ wsL_law := wsL_r9 _ (List.mem_of_getElem? (i := 14) rfl)
theorem q_9_15 : Cond.methodLink RL 38 yX6_setPolicy ∈ wsL_law := wsL_r9 _ (List.mem_of_getElem? (i := 15) rfl)
theorem q_9_16 : Cond.instanceMethod yX6_setPolicy ∈ wsL_law := wsL_r9 _ (List.mem_of_getElem? (i := 16) rfl)
theorem q_9_17 : Cond.selects RX6 yX6_setPolicy yX6_setPolicy ∈ wsL_law := wsL_r9 _ (List.mem_of_getElem? (i := 17) rfl)
theorem q_9_18 : Cond.code yX6_setPolicy cX6_setPolicy 3 (some .int) ∈ wsL_law := wsL_r9 _ (List.mem_of_getElem? (i := 18) rfl)
theorem q_9_19 : Cond.methodLink RL 39 yX5_setLimits ∈ wsL_law := wsL_r9 _ (List.mem_of_getElem? (i := 19) rfl)
theorem q_9_20 : Cond.instanceMethod yX5_setLimits ∈ wsL_law := wsL_r9 _ (List.mem_of_getElem? (i := 20) rfl)
theorem q_9_21 : Cond.selects RX5 yX5_setLimits yX5_setLimits ∈ wsL_law := wsL_r9 _ (List.mem_of_getElem? (i := 21) rfl)
theorem q_9_22 : Cond.code yX5_setLimits cX5_setLimits 5 (some .int) ∈ wsL_law := wsL_r9 _ (List.mem_of_getElem? (i := 22) rfl)
theorem q_9_23 : Cond.fieldLink RX5 70 "SpeculativeScheduler$Settings" "cap" "I" ∈ wsL_law := wsL_r9 _ (List.mem_of_getElem? (i := 23) rfl)
theorem q_10_0 : Cond.fieldLink RX5 73 "SpeculativeScheduler$Settings" "minimumAge" "I" ∈ wsL_law := wsL_r10 _ (List.mem_of_getElem? (i := 0) rfl)
theorem q_10_1 : Cond.methodLink RL 42 yX6_setLimits ∈ wsL_law := wsL_r10 _ (List.mem_of_getElem? (i := 1) rfl)
theorem q_10_2 : Cond.instanceMethod yX6_setLimits ∈ wsL_law := wsL_r10 _ (List.mem_of_getElem? (i := 2) rfl)
theorem q_10_3 : Cond.selects RX6 yX6_setLimits yX6_setLimits ∈ wsL_law := wsL_r10 _ (List.mem_of_getElem? (i := 3) rfl)
theorem q_10_4 : Cond.code yX6_setLimits cX6_setLimits 4 (some .int) ∈ wsL_law := wsL_r10 _ (List.mem_of_getElem? (i := 4) rfl)
theorem q_10_5 : Cond.methodLink RL 43 yX5_setThresholds ∈ wsL_law := wsL_r10 _ (List.mem_of_getElem? (i := 5) rfl)
theorem q_10_6 : Cond.instanceMethod yX5_setThresholds ∈ wsL_law := wsL_r10 _ (List.mem_of_getElem? (i := 6) rfl)
theorem q_10_7 : Cond.selects RX5 yX5_setThresholds yX5_setThresholds ∈ wsL_law := wsL_r10 _ (List.mem_of_getElem? (i := 7) rfl)
theorem q_10_8 : Cond.code yX5_setThresholds cX5_setThresholds 5 (some .int) ∈ wsL_law := wsL_r10 _ (List.mem_of_getElem? (i := 8) rfl)
theorem q_10_9 : Cond.fieldLink RX5 76 "SpeculativeScheduler$Settings" "taskThreshold" "I" ∈ wsL_law := wsL_r10 _ (List.mem_of_getElem? (i := 9) rfl)
theorem q_10_10 : Cond.fieldLink RX5 79 "SpeculativeScheduler$Settings" "nodeThreshold" "I" ∈ wsL_law := wsL_r10 _ (List.mem_of_getElem? (i := 10) rfl)
theorem q_10_11 : Cond.methodLink RL 46 yX6_setThresholds ∈ wsL_law := wsL_r10 _ (List.mem_of_getElem? (i := 11) rfl)
theorem q_10_12 : Cond.instanceMethod yX6_setThresholds ∈ wsL_law := wsL_r10 _ (List.mem_of_getElem? (i := 12) rfl)
theorem q_10_13 : Cond.selects RX6 yX6_setThresholds yX6_setThresholds ∈ wsL_law := wsL_r10 _ (List.mem_of_getElem? (i := 13) rfl)
theorem q_10_14 : Cond.code yX6_setThresholds cX6_setThresholds 4 (some .int) ∈ wsL_law := wsL_r10 _ (List.mem_of_getElem? (i := 14) rfl)
theorem q_10_15 : Cond.methodLink RL 47 yX5_tick ∈ wsL_law := wsL_r10 _ (List.mem_of_getElem? (i := 15) rfl)
theorem q_10_16 : Cond.instanceMethod yX5_tick ∈ wsL_law := wsL_r10 _ (List.mem_of_getElem? (i := 16) rfl)
theorem q_10_17 : Cond.selects RX5 yX5_tick yX5_tick ∈ wsL_law := wsL_r10 _ (List.mem_of_getElem? (i := 17) rfl)
theorem q_10_18 : Cond.code yX5_tick cX5_tick 4 (some .int) ∈ wsL_law := wsL_r10 _ (List.mem_of_getElem? (i := 18) rfl)
theorem q_10_19 : Cond.methodLink RX5 82 yX1_runOneTick ∈ wsL_law := wsL_r10 _ (List.mem_of_getElem? (i := 19) rfl)
theorem q_10_20 : Cond.instanceMethod yX1_runOneTick ∈ wsL_law := wsL_r10 _ (List.mem_of_getElem? (i := 20) rfl)
theorem q_10_21 : Cond.selects RX1 yX1_runOneTick yX1_runOneTick ∈ wsL_law := wsL_r10 _ (List.mem_of_getElem? (i := 21) rfl)
theorem q_10_22 : Cond.code yX1_runOneTick cX1_runOneTick 2 (some .int) ∈ wsL_law := wsL_r10 _ (List.mem_of_getElem? (i := 22) rfl)
theorem q_10_23 : Cond.methodLink RX1 57 yX1_startAttempts ∈ wsL_law := wsL_r10 _ (List.mem_of_getElem? (i := 23) rfl)
theorem q_11_0 : Cond.instanceMethod yX1_startAttempts ∈ wsL_law := wsL_r11 _ (List.mem_of_getElem? (i := 0) rfl)
theorem q_11_1 : Cond.selects RX1 yX1_startAttempts yX1_startAttempts ∈ wsL_law := wsL_r11 _ (List.mem_of_getElem? (i := 1) rfl)
theorem q_11_2 : Cond.code yX1_startAttempts cX1_startAttempts 4 none ∈ wsL_law := wsL_r11 _ (List.mem_of_getElem? (i := 2) rfl)
theorem q_11_3 : Cond.fieldLink RX1 67 "SpeculativeScheduler$Nodes" "count" "I" ∈ wsL_law := wsL_r11 _ (List.mem_of_getElem? (i := 3) rfl)
theorem q_11_4 : Cond.methodLink RX1 70 yX2_hasFreeSlot ∈ wsL_law := wsL_r11 _ (List.mem_of_getElem? (i := 4) rfl)
theorem q_11_5 : Cond.instanceMethod yX2_hasFreeSlot ∈ wsL_law := wsL_r11 _ (List.mem_of_getElem? (i := 5) rfl)
theorem q_11_6 : Cond.selects RX2 yX2_hasFreeSlot yX2_hasFreeSlot ∈ wsL_law := wsL_r11 _ (List.mem_of_getElem? (i := 6) rfl)
theorem q_11_7 : Cond.code yX2_hasFreeSlot cX2_hasFreeSlot 2 (some .boolean) ∈ wsL_law := wsL_r11 _ (List.mem_of_getElem? (i := 7) rfl)
theorem q_11_8 : Cond.methodLink RX1 74 yX0_isFull ∈ wsL_law := wsL_r11 _ (List.mem_of_getElem? (i := 8) rfl)
theorem q_11_9 : Cond.instanceMethod yX0_isFull ∈ wsL_law := wsL_r11 _ (List.mem_of_getElem? (i := 9) rfl)
theorem q_11_10 : Cond.selects RX0 yX0_isFull yX0_isFull ∈ wsL_law := wsL_r11 _ (List.mem_of_getElem? (i := 10) rfl)
theorem q_11_11 : Cond.code yX0_isFull cX0_isFull 1 (some .boolean) ∈ wsL_law := wsL_r11 _ (List.mem_of_getElem? (i := 11) rfl)
theorem q_11_12 : Cond.methodLink RX1 78 yX4_firstWaiting ∈ wsL_law := wsL_r11 _ (List.mem_of_getElem? (i := 12) rfl)
theorem q_11_13 : Cond.instanceMethod yX4_firstWaiting ∈ wsL_law := wsL_r11 _ (List.mem_of_getElem? (i := 13) rfl)
theorem q_11_14 : Cond.selects RX4 yX4_firstWaiting yX4_firstWaiting ∈ wsL_law := wsL_r11 _ (List.mem_of_getElem? (i := 14) rfl)
theorem q_11_15 : Cond.code yX4_firstWaiting cX4_firstWaiting 2 (some .int) ∈ wsL_law := wsL_r11 _ (List.mem_of_getElem? (i := 15) rfl)
theorem q_11_16 : Cond.methodLink RX4 32 yX4_stateOf ∈ wsL_law := wsL_r11 _ (List.mem_of_getElem? (i := 16) rfl)
theorem q_11_17 : Cond.instanceMethod yX4_stateOf ∈ wsL_law := wsL_r11 _ (List.mem_of_getElem? (i := 17) rfl)
theorem q_11_18 : Cond.selects RX4 yX4_stateOf yX4_stateOf ∈ wsL_law := wsL_r11 _ (List.mem_of_getElem? (i := 18) rfl)
theorem q_11_19 : Cond.code yX4_stateOf cX4_stateOf 2 (some .int) ∈ wsL_law := wsL_r11 _ (List.mem_of_getElem? (i := 19) rfl)
theorem q_11_20 : Cond.methodLink RX1 81 yX1_taskToSpeculate ∈ wsL_law := wsL_r11 _ (List.mem_of_getElem? (i := 20) rfl)
theorem q_11_21 : Cond.instanceMethod yX1_taskToSpeculate ∈ wsL_law := wsL_r11 _ (List.mem_of_getElem? (i := 21) rfl)
theorem q_11_22 : Cond.selects RX1 yX1_taskToSpeculate yX1_taskToSpeculate ∈ wsL_law := wsL_r11 _ (List.mem_of_getElem? (i := 22) rfl)
theorem q_11_23 : Cond.code yX1_taskToSpeculate cX1_taskToSpeculate 3 (some .int) ∈ wsL_law := wsL_r11 _ (List.mem_of_getElem? (i := 23) rfl)
theorem q_12_0 : Cond.fieldLink RX1 92 "SpeculativeScheduler$Settings" "cap" "I" ∈ wsL_law := wsL_r12 _ (List.mem_of_getElem? (i := 0) rfl)
theorem q_12_1 : Cond.fieldLink RX1 95 "SpeculativeScheduler$Settings" "policy" "I" ∈ wsL_law := wsL_r12 _ (List.mem_of_getElem? (i := 1) rfl)
theorem q_12_2 : Cond.fieldLink RX1 98 "SpeculativeScheduler$Settings" "nodeThreshold" "I" ∈ wsL_law := wsL_r12 _ (List.mem_of_getElem? (i := 2) rfl)
theorem q_12_3 : Cond.methodLink RX1 89 yX0_countSpeculative ∈ wsL_law := wsL_r12 _ (List.mem_of_getElem? (i := 3) rfl)
theorem q_12_4 : Cond.instanceMethod yX0_countSpeculative ∈ wsL_law := wsL_r12 _ (List.mem_of_getElem? (i := 4) rfl)
theorem q_12_5 : Cond.selects RX0 yX0_countSpeculative yX0_countSpeculative ∈ wsL_law := wsL_r12 _ (List.mem_of_getElem? (i := 5) rfl)
theorem q_12_6 : Cond.code yX0_countSpeculative cX0_countSpeculative 3 (some .int) ∈ wsL_law := wsL_r12 _ (List.mem_of_getElem? (i := 6) rfl)
theorem q_12_7 : Cond.methodLink RX1 101 yX2_isSlow ∈ wsL_law := wsL_r12 _ (List.mem_of_getElem? (i := 7) rfl)
theorem q_12_8 : Cond.instanceMethod yX2_isSlow ∈ wsL_law := wsL_r12 _ (List.mem_of_getElem? (i := 8) rfl)
theorem q_12_9 : Cond.selects RX2 yX2_isSlow yX2_isSlow ∈ wsL_law := wsL_r12 _ (List.mem_of_getElem? (i := 9) rfl)
theorem q_12_10 : Cond.code yX2_isSlow cX2_isSlow 3 (some .boolean) ∈ wsL_law := wsL_r12 _ (List.mem_of_getElem? (i := 10) rfl)
theorem q_12_11 : Cond.methodLink RX2 39 yX2_score ∈ wsL_law := wsL_r12 _ (List.mem_of_getElem? (i := 11) rfl)
theorem q_12_12 : Cond.instanceMethod yX2_score ∈ wsL_law := wsL_r12 _ (List.mem_of_getElem? (i := 12) rfl)
theorem q_12_13 : Cond.selects RX2 yX2_score yX2_score ∈ wsL_law := wsL_r12 _ (List.mem_of_getElem? (i := 13) rfl)
theorem q_12_14 : Cond.code yX2_score cX2_score 2 (some .int) ∈ wsL_law := wsL_r12 _ (List.mem_of_getElem? (i := 14) rfl)
theorem q_12_15 : Cond.methodLink RX2 43 yX2_meanScore ∈ wsL_law := wsL_r12 _ (List.mem_of_getElem? (i := 15) rfl)
theorem q_12_16 : Cond.instanceMethod yX2_meanScore ∈ wsL_law := wsL_r12 _ (List.mem_of_getElem? (i := 16) rfl)
theorem q_12_17 : Cond.selects RX2 yX2_meanScore yX2_meanScore ∈ wsL_law := wsL_r12 _ (List.mem_of_getElem? (i := 17) rfl)
theorem q_12_18 : Cond.code yX2_meanScore cX2_meanScore 4 (some .int) ∈ wsL_law := wsL_r12 _ (List.mem_of_getElem? (i := 18) rfl)
theorem q_12_19 : Cond.methodLink RX1 105 yX1_findStraggler ∈ wsL_law := wsL_r12 _ (List.mem_of_getElem? (i := 19) rfl)
theorem q_12_20 : Cond.instanceMethod yX1_findStraggler ∈ wsL_law := wsL_r12 _ (List.mem_of_getElem? (i := 20) rfl)
theorem q_12_21 : Cond.selects RX1 yX1_findStraggler yX1_findStraggler ∈ wsL_law := wsL_r12 _ (List.mem_of_getElem? (i := 21) rfl)
theorem q_12_22 : Cond.code yX1_findStraggler cX1_findStraggler 1 (some .int) ∈ wsL_law := wsL_r12 _ (List.mem_of_getElem? (i := 22) rfl)
theorem q_12_23 : Cond.methodLink RX1 168 yX1_leastAdvanced ∈ wsL_law := wsL_r12 _ (List.mem_of_getElem? (i := 23) rfl)
theorem q_13_0 : Cond.instanceMethod yX1_leastAdvanced ∈ wsL_law := wsL_r13 _ (List.mem_of_getElem? (i := 0) rfl)
theorem q_13_1 : Cond.selects RX1 yX1_leastAdvanced yX1_leastAdvanced ∈ wsL_law := wsL_r13 _ (List.mem_of_getElem? (i := 1) rfl)
theorem q_13_2 : Cond.code yX1_leastAdvanced cX1_leastAdvanced 4 (some .int) ∈ wsL_law := wsL_r13 _ (List.mem_of_getElem? (i := 2) rfl)
theorem q_13_3 : Cond.fieldLink RX1 183 "SpeculativeScheduler$Attempts" "progress" "[I" ∈ wsL_law := wsL_r13 _ (List.mem_of_getElem? (i := 3) rfl)
theorem q_13_4 : Cond.methodLink RX1 180 yX1_isCandidate ∈ wsL_law := wsL_r13 _ (List.mem_of_getElem? (i := 4) rfl)
theorem q_13_5 : Cond.instanceMethod yX1_isCandidate ∈ wsL_law := wsL_r13 _ (List.mem_of_getElem? (i := 5) rfl)
theorem q_13_6 : Cond.selects RX1 yX1_isCandidate yX1_isCandidate ∈ wsL_law := wsL_r13 _ (List.mem_of_getElem? (i := 6) rfl)
theorem q_13_7 : Cond.code yX1_isCandidate cX1_isCandidate 2 (some .boolean) ∈ wsL_law := wsL_r13 _ (List.mem_of_getElem? (i := 7) rfl)
theorem q_13_8 : Cond.fieldLink RX1 174 "SpeculativeScheduler$Attempts" "age" "[I" ∈ wsL_law := wsL_r13 _ (List.mem_of_getElem? (i := 8) rfl)
theorem q_13_9 : Cond.fieldLink RX1 177 "SpeculativeScheduler$Settings" "minimumAge" "I" ∈ wsL_law := wsL_r13 _ (List.mem_of_getElem? (i := 9) rfl)
theorem q_13_10 : Cond.methodLink RX1 186 yX0_meanOfRunning ∈ wsL_law := wsL_r13 _ (List.mem_of_getElem? (i := 10) rfl)
theorem q_13_11 : Cond.instanceMethod yX0_meanOfRunning ∈ wsL_law := wsL_r13 _ (List.mem_of_getElem? (i := 11) rfl)
theorem q_13_12 : Cond.selects RX0 yX0_meanOfRunning yX0_meanOfRunning ∈ wsL_law := wsL_r13 _ (List.mem_of_getElem? (i := 12) rfl)
theorem q_13_13 : Cond.code yX0_meanOfRunning cX0_meanOfRunning 4 (some .int) ∈ wsL_law := wsL_r13 _ (List.mem_of_getElem? (i := 13) rfl)
theorem q_13_14 : Cond.methodLink RX1 171 yX1_longestToRun ∈ wsL_law := wsL_r13 _ (List.mem_of_getElem? (i := 14) rfl)
theorem q_13_15 : Cond.instanceMethod yX1_longestToRun ∈ wsL_law := wsL_r13 _ (List.mem_of_getElem? (i := 15) rfl)
theorem q_13_16 : Cond.selects RX1 yX1_longestToRun yX1_longestToRun ∈ wsL_law := wsL_r13 _ (List.mem_of_getElem? (i := 16) rfl)
theorem q_13_17 : Cond.code yX1_longestToRun cX1_longestToRun 6 (some .int) ∈ wsL_law := wsL_r13 _ (List.mem_of_getElem? (i := 17) rfl)
theorem q_13_18 : Cond.fieldLink RX1 190 "SpeculativeScheduler$Attempts" "rate" "[I" ∈ wsL_law := wsL_r13 _ (List.mem_of_getElem? (i := 18) rfl)
theorem q_13_19 : Cond.fieldLink RX1 193 "SpeculativeScheduler$Settings" "taskThreshold" "I" ∈ wsL_law := wsL_r13 _ (List.mem_of_getElem? (i := 19) rfl)
theorem q_13_20 : Cond.methodLink RX1 196 yX0_remaining ∈ wsL_law := wsL_r13 _ (List.mem_of_getElem? (i := 20) rfl)
theorem q_13_21 : Cond.instanceMethod yX0_remaining ∈ wsL_law := wsL_r13 _ (List.mem_of_getElem? (i := 21) rfl)
theorem q_13_22 : Cond.selects RX0 yX0_remaining yX0_remaining ∈ wsL_law := wsL_r13 _ (List.mem_of_getElem? (i := 22) rfl)
theorem q_13_23 : Cond.code yX0_remaining cX0_remaining 3 (some .int) ∈ wsL_law := wsL_r13 _ (List.mem_of_getElem? (i := 23) rfl)
theorem q_14_0 : Cond.constant RX0 57 (1000000) ∈ wsL_law := wsL_r14 _ (List.mem_of_getElem? (i := 0) rfl)
theorem q_14_1 : Cond.methodLink RX1 85 yX1_start ∈ wsL_law := wsL_r14 _ (List.mem_of_getElem? (i := 1) rfl)
theorem q_14_2 : Cond.instanceMethod yX1_start ∈ wsL_law := wsL_r14 _ (List.mem_of_getElem? (i := 2) rfl)
theorem q_14_3 : Cond.selects RX1 yX1_start yX1_start ∈ wsL_law := wsL_r14 _ (List.mem_of_getElem? (i := 3) rfl)
theorem q_14_4 : Cond.code yX1_start cX1_start 3 none ∈ wsL_law := wsL_r14 _ (List.mem_of_getElem? (i := 4) rfl)
theorem q_14_5 : Cond.methodLink RX1 118 yX0_add ∈ wsL_law := wsL_r14 _ (List.mem_of_getElem? (i := 5) rfl)
theorem q_14_6 : Cond.instanceMethod yX0_add ∈ wsL_law := wsL_r14 _ (List.mem_of_getElem? (i := 6) rfl)
theorem q_14_7 : Cond.selects RX0 yX0_add yX0_add ∈ wsL_law := wsL_r14 _ (List.mem_of_getElem? (i := 7) rfl)
theorem q_14_8 : Cond.code yX0_add cX0_add 5 none ∈ wsL_law := wsL_r14 _ (List.mem_of_getElem? (i := 8) rfl)
theorem q_14_9 : Cond.methodLink RX0 47 yX0_isFull ∈ wsL_law := wsL_r14 _ (List.mem_of_getElem? (i := 9) rfl)
theorem q_14_10 : Cond.methodLink RX1 60 yX1_doWork ∈ wsL_law := wsL_r14 _ (List.mem_of_getElem? (i := 10) rfl)
theorem q_14_11 : Cond.instanceMethod yX1_doWork ∈ wsL_law := wsL_r14 _ (List.mem_of_getElem? (i := 11) rfl)
theorem q_14_12 : Cond.selects RX1 yX1_doWork yX1_doWork ∈ wsL_law := wsL_r14 _ (List.mem_of_getElem? (i := 12) rfl)
theorem q_14_13 : Cond.code yX1_doWork cX1_doWork 4 none ∈ wsL_law := wsL_r14 _ (List.mem_of_getElem? (i := 13) rfl)
theorem q_14_14 : Cond.fieldLink RX1 131 "SpeculativeScheduler$Nodes" "speed" "[I" ∈ wsL_law := wsL_r14 _ (List.mem_of_getElem? (i := 14) rfl)
theorem q_14_15 : Cond.fieldLink RX1 134 "SpeculativeScheduler$Tasks" "work" "[I" ∈ wsL_law := wsL_r14 _ (List.mem_of_getElem? (i := 15) rfl)
theorem q_14_16 : Cond.fieldLink RX1 141 "SpeculativeScheduler$Nodes" "ageSum" "[I" ∈ wsL_law := wsL_r14 _ (List.mem_of_getElem? (i := 16) rfl)
theorem q_14_17 : Cond.fieldLink RX1 144 "SpeculativeScheduler$Nodes" "workSum" "[I" ∈ wsL_law := wsL_r14 _ (List.mem_of_getElem? (i := 17) rfl)
theorem q_14_18 : Cond.methodLink RX1 137 yX0_grow ∈ wsL_law := wsL_r14 _ (List.mem_of_getElem? (i := 18) rfl)
theorem q_14_19 : Cond.instanceMethod yX0_grow ∈ wsL_law := wsL_r14 _ (List.mem_of_getElem? (i := 19) rfl)
theorem q_14_20 : Cond.selects RX0 yX0_grow yX0_grow ∈ wsL_law := wsL_r14 _ (List.mem_of_getElem? (i := 20) rfl)
theorem q_14_21 : Cond.code yX0_grow cX0_grow 5 none ∈ wsL_law := wsL_r14 _ (List.mem_of_getElem? (i := 21) rfl)
theorem q_14_22 : Cond.methodLink RX0 51 Lib.Math.min.name ∈ wsL_law := wsL_r14 _ (List.mem_of_getElem? (i := 22) rfl)
theorem q_14_23 : Cond.static Lib.Math.min.name ∈ wsL_law := wsL_r14 _ (List.mem_of_getElem? (i := 23) rfl)
theorem q_15_0 : Cond.initialized "java/lang/Math" ∈ wsL_law := wsL_r15 _ (List.mem_of_getElem? (i := 0) rfl)
theorem q_15_1 : Cond.code Lib.Math.min.name Lib.Math.min.code 2 (some .int) ∈ wsL_law := wsL_r15 _ (List.mem_of_getElem? (i := 1) rfl)
theorem q_15_2 : Cond.methodLink RX1 63 yX1_commitFinished ∈ wsL_law := wsL_r15 _ (List.mem_of_getElem? (i := 2) rfl)
theorem q_15_3 : Cond.instanceMethod yX1_commitFinished ∈ wsL_law := wsL_r15 _ (List.mem_of_getElem? (i := 3) rfl)
theorem q_15_4 : Cond.selects RX1 yX1_commitFinished yX1_commitFinished ∈ wsL_law := wsL_r15 _ (List.mem_of_getElem? (i := 4) rfl)
theorem q_15_5 : Cond.code yX1_commitFinished cX1_commitFinished 6 (some .int) ∈ wsL_law := wsL_r15 _ (List.mem_of_getElem? (i := 5) rfl)
theorem q_15_6 : Cond.fieldLink RX1 150 "SpeculativeScheduler$Attempts" "done" "[I" ∈ wsL_law := wsL_r15 _ (List.mem_of_getElem? (i := 6) rfl)
theorem q_15_7 : Cond.methodLink RX1 153 yX1_commit ∈ wsL_law := wsL_r15 _ (List.mem_of_getElem? (i := 7) rfl)
theorem q_15_8 : Cond.instanceMethod yX1_commit ∈ wsL_law := wsL_r15 _ (List.mem_of_getElem? (i := 8) rfl)
theorem q_15_9 : Cond.selects RX1 yX1_commit yX1_commit ∈ wsL_law := wsL_r15 _ (List.mem_of_getElem? (i := 9) rfl)
theorem q_15_10 : Cond.code yX1_commit cX1_commit 5 none ∈ wsL_law := wsL_r15 _ (List.mem_of_getElem? (i := 10) rfl)
theorem q_15_11 : Cond.fieldLink RX1 162 "SpeculativeScheduler$Tasks" "committed" "[I" ∈ wsL_law := wsL_r15 _ (List.mem_of_getElem? (i := 11) rfl)
theorem q_15_12 : Cond.fieldLink RX1 165 "SpeculativeScheduler$Tasks" "finish" "[I" ∈ wsL_law := wsL_r15 _ (List.mem_of_getElem? (i := 12) rfl)
theorem q_15_13 : Cond.methodLink RL 50 yX6_tick ∈ wsL_law := wsL_r15 _ (List.mem_of_getElem? (i := 13) rfl)
theorem q_15_14 : Cond.instanceMethod yX6_tick ∈ wsL_law := wsL_r15 _ (List.mem_of_getElem? (i := 14) rfl)
theorem q_15_15 : Cond.selects RX6 yX6_tick yX6_tick ∈ wsL_law := wsL_r15 _ (List.mem_of_getElem? (i := 15) rfl)
theorem q_15_16 : Cond.code yX6_tick cX6_tick 4 (some .int) ∈ wsL_law := wsL_r15 _ (List.mem_of_getElem? (i := 16) rfl)
theorem q_15_17 : Cond.methodLink RX6 178 yX6_passes ∈ wsL_law := wsL_r15 _ (List.mem_of_getElem? (i := 17) rfl)
theorem q_15_18 : Cond.instanceMethod yX6_passes ∈ wsL_law := wsL_r15 _ (List.mem_of_getElem? (i := 18) rfl)
theorem q_15_19 : Cond.selects RX6 yX6_passes yX6_passes ∈ wsL_law := wsL_r15 _ (List.mem_of_getElem? (i := 19) rfl)
theorem q_15_20 : Cond.code yX6_passes cX6_passes 4 (some .int) ∈ wsL_law := wsL_r15 _ (List.mem_of_getElem? (i := 20) rfl)
theorem q_15_21 : Cond.methodLink RX6 165 yX6_hasSlot ∈ wsL_law := wsL_r15 _ (List.mem_of_getElem? (i := 21) rfl)
theorem q_15_22 : Cond.instanceMethod yX6_hasSlot ∈ wsL_law := wsL_r15 _ (List.mem_of_getElem? (i := 22) rfl)
theorem q_15_23 : Cond.selects RX6 yX6_hasSlot yX6_hasSlot ∈ wsL_law := wsL_r15 _ (List.mem_of_getElem? (i := 23) rfl)
theorem q_16_0 : Cond.code yX6_hasSlot cX6_hasSlot 2 (some .boolean) ∈ wsL_law := wsL_r16 _ (List.mem_of_getElem? (i := 0) rfl)
theorem q_16_1 : Cond.methodLink RX6 168 yX6_startsOn ∈ wsL_law := wsL_r16 _ (List.mem_of_getElem? (i := 1) rfl)
theorem q_16_2 : Cond.instanceMethod yX6_startsOn ∈ wsL_law := wsL_r16 _ (List.mem_of_getElem? (i := 2) rfl)
theorem q_16_3 : Cond.selects RX6 yX6_startsOn yX6_startsOn ∈ wsL_law := wsL_r16 _ (List.mem_of_getElem? (i := 3) rfl)
theorem q_16_4 : Cond.code yX6_startsOn cX6_startsOn 6 (some .boolean) ∈ wsL_law := wsL_r16 _ (List.mem_of_getElem? (i := 4) rfl)
theorem q_16_5 : Cond.methodLink RX6 146 yX6_firstWaiting ∈ wsL_law := wsL_r16 _ (List.mem_of_getElem? (i := 5) rfl)
theorem q_16_6 : Cond.instanceMethod yX6_firstWaiting ∈ wsL_law := wsL_r16 _ (List.mem_of_getElem? (i := 6) rfl)
theorem q_16_7 : Cond.selects RX6 yX6_firstWaiting yX6_firstWaiting ∈ wsL_law := wsL_r16 _ (List.mem_of_getElem? (i := 7) rfl)
theorem q_16_8 : Cond.code yX6_firstWaiting cX6_firstWaiting 2 (some .int) ∈ wsL_law := wsL_r16 _ (List.mem_of_getElem? (i := 8) rfl)
theorem q_16_9 : Cond.methodLink RX6 143 yX6_stateOfTask ∈ wsL_law := wsL_r16 _ (List.mem_of_getElem? (i := 9) rfl)
theorem q_16_10 : Cond.instanceMethod yX6_stateOfTask ∈ wsL_law := wsL_r16 _ (List.mem_of_getElem? (i := 10) rfl)
theorem q_16_11 : Cond.selects RX6 yX6_stateOfTask yX6_stateOfTask ∈ wsL_law := wsL_r16 _ (List.mem_of_getElem? (i := 11) rfl)
theorem q_16_12 : Cond.code yX6_stateOfTask cX6_stateOfTask 3 (some .int) ∈ wsL_law := wsL_r16 _ (List.mem_of_getElem? (i := 12) rfl)
theorem q_16_13 : Cond.methodLink RX6 149 yX6_stragglerBy ∈ wsL_law := wsL_r16 _ (List.mem_of_getElem? (i := 13) rfl)
theorem q_16_14 : Cond.instanceMethod yX6_stragglerBy ∈ wsL_law := wsL_r16 _ (List.mem_of_getElem? (i := 14) rfl)
theorem q_16_15 : Cond.selects RX6 yX6_stragglerBy yX6_stragglerBy ∈ wsL_law := wsL_r16 _ (List.mem_of_getElem? (i := 15) rfl)
theorem q_16_16 : Cond.code yX6_stragglerBy cX6_stragglerBy 2 (some .int) ∈ wsL_law := wsL_r16 _ (List.mem_of_getElem? (i := 16) rfl)
theorem q_16_17 : Cond.methodLink RX6 137 yX6_naiveStraggler ∈ wsL_law := wsL_r16 _ (List.mem_of_getElem? (i := 17) rfl)
theorem q_16_18 : Cond.instanceMethod yX6_naiveStraggler ∈ wsL_law := wsL_r16 _ (List.mem_of_getElem? (i := 18) rfl)
theorem q_16_19 : Cond.selects RX6 yX6_naiveStraggler yX6_naiveStraggler ∈ wsL_law := wsL_r16 _ (List.mem_of_getElem? (i := 19) rfl)
theorem q_16_20 : Cond.code yX6_naiveStraggler cX6_naiveStraggler 3 (some .int) ∈ wsL_law := wsL_r16 _ (List.mem_of_getElem? (i := 20) rfl)
theorem q_16_21 : Cond.methodLink RX6 109 yX6_first ∈ wsL_law := wsL_r16 _ (List.mem_of_getElem? (i := 21) rfl)
theorem q_16_22 : Cond.instanceMethod yX6_first ∈ wsL_law := wsL_r16 _ (List.mem_of_getElem? (i := 22) rfl)
theorem q_16_23 : Cond.selects RX6 yX6_first yX6_first ∈ wsL_law := wsL_r16 _ (List.mem_of_getElem? (i := 23) rfl)
theorem q_17_0 : Cond.code yX6_first cX6_first 1 (some .int) ∈ wsL_law := wsL_r17 _ (List.mem_of_getElem? (i := 0) rfl)
theorem q_17_1 : Cond.methodLink RX6 113 yX6_last ∈ wsL_law := wsL_r17 _ (List.mem_of_getElem? (i := 1) rfl)
theorem q_17_2 : Cond.instanceMethod yX6_last ∈ wsL_law := wsL_r17 _ (List.mem_of_getElem? (i := 2) rfl)
theorem q_17_3 : Cond.selects RX6 yX6_last yX6_last ∈ wsL_law := wsL_r17 _ (List.mem_of_getElem? (i := 3) rfl)
theorem q_17_4 : Cond.code yX6_last cX6_last 1 (some .int) ∈ wsL_law := wsL_r17 _ (List.mem_of_getElem? (i := 4) rfl)
theorem q_17_5 : Cond.methodLink RX6 125 yX6_isCandidate ∈ wsL_law := wsL_r17 _ (List.mem_of_getElem? (i := 5) rfl)
theorem q_17_6 : Cond.instanceMethod yX6_isCandidate ∈ wsL_law := wsL_r17 _ (List.mem_of_getElem? (i := 6) rfl)
theorem q_17_7 : Cond.selects RX6 yX6_isCandidate yX6_isCandidate ∈ wsL_law := wsL_r17 _ (List.mem_of_getElem? (i := 7) rfl)
theorem q_17_8 : Cond.code yX6_isCandidate cX6_isCandidate 2 (some .boolean) ∈ wsL_law := wsL_r17 _ (List.mem_of_getElem? (i := 8) rfl)
theorem q_17_9 : Cond.methodLink RX6 102 yX6_progressOf ∈ wsL_law := wsL_r17 _ (List.mem_of_getElem? (i := 9) rfl)
theorem q_17_10 : Cond.instanceMethod yX6_progressOf ∈ wsL_law := wsL_r17 _ (List.mem_of_getElem? (i := 10) rfl)
theorem q_17_11 : Cond.selects RX6 yX6_progressOf yX6_progressOf ∈ wsL_law := wsL_r17 _ (List.mem_of_getElem? (i := 11) rfl)
theorem q_17_12 : Cond.code yX6_progressOf cX6_progressOf 3 (some .int) ∈ wsL_law := wsL_r17 _ (List.mem_of_getElem? (i := 12) rfl)
theorem q_17_13 : Cond.methodLink RX6 128 yX6_meanProgress ∈ wsL_law := wsL_r17 _ (List.mem_of_getElem? (i := 13) rfl)
theorem q_17_14 : Cond.instanceMethod yX6_meanProgress ∈ wsL_law := wsL_r17 _ (List.mem_of_getElem? (i := 14) rfl)
theorem q_17_15 : Cond.selects RX6 yX6_meanProgress yX6_meanProgress ∈ wsL_law := wsL_r17 _ (List.mem_of_getElem? (i := 15) rfl)
theorem q_17_16 : Cond.code yX6_meanProgress cX6_meanProgress 4 (some .int) ∈ wsL_law := wsL_r17 _ (List.mem_of_getElem? (i := 16) rfl)
theorem q_17_17 : Cond.methodLink RX6 140 yX6_lateStraggler ∈ wsL_law := wsL_r17 _ (List.mem_of_getElem? (i := 17) rfl)
theorem q_17_18 : Cond.instanceMethod yX6_lateStraggler ∈ wsL_law := wsL_r17 _ (List.mem_of_getElem? (i := 18) rfl)
theorem q_17_19 : Cond.selects RX6 yX6_lateStraggler yX6_lateStraggler ∈ wsL_law := wsL_r17 _ (List.mem_of_getElem? (i := 19) rfl)
theorem q_17_20 : Cond.code yX6_lateStraggler cX6_lateStraggler 5 (some .int) ∈ wsL_law := wsL_r17 _ (List.mem_of_getElem? (i := 20) rfl)
theorem q_17_21 : Cond.methodLink RX6 131 yX6_meanRate ∈ wsL_law := wsL_r17 _ (List.mem_of_getElem? (i := 21) rfl)
theorem q_17_22 : Cond.instanceMethod yX6_meanRate ∈ wsL_law := wsL_r17 _ (List.mem_of_getElem? (i := 22) rfl)
theorem q_17_23 : Cond.selects RX6 yX6_meanRate yX6_meanRate ∈ wsL_law := wsL_r17 _ (List.mem_of_getElem? (i := 23) rfl)
theorem q_18_0 : Cond.code yX6_meanRate cX6_meanRate 4 (some .int) ∈ wsL_law := wsL_r18 _ (List.mem_of_getElem? (i := 0) rfl)
theorem q_18_1 : Cond.methodLink RX6 116 yX6_rateOf ∈ wsL_law := wsL_r18 _ (List.mem_of_getElem? (i := 1) rfl)
theorem q_18_2 : Cond.instanceMethod yX6_rateOf ∈ wsL_law := wsL_r18 _ (List.mem_of_getElem? (i := 2) rfl)
theorem q_18_3 : Cond.selects RX6 yX6_rateOf yX6_rateOf ∈ wsL_law := wsL_r18 _ (List.mem_of_getElem? (i := 3) rfl)
theorem q_18_4 : Cond.code yX6_rateOf cX6_rateOf 2 (some .int) ∈ wsL_law := wsL_r18 _ (List.mem_of_getElem? (i := 4) rfl)
theorem q_18_5 : Cond.methodLink RX6 134 yX6_remainingOf ∈ wsL_law := wsL_r18 _ (List.mem_of_getElem? (i := 5) rfl)
theorem q_18_6 : Cond.instanceMethod yX6_remainingOf ∈ wsL_law := wsL_r18 _ (List.mem_of_getElem? (i := 6) rfl)
theorem q_18_7 : Cond.selects RX6 yX6_remainingOf yX6_remainingOf ∈ wsL_law := wsL_r18 _ (List.mem_of_getElem? (i := 7) rfl)
theorem q_18_8 : Cond.code yX6_remainingOf cX6_remainingOf 3 (some .int) ∈ wsL_law := wsL_r18 _ (List.mem_of_getElem? (i := 8) rfl)
theorem q_18_9 : Cond.constant RX6 106 (1000000) ∈ wsL_law := wsL_r18 _ (List.mem_of_getElem? (i := 9) rfl)
theorem q_18_10 : Cond.constantLong RX6 107 (1000) ∈ wsL_law := wsL_r18 _ (List.mem_of_getElem? (i := 10) rfl)
theorem q_18_11 : Cond.methodLink RX6 152 yX6_speculative ∈ wsL_law := wsL_r18 _ (List.mem_of_getElem? (i := 11) rfl)
theorem q_18_12 : Cond.instanceMethod yX6_speculative ∈ wsL_law := wsL_r18 _ (List.mem_of_getElem? (i := 12) rfl)
theorem q_18_13 : Cond.selects RX6 yX6_speculative yX6_speculative ∈ wsL_law := wsL_r18 _ (List.mem_of_getElem? (i := 13) rfl)
theorem q_18_14 : Cond.code yX6_speculative cX6_speculative 3 (some .int) ∈ wsL_law := wsL_r18 _ (List.mem_of_getElem? (i := 14) rfl)
theorem q_18_15 : Cond.methodLink RX6 155 yX6_isSlow ∈ wsL_law := wsL_r18 _ (List.mem_of_getElem? (i := 15) rfl)
theorem q_18_16 : Cond.instanceMethod yX6_isSlow ∈ wsL_law := wsL_r18 _ (List.mem_of_getElem? (i := 16) rfl)
theorem q_18_17 : Cond.selects RX6 yX6_isSlow yX6_isSlow ∈ wsL_law := wsL_r18 _ (List.mem_of_getElem? (i := 17) rfl)
theorem q_18_18 : Cond.code yX6_isSlow cX6_isSlow 2 (some .boolean) ∈ wsL_law := wsL_r18 _ (List.mem_of_getElem? (i := 18) rfl)
theorem q_18_19 : Cond.methodLink RX6 119 yX6_scoreOf ∈ wsL_law := wsL_r18 _ (List.mem_of_getElem? (i := 19) rfl)
theorem q_18_20 : Cond.instanceMethod yX6_scoreOf ∈ wsL_law := wsL_r18 _ (List.mem_of_getElem? (i := 20) rfl)
theorem q_18_21 : Cond.selects RX6 yX6_scoreOf yX6_scoreOf ∈ wsL_law := wsL_r18 _ (List.mem_of_getElem? (i := 21) rfl)
theorem q_18_22 : Cond.code yX6_scoreOf cX6_scoreOf 3 (some .int) ∈ wsL_law := wsL_r18 _ (List.mem_of_getElem? (i := 22) rfl)
theorem q_18_23 : Cond.methodLink RX6 122 yX6_meanScore ∈ wsL_law := wsL_r18 _ (List.mem_of_getElem? (i := 23) rfl)
theorem q_19_0 : Cond.instanceMethod yX6_meanScore ∈ wsL_law := wsL_r19 _ (List.mem_of_getElem? (i := 0) rfl)
theorem q_19_1 : Cond.selects RX6 yX6_meanScore yX6_meanScore ∈ wsL_law := wsL_r19 _ (List.mem_of_getElem? (i := 1) rfl)
theorem q_19_2 : Cond.code yX6_meanScore cX6_meanScore 4 (some .int) ∈ wsL_law := wsL_r19 _ (List.mem_of_getElem? (i := 2) rfl)
theorem q_19_3 : Cond.methodLink RX6 158 yX6_starts ∈ wsL_law := wsL_r19 _ (List.mem_of_getElem? (i := 3) rfl)
theorem q_19_4 : Cond.instanceMethod yX6_starts ∈ wsL_law := wsL_r19 _ (List.mem_of_getElem? (i := 4) rfl)
theorem q_19_5 : Cond.selects RX6 yX6_starts yX6_starts ∈ wsL_law := wsL_r19 _ (List.mem_of_getElem? (i := 5) rfl)
theorem q_19_6 : Cond.code yX6_starts cX6_starts 4 none ∈ wsL_law := wsL_r19 _ (List.mem_of_getElem? (i := 6) rfl)
theorem q_19_7 : Cond.methodLink RX6 172 yX6_works ∈ wsL_law := wsL_r19 _ (List.mem_of_getElem? (i := 7) rfl)
theorem q_19_8 : Cond.instanceMethod yX6_works ∈ wsL_law := wsL_r19 _ (List.mem_of_getElem? (i := 8) rfl)
theorem q_19_9 : Cond.selects RX6 yX6_works yX6_works ∈ wsL_law := wsL_r19 _ (List.mem_of_getElem? (i := 9) rfl)
theorem q_19_10 : Cond.code yX6_works cX6_works 3 none ∈ wsL_law := wsL_r19 _ (List.mem_of_getElem? (i := 10) rfl)
theorem q_19_11 : Cond.methodLink RX6 175 yX6_commits ∈ wsL_law := wsL_r19 _ (List.mem_of_getElem? (i := 11) rfl)
theorem q_19_12 : Cond.instanceMethod yX6_commits ∈ wsL_law := wsL_r19 _ (List.mem_of_getElem? (i := 12) rfl)
theorem q_19_13 : Cond.selects RX6 yX6_commits yX6_commits ∈ wsL_law := wsL_r19 _ (List.mem_of_getElem? (i := 13) rfl)
theorem q_19_14 : Cond.code yX6_commits cX6_commits 3 (some .int) ∈ wsL_law := wsL_r19 _ (List.mem_of_getElem? (i := 14) rfl)
theorem q_19_15 : Cond.methodLink RX6 161 yX6_killsOther ∈ wsL_law := wsL_r19 _ (List.mem_of_getElem? (i := 15) rfl)
theorem q_19_16 : Cond.instanceMethod yX6_killsOther ∈ wsL_law := wsL_r19 _ (List.mem_of_getElem? (i := 16) rfl)
theorem q_19_17 : Cond.selects RX6 yX6_killsOther yX6_killsOther ∈ wsL_law := wsL_r19 _ (List.mem_of_getElem? (i := 17) rfl)
theorem q_19_18 : Cond.code yX6_killsOther cX6_killsOther 3 none ∈ wsL_law := wsL_r19 _ (List.mem_of_getElem? (i := 18) rfl)
theorem q_19_19 : Cond.methodLink RL 51 yX5_time ∈ wsL_law := wsL_r19 _ (List.mem_of_getElem? (i := 19) rfl)
theorem q_19_20 : Cond.instanceMethod yX5_time ∈ wsL_law := wsL_r19 _ (List.mem_of_getElem? (i := 20) rfl)
theorem q_19_21 : Cond.selects RX5 yX5_time yX5_time ∈ wsL_law := wsL_r19 _ (List.mem_of_getElem? (i := 21) rfl)
theorem q_19_22 : Cond.code yX5_time cX5_time 1 (some .int) ∈ wsL_law := wsL_r19 _ (List.mem_of_getElem? (i := 22) rfl)
theorem q_19_23 : Cond.fieldLink RX5 86 "SpeculativeScheduler$Cluster" "now" "I" ∈ wsL_law := wsL_r19 _ (List.mem_of_getElem? (i := 23) rfl)
theorem q_20_0 : Cond.methodLink RL 55 yX6_time ∈ wsL_law := wsL_r20 _ (List.mem_of_getElem? (i := 0) rfl)
theorem q_20_1 : Cond.instanceMethod yX6_time ∈ wsL_law := wsL_r20 _ (List.mem_of_getElem? (i := 1) rfl)
theorem q_20_2 : Cond.selects RX6 yX6_time yX6_time ∈ wsL_law := wsL_r20 _ (List.mem_of_getElem? (i := 2) rfl)
theorem q_20_3 : Cond.code yX6_time cX6_time 1 (some .int) ∈ wsL_law := wsL_r20 _ (List.mem_of_getElem? (i := 3) rfl)
theorem q_20_4 : Cond.methodLink RL 56 yX5_taskState ∈ wsL_law := wsL_r20 _ (List.mem_of_getElem? (i := 4) rfl)
theorem q_20_5 : Cond.instanceMethod yX5_taskState ∈ wsL_law := wsL_r20 _ (List.mem_of_getElem? (i := 5) rfl)
theorem q_20_6 : Cond.selects RX5 yX5_taskState yX5_taskState ∈ wsL_law := wsL_r20 _ (List.mem_of_getElem? (i := 6) rfl)
theorem q_20_7 : Cond.code yX5_taskState cX5_taskState 2 (some .int) ∈ wsL_law := wsL_r20 _ (List.mem_of_getElem? (i := 7) rfl)
theorem q_20_8 : Cond.methodLink RX5 89 yX4_has ∈ wsL_law := wsL_r20 _ (List.mem_of_getElem? (i := 8) rfl)
theorem q_20_9 : Cond.instanceMethod yX4_has ∈ wsL_law := wsL_r20 _ (List.mem_of_getElem? (i := 9) rfl)
theorem q_20_10 : Cond.selects RX4 yX4_has yX4_has ∈ wsL_law := wsL_r20 _ (List.mem_of_getElem? (i := 10) rfl)
theorem q_20_11 : Cond.code yX4_has cX4_has 2 (some .boolean) ∈ wsL_law := wsL_r20 _ (List.mem_of_getElem? (i := 11) rfl)
theorem q_20_12 : Cond.methodLink RX5 90 yX4_stateOf ∈ wsL_law := wsL_r20 _ (List.mem_of_getElem? (i := 12) rfl)
theorem q_20_13 : Cond.methodLink RL 59 yX6_taskState ∈ wsL_law := wsL_r20 _ (List.mem_of_getElem? (i := 13) rfl)
theorem q_20_14 : Cond.instanceMethod yX6_taskState ∈ wsL_law := wsL_r20 _ (List.mem_of_getElem? (i := 14) rfl)
theorem q_20_15 : Cond.selects RX6 yX6_taskState yX6_taskState ∈ wsL_law := wsL_r20 _ (List.mem_of_getElem? (i := 15) rfl)
theorem q_20_16 : Cond.code yX6_taskState cX6_taskState 2 (some .int) ∈ wsL_law := wsL_r20 _ (List.mem_of_getElem? (i := 16) rfl)
theorem q_20_17 : Cond.methodLink RX6 181 yX6_isTask ∈ wsL_law := wsL_r20 _ (List.mem_of_getElem? (i := 17) rfl)
theorem q_20_18 : Cond.instanceMethod yX6_isTask ∈ wsL_law := wsL_r20 _ (List.mem_of_getElem? (i := 18) rfl)
theorem q_20_19 : Cond.selects RX6 yX6_isTask yX6_isTask ∈ wsL_law := wsL_r20 _ (List.mem_of_getElem? (i := 19) rfl)
theorem q_20_20 : Cond.code yX6_isTask cX6_isTask 2 (some .boolean) ∈ wsL_law := wsL_r20 _ (List.mem_of_getElem? (i := 20) rfl)
theorem q_20_21 : Cond.methodLink RL 60 yX5_committedAttempt ∈ wsL_law := wsL_r20 _ (List.mem_of_getElem? (i := 21) rfl)
theorem q_20_22 : Cond.instanceMethod yX5_committedAttempt ∈ wsL_law := wsL_r20 _ (List.mem_of_getElem? (i := 22) rfl)
theorem q_20_23 : Cond.selects RX5 yX5_committedAttempt yX5_committedAttempt ∈ wsL_law := wsL_r20 _ (List.mem_of_getElem? (i := 23) rfl)
theorem q_21_0 : Cond.code yX5_committedAttempt cX5_committedAttempt 2 (some .int) ∈ wsL_law := wsL_r21 _ (List.mem_of_getElem? (i := 0) rfl)
theorem q_21_1 : Cond.fieldLink RX5 93 "SpeculativeScheduler$Tasks" "committed" "[I" ∈ wsL_law := wsL_r21 _ (List.mem_of_getElem? (i := 1) rfl)
theorem q_21_2 : Cond.methodLink RL 63 yX6_committedAttempt ∈ wsL_law := wsL_r21 _ (List.mem_of_getElem? (i := 2) rfl)
theorem q_21_3 : Cond.instanceMethod yX6_committedAttempt ∈ wsL_law := wsL_r21 _ (List.mem_of_getElem? (i := 3) rfl)
theorem q_21_4 : Cond.selects RX6 yX6_committedAttempt yX6_committedAttempt ∈ wsL_law := wsL_r21 _ (List.mem_of_getElem? (i := 4) rfl)
theorem q_21_5 : Cond.code yX6_committedAttempt cX6_committedAttempt 2 (some .int) ∈ wsL_law := wsL_r21 _ (List.mem_of_getElem? (i := 5) rfl)
theorem q_21_6 : Cond.methodLink RL 64 yX5_finishTime ∈ wsL_law := wsL_r21 _ (List.mem_of_getElem? (i := 6) rfl)
theorem q_21_7 : Cond.instanceMethod yX5_finishTime ∈ wsL_law := wsL_r21 _ (List.mem_of_getElem? (i := 7) rfl)
theorem q_21_8 : Cond.selects RX5 yX5_finishTime yX5_finishTime ∈ wsL_law := wsL_r21 _ (List.mem_of_getElem? (i := 8) rfl)
theorem q_21_9 : Cond.code yX5_finishTime cX5_finishTime 2 (some .int) ∈ wsL_law := wsL_r21 _ (List.mem_of_getElem? (i := 9) rfl)
theorem q_21_10 : Cond.fieldLink RX5 96 "SpeculativeScheduler$Tasks" "finish" "[I" ∈ wsL_law := wsL_r21 _ (List.mem_of_getElem? (i := 10) rfl)
theorem q_21_11 : Cond.methodLink RL 67 yX6_finishTime ∈ wsL_law := wsL_r21 _ (List.mem_of_getElem? (i := 11) rfl)
theorem q_21_12 : Cond.instanceMethod yX6_finishTime ∈ wsL_law := wsL_r21 _ (List.mem_of_getElem? (i := 12) rfl)
theorem q_21_13 : Cond.selects RX6 yX6_finishTime yX6_finishTime ∈ wsL_law := wsL_r21 _ (List.mem_of_getElem? (i := 13) rfl)
theorem q_21_14 : Cond.code yX6_finishTime cX6_finishTime 2 (some .int) ∈ wsL_law := wsL_r21 _ (List.mem_of_getElem? (i := 14) rfl)
theorem q_21_15 : Cond.methodLink RL 68 yX5_makespan ∈ wsL_law := wsL_r21 _ (List.mem_of_getElem? (i := 15) rfl)
theorem q_21_16 : Cond.instanceMethod yX5_makespan ∈ wsL_law := wsL_r21 _ (List.mem_of_getElem? (i := 16) rfl)
theorem q_21_17 : Cond.selects RX5 yX5_makespan yX5_makespan ∈ wsL_law := wsL_r21 _ (List.mem_of_getElem? (i := 17) rfl)
theorem q_21_18 : Cond.code yX5_makespan cX5_makespan 1 (some .int) ∈ wsL_law := wsL_r21 _ (List.mem_of_getElem? (i := 18) rfl)
theorem q_21_19 : Cond.methodLink RX5 99 yX4_lastFinish ∈ wsL_law := wsL_r21 _ (List.mem_of_getElem? (i := 19) rfl)
theorem q_21_20 : Cond.instanceMethod yX4_lastFinish ∈ wsL_law := wsL_r21 _ (List.mem_of_getElem? (i := 20) rfl)
theorem q_21_21 : Cond.selects RX4 yX4_lastFinish yX4_lastFinish ∈ wsL_law := wsL_r21 _ (List.mem_of_getElem? (i := 21) rfl)
theorem q_21_22 : Cond.code yX4_lastFinish cX4_lastFinish 3 (some .int) ∈ wsL_law := wsL_r21 _ (List.mem_of_getElem? (i := 22) rfl)
theorem q_21_23 : Cond.methodLink RX4 35 Lib.Math.max.name ∈ wsL_law := wsL_r21 _ (List.mem_of_getElem? (i := 23) rfl)
theorem q_22_0 : Cond.static Lib.Math.max.name ∈ wsL_law := wsL_r22 _ (List.mem_of_getElem? (i := 0) rfl)
theorem q_22_1 : Cond.code Lib.Math.max.name Lib.Math.max.code 2 (some .int) ∈ wsL_law := wsL_r22 _ (List.mem_of_getElem? (i := 1) rfl)
theorem q_22_2 : Cond.methodLink RL 71 yX6_makespan ∈ wsL_law := wsL_r22 _ (List.mem_of_getElem? (i := 2) rfl)
theorem q_22_3 : Cond.instanceMethod yX6_makespan ∈ wsL_law := wsL_r22 _ (List.mem_of_getElem? (i := 3) rfl)
theorem q_22_4 : Cond.selects RX6 yX6_makespan yX6_makespan ∈ wsL_law := wsL_r22 _ (List.mem_of_getElem? (i := 4) rfl)
theorem q_22_5 : Cond.code yX6_makespan cX6_makespan 1 (some .int) ∈ wsL_law := wsL_r22 _ (List.mem_of_getElem? (i := 5) rfl)
theorem q_22_6 : Cond.methodLink RX6 184 yX6_greatestFinish ∈ wsL_law := wsL_r22 _ (List.mem_of_getElem? (i := 6) rfl)
theorem q_22_7 : Cond.instanceMethod yX6_greatestFinish ∈ wsL_law := wsL_r22 _ (List.mem_of_getElem? (i := 7) rfl)
theorem q_22_8 : Cond.selects RX6 yX6_greatestFinish yX6_greatestFinish ∈ wsL_law := wsL_r22 _ (List.mem_of_getElem? (i := 8) rfl)
theorem q_22_9 : Cond.code yX6_greatestFinish cX6_greatestFinish 4 (some .int) ∈ wsL_law := wsL_r22 _ (List.mem_of_getElem? (i := 9) rfl)
theorem q_22_10 : Cond.methodLink RL 72 yX5_attemptCount ∈ wsL_law := wsL_r22 _ (List.mem_of_getElem? (i := 10) rfl)
theorem q_22_11 : Cond.instanceMethod yX5_attemptCount ∈ wsL_law := wsL_r22 _ (List.mem_of_getElem? (i := 11) rfl)
theorem q_22_12 : Cond.selects RX5 yX5_attemptCount yX5_attemptCount ∈ wsL_law := wsL_r22 _ (List.mem_of_getElem? (i := 12) rfl)
theorem q_22_13 : Cond.code yX5_attemptCount cX5_attemptCount 1 (some .int) ∈ wsL_law := wsL_r22 _ (List.mem_of_getElem? (i := 13) rfl)
theorem q_22_14 : Cond.fieldLink RX5 102 "SpeculativeScheduler$Cluster" "attempts" "LSpeculativeScheduler$Attempts;" ∈ wsL_law := wsL_r22 _ (List.mem_of_getElem? (i := 14) rfl)
theorem q_22_15 : Cond.fieldLink RX5 106 "SpeculativeScheduler$Attempts" "count" "I" ∈ wsL_law := wsL_r22 _ (List.mem_of_getElem? (i := 15) rfl)
theorem q_22_16 : Cond.methodLink RL 75 yX6_attemptCount ∈ wsL_law := wsL_r22 _ (List.mem_of_getElem? (i := 16) rfl)
theorem q_22_17 : Cond.instanceMethod yX6_attemptCount ∈ wsL_law := wsL_r22 _ (List.mem_of_getElem? (i := 17) rfl)
theorem q_22_18 : Cond.selects RX6 yX6_attemptCount yX6_attemptCount ∈ wsL_law := wsL_r22 _ (List.mem_of_getElem? (i := 18) rfl)
theorem q_22_19 : Cond.code yX6_attemptCount cX6_attemptCount 1 (some .int) ∈ wsL_law := wsL_r22 _ (List.mem_of_getElem? (i := 19) rfl)
theorem q_22_20 : Cond.methodLink RL 76 yX5_attemptTask ∈ wsL_law := wsL_r22 _ (List.mem_of_getElem? (i := 20) rfl)
theorem q_22_21 : Cond.instanceMethod yX5_attemptTask ∈ wsL_law := wsL_r22 _ (List.mem_of_getElem? (i := 21) rfl)
theorem q_22_22 : Cond.selects RX5 yX5_attemptTask yX5_attemptTask ∈ wsL_law := wsL_r22 _ (List.mem_of_getElem? (i := 22) rfl)
theorem q_22_23 : Cond.code yX5_attemptTask cX5_attemptTask 2 (some .int) ∈ wsL_law := wsL_r22 _ (List.mem_of_getElem? (i := 23) rfl)
theorem q_23_0 : Cond.fieldLink RX5 112 "SpeculativeScheduler$Attempts" "task" "[I" ∈ wsL_law := wsL_r23 _ (List.mem_of_getElem? (i := 0) rfl)
theorem q_23_1 : Cond.methodLink RX5 111 yX0_has ∈ wsL_law := wsL_r23 _ (List.mem_of_getElem? (i := 1) rfl)
theorem q_23_2 : Cond.instanceMethod yX0_has ∈ wsL_law := wsL_r23 _ (List.mem_of_getElem? (i := 2) rfl)
theorem q_23_3 : Cond.selects RX0 yX0_has yX0_has ∈ wsL_law := wsL_r23 _ (List.mem_of_getElem? (i := 3) rfl)
theorem q_23_4 : Cond.code yX0_has cX0_has 2 (some .boolean) ∈ wsL_law := wsL_r23 _ (List.mem_of_getElem? (i := 4) rfl)
theorem q_23_5 : Cond.methodLink RL 79 yX6_attemptTask ∈ wsL_law := wsL_r23 _ (List.mem_of_getElem? (i := 5) rfl)
theorem q_23_6 : Cond.instanceMethod yX6_attemptTask ∈ wsL_law := wsL_r23 _ (List.mem_of_getElem? (i := 6) rfl)
theorem q_23_7 : Cond.selects RX6 yX6_attemptTask yX6_attemptTask ∈ wsL_law := wsL_r23 _ (List.mem_of_getElem? (i := 7) rfl)
theorem q_23_8 : Cond.code yX6_attemptTask cX6_attemptTask 2 (some .int) ∈ wsL_law := wsL_r23 _ (List.mem_of_getElem? (i := 8) rfl)
theorem q_23_9 : Cond.methodLink RX6 187 yX6_isAttempt ∈ wsL_law := wsL_r23 _ (List.mem_of_getElem? (i := 9) rfl)
theorem q_23_10 : Cond.instanceMethod yX6_isAttempt ∈ wsL_law := wsL_r23 _ (List.mem_of_getElem? (i := 10) rfl)
theorem q_23_11 : Cond.selects RX6 yX6_isAttempt yX6_isAttempt ∈ wsL_law := wsL_r23 _ (List.mem_of_getElem? (i := 11) rfl)
theorem q_23_12 : Cond.code yX6_isAttempt cX6_isAttempt 2 (some .boolean) ∈ wsL_law := wsL_r23 _ (List.mem_of_getElem? (i := 12) rfl)
theorem q_23_13 : Cond.methodLink RL 80 yX5_attemptNode ∈ wsL_law := wsL_r23 _ (List.mem_of_getElem? (i := 13) rfl)
theorem q_23_14 : Cond.instanceMethod yX5_attemptNode ∈ wsL_law := wsL_r23 _ (List.mem_of_getElem? (i := 14) rfl)
theorem q_23_15 : Cond.selects RX5 yX5_attemptNode yX5_attemptNode ∈ wsL_law := wsL_r23 _ (List.mem_of_getElem? (i := 15) rfl)
theorem q_23_16 : Cond.code yX5_attemptNode cX5_attemptNode 2 (some .int) ∈ wsL_law := wsL_r23 _ (List.mem_of_getElem? (i := 16) rfl)
theorem q_23_17 : Cond.fieldLink RX5 115 "SpeculativeScheduler$Attempts" "node" "[I" ∈ wsL_law := wsL_r23 _ (List.mem_of_getElem? (i := 17) rfl)
theorem q_23_18 : Cond.methodLink RL 83 yX6_attemptNode ∈ wsL_law := wsL_r23 _ (List.mem_of_getElem? (i := 18) rfl)
theorem q_23_19 : Cond.instanceMethod yX6_attemptNode ∈ wsL_law := wsL_r23 _ (List.mem_of_getElem? (i := 19) rfl)
theorem q_23_20 : Cond.selects RX6 yX6_attemptNode yX6_attemptNode ∈ wsL_law := wsL_r23 _ (List.mem_of_getElem? (i := 20) rfl)
theorem q_23_21 : Cond.code yX6_attemptNode cX6_attemptNode 2 (some .int) ∈ wsL_law := wsL_r23 _ (List.mem_of_getElem? (i := 21) rfl)
theorem q_23_22 : Cond.methodLink RL 84 yX5_attemptState ∈ wsL_law := wsL_r23 _ (List.mem_of_getElem? (i := 22) rfl)
theorem q_23_23 : Cond.instanceMethod yX5_attemptState ∈ wsL_law := wsL_r23 _ (List.mem_of_getElem? (i := 23) rfl)
theorem q_24_0 : Cond.selects RX5 yX5_attemptState yX5_attemptState ∈ wsL_law := wsL_r24 _ (List.mem_of_getElem? (i := 0) rfl)
theorem q_24_1 : Cond.code yX5_attemptState cX5_attemptState 2 (some .int) ∈ wsL_law := wsL_r24 _ (List.mem_of_getElem? (i := 1) rfl)
theorem q_24_2 : Cond.fieldLink RX5 118 "SpeculativeScheduler$Attempts" "state" "[I" ∈ wsL_law := wsL_r24 _ (List.mem_of_getElem? (i := 2) rfl)
theorem q_24_3 : Cond.methodLink RL 87 yX6_attemptState ∈ wsL_law := wsL_r24 _ (List.mem_of_getElem? (i := 3) rfl)
theorem q_24_4 : Cond.instanceMethod yX6_attemptState ∈ wsL_law := wsL_r24 _ (List.mem_of_getElem? (i := 4) rfl)
theorem q_24_5 : Cond.selects RX6 yX6_attemptState yX6_attemptState ∈ wsL_law := wsL_r24 _ (List.mem_of_getElem? (i := 5) rfl)
theorem q_24_6 : Cond.code yX6_attemptState cX6_attemptState 2 (some .int) ∈ wsL_law := wsL_r24 _ (List.mem_of_getElem? (i := 6) rfl)
theorem q_24_7 : Cond.methodLink RL 88 yX5_isSpeculative ∈ wsL_law := wsL_r24 _ (List.mem_of_getElem? (i := 7) rfl)
theorem q_24_8 : Cond.instanceMethod yX5_isSpeculative ∈ wsL_law := wsL_r24 _ (List.mem_of_getElem? (i := 8) rfl)
theorem q_24_9 : Cond.selects RX5 yX5_isSpeculative yX5_isSpeculative ∈ wsL_law := wsL_r24 _ (List.mem_of_getElem? (i := 9) rfl)
theorem q_24_10 : Cond.code yX5_isSpeculative cX5_isSpeculative 2 (some .int) ∈ wsL_law := wsL_r24 _ (List.mem_of_getElem? (i := 10) rfl)
theorem q_24_11 : Cond.fieldLink RX5 121 "SpeculativeScheduler$Attempts" "speculative" "[Z" ∈ wsL_law := wsL_r24 _ (List.mem_of_getElem? (i := 11) rfl)
theorem q_24_12 : Cond.methodLink RL 91 yX6_isSpeculative ∈ wsL_law := wsL_r24 _ (List.mem_of_getElem? (i := 12) rfl)
theorem q_24_13 : Cond.instanceMethod yX6_isSpeculative ∈ wsL_law := wsL_r24 _ (List.mem_of_getElem? (i := 13) rfl)
theorem q_24_14 : Cond.selects RX6 yX6_isSpeculative yX6_isSpeculative ∈ wsL_law := wsL_r24 _ (List.mem_of_getElem? (i := 14) rfl)
theorem q_24_15 : Cond.code yX6_isSpeculative cX6_isSpeculative 2 (some .int) ∈ wsL_law := wsL_r24 _ (List.mem_of_getElem? (i := 15) rfl)
theorem q_24_16 : Cond.methodLink RL 92 yX5_progress ∈ wsL_law := wsL_r24 _ (List.mem_of_getElem? (i := 16) rfl)
theorem q_24_17 : Cond.instanceMethod yX5_progress ∈ wsL_law := wsL_r24 _ (List.mem_of_getElem? (i := 17) rfl)
theorem q_24_18 : Cond.selects RX5 yX5_progress yX5_progress ∈ wsL_law := wsL_r24 _ (List.mem_of_getElem? (i := 18) rfl)
theorem q_24_19 : Cond.code yX5_progress cX5_progress 2 (some .int) ∈ wsL_law := wsL_r24 _ (List.mem_of_getElem? (i := 19) rfl)
theorem q_24_20 : Cond.fieldLink RX5 124 "SpeculativeScheduler$Attempts" "progress" "[I" ∈ wsL_law := wsL_r24 _ (List.mem_of_getElem? (i := 20) rfl)
theorem q_24_21 : Cond.methodLink RL 95 yX6_progress ∈ wsL_law := wsL_r24 _ (List.mem_of_getElem? (i := 21) rfl)
theorem q_24_22 : Cond.instanceMethod yX6_progress ∈ wsL_law := wsL_r24 _ (List.mem_of_getElem? (i := 22) rfl)
theorem q_24_23 : Cond.selects RX6 yX6_progress yX6_progress ∈ wsL_law := wsL_r24 _ (List.mem_of_getElem? (i := 23) rfl)
theorem q_25_0 : Cond.code yX6_progress cX6_progress 2 (some .int) ∈ wsL_law := wsL_r25 _ (List.mem_of_getElem? (i := 0) rfl)
theorem q_25_1 : Cond.methodLink RL 96 yX5_remainingTime ∈ wsL_law := wsL_r25 _ (List.mem_of_getElem? (i := 1) rfl)
theorem q_25_2 : Cond.instanceMethod yX5_remainingTime ∈ wsL_law := wsL_r25 _ (List.mem_of_getElem? (i := 2) rfl)
theorem q_25_3 : Cond.selects RX5 yX5_remainingTime yX5_remainingTime ∈ wsL_law := wsL_r25 _ (List.mem_of_getElem? (i := 3) rfl)
theorem q_25_4 : Cond.code yX5_remainingTime cX5_remainingTime 2 (some .int) ∈ wsL_law := wsL_r25 _ (List.mem_of_getElem? (i := 4) rfl)
theorem q_25_5 : Cond.methodLink RX5 127 yX0_remaining ∈ wsL_law := wsL_r25 _ (List.mem_of_getElem? (i := 5) rfl)
theorem q_25_6 : Cond.methodLink RL 99 yX6_remainingTime ∈ wsL_law := wsL_r25 _ (List.mem_of_getElem? (i := 6) rfl)
theorem q_25_7 : Cond.instanceMethod yX6_remainingTime ∈ wsL_law := wsL_r25 _ (List.mem_of_getElem? (i := 7) rfl)
theorem q_25_8 : Cond.selects RX6 yX6_remainingTime yX6_remainingTime ∈ wsL_law := wsL_r25 _ (List.mem_of_getElem? (i := 8) rfl)
theorem q_25_9 : Cond.code yX6_remainingTime cX6_remainingTime 2 (some .int) ∈ wsL_law := wsL_r25 _ (List.mem_of_getElem? (i := 9) rfl)
theorem q_25_10 : Cond.methodLink RL 100 yX5_nodeScore ∈ wsL_law := wsL_r25 _ (List.mem_of_getElem? (i := 10) rfl)
theorem q_25_11 : Cond.instanceMethod yX5_nodeScore ∈ wsL_law := wsL_r25 _ (List.mem_of_getElem? (i := 11) rfl)
theorem q_25_12 : Cond.selects RX5 yX5_nodeScore yX5_nodeScore ∈ wsL_law := wsL_r25 _ (List.mem_of_getElem? (i := 12) rfl)
theorem q_25_13 : Cond.code yX5_nodeScore cX5_nodeScore 2 (some .int) ∈ wsL_law := wsL_r25 _ (List.mem_of_getElem? (i := 13) rfl)
theorem q_25_14 : Cond.methodLink RX5 130 yX2_score ∈ wsL_law := wsL_r25 _ (List.mem_of_getElem? (i := 14) rfl)
theorem q_25_15 : Cond.methodLink RL 103 yX6_nodeScore ∈ wsL_law := wsL_r25 _ (List.mem_of_getElem? (i := 15) rfl)
theorem q_25_16 : Cond.instanceMethod yX6_nodeScore ∈ wsL_law := wsL_r25 _ (List.mem_of_getElem? (i := 16) rfl)
theorem q_25_17 : Cond.selects RX6 yX6_nodeScore yX6_nodeScore ∈ wsL_law := wsL_r25 _ (List.mem_of_getElem? (i := 17) rfl)
theorem q_25_18 : Cond.code yX6_nodeScore cX6_nodeScore 2 (some .int) ∈ wsL_law := wsL_r25 _ (List.mem_of_getElem? (i := 18) rfl)
theorem q_25_19 : Cond.methodLink RL 104 yX5_isSlowNode ∈ wsL_law := wsL_r25 _ (List.mem_of_getElem? (i := 19) rfl)
theorem q_25_20 : Cond.instanceMethod yX5_isSlowNode ∈ wsL_law := wsL_r25 _ (List.mem_of_getElem? (i := 20) rfl)
theorem q_25_21 : Cond.selects RX5 yX5_isSlowNode yX5_isSlowNode ∈ wsL_law := wsL_r25 _ (List.mem_of_getElem? (i := 21) rfl)
theorem q_25_22 : Cond.code yX5_isSlowNode cX5_isSlowNode 2 (some .int) ∈ wsL_law := wsL_r25 _ (List.mem_of_getElem? (i := 22) rfl)
theorem q_25_23 : Cond.methodLink RX5 133 yX2_isSlow ∈ wsL_law := wsL_r25 _ (List.mem_of_getElem? (i := 23) rfl)
theorem q_26_0 : Cond.methodLink RL 107 yX6_isSlowNode ∈ wsL_law := wsL_r26 _ (List.mem_of_getElem? (i := 0) rfl)
theorem q_26_1 : Cond.instanceMethod yX6_isSlowNode ∈ wsL_law := wsL_r26 _ (List.mem_of_getElem? (i := 1) rfl)
theorem q_26_2 : Cond.selects RX6 yX6_isSlowNode yX6_isSlowNode ∈ wsL_law := wsL_r26 _ (List.mem_of_getElem? (i := 2) rfl)
theorem q_26_3 : Cond.code yX6_isSlowNode cX6_isSlowNode 2 (some .int) ∈ wsL_law := wsL_r26 _ (List.mem_of_getElem? (i := 3) rfl)
theorem q_26_4 : Cond.methodLink RL 108 yX5_runningOn ∈ wsL_law := wsL_r26 _ (List.mem_of_getElem? (i := 4) rfl)
theorem q_26_5 : Cond.instanceMethod yX5_runningOn ∈ wsL_law := wsL_r26 _ (List.mem_of_getElem? (i := 5) rfl)
theorem q_26_6 : Cond.selects RX5 yX5_runningOn yX5_runningOn ∈ wsL_law := wsL_r26 _ (List.mem_of_getElem? (i := 6) rfl)
theorem q_26_7 : Cond.code yX5_runningOn cX5_runningOn 2 (some .int) ∈ wsL_law := wsL_r26 _ (List.mem_of_getElem? (i := 7) rfl)
theorem q_26_8 : Cond.fieldLink RX5 137 "SpeculativeScheduler$Nodes" "busy" "[I" ∈ wsL_law := wsL_r26 _ (List.mem_of_getElem? (i := 8) rfl)
theorem q_26_9 : Cond.methodLink RL 111 yX6_runningOn ∈ wsL_law := wsL_r26 _ (List.mem_of_getElem? (i := 9) rfl)
theorem q_26_10 : Cond.instanceMethod yX6_runningOn ∈ wsL_law := wsL_r26 _ (List.mem_of_getElem? (i := 10) rfl)
theorem q_26_11 : Cond.selects RX6 yX6_runningOn yX6_runningOn ∈ wsL_law := wsL_r26 _ (List.mem_of_getElem? (i := 11) rfl)
theorem q_26_12 : Cond.code yX6_runningOn cX6_runningOn 2 (some .int) ∈ wsL_law := wsL_r26 _ (List.mem_of_getElem? (i := 12) rfl)
theorem q_26_13 : Cond.methodLink RL 112 yX5_straggler ∈ wsL_law := wsL_r26 _ (List.mem_of_getElem? (i := 13) rfl)
theorem q_26_14 : Cond.instanceMethod yX5_straggler ∈ wsL_law := wsL_r26 _ (List.mem_of_getElem? (i := 14) rfl)
theorem q_26_15 : Cond.selects RX5 yX5_straggler yX5_straggler ∈ wsL_law := wsL_r26 _ (List.mem_of_getElem? (i := 15) rfl)
theorem q_26_16 : Cond.code yX5_straggler cX5_straggler 1 (some .int) ∈ wsL_law := wsL_r26 _ (List.mem_of_getElem? (i := 16) rfl)
theorem q_26_17 : Cond.methodLink RX5 140 yX1_findStraggler ∈ wsL_law := wsL_r26 _ (List.mem_of_getElem? (i := 17) rfl)
theorem q_26_18 : Cond.methodLink RL 115 yX6_straggler ∈ wsL_law := wsL_r26 _ (List.mem_of_getElem? (i := 18) rfl)
theorem q_26_19 : Cond.instanceMethod yX6_straggler ∈ wsL_law := wsL_r26 _ (List.mem_of_getElem? (i := 19) rfl)
theorem q_26_20 : Cond.selects RX6 yX6_straggler yX6_straggler ∈ wsL_law := wsL_r26 _ (List.mem_of_getElem? (i := 20) rfl)
theorem q_26_21 : Cond.code yX6_straggler cX6_straggler 1 (some .int) ∈ wsL_law := wsL_r26 _ (List.mem_of_getElem? (i := 21) rfl)
theorem q_26_22 : Cond.methodLink RL 116 yX5_runningSpeculative ∈ wsL_law := wsL_r26 _ (List.mem_of_getElem? (i := 22) rfl)
theorem q_26_23 : Cond.instanceMethod yX5_runningSpeculative ∈ wsL_law := wsL_r26 _ (List.mem_of_getElem? (i := 23) rfl)
theorem q_27_0 : Cond.selects RX5 yX5_runningSpeculative yX5_runningSpeculative ∈ wsL_law := wsL_r27 _ (List.mem_of_getElem? (i := 0) rfl)
theorem q_27_1 : Cond.code yX5_runningSpeculative cX5_runningSpeculative 1 (some .int) ∈ wsL_law := wsL_r27 _ (List.mem_of_getElem? (i := 1) rfl)
theorem q_27_2 : Cond.methodLink RX5 143 yX0_countSpeculative ∈ wsL_law := wsL_r27 _ (List.mem_of_getElem? (i := 2) rfl)
theorem q_27_3 : Cond.methodLink RL 119 yX6_runningSpeculative ∈ wsL_law := wsL_r27 _ (List.mem_of_getElem? (i := 3) rfl)
theorem q_27_4 : Cond.instanceMethod yX6_runningSpeculative ∈ wsL_law := wsL_r27 _ (List.mem_of_getElem? (i := 4) rfl)
theorem q_27_5 : Cond.selects RX6 yX6_runningSpeculative yX6_runningSpeculative ∈ wsL_law := wsL_r27 _ (List.mem_of_getElem? (i := 5) rfl)
theorem q_27_6 : Cond.code yX6_runningSpeculative cX6_runningSpeculative 1 (some .int) ∈ wsL_law := wsL_r27 _ (List.mem_of_getElem? (i := 6) rfl)
theorem q_27_7 : Cond.methodLink RL 120 yX5_wastedWork ∈ wsL_law := wsL_r27 _ (List.mem_of_getElem? (i := 7) rfl)
theorem q_27_8 : Cond.instanceMethod yX5_wastedWork ∈ wsL_law := wsL_r27 _ (List.mem_of_getElem? (i := 8) rfl)
theorem q_27_9 : Cond.selects RX5 yX5_wastedWork yX5_wastedWork ∈ wsL_law := wsL_r27 _ (List.mem_of_getElem? (i := 9) rfl)
theorem q_27_10 : Cond.code yX5_wastedWork cX5_wastedWork 1 (some .int) ∈ wsL_law := wsL_r27 _ (List.mem_of_getElem? (i := 10) rfl)
theorem q_27_11 : Cond.methodLink RX5 146 yX0_wasted ∈ wsL_law := wsL_r27 _ (List.mem_of_getElem? (i := 11) rfl)
theorem q_27_12 : Cond.instanceMethod yX0_wasted ∈ wsL_law := wsL_r27 _ (List.mem_of_getElem? (i := 12) rfl)
theorem q_27_13 : Cond.selects RX0 yX0_wasted yX0_wasted ∈ wsL_law := wsL_r27 _ (List.mem_of_getElem? (i := 13) rfl)
theorem q_27_14 : Cond.code yX0_wasted cX0_wasted 3 (some .int) ∈ wsL_law := wsL_r27 _ (List.mem_of_getElem? (i := 14) rfl)
theorem q_27_15 : Cond.methodLink RL 123 yX6_wastedWork ∈ wsL_law := wsL_r27 _ (List.mem_of_getElem? (i := 15) rfl)
theorem q_27_16 : Cond.instanceMethod yX6_wastedWork ∈ wsL_law := wsL_r27 _ (List.mem_of_getElem? (i := 16) rfl)
theorem q_27_17 : Cond.selects RX6 yX6_wastedWork yX6_wastedWork ∈ wsL_law := wsL_r27 _ (List.mem_of_getElem? (i := 17) rfl)
theorem q_27_18 : Cond.code yX6_wastedWork cX6_wastedWork 3 (some .int) ∈ wsL_law := wsL_r27 _ (List.mem_of_getElem? (i := 18) rfl)
theorem q_27_19 : Cond.methodLink RL 124 yX5_simulatedMakespan ∈ wsL_law := wsL_r27 _ (List.mem_of_getElem? (i := 19) rfl)
theorem q_27_20 : Cond.instanceMethod yX5_simulatedMakespan ∈ wsL_law := wsL_r27 _ (List.mem_of_getElem? (i := 20) rfl)
theorem q_27_21 : Cond.selects RX5 yX5_simulatedMakespan yX5_simulatedMakespan ∈ wsL_law := wsL_r27 _ (List.mem_of_getElem? (i := 21) rfl)
theorem q_27_22 : Cond.code yX5_simulatedMakespan cX5_simulatedMakespan 4 (some .int) ∈ wsL_law := wsL_r27 _ (List.mem_of_getElem? (i := 22) rfl)
theorem q_27_23 : Cond.fieldLink RX5 153 "SpeculativeScheduler$Tasks" "count" "I" ∈ wsL_law := wsL_r27 _ (List.mem_of_getElem? (i := 23) rfl)
theorem q_28_0 : Cond.methodLink RX5 149 yX1_startAfresh ∈ wsL_law := wsL_r28 _ (List.mem_of_getElem? (i := 0) rfl)
theorem q_28_1 : Cond.instanceMethod yX1_startAfresh ∈ wsL_law := wsL_r28 _ (List.mem_of_getElem? (i := 1) rfl)
theorem q_28_2 : Cond.selects RX1 yX1_startAfresh yX1_startAfresh ∈ wsL_law := wsL_r28 _ (List.mem_of_getElem? (i := 2) rfl)
theorem q_28_3 : Cond.code yX1_startAfresh cX1_startAfresh 3 none ∈ wsL_law := wsL_r28 _ (List.mem_of_getElem? (i := 3) rfl)
theorem q_28_4 : Cond.methodLink RX1 43 yX3_copyWithPolicy ∈ wsL_law := wsL_r28 _ (List.mem_of_getElem? (i := 4) rfl)
theorem q_28_5 : Cond.instanceMethod yX3_copyWithPolicy ∈ wsL_law := wsL_r28 _ (List.mem_of_getElem? (i := 5) rfl)
theorem q_28_6 : Cond.selects RX3 yX3_copyWithPolicy yX3_copyWithPolicy ∈ wsL_law := wsL_r28 _ (List.mem_of_getElem? (i := 6) rfl)
theorem q_28_7 : Cond.code yX3_copyWithPolicy cX3_copyWithPolicy 3 none ∈ wsL_law := wsL_r28 _ (List.mem_of_getElem? (i := 7) rfl)
theorem q_28_8 : Cond.methodLink RX1 47 yX2_copyUnused ∈ wsL_law := wsL_r28 _ (List.mem_of_getElem? (i := 8) rfl)
theorem q_28_9 : Cond.instanceMethod yX2_copyUnused ∈ wsL_law := wsL_r28 _ (List.mem_of_getElem? (i := 9) rfl)
theorem q_28_10 : Cond.selects RX2 yX2_copyUnused yX2_copyUnused ∈ wsL_law := wsL_r28 _ (List.mem_of_getElem? (i := 10) rfl)
theorem q_28_11 : Cond.code yX2_copyUnused cX2_copyUnused 3 none ∈ wsL_law := wsL_r28 _ (List.mem_of_getElem? (i := 11) rfl)
theorem q_28_12 : Cond.methodLink RX2 35 yX2_add ∈ wsL_law := wsL_r28 _ (List.mem_of_getElem? (i := 12) rfl)
theorem q_28_13 : Cond.methodLink RX1 51 yX4_copyUnused ∈ wsL_law := wsL_r28 _ (List.mem_of_getElem? (i := 13) rfl)
theorem q_28_14 : Cond.instanceMethod yX4_copyUnused ∈ wsL_law := wsL_r28 _ (List.mem_of_getElem? (i := 14) rfl)
theorem q_28_15 : Cond.selects RX4 yX4_copyUnused yX4_copyUnused ∈ wsL_law := wsL_r28 _ (List.mem_of_getElem? (i := 15) rfl)
theorem q_28_16 : Cond.code yX4_copyUnused cX4_copyUnused 3 none ∈ wsL_law := wsL_r28 _ (List.mem_of_getElem? (i := 16) rfl)
theorem q_28_17 : Cond.methodLink RX4 28 yX4_add ∈ wsL_law := wsL_r28 _ (List.mem_of_getElem? (i := 17) rfl)
theorem q_28_18 : Cond.methodLink RX1 54 yX0_clear ∈ wsL_law := wsL_r28 _ (List.mem_of_getElem? (i := 18) rfl)
theorem q_28_19 : Cond.instanceMethod yX0_clear ∈ wsL_law := wsL_r28 _ (List.mem_of_getElem? (i := 19) rfl)
theorem q_28_20 : Cond.selects RX0 yX0_clear yX0_clear ∈ wsL_law := wsL_r28 _ (List.mem_of_getElem? (i := 20) rfl)
theorem q_28_21 : Cond.code yX0_clear cX0_clear 1 none ∈ wsL_law := wsL_r28 _ (List.mem_of_getElem? (i := 21) rfl)
theorem q_28_22 : Cond.methodLink RL 127 yX6_simulatedMakespan ∈ wsL_law := wsL_r28 _ (List.mem_of_getElem? (i := 22) rfl)
theorem q_28_23 : Cond.instanceMethod yX6_simulatedMakespan ∈ wsL_law := wsL_r28 _ (List.mem_of_getElem? (i := 23) rfl)
theorem q_29_0 : Cond.selects RX6 yX6_simulatedMakespan yX6_simulatedMakespan ∈ wsL_law := wsL_r29 _ (List.mem_of_getElem? (i := 0) rfl)
theorem q_29_1 : Cond.code yX6_simulatedMakespan cX6_simulatedMakespan 3 (some .int) ∈ wsL_law := wsL_r29 _ (List.mem_of_getElem? (i := 1) rfl)
theorem q_29_2 : Cond.methodLink RX6 190 yX6_clears ∈ wsL_law := wsL_r29 _ (List.mem_of_getElem? (i := 2) rfl)
theorem q_29_3 : Cond.instanceMethod yX6_clears ∈ wsL_law := wsL_r29 _ (List.mem_of_getElem? (i := 3) rfl)
theorem q_29_4 : Cond.selects RX6 yX6_clears yX6_clears ∈ wsL_law := wsL_r29 _ (List.mem_of_getElem? (i := 4) rfl)
theorem q_29_5 : Cond.code yX6_clears cX6_clears 2 none ∈ wsL_law := wsL_r29 _ (List.mem_of_getElem? (i := 5) rfl)
