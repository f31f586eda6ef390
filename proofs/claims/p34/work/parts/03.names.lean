def RX0 : String := "VisionMixer$Log"
def TX0 : u_T := fun k => match k with
  | 0 => ("VisionMixer$Log", "entries", "[I", true)
  | _ => ("VisionMixer$Log", "count", "I", false)
def tyX0 : Nat → FieldType := fun k => match k with
  | 0 => .array .int
  | _ => .int
abbrev wsX00 : List Cond := u_ws RX0 TX0 2
theorem nmX0 : ∀ a, a < 2 → ∀ b, b < 2 → a ≠ b → (TX0 a).2.1 ≠ (TX0 b).2.1 := by decide +kernel
theorem tyX0_ok : ∀ k, k < 2 → parseFieldDescriptor (TX0 k).2.2.1 = some (tyX0 k) := by decide +kernel
abbrev cX0_init : ByteArray := prog_2_method_1_code
def yX0_init : MethodName := ⟨RX0, "<init>", "()V"⟩
abbrev cX0_size : ByteArray := prog_2_method_2_code
def yX0_size : MethodName := ⟨RX0, "size", "()I"⟩
abbrev cX0_isFull : ByteArray := prog_2_method_3_code
def yX0_isFull : MethodName := ⟨RX0, "isFull", "()Z"⟩
abbrev cX0_add : ByteArray := prog_2_method_4_code
def yX0_add : MethodName := ⟨RX0, "add", "(IIIIII)V"⟩
abbrev cX0_remove : ByteArray := prog_2_method_5_code
def yX0_remove : MethodName := ⟨RX0, "remove", "(I)V"⟩
abbrev cX0_tell : ByteArray := prog_2_method_7_code
def yX0_tell : MethodName := ⟨RX0, "tell", "(II)I"⟩
abbrev cX0_timeOf : ByteArray := prog_2_method_8_code
def yX0_timeOf : MethodName := ⟨RX0, "timeOf", "(I)I"⟩
abbrev cX0_redo : ByteArray := prog_2_method_9_code
def yX0_redo : MethodName := ⟨RX0, "redo", "(ILVisionMixer$Mix;)V"⟩
def RX1 : String := "VisionMixer$Mix"
def TX1 : u_T := fun k => match k with
  | 0 => ("VisionMixer$Mix", "program", "I", false)
  | 1 => ("VisionMixer$Mix", "preview", "I", false)
  | 2 => ("VisionMixer$Mix", "kind", "I", false)
  | 3 => ("VisionMixer$Mix", "rate", "I", false)
  | 4 => ("VisionMixer$Mix", "elements", "I", false)
  | 5 => ("VisionMixer$Mix", "position", "I", false)
  | 6 => ("VisionMixer$Mix", "run", "I", false)
  | 7 => ("VisionMixer$Mix", "time", "I", false)
  | 8 => ("VisionMixer$Mix", "runsCompleted", "I", false)
  | 9 => ("VisionMixer$Mix", "faults", "I", false)
  | 10 => ("VisionMixer$Mix", "keyersOn", "I", false)
  | 11 => ("VisionMixer$Mix", "fills", "[I", true)
  | 12 => ("VisionMixer$Mix", "opacities", "[I", true)
  | _ => ("VisionMixer$Mix", "areas", "[I", true)
def tyX1 : Nat → FieldType := fun k => match k with
  | 0 => .int
  | 1 => .int
  | 2 => .int
  | 3 => .int
  | 4 => .int
  | 5 => .int
  | 6 => .int
  | 7 => .int
  | 8 => .int
  | 9 => .int
  | 10 => .int
  | 11 => .array .int
  | 12 => .array .int
  | _ => .array .int
abbrev wsX10 : List Cond := u_ws RX1 TX1 14
theorem nmX1 : ∀ a, a < 14 → ∀ b, b < 14 → a ≠ b → (TX1 a).2.1 ≠ (TX1 b).2.1 := by decide +kernel
theorem tyX1_ok : ∀ k, k < 14 → parseFieldDescriptor (TX1 k).2.2.1 = some (tyX1 k) := by decide +kernel
abbrev cX1_init : ByteArray := prog_3_method_1_code
def yX1_init : MethodName := ⟨RX1, "<init>", "()V"⟩
abbrev cX1_reset : ByteArray := prog_3_method_2_code
def yX1_reset : MethodName := ⟨RX1, "reset", "()V"⟩
abbrev cX1_copy : ByteArray := prog_3_method_3_code
def yX1_copy : MethodName := ⟨RX1, "copy", "(LVisionMixer$Mix;)V"⟩
abbrev cX1_isPossible : ByteArray := prog_3_method_4_code
def yX1_isPossible : MethodName := ⟨RX1, "isPossible", "(I)Z"⟩
abbrev cX1_perform : ByteArray := prog_3_method_5_code
def yX1_perform : MethodName := ⟨RX1, "perform", "(IIIII)I"⟩
abbrev cX1_setProgram : ByteArray := prog_3_method_6_code
def yX1_setProgram : MethodName := ⟨RX1, "setProgram", "(I)I"⟩
abbrev cX1_setPreview : ByteArray := prog_3_method_7_code
def yX1_setPreview : MethodName := ⟨RX1, "setPreview", "(I)I"⟩
abbrev cX1_setKindAndRate : ByteArray := prog_3_method_8_code
def yX1_setKindAndRate : MethodName := ⟨RX1, "setKindAndRate", "(II)I"⟩
abbrev cX1_setElements : ByteArray := prog_3_method_9_code
def yX1_setElements : MethodName := ⟨RX1, "setElements", "(I)I"⟩
abbrev cX1_setKeyer : ByteArray := prog_3_method_10_code
def yX1_setKeyer : MethodName := ⟨RX1, "setKeyer", "(IIII)I"⟩
abbrev cX1_switchKeyer : ByteArray := prog_3_method_11_code
def yX1_switchKeyer : MethodName := ⟨RX1, "switchKeyer", "(I)I"⟩
abbrev cX1_setPosition : ByteArray := prog_3_method_12_code
def yX1_setPosition : MethodName := ⟨RX1, "setPosition", "(I)I"⟩
abbrev cX1_setFault : ByteArray := prog_3_method_13_code
def yX1_setFault : MethodName := ⟨RX1, "setFault", "(II)I"⟩
abbrev cX1_complete : ByteArray := prog_3_method_14_code
def yX1_complete : MethodName := ⟨RX1, "complete", "()V"⟩
abbrev cX1_letPass : ByteArray := prog_3_method_15_code
def yX1_letPass : MethodName := ⟨RX1, "letPass", "(I)V"⟩
abbrev cX1_movesBackground : ByteArray := prog_3_method_16_code
def yX1_movesBackground : MethodName := ⟨RX1, "movesBackground", "()Z"⟩
abbrev cX1_moves : ByteArray := prog_3_method_17_code
def yX1_moves : MethodName := ⟨RX1, "moves", "(I)Z"⟩
abbrev cX1_isOn : ByteArray := prog_3_method_18_code
def yX1_isOn : MethodName := ⟨RX1, "isOn", "(I)Z"⟩
abbrev cX1_fillOf : ByteArray := prog_3_method_19_code
def yX1_fillOf : MethodName := ⟨RX1, "fillOf", "(I)I"⟩
abbrev cX1_coverOf : ByteArray := prog_3_method_20_code
def yX1_coverOf : MethodName := ⟨RX1, "coverOf", "(I)I"⟩
abbrev cX1_tellSetting : ByteArray := prog_3_method_21_code
def yX1_tellSetting : MethodName := ⟨RX1, "tellSetting", "(I)I"⟩
abbrev cX1_tellKeyer : ByteArray := prog_3_method_22_code
def yX1_tellKeyer : MethodName := ⟨RX1, "tellKeyer", "(II)I"⟩
def RX2 : String := "VisionMixer$Picture"
def TX2 : u_T := fun k => match k with
  | _ => ("VisionMixer$Picture", "parts", "[I", true)
def tyX2 : Nat → FieldType := fun k => match k with
  | _ => .array .int
abbrev wsX20 : List Cond := u_ws RX2 TX2 1
theorem nmX2 : ∀ a, a < 1 → ∀ b, b < 1 → a ≠ b → (TX2 a).2.1 ≠ (TX2 b).2.1 := by decide +kernel
theorem tyX2_ok : ∀ k, k < 1 → parseFieldDescriptor (TX2 k).2.2.1 = some (tyX2 k) := by decide +kernel
abbrev cX2_init : ByteArray := prog_4_method_1_code
def yX2_init : MethodName := ⟨RX2, "<init>", "()V"⟩
abbrev cX2_paint : ByteArray := prog_4_method_2_code
def yX2_paint : MethodName := ⟨RX2, "paint", "(LVisionMixer$Mix;)V"⟩
abbrev cX2_paintBackground : ByteArray := prog_4_method_3_code
def yX2_paintBackground : MethodName := ⟨RX2, "paintBackground", "(LVisionMixer$Mix;)V"⟩
abbrev cX2_addPart : ByteArray := prog_4_method_4_code
def yX2_addPart : MethodName := ⟨RX2, "addPart", "(II)V"⟩
abbrev cX2_layOver : ByteArray := prog_4_method_5_code
def yX2_layOver : MethodName := ⟨RX2, "layOver", "(II)V"⟩
abbrev cX2_partOf : ByteArray := prog_4_method_6_code
def yX2_partOf : MethodName := ⟨RX2, "partOf", "(I)I"⟩
abbrev cX2_seenOf : ByteArray := prog_4_method_7_code
def yX2_seenOf : MethodName := ⟨RX2, "seenOf", "(II)I"⟩
abbrev cX2_faultyParts : ByteArray := prog_4_method_8_code
def yX2_faultyParts : MethodName := ⟨RX2, "faultyParts", "(I)I"⟩
abbrev cX2_reds : ByteArray := prog_4_method_9_code
def yX2_reds : MethodName := ⟨RX2, "reds", "()I"⟩
abbrev cX2_sameParts : ByteArray := prog_4_method_10_code
def yX2_sameParts : MethodName := ⟨RX2, "sameParts", "(LVisionMixer$Picture;)Z"⟩
def RX3 : String := "VisionMixer$Replay"
def TX3 : u_T := fun k => match k with
  | 0 => ("VisionMixer$Replay", "mix", "LVisionMixer$Mix;", true)
  | _ => ("VisionMixer$Replay", "upcoming", "I", false)
def tyX3 : Nat → FieldType := fun k => match k with
  | 0 => .object "VisionMixer$Mix"
  | _ => .int
abbrev wsX30 : List Cond := u_ws RX3 TX3 2
theorem nmX3 : ∀ a, a < 2 → ∀ b, b < 2 → a ≠ b → (TX3 a).2.1 ≠ (TX3 b).2.1 := by decide +kernel
theorem tyX3_ok : ∀ k, k < 2 → parseFieldDescriptor (TX3 k).2.2.1 = some (tyX3 k) := by decide +kernel
abbrev cX3_init : ByteArray := prog_5_method_1_code
def yX3_init : MethodName := ⟨RX3, "<init>", "()V"⟩
abbrev cX3_begin : ByteArray := prog_5_method_2_code
def yX3_begin : MethodName := ⟨RX3, "begin", "()V"⟩
abbrev cX3_goTo : ByteArray := prog_5_method_3_code
def yX3_goTo : MethodName := ⟨RX3, "goTo", "(LVisionMixer$Log;II)V"⟩
abbrev cX3_sameTimes : ByteArray := prog_5_method_4_code
def yX3_sameTimes : MethodName := ⟨RX3, "sameTimes", "(LVisionMixer$Log;I)I"⟩
def RX4 : String := "VisionMixer$Script"
def TX4 : u_T := fun k => match k with
  | 0 => ("VisionMixer$Script", "signs", "[I", true)
  | 1 => ("VisionMixer$Script", "orders", "[I", true)
  | 2 => ("VisionMixer$Script", "length", "I", false)
  | 3 => ("VisionMixer$Script", "orderCount", "I", false)
  | 4 => ("VisionMixer$Script", "at", "I", false)
  | _ => ("VisionMixer$Script", "errorAt", "I", false)
def tyX4 : Nat → FieldType := fun k => match k with
  | 0 => .array .int
  | 1 => .array .int
  | 2 => .int
  | 3 => .int
  | 4 => .int
  | _ => .int
abbrev wsX40 : List Cond := u_ws RX4 TX4 6
theorem nmX4 : ∀ a, a < 6 → ∀ b, b < 6 → a ≠ b → (TX4 a).2.1 ≠ (TX4 b).2.1 := by decide +kernel
theorem tyX4_ok : ∀ k, k < 6 → parseFieldDescriptor (TX4 k).2.2.1 = some (tyX4 k) := by decide +kernel
abbrev cX4_init : ByteArray := prog_6_method_1_code
def yX4_init : MethodName := ⟨RX4, "<init>", "()V"⟩
abbrev cX4_size : ByteArray := prog_6_method_3_code
def yX4_size : MethodName := ⟨RX4, "size", "()I"⟩
def RX5 : String := "VisionMixer"
def TX5 : u_T := fun k => match k with
  | 0 => ("VisionMixer", "now", "LVisionMixer$Mix;", true)
  | 1 => ("VisionMixer", "kept", "LVisionMixer$Mix;", true)
  | 2 => ("VisionMixer", "behind", "LVisionMixer$Mix;", true)
  | 3 => ("VisionMixer", "log", "LVisionMixer$Log;", true)
  | 4 => ("VisionMixer", "replay", "LVisionMixer$Replay;", true)
  | 5 => ("VisionMixer", "picture", "LVisionMixer$Picture;", true)
  | 6 => ("VisionMixer", "other", "LVisionMixer$Picture;", true)
  | _ => ("VisionMixer", "script", "LVisionMixer$Script;", true)
def tyX5 : Nat → FieldType := fun k => match k with
  | 0 => .object "VisionMixer$Mix"
  | 1 => .object "VisionMixer$Mix"
  | 2 => .object "VisionMixer$Mix"
  | 3 => .object "VisionMixer$Log"
  | 4 => .object "VisionMixer$Replay"
  | 5 => .object "VisionMixer$Picture"
  | 6 => .object "VisionMixer$Picture"
  | _ => .object "VisionMixer$Script"
abbrev wsX50 : List Cond := u_ws RX5 TX5 8
theorem nmX5 : ∀ a, a < 8 → ∀ b, b < 8 → a ≠ b → (TX5 a).2.1 ≠ (TX5 b).2.1 := by decide +kernel
theorem tyX5_ok : ∀ k, k < 8 → parseFieldDescriptor (TX5 k).2.2.1 = some (tyX5 k) := by decide +kernel
abbrev cX5_init : ByteArray := prog_1_method_1_code
def yX5_init : MethodName := ⟨RX5, "<init>", "()V"⟩
abbrev cX5_program : ByteArray := prog_1_method_2_code
def yX5_program : MethodName := ⟨RX5, "program", "(I)I"⟩
abbrev cX5_preview : ByteArray := prog_1_method_3_code
def yX5_preview : MethodName := ⟨RX5, "preview", "(I)I"⟩
abbrev cX5_transition : ByteArray := prog_1_method_4_code
def yX5_transition : MethodName := ⟨RX5, "transition", "(II)I"⟩
abbrev cX5_next : ByteArray := prog_1_method_5_code
def yX5_next : MethodName := ⟨RX5, "next", "(I)I"⟩
abbrev cX5_key : ByteArray := prog_1_method_6_code
def yX5_key : MethodName := ⟨RX5, "key", "(IIII)I"⟩
abbrev cX5_toggle : ByteArray := prog_1_method_7_code
def yX5_toggle : MethodName := ⟨RX5, "toggle", "(I)I"⟩
abbrev cX5_cut : ByteArray := prog_1_method_8_code
def yX5_cut : MethodName := ⟨RX5, "cut", "()I"⟩
abbrev cX5_auto : ByteArray := prog_1_method_9_code
def yX5_auto : MethodName := ⟨RX5, "auto", "()I"⟩
abbrev cX5_bar : ByteArray := prog_1_method_10_code
def yX5_bar : MethodName := ⟨RX5, "bar", "(I)I"⟩
abbrev cX5_fault : ByteArray := prog_1_method_11_code
def yX5_fault : MethodName := ⟨RX5, "fault", "(IZ)I"⟩
abbrev cX5_pass : ByteArray := prog_1_method_12_code
def yX5_pass : MethodName := ⟨RX5, "pass", "(I)I"⟩
abbrev cX5_setting : ByteArray := prog_1_method_13_code
def yX5_setting : MethodName := ⟨RX5, "setting", "(I)I"⟩
abbrev cX5_share : ByteArray := prog_1_method_15_code
def yX5_share : MethodName := ⟨RX5, "share", "(IZ)I"⟩
abbrev cX5_tally : ByteArray := prog_1_method_16_code
def yX5_tally : MethodName := ⟨RX5, "tally", "(I)I"⟩
abbrev cX5_faulty : ByteArray := prog_1_method_17_code
def yX5_faulty : MethodName := ⟨RX5, "faulty", "()D"⟩
abbrev cX5_timesRed : ByteArray := prog_1_method_20_code
def yX5_timesRed : MethodName := ⟨RX5, "timesRed", "(I)I"⟩
abbrev cX5_firstRed : ByteArray := prog_1_method_21_code
def yX5_firstRed : MethodName := ⟨RX5, "firstRed", "(I)I"⟩
abbrev cX5_longestShot : ByteArray := prog_1_method_22_code
def yX5_longestShot : MethodName := ⟨RX5, "longestShot", "()I"⟩
abbrev cX5_runs : ByteArray := prog_1_method_23_code
def yX5_runs : MethodName := ⟨RX5, "runs", "()I"⟩
abbrev cX5_act : ByteArray := prog_1_method_24_code
def yX5_act : MethodName := ⟨RX5, "act", "(II)I"⟩
abbrev cX5_takeOut : ByteArray := prog_1_method_25_code
def yX5_takeOut : MethodName := ⟨RX5, "takeOut", "(I)I"⟩
abbrev cX5_undo : ByteArray := prog_1_method_26_code
def yX5_undo : MethodName := ⟨RX5, "undo", "()I"⟩
abbrev cX5_idle : ByteArray := prog_1_method_28_code
def yX5_idle : MethodName := ⟨RX5, "idle", "()I"⟩
abbrev cX5_digest : ByteArray := prog_1_method_32_code
def yX5_digest : MethodName := ⟨RX5, "digest", "()J"⟩
abbrev cX5_checkSource : ByteArray := prog_1_method_33_code
def yX5_checkSource : MethodName := ⟨RX5, "checkSource", "(I)V"⟩
abbrev cX5_checkKeyer : ByteArray := prog_1_method_34_code
def yX5_checkKeyer : MethodName := ⟨RX5, "checkKeyer", "(I)V"⟩
abbrev cX5_checkAct : ByteArray := prog_1_method_36_code
def yX5_checkAct : MethodName := ⟨RX5, "checkAct", "(I)V"⟩
abbrev cX5_checkRange : ByteArray := prog_1_method_37_code
def yX5_checkRange : MethodName := ⟨RX5, "checkRange", "(III)V"⟩
abbrev cX5_mayAct : ByteArray := prog_1_method_38_code
def yX5_mayAct : MethodName := ⟨RX5, "mayAct", "(I)Z"⟩
abbrev cX5_enact : ByteArray := prog_1_method_39_code
def yX5_enact : MethodName := ⟨RX5, "enact", "(IIIII)I"⟩
abbrev cX5_replayTo : ByteArray := prog_1_method_41_code
def yX5_replayTo : MethodName := ⟨RX5, "replayTo", "(II)V"⟩
abbrev cX5_replayPresent : ByteArray := prog_1_method_42_code
def yX5_replayPresent : MethodName := ⟨RX5, "replayPresent", "()V"⟩
abbrev cX5_redsAt : ByteArray := prog_1_method_43_code
def yX5_redsAt : MethodName := ⟨RX5, "redsAt", "(I)I"⟩
abbrev cX5_presentSetting : ByteArray := prog_1_method_44_code
def yX5_presentSetting : MethodName := ⟨RX5, "presentSetting", "(I)I"⟩
abbrev cX5_paintTallies : ByteArray := prog_1_method_45_code
def yX5_paintTallies : MethodName := ⟨RX5, "paintTallies", "()V"⟩
abbrev cX5_tallyPainted : ByteArray := prog_1_method_46_code
def yX5_tallyPainted : MethodName := ⟨RX5, "tallyPainted", "(I)I"⟩
abbrev cX5_hashKeyers : ByteArray := prog_1_method_47_code
def yX5_hashKeyers : MethodName := ⟨RX5, "hashKeyers", "(J)J"⟩
abbrev cX5_hashSources : ByteArray := prog_1_method_48_code
def yX5_hashSources : MethodName := ⟨RX5, "hashSources", "(J)J"⟩
abbrev cX5_hashActs : ByteArray := prog_1_method_49_code
def yX5_hashActs : MethodName := ⟨RX5, "hashActs", "(J)J"⟩
abbrev cX5_hashed : ByteArray := prog_1_method_50_code
def yX5_hashed : MethodName := ⟨RX5, "hashed", "(JI)J"⟩
abbrev cX5_hasSource : ByteArray := prog_1_method_51_code
def yX5_hasSource : MethodName := ⟨RX5, "hasSource", "(II)Z"⟩
abbrev cX5_cell : ByteArray := prog_1_method_52_code
def yX5_cell : MethodName := ⟨RX5, "cell", "([II)I"⟩
abbrev cX5_put : ByteArray := prog_1_method_53_code
def yX5_put : MethodName := ⟨RX5, "put", "([III)V"⟩
def RX6 : String := "VisionMixerModel"
def TX6 : u_T := fun k => match k with
  | _ => ("", "", "", false)
def tyX6 : Nat → FieldType := fun k => match k with
  | _ => .int
abbrev wsX60 : List Cond := u_ws RX6 TX6 0
theorem nmX6 : ∀ a, a < 0 → ∀ b, b < 0 → a ≠ b → (TX6 a).2.1 ≠ (TX6 b).2.1 := by decide +kernel
theorem tyX6_ok : ∀ k, k < 0 → parseFieldDescriptor (TX6 k).2.2.1 = some (tyX6 k) := by decide +kernel
def RL : String := "VisionMixerLaw"
abbrev cL_cell : ByteArray := method_2_code
def yL_cell : MethodName := ⟨RL, "cell", "([II)I"⟩
abbrev cL_up : ByteArray := method_3_code
def yL_up : MethodName := ⟨RL, "up", "(II)I"⟩
abbrev cL_other : ByteArray := method_4_code
def yL_other : MethodName := ⟨RL, "other", "(I)I"⟩
abbrev cL_isStill : ByteArray := method_5_code
def yL_isStill : MethodName := ⟨RL, "isStill", "(LVisionMixer;)Z"⟩
abbrev cL_isStep : ByteArray := method_6_code
def yL_isStep : MethodName := ⟨RL, "isStep", "(LVisionMixer;LVisionMixer;I)Z"⟩
abbrev cL_areAlike : ByteArray := method_7_code
def yL_areAlike : MethodName := ⟨RL, "areAlike", "(LVisionMixer;LVisionMixer;)Z"⟩
abbrev cL_isSound : ByteArray := method_8_code
def yL_isSound : MethodName := ⟨RL, "isSound", "(LVisionMixer;)Z"⟩
abbrev cL_law : ByteArray := code
def yL_law : MethodName := ⟨RL, "law", "([I)Z"⟩
set_option maxRecDepth 20000 in
def wsL_law0_r1 : List Cond := [Cond.classLink RL 10 RX5, Cond.instantiable RX5 8, Cond.initialized RX5, Cond.methodLink RL 93 yX5_init, Cond.instanceMethod yX5_init, Cond.code yX5_init cX5_init 1 none, Cond.methodLink RX5 1 objectInit, Cond.instanceMethod objectInit, Cond.code objectInit ⟨#[0xb1]⟩ 1 none, Cond.classLink RX5 7 RX1, Cond.instantiable RX1 14, Cond.initialized RX1, Cond.fieldLink RX5 10 "VisionMixer" "now" "LVisionMixer$Mix;", Cond.fieldLink RX5 16 "VisionMixer" "kept" "LVisionMixer$Mix;", Cond.fieldLink RX5 19 "VisionMixer" "behind" "LVisionMixer$Mix;", Cond.classLink RX5 22 RX0, Cond.instantiable RX0 2, Cond.initialized RX0, Cond.fieldLink RX5 25 "VisionMixer" "log" "LVisionMixer$Log;", Cond.classLink RX5 29 RX3, Cond.instantiable RX3 2, Cond.initialized RX3, Cond.fieldLink RX5 32 "VisionMixer" "replay" "LVisionMixer$Replay;", Cond.classLink RX5 36 RX2]
set_option maxRecDepth 20000 in
def wsL_law0_r2 : List Cond := [Cond.instantiable RX2 1, Cond.initialized RX2, Cond.fieldLink RX5 39 "VisionMixer" "picture" "LVisionMixer$Picture;", Cond.fieldLink RX5 43 "VisionMixer" "other" "LVisionMixer$Picture;", Cond.classLink RX5 46 RX4, Cond.instantiable RX4 6, Cond.initialized RX4, Cond.fieldLink RX5 49 "VisionMixer" "script" "LVisionMixer$Script;", Cond.methodLink RX5 9 yX1_init, Cond.instanceMethod yX1_init, Cond.code yX1_init cX1_init 1 none, Cond.methodLink RX1 3 objectInit, Cond.arrayClass .int, Cond.fieldLink RX1 9 "VisionMixer$Mix" "fills" "[I", Cond.fieldLink RX1 15 "VisionMixer$Mix" "opacities" "[I", Cond.fieldLink RX1 18 "VisionMixer$Mix" "areas" "[I", Cond.methodLink RX1 21 yX1_reset, Cond.instanceMethod yX1_reset, Cond.selects RX1 yX1_reset yX1_reset, Cond.code yX1_reset cX1_reset 2 none, Cond.fieldLink RX1 24 "VisionMixer$Mix" "program" "I", Cond.fieldLink RX1 28 "VisionMixer$Mix" "preview" "I", Cond.fieldLink RX1 31 "VisionMixer$Mix" "kind" "I", Cond.fieldLink RX1 34 "VisionMixer$Mix" "rate" "I"]
set_option maxRecDepth 20000 in
def wsL_law0_r3 : List Cond := [Cond.fieldLink RX1 37 "VisionMixer$Mix" "elements" "I", Cond.fieldLink RX1 40 "VisionMixer$Mix" "position" "I", Cond.fieldLink RX1 43 "VisionMixer$Mix" "run" "I", Cond.fieldLink RX1 46 "VisionMixer$Mix" "time" "I", Cond.fieldLink RX1 49 "VisionMixer$Mix" "runsCompleted" "I", Cond.fieldLink RX1 52 "VisionMixer$Mix" "faults" "I", Cond.fieldLink RX1 55 "VisionMixer$Mix" "keyersOn" "I", Cond.static yX5_put, Cond.code yX5_put cX5_put 3 none, Cond.methodLink RX5 24 yX0_init, Cond.instanceMethod yX0_init, Cond.code yX0_init cX0_init 1 none, Cond.methodLink RX0 1 objectInit, Cond.fieldLink RX0 9 "VisionMixer$Log" "entries" "[I", Cond.methodLink RX5 31 yX3_init, Cond.instanceMethod yX3_init, Cond.code yX3_init cX3_init 1 none, Cond.methodLink RX3 3 objectInit, Cond.classLink RX3 9 RX1, Cond.fieldLink RX3 12 "VisionMixer$Replay" "mix" "LVisionMixer$Mix;", Cond.methodLink RX3 11 yX1_init, Cond.methodLink RX5 38 yX2_init, Cond.instanceMethod yX2_init, Cond.code yX2_init cX2_init 1 none]
set_option maxRecDepth 20000 in
def wsL_law0_r4 : List Cond := [Cond.methodLink RX2 3 objectInit, Cond.fieldLink RX2 9 "VisionMixer$Picture" "parts" "[I", Cond.methodLink RX5 48 yX4_init, Cond.instanceMethod yX4_init, Cond.code yX4_init cX4_init 1 none, Cond.methodLink RX4 3 objectInit, Cond.fieldLink RX4 11 "VisionMixer$Script" "signs" "[I", Cond.fieldLink RX4 15 "VisionMixer$Script" "orders" "[I", Cond.methodLink RL 21 yX5_program, Cond.instanceMethod yX5_program, Cond.selects RX5 yX5_program yX5_program, Cond.code yX5_program cX5_program 2 (some .int), Cond.methodLink RX5 53 yX5_checkSource, Cond.static yX5_checkSource, Cond.code yX5_checkSource cX5_checkSource 1 none, Cond.classLink RX5 68 "java/lang/IndexOutOfBoundsException", Cond.initialized "java/lang/IndexOutOfBoundsException", Cond.methodLink RX5 57 yX5_enact, Cond.instanceMethod yX5_enact, Cond.selects RX5 yX5_enact yX5_enact, Cond.code yX5_enact cX5_enact 6 (some .int), Cond.classLink RX5 75 "java/lang/IllegalStateException", Cond.initialized "java/lang/IllegalStateException", Cond.methodLink RX5 221 yX5_mayAct]
set_option maxRecDepth 20000 in
def wsL_law0_r5 : List Cond := [Cond.instanceMethod yX5_mayAct, Cond.selects RX5 yX5_mayAct yX5_mayAct, Cond.code yX5_mayAct cX5_mayAct 2 (some .boolean), Cond.methodLink RX5 217 yX0_isFull, Cond.instanceMethod yX0_isFull, Cond.selects RX0 yX0_isFull yX0_isFull, Cond.code yX0_isFull cX0_isFull 1 (some .boolean), Cond.fieldLink RX0 13 "VisionMixer$Log" "count" "I", Cond.methodLink RX5 218 yX1_isPossible, Cond.instanceMethod yX1_isPossible, Cond.selects RX1 yX1_isPossible yX1_isPossible, Cond.code yX1_isPossible cX1_isPossible 2 (some .boolean), Cond.methodLink RX5 224 yX0_add, Cond.instanceMethod yX0_add, Cond.selects RX0 yX0_add yX0_add, Cond.code yX0_add cX0_add 8 none, Cond.methodLink RX5 227 yX1_perform, Cond.instanceMethod yX1_perform, Cond.selects RX1 yX1_perform yX1_perform, Cond.code yX1_perform cX1_perform 6 (some .int), Cond.methodLink RX1 66 yX1_setProgram, Cond.instanceMethod yX1_setProgram, Cond.selects RX1 yX1_setProgram yX1_setProgram, Cond.code yX1_setProgram cX1_setProgram 3 (some .int)]
set_option maxRecDepth 20000 in
def wsL_law0_r6 : List Cond := [Cond.methodLink RX1 70 yX1_setPreview, Cond.instanceMethod yX1_setPreview, Cond.selects RX1 yX1_setPreview yX1_setPreview, Cond.code yX1_setPreview cX1_setPreview 3 (some .int), Cond.methodLink RX1 73 yX1_setKindAndRate, Cond.instanceMethod yX1_setKindAndRate, Cond.selects RX1 yX1_setKindAndRate yX1_setKindAndRate, Cond.code yX1_setKindAndRate cX1_setKindAndRate 4 (some .int), Cond.methodLink RX1 77 yX1_setElements, Cond.instanceMethod yX1_setElements, Cond.selects RX1 yX1_setElements yX1_setElements, Cond.code yX1_setElements cX1_setElements 3 (some .int), Cond.methodLink RX1 80 yX1_setKeyer, Cond.instanceMethod yX1_setKeyer, Cond.selects RX1 yX1_setKeyer yX1_setKeyer, Cond.code yX1_setKeyer cX1_setKeyer 6 (some .int), Cond.static yX5_cell, Cond.code yX5_cell cX5_cell 2 (some .int), Cond.methodLink RX1 84 yX1_switchKeyer, Cond.instanceMethod yX1_switchKeyer, Cond.selects RX1 yX1_switchKeyer yX1_switchKeyer, Cond.code yX1_switchKeyer cX1_switchKeyer 2 (some .int), Cond.methodLink RX1 96 yX1_isOn, Cond.instanceMethod yX1_isOn]
set_option maxRecDepth 20000 in
def wsL_law0_r7 : List Cond := [Cond.selects RX1 yX1_isOn yX1_isOn, Cond.code yX1_isOn cX1_isOn 2 (some .boolean), Cond.methodLink RX1 87 yX1_complete, Cond.instanceMethod yX1_complete, Cond.selects RX1 yX1_complete yX1_complete, Cond.code yX1_complete cX1_complete 2 none, Cond.methodLink RX1 100 yX1_movesBackground, Cond.instanceMethod yX1_movesBackground, Cond.selects RX1 yX1_movesBackground yX1_movesBackground, Cond.code yX1_movesBackground cX1_movesBackground 1 (some .boolean), Cond.methodLink RX1 90 yX1_setPosition, Cond.instanceMethod yX1_setPosition, Cond.selects RX1 yX1_setPosition yX1_setPosition, Cond.code yX1_setPosition cX1_setPosition 3 (some .int), Cond.methodLink RX1 93 yX1_setFault, Cond.instanceMethod yX1_setFault, Cond.selects RX1 yX1_setFault yX1_setFault, Cond.code yX1_setFault cX1_setFault 4 (some .int), Cond.methodLink RL 27 yX5_preview, Cond.instanceMethod yX5_preview, Cond.selects RX5 yX5_preview yX5_preview, Cond.code yX5_preview cX5_preview 2 (some .int), Cond.methodLink RL 40 yX5_key, Cond.instanceMethod yX5_key]
set_option maxRecDepth 20000 in
def wsL_law0_r8 : List Cond := [Cond.selects RX5 yX5_key yX5_key, Cond.code yX5_key cX5_key 5 (some .int), Cond.methodLink RX5 65 yX5_checkKeyer, Cond.static yX5_checkKeyer, Cond.code yX5_checkKeyer cX5_checkKeyer 1 none, Cond.methodLink RX5 61 yX5_checkRange, Cond.static yX5_checkRange, Cond.code yX5_checkRange cX5_checkRange 3 none, Cond.classLink RX5 214 "java/lang/IllegalArgumentException", Cond.initialized "java/lang/IllegalArgumentException", Cond.methodLink RL 94 yL_cell, Cond.static yL_cell, Cond.initialized RL, Cond.code yL_cell cL_cell 2 (some .int), Cond.constant RL 7 (1103515245), Cond.methodLink RL 98 yL_isStep, Cond.static yL_isStep, Cond.code yL_isStep cL_isStep 5 (some .boolean), Cond.methodLink RL 15 yL_up, Cond.static yL_up, Cond.code yL_up cL_up 2 (some .int), Cond.constant RL 8 (2147483647), Cond.methodLink RL 24 yL_other, Cond.static yL_other]
set_option maxRecDepth 20000 in
def wsL_law0_r9 : List Cond := [Cond.code yL_other cL_other 1 (some .int), Cond.methodLink RL 30 yX5_transition, Cond.instanceMethod yX5_transition, Cond.selects RX5 yX5_transition yX5_transition, Cond.code yX5_transition cX5_transition 3 (some .int), Cond.methodLink RL 33 yL_isStill, Cond.static yL_isStill, Cond.code yL_isStill cL_isStill 1 (some .boolean), Cond.methodLink RL 9 yX5_setting, Cond.instanceMethod yX5_setting, Cond.selects RX5 yX5_setting yX5_setting, Cond.code yX5_setting cX5_setting 2 (some .int), Cond.methodLink RX5 81 yX5_presentSetting, Cond.instanceMethod yX5_presentSetting, Cond.selects RX5 yX5_presentSetting yX5_presentSetting, Cond.code yX5_presentSetting cX5_presentSetting 2 (some .int), Cond.methodLink RX5 160 yX0_size, Cond.instanceMethod yX0_size, Cond.selects RX0 yX0_size yX0_size, Cond.code yX0_size cX0_size 1 (some .int), Cond.methodLink RX5 123 yX1_tellSetting, Cond.instanceMethod yX1_tellSetting, Cond.selects RX1 yX1_tellSetting yX1_tellSetting, Cond.code yX1_tellSetting cX1_tellSetting 2 (some .int)]
set_option maxRecDepth 20000 in
def wsL_law0_r10 : List Cond := [Cond.methodLink RL 37 yX5_next, Cond.instanceMethod yX5_next, Cond.selects RX5 yX5_next yX5_next, Cond.code yX5_next cX5_next 2 (some .int), Cond.methodLink RL 44 yX5_toggle, Cond.instanceMethod yX5_toggle, Cond.selects RX5 yX5_toggle yX5_toggle, Cond.code yX5_toggle cX5_toggle 2 (some .int), Cond.methodLink RL 47 yX5_cut, Cond.instanceMethod yX5_cut, Cond.selects RX5 yX5_cut yX5_cut, Cond.code yX5_cut cX5_cut 1 (some .int), Cond.methodLink RL 51 yX5_auto, Cond.instanceMethod yX5_auto, Cond.selects RX5 yX5_auto yX5_auto, Cond.code yX5_auto cX5_auto 1 (some .int), Cond.methodLink RL 54 yX5_bar, Cond.instanceMethod yX5_bar, Cond.selects RX5 yX5_bar yX5_bar, Cond.code yX5_bar cX5_bar 2 (some .int), Cond.methodLink RL 57 yX5_fault, Cond.instanceMethod yX5_fault, Cond.selects RX5 yX5_fault yX5_fault, Cond.code yX5_fault cX5_fault 3 (some .int)]
set_option maxRecDepth 20000 in
def wsL_law0_r11 : List Cond := [Cond.methodLink RL 61 yX5_pass, Cond.instanceMethod yX5_pass, Cond.selects RX5 yX5_pass yX5_pass, Cond.code yX5_pass cX5_pass 2 (some .int), Cond.methodLink RX5 78 yX1_letPass, Cond.instanceMethod yX1_letPass, Cond.selects RX1 yX1_letPass yX1_letPass, Cond.code yX1_letPass cX1_letPass 2 none, Cond.methodLink RX1 104 Lib.Math.max.name, Cond.static Lib.Math.max.name, Cond.initialized "java/lang/Math", Cond.code Lib.Math.max.name Lib.Math.max.code 2 (some .int), Cond.methodLink RL 102 yL_areAlike, Cond.static yL_areAlike, Cond.code yL_areAlike cL_areAlike 4 (some .boolean), Cond.methodLink RL 64 yX5_faulty, Cond.instanceMethod yX5_faulty, Cond.selects RX5 yX5_faulty yX5_faulty, Cond.code yX5_faulty cX5_faulty 1 (some .double), Cond.constantDouble RX5 111 (4696837146684686336), Cond.methodLink RX5 89 yX2_paint, Cond.instanceMethod yX2_paint, Cond.selects RX2 yX2_paint yX2_paint, Cond.code yX2_paint cX2_paint 3 none]
set_option maxRecDepth 20000 in
def wsL_law0_r12 : List Cond := [Cond.methodLink RX2 19 yX2_paintBackground, Cond.instanceMethod yX2_paintBackground, Cond.selects RX2 yX2_paintBackground yX2_paintBackground, Cond.code yX2_paintBackground cX2_paintBackground 3 none, Cond.constant RX2 47 (1000000), Cond.constant RX2 57 (2000000), Cond.methodLink RX2 40 yX1_movesBackground, Cond.methodLink RX2 48 yX2_addPart, Cond.instanceMethod yX2_addPart, Cond.selects RX2 yX2_addPart yX2_addPart, Cond.code yX2_addPart cX2_addPart 3 none, Cond.methodLink RX2 23 yX1_fillOf, Cond.instanceMethod yX1_fillOf, Cond.selects RX1 yX1_fillOf yX1_fillOf, Cond.code yX1_fillOf cX1_fillOf 2 (some .int), Cond.methodLink RX2 29 yX1_coverOf, Cond.instanceMethod yX1_coverOf, Cond.selects RX1 yX1_coverOf yX1_coverOf, Cond.code yX1_coverOf cX1_coverOf 4 (some .int), Cond.methodLink RX1 109 yX1_moves, Cond.instanceMethod yX1_moves, Cond.selects RX1 yX1_moves yX1_moves, Cond.code yX1_moves cX1_moves 2 (some .boolean), Cond.methodLink RX2 32 yX2_layOver]
set_option maxRecDepth 20000 in
def wsL_law0_r13 : List Cond := [Cond.instanceMethod yX2_layOver, Cond.selects RX2 yX2_layOver yX2_layOver, Cond.code yX2_layOver cX2_layOver 6 none, Cond.constantLong RX2 62 (10000), Cond.methodLink RX5 108 yX2_faultyParts, Cond.instanceMethod yX2_faultyParts, Cond.selects RX2 yX2_faultyParts yX2_faultyParts, Cond.code yX2_faultyParts cX2_faultyParts 4 (some .int), Cond.static yX5_hasSource, Cond.code yX5_hasSource cX5_hasSource 2 (some .boolean), Cond.methodLink RX2 64 yX2_partOf, Cond.instanceMethod yX2_partOf, Cond.selects RX2 yX2_partOf yX2_partOf, Cond.code yX2_partOf cX2_partOf 2 (some .int), Cond.methodLink RL 68 yX5_longestShot, Cond.instanceMethod yX5_longestShot, Cond.selects RX5 yX5_longestShot yX5_longestShot, Cond.code yX5_longestShot cX5_longestShot 7 (some .int), Cond.methodLink RX5 140 Lib.Math.max.name, Cond.methodLink RX5 126 yX3_begin, Cond.instanceMethod yX3_begin, Cond.selects RX3 yX3_begin yX3_begin, Cond.code yX3_begin cX3_begin 1 none, Cond.fieldLink RX3 21 "VisionMixer$Replay" "upcoming" "I"]
set_option maxRecDepth 20000 in
def wsL_law0_r14 : List Cond := [Cond.methodLink RX3 18 yX1_reset, Cond.methodLink RX5 129 yX5_redsAt, Cond.instanceMethod yX5_redsAt, Cond.selects RX5 yX5_redsAt yX5_redsAt, Cond.code yX5_redsAt cX5_redsAt 2 (some .int), Cond.methodLink RX5 239 yX3_goTo, Cond.instanceMethod yX3_goTo, Cond.selects RX3 yX3_goTo yX3_goTo, Cond.code yX3_goTo cX3_goTo 4 none, Cond.methodLink RX3 25 yX0_size, Cond.methodLink RX3 31 yX0_timeOf, Cond.instanceMethod yX0_timeOf, Cond.selects RX0 yX0_timeOf yX0_timeOf, Cond.code yX0_timeOf cX0_timeOf 2 (some .int), Cond.methodLink RX0 27 yX0_tell, Cond.instanceMethod yX0_tell, Cond.selects RX0 yX0_tell yX0_tell, Cond.code yX0_tell cX0_tell 3 (some .int), Cond.methodLink RX3 38 yX1_letPass, Cond.methodLink RX3 42 yX0_redo, Cond.instanceMethod yX0_redo, Cond.selects RX0 yX0_redo yX0_redo, Cond.code yX0_redo cX0_redo 4 none, Cond.methodLink RX0 31 yX1_isPossible]
set_option maxRecDepth 20000 in
def wsL_law0_r15 : List Cond := [Cond.methodLink RX0 37 yX1_perform, Cond.methodLink RX5 164 yX2_reds, Cond.instanceMethod yX2_reds, Cond.selects RX2 yX2_reds yX2_reds, Cond.code yX2_reds cX2_reds 3 (some .int), Cond.methodLink RX5 136 yX3_sameTimes, Cond.instanceMethod yX3_sameTimes, Cond.selects RX3 yX3_sameTimes yX3_sameTimes, Cond.code yX3_sameTimes cX3_sameTimes 4 (some .int), Cond.methodLink RX3 49 Lib.Math.min.name, Cond.static Lib.Math.min.name, Cond.code Lib.Math.min.name Lib.Math.min.code 2 (some .int), Cond.methodLink RL 71 yX5_runs, Cond.instanceMethod yX5_runs, Cond.selects RX5 yX5_runs yX5_runs, Cond.code yX5_runs cX5_runs 1 (some .int), Cond.methodLink RX5 116 yX5_replayTo, Cond.instanceMethod yX5_replayTo, Cond.selects RX5 yX5_replayTo yX5_replayTo, Cond.code yX5_replayTo cX5_replayTo 3 none, Cond.methodLink RL 74 yX5_share, Cond.instanceMethod yX5_share, Cond.selects RX5 yX5_share yX5_share, Cond.code yX5_share cX5_share 3 (some .int)]
set_option maxRecDepth 20000 in
def wsL_law0_r16 : List Cond := [Cond.methodLink RX5 96 yX2_seenOf, Cond.instanceMethod yX2_seenOf, Cond.selects RX2 yX2_seenOf yX2_seenOf, Cond.code yX2_seenOf cX2_seenOf 3 (some .int), Cond.methodLink RX2 67 yX2_faultyParts, Cond.methodLink RX5 99 yX2_partOf, Cond.methodLink RL 77 yX5_tally, Cond.instanceMethod yX5_tally, Cond.selects RX5 yX5_tally yX5_tally, Cond.code yX5_tally cX5_tally 2 (some .int), Cond.methodLink RX5 102 yX5_paintTallies, Cond.instanceMethod yX5_paintTallies, Cond.selects RX5 yX5_paintTallies yX5_paintTallies, Cond.code yX5_paintTallies cX5_paintTallies 1 none, Cond.methodLink RX5 184 yX1_copy, Cond.instanceMethod yX1_copy, Cond.selects RX1 yX1_copy yX1_copy, Cond.code yX1_copy cX1_copy 3 none, Cond.methodLink RX5 243 yX1_complete, Cond.methodLink RX5 105 yX5_tallyPainted, Cond.instanceMethod yX5_tallyPainted, Cond.selects RX5 yX5_tallyPainted yX5_tallyPainted, Cond.code yX5_tallyPainted cX5_tallyPainted 2 (some .int), Cond.methodLink RL 80 yX5_timesRed]
set_option maxRecDepth 20000 in
def wsL_law0_r17 : List Cond := [Cond.instanceMethod yX5_timesRed, Cond.selects RX5 yX5_timesRed yX5_timesRed, Cond.code yX5_timesRed cX5_timesRed 6 (some .int), Cond.methodLink RX5 132 yX5_hasSource, Cond.methodLink RL 106 yL_isSound, Cond.static yL_isSound, Cond.code yL_isSound cL_isSound 5 (some .boolean), Cond.constant RL 89 (1000000), Cond.methodLink RL 83 yX5_firstRed, Cond.instanceMethod yX5_firstRed, Cond.selects RX5 yX5_firstRed yX5_firstRed, Cond.code yX5_firstRed cX5_firstRed 4 (some .int), Cond.methodLink RL 86 yX5_act, Cond.instanceMethod yX5_act, Cond.selects RX5 yX5_act yX5_act, Cond.code yX5_act cX5_act 3 (some .int), Cond.methodLink RX5 148 yX5_checkAct, Cond.instanceMethod yX5_checkAct, Cond.selects RX5 yX5_checkAct yX5_checkAct, Cond.code yX5_checkAct cX5_checkAct 2 none, Cond.methodLink RX5 151 yX0_tell, Cond.methodLink RL 90 yX5_idle, Cond.instanceMethod yX5_idle, Cond.selects RX5 yX5_idle yX5_idle]
set_option maxRecDepth 20000 in
def wsL_law0_r18 : List Cond := [Cond.code yX5_idle cX5_idle 3 (some .int), Cond.methodLink RX5 167 yX2_sameParts, Cond.instanceMethod yX2_sameParts, Cond.selects RX2 yX2_sameParts yX2_sameParts, Cond.code yX2_sameParts cX2_sameParts 3 (some .boolean), Cond.methodLink RL 109 yX5_digest, Cond.instanceMethod yX5_digest, Cond.selects RX5 yX5_digest yX5_digest, Cond.code yX5_digest cX5_digest 4 (some .long), Cond.constantLong RX5 197 (3253), Cond.methodLink RX5 199 yX4_size, Cond.instanceMethod yX4_size, Cond.selects RX4 yX4_size yX4_size, Cond.code yX4_size cX4_size 1 (some .int), Cond.fieldLink RX4 18 "VisionMixer$Script" "length" "I", Cond.methodLink RX5 200 yX5_hashed, Cond.static yX5_hashed, Cond.code yX5_hashed cX5_hashed 3 (some .long), Cond.constantLong RX5 246 (31), Cond.methodLink RX5 204 yX5_hashKeyers, Cond.instanceMethod yX5_hashKeyers, Cond.selects RX5 yX5_hashKeyers yX5_hashKeyers, Cond.code yX5_hashKeyers cX5_hashKeyers 7 (some .long), Cond.methodLink RX5 85 yX1_tellKeyer]
set_option maxRecDepth 20000 in
def wsL_law0_r19 : List Cond := [Cond.instanceMethod yX1_tellKeyer, Cond.selects RX1 yX1_tellKeyer yX1_tellKeyer, Cond.code yX1_tellKeyer cX1_tellKeyer 3 (some .int), Cond.methodLink RX5 208 yX5_hashSources, Cond.instanceMethod yX5_hashSources, Cond.selects RX5 yX5_hashSources yX5_hashSources, Cond.code yX5_hashSources cX5_hashSources 6 (some .long), Cond.methodLink RX5 211 yX5_hashActs, Cond.instanceMethod yX5_hashActs, Cond.selects RX5 yX5_hashActs yX5_hashActs, Cond.code yX5_hashActs cX5_hashActs 7 (some .long), Cond.methodLink RL 113 yX5_undo, Cond.instanceMethod yX5_undo, Cond.selects RX5 yX5_undo yX5_undo, Cond.code yX5_undo cX5_undo 1 (some .int), Cond.methodLink RX5 154 yX0_remove, Cond.instanceMethod yX0_remove, Cond.selects RX0 yX0_remove yX0_remove, Cond.code yX0_remove cX0_remove 3 none, Cond.methodLink RX5 157 yX5_replayPresent, Cond.instanceMethod yX5_replayPresent, Cond.selects RX5 yX5_replayPresent yX5_replayPresent, Cond.code yX5_replayPresent cX5_replayPresent 1 none, Cond.methodLink RL 116 yX5_takeOut]
set_option maxRecDepth 20000 in
def wsL_law0_r20 : List Cond := [Cond.instanceMethod yX5_takeOut, Cond.selects RX5 yX5_takeOut yX5_takeOut, Cond.code yX5_takeOut cX5_takeOut 2 (some .int)]
set_option maxRecDepth 20000 in
def wsL_law0 : List Cond := (wsL_law0_r1 ++ (wsL_law0_r2 ++ (wsL_law0_r3 ++ (wsL_law0_r4 ++ (wsL_law0_r5 ++ (wsL_law0_r6 ++ (wsL_law0_r7 ++ (wsL_law0_r8 ++ (wsL_law0_r9 ++ (wsL_law0_r10 ++ (wsL_law0_r11 ++ (wsL_law0_r12 ++ (wsL_law0_r13 ++ (wsL_law0_r14 ++ (wsL_law0_r15 ++ (wsL_law0_r16 ++ (wsL_law0_r17 ++ (wsL_law0_r18 ++ (wsL_law0_r19 ++ wsL_law0_r20))))))))))))))))))) ++ wsX50 ++ wsX10 ++ wsX00 ++ wsX30 ++ wsX20 ++ wsX40 ++ ([] : List Cond)
set_option maxRecDepth 20000 in
def wsL_law : List Cond := wsL_law0 ++ (vx_at0 RX5 70 "java/lang/IndexOutOfBoundsException" ["java/lang/RuntimeException", "java/lang/Exception"]).filter goodWord ++ (vx_at0 RX5 77 "java/lang/IllegalStateException" ["java/lang/RuntimeException", "java/lang/Exception"]).filter goodWord ++ (vx_at0 RX5 216 "java/lang/IllegalArgumentException" ["java/lang/RuntimeException", "java/lang/Exception"]).filter goodWord
theorem inlX0 : ∀ w ∈ wsX00, w ∈ wsL_law := fun _ h => List.mem_append_left _ (List.mem_append_left _ (List.mem_append_left _ (List.mem_append_left _ (List.mem_append_left _ (List.mem_append_left _ (List.mem_append_left _ (List.mem_append_right _ h)))))))
theorem inlX1 : ∀ w ∈ wsX10, w ∈ wsL_law := fun _ h => List.mem_append_left _ (List.mem_append_left _ (List.mem_append_left _ (List.mem_append_left _ (List.mem_append_left _ (List.mem_append_left _ (List.mem_append_left _ (List.mem_append_left _ (List.mem_append_right _ h))))))))
theorem inlX2 : ∀ w ∈ wsX20, w ∈ wsL_law := fun _ h => List.mem_append_left _ (List.mem_append_left _ (List.mem_append_left _ (List.mem_append_left _ (List.mem_append_left _ (List.mem_append_right _ h)))))
theorem inlX3 : ∀ w ∈ wsX30, w ∈ wsL_law := fun _ h => List.mem_append_left _ (List.mem_append_left _ (List.mem_append_left _ (List.mem_append_left _ (List.mem_append_left _ (List.mem_append_left _ (List.mem_append_right _ h))))))
theorem inlX4 : ∀ w ∈ wsX40, w ∈ wsL_law := fun _ h => List.mem_append_left _ (List.mem_append_left _ (List.mem_append_left _ (List.mem_append_left _ (List.mem_append_right _ h))))
theorem inlX5 : ∀ w ∈ wsX50, w ∈ wsL_law := fun _ h => List.mem_append_left _ (List.mem_append_left _ (List.mem_append_left _ (List.mem_append_left _ (List.mem_append_left _ (List.mem_append_left _ (List.mem_append_left _ (List.mem_append_left _ (List.mem_append_left _ (List.mem_append_right _ h)))))))))
abbrev vwCl : List vw_C := [(RX0, TX0, 2), (RX1, TX1, 14), (RX2, TX2, 1), (RX3, TX3, 2), (RX4, TX4, 6), (RX5, TX5, 8)]
theorem mm_r1 : ∀ w ∈ wsL_law0_r1, w ∈ wsL_law := fun w h => (List.mem_append_left _ (List.mem_append_left _ (List.mem_append_left _ (List.mem_append_left _ (List.mem_append_left _ (List.mem_append_left _ (List.mem_append_left _ (List.mem_append_left _ (List.mem_append_left _ (List.mem_append_left _ (List.mem_append_left _ h)))))))))))
theorem mm_r2 : ∀ w ∈ wsL_law0_r2, w ∈ wsL_law := fun w h => (List.mem_append_left _ (List.mem_append_left _ (List.mem_append_left _ (List.mem_append_left _ (List.mem_append_left _ (List.mem_append_left _ (List.mem_append_left _ (List.mem_append_left _ (List.mem_append_left _ (List.mem_append_left _ (List.mem_append_right _ (List.mem_append_left _ h))))))))))))
theorem mm_r3 : ∀ w ∈ wsL_law0_r3, w ∈ wsL_law := fun w h => (List.mem_append_left _ (List.mem_append_left _ (List.mem_append_left _ (List.mem_append_left _ (List.mem_append_left _ (List.mem_append_left _ (List.mem_append_left _ (List.mem_append_left _ (List.mem_append_left _ (List.mem_append_left _ (List.mem_append_right _ (List.mem_append_right _ (List.mem_append_left _ h)))))))))))))
theorem mm_r4 : ∀ w ∈ wsL_law0_r4, w ∈ wsL_law := fun w h => (List.mem_append_left _ (List.mem_append_left _ (List.mem_append_left _ (List.mem_append_left _ (List.mem_append_left _ (List.mem_append_left _ (List.mem_append_left _ (List.mem_append_left _ (List.mem_append_left _ (List.mem_append_left _ (List.mem_append_right _ (List.mem_append_right _ (List.mem_append_right _ (List.mem_append_left _ h))))))))))))))
theorem mm_r5 : ∀ w ∈ wsL_law0_r5, w ∈ wsL_law := fun w h => (List.mem_append_left _ (List.mem_append_left _ (List.mem_append_left _ (List.mem_append_left _ (List.mem_append_left _ (List.mem_append_left _ (List.mem_append_left _ (List.mem_append_left _ (List.mem_append_left _ (List.mem_append_left _ (List.mem_append_right _ (List.mem_append_right _ (List.mem_append_right _ (List.mem_append_right _ (List.mem_append_left _ h)))))))))))))))
theorem mm_r6 : ∀ w ∈ wsL_law0_r6, w ∈ wsL_law := fun w h => (List.mem_append_left _ (List.mem_append_left _ (List.mem_append_left _ (List.mem_append_left _ (List.mem_append_left _ (List.mem_append_left _ (List.mem_append_left _ (List.mem_append_left _ (List.mem_append_left _ (List.mem_append_left _ (List.mem_append_right _ (List.mem_append_right _ (List.mem_append_right _ (List.mem_append_right _ (List.mem_append_right _ (List.mem_append_left _ h))))))))))))))))
theorem mm_r7 : ∀ w ∈ wsL_law0_r7, w ∈ wsL_law := fun w h => (List.mem_append_left _ (List.mem_append_left _ (List.mem_append_left _ (List.mem_append_left _ (List.mem_append_left _ (List.mem_append_left _ (List.mem_append_left _ (List.mem_append_left _ (List.mem_append_left _ (List.mem_append_left _ (List.mem_append_right _ (List.mem_append_right _ (List.mem_append_right _ (List.mem_append_right _ (List.mem_append_right _ (List.mem_append_right _ (List.mem_append_left _ h)))))))))))))))))
theorem mm_r8 : ∀ w ∈ wsL_law0_r8, w ∈ wsL_law := fun w h => (List.mem_append_left _ (List.mem_append_left _ (List.mem_append_left _ (List.mem_append_left _ (List.mem_append_left _ (List.mem_append_left _ (List.mem_append_left _ (List.mem_append_left _ (List.mem_append_left _ (List.mem_append_left _ (List.mem_append_right _ (List.mem_append_right _ (List.mem_append_right _ (List.mem_append_right _ (List.mem_append_right _ (List.mem_append_right _ (List.mem_append_right _ (List.mem_append_left _ h))))))))))))))))))
theorem mm_r9 : ∀ w ∈ wsL_law0_r9, w ∈ wsL_law := fun w h => (List.mem_append_left _ (List.mem_append_left _ (List.mem_append_left _ (List.mem_append_left _ (List.mem_append_left _ (List.mem_append_left _ (List.mem_append_left _ (List.mem_append_left _ (List.mem_append_left _ (List.mem_append_left _ (List.mem_append_right _ (List.mem_append_right _ (List.mem_append_right _ (List.mem_append_right _ (List.mem_append_right _ (List.mem_append_right _ (List.mem_append_right _ (List.mem_append_right _ (List.mem_append_left _ h)))))))))))))))))))
theorem mm_r10 : ∀ w ∈ wsL_law0_r10, w ∈ wsL_law := fun w h => (List.mem_append_left _ (List.mem_append_left _ (List.mem_append_left _ (List.mem_append_left _ (List.mem_append_left _ (List.mem_append_left _ (List.mem_append_left _ (List.mem_append_left _ (List.mem_append_left _ (List.mem_append_left _ (List.mem_append_right _ (List.mem_append_right _ (List.mem_append_right _ (List.mem_append_right _ (List.mem_append_right _ (List.mem_append_right _ (List.mem_append_right _ (List.mem_append_right _ (List.mem_append_right _ (List.mem_append_left _ h))))))))))))))))))))
theorem mm_r11 : ∀ w ∈ wsL_law0_r11, w ∈ wsL_law := fun w h => (List.mem_append_left _ (List.mem_append_left _ (List.mem_append_left _ (List.mem_append_left _ (List.mem_append_left _ (List.mem_append_left _ (List.mem_append_left _ (List.mem_append_left _ (List.mem_append_left _ (List.mem_append_left _ (List.mem_append_right _ (List.mem_append_right _ (List.mem_append_right _ (List.mem_append_right _ (List.mem_append_right _ (List.mem_append_right _ (List.mem_append_right _ (List.mem_append_right _ (List.mem_append_right _ (List.mem_append_right _ (List.mem_append_left _ h)))))))))))))))))))))
theorem mm_r12 : ∀ w ∈ wsL_law0_r12, w ∈ wsL_law := fun w h => (List.mem_append_left _ (List.mem_append_left _ (List.mem_append_left _ (List.mem_append_left _ (List.mem_append_left _ (List.mem_append_left _ (List.mem_append_left _ (List.mem_append_left _ (List.mem_append_left _ (List.mem_append_left _ (List.mem_append_right _ (List.mem_append_right _ (List.mem_append_right _ (List.mem_append_right _ (List.mem_append_right _ (List.mem_append_right _ (List.mem_append_right _ (List.mem_append_right _ (List.mem_append_right _ (List.mem_append_right _ (List.mem_append_right _ (List.mem_append_left _ h))))))))))))))))))))))
theorem mm_r13 : ∀ w ∈ wsL_law0_r13, w ∈ wsL_law := fun w h => (List.mem_append_left _ (List.mem_append_left _ (List.mem_append_left _ (List.mem_append_left _ (List.mem_append_left _ (List.mem_append_left _ (List.mem_append_left _ (List.mem_append_left _ (List.mem_append_left _ (List.mem_append_left _ (List.mem_append_right _ (List.mem_append_right _ (List.mem_append_right _ (List.mem_append_right _ (List.mem_append_right _ (List.mem_append_right _ (List.mem_append_right _ (List.mem_append_right _ (List.mem_append_right _ (List.mem_append_right _ (List.mem_append_right _ (List.mem_append_right _ (List.mem_append_left _ h)))))))))))))))))))))))
theorem mm_r14 : ∀ w ∈ wsL_law0_r14, w ∈ wsL_law := fun w h => (List.mem_append_left _ (List.mem_append_left _ (List.mem_append_left _ (List.mem_append_left _ (List.mem_append_left _ (List.mem_append_left _ (List.mem_append_left _ (List.mem_append_left _ (List.mem_append_left _ (List.mem_append_left _ (List.mem_append_right _ (List.mem_append_right _ (List.mem_append_right _ (List.mem_append_right _ (List.mem_append_right _ (List.mem_append_right _ (List.mem_append_right _ (List.mem_append_right _ (List.mem_append_right _ (List.mem_append_right _ (List.mem_append_right _ (List.mem_append_right _ (List.mem_append_right _ (List.mem_append_left _ h))))))))))))))))))))))))
theorem mm_r15 : ∀ w ∈ wsL_law0_r15, w ∈ wsL_law := fun w h => (List.mem_append_left _ (List.mem_append_left _ (List.mem_append_left _ (List.mem_append_left _ (List.mem_append_left _ (List.mem_append_left _ (List.mem_append_left _ (List.mem_append_left _ (List.mem_append_left _ (List.mem_append_left _ (List.mem_append_right _ (List.mem_append_right _ (List.mem_append_right _ (List.mem_append_right _ (List.mem_append_right _ (List.mem_append_right _ (List.mem_append_right _ (List.mem_append_right _ (List.mem_append_right _ (List.mem_append_right _ (List.mem_append_right _ (List.mem_append_right _ (List.mem_append_right _ (List.mem_append_right _ (List.mem_append_left _ h)))))))))))))))))))))))))
theorem mm_r16 : ∀ w ∈ wsL_law0_r16, w ∈ wsL_law := fun w h => (List.mem_append_left _ (List.mem_append_left _ (List.mem_append_left _ (List.mem_append_left _ (List.mem_append_left _ (List.mem_append_left _ (List.mem_append_left _ (List.mem_append_left _ (List.mem_append_left _ (List.mem_append_left _ (List.mem_append_right _ (List.mem_append_right _ (List.mem_append_right _ (List.mem_append_right _ (List.mem_append_right _ (List.mem_append_right _ (List.mem_append_right _ (List.mem_append_right _ (List.mem_append_right _ (List.mem_append_right _ (List.mem_append_right _ (List.mem_append_right _ (List.mem_append_right _ (List.mem_append_right _ (List.mem_append_right _ (List.mem_append_left _ h))))))))))))))))))))))))))
theorem mm_r17 : ∀ w ∈ wsL_law0_r17, w ∈ wsL_law := fun w h => (List.mem_append_left _ (List.mem_append_left _ (List.mem_append_left _ (List.mem_append_left _ (List.mem_append_left _ (List.mem_append_left _ (List.mem_append_left _ (List.mem_append_left _ (List.mem_append_left _ (List.mem_append_left _ (List.mem_append_right _ (List.mem_append_right _ (List.mem_append_right _ (List.mem_append_right _ (List.mem_append_right _ (List.mem_append_right _ (List.mem_append_right _ (List.mem_append_right _ (List.mem_append_right _ (List.mem_append_right _ (List.mem_append_right _ (List.mem_append_right _ (List.mem_append_right _ (List.mem_append_right _ (List.mem_append_right _ (List.mem_append_right _ (List.mem_append_left _ h)))))))))))))))))))))))))))
theorem mm_r18 : ∀ w ∈ wsL_law0_r18, w ∈ wsL_law := fun w h => (List.mem_append_left _ (List.mem_append_left _ (List.mem_append_left _ (List.mem_append_left _ (List.mem_append_left _ (List.mem_append_left _ (List.mem_append_left _ (List.mem_append_left _ (List.mem_append_left _ (List.mem_append_left _ (List.mem_append_right _ (List.mem_append_right _ (List.mem_append_right _ (List.mem_append_right _ (List.mem_append_right _ (List.mem_append_right _ (List.mem_append_right _ (List.mem_append_right _ (List.mem_append_right _ (List.mem_append_right _ (List.mem_append_right _ (List.mem_append_right _ (List.mem_append_right _ (List.mem_append_right _ (List.mem_append_right _ (List.mem_append_right _ (List.mem_append_right _ (List.mem_append_left _ h))))))))))))))))))))))))))))
theorem mm_r19 : ∀ w ∈ wsL_law0_r19, w ∈ wsL_law := fun w h => (List.mem_append_left _ (List.mem_append_left _ (List.mem_append_left _ (List.mem_append_left _ (List.mem_append_left _ (List.mem_append_left _ (List.mem_append_left _ (List.mem_append_left _ (List.mem_append_left _ (List.mem_append_left _ (List.mem_append_right _ (List.mem_append_right _ (List.mem_append_right _ (List.mem_append_right _ (List.mem_append_right _ (List.mem_append_right _ (List.mem_append_right _ (List.mem_append_right _ (List.mem_append_right _ (List.mem_append_right _ (List.mem_append_right _ (List.mem_append_right _ (List.mem_append_right _ (List.mem_append_right _ (List.mem_append_right _ (List.mem_append_right _ (List.mem_append_right _ (List.mem_append_right _ (List.mem_append_left _ h)))))))))))))))))))))))))))))
theorem mm_r20 : ∀ w ∈ wsL_law0_r20, w ∈ wsL_law := fun w h => (List.mem_append_left _ (List.mem_append_left _ (List.mem_append_left _ (List.mem_append_left _ (List.mem_append_left _ (List.mem_append_left _ (List.mem_append_left _ (List.mem_append_left _ (List.mem_append_left _ (List.mem_append_left _ (List.mem_append_right _ (List.mem_append_right _ (List.mem_append_right _ (List.mem_append_right _ (List.mem_append_right _ (List.mem_append_right _ (List.mem_append_right _ (List.mem_append_right _ (List.mem_append_right _ (List.mem_append_right _ (List.mem_append_right _ (List.mem_append_right _ (List.mem_append_right _ (List.mem_append_right _ (List.mem_append_right _ (List.mem_append_right _ (List.mem_append_right _ (List.mem_append_right _ (List.mem_append_right _ h)))))))))))))))))))))))))))))
set_option maxRecDepth 100000 in
theorem W0_good : wsL_law.all goodWord = true := by decide +kernel
