def RX0 : String := "VisionMixer$Log"
def TX0 : u_T := fun k => match k with
  | 0 => ("VisionMixer$Log", "entries", "[I", true)
  | _ => ("VisionMixer$Log", "count", "I", false)
def tyX0 : Nat → FieldType := fun k => match k with
  | 0 => .array .int
  | _ => .int
abbrev wsX00 : List Cond := u_ws RX0 TX0 2
theorem nmX0 : ∀ a, a < 2 → ∀ b, b < 2 → a ≠ b → (TX0 a).2.1 ≠ (TX0 b).2.1 := by decide +kernel
theorem tyX0_ok : ∀ k, k < 2 → parseFieldDescriptor (TX0 k).2.2.1 = some (tyX0 k) := by decide +kernel
abbrev cX0_init : ByteArray := prog_2_method_1_code
def yX0_init : MethodName := ⟨RX0, "<init>", "()V"⟩
abbrev cX0_size : ByteArray := prog_2_method_2_code
def yX0_size : MethodName := ⟨RX0, "size", "()I"⟩
abbrev cX0_isFull : ByteArray := prog_2_method_3_code
def yX0_isFull : MethodName := ⟨RX0, "isFull", "()Z"⟩
abbrev cX0_add : ByteArray := prog_2_method_4_code
def yX0_add : MethodName := ⟨RX0, "add", "(IIIIII)V"⟩
abbrev cX0_remove : ByteArray := prog_2_method_5_code
def yX0_remove : MethodName := ⟨RX0, "remove", "(I)V"⟩
abbrev cX0_shortenTo : ByteArray := prog_2_method_6_code
def yX0_shortenTo : MethodName := ⟨RX0, "shortenTo", "(I)V"⟩
abbrev cX0_tell : ByteArray := prog_2_method_7_code
def yX0_tell : MethodName := ⟨RX0, "tell", "(II)I"⟩
abbrev cX0_timeOf : ByteArray := prog_2_method_8_code
def yX0_timeOf : MethodName := ⟨RX0, "timeOf", "(I)I"⟩
abbrev cX0_redo : ByteArray := prog_2_method_9_code
def yX0_redo : MethodName := ⟨RX0, "redo", "(ILVisionMixer$Mix;)V"⟩
def RX1 : String := "VisionMixer$Mix"
def TX1 : u_T := fun k => match k with
  | 0 => ("VisionMixer$Mix", "program", "I", false)
  | 1 => ("VisionMixer$Mix", "preview", "I", false)
  | 2 => ("VisionMixer$Mix", "kind", "I", false)
  | 3 => ("VisionMixer$Mix", "rate", "I", false)
  | 4 => ("VisionMixer$Mix", "elements", "I", false)
  | 5 => ("VisionMixer$Mix", "position", "I", false)
  | 6 => ("VisionMixer$Mix", "run", "I", false)
  | 7 => ("VisionMixer$Mix", "time", "I", false)
  | 8 => ("VisionMixer$Mix", "runsCompleted", "I", false)
  | 9 => ("VisionMixer$Mix", "faults", "I", false)
  | 10 => ("VisionMixer$Mix", "keyersOn", "I", false)
  | 11 => ("VisionMixer$Mix", "fills", "[I", true)
  | 12 => ("VisionMixer$Mix", "opacities", "[I", true)
  | _ => ("VisionMixer$Mix", "areas", "[I", true)
def tyX1 : Nat → FieldType := fun k => match k with
  | 0 => .int
  | 1 => .int
  | 2 => .int
  | 3 => .int
  | 4 => .int
  | 5 => .int
  | 6 => .int
  | 7 => .int
  | 8 => .int
  | 9 => .int
  | 10 => .int
  | 11 => .array .int
  | 12 => .array .int
  | _ => .array .int
abbrev wsX10 : List Cond := u_ws RX1 TX1 14
theorem nmX1 : ∀ a, a < 14 → ∀ b, b < 14 → a ≠ b → (TX1 a).2.1 ≠ (TX1 b).2.1 := by decide +kernel
theorem tyX1_ok : ∀ k, k < 14 → parseFieldDescriptor (TX1 k).2.2.1 = some (tyX1 k) := by decide +kernel
abbrev cX1_init : ByteArray := prog_3_method_1_code
def yX1_init : MethodName := ⟨RX1, "<init>", "()V"⟩
abbrev cX1_reset : ByteArray := prog_3_method_2_code
def yX1_reset : MethodName := ⟨RX1, "reset", "()V"⟩
abbrev cX1_copy : ByteArray := prog_3_method_3_code
def yX1_copy : MethodName := ⟨RX1, "copy", "(LVisionMixer$Mix;)V"⟩
abbrev cX1_isPossible : ByteArray := prog_3_method_4_code
def yX1_isPossible : MethodName := ⟨RX1, "isPossible", "(I)Z"⟩
abbrev cX1_perform : ByteArray := prog_3_method_5_code
def yX1_perform : MethodName := ⟨RX1, "perform", "(IIIII)I"⟩
abbrev cX1_setProgram : ByteArray := prog_3_method_6_code
def yX1_setProgram : MethodName := ⟨RX1, "setProgram", "(I)I"⟩
abbrev cX1_setPreview : ByteArray := prog_3_method_7_code
def yX1_setPreview : MethodName := ⟨RX1, "setPreview", "(I)I"⟩
abbrev cX1_setKindAndRate : ByteArray := prog_3_method_8_code
def yX1_setKindAndRate : MethodName := ⟨RX1, "setKindAndRate", "(II)I"⟩
abbrev cX1_setElements : ByteArray := prog_3_method_9_code
def yX1_setElements : MethodName := ⟨RX1, "setElements", "(I)I"⟩
abbrev cX1_setKeyer : ByteArray := prog_3_method_10_code
def yX1_setKeyer : MethodName := ⟨RX1, "setKeyer", "(IIII)I"⟩
abbrev cX1_switchKeyer : ByteArray := prog_3_method_11_code
def yX1_switchKeyer : MethodName := ⟨RX1, "switchKeyer", "(I)I"⟩
abbrev cX1_setPosition : ByteArray := prog_3_method_12_code
def yX1_setPosition : MethodName := ⟨RX1, "setPosition", "(I)I"⟩
abbrev cX1_setFault : ByteArray := prog_3_method_13_code
def yX1_setFault : MethodName := ⟨RX1, "setFault", "(II)I"⟩
abbrev cX1_complete : ByteArray := prog_3_method_14_code
def yX1_complete : MethodName := ⟨RX1, "complete", "()V"⟩
abbrev cX1_letPass : ByteArray := prog_3_method_15_code
def yX1_letPass : MethodName := ⟨RX1, "letPass", "(I)V"⟩
abbrev cX1_movesBackground : ByteArray := prog_3_method_16_code
def yX1_movesBackground : MethodName := ⟨RX1, "movesBackground", "()Z"⟩
abbrev cX1_moves : ByteArray := prog_3_method_17_code
def yX1_moves : MethodName := ⟨RX1, "moves", "(I)Z"⟩
abbrev cX1_isOn : ByteArray := prog_3_method_18_code
def yX1_isOn : MethodName := ⟨RX1, "isOn", "(I)Z"⟩
abbrev cX1_fillOf : ByteArray := prog_3_method_19_code
def yX1_fillOf : MethodName := ⟨RX1, "fillOf", "(I)I"⟩
abbrev cX1_coverOf : ByteArray := prog_3_method_20_code
def yX1_coverOf : MethodName := ⟨RX1, "coverOf", "(I)I"⟩
abbrev cX1_tellSetting : ByteArray := prog_3_method_21_code
def yX1_tellSetting : MethodName := ⟨RX1, "tellSetting", "(I)I"⟩
abbrev cX1_tellKeyer : ByteArray := prog_3_method_22_code
def yX1_tellKeyer : MethodName := ⟨RX1, "tellKeyer", "(II)I"⟩
def RX2 : String := "VisionMixer$Picture"
def TX2 : u_T := fun k => match k with
  | _ => ("VisionMixer$Picture", "parts", "[I", true)
def tyX2 : Nat → FieldType := fun k => match k with
  | _ => .array .int
abbrev wsX20 : List Cond := u_ws RX2 TX2 1
theorem nmX2 : ∀ a, a < 1 → ∀ b, b < 1 → a ≠ b → (TX2 a).2.1 ≠ (TX2 b).2.1 := by decide +kernel
theorem tyX2_ok : ∀ k, k < 1 → parseFieldDescriptor (TX2 k).2.2.1 = some (tyX2 k) := by decide +kernel
abbrev cX2_init : ByteArray := prog_4_method_1_code
def yX2_init : MethodName := ⟨RX2, "<init>", "()V"⟩
abbrev cX2_paint : ByteArray := prog_4_method_2_code
def yX2_paint : MethodName := ⟨RX2, "paint", "(LVisionMixer$Mix;)V"⟩
abbrev cX2_paintBackground : ByteArray := prog_4_method_3_code
def yX2_paintBackground : MethodName := ⟨RX2, "paintBackground", "(LVisionMixer$Mix;)V"⟩
abbrev cX2_addPart : ByteArray := prog_4_method_4_code
def yX2_addPart : MethodName := ⟨RX2, "addPart", "(II)V"⟩
abbrev cX2_layOver : ByteArray := prog_4_method_5_code
def yX2_layOver : MethodName := ⟨RX2, "layOver", "(II)V"⟩
abbrev cX2_partOf : ByteArray := prog_4_method_6_code
def yX2_partOf : MethodName := ⟨RX2, "partOf", "(I)I"⟩
abbrev cX2_seenOf : ByteArray := prog_4_method_7_code
def yX2_seenOf : MethodName := ⟨RX2, "seenOf", "(II)I"⟩
abbrev cX2_faultyParts : ByteArray := prog_4_method_8_code
def yX2_faultyParts : MethodName := ⟨RX2, "faultyParts", "(I)I"⟩
abbrev cX2_reds : ByteArray := prog_4_method_9_code
def yX2_reds : MethodName := ⟨RX2, "reds", "()I"⟩
abbrev cX2_sameParts : ByteArray := prog_4_method_10_code
def yX2_sameParts : MethodName := ⟨RX2, "sameParts", "(LVisionMixer$Picture;)Z"⟩
def RX3 : String := "VisionMixer$Replay"
def TX3 : u_T := fun k => match k with
  | 0 => ("VisionMixer$Replay", "mix", "LVisionMixer$Mix;", true)
  | _ => ("VisionMixer$Replay", "upcoming", "I", false)
def tyX3 : Nat → FieldType := fun k => match k with
  | 0 => .object "VisionMixer$Mix"
  | _ => .int
abbrev wsX30 : List Cond := u_ws RX3 TX3 2
theorem nmX3 : ∀ a, a < 2 → ∀ b, b < 2 → a ≠ b → (TX3 a).2.1 ≠ (TX3 b).2.1 := by decide +kernel
theorem tyX3_ok : ∀ k, k < 2 → parseFieldDescriptor (TX3 k).2.2.1 = some (tyX3 k) := by decide +kernel
abbrev cX3_init : ByteArray := prog_5_method_1_code
def yX3_init : MethodName := ⟨RX3, "<init>", "()V"⟩
abbrev cX3_begin : ByteArray := prog_5_method_2_code
def yX3_begin : MethodName := ⟨RX3, "begin", "()V"⟩
abbrev cX3_goTo : ByteArray := prog_5_method_3_code
def yX3_goTo : MethodName := ⟨RX3, "goTo", "(LVisionMixer$Log;II)V"⟩
abbrev cX3_sameTimes : ByteArray := prog_5_method_4_code
def yX3_sameTimes : MethodName := ⟨RX3, "sameTimes", "(LVisionMixer$Log;I)I"⟩
def RX4 : String := "VisionMixer$Script"
def TX4 : u_T := fun k => match k with
  | 0 => ("VisionMixer$Script", "signs", "[I", true)
  | 1 => ("VisionMixer$Script", "orders", "[I", true)
  | 2 => ("VisionMixer$Script", "length", "I", false)
  | 3 => ("VisionMixer$Script", "orderCount", "I", false)
  | 4 => ("VisionMixer$Script", "at", "I", false)
  | _ => ("VisionMixer$Script", "errorAt", "I", false)
def tyX4 : Nat → FieldType := fun k => match k with
  | 0 => .array .int
  | 1 => .array .int
  | 2 => .int
  | 3 => .int
  | 4 => .int
  | _ => .int
abbrev wsX40 : List Cond := u_ws RX4 TX4 6
theorem nmX4 : ∀ a, a < 6 → ∀ b, b < 6 → a ≠ b → (TX4 a).2.1 ≠ (TX4 b).2.1 := by decide +kernel
theorem tyX4_ok : ∀ k, k < 6 → parseFieldDescriptor (TX4 k).2.2.1 = some (tyX4 k) := by decide +kernel
abbrev cX4_init : ByteArray := prog_6_method_1_code
def yX4_init : MethodName := ⟨RX4, "<init>", "()V"⟩
abbrev cX4_isFull : ByteArray := prog_6_method_2_code
def yX4_isFull : MethodName := ⟨RX4, "isFull", "()Z"⟩
abbrev cX4_size : ByteArray := prog_6_method_3_code
def yX4_size : MethodName := ⟨RX4, "size", "()I"⟩
abbrev cX4_add : ByteArray := prog_6_method_4_code
def yX4_add : MethodName := ⟨RX4, "add", "(I)I"⟩
abbrev cX4_empty : ByteArray := prog_6_method_5_code
def yX4_empty : MethodName := ⟨RX4, "empty", "()I"⟩
abbrev cX4_orders : ByteArray := prog_6_method_6_code
def yX4_orders : MethodName := ⟨RX4, "orders", "()I"⟩
abbrev cX4_whatOf : ByteArray := prog_6_method_7_code
def yX4_whatOf : MethodName := ⟨RX4, "whatOf", "(I)I"⟩
abbrev cX4_firstOf : ByteArray := prog_6_method_8_code
def yX4_firstOf : MethodName := ⟨RX4, "firstOf", "(I)I"⟩
abbrev cX4_secondOf : ByteArray := prog_6_method_9_code
def yX4_secondOf : MethodName := ⟨RX4, "secondOf", "(I)I"⟩
abbrev cX4_read : ByteArray := prog_6_method_10_code
def yX4_read : MethodName := ⟨RX4, "read", "()I"⟩
abbrev cX4_readOrder : ByteArray := prog_6_method_11_code
def yX4_readOrder : MethodName := ⟨RX4, "readOrder", "()V"⟩
abbrev cX4_orderOf : ByteArray := prog_6_method_12_code
def yX4_orderOf : MethodName := ⟨RX4, "orderOf", "(I)I"⟩
abbrev cX4_readDigit : ByteArray := prog_6_method_13_code
def yX4_readDigit : MethodName := ⟨RX4, "readDigit", "(I)I"⟩
abbrev cX4_readNumber : ByteArray := prog_6_method_14_code
def yX4_readNumber : MethodName := ⟨RX4, "readNumber", "(III)I"⟩
abbrev cX4_readSemicolon : ByteArray := prog_6_method_15_code
def yX4_readSemicolon : MethodName := ⟨RX4, "readSemicolon", "()V"⟩
abbrev cX4_keep : ByteArray := prog_6_method_16_code
def yX4_keep : MethodName := ⟨RX4, "keep", "(III)V"⟩
abbrev cX4_miss : ByteArray := prog_6_method_17_code
def yX4_miss : MethodName := ⟨RX4, "miss", "(I)V"⟩
abbrev cX4_signAt : ByteArray := prog_6_method_18_code
def yX4_signAt : MethodName := ⟨RX4, "signAt", "(I)I"⟩
abbrev cX4_digitAt : ByteArray := prog_6_method_19_code
def yX4_digitAt : MethodName := ⟨RX4, "digitAt", "(I)I"⟩
def RX5 : String := "VisionMixer"
def TX5 : u_T := fun k => match k with
  | 0 => ("VisionMixer", "now", "LVisionMixer$Mix;", true)
  | 1 => ("VisionMixer", "kept", "LVisionMixer$Mix;", true)
  | 2 => ("VisionMixer", "behind", "LVisionMixer$Mix;", true)
  | 3 => ("VisionMixer", "log", "LVisionMixer$Log;", true)
  | 4 => ("VisionMixer", "replay", "LVisionMixer$Replay;", true)
  | 5 => ("VisionMixer", "picture", "LVisionMixer$Picture;", true)
  | 6 => ("VisionMixer", "other", "LVisionMixer$Picture;", true)
  | _ => ("VisionMixer", "script", "LVisionMixer$Script;", true)
def tyX5 : Nat → FieldType := fun k => match k with
  | 0 => .object "VisionMixer$Mix"
  | 1 => .object "VisionMixer$Mix"
  | 2 => .object "VisionMixer$Mix"
  | 3 => .object "VisionMixer$Log"
  | 4 => .object "VisionMixer$Replay"
  | 5 => .object "VisionMixer$Picture"
  | 6 => .object "VisionMixer$Picture"
  | _ => .object "VisionMixer$Script"
abbrev wsX50 : List Cond := u_ws RX5 TX5 8
theorem nmX5 : ∀ a, a < 8 → ∀ b, b < 8 → a ≠ b → (TX5 a).2.1 ≠ (TX5 b).2.1 := by decide +kernel
theorem tyX5_ok : ∀ k, k < 8 → parseFieldDescriptor (TX5 k).2.2.1 = some (tyX5 k) := by decide +kernel
abbrev cX5_init : ByteArray := prog_1_method_1_code
def yX5_init : MethodName := ⟨RX5, "<init>", "()V"⟩
abbrev cX5_program : ByteArray := prog_1_method_2_code
def yX5_program : MethodName := ⟨RX5, "program", "(I)I"⟩
abbrev cX5_preview : ByteArray := prog_1_method_3_code
def yX5_preview : MethodName := ⟨RX5, "preview", "(I)I"⟩
abbrev cX5_transition : ByteArray := prog_1_method_4_code
def yX5_transition : MethodName := ⟨RX5, "transition", "(II)I"⟩
abbrev cX5_next : ByteArray := prog_1_method_5_code
def yX5_next : MethodName := ⟨RX5, "next", "(I)I"⟩
abbrev cX5_key : ByteArray := prog_1_method_6_code
def yX5_key : MethodName := ⟨RX5, "key", "(IIII)I"⟩
abbrev cX5_toggle : ByteArray := prog_1_method_7_code
def yX5_toggle : MethodName := ⟨RX5, "toggle", "(I)I"⟩
abbrev cX5_cut : ByteArray := prog_1_method_8_code
def yX5_cut : MethodName := ⟨RX5, "cut", "()I"⟩
abbrev cX5_auto : ByteArray := prog_1_method_9_code
def yX5_auto : MethodName := ⟨RX5, "auto", "()I"⟩
abbrev cX5_bar : ByteArray := prog_1_method_10_code
def yX5_bar : MethodName := ⟨RX5, "bar", "(I)I"⟩
abbrev cX5_fault : ByteArray := prog_1_method_11_code
def yX5_fault : MethodName := ⟨RX5, "fault", "(IZ)I"⟩
abbrev cX5_pass : ByteArray := prog_1_method_12_code
def yX5_pass : MethodName := ⟨RX5, "pass", "(I)I"⟩
abbrev cX5_setting : ByteArray := prog_1_method_13_code
def yX5_setting : MethodName := ⟨RX5, "setting", "(I)I"⟩
abbrev cX5_keyer : ByteArray := prog_1_method_14_code
def yX5_keyer : MethodName := ⟨RX5, "keyer", "(II)I"⟩
abbrev cX5_share : ByteArray := prog_1_method_15_code
def yX5_share : MethodName := ⟨RX5, "share", "(IZ)I"⟩
abbrev cX5_tally : ByteArray := prog_1_method_16_code
def yX5_tally : MethodName := ⟨RX5, "tally", "(I)I"⟩
abbrev cX5_faulty : ByteArray := prog_1_method_17_code
def yX5_faulty : MethodName := ⟨RX5, "faulty", "()D"⟩
abbrev cX5_settingAt : ByteArray := prog_1_method_18_code
def yX5_settingAt : MethodName := ⟨RX5, "settingAt", "(II)I"⟩
abbrev cX5_shareAt : ByteArray := prog_1_method_19_code
def yX5_shareAt : MethodName := ⟨RX5, "shareAt", "(II)I"⟩
abbrev cX5_timesRed : ByteArray := prog_1_method_20_code
def yX5_timesRed : MethodName := ⟨RX5, "timesRed", "(I)I"⟩
abbrev cX5_firstRed : ByteArray := prog_1_method_21_code
def yX5_firstRed : MethodName := ⟨RX5, "firstRed", "(I)I"⟩
abbrev cX5_longestShot : ByteArray := prog_1_method_22_code
def yX5_longestShot : MethodName := ⟨RX5, "longestShot", "()I"⟩
abbrev cX5_runs : ByteArray := prog_1_method_23_code
def yX5_runs : MethodName := ⟨RX5, "runs", "()I"⟩
abbrev cX5_act : ByteArray := prog_1_method_24_code
def yX5_act : MethodName := ⟨RX5, "act", "(II)I"⟩
abbrev cX5_takeOut : ByteArray := prog_1_method_25_code
def yX5_takeOut : MethodName := ⟨RX5, "takeOut", "(I)I"⟩
abbrev cX5_undo : ByteArray := prog_1_method_26_code
def yX5_undo : MethodName := ⟨RX5, "undo", "()I"⟩
abbrev cX5_redWithout : ByteArray := prog_1_method_27_code
def yX5_redWithout : MethodName := ⟨RX5, "redWithout", "(I)I"⟩
abbrev cX5_idle : ByteArray := prog_1_method_28_code
def yX5_idle : MethodName := ⟨RX5, "idle", "()I"⟩
abbrev cX5_append : ByteArray := prog_1_method_29_code
def yX5_append : MethodName := ⟨RX5, "append", "(I)I"⟩
abbrev cX5_clearText : ByteArray := prog_1_method_30_code
def yX5_clearText : MethodName := ⟨RX5, "clearText", "()I"⟩
abbrev cX5_carryOut : ByteArray := prog_1_method_31_code
def yX5_carryOut : MethodName := ⟨RX5, "carryOut", "()I"⟩
abbrev cX5_digest : ByteArray := prog_1_method_32_code
def yX5_digest : MethodName := ⟨RX5, "digest", "()J"⟩
abbrev cX5_checkSource : ByteArray := prog_1_method_33_code
def yX5_checkSource : MethodName := ⟨RX5, "checkSource", "(I)V"⟩
abbrev cX5_checkKeyer : ByteArray := prog_1_method_34_code
def yX5_checkKeyer : MethodName := ⟨RX5, "checkKeyer", "(I)V"⟩
abbrev cX5_checkTime : ByteArray := prog_1_method_35_code
def yX5_checkTime : MethodName := ⟨RX5, "checkTime", "(I)V"⟩
abbrev cX5_checkAct : ByteArray := prog_1_method_36_code
def yX5_checkAct : MethodName := ⟨RX5, "checkAct", "(I)V"⟩
abbrev cX5_checkRange : ByteArray := prog_1_method_37_code
def yX5_checkRange : MethodName := ⟨RX5, "checkRange", "(III)V"⟩
abbrev cX5_mayAct : ByteArray := prog_1_method_38_code
def yX5_mayAct : MethodName := ⟨RX5, "mayAct", "(I)Z"⟩
abbrev cX5_enact : ByteArray := prog_1_method_39_code
def yX5_enact : MethodName := ⟨RX5, "enact", "(IIIII)I"⟩
abbrev cX5_doOrder : ByteArray := prog_1_method_40_code
def yX5_doOrder : MethodName := ⟨RX5, "doOrder", "(I)Z"⟩
abbrev cX5_replayTo : ByteArray := prog_1_method_41_code
def yX5_replayTo : MethodName := ⟨RX5, "replayTo", "(II)V"⟩
abbrev cX5_replayPresent : ByteArray := prog_1_method_42_code
def yX5_replayPresent : MethodName := ⟨RX5, "replayPresent", "()V"⟩
abbrev cX5_redsAt : ByteArray := prog_1_method_43_code
def yX5_redsAt : MethodName := ⟨RX5, "redsAt", "(I)I"⟩
abbrev cX5_presentSetting : ByteArray := prog_1_method_44_code
def yX5_presentSetting : MethodName := ⟨RX5, "presentSetting", "(I)I"⟩
abbrev cX5_paintTallies : ByteArray := prog_1_method_45_code
def yX5_paintTallies : MethodName := ⟨RX5, "paintTallies", "()V"⟩
abbrev cX5_tallyPainted : ByteArray := prog_1_method_46_code
def yX5_tallyPainted : MethodName := ⟨RX5, "tallyPainted", "(I)I"⟩
abbrev cX5_hashKeyers : ByteArray := prog_1_method_47_code
def yX5_hashKeyers : MethodName := ⟨RX5, "hashKeyers", "(J)J"⟩
abbrev cX5_hashSources : ByteArray := prog_1_method_48_code
def yX5_hashSources : MethodName := ⟨RX5, "hashSources", "(J)J"⟩
abbrev cX5_hashActs : ByteArray := prog_1_method_49_code
def yX5_hashActs : MethodName := ⟨RX5, "hashActs", "(J)J"⟩
abbrev cX5_hashed : ByteArray := prog_1_method_50_code
def yX5_hashed : MethodName := ⟨RX5, "hashed", "(JI)J"⟩
abbrev cX5_hasSource : ByteArray := prog_1_method_51_code
def yX5_hasSource : MethodName := ⟨RX5, "hasSource", "(II)Z"⟩
abbrev cX5_cell : ByteArray := prog_1_method_52_code
def yX5_cell : MethodName := ⟨RX5, "cell", "([II)I"⟩
abbrev cX5_put : ByteArray := prog_1_method_53_code
def yX5_put : MethodName := ⟨RX5, "put", "([III)V"⟩
def RX6 : String := "VisionMixerModel"
def TX6 : u_T := fun k => match k with
  | 0 => ("VisionMixerModel", "m", "[I", true)
  | 1 => ("VisionMixerModel", "aside", "[I", true)
  | 2 => ("VisionMixerModel", "clock", "I", false)
  | 3 => ("VisionMixerModel", "log", "[I", true)
  | 4 => ("VisionMixerModel", "acts", "I", false)
  | 5 => ("VisionMixerModel", "thrown", "I", false)
  | 6 => ("VisionMixerModel", "ran", "I", false)
  | 7 => ("VisionMixerModel", "shares", "[I", true)
  | 8 => ("VisionMixerModel", "nextAct", "I", false)
  | 9 => ("VisionMixerModel", "reddened", "I", false)
  | 10 => ("VisionMixerModel", "firstTime", "I", false)
  | 11 => ("VisionMixerModel", "longest", "I", false)
  | 12 => ("VisionMixerModel", "kept", "[I", true)
  | 13 => ("VisionMixerModel", "text", "[I", true)
  | 14 => ("VisionMixerModel", "textLong", "I", false)
  | 15 => ("VisionMixerModel", "place", "I", false)
  | 16 => ("VisionMixerModel", "number", "I", false)
  | 17 => ("VisionMixerModel", "letter", "I", false)
  | _ => ("VisionMixerModel", "first", "I", false)
def tyX6 : Nat → FieldType := fun k => match k with
  | 0 => .array .int
  | 1 => .array .int
  | 2 => .int
  | 3 => .array .int
  | 4 => .int
  | 5 => .int
  | 6 => .int
  | 7 => .array .int
  | 8 => .int
  | 9 => .int
  | 10 => .int
  | 11 => .int
  | 12 => .array .int
  | 13 => .array .int
  | 14 => .int
  | 15 => .int
  | 16 => .int
  | 17 => .int
  | _ => .int
abbrev wsX60 : List Cond := u_ws RX6 TX6 19
theorem nmX6 : ∀ a, a < 19 → ∀ b, b < 19 → a ≠ b → (TX6 a).2.1 ≠ (TX6 b).2.1 := by decide +kernel
theorem tyX6_ok : ∀ k, k < 19 → parseFieldDescriptor (TX6 k).2.2.1 = some (tyX6 k) := by decide +kernel
abbrev cX6_init : ByteArray := prog_8_method_1_code
def yX6_init : MethodName := ⟨RX6, "<init>", "()V"⟩
abbrev cX6_thrown : ByteArray := prog_8_method_2_code
def yX6_thrown : MethodName := ⟨RX6, "thrown", "()I"⟩
abbrev cX6_in : ByteArray := prog_8_method_3_code
def yX6_in : MethodName := ⟨RX6, "in", "(JJJ)Z"⟩
abbrev cX6_goes : ByteArray := prog_8_method_4_code
def yX6_goes : MethodName := ⟨RX6, "goes", "(ZZZ)Z"⟩
abbrev cX6_isSource : ByteArray := prog_8_method_5_code
def yX6_isSource : MethodName := ⟨RX6, "isSource", "(I)Z"⟩
abbrev cX6_isKeyer : ByteArray := prog_8_method_6_code
def yX6_isKeyer : MethodName := ⟨RX6, "isKeyer", "(I)Z"⟩
abbrev cX6_ofKeyer : ByteArray := prog_8_method_7_code
def yX6_ofKeyer : MethodName := ⟨RX6, "ofKeyer", "(II)I"⟩
abbrev cX6_begins : ByteArray := prog_8_method_8_code
def yX6_begins : MethodName := ⟨RX6, "begins", "()V"⟩
abbrev cX6_isUnderWay : ByteArray := prog_8_method_9_code
def yX6_isUnderWay : MethodName := ⟨RX6, "isUnderWay", "()Z"⟩
abbrev cX6_isElement : ByteArray := prog_8_method_10_code
def yX6_isElement : MethodName := ⟨RX6, "isElement", "(I)Z"⟩
abbrev cX6_completes : ByteArray := prog_8_method_11_code
def yX6_completes : MethodName := ⟨RX6, "completes", "()V"⟩
abbrev cX6_frame : ByteArray := prog_8_method_12_code
def yX6_frame : MethodName := ⟨RX6, "frame", "()V"⟩
abbrev cX6_isPossible : ByteArray := prog_8_method_13_code
def yX6_isPossible : MethodName := ⟨RX6, "isPossible", "(I)Z"⟩
abbrev cX6_does : ByteArray := prog_8_method_14_code
def yX6_does : MethodName := ⟨RX6, "does", "(IIIII)I"⟩
abbrev cX6_moves : ByteArray := prog_8_method_15_code
def yX6_moves : MethodName := ⟨RX6, "moves", "(I)I"⟩
abbrev cX6_acts : ByteArray := prog_8_method_16_code
def yX6_acts : MethodName := ⟨RX6, "acts", "(IIIII)I"⟩
abbrev cX6_hasRoom : ByteArray := prog_8_method_17_code
def yX6_hasRoom : MethodName := ⟨RX6, "hasRoom", "()Z"⟩
abbrev cX6_program : ByteArray := prog_8_method_18_code
def yX6_program : MethodName := ⟨RX6, "program", "(I)I"⟩
abbrev cX6_preview : ByteArray := prog_8_method_19_code
def yX6_preview : MethodName := ⟨RX6, "preview", "(I)I"⟩
abbrev cX6_transition : ByteArray := prog_8_method_20_code
def yX6_transition : MethodName := ⟨RX6, "transition", "(II)I"⟩
abbrev cX6_next : ByteArray := prog_8_method_21_code
def yX6_next : MethodName := ⟨RX6, "next", "(I)I"⟩
abbrev cX6_key : ByteArray := prog_8_method_22_code
def yX6_key : MethodName := ⟨RX6, "key", "(IIII)I"⟩
abbrev cX6_toggle : ByteArray := prog_8_method_23_code
def yX6_toggle : MethodName := ⟨RX6, "toggle", "(I)I"⟩
abbrev cX6_cut : ByteArray := prog_8_method_24_code
def yX6_cut : MethodName := ⟨RX6, "cut", "()I"⟩
abbrev cX6_auto : ByteArray := prog_8_method_25_code
def yX6_auto : MethodName := ⟨RX6, "auto", "()I"⟩
abbrev cX6_bar : ByteArray := prog_8_method_26_code
def yX6_bar : MethodName := ⟨RX6, "bar", "(I)I"⟩
abbrev cX6_fault : ByteArray := prog_8_method_27_code
def yX6_fault : MethodName := ⟨RX6, "fault", "(IZ)I"⟩
abbrev cX6_pass : ByteArray := prog_8_method_28_code
def yX6_pass : MethodName := ⟨RX6, "pass", "(I)I"⟩
abbrev cX6_passes : ByteArray := prog_8_method_29_code
def yX6_passes : MethodName := ⟨RX6, "passes", "(I)V"⟩
abbrev cX6_laysShares : ByteArray := prog_8_method_30_code
def yX6_laysShares : MethodName := ⟨RX6, "laysShares", "()V"⟩
abbrev cX6_coverOf : ByteArray := prog_8_method_31_code
def yX6_coverOf : MethodName := ⟨RX6, "coverOf", "(II)I"⟩
abbrev cX6_covers : ByteArray := prog_8_method_32_code
def yX6_covers : MethodName := ⟨RX6, "covers", "(II)V"⟩
abbrev cX6_reds : ByteArray := prog_8_method_33_code
def yX6_reds : MethodName := ⟨RX6, "reds", "()I"⟩
abbrev cX6_lays : ByteArray := prog_8_method_34_code
def yX6_lays : MethodName := ⟨RX6, "lays", "()V"⟩
abbrev cX6_takesBack : ByteArray := prog_8_method_35_code
def yX6_takesBack : MethodName := ⟨RX6, "takesBack", "()V"⟩
abbrev cX6_redsBehind : ByteArray := prog_8_method_36_code
def yX6_redsBehind : MethodName := ⟨RX6, "redsBehind", "()I"⟩
abbrev cX6_tallyOf : ByteArray := prog_8_method_37_code
def yX6_tallyOf : MethodName := ⟨RX6, "tallyOf", "(I)I"⟩
abbrev cX6_shareOf : ByteArray := prog_8_method_38_code
def yX6_shareOf : MethodName := ⟨RX6, "shareOf", "(IZ)I"⟩
abbrev cX6_share : ByteArray := prog_8_method_39_code
def yX6_share : MethodName := ⟨RX6, "share", "(IZ)I"⟩
abbrev cX6_tally : ByteArray := prog_8_method_40_code
def yX6_tally : MethodName := ⟨RX6, "tally", "(I)I"⟩
abbrev cX6_faulty : ByteArray := prog_8_method_41_code
def yX6_faulty : MethodName := ⟨RX6, "faulty", "()D"⟩
abbrev cX6_settingOf : ByteArray := prog_8_method_42_code
def yX6_settingOf : MethodName := ⟨RX6, "settingOf", "(I)I"⟩
abbrev cX6_setting : ByteArray := prog_8_method_43_code
def yX6_setting : MethodName := ⟨RX6, "setting", "(I)I"⟩
abbrev cX6_keyer : ByteArray := prog_8_method_44_code
def yX6_keyer : MethodName := ⟨RX6, "keyer", "(II)I"⟩
abbrev cX6_doesAll : ByteArray := prog_8_method_45_code
def yX6_doesAll : MethodName := ⟨RX6, "doesAll", "(II)V"⟩
abbrev cX6_goesTo : ByteArray := prog_8_method_46_code
def yX6_goesTo : MethodName := ⟨RX6, "goesTo", "(II)V"⟩
abbrev cX6_isTime : ByteArray := prog_8_method_47_code
def yX6_isTime : MethodName := ⟨RX6, "isTime", "(I)Z"⟩
abbrev cX6_settingAt : ByteArray := prog_8_method_48_code
def yX6_settingAt : MethodName := ⟨RX6, "settingAt", "(II)I"⟩
abbrev cX6_shareAt : ByteArray := prog_8_method_49_code
def yX6_shareAt : MethodName := ⟨RX6, "shareAt", "(II)I"⟩
abbrev cX6_goesThrough : ByteArray := prog_8_method_50_code
def yX6_goesThrough : MethodName := ⟨RX6, "goesThrough", "(I)V"⟩
abbrev cX6_timesRed : ByteArray := prog_8_method_51_code
def yX6_timesRed : MethodName := ⟨RX6, "timesRed", "(I)I"⟩
abbrev cX6_firstRed : ByteArray := prog_8_method_52_code
def yX6_firstRed : MethodName := ⟨RX6, "firstRed", "(I)I"⟩
abbrev cX6_longestShot : ByteArray := prog_8_method_53_code
def yX6_longestShot : MethodName := ⟨RX6, "longestShot", "()I"⟩
abbrev cX6_runs : ByteArray := prog_8_method_54_code
def yX6_runs : MethodName := ⟨RX6, "runs", "()I"⟩
abbrev cX6_isAct : ByteArray := prog_8_method_55_code
def yX6_isAct : MethodName := ⟨RX6, "isAct", "(I)Z"⟩
abbrev cX6_act : ByteArray := prog_8_method_56_code
def yX6_act : MethodName := ⟨RX6, "act", "(II)I"⟩
abbrev cX6_takesOut : ByteArray := prog_8_method_57_code
def yX6_takesOut : MethodName := ⟨RX6, "takesOut", "(I)I"⟩
abbrev cX6_takeOut : ByteArray := prog_8_method_58_code
def yX6_takeOut : MethodName := ⟨RX6, "takeOut", "(I)I"⟩
abbrev cX6_undo : ByteArray := prog_8_method_59_code
def yX6_undo : MethodName := ⟨RX6, "undo", "()I"⟩
abbrev cX6_redWithout : ByteArray := prog_8_method_60_code
def yX6_redWithout : MethodName := ⟨RX6, "redWithout", "(I)I"⟩
abbrev cX6_idle : ByteArray := prog_8_method_61_code
def yX6_idle : MethodName := ⟨RX6, "idle", "()I"⟩
abbrev cX6_append : ByteArray := prog_8_method_62_code
def yX6_append : MethodName := ⟨RX6, "append", "(I)I"⟩
abbrev cX6_clearText : ByteArray := prog_8_method_63_code
def yX6_clearText : MethodName := ⟨RX6, "clearText", "()I"⟩
abbrev cX6_here : ByteArray := prog_8_method_64_code
def yX6_here : MethodName := ⟨RX6, "here", "()I"⟩
abbrev cX6_passesByte : ByteArray := prog_8_method_65_code
def yX6_passesByte : MethodName := ⟨RX6, "passesByte", "(I)Z"⟩
abbrev cX6_figure : ByteArray := prog_8_method_66_code
def yX6_figure : MethodName := ⟨RX6, "figure", "(I)I"⟩
abbrev cX6_reads : ByteArray := prog_8_method_67_code
def yX6_reads : MethodName := ⟨RX6, "reads", "(III)Z"⟩
abbrev cX6_readsOrder : ByteArray := prog_8_method_68_code
def yX6_readsOrder : MethodName := ⟨RX6, "readsOrder", "()Z"⟩
abbrev cX6_orders : ByteArray := prog_8_method_69_code
def yX6_orders : MethodName := ⟨RX6, "orders", "()Z"⟩
abbrev cX6_faultOf : ByteArray := prog_8_method_70_code
def yX6_faultOf : MethodName := ⟨RX6, "faultOf", "()I"⟩
abbrev cX6_carryOut : ByteArray := prog_8_method_71_code
def yX6_carryOut : MethodName := ⟨RX6, "carryOut", "()I"⟩
abbrev cX6_sums : ByteArray := prog_8_method_72_code
def yX6_sums : MethodName := ⟨RX6, "sums", "(JJ)J"⟩
abbrev cX6_digest : ByteArray := prog_8_method_73_code
def yX6_digest : MethodName := ⟨RX6, "digest", "()J"⟩
def RL : String := "VisionMixerLaw"
abbrev cL_program : ByteArray := method_3_code
def yL_program : MethodName := ⟨RL, "program", "(LVisionMixer;I[J)I"⟩
abbrev cL_preview : ByteArray := method_4_code
def yL_preview : MethodName := ⟨RL, "preview", "(LVisionMixer;I[J)I"⟩
abbrev cL_transition : ByteArray := method_5_code
def yL_transition : MethodName := ⟨RL, "transition", "(LVisionMixer;II[J)I"⟩
abbrev cL_next : ByteArray := method_6_code
def yL_next : MethodName := ⟨RL, "next", "(LVisionMixer;I[J)I"⟩
abbrev cL_key : ByteArray := method_7_code
def yL_key : MethodName := ⟨RL, "key", "(LVisionMixer;IIII[J)I"⟩
abbrev cL_toggle : ByteArray := method_8_code
def yL_toggle : MethodName := ⟨RL, "toggle", "(LVisionMixer;I[J)I"⟩
abbrev cL_cut : ByteArray := method_9_code
def yL_cut : MethodName := ⟨RL, "cut", "(LVisionMixer;[J)I"⟩
abbrev cL_auto : ByteArray := method_10_code
def yL_auto : MethodName := ⟨RL, "auto", "(LVisionMixer;[J)I"⟩
abbrev cL_bar : ByteArray := method_11_code
def yL_bar : MethodName := ⟨RL, "bar", "(LVisionMixer;I[J)I"⟩
abbrev cL_fault : ByteArray := method_12_code
def yL_fault : MethodName := ⟨RL, "fault", "(LVisionMixer;IZ[J)I"⟩
abbrev cL_pass : ByteArray := method_13_code
def yL_pass : MethodName := ⟨RL, "pass", "(LVisionMixer;I[J)I"⟩
abbrev cL_setting : ByteArray := method_14_code
def yL_setting : MethodName := ⟨RL, "setting", "(LVisionMixer;I[J)I"⟩
abbrev cL_keyer : ByteArray := method_15_code
def yL_keyer : MethodName := ⟨RL, "keyer", "(LVisionMixer;II[J)I"⟩
abbrev cL_share : ByteArray := method_16_code
def yL_share : MethodName := ⟨RL, "share", "(LVisionMixer;IZ[J)I"⟩
abbrev cL_tally : ByteArray := method_17_code
def yL_tally : MethodName := ⟨RL, "tally", "(LVisionMixer;I[J)I"⟩
abbrev cL_settingAt : ByteArray := method_18_code
def yL_settingAt : MethodName := ⟨RL, "settingAt", "(LVisionMixer;II[J)I"⟩
abbrev cL_shareAt : ByteArray := method_19_code
def yL_shareAt : MethodName := ⟨RL, "shareAt", "(LVisionMixer;II[J)I"⟩
abbrev cL_timesRed : ByteArray := method_20_code
def yL_timesRed : MethodName := ⟨RL, "timesRed", "(LVisionMixer;I[J)I"⟩
abbrev cL_firstRed : ByteArray := method_21_code
def yL_firstRed : MethodName := ⟨RL, "firstRed", "(LVisionMixer;I[J)I"⟩
abbrev cL_act : ByteArray := method_22_code
def yL_act : MethodName := ⟨RL, "act", "(LVisionMixer;II[J)I"⟩
abbrev cL_takeOut : ByteArray := method_23_code
def yL_takeOut : MethodName := ⟨RL, "takeOut", "(LVisionMixer;I[J)I"⟩
abbrev cL_undo : ByteArray := method_24_code
def yL_undo : MethodName := ⟨RL, "undo", "(LVisionMixer;[J)I"⟩
abbrev cL_redWithout : ByteArray := method_25_code
def yL_redWithout : MethodName := ⟨RL, "redWithout", "(LVisionMixer;I[J)I"⟩
abbrev cL_append : ByteArray := method_26_code
def yL_append : MethodName := ⟨RL, "append", "(LVisionMixer;I[J)I"⟩
abbrev cL_law : ByteArray := code
def yL_law : MethodName := ⟨RL, "law", "([I)Z"⟩
set_option maxRecDepth 20000 in
def wsL_law0_r1 : List Cond := [Cond.classLink RL 8 RX5, Cond.instantiable RX5 8, Cond.initialized RX5, Cond.classLink RL 93 RX6, Cond.instantiable RX6 19, Cond.initialized RX6, Cond.arrayClass .long, Cond.methodLink RL 92 yX5_init, Cond.instanceMethod yX5_init, Cond.code yX5_init cX5_init 1 none, Cond.methodLink RX5 1 objectInit, Cond.instanceMethod objectInit, Cond.code objectInit ⟨#[0xb1]⟩ 1 none, Cond.classLink RX5 7 RX1, Cond.instantiable RX1 14, Cond.initialized RX1, Cond.fieldLink RX5 10 "VisionMixer" "now" "LVisionMixer$Mix;", Cond.fieldLink RX5 16 "VisionMixer" "kept" "LVisionMixer$Mix;", Cond.fieldLink RX5 19 "VisionMixer" "behind" "LVisionMixer$Mix;", Cond.classLink RX5 22 RX0, Cond.instantiable RX0 2, Cond.initialized RX0, Cond.fieldLink RX5 25 "VisionMixer" "log" "LVisionMixer$Log;", Cond.classLink RX5 29 RX3]
set_option maxRecDepth 20000 in
def wsL_law0_r2 : List Cond := [Cond.instantiable RX3 2, Cond.initialized RX3, Cond.fieldLink RX5 32 "VisionMixer" "replay" "LVisionMixer$Replay;", Cond.classLink RX5 36 RX2, Cond.instantiable RX2 1, Cond.initialized RX2, Cond.fieldLink RX5 39 "VisionMixer" "picture" "LVisionMixer$Picture;", Cond.fieldLink RX5 43 "VisionMixer" "other" "LVisionMixer$Picture;", Cond.classLink RX5 46 RX4, Cond.instantiable RX4 6, Cond.initialized RX4, Cond.fieldLink RX5 49 "VisionMixer" "script" "LVisionMixer$Script;", Cond.methodLink RX5 9 yX1_init, Cond.instanceMethod yX1_init, Cond.code yX1_init cX1_init 1 none, Cond.methodLink RX1 3 objectInit, Cond.arrayClass .int, Cond.fieldLink RX1 9 "VisionMixer$Mix" "fills" "[I", Cond.fieldLink RX1 15 "VisionMixer$Mix" "opacities" "[I", Cond.fieldLink RX1 18 "VisionMixer$Mix" "areas" "[I", Cond.methodLink RX1 21 yX1_reset, Cond.instanceMethod yX1_reset, Cond.selects RX1 yX1_reset yX1_reset, Cond.code yX1_reset cX1_reset 2 none]
set_option maxRecDepth 20000 in
def wsL_law0_r3 : List Cond := [Cond.fieldLink RX1 24 "VisionMixer$Mix" "program" "I", Cond.fieldLink RX1 28 "VisionMixer$Mix" "preview" "I", Cond.fieldLink RX1 31 "VisionMixer$Mix" "kind" "I", Cond.fieldLink RX1 34 "VisionMixer$Mix" "rate" "I", Cond.fieldLink RX1 37 "VisionMixer$Mix" "elements" "I", Cond.fieldLink RX1 40 "VisionMixer$Mix" "position" "I", Cond.fieldLink RX1 43 "VisionMixer$Mix" "run" "I", Cond.fieldLink RX1 46 "VisionMixer$Mix" "time" "I", Cond.fieldLink RX1 49 "VisionMixer$Mix" "runsCompleted" "I", Cond.fieldLink RX1 52 "VisionMixer$Mix" "faults" "I", Cond.fieldLink RX1 55 "VisionMixer$Mix" "keyersOn" "I", Cond.static yX5_put, Cond.code yX5_put cX5_put 3 none, Cond.methodLink RX5 24 yX0_init, Cond.instanceMethod yX0_init, Cond.code yX0_init cX0_init 1 none, Cond.methodLink RX0 1 objectInit, Cond.fieldLink RX0 9 "VisionMixer$Log" "entries" "[I", Cond.methodLink RX5 31 yX3_init, Cond.instanceMethod yX3_init, Cond.code yX3_init cX3_init 1 none, Cond.methodLink RX3 3 objectInit, Cond.classLink RX3 9 RX1, Cond.fieldLink RX3 12 "VisionMixer$Replay" "mix" "LVisionMixer$Mix;"]
set_option maxRecDepth 20000 in
def wsL_law0_r4 : List Cond := [Cond.methodLink RX3 11 yX1_init, Cond.methodLink RX5 38 yX2_init, Cond.instanceMethod yX2_init, Cond.code yX2_init cX2_init 1 none, Cond.methodLink RX2 3 objectInit, Cond.fieldLink RX2 9 "VisionMixer$Picture" "parts" "[I", Cond.methodLink RX5 48 yX4_init, Cond.instanceMethod yX4_init, Cond.code yX4_init cX4_init 1 none, Cond.methodLink RX4 3 objectInit, Cond.fieldLink RX4 11 "VisionMixer$Script" "signs" "[I", Cond.fieldLink RX4 15 "VisionMixer$Script" "orders" "[I", Cond.methodLink RL 95 yX6_init, Cond.instanceMethod yX6_init, Cond.code yX6_init cX6_init 1 none, Cond.methodLink RX6 1 objectInit, Cond.fieldLink RX6 7 "VisionMixerModel" "m" "[I", Cond.fieldLink RX6 13 "VisionMixerModel" "aside" "[I", Cond.fieldLink RX6 16 "VisionMixerModel" "log" "[I", Cond.fieldLink RX6 19 "VisionMixerModel" "shares" "[I", Cond.fieldLink RX6 22 "VisionMixerModel" "kept" "[I", Cond.fieldLink RX6 25 "VisionMixerModel" "text" "[I", Cond.methodLink RX6 28 yX6_begins, Cond.instanceMethod yX6_begins]
set_option maxRecDepth 20000 in
def wsL_law0_r5 : List Cond := [Cond.selects RX6 yX6_begins yX6_begins, Cond.code yX6_begins cX6_begins 3 none, Cond.methodLink RL 96 yL_program, Cond.static yL_program, Cond.initialized RL, Cond.codeWith yL_program cL_program 4 (some .int) [(0, 9, 12, 13), (0, 9, 15, 15)], Cond.classLink RL 13 "java/lang/IndexOutOfBoundsException", Cond.classLink RL 15 "java/lang/IllegalStateException", Cond.methodLink RL 7 yX5_program, Cond.instanceMethod yX5_program, Cond.selects RX5 yX5_program yX5_program, Cond.code yX5_program cX5_program 2 (some .int), Cond.methodLink RX5 53 yX5_checkSource, Cond.static yX5_checkSource, Cond.code yX5_checkSource cX5_checkSource 1 none, Cond.classLink RX5 68 "java/lang/IndexOutOfBoundsException", Cond.initialized "java/lang/IndexOutOfBoundsException", Cond.methodLink RX5 57 yX5_enact, Cond.instanceMethod yX5_enact, Cond.selects RX5 yX5_enact yX5_enact, Cond.code yX5_enact cX5_enact 6 (some .int), Cond.classLink RX5 75 "java/lang/IllegalStateException", Cond.initialized "java/lang/IllegalStateException", Cond.methodLink RX5 221 yX5_mayAct]
set_option maxRecDepth 20000 in
def wsL_law0_r6 : List Cond := [Cond.instanceMethod yX5_mayAct, Cond.selects RX5 yX5_mayAct yX5_mayAct, Cond.code yX5_mayAct cX5_mayAct 2 (some .boolean), Cond.methodLink RX5 217 yX0_isFull, Cond.instanceMethod yX0_isFull, Cond.selects RX0 yX0_isFull yX0_isFull, Cond.code yX0_isFull cX0_isFull 1 (some .boolean), Cond.fieldLink RX0 13 "VisionMixer$Log" "count" "I", Cond.methodLink RX5 218 yX1_isPossible, Cond.instanceMethod yX1_isPossible, Cond.selects RX1 yX1_isPossible yX1_isPossible, Cond.code yX1_isPossible cX1_isPossible 2 (some .boolean), Cond.methodLink RX5 224 yX0_add, Cond.instanceMethod yX0_add, Cond.selects RX0 yX0_add yX0_add, Cond.code yX0_add cX0_add 8 none, Cond.methodLink RX5 227 yX1_perform, Cond.instanceMethod yX1_perform, Cond.selects RX1 yX1_perform yX1_perform, Cond.code yX1_perform cX1_perform 6 (some .int), Cond.methodLink RX1 66 yX1_setProgram, Cond.instanceMethod yX1_setProgram, Cond.selects RX1 yX1_setProgram yX1_setProgram, Cond.code yX1_setProgram cX1_setProgram 3 (some .int)]
set_option maxRecDepth 20000 in
def wsL_law0_r7 : List Cond := [Cond.methodLink RX1 70 yX1_setPreview, Cond.instanceMethod yX1_setPreview, Cond.selects RX1 yX1_setPreview yX1_setPreview, Cond.code yX1_setPreview cX1_setPreview 3 (some .int), Cond.methodLink RX1 73 yX1_setKindAndRate, Cond.instanceMethod yX1_setKindAndRate, Cond.selects RX1 yX1_setKindAndRate yX1_setKindAndRate, Cond.code yX1_setKindAndRate cX1_setKindAndRate 4 (some .int), Cond.methodLink RX1 77 yX1_setElements, Cond.instanceMethod yX1_setElements, Cond.selects RX1 yX1_setElements yX1_setElements, Cond.code yX1_setElements cX1_setElements 3 (some .int), Cond.methodLink RX1 80 yX1_setKeyer, Cond.instanceMethod yX1_setKeyer, Cond.selects RX1 yX1_setKeyer yX1_setKeyer, Cond.code yX1_setKeyer cX1_setKeyer 6 (some .int), Cond.static yX5_cell, Cond.code yX5_cell cX5_cell 2 (some .int), Cond.methodLink RX1 84 yX1_switchKeyer, Cond.instanceMethod yX1_switchKeyer, Cond.selects RX1 yX1_switchKeyer yX1_switchKeyer, Cond.code yX1_switchKeyer cX1_switchKeyer 2 (some .int), Cond.methodLink RX1 96 yX1_isOn, Cond.instanceMethod yX1_isOn]
set_option maxRecDepth 20000 in
def wsL_law0_r8 : List Cond := [Cond.selects RX1 yX1_isOn yX1_isOn, Cond.code yX1_isOn cX1_isOn 2 (some .boolean), Cond.methodLink RX1 87 yX1_complete, Cond.instanceMethod yX1_complete, Cond.selects RX1 yX1_complete yX1_complete, Cond.code yX1_complete cX1_complete 2 none, Cond.methodLink RX1 100 yX1_movesBackground, Cond.instanceMethod yX1_movesBackground, Cond.selects RX1 yX1_movesBackground yX1_movesBackground, Cond.code yX1_movesBackground cX1_movesBackground 1 (some .boolean), Cond.methodLink RX1 90 yX1_setPosition, Cond.instanceMethod yX1_setPosition, Cond.selects RX1 yX1_setPosition yX1_setPosition, Cond.code yX1_setPosition cX1_setPosition 3 (some .int), Cond.methodLink RX1 93 yX1_setFault, Cond.instanceMethod yX1_setFault, Cond.selects RX1 yX1_setFault yX1_setFault, Cond.code yX1_setFault cX1_setFault 4 (some .int), Cond.methodLink RL 101 yX6_program, Cond.instanceMethod yX6_program, Cond.selects RX6 yX6_program yX6_program, Cond.code yX6_program cX6_program 2 (some .int), Cond.methodLink RX6 78 yX6_isSource, Cond.static yX6_isSource]
set_option maxRecDepth 20000 in
def wsL_law0_r9 : List Cond := [Cond.code yX6_isSource cX6_isSource 1 (some .boolean), Cond.constantLong RX6 35 (9), Cond.methodLink RX6 37 yX6_in, Cond.static yX6_in, Cond.code yX6_in cX6_in 6 (some .boolean), Cond.methodLink RX6 81 yX6_hasRoom, Cond.instanceMethod yX6_hasRoom, Cond.selects RX6 yX6_hasRoom yX6_hasRoom, Cond.code yX6_hasRoom cX6_hasRoom 1 (some .boolean), Cond.fieldLink RX6 68 "VisionMixerModel" "acts" "I", Cond.methodLink RX6 84 yX6_goes, Cond.instanceMethod yX6_goes, Cond.selects RX6 yX6_goes yX6_goes, Cond.code yX6_goes cX6_goes 4 (some .boolean), Cond.fieldLink RX6 31 "VisionMixerModel" "thrown" "I", Cond.methodLink RX6 88 yX6_acts, Cond.instanceMethod yX6_acts, Cond.selects RX6 yX6_acts yX6_acts, Cond.code yX6_acts cX6_acts 7 (some .int), Cond.fieldLink RX6 71 "VisionMixerModel" "clock" "I", Cond.methodLink RX6 74 yX6_does, Cond.instanceMethod yX6_does, Cond.selects RX6 yX6_does yX6_does, Cond.code yX6_does cX6_does 7 (some .int)]
set_option maxRecDepth 20000 in
def wsL_law0_r10 : List Cond := [Cond.methodLink RX6 57 yX6_isPossible, Cond.instanceMethod yX6_isPossible, Cond.selects RX6 yX6_isPossible yX6_isPossible, Cond.code yX6_isPossible cX6_isPossible 2 (some .boolean), Cond.methodLink RX6 53 yX6_isUnderWay, Cond.instanceMethod yX6_isUnderWay, Cond.selects RX6 yX6_isUnderWay yX6_isUnderWay, Cond.code yX6_isUnderWay cX6_isUnderWay 1 (some .boolean), Cond.methodLink RX6 60 yX6_ofKeyer, Cond.instanceMethod yX6_ofKeyer, Cond.selects RX6 yX6_ofKeyer yX6_ofKeyer, Cond.code yX6_ofKeyer cX6_ofKeyer 3 (some .int), Cond.methodLink RX6 47 yX6_completes, Cond.instanceMethod yX6_completes, Cond.selects RX6 yX6_completes yX6_completes, Cond.code yX6_completes cX6_completes 3 none, Cond.methodLink RX6 43 yX6_isElement, Cond.instanceMethod yX6_isElement, Cond.selects RX6 yX6_isElement yX6_isElement, Cond.code yX6_isElement cX6_isElement 2 (some .boolean), Cond.methodLink RX6 64 yX6_moves, Cond.instanceMethod yX6_moves, Cond.selects RX6 yX6_moves yX6_moves, Cond.code yX6_moves cX6_moves 3 (some .int)]
set_option maxRecDepth 20000 in
def wsL_law0_r11 : List Cond := [Cond.methodLink RL 102 yX6_thrown, Cond.instanceMethod yX6_thrown, Cond.selects RX6 yX6_thrown yX6_thrown, Cond.code yX6_thrown cX6_thrown 1 (some .int), Cond.methodLink RL 105 yL_preview, Cond.static yL_preview, Cond.codeWith yL_preview cL_preview 4 (some .int) [(0, 9, 12, 13), (0, 9, 15, 15)], Cond.methodLink RL 17 yX5_preview, Cond.instanceMethod yX5_preview, Cond.selects RX5 yX5_preview yX5_preview, Cond.code yX5_preview cX5_preview 2 (some .int), Cond.methodLink RL 107 yX6_preview, Cond.instanceMethod yX6_preview, Cond.selects RX6 yX6_preview yX6_preview, Cond.code yX6_preview cX6_preview 2 (some .int), Cond.methodLink RL 108 yL_transition, Cond.static yL_transition, Cond.codeWith yL_transition cL_transition 5 (some .int) [(0, 10, 13, 24), (0, 10, 17, 15)], Cond.classLink RL 24 "java/lang/IllegalArgumentException", Cond.methodLink RL 20 yX5_transition, Cond.instanceMethod yX5_transition, Cond.selects RX5 yX5_transition yX5_transition, Cond.code yX5_transition cX5_transition 3 (some .int), Cond.methodLink RX5 61 yX5_checkRange]
set_option maxRecDepth 20000 in
def wsL_law0_r12 : List Cond := [Cond.static yX5_checkRange, Cond.code yX5_checkRange cX5_checkRange 3 none, Cond.classLink RX5 214 "java/lang/IllegalArgumentException", Cond.initialized "java/lang/IllegalArgumentException", Cond.methodLink RL 111 yX6_transition, Cond.instanceMethod yX6_transition, Cond.selects RX6 yX6_transition yX6_transition, Cond.code yX6_transition cX6_transition 3 (some .int), Cond.constantLong RX6 41 (2), Cond.constantLong RX6 90 (100), Cond.methodLink RL 112 yL_next, Cond.static yL_next, Cond.codeWith yL_next cL_next 4 (some .int) [(0, 9, 12, 24), (0, 9, 15, 15)], Cond.methodLink RL 26 yX5_next, Cond.instanceMethod yX5_next, Cond.selects RX5 yX5_next yX5_next, Cond.code yX5_next cX5_next 2 (some .int), Cond.methodLink RL 114 yX6_next, Cond.instanceMethod yX6_next, Cond.selects RX6 yX6_next yX6_next, Cond.code yX6_next cX6_next 2 (some .int), Cond.constantLong RX6 92 (15), Cond.methodLink RL 115 yL_key, Cond.static yL_key]
set_option maxRecDepth 20000 in
def wsL_law0_r13 : List Cond := [Cond.codeWith yL_key cL_key 7 (some .int) [(0, 14, 17, 13), (0, 14, 21, 24), (0, 14, 25, 15)], Cond.methodLink RL 29 yX5_key, Cond.instanceMethod yX5_key, Cond.selects RX5 yX5_key yX5_key, Cond.code yX5_key cX5_key 5 (some .int), Cond.methodLink RX5 65 yX5_checkKeyer, Cond.static yX5_checkKeyer, Cond.code yX5_checkKeyer cX5_checkKeyer 1 none, Cond.methodLink RL 118 yX6_key, Cond.instanceMethod yX6_key, Cond.selects RX6 yX6_key yX6_key, Cond.code yX6_key cX6_key 5 (some .int), Cond.methodLink RX6 94 yX6_isKeyer, Cond.static yX6_isKeyer, Cond.code yX6_isKeyer cX6_isKeyer 1 (some .boolean), Cond.methodLink RL 119 yL_toggle, Cond.static yL_toggle, Cond.codeWith yL_toggle cL_toggle 4 (some .int) [(0, 9, 12, 13), (0, 9, 15, 15)], Cond.methodLink RL 33 yX5_toggle, Cond.instanceMethod yX5_toggle, Cond.selects RX5 yX5_toggle yX5_toggle, Cond.code yX5_toggle cX5_toggle 2 (some .int), Cond.methodLink RL 121 yX6_toggle, Cond.instanceMethod yX6_toggle]
set_option maxRecDepth 20000 in
def wsL_law0_r14 : List Cond := [Cond.selects RX6 yX6_toggle yX6_toggle, Cond.code yX6_toggle cX6_toggle 2 (some .int), Cond.methodLink RL 122 yL_cut, Cond.static yL_cut, Cond.codeWith yL_cut cL_cut 3 (some .int) [(0, 8, 11, 15)], Cond.methodLink RL 36 yX5_cut, Cond.instanceMethod yX5_cut, Cond.selects RX5 yX5_cut yX5_cut, Cond.code yX5_cut cX5_cut 1 (some .int), Cond.methodLink RL 125 yX6_cut, Cond.instanceMethod yX6_cut, Cond.selects RX6 yX6_cut yX6_cut, Cond.code yX6_cut cX6_cut 1 (some .int), Cond.methodLink RL 126 yL_auto, Cond.static yL_auto, Cond.codeWith yL_auto cL_auto 3 (some .int) [(0, 8, 11, 15)], Cond.methodLink RL 40 yX5_auto, Cond.instanceMethod yX5_auto, Cond.selects RX5 yX5_auto yX5_auto, Cond.code yX5_auto cX5_auto 1 (some .int), Cond.methodLink RL 128 yX6_auto, Cond.instanceMethod yX6_auto, Cond.selects RX6 yX6_auto yX6_auto, Cond.code yX6_auto cX6_auto 1 (some .int)]
set_option maxRecDepth 20000 in
def wsL_law0_r15 : List Cond := [Cond.methodLink RL 129 yL_bar, Cond.static yL_bar, Cond.codeWith yL_bar cL_bar 4 (some .int) [(0, 9, 12, 24), (0, 9, 15, 15)], Cond.methodLink RL 43 yX5_bar, Cond.instanceMethod yX5_bar, Cond.selects RX5 yX5_bar yX5_bar, Cond.code yX5_bar cX5_bar 2 (some .int), Cond.methodLink RL 131 yX6_bar, Cond.instanceMethod yX6_bar, Cond.selects RX6 yX6_bar yX6_bar, Cond.code yX6_bar cX6_bar 2 (some .int), Cond.constantLong RX6 97 (1000), Cond.methodLink RL 132 yL_fault, Cond.static yL_fault, Cond.codeWith yL_fault cL_fault 5 (some .int) [(0, 10, 13, 13), (0, 10, 17, 15)], Cond.methodLink RL 46 yX5_fault, Cond.instanceMethod yX5_fault, Cond.selects RX5 yX5_fault yX5_fault, Cond.code yX5_fault cX5_fault 3 (some .int), Cond.methodLink RL 135 yX6_fault, Cond.instanceMethod yX6_fault, Cond.selects RX6 yX6_fault yX6_fault, Cond.code yX6_fault cX6_fault 3 (some .int), Cond.methodLink RL 136 yL_pass]
set_option maxRecDepth 20000 in
def wsL_law0_r16 : List Cond := [Cond.static yL_pass, Cond.codeWith yL_pass cL_pass 4 (some .int) [(0, 9, 12, 24), (0, 9, 15, 15)], Cond.methodLink RL 50 yX5_pass, Cond.instanceMethod yX5_pass, Cond.selects RX5 yX5_pass yX5_pass, Cond.code yX5_pass cX5_pass 2 (some .int), Cond.methodLink RX5 78 yX1_letPass, Cond.instanceMethod yX1_letPass, Cond.selects RX1 yX1_letPass yX1_letPass, Cond.code yX1_letPass cX1_letPass 2 none, Cond.methodLink RX1 104 Lib.Math.max.name, Cond.static Lib.Math.max.name, Cond.initialized "java/lang/Math", Cond.code Lib.Math.max.name Lib.Math.max.code 2 (some .int), Cond.methodLink RL 138 yX6_pass, Cond.instanceMethod yX6_pass, Cond.selects RX6 yX6_pass yX6_pass, Cond.code yX6_pass cX6_pass 3 (some .int), Cond.constantLong RX6 99 (500), Cond.methodLink RX6 101 yX6_passes, Cond.instanceMethod yX6_passes, Cond.selects RX6 yX6_passes yX6_passes, Cond.code yX6_passes cX6_passes 3 none, Cond.methodLink RX6 105 yX6_frame]
set_option maxRecDepth 20000 in
def wsL_law0_r17 : List Cond := [Cond.instanceMethod yX6_frame, Cond.selects RX6 yX6_frame yX6_frame, Cond.code yX6_frame cX6_frame 1 none, Cond.fieldLink RX6 50 "VisionMixerModel" "ran" "I", Cond.methodLink RL 139 yL_setting, Cond.static yL_setting, Cond.codeWith yL_setting cL_setting 4 (some .int) [(0, 9, 12, 24)], Cond.methodLink RL 53 yX5_setting, Cond.instanceMethod yX5_setting, Cond.selects RX5 yX5_setting yX5_setting, Cond.code yX5_setting cX5_setting 2 (some .int), Cond.methodLink RX5 81 yX5_presentSetting, Cond.instanceMethod yX5_presentSetting, Cond.selects RX5 yX5_presentSetting yX5_presentSetting, Cond.code yX5_presentSetting cX5_presentSetting 2 (some .int), Cond.methodLink RX5 160 yX0_size, Cond.instanceMethod yX0_size, Cond.selects RX0 yX0_size yX0_size, Cond.code yX0_size cX0_size 1 (some .int), Cond.methodLink RX5 123 yX1_tellSetting, Cond.instanceMethod yX1_tellSetting, Cond.selects RX1 yX1_tellSetting yX1_tellSetting, Cond.code yX1_tellSetting cX1_tellSetting 2 (some .int), Cond.methodLink RL 141 yX6_setting]
set_option maxRecDepth 20000 in
def wsL_law0_r18 : List Cond := [Cond.instanceMethod yX6_setting, Cond.selects RX6 yX6_setting yX6_setting, Cond.code yX6_setting cX6_setting 2 (some .int), Cond.constantLong RX6 143 (8), Cond.methodLink RX6 145 yX6_settingOf, Cond.instanceMethod yX6_settingOf, Cond.selects RX6 yX6_settingOf yX6_settingOf, Cond.code yX6_settingOf cX6_settingOf 2 (some .int), Cond.methodLink RL 142 yL_keyer, Cond.static yL_keyer, Cond.codeWith yL_keyer cL_keyer 5 (some .int) [(0, 10, 13, 13), (0, 10, 17, 24)], Cond.methodLink RL 56 yX5_keyer, Cond.instanceMethod yX5_keyer, Cond.selects RX5 yX5_keyer yX5_keyer, Cond.code yX5_keyer cX5_keyer 3 (some .int), Cond.methodLink RX5 85 yX1_tellKeyer, Cond.instanceMethod yX1_tellKeyer, Cond.selects RX1 yX1_tellKeyer yX1_tellKeyer, Cond.code yX1_tellKeyer cX1_tellKeyer 3 (some .int), Cond.methodLink RL 144 yX6_keyer, Cond.instanceMethod yX6_keyer, Cond.selects RX6 yX6_keyer yX6_keyer, Cond.code yX6_keyer cX6_keyer 3 (some .int), Cond.constantLong RX6 148 (3)]
set_option maxRecDepth 20000 in
def wsL_law0_r19 : List Cond := [Cond.methodLink RL 145 yL_share, Cond.static yL_share, Cond.codeWith yL_share cL_share 5 (some .int) [(0, 10, 13, 13)], Cond.methodLink RL 59 yX5_share, Cond.instanceMethod yX5_share, Cond.selects RX5 yX5_share yX5_share, Cond.code yX5_share cX5_share 3 (some .int), Cond.methodLink RX5 89 yX2_paint, Cond.instanceMethod yX2_paint, Cond.selects RX2 yX2_paint yX2_paint, Cond.code yX2_paint cX2_paint 3 none, Cond.methodLink RX2 19 yX2_paintBackground, Cond.instanceMethod yX2_paintBackground, Cond.selects RX2 yX2_paintBackground yX2_paintBackground, Cond.code yX2_paintBackground cX2_paintBackground 3 none, Cond.constant RX2 47 (1000000), Cond.constant RX2 57 (2000000), Cond.methodLink RX2 40 yX1_movesBackground, Cond.methodLink RX2 48 yX2_addPart, Cond.instanceMethod yX2_addPart, Cond.selects RX2 yX2_addPart yX2_addPart, Cond.code yX2_addPart cX2_addPart 3 none, Cond.methodLink RX2 23 yX1_fillOf, Cond.instanceMethod yX1_fillOf]
set_option maxRecDepth 20000 in
def wsL_law0_r20 : List Cond := [Cond.selects RX1 yX1_fillOf yX1_fillOf, Cond.code yX1_fillOf cX1_fillOf 2 (some .int), Cond.methodLink RX2 29 yX1_coverOf, Cond.instanceMethod yX1_coverOf, Cond.selects RX1 yX1_coverOf yX1_coverOf, Cond.code yX1_coverOf cX1_coverOf 4 (some .int), Cond.methodLink RX1 109 yX1_moves, Cond.instanceMethod yX1_moves, Cond.selects RX1 yX1_moves yX1_moves, Cond.code yX1_moves cX1_moves 2 (some .boolean), Cond.methodLink RX2 32 yX2_layOver, Cond.instanceMethod yX2_layOver, Cond.selects RX2 yX2_layOver yX2_layOver, Cond.code yX2_layOver cX2_layOver 6 none, Cond.constantLong RX2 62 (10000), Cond.methodLink RX5 96 yX2_seenOf, Cond.instanceMethod yX2_seenOf, Cond.selects RX2 yX2_seenOf yX2_seenOf, Cond.code yX2_seenOf cX2_seenOf 3 (some .int), Cond.methodLink RX2 64 yX2_partOf, Cond.instanceMethod yX2_partOf, Cond.selects RX2 yX2_partOf yX2_partOf, Cond.code yX2_partOf cX2_partOf 2 (some .int), Cond.methodLink RX2 67 yX2_faultyParts]
set_option maxRecDepth 20000 in
def wsL_law0_r21 : List Cond := [Cond.instanceMethod yX2_faultyParts, Cond.selects RX2 yX2_faultyParts yX2_faultyParts, Cond.code yX2_faultyParts cX2_faultyParts 4 (some .int), Cond.static yX5_hasSource, Cond.code yX5_hasSource cX5_hasSource 2 (some .boolean), Cond.methodLink RX5 99 yX2_partOf, Cond.methodLink RL 147 yX6_share, Cond.instanceMethod yX6_share, Cond.selects RX6 yX6_share yX6_share, Cond.code yX6_share cX6_share 3 (some .int), Cond.methodLink RX6 134 yX6_shareOf, Cond.instanceMethod yX6_shareOf, Cond.selects RX6 yX6_shareOf yX6_shareOf, Cond.code yX6_shareOf cX6_shareOf 5 (some .int), Cond.methodLink RX6 118 yX6_laysShares, Cond.instanceMethod yX6_laysShares, Cond.selects RX6 yX6_laysShares yX6_laysShares, Cond.code yX6_laysShares cX6_laysShares 3 none, Cond.constant RX6 108 (1000000), Cond.methodLink RX6 109 yX6_coverOf, Cond.instanceMethod yX6_coverOf, Cond.selects RX6 yX6_coverOf yX6_coverOf, Cond.code yX6_coverOf cX6_coverOf 4 (some .int), Cond.methodLink RX6 112 yX6_covers]
set_option maxRecDepth 20000 in
def wsL_law0_r22 : List Cond := [Cond.instanceMethod yX6_covers, Cond.selects RX6 yX6_covers yX6_covers, Cond.code yX6_covers cX6_covers 6 none, Cond.constantLong RX6 116 (10000), Cond.methodLink RL 148 yL_tally, Cond.static yL_tally, Cond.codeWith yL_tally cL_tally 4 (some .int) [(0, 9, 12, 13)], Cond.methodLink RL 62 yX5_tally, Cond.instanceMethod yX5_tally, Cond.selects RX5 yX5_tally yX5_tally, Cond.code yX5_tally cX5_tally 2 (some .int), Cond.methodLink RX5 102 yX5_paintTallies, Cond.instanceMethod yX5_paintTallies, Cond.selects RX5 yX5_paintTallies yX5_paintTallies, Cond.code yX5_paintTallies cX5_paintTallies 1 none, Cond.methodLink RX5 184 yX1_copy, Cond.instanceMethod yX1_copy, Cond.selects RX1 yX1_copy yX1_copy, Cond.code yX1_copy cX1_copy 3 none, Cond.methodLink RX5 243 yX1_complete, Cond.methodLink RX5 105 yX5_tallyPainted, Cond.instanceMethod yX5_tallyPainted, Cond.selects RX5 yX5_tallyPainted yX5_tallyPainted, Cond.code yX5_tallyPainted cX5_tallyPainted 2 (some .int)]
set_option maxRecDepth 20000 in
def wsL_law0_r23 : List Cond := [Cond.methodLink RL 150 yX6_tally, Cond.instanceMethod yX6_tally, Cond.selects RX6 yX6_tally yX6_tally, Cond.code yX6_tally cX6_tally 2 (some .int), Cond.methodLink RX6 138 yX6_tallyOf, Cond.instanceMethod yX6_tallyOf, Cond.selects RX6 yX6_tallyOf yX6_tallyOf, Cond.code yX6_tallyOf cX6_tallyOf 2 (some .int), Cond.methodLink RX6 124 yX6_reds, Cond.instanceMethod yX6_reds, Cond.selects RX6 yX6_reds yX6_reds, Cond.code yX6_reds cX6_reds 3 (some .int), Cond.methodLink RX6 131 yX6_redsBehind, Cond.instanceMethod yX6_redsBehind, Cond.selects RX6 yX6_redsBehind yX6_redsBehind, Cond.code yX6_redsBehind cX6_redsBehind 2 (some .int), Cond.methodLink RX6 121 yX6_lays, Cond.instanceMethod yX6_lays, Cond.selects RX6 yX6_lays yX6_lays, Cond.code yX6_lays cX6_lays 2 none, Cond.methodLink RX6 128 yX6_takesBack, Cond.instanceMethod yX6_takesBack, Cond.selects RX6 yX6_takesBack yX6_takesBack, Cond.code yX6_takesBack cX6_takesBack 2 none]
set_option maxRecDepth 20000 in
def wsL_law0_r24 : List Cond := [Cond.methodLink RL 151 yX5_faulty, Cond.instanceMethod yX5_faulty, Cond.selects RX5 yX5_faulty yX5_faulty, Cond.code yX5_faulty cX5_faulty 1 (some .double), Cond.constantDouble RX5 111 (4696837146684686336), Cond.methodLink RX5 108 yX2_faultyParts, Cond.methodLink RL 155 yX6_faulty, Cond.instanceMethod yX6_faulty, Cond.selects RX6 yX6_faulty yX6_faulty, Cond.code yX6_faulty cX6_faulty 3 (some .double), Cond.constantDouble RX6 141 (4696837146684686336), Cond.methodLink RL 156 yL_settingAt, Cond.static yL_settingAt, Cond.codeWith yL_settingAt cL_settingAt 5 (some .int) [(0, 10, 13, 13), (0, 10, 17, 24)], Cond.methodLink RL 65 yX5_settingAt, Cond.instanceMethod yX5_settingAt, Cond.selects RX5 yX5_settingAt yX5_settingAt, Cond.code yX5_settingAt cX5_settingAt 3 (some .int), Cond.methodLink RX5 113 yX5_checkTime, Cond.instanceMethod yX5_checkTime, Cond.selects RX5 yX5_checkTime yX5_checkTime, Cond.code yX5_checkTime cX5_checkTime 2 none, Cond.methodLink RX5 116 yX5_replayTo, Cond.instanceMethod yX5_replayTo]
set_option maxRecDepth 20000 in
def wsL_law0_r25 : List Cond := [Cond.selects RX5 yX5_replayTo yX5_replayTo, Cond.code yX5_replayTo cX5_replayTo 3 none, Cond.methodLink RX5 126 yX3_begin, Cond.instanceMethod yX3_begin, Cond.selects RX3 yX3_begin yX3_begin, Cond.code yX3_begin cX3_begin 1 none, Cond.fieldLink RX3 21 "VisionMixer$Replay" "upcoming" "I", Cond.methodLink RX3 18 yX1_reset, Cond.methodLink RX5 239 yX3_goTo, Cond.instanceMethod yX3_goTo, Cond.selects RX3 yX3_goTo yX3_goTo, Cond.code yX3_goTo cX3_goTo 4 none, Cond.methodLink RX3 25 yX0_size, Cond.methodLink RX3 31 yX0_timeOf, Cond.instanceMethod yX0_timeOf, Cond.selects RX0 yX0_timeOf yX0_timeOf, Cond.code yX0_timeOf cX0_timeOf 2 (some .int), Cond.methodLink RX0 27 yX0_tell, Cond.instanceMethod yX0_tell, Cond.selects RX0 yX0_tell yX0_tell, Cond.code yX0_tell cX0_tell 3 (some .int), Cond.methodLink RX3 38 yX1_letPass, Cond.methodLink RX3 42 yX0_redo, Cond.instanceMethod yX0_redo]
set_option maxRecDepth 20000 in
def wsL_law0_r26 : List Cond := [Cond.selects RX0 yX0_redo yX0_redo, Cond.code yX0_redo cX0_redo 4 none, Cond.methodLink RX0 31 yX1_isPossible, Cond.methodLink RX0 37 yX1_perform, Cond.methodLink RL 158 yX6_settingAt, Cond.instanceMethod yX6_settingAt, Cond.selects RX6 yX6_settingAt yX6_settingAt, Cond.code yX6_settingAt cX6_settingAt 4 (some .int), Cond.constantLong RX6 159 (6), Cond.methodLink RX6 156 yX6_isTime, Cond.instanceMethod yX6_isTime, Cond.selects RX6 yX6_isTime yX6_isTime, Cond.code yX6_isTime cX6_isTime 2 (some .boolean), Cond.methodLink RX6 161 yX6_goesTo, Cond.instanceMethod yX6_goesTo, Cond.selects RX6 yX6_goesTo yX6_goesTo, Cond.code yX6_goesTo cX6_goesTo 4 none, Cond.fieldLink RX6 150 "VisionMixerModel" "nextAct" "I", Cond.methodLink RX6 153 yX6_doesAll, Cond.instanceMethod yX6_doesAll, Cond.selects RX6 yX6_doesAll yX6_doesAll, Cond.code yX6_doesAll cX6_doesAll 5 none, Cond.methodLink RL 159 yL_shareAt, Cond.static yL_shareAt]
set_option maxRecDepth 20000 in
def wsL_law0_r27 : List Cond := [Cond.codeWith yL_shareAt cL_shareAt 5 (some .int) [(0, 10, 13, 13)], Cond.methodLink RL 68 yX5_shareAt, Cond.instanceMethod yX5_shareAt, Cond.selects RX5 yX5_shareAt yX5_shareAt, Cond.code yX5_shareAt cX5_shareAt 3 (some .int), Cond.methodLink RL 161 yX6_shareAt, Cond.instanceMethod yX6_shareAt, Cond.selects RX6 yX6_shareAt yX6_shareAt, Cond.code yX6_shareAt cX6_shareAt 4 (some .int), Cond.methodLink RL 162 yL_timesRed, Cond.static yL_timesRed, Cond.codeWith yL_timesRed cL_timesRed 4 (some .int) [(0, 9, 12, 13)], Cond.methodLink RL 71 yX5_timesRed, Cond.instanceMethod yX5_timesRed, Cond.selects RX5 yX5_timesRed yX5_timesRed, Cond.code yX5_timesRed cX5_timesRed 6 (some .int), Cond.methodLink RX5 140 Lib.Math.max.name, Cond.methodLink RX5 129 yX5_redsAt, Cond.instanceMethod yX5_redsAt, Cond.selects RX5 yX5_redsAt yX5_redsAt, Cond.code yX5_redsAt cX5_redsAt 2 (some .int), Cond.methodLink RX5 164 yX2_reds, Cond.instanceMethod yX2_reds, Cond.selects RX2 yX2_reds yX2_reds]
set_option maxRecDepth 20000 in
def wsL_law0_r28 : List Cond := [Cond.code yX2_reds cX2_reds 3 (some .int), Cond.methodLink RX5 132 yX5_hasSource, Cond.methodLink RX5 136 yX3_sameTimes, Cond.instanceMethod yX3_sameTimes, Cond.selects RX3 yX3_sameTimes yX3_sameTimes, Cond.code yX3_sameTimes cX3_sameTimes 4 (some .int), Cond.methodLink RX3 49 Lib.Math.min.name, Cond.static Lib.Math.min.name, Cond.code Lib.Math.min.name Lib.Math.min.code 2 (some .int), Cond.methodLink RL 164 yX6_timesRed, Cond.instanceMethod yX6_timesRed, Cond.selects RX6 yX6_timesRed yX6_timesRed, Cond.code yX6_timesRed cX6_timesRed 2 (some .int), Cond.fieldLink RX6 164 "VisionMixerModel" "reddened" "I", Cond.methodLink RX6 173 yX6_goesThrough, Cond.instanceMethod yX6_goesThrough, Cond.selects RX6 yX6_goesThrough yX6_goesThrough, Cond.code yX6_goesThrough cX6_goesThrough 7 none, Cond.fieldLink RX6 167 "VisionMixerModel" "firstTime" "I", Cond.fieldLink RX6 170 "VisionMixerModel" "longest" "I", Cond.methodLink RL 165 yL_firstRed, Cond.static yL_firstRed, Cond.codeWith yL_firstRed cL_firstRed 4 (some .int) [(0, 9, 12, 13)], Cond.methodLink RL 74 yX5_firstRed]
set_option maxRecDepth 20000 in
def wsL_law0_r29 : List Cond := [Cond.instanceMethod yX5_firstRed, Cond.selects RX5 yX5_firstRed yX5_firstRed, Cond.code yX5_firstRed cX5_firstRed 4 (some .int), Cond.methodLink RL 167 yX6_firstRed, Cond.instanceMethod yX6_firstRed, Cond.selects RX6 yX6_firstRed yX6_firstRed, Cond.code yX6_firstRed cX6_firstRed 2 (some .int), Cond.methodLink RL 168 yX5_longestShot, Cond.instanceMethod yX5_longestShot, Cond.selects RX5 yX5_longestShot yX5_longestShot, Cond.code yX5_longestShot cX5_longestShot 7 (some .int), Cond.methodLink RL 171 yX6_longestShot, Cond.instanceMethod yX6_longestShot, Cond.selects RX6 yX6_longestShot yX6_longestShot, Cond.code yX6_longestShot cX6_longestShot 1 (some .int), Cond.methodLink RL 172 yX5_runs, Cond.instanceMethod yX5_runs, Cond.selects RX5 yX5_runs yX5_runs, Cond.code yX5_runs cX5_runs 1 (some .int), Cond.methodLink RL 175 yX6_runs, Cond.instanceMethod yX6_runs, Cond.selects RX6 yX6_runs yX6_runs, Cond.code yX6_runs cX6_runs 1 (some .int), Cond.methodLink RL 176 yL_act]
set_option maxRecDepth 20000 in
def wsL_law0_r30 : List Cond := [Cond.static yL_act, Cond.codeWith yL_act cL_act 5 (some .int) [(0, 10, 13, 13), (0, 10, 17, 24)], Cond.methodLink RL 77 yX5_act, Cond.instanceMethod yX5_act, Cond.selects RX5 yX5_act yX5_act, Cond.code yX5_act cX5_act 3 (some .int), Cond.methodLink RX5 148 yX5_checkAct, Cond.instanceMethod yX5_checkAct, Cond.selects RX5 yX5_checkAct yX5_checkAct, Cond.code yX5_checkAct cX5_checkAct 2 none, Cond.methodLink RX5 151 yX0_tell, Cond.methodLink RL 178 yX6_act, Cond.instanceMethod yX6_act, Cond.selects RX6 yX6_act yX6_act, Cond.code yX6_act cX6_act 3 (some .int), Cond.methodLink RX6 176 yX6_isAct, Cond.instanceMethod yX6_isAct, Cond.selects RX6 yX6_isAct yX6_isAct, Cond.code yX6_isAct cX6_isAct 2 (some .boolean), Cond.methodLink RL 179 yL_takeOut, Cond.static yL_takeOut, Cond.codeWith yL_takeOut cL_takeOut 4 (some .int) [(0, 9, 12, 13)], Cond.methodLink RL 80 yX5_takeOut, Cond.instanceMethod yX5_takeOut]
set_option maxRecDepth 20000 in
def wsL_law0_r31 : List Cond := [Cond.selects RX5 yX5_takeOut yX5_takeOut, Cond.code yX5_takeOut cX5_takeOut 2 (some .int), Cond.methodLink RX5 154 yX0_remove, Cond.instanceMethod yX0_remove, Cond.selects RX0 yX0_remove yX0_remove, Cond.code yX0_remove cX0_remove 3 none, Cond.methodLink RX5 157 yX5_replayPresent, Cond.instanceMethod yX5_replayPresent, Cond.selects RX5 yX5_replayPresent yX5_replayPresent, Cond.code yX5_replayPresent cX5_replayPresent 1 none, Cond.methodLink RL 181 yX6_takeOut, Cond.instanceMethod yX6_takeOut, Cond.selects RX6 yX6_takeOut yX6_takeOut, Cond.code yX6_takeOut cX6_takeOut 2 (some .int), Cond.methodLink RX6 179 yX6_takesOut, Cond.instanceMethod yX6_takesOut, Cond.selects RX6 yX6_takesOut yX6_takesOut, Cond.code yX6_takesOut cX6_takesOut 3 (some .int), Cond.methodLink RL 182 yL_undo, Cond.static yL_undo, Cond.codeWith yL_undo cL_undo 3 (some .int) [(0, 8, 11, 15)], Cond.methodLink RL 83 yX5_undo, Cond.instanceMethod yX5_undo, Cond.selects RX5 yX5_undo yX5_undo]
set_option maxRecDepth 20000 in
def wsL_law0_r32 : List Cond := [Cond.code yX5_undo cX5_undo 1 (some .int), Cond.methodLink RL 184 yX6_undo, Cond.instanceMethod yX6_undo, Cond.selects RX6 yX6_undo yX6_undo, Cond.code yX6_undo cX6_undo 1 (some .int), Cond.methodLink RL 185 yL_redWithout, Cond.static yL_redWithout, Cond.codeWith yL_redWithout cL_redWithout 4 (some .int) [(0, 9, 12, 13)], Cond.methodLink RL 86 yX5_redWithout, Cond.instanceMethod yX5_redWithout, Cond.selects RX5 yX5_redWithout yX5_redWithout, Cond.code yX5_redWithout cX5_redWithout 2 (some .int), Cond.methodLink RL 187 yX6_redWithout, Cond.instanceMethod yX6_redWithout, Cond.selects RX6 yX6_redWithout yX6_redWithout, Cond.code yX6_redWithout cX6_redWithout 3 (some .int), Cond.methodLink RL 188 yX5_idle, Cond.instanceMethod yX5_idle, Cond.selects RX5 yX5_idle yX5_idle, Cond.code yX5_idle cX5_idle 3 (some .int), Cond.methodLink RX5 167 yX2_sameParts, Cond.instanceMethod yX2_sameParts, Cond.selects RX2 yX2_sameParts yX2_sameParts, Cond.code yX2_sameParts cX2_sameParts 3 (some .boolean)]
set_option maxRecDepth 20000 in
def wsL_law0_r33 : List Cond := [Cond.methodLink RL 191 yX6_idle, Cond.instanceMethod yX6_idle, Cond.selects RX6 yX6_idle yX6_idle, Cond.code yX6_idle cX6_idle 5 (some .int), Cond.methodLink RL 192 yL_append, Cond.static yL_append, Cond.codeWith yL_append cL_append 4 (some .int) [(0, 9, 12, 24), (0, 9, 15, 15)], Cond.methodLink RL 89 yX5_append, Cond.instanceMethod yX5_append, Cond.selects RX5 yX5_append yX5_append, Cond.code yX5_append cX5_append 2 (some .int), Cond.methodLink RX5 171 yX4_isFull, Cond.instanceMethod yX4_isFull, Cond.selects RX4 yX4_isFull yX4_isFull, Cond.code yX4_isFull cX4_isFull 1 (some .boolean), Cond.fieldLink RX4 18 "VisionMixer$Script" "length" "I", Cond.methodLink RX5 175 yX4_add, Cond.instanceMethod yX4_add, Cond.selects RX4 yX4_add yX4_add, Cond.code yX4_add cX4_add 2 (some .int), Cond.methodLink RL 194 yX6_append, Cond.instanceMethod yX6_append, Cond.selects RX6 yX6_append yX6_append, Cond.code yX6_append cX6_append 2 (some .int)]
set_option maxRecDepth 20000 in
def wsL_law0_r34 : List Cond := [Cond.constantLong RX6 182 (127), Cond.fieldLink RX6 184 "VisionMixerModel" "textLong" "I", Cond.methodLink RL 195 yX5_clearText, Cond.instanceMethod yX5_clearText, Cond.selects RX5 yX5_clearText yX5_clearText, Cond.code yX5_clearText cX5_clearText 1 (some .int), Cond.methodLink RX5 178 yX4_empty, Cond.instanceMethod yX4_empty, Cond.selects RX4 yX4_empty yX4_empty, Cond.code yX4_empty cX4_empty 2 (some .int), Cond.methodLink RL 198 yX6_clearText, Cond.instanceMethod yX6_clearText, Cond.selects RX6 yX6_clearText yX6_clearText, Cond.code yX6_clearText cX6_clearText 2 (some .int), Cond.methodLink RL 199 yX5_carryOut, Cond.instanceMethod yX5_carryOut, Cond.selects RX5 yX5_carryOut yX5_carryOut, Cond.code yX5_carryOut cX5_carryOut 4 (some .int), Cond.methodLink RX5 181 yX4_read, Cond.instanceMethod yX4_read, Cond.selects RX4 yX4_read yX4_read, Cond.code yX4_read cX4_read 2 (some .int), Cond.fieldLink RX4 33 "VisionMixer$Script" "at" "I", Cond.fieldLink RX4 26 "VisionMixer$Script" "orderCount" "I"]
set_option maxRecDepth 20000 in
def wsL_law0_r35 : List Cond := [Cond.fieldLink RX4 36 "VisionMixer$Script" "errorAt" "I", Cond.methodLink RX4 39 yX4_readOrder, Cond.instanceMethod yX4_readOrder, Cond.selects RX4 yX4_readOrder yX4_readOrder, Cond.code yX4_readOrder cX4_readOrder 4 none, Cond.methodLink RX4 42 yX4_signAt, Cond.instanceMethod yX4_signAt, Cond.selects RX4 yX4_signAt yX4_signAt, Cond.code yX4_signAt cX4_signAt 2 (some .int), Cond.methodLink RX4 46 yX4_orderOf, Cond.static yX4_orderOf, Cond.code yX4_orderOf cX4_orderOf 1 (some .int), Cond.methodLink RX4 49 yX4_miss, Cond.instanceMethod yX4_miss, Cond.selects RX4 yX4_miss yX4_miss, Cond.code yX4_miss cX4_miss 2 none, Cond.methodLink RX4 53 yX4_readDigit, Cond.instanceMethod yX4_readDigit, Cond.selects RX4 yX4_readDigit yX4_readDigit, Cond.code yX4_readDigit cX4_readDigit 3 (some .int), Cond.methodLink RX4 67 yX4_digitAt, Cond.instanceMethod yX4_digitAt, Cond.selects RX4 yX4_digitAt yX4_digitAt, Cond.code yX4_digitAt cX4_digitAt 3 (some .int)]
set_option maxRecDepth 20000 in
def wsL_law0_r36 : List Cond := [Cond.methodLink RX4 56 yX4_readNumber, Cond.instanceMethod yX4_readNumber, Cond.selects RX4 yX4_readNumber yX4_readNumber, Cond.code yX4_readNumber cX4_readNumber 7 (some .int), Cond.methodLink RX4 60 yX4_readSemicolon, Cond.instanceMethod yX4_readSemicolon, Cond.selects RX4 yX4_readSemicolon yX4_readSemicolon, Cond.code yX4_readSemicolon cX4_readSemicolon 1 none, Cond.methodLink RX4 63 yX4_keep, Cond.instanceMethod yX4_keep, Cond.selects RX4 yX4_keep yX4_keep, Cond.code yX4_keep cX4_keep 4 none, Cond.methodLink RX5 187 yX4_orders, Cond.instanceMethod yX4_orders, Cond.selects RX4 yX4_orders yX4_orders, Cond.code yX4_orders cX4_orders 1 (some .int), Cond.methodLink RX5 190 yX5_doOrder, Cond.instanceMethod yX5_doOrder, Cond.selects RX5 yX5_doOrder yX5_doOrder, Cond.code yX5_doOrder cX5_doOrder 4 (some .boolean), Cond.methodLink RX5 230 yX4_whatOf, Cond.instanceMethod yX4_whatOf, Cond.selects RX4 yX4_whatOf yX4_whatOf, Cond.code yX4_whatOf cX4_whatOf 2 (some .int)]
set_option maxRecDepth 20000 in
def wsL_law0_r37 : List Cond := [Cond.methodLink RX5 233 yX4_firstOf, Cond.instanceMethod yX4_firstOf, Cond.selects RX4 yX4_firstOf yX4_firstOf, Cond.code yX4_firstOf cX4_firstOf 2 (some .int), Cond.methodLink RX5 236 yX4_secondOf, Cond.instanceMethod yX4_secondOf, Cond.selects RX4 yX4_secondOf yX4_secondOf, Cond.code yX4_secondOf cX4_secondOf 2 (some .int), Cond.methodLink RX5 194 yX0_shortenTo, Cond.instanceMethod yX0_shortenTo, Cond.selects RX0 yX0_shortenTo yX0_shortenTo, Cond.code yX0_shortenTo cX0_shortenTo 2 none, Cond.methodLink RL 202 yX6_carryOut, Cond.instanceMethod yX6_carryOut, Cond.selects RX6 yX6_carryOut yX6_carryOut, Cond.code yX6_carryOut cX6_carryOut 7 (some .int), Cond.fieldLink RX6 187 "VisionMixerModel" "place" "I", Cond.methodLink RX6 243 yX6_faultOf, Cond.instanceMethod yX6_faultOf, Cond.selects RX6 yX6_faultOf yX6_faultOf, Cond.code yX6_faultOf cX6_faultOf 1 (some .int), Cond.methodLink RX6 240 yX6_readsOrder, Cond.instanceMethod yX6_readsOrder, Cond.selects RX6 yX6_readsOrder yX6_readsOrder]
set_option maxRecDepth 20000 in
def wsL_law0_r38 : List Cond := [Cond.code yX6_readsOrder cX6_readsOrder 2 (some .boolean), Cond.fieldLink RX6 200 "VisionMixerModel" "letter" "I", Cond.fieldLink RX6 203 "VisionMixerModel" "first" "I", Cond.methodLink RX6 190 yX6_here, Cond.instanceMethod yX6_here, Cond.selects RX6 yX6_here yX6_here, Cond.code yX6_here cX6_here 1 (some .int), Cond.methodLink RX6 206 yX6_figure, Cond.instanceMethod yX6_figure, Cond.selects RX6 yX6_figure yX6_figure, Cond.code yX6_figure cX6_figure 4 (some .int), Cond.constantLong RX6 193 (48), Cond.methodLink RX6 209 yX6_reads, Cond.instanceMethod yX6_reads, Cond.selects RX6 yX6_reads yX6_reads, Cond.code yX6_reads cX6_reads 6 (some .boolean), Cond.fieldLink RX6 195 "VisionMixerModel" "number" "I", Cond.constantLong RX6 198 (57), Cond.methodLink RX6 213 yX6_passesByte, Cond.instanceMethod yX6_passesByte, Cond.selects RX6 yX6_passesByte yX6_passesByte, Cond.code yX6_passesByte cX6_passesByte 3 (some .boolean), Cond.methodLink RX6 246 yX6_orders, Cond.instanceMethod yX6_orders]
set_option maxRecDepth 20000 in
def wsL_law0_r39 : List Cond := [Cond.selects RX6 yX6_orders yX6_orders, Cond.code yX6_orders cX6_orders 2 (some .boolean), Cond.methodLink RX6 216 yX6_program, Cond.methodLink RX6 219 yX6_preview, Cond.methodLink RX6 222 yX6_transition, Cond.methodLink RX6 225 yX6_next, Cond.methodLink RX6 228 yX6_cut, Cond.methodLink RX6 231 yX6_auto, Cond.methodLink RX6 234 yX6_bar, Cond.methodLink RX6 237 yX6_pass, Cond.methodLink RL 203 yX5_digest, Cond.instanceMethod yX5_digest, Cond.selects RX5 yX5_digest yX5_digest, Cond.code yX5_digest cX5_digest 4 (some .long), Cond.constantLong RX5 197 (3253), Cond.methodLink RX5 199 yX4_size, Cond.instanceMethod yX4_size, Cond.selects RX4 yX4_size yX4_size, Cond.code yX4_size cX4_size 1 (some .int), Cond.methodLink RX5 200 yX5_hashed, Cond.static yX5_hashed, Cond.code yX5_hashed cX5_hashed 3 (some .long), Cond.constantLong RX5 246 (31), Cond.methodLink RX5 204 yX5_hashKeyers]
set_option maxRecDepth 20000 in
def wsL_law0_r40 : List Cond := [Cond.instanceMethod yX5_hashKeyers, Cond.selects RX5 yX5_hashKeyers yX5_hashKeyers, Cond.code yX5_hashKeyers cX5_hashKeyers 7 (some .long), Cond.methodLink RX5 208 yX5_hashSources, Cond.instanceMethod yX5_hashSources, Cond.selects RX5 yX5_hashSources yX5_hashSources, Cond.code yX5_hashSources cX5_hashSources 6 (some .long), Cond.methodLink RX5 211 yX5_hashActs, Cond.instanceMethod yX5_hashActs, Cond.selects RX5 yX5_hashActs yX5_hashActs, Cond.code yX5_hashActs cX5_hashActs 7 (some .long), Cond.methodLink RL 207 yX6_digest, Cond.instanceMethod yX6_digest, Cond.selects RX6 yX6_digest yX6_digest, Cond.code yX6_digest cX6_digest 5 (some .long), Cond.constantLong RX6 251 (3253), Cond.methodLink RX6 253 yX6_sums, Cond.static yX6_sums, Cond.code yX6_sums cX6_sums 4 (some .long), Cond.constantLong RX6 249 (31)]
set_option maxRecDepth 20000 in
def wsL_law0 : List Cond := (wsL_law0_r1 ++ (wsL_law0_r2 ++ (wsL_law0_r3 ++ (wsL_law0_r4 ++ (wsL_law0_r5 ++ (wsL_law0_r6 ++ (wsL_law0_r7 ++ (wsL_law0_r8 ++ (wsL_law0_r9 ++ (wsL_law0_r10 ++ (wsL_law0_r11 ++ (wsL_law0_r12 ++ (wsL_law0_r13 ++ (wsL_law0_r14 ++ (wsL_law0_r15 ++ (wsL_law0_r16 ++ (wsL_law0_r17 ++ (wsL_law0_r18 ++ (wsL_law0_r19 ++ (wsL_law0_r20 ++ (wsL_law0_r21 ++ (wsL_law0_r22 ++ (wsL_law0_r23 ++ (wsL_law0_r24 ++ (wsL_law0_r25 ++ (wsL_law0_r26 ++ (wsL_law0_r27 ++ (wsL_law0_r28 ++ (wsL_law0_r29 ++ (wsL_law0_r30 ++ (wsL_law0_r31 ++ (wsL_law0_r32 ++ (wsL_law0_r33 ++ (wsL_law0_r34 ++ (wsL_law0_r35 ++ (wsL_law0_r36 ++ (wsL_law0_r37 ++ (wsL_law0_r38 ++ (wsL_law0_r39 ++ wsL_law0_r40))))))))))))))))))))))))))))))))))))))) ++ wsX50 ++ wsX60 ++ wsX10 ++ wsX00 ++ wsX30 ++ wsX20 ++ wsX40 ++ ([] : List Cond)
set_option maxRecDepth 20000 in
def wsL_law : List Cond := wsL_law0 ++ (vx_at0 RX5 70 "java/lang/IndexOutOfBoundsException" ["java/lang/RuntimeException", "java/lang/Exception"]).filter goodWord ++ (vx_at0 RX5 77 "java/lang/IllegalStateException" ["java/lang/RuntimeException", "java/lang/Exception"]).filter goodWord ++ (vx_at0 RX5 216 "java/lang/IllegalArgumentException" ["java/lang/RuntimeException", "java/lang/Exception"]).filter goodWord
theorem inlX0 : ∀ w ∈ wsX00, w ∈ wsL_law := fun _ h => List.mem_append_left _ (List.mem_append_left _ (List.mem_append_left _ (List.mem_append_left _ (List.mem_append_left _ (List.mem_append_left _ (List.mem_append_left _ (List.mem_append_right _ h)))))))
theorem inlX1 : ∀ w ∈ wsX10, w ∈ wsL_law := fun _ h => List.mem_append_left _ (List.mem_append_left _ (List.mem_append_left _ (List.mem_append_left _ (List.mem_append_left _ (List.mem_append_left _ (List.mem_append_left _ (List.mem_append_left _ (List.mem_append_right _ h))))))))
theorem inlX2 : ∀ w ∈ wsX20, w ∈ wsL_law := fun _ h => List.mem_append_left _ (List.mem_append_left _ (List.mem_append_left _ (List.mem_append_left _ (List.mem_append_left _ (List.mem_append_right _ h)))))
theorem inlX3 : ∀ w ∈ wsX30, w ∈ wsL_law := fun _ h => List.mem_append_left _ (List.mem_append_left _ (List.mem_append_left _ (List.mem_append_left _ (List.mem_append_left _ (List.mem_append_left _ (List.mem_append_right _ h))))))
theorem inlX4 : ∀ w ∈ wsX40, w ∈ wsL_law := fun _ h => List.mem_append_left _ (List.mem_append_left _ (List.mem_append_left _ (List.mem_append_left _ (List.mem_append_right _ h))))
theorem inlX5 : ∀ w ∈ wsX50, w ∈ wsL_law := fun _ h => List.mem_append_left _ (List.mem_append_left _ (List.mem_append_left _ (List.mem_append_left _ (List.mem_append_left _ (List.mem_append_left _ (List.mem_append_left _ (List.mem_append_left _ (List.mem_append_left _ (List.mem_append_left _ (List.mem_append_right _ h))))))))))
theorem inlX6 : ∀ w ∈ wsX60, w ∈ wsL_law := fun _ h => List.mem_append_left _ (List.mem_append_left _ (List.mem_append_left _ (List.mem_append_left _ (List.mem_append_left _ (List.mem_append_left _ (List.mem_append_left _ (List.mem_append_left _ (List.mem_append_left _ (List.mem_append_right _ h)))))))))
abbrev vwCl : List vw_C := [(RX0, TX0, 2), (RX1, TX1, 14), (RX2, TX2, 1), (RX3, TX3, 2), (RX4, TX4, 6), (RX5, TX5, 8), (RX6, TX6, 19)]
theorem mm_r1 : ∀ w ∈ wsL_law0_r1, w ∈ wsL_law := fun w h => (List.mem_append_left _ (List.mem_append_left _ (List.mem_append_left _ (List.mem_append_left _ (List.mem_append_left _ (List.mem_append_left _ (List.mem_append_left _ (List.mem_append_left _ (List.mem_append_left _ (List.mem_append_left _ (List.mem_append_left _ (List.mem_append_left _ h))))))))))))
theorem mm_r2 : ∀ w ∈ wsL_law0_r2, w ∈ wsL_law := fun w h => (List.mem_append_left _ (List.mem_append_left _ (List.mem_append_left _ (List.mem_append_left _ (List.mem_append_left _ (List.mem_append_left _ (List.mem_append_left _ (List.mem_append_left _ (List.mem_append_left _ (List.mem_append_left _ (List.mem_append_left _ (List.mem_append_right _ (List.mem_append_left _ h)))))))))))))
theorem mm_r3 : ∀ w ∈ wsL_law0_r3, w ∈ wsL_law := fun w h => (List.mem_append_left _ (List.mem_append_left _ (List.mem_append_left _ (List.mem_append_left _ (List.mem_append_left _ (List.mem_append_left _ (List.mem_append_left _ (List.mem_append_left _ (List.mem_append_left _ (List.mem_append_left _ (List.mem_append_left _ (List.mem_append_right _ (List.mem_append_right _ (List.mem_append_left _ h))))))))))))))
theorem mm_r4 : ∀ w ∈ wsL_law0_r4, w ∈ wsL_law := fun w h => (List.mem_append_left _ (List.mem_append_left _ (List.mem_append_left _ (List.mem_append_left _ (List.mem_append_left _ (List.mem_append_left _ (List.mem_append_left _ (List.mem_append_left _ (List.mem_append_left _ (List.mem_append_left _ (List.mem_append_left _ (List.mem_append_right _ (List.mem_append_right _ (List.mem_append_right _ (List.mem_append_left _ h)))))))))))))))
theorem mm_r5 : ∀ w ∈ wsL_law0_r5, w ∈ wsL_law := fun w h => (List.mem_append_left _ (List.mem_append_left _ (List.mem_append_left _ (List.mem_append_left _ (List.mem_append_left _ (List.mem_append_left _ (List.mem_append_left _ (List.mem_append_left _ (List.mem_append_left _ (List.mem_append_left _ (List.mem_append_left _ (List.mem_append_right _ (List.mem_append_right _ (List.mem_append_right _ (List.mem_append_right _ (List.mem_append_left _ h))))))))))))))))
theorem mm_r6 : ∀ w ∈ wsL_law0_r6, w ∈ wsL_law := fun w h => (List.mem_append_left _ (List.mem_append_left _ (List.mem_append_left _ (List.mem_append_left _ (List.mem_append_left _ (List.mem_append_left _ (List.mem_append_left _ (List.mem_append_left _ (List.mem_append_left _ (List.mem_append_left _ (List.mem_append_left _ (List.mem_append_right _ (List.mem_append_right _ (List.mem_append_right _ (List.mem_append_right _ (List.mem_append_right _ (List.mem_append_left _ h)))))))))))))))))
theorem mm_r7 : ∀ w ∈ wsL_law0_r7, w ∈ wsL_law := fun w h => (List.mem_append_left _ (List.mem_append_left _ (List.mem_append_left _ (List.mem_append_left _ (List.mem_append_left _ (List.mem_append_left _ (List.mem_append_left _ (List.mem_append_left _ (List.mem_append_left _ (List.mem_append_left _ (List.mem_append_left _ (List.mem_append_right _ (List.mem_append_right _ (List.mem_append_right _ (List.mem_append_right _ (List.mem_append_right _ (List.mem_append_right _ (List.mem_append_left _ h))))))))))))))))))
theorem mm_r8 : ∀ w ∈ wsL_law0_r8, w ∈ wsL_law := fun w h => (List.mem_append_left _ (List.mem_append_left _ (List.mem_append_left _ (List.mem_append_left _ (List.mem_append_left _ (List.mem_append_left _ (List.mem_append_left _ (List.mem_append_left _ (List.mem_append_left _ (List.mem_append_left _ (List.mem_append_left _ (List.mem_append_right _ (List.mem_append_right _ (List.mem_append_right _ (List.mem_append_right _ (List.mem_append_right _ (List.mem_append_right _ (List.mem_append_right _ (List.mem_append_left _ h)))))))))))))))))))
theorem mm_r9 : ∀ w ∈ wsL_law0_r9, w ∈ wsL_law := fun w h => (List.mem_append_left _ (List.mem_append_left _ (List.mem_append_left _ (List.mem_append_left _ (List.mem_append_left _ (List.mem_append_left _ (List.mem_append_left _ (List.mem_append_left _ (List.mem_append_left _ (List.mem_append_left _ (List.mem_append_left _ (List.mem_append_right _ (List.mem_append_right _ (List.mem_append_right _ (List.mem_append_right _ (List.mem_append_right _ (List.mem_append_right _ (List.mem_append_right _ (List.mem_append_right _ (List.mem_append_left _ h))))))))))))))))))))
theorem mm_r10 : ∀ w ∈ wsL_law0_r10, w ∈ wsL_law := fun w h => (List.mem_append_left _ (List.mem_append_left _ (List.mem_append_left _ (List.mem_append_left _ (List.mem_append_left _ (List.mem_append_left _ (List.mem_append_left _ (List.mem_append_left _ (List.mem_append_left _ (List.mem_append_left _ (List.mem_append_left _ (List.mem_append_right _ (List.mem_append_right _ (List.mem_append_right _ (List.mem_append_right _ (List.mem_append_right _ (List.mem_append_right _ (List.mem_append_right _ (List.mem_append_right _ (List.mem_append_right _ (List.mem_append_left _ h)))))))))))))))))))))
theorem mm_r11 : ∀ w ∈ wsL_law0_r11, w ∈ wsL_law := fun w h => (List.mem_append_left _ (List.mem_append_left _ (List.mem_append_left _ (List.mem_append_left _ (List.mem_append_left _ (List.mem_append_left _ (List.mem_append_left _ (List.mem_append_left _ (List.mem_append_left _ (List.mem_append_left _ (List.mem_append_left _ (List.mem_append_right _ (List.mem_append_right _ (List.mem_append_right _ (List.mem_append_right _ (List.mem_append_right _ (List.mem_append_right _ (List.mem_append_right _ (List.mem_append_right _ (List.mem_append_right _ (List.mem_append_right _ (List.mem_append_left _ h))))))))))))))))))))))
theorem mm_r12 : ∀ w ∈ wsL_law0_r12, w ∈ wsL_law := fun w h => (List.mem_append_left _ (List.mem_append_left _ (List.mem_append_left _ (List.mem_append_left _ (List.mem_append_left _ (List.mem_append_left _ (List.mem_append_left _ (List.mem_append_left _ (List.mem_append_left _ (List.mem_append_left _ (List.mem_append_left _ (List.mem_append_right _ (List.mem_append_right _ (List.mem_append_right _ (List.mem_append_right _ (List.mem_append_right _ (List.mem_append_right _ (List.mem_append_right _ (List.mem_append_right _ (List.mem_append_right _ (List.mem_append_right _ (List.mem_append_right _ (List.mem_append_left _ h)))))))))))))))))))))))
theorem mm_r13 : ∀ w ∈ wsL_law0_r13, w ∈ wsL_law := fun w h => (List.mem_append_left _ (List.mem_append_left _ (List.mem_append_left _ (List.mem_append_left _ (List.mem_append_left _ (List.mem_append_left _ (List.mem_append_left _ (List.mem_append_left _ (List.mem_append_left _ (List.mem_append_left _ (List.mem_append_left _ (List.mem_append_right _ (List.mem_append_right _ (List.mem_append_right _ (List.mem_append_right _ (List.mem_append_right _ (List.mem_append_right _ (List.mem_append_right _ (List.mem_append_right _ (List.mem_append_right _ (List.mem_append_right _ (List.mem_append_right _ (List.mem_append_right _ (List.mem_append_left _ h))))))))))))))))))))))))
theorem mm_r14 : ∀ w ∈ wsL_law0_r14, w ∈ wsL_law := fun w h => (List.mem_append_left _ (List.mem_append_left _ (List.mem_append_left _ (List.mem_append_left _ (List.mem_append_left _ (List.mem_append_left _ (List.mem_append_left _ (List.mem_append_left _ (List.mem_append_left _ (List.mem_append_left _ (List.mem_append_left _ (List.mem_append_right _ (List.mem_append_right _ (List.mem_append_right _ (List.mem_append_right _ (List.mem_append_right _ (List.mem_append_right _ (List.mem_append_right _ (List.mem_append_right _ (List.mem_append_right _ (List.mem_append_right _ (List.mem_append_right _ (List.mem_append_right _ (List.mem_append_right _ (List.mem_append_left _ h)))))))))))))))))))))))))
theorem mm_r15 : ∀ w ∈ wsL_law0_r15, w ∈ wsL_law := fun w h => (List.mem_append_left _ (List.mem_append_left _ (List.mem_append_left _ (List.mem_append_left _ (List.mem_append_left _ (List.mem_append_left _ (List.mem_append_left _ (List.mem_append_left _ (List.mem_append_left _ (List.mem_append_left _ (List.mem_append_left _ (List.mem_append_right _ (List.mem_append_right _ (List.mem_append_right _ (List.mem_append_right _ (List.mem_append_right _ (List.mem_append_right _ (List.mem_append_right _ (List.mem_append_right _ (List.mem_append_right _ (List.mem_append_right _ (List.mem_append_right _ (List.mem_append_right _ (List.mem_append_right _ (List.mem_append_right _ (List.mem_append_left _ h))))))))))))))))))))))))))
theorem mm_r16 : ∀ w ∈ wsL_law0_r16, w ∈ wsL_law := fun w h => (List.mem_append_left _ (List.mem_append_left _ (List.mem_append_left _ (List.mem_append_left _ (List.mem_append_left _ (List.mem_append_left _ (List.mem_append_left _ (List.mem_append_left _ (List.mem_append_left _ (List.mem_append_left _ (List.mem_append_left _ (List.mem_append_right _ (List.mem_append_right _ (List.mem_append_right _ (List.mem_append_right _ (List.mem_append_right _ (List.mem_append_right _ (List.mem_append_right _ (List.mem_append_right _ (List.mem_append_right _ (List.mem_append_right _ (List.mem_append_right _ (List.mem_append_right _ (List.mem_append_right _ (List.mem_append_right _ (List.mem_append_right _ (List.mem_append_left _ h)))))))))))))))))))))))))))
theorem mm_r17 : ∀ w ∈ wsL_law0_r17, w ∈ wsL_law := fun w h => (List.mem_append_left _ (List.mem_append_left _ (List.mem_append_left _ (List.mem_append_left _ (List.mem_append_left _ (List.mem_append_left _ (List.mem_append_left _ (List.mem_append_left _ (List.mem_append_left _ (List.mem_append_left _ (List.mem_append_left _ (List.mem_append_right _ (List.mem_append_right _ (List.mem_append_right _ (List.mem_append_right _ (List.mem_append_right _ (List.mem_append_right _ (List.mem_append_right _ (List.mem_append_right _ (List.mem_append_right _ (List.mem_append_right _ (List.mem_append_right _ (List.mem_append_right _ (List.mem_append_right _ (List.mem_append_right _ (List.mem_append_right _ (List.mem_append_right _ (List.mem_append_left _ h))))))))))))))))))))))))))))
theorem mm_r18 : ∀ w ∈ wsL_law0_r18, w ∈ wsL_law := fun w h => (List.mem_append_left _ (List.mem_append_left _ (List.mem_append_left _ (List.mem_append_left _ (List.mem_append_left _ (List.mem_append_left _ (List.mem_append_left _ (List.mem_append_left _ (List.mem_append_left _ (List.mem_append_left _ (List.mem_append_left _ (List.mem_append_right _ (List.mem_append_right _ (List.mem_append_right _ (List.mem_append_right _ (List.mem_append_right _ (List.mem_append_right _ (List.mem_append_right _ (List.mem_append_right _ (List.mem_append_right _ (List.mem_append_right _ (List.mem_append_right _ (List.mem_append_right _ (List.mem_append_right _ (List.mem_append_right _ (List.mem_append_right _ (List.mem_append_right _ (List.mem_append_right _ (List.mem_append_left _ h)))))))))))))))))))))))))))))
theorem mm_r19 : ∀ w ∈ wsL_law0_r19, w ∈ wsL_law := fun w h => (List.mem_append_left _ (List.mem_append_left _ (List.mem_append_left _ (List.mem_append_left _ (List.mem_append_left _ (List.mem_append_left _ (List.mem_append_left _ (List.mem_append_left _ (List.mem_append_left _ (List.mem_append_left _ (List.mem_append_left _ (List.mem_append_right _ (List.mem_append_right _ (List.mem_append_right _ (List.mem_append_right _ (List.mem_append_right _ (List.mem_append_right _ (List.mem_append_right _ (List.mem_append_right _ (List.mem_append_right _ (List.mem_append_right _ (List.mem_append_right _ (List.mem_append_right _ (List.mem_append_right _ (List.mem_append_right _ (List.mem_append_right _ (List.mem_append_right _ (List.mem_append_right _ (List.mem_append_right _ (List.mem_append_left _ h))))))))))))))))))))))))))))))
theorem mm_r20 : ∀ w ∈ wsL_law0_r20, w ∈ wsL_law := fun w h => (List.mem_append_left _ (List.mem_append_left _ (List.mem_append_left _ (List.mem_append_left _ (List.mem_append_left _ (List.mem_append_left _ (List.mem_append_left _ (List.mem_append_left _ (List.mem_append_left _ (List.mem_append_left _ (List.mem_append_left _ (List.mem_append_right _ (List.mem_append_right _ (List.mem_append_right _ (List.mem_append_right _ (List.mem_append_right _ (List.mem_append_right _ (List.mem_append_right _ (List.mem_append_right _ (List.mem_append_right _ (List.mem_append_right _ (List.mem_append_right _ (List.mem_append_right _ (List.mem_append_right _ (List.mem_append_right _ (List.mem_append_right _ (List.mem_append_right _ (List.mem_append_right _ (List.mem_append_right _ (List.mem_append_right _ (List.mem_append_left _ h)))))))))))))))))))))))))))))))
theorem mm_r21 : ∀ w ∈ wsL_law0_r21, w ∈ wsL_law := fun w h => (List.mem_append_left _ (List.mem_append_left _ (List.mem_append_left _ (List.mem_append_left _ (List.mem_append_left _ (List.mem_append_left _ (List.mem_append_left _ (List.mem_append_left _ (List.mem_append_left _ (List.mem_append_left _ (List.mem_append_left _ (List.mem_append_right _ (List.mem_append_right _ (List.mem_append_right _ (List.mem_append_right _ (List.mem_append_right _ (List.mem_append_right _ (List.mem_append_right _ (List.mem_append_right _ (List.mem_append_right _ (List.mem_append_right _ (List.mem_append_right _ (List.mem_append_right _ (List.mem_append_right _ (List.mem_append_right _ (List.mem_append_right _ (List.mem_append_right _ (List.mem_append_right _ (List.mem_append_right _ (List.mem_append_right _ (List.mem_append_right _ (List.mem_append_left _ h))))))))))))))))))))))))))))))))
theorem mm_r22 : ∀ w ∈ wsL_law0_r22, w ∈ wsL_law := fun w h => (List.mem_append_left _ (List.mem_append_left _ (List.mem_append_left _ (List.mem_append_left _ (List.mem_append_left _ (List.mem_append_left _ (List.mem_append_left _ (List.mem_append_left _ (List.mem_append_left _ (List.mem_append_left _ (List.mem_append_left _ (List.mem_append_right _ (List.mem_append_right _ (List.mem_append_right _ (List.mem_append_right _ (List.mem_append_right _ (List.mem_append_right _ (List.mem_append_right _ (List.mem_append_right _ (List.mem_append_right _ (List.mem_append_right _ (List.mem_append_right _ (List.mem_append_right _ (List.mem_append_right _ (List.mem_append_right _ (List.mem_append_right _ (List.mem_append_right _ (List.mem_append_right _ (List.mem_append_right _ (List.mem_append_right _ (List.mem_append_right _ (List.mem_append_right _ (List.mem_append_left _ h)))))))))))))))))))))))))))))))))
theorem mm_r23 : ∀ w ∈ wsL_law0_r23, w ∈ wsL_law := fun w h => (List.mem_append_left _ (List.mem_append_left _ (List.mem_append_left _ (List.mem_append_left _ (List.mem_append_left _ (List.mem_append_left _ (List.mem_append_left _ (List.mem_append_left _ (List.mem_append_left _ (List.mem_append_left _ (List.mem_append_left _ (List.mem_append_right _ (List.mem_append_right _ (List.mem_append_right _ (List.mem_append_right _ (List.mem_append_right _ (List.mem_append_right _ (List.mem_append_right _ (List.mem_append_right _ (List.mem_append_right _ (List.mem_append_right _ (List.mem_append_right _ (List.mem_append_right _ (List.mem_append_right _ (List.mem_append_right _ (List.mem_append_right _ (List.mem_append_right _ (List.mem_append_right _ (List.mem_append_right _ (List.mem_append_right _ (List.mem_append_right _ (List.mem_append_right _ (List.mem_append_right _ (List.mem_append_left _ h))))))))))))))))))))))))))))))))))
theorem mm_r24 : ∀ w ∈ wsL_law0_r24, w ∈ wsL_law := fun w h => (List.mem_append_left _ (List.mem_append_left _ (List.mem_append_left _ (List.mem_append_left _ (List.mem_append_left _ (List.mem_append_left _ (List.mem_append_left _ (List.mem_append_left _ (List.mem_append_left _ (List.mem_append_left _ (List.mem_append_left _ (List.mem_append_right _ (List.mem_append_right _ (List.mem_append_right _ (List.mem_append_right _ (List.mem_append_right _ (List.mem_append_right _ (List.mem_append_right _ (List.mem_append_right _ (List.mem_append_right _ (List.mem_append_right _ (List.mem_append_right _ (List.mem_append_right _ (List.mem_append_right _ (List.mem_append_right _ (List.mem_append_right _ (List.mem_append_right _ (List.mem_append_right _ (List.mem_append_right _ (List.mem_append_right _ (List.mem_append_right _ (List.mem_append_right _ (List.mem_append_right _ (List.mem_append_right _ (List.mem_append_left _ h)))))))))))))))))))))))))))))))))))
theorem mm_r25 : ∀ w ∈ wsL_law0_r25, w ∈ wsL_law := fun w h => (List.mem_append_left _ (List.mem_append_left _ (List.mem_append_left _ (List.mem_append_left _ (List.mem_append_left _ (List.mem_append_left _ (List.mem_append_left _ (List.mem_append_left _ (List.mem_append_left _ (List.mem_append_left _ (List.mem_append_left _ (List.mem_append_right _ (List.mem_append_right _ (List.mem_append_right _ (List.mem_append_right _ (List.mem_append_right _ (List.mem_append_right _ (List.mem_append_right _ (List.mem_append_right _ (List.mem_append_right _ (List.mem_append_right _ (List.mem_append_right _ (List.mem_append_right _ (List.mem_append_right _ (List.mem_append_right _ (List.mem_append_right _ (List.mem_append_right _ (List.mem_append_right _ (List.mem_append_right _ (List.mem_append_right _ (List.mem_append_right _ (List.mem_append_right _ (List.mem_append_right _ (List.mem_append_right _ (List.mem_append_right _ (List.mem_append_left _ h))))))))))))))))))))))))))))))))))))
theorem mm_r26 : ∀ w ∈ wsL_law0_r26, w ∈ wsL_law := fun w h => (List.mem_append_left _ (List.mem_append_left _ (List.mem_append_left _ (List.mem_append_left _ (List.mem_append_left _ (List.mem_append_left _ (List.mem_append_left _ (List.mem_append_left _ (List.mem_append_left _ (List.mem_append_left _ (List.mem_append_left _ (List.mem_append_right _ (List.mem_append_right _ (List.mem_append_right _ (List.mem_append_right _ (List.mem_append_right _ (List.mem_append_right _ (List.mem_append_right _ (List.mem_append_right _ (List.mem_append_right _ (List.mem_append_right _ (List.mem_append_right _ (List.mem_append_right _ (List.mem_append_right _ (List.mem_append_right _ (List.mem_append_right _ (List.mem_append_right _ (List.mem_append_right _ (List.mem_append_right _ (List.mem_append_right _ (List.mem_append_right _ (List.mem_append_right _ (List.mem_append_right _ (List.mem_append_right _ (List.mem_append_right _ (List.mem_append_right _ (List.mem_append_left _ h)))))))))))))))))))))))))))))))))))))
theorem mm_r27 : ∀ w ∈ wsL_law0_r27, w ∈ wsL_law := fun w h => (List.mem_append_left _ (List.mem_append_left _ (List.mem_append_left _ (List.mem_append_left _ (List.mem_append_left _ (List.mem_append_left _ (List.mem_append_left _ (List.mem_append_left _ (List.mem_append_left _ (List.mem_append_left _ (List.mem_append_left _ (List.mem_append_right _ (List.mem_append_right _ (List.mem_append_right _ (List.mem_append_right _ (List.mem_append_right _ (List.mem_append_right _ (List.mem_append_right _ (List.mem_append_right _ (List.mem_append_right _ (List.mem_append_right _ (List.mem_append_right _ (List.mem_append_right _ (List.mem_append_right _ (List.mem_append_right _ (List.mem_append_right _ (List.mem_append_right _ (List.mem_append_right _ (List.mem_append_right _ (List.mem_append_right _ (List.mem_append_right _ (List.mem_append_right _ (List.mem_append_right _ (List.mem_append_right _ (List.mem_append_right _ (List.mem_append_right _ (List.mem_append_right _ (List.mem_append_left _ h))))))))))))))))))))))))))))))))))))))
theorem mm_r28 : ∀ w ∈ wsL_law0_r28, w ∈ wsL_law := fun w h => (List.mem_append_left _ (List.mem_append_left _ (List.mem_append_left _ (List.mem_append_left _ (List.mem_append_left _ (List.mem_append_left _ (List.mem_append_left _ (List.mem_append_left _ (List.mem_append_left _ (List.mem_append_left _ (List.mem_append_left _ (List.mem_append_right _ (List.mem_append_right _ (List.mem_append_right _ (List.mem_append_right _ (List.mem_append_right _ (List.mem_append_right _ (List.mem_append_right _ (List.mem_append_right _ (List.mem_append_right _ (List.mem_append_right _ (List.mem_append_right _ (List.mem_append_right _ (List.mem_append_right _ (List.mem_append_right _ (List.mem_append_right _ (List.mem_append_right _ (List.mem_append_right _ (List.mem_append_right _ (List.mem_append_right _ (List.mem_append_right _ (List.mem_append_right _ (List.mem_append_right _ (List.mem_append_right _ (List.mem_append_right _ (List.mem_append_right _ (List.mem_append_right _ (List.mem_append_right _ (List.mem_append_left _ h)))))))))))))))))))))))))))))))))))))))
theorem mm_r29 : ∀ w ∈ wsL_law0_r29, w ∈ wsL_law := fun w h => (List.mem_append_left _ (List.mem_append_left _ (List.mem_append_left _ (List.mem_append_left _ (List.mem_append_left _ (List.mem_append_left _ (List.mem_append_left _ (List.mem_append_left _ (List.mem_append_left _ (List.mem_append_left _ (List.mem_append_left _ (List.mem_append_right _ (List.mem_append_right _ (List.mem_append_right _ (List.mem_append_right _ (List.mem_append_right _ (List.mem_append_right _ (List.mem_append_right _ (List.mem_append_right _ (List.mem_append_right _ (List.mem_append_right _ (List.mem_append_right _ (List.mem_append_right _ (List.mem_append_right _ (List.mem_append_right _ (List.mem_append_right _ (List.mem_append_right _ (List.mem_append_right _ (List.mem_append_right _ (List.mem_append_right _ (List.mem_append_right _ (List.mem_append_right _ (List.mem_append_right _ (List.mem_append_right _ (List.mem_append_right _ (List.mem_append_right _ (List.mem_append_right _ (List.mem_append_right _ (List.mem_append_right _ (List.mem_append_left _ h))))))))))))))))))))))))))))))))))))))))
theorem mm_r30 : ∀ w ∈ wsL_law0_r30, w ∈ wsL_law := fun w h => (List.mem_append_left _ (List.mem_append_left _ (List.mem_append_left _ (List.mem_append_left _ (List.mem_append_left _ (List.mem_append_left _ (List.mem_append_left _ (List.mem_append_left _ (List.mem_append_left _ (List.mem_append_left _ (List.mem_append_left _ (List.mem_append_right _ (List.mem_append_right _ (List.mem_append_right _ (List.mem_append_right _ (List.mem_append_right _ (List.mem_append_right _ (List.mem_append_right _ (List.mem_append_right _ (List.mem_append_right _ (List.mem_append_right _ (List.mem_append_right _ (List.mem_append_right _ (List.mem_append_right _ (List.mem_append_right _ (List.mem_append_right _ (List.mem_append_right _ (List.mem_append_right _ (List.mem_append_right _ (List.mem_append_right _ (List.mem_append_right _ (List.mem_append_right _ (List.mem_append_right _ (List.mem_append_right _ (List.mem_append_right _ (List.mem_append_right _ (List.mem_append_right _ (List.mem_append_right _ (List.mem_append_right _ (List.mem_append_right _ (List.mem_append_left _ h)))))))))))))))))))))))))))))))))))))))))
theorem mm_r31 : ∀ w ∈ wsL_law0_r31, w ∈ wsL_law := fun w h => (List.mem_append_left _ (List.mem_append_left _ (List.mem_append_left _ (List.mem_append_left _ (List.mem_append_left _ (List.mem_append_left _ (List.mem_append_left _ (List.mem_append_left _ (List.mem_append_left _ (List.mem_append_left _ (List.mem_append_left _ (List.mem_append_right _ (List.mem_append_right _ (List.mem_append_right _ (List.mem_append_right _ (List.mem_append_right _ (List.mem_append_right _ (List.mem_append_right _ (List.mem_append_right _ (List.mem_append_right _ (List.mem_append_right _ (List.mem_append_right _ (List.mem_append_right _ (List.mem_append_right _ (List.mem_append_right _ (List.mem_append_right _ (List.mem_append_right _ (List.mem_append_right _ (List.mem_append_right _ (List.mem_append_right _ (List.mem_append_right _ (List.mem_append_right _ (List.mem_append_right _ (List.mem_append_right _ (List.mem_append_right _ (List.mem_append_right _ (List.mem_append_right _ (List.mem_append_right _ (List.mem_append_right _ (List.mem_append_right _ (List.mem_append_right _ (List.mem_append_left _ h))))))))))))))))))))))))))))))))))))))))))
theorem mm_r32 : ∀ w ∈ wsL_law0_r32, w ∈ wsL_law := fun w h => (List.mem_append_left _ (List.mem_append_left _ (List.mem_append_left _ (List.mem_append_left _ (List.mem_append_left _ (List.mem_append_left _ (List.mem_append_left _ (List.mem_append_left _ (List.mem_append_left _ (List.mem_append_left _ (List.mem_append_left _ (List.mem_append_right _ (List.mem_append_right _ (List.mem_append_right _ (List.mem_append_right _ (List.mem_append_right _ (List.mem_append_right _ (List.mem_append_right _ (List.mem_append_right _ (List.mem_append_right _ (List.mem_append_right _ (List.mem_append_right _ (List.mem_append_right _ (List.mem_append_right _ (List.mem_append_right _ (List.mem_append_right _ (List.mem_append_right _ (List.mem_append_right _ (List.mem_append_right _ (List.mem_append_right _ (List.mem_append_right _ (List.mem_append_right _ (List.mem_append_right _ (List.mem_append_right _ (List.mem_append_right _ (List.mem_append_right _ (List.mem_append_right _ (List.mem_append_right _ (List.mem_append_right _ (List.mem_append_right _ (List.mem_append_right _ (List.mem_append_right _ (List.mem_append_left _ h)))))))))))))))))))))))))))))))))))))))))))
theorem mm_r33 : ∀ w ∈ wsL_law0_r33, w ∈ wsL_law := fun w h => (List.mem_append_left _ (List.mem_append_left _ (List.mem_append_left _ (List.mem_append_left _ (List.mem_append_left _ (List.mem_append_left _ (List.mem_append_left _ (List.mem_append_left _ (List.mem_append_left _ (List.mem_append_left _ (List.mem_append_left _ (List.mem_append_right _ (List.mem_append_right _ (List.mem_append_right _ (List.mem_append_right _ (List.mem_append_right _ (List.mem_append_right _ (List.mem_append_right _ (List.mem_append_right _ (List.mem_append_right _ (List.mem_append_right _ (List.mem_append_right _ (List.mem_append_right _ (List.mem_append_right _ (List.mem_append_right _ (List.mem_append_right _ (List.mem_append_right _ (List.mem_append_right _ (List.mem_append_right _ (List.mem_append_right _ (List.mem_append_right _ (List.mem_append_right _ (List.mem_append_right _ (List.mem_append_right _ (List.mem_append_right _ (List.mem_append_right _ (List.mem_append_right _ (List.mem_append_right _ (List.mem_append_right _ (List.mem_append_right _ (List.mem_append_right _ (List.mem_append_right _ (List.mem_append_right _ (List.mem_append_left _ h))))))))))))))))))))))))))))))))))))))))))))
theorem mm_r34 : ∀ w ∈ wsL_law0_r34, w ∈ wsL_law := fun w h => (List.mem_append_left _ (List.mem_append_left _ (List.mem_append_left _ (List.mem_append_left _ (List.mem_append_left _ (List.mem_append_left _ (List.mem_append_left _ (List.mem_append_left _ (List.mem_append_left _ (List.mem_append_left _ (List.mem_append_left _ (List.mem_append_right _ (List.mem_append_right _ (List.mem_append_right _ (List.mem_append_right _ (List.mem_append_right _ (List.mem_append_right _ (List.mem_append_right _ (List.mem_append_right _ (List.mem_append_right _ (List.mem_append_right _ (List.mem_append_right _ (List.mem_append_right _ (List.mem_append_right _ (List.mem_append_right _ (List.mem_append_right _ (List.mem_append_right _ (List.mem_append_right _ (List.mem_append_right _ (List.mem_append_right _ (List.mem_append_right _ (List.mem_append_right _ (List.mem_append_right _ (List.mem_append_right _ (List.mem_append_right _ (List.mem_append_right _ (List.mem_append_right _ (List.mem_append_right _ (List.mem_append_right _ (List.mem_append_right _ (List.mem_append_right _ (List.mem_append_right _ (List.mem_append_right _ (List.mem_append_right _ (List.mem_append_left _ h)))))))))))))))))))))))))))))))))))))))))))))
theorem mm_r35 : ∀ w ∈ wsL_law0_r35, w ∈ wsL_law := fun w h => (List.mem_append_left _ (List.mem_append_left _ (List.mem_append_left _ (List.mem_append_left _ (List.mem_append_left _ (List.mem_append_left _ (List.mem_append_left _ (List.mem_append_left _ (List.mem_append_left _ (List.mem_append_left _ (List.mem_append_left _ (List.mem_append_right _ (List.mem_append_right _ (List.mem_append_right _ (List.mem_append_right _ (List.mem_append_right _ (List.mem_append_right _ (List.mem_append_right _ (List.mem_append_right _ (List.mem_append_right _ (List.mem_append_right _ (List.mem_append_right _ (List.mem_append_right _ (List.mem_append_right _ (List.mem_append_right _ (List.mem_append_right _ (List.mem_append_right _ (List.mem_append_right _ (List.mem_append_right _ (List.mem_append_right _ (List.mem_append_right _ (List.mem_append_right _ (List.mem_append_right _ (List.mem_append_right _ (List.mem_append_right _ (List.mem_append_right _ (List.mem_append_right _ (List.mem_append_right _ (List.mem_append_right _ (List.mem_append_right _ (List.mem_append_right _ (List.mem_append_right _ (List.mem_append_right _ (List.mem_append_right _ (List.mem_append_right _ (List.mem_append_left _ h))))))))))))))))))))))))))))))))))))))))))))))
theorem mm_r36 : ∀ w ∈ wsL_law0_r36, w ∈ wsL_law := fun w h => (List.mem_append_left _ (List.mem_append_left _ (List.mem_append_left _ (List.mem_append_left _ (List.mem_append_left _ (List.mem_append_left _ (List.mem_append_left _ (List.mem_append_left _ (List.mem_append_left _ (List.mem_append_left _ (List.mem_append_left _ (List.mem_append_right _ (List.mem_append_right _ (List.mem_append_right _ (List.mem_append_right _ (List.mem_append_right _ (List.mem_append_right _ (List.mem_append_right _ (List.mem_append_right _ (List.mem_append_right _ (List.mem_append_right _ (List.mem_append_right _ (List.mem_append_right _ (List.mem_append_right _ (List.mem_append_right _ (List.mem_append_right _ (List.mem_append_right _ (List.mem_append_right _ (List.mem_append_right _ (List.mem_append_right _ (List.mem_append_right _ (List.mem_append_right _ (List.mem_append_right _ (List.mem_append_right _ (List.mem_append_right _ (List.mem_append_right _ (List.mem_append_right _ (List.mem_append_right _ (List.mem_append_right _ (List.mem_append_right _ (List.mem_append_right _ (List.mem_append_right _ (List.mem_append_right _ (List.mem_append_right _ (List.mem_append_right _ (List.mem_append_right _ (List.mem_append_left _ h)))))))))))))))))))))))))))))))))))))))))))))))
theorem mm_r37 : ∀ w ∈ wsL_law0_r37, w ∈ wsL_law := fun w h => (List.mem_append_left _ (List.mem_append_left _ (List.mem_append_left _ (List.mem_append_left _ (List.mem_append_left _ (List.mem_append_left _ (List.mem_append_left _ (List.mem_append_left _ (List.mem_append_left _ (List.mem_append_left _ (List.mem_append_left _ (List.mem_append_right _ (List.mem_append_right _ (List.mem_append_right _ (List.mem_append_right _ (List.mem_append_right _ (List.mem_append_right _ (List.mem_append_right _ (List.mem_append_right _ (List.mem_append_right _ (List.mem_append_right _ (List.mem_append_right _ (List.mem_append_right _ (List.mem_append_right _ (List.mem_append_right _ (List.mem_append_right _ (List.mem_append_right _ (List.mem_append_right _ (List.mem_append_right _ (List.mem_append_right _ (List.mem_append_right _ (List.mem_append_right _ (List.mem_append_right _ (List.mem_append_right _ (List.mem_append_right _ (List.mem_append_right _ (List.mem_append_right _ (List.mem_append_right _ (List.mem_append_right _ (List.mem_append_right _ (List.mem_append_right _ (List.mem_append_right _ (List.mem_append_right _ (List.mem_append_right _ (List.mem_append_right _ (List.mem_append_right _ (List.mem_append_right _ (List.mem_append_left _ h))))))))))))))))))))))))))))))))))))))))))))))))
theorem mm_r38 : ∀ w ∈ wsL_law0_r38, w ∈ wsL_law := fun w h => (List.mem_append_left _ (List.mem_append_left _ (List.mem_append_left _ (List.mem_append_left _ (List.mem_append_left _ (List.mem_append_left _ (List.mem_append_left _ (List.mem_append_left _ (List.mem_append_left _ (List.mem_append_left _ (List.mem_append_left _ (List.mem_append_right _ (List.mem_append_right _ (List.mem_append_right _ (List.mem_append_right _ (List.mem_append_right _ (List.mem_append_right _ (List.mem_append_right _ (List.mem_append_right _ (List.mem_append_right _ (List.mem_append_right _ (List.mem_append_right _ (List.mem_append_right _ (List.mem_append_right _ (List.mem_append_right _ (List.mem_append_right _ (List.mem_append_right _ (List.mem_append_right _ (List.mem_append_right _ (List.mem_append_right _ (List.mem_append_right _ (List.mem_append_right _ (List.mem_append_right _ (List.mem_append_right _ (List.mem_append_right _ (List.mem_append_right _ (List.mem_append_right _ (List.mem_append_right _ (List.mem_append_right _ (List.mem_append_right _ (List.mem_append_right _ (List.mem_append_right _ (List.mem_append_right _ (List.mem_append_right _ (List.mem_append_right _ (List.mem_append_right _ (List.mem_append_right _ (List.mem_append_right _ (List.mem_append_left _ h)))))))))))))))))))))))))))))))))))))))))))))))))
theorem mm_r39 : ∀ w ∈ wsL_law0_r39, w ∈ wsL_law := fun w h => (List.mem_append_left _ (List.mem_append_left _ (List.mem_append_left _ (List.mem_append_left _ (List.mem_append_left _ (List.mem_append_left _ (List.mem_append_left _ (List.mem_append_left _ (List.mem_append_left _ (List.mem_append_left _ (List.mem_append_left _ (List.mem_append_right _ (List.mem_append_right _ (List.mem_append_right _ (List.mem_append_right _ (List.mem_append_right _ (List.mem_append_right _ (List.mem_append_right _ (List.mem_append_right _ (List.mem_append_right _ (List.mem_append_right _ (List.mem_append_right _ (List.mem_append_right _ (List.mem_append_right _ (List.mem_append_right _ (List.mem_append_right _ (List.mem_append_right _ (List.mem_append_right _ (List.mem_append_right _ (List.mem_append_right _ (List.mem_append_right _ (List.mem_append_right _ (List.mem_append_right _ (List.mem_append_right _ (List.mem_append_right _ (List.mem_append_right _ (List.mem_append_right _ (List.mem_append_right _ (List.mem_append_right _ (List.mem_append_right _ (List.mem_append_right _ (List.mem_append_right _ (List.mem_append_right _ (List.mem_append_right _ (List.mem_append_right _ (List.mem_append_right _ (List.mem_append_right _ (List.mem_append_right _ (List.mem_append_right _ (List.mem_append_left _ h))))))))))))))))))))))))))))))))))))))))))))))))))
theorem mm_r40 : ∀ w ∈ wsL_law0_r40, w ∈ wsL_law := fun w h => (List.mem_append_left _ (List.mem_append_left _ (List.mem_append_left _ (List.mem_append_left _ (List.mem_append_left _ (List.mem_append_left _ (List.mem_append_left _ (List.mem_append_left _ (List.mem_append_left _ (List.mem_append_left _ (List.mem_append_left _ (List.mem_append_right _ (List.mem_append_right _ (List.mem_append_right _ (List.mem_append_right _ (List.mem_append_right _ (List.mem_append_right _ (List.mem_append_right _ (List.mem_append_right _ (List.mem_append_right _ (List.mem_append_right _ (List.mem_append_right _ (List.mem_append_right _ (List.mem_append_right _ (List.mem_append_right _ (List.mem_append_right _ (List.mem_append_right _ (List.mem_append_right _ (List.mem_append_right _ (List.mem_append_right _ (List.mem_append_right _ (List.mem_append_right _ (List.mem_append_right _ (List.mem_append_right _ (List.mem_append_right _ (List.mem_append_right _ (List.mem_append_right _ (List.mem_append_right _ (List.mem_append_right _ (List.mem_append_right _ (List.mem_append_right _ (List.mem_append_right _ (List.mem_append_right _ (List.mem_append_right _ (List.mem_append_right _ (List.mem_append_right _ (List.mem_append_right _ (List.mem_append_right _ (List.mem_append_right _ (List.mem_append_right _ h))))))))))))))))))))))))))))))))))))))))))))))))))
set_option maxRecDepth 100000 in
theorem W0_good : wsL_law.all goodWord = true := by decide +kernel
