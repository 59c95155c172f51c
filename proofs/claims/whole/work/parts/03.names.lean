/-! ===== BEGIN printed: names, fields, word lists, decode rows ===== -/
def RX0 : String := "Bandworld$Belts"
def TX0 : u_T := fun k => match k with
  | 0 => ("Bandworld$Belts", "turnings", "[I", true)
  | 1 => ("Bandworld$Belts", "drag", "I", false)
  | 2 => ("Bandworld$Belts", "deep", "I", false)
  | _ => ("Bandworld$Belts", "toldTurning", "I", false)
def tyX0 : Nat → FieldType := fun k => match k with
  | 0 => .array .int
  | 1 => .int
  | 2 => .int
  | _ => .int
abbrev wsX00 : List Cond := u_ws RX0 TX0 4
theorem nmX0 : ∀ a, a < 4 → ∀ b, b < 4 → a ≠ b → (TX0 a).2.1 ≠ (TX0 b).2.1 := by decide +kernel
theorem tyX0_ok : ∀ k, k < 4 → parseFieldDescriptor (TX0 k).2.2.1 = some (tyX0 k) := by decide +kernel
abbrev cX0_init : ByteArray := prog_2_method_1_code
def yX0_init : MethodName := ⟨RX0, "<init>", "()V"⟩
abbrev cX0_tellTurning : ByteArray := prog_2_method_2_code
def yX0_tellTurning : MethodName := ⟨RX0, "tellTurning", "(II)I"⟩
abbrev cX0_windOf : ByteArray := prog_2_method_3_code
def yX0_windOf : MethodName := ⟨RX0, "windOf", "(I)I"⟩
abbrev cX0_shearOf : ByteArray := prog_2_method_4_code
def yX0_shearOf : MethodName := ⟨RX0, "shearOf", "(I)I"⟩
abbrev cX0_dragDown : ByteArray := prog_2_method_5_code
def yX0_dragDown : MethodName := ⟨RX0, "dragDown", "()V"⟩
abbrev cX0_isBalanced : ByteArray := prog_2_method_6_code
def yX0_isBalanced : MethodName := ⟨RX0, "isBalanced", "()Z"⟩
abbrev cX0_addTo : ByteArray := prog_2_method_7_code
def yX0_addTo : MethodName := ⟨RX0, "addTo", "(J)J"⟩
abbrev cX0_copyFrom : ByteArray := prog_2_method_8_code
def yX0_copyFrom : MethodName := ⟨RX0, "copyFrom", "(LBandworld$Belts;)V"⟩
def RX1 : String := "Bandworld$Column"
def TX1 : u_T := fun k => match k with
  | 0 => ("Bandworld$Column", "temperatures", "[I", true)
  | 1 => ("Bandworld$Column", "vapours", "[[I", true)
  | 2 => ("Bandworld$Column", "ices", "[[I", true)
  | 3 => ("Bandworld$Column", "core", "I", false)
  | 4 => ("Bandworld$Column", "radiated", "I", false)
  | 5 => ("Bandworld$Column", "toldDegrees", "I", false)
  | 6 => ("Bandworld$Column", "coreDegrees", "I", false)
  | _ => ("Bandworld$Column", "toldVapours", "I", false)
def tyX1 : Nat → FieldType := fun k => match k with
  | 0 => .array .int
  | 1 => .array (.array .int)
  | 2 => .array (.array .int)
  | 3 => .int
  | 4 => .int
  | 5 => .int
  | 6 => .int
  | _ => .int
abbrev wsX10 : List Cond := u_ws RX1 TX1 8
theorem nmX1 : ∀ a, a < 8 → ∀ b, b < 8 → a ≠ b → (TX1 a).2.1 ≠ (TX1 b).2.1 := by decide +kernel
theorem tyX1_ok : ∀ k, k < 8 → parseFieldDescriptor (TX1 k).2.2.1 = some (tyX1 k) := by decide +kernel
abbrev cX1_init : ByteArray := prog_3_method_1_code
def yX1_init : MethodName := ⟨RX1, "<init>", "()V"⟩
abbrev cX1_tellTemperature : ByteArray := prog_3_method_2_code
def yX1_tellTemperature : MethodName := ⟨RX1, "tellTemperature", "(II)I"⟩
abbrev cX1_tellVapour : ByteArray := prog_3_method_3_code
def yX1_tellVapour : MethodName := ⟨RX1, "tellVapour", "(III)I"⟩
abbrev cX1_iciestLevel : ByteArray := prog_3_method_4_code
def yX1_iciestLevel : MethodName := ⟨RX1, "iciestLevel", "(I)I"⟩
abbrev cX1_goOn : ByteArray := prog_3_method_5_code
def yX1_goOn : MethodName := ⟨RX1, "goOn", "()V"⟩
abbrev cX1_freezeOrThaw : ByteArray := prog_3_method_6_code
def yX1_freezeOrThaw : MethodName := ⟨RX1, "freezeOrThaw", "(I)V"⟩
abbrev cX1_dropIce : ByteArray := prog_3_method_7_code
def yX1_dropIce : MethodName := ⟨RX1, "dropIce", "(I)V"⟩
abbrev cX1_riseInto : ByteArray := prog_3_method_8_code
def yX1_riseInto : MethodName := ⟨RX1, "riseInto", "(I)V"⟩
abbrev cX1_weightOf : ByteArray := prog_3_method_9_code
def yX1_weightOf : MethodName := ⟨RX1, "weightOf", "(I)I"⟩
abbrev cX1_amountIn : ByteArray := prog_3_method_10_code
def yX1_amountIn : MethodName := ⟨RX1, "amountIn", "(I)I"⟩
abbrev cX1_iceIn : ByteArray := prog_3_method_11_code
def yX1_iceIn : MethodName := ⟨RX1, "iceIn", "(I)I"⟩
abbrev cX1_isWarmForPlume : ByteArray := prog_3_method_12_code
def yX1_isWarmForPlume : MethodName := ⟨RX1, "isWarmForPlume", "()Z"⟩
abbrev cX1_liftPlume : ByteArray := prog_3_method_13_code
def yX1_liftPlume : MethodName := ⟨RX1, "liftPlume", "()V"⟩
abbrev cX1_isBalanced : ByteArray := prog_3_method_14_code
def yX1_isBalanced : MethodName := ⟨RX1, "isBalanced", "()Z"⟩
abbrev cX1_addTo : ByteArray := prog_3_method_15_code
def yX1_addTo : MethodName := ⟨RX1, "addTo", "(J)J"⟩
abbrev cX1_copyFrom : ByteArray := prog_3_method_16_code
def yX1_copyFrom : MethodName := ⟨RX1, "copyFrom", "(LBandworld$Column;)V"⟩
def RX2 : String := "Bandworld$Frame"
def TX2 : u_T := fun k => match k with
  | 0 => ("Bandworld$Frame", "takenAt", "I", true)
  | 1 => ("Bandworld$Frame", "count", "I", false)
  | 2 => ("Bandworld$Frame", "names", "[C", true)
  | _ => ("Bandworld$Frame", "places", "[I", true)
def tyX2 : Nat → FieldType := fun k => match k with
  | 0 => .int
  | 1 => .int
  | 2 => .array .char
  | _ => .array .int
abbrev wsX20 : List Cond := u_ws RX2 TX2 4
theorem nmX2 : ∀ a, a < 4 → ∀ b, b < 4 → a ≠ b → (TX2 a).2.1 ≠ (TX2 b).2.1 := by decide +kernel
theorem tyX2_ok : ∀ k, k < 4 → parseFieldDescriptor (TX2 k).2.2.1 = some (tyX2 k) := by decide +kernel
abbrev cX2_init : ByteArray := prog_4_method_1_code
def yX2_init : MethodName := ⟨RX2, "<init>", "(I)V"⟩
abbrev cX2_see : ByteArray := prog_4_method_2_code
def yX2_see : MethodName := ⟨RX2, "see", "(LBandworld$Storms;I)V"⟩
abbrev cX2_placeOf : ByteArray := prog_4_method_3_code
def yX2_placeOf : MethodName := ⟨RX2, "placeOf", "(C)I"⟩
def RX3 : String := "Bandworld$Notes"
def TX3 : u_T := fun k => match k with
  | 0 => ("Bandworld$Notes", "count", "I", false)
  | 1 => ("Bandworld$Notes", "letters", "[C", true)
  | _ => ("Bandworld$Notes", "numbers", "[I", true)
def tyX3 : Nat → FieldType := fun k => match k with
  | 0 => .int
  | 1 => .array .char
  | _ => .array .int
abbrev wsX30 : List Cond := u_ws RX3 TX3 3
theorem nmX3 : ∀ a, a < 3 → ∀ b, b < 3 → a ≠ b → (TX3 a).2.1 ≠ (TX3 b).2.1 := by decide +kernel
theorem tyX3_ok : ∀ k, k < 3 → parseFieldDescriptor (TX3 k).2.2.1 = some (tyX3 k) := by decide +kernel
abbrev cX3_init : ByteArray := prog_5_method_1_code
def yX3_init : MethodName := ⟨RX3, "<init>", "()V"⟩
abbrev cX3_write : ByteArray := prog_5_method_2_code
def yX3_write : MethodName := ⟨RX3, "write", "(CI)V"⟩
abbrev cX3_copyFrom : ByteArray := prog_5_method_3_code
def yX3_copyFrom : MethodName := ⟨RX3, "copyFrom", "(LBandworld$Notes;)V"⟩
def RX4 : String := "Bandworld$Probe"
def TX4 : u_T := fun k => match k with
  | 0 => ("Bandworld$Probe", "chute", "I", true)
  | 1 => ("Bandworld$Probe", "relay", "I", true)
  | 2 => ("Bandworld$Probe", "records", "I", true)
  | 3 => ("Bandworld$Probe", "isOldest", "Z", true)
  | 4 => ("Bandworld$Probe", "level", "I", false)
  | 5 => ("Bandworld$Probe", "ticks", "I", false)
  | 6 => ("Bandworld$Probe", "dead", "Z", false)
  | 7 => ("Bandworld$Probe", "levels", "[I", true)
  | 8 => ("Bandworld$Probe", "temperatures", "[I", true)
  | 9 => ("Bandworld$Probe", "ices", "[I", true)
  | 10 => ("Bandworld$Probe", "kept", "[I", true)
  | 11 => ("Bandworld$Probe", "keptCount", "I", false)
  | 12 => ("Bandworld$Probe", "sentRecords", "[I", true)
  | 13 => ("Bandworld$Probe", "sentCount", "I", false)
  | _ => ("Bandworld$Probe", "lostCount", "I", false)
def tyX4 : Nat → FieldType := fun k => match k with
  | 0 => .int
  | 1 => .int
  | 2 => .int
  | 3 => .boolean
  | 4 => .int
  | 5 => .int
  | 6 => .boolean
  | 7 => .array .int
  | 8 => .array .int
  | 9 => .array .int
  | 10 => .array .int
  | 11 => .int
  | 12 => .array .int
  | 13 => .int
  | _ => .int
abbrev wsX40 : List Cond := u_ws RX4 TX4 15
theorem nmX4 : ∀ a, a < 15 → ∀ b, b < 15 → a ≠ b → (TX4 a).2.1 ≠ (TX4 b).2.1 := by decide +kernel
theorem tyX4_ok : ∀ k, k < 15 → parseFieldDescriptor (TX4 k).2.2.1 = some (tyX4 k) := by decide +kernel
abbrev cX4_init : ByteArray := prog_6_method_1_code
def yX4_init : MethodName := ⟨RX4, "<init>", "(IIIZ)V"⟩
abbrev cX4_goOn : ByteArray := prog_6_method_2_code
def yX4_goOn : MethodName := ⟨RX4, "goOn", "(LBandworld$Column;)V"⟩
abbrev cX4_keep : ByteArray := prog_6_method_3_code
def yX4_keep : MethodName := ⟨RX4, "keep", "(I)V"⟩
abbrev cX4_transmit : ByteArray := prog_6_method_4_code
def yX4_transmit : MethodName := ⟨RX4, "transmit", "()V"⟩
abbrev cX4_takeKept : ByteArray := prog_6_method_5_code
def yX4_takeKept : MethodName := ⟨RX4, "takeKept", "(I)I"⟩
abbrev cX4_fall : ByteArray := prog_6_method_6_code
def yX4_fall : MethodName := ⟨RX4, "fall", "(I)V"⟩
def RX5 : String := "Bandworld$Scars"
def TX5 : u_T := fun k => match k with
  | 0 => ("Bandworld$Scars", "count", "I", false)
  | 1 => ("Bandworld$Scars", "belts", "[I", true)
  | 2 => ("Bandworld$Scars", "widths", "[I", true)
  | _ => ("Bandworld$Scars", "firstWidths", "[I", true)
def tyX5 : Nat → FieldType := fun k => match k with
  | 0 => .int
  | 1 => .array .int
  | 2 => .array .int
  | _ => .array .int
abbrev wsX50 : List Cond := u_ws RX5 TX5 4
theorem nmX5 : ∀ a, a < 4 → ∀ b, b < 4 → a ≠ b → (TX5 a).2.1 ≠ (TX5 b).2.1 := by decide +kernel
theorem tyX5_ok : ∀ k, k < 4 → parseFieldDescriptor (TX5 k).2.2.1 = some (tyX5 k) := by decide +kernel
abbrev cX5_init : ByteArray := prog_7_method_1_code
def yX5_init : MethodName := ⟨RX5, "<init>", "()V"⟩
abbrev cX5_begin : ByteArray := prog_7_method_2_code
def yX5_begin : MethodName := ⟨RX5, "begin", "(II)I"⟩
abbrev cX5_widen : ByteArray := prog_7_method_3_code
def yX5_widen : MethodName := ⟨RX5, "widen", "(LBandworld$Belts;)V"⟩
abbrev cX5_turnsByWidth : ByteArray := prog_7_method_4_code
def yX5_turnsByWidth : MethodName := ⟨RX5, "turnsByWidth", "(ILBandworld$Belts;)I"⟩
abbrev cX5_growth : ByteArray := prog_7_method_5_code
def yX5_growth : MethodName := ⟨RX5, "growth", "(ILBandworld$Belts;)I"⟩
abbrev cX5_copyFrom : ByteArray := prog_7_method_6_code
def yX5_copyFrom : MethodName := ⟨RX5, "copyFrom", "(LBandworld$Scars;)V"⟩
def RX6 : String := "Bandworld$Storms"
def TX6 : u_T := fun k => match k with
  | 0 => ("Bandworld$Storms", "count", "I", false)
  | 1 => ("Bandworld$Storms", "belts", "[I", true)
  | 2 => ("Bandworld$Storms", "longitudes", "[I", true)
  | 3 => ("Bandworld$Storms", "sizes", "[I", true)
  | 4 => ("Bandworld$Storms", "ages", "[I", true)
  | 5 => ("Bandworld$Storms", "names", "[C", true)
  | 6 => ("Bandworld$Storms", "there", "[Z", true)
  | _ => ("Bandworld$Storms", "heirs", "[I", true)
def tyX6 : Nat → FieldType := fun k => match k with
  | 0 => .int
  | 1 => .array .int
  | 2 => .array .int
  | 3 => .array .int
  | 4 => .array .int
  | 5 => .array .char
  | 6 => .array .boolean
  | _ => .array .int
abbrev wsX60 : List Cond := u_ws RX6 TX6 8
theorem nmX6 : ∀ a, a < 8 → ∀ b, b < 8 → a ≠ b → (TX6 a).2.1 ≠ (TX6 b).2.1 := by decide +kernel
theorem tyX6_ok : ∀ k, k < 8 → parseFieldDescriptor (TX6 k).2.2.1 = some (tyX6 k) := by decide +kernel
abbrev cX6_init : ByteArray := prog_8_method_1_code
def yX6_init : MethodName := ⟨RX6, "<init>", "()V"⟩
abbrev cX6_begin : ByteArray := prog_8_method_2_code
def yX6_begin : MethodName := ⟨RX6, "begin", "(III)I"⟩
abbrev cX6_bearerOf : ByteArray := prog_8_method_3_code
def yX6_bearerOf : MethodName := ⟨RX6, "bearerOf", "(C)I"⟩
abbrev cX6_heirOf : ByteArray := prog_8_method_4_code
def yX6_heirOf : MethodName := ⟨RX6, "heirOf", "(I)I"⟩
abbrev cX6_countThere : ByteArray := prog_8_method_5_code
def yX6_countThere : MethodName := ⟨RX6, "countThere", "()I"⟩
abbrev cX6_goOn : ByteArray := prog_8_method_6_code
def yX6_goOn : MethodName := ⟨RX6, "goOn", "(LBandworld$Belts;LBandworld$Notes;)V"⟩
abbrev cX6_blow : ByteArray := prog_8_method_7_code
def yX6_blow : MethodName := ⟨RX6, "blow", "(LBandworld$Belts;)V"⟩
abbrev cX6_meet : ByteArray := prog_8_method_8_code
def yX6_meet : MethodName := ⟨RX6, "meet", "(LBandworld$Notes;)V"⟩
abbrev cX6_doMeet : ByteArray := prog_8_method_9_code
def yX6_doMeet : MethodName := ⟨RX6, "doMeet", "(II)Z"⟩
abbrev cX6_merge : ByteArray := prog_8_method_10_code
def yX6_merge : MethodName := ⟨RX6, "merge", "(IILBandworld$Notes;)V"⟩
abbrev cX6_isGreater : ByteArray := prog_8_method_11_code
def yX6_isGreater : MethodName := ⟨RX6, "isGreater", "(II)Z"⟩
abbrev cX6_mergedSize : ByteArray := prog_8_method_12_code
def yX6_mergedSize : MethodName := ⟨RX6, "mergedSize", "(II)I"⟩
abbrev cX6_tear : ByteArray := prog_8_method_13_code
def yX6_tear : MethodName := ⟨RX6, "tear", "(LBandworld$Belts;LBandworld$Notes;)V"⟩
abbrev cX6_split : ByteArray := prog_8_method_14_code
def yX6_split : MethodName := ⟨RX6, "split", "(LBandworld$Notes;)V"⟩
abbrev cX6_areNamesSingle : ByteArray := prog_8_method_15_code
def yX6_areNamesSingle : MethodName := ⟨RX6, "areNamesSingle", "()Z"⟩
abbrev cX6_areSizesRight : ByteArray := prog_8_method_16_code
def yX6_areSizesRight : MethodName := ⟨RX6, "areSizesRight", "()Z"⟩
abbrev cX6_addTo : ByteArray := prog_8_method_17_code
def yX6_addTo : MethodName := ⟨RX6, "addTo", "(J)J"⟩
abbrev cX6_copyFrom : ByteArray := prog_8_method_18_code
def yX6_copyFrom : MethodName := ⟨RX6, "copyFrom", "(LBandworld$Storms;)V"⟩
def RX7 : String := "Bandworld$World"
def TX7 : u_T := fun k => match k with
  | 0 => ("Bandworld$World", "column", "LBandworld$Column;", true)
  | 1 => ("Bandworld$World", "belts", "LBandworld$Belts;", true)
  | 2 => ("Bandworld$World", "storms", "LBandworld$Storms;", true)
  | 3 => ("Bandworld$World", "scars", "LBandworld$Scars;", true)
  | 4 => ("Bandworld$World", "notes", "LBandworld$Notes;", true)
  | _ => ("Bandworld$World", "turns", "I", false)
def tyX7 : Nat → FieldType := fun k => match k with
  | 0 => .object "Bandworld$Column"
  | 1 => .object "Bandworld$Belts"
  | 2 => .object "Bandworld$Storms"
  | 3 => .object "Bandworld$Scars"
  | 4 => .object "Bandworld$Notes"
  | _ => .int
abbrev wsX70 : List Cond := u_ws RX7 TX7 6
theorem nmX7 : ∀ a, a < 6 → ∀ b, b < 6 → a ≠ b → (TX7 a).2.1 ≠ (TX7 b).2.1 := by decide +kernel
theorem tyX7_ok : ∀ k, k < 6 → parseFieldDescriptor (TX7 k).2.2.1 = some (tyX7 k) := by decide +kernel
abbrev cX7_init : ByteArray := prog_9_method_1_code
def yX7_init : MethodName := ⟨RX7, "<init>", "()V"⟩
abbrev cX7_goOn : ByteArray := prog_9_method_2_code
def yX7_goOn : MethodName := ⟨RX7, "goOn", "()V"⟩
abbrev cX7_sumUp : ByteArray := prog_9_method_3_code
def yX7_sumUp : MethodName := ⟨RX7, "sumUp", "()J"⟩
abbrev cX7_copyFrom : ByteArray := prog_9_method_4_code
def yX7_copyFrom : MethodName := ⟨RX7, "copyFrom", "(LBandworld$World;)V"⟩
def RX8 : String := "Bandworld"
def TX8 : u_T := fun k => match k with
  | 0 => ("Bandworld", "world", "LBandworld$World;", true)
  | 1 => ("Bandworld", "saves", "[LBandworld$World;", true)
  | 2 => ("Bandworld", "saveSums", "[J", true)
  | 3 => ("Bandworld", "saveCount", "I", false)
  | 4 => ("Bandworld", "spare", "LBandworld$World;", false)
  | 5 => ("Bandworld", "probes", "[LBandworld$Probe;", true)
  | 6 => ("Bandworld", "probeCount", "I", false)
  | 7 => ("Bandworld", "frames", "[LBandworld$Frame;", true)
  | _ => ("Bandworld", "frameCount", "I", false)
def tyX8 : Nat → FieldType := fun k => match k with
  | 0 => .object "Bandworld$World"
  | 1 => .array (.object "Bandworld$World")
  | 2 => .array .long
  | 3 => .int
  | 4 => .object "Bandworld$World"
  | 5 => .array (.object "Bandworld$Probe")
  | 6 => .int
  | 7 => .array (.object "Bandworld$Frame")
  | _ => .int
abbrev wsX80 : List Cond := u_ws RX8 TX8 9
theorem nmX8 : ∀ a, a < 9 → ∀ b, b < 9 → a ≠ b → (TX8 a).2.1 ≠ (TX8 b).2.1 := by decide +kernel
theorem tyX8_ok : ∀ k, k < 9 → parseFieldDescriptor (TX8 k).2.2.1 = some (tyX8 k) := by decide +kernel
abbrev cX8_init : ByteArray := prog_1_method_1_code
def yX8_init : MethodName := ⟨RX8, "<init>", "()V"⟩
abbrev cX8_setTemperature : ByteArray := prog_1_method_2_code
def yX8_setTemperature : MethodName := ⟨RX8, "setTemperature", "(II)I"⟩
abbrev cX8_getTemperature : ByteArray := prog_1_method_3_code
def yX8_getTemperature : MethodName := ⟨RX8, "getTemperature", "(I)I"⟩
abbrev cX8_setVapour : ByteArray := prog_1_method_4_code
def yX8_setVapour : MethodName := ⟨RX8, "setVapour", "(III)I"⟩
abbrev cX8_getVapour : ByteArray := prog_1_method_5_code
def yX8_getVapour : MethodName := ⟨RX8, "getVapour", "(II)I"⟩
abbrev cX8_getIce : ByteArray := prog_1_method_6_code
def yX8_getIce : MethodName := ⟨RX8, "getIce", "(II)I"⟩
abbrev cX8_deck : ByteArray := prog_1_method_7_code
def yX8_deck : MethodName := ⟨RX8, "deck", "(I)I"⟩
abbrev cX8_setCore : ByteArray := prog_1_method_8_code
def yX8_setCore : MethodName := ⟨RX8, "setCore", "(I)I"⟩
abbrev cX8_getRadiated : ByteArray := prog_1_method_9_code
def yX8_getRadiated : MethodName := ⟨RX8, "getRadiated", "()I"⟩
abbrev cX8_pressure : ByteArray := prog_1_method_10_code
def yX8_pressure : MethodName := ⟨RX8, "pressure", "(I)F"⟩
abbrev cX8_setTurning : ByteArray := prog_1_method_11_code
def yX8_setTurning : MethodName := ⟨RX8, "setTurning", "(II)I"⟩
abbrev cX8_getTurning : ByteArray := prog_1_method_12_code
def yX8_getTurning : MethodName := ⟨RX8, "getTurning", "(I)I"⟩
abbrev cX8_getWind : ByteArray := prog_1_method_13_code
def yX8_getWind : MethodName := ⟨RX8, "getWind", "(I)I"⟩
abbrev cX8_getShear : ByteArray := prog_1_method_14_code
def yX8_getShear : MethodName := ⟨RX8, "getShear", "(I)I"⟩
abbrev cX8_stir : ByteArray := prog_1_method_15_code
def yX8_stir : MethodName := ⟨RX8, "stir", "(III)I"⟩
abbrev cX8_setDrag : ByteArray := prog_1_method_16_code
def yX8_setDrag : MethodName := ⟨RX8, "setDrag", "(I)I"⟩
abbrev cX8_getDeep : ByteArray := prog_1_method_17_code
def yX8_getDeep : MethodName := ⟨RX8, "getDeep", "()I"⟩
abbrev cX8_addStorm : ByteArray := prog_1_method_18_code
def yX8_addStorm : MethodName := ⟨RX8, "addStorm", "(III)I"⟩
abbrev cX8_nameStorm : ByteArray := prog_1_method_19_code
def yX8_nameStorm : MethodName := ⟨RX8, "nameStorm", "(IC)C"⟩
abbrev cX8_findName : ByteArray := prog_1_method_20_code
def yX8_findName : MethodName := ⟨RX8, "findName", "(C)I"⟩
abbrev cX8_getLongitude : ByteArray := prog_1_method_21_code
def yX8_getLongitude : MethodName := ⟨RX8, "getLongitude", "(I)I"⟩
abbrev cX8_getSize : ByteArray := prog_1_method_22_code
def yX8_getSize : MethodName := ⟨RX8, "getSize", "(I)I"⟩
abbrev cX8_getAge : ByteArray := prog_1_method_23_code
def yX8_getAge : MethodName := ⟨RX8, "getAge", "(I)I"⟩
abbrev cX8_isThere : ByteArray := prog_1_method_24_code
def yX8_isThere : MethodName := ⟨RX8, "isThere", "(I)Z"⟩
abbrev cX8_livesIn : ByteArray := prog_1_method_25_code
def yX8_livesIn : MethodName := ⟨RX8, "livesIn", "(I)I"⟩
abbrev cX8_burst : ByteArray := prog_1_method_26_code
def yX8_burst : MethodName := ⟨RX8, "burst", "(II)I"⟩
abbrev cX8_strike : ByteArray := prog_1_method_27_code
def yX8_strike : MethodName := ⟨RX8, "strike", "(III)I"⟩
abbrev cX8_getWidth : ByteArray := prog_1_method_28_code
def yX8_getWidth : MethodName := ⟨RX8, "getWidth", "(I)I"⟩
abbrev cX8_scarTurns : ByteArray := prog_1_method_29_code
def yX8_scarTurns : MethodName := ⟨RX8, "scarTurns", "(I)I"⟩
abbrev cX8_turn : ByteArray := prog_1_method_30_code
def yX8_turn : MethodName := ⟨RX8, "turn", "(I)I"⟩
abbrev cX8_dropProbe : ByteArray := prog_1_method_31_code
def yX8_dropProbe : MethodName := ⟨RX8, "dropProbe", "(IIIZ)I"⟩
abbrev cX8_tick : ByteArray := prog_1_method_32_code
def yX8_tick : MethodName := ⟨RX8, "tick", "(I)I"⟩
abbrev cX8_sent : ByteArray := prog_1_method_33_code
def yX8_sent : MethodName := ⟨RX8, "sent", "(I)I"⟩
abbrev cX8_sentAt : ByteArray := prog_1_method_34_code
def yX8_sentAt : MethodName := ⟨RX8, "sentAt", "(IIC)I"⟩
abbrev cX8_lost : ByteArray := prog_1_method_35_code
def yX8_lost : MethodName := ⟨RX8, "lost", "(I)I"⟩
abbrev cX8_frame : ByteArray := prog_1_method_36_code
def yX8_frame : MethodName := ⟨RX8, "frame", "(I)I"⟩
abbrev cX8_countSeen : ByteArray := prog_1_method_37_code
def yX8_countSeen : MethodName := ⟨RX8, "countSeen", "(I)I"⟩
abbrev cX8_placeIn : ByteArray := prog_1_method_38_code
def yX8_placeIn : MethodName := ⟨RX8, "placeIn", "(IC)I"⟩
abbrev cX8_drift : ByteArray := prog_1_method_39_code
def yX8_drift : MethodName := ⟨RX8, "drift", "(CII)F"⟩
abbrev cX8_save : ByteArray := prog_1_method_40_code
def yX8_save : MethodName := ⟨RX8, "save", "()I"⟩
abbrev cX8_load : ByteArray := prog_1_method_41_code
def yX8_load : MethodName := ⟨RX8, "load", "(I)J"⟩
abbrev cX8_happenings : ByteArray := prog_1_method_42_code
def yX8_happenings : MethodName := ⟨RX8, "happenings", "()I"⟩
abbrev cX8_happening : ByteArray := prog_1_method_43_code
def yX8_happening : MethodName := ⟨RX8, "happening", "(I)C"⟩
abbrev cX8_happenedTo : ByteArray := prog_1_method_44_code
def yX8_happenedTo : MethodName := ⟨RX8, "happenedTo", "(I)I"⟩
abbrev cX8_checksum : ByteArray := prog_1_method_45_code
def yX8_checksum : MethodName := ⟨RX8, "checksum", "()J"⟩
abbrev cX8_thereShare : ByteArray := prog_1_method_46_code
def yX8_thereShare : MethodName := ⟨RX8, "thereShare", "()F"⟩
abbrev cX8_meanWind : ByteArray := prog_1_method_47_code
def yX8_meanWind : MethodName := ⟨RX8, "meanWind", "()D"⟩
abbrev cX8_isSound : ByteArray := prog_1_method_48_code
def yX8_isSound : MethodName := ⟨RX8, "isSound", "()Z"⟩
abbrev cX8_areSavesTrue : ByteArray := prog_1_method_49_code
def yX8_areSavesTrue : MethodName := ⟨RX8, "areSavesTrue", "()Z"⟩
abbrev cX8_probeAt : ByteArray := prog_1_method_50_code
def yX8_probeAt : MethodName := ⟨RX8, "probeAt", "(I)LBandworld$Probe;"⟩
abbrev cX8_frameAt : ByteArray := prog_1_method_51_code
def yX8_frameAt : MethodName := ⟨RX8, "frameAt", "(I)LBandworld$Frame;"⟩
abbrev cX8_checkStorm : ByteArray := prog_1_method_52_code
def yX8_checkStorm : MethodName := ⟨RX8, "checkStorm", "(I)V"⟩
abbrev cX8_checkIsThere : ByteArray := prog_1_method_53_code
def yX8_checkIsThere : MethodName := ⟨RX8, "checkIsThere", "(I)V"⟩
abbrev cX8_checkNote : ByteArray := prog_1_method_54_code
def yX8_checkNote : MethodName := ⟨RX8, "checkNote", "(I)V"⟩
abbrev cX8_checkIndex : ByteArray := prog_1_method_55_code
def yX8_checkIndex : MethodName := ⟨RX8, "checkIndex", "(II)V"⟩
abbrev cX8_checkRange : ByteArray := prog_1_method_56_code
def yX8_checkRange : MethodName := ⟨RX8, "checkRange", "(III)V"⟩
abbrev cX8_checkLongitude : ByteArray := prog_1_method_57_code
def yX8_checkLongitude : MethodName := ⟨RX8, "checkLongitude", "(I)V"⟩
abbrev cX8_checkName : ByteArray := prog_1_method_58_code
def yX8_checkName : MethodName := ⟨RX8, "checkName", "(C)V"⟩
abbrev cX8_checkRoom : ByteArray := prog_1_method_59_code
def yX8_checkRoom : MethodName := ⟨RX8, "checkRoom", "(II)V"⟩
abbrev cX8_distance : ByteArray := prog_1_method_60_code
def yX8_distance : MethodName := ⟨RX8, "distance", "(II)I"⟩
def RX9 : String := "BandworldModel$Frame"
def TX9 : u_T := fun k => match k with
  | 0 => ("BandworldModel$Frame", "turns", "I", false)
  | _ => ("BandworldModel$Frame", "seen", "Ljava/util/List;", true)
def tyX9 : Nat → FieldType := fun k => match k with
  | 0 => .int
  | _ => .object "java/util/List"
abbrev wsX90 : List Cond := u_ws RX9 TX9 2
theorem nmX9 : ∀ a, a < 2 → ∀ b, b < 2 → a ≠ b → (TX9 a).2.1 ≠ (TX9 b).2.1 := by decide +kernel
theorem tyX9_ok : ∀ k, k < 2 → parseFieldDescriptor (TX9 k).2.2.1 = some (tyX9 k) := by decide +kernel
abbrev cX9_init : ByteArray := prog_12_method_1_code
def yX9_init : MethodName := ⟨RX9, "<init>", "()V"⟩
abbrev cX9_with : ByteArray := prog_12_method_2_code
def yX9_with : MethodName := ⟨RX9, "with", "(C)LBandworldModel$Storm;"⟩
def RX10 : String := "BandworldModel$Probe"
def TX10 : u_T := fun k => match k with
  | 0 => ("BandworldModel$Probe", "chute", "I", false)
  | 1 => ("BandworldModel$Probe", "relay", "I", false)
  | 2 => ("BandworldModel$Probe", "records", "I", false)
  | 3 => ("BandworldModel$Probe", "oldest", "Z", false)
  | 4 => ("BandworldModel$Probe", "ticks", "I", false)
  | 5 => ("BandworldModel$Probe", "level", "I", false)
  | 6 => ("BandworldModel$Probe", "dead", "Z", false)
  | 7 => ("BandworldModel$Probe", "lost", "I", false)
  | 8 => ("BandworldModel$Probe", "kept", "Ljava/util/List;", true)
  | _ => ("BandworldModel$Probe", "sent", "Ljava/util/List;", true)
def tyX10 : Nat → FieldType := fun k => match k with
  | 0 => .int
  | 1 => .int
  | 2 => .int
  | 3 => .boolean
  | 4 => .int
  | 5 => .int
  | 6 => .boolean
  | 7 => .int
  | 8 => .object "java/util/List"
  | _ => .object "java/util/List"
abbrev wsX100 : List Cond := u_ws RX10 TX10 10
theorem nmX10 : ∀ a, a < 10 → ∀ b, b < 10 → a ≠ b → (TX10 a).2.1 ≠ (TX10 b).2.1 := by decide +kernel
theorem tyX10_ok : ∀ k, k < 10 → parseFieldDescriptor (TX10 k).2.2.1 = some (tyX10 k) := by decide +kernel
abbrev cX10_init : ByteArray := prog_13_method_1_code
def yX10_init : MethodName := ⟨RX10, "<init>", "()V"⟩
def RX11 : String := "BandworldModel$Storm"
def TX11 : u_T := fun k => match k with
  | 0 => ("BandworldModel$Storm", "belt", "I", false)
  | 1 => ("BandworldModel$Storm", "longitude", "I", false)
  | 2 => ("BandworldModel$Storm", "size", "I", false)
  | 3 => ("BandworldModel$Storm", "age", "I", false)
  | 4 => ("BandworldModel$Storm", "name", "C", false)
  | 5 => ("BandworldModel$Storm", "gone", "Z", false)
  | _ => ("BandworldModel$Storm", "into", "I", false)
def tyX11 : Nat → FieldType := fun k => match k with
  | 0 => .int
  | 1 => .int
  | 2 => .int
  | 3 => .int
  | 4 => .char
  | 5 => .boolean
  | _ => .int
abbrev wsX110 : List Cond := u_ws RX11 TX11 7
theorem nmX11 : ∀ a, a < 7 → ∀ b, b < 7 → a ≠ b → (TX11 a).2.1 ≠ (TX11 b).2.1 := by decide +kernel
theorem tyX11_ok : ∀ k, k < 7 → parseFieldDescriptor (TX11 k).2.2.1 = some (tyX11 k) := by decide +kernel
abbrev cX11_init : ByteArray := prog_14_method_1_code
def yX11_init : MethodName := ⟨RX11, "<init>", "()V"⟩
abbrev cX11_copy : ByteArray := prog_14_method_2_code
def yX11_copy : MethodName := ⟨RX11, "copy", "()LBandworldModel$Storm;"⟩
def RX12 : String := "BandworldModel$World"
def TX12 : u_T := fun k => match k with
  | 0 => ("BandworldModel$World", "warm", "[I", true)
  | 1 => ("BandworldModel$World", "vapour", "[[I", true)
  | 2 => ("BandworldModel$World", "ice", "[[I", true)
  | 3 => ("BandworldModel$World", "core", "I", false)
  | 4 => ("BandworldModel$World", "radiated", "I", false)
  | 5 => ("BandworldModel$World", "turning", "[I", true)
  | 6 => ("BandworldModel$World", "drag", "I", false)
  | 7 => ("BandworldModel$World", "deep", "I", false)
  | 8 => ("BandworldModel$World", "storms", "Ljava/util/List;", true)
  | 9 => ("BandworldModel$World", "scars", "Ljava/util/List;", true)
  | 10 => ("BandworldModel$World", "notes", "Ljava/util/List;", true)
  | _ => ("BandworldModel$World", "turns", "I", false)
def tyX12 : Nat → FieldType := fun k => match k with
  | 0 => .array .int
  | 1 => .array (.array .int)
  | 2 => .array (.array .int)
  | 3 => .int
  | 4 => .int
  | 5 => .array .int
  | 6 => .int
  | 7 => .int
  | 8 => .object "java/util/List"
  | 9 => .object "java/util/List"
  | 10 => .object "java/util/List"
  | _ => .int
abbrev wsX120 : List Cond := u_ws RX12 TX12 12
theorem nmX12 : ∀ a, a < 12 → ∀ b, b < 12 → a ≠ b → (TX12 a).2.1 ≠ (TX12 b).2.1 := by decide +kernel
theorem tyX12_ok : ∀ k, k < 12 → parseFieldDescriptor (TX12 k).2.2.1 = some (tyX12 k) := by decide +kernel
abbrev cX12_init : ByteArray := prog_15_method_1_code
def yX12_init : MethodName := ⟨RX12, "<init>", "()V"⟩
abbrev cX12_copy : ByteArray := prog_15_method_2_code
def yX12_copy : MethodName := ⟨RX12, "copy", "()LBandworldModel$World;"⟩
abbrev cX12_weight : ByteArray := prog_15_method_3_code
def yX12_weight : MethodName := ⟨RX12, "weight", "(I)I"⟩
abbrev cX12_wind : ByteArray := prog_15_method_4_code
def yX12_wind : MethodName := ⟨RX12, "wind", "(I)I"⟩
abbrev cX12_shear : ByteArray := prog_15_method_5_code
def yX12_shear : MethodName := ⟨RX12, "shear", "(I)I"⟩
abbrev cX12_notes : ByteArray := prog_15_method_6_code
def yX12_notes : MethodName := ⟨RX12, "notes", "(CI)V"⟩
abbrev cX12_column : ByteArray := prog_15_method_7_code
def yX12_column : MethodName := ⟨RX12, "column", "()V"⟩
abbrev cX12_drags : ByteArray := prog_15_method_8_code
def yX12_drags : MethodName := ⟨RX12, "drags", "()V"⟩
abbrev cX12_wins : ByteArray := prog_15_method_9_code
def yX12_wins : MethodName := ⟨RX12, "wins", "(LBandworldModel$Storm;LBandworldModel$Storm;)Z"⟩
abbrev cX12_meet : ByteArray := prog_15_method_10_code
def yX12_meet : MethodName := ⟨RX12, "meet", "(II)V"⟩
abbrev cX12_storms : ByteArray := prog_15_method_11_code
def yX12_storms : MethodName := ⟨RX12, "storms", "()V"⟩
abbrev cX12_lasts : ByteArray := prog_15_method_12_code
def yX12_lasts : MethodName := ⟨RX12, "lasts", "()V"⟩
abbrev cX12_sum : ByteArray := prog_15_method_13_code
def yX12_sum : MethodName := ⟨RX12, "sum", "()J"⟩
def RX13 : String := "BandworldModel"
def TX13 : u_T := fun k => match k with
  | 0 => ("BandworldModel", "thrown", "I", false)
  | 1 => ("BandworldModel", "world", "LBandworldModel$World;", false)
  | 2 => ("BandworldModel", "saves", "Ljava/util/List;", true)
  | 3 => ("BandworldModel", "probes", "Ljava/util/List;", true)
  | _ => ("BandworldModel", "frames", "Ljava/util/List;", true)
def tyX13 : Nat → FieldType := fun k => match k with
  | 0 => .int
  | 1 => .object "BandworldModel$World"
  | 2 => .object "java/util/List"
  | 3 => .object "java/util/List"
  | _ => .object "java/util/List"
abbrev wsX130 : List Cond := u_ws RX13 TX13 5
theorem nmX13 : ∀ a, a < 5 → ∀ b, b < 5 → a ≠ b → (TX13 a).2.1 ≠ (TX13 b).2.1 := by decide +kernel
theorem tyX13_ok : ∀ k, k < 5 → parseFieldDescriptor (TX13 k).2.2.1 = some (tyX13 k) := by decide +kernel
abbrev cX13_thrown : ByteArray := prog_11_method_1_code
def yX13_thrown : MethodName := ⟨RX13, "thrown", "()I"⟩
abbrev cX13_in : ByteArray := prog_11_method_2_code
def yX13_in : MethodName := ⟨RX13, "in", "(JJJ)Z"⟩
abbrev cX13_isOf : ByteArray := prog_11_method_3_code
def yX13_isOf : MethodName := ⟨RX13, "isOf", "(Ljava/util/List;I)Z"⟩
abbrev cX13_fails : ByteArray := prog_11_method_4_code
def yX13_fails : MethodName := ⟨RX13, "fails", "(ZI)Z"⟩
abbrev cX13_begins : ByteArray := prog_11_method_5_code
def yX13_begins : MethodName := ⟨RX13, "begins", "()V"⟩
abbrev cX13_holdsEach : ByteArray := prog_11_method_6_code
def yX13_holdsEach : MethodName := ⟨RX13, "holdsEach", "(I)I"⟩
abbrev cX13_width : ByteArray := prog_11_method_7_code
def yX13_width : MethodName := ⟨RX13, "width", "(I)I"⟩
abbrev cX13_init : ByteArray := prog_11_method_8_code
def yX13_init : MethodName := ⟨RX13, "<init>", "()V"⟩
abbrev cX13_noLevel : ByteArray := prog_11_method_9_code
def yX13_noLevel : MethodName := ⟨RX13, "noLevel", "(I)Z"⟩
abbrev cX13_setTemperature : ByteArray := prog_11_method_10_code
def yX13_setTemperature : MethodName := ⟨RX13, "setTemperature", "(II)I"⟩
abbrev cX13_getTemperature : ByteArray := prog_11_method_11_code
def yX13_getTemperature : MethodName := ⟨RX13, "getTemperature", "(I)I"⟩
abbrev cX13_noVapour : ByteArray := prog_11_method_12_code
def yX13_noVapour : MethodName := ⟨RX13, "noVapour", "(II)Z"⟩
abbrev cX13_setVapour : ByteArray := prog_11_method_13_code
def yX13_setVapour : MethodName := ⟨RX13, "setVapour", "(III)I"⟩
abbrev cX13_getVapour : ByteArray := prog_11_method_14_code
def yX13_getVapour : MethodName := ⟨RX13, "getVapour", "(II)I"⟩
abbrev cX13_getIce : ByteArray := prog_11_method_15_code
def yX13_getIce : MethodName := ⟨RX13, "getIce", "(II)I"⟩
abbrev cX13_deck : ByteArray := prog_11_method_16_code
def yX13_deck : MethodName := ⟨RX13, "deck", "(I)I"⟩
abbrev cX13_setCore : ByteArray := prog_11_method_17_code
def yX13_setCore : MethodName := ⟨RX13, "setCore", "(I)I"⟩
abbrev cX13_getRadiated : ByteArray := prog_11_method_18_code
def yX13_getRadiated : MethodName := ⟨RX13, "getRadiated", "()I"⟩
abbrev cX13_pressure : ByteArray := prog_11_method_19_code
def yX13_pressure : MethodName := ⟨RX13, "pressure", "(I)F"⟩
abbrev cX13_noBelt : ByteArray := prog_11_method_20_code
def yX13_noBelt : MethodName := ⟨RX13, "noBelt", "(I)Z"⟩
abbrev cX13_setTurning : ByteArray := prog_11_method_21_code
def yX13_setTurning : MethodName := ⟨RX13, "setTurning", "(II)I"⟩
abbrev cX13_getTurning : ByteArray := prog_11_method_22_code
def yX13_getTurning : MethodName := ⟨RX13, "getTurning", "(I)I"⟩
abbrev cX13_getWind : ByteArray := prog_11_method_23_code
def yX13_getWind : MethodName := ⟨RX13, "getWind", "(I)I"⟩
abbrev cX13_getShear : ByteArray := prog_11_method_24_code
def yX13_getShear : MethodName := ⟨RX13, "getShear", "(I)I"⟩
abbrev cX13_stir : ByteArray := prog_11_method_25_code
def yX13_stir : MethodName := ⟨RX13, "stir", "(III)I"⟩
abbrev cX13_setDrag : ByteArray := prog_11_method_26_code
def yX13_setDrag : MethodName := ⟨RX13, "setDrag", "(I)I"⟩
abbrev cX13_getDeep : ByteArray := prog_11_method_27_code
def yX13_getDeep : MethodName := ⟨RX13, "getDeep", "()I"⟩
abbrev cX13_adds : ByteArray := prog_11_method_28_code
def yX13_adds : MethodName := ⟨RX13, "adds", "(III)I"⟩
abbrev cX13_isPlace : ByteArray := prog_11_method_29_code
def yX13_isPlace : MethodName := ⟨RX13, "isPlace", "(I)Z"⟩
abbrev cX13_addStorm : ByteArray := prog_11_method_30_code
def yX13_addStorm : MethodName := ⟨RX13, "addStorm", "(III)I"⟩
abbrev cX13_noStorm : ByteArray := prog_11_method_31_code
def yX13_noStorm : MethodName := ⟨RX13, "noStorm", "(I)Z"⟩
abbrev cX13_named : ByteArray := prog_11_method_32_code
def yX13_named : MethodName := ⟨RX13, "named", "(C)I"⟩
abbrev cX13_nameStorm : ByteArray := prog_11_method_33_code
def yX13_nameStorm : MethodName := ⟨RX13, "nameStorm", "(IC)C"⟩
abbrev cX13_findName : ByteArray := prog_11_method_34_code
def yX13_findName : MethodName := ⟨RX13, "findName", "(C)I"⟩
abbrev cX13_isGone : ByteArray := prog_11_method_35_code
def yX13_isGone : MethodName := ⟨RX13, "isGone", "(I)Z"⟩
abbrev cX13_getLongitude : ByteArray := prog_11_method_36_code
def yX13_getLongitude : MethodName := ⟨RX13, "getLongitude", "(I)I"⟩
abbrev cX13_getSize : ByteArray := prog_11_method_37_code
def yX13_getSize : MethodName := ⟨RX13, "getSize", "(I)I"⟩
abbrev cX13_getAge : ByteArray := prog_11_method_38_code
def yX13_getAge : MethodName := ⟨RX13, "getAge", "(I)I"⟩
abbrev cX13_isThere : ByteArray := prog_11_method_39_code
def yX13_isThere : MethodName := ⟨RX13, "isThere", "(I)Z"⟩
abbrev cX13_livesIn : ByteArray := prog_11_method_40_code
def yX13_livesIn : MethodName := ⟨RX13, "livesIn", "(I)I"⟩
abbrev cX13_burst : ByteArray := prog_11_method_41_code
def yX13_burst : MethodName := ⟨RX13, "burst", "(II)I"⟩
abbrev cX13_strike : ByteArray := prog_11_method_42_code
def yX13_strike : MethodName := ⟨RX13, "strike", "(III)I"⟩
abbrev cX13_noScar : ByteArray := prog_11_method_43_code
def yX13_noScar : MethodName := ⟨RX13, "noScar", "(I)Z"⟩
abbrev cX13_getWidth : ByteArray := prog_11_method_44_code
def yX13_getWidth : MethodName := ⟨RX13, "getWidth", "(I)I"⟩
abbrev cX13_scarTurns : ByteArray := prog_11_method_45_code
def yX13_scarTurns : MethodName := ⟨RX13, "scarTurns", "(I)I"⟩
abbrev cX13_turn : ByteArray := prog_11_method_46_code
def yX13_turn : MethodName := ⟨RX13, "turn", "(I)I"⟩
abbrev cX13_dropProbe : ByteArray := prog_11_method_47_code
def yX13_dropProbe : MethodName := ⟨RX13, "dropProbe", "(IIIZ)I"⟩
abbrev cX13_noProbe : ByteArray := prog_11_method_48_code
def yX13_noProbe : MethodName := ⟨RX13, "noProbe", "(I)Z"⟩
abbrev cX13_tick : ByteArray := prog_11_method_49_code
def yX13_tick : MethodName := ⟨RX13, "tick", "(I)I"⟩
abbrev cX13_sent : ByteArray := prog_11_method_50_code
def yX13_sent : MethodName := ⟨RX13, "sent", "(I)I"⟩
abbrev cX13_sentAt : ByteArray := prog_11_method_51_code
def yX13_sentAt : MethodName := ⟨RX13, "sentAt", "(IIC)I"⟩
abbrev cX13_lost : ByteArray := prog_11_method_52_code
def yX13_lost : MethodName := ⟨RX13, "lost", "(I)I"⟩
abbrev cX13_frame : ByteArray := prog_11_method_53_code
def yX13_frame : MethodName := ⟨RX13, "frame", "(I)I"⟩
abbrev cX13_noFrame : ByteArray := prog_11_method_54_code
def yX13_noFrame : MethodName := ⟨RX13, "noFrame", "(I)Z"⟩
abbrev cX13_countSeen : ByteArray := prog_11_method_55_code
def yX13_countSeen : MethodName := ⟨RX13, "countSeen", "(I)I"⟩
abbrev cX13_placeIn : ByteArray := prog_11_method_56_code
def yX13_placeIn : MethodName := ⟨RX13, "placeIn", "(IC)I"⟩
abbrev cX13_drift : ByteArray := prog_11_method_57_code
def yX13_drift : MethodName := ⟨RX13, "drift", "(CII)F"⟩
abbrev cX13_save : ByteArray := prog_11_method_58_code
def yX13_save : MethodName := ⟨RX13, "save", "()I"⟩
abbrev cX13_load : ByteArray := prog_11_method_59_code
def yX13_load : MethodName := ⟨RX13, "load", "(I)J"⟩
abbrev cX13_happenings : ByteArray := prog_11_method_60_code
def yX13_happenings : MethodName := ⟨RX13, "happenings", "()I"⟩
abbrev cX13_happening : ByteArray := prog_11_method_61_code
def yX13_happening : MethodName := ⟨RX13, "happening", "(I)C"⟩
abbrev cX13_happenedTo : ByteArray := prog_11_method_62_code
def yX13_happenedTo : MethodName := ⟨RX13, "happenedTo", "(I)I"⟩
abbrev cX13_checksum : ByteArray := prog_11_method_63_code
def yX13_checksum : MethodName := ⟨RX13, "checksum", "()J"⟩
abbrev cX13_thereShare : ByteArray := prog_11_method_64_code
def yX13_thereShare : MethodName := ⟨RX13, "thereShare", "()F"⟩
abbrev cX13_meanWind : ByteArray := prog_11_method_65_code
def yX13_meanWind : MethodName := ⟨RX13, "meanWind", "()D"⟩
abbrev cX13_isSound : ByteArray := prog_11_method_66_code
def yX13_isSound : MethodName := ⟨RX13, "isSound", "()Z"⟩
def RJx145de : String := "java/io/Serializable"
def TJx145de : u_T := fun k => match k with
  | _ => ("", "", "", false)
def tyJx145de : Nat → FieldType := fun k => match k with
  | _ => .int
abbrev wsJx145de0 : List Cond := u_ws RJx145de TJx145de 0
theorem nmJx145de : ∀ a, a < 0 → ∀ b, b < 0 → a ≠ b → (TJx145de a).2.1 ≠ (TJx145de b).2.1 := by decide +kernel
theorem tyJx145de_ok : ∀ k, k < 0 → parseFieldDescriptor (TJx145de k).2.2.1 = some (tyJx145de k) := by decide +kernel
def RJx00060 : String := "java/lang/ArrayIndexOutOfBoundsException"
def TJx00060 : u_T := fun k => match k with
  | 0 => ("java/lang/Throwable", "backtrace", "Ljava/lang/Object;", false)
  | 1 => ("java/lang/Throwable", "detailMessage", "Ljava/lang/String;", false)
  | 2 => ("java/lang/Throwable", "cause", "Ljava/lang/Throwable;", false)
  | 3 => ("java/lang/Throwable", "stackTrace", "[Ljava/lang/StackTraceElement;", false)
  | 4 => ("java/lang/Throwable", "depth", "I", false)
  | _ => ("java/lang/Throwable", "suppressedExceptions", "Ljava/util/List;", false)
def tyJx00060 : Nat → FieldType := fun k => match k with
  | 0 => .object "java/lang/Object"
  | 1 => .object "java/lang/String"
  | 2 => .object "java/lang/Throwable"
  | 3 => .array (.object "java/lang/StackTraceElement")
  | 4 => .int
  | _ => .object "java/util/List"
abbrev wsJx000600 : List Cond := u_ws RJx00060 TJx00060 6
theorem nmJx00060 : ∀ a, a < 6 → ∀ b, b < 6 → a ≠ b → (TJx00060 a).2.1 ≠ (TJx00060 b).2.1 := by decide +kernel
theorem tyJx00060_ok : ∀ k, k < 6 → parseFieldDescriptor (TJx00060 k).2.2.1 = some (tyJx00060 k) := by decide +kernel
abbrev cJx00060_init_a7421 : ByteArray := prog_18_method_2_code
def yJx00060_init_a7421 : MethodName := ⟨RJx00060, "<init>", "(Ljava/lang/String;)V"⟩
def RJx9f9b0 : String := "java/lang/CharSequence"
def TJx9f9b0 : u_T := fun k => match k with
  | _ => ("", "", "", false)
def tyJx9f9b0 : Nat → FieldType := fun k => match k with
  | _ => .int
abbrev wsJx9f9b00 : List Cond := u_ws RJx9f9b0 TJx9f9b0 0
theorem nmJx9f9b0 : ∀ a, a < 0 → ∀ b, b < 0 → a ≠ b → (TJx9f9b0 a).2.1 ≠ (TJx9f9b0 b).2.1 := by decide +kernel
theorem tyJx9f9b0_ok : ∀ k, k < 0 → parseFieldDescriptor (TJx9f9b0 k).2.2.1 = some (tyJx9f9b0 k) := by decide +kernel
def RJ11 : String := "java/lang/Character"
def TJ11 : u_T := fun k => match k with
  | _ => ("", "", "", false)
def tyJ11 : Nat → FieldType := fun k => match k with
  | _ => .int
abbrev wsJ110 : List Cond := u_ws RJ11 TJ11 0
theorem nmJ11 : ∀ a, a < 0 → ∀ b, b < 0 → a ≠ b → (TJ11 a).2.1 ≠ (TJ11 b).2.1 := by decide +kernel
theorem tyJ11_ok : ∀ k, k < 0 → parseFieldDescriptor (TJ11 k).2.2.1 = some (tyJ11 k) := by decide +kernel
abbrev cJ11_isValidCodePoint_9a6ad : ByteArray := prog_20_method_11_code
def yJ11_isValidCodePoint_9a6ad : MethodName := ⟨RJ11, "isValidCodePoint", "(I)Z"⟩
abbrev cJ11_highSurrogate_5068e : ByteArray := prog_20_method_28_code
def yJ11_highSurrogate_5068e : MethodName := ⟨RJ11, "highSurrogate", "(I)C"⟩
abbrev cJ11_lowSurrogate_5068e : ByteArray := prog_20_method_29_code
def yJ11_lowSurrogate_5068e : MethodName := ⟨RJ11, "lowSurrogate", "(I)C"⟩
def RJx8e188 : String := "java/lang/Cloneable"
def TJx8e188 : u_T := fun k => match k with
  | _ => ("", "", "", false)
def tyJx8e188 : Nat → FieldType := fun k => match k with
  | _ => .int
abbrev wsJx8e1880 : List Cond := u_ws RJx8e188 TJx8e188 0
theorem nmJx8e188 : ∀ a, a < 0 → ∀ b, b < 0 → a ≠ b → (TJx8e188 a).2.1 ≠ (TJx8e188 b).2.1 := by decide +kernel
theorem tyJx8e188_ok : ∀ k, k < 0 → parseFieldDescriptor (TJx8e188 k).2.2.1 = some (tyJx8e188 k) := by decide +kernel
def RJxb160c : String := "java/lang/Comparable"
def TJxb160c : u_T := fun k => match k with
  | _ => ("", "", "", false)
def tyJxb160c : Nat → FieldType := fun k => match k with
  | _ => .int
abbrev wsJxb160c0 : List Cond := u_ws RJxb160c TJxb160c 0
theorem nmJxb160c : ∀ a, a < 0 → ∀ b, b < 0 → a ≠ b → (TJxb160c a).2.1 ≠ (TJxb160c b).2.1 := by decide +kernel
theorem tyJxb160c_ok : ∀ k, k < 0 → parseFieldDescriptor (TJxb160c k).2.2.1 = some (tyJxb160c k) := by decide +kernel
def RJxab1ab : String := "java/lang/Iterable"
def TJxab1ab : u_T := fun k => match k with
  | _ => ("", "", "", false)
def tyJxab1ab : Nat → FieldType := fun k => match k with
  | _ => .int
abbrev wsJxab1ab0 : List Cond := u_ws RJxab1ab TJxab1ab 0
theorem nmJxab1ab : ∀ a, a < 0 → ∀ b, b < 0 → a ≠ b → (TJxab1ab a).2.1 ≠ (TJxab1ab b).2.1 := by decide +kernel
theorem tyJxab1ab_ok : ∀ k, k < 0 → parseFieldDescriptor (TJxab1ab k).2.2.1 = some (tyJxab1ab k) := by decide +kernel
def RJ9 : String := "java/lang/Math"
def TJ9 : u_T := fun k => match k with
  | _ => ("", "", "", false)
def tyJ9 : Nat → FieldType := fun k => match k with
  | _ => .int
abbrev wsJ90 : List Cond := u_ws RJ9 TJ9 0
theorem nmJ9 : ∀ a, a < 0 → ∀ b, b < 0 → a ≠ b → (TJ9 a).2.1 ≠ (TJ9 b).2.1 := by decide +kernel
theorem tyJ9_ok : ∀ k, k < 0 → parseFieldDescriptor (TJ9 k).2.2.1 = some (tyJ9 k) := by decide +kernel
abbrev cJ9_floorMod_7cf53 : ByteArray := prog_28_method_50_code
def yJ9_floorMod_7cf53 : MethodName := ⟨RJ9, "floorMod", "(II)I"⟩
abbrev cJ9_abs_0f7a4 : ByteArray := prog_28_method_59_code
def yJ9_abs_0f7a4 : MethodName := ⟨RJ9, "abs", "(I)I"⟩
abbrev cJ9_max_7cf53 : ByteArray := prog_28_method_65_code
def yJ9_max_7cf53 : MethodName := ⟨RJ9, "max", "(II)I"⟩
abbrev cJ9_min_7cf53 : ByteArray := prog_28_method_69_code
def yJ9_min_7cf53 : MethodName := ⟨RJ9, "min", "(II)I"⟩
def RJ0 : String := "java/lang/String"
def TJ0 : u_T := fun k => match k with
  | 0 => ("java/lang/String", "value", "[B", true)
  | _ => ("java/lang/String", "coder", "B", true)
def tyJ0 : Nat → FieldType := fun k => match k with
  | 0 => .array .byte
  | _ => .byte
abbrev wsJ00 : List Cond := u_ws RJ0 TJ0 2
theorem nmJ0 : ∀ a, a < 2 → ∀ b, b < 2 → a ≠ b → (TJ0 a).2.1 ≠ (TJ0 b).2.1 := by decide +kernel
theorem tyJ0_ok : ∀ k, k < 2 → parseFieldDescriptor (TJ0 k).2.2.1 = some (tyJ0 k) := by decide +kernel
abbrev cJ0_length_8abf5 : ByteArray := prog_30_method_54_code
def yJ0_length_8abf5 : MethodName := ⟨RJ0, "length", "()I"⟩
abbrev cJ0_charAt_5068e : ByteArray := prog_30_method_56_code
def yJ0_charAt_5068e : MethodName := ⟨RJ0, "charAt", "(I)C"⟩
abbrev cJ0_indexOf_0f7a4 : ByteArray := prog_30_method_79_code
def yJ0_indexOf_0f7a4 : MethodName := ⟨RJ0, "indexOf", "(I)I"⟩
abbrev cJ0_indexOf_7cf53 : ByteArray := prog_30_method_80_code
def yJ0_indexOf_7cf53 : MethodName := ⟨RJ0, "indexOf", "(II)I"⟩
abbrev cJ0_coder_7d493 : ByteArray := prog_30_method_152_code
def yJ0_coder_7d493 : MethodName := ⟨RJ0, "coder", "()B"⟩
abbrev cJ0_isLatin1_aae02 : ByteArray := prog_30_method_154_code
def yJ0_isLatin1_aae02 : MethodName := ⟨RJ0, "isLatin1", "()Z"⟩
abbrev cJ0_checkIndex_df160 : ByteArray := prog_30_method_155_code
def yJ0_checkIndex_df160 : MethodName := ⟨RJ0, "checkIndex", "(II)V"⟩
abbrev cJ0_checkBoundsBeginEnd_23922 : ByteArray := prog_30_method_158_code
def yJ0_checkBoundsBeginEnd_23922 : MethodName := ⟨RJ0, "checkBoundsBeginEnd", "(III)V"⟩
def RJ1 : String := "java/lang/StringLatin1"
def TJ1 : u_T := fun k => match k with
  | _ => ("", "", "", false)
def tyJ1 : Nat → FieldType := fun k => match k with
  | _ => .int
abbrev wsJ10 : List Cond := u_ws RJ1 TJ1 0
theorem nmJ1 : ∀ a, a < 0 → ∀ b, b < 0 → a ≠ b → (TJ1 a).2.1 ≠ (TJ1 b).2.1 := by decide +kernel
theorem tyJ1_ok : ∀ k, k < 0 → parseFieldDescriptor (TJ1 k).2.2.1 = some (tyJ1 k) := by decide +kernel
abbrev cJ1_charAt_3b067 : ByteArray := prog_31_method_2_code
def yJ1_charAt_3b067 : MethodName := ⟨RJ1, "charAt", "([BI)C"⟩
abbrev cJ1_canEncode_9a6ad : ByteArray := prog_31_method_4_code
def yJ1_canEncode_9a6ad : MethodName := ⟨RJ1, "canEncode", "(I)Z"⟩
abbrev cJ1_indexOf_4cfef : ByteArray := prog_31_method_22_code
def yJ1_indexOf_4cfef : MethodName := ⟨RJ1, "indexOf", "([BIII)I"⟩
abbrev cJ1_indexOfChar_4cfef : ByteArray := prog_31_method_23_code
def yJ1_indexOfChar_4cfef : MethodName := ⟨RJ1, "indexOfChar", "([BIII)I"⟩
def RJ2 : String := "java/lang/StringUTF16"
def TJ2 : u_T := fun k => match k with
  | _ => ("", "", "", false)
def tyJ2 : Nat → FieldType := fun k => match k with
  | _ => .int
abbrev wsJ20 : List Cond := u_ws RJ2 TJ2 0
theorem nmJ2 : ∀ a, a < 0 → ∀ b, b < 0 → a ≠ b → (TJ2 a).2.1 ≠ (TJ2 b).2.1 := by decide +kernel
theorem tyJ2_ok : ∀ k, k < 0 → parseFieldDescriptor (TJ2 k).2.2.1 = some (tyJ2 k) := by decide +kernel
abbrev cJ2_getChar_3b067 : ByteArray := prog_32_method_5_code
def yJ2_getChar_3b067 : MethodName := ⟨RJ2, "getChar", "([BI)C"⟩
abbrev cJ2_length_9d52b : ByteArray := prog_32_method_6_code
def yJ2_length_9d52b : MethodName := ⟨RJ2, "length", "([B)I"⟩
abbrev cJ2_indexOf_4cfef : ByteArray := prog_32_method_40_code
def yJ2_indexOf_4cfef : MethodName := ⟨RJ2, "indexOf", "([BIII)I"⟩
abbrev cJ2_indexOfChar_4cfef : ByteArray := prog_32_method_47_code
def yJ2_indexOfChar_4cfef : MethodName := ⟨RJ2, "indexOfChar", "([BIII)I"⟩
abbrev cJ2_indexOfCharUnsafe_4cfef : ByteArray := prog_32_method_48_code
def yJ2_indexOfCharUnsafe_4cfef : MethodName := ⟨RJ2, "indexOfCharUnsafe", "([BIII)I"⟩
abbrev cJ2_indexOfSupplementary_4cfef : ByteArray := prog_32_method_49_code
def yJ2_indexOfSupplementary_4cfef : MethodName := ⟨RJ2, "indexOfSupplementary", "([BIII)I"⟩
abbrev cJ2_charAt_3b067 : ByteArray := prog_32_method_83_code
def yJ2_charAt_3b067 : MethodName := ⟨RJ2, "charAt", "([BI)C"⟩
abbrev cJ2_checkIndex_2214a : ByteArray := prog_32_method_91_code
def yJ2_checkIndex_2214a : MethodName := ⟨RJ2, "checkIndex", "(I[B)V"⟩
abbrev cJ2_checkBoundsBeginEnd_d044e : ByteArray := prog_32_method_93_code
def yJ2_checkBoundsBeginEnd_d044e : MethodName := ⟨RJ2, "checkBoundsBeginEnd", "(II[B)V"⟩
def RJ10 : String := "java/lang/System"
def TJ10 : u_T := fun k => match k with
  | _ => ("", "", "", false)
def tyJ10 : Nat → FieldType := fun k => match k with
  | _ => .int
abbrev wsJ100 : List Cond := u_ws RJ10 TJ10 0
theorem nmJ10 : ∀ a, a < 0 → ∀ b, b < 0 → a ≠ b → (TJ10 a).2.1 ≠ (TJ10 b).2.1 := by decide +kernel
theorem tyJ10_ok : ∀ k, k < 0 → parseFieldDescriptor (TJ10 k).2.2.1 = some (tyJ10 k) := by decide +kernel
def RJxfd54e : String := "java/lang/constant/Constable"
def TJxfd54e : u_T := fun k => match k with
  | _ => ("", "", "", false)
def tyJxfd54e : Nat → FieldType := fun k => match k with
  | _ => .int
abbrev wsJxfd54e0 : List Cond := u_ws RJxfd54e TJxfd54e 0
theorem nmJxfd54e : ∀ a, a < 0 → ∀ b, b < 0 → a ≠ b → (TJxfd54e a).2.1 ≠ (TJxfd54e b).2.1 := by decide +kernel
theorem tyJxfd54e_ok : ∀ k, k < 0 → parseFieldDescriptor (TJxfd54e k).2.2.1 = some (tyJxfd54e k) := by decide +kernel
def RJx3cf43 : String := "java/lang/constant/ConstantDesc"
def TJx3cf43 : u_T := fun k => match k with
  | _ => ("", "", "", false)
def tyJx3cf43 : Nat → FieldType := fun k => match k with
  | _ => .int
abbrev wsJx3cf430 : List Cond := u_ws RJx3cf43 TJx3cf43 0
theorem nmJx3cf43 : ∀ a, a < 0 → ∀ b, b < 0 → a ≠ b → (TJx3cf43 a).2.1 ≠ (TJx3cf43 b).2.1 := by decide +kernel
theorem tyJx3cf43_ok : ∀ k, k < 0 → parseFieldDescriptor (TJx3cf43 k).2.2.1 = some (tyJx3cf43 k) := by decide +kernel
def RJxa1e45 : String := "java/util/AbstractCollection"
def TJxa1e45 : u_T := fun k => match k with
  | _ => ("", "", "", false)
def tyJxa1e45 : Nat → FieldType := fun k => match k with
  | _ => .int
abbrev wsJxa1e450 : List Cond := u_ws RJxa1e45 TJxa1e45 0
theorem nmJxa1e45 : ∀ a, a < 0 → ∀ b, b < 0 → a ≠ b → (TJxa1e45 a).2.1 ≠ (TJxa1e45 b).2.1 := by decide +kernel
theorem tyJxa1e45_ok : ∀ k, k < 0 → parseFieldDescriptor (TJxa1e45 k).2.2.1 = some (tyJxa1e45 k) := by decide +kernel
abbrev cJxa1e45_init_da8c8 : ByteArray := prog_38_method_1_code
def yJxa1e45_init_da8c8 : MethodName := ⟨RJxa1e45, "<init>", "()V"⟩
def RJxc12de : String := "java/util/AbstractList"
def TJxc12de : u_T := fun k => match k with
  | _ => ("", "", "", false)
def tyJxc12de : Nat → FieldType := fun k => match k with
  | _ => .int
abbrev wsJxc12de0 : List Cond := u_ws RJxc12de TJxc12de 0
theorem nmJxc12de : ∀ a, a < 0 → ∀ b, b < 0 → a ≠ b → (TJxc12de a).2.1 ≠ (TJxc12de b).2.1 := by decide +kernel
theorem tyJxc12de_ok : ∀ k, k < 0 → parseFieldDescriptor (TJxc12de k).2.2.1 = some (tyJxc12de k) := by decide +kernel
abbrev cJxc12de_init_da8c8 : ByteArray := prog_39_method_1_code
def yJxc12de_init_da8c8 : MethodName := ⟨RJxc12de, "<init>", "()V"⟩
def RJx35411 : String := "java/util/ArrayList$Itr"
def TJx35411 : u_T := fun k => match k with
  | 0 => ("java/util/ArrayList$Itr", "cursor", "I", false)
  | 1 => ("java/util/ArrayList$Itr", "lastRet", "I", false)
  | 2 => ("java/util/ArrayList$Itr", "expectedModCount", "I", false)
  | _ => ("java/util/ArrayList$Itr", "this$0", "Ljava/util/ArrayList;", true)
def tyJx35411 : Nat → FieldType := fun k => match k with
  | 0 => .int
  | 1 => .int
  | 2 => .int
  | _ => .object "java/util/ArrayList"
abbrev wsJx354110 : List Cond := u_ws RJx35411 TJx35411 4
theorem nmJx35411 : ∀ a, a < 4 → ∀ b, b < 4 → a ≠ b → (TJx35411 a).2.1 ≠ (TJx35411 b).2.1 := by decide +kernel
theorem tyJx35411_ok : ∀ k, k < 4 → parseFieldDescriptor (TJx35411 k).2.2.1 = some (tyJx35411 k) := by decide +kernel
abbrev cJx35411_init_45d68 : ByteArray := prog_41_method_1_code
def yJx35411_init_45d68 : MethodName := ⟨RJx35411, "<init>", "(Ljava/util/ArrayList;)V"⟩
abbrev cJx35411_hasNext_aae02 : ByteArray := prog_41_method_2_code
def yJx35411_hasNext_aae02 : MethodName := ⟨RJx35411, "hasNext", "()Z"⟩
abbrev cJx35411_next_0502b : ByteArray := prog_41_method_3_code
def yJx35411_next_0502b : MethodName := ⟨RJx35411, "next", "()Ljava/lang/Object;"⟩
abbrev cJx35411_checkForComodification_da8c8 : ByteArray := prog_41_method_6_code
def yJx35411_checkForComodification_da8c8 : MethodName := ⟨RJx35411, "checkForComodification", "()V"⟩
def RJx4a65c : String := "java/util/ArrayList"
def TJx4a65c : u_T := fun k => match k with
  | 0 => ("java/util/AbstractList", "modCount", "I", false)
  | 1 => ("java/util/ArrayList", "elementData", "[Ljava/lang/Object;", false)
  | _ => ("java/util/ArrayList", "size", "I", false)
def tyJx4a65c : Nat → FieldType := fun k => match k with
  | 0 => .int
  | 1 => .array (.object "java/lang/Object")
  | _ => .int
abbrev wsJx4a65c0 : List Cond := u_ws RJx4a65c TJx4a65c 3
theorem nmJx4a65c : ∀ a, a < 3 → ∀ b, b < 3 → a ≠ b → (TJx4a65c a).2.1 ≠ (TJx4a65c b).2.1 := by decide +kernel
theorem tyJx4a65c_ok : ∀ k, k < 3 → parseFieldDescriptor (TJx4a65c k).2.2.1 = some (tyJx4a65c k) := by decide +kernel
abbrev cJx4a65c_init_da8c8 : ByteArray := prog_40_method_2_code
def yJx4a65c_init_da8c8 : MethodName := ⟨RJx4a65c, "<init>", "()V"⟩
abbrev cJx4a65c_grow_92f84 : ByteArray := prog_40_method_6_code
def yJx4a65c_grow_92f84 : MethodName := ⟨RJx4a65c, "grow", "(I)[Ljava/lang/Object;"⟩
abbrev cJx4a65c_grow_d5877 : ByteArray := prog_40_method_7_code
def yJx4a65c_grow_d5877 : MethodName := ⟨RJx4a65c, "grow", "()[Ljava/lang/Object;"⟩
abbrev cJx4a65c_size_8abf5 : ByteArray := prog_40_method_8_code
def yJx4a65c_size_8abf5 : MethodName := ⟨RJx4a65c, "size", "()I"⟩
abbrev cJx4a65c_isEmpty_aae02 : ByteArray := prog_40_method_9_code
def yJx4a65c_isEmpty_aae02 : MethodName := ⟨RJx4a65c, "isEmpty", "()Z"⟩
abbrev cJx4a65c_toArray_d5877 : ByteArray := prog_40_method_16_code
def yJx4a65c_toArray_d5877 : MethodName := ⟨RJx4a65c, "toArray", "()[Ljava/lang/Object;"⟩
abbrev cJx4a65c_elementData_915e3 : ByteArray := prog_40_method_18_code
def yJx4a65c_elementData_915e3 : MethodName := ⟨RJx4a65c, "elementData", "(I)Ljava/lang/Object;"⟩
abbrev cJx4a65c_get_915e3 : ByteArray := prog_40_method_20_code
def yJx4a65c_get_915e3 : MethodName := ⟨RJx4a65c, "get", "(I)Ljava/lang/Object;"⟩
abbrev cJx4a65c_add_72be8 : ByteArray := prog_40_method_24_code
def yJx4a65c_add_72be8 : MethodName := ⟨RJx4a65c, "add", "(Ljava/lang/Object;[Ljava/lang/Object;I)V"⟩
abbrev cJx4a65c_add_9ea2d : ByteArray := prog_40_method_25_code
def yJx4a65c_add_9ea2d : MethodName := ⟨RJx4a65c, "add", "(Ljava/lang/Object;)Z"⟩
abbrev cJx4a65c_remove_915e3 : ByteArray := prog_40_method_29_code
def yJx4a65c_remove_915e3 : MethodName := ⟨RJx4a65c, "remove", "(I)Ljava/lang/Object;"⟩
abbrev cJx4a65c_fastRemove_b59b0 : ByteArray := prog_40_method_39_code
def yJx4a65c_fastRemove_b59b0 : MethodName := ⟨RJx4a65c, "fastRemove", "([Ljava/lang/Object;I)V"⟩
abbrev cJx4a65c_addAll_f0b43 : ByteArray := prog_40_method_41_code
def yJx4a65c_addAll_f0b43 : MethodName := ⟨RJx4a65c, "addAll", "(Ljava/util/Collection;)Z"⟩
abbrev cJx4a65c_iterator_32c93 : ByteArray := prog_40_method_55_code
def yJx4a65c_iterator_32c93 : MethodName := ⟨RJx4a65c, "iterator", "()Ljava/util/Iterator;"⟩
def RJ7 : String := "java/util/Arrays"
def TJ7 : u_T := fun k => match k with
  | _ => ("", "", "", false)
def tyJ7 : Nat → FieldType := fun k => match k with
  | _ => .int
abbrev wsJ70 : List Cond := u_ws RJ7 TJ7 0
theorem nmJ7 : ∀ a, a < 0 → ∀ b, b < 0 → a ≠ b → (TJ7 a).2.1 ≠ (TJ7 b).2.1 := by decide +kernel
theorem tyJ7_ok : ∀ k, k < 0 → parseFieldDescriptor (TJ7 k).2.2.1 = some (tyJ7 k) := by decide +kernel
abbrev cJ7_copyOf_1904c : ByteArray := prog_42_method_119_code
def yJ7_copyOf_1904c : MethodName := ⟨RJ7, "copyOf", "([Ljava/lang/Object;I)[Ljava/lang/Object;"⟩
abbrev cJ7_copyOf_6403c : ByteArray := prog_42_method_120_code
def yJ7_copyOf_6403c : MethodName := ⟨RJ7, "copyOf", "([Ljava/lang/Object;ILjava/lang/Class;)[Ljava/lang/Object;"⟩
def RJx5ef63 : String := "java/util/Collection"
def TJx5ef63 : u_T := fun k => match k with
  | _ => ("", "", "", false)
def tyJx5ef63 : Nat → FieldType := fun k => match k with
  | _ => .int
abbrev wsJx5ef630 : List Cond := u_ws RJx5ef63 TJx5ef63 0
theorem nmJx5ef63 : ∀ a, a < 0 → ∀ b, b < 0 → a ≠ b → (TJx5ef63 a).2.1 ≠ (TJx5ef63 b).2.1 := by decide +kernel
theorem tyJx5ef63_ok : ∀ k, k < 0 → parseFieldDescriptor (TJx5ef63 k).2.2.1 = some (tyJx5ef63 k) := by decide +kernel
def RJx4d0d8 : String := "java/util/Iterator"
def TJx4d0d8 : u_T := fun k => match k with
  | _ => ("", "", "", false)
def tyJx4d0d8 : Nat → FieldType := fun k => match k with
  | _ => .int
abbrev wsJx4d0d80 : List Cond := u_ws RJx4d0d8 TJx4d0d8 0
theorem nmJx4d0d8 : ∀ a, a < 0 → ∀ b, b < 0 → a ≠ b → (TJx4d0d8 a).2.1 ≠ (TJx4d0d8 b).2.1 := by decide +kernel
theorem tyJx4d0d8_ok : ∀ k, k < 0 → parseFieldDescriptor (TJx4d0d8 k).2.2.1 = some (tyJx4d0d8 k) := by decide +kernel
def RJxbd725 : String := "java/util/List"
def TJxbd725 : u_T := fun k => match k with
  | _ => ("", "", "", false)
def tyJxbd725 : Nat → FieldType := fun k => match k with
  | _ => .int
abbrev wsJxbd7250 : List Cond := u_ws RJxbd725 TJxbd725 0
theorem nmJxbd725 : ∀ a, a < 0 → ∀ b, b < 0 → a ≠ b → (TJxbd725 a).2.1 ≠ (TJxbd725 b).2.1 := by decide +kernel
theorem tyJxbd725_ok : ∀ k, k < 0 → parseFieldDescriptor (TJxbd725 k).2.2.1 = some (tyJxbd725 k) := by decide +kernel
def RJ15 : String := "java/util/Objects"
def TJ15 : u_T := fun k => match k with
  | _ => ("", "", "", false)
def tyJ15 : Nat → FieldType := fun k => match k with
  | _ => .int
abbrev wsJ150 : List Cond := u_ws RJ15 TJ15 0
theorem nmJ15 : ∀ a, a < 0 → ∀ b, b < 0 → a ≠ b → (TJ15 a).2.1 ≠ (TJ15 b).2.1 := by decide +kernel
theorem tyJ15_ok : ∀ k, k < 0 → parseFieldDescriptor (TJ15 k).2.2.1 = some (tyJ15 k) := by decide +kernel
abbrev cJ15_checkIndex_7cf53 : ByteArray := prog_47_method_17_code
def yJ15_checkIndex_7cf53 : MethodName := ⟨RJ15, "checkIndex", "(II)I"⟩
def RJxf0a74 : String := "java/util/RandomAccess"
def TJxf0a74 : u_T := fun k => match k with
  | _ => ("", "", "", false)
def tyJxf0a74 : Nat → FieldType := fun k => match k with
  | _ => .int
abbrev wsJxf0a740 : List Cond := u_ws RJxf0a74 TJxf0a74 0
theorem nmJxf0a74 : ∀ a, a < 0 → ∀ b, b < 0 → a ≠ b → (TJxf0a74 a).2.1 ≠ (TJxf0a74 b).2.1 := by decide +kernel
theorem tyJxf0a74_ok : ∀ k, k < 0 → parseFieldDescriptor (TJxf0a74 k).2.2.1 = some (tyJxf0a74 k) := by decide +kernel
def RJxa66e6 : String := "java/util/SequencedCollection"
def TJxa66e6 : u_T := fun k => match k with
  | _ => ("", "", "", false)
def tyJxa66e6 : Nat → FieldType := fun k => match k with
  | _ => .int
abbrev wsJxa66e60 : List Cond := u_ws RJxa66e6 TJxa66e6 0
theorem nmJxa66e6 : ∀ a, a < 0 → ∀ b, b < 0 → a ≠ b → (TJxa66e6 a).2.1 ≠ (TJxa66e6 b).2.1 := by decide +kernel
theorem tyJxa66e6_ok : ∀ k, k < 0 → parseFieldDescriptor (TJxa66e6 k).2.2.1 = some (tyJxa66e6 k) := by decide +kernel
def RJ8 : String := "jdk/internal/util/ArraysSupport"
def TJ8 : u_T := fun k => match k with
  | _ => ("", "", "", false)
def tyJ8 : Nat → FieldType := fun k => match k with
  | _ => .int
abbrev wsJ80 : List Cond := u_ws RJ8 TJ8 0
theorem nmJ8 : ∀ a, a < 0 → ∀ b, b < 0 → a ≠ b → (TJ8 a).2.1 ≠ (TJ8 b).2.1 := by decide +kernel
theorem tyJ8_ok : ∀ k, k < 0 → parseFieldDescriptor (TJ8 k).2.2.1 = some (tyJ8 k) := by decide +kernel
abbrev cJ8_newLength_cabcc : ByteArray := prog_50_method_27_code
def yJ8_newLength_cabcc : MethodName := ⟨RJ8, "newLength", "(III)I"⟩
abbrev cJ8_hugeLength_7cf53 : ByteArray := prog_50_method_28_code
def yJ8_hugeLength_7cf53 : MethodName := ⟨RJ8, "hugeLength", "(II)I"⟩
def RJ3 : String := "jdk/internal/util/Preconditions"
def TJ3 : u_T := fun k => match k with
  | _ => ("", "", "", false)
def tyJ3 : Nat → FieldType := fun k => match k with
  | _ => .int
abbrev wsJ30 : List Cond := u_ws RJ3 TJ3 0
theorem nmJ3 : ∀ a, a < 0 → ∀ b, b < 0 → a ≠ b → (TJ3 a).2.1 ≠ (TJ3 b).2.1 := by decide +kernel
theorem tyJ3_ok : ∀ k, k < 0 → parseFieldDescriptor (TJ3 k).2.2.1 = some (tyJ3 k) := by decide +kernel
abbrev cJ3_checkIndex_8e157 : ByteArray := prog_51_method_11_code
def yJ3_checkIndex_8e157 : MethodName := ⟨RJ3, "checkIndex", "(IILjava/util/function/BiFunction;)I"⟩
abbrev cJ3_checkFromToIndex_8c36e : ByteArray := prog_51_method_12_code
def yJ3_checkFromToIndex_8c36e : MethodName := ⟨RJ3, "checkFromToIndex", "(IIILjava/util/function/BiFunction;)I"⟩
def RL : String := "BandworldLaw"
abbrev cL_setTemperature : ByteArray := method_3_code
def yL_setTemperature : MethodName := ⟨RL, "setTemperature", "(LBandworld;II[J)I"⟩
abbrev cL_getTemperature : ByteArray := method_4_code
def yL_getTemperature : MethodName := ⟨RL, "getTemperature", "(LBandworld;I[J)I"⟩
abbrev cL_setVapour : ByteArray := method_5_code
def yL_setVapour : MethodName := ⟨RL, "setVapour", "(LBandworld;III[J)I"⟩
abbrev cL_getVapour : ByteArray := method_6_code
def yL_getVapour : MethodName := ⟨RL, "getVapour", "(LBandworld;II[J)I"⟩
abbrev cL_getIce : ByteArray := method_7_code
def yL_getIce : MethodName := ⟨RL, "getIce", "(LBandworld;II[J)I"⟩
abbrev cL_deck : ByteArray := method_8_code
def yL_deck : MethodName := ⟨RL, "deck", "(LBandworld;I[J)I"⟩
abbrev cL_setCore : ByteArray := method_9_code
def yL_setCore : MethodName := ⟨RL, "setCore", "(LBandworld;I[J)I"⟩
abbrev cL_pressure : ByteArray := method_10_code
def yL_pressure : MethodName := ⟨RL, "pressure", "(LBandworld;I[D)I"⟩
abbrev cL_setTurning : ByteArray := method_11_code
def yL_setTurning : MethodName := ⟨RL, "setTurning", "(LBandworld;II[J)I"⟩
abbrev cL_getTurning : ByteArray := method_12_code
def yL_getTurning : MethodName := ⟨RL, "getTurning", "(LBandworld;I[J)I"⟩
abbrev cL_getWind : ByteArray := method_13_code
def yL_getWind : MethodName := ⟨RL, "getWind", "(LBandworld;I[J)I"⟩
abbrev cL_getShear : ByteArray := method_14_code
def yL_getShear : MethodName := ⟨RL, "getShear", "(LBandworld;I[J)I"⟩
abbrev cL_stir : ByteArray := method_15_code
def yL_stir : MethodName := ⟨RL, "stir", "(LBandworld;III[J)I"⟩
abbrev cL_setDrag : ByteArray := method_16_code
def yL_setDrag : MethodName := ⟨RL, "setDrag", "(LBandworld;I[J)I"⟩
abbrev cL_addStorm : ByteArray := method_17_code
def yL_addStorm : MethodName := ⟨RL, "addStorm", "(LBandworld;III[J)I"⟩
abbrev cL_nameStorm : ByteArray := method_18_code
def yL_nameStorm : MethodName := ⟨RL, "nameStorm", "(LBandworld;IC[J)I"⟩
abbrev cL_findName : ByteArray := method_19_code
def yL_findName : MethodName := ⟨RL, "findName", "(LBandworld;C[J)I"⟩
abbrev cL_getLongitude : ByteArray := method_20_code
def yL_getLongitude : MethodName := ⟨RL, "getLongitude", "(LBandworld;I[J)I"⟩
abbrev cL_getSize : ByteArray := method_21_code
def yL_getSize : MethodName := ⟨RL, "getSize", "(LBandworld;I[J)I"⟩
abbrev cL_getAge : ByteArray := method_22_code
def yL_getAge : MethodName := ⟨RL, "getAge", "(LBandworld;I[J)I"⟩
abbrev cL_isThere : ByteArray := method_23_code
def yL_isThere : MethodName := ⟨RL, "isThere", "(LBandworld;I[J)I"⟩
abbrev cL_livesIn : ByteArray := method_24_code
def yL_livesIn : MethodName := ⟨RL, "livesIn", "(LBandworld;I[J)I"⟩
abbrev cL_burst : ByteArray := method_25_code
def yL_burst : MethodName := ⟨RL, "burst", "(LBandworld;II[J)I"⟩
abbrev cL_strike : ByteArray := method_26_code
def yL_strike : MethodName := ⟨RL, "strike", "(LBandworld;III[J)I"⟩
abbrev cL_getWidth : ByteArray := method_27_code
def yL_getWidth : MethodName := ⟨RL, "getWidth", "(LBandworld;I[J)I"⟩
abbrev cL_scarTurns : ByteArray := method_28_code
def yL_scarTurns : MethodName := ⟨RL, "scarTurns", "(LBandworld;I[J)I"⟩
abbrev cL_turn : ByteArray := method_29_code
def yL_turn : MethodName := ⟨RL, "turn", "(LBandworld;I[J)I"⟩
abbrev cL_dropProbe : ByteArray := method_30_code
def yL_dropProbe : MethodName := ⟨RL, "dropProbe", "(LBandworld;IIIZ[J)I"⟩
abbrev cL_tick : ByteArray := method_31_code
def yL_tick : MethodName := ⟨RL, "tick", "(LBandworld;I[J)I"⟩
abbrev cL_sent : ByteArray := method_32_code
def yL_sent : MethodName := ⟨RL, "sent", "(LBandworld;I[J)I"⟩
abbrev cL_sentAt : ByteArray := method_33_code
def yL_sentAt : MethodName := ⟨RL, "sentAt", "(LBandworld;IIC[J)I"⟩
abbrev cL_lost : ByteArray := method_34_code
def yL_lost : MethodName := ⟨RL, "lost", "(LBandworld;I[J)I"⟩
abbrev cL_frame : ByteArray := method_35_code
def yL_frame : MethodName := ⟨RL, "frame", "(LBandworld;I[J)I"⟩
abbrev cL_countSeen : ByteArray := method_36_code
def yL_countSeen : MethodName := ⟨RL, "countSeen", "(LBandworld;I[J)I"⟩
abbrev cL_placeIn : ByteArray := method_37_code
def yL_placeIn : MethodName := ⟨RL, "placeIn", "(LBandworld;IC[J)I"⟩
abbrev cL_drift : ByteArray := method_38_code
def yL_drift : MethodName := ⟨RL, "drift", "(LBandworld;CII[D)I"⟩
abbrev cL_save : ByteArray := method_39_code
def yL_save : MethodName := ⟨RL, "save", "(LBandworld;[J)I"⟩
abbrev cL_load : ByteArray := method_40_code
def yL_load : MethodName := ⟨RL, "load", "(LBandworld;I[J)I"⟩
abbrev cL_happening : ByteArray := method_41_code
def yL_happening : MethodName := ⟨RL, "happening", "(LBandworld;I[J)I"⟩
abbrev cL_happenedTo : ByteArray := method_42_code
def yL_happenedTo : MethodName := ⟨RL, "happenedTo", "(LBandworld;I[J)I"⟩
abbrev cL_thereShare : ByteArray := method_43_code
def yL_thereShare : MethodName := ⟨RL, "thereShare", "(LBandworld;[D)I"⟩
abbrev cL_law : ByteArray := code
def yL_law : MethodName := ⟨RL, "law", "([I)Z"⟩
abbrev vwCl : List vw_C := [(RJ0, TJ0, 2), (RJx00060, TJx00060, 6), (RJx35411, TJx35411, 4), (RJx4a65c, TJx4a65c, 3), (RX0, TX0, 4), (RX1, TX1, 8), (RX2, TX2, 4), (RX3, TX3, 3), (RX4, TX4, 15), (RX5, TX5, 4), (RX6, TX6, 8), (RX7, TX7, 6), (RX8, TX8, 9), (RX9, TX9, 2), (RX10, TX10, 10), (RX11, TX11, 7), (RX12, TX12, 12), (RX13, TX13, 5)]
