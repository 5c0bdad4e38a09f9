def RX0 : String := "FireEngines$Engine"
def TX0 : u_T := fun k => match k with
  | 0 => ("FireEngines$Engine", "cell", "I", false)
  | 1 => ("FireEngines$Engine", "horses", "I", false)
  | 2 => ("FireEngines$Engine", "power", "I", false)
  | 3 => ("FireEngines$Engine", "coal", "I", false)
  | 4 => ("FireEngines$Engine", "steam", "I", false)
  | 5 => ("FireEngines$Engine", "minutesLeft", "I", false)
  | 6 => ("FireEngines$Engine", "goal", "I", false)
  | 7 => ("FireEngines$Engine", "hose", "I", false)
  | 8 => ("FireEngines$Engine", "came", "I", false)
  | 9 => ("FireEngines$Engine", "gave", "I", false)
  | _ => ("FireEngines$Engine", "asked", "Z", false)
def tyX0 : Nat → FieldType := fun k => match k with
  | 0 => .int
  | 1 => .int
  | 2 => .int
  | 3 => .int
  | 4 => .int
  | 5 => .int
  | 6 => .int
  | 7 => .int
  | 8 => .int
  | 9 => .int
  | _ => .boolean
abbrev wsX00 : List Cond := u_ws RX0 TX0 11
theorem nmX0 : ∀ a, a < 11 → ∀ b, b < 11 → a ≠ b → (TX0 a).2.1 ≠ (TX0 b).2.1 := by decide +kernel
theorem tyX0_ok : ∀ k, k < 11 → parseFieldDescriptor (TX0 k).2.2.1 = some (tyX0 k) := by decide +kernel
abbrev cX0_init : ByteArray := prog_2_method_1_code
def yX0_init : MethodName := ⟨RX0, "<init>", "(III)V"⟩
abbrev cX0_copyFrom : ByteArray := prog_2_method_2_code
def yX0_copyFrom : MethodName := ⟨RX0, "copyFrom", "(LFireEngines$Engine;)V"⟩
abbrev cX0_stands : ByteArray := prog_2_method_3_code
def yX0_stands : MethodName := ⟨RX0, "stands", "()Z"⟩
abbrev cX0_canPump : ByteArray := prog_2_method_4_code
def yX0_canPump : MethodName := ⟨RX0, "canPump", "()I"⟩
abbrev cX0_setOut : ByteArray := prog_2_method_5_code
def yX0_setOut : MethodName := ⟨RX0, "setOut", "(II)V"⟩
abbrev cX0_fire : ByteArray := prog_2_method_6_code
def yX0_fire : MethodName := ⟨RX0, "fire", "()V"⟩
abbrev cX0_driveAMinute : ByteArray := prog_2_method_7_code
def yX0_driveAMinute : MethodName := ⟨RX0, "driveAMinute", "()V"⟩
abbrev cX0_spendSteam : ByteArray := prog_2_method_8_code
def yX0_spendSteam : MethodName := ⟨RX0, "spendSteam", "()V"⟩
def RX1 : String := "FireEngines$Ground"
def TX1 : u_T := fun k => match k with
  | 0 => ("FireEngines$Ground", "kinds", "[I", true)
  | 1 => ("FireEngines$Ground", "numbers", "[I", true)
  | _ => ("FireEngines$Ground", "steps", "[I", true)
def tyX1 : Nat → FieldType := fun k => match k with
  | 0 => .array .int
  | 1 => .array .int
  | _ => .array .int
abbrev wsX10 : List Cond := u_ws RX1 TX1 3
theorem nmX1 : ∀ a, a < 3 → ∀ b, b < 3 → a ≠ b → (TX1 a).2.1 ≠ (TX1 b).2.1 := by decide +kernel
theorem tyX1_ok : ∀ k, k < 3 → parseFieldDescriptor (TX1 k).2.2.1 = some (tyX1 k) := by decide +kernel
abbrev cX1_init : ByteArray := prog_3_method_1_code
def yX1_init : MethodName := ⟨RX1, "<init>", "()V"⟩
abbrev cX1_put : ByteArray := prog_3_method_2_code
def yX1_put : MethodName := ⟨RX1, "put", "(III)V"⟩
abbrev cX1_kindOf : ByteArray := prog_3_method_3_code
def yX1_kindOf : MethodName := ⟨RX1, "kindOf", "(I)I"⟩
abbrev cX1_isStreet : ByteArray := prog_3_method_5_code
def yX1_isStreet : MethodName := ⟨RX1, "isStreet", "(I)Z"⟩
abbrev cX1_stepsBetween : ByteArray := prog_3_method_6_code
def yX1_stepsBetween : MethodName := ⟨RX1, "stepsBetween", "(II)I"⟩
abbrev cX1_spread : ByteArray := prog_3_method_7_code
def yX1_spread : MethodName := ⟨RX1, "spread", "(I)I"⟩
abbrev cX1_enter : ByteArray := prog_3_method_8_code
def yX1_enter : MethodName := ⟨RX1, "enter", "(III)I"⟩
def RX2 : String := "FireEngines$House"
def TX2 : u_T := fun k => match k with
  | 0 => ("FireEngines$House", "cell", "I", false)
  | 1 => ("FireEngines$House", "wood", "I", false)
  | 2 => ("FireEngines$House", "walls", "I", false)
  | 3 => ("FireEngines$House", "state", "I", false)
  | 4 => ("FireEngines$House", "heat", "I", false)
  | 5 => ("FireEngines$House", "came", "I", false)
  | _ => ("FireEngines$House", "cameInAll", "I", false)
def tyX2 : Nat → FieldType := fun k => match k with
  | 0 => .int
  | 1 => .int
  | 2 => .int
  | 3 => .int
  | 4 => .int
  | 5 => .int
  | _ => .int
abbrev wsX20 : List Cond := u_ws RX2 TX2 7
theorem nmX2 : ∀ a, a < 7 → ∀ b, b < 7 → a ≠ b → (TX2 a).2.1 ≠ (TX2 b).2.1 := by decide +kernel
theorem tyX2_ok : ∀ k, k < 7 → parseFieldDescriptor (TX2 k).2.2.1 = some (tyX2 k) := by decide +kernel
abbrev cX2_init : ByteArray := prog_4_method_1_code
def yX2_init : MethodName := ⟨RX2, "<init>", "(III)V"⟩
abbrev cX2_copyFrom : ByteArray := prog_4_method_2_code
def yX2_copyFrom : MethodName := ⟨RX2, "copyFrom", "(LFireEngines$House;)V"⟩
abbrev cX2_catchFire : ByteArray := prog_4_method_3_code
def yX2_catchFire : MethodName := ⟨RX2, "catchFire", "(I)V"⟩
abbrev cX2_takeWater : ByteArray := prog_4_method_4_code
def yX2_takeWater : MethodName := ⟨RX2, "takeWater", "(I)V"⟩
abbrev cX2_burnAMinute : ByteArray := prog_4_method_5_code
def yX2_burnAMinute : MethodName := ⟨RX2, "burnAMinute", "()V"⟩
abbrev cX2_endFire : ByteArray := prog_4_method_6_code
def yX2_endFire : MethodName := ⟨RX2, "endFire", "(I)V"⟩
abbrev cX2_tell : ByteArray := prog_4_method_7_code
def yX2_tell : MethodName := ⟨RX2, "tell", "(I)I"⟩
def RX3 : String := "FireEngines$Pond"
def TX3 : u_T := fun k => match k with
  | 0 => ("FireEngines$Pond", "cell", "I", false)
  | _ => ("FireEngines$Pond", "water", "I", false)
def tyX3 : Nat → FieldType := fun k => match k with
  | 0 => .int
  | _ => .int
abbrev wsX30 : List Cond := u_ws RX3 TX3 2
theorem nmX3 : ∀ a, a < 2 → ∀ b, b < 2 → a ≠ b → (TX3 a).2.1 ≠ (TX3 b).2.1 := by decide +kernel
theorem tyX3_ok : ∀ k, k < 2 → parseFieldDescriptor (TX3 k).2.2.1 = some (tyX3 k) := by decide +kernel
abbrev cX3_init : ByteArray := prog_5_method_1_code
def yX3_init : MethodName := ⟨RX3, "<init>", "(II)V"⟩
abbrev cX3_copyFrom : ByteArray := prog_5_method_2_code
def yX3_copyFrom : MethodName := ⟨RX3, "copyFrom", "(LFireEngines$Pond;)V"⟩
abbrev cX3_giveUpTo : ByteArray := prog_5_method_3_code
def yX3_giveUpTo : MethodName := ⟨RX3, "giveUpTo", "(I)I"⟩
def RX4 : String := "FireEngines$Town"
def TX4 : u_T := fun k => match k with
  | 0 => ("FireEngines$Town", "minute", "I", false)
  | 1 => ("FireEngines$Town", "houses", "Ljava/util/ArrayList;", true)
  | 2 => ("FireEngines$Town", "ponds", "Ljava/util/ArrayList;", true)
  | _ => ("FireEngines$Town", "engines", "Ljava/util/ArrayList;", true)
def tyX4 : Nat → FieldType := fun k => match k with
  | 0 => .int
  | 1 => .object "java/util/ArrayList"
  | 2 => .object "java/util/ArrayList"
  | _ => .object "java/util/ArrayList"
abbrev wsX40 : List Cond := u_ws RX4 TX4 4
theorem nmX4 : ∀ a, a < 4 → ∀ b, b < 4 → a ≠ b → (TX4 a).2.1 ≠ (TX4 b).2.1 := by decide +kernel
theorem tyX4_ok : ∀ k, k < 4 → parseFieldDescriptor (TX4 k).2.2.1 = some (tyX4 k) := by decide +kernel
abbrev cX4_init : ByteArray := prog_6_method_1_code
def yX4_init : MethodName := ⟨RX4, "<init>", "()V"⟩
abbrev cX4_copyFrom : ByteArray := prog_6_method_2_code
def yX4_copyFrom : MethodName := ⟨RX4, "copyFrom", "(LFireEngines$Town;)V"⟩
abbrev cX4_tell : ByteArray := prog_6_method_3_code
def yX4_tell : MethodName := ⟨RX4, "tell", "(I)I"⟩
abbrev cX4_tellEngine : ByteArray := prog_6_method_4_code
def yX4_tellEngine : MethodName := ⟨RX4, "tellEngine", "(LFireEngines$Engine;I)I"⟩
abbrev cX4_housesThatAre : ByteArray := prog_6_method_5_code
def yX4_housesThatAre : MethodName := ⟨RX4, "housesThatAre", "(I)I"⟩
abbrev cX4_sumOverHouses : ByteArray := prog_6_method_6_code
def yX4_sumOverHouses : MethodName := ⟨RX4, "sumOverHouses", "(I)I"⟩
abbrev cX4_waterOfPonds : ByteArray := prog_6_method_7_code
def yX4_waterOfPonds : MethodName := ⟨RX4, "waterOfPonds", "()I"⟩
abbrev cX4_enginesOn : ByteArray := prog_6_method_8_code
def yX4_enginesOn : MethodName := ⟨RX4, "enginesOn", "(I)I"⟩
abbrev cX4_isGoal : ByteArray := prog_6_method_9_code
def yX4_isGoal : MethodName := ⟨RX4, "isGoal", "(I)Z"⟩
abbrev cX4_heatNear : ByteArray := prog_6_method_10_code
def yX4_heatNear : MethodName := ⟨RX4, "heatNear", "(I)I"⟩
abbrev cX4_pondBy : ByteArray := prog_6_method_11_code
def yX4_pondBy : MethodName := ⟨RX4, "pondBy", "(LFireEngines$Engine;)I"⟩
abbrev cX4_isEngine : ByteArray := prog_6_method_12_code
def yX4_isEngine : MethodName := ⟨RX4, "isEngine", "(I)Z"⟩
abbrev cX4_isHouse : ByteArray := prog_6_method_13_code
def yX4_isHouse : MethodName := ⟨RX4, "isHouse", "(I)Z"⟩
abbrev cX4_hosesLead : ByteArray := prog_6_method_14_code
def yX4_hosesLead : MethodName := ⟨RX4, "hosesLead", "(II)Z"⟩
abbrev cX4_takeUpHosesOfAndTo : ByteArray := prog_6_method_15_code
def yX4_takeUpHosesOfAndTo : MethodName := ⟨RX4, "takeUpHosesOfAndTo", "(I)V"⟩
abbrev cX4_goOn : ByteArray := prog_6_method_16_code
def yX4_goOn : MethodName := ⟨RX4, "goOn", "(I)I"⟩
abbrev cX4_fireAndDrive : ByteArray := prog_6_method_17_code
def yX4_fireAndDrive : MethodName := ⟨RX4, "fireAndDrive", "()V"⟩
abbrev cX4_moveWater : ByteArray := prog_6_method_18_code
def yX4_moveWater : MethodName := ⟨RX4, "moveWater", "()V"⟩
abbrev cX4_nextToAsk : ByteArray := prog_6_method_19_code
def yX4_nextToAsk : MethodName := ⟨RX4, "nextToAsk", "()I"⟩
abbrev cX4_waitsForWater : ByteArray := prog_6_method_20_code
def yX4_waitsForWater : MethodName := ⟨RX4, "waitsForWater", "(I)Z"⟩
abbrev cX4_ask : ByteArray := prog_6_method_21_code
def yX4_ask : MethodName := ⟨RX4, "ask", "(LFireEngines$Engine;)V"⟩
abbrev cX4_sendThroughHose : ByteArray := prog_6_method_22_code
def yX4_sendThroughHose : MethodName := ⟨RX4, "sendThroughHose", "(LFireEngines$Engine;)V"⟩
abbrev cX4_arriving : ByteArray := prog_6_method_23_code
def yX4_arriving : MethodName := ⟨RX4, "arriving", "(II)I"⟩
abbrev cX4_catchFire : ByteArray := prog_6_method_24_code
def yX4_catchFire : MethodName := ⟨RX4, "catchFire", "()I"⟩
def RX5 : String := "FireEngines"
def TX5 : u_T := fun k => match k with
  | 0 => ("FireEngines", "ground", "LFireEngines$Ground;", true)
  | 1 => ("FireEngines", "town", "LFireEngines$Town;", true)
  | _ => ("FireEngines", "ahead", "LFireEngines$Town;", true)
def tyX5 : Nat → FieldType := fun k => match k with
  | 0 => .object "FireEngines$Ground"
  | 1 => .object "FireEngines$Town"
  | _ => .object "FireEngines$Town"
abbrev wsX50 : List Cond := u_ws RX5 TX5 3
theorem nmX5 : ∀ a, a < 3 → ∀ b, b < 3 → a ≠ b → (TX5 a).2.1 ≠ (TX5 b).2.1 := by decide +kernel
theorem tyX5_ok : ∀ k, k < 3 → parseFieldDescriptor (TX5 k).2.2.1 = some (tyX5 k) := by decide +kernel
abbrev cX5_init : ByteArray := prog_1_method_1_code
def yX5_init : MethodName := ⟨RX5, "<init>", "()V"⟩
abbrev cX5_build : ByteArray := prog_1_method_2_code
def yX5_build : MethodName := ⟨RX5, "build", "(IIII)I"⟩
abbrev cX5_dig : ByteArray := prog_1_method_3_code
def yX5_dig : MethodName := ⟨RX5, "dig", "(III)I"⟩
abbrev cX5_light : ByteArray := prog_1_method_4_code
def yX5_light : MethodName := ⟨RX5, "light", "(II)I"⟩
abbrev cX5_house : ByteArray := prog_1_method_6_code
def yX5_house : MethodName := ⟨RX5, "house", "(II)I"⟩
abbrev cX5_addEngine : ByteArray := prog_1_method_7_code
def yX5_addEngine : MethodName := ⟨RX5, "addEngine", "(IIII)I"⟩
abbrev cX5_stoke : ByteArray := prog_1_method_8_code
def yX5_stoke : MethodName := ⟨RX5, "stoke", "(II)I"⟩
abbrev cX5_drive : ByteArray := prog_1_method_9_code
def yX5_drive : MethodName := ⟨RX5, "drive", "(III)I"⟩
abbrev cX5_relay : ByteArray := prog_1_method_10_code
def yX5_relay : MethodName := ⟨RX5, "relay", "(II)I"⟩
abbrev cX5_aim : ByteArray := prog_1_method_11_code
def yX5_aim : MethodName := ⟨RX5, "aim", "(II)I"⟩
abbrev cX5_takeUp : ByteArray := prog_1_method_12_code
def yX5_takeUp : MethodName := ⟨RX5, "takeUp", "(I)Z"⟩
abbrev cX5_engine : ByteArray := prog_1_method_13_code
def yX5_engine : MethodName := ⟨RX5, "engine", "(II)I"⟩
abbrev cX5_pond : ByteArray := prog_1_method_14_code
def yX5_pond : MethodName := ⟨RX5, "pond", "(I)I"⟩
abbrev cX5_pass : ByteArray := prog_1_method_15_code
def yX5_pass : MethodName := ⟨RX5, "pass", "(I)I"⟩
abbrev cX5_count : ByteArray := prog_1_method_16_code
def yX5_count : MethodName := ⟨RX5, "count", "(I)I"⟩
abbrev cX5_foresee : ByteArray := prog_1_method_17_code
def yX5_foresee : MethodName := ⟨RX5, "foresee", "(II)I"⟩
abbrev cX5_lasts : ByteArray := prog_1_method_18_code
def yX5_lasts : MethodName := ⟨RX5, "lasts", "()I"⟩
abbrev cX5_isFree : ByteArray := prog_1_method_24_code
def yX5_isFree : MethodName := ⟨RX5, "isFree", "(I)Z"⟩
abbrev cX5_requireHouse : ByteArray := prog_1_method_25_code
def yX5_requireHouse : MethodName := ⟨RX5, "requireHouse", "(I)V"⟩
abbrev cX5_requireEngine : ByteArray := prog_1_method_26_code
def yX5_requireEngine : MethodName := ⟨RX5, "requireEngine", "(I)V"⟩
abbrev cX5_requireCell : ByteArray := prog_1_method_27_code
def yX5_requireCell : MethodName := ⟨RX5, "requireCell", "(II)V"⟩
abbrev cX5_requireQuestion : ByteArray := prog_1_method_28_code
def yX5_requireQuestion : MethodName := ⟨RX5, "requireQuestion", "(II)V"⟩
abbrev cX5_requireRange : ByteArray := prog_1_method_29_code
def yX5_requireRange : MethodName := ⟨RX5, "requireRange", "(III)V"⟩
abbrev cX5_requireState : ByteArray := prog_1_method_30_code
def yX5_requireState : MethodName := ⟨RX5, "requireState", "(Z)V"⟩
abbrev cX5_isOnMap : ByteArray := prog_1_method_31_code
def yX5_isOnMap : MethodName := ⟨RX5, "isOnMap", "(II)Z"⟩
abbrev cX5_cellAt : ByteArray := prog_1_method_32_code
def yX5_cellAt : MethodName := ⟨RX5, "cellAt", "(II)I"⟩
abbrev cX5_distance : ByteArray := prog_1_method_33_code
def yX5_distance : MethodName := ⟨RX5, "distance", "(II)I"⟩
abbrev cX5_areNear : ByteArray := prog_1_method_34_code
def yX5_areNear : MethodName := ⟨RX5, "areNear", "(II)Z"⟩
def RX6 : String := "FireEnginesLaw$Engine"
def TX6 : u_T := fun k => match k with
  | 0 => ("FireEnginesLaw$Engine", "cell", "I", false)
  | 1 => ("FireEnginesLaw$Engine", "horses", "I", false)
  | 2 => ("FireEnginesLaw$Engine", "power", "I", false)
  | 3 => ("FireEnginesLaw$Engine", "coal", "I", false)
  | 4 => ("FireEnginesLaw$Engine", "steam", "I", false)
  | 5 => ("FireEnginesLaw$Engine", "left", "I", false)
  | 6 => ("FireEnginesLaw$Engine", "goal", "I", false)
  | 7 => ("FireEnginesLaw$Engine", "hose", "I", false)
  | _ => ("FireEnginesLaw$Engine", "gave", "I", false)
def tyX6 : Nat → FieldType := fun k => match k with
  | 0 => .int
  | 1 => .int
  | 2 => .int
  | 3 => .int
  | 4 => .int
  | 5 => .int
  | 6 => .int
  | 7 => .int
  | _ => .int
abbrev wsX60 : List Cond := u_ws RX6 TX6 9
theorem nmX6 : ∀ a, a < 9 → ∀ b, b < 9 → a ≠ b → (TX6 a).2.1 ≠ (TX6 b).2.1 := by decide +kernel
theorem tyX6_ok : ∀ k, k < 9 → parseFieldDescriptor (TX6 k).2.2.1 = some (tyX6 k) := by decide +kernel
abbrev cX6_init : ByteArray := prog_8_method_1_code
def yX6_init : MethodName := ⟨RX6, "<init>", "()V"⟩
abbrev cX6_pumps : ByteArray := prog_8_method_3_code
def yX6_pumps : MethodName := ⟨RX6, "pumps", "()I"⟩
def RX7 : String := "FireEnginesLaw$House"
def TX7 : u_T := fun k => match k with
  | 0 => ("FireEnginesLaw$House", "cell", "I", false)
  | 1 => ("FireEnginesLaw$House", "wood", "I", false)
  | 2 => ("FireEnginesLaw$House", "walls", "I", false)
  | 3 => ("FireEnginesLaw$House", "state", "I", false)
  | 4 => ("FireEnginesLaw$House", "heat", "I", false)
  | 5 => ("FireEnginesLaw$House", "now", "I", false)
  | _ => ("FireEnginesLaw$House", "all", "I", false)
def tyX7 : Nat → FieldType := fun k => match k with
  | 0 => .int
  | 1 => .int
  | 2 => .int
  | 3 => .int
  | 4 => .int
  | 5 => .int
  | _ => .int
abbrev wsX70 : List Cond := u_ws RX7 TX7 7
theorem nmX7 : ∀ a, a < 7 → ∀ b, b < 7 → a ≠ b → (TX7 a).2.1 ≠ (TX7 b).2.1 := by decide +kernel
theorem tyX7_ok : ∀ k, k < 7 → parseFieldDescriptor (TX7 k).2.2.1 = some (tyX7 k) := by decide +kernel
abbrev cX7_init : ByteArray := prog_9_method_1_code
def yX7_init : MethodName := ⟨RX7, "<init>", "()V"⟩
def RX8 : String := "FireEnginesLaw$Sim"
def TX8 : u_T := fun k => match k with
  | 0 => ("FireEnginesLaw$Sim", "minute", "I", false)
  | 1 => ("FireEnginesLaw$Sim", "houses", "[LFireEnginesLaw$House;", false)
  | 2 => ("FireEnginesLaw$Sim", "engines", "[LFireEnginesLaw$Engine;", false)
  | _ => ("FireEnginesLaw$Sim", "ponds", "[[I", false)
def tyX8 : Nat → FieldType := fun k => match k with
  | 0 => .int
  | 1 => .array (.object "FireEnginesLaw$House")
  | 2 => .array (.object "FireEnginesLaw$Engine")
  | _ => .array (.array .int)
abbrev wsX80 : List Cond := u_ws RX8 TX8 4
theorem nmX8 : ∀ a, a < 4 → ∀ b, b < 4 → a ≠ b → (TX8 a).2.1 ≠ (TX8 b).2.1 := by decide +kernel
theorem tyX8_ok : ∀ k, k < 4 → parseFieldDescriptor (TX8 k).2.2.1 = some (tyX8 k) := by decide +kernel
abbrev cX8_init : ByteArray := prog_10_method_1_code
def yX8_init : MethodName := ⟨RX8, "<init>", "()V"⟩
abbrev cX8_far : ByteArray := prog_10_method_3_code
def yX8_far : MethodName := ⟨RX8, "far", "(II)I"⟩
abbrev cX8_isNear : ByteArray := prog_10_method_4_code
def yX8_isNear : MethodName := ⟨RX8, "isNear", "(II)Z"⟩
abbrev cX8_build : ByteArray := prog_10_method_5_code
def yX8_build : MethodName := ⟨RX8, "build", "(III)V"⟩
abbrev cX8_come : ByteArray := prog_10_method_6_code
def yX8_come : MethodName := ⟨RX8, "come", "(III)V"⟩
abbrev cX8_dig : ByteArray := prog_10_method_7_code
def yX8_dig : MethodName := ⟨RX8, "dig", "(II)V"⟩
abbrev cX8_isStreet : ByteArray := prog_10_method_8_code
def yX8_isStreet : MethodName := ⟨RX8, "isStreet", "(I)Z"⟩
abbrev cX8_isFree : ByteArray := prog_10_method_9_code
def yX8_isFree : MethodName := ⟨RX8, "isFree", "(I)Z"⟩
abbrev cX8_way : ByteArray := prog_10_method_10_code
def yX8_way : MethodName := ⟨RX8, "way", "(II)I"⟩
abbrev cX8_source : ByteArray := prog_10_method_11_code
def yX8_source : MethodName := ⟨RX8, "source", "(LFireEnginesLaw$Engine;)I"⟩
abbrev cX8_leads : ByteArray := prog_10_method_12_code
def yX8_leads : MethodName := ⟨RX8, "leads", "(II)Z"⟩
abbrev cX8_heatNear : ByteArray := prog_10_method_13_code
def yX8_heatNear : MethodName := ⟨RX8, "heatNear", "(I)I"⟩
abbrev cX8_gives : ByteArray := prog_10_method_14_code
def yX8_gives : MethodName := ⟨RX8, "gives", "()[I"⟩
abbrev cX8_pass : ByteArray := prog_10_method_15_code
def yX8_pass : MethodName := ⟨RX8, "pass", "()I"⟩
abbrev cX8_with : ByteArray := prog_10_method_16_code
def yX8_with : MethodName := ⟨RX8, "with", "(I)I"⟩
def RX9 : String := "FireEnginesModel"
def TX9 : u_T := fun k => match k with
  | _ => ("", "", "", false)
def tyX9 : Nat → FieldType := fun k => match k with
  | _ => .int
abbrev wsX90 : List Cond := u_ws RX9 TX9 0
theorem nmX9 : ∀ a, a < 0 → ∀ b, b < 0 → a ≠ b → (TX9 a).2.1 ≠ (TX9 b).2.1 := by decide +kernel
theorem tyX9_ok : ∀ k, k < 0 → parseFieldDescriptor (TX9 k).2.2.1 = some (tyX9 k) := by decide +kernel
def RJx145de : String := "java/io/Serializable"
def TJx145de : u_T := fun k => match k with
  | _ => ("", "", "", false)
def tyJx145de : Nat → FieldType := fun k => match k with
  | _ => .int
abbrev wsJx145de0 : List Cond := u_ws RJx145de TJx145de 0
theorem nmJx145de : ∀ a, a < 0 → ∀ b, b < 0 → a ≠ b → (TJx145de a).2.1 ≠ (TJx145de b).2.1 := by decide +kernel
theorem tyJx145de_ok : ∀ k, k < 0 → parseFieldDescriptor (TJx145de k).2.2.1 = some (tyJx145de k) := by decide +kernel
def RJx8e188 : String := "java/lang/Cloneable"
def TJx8e188 : u_T := fun k => match k with
  | _ => ("", "", "", false)
def tyJx8e188 : Nat → FieldType := fun k => match k with
  | _ => .int
abbrev wsJx8e1880 : List Cond := u_ws RJx8e188 TJx8e188 0
theorem nmJx8e188 : ∀ a, a < 0 → ∀ b, b < 0 → a ≠ b → (TJx8e188 a).2.1 ≠ (TJx8e188 b).2.1 := by decide +kernel
theorem tyJx8e188_ok : ∀ k, k < 0 → parseFieldDescriptor (TJx8e188 k).2.2.1 = some (tyJx8e188 k) := by decide +kernel
def RJxab1ab : String := "java/lang/Iterable"
def TJxab1ab : u_T := fun k => match k with
  | _ => ("", "", "", false)
def tyJxab1ab : Nat → FieldType := fun k => match k with
  | _ => .int
abbrev wsJxab1ab0 : List Cond := u_ws RJxab1ab TJxab1ab 0
theorem nmJxab1ab : ∀ a, a < 0 → ∀ b, b < 0 → a ≠ b → (TJxab1ab a).2.1 ≠ (TJxab1ab b).2.1 := by decide +kernel
theorem tyJxab1ab_ok : ∀ k, k < 0 → parseFieldDescriptor (TJxab1ab k).2.2.1 = some (tyJxab1ab k) := by decide +kernel
def RJ9 : String := "java/lang/Math"
def TJ9 : u_T := fun k => match k with
  | _ => ("", "", "", false)
def tyJ9 : Nat → FieldType := fun k => match k with
  | _ => .int
abbrev wsJ90 : List Cond := u_ws RJ9 TJ9 0
theorem nmJ9 : ∀ a, a < 0 → ∀ b, b < 0 → a ≠ b → (TJ9 a).2.1 ≠ (TJ9 b).2.1 := by decide +kernel
theorem tyJ9_ok : ∀ k, k < 0 → parseFieldDescriptor (TJ9 k).2.2.1 = some (tyJ9 k) := by decide +kernel
abbrev cJ9_abs_0f7a4 : ByteArray := prog_19_method_59_code
def yJ9_abs_0f7a4 : MethodName := ⟨RJ9, "abs", "(I)I"⟩
abbrev cJ9_max_7cf53 : ByteArray := prog_19_method_65_code
def yJ9_max_7cf53 : MethodName := ⟨RJ9, "max", "(II)I"⟩
abbrev cJ9_min_7cf53 : ByteArray := prog_19_method_69_code
def yJ9_min_7cf53 : MethodName := ⟨RJ9, "min", "(II)I"⟩
def RJ0 : String := "java/lang/String"
def TJ0 : u_T := fun k => match k with
  | _ => ("", "", "", false)
def tyJ0 : Nat → FieldType := fun k => match k with
  | _ => .int
abbrev wsJ00 : List Cond := u_ws RJ0 TJ0 0
theorem nmJ0 : ∀ a, a < 0 → ∀ b, b < 0 → a ≠ b → (TJ0 a).2.1 ≠ (TJ0 b).2.1 := by decide +kernel
theorem tyJ0_ok : ∀ k, k < 0 → parseFieldDescriptor (TJ0 k).2.2.1 = some (tyJ0 k) := by decide +kernel
def RJ10 : String := "java/lang/System"
def TJ10 : u_T := fun k => match k with
  | _ => ("", "", "", false)
def tyJ10 : Nat → FieldType := fun k => match k with
  | _ => .int
abbrev wsJ100 : List Cond := u_ws RJ10 TJ10 0
theorem nmJ10 : ∀ a, a < 0 → ∀ b, b < 0 → a ≠ b → (TJ10 a).2.1 ≠ (TJ10 b).2.1 := by decide +kernel
theorem tyJ10_ok : ∀ k, k < 0 → parseFieldDescriptor (TJ10 k).2.2.1 = some (tyJ10 k) := by decide +kernel
def RJxa1e45 : String := "java/util/AbstractCollection"
def TJxa1e45 : u_T := fun k => match k with
  | _ => ("", "", "", false)
def tyJxa1e45 : Nat → FieldType := fun k => match k with
  | _ => .int
abbrev wsJxa1e450 : List Cond := u_ws RJxa1e45 TJxa1e45 0
theorem nmJxa1e45 : ∀ a, a < 0 → ∀ b, b < 0 → a ≠ b → (TJxa1e45 a).2.1 ≠ (TJxa1e45 b).2.1 := by decide +kernel
theorem tyJxa1e45_ok : ∀ k, k < 0 → parseFieldDescriptor (TJxa1e45 k).2.2.1 = some (tyJxa1e45 k) := by decide +kernel
abbrev cJxa1e45_init_da8c8 : ByteArray := prog_24_method_1_code
def yJxa1e45_init_da8c8 : MethodName := ⟨RJxa1e45, "<init>", "()V"⟩
def RJxc12de : String := "java/util/AbstractList"
def TJxc12de : u_T := fun k => match k with
  | _ => ("", "", "", false)
def tyJxc12de : Nat → FieldType := fun k => match k with
  | _ => .int
abbrev wsJxc12de0 : List Cond := u_ws RJxc12de TJxc12de 0
theorem nmJxc12de : ∀ a, a < 0 → ∀ b, b < 0 → a ≠ b → (TJxc12de a).2.1 ≠ (TJxc12de b).2.1 := by decide +kernel
theorem tyJxc12de_ok : ∀ k, k < 0 → parseFieldDescriptor (TJxc12de k).2.2.1 = some (tyJxc12de k) := by decide +kernel
abbrev cJxc12de_init_da8c8 : ByteArray := prog_25_method_1_code
def yJxc12de_init_da8c8 : MethodName := ⟨RJxc12de, "<init>", "()V"⟩
def RJx4a65c : String := "java/util/ArrayList"
def TJx4a65c : u_T := fun k => match k with
  | 0 => ("java/util/AbstractList", "modCount", "I", false)
  | 1 => ("java/util/ArrayList", "elementData", "[Ljava/lang/Object;", false)
  | _ => ("java/util/ArrayList", "size", "I", false)
def tyJx4a65c : Nat → FieldType := fun k => match k with
  | 0 => .int
  | 1 => .array (.object "java/lang/Object")
  | _ => .int
abbrev wsJx4a65c0 : List Cond := u_ws RJx4a65c TJx4a65c 3
theorem nmJx4a65c : ∀ a, a < 3 → ∀ b, b < 3 → a ≠ b → (TJx4a65c a).2.1 ≠ (TJx4a65c b).2.1 := by decide +kernel
theorem tyJx4a65c_ok : ∀ k, k < 3 → parseFieldDescriptor (TJx4a65c k).2.2.1 = some (tyJx4a65c k) := by decide +kernel
abbrev cJx4a65c_init_da8c8 : ByteArray := prog_26_method_2_code
def yJx4a65c_init_da8c8 : MethodName := ⟨RJx4a65c, "<init>", "()V"⟩
abbrev cJx4a65c_grow_92f84 : ByteArray := prog_26_method_6_code
def yJx4a65c_grow_92f84 : MethodName := ⟨RJx4a65c, "grow", "(I)[Ljava/lang/Object;"⟩
abbrev cJx4a65c_grow_d5877 : ByteArray := prog_26_method_7_code
def yJx4a65c_grow_d5877 : MethodName := ⟨RJx4a65c, "grow", "()[Ljava/lang/Object;"⟩
abbrev cJx4a65c_size_8abf5 : ByteArray := prog_26_method_8_code
def yJx4a65c_size_8abf5 : MethodName := ⟨RJx4a65c, "size", "()I"⟩
abbrev cJx4a65c_elementData_915e3 : ByteArray := prog_26_method_18_code
def yJx4a65c_elementData_915e3 : MethodName := ⟨RJx4a65c, "elementData", "(I)Ljava/lang/Object;"⟩
abbrev cJx4a65c_get_915e3 : ByteArray := prog_26_method_20_code
def yJx4a65c_get_915e3 : MethodName := ⟨RJx4a65c, "get", "(I)Ljava/lang/Object;"⟩
abbrev cJx4a65c_add_72be8 : ByteArray := prog_26_method_24_code
def yJx4a65c_add_72be8 : MethodName := ⟨RJx4a65c, "add", "(Ljava/lang/Object;[Ljava/lang/Object;I)V"⟩
abbrev cJx4a65c_add_9ea2d : ByteArray := prog_26_method_25_code
def yJx4a65c_add_9ea2d : MethodName := ⟨RJx4a65c, "add", "(Ljava/lang/Object;)Z"⟩
def RJ7 : String := "java/util/Arrays"
def TJ7 : u_T := fun k => match k with
  | _ => ("", "", "", false)
def tyJ7 : Nat → FieldType := fun k => match k with
  | _ => .int
abbrev wsJ70 : List Cond := u_ws RJ7 TJ7 0
theorem nmJ7 : ∀ a, a < 0 → ∀ b, b < 0 → a ≠ b → (TJ7 a).2.1 ≠ (TJ7 b).2.1 := by decide +kernel
theorem tyJ7_ok : ∀ k, k < 0 → parseFieldDescriptor (TJ7 k).2.2.1 = some (tyJ7 k) := by decide +kernel
abbrev cJ7_fill_53178 : ByteArray := prog_27_method_103_code
def yJ7_fill_53178 : MethodName := ⟨RJ7, "fill", "([II)V"⟩
abbrev cJ7_copyOf_1904c : ByteArray := prog_27_method_119_code
def yJ7_copyOf_1904c : MethodName := ⟨RJ7, "copyOf", "([Ljava/lang/Object;I)[Ljava/lang/Object;"⟩
abbrev cJ7_copyOf_6403c : ByteArray := prog_27_method_120_code
def yJ7_copyOf_6403c : MethodName := ⟨RJ7, "copyOf", "([Ljava/lang/Object;ILjava/lang/Class;)[Ljava/lang/Object;"⟩
def RJx5ef63 : String := "java/util/Collection"
def TJx5ef63 : u_T := fun k => match k with
  | _ => ("", "", "", false)
def tyJx5ef63 : Nat → FieldType := fun k => match k with
  | _ => .int
abbrev wsJx5ef630 : List Cond := u_ws RJx5ef63 TJx5ef63 0
theorem nmJx5ef63 : ∀ a, a < 0 → ∀ b, b < 0 → a ≠ b → (TJx5ef63 a).2.1 ≠ (TJx5ef63 b).2.1 := by decide +kernel
theorem tyJx5ef63_ok : ∀ k, k < 0 → parseFieldDescriptor (TJx5ef63 k).2.2.1 = some (tyJx5ef63 k) := by decide +kernel
def RJxbd725 : String := "java/util/List"
def TJxbd725 : u_T := fun k => match k with
  | _ => ("", "", "", false)
def tyJxbd725 : Nat → FieldType := fun k => match k with
  | _ => .int
abbrev wsJxbd7250 : List Cond := u_ws RJxbd725 TJxbd725 0
theorem nmJxbd725 : ∀ a, a < 0 → ∀ b, b < 0 → a ≠ b → (TJxbd725 a).2.1 ≠ (TJxbd725 b).2.1 := by decide +kernel
theorem tyJxbd725_ok : ∀ k, k < 0 → parseFieldDescriptor (TJxbd725 k).2.2.1 = some (tyJxbd725 k) := by decide +kernel
def RJ15 : String := "java/util/Objects"
def TJ15 : u_T := fun k => match k with
  | _ => ("", "", "", false)
def tyJ15 : Nat → FieldType := fun k => match k with
  | _ => .int
abbrev wsJ150 : List Cond := u_ws RJ15 TJ15 0
theorem nmJ15 : ∀ a, a < 0 → ∀ b, b < 0 → a ≠ b → (TJ15 a).2.1 ≠ (TJ15 b).2.1 := by decide +kernel
theorem tyJ15_ok : ∀ k, k < 0 → parseFieldDescriptor (TJ15 k).2.2.1 = some (tyJ15 k) := by decide +kernel
abbrev cJ15_checkIndex_7cf53 : ByteArray := prog_30_method_17_code
def yJ15_checkIndex_7cf53 : MethodName := ⟨RJ15, "checkIndex", "(II)I"⟩
def RJxf0a74 : String := "java/util/RandomAccess"
def TJxf0a74 : u_T := fun k => match k with
  | _ => ("", "", "", false)
def tyJxf0a74 : Nat → FieldType := fun k => match k with
  | _ => .int
abbrev wsJxf0a740 : List Cond := u_ws RJxf0a74 TJxf0a74 0
theorem nmJxf0a74 : ∀ a, a < 0 → ∀ b, b < 0 → a ≠ b → (TJxf0a74 a).2.1 ≠ (TJxf0a74 b).2.1 := by decide +kernel
theorem tyJxf0a74_ok : ∀ k, k < 0 → parseFieldDescriptor (TJxf0a74 k).2.2.1 = some (tyJxf0a74 k) := by decide +kernel
def RJxa66e6 : String := "java/util/SequencedCollection"
def TJxa66e6 : u_T := fun k => match k with
  | _ => ("", "", "", false)
def tyJxa66e6 : Nat → FieldType := fun k => match k with
  | _ => .int
abbrev wsJxa66e60 : List Cond := u_ws RJxa66e6 TJxa66e6 0
theorem nmJxa66e6 : ∀ a, a < 0 → ∀ b, b < 0 → a ≠ b → (TJxa66e6 a).2.1 ≠ (TJxa66e6 b).2.1 := by decide +kernel
theorem tyJxa66e6_ok : ∀ k, k < 0 → parseFieldDescriptor (TJxa66e6 k).2.2.1 = some (tyJxa66e6 k) := by decide +kernel
def RJ8 : String := "jdk/internal/util/ArraysSupport"
def TJ8 : u_T := fun k => match k with
  | _ => ("", "", "", false)
def tyJ8 : Nat → FieldType := fun k => match k with
  | _ => .int
abbrev wsJ80 : List Cond := u_ws RJ8 TJ8 0
theorem nmJ8 : ∀ a, a < 0 → ∀ b, b < 0 → a ≠ b → (TJ8 a).2.1 ≠ (TJ8 b).2.1 := by decide +kernel
theorem tyJ8_ok : ∀ k, k < 0 → parseFieldDescriptor (TJ8 k).2.2.1 = some (tyJ8 k) := by decide +kernel
abbrev cJ8_newLength_cabcc : ByteArray := prog_33_method_27_code
def yJ8_newLength_cabcc : MethodName := ⟨RJ8, "newLength", "(III)I"⟩
abbrev cJ8_hugeLength_7cf53 : ByteArray := prog_33_method_28_code
def yJ8_hugeLength_7cf53 : MethodName := ⟨RJ8, "hugeLength", "(II)I"⟩
def RJ3 : String := "jdk/internal/util/Preconditions"
def TJ3 : u_T := fun k => match k with
  | _ => ("", "", "", false)
def tyJ3 : Nat → FieldType := fun k => match k with
  | _ => .int
abbrev wsJ30 : List Cond := u_ws RJ3 TJ3 0
theorem nmJ3 : ∀ a, a < 0 → ∀ b, b < 0 → a ≠ b → (TJ3 a).2.1 ≠ (TJ3 b).2.1 := by decide +kernel
theorem tyJ3_ok : ∀ k, k < 0 → parseFieldDescriptor (TJ3 k).2.2.1 = some (tyJ3 k) := by decide +kernel
abbrev cJ3_checkIndex_8e157 : ByteArray := prog_34_method_11_code
def yJ3_checkIndex_8e157 : MethodName := ⟨RJ3, "checkIndex", "(IILjava/util/function/BiFunction;)I"⟩
def RL : String := "FireEnginesLaw"
abbrev cL_below : ByteArray := method_2_code
def yL_below : MethodName := ⟨RL, "below", "(II)I"⟩
abbrev cL_cell : ByteArray := method_3_code
def yL_cell : MethodName := ⟨RL, "cell", "([II)I"⟩
abbrev cL_build : ByteArray := method_4_code
def yL_build : MethodName := ⟨RL, "build", "(LFireEngines;[I)LFireEnginesLaw$Sim;"⟩
abbrev cL_light : ByteArray := method_5_code
def yL_light : MethodName := ⟨RL, "light", "(LFireEngines;LFireEnginesLaw$Sim;I)Z"⟩
abbrev cL_act : ByteArray := method_6_code
def yL_act : MethodName := ⟨RL, "act", "(LFireEngines;LFireEnginesLaw$Sim;I)Z"⟩
abbrev cL_law : ByteArray := code
def yL_law : MethodName := ⟨RL, "law", "([I)Z"⟩
abbrev vwCl : List vw_C := [(RJx4a65c, TJx4a65c, 3), (RX0, TX0, 11), (RX1, TX1, 3), (RX2, TX2, 7), (RX3, TX3, 2), (RX4, TX4, 4), (RX5, TX5, 3), (RX6, TX6, 9), (RX7, TX7, 7), (RX8, TX8, 4)]
