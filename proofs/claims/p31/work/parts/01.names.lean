/-! ===== BEGIN words of one list among another's, by their places ===== -/
theorem goodIn_r {big : List Cond} (ws : List Cond) (ps : List Nat) (hp : ws = ps.filterMap (fun i => big[i]?)) (h : ws.all goodWord = true) : GoodIn big ws := by
  intro w hw
  have h1 := List.all_eq_true.mp h w hw
  rw [hp] at hw
  obtain ⟨i, -, hi⟩ := List.mem_filterMap.mp hw
  have hm : w ∈ big := by first | exact List.mem_of_getElem? hi | exact List.getElem?_mem hi
  exact ⟨hm, good_of_word h1⟩
theorem goodIn_app {big a b : List Cond} (ha : GoodIn big a) (hb : GoodIn big b) : GoodIn big (a ++ b) := fun w h => (List.mem_append.mp h).elim (ha w) (hb w)
theorem goodIn_ca {big a b : List Cond} {c : Cond} (ha : GoodIn big (c :: a)) (hb : GoodIn big b) : GoodIn big (c :: (a ++ b)) := fun w h => (List.mem_cons.mp h).elim (fun e => ha w (List.mem_cons.mpr (Or.inl e))) (fun h => (List.mem_append.mp h).elim (fun h => ha w (List.mem_cons.mpr (Or.inr h))) (hb w))
theorem goodIn_sub {big ws : List Cond} (hm : ∀ w ∈ ws, w ∈ big) (h : ws.all goodWord = true) : GoodIn big ws := fun w hw => ⟨hm w hw, good_of_word (List.all_eq_true.mp h w hw)⟩
/-! ===== END ===== -/

/-! ===== BEGIN printed: names, fields, word lists, decode rows ===== -/
def RX0 : String := "DockingMonitor$ActText"
def TX0 : u_T := fun k => match k with
  | 0 => ("DockingMonitor$ActText", "length", "I", false)
  | _ => ("DockingMonitor$ActText", "bytes", "[B", true)
def tyX0 : Nat → FieldType := fun k => match k with
  | 0 => .int
  | _ => .array .byte
abbrev wsX00 : List Cond := u_ws RX0 TX0 2
theorem nmX0 : ∀ a, a < 2 → ∀ b, b < 2 → a ≠ b → (TX0 a).2.1 ≠ (TX0 b).2.1 := by decide +kernel
theorem tyX0_ok : ∀ k, k < 2 → parseFieldDescriptor (TX0 k).2.2.1 = some (tyX0 k) := by decide +kernel
abbrev cX0_init : ByteArray := prog_2_method_1_code
def yX0_init : MethodName := ⟨RX0, "<init>", "()V"⟩
def RX1 : String := "DockingMonitor$History"
def TX1 : u_T := fun k => match k with
  | 0 => ("DockingMonitor$History", "count", "I", false)
  | _ => ("DockingMonitor$History", "rows", "[LDockingMonitor$State;", true)
def tyX1 : Nat → FieldType := fun k => match k with
  | 0 => .int
  | _ => .array (.object "DockingMonitor$State")
abbrev wsX10 : List Cond := u_ws RX1 TX1 2
theorem nmX1 : ∀ a, a < 2 → ∀ b, b < 2 → a ≠ b → (TX1 a).2.1 ≠ (TX1 b).2.1 := by decide +kernel
theorem tyX1_ok : ∀ k, k < 2 → parseFieldDescriptor (TX1 k).2.2.1 = some (tyX1 k) := by decide +kernel
abbrev cX1_init : ByteArray := prog_3_method_1_code
def yX1_init : MethodName := ⟨RX1, "<init>", "()V"⟩
abbrev cX1_keep : ByteArray := prog_3_method_2_code
def yX1_keep : MethodName := ⟨RX1, "keep", "(LDockingMonitor$State;)V"⟩
abbrev cX1_dropOldest : ByteArray := prog_3_method_3_code
def yX1_dropOldest : MethodName := ⟨RX1, "dropOldest", "()V"⟩
abbrev cX1_takeLatest : ByteArray := prog_3_method_4_code
def yX1_takeLatest : MethodName := ⟨RX1, "takeLatest", "(LDockingMonitor$State;)V"⟩
def RX2 : String := "DockingMonitor$Profile"
def TX2 : u_T := fun k => match k with
  | 0 => ("DockingMonitor$Profile", "count", "I", false)
  | 1 => ("DockingMonitor$Profile", "distances", "[I", true)
  | _ => ("DockingMonitor$Profile", "speeds", "[I", true)
def tyX2 : Nat → FieldType := fun k => match k with
  | 0 => .int
  | 1 => .array .int
  | _ => .array .int
abbrev wsX20 : List Cond := u_ws RX2 TX2 3
theorem nmX2 : ∀ a, a < 3 → ∀ b, b < 3 → a ≠ b → (TX2 a).2.1 ≠ (TX2 b).2.1 := by decide +kernel
theorem tyX2_ok : ∀ k, k < 3 → parseFieldDescriptor (TX2 k).2.2.1 = some (tyX2 k) := by decide +kernel
abbrev cX2_init : ByteArray := prog_4_method_1_code
def yX2_init : MethodName := ⟨RX2, "<init>", "()V"⟩
abbrev cX2_copyFrom : ByteArray := prog_4_method_2_code
def yX2_copyFrom : MethodName := ⟨RX2, "copyFrom", "(LDockingMonitor$Profile;)V"⟩
abbrev cX2_hasRoomFor : ByteArray := prog_4_method_3_code
def yX2_hasRoomFor : MethodName := ⟨RX2, "hasRoomFor", "(I)Z"⟩
abbrev cX2_put : ByteArray := prog_4_method_4_code
def yX2_put : MethodName := ⟨RX2, "put", "(II)V"⟩
abbrev cX2_indexFor : ByteArray := prog_4_method_5_code
def yX2_indexFor : MethodName := ⟨RX2, "indexFor", "(I)I"⟩
abbrev cX2_limitAt : ByteArray := prog_4_method_6_code
def yX2_limitAt : MethodName := ⟨RX2, "limitAt", "(F)F"⟩
def RX3 : String := "DockingMonitor$Sensors"
def TX3 : u_T := fun k => match k with
  | 0 => ("DockingMonitor$Sensors", "farBias", "I", false)
  | 1 => ("DockingMonitor$Sensors", "nearBias", "I", false)
  | 2 => ("DockingMonitor$Sensors", "nearInUse", "Z", false)
  | 3 => ("DockingMonitor$Sensors", "agreements", "I", false)
  | _ => ("DockingMonitor$Sensors", "changes", "I", false)
def tyX3 : Nat → FieldType := fun k => match k with
  | 0 => .int
  | 1 => .int
  | 2 => .boolean
  | 3 => .int
  | _ => .int
abbrev wsX30 : List Cond := u_ws RX3 TX3 5
theorem nmX3 : ∀ a, a < 5 → ∀ b, b < 5 → a ≠ b → (TX3 a).2.1 ≠ (TX3 b).2.1 := by decide +kernel
theorem tyX3_ok : ∀ k, k < 5 → parseFieldDescriptor (TX3 k).2.2.1 = some (tyX3 k) := by decide +kernel
abbrev cX3_init : ByteArray := prog_5_method_1_code
def yX3_init : MethodName := ⟨RX3, "<init>", "()V"⟩
abbrev cX3_copyFrom : ByteArray := prog_5_method_2_code
def yX3_copyFrom : MethodName := ⟨RX3, "copyFrom", "(LDockingMonitor$Sensors;)V"⟩
abbrev cX3_startFar : ByteArray := prog_5_method_3_code
def yX3_startFar : MethodName := ⟨RX3, "startFar", "()V"⟩
abbrev cX3_farMeasured : ByteArray := prog_5_method_4_code
def yX3_farMeasured : MethodName := ⟨RX3, "farMeasured", "(F)F"⟩
abbrev cX3_nearMeasured : ByteArray := prog_5_method_5_code
def yX3_nearMeasured : MethodName := ⟨RX3, "nearMeasured", "(F)F"⟩
abbrev cX3_measured : ByteArray := prog_5_method_6_code
def yX3_measured : MethodName := ⟨RX3, "measured", "(F)F"⟩
abbrev cX3_compare : ByteArray := prog_5_method_7_code
def yX3_compare : MethodName := ⟨RX3, "compare", "(F)V"⟩
def RX4 : String := "DockingMonitor$State"
def TX4 : u_T := fun k => match k with
  | 0 => ("DockingMonitor$State", "x", "F", false)
  | 1 => ("DockingMonitor$State", "y", "F", false)
  | 2 => ("DockingMonitor$State", "vx", "F", false)
  | 3 => ("DockingMonitor$State", "vy", "F", false)
  | 4 => ("DockingMonitor$State", "mode", "I", false)
  | 5 => ("DockingMonitor$State", "heldStop", "I", false)
  | 6 => ("DockingMonitor$State", "holdDistance", "F", false)
  | 7 => ("DockingMonitor$State", "strikes", "I", false)
  | 8 => ("DockingMonitor$State", "seconds", "I", false)
  | 9 => ("DockingMonitor$State", "judgedRetreats", "I", false)
  | 10 => ("DockingMonitor$State", "settings", "[I", true)
  | 11 => ("DockingMonitor$State", "profile", "LDockingMonitor$Profile;", true)
  | 12 => ("DockingMonitor$State", "stops", "LDockingMonitor$Stops;", true)
  | _ => ("DockingMonitor$State", "sensors", "LDockingMonitor$Sensors;", true)
def tyX4 : Nat → FieldType := fun k => match k with
  | 0 => .float
  | 1 => .float
  | 2 => .float
  | 3 => .float
  | 4 => .int
  | 5 => .int
  | 6 => .float
  | 7 => .int
  | 8 => .int
  | 9 => .int
  | 10 => .array .int
  | 11 => .object "DockingMonitor$Profile"
  | 12 => .object "DockingMonitor$Stops"
  | _ => .object "DockingMonitor$Sensors"
abbrev wsX40 : List Cond := u_ws RX4 TX4 14
theorem nmX4 : ∀ a, a < 14 → ∀ b, b < 14 → a ≠ b → (TX4 a).2.1 ≠ (TX4 b).2.1 := by decide +kernel
theorem tyX4_ok : ∀ k, k < 14 → parseFieldDescriptor (TX4 k).2.2.1 = some (tyX4 k) := by decide +kernel
abbrev cX4_init : ByteArray := prog_6_method_1_code
def yX4_init : MethodName := ⟨RX4, "<init>", "()V"⟩
abbrev cX4_copyFrom : ByteArray := prog_6_method_2_code
def yX4_copyFrom : MethodName := ⟨RX4, "copyFrom", "(LDockingMonitor$State;)V"⟩
abbrev cX4_putShip : ByteArray := prog_6_method_3_code
def yX4_putShip : MethodName := ⟨RX4, "putShip", "(FFFF)V"⟩
abbrev cX4_enter : ByteArray := prog_6_method_4_code
def yX4_enter : MethodName := ⟨RX4, "enter", "(I)V"⟩
abbrev cX4_startApproach : ByteArray := prog_6_method_5_code
def yX4_startApproach : MethodName := ⟨RX4, "startApproach", "()V"⟩
abbrev cX4_hold : ByteArray := prog_6_method_6_code
def yX4_hold : MethodName := ⟨RX4, "hold", "(IF)V"⟩
abbrev cX4_hasArrived : ByteArray := prog_6_method_7_code
def yX4_hasArrived : MethodName := ⟨RX4, "hasArrived", "()Z"⟩
abbrev cX4_errorOf : ByteArray := prog_6_method_8_code
def yX4_errorOf : MethodName := ⟨RX4, "errorOf", "(II)I"⟩
abbrev cX4_carryOut : ByteArray := prog_6_method_9_code
def yX4_carryOut : MethodName := ⟨RX4, "carryOut", "(II)I"⟩
abbrev cX4_passSecond : ByteArray := prog_6_method_10_code
def yX4_passSecond : MethodName := ⟨RX4, "passSecond", "()V"⟩
abbrev cX4_accelerationAlong : ByteArray := prog_6_method_11_code
def yX4_accelerationAlong : MethodName := ⟨RX4, "accelerationAlong", "(F)F"⟩
abbrev cX4_accelerationAcross : ByteArray := prog_6_method_12_code
def yX4_accelerationAcross : MethodName := ⟨RX4, "accelerationAcross", "()F"⟩
abbrev cX4_heldToGreatest : ByteArray := prog_6_method_13_code
def yX4_heldToGreatest : MethodName := ⟨RX4, "heldToGreatest", "(F)F"⟩
abbrev cX4_wantedSpeed : ByteArray := prog_6_method_14_code
def yX4_wantedSpeed : MethodName := ⟨RX4, "wantedSpeed", "()F"⟩
abbrev cX4_arrive : ByteArray := prog_6_method_15_code
def yX4_arrive : MethodName := ⟨RX4, "arrive", "()V"⟩
abbrev cX4_holdAtStopReached : ByteArray := prog_6_method_16_code
def yX4_holdAtStopReached : MethodName := ⟨RX4, "holdAtStopReached", "()V"⟩
abbrev cX4_countStrikes : ByteArray := prog_6_method_17_code
def yX4_countStrikes : MethodName := ⟨RX4, "countStrikes", "(I)V"⟩
abbrev cX4_judge : ByteArray := prog_6_method_18_code
def yX4_judge : MethodName := ⟨RX4, "judge", "()I"⟩
abbrev cX4_isTooFast : ByteArray := prog_6_method_19_code
def yX4_isTooFast : MethodName := ⟨RX4, "isTooFast", "(F)Z"⟩
abbrev cX4_hasUnsafeDrift : ByteArray := prog_6_method_20_code
def yX4_hasUnsafeDrift : MethodName := ⟨RX4, "hasUnsafeDrift", "(F)Z"⟩
def RX5 : String := "DockingMonitor$Stops"
def TX5 : u_T := fun k => match k with
  | 0 => ("DockingMonitor$Stops", "count", "I", false)
  | 1 => ("DockingMonitor$Stops", "distances", "[I", true)
  | _ => ("DockingMonitor$Stops", "opened", "[Z", true)
def tyX5 : Nat → FieldType := fun k => match k with
  | 0 => .int
  | 1 => .array .int
  | _ => .array .boolean
abbrev wsX50 : List Cond := u_ws RX5 TX5 3
theorem nmX5 : ∀ a, a < 3 → ∀ b, b < 3 → a ≠ b → (TX5 a).2.1 ≠ (TX5 b).2.1 := by decide +kernel
theorem tyX5_ok : ∀ k, k < 3 → parseFieldDescriptor (TX5 k).2.2.1 = some (tyX5 k) := by decide +kernel
abbrev cX5_init : ByteArray := prog_7_method_1_code
def yX5_init : MethodName := ⟨RX5, "<init>", "()V"⟩
abbrev cX5_copyFrom : ByteArray := prog_7_method_2_code
def yX5_copyFrom : MethodName := ⟨RX5, "copyFrom", "(LDockingMonitor$Stops;)V"⟩
abbrev cX5_has : ByteArray := prog_7_method_3_code
def yX5_has : MethodName := ⟨RX5, "has", "(I)Z"⟩
abbrev cX5_metres : ByteArray := prog_7_method_4_code
def yX5_metres : MethodName := ⟨RX5, "metres", "(I)F"⟩
abbrev cX5_addClosed : ByteArray := prog_7_method_5_code
def yX5_addClosed : MethodName := ⟨RX5, "addClosed", "(I)I"⟩
abbrev cX5_errorOfOpening : ByteArray := prog_7_method_6_code
def yX5_errorOfOpening : MethodName := ⟨RX5, "errorOfOpening", "(I)I"⟩
abbrev cX5_markOpen : ByteArray := prog_7_method_7_code
def yX5_markOpen : MethodName := ⟨RX5, "markOpen", "(I)V"⟩
abbrev cX5_countClosed : ByteArray := prog_7_method_8_code
def yX5_countClosed : MethodName := ⟨RX5, "countClosed", "()I"⟩
abbrev cX5_nextBelow : ByteArray := prog_7_method_9_code
def yX5_nextBelow : MethodName := ⟨RX5, "nextBelow", "(F)I"⟩
abbrev cX5_closedNear : ByteArray := prog_7_method_10_code
def yX5_closedNear : MethodName := ⟨RX5, "closedNear", "(F)I"⟩
def RX6 : String := "DockingMonitor"
def TX6 : u_T := fun k => match k with
  | 0 => ("DockingMonitor", "present", "LDockingMonitor$State;", true)
  | 1 => ("DockingMonitor", "forecast", "LDockingMonitor$State;", true)
  | 2 => ("DockingMonitor", "history", "LDockingMonitor$History;", true)
  | 3 => ("DockingMonitor", "slots", "[LDockingMonitor$State;", true)
  | 4 => ("DockingMonitor", "slotFilled", "[Z", true)
  | _ => ("DockingMonitor", "text", "LDockingMonitor$ActText;", true)
def tyX6 : Nat → FieldType := fun k => match k with
  | 0 => .object "DockingMonitor$State"
  | 1 => .object "DockingMonitor$State"
  | 2 => .object "DockingMonitor$History"
  | 3 => .array (.object "DockingMonitor$State")
  | 4 => .array .boolean
  | _ => .object "DockingMonitor$ActText"
abbrev wsX60 : List Cond := u_ws RX6 TX6 6
theorem nmX6 : ∀ a, a < 6 → ∀ b, b < 6 → a ≠ b → (TX6 a).2.1 ≠ (TX6 b).2.1 := by decide +kernel
theorem tyX6_ok : ∀ k, k < 6 → parseFieldDescriptor (TX6 k).2.2.1 = some (tyX6 k) := by decide +kernel
abbrev cX6_init : ByteArray := prog_1_method_1_code
def yX6_init : MethodName := ⟨RX6, "<init>", "()V"⟩
abbrev cX6_place : ByteArray := prog_1_method_2_code
def yX6_place : MethodName := ⟨RX6, "place", "(IIII)I"⟩
abbrev cX6_set : ByteArray := prog_1_method_3_code
def yX6_set : MethodName := ⟨RX6, "set", "(II)I"⟩
abbrev cX6_setPoint : ByteArray := prog_1_method_4_code
def yX6_setPoint : MethodName := ⟨RX6, "setPoint", "(II)I"⟩
abbrev cX6_addStop : ByteArray := prog_1_method_5_code
def yX6_addStop : MethodName := ⟨RX6, "addStop", "(I)I"⟩
abbrev cX6_setBias : ByteArray := prog_1_method_6_code
def yX6_setBias : MethodName := ⟨RX6, "setBias", "(ZI)I"⟩
abbrev cX6_approach : ByteArray := prog_1_method_7_code
def yX6_approach : MethodName := ⟨RX6, "approach", "()I"⟩
abbrev cX6_release : ByteArray := prog_1_method_8_code
def yX6_release : MethodName := ⟨RX6, "release", "()I"⟩
abbrev cX6_retreat : ByteArray := prog_1_method_9_code
def yX6_retreat : MethodName := ⟨RX6, "retreat", "()I"⟩
abbrev cX6_open : ByteArray := prog_1_method_10_code
def yX6_open : MethodName := ⟨RX6, "open", "(I)I"⟩
abbrev cX6_pass : ByteArray := prog_1_method_11_code
def yX6_pass : MethodName := ⟨RX6, "pass", "(I)I"⟩
abbrev cX6_undo : ByteArray := prog_1_method_16_code
def yX6_undo : MethodName := ⟨RX6, "undo", "()I"⟩
abbrev cX6_save : ByteArray := prog_1_method_17_code
def yX6_save : MethodName := ⟨RX6, "save", "(I)I"⟩
abbrev cX6_restore : ByteArray := prog_1_method_18_code
def yX6_restore : MethodName := ⟨RX6, "restore", "(I)I"⟩
abbrev cX6_bits : ByteArray := prog_1_method_19_code
def yX6_bits : MethodName := ⟨RX6, "bits", "(I)I"⟩
abbrev cX6_judgement : ByteArray := prog_1_method_22_code
def yX6_judgement : MethodName := ⟨RX6, "judgement", "()I"⟩
abbrev cX6_stop : ByteArray := prog_1_method_23_code
def yX6_stop : MethodName := ⟨RX6, "stop", "(II)I"⟩
abbrev cX6_point : ByteArray := prog_1_method_24_code
def yX6_point : MethodName := ⟨RX6, "point", "(II)I"⟩
abbrev cX6_total : ByteArray := prog_1_method_25_code
def yX6_total : MethodName := ⟨RX6, "total", "(I)I"⟩
abbrev cX6_modeIn : ByteArray := prog_1_method_26_code
def yX6_modeIn : MethodName := ⟨RX6, "modeIn", "(I)I"⟩
abbrev cX6_secondsTo : ByteArray := prog_1_method_27_code
def yX6_secondsTo : MethodName := ⟨RX6, "secondsTo", "(I)I"⟩
abbrev cX6_actRecorded : ByteArray := prog_1_method_30_code
def yX6_actRecorded : MethodName := ⟨RX6, "actRecorded", "(II)I"⟩
abbrev cX6_settingAt : ByteArray := prog_1_method_31_code
def yX6_settingAt : MethodName := ⟨RX6, "settingAt", "(I)I"⟩
abbrev cX6_numberOfShip : ByteArray := prog_1_method_32_code
def yX6_numberOfShip : MethodName := ⟨RX6, "numberOfShip", "(I)F"⟩
abbrev cX6_isBeyond : ByteArray := prog_1_method_33_code
def yX6_isBeyond : MethodName := ⟨RX6, "isBeyond", "(II)Z"⟩
abbrev cX6_size : ByteArray := prog_1_method_34_code
def yX6_size : MethodName := ⟨RX6, "size", "(F)F"⟩
abbrev cX6_bitsOf : ByteArray := prog_1_method_35_code
def yX6_bitsOf : MethodName := ⟨RX6, "bitsOf", "(F)I"⟩
def RX7 : String := "DockingMonitorModel"
def TX7 : u_T := fun k => match k with
  | _ => ("", "", "", false)
def tyX7 : Nat → FieldType := fun k => match k with
  | _ => .int
abbrev wsX70 : List Cond := u_ws RX7 TX7 0
theorem nmX7 : ∀ a, a < 0 → ∀ b, b < 0 → a ≠ b → (TX7 a).2.1 ≠ (TX7 b).2.1 := by decide +kernel
theorem tyX7_ok : ∀ k, k < 0 → parseFieldDescriptor (TX7 k).2.2.1 = some (tyX7 k) := by decide +kernel
def RJ10 : String := "java/lang/System"
def TJ10 : u_T := fun k => match k with
  | _ => ("", "", "", false)
def tyJ10 : Nat → FieldType := fun k => match k with
  | _ => .int
abbrev wsJ100 : List Cond := u_ws RJ10 TJ10 0
theorem nmJ10 : ∀ a, a < 0 → ∀ b, b < 0 → a ≠ b → (TJ10 a).2.1 ≠ (TJ10 b).2.1 := by decide +kernel
theorem tyJ10_ok : ∀ k, k < 0 → parseFieldDescriptor (TJ10 k).2.2.1 = some (tyJ10 k) := by decide +kernel
def RL : String := "DockingMonitorLaw"
abbrev cL_cell : ByteArray := method_2_code
def yL_cell : MethodName := ⟨RL, "cell", "([II)I"⟩
abbrev cL_up : ByteArray := method_3_code
def yL_up : MethodName := ⟨RL, "up", "(II)I"⟩
abbrev cL_view : ByteArray := method_4_code
def yL_view : MethodName := ⟨RL, "view", "(LDockingMonitor;)J"⟩
abbrev cL_any : ByteArray := method_5_code
def yL_any : MethodName := ⟨RL, "any", "(LDockingMonitor;II)I"⟩
abbrev cL_turn : ByteArray := method_6_code
def yL_turn : MethodName := ⟨RL, "turn", "(LDockingMonitor;III)I"⟩
abbrev cL_isRight : ByteArray := method_7_code
def yL_isRight : MethodName := ⟨RL, "isRight", "(LDockingMonitor;)Z"⟩
abbrev cL_comesTrue : ByteArray := method_8_code
def yL_comesTrue : MethodName := ⟨RL, "comesTrue", "(LDockingMonitor;II)Z"⟩
abbrev cL_isUndone : ByteArray := method_9_code
def yL_isUndone : MethodName := ⟨RL, "isUndone", "(LDockingMonitor;IIIIJ)Z"⟩
abbrev cL_isSaved : ByteArray := method_10_code
def yL_isSaved : MethodName := ⟨RL, "isSaved", "(LDockingMonitor;II)Z"⟩
abbrev cL_law : ByteArray := code
def yL_law : MethodName := ⟨RL, "law", "([I)Z"⟩
def wsL_law_r1 : List Cond := [Cond.classLink RL 14 RX6, Cond.instantiable RX6 6, Cond.initialized RX6, Cond.methodLink RL 97 yX6_init, Cond.instanceMethod yX6_init, Cond.code yX6_init cX6_init 2 none, Cond.methodLink RX6 1 objectInit, Cond.instanceMethod objectInit, Cond.code objectInit ⟨#[0xb1]⟩ 1 none, Cond.classLink RX6 7 RX4, Cond.instantiable RX4 14, Cond.initialized RX4, Cond.fieldLink RX6 10 "DockingMonitor" "present" "LDockingMonitor$State;", Cond.fieldLink RX6 16 "DockingMonitor" "forecast" "LDockingMonitor$State;", Cond.classLink RX6 19 RX1, Cond.instantiable RX1 2, Cond.initialized RX1, Cond.fieldLink RX6 22 "DockingMonitor" "history" "LDockingMonitor$History;", Cond.fieldLink RX6 26 "DockingMonitor" "slots" "[LDockingMonitor$State;", Cond.arrayClass .boolean, Cond.fieldLink RX6 30 "DockingMonitor" "slotFilled" "[Z", Cond.classLink RX6 34 RX0, Cond.instantiable RX0 2, Cond.initialized RX0]
def wsL_law_r2 : List Cond := [Cond.fieldLink RX6 37 "DockingMonitor" "text" "LDockingMonitor$ActText;", Cond.methodLink RX6 9 yX4_init, Cond.instanceMethod yX4_init, Cond.code yX4_init cX4_init 1 none, Cond.methodLink RX4 3 objectInit, Cond.constantFloat RX4 9 (1120403456), Cond.fieldLink RX4 10 "DockingMonitor$State" "x" "F", Cond.fieldLink RX4 16 "DockingMonitor$State" "heldStop" "I", Cond.arrayClass .int, Cond.fieldLink RX4 20 "DockingMonitor$State" "settings" "[I", Cond.methodLink RX4 27 arraycopyName, Cond.native arraycopyName, Cond.static arraycopyName, Cond.initialized "java/lang/System", Cond.classLink RX4 33 RX2, Cond.instantiable RX2 3, Cond.initialized RX2, Cond.fieldLink RX4 36 "DockingMonitor$State" "profile" "LDockingMonitor$Profile;", Cond.classLink RX4 40 RX5, Cond.instantiable RX5 3, Cond.initialized RX5, Cond.fieldLink RX4 43 "DockingMonitor$State" "stops" "LDockingMonitor$Stops;", Cond.classLink RX4 47 RX3, Cond.instantiable RX3 5]
def wsL_law_r3 : List Cond := [Cond.initialized RX3, Cond.fieldLink RX4 50 "DockingMonitor$State" "sensors" "LDockingMonitor$Sensors;", Cond.methodLink RX4 35 yX2_init, Cond.instanceMethod yX2_init, Cond.code yX2_init cX2_init 1 none, Cond.methodLink RX2 3 objectInit, Cond.fieldLink RX2 9 "DockingMonitor$Profile" "distances" "[I", Cond.fieldLink RX2 15 "DockingMonitor$Profile" "speeds" "[I", Cond.methodLink RX4 42 yX5_init, Cond.instanceMethod yX5_init, Cond.code yX5_init cX5_init 1 none, Cond.methodLink RX5 3 objectInit, Cond.fieldLink RX5 9 "DockingMonitor$Stops" "distances" "[I", Cond.fieldLink RX5 15 "DockingMonitor$Stops" "opened" "[Z", Cond.instanceMethod yX3_init, Cond.code yX3_init cX3_init 1 none, Cond.methodLink RX3 1 objectInit, Cond.methodLink RX6 21 yX1_init, Cond.instanceMethod yX1_init, Cond.code yX1_init cX1_init 2 none, Cond.methodLink RX1 3 objectInit, Cond.classLink RX1 9 RX4, Cond.fieldLink RX1 11 "DockingMonitor$History" "rows" "[LDockingMonitor$State;", Cond.methodLink RX1 17 yX4_init]
def wsL_law_r4 : List Cond := [Cond.methodLink RX6 36 yX0_init, Cond.instanceMethod yX0_init, Cond.code yX0_init cX0_init 1 none, Cond.methodLink RX0 3 objectInit, Cond.arrayClass .byte, Cond.fieldLink RX0 9 "DockingMonitor$ActText" "bytes" "[B", Cond.methodLink RL 98 yL_cell, Cond.static yL_cell, Cond.initialized RL, Cond.code yL_cell cL_cell 2 (some .int), Cond.constant RL 7 (763049417), Cond.methodLink RL 77 yL_view, Cond.static yL_view, Cond.code yL_view cL_view 5 (some .long), Cond.constantLong RL 9 (7), Cond.constantLong RL 11 (31), Cond.methodLink RL 13 yX6_total, Cond.instanceMethod yX6_total, Cond.selects RX6 yX6_total yX6_total, Cond.code yX6_total cX6_total 2 (some .int), Cond.fieldLink RX6 151 "DockingMonitor$State" "mode" "I", Cond.fieldLink RX6 182 "DockingMonitor$State" "seconds" "I", Cond.fieldLink RX6 185 "DockingMonitor$State" "strikes" "I", Cond.fieldLink RX6 99 "DockingMonitor$State" "sensors" "LDockingMonitor$Sensors;"]
def wsL_law_r5 : List Cond := [Cond.fieldLink RX6 188 "DockingMonitor$Sensors" "agreements" "I", Cond.fieldLink RX6 111 "DockingMonitor$Sensors" "nearInUse" "Z", Cond.fieldLink RX6 88 "DockingMonitor$State" "stops" "LDockingMonitor$Stops;", Cond.fieldLink RX6 191 "DockingMonitor$State" "x" "F", Cond.fieldLink RX6 70 "DockingMonitor$State" "profile" "LDockingMonitor$Profile;", Cond.fieldLink RX6 84 "DockingMonitor$Profile" "count" "I", Cond.fieldLink RX6 92 "DockingMonitor$Stops" "count" "I", Cond.fieldLink RX6 144 "DockingMonitor$History" "count" "I", Cond.fieldLink RX6 119 "DockingMonitor$ActText" "length" "I", Cond.fieldLink RX6 201 "DockingMonitor$State" "judgedRetreats" "I", Cond.fieldLink RX6 204 "DockingMonitor$Sensors" "changes" "I", Cond.methodLink RX6 195 yX5_nextBelow, Cond.instanceMethod yX5_nextBelow, Cond.selects RX5 yX5_nextBelow yX5_nextBelow, Cond.code yX5_nextBelow cX5_nextBelow 5 (some .int), Cond.fieldLink RX5 19 "DockingMonitor$Stops" "count" "I", Cond.methodLink RX5 28 yX5_metres, Cond.instanceMethod yX5_metres, Cond.selects RX5 yX5_metres yX5_metres, Cond.code yX5_metres cX5_metres 2 (some .float), Cond.constantFloat RX5 23 (1120403456), Cond.methodLink RX6 198 yX5_countClosed, Cond.instanceMethod yX5_countClosed, Cond.selects RX5 yX5_countClosed yX5_countClosed]
def wsL_law_r6 : List Cond := [Cond.code yX5_countClosed cX5_countClosed 3 (some .int), Cond.methodLink RX6 207 yX6_settingAt, Cond.instanceMethod yX6_settingAt, Cond.selects RX6 yX6_settingAt yX6_settingAt, Cond.code yX6_settingAt cX6_settingAt 2 (some .int), Cond.fieldLink RX6 67 "DockingMonitor$State" "settings" "[I", Cond.methodLink RL 19 yX6_bits, Cond.instanceMethod yX6_bits, Cond.selects RX6 yX6_bits yX6_bits, Cond.code yX6_bits cX6_bits 2 (some .int), Cond.methodLink RX6 154 yX6_numberOfShip, Cond.instanceMethod yX6_numberOfShip, Cond.selects RX6 yX6_numberOfShip yX6_numberOfShip, Cond.code yX6_numberOfShip cX6_numberOfShip 3 (some .float), Cond.fieldLink RX6 223 "DockingMonitor$State" "y" "F", Cond.fieldLink RX6 226 "DockingMonitor$State" "vx" "F", Cond.fieldLink RX6 229 "DockingMonitor$State" "vy" "F", Cond.methodLink RX6 232 yX3_measured, Cond.instanceMethod yX3_measured, Cond.selects RX3 yX3_measured yX3_measured, Cond.code yX3_measured cX3_measured 2 (some .float), Cond.fieldLink RX3 16 "DockingMonitor$Sensors" "nearInUse" "Z", Cond.methodLink RX3 27 yX3_nearMeasured, Cond.instanceMethod yX3_nearMeasured]
def wsL_law_r7 : List Cond := [Cond.selects RX3 yX3_nearMeasured yX3_nearMeasured, Cond.code yX3_nearMeasured cX3_nearMeasured 2 (some .float), Cond.fieldLink RX3 13 "DockingMonitor$Sensors" "nearBias" "I", Cond.constantFloat RX3 26 (1120403456), Cond.methodLink RX3 31 yX3_farMeasured, Cond.instanceMethod yX3_farMeasured, Cond.selects RX3 yX3_farMeasured yX3_farMeasured, Cond.code yX3_farMeasured cX3_farMeasured 2 (some .float), Cond.fieldLink RX3 7 "DockingMonitor$Sensors" "farBias" "I", Cond.methodLink RX6 162 yX2_limitAt, Cond.instanceMethod yX2_limitAt, Cond.selects RX2 yX2_limitAt yX2_limitAt, Cond.code yX2_limitAt cX2_limitAt 7 (some .float), Cond.fieldLink RX2 18 "DockingMonitor$Profile" "count" "I", Cond.constantFloat RX2 32 (1056964608), Cond.constantFloat RX2 33 (1120403456), Cond.constantFloat RX2 34 (1148846080), Cond.methodLink RX6 235 yX3_farMeasured, Cond.methodLink RX6 238 yX3_nearMeasured, Cond.methodLink RX6 158 yX6_bitsOf, Cond.static yX6_bitsOf, Cond.code yX6_bitsOf cX6_bitsOf 4 (some .int), Cond.constantFloat RX6 244 (1258291200), Cond.constant RX6 245 (-2147483648)]
def wsL_law_r8 : List Cond := [Cond.methodLink RX6 241 yX6_size, Cond.static yX6_size, Cond.code yX6_size cX6_size 1 (some .float), Cond.methodLink RL 22 yX6_stop, Cond.instanceMethod yX6_stop, Cond.selects RX6 yX6_stop yX6_stop, Cond.code yX6_stop cX6_stop 4 (some .int), Cond.fieldLink RX6 169 "DockingMonitor$Stops" "distances" "[I", Cond.fieldLink RX6 172 "DockingMonitor$Stops" "opened" "[Z", Cond.fieldLink RX6 175 "DockingMonitor$State" "heldStop" "I", Cond.methodLink RX6 166 yX5_has, Cond.instanceMethod yX5_has, Cond.selects RX5 yX5_has yX5_has, Cond.code yX5_has cX5_has 2 (some .boolean), Cond.methodLink RL 26 yX6_point, Cond.instanceMethod yX6_point, Cond.selects RX6 yX6_point yX6_point, Cond.code yX6_point cX6_point 4 (some .int), Cond.fieldLink RX6 178 "DockingMonitor$Profile" "distances" "[I", Cond.fieldLink RX6 179 "DockingMonitor$Profile" "speeds" "[I", Cond.methodLink RL 29 yX6_judgement, Cond.instanceMethod yX6_judgement, Cond.selects RX6 yX6_judgement yX6_judgement, Cond.code yX6_judgement cX6_judgement 1 (some .int)]
def wsL_law_r9 : List Cond := [Cond.methodLink RX6 56 yX4_judge, Cond.instanceMethod yX4_judge, Cond.selects RX4 yX4_judge yX4_judge, Cond.code yX4_judge cX4_judge 2 (some .int), Cond.fieldLink RX4 54 "DockingMonitor$State" "y" "F", Cond.constantFloat RX4 151 (1148846080), Cond.fieldLink RX4 57 "DockingMonitor$State" "vx" "F", Cond.methodLink RX4 178 yX4_isTooFast, Cond.instanceMethod yX4_isTooFast, Cond.selects RX4 yX4_isTooFast yX4_isTooFast, Cond.code yX4_isTooFast cX4_isTooFast 2 (some .boolean), Cond.constantFloat RX4 185 (1008981770), Cond.methodLink RX4 157 yX2_limitAt, Cond.methodLink RX4 182 yX4_hasUnsafeDrift, Cond.instanceMethod yX4_hasUnsafeDrift, Cond.selects RX4 yX4_hasUnsafeDrift yX4_hasUnsafeDrift, Cond.code yX4_hasUnsafeDrift cX4_hasUnsafeDrift 9 (some .boolean), Cond.fieldLink RX4 60 "DockingMonitor$State" "vy" "F", Cond.methodLink RL 90 yL_turn, Cond.static yL_turn, Cond.code yL_turn cL_turn 4 (some .int), Cond.methodLink RL 59 yL_up, Cond.static yL_up, Cond.code yL_up cL_up 2 (some .int)]
def wsL_law_r10 : List Cond := [Cond.constant RL 8 (2147483647), Cond.methodLink RL 33 yX6_place, Cond.instanceMethod yX6_place, Cond.selects RX6 yX6_place yX6_place, Cond.code yX6_place cX6_place 5 (some .int), Cond.constant RX6 41 (100000), Cond.constantFloat RX6 50 (1120403456), Cond.constantFloat RX6 51 (1148846080), Cond.methodLink RX6 42 yX6_isBeyond, Cond.static yX6_isBeyond, Cond.code yX6_isBeyond cX6_isBeyond 2 (some .boolean), Cond.methodLink RX6 46 yX1_keep, Cond.instanceMethod yX1_keep, Cond.selects RX1 yX1_keep yX1_keep, Cond.code yX1_keep cX1_keep 2 none, Cond.fieldLink RX1 18 "DockingMonitor$History" "count" "I", Cond.methodLink RX1 22 yX1_dropOldest, Cond.instanceMethod yX1_dropOldest, Cond.selects RX1 yX1_dropOldest yX1_dropOldest, Cond.code yX1_dropOldest cX1_dropOldest 3 none, Cond.methodLink RX1 25 yX4_copyFrom, Cond.instanceMethod yX4_copyFrom, Cond.selects RX4 yX4_copyFrom yX4_copyFrom, Cond.code yX4_copyFrom cX4_copyFrom 2 none]
def wsL_law_r11 : List Cond := [Cond.fieldLink RX4 63 "DockingMonitor$State" "mode" "I", Cond.fieldLink RX4 66 "DockingMonitor$State" "holdDistance" "F", Cond.fieldLink RX4 69 "DockingMonitor$State" "strikes" "I", Cond.fieldLink RX4 72 "DockingMonitor$State" "seconds" "I", Cond.fieldLink RX4 75 "DockingMonitor$State" "judgedRetreats" "I", Cond.methodLink RX4 78 yX2_copyFrom, Cond.instanceMethod yX2_copyFrom, Cond.selects RX2 yX2_copyFrom yX2_copyFrom, Cond.code yX2_copyFrom cX2_copyFrom 2 none, Cond.methodLink RX2 22 arraycopyName, Cond.methodLink RX4 82 yX5_copyFrom, Cond.instanceMethod yX5_copyFrom, Cond.selects RX5 yX5_copyFrom yX5_copyFrom, Cond.code yX5_copyFrom cX5_copyFrom 3 none, Cond.methodLink RX4 85 yX3_copyFrom, Cond.instanceMethod yX3_copyFrom, Cond.selects RX3 yX3_copyFrom yX3_copyFrom, Cond.code yX3_copyFrom cX3_copyFrom 2 none, Cond.fieldLink RX3 20 "DockingMonitor$Sensors" "agreements" "I", Cond.fieldLink RX3 23 "DockingMonitor$Sensors" "changes" "I", Cond.methodLink RX6 52 yX4_putShip, Cond.instanceMethod yX4_putShip, Cond.selects RX4 yX4_putShip yX4_putShip, Cond.code yX4_putShip cX4_putShip 5 none]
def wsL_law_r12 : List Cond := [Cond.methodLink RX4 88 yX4_enter, Cond.instanceMethod yX4_enter, Cond.selects RX4 yX4_enter yX4_enter, Cond.code yX4_enter cX4_enter 2 none, Cond.methodLink RX4 92 yX3_startFar, Cond.instanceMethod yX3_startFar, Cond.selects RX3 yX3_startFar yX3_startFar, Cond.code yX3_startFar cX3_startFar 1 none, Cond.methodLink RL 37 yX6_set, Cond.instanceMethod yX6_set, Cond.selects RX6 yX6_set yX6_set, Cond.code yX6_set cX6_set 4 (some .int), Cond.fieldLink RX6 60 "DockingMonitor" "SETTING_LEAST" "[I", Cond.fieldLink RX6 64 "DockingMonitor" "SETTING_GREATEST" "[I", Cond.methodLink RL 40 yX6_setPoint, Cond.instanceMethod yX6_setPoint, Cond.selects RX6 yX6_setPoint yX6_setPoint, Cond.code yX6_setPoint cX6_setPoint 3 (some .int), Cond.methodLink RX6 74 yX2_hasRoomFor, Cond.instanceMethod yX2_hasRoomFor, Cond.selects RX2 yX2_hasRoomFor yX2_hasRoomFor, Cond.code yX2_hasRoomFor cX2_hasRoomFor 3 (some .boolean), Cond.methodLink RX2 28 yX2_indexFor, Cond.instanceMethod yX2_indexFor]
def wsL_law_r13 : List Cond := [Cond.selects RX2 yX2_indexFor yX2_indexFor, Cond.code yX2_indexFor cX2_indexFor 3 (some .int), Cond.methodLink RX6 80 yX2_put, Cond.instanceMethod yX2_put, Cond.selects RX2 yX2_put yX2_put, Cond.code yX2_put cX2_put 5 none, Cond.methodLink RL 43 yX6_addStop, Cond.instanceMethod yX6_addStop, Cond.selects RX6 yX6_addStop yX6_addStop, Cond.code yX6_addStop cX6_addStop 2 (some .int), Cond.methodLink RX6 95 yX5_addClosed, Cond.instanceMethod yX5_addClosed, Cond.selects RX5 yX5_addClosed yX5_addClosed, Cond.code yX5_addClosed cX5_addClosed 3 (some .int), Cond.methodLink RL 46 yX6_setBias, Cond.instanceMethod yX6_setBias, Cond.selects RX6 yX6_setBias yX6_setBias, Cond.code yX6_setBias cX6_setBias 4 (some .int), Cond.fieldLink RX6 103 "DockingMonitor$Sensors" "nearBias" "I", Cond.fieldLink RX6 108 "DockingMonitor$Sensors" "farBias" "I", Cond.methodLink RL 64 yX6_approach, Cond.instanceMethod yX6_approach, Cond.selects RX6 yX6_approach yX6_approach, Cond.code yX6_approach cX6_approach 1 (some .int)]
def wsL_law_r14 : List Cond := [Cond.methodLink RX6 115 yX6_actRecorded, Cond.instanceMethod yX6_actRecorded, Cond.selects RX6 yX6_actRecorded yX6_actRecorded, Cond.code yX6_actRecorded cX6_actRecorded 4 (some .int), Cond.methodLink RX6 135 yX4_errorOf, Cond.instanceMethod yX4_errorOf, Cond.selects RX4 yX4_errorOf yX4_errorOf, Cond.code yX4_errorOf cX4_errorOf 3 (some .int), Cond.methodLink RX4 95 yX4_hasArrived, Cond.instanceMethod yX4_hasArrived, Cond.selects RX4 yX4_hasArrived yX4_hasArrived, Cond.code yX4_hasArrived cX4_hasArrived 1 (some .boolean), Cond.methodLink RX4 99 yX5_errorOfOpening, Cond.instanceMethod yX5_errorOfOpening, Cond.selects RX5 yX5_errorOfOpening yX5_errorOfOpening, Cond.code yX5_errorOfOpening cX5_errorOfOpening 2 (some .int), Cond.methodLink RX5 24 yX5_has, Cond.methodLink RX6 138 yX4_carryOut, Cond.instanceMethod yX4_carryOut, Cond.selects RX4 yX4_carryOut yX4_carryOut, Cond.code yX4_carryOut cX4_carryOut 4 (some .int), Cond.methodLink RX4 103 yX4_startApproach, Cond.instanceMethod yX4_startApproach, Cond.selects RX4 yX4_startApproach yX4_startApproach]
def wsL_law_r15 : List Cond := [Cond.code yX4_startApproach cX4_startApproach 1 none, Cond.methodLink RX4 106 yX4_judge, Cond.methodLink RX4 110 yX5_markOpen, Cond.instanceMethod yX5_markOpen, Cond.selects RX5 yX5_markOpen yX5_markOpen, Cond.code yX5_markOpen cX5_markOpen 2 none, Cond.methodLink RX4 113 yX5_countClosed, Cond.methodLink RX4 116 yX4_passSecond, Cond.instanceMethod yX4_passSecond, Cond.selects RX4 yX4_passSecond yX4_passSecond, Cond.code yX4_passSecond cX4_passSecond 3 none, Cond.constantFloat RX4 143 (1112014848), Cond.methodLink RX4 119 yX4_wantedSpeed, Cond.instanceMethod yX4_wantedSpeed, Cond.selects RX4 yX4_wantedSpeed yX4_wantedSpeed, Cond.code yX4_wantedSpeed cX4_wantedSpeed 4 (some .float), Cond.constantFloat RX4 153 (1036831949), Cond.methodLink RX4 154 yX3_measured, Cond.methodLink RX4 160 yX5_nextBelow, Cond.methodLink RX4 164 yX5_has, Cond.methodLink RX4 168 yX5_metres, Cond.methodLink RX4 123 yX4_accelerationAlong, Cond.instanceMethod yX4_accelerationAlong, Cond.selects RX4 yX4_accelerationAlong yX4_accelerationAlong]
def wsL_law_r16 : List Cond := [Cond.code yX4_accelerationAlong cX4_accelerationAlong 4 (some .float), Cond.methodLink RX4 148 yX4_heldToGreatest, Cond.instanceMethod yX4_heldToGreatest, Cond.selects RX4 yX4_heldToGreatest yX4_heldToGreatest, Cond.code yX4_heldToGreatest cX4_heldToGreatest 3 (some .float), Cond.methodLink RX4 127 yX4_accelerationAcross, Cond.instanceMethod yX4_accelerationAcross, Cond.selects RX4 yX4_accelerationAcross yX4_accelerationAcross, Cond.code yX4_accelerationAcross cX4_accelerationAcross 1 (some .float), Cond.constantFloat RX4 152 (1028443341), Cond.methodLink RX4 130 yX4_arrive, Cond.instanceMethod yX4_arrive, Cond.selects RX4 yX4_arrive yX4_arrive, Cond.code yX4_arrive cX4_arrive 2 none, Cond.methodLink RX4 133 yX3_compare, Cond.instanceMethod yX3_compare, Cond.selects RX3 yX3_compare yX3_compare, Cond.code yX3_compare cX3_compare 4 none, Cond.constantFloat RX3 34 (1106247680), Cond.constantFloat RX3 40 (1056964608), Cond.methodLink RX4 137 yX4_holdAtStopReached, Cond.instanceMethod yX4_holdAtStopReached, Cond.selects RX4 yX4_holdAtStopReached yX4_holdAtStopReached, Cond.code yX4_holdAtStopReached cX4_holdAtStopReached 2 none]
def wsL_law_r17 : List Cond := [Cond.methodLink RX4 175 yX5_closedNear, Cond.instanceMethod yX5_closedNear, Cond.selects RX5 yX5_closedNear yX5_closedNear, Cond.code yX5_closedNear cX5_closedNear 3 (some .int), Cond.constantFloat RX5 36 (1045220557), Cond.methodLink RX4 144 yX4_hold, Cond.instanceMethod yX4_hold, Cond.selects RX4 yX4_hold yX4_hold, Cond.code yX4_hold cX4_hold 3 none, Cond.methodLink RX4 140 yX4_countStrikes, Cond.instanceMethod yX4_countStrikes, Cond.selects RX4 yX4_countStrikes yX4_countStrikes, Cond.code yX4_countStrikes cX4_countStrikes 2 none, Cond.methodLink RL 67 yX6_release, Cond.instanceMethod yX6_release, Cond.selects RX6 yX6_release yX6_release, Cond.code yX6_release cX6_release 1 (some .int), Cond.methodLink RL 70 yX6_retreat, Cond.instanceMethod yX6_retreat, Cond.selects RX6 yX6_retreat yX6_retreat, Cond.code yX6_retreat cX6_retreat 1 (some .int), Cond.methodLink RL 50 yX6_open, Cond.instanceMethod yX6_open, Cond.selects RX6 yX6_open yX6_open]
def wsL_law_r18 : List Cond := [Cond.code yX6_open cX6_open 2 (some .int), Cond.methodLink RL 53 yX6_pass, Cond.instanceMethod yX6_pass, Cond.selects RX6 yX6_pass yX6_pass, Cond.code yX6_pass cX6_pass 2 (some .int), Cond.methodLink RL 73 yL_any, Cond.static yL_any, Cond.code yL_any cL_any 3 (some .int), Cond.methodLink RL 56 yX6_restore, Cond.instanceMethod yX6_restore, Cond.selects RX6 yX6_restore yX6_restore, Cond.code yX6_restore cX6_restore 2 (some .int), Cond.methodLink RX6 148 yX4_copyFrom, Cond.methodLink RL 102 yL_isUndone, Cond.static yL_isUndone, Cond.code yL_isUndone cL_isUndone 8 (some .boolean), Cond.methodLink RL 87 yX6_undo, Cond.instanceMethod yX6_undo, Cond.selects RX6 yX6_undo yX6_undo, Cond.code yX6_undo cX6_undo 1 (some .int), Cond.methodLink RX6 145 yX1_takeLatest, Cond.instanceMethod yX1_takeLatest, Cond.selects RX1 yX1_takeLatest yX1_takeLatest, Cond.code yX1_takeLatest cX1_takeLatest 2 none]
def wsL_law_r19 : List Cond := [Cond.methodLink RL 106 yL_isRight, Cond.static yL_isRight, Cond.code yL_isRight cL_isRight 7 (some .boolean), Cond.methodLink RL 110 yL_isSaved, Cond.static yL_isSaved, Cond.code yL_isSaved cL_isSaved 6 (some .boolean), Cond.methodLink RL 94 yX6_save, Cond.instanceMethod yX6_save, Cond.selects RX6 yX6_save yX6_save, Cond.code yX6_save cX6_save 2 (some .int), Cond.methodLink RL 114 yL_comesTrue, Cond.static yL_comesTrue, Cond.code yL_comesTrue cL_comesTrue 11 (some .boolean), Cond.methodLink RL 81 yX6_modeIn, Cond.instanceMethod yX6_modeIn, Cond.selects RX6 yX6_modeIn yX6_modeIn, Cond.code yX6_modeIn cX6_modeIn 3 (some .int), Cond.methodLink RX6 210 yX4_passSecond, Cond.methodLink RL 84 yX6_secondsTo, Cond.instanceMethod yX6_secondsTo, Cond.selects RX6 yX6_secondsTo yX6_secondsTo, Cond.code yX6_secondsTo cX6_secondsTo 3 (some .int)]
def wsL_law : List Cond := (wsL_law_r1 ++ (wsL_law_r2 ++ (wsL_law_r3 ++ (wsL_law_r4 ++ (wsL_law_r5 ++ (wsL_law_r6 ++ (wsL_law_r7 ++ (wsL_law_r8 ++ (wsL_law_r9 ++ (wsL_law_r10 ++ (wsL_law_r11 ++ (wsL_law_r12 ++ (wsL_law_r13 ++ (wsL_law_r14 ++ (wsL_law_r15 ++ (wsL_law_r16 ++ (wsL_law_r17 ++ (wsL_law_r18 ++ wsL_law_r19)))))))))))))))))) ++ wsX60 ++ wsX40 ++ wsX10 ++ wsX00 ++ wsX20 ++ wsX50 ++ wsX30 ++ ([] : List Cond)
set_option maxRecDepth 20000 in
theorem inlX0 : ∀ w ∈ wsX00, w ∈ wsL_law := fun _ h => List.mem_append_left _ (List.mem_append_left _ (List.mem_append_left _ (List.mem_append_left _ (List.mem_append_right _ h))))
theorem inlX1 : ∀ w ∈ wsX10, w ∈ wsL_law := fun _ h => List.mem_append_left _ (List.mem_append_left _ (List.mem_append_left _ (List.mem_append_left _ (List.mem_append_left _ (List.mem_append_right _ h)))))
theorem inlX2 : ∀ w ∈ wsX20, w ∈ wsL_law := fun _ h => List.mem_append_left _ (List.mem_append_left _ (List.mem_append_left _ (List.mem_append_right _ h)))
theorem inlX3 : ∀ w ∈ wsX30, w ∈ wsL_law := fun _ h => List.mem_append_left _ (List.mem_append_right _ h)
theorem inlX4 : ∀ w ∈ wsX40, w ∈ wsL_law := fun _ h => List.mem_append_left _ (List.mem_append_left _ (List.mem_append_left _ (List.mem_append_left _ (List.mem_append_left _ (List.mem_append_left _ (List.mem_append_right _ h))))))
theorem inlX5 : ∀ w ∈ wsX50, w ∈ wsL_law := fun _ h => List.mem_append_left _ (List.mem_append_left _ (List.mem_append_right _ h))
theorem inlX6 : ∀ w ∈ wsX60, w ∈ wsL_law := fun _ h => List.mem_append_left _ (List.mem_append_left _ (List.mem_append_left _ (List.mem_append_left _ (List.mem_append_left _ (List.mem_append_left _ (List.mem_append_left _ (List.mem_append_right _ h)))))))
abbrev vwCl : List vw_C := [(RX0, TX0, 2), (RX1, TX1, 2), (RX2, TX2, 3), (RX3, TX3, 5), (RX4, TX4, 14), (RX5, TX5, 3), (RX6, TX6, 6)]
