section
/-! ===== BEGIN words of one list among another's, by their places ===== -/
theorem goodIn_r {big : List Cond} (ws : List Cond) (ps : List Nat) (hp : ws = ps.filterMap (fun i => big[i]?)) (h : ws.all goodWord = true) : GoodIn big ws := by
  intro w hw
  have h1 := List.all_eq_true.mp h w hw
  rw [hp] at hw
  obtain ⟨i, -, hi⟩ := List.mem_filterMap.mp hw
  have hm : w ∈ big := by first | exact List.mem_of_getElem? hi | exact List.getElem?_mem hi
  exact ⟨hm, good_of_word h1⟩
theorem goodIn_app {big a b : List Cond} (ha : GoodIn big a) (hb : GoodIn big b) : GoodIn big (a ++ b) := fun w h => (List.mem_append.mp h).elim (ha w) (hb w)
theorem goodIn_ca {big a b : List Cond} {c : Cond} (ha : GoodIn big (c :: a)) (hb : GoodIn big b) : GoodIn big (c :: (a ++ b)) := fun w h => (List.mem_cons.mp h).elim (fun e => ha w (List.mem_cons.mpr (Or.inl e))) (fun h => (List.mem_append.mp h).elim (fun h => ha w (List.mem_cons.mpr (Or.inr h))) (hb w))
theorem goodIn_sub {big ws : List Cond} (hm : ∀ w ∈ ws, w ∈ big) (h : ws.all goodWord = true) : GoodIn big ws := fun w hw => ⟨hm w hw, good_of_word (List.all_eq_true.mp h w hw)⟩
/-! ===== END ===== -/

/-! ===== BEGIN printed: names, fields, word lists, decode rows ===== -/
def RX0 : String := "LockRail$Bikes"
def TX0 : u_T := fun k => match k with
  | 0 => ("LockRail$Bikes", "count", "I", false)
  | 1 => ("LockRail$Bikes", "worth", "[I", true)
  | 2 => ("LockRail$Bikes", "seems", "[I", true)
  | 3 => ("LockRail$Bikes", "place", "[I", true)
  | 4 => ("LockRail$Bikes", "lock", "[I", true)
  | _ => ("LockRail$Bikes", "marked", "[Z", true)
def tyX0 : Nat → FieldType := fun k => match k with
  | 0 => .int
  | 1 => .array .int
  | 2 => .array .int
  | 3 => .array .int
  | 4 => .array .int
  | _ => .array .boolean
abbrev wsX00 : List Cond := u_ws RX0 TX0 6
theorem nmX0 : ∀ a, a < 6 → ∀ b, b < 6 → a ≠ b → (TX0 a).2.1 ≠ (TX0 b).2.1 := by decide +kernel
theorem tyX0_ok : ∀ k, k < 6 → parseFieldDescriptor (TX0 k).2.2.1 = some (tyX0 k) := by decide +kernel
abbrev cX0_init : ByteArray := prog_2_method_1_code
def yX0_init : MethodName := ⟨RX0, "<init>", "()V"⟩
abbrev cX0_add : ByteArray := prog_2_method_2_code
def yX0_add : MethodName := ⟨RX0, "add", "(IIIIZ)V"⟩
abbrev cX0_standingAt : ByteArray := prog_2_method_3_code
def yX0_standingAt : MethodName := ⟨RX0, "standingAt", "(I)I"⟩
abbrev cX0_markedOnes : ByteArray := prog_2_method_4_code
def yX0_markedOnes : MethodName := ⟨RX0, "markedOnes", "()I"⟩
abbrev cX0_markOthers : ByteArray := prog_2_method_5_code
def yX0_markOthers : MethodName := ⟨RX0, "markOthers", "(IZ)V"⟩
abbrev cX0_optionOf : ByteArray := prog_2_method_6_code
def yX0_optionOf : MethodName := ⟨RX0, "optionOf", "(I)I"⟩
abbrev cX0_setOption : ByteArray := prog_2_method_7_code
def yX0_setOption : MethodName := ⟨RX0, "setOption", "(II)V"⟩
abbrev cX0_copyFrom : ByteArray := prog_2_method_8_code
def yX0_copyFrom : MethodName := ⟨RX0, "copyFrom", "(LLockRail$Bikes;)V"⟩
def RX1 : String := "LockRail$Lamps"
def TX1 : u_T := fun k => match k with
  | 0 => ("LockRail$Lamps", "count", "I", false)
  | 1 => ("LockRail$Lamps", "place", "[I", true)
  | _ => ("LockRail$Lamps", "bright", "[I", true)
def tyX1 : Nat → FieldType := fun k => match k with
  | 0 => .int
  | 1 => .array .int
  | _ => .array .int
abbrev wsX10 : List Cond := u_ws RX1 TX1 3
theorem nmX1 : ∀ a, a < 3 → ∀ b, b < 3 → a ≠ b → (TX1 a).2.1 ≠ (TX1 b).2.1 := by decide +kernel
theorem tyX1_ok : ∀ k, k < 3 → parseFieldDescriptor (TX1 k).2.2.1 = some (tyX1 k) := by decide +kernel
abbrev cX1_init : ByteArray := prog_3_method_1_code
def yX1_init : MethodName := ⟨RX1, "<init>", "()V"⟩
abbrev cX1_add : ByteArray := prog_3_method_2_code
def yX1_add : MethodName := ⟨RX1, "add", "(II)V"⟩
abbrev cX1_copyFrom : ByteArray := prog_3_method_3_code
def yX1_copyFrom : MethodName := ⟨RX1, "copyFrom", "(LLockRail$Lamps;)V"⟩
def RX2 : String := "LockRail$Locks"
def TX2 : u_T := fun k => match k with
  | 0 => ("LockRail$Locks", "count", "I", false)
  | 1 => ("LockRail$Locks", "price", "[I", true)
  | _ => ("LockRail$Locks", "cuts", "[I", true)
def tyX2 : Nat → FieldType := fun k => match k with
  | 0 => .int
  | 1 => .array .int
  | _ => .array .int
abbrev wsX20 : List Cond := u_ws RX2 TX2 3
theorem nmX2 : ∀ a, a < 3 → ∀ b, b < 3 → a ≠ b → (TX2 a).2.1 ≠ (TX2 b).2.1 := by decide +kernel
theorem tyX2_ok : ∀ k, k < 3 → parseFieldDescriptor (TX2 k).2.2.1 = some (tyX2 k) := by decide +kernel
abbrev cX2_init : ByteArray := prog_4_method_1_code
def yX2_init : MethodName := ⟨RX2, "<init>", "()V"⟩
abbrev cX2_add : ByteArray := prog_4_method_2_code
def yX2_add : MethodName := ⟨RX2, "add", "(IIII)V"⟩
abbrev cX2_copyFrom : ByteArray := prog_4_method_3_code
def yX2_copyFrom : MethodName := ⟨RX2, "copyFrom", "(LLockRail$Locks;)V"⟩
def RX3 : String := "LockRail$Night"
def TX3 : u_T := fun k => match k with
  | 0 => ("LockRail$Night", "light", "[I", true)
  | 1 => ("LockRail$Night", "gain", "[I", true)
  | 2 => ("LockRail$Night", "order", "[I", true)
  | 3 => ("LockRail$Night", "ordered", "[I", true)
  | 4 => ("LockRail$Night", "rank", "[I", true)
  | 5 => ("LockRail$Night", "had", "[J", true)
  | 6 => ("LockRail$Night", "now", "LLockRail$Spread;", false)
  | 7 => ("LockRail$Night", "then", "LLockRail$Spread;", false)
  | 8 => ("LockRail$Night", "bait", "I", false)
  | _ => ("LockRail$Night", "caughtOf100", "I", false)
def tyX3 : Nat → FieldType := fun k => match k with
  | 0 => .array .int
  | 1 => .array .int
  | 2 => .array .int
  | 3 => .array .int
  | 4 => .array .int
  | 5 => .array .long
  | 6 => .object "LockRail$Spread"
  | 7 => .object "LockRail$Spread"
  | 8 => .int
  | _ => .int
abbrev wsX30 : List Cond := u_ws RX3 TX3 10
theorem nmX3 : ∀ a, a < 10 → ∀ b, b < 10 → a ≠ b → (TX3 a).2.1 ≠ (TX3 b).2.1 := by decide +kernel
theorem tyX3_ok : ∀ k, k < 10 → parseFieldDescriptor (TX3 k).2.2.1 = some (tyX3 k) := by decide +kernel
abbrev cX3_init : ByteArray := prog_5_method_1_code
def yX3_init : MethodName := ⟨RX3, "<init>", "()V"⟩
abbrev cX3_lookAt : ByteArray := prog_5_method_2_code
def yX3_lookAt : MethodName := ⟨RX3, "lookAt", "(LLockRail$Rail;)V"⟩
abbrev cX3_lookAtBaited : ByteArray := prog_5_method_3_code
def yX3_lookAtBaited : MethodName := ⟨RX3, "lookAtBaited", "(LLockRail$Rail;I)V"⟩
abbrev cX3_orderFor : ByteArray := prog_5_method_4_code
def yX3_orderFor : MethodName := ⟨RX3, "orderFor", "(LLockRail$Rail;II)V"⟩
abbrev cX3_putInOrder : ByteArray := prog_5_method_5_code
def yX3_putInOrder : MethodName := ⟨RX3, "putInOrder", "(III)V"⟩
abbrev cX3_pick : ByteArray := prog_5_method_6_code
def yX3_pick : MethodName := ⟨RX3, "pick", "(II)I"⟩
abbrev cX3_netOf : ByteArray := prog_5_method_7_code
def yX3_netOf : MethodName := ⟨RX3, "netOf", "(LLockRail$Rail;II)I"⟩
abbrev cX3_wantedBy : ByteArray := prog_5_method_8_code
def yX3_wantedBy : MethodName := ⟨RX3, "wantedBy", "(LLockRail$Rail;I)I"⟩
abbrev cX3_play : ByteArray := prog_5_method_9_code
def yX3_play : MethodName := ⟨RX3, "play", "(LLockRail$Rail;)V"⟩
abbrev cX3_begin : ByteArray := prog_5_method_10_code
def yX3_begin : MethodName := ⟨RX3, "begin", "()V"⟩
abbrev cX3_letCome : ByteArray := prog_5_method_11_code
def yX3_letCome : MethodName := ⟨RX3, "letCome", "(II)V"⟩
abbrev cX3_letTake : ByteArray := prog_5_method_12_code
def yX3_letTake : MethodName := ⟨RX3, "letTake", "(IIIJ)V"⟩
abbrev cX3_turn : ByteArray := prog_5_method_13_code
def yX3_turn : MethodName := ⟨RX3, "turn", "()V"⟩
abbrev cX3_caughtBit : ByteArray := prog_5_method_14_code
def yX3_caughtBit : MethodName := ⟨RX3, "caughtBit", "(I)I"⟩
abbrev cX3_isCaught : ByteArray := prog_5_method_15_code
def yX3_isCaught : MethodName := ⟨RX3, "isCaught", "(II)Z"⟩
abbrev cX3_playBaited : ByteArray := prog_5_method_16_code
def yX3_playBaited : MethodName := ⟨RX3, "playBaited", "(LLockRail$Rail;II)V"⟩
abbrev cX3_bringBack : ByteArray := prog_5_method_17_code
def yX3_bringBack : MethodName := ⟨RX3, "bringBack", "()V"⟩
abbrev cX3_partsOf : ByteArray := prog_5_method_18_code
def yX3_partsOf : MethodName := ⟨RX3, "partsOf", "(I)J"⟩
abbrev cX3_partsOfMany : ByteArray := prog_5_method_19_code
def yX3_partsOfMany : MethodName := ⟨RX3, "partsOfMany", "(I)J"⟩
abbrev cX3_partsCaught : ByteArray := prog_5_method_20_code
def yX3_partsCaught : MethodName := ⟨RX3, "partsCaught", "(I)J"⟩
abbrev cX3_hadBy : ByteArray := prog_5_method_21_code
def yX3_hadBy : MethodName := ⟨RX3, "hadBy", "(II)J"⟩
abbrev cX3_riskOf : ByteArray := prog_5_method_22_code
def yX3_riskOf : MethodName := ⟨RX3, "riskOf", "(I)J"⟩
abbrev cX3_costOf : ByteArray := prog_5_method_23_code
def yX3_costOf : MethodName := ⟨RX3, "costOf", "(LLockRail$Rail;II)J"⟩
abbrev cX3_costOfAll : ByteArray := prog_5_method_24_code
def yX3_costOfAll : MethodName := ⟨RX3, "costOfAll", "(LLockRail$Rail;I)J"⟩
abbrev cX3_baitedLoss : ByteArray := prog_5_method_25_code
def yX3_baitedLoss : MethodName := ⟨RX3, "baitedLoss", "(LLockRail$Rail;)J"⟩
abbrev cX3_leastLure : ByteArray := prog_5_method_26_code
def yX3_leastLure : MethodName := ⟨RX3, "leastLure", "(LLockRail$Rail;I)I"⟩
abbrev cX3_drawYear : ByteArray := prog_5_method_27_code
def yX3_drawYear : MethodName := ⟨RX3, "drawYear", "(LLockRail$Rail;ILLockRail$Year;)I"⟩
abbrev cX3_letAllCome : ByteArray := prog_5_method_28_code
def yX3_letAllCome : MethodName := ⟨RX3, "letAllCome", "(IILLockRail$Year;)I"⟩
def RX4 : String := "LockRail$Rail"
def TX4 : u_T := fun k => match k with
  | 0 => ("LockRail$Rail", "places", "I", false)
  | 1 => ("LockRail$Rail", "nights", "I", false)
  | 2 => ("LockRail$Rail", "lines", "I", false)
  | 3 => ("LockRail$Rail", "lamps", "LLockRail$Lamps;", true)
  | 4 => ("LockRail$Rail", "locks", "LLockRail$Locks;", true)
  | 5 => ("LockRail$Rail", "bikes", "LLockRail$Bikes;", true)
  | 6 => ("LockRail$Rail", "thieves", "LLockRail$Thieves;", true)
  | 7 => ("LockRail$Rail", "markTold", "Z", false)
  | 8 => ("LockRail$Rail", "markPrice", "I", false)
  | 9 => ("LockRail$Rail", "known", "I", false)
  | 10 => ("LockRail$Rail", "hidden", "Z", false)
  | 11 => ("LockRail$Rail", "watchTold", "Z", false)
  | 12 => ("LockRail$Rail", "wage", "I", false)
  | 13 => ("LockRail$Rail", "adds", "I", false)
  | 14 => ("LockRail$Rail", "watched", "Z", false)
  | _ => ("LockRail$Rail", "year", "LLockRail$Year;", true)
def tyX4 : Nat → FieldType := fun k => match k with
  | 0 => .int
  | 1 => .int
  | 2 => .int
  | 3 => .object "LockRail$Lamps"
  | 4 => .object "LockRail$Locks"
  | 5 => .object "LockRail$Bikes"
  | 6 => .object "LockRail$Thieves"
  | 7 => .boolean
  | 8 => .int
  | 9 => .int
  | 10 => .boolean
  | 11 => .boolean
  | 12 => .int
  | 13 => .int
  | 14 => .boolean
  | _ => .object "LockRail$Year"
abbrev wsX40 : List Cond := u_ws RX4 TX4 16
theorem nmX4 : ∀ a, a < 16 → ∀ b, b < 16 → a ≠ b → (TX4 a).2.1 ≠ (TX4 b).2.1 := by decide +kernel
theorem tyX4_ok : ∀ k, k < 16 → parseFieldDescriptor (TX4 k).2.2.1 = some (tyX4 k) := by decide +kernel
abbrev cX4_init : ByteArray := prog_6_method_1_code
def yX4_init : MethodName := ⟨RX4, "<init>", "()V"⟩
abbrev cX4_wipe : ByteArray := prog_6_method_2_code
def yX4_wipe : MethodName := ⟨RX4, "wipe", "()V"⟩
abbrev cX4_copyFrom : ByteArray := prog_6_method_3_code
def yX4_copyFrom : MethodName := ⟨RX4, "copyFrom", "(LLockRail$Rail;)V"⟩
abbrev cX4_isTold : ByteArray := prog_6_method_4_code
def yX4_isTold : MethodName := ⟨RX4, "isTold", "()Z"⟩
abbrev cX4_hasPlace : ByteArray := prog_6_method_5_code
def yX4_hasPlace : MethodName := ⟨RX4, "hasPlace", "(I)Z"⟩
abbrev cX4_hasLock : ByteArray := prog_6_method_6_code
def yX4_hasLock : MethodName := ⟨RX4, "hasLock", "(I)Z"⟩
abbrev cX4_hasBike : ByteArray := prog_6_method_7_code
def yX4_hasBike : MethodName := ⟨RX4, "hasBike", "(I)Z"⟩
abbrev cX4_hasThief : ByteArray := prog_6_method_8_code
def yX4_hasThief : MethodName := ⟨RX4, "hasThief", "(I)Z"⟩
abbrev cX4_hasOption : ByteArray := prog_6_method_9_code
def yX4_hasOption : MethodName := ⟨RX4, "hasOption", "(I)Z"⟩
abbrev cX4_hasSet : ByteArray := prog_6_method_10_code
def yX4_hasSet : MethodName := ⟨RX4, "hasSet", "(I)Z"⟩
abbrev cX4_options : ByteArray := prog_6_method_11_code
def yX4_options : MethodName := ⟨RX4, "options", "()I"⟩
abbrev cX4_lightOf : ByteArray := prog_6_method_12_code
def yX4_lightOf : MethodName := ⟨RX4, "lightOf", "(I)I"⟩
abbrev cX4_troubleOf : ByteArray := prog_6_method_13_code
def yX4_troubleOf : MethodName := ⟨RX4, "troubleOf", "(III)I"⟩
abbrev cX4_gainOf : ByteArray := prog_6_method_14_code
def yX4_gainOf : MethodName := ⟨RX4, "gainOf", "(II)I"⟩
abbrev cX4_paidFor : ByteArray := prog_6_method_15_code
def yX4_paidFor : MethodName := ⟨RX4, "paidFor", "(I)J"⟩
abbrev cX4_wages : ByteArray := prog_6_method_16_code
def yX4_wages : MethodName := ⟨RX4, "wages", "()J"⟩
abbrev cX4_wageShare : ByteArray := prog_6_method_17_code
def yX4_wageShare : MethodName := ⟨RX4, "wageShare", "()J"⟩
abbrev cX4_worthTaken : ByteArray := prog_6_method_18_code
def yX4_worthTaken : MethodName := ⟨RX4, "worthTaken", "(LLockRail$Year;)J"⟩
def RX5 : String := "LockRail$Reader"
def TX5 : u_T := fun k => match k with
  | 0 => ("LockRail$Reader", "tape", "LLockRail$Tape;", true)
  | 1 => ("LockRail$Reader", "fault", "I", false)
  | _ => ("LockRail$Reader", "faultAt", "I", false)
def tyX5 : Nat → FieldType := fun k => match k with
  | 0 => .object "LockRail$Tape"
  | 1 => .int
  | _ => .int
abbrev wsX50 : List Cond := u_ws RX5 TX5 3
theorem nmX5 : ∀ a, a < 3 → ∀ b, b < 3 → a ≠ b → (TX5 a).2.1 ≠ (TX5 b).2.1 := by decide +kernel
theorem tyX5_ok : ∀ k, k < 3 → parseFieldDescriptor (TX5 k).2.2.1 = some (tyX5 k) := by decide +kernel
abbrev cX5_init : ByteArray := prog_7_method_1_code
def yX5_init : MethodName := ⟨RX5, "<init>", "()V"⟩
abbrev cX5_readInto : ByteArray := prog_7_method_2_code
def yX5_readInto : MethodName := ⟨RX5, "readInto", "(LLockRail$Rail;)Z"⟩
abbrev cX5_readLine : ByteArray := prog_7_method_3_code
def yX5_readLine : MethodName := ⟨RX5, "readLine", "(LLockRail$Rail;)V"⟩
abbrev cX5_readHead : ByteArray := prog_7_method_4_code
def yX5_readHead : MethodName := ⟨RX5, "readHead", "(ZI)V"⟩
abbrev cX5_readRail : ByteArray := prog_7_method_5_code
def yX5_readRail : MethodName := ⟨RX5, "readRail", "(LLockRail$Rail;)V"⟩
abbrev cX5_readLamp : ByteArray := prog_7_method_6_code
def yX5_readLamp : MethodName := ⟨RX5, "readLamp", "(LLockRail$Rail;)V"⟩
abbrev cX5_readLock : ByteArray := prog_7_method_7_code
def yX5_readLock : MethodName := ⟨RX5, "readLock", "(LLockRail$Rail;)V"⟩
abbrev cX5_readBike : ByteArray := prog_7_method_8_code
def yX5_readBike : MethodName := ⟨RX5, "readBike", "(LLockRail$Rail;)V"⟩
abbrev cX5_readThief : ByteArray := prog_7_method_9_code
def yX5_readThief : MethodName := ⟨RX5, "readThief", "(LLockRail$Rail;)V"⟩
abbrev cX5_readMark : ByteArray := prog_7_method_10_code
def yX5_readMark : MethodName := ⟨RX5, "readMark", "(LLockRail$Rail;)V"⟩
abbrev cX5_readWatch : ByteArray := prog_7_method_11_code
def yX5_readWatch : MethodName := ⟨RX5, "readWatch", "(LLockRail$Rail;)V"⟩
abbrev cX5_readWord : ByteArray := prog_7_method_12_code
def yX5_readWord : MethodName := ⟨RX5, "readWord", "(Ljava/lang/String;)V"⟩
abbrev cX5_readIf : ByteArray := prog_7_method_13_code
def yX5_readIf : MethodName := ⟨RX5, "readIf", "(Ljava/lang/String;)Z"⟩
abbrev cX5_readSign : ByteArray := prog_7_method_14_code
def yX5_readSign : MethodName := ⟨RX5, "readSign", "()V"⟩
abbrev cX5_readNumber : ByteArray := prog_7_method_15_code
def yX5_readNumber : MethodName := ⟨RX5, "readNumber", "(II)I"⟩
abbrev cX5_fail : ByteArray := prog_7_method_16_code
def yX5_fail : MethodName := ⟨RX5, "fail", "(I)V"⟩
def RX6 : String := "LockRail$Slots"
def TX6 : u_T := fun k => match k with
  | 0 => ("LockRail$Slots", "numbers", "[J", true)
  | 1 => ("LockRail$Slots", "size", "[I", true)
  | _ => ("LockRail$Slots", "widthAndOne", "[I", true)
def tyX6 : Nat → FieldType := fun k => match k with
  | 0 => .array .long
  | 1 => .array .int
  | _ => .array .int
abbrev wsX60 : List Cond := u_ws RX6 TX6 3
theorem nmX6 : ∀ a, a < 3 → ∀ b, b < 3 → a ≠ b → (TX6 a).2.1 ≠ (TX6 b).2.1 := by decide +kernel
theorem tyX6_ok : ∀ k, k < 3 → parseFieldDescriptor (TX6 k).2.2.1 = some (tyX6 k) := by decide +kernel
abbrev cX6_init : ByteArray := prog_8_method_1_code
def yX6_init : MethodName := ⟨RX6, "<init>", "()V"⟩
abbrev cX6_isSlot : ByteArray := prog_8_method_2_code
def yX6_isSlot : MethodName := ⟨RX6, "isSlot", "(I)Z"⟩
abbrev cX6_hasRow : ByteArray := prog_8_method_3_code
def yX6_hasRow : MethodName := ⟨RX6, "hasRow", "(I)Z"⟩
abbrev cX6_areAlike : ByteArray := prog_8_method_4_code
def yX6_areAlike : MethodName := ⟨RX6, "areAlike", "(II)Z"⟩
abbrev cX6_sizeOf : ByteArray := prog_8_method_5_code
def yX6_sizeOf : MethodName := ⟨RX6, "sizeOf", "(I)I"⟩
abbrev cX6_numberAt : ByteArray := prog_8_method_6_code
def yX6_numberAt : MethodName := ⟨RX6, "numberAt", "(II)J"⟩
abbrev cX6_hasAll : ByteArray := prog_8_method_7_code
def yX6_hasAll : MethodName := ⟨RX6, "hasAll", "(III)Z"⟩
abbrev cX6_rows : ByteArray := prog_8_method_8_code
def yX6_rows : MethodName := ⟨RX6, "rows", "()I"⟩
abbrev cX6_make : ByteArray := prog_8_method_9_code
def yX6_make : MethodName := ⟨RX6, "make", "(III)V"⟩
abbrev cX6_put : ByteArray := prog_8_method_10_code
def yX6_put : MethodName := ⟨RX6, "put", "(IIJ)V"⟩
abbrev cX6_cut : ByteArray := prog_8_method_11_code
def yX6_cut : MethodName := ⟨RX6, "cut", "(JI)J"⟩
abbrev cX6_copy : ByteArray := prog_8_method_12_code
def yX6_copy : MethodName := ⟨RX6, "copy", "(IIIII)V"⟩
abbrev cX6_tellsNights : ByteArray := prog_8_method_13_code
def yX6_tellsNights : MethodName := ⟨RX6, "tellsNights", "(III)Z"⟩
def RX7 : String := "LockRail$Spread"
def TX7 : u_T := fun k => match k with
  | 0 => ("LockRail$Spread", "size", "I", false)
  | 1 => ("LockRail$Spread", "states", "[I", true)
  | 2 => ("LockRail$Spread", "parts", "[J", true)
  | 3 => ("LockRail$Spread", "slotOf", "[I", true)
  | _ => ("LockRail$Spread", "table", "[I", true)
def tyX7 : Nat → FieldType := fun k => match k with
  | 0 => .int
  | 1 => .array .int
  | 2 => .array .long
  | 3 => .array .int
  | _ => .array .int
abbrev wsX70 : List Cond := u_ws RX7 TX7 5
theorem nmX7 : ∀ a, a < 5 → ∀ b, b < 5 → a ≠ b → (TX7 a).2.1 ≠ (TX7 b).2.1 := by decide +kernel
theorem tyX7_ok : ∀ k, k < 5 → parseFieldDescriptor (TX7 k).2.2.1 = some (tyX7 k) := by decide +kernel
abbrev cX7_init : ByteArray := prog_9_method_1_code
def yX7_init : MethodName := ⟨RX7, "<init>", "()V"⟩
abbrev cX7_wipe : ByteArray := prog_9_method_2_code
def yX7_wipe : MethodName := ⟨RX7, "wipe", "()V"⟩
abbrev cX7_put : ByteArray := prog_9_method_3_code
def yX7_put : MethodName := ⟨RX7, "put", "(IJ)V"⟩
def RX8 : String := "LockRail$Tape"
def TX8 : u_T := fun k => match k with
  | 0 => ("LockRail$Tape", "bytes", "[B", true)
  | 1 => ("LockRail$Tape", "length", "I", false)
  | 2 => ("LockRail$Tape", "spot", "I", false)
  | 3 => ("LockRail$Tape", "behind", "I", false)
  | 4 => ("LockRail$Tape", "kind", "I", false)
  | _ => ("LockRail$Tape", "number", "I", false)
def tyX8 : Nat → FieldType := fun k => match k with
  | 0 => .array .byte
  | 1 => .int
  | 2 => .int
  | 3 => .int
  | 4 => .int
  | _ => .int
abbrev wsX80 : List Cond := u_ws RX8 TX8 6
theorem nmX8 : ∀ a, a < 6 → ∀ b, b < 6 → a ≠ b → (TX8 a).2.1 ≠ (TX8 b).2.1 := by decide +kernel
theorem tyX8_ok : ∀ k, k < 6 → parseFieldDescriptor (TX8 k).2.2.1 = some (tyX8 k) := by decide +kernel
abbrev cX8_init : ByteArray := prog_10_method_1_code
def yX8_init : MethodName := ⟨RX8, "<init>", "()V"⟩
abbrev cX8_append : ByteArray := prog_10_method_2_code
def yX8_append : MethodName := ⟨RX8, "append", "(I)V"⟩
abbrev cX8_rewind : ByteArray := prog_10_method_3_code
def yX8_rewind : MethodName := ⟨RX8, "rewind", "()V"⟩
abbrev cX8_step : ByteArray := prog_10_method_4_code
def yX8_step : MethodName := ⟨RX8, "step", "()V"⟩
abbrev cX8_kindAt : ByteArray := prog_10_method_5_code
def yX8_kindAt : MethodName := ⟨RX8, "kindAt", "(I)I"⟩
abbrev cX8_isWord : ByteArray := prog_10_method_6_code
def yX8_isWord : MethodName := ⟨RX8, "isWord", "(Ljava/lang/String;)Z"⟩
def RX9 : String := "LockRail$Thieves"
def TX9 : u_T := fun k => match k with
  | 0 => ("LockRail$Thieves", "count", "I", false)
  | 1 => ("LockRail$Thieves", "tool", "[I", true)
  | 2 => ("LockRail$Thieves", "comes", "[I", true)
  | 3 => ("LockRail$Thieves", "fears", "[I", true)
  | 4 => ("LockRail$Thieves", "kind", "[I", true)
  | _ => ("LockRail$Thieves", "just", "[I", true)
def tyX9 : Nat → FieldType := fun k => match k with
  | 0 => .int
  | 1 => .array .int
  | 2 => .array .int
  | 3 => .array .int
  | 4 => .array .int
  | _ => .array .int
abbrev wsX90 : List Cond := u_ws RX9 TX9 6
theorem nmX9 : ∀ a, a < 6 → ∀ b, b < 6 → a ≠ b → (TX9 a).2.1 ≠ (TX9 b).2.1 := by decide +kernel
theorem tyX9_ok : ∀ k, k < 6 → parseFieldDescriptor (TX9 k).2.2.1 = some (tyX9 k) := by decide +kernel
abbrev cX9_init : ByteArray := prog_11_method_1_code
def yX9_init : MethodName := ⟨RX9, "<init>", "()V"⟩
abbrev cX9_add : ByteArray := prog_11_method_2_code
def yX9_add : MethodName := ⟨RX9, "add", "(IIIII)V"⟩
abbrev cX9_copyFrom : ByteArray := prog_11_method_3_code
def yX9_copyFrom : MethodName := ⟨RX9, "copyFrom", "(LLockRail$Thieves;)V"⟩
def RX10 : String := "LockRail$Year"
def TX10 : u_T := fun k => match k with
  | 0 => ("LockRail$Year", "isThere", "Z", false)
  | 1 => ("LockRail$Year", "taken", "[I", true)
  | _ => ("LockRail$Year", "took", "[I", true)
def tyX10 : Nat → FieldType := fun k => match k with
  | 0 => .boolean
  | 1 => .array .int
  | _ => .array .int
abbrev wsX100 : List Cond := u_ws RX10 TX10 3
theorem nmX10 : ∀ a, a < 3 → ∀ b, b < 3 → a ≠ b → (TX10 a).2.1 ≠ (TX10 b).2.1 := by decide +kernel
theorem tyX10_ok : ∀ k, k < 3 → parseFieldDescriptor (TX10 k).2.2.1 = some (tyX10 k) := by decide +kernel
abbrev cX10_init : ByteArray := prog_12_method_1_code
def yX10_init : MethodName := ⟨RX10, "<init>", "()V"⟩
abbrev cX10_begin : ByteArray := prog_12_method_2_code
def yX10_begin : MethodName := ⟨RX10, "begin", "()V"⟩
abbrev cX10_copyFrom : ByteArray := prog_12_method_3_code
def yX10_copyFrom : MethodName := ⟨RX10, "copyFrom", "(LLockRail$Year;)V"⟩
def RX11 : String := "LockRail"
def TX11 : u_T := fun k => match k with
  | 0 => ("LockRail", "reader", "LLockRail$Reader;", true)
  | 1 => ("LockRail", "rail", "LLockRail$Rail;", true)
  | 2 => ("LockRail", "trial", "LLockRail$Rail;", true)
  | 3 => ("LockRail", "images", "[LLockRail$Rail;", true)
  | 4 => ("LockRail", "slots", "LLockRail$Slots;", true)
  | 5 => ("LockRail", "night", "LLockRail$Night;", true)
  | 6 => ("LockRail", "triedYear", "LLockRail$Year;", true)
  | _ => ("LockRail", "ofBikes", "[J", true)
def tyX11 : Nat → FieldType := fun k => match k with
  | 0 => .object "LockRail$Reader"
  | 1 => .object "LockRail$Rail"
  | 2 => .object "LockRail$Rail"
  | 3 => .array (.object "LockRail$Rail")
  | 4 => .object "LockRail$Slots"
  | 5 => .object "LockRail$Night"
  | 6 => .object "LockRail$Year"
  | _ => .array .long
abbrev wsX110 : List Cond := u_ws RX11 TX11 8
theorem nmX11 : ∀ a, a < 8 → ∀ b, b < 8 → a ≠ b → (TX11 a).2.1 ≠ (TX11 b).2.1 := by decide +kernel
theorem tyX11_ok : ∀ k, k < 8 → parseFieldDescriptor (TX11 k).2.2.1 = some (tyX11 k) := by decide +kernel
abbrev cX11_init : ByteArray := prog_1_method_1_code
def yX11_init : MethodName := ⟨RX11, "<init>", "()V"⟩
abbrev cX11_feed : ByteArray := prog_1_method_2_code
def yX11_feed : MethodName := ⟨RX11, "feed", "(IIIII)I"⟩
abbrev cX11_end : ByteArray := prog_1_method_3_code
def yX11_end : MethodName := ⟨RX11, "end", "(I)I"⟩
abbrev cX11_rail : ByteArray := prog_1_method_4_code
def yX11_rail : MethodName := ⟨RX11, "rail", "()I"⟩
abbrev cX11_fault : ByteArray := prog_1_method_5_code
def yX11_fault : MethodName := ⟨RX11, "fault", "(I)I"⟩
abbrev cX11_light : ByteArray := prog_1_method_6_code
def yX11_light : MethodName := ⟨RX11, "light", "(I)I"⟩
abbrev cX11_bike : ByteArray := prog_1_method_7_code
def yX11_bike : MethodName := ⟨RX11, "bike", "(II)I"⟩
abbrev cX11_trouble : ByteArray := prog_1_method_8_code
def yX11_trouble : MethodName := ⟨RX11, "trouble", "(II)I"⟩
abbrev cX11_gain : ByteArray := prog_1_method_9_code
def yX11_gain : MethodName := ⟨RX11, "gain", "(I)I"⟩
abbrev cX11_takes : ByteArray := prog_1_method_10_code
def yX11_takes : MethodName := ⟨RX11, "takes", "(II)I"⟩
abbrev cX11_wants : ByteArray := prog_1_method_11_code
def yX11_wants : MethodName := ⟨RX11, "wants", "(I)I"⟩
abbrev cX11_part : ByteArray := prog_1_method_12_code
def yX11_part : MethodName := ⟨RX11, "part", "(I)J"⟩
abbrev cX11_many : ByteArray := prog_1_method_13_code
def yX11_many : MethodName := ⟨RX11, "many", "(I)J"⟩
abbrev cX11_risk : ByteArray := prog_1_method_14_code
def yX11_risk : MethodName := ⟨RX11, "risk", "(I)J"⟩
abbrev cX11_has : ByteArray := prog_1_method_15_code
def yX11_has : MethodName := ⟨RX11, "has", "(II)J"⟩
abbrev cX11_cost : ByteArray := prog_1_method_16_code
def yX11_cost : MethodName := ⟨RX11, "cost", "(II)J"⟩
abbrev cX11_all : ByteArray := prog_1_method_17_code
def yX11_all : MethodName := ⟨RX11, "all", "(I)J"⟩
abbrev cX11_option : ByteArray := prog_1_method_18_code
def yX11_option : MethodName := ⟨RX11, "option", "(II)I"⟩
abbrev cX11_would : ByteArray := prog_1_method_19_code
def yX11_would : MethodName := ⟨RX11, "would", "(II)J"⟩
abbrev cX11_best : ByteArray := prog_1_method_20_code
def yX11_best : MethodName := ⟨RX11, "best", "(I)I"⟩
abbrev cX11_restless : ByteArray := prog_1_method_21_code
def yX11_restless : MethodName := ⟨RX11, "restless", "()I"⟩
abbrev cX11_settle : ByteArray := prog_1_method_22_code
def yX11_settle : MethodName := ⟨RX11, "settle", "(I)I"⟩
abbrev cX11_settles : ByteArray := prog_1_method_23_code
def yX11_settles : MethodName := ⟨RX11, "settles", "()I"⟩
abbrev cX11_settled : ByteArray := prog_1_method_24_code
def yX11_settled : MethodName := ⟨RX11, "settled", "()J"⟩
abbrev cX11_better : ByteArray := prog_1_method_25_code
def yX11_better : MethodName := ⟨RX11, "better", "(I)I"⟩
abbrev cX11_good : ByteArray := prog_1_method_26_code
def yX11_good : MethodName := ⟨RX11, "good", "()J"⟩
abbrev cX11_pair : ByteArray := prog_1_method_27_code
def yX11_pair : MethodName := ⟨RX11, "pair", "(II)I"⟩
abbrev cX11_wasted : ByteArray := prog_1_method_28_code
def yX11_wasted : MethodName := ⟨RX11, "wasted", "()J"⟩
abbrev cX11_beside : ByteArray := prog_1_method_29_code
def yX11_beside : MethodName := ⟨RX11, "beside", "(III)J"⟩
abbrev cX11_worse : ByteArray := prog_1_method_30_code
def yX11_worse : MethodName := ⟨RX11, "worse", "(II)I"⟩
abbrev cX11_next : ByteArray := prog_1_method_31_code
def yX11_next : MethodName := ⟨RX11, "next", "(II)I"⟩
abbrev cX11_move : ByteArray := prog_1_method_32_code
def yX11_move : MethodName := ⟨RX11, "move", "(II)I"⟩
abbrev cX11_swap : ByteArray := prog_1_method_33_code
def yX11_swap : MethodName := ⟨RX11, "swap", "(II)I"⟩
abbrev cX11_where : ByteArray := prog_1_method_34_code
def yX11_where : MethodName := ⟨RX11, "where", "(I)I"⟩
abbrev cX11_lamp : ByteArray := prog_1_method_35_code
def yX11_lamp : MethodName := ⟨RX11, "lamp", "(I)I"⟩
abbrev cX11_lit : ByteArray := prog_1_method_36_code
def yX11_lit : MethodName := ⟨RX11, "lit", "(II)J"⟩
abbrev cX11_watch : ByteArray := prog_1_method_37_code
def yX11_watch : MethodName := ⟨RX11, "watch", "(Z)I"⟩
abbrev cX11_penny : ByteArray := prog_1_method_38_code
def yX11_penny : MethodName := ⟨RX11, "penny", "()J"⟩
abbrev cX11_enough : ByteArray := prog_1_method_39_code
def yX11_enough : MethodName := ⟨RX11, "enough", "()I"⟩
abbrev cX11_marks : ByteArray := prog_1_method_40_code
def yX11_marks : MethodName := ⟨RX11, "marks", "()I"⟩
abbrev cX11_hides : ByteArray := prog_1_method_41_code
def yX11_hides : MethodName := ⟨RX11, "hides", "(I)J"⟩
abbrev cX11_bait : ByteArray := prog_1_method_42_code
def yX11_bait : MethodName := ⟨RX11, "bait", "(III)J"⟩
abbrev cX11_caught : ByteArray := prog_1_method_43_code
def yX11_caught : MethodName := ⟨RX11, "caught", "(IIII)J"⟩
abbrev cX11_lures : ByteArray := prog_1_method_44_code
def yX11_lures : MethodName := ⟨RX11, "lures", "(I)I"⟩
abbrev cX11_cover : ByteArray := prog_1_method_45_code
def yX11_cover : MethodName := ⟨RX11, "cover", "(III)J"⟩
abbrev cX11_careless : ByteArray := prog_1_method_46_code
def yX11_careless : MethodName := ⟨RX11, "careless", "(III)I"⟩
abbrev cX11_law : ByteArray := prog_1_method_47_code
def yX11_law : MethodName := ⟨RX11, "law", "(I)J"⟩
abbrev cX11_laws : ByteArray := prog_1_method_48_code
def yX11_laws : MethodName := ⟨RX11, "laws", "()I"⟩
abbrev cX11_rather : ByteArray := prog_1_method_49_code
def yX11_rather : MethodName := ⟨RX11, "rather", "(II)I"⟩
abbrev cX11_run : ByteArray := prog_1_method_50_code
def yX11_run : MethodName := ⟨RX11, "run", "(I)I"⟩
abbrev cX11_told : ByteArray := prog_1_method_51_code
def yX11_told : MethodName := ⟨RX11, "told", "(I)I"⟩
abbrev cX11_taken : ByteArray := prog_1_method_52_code
def yX11_taken : MethodName := ⟨RX11, "taken", "(I)I"⟩
abbrev cX11_took : ByteArray := prog_1_method_53_code
def yX11_took : MethodName := ⟨RX11, "took", "(I)I"⟩
abbrev cX11_years : ByteArray := prog_1_method_54_code
def yX11_years : MethodName := ⟨RX11, "years", "(III)J"⟩
abbrev cX11_count : ByteArray := prog_1_method_55_code
def yX11_count : MethodName := ⟨RX11, "count", "(I)I"⟩
abbrev cX11_keep : ByteArray := prog_1_method_56_code
def yX11_keep : MethodName := ⟨RX11, "keep", "(I)I"⟩
abbrev cX11_back : ByteArray := prog_1_method_57_code
def yX11_back : MethodName := ⟨RX11, "back", "(I)I"⟩
abbrev cX11_row : ByteArray := prog_1_method_58_code
def yX11_row : MethodName := ⟨RX11, "row", "(III)I"⟩
abbrev cX11_write : ByteArray := prog_1_method_59_code
def yX11_write : MethodName := ⟨RX11, "write", "(IIJ)I"⟩
abbrev cX11_paste : ByteArray := prog_1_method_60_code
def yX11_paste : MethodName := ⟨RX11, "paste", "(IIIII)I"⟩
abbrev cX11_isCost : ByteArray := prog_1_method_61_code
def yX11_isCost : MethodName := ⟨RX11, "isCost", "(I)Z"⟩
abbrev cX11_isBright : ByteArray := prog_1_method_62_code
def yX11_isBright : MethodName := ⟨RX11, "isBright", "(I)Z"⟩
abbrev cX11_isSeed : ByteArray := prog_1_method_63_code
def yX11_isSeed : MethodName := ⟨RX11, "isSeed", "(I)Z"⟩
abbrev cX11_isImage : ByteArray := prog_1_method_64_code
def yX11_isImage : MethodName := ⟨RX11, "isImage", "(I)Z"⟩
abbrev cX11_areTwo : ByteArray := prog_1_method_65_code
def yX11_areTwo : MethodName := ⟨RX11, "areTwo", "(II)Z"⟩
abbrev cX11_isCover : ByteArray := prog_1_method_66_code
def yX11_isCover : MethodName := ⟨RX11, "isCover", "(III)Z"⟩
abbrev cX11_refusedBait : ByteArray := prog_1_method_67_code
def yX11_refusedBait : MethodName := ⟨RX11, "refusedBait", "(III)I"⟩
abbrev cX11_lossOn : ByteArray := prog_1_method_68_code
def yX11_lossOn : MethodName := ⟨RX11, "lossOn", "(LLockRail$Rail;I)J"⟩
abbrev cX11_costOn : ByteArray := prog_1_method_69_code
def yX11_costOn : MethodName := ⟨RX11, "costOn", "(LLockRail$Rail;I)J"⟩
abbrev cX11_allOn : ByteArray := prog_1_method_70_code
def yX11_allOn : MethodName := ⟨RX11, "allOn", "(LLockRail$Rail;I)J"⟩
abbrev cX11_leastOption : ByteArray := prog_1_method_71_code
def yX11_leastOption : MethodName := ⟨RX11, "leastOption", "(LLockRail$Rail;IZ)I"⟩
abbrev cX11_roundsOn : ByteArray := prog_1_method_72_code
def yX11_roundsOn : MethodName := ⟨RX11, "roundsOn", "(LLockRail$Rail;I)I"⟩
abbrev cX11_changesOn : ByteArray := prog_1_method_73_code
def yX11_changesOn : MethodName := ⟨RX11, "changesOn", "(LLockRail$Rail;I)I"⟩
abbrev cX11_changeBetters : ByteArray := prog_1_method_74_code
def yX11_changeBetters : MethodName := ⟨RX11, "changeBetters", "(LLockRail$Rail;)Z"⟩
abbrev cX11_findGrownRisks : ByteArray := prog_1_method_75_code
def yX11_findGrownRisks : MethodName := ⟨RX11, "findGrownRisks", "(II)V"⟩
abbrev cX11_lossLit : ByteArray := prog_1_method_76_code
def yX11_lossLit : MethodName := ⟨RX11, "lossLit", "(II)J"⟩
abbrev cX11_findSpared : ByteArray := prog_1_method_77_code
def yX11_findSpared : MethodName := ⟨RX11, "findSpared", "()V"⟩
abbrev cX11_anyWanted : ByteArray := prog_1_method_78_code
def yX11_anyWanted : MethodName := ⟨RX11, "anyWanted", "(LLockRail$Rail;)Z"⟩
abbrev cX11_coveredOn : ByteArray := prog_1_method_79_code
def yX11_coveredOn : MethodName := ⟨RX11, "coveredOn", "(LLockRail$Rail;III)J"⟩
abbrev cX11_carelessOption : ByteArray := prog_1_method_80_code
def yX11_carelessOption : MethodName := ⟨RX11, "carelessOption", "(III)I"⟩
abbrev cX11_costByLaw : ByteArray := prog_1_method_81_code
def yX11_costByLaw : MethodName := ⟨RX11, "costByLaw", "(I)J"⟩
abbrev cX11_netTaken : ByteArray := prog_1_method_82_code
def yX11_netTaken : MethodName := ⟨RX11, "netTaken", "(LLockRail$Rail;I)I"⟩
def RX12 : String := "LockRailModel"
def TX12 : u_T := fun k => match k with
  | 0 => ("LockRailModel", "thrown", "I", false)
  | 1 => ("LockRailModel", "width", "[I", true)
  | 2 => ("LockRailModel", "many", "[I", true)
  | 3 => ("LockRailModel", "cells", "[J", true)
  | 4 => ("LockRailModel", "moved", "[J", true)
  | 5 => ("LockRailModel", "tape", "[B", true)
  | 6 => ("LockRailModel", "taped", "I", false)
  | 7 => ("LockRailModel", "at", "I", false)
  | 8 => ("LockRailModel", "token", "I", false)
  | 9 => ("LockRailModel", "place", "I", false)
  | 10 => ("LockRailModel", "value", "I", false)
  | 11 => ("LockRailModel", "word", "J", false)
  | 12 => ("LockRailModel", "bad", "I", false)
  | 13 => ("LockRailModel", "badPlace", "I", false)
  | 14 => ("LockRailModel", "fault", "I", false)
  | 15 => ("LockRailModel", "faultPlace", "I", false)
  | 16 => ("LockRailModel", "lines", "[I", true)
  | 17 => ("LockRailModel", "places", "[I", true)
  | 18 => ("LockRailModel", "nights", "[I", true)
  | 19 => ("LockRailModel", "lamps", "[I", true)
  | 20 => ("LockRailModel", "lamp", "[I", true)
  | 21 => ("LockRailModel", "locks", "[I", true)
  | 22 => ("LockRailModel", "lock", "[I", true)
  | 23 => ("LockRailModel", "bikes", "[I", true)
  | 24 => ("LockRailModel", "bike", "[I", true)
  | 25 => ("LockRailModel", "thieves", "[I", true)
  | 26 => ("LockRailModel", "thief", "[I", true)
  | 27 => ("LockRailModel", "set", "[I", true)
  | 28 => ("LockRailModel", "once", "[Z", true)
  | 29 => ("LockRailModel", "year", "[I", true)
  | 30 => ("LockRailModel", "isKept", "[Z", true)
  | 31 => ("LockRailModel", "moreAt", "I", false)
  | 32 => ("LockRailModel", "moreBright", "I", false)
  | 33 => ("LockRailModel", "troubles", "[I", true)
  | 34 => ("LockRailModel", "nets", "[I", true)
  | 35 => ("LockRailModel", "there", "I", false)
  | 36 => ("LockRailModel", "parts", "[J", true)
  | 37 => ("LockRailModel", "come", "[J", true)
  | 38 => ("LockRailModel", "hasOf", "[J", true)
  | 39 => ("LockRailModel", "leastCost", "J", false)
  | 40 => ("LockRailModel", "aside", "[I", true)
  | 41 => ("LockRailModel", "isSettled", "Z", false)
  | 42 => ("LockRailModel", "grows", "[J", true)
  | 43 => ("LockRailModel", "lessLost", "[J", true)
  | 44 => ("LockRailModel", "states", "[J", true)
  | 45 => ("LockRailModel", "coming", "[J", true)
  | 46 => ("LockRailModel", "byCaught", "[J", true)
  | 47 => ("LockRailModel", "baitLoss", "J", false)
  | 48 => ("LockRailModel", "leastCovered", "J", false)
  | 49 => ("LockRailModel", "drawn", "[I", true)
  | _ => ("LockRailModel", "x", "J", false)
def tyX12 : Nat → FieldType := fun k => match k with
  | 0 => .int
  | 1 => .array .int
  | 2 => .array .int
  | 3 => .array .long
  | 4 => .array .long
  | 5 => .array .byte
  | 6 => .int
  | 7 => .int
  | 8 => .int
  | 9 => .int
  | 10 => .int
  | 11 => .long
  | 12 => .int
  | 13 => .int
  | 14 => .int
  | 15 => .int
  | 16 => .array .int
  | 17 => .array .int
  | 18 => .array .int
  | 19 => .array .int
  | 20 => .array .int
  | 21 => .array .int
  | 22 => .array .int
  | 23 => .array .int
  | 24 => .array .int
  | 25 => .array .int
  | 26 => .array .int
  | 27 => .array .int
  | 28 => .array .boolean
  | 29 => .array .int
  | 30 => .array .boolean
  | 31 => .int
  | 32 => .int
  | 33 => .array .int
  | 34 => .array .int
  | 35 => .int
  | 36 => .array .long
  | 37 => .array .long
  | 38 => .array .long
  | 39 => .long
  | 40 => .array .int
  | 41 => .boolean
  | 42 => .array .long
  | 43 => .array .long
  | 44 => .array .long
  | 45 => .array .long
  | 46 => .array .long
  | 47 => .long
  | 48 => .long
  | 49 => .array .int
  | _ => .long
abbrev wsX120 : List Cond := u_ws RX12 TX12 51
theorem nmX12 : ∀ a, a < 51 → ∀ b, b < 51 → a ≠ b → (TX12 a).2.1 ≠ (TX12 b).2.1 := by decide +kernel
theorem tyX12_ok : ∀ k, k < 51 → parseFieldDescriptor (TX12 k).2.2.1 = some (tyX12 k) := by decide +kernel
abbrev cX12_init : ByteArray := prog_14_method_1_code
def yX12_init : MethodName := ⟨RX12, "<init>", "()V"⟩
abbrev cX12_in : ByteArray := prog_14_method_3_code
def yX12_in : MethodName := ⟨RX12, "in", "(JJJ)Z"⟩
abbrev cX12_isSlot : ByteArray := prog_14_method_4_code
def yX12_isSlot : MethodName := ⟨RX12, "isSlot", "(I)Z"⟩
abbrev cX12_row : ByteArray := prog_14_method_5_code
def yX12_row : MethodName := ⟨RX12, "row", "(III)I"⟩
abbrev cX12_cut : ByteArray := prog_14_method_6_code
def yX12_cut : MethodName := ⟨RX12, "cut", "(JI)J"⟩
abbrev cX12_write : ByteArray := prog_14_method_7_code
def yX12_write : MethodName := ⟨RX12, "write", "(IIJ)I"⟩
abbrev cX12_paste : ByteArray := prog_14_method_8_code
def yX12_paste : MethodName := ⟨RX12, "paste", "(IIIII)I"⟩
abbrev cX12_feed : ByteArray := prog_14_method_9_code
def yX12_feed : MethodName := ⟨RX12, "feed", "(IIIII)I"⟩
abbrev cX12_four : ByteArray := prog_14_method_10_code
def yX12_four : MethodName := ⟨RX12, "four", "(I)V"⟩
abbrev cX12_end : ByteArray := prog_14_method_11_code
def yX12_end : MethodName := ⟨RX12, "end", "(I)I"⟩
abbrev cX12_isByte : ByteArray := prog_14_method_12_code
def yX12_isByte : MethodName := ⟨RX12, "isByte", "(III)Z"⟩
abbrev cX12_next : ByteArray := prog_14_method_13_code
def yX12_next : MethodName := ⟨RX12, "next", "()V"⟩
abbrev cX12_isGood : ByteArray := prog_14_method_14_code
def yX12_isGood : MethodName := ⟨RX12, "isGood", "()Z"⟩
abbrev cX12_fails : ByteArray := prog_14_method_15_code
def yX12_fails : MethodName := ⟨RX12, "fails", "(I)V"⟩
abbrev cX12_is : ByteArray := prog_14_method_16_code
def yX12_is : MethodName := ⟨RX12, "is", "(J)Z"⟩
abbrev cX12_takes : ByteArray := prog_14_method_17_code
def yX12_takes : MethodName := ⟨RX12, "takes", "(J)Z"⟩
abbrev cX12_asks : ByteArray := prog_14_method_18_code
def yX12_asks : MethodName := ⟨RX12, "asks", "(J)V"⟩
abbrev cX12_number : ByteArray := prog_14_method_19_code
def yX12_number : MethodName := ⟨RX12, "number", "(II)I"⟩
abbrev cX12_number_ : ByteArray := prog_14_method_20_code
def yX12_number_ : MethodName := ⟨RX12, "number", "(JII)I"⟩
abbrev cX12_ends : ByteArray := prog_14_method_21_code
def yX12_ends : MethodName := ⟨RX12, "ends", "()V"⟩
abbrev cX12_begins : ByteArray := prog_14_method_22_code
def yX12_begins : MethodName := ⟨RX12, "begins", "()V"⟩
abbrev cX12_isOver : ByteArray := prog_14_method_23_code
def yX12_isOver : MethodName := ⟨RX12, "isOver", "()V"⟩
abbrev cX12_fault : ByteArray := prog_14_method_24_code
def yX12_fault : MethodName := ⟨RX12, "fault", "(I)I"⟩
abbrev cX12_lampLine : ByteArray := prog_14_method_25_code
def yX12_lampLine : MethodName := ⟨RX12, "lampLine", "()V"⟩
abbrev cX12_lockLine : ByteArray := prog_14_method_26_code
def yX12_lockLine : MethodName := ⟨RX12, "lockLine", "()V"⟩
abbrev cX12_bikeLine : ByteArray := prog_14_method_27_code
def yX12_bikeLine : MethodName := ⟨RX12, "bikeLine", "()V"⟩
abbrev cX12_thiefLine : ByteArray := prog_14_method_28_code
def yX12_thiefLine : MethodName := ⟨RX12, "thiefLine", "()V"⟩
abbrev cX12_onceLine : ByteArray := prog_14_method_29_code
def yX12_onceLine : MethodName := ⟨RX12, "onceLine", "(I)V"⟩
abbrev cX12_isFull : ByteArray := prog_14_method_30_code
def yX12_isFull : MethodName := ⟨RX12, "isFull", "(I)Z"⟩
abbrev cX12_line : ByteArray := prog_14_method_31_code
def yX12_line : MethodName := ⟨RX12, "line", "()V"⟩
abbrev cX12_railLine : ByteArray := prog_14_method_32_code
def yX12_railLine : MethodName := ⟨RX12, "railLine", "()V"⟩
abbrev cX12_clears : ByteArray := prog_14_method_33_code
def yX12_clears : MethodName := ⟨RX12, "clears", "()V"⟩
abbrev cX12_rail : ByteArray := prog_14_method_34_code
def yX12_rail : MethodName := ⟨RX12, "rail", "()I"⟩
abbrev cX12_copyRow : ByteArray := prog_14_method_35_code
def yX12_copyRow : MethodName := ⟨RX12, "copyRow", "([IIII)V"⟩
abbrev cX12_copyRail : ByteArray := prog_14_method_36_code
def yX12_copyRail : MethodName := ⟨RX12, "copyRail", "(II)V"⟩
abbrev cX12_apart : ByteArray := prog_14_method_37_code
def yX12_apart : MethodName := ⟨RX12, "apart", "(II)I"⟩
abbrev cX12_above : ByteArray := prog_14_method_38_code
def yX12_above : MethodName := ⟨RX12, "above", "(I)I"⟩
abbrev cX12_lightOf : ByteArray := prog_14_method_39_code
def yX12_lightOf : MethodName := ⟨RX12, "lightOf", "(II)I"⟩
abbrev cX12_isRail : ByteArray := prog_14_method_40_code
def yX12_isRail : MethodName := ⟨RX12, "isRail", "()Z"⟩
abbrev cX12_isPlace : ByteArray := prog_14_method_41_code
def yX12_isPlace : MethodName := ⟨RX12, "isPlace", "(I)Z"⟩
abbrev cX12_isBike : ByteArray := prog_14_method_42_code
def yX12_isBike : MethodName := ⟨RX12, "isBike", "(I)Z"⟩
abbrev cX12_isThief : ByteArray := prog_14_method_43_code
def yX12_isThief : MethodName := ⟨RX12, "isThief", "(I)Z"⟩
abbrev cX12_at : ByteArray := prog_14_method_44_code
def yX12_at : MethodName := ⟨RX12, "at", "(II)I"⟩
abbrev cX12_light : ByteArray := prog_14_method_45_code
def yX12_light : MethodName := ⟨RX12, "light", "(I)I"⟩
abbrev cX12_bike : ByteArray := prog_14_method_46_code
def yX12_bike : MethodName := ⟨RX12, "bike", "(II)I"⟩
abbrev cX12_troubleOf : ByteArray := prog_14_method_47_code
def yX12_troubleOf : MethodName := ⟨RX12, "troubleOf", "(III)I"⟩
abbrev cX12_markedOn : ByteArray := prog_14_method_48_code
def yX12_markedOn : MethodName := ⟨RX12, "markedOn", "(I)I"⟩
abbrev cX12_gainOf : ByteArray := prog_14_method_49_code
def yX12_gainOf : MethodName := ⟨RX12, "gainOf", "(II)I"⟩
abbrev cX12_trouble : ByteArray := prog_14_method_50_code
def yX12_trouble : MethodName := ⟨RX12, "trouble", "(II)I"⟩
abbrev cX12_gain : ByteArray := prog_14_method_51_code
def yX12_gain : MethodName := ⟨RX12, "gain", "(I)I"⟩
abbrev cX12_lays : ByteArray := prog_14_method_52_code
def yX12_lays : MethodName := ⟨RX12, "lays", "(I)V"⟩
abbrev cX12_takesOf : ByteArray := prog_14_method_53_code
def yX12_takesOf : MethodName := ⟨RX12, "takesOf", "(II)I"⟩
abbrev cX12_takes_ : ByteArray := prog_14_method_54_code
def yX12_takes_ : MethodName := ⟨RX12, "takes", "(II)I"⟩
abbrev cX12_wantsOf : ByteArray := prog_14_method_55_code
def yX12_wantsOf : MethodName := ⟨RX12, "wantsOf", "(I)I"⟩
abbrev cX12_wants : ByteArray := prog_14_method_56_code
def yX12_wants : MethodName := ⟨RX12, "wants", "(I)I"⟩
abbrev cX12_night : ByteArray := prog_14_method_57_code
def yX12_night : MethodName := ⟨RX12, "night", "()V"⟩
abbrev cX12_isSet : ByteArray := prog_14_method_58_code
def yX12_isSet : MethodName := ⟨RX12, "isSet", "(I)Z"⟩
abbrev cX12_part : ByteArray := prog_14_method_59_code
def yX12_part : MethodName := ⟨RX12, "part", "(I)J"⟩
abbrev cX12_sizeOf : ByteArray := prog_14_method_60_code
def yX12_sizeOf : MethodName := ⟨RX12, "sizeOf", "(I)I"⟩
abbrev cX12_many : ByteArray := prog_14_method_61_code
def yX12_many : MethodName := ⟨RX12, "many", "(I)J"⟩
abbrev cX12_riskOf : ByteArray := prog_14_method_62_code
def yX12_riskOf : MethodName := ⟨RX12, "riskOf", "(I)J"⟩
abbrev cX12_riskNow : ByteArray := prog_14_method_63_code
def yX12_riskNow : MethodName := ⟨RX12, "riskNow", "(I)J"⟩
abbrev cX12_risk : ByteArray := prog_14_method_64_code
def yX12_risk : MethodName := ⟨RX12, "risk", "(I)J"⟩
abbrev cX12_has : ByteArray := prog_14_method_65_code
def yX12_has : MethodName := ⟨RX12, "has", "(II)J"⟩
abbrev cX12_paidOf : ByteArray := prog_14_method_66_code
def yX12_paidOf : MethodName := ⟨RX12, "paidOf", "(I)J"⟩
abbrev cX12_lossOf : ByteArray := prog_14_method_67_code
def yX12_lossOf : MethodName := ⟨RX12, "lossOf", "(I)J"⟩
abbrev cX12_wages : ByteArray := prog_14_method_68_code
def yX12_wages : MethodName := ⟨RX12, "wages", "()J"⟩
abbrev cX12_costOf : ByteArray := prog_14_method_69_code
def yX12_costOf : MethodName := ⟨RX12, "costOf", "(I)J"⟩
abbrev cX12_whatOf : ByteArray := prog_14_method_70_code
def yX12_whatOf : MethodName := ⟨RX12, "whatOf", "(II)J"⟩
abbrev cX12_cost : ByteArray := prog_14_method_71_code
def yX12_cost : MethodName := ⟨RX12, "cost", "(II)J"⟩
abbrev cX12_allNow : ByteArray := prog_14_method_72_code
def yX12_allNow : MethodName := ⟨RX12, "allNow", "(I)J"⟩
abbrev cX12_all : ByteArray := prog_14_method_73_code
def yX12_all : MethodName := ⟨RX12, "all", "(I)J"⟩
abbrev cX12_costNow : ByteArray := prog_14_method_74_code
def yX12_costNow : MethodName := ⟨RX12, "costNow", "(I)J"⟩
abbrev cX12_optionMany : ByteArray := prog_14_method_75_code
def yX12_optionMany : MethodName := ⟨RX12, "optionMany", "()I"⟩
abbrev cX12_isOption : ByteArray := prog_14_method_76_code
def yX12_isOption : MethodName := ⟨RX12, "isOption", "(I)Z"⟩
abbrev cX12_optionOf : ByteArray := prog_14_method_77_code
def yX12_optionOf : MethodName := ⟨RX12, "optionOf", "(I)I"⟩
abbrev cX12_hasOption : ByteArray := prog_14_method_78_code
def yX12_hasOption : MethodName := ⟨RX12, "hasOption", "(II)V"⟩
abbrev cX12_option : ByteArray := prog_14_method_79_code
def yX12_option : MethodName := ⟨RX12, "option", "(II)I"⟩
abbrev cX12_wouldOf : ByteArray := prog_14_method_80_code
def yX12_wouldOf : MethodName := ⟨RX12, "wouldOf", "(II)J"⟩
abbrev cX12_would : ByteArray := prog_14_method_81_code
def yX12_would : MethodName := ⟨RX12, "would", "(II)J"⟩
abbrev cX12_bestOf : ByteArray := prog_14_method_82_code
def yX12_bestOf : MethodName := ⟨RX12, "bestOf", "(I)I"⟩
abbrev cX12_best : ByteArray := prog_14_method_83_code
def yX12_best : MethodName := ⟨RX12, "best", "(I)I"⟩
abbrev cX12_restless : ByteArray := prog_14_method_84_code
def yX12_restless : MethodName := ⟨RX12, "restless", "()I"⟩
abbrev cX12_round : ByteArray := prog_14_method_85_code
def yX12_round : MethodName := ⟨RX12, "round", "()Z"⟩
abbrev cX12_laysAside : ByteArray := prog_14_method_86_code
def yX12_laysAside : MethodName := ⟨RX12, "laysAside", "()V"⟩
abbrev cX12_takesBack : ByteArray := prog_14_method_87_code
def yX12_takesBack : MethodName := ⟨RX12, "takesBack", "()V"⟩
abbrev cX12_settlesIn : ByteArray := prog_14_method_88_code
def yX12_settlesIn : MethodName := ⟨RX12, "settlesIn", "(I)I"⟩
abbrev cX12_settle : ByteArray := prog_14_method_89_code
def yX12_settle : MethodName := ⟨RX12, "settle", "(I)I"⟩
abbrev cX12_settles : ByteArray := prog_14_method_90_code
def yX12_settles : MethodName := ⟨RX12, "settles", "()I"⟩
abbrev cX12_settled : ByteArray := prog_14_method_91_code
def yX12_settled : MethodName := ⟨RX12, "settled", "()J"⟩
abbrev cX12_changes : ByteArray := prog_14_method_92_code
def yX12_changes : MethodName := ⟨RX12, "changes", "()Z"⟩
abbrev cX12_betters : ByteArray := prog_14_method_93_code
def yX12_betters : MethodName := ⟨RX12, "betters", "(I)I"⟩
abbrev cX12_better : ByteArray := prog_14_method_94_code
def yX12_better : MethodName := ⟨RX12, "better", "(I)I"⟩
abbrev cX12_good : ByteArray := prog_14_method_95_code
def yX12_good : MethodName := ⟨RX12, "good", "()J"⟩
abbrev cX12_areTwo : ByteArray := prog_14_method_96_code
def yX12_areTwo : MethodName := ⟨RX12, "areTwo", "(II)Z"⟩
abbrev cX12_pair : ByteArray := prog_14_method_97_code
def yX12_pair : MethodName := ⟨RX12, "pair", "(II)I"⟩
abbrev cX12_wasted : ByteArray := prog_14_method_98_code
def yX12_wasted : MethodName := ⟨RX12, "wasted", "()J"⟩
abbrev cX12_laysGrowth : ByteArray := prog_14_method_99_code
def yX12_laysGrowth : MethodName := ⟨RX12, "laysGrowth", "(II)V"⟩
abbrev cX12_beside : ByteArray := prog_14_method_100_code
def yX12_beside : MethodName := ⟨RX12, "beside", "(III)J"⟩
abbrev cX12_worse : ByteArray := prog_14_method_101_code
def yX12_worse : MethodName := ⟨RX12, "worse", "(II)I"⟩
abbrev cX12_next_ : ByteArray := prog_14_method_102_code
def yX12_next_ : MethodName := ⟨RX12, "next", "(II)I"⟩
abbrev cX12_standsAt : ByteArray := prog_14_method_103_code
def yX12_standsAt : MethodName := ⟨RX12, "standsAt", "(I)I"⟩
abbrev cX12_move : ByteArray := prog_14_method_104_code
def yX12_move : MethodName := ⟨RX12, "move", "(II)I"⟩
abbrev cX12_swap : ByteArray := prog_14_method_105_code
def yX12_swap : MethodName := ⟨RX12, "swap", "(II)I"⟩
abbrev cX12_where : ByteArray := prog_14_method_106_code
def yX12_where : MethodName := ⟨RX12, "where", "(I)I"⟩
abbrev cX12_litBy : ByteArray := prog_14_method_107_code
def yX12_litBy : MethodName := ⟨RX12, "litBy", "(II)J"⟩
abbrev cX12_isBright : ByteArray := prog_14_method_108_code
def yX12_isBright : MethodName := ⟨RX12, "isBright", "(I)Z"⟩
abbrev cX12_lamp : ByteArray := prog_14_method_109_code
def yX12_lamp : MethodName := ⟨RX12, "lamp", "(I)I"⟩
abbrev cX12_lit : ByteArray := prog_14_method_110_code
def yX12_lit : MethodName := ⟨RX12, "lit", "(II)J"⟩
abbrev cX12_watch : ByteArray := prog_14_method_111_code
def yX12_watch : MethodName := ⟨RX12, "watch", "(Z)I"⟩
abbrev cX12_laysWatch : ByteArray := prog_14_method_112_code
def yX12_laysWatch : MethodName := ⟨RX12, "laysWatch", "()V"⟩
abbrev cX12_penny : ByteArray := prog_14_method_113_code
def yX12_penny : MethodName := ⟨RX12, "penny", "()J"⟩
abbrev cX12_enough : ByteArray := prog_14_method_114_code
def yX12_enough : MethodName := ⟨RX12, "enough", "()I"⟩
abbrev cX12_marksSet : ByteArray := prog_14_method_115_code
def yX12_marksSet : MethodName := ⟨RX12, "marksSet", "(I)V"⟩
abbrev cX12_isWanted : ByteArray := prog_14_method_116_code
def yX12_isWanted : MethodName := ⟨RX12, "isWanted", "()Z"⟩
abbrev cX12_marks : ByteArray := prog_14_method_117_code
def yX12_marks : MethodName := ⟨RX12, "marks", "()I"⟩
abbrev cX12_hides : ByteArray := prog_14_method_118_code
def yX12_hides : MethodName := ⟨RX12, "hides", "(I)J"⟩
abbrev cX12_state : ByteArray := prog_14_method_119_code
def yX12_state : MethodName := ⟨RX12, "state", "(II)I"⟩
abbrev cX12_thiefGoes : ByteArray := prog_14_method_120_code
def yX12_thiefGoes : MethodName := ⟨RX12, "thiefGoes", "(II)V"⟩
abbrev cX12_baits : ByteArray := prog_14_method_121_code
def yX12_baits : MethodName := ⟨RX12, "baits", "(III)V"⟩
abbrev cX12_whyNot : ByteArray := prog_14_method_122_code
def yX12_whyNot : MethodName := ⟨RX12, "whyNot", "(III)I"⟩
abbrev cX12_bait : ByteArray := prog_14_method_123_code
def yX12_bait : MethodName := ⟨RX12, "bait", "(III)J"⟩
abbrev cX12_caught : ByteArray := prog_14_method_124_code
def yX12_caught : MethodName := ⟨RX12, "caught", "(IIII)J"⟩
abbrev cX12_lures : ByteArray := prog_14_method_125_code
def yX12_lures : MethodName := ⟨RX12, "lures", "(I)I"⟩
abbrev cX12_covers : ByteArray := prog_14_method_126_code
def yX12_covers : MethodName := ⟨RX12, "covers", "(III)I"⟩
abbrev cX12_isCover : ByteArray := prog_14_method_127_code
def yX12_isCover : MethodName := ⟨RX12, "isCover", "(III)Z"⟩
abbrev cX12_cover : ByteArray := prog_14_method_128_code
def yX12_cover : MethodName := ⟨RX12, "cover", "(III)J"⟩
abbrev cX12_careless : ByteArray := prog_14_method_129_code
def yX12_careless : MethodName := ⟨RX12, "careless", "(III)I"⟩
abbrev cX12_byLaw : ByteArray := prog_14_method_130_code
def yX12_byLaw : MethodName := ⟨RX12, "byLaw", "(I)J"⟩
abbrev cX12_law : ByteArray := prog_14_method_131_code
def yX12_law : MethodName := ⟨RX12, "law", "(I)J"⟩
abbrev cX12_laws : ByteArray := prog_14_method_132_code
def yX12_laws : MethodName := ⟨RX12, "laws", "()I"⟩
abbrev cX12_netOn : ByteArray := prog_14_method_133_code
def yX12_netOn : MethodName := ⟨RX12, "netOn", "(II)I"⟩
abbrev cX12_rather : ByteArray := prog_14_method_134_code
def yX12_rather : MethodName := ⟨RX12, "rather", "(II)I"⟩
abbrev cX12_draw : ByteArray := prog_14_method_135_code
def yX12_draw : MethodName := ⟨RX12, "draw", "()I"⟩
abbrev cX12_newYear : ByteArray := prog_14_method_136_code
def yX12_newYear : MethodName := ⟨RX12, "newYear", "()V"⟩
abbrev cX12_comes : ByteArray := prog_14_method_137_code
def yX12_comes : MethodName := ⟨RX12, "comes", "(II)I"⟩
abbrev cX12_drawnAll : ByteArray := prog_14_method_138_code
def yX12_drawnAll : MethodName := ⟨RX12, "drawnAll", "()I"⟩
abbrev cX12_draws : ByteArray := prog_14_method_139_code
def yX12_draws : MethodName := ⟨RX12, "draws", "(J)V"⟩
abbrev cX12_tellsYear : ByteArray := prog_14_method_140_code
def yX12_tellsYear : MethodName := ⟨RX12, "tellsYear", "()I"⟩
abbrev cX12_isSeed : ByteArray := prog_14_method_141_code
def yX12_isSeed : MethodName := ⟨RX12, "isSeed", "(I)Z"⟩
abbrev cX12_run : ByteArray := prog_14_method_142_code
def yX12_run : MethodName := ⟨RX12, "run", "(I)I"⟩
abbrev cX12_told : ByteArray := prog_14_method_143_code
def yX12_told : MethodName := ⟨RX12, "told", "(I)I"⟩
abbrev cX12_taken : ByteArray := prog_14_method_144_code
def yX12_taken : MethodName := ⟨RX12, "taken", "(I)I"⟩
abbrev cX12_took : ByteArray := prog_14_method_145_code
def yX12_took : MethodName := ⟨RX12, "took", "(I)I"⟩
abbrev cX12_years : ByteArray := prog_14_method_146_code
def yX12_years : MethodName := ⟨RX12, "years", "(III)J"⟩
abbrev cX12_count : ByteArray := prog_14_method_147_code
def yX12_count : MethodName := ⟨RX12, "count", "(I)I"⟩
abbrev cX12_keep : ByteArray := prog_14_method_148_code
def yX12_keep : MethodName := ⟨RX12, "keep", "(I)I"⟩
abbrev cX12_back : ByteArray := prog_14_method_149_code
def yX12_back : MethodName := ⟨RX12, "back", "(I)I"⟩
def RJ6 : String := "java/lang/Integer"
def TJ6 : u_T := fun k => match k with
  | _ => ("", "", "", false)
def tyJ6 : Nat → FieldType := fun k => match k with
  | _ => .int
abbrev wsJ60 : List Cond := u_ws RJ6 TJ6 0
theorem nmJ6 : ∀ a, a < 0 → ∀ b, b < 0 → a ≠ b → (TJ6 a).2.1 ≠ (TJ6 b).2.1 := by decide +kernel
theorem tyJ6_ok : ∀ k, k < 0 → parseFieldDescriptor (TJ6 k).2.2.1 = some (tyJ6 k) := by decide +kernel
abbrev cJ6_bitCount_0f7a4 : ByteArray := prog_15_method_49_code
def yJ6_bitCount_0f7a4 : MethodName := ⟨RJ6, "bitCount", "(I)I"⟩
def RJ9 : String := "java/lang/Math"
def TJ9 : u_T := fun k => match k with
  | _ => ("", "", "", false)
def tyJ9 : Nat → FieldType := fun k => match k with
  | _ => .int
abbrev wsJ90 : List Cond := u_ws RJ9 TJ9 0
theorem nmJ9 : ∀ a, a < 0 → ∀ b, b < 0 → a ≠ b → (TJ9 a).2.1 ≠ (TJ9 b).2.1 := by decide +kernel
theorem tyJ9_ok : ∀ k, k < 0 → parseFieldDescriptor (TJ9 k).2.2.1 = some (tyJ9 k) := by decide +kernel
abbrev cJ9_abs_0f7a4 : ByteArray := prog_16_method_59_code
def yJ9_abs_0f7a4 : MethodName := ⟨RJ9, "abs", "(I)I"⟩
abbrev cJ9_max_7cf53 : ByteArray := prog_16_method_65_code
def yJ9_max_7cf53 : MethodName := ⟨RJ9, "max", "(II)I"⟩
abbrev cJ9_max_f86c9 : ByteArray := prog_16_method_66_code
def yJ9_max_f86c9 : MethodName := ⟨RJ9, "max", "(JJ)J"⟩
abbrev cJ9_min_7cf53 : ByteArray := prog_16_method_69_code
def yJ9_min_7cf53 : MethodName := ⟨RJ9, "min", "(II)I"⟩
def RJ0 : String := "java/lang/String"
def TJ0 : u_T := fun k => match k with
  | _ => ("", "", "", false)
def tyJ0 : Nat → FieldType := fun k => match k with
  | _ => .int
abbrev wsJ00 : List Cond := u_ws RJ0 TJ0 0
theorem nmJ0 : ∀ a, a < 0 → ∀ b, b < 0 → a ≠ b → (TJ0 a).2.1 ≠ (TJ0 b).2.1 := by decide +kernel
theorem tyJ0_ok : ∀ k, k < 0 → parseFieldDescriptor (TJ0 k).2.2.1 = some (tyJ0 k) := by decide +kernel
abbrev cJ0_length_8abf5 : ByteArray := prog_17_method_54_code
def yJ0_length_8abf5 : MethodName := ⟨RJ0, "length", "()I"⟩
abbrev cJ0_charAt_5068e : ByteArray := prog_17_method_56_code
def yJ0_charAt_5068e : MethodName := ⟨RJ0, "charAt", "(I)C"⟩
abbrev cJ0_coder_7d493 : ByteArray := prog_17_method_152_code
def yJ0_coder_7d493 : MethodName := ⟨RJ0, "coder", "()B"⟩
abbrev cJ0_isLatin1_aae02 : ByteArray := prog_17_method_154_code
def yJ0_isLatin1_aae02 : MethodName := ⟨RJ0, "isLatin1", "()Z"⟩
abbrev cJ0_checkIndex_df160 : ByteArray := prog_17_method_155_code
def yJ0_checkIndex_df160 : MethodName := ⟨RJ0, "checkIndex", "(II)V"⟩
def RJ1 : String := "java/lang/StringLatin1"
def TJ1 : u_T := fun k => match k with
  | _ => ("", "", "", false)
def tyJ1 : Nat → FieldType := fun k => match k with
  | _ => .int
abbrev wsJ10 : List Cond := u_ws RJ1 TJ1 0
theorem nmJ1 : ∀ a, a < 0 → ∀ b, b < 0 → a ≠ b → (TJ1 a).2.1 ≠ (TJ1 b).2.1 := by decide +kernel
theorem tyJ1_ok : ∀ k, k < 0 → parseFieldDescriptor (TJ1 k).2.2.1 = some (tyJ1 k) := by decide +kernel
abbrev cJ1_charAt_3b067 : ByteArray := prog_18_method_2_code
def yJ1_charAt_3b067 : MethodName := ⟨RJ1, "charAt", "([BI)C"⟩
def RJ2 : String := "java/lang/StringUTF16"
def TJ2 : u_T := fun k => match k with
  | _ => ("", "", "", false)
def tyJ2 : Nat → FieldType := fun k => match k with
  | _ => .int
abbrev wsJ20 : List Cond := u_ws RJ2 TJ2 0
theorem nmJ2 : ∀ a, a < 0 → ∀ b, b < 0 → a ≠ b → (TJ2 a).2.1 ≠ (TJ2 b).2.1 := by decide +kernel
theorem tyJ2_ok : ∀ k, k < 0 → parseFieldDescriptor (TJ2 k).2.2.1 = some (tyJ2 k) := by decide +kernel
abbrev cJ2_getChar_3b067 : ByteArray := prog_19_method_5_code
def yJ2_getChar_3b067 : MethodName := ⟨RJ2, "getChar", "([BI)C"⟩
abbrev cJ2_length_9d52b : ByteArray := prog_19_method_6_code
def yJ2_length_9d52b : MethodName := ⟨RJ2, "length", "([B)I"⟩
abbrev cJ2_charAt_3b067 : ByteArray := prog_19_method_83_code
def yJ2_charAt_3b067 : MethodName := ⟨RJ2, "charAt", "([BI)C"⟩
abbrev cJ2_checkIndex_2214a : ByteArray := prog_19_method_91_code
def yJ2_checkIndex_2214a : MethodName := ⟨RJ2, "checkIndex", "(I[B)V"⟩
def RJ10 : String := "java/lang/System"
def TJ10 : u_T := fun k => match k with
  | _ => ("", "", "", false)
def tyJ10 : Nat → FieldType := fun k => match k with
  | _ => .int
abbrev wsJ100 : List Cond := u_ws RJ10 TJ10 0
theorem nmJ10 : ∀ a, a < 0 → ∀ b, b < 0 → a ≠ b → (TJ10 a).2.1 ≠ (TJ10 b).2.1 := by decide +kernel
theorem tyJ10_ok : ∀ k, k < 0 → parseFieldDescriptor (TJ10 k).2.2.1 = some (tyJ10 k) := by decide +kernel
def RJ3 : String := "jdk/internal/util/Preconditions"
def TJ3 : u_T := fun k => match k with
  | _ => ("", "", "", false)
def tyJ3 : Nat → FieldType := fun k => match k with
  | _ => .int
abbrev wsJ30 : List Cond := u_ws RJ3 TJ3 0
theorem nmJ3 : ∀ a, a < 0 → ∀ b, b < 0 → a ≠ b → (TJ3 a).2.1 ≠ (TJ3 b).2.1 := by decide +kernel
theorem tyJ3_ok : ∀ k, k < 0 → parseFieldDescriptor (TJ3 k).2.2.1 = some (tyJ3 k) := by decide +kernel
abbrev cJ3_checkIndex_8e157 : ByteArray := prog_21_method_11_code
def yJ3_checkIndex_8e157 : MethodName := ⟨RJ3, "checkIndex", "(IILjava/util/function/BiFunction;)I"⟩
def RL : String := "LockRailLaw"
abbrev cL_law : ByteArray := code
def yL_law : MethodName := ⟨RL, "law", "([I)Z"⟩
abbrev vwCl : List vw_C := [(RX0, TX0, 6), (RX1, TX1, 3), (RX2, TX2, 3), (RX3, TX3, 10), (RX4, TX4, 16), (RX5, TX5, 3), (RX6, TX6, 3), (RX7, TX7, 5), (RX8, TX8, 6), (RX9, TX9, 6), (RX10, TX10, 3), (RX11, TX11, 8), (RX12, TX12, 51)]
end
section
theorem slJ6_bitCount_0f7a4_0 : (cJ6_bitCount_0f7a4.data.toList.drop 0).take 20 = [26, 26, 4, 124, 19, 1, 9, 126, 100, 59, 26, 19, 1, 10, 126, 26, 5, 124, 19, 1] := by decide +kernel
theorem dJ6_bitCount_0f7a4_0 : decode cJ6_bitCount_0f7a4 0 = .ok (.iload_n 0, 1) := op_26 (pc := 0) (q_b slJ6_bitCount_0f7a4_0 (j := 0) rfl)
theorem dJ6_bitCount_0f7a4_1 : decode cJ6_bitCount_0f7a4 1 = .ok (.iload_n 0, 1) := op_26 (pc := 1) (q_b slJ6_bitCount_0f7a4_0 (j := 1) rfl)
theorem dJ6_bitCount_0f7a4_2 : decode cJ6_bitCount_0f7a4 2 = .ok (.iconst 1, 1) := op_4 (pc := 2) (q_b slJ6_bitCount_0f7a4_0 (j := 2) rfl)
theorem dJ6_bitCount_0f7a4_3 : decode cJ6_bitCount_0f7a4 3 = .ok (.iushr, 1) := op_124 (pc := 3) (q_b slJ6_bitCount_0f7a4_0 (j := 3) rfl)
theorem dJ6_bitCount_0f7a4_4 : decode cJ6_bitCount_0f7a4 4 = .ok (.ldc_w 265, 3) := op_19 (pc := 4) (x := 1) (y := 9) (q_b slJ6_bitCount_0f7a4_0 (j := 4) rfl) (q_b slJ6_bitCount_0f7a4_0 (j := 5) rfl) (q_b slJ6_bitCount_0f7a4_0 (j := 6) rfl)
theorem dJ6_bitCount_0f7a4_7 : decode cJ6_bitCount_0f7a4 7 = .ok (.iand, 1) := op_126 (pc := 7) (q_b slJ6_bitCount_0f7a4_0 (j := 7) rfl)
theorem dJ6_bitCount_0f7a4_8 : decode cJ6_bitCount_0f7a4 8 = .ok (.isub, 1) := op_100 (pc := 8) (q_b slJ6_bitCount_0f7a4_0 (j := 8) rfl)
theorem dJ6_bitCount_0f7a4_9 : decode cJ6_bitCount_0f7a4 9 = .ok (.istore_n 0, 1) := op_59 (pc := 9) (q_b slJ6_bitCount_0f7a4_0 (j := 9) rfl)
theorem dJ6_bitCount_0f7a4_10 : decode cJ6_bitCount_0f7a4 10 = .ok (.iload_n 0, 1) := op_26 (pc := 10) (q_b slJ6_bitCount_0f7a4_0 (j := 10) rfl)
theorem dJ6_bitCount_0f7a4_11 : decode cJ6_bitCount_0f7a4 11 = .ok (.ldc_w 266, 3) := op_19 (pc := 11) (x := 1) (y := 10) (q_b slJ6_bitCount_0f7a4_0 (j := 11) rfl) (q_b slJ6_bitCount_0f7a4_0 (j := 12) rfl) (q_b slJ6_bitCount_0f7a4_0 (j := 13) rfl)
theorem dJ6_bitCount_0f7a4_14 : decode cJ6_bitCount_0f7a4 14 = .ok (.iand, 1) := op_126 (pc := 14) (q_b slJ6_bitCount_0f7a4_0 (j := 14) rfl)
theorem dJ6_bitCount_0f7a4_15 : decode cJ6_bitCount_0f7a4 15 = .ok (.iload_n 0, 1) := op_26 (pc := 15) (q_b slJ6_bitCount_0f7a4_0 (j := 15) rfl)
theorem slJ6_bitCount_0f7a4_1 : (cJ6_bitCount_0f7a4.data.toList.drop 16).take 20 = [5, 124, 19, 1, 10, 126, 96, 59, 26, 26, 7, 124, 96, 19, 1, 11, 126, 59, 26, 26] := by decide +kernel
theorem dJ6_bitCount_0f7a4_16 : decode cJ6_bitCount_0f7a4 16 = .ok (.iconst 2, 1) := op_5 (pc := 16) (q_b slJ6_bitCount_0f7a4_1 (j := 0) rfl)
theorem dJ6_bitCount_0f7a4_17 : decode cJ6_bitCount_0f7a4 17 = .ok (.iushr, 1) := op_124 (pc := 17) (q_b slJ6_bitCount_0f7a4_1 (j := 1) rfl)
theorem dJ6_bitCount_0f7a4_18 : decode cJ6_bitCount_0f7a4 18 = .ok (.ldc_w 266, 3) := op_19 (pc := 18) (x := 1) (y := 10) (q_b slJ6_bitCount_0f7a4_1 (j := 2) rfl) (q_b slJ6_bitCount_0f7a4_1 (j := 3) rfl) (q_b slJ6_bitCount_0f7a4_1 (j := 4) rfl)
theorem dJ6_bitCount_0f7a4_21 : decode cJ6_bitCount_0f7a4 21 = .ok (.iand, 1) := op_126 (pc := 21) (q_b slJ6_bitCount_0f7a4_1 (j := 5) rfl)
theorem dJ6_bitCount_0f7a4_22 : decode cJ6_bitCount_0f7a4 22 = .ok (.iadd, 1) := op_96 (pc := 22) (q_b slJ6_bitCount_0f7a4_1 (j := 6) rfl)
theorem dJ6_bitCount_0f7a4_23 : decode cJ6_bitCount_0f7a4 23 = .ok (.istore_n 0, 1) := op_59 (pc := 23) (q_b slJ6_bitCount_0f7a4_1 (j := 7) rfl)
theorem dJ6_bitCount_0f7a4_24 : decode cJ6_bitCount_0f7a4 24 = .ok (.iload_n 0, 1) := op_26 (pc := 24) (q_b slJ6_bitCount_0f7a4_1 (j := 8) rfl)
theorem dJ6_bitCount_0f7a4_25 : decode cJ6_bitCount_0f7a4 25 = .ok (.iload_n 0, 1) := op_26 (pc := 25) (q_b slJ6_bitCount_0f7a4_1 (j := 9) rfl)
theorem dJ6_bitCount_0f7a4_26 : decode cJ6_bitCount_0f7a4 26 = .ok (.iconst 4, 1) := op_7 (pc := 26) (q_b slJ6_bitCount_0f7a4_1 (j := 10) rfl)
theorem dJ6_bitCount_0f7a4_27 : decode cJ6_bitCount_0f7a4 27 = .ok (.iushr, 1) := op_124 (pc := 27) (q_b slJ6_bitCount_0f7a4_1 (j := 11) rfl)
theorem dJ6_bitCount_0f7a4_28 : decode cJ6_bitCount_0f7a4 28 = .ok (.iadd, 1) := op_96 (pc := 28) (q_b slJ6_bitCount_0f7a4_1 (j := 12) rfl)
theorem dJ6_bitCount_0f7a4_29 : decode cJ6_bitCount_0f7a4 29 = .ok (.ldc_w 267, 3) := op_19 (pc := 29) (x := 1) (y := 11) (q_b slJ6_bitCount_0f7a4_1 (j := 13) rfl) (q_b slJ6_bitCount_0f7a4_1 (j := 14) rfl) (q_b slJ6_bitCount_0f7a4_1 (j := 15) rfl)
theorem slJ6_bitCount_0f7a4_2 : (cJ6_bitCount_0f7a4.data.toList.drop 32).take 20 = [126, 59, 26, 26, 16, 8, 124, 96, 59, 26, 26, 16, 16, 124, 96, 59, 26, 16, 63, 126] := by decide +kernel
theorem dJ6_bitCount_0f7a4_32 : decode cJ6_bitCount_0f7a4 32 = .ok (.iand, 1) := op_126 (pc := 32) (q_b slJ6_bitCount_0f7a4_2 (j := 0) rfl)
theorem dJ6_bitCount_0f7a4_33 : decode cJ6_bitCount_0f7a4 33 = .ok (.istore_n 0, 1) := op_59 (pc := 33) (q_b slJ6_bitCount_0f7a4_2 (j := 1) rfl)
theorem dJ6_bitCount_0f7a4_34 : decode cJ6_bitCount_0f7a4 34 = .ok (.iload_n 0, 1) := op_26 (pc := 34) (q_b slJ6_bitCount_0f7a4_2 (j := 2) rfl)
theorem dJ6_bitCount_0f7a4_35 : decode cJ6_bitCount_0f7a4 35 = .ok (.iload_n 0, 1) := op_26 (pc := 35) (q_b slJ6_bitCount_0f7a4_2 (j := 3) rfl)
theorem dJ6_bitCount_0f7a4_36 : decode cJ6_bitCount_0f7a4 36 = .ok (.bipush 8, 2) := op_16 (pc := 36) (x := 8) (q_b slJ6_bitCount_0f7a4_2 (j := 4) rfl) (q_b slJ6_bitCount_0f7a4_2 (j := 5) rfl)
theorem dJ6_bitCount_0f7a4_38 : decode cJ6_bitCount_0f7a4 38 = .ok (.iushr, 1) := op_124 (pc := 38) (q_b slJ6_bitCount_0f7a4_2 (j := 6) rfl)
theorem dJ6_bitCount_0f7a4_39 : decode cJ6_bitCount_0f7a4 39 = .ok (.iadd, 1) := op_96 (pc := 39) (q_b slJ6_bitCount_0f7a4_2 (j := 7) rfl)
theorem dJ6_bitCount_0f7a4_40 : decode cJ6_bitCount_0f7a4 40 = .ok (.istore_n 0, 1) := op_59 (pc := 40) (q_b slJ6_bitCount_0f7a4_2 (j := 8) rfl)
theorem dJ6_bitCount_0f7a4_41 : decode cJ6_bitCount_0f7a4 41 = .ok (.iload_n 0, 1) := op_26 (pc := 41) (q_b slJ6_bitCount_0f7a4_2 (j := 9) rfl)
theorem dJ6_bitCount_0f7a4_42 : decode cJ6_bitCount_0f7a4 42 = .ok (.iload_n 0, 1) := op_26 (pc := 42) (q_b slJ6_bitCount_0f7a4_2 (j := 10) rfl)
theorem dJ6_bitCount_0f7a4_43 : decode cJ6_bitCount_0f7a4 43 = .ok (.bipush 16, 2) := op_16 (pc := 43) (x := 16) (q_b slJ6_bitCount_0f7a4_2 (j := 11) rfl) (q_b slJ6_bitCount_0f7a4_2 (j := 12) rfl)
theorem dJ6_bitCount_0f7a4_45 : decode cJ6_bitCount_0f7a4 45 = .ok (.iushr, 1) := op_124 (pc := 45) (q_b slJ6_bitCount_0f7a4_2 (j := 13) rfl)
theorem dJ6_bitCount_0f7a4_46 : decode cJ6_bitCount_0f7a4 46 = .ok (.iadd, 1) := op_96 (pc := 46) (q_b slJ6_bitCount_0f7a4_2 (j := 14) rfl)
theorem dJ6_bitCount_0f7a4_47 : decode cJ6_bitCount_0f7a4 47 = .ok (.istore_n 0, 1) := op_59 (pc := 47) (q_b slJ6_bitCount_0f7a4_2 (j := 15) rfl)
theorem slJ6_bitCount_0f7a4_3 : (cJ6_bitCount_0f7a4.data.toList.drop 48).take 20 = [26, 16, 63, 126, 172] := by decide +kernel
theorem dJ6_bitCount_0f7a4_48 : decode cJ6_bitCount_0f7a4 48 = .ok (.iload_n 0, 1) := op_26 (pc := 48) (q_b slJ6_bitCount_0f7a4_3 (j := 0) rfl)
theorem dJ6_bitCount_0f7a4_49 : decode cJ6_bitCount_0f7a4 49 = .ok (.bipush 63, 2) := op_16 (pc := 49) (x := 63) (q_b slJ6_bitCount_0f7a4_3 (j := 1) rfl) (q_b slJ6_bitCount_0f7a4_3 (j := 2) rfl)
theorem dJ6_bitCount_0f7a4_51 : decode cJ6_bitCount_0f7a4 51 = .ok (.iand, 1) := op_126 (pc := 51) (q_b slJ6_bitCount_0f7a4_3 (j := 3) rfl)
theorem dJ6_bitCount_0f7a4_52 : decode cJ6_bitCount_0f7a4 52 = .ok (.ireturn, 1) := op_172 (pc := 52) (q_b slJ6_bitCount_0f7a4_3 (j := 4) rfl)
theorem slJ9_abs_0f7a4_0 : (cJ9_abs_0f7a4.data.toList.drop 0).take 20 = [26, 156, 0, 8, 26, 116, 167, 0, 4, 26, 172] := by decide +kernel
theorem dJ9_abs_0f7a4_0 : decode cJ9_abs_0f7a4 0 = .ok (.iload_n 0, 1) := op_26 (pc := 0) (q_b slJ9_abs_0f7a4_0 (j := 0) rfl)
theorem dJ9_abs_0f7a4_1 : decode cJ9_abs_0f7a4 1 = .ok (.ifCond .ge 8, 3) := op_156 (pc := 1) (x := 0) (y := 8) (q_b slJ9_abs_0f7a4_0 (j := 1) rfl) (q_b slJ9_abs_0f7a4_0 (j := 2) rfl) (q_b slJ9_abs_0f7a4_0 (j := 3) rfl) (by decide +kernel)
theorem dJ9_abs_0f7a4_4 : decode cJ9_abs_0f7a4 4 = .ok (.iload_n 0, 1) := op_26 (pc := 4) (q_b slJ9_abs_0f7a4_0 (j := 4) rfl)
theorem dJ9_abs_0f7a4_5 : decode cJ9_abs_0f7a4 5 = .ok (.ineg, 1) := op_116 (pc := 5) (q_b slJ9_abs_0f7a4_0 (j := 5) rfl)
theorem dJ9_abs_0f7a4_6 : decode cJ9_abs_0f7a4 6 = .ok (.goto 4, 3) := op_167 (pc := 6) (x := 0) (y := 4) (q_b slJ9_abs_0f7a4_0 (j := 6) rfl) (q_b slJ9_abs_0f7a4_0 (j := 7) rfl) (q_b slJ9_abs_0f7a4_0 (j := 8) rfl) (by decide +kernel)
theorem dJ9_abs_0f7a4_9 : decode cJ9_abs_0f7a4 9 = .ok (.iload_n 0, 1) := op_26 (pc := 9) (q_b slJ9_abs_0f7a4_0 (j := 9) rfl)
theorem dJ9_abs_0f7a4_10 : decode cJ9_abs_0f7a4 10 = .ok (.ireturn, 1) := op_172 (pc := 10) (q_b slJ9_abs_0f7a4_0 (j := 10) rfl)
theorem slJ9_max_7cf53_0 : (cJ9_max_7cf53.data.toList.drop 0).take 20 = [26, 27, 161, 0, 7, 26, 167, 0, 4, 27, 172] := by decide +kernel
theorem dJ9_max_7cf53_0 : decode cJ9_max_7cf53 0 = .ok (.iload_n 0, 1) := op_26 (pc := 0) (q_b slJ9_max_7cf53_0 (j := 0) rfl)
theorem dJ9_max_7cf53_1 : decode cJ9_max_7cf53 1 = .ok (.iload_n 1, 1) := op_27 (pc := 1) (q_b slJ9_max_7cf53_0 (j := 1) rfl)
theorem dJ9_max_7cf53_2 : decode cJ9_max_7cf53 2 = .ok (.if_icmp .lt 7, 3) := op_161 (pc := 2) (x := 0) (y := 7) (q_b slJ9_max_7cf53_0 (j := 2) rfl) (q_b slJ9_max_7cf53_0 (j := 3) rfl) (q_b slJ9_max_7cf53_0 (j := 4) rfl) (by decide +kernel)
theorem dJ9_max_7cf53_5 : decode cJ9_max_7cf53 5 = .ok (.iload_n 0, 1) := op_26 (pc := 5) (q_b slJ9_max_7cf53_0 (j := 5) rfl)
theorem dJ9_max_7cf53_6 : decode cJ9_max_7cf53 6 = .ok (.goto 4, 3) := op_167 (pc := 6) (x := 0) (y := 4) (q_b slJ9_max_7cf53_0 (j := 6) rfl) (q_b slJ9_max_7cf53_0 (j := 7) rfl) (q_b slJ9_max_7cf53_0 (j := 8) rfl) (by decide +kernel)
theorem dJ9_max_7cf53_9 : decode cJ9_max_7cf53 9 = .ok (.iload_n 1, 1) := op_27 (pc := 9) (q_b slJ9_max_7cf53_0 (j := 9) rfl)
theorem dJ9_max_7cf53_10 : decode cJ9_max_7cf53 10 = .ok (.ireturn, 1) := op_172 (pc := 10) (q_b slJ9_max_7cf53_0 (j := 10) rfl)
theorem slJ9_max_f86c9_0 : (cJ9_max_f86c9.data.toList.drop 0).take 20 = [30, 32, 148, 155, 0, 7, 30, 167, 0, 4, 32, 173] := by decide +kernel
theorem dJ9_max_f86c9_0 : decode cJ9_max_f86c9 0 = .ok (.lload_n 0, 1) := op_30 (pc := 0) (q_b slJ9_max_f86c9_0 (j := 0) rfl)
theorem dJ9_max_f86c9_1 : decode cJ9_max_f86c9 1 = .ok (.lload_n 2, 1) := op_32 (pc := 1) (q_b slJ9_max_f86c9_0 (j := 1) rfl)
theorem dJ9_max_f86c9_2 : decode cJ9_max_f86c9 2 = .ok (.lcmp, 1) := op_148 (pc := 2) (q_b slJ9_max_f86c9_0 (j := 2) rfl)
theorem dJ9_max_f86c9_3 : decode cJ9_max_f86c9 3 = .ok (.ifCond .lt 7, 3) := op_155 (pc := 3) (x := 0) (y := 7) (q_b slJ9_max_f86c9_0 (j := 3) rfl) (q_b slJ9_max_f86c9_0 (j := 4) rfl) (q_b slJ9_max_f86c9_0 (j := 5) rfl) (by decide +kernel)
theorem dJ9_max_f86c9_6 : decode cJ9_max_f86c9 6 = .ok (.lload_n 0, 1) := op_30 (pc := 6) (q_b slJ9_max_f86c9_0 (j := 6) rfl)
theorem dJ9_max_f86c9_7 : decode cJ9_max_f86c9 7 = .ok (.goto 4, 3) := op_167 (pc := 7) (x := 0) (y := 4) (q_b slJ9_max_f86c9_0 (j := 7) rfl) (q_b slJ9_max_f86c9_0 (j := 8) rfl) (q_b slJ9_max_f86c9_0 (j := 9) rfl) (by decide +kernel)
theorem dJ9_max_f86c9_10 : decode cJ9_max_f86c9 10 = .ok (.lload_n 2, 1) := op_32 (pc := 10) (q_b slJ9_max_f86c9_0 (j := 10) rfl)
theorem dJ9_max_f86c9_11 : decode cJ9_max_f86c9 11 = .ok (.lreturn, 1) := op_173 (pc := 11) (q_b slJ9_max_f86c9_0 (j := 11) rfl)
theorem slJ9_min_7cf53_0 : (cJ9_min_7cf53.data.toList.drop 0).take 20 = [26, 27, 163, 0, 7, 26, 167, 0, 4, 27, 172] := by decide +kernel
theorem dJ9_min_7cf53_0 : decode cJ9_min_7cf53 0 = .ok (.iload_n 0, 1) := op_26 (pc := 0) (q_b slJ9_min_7cf53_0 (j := 0) rfl)
theorem dJ9_min_7cf53_1 : decode cJ9_min_7cf53 1 = .ok (.iload_n 1, 1) := op_27 (pc := 1) (q_b slJ9_min_7cf53_0 (j := 1) rfl)
theorem dJ9_min_7cf53_2 : decode cJ9_min_7cf53 2 = .ok (.if_icmp .gt 7, 3) := op_163 (pc := 2) (x := 0) (y := 7) (q_b slJ9_min_7cf53_0 (j := 2) rfl) (q_b slJ9_min_7cf53_0 (j := 3) rfl) (q_b slJ9_min_7cf53_0 (j := 4) rfl) (by decide +kernel)
theorem dJ9_min_7cf53_5 : decode cJ9_min_7cf53 5 = .ok (.iload_n 0, 1) := op_26 (pc := 5) (q_b slJ9_min_7cf53_0 (j := 5) rfl)
theorem dJ9_min_7cf53_6 : decode cJ9_min_7cf53 6 = .ok (.goto 4, 3) := op_167 (pc := 6) (x := 0) (y := 4) (q_b slJ9_min_7cf53_0 (j := 6) rfl) (q_b slJ9_min_7cf53_0 (j := 7) rfl) (q_b slJ9_min_7cf53_0 (j := 8) rfl) (by decide +kernel)
theorem dJ9_min_7cf53_9 : decode cJ9_min_7cf53 9 = .ok (.iload_n 1, 1) := op_27 (pc := 9) (q_b slJ9_min_7cf53_0 (j := 9) rfl)
theorem dJ9_min_7cf53_10 : decode cJ9_min_7cf53 10 = .ok (.ireturn, 1) := op_172 (pc := 10) (q_b slJ9_min_7cf53_0 (j := 10) rfl)
theorem slJ0_length_8abf5_0 : (cJ0_length_8abf5.data.toList.drop 0).take 20 = [42, 180, 0, 9, 190, 42, 182, 1, 79, 122, 172] := by decide +kernel
theorem dJ0_length_8abf5_0 : decode cJ0_length_8abf5 0 = .ok (.aload_n 0, 1) := op_42 (pc := 0) (q_b slJ0_length_8abf5_0 (j := 0) rfl)
theorem dJ0_length_8abf5_1 : decode cJ0_length_8abf5 1 = .ok (.getfield 9, 3) := op_180 (pc := 1) (x := 0) (y := 9) (q_b slJ0_length_8abf5_0 (j := 1) rfl) (q_b slJ0_length_8abf5_0 (j := 2) rfl) (q_b slJ0_length_8abf5_0 (j := 3) rfl)
theorem dJ0_length_8abf5_4 : decode cJ0_length_8abf5 4 = .ok (.arraylength, 1) := op_190 (pc := 4) (q_b slJ0_length_8abf5_0 (j := 4) rfl)
theorem dJ0_length_8abf5_5 : decode cJ0_length_8abf5 5 = .ok (.aload_n 0, 1) := op_42 (pc := 5) (q_b slJ0_length_8abf5_0 (j := 5) rfl)
theorem dJ0_length_8abf5_6 : decode cJ0_length_8abf5 6 = .ok (.invokevirtual 335, 3) := op_182 (pc := 6) (x := 1) (y := 79) (q_b slJ0_length_8abf5_0 (j := 6) rfl) (q_b slJ0_length_8abf5_0 (j := 7) rfl) (q_b slJ0_length_8abf5_0 (j := 8) rfl)
theorem dJ0_length_8abf5_9 : decode cJ0_length_8abf5 9 = .ok (.ishr, 1) := op_122 (pc := 9) (q_b slJ0_length_8abf5_0 (j := 9) rfl)
theorem dJ0_length_8abf5_10 : decode cJ0_length_8abf5 10 = .ok (.ireturn, 1) := op_172 (pc := 10) (q_b slJ0_length_8abf5_0 (j := 10) rfl)
theorem slJ0_charAt_5068e_0 : (cJ0_charAt_5068e.data.toList.drop 0).take 20 = [42, 182, 1, 236, 153, 0, 12, 42, 180, 0, 9, 27, 184, 1, 239, 172, 42, 180, 0, 9] := by decide +kernel
theorem dJ0_charAt_5068e_0 : decode cJ0_charAt_5068e 0 = .ok (.aload_n 0, 1) := op_42 (pc := 0) (q_b slJ0_charAt_5068e_0 (j := 0) rfl)
theorem dJ0_charAt_5068e_1 : decode cJ0_charAt_5068e 1 = .ok (.invokevirtual 492, 3) := op_182 (pc := 1) (x := 1) (y := 236) (q_b slJ0_charAt_5068e_0 (j := 1) rfl) (q_b slJ0_charAt_5068e_0 (j := 2) rfl) (q_b slJ0_charAt_5068e_0 (j := 3) rfl)
theorem dJ0_charAt_5068e_4 : decode cJ0_charAt_5068e 4 = .ok (.ifCond .eq 12, 3) := op_153 (pc := 4) (x := 0) (y := 12) (q_b slJ0_charAt_5068e_0 (j := 4) rfl) (q_b slJ0_charAt_5068e_0 (j := 5) rfl) (q_b slJ0_charAt_5068e_0 (j := 6) rfl) (by decide +kernel)
theorem dJ0_charAt_5068e_7 : decode cJ0_charAt_5068e 7 = .ok (.aload_n 0, 1) := op_42 (pc := 7) (q_b slJ0_charAt_5068e_0 (j := 7) rfl)
theorem dJ0_charAt_5068e_8 : decode cJ0_charAt_5068e 8 = .ok (.getfield 9, 3) := op_180 (pc := 8) (x := 0) (y := 9) (q_b slJ0_charAt_5068e_0 (j := 8) rfl) (q_b slJ0_charAt_5068e_0 (j := 9) rfl) (q_b slJ0_charAt_5068e_0 (j := 10) rfl)
theorem dJ0_charAt_5068e_11 : decode cJ0_charAt_5068e 11 = .ok (.iload_n 1, 1) := op_27 (pc := 11) (q_b slJ0_charAt_5068e_0 (j := 11) rfl)
theorem dJ0_charAt_5068e_12 : decode cJ0_charAt_5068e 12 = .ok (.invokestatic 495, 3) := op_184 (pc := 12) (x := 1) (y := 239) (q_b slJ0_charAt_5068e_0 (j := 12) rfl) (q_b slJ0_charAt_5068e_0 (j := 13) rfl) (q_b slJ0_charAt_5068e_0 (j := 14) rfl)
theorem dJ0_charAt_5068e_15 : decode cJ0_charAt_5068e 15 = .ok (.ireturn, 1) := op_172 (pc := 15) (q_b slJ0_charAt_5068e_0 (j := 15) rfl)
theorem slJ0_charAt_5068e_1 : (cJ0_charAt_5068e.data.toList.drop 16).take 20 = [42, 180, 0, 9, 27, 184, 1, 242, 172] := by decide +kernel
theorem dJ0_charAt_5068e_16 : decode cJ0_charAt_5068e 16 = .ok (.aload_n 0, 1) := op_42 (pc := 16) (q_b slJ0_charAt_5068e_1 (j := 0) rfl)
theorem dJ0_charAt_5068e_17 : decode cJ0_charAt_5068e 17 = .ok (.getfield 9, 3) := op_180 (pc := 17) (x := 0) (y := 9) (q_b slJ0_charAt_5068e_1 (j := 1) rfl) (q_b slJ0_charAt_5068e_1 (j := 2) rfl) (q_b slJ0_charAt_5068e_1 (j := 3) rfl)
theorem dJ0_charAt_5068e_20 : decode cJ0_charAt_5068e 20 = .ok (.iload_n 1, 1) := op_27 (pc := 20) (q_b slJ0_charAt_5068e_1 (j := 4) rfl)
theorem dJ0_charAt_5068e_21 : decode cJ0_charAt_5068e 21 = .ok (.invokestatic 498, 3) := op_184 (pc := 21) (x := 1) (y := 242) (q_b slJ0_charAt_5068e_1 (j := 5) rfl) (q_b slJ0_charAt_5068e_1 (j := 6) rfl) (q_b slJ0_charAt_5068e_1 (j := 7) rfl)
theorem dJ0_charAt_5068e_24 : decode cJ0_charAt_5068e 24 = .ok (.ireturn, 1) := op_172 (pc := 24) (q_b slJ0_charAt_5068e_1 (j := 8) rfl)
theorem slJ0_coder_7d493_0 : (cJ0_coder_7d493.data.toList.drop 0).take 20 = [178, 0, 38, 153, 0, 10, 42, 180, 0, 15, 167, 0, 4, 4, 172] := by decide +kernel
theorem dJ0_coder_7d493_0 : decode cJ0_coder_7d493 0 = .ok (.getstatic 38, 3) := op_178 (pc := 0) (x := 0) (y := 38) (q_b slJ0_coder_7d493_0 (j := 0) rfl) (q_b slJ0_coder_7d493_0 (j := 1) rfl) (q_b slJ0_coder_7d493_0 (j := 2) rfl)
theorem dJ0_coder_7d493_3 : decode cJ0_coder_7d493 3 = .ok (.ifCond .eq 10, 3) := op_153 (pc := 3) (x := 0) (y := 10) (q_b slJ0_coder_7d493_0 (j := 3) rfl) (q_b slJ0_coder_7d493_0 (j := 4) rfl) (q_b slJ0_coder_7d493_0 (j := 5) rfl) (by decide +kernel)
theorem dJ0_coder_7d493_6 : decode cJ0_coder_7d493 6 = .ok (.aload_n 0, 1) := op_42 (pc := 6) (q_b slJ0_coder_7d493_0 (j := 6) rfl)
theorem dJ0_coder_7d493_7 : decode cJ0_coder_7d493 7 = .ok (.getfield 15, 3) := op_180 (pc := 7) (x := 0) (y := 15) (q_b slJ0_coder_7d493_0 (j := 7) rfl) (q_b slJ0_coder_7d493_0 (j := 8) rfl) (q_b slJ0_coder_7d493_0 (j := 9) rfl)
theorem dJ0_coder_7d493_10 : decode cJ0_coder_7d493 10 = .ok (.goto 4, 3) := op_167 (pc := 10) (x := 0) (y := 4) (q_b slJ0_coder_7d493_0 (j := 10) rfl) (q_b slJ0_coder_7d493_0 (j := 11) rfl) (q_b slJ0_coder_7d493_0 (j := 12) rfl) (by decide +kernel)
theorem dJ0_coder_7d493_13 : decode cJ0_coder_7d493 13 = .ok (.iconst 1, 1) := op_4 (pc := 13) (q_b slJ0_coder_7d493_0 (j := 13) rfl)
theorem dJ0_coder_7d493_14 : decode cJ0_coder_7d493 14 = .ok (.ireturn, 1) := op_172 (pc := 14) (q_b slJ0_coder_7d493_0 (j := 14) rfl)
theorem slJ0_isLatin1_aae02_0 : (cJ0_isLatin1_aae02.data.toList.drop 0).take 20 = [178, 0, 38, 153, 0, 14, 42, 180, 0, 15, 154, 0, 7, 4, 167, 0, 4, 3, 172] := by decide +kernel
theorem dJ0_isLatin1_aae02_0 : decode cJ0_isLatin1_aae02 0 = .ok (.getstatic 38, 3) := op_178 (pc := 0) (x := 0) (y := 38) (q_b slJ0_isLatin1_aae02_0 (j := 0) rfl) (q_b slJ0_isLatin1_aae02_0 (j := 1) rfl) (q_b slJ0_isLatin1_aae02_0 (j := 2) rfl)
theorem dJ0_isLatin1_aae02_3 : decode cJ0_isLatin1_aae02 3 = .ok (.ifCond .eq 14, 3) := op_153 (pc := 3) (x := 0) (y := 14) (q_b slJ0_isLatin1_aae02_0 (j := 3) rfl) (q_b slJ0_isLatin1_aae02_0 (j := 4) rfl) (q_b slJ0_isLatin1_aae02_0 (j := 5) rfl) (by decide +kernel)
theorem dJ0_isLatin1_aae02_6 : decode cJ0_isLatin1_aae02 6 = .ok (.aload_n 0, 1) := op_42 (pc := 6) (q_b slJ0_isLatin1_aae02_0 (j := 6) rfl)
theorem dJ0_isLatin1_aae02_7 : decode cJ0_isLatin1_aae02 7 = .ok (.getfield 15, 3) := op_180 (pc := 7) (x := 0) (y := 15) (q_b slJ0_isLatin1_aae02_0 (j := 7) rfl) (q_b slJ0_isLatin1_aae02_0 (j := 8) rfl) (q_b slJ0_isLatin1_aae02_0 (j := 9) rfl)
theorem dJ0_isLatin1_aae02_10 : decode cJ0_isLatin1_aae02 10 = .ok (.ifCond .ne 7, 3) := op_154 (pc := 10) (x := 0) (y := 7) (q_b slJ0_isLatin1_aae02_0 (j := 10) rfl) (q_b slJ0_isLatin1_aae02_0 (j := 11) rfl) (q_b slJ0_isLatin1_aae02_0 (j := 12) rfl) (by decide +kernel)
theorem dJ0_isLatin1_aae02_13 : decode cJ0_isLatin1_aae02 13 = .ok (.iconst 1, 1) := op_4 (pc := 13) (q_b slJ0_isLatin1_aae02_0 (j := 13) rfl)
theorem dJ0_isLatin1_aae02_14 : decode cJ0_isLatin1_aae02 14 = .ok (.goto 4, 3) := op_167 (pc := 14) (x := 0) (y := 4) (q_b slJ0_isLatin1_aae02_0 (j := 14) rfl) (q_b slJ0_isLatin1_aae02_0 (j := 15) rfl) (q_b slJ0_isLatin1_aae02_0 (j := 16) rfl) (by decide +kernel)
theorem slJ0_isLatin1_aae02_1 : (cJ0_isLatin1_aae02.data.toList.drop 16).take 20 = [4, 3, 172] := by decide +kernel
theorem dJ0_isLatin1_aae02_17 : decode cJ0_isLatin1_aae02 17 = .ok (.iconst 0, 1) := op_3 (pc := 17) (q_b slJ0_isLatin1_aae02_1 (j := 1) rfl)
theorem dJ0_isLatin1_aae02_18 : decode cJ0_isLatin1_aae02 18 = .ok (.ireturn, 1) := op_172 (pc := 18) (q_b slJ0_isLatin1_aae02_1 (j := 2) rfl)
theorem slJ0_checkIndex_df160_0 : (cJ0_checkIndex_df160.data.toList.drop 0).take 20 = [26, 27, 178, 4, 29, 184, 4, 35, 87, 177] := by decide +kernel
theorem dJ0_checkIndex_df160_0 : decode cJ0_checkIndex_df160 0 = .ok (.iload_n 0, 1) := op_26 (pc := 0) (q_b slJ0_checkIndex_df160_0 (j := 0) rfl)
theorem dJ0_checkIndex_df160_1 : decode cJ0_checkIndex_df160 1 = .ok (.iload_n 1, 1) := op_27 (pc := 1) (q_b slJ0_checkIndex_df160_0 (j := 1) rfl)
theorem dJ0_checkIndex_df160_2 : decode cJ0_checkIndex_df160 2 = .ok (.getstatic 1053, 3) := op_178 (pc := 2) (x := 4) (y := 29) (q_b slJ0_checkIndex_df160_0 (j := 2) rfl) (q_b slJ0_checkIndex_df160_0 (j := 3) rfl) (q_b slJ0_checkIndex_df160_0 (j := 4) rfl)
theorem dJ0_checkIndex_df160_5 : decode cJ0_checkIndex_df160 5 = .ok (.invokestatic 1059, 3) := op_184 (pc := 5) (x := 4) (y := 35) (q_b slJ0_checkIndex_df160_0 (j := 5) rfl) (q_b slJ0_checkIndex_df160_0 (j := 6) rfl) (q_b slJ0_checkIndex_df160_0 (j := 7) rfl)
theorem dJ0_checkIndex_df160_8 : decode cJ0_checkIndex_df160 8 = .ok (.pop, 1) := op_87 (pc := 8) (q_b slJ0_checkIndex_df160_0 (j := 8) rfl)
theorem dJ0_checkIndex_df160_9 : decode cJ0_checkIndex_df160 9 = .ok (.return_, 1) := op_177 (pc := 9) (q_b slJ0_checkIndex_df160_0 (j := 9) rfl)
theorem slJ1_charAt_3b067_0 : (cJ1_charAt_3b067.data.toList.drop 0).take 20 = [27, 42, 190, 184, 0, 9, 42, 27, 51, 17, 0, 255, 126, 146, 172] := by decide +kernel
theorem dJ1_charAt_3b067_0 : decode cJ1_charAt_3b067 0 = .ok (.iload_n 1, 1) := op_27 (pc := 0) (q_b slJ1_charAt_3b067_0 (j := 0) rfl)
theorem dJ1_charAt_3b067_1 : decode cJ1_charAt_3b067 1 = .ok (.aload_n 0, 1) := op_42 (pc := 1) (q_b slJ1_charAt_3b067_0 (j := 1) rfl)
theorem dJ1_charAt_3b067_2 : decode cJ1_charAt_3b067 2 = .ok (.arraylength, 1) := op_190 (pc := 2) (q_b slJ1_charAt_3b067_0 (j := 2) rfl)
theorem dJ1_charAt_3b067_3 : decode cJ1_charAt_3b067 3 = .ok (.invokestatic 9, 3) := op_184 (pc := 3) (x := 0) (y := 9) (q_b slJ1_charAt_3b067_0 (j := 3) rfl) (q_b slJ1_charAt_3b067_0 (j := 4) rfl) (q_b slJ1_charAt_3b067_0 (j := 5) rfl)
theorem dJ1_charAt_3b067_6 : decode cJ1_charAt_3b067 6 = .ok (.aload_n 0, 1) := op_42 (pc := 6) (q_b slJ1_charAt_3b067_0 (j := 6) rfl)
theorem dJ1_charAt_3b067_7 : decode cJ1_charAt_3b067 7 = .ok (.iload_n 1, 1) := op_27 (pc := 7) (q_b slJ1_charAt_3b067_0 (j := 7) rfl)
theorem dJ1_charAt_3b067_8 : decode cJ1_charAt_3b067 8 = .ok (.baload, 1) := op_51 (pc := 8) (q_b slJ1_charAt_3b067_0 (j := 8) rfl)
theorem dJ1_charAt_3b067_9 : decode cJ1_charAt_3b067 9 = .ok (.sipush 255, 3) := op_17 (pc := 9) (x := 0) (y := 255) (q_b slJ1_charAt_3b067_0 (j := 9) rfl) (q_b slJ1_charAt_3b067_0 (j := 10) rfl) (q_b slJ1_charAt_3b067_0 (j := 11) rfl) (by decide +kernel)
theorem dJ1_charAt_3b067_12 : decode cJ1_charAt_3b067 12 = .ok (.iand, 1) := op_126 (pc := 12) (q_b slJ1_charAt_3b067_0 (j := 12) rfl)
theorem dJ1_charAt_3b067_13 : decode cJ1_charAt_3b067 13 = .ok (.i2c, 1) := op_146 (pc := 13) (q_b slJ1_charAt_3b067_0 (j := 13) rfl)
theorem dJ1_charAt_3b067_14 : decode cJ1_charAt_3b067 14 = .ok (.ireturn, 1) := op_172 (pc := 14) (q_b slJ1_charAt_3b067_0 (j := 14) rfl)
theorem slJ2_getChar_3b067_0 : (cJ2_getChar_3b067.data.toList.drop 0).take 20 = [178, 0, 44, 154, 0, 25, 27, 155, 0, 11, 27, 42, 184, 0, 48, 161, 0, 13, 187, 0] := by decide +kernel
theorem dJ2_getChar_3b067_0 : decode cJ2_getChar_3b067 0 = .ok (.getstatic 44, 3) := op_178 (pc := 0) (x := 0) (y := 44) (q_b slJ2_getChar_3b067_0 (j := 0) rfl) (q_b slJ2_getChar_3b067_0 (j := 1) rfl) (q_b slJ2_getChar_3b067_0 (j := 2) rfl)
theorem dJ2_getChar_3b067_3 : decode cJ2_getChar_3b067 3 = .ok (.ifCond .ne 25, 3) := op_154 (pc := 3) (x := 0) (y := 25) (q_b slJ2_getChar_3b067_0 (j := 3) rfl) (q_b slJ2_getChar_3b067_0 (j := 4) rfl) (q_b slJ2_getChar_3b067_0 (j := 5) rfl) (by decide +kernel)
theorem dJ2_getChar_3b067_6 : decode cJ2_getChar_3b067 6 = .ok (.iload_n 1, 1) := op_27 (pc := 6) (q_b slJ2_getChar_3b067_0 (j := 6) rfl)
theorem dJ2_getChar_3b067_7 : decode cJ2_getChar_3b067 7 = .ok (.ifCond .lt 11, 3) := op_155 (pc := 7) (x := 0) (y := 11) (q_b slJ2_getChar_3b067_0 (j := 7) rfl) (q_b slJ2_getChar_3b067_0 (j := 8) rfl) (q_b slJ2_getChar_3b067_0 (j := 9) rfl) (by decide +kernel)
theorem dJ2_getChar_3b067_10 : decode cJ2_getChar_3b067 10 = .ok (.iload_n 1, 1) := op_27 (pc := 10) (q_b slJ2_getChar_3b067_0 (j := 10) rfl)
theorem dJ2_getChar_3b067_11 : decode cJ2_getChar_3b067 11 = .ok (.aload_n 0, 1) := op_42 (pc := 11) (q_b slJ2_getChar_3b067_0 (j := 11) rfl)
theorem dJ2_getChar_3b067_12 : decode cJ2_getChar_3b067 12 = .ok (.invokestatic 48, 3) := op_184 (pc := 12) (x := 0) (y := 48) (q_b slJ2_getChar_3b067_0 (j := 12) rfl) (q_b slJ2_getChar_3b067_0 (j := 13) rfl) (q_b slJ2_getChar_3b067_0 (j := 14) rfl)
theorem dJ2_getChar_3b067_15 : decode cJ2_getChar_3b067 15 = .ok (.if_icmp .lt 13, 3) := op_161 (pc := 15) (x := 0) (y := 13) (q_b slJ2_getChar_3b067_0 (j := 15) rfl) (q_b slJ2_getChar_3b067_0 (j := 16) rfl) (q_b slJ2_getChar_3b067_0 (j := 17) rfl) (by decide +kernel)
theorem slJ2_getChar_3b067_1 : (cJ2_getChar_3b067.data.toList.drop 16).take 20 = [0, 13, 187, 0, 52, 89, 18, 54, 183, 0, 56, 191, 27, 4, 120, 60, 42, 27, 132, 1] := by decide +kernel
theorem dJ2_getChar_3b067_18 : decode cJ2_getChar_3b067 18 = .ok (.new 52, 3) := op_187 (pc := 18) (x := 0) (y := 52) (q_b slJ2_getChar_3b067_1 (j := 2) rfl) (q_b slJ2_getChar_3b067_1 (j := 3) rfl) (q_b slJ2_getChar_3b067_1 (j := 4) rfl)
theorem dJ2_getChar_3b067_21 : decode cJ2_getChar_3b067 21 = .ok (.dup, 1) := op_89 (pc := 21) (q_b slJ2_getChar_3b067_1 (j := 5) rfl)
theorem dJ2_getChar_3b067_22 : decode cJ2_getChar_3b067 22 = .ok (.ldc 54, 2) := op_18 (pc := 22) (x := 54) (q_b slJ2_getChar_3b067_1 (j := 6) rfl) (q_b slJ2_getChar_3b067_1 (j := 7) rfl)
theorem dJ2_getChar_3b067_24 : decode cJ2_getChar_3b067 24 = .ok (.invokespecial 56, 3) := op_183 (pc := 24) (x := 0) (y := 56) (q_b slJ2_getChar_3b067_1 (j := 8) rfl) (q_b slJ2_getChar_3b067_1 (j := 9) rfl) (q_b slJ2_getChar_3b067_1 (j := 10) rfl)
theorem dJ2_getChar_3b067_27 : decode cJ2_getChar_3b067 27 = .ok (.athrow, 1) := op_191 (pc := 27) (q_b slJ2_getChar_3b067_1 (j := 11) rfl)
theorem dJ2_getChar_3b067_28 : decode cJ2_getChar_3b067 28 = .ok (.iload_n 1, 1) := op_27 (pc := 28) (q_b slJ2_getChar_3b067_1 (j := 12) rfl)
theorem dJ2_getChar_3b067_29 : decode cJ2_getChar_3b067 29 = .ok (.iconst 1, 1) := op_4 (pc := 29) (q_b slJ2_getChar_3b067_1 (j := 13) rfl)
theorem dJ2_getChar_3b067_30 : decode cJ2_getChar_3b067 30 = .ok (.ishl, 1) := op_120 (pc := 30) (q_b slJ2_getChar_3b067_1 (j := 14) rfl)
theorem dJ2_getChar_3b067_31 : decode cJ2_getChar_3b067 31 = .ok (.istore_n 1, 1) := op_60 (pc := 31) (q_b slJ2_getChar_3b067_1 (j := 15) rfl)
theorem slJ2_getChar_3b067_2 : (cJ2_getChar_3b067.data.toList.drop 32).take 20 = [42, 27, 132, 1, 1, 51, 17, 0, 255, 126, 178, 0, 59, 120, 42, 27, 51, 17, 0, 255] := by decide +kernel
theorem dJ2_getChar_3b067_32 : decode cJ2_getChar_3b067 32 = .ok (.aload_n 0, 1) := op_42 (pc := 32) (q_b slJ2_getChar_3b067_2 (j := 0) rfl)
theorem dJ2_getChar_3b067_33 : decode cJ2_getChar_3b067 33 = .ok (.iload_n 1, 1) := op_27 (pc := 33) (q_b slJ2_getChar_3b067_2 (j := 1) rfl)
theorem dJ2_getChar_3b067_34 : decode cJ2_getChar_3b067 34 = .ok (.iinc 1 1, 3) := op_132 (pc := 34) (x := 1) (y := 1) (q_b slJ2_getChar_3b067_2 (j := 2) rfl) (q_b slJ2_getChar_3b067_2 (j := 3) rfl) (q_b slJ2_getChar_3b067_2 (j := 4) rfl)
theorem dJ2_getChar_3b067_37 : decode cJ2_getChar_3b067 37 = .ok (.baload, 1) := op_51 (pc := 37) (q_b slJ2_getChar_3b067_2 (j := 5) rfl)
theorem dJ2_getChar_3b067_38 : decode cJ2_getChar_3b067 38 = .ok (.sipush 255, 3) := op_17 (pc := 38) (x := 0) (y := 255) (q_b slJ2_getChar_3b067_2 (j := 6) rfl) (q_b slJ2_getChar_3b067_2 (j := 7) rfl) (q_b slJ2_getChar_3b067_2 (j := 8) rfl) (by decide +kernel)
theorem dJ2_getChar_3b067_41 : decode cJ2_getChar_3b067 41 = .ok (.iand, 1) := op_126 (pc := 41) (q_b slJ2_getChar_3b067_2 (j := 9) rfl)
theorem dJ2_getChar_3b067_42 : decode cJ2_getChar_3b067 42 = .ok (.getstatic 59, 3) := op_178 (pc := 42) (x := 0) (y := 59) (q_b slJ2_getChar_3b067_2 (j := 10) rfl) (q_b slJ2_getChar_3b067_2 (j := 11) rfl) (q_b slJ2_getChar_3b067_2 (j := 12) rfl)
theorem dJ2_getChar_3b067_45 : decode cJ2_getChar_3b067 45 = .ok (.ishl, 1) := op_120 (pc := 45) (q_b slJ2_getChar_3b067_2 (j := 13) rfl)
theorem dJ2_getChar_3b067_46 : decode cJ2_getChar_3b067 46 = .ok (.aload_n 0, 1) := op_42 (pc := 46) (q_b slJ2_getChar_3b067_2 (j := 14) rfl)
theorem dJ2_getChar_3b067_47 : decode cJ2_getChar_3b067 47 = .ok (.iload_n 1, 1) := op_27 (pc := 47) (q_b slJ2_getChar_3b067_2 (j := 15) rfl)
theorem slJ2_getChar_3b067_3 : (cJ2_getChar_3b067.data.toList.drop 48).take 20 = [51, 17, 0, 255, 126, 178, 0, 63, 120, 128, 146, 172] := by decide +kernel
theorem dJ2_getChar_3b067_48 : decode cJ2_getChar_3b067 48 = .ok (.baload, 1) := op_51 (pc := 48) (q_b slJ2_getChar_3b067_3 (j := 0) rfl)
theorem dJ2_getChar_3b067_49 : decode cJ2_getChar_3b067 49 = .ok (.sipush 255, 3) := op_17 (pc := 49) (x := 0) (y := 255) (q_b slJ2_getChar_3b067_3 (j := 1) rfl) (q_b slJ2_getChar_3b067_3 (j := 2) rfl) (q_b slJ2_getChar_3b067_3 (j := 3) rfl) (by decide +kernel)
theorem dJ2_getChar_3b067_52 : decode cJ2_getChar_3b067 52 = .ok (.iand, 1) := op_126 (pc := 52) (q_b slJ2_getChar_3b067_3 (j := 4) rfl)
theorem dJ2_getChar_3b067_53 : decode cJ2_getChar_3b067 53 = .ok (.getstatic 63, 3) := op_178 (pc := 53) (x := 0) (y := 63) (q_b slJ2_getChar_3b067_3 (j := 5) rfl) (q_b slJ2_getChar_3b067_3 (j := 6) rfl) (q_b slJ2_getChar_3b067_3 (j := 7) rfl)
theorem dJ2_getChar_3b067_56 : decode cJ2_getChar_3b067 56 = .ok (.ishl, 1) := op_120 (pc := 56) (q_b slJ2_getChar_3b067_3 (j := 8) rfl)
theorem dJ2_getChar_3b067_57 : decode cJ2_getChar_3b067 57 = .ok (.ior, 1) := op_128 (pc := 57) (q_b slJ2_getChar_3b067_3 (j := 9) rfl)
theorem dJ2_getChar_3b067_58 : decode cJ2_getChar_3b067 58 = .ok (.i2c, 1) := op_146 (pc := 58) (q_b slJ2_getChar_3b067_3 (j := 10) rfl)
theorem dJ2_getChar_3b067_59 : decode cJ2_getChar_3b067 59 = .ok (.ireturn, 1) := op_172 (pc := 59) (q_b slJ2_getChar_3b067_3 (j := 11) rfl)
theorem slJ2_length_9d52b_0 : (cJ2_length_9d52b.data.toList.drop 0).take 20 = [42, 190, 4, 122, 172] := by decide +kernel
theorem dJ2_length_9d52b_0 : decode cJ2_length_9d52b 0 = .ok (.aload_n 0, 1) := op_42 (pc := 0) (q_b slJ2_length_9d52b_0 (j := 0) rfl)
theorem dJ2_length_9d52b_1 : decode cJ2_length_9d52b 1 = .ok (.arraylength, 1) := op_190 (pc := 1) (q_b slJ2_length_9d52b_0 (j := 1) rfl)
theorem dJ2_length_9d52b_2 : decode cJ2_length_9d52b 2 = .ok (.iconst 1, 1) := op_4 (pc := 2) (q_b slJ2_length_9d52b_0 (j := 2) rfl)
theorem dJ2_length_9d52b_3 : decode cJ2_length_9d52b 3 = .ok (.ishr, 1) := op_122 (pc := 3) (q_b slJ2_length_9d52b_0 (j := 3) rfl)
theorem dJ2_length_9d52b_4 : decode cJ2_length_9d52b 4 = .ok (.ireturn, 1) := op_172 (pc := 4) (q_b slJ2_length_9d52b_0 (j := 4) rfl)
theorem slJ2_charAt_3b067_0 : (cJ2_charAt_3b067.data.toList.drop 0).take 20 = [27, 42, 184, 0, 67, 42, 27, 184, 0, 71, 172] := by decide +kernel
theorem dJ2_charAt_3b067_0 : decode cJ2_charAt_3b067 0 = .ok (.iload_n 1, 1) := op_27 (pc := 0) (q_b slJ2_charAt_3b067_0 (j := 0) rfl)
theorem dJ2_charAt_3b067_1 : decode cJ2_charAt_3b067 1 = .ok (.aload_n 0, 1) := op_42 (pc := 1) (q_b slJ2_charAt_3b067_0 (j := 1) rfl)
theorem dJ2_charAt_3b067_2 : decode cJ2_charAt_3b067 2 = .ok (.invokestatic 67, 3) := op_184 (pc := 2) (x := 0) (y := 67) (q_b slJ2_charAt_3b067_0 (j := 2) rfl) (q_b slJ2_charAt_3b067_0 (j := 3) rfl) (q_b slJ2_charAt_3b067_0 (j := 4) rfl)
theorem dJ2_charAt_3b067_5 : decode cJ2_charAt_3b067 5 = .ok (.aload_n 0, 1) := op_42 (pc := 5) (q_b slJ2_charAt_3b067_0 (j := 5) rfl)
theorem dJ2_charAt_3b067_6 : decode cJ2_charAt_3b067 6 = .ok (.iload_n 1, 1) := op_27 (pc := 6) (q_b slJ2_charAt_3b067_0 (j := 6) rfl)
theorem dJ2_charAt_3b067_7 : decode cJ2_charAt_3b067 7 = .ok (.invokestatic 71, 3) := op_184 (pc := 7) (x := 0) (y := 71) (q_b slJ2_charAt_3b067_0 (j := 7) rfl) (q_b slJ2_charAt_3b067_0 (j := 8) rfl) (q_b slJ2_charAt_3b067_0 (j := 9) rfl)
theorem dJ2_charAt_3b067_10 : decode cJ2_charAt_3b067 10 = .ok (.ireturn, 1) := op_172 (pc := 10) (q_b slJ2_charAt_3b067_0 (j := 10) rfl)
theorem slJ2_checkIndex_2214a_0 : (cJ2_checkIndex_2214a.data.toList.drop 0).take 20 = [26, 43, 184, 0, 48, 184, 1, 158, 177] := by decide +kernel
theorem dJ2_checkIndex_2214a_0 : decode cJ2_checkIndex_2214a 0 = .ok (.iload_n 0, 1) := op_26 (pc := 0) (q_b slJ2_checkIndex_2214a_0 (j := 0) rfl)
theorem dJ2_checkIndex_2214a_1 : decode cJ2_checkIndex_2214a 1 = .ok (.aload_n 1, 1) := op_43 (pc := 1) (q_b slJ2_checkIndex_2214a_0 (j := 1) rfl)
theorem dJ2_checkIndex_2214a_2 : decode cJ2_checkIndex_2214a 2 = .ok (.invokestatic 48, 3) := op_184 (pc := 2) (x := 0) (y := 48) (q_b slJ2_checkIndex_2214a_0 (j := 2) rfl) (q_b slJ2_checkIndex_2214a_0 (j := 3) rfl) (q_b slJ2_checkIndex_2214a_0 (j := 4) rfl)
theorem dJ2_checkIndex_2214a_5 : decode cJ2_checkIndex_2214a 5 = .ok (.invokestatic 414, 3) := op_184 (pc := 5) (x := 1) (y := 158) (q_b slJ2_checkIndex_2214a_0 (j := 5) rfl) (q_b slJ2_checkIndex_2214a_0 (j := 6) rfl) (q_b slJ2_checkIndex_2214a_0 (j := 7) rfl)
theorem dJ2_checkIndex_2214a_8 : decode cJ2_checkIndex_2214a 8 = .ok (.return_, 1) := op_177 (pc := 8) (q_b slJ2_checkIndex_2214a_0 (j := 8) rfl)
theorem slJ3_checkIndex_8e157_0 : (cJ3_checkIndex_8e157.data.toList.drop 0).take 20 = [26, 155, 0, 8, 26, 27, 161, 0, 10, 44, 26, 27, 184, 0, 95, 191, 26, 172] := by decide +kernel
theorem dJ3_checkIndex_8e157_0 : decode cJ3_checkIndex_8e157 0 = .ok (.iload_n 0, 1) := op_26 (pc := 0) (q_b slJ3_checkIndex_8e157_0 (j := 0) rfl)
theorem dJ3_checkIndex_8e157_1 : decode cJ3_checkIndex_8e157 1 = .ok (.ifCond .lt 8, 3) := op_155 (pc := 1) (x := 0) (y := 8) (q_b slJ3_checkIndex_8e157_0 (j := 1) rfl) (q_b slJ3_checkIndex_8e157_0 (j := 2) rfl) (q_b slJ3_checkIndex_8e157_0 (j := 3) rfl) (by decide +kernel)
theorem dJ3_checkIndex_8e157_4 : decode cJ3_checkIndex_8e157 4 = .ok (.iload_n 0, 1) := op_26 (pc := 4) (q_b slJ3_checkIndex_8e157_0 (j := 4) rfl)
theorem dJ3_checkIndex_8e157_5 : decode cJ3_checkIndex_8e157 5 = .ok (.iload_n 1, 1) := op_27 (pc := 5) (q_b slJ3_checkIndex_8e157_0 (j := 5) rfl)
theorem dJ3_checkIndex_8e157_6 : decode cJ3_checkIndex_8e157 6 = .ok (.if_icmp .lt 10, 3) := op_161 (pc := 6) (x := 0) (y := 10) (q_b slJ3_checkIndex_8e157_0 (j := 6) rfl) (q_b slJ3_checkIndex_8e157_0 (j := 7) rfl) (q_b slJ3_checkIndex_8e157_0 (j := 8) rfl) (by decide +kernel)
theorem dJ3_checkIndex_8e157_9 : decode cJ3_checkIndex_8e157 9 = .ok (.aload_n 2, 1) := op_44 (pc := 9) (q_b slJ3_checkIndex_8e157_0 (j := 9) rfl)
theorem dJ3_checkIndex_8e157_10 : decode cJ3_checkIndex_8e157 10 = .ok (.iload_n 0, 1) := op_26 (pc := 10) (q_b slJ3_checkIndex_8e157_0 (j := 10) rfl)
theorem dJ3_checkIndex_8e157_11 : decode cJ3_checkIndex_8e157 11 = .ok (.iload_n 1, 1) := op_27 (pc := 11) (q_b slJ3_checkIndex_8e157_0 (j := 11) rfl)
theorem dJ3_checkIndex_8e157_12 : decode cJ3_checkIndex_8e157 12 = .ok (.invokestatic 95, 3) := op_184 (pc := 12) (x := 0) (y := 95) (q_b slJ3_checkIndex_8e157_0 (j := 12) rfl) (q_b slJ3_checkIndex_8e157_0 (j := 13) rfl) (q_b slJ3_checkIndex_8e157_0 (j := 14) rfl)
theorem dJ3_checkIndex_8e157_15 : decode cJ3_checkIndex_8e157 15 = .ok (.athrow, 1) := op_191 (pc := 15) (q_b slJ3_checkIndex_8e157_0 (j := 15) rfl)
theorem slJ3_checkIndex_8e157_1 : (cJ3_checkIndex_8e157.data.toList.drop 16).take 20 = [26, 172] := by decide +kernel
theorem dJ3_checkIndex_8e157_16 : decode cJ3_checkIndex_8e157 16 = .ok (.iload_n 0, 1) := op_26 (pc := 16) (q_b slJ3_checkIndex_8e157_1 (j := 0) rfl)
theorem dJ3_checkIndex_8e157_17 : decode cJ3_checkIndex_8e157 17 = .ok (.ireturn, 1) := op_172 (pc := 17) (q_b slJ3_checkIndex_8e157_1 (j := 1) rfl)
end
