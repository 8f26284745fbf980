-- ===== PART A: goes FIRST, ahead of the names: the tables' words, and 'selects' of the private methods out of them =====
/-- a private method of a class that the tables say can be made, by its rows of tables_1 -/
def lw_okq (q : MethodName × Nat) : Prop := (q.1.cls ≠ "java/lang/invoke/MethodHandle" ∧ q.1.cls ≠ "java/lang/invoke/VarHandle") ∧ Cond.instantiable q.1.cls q.2 ∈ tables_1 ∧ Cond.privateMethod q.1 ∈ tables_1 ∧ Cond.instanceMethod q.1 ∈ tables_1
theorem lw_p0 : lw_okq (⟨"TornPageLog$Flash", "findRecords", "()V"⟩, 9) := ⟨⟨by decide +kernel, by decide +kernel⟩, List.mem_of_getElem? (i := 75) (by decide +kernel), List.mem_of_getElem? (i := 161) (by decide +kernel), List.mem_of_getElem? (i := 162) (by decide +kernel)⟩
theorem lw_p1 : lw_okq (⟨"TornPageLog$Story", "current", "()I"⟩, 8) := ⟨⟨by decide +kernel, by decide +kernel⟩, List.mem_of_getElem? (i := 25) (by decide +kernel), List.mem_of_getElem? (i := 268) (by decide +kernel), List.mem_of_getElem? (i := 269) (by decide +kernel)⟩
theorem lw_p2 : lw_okq (⟨"TornPageLog$Story", "readNumber", "(III)I"⟩, 8) := ⟨⟨by decide +kernel, by decide +kernel⟩, List.mem_of_getElem? (i := 25) (by decide +kernel), List.mem_of_getElem? (i := 272) (by decide +kernel), List.mem_of_getElem? (i := 273) (by decide +kernel)⟩
theorem lw_p3 : lw_okq (⟨"java/lang/Throwable", "fillInStackTrace", "(I)Ljava/lang/Throwable;"⟩, 6) := ⟨⟨by decide +kernel, by decide +kernel⟩, List.mem_of_getElem? (i := 325) (by decide +kernel), List.mem_of_getElem? (i := 323) (by decide +kernel), List.mem_of_getElem? (i := 324) (by decide +kernel)⟩
theorem lw_p4 : lw_okq (⟨"TornPageLog", "perform", "(LTornPageLog$Log;III)Z"⟩, 6) := ⟨⟨by decide +kernel, by decide +kernel⟩, List.mem_of_getElem? (i := 17) (by decide +kernel), List.mem_of_getElem? (i := 367) (by decide +kernel), List.mem_of_getElem? (i := 368) (by decide +kernel)⟩
theorem lw_p5 : lw_okq (⟨"TornPageLog", "costOfRecord", "(LTornPageLog$Log;)I"⟩, 6) := ⟨⟨by decide +kernel, by decide +kernel⟩, List.mem_of_getElem? (i := 17) (by decide +kernel), List.mem_of_getElem? (i := 371) (by decide +kernel), List.mem_of_getElem? (i := 372) (by decide +kernel)⟩
theorem lw_p6 : lw_okq (⟨"TornPageLog$Log", "takePage", "(I)I"⟩, 8) := ⟨⟨by decide +kernel, by decide +kernel⟩, List.mem_of_getElem? (i := 69) (by decide +kernel), List.mem_of_getElem? (i := 398) (by decide +kernel), List.mem_of_getElem? (i := 399) (by decide +kernel)⟩
theorem lw_p7 : lw_okq (⟨"TornPageLog$Log", "writePage", "(IIIZ)Z"⟩, 8) := ⟨⟨by decide +kernel, by decide +kernel⟩, List.mem_of_getElem? (i := 69) (by decide +kernel), List.mem_of_getElem? (i := 414) (by decide +kernel), List.mem_of_getElem? (i := 415) (by decide +kernel)⟩
theorem lw_p8 : lw_okq (⟨"TornPageLog$Log", "isCutNow", "()Z"⟩, 8) := ⟨⟨by decide +kernel, by decide +kernel⟩, List.mem_of_getElem? (i := 69) (by decide +kernel), List.mem_of_getElem? (i := 418) (by decide +kernel), List.mem_of_getElem? (i := 419) (by decide +kernel)⟩
theorem lw_p9 : lw_okq (⟨"TornPageLog$Log", "switchOff", "()V"⟩, 8) := ⟨⟨by decide +kernel, by decide +kernel⟩, List.mem_of_getElem? (i := 69) (by decide +kernel), List.mem_of_getElem? (i := 430) (by decide +kernel), List.mem_of_getElem? (i := 431) (by decide +kernel)⟩
theorem lw_p10 : lw_okq (⟨"TornPageLog$Log", "canBeVictim", "(I)Z"⟩, 8) := ⟨⟨by decide +kernel, by decide +kernel⟩, List.mem_of_getElem? (i := 69) (by decide +kernel), List.mem_of_getElem? (i := 442) (by decide +kernel), List.mem_of_getElem? (i := 443) (by decide +kernel)⟩
theorem lw_p11 : lw_okq (⟨"TornPageLog$Log", "goesBefore", "(II)Z"⟩, 8) := ⟨⟨by decide +kernel, by decide +kernel⟩, List.mem_of_getElem? (i := 69) (by decide +kernel), List.mem_of_getElem? (i := 458) (by decide +kernel), List.mem_of_getElem? (i := 459) (by decide +kernel)⟩
theorem lw_p12 : lw_okq (⟨"TornPageLog$Log", "wearSpread", "()I"⟩, 8) := ⟨⟨by decide +kernel, by decide +kernel⟩, List.mem_of_getElem? (i := 69) (by decide +kernel), List.mem_of_getElem? (i := 510) (by decide +kernel), List.mem_of_getElem? (i := 511) (by decide +kernel)⟩
def lw_privs_1 : List (MethodName × Nat) := [(⟨"TornPageLog$Flash", "findRecords", "()V"⟩, 9), (⟨"TornPageLog$Story", "current", "()I"⟩, 8), (⟨"TornPageLog$Story", "readNumber", "(III)I"⟩, 8), (⟨"java/lang/Throwable", "fillInStackTrace", "(I)Ljava/lang/Throwable;"⟩, 6), (⟨"TornPageLog", "perform", "(LTornPageLog$Log;III)Z"⟩, 6), (⟨"TornPageLog", "costOfRecord", "(LTornPageLog$Log;)I"⟩, 6), (⟨"TornPageLog$Log", "takePage", "(I)I"⟩, 8), (⟨"TornPageLog$Log", "writePage", "(IIIZ)Z"⟩, 8), (⟨"TornPageLog$Log", "isCutNow", "()Z"⟩, 8), (⟨"TornPageLog$Log", "switchOff", "()V"⟩, 8), (⟨"TornPageLog$Log", "canBeVictim", "(I)Z"⟩, 8), (⟨"TornPageLog$Log", "goesBefore", "(II)Z"⟩, 8), (⟨"TornPageLog$Log", "wearSpread", "()I"⟩, 8)]
theorem lw_r1 : ∀ q ∈ lw_privs_1, lw_okq q := List.forall_mem_cons.mpr ⟨lw_p0, List.forall_mem_cons.mpr ⟨lw_p1, List.forall_mem_cons.mpr ⟨lw_p2, List.forall_mem_cons.mpr ⟨lw_p3, List.forall_mem_cons.mpr ⟨lw_p4, List.forall_mem_cons.mpr ⟨lw_p5, List.forall_mem_cons.mpr ⟨lw_p6, List.forall_mem_cons.mpr ⟨lw_p7, List.forall_mem_cons.mpr ⟨lw_p8, List.forall_mem_cons.mpr ⟨lw_p9, List.forall_mem_cons.mpr ⟨lw_p10, List.forall_mem_cons.mpr ⟨lw_p11, List.forall_mem_cons.mpr ⟨lw_p12, fun _ h => absurd h List.not_mem_nil⟩⟩⟩⟩⟩⟩⟩⟩⟩⟩⟩⟩⟩
def lw_privs : List (MethodName × Nat) := lw_privs_1
def lw_tbl : List Cond := k2_sels lw_privs ++ tables_1
theorem lw_privs_ok : ∀ q ∈ lw_privs, lw_okq q := lw_r1

def RX0 : String := "TornPageLog$Flash"
def TX0 : u_T := fun k => match k with
  | 0 => ("TornPageLog$Flash", "kinds", "[I", true)
  | 1 => ("TornPageLog$Flash", "keys", "[I", true)
  | 2 => ("TornPageLog$Flash", "values", "[I", true)
  | 3 => ("TornPageLog$Flash", "marks", "[I", true)
  | 4 => ("TornPageLog$Flash", "wears", "[I", true)
  | 5 => ("TornPageLog$Flash", "live", "[I", true)
  | 6 => ("TornPageLog$Flash", "newest", "[I", true)
  | 7 => ("TornPageLog$Flash", "free", "[I", true)
  | _ => ("TornPageLog$Flash", "blocks", "I", false)
def tyX0 : Nat → FieldType := fun k => match k with
  | 0 => .array .int
  | 1 => .array .int
  | 2 => .array .int
  | 3 => .array .int
  | 4 => .array .int
  | 5 => .array .int
  | 6 => .array .int
  | 7 => .array .int
  | _ => .int
abbrev wsX00 : List Cond := u_ws RX0 TX0 9
theorem nmX0 : ∀ a, a < 9 → ∀ b, b < 9 → a ≠ b → (TX0 a).2.1 ≠ (TX0 b).2.1 := by decide +kernel
theorem tyX0_ok : ∀ k, k < 9 → parseFieldDescriptor (TX0 k).2.2.1 = some (tyX0 k) := by decide +kernel
abbrev cX0_init : ByteArray := prog_2_method_1_code
def yX0_init : MethodName := ⟨RX0, "<init>", "()V"⟩
abbrev cX0_renew : ByteArray := prog_2_method_2_code
def yX0_renew : MethodName := ⟨RX0, "renew", "(I)V"⟩
abbrev cX0_copyFrom : ByteArray := prog_2_method_3_code
def yX0_copyFrom : MethodName := ⟨RX0, "copyFrom", "(LTornPageLog$Flash;)V"⟩
abbrev cX0_hasPage : ByteArray := prog_2_method_4_code
def yX0_hasPage : MethodName := ⟨RX0, "hasPage", "(I)Z"⟩
abbrev cX0_hasBlock : ByteArray := prog_2_method_5_code
def yX0_hasBlock : MethodName := ⟨RX0, "hasBlock", "(I)Z"⟩
abbrev cX0_tellPage : ByteArray := prog_2_method_6_code
def yX0_tellPage : MethodName := ⟨RX0, "tellPage", "(II)I"⟩
abbrev cX0_newestOf : ByteArray := prog_2_method_7_code
def yX0_newestOf : MethodName := ⟨RX0, "newestOf", "(I)I"⟩
abbrev cX0_valueOf : ByteArray := prog_2_method_8_code
def yX0_valueOf : MethodName := ⟨RX0, "valueOf", "(I)I"⟩
abbrev cX0_countKeys : ByteArray := prog_2_method_9_code
def yX0_countKeys : MethodName := ⟨RX0, "countKeys", "()I"⟩
abbrev cX0_wearOf : ByteArray := prog_2_method_10_code
def yX0_wearOf : MethodName := ⟨RX0, "wearOf", "(I)I"⟩
abbrev cX0_freeIn : ByteArray := prog_2_method_11_code
def yX0_freeIn : MethodName := ⟨RX0, "freeIn", "(I)I"⟩
abbrev cX0_countTorn : ByteArray := prog_2_method_12_code
def yX0_countTorn : MethodName := ⟨RX0, "countTorn", "(I)I"⟩
abbrev cX0_countLive : ByteArray := prog_2_method_13_code
def yX0_countLive : MethodName := ⟨RX0, "countLive", "(I)I"⟩
abbrev cX0_hasTornOrDead : ByteArray := prog_2_method_14_code
def yX0_hasTornOrDead : MethodName := ⟨RX0, "hasTornOrDead", "(I)Z"⟩
abbrev cX0_greatestMark : ByteArray := prog_2_method_15_code
def yX0_greatestMark : MethodName := ⟨RX0, "greatestMark", "(I)I"⟩
abbrev cX0_countCleanBlocks : ByteArray := prog_2_method_16_code
def yX0_countCleanBlocks : MethodName := ⟨RX0, "countCleanBlocks", "(I)I"⟩
abbrev cX0_leastWornCleanBlock : ByteArray := prog_2_method_17_code
def yX0_leastWornCleanBlock : MethodName := ⟨RX0, "leastWornCleanBlock", "(I)I"⟩
abbrev cX0_write : ByteArray := prog_2_method_18_code
def yX0_write : MethodName := ⟨RX0, "write", "(IIII)V"⟩
abbrev cX0_tear : ByteArray := prog_2_method_19_code
def yX0_tear : MethodName := ⟨RX0, "tear", "(I)V"⟩
abbrev cX0_wipe : ByteArray := prog_2_method_20_code
def yX0_wipe : MethodName := ⟨RX0, "wipe", "(II)V"⟩
abbrev cX0_findRecords : ByteArray := prog_2_method_21_code
def yX0_findRecords : MethodName := ⟨RX0, "findRecords", "()V"⟩
def RX1 : String := "TornPageLog$History"
def TX1 : u_T := fun k => match k with
  | 0 => ("TornPageLog$History", "states", "[LTornPageLog$Log;", true)
  | 1 => ("TornPageLog$History", "next", "I", false)
  | _ => ("TornPageLog$History", "count", "I", false)
def tyX1 : Nat → FieldType := fun k => match k with
  | 0 => .array (.object "TornPageLog$Log")
  | 1 => .int
  | _ => .int
abbrev wsX10 : List Cond := u_ws RX1 TX1 3
theorem nmX1 : ∀ a, a < 3 → ∀ b, b < 3 → a ≠ b → (TX1 a).2.1 ≠ (TX1 b).2.1 := by decide +kernel
theorem tyX1_ok : ∀ k, k < 3 → parseFieldDescriptor (TX1 k).2.2.1 = some (tyX1 k) := by decide +kernel
abbrev cX1_init : ByteArray := prog_3_method_1_code
def yX1_init : MethodName := ⟨RX1, "<init>", "()V"⟩
abbrev cX1_forget : ByteArray := prog_3_method_2_code
def yX1_forget : MethodName := ⟨RX1, "forget", "()V"⟩
abbrev cX1_remember : ByteArray := prog_3_method_3_code
def yX1_remember : MethodName := ⟨RX1, "remember", "(LTornPageLog$Log;)V"⟩
abbrev cX1_takeBack : ByteArray := prog_3_method_4_code
def yX1_takeBack : MethodName := ⟨RX1, "takeBack", "(LTornPageLog$Log;)V"⟩
def RX2 : String := "TornPageLog$Log"
def TX2 : u_T := fun k => match k with
  | 0 => ("TornPageLog$Log", "flash", "LTornPageLog$Flash;", true)
  | 1 => ("TornPageLog$Log", "tally", "LTornPageLog$Tally;", true)
  | 2 => ("TornPageLog$Log", "on", "Z", false)
  | 3 => ("TornPageLog$Log", "policy", "I", false)
  | 4 => ("TornPageLog$Log", "cutIn", "I", false)
  | 5 => ("TornPageLog$Log", "life", "I", false)
  | 6 => ("TornPageLog$Log", "open", "I", false)
  | _ => ("TornPageLog$Log", "nextMark", "I", false)
def tyX2 : Nat → FieldType := fun k => match k with
  | 0 => .object "TornPageLog$Flash"
  | 1 => .object "TornPageLog$Tally"
  | 2 => .boolean
  | 3 => .int
  | 4 => .int
  | 5 => .int
  | 6 => .int
  | _ => .int
abbrev wsX20 : List Cond := u_ws RX2 TX2 8
theorem nmX2 : ∀ a, a < 8 → ∀ b, b < 8 → a ≠ b → (TX2 a).2.1 ≠ (TX2 b).2.1 := by decide +kernel
theorem tyX2_ok : ∀ k, k < 8 → parseFieldDescriptor (TX2 k).2.2.1 = some (tyX2 k) := by decide +kernel
abbrev cX2_init : ByteArray := prog_4_method_1_code
def yX2_init : MethodName := ⟨RX2, "<init>", "()V"⟩
abbrev cX2_renew : ByteArray := prog_4_method_2_code
def yX2_renew : MethodName := ⟨RX2, "renew", "(II)V"⟩
abbrev cX2_copyFrom : ByteArray := prog_4_method_3_code
def yX2_copyFrom : MethodName := ⟨RX2, "copyFrom", "(LTornPageLog$Log;)V"⟩
abbrev cX2_tell : ByteArray := prog_4_method_4_code
def yX2_tell : MethodName := ⟨RX2, "tell", "(I)I"⟩
abbrev cX2_tellBlock : ByteArray := prog_4_method_5_code
def yX2_tellBlock : MethodName := ⟨RX2, "tellBlock", "(II)I"⟩
abbrev cX2_wearSpread : ByteArray := prog_4_method_6_code
def yX2_wearSpread : MethodName := ⟨RX2, "wearSpread", "()I"⟩
abbrev cX2_hasSomethingToSweep : ByteArray := prog_4_method_7_code
def yX2_hasSomethingToSweep : MethodName := ⟨RX2, "hasSomethingToSweep", "()Z"⟩
abbrev cX2_canBeVictim : ByteArray := prog_4_method_8_code
def yX2_canBeVictim : MethodName := ⟨RX2, "canBeVictim", "(I)Z"⟩
abbrev cX2_chooseVictim : ByteArray := prog_4_method_9_code
def yX2_chooseVictim : MethodName := ⟨RX2, "chooseVictim", "()I"⟩
abbrev cX2_goesBefore : ByteArray := prog_4_method_10_code
def yX2_goesBefore : MethodName := ⟨RX2, "goesBefore", "(II)Z"⟩
abbrev cX2_switchOn : ByteArray := prog_4_method_11_code
def yX2_switchOn : MethodName := ⟨RX2, "switchOn", "()Z"⟩
abbrev cX2_store : ByteArray := prog_4_method_12_code
def yX2_store : MethodName := ⟨RX2, "store", "(II)I"⟩
abbrev cX2_sweepBlock : ByteArray := prog_4_method_13_code
def yX2_sweepBlock : MethodName := ⟨RX2, "sweepBlock", "(I)I"⟩
abbrev cX2_takePage : ByteArray := prog_4_method_14_code
def yX2_takePage : MethodName := ⟨RX2, "takePage", "(I)I"⟩
abbrev cX2_writePage : ByteArray := prog_4_method_15_code
def yX2_writePage : MethodName := ⟨RX2, "writePage", "(IIIZ)Z"⟩
abbrev cX2_isCutNow : ByteArray := prog_4_method_16_code
def yX2_isCutNow : MethodName := ⟨RX2, "isCutNow", "()Z"⟩
abbrev cX2_switchOff : ByteArray := prog_4_method_17_code
def yX2_switchOff : MethodName := ⟨RX2, "switchOff", "()V"⟩
def RX3 : String := "TornPageLog$Slots"
def TX3 : u_T := fun k => match k with
  | 0 => ("TornPageLog$Slots", "states", "[LTornPageLog$Log;", true)
  | _ => ("TornPageLog$Slots", "used", "[Z", true)
def tyX3 : Nat → FieldType := fun k => match k with
  | 0 => .array (.object "TornPageLog$Log")
  | _ => .array .boolean
abbrev wsX30 : List Cond := u_ws RX3 TX3 2
theorem nmX3 : ∀ a, a < 2 → ∀ b, b < 2 → a ≠ b → (TX3 a).2.1 ≠ (TX3 b).2.1 := by decide +kernel
theorem tyX3_ok : ∀ k, k < 2 → parseFieldDescriptor (TX3 k).2.2.1 = some (tyX3 k) := by decide +kernel
abbrev cX3_init : ByteArray := prog_5_method_1_code
def yX3_init : MethodName := ⟨RX3, "<init>", "()V"⟩
abbrev cX3_empty : ByteArray := prog_5_method_2_code
def yX3_empty : MethodName := ⟨RX3, "empty", "()V"⟩
abbrev cX3_isUsed : ByteArray := prog_5_method_3_code
def yX3_isUsed : MethodName := ⟨RX3, "isUsed", "(I)Z"⟩
abbrev cX3_keep : ByteArray := prog_5_method_4_code
def yX3_keep : MethodName := ⟨RX3, "keep", "(ILTornPageLog$Log;)V"⟩
abbrev cX3_bringBack : ByteArray := prog_5_method_5_code
def yX3_bringBack : MethodName := ⟨RX3, "bringBack", "(ILTornPageLog$Log;)V"⟩
def RX4 : String := "TornPageLog$Story"
def TX4 : u_T := fun k => match k with
  | 0 => ("TornPageLog$Story", "text", "[I", true)
  | 1 => ("TornPageLog$Story", "length", "I", false)
  | 2 => ("TornPageLog$Story", "at", "I", false)
  | 3 => ("TornPageLog$Story", "blocks", "I", false)
  | 4 => ("TornPageLog$Story", "life", "I", false)
  | 5 => ("TornPageLog$Story", "command", "I", false)
  | 6 => ("TornPageLog$Story", "key", "I", false)
  | _ => ("TornPageLog$Story", "number", "I", false)
def tyX4 : Nat → FieldType := fun k => match k with
  | 0 => .array .int
  | 1 => .int
  | 2 => .int
  | 3 => .int
  | 4 => .int
  | 5 => .int
  | 6 => .int
  | _ => .int
abbrev wsX40 : List Cond := u_ws RX4 TX4 8
theorem nmX4 : ∀ a, a < 8 → ∀ b, b < 8 → a ≠ b → (TX4 a).2.1 ≠ (TX4 b).2.1 := by decide +kernel
theorem tyX4_ok : ∀ k, k < 8 → parseFieldDescriptor (TX4 k).2.2.1 = some (tyX4 k) := by decide +kernel
abbrev cX4_init : ByteArray := prog_6_method_1_code
def yX4_init : MethodName := ⟨RX4, "<init>", "()V"⟩
abbrev cX4_isFull : ByteArray := prog_6_method_2_code
def yX4_isFull : MethodName := ⟨RX4, "isFull", "()Z"⟩
abbrev cX4_add : ByteArray := prog_6_method_3_code
def yX4_add : MethodName := ⟨RX4, "add", "(I)I"⟩
abbrev cX4_empty : ByteArray := prog_6_method_4_code
def yX4_empty : MethodName := ⟨RX4, "empty", "()I"⟩
abbrev cX4_firstError : ByteArray := prog_6_method_5_code
def yX4_firstError : MethodName := ⟨RX4, "firstError", "()I"⟩
abbrev cX4_hasMore : ByteArray := prog_6_method_6_code
def yX4_hasMore : MethodName := ⟨RX4, "hasMore", "()Z"⟩
abbrev cX4_readChip : ByteArray := prog_6_method_7_code
def yX4_readChip : MethodName := ⟨RX4, "readChip", "()Z"⟩
abbrev cX4_readCommand : ByteArray := prog_6_method_8_code
def yX4_readCommand : MethodName := ⟨RX4, "readCommand", "()Z"⟩
abbrev cX4_commandOf : ByteArray := prog_6_method_9_code
def yX4_commandOf : MethodName := ⟨RX4, "commandOf", "(I)I"⟩
abbrev cX4_readNumber : ByteArray := prog_6_method_10_code
def yX4_readNumber : MethodName := ⟨RX4, "readNumber", "(III)I"⟩
abbrev cX4_current : ByteArray := prog_6_method_11_code
def yX4_current : MethodName := ⟨RX4, "current", "()I"⟩
def RX5 : String := "TornPageLog$Tally"
def TX5 : u_T := fun k => match k with
  | 0 => ("TornPageLog$Tally", "operations", "I", false)
  | 1 => ("TornPageLog$Tally", "written", "I", false)
  | 2 => ("TornPageLog$Tally", "copies", "I", false)
  | 3 => ("TornPageLog$Tally", "erased", "I", false)
  | 4 => ("TornPageLog$Tally", "cuts", "I", false)
  | 5 => ("TornPageLog$Tally", "cutAddress", "I", false)
  | 6 => ("TornPageLog$Tally", "cutErasing", "I", false)
  | _ => ("TornPageLog$Tally", "cutInSweep", "I", false)
def tyX5 : Nat → FieldType := fun k => match k with
  | 0 => .int
  | 1 => .int
  | 2 => .int
  | 3 => .int
  | 4 => .int
  | 5 => .int
  | 6 => .int
  | _ => .int
abbrev wsX50 : List Cond := u_ws RX5 TX5 8
theorem nmX5 : ∀ a, a < 8 → ∀ b, b < 8 → a ≠ b → (TX5 a).2.1 ≠ (TX5 b).2.1 := by decide +kernel
theorem tyX5_ok : ∀ k, k < 8 → parseFieldDescriptor (TX5 k).2.2.1 = some (tyX5 k) := by decide +kernel
abbrev cX5_init : ByteArray := prog_7_method_1_code
def yX5_init : MethodName := ⟨RX5, "<init>", "()V"⟩
abbrev cX5_renew : ByteArray := prog_7_method_2_code
def yX5_renew : MethodName := ⟨RX5, "renew", "()V"⟩
abbrev cX5_copyFrom : ByteArray := prog_7_method_3_code
def yX5_copyFrom : MethodName := ⟨RX5, "copyFrom", "(LTornPageLog$Tally;)V"⟩
abbrev cX5_countCut : ByteArray := prog_7_method_4_code
def yX5_countCut : MethodName := ⟨RX5, "countCut", "(IZZ)V"⟩
abbrev cX5_tell : ByteArray := prog_7_method_5_code
def yX5_tell : MethodName := ⟨RX5, "tell", "(I)I"⟩
abbrev cX5_tellCut : ByteArray := prog_7_method_6_code
def yX5_tellCut : MethodName := ⟨RX5, "tellCut", "(I)I"⟩
def RX6 : String := "TornPageLog"
def TX6 : u_T := fun k => match k with
  | 0 => ("TornPageLog", "story", "LTornPageLog$Story;", true)
  | 1 => ("TornPageLog", "history", "LTornPageLog$History;", true)
  | 2 => ("TornPageLog", "slots", "LTornPageLog$Slots;", true)
  | 3 => ("TornPageLog", "log", "LTornPageLog$Log;", true)
  | 4 => ("TornPageLog", "copy", "LTornPageLog$Log;", true)
  | _ => ("TornPageLog", "trial", "LTornPageLog$Log;", true)
def tyX6 : Nat → FieldType := fun k => match k with
  | 0 => .object "TornPageLog$Story"
  | 1 => .object "TornPageLog$History"
  | 2 => .object "TornPageLog$Slots"
  | 3 => .object "TornPageLog$Log"
  | 4 => .object "TornPageLog$Log"
  | _ => .object "TornPageLog$Log"
abbrev wsX60 : List Cond := u_ws RX6 TX6 6
theorem nmX6 : ∀ a, a < 6 → ∀ b, b < 6 → a ≠ b → (TX6 a).2.1 ≠ (TX6 b).2.1 := by decide +kernel
theorem tyX6_ok : ∀ k, k < 6 → parseFieldDescriptor (TX6 k).2.2.1 = some (tyX6 k) := by decide +kernel
abbrev cX6_init : ByteArray := prog_1_method_1_code
def yX6_init : MethodName := ⟨RX6, "<init>", "()V"⟩
abbrev cX6_append : ByteArray := prog_1_method_2_code
def yX6_append : MethodName := ⟨RX6, "append", "(I)I"⟩
abbrev cX6_clearText : ByteArray := prog_1_method_3_code
def yX6_clearText : MethodName := ⟨RX6, "clearText", "()I"⟩
abbrev cX6_errorPosition : ByteArray := prog_1_method_4_code
def yX6_errorPosition : MethodName := ⟨RX6, "errorPosition", "()I"⟩
abbrev cX6_load : ByteArray := prog_1_method_5_code
def yX6_load : MethodName := ⟨RX6, "load", "()I"⟩
abbrev cX6_about : ByteArray := prog_1_method_6_code
def yX6_about : MethodName := ⟨RX6, "about", "(I)I"⟩
abbrev cX6_page : ByteArray := prog_1_method_7_code
def yX6_page : MethodName := ⟨RX6, "page", "(II)I"⟩
abbrev cX6_block : ByteArray := prog_1_method_8_code
def yX6_block : MethodName := ⟨RX6, "block", "(II)I"⟩
abbrev cX6_get : ByteArray := prog_1_method_9_code
def yX6_get : MethodName := ⟨RX6, "get", "(I)I"⟩
abbrev cX6_keyAt : ByteArray := prog_1_method_10_code
def yX6_keyAt : MethodName := ⟨RX6, "keyAt", "(I)I"⟩
abbrev cX6_newest : ByteArray := prog_1_method_11_code
def yX6_newest : MethodName := ⟨RX6, "newest", "(I)I"⟩
abbrev cX6_lastCut : ByteArray := prog_1_method_12_code
def yX6_lastCut : MethodName := ⟨RX6, "lastCut", "(I)I"⟩
abbrev cX6_put : ByteArray := prog_1_method_13_code
def yX6_put : MethodName := ⟨RX6, "put", "(II)I"⟩
abbrev cX6_remove : ByteArray := prog_1_method_14_code
def yX6_remove : MethodName := ⟨RX6, "remove", "(I)I"⟩
abbrev cX6_sweep : ByteArray := prog_1_method_15_code
def yX6_sweep : MethodName := ⟨RX6, "sweep", "()I"⟩
abbrev cX6_cut : ByteArray := prog_1_method_16_code
def yX6_cut : MethodName := ⟨RX6, "cut", "(I)I"⟩
abbrev cX6_start : ByteArray := prog_1_method_17_code
def yX6_start : MethodName := ⟨RX6, "start", "()I"⟩
abbrev cX6_setPolicy : ByteArray := prog_1_method_18_code
def yX6_setPolicy : MethodName := ⟨RX6, "setPolicy", "(I)I"⟩
abbrev cX6_undo : ByteArray := prog_1_method_19_code
def yX6_undo : MethodName := ⟨RX6, "undo", "()I"⟩
abbrev cX6_victim : ByteArray := prog_1_method_20_code
def yX6_victim : MethodName := ⟨RX6, "victim", "()I"⟩
abbrev cX6_whyNoRoom : ByteArray := prog_1_method_21_code
def yX6_whyNoRoom : MethodName := ⟨RX6, "whyNoRoom", "()I"⟩
abbrev cX6_operations : ByteArray := prog_1_method_22_code
def yX6_operations : MethodName := ⟨RX6, "operations", "()I"⟩
abbrev cX6_afterCut : ByteArray := prog_1_method_23_code
def yX6_afterCut : MethodName := ⟨RX6, "afterCut", "(III)I"⟩
abbrev cX6_lasts : ByteArray := prog_1_method_24_code
def yX6_lasts : MethodName := ⟨RX6, "lasts", "(I)I"⟩
abbrev cX6_oldest : ByteArray := prog_1_method_25_code
def yX6_oldest : MethodName := ⟨RX6, "oldest", "()I"⟩
abbrev cX6_runScript : ByteArray := prog_1_method_26_code
def yX6_runScript : MethodName := ⟨RX6, "runScript", "(IJ)I"⟩
abbrev cX6_simulate : ByteArray := prog_1_method_27_code
def yX6_simulate : MethodName := ⟨RX6, "simulate", "(JI)I"⟩
abbrev cX6_save : ByteArray := prog_1_method_28_code
def yX6_save : MethodName := ⟨RX6, "save", "(I)I"⟩
abbrev cX6_restore : ByteArray := prog_1_method_29_code
def yX6_restore : MethodName := ⟨RX6, "restore", "(I)I"⟩
abbrev cX6_isKey : ByteArray := prog_1_method_30_code
def yX6_isKey : MethodName := ⟨RX6, "isKey", "(I)Z"⟩
abbrev cX6_isValue : ByteArray := prog_1_method_31_code
def yX6_isValue : MethodName := ⟨RX6, "isValue", "(I)Z"⟩
abbrev cX6_costOfRecord : ByteArray := prog_1_method_32_code
def yX6_costOfRecord : MethodName := ⟨RX6, "costOfRecord", "(LTornPageLog$Log;)I"⟩
abbrev cX6_isCommand : ByteArray := prog_1_method_33_code
def yX6_isCommand : MethodName := ⟨RX6, "isCommand", "(I)Z"⟩
abbrev cX6_perform : ByteArray := prog_1_method_34_code
def yX6_perform : MethodName := ⟨RX6, "perform", "(LTornPageLog$Log;III)Z"⟩
abbrev cX6_copyRow : ByteArray := prog_1_method_35_code
def yX6_copyRow : MethodName := ⟨RX6, "copyRow", "([I[I)V"⟩
def RX7 : String := "TornPageLogModel"
def TX7 : u_T := fun k => match k with
  | _ => ("", "", "", false)
def tyX7 : Nat → FieldType := fun k => match k with
  | _ => .int
abbrev wsX70 : List Cond := u_ws RX7 TX7 0
theorem nmX7 : ∀ a, a < 0 → ∀ b, b < 0 → a ≠ b → (TX7 a).2.1 ≠ (TX7 b).2.1 := by decide +kernel
theorem tyX7_ok : ∀ k, k < 0 → parseFieldDescriptor (TX7 k).2.2.1 = some (tyX7 k) := by decide +kernel
def RJ9 : String := "java/lang/Math"
def TJ9 : u_T := fun k => match k with
  | _ => ("", "", "", false)
def tyJ9 : Nat → FieldType := fun k => match k with
  | _ => .int
abbrev wsJ90 : List Cond := u_ws RJ9 TJ9 0
theorem nmJ9 : ∀ a, a < 0 → ∀ b, b < 0 → a ≠ b → (TJ9 a).2.1 ≠ (TJ9 b).2.1 := by decide +kernel
theorem tyJ9_ok : ∀ k, k < 0 → parseFieldDescriptor (TJ9 k).2.2.1 = some (tyJ9 k) := by decide +kernel
abbrev cJ9_max_7cf53 : ByteArray := prog_14_method_65_code
def yJ9_max_7cf53 : MethodName := ⟨RJ9, "max", "(II)I"⟩
abbrev cJ9_max_f86c9 : ByteArray := prog_14_method_66_code
def yJ9_max_f86c9 : MethodName := ⟨RJ9, "max", "(JJ)J"⟩
abbrev cJ9_min_7cf53 : ByteArray := prog_14_method_69_code
def yJ9_min_7cf53 : MethodName := ⟨RJ9, "min", "(II)I"⟩
def RJ0 : String := "java/lang/String"
def TJ0 : u_T := fun k => match k with
  | _ => ("", "", "", false)
def tyJ0 : Nat → FieldType := fun k => match k with
  | _ => .int
abbrev wsJ00 : List Cond := u_ws RJ0 TJ0 0
theorem nmJ0 : ∀ a, a < 0 → ∀ b, b < 0 → a ≠ b → (TJ0 a).2.1 ≠ (TJ0 b).2.1 := by decide +kernel
theorem tyJ0_ok : ∀ k, k < 0 → parseFieldDescriptor (TJ0 k).2.2.1 = some (tyJ0 k) := by decide +kernel
def RJ10 : String := "java/lang/System"
def TJ10 : u_T := fun k => match k with
  | _ => ("", "", "", false)
def tyJ10 : Nat → FieldType := fun k => match k with
  | _ => .int
abbrev wsJ100 : List Cond := u_ws RJ10 TJ10 0
theorem nmJ10 : ∀ a, a < 0 → ∀ b, b < 0 → a ≠ b → (TJ10 a).2.1 ≠ (TJ10 b).2.1 := by decide +kernel
theorem tyJ10_ok : ∀ k, k < 0 → parseFieldDescriptor (TJ10 k).2.2.1 = some (tyJ10 k) := by decide +kernel
def RL : String := "TornPageLogLaw"
abbrev cL_draw : ByteArray := method_2_code
def yL_draw : MethodName := ⟨RL, "draw", "([II)I"⟩
abbrev cL_in : ByteArray := method_3_code
def yL_in : MethodName := ⟨RL, "in", "(JJJ)Z"⟩
abbrev cL_append : ByteArray := method_4_code
def yL_append : MethodName := ⟨RL, "append", "(LTornPageLog;I)J"⟩
abbrev cL_load : ByteArray := method_5_code
def yL_load : MethodName := ⟨RL, "load", "(LTornPageLog;)J"⟩
abbrev cL_about : ByteArray := method_6_code
def yL_about : MethodName := ⟨RL, "about", "(LTornPageLog;I)J"⟩
abbrev cL_page : ByteArray := method_7_code
def yL_page : MethodName := ⟨RL, "page", "(LTornPageLog;II)J"⟩
abbrev cL_block : ByteArray := method_8_code
def yL_block : MethodName := ⟨RL, "block", "(LTornPageLog;II)J"⟩
abbrev cL_get : ByteArray := method_9_code
def yL_get : MethodName := ⟨RL, "get", "(LTornPageLog;I)J"⟩
abbrev cL_keyAt : ByteArray := method_10_code
def yL_keyAt : MethodName := ⟨RL, "keyAt", "(LTornPageLog;I)J"⟩
abbrev cL_newest : ByteArray := method_11_code
def yL_newest : MethodName := ⟨RL, "newest", "(LTornPageLog;I)J"⟩
abbrev cL_lastCut : ByteArray := method_12_code
def yL_lastCut : MethodName := ⟨RL, "lastCut", "(LTornPageLog;I)J"⟩
abbrev cL_put : ByteArray := method_13_code
def yL_put : MethodName := ⟨RL, "put", "(LTornPageLog;II)J"⟩
abbrev cL_remove : ByteArray := method_14_code
def yL_remove : MethodName := ⟨RL, "remove", "(LTornPageLog;I)J"⟩
abbrev cL_sweep : ByteArray := method_15_code
def yL_sweep : MethodName := ⟨RL, "sweep", "(LTornPageLog;)J"⟩
abbrev cL_cut : ByteArray := method_16_code
def yL_cut : MethodName := ⟨RL, "cut", "(LTornPageLog;I)J"⟩
abbrev cL_start : ByteArray := method_17_code
def yL_start : MethodName := ⟨RL, "start", "(LTornPageLog;)J"⟩
abbrev cL_setPolicy : ByteArray := method_18_code
def yL_setPolicy : MethodName := ⟨RL, "setPolicy", "(LTornPageLog;I)J"⟩
abbrev cL_undo : ByteArray := method_19_code
def yL_undo : MethodName := ⟨RL, "undo", "(LTornPageLog;)J"⟩
abbrev cL_operations : ByteArray := method_20_code
def yL_operations : MethodName := ⟨RL, "operations", "(LTornPageLog;)J"⟩
abbrev cL_afterCut : ByteArray := method_21_code
def yL_afterCut : MethodName := ⟨RL, "afterCut", "(LTornPageLog;III)J"⟩
abbrev cL_lasts : ByteArray := method_22_code
def yL_lasts : MethodName := ⟨RL, "lasts", "(LTornPageLog;I)J"⟩
abbrev cL_script : ByteArray := method_23_code
def yL_script : MethodName := ⟨RL, "script", "(LTornPageLog;IJ)J"⟩
abbrev cL_simulate : ByteArray := method_24_code
def yL_simulate : MethodName := ⟨RL, "simulate", "(LTornPageLog;JI)J"⟩
abbrev cL_save : ByteArray := method_25_code
def yL_save : MethodName := ⟨RL, "save", "(LTornPageLog;I)J"⟩
abbrev cL_restore : ByteArray := method_26_code
def yL_restore : MethodName := ⟨RL, "restore", "(LTornPageLog;I)J"⟩
abbrev cL_now : ByteArray := method_27_code
def yL_now : MethodName := ⟨RL, "now", "(LTornPageLog;)J"⟩
abbrev cL_errors : ByteArray := method_28_code
def yL_errors : MethodName := ⟨RL, "errors", "(LTornPageLog;)Z"⟩
abbrev cL_kept : ByteArray := method_29_code
def yL_kept : MethodName := ⟨RL, "kept", "(LTornPageLog;)Z"⟩
abbrev cL_fewest : ByteArray := method_30_code
def yL_fewest : MethodName := ⟨RL, "fewest", "(LTornPageLog;I)Z"⟩
abbrev cL_others : ByteArray := method_31_code
def yL_others : MethodName := ⟨RL, "others", "(LTornPageLog;I)J"⟩
abbrev cL_valueOf : ByteArray := method_32_code
def yL_valueOf : MethodName := ⟨RL, "valueOf", "(LTornPageLog;I)J"⟩
abbrev cL_follows : ByteArray := method_33_code
def yL_follows : MethodName := ⟨RL, "follows", "(LTornPageLog;I)Z"⟩
abbrev cL_alike : ByteArray := method_34_code
def yL_alike : MethodName := ⟨RL, "alike", "(LTornPageLog;LTornPageLog;I)Z"⟩
abbrev cL_types : ByteArray := method_35_code
def yL_types : MethodName := ⟨RL, "types", "(LTornPageLog;II)Z"⟩
abbrev cL_tells : ByteArray := method_36_code
def yL_tells : MethodName := ⟨RL, "tells", "(LTornPageLog;II)Z"⟩
abbrev cL_act : ByteArray := method_37_code
def yL_act : MethodName := ⟨RL, "act", "(LTornPageLog;II)J"⟩
abbrev cL_law : ByteArray := code
def yL_law : MethodName := ⟨RL, "law", "([I)Z"⟩
abbrev vwCl : List vw_C := [(RX0, TX0, 9), (RX1, TX1, 3), (RX2, TX2, 8), (RX3, TX3, 2), (RX4, TX4, 8), (RX5, TX5, 8), (RX6, TX6, 6)]
