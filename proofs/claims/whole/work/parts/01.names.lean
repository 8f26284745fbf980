-- ===== PART A: goes FIRST, ahead of the names: the tables' words, and 'selects' of the private methods out of them =====
/-- a private method of a class that the tables say can be made, by its rows of tables_1 -/
def lw_okq (q : MethodName × Nat) : Prop := (q.1.cls ≠ "java/lang/invoke/MethodHandle" ∧ q.1.cls ≠ "java/lang/invoke/VarHandle") ∧ Cond.instantiable q.1.cls q.2 ∈ tables_1 ∧ Cond.privateMethod q.1 ∈ tables_1 ∧ Cond.instanceMethod q.1 ∈ tables_1
theorem lw_p0 : lw_okq (⟨"TornPageLog$Flash", "findRecords", "()V"⟩, 9) := ⟨⟨by decide +kernel, by decide +kernel⟩, List.mem_of_getElem? (i := 76) (by decide +kernel), List.mem_of_getElem? (i := 162) (by decide +kernel), List.mem_of_getElem? (i := 163) (by decide +kernel)⟩
theorem lw_p1 : lw_okq (⟨"TornPageLog$Story", "current", "()I"⟩, 8) := ⟨⟨by decide +kernel, by decide +kernel⟩, List.mem_of_getElem? (i := 26) (by decide +kernel), List.mem_of_getElem? (i := 268) (by decide +kernel), List.mem_of_getElem? (i := 269) (by decide +kernel)⟩
theorem lw_p2 : lw_okq (⟨"TornPageLog$Story", "readNumber", "(III)I"⟩, 8) := ⟨⟨by decide +kernel, by decide +kernel⟩, List.mem_of_getElem? (i := 26) (by decide +kernel), List.mem_of_getElem? (i := 272) (by decide +kernel), List.mem_of_getElem? (i := 273) (by decide +kernel)⟩
theorem lw_p3 : lw_okq (⟨"TornPageLog$Log", "canBeVictim", "(I)Z"⟩, 8) := ⟨⟨by decide +kernel, by decide +kernel⟩, List.mem_of_getElem? (i := 70) (by decide +kernel), List.mem_of_getElem? (i := 295) (by decide +kernel), List.mem_of_getElem? (i := 296) (by decide +kernel)⟩
theorem lw_p4 : lw_okq (⟨"TornPageLog$Log", "goesBefore", "(II)Z"⟩, 8) := ⟨⟨by decide +kernel, by decide +kernel⟩, List.mem_of_getElem? (i := 70) (by decide +kernel), List.mem_of_getElem? (i := 319) (by decide +kernel), List.mem_of_getElem? (i := 320) (by decide +kernel)⟩
theorem lw_p5 : lw_okq (⟨"TornPageLog", "costOfRecord", "(LTornPageLog$Log;)I"⟩, 6) := ⟨⟨by decide +kernel, by decide +kernel⟩, List.mem_of_getElem? (i := 18) (by decide +kernel), List.mem_of_getElem? (i := 331) (by decide +kernel), List.mem_of_getElem? (i := 332) (by decide +kernel)⟩
theorem lw_p6 : lw_okq (⟨"TornPageLog$Log", "takePage", "(I)I"⟩, 8) := ⟨⟨by decide +kernel, by decide +kernel⟩, List.mem_of_getElem? (i := 70) (by decide +kernel), List.mem_of_getElem? (i := 358) (by decide +kernel), List.mem_of_getElem? (i := 359) (by decide +kernel)⟩
theorem lw_p7 : lw_okq (⟨"TornPageLog$Log", "writePage", "(IIIZ)Z"⟩, 8) := ⟨⟨by decide +kernel, by decide +kernel⟩, List.mem_of_getElem? (i := 70) (by decide +kernel), List.mem_of_getElem? (i := 366) (by decide +kernel), List.mem_of_getElem? (i := 367) (by decide +kernel)⟩
theorem lw_p8 : lw_okq (⟨"TornPageLog$Log", "isCutNow", "()Z"⟩, 8) := ⟨⟨by decide +kernel, by decide +kernel⟩, List.mem_of_getElem? (i := 70) (by decide +kernel), List.mem_of_getElem? (i := 370) (by decide +kernel), List.mem_of_getElem? (i := 371) (by decide +kernel)⟩
theorem lw_p9 : lw_okq (⟨"TornPageLog$Log", "switchOff", "()V"⟩, 8) := ⟨⟨by decide +kernel, by decide +kernel⟩, List.mem_of_getElem? (i := 70) (by decide +kernel), List.mem_of_getElem? (i := 382) (by decide +kernel), List.mem_of_getElem? (i := 383) (by decide +kernel)⟩
theorem lw_p10 : lw_okq (⟨"java/lang/Throwable", "fillInStackTrace", "(I)Ljava/lang/Throwable;"⟩, 6) := ⟨⟨by decide +kernel, by decide +kernel⟩, List.mem_of_getElem? (i := 472) (by decide +kernel), List.mem_of_getElem? (i := 470) (by decide +kernel), List.mem_of_getElem? (i := 471) (by decide +kernel)⟩
theorem lw_p11 : lw_okq (⟨"TornPageLog", "perform", "(LTornPageLog$Log;III)Z"⟩, 6) := ⟨⟨by decide +kernel, by decide +kernel⟩, List.mem_of_getElem? (i := 18) (by decide +kernel), List.mem_of_getElem? (i := 546) (by decide +kernel), List.mem_of_getElem? (i := 547) (by decide +kernel)⟩
theorem lw_p12 : lw_okq (⟨"TornPageLog$Log", "wearSpread", "()I"⟩, 8) := ⟨⟨by decide +kernel, by decide +kernel⟩, List.mem_of_getElem? (i := 70) (by decide +kernel), List.mem_of_getElem? (i := 569) (by decide +kernel), List.mem_of_getElem? (i := 570) (by decide +kernel)⟩
theorem lw_p13 : lw_okq (⟨"TornPageLogModel", "refused", "(I)Z"⟩, 15) := ⟨⟨by decide +kernel, by decide +kernel⟩, List.mem_of_getElem? (i := 818) (by decide +kernel), List.mem_of_getElem? (i := 885) (by decide +kernel), List.mem_of_getElem? (i := 886) (by decide +kernel)⟩
theorem lw_p14 : lw_okq (⟨"TornPageLogModel", "readText", "()I"⟩, 15) := ⟨⟨by decide +kernel, by decide +kernel⟩, List.mem_of_getElem? (i := 818) (by decide +kernel), List.mem_of_getElem? (i := 897) (by decide +kernel), List.mem_of_getElem? (i := 898) (by decide +kernel)⟩
theorem lw_p15 : lw_okq (⟨"TornPageLogModel", "head", "()V"⟩, 15) := ⟨⟨by decide +kernel, by decide +kernel⟩, List.mem_of_getElem? (i := 818) (by decide +kernel), List.mem_of_getElem? (i := 901) (by decide +kernel), List.mem_of_getElem? (i := 902) (by decide +kernel)⟩
def lw_privs_1 : List (MethodName × Nat) := [(⟨"TornPageLog$Flash", "findRecords", "()V"⟩, 9), (⟨"TornPageLog$Story", "current", "()I"⟩, 8), (⟨"TornPageLog$Story", "readNumber", "(III)I"⟩, 8), (⟨"TornPageLog$Log", "canBeVictim", "(I)Z"⟩, 8), (⟨"TornPageLog$Log", "goesBefore", "(II)Z"⟩, 8), (⟨"TornPageLog", "costOfRecord", "(LTornPageLog$Log;)I"⟩, 6), (⟨"TornPageLog$Log", "takePage", "(I)I"⟩, 8), (⟨"TornPageLog$Log", "writePage", "(IIIZ)Z"⟩, 8), (⟨"TornPageLog$Log", "isCutNow", "()Z"⟩, 8), (⟨"TornPageLog$Log", "switchOff", "()V"⟩, 8), (⟨"java/lang/Throwable", "fillInStackTrace", "(I)Ljava/lang/Throwable;"⟩, 6), (⟨"TornPageLog", "perform", "(LTornPageLog$Log;III)Z"⟩, 6), (⟨"TornPageLog$Log", "wearSpread", "()I"⟩, 8), (⟨"TornPageLogModel", "refused", "(I)Z"⟩, 15), (⟨"TornPageLogModel", "readText", "()I"⟩, 15), (⟨"TornPageLogModel", "head", "()V"⟩, 15)]
theorem lw_r1 : ∀ q ∈ lw_privs_1, lw_okq q := List.forall_mem_cons.mpr ⟨lw_p0, List.forall_mem_cons.mpr ⟨lw_p1, List.forall_mem_cons.mpr ⟨lw_p2, List.forall_mem_cons.mpr ⟨lw_p3, List.forall_mem_cons.mpr ⟨lw_p4, List.forall_mem_cons.mpr ⟨lw_p5, List.forall_mem_cons.mpr ⟨lw_p6, List.forall_mem_cons.mpr ⟨lw_p7, List.forall_mem_cons.mpr ⟨lw_p8, List.forall_mem_cons.mpr ⟨lw_p9, List.forall_mem_cons.mpr ⟨lw_p10, List.forall_mem_cons.mpr ⟨lw_p11, List.forall_mem_cons.mpr ⟨lw_p12, List.forall_mem_cons.mpr ⟨lw_p13, List.forall_mem_cons.mpr ⟨lw_p14, List.forall_mem_cons.mpr ⟨lw_p15, fun _ h => absurd h List.not_mem_nil⟩⟩⟩⟩⟩⟩⟩⟩⟩⟩⟩⟩⟩⟩⟩⟩
theorem lw_p16 : lw_okq (⟨"TornPageLogModel", "isNext", "(I)Z"⟩, 15) := ⟨⟨by decide +kernel, by decide +kernel⟩, List.mem_of_getElem? (i := 818) (by decide +kernel), List.mem_of_getElem? (i := 905) (by decide +kernel), List.mem_of_getElem? (i := 906) (by decide +kernel)⟩
theorem lw_p17 : lw_okq (⟨"TornPageLogModel", "accept", "(Z)V"⟩, 15) := ⟨⟨by decide +kernel, by decide +kernel⟩, List.mem_of_getElem? (i := 818) (by decide +kernel), List.mem_of_getElem? (i := 909) (by decide +kernel), List.mem_of_getElem? (i := 910) (by decide +kernel)⟩
theorem lw_p18 : lw_okq (⟨"TornPageLogModel", "digit", "(II)I"⟩, 15) := ⟨⟨by decide +kernel, by decide +kernel⟩, List.mem_of_getElem? (i := 818) (by decide +kernel), List.mem_of_getElem? (i := 913) (by decide +kernel), List.mem_of_getElem? (i := 914) (by decide +kernel)⟩
theorem lw_p19 : lw_okq (⟨"TornPageLogModel", "two", "(II)I"⟩, 15) := ⟨⟨by decide +kernel, by decide +kernel⟩, List.mem_of_getElem? (i := 818) (by decide +kernel), List.mem_of_getElem? (i := 918) (by decide +kernel), List.mem_of_getElem? (i := 919) (by decide +kernel)⟩
theorem lw_p20 : lw_okq (⟨"TornPageLogModel", "command", "(Z)Z"⟩, 15) := ⟨⟨by decide +kernel, by decide +kernel⟩, List.mem_of_getElem? (i := 818) (by decide +kernel), List.mem_of_getElem? (i := 922) (by decide +kernel), List.mem_of_getElem? (i := 923) (by decide +kernel)⟩
theorem lw_p21 : lw_okq (⟨"TornPageLogModel", "doPut", "([III)Z"⟩, 15) := ⟨⟨by decide +kernel, by decide +kernel⟩, List.mem_of_getElem? (i := 818) (by decide +kernel), List.mem_of_getElem? (i := 926) (by decide +kernel), List.mem_of_getElem? (i := 927) (by decide +kernel)⟩
theorem lw_p22 : lw_okq (⟨"TornPageLogModel", "hasRoom", "([I)Z"⟩, 15) := ⟨⟨by decide +kernel, by decide +kernel⟩, List.mem_of_getElem? (i := 818) (by decide +kernel), List.mem_of_getElem? (i := 930) (by decide +kernel), List.mem_of_getElem? (i := 931) (by decide +kernel)⟩
theorem lw_p23 : lw_okq (⟨"TornPageLogModel", "looked", "([I)I"⟩, 15) := ⟨⟨by decide +kernel, by decide +kernel⟩, List.mem_of_getElem? (i := 818) (by decide +kernel), List.mem_of_getElem? (i := 934) (by decide +kernel), List.mem_of_getElem? (i := 935) (by decide +kernel)⟩
theorem lw_p24 : lw_okq (⟨"TornPageLogModel", "record", "([III)I"⟩, 15) := ⟨⟨by decide +kernel, by decide +kernel⟩, List.mem_of_getElem? (i := 818) (by decide +kernel), List.mem_of_getElem? (i := 941) (by decide +kernel), List.mem_of_getElem? (i := 942) (by decide +kernel)⟩
theorem lw_p25 : lw_okq (⟨"TornPageLogModel", "sweepOnce", "([I)I"⟩, 15) := ⟨⟨by decide +kernel, by decide +kernel⟩, List.mem_of_getElem? (i := 818) (by decide +kernel), List.mem_of_getElem? (i := 969) (by decide +kernel), List.mem_of_getElem? (i := 970) (by decide +kernel)⟩
theorem lw_p26 : lw_okq (⟨"TornPageLogModel", "doRemove", "([II)Z"⟩, 15) := ⟨⟨by decide +kernel, by decide +kernel⟩, List.mem_of_getElem? (i := 818) (by decide +kernel), List.mem_of_getElem? (i := 1012) (by decide +kernel), List.mem_of_getElem? (i := 1013) (by decide +kernel)⟩
theorem lw_p27 : lw_okq (⟨"TornPageLogModel", "doSweep", "([I)Z"⟩, 15) := ⟨⟨by decide +kernel, by decide +kernel⟩, List.mem_of_getElem? (i := 818) (by decide +kernel), List.mem_of_getElem? (i := 1022) (by decide +kernel), List.mem_of_getElem? (i := 1023) (by decide +kernel)⟩
theorem lw_p28 : lw_okq (⟨"TornPageLogModel", "isPage", "(I)Z"⟩, 15) := ⟨⟨by decide +kernel, by decide +kernel⟩, List.mem_of_getElem? (i := 818) (by decide +kernel), List.mem_of_getElem? (i := 1051) (by decide +kernel), List.mem_of_getElem? (i := 1052) (by decide +kernel)⟩
theorem lw_p29 : lw_okq (⟨"TornPageLogModel", "isBlock", "(I)Z"⟩, 15) := ⟨⟨by decide +kernel, by decide +kernel⟩, List.mem_of_getElem? (i := 818) (by decide +kernel), List.mem_of_getElem? (i := 1060) (by decide +kernel), List.mem_of_getElem? (i := 1061) (by decide +kernel)⟩
theorem lw_p30 : lw_okq (⟨"TornPageLogModel", "note", "()V"⟩, 15) := ⟨⟨by decide +kernel, by decide +kernel⟩, List.mem_of_getElem? (i := 818) (by decide +kernel), List.mem_of_getElem? (i := 1091) (by decide +kernel), List.mem_of_getElem? (i := 1092) (by decide +kernel)⟩
theorem lw_p31 : lw_okq (⟨"TornPageLogModel", "reason", "()I"⟩, 15) := ⟨⟨by decide +kernel, by decide +kernel⟩, List.mem_of_getElem? (i := 818) (by decide +kernel), List.mem_of_getElem? (i := 1128) (by decide +kernel), List.mem_of_getElem? (i := 1129) (by decide +kernel)⟩
def lw_privs_2 : List (MethodName × Nat) := [(⟨"TornPageLogModel", "isNext", "(I)Z"⟩, 15), (⟨"TornPageLogModel", "accept", "(Z)V"⟩, 15), (⟨"TornPageLogModel", "digit", "(II)I"⟩, 15), (⟨"TornPageLogModel", "two", "(II)I"⟩, 15), (⟨"TornPageLogModel", "command", "(Z)Z"⟩, 15), (⟨"TornPageLogModel", "doPut", "([III)Z"⟩, 15), (⟨"TornPageLogModel", "hasRoom", "([I)Z"⟩, 15), (⟨"TornPageLogModel", "looked", "([I)I"⟩, 15), (⟨"TornPageLogModel", "record", "([III)I"⟩, 15), (⟨"TornPageLogModel", "sweepOnce", "([I)I"⟩, 15), (⟨"TornPageLogModel", "doRemove", "([II)Z"⟩, 15), (⟨"TornPageLogModel", "doSweep", "([I)Z"⟩, 15), (⟨"TornPageLogModel", "isPage", "(I)Z"⟩, 15), (⟨"TornPageLogModel", "isBlock", "(I)Z"⟩, 15), (⟨"TornPageLogModel", "note", "()V"⟩, 15), (⟨"TornPageLogModel", "reason", "()I"⟩, 15)]
theorem lw_r2 : ∀ q ∈ lw_privs_2, lw_okq q := List.forall_mem_cons.mpr ⟨lw_p16, List.forall_mem_cons.mpr ⟨lw_p17, List.forall_mem_cons.mpr ⟨lw_p18, List.forall_mem_cons.mpr ⟨lw_p19, List.forall_mem_cons.mpr ⟨lw_p20, List.forall_mem_cons.mpr ⟨lw_p21, List.forall_mem_cons.mpr ⟨lw_p22, List.forall_mem_cons.mpr ⟨lw_p23, List.forall_mem_cons.mpr ⟨lw_p24, List.forall_mem_cons.mpr ⟨lw_p25, List.forall_mem_cons.mpr ⟨lw_p26, List.forall_mem_cons.mpr ⟨lw_p27, List.forall_mem_cons.mpr ⟨lw_p28, List.forall_mem_cons.mpr ⟨lw_p29, List.forall_mem_cons.mpr ⟨lw_p30, List.forall_mem_cons.mpr ⟨lw_p31, fun _ h => absurd h List.not_mem_nil⟩⟩⟩⟩⟩⟩⟩⟩⟩⟩⟩⟩⟩⟩⟩⟩
theorem lw_p32 : lw_okq (⟨"TornPageLogModel", "begin", "()V"⟩, 15) := ⟨⟨by decide +kernel, by decide +kernel⟩, List.mem_of_getElem? (i := 818) (by decide +kernel), List.mem_of_getElem? (i := 1140) (by decide +kernel), List.mem_of_getElem? (i := 1141) (by decide +kernel)⟩
theorem lw_p33 : lw_okq (⟨"TornPageLogModel", "does", "(I)Z"⟩, 15) := ⟨⟨by decide +kernel, by decide +kernel⟩, List.mem_of_getElem? (i := 818) (by decide +kernel), List.mem_of_getElem? (i := 1161) (by decide +kernel), List.mem_of_getElem? (i := 1162) (by decide +kernel)⟩
theorem lw_p34 : lw_okq (⟨"TornPageLogModel", "round", "(I)V"⟩, 15) := ⟨⟨by decide +kernel, by decide +kernel⟩, List.mem_of_getElem? (i := 818) (by decide +kernel), List.mem_of_getElem? (i := 1171) (by decide +kernel), List.mem_of_getElem? (i := 1172) (by decide +kernel)⟩
def lw_privs_3 : List (MethodName × Nat) := [(⟨"TornPageLogModel", "begin", "()V"⟩, 15), (⟨"TornPageLogModel", "does", "(I)Z"⟩, 15), (⟨"TornPageLogModel", "round", "(I)V"⟩, 15)]
theorem lw_r3 : ∀ q ∈ lw_privs_3, lw_okq q := List.forall_mem_cons.mpr ⟨lw_p32, List.forall_mem_cons.mpr ⟨lw_p33, List.forall_mem_cons.mpr ⟨lw_p34, fun _ h => absurd h List.not_mem_nil⟩⟩⟩
def lw_privs : List (MethodName × Nat) := lw_privs_1 ++ (lw_privs_2 ++ (lw_privs_3))
def lw_tbl : List Cond := k2_sels lw_privs ++ tables_1
theorem lw_privs_ok : ∀ q ∈ lw_privs, lw_okq q := by
  show ∀ q ∈ lw_privs_1 ++ (lw_privs_2 ++ (lw_privs_3)), lw_okq q
  exact List.forall_mem_append.mpr ⟨lw_r1, List.forall_mem_append.mpr ⟨lw_r2, lw_r3⟩⟩

def RX0 : String := "TornPageLog$Flash"
def TX0 : u_T := fun k => match k with
  | 0 => ("TornPageLog$Flash", "kinds", "[I", true)
  | 1 => ("TornPageLog$Flash", "keys", "[I", true)
  | 2 => ("TornPageLog$Flash", "values", "[I", true)
  | 3 => ("TornPageLog$Flash", "marks", "[I", true)
  | 4 => ("TornPageLog$Flash", "wears", "[I", true)
  | 5 => ("TornPageLog$Flash", "live", "[I", true)
  | 6 => ("TornPageLog$Flash", "newest", "[I", true)
  | 7 => ("TornPageLog$Flash", "free", "[I", true)
  | _ => ("TornPageLog$Flash", "blocks", "I", false)
def tyX0 : Nat → FieldType := fun k => match k with
  | 0 => .array .int
  | 1 => .array .int
  | 2 => .array .int
  | 3 => .array .int
  | 4 => .array .int
  | 5 => .array .int
  | 6 => .array .int
  | 7 => .array .int
  | _ => .int
abbrev wsX00 : List Cond := u_ws RX0 TX0 9
theorem nmX0 : ∀ a, a < 9 → ∀ b, b < 9 → a ≠ b → (TX0 a).2.1 ≠ (TX0 b).2.1 := by decide +kernel
theorem tyX0_ok : ∀ k, k < 9 → parseFieldDescriptor (TX0 k).2.2.1 = some (tyX0 k) := by decide +kernel
abbrev cX0_init : ByteArray := prog_2_method_1_code
def yX0_init : MethodName := ⟨RX0, "<init>", "()V"⟩
abbrev cX0_renew : ByteArray := prog_2_method_2_code
def yX0_renew : MethodName := ⟨RX0, "renew", "(I)V"⟩
abbrev cX0_copyFrom : ByteArray := prog_2_method_3_code
def yX0_copyFrom : MethodName := ⟨RX0, "copyFrom", "(LTornPageLog$Flash;)V"⟩
abbrev cX0_hasPage : ByteArray := prog_2_method_4_code
def yX0_hasPage : MethodName := ⟨RX0, "hasPage", "(I)Z"⟩
abbrev cX0_hasBlock : ByteArray := prog_2_method_5_code
def yX0_hasBlock : MethodName := ⟨RX0, "hasBlock", "(I)Z"⟩
abbrev cX0_tellPage : ByteArray := prog_2_method_6_code
def yX0_tellPage : MethodName := ⟨RX0, "tellPage", "(II)I"⟩
abbrev cX0_newestOf : ByteArray := prog_2_method_7_code
def yX0_newestOf : MethodName := ⟨RX0, "newestOf", "(I)I"⟩
abbrev cX0_valueOf : ByteArray := prog_2_method_8_code
def yX0_valueOf : MethodName := ⟨RX0, "valueOf", "(I)I"⟩
abbrev cX0_countKeys : ByteArray := prog_2_method_9_code
def yX0_countKeys : MethodName := ⟨RX0, "countKeys", "()I"⟩
abbrev cX0_wearOf : ByteArray := prog_2_method_10_code
def yX0_wearOf : MethodName := ⟨RX0, "wearOf", "(I)I"⟩
abbrev cX0_freeIn : ByteArray := prog_2_method_11_code
def yX0_freeIn : MethodName := ⟨RX0, "freeIn", "(I)I"⟩
abbrev cX0_countTorn : ByteArray := prog_2_method_12_code
def yX0_countTorn : MethodName := ⟨RX0, "countTorn", "(I)I"⟩
abbrev cX0_countLive : ByteArray := prog_2_method_13_code
def yX0_countLive : MethodName := ⟨RX0, "countLive", "(I)I"⟩
abbrev cX0_hasTornOrDead : ByteArray := prog_2_method_14_code
def yX0_hasTornOrDead : MethodName := ⟨RX0, "hasTornOrDead", "(I)Z"⟩
abbrev cX0_greatestMark : ByteArray := prog_2_method_15_code
def yX0_greatestMark : MethodName := ⟨RX0, "greatestMark", "(I)I"⟩
abbrev cX0_countCleanBlocks : ByteArray := prog_2_method_16_code
def yX0_countCleanBlocks : MethodName := ⟨RX0, "countCleanBlocks", "(I)I"⟩
abbrev cX0_leastWornCleanBlock : ByteArray := prog_2_method_17_code
def yX0_leastWornCleanBlock : MethodName := ⟨RX0, "leastWornCleanBlock", "(I)I"⟩
abbrev cX0_write : ByteArray := prog_2_method_18_code
def yX0_write : MethodName := ⟨RX0, "write", "(IIII)V"⟩
abbrev cX0_tear : ByteArray := prog_2_method_19_code
def yX0_tear : MethodName := ⟨RX0, "tear", "(I)V"⟩
abbrev cX0_wipe : ByteArray := prog_2_method_20_code
def yX0_wipe : MethodName := ⟨RX0, "wipe", "(II)V"⟩
abbrev cX0_findRecords : ByteArray := prog_2_method_21_code
def yX0_findRecords : MethodName := ⟨RX0, "findRecords", "()V"⟩
def RX1 : String := "TornPageLog$History"
def TX1 : u_T := fun k => match k with
  | 0 => ("TornPageLog$History", "states", "[LTornPageLog$Log;", true)
  | 1 => ("TornPageLog$History", "next", "I", false)
  | _ => ("TornPageLog$History", "count", "I", false)
def tyX1 : Nat → FieldType := fun k => match k with
  | 0 => .array (.object "TornPageLog$Log")
  | 1 => .int
  | _ => .int
abbrev wsX10 : List Cond := u_ws RX1 TX1 3
theorem nmX1 : ∀ a, a < 3 → ∀ b, b < 3 → a ≠ b → (TX1 a).2.1 ≠ (TX1 b).2.1 := by decide +kernel
theorem tyX1_ok : ∀ k, k < 3 → parseFieldDescriptor (TX1 k).2.2.1 = some (tyX1 k) := by decide +kernel
abbrev cX1_init : ByteArray := prog_3_method_1_code
def yX1_init : MethodName := ⟨RX1, "<init>", "()V"⟩
abbrev cX1_forget : ByteArray := prog_3_method_2_code
def yX1_forget : MethodName := ⟨RX1, "forget", "()V"⟩
abbrev cX1_remember : ByteArray := prog_3_method_3_code
def yX1_remember : MethodName := ⟨RX1, "remember", "(LTornPageLog$Log;)V"⟩
abbrev cX1_takeBack : ByteArray := prog_3_method_4_code
def yX1_takeBack : MethodName := ⟨RX1, "takeBack", "(LTornPageLog$Log;)V"⟩
def RX2 : String := "TornPageLog$Log"
def TX2 : u_T := fun k => match k with
  | 0 => ("TornPageLog$Log", "flash", "LTornPageLog$Flash;", true)
  | 1 => ("TornPageLog$Log", "tally", "LTornPageLog$Tally;", true)
  | 2 => ("TornPageLog$Log", "on", "Z", false)
  | 3 => ("TornPageLog$Log", "policy", "I", false)
  | 4 => ("TornPageLog$Log", "cutIn", "I", false)
  | 5 => ("TornPageLog$Log", "life", "I", false)
  | 6 => ("TornPageLog$Log", "open", "I", false)
  | _ => ("TornPageLog$Log", "nextMark", "I", false)
def tyX2 : Nat → FieldType := fun k => match k with
  | 0 => .object "TornPageLog$Flash"
  | 1 => .object "TornPageLog$Tally"
  | 2 => .boolean
  | 3 => .int
  | 4 => .int
  | 5 => .int
  | 6 => .int
  | _ => .int
abbrev wsX20 : List Cond := u_ws RX2 TX2 8
theorem nmX2 : ∀ a, a < 8 → ∀ b, b < 8 → a ≠ b → (TX2 a).2.1 ≠ (TX2 b).2.1 := by decide +kernel
theorem tyX2_ok : ∀ k, k < 8 → parseFieldDescriptor (TX2 k).2.2.1 = some (tyX2 k) := by decide +kernel
abbrev cX2_init : ByteArray := prog_4_method_1_code
def yX2_init : MethodName := ⟨RX2, "<init>", "()V"⟩
abbrev cX2_renew : ByteArray := prog_4_method_2_code
def yX2_renew : MethodName := ⟨RX2, "renew", "(II)V"⟩
abbrev cX2_copyFrom : ByteArray := prog_4_method_3_code
def yX2_copyFrom : MethodName := ⟨RX2, "copyFrom", "(LTornPageLog$Log;)V"⟩
abbrev cX2_tell : ByteArray := prog_4_method_4_code
def yX2_tell : MethodName := ⟨RX2, "tell", "(I)I"⟩
abbrev cX2_tellBlock : ByteArray := prog_4_method_5_code
def yX2_tellBlock : MethodName := ⟨RX2, "tellBlock", "(II)I"⟩
abbrev cX2_wearSpread : ByteArray := prog_4_method_6_code
def yX2_wearSpread : MethodName := ⟨RX2, "wearSpread", "()I"⟩
abbrev cX2_hasSomethingToSweep : ByteArray := prog_4_method_7_code
def yX2_hasSomethingToSweep : MethodName := ⟨RX2, "hasSomethingToSweep", "()Z"⟩
abbrev cX2_canBeVictim : ByteArray := prog_4_method_8_code
def yX2_canBeVictim : MethodName := ⟨RX2, "canBeVictim", "(I)Z"⟩
abbrev cX2_chooseVictim : ByteArray := prog_4_method_9_code
def yX2_chooseVictim : MethodName := ⟨RX2, "chooseVictim", "()I"⟩
abbrev cX2_goesBefore : ByteArray := prog_4_method_10_code
def yX2_goesBefore : MethodName := ⟨RX2, "goesBefore", "(II)Z"⟩
abbrev cX2_switchOn : ByteArray := prog_4_method_11_code
def yX2_switchOn : MethodName := ⟨RX2, "switchOn", "()Z"⟩
abbrev cX2_store : ByteArray := prog_4_method_12_code
def yX2_store : MethodName := ⟨RX2, "store", "(II)I"⟩
abbrev cX2_sweepBlock : ByteArray := prog_4_method_13_code
def yX2_sweepBlock : MethodName := ⟨RX2, "sweepBlock", "(I)I"⟩
abbrev cX2_takePage : ByteArray := prog_4_method_14_code
def yX2_takePage : MethodName := ⟨RX2, "takePage", "(I)I"⟩
abbrev cX2_writePage : ByteArray := prog_4_method_15_code
def yX2_writePage : MethodName := ⟨RX2, "writePage", "(IIIZ)Z"⟩
abbrev cX2_isCutNow : ByteArray := prog_4_method_16_code
def yX2_isCutNow : MethodName := ⟨RX2, "isCutNow", "()Z"⟩
abbrev cX2_switchOff : ByteArray := prog_4_method_17_code
def yX2_switchOff : MethodName := ⟨RX2, "switchOff", "()V"⟩
def RX3 : String := "TornPageLog$Slots"
def TX3 : u_T := fun k => match k with
  | 0 => ("TornPageLog$Slots", "states", "[LTornPageLog$Log;", true)
  | _ => ("TornPageLog$Slots", "used", "[Z", true)
def tyX3 : Nat → FieldType := fun k => match k with
  | 0 => .array (.object "TornPageLog$Log")
  | _ => .array .boolean
abbrev wsX30 : List Cond := u_ws RX3 TX3 2
theorem nmX3 : ∀ a, a < 2 → ∀ b, b < 2 → a ≠ b → (TX3 a).2.1 ≠ (TX3 b).2.1 := by decide +kernel
theorem tyX3_ok : ∀ k, k < 2 → parseFieldDescriptor (TX3 k).2.2.1 = some (tyX3 k) := by decide +kernel
abbrev cX3_init : ByteArray := prog_5_method_1_code
def yX3_init : MethodName := ⟨RX3, "<init>", "()V"⟩
abbrev cX3_empty : ByteArray := prog_5_method_2_code
def yX3_empty : MethodName := ⟨RX3, "empty", "()V"⟩
abbrev cX3_isUsed : ByteArray := prog_5_method_3_code
def yX3_isUsed : MethodName := ⟨RX3, "isUsed", "(I)Z"⟩
abbrev cX3_keep : ByteArray := prog_5_method_4_code
def yX3_keep : MethodName := ⟨RX3, "keep", "(ILTornPageLog$Log;)V"⟩
abbrev cX3_bringBack : ByteArray := prog_5_method_5_code
def yX3_bringBack : MethodName := ⟨RX3, "bringBack", "(ILTornPageLog$Log;)V"⟩
def RX4 : String := "TornPageLog$Story"
def TX4 : u_T := fun k => match k with
  | 0 => ("TornPageLog$Story", "text", "[I", true)
  | 1 => ("TornPageLog$Story", "length", "I", false)
  | 2 => ("TornPageLog$Story", "at", "I", false)
  | 3 => ("TornPageLog$Story", "blocks", "I", false)
  | 4 => ("TornPageLog$Story", "life", "I", false)
  | 5 => ("TornPageLog$Story", "command", "I", false)
  | 6 => ("TornPageLog$Story", "key", "I", false)
  | _ => ("TornPageLog$Story", "number", "I", false)
def tyX4 : Nat → FieldType := fun k => match k with
  | 0 => .array .int
  | 1 => .int
  | 2 => .int
  | 3 => .int
  | 4 => .int
  | 5 => .int
  | 6 => .int
  | _ => .int
abbrev wsX40 : List Cond := u_ws RX4 TX4 8
theorem nmX4 : ∀ a, a < 8 → ∀ b, b < 8 → a ≠ b → (TX4 a).2.1 ≠ (TX4 b).2.1 := by decide +kernel
theorem tyX4_ok : ∀ k, k < 8 → parseFieldDescriptor (TX4 k).2.2.1 = some (tyX4 k) := by decide +kernel
abbrev cX4_init : ByteArray := prog_6_method_1_code
def yX4_init : MethodName := ⟨RX4, "<init>", "()V"⟩
abbrev cX4_isFull : ByteArray := prog_6_method_2_code
def yX4_isFull : MethodName := ⟨RX4, "isFull", "()Z"⟩
abbrev cX4_add : ByteArray := prog_6_method_3_code
def yX4_add : MethodName := ⟨RX4, "add", "(I)I"⟩
abbrev cX4_empty : ByteArray := prog_6_method_4_code
def yX4_empty : MethodName := ⟨RX4, "empty", "()I"⟩
abbrev cX4_firstError : ByteArray := prog_6_method_5_code
def yX4_firstError : MethodName := ⟨RX4, "firstError", "()I"⟩
abbrev cX4_hasMore : ByteArray := prog_6_method_6_code
def yX4_hasMore : MethodName := ⟨RX4, "hasMore", "()Z"⟩
abbrev cX4_readChip : ByteArray := prog_6_method_7_code
def yX4_readChip : MethodName := ⟨RX4, "readChip", "()Z"⟩
abbrev cX4_readCommand : ByteArray := prog_6_method_8_code
def yX4_readCommand : MethodName := ⟨RX4, "readCommand", "()Z"⟩
abbrev cX4_commandOf : ByteArray := prog_6_method_9_code
def yX4_commandOf : MethodName := ⟨RX4, "commandOf", "(I)I"⟩
abbrev cX4_readNumber : ByteArray := prog_6_method_10_code
def yX4_readNumber : MethodName := ⟨RX4, "readNumber", "(III)I"⟩
abbrev cX4_current : ByteArray := prog_6_method_11_code
def yX4_current : MethodName := ⟨RX4, "current", "()I"⟩
def RX5 : String := "TornPageLog$Tally"
def TX5 : u_T := fun k => match k with
  | 0 => ("TornPageLog$Tally", "operations", "I", false)
  | 1 => ("TornPageLog$Tally", "written", "I", false)
  | 2 => ("TornPageLog$Tally", "copies", "I", false)
  | 3 => ("TornPageLog$Tally", "erased", "I", false)
  | 4 => ("TornPageLog$Tally", "cuts", "I", false)
  | 5 => ("TornPageLog$Tally", "cutAddress", "I", false)
  | 6 => ("TornPageLog$Tally", "cutErasing", "I", false)
  | _ => ("TornPageLog$Tally", "cutInSweep", "I", false)
def tyX5 : Nat → FieldType := fun k => match k with
  | 0 => .int
  | 1 => .int
  | 2 => .int
  | 3 => .int
  | 4 => .int
  | 5 => .int
  | 6 => .int
  | _ => .int
abbrev wsX50 : List Cond := u_ws RX5 TX5 8
theorem nmX5 : ∀ a, a < 8 → ∀ b, b < 8 → a ≠ b → (TX5 a).2.1 ≠ (TX5 b).2.1 := by decide +kernel
theorem tyX5_ok : ∀ k, k < 8 → parseFieldDescriptor (TX5 k).2.2.1 = some (tyX5 k) := by decide +kernel
abbrev cX5_init : ByteArray := prog_7_method_1_code
def yX5_init : MethodName := ⟨RX5, "<init>", "()V"⟩
abbrev cX5_renew : ByteArray := prog_7_method_2_code
def yX5_renew : MethodName := ⟨RX5, "renew", "()V"⟩
abbrev cX5_copyFrom : ByteArray := prog_7_method_3_code
def yX5_copyFrom : MethodName := ⟨RX5, "copyFrom", "(LTornPageLog$Tally;)V"⟩
abbrev cX5_countCut : ByteArray := prog_7_method_4_code
def yX5_countCut : MethodName := ⟨RX5, "countCut", "(IZZ)V"⟩
abbrev cX5_tell : ByteArray := prog_7_method_5_code
def yX5_tell : MethodName := ⟨RX5, "tell", "(I)I"⟩
abbrev cX5_tellCut : ByteArray := prog_7_method_6_code
def yX5_tellCut : MethodName := ⟨RX5, "tellCut", "(I)I"⟩
def RX6 : String := "TornPageLog"
def TX6 : u_T := fun k => match k with
  | 0 => ("TornPageLog", "story", "LTornPageLog$Story;", true)
  | 1 => ("TornPageLog", "history", "LTornPageLog$History;", true)
  | 2 => ("TornPageLog", "slots", "LTornPageLog$Slots;", true)
  | 3 => ("TornPageLog", "log", "LTornPageLog$Log;", true)
  | 4 => ("TornPageLog", "copy", "LTornPageLog$Log;", true)
  | _ => ("TornPageLog", "trial", "LTornPageLog$Log;", true)
def tyX6 : Nat → FieldType := fun k => match k with
  | 0 => .object "TornPageLog$Story"
  | 1 => .object "TornPageLog$History"
  | 2 => .object "TornPageLog$Slots"
  | 3 => .object "TornPageLog$Log"
  | 4 => .object "TornPageLog$Log"
  | _ => .object "TornPageLog$Log"
abbrev wsX60 : List Cond := u_ws RX6 TX6 6
theorem nmX6 : ∀ a, a < 6 → ∀ b, b < 6 → a ≠ b → (TX6 a).2.1 ≠ (TX6 b).2.1 := by decide +kernel
theorem tyX6_ok : ∀ k, k < 6 → parseFieldDescriptor (TX6 k).2.2.1 = some (tyX6 k) := by decide +kernel
abbrev cX6_init : ByteArray := prog_1_method_1_code
def yX6_init : MethodName := ⟨RX6, "<init>", "()V"⟩
abbrev cX6_append : ByteArray := prog_1_method_2_code
def yX6_append : MethodName := ⟨RX6, "append", "(I)I"⟩
abbrev cX6_clearText : ByteArray := prog_1_method_3_code
def yX6_clearText : MethodName := ⟨RX6, "clearText", "()I"⟩
abbrev cX6_errorPosition : ByteArray := prog_1_method_4_code
def yX6_errorPosition : MethodName := ⟨RX6, "errorPosition", "()I"⟩
abbrev cX6_load : ByteArray := prog_1_method_5_code
def yX6_load : MethodName := ⟨RX6, "load", "()I"⟩
abbrev cX6_about : ByteArray := prog_1_method_6_code
def yX6_about : MethodName := ⟨RX6, "about", "(I)I"⟩
abbrev cX6_page : ByteArray := prog_1_method_7_code
def yX6_page : MethodName := ⟨RX6, "page", "(II)I"⟩
abbrev cX6_block : ByteArray := prog_1_method_8_code
def yX6_block : MethodName := ⟨RX6, "block", "(II)I"⟩
abbrev cX6_get : ByteArray := prog_1_method_9_code
def yX6_get : MethodName := ⟨RX6, "get", "(I)I"⟩
abbrev cX6_keyAt : ByteArray := prog_1_method_10_code
def yX6_keyAt : MethodName := ⟨RX6, "keyAt", "(I)I"⟩
abbrev cX6_newest : ByteArray := prog_1_method_11_code
def yX6_newest : MethodName := ⟨RX6, "newest", "(I)I"⟩
abbrev cX6_lastCut : ByteArray := prog_1_method_12_code
def yX6_lastCut : MethodName := ⟨RX6, "lastCut", "(I)I"⟩
abbrev cX6_put : ByteArray := prog_1_method_13_code
def yX6_put : MethodName := ⟨RX6, "put", "(II)I"⟩
abbrev cX6_remove : ByteArray := prog_1_method_14_code
def yX6_remove : MethodName := ⟨RX6, "remove", "(I)I"⟩
abbrev cX6_sweep : ByteArray := prog_1_method_15_code
def yX6_sweep : MethodName := ⟨RX6, "sweep", "()I"⟩
abbrev cX6_cut : ByteArray := prog_1_method_16_code
def yX6_cut : MethodName := ⟨RX6, "cut", "(I)I"⟩
abbrev cX6_start : ByteArray := prog_1_method_17_code
def yX6_start : MethodName := ⟨RX6, "start", "()I"⟩
abbrev cX6_setPolicy : ByteArray := prog_1_method_18_code
def yX6_setPolicy : MethodName := ⟨RX6, "setPolicy", "(I)I"⟩
abbrev cX6_undo : ByteArray := prog_1_method_19_code
def yX6_undo : MethodName := ⟨RX6, "undo", "()I"⟩
abbrev cX6_victim : ByteArray := prog_1_method_20_code
def yX6_victim : MethodName := ⟨RX6, "victim", "()I"⟩
abbrev cX6_whyNoRoom : ByteArray := prog_1_method_21_code
def yX6_whyNoRoom : MethodName := ⟨RX6, "whyNoRoom", "()I"⟩
abbrev cX6_operations : ByteArray := prog_1_method_22_code
def yX6_operations : MethodName := ⟨RX6, "operations", "()I"⟩
abbrev cX6_afterCut : ByteArray := prog_1_method_23_code
def yX6_afterCut : MethodName := ⟨RX6, "afterCut", "(III)I"⟩
abbrev cX6_lasts : ByteArray := prog_1_method_24_code
def yX6_lasts : MethodName := ⟨RX6, "lasts", "(I)I"⟩
abbrev cX6_oldest : ByteArray := prog_1_method_25_code
def yX6_oldest : MethodName := ⟨RX6, "oldest", "()I"⟩
abbrev cX6_runScript : ByteArray := prog_1_method_26_code
def yX6_runScript : MethodName := ⟨RX6, "runScript", "(IJ)I"⟩
abbrev cX6_simulate : ByteArray := prog_1_method_27_code
def yX6_simulate : MethodName := ⟨RX6, "simulate", "(JI)I"⟩
abbrev cX6_save : ByteArray := prog_1_method_28_code
def yX6_save : MethodName := ⟨RX6, "save", "(I)I"⟩
abbrev cX6_restore : ByteArray := prog_1_method_29_code
def yX6_restore : MethodName := ⟨RX6, "restore", "(I)I"⟩
abbrev cX6_isKey : ByteArray := prog_1_method_30_code
def yX6_isKey : MethodName := ⟨RX6, "isKey", "(I)Z"⟩
abbrev cX6_isValue : ByteArray := prog_1_method_31_code
def yX6_isValue : MethodName := ⟨RX6, "isValue", "(I)Z"⟩
abbrev cX6_costOfRecord : ByteArray := prog_1_method_32_code
def yX6_costOfRecord : MethodName := ⟨RX6, "costOfRecord", "(LTornPageLog$Log;)I"⟩
abbrev cX6_isCommand : ByteArray := prog_1_method_33_code
def yX6_isCommand : MethodName := ⟨RX6, "isCommand", "(I)Z"⟩
abbrev cX6_perform : ByteArray := prog_1_method_34_code
def yX6_perform : MethodName := ⟨RX6, "perform", "(LTornPageLog$Log;III)Z"⟩
abbrev cX6_copyRow : ByteArray := prog_1_method_35_code
def yX6_copyRow : MethodName := ⟨RX6, "copyRow", "([I[I)V"⟩
def RX7 : String := "TornPageLogModel"
def TX7 : u_T := fun k => match k with
  | 0 => ("TornPageLogModel", "refusal", "I", false)
  | 1 => ("TornPageLogModel", "script", "[I", true)
  | 2 => ("TornPageLogModel", "scriptSize", "I", false)
  | 3 => ("TornPageLogModel", "spot", "I", false)
  | 4 => ("TornPageLogModel", "isGood", "Z", false)
  | 5 => ("TornPageLogModel", "readBlocks", "I", false)
  | 6 => ("TornPageLogModel", "readLife", "I", false)
  | 7 => ("TornPageLogModel", "now", "[I", true)
  | 8 => ("TornPageLogModel", "trial", "[I", true)
  | 9 => ("TornPageLogModel", "look", "[I", true)
  | 10 => ("TornPageLogModel", "diary", "[I", true)
  | 11 => ("TornPageLogModel", "acts", "I", false)
  | 12 => ("TornPageLogModel", "kept", "[I", true)
  | 13 => ("TornPageLogModel", "isKept", "[Z", true)
  | _ => ("TornPageLogModel", "lives", "[I", true)
def tyX7 : Nat → FieldType := fun k => match k with
  | 0 => .int
  | 1 => .array .int
  | 2 => .int
  | 3 => .int
  | 4 => .boolean
  | 5 => .int
  | 6 => .int
  | 7 => .array .int
  | 8 => .array .int
  | 9 => .array .int
  | 10 => .array .int
  | 11 => .int
  | 12 => .array .int
  | 13 => .array .boolean
  | _ => .array .int
abbrev wsX70 : List Cond := u_ws RX7 TX7 15
theorem nmX7 : ∀ a, a < 15 → ∀ b, b < 15 → a ≠ b → (TX7 a).2.1 ≠ (TX7 b).2.1 := by decide +kernel
theorem tyX7_ok : ∀ k, k < 15 → parseFieldDescriptor (TX7 k).2.2.1 = some (tyX7 k) := by decide +kernel
abbrev cX7_init : ByteArray := prog_9_method_1_code
def yX7_init : MethodName := ⟨RX7, "<init>", "()V"⟩
abbrev cX7_thrown : ByteArray := prog_9_method_2_code
def yX7_thrown : MethodName := ⟨RX7, "thrown", "()I"⟩
abbrev cX7_refused : ByteArray := prog_9_method_3_code
def yX7_refused : MethodName := ⟨RX7, "refused", "(I)Z"⟩
abbrev cX7_in : ByteArray := prog_9_method_4_code
def yX7_in : MethodName := ⟨RX7, "in", "(JJJ)Z"⟩
abbrev cX7_copy : ByteArray := prog_9_method_5_code
def yX7_copy : MethodName := ⟨RX7, "copy", "([II[III)V"⟩
abbrev cX7_tenTo : ByteArray := prog_9_method_6_code
def yX7_tenTo : MethodName := ⟨RX7, "tenTo", "(I)J"⟩
abbrev cX7_clean : ByteArray := prog_9_method_7_code
def yX7_clean : MethodName := ⟨RX7, "clean", "([III)V"⟩
abbrev cX7_note : ByteArray := prog_9_method_8_code
def yX7_note : MethodName := ⟨RX7, "note", "()V"⟩
abbrev cX7_pageOf : ByteArray := prog_9_method_9_code
def yX7_pageOf : MethodName := ⟨RX7, "pageOf", "([III)I"⟩
abbrev cX7_pages : ByteArray := prog_9_method_10_code
def yX7_pages : MethodName := ⟨RX7, "pages", "([I)I"⟩
abbrev cX7_isWritten : ByteArray := prog_9_method_11_code
def yX7_isWritten : MethodName := ⟨RX7, "isWritten", "([II)Z"⟩
abbrev cX7_newestOf : ByteArray := prog_9_method_12_code
def yX7_newestOf : MethodName := ⟨RX7, "newestOf", "([II)I"⟩
abbrev cX7_valueOf : ByteArray := prog_9_method_13_code
def yX7_valueOf : MethodName := ⟨RX7, "valueOf", "([II)I"⟩
abbrev cX7_keysOf : ByteArray := prog_9_method_14_code
def yX7_keysOf : MethodName := ⟨RX7, "keysOf", "([I)I"⟩
abbrev cX7_isLive : ByteArray := prog_9_method_15_code
def yX7_isLive : MethodName := ⟨RX7, "isLive", "([II)Z"⟩
abbrev cX7_countOf : ByteArray := prog_9_method_16_code
def yX7_countOf : MethodName := ⟨RX7, "countOf", "([III)I"⟩
abbrev cX7_liveOf : ByteArray := prog_9_method_17_code
def yX7_liveOf : MethodName := ⟨RX7, "liveOf", "([II)I"⟩
abbrev cX7_isClean : ByteArray := prog_9_method_18_code
def yX7_isClean : MethodName := ⟨RX7, "isClean", "([II)Z"⟩
abbrev cX7_cleanBlocks : ByteArray := prog_9_method_19_code
def yX7_cleanBlocks : MethodName := ⟨RX7, "cleanBlocks", "([I)I"⟩
abbrev cX7_leastClean : ByteArray := prog_9_method_20_code
def yX7_leastClean : MethodName := ⟨RX7, "leastClean", "([I)I"⟩
abbrev cX7_leftIn : ByteArray := prog_9_method_21_code
def yX7_leftIn : MethodName := ⟨RX7, "leftIn", "([II)I"⟩
abbrev cX7_leftOpen : ByteArray := prog_9_method_22_code
def yX7_leftOpen : MethodName := ⟨RX7, "leftOpen", "([I)I"⟩
abbrev cX7_nextPage : ByteArray := prog_9_method_23_code
def yX7_nextPage : MethodName := ⟨RX7, "nextPage", "([I)I"⟩
abbrev cX7_isStale : ByteArray := prog_9_method_24_code
def yX7_isStale : MethodName := ⟨RX7, "isStale", "([II)Z"⟩
abbrev cX7_isVictim : ByteArray := prog_9_method_25_code
def yX7_isVictim : MethodName := ⟨RX7, "isVictim", "([II)Z"⟩
abbrev cX7_greatestMark : ByteArray := prog_9_method_26_code
def yX7_greatestMark : MethodName := ⟨RX7, "greatestMark", "([II)I"⟩
abbrev cX7_isRather : ByteArray := prog_9_method_27_code
def yX7_isRather : MethodName := ⟨RX7, "isRather", "([III)Z"⟩
abbrev cX7_victimOf : ByteArray := prog_9_method_28_code
def yX7_victimOf : MethodName := ⟨RX7, "victimOf", "([I)I"⟩
abbrev cX7_isCut : ByteArray := prog_9_method_29_code
def yX7_isCut : MethodName := ⟨RX7, "isCut", "([IIIZ)Z"⟩
abbrev cX7_writes : ByteArray := prog_9_method_30_code
def yX7_writes : MethodName := ⟨RX7, "writes", "([IIIIZ)Z"⟩
abbrev cX7_erases : ByteArray := prog_9_method_31_code
def yX7_erases : MethodName := ⟨RX7, "erases", "([II)Z"⟩
abbrev cX7_sweepOnce : ByteArray := prog_9_method_32_code
def yX7_sweepOnce : MethodName := ⟨RX7, "sweepOnce", "([I)I"⟩
abbrev cX7_record : ByteArray := prog_9_method_33_code
def yX7_record : MethodName := ⟨RX7, "record", "([III)I"⟩
abbrev cX7_looked : ByteArray := prog_9_method_34_code
def yX7_looked : MethodName := ⟨RX7, "looked", "([I)I"⟩
abbrev cX7_hasRoom : ByteArray := prog_9_method_35_code
def yX7_hasRoom : MethodName := ⟨RX7, "hasRoom", "([I)Z"⟩
abbrev cX7_powerUp : ByteArray := prog_9_method_36_code
def yX7_powerUp : MethodName := ⟨RX7, "powerUp", "([I)V"⟩
abbrev cX7_doPut : ByteArray := prog_9_method_37_code
def yX7_doPut : MethodName := ⟨RX7, "doPut", "([III)Z"⟩
abbrev cX7_doRemove : ByteArray := prog_9_method_38_code
def yX7_doRemove : MethodName := ⟨RX7, "doRemove", "([II)Z"⟩
abbrev cX7_doSweep : ByteArray := prog_9_method_39_code
def yX7_doSweep : MethodName := ⟨RX7, "doSweep", "([I)Z"⟩
abbrev cX7_doCut : ByteArray := prog_9_method_40_code
def yX7_doCut : MethodName := ⟨RX7, "doCut", "([II)Z"⟩
abbrev cX7_doStart : ByteArray := prog_9_method_41_code
def yX7_doStart : MethodName := ⟨RX7, "doStart", "([I)Z"⟩
abbrev cX7_append : ByteArray := prog_9_method_42_code
def yX7_append : MethodName := ⟨RX7, "append", "(I)I"⟩
abbrev cX7_clearText : ByteArray := prog_9_method_43_code
def yX7_clearText : MethodName := ⟨RX7, "clearText", "()I"⟩
abbrev cX7_isNext : ByteArray := prog_9_method_44_code
def yX7_isNext : MethodName := ⟨RX7, "isNext", "(I)Z"⟩
abbrev cX7_accept : ByteArray := prog_9_method_45_code
def yX7_accept : MethodName := ⟨RX7, "accept", "(Z)V"⟩
abbrev cX7_digit : ByteArray := prog_9_method_46_code
def yX7_digit : MethodName := ⟨RX7, "digit", "(II)I"⟩
abbrev cX7_two : ByteArray := prog_9_method_47_code
def yX7_two : MethodName := ⟨RX7, "two", "(II)I"⟩
abbrev cX7_command : ByteArray := prog_9_method_48_code
def yX7_command : MethodName := ⟨RX7, "command", "(Z)Z"⟩
abbrev cX7_head : ByteArray := prog_9_method_49_code
def yX7_head : MethodName := ⟨RX7, "head", "()V"⟩
abbrev cX7_readText : ByteArray := prog_9_method_50_code
def yX7_readText : MethodName := ⟨RX7, "readText", "()I"⟩
abbrev cX7_errorPosition : ByteArray := prog_9_method_51_code
def yX7_errorPosition : MethodName := ⟨RX7, "errorPosition", "()I"⟩
abbrev cX7_load : ByteArray := prog_9_method_52_code
def yX7_load : MethodName := ⟨RX7, "load", "()I"⟩
abbrev cX7_wearApart : ByteArray := prog_9_method_53_code
def yX7_wearApart : MethodName := ⟨RX7, "wearApart", "([I)I"⟩
abbrev cX7_about : ByteArray := prog_9_method_54_code
def yX7_about : MethodName := ⟨RX7, "about", "(I)I"⟩
abbrev cX7_isPage : ByteArray := prog_9_method_55_code
def yX7_isPage : MethodName := ⟨RX7, "isPage", "(I)Z"⟩
abbrev cX7_isBlock : ByteArray := prog_9_method_56_code
def yX7_isBlock : MethodName := ⟨RX7, "isBlock", "(I)Z"⟩
abbrev cX7_page : ByteArray := prog_9_method_57_code
def yX7_page : MethodName := ⟨RX7, "page", "(II)I"⟩
abbrev cX7_block : ByteArray := prog_9_method_58_code
def yX7_block : MethodName := ⟨RX7, "block", "(II)I"⟩
abbrev cX7_isKey : ByteArray := prog_9_method_59_code
def yX7_isKey : MethodName := ⟨RX7, "isKey", "(I)Z"⟩
abbrev cX7_get : ByteArray := prog_9_method_60_code
def yX7_get : MethodName := ⟨RX7, "get", "(I)I"⟩
abbrev cX7_keyAt : ByteArray := prog_9_method_61_code
def yX7_keyAt : MethodName := ⟨RX7, "keyAt", "(I)I"⟩
abbrev cX7_newest : ByteArray := prog_9_method_62_code
def yX7_newest : MethodName := ⟨RX7, "newest", "(I)I"⟩
abbrev cX7_lastCut : ByteArray := prog_9_method_63_code
def yX7_lastCut : MethodName := ⟨RX7, "lastCut", "(I)I"⟩
abbrev cX7_put : ByteArray := prog_9_method_64_code
def yX7_put : MethodName := ⟨RX7, "put", "(II)I"⟩
abbrev cX7_remove : ByteArray := prog_9_method_65_code
def yX7_remove : MethodName := ⟨RX7, "remove", "(I)I"⟩
abbrev cX7_sweep : ByteArray := prog_9_method_66_code
def yX7_sweep : MethodName := ⟨RX7, "sweep", "()I"⟩
abbrev cX7_cut : ByteArray := prog_9_method_67_code
def yX7_cut : MethodName := ⟨RX7, "cut", "(I)I"⟩
abbrev cX7_start : ByteArray := prog_9_method_68_code
def yX7_start : MethodName := ⟨RX7, "start", "()I"⟩
abbrev cX7_setPolicy : ByteArray := prog_9_method_69_code
def yX7_setPolicy : MethodName := ⟨RX7, "setPolicy", "(I)I"⟩
abbrev cX7_undo : ByteArray := prog_9_method_70_code
def yX7_undo : MethodName := ⟨RX7, "undo", "()I"⟩
abbrev cX7_victim : ByteArray := prog_9_method_71_code
def yX7_victim : MethodName := ⟨RX7, "victim", "()I"⟩
abbrev cX7_reason : ByteArray := prog_9_method_72_code
def yX7_reason : MethodName := ⟨RX7, "reason", "()I"⟩
abbrev cX7_whyNoRoom : ByteArray := prog_9_method_73_code
def yX7_whyNoRoom : MethodName := ⟨RX7, "whyNoRoom", "()I"⟩
abbrev cX7_operations : ByteArray := prog_9_method_74_code
def yX7_operations : MethodName := ⟨RX7, "operations", "()I"⟩
abbrev cX7_begin : ByteArray := prog_9_method_75_code
def yX7_begin : MethodName := ⟨RX7, "begin", "()V"⟩
abbrev cX7_afterCut : ByteArray := prog_9_method_76_code
def yX7_afterCut : MethodName := ⟨RX7, "afterCut", "(III)I"⟩
abbrev cX7_lasts : ByteArray := prog_9_method_77_code
def yX7_lasts : MethodName := ⟨RX7, "lasts", "(I)I"⟩
abbrev cX7_oldest : ByteArray := prog_9_method_78_code
def yX7_oldest : MethodName := ⟨RX7, "oldest", "()I"⟩
abbrev cX7_does : ByteArray := prog_9_method_79_code
def yX7_does : MethodName := ⟨RX7, "does", "(I)Z"⟩
abbrev cX7_runScript : ByteArray := prog_9_method_80_code
def yX7_runScript : MethodName := ⟨RX7, "runScript", "(IJ)I"⟩
abbrev cX7_round : ByteArray := prog_9_method_81_code
def yX7_round : MethodName := ⟨RX7, "round", "(I)V"⟩
abbrev cX7_simulate : ByteArray := prog_9_method_82_code
def yX7_simulate : MethodName := ⟨RX7, "simulate", "(JI)I"⟩
abbrev cX7_save : ByteArray := prog_9_method_83_code
def yX7_save : MethodName := ⟨RX7, "save", "(I)I"⟩
abbrev cX7_restore : ByteArray := prog_9_method_84_code
def yX7_restore : MethodName := ⟨RX7, "restore", "(I)I"⟩
def RJ9 : String := "java/lang/Math"
def TJ9 : u_T := fun k => match k with
  | _ => ("", "", "", false)
def tyJ9 : Nat → FieldType := fun k => match k with
  | _ => .int
abbrev wsJ90 : List Cond := u_ws RJ9 TJ9 0
theorem nmJ9 : ∀ a, a < 0 → ∀ b, b < 0 → a ≠ b → (TJ9 a).2.1 ≠ (TJ9 b).2.1 := by decide +kernel
theorem tyJ9_ok : ∀ k, k < 0 → parseFieldDescriptor (TJ9 k).2.2.1 = some (tyJ9 k) := by decide +kernel
abbrev cJ9_max_7cf53 : ByteArray := prog_14_method_65_code
def yJ9_max_7cf53 : MethodName := ⟨RJ9, "max", "(II)I"⟩
abbrev cJ9_max_f86c9 : ByteArray := prog_14_method_66_code
def yJ9_max_f86c9 : MethodName := ⟨RJ9, "max", "(JJ)J"⟩
abbrev cJ9_min_7cf53 : ByteArray := prog_14_method_69_code
def yJ9_min_7cf53 : MethodName := ⟨RJ9, "min", "(II)I"⟩
def RJ0 : String := "java/lang/String"
def TJ0 : u_T := fun k => match k with
  | _ => ("", "", "", false)
def tyJ0 : Nat → FieldType := fun k => match k with
  | _ => .int
abbrev wsJ00 : List Cond := u_ws RJ0 TJ0 0
theorem nmJ0 : ∀ a, a < 0 → ∀ b, b < 0 → a ≠ b → (TJ0 a).2.1 ≠ (TJ0 b).2.1 := by decide +kernel
theorem tyJ0_ok : ∀ k, k < 0 → parseFieldDescriptor (TJ0 k).2.2.1 = some (tyJ0 k) := by decide +kernel
def RJ10 : String := "java/lang/System"
def TJ10 : u_T := fun k => match k with
  | _ => ("", "", "", false)
def tyJ10 : Nat → FieldType := fun k => match k with
  | _ => .int
abbrev wsJ100 : List Cond := u_ws RJ10 TJ10 0
theorem nmJ10 : ∀ a, a < 0 → ∀ b, b < 0 → a ≠ b → (TJ10 a).2.1 ≠ (TJ10 b).2.1 := by decide +kernel
theorem tyJ10_ok : ∀ k, k < 0 → parseFieldDescriptor (TJ10 k).2.2.1 = some (tyJ10 k) := by decide +kernel
def RL : String := "TornPageLogLaw"
abbrev cL_append : ByteArray := method_3_code
def yL_append : MethodName := ⟨RL, "append", "(LTornPageLog;I[J)I"⟩
abbrev cL_load : ByteArray := method_4_code
def yL_load : MethodName := ⟨RL, "load", "(LTornPageLog;[J)I"⟩
abbrev cL_about : ByteArray := method_5_code
def yL_about : MethodName := ⟨RL, "about", "(LTornPageLog;I[J)I"⟩
abbrev cL_page : ByteArray := method_6_code
def yL_page : MethodName := ⟨RL, "page", "(LTornPageLog;II[J)I"⟩
abbrev cL_block : ByteArray := method_7_code
def yL_block : MethodName := ⟨RL, "block", "(LTornPageLog;II[J)I"⟩
abbrev cL_get : ByteArray := method_8_code
def yL_get : MethodName := ⟨RL, "get", "(LTornPageLog;I[J)I"⟩
abbrev cL_keyAt : ByteArray := method_9_code
def yL_keyAt : MethodName := ⟨RL, "keyAt", "(LTornPageLog;I[J)I"⟩
abbrev cL_newest : ByteArray := method_10_code
def yL_newest : MethodName := ⟨RL, "newest", "(LTornPageLog;I[J)I"⟩
abbrev cL_lastCut : ByteArray := method_11_code
def yL_lastCut : MethodName := ⟨RL, "lastCut", "(LTornPageLog;I[J)I"⟩
abbrev cL_put : ByteArray := method_12_code
def yL_put : MethodName := ⟨RL, "put", "(LTornPageLog;II[J)I"⟩
abbrev cL_remove : ByteArray := method_13_code
def yL_remove : MethodName := ⟨RL, "remove", "(LTornPageLog;I[J)I"⟩
abbrev cL_sweep : ByteArray := method_14_code
def yL_sweep : MethodName := ⟨RL, "sweep", "(LTornPageLog;[J)I"⟩
abbrev cL_cut : ByteArray := method_15_code
def yL_cut : MethodName := ⟨RL, "cut", "(LTornPageLog;I[J)I"⟩
abbrev cL_start : ByteArray := method_16_code
def yL_start : MethodName := ⟨RL, "start", "(LTornPageLog;[J)I"⟩
abbrev cL_setPolicy : ByteArray := method_17_code
def yL_setPolicy : MethodName := ⟨RL, "setPolicy", "(LTornPageLog;I[J)I"⟩
abbrev cL_undo : ByteArray := method_18_code
def yL_undo : MethodName := ⟨RL, "undo", "(LTornPageLog;[J)I"⟩
abbrev cL_operations : ByteArray := method_19_code
def yL_operations : MethodName := ⟨RL, "operations", "(LTornPageLog;[J)I"⟩
abbrev cL_afterCut : ByteArray := method_20_code
def yL_afterCut : MethodName := ⟨RL, "afterCut", "(LTornPageLog;III[J)I"⟩
abbrev cL_lasts : ByteArray := method_21_code
def yL_lasts : MethodName := ⟨RL, "lasts", "(LTornPageLog;I[J)I"⟩
abbrev cL_runScript : ByteArray := method_22_code
def yL_runScript : MethodName := ⟨RL, "runScript", "(LTornPageLog;IJ[J)I"⟩
abbrev cL_simulate : ByteArray := method_23_code
def yL_simulate : MethodName := ⟨RL, "simulate", "(LTornPageLog;JI[J)I"⟩
abbrev cL_save : ByteArray := method_24_code
def yL_save : MethodName := ⟨RL, "save", "(LTornPageLog;I[J)I"⟩
abbrev cL_restore : ByteArray := method_25_code
def yL_restore : MethodName := ⟨RL, "restore", "(LTornPageLog;I[J)I"⟩
abbrev cL_law : ByteArray := code
def yL_law : MethodName := ⟨RL, "law", "([I)Z"⟩
abbrev vwCl : List vw_C := [(RX0, TX0, 9), (RX1, TX1, 3), (RX2, TX2, 8), (RX3, TX3, 2), (RX4, TX4, 8), (RX5, TX5, 8), (RX6, TX6, 6), (RX7, TX7, 15)]
/-- the words of all methods of the model, in one list (218) -/
def W7a : List Cond := [
  .methodLink RX7 1 objectInit,
  .instanceMethod objectInit,
  .code objectInit ⟨#[0xb1]⟩ 1 none,
  .arrayClass .int,
  .fieldLink RX7 7 "TornPageLogModel" "script" "[I",
  .fieldLink RX7 13 "TornPageLogModel" "now" "[I",
  .fieldLink RX7 16 "TornPageLogModel" "trial" "[I",
  .fieldLink RX7 19 "TornPageLogModel" "look" "[I",
  .fieldLink RX7 22 "TornPageLogModel" "diary" "[I",
  .fieldLink RX7 25 "TornPageLogModel" "kept" "[I",
  .arrayClass .boolean,
  .fieldLink RX7 28 "TornPageLogModel" "isKept" "[Z",
  .fieldLink RX7 32 "TornPageLogModel" "lives" "[I",
  .methodLink RX7 35 yX7_clean,
  .static yX7_clean,
  .initialized RX7,
  .code yX7_clean cX7_clean 4 none,
  .fieldLink RX7 39 "TornPageLogModel" "refusal" "I",
  .constantLong RX7 43 (10),
  .fieldLink RX7 45 "TornPageLogModel" "acts" "I",
  .methodLink RX7 48 yX7_copy,
  .static yX7_copy,
  .code yX7_copy cX7_copy 6 none,
  .methodLink RX7 52 yX7_pageOf,
  .static yX7_pageOf,
  .code yX7_pageOf cX7_pageOf 3 (some .int),
  .methodLink RX7 56 yX7_pages,
  .static yX7_pages,
  .code yX7_pages cX7_pages 1 (some .int),
  .methodLink RX7 60 yX7_isWritten,
  .static yX7_isWritten,
  .code yX7_isWritten cX7_isWritten 2 (some .boolean),
  .methodLink RX7 64 yX7_newestOf,
  .static yX7_newestOf,
  .code yX7_newestOf cX7_newestOf 4 (some .int),
  .methodLink RX7 68 yX7_valueOf,
  .static yX7_valueOf,
  .code yX7_valueOf cX7_valueOf 3 (some .int),
  .methodLink RX7 71 yX7_isLive,
  .static yX7_isLive,
  .code yX7_isLive cX7_isLive 5 (some .boolean),
  .methodLink RX7 74 yX7_countOf,
  .static yX7_countOf,
  .code yX7_countOf cX7_countOf 5 (some .int),
  .methodLink RX7 77 yX7_isClean,
  .static yX7_isClean,
  .code yX7_isClean cX7_isClean 2 (some .boolean),
  .methodLink RX7 80 yX7_leftIn,
  .static yX7_leftIn,
  .code yX7_leftIn cX7_leftIn 3 (some .int),
  .methodLink RX7 83 yX7_leftOpen,
  .static yX7_leftOpen,
  .code yX7_leftOpen cX7_leftOpen 1 (some .int),
  .methodLink RX7 86 yX7_liveOf,
  .static yX7_liveOf,
  .code yX7_liveOf cX7_liveOf 4 (some .int),
  .methodLink RX7 89 yX7_cleanBlocks,
  .static yX7_cleanBlocks,
  .code yX7_cleanBlocks cX7_cleanBlocks 3 (some .int),
  .methodLink RX7 92 yX7_isStale,
  .static yX7_isStale,
  .code yX7_isStale cX7_isStale 2 (some .boolean),
  .methodLink RX7 95 yX7_greatestMark,
  .static yX7_greatestMark,
  .code yX7_greatestMark cX7_greatestMark 5 (some .int),
  .methodLink RX7 98 yX7_isVictim,
  .static yX7_isVictim,
  .code yX7_isVictim cX7_isVictim 4 (some .boolean),
  .methodLink RX7 101 yX7_isRather,
  .static yX7_isRather,
  .code yX7_isRather cX7_isRather 5 (some .boolean),
  .methodLink RX7 105 yX7_isCut,
  .static yX7_isCut,
  .code yX7_isCut cX7_isCut 4 (some .boolean),
  .methodLink RX7 109 yX7_victimOf,
  .static yX7_victimOf,
  .code yX7_victimOf cX7_victimOf 3 (some .int),
  .methodLink RX7 112 yX7_nextPage,
  .static yX7_nextPage,
  .code yX7_nextPage cX7_nextPage 2 (some .int),
  .methodLink RX7 115 yX7_leastClean,
  .static yX7_leastClean,
  .code yX7_leastClean cX7_leastClean 3 (some .int),
  .methodLink RX7 118 yX7_writes,
  .static yX7_writes,
  .code yX7_writes cX7_writes 6 (some .boolean),
  .methodLink RX7 122 yX7_erases,
  .static yX7_erases,
  .code yX7_erases cX7_erases 4 (some .boolean),
  .methodLink RX7 125 yX7_sweepOnce,
  .instanceMethod yX7_sweepOnce,
  .selects RX7 yX7_sweepOnce yX7_sweepOnce,
  .code yX7_sweepOnce cX7_sweepOnce 5 (some .int),
  .methodLink RX7 128 yX7_record,
  .instanceMethod yX7_record,
  .selects RX7 yX7_record yX7_record,
  .code yX7_record cX7_record 5 (some .int),
  .methodLink RX7 131 yX7_looked,
  .instanceMethod yX7_looked,
  .selects RX7 yX7_looked yX7_looked,
  .code yX7_looked cX7_looked 2 (some .int),
  .methodLink RX7 134 yX7_hasRoom,
  .instanceMethod yX7_hasRoom,
  .selects RX7 yX7_hasRoom yX7_hasRoom,
  .code yX7_hasRoom cX7_hasRoom 2 (some .boolean),
  .methodLink RX7 138 yX7_doPut,
  .instanceMethod yX7_doPut,
  .selects RX7 yX7_doPut yX7_doPut,
  .code yX7_doPut cX7_doPut 4 (some .boolean),
  .methodLink RX7 141 yX7_powerUp,
  .static yX7_powerUp,
  .code yX7_powerUp cX7_powerUp 3 none,
  .constantLong RX7 145 (255),
  .fieldLink RX7 151 "TornPageLogModel" "scriptSize" "I",
  .methodLink RX7 147 yX7_in,
  .static yX7_in,
  .code yX7_in cX7_in 6 (some .boolean),
  .methodLink RX7 154 yX7_refused,
  .instanceMethod yX7_refused,
  .selects RX7 yX7_refused yX7_refused,
  .code yX7_refused cX7_refused 2 (some .boolean),
  .fieldLink RX7 158 "TornPageLogModel" "spot" "I",
  .fieldLink RX7 161 "TornPageLogModel" "isGood" "Z",
  .constantLong RX7 165 (9),
  .methodLink RX7 167 yX7_accept,
  .instanceMethod yX7_accept,
  .selects RX7 yX7_accept yX7_accept,
  .code yX7_accept cX7_accept 2 none,
  .methodLink RX7 171 yX7_digit,
  .instanceMethod yX7_digit,
  .selects RX7 yX7_digit yX7_digit,
  .code yX7_digit cX7_digit 4 (some .int),
  .methodLink RX7 175 yX7_isNext,
  .instanceMethod yX7_isNext,
  .selects RX7 yX7_isNext yX7_isNext,
  .code yX7_isNext cX7_isNext 2 (some .boolean),
  .methodLink RX7 178 yX7_two,
  .instanceMethod yX7_two,
  .selects RX7 yX7_two yX7_two,
  .code yX7_two cX7_two 6 (some .int),
  .methodLink RX7 181 yX7_doRemove,
  .instanceMethod yX7_doRemove,
  .selects RX7 yX7_doRemove yX7_doRemove,
  .code yX7_doRemove cX7_doRemove 3 (some .boolean),
  .methodLink RX7 184 yX7_doCut,
  .static yX7_doCut,
  .code yX7_doCut cX7_doCut 2 (some .boolean),
  .methodLink RX7 187 yX7_doSweep,
  .instanceMethod yX7_doSweep,
  .selects RX7 yX7_doSweep yX7_doSweep,
  .code yX7_doSweep cX7_doSweep 2 (some .boolean),
  .methodLink RX7 190 yX7_doStart,
  .static yX7_doStart,
  .code yX7_doStart cX7_doStart 1 (some .boolean),
  .fieldLink RX7 193 "TornPageLogModel" "readBlocks" "I",
  .fieldLink RX7 196 "TornPageLogModel" "readLife" "I",
  .methodLink RX7 199 yX7_head,
  .instanceMethod yX7_head,
  .selects RX7 yX7_head yX7_head,
  .code yX7_head cX7_head 1 none,
  .methodLink RX7 202 yX7_command,
  .instanceMethod yX7_command,
  .selects RX7 yX7_command yX7_command,
  .code yX7_command cX7_command 4 (some .boolean),
  .methodLink RX7 206 yX7_readText,
  .instanceMethod yX7_readText,
  .selects RX7 yX7_readText yX7_readText,
  .code yX7_readText cX7_readText 1 (some .int),
  .constantLong RX7 210 (13),
  .methodLink RX7 212 yX7_keysOf,
  .static yX7_keysOf,
  .code yX7_keysOf cX7_keysOf 3 (some .int),
  .methodLink RX7 215 yX7_wearApart,
  .static yX7_wearApart,
  .code yX7_wearApart cX7_wearApart 4 (some .int),
  .constantLong RX7 221 (4),
  .methodLink RX7 218 yX7_isPage,
  .instanceMethod yX7_isPage,
  .selects RX7 yX7_isPage yX7_isPage,
  .code yX7_isPage cX7_isPage 2 (some .boolean),
  .constantLong RX7 226 (5),
  .methodLink RX7 223 yX7_isBlock,
  .instanceMethod yX7_isBlock,
  .selects RX7 yX7_isBlock yX7_isBlock,
  .code yX7_isBlock cX7_isBlock 2 (some .boolean),
  .constantLong RX7 228 (15),
  .methodLink RX7 230 yX7_isKey,
  .static yX7_isKey,
  .code yX7_isKey cX7_isKey 1 (some .boolean),
  .constantLong RX7 233 (2),
  .constantLong RX7 235 (999),
  .methodLink RX7 237 yX7_note,
  .instanceMethod yX7_note,
  .selects RX7 yX7_note yX7_note,
  .code yX7_note cX7_note 1 none,
  .constantLong RX7 240 (99),
  .methodLink RX7 242 yX7_reason,
  .instanceMethod yX7_reason,
  .selects RX7 yX7_reason yX7_reason,
  .code yX7_reason cX7_reason 2 (some .int),
  .methodLink RX7 245 yX7_begin,
  .instanceMethod yX7_begin,
  .selects RX7 yX7_begin yX7_begin,
  .code yX7_begin cX7_begin 1 none,
  .constantLong RX7 252 (10000),
  .methodLink RX7 248 yX7_tenTo,
  .static yX7_tenTo,
  .code yX7_tenTo cX7_tenTo 4 (some .long),
  .methodLink RX7 254 yX7_does,
  .instanceMethod yX7_does,
  .selects RX7 yX7_does yX7_does,
  .code yX7_does cX7_does 7 (some .boolean),
  .constantLong RX7 257 (6364136223846793005),
  .constantLong RX7 259 (1442695040888963407),
  .methodLink RX7 261 yX7_round,
  .instanceMethod yX7_round,
  .selects RX7 yX7_round yX7_round,
  .code yX7_round cX7_round 3 none]
def W7 : List Cond := W7a ++ wsX70
