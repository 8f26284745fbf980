/-- the words of all methods of the class, in one list (403) -/
def W6a : List Cond := [
  .methodLink RX0 3 objectInit,
  .instanceMethod objectInit,
  .code objectInit ⟨#[0xb1]⟩ 1 none,
  .arrayClass .int,
  .fieldLink RX0 11 "TornPageLog$Flash" "kinds" "[I",
  .fieldLink RX0 15 "TornPageLog$Flash" "keys" "[I",
  .fieldLink RX0 18 "TornPageLog$Flash" "values" "[I",
  .fieldLink RX0 21 "TornPageLog$Flash" "marks" "[I",
  .fieldLink RX0 24 "TornPageLog$Flash" "wears" "[I",
  .fieldLink RX0 27 "TornPageLog$Flash" "live" "[I",
  .fieldLink RX0 30 "TornPageLog$Flash" "newest" "[I",
  .fieldLink RX0 33 "TornPageLog$Flash" "free" "[I",
  .methodLink RX0 36 Lib.Math.min.name,
  .static Lib.Math.min.name,
  .initialized "java/lang/Math",
  .code Lib.Math.min.name Lib.Math.min.code 2 (some .int),
  .methodLink RX0 42 Lib.Math.max.name,
  .static Lib.Math.max.name,
  .code Lib.Math.max.name Lib.Math.max.code 2 (some .int),
  .fieldLink RX0 45 "TornPageLog$Flash" "blocks" "I",
  .methodLink RX0 49 yX0_findRecords,
  .instanceMethod yX0_findRecords,
  .selects RX0 yX0_findRecords yX0_findRecords,
  .initialized RX0,
  .code yX0_findRecords cX0_findRecords 4 none,
  .methodLink RX6 283 Lib.Math.min.name,
  .methodLink RX6 286 arraycopyName,
  .native arraycopyName,
  .static arraycopyName,
  .initialized "java/lang/System",
  .static yX6_copyRow,
  .initialized RX6,
  .code yX6_copyRow cX6_copyRow 2 none,
  .methodLink RX0 56 yX0_newestOf,
  .instanceMethod yX0_newestOf,
  .selects RX0 yX0_newestOf yX0_newestOf,
  .code yX0_newestOf cX0_newestOf 2 (some .int),
  .methodLink RX0 60 yX0_hasPage,
  .instanceMethod yX0_hasPage,
  .selects RX0 yX0_hasPage yX0_hasPage,
  .code yX0_hasPage cX0_hasPage 2 (some .boolean),
  .methodLink RX0 64 yX0_valueOf,
  .instanceMethod yX0_valueOf,
  .selects RX0 yX0_valueOf yX0_valueOf,
  .code yX0_valueOf cX0_valueOf 3 (some .int),
  .methodLink RX5 3 objectInit,
  .fieldLink RX5 9 "TornPageLog$Tally" "operations" "I",
  .fieldLink RX5 15 "TornPageLog$Tally" "written" "I",
  .fieldLink RX5 18 "TornPageLog$Tally" "copies" "I",
  .fieldLink RX5 21 "TornPageLog$Tally" "erased" "I",
  .fieldLink RX5 24 "TornPageLog$Tally" "cuts" "I",
  .fieldLink RX5 27 "TornPageLog$Tally" "cutAddress" "I",
  .fieldLink RX5 30 "TornPageLog$Tally" "cutErasing" "I",
  .fieldLink RX5 33 "TornPageLog$Tally" "cutInSweep" "I",
  .fieldLink RX2 12 "TornPageLog$Log" "flash" "LTornPageLog$Flash;",
  .fieldLink RX2 21 "TornPageLog$Log" "tally" "LTornPageLog$Tally;",
  .fieldLink RX2 34 "TornPageLog$Log" "on" "Z",
  .fieldLink RX2 38 "TornPageLog$Log" "policy" "I",
  .fieldLink RX2 42 "TornPageLog$Log" "cutIn" "I",
  .fieldLink RX2 45 "TornPageLog$Log" "life" "I",
  .fieldLink RX2 48 "TornPageLog$Log" "open" "I",
  .fieldLink RX2 51 "TornPageLog$Log" "nextMark" "I",
  .methodLink RX2 29 yX0_renew,
  .instanceMethod yX0_renew,
  .selects RX0 yX0_renew yX0_renew,
  .code yX0_renew cX0_renew 3 none,
  .methodLink RX2 32 yX5_renew,
  .instanceMethod yX5_renew,
  .selects RX5 yX5_renew yX5_renew,
  .initialized RX5,
  .code yX5_renew cX5_renew 1 none,
  .methodLink RX2 3 objectInit,
  .classLink RX2 9 RX0,
  .instantiable RX0 9,
  .classLink RX2 18 RX5,
  .instantiable RX5 8,
  .instanceMethod yX0_init,
  .code yX0_init cX0_init 1 none,
  .instanceMethod yX5_init,
  .code yX5_init cX5_init 1 none,
  .methodLink RX2 25 yX2_renew,
  .instanceMethod yX2_renew,
  .selects RX2 yX2_renew yX2_renew,
  .initialized RX2,
  .code yX2_renew cX2_renew 3 none,
  .methodLink RX1 1 objectInit,
  .classLink RX1 9 RX2,
  .fieldLink RX1 11 "TornPageLog$History" "states" "[LTornPageLog$Log;",
  .instantiable RX2 8,
  .methodLink RX1 15 yX2_init,
  .instanceMethod yX2_init,
  .code yX2_init cX2_init 1 none,
  .fieldLink RX1 16 "TornPageLog$History" "count" "I",
  .methodLink RX2 54 yX0_copyFrom,
  .instanceMethod yX0_copyFrom,
  .selects RX0 yX0_copyFrom yX0_copyFrom,
  .code yX0_copyFrom cX0_copyFrom 2 none,
  .methodLink RX2 58 yX5_copyFrom,
  .instanceMethod yX5_copyFrom,
  .selects RX5 yX5_copyFrom yX5_copyFrom,
  .code yX5_copyFrom cX5_copyFrom 2 none,
  .fieldLink RX1 20 "TornPageLog$History" "next" "I",
  .methodLink RX1 27 Lib.Math.min.name,
  .methodLink RX1 23 yX2_copyFrom,
  .instanceMethod yX2_copyFrom,
  .selects RX2 yX2_copyFrom yX2_copyFrom,
  .code yX2_copyFrom cX2_copyFrom 2 none,
  .methodLink RX1 33 Lib.Math.max.name,
  .fieldLink RX2 61 "TornPageLog$Flash" "blocks" "I",
  .methodLink RX2 91 Lib.Math.min.name,
  .methodLink RX2 97 Lib.Math.max.name,
  .methodLink RX2 75 yX0_wearOf,
  .instanceMethod yX0_wearOf,
  .selects RX0 yX0_wearOf yX0_wearOf,
  .code yX0_wearOf cX0_wearOf 2 (some .int),
  .methodLink RX2 64 yX0_countCleanBlocks,
  .instanceMethod yX0_countCleanBlocks,
  .selects RX0 yX0_countCleanBlocks yX0_countCleanBlocks,
  .code yX0_countCleanBlocks cX0_countCleanBlocks 4 (some .int),
  .methodLink RX2 68 yX0_countKeys,
  .instanceMethod yX0_countKeys,
  .selects RX0 yX0_countKeys yX0_countKeys,
  .code yX0_countKeys cX0_countKeys 3 (some .int),
  .methodLink RX2 72 yX2_wearSpread,
  .instanceMethod yX2_wearSpread,
  .selects RX2 yX2_wearSpread yX2_wearSpread,
  .code yX2_wearSpread cX2_wearSpread 4 (some .int),
  .methodLink RX2 100 yX0_hasTornOrDead,
  .instanceMethod yX0_hasTornOrDead,
  .selects RX0 yX0_hasTornOrDead yX0_hasTornOrDead,
  .code yX0_hasTornOrDead cX0_hasTornOrDead 3 (some .boolean),
  .methodLink RX2 81 yX0_freeIn,
  .instanceMethod yX0_freeIn,
  .selects RX0 yX0_freeIn yX0_freeIn,
  .code yX0_freeIn cX0_freeIn 2 (some .int),
  .methodLink RX2 78 yX0_countLive,
  .instanceMethod yX0_countLive,
  .selects RX0 yX0_countLive yX0_countLive,
  .code yX0_countLive cX0_countLive 4 (some .int),
  .methodLink RX2 84 yX0_countTorn,
  .instanceMethod yX0_countTorn,
  .selects RX0 yX0_countTorn yX0_countTorn,
  .code yX0_countTorn cX0_countTorn 4 (some .int),
  .methodLink RX2 87 yX2_canBeVictim,
  .instanceMethod yX2_canBeVictim,
  .selects RX2 yX2_canBeVictim yX2_canBeVictim,
  .code yX2_canBeVictim cX2_canBeVictim 3 (some .boolean),
  .methodLink RX2 107 yX0_greatestMark,
  .instanceMethod yX0_greatestMark,
  .selects RX0 yX0_greatestMark yX0_greatestMark,
  .code yX0_greatestMark cX0_greatestMark 4 (some .int),
  .methodLink RX2 103 yX2_goesBefore,
  .instanceMethod yX2_goesBefore,
  .selects RX2 yX2_goesBefore yX2_goesBefore,
  .code yX2_goesBefore cX2_goesBefore 5 (some .boolean),
  .methodLink RX2 143 yX0_leastWornCleanBlock,
  .instanceMethod yX0_leastWornCleanBlock,
  .selects RX0 yX0_leastWornCleanBlock yX0_leastWornCleanBlock,
  .code yX0_leastWornCleanBlock cX0_leastWornCleanBlock 5 (some .int),
  .fieldLink RX2 159 "TornPageLog$Tally" "operations" "I",
  .fieldLink RX2 153 "TornPageLog$Tally" "written" "I",
  .fieldLink RX2 156 "TornPageLog$Tally" "copies" "I",
  .methodLink RX2 126 yX2_isCutNow,
  .instanceMethod yX2_isCutNow,
  .selects RX2 yX2_isCutNow yX2_isCutNow,
  .code yX2_isCutNow cX2_isCutNow 1 (some .boolean),
  .methodLink RX2 146 yX0_tear,
  .instanceMethod yX0_tear,
  .selects RX0 yX0_tear yX0_tear,
  .code yX0_tear cX0_tear 2 none,
  .methodLink RX2 133 yX5_countCut,
  .instanceMethod yX5_countCut,
  .selects RX5 yX5_countCut yX5_countCut,
  .code yX5_countCut cX5_countCut 4 none,
  .methodLink RX2 137 yX2_switchOff,
  .instanceMethod yX2_switchOff,
  .selects RX2 yX2_switchOff yX2_switchOff,
  .code yX2_switchOff cX2_switchOff 1 none,
  .methodLink RX2 149 yX0_write,
  .instanceMethod yX0_write,
  .selects RX0 yX0_write yX0_write,
  .code yX0_write cX0_write 6 none,
  .fieldLink RX2 140 "TornPageLog$Tally" "erased" "I",
  .methodLink RX2 123 yX0_tellPage,
  .instanceMethod yX0_tellPage,
  .selects RX0 yX0_tellPage yX0_tellPage,
  .code yX0_tellPage cX0_tellPage 3 (some .int),
  .methodLink RX2 110 yX2_takePage,
  .instanceMethod yX2_takePage,
  .selects RX2 yX2_takePage yX2_takePage,
  .code yX2_takePage cX2_takePage 2 (some .int),
  .methodLink RX2 113 yX2_writePage,
  .instanceMethod yX2_writePage,
  .selects RX2 yX2_writePage yX2_writePage,
  .code yX2_writePage cX2_writePage 5 (some .boolean),
  .methodLink RX2 130 yX0_wipe,
  .instanceMethod yX0_wipe,
  .selects RX0 yX0_wipe yX0_wipe,
  .code yX0_wipe cX0_wipe 4 none,
  .methodLink RX2 117 yX2_chooseVictim,
  .instanceMethod yX2_chooseVictim,
  .selects RX2 yX2_chooseVictim yX2_chooseVictim,
  .code yX2_chooseVictim cX2_chooseVictim 3 (some .int),
  .methodLink RX2 120 yX2_sweepBlock,
  .instanceMethod yX2_sweepBlock,
  .selects RX2 yX2_sweepBlock yX2_sweepBlock,
  .code yX2_sweepBlock cX2_sweepBlock 7 (some .int),
  .methodLink RX3 3 objectInit,
  .classLink RX3 9 RX2,
  .fieldLink RX3 11 "TornPageLog$Slots" "states" "[LTornPageLog$Log;",
  .arrayClass .boolean,
  .fieldLink RX3 17 "TornPageLog$Slots" "used" "[Z",
  .methodLink RX3 21 yX2_init,
  .methodLink RX3 22 yX2_copyFrom,
  .methodLink RX4 3 objectInit,
  .fieldLink RX4 11 "TornPageLog$Story" "text" "[I",
  .fieldLink RX4 15 "TornPageLog$Story" "length" "I",
  .fieldLink RX4 29 "TornPageLog$Story" "at" "I",
  .methodLink RX4 32 yX4_current,
  .instanceMethod yX4_current,
  .selects RX4 yX4_current yX4_current,
  .initialized RX4,
  .code yX4_current cX4_current 1 (some .int),
  .fieldLink RX4 40 "TornPageLog$Story" "blocks" "I",
  .fieldLink RX4 43 "TornPageLog$Story" "life" "I",
  .methodLink RX4 36 yX4_readNumber,
  .instanceMethod yX4_readNumber,
  .selects RX4 yX4_readNumber yX4_readNumber,
  .code yX4_readNumber cX4_readNumber 9 (some .int),
  .fieldLink RX4 50 "TornPageLog$Story" "command" "I",
  .fieldLink RX4 53 "TornPageLog$Story" "key" "I",
  .fieldLink RX4 56 "TornPageLog$Story" "number" "I",
  .methodLink RX4 46 yX4_commandOf,
  .static yX4_commandOf,
  .code yX4_commandOf cX4_commandOf 1 (some .int),
  .methodLink RX4 19 yX4_readChip,
  .instanceMethod yX4_readChip,
  .selects RX4 yX4_readChip yX4_readChip,
  .code yX4_readChip cX4_readChip 1 (some .boolean),
  .methodLink RX4 23 yX4_hasMore,
  .instanceMethod yX4_hasMore,
  .selects RX4 yX4_hasMore yX4_hasMore,
  .code yX4_hasMore cX4_hasMore 1 (some .boolean),
  .methodLink RX4 26 yX4_readCommand,
  .instanceMethod yX4_readCommand,
  .selects RX4 yX4_readCommand yX4_readCommand,
  .code yX4_readCommand cX4_readCommand 1 (some .boolean),
  .methodLink RX6 3 objectInit,
  .classLink RX6 9 RX4,
  .instantiable RX4 8,
  .fieldLink RX6 12 "TornPageLog" "story" "LTornPageLog$Story;",
  .classLink RX6 16 RX1,
  .instantiable RX1 3,
  .initialized RX1,
  .fieldLink RX6 19 "TornPageLog" "history" "LTornPageLog$History;",
  .classLink RX6 23 RX3,
  .instantiable RX3 2,
  .initialized RX3,
  .fieldLink RX6 26 "TornPageLog" "slots" "LTornPageLog$Slots;",
  .classLink RX6 30 RX2,
  .fieldLink RX6 33 "TornPageLog" "log" "LTornPageLog$Log;",
  .fieldLink RX6 37 "TornPageLog" "copy" "LTornPageLog$Log;",
  .fieldLink RX6 40 "TornPageLog" "trial" "LTornPageLog$Log;",
  .instanceMethod yX4_init,
  .code yX4_init cX4_init 1 none,
  .methodLink RX6 18 yX1_init,
  .instanceMethod yX1_init,
  .code yX1_init cX1_init 2 none,
  .methodLink RX6 25 yX3_init,
  .instanceMethod yX3_init,
  .code yX3_init cX3_init 2 none,
  .methodLink RX6 32 yX2_init,
  .classLink RX6 43 "java/lang/IllegalArgumentException",
  .initialized "java/lang/IllegalArgumentException",
  .classLink RX6 54 "java/lang/IllegalStateException",
  .initialized "java/lang/IllegalStateException",
  .methodLink RX6 50 yX4_isFull,
  .instanceMethod yX4_isFull,
  .selects RX4 yX4_isFull yX4_isFull,
  .code yX4_isFull cX4_isFull 1 (some .boolean),
  .methodLink RX6 59 yX4_add,
  .instanceMethod yX4_add,
  .selects RX4 yX4_add yX4_add,
  .code yX4_add cX4_add 2 (some .int),
  .methodLink RX6 63 yX4_empty,
  .instanceMethod yX4_empty,
  .selects RX4 yX4_empty yX4_empty,
  .code yX4_empty cX4_empty 2 (some .int),
  .methodLink RX6 67 yX4_firstError,
  .instanceMethod yX4_firstError,
  .selects RX4 yX4_firstError yX4_firstError,
  .code yX4_firstError cX4_firstError 3 (some .int),
  .fieldLink RX6 158 "TornPageLog$Log" "on" "Z",
  .fieldLink RX6 207 "TornPageLog$Log" "cutIn" "I",
  .fieldLink RX6 115 "TornPageLog$Log" "tally" "LTornPageLog$Tally;",
  .fieldLink RX6 260 "TornPageLog$Tally" "operations" "I",
  .methodLink RX6 236 yX2_copyFrom,
  .methodLink RX6 192 yX2_store,
  .instanceMethod yX2_store,
  .selects RX2 yX2_store yX2_store,
  .code yX2_store cX2_store 6 (some .int),
  .fieldLink RX6 122 "TornPageLog$Log" "flash" "LTornPageLog$Flash;",
  .fieldLink RX6 220 "TornPageLog$Log" "policy" "I",
  .methodLink RX6 182 yX6_costOfRecord,
  .instanceMethod yX6_costOfRecord,
  .selects RX6 yX6_costOfRecord yX6_costOfRecord,
  .code yX6_costOfRecord cX6_costOfRecord 2 (some .int),
  .methodLink RX6 164 yX0_valueOf,
  .methodLink RX6 197 yX2_chooseVictim,
  .methodLink RX6 202 yX2_sweepBlock,
  .methodLink RX6 212 yX2_switchOn,
  .instanceMethod yX2_switchOn,
  .selects RX2 yX2_switchOn yX2_switchOn,
  .code yX2_switchOn cX2_switchOn 4 (some .boolean),
  .methodLink RX6 143 yX0_hasBlock,
  .instanceMethod yX0_hasBlock,
  .selects RX0 yX0_hasBlock yX0_hasBlock,
  .code yX0_hasBlock cX0_hasBlock 2 (some .boolean),
  .methodLink RX6 280 yX0_wearOf,
  .methodLink RX6 112 yX2_tell,
  .instanceMethod yX2_tell,
  .selects RX2 yX2_tell yX2_tell,
  .code yX2_tell cX2_tell 2 (some .int),
  .fieldLink RX6 75 "TornPageLog$Story" "blocks" "I",
  .fieldLink RX6 79 "TornPageLog$Story" "life" "I",
  .fieldLink RX6 97 "TornPageLog$Story" "command" "I",
  .fieldLink RX6 100 "TornPageLog$Story" "key" "I",
  .fieldLink RX6 103 "TornPageLog$Story" "number" "I",
  .methodLink RX6 72 yX4_readChip,
  .methodLink RX6 82 yX2_renew,
  .methodLink RX6 86 yX1_forget,
  .instanceMethod yX1_forget,
  .selects RX1 yX1_forget yX1_forget,
  .code yX1_forget cX1_forget 1 none,
  .methodLink RX6 89 yX3_empty,
  .instanceMethod yX3_empty,
  .selects RX3 yX3_empty yX3_empty,
  .code yX3_empty cX3_empty 2 none,
  .methodLink RX6 91 yX4_hasMore,
  .methodLink RX6 94 yX4_readCommand,
  .methodLink RX6 106 yX6_perform,
  .instanceMethod yX6_perform,
  .selects RX6 yX6_perform yX6_perform,
  .code yX6_perform cX6_perform 6 (some .boolean),
  .methodLink RX6 119 yX5_tell,
  .instanceMethod yX5_tell,
  .selects RX5 yX5_tell yX5_tell,
  .code yX5_tell cX5_tell 2 (some .int),
  .classLink RX6 132 "java/lang/IndexOutOfBoundsException",
  .initialized "java/lang/IndexOutOfBoundsException",
  .methodLink RX6 126 yX0_hasPage,
  .methodLink RX6 139 yX0_tellPage,
  .methodLink RX6 150 yX2_tellBlock,
  .instanceMethod yX2_tellBlock,
  .selects RX2 yX2_tellBlock yX2_tellBlock,
  .code yX2_tellBlock cX2_tellBlock 3 (some .int),
  .methodLink RX6 153 yX6_isKey,
  .static yX6_isKey,
  .code yX6_isKey cX6_isKey 1 (some .boolean),
  .methodLink RX6 169 yX0_newestOf,
  .methodLink RX6 174 yX5_tellCut,
  .instanceMethod yX5_tellCut,
  .selects RX5 yX5_tellCut yX5_tellCut,
  .code yX5_tellCut cX5_tellCut 2 (some .int),
  .methodLink RX6 177 yX6_isValue,
  .static yX6_isValue,
  .code yX6_isValue cX6_isValue 1 (some .boolean),
  .methodLink RX6 188 yX1_remember,
  .instanceMethod yX1_remember,
  .selects RX1 yX1_remember yX1_remember,
  .code yX1_remember cX1_remember 2 none,
  .methodLink RX6 215 yX0_countKeys,
  .fieldLink RX6 223 "TornPageLog$History" "count" "I",
  .methodLink RX6 228 yX1_takeBack,
  .instanceMethod yX1_takeBack,
  .selects RX1 yX1_takeBack yX1_takeBack,
  .code yX1_takeBack cX1_takeBack 2 none,
  .methodLink RX6 231 yX2_hasSomethingToSweep,
  .instanceMethod yX2_hasSomethingToSweep,
  .selects RX2 yX2_hasSomethingToSweep yX2_hasSomethingToSweep,
  .code yX2_hasSomethingToSweep cX2_hasSomethingToSweep 2 (some .boolean),
  .constantLong RX6 241 (10000),
  .methodLink RX6 245 Lib.MathLoose.max_long.x,
  .static Lib.MathLoose.max_long.x,
  .code Lib.MathLoose.max_long.x Lib.MathLoose.max_long.code 4 (some .long),
  .methodLink RX6 251 yX6_isCommand,
  .static yX6_isCommand,
  .code yX6_isCommand cX6_isCommand 1 (some .boolean),
  .constantLong RX6 256 (6364136223846793005),
  .constantLong RX6 258 (1442695040888963407),
  .fieldLink RX6 263 "TornPageLog$Tally" "cuts" "I",
  .methodLink RX6 268 yX3_keep,
  .instanceMethod yX3_keep,
  .selects RX3 yX3_keep yX3_keep,
  .code yX3_keep cX3_keep 3 none,
  .methodLink RX6 272 yX3_isUsed,
  .instanceMethod yX3_isUsed,
  .selects RX3 yX3_isUsed yX3_isUsed,
  .code yX3_isUsed cX3_isUsed 2 (some .boolean),
  .methodLink RX6 277 yX3_bringBack,
  .instanceMethod yX3_bringBack,
  .selects RX3 yX3_bringBack yX3_bringBack,
  .code yX3_bringBack cX3_bringBack 3 none]
def W6 : List Cond := W6a ++ (wsX00 ++ (wsX10 ++ (wsX20 ++ (wsX30 ++ (wsX40 ++ (wsX50 ++ wsX60))))))
theorem m6 {w : Cond} (i : Nat) (h : W6a[i]? = some w) : w ∈ W6 := List.mem_append_left _ (List.mem_of_getElem? h)
theorem u6_X0 : ∀ w ∈ wsX00, w ∈ W6 := fun _ h => List.mem_append_right _ (List.mem_append_left _ h)
theorem u6_X1 : ∀ w ∈ wsX10, w ∈ W6 := fun _ h => List.mem_append_right _ (List.mem_append_right _ (List.mem_append_left _ h))
theorem u6_X2 : ∀ w ∈ wsX20, w ∈ W6 := fun _ h => List.mem_append_right _ (List.mem_append_right _ (List.mem_append_right _ (List.mem_append_left _ h)))
theorem u6_X3 : ∀ w ∈ wsX30, w ∈ W6 := fun _ h => List.mem_append_right _ (List.mem_append_right _ (List.mem_append_right _ (List.mem_append_right _ (List.mem_append_left _ h))))
theorem u6_X4 : ∀ w ∈ wsX40, w ∈ W6 := fun _ h => List.mem_append_right _ (List.mem_append_right _ (List.mem_append_right _ (List.mem_append_right _ (List.mem_append_right _ (List.mem_append_left _ h)))))
theorem u6_X5 : ∀ w ∈ wsX50, w ∈ W6 := fun _ h => List.mem_append_right _ (List.mem_append_right _ (List.mem_append_right _ (List.mem_append_right _ (List.mem_append_right _ (List.mem_append_right _ (List.mem_append_left _ h))))))
theorem u6_X6 : ∀ w ∈ wsX60, w ∈ W6 := fun _ h => List.mem_append_right _ (List.mem_append_right _ (List.mem_append_right _ (List.mem_append_right _ (List.mem_append_right _ (List.mem_append_right _ (List.mem_append_right _ (h)))))))
theorem good6 : GoodIn W6 W6 := fun w h => ⟨h, good_of_word (List.all_eq_true.mp (show W6.all goodWord = true by decide +kernel) w h)⟩
/-- the private methods that a nest mate calls -/
def NW (U : State) : Prop := va_Nw (.methodLinkNest RX0 52 yX6_copyRow RX6) U ∧ va_Nw (.methodLinkNest RX2 11 yX0_init RX6) U ∧ va_Nw (.methodLinkNest RX2 20 yX5_init RX6) U ∧ va_Nw (.methodLinkNest RX6 11 yX4_init RX6) U ∧ va_AO RX2 U
theorem NW_same {u U : State} (h : u.vm = U.vm) (q : NW u) : NW U := ⟨va_Nw.same rfl h q.1, va_Nw.same rfl h q.2.1, va_Nw.same rfl h q.2.2.1, va_Nw.same rfl h q.2.2.2.1, va_AO.moved (h ▸ Vm.Alike.refl u.vm) q.2.2.2.2⟩
theorem NW_warm {s U : State} (h : s.WarmedH U.vm) (q : NW s) : NW U := ⟨va_Nw.warmM h q.1, va_Nw.warmM h q.2.1, va_Nw.warmM h q.2.2.1, va_Nw.warmM h q.2.2.2.1, va_AO.moved h.alike q.2.2.2.2⟩
def rq_Pc (D : va_G) (ws : va_W) (tys : List (ClassId × FieldType)) (av : List Value) : Array Value → State → Prop := va_Pc av (fun U => va_P D vwCl ws U.heap ∧ va_K D vwCl tys U ∧ NW U)
theorem rq_blind {D : va_G} {ws : va_W} {tys : List (ClassId × FieldType)} {av : List Value} : FrameBlind (rq_Pc D ws tys av) := fun a U g mk q => ⟨q.1, q.2.1, va_K.moved (u := U) (U := U.calling g mk a) (Vm.Alike.refl U.vm) q.2.2.1, NW_same (u := U) (U := U.calling g mk a) rfl q.2.2.2⟩
/-- y, called with av where the cells ws lie, answers res and changes nothing -/
def RQ (l : Launch) (y : MethodName) (b : ByteArray) (nL : Nat) (ret : FieldType) (Wd : List Cond) (fr lo : Nat) (D : va_G) (ws : va_W) (tys : List (ClassId × FieldType)) (av : List Value) (res : Int32) : Prop :=
  Met l y (.code y b nL (some ret) :: Wd) ({ frames := fr, cells := 0, slots := 0, locals := lo }) (rq_Pc D ws tys av) (rp_Qi res) 0 0 (fun _ => False)
theorem rq_of {l : Launch} {y : MethodName} {b : ByteArray} {nL : Nat} {ret : FieldType} {Wd : List Cond} {fr lo : Nat} {D : va_G} {ws : va_W} {tys : List (ClassId × FieldType)} {av : List Value} {res : Int32} (own : String) (hy : plainName y.cls = true) (hyo : y.cls = own) (hlen : (lg_sl av).length ≤ nL)
    (body : ∀ (p : Program) (e : Env) (s : State) (m : MethodId) (below : List Frame) (meth : Method) (c : Code) (ls : Array Slot), CallFix p m c b nL s av.toArray Wd own → meth.sig.returnType = some ret → meth.locks = false → va_K D vwCl tys s → NW s → va_P D vwCl ws s.heap → va_S (fun _ => False) s.heap s.heap [] → lv_has ls nL (lv_args 0 av) →
      W p l e ({ frames := fr, cells := 0, slots := 0, locals := lo } : Room) s m av.toArray below meth c s.heap [] 0 0 (MQ below (rp_Qi res) av.toArray s 0 0 (fun _ => False)) (F0 m 0 ls [])) : RQ l y b nL ret Wd fr lo D ws tys av res := by
  refine Met.ofW (cc := b) (maxL := nL) (ret := some ret) hy rfl ?_
  intro p e s m args below meth c s₁ B hml hv
  obtain ⟨rfl, hP, hK, hN⟩ := hv
  have hts := atoms_spec (ws := .code y b nL (some ret) :: Wd) B.pre
  have hl := lv_entry av hlen
  rw [lg_entry_eq]
  exact body p e s m below meth c _ ⟨B.exec, B.bytes, hml, hyo ▸ findClass_of_methodNamed B.named, fun w h => hts w (List.mem_cons_of_mem _ h)⟩ B.returns B.notSynchronized hK hN hP va_S.rf hl
section RC
variable {p : Program} {l : Launch} {e : Env} {R : Room} {s : State} {m : MethodId} {args : Array Value} {below : List Frame} {meth : Method} {c : Code} {H : Heap} {locs : List Loc} {cells slots : Nat} {Q : State → Prop} {cc : ByteArray} {pc : Nat} {ls : Array Slot} {rest st0 : List Value} {D : va_G} {A A0 : Nat → Prop} {tys tc : List (ClassId × FieldType)} {ws wc : va_W} {H0 : Heap} {nL nL2 fr lo idx : Nat} {Wd : List Cond} {own C : String} {y : MethodName} {b2 : ByteArray} {ret : FieldType} {av As : List Value} {res : Int32} {b : Addr} {free : Addr → Prop}
/-- behind a call of a method that only reads -/
theorem rq_callS (hX : CallFix p m c cc nL s args Wd own) (hG : GoodIn Wd Wd) (hi : Cond.initialized own ∈ Wd) (hM : RQ l y b2 nL2 ret Wd fr lo D wc tc av res) (hq : CQ Wd y b2 nL2 (some ret) av.length) (hyo : y.cls = own) (hl : Cond.methodLink own idx y ∈ Wd) (hs : Cond.static y ∈ Wd) (hR : fr + 1 ≤ R.frames ∧ 8 + (nL2 + 11) + lo ≤ R.locals)
    (hK : va_K D vwCl tys s) (hN : NW s) (isT : List Nat) (hT : isT.filterMap (fun i => tys[i]?) = tc) (hP : va_P D vwCl ws H) (isC : List Nat) (hC : isC.filterMap (fun i => ws[i]?) = wc) (hS : va_S A0 H0 H locs) (hls : ls.size = nL) (hstk : st0 = av.reverse ++ rest) (hW : (rest.map fun v => v.category).sum ≤ 8) (hdg : decode cc pc = .ok (.invokestatic idx, 3)) (hcs : cells ≤ R.cells ∧ slots ≤ R.slots)
    (kk : ∀ (H1 : Heap) (locs1 : List Loc), va_P D vwCl ws H1 → va_S A0 H0 H1 locs1 → W p l e R s m args below meth c H1 locs1 cells slots Q (F0 m (pc + 3) ls (.int res :: rest))) : W p l e R s m args below meth c H locs cells slots Q (F0 m pc ls st0) := by
  have hPc := hP.sub isC hC
  have hKc := hK.sub isT hT
  refine rp_back (as := av.toArray) (va_runS (As := av) (rest := rest) hX hM (cwS av.length hX.2.2.2.2 (gd_S hG hi hl hs hq) rfl rfl rfl ⟨hyo, hq.2⟩ hR) ⟨rq_blind, fun U hU hW => ⟨rfl, by rw [hU]; exact hPc, va_K.moved hW.alike hKc, NW_warm hW hN⟩⟩ rfl rfl hls hstk (lv_room hW) hdg hcs) hP hS kk
theorem rq_callV (hX : CallFix p m c cc nL s args Wd own) (hG : GoodIn Wd Wd) (hi : Cond.initialized C ∈ Wd) (hM : RQ l y b2 nL2 ret Wd fr lo D wc tc (.ref b :: As) res) (hq : CQ Wd y b2 nL2 (some ret) As.length) (hyo : y.cls = C) (hl : Cond.methodLink own idx y ∈ Wd) (hs : Cond.instanceMethod y ∈ Wd) (hsel : Cond.selects C y y ∈ Wd) (hR : fr + 1 ≤ R.frames ∧ 8 + (nL2 + 11) + lo ≤ R.locals)
    (hK : va_K D vwCl tys s) (hN : NW s) (isT : List Nat) (hT : isT.filterMap (fun i => tys[i]?) = tc) (hP : va_P D vwCl ws H) (isC : List Nat) (hC : isC.filterMap (fun i => ws[i]?) = wc) {ci q0 : Nat} {qc : vw_C} {fs : List Value} (hc : vwCl[ci]? = some qc) (hcC : qc.1 = C) (hrc : wc[q0]? = some (b, .inr (ci, fs))) (hS : va_S A0 H0 H locs) (hls : ls.size = nL) (hstk : st0 = As.reverse ++ .ref b :: rest) (hW : (rest.map fun v => v.category).sum ≤ 8) (hdg : decode cc pc = .ok (.invokevirtual idx, 3)) (hcs : cells ≤ R.cells ∧ slots ≤ R.slots)
    (kk : ∀ (H1 : Heap) (locs1 : List Loc), va_P D vwCl ws H1 → va_S A0 H0 H1 locs1 → W p l e R s m args below meth c H1 locs1 cells slots Q (F0 m (pc + 3) ls (.int res :: rest))) : W p l e R s m args below meth c H locs cells slots Q (F0 m pc ls st0) := by
  have hPc := hP.sub isC hC
  have hKc := hK.sub isT hT
  subst hcC
  refine rp_back (as := (Value.ref b :: As).toArray) (va_runV (As := As) (rest := rest) (b := b) (C := qc.1) hX hM (cwV As.length hX.2.2.2.2 (gd_V hG hi hl hs hsel hq) rfl rfl rfl ⟨hyo, hq.2⟩ hR) ⟨rq_blind, va_recv hKc hPc hc hrc, fun U hU hW => ⟨rfl, by rw [hU]; exact hPc, va_K.moved hW.alike hKc, NW_warm hW hN⟩⟩ rfl rfl hls hstk (lv_room hW) hdg hcs) hP hS kk
end RC
def gq_Pc (D : va_G) (ws : va_W) (tys : List (ClassId × FieldType)) (av : List Value) : Array Value → State → Prop := va_Pc av (fun U => va_P D vwCl ws U.heap ∧ va_K D vwCl tys U ∧ va_D (gp_A ws) ws ∧ NW U)
theorem gq_blind {D : va_G} {ws : va_W} {tys : List (ClassId × FieldType)} {av : List Value} : FrameBlind (gq_Pc D ws tys av) := fun a U g mk q => ⟨q.1, q.2.1, va_K.moved (u := U) (U := U.calling g mk a) (Vm.Alike.refl U.vm) q.2.2.1, q.2.2.2.1, NW_same (u := U) (U := U.calling g mk a) rfl q.2.2.2.2⟩
/-- y, called with av where the cells ws lie, answers r and leaves the cells u, post r u; no other old cell changes, none is made -/
def GQi (l : Launch) (y : MethodName) (b : ByteArray) (nL : Nat) (ret : FieldType) (Wd : List Cond) (fr lo : Nat) (D : va_G) (ws : va_W) (tys : List (ClassId × FieldType)) (av : List Value) (post : Int32 → va_W → Prop) : Prop :=
  Met l y (.code y b nL (some ret) :: Wd) ({ frames := fr, cells := 0, slots := 0, locals := lo }) (gq_Pc D ws tys av) (va_Qi post (fun u t => va_P D vwCl u t.heap) (gp_A ws)) 0 0 (gp_A ws)
def GQv (l : Launch) (y : MethodName) (b : ByteArray) (nL : Nat) (Wd : List Cond) (fr lo : Nat) (D : va_G) (ws : va_W) (tys : List (ClassId × FieldType)) (av : List Value) (post : va_W → Prop) : Prop :=
  Met l y (.code y b nL none :: Wd) ({ frames := fr, cells := 0, slots := 0, locals := lo }) (gq_Pc D ws tys av) (va_Qv post (fun u t => va_P D vwCl u t.heap) (gp_A ws)) 0 0 (gp_A ws)
theorem gq_of {l : Launch} {y : MethodName} {b : ByteArray} {nL : Nat} {ret : Option FieldType} {Wd : List Cond} {fr lo : Nat} {D : va_G} {ws : va_W} {tys : List (ClassId × FieldType)} {av : List Value} {Qc : Array Value → State → Outcome → State → Prop} (own : String) (hy : plainName y.cls = true) (hyo : y.cls = own) (hlen : (lg_sl av).length ≤ nL)
    (body : ∀ (p : Program) (e : Env) (s : State) (m : MethodId) (below : List Frame) (meth : Method) (c : Code) (ls : Array Slot) (H : Heap), CallFix p m c b nL s av.toArray Wd own → meth.sig.returnType = ret → meth.locks = false → va_K D vwCl tys s → NW s → va_P D vwCl ws H → va_D (gp_A ws) ws → va_S (gp_A ws) s.heap H [] → lv_has ls nL (lv_args 0 av) →
      W p l e ({ frames := fr, cells := 0, slots := 0, locals := lo } : Room) s m av.toArray below meth c H [] 0 0 (MQ below Qc av.toArray s 0 0 (gp_A ws)) (F0 m 0 ls [])) : Met l y (.code y b nL ret :: Wd) ({ frames := fr, cells := 0, slots := 0, locals := lo }) (gq_Pc D ws tys av) Qc 0 0 (gp_A ws) := by
  refine Met.ofW (cc := b) (maxL := nL) (ret := ret) hy rfl ?_
  intro p e s m args below meth c s₁ B hml hv
  obtain ⟨rfl, hP, hK, hD, hN⟩ := hv
  have hts := atoms_spec (ws := .code y b nL ret :: Wd) B.pre
  have hl := lv_entry av hlen
  rw [lg_entry_eq]
  exact body p e s m below meth c _ _ ⟨B.exec, B.bytes, hml, hyo ▸ findClass_of_methodNamed B.named, fun w h => hts w (List.mem_cons_of_mem _ h)⟩ B.returns B.notSynchronized hK hN hP hD va_S.rf hl
section GC
variable {p : Program} {l : Launch} {e : Env} {R : Room} {s : State} {m : MethodId} {args : Array Value} {below : List Frame} {meth : Method} {c : Code} {H : Heap} {locs : List Loc} {cells slots : Nat} {Q : State → Prop} {cc : ByteArray} {pc : Nat} {ls : Array Slot} {rest st0 : List Value} {D : va_G} {A A0 : Nat → Prop} {tys tc : List (ClassId × FieldType)} {ws wc w0 : va_W} {H0 : Heap} {nL nL2 fr lo idx : Nat} {Wd : List Cond} {own C : String} {y : MethodName} {b2 : ByteArray} {ret : FieldType} {av As : List Value} {b : Addr} {free : Addr → Prop}
/-- a call's words and its callee's start, out of what the caller has: a static method's -/
theorem gq_runS {ret : Option FieldType} {Qc : Array Value → State → Outcome → State → Prop} (hX : CallFix p m c cc nL s args Wd own) (hG : GoodIn Wd Wd) (hi : Cond.initialized own ∈ Wd) (hM : Met l y (.code y b2 nL2 ret :: Wd) ({ frames := fr, cells := 0, slots := 0, locals := lo }) (gq_Pc D wc tc av) Qc 0 0 free) (hq : CQ Wd y b2 nL2 ret av.length) (hyo : y.cls = own) (hl : Cond.methodLink own idx y ∈ Wd) (hs : Cond.static y ∈ Wd) (hR : fr + 1 ≤ R.frames ∧ 8 + (nL2 + 11) + lo ≤ R.locals)
    (hK : va_K D vwCl tys s) (hN : NW s) (isT : List Nat) (hT : isT.filterMap (fun i => tys[i]?) = tc) (hP : va_P D vwCl ws H) (hD : va_D A0 ws) (isC : List Nat) (hn : va_nd isC = true) (hC : isC.map (fun i => ws[i]?) = wc.map some) (hls : ls.size = nL) (hstk : st0 = av.reverse ++ rest) (hW : (rest.map fun v => v.category).sum ≤ 8) (hdg : decode cc pc = .ok (.invokestatic idx, 3)) (hcs : cells ≤ R.cells ∧ slots ≤ R.slots) :
    va_Run p l e R s m args below meth c H locs cells slots 0 0 (F0 m pc ls st0) rest (Qc av.toArray) free := by
  have hPc := hP.sub isC (gp_fm hC)
  have hKc := hK.sub isT hT
  have hDc := gp_self (hD.sub isC hn hC)
  exact va_runS (As := av) (rest := rest) hX hM (cwS av.length hX.2.2.2.2 (gd_S hG hi hl hs hq) rfl rfl rfl ⟨hyo, hq.2⟩ hR) ⟨gq_blind, fun U hU hW => ⟨rfl, by rw [hU]; exact hPc, va_K.moved hW.alike hKc, hDc, NW_warm hW hN⟩⟩ rfl rfl hls hstk (lv_room hW) hdg hcs
theorem gq_runV {ret : Option FieldType} {Qc : Array Value → State → Outcome → State → Prop} (hX : CallFix p m c cc nL s args Wd own) (hG : GoodIn Wd Wd) (hi : Cond.initialized C ∈ Wd) (hM : Met l y (.code y b2 nL2 ret :: Wd) ({ frames := fr, cells := 0, slots := 0, locals := lo }) (gq_Pc D wc tc (.ref b :: As)) Qc 0 0 free) (hq : CQ Wd y b2 nL2 ret As.length) (hyo : y.cls = C) (hl : Cond.methodLink own idx y ∈ Wd) (hs : Cond.instanceMethod y ∈ Wd) (hsel : Cond.selects C y y ∈ Wd) (hR : fr + 1 ≤ R.frames ∧ 8 + (nL2 + 11) + lo ≤ R.locals)
    (hK : va_K D vwCl tys s) (hN : NW s) (isT : List Nat) (hT : isT.filterMap (fun i => tys[i]?) = tc) (hP : va_P D vwCl ws H) (hD : va_D A0 ws) (isC : List Nat) (hn : va_nd isC = true) (hC : isC.map (fun i => ws[i]?) = wc.map some) {ci q0 : Nat} {qc : vw_C} {fs : List Value} (hc : vwCl[ci]? = some qc) (hcC : qc.1 = C) (hrc : wc[q0]? = some (b, .inr (ci, fs))) (hls : ls.size = nL) (hstk : st0 = As.reverse ++ .ref b :: rest) (hW : (rest.map fun v => v.category).sum ≤ 8) (hdg : decode cc pc = .ok (.invokevirtual idx, 3)) (hcs : cells ≤ R.cells ∧ slots ≤ R.slots) :
    va_Run p l e R s m args below meth c H locs cells slots 0 0 (F0 m pc ls st0) rest (Qc (Value.ref b :: As).toArray) free := by
  have hPc := hP.sub isC (gp_fm hC)
  have hKc := hK.sub isT hT
  have hDc := gp_self (hD.sub isC hn hC)
  subst hcC
  exact va_runV (As := As) (rest := rest) (b := b) (C := qc.1) hX hM (cwV As.length hX.2.2.2.2 (gd_V hG hi hl hs hsel hq) rfl rfl rfl ⟨hyo, hq.2⟩ hR) ⟨gq_blind, va_recv hKc hPc hc hrc, fun U hU hW => ⟨rfl, by rw [hU]; exact hPc, va_K.moved hW.alike hKc, hDc, NW_warm hW hN⟩⟩ rfl rfl hls hstk (lv_room hW) hdg hcs
end GC
-- ===== methods that make cells =====
def gm_Pc (D : va_G) (ws : va_W) (tys : List (ClassId × FieldType)) (av : List Value) (sz : Nat) : Array Value → State → Prop := va_Pc av (fun U => U.heap.size = sz ∧ va_P D vwCl ws U.heap ∧ va_K D vwCl tys U ∧ va_D (fun _ => True) ws ∧ NW U)
theorem gm_blind {D : va_G} {ws : va_W} {tys : List (ClassId × FieldType)} {av : List Value} {sz : Nat} : FrameBlind (gm_Pc D ws tys av sz) := fun a U g mk q => ⟨q.1, q.2.1, q.2.2.1, va_K.moved (u := U) (U := U.calling g mk a) (Vm.Alike.refl U.vm) q.2.2.2.1, q.2.2.2.2.1, NW_same (u := U) (U := U.calling g mk a) rfl q.2.2.2.2.2⟩
/-- y, called with av where the cells ws lie, makes mc cells of ms slots, and leaves the cells u (its own and those that it made), post u -/
def GM (l : Launch) (y : MethodName) (b : ByteArray) (nL : Nat) (Wd : List Cond) (fr lo mc ms : Nat) (D : va_G) (ws : va_W) (tys : List (ClassId × FieldType)) (av : List Value) (sz : Nat) (post : va_W → Prop) : Prop :=
  Met l y (.code y b nL none :: Wd) ({ frames := fr, cells := mc, slots := ms, locals := lo }) (gm_Pc D ws tys av sz) (va_Qv post (fun u t => va_P D vwCl u t.heap ∧ va_D (va_A ws sz) u) (va_A ws sz)) mc ms (va_A ws sz)
theorem gm_of {l : Launch} {y : MethodName} {b : ByteArray} {nL : Nat} {Wd : List Cond} {fr lo mc ms : Nat} {D : va_G} {ws : va_W} {tys : List (ClassId × FieldType)} {av : List Value} {sz : Nat} {post : va_W → Prop} (own : String) (hy : plainName y.cls = true) (hyo : y.cls = own) (hlen : (lg_sl av).length ≤ nL)
    (body : ∀ (p : Program) (e : Env) (s : State) (m : MethodId) (below : List Frame) (meth : Method) (c : Code) (ls : Array Slot) (H : Heap) (A : Nat → Prop), CallFix p m c b nL s av.toArray Wd own → meth.sig.returnType = none → meth.locks = false → meth.name = y.name → va_K D vwCl tys s → NW s → va_P D vwCl ws H → va_D A ws → va_S A s.heap H [] → (∀ q, s.heap.size ≤ q → A q) → lv_has ls nL (lv_args 0 av) →
      W p l e ({ frames := fr, cells := mc, slots := ms, locals := lo } : Room) s m av.toArray below meth c H [] 0 0 (MQ below (va_Qv post (fun u t => va_P D vwCl u t.heap ∧ va_D A u) A) av.toArray s mc ms A) (F0 m 0 ls [])) : GM l y b nL Wd fr lo mc ms D ws tys av sz post := by
  refine Met.ofW (cc := b) (maxL := nL) (ret := none) hy rfl ?_
  intro p e s m args below meth c s₁ B hml hv
  obtain ⟨rfl, hsz, hP, hK, hD, hN⟩ := hv
  subst hsz
  have hts := atoms_spec (ws := .code y b nL none :: Wd) B.pre
  have hl := lv_entry av hlen
  rw [lg_entry_eq]
  exact body p e s m below meth c _ _ _ ⟨B.exec, B.bytes, hml, hyo ▸ findClass_of_methodNamed B.named, fun w h => hts w (List.mem_cons_of_mem _ h)⟩ B.returns B.notSynchronized (name_of_methodNamed B.named B.method).1 hK hN hP hD.self va_S.rf (fun q h => Or.inr h) hl
section NC
variable {p : Program} {l : Launch} {e : Env} {R : Room} {s : State} {m : MethodId} {args : Array Value} {below : List Frame} {meth : Method} {c : Code} {H : Heap} {locs : List Loc} {cells slots : Nat} {Q : State → Prop} {cc : ByteArray} {pc : Nat} {ls : Array Slot} {rest st0 : List Value} {D : va_G} {A A0 : Nat → Prop} {tys tc : List (ClassId × FieldType)} {ws wc wr : va_W} {H0 : Heap} {nL nL2 fr lo mc ms idx : Nat} {Wd : List Cond} {own : String} {y : MethodName} {b2 : ByteArray} {As : List Value} {b : Addr} {post : va_W → Prop}
/-- Object() -/
theorem gm_init (hX : CallFix p m c cc nL s args Wd own) (hG : GoodIn Wd Wd) (hi : Cond.initialized y.cls ∈ Wd) {sz : Nat} (hM : GM l y b2 nL2 Wd fr lo mc ms D wc tc (.ref b :: As) sz post) (hq : CQ Wd y b2 nL2 none As.length) (hl : Cond.methodLink own idx y ∈ Wd) (hs : Cond.instanceMethod y ∈ Wd) (hy1 : y.name = "<init>") (hR : fr + 1 ≤ R.frames ∧ 8 + (nL2 + 11) + lo ≤ R.locals)
    (hK : va_K D vwCl tys s) (hN : NW s) (isT : List Nat) (hT : isT.filterMap (fun i => tys[i]?) = tc) (hP : va_P D vwCl ws H) (hD : va_D A0 ws) (hS : va_S A0 H0 H locs) (hA : ∀ q, H0.size ≤ q → A0 q) (hsz : H.size = sz) (isC isR : List Nat) (hn : va_nd isC = true) (hC : isC.map (fun i => ws[i]?) = wc.map some) (hRr : isR.map (fun i => ws[i]?) = wr.map some) (hnr : va_nd isR = true) (hdis : ∀ i ∈ isR, i ∉ isC) (hls : ls.size = nL) (hstk : st0 = As.reverse ++ .ref b :: rest) (hW : (rest.map fun v => v.category).sum ≤ 8) (hdg : decode cc pc = .ok (.invokespecial idx, 3)) (hcs : cells + mc ≤ R.cells ∧ slots + ms ≤ R.slots)
    (kk : ∀ (u : va_W) (H1 : Heap) (locs1 : List Loc), post u → va_P D vwCl (wr ++ u) H1 → va_D A0 (wr ++ u) → va_S A0 H0 H1 locs1 → W p l e R s m args below meth c H1 locs1 (cells + mc) (slots + ms) Q (F0 m (pc + 3) ls rest)) : W p l e R s m args below meth c H locs cells slots Q (F0 m pc ls st0) := by
  subst hsz
  have hPc := hP.sub isC (gp_fm hC)
  have hKc := hK.sub isT hT
  have hDc := (hD.sub isC hn hC).weaken (B := fun _ => True) (fun _ _ _ _ => trivial)
  have hFc := va_free (wc := wc) hD hS hA isC hC
  have hGG : GoodIn Wd (.code y b2 nL2 none :: Wd) := fun w hw => (List.mem_cons.mp hw).elim (fun h => h ▸ hG _ hq.1) (fun h => hG _ h)
  refine va_callv (va_runI (As := As) (rest := rest) (b := b) hX hM (cwI As.length hX.2.2.2.2 hGG rfl rfl rfl (hX.2.2.2.2 _ hi) (hX.2.2.2.2 _ hl) (hX.2.2.2.2 _ hs) hy1 hq.2 hR) ⟨gm_blind, fun U hU hW => ⟨rfl, by rw [hU], by rw [hU]; exact hPc, va_K.moved hW.alike hKc, hDc, NW_warm hW hN⟩⟩ rfl rfl hls hstk (lv_room hW) hdg hcs) hS (fun q _ h => hFc q h) hFc (fun u t H1 locs1 ht hvm hp hB hz hk hS1 => ?_)
  rw [ht] at hB
  obtain ⟨h1, h2⟩ := va_join hP hD isC isR hC hRr hnr hdis hk hFc hB.1 hB.2
  exact kk u H1 locs1 hp h1 h2 hS1
end NC
