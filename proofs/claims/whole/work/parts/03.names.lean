/-! ===== BEGIN printed: names, fields, word lists, decode rows ===== -/
abbrev RX0 : String := "RescueBench$Cover"
def TX0 : u_T := fun k => match k with
  | 0 => ("RescueBench$Cover", "files", "LRescueBench$Files;", true)
  | 1 => ("RescueBench$Cover", "groups", "I", false)
  | 2 => ("RescueBench$Cover", "groupAt", "[I", true)
  | 3 => ("RescueBench$Cover", "gains", "[I", true)
  | 4 => ("RescueBench$Cover", "blockBits", "[I", true)
  | 5 => ("RescueBench$Cover", "hopes", "[I", true)
  | 6 => ("RescueBench$Cover", "tried", "[I", true)
  | 7 => ("RescueBench$Cover", "chosen", "[I", true)
  | 8 => ("RescueBench$Cover", "chosenCount", "I", false)
  | 9 => ("RescueBench$Cover", "chosenGain", "I", false)
  | _ => ("RescueBench$Cover", "chosenBits", "I", false)
def tyX0 : Nat → FieldType := fun k => match k with
  | 0 => .object "RescueBench$Files"
  | 1 => .int
  | 2 => .array .int
  | 3 => .array .int
  | 4 => .array .int
  | 5 => .array .int
  | 6 => .array .int
  | 7 => .array .int
  | 8 => .int
  | 9 => .int
  | _ => .int
theorem nmX0 : ∀ a, a < 11 → ∀ b, b < 11 → a ≠ b → (TX0 a).2.1 ≠ (TX0 b).2.1 := by decide +kernel
theorem tyX0_ok : ∀ k, k < 11 → parseFieldDescriptor (TX0 k).2.2.1 = some (tyX0 k) := by decide +kernel
abbrev cX0_init : ByteArray := prog_2_method_1_code
abbrev yX0_init : MethodName := ⟨RX0, "<init>", "(LRescueBench$Files;)V"⟩
abbrev cX0_choose : ByteArray := prog_2_method_2_code
abbrev yX0_choose : MethodName := ⟨RX0, "choose", "()V"⟩
abbrev cX0_isTold : ByteArray := prog_2_method_3_code
abbrev yX0_isTold : MethodName := ⟨RX0, "isTold", "()Z"⟩
abbrev cX0_findGroups : ByteArray := prog_2_method_4_code
abbrev yX0_findGroups : MethodName := ⟨RX0, "findGroups", "()V"⟩
abbrev cX0_weighFiles : ByteArray := prog_2_method_5_code
abbrev yX0_weighFiles : MethodName := ⟨RX0, "weighFiles", "()V"⟩
abbrev cX0_tryGroup : ByteArray := prog_2_method_6_code
abbrev yX0_tryGroup : MethodName := ⟨RX0, "tryGroup", "(IIII)V"⟩
abbrev cX0_keepTried : ByteArray := prog_2_method_7_code
abbrev yX0_keepTried : MethodName := ⟨RX0, "keepTried", "(III)V"⟩
abbrev cX0_blocksInAll : ByteArray := prog_2_method_8_code
abbrev yX0_blocksInAll : MethodName := ⟨RX0, "blocksInAll", "()I"⟩
abbrev cX0_costInAll : ByteArray := prog_2_method_9_code
abbrev yX0_costInAll : MethodName := ⟨RX0, "costInAll", "()I"⟩
abbrev cX0_fileAt : ByteArray := prog_2_method_10_code
abbrev yX0_fileAt : MethodName := ⟨RX0, "fileAt", "(I)I"⟩
abbrev cX0_freeBlockAt : ByteArray := prog_2_method_11_code
abbrev yX0_freeBlockAt : MethodName := ⟨RX0, "freeBlockAt", "(I)I"⟩
abbrev RX1 : String := "RescueBench$Disk"
def TX1 : u_T := fun k => match k with
  | 0 => ("RescueBench$Disk", "blocks", "[J", true)
  | _ => ("RescueBench$Disk", "used", "I", false)
def tyX1 : Nat → FieldType := fun k => match k with
  | 0 => .array .long
  | _ => .int
theorem nmX1 : ∀ a, a < 2 → ∀ b, b < 2 → a ≠ b → (TX1 a).2.1 ≠ (TX1 b).2.1 := by decide +kernel
theorem tyX1_ok : ∀ k, k < 2 → parseFieldDescriptor (TX1 k).2.2.1 = some (tyX1 k) := by decide +kernel
abbrev cX1_init : ByteArray := prog_3_method_1_code
abbrev yX1_init : MethodName := ⟨RX1, "<init>", "()V"⟩
abbrev cX1_size : ByteArray := prog_3_method_2_code
abbrev yX1_size : MethodName := ⟨RX1, "size", "()I"⟩
abbrev cX1_add : ByteArray := prog_3_method_3_code
abbrev yX1_add : MethodName := ⟨RX1, "add", "(J)I"⟩
abbrev cX1_allOf : ByteArray := prog_3_method_4_code
abbrev yX1_allOf : MethodName := ⟨RX1, "allOf", "(I)J"⟩
abbrev cX1_exchange : ByteArray := prog_3_method_5_code
abbrev yX1_exchange : MethodName := ⟨RX1, "exchange", "(IJ)J"⟩
abbrev cX1_byteAt : ByteArray := prog_3_method_6_code
abbrev yX1_byteAt : MethodName := ⟨RX1, "byteAt", "(II)I"⟩
abbrev cX1_becomeLike : ByteArray := prog_3_method_7_code
abbrev yX1_becomeLike : MethodName := ⟨RX1, "becomeLike", "(LRescueBench$Disk;)V"⟩
abbrev RX2 : String := "RescueBench$Files"
def TX2 : u_T := fun k => match k with
  | 0 => ("RescueBench$Files", "then", "LRescueBench$Disk;", true)
  | 1 => ("RescueBench$Files", "keys", "[I", true)
  | 2 => ("RescueBench$Files", "used", "I", false)
  | _ => ("RescueBench$Files", "tooMany", "Z", false)
def tyX2 : Nat → FieldType := fun k => match k with
  | 0 => .object "RescueBench$Disk"
  | 1 => .array .int
  | 2 => .int
  | _ => .boolean
theorem nmX2 : ∀ a, a < 4 → ∀ b, b < 4 → a ≠ b → (TX2 a).2.1 ≠ (TX2 b).2.1 := by decide +kernel
theorem tyX2_ok : ∀ k, k < 4 → parseFieldDescriptor (TX2 k).2.2.1 = some (tyX2 k) := by decide +kernel
abbrev cX2_init : ByteArray := prog_4_method_1_code
abbrev yX2_init : MethodName := ⟨RX2, "<init>", "()V"⟩
abbrev cX2_begin : ByteArray := prog_4_method_2_code
abbrev yX2_begin : MethodName := ⟨RX2, "begin", "(LRescueBench$Disk;)V"⟩
abbrev cX2_tellNone : ByteArray := prog_4_method_3_code
abbrev yX2_tellNone : MethodName := ⟨RX2, "tellNone", "()V"⟩
abbrev cX2_size : ByteArray := prog_4_method_4_code
abbrev yX2_size : MethodName := ⟨RX2, "size", "()I"⟩
abbrev cX2_areTooMany : ByteArray := prog_4_method_5_code
abbrev yX2_areTooMany : MethodName := ⟨RX2, "areTooMany", "()Z"⟩
abbrev cX2_blocksThen : ByteArray := prog_4_method_6_code
abbrev yX2_blocksThen : MethodName := ⟨RX2, "blocksThen", "()I"⟩
abbrev cX2_add : ByteArray := prog_4_method_7_code
abbrev yX2_add : MethodName := ⟨RX2, "add", "([III)V"⟩
abbrev cX2_keyOf : ByteArray := prog_4_method_8_code
abbrev yX2_keyOf : MethodName := ⟨RX2, "keyOf", "([III)I"⟩
abbrev cX2_keyAt : ByteArray := prog_4_method_9_code
abbrev yX2_keyAt : MethodName := ⟨RX2, "keyAt", "(I)I"⟩
abbrev cX2_makeOf : ByteArray := prog_4_method_10_code
abbrev yX2_makeOf : MethodName := ⟨RX2, "makeOf", "(I)I"⟩
abbrev cX2_blockOf : ByteArray := prog_4_method_11_code
abbrev yX2_blockOf : MethodName := ⟨RX2, "blockOf", "(II)I"⟩
abbrev cX2_lengthOf : ByteArray := prog_4_method_12_code
abbrev yX2_lengthOf : MethodName := ⟨RX2, "lengthOf", "(I)I"⟩
abbrev cX2_sizeOf : ByteArray := prog_4_method_13_code
abbrev yX2_sizeOf : MethodName := ⟨RX2, "sizeOf", "(I)I"⟩
abbrev cX2_costOf : ByteArray := prog_4_method_14_code
abbrev yX2_costOf : MethodName := ⟨RX2, "costOf", "(I)I"⟩
abbrev cX2_blockBitsOf : ByteArray := prog_4_method_15_code
abbrev yX2_blockBitsOf : MethodName := ⟨RX2, "blockBitsOf", "(I)I"⟩
abbrev cX2_isSure : ByteArray := prog_4_method_16_code
abbrev yX2_isSure : MethodName := ⟨RX2, "isSure", "(I)Z"⟩
abbrev cX2_dataByteOf : ByteArray := prog_4_method_17_code
abbrev yX2_dataByteOf : MethodName := ⟨RX2, "dataByteOf", "(II)I"⟩
abbrev RX3 : String := "RescueBench$Hand"
def TX3 : u_T := fun k => match k with
  | 0 => ("RescueBench$Hand", "held", "[I", true)
  | _ => ("RescueBench$Hand", "used", "I", false)
def tyX3 : Nat → FieldType := fun k => match k with
  | 0 => .array .int
  | _ => .int
theorem nmX3 : ∀ a, a < 2 → ∀ b, b < 2 → a ≠ b → (TX3 a).2.1 ≠ (TX3 b).2.1 := by decide +kernel
theorem tyX3_ok : ∀ k, k < 2 → parseFieldDescriptor (TX3 k).2.2.1 = some (tyX3 k) := by decide +kernel
abbrev cX3_init : ByteArray := prog_5_method_1_code
abbrev yX3_init : MethodName := ⟨RX3, "<init>", "()V"⟩
abbrev cX3_size : ByteArray := prog_5_method_2_code
abbrev yX3_size : MethodName := ⟨RX3, "size", "()I"⟩
abbrev cX3_add : ByteArray := prog_5_method_3_code
abbrev yX3_add : MethodName := ⟨RX3, "add", "(I)I"⟩
abbrev cX3_empty : ByteArray := prog_5_method_4_code
abbrev yX3_empty : MethodName := ⟨RX3, "empty", "()V"⟩
abbrev cX3_isRightFor : ByteArray := prog_5_method_5_code
abbrev yX3_isRightFor : MethodName := ⟨RX3, "isRightFor", "(LRescueBench$Make;)Z"⟩
abbrev cX3_checkByte : ByteArray := prog_5_method_6_code
abbrev yX3_checkByte : MethodName := ⟨RX3, "checkByte", "(LRescueBench$Make;)I"⟩
abbrev cX3_blockOfFile : ByteArray := prog_5_method_7_code
abbrev yX3_blockOfFile : MethodName := ⟨RX3, "blockOfFile", "(LRescueBench$Make;I)J"⟩
abbrev cX3_byteOfFile : ByteArray := prog_5_method_8_code
abbrev yX3_byteOfFile : MethodName := ⟨RX3, "byteOfFile", "(LRescueBench$Make;I)I"⟩
abbrev cX3_byteAheadOfCheck : ByteArray := prog_5_method_9_code
abbrev yX3_byteAheadOfCheck : MethodName := ⟨RX3, "byteAheadOfCheck", "(LRescueBench$Make;I)I"⟩
abbrev RX4 : String := "RescueBench$Make"
def TX4 : u_T := fun k => match k with
  | 0 => ("RescueBench$Make", "firstHead", "I", true)
  | 1 => ("RescueBench$Make", "secondHead", "I", true)
  | 2 => ("RescueBench$Make", "kindOfCheck", "I", true)
  | 3 => ("RescueBench$Make", "goalBits", "I", false)
  | 4 => ("RescueBench$Make", "edges", "I", false)
  | _ => ("RescueBench$Make", "steps", "[I", true)
def tyX4 : Nat → FieldType := fun k => match k with
  | 0 => .int
  | 1 => .int
  | 2 => .int
  | 3 => .int
  | 4 => .int
  | _ => .array .int
theorem nmX4 : ∀ a, a < 6 → ∀ b, b < 6 → a ≠ b → (TX4 a).2.1 ≠ (TX4 b).2.1 := by decide +kernel
theorem tyX4_ok : ∀ k, k < 6 → parseFieldDescriptor (TX4 k).2.2.1 = some (tyX4 k) := by decide +kernel
abbrev cX4_init : ByteArray := prog_6_method_1_code
abbrev yX4_init : MethodName := ⟨RX4, "<init>", "(III)V"⟩
abbrev cX4_firstHead : ByteArray := prog_6_method_2_code
abbrev yX4_firstHead : MethodName := ⟨RX4, "firstHead", "()I"⟩
abbrev cX4_secondHead : ByteArray := prog_6_method_3_code
abbrev yX4_secondHead : MethodName := ⟨RX4, "secondHead", "()I"⟩
abbrev cX4_edgeCount : ByteArray := prog_6_method_4_code
abbrev yX4_edgeCount : MethodName := ⟨RX4, "edgeCount", "()I"⟩
abbrev cX4_addEdge : ByteArray := prog_6_method_5_code
abbrev yX4_addEdge : MethodName := ⟨RX4, "addEdge", "(IIII)V"⟩
abbrev cX4_exchangeGoals : ByteArray := prog_6_method_6_code
abbrev yX4_exchangeGoals : MethodName := ⟨RX4, "exchangeGoals", "(I)I"⟩
abbrev cX4_stepFrom : ByteArray := prog_6_method_7_code
abbrev yX4_stepFrom : MethodName := ⟨RX4, "stepFrom", "(II)I"⟩
abbrev cX4_mayEndIn : ByteArray := prog_6_method_8_code
abbrev yX4_mayEndIn : MethodName := ⟨RX4, "mayEndIn", "(I)Z"⟩
abbrev cX4_checkWith : ByteArray := prog_6_method_9_code
abbrev yX4_checkWith : MethodName := ⟨RX4, "checkWith", "(II)I"⟩
abbrev cX4_crcStep : ByteArray := prog_6_method_10_code
abbrev yX4_crcStep : MethodName := ⟨RX4, "crcStep", "(I)I"⟩
abbrev RX5 : String := "RescueBench$Walk"
def TX5 : u_T := fun k => match k with
  | 0 => ("RescueBench$Walk", "disk", "LRescueBench$Disk;", true)
  | 1 => ("RescueBench$Walk", "files", "LRescueBench$Files;", true)
  | 2 => ("RescueBench$Walk", "reach", "I", false)
  | 3 => ("RescueBench$Walk", "keeps", "Z", false)
  | 4 => ("RescueBench$Walk", "looks", "I", false)
  | 5 => ("RescueBench$Walk", "longest", "I", false)
  | 6 => ("RescueBench$Walk", "makeNumber", "I", false)
  | 7 => ("RescueBench$Walk", "row", "[I", true)
  | 8 => ("RescueBench$Walk", "statesBehind", "[I", true)
  | 9 => ("RescueBench$Walk", "checkBehind", "[I", true)
  | 10 => ("RescueBench$Walk", "checkAt", "I", false)
  | 11 => ("RescueBench$Walk", "states", "I", false)
  | _ => ("RescueBench$Walk", "check", "I", false)
def tyX5 : Nat → FieldType := fun k => match k with
  | 0 => .object "RescueBench$Disk"
  | 1 => .object "RescueBench$Files"
  | 2 => .int
  | 3 => .boolean
  | 4 => .int
  | 5 => .int
  | 6 => .int
  | 7 => .array .int
  | 8 => .array .int
  | 9 => .array .int
  | 10 => .int
  | 11 => .int
  | _ => .int
theorem nmX5 : ∀ a, a < 13 → ∀ b, b < 13 → a ≠ b → (TX5 a).2.1 ≠ (TX5 b).2.1 := by decide +kernel
theorem tyX5_ok : ∀ k, k < 13 → parseFieldDescriptor (TX5 k).2.2.1 = some (tyX5 k) := by decide +kernel
abbrev cX5_init : ByteArray := prog_7_method_1_code
abbrev yX5_init : MethodName := ⟨RX5, "<init>", "(LRescueBench$Disk;LRescueBench$Files;)V"⟩
abbrev cX5_begin : ByteArray := prog_7_method_2_code
abbrev yX5_begin : MethodName := ⟨RX5, "begin", "(IZ)V"⟩
abbrev cX5_looks : ByteArray := prog_7_method_3_code
abbrev yX5_looks : MethodName := ⟨RX5, "looks", "()I"⟩
abbrev cX5_isTooLong : ByteArray := prog_7_method_4_code
abbrev yX5_isTooLong : MethodName := ⟨RX5, "isTooLong", "()Z"⟩
abbrev cX5_longest : ByteArray := prog_7_method_5_code
abbrev yX5_longest : MethodName := ⟨RX5, "longest", "()I"⟩
abbrev cX5_lookFrom : ByteArray := prog_7_method_6_code
abbrev yX5_lookFrom : MethodName := ⟨RX5, "lookFrom", "(LRescueBench$Make;II)V"⟩
abbrev cX5_lookAt : ByteArray := prog_7_method_7_code
abbrev yX5_lookAt : MethodName := ⟨RX5, "lookAt", "(LRescueBench$Make;III)V"⟩
abbrev cX5_keepRow : ByteArray := prog_7_method_8_code
abbrev yX5_keepRow : MethodName := ⟨RX5, "keepRow", "(I)V"⟩
abbrev cX5_fits : ByteArray := prog_7_method_9_code
abbrev yX5_fits : MethodName := ⟨RX5, "fits", "(LRescueBench$Make;II)Z"⟩
abbrev cX5_readsHead : ByteArray := prog_7_method_10_code
abbrev yX5_readsHead : MethodName := ⟨RX5, "readsHead", "(LRescueBench$Make;J)Z"⟩
abbrev cX5_readAheadOfCheck : ByteArray := prog_7_method_11_code
abbrev yX5_readAheadOfCheck : MethodName := ⟨RX5, "readAheadOfCheck", "(LRescueBench$Make;IJI)V"⟩
abbrev RX6 : String := "RescueBench"
def TX6 : u_T := fun k => match k with
  | 0 => ("RescueBench", "makes", "[LRescueBench$Make;", true)
  | 1 => ("RescueBench", "makeCount", "I", false)
  | 2 => ("RescueBench", "disk", "LRescueBench$Disk;", true)
  | 3 => ("RescueBench", "hand", "LRescueBench$Hand;", true)
  | 4 => ("RescueBench", "reachNow", "I", false)
  | 5 => ("RescueBench", "files", "LRescueBench$Files;", true)
  | 6 => ("RescueBench", "walk", "LRescueBench$Walk;", true)
  | 7 => ("RescueBench", "cover", "LRescueBench$Cover;", true)
  | _ => ("RescueBench", "latestLooks", "I", false)
def tyX6 : Nat → FieldType := fun k => match k with
  | 0 => .array (.object "RescueBench$Make")
  | 1 => .int
  | 2 => .object "RescueBench$Disk"
  | 3 => .object "RescueBench$Hand"
  | 4 => .int
  | 5 => .object "RescueBench$Files"
  | 6 => .object "RescueBench$Walk"
  | 7 => .object "RescueBench$Cover"
  | _ => .int
theorem nmX6 : ∀ a, a < 9 → ∀ b, b < 9 → a ≠ b → (TX6 a).2.1 ≠ (TX6 b).2.1 := by decide +kernel
theorem tyX6_ok : ∀ k, k < 9 → parseFieldDescriptor (TX6 k).2.2.1 = some (tyX6 k) := by decide +kernel
abbrev cX6_init : ByteArray := prog_1_method_1_code
abbrev yX6_init : MethodName := ⟨RX6, "<init>", "()V"⟩
abbrev cX6_make : ByteArray := prog_1_method_2_code
abbrev yX6_make : MethodName := ⟨RX6, "make", "(III)I"⟩
abbrev cX6_edge : ByteArray := prog_1_method_3_code
abbrev yX6_edge : MethodName := ⟨RX6, "edge", "(IIIII)I"⟩
abbrev cX6_goals : ByteArray := prog_1_method_4_code
abbrev yX6_goals : MethodName := ⟨RX6, "goals", "(II)I"⟩
abbrev cX6_block : ByteArray := prog_1_method_5_code
abbrev yX6_block : MethodName := ⟨RX6, "block", "(J)I"⟩
abbrev cX6_change : ByteArray := prog_1_method_6_code
abbrev yX6_change : MethodName := ⟨RX6, "change", "(IJ)J"⟩
abbrev cX6_bytes : ByteArray := prog_1_method_7_code
abbrev yX6_bytes : MethodName := ⟨RX6, "bytes", "(I)J"⟩
abbrev cX6_reach : ByteArray := prog_1_method_8_code
abbrev yX6_reach : MethodName := ⟨RX6, "reach", "(I)I"⟩
abbrev cX6_push : ByteArray := prog_1_method_9_code
abbrev yX6_push : MethodName := ⟨RX6, "push", "(I)I"⟩
abbrev cX6_write : ByteArray := prog_1_method_10_code
abbrev yX6_write : MethodName := ⟨RX6, "write", "(I)I"⟩
abbrev cX6_search : ByteArray := prog_1_method_11_code
abbrev yX6_search : MethodName := ⟨RX6, "search", "()I"⟩
abbrev cX6_file : ByteArray := prog_1_method_12_code
abbrev yX6_file : MethodName := ⟨RX6, "file", "(II)I"⟩
abbrev cX6_data : ByteArray := prog_1_method_13_code
abbrev yX6_data : MethodName := ⟨RX6, "data", "(II)I"⟩
abbrev cX6_torn : ByteArray := prog_1_method_14_code
abbrev yX6_torn : MethodName := ⟨RX6, "torn", "(I)I"⟩
abbrev cX6_best : ByteArray := prog_1_method_15_code
abbrev yX6_best : MethodName := ⟨RX6, "best", "()I"⟩
abbrev cX6_cost : ByteArray := prog_1_method_16_code
abbrev yX6_cost : MethodName := ⟨RX6, "cost", "()I"⟩
abbrev cX6_covers : ByteArray := prog_1_method_17_code
abbrev yX6_covers : MethodName := ⟨RX6, "covers", "(I)I"⟩
abbrev cX6_nobody : ByteArray := prog_1_method_18_code
abbrev yX6_nobody : MethodName := ⟨RX6, "nobody", "(I)I"⟩
abbrev cX6_check : ByteArray := prog_1_method_19_code
abbrev yX6_check : MethodName := ⟨RX6, "check", "(I)I"⟩
abbrev cX6_count : ByteArray := prog_1_method_20_code
abbrev yX6_count : MethodName := ⟨RX6, "count", "(I)I"⟩
abbrev cX6_walkFrom : ByteArray := prog_1_method_21_code
abbrev yX6_walkFrom : MethodName := ⟨RX6, "walkFrom", "(I)V"⟩
abbrev cX6_neededMake : ByteArray := prog_1_method_22_code
abbrev yX6_neededMake : MethodName := ⟨RX6, "neededMake", "(I)LRescueBench$Make;"⟩
abbrev cX6_neededBlock : ByteArray := prog_1_method_23_code
abbrev yX6_neededBlock : MethodName := ⟨RX6, "neededBlock", "(I)I"⟩
abbrev cX6_neededFile : ByteArray := prog_1_method_24_code
abbrev yX6_neededFile : MethodName := ⟨RX6, "neededFile", "(I)I"⟩
abbrev cX6_isByte : ByteArray := prog_1_method_25_code
abbrev yX6_isByte : MethodName := ⟨RX6, "isByte", "(I)Z"⟩
abbrev cX6_isState : ByteArray := prog_1_method_26_code
abbrev yX6_isState : MethodName := ⟨RX6, "isState", "(I)Z"⟩
abbrev cX6_byteOf : ByteArray := prog_1_method_27_code
abbrev yX6_byteOf : MethodName := ⟨RX6, "byteOf", "(JI)I"⟩
abbrev cX6_isZeroBehind : ByteArray := prog_1_method_28_code
abbrev yX6_isZeroBehind : MethodName := ⟨RX6, "isZeroBehind", "(JI)Z"⟩
abbrev cX6_blocksOf : ByteArray := prog_1_method_29_code
abbrev yX6_blocksOf : MethodName := ⟨RX6, "blocksOf", "(I)I"⟩
abbrev RX7 : String := "RescueBenchModel"
def TX7 : u_T := fun k => match k with
  | 0 => ("RescueBenchModel", "thrown", "I", false)
  | 1 => ("RescueBenchModel", "headOne", "[I", true)
  | 2 => ("RescueBenchModel", "headTwo", "[I", true)
  | 3 => ("RescueBenchModel", "checks", "[I", true)
  | 4 => ("RescueBenchModel", "goal", "[I", true)
  | 5 => ("RescueBenchModel", "edges", "[I", true)
  | 6 => ("RescueBenchModel", "makes", "I", false)
  | 7 => ("RescueBenchModel", "nexts", "[I", true)
  | 8 => ("RescueBenchModel", "disk", "[J", true)
  | 9 => ("RescueBenchModel", "blocks", "I", false)
  | 10 => ("RescueBenchModel", "hand", "[I", true)
  | 11 => ("RescueBenchModel", "handMany", "I", false)
  | 12 => ("RescueBenchModel", "reach", "I", false)
  | 13 => ("RescueBenchModel", "text", "[I", true)
  | 14 => ("RescueBenchModel", "row", "[I", true)
  | 15 => ("RescueBenchModel", "statesAt", "[I", true)
  | 16 => ("RescueBenchModel", "looks", "I", false)
  | 17 => ("RescueBenchModel", "longest", "I", false)
  | 18 => ("RescueBenchModel", "keeps", "Z", false)
  | 19 => ("RescueBenchModel", "files", "I", false)
  | 20 => ("RescueBenchModel", "lookedOf", "I", false)
  | 21 => ("RescueBenchModel", "wereThere", "I", false)
  | 22 => ("RescueBenchModel", "fMake", "[I", true)
  | 23 => ("RescueBenchModel", "fMany", "[I", true)
  | 24 => ("RescueBenchModel", "fRow", "[I", true)
  | 25 => ("RescueBenchModel", "fData", "[I", true)
  | 26 => ("RescueBenchModel", "groupFrom", "[I", true)
  | 27 => ("RescueBenchModel", "groups", "I", false)
  | 28 => ("RescueBenchModel", "pick", "[I", true)
  | 29 => ("RescueBenchModel", "best", "[I", true)
  | 30 => ("RescueBenchModel", "bestBlocks", "I", false)
  | 31 => ("RescueBenchModel", "bestCost", "I", false)
  | 32 => ("RescueBenchModel", "bestFiles", "I", false)
  | _ => ("RescueBenchModel", "isTold", "Z", false)
def tyX7 : Nat → FieldType := fun k => match k with
  | 0 => .int
  | 1 => .array .int
  | 2 => .array .int
  | 3 => .array .int
  | 4 => .array .int
  | 5 => .array .int
  | 6 => .int
  | 7 => .array .int
  | 8 => .array .long
  | 9 => .int
  | 10 => .array .int
  | 11 => .int
  | 12 => .int
  | 13 => .array .int
  | 14 => .array .int
  | 15 => .array .int
  | 16 => .int
  | 17 => .int
  | 18 => .boolean
  | 19 => .int
  | 20 => .int
  | 21 => .int
  | 22 => .array .int
  | 23 => .array .int
  | 24 => .array .int
  | 25 => .array .int
  | 26 => .array .int
  | 27 => .int
  | 28 => .array .int
  | 29 => .array .int
  | 30 => .int
  | 31 => .int
  | 32 => .int
  | _ => .boolean
theorem nmX7 : ∀ a, a < 34 → ∀ b, b < 34 → a ≠ b → (TX7 a).2.1 ≠ (TX7 b).2.1 := by decide +kernel
theorem tyX7_ok : ∀ k, k < 34 → parseFieldDescriptor (TX7 k).2.2.1 = some (tyX7 k) := by decide +kernel
abbrev cX7_init : ByteArray := prog_9_method_1_code
abbrev yX7_init : MethodName := ⟨RX7, "<init>", "()V"⟩
abbrev cX7_thrown : ByteArray := prog_9_method_2_code
abbrev yX7_thrown : MethodName := ⟨RX7, "thrown", "()I"⟩
abbrev cX7_bad : ByteArray := prog_9_method_3_code
abbrev yX7_bad : MethodName := ⟨RX7, "bad", "(ZI)Z"⟩
abbrev cX7_isByte : ByteArray := prog_9_method_4_code
abbrev yX7_isByte : MethodName := ⟨RX7, "isByte", "(I)Z"⟩
abbrev cX7_make : ByteArray := prog_9_method_5_code
abbrev yX7_make : MethodName := ⟨RX7, "make", "(III)I"⟩
abbrev cX7_isMake : ByteArray := prog_9_method_6_code
abbrev yX7_isMake : MethodName := ⟨RX7, "isMake", "(I)Z"⟩
abbrev cX7_edge : ByteArray := prog_9_method_7_code
abbrev yX7_edge : MethodName := ⟨RX7, "edge", "(IIIII)I"⟩
abbrev cX7_goals : ByteArray := prog_9_method_8_code
abbrev yX7_goals : MethodName := ⟨RX7, "goals", "(II)I"⟩
abbrev cX7_step : ByteArray := prog_9_method_9_code
abbrev yX7_step : MethodName := ⟨RX7, "step", "(III)I"⟩
abbrev cX7_block : ByteArray := prog_9_method_10_code
abbrev yX7_block : MethodName := ⟨RX7, "block", "(J)I"⟩
abbrev cX7_isBlock : ByteArray := prog_9_method_11_code
abbrev yX7_isBlock : MethodName := ⟨RX7, "isBlock", "(I)Z"⟩
abbrev cX7_change : ByteArray := prog_9_method_12_code
abbrev yX7_change : MethodName := ⟨RX7, "change", "(IJ)J"⟩
abbrev cX7_bytes : ByteArray := prog_9_method_13_code
abbrev yX7_bytes : MethodName := ⟨RX7, "bytes", "(I)J"⟩
abbrev cX7_reach : ByteArray := prog_9_method_14_code
abbrev yX7_reach : MethodName := ⟨RX7, "reach", "(I)I"⟩
abbrev cX7_push : ByteArray := prog_9_method_15_code
abbrev yX7_push : MethodName := ⟨RX7, "push", "(I)I"⟩
abbrev cX7_checkOf : ByteArray := prog_9_method_16_code
abbrev yX7_checkOf : MethodName := ⟨RX7, "checkOf", "(II)I"⟩
abbrev cX7_asFile : ByteArray := prog_9_method_17_code
abbrev yX7_asFile : MethodName := ⟨RX7, "asFile", "(I)I"⟩
abbrev cX7_check : ByteArray := prog_9_method_18_code
abbrev yX7_check : MethodName := ⟨RX7, "check", "(I)I"⟩
abbrev cX7_write : ByteArray := prog_9_method_19_code
abbrev yX7_write : MethodName := ⟨RX7, "write", "(I)I"⟩
abbrev cX7_grows : ByteArray := prog_9_method_20_code
abbrev yX7_grows : MethodName := ⟨RX7, "grows", "(III)I"⟩
abbrev cX7_mayFollow : ByteArray := prog_9_method_21_code
abbrev yX7_mayFollow : MethodName := ⟨RX7, "mayFollow", "(II)Z"⟩
abbrev cX7_follows : ByteArray := prog_9_method_22_code
abbrev yX7_follows : MethodName := ⟨RX7, "follows", "(II)Z"⟩
abbrev cX7_look : ByteArray := prog_9_method_23_code
abbrev yX7_look : MethodName := ⟨RX7, "look", "(III)Z"⟩
abbrev cX7_isAhead : ByteArray := prog_9_method_24_code
abbrev yX7_isAhead : MethodName := ⟨RX7, "isAhead", "(III)Z"⟩
abbrev cX7_found : ByteArray := prog_9_method_25_code
abbrev yX7_found : MethodName := ⟨RX7, "found", "(II)V"⟩
abbrev cX7_copy : ByteArray := prog_9_method_26_code
abbrev yX7_copy : MethodName := ⟨RX7, "copy", "(II)V"⟩
abbrev cX7_search : ByteArray := prog_9_method_27_code
abbrev yX7_search : MethodName := ⟨RX7, "search", "()I"⟩
abbrev cX7_torn : ByteArray := prog_9_method_28_code
abbrev yX7_torn : MethodName := ⟨RX7, "torn", "(I)I"⟩
abbrev cX7_costOf : ByteArray := prog_9_method_29_code
abbrev yX7_costOf : MethodName := ⟨RX7, "costOf", "(I)I"⟩
abbrev cX7_isFile : ByteArray := prog_9_method_30_code
abbrev yX7_isFile : MethodName := ⟨RX7, "isFile", "(I)Z"⟩
abbrev cX7_file : ByteArray := prog_9_method_31_code
abbrev yX7_file : MethodName := ⟨RX7, "file", "(II)I"⟩
abbrev cX7_data : ByteArray := prog_9_method_32_code
abbrev yX7_data : MethodName := ⟨RX7, "data", "(II)I"⟩
abbrev cX7_coverAll : ByteArray := prog_9_method_33_code
abbrev yX7_coverAll : MethodName := ⟨RX7, "coverAll", "()V"⟩
abbrev cX7_tries : ByteArray := prog_9_method_34_code
abbrev yX7_tries : MethodName := ⟨RX7, "tries", "(IIIII)V"⟩
abbrev cX7_best : ByteArray := prog_9_method_35_code
abbrev yX7_best : MethodName := ⟨RX7, "best", "()I"⟩
abbrev cX7_cost : ByteArray := prog_9_method_36_code
abbrev yX7_cost : MethodName := ⟨RX7, "cost", "()I"⟩
abbrev cX7_covers : ByteArray := prog_9_method_37_code
abbrev yX7_covers : MethodName := ⟨RX7, "covers", "(I)I"⟩
abbrev cX7_nobody : ByteArray := prog_9_method_38_code
abbrev yX7_nobody : MethodName := ⟨RX7, "nobody", "(I)I"⟩
abbrev cX7_count : ByteArray := prog_9_method_39_code
abbrev yX7_count : MethodName := ⟨RX7, "count", "(I)I"⟩
abbrev RJ6 : String := "java/lang/Integer"
def TJ6 : u_T := fun k => match k with
  | _ => ("", "", "", false)
def tyJ6 : Nat → FieldType := fun k => match k with
  | _ => .int
theorem nmJ6 : ∀ a, a < 0 → ∀ b, b < 0 → a ≠ b → (TJ6 a).2.1 ≠ (TJ6 b).2.1 := by decide +kernel
theorem tyJ6_ok : ∀ k, k < 0 → parseFieldDescriptor (TJ6 k).2.2.1 = some (tyJ6 k) := by decide +kernel
abbrev cJ6_bitCount_0f7a4 : ByteArray := prog_14_method_49_code
abbrev yJ6_bitCount_0f7a4 : MethodName := ⟨RJ6, "bitCount", "(I)I"⟩
abbrev RJ9 : String := "java/lang/Math"
def TJ9 : u_T := fun k => match k with
  | _ => ("", "", "", false)
def tyJ9 : Nat → FieldType := fun k => match k with
  | _ => .int
theorem nmJ9 : ∀ a, a < 0 → ∀ b, b < 0 → a ≠ b → (TJ9 a).2.1 ≠ (TJ9 b).2.1 := by decide +kernel
theorem tyJ9_ok : ∀ k, k < 0 → parseFieldDescriptor (TJ9 k).2.2.1 = some (tyJ9 k) := by decide +kernel
abbrev cJ9_abs_0f7a4 : ByteArray := prog_15_method_59_code
abbrev yJ9_abs_0f7a4 : MethodName := ⟨RJ9, "abs", "(I)I"⟩
abbrev cJ9_max_7cf53 : ByteArray := prog_15_method_65_code
abbrev yJ9_max_7cf53 : MethodName := ⟨RJ9, "max", "(II)I"⟩
abbrev cJ9_min_7cf53 : ByteArray := prog_15_method_69_code
abbrev yJ9_min_7cf53 : MethodName := ⟨RJ9, "min", "(II)I"⟩
abbrev RJ0 : String := "java/lang/String"
def TJ0 : u_T := fun k => match k with
  | _ => ("", "", "", false)
def tyJ0 : Nat → FieldType := fun k => match k with
  | _ => .int
theorem nmJ0 : ∀ a, a < 0 → ∀ b, b < 0 → a ≠ b → (TJ0 a).2.1 ≠ (TJ0 b).2.1 := by decide +kernel
theorem tyJ0_ok : ∀ k, k < 0 → parseFieldDescriptor (TJ0 k).2.2.1 = some (tyJ0 k) := by decide +kernel
abbrev RJ10 : String := "java/lang/System"
def TJ10 : u_T := fun k => match k with
  | _ => ("", "", "", false)
def tyJ10 : Nat → FieldType := fun k => match k with
  | _ => .int
theorem nmJ10 : ∀ a, a < 0 → ∀ b, b < 0 → a ≠ b → (TJ10 a).2.1 ≠ (TJ10 b).2.1 := by decide +kernel
theorem tyJ10_ok : ∀ k, k < 0 → parseFieldDescriptor (TJ10 k).2.2.1 = some (tyJ10 k) := by decide +kernel
abbrev RJ7 : String := "java/util/Arrays"
def TJ7 : u_T := fun k => match k with
  | _ => ("", "", "", false)
def tyJ7 : Nat → FieldType := fun k => match k with
  | _ => .int
theorem nmJ7 : ∀ a, a < 0 → ∀ b, b < 0 → a ≠ b → (TJ7 a).2.1 ≠ (TJ7 b).2.1 := by decide +kernel
theorem tyJ7_ok : ∀ k, k < 0 → parseFieldDescriptor (TJ7 k).2.2.1 = some (tyJ7 k) := by decide +kernel
abbrev cJ7_fill_53178 : ByteArray := prog_20_method_103_code
abbrev yJ7_fill_53178 : MethodName := ⟨RJ7, "fill", "([II)V"⟩
abbrev RL : String := "RescueBenchLaw"
abbrev cL_make : ByteArray := method_3_code
abbrev yL_make : MethodName := ⟨RL, "make", "(LRescueBench;III[J)I"⟩
abbrev cL_edge : ByteArray := method_4_code
abbrev yL_edge : MethodName := ⟨RL, "edge", "(LRescueBench;IIIII[J)I"⟩
abbrev cL_goals : ByteArray := method_5_code
abbrev yL_goals : MethodName := ⟨RL, "goals", "(LRescueBench;II[J)I"⟩
abbrev cL_change : ByteArray := method_6_code
abbrev yL_change : MethodName := ⟨RL, "change", "(LRescueBench;IJ[J)I"⟩
abbrev cL_bytes : ByteArray := method_7_code
abbrev yL_bytes : MethodName := ⟨RL, "bytes", "(LRescueBench;I[J)I"⟩
abbrev cL_reach : ByteArray := method_8_code
abbrev yL_reach : MethodName := ⟨RL, "reach", "(LRescueBench;I[J)I"⟩
abbrev cL_push : ByteArray := method_9_code
abbrev yL_push : MethodName := ⟨RL, "push", "(LRescueBench;I[J)I"⟩
abbrev cL_write : ByteArray := method_10_code
abbrev yL_write : MethodName := ⟨RL, "write", "(LRescueBench;I[J)I"⟩
abbrev cL_file : ByteArray := method_11_code
abbrev yL_file : MethodName := ⟨RL, "file", "(LRescueBench;II[J)I"⟩
abbrev cL_data : ByteArray := method_12_code
abbrev yL_data : MethodName := ⟨RL, "data", "(LRescueBench;II[J)I"⟩
abbrev cL_torn : ByteArray := method_13_code
abbrev yL_torn : MethodName := ⟨RL, "torn", "(LRescueBench;I[J)I"⟩
abbrev cL_check : ByteArray := method_14_code
abbrev yL_check : MethodName := ⟨RL, "check", "(LRescueBench;I[J)I"⟩
abbrev cL_law : ByteArray := code
abbrev yL_law : MethodName := ⟨RL, "law", "([I)Z"⟩

abbrev vwCl : List vw_C := [(RX0, TX0, 11), (RX1, TX1, 2), (RX2, TX2, 4), (RX3, TX3, 2), (RX4, TX4, 6), (RX5, TX5, 13), (RX6, TX6, 9), (RX7, TX7, 34)]
theorem dX0_init_0 : decode cX0_init 0 = .ok (.aload_n 0, 1) := by decide +kernel
theorem dX0_init_1 : decode cX0_init 1 = .ok (.invokespecial 3, 3) := by decide +kernel
theorem dX0_init_4 : decode cX0_init 4 = .ok (.aload_n 0, 1) := by decide +kernel
theorem dX0_init_5 : decode cX0_init 5 = .ok (.aload_n 1, 1) := by decide +kernel
theorem dX0_init_6 : decode cX0_init 6 = .ok (.putfield 9, 3) := by decide +kernel
theorem dX0_init_9 : decode cX0_init 9 = .ok (.aload_n 0, 1) := by decide +kernel
theorem dX0_init_10 : decode cX0_init 10 = .ok (.iconst 0, 1) := by decide +kernel
theorem dX0_init_11 : decode cX0_init 11 = .ok (.putfield 15, 3) := by decide +kernel
theorem dX0_init_14 : decode cX0_init 14 = .ok (.aload_n 0, 1) := by decide +kernel
theorem dX0_init_15 : decode cX0_init 15 = .ok (.bipush 7, 2) := by decide +kernel
theorem dX0_init_17 : decode cX0_init 17 = .ok (.newarray .int, 2) := by decide +kernel
theorem dX0_init_19 : decode cX0_init 19 = .ok (.putfield 19, 3) := by decide +kernel
theorem dX0_init_22 : decode cX0_init 22 = .ok (.aload_n 0, 1) := by decide +kernel
theorem dX0_init_23 : decode cX0_init 23 = .ok (.bipush 40, 2) := by decide +kernel
theorem dX0_init_25 : decode cX0_init 25 = .ok (.newarray .int, 2) := by decide +kernel
theorem dX0_init_27 : decode cX0_init 27 = .ok (.putfield 23, 3) := by decide +kernel
theorem dX0_init_30 : decode cX0_init 30 = .ok (.aload_n 0, 1) := by decide +kernel
theorem dX0_init_31 : decode cX0_init 31 = .ok (.bipush 40, 2) := by decide +kernel
theorem dX0_init_33 : decode cX0_init 33 = .ok (.newarray .int, 2) := by decide +kernel
theorem dX0_init_35 : decode cX0_init 35 = .ok (.putfield 26, 3) := by decide +kernel
theorem dX0_init_38 : decode cX0_init 38 = .ok (.aload_n 0, 1) := by decide +kernel
theorem dX0_init_39 : decode cX0_init 39 = .ok (.bipush 7, 2) := by decide +kernel
theorem dX0_init_41 : decode cX0_init 41 = .ok (.newarray .int, 2) := by decide +kernel
theorem dX0_init_43 : decode cX0_init 43 = .ok (.putfield 29, 3) := by decide +kernel
theorem dX0_init_46 : decode cX0_init 46 = .ok (.aload_n 0, 1) := by decide +kernel
theorem dX0_init_47 : decode cX0_init 47 = .ok (.bipush 6, 2) := by decide +kernel
theorem dX0_init_49 : decode cX0_init 49 = .ok (.newarray .int, 2) := by decide +kernel
theorem dX0_init_51 : decode cX0_init 51 = .ok (.putfield 32, 3) := by decide +kernel
theorem dX0_init_54 : decode cX0_init 54 = .ok (.aload_n 0, 1) := by decide +kernel
theorem dX0_init_55 : decode cX0_init 55 = .ok (.bipush 6, 2) := by decide +kernel
theorem dX0_init_57 : decode cX0_init 57 = .ok (.newarray .int, 2) := by decide +kernel
theorem dX0_init_59 : decode cX0_init 59 = .ok (.putfield 35, 3) := by decide +kernel
theorem dX0_init_62 : decode cX0_init 62 = .ok (.aload_n 0, 1) := by decide +kernel
theorem dX0_init_63 : decode cX0_init 63 = .ok (.iconst 0, 1) := by decide +kernel
theorem dX0_init_64 : decode cX0_init 64 = .ok (.putfield 38, 3) := by decide +kernel
theorem dX0_init_67 : decode cX0_init 67 = .ok (.aload_n 0, 1) := by decide +kernel
theorem dX0_init_68 : decode cX0_init 68 = .ok (.iconst 0, 1) := by decide +kernel
theorem dX0_init_69 : decode cX0_init 69 = .ok (.putfield 41, 3) := by decide +kernel
theorem dX0_init_72 : decode cX0_init 72 = .ok (.aload_n 0, 1) := by decide +kernel
theorem dX0_init_73 : decode cX0_init 73 = .ok (.iconst 0, 1) := by decide +kernel
theorem dX0_init_74 : decode cX0_init 74 = .ok (.putfield 44, 3) := by decide +kernel
theorem dX0_init_77 : decode cX0_init 77 = .ok (.return_, 1) := by decide +kernel
theorem dX0_choose_0 : decode cX0_choose 0 = .ok (.aload_n 0, 1) := by decide +kernel
theorem dX0_choose_1 : decode cX0_choose 1 = .ok (.iconst 0, 1) := by decide +kernel
theorem dX0_choose_2 : decode cX0_choose 2 = .ok (.putfield 38, 3) := by decide +kernel
theorem dX0_choose_5 : decode cX0_choose 5 = .ok (.aload_n 0, 1) := by decide +kernel
theorem dX0_choose_6 : decode cX0_choose 6 = .ok (.iconst (-1), 1) := by decide +kernel
theorem dX0_choose_7 : decode cX0_choose 7 = .ok (.putfield 41, 3) := by decide +kernel
theorem dX0_choose_10 : decode cX0_choose 10 = .ok (.aload_n 0, 1) := by decide +kernel
theorem dX0_choose_11 : decode cX0_choose 11 = .ok (.iconst 0, 1) := by decide +kernel
theorem dX0_choose_12 : decode cX0_choose 12 = .ok (.putfield 44, 3) := by decide +kernel
theorem dX0_choose_15 : decode cX0_choose 15 = .ok (.aload_n 0, 1) := by decide +kernel
theorem dX0_choose_16 : decode cX0_choose 16 = .ok (.invokevirtual 47, 3) := by decide +kernel
theorem dX0_choose_19 : decode cX0_choose 19 = .ok (.aload_n 0, 1) := by decide +kernel
theorem dX0_choose_20 : decode cX0_choose 20 = .ok (.invokevirtual 50, 3) := by decide +kernel
theorem dX0_choose_23 : decode cX0_choose 23 = .ok (.ifCond .eq 15, 3) := by decide +kernel
theorem dX0_choose_26 : decode cX0_choose 26 = .ok (.aload_n 0, 1) := by decide +kernel
theorem dX0_choose_27 : decode cX0_choose 27 = .ok (.invokevirtual 54, 3) := by decide +kernel
theorem dX0_choose_30 : decode cX0_choose 30 = .ok (.aload_n 0, 1) := by decide +kernel
theorem dX0_choose_31 : decode cX0_choose 31 = .ok (.iconst 0, 1) := by decide +kernel
theorem dX0_choose_32 : decode cX0_choose 32 = .ok (.iconst 0, 1) := by decide +kernel
theorem dX0_choose_33 : decode cX0_choose 33 = .ok (.iconst 0, 1) := by decide +kernel
theorem dX0_choose_34 : decode cX0_choose 34 = .ok (.iconst 0, 1) := by decide +kernel
theorem dX0_choose_35 : decode cX0_choose 35 = .ok (.invokevirtual 57, 3) := by decide +kernel
theorem dX0_choose_38 : decode cX0_choose 38 = .ok (.return_, 1) := by decide +kernel
theorem dX0_isTold_0 : decode cX0_isTold 0 = .ok (.aload_n 0, 1) := by decide +kernel
theorem dX0_isTold_1 : decode cX0_isTold 1 = .ok (.getfield 15, 3) := by decide +kernel
theorem dX0_isTold_4 : decode cX0_isTold 4 = .ok (.bipush 6, 2) := by decide +kernel
theorem dX0_isTold_6 : decode cX0_isTold 6 = .ok (.if_icmp .gt 7, 3) := by decide +kernel
theorem dX0_isTold_9 : decode cX0_isTold 9 = .ok (.iconst 1, 1) := by decide +kernel
theorem dX0_isTold_10 : decode cX0_isTold 10 = .ok (.goto 4, 3) := by decide +kernel
theorem dX0_isTold_13 : decode cX0_isTold 13 = .ok (.iconst 0, 1) := by decide +kernel
theorem dX0_isTold_14 : decode cX0_isTold 14 = .ok (.ireturn, 1) := by decide +kernel
theorem dX0_findGroups_0 : decode cX0_findGroups 0 = .ok (.aload_n 0, 1) := by decide +kernel
theorem dX0_findGroups_1 : decode cX0_findGroups 1 = .ok (.iconst 0, 1) := by decide +kernel
theorem dX0_findGroups_2 : decode cX0_findGroups 2 = .ok (.putfield 15, 3) := by decide +kernel
theorem dX0_findGroups_5 : decode cX0_findGroups 5 = .ok (.aload_n 0, 1) := by decide +kernel
theorem dX0_findGroups_6 : decode cX0_findGroups 6 = .ok (.getfield 19, 3) := by decide +kernel
theorem dX0_findGroups_9 : decode cX0_findGroups 9 = .ok (.aload_n 0, 1) := by decide +kernel
theorem dX0_findGroups_10 : decode cX0_findGroups 10 = .ok (.getfield 9, 3) := by decide +kernel
theorem dX0_findGroups_13 : decode cX0_findGroups 13 = .ok (.invokevirtual 61, 3) := by decide +kernel
theorem dX0_findGroups_16 : decode cX0_findGroups 16 = .ok (.invokestatic 67, 3) := by decide +kernel
theorem dX0_findGroups_19 : decode cX0_findGroups 19 = .ok (.iconst 0, 1) := by decide +kernel
theorem dX0_findGroups_20 : decode cX0_findGroups 20 = .ok (.istore_n 1, 1) := by decide +kernel
theorem dX0_findGroups_21 : decode cX0_findGroups 21 = .ok (.iload_n 1, 1) := by decide +kernel
theorem dX0_findGroups_22 : decode cX0_findGroups 22 = .ok (.aload_n 0, 1) := by decide +kernel
theorem dX0_findGroups_23 : decode cX0_findGroups 23 = .ok (.getfield 9, 3) := by decide +kernel
theorem dX0_findGroups_26 : decode cX0_findGroups 26 = .ok (.invokevirtual 61, 3) := by decide +kernel
theorem dX0_findGroups_29 : decode cX0_findGroups 29 = .ok (.if_icmp .ge 65, 3) := by decide +kernel
theorem dX0_findGroups_32 : decode cX0_findGroups 32 = .ok (.iload_n 1, 1) := by decide +kernel
theorem dX0_findGroups_33 : decode cX0_findGroups 33 = .ok (.ifCond .eq 26, 3) := by decide +kernel
theorem dX0_findGroups_36 : decode cX0_findGroups 36 = .ok (.aload_n 0, 1) := by decide +kernel
theorem dX0_findGroups_37 : decode cX0_findGroups 37 = .ok (.getfield 9, 3) := by decide +kernel
theorem dX0_findGroups_40 : decode cX0_findGroups 40 = .ok (.iload_n 1, 1) := by decide +kernel
theorem dX0_findGroups_41 : decode cX0_findGroups 41 = .ok (.iconst 0, 1) := by decide +kernel
theorem dX0_findGroups_42 : decode cX0_findGroups 42 = .ok (.invokevirtual 73, 3) := by decide +kernel
theorem dX0_findGroups_45 : decode cX0_findGroups 45 = .ok (.aload_n 0, 1) := by decide +kernel
theorem dX0_findGroups_46 : decode cX0_findGroups 46 = .ok (.getfield 9, 3) := by decide +kernel
theorem dX0_findGroups_49 : decode cX0_findGroups 49 = .ok (.iload_n 1, 1) := by decide +kernel
theorem dX0_findGroups_50 : decode cX0_findGroups 50 = .ok (.iconst 1, 1) := by decide +kernel
theorem dX0_findGroups_51 : decode cX0_findGroups 51 = .ok (.isub, 1) := by decide +kernel
theorem dX0_findGroups_52 : decode cX0_findGroups 52 = .ok (.iconst 0, 1) := by decide +kernel
theorem dX0_findGroups_53 : decode cX0_findGroups 53 = .ok (.invokevirtual 73, 3) := by decide +kernel
theorem dX0_findGroups_56 : decode cX0_findGroups 56 = .ok (.if_icmp .eq 32, 3) := by decide +kernel
theorem dX0_findGroups_59 : decode cX0_findGroups 59 = .ok (.aload_n 0, 1) := by decide +kernel
theorem dX0_findGroups_60 : decode cX0_findGroups 60 = .ok (.getfield 15, 3) := by decide +kernel
theorem dX0_findGroups_63 : decode cX0_findGroups 63 = .ok (.bipush 6, 2) := by decide +kernel
theorem dX0_findGroups_65 : decode cX0_findGroups 65 = .ok (.if_icmp .ge 13, 3) := by decide +kernel
theorem dX0_findGroups_68 : decode cX0_findGroups 68 = .ok (.aload_n 0, 1) := by decide +kernel
theorem dX0_findGroups_69 : decode cX0_findGroups 69 = .ok (.getfield 19, 3) := by decide +kernel
theorem dX0_findGroups_72 : decode cX0_findGroups 72 = .ok (.aload_n 0, 1) := by decide +kernel
theorem dX0_findGroups_73 : decode cX0_findGroups 73 = .ok (.getfield 15, 3) := by decide +kernel
theorem dX0_findGroups_76 : decode cX0_findGroups 76 = .ok (.iload_n 1, 1) := by decide +kernel
theorem dX0_findGroups_77 : decode cX0_findGroups 77 = .ok (.iastore, 1) := by decide +kernel
theorem dX0_findGroups_78 : decode cX0_findGroups 78 = .ok (.aload_n 0, 1) := by decide +kernel
theorem dX0_findGroups_79 : decode cX0_findGroups 79 = .ok (.dup, 1) := by decide +kernel
theorem dX0_findGroups_80 : decode cX0_findGroups 80 = .ok (.getfield 15, 3) := by decide +kernel
theorem dX0_findGroups_83 : decode cX0_findGroups 83 = .ok (.iconst 1, 1) := by decide +kernel
theorem dX0_findGroups_84 : decode cX0_findGroups 84 = .ok (.iadd, 1) := by decide +kernel
theorem dX0_findGroups_85 : decode cX0_findGroups 85 = .ok (.putfield 15, 3) := by decide +kernel
theorem dX0_findGroups_88 : decode cX0_findGroups 88 = .ok (.iinc 1 1, 3) := by decide +kernel
theorem dX0_findGroups_91 : decode cX0_findGroups 91 = .ok (.goto (-70), 3) := by decide +kernel
theorem dX0_findGroups_94 : decode cX0_findGroups 94 = .ok (.return_, 1) := by decide +kernel
theorem dX0_weighFiles_0 : decode cX0_weighFiles 0 = .ok (.aload_n 0, 1) := by decide +kernel
theorem dX0_weighFiles_1 : decode cX0_weighFiles 1 = .ok (.getfield 29, 3) := by decide +kernel
theorem dX0_weighFiles_4 : decode cX0_weighFiles 4 = .ok (.iconst 0, 1) := by decide +kernel
theorem dX0_weighFiles_5 : decode cX0_weighFiles 5 = .ok (.invokestatic 67, 3) := by decide +kernel
theorem dX0_weighFiles_8 : decode cX0_weighFiles 8 = .ok (.aload_n 0, 1) := by decide +kernel
theorem dX0_weighFiles_9 : decode cX0_weighFiles 9 = .ok (.getfield 15, 3) := by decide +kernel
theorem dX0_weighFiles_12 : decode cX0_weighFiles 12 = .ok (.iconst 1, 1) := by decide +kernel
theorem dX0_weighFiles_13 : decode cX0_weighFiles 13 = .ok (.isub, 1) := by decide +kernel
theorem dX0_weighFiles_14 : decode cX0_weighFiles 14 = .ok (.istore_n 1, 1) := by decide +kernel
theorem dX0_weighFiles_15 : decode cX0_weighFiles 15 = .ok (.iload_n 1, 1) := by decide +kernel
theorem dX0_weighFiles_16 : decode cX0_weighFiles 16 = .ok (.ifCond .lt 108, 3) := by decide +kernel
theorem dX0_weighFiles_19 : decode cX0_weighFiles 19 = .ok (.iconst 0, 1) := by decide +kernel
theorem dX0_weighFiles_20 : decode cX0_weighFiles 20 = .ok (.istore_n 2, 1) := by decide +kernel
theorem dX0_weighFiles_21 : decode cX0_weighFiles 21 = .ok (.aload_n 0, 1) := by decide +kernel
theorem dX0_weighFiles_22 : decode cX0_weighFiles 22 = .ok (.getfield 19, 3) := by decide +kernel
theorem dX0_weighFiles_25 : decode cX0_weighFiles 25 = .ok (.iload_n 1, 1) := by decide +kernel
theorem dX0_weighFiles_26 : decode cX0_weighFiles 26 = .ok (.iaload, 1) := by decide +kernel
theorem dX0_weighFiles_27 : decode cX0_weighFiles 27 = .ok (.istore_n 3, 1) := by decide +kernel
theorem dX0_weighFiles_28 : decode cX0_weighFiles 28 = .ok (.iload_n 3, 1) := by decide +kernel
theorem dX0_weighFiles_29 : decode cX0_weighFiles 29 = .ok (.aload_n 0, 1) := by decide +kernel
theorem dX0_weighFiles_30 : decode cX0_weighFiles 30 = .ok (.getfield 19, 3) := by decide +kernel
theorem dX0_weighFiles_33 : decode cX0_weighFiles 33 = .ok (.iload_n 1, 1) := by decide +kernel
theorem dX0_weighFiles_34 : decode cX0_weighFiles 34 = .ok (.iconst 1, 1) := by decide +kernel
theorem dX0_weighFiles_35 : decode cX0_weighFiles 35 = .ok (.iadd, 1) := by decide +kernel
theorem dX0_weighFiles_36 : decode cX0_weighFiles 36 = .ok (.iaload, 1) := by decide +kernel
theorem dX0_weighFiles_37 : decode cX0_weighFiles 37 = .ok (.if_icmp .ge 65, 3) := by decide +kernel
theorem dX0_weighFiles_40 : decode cX0_weighFiles 40 = .ok (.aload_n 0, 1) := by decide +kernel
theorem dX0_weighFiles_41 : decode cX0_weighFiles 41 = .ok (.getfield 23, 3) := by decide +kernel
theorem dX0_weighFiles_44 : decode cX0_weighFiles 44 = .ok (.iload_n 3, 1) := by decide +kernel
theorem dX0_weighFiles_45 : decode cX0_weighFiles 45 = .ok (.aload_n 0, 1) := by decide +kernel
theorem dX0_weighFiles_46 : decode cX0_weighFiles 46 = .ok (.getfield 9, 3) := by decide +kernel
theorem dX0_weighFiles_49 : decode cX0_weighFiles 49 = .ok (.iload_n 3, 1) := by decide +kernel
theorem dX0_weighFiles_50 : decode cX0_weighFiles 50 = .ok (.invokevirtual 77, 3) := by decide +kernel
theorem dX0_weighFiles_53 : decode cX0_weighFiles 53 = .ok (.ldc 81, 2) := by decide +kernel
theorem dX0_weighFiles_55 : decode cX0_weighFiles 55 = .ok (.imul, 1) := by decide +kernel
theorem dX0_weighFiles_56 : decode cX0_weighFiles 56 = .ok (.aload_n 0, 1) := by decide +kernel
theorem dX0_weighFiles_57 : decode cX0_weighFiles 57 = .ok (.getfield 9, 3) := by decide +kernel
theorem dX0_weighFiles_60 : decode cX0_weighFiles 60 = .ok (.iload_n 3, 1) := by decide +kernel
theorem dX0_weighFiles_61 : decode cX0_weighFiles 61 = .ok (.invokevirtual 82, 3) := by decide +kernel
theorem dX0_weighFiles_64 : decode cX0_weighFiles 64 = .ok (.bipush 10, 2) := by decide +kernel
theorem dX0_weighFiles_66 : decode cX0_weighFiles 66 = .ok (.imul, 1) := by decide +kernel
theorem dX0_weighFiles_67 : decode cX0_weighFiles 67 = .ok (.isub, 1) := by decide +kernel
theorem dX0_weighFiles_68 : decode cX0_weighFiles 68 = .ok (.iconst 1, 1) := by decide +kernel
theorem dX0_weighFiles_69 : decode cX0_weighFiles 69 = .ok (.isub, 1) := by decide +kernel
theorem dX0_weighFiles_70 : decode cX0_weighFiles 70 = .ok (.iastore, 1) := by decide +kernel
theorem dX0_weighFiles_71 : decode cX0_weighFiles 71 = .ok (.aload_n 0, 1) := by decide +kernel
theorem dX0_weighFiles_72 : decode cX0_weighFiles 72 = .ok (.getfield 26, 3) := by decide +kernel
theorem dX0_weighFiles_75 : decode cX0_weighFiles 75 = .ok (.iload_n 3, 1) := by decide +kernel
theorem dX0_weighFiles_76 : decode cX0_weighFiles 76 = .ok (.aload_n 0, 1) := by decide +kernel
theorem dX0_weighFiles_77 : decode cX0_weighFiles 77 = .ok (.getfield 9, 3) := by decide +kernel
theorem dX0_weighFiles_80 : decode cX0_weighFiles 80 = .ok (.iload_n 3, 1) := by decide +kernel
theorem dX0_weighFiles_81 : decode cX0_weighFiles 81 = .ok (.invokevirtual 85, 3) := by decide +kernel
theorem dX0_weighFiles_84 : decode cX0_weighFiles 84 = .ok (.iastore, 1) := by decide +kernel
theorem dX0_weighFiles_85 : decode cX0_weighFiles 85 = .ok (.iload_n 2, 1) := by decide +kernel
theorem dX0_weighFiles_86 : decode cX0_weighFiles 86 = .ok (.aload_n 0, 1) := by decide +kernel
theorem dX0_weighFiles_87 : decode cX0_weighFiles 87 = .ok (.getfield 23, 3) := by decide +kernel
theorem dX0_weighFiles_90 : decode cX0_weighFiles 90 = .ok (.iload_n 3, 1) := by decide +kernel
theorem dX0_weighFiles_91 : decode cX0_weighFiles 91 = .ok (.iaload, 1) := by decide +kernel
theorem dX0_weighFiles_92 : decode cX0_weighFiles 92 = .ok (.invokestatic 88, 3) := by decide +kernel
theorem dX0_weighFiles_95 : decode cX0_weighFiles 95 = .ok (.istore_n 2, 1) := by decide +kernel
theorem dX0_weighFiles_96 : decode cX0_weighFiles 96 = .ok (.iinc 3 1, 3) := by decide +kernel
theorem dX0_weighFiles_99 : decode cX0_weighFiles 99 = .ok (.goto (-71), 3) := by decide +kernel
theorem dX0_weighFiles_102 : decode cX0_weighFiles 102 = .ok (.aload_n 0, 1) := by decide +kernel
theorem dX0_weighFiles_103 : decode cX0_weighFiles 103 = .ok (.getfield 29, 3) := by decide +kernel
theorem dX0_weighFiles_106 : decode cX0_weighFiles 106 = .ok (.iload_n 1, 1) := by decide +kernel
theorem dX0_weighFiles_107 : decode cX0_weighFiles 107 = .ok (.aload_n 0, 1) := by decide +kernel
theorem dX0_weighFiles_108 : decode cX0_weighFiles 108 = .ok (.getfield 29, 3) := by decide +kernel
theorem dX0_weighFiles_111 : decode cX0_weighFiles 111 = .ok (.iload_n 1, 1) := by decide +kernel
theorem dX0_weighFiles_112 : decode cX0_weighFiles 112 = .ok (.iconst 1, 1) := by decide +kernel
theorem dX0_weighFiles_113 : decode cX0_weighFiles 113 = .ok (.iadd, 1) := by decide +kernel
theorem dX0_weighFiles_114 : decode cX0_weighFiles 114 = .ok (.iaload, 1) := by decide +kernel
theorem dX0_weighFiles_115 : decode cX0_weighFiles 115 = .ok (.iload_n 2, 1) := by decide +kernel
theorem dX0_weighFiles_116 : decode cX0_weighFiles 116 = .ok (.iadd, 1) := by decide +kernel
theorem dX0_weighFiles_117 : decode cX0_weighFiles 117 = .ok (.iastore, 1) := by decide +kernel
theorem dX0_weighFiles_118 : decode cX0_weighFiles 118 = .ok (.iinc 1 (-1), 3) := by decide +kernel
theorem dX0_weighFiles_121 : decode cX0_weighFiles 121 = .ok (.goto (-106), 3) := by decide +kernel
theorem dX0_weighFiles_124 : decode cX0_weighFiles 124 = .ok (.return_, 1) := by decide +kernel
theorem dX0_tryGroup_0 : decode cX0_tryGroup 0 = .ok (.iload_n 1, 1) := by decide +kernel
theorem dX0_tryGroup_1 : decode cX0_tryGroup 1 = .ok (.aload_n 0, 1) := by decide +kernel
theorem dX0_tryGroup_2 : decode cX0_tryGroup 2 = .ok (.getfield 15, 3) := by decide +kernel
theorem dX0_tryGroup_5 : decode cX0_tryGroup 5 = .ok (.if_icmp .gt 25, 3) := by decide +kernel
theorem dX0_tryGroup_8 : decode cX0_tryGroup 8 = .ok (.iload_n 1, 1) := by decide +kernel
theorem dX0_tryGroup_9 : decode cX0_tryGroup 9 = .ok (.bipush 6, 2) := by decide +kernel
theorem dX0_tryGroup_11 : decode cX0_tryGroup 11 = .ok (.if_icmp .gt 19, 3) := by decide +kernel
theorem dX0_tryGroup_14 : decode cX0_tryGroup 14 = .ok (.iload 4, 2) := by decide +kernel
theorem dX0_tryGroup_16 : decode cX0_tryGroup 16 = .ok (.aload_n 0, 1) := by decide +kernel
theorem dX0_tryGroup_17 : decode cX0_tryGroup 17 = .ok (.getfield 29, 3) := by decide +kernel
theorem dX0_tryGroup_20 : decode cX0_tryGroup 20 = .ok (.iload_n 1, 1) := by decide +kernel
theorem dX0_tryGroup_21 : decode cX0_tryGroup 21 = .ok (.iaload, 1) := by decide +kernel
theorem dX0_tryGroup_22 : decode cX0_tryGroup 22 = .ok (.iadd, 1) := by decide +kernel
theorem dX0_tryGroup_23 : decode cX0_tryGroup 23 = .ok (.aload_n 0, 1) := by decide +kernel
theorem dX0_tryGroup_24 : decode cX0_tryGroup 24 = .ok (.getfield 41, 3) := by decide +kernel
theorem dX0_tryGroup_27 : decode cX0_tryGroup 27 = .ok (.if_icmp .gt 4, 3) := by decide +kernel
theorem dX0_tryGroup_30 : decode cX0_tryGroup 30 = .ok (.return_, 1) := by decide +kernel
theorem dX0_tryGroup_31 : decode cX0_tryGroup 31 = .ok (.iload_n 1, 1) := by decide +kernel
theorem dX0_tryGroup_32 : decode cX0_tryGroup 32 = .ok (.aload_n 0, 1) := by decide +kernel
theorem dX0_tryGroup_33 : decode cX0_tryGroup 33 = .ok (.getfield 15, 3) := by decide +kernel
theorem dX0_tryGroup_36 : decode cX0_tryGroup 36 = .ok (.if_icmp .ne 12, 3) := by decide +kernel
theorem dX0_tryGroup_39 : decode cX0_tryGroup 39 = .ok (.aload_n 0, 1) := by decide +kernel
theorem dX0_tryGroup_40 : decode cX0_tryGroup 40 = .ok (.iload_n 2, 1) := by decide +kernel
theorem dX0_tryGroup_41 : decode cX0_tryGroup 41 = .ok (.iload_n 3, 1) := by decide +kernel
theorem dX0_tryGroup_42 : decode cX0_tryGroup 42 = .ok (.iload 4, 2) := by decide +kernel
theorem dX0_tryGroup_44 : decode cX0_tryGroup 44 = .ok (.invokevirtual 93, 3) := by decide +kernel
theorem dX0_tryGroup_47 : decode cX0_tryGroup 47 = .ok (.return_, 1) := by decide +kernel
theorem dX0_tryGroup_48 : decode cX0_tryGroup 48 = .ok (.aload_n 0, 1) := by decide +kernel
theorem dX0_tryGroup_49 : decode cX0_tryGroup 49 = .ok (.getfield 19, 3) := by decide +kernel
theorem dX0_tryGroup_52 : decode cX0_tryGroup 52 = .ok (.iload_n 1, 1) := by decide +kernel
theorem dX0_tryGroup_53 : decode cX0_tryGroup 53 = .ok (.iaload, 1) := by decide +kernel
theorem dX0_tryGroup_54 : decode cX0_tryGroup 54 = .ok (.istore 5, 2) := by decide +kernel
theorem dX0_tryGroup_56 : decode cX0_tryGroup 56 = .ok (.iload 5, 2) := by decide +kernel
theorem dX0_tryGroup_58 : decode cX0_tryGroup 58 = .ok (.aload_n 0, 1) := by decide +kernel
theorem dX0_tryGroup_59 : decode cX0_tryGroup 59 = .ok (.getfield 19, 3) := by decide +kernel
theorem dX0_tryGroup_62 : decode cX0_tryGroup 62 = .ok (.iload_n 1, 1) := by decide +kernel
theorem dX0_tryGroup_63 : decode cX0_tryGroup 63 = .ok (.iconst 1, 1) := by decide +kernel
theorem dX0_tryGroup_64 : decode cX0_tryGroup 64 = .ok (.iadd, 1) := by decide +kernel
theorem dX0_tryGroup_65 : decode cX0_tryGroup 65 = .ok (.iaload, 1) := by decide +kernel
theorem dX0_tryGroup_66 : decode cX0_tryGroup 66 = .ok (.if_icmp .ge 58, 3) := by decide +kernel
theorem dX0_tryGroup_69 : decode cX0_tryGroup 69 = .ok (.aload_n 0, 1) := by decide +kernel
theorem dX0_tryGroup_70 : decode cX0_tryGroup 70 = .ok (.getfield 26, 3) := by decide +kernel
theorem dX0_tryGroup_73 : decode cX0_tryGroup 73 = .ok (.iload 5, 2) := by decide +kernel
theorem dX0_tryGroup_75 : decode cX0_tryGroup 75 = .ok (.iaload, 1) := by decide +kernel
theorem dX0_tryGroup_76 : decode cX0_tryGroup 76 = .ok (.iload_n 3, 1) := by decide +kernel
theorem dX0_tryGroup_77 : decode cX0_tryGroup 77 = .ok (.iand, 1) := by decide +kernel
theorem dX0_tryGroup_78 : decode cX0_tryGroup 78 = .ok (.ifCond .ne 40, 3) := by decide +kernel
theorem dX0_tryGroup_81 : decode cX0_tryGroup 81 = .ok (.aload_n 0, 1) := by decide +kernel
theorem dX0_tryGroup_82 : decode cX0_tryGroup 82 = .ok (.getfield 32, 3) := by decide +kernel
theorem dX0_tryGroup_85 : decode cX0_tryGroup 85 = .ok (.iload_n 2, 1) := by decide +kernel
theorem dX0_tryGroup_86 : decode cX0_tryGroup 86 = .ok (.iload 5, 2) := by decide +kernel
theorem dX0_tryGroup_88 : decode cX0_tryGroup 88 = .ok (.iastore, 1) := by decide +kernel
theorem dX0_tryGroup_89 : decode cX0_tryGroup 89 = .ok (.aload_n 0, 1) := by decide +kernel
theorem dX0_tryGroup_90 : decode cX0_tryGroup 90 = .ok (.iload_n 1, 1) := by decide +kernel
theorem dX0_tryGroup_91 : decode cX0_tryGroup 91 = .ok (.iconst 1, 1) := by decide +kernel
theorem dX0_tryGroup_92 : decode cX0_tryGroup 92 = .ok (.iadd, 1) := by decide +kernel
theorem dX0_tryGroup_93 : decode cX0_tryGroup 93 = .ok (.iload_n 2, 1) := by decide +kernel
theorem dX0_tryGroup_94 : decode cX0_tryGroup 94 = .ok (.iconst 1, 1) := by decide +kernel
theorem dX0_tryGroup_95 : decode cX0_tryGroup 95 = .ok (.iadd, 1) := by decide +kernel
theorem dX0_tryGroup_96 : decode cX0_tryGroup 96 = .ok (.iload_n 3, 1) := by decide +kernel
theorem dX0_tryGroup_97 : decode cX0_tryGroup 97 = .ok (.aload_n 0, 1) := by decide +kernel
theorem dX0_tryGroup_98 : decode cX0_tryGroup 98 = .ok (.getfield 26, 3) := by decide +kernel
theorem dX0_tryGroup_101 : decode cX0_tryGroup 101 = .ok (.iload 5, 2) := by decide +kernel
theorem dX0_tryGroup_103 : decode cX0_tryGroup 103 = .ok (.iaload, 1) := by decide +kernel
theorem dX0_tryGroup_104 : decode cX0_tryGroup 104 = .ok (.ior, 1) := by decide +kernel
theorem dX0_tryGroup_105 : decode cX0_tryGroup 105 = .ok (.iload 4, 2) := by decide +kernel
theorem dX0_tryGroup_107 : decode cX0_tryGroup 107 = .ok (.aload_n 0, 1) := by decide +kernel
theorem dX0_tryGroup_108 : decode cX0_tryGroup 108 = .ok (.getfield 23, 3) := by decide +kernel
theorem dX0_tryGroup_111 : decode cX0_tryGroup 111 = .ok (.iload 5, 2) := by decide +kernel
theorem dX0_tryGroup_113 : decode cX0_tryGroup 113 = .ok (.iaload, 1) := by decide +kernel
theorem dX0_tryGroup_114 : decode cX0_tryGroup 114 = .ok (.iadd, 1) := by decide +kernel
theorem dX0_tryGroup_115 : decode cX0_tryGroup 115 = .ok (.invokevirtual 57, 3) := by decide +kernel
theorem dX0_tryGroup_118 : decode cX0_tryGroup 118 = .ok (.iinc 5 1, 3) := by decide +kernel
theorem dX0_tryGroup_121 : decode cX0_tryGroup 121 = .ok (.goto (-65), 3) := by decide +kernel
theorem dX0_tryGroup_124 : decode cX0_tryGroup 124 = .ok (.aload_n 0, 1) := by decide +kernel
theorem dX0_tryGroup_125 : decode cX0_tryGroup 125 = .ok (.iload_n 1, 1) := by decide +kernel
theorem dX0_tryGroup_126 : decode cX0_tryGroup 126 = .ok (.iconst 1, 1) := by decide +kernel
theorem dX0_tryGroup_127 : decode cX0_tryGroup 127 = .ok (.iadd, 1) := by decide +kernel
theorem dX0_tryGroup_128 : decode cX0_tryGroup 128 = .ok (.iload_n 2, 1) := by decide +kernel
theorem dX0_tryGroup_129 : decode cX0_tryGroup 129 = .ok (.iload_n 3, 1) := by decide +kernel
theorem dX0_tryGroup_130 : decode cX0_tryGroup 130 = .ok (.iload 4, 2) := by decide +kernel
theorem dX0_tryGroup_132 : decode cX0_tryGroup 132 = .ok (.invokevirtual 57, 3) := by decide +kernel
theorem dX0_tryGroup_135 : decode cX0_tryGroup 135 = .ok (.return_, 1) := by decide +kernel
theorem dX0_keepTried_0 : decode cX0_keepTried 0 = .ok (.aload_n 0, 1) := by decide +kernel
theorem dX0_keepTried_1 : decode cX0_keepTried 1 = .ok (.getfield 32, 3) := by decide +kernel
theorem dX0_keepTried_4 : decode cX0_keepTried 4 = .ok (.iconst 0, 1) := by decide +kernel
theorem dX0_keepTried_5 : decode cX0_keepTried 5 = .ok (.aload_n 0, 1) := by decide +kernel
theorem dX0_keepTried_6 : decode cX0_keepTried 6 = .ok (.getfield 35, 3) := by decide +kernel
theorem dX0_keepTried_9 : decode cX0_keepTried 9 = .ok (.iconst 0, 1) := by decide +kernel
theorem dX0_keepTried_10 : decode cX0_keepTried 10 = .ok (.bipush 6, 2) := by decide +kernel
theorem dX0_keepTried_12 : decode cX0_keepTried 12 = .ok (.invokestatic 97, 3) := by decide +kernel
theorem dX0_keepTried_15 : decode cX0_keepTried 15 = .ok (.aload_n 0, 1) := by decide +kernel
theorem dX0_keepTried_16 : decode cX0_keepTried 16 = .ok (.iload_n 1, 1) := by decide +kernel
theorem dX0_keepTried_17 : decode cX0_keepTried 17 = .ok (.putfield 38, 3) := by decide +kernel
theorem dX0_keepTried_20 : decode cX0_keepTried 20 = .ok (.aload_n 0, 1) := by decide +kernel
theorem dX0_keepTried_21 : decode cX0_keepTried 21 = .ok (.iload_n 3, 1) := by decide +kernel
theorem dX0_keepTried_22 : decode cX0_keepTried 22 = .ok (.putfield 41, 3) := by decide +kernel
theorem dX0_keepTried_25 : decode cX0_keepTried 25 = .ok (.aload_n 0, 1) := by decide +kernel
theorem dX0_keepTried_26 : decode cX0_keepTried 26 = .ok (.iload_n 2, 1) := by decide +kernel
theorem dX0_keepTried_27 : decode cX0_keepTried 27 = .ok (.putfield 44, 3) := by decide +kernel
theorem dX0_keepTried_30 : decode cX0_keepTried 30 = .ok (.return_, 1) := by decide +kernel
theorem dX0_blocksInAll_0 : decode cX0_blocksInAll 0 = .ok (.aload_n 0, 1) := by decide +kernel
theorem dX0_blocksInAll_1 : decode cX0_blocksInAll 1 = .ok (.getfield 44, 3) := by decide +kernel
theorem dX0_blocksInAll_4 : decode cX0_blocksInAll 4 = .ok (.invokestatic 103, 3) := by decide +kernel
theorem dX0_blocksInAll_7 : decode cX0_blocksInAll 7 = .ok (.ireturn, 1) := by decide +kernel
theorem dX0_costInAll_0 : decode cX0_costInAll 0 = .ok (.iconst 0, 1) := by decide +kernel
theorem dX0_costInAll_1 : decode cX0_costInAll 1 = .ok (.istore_n 1, 1) := by decide +kernel
theorem dX0_costInAll_2 : decode cX0_costInAll 2 = .ok (.iconst 0, 1) := by decide +kernel
theorem dX0_costInAll_3 : decode cX0_costInAll 3 = .ok (.istore_n 2, 1) := by decide +kernel
theorem dX0_costInAll_4 : decode cX0_costInAll 4 = .ok (.iload_n 2, 1) := by decide +kernel
theorem dX0_costInAll_5 : decode cX0_costInAll 5 = .ok (.aload_n 0, 1) := by decide +kernel
theorem dX0_costInAll_6 : decode cX0_costInAll 6 = .ok (.getfield 38, 3) := by decide +kernel
theorem dX0_costInAll_9 : decode cX0_costInAll 9 = .ok (.if_icmp .ge 25, 3) := by decide +kernel
theorem dX0_costInAll_12 : decode cX0_costInAll 12 = .ok (.iload_n 1, 1) := by decide +kernel
theorem dX0_costInAll_13 : decode cX0_costInAll 13 = .ok (.aload_n 0, 1) := by decide +kernel
theorem dX0_costInAll_14 : decode cX0_costInAll 14 = .ok (.getfield 9, 3) := by decide +kernel
theorem dX0_costInAll_17 : decode cX0_costInAll 17 = .ok (.aload_n 0, 1) := by decide +kernel
theorem dX0_costInAll_18 : decode cX0_costInAll 18 = .ok (.getfield 35, 3) := by decide +kernel
theorem dX0_costInAll_21 : decode cX0_costInAll 21 = .ok (.iload_n 2, 1) := by decide +kernel
theorem dX0_costInAll_22 : decode cX0_costInAll 22 = .ok (.iaload, 1) := by decide +kernel
theorem dX0_costInAll_23 : decode cX0_costInAll 23 = .ok (.invokevirtual 82, 3) := by decide +kernel
theorem dX0_costInAll_26 : decode cX0_costInAll 26 = .ok (.iadd, 1) := by decide +kernel
theorem dX0_costInAll_27 : decode cX0_costInAll 27 = .ok (.istore_n 1, 1) := by decide +kernel
theorem dX0_costInAll_28 : decode cX0_costInAll 28 = .ok (.iinc 2 1, 3) := by decide +kernel
theorem dX0_costInAll_31 : decode cX0_costInAll 31 = .ok (.goto (-27), 3) := by decide +kernel
theorem dX0_costInAll_34 : decode cX0_costInAll 34 = .ok (.iload_n 1, 1) := by decide +kernel
theorem dX0_costInAll_35 : decode cX0_costInAll 35 = .ok (.ireturn, 1) := by decide +kernel
theorem dX0_fileAt_0 : decode cX0_fileAt 0 = .ok (.iload_n 1, 1) := by decide +kernel
theorem dX0_fileAt_1 : decode cX0_fileAt 1 = .ok (.ifCond .lt 20, 3) := by decide +kernel
theorem dX0_fileAt_4 : decode cX0_fileAt 4 = .ok (.iload_n 1, 1) := by decide +kernel
theorem dX0_fileAt_5 : decode cX0_fileAt 5 = .ok (.aload_n 0, 1) := by decide +kernel
theorem dX0_fileAt_6 : decode cX0_fileAt 6 = .ok (.getfield 38, 3) := by decide +kernel
theorem dX0_fileAt_9 : decode cX0_fileAt 9 = .ok (.if_icmp .ge 12, 3) := by decide +kernel
theorem dX0_fileAt_12 : decode cX0_fileAt 12 = .ok (.aload_n 0, 1) := by decide +kernel
theorem dX0_fileAt_13 : decode cX0_fileAt 13 = .ok (.getfield 35, 3) := by decide +kernel
theorem dX0_fileAt_16 : decode cX0_fileAt 16 = .ok (.iload_n 1, 1) := by decide +kernel
theorem dX0_fileAt_17 : decode cX0_fileAt 17 = .ok (.iaload, 1) := by decide +kernel
theorem dX0_fileAt_18 : decode cX0_fileAt 18 = .ok (.goto 4, 3) := by decide +kernel
theorem dX0_fileAt_21 : decode cX0_fileAt 21 = .ok (.iconst (-1), 1) := by decide +kernel
theorem dX0_fileAt_22 : decode cX0_fileAt 22 = .ok (.ireturn, 1) := by decide +kernel
theorem dX0_freeBlockAt_0 : decode cX0_freeBlockAt 0 = .ok (.iload_n 1, 1) := by decide +kernel
theorem dX0_freeBlockAt_1 : decode cX0_freeBlockAt 1 = .ok (.istore_n 2, 1) := by decide +kernel
theorem dX0_freeBlockAt_2 : decode cX0_freeBlockAt 2 = .ok (.iconst 0, 1) := by decide +kernel
theorem dX0_freeBlockAt_3 : decode cX0_freeBlockAt 3 = .ok (.istore_n 3, 1) := by decide +kernel
theorem dX0_freeBlockAt_4 : decode cX0_freeBlockAt 4 = .ok (.iload_n 3, 1) := by decide +kernel
theorem dX0_freeBlockAt_5 : decode cX0_freeBlockAt 5 = .ok (.aload_n 0, 1) := by decide +kernel
theorem dX0_freeBlockAt_6 : decode cX0_freeBlockAt 6 = .ok (.getfield 9, 3) := by decide +kernel
theorem dX0_freeBlockAt_9 : decode cX0_freeBlockAt 9 = .ok (.invokevirtual 108, 3) := by decide +kernel
theorem dX0_freeBlockAt_12 : decode cX0_freeBlockAt 12 = .ok (.if_icmp .ge 29, 3) := by decide +kernel
theorem dX0_freeBlockAt_15 : decode cX0_freeBlockAt 15 = .ok (.aload_n 0, 1) := by decide +kernel
theorem dX0_freeBlockAt_16 : decode cX0_freeBlockAt 16 = .ok (.getfield 44, 3) := by decide +kernel
theorem dX0_freeBlockAt_19 : decode cX0_freeBlockAt 19 = .ok (.iload_n 3, 1) := by decide +kernel
theorem dX0_freeBlockAt_20 : decode cX0_freeBlockAt 20 = .ok (.iushr, 1) := by decide +kernel
theorem dX0_freeBlockAt_21 : decode cX0_freeBlockAt 21 = .ok (.iconst 1, 1) := by decide +kernel
theorem dX0_freeBlockAt_22 : decode cX0_freeBlockAt 22 = .ok (.iand, 1) := by decide +kernel
theorem dX0_freeBlockAt_23 : decode cX0_freeBlockAt 23 = .ok (.ifCond .ne 12, 3) := by decide +kernel
theorem dX0_freeBlockAt_26 : decode cX0_freeBlockAt 26 = .ok (.iload_n 2, 1) := by decide +kernel
theorem dX0_freeBlockAt_27 : decode cX0_freeBlockAt 27 = .ok (.ifCond .ne 5, 3) := by decide +kernel
theorem dX0_freeBlockAt_30 : decode cX0_freeBlockAt 30 = .ok (.iload_n 3, 1) := by decide +kernel
theorem dX0_freeBlockAt_31 : decode cX0_freeBlockAt 31 = .ok (.ireturn, 1) := by decide +kernel
theorem dX0_freeBlockAt_32 : decode cX0_freeBlockAt 32 = .ok (.iinc 2 (-1), 3) := by decide +kernel
theorem dX0_freeBlockAt_35 : decode cX0_freeBlockAt 35 = .ok (.iinc 3 1, 3) := by decide +kernel
theorem dX0_freeBlockAt_38 : decode cX0_freeBlockAt 38 = .ok (.goto (-34), 3) := by decide +kernel
theorem dX0_freeBlockAt_41 : decode cX0_freeBlockAt 41 = .ok (.iconst (-1), 1) := by decide +kernel
theorem dX0_freeBlockAt_42 : decode cX0_freeBlockAt 42 = .ok (.ireturn, 1) := by decide +kernel
theorem dX1_init_0 : decode cX1_init 0 = .ok (.aload_n 0, 1) := by decide +kernel
theorem dX1_init_1 : decode cX1_init 1 = .ok (.invokespecial 3, 3) := by decide +kernel
theorem dX1_init_4 : decode cX1_init 4 = .ok (.aload_n 0, 1) := by decide +kernel
theorem dX1_init_5 : decode cX1_init 5 = .ok (.bipush 24, 2) := by decide +kernel
theorem dX1_init_7 : decode cX1_init 7 = .ok (.newarray .long, 2) := by decide +kernel
theorem dX1_init_9 : decode cX1_init 9 = .ok (.putfield 9, 3) := by decide +kernel
theorem dX1_init_12 : decode cX1_init 12 = .ok (.aload_n 0, 1) := by decide +kernel
theorem dX1_init_13 : decode cX1_init 13 = .ok (.iconst 0, 1) := by decide +kernel
theorem dX1_init_14 : decode cX1_init 14 = .ok (.putfield 15, 3) := by decide +kernel
theorem dX1_init_17 : decode cX1_init 17 = .ok (.return_, 1) := by decide +kernel
theorem dX1_size_0 : decode cX1_size 0 = .ok (.aload_n 0, 1) := by decide +kernel
theorem dX1_size_1 : decode cX1_size 1 = .ok (.getfield 15, 3) := by decide +kernel
theorem dX1_size_4 : decode cX1_size 4 = .ok (.ireturn, 1) := by decide +kernel
theorem dX1_add_0 : decode cX1_add 0 = .ok (.aload_n 0, 1) := by decide +kernel
theorem dX1_add_1 : decode cX1_add 1 = .ok (.getfield 15, 3) := by decide +kernel
theorem dX1_add_4 : decode cX1_add 4 = .ok (.bipush 24, 2) := by decide +kernel
theorem dX1_add_6 : decode cX1_add 6 = .ok (.if_icmp .lt 5, 3) := by decide +kernel
theorem dX1_add_9 : decode cX1_add 9 = .ok (.iconst (-1), 1) := by decide +kernel
theorem dX1_add_10 : decode cX1_add 10 = .ok (.ireturn, 1) := by decide +kernel
theorem dX1_add_11 : decode cX1_add 11 = .ok (.aload_n 0, 1) := by decide +kernel
theorem dX1_add_12 : decode cX1_add 12 = .ok (.getfield 9, 3) := by decide +kernel
theorem dX1_add_15 : decode cX1_add 15 = .ok (.aload_n 0, 1) := by decide +kernel
theorem dX1_add_16 : decode cX1_add 16 = .ok (.getfield 15, 3) := by decide +kernel
theorem dX1_add_19 : decode cX1_add 19 = .ok (.lload_n 1, 1) := by decide +kernel
theorem dX1_add_20 : decode cX1_add 20 = .ok (.lastore, 1) := by decide +kernel
theorem dX1_add_21 : decode cX1_add 21 = .ok (.aload_n 0, 1) := by decide +kernel
theorem dX1_add_22 : decode cX1_add 22 = .ok (.dup, 1) := by decide +kernel
theorem dX1_add_23 : decode cX1_add 23 = .ok (.getfield 15, 3) := by decide +kernel
theorem dX1_add_26 : decode cX1_add 26 = .ok (.iconst 1, 1) := by decide +kernel
theorem dX1_add_27 : decode cX1_add 27 = .ok (.iadd, 1) := by decide +kernel
theorem dX1_add_28 : decode cX1_add 28 = .ok (.putfield 15, 3) := by decide +kernel
theorem dX1_add_31 : decode cX1_add 31 = .ok (.aload_n 0, 1) := by decide +kernel
theorem dX1_add_32 : decode cX1_add 32 = .ok (.getfield 15, 3) := by decide +kernel
theorem dX1_add_35 : decode cX1_add 35 = .ok (.iconst 1, 1) := by decide +kernel
theorem dX1_add_36 : decode cX1_add 36 = .ok (.isub, 1) := by decide +kernel
theorem dX1_add_37 : decode cX1_add 37 = .ok (.ireturn, 1) := by decide +kernel
theorem dX1_allOf_0 : decode cX1_allOf 0 = .ok (.iload_n 1, 1) := by decide +kernel
theorem dX1_allOf_1 : decode cX1_allOf 1 = .ok (.ifCond .lt 20, 3) := by decide +kernel
theorem dX1_allOf_4 : decode cX1_allOf 4 = .ok (.iload_n 1, 1) := by decide +kernel
theorem dX1_allOf_5 : decode cX1_allOf 5 = .ok (.aload_n 0, 1) := by decide +kernel
theorem dX1_allOf_6 : decode cX1_allOf 6 = .ok (.getfield 15, 3) := by decide +kernel
theorem dX1_allOf_9 : decode cX1_allOf 9 = .ok (.if_icmp .ge 12, 3) := by decide +kernel
theorem dX1_allOf_12 : decode cX1_allOf 12 = .ok (.aload_n 0, 1) := by decide +kernel
theorem dX1_allOf_13 : decode cX1_allOf 13 = .ok (.getfield 9, 3) := by decide +kernel
theorem dX1_allOf_16 : decode cX1_allOf 16 = .ok (.iload_n 1, 1) := by decide +kernel
theorem dX1_allOf_17 : decode cX1_allOf 17 = .ok (.laload, 1) := by decide +kernel
theorem dX1_allOf_18 : decode cX1_allOf 18 = .ok (.goto 4, 3) := by decide +kernel
theorem dX1_allOf_21 : decode cX1_allOf 21 = .ok (.lconst 0, 1) := by decide +kernel
theorem dX1_allOf_22 : decode cX1_allOf 22 = .ok (.lreturn, 1) := by decide +kernel
theorem dX1_exchange_0 : decode cX1_exchange 0 = .ok (.aload_n 0, 1) := by decide +kernel
theorem dX1_exchange_1 : decode cX1_exchange 1 = .ok (.iload_n 1, 1) := by decide +kernel
theorem dX1_exchange_2 : decode cX1_exchange 2 = .ok (.invokevirtual 19, 3) := by decide +kernel
theorem dX1_exchange_5 : decode cX1_exchange 5 = .ok (.lstore 4, 2) := by decide +kernel
theorem dX1_exchange_7 : decode cX1_exchange 7 = .ok (.iload_n 1, 1) := by decide +kernel
theorem dX1_exchange_8 : decode cX1_exchange 8 = .ok (.ifCond .lt 18, 3) := by decide +kernel
theorem dX1_exchange_11 : decode cX1_exchange 11 = .ok (.iload_n 1, 1) := by decide +kernel
theorem dX1_exchange_12 : decode cX1_exchange 12 = .ok (.aload_n 0, 1) := by decide +kernel
theorem dX1_exchange_13 : decode cX1_exchange 13 = .ok (.getfield 15, 3) := by decide +kernel
theorem dX1_exchange_16 : decode cX1_exchange 16 = .ok (.if_icmp .ge 10, 3) := by decide +kernel
theorem dX1_exchange_19 : decode cX1_exchange 19 = .ok (.aload_n 0, 1) := by decide +kernel
theorem dX1_exchange_20 : decode cX1_exchange 20 = .ok (.getfield 9, 3) := by decide +kernel
theorem dX1_exchange_23 : decode cX1_exchange 23 = .ok (.iload_n 1, 1) := by decide +kernel
theorem dX1_exchange_24 : decode cX1_exchange 24 = .ok (.lload_n 2, 1) := by decide +kernel
theorem dX1_exchange_25 : decode cX1_exchange 25 = .ok (.lastore, 1) := by decide +kernel
theorem dX1_exchange_26 : decode cX1_exchange 26 = .ok (.lload 4, 2) := by decide +kernel
theorem dX1_exchange_28 : decode cX1_exchange 28 = .ok (.lreturn, 1) := by decide +kernel
theorem dX1_byteAt_0 : decode cX1_byteAt 0 = .ok (.aload_n 0, 1) := by decide +kernel
theorem dX1_byteAt_1 : decode cX1_byteAt 1 = .ok (.iload_n 1, 1) := by decide +kernel
theorem dX1_byteAt_2 : decode cX1_byteAt 2 = .ok (.invokevirtual 19, 3) := by decide +kernel
theorem dX1_byteAt_5 : decode cX1_byteAt 5 = .ok (.iload_n 2, 1) := by decide +kernel
theorem dX1_byteAt_6 : decode cX1_byteAt 6 = .ok (.invokestatic 23, 3) := by decide +kernel
theorem dX1_byteAt_9 : decode cX1_byteAt 9 = .ok (.ireturn, 1) := by decide +kernel
theorem dX1_becomeLike_0 : decode cX1_becomeLike 0 = .ok (.aload_n 1, 1) := by decide +kernel
theorem dX1_becomeLike_1 : decode cX1_becomeLike 1 = .ok (.getfield 9, 3) := by decide +kernel
theorem dX1_becomeLike_4 : decode cX1_becomeLike 4 = .ok (.iconst 0, 1) := by decide +kernel
theorem dX1_becomeLike_5 : decode cX1_becomeLike 5 = .ok (.aload_n 0, 1) := by decide +kernel
theorem dX1_becomeLike_6 : decode cX1_becomeLike 6 = .ok (.getfield 9, 3) := by decide +kernel
theorem dX1_becomeLike_9 : decode cX1_becomeLike 9 = .ok (.iconst 0, 1) := by decide +kernel
theorem dX1_becomeLike_10 : decode cX1_becomeLike 10 = .ok (.bipush 24, 2) := by decide +kernel
theorem dX1_becomeLike_12 : decode cX1_becomeLike 12 = .ok (.invokestatic 27, 3) := by decide +kernel
theorem dX1_becomeLike_15 : decode cX1_becomeLike 15 = .ok (.aload_n 0, 1) := by decide +kernel
theorem dX1_becomeLike_16 : decode cX1_becomeLike 16 = .ok (.aload_n 1, 1) := by decide +kernel
theorem dX1_becomeLike_17 : decode cX1_becomeLike 17 = .ok (.getfield 15, 3) := by decide +kernel
theorem dX1_becomeLike_20 : decode cX1_becomeLike 20 = .ok (.putfield 15, 3) := by decide +kernel
theorem dX1_becomeLike_23 : decode cX1_becomeLike 23 = .ok (.return_, 1) := by decide +kernel
theorem dX2_init_0 : decode cX2_init 0 = .ok (.aload_n 0, 1) := by decide +kernel
theorem dX2_init_1 : decode cX2_init 1 = .ok (.invokespecial 3, 3) := by decide +kernel
theorem dX2_init_4 : decode cX2_init 4 = .ok (.aload_n 0, 1) := by decide +kernel
theorem dX2_init_5 : decode cX2_init 5 = .ok (.new 9, 3) := by decide +kernel
theorem dX2_init_8 : decode cX2_init 8 = .ok (.dup, 1) := by decide +kernel
theorem dX2_init_9 : decode cX2_init 9 = .ok (.invokespecial 11, 3) := by decide +kernel
theorem dX2_init_12 : decode cX2_init 12 = .ok (.putfield 12, 3) := by decide +kernel
theorem dX2_init_15 : decode cX2_init 15 = .ok (.aload_n 0, 1) := by decide +kernel
theorem dX2_init_16 : decode cX2_init 16 = .ok (.bipush 40, 2) := by decide +kernel
theorem dX2_init_18 : decode cX2_init 18 = .ok (.newarray .int, 2) := by decide +kernel
theorem dX2_init_20 : decode cX2_init 20 = .ok (.putfield 18, 3) := by decide +kernel
theorem dX2_init_23 : decode cX2_init 23 = .ok (.aload_n 0, 1) := by decide +kernel
theorem dX2_init_24 : decode cX2_init 24 = .ok (.iconst 0, 1) := by decide +kernel
theorem dX2_init_25 : decode cX2_init 25 = .ok (.putfield 22, 3) := by decide +kernel
theorem dX2_init_28 : decode cX2_init 28 = .ok (.aload_n 0, 1) := by decide +kernel
theorem dX2_init_29 : decode cX2_init 29 = .ok (.iconst 0, 1) := by decide +kernel
theorem dX2_init_30 : decode cX2_init 30 = .ok (.putfield 26, 3) := by decide +kernel
theorem dX2_init_33 : decode cX2_init 33 = .ok (.return_, 1) := by decide +kernel
theorem dX2_begin_0 : decode cX2_begin 0 = .ok (.aload_n 0, 1) := by decide +kernel
theorem dX2_begin_1 : decode cX2_begin 1 = .ok (.getfield 12, 3) := by decide +kernel
theorem dX2_begin_4 : decode cX2_begin 4 = .ok (.aload_n 1, 1) := by decide +kernel
theorem dX2_begin_5 : decode cX2_begin 5 = .ok (.invokevirtual 30, 3) := by decide +kernel
theorem dX2_begin_8 : decode cX2_begin 8 = .ok (.aload_n 0, 1) := by decide +kernel
theorem dX2_begin_9 : decode cX2_begin 9 = .ok (.invokevirtual 34, 3) := by decide +kernel
theorem dX2_begin_12 : decode cX2_begin 12 = .ok (.return_, 1) := by decide +kernel
theorem dX2_tellNone_0 : decode cX2_tellNone 0 = .ok (.aload_n 0, 1) := by decide +kernel
theorem dX2_tellNone_1 : decode cX2_tellNone 1 = .ok (.iconst 0, 1) := by decide +kernel
theorem dX2_tellNone_2 : decode cX2_tellNone 2 = .ok (.putfield 22, 3) := by decide +kernel
theorem dX2_tellNone_5 : decode cX2_tellNone 5 = .ok (.aload_n 0, 1) := by decide +kernel
theorem dX2_tellNone_6 : decode cX2_tellNone 6 = .ok (.iconst 0, 1) := by decide +kernel
theorem dX2_tellNone_7 : decode cX2_tellNone 7 = .ok (.putfield 26, 3) := by decide +kernel
theorem dX2_tellNone_10 : decode cX2_tellNone 10 = .ok (.return_, 1) := by decide +kernel
theorem dX2_size_0 : decode cX2_size 0 = .ok (.aload_n 0, 1) := by decide +kernel
theorem dX2_size_1 : decode cX2_size 1 = .ok (.getfield 22, 3) := by decide +kernel
theorem dX2_size_4 : decode cX2_size 4 = .ok (.ireturn, 1) := by decide +kernel
theorem dX2_areTooMany_0 : decode cX2_areTooMany 0 = .ok (.aload_n 0, 1) := by decide +kernel
theorem dX2_areTooMany_1 : decode cX2_areTooMany 1 = .ok (.getfield 26, 3) := by decide +kernel
theorem dX2_areTooMany_4 : decode cX2_areTooMany 4 = .ok (.ireturn, 1) := by decide +kernel
theorem dX2_blocksThen_0 : decode cX2_blocksThen 0 = .ok (.aload_n 0, 1) := by decide +kernel
theorem dX2_blocksThen_1 : decode cX2_blocksThen 1 = .ok (.getfield 12, 3) := by decide +kernel
theorem dX2_blocksThen_4 : decode cX2_blocksThen 4 = .ok (.invokevirtual 37, 3) := by decide +kernel
theorem dX2_blocksThen_7 : decode cX2_blocksThen 7 = .ok (.ireturn, 1) := by decide +kernel
theorem dX2_add_0 : decode cX2_add 0 = .ok (.aload_n 0, 1) := by decide +kernel
theorem dX2_add_1 : decode cX2_add 1 = .ok (.getfield 22, 3) := by decide +kernel
theorem dX2_add_4 : decode cX2_add 4 = .ok (.bipush 40, 2) := by decide +kernel
theorem dX2_add_6 : decode cX2_add 6 = .ok (.if_icmp .lt 9, 3) := by decide +kernel
theorem dX2_add_9 : decode cX2_add 9 = .ok (.aload_n 0, 1) := by decide +kernel
theorem dX2_add_10 : decode cX2_add 10 = .ok (.iconst 1, 1) := by decide +kernel
theorem dX2_add_11 : decode cX2_add 11 = .ok (.putfield 26, 3) := by decide +kernel
theorem dX2_add_14 : decode cX2_add 14 = .ok (.return_, 1) := by decide +kernel
theorem dX2_add_15 : decode cX2_add 15 = .ok (.aload_n 1, 1) := by decide +kernel
theorem dX2_add_16 : decode cX2_add 16 = .ok (.iload_n 2, 1) := by decide +kernel
theorem dX2_add_17 : decode cX2_add 17 = .ok (.iload_n 3, 1) := by decide +kernel
theorem dX2_add_18 : decode cX2_add 18 = .ok (.invokestatic 41, 3) := by decide +kernel
theorem dX2_add_21 : decode cX2_add 21 = .ok (.istore 4, 2) := by decide +kernel
theorem dX2_add_23 : decode cX2_add 23 = .ok (.aload_n 0, 1) := by decide +kernel
theorem dX2_add_24 : decode cX2_add 24 = .ok (.getfield 22, 3) := by decide +kernel
theorem dX2_add_27 : decode cX2_add 27 = .ok (.istore 5, 2) := by decide +kernel
theorem dX2_add_29 : decode cX2_add 29 = .ok (.iload 5, 2) := by decide +kernel
theorem dX2_add_31 : decode cX2_add 31 = .ok (.ifCond .le 39, 3) := by decide +kernel
theorem dX2_add_34 : decode cX2_add 34 = .ok (.aload_n 0, 1) := by decide +kernel
theorem dX2_add_35 : decode cX2_add 35 = .ok (.getfield 18, 3) := by decide +kernel
theorem dX2_add_38 : decode cX2_add 38 = .ok (.iload 5, 2) := by decide +kernel
theorem dX2_add_40 : decode cX2_add 40 = .ok (.iconst 1, 1) := by decide +kernel
theorem dX2_add_41 : decode cX2_add 41 = .ok (.isub, 1) := by decide +kernel
theorem dX2_add_42 : decode cX2_add 42 = .ok (.iaload, 1) := by decide +kernel
theorem dX2_add_43 : decode cX2_add 43 = .ok (.iload 4, 2) := by decide +kernel
theorem dX2_add_45 : decode cX2_add 45 = .ok (.if_icmp .le 25, 3) := by decide +kernel
theorem dX2_add_48 : decode cX2_add 48 = .ok (.aload_n 0, 1) := by decide +kernel
theorem dX2_add_49 : decode cX2_add 49 = .ok (.getfield 18, 3) := by decide +kernel
theorem dX2_add_52 : decode cX2_add 52 = .ok (.iload 5, 2) := by decide +kernel
theorem dX2_add_54 : decode cX2_add 54 = .ok (.aload_n 0, 1) := by decide +kernel
theorem dX2_add_55 : decode cX2_add 55 = .ok (.getfield 18, 3) := by decide +kernel
theorem dX2_add_58 : decode cX2_add 58 = .ok (.iload 5, 2) := by decide +kernel
theorem dX2_add_60 : decode cX2_add 60 = .ok (.iconst 1, 1) := by decide +kernel
theorem dX2_add_61 : decode cX2_add 61 = .ok (.isub, 1) := by decide +kernel
theorem dX2_add_62 : decode cX2_add 62 = .ok (.iaload, 1) := by decide +kernel
theorem dX2_add_63 : decode cX2_add 63 = .ok (.iastore, 1) := by decide +kernel
theorem dX2_add_64 : decode cX2_add 64 = .ok (.iinc 5 (-1), 3) := by decide +kernel
theorem dX2_add_67 : decode cX2_add 67 = .ok (.goto (-38), 3) := by decide +kernel
theorem dX2_add_70 : decode cX2_add 70 = .ok (.aload_n 0, 1) := by decide +kernel
theorem dX2_add_71 : decode cX2_add 71 = .ok (.getfield 18, 3) := by decide +kernel
theorem dX2_add_74 : decode cX2_add 74 = .ok (.iload 5, 2) := by decide +kernel
theorem dX2_add_76 : decode cX2_add 76 = .ok (.iload 4, 2) := by decide +kernel
theorem dX2_add_78 : decode cX2_add 78 = .ok (.iastore, 1) := by decide +kernel
theorem dX2_add_79 : decode cX2_add 79 = .ok (.aload_n 0, 1) := by decide +kernel
theorem dX2_add_80 : decode cX2_add 80 = .ok (.dup, 1) := by decide +kernel
theorem dX2_add_81 : decode cX2_add 81 = .ok (.getfield 22, 3) := by decide +kernel
theorem dX2_add_84 : decode cX2_add 84 = .ok (.iconst 1, 1) := by decide +kernel
theorem dX2_add_85 : decode cX2_add 85 = .ok (.iadd, 1) := by decide +kernel
theorem dX2_add_86 : decode cX2_add 86 = .ok (.putfield 22, 3) := by decide +kernel
theorem dX2_add_89 : decode cX2_add 89 = .ok (.return_, 1) := by decide +kernel
theorem dX2_keyOf_0 : decode cX2_keyOf 0 = .ok (.iconst 0, 1) := by decide +kernel
theorem dX2_keyOf_1 : decode cX2_keyOf 1 = .ok (.istore_n 3, 1) := by decide +kernel
theorem dX2_keyOf_2 : decode cX2_keyOf 2 = .ok (.iconst 0, 1) := by decide +kernel
theorem dX2_keyOf_3 : decode cX2_keyOf 3 = .ok (.istore 4, 2) := by decide +kernel
theorem dX2_keyOf_5 : decode cX2_keyOf 5 = .ok (.iload 4, 2) := by decide +kernel
theorem dX2_keyOf_7 : decode cX2_keyOf 7 = .ok (.iconst 5, 1) := by decide +kernel
theorem dX2_keyOf_8 : decode cX2_keyOf 8 = .ok (.if_icmp .ge 37, 3) := by decide +kernel
theorem dX2_keyOf_11 : decode cX2_keyOf 11 = .ok (.iload_n 3, 1) := by decide +kernel
theorem dX2_keyOf_12 : decode cX2_keyOf 12 = .ok (.iconst 5, 1) := by decide +kernel
theorem dX2_keyOf_13 : decode cX2_keyOf 13 = .ok (.ishl, 1) := by decide +kernel
theorem dX2_keyOf_14 : decode cX2_keyOf 14 = .ok (.iload 4, 2) := by decide +kernel
theorem dX2_keyOf_16 : decode cX2_keyOf 16 = .ok (.iload_n 1, 1) := by decide +kernel
theorem dX2_keyOf_17 : decode cX2_keyOf 17 = .ok (.if_icmp .ge 19, 3) := by decide +kernel
theorem dX2_keyOf_20 : decode cX2_keyOf 20 = .ok (.iload 4, 2) := by decide +kernel
theorem dX2_keyOf_22 : decode cX2_keyOf 22 = .ok (.aload_n 0, 1) := by decide +kernel
theorem dX2_keyOf_23 : decode cX2_keyOf 23 = .ok (.arraylength, 1) := by decide +kernel
theorem dX2_keyOf_24 : decode cX2_keyOf 24 = .ok (.if_icmp .ge 12, 3) := by decide +kernel
theorem dX2_keyOf_27 : decode cX2_keyOf 27 = .ok (.aload_n 0, 1) := by decide +kernel
theorem dX2_keyOf_28 : decode cX2_keyOf 28 = .ok (.iload 4, 2) := by decide +kernel
theorem dX2_keyOf_30 : decode cX2_keyOf 30 = .ok (.iaload, 1) := by decide +kernel
theorem dX2_keyOf_31 : decode cX2_keyOf 31 = .ok (.iconst 1, 1) := by decide +kernel
theorem dX2_keyOf_32 : decode cX2_keyOf 32 = .ok (.iadd, 1) := by decide +kernel
theorem dX2_keyOf_33 : decode cX2_keyOf 33 = .ok (.goto 4, 3) := by decide +kernel
theorem dX2_keyOf_36 : decode cX2_keyOf 36 = .ok (.iconst 0, 1) := by decide +kernel
theorem dX2_keyOf_37 : decode cX2_keyOf 37 = .ok (.ior, 1) := by decide +kernel
theorem dX2_keyOf_38 : decode cX2_keyOf 38 = .ok (.istore_n 3, 1) := by decide +kernel
theorem dX2_keyOf_39 : decode cX2_keyOf 39 = .ok (.iinc 4 1, 3) := by decide +kernel
theorem dX2_keyOf_42 : decode cX2_keyOf 42 = .ok (.goto (-37), 3) := by decide +kernel
theorem dX2_keyOf_45 : decode cX2_keyOf 45 = .ok (.iload_n 3, 1) := by decide +kernel
theorem dX2_keyOf_46 : decode cX2_keyOf 46 = .ok (.iconst 3, 1) := by decide +kernel
theorem dX2_keyOf_47 : decode cX2_keyOf 47 = .ok (.ishl, 1) := by decide +kernel
theorem dX2_keyOf_48 : decode cX2_keyOf 48 = .ok (.iload_n 2, 1) := by decide +kernel
theorem dX2_keyOf_49 : decode cX2_keyOf 49 = .ok (.ior, 1) := by decide +kernel
theorem dX2_keyOf_50 : decode cX2_keyOf 50 = .ok (.ireturn, 1) := by decide +kernel
theorem dX2_keyAt_0 : decode cX2_keyAt 0 = .ok (.iload_n 1, 1) := by decide +kernel
theorem dX2_keyAt_1 : decode cX2_keyAt 1 = .ok (.ifCond .lt 20, 3) := by decide +kernel
theorem dX2_keyAt_4 : decode cX2_keyAt 4 = .ok (.iload_n 1, 1) := by decide +kernel
theorem dX2_keyAt_5 : decode cX2_keyAt 5 = .ok (.aload_n 0, 1) := by decide +kernel
theorem dX2_keyAt_6 : decode cX2_keyAt 6 = .ok (.getfield 22, 3) := by decide +kernel
theorem dX2_keyAt_9 : decode cX2_keyAt 9 = .ok (.if_icmp .ge 12, 3) := by decide +kernel
theorem dX2_keyAt_12 : decode cX2_keyAt 12 = .ok (.aload_n 0, 1) := by decide +kernel
theorem dX2_keyAt_13 : decode cX2_keyAt 13 = .ok (.getfield 18, 3) := by decide +kernel
theorem dX2_keyAt_16 : decode cX2_keyAt 16 = .ok (.iload_n 1, 1) := by decide +kernel
theorem dX2_keyAt_17 : decode cX2_keyAt 17 = .ok (.iaload, 1) := by decide +kernel
theorem dX2_keyAt_18 : decode cX2_keyAt 18 = .ok (.goto 4, 3) := by decide +kernel
theorem dX2_keyAt_21 : decode cX2_keyAt 21 = .ok (.iconst 0, 1) := by decide +kernel
theorem dX2_keyAt_22 : decode cX2_keyAt 22 = .ok (.ireturn, 1) := by decide +kernel
theorem dX2_makeOf_0 : decode cX2_makeOf 0 = .ok (.aload_n 0, 1) := by decide +kernel
theorem dX2_makeOf_1 : decode cX2_makeOf 1 = .ok (.iload_n 1, 1) := by decide +kernel
theorem dX2_makeOf_2 : decode cX2_makeOf 2 = .ok (.invokevirtual 45, 3) := by decide +kernel
theorem dX2_makeOf_5 : decode cX2_makeOf 5 = .ok (.bipush 7, 2) := by decide +kernel
theorem dX2_makeOf_7 : decode cX2_makeOf 7 = .ok (.iand, 1) := by decide +kernel
theorem dX2_makeOf_8 : decode cX2_makeOf 8 = .ok (.ireturn, 1) := by decide +kernel
theorem dX2_blockOf_0 : decode cX2_blockOf 0 = .ok (.iload_n 2, 1) := by decide +kernel
theorem dX2_blockOf_1 : decode cX2_blockOf 1 = .ok (.ifCond .lt 8, 3) := by decide +kernel
theorem dX2_blockOf_4 : decode cX2_blockOf 4 = .ok (.iload_n 2, 1) := by decide +kernel
theorem dX2_blockOf_5 : decode cX2_blockOf 5 = .ok (.iconst 5, 1) := by decide +kernel
theorem dX2_blockOf_6 : decode cX2_blockOf 6 = .ok (.if_icmp .lt 5, 3) := by decide +kernel
theorem dX2_blockOf_9 : decode cX2_blockOf 9 = .ok (.iconst (-1), 1) := by decide +kernel
theorem dX2_blockOf_10 : decode cX2_blockOf 10 = .ok (.ireturn, 1) := by decide +kernel
theorem dX2_blockOf_11 : decode cX2_blockOf 11 = .ok (.iconst 3, 1) := by decide +kernel
theorem dX2_blockOf_12 : decode cX2_blockOf 12 = .ok (.iconst 5, 1) := by decide +kernel
theorem dX2_blockOf_13 : decode cX2_blockOf 13 = .ok (.iconst 4, 1) := by decide +kernel
theorem dX2_blockOf_14 : decode cX2_blockOf 14 = .ok (.iload_n 2, 1) := by decide +kernel
theorem dX2_blockOf_15 : decode cX2_blockOf 15 = .ok (.isub, 1) := by decide +kernel
theorem dX2_blockOf_16 : decode cX2_blockOf 16 = .ok (.imul, 1) := by decide +kernel
theorem dX2_blockOf_17 : decode cX2_blockOf 17 = .ok (.iadd, 1) := by decide +kernel
theorem dX2_blockOf_18 : decode cX2_blockOf 18 = .ok (.istore_n 3, 1) := by decide +kernel
theorem dX2_blockOf_19 : decode cX2_blockOf 19 = .ok (.aload_n 0, 1) := by decide +kernel
theorem dX2_blockOf_20 : decode cX2_blockOf 20 = .ok (.iload_n 1, 1) := by decide +kernel
theorem dX2_blockOf_21 : decode cX2_blockOf 21 = .ok (.invokevirtual 45, 3) := by decide +kernel
theorem dX2_blockOf_24 : decode cX2_blockOf 24 = .ok (.iload_n 3, 1) := by decide +kernel
theorem dX2_blockOf_25 : decode cX2_blockOf 25 = .ok (.iushr, 1) := by decide +kernel
theorem dX2_blockOf_26 : decode cX2_blockOf 26 = .ok (.bipush 31, 2) := by decide +kernel
theorem dX2_blockOf_28 : decode cX2_blockOf 28 = .ok (.iand, 1) := by decide +kernel
theorem dX2_blockOf_29 : decode cX2_blockOf 29 = .ok (.iconst 1, 1) := by decide +kernel
theorem dX2_blockOf_30 : decode cX2_blockOf 30 = .ok (.isub, 1) := by decide +kernel
theorem dX2_blockOf_31 : decode cX2_blockOf 31 = .ok (.ireturn, 1) := by decide +kernel
theorem dX2_lengthOf_0 : decode cX2_lengthOf 0 = .ok (.aload_n 0, 1) := by decide +kernel
theorem dX2_lengthOf_1 : decode cX2_lengthOf 1 = .ok (.getfield 12, 3) := by decide +kernel
theorem dX2_lengthOf_4 : decode cX2_lengthOf 4 = .ok (.aload_n 0, 1) := by decide +kernel
theorem dX2_lengthOf_5 : decode cX2_lengthOf 5 = .ok (.iload_n 1, 1) := by decide +kernel
theorem dX2_lengthOf_6 : decode cX2_lengthOf 6 = .ok (.iconst 0, 1) := by decide +kernel
theorem dX2_lengthOf_7 : decode cX2_lengthOf 7 = .ok (.invokevirtual 49, 3) := by decide +kernel
theorem dX2_lengthOf_10 : decode cX2_lengthOf 10 = .ok (.iconst 2, 1) := by decide +kernel
theorem dX2_lengthOf_11 : decode cX2_lengthOf 11 = .ok (.invokevirtual 53, 3) := by decide +kernel
theorem dX2_lengthOf_14 : decode cX2_lengthOf 14 = .ok (.ireturn, 1) := by decide +kernel
theorem dX2_sizeOf_0 : decode cX2_sizeOf 0 = .ok (.iconst 0, 1) := by decide +kernel
theorem dX2_sizeOf_1 : decode cX2_sizeOf 1 = .ok (.istore_n 2, 1) := by decide +kernel
theorem dX2_sizeOf_2 : decode cX2_sizeOf 2 = .ok (.iload_n 2, 1) := by decide +kernel
theorem dX2_sizeOf_3 : decode cX2_sizeOf 3 = .ok (.iconst 5, 1) := by decide +kernel
theorem dX2_sizeOf_4 : decode cX2_sizeOf 4 = .ok (.if_icmp .ge 19, 3) := by decide +kernel
theorem dX2_sizeOf_7 : decode cX2_sizeOf 7 = .ok (.aload_n 0, 1) := by decide +kernel
theorem dX2_sizeOf_8 : decode cX2_sizeOf 8 = .ok (.iload_n 1, 1) := by decide +kernel
theorem dX2_sizeOf_9 : decode cX2_sizeOf 9 = .ok (.iload_n 2, 1) := by decide +kernel
theorem dX2_sizeOf_10 : decode cX2_sizeOf 10 = .ok (.invokevirtual 49, 3) := by decide +kernel
theorem dX2_sizeOf_13 : decode cX2_sizeOf 13 = .ok (.iconst (-1), 1) := by decide +kernel
theorem dX2_sizeOf_14 : decode cX2_sizeOf 14 = .ok (.if_icmp .eq 9, 3) := by decide +kernel
theorem dX2_sizeOf_17 : decode cX2_sizeOf 17 = .ok (.iinc 2 1, 3) := by decide +kernel
theorem dX2_sizeOf_20 : decode cX2_sizeOf 20 = .ok (.goto (-18), 3) := by decide +kernel
theorem dX2_sizeOf_23 : decode cX2_sizeOf 23 = .ok (.iload_n 2, 1) := by decide +kernel
theorem dX2_sizeOf_24 : decode cX2_sizeOf 24 = .ok (.ireturn, 1) := by decide +kernel
theorem dX2_costOf_0 : decode cX2_costOf 0 = .ok (.iconst 0, 1) := by decide +kernel
theorem dX2_costOf_1 : decode cX2_costOf 1 = .ok (.istore_n 2, 1) := by decide +kernel
theorem dX2_costOf_2 : decode cX2_costOf 2 = .ok (.aload_n 0, 1) := by decide +kernel
theorem dX2_costOf_3 : decode cX2_costOf 3 = .ok (.iload_n 1, 1) := by decide +kernel
theorem dX2_costOf_4 : decode cX2_costOf 4 = .ok (.invokevirtual 56, 3) := by decide +kernel
theorem dX2_costOf_7 : decode cX2_costOf 7 = .ok (.istore_n 3, 1) := by decide +kernel
theorem dX2_costOf_8 : decode cX2_costOf 8 = .ok (.iconst 1, 1) := by decide +kernel
theorem dX2_costOf_9 : decode cX2_costOf 9 = .ok (.istore 4, 2) := by decide +kernel
theorem dX2_costOf_11 : decode cX2_costOf 11 = .ok (.iload 4, 2) := by decide +kernel
theorem dX2_costOf_13 : decode cX2_costOf 13 = .ok (.iload_n 3, 1) := by decide +kernel
theorem dX2_costOf_14 : decode cX2_costOf 14 = .ok (.if_icmp .ge 34, 3) := by decide +kernel
theorem dX2_costOf_17 : decode cX2_costOf 17 = .ok (.iload_n 2, 1) := by decide +kernel
theorem dX2_costOf_18 : decode cX2_costOf 18 = .ok (.aload_n 0, 1) := by decide +kernel
theorem dX2_costOf_19 : decode cX2_costOf 19 = .ok (.iload_n 1, 1) := by decide +kernel
theorem dX2_costOf_20 : decode cX2_costOf 20 = .ok (.iload 4, 2) := by decide +kernel
theorem dX2_costOf_22 : decode cX2_costOf 22 = .ok (.invokevirtual 49, 3) := by decide +kernel
theorem dX2_costOf_25 : decode cX2_costOf 25 = .ok (.aload_n 0, 1) := by decide +kernel
theorem dX2_costOf_26 : decode cX2_costOf 26 = .ok (.iload_n 1, 1) := by decide +kernel
theorem dX2_costOf_27 : decode cX2_costOf 27 = .ok (.iload 4, 2) := by decide +kernel
theorem dX2_costOf_29 : decode cX2_costOf 29 = .ok (.iconst 1, 1) := by decide +kernel
theorem dX2_costOf_30 : decode cX2_costOf 30 = .ok (.isub, 1) := by decide +kernel
theorem dX2_costOf_31 : decode cX2_costOf 31 = .ok (.invokevirtual 49, 3) := by decide +kernel
theorem dX2_costOf_34 : decode cX2_costOf 34 = .ok (.iconst 1, 1) := by decide +kernel
theorem dX2_costOf_35 : decode cX2_costOf 35 = .ok (.iadd, 1) := by decide +kernel
theorem dX2_costOf_36 : decode cX2_costOf 36 = .ok (.isub, 1) := by decide +kernel
theorem dX2_costOf_37 : decode cX2_costOf 37 = .ok (.invokestatic 59, 3) := by decide +kernel
theorem dX2_costOf_40 : decode cX2_costOf 40 = .ok (.iadd, 1) := by decide +kernel
theorem dX2_costOf_41 : decode cX2_costOf 41 = .ok (.istore_n 2, 1) := by decide +kernel
theorem dX2_costOf_42 : decode cX2_costOf 42 = .ok (.iinc 4 1, 3) := by decide +kernel
theorem dX2_costOf_45 : decode cX2_costOf 45 = .ok (.goto (-34), 3) := by decide +kernel
theorem dX2_costOf_48 : decode cX2_costOf 48 = .ok (.iload_n 2, 1) := by decide +kernel
theorem dX2_costOf_49 : decode cX2_costOf 49 = .ok (.ireturn, 1) := by decide +kernel
theorem dX2_blockBitsOf_0 : decode cX2_blockBitsOf 0 = .ok (.iconst 0, 1) := by decide +kernel
theorem dX2_blockBitsOf_1 : decode cX2_blockBitsOf 1 = .ok (.istore_n 2, 1) := by decide +kernel
theorem dX2_blockBitsOf_2 : decode cX2_blockBitsOf 2 = .ok (.aload_n 0, 1) := by decide +kernel
theorem dX2_blockBitsOf_3 : decode cX2_blockBitsOf 3 = .ok (.iload_n 1, 1) := by decide +kernel
theorem dX2_blockBitsOf_4 : decode cX2_blockBitsOf 4 = .ok (.invokevirtual 56, 3) := by decide +kernel
theorem dX2_blockBitsOf_7 : decode cX2_blockBitsOf 7 = .ok (.istore_n 3, 1) := by decide +kernel
theorem dX2_blockBitsOf_8 : decode cX2_blockBitsOf 8 = .ok (.iconst 0, 1) := by decide +kernel
theorem dX2_blockBitsOf_9 : decode cX2_blockBitsOf 9 = .ok (.istore 4, 2) := by decide +kernel
theorem dX2_blockBitsOf_11 : decode cX2_blockBitsOf 11 = .ok (.iload 4, 2) := by decide +kernel
theorem dX2_blockBitsOf_13 : decode cX2_blockBitsOf 13 = .ok (.iload_n 3, 1) := by decide +kernel
theorem dX2_blockBitsOf_14 : decode cX2_blockBitsOf 14 = .ok (.if_icmp .ge 21, 3) := by decide +kernel
theorem dX2_blockBitsOf_17 : decode cX2_blockBitsOf 17 = .ok (.iload_n 2, 1) := by decide +kernel
theorem dX2_blockBitsOf_18 : decode cX2_blockBitsOf 18 = .ok (.iconst 1, 1) := by decide +kernel
theorem dX2_blockBitsOf_19 : decode cX2_blockBitsOf 19 = .ok (.aload_n 0, 1) := by decide +kernel
theorem dX2_blockBitsOf_20 : decode cX2_blockBitsOf 20 = .ok (.iload_n 1, 1) := by decide +kernel
theorem dX2_blockBitsOf_21 : decode cX2_blockBitsOf 21 = .ok (.iload 4, 2) := by decide +kernel
theorem dX2_blockBitsOf_23 : decode cX2_blockBitsOf 23 = .ok (.invokevirtual 49, 3) := by decide +kernel
theorem dX2_blockBitsOf_26 : decode cX2_blockBitsOf 26 = .ok (.ishl, 1) := by decide +kernel
theorem dX2_blockBitsOf_27 : decode cX2_blockBitsOf 27 = .ok (.ior, 1) := by decide +kernel
theorem dX2_blockBitsOf_28 : decode cX2_blockBitsOf 28 = .ok (.istore_n 2, 1) := by decide +kernel
theorem dX2_blockBitsOf_29 : decode cX2_blockBitsOf 29 = .ok (.iinc 4 1, 3) := by decide +kernel
theorem dX2_blockBitsOf_32 : decode cX2_blockBitsOf 32 = .ok (.goto (-21), 3) := by decide +kernel
theorem dX2_blockBitsOf_35 : decode cX2_blockBitsOf 35 = .ok (.iload_n 2, 1) := by decide +kernel
theorem dX2_blockBitsOf_36 : decode cX2_blockBitsOf 36 = .ok (.ireturn, 1) := by decide +kernel
theorem dX2_isSure_0 : decode cX2_isSure 0 = .ok (.iconst 0, 1) := by decide +kernel
theorem dX2_isSure_1 : decode cX2_isSure 1 = .ok (.istore_n 2, 1) := by decide +kernel
theorem dX2_isSure_2 : decode cX2_isSure 2 = .ok (.iload_n 2, 1) := by decide +kernel
theorem dX2_isSure_3 : decode cX2_isSure 3 = .ok (.aload_n 0, 1) := by decide +kernel
theorem dX2_isSure_4 : decode cX2_isSure 4 = .ok (.getfield 22, 3) := by decide +kernel
theorem dX2_isSure_7 : decode cX2_isSure 7 = .ok (.if_icmp .ge 31, 3) := by decide +kernel
theorem dX2_isSure_10 : decode cX2_isSure 10 = .ok (.iload_n 2, 1) := by decide +kernel
theorem dX2_isSure_11 : decode cX2_isSure 11 = .ok (.iload_n 1, 1) := by decide +kernel
theorem dX2_isSure_12 : decode cX2_isSure 12 = .ok (.if_icmp .eq 20, 3) := by decide +kernel
theorem dX2_isSure_15 : decode cX2_isSure 15 = .ok (.aload_n 0, 1) := by decide +kernel
theorem dX2_isSure_16 : decode cX2_isSure 16 = .ok (.iload_n 2, 1) := by decide +kernel
theorem dX2_isSure_17 : decode cX2_isSure 17 = .ok (.iconst 0, 1) := by decide +kernel
theorem dX2_isSure_18 : decode cX2_isSure 18 = .ok (.invokevirtual 49, 3) := by decide +kernel
theorem dX2_isSure_21 : decode cX2_isSure 21 = .ok (.aload_n 0, 1) := by decide +kernel
theorem dX2_isSure_22 : decode cX2_isSure 22 = .ok (.iload_n 1, 1) := by decide +kernel
theorem dX2_isSure_23 : decode cX2_isSure 23 = .ok (.iconst 0, 1) := by decide +kernel
theorem dX2_isSure_24 : decode cX2_isSure 24 = .ok (.invokevirtual 49, 3) := by decide +kernel
theorem dX2_isSure_27 : decode cX2_isSure 27 = .ok (.if_icmp .ne 5, 3) := by decide +kernel
theorem dX2_isSure_30 : decode cX2_isSure 30 = .ok (.iconst 0, 1) := by decide +kernel
theorem dX2_isSure_31 : decode cX2_isSure 31 = .ok (.ireturn, 1) := by decide +kernel
theorem dX2_isSure_32 : decode cX2_isSure 32 = .ok (.iinc 2 1, 3) := by decide +kernel
theorem dX2_isSure_35 : decode cX2_isSure 35 = .ok (.goto (-33), 3) := by decide +kernel
theorem dX2_isSure_38 : decode cX2_isSure 38 = .ok (.iconst 1, 1) := by decide +kernel
theorem dX2_isSure_39 : decode cX2_isSure 39 = .ok (.ireturn, 1) := by decide +kernel
theorem dX2_dataByteOf_0 : decode cX2_dataByteOf 0 = .ok (.iload_n 2, 1) := by decide +kernel
theorem dX2_dataByteOf_1 : decode cX2_dataByteOf 1 = .ok (.ifCond .lt 12, 3) := by decide +kernel
theorem dX2_dataByteOf_4 : decode cX2_dataByteOf 4 = .ok (.iload_n 2, 1) := by decide +kernel
theorem dX2_dataByteOf_5 : decode cX2_dataByteOf 5 = .ok (.aload_n 0, 1) := by decide +kernel
theorem dX2_dataByteOf_6 : decode cX2_dataByteOf 6 = .ok (.iload_n 1, 1) := by decide +kernel
theorem dX2_dataByteOf_7 : decode cX2_dataByteOf 7 = .ok (.invokevirtual 64, 3) := by decide +kernel
theorem dX2_dataByteOf_10 : decode cX2_dataByteOf 10 = .ok (.if_icmp .lt 5, 3) := by decide +kernel
theorem dX2_dataByteOf_13 : decode cX2_dataByteOf 13 = .ok (.iconst (-1), 1) := by decide +kernel
theorem dX2_dataByteOf_14 : decode cX2_dataByteOf 14 = .ok (.ireturn, 1) := by decide +kernel
theorem dX2_dataByteOf_15 : decode cX2_dataByteOf 15 = .ok (.iconst 3, 1) := by decide +kernel
theorem dX2_dataByteOf_16 : decode cX2_dataByteOf 16 = .ok (.iload_n 2, 1) := by decide +kernel
theorem dX2_dataByteOf_17 : decode cX2_dataByteOf 17 = .ok (.iadd, 1) := by decide +kernel
theorem dX2_dataByteOf_18 : decode cX2_dataByteOf 18 = .ok (.istore_n 3, 1) := by decide +kernel
theorem dX2_dataByteOf_19 : decode cX2_dataByteOf 19 = .ok (.aload_n 0, 1) := by decide +kernel
theorem dX2_dataByteOf_20 : decode cX2_dataByteOf 20 = .ok (.getfield 12, 3) := by decide +kernel
theorem dX2_dataByteOf_23 : decode cX2_dataByteOf 23 = .ok (.aload_n 0, 1) := by decide +kernel
theorem dX2_dataByteOf_24 : decode cX2_dataByteOf 24 = .ok (.iload_n 1, 1) := by decide +kernel
theorem dX2_dataByteOf_25 : decode cX2_dataByteOf 25 = .ok (.iload_n 3, 1) := by decide +kernel
theorem dX2_dataByteOf_26 : decode cX2_dataByteOf 26 = .ok (.bipush 8, 2) := by decide +kernel
theorem dX2_dataByteOf_28 : decode cX2_dataByteOf 28 = .ok (.idiv, 1) := by decide +kernel
theorem dX2_dataByteOf_29 : decode cX2_dataByteOf 29 = .ok (.invokevirtual 49, 3) := by decide +kernel
theorem dX2_dataByteOf_32 : decode cX2_dataByteOf 32 = .ok (.iload_n 3, 1) := by decide +kernel
theorem dX2_dataByteOf_33 : decode cX2_dataByteOf 33 = .ok (.bipush 8, 2) := by decide +kernel
theorem dX2_dataByteOf_35 : decode cX2_dataByteOf 35 = .ok (.irem, 1) := by decide +kernel
theorem dX2_dataByteOf_36 : decode cX2_dataByteOf 36 = .ok (.invokevirtual 53, 3) := by decide +kernel
theorem dX2_dataByteOf_39 : decode cX2_dataByteOf 39 = .ok (.ireturn, 1) := by decide +kernel
theorem dX3_init_0 : decode cX3_init 0 = .ok (.aload_n 0, 1) := by decide +kernel
theorem dX3_init_1 : decode cX3_init 1 = .ok (.invokespecial 3, 3) := by decide +kernel
theorem dX3_init_4 : decode cX3_init 4 = .ok (.aload_n 0, 1) := by decide +kernel
theorem dX3_init_5 : decode cX3_init 5 = .ok (.bipush 36, 2) := by decide +kernel
theorem dX3_init_7 : decode cX3_init 7 = .ok (.newarray .int, 2) := by decide +kernel
theorem dX3_init_9 : decode cX3_init 9 = .ok (.putfield 9, 3) := by decide +kernel
theorem dX3_init_12 : decode cX3_init 12 = .ok (.aload_n 0, 1) := by decide +kernel
theorem dX3_init_13 : decode cX3_init 13 = .ok (.iconst 0, 1) := by decide +kernel
theorem dX3_init_14 : decode cX3_init 14 = .ok (.putfield 15, 3) := by decide +kernel
theorem dX3_init_17 : decode cX3_init 17 = .ok (.return_, 1) := by decide +kernel
theorem dX3_size_0 : decode cX3_size 0 = .ok (.aload_n 0, 1) := by decide +kernel
theorem dX3_size_1 : decode cX3_size 1 = .ok (.getfield 15, 3) := by decide +kernel
theorem dX3_size_4 : decode cX3_size 4 = .ok (.ireturn, 1) := by decide +kernel
theorem dX3_add_0 : decode cX3_add 0 = .ok (.aload_n 0, 1) := by decide +kernel
theorem dX3_add_1 : decode cX3_add 1 = .ok (.getfield 15, 3) := by decide +kernel
theorem dX3_add_4 : decode cX3_add 4 = .ok (.bipush 36, 2) := by decide +kernel
theorem dX3_add_6 : decode cX3_add 6 = .ok (.if_icmp .lt 5, 3) := by decide +kernel
theorem dX3_add_9 : decode cX3_add 9 = .ok (.iconst (-1), 1) := by decide +kernel
theorem dX3_add_10 : decode cX3_add 10 = .ok (.ireturn, 1) := by decide +kernel
theorem dX3_add_11 : decode cX3_add 11 = .ok (.aload_n 0, 1) := by decide +kernel
theorem dX3_add_12 : decode cX3_add 12 = .ok (.getfield 9, 3) := by decide +kernel
theorem dX3_add_15 : decode cX3_add 15 = .ok (.aload_n 0, 1) := by decide +kernel
theorem dX3_add_16 : decode cX3_add 16 = .ok (.getfield 15, 3) := by decide +kernel
theorem dX3_add_19 : decode cX3_add 19 = .ok (.iload_n 1, 1) := by decide +kernel
theorem dX3_add_20 : decode cX3_add 20 = .ok (.iastore, 1) := by decide +kernel
theorem dX3_add_21 : decode cX3_add 21 = .ok (.aload_n 0, 1) := by decide +kernel
theorem dX3_add_22 : decode cX3_add 22 = .ok (.dup, 1) := by decide +kernel
theorem dX3_add_23 : decode cX3_add 23 = .ok (.getfield 15, 3) := by decide +kernel
theorem dX3_add_26 : decode cX3_add 26 = .ok (.iconst 1, 1) := by decide +kernel
theorem dX3_add_27 : decode cX3_add 27 = .ok (.iadd, 1) := by decide +kernel
theorem dX3_add_28 : decode cX3_add 28 = .ok (.putfield 15, 3) := by decide +kernel
theorem dX3_add_31 : decode cX3_add 31 = .ok (.aload_n 0, 1) := by decide +kernel
theorem dX3_add_32 : decode cX3_add 32 = .ok (.getfield 15, 3) := by decide +kernel
theorem dX3_add_35 : decode cX3_add 35 = .ok (.ireturn, 1) := by decide +kernel
theorem dX3_empty_0 : decode cX3_empty 0 = .ok (.aload_n 0, 1) := by decide +kernel
theorem dX3_empty_1 : decode cX3_empty 1 = .ok (.iconst 0, 1) := by decide +kernel
theorem dX3_empty_2 : decode cX3_empty 2 = .ok (.putfield 15, 3) := by decide +kernel
theorem dX3_empty_5 : decode cX3_empty 5 = .ok (.return_, 1) := by decide +kernel
theorem dX3_isRightFor_0 : decode cX3_isRightFor 0 = .ok (.iconst 1, 1) := by decide +kernel
theorem dX3_isRightFor_1 : decode cX3_isRightFor 1 = .ok (.istore_n 2, 1) := by decide +kernel
theorem dX3_isRightFor_2 : decode cX3_isRightFor 2 = .ok (.iconst 0, 1) := by decide +kernel
theorem dX3_isRightFor_3 : decode cX3_isRightFor 3 = .ok (.istore_n 3, 1) := by decide +kernel
theorem dX3_isRightFor_4 : decode cX3_isRightFor 4 = .ok (.iload_n 3, 1) := by decide +kernel
theorem dX3_isRightFor_5 : decode cX3_isRightFor 5 = .ok (.aload_n 0, 1) := by decide +kernel
theorem dX3_isRightFor_6 : decode cX3_isRightFor 6 = .ok (.getfield 15, 3) := by decide +kernel
theorem dX3_isRightFor_9 : decode cX3_isRightFor 9 = .ok (.if_icmp .ge 21, 3) := by decide +kernel
theorem dX3_isRightFor_12 : decode cX3_isRightFor 12 = .ok (.aload_n 1, 1) := by decide +kernel
theorem dX3_isRightFor_13 : decode cX3_isRightFor 13 = .ok (.iload_n 2, 1) := by decide +kernel
theorem dX3_isRightFor_14 : decode cX3_isRightFor 14 = .ok (.aload_n 0, 1) := by decide +kernel
theorem dX3_isRightFor_15 : decode cX3_isRightFor 15 = .ok (.getfield 9, 3) := by decide +kernel
theorem dX3_isRightFor_18 : decode cX3_isRightFor 18 = .ok (.iload_n 3, 1) := by decide +kernel
theorem dX3_isRightFor_19 : decode cX3_isRightFor 19 = .ok (.iaload, 1) := by decide +kernel
theorem dX3_isRightFor_20 : decode cX3_isRightFor 20 = .ok (.invokevirtual 21, 3) := by decide +kernel
theorem dX3_isRightFor_23 : decode cX3_isRightFor 23 = .ok (.istore_n 2, 1) := by decide +kernel
theorem dX3_isRightFor_24 : decode cX3_isRightFor 24 = .ok (.iinc 3 1, 3) := by decide +kernel
theorem dX3_isRightFor_27 : decode cX3_isRightFor 27 = .ok (.goto (-23), 3) := by decide +kernel
theorem dX3_isRightFor_30 : decode cX3_isRightFor 30 = .ok (.aload_n 1, 1) := by decide +kernel
theorem dX3_isRightFor_31 : decode cX3_isRightFor 31 = .ok (.iload_n 2, 1) := by decide +kernel
theorem dX3_isRightFor_32 : decode cX3_isRightFor 32 = .ok (.invokevirtual 25, 3) := by decide +kernel
theorem dX3_isRightFor_35 : decode cX3_isRightFor 35 = .ok (.ireturn, 1) := by decide +kernel
theorem dX3_checkByte_0 : decode cX3_checkByte 0 = .ok (.iconst 0, 1) := by decide +kernel
theorem dX3_checkByte_1 : decode cX3_checkByte 1 = .ok (.istore_n 2, 1) := by decide +kernel
theorem dX3_checkByte_2 : decode cX3_checkByte 2 = .ok (.iconst 0, 1) := by decide +kernel
theorem dX3_checkByte_3 : decode cX3_checkByte 3 = .ok (.istore_n 3, 1) := by decide +kernel
theorem dX3_checkByte_4 : decode cX3_checkByte 4 = .ok (.iload_n 3, 1) := by decide +kernel
theorem dX3_checkByte_5 : decode cX3_checkByte 5 = .ok (.iconst 3, 1) := by decide +kernel
theorem dX3_checkByte_6 : decode cX3_checkByte 6 = .ok (.aload_n 0, 1) := by decide +kernel
theorem dX3_checkByte_7 : decode cX3_checkByte 7 = .ok (.getfield 15, 3) := by decide +kernel
theorem dX3_checkByte_10 : decode cX3_checkByte 10 = .ok (.iadd, 1) := by decide +kernel
theorem dX3_checkByte_11 : decode cX3_checkByte 11 = .ok (.if_icmp .ge 21, 3) := by decide +kernel
theorem dX3_checkByte_14 : decode cX3_checkByte 14 = .ok (.aload_n 1, 1) := by decide +kernel
theorem dX3_checkByte_15 : decode cX3_checkByte 15 = .ok (.iload_n 2, 1) := by decide +kernel
theorem dX3_checkByte_16 : decode cX3_checkByte 16 = .ok (.aload_n 0, 1) := by decide +kernel
theorem dX3_checkByte_17 : decode cX3_checkByte 17 = .ok (.aload_n 1, 1) := by decide +kernel
theorem dX3_checkByte_18 : decode cX3_checkByte 18 = .ok (.iload_n 3, 1) := by decide +kernel
theorem dX3_checkByte_19 : decode cX3_checkByte 19 = .ok (.invokevirtual 29, 3) := by decide +kernel
theorem dX3_checkByte_22 : decode cX3_checkByte 22 = .ok (.invokevirtual 33, 3) := by decide +kernel
theorem dX3_checkByte_25 : decode cX3_checkByte 25 = .ok (.istore_n 2, 1) := by decide +kernel
theorem dX3_checkByte_26 : decode cX3_checkByte 26 = .ok (.iinc 3 1, 3) := by decide +kernel
theorem dX3_checkByte_29 : decode cX3_checkByte 29 = .ok (.goto (-25), 3) := by decide +kernel
theorem dX3_checkByte_32 : decode cX3_checkByte 32 = .ok (.iload_n 2, 1) := by decide +kernel
theorem dX3_checkByte_33 : decode cX3_checkByte 33 = .ok (.ireturn, 1) := by decide +kernel
theorem dX3_blockOfFile_0 : decode cX3_blockOfFile 0 = .ok (.lconst 0, 1) := by decide +kernel
theorem dX3_blockOfFile_1 : decode cX3_blockOfFile 1 = .ok (.lstore_n 3, 1) := by decide +kernel
theorem dX3_blockOfFile_2 : decode cX3_blockOfFile 2 = .ok (.iconst 0, 1) := by decide +kernel
theorem dX3_blockOfFile_3 : decode cX3_blockOfFile 3 = .ok (.istore 5, 2) := by decide +kernel
theorem dX3_blockOfFile_5 : decode cX3_blockOfFile 5 = .ok (.iload 5, 2) := by decide +kernel
theorem dX3_blockOfFile_7 : decode cX3_blockOfFile 7 = .ok (.bipush 8, 2) := by decide +kernel
theorem dX3_blockOfFile_9 : decode cX3_blockOfFile 9 = .ok (.if_icmp .ge 28, 3) := by decide +kernel
theorem dX3_blockOfFile_12 : decode cX3_blockOfFile 12 = .ok (.lload_n 3, 1) := by decide +kernel
theorem dX3_blockOfFile_13 : decode cX3_blockOfFile 13 = .ok (.bipush 8, 2) := by decide +kernel
theorem dX3_blockOfFile_15 : decode cX3_blockOfFile 15 = .ok (.lshl, 1) := by decide +kernel
theorem dX3_blockOfFile_16 : decode cX3_blockOfFile 16 = .ok (.aload_n 0, 1) := by decide +kernel
theorem dX3_blockOfFile_17 : decode cX3_blockOfFile 17 = .ok (.aload_n 1, 1) := by decide +kernel
theorem dX3_blockOfFile_18 : decode cX3_blockOfFile 18 = .ok (.iload_n 2, 1) := by decide +kernel
theorem dX3_blockOfFile_19 : decode cX3_blockOfFile 19 = .ok (.bipush 8, 2) := by decide +kernel
theorem dX3_blockOfFile_21 : decode cX3_blockOfFile 21 = .ok (.imul, 1) := by decide +kernel
theorem dX3_blockOfFile_22 : decode cX3_blockOfFile 22 = .ok (.iload 5, 2) := by decide +kernel
theorem dX3_blockOfFile_24 : decode cX3_blockOfFile 24 = .ok (.iadd, 1) := by decide +kernel
theorem dX3_blockOfFile_25 : decode cX3_blockOfFile 25 = .ok (.invokevirtual 36, 3) := by decide +kernel
theorem dX3_blockOfFile_28 : decode cX3_blockOfFile 28 = .ok (.i2l, 1) := by decide +kernel
theorem dX3_blockOfFile_29 : decode cX3_blockOfFile 29 = .ok (.lor, 1) := by decide +kernel
theorem dX3_blockOfFile_30 : decode cX3_blockOfFile 30 = .ok (.lstore_n 3, 1) := by decide +kernel
theorem dX3_blockOfFile_31 : decode cX3_blockOfFile 31 = .ok (.iinc 5 1, 3) := by decide +kernel
theorem dX3_blockOfFile_34 : decode cX3_blockOfFile 34 = .ok (.goto (-29), 3) := by decide +kernel
theorem dX3_blockOfFile_37 : decode cX3_blockOfFile 37 = .ok (.lload_n 3, 1) := by decide +kernel
theorem dX3_blockOfFile_38 : decode cX3_blockOfFile 38 = .ok (.lreturn, 1) := by decide +kernel
theorem dX3_byteOfFile_0 : decode cX3_byteOfFile 0 = .ok (.iload_n 2, 1) := by decide +kernel
theorem dX3_byteOfFile_1 : decode cX3_byteOfFile 1 = .ok (.iconst 3, 1) := by decide +kernel
theorem dX3_byteOfFile_2 : decode cX3_byteOfFile 2 = .ok (.aload_n 0, 1) := by decide +kernel
theorem dX3_byteOfFile_3 : decode cX3_byteOfFile 3 = .ok (.getfield 15, 3) := by decide +kernel
theorem dX3_byteOfFile_6 : decode cX3_byteOfFile 6 = .ok (.iadd, 1) := by decide +kernel
theorem dX3_byteOfFile_7 : decode cX3_byteOfFile 7 = .ok (.if_icmp .ge 10, 3) := by decide +kernel
theorem dX3_byteOfFile_10 : decode cX3_byteOfFile 10 = .ok (.aload_n 0, 1) := by decide +kernel
theorem dX3_byteOfFile_11 : decode cX3_byteOfFile 11 = .ok (.aload_n 1, 1) := by decide +kernel
theorem dX3_byteOfFile_12 : decode cX3_byteOfFile 12 = .ok (.iload_n 2, 1) := by decide +kernel
theorem dX3_byteOfFile_13 : decode cX3_byteOfFile 13 = .ok (.invokevirtual 29, 3) := by decide +kernel
theorem dX3_byteOfFile_16 : decode cX3_byteOfFile 16 = .ok (.ireturn, 1) := by decide +kernel
theorem dX3_byteOfFile_17 : decode cX3_byteOfFile 17 = .ok (.iload_n 2, 1) := by decide +kernel
theorem dX3_byteOfFile_18 : decode cX3_byteOfFile 18 = .ok (.iconst 3, 1) := by decide +kernel
theorem dX3_byteOfFile_19 : decode cX3_byteOfFile 19 = .ok (.aload_n 0, 1) := by decide +kernel
theorem dX3_byteOfFile_20 : decode cX3_byteOfFile 20 = .ok (.getfield 15, 3) := by decide +kernel
theorem dX3_byteOfFile_23 : decode cX3_byteOfFile 23 = .ok (.iadd, 1) := by decide +kernel
theorem dX3_byteOfFile_24 : decode cX3_byteOfFile 24 = .ok (.if_icmp .ne 11, 3) := by decide +kernel
theorem dX3_byteOfFile_27 : decode cX3_byteOfFile 27 = .ok (.aload_n 0, 1) := by decide +kernel
theorem dX3_byteOfFile_28 : decode cX3_byteOfFile 28 = .ok (.aload_n 1, 1) := by decide +kernel
theorem dX3_byteOfFile_29 : decode cX3_byteOfFile 29 = .ok (.invokevirtual 39, 3) := by decide +kernel
theorem dX3_byteOfFile_32 : decode cX3_byteOfFile 32 = .ok (.goto 4, 3) := by decide +kernel
theorem dX3_byteOfFile_35 : decode cX3_byteOfFile 35 = .ok (.iconst 0, 1) := by decide +kernel
theorem dX3_byteOfFile_36 : decode cX3_byteOfFile 36 = .ok (.ireturn, 1) := by decide +kernel
theorem dX3_byteAheadOfCheck_0 : decode cX3_byteAheadOfCheck 0 = .ok (.iload_n 2, 1) := by decide +kernel
theorem dX3_byteAheadOfCheck_1 : decode cX3_byteAheadOfCheck 1 = .ok (.iconst 3, 1) := by decide +kernel
theorem dX3_byteAheadOfCheck_2 : decode cX3_byteAheadOfCheck 2 = .ok (.if_icmp .lt 26, 3) := by decide +kernel
theorem dX3_byteAheadOfCheck_5 : decode cX3_byteAheadOfCheck 5 = .ok (.iload_n 2, 1) := by decide +kernel
theorem dX3_byteAheadOfCheck_6 : decode cX3_byteAheadOfCheck 6 = .ok (.iconst 3, 1) := by decide +kernel
theorem dX3_byteAheadOfCheck_7 : decode cX3_byteAheadOfCheck 7 = .ok (.isub, 1) := by decide +kernel
theorem dX3_byteAheadOfCheck_8 : decode cX3_byteAheadOfCheck 8 = .ok (.aload_n 0, 1) := by decide +kernel
theorem dX3_byteAheadOfCheck_9 : decode cX3_byteAheadOfCheck 9 = .ok (.getfield 15, 3) := by decide +kernel
theorem dX3_byteAheadOfCheck_12 : decode cX3_byteAheadOfCheck 12 = .ok (.if_icmp .ge 14, 3) := by decide +kernel
theorem dX3_byteAheadOfCheck_15 : decode cX3_byteAheadOfCheck 15 = .ok (.aload_n 0, 1) := by decide +kernel
theorem dX3_byteAheadOfCheck_16 : decode cX3_byteAheadOfCheck 16 = .ok (.getfield 9, 3) := by decide +kernel
theorem dX3_byteAheadOfCheck_19 : decode cX3_byteAheadOfCheck 19 = .ok (.iload_n 2, 1) := by decide +kernel
theorem dX3_byteAheadOfCheck_20 : decode cX3_byteAheadOfCheck 20 = .ok (.iconst 3, 1) := by decide +kernel
theorem dX3_byteAheadOfCheck_21 : decode cX3_byteAheadOfCheck 21 = .ok (.isub, 1) := by decide +kernel
theorem dX3_byteAheadOfCheck_22 : decode cX3_byteAheadOfCheck 22 = .ok (.iaload, 1) := by decide +kernel
theorem dX3_byteAheadOfCheck_23 : decode cX3_byteAheadOfCheck 23 = .ok (.goto 4, 3) := by decide +kernel
theorem dX3_byteAheadOfCheck_26 : decode cX3_byteAheadOfCheck 26 = .ok (.iconst 0, 1) := by decide +kernel
theorem dX3_byteAheadOfCheck_27 : decode cX3_byteAheadOfCheck 27 = .ok (.ireturn, 1) := by decide +kernel
theorem dX3_byteAheadOfCheck_28 : decode cX3_byteAheadOfCheck 28 = .ok (.iload_n 2, 1) := by decide +kernel
theorem dX3_byteAheadOfCheck_29 : decode cX3_byteAheadOfCheck 29 = .ok (.iconst 2, 1) := by decide +kernel
theorem dX3_byteAheadOfCheck_30 : decode cX3_byteAheadOfCheck 30 = .ok (.if_icmp .ne 8, 3) := by decide +kernel
theorem dX3_byteAheadOfCheck_33 : decode cX3_byteAheadOfCheck 33 = .ok (.aload_n 0, 1) := by decide +kernel
theorem dX3_byteAheadOfCheck_34 : decode cX3_byteAheadOfCheck 34 = .ok (.getfield 15, 3) := by decide +kernel
theorem dX3_byteAheadOfCheck_37 : decode cX3_byteAheadOfCheck 37 = .ok (.ireturn, 1) := by decide +kernel
theorem dX3_byteAheadOfCheck_38 : decode cX3_byteAheadOfCheck 38 = .ok (.iload_n 2, 1) := by decide +kernel
theorem dX3_byteAheadOfCheck_39 : decode cX3_byteAheadOfCheck 39 = .ok (.ifCond .ne 10, 3) := by decide +kernel
theorem dX3_byteAheadOfCheck_42 : decode cX3_byteAheadOfCheck 42 = .ok (.aload_n 1, 1) := by decide +kernel
theorem dX3_byteAheadOfCheck_43 : decode cX3_byteAheadOfCheck 43 = .ok (.invokevirtual 43, 3) := by decide +kernel
theorem dX3_byteAheadOfCheck_46 : decode cX3_byteAheadOfCheck 46 = .ok (.goto 7, 3) := by decide +kernel
theorem dX3_byteAheadOfCheck_49 : decode cX3_byteAheadOfCheck 49 = .ok (.aload_n 1, 1) := by decide +kernel
theorem dX3_byteAheadOfCheck_50 : decode cX3_byteAheadOfCheck 50 = .ok (.invokevirtual 47, 3) := by decide +kernel
theorem dX3_byteAheadOfCheck_53 : decode cX3_byteAheadOfCheck 53 = .ok (.ireturn, 1) := by decide +kernel
theorem dX4_init_0 : decode cX4_init 0 = .ok (.aload_n 0, 1) := by decide +kernel
theorem dX4_init_1 : decode cX4_init 1 = .ok (.invokespecial 3, 3) := by decide +kernel
theorem dX4_init_4 : decode cX4_init 4 = .ok (.aload_n 0, 1) := by decide +kernel
theorem dX4_init_5 : decode cX4_init 5 = .ok (.iload_n 1, 1) := by decide +kernel
theorem dX4_init_6 : decode cX4_init 6 = .ok (.putfield 9, 3) := by decide +kernel
theorem dX4_init_9 : decode cX4_init 9 = .ok (.aload_n 0, 1) := by decide +kernel
theorem dX4_init_10 : decode cX4_init 10 = .ok (.iload_n 2, 1) := by decide +kernel
theorem dX4_init_11 : decode cX4_init 11 = .ok (.putfield 15, 3) := by decide +kernel
theorem dX4_init_14 : decode cX4_init 14 = .ok (.aload_n 0, 1) := by decide +kernel
theorem dX4_init_15 : decode cX4_init 15 = .ok (.iload_n 3, 1) := by decide +kernel
theorem dX4_init_16 : decode cX4_init 16 = .ok (.putfield 18, 3) := by decide +kernel
theorem dX4_init_19 : decode cX4_init 19 = .ok (.aload_n 0, 1) := by decide +kernel
theorem dX4_init_20 : decode cX4_init 20 = .ok (.iconst 0, 1) := by decide +kernel
theorem dX4_init_21 : decode cX4_init 21 = .ok (.putfield 21, 3) := by decide +kernel
theorem dX4_init_24 : decode cX4_init 24 = .ok (.aload_n 0, 1) := by decide +kernel
theorem dX4_init_25 : decode cX4_init 25 = .ok (.iconst 0, 1) := by decide +kernel
theorem dX4_init_26 : decode cX4_init 26 = .ok (.putfield 24, 3) := by decide +kernel
theorem dX4_init_29 : decode cX4_init 29 = .ok (.aload_n 0, 1) := by decide +kernel
theorem dX4_init_30 : decode cX4_init 30 = .ok (.sipush 4096, 3) := by decide +kernel
theorem dX4_init_33 : decode cX4_init 33 = .ok (.newarray .int, 2) := by decide +kernel
theorem dX4_init_35 : decode cX4_init 35 = .ok (.putfield 27, 3) := by decide +kernel
theorem dX4_init_38 : decode cX4_init 38 = .ok (.return_, 1) := by decide +kernel
theorem dX4_firstHead_0 : decode cX4_firstHead 0 = .ok (.aload_n 0, 1) := by decide +kernel
theorem dX4_firstHead_1 : decode cX4_firstHead 1 = .ok (.getfield 9, 3) := by decide +kernel
theorem dX4_firstHead_4 : decode cX4_firstHead 4 = .ok (.ireturn, 1) := by decide +kernel
theorem dX4_secondHead_0 : decode cX4_secondHead 0 = .ok (.aload_n 0, 1) := by decide +kernel
theorem dX4_secondHead_1 : decode cX4_secondHead 1 = .ok (.getfield 15, 3) := by decide +kernel
theorem dX4_secondHead_4 : decode cX4_secondHead 4 = .ok (.ireturn, 1) := by decide +kernel
theorem dX4_edgeCount_0 : decode cX4_edgeCount 0 = .ok (.aload_n 0, 1) := by decide +kernel
theorem dX4_edgeCount_1 : decode cX4_edgeCount 1 = .ok (.getfield 24, 3) := by decide +kernel
theorem dX4_edgeCount_4 : decode cX4_edgeCount 4 = .ok (.ireturn, 1) := by decide +kernel
theorem dX4_addEdge_0 : decode cX4_addEdge 0 = .ok (.iload_n 2, 1) := by decide +kernel
theorem dX4_addEdge_1 : decode cX4_addEdge 1 = .ok (.istore 5, 2) := by decide +kernel
theorem dX4_addEdge_3 : decode cX4_addEdge 3 = .ok (.iload 5, 2) := by decide +kernel
theorem dX4_addEdge_5 : decode cX4_addEdge 5 = .ok (.iload_n 3, 1) := by decide +kernel
theorem dX4_addEdge_6 : decode cX4_addEdge 6 = .ok (.if_icmp .gt 28, 3) := by decide +kernel
theorem dX4_addEdge_9 : decode cX4_addEdge 9 = .ok (.aload_n 0, 1) := by decide +kernel
theorem dX4_addEdge_10 : decode cX4_addEdge 10 = .ok (.getfield 27, 3) := by decide +kernel
theorem dX4_addEdge_13 : decode cX4_addEdge 13 = .ok (.iload 5, 2) := by decide +kernel
theorem dX4_addEdge_15 : decode cX4_addEdge 15 = .ok (.bipush 16, 2) := by decide +kernel
theorem dX4_addEdge_17 : decode cX4_addEdge 17 = .ok (.imul, 1) := by decide +kernel
theorem dX4_addEdge_18 : decode cX4_addEdge 18 = .ok (.iload_n 1, 1) := by decide +kernel
theorem dX4_addEdge_19 : decode cX4_addEdge 19 = .ok (.iadd, 1) := by decide +kernel
theorem dX4_addEdge_20 : decode cX4_addEdge 20 = .ok (.dup2, 1) := by decide +kernel
theorem dX4_addEdge_21 : decode cX4_addEdge 21 = .ok (.iaload, 1) := by decide +kernel
theorem dX4_addEdge_22 : decode cX4_addEdge 22 = .ok (.iconst 1, 1) := by decide +kernel
theorem dX4_addEdge_23 : decode cX4_addEdge 23 = .ok (.iload 4, 2) := by decide +kernel
theorem dX4_addEdge_25 : decode cX4_addEdge 25 = .ok (.ishl, 1) := by decide +kernel
theorem dX4_addEdge_26 : decode cX4_addEdge 26 = .ok (.ior, 1) := by decide +kernel
theorem dX4_addEdge_27 : decode cX4_addEdge 27 = .ok (.iastore, 1) := by decide +kernel
theorem dX4_addEdge_28 : decode cX4_addEdge 28 = .ok (.iinc 5 1, 3) := by decide +kernel
theorem dX4_addEdge_31 : decode cX4_addEdge 31 = .ok (.goto (-28), 3) := by decide +kernel
theorem dX4_addEdge_34 : decode cX4_addEdge 34 = .ok (.aload_n 0, 1) := by decide +kernel
theorem dX4_addEdge_35 : decode cX4_addEdge 35 = .ok (.dup, 1) := by decide +kernel
theorem dX4_addEdge_36 : decode cX4_addEdge 36 = .ok (.getfield 24, 3) := by decide +kernel
theorem dX4_addEdge_39 : decode cX4_addEdge 39 = .ok (.iconst 1, 1) := by decide +kernel
theorem dX4_addEdge_40 : decode cX4_addEdge 40 = .ok (.iadd, 1) := by decide +kernel
theorem dX4_addEdge_41 : decode cX4_addEdge 41 = .ok (.putfield 24, 3) := by decide +kernel
theorem dX4_addEdge_44 : decode cX4_addEdge 44 = .ok (.return_, 1) := by decide +kernel
theorem dX4_exchangeGoals_0 : decode cX4_exchangeGoals 0 = .ok (.aload_n 0, 1) := by decide +kernel
theorem dX4_exchangeGoals_1 : decode cX4_exchangeGoals 1 = .ok (.getfield 21, 3) := by decide +kernel
theorem dX4_exchangeGoals_4 : decode cX4_exchangeGoals 4 = .ok (.istore_n 2, 1) := by decide +kernel
theorem dX4_exchangeGoals_5 : decode cX4_exchangeGoals 5 = .ok (.aload_n 0, 1) := by decide +kernel
theorem dX4_exchangeGoals_6 : decode cX4_exchangeGoals 6 = .ok (.iload_n 1, 1) := by decide +kernel
theorem dX4_exchangeGoals_7 : decode cX4_exchangeGoals 7 = .ok (.putfield 21, 3) := by decide +kernel
theorem dX4_exchangeGoals_10 : decode cX4_exchangeGoals 10 = .ok (.iload_n 2, 1) := by decide +kernel
theorem dX4_exchangeGoals_11 : decode cX4_exchangeGoals 11 = .ok (.ireturn, 1) := by decide +kernel
theorem dX4_stepFrom_0 : decode cX4_stepFrom 0 = .ok (.iconst 0, 1) := by decide +kernel
theorem dX4_stepFrom_1 : decode cX4_stepFrom 1 = .ok (.istore_n 3, 1) := by decide +kernel
theorem dX4_stepFrom_2 : decode cX4_stepFrom 2 = .ok (.iload_n 2, 1) := by decide +kernel
theorem dX4_stepFrom_3 : decode cX4_stepFrom 3 = .ok (.sipush 255, 3) := by decide +kernel
theorem dX4_stepFrom_6 : decode cX4_stepFrom 6 = .ok (.iand, 1) := by decide +kernel
theorem dX4_stepFrom_7 : decode cX4_stepFrom 7 = .ok (.bipush 16, 2) := by decide +kernel
theorem dX4_stepFrom_9 : decode cX4_stepFrom 9 = .ok (.imul, 1) := by decide +kernel
theorem dX4_stepFrom_10 : decode cX4_stepFrom 10 = .ok (.istore 4, 2) := by decide +kernel
theorem dX4_stepFrom_12 : decode cX4_stepFrom 12 = .ok (.iload_n 1, 1) := by decide +kernel
theorem dX4_stepFrom_13 : decode cX4_stepFrom 13 = .ok (.istore 5, 2) := by decide +kernel
theorem dX4_stepFrom_15 : decode cX4_stepFrom 15 = .ok (.iconst 0, 1) := by decide +kernel
theorem dX4_stepFrom_16 : decode cX4_stepFrom 16 = .ok (.istore 6, 2) := by decide +kernel
theorem dX4_stepFrom_18 : decode cX4_stepFrom 18 = .ok (.iload 6, 2) := by decide +kernel
theorem dX4_stepFrom_20 : decode cX4_stepFrom 20 = .ok (.bipush 16, 2) := by decide +kernel
theorem dX4_stepFrom_22 : decode cX4_stepFrom 22 = .ok (.if_icmp .ge 40, 3) := by decide +kernel
theorem dX4_stepFrom_25 : decode cX4_stepFrom 25 = .ok (.iload 5, 2) := by decide +kernel
theorem dX4_stepFrom_27 : decode cX4_stepFrom 27 = .ok (.ifCond .eq 35, 3) := by decide +kernel
theorem dX4_stepFrom_30 : decode cX4_stepFrom 30 = .ok (.iload 5, 2) := by decide +kernel
theorem dX4_stepFrom_32 : decode cX4_stepFrom 32 = .ok (.iconst 1, 1) := by decide +kernel
theorem dX4_stepFrom_33 : decode cX4_stepFrom 33 = .ok (.iand, 1) := by decide +kernel
theorem dX4_stepFrom_34 : decode cX4_stepFrom 34 = .ok (.ifCond .eq 16, 3) := by decide +kernel
theorem dX4_stepFrom_37 : decode cX4_stepFrom 37 = .ok (.iload_n 3, 1) := by decide +kernel
theorem dX4_stepFrom_38 : decode cX4_stepFrom 38 = .ok (.aload_n 0, 1) := by decide +kernel
theorem dX4_stepFrom_39 : decode cX4_stepFrom 39 = .ok (.getfield 27, 3) := by decide +kernel
theorem dX4_stepFrom_42 : decode cX4_stepFrom 42 = .ok (.iload 4, 2) := by decide +kernel
theorem dX4_stepFrom_44 : decode cX4_stepFrom 44 = .ok (.iload 6, 2) := by decide +kernel
theorem dX4_stepFrom_46 : decode cX4_stepFrom 46 = .ok (.iadd, 1) := by decide +kernel
theorem dX4_stepFrom_47 : decode cX4_stepFrom 47 = .ok (.iaload, 1) := by decide +kernel
theorem dX4_stepFrom_48 : decode cX4_stepFrom 48 = .ok (.ior, 1) := by decide +kernel
theorem dX4_stepFrom_49 : decode cX4_stepFrom 49 = .ok (.istore_n 3, 1) := by decide +kernel
theorem dX4_stepFrom_50 : decode cX4_stepFrom 50 = .ok (.iload 5, 2) := by decide +kernel
theorem dX4_stepFrom_52 : decode cX4_stepFrom 52 = .ok (.iconst 1, 1) := by decide +kernel
theorem dX4_stepFrom_53 : decode cX4_stepFrom 53 = .ok (.iushr, 1) := by decide +kernel
theorem dX4_stepFrom_54 : decode cX4_stepFrom 54 = .ok (.istore 5, 2) := by decide +kernel
theorem dX4_stepFrom_56 : decode cX4_stepFrom 56 = .ok (.iinc 6 1, 3) := by decide +kernel
theorem dX4_stepFrom_59 : decode cX4_stepFrom 59 = .ok (.goto (-41), 3) := by decide +kernel
theorem dX4_stepFrom_62 : decode cX4_stepFrom 62 = .ok (.iload_n 3, 1) := by decide +kernel
theorem dX4_stepFrom_63 : decode cX4_stepFrom 63 = .ok (.ireturn, 1) := by decide +kernel
theorem dX4_mayEndIn_0 : decode cX4_mayEndIn 0 = .ok (.iload_n 1, 1) := by decide +kernel
theorem dX4_mayEndIn_1 : decode cX4_mayEndIn 1 = .ok (.aload_n 0, 1) := by decide +kernel
theorem dX4_mayEndIn_2 : decode cX4_mayEndIn 2 = .ok (.getfield 21, 3) := by decide +kernel
theorem dX4_mayEndIn_5 : decode cX4_mayEndIn 5 = .ok (.iand, 1) := by decide +kernel
theorem dX4_mayEndIn_6 : decode cX4_mayEndIn 6 = .ok (.ifCond .eq 7, 3) := by decide +kernel
theorem dX4_mayEndIn_9 : decode cX4_mayEndIn 9 = .ok (.iconst 1, 1) := by decide +kernel
theorem dX4_mayEndIn_10 : decode cX4_mayEndIn 10 = .ok (.goto 4, 3) := by decide +kernel
theorem dX4_mayEndIn_13 : decode cX4_mayEndIn 13 = .ok (.iconst 0, 1) := by decide +kernel
theorem dX4_mayEndIn_14 : decode cX4_mayEndIn 14 = .ok (.ireturn, 1) := by decide +kernel
theorem dX4_checkWith_0 : decode cX4_checkWith 0 = .ok (.aload_n 0, 1) := by decide +kernel
theorem dX4_checkWith_1 : decode cX4_checkWith 1 = .ok (.getfield 18, 3) := by decide +kernel
theorem dX4_checkWith_4 : decode cX4_checkWith 4 = .ok (.ifCond .ne 11, 3) := by decide +kernel
theorem dX4_checkWith_7 : decode cX4_checkWith 7 = .ok (.iload_n 1, 1) := by decide +kernel
theorem dX4_checkWith_8 : decode cX4_checkWith 8 = .ok (.iload_n 2, 1) := by decide +kernel
theorem dX4_checkWith_9 : decode cX4_checkWith 9 = .ok (.iadd, 1) := by decide +kernel
theorem dX4_checkWith_10 : decode cX4_checkWith 10 = .ok (.sipush 255, 3) := by decide +kernel
theorem dX4_checkWith_13 : decode cX4_checkWith 13 = .ok (.iand, 1) := by decide +kernel
theorem dX4_checkWith_14 : decode cX4_checkWith 14 = .ok (.ireturn, 1) := by decide +kernel
theorem dX4_checkWith_15 : decode cX4_checkWith 15 = .ok (.aload_n 0, 1) := by decide +kernel
theorem dX4_checkWith_16 : decode cX4_checkWith 16 = .ok (.getfield 18, 3) := by decide +kernel
theorem dX4_checkWith_19 : decode cX4_checkWith 19 = .ok (.iconst 1, 1) := by decide +kernel
theorem dX4_checkWith_20 : decode cX4_checkWith 20 = .ok (.if_icmp .ne 9, 3) := by decide +kernel
theorem dX4_checkWith_23 : decode cX4_checkWith 23 = .ok (.iload_n 1, 1) := by decide +kernel
theorem dX4_checkWith_24 : decode cX4_checkWith 24 = .ok (.iload_n 2, 1) := by decide +kernel
theorem dX4_checkWith_25 : decode cX4_checkWith 25 = .ok (.ixor, 1) := by decide +kernel
theorem dX4_checkWith_26 : decode cX4_checkWith 26 = .ok (.goto 9, 3) := by decide +kernel
theorem dX4_checkWith_29 : decode cX4_checkWith 29 = .ok (.iload_n 1, 1) := by decide +kernel
theorem dX4_checkWith_30 : decode cX4_checkWith 30 = .ok (.iload_n 2, 1) := by decide +kernel
theorem dX4_checkWith_31 : decode cX4_checkWith 31 = .ok (.ixor, 1) := by decide +kernel
theorem dX4_checkWith_32 : decode cX4_checkWith 32 = .ok (.invokestatic 31, 3) := by decide +kernel
theorem dX4_checkWith_35 : decode cX4_checkWith 35 = .ok (.ireturn, 1) := by decide +kernel
theorem dX4_crcStep_0 : decode cX4_crcStep 0 = .ok (.iload_n 0, 1) := by decide +kernel
theorem dX4_crcStep_1 : decode cX4_crcStep 1 = .ok (.iload_n 0, 1) := by decide +kernel
theorem dX4_crcStep_2 : decode cX4_crcStep 2 = .ok (.iconst 1, 1) := by decide +kernel
theorem dX4_crcStep_3 : decode cX4_crcStep 3 = .ok (.ishl, 1) := by decide +kernel
theorem dX4_crcStep_4 : decode cX4_crcStep 4 = .ok (.ixor, 1) := by decide +kernel
theorem dX4_crcStep_5 : decode cX4_crcStep 5 = .ok (.iload_n 0, 1) := by decide +kernel
theorem dX4_crcStep_6 : decode cX4_crcStep 6 = .ok (.iconst 2, 1) := by decide +kernel
theorem dX4_crcStep_7 : decode cX4_crcStep 7 = .ok (.ishl, 1) := by decide +kernel
theorem dX4_crcStep_8 : decode cX4_crcStep 8 = .ok (.ixor, 1) := by decide +kernel
theorem dX4_crcStep_9 : decode cX4_crcStep 9 = .ok (.istore_n 1, 1) := by decide +kernel
theorem dX4_crcStep_10 : decode cX4_crcStep 10 = .ok (.iload_n 1, 1) := by decide +kernel
theorem dX4_crcStep_11 : decode cX4_crcStep 11 = .ok (.bipush 8, 2) := by decide +kernel
theorem dX4_crcStep_13 : decode cX4_crcStep 13 = .ok (.iushr, 1) := by decide +kernel
theorem dX4_crcStep_14 : decode cX4_crcStep 14 = .ok (.istore_n 2, 1) := by decide +kernel
theorem dX4_crcStep_15 : decode cX4_crcStep 15 = .ok (.iload_n 1, 1) := by decide +kernel
theorem dX4_crcStep_16 : decode cX4_crcStep 16 = .ok (.iload_n 2, 1) := by decide +kernel
theorem dX4_crcStep_17 : decode cX4_crcStep 17 = .ok (.ixor, 1) := by decide +kernel
theorem dX4_crcStep_18 : decode cX4_crcStep 18 = .ok (.iload_n 2, 1) := by decide +kernel
theorem dX4_crcStep_19 : decode cX4_crcStep 19 = .ok (.iconst 1, 1) := by decide +kernel
theorem dX4_crcStep_20 : decode cX4_crcStep 20 = .ok (.ishl, 1) := by decide +kernel
theorem dX4_crcStep_21 : decode cX4_crcStep 21 = .ok (.ixor, 1) := by decide +kernel
theorem dX4_crcStep_22 : decode cX4_crcStep 22 = .ok (.iload_n 2, 1) := by decide +kernel
theorem dX4_crcStep_23 : decode cX4_crcStep 23 = .ok (.iconst 2, 1) := by decide +kernel
theorem dX4_crcStep_24 : decode cX4_crcStep 24 = .ok (.ishl, 1) := by decide +kernel
theorem dX4_crcStep_25 : decode cX4_crcStep 25 = .ok (.ixor, 1) := by decide +kernel
theorem dX4_crcStep_26 : decode cX4_crcStep 26 = .ok (.sipush 255, 3) := by decide +kernel
theorem dX4_crcStep_29 : decode cX4_crcStep 29 = .ok (.iand, 1) := by decide +kernel
theorem dX4_crcStep_30 : decode cX4_crcStep 30 = .ok (.ireturn, 1) := by decide +kernel
theorem dX5_init_0 : decode cX5_init 0 = .ok (.aload_n 0, 1) := by decide +kernel
theorem dX5_init_1 : decode cX5_init 1 = .ok (.invokespecial 3, 3) := by decide +kernel
theorem dX5_init_4 : decode cX5_init 4 = .ok (.aload_n 0, 1) := by decide +kernel
theorem dX5_init_5 : decode cX5_init 5 = .ok (.aload_n 1, 1) := by decide +kernel
theorem dX5_init_6 : decode cX5_init 6 = .ok (.putfield 9, 3) := by decide +kernel
theorem dX5_init_9 : decode cX5_init 9 = .ok (.aload_n 0, 1) := by decide +kernel
theorem dX5_init_10 : decode cX5_init 10 = .ok (.aload_n 2, 1) := by decide +kernel
theorem dX5_init_11 : decode cX5_init 11 = .ok (.putfield 15, 3) := by decide +kernel
theorem dX5_init_14 : decode cX5_init 14 = .ok (.aload_n 0, 1) := by decide +kernel
theorem dX5_init_15 : decode cX5_init 15 = .ok (.iconst 4, 1) := by decide +kernel
theorem dX5_init_16 : decode cX5_init 16 = .ok (.putfield 19, 3) := by decide +kernel
theorem dX5_init_19 : decode cX5_init 19 = .ok (.aload_n 0, 1) := by decide +kernel
theorem dX5_init_20 : decode cX5_init 20 = .ok (.iconst 0, 1) := by decide +kernel
theorem dX5_init_21 : decode cX5_init 21 = .ok (.putfield 23, 3) := by decide +kernel
theorem dX5_init_24 : decode cX5_init 24 = .ok (.aload_n 0, 1) := by decide +kernel
theorem dX5_init_25 : decode cX5_init 25 = .ok (.iconst 0, 1) := by decide +kernel
theorem dX5_init_26 : decode cX5_init 26 = .ok (.putfield 27, 3) := by decide +kernel
theorem dX5_init_29 : decode cX5_init 29 = .ok (.aload_n 0, 1) := by decide +kernel
theorem dX5_init_30 : decode cX5_init 30 = .ok (.iconst 0, 1) := by decide +kernel
theorem dX5_init_31 : decode cX5_init 31 = .ok (.putfield 30, 3) := by decide +kernel
theorem dX5_init_34 : decode cX5_init 34 = .ok (.aload_n 0, 1) := by decide +kernel
theorem dX5_init_35 : decode cX5_init 35 = .ok (.iconst 0, 1) := by decide +kernel
theorem dX5_init_36 : decode cX5_init 36 = .ok (.putfield 33, 3) := by decide +kernel
theorem dX5_init_39 : decode cX5_init 39 = .ok (.aload_n 0, 1) := by decide +kernel
theorem dX5_init_40 : decode cX5_init 40 = .ok (.iconst 5, 1) := by decide +kernel
theorem dX5_init_41 : decode cX5_init 41 = .ok (.newarray .int, 2) := by decide +kernel
theorem dX5_init_43 : decode cX5_init 43 = .ok (.putfield 36, 3) := by decide +kernel
theorem dX5_init_46 : decode cX5_init 46 = .ok (.aload_n 0, 1) := by decide +kernel
theorem dX5_init_47 : decode cX5_init 47 = .ok (.iconst 5, 1) := by decide +kernel
theorem dX5_init_48 : decode cX5_init 48 = .ok (.newarray .int, 2) := by decide +kernel
theorem dX5_init_50 : decode cX5_init 50 = .ok (.putfield 40, 3) := by decide +kernel
theorem dX5_init_53 : decode cX5_init 53 = .ok (.aload_n 0, 1) := by decide +kernel
theorem dX5_init_54 : decode cX5_init 54 = .ok (.iconst 5, 1) := by decide +kernel
theorem dX5_init_55 : decode cX5_init 55 = .ok (.newarray .int, 2) := by decide +kernel
theorem dX5_init_57 : decode cX5_init 57 = .ok (.putfield 43, 3) := by decide +kernel
theorem dX5_init_60 : decode cX5_init 60 = .ok (.aload_n 0, 1) := by decide +kernel
theorem dX5_init_61 : decode cX5_init 61 = .ok (.iconst 3, 1) := by decide +kernel
theorem dX5_init_62 : decode cX5_init 62 = .ok (.putfield 46, 3) := by decide +kernel
theorem dX5_init_65 : decode cX5_init 65 = .ok (.aload_n 0, 1) := by decide +kernel
theorem dX5_init_66 : decode cX5_init 66 = .ok (.iconst 0, 1) := by decide +kernel
theorem dX5_init_67 : decode cX5_init 67 = .ok (.putfield 49, 3) := by decide +kernel
theorem dX5_init_70 : decode cX5_init 70 = .ok (.aload_n 0, 1) := by decide +kernel
theorem dX5_init_71 : decode cX5_init 71 = .ok (.iconst 0, 1) := by decide +kernel
theorem dX5_init_72 : decode cX5_init 72 = .ok (.putfield 52, 3) := by decide +kernel
theorem dX5_init_75 : decode cX5_init 75 = .ok (.return_, 1) := by decide +kernel
theorem dX5_begin_0 : decode cX5_begin 0 = .ok (.aload_n 0, 1) := by decide +kernel
theorem dX5_begin_1 : decode cX5_begin 1 = .ok (.iload_n 1, 1) := by decide +kernel
theorem dX5_begin_2 : decode cX5_begin 2 = .ok (.putfield 19, 3) := by decide +kernel
theorem dX5_begin_5 : decode cX5_begin 5 = .ok (.aload_n 0, 1) := by decide +kernel
theorem dX5_begin_6 : decode cX5_begin 6 = .ok (.iload_n 2, 1) := by decide +kernel
theorem dX5_begin_7 : decode cX5_begin 7 = .ok (.putfield 23, 3) := by decide +kernel
theorem dX5_begin_10 : decode cX5_begin 10 = .ok (.aload_n 0, 1) := by decide +kernel
theorem dX5_begin_11 : decode cX5_begin 11 = .ok (.iconst 0, 1) := by decide +kernel
theorem dX5_begin_12 : decode cX5_begin 12 = .ok (.putfield 27, 3) := by decide +kernel
theorem dX5_begin_15 : decode cX5_begin 15 = .ok (.aload_n 0, 1) := by decide +kernel
theorem dX5_begin_16 : decode cX5_begin 16 = .ok (.iconst 0, 1) := by decide +kernel
theorem dX5_begin_17 : decode cX5_begin 17 = .ok (.putfield 30, 3) := by decide +kernel
theorem dX5_begin_20 : decode cX5_begin 20 = .ok (.return_, 1) := by decide +kernel
theorem dX5_looks_0 : decode cX5_looks 0 = .ok (.aload_n 0, 1) := by decide +kernel
theorem dX5_looks_1 : decode cX5_looks 1 = .ok (.getfield 27, 3) := by decide +kernel
theorem dX5_looks_4 : decode cX5_looks 4 = .ok (.ireturn, 1) := by decide +kernel
theorem dX5_isTooLong_0 : decode cX5_isTooLong 0 = .ok (.aload_n 0, 1) := by decide +kernel
theorem dX5_isTooLong_1 : decode cX5_isTooLong 1 = .ok (.getfield 27, 3) := by decide +kernel
theorem dX5_isTooLong_4 : decode cX5_isTooLong 4 = .ok (.sipush 20000, 3) := by decide +kernel
theorem dX5_isTooLong_7 : decode cX5_isTooLong 7 = .ok (.if_icmp .le 7, 3) := by decide +kernel
theorem dX5_isTooLong_10 : decode cX5_isTooLong 10 = .ok (.iconst 1, 1) := by decide +kernel
theorem dX5_isTooLong_11 : decode cX5_isTooLong 11 = .ok (.goto 4, 3) := by decide +kernel
theorem dX5_isTooLong_14 : decode cX5_isTooLong 14 = .ok (.iconst 0, 1) := by decide +kernel
theorem dX5_isTooLong_15 : decode cX5_isTooLong 15 = .ok (.ireturn, 1) := by decide +kernel
theorem dX5_longest_0 : decode cX5_longest 0 = .ok (.aload_n 0, 1) := by decide +kernel
theorem dX5_longest_1 : decode cX5_longest 1 = .ok (.getfield 30, 3) := by decide +kernel
theorem dX5_longest_4 : decode cX5_longest 4 = .ok (.ireturn, 1) := by decide +kernel
theorem dX5_lookFrom_0 : decode cX5_lookFrom 0 = .ok (.aload_n 0, 1) := by decide +kernel
theorem dX5_lookFrom_1 : decode cX5_lookFrom 1 = .ok (.iload_n 2, 1) := by decide +kernel
theorem dX5_lookFrom_2 : decode cX5_lookFrom 2 = .ok (.putfield 33, 3) := by decide +kernel
theorem dX5_lookFrom_5 : decode cX5_lookFrom 5 = .ok (.aload_n 0, 1) := by decide +kernel
theorem dX5_lookFrom_6 : decode cX5_lookFrom 6 = .ok (.aload_n 1, 1) := by decide +kernel
theorem dX5_lookFrom_7 : decode cX5_lookFrom 7 = .ok (.iconst 0, 1) := by decide +kernel
theorem dX5_lookFrom_8 : decode cX5_lookFrom 8 = .ok (.iload_n 3, 1) := by decide +kernel
theorem dX5_lookFrom_9 : decode cX5_lookFrom 9 = .ok (.iconst 0, 1) := by decide +kernel
theorem dX5_lookFrom_10 : decode cX5_lookFrom 10 = .ok (.invokevirtual 55, 3) := by decide +kernel
theorem dX5_lookFrom_13 : decode cX5_lookFrom 13 = .ok (.return_, 1) := by decide +kernel
theorem dX5_lookAt_0 : decode cX5_lookAt 0 = .ok (.aload_n 0, 1) := by decide +kernel
theorem dX5_lookAt_1 : decode cX5_lookAt 1 = .ok (.invokevirtual 59, 3) := by decide +kernel
theorem dX5_lookAt_4 : decode cX5_lookAt 4 = .ok (.ifCond .ne 8, 3) := by decide +kernel
theorem dX5_lookAt_7 : decode cX5_lookAt 7 = .ok (.iload_n 2, 1) := by decide +kernel
theorem dX5_lookAt_8 : decode cX5_lookAt 8 = .ok (.iconst 5, 1) := by decide +kernel
theorem dX5_lookAt_9 : decode cX5_lookAt 9 = .ok (.if_icmp .lt 4, 3) := by decide +kernel
theorem dX5_lookAt_12 : decode cX5_lookAt 12 = .ok (.return_, 1) := by decide +kernel
theorem dX5_lookAt_13 : decode cX5_lookAt 13 = .ok (.aload_n 0, 1) := by decide +kernel
theorem dX5_lookAt_14 : decode cX5_lookAt 14 = .ok (.dup, 1) := by decide +kernel
theorem dX5_lookAt_15 : decode cX5_lookAt 15 = .ok (.getfield 27, 3) := by decide +kernel
theorem dX5_lookAt_18 : decode cX5_lookAt 18 = .ok (.iconst 1, 1) := by decide +kernel
theorem dX5_lookAt_19 : decode cX5_lookAt 19 = .ok (.iadd, 1) := by decide +kernel
theorem dX5_lookAt_20 : decode cX5_lookAt 20 = .ok (.putfield 27, 3) := by decide +kernel
theorem dX5_lookAt_23 : decode cX5_lookAt 23 = .ok (.aload_n 0, 1) := by decide +kernel
theorem dX5_lookAt_24 : decode cX5_lookAt 24 = .ok (.invokevirtual 59, 3) := by decide +kernel
theorem dX5_lookAt_27 : decode cX5_lookAt 27 = .ok (.ifCond .ne 13, 3) := by decide +kernel
theorem dX5_lookAt_30 : decode cX5_lookAt 30 = .ok (.aload_n 0, 1) := by decide +kernel
theorem dX5_lookAt_31 : decode cX5_lookAt 31 = .ok (.aload_n 1, 1) := by decide +kernel
theorem dX5_lookAt_32 : decode cX5_lookAt 32 = .ok (.iload_n 2, 1) := by decide +kernel
theorem dX5_lookAt_33 : decode cX5_lookAt 33 = .ok (.iload_n 3, 1) := by decide +kernel
theorem dX5_lookAt_34 : decode cX5_lookAt 34 = .ok (.invokevirtual 63, 3) := by decide +kernel
theorem dX5_lookAt_37 : decode cX5_lookAt 37 = .ok (.ifCond .ne 4, 3) := by decide +kernel
theorem dX5_lookAt_40 : decode cX5_lookAt 40 = .ok (.return_, 1) := by decide +kernel
theorem dX5_lookAt_41 : decode cX5_lookAt 41 = .ok (.aload_n 0, 1) := by decide +kernel
theorem dX5_lookAt_42 : decode cX5_lookAt 42 = .ok (.getfield 36, 3) := by decide +kernel
theorem dX5_lookAt_45 : decode cX5_lookAt 45 = .ok (.iload_n 2, 1) := by decide +kernel
theorem dX5_lookAt_46 : decode cX5_lookAt 46 = .ok (.iload_n 3, 1) := by decide +kernel
theorem dX5_lookAt_47 : decode cX5_lookAt 47 = .ok (.iastore, 1) := by decide +kernel
theorem dX5_lookAt_48 : decode cX5_lookAt 48 = .ok (.aload_n 0, 1) := by decide +kernel
theorem dX5_lookAt_49 : decode cX5_lookAt 49 = .ok (.aload_n 0, 1) := by decide +kernel
theorem dX5_lookAt_50 : decode cX5_lookAt 50 = .ok (.getfield 30, 3) := by decide +kernel
theorem dX5_lookAt_53 : decode cX5_lookAt 53 = .ok (.iload_n 2, 1) := by decide +kernel
theorem dX5_lookAt_54 : decode cX5_lookAt 54 = .ok (.iconst 1, 1) := by decide +kernel
theorem dX5_lookAt_55 : decode cX5_lookAt 55 = .ok (.iadd, 1) := by decide +kernel
theorem dX5_lookAt_56 : decode cX5_lookAt 56 = .ok (.invokestatic 67, 3) := by decide +kernel
theorem dX5_lookAt_59 : decode cX5_lookAt 59 = .ok (.putfield 30, 3) := by decide +kernel
theorem dX5_lookAt_62 : decode cX5_lookAt 62 = .ok (.aload_n 0, 1) := by decide +kernel
theorem dX5_lookAt_63 : decode cX5_lookAt 63 = .ok (.getfield 46, 3) := by decide +kernel
theorem dX5_lookAt_66 : decode cX5_lookAt 66 = .ok (.bipush 8, 2) := by decide +kernel
theorem dX5_lookAt_68 : decode cX5_lookAt 68 = .ok (.idiv, 1) := by decide +kernel
theorem dX5_lookAt_69 : decode cX5_lookAt 69 = .ok (.iload_n 2, 1) := by decide +kernel
theorem dX5_lookAt_70 : decode cX5_lookAt 70 = .ok (.if_icmp .ne 11, 3) := by decide +kernel
theorem dX5_lookAt_73 : decode cX5_lookAt 73 = .ok (.aload_n 0, 1) := by decide +kernel
theorem dX5_lookAt_74 : decode cX5_lookAt 74 = .ok (.iload_n 2, 1) := by decide +kernel
theorem dX5_lookAt_75 : decode cX5_lookAt 75 = .ok (.iconst 1, 1) := by decide +kernel
theorem dX5_lookAt_76 : decode cX5_lookAt 76 = .ok (.iadd, 1) := by decide +kernel
theorem dX5_lookAt_77 : decode cX5_lookAt 77 = .ok (.invokevirtual 73, 3) := by decide +kernel
theorem dX5_lookAt_80 : decode cX5_lookAt 80 = .ok (.return_, 1) := by decide +kernel
theorem dX5_lookAt_81 : decode cX5_lookAt 81 = .ok (.iload 4, 2) := by decide +kernel
theorem dX5_lookAt_83 : decode cX5_lookAt 83 = .ok (.iconst 1, 1) := by decide +kernel
theorem dX5_lookAt_84 : decode cX5_lookAt 84 = .ok (.iload_n 3, 1) := by decide +kernel
theorem dX5_lookAt_85 : decode cX5_lookAt 85 = .ok (.ishl, 1) := by decide +kernel
theorem dX5_lookAt_86 : decode cX5_lookAt 86 = .ok (.ior, 1) := by decide +kernel
theorem dX5_lookAt_87 : decode cX5_lookAt 87 = .ok (.istore 5, 2) := by decide +kernel
theorem dX5_lookAt_89 : decode cX5_lookAt 89 = .ok (.aload_n 0, 1) := by decide +kernel
theorem dX5_lookAt_90 : decode cX5_lookAt 90 = .ok (.getfield 9, 3) := by decide +kernel
theorem dX5_lookAt_93 : decode cX5_lookAt 93 = .ok (.invokevirtual 77, 3) := by decide +kernel
theorem dX5_lookAt_96 : decode cX5_lookAt 96 = .ok (.iconst 1, 1) := by decide +kernel
theorem dX5_lookAt_97 : decode cX5_lookAt 97 = .ok (.isub, 1) := by decide +kernel
theorem dX5_lookAt_98 : decode cX5_lookAt 98 = .ok (.iload_n 3, 1) := by decide +kernel
theorem dX5_lookAt_99 : decode cX5_lookAt 99 = .ok (.aload_n 0, 1) := by decide +kernel
theorem dX5_lookAt_100 : decode cX5_lookAt 100 = .ok (.getfield 19, 3) := by decide +kernel
theorem dX5_lookAt_103 : decode cX5_lookAt 103 = .ok (.iadd, 1) := by decide +kernel
theorem dX5_lookAt_104 : decode cX5_lookAt 104 = .ok (.invokestatic 83, 3) := by decide +kernel
theorem dX5_lookAt_107 : decode cX5_lookAt 107 = .ok (.istore 6, 2) := by decide +kernel
theorem dX5_lookAt_109 : decode cX5_lookAt 109 = .ok (.iconst 0, 1) := by decide +kernel
theorem dX5_lookAt_110 : decode cX5_lookAt 110 = .ok (.iload_n 3, 1) := by decide +kernel
theorem dX5_lookAt_111 : decode cX5_lookAt 111 = .ok (.aload_n 0, 1) := by decide +kernel
theorem dX5_lookAt_112 : decode cX5_lookAt 112 = .ok (.getfield 19, 3) := by decide +kernel
theorem dX5_lookAt_115 : decode cX5_lookAt 115 = .ok (.isub, 1) := by decide +kernel
theorem dX5_lookAt_116 : decode cX5_lookAt 116 = .ok (.invokestatic 67, 3) := by decide +kernel
theorem dX5_lookAt_119 : decode cX5_lookAt 119 = .ok (.istore 7, 2) := by decide +kernel
theorem dX5_lookAt_121 : decode cX5_lookAt 121 = .ok (.iload 7, 2) := by decide +kernel
theorem dX5_lookAt_123 : decode cX5_lookAt 123 = .ok (.iload 6, 2) := by decide +kernel
theorem dX5_lookAt_125 : decode cX5_lookAt 125 = .ok (.if_icmp .gt 31, 3) := by decide +kernel
theorem dX5_lookAt_128 : decode cX5_lookAt 128 = .ok (.iload 5, 2) := by decide +kernel
theorem dX5_lookAt_130 : decode cX5_lookAt 130 = .ok (.iload 7, 2) := by decide +kernel
theorem dX5_lookAt_132 : decode cX5_lookAt 132 = .ok (.iushr, 1) := by decide +kernel
theorem dX5_lookAt_133 : decode cX5_lookAt 133 = .ok (.iconst 1, 1) := by decide +kernel
theorem dX5_lookAt_134 : decode cX5_lookAt 134 = .ok (.iand, 1) := by decide +kernel
theorem dX5_lookAt_135 : decode cX5_lookAt 135 = .ok (.ifCond .ne 15, 3) := by decide +kernel
theorem dX5_lookAt_138 : decode cX5_lookAt 138 = .ok (.aload_n 0, 1) := by decide +kernel
theorem dX5_lookAt_139 : decode cX5_lookAt 139 = .ok (.aload_n 1, 1) := by decide +kernel
theorem dX5_lookAt_140 : decode cX5_lookAt 140 = .ok (.iload_n 2, 1) := by decide +kernel
theorem dX5_lookAt_141 : decode cX5_lookAt 141 = .ok (.iconst 1, 1) := by decide +kernel
theorem dX5_lookAt_142 : decode cX5_lookAt 142 = .ok (.iadd, 1) := by decide +kernel
theorem dX5_lookAt_143 : decode cX5_lookAt 143 = .ok (.iload 7, 2) := by decide +kernel
theorem dX5_lookAt_145 : decode cX5_lookAt 145 = .ok (.iload 5, 2) := by decide +kernel
theorem dX5_lookAt_147 : decode cX5_lookAt 147 = .ok (.invokevirtual 55, 3) := by decide +kernel
theorem dX5_lookAt_150 : decode cX5_lookAt 150 = .ok (.iinc 7 1, 3) := by decide +kernel
theorem dX5_lookAt_153 : decode cX5_lookAt 153 = .ok (.goto (-32), 3) := by decide +kernel
theorem dX5_lookAt_156 : decode cX5_lookAt 156 = .ok (.return_, 1) := by decide +kernel
theorem dX5_keepRow_0 : decode cX5_keepRow 0 = .ok (.aload_n 0, 1) := by decide +kernel
theorem dX5_keepRow_1 : decode cX5_keepRow 1 = .ok (.getfield 23, 3) := by decide +kernel
theorem dX5_keepRow_4 : decode cX5_keepRow 4 = .ok (.ifCond .eq 19, 3) := by decide +kernel
theorem dX5_keepRow_7 : decode cX5_keepRow 7 = .ok (.aload_n 0, 1) := by decide +kernel
theorem dX5_keepRow_8 : decode cX5_keepRow 8 = .ok (.getfield 15, 3) := by decide +kernel
theorem dX5_keepRow_11 : decode cX5_keepRow 11 = .ok (.aload_n 0, 1) := by decide +kernel
theorem dX5_keepRow_12 : decode cX5_keepRow 12 = .ok (.getfield 36, 3) := by decide +kernel
theorem dX5_keepRow_15 : decode cX5_keepRow 15 = .ok (.iload_n 1, 1) := by decide +kernel
theorem dX5_keepRow_16 : decode cX5_keepRow 16 = .ok (.aload_n 0, 1) := by decide +kernel
theorem dX5_keepRow_17 : decode cX5_keepRow 17 = .ok (.getfield 33, 3) := by decide +kernel
theorem dX5_keepRow_20 : decode cX5_keepRow 20 = .ok (.invokevirtual 86, 3) := by decide +kernel
theorem dX5_keepRow_23 : decode cX5_keepRow 23 = .ok (.return_, 1) := by decide +kernel
theorem dX5_fits_0 : decode cX5_fits 0 = .ok (.aload_n 0, 1) := by decide +kernel
theorem dX5_fits_1 : decode cX5_fits 1 = .ok (.getfield 9, 3) := by decide +kernel
theorem dX5_fits_4 : decode cX5_fits 4 = .ok (.iload_n 3, 1) := by decide +kernel
theorem dX5_fits_5 : decode cX5_fits 5 = .ok (.invokevirtual 92, 3) := by decide +kernel
theorem dX5_fits_8 : decode cX5_fits 8 = .ok (.lstore 4, 2) := by decide +kernel
theorem dX5_fits_10 : decode cX5_fits 10 = .ok (.iload_n 2, 1) := by decide +kernel
theorem dX5_fits_11 : decode cX5_fits 11 = .ok (.ifCond .ne 15, 3) := by decide +kernel
theorem dX5_fits_14 : decode cX5_fits 14 = .ok (.aload_n 0, 1) := by decide +kernel
theorem dX5_fits_15 : decode cX5_fits 15 = .ok (.aload_n 1, 1) := by decide +kernel
theorem dX5_fits_16 : decode cX5_fits 16 = .ok (.lload 4, 2) := by decide +kernel
theorem dX5_fits_18 : decode cX5_fits 18 = .ok (.invokevirtual 96, 3) := by decide +kernel
theorem dX5_fits_21 : decode cX5_fits 21 = .ok (.ifCond .ne 5, 3) := by decide +kernel
theorem dX5_fits_24 : decode cX5_fits 24 = .ok (.iconst 0, 1) := by decide +kernel
theorem dX5_fits_25 : decode cX5_fits 25 = .ok (.ireturn, 1) := by decide +kernel
theorem dX5_fits_26 : decode cX5_fits 26 = .ok (.aload_n 0, 1) := by decide +kernel
theorem dX5_fits_27 : decode cX5_fits 27 = .ok (.getfield 46, 3) := by decide +kernel
theorem dX5_fits_30 : decode cX5_fits 30 = .ok (.iload_n 2, 1) := by decide +kernel
theorem dX5_fits_31 : decode cX5_fits 31 = .ok (.bipush 8, 2) := by decide +kernel
theorem dX5_fits_33 : decode cX5_fits 33 = .ok (.imul, 1) := by decide +kernel
theorem dX5_fits_34 : decode cX5_fits 34 = .ok (.isub, 1) := by decide +kernel
theorem dX5_fits_35 : decode cX5_fits 35 = .ok (.istore 6, 2) := by decide +kernel
theorem dX5_fits_37 : decode cX5_fits 37 = .ok (.iload 6, 2) := by decide +kernel
theorem dX5_fits_39 : decode cX5_fits 39 = .ok (.bipush 8, 2) := by decide +kernel
theorem dX5_fits_41 : decode cX5_fits 41 = .ok (.invokestatic 83, 3) := by decide +kernel
theorem dX5_fits_44 : decode cX5_fits 44 = .ok (.istore 7, 2) := by decide +kernel
theorem dX5_fits_46 : decode cX5_fits 46 = .ok (.iload 6, 2) := by decide +kernel
theorem dX5_fits_48 : decode cX5_fits 48 = .ok (.bipush 8, 2) := by decide +kernel
theorem dX5_fits_50 : decode cX5_fits 50 = .ok (.if_icmp .ge 7, 3) := by decide +kernel
theorem dX5_fits_53 : decode cX5_fits 53 = .ok (.iconst 1, 1) := by decide +kernel
theorem dX5_fits_54 : decode cX5_fits 54 = .ok (.goto 4, 3) := by decide +kernel
theorem dX5_fits_57 : decode cX5_fits 57 = .ok (.iconst 0, 1) := by decide +kernel
theorem dX5_fits_58 : decode cX5_fits 58 = .ok (.istore 8, 2) := by decide +kernel
theorem dX5_fits_60 : decode cX5_fits 60 = .ok (.iload 8, 2) := by decide +kernel
theorem dX5_fits_62 : decode cX5_fits 62 = .ok (.ifCond .eq 15, 3) := by decide +kernel
theorem dX5_fits_65 : decode cX5_fits 65 = .ok (.lload 4, 2) := by decide +kernel
theorem dX5_fits_67 : decode cX5_fits 67 = .ok (.iload 7, 2) := by decide +kernel
theorem dX5_fits_69 : decode cX5_fits 69 = .ok (.invokestatic 100, 3) := by decide +kernel
theorem dX5_fits_72 : decode cX5_fits 72 = .ok (.ifCond .ne 5, 3) := by decide +kernel
theorem dX5_fits_75 : decode cX5_fits 75 = .ok (.iconst 0, 1) := by decide +kernel
theorem dX5_fits_76 : decode cX5_fits 76 = .ok (.ireturn, 1) := by decide +kernel
theorem dX5_fits_77 : decode cX5_fits 77 = .ok (.aload_n 0, 1) := by decide +kernel
theorem dX5_fits_78 : decode cX5_fits 78 = .ok (.aload_n 1, 1) := by decide +kernel
theorem dX5_fits_79 : decode cX5_fits 79 = .ok (.iload_n 2, 1) := by decide +kernel
theorem dX5_fits_80 : decode cX5_fits 80 = .ok (.lload 4, 2) := by decide +kernel
theorem dX5_fits_82 : decode cX5_fits 82 = .ok (.iload 7, 2) := by decide +kernel
theorem dX5_fits_84 : decode cX5_fits 84 = .ok (.invokevirtual 104, 3) := by decide +kernel
theorem dX5_fits_87 : decode cX5_fits 87 = .ok (.iload 6, 2) := by decide +kernel
theorem dX5_fits_89 : decode cX5_fits 89 = .ok (.bipush 8, 2) := by decide +kernel
theorem dX5_fits_91 : decode cX5_fits 91 = .ok (.if_icmp .gt 14, 3) := by decide +kernel
theorem dX5_fits_94 : decode cX5_fits 94 = .ok (.aload_n 1, 1) := by decide +kernel
theorem dX5_fits_95 : decode cX5_fits 95 = .ok (.aload_n 0, 1) := by decide +kernel
theorem dX5_fits_96 : decode cX5_fits 96 = .ok (.getfield 49, 3) := by decide +kernel
theorem dX5_fits_99 : decode cX5_fits 99 = .ok (.invokevirtual 108, 3) := by decide +kernel
theorem dX5_fits_102 : decode cX5_fits 102 = .ok (.goto 15, 3) := by decide +kernel
theorem dX5_fits_105 : decode cX5_fits 105 = .ok (.aload_n 0, 1) := by decide +kernel
theorem dX5_fits_106 : decode cX5_fits 106 = .ok (.getfield 49, 3) := by decide +kernel
theorem dX5_fits_109 : decode cX5_fits 109 = .ok (.ifCond .eq 7, 3) := by decide +kernel
theorem dX5_fits_112 : decode cX5_fits 112 = .ok (.iconst 1, 1) := by decide +kernel
theorem dX5_fits_113 : decode cX5_fits 113 = .ok (.goto 4, 3) := by decide +kernel
theorem dX5_fits_116 : decode cX5_fits 116 = .ok (.iconst 0, 1) := by decide +kernel
theorem dX5_fits_117 : decode cX5_fits 117 = .ok (.istore 9, 2) := by decide +kernel
theorem dX5_fits_119 : decode cX5_fits 119 = .ok (.iload 9, 2) := by decide +kernel
theorem dX5_fits_121 : decode cX5_fits 121 = .ok (.ifCond .eq 22, 3) := by decide +kernel
theorem dX5_fits_124 : decode cX5_fits 124 = .ok (.iload 8, 2) := by decide +kernel
theorem dX5_fits_126 : decode cX5_fits 126 = .ok (.ifCond .eq 19, 3) := by decide +kernel
theorem dX5_fits_129 : decode cX5_fits 129 = .ok (.lload 4, 2) := by decide +kernel
theorem dX5_fits_131 : decode cX5_fits 131 = .ok (.iload 7, 2) := by decide +kernel
theorem dX5_fits_133 : decode cX5_fits 133 = .ok (.invokestatic 114, 3) := by decide +kernel
theorem dX5_fits_136 : decode cX5_fits 136 = .ok (.aload_n 0, 1) := by decide +kernel
theorem dX5_fits_137 : decode cX5_fits 137 = .ok (.getfield 52, 3) := by decide +kernel
theorem dX5_fits_140 : decode cX5_fits 140 = .ok (.if_icmp .eq 5, 3) := by decide +kernel
theorem dX5_fits_143 : decode cX5_fits 143 = .ok (.iconst 0, 1) := by decide +kernel
theorem dX5_fits_144 : decode cX5_fits 144 = .ok (.ireturn, 1) := by decide +kernel
theorem dX5_fits_145 : decode cX5_fits 145 = .ok (.aload_n 0, 1) := by decide +kernel
theorem dX5_fits_146 : decode cX5_fits 146 = .ok (.getfield 40, 3) := by decide +kernel
theorem dX5_fits_149 : decode cX5_fits 149 = .ok (.iload_n 2, 1) := by decide +kernel
theorem dX5_fits_150 : decode cX5_fits 150 = .ok (.aload_n 0, 1) := by decide +kernel
theorem dX5_fits_151 : decode cX5_fits 151 = .ok (.getfield 49, 3) := by decide +kernel
theorem dX5_fits_154 : decode cX5_fits 154 = .ok (.iastore, 1) := by decide +kernel
theorem dX5_fits_155 : decode cX5_fits 155 = .ok (.aload_n 0, 1) := by decide +kernel
theorem dX5_fits_156 : decode cX5_fits 156 = .ok (.getfield 43, 3) := by decide +kernel
theorem dX5_fits_159 : decode cX5_fits 159 = .ok (.iload_n 2, 1) := by decide +kernel
theorem dX5_fits_160 : decode cX5_fits 160 = .ok (.aload_n 0, 1) := by decide +kernel
theorem dX5_fits_161 : decode cX5_fits 161 = .ok (.getfield 52, 3) := by decide +kernel
theorem dX5_fits_164 : decode cX5_fits 164 = .ok (.iastore, 1) := by decide +kernel
theorem dX5_fits_165 : decode cX5_fits 165 = .ok (.iconst 1, 1) := by decide +kernel
theorem dX5_fits_166 : decode cX5_fits 166 = .ok (.ireturn, 1) := by decide +kernel
theorem dX5_readsHead_0 : decode cX5_readsHead 0 = .ok (.lload_n 2, 1) := by decide +kernel
theorem dX5_readsHead_1 : decode cX5_readsHead 1 = .ok (.iconst 2, 1) := by decide +kernel
theorem dX5_readsHead_2 : decode cX5_readsHead 2 = .ok (.invokestatic 114, 3) := by decide +kernel
theorem dX5_readsHead_5 : decode cX5_readsHead 5 = .ok (.istore 4, 2) := by decide +kernel
theorem dX5_readsHead_7 : decode cX5_readsHead 7 = .ok (.aload_n 0, 1) := by decide +kernel
theorem dX5_readsHead_8 : decode cX5_readsHead 8 = .ok (.iconst 3, 1) := by decide +kernel
theorem dX5_readsHead_9 : decode cX5_readsHead 9 = .ok (.iload 4, 2) := by decide +kernel
theorem dX5_readsHead_11 : decode cX5_readsHead 11 = .ok (.iadd, 1) := by decide +kernel
theorem dX5_readsHead_12 : decode cX5_readsHead 12 = .ok (.putfield 46, 3) := by decide +kernel
theorem dX5_readsHead_15 : decode cX5_readsHead 15 = .ok (.lload_n 2, 1) := by decide +kernel
theorem dX5_readsHead_16 : decode cX5_readsHead 16 = .ok (.iconst 0, 1) := by decide +kernel
theorem dX5_readsHead_17 : decode cX5_readsHead 17 = .ok (.invokestatic 114, 3) := by decide +kernel
theorem dX5_readsHead_20 : decode cX5_readsHead 20 = .ok (.aload_n 1, 1) := by decide +kernel
theorem dX5_readsHead_21 : decode cX5_readsHead 21 = .ok (.invokevirtual 118, 3) := by decide +kernel
theorem dX5_readsHead_24 : decode cX5_readsHead 24 = .ok (.if_icmp .ne 26, 3) := by decide +kernel
theorem dX5_readsHead_27 : decode cX5_readsHead 27 = .ok (.lload_n 2, 1) := by decide +kernel
theorem dX5_readsHead_28 : decode cX5_readsHead 28 = .ok (.iconst 1, 1) := by decide +kernel
theorem dX5_readsHead_29 : decode cX5_readsHead 29 = .ok (.invokestatic 114, 3) := by decide +kernel
theorem dX5_readsHead_32 : decode cX5_readsHead 32 = .ok (.aload_n 1, 1) := by decide +kernel
theorem dX5_readsHead_33 : decode cX5_readsHead 33 = .ok (.invokevirtual 121, 3) := by decide +kernel
theorem dX5_readsHead_36 : decode cX5_readsHead 36 = .ok (.if_icmp .ne 14, 3) := by decide +kernel
theorem dX5_readsHead_39 : decode cX5_readsHead 39 = .ok (.iload 4, 2) := by decide +kernel
theorem dX5_readsHead_41 : decode cX5_readsHead 41 = .ok (.bipush 36, 2) := by decide +kernel
theorem dX5_readsHead_43 : decode cX5_readsHead 43 = .ok (.if_icmp .gt 7, 3) := by decide +kernel
theorem dX5_readsHead_46 : decode cX5_readsHead 46 = .ok (.iconst 1, 1) := by decide +kernel
theorem dX5_readsHead_47 : decode cX5_readsHead 47 = .ok (.goto 4, 3) := by decide +kernel
theorem dX5_readsHead_50 : decode cX5_readsHead 50 = .ok (.iconst 0, 1) := by decide +kernel
theorem dX5_readsHead_51 : decode cX5_readsHead 51 = .ok (.ireturn, 1) := by decide +kernel
theorem dX5_readAheadOfCheck_0 : decode cX5_readAheadOfCheck 0 = .ok (.aload_n 0, 1) := by decide +kernel
theorem dX5_readAheadOfCheck_1 : decode cX5_readAheadOfCheck 1 = .ok (.iload_n 2, 1) := by decide +kernel
theorem dX5_readAheadOfCheck_2 : decode cX5_readAheadOfCheck 2 = .ok (.ifCond .ne 7, 3) := by decide +kernel
theorem dX5_readAheadOfCheck_5 : decode cX5_readAheadOfCheck 5 = .ok (.iconst 1, 1) := by decide +kernel
theorem dX5_readAheadOfCheck_6 : decode cX5_readAheadOfCheck 6 = .ok (.goto 11, 3) := by decide +kernel
theorem dX5_readAheadOfCheck_9 : decode cX5_readAheadOfCheck 9 = .ok (.aload_n 0, 1) := by decide +kernel
theorem dX5_readAheadOfCheck_10 : decode cX5_readAheadOfCheck 10 = .ok (.getfield 40, 3) := by decide +kernel
theorem dX5_readAheadOfCheck_13 : decode cX5_readAheadOfCheck 13 = .ok (.iload_n 2, 1) := by decide +kernel
theorem dX5_readAheadOfCheck_14 : decode cX5_readAheadOfCheck 14 = .ok (.iconst 1, 1) := by decide +kernel
theorem dX5_readAheadOfCheck_15 : decode cX5_readAheadOfCheck 15 = .ok (.isub, 1) := by decide +kernel
theorem dX5_readAheadOfCheck_16 : decode cX5_readAheadOfCheck 16 = .ok (.iaload, 1) := by decide +kernel
theorem dX5_readAheadOfCheck_17 : decode cX5_readAheadOfCheck 17 = .ok (.putfield 49, 3) := by decide +kernel
theorem dX5_readAheadOfCheck_20 : decode cX5_readAheadOfCheck 20 = .ok (.aload_n 0, 1) := by decide +kernel
theorem dX5_readAheadOfCheck_21 : decode cX5_readAheadOfCheck 21 = .ok (.iload_n 2, 1) := by decide +kernel
theorem dX5_readAheadOfCheck_22 : decode cX5_readAheadOfCheck 22 = .ok (.ifCond .ne 7, 3) := by decide +kernel
theorem dX5_readAheadOfCheck_25 : decode cX5_readAheadOfCheck 25 = .ok (.iconst 0, 1) := by decide +kernel
theorem dX5_readAheadOfCheck_26 : decode cX5_readAheadOfCheck 26 = .ok (.goto 11, 3) := by decide +kernel
theorem dX5_readAheadOfCheck_29 : decode cX5_readAheadOfCheck 29 = .ok (.aload_n 0, 1) := by decide +kernel
theorem dX5_readAheadOfCheck_30 : decode cX5_readAheadOfCheck 30 = .ok (.getfield 43, 3) := by decide +kernel
theorem dX5_readAheadOfCheck_33 : decode cX5_readAheadOfCheck 33 = .ok (.iload_n 2, 1) := by decide +kernel
theorem dX5_readAheadOfCheck_34 : decode cX5_readAheadOfCheck 34 = .ok (.iconst 1, 1) := by decide +kernel
theorem dX5_readAheadOfCheck_35 : decode cX5_readAheadOfCheck 35 = .ok (.isub, 1) := by decide +kernel
theorem dX5_readAheadOfCheck_36 : decode cX5_readAheadOfCheck 36 = .ok (.iaload, 1) := by decide +kernel
theorem dX5_readAheadOfCheck_37 : decode cX5_readAheadOfCheck 37 = .ok (.putfield 52, 3) := by decide +kernel
theorem dX5_readAheadOfCheck_40 : decode cX5_readAheadOfCheck 40 = .ok (.iload_n 2, 1) := by decide +kernel
theorem dX5_readAheadOfCheck_41 : decode cX5_readAheadOfCheck 41 = .ok (.ifCond .ne 7, 3) := by decide +kernel
theorem dX5_readAheadOfCheck_44 : decode cX5_readAheadOfCheck 44 = .ok (.iconst 3, 1) := by decide +kernel
theorem dX5_readAheadOfCheck_45 : decode cX5_readAheadOfCheck 45 = .ok (.goto 4, 3) := by decide +kernel
theorem dX5_readAheadOfCheck_48 : decode cX5_readAheadOfCheck 48 = .ok (.iconst 0, 1) := by decide +kernel
theorem dX5_readAheadOfCheck_49 : decode cX5_readAheadOfCheck 49 = .ok (.istore 6, 2) := by decide +kernel
theorem dX5_readAheadOfCheck_51 : decode cX5_readAheadOfCheck 51 = .ok (.iconst 0, 1) := by decide +kernel
theorem dX5_readAheadOfCheck_52 : decode cX5_readAheadOfCheck 52 = .ok (.istore 7, 2) := by decide +kernel
theorem dX5_readAheadOfCheck_54 : decode cX5_readAheadOfCheck 54 = .ok (.iload 7, 2) := by decide +kernel
theorem dX5_readAheadOfCheck_56 : decode cX5_readAheadOfCheck 56 = .ok (.iload 5, 2) := by decide +kernel
theorem dX5_readAheadOfCheck_58 : decode cX5_readAheadOfCheck 58 = .ok (.if_icmp .ge 59, 3) := by decide +kernel
theorem dX5_readAheadOfCheck_61 : decode cX5_readAheadOfCheck 61 = .ok (.aload_n 0, 1) := by decide +kernel
theorem dX5_readAheadOfCheck_62 : decode cX5_readAheadOfCheck 62 = .ok (.getfield 49, 3) := by decide +kernel
theorem dX5_readAheadOfCheck_65 : decode cX5_readAheadOfCheck 65 = .ok (.ifCond .eq 52, 3) := by decide +kernel
theorem dX5_readAheadOfCheck_68 : decode cX5_readAheadOfCheck 68 = .ok (.lload_n 3, 1) := by decide +kernel
theorem dX5_readAheadOfCheck_69 : decode cX5_readAheadOfCheck 69 = .ok (.iload 7, 2) := by decide +kernel
theorem dX5_readAheadOfCheck_71 : decode cX5_readAheadOfCheck 71 = .ok (.invokestatic 114, 3) := by decide +kernel
theorem dX5_readAheadOfCheck_74 : decode cX5_readAheadOfCheck 74 = .ok (.istore 8, 2) := by decide +kernel
theorem dX5_readAheadOfCheck_76 : decode cX5_readAheadOfCheck 76 = .ok (.aload_n 0, 1) := by decide +kernel
theorem dX5_readAheadOfCheck_77 : decode cX5_readAheadOfCheck 77 = .ok (.aload_n 1, 1) := by decide +kernel
theorem dX5_readAheadOfCheck_78 : decode cX5_readAheadOfCheck 78 = .ok (.aload_n 0, 1) := by decide +kernel
theorem dX5_readAheadOfCheck_79 : decode cX5_readAheadOfCheck 79 = .ok (.getfield 52, 3) := by decide +kernel
theorem dX5_readAheadOfCheck_82 : decode cX5_readAheadOfCheck 82 = .ok (.iload 8, 2) := by decide +kernel
theorem dX5_readAheadOfCheck_84 : decode cX5_readAheadOfCheck 84 = .ok (.invokevirtual 124, 3) := by decide +kernel
theorem dX5_readAheadOfCheck_87 : decode cX5_readAheadOfCheck 87 = .ok (.putfield 52, 3) := by decide +kernel
theorem dX5_readAheadOfCheck_90 : decode cX5_readAheadOfCheck 90 = .ok (.iload 7, 2) := by decide +kernel
theorem dX5_readAheadOfCheck_92 : decode cX5_readAheadOfCheck 92 = .ok (.iload 6, 2) := by decide +kernel
theorem dX5_readAheadOfCheck_94 : decode cX5_readAheadOfCheck 94 = .ok (.if_icmp .lt 17, 3) := by decide +kernel
theorem dX5_readAheadOfCheck_97 : decode cX5_readAheadOfCheck 97 = .ok (.aload_n 0, 1) := by decide +kernel
theorem dX5_readAheadOfCheck_98 : decode cX5_readAheadOfCheck 98 = .ok (.aload_n 1, 1) := by decide +kernel
theorem dX5_readAheadOfCheck_99 : decode cX5_readAheadOfCheck 99 = .ok (.aload_n 0, 1) := by decide +kernel
theorem dX5_readAheadOfCheck_100 : decode cX5_readAheadOfCheck 100 = .ok (.getfield 49, 3) := by decide +kernel
theorem dX5_readAheadOfCheck_103 : decode cX5_readAheadOfCheck 103 = .ok (.iload 8, 2) := by decide +kernel
theorem dX5_readAheadOfCheck_105 : decode cX5_readAheadOfCheck 105 = .ok (.invokevirtual 127, 3) := by decide +kernel
theorem dX5_readAheadOfCheck_108 : decode cX5_readAheadOfCheck 108 = .ok (.putfield 49, 3) := by decide +kernel
theorem dX5_readAheadOfCheck_111 : decode cX5_readAheadOfCheck 111 = .ok (.iinc 7 1, 3) := by decide +kernel
theorem dX5_readAheadOfCheck_114 : decode cX5_readAheadOfCheck 114 = .ok (.goto (-60), 3) := by decide +kernel
theorem dX5_readAheadOfCheck_117 : decode cX5_readAheadOfCheck 117 = .ok (.return_, 1) := by decide +kernel
theorem dX6_init_0 : decode cX6_init 0 = .ok (.aload_n 0, 1) := by decide +kernel
theorem dX6_init_1 : decode cX6_init 1 = .ok (.invokespecial 1, 3) := by decide +kernel
theorem dX6_init_4 : decode cX6_init 4 = .ok (.aload_n 0, 1) := by decide +kernel
theorem dX6_init_5 : decode cX6_init 5 = .ok (.bipush 6, 2) := by decide +kernel
theorem dX6_init_7 : decode cX6_init 7 = .ok (.anewarray 9, 3) := by decide +kernel
theorem dX6_init_10 : decode cX6_init 10 = .ok (.putfield 11, 3) := by decide +kernel
theorem dX6_init_13 : decode cX6_init 13 = .ok (.aload_n 0, 1) := by decide +kernel
theorem dX6_init_14 : decode cX6_init 14 = .ok (.iconst 0, 1) := by decide +kernel
theorem dX6_init_15 : decode cX6_init 15 = .ok (.putfield 15, 3) := by decide +kernel
theorem dX6_init_18 : decode cX6_init 18 = .ok (.aload_n 0, 1) := by decide +kernel
theorem dX6_init_19 : decode cX6_init 19 = .ok (.new 19, 3) := by decide +kernel
theorem dX6_init_22 : decode cX6_init 22 = .ok (.dup, 1) := by decide +kernel
theorem dX6_init_23 : decode cX6_init 23 = .ok (.invokespecial 21, 3) := by decide +kernel
theorem dX6_init_26 : decode cX6_init 26 = .ok (.putfield 22, 3) := by decide +kernel
theorem dX6_init_29 : decode cX6_init 29 = .ok (.aload_n 0, 1) := by decide +kernel
theorem dX6_init_30 : decode cX6_init 30 = .ok (.new 26, 3) := by decide +kernel
theorem dX6_init_33 : decode cX6_init 33 = .ok (.dup, 1) := by decide +kernel
theorem dX6_init_34 : decode cX6_init 34 = .ok (.invokespecial 28, 3) := by decide +kernel
theorem dX6_init_37 : decode cX6_init 37 = .ok (.putfield 29, 3) := by decide +kernel
theorem dX6_init_40 : decode cX6_init 40 = .ok (.aload_n 0, 1) := by decide +kernel
theorem dX6_init_41 : decode cX6_init 41 = .ok (.iconst 4, 1) := by decide +kernel
theorem dX6_init_42 : decode cX6_init 42 = .ok (.putfield 33, 3) := by decide +kernel
theorem dX6_init_45 : decode cX6_init 45 = .ok (.aload_n 0, 1) := by decide +kernel
theorem dX6_init_46 : decode cX6_init 46 = .ok (.new 36, 3) := by decide +kernel
theorem dX6_init_49 : decode cX6_init 49 = .ok (.dup, 1) := by decide +kernel
theorem dX6_init_50 : decode cX6_init 50 = .ok (.invokespecial 38, 3) := by decide +kernel
theorem dX6_init_53 : decode cX6_init 53 = .ok (.putfield 39, 3) := by decide +kernel
theorem dX6_init_56 : decode cX6_init 56 = .ok (.aload_n 0, 1) := by decide +kernel
theorem dX6_init_57 : decode cX6_init 57 = .ok (.new 43, 3) := by decide +kernel
theorem dX6_init_60 : decode cX6_init 60 = .ok (.dup, 1) := by decide +kernel
theorem dX6_init_61 : decode cX6_init 61 = .ok (.aload_n 0, 1) := by decide +kernel
theorem dX6_init_62 : decode cX6_init 62 = .ok (.getfield 22, 3) := by decide +kernel
theorem dX6_init_65 : decode cX6_init 65 = .ok (.aload_n 0, 1) := by decide +kernel
theorem dX6_init_66 : decode cX6_init 66 = .ok (.getfield 39, 3) := by decide +kernel
theorem dX6_init_69 : decode cX6_init 69 = .ok (.invokespecial 45, 3) := by decide +kernel
theorem dX6_init_72 : decode cX6_init 72 = .ok (.putfield 48, 3) := by decide +kernel
theorem dX6_init_75 : decode cX6_init 75 = .ok (.aload_n 0, 1) := by decide +kernel
theorem dX6_init_76 : decode cX6_init 76 = .ok (.new 52, 3) := by decide +kernel
theorem dX6_init_79 : decode cX6_init 79 = .ok (.dup, 1) := by decide +kernel
theorem dX6_init_80 : decode cX6_init 80 = .ok (.aload_n 0, 1) := by decide +kernel
theorem dX6_init_81 : decode cX6_init 81 = .ok (.getfield 39, 3) := by decide +kernel
theorem dX6_init_84 : decode cX6_init 84 = .ok (.invokespecial 54, 3) := by decide +kernel
theorem dX6_init_87 : decode cX6_init 87 = .ok (.putfield 57, 3) := by decide +kernel
theorem dX6_init_90 : decode cX6_init 90 = .ok (.aload_n 0, 1) := by decide +kernel
theorem dX6_init_91 : decode cX6_init 91 = .ok (.iconst 0, 1) := by decide +kernel
theorem dX6_init_92 : decode cX6_init 92 = .ok (.putfield 61, 3) := by decide +kernel
theorem dX6_init_95 : decode cX6_init 95 = .ok (.return_, 1) := by decide +kernel
theorem dX6_make_0 : decode cX6_make 0 = .ok (.iload_n 1, 1) := by decide +kernel
theorem dX6_make_1 : decode cX6_make 1 = .ok (.invokestatic 64, 3) := by decide +kernel
theorem dX6_make_4 : decode cX6_make 4 = .ok (.ifCond .eq 10, 3) := by decide +kernel
theorem dX6_make_7 : decode cX6_make 7 = .ok (.iload_n 2, 1) := by decide +kernel
theorem dX6_make_8 : decode cX6_make 8 = .ok (.invokestatic 64, 3) := by decide +kernel
theorem dX6_make_11 : decode cX6_make 11 = .ok (.ifCond .ne 13, 3) := by decide +kernel
theorem dX6_make_14 : decode cX6_make 14 = .ok (.new 68, 3) := by decide +kernel
theorem dX6_make_17 : decode cX6_make 17 = .ok (.dup, 1) := by decide +kernel
theorem dX6_make_18 : decode cX6_make 18 = .ok (.ldc 70, 2) := by decide +kernel
theorem dX6_make_20 : decode cX6_make 20 = .ok (.invokespecial 72, 3) := by decide +kernel
theorem dX6_make_23 : decode cX6_make 23 = .ok (.athrow, 1) := by decide +kernel
theorem dX6_make_24 : decode cX6_make 24 = .ok (.iload_n 3, 1) := by decide +kernel
theorem dX6_make_25 : decode cX6_make 25 = .ok (.ifCond .lt 8, 3) := by decide +kernel
theorem dX6_make_28 : decode cX6_make 28 = .ok (.iload_n 3, 1) := by decide +kernel
theorem dX6_make_29 : decode cX6_make 29 = .ok (.iconst 3, 1) := by decide +kernel
theorem dX6_make_30 : decode cX6_make 30 = .ok (.if_icmp .lt 13, 3) := by decide +kernel
theorem dX6_make_33 : decode cX6_make 33 = .ok (.new 68, 3) := by decide +kernel
theorem dX6_make_36 : decode cX6_make 36 = .ok (.dup, 1) := by decide +kernel
theorem dX6_make_37 : decode cX6_make 37 = .ok (.ldc 75, 2) := by decide +kernel
theorem dX6_make_39 : decode cX6_make 39 = .ok (.invokespecial 72, 3) := by decide +kernel
theorem dX6_make_42 : decode cX6_make 42 = .ok (.athrow, 1) := by decide +kernel
theorem dX6_make_43 : decode cX6_make 43 = .ok (.aload_n 0, 1) := by decide +kernel
theorem dX6_make_44 : decode cX6_make 44 = .ok (.getfield 15, 3) := by decide +kernel
theorem dX6_make_47 : decode cX6_make 47 = .ok (.bipush 6, 2) := by decide +kernel
theorem dX6_make_49 : decode cX6_make 49 = .ok (.if_icmp .lt 13, 3) := by decide +kernel
theorem dX6_make_52 : decode cX6_make 52 = .ok (.new 77, 3) := by decide +kernel
theorem dX6_make_55 : decode cX6_make 55 = .ok (.dup, 1) := by decide +kernel
theorem dX6_make_56 : decode cX6_make 56 = .ok (.ldc 79, 2) := by decide +kernel
theorem dX6_make_58 : decode cX6_make 58 = .ok (.invokespecial 81, 3) := by decide +kernel
theorem dX6_make_61 : decode cX6_make 61 = .ok (.athrow, 1) := by decide +kernel
theorem dX6_make_62 : decode cX6_make 62 = .ok (.aload_n 0, 1) := by decide +kernel
theorem dX6_make_63 : decode cX6_make 63 = .ok (.getfield 11, 3) := by decide +kernel
theorem dX6_make_66 : decode cX6_make 66 = .ok (.aload_n 0, 1) := by decide +kernel
theorem dX6_make_67 : decode cX6_make 67 = .ok (.getfield 15, 3) := by decide +kernel
theorem dX6_make_70 : decode cX6_make 70 = .ok (.new 9, 3) := by decide +kernel
theorem dX6_make_73 : decode cX6_make 73 = .ok (.dup, 1) := by decide +kernel
theorem dX6_make_74 : decode cX6_make 74 = .ok (.iload_n 1, 1) := by decide +kernel
theorem dX6_make_75 : decode cX6_make 75 = .ok (.iload_n 2, 1) := by decide +kernel
theorem dX6_make_76 : decode cX6_make 76 = .ok (.iload_n 3, 1) := by decide +kernel
theorem dX6_make_77 : decode cX6_make 77 = .ok (.invokespecial 82, 3) := by decide +kernel
theorem dX6_make_80 : decode cX6_make 80 = .ok (.aastore, 1) := by decide +kernel
theorem dX6_make_81 : decode cX6_make 81 = .ok (.aload_n 0, 1) := by decide +kernel
theorem dX6_make_82 : decode cX6_make 82 = .ok (.dup, 1) := by decide +kernel
theorem dX6_make_83 : decode cX6_make 83 = .ok (.getfield 15, 3) := by decide +kernel
theorem dX6_make_86 : decode cX6_make 86 = .ok (.iconst 1, 1) := by decide +kernel
theorem dX6_make_87 : decode cX6_make 87 = .ok (.iadd, 1) := by decide +kernel
theorem dX6_make_88 : decode cX6_make 88 = .ok (.putfield 15, 3) := by decide +kernel
theorem dX6_make_91 : decode cX6_make 91 = .ok (.aload_n 0, 1) := by decide +kernel
theorem dX6_make_92 : decode cX6_make 92 = .ok (.getfield 15, 3) := by decide +kernel
theorem dX6_make_95 : decode cX6_make 95 = .ok (.iconst 1, 1) := by decide +kernel
theorem dX6_make_96 : decode cX6_make 96 = .ok (.isub, 1) := by decide +kernel
theorem dX6_make_97 : decode cX6_make 97 = .ok (.ireturn, 1) := by decide +kernel
theorem dX6_edge_0 : decode cX6_edge 0 = .ok (.aload_n 0, 1) := by decide +kernel
theorem dX6_edge_1 : decode cX6_edge 1 = .ok (.iload_n 1, 1) := by decide +kernel
theorem dX6_edge_2 : decode cX6_edge 2 = .ok (.invokevirtual 85, 3) := by decide +kernel
theorem dX6_edge_5 : decode cX6_edge 5 = .ok (.astore 6, 2) := by decide +kernel
theorem dX6_edge_7 : decode cX6_edge 7 = .ok (.iload_n 2, 1) := by decide +kernel
theorem dX6_edge_8 : decode cX6_edge 8 = .ok (.invokestatic 89, 3) := by decide +kernel
theorem dX6_edge_11 : decode cX6_edge 11 = .ok (.ifCond .eq 11, 3) := by decide +kernel
theorem dX6_edge_14 : decode cX6_edge 14 = .ok (.iload 5, 2) := by decide +kernel
theorem dX6_edge_16 : decode cX6_edge 16 = .ok (.invokestatic 89, 3) := by decide +kernel
theorem dX6_edge_19 : decode cX6_edge 19 = .ok (.ifCond .ne 13, 3) := by decide +kernel
theorem dX6_edge_22 : decode cX6_edge 22 = .ok (.new 68, 3) := by decide +kernel
theorem dX6_edge_25 : decode cX6_edge 25 = .ok (.dup, 1) := by decide +kernel
theorem dX6_edge_26 : decode cX6_edge 26 = .ok (.ldc 92, 2) := by decide +kernel
theorem dX6_edge_28 : decode cX6_edge 28 = .ok (.invokespecial 72, 3) := by decide +kernel
theorem dX6_edge_31 : decode cX6_edge 31 = .ok (.athrow, 1) := by decide +kernel
theorem dX6_edge_32 : decode cX6_edge 32 = .ok (.iload_n 3, 1) := by decide +kernel
theorem dX6_edge_33 : decode cX6_edge 33 = .ok (.invokestatic 64, 3) := by decide +kernel
theorem dX6_edge_36 : decode cX6_edge 36 = .ok (.ifCond .eq 17, 3) := by decide +kernel
theorem dX6_edge_39 : decode cX6_edge 39 = .ok (.iload 4, 2) := by decide +kernel
theorem dX6_edge_41 : decode cX6_edge 41 = .ok (.invokestatic 64, 3) := by decide +kernel
theorem dX6_edge_44 : decode cX6_edge 44 = .ok (.ifCond .eq 9, 3) := by decide +kernel
theorem dX6_edge_47 : decode cX6_edge 47 = .ok (.iload_n 3, 1) := by decide +kernel
theorem dX6_edge_48 : decode cX6_edge 48 = .ok (.iload 4, 2) := by decide +kernel
theorem dX6_edge_50 : decode cX6_edge 50 = .ok (.if_icmp .le 13, 3) := by decide +kernel
theorem dX6_edge_53 : decode cX6_edge 53 = .ok (.new 68, 3) := by decide +kernel
theorem dX6_edge_56 : decode cX6_edge 56 = .ok (.dup, 1) := by decide +kernel
theorem dX6_edge_57 : decode cX6_edge 57 = .ok (.ldc 94, 2) := by decide +kernel
theorem dX6_edge_59 : decode cX6_edge 59 = .ok (.invokespecial 72, 3) := by decide +kernel
theorem dX6_edge_62 : decode cX6_edge 62 = .ok (.athrow, 1) := by decide +kernel
theorem dX6_edge_63 : decode cX6_edge 63 = .ok (.aload 6, 2) := by decide +kernel
theorem dX6_edge_65 : decode cX6_edge 65 = .ok (.invokevirtual 96, 3) := by decide +kernel
theorem dX6_edge_68 : decode cX6_edge 68 = .ok (.bipush 40, 2) := by decide +kernel
theorem dX6_edge_70 : decode cX6_edge 70 = .ok (.if_icmp .lt 13, 3) := by decide +kernel
theorem dX6_edge_73 : decode cX6_edge 73 = .ok (.new 77, 3) := by decide +kernel
theorem dX6_edge_76 : decode cX6_edge 76 = .ok (.dup, 1) := by decide +kernel
theorem dX6_edge_77 : decode cX6_edge 77 = .ok (.ldc 100, 2) := by decide +kernel
theorem dX6_edge_79 : decode cX6_edge 79 = .ok (.invokespecial 81, 3) := by decide +kernel
theorem dX6_edge_82 : decode cX6_edge 82 = .ok (.athrow, 1) := by decide +kernel
theorem dX6_edge_83 : decode cX6_edge 83 = .ok (.aload 6, 2) := by decide +kernel
theorem dX6_edge_85 : decode cX6_edge 85 = .ok (.iload_n 2, 1) := by decide +kernel
theorem dX6_edge_86 : decode cX6_edge 86 = .ok (.iload_n 3, 1) := by decide +kernel
theorem dX6_edge_87 : decode cX6_edge 87 = .ok (.iload 4, 2) := by decide +kernel
theorem dX6_edge_89 : decode cX6_edge 89 = .ok (.iload 5, 2) := by decide +kernel
theorem dX6_edge_91 : decode cX6_edge 91 = .ok (.invokevirtual 102, 3) := by decide +kernel
theorem dX6_edge_94 : decode cX6_edge 94 = .ok (.aload 6, 2) := by decide +kernel
theorem dX6_edge_96 : decode cX6_edge 96 = .ok (.invokevirtual 96, 3) := by decide +kernel
theorem dX6_edge_99 : decode cX6_edge 99 = .ok (.ireturn, 1) := by decide +kernel
theorem dX6_goals_0 : decode cX6_goals 0 = .ok (.aload_n 0, 1) := by decide +kernel
theorem dX6_goals_1 : decode cX6_goals 1 = .ok (.iload_n 1, 1) := by decide +kernel
theorem dX6_goals_2 : decode cX6_goals 2 = .ok (.invokevirtual 85, 3) := by decide +kernel
theorem dX6_goals_5 : decode cX6_goals 5 = .ok (.astore_n 3, 1) := by decide +kernel
theorem dX6_goals_6 : decode cX6_goals 6 = .ok (.iload_n 2, 1) := by decide +kernel
theorem dX6_goals_7 : decode cX6_goals 7 = .ok (.ifCond .lt 9, 3) := by decide +kernel
theorem dX6_goals_10 : decode cX6_goals 10 = .ok (.iload_n 2, 1) := by decide +kernel
theorem dX6_goals_11 : decode cX6_goals 11 = .ok (.ldc 106, 2) := by decide +kernel
theorem dX6_goals_13 : decode cX6_goals 13 = .ok (.if_icmp .le 13, 3) := by decide +kernel
theorem dX6_goals_16 : decode cX6_goals 16 = .ok (.new 68, 3) := by decide +kernel
theorem dX6_goals_19 : decode cX6_goals 19 = .ok (.dup, 1) := by decide +kernel
theorem dX6_goals_20 : decode cX6_goals 20 = .ok (.ldc 107, 2) := by decide +kernel
theorem dX6_goals_22 : decode cX6_goals 22 = .ok (.invokespecial 72, 3) := by decide +kernel
theorem dX6_goals_25 : decode cX6_goals 25 = .ok (.athrow, 1) := by decide +kernel
theorem dX6_goals_26 : decode cX6_goals 26 = .ok (.aload_n 3, 1) := by decide +kernel
theorem dX6_goals_27 : decode cX6_goals 27 = .ok (.iload_n 2, 1) := by decide +kernel
theorem dX6_goals_28 : decode cX6_goals 28 = .ok (.invokevirtual 109, 3) := by decide +kernel
theorem dX6_goals_31 : decode cX6_goals 31 = .ok (.ireturn, 1) := by decide +kernel
theorem dX6_block_0 : decode cX6_block 0 = .ok (.aload_n 0, 1) := by decide +kernel
theorem dX6_block_1 : decode cX6_block 1 = .ok (.getfield 22, 3) := by decide +kernel
theorem dX6_block_4 : decode cX6_block 4 = .ok (.lload_n 1, 1) := by decide +kernel
theorem dX6_block_5 : decode cX6_block 5 = .ok (.invokevirtual 113, 3) := by decide +kernel
theorem dX6_block_8 : decode cX6_block 8 = .ok (.ireturn, 1) := by decide +kernel
theorem dX6_change_0 : decode cX6_change 0 = .ok (.aload_n 0, 1) := by decide +kernel
theorem dX6_change_1 : decode cX6_change 1 = .ok (.getfield 22, 3) := by decide +kernel
theorem dX6_change_4 : decode cX6_change 4 = .ok (.aload_n 0, 1) := by decide +kernel
theorem dX6_change_5 : decode cX6_change 5 = .ok (.iload_n 1, 1) := by decide +kernel
theorem dX6_change_6 : decode cX6_change 6 = .ok (.invokevirtual 117, 3) := by decide +kernel
theorem dX6_change_9 : decode cX6_change 9 = .ok (.lload_n 2, 1) := by decide +kernel
theorem dX6_change_10 : decode cX6_change 10 = .ok (.invokevirtual 120, 3) := by decide +kernel
theorem dX6_change_13 : decode cX6_change 13 = .ok (.lreturn, 1) := by decide +kernel
theorem dX6_bytes_0 : decode cX6_bytes 0 = .ok (.aload_n 0, 1) := by decide +kernel
theorem dX6_bytes_1 : decode cX6_bytes 1 = .ok (.getfield 22, 3) := by decide +kernel
theorem dX6_bytes_4 : decode cX6_bytes 4 = .ok (.aload_n 0, 1) := by decide +kernel
theorem dX6_bytes_5 : decode cX6_bytes 5 = .ok (.iload_n 1, 1) := by decide +kernel
theorem dX6_bytes_6 : decode cX6_bytes 6 = .ok (.invokevirtual 117, 3) := by decide +kernel
theorem dX6_bytes_9 : decode cX6_bytes 9 = .ok (.invokevirtual 124, 3) := by decide +kernel
theorem dX6_bytes_12 : decode cX6_bytes 12 = .ok (.lreturn, 1) := by decide +kernel
theorem dX6_reach_0 : decode cX6_reach 0 = .ok (.iload_n 1, 1) := by decide +kernel
theorem dX6_reach_1 : decode cX6_reach 1 = .ok (.iconst 1, 1) := by decide +kernel
theorem dX6_reach_2 : decode cX6_reach 2 = .ok (.if_icmp .lt 9, 3) := by decide +kernel
theorem dX6_reach_5 : decode cX6_reach 5 = .ok (.iload_n 1, 1) := by decide +kernel
theorem dX6_reach_6 : decode cX6_reach 6 = .ok (.bipush 23, 2) := by decide +kernel
theorem dX6_reach_8 : decode cX6_reach 8 = .ok (.if_icmp .le 13, 3) := by decide +kernel
theorem dX6_reach_11 : decode cX6_reach 11 = .ok (.new 68, 3) := by decide +kernel
theorem dX6_reach_14 : decode cX6_reach 14 = .ok (.dup, 1) := by decide +kernel
theorem dX6_reach_15 : decode cX6_reach 15 = .ok (.ldc 128, 2) := by decide +kernel
theorem dX6_reach_17 : decode cX6_reach 17 = .ok (.invokespecial 72, 3) := by decide +kernel
theorem dX6_reach_20 : decode cX6_reach 20 = .ok (.athrow, 1) := by decide +kernel
theorem dX6_reach_21 : decode cX6_reach 21 = .ok (.aload_n 0, 1) := by decide +kernel
theorem dX6_reach_22 : decode cX6_reach 22 = .ok (.getfield 33, 3) := by decide +kernel
theorem dX6_reach_25 : decode cX6_reach 25 = .ok (.istore_n 2, 1) := by decide +kernel
theorem dX6_reach_26 : decode cX6_reach 26 = .ok (.aload_n 0, 1) := by decide +kernel
theorem dX6_reach_27 : decode cX6_reach 27 = .ok (.iload_n 1, 1) := by decide +kernel
theorem dX6_reach_28 : decode cX6_reach 28 = .ok (.putfield 33, 3) := by decide +kernel
theorem dX6_reach_31 : decode cX6_reach 31 = .ok (.iload_n 2, 1) := by decide +kernel
theorem dX6_reach_32 : decode cX6_reach 32 = .ok (.ireturn, 1) := by decide +kernel
theorem dX6_push_0 : decode cX6_push 0 = .ok (.iload_n 1, 1) := by decide +kernel
theorem dX6_push_1 : decode cX6_push 1 = .ok (.invokestatic 64, 3) := by decide +kernel
theorem dX6_push_4 : decode cX6_push 4 = .ok (.ifCond .ne 13, 3) := by decide +kernel
theorem dX6_push_7 : decode cX6_push 7 = .ok (.new 68, 3) := by decide +kernel
theorem dX6_push_10 : decode cX6_push 10 = .ok (.dup, 1) := by decide +kernel
theorem dX6_push_11 : decode cX6_push 11 = .ok (.ldc 130, 2) := by decide +kernel
theorem dX6_push_13 : decode cX6_push 13 = .ok (.invokespecial 72, 3) := by decide +kernel
theorem dX6_push_16 : decode cX6_push 16 = .ok (.athrow, 1) := by decide +kernel
theorem dX6_push_17 : decode cX6_push 17 = .ok (.aload_n 0, 1) := by decide +kernel
theorem dX6_push_18 : decode cX6_push 18 = .ok (.getfield 29, 3) := by decide +kernel
theorem dX6_push_21 : decode cX6_push 21 = .ok (.iload_n 1, 1) := by decide +kernel
theorem dX6_push_22 : decode cX6_push 22 = .ok (.invokevirtual 132, 3) := by decide +kernel
theorem dX6_push_25 : decode cX6_push 25 = .ok (.ireturn, 1) := by decide +kernel
theorem dX6_write_0 : decode cX6_write 0 = .ok (.aload_n 0, 1) := by decide +kernel
theorem dX6_write_1 : decode cX6_write 1 = .ok (.iload_n 1, 1) := by decide +kernel
theorem dX6_write_2 : decode cX6_write 2 = .ok (.invokevirtual 85, 3) := by decide +kernel
theorem dX6_write_5 : decode cX6_write 5 = .ok (.astore_n 2, 1) := by decide +kernel
theorem dX6_write_6 : decode cX6_write 6 = .ok (.aload_n 0, 1) := by decide +kernel
theorem dX6_write_7 : decode cX6_write 7 = .ok (.getfield 29, 3) := by decide +kernel
theorem dX6_write_10 : decode cX6_write 10 = .ok (.aload_n 2, 1) := by decide +kernel
theorem dX6_write_11 : decode cX6_write 11 = .ok (.invokevirtual 134, 3) := by decide +kernel
theorem dX6_write_14 : decode cX6_write 14 = .ok (.ifCond .ne 5, 3) := by decide +kernel
theorem dX6_write_17 : decode cX6_write 17 = .ok (.iconst (-1), 1) := by decide +kernel
theorem dX6_write_18 : decode cX6_write 18 = .ok (.ireturn, 1) := by decide +kernel
theorem dX6_write_19 : decode cX6_write 19 = .ok (.aload_n 0, 1) := by decide +kernel
theorem dX6_write_20 : decode cX6_write 20 = .ok (.getfield 22, 3) := by decide +kernel
theorem dX6_write_23 : decode cX6_write 23 = .ok (.invokevirtual 138, 3) := by decide +kernel
theorem dX6_write_26 : decode cX6_write 26 = .ok (.istore_n 3, 1) := by decide +kernel
theorem dX6_write_27 : decode cX6_write 27 = .ok (.aload_n 0, 1) := by decide +kernel
theorem dX6_write_28 : decode cX6_write 28 = .ok (.getfield 29, 3) := by decide +kernel
theorem dX6_write_31 : decode cX6_write 31 = .ok (.invokevirtual 141, 3) := by decide +kernel
theorem dX6_write_34 : decode cX6_write 34 = .ok (.invokestatic 142, 3) := by decide +kernel
theorem dX6_write_37 : decode cX6_write 37 = .ok (.istore 4, 2) := by decide +kernel
theorem dX6_write_39 : decode cX6_write 39 = .ok (.iload_n 3, 1) := by decide +kernel
theorem dX6_write_40 : decode cX6_write 40 = .ok (.iload 4, 2) := by decide +kernel
theorem dX6_write_42 : decode cX6_write 42 = .ok (.iadd, 1) := by decide +kernel
theorem dX6_write_43 : decode cX6_write 43 = .ok (.bipush 24, 2) := by decide +kernel
theorem dX6_write_45 : decode cX6_write 45 = .ok (.if_icmp .le 6, 3) := by decide +kernel
theorem dX6_write_48 : decode cX6_write 48 = .ok (.bipush (-2), 2) := by decide +kernel
theorem dX6_write_50 : decode cX6_write 50 = .ok (.ireturn, 1) := by decide +kernel
theorem dX6_write_51 : decode cX6_write 51 = .ok (.iconst 0, 1) := by decide +kernel
theorem dX6_write_52 : decode cX6_write 52 = .ok (.istore 5, 2) := by decide +kernel
theorem dX6_write_54 : decode cX6_write 54 = .ok (.iload 5, 2) := by decide +kernel
theorem dX6_write_56 : decode cX6_write 56 = .ok (.iload 4, 2) := by decide +kernel
theorem dX6_write_58 : decode cX6_write 58 = .ok (.if_icmp .ge 27, 3) := by decide +kernel
theorem dX6_write_61 : decode cX6_write 61 = .ok (.aload_n 0, 1) := by decide +kernel
theorem dX6_write_62 : decode cX6_write 62 = .ok (.getfield 22, 3) := by decide +kernel
theorem dX6_write_65 : decode cX6_write 65 = .ok (.aload_n 0, 1) := by decide +kernel
theorem dX6_write_66 : decode cX6_write 66 = .ok (.getfield 29, 3) := by decide +kernel
theorem dX6_write_69 : decode cX6_write 69 = .ok (.aload_n 2, 1) := by decide +kernel
theorem dX6_write_70 : decode cX6_write 70 = .ok (.iload 5, 2) := by decide +kernel
theorem dX6_write_72 : decode cX6_write 72 = .ok (.invokevirtual 145, 3) := by decide +kernel
theorem dX6_write_75 : decode cX6_write 75 = .ok (.invokevirtual 113, 3) := by decide +kernel
theorem dX6_write_78 : decode cX6_write 78 = .ok (.pop, 1) := by decide +kernel
theorem dX6_write_79 : decode cX6_write 79 = .ok (.iinc 5 1, 3) := by decide +kernel
theorem dX6_write_82 : decode cX6_write 82 = .ok (.goto (-28), 3) := by decide +kernel
theorem dX6_write_85 : decode cX6_write 85 = .ok (.aload_n 0, 1) := by decide +kernel
theorem dX6_write_86 : decode cX6_write 86 = .ok (.getfield 29, 3) := by decide +kernel
theorem dX6_write_89 : decode cX6_write 89 = .ok (.invokevirtual 149, 3) := by decide +kernel
theorem dX6_write_92 : decode cX6_write 92 = .ok (.iload_n 3, 1) := by decide +kernel
theorem dX6_write_93 : decode cX6_write 93 = .ok (.ireturn, 1) := by decide +kernel
theorem dX6_search_0 : decode cX6_search 0 = .ok (.aload_n 0, 1) := by decide +kernel
theorem dX6_search_1 : decode cX6_search 1 = .ok (.getfield 39, 3) := by decide +kernel
theorem dX6_search_4 : decode cX6_search 4 = .ok (.aload_n 0, 1) := by decide +kernel
theorem dX6_search_5 : decode cX6_search 5 = .ok (.getfield 22, 3) := by decide +kernel
theorem dX6_search_8 : decode cX6_search 8 = .ok (.invokevirtual 152, 3) := by decide +kernel
theorem dX6_search_11 : decode cX6_search 11 = .ok (.aload_n 0, 1) := by decide +kernel
theorem dX6_search_12 : decode cX6_search 12 = .ok (.getfield 48, 3) := by decide +kernel
theorem dX6_search_15 : decode cX6_search 15 = .ok (.aload_n 0, 1) := by decide +kernel
theorem dX6_search_16 : decode cX6_search 16 = .ok (.getfield 33, 3) := by decide +kernel
theorem dX6_search_19 : decode cX6_search 19 = .ok (.iconst 1, 1) := by decide +kernel
theorem dX6_search_20 : decode cX6_search 20 = .ok (.invokevirtual 156, 3) := by decide +kernel
theorem dX6_search_23 : decode cX6_search 23 = .ok (.iconst 0, 1) := by decide +kernel
theorem dX6_search_24 : decode cX6_search 24 = .ok (.istore_n 1, 1) := by decide +kernel
theorem dX6_search_25 : decode cX6_search 25 = .ok (.iload_n 1, 1) := by decide +kernel
theorem dX6_search_26 : decode cX6_search 26 = .ok (.aload_n 0, 1) := by decide +kernel
theorem dX6_search_27 : decode cX6_search 27 = .ok (.getfield 22, 3) := by decide +kernel
theorem dX6_search_30 : decode cX6_search 30 = .ok (.invokevirtual 138, 3) := by decide +kernel
theorem dX6_search_33 : decode cX6_search 33 = .ok (.if_icmp .ge 14, 3) := by decide +kernel
theorem dX6_search_36 : decode cX6_search 36 = .ok (.aload_n 0, 1) := by decide +kernel
theorem dX6_search_37 : decode cX6_search 37 = .ok (.iload_n 1, 1) := by decide +kernel
theorem dX6_search_38 : decode cX6_search 38 = .ok (.invokevirtual 159, 3) := by decide +kernel
theorem dX6_search_41 : decode cX6_search 41 = .ok (.iinc 1 1, 3) := by decide +kernel
theorem dX6_search_44 : decode cX6_search 44 = .ok (.goto (-19), 3) := by decide +kernel
theorem dX6_search_47 : decode cX6_search 47 = .ok (.aload_n 0, 1) := by decide +kernel
theorem dX6_search_48 : decode cX6_search 48 = .ok (.aload_n 0, 1) := by decide +kernel
theorem dX6_search_49 : decode cX6_search 49 = .ok (.getfield 48, 3) := by decide +kernel
theorem dX6_search_52 : decode cX6_search 52 = .ok (.invokevirtual 163, 3) := by decide +kernel
theorem dX6_search_55 : decode cX6_search 55 = .ok (.putfield 61, 3) := by decide +kernel
theorem dX6_search_58 : decode cX6_search 58 = .ok (.aload_n 0, 1) := by decide +kernel
theorem dX6_search_59 : decode cX6_search 59 = .ok (.getfield 39, 3) := by decide +kernel
theorem dX6_search_62 : decode cX6_search 62 = .ok (.invokevirtual 166, 3) := by decide +kernel
theorem dX6_search_65 : decode cX6_search 65 = .ok (.istore_n 1, 1) := by decide +kernel
theorem dX6_search_66 : decode cX6_search 66 = .ok (.aload_n 0, 1) := by decide +kernel
theorem dX6_search_67 : decode cX6_search 67 = .ok (.getfield 48, 3) := by decide +kernel
theorem dX6_search_70 : decode cX6_search 70 = .ok (.invokevirtual 170, 3) := by decide +kernel
theorem dX6_search_73 : decode cX6_search 73 = .ok (.ifCond .ne 7, 3) := by decide +kernel
theorem dX6_search_76 : decode cX6_search 76 = .ok (.iload_n 1, 1) := by decide +kernel
theorem dX6_search_77 : decode cX6_search 77 = .ok (.ifCond .eq 10, 3) := by decide +kernel
theorem dX6_search_80 : decode cX6_search 80 = .ok (.aload_n 0, 1) := by decide +kernel
theorem dX6_search_81 : decode cX6_search 81 = .ok (.getfield 39, 3) := by decide +kernel
theorem dX6_search_84 : decode cX6_search 84 = .ok (.invokevirtual 173, 3) := by decide +kernel
theorem dX6_search_87 : decode cX6_search 87 = .ok (.aload_n 0, 1) := by decide +kernel
theorem dX6_search_88 : decode cX6_search 88 = .ok (.getfield 57, 3) := by decide +kernel
theorem dX6_search_91 : decode cX6_search 91 = .ok (.invokevirtual 176, 3) := by decide +kernel
theorem dX6_search_94 : decode cX6_search 94 = .ok (.aload_n 0, 1) := by decide +kernel
theorem dX6_search_95 : decode cX6_search 95 = .ok (.getfield 48, 3) := by decide +kernel
theorem dX6_search_98 : decode cX6_search 98 = .ok (.invokevirtual 170, 3) := by decide +kernel
theorem dX6_search_101 : decode cX6_search 101 = .ok (.ifCond .eq 6, 3) := by decide +kernel
theorem dX6_search_104 : decode cX6_search 104 = .ok (.bipush (-2), 2) := by decide +kernel
theorem dX6_search_106 : decode cX6_search 106 = .ok (.ireturn, 1) := by decide +kernel
theorem dX6_search_107 : decode cX6_search 107 = .ok (.iload_n 1, 1) := by decide +kernel
theorem dX6_search_108 : decode cX6_search 108 = .ok (.ifCond .eq 7, 3) := by decide +kernel
theorem dX6_search_111 : decode cX6_search 111 = .ok (.iconst (-1), 1) := by decide +kernel
theorem dX6_search_112 : decode cX6_search 112 = .ok (.goto 10, 3) := by decide +kernel
theorem dX6_search_115 : decode cX6_search 115 = .ok (.aload_n 0, 1) := by decide +kernel
theorem dX6_search_116 : decode cX6_search 116 = .ok (.getfield 39, 3) := by decide +kernel
theorem dX6_search_119 : decode cX6_search 119 = .ok (.invokevirtual 179, 3) := by decide +kernel
theorem dX6_search_122 : decode cX6_search 122 = .ok (.ireturn, 1) := by decide +kernel
theorem dX6_file_0 : decode cX6_file 0 = .ok (.aload_n 0, 1) := by decide +kernel
theorem dX6_file_1 : decode cX6_file 1 = .ok (.iload_n 1, 1) := by decide +kernel
theorem dX6_file_2 : decode cX6_file 2 = .ok (.invokevirtual 180, 3) := by decide +kernel
theorem dX6_file_5 : decode cX6_file 5 = .ok (.istore_n 3, 1) := by decide +kernel
theorem dX6_file_6 : decode cX6_file 6 = .ok (.iload_n 2, 1) := by decide +kernel
theorem dX6_file_7 : decode cX6_file 7 = .ok (.ifCond .ge 13, 3) := by decide +kernel
theorem dX6_file_10 : decode cX6_file 10 = .ok (.new 68, 3) := by decide +kernel
theorem dX6_file_13 : decode cX6_file 13 = .ok (.dup, 1) := by decide +kernel
theorem dX6_file_14 : decode cX6_file 14 = .ok (.ldc 183, 2) := by decide +kernel
theorem dX6_file_16 : decode cX6_file 16 = .ok (.invokespecial 72, 3) := by decide +kernel
theorem dX6_file_19 : decode cX6_file 19 = .ok (.athrow, 1) := by decide +kernel
theorem dX6_file_20 : decode cX6_file 20 = .ok (.iload_n 2, 1) := by decide +kernel
theorem dX6_file_21 : decode cX6_file 21 = .ok (.tableswitch 88 0 4 #[35, 44, 53, 62, 79], 35) := by decide +kernel
theorem dX6_file_56 : decode cX6_file 56 = .ok (.aload_n 0, 1) := by decide +kernel
theorem dX6_file_57 : decode cX6_file 57 = .ok (.getfield 39, 3) := by decide +kernel
theorem dX6_file_60 : decode cX6_file 60 = .ok (.iload_n 3, 1) := by decide +kernel
theorem dX6_file_61 : decode cX6_file 61 = .ok (.invokevirtual 185, 3) := by decide +kernel
theorem dX6_file_64 : decode cX6_file 64 = .ok (.ireturn, 1) := by decide +kernel
theorem dX6_file_65 : decode cX6_file 65 = .ok (.aload_n 0, 1) := by decide +kernel
theorem dX6_file_66 : decode cX6_file 66 = .ok (.getfield 39, 3) := by decide +kernel
theorem dX6_file_69 : decode cX6_file 69 = .ok (.iload_n 3, 1) := by decide +kernel
theorem dX6_file_70 : decode cX6_file 70 = .ok (.invokevirtual 188, 3) := by decide +kernel
theorem dX6_file_73 : decode cX6_file 73 = .ok (.ireturn, 1) := by decide +kernel
theorem dX6_file_74 : decode cX6_file 74 = .ok (.aload_n 0, 1) := by decide +kernel
theorem dX6_file_75 : decode cX6_file 75 = .ok (.getfield 39, 3) := by decide +kernel
theorem dX6_file_78 : decode cX6_file 78 = .ok (.iload_n 3, 1) := by decide +kernel
theorem dX6_file_79 : decode cX6_file 79 = .ok (.invokevirtual 191, 3) := by decide +kernel
theorem dX6_file_82 : decode cX6_file 82 = .ok (.ireturn, 1) := by decide +kernel
theorem dX6_file_83 : decode cX6_file 83 = .ok (.aload_n 0, 1) := by decide +kernel
theorem dX6_file_84 : decode cX6_file 84 = .ok (.getfield 39, 3) := by decide +kernel
theorem dX6_file_87 : decode cX6_file 87 = .ok (.iload_n 3, 1) := by decide +kernel
theorem dX6_file_88 : decode cX6_file 88 = .ok (.invokevirtual 194, 3) := by decide +kernel
theorem dX6_file_91 : decode cX6_file 91 = .ok (.ifCond .eq 7, 3) := by decide +kernel
theorem dX6_file_94 : decode cX6_file 94 = .ok (.iconst 1, 1) := by decide +kernel
theorem dX6_file_95 : decode cX6_file 95 = .ok (.goto 4, 3) := by decide +kernel
theorem dX6_file_98 : decode cX6_file 98 = .ok (.iconst 0, 1) := by decide +kernel
theorem dX6_file_99 : decode cX6_file 99 = .ok (.ireturn, 1) := by decide +kernel
theorem dX6_file_100 : decode cX6_file 100 = .ok (.aload_n 0, 1) := by decide +kernel
theorem dX6_file_101 : decode cX6_file 101 = .ok (.getfield 39, 3) := by decide +kernel
theorem dX6_file_104 : decode cX6_file 104 = .ok (.iload_n 3, 1) := by decide +kernel
theorem dX6_file_105 : decode cX6_file 105 = .ok (.invokevirtual 197, 3) := by decide +kernel
theorem dX6_file_108 : decode cX6_file 108 = .ok (.ireturn, 1) := by decide +kernel
theorem dX6_file_109 : decode cX6_file 109 = .ok (.aload_n 0, 1) := by decide +kernel
theorem dX6_file_110 : decode cX6_file 110 = .ok (.getfield 39, 3) := by decide +kernel
theorem dX6_file_113 : decode cX6_file 113 = .ok (.iload_n 3, 1) := by decide +kernel
theorem dX6_file_114 : decode cX6_file 114 = .ok (.iload_n 2, 1) := by decide +kernel
theorem dX6_file_115 : decode cX6_file 115 = .ok (.iconst 5, 1) := by decide +kernel
theorem dX6_file_116 : decode cX6_file 116 = .ok (.isub, 1) := by decide +kernel
theorem dX6_file_117 : decode cX6_file 117 = .ok (.invokevirtual 200, 3) := by decide +kernel
theorem dX6_file_120 : decode cX6_file 120 = .ok (.ireturn, 1) := by decide +kernel
theorem dX6_data_0 : decode cX6_data 0 = .ok (.aload_n 0, 1) := by decide +kernel
theorem dX6_data_1 : decode cX6_data 1 = .ok (.getfield 39, 3) := by decide +kernel
theorem dX6_data_4 : decode cX6_data 4 = .ok (.aload_n 0, 1) := by decide +kernel
theorem dX6_data_5 : decode cX6_data 5 = .ok (.iload_n 1, 1) := by decide +kernel
theorem dX6_data_6 : decode cX6_data 6 = .ok (.invokevirtual 180, 3) := by decide +kernel
theorem dX6_data_9 : decode cX6_data 9 = .ok (.iload_n 2, 1) := by decide +kernel
theorem dX6_data_10 : decode cX6_data 10 = .ok (.invokevirtual 204, 3) := by decide +kernel
theorem dX6_data_13 : decode cX6_data 13 = .ok (.ireturn, 1) := by decide +kernel
theorem dX6_torn_0 : decode cX6_torn 0 = .ok (.aload_n 0, 1) := by decide +kernel
theorem dX6_torn_1 : decode cX6_torn 1 = .ok (.iload_n 1, 1) := by decide +kernel
theorem dX6_torn_2 : decode cX6_torn 2 = .ok (.invokevirtual 117, 3) := by decide +kernel
theorem dX6_torn_5 : decode cX6_torn 5 = .ok (.istore_n 2, 1) := by decide +kernel
theorem dX6_torn_6 : decode cX6_torn 6 = .ok (.aload_n 0, 1) := by decide +kernel
theorem dX6_torn_7 : decode cX6_torn 7 = .ok (.getfield 48, 3) := by decide +kernel
theorem dX6_torn_10 : decode cX6_torn 10 = .ok (.aload_n 0, 1) := by decide +kernel
theorem dX6_torn_11 : decode cX6_torn 11 = .ok (.getfield 33, 3) := by decide +kernel
theorem dX6_torn_14 : decode cX6_torn 14 = .ok (.iconst 0, 1) := by decide +kernel
theorem dX6_torn_15 : decode cX6_torn 15 = .ok (.invokevirtual 156, 3) := by decide +kernel
theorem dX6_torn_18 : decode cX6_torn 18 = .ok (.aload_n 0, 1) := by decide +kernel
theorem dX6_torn_19 : decode cX6_torn 19 = .ok (.iload_n 2, 1) := by decide +kernel
theorem dX6_torn_20 : decode cX6_torn 20 = .ok (.invokevirtual 159, 3) := by decide +kernel
theorem dX6_torn_23 : decode cX6_torn 23 = .ok (.aload_n 0, 1) := by decide +kernel
theorem dX6_torn_24 : decode cX6_torn 24 = .ok (.getfield 48, 3) := by decide +kernel
theorem dX6_torn_27 : decode cX6_torn 27 = .ok (.invokevirtual 170, 3) := by decide +kernel
theorem dX6_torn_30 : decode cX6_torn 30 = .ok (.ifCond .eq 7, 3) := by decide +kernel
theorem dX6_torn_33 : decode cX6_torn 33 = .ok (.iconst (-1), 1) := by decide +kernel
theorem dX6_torn_34 : decode cX6_torn 34 = .ok (.goto 10, 3) := by decide +kernel
theorem dX6_torn_37 : decode cX6_torn 37 = .ok (.aload_n 0, 1) := by decide +kernel
theorem dX6_torn_38 : decode cX6_torn 38 = .ok (.getfield 48, 3) := by decide +kernel
theorem dX6_torn_41 : decode cX6_torn 41 = .ok (.invokevirtual 207, 3) := by decide +kernel
theorem dX6_torn_44 : decode cX6_torn 44 = .ok (.ireturn, 1) := by decide +kernel
theorem dX6_best_0 : decode cX6_best 0 = .ok (.aload_n 0, 1) := by decide +kernel
theorem dX6_best_1 : decode cX6_best 1 = .ok (.getfield 57, 3) := by decide +kernel
theorem dX6_best_4 : decode cX6_best 4 = .ok (.invokevirtual 210, 3) := by decide +kernel
theorem dX6_best_7 : decode cX6_best 7 = .ok (.ifCond .eq 13, 3) := by decide +kernel
theorem dX6_best_10 : decode cX6_best 10 = .ok (.aload_n 0, 1) := by decide +kernel
theorem dX6_best_11 : decode cX6_best 11 = .ok (.getfield 57, 3) := by decide +kernel
theorem dX6_best_14 : decode cX6_best 14 = .ok (.invokevirtual 213, 3) := by decide +kernel
theorem dX6_best_17 : decode cX6_best 17 = .ok (.goto 4, 3) := by decide +kernel
theorem dX6_best_20 : decode cX6_best 20 = .ok (.iconst (-1), 1) := by decide +kernel
theorem dX6_best_21 : decode cX6_best 21 = .ok (.ireturn, 1) := by decide +kernel
theorem dX6_cost_0 : decode cX6_cost 0 = .ok (.aload_n 0, 1) := by decide +kernel
theorem dX6_cost_1 : decode cX6_cost 1 = .ok (.getfield 57, 3) := by decide +kernel
theorem dX6_cost_4 : decode cX6_cost 4 = .ok (.invokevirtual 210, 3) := by decide +kernel
theorem dX6_cost_7 : decode cX6_cost 7 = .ok (.ifCond .eq 13, 3) := by decide +kernel
theorem dX6_cost_10 : decode cX6_cost 10 = .ok (.aload_n 0, 1) := by decide +kernel
theorem dX6_cost_11 : decode cX6_cost 11 = .ok (.getfield 57, 3) := by decide +kernel
theorem dX6_cost_14 : decode cX6_cost 14 = .ok (.invokevirtual 216, 3) := by decide +kernel
theorem dX6_cost_17 : decode cX6_cost 17 = .ok (.goto 4, 3) := by decide +kernel
theorem dX6_cost_20 : decode cX6_cost 20 = .ok (.iconst (-1), 1) := by decide +kernel
theorem dX6_cost_21 : decode cX6_cost 21 = .ok (.ireturn, 1) := by decide +kernel
theorem dX6_covers_0 : decode cX6_covers 0 = .ok (.aload_n 0, 1) := by decide +kernel
theorem dX6_covers_1 : decode cX6_covers 1 = .ok (.getfield 57, 3) := by decide +kernel
theorem dX6_covers_4 : decode cX6_covers 4 = .ok (.invokevirtual 210, 3) := by decide +kernel
theorem dX6_covers_7 : decode cX6_covers 7 = .ok (.ifCond .eq 14, 3) := by decide +kernel
theorem dX6_covers_10 : decode cX6_covers 10 = .ok (.aload_n 0, 1) := by decide +kernel
theorem dX6_covers_11 : decode cX6_covers 11 = .ok (.getfield 57, 3) := by decide +kernel
theorem dX6_covers_14 : decode cX6_covers 14 = .ok (.iload_n 1, 1) := by decide +kernel
theorem dX6_covers_15 : decode cX6_covers 15 = .ok (.invokevirtual 219, 3) := by decide +kernel
theorem dX6_covers_18 : decode cX6_covers 18 = .ok (.goto 4, 3) := by decide +kernel
theorem dX6_covers_21 : decode cX6_covers 21 = .ok (.iconst (-1), 1) := by decide +kernel
theorem dX6_covers_22 : decode cX6_covers 22 = .ok (.ireturn, 1) := by decide +kernel
theorem dX6_nobody_0 : decode cX6_nobody 0 = .ok (.aload_n 0, 1) := by decide +kernel
theorem dX6_nobody_1 : decode cX6_nobody 1 = .ok (.getfield 57, 3) := by decide +kernel
theorem dX6_nobody_4 : decode cX6_nobody 4 = .ok (.invokevirtual 210, 3) := by decide +kernel
theorem dX6_nobody_7 : decode cX6_nobody 7 = .ok (.ifCond .eq 14, 3) := by decide +kernel
theorem dX6_nobody_10 : decode cX6_nobody 10 = .ok (.aload_n 0, 1) := by decide +kernel
theorem dX6_nobody_11 : decode cX6_nobody 11 = .ok (.getfield 57, 3) := by decide +kernel
theorem dX6_nobody_14 : decode cX6_nobody 14 = .ok (.iload_n 1, 1) := by decide +kernel
theorem dX6_nobody_15 : decode cX6_nobody 15 = .ok (.invokevirtual 222, 3) := by decide +kernel
theorem dX6_nobody_18 : decode cX6_nobody 18 = .ok (.goto 4, 3) := by decide +kernel
theorem dX6_nobody_21 : decode cX6_nobody 21 = .ok (.iconst (-1), 1) := by decide +kernel
theorem dX6_nobody_22 : decode cX6_nobody 22 = .ok (.ireturn, 1) := by decide +kernel
theorem dX6_check_0 : decode cX6_check 0 = .ok (.aload_n 0, 1) := by decide +kernel
theorem dX6_check_1 : decode cX6_check 1 = .ok (.getfield 29, 3) := by decide +kernel
theorem dX6_check_4 : decode cX6_check 4 = .ok (.aload_n 0, 1) := by decide +kernel
theorem dX6_check_5 : decode cX6_check 5 = .ok (.iload_n 1, 1) := by decide +kernel
theorem dX6_check_6 : decode cX6_check 6 = .ok (.invokevirtual 85, 3) := by decide +kernel
theorem dX6_check_9 : decode cX6_check 9 = .ok (.invokevirtual 225, 3) := by decide +kernel
theorem dX6_check_12 : decode cX6_check 12 = .ok (.ireturn, 1) := by decide +kernel
theorem dX6_count_0 : decode cX6_count 0 = .ok (.iload_n 1, 1) := by decide +kernel
theorem dX6_count_1 : decode cX6_count 1 = .ok (.tableswitch 78 0 5 #[39, 47, 52, 60, 68, 73], 39) := by decide +kernel
theorem dX6_count_40 : decode cX6_count 40 = .ok (.aload_n 0, 1) := by decide +kernel
theorem dX6_count_41 : decode cX6_count 41 = .ok (.getfield 22, 3) := by decide +kernel
theorem dX6_count_44 : decode cX6_count 44 = .ok (.invokevirtual 138, 3) := by decide +kernel
theorem dX6_count_47 : decode cX6_count 47 = .ok (.ireturn, 1) := by decide +kernel
theorem dX6_count_48 : decode cX6_count 48 = .ok (.aload_n 0, 1) := by decide +kernel
theorem dX6_count_49 : decode cX6_count 49 = .ok (.getfield 15, 3) := by decide +kernel
theorem dX6_count_52 : decode cX6_count 52 = .ok (.ireturn, 1) := by decide +kernel
theorem dX6_count_53 : decode cX6_count 53 = .ok (.aload_n 0, 1) := by decide +kernel
theorem dX6_count_54 : decode cX6_count 54 = .ok (.getfield 29, 3) := by decide +kernel
theorem dX6_count_57 : decode cX6_count 57 = .ok (.invokevirtual 141, 3) := by decide +kernel
theorem dX6_count_60 : decode cX6_count 60 = .ok (.ireturn, 1) := by decide +kernel
theorem dX6_count_61 : decode cX6_count 61 = .ok (.aload_n 0, 1) := by decide +kernel
theorem dX6_count_62 : decode cX6_count 62 = .ok (.getfield 39, 3) := by decide +kernel
theorem dX6_count_65 : decode cX6_count 65 = .ok (.invokevirtual 179, 3) := by decide +kernel
theorem dX6_count_68 : decode cX6_count 68 = .ok (.ireturn, 1) := by decide +kernel
theorem dX6_count_69 : decode cX6_count 69 = .ok (.aload_n 0, 1) := by decide +kernel
theorem dX6_count_70 : decode cX6_count 70 = .ok (.getfield 33, 3) := by decide +kernel
theorem dX6_count_73 : decode cX6_count 73 = .ok (.ireturn, 1) := by decide +kernel
theorem dX6_count_74 : decode cX6_count 74 = .ok (.aload_n 0, 1) := by decide +kernel
theorem dX6_count_75 : decode cX6_count 75 = .ok (.getfield 61, 3) := by decide +kernel
theorem dX6_count_78 : decode cX6_count 78 = .ok (.ireturn, 1) := by decide +kernel
theorem dX6_count_79 : decode cX6_count 79 = .ok (.iconst (-1), 1) := by decide +kernel
theorem dX6_count_80 : decode cX6_count 80 = .ok (.ireturn, 1) := by decide +kernel
theorem dX6_walkFrom_0 : decode cX6_walkFrom 0 = .ok (.iconst 0, 1) := by decide +kernel
theorem dX6_walkFrom_1 : decode cX6_walkFrom 1 = .ok (.istore_n 2, 1) := by decide +kernel
theorem dX6_walkFrom_2 : decode cX6_walkFrom 2 = .ok (.iload_n 2, 1) := by decide +kernel
theorem dX6_walkFrom_3 : decode cX6_walkFrom 3 = .ok (.bipush 6, 2) := by decide +kernel
theorem dX6_walkFrom_5 : decode cX6_walkFrom 5 = .ok (.if_icmp .ge 30, 3) := by decide +kernel
theorem dX6_walkFrom_8 : decode cX6_walkFrom 8 = .ok (.aload_n 0, 1) := by decide +kernel
theorem dX6_walkFrom_9 : decode cX6_walkFrom 9 = .ok (.getfield 11, 3) := by decide +kernel
theorem dX6_walkFrom_12 : decode cX6_walkFrom 12 = .ok (.iload_n 2, 1) := by decide +kernel
theorem dX6_walkFrom_13 : decode cX6_walkFrom 13 = .ok (.aaload, 1) := by decide +kernel
theorem dX6_walkFrom_14 : decode cX6_walkFrom 14 = .ok (.astore_n 3, 1) := by decide +kernel
theorem dX6_walkFrom_15 : decode cX6_walkFrom 15 = .ok (.aload_n 3, 1) := by decide +kernel
theorem dX6_walkFrom_16 : decode cX6_walkFrom 16 = .ok (.ifnull 13, 3) := by decide +kernel
theorem dX6_walkFrom_19 : decode cX6_walkFrom 19 = .ok (.aload_n 0, 1) := by decide +kernel
theorem dX6_walkFrom_20 : decode cX6_walkFrom 20 = .ok (.getfield 48, 3) := by decide +kernel
theorem dX6_walkFrom_23 : decode cX6_walkFrom 23 = .ok (.aload_n 3, 1) := by decide +kernel
theorem dX6_walkFrom_24 : decode cX6_walkFrom 24 = .ok (.iload_n 2, 1) := by decide +kernel
theorem dX6_walkFrom_25 : decode cX6_walkFrom 25 = .ok (.iload_n 1, 1) := by decide +kernel
theorem dX6_walkFrom_26 : decode cX6_walkFrom 26 = .ok (.invokevirtual 229, 3) := by decide +kernel
theorem dX6_walkFrom_29 : decode cX6_walkFrom 29 = .ok (.iinc 2 1, 3) := by decide +kernel
theorem dX6_walkFrom_32 : decode cX6_walkFrom 32 = .ok (.goto (-30), 3) := by decide +kernel
theorem dX6_walkFrom_35 : decode cX6_walkFrom 35 = .ok (.return_, 1) := by decide +kernel
theorem dX6_neededMake_0 : decode cX6_neededMake 0 = .ok (.iload_n 1, 1) := by decide +kernel
theorem dX6_neededMake_1 : decode cX6_neededMake 1 = .ok (.ifCond .lt 18, 3) := by decide +kernel
theorem dX6_neededMake_4 : decode cX6_neededMake 4 = .ok (.iload_n 1, 1) := by decide +kernel
theorem dX6_neededMake_5 : decode cX6_neededMake 5 = .ok (.bipush 6, 2) := by decide +kernel
theorem dX6_neededMake_7 : decode cX6_neededMake 7 = .ok (.if_icmp .ge 12, 3) := by decide +kernel
theorem dX6_neededMake_10 : decode cX6_neededMake 10 = .ok (.aload_n 0, 1) := by decide +kernel
theorem dX6_neededMake_11 : decode cX6_neededMake 11 = .ok (.getfield 11, 3) := by decide +kernel
theorem dX6_neededMake_14 : decode cX6_neededMake 14 = .ok (.iload_n 1, 1) := by decide +kernel
theorem dX6_neededMake_15 : decode cX6_neededMake 15 = .ok (.aaload, 1) := by decide +kernel
theorem dX6_neededMake_16 : decode cX6_neededMake 16 = .ok (.goto 4, 3) := by decide +kernel
theorem dX6_neededMake_19 : decode cX6_neededMake 19 = .ok (.aconst_null, 1) := by decide +kernel
theorem dX6_neededMake_20 : decode cX6_neededMake 20 = .ok (.astore_n 2, 1) := by decide +kernel
theorem dX6_neededMake_21 : decode cX6_neededMake 21 = .ok (.aload_n 2, 1) := by decide +kernel
theorem dX6_neededMake_22 : decode cX6_neededMake 22 = .ok (.ifnonnull 13, 3) := by decide +kernel
theorem dX6_neededMake_25 : decode cX6_neededMake 25 = .ok (.new 233, 3) := by decide +kernel
theorem dX6_neededMake_28 : decode cX6_neededMake 28 = .ok (.dup, 1) := by decide +kernel
theorem dX6_neededMake_29 : decode cX6_neededMake 29 = .ok (.ldc 235, 2) := by decide +kernel
theorem dX6_neededMake_31 : decode cX6_neededMake 31 = .ok (.invokespecial 237, 3) := by decide +kernel
theorem dX6_neededMake_34 : decode cX6_neededMake 34 = .ok (.athrow, 1) := by decide +kernel
theorem dX6_neededMake_35 : decode cX6_neededMake 35 = .ok (.aload_n 2, 1) := by decide +kernel
theorem dX6_neededMake_36 : decode cX6_neededMake 36 = .ok (.areturn, 1) := by decide +kernel
theorem dX6_neededBlock_0 : decode cX6_neededBlock 0 = .ok (.iload_n 1, 1) := by decide +kernel
theorem dX6_neededBlock_1 : decode cX6_neededBlock 1 = .ok (.ifCond .lt 14, 3) := by decide +kernel
theorem dX6_neededBlock_4 : decode cX6_neededBlock 4 = .ok (.iload_n 1, 1) := by decide +kernel
theorem dX6_neededBlock_5 : decode cX6_neededBlock 5 = .ok (.aload_n 0, 1) := by decide +kernel
theorem dX6_neededBlock_6 : decode cX6_neededBlock 6 = .ok (.getfield 22, 3) := by decide +kernel
theorem dX6_neededBlock_9 : decode cX6_neededBlock 9 = .ok (.invokevirtual 138, 3) := by decide +kernel
theorem dX6_neededBlock_12 : decode cX6_neededBlock 12 = .ok (.if_icmp .lt 13, 3) := by decide +kernel
theorem dX6_neededBlock_15 : decode cX6_neededBlock 15 = .ok (.new 233, 3) := by decide +kernel
theorem dX6_neededBlock_18 : decode cX6_neededBlock 18 = .ok (.dup, 1) := by decide +kernel
theorem dX6_neededBlock_19 : decode cX6_neededBlock 19 = .ok (.ldc 238, 2) := by decide +kernel
theorem dX6_neededBlock_21 : decode cX6_neededBlock 21 = .ok (.invokespecial 237, 3) := by decide +kernel
theorem dX6_neededBlock_24 : decode cX6_neededBlock 24 = .ok (.athrow, 1) := by decide +kernel
theorem dX6_neededBlock_25 : decode cX6_neededBlock 25 = .ok (.iload_n 1, 1) := by decide +kernel
theorem dX6_neededBlock_26 : decode cX6_neededBlock 26 = .ok (.ireturn, 1) := by decide +kernel
theorem dX6_neededFile_0 : decode cX6_neededFile 0 = .ok (.iload_n 1, 1) := by decide +kernel
theorem dX6_neededFile_1 : decode cX6_neededFile 1 = .ok (.ifCond .lt 14, 3) := by decide +kernel
theorem dX6_neededFile_4 : decode cX6_neededFile 4 = .ok (.iload_n 1, 1) := by decide +kernel
theorem dX6_neededFile_5 : decode cX6_neededFile 5 = .ok (.aload_n 0, 1) := by decide +kernel
theorem dX6_neededFile_6 : decode cX6_neededFile 6 = .ok (.getfield 39, 3) := by decide +kernel
theorem dX6_neededFile_9 : decode cX6_neededFile 9 = .ok (.invokevirtual 179, 3) := by decide +kernel
theorem dX6_neededFile_12 : decode cX6_neededFile 12 = .ok (.if_icmp .lt 13, 3) := by decide +kernel
theorem dX6_neededFile_15 : decode cX6_neededFile 15 = .ok (.new 233, 3) := by decide +kernel
theorem dX6_neededFile_18 : decode cX6_neededFile 18 = .ok (.dup, 1) := by decide +kernel
theorem dX6_neededFile_19 : decode cX6_neededFile 19 = .ok (.ldc 240, 2) := by decide +kernel
theorem dX6_neededFile_21 : decode cX6_neededFile 21 = .ok (.invokespecial 237, 3) := by decide +kernel
theorem dX6_neededFile_24 : decode cX6_neededFile 24 = .ok (.athrow, 1) := by decide +kernel
theorem dX6_neededFile_25 : decode cX6_neededFile 25 = .ok (.iload_n 1, 1) := by decide +kernel
theorem dX6_neededFile_26 : decode cX6_neededFile 26 = .ok (.ireturn, 1) := by decide +kernel
theorem dX6_isByte_0 : decode cX6_isByte 0 = .ok (.iload_n 0, 1) := by decide +kernel
theorem dX6_isByte_1 : decode cX6_isByte 1 = .ok (.ifCond .lt 14, 3) := by decide +kernel
theorem dX6_isByte_4 : decode cX6_isByte 4 = .ok (.iload_n 0, 1) := by decide +kernel
theorem dX6_isByte_5 : decode cX6_isByte 5 = .ok (.sipush 256, 3) := by decide +kernel
theorem dX6_isByte_8 : decode cX6_isByte 8 = .ok (.if_icmp .ge 7, 3) := by decide +kernel
theorem dX6_isByte_11 : decode cX6_isByte 11 = .ok (.iconst 1, 1) := by decide +kernel
theorem dX6_isByte_12 : decode cX6_isByte 12 = .ok (.goto 4, 3) := by decide +kernel
theorem dX6_isByte_15 : decode cX6_isByte 15 = .ok (.iconst 0, 1) := by decide +kernel
theorem dX6_isByte_16 : decode cX6_isByte 16 = .ok (.ireturn, 1) := by decide +kernel
theorem dX6_isState_0 : decode cX6_isState 0 = .ok (.iload_n 0, 1) := by decide +kernel
theorem dX6_isState_1 : decode cX6_isState 1 = .ok (.ifCond .lt 13, 3) := by decide +kernel
theorem dX6_isState_4 : decode cX6_isState 4 = .ok (.iload_n 0, 1) := by decide +kernel
theorem dX6_isState_5 : decode cX6_isState 5 = .ok (.bipush 16, 2) := by decide +kernel
theorem dX6_isState_7 : decode cX6_isState 7 = .ok (.if_icmp .ge 7, 3) := by decide +kernel
theorem dX6_isState_10 : decode cX6_isState 10 = .ok (.iconst 1, 1) := by decide +kernel
theorem dX6_isState_11 : decode cX6_isState 11 = .ok (.goto 4, 3) := by decide +kernel
theorem dX6_isState_14 : decode cX6_isState 14 = .ok (.iconst 0, 1) := by decide +kernel
theorem dX6_isState_15 : decode cX6_isState 15 = .ok (.ireturn, 1) := by decide +kernel
theorem dX6_byteOf_0 : decode cX6_byteOf 0 = .ok (.lload_n 0, 1) := by decide +kernel
theorem dX6_byteOf_1 : decode cX6_byteOf 1 = .ok (.bipush 8, 2) := by decide +kernel
theorem dX6_byteOf_3 : decode cX6_byteOf 3 = .ok (.bipush 7, 2) := by decide +kernel
theorem dX6_byteOf_5 : decode cX6_byteOf 5 = .ok (.iload_n 2, 1) := by decide +kernel
theorem dX6_byteOf_6 : decode cX6_byteOf 6 = .ok (.isub, 1) := by decide +kernel
theorem dX6_byteOf_7 : decode cX6_byteOf 7 = .ok (.imul, 1) := by decide +kernel
theorem dX6_byteOf_8 : decode cX6_byteOf 8 = .ok (.lushr, 1) := by decide +kernel
theorem dX6_byteOf_9 : decode cX6_byteOf 9 = .ok (.l2i, 1) := by decide +kernel
theorem dX6_byteOf_10 : decode cX6_byteOf 10 = .ok (.sipush 255, 3) := by decide +kernel
theorem dX6_byteOf_13 : decode cX6_byteOf 13 = .ok (.iand, 1) := by decide +kernel
theorem dX6_byteOf_14 : decode cX6_byteOf 14 = .ok (.ireturn, 1) := by decide +kernel
theorem dX6_isZeroBehind_0 : decode cX6_isZeroBehind 0 = .ok (.lload_n 0, 1) := by decide +kernel
theorem dX6_isZeroBehind_1 : decode cX6_isZeroBehind 1 = .ok (.bipush 8, 2) := by decide +kernel
theorem dX6_isZeroBehind_3 : decode cX6_isZeroBehind 3 = .ok (.iload_n 2, 1) := by decide +kernel
theorem dX6_isZeroBehind_4 : decode cX6_isZeroBehind 4 = .ok (.imul, 1) := by decide +kernel
theorem dX6_isZeroBehind_5 : decode cX6_isZeroBehind 5 = .ok (.lshl, 1) := by decide +kernel
theorem dX6_isZeroBehind_6 : decode cX6_isZeroBehind 6 = .ok (.bipush 8, 2) := by decide +kernel
theorem dX6_isZeroBehind_8 : decode cX6_isZeroBehind 8 = .ok (.lshl, 1) := by decide +kernel
theorem dX6_isZeroBehind_9 : decode cX6_isZeroBehind 9 = .ok (.lconst 0, 1) := by decide +kernel
theorem dX6_isZeroBehind_10 : decode cX6_isZeroBehind 10 = .ok (.lcmp, 1) := by decide +kernel
theorem dX6_isZeroBehind_11 : decode cX6_isZeroBehind 11 = .ok (.ifCond .ne 7, 3) := by decide +kernel
theorem dX6_isZeroBehind_14 : decode cX6_isZeroBehind 14 = .ok (.iconst 1, 1) := by decide +kernel
theorem dX6_isZeroBehind_15 : decode cX6_isZeroBehind 15 = .ok (.goto 4, 3) := by decide +kernel
theorem dX6_isZeroBehind_18 : decode cX6_isZeroBehind 18 = .ok (.iconst 0, 1) := by decide +kernel
theorem dX6_isZeroBehind_19 : decode cX6_isZeroBehind 19 = .ok (.ireturn, 1) := by decide +kernel
theorem dX6_blocksOf_0 : decode cX6_blocksOf 0 = .ok (.iconst 3, 1) := by decide +kernel
theorem dX6_blocksOf_1 : decode cX6_blocksOf 1 = .ok (.iload_n 0, 1) := by decide +kernel
theorem dX6_blocksOf_2 : decode cX6_blocksOf 2 = .ok (.iadd, 1) := by decide +kernel
theorem dX6_blocksOf_3 : decode cX6_blocksOf 3 = .ok (.bipush 8, 2) := by decide +kernel
theorem dX6_blocksOf_5 : decode cX6_blocksOf 5 = .ok (.idiv, 1) := by decide +kernel
theorem dX6_blocksOf_6 : decode cX6_blocksOf 6 = .ok (.iconst 1, 1) := by decide +kernel
theorem dX6_blocksOf_7 : decode cX6_blocksOf 7 = .ok (.iadd, 1) := by decide +kernel
theorem dX6_blocksOf_8 : decode cX6_blocksOf 8 = .ok (.ireturn, 1) := by decide +kernel
theorem dX7_init_0 : decode cX7_init 0 = .ok (.aload_n 0, 1) := by decide +kernel
theorem dX7_init_1 : decode cX7_init 1 = .ok (.invokespecial 1, 3) := by decide +kernel
theorem dX7_init_4 : decode cX7_init 4 = .ok (.aload_n 0, 1) := by decide +kernel
theorem dX7_init_5 : decode cX7_init 5 = .ok (.bipush 6, 2) := by decide +kernel
theorem dX7_init_7 : decode cX7_init 7 = .ok (.newarray .int, 2) := by decide +kernel
theorem dX7_init_9 : decode cX7_init 9 = .ok (.putfield 7, 3) := by decide +kernel
theorem dX7_init_12 : decode cX7_init 12 = .ok (.aload_n 0, 1) := by decide +kernel
theorem dX7_init_13 : decode cX7_init 13 = .ok (.bipush 6, 2) := by decide +kernel
theorem dX7_init_15 : decode cX7_init 15 = .ok (.newarray .int, 2) := by decide +kernel
theorem dX7_init_17 : decode cX7_init 17 = .ok (.putfield 13, 3) := by decide +kernel
theorem dX7_init_20 : decode cX7_init 20 = .ok (.aload_n 0, 1) := by decide +kernel
theorem dX7_init_21 : decode cX7_init 21 = .ok (.bipush 6, 2) := by decide +kernel
theorem dX7_init_23 : decode cX7_init 23 = .ok (.newarray .int, 2) := by decide +kernel
theorem dX7_init_25 : decode cX7_init 25 = .ok (.putfield 16, 3) := by decide +kernel
theorem dX7_init_28 : decode cX7_init 28 = .ok (.aload_n 0, 1) := by decide +kernel
theorem dX7_init_29 : decode cX7_init 29 = .ok (.bipush 6, 2) := by decide +kernel
theorem dX7_init_31 : decode cX7_init 31 = .ok (.newarray .int, 2) := by decide +kernel
theorem dX7_init_33 : decode cX7_init 33 = .ok (.putfield 19, 3) := by decide +kernel
theorem dX7_init_36 : decode cX7_init 36 = .ok (.aload_n 0, 1) := by decide +kernel
theorem dX7_init_37 : decode cX7_init 37 = .ok (.bipush 6, 2) := by decide +kernel
theorem dX7_init_39 : decode cX7_init 39 = .ok (.newarray .int, 2) := by decide +kernel
theorem dX7_init_41 : decode cX7_init 41 = .ok (.putfield 22, 3) := by decide +kernel
theorem dX7_init_44 : decode cX7_init 44 = .ok (.aload_n 0, 1) := by decide +kernel
theorem dX7_init_45 : decode cX7_init 45 = .ok (.sipush 24576, 3) := by decide +kernel
theorem dX7_init_48 : decode cX7_init 48 = .ok (.newarray .int, 2) := by decide +kernel
theorem dX7_init_50 : decode cX7_init 50 = .ok (.putfield 25, 3) := by decide +kernel
theorem dX7_init_53 : decode cX7_init 53 = .ok (.aload_n 0, 1) := by decide +kernel
theorem dX7_init_54 : decode cX7_init 54 = .ok (.bipush 24, 2) := by decide +kernel
theorem dX7_init_56 : decode cX7_init 56 = .ok (.newarray .long, 2) := by decide +kernel
theorem dX7_init_58 : decode cX7_init 58 = .ok (.putfield 28, 3) := by decide +kernel
theorem dX7_init_61 : decode cX7_init 61 = .ok (.aload_n 0, 1) := by decide +kernel
theorem dX7_init_62 : decode cX7_init 62 = .ok (.bipush 36, 2) := by decide +kernel
theorem dX7_init_64 : decode cX7_init 64 = .ok (.newarray .int, 2) := by decide +kernel
theorem dX7_init_66 : decode cX7_init 66 = .ok (.putfield 32, 3) := by decide +kernel
theorem dX7_init_69 : decode cX7_init 69 = .ok (.aload_n 0, 1) := by decide +kernel
theorem dX7_init_70 : decode cX7_init 70 = .ok (.iconst 4, 1) := by decide +kernel
theorem dX7_init_71 : decode cX7_init 71 = .ok (.putfield 35, 3) := by decide +kernel
theorem dX7_init_74 : decode cX7_init 74 = .ok (.aload_n 0, 1) := by decide +kernel
theorem dX7_init_75 : decode cX7_init 75 = .ok (.bipush 40, 2) := by decide +kernel
theorem dX7_init_77 : decode cX7_init 77 = .ok (.newarray .int, 2) := by decide +kernel
theorem dX7_init_79 : decode cX7_init 79 = .ok (.putfield 39, 3) := by decide +kernel
theorem dX7_init_82 : decode cX7_init 82 = .ok (.aload_n 0, 1) := by decide +kernel
theorem dX7_init_83 : decode cX7_init 83 = .ok (.iconst 5, 1) := by decide +kernel
theorem dX7_init_84 : decode cX7_init 84 = .ok (.newarray .int, 2) := by decide +kernel
theorem dX7_init_86 : decode cX7_init 86 = .ok (.putfield 42, 3) := by decide +kernel
theorem dX7_init_89 : decode cX7_init 89 = .ok (.aload_n 0, 1) := by decide +kernel
theorem dX7_init_90 : decode cX7_init 90 = .ok (.bipush 6, 2) := by decide +kernel
theorem dX7_init_92 : decode cX7_init 92 = .ok (.newarray .int, 2) := by decide +kernel
theorem dX7_init_94 : decode cX7_init 94 = .ok (.putfield 45, 3) := by decide +kernel
theorem dX7_init_97 : decode cX7_init 97 = .ok (.aload_n 0, 1) := by decide +kernel
theorem dX7_init_98 : decode cX7_init 98 = .ok (.bipush 41, 2) := by decide +kernel
theorem dX7_init_100 : decode cX7_init 100 = .ok (.newarray .int, 2) := by decide +kernel
theorem dX7_init_102 : decode cX7_init 102 = .ok (.putfield 48, 3) := by decide +kernel
theorem dX7_init_105 : decode cX7_init 105 = .ok (.aload_n 0, 1) := by decide +kernel
theorem dX7_init_106 : decode cX7_init 106 = .ok (.bipush 41, 2) := by decide +kernel
theorem dX7_init_108 : decode cX7_init 108 = .ok (.newarray .int, 2) := by decide +kernel
theorem dX7_init_110 : decode cX7_init 110 = .ok (.putfield 51, 3) := by decide +kernel
theorem dX7_init_113 : decode cX7_init 113 = .ok (.aload_n 0, 1) := by decide +kernel
theorem dX7_init_114 : decode cX7_init 114 = .ok (.sipush 205, 3) := by decide +kernel
theorem dX7_init_117 : decode cX7_init 117 = .ok (.newarray .int, 2) := by decide +kernel
theorem dX7_init_119 : decode cX7_init 119 = .ok (.putfield 54, 3) := by decide +kernel
theorem dX7_init_122 : decode cX7_init 122 = .ok (.aload_n 0, 1) := by decide +kernel
theorem dX7_init_123 : decode cX7_init 123 = .ok (.sipush 1517, 3) := by decide +kernel
theorem dX7_init_126 : decode cX7_init 126 = .ok (.newarray .int, 2) := by decide +kernel
theorem dX7_init_128 : decode cX7_init 128 = .ok (.putfield 57, 3) := by decide +kernel
theorem dX7_init_131 : decode cX7_init 131 = .ok (.aload_n 0, 1) := by decide +kernel
theorem dX7_init_132 : decode cX7_init 132 = .ok (.bipush 42, 2) := by decide +kernel
theorem dX7_init_134 : decode cX7_init 134 = .ok (.newarray .int, 2) := by decide +kernel
theorem dX7_init_136 : decode cX7_init 136 = .ok (.putfield 60, 3) := by decide +kernel
theorem dX7_init_139 : decode cX7_init 139 = .ok (.aload_n 0, 1) := by decide +kernel
theorem dX7_init_140 : decode cX7_init 140 = .ok (.bipush 6, 2) := by decide +kernel
theorem dX7_init_142 : decode cX7_init 142 = .ok (.newarray .int, 2) := by decide +kernel
theorem dX7_init_144 : decode cX7_init 144 = .ok (.putfield 63, 3) := by decide +kernel
theorem dX7_init_147 : decode cX7_init 147 = .ok (.aload_n 0, 1) := by decide +kernel
theorem dX7_init_148 : decode cX7_init 148 = .ok (.bipush 6, 2) := by decide +kernel
theorem dX7_init_150 : decode cX7_init 150 = .ok (.newarray .int, 2) := by decide +kernel
theorem dX7_init_152 : decode cX7_init 152 = .ok (.putfield 66, 3) := by decide +kernel
theorem dX7_init_155 : decode cX7_init 155 = .ok (.return_, 1) := by decide +kernel
theorem dX7_thrown_0 : decode cX7_thrown 0 = .ok (.aload_n 0, 1) := by decide +kernel
theorem dX7_thrown_1 : decode cX7_thrown 1 = .ok (.getfield 69, 3) := by decide +kernel
theorem dX7_thrown_4 : decode cX7_thrown 4 = .ok (.ireturn, 1) := by decide +kernel
theorem dX7_bad_0 : decode cX7_bad 0 = .ok (.iload_n 1, 1) := by decide +kernel
theorem dX7_bad_1 : decode cX7_bad 1 = .ok (.ifCond .eq 8, 3) := by decide +kernel
theorem dX7_bad_4 : decode cX7_bad 4 = .ok (.aload_n 0, 1) := by decide +kernel
theorem dX7_bad_5 : decode cX7_bad 5 = .ok (.iload_n 2, 1) := by decide +kernel
theorem dX7_bad_6 : decode cX7_bad 6 = .ok (.putfield 69, 3) := by decide +kernel
theorem dX7_bad_9 : decode cX7_bad 9 = .ok (.iload_n 1, 1) := by decide +kernel
theorem dX7_bad_10 : decode cX7_bad 10 = .ok (.ireturn, 1) := by decide +kernel
theorem dX7_isByte_0 : decode cX7_isByte 0 = .ok (.iload_n 0, 1) := by decide +kernel
theorem dX7_isByte_1 : decode cX7_isByte 1 = .ok (.ifCond .lt 14, 3) := by decide +kernel
theorem dX7_isByte_4 : decode cX7_isByte 4 = .ok (.iload_n 0, 1) := by decide +kernel
theorem dX7_isByte_5 : decode cX7_isByte 5 = .ok (.sipush 256, 3) := by decide +kernel
theorem dX7_isByte_8 : decode cX7_isByte 8 = .ok (.if_icmp .ge 7, 3) := by decide +kernel
theorem dX7_isByte_11 : decode cX7_isByte 11 = .ok (.iconst 1, 1) := by decide +kernel
theorem dX7_isByte_12 : decode cX7_isByte 12 = .ok (.goto 4, 3) := by decide +kernel
theorem dX7_isByte_15 : decode cX7_isByte 15 = .ok (.iconst 0, 1) := by decide +kernel
theorem dX7_isByte_16 : decode cX7_isByte 16 = .ok (.ireturn, 1) := by decide +kernel
theorem dX7_make_0 : decode cX7_make 0 = .ok (.aload_n 0, 1) := by decide +kernel
theorem dX7_make_1 : decode cX7_make 1 = .ok (.iconst 0, 1) := by decide +kernel
theorem dX7_make_2 : decode cX7_make 2 = .ok (.putfield 69, 3) := by decide +kernel
theorem dX7_make_5 : decode cX7_make 5 = .ok (.aload_n 0, 1) := by decide +kernel
theorem dX7_make_6 : decode cX7_make 6 = .ok (.iload_n 1, 1) := by decide +kernel
theorem dX7_make_7 : decode cX7_make 7 = .ok (.invokestatic 72, 3) := by decide +kernel
theorem dX7_make_10 : decode cX7_make 10 = .ok (.ifCond .eq 19, 3) := by decide +kernel
theorem dX7_make_13 : decode cX7_make 13 = .ok (.iload_n 2, 1) := by decide +kernel
theorem dX7_make_14 : decode cX7_make 14 = .ok (.invokestatic 72, 3) := by decide +kernel
theorem dX7_make_17 : decode cX7_make 17 = .ok (.ifCond .eq 12, 3) := by decide +kernel
theorem dX7_make_20 : decode cX7_make 20 = .ok (.iload_n 3, 1) := by decide +kernel
theorem dX7_make_21 : decode cX7_make 21 = .ok (.ifCond .lt 8, 3) := by decide +kernel
theorem dX7_make_24 : decode cX7_make 24 = .ok (.iload_n 3, 1) := by decide +kernel
theorem dX7_make_25 : decode cX7_make 25 = .ok (.iconst 2, 1) := by decide +kernel
theorem dX7_make_26 : decode cX7_make 26 = .ok (.if_icmp .le 7, 3) := by decide +kernel
theorem dX7_make_29 : decode cX7_make 29 = .ok (.iconst 1, 1) := by decide +kernel
theorem dX7_make_30 : decode cX7_make 30 = .ok (.goto 4, 3) := by decide +kernel
theorem dX7_make_33 : decode cX7_make 33 = .ok (.iconst 0, 1) := by decide +kernel
theorem dX7_make_34 : decode cX7_make 34 = .ok (.iconst 1, 1) := by decide +kernel
theorem dX7_make_35 : decode cX7_make 35 = .ok (.invokevirtual 76, 3) := by decide +kernel
theorem dX7_make_38 : decode cX7_make 38 = .ok (.ifCond .ne 25, 3) := by decide +kernel
theorem dX7_make_41 : decode cX7_make 41 = .ok (.aload_n 0, 1) := by decide +kernel
theorem dX7_make_42 : decode cX7_make 42 = .ok (.aload_n 0, 1) := by decide +kernel
theorem dX7_make_43 : decode cX7_make 43 = .ok (.getfield 80, 3) := by decide +kernel
theorem dX7_make_46 : decode cX7_make 46 = .ok (.bipush 6, 2) := by decide +kernel
theorem dX7_make_48 : decode cX7_make 48 = .ok (.if_icmp .ne 7, 3) := by decide +kernel
theorem dX7_make_51 : decode cX7_make 51 = .ok (.iconst 1, 1) := by decide +kernel
theorem dX7_make_52 : decode cX7_make 52 = .ok (.goto 4, 3) := by decide +kernel
theorem dX7_make_55 : decode cX7_make 55 = .ok (.iconst 0, 1) := by decide +kernel
theorem dX7_make_56 : decode cX7_make 56 = .ok (.iconst 2, 1) := by decide +kernel
theorem dX7_make_57 : decode cX7_make 57 = .ok (.invokevirtual 76, 3) := by decide +kernel
theorem dX7_make_60 : decode cX7_make 60 = .ok (.ifCond .eq 5, 3) := by decide +kernel
theorem dX7_make_63 : decode cX7_make 63 = .ok (.iconst 0, 1) := by decide +kernel
theorem dX7_make_64 : decode cX7_make 64 = .ok (.ireturn, 1) := by decide +kernel
theorem dX7_make_65 : decode cX7_make 65 = .ok (.aload_n 0, 1) := by decide +kernel
theorem dX7_make_66 : decode cX7_make 66 = .ok (.getfield 7, 3) := by decide +kernel
theorem dX7_make_69 : decode cX7_make 69 = .ok (.aload_n 0, 1) := by decide +kernel
theorem dX7_make_70 : decode cX7_make 70 = .ok (.getfield 80, 3) := by decide +kernel
theorem dX7_make_73 : decode cX7_make 73 = .ok (.iload_n 1, 1) := by decide +kernel
theorem dX7_make_74 : decode cX7_make 74 = .ok (.iastore, 1) := by decide +kernel
theorem dX7_make_75 : decode cX7_make 75 = .ok (.aload_n 0, 1) := by decide +kernel
theorem dX7_make_76 : decode cX7_make 76 = .ok (.getfield 13, 3) := by decide +kernel
theorem dX7_make_79 : decode cX7_make 79 = .ok (.aload_n 0, 1) := by decide +kernel
theorem dX7_make_80 : decode cX7_make 80 = .ok (.getfield 80, 3) := by decide +kernel
theorem dX7_make_83 : decode cX7_make 83 = .ok (.iload_n 2, 1) := by decide +kernel
theorem dX7_make_84 : decode cX7_make 84 = .ok (.iastore, 1) := by decide +kernel
theorem dX7_make_85 : decode cX7_make 85 = .ok (.aload_n 0, 1) := by decide +kernel
theorem dX7_make_86 : decode cX7_make 86 = .ok (.getfield 16, 3) := by decide +kernel
theorem dX7_make_89 : decode cX7_make 89 = .ok (.aload_n 0, 1) := by decide +kernel
theorem dX7_make_90 : decode cX7_make 90 = .ok (.getfield 80, 3) := by decide +kernel
theorem dX7_make_93 : decode cX7_make 93 = .ok (.iload_n 3, 1) := by decide +kernel
theorem dX7_make_94 : decode cX7_make 94 = .ok (.iastore, 1) := by decide +kernel
theorem dX7_make_95 : decode cX7_make 95 = .ok (.aload_n 0, 1) := by decide +kernel
theorem dX7_make_96 : decode cX7_make 96 = .ok (.dup, 1) := by decide +kernel
theorem dX7_make_97 : decode cX7_make 97 = .ok (.getfield 80, 3) := by decide +kernel
theorem dX7_make_100 : decode cX7_make 100 = .ok (.iconst 1, 1) := by decide +kernel
theorem dX7_make_101 : decode cX7_make 101 = .ok (.iadd, 1) := by decide +kernel
theorem dX7_make_102 : decode cX7_make 102 = .ok (.putfield 80, 3) := by decide +kernel
theorem dX7_make_105 : decode cX7_make 105 = .ok (.aload_n 0, 1) := by decide +kernel
theorem dX7_make_106 : decode cX7_make 106 = .ok (.getfield 80, 3) := by decide +kernel
theorem dX7_make_109 : decode cX7_make 109 = .ok (.iconst 1, 1) := by decide +kernel
theorem dX7_make_110 : decode cX7_make 110 = .ok (.isub, 1) := by decide +kernel
theorem dX7_make_111 : decode cX7_make 111 = .ok (.ireturn, 1) := by decide +kernel
theorem dX7_isMake_0 : decode cX7_isMake 0 = .ok (.aload_n 0, 1) := by decide +kernel
theorem dX7_isMake_1 : decode cX7_isMake 1 = .ok (.iload_n 1, 1) := by decide +kernel
theorem dX7_isMake_2 : decode cX7_isMake 2 = .ok (.ifCond .lt 11, 3) := by decide +kernel
theorem dX7_isMake_5 : decode cX7_isMake 5 = .ok (.iload_n 1, 1) := by decide +kernel
theorem dX7_isMake_6 : decode cX7_isMake 6 = .ok (.aload_n 0, 1) := by decide +kernel
theorem dX7_isMake_7 : decode cX7_isMake 7 = .ok (.getfield 80, 3) := by decide +kernel
theorem dX7_isMake_10 : decode cX7_isMake 10 = .ok (.if_icmp .lt 7, 3) := by decide +kernel
theorem dX7_isMake_13 : decode cX7_isMake 13 = .ok (.iconst 1, 1) := by decide +kernel
theorem dX7_isMake_14 : decode cX7_isMake 14 = .ok (.goto 4, 3) := by decide +kernel
theorem dX7_isMake_17 : decode cX7_isMake 17 = .ok (.iconst 0, 1) := by decide +kernel
theorem dX7_isMake_18 : decode cX7_isMake 18 = .ok (.putfield 69, 3) := by decide +kernel
theorem dX7_isMake_21 : decode cX7_isMake 21 = .ok (.aload_n 0, 1) := by decide +kernel
theorem dX7_isMake_22 : decode cX7_isMake 22 = .ok (.getfield 69, 3) := by decide +kernel
theorem dX7_isMake_25 : decode cX7_isMake 25 = .ok (.ifCond .ne 7, 3) := by decide +kernel
theorem dX7_isMake_28 : decode cX7_isMake 28 = .ok (.iconst 1, 1) := by decide +kernel
theorem dX7_isMake_29 : decode cX7_isMake 29 = .ok (.goto 4, 3) := by decide +kernel
theorem dX7_isMake_32 : decode cX7_isMake 32 = .ok (.iconst 0, 1) := by decide +kernel
theorem dX7_isMake_33 : decode cX7_isMake 33 = .ok (.ireturn, 1) := by decide +kernel
theorem dX7_edge_0 : decode cX7_edge 0 = .ok (.aload_n 0, 1) := by decide +kernel
theorem dX7_edge_1 : decode cX7_edge 1 = .ok (.iload_n 1, 1) := by decide +kernel
theorem dX7_edge_2 : decode cX7_edge 2 = .ok (.invokevirtual 83, 3) := by decide +kernel
theorem dX7_edge_5 : decode cX7_edge 5 = .ok (.ifCond .eq 83, 3) := by decide +kernel
theorem dX7_edge_8 : decode cX7_edge 8 = .ok (.aload_n 0, 1) := by decide +kernel
theorem dX7_edge_9 : decode cX7_edge 9 = .ok (.iload_n 2, 1) := by decide +kernel
theorem dX7_edge_10 : decode cX7_edge 10 = .ok (.ifCond .lt 42, 3) := by decide +kernel
theorem dX7_edge_13 : decode cX7_edge 13 = .ok (.iload_n 2, 1) := by decide +kernel
theorem dX7_edge_14 : decode cX7_edge 14 = .ok (.bipush 15, 2) := by decide +kernel
theorem dX7_edge_16 : decode cX7_edge 16 = .ok (.if_icmp .gt 36, 3) := by decide +kernel
theorem dX7_edge_19 : decode cX7_edge 19 = .ok (.iload 5, 2) := by decide +kernel
theorem dX7_edge_21 : decode cX7_edge 21 = .ok (.ifCond .lt 31, 3) := by decide +kernel
theorem dX7_edge_24 : decode cX7_edge 24 = .ok (.iload 5, 2) := by decide +kernel
theorem dX7_edge_26 : decode cX7_edge 26 = .ok (.bipush 15, 2) := by decide +kernel
theorem dX7_edge_28 : decode cX7_edge 28 = .ok (.if_icmp .gt 24, 3) := by decide +kernel
theorem dX7_edge_31 : decode cX7_edge 31 = .ok (.iload_n 3, 1) := by decide +kernel
theorem dX7_edge_32 : decode cX7_edge 32 = .ok (.invokestatic 72, 3) := by decide +kernel
theorem dX7_edge_35 : decode cX7_edge 35 = .ok (.ifCond .eq 17, 3) := by decide +kernel
theorem dX7_edge_38 : decode cX7_edge 38 = .ok (.iload 4, 2) := by decide +kernel
theorem dX7_edge_40 : decode cX7_edge 40 = .ok (.invokestatic 72, 3) := by decide +kernel
theorem dX7_edge_43 : decode cX7_edge 43 = .ok (.ifCond .eq 9, 3) := by decide +kernel
theorem dX7_edge_46 : decode cX7_edge 46 = .ok (.iload_n 3, 1) := by decide +kernel
theorem dX7_edge_47 : decode cX7_edge 47 = .ok (.iload 4, 2) := by decide +kernel
theorem dX7_edge_49 : decode cX7_edge 49 = .ok (.if_icmp .le 7, 3) := by decide +kernel
theorem dX7_edge_52 : decode cX7_edge 52 = .ok (.iconst 1, 1) := by decide +kernel
theorem dX7_edge_53 : decode cX7_edge 53 = .ok (.goto 4, 3) := by decide +kernel
theorem dX7_edge_56 : decode cX7_edge 56 = .ok (.iconst 0, 1) := by decide +kernel
theorem dX7_edge_57 : decode cX7_edge 57 = .ok (.iconst 2, 1) := by decide +kernel
theorem dX7_edge_58 : decode cX7_edge 58 = .ok (.invokevirtual 76, 3) := by decide +kernel
theorem dX7_edge_61 : decode cX7_edge 61 = .ok (.ifCond .ne 27, 3) := by decide +kernel
theorem dX7_edge_64 : decode cX7_edge 64 = .ok (.aload_n 0, 1) := by decide +kernel
theorem dX7_edge_65 : decode cX7_edge 65 = .ok (.aload_n 0, 1) := by decide +kernel
theorem dX7_edge_66 : decode cX7_edge 66 = .ok (.getfield 22, 3) := by decide +kernel
theorem dX7_edge_69 : decode cX7_edge 69 = .ok (.iload_n 1, 1) := by decide +kernel
theorem dX7_edge_70 : decode cX7_edge 70 = .ok (.iaload, 1) := by decide +kernel
theorem dX7_edge_71 : decode cX7_edge 71 = .ok (.bipush 40, 2) := by decide +kernel
theorem dX7_edge_73 : decode cX7_edge 73 = .ok (.if_icmp .ne 7, 3) := by decide +kernel
theorem dX7_edge_76 : decode cX7_edge 76 = .ok (.iconst 1, 1) := by decide +kernel
theorem dX7_edge_77 : decode cX7_edge 77 = .ok (.goto 4, 3) := by decide +kernel
theorem dX7_edge_80 : decode cX7_edge 80 = .ok (.iconst 0, 1) := by decide +kernel
theorem dX7_edge_81 : decode cX7_edge 81 = .ok (.iconst 3, 1) := by decide +kernel
theorem dX7_edge_82 : decode cX7_edge 82 = .ok (.invokevirtual 76, 3) := by decide +kernel
theorem dX7_edge_85 : decode cX7_edge 85 = .ok (.ifCond .eq 5, 3) := by decide +kernel
theorem dX7_edge_88 : decode cX7_edge 88 = .ok (.iconst 0, 1) := by decide +kernel
theorem dX7_edge_89 : decode cX7_edge 89 = .ok (.ireturn, 1) := by decide +kernel
theorem dX7_edge_90 : decode cX7_edge 90 = .ok (.iload_n 3, 1) := by decide +kernel
theorem dX7_edge_91 : decode cX7_edge 91 = .ok (.istore 6, 2) := by decide +kernel
theorem dX7_edge_93 : decode cX7_edge 93 = .ok (.iload 6, 2) := by decide +kernel
theorem dX7_edge_95 : decode cX7_edge 95 = .ok (.iload 4, 2) := by decide +kernel
theorem dX7_edge_97 : decode cX7_edge 97 = .ok (.if_icmp .gt 34, 3) := by decide +kernel
theorem dX7_edge_100 : decode cX7_edge 100 = .ok (.aload_n 0, 1) := by decide +kernel
theorem dX7_edge_101 : decode cX7_edge 101 = .ok (.getfield 25, 3) := by decide +kernel
theorem dX7_edge_104 : decode cX7_edge 104 = .ok (.bipush 16, 2) := by decide +kernel
theorem dX7_edge_106 : decode cX7_edge 106 = .ok (.iload_n 1, 1) := by decide +kernel
theorem dX7_edge_107 : decode cX7_edge 107 = .ok (.imul, 1) := by decide +kernel
theorem dX7_edge_108 : decode cX7_edge 108 = .ok (.iload_n 2, 1) := by decide +kernel
theorem dX7_edge_109 : decode cX7_edge 109 = .ok (.iadd, 1) := by decide +kernel
theorem dX7_edge_110 : decode cX7_edge 110 = .ok (.sipush 256, 3) := by decide +kernel
theorem dX7_edge_113 : decode cX7_edge 113 = .ok (.imul, 1) := by decide +kernel
theorem dX7_edge_114 : decode cX7_edge 114 = .ok (.iload 6, 2) := by decide +kernel
theorem dX7_edge_116 : decode cX7_edge 116 = .ok (.iadd, 1) := by decide +kernel
theorem dX7_edge_117 : decode cX7_edge 117 = .ok (.dup2, 1) := by decide +kernel
theorem dX7_edge_118 : decode cX7_edge 118 = .ok (.iaload, 1) := by decide +kernel
theorem dX7_edge_119 : decode cX7_edge 119 = .ok (.iconst 1, 1) := by decide +kernel
theorem dX7_edge_120 : decode cX7_edge 120 = .ok (.iload 5, 2) := by decide +kernel
theorem dX7_edge_122 : decode cX7_edge 122 = .ok (.ishl, 1) := by decide +kernel
theorem dX7_edge_123 : decode cX7_edge 123 = .ok (.ior, 1) := by decide +kernel
theorem dX7_edge_124 : decode cX7_edge 124 = .ok (.iastore, 1) := by decide +kernel
theorem dX7_edge_125 : decode cX7_edge 125 = .ok (.iinc 6 1, 3) := by decide +kernel
theorem dX7_edge_128 : decode cX7_edge 128 = .ok (.goto (-35), 3) := by decide +kernel
theorem dX7_edge_131 : decode cX7_edge 131 = .ok (.aload_n 0, 1) := by decide +kernel
theorem dX7_edge_132 : decode cX7_edge 132 = .ok (.getfield 22, 3) := by decide +kernel
theorem dX7_edge_135 : decode cX7_edge 135 = .ok (.iload_n 1, 1) := by decide +kernel
theorem dX7_edge_136 : decode cX7_edge 136 = .ok (.dup2, 1) := by decide +kernel
theorem dX7_edge_137 : decode cX7_edge 137 = .ok (.iaload, 1) := by decide +kernel
theorem dX7_edge_138 : decode cX7_edge 138 = .ok (.iconst 1, 1) := by decide +kernel
theorem dX7_edge_139 : decode cX7_edge 139 = .ok (.iadd, 1) := by decide +kernel
theorem dX7_edge_140 : decode cX7_edge 140 = .ok (.iastore, 1) := by decide +kernel
theorem dX7_edge_141 : decode cX7_edge 141 = .ok (.aload_n 0, 1) := by decide +kernel
theorem dX7_edge_142 : decode cX7_edge 142 = .ok (.getfield 22, 3) := by decide +kernel
theorem dX7_edge_145 : decode cX7_edge 145 = .ok (.iload_n 1, 1) := by decide +kernel
theorem dX7_edge_146 : decode cX7_edge 146 = .ok (.iaload, 1) := by decide +kernel
theorem dX7_edge_147 : decode cX7_edge 147 = .ok (.ireturn, 1) := by decide +kernel
theorem dX7_goals_0 : decode cX7_goals 0 = .ok (.aload_n 0, 1) := by decide +kernel
theorem dX7_goals_1 : decode cX7_goals 1 = .ok (.iload_n 1, 1) := by decide +kernel
theorem dX7_goals_2 : decode cX7_goals 2 = .ok (.invokevirtual 83, 3) := by decide +kernel
theorem dX7_goals_5 : decode cX7_goals 5 = .ok (.ifCond .eq 26, 3) := by decide +kernel
theorem dX7_goals_8 : decode cX7_goals 8 = .ok (.aload_n 0, 1) := by decide +kernel
theorem dX7_goals_9 : decode cX7_goals 9 = .ok (.iload_n 2, 1) := by decide +kernel
theorem dX7_goals_10 : decode cX7_goals 10 = .ok (.ifCond .lt 9, 3) := by decide +kernel
theorem dX7_goals_13 : decode cX7_goals 13 = .ok (.iload_n 2, 1) := by decide +kernel
theorem dX7_goals_14 : decode cX7_goals 14 = .ok (.ldc 86, 2) := by decide +kernel
theorem dX7_goals_16 : decode cX7_goals 16 = .ok (.if_icmp .le 7, 3) := by decide +kernel
theorem dX7_goals_19 : decode cX7_goals 19 = .ok (.iconst 1, 1) := by decide +kernel
theorem dX7_goals_20 : decode cX7_goals 20 = .ok (.goto 4, 3) := by decide +kernel
theorem dX7_goals_23 : decode cX7_goals 23 = .ok (.iconst 0, 1) := by decide +kernel
theorem dX7_goals_24 : decode cX7_goals 24 = .ok (.iconst 2, 1) := by decide +kernel
theorem dX7_goals_25 : decode cX7_goals 25 = .ok (.invokevirtual 76, 3) := by decide +kernel
theorem dX7_goals_28 : decode cX7_goals 28 = .ok (.ifCond .eq 5, 3) := by decide +kernel
theorem dX7_goals_31 : decode cX7_goals 31 = .ok (.iconst 0, 1) := by decide +kernel
theorem dX7_goals_32 : decode cX7_goals 32 = .ok (.ireturn, 1) := by decide +kernel
theorem dX7_goals_33 : decode cX7_goals 33 = .ok (.aload_n 0, 1) := by decide +kernel
theorem dX7_goals_34 : decode cX7_goals 34 = .ok (.getfield 19, 3) := by decide +kernel
theorem dX7_goals_37 : decode cX7_goals 37 = .ok (.iload_n 1, 1) := by decide +kernel
theorem dX7_goals_38 : decode cX7_goals 38 = .ok (.iaload, 1) := by decide +kernel
theorem dX7_goals_39 : decode cX7_goals 39 = .ok (.istore_n 3, 1) := by decide +kernel
theorem dX7_goals_40 : decode cX7_goals 40 = .ok (.aload_n 0, 1) := by decide +kernel
theorem dX7_goals_41 : decode cX7_goals 41 = .ok (.getfield 19, 3) := by decide +kernel
theorem dX7_goals_44 : decode cX7_goals 44 = .ok (.iload_n 1, 1) := by decide +kernel
theorem dX7_goals_45 : decode cX7_goals 45 = .ok (.iload_n 2, 1) := by decide +kernel
theorem dX7_goals_46 : decode cX7_goals 46 = .ok (.iastore, 1) := by decide +kernel
theorem dX7_goals_47 : decode cX7_goals 47 = .ok (.iload_n 3, 1) := by decide +kernel
theorem dX7_goals_48 : decode cX7_goals 48 = .ok (.ireturn, 1) := by decide +kernel
theorem dX7_step_0 : decode cX7_step 0 = .ok (.iconst 0, 1) := by decide +kernel
theorem dX7_step_1 : decode cX7_step 1 = .ok (.istore 4, 2) := by decide +kernel
theorem dX7_step_3 : decode cX7_step 3 = .ok (.iconst 0, 1) := by decide +kernel
theorem dX7_step_4 : decode cX7_step 4 = .ok (.istore 5, 2) := by decide +kernel
theorem dX7_step_6 : decode cX7_step 6 = .ok (.iload 5, 2) := by decide +kernel
theorem dX7_step_8 : decode cX7_step 8 = .ok (.bipush 16, 2) := by decide +kernel
theorem dX7_step_10 : decode cX7_step 10 = .ok (.if_icmp .ge 42, 3) := by decide +kernel
theorem dX7_step_13 : decode cX7_step 13 = .ok (.iload_n 2, 1) := by decide +kernel
theorem dX7_step_14 : decode cX7_step 14 = .ok (.iload 5, 2) := by decide +kernel
theorem dX7_step_16 : decode cX7_step 16 = .ok (.ishr, 1) := by decide +kernel
theorem dX7_step_17 : decode cX7_step 17 = .ok (.iconst 1, 1) := by decide +kernel
theorem dX7_step_18 : decode cX7_step 18 = .ok (.iand, 1) := by decide +kernel
theorem dX7_step_19 : decode cX7_step 19 = .ok (.iconst 1, 1) := by decide +kernel
theorem dX7_step_20 : decode cX7_step 20 = .ok (.if_icmp .ne 26, 3) := by decide +kernel
theorem dX7_step_23 : decode cX7_step 23 = .ok (.iload 4, 2) := by decide +kernel
theorem dX7_step_25 : decode cX7_step 25 = .ok (.aload_n 0, 1) := by decide +kernel
theorem dX7_step_26 : decode cX7_step 26 = .ok (.getfield 25, 3) := by decide +kernel
theorem dX7_step_29 : decode cX7_step 29 = .ok (.bipush 16, 2) := by decide +kernel
theorem dX7_step_31 : decode cX7_step 31 = .ok (.iload_n 1, 1) := by decide +kernel
theorem dX7_step_32 : decode cX7_step 32 = .ok (.imul, 1) := by decide +kernel
theorem dX7_step_33 : decode cX7_step 33 = .ok (.iload 5, 2) := by decide +kernel
theorem dX7_step_35 : decode cX7_step 35 = .ok (.iadd, 1) := by decide +kernel
theorem dX7_step_36 : decode cX7_step 36 = .ok (.sipush 256, 3) := by decide +kernel
theorem dX7_step_39 : decode cX7_step 39 = .ok (.imul, 1) := by decide +kernel
theorem dX7_step_40 : decode cX7_step 40 = .ok (.iload_n 3, 1) := by decide +kernel
theorem dX7_step_41 : decode cX7_step 41 = .ok (.iadd, 1) := by decide +kernel
theorem dX7_step_42 : decode cX7_step 42 = .ok (.iaload, 1) := by decide +kernel
theorem dX7_step_43 : decode cX7_step 43 = .ok (.ior, 1) := by decide +kernel
theorem dX7_step_44 : decode cX7_step 44 = .ok (.istore 4, 2) := by decide +kernel
theorem dX7_step_46 : decode cX7_step 46 = .ok (.iinc 5 1, 3) := by decide +kernel
theorem dX7_step_49 : decode cX7_step 49 = .ok (.goto (-43), 3) := by decide +kernel
theorem dX7_step_52 : decode cX7_step 52 = .ok (.iload 4, 2) := by decide +kernel
theorem dX7_step_54 : decode cX7_step 54 = .ok (.ireturn, 1) := by decide +kernel
theorem dX7_block_0 : decode cX7_block 0 = .ok (.aload_n 0, 1) := by decide +kernel
theorem dX7_block_1 : decode cX7_block 1 = .ok (.iconst 0, 1) := by decide +kernel
theorem dX7_block_2 : decode cX7_block 2 = .ok (.putfield 69, 3) := by decide +kernel
theorem dX7_block_5 : decode cX7_block 5 = .ok (.aload_n 0, 1) := by decide +kernel
theorem dX7_block_6 : decode cX7_block 6 = .ok (.getfield 87, 3) := by decide +kernel
theorem dX7_block_9 : decode cX7_block 9 = .ok (.bipush 24, 2) := by decide +kernel
theorem dX7_block_11 : decode cX7_block 11 = .ok (.if_icmp .ne 5, 3) := by decide +kernel
theorem dX7_block_14 : decode cX7_block 14 = .ok (.iconst (-1), 1) := by decide +kernel
theorem dX7_block_15 : decode cX7_block 15 = .ok (.ireturn, 1) := by decide +kernel
theorem dX7_block_16 : decode cX7_block 16 = .ok (.aload_n 0, 1) := by decide +kernel
theorem dX7_block_17 : decode cX7_block 17 = .ok (.getfield 28, 3) := by decide +kernel
theorem dX7_block_20 : decode cX7_block 20 = .ok (.aload_n 0, 1) := by decide +kernel
theorem dX7_block_21 : decode cX7_block 21 = .ok (.getfield 87, 3) := by decide +kernel
theorem dX7_block_24 : decode cX7_block 24 = .ok (.lload_n 1, 1) := by decide +kernel
theorem dX7_block_25 : decode cX7_block 25 = .ok (.lastore, 1) := by decide +kernel
theorem dX7_block_26 : decode cX7_block 26 = .ok (.aload_n 0, 1) := by decide +kernel
theorem dX7_block_27 : decode cX7_block 27 = .ok (.dup, 1) := by decide +kernel
theorem dX7_block_28 : decode cX7_block 28 = .ok (.getfield 87, 3) := by decide +kernel
theorem dX7_block_31 : decode cX7_block 31 = .ok (.iconst 1, 1) := by decide +kernel
theorem dX7_block_32 : decode cX7_block 32 = .ok (.iadd, 1) := by decide +kernel
theorem dX7_block_33 : decode cX7_block 33 = .ok (.putfield 87, 3) := by decide +kernel
theorem dX7_block_36 : decode cX7_block 36 = .ok (.aload_n 0, 1) := by decide +kernel
theorem dX7_block_37 : decode cX7_block 37 = .ok (.getfield 87, 3) := by decide +kernel
theorem dX7_block_40 : decode cX7_block 40 = .ok (.iconst 1, 1) := by decide +kernel
theorem dX7_block_41 : decode cX7_block 41 = .ok (.isub, 1) := by decide +kernel
theorem dX7_block_42 : decode cX7_block 42 = .ok (.ireturn, 1) := by decide +kernel
theorem dX7_isBlock_0 : decode cX7_isBlock 0 = .ok (.aload_n 0, 1) := by decide +kernel
theorem dX7_isBlock_1 : decode cX7_isBlock 1 = .ok (.iload_n 1, 1) := by decide +kernel
theorem dX7_isBlock_2 : decode cX7_isBlock 2 = .ok (.ifCond .lt 11, 3) := by decide +kernel
theorem dX7_isBlock_5 : decode cX7_isBlock 5 = .ok (.iload_n 1, 1) := by decide +kernel
theorem dX7_isBlock_6 : decode cX7_isBlock 6 = .ok (.aload_n 0, 1) := by decide +kernel
theorem dX7_isBlock_7 : decode cX7_isBlock 7 = .ok (.getfield 87, 3) := by decide +kernel
theorem dX7_isBlock_10 : decode cX7_isBlock 10 = .ok (.if_icmp .lt 7, 3) := by decide +kernel
theorem dX7_isBlock_13 : decode cX7_isBlock 13 = .ok (.iconst 1, 1) := by decide +kernel
theorem dX7_isBlock_14 : decode cX7_isBlock 14 = .ok (.goto 4, 3) := by decide +kernel
theorem dX7_isBlock_17 : decode cX7_isBlock 17 = .ok (.iconst 0, 1) := by decide +kernel
theorem dX7_isBlock_18 : decode cX7_isBlock 18 = .ok (.putfield 69, 3) := by decide +kernel
theorem dX7_isBlock_21 : decode cX7_isBlock 21 = .ok (.aload_n 0, 1) := by decide +kernel
theorem dX7_isBlock_22 : decode cX7_isBlock 22 = .ok (.getfield 69, 3) := by decide +kernel
theorem dX7_isBlock_25 : decode cX7_isBlock 25 = .ok (.ifCond .ne 7, 3) := by decide +kernel
theorem dX7_isBlock_28 : decode cX7_isBlock 28 = .ok (.iconst 1, 1) := by decide +kernel
theorem dX7_isBlock_29 : decode cX7_isBlock 29 = .ok (.goto 4, 3) := by decide +kernel
theorem dX7_isBlock_32 : decode cX7_isBlock 32 = .ok (.iconst 0, 1) := by decide +kernel
theorem dX7_isBlock_33 : decode cX7_isBlock 33 = .ok (.ireturn, 1) := by decide +kernel
theorem dX7_change_0 : decode cX7_change 0 = .ok (.aload_n 0, 1) := by decide +kernel
theorem dX7_change_1 : decode cX7_change 1 = .ok (.iload_n 1, 1) := by decide +kernel
theorem dX7_change_2 : decode cX7_change 2 = .ok (.invokevirtual 90, 3) := by decide +kernel
theorem dX7_change_5 : decode cX7_change 5 = .ok (.ifCond .ne 5, 3) := by decide +kernel
theorem dX7_change_8 : decode cX7_change 8 = .ok (.lconst 0, 1) := by decide +kernel
theorem dX7_change_9 : decode cX7_change 9 = .ok (.lreturn, 1) := by decide +kernel
theorem dX7_change_10 : decode cX7_change 10 = .ok (.aload_n 0, 1) := by decide +kernel
theorem dX7_change_11 : decode cX7_change 11 = .ok (.getfield 28, 3) := by decide +kernel
theorem dX7_change_14 : decode cX7_change 14 = .ok (.iload_n 1, 1) := by decide +kernel
theorem dX7_change_15 : decode cX7_change 15 = .ok (.laload, 1) := by decide +kernel
theorem dX7_change_16 : decode cX7_change 16 = .ok (.lstore 4, 2) := by decide +kernel
theorem dX7_change_18 : decode cX7_change 18 = .ok (.aload_n 0, 1) := by decide +kernel
theorem dX7_change_19 : decode cX7_change 19 = .ok (.getfield 28, 3) := by decide +kernel
theorem dX7_change_22 : decode cX7_change 22 = .ok (.iload_n 1, 1) := by decide +kernel
theorem dX7_change_23 : decode cX7_change 23 = .ok (.lload_n 2, 1) := by decide +kernel
theorem dX7_change_24 : decode cX7_change 24 = .ok (.lastore, 1) := by decide +kernel
theorem dX7_change_25 : decode cX7_change 25 = .ok (.lload 4, 2) := by decide +kernel
theorem dX7_change_27 : decode cX7_change 27 = .ok (.lreturn, 1) := by decide +kernel
theorem dX7_bytes_0 : decode cX7_bytes 0 = .ok (.aload_n 0, 1) := by decide +kernel
theorem dX7_bytes_1 : decode cX7_bytes 1 = .ok (.iload_n 1, 1) := by decide +kernel
theorem dX7_bytes_2 : decode cX7_bytes 2 = .ok (.invokevirtual 90, 3) := by decide +kernel
theorem dX7_bytes_5 : decode cX7_bytes 5 = .ok (.ifCond .eq 12, 3) := by decide +kernel
theorem dX7_bytes_8 : decode cX7_bytes 8 = .ok (.aload_n 0, 1) := by decide +kernel
theorem dX7_bytes_9 : decode cX7_bytes 9 = .ok (.getfield 28, 3) := by decide +kernel
theorem dX7_bytes_12 : decode cX7_bytes 12 = .ok (.iload_n 1, 1) := by decide +kernel
theorem dX7_bytes_13 : decode cX7_bytes 13 = .ok (.laload, 1) := by decide +kernel
theorem dX7_bytes_14 : decode cX7_bytes 14 = .ok (.goto 4, 3) := by decide +kernel
theorem dX7_bytes_17 : decode cX7_bytes 17 = .ok (.lconst 0, 1) := by decide +kernel
theorem dX7_bytes_18 : decode cX7_bytes 18 = .ok (.lreturn, 1) := by decide +kernel
theorem dX7_reach_0 : decode cX7_reach 0 = .ok (.aload_n 0, 1) := by decide +kernel
theorem dX7_reach_1 : decode cX7_reach 1 = .ok (.iconst 0, 1) := by decide +kernel
theorem dX7_reach_2 : decode cX7_reach 2 = .ok (.putfield 69, 3) := by decide +kernel
theorem dX7_reach_5 : decode cX7_reach 5 = .ok (.aload_n 0, 1) := by decide +kernel
theorem dX7_reach_6 : decode cX7_reach 6 = .ok (.iload_n 1, 1) := by decide +kernel
theorem dX7_reach_7 : decode cX7_reach 7 = .ok (.iconst 1, 1) := by decide +kernel
theorem dX7_reach_8 : decode cX7_reach 8 = .ok (.if_icmp .lt 9, 3) := by decide +kernel
theorem dX7_reach_11 : decode cX7_reach 11 = .ok (.iload_n 1, 1) := by decide +kernel
theorem dX7_reach_12 : decode cX7_reach 12 = .ok (.bipush 23, 2) := by decide +kernel
theorem dX7_reach_14 : decode cX7_reach 14 = .ok (.if_icmp .le 7, 3) := by decide +kernel
theorem dX7_reach_17 : decode cX7_reach 17 = .ok (.iconst 1, 1) := by decide +kernel
theorem dX7_reach_18 : decode cX7_reach 18 = .ok (.goto 4, 3) := by decide +kernel
theorem dX7_reach_21 : decode cX7_reach 21 = .ok (.iconst 0, 1) := by decide +kernel
theorem dX7_reach_22 : decode cX7_reach 22 = .ok (.iconst 1, 1) := by decide +kernel
theorem dX7_reach_23 : decode cX7_reach 23 = .ok (.invokevirtual 76, 3) := by decide +kernel
theorem dX7_reach_26 : decode cX7_reach 26 = .ok (.ifCond .eq 5, 3) := by decide +kernel
theorem dX7_reach_29 : decode cX7_reach 29 = .ok (.iconst 0, 1) := by decide +kernel
theorem dX7_reach_30 : decode cX7_reach 30 = .ok (.ireturn, 1) := by decide +kernel
theorem dX7_reach_31 : decode cX7_reach 31 = .ok (.aload_n 0, 1) := by decide +kernel
theorem dX7_reach_32 : decode cX7_reach 32 = .ok (.getfield 35, 3) := by decide +kernel
theorem dX7_reach_35 : decode cX7_reach 35 = .ok (.istore_n 2, 1) := by decide +kernel
theorem dX7_reach_36 : decode cX7_reach 36 = .ok (.aload_n 0, 1) := by decide +kernel
theorem dX7_reach_37 : decode cX7_reach 37 = .ok (.iload_n 1, 1) := by decide +kernel
theorem dX7_reach_38 : decode cX7_reach 38 = .ok (.putfield 35, 3) := by decide +kernel
theorem dX7_reach_41 : decode cX7_reach 41 = .ok (.iload_n 2, 1) := by decide +kernel
theorem dX7_reach_42 : decode cX7_reach 42 = .ok (.ireturn, 1) := by decide +kernel
theorem dX7_push_0 : decode cX7_push 0 = .ok (.aload_n 0, 1) := by decide +kernel
theorem dX7_push_1 : decode cX7_push 1 = .ok (.iconst 0, 1) := by decide +kernel
theorem dX7_push_2 : decode cX7_push 2 = .ok (.putfield 69, 3) := by decide +kernel
theorem dX7_push_5 : decode cX7_push 5 = .ok (.aload_n 0, 1) := by decide +kernel
theorem dX7_push_6 : decode cX7_push 6 = .ok (.iload_n 1, 1) := by decide +kernel
theorem dX7_push_7 : decode cX7_push 7 = .ok (.invokestatic 72, 3) := by decide +kernel
theorem dX7_push_10 : decode cX7_push 10 = .ok (.ifCond .ne 7, 3) := by decide +kernel
theorem dX7_push_13 : decode cX7_push 13 = .ok (.iconst 1, 1) := by decide +kernel
theorem dX7_push_14 : decode cX7_push 14 = .ok (.goto 4, 3) := by decide +kernel
theorem dX7_push_17 : decode cX7_push 17 = .ok (.iconst 0, 1) := by decide +kernel
theorem dX7_push_18 : decode cX7_push 18 = .ok (.iconst 1, 1) := by decide +kernel
theorem dX7_push_19 : decode cX7_push 19 = .ok (.invokevirtual 76, 3) := by decide +kernel
theorem dX7_push_22 : decode cX7_push 22 = .ok (.ifCond .eq 5, 3) := by decide +kernel
theorem dX7_push_25 : decode cX7_push 25 = .ok (.iconst 0, 1) := by decide +kernel
theorem dX7_push_26 : decode cX7_push 26 = .ok (.ireturn, 1) := by decide +kernel
theorem dX7_push_27 : decode cX7_push 27 = .ok (.aload_n 0, 1) := by decide +kernel
theorem dX7_push_28 : decode cX7_push 28 = .ok (.getfield 93, 3) := by decide +kernel
theorem dX7_push_31 : decode cX7_push 31 = .ok (.bipush 36, 2) := by decide +kernel
theorem dX7_push_33 : decode cX7_push 33 = .ok (.if_icmp .ne 5, 3) := by decide +kernel
theorem dX7_push_36 : decode cX7_push 36 = .ok (.iconst (-1), 1) := by decide +kernel
theorem dX7_push_37 : decode cX7_push 37 = .ok (.ireturn, 1) := by decide +kernel
theorem dX7_push_38 : decode cX7_push 38 = .ok (.aload_n 0, 1) := by decide +kernel
theorem dX7_push_39 : decode cX7_push 39 = .ok (.getfield 32, 3) := by decide +kernel
theorem dX7_push_42 : decode cX7_push 42 = .ok (.aload_n 0, 1) := by decide +kernel
theorem dX7_push_43 : decode cX7_push 43 = .ok (.getfield 93, 3) := by decide +kernel
theorem dX7_push_46 : decode cX7_push 46 = .ok (.iload_n 1, 1) := by decide +kernel
theorem dX7_push_47 : decode cX7_push 47 = .ok (.iastore, 1) := by decide +kernel
theorem dX7_push_48 : decode cX7_push 48 = .ok (.aload_n 0, 1) := by decide +kernel
theorem dX7_push_49 : decode cX7_push 49 = .ok (.dup, 1) := by decide +kernel
theorem dX7_push_50 : decode cX7_push 50 = .ok (.getfield 93, 3) := by decide +kernel
theorem dX7_push_53 : decode cX7_push 53 = .ok (.iconst 1, 1) := by decide +kernel
theorem dX7_push_54 : decode cX7_push 54 = .ok (.iadd, 1) := by decide +kernel
theorem dX7_push_55 : decode cX7_push 55 = .ok (.putfield 93, 3) := by decide +kernel
theorem dX7_push_58 : decode cX7_push 58 = .ok (.aload_n 0, 1) := by decide +kernel
theorem dX7_push_59 : decode cX7_push 59 = .ok (.getfield 93, 3) := by decide +kernel
theorem dX7_push_62 : decode cX7_push 62 = .ok (.ireturn, 1) := by decide +kernel
theorem dX7_checkOf_0 : decode cX7_checkOf 0 = .ok (.iconst 0, 1) := by decide +kernel
theorem dX7_checkOf_1 : decode cX7_checkOf 1 = .ok (.istore_n 3, 1) := by decide +kernel
theorem dX7_checkOf_2 : decode cX7_checkOf 2 = .ok (.iconst 0, 1) := by decide +kernel
theorem dX7_checkOf_3 : decode cX7_checkOf 3 = .ok (.istore 4, 2) := by decide +kernel
theorem dX7_checkOf_5 : decode cX7_checkOf 5 = .ok (.iload 4, 2) := by decide +kernel
theorem dX7_checkOf_7 : decode cX7_checkOf 7 = .ok (.iload_n 2, 1) := by decide +kernel
theorem dX7_checkOf_8 : decode cX7_checkOf 8 = .ok (.if_icmp .ge 93, 3) := by decide +kernel
theorem dX7_checkOf_11 : decode cX7_checkOf 11 = .ok (.aload_n 0, 1) := by decide +kernel
theorem dX7_checkOf_12 : decode cX7_checkOf 12 = .ok (.getfield 16, 3) := by decide +kernel
theorem dX7_checkOf_15 : decode cX7_checkOf 15 = .ok (.iload_n 1, 1) := by decide +kernel
theorem dX7_checkOf_16 : decode cX7_checkOf 16 = .ok (.iaload, 1) := by decide +kernel
theorem dX7_checkOf_17 : decode cX7_checkOf 17 = .ok (.ifCond .ne 20, 3) := by decide +kernel
theorem dX7_checkOf_20 : decode cX7_checkOf 20 = .ok (.iload_n 3, 1) := by decide +kernel
theorem dX7_checkOf_21 : decode cX7_checkOf 21 = .ok (.aload_n 0, 1) := by decide +kernel
theorem dX7_checkOf_22 : decode cX7_checkOf 22 = .ok (.getfield 39, 3) := by decide +kernel
theorem dX7_checkOf_25 : decode cX7_checkOf 25 = .ok (.iload 4, 2) := by decide +kernel
theorem dX7_checkOf_27 : decode cX7_checkOf 27 = .ok (.iaload, 1) := by decide +kernel
theorem dX7_checkOf_28 : decode cX7_checkOf 28 = .ok (.iadd, 1) := by decide +kernel
theorem dX7_checkOf_29 : decode cX7_checkOf 29 = .ok (.sipush 255, 3) := by decide +kernel
theorem dX7_checkOf_32 : decode cX7_checkOf 32 = .ok (.iand, 1) := by decide +kernel
theorem dX7_checkOf_33 : decode cX7_checkOf 33 = .ok (.istore_n 3, 1) := by decide +kernel
theorem dX7_checkOf_34 : decode cX7_checkOf 34 = .ok (.goto 61, 3) := by decide +kernel
theorem dX7_checkOf_37 : decode cX7_checkOf 37 = .ok (.iload_n 3, 1) := by decide +kernel
theorem dX7_checkOf_38 : decode cX7_checkOf 38 = .ok (.aload_n 0, 1) := by decide +kernel
theorem dX7_checkOf_39 : decode cX7_checkOf 39 = .ok (.getfield 39, 3) := by decide +kernel
theorem dX7_checkOf_42 : decode cX7_checkOf 42 = .ok (.iload 4, 2) := by decide +kernel
theorem dX7_checkOf_44 : decode cX7_checkOf 44 = .ok (.iaload, 1) := by decide +kernel
theorem dX7_checkOf_45 : decode cX7_checkOf 45 = .ok (.ixor, 1) := by decide +kernel
theorem dX7_checkOf_46 : decode cX7_checkOf 46 = .ok (.istore_n 3, 1) := by decide +kernel
theorem dX7_checkOf_47 : decode cX7_checkOf 47 = .ok (.iconst 0, 1) := by decide +kernel
theorem dX7_checkOf_48 : decode cX7_checkOf 48 = .ok (.istore 5, 2) := by decide +kernel
theorem dX7_checkOf_50 : decode cX7_checkOf 50 = .ok (.iload 5, 2) := by decide +kernel
theorem dX7_checkOf_52 : decode cX7_checkOf 52 = .ok (.bipush 8, 2) := by decide +kernel
theorem dX7_checkOf_54 : decode cX7_checkOf 54 = .ok (.if_icmp .ge 41, 3) := by decide +kernel
theorem dX7_checkOf_57 : decode cX7_checkOf 57 = .ok (.aload_n 0, 1) := by decide +kernel
theorem dX7_checkOf_58 : decode cX7_checkOf 58 = .ok (.getfield 16, 3) := by decide +kernel
theorem dX7_checkOf_61 : decode cX7_checkOf 61 = .ok (.iload_n 1, 1) := by decide +kernel
theorem dX7_checkOf_62 : decode cX7_checkOf 62 = .ok (.iaload, 1) := by decide +kernel
theorem dX7_checkOf_63 : decode cX7_checkOf 63 = .ok (.iconst 2, 1) := by decide +kernel
theorem dX7_checkOf_64 : decode cX7_checkOf 64 = .ok (.if_icmp .ne 31, 3) := by decide +kernel
theorem dX7_checkOf_67 : decode cX7_checkOf 67 = .ok (.iload_n 3, 1) := by decide +kernel
theorem dX7_checkOf_68 : decode cX7_checkOf 68 = .ok (.iconst 1, 1) := by decide +kernel
theorem dX7_checkOf_69 : decode cX7_checkOf 69 = .ok (.ishl, 1) := by decide +kernel
theorem dX7_checkOf_70 : decode cX7_checkOf 70 = .ok (.sipush 255, 3) := by decide +kernel
theorem dX7_checkOf_73 : decode cX7_checkOf 73 = .ok (.iand, 1) := by decide +kernel
theorem dX7_checkOf_74 : decode cX7_checkOf 74 = .ok (.iload_n 3, 1) := by decide +kernel
theorem dX7_checkOf_75 : decode cX7_checkOf 75 = .ok (.sipush 128, 3) := by decide +kernel
theorem dX7_checkOf_78 : decode cX7_checkOf 78 = .ok (.if_icmp .lt 8, 3) := by decide +kernel
theorem dX7_checkOf_81 : decode cX7_checkOf 81 = .ok (.bipush 7, 2) := by decide +kernel
theorem dX7_checkOf_83 : decode cX7_checkOf 83 = .ok (.goto 4, 3) := by decide +kernel
theorem dX7_checkOf_86 : decode cX7_checkOf 86 = .ok (.iconst 0, 1) := by decide +kernel
theorem dX7_checkOf_87 : decode cX7_checkOf 87 = .ok (.ixor, 1) := by decide +kernel
theorem dX7_checkOf_88 : decode cX7_checkOf 88 = .ok (.istore_n 3, 1) := by decide +kernel
theorem dX7_checkOf_89 : decode cX7_checkOf 89 = .ok (.iinc 5 1, 3) := by decide +kernel
theorem dX7_checkOf_92 : decode cX7_checkOf 92 = .ok (.goto (-42), 3) := by decide +kernel
theorem dX7_checkOf_95 : decode cX7_checkOf 95 = .ok (.iinc 4 1, 3) := by decide +kernel
theorem dX7_checkOf_98 : decode cX7_checkOf 98 = .ok (.goto (-93), 3) := by decide +kernel
theorem dX7_checkOf_101 : decode cX7_checkOf 101 = .ok (.iload_n 3, 1) := by decide +kernel
theorem dX7_checkOf_102 : decode cX7_checkOf 102 = .ok (.ireturn, 1) := by decide +kernel
theorem dX7_asFile_0 : decode cX7_asFile 0 = .ok (.aload_n 0, 1) := by decide +kernel
theorem dX7_asFile_1 : decode cX7_asFile 1 = .ok (.getfield 39, 3) := by decide +kernel
theorem dX7_asFile_4 : decode cX7_asFile 4 = .ok (.iconst 0, 1) := by decide +kernel
theorem dX7_asFile_5 : decode cX7_asFile 5 = .ok (.aload_n 0, 1) := by decide +kernel
theorem dX7_asFile_6 : decode cX7_asFile 6 = .ok (.getfield 7, 3) := by decide +kernel
theorem dX7_asFile_9 : decode cX7_asFile 9 = .ok (.iload_n 1, 1) := by decide +kernel
theorem dX7_asFile_10 : decode cX7_asFile 10 = .ok (.iaload, 1) := by decide +kernel
theorem dX7_asFile_11 : decode cX7_asFile 11 = .ok (.iastore, 1) := by decide +kernel
theorem dX7_asFile_12 : decode cX7_asFile 12 = .ok (.aload_n 0, 1) := by decide +kernel
theorem dX7_asFile_13 : decode cX7_asFile 13 = .ok (.getfield 39, 3) := by decide +kernel
theorem dX7_asFile_16 : decode cX7_asFile 16 = .ok (.iconst 1, 1) := by decide +kernel
theorem dX7_asFile_17 : decode cX7_asFile 17 = .ok (.aload_n 0, 1) := by decide +kernel
theorem dX7_asFile_18 : decode cX7_asFile 18 = .ok (.getfield 13, 3) := by decide +kernel
theorem dX7_asFile_21 : decode cX7_asFile 21 = .ok (.iload_n 1, 1) := by decide +kernel
theorem dX7_asFile_22 : decode cX7_asFile 22 = .ok (.iaload, 1) := by decide +kernel
theorem dX7_asFile_23 : decode cX7_asFile 23 = .ok (.iastore, 1) := by decide +kernel
theorem dX7_asFile_24 : decode cX7_asFile 24 = .ok (.aload_n 0, 1) := by decide +kernel
theorem dX7_asFile_25 : decode cX7_asFile 25 = .ok (.getfield 39, 3) := by decide +kernel
theorem dX7_asFile_28 : decode cX7_asFile 28 = .ok (.iconst 2, 1) := by decide +kernel
theorem dX7_asFile_29 : decode cX7_asFile 29 = .ok (.aload_n 0, 1) := by decide +kernel
theorem dX7_asFile_30 : decode cX7_asFile 30 = .ok (.getfield 93, 3) := by decide +kernel
theorem dX7_asFile_33 : decode cX7_asFile 33 = .ok (.iastore, 1) := by decide +kernel
theorem dX7_asFile_34 : decode cX7_asFile 34 = .ok (.iconst 0, 1) := by decide +kernel
theorem dX7_asFile_35 : decode cX7_asFile 35 = .ok (.istore_n 2, 1) := by decide +kernel
theorem dX7_asFile_36 : decode cX7_asFile 36 = .ok (.iload_n 2, 1) := by decide +kernel
theorem dX7_asFile_37 : decode cX7_asFile 37 = .ok (.aload_n 0, 1) := by decide +kernel
theorem dX7_asFile_38 : decode cX7_asFile 38 = .ok (.getfield 93, 3) := by decide +kernel
theorem dX7_asFile_41 : decode cX7_asFile 41 = .ok (.if_icmp .ge 23, 3) := by decide +kernel
theorem dX7_asFile_44 : decode cX7_asFile 44 = .ok (.aload_n 0, 1) := by decide +kernel
theorem dX7_asFile_45 : decode cX7_asFile 45 = .ok (.getfield 39, 3) := by decide +kernel
theorem dX7_asFile_48 : decode cX7_asFile 48 = .ok (.iconst 3, 1) := by decide +kernel
theorem dX7_asFile_49 : decode cX7_asFile 49 = .ok (.iload_n 2, 1) := by decide +kernel
theorem dX7_asFile_50 : decode cX7_asFile 50 = .ok (.iadd, 1) := by decide +kernel
theorem dX7_asFile_51 : decode cX7_asFile 51 = .ok (.aload_n 0, 1) := by decide +kernel
theorem dX7_asFile_52 : decode cX7_asFile 52 = .ok (.getfield 32, 3) := by decide +kernel
theorem dX7_asFile_55 : decode cX7_asFile 55 = .ok (.iload_n 2, 1) := by decide +kernel
theorem dX7_asFile_56 : decode cX7_asFile 56 = .ok (.iaload, 1) := by decide +kernel
theorem dX7_asFile_57 : decode cX7_asFile 57 = .ok (.iastore, 1) := by decide +kernel
theorem dX7_asFile_58 : decode cX7_asFile 58 = .ok (.iinc 2 1, 3) := by decide +kernel
theorem dX7_asFile_61 : decode cX7_asFile 61 = .ok (.goto (-25), 3) := by decide +kernel
theorem dX7_asFile_64 : decode cX7_asFile 64 = .ok (.iconst 3, 1) := by decide +kernel
theorem dX7_asFile_65 : decode cX7_asFile 65 = .ok (.aload_n 0, 1) := by decide +kernel
theorem dX7_asFile_66 : decode cX7_asFile 66 = .ok (.getfield 93, 3) := by decide +kernel
theorem dX7_asFile_69 : decode cX7_asFile 69 = .ok (.iadd, 1) := by decide +kernel
theorem dX7_asFile_70 : decode cX7_asFile 70 = .ok (.ireturn, 1) := by decide +kernel
theorem dX7_check_0 : decode cX7_check 0 = .ok (.aload_n 0, 1) := by decide +kernel
theorem dX7_check_1 : decode cX7_check 1 = .ok (.iload_n 1, 1) := by decide +kernel
theorem dX7_check_2 : decode cX7_check 2 = .ok (.invokevirtual 83, 3) := by decide +kernel
theorem dX7_check_5 : decode cX7_check 5 = .ok (.ifCond .ne 5, 3) := by decide +kernel
theorem dX7_check_8 : decode cX7_check 8 = .ok (.iconst 0, 1) := by decide +kernel
theorem dX7_check_9 : decode cX7_check 9 = .ok (.ireturn, 1) := by decide +kernel
theorem dX7_check_10 : decode cX7_check 10 = .ok (.aload_n 0, 1) := by decide +kernel
theorem dX7_check_11 : decode cX7_check 11 = .ok (.iload_n 1, 1) := by decide +kernel
theorem dX7_check_12 : decode cX7_check 12 = .ok (.aload_n 0, 1) := by decide +kernel
theorem dX7_check_13 : decode cX7_check 13 = .ok (.iload_n 1, 1) := by decide +kernel
theorem dX7_check_14 : decode cX7_check 14 = .ok (.invokevirtual 96, 3) := by decide +kernel
theorem dX7_check_17 : decode cX7_check 17 = .ok (.invokevirtual 100, 3) := by decide +kernel
theorem dX7_check_20 : decode cX7_check 20 = .ok (.ireturn, 1) := by decide +kernel
theorem dX7_write_0 : decode cX7_write 0 = .ok (.aload_n 0, 1) := by decide +kernel
theorem dX7_write_1 : decode cX7_write 1 = .ok (.iload_n 1, 1) := by decide +kernel
theorem dX7_write_2 : decode cX7_write 2 = .ok (.invokevirtual 83, 3) := by decide +kernel
theorem dX7_write_5 : decode cX7_write 5 = .ok (.ifCond .ne 5, 3) := by decide +kernel
theorem dX7_write_8 : decode cX7_write 8 = .ok (.iconst 0, 1) := by decide +kernel
theorem dX7_write_9 : decode cX7_write 9 = .ok (.ireturn, 1) := by decide +kernel
theorem dX7_write_10 : decode cX7_write 10 = .ok (.iconst 1, 1) := by decide +kernel
theorem dX7_write_11 : decode cX7_write 11 = .ok (.istore_n 2, 1) := by decide +kernel
theorem dX7_write_12 : decode cX7_write 12 = .ok (.iconst 0, 1) := by decide +kernel
theorem dX7_write_13 : decode cX7_write 13 = .ok (.istore_n 3, 1) := by decide +kernel
theorem dX7_write_14 : decode cX7_write 14 = .ok (.iload_n 3, 1) := by decide +kernel
theorem dX7_write_15 : decode cX7_write 15 = .ok (.aload_n 0, 1) := by decide +kernel
theorem dX7_write_16 : decode cX7_write 16 = .ok (.getfield 93, 3) := by decide +kernel
theorem dX7_write_19 : decode cX7_write 19 = .ok (.if_icmp .ge 22, 3) := by decide +kernel
theorem dX7_write_22 : decode cX7_write 22 = .ok (.aload_n 0, 1) := by decide +kernel
theorem dX7_write_23 : decode cX7_write 23 = .ok (.iload_n 1, 1) := by decide +kernel
theorem dX7_write_24 : decode cX7_write 24 = .ok (.iload_n 2, 1) := by decide +kernel
theorem dX7_write_25 : decode cX7_write 25 = .ok (.aload_n 0, 1) := by decide +kernel
theorem dX7_write_26 : decode cX7_write 26 = .ok (.getfield 32, 3) := by decide +kernel
theorem dX7_write_29 : decode cX7_write 29 = .ok (.iload_n 3, 1) := by decide +kernel
theorem dX7_write_30 : decode cX7_write 30 = .ok (.iaload, 1) := by decide +kernel
theorem dX7_write_31 : decode cX7_write 31 = .ok (.invokevirtual 104, 3) := by decide +kernel
theorem dX7_write_34 : decode cX7_write 34 = .ok (.istore_n 2, 1) := by decide +kernel
theorem dX7_write_35 : decode cX7_write 35 = .ok (.iinc 3 1, 3) := by decide +kernel
theorem dX7_write_38 : decode cX7_write 38 = .ok (.goto (-24), 3) := by decide +kernel
theorem dX7_write_41 : decode cX7_write 41 = .ok (.iload_n 2, 1) := by decide +kernel
theorem dX7_write_42 : decode cX7_write 42 = .ok (.aload_n 0, 1) := by decide +kernel
theorem dX7_write_43 : decode cX7_write 43 = .ok (.getfield 19, 3) := by decide +kernel
theorem dX7_write_46 : decode cX7_write 46 = .ok (.iload_n 1, 1) := by decide +kernel
theorem dX7_write_47 : decode cX7_write 47 = .ok (.iaload, 1) := by decide +kernel
theorem dX7_write_48 : decode cX7_write 48 = .ok (.iand, 1) := by decide +kernel
theorem dX7_write_49 : decode cX7_write 49 = .ok (.ifCond .ne 5, 3) := by decide +kernel
theorem dX7_write_52 : decode cX7_write 52 = .ok (.iconst (-1), 1) := by decide +kernel
theorem dX7_write_53 : decode cX7_write 53 = .ok (.ireturn, 1) := by decide +kernel
theorem dX7_write_54 : decode cX7_write 54 = .ok (.aload_n 0, 1) := by decide +kernel
theorem dX7_write_55 : decode cX7_write 55 = .ok (.iload_n 1, 1) := by decide +kernel
theorem dX7_write_56 : decode cX7_write 56 = .ok (.invokevirtual 96, 3) := by decide +kernel
theorem dX7_write_59 : decode cX7_write 59 = .ok (.istore_n 3, 1) := by decide +kernel
theorem dX7_write_60 : decode cX7_write 60 = .ok (.iload_n 3, 1) := by decide +kernel
theorem dX7_write_61 : decode cX7_write 61 = .ok (.iconst 1, 1) := by decide +kernel
theorem dX7_write_62 : decode cX7_write 62 = .ok (.iadd, 1) := by decide +kernel
theorem dX7_write_63 : decode cX7_write 63 = .ok (.bipush 7, 2) := by decide +kernel
theorem dX7_write_65 : decode cX7_write 65 = .ok (.iadd, 1) := by decide +kernel
theorem dX7_write_66 : decode cX7_write 66 = .ok (.bipush 8, 2) := by decide +kernel
theorem dX7_write_68 : decode cX7_write 68 = .ok (.idiv, 1) := by decide +kernel
theorem dX7_write_69 : decode cX7_write 69 = .ok (.istore 4, 2) := by decide +kernel
theorem dX7_write_71 : decode cX7_write 71 = .ok (.aload_n 0, 1) := by decide +kernel
theorem dX7_write_72 : decode cX7_write 72 = .ok (.getfield 87, 3) := by decide +kernel
theorem dX7_write_75 : decode cX7_write 75 = .ok (.iload 4, 2) := by decide +kernel
theorem dX7_write_77 : decode cX7_write 77 = .ok (.iadd, 1) := by decide +kernel
theorem dX7_write_78 : decode cX7_write 78 = .ok (.bipush 24, 2) := by decide +kernel
theorem dX7_write_80 : decode cX7_write 80 = .ok (.if_icmp .le 6, 3) := by decide +kernel
theorem dX7_write_83 : decode cX7_write 83 = .ok (.bipush (-2), 2) := by decide +kernel
theorem dX7_write_85 : decode cX7_write 85 = .ok (.ireturn, 1) := by decide +kernel
theorem dX7_write_86 : decode cX7_write 86 = .ok (.aload_n 0, 1) := by decide +kernel
theorem dX7_write_87 : decode cX7_write 87 = .ok (.getfield 39, 3) := by decide +kernel
theorem dX7_write_90 : decode cX7_write 90 = .ok (.iload_n 3, 1) := by decide +kernel
theorem dX7_write_91 : decode cX7_write 91 = .ok (.aload_n 0, 1) := by decide +kernel
theorem dX7_write_92 : decode cX7_write 92 = .ok (.iload_n 1, 1) := by decide +kernel
theorem dX7_write_93 : decode cX7_write 93 = .ok (.iload_n 3, 1) := by decide +kernel
theorem dX7_write_94 : decode cX7_write 94 = .ok (.invokevirtual 100, 3) := by decide +kernel
theorem dX7_write_97 : decode cX7_write 97 = .ok (.iastore, 1) := by decide +kernel
theorem dX7_write_98 : decode cX7_write 98 = .ok (.aload_n 0, 1) := by decide +kernel
theorem dX7_write_99 : decode cX7_write 99 = .ok (.getfield 87, 3) := by decide +kernel
theorem dX7_write_102 : decode cX7_write 102 = .ok (.istore 5, 2) := by decide +kernel
theorem dX7_write_104 : decode cX7_write 104 = .ok (.iconst 0, 1) := by decide +kernel
theorem dX7_write_105 : decode cX7_write 105 = .ok (.istore 6, 2) := by decide +kernel
theorem dX7_write_107 : decode cX7_write 107 = .ok (.iload 6, 2) := by decide +kernel
theorem dX7_write_109 : decode cX7_write 109 = .ok (.iload 4, 2) := by decide +kernel
theorem dX7_write_111 : decode cX7_write 111 = .ok (.if_icmp .ge 85, 3) := by decide +kernel
theorem dX7_write_114 : decode cX7_write 114 = .ok (.lconst 0, 1) := by decide +kernel
theorem dX7_write_115 : decode cX7_write 115 = .ok (.lstore 7, 2) := by decide +kernel
theorem dX7_write_117 : decode cX7_write 117 = .ok (.bipush 8, 2) := by decide +kernel
theorem dX7_write_119 : decode cX7_write 119 = .ok (.iload 6, 2) := by decide +kernel
theorem dX7_write_121 : decode cX7_write 121 = .ok (.imul, 1) := by decide +kernel
theorem dX7_write_122 : decode cX7_write 122 = .ok (.istore 9, 2) := by decide +kernel
theorem dX7_write_124 : decode cX7_write 124 = .ok (.iload 9, 2) := by decide +kernel
theorem dX7_write_126 : decode cX7_write 126 = .ok (.bipush 8, 2) := by decide +kernel
theorem dX7_write_128 : decode cX7_write 128 = .ok (.iload 6, 2) := by decide +kernel
theorem dX7_write_130 : decode cX7_write 130 = .ok (.imul, 1) := by decide +kernel
theorem dX7_write_131 : decode cX7_write 131 = .ok (.bipush 8, 2) := by decide +kernel
theorem dX7_write_133 : decode cX7_write 133 = .ok (.iadd, 1) := by decide +kernel
theorem dX7_write_134 : decode cX7_write 134 = .ok (.if_icmp .ge 35, 3) := by decide +kernel
theorem dX7_write_137 : decode cX7_write 137 = .ok (.lload 7, 2) := by decide +kernel
theorem dX7_write_139 : decode cX7_write 139 = .ok (.bipush 8, 2) := by decide +kernel
theorem dX7_write_141 : decode cX7_write 141 = .ok (.lshl, 1) := by decide +kernel
theorem dX7_write_142 : decode cX7_write 142 = .ok (.iload 9, 2) := by decide +kernel
theorem dX7_write_144 : decode cX7_write 144 = .ok (.iload_n 3, 1) := by decide +kernel
theorem dX7_write_145 : decode cX7_write 145 = .ok (.if_icmp .gt 13, 3) := by decide +kernel
theorem dX7_write_148 : decode cX7_write 148 = .ok (.aload_n 0, 1) := by decide +kernel
theorem dX7_write_149 : decode cX7_write 149 = .ok (.getfield 39, 3) := by decide +kernel
theorem dX7_write_152 : decode cX7_write 152 = .ok (.iload 9, 2) := by decide +kernel
theorem dX7_write_154 : decode cX7_write 154 = .ok (.iaload, 1) := by decide +kernel
theorem dX7_write_155 : decode cX7_write 155 = .ok (.goto 4, 3) := by decide +kernel
theorem dX7_write_158 : decode cX7_write 158 = .ok (.iconst 0, 1) := by decide +kernel
theorem dX7_write_159 : decode cX7_write 159 = .ok (.i2l, 1) := by decide +kernel
theorem dX7_write_160 : decode cX7_write 160 = .ok (.lor, 1) := by decide +kernel
theorem dX7_write_161 : decode cX7_write 161 = .ok (.lstore 7, 2) := by decide +kernel
theorem dX7_write_163 : decode cX7_write 163 = .ok (.iinc 9 1, 3) := by decide +kernel
theorem dX7_write_166 : decode cX7_write 166 = .ok (.goto (-42), 3) := by decide +kernel
theorem dX7_write_169 : decode cX7_write 169 = .ok (.aload_n 0, 1) := by decide +kernel
theorem dX7_write_170 : decode cX7_write 170 = .ok (.getfield 28, 3) := by decide +kernel
theorem dX7_write_173 : decode cX7_write 173 = .ok (.aload_n 0, 1) := by decide +kernel
theorem dX7_write_174 : decode cX7_write 174 = .ok (.getfield 87, 3) := by decide +kernel
theorem dX7_write_177 : decode cX7_write 177 = .ok (.lload 7, 2) := by decide +kernel
theorem dX7_write_179 : decode cX7_write 179 = .ok (.lastore, 1) := by decide +kernel
theorem dX7_write_180 : decode cX7_write 180 = .ok (.aload_n 0, 1) := by decide +kernel
theorem dX7_write_181 : decode cX7_write 181 = .ok (.dup, 1) := by decide +kernel
theorem dX7_write_182 : decode cX7_write 182 = .ok (.getfield 87, 3) := by decide +kernel
theorem dX7_write_185 : decode cX7_write 185 = .ok (.iconst 1, 1) := by decide +kernel
theorem dX7_write_186 : decode cX7_write 186 = .ok (.iadd, 1) := by decide +kernel
theorem dX7_write_187 : decode cX7_write 187 = .ok (.putfield 87, 3) := by decide +kernel
theorem dX7_write_190 : decode cX7_write 190 = .ok (.iinc 6 1, 3) := by decide +kernel
theorem dX7_write_193 : decode cX7_write 193 = .ok (.goto (-86), 3) := by decide +kernel
theorem dX7_write_196 : decode cX7_write 196 = .ok (.aload_n 0, 1) := by decide +kernel
theorem dX7_write_197 : decode cX7_write 197 = .ok (.iconst 0, 1) := by decide +kernel
theorem dX7_write_198 : decode cX7_write 198 = .ok (.putfield 93, 3) := by decide +kernel
theorem dX7_write_201 : decode cX7_write 201 = .ok (.iload 5, 2) := by decide +kernel
theorem dX7_write_203 : decode cX7_write 203 = .ok (.ireturn, 1) := by decide +kernel
theorem dX7_grows_0 : decode cX7_grows 0 = .ok (.aload_n 0, 1) := by decide +kernel
theorem dX7_grows_1 : decode cX7_grows 1 = .ok (.getfield 42, 3) := by decide +kernel
theorem dX7_grows_4 : decode cX7_grows 4 = .ok (.iload_n 2, 1) := by decide +kernel
theorem dX7_grows_5 : decode cX7_grows 5 = .ok (.iload_n 3, 1) := by decide +kernel
theorem dX7_grows_6 : decode cX7_grows 6 = .ok (.iastore, 1) := by decide +kernel
theorem dX7_grows_7 : decode cX7_grows 7 = .ok (.iload_n 2, 1) := by decide +kernel
theorem dX7_grows_8 : decode cX7_grows 8 = .ok (.ifCond .ne 7, 3) := by decide +kernel
theorem dX7_grows_11 : decode cX7_grows 11 = .ok (.iconst 1, 1) := by decide +kernel
theorem dX7_grows_12 : decode cX7_grows 12 = .ok (.goto 9, 3) := by decide +kernel
theorem dX7_grows_15 : decode cX7_grows 15 = .ok (.aload_n 0, 1) := by decide +kernel
theorem dX7_grows_16 : decode cX7_grows 16 = .ok (.getfield 45, 3) := by decide +kernel
theorem dX7_grows_19 : decode cX7_grows 19 = .ok (.iload_n 2, 1) := by decide +kernel
theorem dX7_grows_20 : decode cX7_grows 20 = .ok (.iaload, 1) := by decide +kernel
theorem dX7_grows_21 : decode cX7_grows 21 = .ok (.istore 4, 2) := by decide +kernel
theorem dX7_grows_23 : decode cX7_grows 23 = .ok (.iconst 0, 1) := by decide +kernel
theorem dX7_grows_24 : decode cX7_grows 24 = .ok (.istore 5, 2) := by decide +kernel
theorem dX7_grows_26 : decode cX7_grows 26 = .ok (.iload 5, 2) := by decide +kernel
theorem dX7_grows_28 : decode cX7_grows 28 = .ok (.bipush 8, 2) := by decide +kernel
theorem dX7_grows_30 : decode cX7_grows 30 = .ok (.if_icmp .ge 206, 3) := by decide +kernel
theorem dX7_grows_33 : decode cX7_grows 33 = .ok (.bipush 8, 2) := by decide +kernel
theorem dX7_grows_35 : decode cX7_grows 35 = .ok (.iload_n 2, 1) := by decide +kernel
theorem dX7_grows_36 : decode cX7_grows 36 = .ok (.imul, 1) := by decide +kernel
theorem dX7_grows_37 : decode cX7_grows 37 = .ok (.iload 5, 2) := by decide +kernel
theorem dX7_grows_39 : decode cX7_grows 39 = .ok (.iadd, 1) := by decide +kernel
theorem dX7_grows_40 : decode cX7_grows 40 = .ok (.istore 6, 2) := by decide +kernel
theorem dX7_grows_42 : decode cX7_grows 42 = .ok (.aload_n 0, 1) := by decide +kernel
theorem dX7_grows_43 : decode cX7_grows 43 = .ok (.getfield 28, 3) := by decide +kernel
theorem dX7_grows_46 : decode cX7_grows 46 = .ok (.iload_n 3, 1) := by decide +kernel
theorem dX7_grows_47 : decode cX7_grows 47 = .ok (.laload, 1) := by decide +kernel
theorem dX7_grows_48 : decode cX7_grows 48 = .ok (.bipush 56, 2) := by decide +kernel
theorem dX7_grows_50 : decode cX7_grows 50 = .ok (.bipush 8, 2) := by decide +kernel
theorem dX7_grows_52 : decode cX7_grows 52 = .ok (.iload 5, 2) := by decide +kernel
theorem dX7_grows_54 : decode cX7_grows 54 = .ok (.imul, 1) := by decide +kernel
theorem dX7_grows_55 : decode cX7_grows 55 = .ok (.isub, 1) := by decide +kernel
theorem dX7_grows_56 : decode cX7_grows 56 = .ok (.lushr, 1) := by decide +kernel
theorem dX7_grows_57 : decode cX7_grows 57 = .ok (.ldc2_w 108, 3) := by decide +kernel
theorem dX7_grows_60 : decode cX7_grows 60 = .ok (.land, 1) := by decide +kernel
theorem dX7_grows_61 : decode cX7_grows 61 = .ok (.l2i, 1) := by decide +kernel
theorem dX7_grows_62 : decode cX7_grows 62 = .ok (.istore 7, 2) := by decide +kernel
theorem dX7_grows_64 : decode cX7_grows 64 = .ok (.aload_n 0, 1) := by decide +kernel
theorem dX7_grows_65 : decode cX7_grows 65 = .ok (.getfield 39, 3) := by decide +kernel
theorem dX7_grows_68 : decode cX7_grows 68 = .ok (.iload 6, 2) := by decide +kernel
theorem dX7_grows_70 : decode cX7_grows 70 = .ok (.iload 7, 2) := by decide +kernel
theorem dX7_grows_72 : decode cX7_grows 72 = .ok (.iastore, 1) := by decide +kernel
theorem dX7_grows_73 : decode cX7_grows 73 = .ok (.iload 6, 2) := by decide +kernel
theorem dX7_grows_75 : decode cX7_grows 75 = .ok (.ifCond .ne 14, 3) := by decide +kernel
theorem dX7_grows_78 : decode cX7_grows 78 = .ok (.iload 7, 2) := by decide +kernel
theorem dX7_grows_80 : decode cX7_grows 80 = .ok (.aload_n 0, 1) := by decide +kernel
theorem dX7_grows_81 : decode cX7_grows 81 = .ok (.getfield 7, 3) := by decide +kernel
theorem dX7_grows_84 : decode cX7_grows 84 = .ok (.iload_n 1, 1) := by decide +kernel
theorem dX7_grows_85 : decode cX7_grows 85 = .ok (.iaload, 1) := by decide +kernel
theorem dX7_grows_86 : decode cX7_grows 86 = .ok (.if_icmp .ne 49, 3) := by decide +kernel
theorem dX7_grows_89 : decode cX7_grows 89 = .ok (.iload 6, 2) := by decide +kernel
theorem dX7_grows_91 : decode cX7_grows 91 = .ok (.iconst 1, 1) := by decide +kernel
theorem dX7_grows_92 : decode cX7_grows 92 = .ok (.if_icmp .ne 14, 3) := by decide +kernel
theorem dX7_grows_95 : decode cX7_grows 95 = .ok (.iload 7, 2) := by decide +kernel
theorem dX7_grows_97 : decode cX7_grows 97 = .ok (.aload_n 0, 1) := by decide +kernel
theorem dX7_grows_98 : decode cX7_grows 98 = .ok (.getfield 13, 3) := by decide +kernel
theorem dX7_grows_101 : decode cX7_grows 101 = .ok (.iload_n 1, 1) := by decide +kernel
theorem dX7_grows_102 : decode cX7_grows 102 = .ok (.iaload, 1) := by decide +kernel
theorem dX7_grows_103 : decode cX7_grows 103 = .ok (.if_icmp .ne 32, 3) := by decide +kernel
theorem dX7_grows_106 : decode cX7_grows 106 = .ok (.iload 6, 2) := by decide +kernel
theorem dX7_grows_108 : decode cX7_grows 108 = .ok (.iconst 2, 1) := by decide +kernel
theorem dX7_grows_109 : decode cX7_grows 109 = .ok (.if_icmp .ne 28, 3) := by decide +kernel
theorem dX7_grows_112 : decode cX7_grows 112 = .ok (.iload 7, 2) := by decide +kernel
theorem dX7_grows_114 : decode cX7_grows 114 = .ok (.bipush 36, 2) := by decide +kernel
theorem dX7_grows_116 : decode cX7_grows 116 = .ok (.if_icmp .gt 19, 3) := by decide +kernel
theorem dX7_grows_119 : decode cX7_grows 119 = .ok (.iload 7, 2) := by decide +kernel
theorem dX7_grows_121 : decode cX7_grows 121 = .ok (.ifCond .ne 16, 3) := by decide +kernel
theorem dX7_grows_124 : decode cX7_grows 124 = .ok (.aload_n 0, 1) := by decide +kernel
theorem dX7_grows_125 : decode cX7_grows 125 = .ok (.getfield 19, 3) := by decide +kernel
theorem dX7_grows_128 : decode cX7_grows 128 = .ok (.iload_n 1, 1) := by decide +kernel
theorem dX7_grows_129 : decode cX7_grows 129 = .ok (.iaload, 1) := by decide +kernel
theorem dX7_grows_130 : decode cX7_grows 130 = .ok (.iconst 1, 1) := by decide +kernel
theorem dX7_grows_131 : decode cX7_grows 131 = .ok (.iand, 1) := by decide +kernel
theorem dX7_grows_132 : decode cX7_grows 132 = .ok (.ifCond .ne 5, 3) := by decide +kernel
theorem dX7_grows_135 : decode cX7_grows 135 = .ok (.iconst 0, 1) := by decide +kernel
theorem dX7_grows_136 : decode cX7_grows 136 = .ok (.ireturn, 1) := by decide +kernel
theorem dX7_grows_137 : decode cX7_grows 137 = .ok (.iload 6, 2) := by decide +kernel
theorem dX7_grows_139 : decode cX7_grows 139 = .ok (.iconst 3, 1) := by decide +kernel
theorem dX7_grows_140 : decode cX7_grows 140 = .ok (.if_icmp .ge 6, 3) := by decide +kernel
theorem dX7_grows_143 : decode cX7_grows 143 = .ok (.goto 87, 3) := by decide +kernel
theorem dX7_grows_146 : decode cX7_grows 146 = .ok (.iconst 3, 1) := by decide +kernel
theorem dX7_grows_147 : decode cX7_grows 147 = .ok (.aload_n 0, 1) := by decide +kernel
theorem dX7_grows_148 : decode cX7_grows 148 = .ok (.getfield 39, 3) := by decide +kernel
theorem dX7_grows_151 : decode cX7_grows 151 = .ok (.iconst 2, 1) := by decide +kernel
theorem dX7_grows_152 : decode cX7_grows 152 = .ok (.iaload, 1) := by decide +kernel
theorem dX7_grows_153 : decode cX7_grows 153 = .ok (.iadd, 1) := by decide +kernel
theorem dX7_grows_154 : decode cX7_grows 154 = .ok (.istore 8, 2) := by decide +kernel
theorem dX7_grows_156 : decode cX7_grows 156 = .ok (.iload 6, 2) := by decide +kernel
theorem dX7_grows_158 : decode cX7_grows 158 = .ok (.iload 8, 2) := by decide +kernel
theorem dX7_grows_160 : decode cX7_grows 160 = .ok (.if_icmp .ge 42, 3) := by decide +kernel
theorem dX7_grows_163 : decode cX7_grows 163 = .ok (.aload_n 0, 1) := by decide +kernel
theorem dX7_grows_164 : decode cX7_grows 164 = .ok (.iload_n 1, 1) := by decide +kernel
theorem dX7_grows_165 : decode cX7_grows 165 = .ok (.iload 4, 2) := by decide +kernel
theorem dX7_grows_167 : decode cX7_grows 167 = .ok (.iload 7, 2) := by decide +kernel
theorem dX7_grows_169 : decode cX7_grows 169 = .ok (.invokevirtual 104, 3) := by decide +kernel
theorem dX7_grows_172 : decode cX7_grows 172 = .ok (.istore 4, 2) := by decide +kernel
theorem dX7_grows_174 : decode cX7_grows 174 = .ok (.iload 4, 2) := by decide +kernel
theorem dX7_grows_176 : decode cX7_grows 176 = .ok (.ifCond .eq 24, 3) := by decide +kernel
theorem dX7_grows_179 : decode cX7_grows 179 = .ok (.iload 6, 2) := by decide +kernel
theorem dX7_grows_181 : decode cX7_grows 181 = .ok (.iload 8, 2) := by decide +kernel
theorem dX7_grows_183 : decode cX7_grows 183 = .ok (.iconst 1, 1) := by decide +kernel
theorem dX7_grows_184 : decode cX7_grows 184 = .ok (.isub, 1) := by decide +kernel
theorem dX7_grows_185 : decode cX7_grows 185 = .ok (.if_icmp .ne 45, 3) := by decide +kernel
theorem dX7_grows_188 : decode cX7_grows 188 = .ok (.iload 4, 2) := by decide +kernel
theorem dX7_grows_190 : decode cX7_grows 190 = .ok (.aload_n 0, 1) := by decide +kernel
theorem dX7_grows_191 : decode cX7_grows 191 = .ok (.getfield 19, 3) := by decide +kernel
theorem dX7_grows_194 : decode cX7_grows 194 = .ok (.iload_n 1, 1) := by decide +kernel
theorem dX7_grows_195 : decode cX7_grows 195 = .ok (.iaload, 1) := by decide +kernel
theorem dX7_grows_196 : decode cX7_grows 196 = .ok (.iand, 1) := by decide +kernel
theorem dX7_grows_197 : decode cX7_grows 197 = .ok (.ifCond .ne 33, 3) := by decide +kernel
theorem dX7_grows_200 : decode cX7_grows 200 = .ok (.iconst 0, 1) := by decide +kernel
theorem dX7_grows_201 : decode cX7_grows 201 = .ok (.ireturn, 1) := by decide +kernel
theorem dX7_grows_202 : decode cX7_grows 202 = .ok (.iload 6, 2) := by decide +kernel
theorem dX7_grows_204 : decode cX7_grows 204 = .ok (.iload 8, 2) := by decide +kernel
theorem dX7_grows_206 : decode cX7_grows 206 = .ok (.if_icmp .ne 17, 3) := by decide +kernel
theorem dX7_grows_209 : decode cX7_grows 209 = .ok (.aload_n 0, 1) := by decide +kernel
theorem dX7_grows_210 : decode cX7_grows 210 = .ok (.iload_n 1, 1) := by decide +kernel
theorem dX7_grows_211 : decode cX7_grows 211 = .ok (.iload 8, 2) := by decide +kernel
theorem dX7_grows_213 : decode cX7_grows 213 = .ok (.invokevirtual 100, 3) := by decide +kernel
theorem dX7_grows_216 : decode cX7_grows 216 = .ok (.iload 7, 2) := by decide +kernel
theorem dX7_grows_218 : decode cX7_grows 218 = .ok (.if_icmp .eq 12, 3) := by decide +kernel
theorem dX7_grows_221 : decode cX7_grows 221 = .ok (.iconst 0, 1) := by decide +kernel
theorem dX7_grows_222 : decode cX7_grows 222 = .ok (.ireturn, 1) := by decide +kernel
theorem dX7_grows_223 : decode cX7_grows 223 = .ok (.iload 7, 2) := by decide +kernel
theorem dX7_grows_225 : decode cX7_grows 225 = .ok (.ifCond .eq 5, 3) := by decide +kernel
theorem dX7_grows_228 : decode cX7_grows 228 = .ok (.iconst 0, 1) := by decide +kernel
theorem dX7_grows_229 : decode cX7_grows 229 = .ok (.ireturn, 1) := by decide +kernel
theorem dX7_grows_230 : decode cX7_grows 230 = .ok (.iinc 5 1, 3) := by decide +kernel
theorem dX7_grows_233 : decode cX7_grows 233 = .ok (.goto (-207), 3) := by decide +kernel
theorem dX7_grows_236 : decode cX7_grows 236 = .ok (.aload_n 0, 1) := by decide +kernel
theorem dX7_grows_237 : decode cX7_grows 237 = .ok (.getfield 45, 3) := by decide +kernel
theorem dX7_grows_240 : decode cX7_grows 240 = .ok (.iload_n 2, 1) := by decide +kernel
theorem dX7_grows_241 : decode cX7_grows 241 = .ok (.iconst 1, 1) := by decide +kernel
theorem dX7_grows_242 : decode cX7_grows 242 = .ok (.iadd, 1) := by decide +kernel
theorem dX7_grows_243 : decode cX7_grows 243 = .ok (.iload 4, 2) := by decide +kernel
theorem dX7_grows_245 : decode cX7_grows 245 = .ok (.iastore, 1) := by decide +kernel
theorem dX7_grows_246 : decode cX7_grows 246 = .ok (.bipush 8, 2) := by decide +kernel
theorem dX7_grows_248 : decode cX7_grows 248 = .ok (.iload_n 2, 1) := by decide +kernel
theorem dX7_grows_249 : decode cX7_grows 249 = .ok (.imul, 1) := by decide +kernel
theorem dX7_grows_250 : decode cX7_grows 250 = .ok (.bipush 8, 2) := by decide +kernel
theorem dX7_grows_252 : decode cX7_grows 252 = .ok (.iadd, 1) := by decide +kernel
theorem dX7_grows_253 : decode cX7_grows 253 = .ok (.iconst 3, 1) := by decide +kernel
theorem dX7_grows_254 : decode cX7_grows 254 = .ok (.aload_n 0, 1) := by decide +kernel
theorem dX7_grows_255 : decode cX7_grows 255 = .ok (.getfield 39, 3) := by decide +kernel
theorem dX7_grows_258 : decode cX7_grows 258 = .ok (.iconst 2, 1) := by decide +kernel
theorem dX7_grows_259 : decode cX7_grows 259 = .ok (.iaload, 1) := by decide +kernel
theorem dX7_grows_260 : decode cX7_grows 260 = .ok (.iadd, 1) := by decide +kernel
theorem dX7_grows_261 : decode cX7_grows 261 = .ok (.if_icmp .le 7, 3) := by decide +kernel
theorem dX7_grows_264 : decode cX7_grows 264 = .ok (.iconst 2, 1) := by decide +kernel
theorem dX7_grows_265 : decode cX7_grows 265 = .ok (.goto 4, 3) := by decide +kernel
theorem dX7_grows_268 : decode cX7_grows 268 = .ok (.iconst 1, 1) := by decide +kernel
theorem dX7_grows_269 : decode cX7_grows 269 = .ok (.ireturn, 1) := by decide +kernel
theorem dX7_mayFollow_0 : decode cX7_mayFollow 0 = .ok (.iload_n 2, 1) := by decide +kernel
theorem dX7_mayFollow_1 : decode cX7_mayFollow 1 = .ok (.aload_n 0, 1) := by decide +kernel
theorem dX7_mayFollow_2 : decode cX7_mayFollow 2 = .ok (.getfield 42, 3) := by decide +kernel
theorem dX7_mayFollow_5 : decode cX7_mayFollow 5 = .ok (.iload_n 1, 1) := by decide +kernel
theorem dX7_mayFollow_6 : decode cX7_mayFollow 6 = .ok (.iconst 1, 1) := by decide +kernel
theorem dX7_mayFollow_7 : decode cX7_mayFollow 7 = .ok (.isub, 1) := by decide +kernel
theorem dX7_mayFollow_8 : decode cX7_mayFollow 8 = .ok (.iaload, 1) := by decide +kernel
theorem dX7_mayFollow_9 : decode cX7_mayFollow 9 = .ok (.isub, 1) := by decide +kernel
theorem dX7_mayFollow_10 : decode cX7_mayFollow 10 = .ok (.istore_n 3, 1) := by decide +kernel
theorem dX7_mayFollow_11 : decode cX7_mayFollow 11 = .ok (.iload_n 3, 1) := by decide +kernel
theorem dX7_mayFollow_12 : decode cX7_mayFollow 12 = .ok (.ifCond .ge 8, 3) := by decide +kernel
theorem dX7_mayFollow_15 : decode cX7_mayFollow 15 = .ok (.iload_n 3, 1) := by decide +kernel
theorem dX7_mayFollow_16 : decode cX7_mayFollow 16 = .ok (.ineg, 1) := by decide +kernel
theorem dX7_mayFollow_17 : decode cX7_mayFollow 17 = .ok (.goto 4, 3) := by decide +kernel
theorem dX7_mayFollow_20 : decode cX7_mayFollow 20 = .ok (.iload_n 3, 1) := by decide +kernel
theorem dX7_mayFollow_21 : decode cX7_mayFollow 21 = .ok (.aload_n 0, 1) := by decide +kernel
theorem dX7_mayFollow_22 : decode cX7_mayFollow 22 = .ok (.getfield 35, 3) := by decide +kernel
theorem dX7_mayFollow_25 : decode cX7_mayFollow 25 = .ok (.if_icmp .le 5, 3) := by decide +kernel
theorem dX7_mayFollow_28 : decode cX7_mayFollow 28 = .ok (.iconst 0, 1) := by decide +kernel
theorem dX7_mayFollow_29 : decode cX7_mayFollow 29 = .ok (.ireturn, 1) := by decide +kernel
theorem dX7_mayFollow_30 : decode cX7_mayFollow 30 = .ok (.iconst 0, 1) := by decide +kernel
theorem dX7_mayFollow_31 : decode cX7_mayFollow 31 = .ok (.istore 4, 2) := by decide +kernel
theorem dX7_mayFollow_33 : decode cX7_mayFollow 33 = .ok (.iload 4, 2) := by decide +kernel
theorem dX7_mayFollow_35 : decode cX7_mayFollow 35 = .ok (.iload_n 1, 1) := by decide +kernel
theorem dX7_mayFollow_36 : decode cX7_mayFollow 36 = .ok (.if_icmp .ge 22, 3) := by decide +kernel
theorem dX7_mayFollow_39 : decode cX7_mayFollow 39 = .ok (.aload_n 0, 1) := by decide +kernel
theorem dX7_mayFollow_40 : decode cX7_mayFollow 40 = .ok (.getfield 42, 3) := by decide +kernel
theorem dX7_mayFollow_43 : decode cX7_mayFollow 43 = .ok (.iload 4, 2) := by decide +kernel
theorem dX7_mayFollow_45 : decode cX7_mayFollow 45 = .ok (.iaload, 1) := by decide +kernel
theorem dX7_mayFollow_46 : decode cX7_mayFollow 46 = .ok (.iload_n 2, 1) := by decide +kernel
theorem dX7_mayFollow_47 : decode cX7_mayFollow 47 = .ok (.if_icmp .ne 5, 3) := by decide +kernel
theorem dX7_mayFollow_50 : decode cX7_mayFollow 50 = .ok (.iconst 0, 1) := by decide +kernel
theorem dX7_mayFollow_51 : decode cX7_mayFollow 51 = .ok (.ireturn, 1) := by decide +kernel
theorem dX7_mayFollow_52 : decode cX7_mayFollow 52 = .ok (.iinc 4 1, 3) := by decide +kernel
theorem dX7_mayFollow_55 : decode cX7_mayFollow 55 = .ok (.goto (-22), 3) := by decide +kernel
theorem dX7_mayFollow_58 : decode cX7_mayFollow 58 = .ok (.iconst 1, 1) := by decide +kernel
theorem dX7_mayFollow_59 : decode cX7_mayFollow 59 = .ok (.ireturn, 1) := by decide +kernel
theorem dX7_follows_0 : decode cX7_follows 0 = .ok (.iconst 0, 1) := by decide +kernel
theorem dX7_follows_1 : decode cX7_follows 1 = .ok (.istore_n 3, 1) := by decide +kernel
theorem dX7_follows_2 : decode cX7_follows 2 = .ok (.iload_n 3, 1) := by decide +kernel
theorem dX7_follows_3 : decode cX7_follows 3 = .ok (.aload_n 0, 1) := by decide +kernel
theorem dX7_follows_4 : decode cX7_follows 4 = .ok (.getfield 87, 3) := by decide +kernel
theorem dX7_follows_7 : decode cX7_follows 7 = .ok (.if_icmp .ge 33, 3) := by decide +kernel
theorem dX7_follows_10 : decode cX7_follows 10 = .ok (.aload_n 0, 1) := by decide +kernel
theorem dX7_follows_11 : decode cX7_follows 11 = .ok (.iload_n 2, 1) := by decide +kernel
theorem dX7_follows_12 : decode cX7_follows 12 = .ok (.iload_n 3, 1) := by decide +kernel
theorem dX7_follows_13 : decode cX7_follows 13 = .ok (.invokevirtual 110, 3) := by decide +kernel
theorem dX7_follows_16 : decode cX7_follows 16 = .ok (.ifCond .ne 6, 3) := by decide +kernel
theorem dX7_follows_19 : decode cX7_follows 19 = .ok (.goto 15, 3) := by decide +kernel
theorem dX7_follows_22 : decode cX7_follows 22 = .ok (.aload_n 0, 1) := by decide +kernel
theorem dX7_follows_23 : decode cX7_follows 23 = .ok (.iload_n 1, 1) := by decide +kernel
theorem dX7_follows_24 : decode cX7_follows 24 = .ok (.iload_n 2, 1) := by decide +kernel
theorem dX7_follows_25 : decode cX7_follows 25 = .ok (.iload_n 3, 1) := by decide +kernel
theorem dX7_follows_26 : decode cX7_follows 26 = .ok (.invokevirtual 114, 3) := by decide +kernel
theorem dX7_follows_29 : decode cX7_follows 29 = .ok (.ifCond .ne 5, 3) := by decide +kernel
theorem dX7_follows_32 : decode cX7_follows 32 = .ok (.iconst 0, 1) := by decide +kernel
theorem dX7_follows_33 : decode cX7_follows 33 = .ok (.ireturn, 1) := by decide +kernel
theorem dX7_follows_34 : decode cX7_follows 34 = .ok (.iinc 3 1, 3) := by decide +kernel
theorem dX7_follows_37 : decode cX7_follows 37 = .ok (.goto (-35), 3) := by decide +kernel
theorem dX7_follows_40 : decode cX7_follows 40 = .ok (.iconst 1, 1) := by decide +kernel
theorem dX7_follows_41 : decode cX7_follows 41 = .ok (.ireturn, 1) := by decide +kernel
theorem dX7_look_0 : decode cX7_look 0 = .ok (.aload_n 0, 1) := by decide +kernel
theorem dX7_look_1 : decode cX7_look 1 = .ok (.dup, 1) := by decide +kernel
theorem dX7_look_2 : decode cX7_look 2 = .ok (.getfield 118, 3) := by decide +kernel
theorem dX7_look_5 : decode cX7_look 5 = .ok (.iconst 1, 1) := by decide +kernel
theorem dX7_look_6 : decode cX7_look 6 = .ok (.iadd, 1) := by decide +kernel
theorem dX7_look_7 : decode cX7_look 7 = .ok (.putfield 118, 3) := by decide +kernel
theorem dX7_look_10 : decode cX7_look 10 = .ok (.aload_n 0, 1) := by decide +kernel
theorem dX7_look_11 : decode cX7_look 11 = .ok (.getfield 118, 3) := by decide +kernel
theorem dX7_look_14 : decode cX7_look 14 = .ok (.sipush 20000, 3) := by decide +kernel
theorem dX7_look_17 : decode cX7_look 17 = .ok (.if_icmp .le 5, 3) := by decide +kernel
theorem dX7_look_20 : decode cX7_look 20 = .ok (.iconst 0, 1) := by decide +kernel
theorem dX7_look_21 : decode cX7_look 21 = .ok (.ireturn, 1) := by decide +kernel
theorem dX7_look_22 : decode cX7_look 22 = .ok (.aload_n 0, 1) := by decide +kernel
theorem dX7_look_23 : decode cX7_look 23 = .ok (.iload_n 1, 1) := by decide +kernel
theorem dX7_look_24 : decode cX7_look 24 = .ok (.iload_n 2, 1) := by decide +kernel
theorem dX7_look_25 : decode cX7_look 25 = .ok (.iload_n 3, 1) := by decide +kernel
theorem dX7_look_26 : decode cX7_look 26 = .ok (.invokevirtual 121, 3) := by decide +kernel
theorem dX7_look_29 : decode cX7_look 29 = .ok (.istore 4, 2) := by decide +kernel
theorem dX7_look_31 : decode cX7_look 31 = .ok (.iload 4, 2) := by decide +kernel
theorem dX7_look_33 : decode cX7_look 33 = .ok (.ifCond .le 27, 3) := by decide +kernel
theorem dX7_look_36 : decode cX7_look 36 = .ok (.aload_n 0, 1) := by decide +kernel
theorem dX7_look_37 : decode cX7_look 37 = .ok (.iload_n 2, 1) := by decide +kernel
theorem dX7_look_38 : decode cX7_look 38 = .ok (.iconst 1, 1) := by decide +kernel
theorem dX7_look_39 : decode cX7_look 39 = .ok (.iadd, 1) := by decide +kernel
theorem dX7_look_40 : decode cX7_look 40 = .ok (.aload_n 0, 1) := by decide +kernel
theorem dX7_look_41 : decode cX7_look 41 = .ok (.getfield 124, 3) := by decide +kernel
theorem dX7_look_44 : decode cX7_look 44 = .ok (.if_icmp .le 9, 3) := by decide +kernel
theorem dX7_look_47 : decode cX7_look 47 = .ok (.iload_n 2, 1) := by decide +kernel
theorem dX7_look_48 : decode cX7_look 48 = .ok (.iconst 1, 1) := by decide +kernel
theorem dX7_look_49 : decode cX7_look 49 = .ok (.iadd, 1) := by decide +kernel
theorem dX7_look_50 : decode cX7_look 50 = .ok (.goto 7, 3) := by decide +kernel
theorem dX7_look_53 : decode cX7_look 53 = .ok (.aload_n 0, 1) := by decide +kernel
theorem dX7_look_54 : decode cX7_look 54 = .ok (.getfield 124, 3) := by decide +kernel
theorem dX7_look_57 : decode cX7_look 57 = .ok (.putfield 124, 3) := by decide +kernel
theorem dX7_look_60 : decode cX7_look 60 = .ok (.iload 4, 2) := by decide +kernel
theorem dX7_look_62 : decode cX7_look 62 = .ok (.iconst 2, 1) := by decide +kernel
theorem dX7_look_63 : decode cX7_look 63 = .ok (.if_icmp .ne 18, 3) := by decide +kernel
theorem dX7_look_66 : decode cX7_look 66 = .ok (.aload_n 0, 1) := by decide +kernel
theorem dX7_look_67 : decode cX7_look 67 = .ok (.getfield 127, 3) := by decide +kernel
theorem dX7_look_70 : decode cX7_look 70 = .ok (.ifCond .eq 11, 3) := by decide +kernel
theorem dX7_look_73 : decode cX7_look 73 = .ok (.aload_n 0, 1) := by decide +kernel
theorem dX7_look_74 : decode cX7_look 74 = .ok (.iload_n 1, 1) := by decide +kernel
theorem dX7_look_75 : decode cX7_look 75 = .ok (.iload_n 2, 1) := by decide +kernel
theorem dX7_look_76 : decode cX7_look 76 = .ok (.iconst 1, 1) := by decide +kernel
theorem dX7_look_77 : decode cX7_look 77 = .ok (.iadd, 1) := by decide +kernel
theorem dX7_look_78 : decode cX7_look 78 = .ok (.invokevirtual 131, 3) := by decide +kernel
theorem dX7_look_81 : decode cX7_look 81 = .ok (.iload 4, 2) := by decide +kernel
theorem dX7_look_83 : decode cX7_look 83 = .ok (.iconst 1, 1) := by decide +kernel
theorem dX7_look_84 : decode cX7_look 84 = .ok (.if_icmp .ne 14, 3) := by decide +kernel
theorem dX7_look_87 : decode cX7_look 87 = .ok (.aload_n 0, 1) := by decide +kernel
theorem dX7_look_88 : decode cX7_look 88 = .ok (.iload_n 1, 1) := by decide +kernel
theorem dX7_look_89 : decode cX7_look 89 = .ok (.iload_n 2, 1) := by decide +kernel
theorem dX7_look_90 : decode cX7_look 90 = .ok (.iconst 1, 1) := by decide +kernel
theorem dX7_look_91 : decode cX7_look 91 = .ok (.iadd, 1) := by decide +kernel
theorem dX7_look_92 : decode cX7_look 92 = .ok (.invokevirtual 135, 3) := by decide +kernel
theorem dX7_look_95 : decode cX7_look 95 = .ok (.ifCond .eq 7, 3) := by decide +kernel
theorem dX7_look_98 : decode cX7_look 98 = .ok (.iconst 1, 1) := by decide +kernel
theorem dX7_look_99 : decode cX7_look 99 = .ok (.goto 4, 3) := by decide +kernel
theorem dX7_look_102 : decode cX7_look 102 = .ok (.iconst 0, 1) := by decide +kernel
theorem dX7_look_103 : decode cX7_look 103 = .ok (.ireturn, 1) := by decide +kernel
theorem dX7_isAhead_0 : decode cX7_isAhead 0 = .ok (.iconst 0, 1) := by decide +kernel
theorem dX7_isAhead_1 : decode cX7_isAhead 1 = .ok (.istore 4, 2) := by decide +kernel
theorem dX7_isAhead_3 : decode cX7_isAhead 3 = .ok (.iload 4, 2) := by decide +kernel
theorem dX7_isAhead_5 : decode cX7_isAhead 5 = .ok (.iload_n 2, 1) := by decide +kernel
theorem dX7_isAhead_6 : decode cX7_isAhead 6 = .ok (.if_icmp .ge 68, 3) := by decide +kernel
theorem dX7_isAhead_9 : decode cX7_isAhead 9 = .ok (.iload 4, 2) := by decide +kernel
theorem dX7_isAhead_11 : decode cX7_isAhead 11 = .ok (.aload_n 0, 1) := by decide +kernel
theorem dX7_isAhead_12 : decode cX7_isAhead 12 = .ok (.getfield 51, 3) := by decide +kernel
theorem dX7_isAhead_15 : decode cX7_isAhead 15 = .ok (.iload_n 3, 1) := by decide +kernel
theorem dX7_isAhead_16 : decode cX7_isAhead 16 = .ok (.iaload, 1) := by decide +kernel
theorem dX7_isAhead_17 : decode cX7_isAhead 17 = .ok (.if_icmp .ge 57, 3) := by decide +kernel
theorem dX7_isAhead_20 : decode cX7_isAhead 20 = .ok (.aload_n 0, 1) := by decide +kernel
theorem dX7_isAhead_21 : decode cX7_isAhead 21 = .ok (.getfield 42, 3) := by decide +kernel
theorem dX7_isAhead_24 : decode cX7_isAhead 24 = .ok (.iload 4, 2) := by decide +kernel
theorem dX7_isAhead_26 : decode cX7_isAhead 26 = .ok (.iaload, 1) := by decide +kernel
theorem dX7_isAhead_27 : decode cX7_isAhead 27 = .ok (.aload_n 0, 1) := by decide +kernel
theorem dX7_isAhead_28 : decode cX7_isAhead 28 = .ok (.getfield 54, 3) := by decide +kernel
theorem dX7_isAhead_31 : decode cX7_isAhead 31 = .ok (.iconst 5, 1) := by decide +kernel
theorem dX7_isAhead_32 : decode cX7_isAhead 32 = .ok (.iload_n 3, 1) := by decide +kernel
theorem dX7_isAhead_33 : decode cX7_isAhead 33 = .ok (.imul, 1) := by decide +kernel
theorem dX7_isAhead_34 : decode cX7_isAhead 34 = .ok (.iload 4, 2) := by decide +kernel
theorem dX7_isAhead_36 : decode cX7_isAhead 36 = .ok (.iadd, 1) := by decide +kernel
theorem dX7_isAhead_37 : decode cX7_isAhead 37 = .ok (.iaload, 1) := by decide +kernel
theorem dX7_isAhead_38 : decode cX7_isAhead 38 = .ok (.if_icmp .eq 30, 3) := by decide +kernel
theorem dX7_isAhead_41 : decode cX7_isAhead 41 = .ok (.aload_n 0, 1) := by decide +kernel
theorem dX7_isAhead_42 : decode cX7_isAhead 42 = .ok (.getfield 42, 3) := by decide +kernel
theorem dX7_isAhead_45 : decode cX7_isAhead 45 = .ok (.iload 4, 2) := by decide +kernel
theorem dX7_isAhead_47 : decode cX7_isAhead 47 = .ok (.iaload, 1) := by decide +kernel
theorem dX7_isAhead_48 : decode cX7_isAhead 48 = .ok (.aload_n 0, 1) := by decide +kernel
theorem dX7_isAhead_49 : decode cX7_isAhead 49 = .ok (.getfield 54, 3) := by decide +kernel
theorem dX7_isAhead_52 : decode cX7_isAhead 52 = .ok (.iconst 5, 1) := by decide +kernel
theorem dX7_isAhead_53 : decode cX7_isAhead 53 = .ok (.iload_n 3, 1) := by decide +kernel
theorem dX7_isAhead_54 : decode cX7_isAhead 54 = .ok (.imul, 1) := by decide +kernel
theorem dX7_isAhead_55 : decode cX7_isAhead 55 = .ok (.iload 4, 2) := by decide +kernel
theorem dX7_isAhead_57 : decode cX7_isAhead 57 = .ok (.iadd, 1) := by decide +kernel
theorem dX7_isAhead_58 : decode cX7_isAhead 58 = .ok (.iaload, 1) := by decide +kernel
theorem dX7_isAhead_59 : decode cX7_isAhead 59 = .ok (.if_icmp .ge 7, 3) := by decide +kernel
theorem dX7_isAhead_62 : decode cX7_isAhead 62 = .ok (.iconst 1, 1) := by decide +kernel
theorem dX7_isAhead_63 : decode cX7_isAhead 63 = .ok (.goto 4, 3) := by decide +kernel
theorem dX7_isAhead_66 : decode cX7_isAhead 66 = .ok (.iconst 0, 1) := by decide +kernel
theorem dX7_isAhead_67 : decode cX7_isAhead 67 = .ok (.ireturn, 1) := by decide +kernel
theorem dX7_isAhead_68 : decode cX7_isAhead 68 = .ok (.iinc 4 1, 3) := by decide +kernel
theorem dX7_isAhead_71 : decode cX7_isAhead 71 = .ok (.goto (-68), 3) := by decide +kernel
theorem dX7_isAhead_74 : decode cX7_isAhead 74 = .ok (.iload_n 2, 1) := by decide +kernel
theorem dX7_isAhead_75 : decode cX7_isAhead 75 = .ok (.aload_n 0, 1) := by decide +kernel
theorem dX7_isAhead_76 : decode cX7_isAhead 76 = .ok (.getfield 51, 3) := by decide +kernel
theorem dX7_isAhead_79 : decode cX7_isAhead 79 = .ok (.iload_n 3, 1) := by decide +kernel
theorem dX7_isAhead_80 : decode cX7_isAhead 80 = .ok (.iaload, 1) := by decide +kernel
theorem dX7_isAhead_81 : decode cX7_isAhead 81 = .ok (.if_icmp .eq 21, 3) := by decide +kernel
theorem dX7_isAhead_84 : decode cX7_isAhead 84 = .ok (.iload_n 2, 1) := by decide +kernel
theorem dX7_isAhead_85 : decode cX7_isAhead 85 = .ok (.aload_n 0, 1) := by decide +kernel
theorem dX7_isAhead_86 : decode cX7_isAhead 86 = .ok (.getfield 51, 3) := by decide +kernel
theorem dX7_isAhead_89 : decode cX7_isAhead 89 = .ok (.iload_n 3, 1) := by decide +kernel
theorem dX7_isAhead_90 : decode cX7_isAhead 90 = .ok (.iaload, 1) := by decide +kernel
theorem dX7_isAhead_91 : decode cX7_isAhead 91 = .ok (.if_icmp .ge 7, 3) := by decide +kernel
theorem dX7_isAhead_94 : decode cX7_isAhead 94 = .ok (.iconst 1, 1) := by decide +kernel
theorem dX7_isAhead_95 : decode cX7_isAhead 95 = .ok (.goto 22, 3) := by decide +kernel
theorem dX7_isAhead_98 : decode cX7_isAhead 98 = .ok (.iconst 0, 1) := by decide +kernel
theorem dX7_isAhead_99 : decode cX7_isAhead 99 = .ok (.goto 18, 3) := by decide +kernel
theorem dX7_isAhead_102 : decode cX7_isAhead 102 = .ok (.iload_n 1, 1) := by decide +kernel
theorem dX7_isAhead_103 : decode cX7_isAhead 103 = .ok (.aload_n 0, 1) := by decide +kernel
theorem dX7_isAhead_104 : decode cX7_isAhead 104 = .ok (.getfield 48, 3) := by decide +kernel
theorem dX7_isAhead_107 : decode cX7_isAhead 107 = .ok (.iload_n 3, 1) := by decide +kernel
theorem dX7_isAhead_108 : decode cX7_isAhead 108 = .ok (.iaload, 1) := by decide +kernel
theorem dX7_isAhead_109 : decode cX7_isAhead 109 = .ok (.if_icmp .ge 7, 3) := by decide +kernel
theorem dX7_isAhead_112 : decode cX7_isAhead 112 = .ok (.iconst 1, 1) := by decide +kernel
theorem dX7_isAhead_113 : decode cX7_isAhead 113 = .ok (.goto 4, 3) := by decide +kernel
theorem dX7_isAhead_116 : decode cX7_isAhead 116 = .ok (.iconst 0, 1) := by decide +kernel
theorem dX7_isAhead_117 : decode cX7_isAhead 117 = .ok (.ireturn, 1) := by decide +kernel
theorem dX7_found_0 : decode cX7_found 0 = .ok (.aload_n 0, 1) := by decide +kernel
theorem dX7_found_1 : decode cX7_found 1 = .ok (.getfield 138, 3) := by decide +kernel
theorem dX7_found_4 : decode cX7_found 4 = .ok (.bipush 40, 2) := by decide +kernel
theorem dX7_found_6 : decode cX7_found 6 = .ok (.if_icmp .le 4, 3) := by decide +kernel
theorem dX7_found_9 : decode cX7_found 9 = .ok (.return_, 1) := by decide +kernel
theorem dX7_found_10 : decode cX7_found 10 = .ok (.aload_n 0, 1) := by decide +kernel
theorem dX7_found_11 : decode cX7_found 11 = .ok (.getfield 138, 3) := by decide +kernel
theorem dX7_found_14 : decode cX7_found 14 = .ok (.istore_n 3, 1) := by decide +kernel
theorem dX7_found_15 : decode cX7_found 15 = .ok (.iload_n 3, 1) := by decide +kernel
theorem dX7_found_16 : decode cX7_found 16 = .ok (.ifCond .le 29, 3) := by decide +kernel
theorem dX7_found_19 : decode cX7_found 19 = .ok (.aload_n 0, 1) := by decide +kernel
theorem dX7_found_20 : decode cX7_found 20 = .ok (.iload_n 1, 1) := by decide +kernel
theorem dX7_found_21 : decode cX7_found 21 = .ok (.iload_n 2, 1) := by decide +kernel
theorem dX7_found_22 : decode cX7_found 22 = .ok (.iload_n 3, 1) := by decide +kernel
theorem dX7_found_23 : decode cX7_found 23 = .ok (.iconst 1, 1) := by decide +kernel
theorem dX7_found_24 : decode cX7_found 24 = .ok (.isub, 1) := by decide +kernel
theorem dX7_found_25 : decode cX7_found 25 = .ok (.invokevirtual 141, 3) := by decide +kernel
theorem dX7_found_28 : decode cX7_found 28 = .ok (.ifCond .eq 17, 3) := by decide +kernel
theorem dX7_found_31 : decode cX7_found 31 = .ok (.aload_n 0, 1) := by decide +kernel
theorem dX7_found_32 : decode cX7_found 32 = .ok (.iload_n 3, 1) := by decide +kernel
theorem dX7_found_33 : decode cX7_found 33 = .ok (.iconst 1, 1) := by decide +kernel
theorem dX7_found_34 : decode cX7_found 34 = .ok (.isub, 1) := by decide +kernel
theorem dX7_found_35 : decode cX7_found 35 = .ok (.iload_n 3, 1) := by decide +kernel
theorem dX7_found_36 : decode cX7_found 36 = .ok (.invokevirtual 144, 3) := by decide +kernel
theorem dX7_found_39 : decode cX7_found 39 = .ok (.iinc 3 (-1), 3) := by decide +kernel
theorem dX7_found_42 : decode cX7_found 42 = .ok (.goto (-27), 3) := by decide +kernel
theorem dX7_found_45 : decode cX7_found 45 = .ok (.aload_n 0, 1) := by decide +kernel
theorem dX7_found_46 : decode cX7_found 46 = .ok (.dup, 1) := by decide +kernel
theorem dX7_found_47 : decode cX7_found 47 = .ok (.getfield 138, 3) := by decide +kernel
theorem dX7_found_50 : decode cX7_found 50 = .ok (.iconst 1, 1) := by decide +kernel
theorem dX7_found_51 : decode cX7_found 51 = .ok (.iadd, 1) := by decide +kernel
theorem dX7_found_52 : decode cX7_found 52 = .ok (.putfield 138, 3) := by decide +kernel
theorem dX7_found_55 : decode cX7_found 55 = .ok (.iload_n 3, 1) := by decide +kernel
theorem dX7_found_56 : decode cX7_found 56 = .ok (.bipush 40, 2) := by decide +kernel
theorem dX7_found_58 : decode cX7_found 58 = .ok (.if_icmp .le 4, 3) := by decide +kernel
theorem dX7_found_61 : decode cX7_found 61 = .ok (.return_, 1) := by decide +kernel
theorem dX7_found_62 : decode cX7_found 62 = .ok (.aload_n 0, 1) := by decide +kernel
theorem dX7_found_63 : decode cX7_found 63 = .ok (.getfield 48, 3) := by decide +kernel
theorem dX7_found_66 : decode cX7_found 66 = .ok (.iload_n 3, 1) := by decide +kernel
theorem dX7_found_67 : decode cX7_found 67 = .ok (.iload_n 1, 1) := by decide +kernel
theorem dX7_found_68 : decode cX7_found 68 = .ok (.iastore, 1) := by decide +kernel
theorem dX7_found_69 : decode cX7_found 69 = .ok (.aload_n 0, 1) := by decide +kernel
theorem dX7_found_70 : decode cX7_found 70 = .ok (.getfield 51, 3) := by decide +kernel
theorem dX7_found_73 : decode cX7_found 73 = .ok (.iload_n 3, 1) := by decide +kernel
theorem dX7_found_74 : decode cX7_found 74 = .ok (.iload_n 2, 1) := by decide +kernel
theorem dX7_found_75 : decode cX7_found 75 = .ok (.iastore, 1) := by decide +kernel
theorem dX7_found_76 : decode cX7_found 76 = .ok (.iconst 0, 1) := by decide +kernel
theorem dX7_found_77 : decode cX7_found 77 = .ok (.istore 4, 2) := by decide +kernel
theorem dX7_found_79 : decode cX7_found 79 = .ok (.iload 4, 2) := by decide +kernel
theorem dX7_found_81 : decode cX7_found 81 = .ok (.iload_n 2, 1) := by decide +kernel
theorem dX7_found_82 : decode cX7_found 82 = .ok (.if_icmp .ge 27, 3) := by decide +kernel
theorem dX7_found_85 : decode cX7_found 85 = .ok (.aload_n 0, 1) := by decide +kernel
theorem dX7_found_86 : decode cX7_found 86 = .ok (.getfield 54, 3) := by decide +kernel
theorem dX7_found_89 : decode cX7_found 89 = .ok (.iconst 5, 1) := by decide +kernel
theorem dX7_found_90 : decode cX7_found 90 = .ok (.iload_n 3, 1) := by decide +kernel
theorem dX7_found_91 : decode cX7_found 91 = .ok (.imul, 1) := by decide +kernel
theorem dX7_found_92 : decode cX7_found 92 = .ok (.iload 4, 2) := by decide +kernel
theorem dX7_found_94 : decode cX7_found 94 = .ok (.iadd, 1) := by decide +kernel
theorem dX7_found_95 : decode cX7_found 95 = .ok (.aload_n 0, 1) := by decide +kernel
theorem dX7_found_96 : decode cX7_found 96 = .ok (.getfield 42, 3) := by decide +kernel
theorem dX7_found_99 : decode cX7_found 99 = .ok (.iload 4, 2) := by decide +kernel
theorem dX7_found_101 : decode cX7_found 101 = .ok (.iaload, 1) := by decide +kernel
theorem dX7_found_102 : decode cX7_found 102 = .ok (.iastore, 1) := by decide +kernel
theorem dX7_found_103 : decode cX7_found 103 = .ok (.iinc 4 1, 3) := by decide +kernel
theorem dX7_found_106 : decode cX7_found 106 = .ok (.goto (-27), 3) := by decide +kernel
theorem dX7_found_109 : decode cX7_found 109 = .ok (.iconst 0, 1) := by decide +kernel
theorem dX7_found_110 : decode cX7_found 110 = .ok (.istore 4, 2) := by decide +kernel
theorem dX7_found_112 : decode cX7_found 112 = .ok (.iload 4, 2) := by decide +kernel
theorem dX7_found_114 : decode cX7_found 114 = .ok (.aload_n 0, 1) := by decide +kernel
theorem dX7_found_115 : decode cX7_found 115 = .ok (.getfield 39, 3) := by decide +kernel
theorem dX7_found_118 : decode cX7_found 118 = .ok (.iconst 2, 1) := by decide +kernel
theorem dX7_found_119 : decode cX7_found 119 = .ok (.iaload, 1) := by decide +kernel
theorem dX7_found_120 : decode cX7_found 120 = .ok (.if_icmp .gt 30, 3) := by decide +kernel
theorem dX7_found_123 : decode cX7_found 123 = .ok (.aload_n 0, 1) := by decide +kernel
theorem dX7_found_124 : decode cX7_found 124 = .ok (.getfield 57, 3) := by decide +kernel
theorem dX7_found_127 : decode cX7_found 127 = .ok (.bipush 37, 2) := by decide +kernel
theorem dX7_found_129 : decode cX7_found 129 = .ok (.iload_n 3, 1) := by decide +kernel
theorem dX7_found_130 : decode cX7_found 130 = .ok (.imul, 1) := by decide +kernel
theorem dX7_found_131 : decode cX7_found 131 = .ok (.iload 4, 2) := by decide +kernel
theorem dX7_found_133 : decode cX7_found 133 = .ok (.iadd, 1) := by decide +kernel
theorem dX7_found_134 : decode cX7_found 134 = .ok (.aload_n 0, 1) := by decide +kernel
theorem dX7_found_135 : decode cX7_found 135 = .ok (.getfield 39, 3) := by decide +kernel
theorem dX7_found_138 : decode cX7_found 138 = .ok (.iconst 2, 1) := by decide +kernel
theorem dX7_found_139 : decode cX7_found 139 = .ok (.iload 4, 2) := by decide +kernel
theorem dX7_found_141 : decode cX7_found 141 = .ok (.iadd, 1) := by decide +kernel
theorem dX7_found_142 : decode cX7_found 142 = .ok (.iaload, 1) := by decide +kernel
theorem dX7_found_143 : decode cX7_found 143 = .ok (.iastore, 1) := by decide +kernel
theorem dX7_found_144 : decode cX7_found 144 = .ok (.iinc 4 1, 3) := by decide +kernel
theorem dX7_found_147 : decode cX7_found 147 = .ok (.goto (-35), 3) := by decide +kernel
theorem dX7_found_150 : decode cX7_found 150 = .ok (.return_, 1) := by decide +kernel
theorem dX7_copy_0 : decode cX7_copy 0 = .ok (.iload_n 2, 1) := by decide +kernel
theorem dX7_copy_1 : decode cX7_copy 1 = .ok (.bipush 40, 2) := by decide +kernel
theorem dX7_copy_3 : decode cX7_copy 3 = .ok (.if_icmp .le 4, 3) := by decide +kernel
theorem dX7_copy_6 : decode cX7_copy 6 = .ok (.return_, 1) := by decide +kernel
theorem dX7_copy_7 : decode cX7_copy 7 = .ok (.aload_n 0, 1) := by decide +kernel
theorem dX7_copy_8 : decode cX7_copy 8 = .ok (.getfield 48, 3) := by decide +kernel
theorem dX7_copy_11 : decode cX7_copy 11 = .ok (.iload_n 2, 1) := by decide +kernel
theorem dX7_copy_12 : decode cX7_copy 12 = .ok (.aload_n 0, 1) := by decide +kernel
theorem dX7_copy_13 : decode cX7_copy 13 = .ok (.getfield 48, 3) := by decide +kernel
theorem dX7_copy_16 : decode cX7_copy 16 = .ok (.iload_n 1, 1) := by decide +kernel
theorem dX7_copy_17 : decode cX7_copy 17 = .ok (.iaload, 1) := by decide +kernel
theorem dX7_copy_18 : decode cX7_copy 18 = .ok (.iastore, 1) := by decide +kernel
theorem dX7_copy_19 : decode cX7_copy 19 = .ok (.aload_n 0, 1) := by decide +kernel
theorem dX7_copy_20 : decode cX7_copy 20 = .ok (.getfield 51, 3) := by decide +kernel
theorem dX7_copy_23 : decode cX7_copy 23 = .ok (.iload_n 2, 1) := by decide +kernel
theorem dX7_copy_24 : decode cX7_copy 24 = .ok (.aload_n 0, 1) := by decide +kernel
theorem dX7_copy_25 : decode cX7_copy 25 = .ok (.getfield 51, 3) := by decide +kernel
theorem dX7_copy_28 : decode cX7_copy 28 = .ok (.iload_n 1, 1) := by decide +kernel
theorem dX7_copy_29 : decode cX7_copy 29 = .ok (.iaload, 1) := by decide +kernel
theorem dX7_copy_30 : decode cX7_copy 30 = .ok (.iastore, 1) := by decide +kernel
theorem dX7_copy_31 : decode cX7_copy 31 = .ok (.iconst 0, 1) := by decide +kernel
theorem dX7_copy_32 : decode cX7_copy 32 = .ok (.istore_n 3, 1) := by decide +kernel
theorem dX7_copy_33 : decode cX7_copy 33 = .ok (.iload_n 3, 1) := by decide +kernel
theorem dX7_copy_34 : decode cX7_copy 34 = .ok (.iconst 5, 1) := by decide +kernel
theorem dX7_copy_35 : decode cX7_copy 35 = .ok (.if_icmp .ge 29, 3) := by decide +kernel
theorem dX7_copy_38 : decode cX7_copy 38 = .ok (.aload_n 0, 1) := by decide +kernel
theorem dX7_copy_39 : decode cX7_copy 39 = .ok (.getfield 54, 3) := by decide +kernel
theorem dX7_copy_42 : decode cX7_copy 42 = .ok (.iconst 5, 1) := by decide +kernel
theorem dX7_copy_43 : decode cX7_copy 43 = .ok (.iload_n 2, 1) := by decide +kernel
theorem dX7_copy_44 : decode cX7_copy 44 = .ok (.imul, 1) := by decide +kernel
theorem dX7_copy_45 : decode cX7_copy 45 = .ok (.iload_n 3, 1) := by decide +kernel
theorem dX7_copy_46 : decode cX7_copy 46 = .ok (.iadd, 1) := by decide +kernel
theorem dX7_copy_47 : decode cX7_copy 47 = .ok (.aload_n 0, 1) := by decide +kernel
theorem dX7_copy_48 : decode cX7_copy 48 = .ok (.getfield 54, 3) := by decide +kernel
theorem dX7_copy_51 : decode cX7_copy 51 = .ok (.iconst 5, 1) := by decide +kernel
theorem dX7_copy_52 : decode cX7_copy 52 = .ok (.iload_n 1, 1) := by decide +kernel
theorem dX7_copy_53 : decode cX7_copy 53 = .ok (.imul, 1) := by decide +kernel
theorem dX7_copy_54 : decode cX7_copy 54 = .ok (.iload_n 3, 1) := by decide +kernel
theorem dX7_copy_55 : decode cX7_copy 55 = .ok (.iadd, 1) := by decide +kernel
theorem dX7_copy_56 : decode cX7_copy 56 = .ok (.iaload, 1) := by decide +kernel
theorem dX7_copy_57 : decode cX7_copy 57 = .ok (.iastore, 1) := by decide +kernel
theorem dX7_copy_58 : decode cX7_copy 58 = .ok (.iinc 3 1, 3) := by decide +kernel
theorem dX7_copy_61 : decode cX7_copy 61 = .ok (.goto (-28), 3) := by decide +kernel
theorem dX7_copy_64 : decode cX7_copy 64 = .ok (.iconst 0, 1) := by decide +kernel
theorem dX7_copy_65 : decode cX7_copy 65 = .ok (.istore_n 3, 1) := by decide +kernel
theorem dX7_copy_66 : decode cX7_copy 66 = .ok (.iload_n 3, 1) := by decide +kernel
theorem dX7_copy_67 : decode cX7_copy 67 = .ok (.bipush 37, 2) := by decide +kernel
theorem dX7_copy_69 : decode cX7_copy 69 = .ok (.if_icmp .ge 31, 3) := by decide +kernel
theorem dX7_copy_72 : decode cX7_copy 72 = .ok (.aload_n 0, 1) := by decide +kernel
theorem dX7_copy_73 : decode cX7_copy 73 = .ok (.getfield 57, 3) := by decide +kernel
theorem dX7_copy_76 : decode cX7_copy 76 = .ok (.bipush 37, 2) := by decide +kernel
theorem dX7_copy_78 : decode cX7_copy 78 = .ok (.iload_n 2, 1) := by decide +kernel
theorem dX7_copy_79 : decode cX7_copy 79 = .ok (.imul, 1) := by decide +kernel
theorem dX7_copy_80 : decode cX7_copy 80 = .ok (.iload_n 3, 1) := by decide +kernel
theorem dX7_copy_81 : decode cX7_copy 81 = .ok (.iadd, 1) := by decide +kernel
theorem dX7_copy_82 : decode cX7_copy 82 = .ok (.aload_n 0, 1) := by decide +kernel
theorem dX7_copy_83 : decode cX7_copy 83 = .ok (.getfield 57, 3) := by decide +kernel
theorem dX7_copy_86 : decode cX7_copy 86 = .ok (.bipush 37, 2) := by decide +kernel
theorem dX7_copy_88 : decode cX7_copy 88 = .ok (.iload_n 1, 1) := by decide +kernel
theorem dX7_copy_89 : decode cX7_copy 89 = .ok (.imul, 1) := by decide +kernel
theorem dX7_copy_90 : decode cX7_copy 90 = .ok (.iload_n 3, 1) := by decide +kernel
theorem dX7_copy_91 : decode cX7_copy 91 = .ok (.iadd, 1) := by decide +kernel
theorem dX7_copy_92 : decode cX7_copy 92 = .ok (.iaload, 1) := by decide +kernel
theorem dX7_copy_93 : decode cX7_copy 93 = .ok (.iastore, 1) := by decide +kernel
theorem dX7_copy_94 : decode cX7_copy 94 = .ok (.iinc 3 1, 3) := by decide +kernel
theorem dX7_copy_97 : decode cX7_copy 97 = .ok (.goto (-31), 3) := by decide +kernel
theorem dX7_copy_100 : decode cX7_copy 100 = .ok (.return_, 1) := by decide +kernel
theorem dX7_search_0 : decode cX7_search 0 = .ok (.aload_n 0, 1) := by decide +kernel
theorem dX7_search_1 : decode cX7_search 1 = .ok (.iconst 0, 1) := by decide +kernel
theorem dX7_search_2 : decode cX7_search 2 = .ok (.putfield 69, 3) := by decide +kernel
theorem dX7_search_5 : decode cX7_search 5 = .ok (.aload_n 0, 1) := by decide +kernel
theorem dX7_search_6 : decode cX7_search 6 = .ok (.iconst 0, 1) := by decide +kernel
theorem dX7_search_7 : decode cX7_search 7 = .ok (.putfield 138, 3) := by decide +kernel
theorem dX7_search_10 : decode cX7_search 10 = .ok (.aload_n 0, 1) := by decide +kernel
theorem dX7_search_11 : decode cX7_search 11 = .ok (.iconst 0, 1) := by decide +kernel
theorem dX7_search_12 : decode cX7_search 12 = .ok (.putfield 118, 3) := by decide +kernel
theorem dX7_search_15 : decode cX7_search 15 = .ok (.aload_n 0, 1) := by decide +kernel
theorem dX7_search_16 : decode cX7_search 16 = .ok (.iconst 1, 1) := by decide +kernel
theorem dX7_search_17 : decode cX7_search 17 = .ok (.putfield 127, 3) := by decide +kernel
theorem dX7_search_20 : decode cX7_search 20 = .ok (.iconst 1, 1) := by decide +kernel
theorem dX7_search_21 : decode cX7_search 21 = .ok (.istore_n 1, 1) := by decide +kernel
theorem dX7_search_22 : decode cX7_search 22 = .ok (.iconst 0, 1) := by decide +kernel
theorem dX7_search_23 : decode cX7_search 23 = .ok (.istore_n 2, 1) := by decide +kernel
theorem dX7_search_24 : decode cX7_search 24 = .ok (.iload_n 2, 1) := by decide +kernel
theorem dX7_search_25 : decode cX7_search 25 = .ok (.aload_n 0, 1) := by decide +kernel
theorem dX7_search_26 : decode cX7_search 26 = .ok (.getfield 80, 3) := by decide +kernel
theorem dX7_search_29 : decode cX7_search 29 = .ok (.if_icmp .ge 41, 3) := by decide +kernel
theorem dX7_search_32 : decode cX7_search 32 = .ok (.iload_n 1, 1) := by decide +kernel
theorem dX7_search_33 : decode cX7_search 33 = .ok (.ifCond .eq 37, 3) := by decide +kernel
theorem dX7_search_36 : decode cX7_search 36 = .ok (.iconst 0, 1) := by decide +kernel
theorem dX7_search_37 : decode cX7_search 37 = .ok (.istore_n 3, 1) := by decide +kernel
theorem dX7_search_38 : decode cX7_search 38 = .ok (.iload_n 3, 1) := by decide +kernel
theorem dX7_search_39 : decode cX7_search 39 = .ok (.aload_n 0, 1) := by decide +kernel
theorem dX7_search_40 : decode cX7_search 40 = .ok (.getfield 87, 3) := by decide +kernel
theorem dX7_search_43 : decode cX7_search 43 = .ok (.if_icmp .ge 21, 3) := by decide +kernel
theorem dX7_search_46 : decode cX7_search 46 = .ok (.iload_n 1, 1) := by decide +kernel
theorem dX7_search_47 : decode cX7_search 47 = .ok (.ifCond .eq 17, 3) := by decide +kernel
theorem dX7_search_50 : decode cX7_search 50 = .ok (.aload_n 0, 1) := by decide +kernel
theorem dX7_search_51 : decode cX7_search 51 = .ok (.iload_n 2, 1) := by decide +kernel
theorem dX7_search_52 : decode cX7_search 52 = .ok (.iconst 0, 1) := by decide +kernel
theorem dX7_search_53 : decode cX7_search 53 = .ok (.iload_n 3, 1) := by decide +kernel
theorem dX7_search_54 : decode cX7_search 54 = .ok (.invokevirtual 114, 3) := by decide +kernel
theorem dX7_search_57 : decode cX7_search 57 = .ok (.istore_n 1, 1) := by decide +kernel
theorem dX7_search_58 : decode cX7_search 58 = .ok (.iinc 3 1, 3) := by decide +kernel
theorem dX7_search_61 : decode cX7_search 61 = .ok (.goto (-23), 3) := by decide +kernel
theorem dX7_search_64 : decode cX7_search 64 = .ok (.iinc 2 1, 3) := by decide +kernel
theorem dX7_search_67 : decode cX7_search 67 = .ok (.goto (-43), 3) := by decide +kernel
theorem dX7_search_70 : decode cX7_search 70 = .ok (.aload_n 0, 1) := by decide +kernel
theorem dX7_search_71 : decode cX7_search 71 = .ok (.iconst 0, 1) := by decide +kernel
theorem dX7_search_72 : decode cX7_search 72 = .ok (.putfield 127, 3) := by decide +kernel
theorem dX7_search_75 : decode cX7_search 75 = .ok (.aload_n 0, 1) := by decide +kernel
theorem dX7_search_76 : decode cX7_search 76 = .ok (.aload_n 0, 1) := by decide +kernel
theorem dX7_search_77 : decode cX7_search 77 = .ok (.getfield 118, 3) := by decide +kernel
theorem dX7_search_80 : decode cX7_search 80 = .ok (.putfield 147, 3) := by decide +kernel
theorem dX7_search_83 : decode cX7_search 83 = .ok (.aload_n 0, 1) := by decide +kernel
theorem dX7_search_84 : decode cX7_search 84 = .ok (.aload_n 0, 1) := by decide +kernel
theorem dX7_search_85 : decode cX7_search 85 = .ok (.getfield 87, 3) := by decide +kernel
theorem dX7_search_88 : decode cX7_search 88 = .ok (.putfield 150, 3) := by decide +kernel
theorem dX7_search_91 : decode cX7_search 91 = .ok (.aload_n 0, 1) := by decide +kernel
theorem dX7_search_92 : decode cX7_search 92 = .ok (.getfield 138, 3) := by decide +kernel
theorem dX7_search_95 : decode cX7_search 95 = .ok (.istore_n 2, 1) := by decide +kernel
theorem dX7_search_96 : decode cX7_search 96 = .ok (.iload_n 1, 1) := by decide +kernel
theorem dX7_search_97 : decode cX7_search 97 = .ok (.ifCond .eq 9, 3) := by decide +kernel
theorem dX7_search_100 : decode cX7_search 100 = .ok (.iload_n 2, 1) := by decide +kernel
theorem dX7_search_101 : decode cX7_search 101 = .ok (.bipush 40, 2) := by decide +kernel
theorem dX7_search_103 : decode cX7_search 103 = .ok (.if_icmp .le 8, 3) := by decide +kernel
theorem dX7_search_106 : decode cX7_search 106 = .ok (.aload_n 0, 1) := by decide +kernel
theorem dX7_search_107 : decode cX7_search 107 = .ok (.iconst 0, 1) := by decide +kernel
theorem dX7_search_108 : decode cX7_search 108 = .ok (.putfield 138, 3) := by decide +kernel
theorem dX7_search_111 : decode cX7_search 111 = .ok (.aload_n 0, 1) := by decide +kernel
theorem dX7_search_112 : decode cX7_search 112 = .ok (.invokevirtual 153, 3) := by decide +kernel
theorem dX7_search_115 : decode cX7_search 115 = .ok (.iload_n 1, 1) := by decide +kernel
theorem dX7_search_116 : decode cX7_search 116 = .ok (.ifCond .ne 8, 3) := by decide +kernel
theorem dX7_search_119 : decode cX7_search 119 = .ok (.bipush (-2), 2) := by decide +kernel
theorem dX7_search_121 : decode cX7_search 121 = .ok (.goto 17, 3) := by decide +kernel
theorem dX7_search_124 : decode cX7_search 124 = .ok (.iload_n 2, 1) := by decide +kernel
theorem dX7_search_125 : decode cX7_search 125 = .ok (.bipush 40, 2) := by decide +kernel
theorem dX7_search_127 : decode cX7_search 127 = .ok (.if_icmp .le 7, 3) := by decide +kernel
theorem dX7_search_130 : decode cX7_search 130 = .ok (.iconst (-1), 1) := by decide +kernel
theorem dX7_search_131 : decode cX7_search 131 = .ok (.goto 7, 3) := by decide +kernel
theorem dX7_search_134 : decode cX7_search 134 = .ok (.aload_n 0, 1) := by decide +kernel
theorem dX7_search_135 : decode cX7_search 135 = .ok (.getfield 138, 3) := by decide +kernel
theorem dX7_search_138 : decode cX7_search 138 = .ok (.ireturn, 1) := by decide +kernel
theorem dX7_torn_0 : decode cX7_torn 0 = .ok (.aload_n 0, 1) := by decide +kernel
theorem dX7_torn_1 : decode cX7_torn 1 = .ok (.iload_n 1, 1) := by decide +kernel
theorem dX7_torn_2 : decode cX7_torn 2 = .ok (.invokevirtual 90, 3) := by decide +kernel
theorem dX7_torn_5 : decode cX7_torn 5 = .ok (.ifCond .ne 5, 3) := by decide +kernel
theorem dX7_torn_8 : decode cX7_torn 8 = .ok (.iconst 0, 1) := by decide +kernel
theorem dX7_torn_9 : decode cX7_torn 9 = .ok (.ireturn, 1) := by decide +kernel
theorem dX7_torn_10 : decode cX7_torn 10 = .ok (.aload_n 0, 1) := by decide +kernel
theorem dX7_torn_11 : decode cX7_torn 11 = .ok (.iconst 0, 1) := by decide +kernel
theorem dX7_torn_12 : decode cX7_torn 12 = .ok (.putfield 118, 3) := by decide +kernel
theorem dX7_torn_15 : decode cX7_torn 15 = .ok (.aload_n 0, 1) := by decide +kernel
theorem dX7_torn_16 : decode cX7_torn 16 = .ok (.iconst 0, 1) := by decide +kernel
theorem dX7_torn_17 : decode cX7_torn 17 = .ok (.putfield 124, 3) := by decide +kernel
theorem dX7_torn_20 : decode cX7_torn 20 = .ok (.iconst 1, 1) := by decide +kernel
theorem dX7_torn_21 : decode cX7_torn 21 = .ok (.istore_n 2, 1) := by decide +kernel
theorem dX7_torn_22 : decode cX7_torn 22 = .ok (.iconst 0, 1) := by decide +kernel
theorem dX7_torn_23 : decode cX7_torn 23 = .ok (.istore_n 3, 1) := by decide +kernel
theorem dX7_torn_24 : decode cX7_torn 24 = .ok (.iload_n 3, 1) := by decide +kernel
theorem dX7_torn_25 : decode cX7_torn 25 = .ok (.aload_n 0, 1) := by decide +kernel
theorem dX7_torn_26 : decode cX7_torn 26 = .ok (.getfield 80, 3) := by decide +kernel
theorem dX7_torn_29 : decode cX7_torn 29 = .ok (.if_icmp .ge 21, 3) := by decide +kernel
theorem dX7_torn_32 : decode cX7_torn 32 = .ok (.iload_n 2, 1) := by decide +kernel
theorem dX7_torn_33 : decode cX7_torn 33 = .ok (.ifCond .eq 17, 3) := by decide +kernel
theorem dX7_torn_36 : decode cX7_torn 36 = .ok (.aload_n 0, 1) := by decide +kernel
theorem dX7_torn_37 : decode cX7_torn 37 = .ok (.iload_n 3, 1) := by decide +kernel
theorem dX7_torn_38 : decode cX7_torn 38 = .ok (.iconst 0, 1) := by decide +kernel
theorem dX7_torn_39 : decode cX7_torn 39 = .ok (.iload_n 1, 1) := by decide +kernel
theorem dX7_torn_40 : decode cX7_torn 40 = .ok (.invokevirtual 114, 3) := by decide +kernel
theorem dX7_torn_43 : decode cX7_torn 43 = .ok (.istore_n 2, 1) := by decide +kernel
theorem dX7_torn_44 : decode cX7_torn 44 = .ok (.iinc 3 1, 3) := by decide +kernel
theorem dX7_torn_47 : decode cX7_torn 47 = .ok (.goto (-23), 3) := by decide +kernel
theorem dX7_torn_50 : decode cX7_torn 50 = .ok (.iload_n 2, 1) := by decide +kernel
theorem dX7_torn_51 : decode cX7_torn 51 = .ok (.ifCond .eq 10, 3) := by decide +kernel
theorem dX7_torn_54 : decode cX7_torn 54 = .ok (.aload_n 0, 1) := by decide +kernel
theorem dX7_torn_55 : decode cX7_torn 55 = .ok (.getfield 124, 3) := by decide +kernel
theorem dX7_torn_58 : decode cX7_torn 58 = .ok (.goto 4, 3) := by decide +kernel
theorem dX7_torn_61 : decode cX7_torn 61 = .ok (.iconst (-1), 1) := by decide +kernel
theorem dX7_torn_62 : decode cX7_torn 62 = .ok (.ireturn, 1) := by decide +kernel
theorem dX7_costOf_0 : decode cX7_costOf 0 = .ok (.iconst 0, 1) := by decide +kernel
theorem dX7_costOf_1 : decode cX7_costOf 1 = .ok (.istore_n 2, 1) := by decide +kernel
theorem dX7_costOf_2 : decode cX7_costOf 2 = .ok (.iconst 1, 1) := by decide +kernel
theorem dX7_costOf_3 : decode cX7_costOf 3 = .ok (.istore_n 3, 1) := by decide +kernel
theorem dX7_costOf_4 : decode cX7_costOf 4 = .ok (.iload_n 3, 1) := by decide +kernel
theorem dX7_costOf_5 : decode cX7_costOf 5 = .ok (.aload_n 0, 1) := by decide +kernel
theorem dX7_costOf_6 : decode cX7_costOf 6 = .ok (.getfield 51, 3) := by decide +kernel
theorem dX7_costOf_9 : decode cX7_costOf 9 = .ok (.iload_n 1, 1) := by decide +kernel
theorem dX7_costOf_10 : decode cX7_costOf 10 = .ok (.iaload, 1) := by decide +kernel
theorem dX7_costOf_11 : decode cX7_costOf 11 = .ok (.if_icmp .ge 52, 3) := by decide +kernel
theorem dX7_costOf_14 : decode cX7_costOf 14 = .ok (.aload_n 0, 1) := by decide +kernel
theorem dX7_costOf_15 : decode cX7_costOf 15 = .ok (.getfield 54, 3) := by decide +kernel
theorem dX7_costOf_18 : decode cX7_costOf 18 = .ok (.iconst 5, 1) := by decide +kernel
theorem dX7_costOf_19 : decode cX7_costOf 19 = .ok (.iload_n 1, 1) := by decide +kernel
theorem dX7_costOf_20 : decode cX7_costOf 20 = .ok (.imul, 1) := by decide +kernel
theorem dX7_costOf_21 : decode cX7_costOf 21 = .ok (.iload_n 3, 1) := by decide +kernel
theorem dX7_costOf_22 : decode cX7_costOf 22 = .ok (.iadd, 1) := by decide +kernel
theorem dX7_costOf_23 : decode cX7_costOf 23 = .ok (.iaload, 1) := by decide +kernel
theorem dX7_costOf_24 : decode cX7_costOf 24 = .ok (.aload_n 0, 1) := by decide +kernel
theorem dX7_costOf_25 : decode cX7_costOf 25 = .ok (.getfield 54, 3) := by decide +kernel
theorem dX7_costOf_28 : decode cX7_costOf 28 = .ok (.iconst 5, 1) := by decide +kernel
theorem dX7_costOf_29 : decode cX7_costOf 29 = .ok (.iload_n 1, 1) := by decide +kernel
theorem dX7_costOf_30 : decode cX7_costOf 30 = .ok (.imul, 1) := by decide +kernel
theorem dX7_costOf_31 : decode cX7_costOf 31 = .ok (.iload_n 3, 1) := by decide +kernel
theorem dX7_costOf_32 : decode cX7_costOf 32 = .ok (.iadd, 1) := by decide +kernel
theorem dX7_costOf_33 : decode cX7_costOf 33 = .ok (.iconst 1, 1) := by decide +kernel
theorem dX7_costOf_34 : decode cX7_costOf 34 = .ok (.isub, 1) := by decide +kernel
theorem dX7_costOf_35 : decode cX7_costOf 35 = .ok (.iaload, 1) := by decide +kernel
theorem dX7_costOf_36 : decode cX7_costOf 36 = .ok (.isub, 1) := by decide +kernel
theorem dX7_costOf_37 : decode cX7_costOf 37 = .ok (.iconst 1, 1) := by decide +kernel
theorem dX7_costOf_38 : decode cX7_costOf 38 = .ok (.isub, 1) := by decide +kernel
theorem dX7_costOf_39 : decode cX7_costOf 39 = .ok (.istore 4, 2) := by decide +kernel
theorem dX7_costOf_41 : decode cX7_costOf 41 = .ok (.iload_n 2, 1) := by decide +kernel
theorem dX7_costOf_42 : decode cX7_costOf 42 = .ok (.iload 4, 2) := by decide +kernel
theorem dX7_costOf_44 : decode cX7_costOf 44 = .ok (.ifCond .ge 9, 3) := by decide +kernel
theorem dX7_costOf_47 : decode cX7_costOf 47 = .ok (.iload 4, 2) := by decide +kernel
theorem dX7_costOf_49 : decode cX7_costOf 49 = .ok (.ineg, 1) := by decide +kernel
theorem dX7_costOf_50 : decode cX7_costOf 50 = .ok (.goto 5, 3) := by decide +kernel
theorem dX7_costOf_53 : decode cX7_costOf 53 = .ok (.iload 4, 2) := by decide +kernel
theorem dX7_costOf_55 : decode cX7_costOf 55 = .ok (.iadd, 1) := by decide +kernel
theorem dX7_costOf_56 : decode cX7_costOf 56 = .ok (.istore_n 2, 1) := by decide +kernel
theorem dX7_costOf_57 : decode cX7_costOf 57 = .ok (.iinc 3 1, 3) := by decide +kernel
theorem dX7_costOf_60 : decode cX7_costOf 60 = .ok (.goto (-56), 3) := by decide +kernel
theorem dX7_costOf_63 : decode cX7_costOf 63 = .ok (.iload_n 2, 1) := by decide +kernel
theorem dX7_costOf_64 : decode cX7_costOf 64 = .ok (.ireturn, 1) := by decide +kernel
theorem dX7_isFile_0 : decode cX7_isFile 0 = .ok (.aload_n 0, 1) := by decide +kernel
theorem dX7_isFile_1 : decode cX7_isFile 1 = .ok (.iload_n 1, 1) := by decide +kernel
theorem dX7_isFile_2 : decode cX7_isFile 2 = .ok (.ifCond .lt 11, 3) := by decide +kernel
theorem dX7_isFile_5 : decode cX7_isFile 5 = .ok (.iload_n 1, 1) := by decide +kernel
theorem dX7_isFile_6 : decode cX7_isFile 6 = .ok (.aload_n 0, 1) := by decide +kernel
theorem dX7_isFile_7 : decode cX7_isFile 7 = .ok (.getfield 138, 3) := by decide +kernel
theorem dX7_isFile_10 : decode cX7_isFile 10 = .ok (.if_icmp .lt 7, 3) := by decide +kernel
theorem dX7_isFile_13 : decode cX7_isFile 13 = .ok (.iconst 1, 1) := by decide +kernel
theorem dX7_isFile_14 : decode cX7_isFile 14 = .ok (.goto 4, 3) := by decide +kernel
theorem dX7_isFile_17 : decode cX7_isFile 17 = .ok (.iconst 0, 1) := by decide +kernel
theorem dX7_isFile_18 : decode cX7_isFile 18 = .ok (.putfield 69, 3) := by decide +kernel
theorem dX7_isFile_21 : decode cX7_isFile 21 = .ok (.aload_n 0, 1) := by decide +kernel
theorem dX7_isFile_22 : decode cX7_isFile 22 = .ok (.getfield 69, 3) := by decide +kernel
theorem dX7_isFile_25 : decode cX7_isFile 25 = .ok (.ifCond .ne 7, 3) := by decide +kernel
theorem dX7_isFile_28 : decode cX7_isFile 28 = .ok (.iconst 1, 1) := by decide +kernel
theorem dX7_isFile_29 : decode cX7_isFile 29 = .ok (.goto 4, 3) := by decide +kernel
theorem dX7_isFile_32 : decode cX7_isFile 32 = .ok (.iconst 0, 1) := by decide +kernel
theorem dX7_isFile_33 : decode cX7_isFile 33 = .ok (.ireturn, 1) := by decide +kernel
theorem dX7_file_0 : decode cX7_file 0 = .ok (.aload_n 0, 1) := by decide +kernel
theorem dX7_file_1 : decode cX7_file 1 = .ok (.iload_n 1, 1) := by decide +kernel
theorem dX7_file_2 : decode cX7_file 2 = .ok (.invokevirtual 156, 3) := by decide +kernel
theorem dX7_file_5 : decode cX7_file 5 = .ok (.ifCond .eq 20, 3) := by decide +kernel
theorem dX7_file_8 : decode cX7_file 8 = .ok (.aload_n 0, 1) := by decide +kernel
theorem dX7_file_9 : decode cX7_file 9 = .ok (.iload_n 2, 1) := by decide +kernel
theorem dX7_file_10 : decode cX7_file 10 = .ok (.ifCond .ge 7, 3) := by decide +kernel
theorem dX7_file_13 : decode cX7_file 13 = .ok (.iconst 1, 1) := by decide +kernel
theorem dX7_file_14 : decode cX7_file 14 = .ok (.goto 4, 3) := by decide +kernel
theorem dX7_file_17 : decode cX7_file 17 = .ok (.iconst 0, 1) := by decide +kernel
theorem dX7_file_18 : decode cX7_file 18 = .ok (.iconst 2, 1) := by decide +kernel
theorem dX7_file_19 : decode cX7_file 19 = .ok (.invokevirtual 76, 3) := by decide +kernel
theorem dX7_file_22 : decode cX7_file 22 = .ok (.ifCond .eq 5, 3) := by decide +kernel
theorem dX7_file_25 : decode cX7_file 25 = .ok (.iconst 0, 1) := by decide +kernel
theorem dX7_file_26 : decode cX7_file 26 = .ok (.ireturn, 1) := by decide +kernel
theorem dX7_file_27 : decode cX7_file 27 = .ok (.iload_n 2, 1) := by decide +kernel
theorem dX7_file_28 : decode cX7_file 28 = .ok (.tableswitch 125 0 4 #[36, 43, 53, 59, 118], 36) := by decide +kernel
theorem dX7_file_64 : decode cX7_file 64 = .ok (.aload_n 0, 1) := by decide +kernel
theorem dX7_file_65 : decode cX7_file 65 = .ok (.getfield 48, 3) := by decide +kernel
theorem dX7_file_68 : decode cX7_file 68 = .ok (.iload_n 1, 1) := by decide +kernel
theorem dX7_file_69 : decode cX7_file 69 = .ok (.iaload, 1) := by decide +kernel
theorem dX7_file_70 : decode cX7_file 70 = .ok (.ireturn, 1) := by decide +kernel
theorem dX7_file_71 : decode cX7_file 71 = .ok (.aload_n 0, 1) := by decide +kernel
theorem dX7_file_72 : decode cX7_file 72 = .ok (.getfield 57, 3) := by decide +kernel
theorem dX7_file_75 : decode cX7_file 75 = .ok (.bipush 37, 2) := by decide +kernel
theorem dX7_file_77 : decode cX7_file 77 = .ok (.iload_n 1, 1) := by decide +kernel
theorem dX7_file_78 : decode cX7_file 78 = .ok (.imul, 1) := by decide +kernel
theorem dX7_file_79 : decode cX7_file 79 = .ok (.iaload, 1) := by decide +kernel
theorem dX7_file_80 : decode cX7_file 80 = .ok (.ireturn, 1) := by decide +kernel
theorem dX7_file_81 : decode cX7_file 81 = .ok (.aload_n 0, 1) := by decide +kernel
theorem dX7_file_82 : decode cX7_file 82 = .ok (.iload_n 1, 1) := by decide +kernel
theorem dX7_file_83 : decode cX7_file 83 = .ok (.invokevirtual 159, 3) := by decide +kernel
theorem dX7_file_86 : decode cX7_file 86 = .ok (.ireturn, 1) := by decide +kernel
theorem dX7_file_87 : decode cX7_file 87 = .ok (.iconst 0, 1) := by decide +kernel
theorem dX7_file_88 : decode cX7_file 88 = .ok (.istore_n 3, 1) := by decide +kernel
theorem dX7_file_89 : decode cX7_file 89 = .ok (.iconst 0, 1) := by decide +kernel
theorem dX7_file_90 : decode cX7_file 90 = .ok (.istore 4, 2) := by decide +kernel
theorem dX7_file_92 : decode cX7_file 92 = .ok (.iload 4, 2) := by decide +kernel
theorem dX7_file_94 : decode cX7_file 94 = .ok (.aload_n 0, 1) := by decide +kernel
theorem dX7_file_95 : decode cX7_file 95 = .ok (.getfield 138, 3) := by decide +kernel
theorem dX7_file_98 : decode cX7_file 98 = .ok (.if_icmp .ge 37, 3) := by decide +kernel
theorem dX7_file_101 : decode cX7_file 101 = .ok (.iload_n 3, 1) := by decide +kernel
theorem dX7_file_102 : decode cX7_file 102 = .ok (.aload_n 0, 1) := by decide +kernel
theorem dX7_file_103 : decode cX7_file 103 = .ok (.getfield 54, 3) := by decide +kernel
theorem dX7_file_106 : decode cX7_file 106 = .ok (.iconst 5, 1) := by decide +kernel
theorem dX7_file_107 : decode cX7_file 107 = .ok (.iload 4, 2) := by decide +kernel
theorem dX7_file_109 : decode cX7_file 109 = .ok (.imul, 1) := by decide +kernel
theorem dX7_file_110 : decode cX7_file 110 = .ok (.iaload, 1) := by decide +kernel
theorem dX7_file_111 : decode cX7_file 111 = .ok (.aload_n 0, 1) := by decide +kernel
theorem dX7_file_112 : decode cX7_file 112 = .ok (.getfield 54, 3) := by decide +kernel
theorem dX7_file_115 : decode cX7_file 115 = .ok (.iconst 5, 1) := by decide +kernel
theorem dX7_file_116 : decode cX7_file 116 = .ok (.iload_n 1, 1) := by decide +kernel
theorem dX7_file_117 : decode cX7_file 117 = .ok (.imul, 1) := by decide +kernel
theorem dX7_file_118 : decode cX7_file 118 = .ok (.iaload, 1) := by decide +kernel
theorem dX7_file_119 : decode cX7_file 119 = .ok (.if_icmp .ne 7, 3) := by decide +kernel
theorem dX7_file_122 : decode cX7_file 122 = .ok (.iconst 1, 1) := by decide +kernel
theorem dX7_file_123 : decode cX7_file 123 = .ok (.goto 4, 3) := by decide +kernel
theorem dX7_file_126 : decode cX7_file 126 = .ok (.iconst 0, 1) := by decide +kernel
theorem dX7_file_127 : decode cX7_file 127 = .ok (.iadd, 1) := by decide +kernel
theorem dX7_file_128 : decode cX7_file 128 = .ok (.istore_n 3, 1) := by decide +kernel
theorem dX7_file_129 : decode cX7_file 129 = .ok (.iinc 4 1, 3) := by decide +kernel
theorem dX7_file_132 : decode cX7_file 132 = .ok (.goto (-40), 3) := by decide +kernel
theorem dX7_file_135 : decode cX7_file 135 = .ok (.iload_n 3, 1) := by decide +kernel
theorem dX7_file_136 : decode cX7_file 136 = .ok (.iconst 1, 1) := by decide +kernel
theorem dX7_file_137 : decode cX7_file 137 = .ok (.if_icmp .ne 7, 3) := by decide +kernel
theorem dX7_file_140 : decode cX7_file 140 = .ok (.iconst 1, 1) := by decide +kernel
theorem dX7_file_141 : decode cX7_file 141 = .ok (.goto 4, 3) := by decide +kernel
theorem dX7_file_144 : decode cX7_file 144 = .ok (.iconst 0, 1) := by decide +kernel
theorem dX7_file_145 : decode cX7_file 145 = .ok (.ireturn, 1) := by decide +kernel
theorem dX7_file_146 : decode cX7_file 146 = .ok (.aload_n 0, 1) := by decide +kernel
theorem dX7_file_147 : decode cX7_file 147 = .ok (.getfield 51, 3) := by decide +kernel
theorem dX7_file_150 : decode cX7_file 150 = .ok (.iload_n 1, 1) := by decide +kernel
theorem dX7_file_151 : decode cX7_file 151 = .ok (.iaload, 1) := by decide +kernel
theorem dX7_file_152 : decode cX7_file 152 = .ok (.ireturn, 1) := by decide +kernel
theorem dX7_file_153 : decode cX7_file 153 = .ok (.iload_n 2, 1) := by decide +kernel
theorem dX7_file_154 : decode cX7_file 154 = .ok (.iconst 5, 1) := by decide +kernel
theorem dX7_file_155 : decode cX7_file 155 = .ok (.isub, 1) := by decide +kernel
theorem dX7_file_156 : decode cX7_file 156 = .ok (.aload_n 0, 1) := by decide +kernel
theorem dX7_file_157 : decode cX7_file 157 = .ok (.getfield 51, 3) := by decide +kernel
theorem dX7_file_160 : decode cX7_file 160 = .ok (.iload_n 1, 1) := by decide +kernel
theorem dX7_file_161 : decode cX7_file 161 = .ok (.iaload, 1) := by decide +kernel
theorem dX7_file_162 : decode cX7_file 162 = .ok (.if_icmp .ge 18, 3) := by decide +kernel
theorem dX7_file_165 : decode cX7_file 165 = .ok (.aload_n 0, 1) := by decide +kernel
theorem dX7_file_166 : decode cX7_file 166 = .ok (.getfield 54, 3) := by decide +kernel
theorem dX7_file_169 : decode cX7_file 169 = .ok (.iconst 5, 1) := by decide +kernel
theorem dX7_file_170 : decode cX7_file 170 = .ok (.iload_n 1, 1) := by decide +kernel
theorem dX7_file_171 : decode cX7_file 171 = .ok (.imul, 1) := by decide +kernel
theorem dX7_file_172 : decode cX7_file 172 = .ok (.iload_n 2, 1) := by decide +kernel
theorem dX7_file_173 : decode cX7_file 173 = .ok (.iadd, 1) := by decide +kernel
theorem dX7_file_174 : decode cX7_file 174 = .ok (.iconst 5, 1) := by decide +kernel
theorem dX7_file_175 : decode cX7_file 175 = .ok (.isub, 1) := by decide +kernel
theorem dX7_file_176 : decode cX7_file 176 = .ok (.iaload, 1) := by decide +kernel
theorem dX7_file_177 : decode cX7_file 177 = .ok (.goto 4, 3) := by decide +kernel
theorem dX7_file_180 : decode cX7_file 180 = .ok (.iconst (-1), 1) := by decide +kernel
theorem dX7_file_181 : decode cX7_file 181 = .ok (.ireturn, 1) := by decide +kernel
theorem dX7_data_0 : decode cX7_data 0 = .ok (.aload_n 0, 1) := by decide +kernel
theorem dX7_data_1 : decode cX7_data 1 = .ok (.iload_n 1, 1) := by decide +kernel
theorem dX7_data_2 : decode cX7_data 2 = .ok (.invokevirtual 156, 3) := by decide +kernel
theorem dX7_data_5 : decode cX7_data 5 = .ok (.ifCond .ne 5, 3) := by decide +kernel
theorem dX7_data_8 : decode cX7_data 8 = .ok (.iconst 0, 1) := by decide +kernel
theorem dX7_data_9 : decode cX7_data 9 = .ok (.ireturn, 1) := by decide +kernel
theorem dX7_data_10 : decode cX7_data 10 = .ok (.iload_n 2, 1) := by decide +kernel
theorem dX7_data_11 : decode cX7_data 11 = .ok (.ifCond .lt 32, 3) := by decide +kernel
theorem dX7_data_14 : decode cX7_data 14 = .ok (.iload_n 2, 1) := by decide +kernel
theorem dX7_data_15 : decode cX7_data 15 = .ok (.aload_n 0, 1) := by decide +kernel
theorem dX7_data_16 : decode cX7_data 16 = .ok (.getfield 57, 3) := by decide +kernel
theorem dX7_data_19 : decode cX7_data 19 = .ok (.bipush 37, 2) := by decide +kernel
theorem dX7_data_21 : decode cX7_data 21 = .ok (.iload_n 1, 1) := by decide +kernel
theorem dX7_data_22 : decode cX7_data 22 = .ok (.imul, 1) := by decide +kernel
theorem dX7_data_23 : decode cX7_data 23 = .ok (.iaload, 1) := by decide +kernel
theorem dX7_data_24 : decode cX7_data 24 = .ok (.if_icmp .ge 19, 3) := by decide +kernel
theorem dX7_data_27 : decode cX7_data 27 = .ok (.aload_n 0, 1) := by decide +kernel
theorem dX7_data_28 : decode cX7_data 28 = .ok (.getfield 57, 3) := by decide +kernel
theorem dX7_data_31 : decode cX7_data 31 = .ok (.bipush 37, 2) := by decide +kernel
theorem dX7_data_33 : decode cX7_data 33 = .ok (.iload_n 1, 1) := by decide +kernel
theorem dX7_data_34 : decode cX7_data 34 = .ok (.imul, 1) := by decide +kernel
theorem dX7_data_35 : decode cX7_data 35 = .ok (.iconst 1, 1) := by decide +kernel
theorem dX7_data_36 : decode cX7_data 36 = .ok (.iadd, 1) := by decide +kernel
theorem dX7_data_37 : decode cX7_data 37 = .ok (.iload_n 2, 1) := by decide +kernel
theorem dX7_data_38 : decode cX7_data 38 = .ok (.iadd, 1) := by decide +kernel
theorem dX7_data_39 : decode cX7_data 39 = .ok (.iaload, 1) := by decide +kernel
theorem dX7_data_40 : decode cX7_data 40 = .ok (.goto 4, 3) := by decide +kernel
theorem dX7_data_43 : decode cX7_data 43 = .ok (.iconst (-1), 1) := by decide +kernel
theorem dX7_data_44 : decode cX7_data 44 = .ok (.ireturn, 1) := by decide +kernel
theorem dX7_coverAll_0 : decode cX7_coverAll 0 = .ok (.aload_n 0, 1) := by decide +kernel
theorem dX7_coverAll_1 : decode cX7_coverAll 1 = .ok (.iconst 0, 1) := by decide +kernel
theorem dX7_coverAll_2 : decode cX7_coverAll 2 = .ok (.putfield 162, 3) := by decide +kernel
theorem dX7_coverAll_5 : decode cX7_coverAll 5 = .ok (.aload_n 0, 1) := by decide +kernel
theorem dX7_coverAll_6 : decode cX7_coverAll 6 = .ok (.iconst 0, 1) := by decide +kernel
theorem dX7_coverAll_7 : decode cX7_coverAll 7 = .ok (.putfield 165, 3) := by decide +kernel
theorem dX7_coverAll_10 : decode cX7_coverAll 10 = .ok (.aload_n 0, 1) := by decide +kernel
theorem dX7_coverAll_11 : decode cX7_coverAll 11 = .ok (.iconst 0, 1) := by decide +kernel
theorem dX7_coverAll_12 : decode cX7_coverAll 12 = .ok (.putfield 168, 3) := by decide +kernel
theorem dX7_coverAll_15 : decode cX7_coverAll 15 = .ok (.aload_n 0, 1) := by decide +kernel
theorem dX7_coverAll_16 : decode cX7_coverAll 16 = .ok (.iconst 0, 1) := by decide +kernel
theorem dX7_coverAll_17 : decode cX7_coverAll 17 = .ok (.putfield 171, 3) := by decide +kernel
theorem dX7_coverAll_20 : decode cX7_coverAll 20 = .ok (.iconst 0, 1) := by decide +kernel
theorem dX7_coverAll_21 : decode cX7_coverAll 21 = .ok (.istore_n 1, 1) := by decide +kernel
theorem dX7_coverAll_22 : decode cX7_coverAll 22 = .ok (.iload_n 1, 1) := by decide +kernel
theorem dX7_coverAll_23 : decode cX7_coverAll 23 = .ok (.aload_n 0, 1) := by decide +kernel
theorem dX7_coverAll_24 : decode cX7_coverAll 24 = .ok (.getfield 138, 3) := by decide +kernel
theorem dX7_coverAll_27 : decode cX7_coverAll 27 = .ok (.if_icmp .ge 57, 3) := by decide +kernel
theorem dX7_coverAll_30 : decode cX7_coverAll 30 = .ok (.iload_n 1, 1) := by decide +kernel
theorem dX7_coverAll_31 : decode cX7_coverAll 31 = .ok (.ifCond .le 27, 3) := by decide +kernel
theorem dX7_coverAll_34 : decode cX7_coverAll 34 = .ok (.aload_n 0, 1) := by decide +kernel
theorem dX7_coverAll_35 : decode cX7_coverAll 35 = .ok (.getfield 54, 3) := by decide +kernel
theorem dX7_coverAll_38 : decode cX7_coverAll 38 = .ok (.iconst 5, 1) := by decide +kernel
theorem dX7_coverAll_39 : decode cX7_coverAll 39 = .ok (.iload_n 1, 1) := by decide +kernel
theorem dX7_coverAll_40 : decode cX7_coverAll 40 = .ok (.imul, 1) := by decide +kernel
theorem dX7_coverAll_41 : decode cX7_coverAll 41 = .ok (.iaload, 1) := by decide +kernel
theorem dX7_coverAll_42 : decode cX7_coverAll 42 = .ok (.aload_n 0, 1) := by decide +kernel
theorem dX7_coverAll_43 : decode cX7_coverAll 43 = .ok (.getfield 54, 3) := by decide +kernel
theorem dX7_coverAll_46 : decode cX7_coverAll 46 = .ok (.iconst 5, 1) := by decide +kernel
theorem dX7_coverAll_47 : decode cX7_coverAll 47 = .ok (.iload_n 1, 1) := by decide +kernel
theorem dX7_coverAll_48 : decode cX7_coverAll 48 = .ok (.imul, 1) := by decide +kernel
theorem dX7_coverAll_49 : decode cX7_coverAll 49 = .ok (.iconst 5, 1) := by decide +kernel
theorem dX7_coverAll_50 : decode cX7_coverAll 50 = .ok (.isub, 1) := by decide +kernel
theorem dX7_coverAll_51 : decode cX7_coverAll 51 = .ok (.iaload, 1) := by decide +kernel
theorem dX7_coverAll_52 : decode cX7_coverAll 52 = .ok (.if_icmp .ne 6, 3) := by decide +kernel
theorem dX7_coverAll_55 : decode cX7_coverAll 55 = .ok (.goto 23, 3) := by decide +kernel
theorem dX7_coverAll_58 : decode cX7_coverAll 58 = .ok (.aload_n 0, 1) := by decide +kernel
theorem dX7_coverAll_59 : decode cX7_coverAll 59 = .ok (.getfield 60, 3) := by decide +kernel
theorem dX7_coverAll_62 : decode cX7_coverAll 62 = .ok (.aload_n 0, 1) := by decide +kernel
theorem dX7_coverAll_63 : decode cX7_coverAll 63 = .ok (.getfield 162, 3) := by decide +kernel
theorem dX7_coverAll_66 : decode cX7_coverAll 66 = .ok (.iload_n 1, 1) := by decide +kernel
theorem dX7_coverAll_67 : decode cX7_coverAll 67 = .ok (.iastore, 1) := by decide +kernel
theorem dX7_coverAll_68 : decode cX7_coverAll 68 = .ok (.aload_n 0, 1) := by decide +kernel
theorem dX7_coverAll_69 : decode cX7_coverAll 69 = .ok (.dup, 1) := by decide +kernel
theorem dX7_coverAll_70 : decode cX7_coverAll 70 = .ok (.getfield 162, 3) := by decide +kernel
theorem dX7_coverAll_73 : decode cX7_coverAll 73 = .ok (.iconst 1, 1) := by decide +kernel
theorem dX7_coverAll_74 : decode cX7_coverAll 74 = .ok (.iadd, 1) := by decide +kernel
theorem dX7_coverAll_75 : decode cX7_coverAll 75 = .ok (.putfield 162, 3) := by decide +kernel
theorem dX7_coverAll_78 : decode cX7_coverAll 78 = .ok (.iinc 1 1, 3) := by decide +kernel
theorem dX7_coverAll_81 : decode cX7_coverAll 81 = .ok (.goto (-59), 3) := by decide +kernel
theorem dX7_coverAll_84 : decode cX7_coverAll 84 = .ok (.aload_n 0, 1) := by decide +kernel
theorem dX7_coverAll_85 : decode cX7_coverAll 85 = .ok (.getfield 60, 3) := by decide +kernel
theorem dX7_coverAll_88 : decode cX7_coverAll 88 = .ok (.aload_n 0, 1) := by decide +kernel
theorem dX7_coverAll_89 : decode cX7_coverAll 89 = .ok (.getfield 162, 3) := by decide +kernel
theorem dX7_coverAll_92 : decode cX7_coverAll 92 = .ok (.aload_n 0, 1) := by decide +kernel
theorem dX7_coverAll_93 : decode cX7_coverAll 93 = .ok (.getfield 138, 3) := by decide +kernel
theorem dX7_coverAll_96 : decode cX7_coverAll 96 = .ok (.iastore, 1) := by decide +kernel
theorem dX7_coverAll_97 : decode cX7_coverAll 97 = .ok (.aload_n 0, 1) := by decide +kernel
theorem dX7_coverAll_98 : decode cX7_coverAll 98 = .ok (.aload_n 0, 1) := by decide +kernel
theorem dX7_coverAll_99 : decode cX7_coverAll 99 = .ok (.getfield 162, 3) := by decide +kernel
theorem dX7_coverAll_102 : decode cX7_coverAll 102 = .ok (.bipush 6, 2) := by decide +kernel
theorem dX7_coverAll_104 : decode cX7_coverAll 104 = .ok (.if_icmp .gt 7, 3) := by decide +kernel
theorem dX7_coverAll_107 : decode cX7_coverAll 107 = .ok (.iconst 1, 1) := by decide +kernel
theorem dX7_coverAll_108 : decode cX7_coverAll 108 = .ok (.goto 4, 3) := by decide +kernel
theorem dX7_coverAll_111 : decode cX7_coverAll 111 = .ok (.iconst 0, 1) := by decide +kernel
theorem dX7_coverAll_112 : decode cX7_coverAll 112 = .ok (.putfield 174, 3) := by decide +kernel
theorem dX7_coverAll_115 : decode cX7_coverAll 115 = .ok (.iconst 0, 1) := by decide +kernel
theorem dX7_coverAll_116 : decode cX7_coverAll 116 = .ok (.istore_n 1, 1) := by decide +kernel
theorem dX7_coverAll_117 : decode cX7_coverAll 117 = .ok (.iload_n 1, 1) := by decide +kernel
theorem dX7_coverAll_118 : decode cX7_coverAll 118 = .ok (.bipush 6, 2) := by decide +kernel
theorem dX7_coverAll_120 : decode cX7_coverAll 120 = .ok (.if_icmp .ge 16, 3) := by decide +kernel
theorem dX7_coverAll_123 : decode cX7_coverAll 123 = .ok (.aload_n 0, 1) := by decide +kernel
theorem dX7_coverAll_124 : decode cX7_coverAll 124 = .ok (.getfield 66, 3) := by decide +kernel
theorem dX7_coverAll_127 : decode cX7_coverAll 127 = .ok (.iload_n 1, 1) := by decide +kernel
theorem dX7_coverAll_128 : decode cX7_coverAll 128 = .ok (.iconst (-1), 1) := by decide +kernel
theorem dX7_coverAll_129 : decode cX7_coverAll 129 = .ok (.iastore, 1) := by decide +kernel
theorem dX7_coverAll_130 : decode cX7_coverAll 130 = .ok (.iinc 1 1, 3) := by decide +kernel
theorem dX7_coverAll_133 : decode cX7_coverAll 133 = .ok (.goto (-16), 3) := by decide +kernel
theorem dX7_coverAll_136 : decode cX7_coverAll 136 = .ok (.aload_n 0, 1) := by decide +kernel
theorem dX7_coverAll_137 : decode cX7_coverAll 137 = .ok (.getfield 174, 3) := by decide +kernel
theorem dX7_coverAll_140 : decode cX7_coverAll 140 = .ok (.ifCond .eq 12, 3) := by decide +kernel
theorem dX7_coverAll_143 : decode cX7_coverAll 143 = .ok (.aload_n 0, 1) := by decide +kernel
theorem dX7_coverAll_144 : decode cX7_coverAll 144 = .ok (.iconst 0, 1) := by decide +kernel
theorem dX7_coverAll_145 : decode cX7_coverAll 145 = .ok (.iconst 0, 1) := by decide +kernel
theorem dX7_coverAll_146 : decode cX7_coverAll 146 = .ok (.iconst 0, 1) := by decide +kernel
theorem dX7_coverAll_147 : decode cX7_coverAll 147 = .ok (.iconst 0, 1) := by decide +kernel
theorem dX7_coverAll_148 : decode cX7_coverAll 148 = .ok (.iconst 0, 1) := by decide +kernel
theorem dX7_coverAll_149 : decode cX7_coverAll 149 = .ok (.invokevirtual 177, 3) := by decide +kernel
theorem dX7_coverAll_152 : decode cX7_coverAll 152 = .ok (.return_, 1) := by decide +kernel
theorem dX7_tries_0 : decode cX7_tries 0 = .ok (.iload_n 1, 1) := by decide +kernel
theorem dX7_tries_1 : decode cX7_tries 1 = .ok (.aload_n 0, 1) := by decide +kernel
theorem dX7_tries_2 : decode cX7_tries 2 = .ok (.getfield 162, 3) := by decide +kernel
theorem dX7_tries_5 : decode cX7_tries 5 = .ok (.if_icmp .ne 125, 3) := by decide +kernel
theorem dX7_tries_8 : decode cX7_tries 8 = .ok (.iload_n 3, 1) := by decide +kernel
theorem dX7_tries_9 : decode cX7_tries 9 = .ok (.aload_n 0, 1) := by decide +kernel
theorem dX7_tries_10 : decode cX7_tries 10 = .ok (.getfield 165, 3) := by decide +kernel
theorem dX7_tries_13 : decode cX7_tries 13 = .ok (.if_icmp .eq 19, 3) := by decide +kernel
theorem dX7_tries_16 : decode cX7_tries 16 = .ok (.iload_n 3, 1) := by decide +kernel
theorem dX7_tries_17 : decode cX7_tries 17 = .ok (.aload_n 0, 1) := by decide +kernel
theorem dX7_tries_18 : decode cX7_tries 18 = .ok (.getfield 165, 3) := by decide +kernel
theorem dX7_tries_21 : decode cX7_tries 21 = .ok (.if_icmp .le 7, 3) := by decide +kernel
theorem dX7_tries_24 : decode cX7_tries 24 = .ok (.iconst 1, 1) := by decide +kernel
theorem dX7_tries_25 : decode cX7_tries 25 = .ok (.goto 47, 3) := by decide +kernel
theorem dX7_tries_28 : decode cX7_tries 28 = .ok (.iconst 0, 1) := by decide +kernel
theorem dX7_tries_29 : decode cX7_tries 29 = .ok (.goto 43, 3) := by decide +kernel
theorem dX7_tries_32 : decode cX7_tries 32 = .ok (.iload 4, 2) := by decide +kernel
theorem dX7_tries_34 : decode cX7_tries 34 = .ok (.aload_n 0, 1) := by decide +kernel
theorem dX7_tries_35 : decode cX7_tries 35 = .ok (.getfield 168, 3) := by decide +kernel
theorem dX7_tries_38 : decode cX7_tries 38 = .ok (.if_icmp .eq 20, 3) := by decide +kernel
theorem dX7_tries_41 : decode cX7_tries 41 = .ok (.iload 4, 2) := by decide +kernel
theorem dX7_tries_43 : decode cX7_tries 43 = .ok (.aload_n 0, 1) := by decide +kernel
theorem dX7_tries_44 : decode cX7_tries 44 = .ok (.getfield 168, 3) := by decide +kernel
theorem dX7_tries_47 : decode cX7_tries 47 = .ok (.if_icmp .ge 7, 3) := by decide +kernel
theorem dX7_tries_50 : decode cX7_tries 50 = .ok (.iconst 1, 1) := by decide +kernel
theorem dX7_tries_51 : decode cX7_tries 51 = .ok (.goto 21, 3) := by decide +kernel
theorem dX7_tries_54 : decode cX7_tries 54 = .ok (.iconst 0, 1) := by decide +kernel
theorem dX7_tries_55 : decode cX7_tries 55 = .ok (.goto 17, 3) := by decide +kernel
theorem dX7_tries_58 : decode cX7_tries 58 = .ok (.iload 5, 2) := by decide +kernel
theorem dX7_tries_60 : decode cX7_tries 60 = .ok (.aload_n 0, 1) := by decide +kernel
theorem dX7_tries_61 : decode cX7_tries 61 = .ok (.getfield 171, 3) := by decide +kernel
theorem dX7_tries_64 : decode cX7_tries 64 = .ok (.if_icmp .ge 7, 3) := by decide +kernel
theorem dX7_tries_67 : decode cX7_tries 67 = .ok (.iconst 1, 1) := by decide +kernel
theorem dX7_tries_68 : decode cX7_tries 68 = .ok (.goto 4, 3) := by decide +kernel
theorem dX7_tries_71 : decode cX7_tries 71 = .ok (.iconst 0, 1) := by decide +kernel
theorem dX7_tries_72 : decode cX7_tries 72 = .ok (.istore 6, 2) := by decide +kernel
theorem dX7_tries_74 : decode cX7_tries 74 = .ok (.iload 6, 2) := by decide +kernel
theorem dX7_tries_76 : decode cX7_tries 76 = .ok (.ifCond .ne 4, 3) := by decide +kernel
theorem dX7_tries_79 : decode cX7_tries 79 = .ok (.return_, 1) := by decide +kernel
theorem dX7_tries_80 : decode cX7_tries 80 = .ok (.aload_n 0, 1) := by decide +kernel
theorem dX7_tries_81 : decode cX7_tries 81 = .ok (.iload_n 3, 1) := by decide +kernel
theorem dX7_tries_82 : decode cX7_tries 82 = .ok (.putfield 165, 3) := by decide +kernel
theorem dX7_tries_85 : decode cX7_tries 85 = .ok (.aload_n 0, 1) := by decide +kernel
theorem dX7_tries_86 : decode cX7_tries 86 = .ok (.iload 4, 2) := by decide +kernel
theorem dX7_tries_88 : decode cX7_tries 88 = .ok (.putfield 168, 3) := by decide +kernel
theorem dX7_tries_91 : decode cX7_tries 91 = .ok (.aload_n 0, 1) := by decide +kernel
theorem dX7_tries_92 : decode cX7_tries 92 = .ok (.iload 5, 2) := by decide +kernel
theorem dX7_tries_94 : decode cX7_tries 94 = .ok (.putfield 171, 3) := by decide +kernel
theorem dX7_tries_97 : decode cX7_tries 97 = .ok (.iconst 0, 1) := by decide +kernel
theorem dX7_tries_98 : decode cX7_tries 98 = .ok (.istore 7, 2) := by decide +kernel
theorem dX7_tries_100 : decode cX7_tries 100 = .ok (.iload 7, 2) := by decide +kernel
theorem dX7_tries_102 : decode cX7_tries 102 = .ok (.aload_n 0, 1) := by decide +kernel
theorem dX7_tries_103 : decode cX7_tries 103 = .ok (.getfield 162, 3) := by decide +kernel
theorem dX7_tries_106 : decode cX7_tries 106 = .ok (.if_icmp .ge 23, 3) := by decide +kernel
theorem dX7_tries_109 : decode cX7_tries 109 = .ok (.aload_n 0, 1) := by decide +kernel
theorem dX7_tries_110 : decode cX7_tries 110 = .ok (.getfield 66, 3) := by decide +kernel
theorem dX7_tries_113 : decode cX7_tries 113 = .ok (.iload 7, 2) := by decide +kernel
theorem dX7_tries_115 : decode cX7_tries 115 = .ok (.aload_n 0, 1) := by decide +kernel
theorem dX7_tries_116 : decode cX7_tries 116 = .ok (.getfield 63, 3) := by decide +kernel
theorem dX7_tries_119 : decode cX7_tries 119 = .ok (.iload 7, 2) := by decide +kernel
theorem dX7_tries_121 : decode cX7_tries 121 = .ok (.iaload, 1) := by decide +kernel
theorem dX7_tries_122 : decode cX7_tries 122 = .ok (.iastore, 1) := by decide +kernel
theorem dX7_tries_123 : decode cX7_tries 123 = .ok (.iinc 7 1, 3) := by decide +kernel
theorem dX7_tries_126 : decode cX7_tries 126 = .ok (.goto (-26), 3) := by decide +kernel
theorem dX7_tries_129 : decode cX7_tries 129 = .ok (.return_, 1) := by decide +kernel
theorem dX7_tries_130 : decode cX7_tries 130 = .ok (.aload_n 0, 1) := by decide +kernel
theorem dX7_tries_131 : decode cX7_tries 131 = .ok (.getfield 60, 3) := by decide +kernel
theorem dX7_tries_134 : decode cX7_tries 134 = .ok (.iload_n 1, 1) := by decide +kernel
theorem dX7_tries_135 : decode cX7_tries 135 = .ok (.iaload, 1) := by decide +kernel
theorem dX7_tries_136 : decode cX7_tries 136 = .ok (.istore 6, 2) := by decide +kernel
theorem dX7_tries_138 : decode cX7_tries 138 = .ok (.iload 6, 2) := by decide +kernel
theorem dX7_tries_140 : decode cX7_tries 140 = .ok (.aload_n 0, 1) := by decide +kernel
theorem dX7_tries_141 : decode cX7_tries 141 = .ok (.getfield 60, 3) := by decide +kernel
theorem dX7_tries_144 : decode cX7_tries 144 = .ok (.iload_n 1, 1) := by decide +kernel
theorem dX7_tries_145 : decode cX7_tries 145 = .ok (.iconst 1, 1) := by decide +kernel
theorem dX7_tries_146 : decode cX7_tries 146 = .ok (.iadd, 1) := by decide +kernel
theorem dX7_tries_147 : decode cX7_tries 147 = .ok (.iaload, 1) := by decide +kernel
theorem dX7_tries_148 : decode cX7_tries 148 = .ok (.if_icmp .ge 103, 3) := by decide +kernel
theorem dX7_tries_151 : decode cX7_tries 151 = .ok (.iconst 0, 1) := by decide +kernel
theorem dX7_tries_152 : decode cX7_tries 152 = .ok (.istore 7, 2) := by decide +kernel
theorem dX7_tries_154 : decode cX7_tries 154 = .ok (.iconst 0, 1) := by decide +kernel
theorem dX7_tries_155 : decode cX7_tries 155 = .ok (.istore 8, 2) := by decide +kernel
theorem dX7_tries_157 : decode cX7_tries 157 = .ok (.iload 8, 2) := by decide +kernel
theorem dX7_tries_159 : decode cX7_tries 159 = .ok (.aload_n 0, 1) := by decide +kernel
theorem dX7_tries_160 : decode cX7_tries 160 = .ok (.getfield 51, 3) := by decide +kernel
theorem dX7_tries_163 : decode cX7_tries 163 = .ok (.iload 6, 2) := by decide +kernel
theorem dX7_tries_165 : decode cX7_tries 165 = .ok (.iaload, 1) := by decide +kernel
theorem dX7_tries_166 : decode cX7_tries 166 = .ok (.if_icmp .ge 28, 3) := by decide +kernel
theorem dX7_tries_169 : decode cX7_tries 169 = .ok (.iload 7, 2) := by decide +kernel
theorem dX7_tries_171 : decode cX7_tries 171 = .ok (.iconst 1, 1) := by decide +kernel
theorem dX7_tries_172 : decode cX7_tries 172 = .ok (.aload_n 0, 1) := by decide +kernel
theorem dX7_tries_173 : decode cX7_tries 173 = .ok (.getfield 54, 3) := by decide +kernel
theorem dX7_tries_176 : decode cX7_tries 176 = .ok (.iconst 5, 1) := by decide +kernel
theorem dX7_tries_177 : decode cX7_tries 177 = .ok (.iload 6, 2) := by decide +kernel
theorem dX7_tries_179 : decode cX7_tries 179 = .ok (.imul, 1) := by decide +kernel
theorem dX7_tries_180 : decode cX7_tries 180 = .ok (.iload 8, 2) := by decide +kernel
theorem dX7_tries_182 : decode cX7_tries 182 = .ok (.iadd, 1) := by decide +kernel
theorem dX7_tries_183 : decode cX7_tries 183 = .ok (.iaload, 1) := by decide +kernel
theorem dX7_tries_184 : decode cX7_tries 184 = .ok (.ishl, 1) := by decide +kernel
theorem dX7_tries_185 : decode cX7_tries 185 = .ok (.ior, 1) := by decide +kernel
theorem dX7_tries_186 : decode cX7_tries 186 = .ok (.istore 7, 2) := by decide +kernel
theorem dX7_tries_188 : decode cX7_tries 188 = .ok (.iinc 8 1, 3) := by decide +kernel
theorem dX7_tries_191 : decode cX7_tries 191 = .ok (.goto (-34), 3) := by decide +kernel
theorem dX7_tries_194 : decode cX7_tries 194 = .ok (.iload_n 2, 1) := by decide +kernel
theorem dX7_tries_195 : decode cX7_tries 195 = .ok (.iload 7, 2) := by decide +kernel
theorem dX7_tries_197 : decode cX7_tries 197 = .ok (.iand, 1) := by decide +kernel
theorem dX7_tries_198 : decode cX7_tries 198 = .ok (.ifCond .eq 6, 3) := by decide +kernel
theorem dX7_tries_201 : decode cX7_tries 201 = .ok (.goto 44, 3) := by decide +kernel
theorem dX7_tries_204 : decode cX7_tries 204 = .ok (.aload_n 0, 1) := by decide +kernel
theorem dX7_tries_205 : decode cX7_tries 205 = .ok (.getfield 63, 3) := by decide +kernel
theorem dX7_tries_208 : decode cX7_tries 208 = .ok (.iload_n 1, 1) := by decide +kernel
theorem dX7_tries_209 : decode cX7_tries 209 = .ok (.iload 6, 2) := by decide +kernel
theorem dX7_tries_211 : decode cX7_tries 211 = .ok (.iastore, 1) := by decide +kernel
theorem dX7_tries_212 : decode cX7_tries 212 = .ok (.aload_n 0, 1) := by decide +kernel
theorem dX7_tries_213 : decode cX7_tries 213 = .ok (.iload_n 1, 1) := by decide +kernel
theorem dX7_tries_214 : decode cX7_tries 214 = .ok (.iconst 1, 1) := by decide +kernel
theorem dX7_tries_215 : decode cX7_tries 215 = .ok (.iadd, 1) := by decide +kernel
theorem dX7_tries_216 : decode cX7_tries 216 = .ok (.iload_n 2, 1) := by decide +kernel
theorem dX7_tries_217 : decode cX7_tries 217 = .ok (.iload 7, 2) := by decide +kernel
theorem dX7_tries_219 : decode cX7_tries 219 = .ok (.ior, 1) := by decide +kernel
theorem dX7_tries_220 : decode cX7_tries 220 = .ok (.iload_n 3, 1) := by decide +kernel
theorem dX7_tries_221 : decode cX7_tries 221 = .ok (.aload_n 0, 1) := by decide +kernel
theorem dX7_tries_222 : decode cX7_tries 222 = .ok (.getfield 51, 3) := by decide +kernel
theorem dX7_tries_225 : decode cX7_tries 225 = .ok (.iload 6, 2) := by decide +kernel
theorem dX7_tries_227 : decode cX7_tries 227 = .ok (.iaload, 1) := by decide +kernel
theorem dX7_tries_228 : decode cX7_tries 228 = .ok (.iadd, 1) := by decide +kernel
theorem dX7_tries_229 : decode cX7_tries 229 = .ok (.iload 4, 2) := by decide +kernel
theorem dX7_tries_231 : decode cX7_tries 231 = .ok (.aload_n 0, 1) := by decide +kernel
theorem dX7_tries_232 : decode cX7_tries 232 = .ok (.iload 6, 2) := by decide +kernel
theorem dX7_tries_234 : decode cX7_tries 234 = .ok (.invokevirtual 159, 3) := by decide +kernel
theorem dX7_tries_237 : decode cX7_tries 237 = .ok (.iadd, 1) := by decide +kernel
theorem dX7_tries_238 : decode cX7_tries 238 = .ok (.iload 5, 2) := by decide +kernel
theorem dX7_tries_240 : decode cX7_tries 240 = .ok (.iconst 1, 1) := by decide +kernel
theorem dX7_tries_241 : decode cX7_tries 241 = .ok (.iadd, 1) := by decide +kernel
theorem dX7_tries_242 : decode cX7_tries 242 = .ok (.invokevirtual 177, 3) := by decide +kernel
theorem dX7_tries_245 : decode cX7_tries 245 = .ok (.iinc 6 1, 3) := by decide +kernel
theorem dX7_tries_248 : decode cX7_tries 248 = .ok (.goto (-110), 3) := by decide +kernel
theorem dX7_tries_251 : decode cX7_tries 251 = .ok (.aload_n 0, 1) := by decide +kernel
theorem dX7_tries_252 : decode cX7_tries 252 = .ok (.getfield 63, 3) := by decide +kernel
theorem dX7_tries_255 : decode cX7_tries 255 = .ok (.iload_n 1, 1) := by decide +kernel
theorem dX7_tries_256 : decode cX7_tries 256 = .ok (.iconst (-1), 1) := by decide +kernel
theorem dX7_tries_257 : decode cX7_tries 257 = .ok (.iastore, 1) := by decide +kernel
theorem dX7_tries_258 : decode cX7_tries 258 = .ok (.aload_n 0, 1) := by decide +kernel
theorem dX7_tries_259 : decode cX7_tries 259 = .ok (.iload_n 1, 1) := by decide +kernel
theorem dX7_tries_260 : decode cX7_tries 260 = .ok (.iconst 1, 1) := by decide +kernel
theorem dX7_tries_261 : decode cX7_tries 261 = .ok (.iadd, 1) := by decide +kernel
theorem dX7_tries_262 : decode cX7_tries 262 = .ok (.iload_n 2, 1) := by decide +kernel
theorem dX7_tries_263 : decode cX7_tries 263 = .ok (.iload_n 3, 1) := by decide +kernel
theorem dX7_tries_264 : decode cX7_tries 264 = .ok (.iload 4, 2) := by decide +kernel
theorem dX7_tries_266 : decode cX7_tries 266 = .ok (.iload 5, 2) := by decide +kernel
theorem dX7_tries_268 : decode cX7_tries 268 = .ok (.invokevirtual 177, 3) := by decide +kernel
theorem dX7_tries_271 : decode cX7_tries 271 = .ok (.return_, 1) := by decide +kernel
theorem dX7_best_0 : decode cX7_best 0 = .ok (.aload_n 0, 1) := by decide +kernel
theorem dX7_best_1 : decode cX7_best 1 = .ok (.iconst 0, 1) := by decide +kernel
theorem dX7_best_2 : decode cX7_best 2 = .ok (.putfield 69, 3) := by decide +kernel
theorem dX7_best_5 : decode cX7_best 5 = .ok (.aload_n 0, 1) := by decide +kernel
theorem dX7_best_6 : decode cX7_best 6 = .ok (.getfield 174, 3) := by decide +kernel
theorem dX7_best_9 : decode cX7_best 9 = .ok (.ifCond .ne 10, 3) := by decide +kernel
theorem dX7_best_12 : decode cX7_best 12 = .ok (.aload_n 0, 1) := by decide +kernel
theorem dX7_best_13 : decode cX7_best 13 = .ok (.getfield 138, 3) := by decide +kernel
theorem dX7_best_16 : decode cX7_best 16 = .ok (.ifCond .ne 10, 3) := by decide +kernel
theorem dX7_best_19 : decode cX7_best 19 = .ok (.aload_n 0, 1) := by decide +kernel
theorem dX7_best_20 : decode cX7_best 20 = .ok (.getfield 165, 3) := by decide +kernel
theorem dX7_best_23 : decode cX7_best 23 = .ok (.goto 4, 3) := by decide +kernel
theorem dX7_best_26 : decode cX7_best 26 = .ok (.iconst (-1), 1) := by decide +kernel
theorem dX7_best_27 : decode cX7_best 27 = .ok (.ireturn, 1) := by decide +kernel
theorem dX7_cost_0 : decode cX7_cost 0 = .ok (.aload_n 0, 1) := by decide +kernel
theorem dX7_cost_1 : decode cX7_cost 1 = .ok (.iconst 0, 1) := by decide +kernel
theorem dX7_cost_2 : decode cX7_cost 2 = .ok (.putfield 69, 3) := by decide +kernel
theorem dX7_cost_5 : decode cX7_cost 5 = .ok (.aload_n 0, 1) := by decide +kernel
theorem dX7_cost_6 : decode cX7_cost 6 = .ok (.getfield 174, 3) := by decide +kernel
theorem dX7_cost_9 : decode cX7_cost 9 = .ok (.ifCond .ne 10, 3) := by decide +kernel
theorem dX7_cost_12 : decode cX7_cost 12 = .ok (.aload_n 0, 1) := by decide +kernel
theorem dX7_cost_13 : decode cX7_cost 13 = .ok (.getfield 138, 3) := by decide +kernel
theorem dX7_cost_16 : decode cX7_cost 16 = .ok (.ifCond .ne 10, 3) := by decide +kernel
theorem dX7_cost_19 : decode cX7_cost 19 = .ok (.aload_n 0, 1) := by decide +kernel
theorem dX7_cost_20 : decode cX7_cost 20 = .ok (.getfield 168, 3) := by decide +kernel
theorem dX7_cost_23 : decode cX7_cost 23 = .ok (.goto 4, 3) := by decide +kernel
theorem dX7_cost_26 : decode cX7_cost 26 = .ok (.iconst (-1), 1) := by decide +kernel
theorem dX7_cost_27 : decode cX7_cost 27 = .ok (.ireturn, 1) := by decide +kernel
theorem dX7_covers_0 : decode cX7_covers 0 = .ok (.aload_n 0, 1) := by decide +kernel
theorem dX7_covers_1 : decode cX7_covers 1 = .ok (.iconst 0, 1) := by decide +kernel
theorem dX7_covers_2 : decode cX7_covers 2 = .ok (.putfield 69, 3) := by decide +kernel
theorem dX7_covers_5 : decode cX7_covers 5 = .ok (.iload_n 1, 1) := by decide +kernel
theorem dX7_covers_6 : decode cX7_covers 6 = .ok (.istore_n 2, 1) := by decide +kernel
theorem dX7_covers_7 : decode cX7_covers 7 = .ok (.iconst 0, 1) := by decide +kernel
theorem dX7_covers_8 : decode cX7_covers 8 = .ok (.istore_n 3, 1) := by decide +kernel
theorem dX7_covers_9 : decode cX7_covers 9 = .ok (.iload_n 3, 1) := by decide +kernel
theorem dX7_covers_10 : decode cX7_covers 10 = .ok (.bipush 6, 2) := by decide +kernel
theorem dX7_covers_12 : decode cX7_covers 12 = .ok (.if_icmp .ge 46, 3) := by decide +kernel
theorem dX7_covers_15 : decode cX7_covers 15 = .ok (.aload_n 0, 1) := by decide +kernel
theorem dX7_covers_16 : decode cX7_covers 16 = .ok (.getfield 174, 3) := by decide +kernel
theorem dX7_covers_19 : decode cX7_covers 19 = .ok (.ifCond .eq 39, 3) := by decide +kernel
theorem dX7_covers_22 : decode cX7_covers 22 = .ok (.iload_n 1, 1) := by decide +kernel
theorem dX7_covers_23 : decode cX7_covers 23 = .ok (.ifCond .lt 35, 3) := by decide +kernel
theorem dX7_covers_26 : decode cX7_covers 26 = .ok (.aload_n 0, 1) := by decide +kernel
theorem dX7_covers_27 : decode cX7_covers 27 = .ok (.getfield 66, 3) := by decide +kernel
theorem dX7_covers_30 : decode cX7_covers 30 = .ok (.iload_n 3, 1) := by decide +kernel
theorem dX7_covers_31 : decode cX7_covers 31 = .ok (.iaload, 1) := by decide +kernel
theorem dX7_covers_32 : decode cX7_covers 32 = .ok (.ifCond .ge 6, 3) := by decide +kernel
theorem dX7_covers_35 : decode cX7_covers 35 = .ok (.goto 17, 3) := by decide +kernel
theorem dX7_covers_38 : decode cX7_covers 38 = .ok (.iload_n 2, 1) := by decide +kernel
theorem dX7_covers_39 : decode cX7_covers 39 = .ok (.ifCond .ne 10, 3) := by decide +kernel
theorem dX7_covers_42 : decode cX7_covers 42 = .ok (.aload_n 0, 1) := by decide +kernel
theorem dX7_covers_43 : decode cX7_covers 43 = .ok (.getfield 66, 3) := by decide +kernel
theorem dX7_covers_46 : decode cX7_covers 46 = .ok (.iload_n 3, 1) := by decide +kernel
theorem dX7_covers_47 : decode cX7_covers 47 = .ok (.iaload, 1) := by decide +kernel
theorem dX7_covers_48 : decode cX7_covers 48 = .ok (.ireturn, 1) := by decide +kernel
theorem dX7_covers_49 : decode cX7_covers 49 = .ok (.iinc 2 (-1), 3) := by decide +kernel
theorem dX7_covers_52 : decode cX7_covers 52 = .ok (.iinc 3 1, 3) := by decide +kernel
theorem dX7_covers_55 : decode cX7_covers 55 = .ok (.goto (-46), 3) := by decide +kernel
theorem dX7_covers_58 : decode cX7_covers 58 = .ok (.iconst (-1), 1) := by decide +kernel
theorem dX7_covers_59 : decode cX7_covers 59 = .ok (.ireturn, 1) := by decide +kernel
theorem dX7_nobody_0 : decode cX7_nobody 0 = .ok (.aload_n 0, 1) := by decide +kernel
theorem dX7_nobody_1 : decode cX7_nobody 1 = .ok (.iconst 0, 1) := by decide +kernel
theorem dX7_nobody_2 : decode cX7_nobody 2 = .ok (.putfield 69, 3) := by decide +kernel
theorem dX7_nobody_5 : decode cX7_nobody 5 = .ok (.iload_n 1, 1) := by decide +kernel
theorem dX7_nobody_6 : decode cX7_nobody 6 = .ok (.istore_n 2, 1) := by decide +kernel
theorem dX7_nobody_7 : decode cX7_nobody 7 = .ok (.iconst 0, 1) := by decide +kernel
theorem dX7_nobody_8 : decode cX7_nobody 8 = .ok (.istore_n 3, 1) := by decide +kernel
theorem dX7_nobody_9 : decode cX7_nobody 9 = .ok (.iload_n 3, 1) := by decide +kernel
theorem dX7_nobody_10 : decode cX7_nobody 10 = .ok (.aload_n 0, 1) := by decide +kernel
theorem dX7_nobody_11 : decode cX7_nobody 11 = .ok (.getfield 150, 3) := by decide +kernel
theorem dX7_nobody_14 : decode cX7_nobody 14 = .ok (.if_icmp .ge 125, 3) := by decide +kernel
theorem dX7_nobody_17 : decode cX7_nobody 17 = .ok (.aload_n 0, 1) := by decide +kernel
theorem dX7_nobody_18 : decode cX7_nobody 18 = .ok (.getfield 174, 3) := by decide +kernel
theorem dX7_nobody_21 : decode cX7_nobody 21 = .ok (.ifCond .eq 118, 3) := by decide +kernel
theorem dX7_nobody_24 : decode cX7_nobody 24 = .ok (.iload_n 1, 1) := by decide +kernel
theorem dX7_nobody_25 : decode cX7_nobody 25 = .ok (.ifCond .lt 114, 3) := by decide +kernel
theorem dX7_nobody_28 : decode cX7_nobody 28 = .ok (.iconst 0, 1) := by decide +kernel
theorem dX7_nobody_29 : decode cX7_nobody 29 = .ok (.istore 4, 2) := by decide +kernel
theorem dX7_nobody_31 : decode cX7_nobody 31 = .ok (.iconst 0, 1) := by decide +kernel
theorem dX7_nobody_32 : decode cX7_nobody 32 = .ok (.istore 5, 2) := by decide +kernel
theorem dX7_nobody_34 : decode cX7_nobody 34 = .ok (.iload 5, 2) := by decide +kernel
theorem dX7_nobody_36 : decode cX7_nobody 36 = .ok (.bipush 6, 2) := by decide +kernel
theorem dX7_nobody_38 : decode cX7_nobody 38 = .ok (.if_icmp .ge 78, 3) := by decide +kernel
theorem dX7_nobody_41 : decode cX7_nobody 41 = .ok (.iconst 0, 1) := by decide +kernel
theorem dX7_nobody_42 : decode cX7_nobody 42 = .ok (.istore 6, 2) := by decide +kernel
theorem dX7_nobody_44 : decode cX7_nobody 44 = .ok (.aload_n 0, 1) := by decide +kernel
theorem dX7_nobody_45 : decode cX7_nobody 45 = .ok (.getfield 66, 3) := by decide +kernel
theorem dX7_nobody_48 : decode cX7_nobody 48 = .ok (.iload 5, 2) := by decide +kernel
theorem dX7_nobody_50 : decode cX7_nobody 50 = .ok (.iaload, 1) := by decide +kernel
theorem dX7_nobody_51 : decode cX7_nobody 51 = .ok (.ifCond .lt 59, 3) := by decide +kernel
theorem dX7_nobody_54 : decode cX7_nobody 54 = .ok (.iload 6, 2) := by decide +kernel
theorem dX7_nobody_56 : decode cX7_nobody 56 = .ok (.aload_n 0, 1) := by decide +kernel
theorem dX7_nobody_57 : decode cX7_nobody 57 = .ok (.getfield 51, 3) := by decide +kernel
theorem dX7_nobody_60 : decode cX7_nobody 60 = .ok (.aload_n 0, 1) := by decide +kernel
theorem dX7_nobody_61 : decode cX7_nobody 61 = .ok (.getfield 66, 3) := by decide +kernel
theorem dX7_nobody_64 : decode cX7_nobody 64 = .ok (.iload 5, 2) := by decide +kernel
theorem dX7_nobody_66 : decode cX7_nobody 66 = .ok (.iaload, 1) := by decide +kernel
theorem dX7_nobody_67 : decode cX7_nobody 67 = .ok (.iaload, 1) := by decide +kernel
theorem dX7_nobody_68 : decode cX7_nobody 68 = .ok (.if_icmp .ge 42, 3) := by decide +kernel
theorem dX7_nobody_71 : decode cX7_nobody 71 = .ok (.iload 4, 2) := by decide +kernel
theorem dX7_nobody_73 : decode cX7_nobody 73 = .ok (.ifCond .ne 24, 3) := by decide +kernel
theorem dX7_nobody_76 : decode cX7_nobody 76 = .ok (.aload_n 0, 1) := by decide +kernel
theorem dX7_nobody_77 : decode cX7_nobody 77 = .ok (.getfield 54, 3) := by decide +kernel
theorem dX7_nobody_80 : decode cX7_nobody 80 = .ok (.iconst 5, 1) := by decide +kernel
theorem dX7_nobody_81 : decode cX7_nobody 81 = .ok (.aload_n 0, 1) := by decide +kernel
theorem dX7_nobody_82 : decode cX7_nobody 82 = .ok (.getfield 66, 3) := by decide +kernel
theorem dX7_nobody_85 : decode cX7_nobody 85 = .ok (.iload 5, 2) := by decide +kernel
theorem dX7_nobody_87 : decode cX7_nobody 87 = .ok (.iaload, 1) := by decide +kernel
theorem dX7_nobody_88 : decode cX7_nobody 88 = .ok (.imul, 1) := by decide +kernel
theorem dX7_nobody_89 : decode cX7_nobody 89 = .ok (.iload 6, 2) := by decide +kernel
theorem dX7_nobody_91 : decode cX7_nobody 91 = .ok (.iadd, 1) := by decide +kernel
theorem dX7_nobody_92 : decode cX7_nobody 92 = .ok (.iaload, 1) := by decide +kernel
theorem dX7_nobody_93 : decode cX7_nobody 93 = .ok (.iload_n 3, 1) := by decide +kernel
theorem dX7_nobody_94 : decode cX7_nobody 94 = .ok (.if_icmp .ne 7, 3) := by decide +kernel
theorem dX7_nobody_97 : decode cX7_nobody 97 = .ok (.iconst 1, 1) := by decide +kernel
theorem dX7_nobody_98 : decode cX7_nobody 98 = .ok (.goto 4, 3) := by decide +kernel
theorem dX7_nobody_101 : decode cX7_nobody 101 = .ok (.iconst 0, 1) := by decide +kernel
theorem dX7_nobody_102 : decode cX7_nobody 102 = .ok (.istore 4, 2) := by decide +kernel
theorem dX7_nobody_104 : decode cX7_nobody 104 = .ok (.iinc 6 1, 3) := by decide +kernel
theorem dX7_nobody_107 : decode cX7_nobody 107 = .ok (.goto (-63), 3) := by decide +kernel
theorem dX7_nobody_110 : decode cX7_nobody 110 = .ok (.iinc 5 1, 3) := by decide +kernel
theorem dX7_nobody_113 : decode cX7_nobody 113 = .ok (.goto (-79), 3) := by decide +kernel
theorem dX7_nobody_116 : decode cX7_nobody 116 = .ok (.iload 4, 2) := by decide +kernel
theorem dX7_nobody_118 : decode cX7_nobody 118 = .ok (.ifCond .eq 6, 3) := by decide +kernel
theorem dX7_nobody_121 : decode cX7_nobody 121 = .ok (.goto 12, 3) := by decide +kernel
theorem dX7_nobody_124 : decode cX7_nobody 124 = .ok (.iload_n 2, 1) := by decide +kernel
theorem dX7_nobody_125 : decode cX7_nobody 125 = .ok (.ifCond .ne 5, 3) := by decide +kernel
theorem dX7_nobody_128 : decode cX7_nobody 128 = .ok (.iload_n 3, 1) := by decide +kernel
theorem dX7_nobody_129 : decode cX7_nobody 129 = .ok (.ireturn, 1) := by decide +kernel
theorem dX7_nobody_130 : decode cX7_nobody 130 = .ok (.iinc 2 (-1), 3) := by decide +kernel
theorem dX7_nobody_133 : decode cX7_nobody 133 = .ok (.iinc 3 1, 3) := by decide +kernel
theorem dX7_nobody_136 : decode cX7_nobody 136 = .ok (.goto (-127), 3) := by decide +kernel
theorem dX7_nobody_139 : decode cX7_nobody 139 = .ok (.iconst (-1), 1) := by decide +kernel
theorem dX7_nobody_140 : decode cX7_nobody 140 = .ok (.ireturn, 1) := by decide +kernel
theorem dX7_count_0 : decode cX7_count 0 = .ok (.aload_n 0, 1) := by decide +kernel
theorem dX7_count_1 : decode cX7_count 1 = .ok (.iconst 0, 1) := by decide +kernel
theorem dX7_count_2 : decode cX7_count 2 = .ok (.putfield 69, 3) := by decide +kernel
theorem dX7_count_5 : decode cX7_count 5 = .ok (.iload_n 1, 1) := by decide +kernel
theorem dX7_count_6 : decode cX7_count 6 = .ok (.tableswitch 68 0 5 #[38, 43, 48, 53, 58, 63], 38) := by decide +kernel
theorem dX7_count_44 : decode cX7_count 44 = .ok (.aload_n 0, 1) := by decide +kernel
theorem dX7_count_45 : decode cX7_count 45 = .ok (.getfield 87, 3) := by decide +kernel
theorem dX7_count_48 : decode cX7_count 48 = .ok (.ireturn, 1) := by decide +kernel
theorem dX7_count_49 : decode cX7_count 49 = .ok (.aload_n 0, 1) := by decide +kernel
theorem dX7_count_50 : decode cX7_count 50 = .ok (.getfield 80, 3) := by decide +kernel
theorem dX7_count_53 : decode cX7_count 53 = .ok (.ireturn, 1) := by decide +kernel
theorem dX7_count_54 : decode cX7_count 54 = .ok (.aload_n 0, 1) := by decide +kernel
theorem dX7_count_55 : decode cX7_count 55 = .ok (.getfield 93, 3) := by decide +kernel
theorem dX7_count_58 : decode cX7_count 58 = .ok (.ireturn, 1) := by decide +kernel
theorem dX7_count_59 : decode cX7_count 59 = .ok (.aload_n 0, 1) := by decide +kernel
theorem dX7_count_60 : decode cX7_count 60 = .ok (.getfield 138, 3) := by decide +kernel
theorem dX7_count_63 : decode cX7_count 63 = .ok (.ireturn, 1) := by decide +kernel
theorem dX7_count_64 : decode cX7_count 64 = .ok (.aload_n 0, 1) := by decide +kernel
theorem dX7_count_65 : decode cX7_count 65 = .ok (.getfield 35, 3) := by decide +kernel
theorem dX7_count_68 : decode cX7_count 68 = .ok (.ireturn, 1) := by decide +kernel
theorem dX7_count_69 : decode cX7_count 69 = .ok (.aload_n 0, 1) := by decide +kernel
theorem dX7_count_70 : decode cX7_count 70 = .ok (.getfield 147, 3) := by decide +kernel
theorem dX7_count_73 : decode cX7_count 73 = .ok (.ireturn, 1) := by decide +kernel
theorem dX7_count_74 : decode cX7_count 74 = .ok (.iconst (-1), 1) := by decide +kernel
theorem dX7_count_75 : decode cX7_count 75 = .ok (.ireturn, 1) := by decide +kernel
theorem dJ6_bitCount_0f7a4_0 : decode cJ6_bitCount_0f7a4 0 = .ok (.iload_n 0, 1) := by decide +kernel
theorem dJ6_bitCount_0f7a4_1 : decode cJ6_bitCount_0f7a4 1 = .ok (.iload_n 0, 1) := by decide +kernel
theorem dJ6_bitCount_0f7a4_2 : decode cJ6_bitCount_0f7a4 2 = .ok (.iconst 1, 1) := by decide +kernel
theorem dJ6_bitCount_0f7a4_3 : decode cJ6_bitCount_0f7a4 3 = .ok (.iushr, 1) := by decide +kernel
theorem dJ6_bitCount_0f7a4_4 : decode cJ6_bitCount_0f7a4 4 = .ok (.ldc_w 265, 3) := by decide +kernel
theorem dJ6_bitCount_0f7a4_7 : decode cJ6_bitCount_0f7a4 7 = .ok (.iand, 1) := by decide +kernel
theorem dJ6_bitCount_0f7a4_8 : decode cJ6_bitCount_0f7a4 8 = .ok (.isub, 1) := by decide +kernel
theorem dJ6_bitCount_0f7a4_9 : decode cJ6_bitCount_0f7a4 9 = .ok (.istore_n 0, 1) := by decide +kernel
theorem dJ6_bitCount_0f7a4_10 : decode cJ6_bitCount_0f7a4 10 = .ok (.iload_n 0, 1) := by decide +kernel
theorem dJ6_bitCount_0f7a4_11 : decode cJ6_bitCount_0f7a4 11 = .ok (.ldc_w 266, 3) := by decide +kernel
theorem dJ6_bitCount_0f7a4_14 : decode cJ6_bitCount_0f7a4 14 = .ok (.iand, 1) := by decide +kernel
theorem dJ6_bitCount_0f7a4_15 : decode cJ6_bitCount_0f7a4 15 = .ok (.iload_n 0, 1) := by decide +kernel
theorem dJ6_bitCount_0f7a4_16 : decode cJ6_bitCount_0f7a4 16 = .ok (.iconst 2, 1) := by decide +kernel
theorem dJ6_bitCount_0f7a4_17 : decode cJ6_bitCount_0f7a4 17 = .ok (.iushr, 1) := by decide +kernel
theorem dJ6_bitCount_0f7a4_18 : decode cJ6_bitCount_0f7a4 18 = .ok (.ldc_w 266, 3) := by decide +kernel
theorem dJ6_bitCount_0f7a4_21 : decode cJ6_bitCount_0f7a4 21 = .ok (.iand, 1) := by decide +kernel
theorem dJ6_bitCount_0f7a4_22 : decode cJ6_bitCount_0f7a4 22 = .ok (.iadd, 1) := by decide +kernel
theorem dJ6_bitCount_0f7a4_23 : decode cJ6_bitCount_0f7a4 23 = .ok (.istore_n 0, 1) := by decide +kernel
theorem dJ6_bitCount_0f7a4_24 : decode cJ6_bitCount_0f7a4 24 = .ok (.iload_n 0, 1) := by decide +kernel
theorem dJ6_bitCount_0f7a4_25 : decode cJ6_bitCount_0f7a4 25 = .ok (.iload_n 0, 1) := by decide +kernel
theorem dJ6_bitCount_0f7a4_26 : decode cJ6_bitCount_0f7a4 26 = .ok (.iconst 4, 1) := by decide +kernel
theorem dJ6_bitCount_0f7a4_27 : decode cJ6_bitCount_0f7a4 27 = .ok (.iushr, 1) := by decide +kernel
theorem dJ6_bitCount_0f7a4_28 : decode cJ6_bitCount_0f7a4 28 = .ok (.iadd, 1) := by decide +kernel
theorem dJ6_bitCount_0f7a4_29 : decode cJ6_bitCount_0f7a4 29 = .ok (.ldc_w 267, 3) := by decide +kernel
theorem dJ6_bitCount_0f7a4_32 : decode cJ6_bitCount_0f7a4 32 = .ok (.iand, 1) := by decide +kernel
theorem dJ6_bitCount_0f7a4_33 : decode cJ6_bitCount_0f7a4 33 = .ok (.istore_n 0, 1) := by decide +kernel
theorem dJ6_bitCount_0f7a4_34 : decode cJ6_bitCount_0f7a4 34 = .ok (.iload_n 0, 1) := by decide +kernel
theorem dJ6_bitCount_0f7a4_35 : decode cJ6_bitCount_0f7a4 35 = .ok (.iload_n 0, 1) := by decide +kernel
theorem dJ6_bitCount_0f7a4_36 : decode cJ6_bitCount_0f7a4 36 = .ok (.bipush 8, 2) := by decide +kernel
theorem dJ6_bitCount_0f7a4_38 : decode cJ6_bitCount_0f7a4 38 = .ok (.iushr, 1) := by decide +kernel
theorem dJ6_bitCount_0f7a4_39 : decode cJ6_bitCount_0f7a4 39 = .ok (.iadd, 1) := by decide +kernel
theorem dJ6_bitCount_0f7a4_40 : decode cJ6_bitCount_0f7a4 40 = .ok (.istore_n 0, 1) := by decide +kernel
theorem dJ6_bitCount_0f7a4_41 : decode cJ6_bitCount_0f7a4 41 = .ok (.iload_n 0, 1) := by decide +kernel
theorem dJ6_bitCount_0f7a4_42 : decode cJ6_bitCount_0f7a4 42 = .ok (.iload_n 0, 1) := by decide +kernel
theorem dJ6_bitCount_0f7a4_43 : decode cJ6_bitCount_0f7a4 43 = .ok (.bipush 16, 2) := by decide +kernel
theorem dJ6_bitCount_0f7a4_45 : decode cJ6_bitCount_0f7a4 45 = .ok (.iushr, 1) := by decide +kernel
theorem dJ6_bitCount_0f7a4_46 : decode cJ6_bitCount_0f7a4 46 = .ok (.iadd, 1) := by decide +kernel
theorem dJ6_bitCount_0f7a4_47 : decode cJ6_bitCount_0f7a4 47 = .ok (.istore_n 0, 1) := by decide +kernel
theorem dJ6_bitCount_0f7a4_48 : decode cJ6_bitCount_0f7a4 48 = .ok (.iload_n 0, 1) := by decide +kernel
theorem dJ6_bitCount_0f7a4_49 : decode cJ6_bitCount_0f7a4 49 = .ok (.bipush 63, 2) := by decide +kernel
theorem dJ6_bitCount_0f7a4_51 : decode cJ6_bitCount_0f7a4 51 = .ok (.iand, 1) := by decide +kernel
theorem dJ6_bitCount_0f7a4_52 : decode cJ6_bitCount_0f7a4 52 = .ok (.ireturn, 1) := by decide +kernel
theorem dJ9_abs_0f7a4_0 : decode cJ9_abs_0f7a4 0 = .ok (.iload_n 0, 1) := by decide +kernel
theorem dJ9_abs_0f7a4_1 : decode cJ9_abs_0f7a4 1 = .ok (.ifCond .ge 8, 3) := by decide +kernel
theorem dJ9_abs_0f7a4_4 : decode cJ9_abs_0f7a4 4 = .ok (.iload_n 0, 1) := by decide +kernel
theorem dJ9_abs_0f7a4_5 : decode cJ9_abs_0f7a4 5 = .ok (.ineg, 1) := by decide +kernel
theorem dJ9_abs_0f7a4_6 : decode cJ9_abs_0f7a4 6 = .ok (.goto 4, 3) := by decide +kernel
theorem dJ9_abs_0f7a4_9 : decode cJ9_abs_0f7a4 9 = .ok (.iload_n 0, 1) := by decide +kernel
theorem dJ9_abs_0f7a4_10 : decode cJ9_abs_0f7a4 10 = .ok (.ireturn, 1) := by decide +kernel
theorem dJ9_max_7cf53_0 : decode cJ9_max_7cf53 0 = .ok (.iload_n 0, 1) := by decide +kernel
theorem dJ9_max_7cf53_1 : decode cJ9_max_7cf53 1 = .ok (.iload_n 1, 1) := by decide +kernel
theorem dJ9_max_7cf53_2 : decode cJ9_max_7cf53 2 = .ok (.if_icmp .lt 7, 3) := by decide +kernel
theorem dJ9_max_7cf53_5 : decode cJ9_max_7cf53 5 = .ok (.iload_n 0, 1) := by decide +kernel
theorem dJ9_max_7cf53_6 : decode cJ9_max_7cf53 6 = .ok (.goto 4, 3) := by decide +kernel
theorem dJ9_max_7cf53_9 : decode cJ9_max_7cf53 9 = .ok (.iload_n 1, 1) := by decide +kernel
theorem dJ9_max_7cf53_10 : decode cJ9_max_7cf53 10 = .ok (.ireturn, 1) := by decide +kernel
theorem dJ9_min_7cf53_0 : decode cJ9_min_7cf53 0 = .ok (.iload_n 0, 1) := by decide +kernel
theorem dJ9_min_7cf53_1 : decode cJ9_min_7cf53 1 = .ok (.iload_n 1, 1) := by decide +kernel
theorem dJ9_min_7cf53_2 : decode cJ9_min_7cf53 2 = .ok (.if_icmp .gt 7, 3) := by decide +kernel
theorem dJ9_min_7cf53_5 : decode cJ9_min_7cf53 5 = .ok (.iload_n 0, 1) := by decide +kernel
theorem dJ9_min_7cf53_6 : decode cJ9_min_7cf53 6 = .ok (.goto 4, 3) := by decide +kernel
theorem dJ9_min_7cf53_9 : decode cJ9_min_7cf53 9 = .ok (.iload_n 1, 1) := by decide +kernel
theorem dJ9_min_7cf53_10 : decode cJ9_min_7cf53 10 = .ok (.ireturn, 1) := by decide +kernel
theorem dJ7_fill_53178_0 : decode cJ7_fill_53178 0 = .ok (.iconst 0, 1) := by decide +kernel
theorem dJ7_fill_53178_1 : decode cJ7_fill_53178 1 = .ok (.istore_n 2, 1) := by decide +kernel
theorem dJ7_fill_53178_2 : decode cJ7_fill_53178 2 = .ok (.aload_n 0, 1) := by decide +kernel
theorem dJ7_fill_53178_3 : decode cJ7_fill_53178 3 = .ok (.arraylength, 1) := by decide +kernel
theorem dJ7_fill_53178_4 : decode cJ7_fill_53178 4 = .ok (.istore_n 3, 1) := by decide +kernel
theorem dJ7_fill_53178_5 : decode cJ7_fill_53178 5 = .ok (.iload_n 2, 1) := by decide +kernel
theorem dJ7_fill_53178_6 : decode cJ7_fill_53178 6 = .ok (.iload_n 3, 1) := by decide +kernel
theorem dJ7_fill_53178_7 : decode cJ7_fill_53178 7 = .ok (.if_icmp .ge 13, 3) := by decide +kernel
theorem dJ7_fill_53178_10 : decode cJ7_fill_53178 10 = .ok (.aload_n 0, 1) := by decide +kernel
theorem dJ7_fill_53178_11 : decode cJ7_fill_53178 11 = .ok (.iload_n 2, 1) := by decide +kernel
theorem dJ7_fill_53178_12 : decode cJ7_fill_53178 12 = .ok (.iload_n 1, 1) := by decide +kernel
theorem dJ7_fill_53178_13 : decode cJ7_fill_53178 13 = .ok (.iastore, 1) := by decide +kernel
theorem dJ7_fill_53178_14 : decode cJ7_fill_53178 14 = .ok (.iinc 2 1, 3) := by decide +kernel
theorem dJ7_fill_53178_17 : decode cJ7_fill_53178 17 = .ok (.goto (-12), 3) := by decide +kernel
theorem dJ7_fill_53178_20 : decode cJ7_fill_53178 20 = .ok (.return_, 1) := by decide +kernel
theorem dL_make_0 : decode cL_make 0 = .ok (.aload 4, 2) := by decide +kernel
theorem dL_make_2 : decode cL_make 2 = .ok (.iconst 0, 1) := by decide +kernel
theorem dL_make_3 : decode cL_make 3 = .ok (.aload_n 0, 1) := by decide +kernel
theorem dL_make_4 : decode cL_make 4 = .ok (.iload_n 1, 1) := by decide +kernel
theorem dL_make_5 : decode cL_make 5 = .ok (.iload_n 2, 1) := by decide +kernel
theorem dL_make_6 : decode cL_make 6 = .ok (.iload_n 3, 1) := by decide +kernel
theorem dL_make_7 : decode cL_make 7 = .ok (.invokevirtual 7, 3) := by decide +kernel
theorem dL_make_10 : decode cL_make 10 = .ok (.i2l, 1) := by decide +kernel
theorem dL_make_11 : decode cL_make 11 = .ok (.lastore, 1) := by decide +kernel
theorem dL_make_12 : decode cL_make 12 = .ok (.goto 11, 3) := by decide +kernel
theorem dL_make_15 : decode cL_make 15 = .ok (.astore 5, 2) := by decide +kernel
theorem dL_make_17 : decode cL_make 17 = .ok (.iconst 1, 1) := by decide +kernel
theorem dL_make_18 : decode cL_make 18 = .ok (.ireturn, 1) := by decide +kernel
theorem dL_make_19 : decode cL_make 19 = .ok (.astore 5, 2) := by decide +kernel
theorem dL_make_21 : decode cL_make 21 = .ok (.iconst 2, 1) := by decide +kernel
theorem dL_make_22 : decode cL_make 22 = .ok (.ireturn, 1) := by decide +kernel
theorem dL_make_23 : decode cL_make 23 = .ok (.iconst 0, 1) := by decide +kernel
theorem dL_make_24 : decode cL_make 24 = .ok (.ireturn, 1) := by decide +kernel
theorem dL_edge_0 : decode cL_edge 0 = .ok (.aload 6, 2) := by decide +kernel
theorem dL_edge_2 : decode cL_edge 2 = .ok (.iconst 0, 1) := by decide +kernel
theorem dL_edge_3 : decode cL_edge 3 = .ok (.aload_n 0, 1) := by decide +kernel
theorem dL_edge_4 : decode cL_edge 4 = .ok (.iload_n 1, 1) := by decide +kernel
theorem dL_edge_5 : decode cL_edge 5 = .ok (.iload_n 2, 1) := by decide +kernel
theorem dL_edge_6 : decode cL_edge 6 = .ok (.iload_n 3, 1) := by decide +kernel
theorem dL_edge_7 : decode cL_edge 7 = .ok (.iload 4, 2) := by decide +kernel
theorem dL_edge_9 : decode cL_edge 9 = .ok (.iload 5, 2) := by decide +kernel
theorem dL_edge_11 : decode cL_edge 11 = .ok (.invokevirtual 17, 3) := by decide +kernel
theorem dL_edge_14 : decode cL_edge 14 = .ok (.i2l, 1) := by decide +kernel
theorem dL_edge_15 : decode cL_edge 15 = .ok (.lastore, 1) := by decide +kernel
theorem dL_edge_16 : decode cL_edge 16 = .ok (.goto 15, 3) := by decide +kernel
theorem dL_edge_19 : decode cL_edge 19 = .ok (.astore 7, 2) := by decide +kernel
theorem dL_edge_21 : decode cL_edge 21 = .ok (.iconst 1, 1) := by decide +kernel
theorem dL_edge_22 : decode cL_edge 22 = .ok (.ireturn, 1) := by decide +kernel
theorem dL_edge_23 : decode cL_edge 23 = .ok (.astore 7, 2) := by decide +kernel
theorem dL_edge_25 : decode cL_edge 25 = .ok (.iconst 2, 1) := by decide +kernel
theorem dL_edge_26 : decode cL_edge 26 = .ok (.ireturn, 1) := by decide +kernel
theorem dL_edge_27 : decode cL_edge 27 = .ok (.astore 7, 2) := by decide +kernel
theorem dL_edge_29 : decode cL_edge 29 = .ok (.iconst 3, 1) := by decide +kernel
theorem dL_edge_30 : decode cL_edge 30 = .ok (.ireturn, 1) := by decide +kernel
theorem dL_edge_31 : decode cL_edge 31 = .ok (.iconst 0, 1) := by decide +kernel
theorem dL_edge_32 : decode cL_edge 32 = .ok (.ireturn, 1) := by decide +kernel
theorem dL_goals_0 : decode cL_goals 0 = .ok (.aload_n 3, 1) := by decide +kernel
theorem dL_goals_1 : decode cL_goals 1 = .ok (.iconst 0, 1) := by decide +kernel
theorem dL_goals_2 : decode cL_goals 2 = .ok (.aload_n 0, 1) := by decide +kernel
theorem dL_goals_3 : decode cL_goals 3 = .ok (.iload_n 1, 1) := by decide +kernel
theorem dL_goals_4 : decode cL_goals 4 = .ok (.iload_n 2, 1) := by decide +kernel
theorem dL_goals_5 : decode cL_goals 5 = .ok (.invokevirtual 23, 3) := by decide +kernel
theorem dL_goals_8 : decode cL_goals 8 = .ok (.i2l, 1) := by decide +kernel
theorem dL_goals_9 : decode cL_goals 9 = .ok (.lastore, 1) := by decide +kernel
theorem dL_goals_10 : decode cL_goals 10 = .ok (.goto 11, 3) := by decide +kernel
theorem dL_goals_13 : decode cL_goals 13 = .ok (.astore 4, 2) := by decide +kernel
theorem dL_goals_15 : decode cL_goals 15 = .ok (.iconst 1, 1) := by decide +kernel
theorem dL_goals_16 : decode cL_goals 16 = .ok (.ireturn, 1) := by decide +kernel
theorem dL_goals_17 : decode cL_goals 17 = .ok (.astore 4, 2) := by decide +kernel
theorem dL_goals_19 : decode cL_goals 19 = .ok (.iconst 2, 1) := by decide +kernel
theorem dL_goals_20 : decode cL_goals 20 = .ok (.ireturn, 1) := by decide +kernel
theorem dL_goals_21 : decode cL_goals 21 = .ok (.iconst 0, 1) := by decide +kernel
theorem dL_goals_22 : decode cL_goals 22 = .ok (.ireturn, 1) := by decide +kernel
theorem dL_change_0 : decode cL_change 0 = .ok (.aload 4, 2) := by decide +kernel
theorem dL_change_2 : decode cL_change 2 = .ok (.iconst 0, 1) := by decide +kernel
theorem dL_change_3 : decode cL_change 3 = .ok (.aload_n 0, 1) := by decide +kernel
theorem dL_change_4 : decode cL_change 4 = .ok (.iload_n 1, 1) := by decide +kernel
theorem dL_change_5 : decode cL_change 5 = .ok (.lload_n 2, 1) := by decide +kernel
theorem dL_change_6 : decode cL_change 6 = .ok (.invokevirtual 27, 3) := by decide +kernel
theorem dL_change_9 : decode cL_change 9 = .ok (.lastore, 1) := by decide +kernel
theorem dL_change_10 : decode cL_change 10 = .ok (.goto 7, 3) := by decide +kernel
theorem dL_change_13 : decode cL_change 13 = .ok (.astore 5, 2) := by decide +kernel
theorem dL_change_15 : decode cL_change 15 = .ok (.iconst 1, 1) := by decide +kernel
theorem dL_change_16 : decode cL_change 16 = .ok (.ireturn, 1) := by decide +kernel
theorem dL_change_17 : decode cL_change 17 = .ok (.iconst 0, 1) := by decide +kernel
theorem dL_change_18 : decode cL_change 18 = .ok (.ireturn, 1) := by decide +kernel
theorem dL_bytes_0 : decode cL_bytes 0 = .ok (.aload_n 2, 1) := by decide +kernel
theorem dL_bytes_1 : decode cL_bytes 1 = .ok (.iconst 0, 1) := by decide +kernel
theorem dL_bytes_2 : decode cL_bytes 2 = .ok (.aload_n 0, 1) := by decide +kernel
theorem dL_bytes_3 : decode cL_bytes 3 = .ok (.iload_n 1, 1) := by decide +kernel
theorem dL_bytes_4 : decode cL_bytes 4 = .ok (.invokevirtual 31, 3) := by decide +kernel
theorem dL_bytes_7 : decode cL_bytes 7 = .ok (.lastore, 1) := by decide +kernel
theorem dL_bytes_8 : decode cL_bytes 8 = .ok (.goto 6, 3) := by decide +kernel
theorem dL_bytes_11 : decode cL_bytes 11 = .ok (.astore_n 3, 1) := by decide +kernel
theorem dL_bytes_12 : decode cL_bytes 12 = .ok (.iconst 1, 1) := by decide +kernel
theorem dL_bytes_13 : decode cL_bytes 13 = .ok (.ireturn, 1) := by decide +kernel
theorem dL_bytes_14 : decode cL_bytes 14 = .ok (.iconst 0, 1) := by decide +kernel
theorem dL_bytes_15 : decode cL_bytes 15 = .ok (.ireturn, 1) := by decide +kernel
theorem dL_reach_0 : decode cL_reach 0 = .ok (.aload_n 2, 1) := by decide +kernel
theorem dL_reach_1 : decode cL_reach 1 = .ok (.iconst 0, 1) := by decide +kernel
theorem dL_reach_2 : decode cL_reach 2 = .ok (.aload_n 0, 1) := by decide +kernel
theorem dL_reach_3 : decode cL_reach 3 = .ok (.iload_n 1, 1) := by decide +kernel
theorem dL_reach_4 : decode cL_reach 4 = .ok (.invokevirtual 35, 3) := by decide +kernel
theorem dL_reach_7 : decode cL_reach 7 = .ok (.i2l, 1) := by decide +kernel
theorem dL_reach_8 : decode cL_reach 8 = .ok (.lastore, 1) := by decide +kernel
theorem dL_reach_9 : decode cL_reach 9 = .ok (.goto 6, 3) := by decide +kernel
theorem dL_reach_12 : decode cL_reach 12 = .ok (.astore_n 3, 1) := by decide +kernel
theorem dL_reach_13 : decode cL_reach 13 = .ok (.iconst 1, 1) := by decide +kernel
theorem dL_reach_14 : decode cL_reach 14 = .ok (.ireturn, 1) := by decide +kernel
theorem dL_reach_15 : decode cL_reach 15 = .ok (.iconst 0, 1) := by decide +kernel
theorem dL_reach_16 : decode cL_reach 16 = .ok (.ireturn, 1) := by decide +kernel
theorem dL_push_0 : decode cL_push 0 = .ok (.aload_n 2, 1) := by decide +kernel
theorem dL_push_1 : decode cL_push 1 = .ok (.iconst 0, 1) := by decide +kernel
theorem dL_push_2 : decode cL_push 2 = .ok (.aload_n 0, 1) := by decide +kernel
theorem dL_push_3 : decode cL_push 3 = .ok (.iload_n 1, 1) := by decide +kernel
theorem dL_push_4 : decode cL_push 4 = .ok (.invokevirtual 39, 3) := by decide +kernel
theorem dL_push_7 : decode cL_push 7 = .ok (.i2l, 1) := by decide +kernel
theorem dL_push_8 : decode cL_push 8 = .ok (.lastore, 1) := by decide +kernel
theorem dL_push_9 : decode cL_push 9 = .ok (.goto 6, 3) := by decide +kernel
theorem dL_push_12 : decode cL_push 12 = .ok (.astore_n 3, 1) := by decide +kernel
theorem dL_push_13 : decode cL_push 13 = .ok (.iconst 1, 1) := by decide +kernel
theorem dL_push_14 : decode cL_push 14 = .ok (.ireturn, 1) := by decide +kernel
theorem dL_push_15 : decode cL_push 15 = .ok (.iconst 0, 1) := by decide +kernel
theorem dL_push_16 : decode cL_push 16 = .ok (.ireturn, 1) := by decide +kernel
theorem dL_write_0 : decode cL_write 0 = .ok (.aload_n 2, 1) := by decide +kernel
theorem dL_write_1 : decode cL_write 1 = .ok (.iconst 0, 1) := by decide +kernel
theorem dL_write_2 : decode cL_write 2 = .ok (.aload_n 0, 1) := by decide +kernel
theorem dL_write_3 : decode cL_write 3 = .ok (.iload_n 1, 1) := by decide +kernel
theorem dL_write_4 : decode cL_write 4 = .ok (.invokevirtual 42, 3) := by decide +kernel
theorem dL_write_7 : decode cL_write 7 = .ok (.i2l, 1) := by decide +kernel
theorem dL_write_8 : decode cL_write 8 = .ok (.lastore, 1) := by decide +kernel
theorem dL_write_9 : decode cL_write 9 = .ok (.goto 6, 3) := by decide +kernel
theorem dL_write_12 : decode cL_write 12 = .ok (.astore_n 3, 1) := by decide +kernel
theorem dL_write_13 : decode cL_write 13 = .ok (.iconst 1, 1) := by decide +kernel
theorem dL_write_14 : decode cL_write 14 = .ok (.ireturn, 1) := by decide +kernel
theorem dL_write_15 : decode cL_write 15 = .ok (.iconst 0, 1) := by decide +kernel
theorem dL_write_16 : decode cL_write 16 = .ok (.ireturn, 1) := by decide +kernel
theorem dL_file_0 : decode cL_file 0 = .ok (.aload_n 3, 1) := by decide +kernel
theorem dL_file_1 : decode cL_file 1 = .ok (.iconst 0, 1) := by decide +kernel
theorem dL_file_2 : decode cL_file 2 = .ok (.aload_n 0, 1) := by decide +kernel
theorem dL_file_3 : decode cL_file 3 = .ok (.iload_n 1, 1) := by decide +kernel
theorem dL_file_4 : decode cL_file 4 = .ok (.iload_n 2, 1) := by decide +kernel
theorem dL_file_5 : decode cL_file 5 = .ok (.invokevirtual 45, 3) := by decide +kernel
theorem dL_file_8 : decode cL_file 8 = .ok (.i2l, 1) := by decide +kernel
theorem dL_file_9 : decode cL_file 9 = .ok (.lastore, 1) := by decide +kernel
theorem dL_file_10 : decode cL_file 10 = .ok (.goto 11, 3) := by decide +kernel
theorem dL_file_13 : decode cL_file 13 = .ok (.astore 4, 2) := by decide +kernel
theorem dL_file_15 : decode cL_file 15 = .ok (.iconst 1, 1) := by decide +kernel
theorem dL_file_16 : decode cL_file 16 = .ok (.ireturn, 1) := by decide +kernel
theorem dL_file_17 : decode cL_file 17 = .ok (.astore 4, 2) := by decide +kernel
theorem dL_file_19 : decode cL_file 19 = .ok (.iconst 2, 1) := by decide +kernel
theorem dL_file_20 : decode cL_file 20 = .ok (.ireturn, 1) := by decide +kernel
theorem dL_file_21 : decode cL_file 21 = .ok (.iconst 0, 1) := by decide +kernel
theorem dL_file_22 : decode cL_file 22 = .ok (.ireturn, 1) := by decide +kernel
theorem dL_data_0 : decode cL_data 0 = .ok (.aload_n 3, 1) := by decide +kernel
theorem dL_data_1 : decode cL_data 1 = .ok (.iconst 0, 1) := by decide +kernel
theorem dL_data_2 : decode cL_data 2 = .ok (.aload_n 0, 1) := by decide +kernel
theorem dL_data_3 : decode cL_data 3 = .ok (.iload_n 1, 1) := by decide +kernel
theorem dL_data_4 : decode cL_data 4 = .ok (.iload_n 2, 1) := by decide +kernel
theorem dL_data_5 : decode cL_data 5 = .ok (.invokevirtual 48, 3) := by decide +kernel
theorem dL_data_8 : decode cL_data 8 = .ok (.i2l, 1) := by decide +kernel
theorem dL_data_9 : decode cL_data 9 = .ok (.lastore, 1) := by decide +kernel
theorem dL_data_10 : decode cL_data 10 = .ok (.goto 7, 3) := by decide +kernel
theorem dL_data_13 : decode cL_data 13 = .ok (.astore 4, 2) := by decide +kernel
theorem dL_data_15 : decode cL_data 15 = .ok (.iconst 1, 1) := by decide +kernel
theorem dL_data_16 : decode cL_data 16 = .ok (.ireturn, 1) := by decide +kernel
theorem dL_data_17 : decode cL_data 17 = .ok (.iconst 0, 1) := by decide +kernel
theorem dL_data_18 : decode cL_data 18 = .ok (.ireturn, 1) := by decide +kernel
theorem dL_torn_0 : decode cL_torn 0 = .ok (.aload_n 2, 1) := by decide +kernel
theorem dL_torn_1 : decode cL_torn 1 = .ok (.iconst 0, 1) := by decide +kernel
theorem dL_torn_2 : decode cL_torn 2 = .ok (.aload_n 0, 1) := by decide +kernel
theorem dL_torn_3 : decode cL_torn 3 = .ok (.iload_n 1, 1) := by decide +kernel
theorem dL_torn_4 : decode cL_torn 4 = .ok (.invokevirtual 51, 3) := by decide +kernel
theorem dL_torn_7 : decode cL_torn 7 = .ok (.i2l, 1) := by decide +kernel
theorem dL_torn_8 : decode cL_torn 8 = .ok (.lastore, 1) := by decide +kernel
theorem dL_torn_9 : decode cL_torn 9 = .ok (.goto 6, 3) := by decide +kernel
theorem dL_torn_12 : decode cL_torn 12 = .ok (.astore_n 3, 1) := by decide +kernel
theorem dL_torn_13 : decode cL_torn 13 = .ok (.iconst 1, 1) := by decide +kernel
theorem dL_torn_14 : decode cL_torn 14 = .ok (.ireturn, 1) := by decide +kernel
theorem dL_torn_15 : decode cL_torn 15 = .ok (.iconst 0, 1) := by decide +kernel
theorem dL_torn_16 : decode cL_torn 16 = .ok (.ireturn, 1) := by decide +kernel
theorem dL_check_0 : decode cL_check 0 = .ok (.aload_n 2, 1) := by decide +kernel
theorem dL_check_1 : decode cL_check 1 = .ok (.iconst 0, 1) := by decide +kernel
theorem dL_check_2 : decode cL_check 2 = .ok (.aload_n 0, 1) := by decide +kernel
theorem dL_check_3 : decode cL_check 3 = .ok (.iload_n 1, 1) := by decide +kernel
theorem dL_check_4 : decode cL_check 4 = .ok (.invokevirtual 54, 3) := by decide +kernel
theorem dL_check_7 : decode cL_check 7 = .ok (.i2l, 1) := by decide +kernel
theorem dL_check_8 : decode cL_check 8 = .ok (.lastore, 1) := by decide +kernel
theorem dL_check_9 : decode cL_check 9 = .ok (.goto 6, 3) := by decide +kernel
theorem dL_check_12 : decode cL_check 12 = .ok (.astore_n 3, 1) := by decide +kernel
theorem dL_check_13 : decode cL_check 13 = .ok (.iconst 1, 1) := by decide +kernel
theorem dL_check_14 : decode cL_check 14 = .ok (.ireturn, 1) := by decide +kernel
theorem dL_check_15 : decode cL_check 15 = .ok (.iconst 0, 1) := by decide +kernel
theorem dL_check_16 : decode cL_check 16 = .ok (.ireturn, 1) := by decide +kernel
theorem dL_law_0 : decode cL_law 0 = .ok (.new 8, 3) := by decide +kernel
theorem dL_law_3 : decode cL_law 3 = .ok (.dup, 1) := by decide +kernel
theorem dL_law_4 : decode cL_law 4 = .ok (.invokespecial 57, 3) := by decide +kernel
theorem dL_law_7 : decode cL_law 7 = .ok (.astore_n 1, 1) := by decide +kernel
theorem dL_law_8 : decode cL_law 8 = .ok (.new 58, 3) := by decide +kernel
theorem dL_law_11 : decode cL_law 11 = .ok (.dup, 1) := by decide +kernel
theorem dL_law_12 : decode cL_law 12 = .ok (.invokespecial 60, 3) := by decide +kernel
theorem dL_law_15 : decode cL_law 15 = .ok (.astore_n 2, 1) := by decide +kernel
theorem dL_law_16 : decode cL_law 16 = .ok (.iconst 1, 1) := by decide +kernel
theorem dL_law_17 : decode cL_law 17 = .ok (.newarray .long, 2) := by decide +kernel
theorem dL_law_19 : decode cL_law 19 = .ok (.astore_n 3, 1) := by decide +kernel
theorem dL_law_20 : decode cL_law 20 = .ok (.iconst 0, 1) := by decide +kernel
theorem dL_law_21 : decode cL_law 21 = .ok (.istore 4, 2) := by decide +kernel
theorem dL_law_23 : decode cL_law 23 = .ok (.iload 4, 2) := by decide +kernel
theorem dL_law_25 : decode cL_law 25 = .ok (.aload_n 0, 1) := by decide +kernel
theorem dL_law_26 : decode cL_law 26 = .ok (.arraylength, 1) := by decide +kernel
theorem dL_law_27 : decode cL_law 27 = .ok (.bipush 6, 2) := by decide +kernel
theorem dL_law_29 : decode cL_law 29 = .ok (.isub, 1) := by decide +kernel
theorem dL_law_30 : decode cL_law 30 = .ok (.if_icmp .gt 1101, 3) := by decide +kernel
theorem dL_law_33 : decode cL_law 33 = .ok (.aload_n 0, 1) := by decide +kernel
theorem dL_law_34 : decode cL_law 34 = .ok (.iload 4, 2) := by decide +kernel
theorem dL_law_36 : decode cL_law 36 = .ok (.iaload, 1) := by decide +kernel
theorem dL_law_37 : decode cL_law 37 = .ok (.bipush 31, 2) := by decide +kernel
theorem dL_law_39 : decode cL_law 39 = .ok (.iand, 1) := by decide +kernel
theorem dL_law_40 : decode cL_law 40 = .ok (.tableswitch 1085 0 18 #[92, 172, 276, 344, 401, 500, 555, 611, 667, 723, 736, 804, 872, 928, 941, 954, 979, 1004, 1060], 92) := by decide +kernel
theorem dL_law_132 : decode cL_law 132 = .ok (.aload_n 1, 1) := by decide +kernel
theorem dL_law_133 : decode cL_law 133 = .ok (.aload_n 0, 1) := by decide +kernel
theorem dL_law_134 : decode cL_law 134 = .ok (.iload 4, 2) := by decide +kernel
theorem dL_law_136 : decode cL_law 136 = .ok (.iconst 1, 1) := by decide +kernel
theorem dL_law_137 : decode cL_law 137 = .ok (.iadd, 1) := by decide +kernel
theorem dL_law_138 : decode cL_law 138 = .ok (.iaload, 1) := by decide +kernel
theorem dL_law_139 : decode cL_law 139 = .ok (.aload_n 0, 1) := by decide +kernel
theorem dL_law_140 : decode cL_law 140 = .ok (.iload 4, 2) := by decide +kernel
theorem dL_law_142 : decode cL_law 142 = .ok (.iconst 2, 1) := by decide +kernel
theorem dL_law_143 : decode cL_law 143 = .ok (.iadd, 1) := by decide +kernel
theorem dL_law_144 : decode cL_law 144 = .ok (.iaload, 1) := by decide +kernel
theorem dL_law_145 : decode cL_law 145 = .ok (.aload_n 0, 1) := by decide +kernel
theorem dL_law_146 : decode cL_law 146 = .ok (.iload 4, 2) := by decide +kernel
theorem dL_law_148 : decode cL_law 148 = .ok (.iconst 3, 1) := by decide +kernel
theorem dL_law_149 : decode cL_law 149 = .ok (.iadd, 1) := by decide +kernel
theorem dL_law_150 : decode cL_law 150 = .ok (.iaload, 1) := by decide +kernel
theorem dL_law_151 : decode cL_law 151 = .ok (.aload_n 3, 1) := by decide +kernel
theorem dL_law_152 : decode cL_law 152 = .ok (.invokestatic 61, 3) := by decide +kernel
theorem dL_law_155 : decode cL_law 155 = .ok (.istore 5, 2) := by decide +kernel
theorem dL_law_157 : decode cL_law 157 = .ok (.aload_n 2, 1) := by decide +kernel
theorem dL_law_158 : decode cL_law 158 = .ok (.aload_n 0, 1) := by decide +kernel
theorem dL_law_159 : decode cL_law 159 = .ok (.iload 4, 2) := by decide +kernel
theorem dL_law_161 : decode cL_law 161 = .ok (.iconst 1, 1) := by decide +kernel
theorem dL_law_162 : decode cL_law 162 = .ok (.iadd, 1) := by decide +kernel
theorem dL_law_163 : decode cL_law 163 = .ok (.iaload, 1) := by decide +kernel
theorem dL_law_164 : decode cL_law 164 = .ok (.aload_n 0, 1) := by decide +kernel
theorem dL_law_165 : decode cL_law 165 = .ok (.iload 4, 2) := by decide +kernel
theorem dL_law_167 : decode cL_law 167 = .ok (.iconst 2, 1) := by decide +kernel
theorem dL_law_168 : decode cL_law 168 = .ok (.iadd, 1) := by decide +kernel
theorem dL_law_169 : decode cL_law 169 = .ok (.iaload, 1) := by decide +kernel
theorem dL_law_170 : decode cL_law 170 = .ok (.aload_n 0, 1) := by decide +kernel
theorem dL_law_171 : decode cL_law 171 = .ok (.iload 4, 2) := by decide +kernel
theorem dL_law_173 : decode cL_law 173 = .ok (.iconst 3, 1) := by decide +kernel
theorem dL_law_174 : decode cL_law 174 = .ok (.iadd, 1) := by decide +kernel
theorem dL_law_175 : decode cL_law 175 = .ok (.iaload, 1) := by decide +kernel
theorem dL_law_176 : decode cL_law 176 = .ok (.invokevirtual 66, 3) := by decide +kernel
theorem dL_law_179 : decode cL_law 179 = .ok (.istore 6, 2) := by decide +kernel
theorem dL_law_181 : decode cL_law 181 = .ok (.aload_n 2, 1) := by decide +kernel
theorem dL_law_182 : decode cL_law 182 = .ok (.invokevirtual 67, 3) := by decide +kernel
theorem dL_law_185 : decode cL_law 185 = .ok (.iload 5, 2) := by decide +kernel
theorem dL_law_187 : decode cL_law 187 = .ok (.if_icmp .eq 5, 3) := by decide +kernel
theorem dL_law_190 : decode cL_law 190 = .ok (.iconst 0, 1) := by decide +kernel
theorem dL_law_191 : decode cL_law 191 = .ok (.ireturn, 1) := by decide +kernel
theorem dL_law_192 : decode cL_law 192 = .ok (.iload 5, 2) := by decide +kernel
theorem dL_law_194 : decode cL_law 194 = .ok (.ifCond .ne 15, 3) := by decide +kernel
theorem dL_law_197 : decode cL_law 197 = .ok (.aload_n 3, 1) := by decide +kernel
theorem dL_law_198 : decode cL_law 198 = .ok (.iconst 0, 1) := by decide +kernel
theorem dL_law_199 : decode cL_law 199 = .ok (.laload, 1) := by decide +kernel
theorem dL_law_200 : decode cL_law 200 = .ok (.iload 6, 2) := by decide +kernel
theorem dL_law_202 : decode cL_law 202 = .ok (.i2l, 1) := by decide +kernel
theorem dL_law_203 : decode cL_law 203 = .ok (.lcmp, 1) := by decide +kernel
theorem dL_law_204 : decode cL_law 204 = .ok (.ifCond .eq 5, 3) := by decide +kernel
theorem dL_law_207 : decode cL_law 207 = .ok (.iconst 0, 1) := by decide +kernel
theorem dL_law_208 : decode cL_law 208 = .ok (.ireturn, 1) := by decide +kernel
theorem dL_law_209 : decode cL_law 209 = .ok (.goto 916, 3) := by decide +kernel
theorem dL_law_212 : decode cL_law 212 = .ok (.aload_n 1, 1) := by decide +kernel
theorem dL_law_213 : decode cL_law 213 = .ok (.aload_n 0, 1) := by decide +kernel
theorem dL_law_214 : decode cL_law 214 = .ok (.iload 4, 2) := by decide +kernel
theorem dL_law_216 : decode cL_law 216 = .ok (.iconst 1, 1) := by decide +kernel
theorem dL_law_217 : decode cL_law 217 = .ok (.iadd, 1) := by decide +kernel
theorem dL_law_218 : decode cL_law 218 = .ok (.iaload, 1) := by decide +kernel
theorem dL_law_219 : decode cL_law 219 = .ok (.aload_n 0, 1) := by decide +kernel
theorem dL_law_220 : decode cL_law 220 = .ok (.iload 4, 2) := by decide +kernel
theorem dL_law_222 : decode cL_law 222 = .ok (.iconst 2, 1) := by decide +kernel
theorem dL_law_223 : decode cL_law 223 = .ok (.iadd, 1) := by decide +kernel
theorem dL_law_224 : decode cL_law 224 = .ok (.iaload, 1) := by decide +kernel
theorem dL_law_225 : decode cL_law 225 = .ok (.aload_n 0, 1) := by decide +kernel
theorem dL_law_226 : decode cL_law 226 = .ok (.iload 4, 2) := by decide +kernel
theorem dL_law_228 : decode cL_law 228 = .ok (.iconst 3, 1) := by decide +kernel
theorem dL_law_229 : decode cL_law 229 = .ok (.iadd, 1) := by decide +kernel
theorem dL_law_230 : decode cL_law 230 = .ok (.iaload, 1) := by decide +kernel
theorem dL_law_231 : decode cL_law 231 = .ok (.aload_n 0, 1) := by decide +kernel
theorem dL_law_232 : decode cL_law 232 = .ok (.iload 4, 2) := by decide +kernel
theorem dL_law_234 : decode cL_law 234 = .ok (.iconst 4, 1) := by decide +kernel
theorem dL_law_235 : decode cL_law 235 = .ok (.iadd, 1) := by decide +kernel
theorem dL_law_236 : decode cL_law 236 = .ok (.iaload, 1) := by decide +kernel
theorem dL_law_237 : decode cL_law 237 = .ok (.aload_n 0, 1) := by decide +kernel
theorem dL_law_238 : decode cL_law 238 = .ok (.iload 4, 2) := by decide +kernel
theorem dL_law_240 : decode cL_law 240 = .ok (.iconst 5, 1) := by decide +kernel
theorem dL_law_241 : decode cL_law 241 = .ok (.iadd, 1) := by decide +kernel
theorem dL_law_242 : decode cL_law 242 = .ok (.iaload, 1) := by decide +kernel
theorem dL_law_243 : decode cL_law 243 = .ok (.aload_n 3, 1) := by decide +kernel
theorem dL_law_244 : decode cL_law 244 = .ok (.invokestatic 71, 3) := by decide +kernel
theorem dL_law_247 : decode cL_law 247 = .ok (.istore 5, 2) := by decide +kernel
theorem dL_law_249 : decode cL_law 249 = .ok (.aload_n 2, 1) := by decide +kernel
theorem dL_law_250 : decode cL_law 250 = .ok (.aload_n 0, 1) := by decide +kernel
theorem dL_law_251 : decode cL_law 251 = .ok (.iload 4, 2) := by decide +kernel
theorem dL_law_253 : decode cL_law 253 = .ok (.iconst 1, 1) := by decide +kernel
theorem dL_law_254 : decode cL_law 254 = .ok (.iadd, 1) := by decide +kernel
theorem dL_law_255 : decode cL_law 255 = .ok (.iaload, 1) := by decide +kernel
theorem dL_law_256 : decode cL_law 256 = .ok (.aload_n 0, 1) := by decide +kernel
theorem dL_law_257 : decode cL_law 257 = .ok (.iload 4, 2) := by decide +kernel
theorem dL_law_259 : decode cL_law 259 = .ok (.iconst 2, 1) := by decide +kernel
theorem dL_law_260 : decode cL_law 260 = .ok (.iadd, 1) := by decide +kernel
theorem dL_law_261 : decode cL_law 261 = .ok (.iaload, 1) := by decide +kernel
theorem dL_law_262 : decode cL_law 262 = .ok (.aload_n 0, 1) := by decide +kernel
theorem dL_law_263 : decode cL_law 263 = .ok (.iload 4, 2) := by decide +kernel
theorem dL_law_265 : decode cL_law 265 = .ok (.iconst 3, 1) := by decide +kernel
theorem dL_law_266 : decode cL_law 266 = .ok (.iadd, 1) := by decide +kernel
theorem dL_law_267 : decode cL_law 267 = .ok (.iaload, 1) := by decide +kernel
theorem dL_law_268 : decode cL_law 268 = .ok (.aload_n 0, 1) := by decide +kernel
theorem dL_law_269 : decode cL_law 269 = .ok (.iload 4, 2) := by decide +kernel
theorem dL_law_271 : decode cL_law 271 = .ok (.iconst 4, 1) := by decide +kernel
theorem dL_law_272 : decode cL_law 272 = .ok (.iadd, 1) := by decide +kernel
theorem dL_law_273 : decode cL_law 273 = .ok (.iaload, 1) := by decide +kernel
theorem dL_law_274 : decode cL_law 274 = .ok (.aload_n 0, 1) := by decide +kernel
theorem dL_law_275 : decode cL_law 275 = .ok (.iload 4, 2) := by decide +kernel
theorem dL_law_277 : decode cL_law 277 = .ok (.iconst 5, 1) := by decide +kernel
theorem dL_law_278 : decode cL_law 278 = .ok (.iadd, 1) := by decide +kernel
theorem dL_law_279 : decode cL_law 279 = .ok (.iaload, 1) := by decide +kernel
theorem dL_law_280 : decode cL_law 280 = .ok (.invokevirtual 74, 3) := by decide +kernel
theorem dL_law_283 : decode cL_law 283 = .ok (.istore 6, 2) := by decide +kernel
theorem dL_law_285 : decode cL_law 285 = .ok (.aload_n 2, 1) := by decide +kernel
theorem dL_law_286 : decode cL_law 286 = .ok (.invokevirtual 67, 3) := by decide +kernel
theorem dL_law_289 : decode cL_law 289 = .ok (.iload 5, 2) := by decide +kernel
theorem dL_law_291 : decode cL_law 291 = .ok (.if_icmp .eq 5, 3) := by decide +kernel
theorem dL_law_294 : decode cL_law 294 = .ok (.iconst 0, 1) := by decide +kernel
theorem dL_law_295 : decode cL_law 295 = .ok (.ireturn, 1) := by decide +kernel
theorem dL_law_296 : decode cL_law 296 = .ok (.iload 5, 2) := by decide +kernel
theorem dL_law_298 : decode cL_law 298 = .ok (.ifCond .ne 15, 3) := by decide +kernel
theorem dL_law_301 : decode cL_law 301 = .ok (.aload_n 3, 1) := by decide +kernel
theorem dL_law_302 : decode cL_law 302 = .ok (.iconst 0, 1) := by decide +kernel
theorem dL_law_303 : decode cL_law 303 = .ok (.laload, 1) := by decide +kernel
theorem dL_law_304 : decode cL_law 304 = .ok (.iload 6, 2) := by decide +kernel
theorem dL_law_306 : decode cL_law 306 = .ok (.i2l, 1) := by decide +kernel
theorem dL_law_307 : decode cL_law 307 = .ok (.lcmp, 1) := by decide +kernel
theorem dL_law_308 : decode cL_law 308 = .ok (.ifCond .eq 5, 3) := by decide +kernel
theorem dL_law_311 : decode cL_law 311 = .ok (.iconst 0, 1) := by decide +kernel
theorem dL_law_312 : decode cL_law 312 = .ok (.ireturn, 1) := by decide +kernel
theorem dL_law_313 : decode cL_law 313 = .ok (.goto 812, 3) := by decide +kernel
theorem dL_law_316 : decode cL_law 316 = .ok (.aload_n 1, 1) := by decide +kernel
theorem dL_law_317 : decode cL_law 317 = .ok (.aload_n 0, 1) := by decide +kernel
theorem dL_law_318 : decode cL_law 318 = .ok (.iload 4, 2) := by decide +kernel
theorem dL_law_320 : decode cL_law 320 = .ok (.iconst 1, 1) := by decide +kernel
theorem dL_law_321 : decode cL_law 321 = .ok (.iadd, 1) := by decide +kernel
theorem dL_law_322 : decode cL_law 322 = .ok (.iaload, 1) := by decide +kernel
theorem dL_law_323 : decode cL_law 323 = .ok (.aload_n 0, 1) := by decide +kernel
theorem dL_law_324 : decode cL_law 324 = .ok (.iload 4, 2) := by decide +kernel
theorem dL_law_326 : decode cL_law 326 = .ok (.iconst 2, 1) := by decide +kernel
theorem dL_law_327 : decode cL_law 327 = .ok (.iadd, 1) := by decide +kernel
theorem dL_law_328 : decode cL_law 328 = .ok (.iaload, 1) := by decide +kernel
theorem dL_law_329 : decode cL_law 329 = .ok (.aload_n 3, 1) := by decide +kernel
theorem dL_law_330 : decode cL_law 330 = .ok (.invokestatic 75, 3) := by decide +kernel
theorem dL_law_333 : decode cL_law 333 = .ok (.istore 5, 2) := by decide +kernel
theorem dL_law_335 : decode cL_law 335 = .ok (.aload_n 2, 1) := by decide +kernel
theorem dL_law_336 : decode cL_law 336 = .ok (.aload_n 0, 1) := by decide +kernel
theorem dL_law_337 : decode cL_law 337 = .ok (.iload 4, 2) := by decide +kernel
theorem dL_law_339 : decode cL_law 339 = .ok (.iconst 1, 1) := by decide +kernel
theorem dL_law_340 : decode cL_law 340 = .ok (.iadd, 1) := by decide +kernel
theorem dL_law_341 : decode cL_law 341 = .ok (.iaload, 1) := by decide +kernel
theorem dL_law_342 : decode cL_law 342 = .ok (.aload_n 0, 1) := by decide +kernel
theorem dL_law_343 : decode cL_law 343 = .ok (.iload 4, 2) := by decide +kernel
theorem dL_law_345 : decode cL_law 345 = .ok (.iconst 2, 1) := by decide +kernel
theorem dL_law_346 : decode cL_law 346 = .ok (.iadd, 1) := by decide +kernel
theorem dL_law_347 : decode cL_law 347 = .ok (.iaload, 1) := by decide +kernel
theorem dL_law_348 : decode cL_law 348 = .ok (.invokevirtual 78, 3) := by decide +kernel
theorem dL_law_351 : decode cL_law 351 = .ok (.istore 6, 2) := by decide +kernel
theorem dL_law_353 : decode cL_law 353 = .ok (.aload_n 2, 1) := by decide +kernel
theorem dL_law_354 : decode cL_law 354 = .ok (.invokevirtual 67, 3) := by decide +kernel
theorem dL_law_357 : decode cL_law 357 = .ok (.iload 5, 2) := by decide +kernel
theorem dL_law_359 : decode cL_law 359 = .ok (.if_icmp .eq 5, 3) := by decide +kernel
theorem dL_law_362 : decode cL_law 362 = .ok (.iconst 0, 1) := by decide +kernel
theorem dL_law_363 : decode cL_law 363 = .ok (.ireturn, 1) := by decide +kernel
theorem dL_law_364 : decode cL_law 364 = .ok (.iload 5, 2) := by decide +kernel
theorem dL_law_366 : decode cL_law 366 = .ok (.ifCond .ne 15, 3) := by decide +kernel
theorem dL_law_369 : decode cL_law 369 = .ok (.aload_n 3, 1) := by decide +kernel
theorem dL_law_370 : decode cL_law 370 = .ok (.iconst 0, 1) := by decide +kernel
theorem dL_law_371 : decode cL_law 371 = .ok (.laload, 1) := by decide +kernel
theorem dL_law_372 : decode cL_law 372 = .ok (.iload 6, 2) := by decide +kernel
theorem dL_law_374 : decode cL_law 374 = .ok (.i2l, 1) := by decide +kernel
theorem dL_law_375 : decode cL_law 375 = .ok (.lcmp, 1) := by decide +kernel
theorem dL_law_376 : decode cL_law 376 = .ok (.ifCond .eq 5, 3) := by decide +kernel
theorem dL_law_379 : decode cL_law 379 = .ok (.iconst 0, 1) := by decide +kernel
theorem dL_law_380 : decode cL_law 380 = .ok (.ireturn, 1) := by decide +kernel
theorem dL_law_381 : decode cL_law 381 = .ok (.goto 744, 3) := by decide +kernel
theorem dL_law_384 : decode cL_law 384 = .ok (.aload_n 1, 1) := by decide +kernel
theorem dL_law_385 : decode cL_law 385 = .ok (.aload_n 0, 1) := by decide +kernel
theorem dL_law_386 : decode cL_law 386 = .ok (.iload 4, 2) := by decide +kernel
theorem dL_law_388 : decode cL_law 388 = .ok (.iconst 1, 1) := by decide +kernel
theorem dL_law_389 : decode cL_law 389 = .ok (.iadd, 1) := by decide +kernel
theorem dL_law_390 : decode cL_law 390 = .ok (.iaload, 1) := by decide +kernel
theorem dL_law_391 : decode cL_law 391 = .ok (.i2l, 1) := by decide +kernel
theorem dL_law_392 : decode cL_law 392 = .ok (.bipush 32, 2) := by decide +kernel
theorem dL_law_394 : decode cL_law 394 = .ok (.lshl, 1) := by decide +kernel
theorem dL_law_395 : decode cL_law 395 = .ok (.aload_n 0, 1) := by decide +kernel
theorem dL_law_396 : decode cL_law 396 = .ok (.iload 4, 2) := by decide +kernel
theorem dL_law_398 : decode cL_law 398 = .ok (.iconst 2, 1) := by decide +kernel
theorem dL_law_399 : decode cL_law 399 = .ok (.iadd, 1) := by decide +kernel
theorem dL_law_400 : decode cL_law 400 = .ok (.iaload, 1) := by decide +kernel
theorem dL_law_401 : decode cL_law 401 = .ok (.i2l, 1) := by decide +kernel
theorem dL_law_402 : decode cL_law 402 = .ok (.ldc2_w 79, 3) := by decide +kernel
theorem dL_law_405 : decode cL_law 405 = .ok (.land, 1) := by decide +kernel
theorem dL_law_406 : decode cL_law 406 = .ok (.lor, 1) := by decide +kernel
theorem dL_law_407 : decode cL_law 407 = .ok (.invokevirtual 81, 3) := by decide +kernel
theorem dL_law_410 : decode cL_law 410 = .ok (.aload_n 2, 1) := by decide +kernel
theorem dL_law_411 : decode cL_law 411 = .ok (.aload_n 0, 1) := by decide +kernel
theorem dL_law_412 : decode cL_law 412 = .ok (.iload 4, 2) := by decide +kernel
theorem dL_law_414 : decode cL_law 414 = .ok (.iconst 1, 1) := by decide +kernel
theorem dL_law_415 : decode cL_law 415 = .ok (.iadd, 1) := by decide +kernel
theorem dL_law_416 : decode cL_law 416 = .ok (.iaload, 1) := by decide +kernel
theorem dL_law_417 : decode cL_law 417 = .ok (.i2l, 1) := by decide +kernel
theorem dL_law_418 : decode cL_law 418 = .ok (.bipush 32, 2) := by decide +kernel
theorem dL_law_420 : decode cL_law 420 = .ok (.lshl, 1) := by decide +kernel
theorem dL_law_421 : decode cL_law 421 = .ok (.aload_n 0, 1) := by decide +kernel
theorem dL_law_422 : decode cL_law 422 = .ok (.iload 4, 2) := by decide +kernel
theorem dL_law_424 : decode cL_law 424 = .ok (.iconst 2, 1) := by decide +kernel
theorem dL_law_425 : decode cL_law 425 = .ok (.iadd, 1) := by decide +kernel
theorem dL_law_426 : decode cL_law 426 = .ok (.iaload, 1) := by decide +kernel
theorem dL_law_427 : decode cL_law 427 = .ok (.i2l, 1) := by decide +kernel
theorem dL_law_428 : decode cL_law 428 = .ok (.ldc2_w 79, 3) := by decide +kernel
theorem dL_law_431 : decode cL_law 431 = .ok (.land, 1) := by decide +kernel
theorem dL_law_432 : decode cL_law 432 = .ok (.lor, 1) := by decide +kernel
theorem dL_law_433 : decode cL_law 433 = .ok (.invokevirtual 85, 3) := by decide +kernel
theorem dL_law_436 : decode cL_law 436 = .ok (.if_icmp .eq 689, 3) := by decide +kernel
theorem dL_law_439 : decode cL_law 439 = .ok (.iconst 0, 1) := by decide +kernel
theorem dL_law_440 : decode cL_law 440 = .ok (.ireturn, 1) := by decide +kernel
theorem dL_law_441 : decode cL_law 441 = .ok (.aload_n 1, 1) := by decide +kernel
theorem dL_law_442 : decode cL_law 442 = .ok (.aload_n 0, 1) := by decide +kernel
theorem dL_law_443 : decode cL_law 443 = .ok (.iload 4, 2) := by decide +kernel
theorem dL_law_445 : decode cL_law 445 = .ok (.iconst 1, 1) := by decide +kernel
theorem dL_law_446 : decode cL_law 446 = .ok (.iadd, 1) := by decide +kernel
theorem dL_law_447 : decode cL_law 447 = .ok (.iaload, 1) := by decide +kernel
theorem dL_law_448 : decode cL_law 448 = .ok (.aload_n 0, 1) := by decide +kernel
theorem dL_law_449 : decode cL_law 449 = .ok (.iload 4, 2) := by decide +kernel
theorem dL_law_451 : decode cL_law 451 = .ok (.iconst 2, 1) := by decide +kernel
theorem dL_law_452 : decode cL_law 452 = .ok (.iadd, 1) := by decide +kernel
theorem dL_law_453 : decode cL_law 453 = .ok (.iaload, 1) := by decide +kernel
theorem dL_law_454 : decode cL_law 454 = .ok (.i2l, 1) := by decide +kernel
theorem dL_law_455 : decode cL_law 455 = .ok (.bipush 32, 2) := by decide +kernel
theorem dL_law_457 : decode cL_law 457 = .ok (.lshl, 1) := by decide +kernel
theorem dL_law_458 : decode cL_law 458 = .ok (.aload_n 0, 1) := by decide +kernel
theorem dL_law_459 : decode cL_law 459 = .ok (.iload 4, 2) := by decide +kernel
theorem dL_law_461 : decode cL_law 461 = .ok (.iconst 3, 1) := by decide +kernel
theorem dL_law_462 : decode cL_law 462 = .ok (.iadd, 1) := by decide +kernel
theorem dL_law_463 : decode cL_law 463 = .ok (.iaload, 1) := by decide +kernel
theorem dL_law_464 : decode cL_law 464 = .ok (.i2l, 1) := by decide +kernel
theorem dL_law_465 : decode cL_law 465 = .ok (.ldc2_w 79, 3) := by decide +kernel
theorem dL_law_468 : decode cL_law 468 = .ok (.land, 1) := by decide +kernel
theorem dL_law_469 : decode cL_law 469 = .ok (.lor, 1) := by decide +kernel
theorem dL_law_470 : decode cL_law 470 = .ok (.aload_n 3, 1) := by decide +kernel
theorem dL_law_471 : decode cL_law 471 = .ok (.invokestatic 86, 3) := by decide +kernel
theorem dL_law_474 : decode cL_law 474 = .ok (.istore 5, 2) := by decide +kernel
theorem dL_law_476 : decode cL_law 476 = .ok (.aload_n 2, 1) := by decide +kernel
theorem dL_law_477 : decode cL_law 477 = .ok (.aload_n 0, 1) := by decide +kernel
theorem dL_law_478 : decode cL_law 478 = .ok (.iload 4, 2) := by decide +kernel
theorem dL_law_480 : decode cL_law 480 = .ok (.iconst 1, 1) := by decide +kernel
theorem dL_law_481 : decode cL_law 481 = .ok (.iadd, 1) := by decide +kernel
theorem dL_law_482 : decode cL_law 482 = .ok (.iaload, 1) := by decide +kernel
theorem dL_law_483 : decode cL_law 483 = .ok (.aload_n 0, 1) := by decide +kernel
theorem dL_law_484 : decode cL_law 484 = .ok (.iload 4, 2) := by decide +kernel
theorem dL_law_486 : decode cL_law 486 = .ok (.iconst 2, 1) := by decide +kernel
theorem dL_law_487 : decode cL_law 487 = .ok (.iadd, 1) := by decide +kernel
theorem dL_law_488 : decode cL_law 488 = .ok (.iaload, 1) := by decide +kernel
theorem dL_law_489 : decode cL_law 489 = .ok (.i2l, 1) := by decide +kernel
theorem dL_law_490 : decode cL_law 490 = .ok (.bipush 32, 2) := by decide +kernel
theorem dL_law_492 : decode cL_law 492 = .ok (.lshl, 1) := by decide +kernel
theorem dL_law_493 : decode cL_law 493 = .ok (.aload_n 0, 1) := by decide +kernel
theorem dL_law_494 : decode cL_law 494 = .ok (.iload 4, 2) := by decide +kernel
theorem dL_law_496 : decode cL_law 496 = .ok (.iconst 3, 1) := by decide +kernel
theorem dL_law_497 : decode cL_law 497 = .ok (.iadd, 1) := by decide +kernel
theorem dL_law_498 : decode cL_law 498 = .ok (.iaload, 1) := by decide +kernel
theorem dL_law_499 : decode cL_law 499 = .ok (.i2l, 1) := by decide +kernel
theorem dL_law_500 : decode cL_law 500 = .ok (.ldc2_w 79, 3) := by decide +kernel
theorem dL_law_503 : decode cL_law 503 = .ok (.land, 1) := by decide +kernel
theorem dL_law_504 : decode cL_law 504 = .ok (.lor, 1) := by decide +kernel
theorem dL_law_505 : decode cL_law 505 = .ok (.invokevirtual 89, 3) := by decide +kernel
theorem dL_law_508 : decode cL_law 508 = .ok (.lstore 6, 2) := by decide +kernel
theorem dL_law_510 : decode cL_law 510 = .ok (.aload_n 2, 1) := by decide +kernel
theorem dL_law_511 : decode cL_law 511 = .ok (.invokevirtual 67, 3) := by decide +kernel
theorem dL_law_514 : decode cL_law 514 = .ok (.iload 5, 2) := by decide +kernel
theorem dL_law_516 : decode cL_law 516 = .ok (.if_icmp .eq 5, 3) := by decide +kernel
theorem dL_law_519 : decode cL_law 519 = .ok (.iconst 0, 1) := by decide +kernel
theorem dL_law_520 : decode cL_law 520 = .ok (.ireturn, 1) := by decide +kernel
theorem dL_law_521 : decode cL_law 521 = .ok (.iload 5, 2) := by decide +kernel
theorem dL_law_523 : decode cL_law 523 = .ok (.ifCond .ne 14, 3) := by decide +kernel
theorem dL_law_526 : decode cL_law 526 = .ok (.aload_n 3, 1) := by decide +kernel
theorem dL_law_527 : decode cL_law 527 = .ok (.iconst 0, 1) := by decide +kernel
theorem dL_law_528 : decode cL_law 528 = .ok (.laload, 1) := by decide +kernel
theorem dL_law_529 : decode cL_law 529 = .ok (.lload 6, 2) := by decide +kernel
theorem dL_law_531 : decode cL_law 531 = .ok (.lcmp, 1) := by decide +kernel
theorem dL_law_532 : decode cL_law 532 = .ok (.ifCond .eq 5, 3) := by decide +kernel
theorem dL_law_535 : decode cL_law 535 = .ok (.iconst 0, 1) := by decide +kernel
theorem dL_law_536 : decode cL_law 536 = .ok (.ireturn, 1) := by decide +kernel
theorem dL_law_537 : decode cL_law 537 = .ok (.goto 588, 3) := by decide +kernel
theorem dL_law_540 : decode cL_law 540 = .ok (.aload_n 1, 1) := by decide +kernel
theorem dL_law_541 : decode cL_law 541 = .ok (.aload_n 0, 1) := by decide +kernel
theorem dL_law_542 : decode cL_law 542 = .ok (.iload 4, 2) := by decide +kernel
theorem dL_law_544 : decode cL_law 544 = .ok (.iconst 1, 1) := by decide +kernel
theorem dL_law_545 : decode cL_law 545 = .ok (.iadd, 1) := by decide +kernel
theorem dL_law_546 : decode cL_law 546 = .ok (.iaload, 1) := by decide +kernel
theorem dL_law_547 : decode cL_law 547 = .ok (.aload_n 3, 1) := by decide +kernel
theorem dL_law_548 : decode cL_law 548 = .ok (.invokestatic 90, 3) := by decide +kernel
theorem dL_law_551 : decode cL_law 551 = .ok (.istore 5, 2) := by decide +kernel
theorem dL_law_553 : decode cL_law 553 = .ok (.aload_n 2, 1) := by decide +kernel
theorem dL_law_554 : decode cL_law 554 = .ok (.aload_n 0, 1) := by decide +kernel
theorem dL_law_555 : decode cL_law 555 = .ok (.iload 4, 2) := by decide +kernel
theorem dL_law_557 : decode cL_law 557 = .ok (.iconst 1, 1) := by decide +kernel
theorem dL_law_558 : decode cL_law 558 = .ok (.iadd, 1) := by decide +kernel
theorem dL_law_559 : decode cL_law 559 = .ok (.iaload, 1) := by decide +kernel
theorem dL_law_560 : decode cL_law 560 = .ok (.invokevirtual 93, 3) := by decide +kernel
theorem dL_law_563 : decode cL_law 563 = .ok (.lstore 6, 2) := by decide +kernel
theorem dL_law_565 : decode cL_law 565 = .ok (.aload_n 2, 1) := by decide +kernel
theorem dL_law_566 : decode cL_law 566 = .ok (.invokevirtual 67, 3) := by decide +kernel
theorem dL_law_569 : decode cL_law 569 = .ok (.iload 5, 2) := by decide +kernel
theorem dL_law_571 : decode cL_law 571 = .ok (.if_icmp .eq 5, 3) := by decide +kernel
theorem dL_law_574 : decode cL_law 574 = .ok (.iconst 0, 1) := by decide +kernel
theorem dL_law_575 : decode cL_law 575 = .ok (.ireturn, 1) := by decide +kernel
theorem dL_law_576 : decode cL_law 576 = .ok (.iload 5, 2) := by decide +kernel
theorem dL_law_578 : decode cL_law 578 = .ok (.ifCond .ne 14, 3) := by decide +kernel
theorem dL_law_581 : decode cL_law 581 = .ok (.aload_n 3, 1) := by decide +kernel
theorem dL_law_582 : decode cL_law 582 = .ok (.iconst 0, 1) := by decide +kernel
theorem dL_law_583 : decode cL_law 583 = .ok (.laload, 1) := by decide +kernel
theorem dL_law_584 : decode cL_law 584 = .ok (.lload 6, 2) := by decide +kernel
theorem dL_law_586 : decode cL_law 586 = .ok (.lcmp, 1) := by decide +kernel
theorem dL_law_587 : decode cL_law 587 = .ok (.ifCond .eq 5, 3) := by decide +kernel
theorem dL_law_590 : decode cL_law 590 = .ok (.iconst 0, 1) := by decide +kernel
theorem dL_law_591 : decode cL_law 591 = .ok (.ireturn, 1) := by decide +kernel
theorem dL_law_592 : decode cL_law 592 = .ok (.goto 533, 3) := by decide +kernel
theorem dL_law_595 : decode cL_law 595 = .ok (.aload_n 1, 1) := by decide +kernel
theorem dL_law_596 : decode cL_law 596 = .ok (.aload_n 0, 1) := by decide +kernel
theorem dL_law_597 : decode cL_law 597 = .ok (.iload 4, 2) := by decide +kernel
theorem dL_law_599 : decode cL_law 599 = .ok (.iconst 1, 1) := by decide +kernel
theorem dL_law_600 : decode cL_law 600 = .ok (.iadd, 1) := by decide +kernel
theorem dL_law_601 : decode cL_law 601 = .ok (.iaload, 1) := by decide +kernel
theorem dL_law_602 : decode cL_law 602 = .ok (.aload_n 3, 1) := by decide +kernel
theorem dL_law_603 : decode cL_law 603 = .ok (.invokestatic 94, 3) := by decide +kernel
theorem dL_law_606 : decode cL_law 606 = .ok (.istore 5, 2) := by decide +kernel
theorem dL_law_608 : decode cL_law 608 = .ok (.aload_n 2, 1) := by decide +kernel
theorem dL_law_609 : decode cL_law 609 = .ok (.aload_n 0, 1) := by decide +kernel
theorem dL_law_610 : decode cL_law 610 = .ok (.iload 4, 2) := by decide +kernel
theorem dL_law_612 : decode cL_law 612 = .ok (.iconst 1, 1) := by decide +kernel
theorem dL_law_613 : decode cL_law 613 = .ok (.iadd, 1) := by decide +kernel
theorem dL_law_614 : decode cL_law 614 = .ok (.iaload, 1) := by decide +kernel
theorem dL_law_615 : decode cL_law 615 = .ok (.invokevirtual 96, 3) := by decide +kernel
theorem dL_law_618 : decode cL_law 618 = .ok (.istore 6, 2) := by decide +kernel
theorem dL_law_620 : decode cL_law 620 = .ok (.aload_n 2, 1) := by decide +kernel
theorem dL_law_621 : decode cL_law 621 = .ok (.invokevirtual 67, 3) := by decide +kernel
theorem dL_law_624 : decode cL_law 624 = .ok (.iload 5, 2) := by decide +kernel
theorem dL_law_626 : decode cL_law 626 = .ok (.if_icmp .eq 5, 3) := by decide +kernel
theorem dL_law_629 : decode cL_law 629 = .ok (.iconst 0, 1) := by decide +kernel
theorem dL_law_630 : decode cL_law 630 = .ok (.ireturn, 1) := by decide +kernel
theorem dL_law_631 : decode cL_law 631 = .ok (.iload 5, 2) := by decide +kernel
theorem dL_law_633 : decode cL_law 633 = .ok (.ifCond .ne 15, 3) := by decide +kernel
theorem dL_law_636 : decode cL_law 636 = .ok (.aload_n 3, 1) := by decide +kernel
theorem dL_law_637 : decode cL_law 637 = .ok (.iconst 0, 1) := by decide +kernel
theorem dL_law_638 : decode cL_law 638 = .ok (.laload, 1) := by decide +kernel
theorem dL_law_639 : decode cL_law 639 = .ok (.iload 6, 2) := by decide +kernel
theorem dL_law_641 : decode cL_law 641 = .ok (.i2l, 1) := by decide +kernel
theorem dL_law_642 : decode cL_law 642 = .ok (.lcmp, 1) := by decide +kernel
theorem dL_law_643 : decode cL_law 643 = .ok (.ifCond .eq 5, 3) := by decide +kernel
theorem dL_law_646 : decode cL_law 646 = .ok (.iconst 0, 1) := by decide +kernel
theorem dL_law_647 : decode cL_law 647 = .ok (.ireturn, 1) := by decide +kernel
theorem dL_law_648 : decode cL_law 648 = .ok (.goto 477, 3) := by decide +kernel
theorem dL_law_651 : decode cL_law 651 = .ok (.aload_n 1, 1) := by decide +kernel
theorem dL_law_652 : decode cL_law 652 = .ok (.aload_n 0, 1) := by decide +kernel
theorem dL_law_653 : decode cL_law 653 = .ok (.iload 4, 2) := by decide +kernel
theorem dL_law_655 : decode cL_law 655 = .ok (.iconst 1, 1) := by decide +kernel
theorem dL_law_656 : decode cL_law 656 = .ok (.iadd, 1) := by decide +kernel
theorem dL_law_657 : decode cL_law 657 = .ok (.iaload, 1) := by decide +kernel
theorem dL_law_658 : decode cL_law 658 = .ok (.aload_n 3, 1) := by decide +kernel
theorem dL_law_659 : decode cL_law 659 = .ok (.invokestatic 97, 3) := by decide +kernel
theorem dL_law_662 : decode cL_law 662 = .ok (.istore 5, 2) := by decide +kernel
theorem dL_law_664 : decode cL_law 664 = .ok (.aload_n 2, 1) := by decide +kernel
theorem dL_law_665 : decode cL_law 665 = .ok (.aload_n 0, 1) := by decide +kernel
theorem dL_law_666 : decode cL_law 666 = .ok (.iload 4, 2) := by decide +kernel
theorem dL_law_668 : decode cL_law 668 = .ok (.iconst 1, 1) := by decide +kernel
theorem dL_law_669 : decode cL_law 669 = .ok (.iadd, 1) := by decide +kernel
theorem dL_law_670 : decode cL_law 670 = .ok (.iaload, 1) := by decide +kernel
theorem dL_law_671 : decode cL_law 671 = .ok (.invokevirtual 99, 3) := by decide +kernel
theorem dL_law_674 : decode cL_law 674 = .ok (.istore 6, 2) := by decide +kernel
theorem dL_law_676 : decode cL_law 676 = .ok (.aload_n 2, 1) := by decide +kernel
theorem dL_law_677 : decode cL_law 677 = .ok (.invokevirtual 67, 3) := by decide +kernel
theorem dL_law_680 : decode cL_law 680 = .ok (.iload 5, 2) := by decide +kernel
theorem dL_law_682 : decode cL_law 682 = .ok (.if_icmp .eq 5, 3) := by decide +kernel
theorem dL_law_685 : decode cL_law 685 = .ok (.iconst 0, 1) := by decide +kernel
theorem dL_law_686 : decode cL_law 686 = .ok (.ireturn, 1) := by decide +kernel
theorem dL_law_687 : decode cL_law 687 = .ok (.iload 5, 2) := by decide +kernel
theorem dL_law_689 : decode cL_law 689 = .ok (.ifCond .ne 15, 3) := by decide +kernel
theorem dL_law_692 : decode cL_law 692 = .ok (.aload_n 3, 1) := by decide +kernel
theorem dL_law_693 : decode cL_law 693 = .ok (.iconst 0, 1) := by decide +kernel
theorem dL_law_694 : decode cL_law 694 = .ok (.laload, 1) := by decide +kernel
theorem dL_law_695 : decode cL_law 695 = .ok (.iload 6, 2) := by decide +kernel
theorem dL_law_697 : decode cL_law 697 = .ok (.i2l, 1) := by decide +kernel
theorem dL_law_698 : decode cL_law 698 = .ok (.lcmp, 1) := by decide +kernel
theorem dL_law_699 : decode cL_law 699 = .ok (.ifCond .eq 5, 3) := by decide +kernel
theorem dL_law_702 : decode cL_law 702 = .ok (.iconst 0, 1) := by decide +kernel
theorem dL_law_703 : decode cL_law 703 = .ok (.ireturn, 1) := by decide +kernel
theorem dL_law_704 : decode cL_law 704 = .ok (.goto 421, 3) := by decide +kernel
theorem dL_law_707 : decode cL_law 707 = .ok (.aload_n 1, 1) := by decide +kernel
theorem dL_law_708 : decode cL_law 708 = .ok (.aload_n 0, 1) := by decide +kernel
theorem dL_law_709 : decode cL_law 709 = .ok (.iload 4, 2) := by decide +kernel
theorem dL_law_711 : decode cL_law 711 = .ok (.iconst 1, 1) := by decide +kernel
theorem dL_law_712 : decode cL_law 712 = .ok (.iadd, 1) := by decide +kernel
theorem dL_law_713 : decode cL_law 713 = .ok (.iaload, 1) := by decide +kernel
theorem dL_law_714 : decode cL_law 714 = .ok (.aload_n 3, 1) := by decide +kernel
theorem dL_law_715 : decode cL_law 715 = .ok (.invokestatic 100, 3) := by decide +kernel
theorem dL_law_718 : decode cL_law 718 = .ok (.istore 5, 2) := by decide +kernel
theorem dL_law_720 : decode cL_law 720 = .ok (.aload_n 2, 1) := by decide +kernel
theorem dL_law_721 : decode cL_law 721 = .ok (.aload_n 0, 1) := by decide +kernel
theorem dL_law_722 : decode cL_law 722 = .ok (.iload 4, 2) := by decide +kernel
theorem dL_law_724 : decode cL_law 724 = .ok (.iconst 1, 1) := by decide +kernel
theorem dL_law_725 : decode cL_law 725 = .ok (.iadd, 1) := by decide +kernel
theorem dL_law_726 : decode cL_law 726 = .ok (.iaload, 1) := by decide +kernel
theorem dL_law_727 : decode cL_law 727 = .ok (.invokevirtual 102, 3) := by decide +kernel
theorem dL_law_730 : decode cL_law 730 = .ok (.istore 6, 2) := by decide +kernel
theorem dL_law_732 : decode cL_law 732 = .ok (.aload_n 2, 1) := by decide +kernel
theorem dL_law_733 : decode cL_law 733 = .ok (.invokevirtual 67, 3) := by decide +kernel
theorem dL_law_736 : decode cL_law 736 = .ok (.iload 5, 2) := by decide +kernel
theorem dL_law_738 : decode cL_law 738 = .ok (.if_icmp .eq 5, 3) := by decide +kernel
theorem dL_law_741 : decode cL_law 741 = .ok (.iconst 0, 1) := by decide +kernel
theorem dL_law_742 : decode cL_law 742 = .ok (.ireturn, 1) := by decide +kernel
theorem dL_law_743 : decode cL_law 743 = .ok (.iload 5, 2) := by decide +kernel
theorem dL_law_745 : decode cL_law 745 = .ok (.ifCond .ne 15, 3) := by decide +kernel
theorem dL_law_748 : decode cL_law 748 = .ok (.aload_n 3, 1) := by decide +kernel
theorem dL_law_749 : decode cL_law 749 = .ok (.iconst 0, 1) := by decide +kernel
theorem dL_law_750 : decode cL_law 750 = .ok (.laload, 1) := by decide +kernel
theorem dL_law_751 : decode cL_law 751 = .ok (.iload 6, 2) := by decide +kernel
theorem dL_law_753 : decode cL_law 753 = .ok (.i2l, 1) := by decide +kernel
theorem dL_law_754 : decode cL_law 754 = .ok (.lcmp, 1) := by decide +kernel
theorem dL_law_755 : decode cL_law 755 = .ok (.ifCond .eq 5, 3) := by decide +kernel
theorem dL_law_758 : decode cL_law 758 = .ok (.iconst 0, 1) := by decide +kernel
theorem dL_law_759 : decode cL_law 759 = .ok (.ireturn, 1) := by decide +kernel
theorem dL_law_760 : decode cL_law 760 = .ok (.goto 365, 3) := by decide +kernel
theorem dL_law_763 : decode cL_law 763 = .ok (.aload_n 1, 1) := by decide +kernel
theorem dL_law_764 : decode cL_law 764 = .ok (.invokevirtual 103, 3) := by decide +kernel
theorem dL_law_767 : decode cL_law 767 = .ok (.aload_n 2, 1) := by decide +kernel
theorem dL_law_768 : decode cL_law 768 = .ok (.invokevirtual 106, 3) := by decide +kernel
theorem dL_law_771 : decode cL_law 771 = .ok (.if_icmp .eq 354, 3) := by decide +kernel
theorem dL_law_774 : decode cL_law 774 = .ok (.iconst 0, 1) := by decide +kernel
theorem dL_law_775 : decode cL_law 775 = .ok (.ireturn, 1) := by decide +kernel
theorem dL_law_776 : decode cL_law 776 = .ok (.aload_n 1, 1) := by decide +kernel
theorem dL_law_777 : decode cL_law 777 = .ok (.aload_n 0, 1) := by decide +kernel
theorem dL_law_778 : decode cL_law 778 = .ok (.iload 4, 2) := by decide +kernel
theorem dL_law_780 : decode cL_law 780 = .ok (.iconst 1, 1) := by decide +kernel
theorem dL_law_781 : decode cL_law 781 = .ok (.iadd, 1) := by decide +kernel
theorem dL_law_782 : decode cL_law 782 = .ok (.iaload, 1) := by decide +kernel
theorem dL_law_783 : decode cL_law 783 = .ok (.aload_n 0, 1) := by decide +kernel
theorem dL_law_784 : decode cL_law 784 = .ok (.iload 4, 2) := by decide +kernel
theorem dL_law_786 : decode cL_law 786 = .ok (.iconst 2, 1) := by decide +kernel
theorem dL_law_787 : decode cL_law 787 = .ok (.iadd, 1) := by decide +kernel
theorem dL_law_788 : decode cL_law 788 = .ok (.iaload, 1) := by decide +kernel
theorem dL_law_789 : decode cL_law 789 = .ok (.aload_n 3, 1) := by decide +kernel
theorem dL_law_790 : decode cL_law 790 = .ok (.invokestatic 107, 3) := by decide +kernel
theorem dL_law_793 : decode cL_law 793 = .ok (.istore 5, 2) := by decide +kernel
theorem dL_law_795 : decode cL_law 795 = .ok (.aload_n 2, 1) := by decide +kernel
theorem dL_law_796 : decode cL_law 796 = .ok (.aload_n 0, 1) := by decide +kernel
theorem dL_law_797 : decode cL_law 797 = .ok (.iload 4, 2) := by decide +kernel
theorem dL_law_799 : decode cL_law 799 = .ok (.iconst 1, 1) := by decide +kernel
theorem dL_law_800 : decode cL_law 800 = .ok (.iadd, 1) := by decide +kernel
theorem dL_law_801 : decode cL_law 801 = .ok (.iaload, 1) := by decide +kernel
theorem dL_law_802 : decode cL_law 802 = .ok (.aload_n 0, 1) := by decide +kernel
theorem dL_law_803 : decode cL_law 803 = .ok (.iload 4, 2) := by decide +kernel
theorem dL_law_805 : decode cL_law 805 = .ok (.iconst 2, 1) := by decide +kernel
theorem dL_law_806 : decode cL_law 806 = .ok (.iadd, 1) := by decide +kernel
theorem dL_law_807 : decode cL_law 807 = .ok (.iaload, 1) := by decide +kernel
theorem dL_law_808 : decode cL_law 808 = .ok (.invokevirtual 109, 3) := by decide +kernel
theorem dL_law_811 : decode cL_law 811 = .ok (.istore 6, 2) := by decide +kernel
theorem dL_law_813 : decode cL_law 813 = .ok (.aload_n 2, 1) := by decide +kernel
theorem dL_law_814 : decode cL_law 814 = .ok (.invokevirtual 67, 3) := by decide +kernel
theorem dL_law_817 : decode cL_law 817 = .ok (.iload 5, 2) := by decide +kernel
theorem dL_law_819 : decode cL_law 819 = .ok (.if_icmp .eq 5, 3) := by decide +kernel
theorem dL_law_822 : decode cL_law 822 = .ok (.iconst 0, 1) := by decide +kernel
theorem dL_law_823 : decode cL_law 823 = .ok (.ireturn, 1) := by decide +kernel
theorem dL_law_824 : decode cL_law 824 = .ok (.iload 5, 2) := by decide +kernel
theorem dL_law_826 : decode cL_law 826 = .ok (.ifCond .ne 15, 3) := by decide +kernel
theorem dL_law_829 : decode cL_law 829 = .ok (.aload_n 3, 1) := by decide +kernel
theorem dL_law_830 : decode cL_law 830 = .ok (.iconst 0, 1) := by decide +kernel
theorem dL_law_831 : decode cL_law 831 = .ok (.laload, 1) := by decide +kernel
theorem dL_law_832 : decode cL_law 832 = .ok (.iload 6, 2) := by decide +kernel
theorem dL_law_834 : decode cL_law 834 = .ok (.i2l, 1) := by decide +kernel
theorem dL_law_835 : decode cL_law 835 = .ok (.lcmp, 1) := by decide +kernel
theorem dL_law_836 : decode cL_law 836 = .ok (.ifCond .eq 5, 3) := by decide +kernel
theorem dL_law_839 : decode cL_law 839 = .ok (.iconst 0, 1) := by decide +kernel
theorem dL_law_840 : decode cL_law 840 = .ok (.ireturn, 1) := by decide +kernel
theorem dL_law_841 : decode cL_law 841 = .ok (.goto 284, 3) := by decide +kernel
theorem dL_law_844 : decode cL_law 844 = .ok (.aload_n 1, 1) := by decide +kernel
theorem dL_law_845 : decode cL_law 845 = .ok (.aload_n 0, 1) := by decide +kernel
theorem dL_law_846 : decode cL_law 846 = .ok (.iload 4, 2) := by decide +kernel
theorem dL_law_848 : decode cL_law 848 = .ok (.iconst 1, 1) := by decide +kernel
theorem dL_law_849 : decode cL_law 849 = .ok (.iadd, 1) := by decide +kernel
theorem dL_law_850 : decode cL_law 850 = .ok (.iaload, 1) := by decide +kernel
theorem dL_law_851 : decode cL_law 851 = .ok (.aload_n 0, 1) := by decide +kernel
theorem dL_law_852 : decode cL_law 852 = .ok (.iload 4, 2) := by decide +kernel
theorem dL_law_854 : decode cL_law 854 = .ok (.iconst 2, 1) := by decide +kernel
theorem dL_law_855 : decode cL_law 855 = .ok (.iadd, 1) := by decide +kernel
theorem dL_law_856 : decode cL_law 856 = .ok (.iaload, 1) := by decide +kernel
theorem dL_law_857 : decode cL_law 857 = .ok (.aload_n 3, 1) := by decide +kernel
theorem dL_law_858 : decode cL_law 858 = .ok (.invokestatic 110, 3) := by decide +kernel
theorem dL_law_861 : decode cL_law 861 = .ok (.istore 5, 2) := by decide +kernel
theorem dL_law_863 : decode cL_law 863 = .ok (.aload_n 2, 1) := by decide +kernel
theorem dL_law_864 : decode cL_law 864 = .ok (.aload_n 0, 1) := by decide +kernel
theorem dL_law_865 : decode cL_law 865 = .ok (.iload 4, 2) := by decide +kernel
theorem dL_law_867 : decode cL_law 867 = .ok (.iconst 1, 1) := by decide +kernel
theorem dL_law_868 : decode cL_law 868 = .ok (.iadd, 1) := by decide +kernel
theorem dL_law_869 : decode cL_law 869 = .ok (.iaload, 1) := by decide +kernel
theorem dL_law_870 : decode cL_law 870 = .ok (.aload_n 0, 1) := by decide +kernel
theorem dL_law_871 : decode cL_law 871 = .ok (.iload 4, 2) := by decide +kernel
theorem dL_law_873 : decode cL_law 873 = .ok (.iconst 2, 1) := by decide +kernel
theorem dL_law_874 : decode cL_law 874 = .ok (.iadd, 1) := by decide +kernel
theorem dL_law_875 : decode cL_law 875 = .ok (.iaload, 1) := by decide +kernel
theorem dL_law_876 : decode cL_law 876 = .ok (.invokevirtual 112, 3) := by decide +kernel
theorem dL_law_879 : decode cL_law 879 = .ok (.istore 6, 2) := by decide +kernel
theorem dL_law_881 : decode cL_law 881 = .ok (.aload_n 2, 1) := by decide +kernel
theorem dL_law_882 : decode cL_law 882 = .ok (.invokevirtual 67, 3) := by decide +kernel
theorem dL_law_885 : decode cL_law 885 = .ok (.iload 5, 2) := by decide +kernel
theorem dL_law_887 : decode cL_law 887 = .ok (.if_icmp .eq 5, 3) := by decide +kernel
theorem dL_law_890 : decode cL_law 890 = .ok (.iconst 0, 1) := by decide +kernel
theorem dL_law_891 : decode cL_law 891 = .ok (.ireturn, 1) := by decide +kernel
theorem dL_law_892 : decode cL_law 892 = .ok (.iload 5, 2) := by decide +kernel
theorem dL_law_894 : decode cL_law 894 = .ok (.ifCond .ne 15, 3) := by decide +kernel
theorem dL_law_897 : decode cL_law 897 = .ok (.aload_n 3, 1) := by decide +kernel
theorem dL_law_898 : decode cL_law 898 = .ok (.iconst 0, 1) := by decide +kernel
theorem dL_law_899 : decode cL_law 899 = .ok (.laload, 1) := by decide +kernel
theorem dL_law_900 : decode cL_law 900 = .ok (.iload 6, 2) := by decide +kernel
theorem dL_law_902 : decode cL_law 902 = .ok (.i2l, 1) := by decide +kernel
theorem dL_law_903 : decode cL_law 903 = .ok (.lcmp, 1) := by decide +kernel
theorem dL_law_904 : decode cL_law 904 = .ok (.ifCond .eq 5, 3) := by decide +kernel
theorem dL_law_907 : decode cL_law 907 = .ok (.iconst 0, 1) := by decide +kernel
theorem dL_law_908 : decode cL_law 908 = .ok (.ireturn, 1) := by decide +kernel
theorem dL_law_909 : decode cL_law 909 = .ok (.goto 216, 3) := by decide +kernel
theorem dL_law_912 : decode cL_law 912 = .ok (.aload_n 1, 1) := by decide +kernel
theorem dL_law_913 : decode cL_law 913 = .ok (.aload_n 0, 1) := by decide +kernel
theorem dL_law_914 : decode cL_law 914 = .ok (.iload 4, 2) := by decide +kernel
theorem dL_law_916 : decode cL_law 916 = .ok (.iconst 1, 1) := by decide +kernel
theorem dL_law_917 : decode cL_law 917 = .ok (.iadd, 1) := by decide +kernel
theorem dL_law_918 : decode cL_law 918 = .ok (.iaload, 1) := by decide +kernel
theorem dL_law_919 : decode cL_law 919 = .ok (.aload_n 3, 1) := by decide +kernel
theorem dL_law_920 : decode cL_law 920 = .ok (.invokestatic 113, 3) := by decide +kernel
theorem dL_law_923 : decode cL_law 923 = .ok (.istore 5, 2) := by decide +kernel
theorem dL_law_925 : decode cL_law 925 = .ok (.aload_n 2, 1) := by decide +kernel
theorem dL_law_926 : decode cL_law 926 = .ok (.aload_n 0, 1) := by decide +kernel
theorem dL_law_927 : decode cL_law 927 = .ok (.iload 4, 2) := by decide +kernel
theorem dL_law_929 : decode cL_law 929 = .ok (.iconst 1, 1) := by decide +kernel
theorem dL_law_930 : decode cL_law 930 = .ok (.iadd, 1) := by decide +kernel
theorem dL_law_931 : decode cL_law 931 = .ok (.iaload, 1) := by decide +kernel
theorem dL_law_932 : decode cL_law 932 = .ok (.invokevirtual 115, 3) := by decide +kernel
theorem dL_law_935 : decode cL_law 935 = .ok (.istore 6, 2) := by decide +kernel
theorem dL_law_937 : decode cL_law 937 = .ok (.aload_n 2, 1) := by decide +kernel
theorem dL_law_938 : decode cL_law 938 = .ok (.invokevirtual 67, 3) := by decide +kernel
theorem dL_law_941 : decode cL_law 941 = .ok (.iload 5, 2) := by decide +kernel
theorem dL_law_943 : decode cL_law 943 = .ok (.if_icmp .eq 5, 3) := by decide +kernel
theorem dL_law_946 : decode cL_law 946 = .ok (.iconst 0, 1) := by decide +kernel
theorem dL_law_947 : decode cL_law 947 = .ok (.ireturn, 1) := by decide +kernel
theorem dL_law_948 : decode cL_law 948 = .ok (.iload 5, 2) := by decide +kernel
theorem dL_law_950 : decode cL_law 950 = .ok (.ifCond .ne 15, 3) := by decide +kernel
theorem dL_law_953 : decode cL_law 953 = .ok (.aload_n 3, 1) := by decide +kernel
theorem dL_law_954 : decode cL_law 954 = .ok (.iconst 0, 1) := by decide +kernel
theorem dL_law_955 : decode cL_law 955 = .ok (.laload, 1) := by decide +kernel
theorem dL_law_956 : decode cL_law 956 = .ok (.iload 6, 2) := by decide +kernel
theorem dL_law_958 : decode cL_law 958 = .ok (.i2l, 1) := by decide +kernel
theorem dL_law_959 : decode cL_law 959 = .ok (.lcmp, 1) := by decide +kernel
theorem dL_law_960 : decode cL_law 960 = .ok (.ifCond .eq 5, 3) := by decide +kernel
theorem dL_law_963 : decode cL_law 963 = .ok (.iconst 0, 1) := by decide +kernel
theorem dL_law_964 : decode cL_law 964 = .ok (.ireturn, 1) := by decide +kernel
theorem dL_law_965 : decode cL_law 965 = .ok (.goto 160, 3) := by decide +kernel
theorem dL_law_968 : decode cL_law 968 = .ok (.aload_n 1, 1) := by decide +kernel
theorem dL_law_969 : decode cL_law 969 = .ok (.invokevirtual 116, 3) := by decide +kernel
theorem dL_law_972 : decode cL_law 972 = .ok (.aload_n 2, 1) := by decide +kernel
theorem dL_law_973 : decode cL_law 973 = .ok (.invokevirtual 119, 3) := by decide +kernel
theorem dL_law_976 : decode cL_law 976 = .ok (.if_icmp .eq 149, 3) := by decide +kernel
theorem dL_law_979 : decode cL_law 979 = .ok (.iconst 0, 1) := by decide +kernel
theorem dL_law_980 : decode cL_law 980 = .ok (.ireturn, 1) := by decide +kernel
theorem dL_law_981 : decode cL_law 981 = .ok (.aload_n 1, 1) := by decide +kernel
theorem dL_law_982 : decode cL_law 982 = .ok (.invokevirtual 120, 3) := by decide +kernel
theorem dL_law_985 : decode cL_law 985 = .ok (.aload_n 2, 1) := by decide +kernel
theorem dL_law_986 : decode cL_law 986 = .ok (.invokevirtual 123, 3) := by decide +kernel
theorem dL_law_989 : decode cL_law 989 = .ok (.if_icmp .eq 136, 3) := by decide +kernel
theorem dL_law_992 : decode cL_law 992 = .ok (.iconst 0, 1) := by decide +kernel
theorem dL_law_993 : decode cL_law 993 = .ok (.ireturn, 1) := by decide +kernel
theorem dL_law_994 : decode cL_law 994 = .ok (.aload_n 1, 1) := by decide +kernel
theorem dL_law_995 : decode cL_law 995 = .ok (.aload_n 0, 1) := by decide +kernel
theorem dL_law_996 : decode cL_law 996 = .ok (.iload 4, 2) := by decide +kernel
theorem dL_law_998 : decode cL_law 998 = .ok (.iconst 1, 1) := by decide +kernel
theorem dL_law_999 : decode cL_law 999 = .ok (.iadd, 1) := by decide +kernel
theorem dL_law_1000 : decode cL_law 1000 = .ok (.iaload, 1) := by decide +kernel
theorem dL_law_1001 : decode cL_law 1001 = .ok (.invokevirtual 124, 3) := by decide +kernel
theorem dL_law_1004 : decode cL_law 1004 = .ok (.aload_n 2, 1) := by decide +kernel
theorem dL_law_1005 : decode cL_law 1005 = .ok (.aload_n 0, 1) := by decide +kernel
theorem dL_law_1006 : decode cL_law 1006 = .ok (.iload 4, 2) := by decide +kernel
theorem dL_law_1008 : decode cL_law 1008 = .ok (.iconst 1, 1) := by decide +kernel
theorem dL_law_1009 : decode cL_law 1009 = .ok (.iadd, 1) := by decide +kernel
theorem dL_law_1010 : decode cL_law 1010 = .ok (.iaload, 1) := by decide +kernel
theorem dL_law_1011 : decode cL_law 1011 = .ok (.invokevirtual 127, 3) := by decide +kernel
theorem dL_law_1014 : decode cL_law 1014 = .ok (.if_icmp .eq 111, 3) := by decide +kernel
theorem dL_law_1017 : decode cL_law 1017 = .ok (.iconst 0, 1) := by decide +kernel
theorem dL_law_1018 : decode cL_law 1018 = .ok (.ireturn, 1) := by decide +kernel
theorem dL_law_1019 : decode cL_law 1019 = .ok (.aload_n 1, 1) := by decide +kernel
theorem dL_law_1020 : decode cL_law 1020 = .ok (.aload_n 0, 1) := by decide +kernel
theorem dL_law_1021 : decode cL_law 1021 = .ok (.iload 4, 2) := by decide +kernel
theorem dL_law_1023 : decode cL_law 1023 = .ok (.iconst 1, 1) := by decide +kernel
theorem dL_law_1024 : decode cL_law 1024 = .ok (.iadd, 1) := by decide +kernel
theorem dL_law_1025 : decode cL_law 1025 = .ok (.iaload, 1) := by decide +kernel
theorem dL_law_1026 : decode cL_law 1026 = .ok (.invokevirtual 128, 3) := by decide +kernel
theorem dL_law_1029 : decode cL_law 1029 = .ok (.aload_n 2, 1) := by decide +kernel
theorem dL_law_1030 : decode cL_law 1030 = .ok (.aload_n 0, 1) := by decide +kernel
theorem dL_law_1031 : decode cL_law 1031 = .ok (.iload 4, 2) := by decide +kernel
theorem dL_law_1033 : decode cL_law 1033 = .ok (.iconst 1, 1) := by decide +kernel
theorem dL_law_1034 : decode cL_law 1034 = .ok (.iadd, 1) := by decide +kernel
theorem dL_law_1035 : decode cL_law 1035 = .ok (.iaload, 1) := by decide +kernel
theorem dL_law_1036 : decode cL_law 1036 = .ok (.invokevirtual 131, 3) := by decide +kernel
theorem dL_law_1039 : decode cL_law 1039 = .ok (.if_icmp .eq 86, 3) := by decide +kernel
theorem dL_law_1042 : decode cL_law 1042 = .ok (.iconst 0, 1) := by decide +kernel
theorem dL_law_1043 : decode cL_law 1043 = .ok (.ireturn, 1) := by decide +kernel
theorem dL_law_1044 : decode cL_law 1044 = .ok (.aload_n 1, 1) := by decide +kernel
theorem dL_law_1045 : decode cL_law 1045 = .ok (.aload_n 0, 1) := by decide +kernel
theorem dL_law_1046 : decode cL_law 1046 = .ok (.iload 4, 2) := by decide +kernel
theorem dL_law_1048 : decode cL_law 1048 = .ok (.iconst 1, 1) := by decide +kernel
theorem dL_law_1049 : decode cL_law 1049 = .ok (.iadd, 1) := by decide +kernel
theorem dL_law_1050 : decode cL_law 1050 = .ok (.iaload, 1) := by decide +kernel
theorem dL_law_1051 : decode cL_law 1051 = .ok (.aload_n 3, 1) := by decide +kernel
theorem dL_law_1052 : decode cL_law 1052 = .ok (.invokestatic 132, 3) := by decide +kernel
theorem dL_law_1055 : decode cL_law 1055 = .ok (.istore 5, 2) := by decide +kernel
theorem dL_law_1057 : decode cL_law 1057 = .ok (.aload_n 2, 1) := by decide +kernel
theorem dL_law_1058 : decode cL_law 1058 = .ok (.aload_n 0, 1) := by decide +kernel
theorem dL_law_1059 : decode cL_law 1059 = .ok (.iload 4, 2) := by decide +kernel
theorem dL_law_1061 : decode cL_law 1061 = .ok (.iconst 1, 1) := by decide +kernel
theorem dL_law_1062 : decode cL_law 1062 = .ok (.iadd, 1) := by decide +kernel
theorem dL_law_1063 : decode cL_law 1063 = .ok (.iaload, 1) := by decide +kernel
theorem dL_law_1064 : decode cL_law 1064 = .ok (.invokevirtual 134, 3) := by decide +kernel
theorem dL_law_1067 : decode cL_law 1067 = .ok (.istore 6, 2) := by decide +kernel
theorem dL_law_1069 : decode cL_law 1069 = .ok (.aload_n 2, 1) := by decide +kernel
theorem dL_law_1070 : decode cL_law 1070 = .ok (.invokevirtual 67, 3) := by decide +kernel
theorem dL_law_1073 : decode cL_law 1073 = .ok (.iload 5, 2) := by decide +kernel
theorem dL_law_1075 : decode cL_law 1075 = .ok (.if_icmp .eq 5, 3) := by decide +kernel
theorem dL_law_1078 : decode cL_law 1078 = .ok (.iconst 0, 1) := by decide +kernel
theorem dL_law_1079 : decode cL_law 1079 = .ok (.ireturn, 1) := by decide +kernel
theorem dL_law_1080 : decode cL_law 1080 = .ok (.iload 5, 2) := by decide +kernel
theorem dL_law_1082 : decode cL_law 1082 = .ok (.ifCond .ne 15, 3) := by decide +kernel
theorem dL_law_1085 : decode cL_law 1085 = .ok (.aload_n 3, 1) := by decide +kernel
theorem dL_law_1086 : decode cL_law 1086 = .ok (.iconst 0, 1) := by decide +kernel
theorem dL_law_1087 : decode cL_law 1087 = .ok (.laload, 1) := by decide +kernel
theorem dL_law_1088 : decode cL_law 1088 = .ok (.iload 6, 2) := by decide +kernel
theorem dL_law_1090 : decode cL_law 1090 = .ok (.i2l, 1) := by decide +kernel
theorem dL_law_1091 : decode cL_law 1091 = .ok (.lcmp, 1) := by decide +kernel
theorem dL_law_1092 : decode cL_law 1092 = .ok (.ifCond .eq 5, 3) := by decide +kernel
theorem dL_law_1095 : decode cL_law 1095 = .ok (.iconst 0, 1) := by decide +kernel
theorem dL_law_1096 : decode cL_law 1096 = .ok (.ireturn, 1) := by decide +kernel
theorem dL_law_1097 : decode cL_law 1097 = .ok (.goto 28, 3) := by decide +kernel
theorem dL_law_1100 : decode cL_law 1100 = .ok (.aload_n 1, 1) := by decide +kernel
theorem dL_law_1101 : decode cL_law 1101 = .ok (.aload_n 0, 1) := by decide +kernel
theorem dL_law_1102 : decode cL_law 1102 = .ok (.iload 4, 2) := by decide +kernel
theorem dL_law_1104 : decode cL_law 1104 = .ok (.iconst 1, 1) := by decide +kernel
theorem dL_law_1105 : decode cL_law 1105 = .ok (.iadd, 1) := by decide +kernel
theorem dL_law_1106 : decode cL_law 1106 = .ok (.iaload, 1) := by decide +kernel
theorem dL_law_1107 : decode cL_law 1107 = .ok (.invokevirtual 135, 3) := by decide +kernel
theorem dL_law_1110 : decode cL_law 1110 = .ok (.aload_n 2, 1) := by decide +kernel
theorem dL_law_1111 : decode cL_law 1111 = .ok (.aload_n 0, 1) := by decide +kernel
theorem dL_law_1112 : decode cL_law 1112 = .ok (.iload 4, 2) := by decide +kernel
theorem dL_law_1114 : decode cL_law 1114 = .ok (.iconst 1, 1) := by decide +kernel
theorem dL_law_1115 : decode cL_law 1115 = .ok (.iadd, 1) := by decide +kernel
theorem dL_law_1116 : decode cL_law 1116 = .ok (.iaload, 1) := by decide +kernel
theorem dL_law_1117 : decode cL_law 1117 = .ok (.invokevirtual 138, 3) := by decide +kernel
theorem dL_law_1120 : decode cL_law 1120 = .ok (.if_icmp .eq 5, 3) := by decide +kernel
theorem dL_law_1123 : decode cL_law 1123 = .ok (.iconst 0, 1) := by decide +kernel
theorem dL_law_1124 : decode cL_law 1124 = .ok (.ireturn, 1) := by decide +kernel
theorem dL_law_1125 : decode cL_law 1125 = .ok (.iinc 4 6, 3) := by decide +kernel
theorem dL_law_1128 : decode cL_law 1128 = .ok (.goto (-1105), 3) := by decide +kernel
theorem dL_law_1131 : decode cL_law 1131 = .ok (.iconst 1, 1) := by decide +kernel
theorem dL_law_1132 : decode cL_law 1132 = .ok (.ireturn, 1) := by decide +kernel
