def RX0 : String := "HashgraphDesk$BitTable"
def TX0 : u_T := fun k => match k with
  | 0 => ("HashgraphDesk$BitTable", "rows", "I", true)
  | _ => ("HashgraphDesk$BitTable", "words", "[J", true)
def tyX0 : Nat → FieldType := fun k => match k with
  | 0 => .int
  | _ => .array .long
abbrev wsX00 : List Cond := u_ws RX0 TX0 2
theorem nmX0 : ∀ a, a < 2 → ∀ b, b < 2 → a ≠ b → (TX0 a).2.1 ≠ (TX0 b).2.1 := by decide +kernel
theorem tyX0_ok : ∀ k, k < 2 → parseFieldDescriptor (TX0 k).2.2.1 = some (tyX0 k) := by decide +kernel
abbrev cX0_init : ByteArray := prog_2_method_1_code
def yX0_init : MethodName := ⟨RX0, "<init>", "(I)V"⟩
abbrev cX0_clear : ByteArray := prog_2_method_2_code
def yX0_clear : MethodName := ⟨RX0, "clear", "()V"⟩
abbrev cX0_clearRow : ByteArray := prog_2_method_3_code
def yX0_clearRow : MethodName := ⟨RX0, "clearRow", "(I)V"⟩
abbrev cX0_has : ByteArray := prog_2_method_4_code
def yX0_has : MethodName := ⟨RX0, "has", "(II)Z"⟩
abbrev cX0_put : ByteArray := prog_2_method_5_code
def yX0_put : MethodName := ⟨RX0, "put", "(II)V"⟩
abbrev cX0_join : ByteArray := prog_2_method_6_code
def yX0_join : MethodName := ⟨RX0, "join", "(ILHashgraphDesk$BitTable;I)V"⟩
abbrev cX0_size : ByteArray := prog_2_method_7_code
def yX0_size : MethodName := ⟨RX0, "size", "(I)I"⟩
abbrev cX0_sizeInCommon : ByteArray := prog_2_method_8_code
def yX0_sizeInCommon : MethodName := ⟨RX0, "sizeInCommon", "(ILHashgraphDesk$BitTable;I)I"⟩
abbrev cX0_rowsWith : ByteArray := prog_2_method_9_code
def yX0_rowsWith : MethodName := ⟨RX0, "rowsWith", "(I)I"⟩
def RX1 : String := "HashgraphDesk$Election"
def TX1 : u_T := fun k => match k with
  | 0 => ("HashgraphDesk$Election", "events", "LHashgraphDesk$Events;", true)
  | 1 => ("HashgraphDesk$Election", "graph", "LHashgraphDesk$Graph;", true)
  | 2 => ("HashgraphDesk$Election", "witnesses", "[I", true)
  | 3 => ("HashgraphDesk$Election", "electors", "LHashgraphDesk$BitTable;", true)
  | 4 => ("HashgraphDesk$Election", "yesVotes", "LHashgraphDesk$BitTable;", true)
  | 5 => ("HashgraphDesk$Election", "decisions", "LHashgraphDesk$BitTable;", true)
  | 6 => ("HashgraphDesk$Election", "size", "I", false)
  | _ => ("HashgraphDesk$Election", "nodes", "I", false)
def tyX1 : Nat → FieldType := fun k => match k with
  | 0 => .object "HashgraphDesk$Events"
  | 1 => .object "HashgraphDesk$Graph"
  | 2 => .array .int
  | 3 => .object "HashgraphDesk$BitTable"
  | 4 => .object "HashgraphDesk$BitTable"
  | 5 => .object "HashgraphDesk$BitTable"
  | 6 => .int
  | _ => .int
abbrev wsX10 : List Cond := u_ws RX1 TX1 8
theorem nmX1 : ∀ a, a < 8 → ∀ b, b < 8 → a ≠ b → (TX1 a).2.1 ≠ (TX1 b).2.1 := by decide +kernel
theorem tyX1_ok : ∀ k, k < 8 → parseFieldDescriptor (TX1 k).2.2.1 = some (tyX1 k) := by decide +kernel
abbrev cX1_init : ByteArray := prog_3_method_1_code
def yX1_init : MethodName := ⟨RX1, "<init>", "(LHashgraphDesk$Events;LHashgraphDesk$Graph;)V"⟩
abbrev cX1_clear : ByteArray := prog_3_method_2_code
def yX1_clear : MethodName := ⟨RX1, "clear", "(I)V"⟩
abbrev cX1_isYes : ByteArray := prog_3_method_3_code
def yX1_isYes : MethodName := ⟨RX1, "isYes", "(II)Z"⟩
abbrev cX1_decides : ByteArray := prog_3_method_4_code
def yX1_decides : MethodName := ⟨RX1, "decides", "(II)Z"⟩
abbrev cX1_take : ByteArray := prog_3_method_5_code
def yX1_take : MethodName := ⟨RX1, "take", "(I)V"⟩
abbrev cX1_findElectors : ByteArray := prog_3_method_6_code
def yX1_findElectors : MethodName := ⟨RX1, "findElectors", "(I)V"⟩
abbrev cX1_castVote : ByteArray := prog_3_method_7_code
def yX1_castVote : MethodName := ⟨RX1, "castVote", "(II)V"⟩
abbrev cX1_write : ByteArray := prog_3_method_8_code
def yX1_write : MethodName := ⟨RX1, "write", "(IIZZ)V"⟩
def RX2 : String := "HashgraphDesk$Events"
def TX2 : u_T := fun k => match k with
  | 0 => ("HashgraphDesk$Events", "sha", "LHashgraphDesk$Sha256;", true)
  | 1 => ("HashgraphDesk$Events", "creator", "[I", true)
  | 2 => ("HashgraphDesk$Events", "self", "[I", true)
  | 3 => ("HashgraphDesk$Events", "other", "[I", true)
  | 4 => ("HashgraphDesk$Events", "time", "[J", true)
  | 5 => ("HashgraphDesk$Events", "transactions", "[I", true)
  | 6 => ("HashgraphDesk$Events", "to", "[I", true)
  | 7 => ("HashgraphDesk$Events", "amount", "[I", true)
  | 8 => ("HashgraphDesk$Events", "hashes", "[I", true)
  | 9 => ("HashgraphDesk$Events", "holdings", "LHashgraphDesk$BitTable;", true)
  | _ => ("HashgraphDesk$Events", "size", "I", false)
def tyX2 : Nat → FieldType := fun k => match k with
  | 0 => .object "HashgraphDesk$Sha256"
  | 1 => .array .int
  | 2 => .array .int
  | 3 => .array .int
  | 4 => .array .long
  | 5 => .array .int
  | 6 => .array .int
  | 7 => .array .int
  | 8 => .array .int
  | 9 => .object "HashgraphDesk$BitTable"
  | _ => .int
abbrev wsX20 : List Cond := u_ws RX2 TX2 11
theorem nmX2 : ∀ a, a < 11 → ∀ b, b < 11 → a ≠ b → (TX2 a).2.1 ≠ (TX2 b).2.1 := by decide +kernel
theorem tyX2_ok : ∀ k, k < 11 → parseFieldDescriptor (TX2 k).2.2.1 = some (tyX2 k) := by decide +kernel
abbrev cX2_init : ByteArray := prog_4_method_1_code
def yX2_init : MethodName := ⟨RX2, "<init>", "()V"⟩
abbrev cX2_clear : ByteArray := prog_4_method_2_code
def yX2_clear : MethodName := ⟨RX2, "clear", "()V"⟩
abbrev cX2_isFull : ByteArray := prog_4_method_3_code
def yX2_isFull : MethodName := ⟨RX2, "isFull", "()Z"⟩
abbrev cX2_open : ByteArray := prog_4_method_4_code
def yX2_open : MethodName := ⟨RX2, "open", "(IIIJ)I"⟩
abbrev cX2_addTransaction : ByteArray := prog_4_method_5_code
def yX2_addTransaction : MethodName := ⟨RX2, "addTransaction", "(III)V"⟩
abbrev cX2_close : ByteArray := prog_4_method_6_code
def yX2_close : MethodName := ⟨RX2, "close", "(I)V"⟩
abbrev cX2_putParentHash : ByteArray := prog_4_method_7_code
def yX2_putParentHash : MethodName := ⟨RX2, "putParentHash", "(I)V"⟩
abbrev cX2_hashWord : ByteArray := prog_4_method_8_code
def yX2_hashWord : MethodName := ⟨RX2, "hashWord", "(II)I"⟩
abbrev cX2_hasOneOf : ByteArray := prog_4_method_9_code
def yX2_hasOneOf : MethodName := ⟨RX2, "hasOneOf", "(IIIJ)Z"⟩
def RX3 : String := "HashgraphDesk$Graph"
def TX3 : u_T := fun k => match k with
  | 0 => ("HashgraphDesk$Graph", "events", "LHashgraphDesk$Events;", true)
  | 1 => ("HashgraphDesk$Graph", "ancestors", "LHashgraphDesk$BitTable;", true)
  | 2 => ("HashgraphDesk$Graph", "seen", "LHashgraphDesk$BitTable;", true)
  | 3 => ("HashgraphDesk$Graph", "stronglySeen", "LHashgraphDesk$BitTable;", true)
  | 4 => ("HashgraphDesk$Graph", "seenThrough", "LHashgraphDesk$BitTable;", true)
  | 5 => ("HashgraphDesk$Graph", "depth", "[I", true)
  | 6 => ("HashgraphDesk$Graph", "round", "[I", true)
  | 7 => ("HashgraphDesk$Graph", "witness", "[Z", true)
  | 8 => ("HashgraphDesk$Graph", "madeBy", "[I", true)
  | 9 => ("HashgraphDesk$Graph", "amongAncestors", "[I", true)
  | 10 => ("HashgraphDesk$Graph", "deepest", "[I", true)
  | 11 => ("HashgraphDesk$Graph", "nodes", "I", false)
  | 12 => ("HashgraphDesk$Graph", "forks", "I", false)
  | _ => ("HashgraphDesk$Graph", "greatestRound", "I", false)
def tyX3 : Nat → FieldType := fun k => match k with
  | 0 => .object "HashgraphDesk$Events"
  | 1 => .object "HashgraphDesk$BitTable"
  | 2 => .object "HashgraphDesk$BitTable"
  | 3 => .object "HashgraphDesk$BitTable"
  | 4 => .object "HashgraphDesk$BitTable"
  | 5 => .array .int
  | 6 => .array .int
  | 7 => .array .boolean
  | 8 => .array .int
  | 9 => .array .int
  | 10 => .array .int
  | 11 => .int
  | 12 => .int
  | _ => .int
abbrev wsX30 : List Cond := u_ws RX3 TX3 14
theorem nmX3 : ∀ a, a < 14 → ∀ b, b < 14 → a ≠ b → (TX3 a).2.1 ≠ (TX3 b).2.1 := by decide +kernel
theorem tyX3_ok : ∀ k, k < 14 → parseFieldDescriptor (TX3 k).2.2.1 = some (tyX3 k) := by decide +kernel
abbrev cX3_init : ByteArray := prog_5_method_1_code
def yX3_init : MethodName := ⟨RX3, "<init>", "(LHashgraphDesk$Events;)V"⟩
abbrev cX3_clear : ByteArray := prog_5_method_2_code
def yX3_clear : MethodName := ⟨RX3, "clear", "(I)V"⟩
abbrev cX3_take : ByteArray := prog_5_method_3_code
def yX3_take : MethodName := ⟨RX3, "take", "(I)V"⟩
abbrev cX3_findAncestors : ByteArray := prog_5_method_4_code
def yX3_findAncestors : MethodName := ⟨RX3, "findAncestors", "(I)V"⟩
abbrev cX3_countForks : ByteArray := prog_5_method_5_code
def yX3_countForks : MethodName := ⟨RX3, "countForks", "(I)V"⟩
abbrev cX3_findSeen : ByteArray := prog_5_method_6_code
def yX3_findSeen : MethodName := ⟨RX3, "findSeen", "(I)V"⟩
abbrev cX3_countAncestorsByCreator : ByteArray := prog_5_method_7_code
def yX3_countAncestorsByCreator : MethodName := ⟨RX3, "countAncestorsByCreator", "(I)V"⟩
abbrev cX3_isForker : ByteArray := prog_5_method_8_code
def yX3_isForker : MethodName := ⟨RX3, "isForker", "(I)Z"⟩
abbrev cX3_findStronglySeen : ByteArray := prog_5_method_9_code
def yX3_findStronglySeen : MethodName := ⟨RX3, "findStronglySeen", "(I)V"⟩
abbrev cX3_findRound : ByteArray := prog_5_method_10_code
def yX3_findRound : MethodName := ⟨RX3, "findRound", "(I)V"⟩
abbrev cX3_stronglySeesMostOf : ByteArray := prog_5_method_11_code
def yX3_stronglySeesMostOf : MethodName := ⟨RX3, "stronglySeesMostOf", "(II)Z"⟩
def RX4 : String := "HashgraphDesk$Sha256"
def TX4 : u_T := fun k => match k with
  | 0 => ("HashgraphDesk$Sha256", "message", "[I", true)
  | 1 => ("HashgraphDesk$Sha256", "schedule", "[I", true)
  | 2 => ("HashgraphDesk$Sha256", "state", "[I", true)
  | _ => ("HashgraphDesk$Sha256", "length", "I", false)
def tyX4 : Nat → FieldType := fun k => match k with
  | 0 => .array .int
  | 1 => .array .int
  | 2 => .array .int
  | _ => .int
abbrev wsX40 : List Cond := u_ws RX4 TX4 4
theorem nmX4 : ∀ a, a < 4 → ∀ b, b < 4 → a ≠ b → (TX4 a).2.1 ≠ (TX4 b).2.1 := by decide +kernel
theorem tyX4_ok : ∀ k, k < 4 → parseFieldDescriptor (TX4 k).2.2.1 = some (tyX4 k) := by decide +kernel
abbrev cX4_init : ByteArray := prog_6_method_1_code
def yX4_init : MethodName := ⟨RX4, "<init>", "()V"⟩
abbrev cX4_start : ByteArray := prog_6_method_2_code
def yX4_start : MethodName := ⟨RX4, "start", "()V"⟩
abbrev cX4_putOctet : ByteArray := prog_6_method_3_code
def yX4_putOctet : MethodName := ⟨RX4, "putOctet", "(I)V"⟩
abbrev cX4_putInt : ByteArray := prog_6_method_4_code
def yX4_putInt : MethodName := ⟨RX4, "putInt", "(I)V"⟩
abbrev cX4_putLong : ByteArray := prog_6_method_5_code
def yX4_putLong : MethodName := ⟨RX4, "putLong", "(J)V"⟩
abbrev cX4_finishInto : ByteArray := prog_6_method_6_code
def yX4_finishInto : MethodName := ⟨RX4, "finishInto", "([II)V"⟩
abbrev cX4_fillSchedule : ByteArray := prog_6_method_7_code
def yX4_fillSchedule : MethodName := ⟨RX4, "fillSchedule", "(I)V"⟩
abbrev cX4_mixSchedule : ByteArray := prog_6_method_8_code
def yX4_mixSchedule : MethodName := ⟨RX4, "mixSchedule", "()V"⟩
abbrev cX4_turned : ByteArray := prog_6_method_9_code
def yX4_turned : MethodName := ⟨RX4, "turned", "(II)I"⟩
def RX5 : String := "HashgraphDesk$View"
def TX5 : u_T := fun k => match k with
  | 0 => ("HashgraphDesk$View", "node", "I", true)
  | 1 => ("HashgraphDesk$View", "events", "LHashgraphDesk$Events;", true)
  | 2 => ("HashgraphDesk$View", "graph", "LHashgraphDesk$Graph;", true)
  | 3 => ("HashgraphDesk$View", "election", "LHashgraphDesk$Election;", true)
  | 4 => ("HashgraphDesk$View", "fame", "[I", true)
  | 5 => ("HashgraphDesk$View", "received", "[I", true)
  | 6 => ("HashgraphDesk$View", "stamps", "[J", true)
  | 7 => ("HashgraphDesk$View", "place", "[I", true)
  | 8 => ("HashgraphDesk$View", "sequence", "[I", true)
  | 9 => ("HashgraphDesk$View", "balances", "[I", true)
  | 10 => ("HashgraphDesk$View", "uniques", "[I", true)
  | 11 => ("HashgraphDesk$View", "uniqueCount", "[I", true)
  | 12 => ("HashgraphDesk$View", "turnedBits", "[I", true)
  | 13 => ("HashgraphDesk$View", "settled", "[Z", true)
  | 14 => ("HashgraphDesk$View", "times", "[J", true)
  | 15 => ("HashgraphDesk$View", "length", "I", false)
  | 16 => ("HashgraphDesk$View", "settledRounds", "I", false)
  | _ => ("HashgraphDesk$View", "stale", "Z", false)
def tyX5 : Nat → FieldType := fun k => match k with
  | 0 => .int
  | 1 => .object "HashgraphDesk$Events"
  | 2 => .object "HashgraphDesk$Graph"
  | 3 => .object "HashgraphDesk$Election"
  | 4 => .array .int
  | 5 => .array .int
  | 6 => .array .long
  | 7 => .array .int
  | 8 => .array .int
  | 9 => .array .int
  | 10 => .array .int
  | 11 => .array .int
  | 12 => .array .int
  | 13 => .array .boolean
  | 14 => .array .long
  | 15 => .int
  | 16 => .int
  | _ => .boolean
abbrev wsX50 : List Cond := u_ws RX5 TX5 18
theorem nmX5 : ∀ a, a < 18 → ∀ b, b < 18 → a ≠ b → (TX5 a).2.1 ≠ (TX5 b).2.1 := by decide +kernel
theorem tyX5_ok : ∀ k, k < 18 → parseFieldDescriptor (TX5 k).2.2.1 = some (tyX5 k) := by decide +kernel
abbrev cX5_init : ByteArray := prog_7_method_1_code
def yX5_init : MethodName := ⟨RX5, "<init>", "(ILHashgraphDesk$Events;LHashgraphDesk$Graph;LHashgraphDesk$Election;)V"⟩
abbrev cX5_findAll : ByteArray := prog_7_method_2_code
def yX5_findAll : MethodName := ⟨RX5, "findAll", "(I)V"⟩
abbrev cX5_holds : ByteArray := prog_7_method_3_code
def yX5_holds : MethodName := ⟨RX5, "holds", "(I)Z"⟩
abbrev cX5_findFame : ByteArray := prog_7_method_4_code
def yX5_findFame : MethodName := ⟨RX5, "findFame", "()V"⟩
abbrev cX5_deciderOf : ByteArray := prog_7_method_5_code
def yX5_deciderOf : MethodName := ⟨RX5, "deciderOf", "(I)I"⟩
abbrev cX5_findUniques : ByteArray := prog_7_method_6_code
def yX5_findUniques : MethodName := ⟨RX5, "findUniques", "()V"⟩
abbrev cX5_isOnlyFamousOne : ByteArray := prog_7_method_7_code
def yX5_isOnlyFamousOne : MethodName := ⟨RX5, "isOnlyFamousOne", "(I)Z"⟩
abbrev cX5_addUnique : ByteArray := prog_7_method_8_code
def yX5_addUnique : MethodName := ⟨RX5, "addUnique", "(II)V"⟩
abbrev cX5_settleRounds : ByteArray := prog_7_method_9_code
def yX5_settleRounds : MethodName := ⟨RX5, "settleRounds", "()V"⟩
abbrev cX5_leastOpenRound : ByteArray := prog_7_method_10_code
def yX5_leastOpenRound : MethodName := ⟨RX5, "leastOpenRound", "()I"⟩
abbrev cX5_findReceived : ByteArray := prog_7_method_11_code
def yX5_findReceived : MethodName := ⟨RX5, "findReceived", "()V"⟩
abbrev cX5_roundReceiving : ByteArray := prog_7_method_12_code
def yX5_roundReceiving : MethodName := ⟨RX5, "roundReceiving", "(I)I"⟩
abbrev cX5_isBelowAllUniques : ByteArray := prog_7_method_13_code
def yX5_isBelowAllUniques : MethodName := ⟨RX5, "isBelowAllUniques", "(II)Z"⟩
abbrev cX5_stampIn : ByteArray := prog_7_method_14_code
def yX5_stampIn : MethodName := ⟨RX5, "stampIn", "(II)J"⟩
abbrev cX5_firstAbove : ByteArray := prog_7_method_15_code
def yX5_firstAbove : MethodName := ⟨RX5, "firstAbove", "(II)I"⟩
abbrev cX5_findOrder : ByteArray := prog_7_method_16_code
def yX5_findOrder : MethodName := ⟨RX5, "findOrder", "()V"⟩
abbrev cX5_insert : ByteArray := prog_7_method_17_code
def yX5_insert : MethodName := ⟨RX5, "insert", "(I)V"⟩
abbrev cX5_isBefore : ByteArray := prog_7_method_18_code
def yX5_isBefore : MethodName := ⟨RX5, "isBefore", "(II)Z"⟩
abbrev cX5_findBalances : ByteArray := prog_7_method_19_code
def yX5_findBalances : MethodName := ⟨RX5, "findBalances", "(I)V"⟩
abbrev cX5_pay : ByteArray := prog_7_method_20_code
def yX5_pay : MethodName := ⟨RX5, "pay", "(III)V"⟩
def RX6 : String := "HashgraphDesk$Waiting"
def TX6 : u_T := fun k => match k with
  | 0 => ("HashgraphDesk$Waiting", "to", "[I", true)
  | 1 => ("HashgraphDesk$Waiting", "amount", "[I", true)
  | _ => ("HashgraphDesk$Waiting", "length", "[I", true)
def tyX6 : Nat → FieldType := fun k => match k with
  | 0 => .array .int
  | 1 => .array .int
  | _ => .array .int
abbrev wsX60 : List Cond := u_ws RX6 TX6 3
theorem nmX6 : ∀ a, a < 3 → ∀ b, b < 3 → a ≠ b → (TX6 a).2.1 ≠ (TX6 b).2.1 := by decide +kernel
theorem tyX6_ok : ∀ k, k < 3 → parseFieldDescriptor (TX6 k).2.2.1 = some (tyX6 k) := by decide +kernel
abbrev cX6_init : ByteArray := prog_8_method_1_code
def yX6_init : MethodName := ⟨RX6, "<init>", "()V"⟩
abbrev cX6_clear : ByteArray := prog_8_method_2_code
def yX6_clear : MethodName := ⟨RX6, "clear", "()V"⟩
abbrev cX6_isFull : ByteArray := prog_8_method_3_code
def yX6_isFull : MethodName := ⟨RX6, "isFull", "(I)Z"⟩
abbrev cX6_join : ByteArray := prog_8_method_4_code
def yX6_join : MethodName := ⟨RX6, "join", "(III)V"⟩
abbrev cX6_firstTo : ByteArray := prog_8_method_5_code
def yX6_firstTo : MethodName := ⟨RX6, "firstTo", "(I)I"⟩
abbrev cX6_firstAmount : ByteArray := prog_8_method_6_code
def yX6_firstAmount : MethodName := ⟨RX6, "firstAmount", "(I)I"⟩
abbrev cX6_dropFirst : ByteArray := prog_8_method_7_code
def yX6_dropFirst : MethodName := ⟨RX6, "dropFirst", "(I)V"⟩
abbrev cX6_lengthOfAll : ByteArray := prog_8_method_8_code
def yX6_lengthOfAll : MethodName := ⟨RX6, "lengthOfAll", "()I"⟩
def RX7 : String := "HashgraphDesk"
def TX7 : u_T := fun k => match k with
  | 0 => ("HashgraphDesk", "waiting", "LHashgraphDesk$Waiting;", true)
  | 1 => ("HashgraphDesk", "events", "LHashgraphDesk$Events;", true)
  | 2 => ("HashgraphDesk", "graph", "LHashgraphDesk$Graph;", true)
  | 3 => ("HashgraphDesk", "election", "LHashgraphDesk$Election;", true)
  | 4 => ("HashgraphDesk", "views", "[LHashgraphDesk$View;", true)
  | 5 => ("HashgraphDesk", "latest", "[I", true)
  | _ => ("HashgraphDesk", "nodes", "I", false)
def tyX7 : Nat → FieldType := fun k => match k with
  | 0 => .object "HashgraphDesk$Waiting"
  | 1 => .object "HashgraphDesk$Events"
  | 2 => .object "HashgraphDesk$Graph"
  | 3 => .object "HashgraphDesk$Election"
  | 4 => .array (.object "HashgraphDesk$View")
  | 5 => .array .int
  | _ => .int
abbrev wsX70 : List Cond := u_ws RX7 TX7 7
theorem nmX7 : ∀ a, a < 7 → ∀ b, b < 7 → a ≠ b → (TX7 a).2.1 ≠ (TX7 b).2.1 := by decide +kernel
theorem tyX7_ok : ∀ k, k < 7 → parseFieldDescriptor (TX7 k).2.2.1 = some (tyX7 k) := by decide +kernel
abbrev cX7_init : ByteArray := prog_1_method_1_code
def yX7_init : MethodName := ⟨RX7, "<init>", "()V"⟩
abbrev cX7_begin : ByteArray := prog_1_method_2_code
def yX7_begin : MethodName := ⟨RX7, "begin", "(I)V"⟩
abbrev cX7_submit : ByteArray := prog_1_method_3_code
def yX7_submit : MethodName := ⟨RX7, "submit", "(III)I"⟩
abbrev cX7_sync : ByteArray := prog_1_method_4_code
def yX7_sync : MethodName := ⟨RX7, "sync", "(IIJ)I"⟩
abbrev cX7_inject : ByteArray := prog_1_method_5_code
def yX7_inject : MethodName := ⟨RX7, "inject", "(IIIIJ)I"⟩
abbrev cX7_event : ByteArray := prog_1_method_6_code
def yX7_event : MethodName := ⟨RX7, "event", "(II)I"⟩
abbrev cX7_hash : ByteArray := prog_1_method_7_code
def yX7_hash : MethodName := ⟨RX7, "hash", "(II)I"⟩
abbrev cX7_sees : ByteArray := prog_1_method_8_code
def yX7_sees : MethodName := ⟨RX7, "sees", "(IIZ)Z"⟩
abbrev cX7_vote : ByteArray := prog_1_method_9_code
def yX7_vote : MethodName := ⟨RX7, "vote", "(II)I"⟩
abbrev cX7_found : ByteArray := prog_1_method_10_code
def yX7_found : MethodName := ⟨RX7, "found", "(III)I"⟩
abbrev cX7_stamp : ByteArray := prog_1_method_11_code
def yX7_stamp : MethodName := ⟨RX7, "stamp", "(II)J"⟩
abbrev cX7_order : ByteArray := prog_1_method_12_code
def yX7_order : MethodName := ⟨RX7, "order", "(I)I"⟩
abbrev cX7_at : ByteArray := prog_1_method_13_code
def yX7_at : MethodName := ⟨RX7, "at", "(II)I"⟩
abbrev cX7_balance : ByteArray := prog_1_method_14_code
def yX7_balance : MethodName := ⟨RX7, "balance", "(II)I"⟩
abbrev cX7_count : ByteArray := prog_1_method_15_code
def yX7_count : MethodName := ⟨RX7, "count", "(I)I"⟩
abbrev cX7_startAnew : ByteArray := prog_1_method_16_code
def yX7_startAnew : MethodName := ⟨RX7, "startAnew", "(I)V"⟩
abbrev cX7_makeEvent : ByteArray := prog_1_method_17_code
def yX7_makeEvent : MethodName := ⟨RX7, "makeEvent", "(IIIJI)I"⟩
abbrev cX7_give : ByteArray := prog_1_method_18_code
def yX7_give : MethodName := ⟨RX7, "give", "(II)V"⟩
abbrev cX7_freshView : ByteArray := prog_1_method_19_code
def yX7_freshView : MethodName := ⟨RX7, "freshView", "(I)LHashgraphDesk$View;"⟩
abbrev cX7_isNode : ByteArray := prog_1_method_20_code
def yX7_isNode : MethodName := ⟨RX7, "isNode", "(I)Z"⟩
abbrev cX7_isEvent : ByteArray := prog_1_method_21_code
def yX7_isEvent : MethodName := ⟨RX7, "isEvent", "(I)Z"⟩
abbrev cX7_isHeld : ByteArray := prog_1_method_22_code
def yX7_isHeld : MethodName := ⟨RX7, "isHeld", "(II)Z"⟩
abbrev cX7_isMost : ByteArray := prog_1_method_23_code
def yX7_isMost : MethodName := ⟨RX7, "isMost", "(II)Z"⟩
def RX8 : String := "HashgraphDeskModel"
def TX8 : u_T := fun k => match k with
  | 0 => ("HashgraphDeskModel", "err", "I", false)
  | 1 => ("HashgraphDeskModel", "n", "I", false)
  | 2 => ("HashgraphDeskModel", "events", "I", false)
  | 3 => ("HashgraphDeskModel", "creator", "[I", true)
  | 4 => ("HashgraphDeskModel", "selfP", "[I", true)
  | 5 => ("HashgraphDeskModel", "otherP", "[I", true)
  | 6 => ("HashgraphDeskModel", "txN", "[I", true)
  | 7 => ("HashgraphDeskModel", "txTo", "[I", true)
  | 8 => ("HashgraphDeskModel", "txAmount", "[I", true)
  | 9 => ("HashgraphDeskModel", "round", "[I", true)
  | 10 => ("HashgraphDeskModel", "hashes", "[I", true)
  | 11 => ("HashgraphDeskModel", "latest", "[I", true)
  | 12 => ("HashgraphDeskModel", "waits", "[I", true)
  | 13 => ("HashgraphDeskModel", "waitTo", "[I", true)
  | 14 => ("HashgraphDeskModel", "waitAmount", "[I", true)
  | 15 => ("HashgraphDeskModel", "time", "[J", true)
  | 16 => ("HashgraphDeskModel", "above", "[Z", true)
  | 17 => ("HashgraphDeskModel", "held", "[Z", true)
  | 18 => ("HashgraphDeskModel", "forked", "[Z", true)
  | 19 => ("HashgraphDeskModel", "witness", "[Z", true)
  | 20 => ("HashgraphDeskModel", "strong", "[B", true)
  | 21 => ("HashgraphDeskModel", "votes", "[B", true)
  | 22 => ("HashgraphDeskModel", "foundFor", "I", false)
  | 23 => ("HashgraphDeskModel", "ordered", "I", false)
  | 24 => ("HashgraphDeskModel", "settled", "I", false)
  | 25 => ("HashgraphDeskModel", "state", "[I", true)
  | 26 => ("HashgraphDeskModel", "received", "[I", true)
  | 27 => ("HashgraphDeskModel", "place", "[I", true)
  | 28 => ("HashgraphDeskModel", "list", "[I", true)
  | 29 => ("HashgraphDeskModel", "balance", "[I", true)
  | 30 => ("HashgraphDeskModel", "white", "[I", true)
  | 31 => ("HashgraphDeskModel", "stamps", "[J", true)
  | 32 => ("HashgraphDeskModel", "some", "[J", true)
  | 33 => ("HashgraphDeskModel", "block", "[I", true)
  | 34 => ("HashgraphDeskModel", "w", "[I", true)
  | 35 => ("HashgraphDeskModel", "primes", "[I", true)
  | 36 => ("HashgraphDeskModel", "octets", "I", false)
  | 37 => ("HashgraphDeskModel", "h", "[I", true)
  | _ => ("HashgraphDeskModel", "first", "[I", true)
def tyX8 : Nat → FieldType := fun k => match k with
  | 0 => .int
  | 1 => .int
  | 2 => .int
  | 3 => .array .int
  | 4 => .array .int
  | 5 => .array .int
  | 6 => .array .int
  | 7 => .array .int
  | 8 => .array .int
  | 9 => .array .int
  | 10 => .array .int
  | 11 => .array .int
  | 12 => .array .int
  | 13 => .array .int
  | 14 => .array .int
  | 15 => .array .long
  | 16 => .array .boolean
  | 17 => .array .boolean
  | 18 => .array .boolean
  | 19 => .array .boolean
  | 20 => .array .byte
  | 21 => .array .byte
  | 22 => .int
  | 23 => .int
  | 24 => .int
  | 25 => .array .int
  | 26 => .array .int
  | 27 => .array .int
  | 28 => .array .int
  | 29 => .array .int
  | 30 => .array .int
  | 31 => .array .long
  | 32 => .array .long
  | 33 => .array .int
  | 34 => .array .int
  | 35 => .array .int
  | 36 => .int
  | 37 => .array .int
  | _ => .array .int
abbrev wsX80 : List Cond := u_ws RX8 TX8 39
theorem nmX8 : ∀ a, a < 39 → ∀ b, b < 39 → a ≠ b → (TX8 a).2.1 ≠ (TX8 b).2.1 := by decide +kernel
theorem tyX8_ok : ∀ k, k < 39 → parseFieldDescriptor (TX8 k).2.2.1 = some (tyX8 k) := by decide +kernel
abbrev cX8_init : ByteArray := prog_10_method_1_code
def yX8_init : MethodName := ⟨RX8, "<init>", "()V"⟩
abbrev cX8_thrown : ByteArray := prog_10_method_2_code
def yX8_thrown : MethodName := ⟨RX8, "thrown", "()I"⟩
abbrev cX8_in : ByteArray := prog_10_method_3_code
def yX8_in : MethodName := ⟨RX8, "in", "(III)Z"⟩
abbrev cX8_fails : ByteArray := prog_10_method_4_code
def yX8_fails : MethodName := ⟨RX8, "fails", "(ZI)Z"⟩
abbrev cX8_isNode : ByteArray := prog_10_method_5_code
def yX8_isNode : MethodName := ⟨RX8, "isNode", "(I)Z"⟩
abbrev cX8_isEvent : ByteArray := prog_10_method_6_code
def yX8_isEvent : MethodName := ⟨RX8, "isEvent", "(I)Z"⟩
abbrev cX8_begin : ByteArray := prog_10_method_7_code
def yX8_begin : MethodName := ⟨RX8, "begin", "(I)V"⟩
abbrev cX8_anew : ByteArray := prog_10_method_8_code
def yX8_anew : MethodName := ⟨RX8, "anew", "(I)V"⟩
abbrev cX8_make : ByteArray := prog_10_method_9_code
def yX8_make : MethodName := ⟨RX8, "make", "(IIIJ)I"⟩
abbrev cX8_isMost : ByteArray := prog_10_method_10_code
def yX8_isMost : MethodName := ⟨RX8, "isMost", "(I)Z"⟩
abbrev cX8_isSelf : ByteArray := prog_10_method_11_code
def yX8_isSelf : MethodName := ⟨RX8, "isSelf", "(II)Z"⟩
abbrev cX8_isFork : ByteArray := prog_10_method_12_code
def yX8_isFork : MethodName := ⟨RX8, "isFork", "(II)Z"⟩
abbrev cX8_isForked : ByteArray := prog_10_method_13_code
def yX8_isForked : MethodName := ⟨RX8, "isForked", "(II)Z"⟩
abbrev cX8_sees : ByteArray := prog_10_method_14_code
def yX8_sees : MethodName := ⟨RX8, "sees", "(II)Z"⟩
abbrev cX8_strongly : ByteArray := prog_10_method_15_code
def yX8_strongly : MethodName := ⟨RX8, "strongly", "(II)Z"⟩
abbrev cX8_voteOf : ByteArray := prog_10_method_16_code
def yX8_voteOf : MethodName := ⟨RX8, "voteOf", "(II)I"⟩
abbrev cX8_octet : ByteArray := prog_10_method_17_code
def yX8_octet : MethodName := ⟨RX8, "octet", "(I)V"⟩
abbrev cX8_four : ByteArray := prog_10_method_18_code
def yX8_four : MethodName := ⟨RX8, "four", "(I)V"⟩
abbrev cX8_hash : ByteArray := prog_10_method_19_code
def yX8_hash : MethodName := ⟨RX8, "hash", "(I)V"⟩
abbrev cX8_turn : ByteArray := prog_10_method_20_code
def yX8_turn : MethodName := ⟨RX8, "turn", "(II)I"⟩
abbrev cX8_compress : ByteArray := prog_10_method_21_code
def yX8_compress : MethodName := ⟨RX8, "compress", "(I)V"⟩
abbrev cX8_submit : ByteArray := prog_10_method_22_code
def yX8_submit : MethodName := ⟨RX8, "submit", "(III)I"⟩
abbrev cX8_sync : ByteArray := prog_10_method_23_code
def yX8_sync : MethodName := ⟨RX8, "sync", "(IIJ)I"⟩
abbrev cX8_holds : ByteArray := prog_10_method_24_code
def yX8_holds : MethodName := ⟨RX8, "holds", "(II)Z"⟩
abbrev cX8_inject : ByteArray := prog_10_method_25_code
def yX8_inject : MethodName := ⟨RX8, "inject", "(IIIIJ)I"⟩
abbrev cX8_event : ByteArray := prog_10_method_26_code
def yX8_event : MethodName := ⟨RX8, "event", "(II)I"⟩
abbrev cX8_hash_ : ByteArray := prog_10_method_27_code
def yX8_hash_ : MethodName := ⟨RX8, "hash", "(II)I"⟩
abbrev cX8_sees_ : ByteArray := prog_10_method_28_code
def yX8_sees_ : MethodName := ⟨RX8, "sees", "(IIZ)Z"⟩
abbrev cX8_vote : ByteArray := prog_10_method_29_code
def yX8_vote : MethodName := ⟨RX8, "vote", "(II)I"⟩
abbrev cX8_find : ByteArray := prog_10_method_30_code
def yX8_find : MethodName := ⟨RX8, "find", "(I)V"⟩
abbrev cX8_isUnique : ByteArray := prog_10_method_31_code
def yX8_isUnique : MethodName := ⟨RX8, "isUnique", "(II)Z"⟩
abbrev cX8_receive : ByteArray := prog_10_method_32_code
def yX8_receive : MethodName := ⟨RX8, "receive", "(II)V"⟩
abbrev cX8_comesBefore : ByteArray := prog_10_method_33_code
def yX8_comesBefore : MethodName := ⟨RX8, "comesBefore", "(II)Z"⟩
abbrev cX8_found : ByteArray := prog_10_method_34_code
def yX8_found : MethodName := ⟨RX8, "found", "(III)I"⟩
abbrev cX8_stamp : ByteArray := prog_10_method_35_code
def yX8_stamp : MethodName := ⟨RX8, "stamp", "(II)J"⟩
abbrev cX8_order : ByteArray := prog_10_method_36_code
def yX8_order : MethodName := ⟨RX8, "order", "(I)I"⟩
abbrev cX8_at : ByteArray := prog_10_method_37_code
def yX8_at : MethodName := ⟨RX8, "at", "(II)I"⟩
abbrev cX8_balance : ByteArray := prog_10_method_38_code
def yX8_balance : MethodName := ⟨RX8, "balance", "(II)I"⟩
abbrev cX8_count : ByteArray := prog_10_method_39_code
def yX8_count : MethodName := ⟨RX8, "count", "(I)I"⟩
def RJx145de : String := "java/io/Serializable"
def TJx145de : u_T := fun k => match k with
  | _ => ("", "", "", false)
def tyJx145de : Nat → FieldType := fun k => match k with
  | _ => .int
abbrev wsJx145de0 : List Cond := u_ws RJx145de TJx145de 0
theorem nmJx145de : ∀ a, a < 0 → ∀ b, b < 0 → a ≠ b → (TJx145de a).2.1 ≠ (TJx145de b).2.1 := by decide +kernel
theorem tyJx145de_ok : ∀ k, k < 0 → parseFieldDescriptor (TJx145de k).2.2.1 = some (tyJx145de k) := by decide +kernel
def RJ5 : String := "java/lang/AbstractStringBuilder"
def TJ5 : u_T := fun k => match k with
  | _ => ("", "", "", false)
def tyJ5 : Nat → FieldType := fun k => match k with
  | _ => .int
abbrev wsJ50 : List Cond := u_ws RJ5 TJ5 0
theorem nmJ5 : ∀ a, a < 0 → ∀ b, b < 0 → a ≠ b → (TJ5 a).2.1 ≠ (TJ5 b).2.1 := by decide +kernel
theorem tyJ5_ok : ∀ k, k < 0 → parseFieldDescriptor (TJ5 k).2.2.1 = some (tyJ5 k) := by decide +kernel
abbrev cJ5_init_d00df : ByteArray := prog_11_method_2_code
def yJ5_init_d00df : MethodName := ⟨RJ5, "<init>", "(I)V"⟩
abbrev cJ5_length_8abf5 : ByteArray := prog_11_method_6_code
def yJ5_length_8abf5 : MethodName := ⟨RJ5, "length", "()I"⟩
abbrev cJ5_ensureCapacityInternal_d00df : ByteArray := prog_11_method_9_code
def yJ5_ensureCapacityInternal_d00df : MethodName := ⟨RJ5, "ensureCapacityInternal", "(I)V"⟩
abbrev cJ5_newCapacity_0f7a4 : ByteArray := prog_11_method_10_code
def yJ5_newCapacity_0f7a4 : MethodName := ⟨RJ5, "newCapacity", "(I)I"⟩
abbrev cJ5_inflate_da8c8 : ByteArray := prog_11_method_11_code
def yJ5_inflate_da8c8 : MethodName := ⟨RJ5, "inflate", "()V"⟩
abbrev cJ5_append_cf1ce : ByteArray := prog_11_method_22_code
def yJ5_append_cf1ce : MethodName := ⟨RJ5, "append", "(Ljava/lang/String;)Ljava/lang/AbstractStringBuilder;"⟩
abbrev cJ5_appendNull_278bc : ByteArray := prog_11_method_26_code
def yJ5_appendNull_278bc : MethodName := ⟨RJ5, "appendNull", "()Ljava/lang/AbstractStringBuilder;"⟩
abbrev cJ5_append_c97b9 : ByteArray := prog_11_method_32_code
def yJ5_append_c97b9 : MethodName := ⟨RJ5, "append", "(I)Ljava/lang/AbstractStringBuilder;"⟩
abbrev cJ5_getValue_6d5f1 : ByteArray := prog_11_method_64_code
def yJ5_getValue_6d5f1 : MethodName := ⟨RJ5, "getValue", "()[B"⟩
abbrev cJ5_isLatin1_aae02 : ByteArray := prog_11_method_68_code
def yJ5_isLatin1_aae02 : MethodName := ⟨RJ5, "isLatin1", "()Z"⟩
abbrev cJ5_inflateIfNeededFor_a7421 : ByteArray := prog_11_method_71_code
def yJ5_inflateIfNeededFor_a7421 : MethodName := ⟨RJ5, "inflateIfNeededFor", "(Ljava/lang/String;)V"⟩
abbrev cJ5_putStringAt_47b60 : ByteArray := prog_11_method_73_code
def yJ5_putStringAt_47b60 : MethodName := ⟨RJ5, "putStringAt", "(ILjava/lang/String;)V"⟩
def RJx2cfe8 : String := "java/lang/Appendable"
def TJx2cfe8 : u_T := fun k => match k with
  | _ => ("", "", "", false)
def tyJx2cfe8 : Nat → FieldType := fun k => match k with
  | _ => .int
abbrev wsJx2cfe80 : List Cond := u_ws RJx2cfe8 TJx2cfe8 0
theorem nmJx2cfe8 : ∀ a, a < 0 → ∀ b, b < 0 → a ≠ b → (TJx2cfe8 a).2.1 ≠ (TJx2cfe8 b).2.1 := by decide +kernel
theorem tyJx2cfe8_ok : ∀ k, k < 0 → parseFieldDescriptor (TJx2cfe8 k).2.2.1 = some (tyJx2cfe8 k) := by decide +kernel
def RJx00060 : String := "java/lang/ArrayIndexOutOfBoundsException"
def TJx00060 : u_T := fun k => match k with
  | 0 => ("java/lang/Throwable", "cause", "Ljava/lang/Throwable;", false)
  | 1 => ("java/lang/Throwable", "stackTrace", "[Ljava/lang/StackTraceElement;", false)
  | 2 => ("java/lang/Throwable", "suppressedExceptions", "Ljava/util/List;", false)
  | 3 => ("java/lang/Throwable", "detailMessage", "Ljava/lang/String;", false)
  | 4 => ("java/lang/Throwable", "backtrace", "Ljava/lang/Object;", false)
  | _ => ("java/lang/Throwable", "depth", "I", false)
def tyJx00060 : Nat → FieldType := fun k => match k with
  | 0 => .object "java/lang/Throwable"
  | 1 => .array (.object "java/lang/StackTraceElement")
  | 2 => .object "java/util/List"
  | 3 => .object "java/lang/String"
  | 4 => .object "java/lang/Object"
  | _ => .int
abbrev wsJx000600 : List Cond := u_ws RJx00060 TJx00060 6
theorem nmJx00060 : ∀ a, a < 6 → ∀ b, b < 6 → a ≠ b → (TJx00060 a).2.1 ≠ (TJx00060 b).2.1 := by decide +kernel
theorem tyJx00060_ok : ∀ k, k < 6 → parseFieldDescriptor (TJx00060 k).2.2.1 = some (tyJx00060 k) := by decide +kernel
abbrev cJx00060_init_d00df : ByteArray := prog_12_method_3_code
def yJx00060_init_d00df : MethodName := ⟨RJx00060, "<init>", "(I)V"⟩
def RJx9f9b0 : String := "java/lang/CharSequence"
def TJx9f9b0 : u_T := fun k => match k with
  | _ => ("", "", "", false)
def tyJx9f9b0 : Nat → FieldType := fun k => match k with
  | _ => .int
abbrev wsJx9f9b00 : List Cond := u_ws RJx9f9b0 TJx9f9b0 0
theorem nmJx9f9b0 : ∀ a, a < 0 → ∀ b, b < 0 → a ≠ b → (TJx9f9b0 a).2.1 ≠ (TJx9f9b0 b).2.1 := by decide +kernel
theorem tyJx9f9b0_ok : ∀ k, k < 0 → parseFieldDescriptor (TJx9f9b0 k).2.2.1 = some (tyJx9f9b0 k) := by decide +kernel
def RJx8e188 : String := "java/lang/Cloneable"
def TJx8e188 : u_T := fun k => match k with
  | _ => ("", "", "", false)
def tyJx8e188 : Nat → FieldType := fun k => match k with
  | _ => .int
abbrev wsJx8e1880 : List Cond := u_ws RJx8e188 TJx8e188 0
theorem nmJx8e188 : ∀ a, a < 0 → ∀ b, b < 0 → a ≠ b → (TJx8e188 a).2.1 ≠ (TJx8e188 b).2.1 := by decide +kernel
theorem tyJx8e188_ok : ∀ k, k < 0 → parseFieldDescriptor (TJx8e188 k).2.2.1 = some (tyJx8e188 k) := by decide +kernel
def RJxb160c : String := "java/lang/Comparable"
def TJxb160c : u_T := fun k => match k with
  | _ => ("", "", "", false)
def tyJxb160c : Nat → FieldType := fun k => match k with
  | _ => .int
abbrev wsJxb160c0 : List Cond := u_ws RJxb160c TJxb160c 0
theorem nmJxb160c : ∀ a, a < 0 → ∀ b, b < 0 → a ≠ b → (TJxb160c a).2.1 ≠ (TJxb160c b).2.1 := by decide +kernel
theorem tyJxb160c_ok : ∀ k, k < 0 → parseFieldDescriptor (TJxb160c k).2.2.1 = some (tyJxb160c k) := by decide +kernel
def RJ6 : String := "java/lang/Integer"
def TJ6 : u_T := fun k => match k with
  | _ => ("", "", "", false)
def tyJ6 : Nat → FieldType := fun k => match k with
  | _ => .int
abbrev wsJ60 : List Cond := u_ws RJ6 TJ6 0
theorem nmJ6 : ∀ a, a < 0 → ∀ b, b < 0 → a ≠ b → (TJ6 a).2.1 ≠ (TJ6 b).2.1 := by decide +kernel
theorem tyJ6_ok : ∀ k, k < 0 → parseFieldDescriptor (TJ6 k).2.2.1 = some (tyJ6 k) := by decide +kernel
abbrev cJ6_getChars_ba4f3 : ByteArray := prog_18_method_12_code
def yJ6_getChars_ba4f3 : MethodName := ⟨RJ6, "getChars", "(II[B)I"⟩
abbrev cJ6_stringSize_0f7a4 : ByteArray := prog_18_method_13_code
def yJ6_stringSize_0f7a4 : MethodName := ⟨RJ6, "stringSize", "(I)I"⟩
abbrev cJ6_bitCount_0f7a4 : ByteArray := prog_18_method_49_code
def yJ6_bitCount_0f7a4 : MethodName := ⟨RJ6, "bitCount", "(I)I"⟩
def RJ13 : String := "java/lang/Long"
def TJ13 : u_T := fun k => match k with
  | _ => ("", "", "", false)
def tyJ13 : Nat → FieldType := fun k => match k with
  | _ => .int
abbrev wsJ130 : List Cond := u_ws RJ13 TJ13 0
theorem nmJ13 : ∀ a, a < 0 → ∀ b, b < 0 → a ≠ b → (TJ13 a).2.1 ≠ (TJ13 b).2.1 := by decide +kernel
theorem tyJ13_ok : ∀ k, k < 0 → parseFieldDescriptor (TJ13 k).2.2.1 = some (tyJ13 k) := by decide +kernel
abbrev cJ13_bitCount_95d88 : ByteArray := prog_19_method_50_code
def yJ13_bitCount_95d88 : MethodName := ⟨RJ13, "bitCount", "(J)I"⟩
def RJ9 : String := "java/lang/Math"
def TJ9 : u_T := fun k => match k with
  | _ => ("", "", "", false)
def tyJ9 : Nat → FieldType := fun k => match k with
  | _ => .int
abbrev wsJ90 : List Cond := u_ws RJ9 TJ9 0
theorem nmJ9 : ∀ a, a < 0 → ∀ b, b < 0 → a ≠ b → (TJ9 a).2.1 ≠ (TJ9 b).2.1 := by decide +kernel
theorem tyJ9_ok : ∀ k, k < 0 → parseFieldDescriptor (TJ9 k).2.2.1 = some (tyJ9 k) := by decide +kernel
abbrev cJ9_max_7cf53 : ByteArray := prog_20_method_65_code
def yJ9_max_7cf53 : MethodName := ⟨RJ9, "max", "(II)I"⟩
abbrev cJ9_min_7cf53 : ByteArray := prog_20_method_69_code
def yJ9_min_7cf53 : MethodName := ⟨RJ9, "min", "(II)I"⟩
def RJxd2413 : String := "java/lang/Number"
def TJxd2413 : u_T := fun k => match k with
  | _ => ("", "", "", false)
def tyJxd2413 : Nat → FieldType := fun k => match k with
  | _ => .int
abbrev wsJxd24130 : List Cond := u_ws RJxd2413 TJxd2413 0
theorem nmJxd2413 : ∀ a, a < 0 → ∀ b, b < 0 → a ≠ b → (TJxd2413 a).2.1 ≠ (TJxd2413 b).2.1 := by decide +kernel
theorem tyJxd2413_ok : ∀ k, k < 0 → parseFieldDescriptor (TJxd2413 k).2.2.1 = some (tyJxd2413 k) := by decide +kernel
def RJ0 : String := "java/lang/String"
def TJ0 : u_T := fun k => match k with
  | 0 => ("java/lang/String", "value", "[B", true)
  | 1 => ("java/lang/String", "coder", "B", true)
  | 2 => ("java/lang/String", "hash", "I", false)
  | _ => ("java/lang/String", "hashIsZero", "Z", false)
def tyJ0 : Nat → FieldType := fun k => match k with
  | 0 => .array .byte
  | 1 => .byte
  | 2 => .int
  | _ => .boolean
abbrev wsJ00 : List Cond := u_ws RJ0 TJ0 4
theorem nmJ0 : ∀ a, a < 4 → ∀ b, b < 4 → a ≠ b → (TJ0 a).2.1 ≠ (TJ0 b).2.1 := by decide +kernel
theorem tyJ0_ok : ∀ k, k < 4 → parseFieldDescriptor (TJ0 k).2.2.1 = some (tyJ0 k) := by decide +kernel
abbrev cJ0_init_81219 : ByteArray := prog_23_method_53_code
def yJ0_init_81219 : MethodName := ⟨RJ0, "<init>", "(Ljava/lang/StringBuilder;)V"⟩
abbrev cJ0_length_8abf5 : ByteArray := prog_23_method_54_code
def yJ0_length_8abf5 : MethodName := ⟨RJ0, "length", "()I"⟩
abbrev cJ0_getBytes_840e7 : ByteArray := prog_23_method_147_code
def yJ0_getBytes_840e7 : MethodName := ⟨RJ0, "getBytes", "([BIB)V"⟩
abbrev cJ0_init_db425 : ByteArray := prog_23_method_150_code
def yJ0_init_db425 : MethodName := ⟨RJ0, "<init>", "(Ljava/lang/AbstractStringBuilder;Ljava/lang/Void;)V"⟩
abbrev cJ0_coder_7d493 : ByteArray := prog_23_method_152_code
def yJ0_coder_7d493 : MethodName := ⟨RJ0, "coder", "()B"⟩
abbrev cJ0_checkBoundsOffCount_cabcc : ByteArray := prog_23_method_157_code
def yJ0_checkBoundsOffCount_cabcc : MethodName := ⟨RJ0, "checkBoundsOffCount", "(III)I"⟩
abbrev cJ0_checkBoundsBeginEnd_23922 : ByteArray := prog_23_method_158_code
def yJ0_checkBoundsBeginEnd_23922 : MethodName := ⟨RJ0, "checkBoundsBeginEnd", "(III)V"⟩
def RJ4 : String := "java/lang/StringBuilder"
def TJ4 : u_T := fun k => match k with
  | 0 => ("java/lang/AbstractStringBuilder", "value", "[B", false)
  | 1 => ("java/lang/AbstractStringBuilder", "coder", "B", false)
  | 2 => ("java/lang/AbstractStringBuilder", "maybeLatin1", "Z", false)
  | _ => ("java/lang/AbstractStringBuilder", "count", "I", false)
def tyJ4 : Nat → FieldType := fun k => match k with
  | 0 => .array .byte
  | 1 => .byte
  | 2 => .boolean
  | _ => .int
abbrev wsJ40 : List Cond := u_ws RJ4 TJ4 4
theorem nmJ4 : ∀ a, a < 4 → ∀ b, b < 4 → a ≠ b → (TJ4 a).2.1 ≠ (TJ4 b).2.1 := by decide +kernel
theorem tyJ4_ok : ∀ k, k < 4 → parseFieldDescriptor (TJ4 k).2.2.1 = some (tyJ4 k) := by decide +kernel
abbrev cJ4_init_da8c8 : ByteArray := prog_24_method_1_code
def yJ4_init_da8c8 : MethodName := ⟨RJ4, "<init>", "()V"⟩
abbrev cJ4_append_15ec4 : ByteArray := prog_24_method_7_code
def yJ4_append_15ec4 : MethodName := ⟨RJ4, "append", "(Ljava/lang/String;)Ljava/lang/StringBuilder;"⟩
abbrev cJ4_append_bf812 : ByteArray := prog_24_method_15_code
def yJ4_append_bf812 : MethodName := ⟨RJ4, "append", "(I)Ljava/lang/StringBuilder;"⟩
abbrev cJ4_toString_0e30d : ByteArray := prog_24_method_42_code
def yJ4_toString_0e30d : MethodName := ⟨RJ4, "toString", "()Ljava/lang/String;"⟩
abbrev cJ4_length_8abf5 : ByteArray := prog_24_method_93_code
def yJ4_length_8abf5 : MethodName := ⟨RJ4, "length", "()I"⟩
def RJ1 : String := "java/lang/StringLatin1"
def TJ1 : u_T := fun k => match k with
  | _ => ("", "", "", false)
def tyJ1 : Nat → FieldType := fun k => match k with
  | _ => .int
abbrev wsJ10 : List Cond := u_ws RJ1 TJ1 0
theorem nmJ1 : ∀ a, a < 0 → ∀ b, b < 0 → a ≠ b → (TJ1 a).2.1 ≠ (TJ1 b).2.1 := by decide +kernel
theorem tyJ1_ok : ∀ k, k < 0 → parseFieldDescriptor (TJ1 k).2.2.1 = some (tyJ1 k) := by decide +kernel
abbrev cJ1_inflate_0e8fd : ByteArray := prog_25_method_50_code
def yJ1_inflate_0e8fd : MethodName := ⟨RJ1, "inflate", "([BI[BII)V"⟩
def RJ2 : String := "java/lang/StringUTF16"
def TJ2 : u_T := fun k => match k with
  | _ => ("", "", "", false)
def tyJ2 : Nat → FieldType := fun k => match k with
  | _ => .int
abbrev wsJ20 : List Cond := u_ws RJ2 TJ2 0
theorem nmJ2 : ∀ a, a < 0 → ∀ b, b < 0 → a ≠ b → (TJ2 a).2.1 ≠ (TJ2 b).2.1 := by decide +kernel
theorem tyJ2_ok : ∀ k, k < 0 → parseFieldDescriptor (TJ2 k).2.2.1 = some (tyJ2 k) := by decide +kernel
abbrev cJ2_newBytesFor_77867 : ByteArray := prog_26_method_2_code
def yJ2_newBytesFor_77867 : MethodName := ⟨RJ2, "newBytesFor", "(I)[B"⟩
abbrev cJ2_newBytesLength_0f7a4 : ByteArray := prog_26_method_3_code
def yJ2_newBytesLength_0f7a4 : MethodName := ⟨RJ2, "newBytesLength", "(I)I"⟩
abbrev cJ2_putChar_b72d1 : ByteArray := prog_26_method_4_code
def yJ2_putChar_b72d1 : MethodName := ⟨RJ2, "putChar", "([BII)V"⟩
abbrev cJ2_getChar_3b067 : ByteArray := prog_26_method_5_code
def yJ2_getChar_3b067 : MethodName := ⟨RJ2, "getChar", "([BI)C"⟩
abbrev cJ2_length_9d52b : ByteArray := prog_26_method_6_code
def yJ2_length_9d52b : MethodName := ⟨RJ2, "length", "([B)I"⟩
abbrev cJ2_coderFromArrayLen_85cad : ByteArray := prog_26_method_15_code
def yJ2_coderFromArrayLen_85cad : MethodName := ⟨RJ2, "coderFromArrayLen", "([BI)B"⟩
abbrev cJ2_compress_39247 : ByteArray := prog_26_method_17_code
def yJ2_compress_39247 : MethodName := ⟨RJ2, "compress", "([BII)[B"⟩
abbrev cJ2_compress_5af95 : ByteArray := prog_26_method_22_code
def yJ2_compress_5af95 : MethodName := ⟨RJ2, "compress", "([BI[BII)I"⟩
abbrev cJ2_getChars_46870 : ByteArray := prog_26_method_77_code
def yJ2_getChars_46870 : MethodName := ⟨RJ2, "getChars", "(III[B)I"⟩
abbrev cJ2_putCharsAt_cd4e5 : ByteArray := prog_26_method_81_code
def yJ2_putCharsAt_cd4e5 : MethodName := ⟨RJ2, "putCharsAt", "([BICCCC)I"⟩
abbrev cJ2_inflate_0e8fd : ByteArray := prog_26_method_86_code
def yJ2_inflate_0e8fd : MethodName := ⟨RJ2, "inflate", "([BI[BII)V"⟩
abbrev cJ2_getChars_ba4f3 : ByteArray := prog_26_method_89_code
def yJ2_getChars_ba4f3 : MethodName := ⟨RJ2, "getChars", "(II[B)I"⟩
abbrev cJ2_checkBoundsBeginEnd_d044e : ByteArray := prog_26_method_93_code
def yJ2_checkBoundsBeginEnd_d044e : MethodName := ⟨RJ2, "checkBoundsBeginEnd", "(II[B)V"⟩
abbrev cJ2_checkBoundsOffCount_d044e : ByteArray := prog_26_method_94_code
def yJ2_checkBoundsOffCount_d044e : MethodName := ⟨RJ2, "checkBoundsOffCount", "(II[B)V"⟩
def RJ10 : String := "java/lang/System"
def TJ10 : u_T := fun k => match k with
  | _ => ("", "", "", false)
def tyJ10 : Nat → FieldType := fun k => match k with
  | _ => .int
abbrev wsJ100 : List Cond := u_ws RJ10 TJ10 0
theorem nmJ10 : ∀ a, a < 0 → ∀ b, b < 0 → a ≠ b → (TJ10 a).2.1 ≠ (TJ10 b).2.1 := by decide +kernel
theorem tyJ10_ok : ∀ k, k < 0 → parseFieldDescriptor (TJ10 k).2.2.1 = some (tyJ10 k) := by decide +kernel
def RJxfd54e : String := "java/lang/constant/Constable"
def TJxfd54e : u_T := fun k => match k with
  | _ => ("", "", "", false)
def tyJxfd54e : Nat → FieldType := fun k => match k with
  | _ => .int
abbrev wsJxfd54e0 : List Cond := u_ws RJxfd54e TJxfd54e 0
theorem nmJxfd54e : ∀ a, a < 0 → ∀ b, b < 0 → a ≠ b → (TJxfd54e a).2.1 ≠ (TJxfd54e b).2.1 := by decide +kernel
theorem tyJxfd54e_ok : ∀ k, k < 0 → parseFieldDescriptor (TJxfd54e k).2.2.1 = some (tyJxfd54e k) := by decide +kernel
def RJx3cf43 : String := "java/lang/constant/ConstantDesc"
def TJx3cf43 : u_T := fun k => match k with
  | _ => ("", "", "", false)
def tyJx3cf43 : Nat → FieldType := fun k => match k with
  | _ => .int
abbrev wsJx3cf430 : List Cond := u_ws RJx3cf43 TJx3cf43 0
theorem nmJx3cf43 : ∀ a, a < 0 → ∀ b, b < 0 → a ≠ b → (TJx3cf43 a).2.1 ≠ (TJx3cf43 b).2.1 := by decide +kernel
theorem tyJx3cf43_ok : ∀ k, k < 0 → parseFieldDescriptor (TJx3cf43 k).2.2.1 = some (tyJx3cf43 k) := by decide +kernel
def RJ7 : String := "java/util/Arrays"
def TJ7 : u_T := fun k => match k with
  | _ => ("", "", "", false)
def tyJ7 : Nat → FieldType := fun k => match k with
  | _ => .int
abbrev wsJ70 : List Cond := u_ws RJ7 TJ7 0
theorem nmJ7 : ∀ a, a < 0 → ∀ b, b < 0 → a ≠ b → (TJ7 a).2.1 ≠ (TJ7 b).2.1 := by decide +kernel
theorem tyJ7_ok : ∀ k, k < 0 → parseFieldDescriptor (TJ7 k).2.2.1 = some (tyJ7 k) := by decide +kernel
abbrev cJ7_rangeCheck_23922 : ByteArray := prog_30_method_30_code
def yJ7_rangeCheck_23922 : MethodName := ⟨RJ7, "rangeCheck", "(III)V"⟩
abbrev cJ7_fill_d0a16 : ByteArray := prog_30_method_101_code
def yJ7_fill_d0a16 : MethodName := ⟨RJ7, "fill", "([JJ)V"⟩
abbrev cJ7_fill_bad5a : ByteArray := prog_30_method_102_code
def yJ7_fill_bad5a : MethodName := ⟨RJ7, "fill", "([JIIJ)V"⟩
abbrev cJ7_fill_53178 : ByteArray := prog_30_method_103_code
def yJ7_fill_53178 : MethodName := ⟨RJ7, "fill", "([II)V"⟩
abbrev cJ7_fill_fda19 : ByteArray := prog_30_method_104_code
def yJ7_fill_fda19 : MethodName := ⟨RJ7, "fill", "([IIII)V"⟩
abbrev cJ7_copyOf_9075b : ByteArray := prog_30_method_121_code
def yJ7_copyOf_9075b : MethodName := ⟨RJ7, "copyOf", "([BI)[B"⟩
abbrev cJ7_checkLength_df160 : ByteArray := prog_30_method_131_code
def yJ7_checkLength_df160 : MethodName := ⟨RJ7, "checkLength", "(II)V"⟩
abbrev cJ7_copyOfRange_39247 : ByteArray := prog_30_method_132_code
def yJ7_copyOfRange_39247 : MethodName := ⟨RJ7, "copyOfRange", "([BII)[B"⟩
abbrev cJ7_copyOfRangeByte_39247 : ByteArray := prog_30_method_133_code
def yJ7_copyOfRangeByte_39247 : MethodName := ⟨RJ7, "copyOfRangeByte", "([BII)[B"⟩
def RJ8 : String := "jdk/internal/util/ArraysSupport"
def TJ8 : u_T := fun k => match k with
  | _ => ("", "", "", false)
def tyJ8 : Nat → FieldType := fun k => match k with
  | _ => .int
abbrev wsJ80 : List Cond := u_ws RJ8 TJ8 0
theorem nmJ8 : ∀ a, a < 0 → ∀ b, b < 0 → a ≠ b → (TJ8 a).2.1 ≠ (TJ8 b).2.1 := by decide +kernel
theorem tyJ8_ok : ∀ k, k < 0 → parseFieldDescriptor (TJ8 k).2.2.1 = some (tyJ8 k) := by decide +kernel
abbrev cJ8_newLength_cabcc : ByteArray := prog_31_method_27_code
def yJ8_newLength_cabcc : MethodName := ⟨RJ8, "newLength", "(III)I"⟩
abbrev cJ8_hugeLength_7cf53 : ByteArray := prog_31_method_28_code
def yJ8_hugeLength_7cf53 : MethodName := ⟨RJ8, "hugeLength", "(II)I"⟩
def RJ3 : String := "jdk/internal/util/Preconditions"
def TJ3 : u_T := fun k => match k with
  | _ => ("", "", "", false)
def tyJ3 : Nat → FieldType := fun k => match k with
  | _ => .int
abbrev wsJ30 : List Cond := u_ws RJ3 TJ3 0
theorem nmJ3 : ∀ a, a < 0 → ∀ b, b < 0 → a ≠ b → (TJ3 a).2.1 ≠ (TJ3 b).2.1 := by decide +kernel
theorem tyJ3_ok : ∀ k, k < 0 → parseFieldDescriptor (TJ3 k).2.2.1 = some (tyJ3 k) := by decide +kernel
abbrev cJ3_checkFromToIndex_8c36e : ByteArray := prog_32_method_12_code
def yJ3_checkFromToIndex_8c36e : MethodName := ⟨RJ3, "checkFromToIndex", "(IIILjava/util/function/BiFunction;)I"⟩
abbrev cJ3_checkFromIndexSize_8c36e : ByteArray := prog_32_method_13_code
def yJ3_checkFromIndexSize_8c36e : MethodName := ⟨RJ3, "checkFromIndexSize", "(IIILjava/util/function/BiFunction;)I"⟩
def RL : String := "HashgraphDeskLaw"
abbrev cL_begin : ByteArray := method_3_code
def yL_begin : MethodName := ⟨RL, "begin", "(LHashgraphDesk;I)I"⟩
abbrev cL_submit : ByteArray := method_4_code
def yL_submit : MethodName := ⟨RL, "submit", "(LHashgraphDesk;III[J)I"⟩
abbrev cL_sync : ByteArray := method_5_code
def yL_sync : MethodName := ⟨RL, "sync", "(LHashgraphDesk;IIJ[J)I"⟩
abbrev cL_inject : ByteArray := method_6_code
def yL_inject : MethodName := ⟨RL, "inject", "(LHashgraphDesk;IIIIJ[J)I"⟩
abbrev cL_event : ByteArray := method_7_code
def yL_event : MethodName := ⟨RL, "event", "(LHashgraphDesk;II[J)I"⟩
abbrev cL_hash : ByteArray := method_8_code
def yL_hash : MethodName := ⟨RL, "hash", "(LHashgraphDesk;II[J)I"⟩
abbrev cL_sees : ByteArray := method_9_code
def yL_sees : MethodName := ⟨RL, "sees", "(LHashgraphDesk;IIZ[J)I"⟩
abbrev cL_vote : ByteArray := method_10_code
def yL_vote : MethodName := ⟨RL, "vote", "(LHashgraphDesk;II[J)I"⟩
abbrev cL_found : ByteArray := method_11_code
def yL_found : MethodName := ⟨RL, "found", "(LHashgraphDesk;III[J)I"⟩
abbrev cL_stamp : ByteArray := method_12_code
def yL_stamp : MethodName := ⟨RL, "stamp", "(LHashgraphDesk;II[J)I"⟩
abbrev cL_order : ByteArray := method_13_code
def yL_order : MethodName := ⟨RL, "order", "(LHashgraphDesk;I[J)I"⟩
abbrev cL_at : ByteArray := method_14_code
def yL_at : MethodName := ⟨RL, "at", "(LHashgraphDesk;II[J)I"⟩
abbrev cL_balance : ByteArray := method_15_code
def yL_balance : MethodName := ⟨RL, "balance", "(LHashgraphDesk;II[J)I"⟩
abbrev cL_count : ByteArray := method_16_code
def yL_count : MethodName := ⟨RL, "count", "(LHashgraphDesk;I[J)I"⟩
abbrev cL_law : ByteArray := code
def yL_law : MethodName := ⟨RL, "law", "([I)Z"⟩
def wsJx00060_init_d00df_r1 : List Cond := [Cond.classLink RJx00060 10 RJ4, Cond.instantiable RJ4 4, Cond.initialized RJ4, Cond.methodLink RJx00060 12 yJ4_init_da8c8, Cond.instanceMethod yJ4_init_da8c8, Cond.code yJ4_init_da8c8 cJ4_init_da8c8 1 none, Cond.methodLink RJ4 1 yJ5_init_d00df, Cond.instanceMethod yJ5_init_d00df, Cond.initialized RJ5, Cond.code yJ5_init_d00df cJ5_init_d00df 2 none, Cond.methodLink RJ5 3 objectInit, Cond.instanceMethod objectInit, Cond.code objectInit ⟨#[0xb1]⟩ 1 none, Cond.fieldLink RJ5 18 "java/lang/String" "COMPACT_STRINGS" "Z", Cond.arrayClass .byte, Cond.fieldLink RJ5 15 "java/lang/AbstractStringBuilder" "value" "[B", Cond.fieldLink RJ5 22 "java/lang/AbstractStringBuilder" "coder" "B", Cond.methodLink RJ5 26 yJ2_newBytesFor_77867, Cond.static yJ2_newBytesFor_77867, Cond.initialized RJ2, Cond.code yJ2_newBytesFor_77867 cJ2_newBytesFor_77867 1 (some (.array .byte)), Cond.methodLink RJ2 11 yJ2_newBytesLength_0f7a4, Cond.static yJ2_newBytesLength_0f7a4, Cond.code yJ2_newBytesLength_0f7a4 cJ2_newBytesLength_0f7a4 1 (some .int)]
def wsJx00060_init_d00df_r2 : List Cond := [Cond.constant RJ2 20 (1073741823), Cond.methodLink RJx00060 15 yJ4_append_15ec4, Cond.instanceMethod yJ4_append_15ec4, Cond.selects RJ4 yJ4_append_15ec4 yJ4_append_15ec4, Cond.code yJ4_append_15ec4 cJ4_append_15ec4 2 (some (.object "java/lang/StringBuilder")), Cond.methodLink RJ4 29 yJ5_append_cf1ce, Cond.sameMethod "java/lang/AbstractStringBuilder" "java/lang/AbstractStringBuilder" "append" "(Ljava/lang/String;)Ljava/lang/AbstractStringBuilder;", Cond.superclass RJ4 RJ5, Cond.instanceMethod yJ5_append_cf1ce, Cond.code yJ5_append_cf1ce cJ5_append_cf1ce 3 (some (.object "java/lang/AbstractStringBuilder")), Cond.fieldLink RJ5 79 "java/lang/AbstractStringBuilder" "count" "I", Cond.methodLink RJ5 204 ⟨"java/lang/AbstractStringBuilder", "appendNull", "()Ljava/lang/AbstractStringBuilder;"⟩, Cond.sameMethod "java/lang/AbstractStringBuilder" "java/lang/AbstractStringBuilder" "appendNull" "()Ljava/lang/AbstractStringBuilder;", Cond.selects RJ4 ⟨"java/lang/AbstractStringBuilder", "appendNull", "()Ljava/lang/AbstractStringBuilder;"⟩ yJ5_appendNull_278bc, Cond.instanceMethod yJ5_appendNull_278bc, Cond.code yJ5_appendNull_278bc cJ5_appendNull_278bc 3 (some (.object "java/lang/AbstractStringBuilder")), Cond.methodLink RJ5 100 ⟨"java/lang/AbstractStringBuilder", "ensureCapacityInternal", "(I)V"⟩, Cond.sameMethod "java/lang/AbstractStringBuilder" "java/lang/AbstractStringBuilder" "ensureCapacityInternal" "(I)V", Cond.selects RJ4 ⟨"java/lang/AbstractStringBuilder", "ensureCapacityInternal", "(I)V"⟩ yJ5_ensureCapacityInternal_d00df, Cond.instanceMethod yJ5_ensureCapacityInternal_d00df, Cond.code yJ5_ensureCapacityInternal_d00df cJ5_ensureCapacityInternal_d00df 3 none, Cond.methodLink RJ5 104 ⟨"java/lang/AbstractStringBuilder", "newCapacity", "(I)I"⟩, Cond.sameMethod "java/lang/AbstractStringBuilder" "java/lang/AbstractStringBuilder" "newCapacity" "(I)I", Cond.selects RJ4 ⟨"java/lang/AbstractStringBuilder", "newCapacity", "(I)I"⟩ yJ5_newCapacity_0f7a4]
def wsJx00060_init_d00df_r3 : List Cond := [Cond.instanceMethod yJ5_newCapacity_0f7a4, Cond.code yJ5_newCapacity_0f7a4 cJ5_newCapacity_0f7a4 6 (some .int), Cond.constant RJ5 39 (2147483647), Cond.methodLink RJ5 114 yJ8_newLength_cabcc, Cond.static yJ8_newLength_cabcc, Cond.initialized RJ8, Cond.code yJ8_newLength_cabcc cJ8_newLength_cabcc 4 (some .int), Cond.methodLink RJ8 194 Lib.Math.max.name, Cond.static Lib.Math.max.name, Cond.initialized "java/lang/Math", Cond.code Lib.Math.max.name Lib.Math.max.code 2 (some .int), Cond.constant RJ8 200 (2147483639), Cond.methodLink RJ8 201 yJ8_hugeLength_7cf53, Cond.static yJ8_hugeLength_7cf53, Cond.code yJ8_hugeLength_7cf53 cJ8_hugeLength_7cf53 3 (some .int), Cond.methodLink RJ5 108 yJ7_copyOf_9075b, Cond.static yJ7_copyOf_9075b, Cond.initialized RJ7, Cond.code yJ7_copyOf_9075b cJ7_copyOf_9075b 3 (some (.array .byte)), Cond.methodLink RJ7 310 ⟨"[B", "clone", "()Ljava/lang/Object;"⟩, Cond.sameMethod "[B" "java/lang/Object" "clone" "()Ljava/lang/Object;", Cond.native ⟨"java/lang/Object", "clone", "()Ljava/lang/Object;"⟩, Cond.instanceMethod ⟨"java/lang/Object", "clone", "()Ljava/lang/Object;"⟩, Cond.selects "[B" ⟨"[B", "clone", "()Ljava/lang/Object;"⟩ ⟨"java/lang/Object", "clone", "()Ljava/lang/Object;"⟩]
def wsJx00060_init_d00df_r4 : List Cond := [Cond.classLink RJ7 311 "[B", Cond.methodLink RJ7 304 Lib.Math.min.name, Cond.static Lib.Math.min.name, Cond.code Lib.Math.min.name Lib.Math.min.code 2 (some .int), Cond.methodLink RJ7 150 arraycopyName, Cond.native arraycopyName, Cond.static arraycopyName, Cond.initialized "java/lang/System", Cond.methodLink RJ5 83 ⟨"java/lang/AbstractStringBuilder", "isLatin1", "()Z"⟩, Cond.sameMethod "java/lang/AbstractStringBuilder" "java/lang/AbstractStringBuilder" "isLatin1" "()Z", Cond.selects RJ4 ⟨"java/lang/AbstractStringBuilder", "isLatin1", "()Z"⟩ yJ5_isLatin1_aae02, Cond.instanceMethod yJ5_isLatin1_aae02, Cond.code yJ5_isLatin1_aae02 cJ5_isLatin1_aae02 1 (some .boolean), Cond.methodLink RJ5 226 yJ2_putCharsAt_cd4e5, Cond.static yJ2_putCharsAt_cd4e5, Cond.code yJ2_putCharsAt_cd4e5 cJ2_putCharsAt_cd4e5 7 (some .int), Cond.fieldLink RJ2 44 "java/lang/StringUTF16" "$assertionsDisabled" "Z", Cond.methodLink RJ2 96 yJ2_checkBoundsBeginEnd_d044e, Cond.static yJ2_checkBoundsBeginEnd_d044e, Cond.code yJ2_checkBoundsBeginEnd_d044e cJ2_checkBoundsBeginEnd_d044e 3 none, Cond.methodLink RJ2 48 yJ2_length_9d52b, Cond.static yJ2_length_9d52b, Cond.code yJ2_length_9d52b cJ2_length_9d52b 1 (some .int), Cond.methodLink RJ2 241 yJ0_checkBoundsBeginEnd_23922]
def wsJx00060_init_d00df_r5 : List Cond := [Cond.static yJ0_checkBoundsBeginEnd_23922, Cond.initialized RJ0, Cond.code yJ0_checkBoundsBeginEnd_23922 cJ0_checkBoundsBeginEnd_23922 3 none, Cond.fieldLink RJ0 1053 "jdk/internal/util/Preconditions" "SIOOBE_FORMATTER" "Ljava/util/function/BiFunction;", Cond.methodLink RJ0 1062 yJ3_checkFromToIndex_8c36e, Cond.static yJ3_checkFromToIndex_8c36e, Cond.initialized RJ3, Cond.code yJ3_checkFromToIndex_8c36e cJ3_checkFromToIndex_8c36e 4 (some .int), Cond.methodLink RJ2 111 yJ2_putChar_b72d1, Cond.static yJ2_putChar_b72d1, Cond.code yJ2_putChar_b72d1 cJ2_putChar_b72d1 3 none, Cond.fieldLink RJ2 59 "java/lang/StringUTF16" "HI_BYTE_SHIFT" "I", Cond.fieldLink RJ2 63 "java/lang/StringUTF16" "LO_BYTE_SHIFT" "I", Cond.methodLink RJ5 32 yJ0_length_8abf5, Cond.instanceMethod yJ0_length_8abf5, Cond.selects RJ0 yJ0_length_8abf5 yJ0_length_8abf5, Cond.code yJ0_length_8abf5 cJ0_length_8abf5 1 (some .int), Cond.fieldLink RJ0 9 "java/lang/String" "value" "[B", Cond.methodLink RJ0 335 yJ0_coder_7d493, Cond.instanceMethod yJ0_coder_7d493, Cond.selects RJ0 yJ0_coder_7d493 yJ0_coder_7d493, Cond.code yJ0_coder_7d493 cJ0_coder_7d493 1 (some .byte), Cond.fieldLink RJ0 38 "java/lang/String" "COMPACT_STRINGS" "Z", Cond.fieldLink RJ0 15 "java/lang/String" "coder" "B"]
def wsJx00060_init_d00df_r6 : List Cond := [Cond.methodLink RJ5 208 ⟨"java/lang/AbstractStringBuilder", "putStringAt", "(ILjava/lang/String;)V"⟩, Cond.sameMethod "java/lang/AbstractStringBuilder" "java/lang/AbstractStringBuilder" "putStringAt" "(ILjava/lang/String;)V", Cond.selects RJ4 ⟨"java/lang/AbstractStringBuilder", "putStringAt", "(ILjava/lang/String;)V"⟩ yJ5_putStringAt_47b60, Cond.instanceMethod yJ5_putStringAt_47b60, Cond.code yJ5_putStringAt_47b60 cJ5_putStringAt_47b60 3 none, Cond.methodLink RJ5 397 ⟨"java/lang/AbstractStringBuilder", "inflateIfNeededFor", "(Ljava/lang/String;)V"⟩, Cond.sameMethod "java/lang/AbstractStringBuilder" "java/lang/AbstractStringBuilder" "inflateIfNeededFor" "(Ljava/lang/String;)V", Cond.selects RJ4 ⟨"java/lang/AbstractStringBuilder", "inflateIfNeededFor", "(Ljava/lang/String;)V"⟩ yJ5_inflateIfNeededFor_a7421, Cond.instanceMethod yJ5_inflateIfNeededFor_a7421, Cond.code yJ5_inflateIfNeededFor_a7421 cJ5_inflateIfNeededFor_a7421 2 none, Cond.methodLink RJ5 40 yJ0_coder_7d493, Cond.methodLink RJ5 195 ⟨"java/lang/AbstractStringBuilder", "inflate", "()V"⟩, Cond.sameMethod "java/lang/AbstractStringBuilder" "java/lang/AbstractStringBuilder" "inflate" "()V", Cond.selects RJ4 ⟨"java/lang/AbstractStringBuilder", "inflate", "()V"⟩ yJ5_inflate_da8c8, Cond.instanceMethod yJ5_inflate_da8c8, Cond.code yJ5_inflate_da8c8 cJ5_inflate_da8c8 2 none, Cond.methodLink RJ5 125 yJ1_inflate_0e8fd, Cond.static yJ1_inflate_0e8fd, Cond.initialized RJ1, Cond.code yJ1_inflate_0e8fd cJ1_inflate_0e8fd 5 none, Cond.methodLink RJ1 240 yJ2_inflate_0e8fd, Cond.static yJ2_inflate_0e8fd, Cond.code yJ2_inflate_0e8fd cJ2_inflate_0e8fd 6 none, Cond.methodLink RJ2 173 yJ2_checkBoundsOffCount_d044e]
def wsJx00060_init_d00df_r7 : List Cond := [Cond.static yJ2_checkBoundsOffCount_d044e, Cond.code yJ2_checkBoundsOffCount_d044e cJ2_checkBoundsOffCount_d044e 3 none, Cond.methodLink RJ2 419 yJ0_checkBoundsOffCount_cabcc, Cond.static yJ0_checkBoundsOffCount_cabcc, Cond.code yJ0_checkBoundsOffCount_cabcc cJ0_checkBoundsOffCount_cabcc 3 (some .int), Cond.methodLink RJ0 1065 yJ3_checkFromIndexSize_8c36e, Cond.static yJ3_checkFromIndexSize_8c36e, Cond.code yJ3_checkFromIndexSize_8c36e cJ3_checkFromIndexSize_8c36e 4 (some .int), Cond.methodLink RJ5 399 yJ0_getBytes_840e7, Cond.instanceMethod yJ0_getBytes_840e7, Cond.selects RJ0 yJ0_getBytes_840e7 yJ0_getBytes_840e7, Cond.code yJ0_getBytes_840e7 cJ0_getBytes_840e7 4 none, Cond.methodLink RJ0 212 arraycopyName, Cond.methodLink RJ0 106 yJ1_inflate_0e8fd, Cond.methodLink RJx00060 19 yJ4_append_bf812, Cond.instanceMethod yJ4_append_bf812, Cond.selects RJ4 yJ4_append_bf812 yJ4_append_bf812, Cond.code yJ4_append_bf812 cJ4_append_bf812 2 (some (.object "java/lang/StringBuilder")), Cond.methodLink RJ4 53 yJ5_append_c97b9, Cond.sameMethod "java/lang/AbstractStringBuilder" "java/lang/AbstractStringBuilder" "append" "(I)Ljava/lang/AbstractStringBuilder;", Cond.instanceMethod yJ5_append_c97b9, Cond.code yJ5_append_c97b9 cJ5_append_c97b9 4 (some (.object "java/lang/AbstractStringBuilder")), Cond.methodLink RJ5 245 yJ6_stringSize_0f7a4, Cond.static yJ6_stringSize_0f7a4]
def wsJx00060_init_d00df_r8 : List Cond := [Cond.initialized RJ6, Cond.code yJ6_stringSize_0f7a4 cJ6_stringSize_0f7a4 4 (some .int), Cond.methodLink RJ5 248 yJ6_getChars_ba4f3, Cond.static yJ6_getChars_ba4f3, Cond.code yJ6_getChars_ba4f3 cJ6_getChars_ba4f3 7 (some .int), Cond.fieldLink RJ6 83 "java/lang/Integer" "DigitOnes" "[B", Cond.fieldLink RJ6 87 "java/lang/Integer" "DigitTens" "[B", Cond.methodLink RJ5 251 yJ2_getChars_46870, Cond.static yJ2_getChars_46870, Cond.code yJ2_getChars_46870 cJ2_getChars_46870 5 (some .int), Cond.methodLink RJ2 393 yJ2_getChars_ba4f3, Cond.static yJ2_getChars_ba4f3, Cond.code yJ2_getChars_ba4f3 cJ2_getChars_ba4f3 7 (some .int), Cond.fieldLink RJ2 403 "java/lang/Integer" "DigitOnes" "[B", Cond.fieldLink RJ2 407 "java/lang/Integer" "DigitTens" "[B", Cond.methodLink RJx00060 22 yJ4_toString_0e30d, Cond.instanceMethod yJ4_toString_0e30d, Cond.selects RJ4 yJ4_toString_0e30d yJ4_toString_0e30d, Cond.code yJ4_toString_0e30d cJ4_toString_0e30d 1 (some (.object "java/lang/String")), Cond.classLink RJ4 18 RJ0, Cond.instantiable RJ0 4, Cond.methodLink RJ4 137 yJ0_init_81219, Cond.instanceMethod yJ0_init_81219, Cond.code yJ0_init_81219 cJ0_init_81219 2 none]
def wsJx00060_init_d00df_r9 : List Cond := [Cond.methodLink RJ0 489 yJ0_init_db425, Cond.instanceMethod yJ0_init_db425, Cond.code yJ0_init_db425 cJ0_init_db425 5 none, Cond.methodLink RJ0 1 objectInit, Cond.fieldLink RJ0 1048 "java/lang/AbstractStringBuilder" "maybeLatin1" "Z", Cond.methodLink RJ0 552 ⟨"java/lang/AbstractStringBuilder", "getValue", "()[B"⟩, Cond.sameMethod "java/lang/AbstractStringBuilder" "java/lang/AbstractStringBuilder" "getValue" "()[B", Cond.selects RJ4 ⟨"java/lang/AbstractStringBuilder", "getValue", "()[B"⟩ yJ5_getValue_6d5f1, Cond.instanceMethod yJ5_getValue_6d5f1, Cond.code yJ5_getValue_6d5f1 cJ5_getValue_6d5f1 1 (some (.array .byte)), Cond.methodLink RJ0 549 ⟨"java/lang/AbstractStringBuilder", "length", "()I"⟩, Cond.sameMethod "java/lang/AbstractStringBuilder" "java/lang/AbstractStringBuilder" "length" "()I", Cond.instanceMethod ⟨"java/lang/AbstractStringBuilder", "length", "()I"⟩, Cond.selects RJ4 ⟨"java/lang/AbstractStringBuilder", "length", "()I"⟩ yJ4_length_8abf5, Cond.instanceMethod yJ4_length_8abf5, Cond.code yJ4_length_8abf5 cJ4_length_8abf5 1 (some .int), Cond.methodLink RJ4 343 yJ5_length_8abf5, Cond.instanceMethod yJ5_length_8abf5, Cond.code yJ5_length_8abf5 cJ5_length_8abf5 1 (some .int), Cond.methodLink RJ0 1047 ⟨"java/lang/AbstractStringBuilder", "isLatin1", "()Z"⟩, Cond.methodLink RJ0 54 yJ7_copyOfRange_39247, Cond.static yJ7_copyOfRange_39247, Cond.code yJ7_copyOfRange_39247 cJ7_copyOfRange_39247 3 (some (.array .byte)), Cond.methodLink RJ7 339 yJ7_copyOfRangeByte_39247]
def wsJx00060_init_d00df_r10 : List Cond := [Cond.static yJ7_copyOfRangeByte_39247, Cond.code yJ7_copyOfRangeByte_39247 cJ7_copyOfRangeByte_39247 5 (some (.array .byte)), Cond.methodLink RJ7 343 yJ7_checkLength_df160, Cond.static yJ7_checkLength_df160, Cond.code yJ7_checkLength_df160 cJ7_checkLength_df160 2 none, Cond.classLink RJ7 45 RJ4, Cond.methodLink RJ0 1051 yJ2_compress_39247, Cond.static yJ2_compress_39247, Cond.code yJ2_compress_39247 cJ2_compress_39247 6 (some (.array .byte)), Cond.methodLink RJ2 123 yJ2_compress_5af95, Cond.static yJ2_compress_5af95, Cond.code yJ2_compress_5af95 cJ2_compress_5af95 7 (some .int), Cond.methodLink RJ2 71 yJ2_getChar_3b067, Cond.static yJ2_getChar_3b067, Cond.code yJ2_getChar_3b067 cJ2_getChar_3b067 2 (some .char), Cond.methodLink RJ2 126 yJ7_copyOfRange_39247, Cond.methodLink RJ0 47 yJ2_coderFromArrayLen_85cad, Cond.static yJ2_coderFromArrayLen_85cad, Cond.code yJ2_coderFromArrayLen_85cad cJ2_coderFromArrayLen_85cad 2 (some .byte)]
def wsJx00060_init_d00df : List Cond := .code yJx00060_init_d00df cJx00060_init_d00df 2 none :: ((wsJx00060_init_d00df_r1 ++ (wsJx00060_init_d00df_r2 ++ (wsJx00060_init_d00df_r3 ++ (wsJx00060_init_d00df_r4 ++ (wsJx00060_init_d00df_r5 ++ (wsJx00060_init_d00df_r6 ++ (wsJx00060_init_d00df_r7 ++ (wsJx00060_init_d00df_r8 ++ (wsJx00060_init_d00df_r9 ++ wsJx00060_init_d00df_r10))))))))) ++ wsJ40 ++ wsJ00)
