def RX0 : String := "RangeHouse$Ask"
def TX0 : u_T := fun k => match k with
  | 0 => ("RangeHouse$Ask", "count", "I", true)
  | 1 => ("RangeHouse$Ask", "kind", "I", true)
  | 2 => ("RangeHouse$Ask", "key", "I", true)
  | 3 => ("RangeHouse$Ask", "v", "J", true)
  | 4 => ("RangeHouse$Ask", "w", "J", true)
  | 5 => ("RangeHouse$Ask", "answered", "Z", false)
  | 6 => ("RangeHouse$Ask", "value", "J", false)
  | 7 => ("RangeHouse$Ask", "sign", "I", false)
  | _ => ("RangeHouse$Ask", "timesSent", "I", false)
def tyX0 : Nat → FieldType := fun k => match k with
  | 0 => .int
  | 1 => .int
  | 2 => .int
  | 3 => .long
  | 4 => .long
  | 5 => .boolean
  | 6 => .long
  | 7 => .int
  | _ => .int
abbrev wsX00 : List Cond := u_ws RX0 TX0 9
theorem nmX0 : ∀ a, a < 9 → ∀ b, b < 9 → a ≠ b → (TX0 a).2.1 ≠ (TX0 b).2.1 := by decide +kernel
theorem tyX0_ok : ∀ k, k < 9 → parseFieldDescriptor (TX0 k).2.2.1 = some (tyX0 k) := by decide +kernel
def RX1 : String := "RangeHouse$Caller"
def TX1 : u_T := fun k => match k with
  | 0 => ("RangeHouse$Caller", "number", "I", true)
  | 1 => ("RangeHouse$Caller", "copy", "Ljava/util/ArrayList;", true)
  | _ => ("RangeHouse$Caller", "asks", "Ljava/util/ArrayList;", true)
def tyX1 : Nat → FieldType := fun k => match k with
  | 0 => .int
  | 1 => .object "java/util/ArrayList"
  | _ => .object "java/util/ArrayList"
abbrev wsX10 : List Cond := u_ws RX1 TX1 3
theorem nmX1 : ∀ a, a < 3 → ∀ b, b < 3 → a ≠ b → (TX1 a).2.1 ≠ (TX1 b).2.1 := by decide +kernel
theorem tyX1_ok : ∀ k, k < 3 → parseFieldDescriptor (TX1 k).2.2.1 = some (tyX1 k) := by decide +kernel
def RX2 : String := "RangeHouse$Holding"
def TX2 : u_T := fun k => match k with
  | 0 => ("RangeHouse$Holding", "state", "I", false)
  | 1 => ("RangeHouse$Holding", "low", "I", false)
  | 2 => ("RangeHouse$Holding", "high", "I", false)
  | 3 => ("RangeHouse$Holding", "epoch", "I", false)
  | 4 => ("RangeHouse$Holding", "rows", "LRangeHouse$Rows;", true)
  | 5 => ("RangeHouse$Holding", "kept", "LRangeHouse$Kept;", true)
  | 6 => ("RangeHouse$Holding", "pastEpoch", "I", false)
  | 7 => ("RangeHouse$Holding", "pastAttempt", "I", false)
  | 8 => ("RangeHouse$Holding", "taker", "I", false)
  | 9 => ("RangeHouse$Holding", "attempt", "I", false)
  | 10 => ("RangeHouse$Holding", "part", "I", false)
  | 11 => ("RangeHouse$Holding", "sent", "LRangeHouse$Parcel;", false)
  | 12 => ("RangeHouse$Holding", "endTook", "Z", false)
  | _ => ("RangeHouse$Holding", "toSend", "LRangeHouse$KeySet;", true)
def tyX2 : Nat → FieldType := fun k => match k with
  | 0 => .int
  | 1 => .int
  | 2 => .int
  | 3 => .int
  | 4 => .object "RangeHouse$Rows"
  | 5 => .object "RangeHouse$Kept"
  | 6 => .int
  | 7 => .int
  | 8 => .int
  | 9 => .int
  | 10 => .int
  | 11 => .object "RangeHouse$Parcel"
  | 12 => .boolean
  | _ => .object "RangeHouse$KeySet"
abbrev wsX20 : List Cond := u_ws RX2 TX2 14
theorem nmX2 : ∀ a, a < 14 → ∀ b, b < 14 → a ≠ b → (TX2 a).2.1 ≠ (TX2 b).2.1 := by decide +kernel
theorem tyX2_ok : ∀ k, k < 14 → parseFieldDescriptor (TX2 k).2.2.1 = some (tyX2 k) := by decide +kernel
def RX3 : String := "RangeHouse$Host"
def TX3 : u_T := fun k => match k with
  | 0 => ("RangeHouse$Host", "number", "I", true)
  | 1 => ("RangeHouse$Host", "up", "Z", false)
  | 2 => ("RangeHouse$Host", "holdings", "[LRangeHouse$Holding;", true)
  | _ => ("RangeHouse$Host", "gave", "Ljava/util/ArrayList;", true)
def tyX3 : Nat → FieldType := fun k => match k with
  | 0 => .int
  | 1 => .boolean
  | 2 => .array (.object "RangeHouse$Holding")
  | _ => .object "java/util/ArrayList"
abbrev wsX30 : List Cond := u_ws RX3 TX3 4
theorem nmX3 : ∀ a, a < 4 → ∀ b, b < 4 → a ≠ b → (TX3 a).2.1 ≠ (TX3 b).2.1 := by decide +kernel
theorem tyX3_ok : ∀ k, k < 4 → parseFieldDescriptor (TX3 k).2.2.1 = some (tyX3 k) := by decide +kernel
def RX4 : String := "RangeHouse$Kept"
def TX4 : u_T := fun k => match k with
  | 0 => ("RangeHouse$Kept", "sizes", "[I", true)
  | 1 => ("RangeHouse$Kept", "counts", "[I", true)
  | 2 => ("RangeHouse$Kept", "values", "[J", true)
  | _ => ("RangeHouse$Kept", "signs", "[I", true)
def tyX4 : Nat → FieldType := fun k => match k with
  | 0 => .array .int
  | 1 => .array .int
  | 2 => .array .long
  | _ => .array .int
abbrev wsX40 : List Cond := u_ws RX4 TX4 4
theorem nmX4 : ∀ a, a < 4 → ∀ b, b < 4 → a ≠ b → (TX4 a).2.1 ≠ (TX4 b).2.1 := by decide +kernel
theorem tyX4_ok : ∀ k, k < 4 → parseFieldDescriptor (TX4 k).2.2.1 = some (tyX4 k) := by decide +kernel
def RX5 : String := "RangeHouse$KeySet"
def TX5 : u_T := fun k => match k with
  | 0 => ("RangeHouse$KeySet", "size", "I", false)
  | _ => ("RangeHouse$KeySet", "keys", "[I", false)
def tyX5 : Nat → FieldType := fun k => match k with
  | 0 => .int
  | _ => .array .int
abbrev wsX50 : List Cond := u_ws RX5 TX5 2
theorem nmX5 : ∀ a, a < 2 → ∀ b, b < 2 → a ≠ b → (TX5 a).2.1 ≠ (TX5 b).2.1 := by decide +kernel
theorem tyX5_ok : ∀ k, k < 2 → parseFieldDescriptor (TX5 k).2.2.1 = some (tyX5 k) := by decide +kernel
def RX6 : String := "RangeHouse$Letter"
def TX6 : u_T := fun k => match k with
  | 0 => ("RangeHouse$Letter", "kind", "I", true)
  | 1 => ("RangeHouse$Letter", "from", "I", true)
  | 2 => ("RangeHouse$Letter", "to", "I", true)
  | 3 => ("RangeHouse$Letter", "range", "I", false)
  | 4 => ("RangeHouse$Letter", "epoch", "I", false)
  | 5 => ("RangeHouse$Letter", "count", "I", false)
  | 6 => ("RangeHouse$Letter", "attempt", "I", false)
  | 7 => ("RangeHouse$Letter", "part", "I", false)
  | 8 => ("RangeHouse$Letter", "taker", "I", false)
  | 9 => ("RangeHouse$Letter", "value", "J", false)
  | 10 => ("RangeHouse$Letter", "sign", "I", false)
  | 11 => ("RangeHouse$Letter", "ask", "LRangeHouse$Ask;", false)
  | 12 => ("RangeHouse$Letter", "told", "LRangeHouse$Spot;", false)
  | 13 => ("RangeHouse$Letter", "parcel", "LRangeHouse$Parcel;", false)
  | 14 => ("RangeHouse$Letter", "lost", "Z", false)
  | _ => ("RangeHouse$Letter", "timesDelivered", "I", false)
def tyX6 : Nat → FieldType := fun k => match k with
  | 0 => .int
  | 1 => .int
  | 2 => .int
  | 3 => .int
  | 4 => .int
  | 5 => .int
  | 6 => .int
  | 7 => .int
  | 8 => .int
  | 9 => .long
  | 10 => .int
  | 11 => .object "RangeHouse$Ask"
  | 12 => .object "RangeHouse$Spot"
  | 13 => .object "RangeHouse$Parcel"
  | 14 => .boolean
  | _ => .int
abbrev wsX60 : List Cond := u_ws RX6 TX6 16
theorem nmX6 : ∀ a, a < 16 → ∀ b, b < 16 → a ≠ b → (TX6 a).2.1 ≠ (TX6 b).2.1 := by decide +kernel
theorem tyX6_ok : ∀ k, k < 16 → parseFieldDescriptor (TX6 k).2.2.1 = some (tyX6 k) := by decide +kernel
def RX7 : String := "RangeHouse$Page"
def TX7 : u_T := fun k => match k with
  | 0 => ("RangeHouse$Page", "spot", "LRangeHouse$Spot;", false)
  | 1 => ("RangeHouse$Page", "giver", "I", false)
  | 2 => ("RangeHouse$Page", "taker", "I", false)
  | 3 => ("RangeHouse$Page", "moveEpoch", "I", false)
  | 4 => ("RangeHouse$Page", "underWay", "Z", false)
  | _ => ("RangeHouse$Page", "owed", "I", false)
def tyX7 : Nat → FieldType := fun k => match k with
  | 0 => .object "RangeHouse$Spot"
  | 1 => .int
  | 2 => .int
  | 3 => .int
  | 4 => .boolean
  | _ => .int
abbrev wsX70 : List Cond := u_ws RX7 TX7 6
theorem nmX7 : ∀ a, a < 6 → ∀ b, b < 6 → a ≠ b → (TX7 a).2.1 ≠ (TX7 b).2.1 := by decide +kernel
theorem tyX7_ok : ∀ k, k < 6 → parseFieldDescriptor (TX7 k).2.2.1 = some (tyX7 k) := by decide +kernel
def RX8 : String := "RangeHouse$Parcel"
def TX8 : u_T := fun k => match k with
  | 0 => ("RangeHouse$Parcel", "low", "I", true)
  | 1 => ("RangeHouse$Parcel", "high", "I", true)
  | 2 => ("RangeHouse$Parcel", "size", "I", false)
  | 3 => ("RangeHouse$Parcel", "keys", "[I", true)
  | 4 => ("RangeHouse$Parcel", "there", "[Z", true)
  | 5 => ("RangeHouse$Parcel", "values", "[J", true)
  | _ => ("RangeHouse$Parcel", "kept", "LRangeHouse$Kept;", false)
def tyX8 : Nat → FieldType := fun k => match k with
  | 0 => .int
  | 1 => .int
  | 2 => .int
  | 3 => .array .int
  | 4 => .array .boolean
  | 5 => .array .long
  | _ => .object "RangeHouse$Kept"
abbrev wsX80 : List Cond := u_ws RX8 TX8 7
theorem nmX8 : ∀ a, a < 7 → ∀ b, b < 7 → a ≠ b → (TX8 a).2.1 ≠ (TX8 b).2.1 := by decide +kernel
theorem tyX8_ok : ∀ k, k < 7 → parseFieldDescriptor (TX8 k).2.2.1 = some (tyX8 k) := by decide +kernel
def RX9 : String := "RangeHouse$Rows"
def TX9 : u_T := fun k => match k with
  | 0 => ("RangeHouse$Rows", "size", "I", false)
  | 1 => ("RangeHouse$Rows", "keys", "[I", true)
  | _ => ("RangeHouse$Rows", "values", "[J", true)
def tyX9 : Nat → FieldType := fun k => match k with
  | 0 => .int
  | 1 => .array .int
  | _ => .array .long
abbrev wsX90 : List Cond := u_ws RX9 TX9 3
theorem nmX9 : ∀ a, a < 3 → ∀ b, b < 3 → a ≠ b → (TX9 a).2.1 ≠ (TX9 b).2.1 := by decide +kernel
theorem tyX9_ok : ∀ k, k < 3 → parseFieldDescriptor (TX9 k).2.2.1 = some (tyX9 k) := by decide +kernel
def RX10 : String := "RangeHouse$Spot"
def TX10 : u_T := fun k => match k with
  | 0 => ("RangeHouse$Spot", "number", "I", true)
  | 1 => ("RangeHouse$Spot", "low", "I", true)
  | 2 => ("RangeHouse$Spot", "high", "I", true)
  | 3 => ("RangeHouse$Spot", "epoch", "I", true)
  | _ => ("RangeHouse$Spot", "home", "I", true)
def tyX10 : Nat → FieldType := fun k => match k with
  | 0 => .int
  | 1 => .int
  | 2 => .int
  | 3 => .int
  | _ => .int
abbrev wsX100 : List Cond := u_ws RX10 TX10 5
theorem nmX10 : ∀ a, a < 5 → ∀ b, b < 5 → a ≠ b → (TX10 a).2.1 ≠ (TX10 b).2.1 := by decide +kernel
theorem tyX10_ok : ∀ k, k < 5 → parseFieldDescriptor (TX10 k).2.2.1 = some (tyX10 k) := by decide +kernel
def RX11 : String := "RangeHouse"
def TX11 : u_T := fun k => match k with
  | 0 => ("RangeHouse", "hosts", "[LRangeHouse$Host;", true)
  | 1 => ("RangeHouse", "pages", "[LRangeHouse$Page;", true)
  | 2 => ("RangeHouse", "callers", "Ljava/util/ArrayList;", true)
  | 3 => ("RangeHouse", "letters", "Ljava/util/ArrayList;", true)
  | 4 => ("RangeHouse", "done", "Ljava/util/ArrayList;", true)
  | 5 => ("RangeHouse", "refused", "[I", true)
  | 6 => ("RangeHouse", "made", "I", false)
  | 7 => ("RangeHouse", "over", "I", false)
  | _ => ("RangeHouse", "undone", "I", false)
def tyX11 : Nat → FieldType := fun k => match k with
  | 0 => .array (.object "RangeHouse$Host")
  | 1 => .array (.object "RangeHouse$Page")
  | 2 => .object "java/util/ArrayList"
  | 3 => .object "java/util/ArrayList"
  | 4 => .object "java/util/ArrayList"
  | 5 => .array .int
  | 6 => .int
  | 7 => .int
  | _ => .int
abbrev wsX110 : List Cond := u_ws RX11 TX11 9
theorem nmX11 : ∀ a, a < 9 → ∀ b, b < 9 → a ≠ b → (TX11 a).2.1 ≠ (TX11 b).2.1 := by decide +kernel
theorem tyX11_ok : ∀ k, k < 9 → parseFieldDescriptor (TX11 k).2.2.1 = some (tyX11 k) := by decide +kernel
def RX12 : String := "RangeHouseModel"
def TX12 : u_T := fun k => match k with
  | 0 => ("RangeHouseModel", "up", "[Z", true)
  | 1 => ("RangeHouseModel", "refusals", "[I", true)
  | 2 => ("RangeHouseModel", "has", "[Z", true)
  | 3 => ("RangeHouseModel", "bLow", "[I", true)
  | 4 => ("RangeHouseModel", "bHigh", "[I", true)
  | 5 => ("RangeHouseModel", "bEpoch", "[I", true)
  | 6 => ("RangeHouseModel", "bHome", "[I", true)
  | 7 => ("RangeHouseModel", "bTaker", "[I", true)
  | 8 => ("RangeHouseModel", "bMove", "[I", true)
  | 9 => ("RangeHouseModel", "owed", "[I", true)
  | 10 => ("RangeHouseModel", "oGiver", "[I", true)
  | 11 => ("RangeHouseModel", "oTaker", "[I", true)
  | 12 => ("RangeHouseModel", "ranges", "I", false)
  | 13 => ("RangeHouseModel", "over", "I", false)
  | 14 => ("RangeHouseModel", "undone", "I", false)
  | 15 => ("RangeHouseModel", "state", "[I", true)
  | 16 => ("RangeHouseModel", "low", "[I", true)
  | 17 => ("RangeHouseModel", "high", "[I", true)
  | 18 => ("RangeHouseModel", "epoch", "[I", true)
  | 19 => ("RangeHouseModel", "rowMany", "[I", true)
  | 20 => ("RangeHouseModel", "rowKey", "[I", true)
  | 21 => ("RangeHouseModel", "moveTo", "[I", true)
  | 22 => ("RangeHouseModel", "attempt", "[I", true)
  | 23 => ("RangeHouseModel", "part", "[I", true)
  | 24 => ("RangeHouseModel", "sent", "[I", true)
  | 25 => ("RangeHouseModel", "sendMany", "[I", true)
  | 26 => ("RangeHouseModel", "sendKey", "[I", true)
  | 27 => ("RangeHouseModel", "rowValue", "[J", true)
  | 28 => ("RangeHouseModel", "lastMany", "[I", true)
  | 29 => ("RangeHouseModel", "lastLetter", "[I", true)
  | 30 => ("RangeHouseModel", "pastEpoch", "[I", true)
  | 31 => ("RangeHouseModel", "pastAttempt", "[I", true)
  | 32 => ("RangeHouseModel", "isTaken", "[Z", true)
  | 33 => ("RangeHouseModel", "isEndTaken", "[Z", true)
  | 34 => ("RangeHouseModel", "keptMany", "[I", true)
  | 35 => ("RangeHouseModel", "keptCount", "[I", true)
  | 36 => ("RangeHouseModel", "keptSign", "[I", true)
  | 37 => ("RangeHouseModel", "keptValue", "[J", true)
  | 38 => ("RangeHouseModel", "gHost", "[I", true)
  | 39 => ("RangeHouseModel", "gRange", "[I", true)
  | 40 => ("RangeHouseModel", "gLow", "[I", true)
  | 41 => ("RangeHouseModel", "gHigh", "[I", true)
  | 42 => ("RangeHouseModel", "gEpoch", "[I", true)
  | 43 => ("RangeHouseModel", "gHome", "[I", true)
  | 44 => ("RangeHouseModel", "gave", "I", false)
  | 45 => ("RangeHouseModel", "callers", "I", false)
  | 46 => ("RangeHouseModel", "callMany", "[I", true)
  | 47 => ("RangeHouseModel", "cKind", "[I", true)
  | 48 => ("RangeHouseModel", "cKey", "[I", true)
  | 49 => ("RangeHouseModel", "cSign", "[I", true)
  | 50 => ("RangeHouseModel", "cSent", "[I", true)
  | 51 => ("RangeHouseModel", "cV", "[J", true)
  | 52 => ("RangeHouseModel", "cW", "[J", true)
  | 53 => ("RangeHouseModel", "cValue", "[J", true)
  | 54 => ("RangeHouseModel", "cAnswered", "[Z", true)
  | 55 => ("RangeHouseModel", "copyRange", "[I", true)
  | 56 => ("RangeHouseModel", "copyEpoch", "[I", true)
  | 57 => ("RangeHouseModel", "copyHome", "[I", true)
  | 58 => ("RangeHouseModel", "copyLow", "[I", true)
  | 59 => ("RangeHouseModel", "copyHigh", "[I", true)
  | 60 => ("RangeHouseModel", "lKind", "[I", true)
  | 61 => ("RangeHouseModel", "lTo", "[I", true)
  | 62 => ("RangeHouseModel", "lFrom", "[I", true)
  | 63 => ("RangeHouseModel", "lRange", "[I", true)
  | 64 => ("RangeHouseModel", "lEpoch", "[I", true)
  | 65 => ("RangeHouseModel", "lTimes", "[I", true)
  | 66 => ("RangeHouseModel", "lCount", "[I", true)
  | 67 => ("RangeHouseModel", "lAttempt", "[I", true)
  | 68 => ("RangeHouseModel", "lM", "[I", true)
  | 69 => ("RangeHouseModel", "lMany", "[I", true)
  | 70 => ("RangeHouseModel", "lLow", "[I", true)
  | 71 => ("RangeHouseModel", "lHigh", "[I", true)
  | 72 => ("RangeHouseModel", "lHome", "[I", true)
  | 73 => ("RangeHouseModel", "lSign", "[I", true)
  | 74 => ("RangeHouseModel", "lKey", "[I", true)
  | 75 => ("RangeHouseModel", "isLost", "[Z", true)
  | 76 => ("RangeHouseModel", "lHas", "[Z", true)
  | 77 => ("RangeHouseModel", "lValue", "[J", true)
  | 78 => ("RangeHouseModel", "lKeptMany", "[I", true)
  | 79 => ("RangeHouseModel", "lKeptCount", "[I", true)
  | 80 => ("RangeHouseModel", "lKeptSign", "[I", true)
  | 81 => ("RangeHouseModel", "lKeptValue", "[J", true)
  | 82 => ("RangeHouseModel", "letters", "I", false)
  | 83 => ("RangeHouseModel", "doneCaller", "[I", true)
  | 84 => ("RangeHouseModel", "doneCount", "[I", true)
  | 85 => ("RangeHouseModel", "doneHost", "[I", true)
  | 86 => ("RangeHouseModel", "doneRange", "[I", true)
  | 87 => ("RangeHouseModel", "doneEpoch", "[I", true)
  | 88 => ("RangeHouseModel", "done", "I", false)
  | 89 => ("RangeHouseModel", "doneValue", "J", false)
  | _ => ("RangeHouseModel", "doneSign", "I", false)
def tyX12 : Nat → FieldType := fun k => match k with
  | 0 => .array .boolean
  | 1 => .array .int
  | 2 => .array .boolean
  | 3 => .array .int
  | 4 => .array .int
  | 5 => .array .int
  | 6 => .array .int
  | 7 => .array .int
  | 8 => .array .int
  | 9 => .array .int
  | 10 => .array .int
  | 11 => .array .int
  | 12 => .int
  | 13 => .int
  | 14 => .int
  | 15 => .array .int
  | 16 => .array .int
  | 17 => .array .int
  | 18 => .array .int
  | 19 => .array .int
  | 20 => .array .int
  | 21 => .array .int
  | 22 => .array .int
  | 23 => .array .int
  | 24 => .array .int
  | 25 => .array .int
  | 26 => .array .int
  | 27 => .array .long
  | 28 => .array .int
  | 29 => .array .int
  | 30 => .array .int
  | 31 => .array .int
  | 32 => .array .boolean
  | 33 => .array .boolean
  | 34 => .array .int
  | 35 => .array .int
  | 36 => .array .int
  | 37 => .array .long
  | 38 => .array .int
  | 39 => .array .int
  | 40 => .array .int
  | 41 => .array .int
  | 42 => .array .int
  | 43 => .array .int
  | 44 => .int
  | 45 => .int
  | 46 => .array .int
  | 47 => .array .int
  | 48 => .array .int
  | 49 => .array .int
  | 50 => .array .int
  | 51 => .array .long
  | 52 => .array .long
  | 53 => .array .long
  | 54 => .array .boolean
  | 55 => .array .int
  | 56 => .array .int
  | 57 => .array .int
  | 58 => .array .int
  | 59 => .array .int
  | 60 => .array .int
  | 61 => .array .int
  | 62 => .array .int
  | 63 => .array .int
  | 64 => .array .int
  | 65 => .array .int
  | 66 => .array .int
  | 67 => .array .int
  | 68 => .array .int
  | 69 => .array .int
  | 70 => .array .int
  | 71 => .array .int
  | 72 => .array .int
  | 73 => .array .int
  | 74 => .array .int
  | 75 => .array .boolean
  | 76 => .array .boolean
  | 77 => .array .long
  | 78 => .array .int
  | 79 => .array .int
  | 80 => .array .int
  | 81 => .array .long
  | 82 => .int
  | 83 => .array .int
  | 84 => .array .int
  | 85 => .array .int
  | 86 => .array .int
  | 87 => .array .int
  | 88 => .int
  | 89 => .long
  | _ => .int
abbrev wsX120 : List Cond := u_ws RX12 TX12 91
theorem nmX12 : ∀ a, a < 91 → ∀ b, b < 91 → a ≠ b → (TX12 a).2.1 ≠ (TX12 b).2.1 := by decide +kernel
theorem tyX12_ok : ∀ k, k < 91 → parseFieldDescriptor (TX12 k).2.2.1 = some (tyX12 k) := by decide +kernel
def RX13 : String := "java/util/ArrayList"
def TX13 : u_T := fun k => match k with
  | 0 => ("java/util/AbstractList", "modCount", "I", false)
  | 1 => ("java/util/ArrayList", "elementData", "[Ljava/lang/Object;", false)
  | _ => ("java/util/ArrayList", "size", "I", false)
def tyX13 : Nat → FieldType := fun k => match k with
  | 0 => .int
  | 1 => .array (.object "java/lang/Object")
  | _ => .int
abbrev wsX130 : List Cond := u_ws RX13 TX13 3
theorem nmX13 : ∀ a, a < 3 → ∀ b, b < 3 → a ≠ b → (TX13 a).2.1 ≠ (TX13 b).2.1 := by decide +kernel
theorem tyX13_ok : ∀ k, k < 3 → parseFieldDescriptor (TX13 k).2.2.1 = some (tyX13 k) := by decide +kernel
/-- the classes whose objects the memory holds -/
abbrev xcl : List vw_C := [(RX0, TX0, 9), (RX1, TX1, 3), (RX2, TX2, 14), (RX3, TX3, 4), (RX4, TX4, 4), (RX5, TX5, 2), (RX6, TX6, 16), (RX7, TX7, 6), (RX8, TX8, 7), (RX9, TX9, 3), (RX10, TX10, 5), (RX11, TX11, 9), (RX12, TX12, 91), (RX13, TX13, 3)]
