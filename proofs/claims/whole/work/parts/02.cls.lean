/-! classes, their fields; the words that all contracts take as given -/
def RX0 : String := "WalkFence$Foresight"
def TX0 : u_T := fun k => match k with
  | 0 => ("WalkFence$Foresight", "now", "LWalkFence$Lay;", true)
  | 1 => ("WalkFence$Foresight", "walker", "LWalkFence$Walker;", true)
  | 2 => ("WalkFence$Foresight", "lay", "LWalkFence$Lay;", true)
  | 3 => ("WalkFence$Foresight", "uncut", "LWalkFence$Lay;", true)
  | 4 => ("WalkFence$Foresight", "cut", "LWalkFence$Lay;", true)
  | 5 => ("WalkFence$Foresight", "trodden", "[I", true)
  | 6 => ("WalkFence$Foresight", "fits", "[I", true)
  | 7 => ("WalkFence$Foresight", "ironFence", "I", false)
  | 8 => ("WalkFence$Foresight", "ironYears", "I", false)
  | 9 => ("WalkFence$Foresight", "ironColumn", "I", false)
  | 10 => ("WalkFence$Foresight", "ironRow", "I", false)
  | 11 => ("WalkFence$Foresight", "ironField", "I", false)
  | 12 => ("WalkFence$Foresight", "fitting", "I", false)
  | 13 => ("WalkFence$Foresight", "firstFit", "I", false)
  | 14 => ("WalkFence$Foresight", "lastFit", "I", false)
  | 15 => ("WalkFence$Foresight", "tellingColumn", "I", false)
  | 16 => ("WalkFence$Foresight", "tellingRow", "I", false)
  | _ => ("WalkFence$Foresight", "mostLeft", "I", false)
def tyX0 : Nat → FieldType := fun k => match k with
  | 0 => .object "WalkFence$Lay"
  | 1 => .object "WalkFence$Walker"
  | 2 => .object "WalkFence$Lay"
  | 3 => .object "WalkFence$Lay"
  | 4 => .object "WalkFence$Lay"
  | 5 => .array .int
  | 6 => .array .int
  | 7 => .int
  | 8 => .int
  | 9 => .int
  | 10 => .int
  | 11 => .int
  | 12 => .int
  | 13 => .int
  | 14 => .int
  | 15 => .int
  | 16 => .int
  | _ => .int
abbrev wsX00 : List Cond := u_ws RX0 TX0 18
theorem nmX0 : ∀ a, a < 18 → ∀ b, b < 18 → a ≠ b → (TX0 a).2.1 ≠ (TX0 b).2.1 := by decide +kernel
theorem tyX0_ok : ∀ k, k < 18 → parseFieldDescriptor (TX0 k).2.2.1 = some (tyX0 k) := by decide +kernel
def RX1 : String := "WalkFence$History"
def TX1 : u_T := fun k => match k with
  | 0 => ("WalkFence$History", "lays", "[LWalkFence$Lay;", true)
  | 1 => ("WalkFence$History", "logs", "[LWalkFence$Log;", true)
  | 2 => ("WalkFence$History", "next", "I", false)
  | _ => ("WalkFence$History", "count", "I", false)
def tyX1 : Nat → FieldType := fun k => match k with
  | 0 => .array (.object "WalkFence$Lay")
  | 1 => .array (.object "WalkFence$Log")
  | 2 => .int
  | _ => .int
abbrev wsX10 : List Cond := u_ws RX1 TX1 4
theorem nmX1 : ∀ a, a < 4 → ∀ b, b < 4 → a ≠ b → (TX1 a).2.1 ≠ (TX1 b).2.1 := by decide +kernel
theorem tyX1_ok : ∀ k, k < 4 → parseFieldDescriptor (TX1 k).2.2.1 = some (tyX1 k) := by decide +kernel
def RX2 : String := "WalkFence$Image"
def TX2 : u_T := fun k => match k with
  | 0 => ("WalkFence$Image", "bytes", "[B", true)
  | _ => ("WalkFence$Image", "length", "I", false)
def tyX2 : Nat → FieldType := fun k => match k with
  | 0 => .array .byte
  | _ => .int
abbrev wsX20 : List Cond := u_ws RX2 TX2 2
theorem nmX2 : ∀ a, a < 2 → ∀ b, b < 2 → a ≠ b → (TX2 a).2.1 ≠ (TX2 b).2.1 := by decide +kernel
theorem tyX2_ok : ∀ k, k < 2 → parseFieldDescriptor (TX2 k).2.2.1 = some (tyX2 k) := by decide +kernel
def RX3 : String := "WalkFence$Lay"
def TX3 : u_T := fun k => match k with
  | 0 => ("WalkFence$Lay", "year", "I", false)
  | 1 => ("WalkFence$Lay", "cuts", "I", false)
  | 2 => ("WalkFence$Lay", "ages", "[I", true)
  | 3 => ("WalkFence$Lay", "posts", "[I", true)
  | _ => ("WalkFence$Lay", "stakes", "[I", true)
def tyX3 : Nat → FieldType := fun k => match k with
  | 0 => .int
  | 1 => .int
  | 2 => .array .int
  | 3 => .array .int
  | _ => .array .int
abbrev wsX30 : List Cond := u_ws RX3 TX3 5
theorem nmX3 : ∀ a, a < 5 → ∀ b, b < 5 → a ≠ b → (TX3 a).2.1 ≠ (TX3 b).2.1 := by decide +kernel
theorem tyX3_ok : ∀ k, k < 5 → parseFieldDescriptor (TX3 k).2.2.1 = some (tyX3 k) := by decide +kernel
def RX4 : String := "WalkFence$Log"
def TX4 : u_T := fun k => match k with
  | 0 => ("WalkFence$Log", "notes", "[I", true)
  | 1 => ("WalkFence$Log", "oldest", "I", false)
  | _ => ("WalkFence$Log", "count", "I", false)
def tyX4 : Nat → FieldType := fun k => match k with
  | 0 => .array .int
  | 1 => .int
  | _ => .int
abbrev wsX40 : List Cond := u_ws RX4 TX4 3
theorem nmX4 : ∀ a, a < 3 → ∀ b, b < 3 → a ≠ b → (TX4 a).2.1 ≠ (TX4 b).2.1 := by decide +kernel
theorem tyX4_ok : ∀ k, k < 3 → parseFieldDescriptor (TX4 k).2.2.1 = some (tyX4 k) := by decide +kernel
def RX5 : String := "WalkFence$Reader"
def TX5 : u_T := fun k => match k with
  | 0 => ("WalkFence$Reader", "tape", "LWalkFence$Tape;", true)
  | 1 => ("WalkFence$Reader", "fault", "I", false)
  | 2 => ("WalkFence$Reader", "faultAt", "I", false)
  | 3 => ("WalkFence$Reader", "question", "I", false)
  | 4 => ("WalkFence$Reader", "told", "LWalkFence$Slope;", false)
  | 5 => ("WalkFence$Reader", "size", "I", false)
  | 6 => ("WalkFence$Reader", "kind", "I", false)
  | 7 => ("WalkFence$Reader", "start", "I", false)
  | 8 => ("WalkFence$Reader", "end", "I", false)
  | 9 => ("WalkFence$Reader", "word", "I", false)
  | 10 => ("WalkFence$Reader", "value", "I", false)
  | 11 => ("WalkFence$Reader", "parts", "I", false)
  | _ => ("WalkFence$Reader", "askers", "I", false)
def tyX5 : Nat → FieldType := fun k => match k with
  | 0 => .object "WalkFence$Tape"
  | 1 => .int
  | 2 => .int
  | 3 => .int
  | 4 => .object "WalkFence$Slope"
  | 5 => .int
  | 6 => .int
  | 7 => .int
  | 8 => .int
  | 9 => .int
  | 10 => .int
  | 11 => .int
  | _ => .int
abbrev wsX50 : List Cond := u_ws RX5 TX5 13
theorem nmX5 : ∀ a, a < 13 → ∀ b, b < 13 → a ≠ b → (TX5 a).2.1 ≠ (TX5 b).2.1 := by decide +kernel
theorem tyX5_ok : ∀ k, k < 13 → parseFieldDescriptor (TX5 k).2.2.1 = some (tyX5 k) := by decide +kernel
def RX6 : String := "WalkFence$Reckoner"
def TX6 : u_T := fun k => match k with
  | 0 => ("WalkFence$Reckoner", "waiting", "[I", true)
  | 1 => ("WalkFence$Reckoner", "parts", "[I", true)
  | 2 => ("WalkFence$Reckoner", "rowIn", "[I", true)
  | _ => ("WalkFence$Reckoner", "belowThat", "[I", true)
def tyX6 : Nat → FieldType := fun k => match k with
  | 0 => .array .int
  | 1 => .array .int
  | 2 => .array .int
  | _ => .array .int
abbrev wsX60 : List Cond := u_ws RX6 TX6 4
theorem nmX6 : ∀ a, a < 4 → ∀ b, b < 4 → a ≠ b → (TX6 a).2.1 ≠ (TX6 b).2.1 := by decide +kernel
theorem tyX6_ok : ∀ k, k < 4 → parseFieldDescriptor (TX6 k).2.2.1 = some (tyX6 k) := by decide +kernel
def RX7 : String := "WalkFence$Seen"
def TX7 : u_T := fun k => match k with
  | 0 => ("WalkFence$Seen", "columns", "[I", true)
  | 1 => ("WalkFence$Seen", "rows", "[I", true)
  | 2 => ("WalkFence$Seen", "owners", "[I", true)
  | _ => ("WalkFence$Seen", "count", "I", false)
def tyX7 : Nat → FieldType := fun k => match k with
  | 0 => .array .int
  | 1 => .array .int
  | 2 => .array .int
  | _ => .int
abbrev wsX70 : List Cond := u_ws RX7 TX7 4
theorem nmX7 : ∀ a, a < 4 → ∀ b, b < 4 → a ≠ b → (TX7 a).2.1 ≠ (TX7 b).2.1 := by decide +kernel
theorem tyX7_ok : ∀ k, k < 4 → parseFieldDescriptor (TX7 k).2.2.1 = some (tyX7 k) := by decide +kernel
def RX8 : String := "WalkFence$Slope"
def TX8 : u_T := fun k => match k with
  | 0 => ("WalkFence$Slope", "statements", "I", false)
  | 1 => ("WalkFence$Slope", "columns", "I", false)
  | 2 => ("WalkFence$Slope", "rows", "I", false)
  | 3 => ("WalkFence$Slope", "fences", "I", false)
  | 4 => ("WalkFence$Slope", "tide", "I", false)
  | 5 => ("WalkFence$Slope", "steep", "[I", true)
  | 6 => ("WalkFence$Slope", "names", "[I", true)
  | 7 => ("WalkFence$Slope", "start", "LWalkFence$Lay;", true)
  | 8 => ("WalkFence$Slope", "steps", "[I", true)
  | 9 => ("WalkFence$Slope", "walksFrom", "I", false)
  | 10 => ("WalkFence$Slope", "walksTo", "I", false)
  | 11 => ("WalkFence$Slope", "rootsFrom", "I", false)
  | _ => ("WalkFence$Slope", "rootsTo", "I", false)
def tyX8 : Nat → FieldType := fun k => match k with
  | 0 => .int
  | 1 => .int
  | 2 => .int
  | 3 => .int
  | 4 => .int
  | 5 => .array .int
  | 6 => .array .int
  | 7 => .object "WalkFence$Lay"
  | 8 => .array .int
  | 9 => .int
  | 10 => .int
  | 11 => .int
  | _ => .int
abbrev wsX80 : List Cond := u_ws RX8 TX8 13
theorem nmX8 : ∀ a, a < 13 → ∀ b, b < 13 → a ≠ b → (TX8 a).2.1 ≠ (TX8 b).2.1 := by decide +kernel
theorem tyX8_ok : ∀ k, k < 13 → parseFieldDescriptor (TX8 k).2.2.1 = some (tyX8 k) := by decide +kernel
def RX9 : String := "WalkFence$Tape"
def TX9 : u_T := fun k => match k with
  | 0 => ("WalkFence$Tape", "bytes", "[B", true)
  | _ => ("WalkFence$Tape", "length", "I", false)
def tyX9 : Nat → FieldType := fun k => match k with
  | 0 => .array .byte
  | _ => .int
abbrev wsX90 : List Cond := u_ws RX9 TX9 2
theorem nmX9 : ∀ a, a < 2 → ∀ b, b < 2 → a ≠ b → (TX9 a).2.1 ≠ (TX9 b).2.1 := by decide +kernel
theorem tyX9_ok : ∀ k, k < 2 → parseFieldDescriptor (TX9 k).2.2.1 = some (tyX9 k) := by decide +kernel
def RX10 : String := "WalkFence$Walker"
def TX10 : u_T := fun k => match k with
  | 0 => ("WalkFence$Walker", "reckoner", "LWalkFence$Reckoner;", true)
  | _ => ("WalkFence$Walker", "slope", "LWalkFence$Slope;", false)
def tyX10 : Nat → FieldType := fun k => match k with
  | 0 => .object "WalkFence$Reckoner"
  | _ => .object "WalkFence$Slope"
abbrev wsX100 : List Cond := u_ws RX10 TX10 2
theorem nmX10 : ∀ a, a < 2 → ∀ b, b < 2 → a ≠ b → (TX10 a).2.1 ≠ (TX10 b).2.1 := by decide +kernel
theorem tyX10_ok : ∀ k, k < 2 → parseFieldDescriptor (TX10 k).2.2.1 = some (tyX10 k) := by decide +kernel
def RX11 : String := "WalkFence"
def TX11 : u_T := fun k => match k with
  | 0 => ("WalkFence", "tape", "LWalkFence$Tape;", true)
  | 1 => ("WalkFence", "slope", "LWalkFence$Slope;", false)
  | 2 => ("WalkFence", "draft", "LWalkFence$Slope;", false)
  | 3 => ("WalkFence", "reader", "LWalkFence$Reader;", true)
  | 4 => ("WalkFence", "now", "LWalkFence$Lay;", true)
  | 5 => ("WalkFence", "walker", "LWalkFence$Walker;", true)
  | 6 => ("WalkFence", "foresight", "LWalkFence$Foresight;", true)
  | 7 => ("WalkFence", "log", "LWalkFence$Log;", true)
  | 8 => ("WalkFence", "history", "LWalkFence$History;", true)
  | 9 => ("WalkFence", "seen", "LWalkFence$Seen;", true)
  | 10 => ("WalkFence", "latest", "LWalkFence$Image;", true)
  | 11 => ("WalkFence", "refused", "[I", true)
  | _ => ("WalkFence", "draws", "I", false)
def tyX11 : Nat → FieldType := fun k => match k with
  | 0 => .object "WalkFence$Tape"
  | 1 => .object "WalkFence$Slope"
  | 2 => .object "WalkFence$Slope"
  | 3 => .object "WalkFence$Reader"
  | 4 => .object "WalkFence$Lay"
  | 5 => .object "WalkFence$Walker"
  | 6 => .object "WalkFence$Foresight"
  | 7 => .object "WalkFence$Log"
  | 8 => .object "WalkFence$History"
  | 9 => .object "WalkFence$Seen"
  | 10 => .object "WalkFence$Image"
  | 11 => .array .int
  | _ => .int
abbrev wsX110 : List Cond := u_ws RX11 TX11 13
theorem nmX11 : ∀ a, a < 13 → ∀ b, b < 13 → a ≠ b → (TX11 a).2.1 ≠ (TX11 b).2.1 := by decide +kernel
theorem tyX11_ok : ∀ k, k < 13 → parseFieldDescriptor (TX11 k).2.2.1 = some (tyX11 k) := by decide +kernel
def RX12 : String := "WalkFenceModel"
def TX12 : u_T := fun k => match k with
  | 0 => ("WalkFenceModel", "tape", "[I", true)
  | 1 => ("WalkFenceModel", "taped", "I", false)
  | 2 => ("WalkFenceModel", "at", "I", false)
  | 3 => ("WalkFenceModel", "end", "I", false)
  | 4 => ("WalkFenceModel", "ended", "I", false)
  | 5 => ("WalkFenceModel", "bad", "I", false)
  | 6 => ("WalkFenceModel", "badPlace", "I", false)
  | 7 => ("WalkFenceModel", "fault", "I", false)
  | 8 => ("WalkFenceModel", "faultPlace", "I", false)
  | 9 => ("WalkFenceModel", "refused", "[I", true)
  | 10 => ("WalkFenceModel", "numberPlace", "I", false)
  | 11 => ("WalkFenceModel", "slopeWord", "[C", true)
  | 12 => ("WalkFenceModel", "byWord", "[C", true)
  | 13 => ("WalkFenceModel", "steepWord", "[C", true)
  | 14 => ("WalkFenceModel", "ironWord", "[C", true)
  | 15 => ("WalkFenceModel", "fenceWord", "[C", true)
  | 16 => ("WalkFenceModel", "rowWord", "[C", true)
  | 17 => ("WalkFenceModel", "ageWord", "[C", true)
  | 18 => ("WalkFenceModel", "stakeWord", "[C", true)
  | 19 => ("WalkFenceModel", "walksWord", "[C", true)
  | 20 => ("WalkFenceModel", "rootsWord", "[C", true)
  | 21 => ("WalkFenceModel", "tideWord", "[C", true)
  | 22 => ("WalkFenceModel", "yearWord", "[C", true)
  | 23 => ("WalkFenceModel", "leftWord", "[C", true)
  | 24 => ("WalkFenceModel", "numberWord", "[C", true)
  | 25 => ("WalkFenceModel", "fieldWord", "[C", true)
  | 26 => ("WalkFenceModel", "cutWord", "[C", true)
  | 27 => ("WalkFenceModel", "firstWord", "[C", true)
  | 28 => ("WalkFenceModel", "belowWord", "[C", true)
  | 29 => ("WalkFenceModel", "orWord", "[C", true)
  | 30 => ("WalkFenceModel", "andWord", "[C", true)
  | 31 => ("WalkFenceModel", "notWord", "[C", true)
  | 32 => ("WalkFenceModel", "allWord", "[C", true)
  | 33 => ("WalkFenceModel", "minWord", "[C", true)
  | 34 => ("WalkFenceModel", "maxWord", "[C", true)
  | 35 => ("WalkFenceModel", "namePlace", "I", false)
  | 36 => ("WalkFenceModel", "side", "[I", true)
  | 37 => ("WalkFenceModel", "many", "[I", true)
  | 38 => ("WalkFenceModel", "names", "[J", true)
  | 39 => ("WalkFenceModel", "steeps", "[I", true)
  | 40 => ("WalkFenceModel", "posts", "[I", true)
  | 41 => ("WalkFenceModel", "fences", "[I", true)
  | 42 => ("WalkFenceModel", "tideTold", "I", false)
  | 43 => ("WalkFenceModel", "tide", "I", false)
  | 44 => ("WalkFenceModel", "codeFrom", "[I", true)
  | 45 => ("WalkFenceModel", "codeEnd", "[I", true)
  | 46 => ("WalkFenceModel", "codes", "[I", true)
  | 47 => ("WalkFenceModel", "coded", "I", false)
  | 48 => ("WalkFenceModel", "statements", "I", false)
  | 49 => ("WalkFenceModel", "isSlope", "Z", false)
  | 50 => ("WalkFenceModel", "textKind", "I", false)
  | 51 => ("WalkFenceModel", "now", "[I", true)
  | 52 => ("WalkFenceModel", "aside", "[I", true)
  | 53 => ("WalkFenceModel", "askColumn", "I", false)
  | 54 => ("WalkFenceModel", "askRow", "I", false)
  | 55 => ("WalkFenceModel", "isThought", "Z", false)
  | 56 => ("WalkFenceModel", "goneMany", "I", false)
  | 57 => ("WalkFenceModel", "walk0", "[I", true)
  | 58 => ("WalkFenceModel", "fields", "[I", true)
  | 59 => ("WalkFenceModel", "rowMany", "I", false)
  | 60 => ("WalkFenceModel", "rows", "[I", true)
  | 61 => ("WalkFenceModel", "owners", "[I", true)
  | 62 => ("WalkFenceModel", "isFit", "[Z", true)
  | 63 => ("WalkFenceModel", "fitMany", "I", false)
  | 64 => ("WalkFenceModel", "counts", "[I", true)
  | 65 => ("WalkFenceModel", "kept0", "[I", true)
  | 66 => ("WalkFenceModel", "undoable", "I", false)
  | 67 => ("WalkFenceModel", "newest", "I", false)
  | 68 => ("WalkFenceModel", "seeded", "J", false)
  | 69 => ("WalkFenceModel", "firstAsked", "[C", true)
  | 70 => ("WalkFenceModel", "lastAsked", "[C", true)
  | 71 => ("WalkFenceModel", "oftenAsked", "[C", true)
  | 72 => ("WalkFenceModel", "totalAsked", "[C", true)
  | 73 => ("WalkFenceModel", "mostAsked", "[C", true)
  | 74 => ("WalkFenceModel", "leastAsked", "[C", true)
  | 75 => ("WalkFenceModel", "notAsked", "[C", true)
  | 76 => ("WalkFenceModel", "andAsked", "[C", true)
  | 77 => ("WalkFenceModel", "orAsked", "[C", true)
  | 78 => ("WalkFenceModel", "allAsked", "[C", true)
  | 79 => ("WalkFenceModel", "minAsked", "[C", true)
  | 80 => ("WalkFenceModel", "maxAsked", "[C", true)
  | 81 => ("WalkFenceModel", "ageAsked", "[C", true)
  | 82 => ("WalkFenceModel", "steepAsked", "[C", true)
  | 83 => ("WalkFenceModel", "yearAsked", "[C", true)
  | 84 => ("WalkFenceModel", "rowAsked", "[C", true)
  | 85 => ("WalkFenceModel", "leftAsked", "[C", true)
  | 86 => ("WalkFenceModel", "numberAsked", "[C", true)
  | 87 => ("WalkFenceModel", "fieldAsked", "[C", true)
  | 88 => ("WalkFenceModel", "cutAsked", "[C", true)
  | 89 => ("WalkFenceModel", "rowofAsked", "[C", true)
  | 90 => ("WalkFenceModel", "belowAsked", "[C", true)
  | 91 => ("WalkFenceModel", "qCodes", "[I", true)
  | 92 => ("WalkFenceModel", "qCoded", "I", false)
  | 93 => ("WalkFenceModel", "qWait", "[I", true)
  | 94 => ("WalkFenceModel", "qWaits", "I", false)
  | 95 => ("WalkFenceModel", "qOpened", "I", false)
  | 96 => ("WalkFenceModel", "qBase", "I", false)
  | 97 => ("WalkFenceModel", "qPile", "[J", true)
  | 98 => ("WalkFenceModel", "qPiled", "I", false)
  | 99 => ("WalkFenceModel", "qAnswer", "J", false)
  | 100 => ("WalkFenceModel", "qIsNew", "Z", false)
  | 101 => ("WalkFenceModel", "octet", "[I", true)
  | _ => ("WalkFenceModel", "octets", "I", false)
def tyX12 : Nat → FieldType := fun k => match k with
  | 0 => .array .int
  | 1 => .int
  | 2 => .int
  | 3 => .int
  | 4 => .int
  | 5 => .int
  | 6 => .int
  | 7 => .int
  | 8 => .int
  | 9 => .array .int
  | 10 => .int
  | 11 => .array .char
  | 12 => .array .char
  | 13 => .array .char
  | 14 => .array .char
  | 15 => .array .char
  | 16 => .array .char
  | 17 => .array .char
  | 18 => .array .char
  | 19 => .array .char
  | 20 => .array .char
  | 21 => .array .char
  | 22 => .array .char
  | 23 => .array .char
  | 24 => .array .char
  | 25 => .array .char
  | 26 => .array .char
  | 27 => .array .char
  | 28 => .array .char
  | 29 => .array .char
  | 30 => .array .char
  | 31 => .array .char
  | 32 => .array .char
  | 33 => .array .char
  | 34 => .array .char
  | 35 => .int
  | 36 => .array .int
  | 37 => .array .int
  | 38 => .array .long
  | 39 => .array .int
  | 40 => .array .int
  | 41 => .array .int
  | 42 => .int
  | 43 => .int
  | 44 => .array .int
  | 45 => .array .int
  | 46 => .array .int
  | 47 => .int
  | 48 => .int
  | 49 => .boolean
  | 50 => .int
  | 51 => .array .int
  | 52 => .array .int
  | 53 => .int
  | 54 => .int
  | 55 => .boolean
  | 56 => .int
  | 57 => .array .int
  | 58 => .array .int
  | 59 => .int
  | 60 => .array .int
  | 61 => .array .int
  | 62 => .array .boolean
  | 63 => .int
  | 64 => .array .int
  | 65 => .array .int
  | 66 => .int
  | 67 => .int
  | 68 => .long
  | 69 => .array .char
  | 70 => .array .char
  | 71 => .array .char
  | 72 => .array .char
  | 73 => .array .char
  | 74 => .array .char
  | 75 => .array .char
  | 76 => .array .char
  | 77 => .array .char
  | 78 => .array .char
  | 79 => .array .char
  | 80 => .array .char
  | 81 => .array .char
  | 82 => .array .char
  | 83 => .array .char
  | 84 => .array .char
  | 85 => .array .char
  | 86 => .array .char
  | 87 => .array .char
  | 88 => .array .char
  | 89 => .array .char
  | 90 => .array .char
  | 91 => .array .int
  | 92 => .int
  | 93 => .array .int
  | 94 => .int
  | 95 => .int
  | 96 => .int
  | 97 => .array .long
  | 98 => .int
  | 99 => .long
  | 100 => .boolean
  | 101 => .array .int
  | _ => .int
abbrev wsX120 : List Cond := u_ws RX12 TX12 103
theorem nmX12 : ∀ a, a < 103 → ∀ b, b < 103 → a ≠ b → (TX12 a).2.1 ≠ (TX12 b).2.1 := by decide +kernel
theorem tyX12_ok : ∀ k, k < 103 → parseFieldDescriptor (TX12 k).2.2.1 = some (tyX12 k) := by decide +kernel
abbrev vwCl : List vw_C := [(RX0, TX0, 18), (RX1, TX1, 4), (RX2, TX2, 2), (RX3, TX3, 5), (RX4, TX4, 3), (RX5, TX5, 13), (RX6, TX6, 4), (RX7, TX7, 4), (RX8, TX8, 13), (RX9, TX9, 2), (RX10, TX10, 2), (RX11, TX11, 13), (RX12, TX12, 103)]
def tw : List Cond := lw_tbl.filter goodWord
theorem tw_of {w : Cond} (h : w ∈ tables_1) (g : goodWord w = true) : w ∈ tw := List.mem_filter.mpr ⟨List.mem_append_right _ h, g⟩
theorem tw_good : ∀ w ∈ tw, (w.onTables && w.keeps) = true ∨ ∃ ty, w = .arrayClass ty := fun w h => good_of_word (List.mem_filter.mp h).2
theorem in_tw {ws : List Cond} (h1 : ws.all (fun w => decide (w ∈ tables_1) && goodWord w) = true) : ∀ w ∈ ws, w ∈ tw := by
  intro w h
  have h2 := List.all_eq_true.mp h1 w h
  simp only [Bool.and_eq_true, decide_eq_true_eq] at h2
  exact tw_of h2.1 h2.2
set_option maxRecDepth 100000 in
theorem inX0 : ∀ w ∈ u_ws RX0 TX0 18, w ∈ tw := in_tw (by decide +kernel)
set_option maxRecDepth 100000 in
theorem inX1 : ∀ w ∈ u_ws RX1 TX1 4, w ∈ tw := in_tw (by decide +kernel)
set_option maxRecDepth 100000 in
theorem inX2 : ∀ w ∈ u_ws RX2 TX2 2, w ∈ tw := in_tw (by decide +kernel)
set_option maxRecDepth 100000 in
theorem inX3 : ∀ w ∈ u_ws RX3 TX3 5, w ∈ tw := in_tw (by decide +kernel)
set_option maxRecDepth 100000 in
theorem inX4 : ∀ w ∈ u_ws RX4 TX4 3, w ∈ tw := in_tw (by decide +kernel)
set_option maxRecDepth 100000 in
theorem inX5 : ∀ w ∈ u_ws RX5 TX5 13, w ∈ tw := in_tw (by decide +kernel)
set_option maxRecDepth 100000 in
theorem inX6 : ∀ w ∈ u_ws RX6 TX6 4, w ∈ tw := in_tw (by decide +kernel)
set_option maxRecDepth 100000 in
theorem inX7 : ∀ w ∈ u_ws RX7 TX7 4, w ∈ tw := in_tw (by decide +kernel)
set_option maxRecDepth 100000 in
theorem inX8 : ∀ w ∈ u_ws RX8 TX8 13, w ∈ tw := in_tw (by decide +kernel)
set_option maxRecDepth 100000 in
theorem inX9 : ∀ w ∈ u_ws RX9 TX9 2, w ∈ tw := in_tw (by decide +kernel)
set_option maxRecDepth 100000 in
theorem inX10 : ∀ w ∈ u_ws RX10 TX10 2, w ∈ tw := in_tw (by decide +kernel)
set_option maxRecDepth 100000 in
theorem inX11 : ∀ w ∈ u_ws RX11 TX11 13, w ∈ tw := in_tw (by decide +kernel)
set_option maxRecDepth 100000 in
theorem inX12 : ∀ w ∈ u_ws RX12 TX12 103, w ∈ tw := in_tw (by decide +kernel)
