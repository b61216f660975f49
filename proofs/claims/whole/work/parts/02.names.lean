def RX0 : String := "OneEye$Book"
def TX0 : u_T := fun k => match k with
  | 0 => ("OneEye$Book", "sayers", "[I", true)
  | 1 => ("OneEye$Book", "facts", "[I", true)
  | 2 => ("OneEye$Book", "said", "[I", true)
  | 3 => ("OneEye$Book", "hearers", "[I", true)
  | 4 => ("OneEye$Book", "minutes", "[I", true)
  | 5 => ("OneEye$Book", "lines", "I", false)
  | 6 => ("OneEye$Book", "saidSo", "[I", true)
  | _ => ("OneEye$Book", "saidNot", "[I", true)
def tyX0 : Nat → FieldType := fun k => match k with
  | 0 => .array .int
  | 1 => .array .int
  | 2 => .array .int
  | 3 => .array .int
  | 4 => .array .int
  | 5 => .int
  | 6 => .array .int
  | _ => .array .int
theorem nmX0 : ∀ a, a < 8 → ∀ b, b < 8 → a ≠ b → (TX0 a).2.1 ≠ (TX0 b).2.1 := by decide +kernel
theorem tyX0_ok : ∀ k, k < 8 → parseFieldDescriptor (TX0 k).2.2.1 = some (tyX0 k) := by decide +kernel
def RX1 : String := "OneEye$Deal"
def TX1 : u_T := fun k => match k with
  | 0 => ("OneEye$Deal", "best", "[I", true)
  | 1 => ("OneEye$Deal", "spread", "I", false)
  | 2 => ("OneEye$Deal", "tried", "[I", true)
  | _ => ("OneEye$Deal", "loads", "[I", true)
def tyX1 : Nat → FieldType := fun k => match k with
  | 0 => .array .int
  | 1 => .int
  | 2 => .array .int
  | _ => .array .int
theorem nmX1 : ∀ a, a < 4 → ∀ b, b < 4 → a ≠ b → (TX1 a).2.1 ≠ (TX1 b).2.1 := by decide +kernel
theorem tyX1_ok : ∀ k, k < 4 → parseFieldDescriptor (TX1 k).2.2.1 = some (tyX1 k) := by decide +kernel
def RX2 : String := "OneEye$Feelers"
def TX2 : u_T := fun k => match k with
  | _ => ("OneEye$Feelers", "least", "[I", true)
def tyX2 : Nat → FieldType := fun k => match k with
  | _ => .array .int
theorem nmX2 : ∀ a, a < 1 → ∀ b, b < 1 → a ≠ b → (TX2 a).2.1 ≠ (TX2 b).2.1 := by decide +kernel
theorem tyX2_ok : ∀ k, k < 1 → parseFieldDescriptor (TX2 k).2.2.1 = some (tyX2 k) := by decide +kernel
def RX3 : String := "OneEye$Person"
def TX3 : u_T := fun k => match k with
  | 0 => ("OneEye$Person", "known", "[I", true)
  | 1 => ("OneEye$Person", "witness", "[I", true)
  | 2 => ("OneEye$Person", "seenAt", "[I", true)
  | 3 => ("OneEye$Person", "sayings", "[I", true)
  | 4 => ("OneEye$Person", "lies", "[I", true)
  | 5 => ("OneEye$Person", "minutesHeld", "[I", true)
  | 6 => ("OneEye$Person", "noisesHeard", "I", false)
  | _ => ("OneEye$Person", "trusted", "I", false)
def tyX3 : Nat → FieldType := fun k => match k with
  | 0 => .array .int
  | 1 => .array .int
  | 2 => .array .int
  | 3 => .array .int
  | 4 => .array .int
  | 5 => .array .int
  | 6 => .int
  | _ => .int
theorem nmX3 : ∀ a, a < 8 → ∀ b, b < 8 → a ≠ b → (TX3 a).2.1 ≠ (TX3 b).2.1 := by decide +kernel
theorem tyX3_ok : ∀ k, k < 8 → parseFieldDescriptor (TX3 k).2.2.1 = some (tyX3 k) := by decide +kernel
def RX4 : String := "OneEye$Plan"
def TX4 : u_T := fun k => match k with
  | 0 => ("OneEye$Plan", "kinds", "[I", true)
  | 1 => ("OneEye$Plan", "things", "[I", true)
  | 2 => ("OneEye$Plan", "numbers", "[I", true)
  | 3 => ("OneEye$Plan", "hearers", "[I", true)
  | _ => ("OneEye$Plan", "size", "I", false)
def tyX4 : Nat → FieldType := fun k => match k with
  | 0 => .array .int
  | 1 => .array .int
  | 2 => .array .int
  | 3 => .array .int
  | _ => .int
theorem nmX4 : ∀ a, a < 5 → ∀ b, b < 5 → a ≠ b → (TX4 a).2.1 ≠ (TX4 b).2.1 := by decide +kernel
theorem tyX4_ok : ∀ k, k < 5 → parseFieldDescriptor (TX4 k).2.2.1 = some (tyX4 k) := by decide +kernel
def RX5 : String := "OneEye$Reader"
def TX5 : u_T := fun k => match k with
  | 0 => ("OneEye$Reader", "tape", "[I", true)
  | 1 => ("OneEye$Reader", "length", "I", false)
  | 2 => ("OneEye$Reader", "draft", "LOneEye$Plan;", true)
  | 3 => ("OneEye$Reader", "fault", "I", false)
  | 4 => ("OneEye$Reader", "place", "I", false)
  | 5 => ("OneEye$Reader", "tokens", "[I", true)
  | 6 => ("OneEye$Reader", "places", "[I", true)
  | 7 => ("OneEye$Reader", "values", "[I", true)
  | 8 => ("OneEye$Reader", "count", "I", false)
  | _ => ("OneEye$Reader", "current", "I", false)
def tyX5 : Nat → FieldType := fun k => match k with
  | 0 => .array .int
  | 1 => .int
  | 2 => .object "OneEye$Plan"
  | 3 => .int
  | 4 => .int
  | 5 => .array .int
  | 6 => .array .int
  | 7 => .array .int
  | 8 => .int
  | _ => .int
theorem nmX5 : ∀ a, a < 10 → ∀ b, b < 10 → a ≠ b → (TX5 a).2.1 ≠ (TX5 b).2.1 := by decide +kernel
theorem tyX5_ok : ∀ k, k < 10 → parseFieldDescriptor (TX5 k).2.2.1 = some (tyX5 k) := by decide +kernel
def RX6 : String := "OneEye$Tables"
def TX6 : u_T := fun k => match k with
  | 0 => ("OneEye$Tables", "dangers", "[I", true)
  | 1 => ("OneEye$Tables", "weights", "[I", true)
  | 2 => ("OneEye$Tables", "times", "[I", true)
  | 3 => ("OneEye$Tables", "watches", "[I", true)
  | 4 => ("OneEye$Tables", "watchCount", "I", false)
  | _ => ("OneEye$Tables", "lent", "[I", true)
def tyX6 : Nat → FieldType := fun k => match k with
  | 0 => .array .int
  | 1 => .array .int
  | 2 => .array .int
  | 3 => .array .int
  | 4 => .int
  | _ => .array .int
theorem nmX6 : ∀ a, a < 6 → ∀ b, b < 6 → a ≠ b → (TX6 a).2.1 ≠ (TX6 b).2.1 := by decide +kernel
theorem tyX6_ok : ∀ k, k < 6 → parseFieldDescriptor (TX6 k).2.2.1 = some (tyX6 k) := by decide +kernel
def RX7 : String := "OneEye$Talk"
def TX7 : u_T := fun k => match k with
  | 0 => ("OneEye$Talk", "reached", "[J", true)
  | 1 => ("OneEye$Talk", "edge", "[J", true)
  | _ => ("OneEye$Talk", "ahead", "[J", true)
def tyX7 : Nat → FieldType := fun k => match k with
  | 0 => .array .long
  | 1 => .array .long
  | _ => .array .long
theorem nmX7 : ∀ a, a < 3 → ∀ b, b < 3 → a ≠ b → (TX7 a).2.1 ≠ (TX7 b).2.1 := by decide +kernel
theorem tyX7_ok : ∀ k, k < 3 → parseFieldDescriptor (TX7 k).2.2.1 = some (tyX7 k) := by decide +kernel
def RX8 : String := "OneEye$Three"
def TX8 : u_T := fun k => match k with
  | 0 => ("OneEye$Three", "hand", "I", false)
  | 1 => ("OneEye$Three", "drop", "I", false)
  | 2 => ("OneEye$Three", "handed", "I", false)
  | 3 => ("OneEye$Three", "dropped", "I", false)
  | 4 => ("OneEye$Three", "missed", "I", false)
  | 5 => ("OneEye$Three", "places", "[I", true)
  | 6 => ("OneEye$Three", "plan", "LOneEye$Plan;", true)
  | 7 => ("OneEye$Three", "next", "I", false)
  | 8 => ("OneEye$Three", "left", "I", false)
  | 9 => ("OneEye$Three", "doing", "I", false)
  | 10 => ("OneEye$Three", "thing", "I", false)
  | _ => ("OneEye$Three", "target", "I", false)
def tyX8 : Nat → FieldType := fun k => match k with
  | 0 => .int
  | 1 => .int
  | 2 => .int
  | 3 => .int
  | 4 => .int
  | 5 => .array .int
  | 6 => .object "OneEye$Plan"
  | 7 => .int
  | 8 => .int
  | 9 => .int
  | 10 => .int
  | _ => .int
theorem nmX8 : ∀ a, a < 12 → ∀ b, b < 12 → a ≠ b → (TX8 a).2.1 ≠ (TX8 b).2.1 := by decide +kernel
theorem tyX8_ok : ∀ k, k < 12 → parseFieldDescriptor (TX8 k).2.2.1 = some (tyX8 k) := by decide +kernel
def RX9 : String := "OneEye$Way"
def TX9 : u_T := fun k => match k with
  | 0 => ("OneEye$Way", "holders", "[I", true)
  | 1 => ("OneEye$Way", "cost", "I", false)
  | _ => ("OneEye$Way", "toCome", "[I", true)
def tyX9 : Nat → FieldType := fun k => match k with
  | 0 => .array .int
  | 1 => .int
  | _ => .array .int
theorem nmX9 : ∀ a, a < 3 → ∀ b, b < 3 → a ≠ b → (TX9 a).2.1 ≠ (TX9 b).2.1 := by decide +kernel
theorem tyX9_ok : ∀ k, k < 3 → parseFieldDescriptor (TX9 k).2.2.1 = some (tyX9 k) := by decide +kernel
def RX10 : String := "OneEye$World"
def TX10 : u_T := fun k => match k with
  | 0 => ("OneEye$World", "threes", "[LOneEye$Three;", true)
  | 1 => ("OneEye$World", "people", "[LOneEye$Person;", true)
  | 2 => ("OneEye$World", "count", "I", false)
  | 3 => ("OneEye$World", "facts", "[I", true)
  | 4 => ("OneEye$World", "book", "LOneEye$Book;", true)
  | 5 => ("OneEye$World", "tables", "LOneEye$Tables;", true)
  | 6 => ("OneEye$World", "noises", "[I", true)
  | 7 => ("OneEye$World", "noiseCount", "I", false)
  | 8 => ("OneEye$World", "state", "I", false)
  | 9 => ("OneEye$World", "minute", "I", false)
  | _ => ("OneEye$World", "sunset", "I", false)
def tyX10 : Nat → FieldType := fun k => match k with
  | 0 => .array (.object "OneEye$Three")
  | 1 => .array (.object "OneEye$Person")
  | 2 => .int
  | 3 => .array .int
  | 4 => .object "OneEye$Book"
  | 5 => .object "OneEye$Tables"
  | 6 => .array .int
  | 7 => .int
  | 8 => .int
  | 9 => .int
  | _ => .int
theorem nmX10 : ∀ a, a < 11 → ∀ b, b < 11 → a ≠ b → (TX10 a).2.1 ≠ (TX10 b).2.1 := by decide +kernel
theorem tyX10_ok : ∀ k, k < 11 → parseFieldDescriptor (TX10 k).2.2.1 = some (tyX10 k) := by decide +kernel
def RX11 : String := "OneEye"
def TX11 : u_T := fun k => match k with
  | 0 => ("OneEye", "now", "LOneEye$World;", true)
  | 1 => ("OneEye", "kept", "LOneEye$World;", false)
  | 2 => ("OneEye", "reader", "LOneEye$Reader;", true)
  | 3 => ("OneEye", "talk", "LOneEye$Talk;", true)
  | 4 => ("OneEye", "way", "LOneEye$Way;", true)
  | 5 => ("OneEye", "feelers", "LOneEye$Feelers;", true)
  | _ => ("OneEye", "deal", "LOneEye$Deal;", true)
def tyX11 : Nat → FieldType := fun k => match k with
  | 0 => .object "OneEye$World"
  | 1 => .object "OneEye$World"
  | 2 => .object "OneEye$Reader"
  | 3 => .object "OneEye$Talk"
  | 4 => .object "OneEye$Way"
  | 5 => .object "OneEye$Feelers"
  | _ => .object "OneEye$Deal"
theorem nmX11 : ∀ a, a < 7 → ∀ b, b < 7 → a ≠ b → (TX11 a).2.1 ≠ (TX11 b).2.1 := by decide +kernel
theorem tyX11_ok : ∀ k, k < 7 → parseFieldDescriptor (TX11 k).2.2.1 = some (tyX11 k) := by decide +kernel
def RX12 : String := "OneEyeModel"
def TX12 : u_T := fun k => match k with
  | 0 => ("OneEyeModel", "told", "I", false)
  | 1 => ("OneEyeModel", "state", "I", false)
  | 2 => ("OneEyeModel", "threes", "I", false)
  | 3 => ("OneEyeModel", "handOf", "[I", true)
  | 4 => ("OneEyeModel", "dropOf", "[I", true)
  | 5 => ("OneEyeModel", "handed", "[I", true)
  | 6 => ("OneEyeModel", "dropped", "[I", true)
  | 7 => ("OneEyeModel", "whereIs", "[I", true)
  | 8 => ("OneEyeModel", "isSo", "[I", true)
  | 9 => ("OneEyeModel", "known", "[I", true)
  | 10 => ("OneEyeModel", "trusts", "[I", true)
  | 11 => ("OneEyeModel", "heldOf", "[I", true)
  | 12 => ("OneEyeModel", "sawIt", "[I", true)
  | 13 => ("OneEyeModel", "sawAt", "[I", true)
  | 14 => ("OneEyeModel", "sayings", "[I", true)
  | 15 => ("OneEyeModel", "liesIn", "[I", true)
  | 16 => ("OneEyeModel", "minute", "I", false)
  | 17 => ("OneEyeModel", "sunset", "I", false)
  | 18 => ("OneEyeModel", "noises", "I", false)
  | 19 => ("OneEyeModel", "noiseAt", "[I", true)
  | 20 => ("OneEyeModel", "heardOf", "[I", true)
  | 21 => ("OneEyeModel", "missed", "[I", true)
  | 22 => ("OneEyeModel", "lines", "I", false)
  | 23 => ("OneEyeModel", "lineWho", "[I", true)
  | 24 => ("OneEyeModel", "lineFact", "[I", true)
  | 25 => ("OneEyeModel", "lineSo", "[I", true)
  | 26 => ("OneEyeModel", "lineHeard", "[I", true)
  | 27 => ("OneEyeModel", "lineMinute", "[I", true)
  | 28 => ("OneEyeModel", "doing", "[I", true)
  | 29 => ("OneEyeModel", "left", "[I", true)
  | 30 => ("OneEyeModel", "doingWhat", "[I", true)
  | 31 => ("OneEyeModel", "doingTo", "[I", true)
  | 32 => ("OneEyeModel", "words", "[C", true)
  | 33 => ("OneEyeModel", "tape", "[I", true)
  | 34 => ("OneEyeModel", "taped", "I", false)
  | 35 => ("OneEyeModel", "spot", "I", false)
  | 36 => ("OneEyeModel", "from", "I", false)
  | 37 => ("OneEyeModel", "token", "I", false)
  | 38 => ("OneEyeModel", "value", "I", false)
  | 39 => ("OneEyeModel", "readFault", "I", false)
  | 40 => ("OneEyeModel", "readPlace", "I", false)
  | 41 => ("OneEyeModel", "faultKind", "I", false)
  | 42 => ("OneEyeModel", "faultPlace", "I", false)
  | 43 => ("OneEyeModel", "plans", "[I", true)
  | 44 => ("OneEyeModel", "stepMany", "[I", true)
  | 45 => ("OneEyeModel", "stepNext", "[I", true)
  | 46 => ("OneEyeModel", "far", "[I", true)
  | 47 => ("OneEyeModel", "isChanged", "Z", false)
  | 48 => ("OneEyeModel", "heap", "[I", true)
  | 49 => ("OneEyeModel", "heaped", "I", false)
  | 50 => ("OneEyeModel", "dangers", "[I", true)
  | 51 => ("OneEyeModel", "onward", "[I", true)
  | 52 => ("OneEyeModel", "weightOf", "[I", true)
  | 53 => ("OneEyeModel", "timeOf", "[I", true)
  | 54 => ("OneEyeModel", "inLine", "[I", true)
  | 55 => ("OneEyeModel", "watchMany", "I", false)
  | 56 => ("OneEyeModel", "watchOf", "[I", true)
  | 57 => ("OneEyeModel", "sums", "[I", true)
  | 58 => ("OneEyeModel", "lending", "[I", true)
  | 59 => ("OneEyeModel", "rowTo", "[I", true)
  | 60 => ("OneEyeModel", "isTaking", "Z", false)
  | 61 => ("OneEyeModel", "hasImage", "Z", false)
  | 62 => ("OneEyeModel", "keptAt", "I", false)
  | _ => ("OneEyeModel", "images", "[I", true)
def tyX12 : Nat → FieldType := fun k => match k with
  | 0 => .int
  | 1 => .int
  | 2 => .int
  | 3 => .array .int
  | 4 => .array .int
  | 5 => .array .int
  | 6 => .array .int
  | 7 => .array .int
  | 8 => .array .int
  | 9 => .array .int
  | 10 => .array .int
  | 11 => .array .int
  | 12 => .array .int
  | 13 => .array .int
  | 14 => .array .int
  | 15 => .array .int
  | 16 => .int
  | 17 => .int
  | 18 => .int
  | 19 => .array .int
  | 20 => .array .int
  | 21 => .array .int
  | 22 => .int
  | 23 => .array .int
  | 24 => .array .int
  | 25 => .array .int
  | 26 => .array .int
  | 27 => .array .int
  | 28 => .array .int
  | 29 => .array .int
  | 30 => .array .int
  | 31 => .array .int
  | 32 => .array .char
  | 33 => .array .int
  | 34 => .int
  | 35 => .int
  | 36 => .int
  | 37 => .int
  | 38 => .int
  | 39 => .int
  | 40 => .int
  | 41 => .int
  | 42 => .int
  | 43 => .array .int
  | 44 => .array .int
  | 45 => .array .int
  | 46 => .array .int
  | 47 => .boolean
  | 48 => .array .int
  | 49 => .int
  | 50 => .array .int
  | 51 => .array .int
  | 52 => .array .int
  | 53 => .array .int
  | 54 => .array .int
  | 55 => .int
  | 56 => .array .int
  | 57 => .array .int
  | 58 => .array .int
  | 59 => .array .int
  | 60 => .boolean
  | 61 => .boolean
  | 62 => .int
  | _ => .array .int
theorem nmX12 : ∀ a, a < 64 → ∀ b, b < 64 → a ≠ b → (TX12 a).2.1 ≠ (TX12 b).2.1 := by decide +kernel
theorem tyX12_ok : ∀ k, k < 64 → parseFieldDescriptor (TX12 k).2.2.1 = some (tyX12 k) := by decide +kernel
abbrev vwCl : List vw_C := [(RX0, TX0, 8), (RX1, TX1, 4), (RX2, TX2, 1), (RX3, TX3, 8), (RX4, TX4, 5), (RX5, TX5, 10), (RX6, TX6, 6), (RX7, TX7, 3), (RX8, TX8, 12), (RX9, TX9, 3), (RX10, TX10, 11), (RX11, TX11, 7), (RX12, TX12, 64)]
