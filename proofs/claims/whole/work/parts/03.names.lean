def RX0 : String := "GainGraphs$Graph"
def TX0 : u_T := fun k => match k with
  | 0 => ("GainGraphs$Graph", "vertices", "I", false)
  | 1 => ("GainGraphs$Graph", "modulus", "I", false)
  | 2 => ("GainGraphs$Graph", "arcs", "I", false)
  | 3 => ("GainGraphs$Graph", "marked", "I", false)
  | 4 => ("GainGraphs$Graph", "palette", "I", false)
  | 5 => ("GainGraphs$Graph", "from", "[I", true)
  | 6 => ("GainGraphs$Graph", "to", "[I", true)
  | 7 => ("GainGraphs$Graph", "gain", "[I", true)
  | 8 => ("GainGraphs$Graph", "weight", "[I", true)
  | 9 => ("GainGraphs$Graph", "paint", "[I", true)
  | _ => ("GainGraphs$Graph", "totals", "[I", true)
def tyX0 : Nat → FieldType := fun k => match k with
  | 0 => .int
  | 1 => .int
  | 2 => .int
  | 3 => .int
  | 4 => .int
  | 5 => .array .int
  | 6 => .array .int
  | 7 => .array .int
  | 8 => .array .int
  | 9 => .array .int
  | _ => .array .int
abbrev wsX00 : List Cond := u_ws RX0 TX0 11
theorem nmX0 : ∀ a, a < 11 → ∀ b, b < 11 → a ≠ b → (TX0 a).2.1 ≠ (TX0 b).2.1 := by decide +kernel
theorem tyX0_ok : ∀ k, k < 11 → parseFieldDescriptor (TX0 k).2.2.1 = some (tyX0 k) := by decide +kernel
def RX1 : String := "GainGraphs$History"
def TX1 : u_T := fun k => match k with
  | 0 => ("GainGraphs$History", "ring", "[LGainGraphs$Graph;", true)
  | 1 => ("GainGraphs$History", "next", "I", false)
  | _ => ("GainGraphs$History", "size", "I", false)
def tyX1 : Nat → FieldType := fun k => match k with
  | 0 => .array (.object "GainGraphs$Graph")
  | 1 => .int
  | _ => .int
abbrev wsX10 : List Cond := u_ws RX1 TX1 3
theorem nmX1 : ∀ a, a < 3 → ∀ b, b < 3 → a ≠ b → (TX1 a).2.1 ≠ (TX1 b).2.1 := by decide +kernel
theorem tyX1_ok : ∀ k, k < 3 → parseFieldDescriptor (TX1 k).2.2.1 = some (tyX1 k) := by decide +kernel
def RX2 : String := "GainGraphs$Parts"
def TX2 : u_T := fun k => match k with
  | 0 => ("GainGraphs$Parts", "low", "[I", true)
  | 1 => ("GainGraphs$Parts", "height", "[I", true)
  | 2 => ("GainGraphs$Parts", "number", "I", false)
  | 3 => ("GainGraphs$Parts", "even", "I", false)
  | _ => ("GainGraphs$Parts", "odd", "I", false)
def tyX2 : Nat → FieldType := fun k => match k with
  | 0 => .array .int
  | 1 => .array .int
  | 2 => .int
  | 3 => .int
  | _ => .int
abbrev wsX20 : List Cond := u_ws RX2 TX2 5
theorem nmX2 : ∀ a, a < 5 → ∀ b, b < 5 → a ≠ b → (TX2 a).2.1 ≠ (TX2 b).2.1 := by decide +kernel
theorem tyX2_ok : ∀ k, k < 5 → parseFieldDescriptor (TX2 k).2.2.1 = some (tyX2 k) := by decide +kernel
def RX3 : String := "GainGraphs$Reader"
def TX3 : u_T := fun k => match k with
  | 0 => ("GainGraphs$Reader", "text", "[I", true)
  | 1 => ("GainGraphs$Reader", "length", "I", false)
  | 2 => ("GainGraphs$Reader", "error", "I", false)
  | 3 => ("GainGraphs$Reader", "errorAt", "I", false)
  | 4 => ("GainGraphs$Reader", "statement", "I", false)
  | 5 => ("GainGraphs$Reader", "at", "I", false)
  | 6 => ("GainGraphs$Reader", "wordAt", "I", false)
  | _ => ("GainGraphs$Reader", "value", "I", false)
def tyX3 : Nat → FieldType := fun k => match k with
  | 0 => .array .int
  | 1 => .int
  | 2 => .int
  | 3 => .int
  | 4 => .int
  | 5 => .int
  | 6 => .int
  | _ => .int
abbrev wsX30 : List Cond := u_ws RX3 TX3 8
theorem nmX3 : ∀ a, a < 8 → ∀ b, b < 8 → a ≠ b → (TX3 a).2.1 ≠ (TX3 b).2.1 := by decide +kernel
theorem tyX3_ok : ∀ k, k < 8 → parseFieldDescriptor (TX3 k).2.2.1 = some (tyX3 k) := by decide +kernel
def RX4 : String := "GainGraphs$Search"
def TX4 : u_T := fun k => match k with
  | 0 => ("GainGraphs$Search", "colors", "[I", true)
  | 1 => ("GainGraphs$Search", "colorCount", "I", false)
  | _ => ("GainGraphs$Search", "left", "I", false)
def tyX4 : Nat → FieldType := fun k => match k with
  | 0 => .array .int
  | 1 => .int
  | _ => .int
abbrev wsX40 : List Cond := u_ws RX4 TX4 3
theorem nmX4 : ∀ a, a < 3 → ∀ b, b < 3 → a ≠ b → (TX4 a).2.1 ≠ (TX4 b).2.1 := by decide +kernel
theorem tyX4_ok : ∀ k, k < 3 → parseFieldDescriptor (TX4 k).2.2.1 = some (tyX4 k) := by decide +kernel
def RX5 : String := "GainGraphs$Sets"
def TX5 : u_T := fun k => match k with
  | 0 => ("GainGraphs$Sets", "parts", "LGainGraphs$Parts;", true)
  | 1 => ("GainGraphs$Sets", "levels", "[LGainGraphs$Parts;", true)
  | 2 => ("GainGraphs$Sets", "numbers", "[B", true)
  | 3 => ("GainGraphs$Sets", "evens", "[B", true)
  | 4 => ("GainGraphs$Sets", "isSurveyed", "Z", false)
  | 5 => ("GainGraphs$Sets", "sums", "[J", true)
  | _ => ("GainGraphs$Sets", "ends", "[I", true)
def tyX5 : Nat → FieldType := fun k => match k with
  | 0 => .object "GainGraphs$Parts"
  | 1 => .array (.object "GainGraphs$Parts")
  | 2 => .array .byte
  | 3 => .array .byte
  | 4 => .boolean
  | 5 => .array .long
  | _ => .array .int
abbrev wsX50 : List Cond := u_ws RX5 TX5 7
theorem nmX5 : ∀ a, a < 7 → ∀ b, b < 7 → a ≠ b → (TX5 a).2.1 ≠ (TX5 b).2.1 := by decide +kernel
theorem tyX5_ok : ∀ k, k < 7 → parseFieldDescriptor (TX5 k).2.2.1 = some (tyX5 k) := by decide +kernel
def RX6 : String := "GainGraphs"
def TX6 : u_T := fun k => match k with
  | 0 => ("GainGraphs", "now", "LGainGraphs$Graph;", true)
  | 1 => ("GainGraphs", "draft", "LGainGraphs$Graph;", true)
  | 2 => ("GainGraphs", "history", "LGainGraphs$History;", true)
  | 3 => ("GainGraphs", "saved", "[LGainGraphs$Graph;", true)
  | 4 => ("GainGraphs", "isSaved", "[Z", true)
  | 5 => ("GainGraphs", "reader", "LGainGraphs$Reader;", true)
  | 6 => ("GainGraphs", "sets", "LGainGraphs$Sets;", true)
  | _ => ("GainGraphs", "search", "LGainGraphs$Search;", true)
def tyX6 : Nat → FieldType := fun k => match k with
  | 0 => .object "GainGraphs$Graph"
  | 1 => .object "GainGraphs$Graph"
  | 2 => .object "GainGraphs$History"
  | 3 => .array (.object "GainGraphs$Graph")
  | 4 => .array .boolean
  | 5 => .object "GainGraphs$Reader"
  | 6 => .object "GainGraphs$Sets"
  | _ => .object "GainGraphs$Search"
abbrev wsX60 : List Cond := u_ws RX6 TX6 8
theorem nmX6 : ∀ a, a < 8 → ∀ b, b < 8 → a ≠ b → (TX6 a).2.1 ≠ (TX6 b).2.1 := by decide +kernel
theorem tyX6_ok : ∀ k, k < 8 → parseFieldDescriptor (TX6 k).2.2.1 = some (tyX6 k) := by decide +kernel
def RX7 : String := "GainGraphsModel"
def TX7 : u_T := fun k => match k with
  | 0 => ("GainGraphsModel", "now", "[I", true)
  | 1 => ("GainGraphsModel", "read", "[I", true)
  | 2 => ("GainGraphsModel", "aside", "[I", true)
  | 3 => ("GainGraphsModel", "past", "[I", true)
  | 4 => ("GainGraphsModel", "copies", "[I", true)
  | 5 => ("GainGraphsModel", "isSaved", "[Z", true)
  | 6 => ("GainGraphsModel", "pastMany", "I", false)
  | 7 => ("GainGraphsModel", "thrown", "I", false)
  | 8 => ("GainGraphsModel", "buffer", "[B", true)
  | 9 => ("GainGraphsModel", "length", "I", false)
  | 10 => ("GainGraphsModel", "at", "I", false)
  | 11 => ("GainGraphsModel", "begin", "I", false)
  | 12 => ("GainGraphsModel", "error", "I", false)
  | 13 => ("GainGraphsModel", "errorAt", "I", false)
  | 14 => ("GainGraphsModel", "statement", "I", false)
  | 15 => ("GainGraphsModel", "lastError", "I", false)
  | 16 => ("GainGraphsModel", "lastStatement", "I", false)
  | 17 => ("GainGraphsModel", "lowest", "[I", true)
  | 18 => ("GainGraphsModel", "potential", "[I", true)
  | 19 => ("GainGraphsModel", "isBalanced", "[Z", true)
  | 20 => ("GainGraphsModel", "tried", "[I", true)
  | 21 => ("GainGraphsModel", "isOpen", "[Z", true)
  | 22 => ("GainGraphsModel", "normal", "[I", true)
  | _ => ("GainGraphsModel", "normalThere", "[I", true)
def tyX7 : Nat → FieldType := fun k => match k with
  | 0 => .array .int
  | 1 => .array .int
  | 2 => .array .int
  | 3 => .array .int
  | 4 => .array .int
  | 5 => .array .boolean
  | 6 => .int
  | 7 => .int
  | 8 => .array .byte
  | 9 => .int
  | 10 => .int
  | 11 => .int
  | 12 => .int
  | 13 => .int
  | 14 => .int
  | 15 => .int
  | 16 => .int
  | 17 => .array .int
  | 18 => .array .int
  | 19 => .array .boolean
  | 20 => .array .int
  | 21 => .array .boolean
  | 22 => .array .int
  | _ => .array .int
abbrev wsX70 : List Cond := u_ws RX7 TX7 24
theorem nmX7 : ∀ a, a < 24 → ∀ b, b < 24 → a ≠ b → (TX7 a).2.1 ≠ (TX7 b).2.1 := by decide +kernel
theorem tyX7_ok : ∀ k, k < 24 → parseFieldDescriptor (TX7 k).2.2.1 = some (tyX7 k) := by decide +kernel
