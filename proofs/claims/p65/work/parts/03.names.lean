/-! the classes of objects: names, fields -/
def RX0 : String := "GainGraphs$Graph"
def TX0 : u_T := fun k => match k with
  | 0 => ("GainGraphs$Graph", "vertices", "I", false)
  | 1 => ("GainGraphs$Graph", "modulus", "I", false)
  | 2 => ("GainGraphs$Graph", "arcs", "I", false)
  | 3 => ("GainGraphs$Graph", "marked", "I", false)
  | 4 => ("GainGraphs$Graph", "palette", "I", false)
  | 5 => ("GainGraphs$Graph", "from", "[I", true)
  | 6 => ("GainGraphs$Graph", "to", "[I", true)
  | 7 => ("GainGraphs$Graph", "gain", "[I", true)
  | 8 => ("GainGraphs$Graph", "weight", "[I", true)
  | 9 => ("GainGraphs$Graph", "paint", "[I", true)
  | _ => ("GainGraphs$Graph", "totals", "[I", true)
def tyX0 : Nat → FieldType := fun k => match k with
  | 0 => .int
  | 1 => .int
  | 2 => .int
  | 3 => .int
  | 4 => .int
  | 5 => .array .int
  | 6 => .array .int
  | 7 => .array .int
  | 8 => .array .int
  | 9 => .array .int
  | _ => .array .int
def RX1 : String := "GainGraphs$History"
def TX1 : u_T := fun k => match k with
  | 0 => ("GainGraphs$History", "ring", "[LGainGraphs$Graph;", true)
  | 1 => ("GainGraphs$History", "next", "I", false)
  | _ => ("GainGraphs$History", "size", "I", false)
def tyX1 : Nat → FieldType := fun k => match k with
  | 0 => .array (.object "GainGraphs$Graph")
  | 1 => .int
  | _ => .int
def RX2 : String := "GainGraphs$Parts"
def TX2 : u_T := fun k => match k with
  | 0 => ("GainGraphs$Parts", "low", "[I", true)
  | 1 => ("GainGraphs$Parts", "height", "[I", true)
  | 2 => ("GainGraphs$Parts", "number", "I", false)
  | 3 => ("GainGraphs$Parts", "even", "I", false)
  | _ => ("GainGraphs$Parts", "odd", "I", false)
def tyX2 : Nat → FieldType := fun k => match k with
  | 0 => .array .int
  | 1 => .array .int
  | 2 => .int
  | 3 => .int
  | _ => .int
def RX3 : String := "GainGraphs$Reader"
def TX3 : u_T := fun k => match k with
  | 0 => ("GainGraphs$Reader", "text", "[I", true)
  | 1 => ("GainGraphs$Reader", "length", "I", false)
  | 2 => ("GainGraphs$Reader", "error", "I", false)
  | 3 => ("GainGraphs$Reader", "errorAt", "I", false)
  | 4 => ("GainGraphs$Reader", "statement", "I", false)
  | 5 => ("GainGraphs$Reader", "at", "I", false)
  | 6 => ("GainGraphs$Reader", "wordAt", "I", false)
  | _ => ("GainGraphs$Reader", "value", "I", false)
def tyX3 : Nat → FieldType := fun k => match k with
  | 0 => .array .int
  | 1 => .int
  | 2 => .int
  | 3 => .int
  | 4 => .int
  | 5 => .int
  | 6 => .int
  | _ => .int
def RX4 : String := "GainGraphs$Search"
def TX4 : u_T := fun k => match k with
  | 0 => ("GainGraphs$Search", "colors", "[I", true)
  | 1 => ("GainGraphs$Search", "colorCount", "I", false)
  | _ => ("GainGraphs$Search", "left", "I", false)
def tyX4 : Nat → FieldType := fun k => match k with
  | 0 => .array .int
  | 1 => .int
  | _ => .int
def RX5 : String := "GainGraphs$Sets"
def TX5 : u_T := fun k => match k with
  | 0 => ("GainGraphs$Sets", "parts", "LGainGraphs$Parts;", true)
  | 1 => ("GainGraphs$Sets", "levels", "[LGainGraphs$Parts;", true)
  | 2 => ("GainGraphs$Sets", "numbers", "[B", true)
  | 3 => ("GainGraphs$Sets", "evens", "[B", true)
  | 4 => ("GainGraphs$Sets", "isSurveyed", "Z", false)
  | 5 => ("GainGraphs$Sets", "sums", "[J", true)
  | _ => ("GainGraphs$Sets", "ends", "[I", true)
def tyX5 : Nat → FieldType := fun k => match k with
  | 0 => .object "GainGraphs$Parts"
  | 1 => .array (.object "GainGraphs$Parts")
  | 2 => .array .byte
  | 3 => .array .byte
  | 4 => .boolean
  | 5 => .array .long
  | _ => .array .int
def RX6 : String := "GainGraphs"
def TX6 : u_T := fun k => match k with
  | 0 => ("GainGraphs", "now", "LGainGraphs$Graph;", true)
  | 1 => ("GainGraphs", "draft", "LGainGraphs$Graph;", true)
  | 2 => ("GainGraphs", "history", "LGainGraphs$History;", true)
  | 3 => ("GainGraphs", "saved", "[LGainGraphs$Graph;", true)
  | 4 => ("GainGraphs", "isSaved", "[Z", true)
  | 5 => ("GainGraphs", "reader", "LGainGraphs$Reader;", true)
  | 6 => ("GainGraphs", "sets", "LGainGraphs$Sets;", true)
  | _ => ("GainGraphs", "search", "LGainGraphs$Search;", true)
def tyX6 : Nat → FieldType := fun k => match k with
  | 0 => .object "GainGraphs$Graph"
  | 1 => .object "GainGraphs$Graph"
  | 2 => .object "GainGraphs$History"
  | 3 => .array (.object "GainGraphs$Graph")
  | 4 => .array .boolean
  | 5 => .object "GainGraphs$Reader"
  | 6 => .object "GainGraphs$Sets"
  | _ => .object "GainGraphs$Search"
def RX7 : String := "GainGraphsLaw$Arc"
def TX7 : u_T := fun k => match k with
  | 0 => ("GainGraphsLaw$Arc", "from", "I", false)
  | 1 => ("GainGraphsLaw$Arc", "to", "I", false)
  | 2 => ("GainGraphsLaw$Arc", "gain", "I", false)
  | 3 => ("GainGraphsLaw$Arc", "weight", "I", false)
  | _ => ("GainGraphsLaw$Arc", "isMarked", "Z", false)
def tyX7 : Nat → FieldType := fun k => match k with
  | 0 => .int
  | 1 => .int
  | 2 => .int
  | 3 => .int
  | _ => .boolean
def RX9 : String := "java/lang/String"
def TX9 : u_T := fun k => match k with
  | 0 => ("java/lang/String", "value", "[B", true)
  | 1 => ("java/lang/String", "coder", "B", true)
  | 2 => ("java/lang/String", "hash", "I", false)
  | _ => ("java/lang/String", "hashIsZero", "Z", false)
def tyX9 : Nat → FieldType := fun k => match k with
  | 0 => .array .byte
  | 1 => .byte
  | 2 => .int
  | _ => .boolean
def RX14 : String := "GainGraphsLaw$Graph"
def TX14 : u_T := fun k => match k with
  | 0 => ("GainGraphsLaw$Graph", "n", "I", false)
  | 1 => ("GainGraphsLaw$Graph", "m", "I", false)
  | 2 => ("GainGraphsLaw$Graph", "palette", "I", false)
  | 3 => ("GainGraphsLaw$Graph", "arcs", "Ljava/util/ArrayList;", false)
  | 4 => ("GainGraphsLaw$Graph", "paint", "Ljava/util/ArrayList;", false)
  | _ => ("GainGraphsLaw$Graph", "totals", "[I", false)
def tyX14 : Nat → FieldType := fun k => match k with
  | 0 => .int
  | 1 => .int
  | 2 => .int
  | 3 => .object "java/util/ArrayList"
  | 4 => .object "java/util/ArrayList"
  | _ => .array .int
def RX15 : String := "java/util/ArrayList"
def TX15 : u_T := fun k => match k with
  | 0 => ("java/util/AbstractList", "modCount", "I", false)
  | 1 => ("java/util/ArrayList", "elementData", "[Ljava/lang/Object;", false)
  | _ => ("java/util/ArrayList", "size", "I", false)
def tyX15 : Nat → FieldType := fun k => match k with
  | 0 => .int
  | 1 => .array (.object "java/lang/Object")
  | _ => .int
def RX16 : String := "java/util/ArrayList$Itr"
def TX16 : u_T := fun k => match k with
  | 0 => ("java/util/ArrayList$Itr", "cursor", "I", false)
  | 1 => ("java/util/ArrayList$Itr", "lastRet", "I", false)
  | 2 => ("java/util/ArrayList$Itr", "expectedModCount", "I", false)
  | _ => ("java/util/ArrayList$Itr", "this$0", "Ljava/util/ArrayList;", true)
def tyX16 : Nat → FieldType := fun k => match k with
  | 0 => .int
  | 1 => .int
  | 2 => .int
  | _ => .object "java/util/ArrayList"
def RX17 : String := "java/lang/StringBuilder"
def TX17 : u_T := fun k => match k with
  | 0 => ("java/lang/AbstractStringBuilder", "value", "[B", false)
  | 1 => ("java/lang/AbstractStringBuilder", "coder", "B", false)
  | 2 => ("java/lang/AbstractStringBuilder", "maybeLatin1", "Z", false)
  | _ => ("java/lang/AbstractStringBuilder", "count", "I", false)
def tyX17 : Nat → FieldType := fun k => match k with
  | 0 => .array .byte
  | 1 => .byte
  | 2 => .boolean
  | _ => .int
