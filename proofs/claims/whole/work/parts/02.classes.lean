def RX0 : String := "MendedTube$Ageing"
def TX0 : u_T := fun k => match k with
  | 0 => ("MendedTube$Ageing", "light", "LMendedTube$Light;", true)
  | 1 => ("MendedTube$Ageing", "trial", "LMendedTube$Bench;", true)
  | _ => ("MendedTube$Ageing", "lasts", "[I", true)
def tyX0 : Nat → FieldType := fun k => match k with
  | 0 => .object "MendedTube$Light"
  | 1 => .object "MendedTube$Bench"
  | _ => .array .int
abbrev wsX00 : List Cond := u_ws RX0 TX0 3
theorem nmX0 : ∀ a, a < 3 → ∀ b, b < 3 → a ≠ b → (TX0 a).2.1 ≠ (TX0 b).2.1 := by decide +kernel
theorem tyX0_ok : ∀ k, k < 3 → parseFieldDescriptor (TX0 k).2.2.1 = some (tyX0 k) := by decide +kernel
def RX1 : String := "MendedTube$Bench"
def TX1 : u_T := fun k => match k with
  | 0 => ("MendedTube$Bench", "lenses", "I", false)
  | 1 => ("MendedTube$Bench", "kind", "[I", true)
  | 2 => ("MendedTube$Bench", "bend", "[I", true)
  | 3 => ("MendedTube$Bench", "tilt", "[I", true)
  | 4 => ("MendedTube$Bench", "price", "[I", true)
  | 5 => ("MendedTube$Bench", "setting", "[I", true)
  | 6 => ("MendedTube$Bench", "rules", "LMendedTube$Rules;", false)
  | 7 => ("MendedTube$Bench", "places", "I", false)
  | 8 => ("MendedTube$Bench", "lens", "[I", true)
  | 9 => ("MendedTube$Bench", "turn", "[I", true)
  | 10 => ("MendedTube$Bench", "reports", "I", false)
  | 11 => ("MendedTube$Bench", "reportPlace", "[I", true)
  | 12 => ("MendedTube$Bench", "reportWas", "[I", true)
  | _ => ("MendedTube$Bench", "z", "I", false)
def tyX1 : Nat → FieldType := fun k => match k with
  | 0 => .int
  | 1 => .array .int
  | 2 => .array .int
  | 3 => .array .int
  | 4 => .array .int
  | 5 => .array .int
  | 6 => .object "MendedTube$Rules"
  | 7 => .int
  | 8 => .array .int
  | 9 => .array .int
  | 10 => .int
  | 11 => .array .int
  | 12 => .array .int
  | _ => .int
abbrev wsX10 : List Cond := u_ws RX1 TX1 14
theorem nmX1 : ∀ a, a < 14 → ∀ b, b < 14 → a ≠ b → (TX1 a).2.1 ≠ (TX1 b).2.1 := by decide +kernel
theorem tyX1_ok : ∀ k, k < 14 → parseFieldDescriptor (TX1 k).2.2.1 = some (tyX1 k) := by decide +kernel
def RX2 : String := "MendedTube$Contest"
def TX2 : u_T := fun k => match k with
  | 0 => ("MendedTube$Contest", "light", "LMendedTube$Light;", true)
  | 1 => ("MendedTube$Contest", "lenses", "I", false)
  | 2 => ("MendedTube$Contest", "used", "I", false)
  | 3 => ("MendedTube$Contest", "places", "I", false)
  | _ => ("MendedTube$Contest", "moves", "I", false)
def tyX2 : Nat → FieldType := fun k => match k with
  | 0 => .object "MendedTube$Light"
  | 1 => .int
  | 2 => .int
  | 3 => .int
  | _ => .int
abbrev wsX20 : List Cond := u_ws RX2 TX2 5
theorem nmX2 : ∀ a, a < 5 → ∀ b, b < 5 → a ≠ b → (TX2 a).2.1 ≠ (TX2 b).2.1 := by decide +kernel
theorem tyX2_ok : ∀ k, k < 5 → parseFieldDescriptor (TX2 k).2.2.1 = some (tyX2 k) := by decide +kernel
def RX3 : String := "MendedTube$Deed"
def TX3 : u_T := fun k => match k with
  | 0 => ("MendedTube$Deed", "kind", "I", false)
  | 1 => ("MendedTube$Deed", "n", "I", false)
  | 2 => ("MendedTube$Deed", "a", "I", false)
  | 3 => ("MendedTube$Deed", "parted", "Z", false)
  | 4 => ("MendedTube$Deed", "trace", "[I", true)
  | _ => ("MendedTube$Deed", "traced", "I", false)
def tyX3 : Nat → FieldType := fun k => match k with
  | 0 => .int
  | 1 => .int
  | 2 => .int
  | 3 => .boolean
  | 4 => .array .int
  | _ => .int
abbrev wsX30 : List Cond := u_ws RX3 TX3 6
theorem nmX3 : ∀ a, a < 6 → ∀ b, b < 6 → a ≠ b → (TX3 a).2.1 ≠ (TX3 b).2.1 := by decide +kernel
theorem tyX3_ok : ∀ k, k < 6 → parseFieldDescriptor (TX3 k).2.2.1 = some (tyX3 k) := by decide +kernel
def RX4 : String := "MendedTube$Heap"
def TX4 : u_T := fun k => match k with
  | 0 => ("MendedTube$Heap", "light", "LMendedTube$Light;", true)
  | 1 => ("MendedTube$Heap", "lenses", "I", false)
  | 2 => ("MendedTube$Heap", "n", "I", false)
  | 3 => ("MendedTube$Heap", "used", "I", false)
  | 4 => ("MendedTube$Heap", "lens", "[I", true)
  | 5 => ("MendedTube$Heap", "turn", "[I", true)
  | 6 => ("MendedTube$Heap", "firstLens", "[I", true)
  | 7 => ("MendedTube$Heap", "firstTurn", "[I", true)
  | 8 => ("MendedTube$Heap", "leastWrong", "I", false)
  | 9 => ("MendedTube$Heap", "mendedTubes", "I", false)
  | 10 => ("MendedTube$Heap", "partners", "[I", true)
  | 11 => ("MendedTube$Heap", "partner", "[I", true)
  | 12 => ("MendedTube$Heap", "matched", "[I", true)
  | _ => ("MendedTube$Heap", "mostPairs", "I", false)
def tyX4 : Nat → FieldType := fun k => match k with
  | 0 => .object "MendedTube$Light"
  | 1 => .int
  | 2 => .int
  | 3 => .int
  | 4 => .array .int
  | 5 => .array .int
  | 6 => .array .int
  | 7 => .array .int
  | 8 => .int
  | 9 => .int
  | 10 => .array .int
  | 11 => .array .int
  | 12 => .array .int
  | _ => .int
abbrev wsX40 : List Cond := u_ws RX4 TX4 14
theorem nmX4 : ∀ a, a < 14 → ∀ b, b < 14 → a ≠ b → (TX4 a).2.1 ≠ (TX4 b).2.1 := by decide +kernel
theorem tyX4_ok : ∀ k, k < 14 → parseFieldDescriptor (TX4 k).2.2.1 = some (tyX4 k) := by decide +kernel
def RX5 : String := "MendedTube$Light"
def TX5 : u_T := fun k => match k with
  | 0 => ("MendedTube$Light", "facts", "[I", true)
  | 1 => ("MendedTube$Light", "strength", "[I", true)
  | 2 => ("MendedTube$Light", "tilt", "[I", true)
  | 3 => ("MendedTube$Light", "gap", "I", false)
  | 4 => ("MendedTube$Light", "eye", "I", false)
  | 5 => ("MendedTube$Light", "limit", "I", false)
  | 6 => ("MendedTube$Light", "height", "[I", true)
  | 7 => ("MendedTube$Light", "slope", "[I", true)
  | 8 => ("MendedTube$Light", "moreHeight", "[I", true)
  | 9 => ("MendedTube$Light", "moreSlope", "[I", true)
  | _ => ("MendedTube$Light", "end", "I", false)
def tyX5 : Nat → FieldType := fun k => match k with
  | 0 => .array .int
  | 1 => .array .int
  | 2 => .array .int
  | 3 => .int
  | 4 => .int
  | 5 => .int
  | 6 => .array .int
  | 7 => .array .int
  | 8 => .array .int
  | 9 => .array .int
  | _ => .int
abbrev wsX50 : List Cond := u_ws RX5 TX5 11
theorem nmX5 : ∀ a, a < 11 → ∀ b, b < 11 → a ≠ b → (TX5 a).2.1 ≠ (TX5 b).2.1 := by decide +kernel
theorem tyX5_ok : ∀ k, k < 11 → parseFieldDescriptor (TX5 k).2.2.1 = some (tyX5 k) := by decide +kernel
def RX6 : String := "MendedTube$Rules"
def TX6 : u_T := fun k => match k with
  | 0 => ("MendedTube$Rules", "count", "I", true)
  | _ => ("MendedTube$Rules", "code", "[I", true)
def tyX6 : Nat → FieldType := fun k => match k with
  | 0 => .int
  | _ => .array .int
abbrev wsX60 : List Cond := u_ws RX6 TX6 2
theorem nmX6 : ∀ a, a < 2 → ∀ b, b < 2 → a ≠ b → (TX6 a).2.1 ≠ (TX6 b).2.1 := by decide +kernel
theorem tyX6_ok : ∀ k, k < 2 → parseFieldDescriptor (TX6 k).2.2.1 = some (tyX6 k) := by decide +kernel
def RX7 : String := "MendedTube$Sheet"
def TX7 : u_T := fun k => match k with
  | 0 => ("MendedTube$Sheet", "sort", "I", true)
  | _ => ("MendedTube$Sheet", "items", "[I", true)
def tyX7 : Nat → FieldType := fun k => match k with
  | 0 => .int
  | _ => .array .int
abbrev wsX70 : List Cond := u_ws RX7 TX7 2
theorem nmX7 : ∀ a, a < 2 → ∀ b, b < 2 → a ≠ b → (TX7 a).2.1 ≠ (TX7 b).2.1 := by decide +kernel
theorem tyX7_ok : ∀ k, k < 2 → parseFieldDescriptor (TX7 k).2.2.1 = some (tyX7 k) := by decide +kernel
def RX8 : String := "MendedTube$Text"
def TX8 : u_T := fun k => match k with
  | 0 => ("MendedTube$Text", "bytes", "[I", true)
  | 1 => ("MendedTube$Text", "length", "I", false)
  | 2 => ("MendedTube$Text", "words", "[I", true)
  | 3 => ("MendedTube$Text", "starts", "[I", true)
  | 4 => ("MendedTube$Text", "looked", "I", false)
  | 5 => ("MendedTube$Text", "word", "I", false)
  | 6 => ("MendedTube$Text", "fault", "I", false)
  | 7 => ("MendedTube$Text", "code", "[I", true)
  | _ => ("MendedTube$Text", "size", "I", false)
def tyX8 : Nat → FieldType := fun k => match k with
  | 0 => .array .int
  | 1 => .int
  | 2 => .array .int
  | 3 => .array .int
  | 4 => .int
  | 5 => .int
  | 6 => .int
  | 7 => .array .int
  | _ => .int
abbrev wsX80 : List Cond := u_ws RX8 TX8 9
theorem nmX8 : ∀ a, a < 9 → ∀ b, b < 9 → a ≠ b → (TX8 a).2.1 ≠ (TX8 b).2.1 := by decide +kernel
theorem tyX8_ok : ∀ k, k < 9 → parseFieldDescriptor (TX8 k).2.2.1 = some (tyX8 k) := by decide +kernel
def RX9 : String := "MendedTube"
def TX9 : u_T := fun k => match k with
  | 0 => ("MendedTube", "now", "LMendedTube$Bench;", true)
  | 1 => ("MendedTube", "kept", "LMendedTube$Bench;", true)
  | 2 => ("MendedTube", "isKept", "Z", false)
  | 3 => ("MendedTube", "trial", "LMendedTube$Bench;", true)
  | 4 => ("MendedTube", "text", "LMendedTube$Text;", true)
  | 5 => ("MendedTube", "light", "LMendedTube$Light;", true)
  | 6 => ("MendedTube", "heap", "LMendedTube$Heap;", true)
  | 7 => ("MendedTube", "contest", "LMendedTube$Contest;", true)
  | 8 => ("MendedTube", "ageing", "LMendedTube$Ageing;", true)
  | 9 => ("MendedTube", "bendsOfReport", "[I", true)
  | 10 => ("MendedTube", "rows", "[I", true)
  | 11 => ("MendedTube", "rowCount", "I", false)
  | 12 => ("MendedTube", "sheets", "[LMendedTube$Sheet;", true)
  | 13 => ("MendedTube", "shelfSheet", "[LMendedTube$Sheet;", true)
  | 14 => ("MendedTube", "shelfLens", "[I", true)
  | _ => ("MendedTube", "deed", "LMendedTube$Deed;", true)
def tyX9 : Nat → FieldType := fun k => match k with
  | 0 => .object "MendedTube$Bench"
  | 1 => .object "MendedTube$Bench"
  | 2 => .boolean
  | 3 => .object "MendedTube$Bench"
  | 4 => .object "MendedTube$Text"
  | 5 => .object "MendedTube$Light"
  | 6 => .object "MendedTube$Heap"
  | 7 => .object "MendedTube$Contest"
  | 8 => .object "MendedTube$Ageing"
  | 9 => .array .int
  | 10 => .array .int
  | 11 => .int
  | 12 => .array (.object "MendedTube$Sheet")
  | 13 => .array (.object "MendedTube$Sheet")
  | 14 => .array .int
  | _ => .object "MendedTube$Deed"
abbrev wsX90 : List Cond := u_ws RX9 TX9 16
theorem nmX9 : ∀ a, a < 16 → ∀ b, b < 16 → a ≠ b → (TX9 a).2.1 ≠ (TX9 b).2.1 := by decide +kernel
theorem tyX9_ok : ∀ k, k < 16 → parseFieldDescriptor (TX9 k).2.2.1 = some (tyX9 k) := by decide +kernel
def RX10 : String := "MendedTubeModel"
def TX10 : u_T := fun k => match k with
  | 0 => ("MendedTubeModel", "s", "[I", true)
  | 1 => ("MendedTubeModel", "kept", "[I", true)
  | 2 => ("MendedTubeModel", "other", "[I", true)
  | 3 => ("MendedTubeModel", "isKept", "Z", false)
  | 4 => ("MendedTubeModel", "stack", "[I", true)
  | 5 => ("MendedTubeModel", "strengths", "[I", true)
  | 6 => ("MendedTubeModel", "powers", "[I", true)
  | 7 => ("MendedTubeModel", "pushes", "[I", true)
  | 8 => ("MendedTubeModel", "long0", "I", false)
  | 9 => ("MendedTubeModel", "heightNow", "I", false)
  | 10 => ("MendedTubeModel", "slopeNow", "I", false)
  | 11 => ("MendedTubeModel", "chosen", "[I", true)
  | 12 => ("MendedTubeModel", "first", "[I", true)
  | 13 => ("MendedTubeModel", "leastWrong", "I", false)
  | 14 => ("MendedTubeModel", "mendedMany", "I", false)
  | 15 => ("MendedTubeModel", "arePair", "[Z", true)
  | 16 => ("MendedTubeModel", "mosts", "[I", true)
  | 17 => ("MendedTubeModel", "lasting", "[I", true)
  | 18 => ("MendedTubeModel", "fitMany", "I", false)
  | 19 => ("MendedTubeModel", "fitFirst", "I", false)
  | 20 => ("MendedTubeModel", "fitLast", "I", false)
  | 21 => ("MendedTubeModel", "rows", "[I", true)
  | 22 => ("MendedTubeModel", "rowMany", "I", false)
  | 23 => ("MendedTubeModel", "tape", "[I", true)
  | 24 => ("MendedTubeModel", "taped", "I", false)
  | 25 => ("MendedTubeModel", "from", "I", false)
  | 26 => ("MendedTubeModel", "to", "I", false)
  | 27 => ("MendedTubeModel", "value", "I", false)
  | 28 => ("MendedTubeModel", "open", "I", false)
  | 29 => ("MendedTubeModel", "coded", "I", false)
  | 30 => ("MendedTubeModel", "isWrong", "Z", false)
  | 31 => ("MendedTubeModel", "sortOf", "[I", true)
  | 32 => ("MendedTubeModel", "sizes", "[I", true)
  | 33 => ("MendedTubeModel", "items", "[I", true)
  | 34 => ("MendedTubeModel", "lies", "[I", true)
  | 35 => ("MendedTubeModel", "liesNumber", "[I", true)
  | 36 => ("MendedTubeModel", "liesSort", "[I", true)
  | 37 => ("MendedTubeModel", "ran", "[I", true)
  | 38 => ("MendedTubeModel", "bodies", "I", false)
  | 39 => ("MendedTubeModel", "acting", "I", false)
  | 40 => ("MendedTubeModel", "about", "I", false)
  | 41 => ("MendedTubeModel", "kindActing", "I", false)
  | _ => ("MendedTubeModel", "isParted", "Z", false)
def tyX10 : Nat → FieldType := fun k => match k with
  | 0 => .array .int
  | 1 => .array .int
  | 2 => .array .int
  | 3 => .boolean
  | 4 => .array .int
  | 5 => .array .int
  | 6 => .array .int
  | 7 => .array .int
  | 8 => .int
  | 9 => .int
  | 10 => .int
  | 11 => .array .int
  | 12 => .array .int
  | 13 => .int
  | 14 => .int
  | 15 => .array .boolean
  | 16 => .array .int
  | 17 => .array .int
  | 18 => .int
  | 19 => .int
  | 20 => .int
  | 21 => .array .int
  | 22 => .int
  | 23 => .array .int
  | 24 => .int
  | 25 => .int
  | 26 => .int
  | 27 => .int
  | 28 => .int
  | 29 => .int
  | 30 => .boolean
  | 31 => .array .int
  | 32 => .array .int
  | 33 => .array .int
  | 34 => .array .int
  | 35 => .array .int
  | 36 => .array .int
  | 37 => .array .int
  | 38 => .int
  | 39 => .int
  | 40 => .int
  | 41 => .int
  | _ => .boolean
abbrev wsX100 : List Cond := u_ws RX10 TX10 43
theorem nmX10 : ∀ a, a < 43 → ∀ b, b < 43 → a ≠ b → (TX10 a).2.1 ≠ (TX10 b).2.1 := by decide +kernel
theorem tyX10_ok : ∀ k, k < 43 → parseFieldDescriptor (TX10 k).2.2.1 = some (tyX10 k) := by decide +kernel
abbrev vwCl : List vw_C := [(RX0, TX0, 3), (RX1, TX1, 14), (RX2, TX2, 5), (RX3, TX3, 6), (RX4, TX4, 14), (RX5, TX5, 11), (RX6, TX6, 2), (RX7, TX7, 2), (RX8, TX8, 9), (RX9, TX9, 16), (RX10, TX10, 43)]
