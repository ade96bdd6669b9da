def RX0 : String := "CutInMay$Course"
def TX0 : u_T := fun k => match k with
  | 0 => ("CutInMay$Course", "world", "LCutInMay$World;", true)
  | 1 => ("CutInMay$Course", "rooms", "LCutInMay$Rooms;", true)
  | 2 => ("CutInMay$Course", "laws", "LCutInMay$Laws;", true)
  | 3 => ("CutInMay$Course", "text", "LCutInMay$Text;", false)
  | 4 => ("CutInMay$Course", "block", "I", false)
  | 5 => ("CutInMay$Course", "x", "I", false)
  | 6 => ("CutInMay$Course", "day", "I", false)
  | 7 => ("CutInMay$Course", "heat", "I", false)
  | 8 => ("CutInMay$Course", "straw", "I", false)
  | 9 => ("CutInMay$Course", "melted", "I", false)
  | _ => ("CutInMay$Course", "sold", "Z", false)
def tyX0 : Nat → FieldType := fun k => match k with
  | 0 => .object "CutInMay$World"
  | 1 => .object "CutInMay$Rooms"
  | 2 => .object "CutInMay$Laws"
  | 3 => .object "CutInMay$Text"
  | 4 => .int
  | 5 => .int
  | 6 => .int
  | 7 => .int
  | 8 => .int
  | 9 => .int
  | _ => .boolean
theorem nmX0 : ∀ a, a < 11 → ∀ b, b < 11 → a ≠ b → (TX0 a).2.1 ≠ (TX0 b).2.1 := by decide +kernel
theorem tyX0_ok : ∀ k, k < 11 → parseFieldDescriptor (TX0 k).2.2.1 = some (tyX0 k) := by decide +kernel
def RX1 : String := "CutInMay$Laws"
def TX1 : u_T := fun k => match k with
  | 0 => ("CutInMay$Laws", "names", "[I", true)
  | _ => ("CutInMay$Laws", "stack", "[I", true)
def tyX1 : Nat → FieldType := fun k => match k with
  | 0 => .array .int
  | _ => .array .int
theorem nmX1 : ∀ a, a < 2 → ∀ b, b < 2 → a ≠ b → (TX1 a).2.1 ≠ (TX1 b).2.1 := by decide +kernel
theorem tyX1_ok : ∀ k, k < 2 → parseFieldDescriptor (TX1 k).2.2.1 = some (tyX1 k) := by decide +kernel
def RX2 : String := "CutInMay$Odds"
def TX2 : u_T := fun k => match k with
  | 0 => ("CutInMay$Odds", "course", "LCutInMay$Course;", true)
  | 1 => ("CutInMay$Odds", "waysTo", "[I", true)
  | 2 => ("CutInMay$Odds", "found", "[I", true)
  | 3 => ("CutInMay$Odds", "states", "[I", true)
  | _ => ("CutInMay$Odds", "ways", "[I", true)
def tyX2 : Nat → FieldType := fun k => match k with
  | 0 => .object "CutInMay$Course"
  | 1 => .array .int
  | 2 => .array .int
  | 3 => .array .int
  | _ => .array .int
theorem nmX2 : ∀ a, a < 5 → ∀ b, b < 5 → a ≠ b → (TX2 a).2.1 ≠ (TX2 b).2.1 := by decide +kernel
theorem tyX2_ok : ∀ k, k < 5 → parseFieldDescriptor (TX2 k).2.2.1 = some (tyX2 k) := by decide +kernel
def RX3 : String := "CutInMay$Reader"
def TX3 : u_T := fun k => match k with
  | 0 => ("CutInMay$Reader", "tape", "[B", true)
  | 1 => ("CutInMay$Reader", "length", "I", false)
  | 2 => ("CutInMay$Reader", "fault", "I", false)
  | 3 => ("CutInMay$Reader", "place", "I", false)
  | 4 => ("CutInMay$Reader", "at", "I", false)
  | 5 => ("CutInMay$Reader", "start", "I", false)
  | 6 => ("CutInMay$Reader", "sort", "I", false)
  | 7 => ("CutInMay$Reader", "value", "I", false)
  | 8 => ("CutInMay$Reader", "rows", "[I", true)
  | 9 => ("CutInMay$Reader", "clauses", "I", false)
  | 10 => ("CutInMay$Reader", "parts", "I", false)
  | 11 => ("CutInMay$Reader", "melts", "[I", false)
  | 12 => ("CutInMay$Reader", "sells", "[I", false)
  | 13 => ("CutInMay$Reader", "rots", "[I", false)
  | 14 => ("CutInMay$Reader", "code", "[I", true)
  | 15 => ("CutInMay$Reader", "used", "I", false)
  | 16 => ("CutInMay$Reader", "law", "I", false)
  | _ => ("CutInMay$Reader", "seventh", "Z", false)
def tyX3 : Nat → FieldType := fun k => match k with
  | 0 => .array .byte
  | 1 => .int
  | 2 => .int
  | 3 => .int
  | 4 => .int
  | 5 => .int
  | 6 => .int
  | 7 => .int
  | 8 => .array .int
  | 9 => .int
  | 10 => .int
  | 11 => .array .int
  | 12 => .array .int
  | 13 => .array .int
  | 14 => .array .int
  | 15 => .int
  | 16 => .int
  | _ => .boolean
theorem nmX3 : ∀ a, a < 18 → ∀ b, b < 18 → a ≠ b → (TX3 a).2.1 ≠ (TX3 b).2.1 := by decide +kernel
theorem tyX3_ok : ∀ k, k < 18 → parseFieldDescriptor (TX3 k).2.2.1 = some (tyX3 k) := by decide +kernel
def RX4 : String := "CutInMay$Rooms"
def TX4 : u_T := fun k => match k with
  | 0 => ("CutInMay$Rooms", "lefts", "[I", true)
  | 1 => ("CutInMay$Rooms", "tops", "[I", true)
  | 2 => ("CutInMay$Rooms", "wides", "[I", true)
  | 3 => ("CutInMay$Rooms", "highs", "[I", true)
  | 4 => ("CutInMay$Rooms", "edges", "[I", true)
  | _ => ("CutInMay$Rooms", "count", "I", false)
def tyX4 : Nat → FieldType := fun k => match k with
  | 0 => .array .int
  | 1 => .array .int
  | 2 => .array .int
  | 3 => .array .int
  | 4 => .array .int
  | _ => .int
theorem nmX4 : ∀ a, a < 6 → ∀ b, b < 6 → a ≠ b → (TX4 a).2.1 ≠ (TX4 b).2.1 := by decide +kernel
theorem tyX4_ok : ∀ k, k < 6 → parseFieldDescriptor (TX4 k).2.2.1 = some (tyX4 k) := by decide +kernel
def RX5 : String := "CutInMay$Serving"
def TX5 : u_T := fun k => match k with
  | 0 => ("CutInMay$Serving", "world", "LCutInMay$World;", true)
  | 1 => ("CutInMay$Serving", "rooms", "LCutInMay$Rooms;", true)
  | 2 => ("CutInMay$Serving", "course", "LCutInMay$Course;", true)
  | 3 => ("CutInMay$Serving", "lowest", "[I", true)
  | 4 => ("CutInMay$Serving", "manyFor", "[I", true)
  | 5 => ("CutInMay$Serving", "chosen", "[I", true)
  | 6 => ("CutInMay$Serving", "best", "[I", true)
  | _ => ("CutInMay$Serving", "most", "I", false)
def tyX5 : Nat → FieldType := fun k => match k with
  | 0 => .object "CutInMay$World"
  | 1 => .object "CutInMay$Rooms"
  | 2 => .object "CutInMay$Course"
  | 3 => .array .int
  | 4 => .array .int
  | 5 => .array .int
  | 6 => .array .int
  | _ => .int
theorem nmX5 : ∀ a, a < 8 → ∀ b, b < 8 → a ≠ b → (TX5 a).2.1 ≠ (TX5 b).2.1 := by decide +kernel
theorem tyX5_ok : ∀ k, k < 8 → parseFieldDescriptor (TX5 k).2.2.1 = some (tyX5 k) := by decide +kernel
def RX6 : String := "CutInMay$Steps"
def TX6 : u_T := fun k => match k with
  | 0 => ("CutInMay$Steps", "rows", "[I", true)
  | 1 => ("CutInMay$Steps", "next", "I", false)
  | _ => ("CutInMay$Steps", "count", "I", false)
def tyX6 : Nat → FieldType := fun k => match k with
  | 0 => .array .int
  | 1 => .int
  | _ => .int
theorem nmX6 : ∀ a, a < 3 → ∀ b, b < 3 → a ≠ b → (TX6 a).2.1 ≠ (TX6 b).2.1 := by decide +kernel
theorem tyX6_ok : ∀ k, k < 3 → parseFieldDescriptor (TX6 k).2.2.1 = some (tyX6 k) := by decide +kernel
def RX7 : String := "CutInMay$Text"
def TX7 : u_T := fun k => match k with
  | 0 => ("CutInMay$Text", "melts", "[I", true)
  | 1 => ("CutInMay$Text", "sells", "[I", true)
  | 2 => ("CutInMay$Text", "rots", "[I", true)
  | 3 => ("CutInMay$Text", "count", "I", true)
  | _ => ("CutInMay$Text", "rows", "[I", true)
def tyX7 : Nat → FieldType := fun k => match k with
  | 0 => .array .int
  | 1 => .array .int
  | 2 => .array .int
  | 3 => .int
  | _ => .array .int
theorem nmX7 : ∀ a, a < 5 → ∀ b, b < 5 → a ≠ b → (TX7 a).2.1 ≠ (TX7 b).2.1 := by decide +kernel
theorem tyX7_ok : ∀ k, k < 5 → parseFieldDescriptor (TX7 k).2.2.1 = some (tyX7 k) := by decide +kernel
def RX8 : String := "CutInMay$Told"
def TX8 : u_T := fun k => match k with
  | 0 => ("CutInMay$Told", "most", "I", true)
  | 1 => ("CutInMay$Told", "rows", "[I", true)
  | _ => ("CutInMay$Told", "count", "I", false)
def tyX8 : Nat → FieldType := fun k => match k with
  | 0 => .int
  | 1 => .array .int
  | _ => .int
theorem nmX8 : ∀ a, a < 3 → ∀ b, b < 3 → a ≠ b → (TX8 a).2.1 ≠ (TX8 b).2.1 := by decide +kernel
theorem tyX8_ok : ∀ k, k < 3 → parseFieldDescriptor (TX8 k).2.2.1 = some (tyX8 k) := by decide +kernel
def RX9 : String := "CutInMay$World"
def TX9 : u_T := fun k => match k with
  | 0 => ("CutInMay$World", "wide", "I", false)
  | 1 => ("CutInMay$World", "high", "I", false)
  | 2 => ("CutInMay$World", "told", "Z", false)
  | 3 => ("CutInMay$World", "sightCount", "I", false)
  | 4 => ("CutInMay$World", "sights", "[I", true)
  | 5 => ("CutInMay$World", "textCount", "I", false)
  | 6 => ("CutInMay$World", "ruling", "I", false)
  | 7 => ("CutInMay$World", "texts", "[LCutInMay$Text;", true)
  | 8 => ("CutInMay$World", "yard", "LCutInMay$Yard;", true)
  | 9 => ("CutInMay$World", "steps", "LCutInMay$Steps;", true)
  | 10 => ("CutInMay$World", "orders", "LCutInMay$Told;", true)
  | 11 => ("CutInMay$World", "glasses", "LCutInMay$Told;", true)
  | 12 => ("CutInMay$World", "bids", "LCutInMay$Told;", true)
  | 13 => ("CutInMay$World", "measures", "LCutInMay$Told;", true)
  | _ => ("CutInMay$World", "melts", "LCutInMay$Told;", true)
def tyX9 : Nat → FieldType := fun k => match k with
  | 0 => .int
  | 1 => .int
  | 2 => .boolean
  | 3 => .int
  | 4 => .array .int
  | 5 => .int
  | 6 => .int
  | 7 => .array (.object "CutInMay$Text")
  | 8 => .object "CutInMay$Yard"
  | 9 => .object "CutInMay$Steps"
  | 10 => .object "CutInMay$Told"
  | 11 => .object "CutInMay$Told"
  | 12 => .object "CutInMay$Told"
  | 13 => .object "CutInMay$Told"
  | _ => .object "CutInMay$Told"
theorem nmX9 : ∀ a, a < 15 → ∀ b, b < 15 → a ≠ b → (TX9 a).2.1 ≠ (TX9 b).2.1 := by decide +kernel
theorem tyX9_ok : ∀ k, k < 15 → parseFieldDescriptor (TX9 k).2.2.1 = some (tyX9 k) := by decide +kernel
def RX10 : String := "CutInMay$Yard"
def TX10 : u_T := fun k => match k with
  | 0 => ("CutInMay$Yard", "upright", "I", false)
  | 1 => ("CutInMay$Yard", "level", "I", false)
  | 2 => ("CutInMay$Yard", "heap", "I", false)
  | 3 => ("CutInMay$Yard", "day", "I", false)
  | 4 => ("CutInMay$Yard", "heat", "I", false)
  | 5 => ("CutInMay$Yard", "pence", "I", false)
  | 6 => ("CutInMay$Yard", "x", "I", false)
  | _ => ("CutInMay$Yard", "marks", "[I", true)
def tyX10 : Nat → FieldType := fun k => match k with
  | 0 => .int
  | 1 => .int
  | 2 => .int
  | 3 => .int
  | 4 => .int
  | 5 => .int
  | 6 => .int
  | _ => .array .int
theorem nmX10 : ∀ a, a < 8 → ∀ b, b < 8 → a ≠ b → (TX10 a).2.1 ≠ (TX10 b).2.1 := by decide +kernel
theorem tyX10_ok : ∀ k, k < 8 → parseFieldDescriptor (TX10 k).2.2.1 = some (tyX10 k) := by decide +kernel
def RX11 : String := "CutInMay"
def TX11 : u_T := fun k => match k with
  | 0 => ("CutInMay", "now", "LCutInMay$World;", true)
  | 1 => ("CutInMay", "kept", "LCutInMay$World;", true)
  | 2 => ("CutInMay", "rooms", "LCutInMay$Rooms;", true)
  | 3 => ("CutInMay", "reader", "LCutInMay$Reader;", true)
  | 4 => ("CutInMay", "course", "LCutInMay$Course;", true)
  | 5 => ("CutInMay", "odds", "LCutInMay$Odds;", true)
  | 6 => ("CutInMay", "serving", "LCutInMay$Serving;", true)
  | 7 => ("CutInMay", "worth", "[I", true)
  | 8 => ("CutInMay", "lead", "[I", true)
  | _ => ("CutInMay", "levelFor", "[I", true)
def tyX11 : Nat → FieldType := fun k => match k with
  | 0 => .object "CutInMay$World"
  | 1 => .object "CutInMay$World"
  | 2 => .object "CutInMay$Rooms"
  | 3 => .object "CutInMay$Reader"
  | 4 => .object "CutInMay$Course"
  | 5 => .object "CutInMay$Odds"
  | 6 => .object "CutInMay$Serving"
  | 7 => .array .int
  | 8 => .array .int
  | _ => .array .int
theorem nmX11 : ∀ a, a < 10 → ∀ b, b < 10 → a ≠ b → (TX11 a).2.1 ≠ (TX11 b).2.1 := by decide +kernel
theorem tyX11_ok : ∀ k, k < 10 → parseFieldDescriptor (TX11 k).2.2.1 = some (tyX11 k) := by decide +kernel
def RX12 : String := "CutInMayModel"
def TX12 : u_T := fun k => match k with
  | 0 => ("CutInMayModel", "a", "[I", true)
  | 1 => ("CutInMayModel", "image", "[I", true)
  | 2 => ("CutInMayModel", "texts", "[I", true)
  | 3 => ("CutInMayModel", "tape", "[I", true)
  | 4 => ("CutInMayModel", "taped", "I", false)
  | 5 => ("CutInMayModel", "fault", "I", false)
  | 6 => ("CutInMayModel", "faultPlace", "I", false)
  | 7 => ("CutInMayModel", "at", "I", false)
  | 8 => ("CutInMayModel", "place", "I", false)
  | 9 => ("CutInMayModel", "token", "I", false)
  | 10 => ("CutInMayModel", "number", "I", false)
  | 11 => ("CutInMayModel", "word", "J", false)
  | 12 => ("CutInMayModel", "text0", "I", false)
  | 13 => ("CutInMayModel", "written", "I", false)
  | 14 => ("CutInMayModel", "sort0", "I", false)
  | 15 => ("CutInMayModel", "pile", "[I", true)
  | 16 => ("CutInMayModel", "counts", "[I", true)
  | 17 => ("CutInMayModel", "piled", "I", false)
  | 18 => ("CutInMayModel", "opens", "I", false)
  | 19 => ("CutInMayModel", "nths", "I", false)
  | 20 => ("CutInMayModel", "isWhole", "Z", false)
  | 21 => ("CutInMayModel", "once", "I", false)
  | 22 => ("CutInMayModel", "named", "[I", true)
  | 23 => ("CutInMayModel", "values", "[J", true)
  | 24 => ("CutInMayModel", "aside", "[I", true)
  | 25 => ("CutInMayModel", "taken", "[Z", true)
  | 26 => ("CutInMayModel", "serves", "[Z", true)
  | 27 => ("CutInMayModel", "brings", "[I", true)
  | 28 => ("CutInMayModel", "server", "[I", true)
  | 29 => ("CutInMayModel", "worths", "[I", true)
  | _ => ("CutInMayModel", "ahead", "[I", true)
def tyX12 : Nat → FieldType := fun k => match k with
  | 0 => .array .int
  | 1 => .array .int
  | 2 => .array .int
  | 3 => .array .int
  | 4 => .int
  | 5 => .int
  | 6 => .int
  | 7 => .int
  | 8 => .int
  | 9 => .int
  | 10 => .int
  | 11 => .long
  | 12 => .int
  | 13 => .int
  | 14 => .int
  | 15 => .array .int
  | 16 => .array .int
  | 17 => .int
  | 18 => .int
  | 19 => .int
  | 20 => .boolean
  | 21 => .int
  | 22 => .array .int
  | 23 => .array .long
  | 24 => .array .int
  | 25 => .array .boolean
  | 26 => .array .boolean
  | 27 => .array .int
  | 28 => .array .int
  | 29 => .array .int
  | _ => .array .int
theorem nmX12 : ∀ a, a < 31 → ∀ b, b < 31 → a ≠ b → (TX12 a).2.1 ≠ (TX12 b).2.1 := by decide +kernel
theorem tyX12_ok : ∀ k, k < 31 → parseFieldDescriptor (TX12 k).2.2.1 = some (tyX12 k) := by decide +kernel
abbrev vwCl : List vw_C := [(RX0, TX0, 11), (RX1, TX1, 2), (RX2, TX2, 5), (RX3, TX3, 18), (RX4, TX4, 6), (RX5, TX5, 8), (RX6, TX6, 3), (RX7, TX7, 5), (RX8, TX8, 3), (RX9, TX9, 15), (RX10, TX10, 8), (RX11, TX11, 10), (RX12, TX12, 31)]
theorem p_iRX0 : ∀ w ∈ u_ws RX0 TX0 11, w ∈ lw_tbl := by decide +kernel
theorem p_iRX1 : ∀ w ∈ u_ws RX1 TX1 2, w ∈ lw_tbl := by decide +kernel
theorem p_iRX2 : ∀ w ∈ u_ws RX2 TX2 5, w ∈ lw_tbl := by decide +kernel
theorem p_iRX3 : ∀ w ∈ u_ws RX3 TX3 18, w ∈ lw_tbl := by decide +kernel
theorem p_iRX4 : ∀ w ∈ u_ws RX4 TX4 6, w ∈ lw_tbl := by decide +kernel
theorem p_iRX5 : ∀ w ∈ u_ws RX5 TX5 8, w ∈ lw_tbl := by decide +kernel
theorem p_iRX6 : ∀ w ∈ u_ws RX6 TX6 3, w ∈ lw_tbl := by decide +kernel
theorem p_iRX7 : ∀ w ∈ u_ws RX7 TX7 5, w ∈ lw_tbl := by decide +kernel
theorem p_iRX8 : ∀ w ∈ u_ws RX8 TX8 3, w ∈ lw_tbl := by decide +kernel
theorem p_iRX9 : ∀ w ∈ u_ws RX9 TX9 15, w ∈ lw_tbl := by decide +kernel
theorem p_iRX10 : ∀ w ∈ u_ws RX10 TX10 8, w ∈ lw_tbl := by decide +kernel
theorem p_iRX11 : ∀ w ∈ u_ws RX11 TX11 10, w ∈ lw_tbl := by decide +kernel
theorem p_iRX12 : ∀ w ∈ u_ws RX12 TX12 31, w ∈ lw_tbl := by decide +kernel
/-- the words that stay good in a callee -/
def p_big : List Cond := lw_tbl.filter goodWord
