def RX0 : String := "RoundMaps$Axis"
def TX0 : u_T := fun k => match k with
  | 0 => ("RoundMaps$Axis", "from", "J", false)
  | 1 => ("RoundMaps$Axis", "width", "J", false)
  | _ => ("RoundMaps$Axis", "n", "I", false)
def tyX0 : Nat → FieldType := fun k => match k with
  | 0 => .long
  | 1 => .long
  | _ => .int
theorem nmX0 : ∀ a, a < 3 → ∀ b, b < 3 → a ≠ b → (TX0 a).2.1 ≠ (TX0 b).2.1 := by decide +kernel
theorem tyX0_ok : ∀ k, k < 3 → parseFieldDescriptor (TX0 k).2.2.1 = some (tyX0 k) := by decide +kernel
def RX1 : String := "RoundMaps$Boxes"
def TX1 : u_T := fun k => match k with
  | 0 => ("RoundMaps$Boxes", "from", "[I", true)
  | 1 => ("RoundMaps$Boxes", "to", "[I", true)
  | 2 => ("RoundMaps$Boxes", "total", "I", false)
  | 3 => ("RoundMaps$Boxes", "cover", "[Z", true)
  | 4 => ("RoundMaps$Boxes", "ends", "[J", false)
  | _ => ("RoundMaps$Boxes", "further", "[J", false)
def tyX1 : Nat → FieldType := fun k => match k with
  | 0 => .array .int
  | 1 => .array .int
  | 2 => .int
  | 3 => .array .boolean
  | 4 => .array .long
  | _ => .array .long
theorem nmX1 : ∀ a, a < 6 → ∀ b, b < 6 → a ≠ b → (TX1 a).2.1 ≠ (TX1 b).2.1 := by decide +kernel
theorem tyX1_ok : ∀ k, k < 6 → parseFieldDescriptor (TX1 k).2.2.1 = some (tyX1 k) := by decide +kernel
def RX2 : String := "RoundMaps$Cells"
def TX2 : u_T := fun k => match k with
  | 0 => ("RoundMaps$Cells", "low", "J", false)
  | _ => ("RoundMaps$Cells", "high", "J", false)
def tyX2 : Nat → FieldType := fun k => match k with
  | 0 => .long
  | _ => .long
theorem nmX2 : ∀ a, a < 2 → ∀ b, b < 2 → a ≠ b → (TX2 a).2.1 ≠ (TX2 b).2.1 := by decide +kernel
theorem tyX2_ok : ∀ k, k < 2 → parseFieldDescriptor (TX2 k).2.2.1 = some (tyX2 k) := by decide +kernel
def RX3 : String := "RoundMaps$Grid"
def TX3 : u_T := fun k => match k with
  | 0 => ("RoundMaps$Grid", "plane", "Z", false)
  | 1 => ("RoundMaps$Grid", "across", "LRoundMaps$Axis;", true)
  | 2 => ("RoundMaps$Grid", "up", "LRoundMaps$Axis;", true)
  | 3 => ("RoundMaps$Grid", "flood", "[I", true)
  | 4 => ("RoundMaps$Grid", "floodTotal", "I", false)
  | 5 => ("RoundMaps$Grid", "sideLeft", "J", false)
  | 6 => ("RoundMaps$Grid", "sideRight", "J", false)
  | 7 => ("RoundMaps$Grid", "sideLow", "J", false)
  | _ => ("RoundMaps$Grid", "sideHigh", "J", false)
def tyX3 : Nat → FieldType := fun k => match k with
  | 0 => .boolean
  | 1 => .object "RoundMaps$Axis"
  | 2 => .object "RoundMaps$Axis"
  | 3 => .array .int
  | 4 => .int
  | 5 => .long
  | 6 => .long
  | 7 => .long
  | _ => .long
theorem nmX3 : ∀ a, a < 9 → ∀ b, b < 9 → a ≠ b → (TX3 a).2.1 ≠ (TX3 b).2.1 := by decide +kernel
theorem tyX3_ok : ∀ k, k < 9 → parseFieldDescriptor (TX3 k).2.2.1 = some (tyX3 k) := by decide +kernel
def RX4 : String := "RoundMaps$MapText"
def TX4 : u_T := fun k => match k with
  | 0 => ("RoundMaps$MapText", "code", "[I", true)
  | _ => ("RoundMaps$MapText", "plane", "Z", true)
def tyX4 : Nat → FieldType := fun k => match k with
  | 0 => .array .int
  | _ => .boolean
theorem nmX4 : ∀ a, a < 2 → ∀ b, b < 2 → a ≠ b → (TX4 a).2.1 ≠ (TX4 b).2.1 := by decide +kernel
theorem tyX4_ok : ∀ k, k < 2 → parseFieldDescriptor (TX4 k).2.2.1 = some (tyX4 k) := by decide +kernel
def RX5 : String := "RoundMaps$Net"
def TX5 : u_T := fun k => match k with
  | 0 => ("RoundMaps$Net", "low", "[J", true)
  | 1 => ("RoundMaps$Net", "high", "[J", true)
  | 2 => ("RoundMaps$Net", "leaving", "LRoundMaps$Cells;", true)
  | _ => ("RoundMaps$Net", "fresh", "Z", false)
def tyX5 : Nat → FieldType := fun k => match k with
  | 0 => .array .long
  | 1 => .array .long
  | 2 => .object "RoundMaps$Cells"
  | _ => .boolean
theorem nmX5 : ∀ a, a < 4 → ∀ b, b < 4 → a ≠ b → (TX5 a).2.1 ≠ (TX5 b).2.1 := by decide +kernel
theorem tyX5_ok : ∀ k, k < 4 → parseFieldDescriptor (TX5 k).2.2.1 = some (tyX5 k) := by decide +kernel
def RX6 : String := "RoundMaps$Reader"
def TX6 : u_T := fun k => match k with
  | 0 => ("RoundMaps$Reader", "signs", "[I", true)
  | 1 => ("RoundMaps$Reader", "length", "I", false)
  | 2 => ("RoundMaps$Reader", "limit", "I", false)
  | 3 => ("RoundMaps$Reader", "place", "I", false)
  | 4 => ("RoundMaps$Reader", "wantsThing", "Z", false)
  | 5 => ("RoundMaps$Reader", "plane", "Z", false)
  | 6 => ("RoundMaps$Reader", "code", "[I", true)
  | 7 => ("RoundMaps$Reader", "codeTotal", "I", false)
  | 8 => ("RoundMaps$Reader", "waiting", "[I", true)
  | _ => ("RoundMaps$Reader", "waitingTotal", "I", false)
def tyX6 : Nat → FieldType := fun k => match k with
  | 0 => .array .int
  | 1 => .int
  | 2 => .int
  | 3 => .int
  | 4 => .boolean
  | 5 => .boolean
  | 6 => .array .int
  | 7 => .int
  | 8 => .array .int
  | _ => .int
theorem nmX6 : ∀ a, a < 10 → ∀ b, b < 10 → a ≠ b → (TX6 a).2.1 ≠ (TX6 b).2.1 := by decide +kernel
theorem tyX6_ok : ∀ k, k < 10 → parseFieldDescriptor (TX6 k).2.2.1 = some (tyX6 k) := by decide +kernel
def RX7 : String := "RoundMaps$Reckoner"
def TX7 : u_T := fun k => match k with
  | 0 => ("RoundMaps$Reckoner", "letterLow", "[J", true)
  | 1 => ("RoundMaps$Reckoner", "letterHigh", "[J", true)
  | 2 => ("RoundMaps$Reckoner", "low", "[J", true)
  | 3 => ("RoundMaps$Reckoner", "high", "[J", true)
  | 4 => ("RoundMaps$Reckoner", "top", "I", false)
  | 5 => ("RoundMaps$Reckoner", "sloping", "Z", false)
  | 6 => ("RoundMaps$Reckoner", "slopeLow", "[J", true)
  | 7 => ("RoundMaps$Reckoner", "slopeHigh", "[J", true)
  | 8 => ("RoundMaps$Reckoner", "slopeless", "[Z", true)
  | 9 => ("RoundMaps$Reckoner", "chosen", "[I", true)
  | 10 => ("RoundMaps$Reckoner", "tests", "I", false)
  | 11 => ("RoundMaps$Reckoner", "undecided", "I", false)
  | 12 => ("RoundMaps$Reckoner", "xLow", "J", false)
  | 13 => ("RoundMaps$Reckoner", "xHigh", "J", false)
  | 14 => ("RoundMaps$Reckoner", "yLow", "J", false)
  | 15 => ("RoundMaps$Reckoner", "yHigh", "J", false)
  | 16 => ("RoundMaps$Reckoner", "roundLow", "J", false)
  | _ => ("RoundMaps$Reckoner", "roundHigh", "J", false)
def tyX7 : Nat → FieldType := fun k => match k with
  | 0 => .array .long
  | 1 => .array .long
  | 2 => .array .long
  | 3 => .array .long
  | 4 => .int
  | 5 => .boolean
  | 6 => .array .long
  | 7 => .array .long
  | 8 => .array .boolean
  | 9 => .array .int
  | 10 => .int
  | 11 => .int
  | 12 => .long
  | 13 => .long
  | 14 => .long
  | 15 => .long
  | 16 => .long
  | _ => .long
theorem nmX7 : ∀ a, a < 18 → ∀ b, b < 18 → a ≠ b → (TX7 a).2.1 ≠ (TX7 b).2.1 := by decide +kernel
theorem tyX7_ok : ∀ k, k < 18 → parseFieldDescriptor (TX7 k).2.2.1 = some (tyX7 k) := by decide +kernel
def RX8 : String := "RoundMaps$Row"
def TX8 : u_T := fun k => match k with
  | 0 => ("RoundMaps$Row", "numbers", "[I", true)
  | _ => ("RoundMaps$Row", "total", "I", false)
def tyX8 : Nat → FieldType := fun k => match k with
  | 0 => .array .int
  | _ => .int
theorem nmX8 : ∀ a, a < 2 → ∀ b, b < 2 → a ≠ b → (TX8 a).2.1 ≠ (TX8 b).2.1 := by decide +kernel
theorem tyX8_ok : ∀ k, k < 2 → parseFieldDescriptor (TX8 k).2.2.1 = some (tyX8 k) := by decide +kernel
def RX9 : String := "RoundMaps$Steering"
def TX9 : u_T := fun k => match k with
  | 0 => ("RoundMaps$Steering", "pushes", "[I", true)
  | 1 => ("RoundMaps$Steering", "pushTotal", "I", false)
  | 2 => ("RoundMaps$Steering", "ready", "Z", false)
  | 3 => ("RoundMaps$Steering", "stepsOf", "[I", true)
  | 4 => ("RoundMaps$Steering", "planOf", "[I", true)
  | _ => ("RoundMaps$Steering", "reached", "LRoundMaps$Cells;", true)
def tyX9 : Nat → FieldType := fun k => match k with
  | 0 => .array .int
  | 1 => .int
  | 2 => .boolean
  | 3 => .array .int
  | 4 => .array .int
  | _ => .object "RoundMaps$Cells"
theorem nmX9 : ∀ a, a < 6 → ∀ b, b < 6 → a ≠ b → (TX9 a).2.1 ≠ (TX9 b).2.1 := by decide +kernel
theorem tyX9_ok : ∀ k, k < 6 → parseFieldDescriptor (TX9 k).2.2.1 = some (tyX9 k) := by decide +kernel
def RX10 : String := "RoundMaps$Ways"
def TX10 : u_T := fun k => match k with
  | 0 => ("RoundMaps$Ways", "all", "LRoundMaps$Net;", true)
  | 1 => ("RoundMaps$Ways", "heapOf", "[I", true)
  | 2 => ("RoundMaps$Ways", "least", "[I", true)
  | 3 => ("RoundMaps$Ways", "heapTotal", "I", false)
  | 4 => ("RoundMaps$Ways", "fresh", "Z", false)
  | 5 => ("RoundMaps$Ways", "power", "LRoundMaps$Net;", false)
  | 6 => ("RoundMaps$Ways", "square", "LRoundMaps$Net;", false)
  | _ => ("RoundMaps$Ways", "room", "LRoundMaps$Net;", false)
def tyX10 : Nat → FieldType := fun k => match k with
  | 0 => .object "RoundMaps$Net"
  | 1 => .array .int
  | 2 => .array .int
  | 3 => .int
  | 4 => .boolean
  | 5 => .object "RoundMaps$Net"
  | 6 => .object "RoundMaps$Net"
  | _ => .object "RoundMaps$Net"
theorem nmX10 : ∀ a, a < 8 → ∀ b, b < 8 → a ≠ b → (TX10 a).2.1 ≠ (TX10 b).2.1 := by decide +kernel
theorem tyX10_ok : ∀ k, k < 8 → parseFieldDescriptor (TX10 k).2.2.1 = some (tyX10 k) := by decide +kernel
def RX11 : String := "RoundMaps"
def TX11 : u_T := fun k => match k with
  | 0 => ("RoundMaps", "reader", "LRoundMaps$Reader;", true)
  | 1 => ("RoundMaps", "maps", "[LRoundMaps$MapText;", true)
  | 2 => ("RoundMaps", "mapTotal", "I", false)
  | 3 => ("RoundMaps", "used", "I", false)
  | 4 => ("RoundMaps", "reckoner", "LRoundMaps$Reckoner;", true)
  | 5 => ("RoundMaps", "driven", "[I", true)
  | 6 => ("RoundMaps", "drivenTotal", "I", false)
  | 7 => ("RoundMaps", "told", "LRoundMaps$Row;", true)
  | 8 => ("RoundMaps", "ground", "LRoundMaps$Grid;", true)
  | 9 => ("RoundMaps", "fineness", "I", false)
  | 10 => ("RoundMaps", "nets", "[LRoundMaps$Net;", true)
  | 11 => ("RoundMaps", "ways", "LRoundMaps$Ways;", true)
  | 12 => ("RoundMaps", "sets", "[LRoundMaps$Cells;", true)
  | 13 => ("RoundMaps", "work", "LRoundMaps$Cells;", true)
  | 14 => ("RoundMaps", "spare", "LRoundMaps$Cells;", true)
  | 15 => ("RoundMaps", "boxes", "LRoundMaps$Boxes;", true)
  | 16 => ("RoundMaps", "steering", "LRoundMaps$Steering;", true)
  | 17 => ("RoundMaps", "sights", "[I", true)
  | 18 => ("RoundMaps", "seen", "[I", true)
  | _ => ("RoundMaps", "seenTotal", "I", false)
def tyX11 : Nat → FieldType := fun k => match k with
  | 0 => .object "RoundMaps$Reader"
  | 1 => .array (.object "RoundMaps$MapText")
  | 2 => .int
  | 3 => .int
  | 4 => .object "RoundMaps$Reckoner"
  | 5 => .array .int
  | 6 => .int
  | 7 => .object "RoundMaps$Row"
  | 8 => .object "RoundMaps$Grid"
  | 9 => .int
  | 10 => .array (.object "RoundMaps$Net")
  | 11 => .object "RoundMaps$Ways"
  | 12 => .array (.object "RoundMaps$Cells")
  | 13 => .object "RoundMaps$Cells"
  | 14 => .object "RoundMaps$Cells"
  | 15 => .object "RoundMaps$Boxes"
  | 16 => .object "RoundMaps$Steering"
  | 17 => .array .int
  | 18 => .array .int
  | _ => .int
theorem nmX11 : ∀ a, a < 20 → ∀ b, b < 20 → a ≠ b → (TX11 a).2.1 ≠ (TX11 b).2.1 := by decide +kernel
theorem tyX11_ok : ∀ k, k < 20 → parseFieldDescriptor (TX11 k).2.2.1 = some (tyX11 k) := by decide +kernel
def RX12 : String := "RoundMapsModel"
def TX12 : u_T := fun k => match k with
  | 0 => ("RoundMapsModel", "thrown", "I", false)
  | 1 => ("RoundMapsModel", "tape", "[I", true)
  | 2 => ("RoundMapsModel", "taped", "I", false)
  | 3 => ("RoundMapsModel", "at", "I", false)
  | 4 => ("RoundMapsModel", "end", "I", false)
  | 5 => ("RoundMapsModel", "maps", "I", false)
  | 6 => ("RoundMapsModel", "used", "I", false)
  | 7 => ("RoundMapsModel", "into", "I", false)
  | 8 => ("RoundMapsModel", "nodes", "[I", true)
  | 9 => ("RoundMapsModel", "kind", "[I", true)
  | 10 => ("RoundMapsModel", "first", "[I", true)
  | 11 => ("RoundMapsModel", "second", "[I", true)
  | 12 => ("RoundMapsModel", "third", "[I", true)
  | 13 => ("RoundMapsModel", "fourth", "[I", true)
  | 14 => ("RoundMapsModel", "rootX", "[I", true)
  | 15 => ("RoundMapsModel", "rootY", "[I", true)
  | 16 => ("RoundMapsModel", "letterLo", "[J", true)
  | 17 => ("RoundMapsModel", "letterHi", "[J", true)
  | 18 => ("RoundMapsModel", "pushes", "I", false)
  | 19 => ("RoundMapsModel", "push", "[I", true)
  | 20 => ("RoundMapsModel", "driven", "I", false)
  | 21 => ("RoundMapsModel", "drive", "[I", true)
  | 22 => ("RoundMapsModel", "lo", "[J", true)
  | 23 => ("RoundMapsModel", "hi", "[J", true)
  | 24 => ("RoundMapsModel", "slopeLo", "[J", true)
  | 25 => ("RoundMapsModel", "slopeHi", "[J", true)
  | 26 => ("RoundMapsModel", "hasSlope", "[Z", true)
  | 27 => ("RoundMapsModel", "undecided", "I", false)
  | 28 => ("RoundMapsModel", "gotLo", "J", false)
  | 29 => ("RoundMapsModel", "gotHi", "J", false)
  | 30 => ("RoundMapsModel", "imageXLo", "J", false)
  | 31 => ("RoundMapsModel", "imageXHi", "J", false)
  | 32 => ("RoundMapsModel", "imageYLo", "J", false)
  | 33 => ("RoundMapsModel", "imageYHi", "J", false)
  | 34 => ("RoundMapsModel", "rows", "I", false)
  | 35 => ("RoundMapsModel", "row", "[I", true)
  | 36 => ("RoundMapsModel", "gridPlane", "Z", false)
  | 37 => ("RoundMapsModel", "x0", "I", false)
  | 38 => ("RoundMapsModel", "x1", "I", false)
  | 39 => ("RoundMapsModel", "w", "I", false)
  | 40 => ("RoundMapsModel", "y0", "I", false)
  | 41 => ("RoundMapsModel", "y1", "I", false)
  | 42 => ("RoundMapsModel", "h", "I", false)
  | 43 => ("RoundMapsModel", "fine", "I", false)
  | 44 => ("RoundMapsModel", "arrow", "[Z", true)
  | 45 => ("RoundMapsModel", "leaves", "[Z", true)
  | 46 => ("RoundMapsModel", "way", "[Z", true)
  | 47 => ("RoundMapsModel", "set", "[Z", true)
  | 48 => ("RoundMapsModel", "made", "[Z", true)
  | 49 => ("RoundMapsModel", "heapOf", "[I", true)
  | 50 => ("RoundMapsModel", "leastOf", "[I", true)
  | 51 => ("RoundMapsModel", "goneLo", "J", false)
  | 52 => ("RoundMapsModel", "goneHi", "J", false)
  | 53 => ("RoundMapsModel", "goneSlopeLo", "J", false)
  | 54 => ("RoundMapsModel", "goneSlopeHi", "J", false)
  | 55 => ("RoundMapsModel", "goneSlope", "Z", false)
  | 56 => ("RoundMapsModel", "now", "[Z", true)
  | 57 => ("RoundMapsModel", "lastQuarter", "I", false)
  | 58 => ("RoundMapsModel", "firstQuarter", "I", false)
  | 59 => ("RoundMapsModel", "quarters", "I", false)
  | 60 => ("RoundMapsModel", "isOpen", "Z", false)
  | 61 => ("RoundMapsModel", "boxes", "I", false)
  | 62 => ("RoundMapsModel", "boxFrom", "[I", true)
  | 63 => ("RoundMapsModel", "boxTo", "[I", true)
  | 64 => ("RoundMapsModel", "cover", "[Z", true)
  | 65 => ("RoundMapsModel", "counted", "[J", true)
  | 66 => ("RoundMapsModel", "then", "[J", true)
  | 67 => ("RoundMapsModel", "stepsOf", "[I", true)
  | 68 => ("RoundMapsModel", "planOf", "[I", true)
  | 69 => ("RoundMapsModel", "sure", "[Z", true)
  | 70 => ("RoundMapsModel", "sight", "[I", true)
  | 71 => ("RoundMapsModel", "seen", "I", false)
  | 72 => ("RoundMapsModel", "see", "[I", true)
  | _ => ("RoundMapsModel", "home", "[I", true)
def tyX12 : Nat → FieldType := fun k => match k with
  | 0 => .int
  | 1 => .array .int
  | 2 => .int
  | 3 => .int
  | 4 => .int
  | 5 => .int
  | 6 => .int
  | 7 => .int
  | 8 => .array .int
  | 9 => .array .int
  | 10 => .array .int
  | 11 => .array .int
  | 12 => .array .int
  | 13 => .array .int
  | 14 => .array .int
  | 15 => .array .int
  | 16 => .array .long
  | 17 => .array .long
  | 18 => .int
  | 19 => .array .int
  | 20 => .int
  | 21 => .array .int
  | 22 => .array .long
  | 23 => .array .long
  | 24 => .array .long
  | 25 => .array .long
  | 26 => .array .boolean
  | 27 => .int
  | 28 => .long
  | 29 => .long
  | 30 => .long
  | 31 => .long
  | 32 => .long
  | 33 => .long
  | 34 => .int
  | 35 => .array .int
  | 36 => .boolean
  | 37 => .int
  | 38 => .int
  | 39 => .int
  | 40 => .int
  | 41 => .int
  | 42 => .int
  | 43 => .int
  | 44 => .array .boolean
  | 45 => .array .boolean
  | 46 => .array .boolean
  | 47 => .array .boolean
  | 48 => .array .boolean
  | 49 => .array .int
  | 50 => .array .int
  | 51 => .long
  | 52 => .long
  | 53 => .long
  | 54 => .long
  | 55 => .boolean
  | 56 => .array .boolean
  | 57 => .int
  | 58 => .int
  | 59 => .int
  | 60 => .boolean
  | 61 => .int
  | 62 => .array .int
  | 63 => .array .int
  | 64 => .array .boolean
  | 65 => .array .long
  | 66 => .array .long
  | 67 => .array .int
  | 68 => .array .int
  | 69 => .array .boolean
  | 70 => .array .int
  | 71 => .int
  | 72 => .array .int
  | _ => .array .int
theorem nmX12 : ∀ a, a < 74 → ∀ b, b < 74 → a ≠ b → (TX12 a).2.1 ≠ (TX12 b).2.1 := by decide +kernel
theorem tyX12_ok : ∀ k, k < 74 → parseFieldDescriptor (TX12 k).2.2.1 = some (tyX12 k) := by decide +kernel
def TX13 : u_T := fun _ => ("java/util/NoSuchElementException", "", "", false)
def TX14 : u_T := fun k => match k with
  | 0 => ("java/lang/String", "value", "[B", true)
  | _ => ("java/lang/String", "coder", "B", true)
def CL : List vw_C := [(RX0, TX0, 3), (RX1, TX1, 6), (RX2, TX2, 2), (RX3, TX3, 9), (RX4, TX4, 2), (RX5, TX5, 4), (RX6, TX6, 10), (RX7, TX7, 18), (RX8, TX8, 2), (RX9, TX9, 6), (RX10, TX10, 8), (RX11, TX11, 20), (RX12, TX12, 74), ("java/util/NoSuchElementException", TX13, 0), ("java/lang/String", TX14, 2)]
def DFT : List (List Value) := [[.long 0, .long 0, .int 0], [.null, .null, .int 0, .null, .null, .null], [.long 0, .long 0], [.int 0, .null, .null, .null, .int 0, .long 0, .long 0, .long 0, .long 0], [.null, .int 0], [.null, .null, .null, .int 0], [.null, .int 0, .int 0, .int 0, .int 0, .int 0, .null, .int 0, .null, .int 0], [.null, .null, .null, .null, .int 0, .int 0, .null, .null, .null, .null, .int 0, .int 0, .long 0, .long 0, .long 0, .long 0, .long 0, .long 0], [.null, .int 0], [.null, .int 0, .int 0, .null, .null, .null], [.null, .null, .null, .int 0, .int 0, .null, .null, .null], [.null, .null, .int 0, .int 0, .null, .null, .int 0, .null, .null, .int 0, .null, .null, .null, .null, .null, .null, .null, .null, .null, .int 0], [.int 0, .null, .int 0, .int 0, .int 0, .int 0, .int 0, .int 0, .null, .null, .null, .null, .null, .null, .null, .null, .null, .null, .int 0, .null, .int 0, .null, .null, .null, .null, .null, .null, .int 0, .long 0, .long 0, .long 0, .long 0, .long 0, .long 0, .int 0, .null, .int 0, .int 0, .int 0, .int 0, .int 0, .int 0, .int 0, .int 0, .null, .null, .null, .null, .null, .null, .null, .long 0, .long 0, .long 0, .long 0, .int 0, .null, .int 0, .int 0, .int 0, .int 0, .int 0, .null, .null, .null, .null, .null, .null, .null, .null, .null, .int 0, .null, .null]]
def OW : List String := ["RoundMaps$Axis", "RoundMaps$Boxes", "RoundMaps$Cells", "RoundMaps$Grid", "RoundMaps$MapText", "RoundMaps$Net", "RoundMaps$Reader", "RoundMaps$Reckoner", "RoundMaps$Row", "RoundMaps$Steering", "RoundMaps$Ways", "RoundMaps", "RoundMapsModel", "RoundMapsLaw", "java/lang/Math", "java/lang/Long", "java/util/Arrays", "java/lang/String", "java/lang/StringLatin1"]
def objInitN : MethodName := ⟨"java/lang/Object", "<init>", "()V"⟩
abbrev MR : Type := Nat × MethodName × ByteArray × Nat × Option FieldType × Nat × Bool × Nat × Nat × Nat × Nat
def MT0 : List MR := [(0, ⟨"RoundMaps$Axis", "<init>", "()V"⟩, prog_2_method_1_code, 1, none, 1, false, 343, 342, 0, 171),
  (0, ⟨"RoundMaps$Axis", "lay", "(III)V"⟩, prog_2_method_2_code, 4, none, 4, false, 361, 360, 0, 171),
  (0, ⟨"RoundMaps$Axis", "lowOf", "(I)J"⟩, prog_2_method_3_code, 2, (some FieldType.long), 2, false, 1040, 1039, 53, 171),
  (0, ⟨"RoundMaps$Axis", "highOf", "(I)J"⟩, prog_2_method_4_code, 2, (some FieldType.long), 2, false, 1290, 1289, 89, 171),
  (0, ⟨"RoundMaps$Axis", "spans", "(JJ)Z"⟩, prog_2_method_5_code, 5, (some FieldType.boolean), 3, false, 1054, 1053, 56, 171),
  (0, ⟨"RoundMaps$Axis", "firstTo", "(J)J"⟩, prog_2_method_6_code, 3, (some FieldType.long), 2, false, 1069, 1068, 59, 171),
  (0, ⟨"RoundMaps$Axis", "lastTo", "(J)J"⟩, prog_2_method_7_code, 3, (some FieldType.long), 2, false, 1063, 1062, 58, 171),
  (1, ⟨"RoundMaps$Boxes", "<init>", "()V"⟩, prog_3_method_1_code, 1, none, 1, false, 481, 480, 0, 175),
  (1, ⟨"RoundMaps$Boxes", "isBox", "(I)Z"⟩, prog_3_method_2_code, 2, (some FieldType.boolean), 2, false, 1371, 1370, 102, 175),
  (1, ⟨"RoundMaps$Boxes", "add", "(II)I"⟩, prog_3_method_3_code, 3, (some FieldType.int), 3, false, 1363, 1362, 101, 175),
  (1, ⟨"RoundMaps$Boxes", "covering", "(II)Z"⟩, prog_3_method_4_code, 3, (some FieldType.boolean), 3, false, 1382, 1381, 104, 175),
  (1, ⟨"RoundMaps$Boxes", "workOut", "(LRoundMaps$MapText;LRoundMaps$Axis;LRoundMaps$Reckoner;)V"⟩, prog_3_method_5_code, 21, none, 4, false, 1375, 1374, 103, 175),
  (1, ⟨"RoundMaps$Boxes", "wordsFrom", "(IIZ)J"⟩, prog_3_method_6_code, 7, (some FieldType.long), 4, false, 1392, 1391, 105, 175),
  (2, ⟨"RoundMaps$Cells", "<init>", "()V"⟩, prog_4_method_1_code, 1, none, 1, false, 418, 417, 0, 174),
  (2, ⟨"RoundMaps$Cells", "holds", "(I)Z"⟩, prog_4_method_2_code, 2, (some FieldType.boolean), 2, false, 1107, 1106, 65, 174),
  (2, ⟨"RoundMaps$Cells", "set", "(IZ)V"⟩, prog_4_method_3_code, 5, none, 3, false, 1058, 1057, 57, 174),
  (2, ⟨"RoundMaps$Cells", "size", "()I"⟩, prog_4_method_4_code, 1, (some FieldType.int), 1, false, 1112, 1111, 66, 174),
  (2, ⟨"RoundMaps$Cells", "clear", "()V"⟩, prog_4_method_5_code, 1, none, 1, false, 996, 995, 46, 174),
  (2, ⟨"RoundMaps$Cells", "fill", "(I)V"⟩, prog_4_method_6_code, 3, none, 2, false, 1170, 1169, 74, 174),
  (2, ⟨"RoundMaps$Cells", "copy", "(LRoundMaps$Cells;)V"⟩, prog_4_method_7_code, 2, none, 2, false, 1154, 1153, 70, 174),
  (2, ⟨"RoundMaps$Cells", "retain", "(LRoundMaps$Cells;)V"⟩, prog_4_method_8_code, 2, none, 2, false, 1158, 1157, 71, 174),
  (2, ⟨"RoundMaps$Cells", "include", "(LRoundMaps$Cells;)V"⟩, prog_4_method_9_code, 2, none, 2, false, 1162, 1161, 72, 174),
  (2, ⟨"RoundMaps$Cells", "drop", "(LRoundMaps$Cells;)V"⟩, prog_4_method_10_code, 2, none, 2, false, 1166, 1165, 73, 174),
  (3, ⟨"RoundMaps$Grid", "<init>", "()V"⟩, prog_5_method_1_code, 1, none, 1, false, 337, 336, 0, 170),
  (3, ⟨"RoundMaps$Grid", "size", "()I"⟩, prog_5_method_2_code, 1, (some FieldType.int), 1, false, 866, 865, 27, 170),
  (3, ⟨"RoundMaps$Grid", "columnOf", "(I)I"⟩, prog_5_method_3_code, 2, (some FieldType.int), 2, false, 1036, 1035, 52, 170),
  (3, ⟨"RoundMaps$Grid", "lineOf", "(I)I"⟩, prog_5_method_4_code, 2, (some FieldType.int), 2, false, 1044, 1043, 54, 170),
  (3, ⟨"RoundMaps$Grid", "cellAt", "(II)I"⟩, prog_5_method_5_code, 3, (some FieldType.int), 3, false, 1135, 1134, 68, 170),
  (3, ⟨"RoundMaps$Grid", "isRectangle", "(II)Z"⟩, prog_5_method_6_code, 3, (some FieldType.boolean), 3, false, 1331, 1330, 95, 170),
  (3, ⟨"RoundMaps$Grid", "rimOf", "(II)I"⟩, prog_5_method_7_code, 3, (some FieldType.int), 3, false, 1337, 1336, 96, 170),
  (3, ⟨"RoundMaps$Grid", "goRound", "(III)V"⟩, prog_5_method_8_code, 10, none, 4, false, 1345, 1344, 98, 170),
  (3, ⟨"RoundMaps$Grid", "layFlat", "(IJ)V"⟩, prog_5_method_9_code, 4, none, 3, false, 1350, 1349, 99, 170),
  (3, ⟨"RoundMaps$Grid", "layUpright", "(IJ)V"⟩, prog_5_method_10_code, 4, none, 3, false, 1355, 1354, 100, 170),
  (3, ⟨"RoundMaps$Grid", "partsOf", "(LRoundMaps$Cells;Z)I"⟩, prog_5_method_11_code, 6, (some FieldType.int), 3, false, 1462, 1461, 111, 170),
  (3, ⟨"RoundMaps$Grid", "floodFrom", "(ILRoundMaps$Cells;Z)Z"⟩, prog_5_method_12_code, 10, (some FieldType.boolean), 4, false, 1468, 1467, 112, 170),
  (3, ⟨"RoundMaps$Grid", "floodTo", "(ILRoundMaps$Cells;)V"⟩, prog_5_method_13_code, 3, none, 3, false, 1472, 1471, 113, 170),
  (4, ⟨"RoundMaps$MapText", "<init>", "([IZ)V"⟩, prog_6_method_1_code, 3, none, 3, false, 806, 805, 0, 184),
  (5, ⟨"RoundMaps$Net", "<init>", "()V"⟩, prog_7_method_1_code, 1, none, 1, false, 412, 411, 0, 173),
  (5, ⟨"RoundMaps$Net", "build", "(LRoundMaps$Grid;ILRoundMaps$MapText;LRoundMaps$Reckoner;)V"⟩, prog_7_method_2_code, 6, none, 5, false, 1019, 1018, 49, 173),
  (5, ⟨"RoundMaps$Net", "clear", "()V"⟩, prog_7_method_3_code, 1, none, 1, false, 1023, 1022, 50, 173)]
def MT1 : List MR := [(5, ⟨"RoundMaps$Net", "lead", "(ILRoundMaps$Grid;ILRoundMaps$MapText;LRoundMaps$Reckoner;)V"⟩, prog_7_method_4_code, 18, none, 6, false, 1032, 1031, 51, 173),
  (5, ⟨"RoundMaps$Net", "mark", "(ILRoundMaps$Grid;LRoundMaps$Reckoner;)V"⟩, prog_7_method_5_code, 12, none, 4, false, 1050, 1049, 55, 173),
  (5, ⟨"RoundMaps$Net", "isPlace", "(I)Z"⟩, prog_7_method_6_code, 1, (some FieldType.boolean), 1, true, 1076, 1075, 0, 173),
  (5, ⟨"RoundMaps$Net", "link", "(II)V"⟩, prog_7_method_7_code, 3, none, 3, false, 1073, 1072, 60, 173),
  (5, ⟨"RoundMaps$Net", "links", "(II)Z"⟩, prog_7_method_8_code, 3, (some FieldType.boolean), 3, false, 1231, 1230, 83, 173),
  (5, ⟨"RoundMaps$Net", "total", "(I)I"⟩, prog_7_method_9_code, 4, (some FieldType.int), 2, false, 1080, 1079, 61, 173),
  (5, ⟨"RoundMaps$Net", "goesInto", "(ILRoundMaps$Cells;)Z"⟩, prog_7_method_10_code, 3, (some FieldType.boolean), 3, false, 1122, 1121, 67, 173),
  (5, ⟨"RoundMaps$Net", "surely", "(ILRoundMaps$Cells;)Z"⟩, prog_7_method_11_code, 3, (some FieldType.boolean), 3, false, 1213, 1212, 79, 173),
  (5, ⟨"RoundMaps$Net", "addTargets", "(ILRoundMaps$Cells;)V"⟩, prog_7_method_12_code, 3, none, 3, false, 1098, 1097, 63, 173),
  (5, ⟨"RoundMaps$Net", "addTargetsOf", "(LRoundMaps$Cells;LRoundMaps$Cells;I)V"⟩, prog_7_method_13_code, 5, none, 4, false, 1197, 1196, 77, 173),
  (5, ⟨"RoundMaps$Net", "shrinkToCore", "(LRoundMaps$Cells;LRoundMaps$Cells;I)V"⟩, prog_7_method_14_code, 7, none, 4, false, 1192, 1191, 76, 173),
  (5, ⟨"RoundMaps$Net", "growSurely", "(LRoundMaps$Cells;I)V"⟩, prog_7_method_15_code, 6, none, 3, false, 1209, 1208, 78, 173),
  (5, ⟨"RoundMaps$Net", "copy", "(LRoundMaps$Net;)V"⟩, prog_7_method_16_code, 2, none, 2, false, 1222, 1221, 81, 173),
  (5, ⟨"RoundMaps$Net", "follow", "(LRoundMaps$Net;LRoundMaps$Net;I)V"⟩, prog_7_method_17_code, 6, none, 4, false, 1321, 1320, 94, 173),
  (5, ⟨"RoundMaps$Net", "close", "(I)V"⟩, prog_7_method_18_code, 4, none, 2, false, 1227, 1226, 82, 173),
  (6, ⟨"RoundMaps$Reader", "<init>", "()V"⟩, prog_8_method_1_code, 1, none, 1, false, 204, 203, 0, 167),
  (6, ⟨"RoundMaps$Reader", "write", "(I)I"⟩, prog_8_method_2_code, 3, (some FieldType.int), 2, false, 604, 603, 1, 167),
  (6, ⟨"RoundMaps$Reader", "shorten", "(I)Z"⟩, prog_8_method_3_code, 2, (some FieldType.boolean), 2, false, 612, 611, 2, 167),
  (6, ⟨"RoundMaps$Reader", "text", "()LRoundMaps$MapText;"⟩, prog_8_method_4_code, 1, (some (FieldType.object "RoundMaps$MapText")), 1, false, 787, 786, 22, 167),
  (6, ⟨"RoundMaps$Reader", "firstWrong", "()I"⟩, prog_8_method_5_code, 3, (some FieldType.int), 1, false, 620, 619, 3, 167),
  (6, ⟨"RoundMaps$Reader", "beginThing", "(I)Z"⟩, prog_8_method_6_code, 4, (some FieldType.boolean), 2, false, 627, 626, 4, 167),
  (6, ⟨"RoundMaps$Reader", "goOn", "(I)Z"⟩, prog_8_method_7_code, 3, (some FieldType.boolean), 2, false, 743, 742, 11, 167),
  (6, ⟨"RoundMaps$Reader", "readDivisor", "()Z"⟩, prog_8_method_8_code, 1, (some FieldType.boolean), 1, false, 747, 746, 12, 167),
  (6, ⟨"RoundMaps$Reader", "takeMark", "(I)Z"⟩, prog_8_method_9_code, 2, (some FieldType.boolean), 2, false, 751, 750, 13, 167),
  (6, ⟨"RoundMaps$Reader", "beginTest", "()Z"⟩, prog_8_method_10_code, 1, (some FieldType.boolean), 1, false, 759, 758, 15, 167),
  (6, ⟨"RoundMaps$Reader", "beginChosen", "()Z"⟩, prog_8_method_11_code, 1, (some FieldType.boolean), 1, false, 763, 762, 16, 167),
  (6, ⟨"RoundMaps$Reader", "beginOther", "()Z"⟩, prog_8_method_12_code, 2, (some FieldType.boolean), 1, false, 767, 766, 17, 167),
  (6, ⟨"RoundMaps$Reader", "closeBracket", "()Z"⟩, prog_8_method_13_code, 1, (some FieldType.boolean), 1, false, 779, 778, 20, 167),
  (6, ⟨"RoundMaps$Reader", "beginSecond", "()Z"⟩, prog_8_method_14_code, 1, (some FieldType.boolean), 1, false, 783, 782, 21, 167),
  (6, ⟨"RoundMaps$Reader", "endThing", "()V"⟩, prog_8_method_15_code, 2, none, 1, false, 646, 645, 8, 167),
  (6, ⟨"RoundMaps$Reader", "endSum", "()V"⟩, prog_8_method_16_code, 2, none, 1, false, 755, 754, 14, 167),
  (6, ⟨"RoundMaps$Reader", "endFormula", "()V"⟩, prog_8_method_17_code, 3, none, 1, false, 771, 770, 18, 167),
  (6, ⟨"RoundMaps$Reader", "isDigit", "(I)Z"⟩, prog_8_method_18_code, 1, (some FieldType.boolean), 1, true, 634, 633, 0, 167),
  (6, ⟨"RoundMaps$Reader", "digits", "(I)I"⟩, prog_8_method_19_code, 4, (some FieldType.int), 2, false, 638, 637, 6, 167),
  (6, ⟨"RoundMaps$Reader", "emit", "(II)V"⟩, prog_8_method_20_code, 3, none, 3, false, 642, 641, 7, 167),
  (6, ⟨"RoundMaps$Reader", "pointToHere", "(I)V"⟩, prog_8_method_21_code, 2, none, 2, false, 775, 774, 19, 167),
  (6, ⟨"RoundMaps$Reader", "await", "(II)V"⟩, prog_8_method_22_code, 3, none, 3, false, 631, 630, 5, 167),
  (6, ⟨"RoundMaps$Reader", "lastWaiting", "()I"⟩, prog_8_method_23_code, 1, (some FieldType.int), 1, false, 650, 649, 9, 167),
  (6, ⟨"RoundMaps$Reader", "takeWaiting", "()I"⟩, prog_8_method_24_code, 1, (some FieldType.int), 1, false, 654, 653, 10, 167),
  (7, ⟨"RoundMaps$Reckoner", "<init>", "()V"⟩, prog_9_method_1_code, 1, none, 1, false, 245, 244, 0, 168)]
def MT2 : List MR := [(7, ⟨"RoundMaps$Reckoner", "tell", "(IJJ)V"⟩, prog_9_method_2_code, 6, none, 4, false, 842, 841, 24, 168),
  (7, ⟨"RoundMaps$Reckoner", "lettersAreNumbers", "()Z"⟩, prog_9_method_3_code, 1, (some FieldType.boolean), 1, false, 1298, 1297, 91, 168),
  (7, ⟨"RoundMaps$Reckoner", "begin", "(JJJJ)V"⟩, prog_9_method_4_code, 9, none, 5, false, 944, 943, 40, 168),
  (7, ⟨"RoundMaps$Reckoner", "image", "(LRoundMaps$MapText;JJJJ)I"⟩, prog_9_method_5_code, 15, (some FieldType.int), 6, false, 874, 873, 28, 168),
  (7, ⟨"RoundMaps$Reckoner", "hullOfParts", "(LRoundMaps$MapText;IJJJJ)V"⟩, prog_9_method_6_code, 23, none, 7, false, 964, 963, 44, 168),
  (7, ⟨"RoundMaps$Reckoner", "roundImage", "(LRoundMaps$MapText;JJI)I"⟩, prog_9_method_7_code, 9, (some FieldType.int), 5, false, 1294, 1293, 90, 168),
  (7, ⟨"RoundMaps$Reckoner", "sideOf", "(LRoundMaps$MapText;JI)I"⟩, prog_9_method_8_code, 5, (some FieldType.int), 4, false, 1302, 1301, 92, 168),
  (7, ⟨"RoundMaps$Reckoner", "roundSlope", "(LRoundMaps$MapText;JJI)Z"⟩, prog_9_method_9_code, 15, (some FieldType.boolean), 5, false, 979, 978, 45, 168),
  (7, ⟨"RoundMaps$Reckoner", "load", "(JJJ)V"⟩, prog_9_method_10_code, 7, none, 4, false, 879, 878, 29, 168),
  (7, ⟨"RoundMaps$Reckoner", "loadLetter", "(I)V"⟩, prog_9_method_11_code, 2, none, 2, false, 883, 882, 30, 168),
  (7, ⟨"RoundMaps$Reckoner", "negate", "()V"⟩, prog_9_method_12_code, 6, none, 1, false, 888, 887, 31, 168),
  (7, ⟨"RoundMaps$Reckoner", "makeAbsolute", "()V"⟩, prog_9_method_13_code, 2, none, 1, false, 892, 891, 32, 168),
  (7, ⟨"RoundMaps$Reckoner", "add", "()V"⟩, prog_9_method_14_code, 2, none, 1, false, 928, 927, 36, 168),
  (7, ⟨"RoundMaps$Reckoner", "multiply", "()V"⟩, prog_9_method_15_code, 4, none, 1, false, 920, 919, 34, 168),
  (7, ⟨"RoundMaps$Reckoner", "multiplySlopes", "()V"⟩, prog_9_method_16_code, 11, none, 1, false, 899, 898, 33, 168),
  (7, ⟨"RoundMaps$Reckoner", "divide", "(I)V"⟩, prog_9_method_17_code, 3, none, 2, false, 924, 923, 35, 168),
  (7, ⟨"RoundMaps$Reckoner", "productLow", "(JJJJ)J"⟩, prog_9_method_18_code, 10, (some FieldType.long), 4, true, 902, 901, 0, 168),
  (7, ⟨"RoundMaps$Reckoner", "productHigh", "(JJJJ)J"⟩, prog_9_method_19_code, 10, (some FieldType.long), 4, true, 916, 915, 0, 168),
  (7, ⟨"RoundMaps$Reckoner", "choose", "(II)I"⟩, prog_9_method_20_code, 4, (some FieldType.int), 3, false, 932, 931, 37, 168),
  (7, ⟨"RoundMaps$Reckoner", "turn", "(II)I"⟩, prog_9_method_21_code, 3, (some FieldType.int), 3, false, 936, 935, 38, 168),
  (7, ⟨"RoundMaps$Reckoner", "meet", "()V"⟩, prog_9_method_22_code, 1, none, 1, false, 940, 939, 39, 168),
  (8, ⟨"RoundMaps$Row", "<init>", "()V"⟩, prog_10_method_1_code, 1, none, 1, false, 322, 321, 0, 169),
  (8, ⟨"RoundMaps$Row", "clear", "()V"⟩, prog_10_method_2_code, 1, none, 1, false, 952, 951, 42, 169),
  (8, ⟨"RoundMaps$Row", "add", "(I)V"⟩, prog_10_method_3_code, 2, none, 2, false, 956, 955, 43, 169),
  (8, ⟨"RoundMaps$Row", "isTold", "(I)Z"⟩, prog_10_method_4_code, 2, (some FieldType.boolean), 2, false, 1486, 1485, 114, 169),
  (8, ⟨"RoundMaps$Row", "list", "(LRoundMaps$Cells;II)I"⟩, prog_10_method_5_code, 5, (some FieldType.int), 4, false, 1102, 1101, 64, 169),
  (9, ⟨"RoundMaps$Steering", "<init>", "()V"⟩, prog_11_method_1_code, 1, none, 1, false, 507, 506, 0, 176),
  (9, ⟨"RoundMaps$Steering", "addPush", "(I)I"⟩, prog_11_method_2_code, 2, (some FieldType.int), 2, false, 850, 849, 25, 176),
  (9, ⟨"RoundMaps$Steering", "forget", "()V"⟩, prog_11_method_3_code, 1, none, 1, false, 1003, 1002, 47, 176),
  (9, ⟨"RoundMaps$Steering", "leastPush", "([LRoundMaps$Net;ILRoundMaps$Cells;)I"⟩, prog_11_method_4_code, 5, (some FieldType.int), 4, false, 1416, 1415, 108, 176),
  (9, ⟨"RoundMaps$Steering", "work", "([LRoundMaps$Net;LRoundMaps$Cells;II)V"⟩, prog_11_method_5_code, 9, none, 5, false, 1409, 1408, 107, 176),
  (9, ⟨"RoundMaps$Steering", "shrinkToSafe", "([LRoundMaps$Net;LRoundMaps$Cells;I)V"⟩, prog_11_method_6_code, 7, none, 4, false, 1434, 1433, 109, 176),
  (10, ⟨"RoundMaps$Ways", "<init>", "()V"⟩, prog_12_method_1_code, 1, none, 1, false, 406, 405, 0, 172),
  (10, ⟨"RoundMaps$Ways", "renew", "(LRoundMaps$Net;I)V"⟩, prog_12_method_2_code, 4, none, 3, false, 1218, 1217, 80, 172),
  (10, ⟨"RoundMaps$Ways", "gather", "(II)V"⟩, prog_12_method_3_code, 4, none, 3, false, 1237, 1236, 84, 172),
  (10, ⟨"RoundMaps$Ways", "isHeap", "(I)Z"⟩, prog_12_method_4_code, 2, (some FieldType.boolean), 2, false, 1259, 1258, 85, 172),
  (10, ⟨"RoundMaps$Ways", "returning", "(LRoundMaps$Net;IILRoundMaps$Cells;)V"⟩, prog_12_method_5_code, 8, none, 5, false, 1317, 1316, 93, 172),
  (11, ⟨"RoundMaps", "<init>", "()V"⟩, prog_1_method_1_code, 2, none, 1, false, 196, 195, 0, 166),
  (11, ⟨"RoundMaps", "sign", "(I)I"⟩, prog_1_method_2_code, 2, (some FieldType.int), 2, false, 600, 598, 599, 166),
  (11, ⟨"RoundMaps", "end", "(I)Z"⟩, prog_1_method_3_code, 2, (some FieldType.boolean), 2, false, 608, 606, 607, 166)]
def MT3 : List MR := [(11, ⟨"RoundMaps", "map", "()I"⟩, prog_1_method_4_code, 2, (some FieldType.int), 1, false, 616, 614, 615, 166),
  (11, ⟨"RoundMaps", "use", "(I)Z"⟩, prog_1_method_5_code, 2, (some FieldType.boolean), 2, false, 826, 824, 825, 166),
  (11, ⟨"RoundMaps", "letter", "(III)Z"⟩, prog_1_method_6_code, 4, (some FieldType.boolean), 4, false, 830, 828, 829, 166),
  (11, ⟨"RoundMaps", "push", "(I)I"⟩, prog_1_method_7_code, 2, (some FieldType.int), 2, false, 846, 844, 845, 166),
  (11, ⟨"RoundMaps", "drive", "(IIII)I"⟩, prog_1_method_8_code, 7, (some FieldType.int), 5, false, 854, 852, 853, 166),
  (11, ⟨"RoundMaps", "count", "(I)I"⟩, prog_1_method_9_code, 3, (some FieldType.int), 2, false, 858, 856, 857, 166),
  (11, ⟨"RoundMaps", "shut", "(IIII)I"⟩, prog_1_method_10_code, 7, (some FieldType.int), 5, false, 870, 868, 869, 166),
  (11, ⟨"RoundMaps", "finer", "(IIIII)I"⟩, prog_1_method_11_code, 7, (some FieldType.int), 6, false, 960, 958, 959, 166),
  (11, ⟨"RoundMaps", "slope", "(II)I"⟩, prog_1_method_12_code, 4, (some FieldType.int), 3, false, 975, 973, 974, 166),
  (11, ⟨"RoundMaps", "orbit", "(III)I"⟩, prog_1_method_13_code, 13, (some FieldType.int), 4, false, 983, 981, 982, 166),
  (11, ⟨"RoundMaps", "grid", "(IIIIII)I"⟩, prog_1_method_14_code, 10, (some FieldType.int), 7, false, 988, 986, 987, 166),
  (11, ⟨"RoundMaps", "fine", "(I)I"⟩, prog_1_method_15_code, 3, (some FieldType.int), 2, false, 1007, 1005, 1006, 166),
  (11, ⟨"RoundMaps", "arrows", "()I"⟩, prog_1_method_16_code, 1, (some FieldType.int), 1, false, 1011, 1009, 1010, 166),
  (11, ⟨"RoundMaps", "next", "(I)I"⟩, prog_1_method_17_code, 2, (some FieldType.int), 2, false, 1090, 1088, 1089, 166),
  (11, ⟨"RoundMaps", "back", "(I)I"⟩, prog_1_method_18_code, 3, (some FieldType.int), 2, false, 1117, 1115, 1116, 166),
  (11, ⟨"RoundMaps", "leaves", "(I)I"⟩, prog_1_method_19_code, 2, (some FieldType.int), 2, false, 1126, 1124, 1125, 166),
  (11, ⟨"RoundMaps", "cell", "(II)I"⟩, prog_1_method_20_code, 3, (some FieldType.int), 3, false, 1131, 1129, 1130, 166),
  (11, ⟨"RoundMaps", "put", "(IIZ)I"⟩, prog_1_method_21_code, 4, (some FieldType.int), 4, false, 1141, 1139, 1140, 166),
  (11, ⟨"RoundMaps", "join", "(III)I"⟩, prog_1_method_22_code, 5, (some FieldType.int), 4, false, 1150, 1148, 1149, 166),
  (11, ⟨"RoundMaps", "many", "(I)I"⟩, prog_1_method_23_code, 2, (some FieldType.int), 2, false, 1180, 1178, 1179, 166),
  (11, ⟨"RoundMaps", "has", "(II)I"⟩, prog_1_method_24_code, 3, (some FieldType.int), 3, false, 1184, 1182, 1183, 166),
  (11, ⟨"RoundMaps", "core", "(II)I"⟩, prog_1_method_25_code, 3, (some FieldType.int), 3, false, 1188, 1186, 1187, 166),
  (11, ⟨"RoundMaps", "reach", "(III)I"⟩, prog_1_method_26_code, 7, (some FieldType.int), 4, false, 1205, 1203, 1204, 166),
  (11, ⟨"RoundMaps", "trap", "(I)I"⟩, prog_1_method_27_code, 3, (some FieldType.int), 2, false, 1242, 1240, 1241, 166),
  (11, ⟨"RoundMaps", "heaps", "()I"⟩, prog_1_method_28_code, 1, (some FieldType.int), 1, false, 1247, 1245, 1246, 166),
  (11, ⟨"RoundMaps", "heap", "(I)I"⟩, prog_1_method_29_code, 2, (some FieldType.int), 2, false, 1251, 1249, 1250, 166),
  (11, ⟨"RoundMaps", "order", "(II)I"⟩, prog_1_method_30_code, 3, (some FieldType.int), 3, false, 1255, 1253, 1254, 166),
  (11, ⟨"RoundMaps", "take", "(II)I"⟩, prog_1_method_31_code, 4, (some FieldType.int), 3, false, 1264, 1262, 1263, 166),
  (11, ⟨"RoundMaps", "change", "(I)I"⟩, prog_1_method_32_code, 9, (some FieldType.int), 2, false, 1268, 1266, 1267, 166),
  (11, ⟨"RoundMaps", "ring", "(II)I"⟩, prog_1_method_33_code, 13, (some FieldType.int), 3, false, 1277, 1275, 1276, 166),
  (11, ⟨"RoundMaps", "stable", "(II)I"⟩, prog_1_method_34_code, 4, (some FieldType.int), 3, false, 1308, 1306, 1307, 166),
  (11, ⟨"RoundMaps", "rings", "(I)I"⟩, prog_1_method_35_code, 2, (some FieldType.int), 2, false, 1313, 1311, 1312, 166),
  (11, ⟨"RoundMaps", "turning", "(II)I"⟩, prog_1_method_36_code, 11, (some FieldType.int), 3, false, 1327, 1325, 1326, 166),
  (11, ⟨"RoundMaps", "box", "(II)I"⟩, prog_1_method_37_code, 3, (some FieldType.int), 3, false, 1359, 1357, 1358, 166),
  (11, ⟨"RoundMaps", "covers", "(II)I"⟩, prog_1_method_38_code, 4, (some FieldType.int), 3, false, 1367, 1365, 1366, 166),
  (11, ⟨"RoundMaps", "words", "(II)J"⟩, prog_1_method_39_code, 7, (some FieldType.long), 3, false, 1387, 1385, 1386, 166),
  (11, ⟨"RoundMaps", "word", "(II)I"⟩, prog_1_method_40_code, 5, (some FieldType.int), 3, false, 1397, 1395, 1396, 166),
  (11, ⟨"RoundMaps", "steer", "(III)I"⟩, prog_1_method_41_code, 4, (some FieldType.int), 4, false, 1401, 1399, 1400, 166),
  (11, ⟨"RoundMaps", "plan", "(I)I"⟩, prog_1_method_42_code, 2, (some FieldType.int), 2, false, 1422, 1420, 1421, 166),
  (11, ⟨"RoundMaps", "steps", "(I)I"⟩, prog_1_method_43_code, 2, (some FieldType.int), 2, false, 1426, 1424, 1425, 166)]
def MT4 : List MR := [(11, ⟨"RoundMaps", "safe", "(II)I"⟩, prog_1_method_44_code, 3, (some FieldType.int), 3, false, 1430, 1428, 1429, 166),
  (11, ⟨"RoundMaps", "sight", "(II)I"⟩, prog_1_method_45_code, 4, (some FieldType.int), 3, false, 1438, 1436, 1437, 166),
  (11, ⟨"RoundMaps", "see", "(I)I"⟩, prog_1_method_46_code, 2, (some FieldType.int), 2, false, 1442, 1440, 1441, 166),
  (11, ⟨"RoundMaps", "blind", "()I"⟩, prog_1_method_47_code, 2, (some FieldType.int), 1, false, 1446, 1444, 1445, 166),
  (11, ⟨"RoundMaps", "sense", "(I)I"⟩, prog_1_method_48_code, 3, (some FieldType.int), 2, false, 1450, 1448, 1449, 166),
  (11, ⟨"RoundMaps", "homes", "(II)I"⟩, prog_1_method_49_code, 3, (some FieldType.int), 3, false, 1458, 1456, 1457, 166),
  (11, ⟨"RoundMaps", "isNumber", "(I)Z"⟩, prog_1_method_51_code, 1, (some FieldType.boolean), 1, true, 836, 835, 0, 166),
  (11, ⟨"RoundMaps", "isSpan", "(II)Z"⟩, prog_1_method_52_code, 2, (some FieldType.boolean), 2, true, 833, 832, 0, 166),
  (11, ⟨"RoundMaps", "isCut", "(III)Z"⟩, prog_1_method_53_code, 3, (some FieldType.boolean), 3, true, 991, 990, 0, 166),
  (11, ⟨"RoundMaps", "bound", "(J)J"⟩, prog_1_method_54_code, 2, (some FieldType.long), 1, true, 911, 910, 0, 166),
  (11, ⟨"RoundMaps", "cutAt", "(JJII)J"⟩, prog_1_method_55_code, 6, (some FieldType.long), 4, true, 969, 968, 0, 166),
  (11, ⟨"RoundMaps", "isSet", "(I)Z"⟩, prog_1_method_56_code, 2, (some FieldType.boolean), 2, false, 1145, 1144, 69, 166),
  (11, ⟨"RoundMaps", "isCell", "(I)Z"⟩, prog_1_method_57_code, 2, (some FieldType.boolean), 2, false, 1094, 1093, 62, 166),
  (11, ⟨"RoundMaps", "isRing", "(II)Z"⟩, prog_1_method_58_code, 3, (some FieldType.boolean), 3, false, 1281, 1280, 87, 166),
  (11, ⟨"RoundMaps", "theMap", "()LRoundMaps$MapText;"⟩, prog_1_method_59_code, 1, (some (FieldType.object "RoundMaps$MapText")), 1, false, 862, 861, 26, 166),
  (11, ⟨"RoundMaps", "hasNet", "()Z"⟩, prog_1_method_60_code, 2, (some FieldType.boolean), 1, false, 1272, 1271, 86, 166),
  (11, ⟨"RoundMaps", "hasLineNet", "()Z"⟩, prog_1_method_61_code, 1, (some FieldType.boolean), 1, false, 1285, 1284, 88, 166),
  (11, ⟨"RoundMaps", "forgetNets", "()V"⟩, prog_1_method_62_code, 2, none, 1, false, 822, 821, 23, 166),
  (11, ⟨"RoundMaps", "readyNet", "()Z"⟩, prog_1_method_63_code, 2, (some FieldType.boolean), 1, false, 1015, 1014, 48, 166),
  (11, ⟨"RoundMaps", "readyPushedNets", "()V"⟩, prog_1_method_64_code, 3, none, 1, false, 1405, 1404, 106, 166),
  (11, ⟨"RoundMaps", "becomes", "(I)I"⟩, prog_1_method_65_code, 2, (some FieldType.int), 2, false, 1176, 1175, 75, 166),
  (11, ⟨"RoundMaps", "tellImage", "(LRoundMaps$MapText;)V"⟩, prog_1_method_66_code, 2, none, 2, false, 948, 947, 41, 166),
  (11, ⟨"RoundMaps", "dropUnlike", "(I)V"⟩, prog_1_method_67_code, 3, none, 2, false, 1454, 1453, 110, 166),
  (11, ⟨"RoundMaps", "facing", "(LRoundMaps$MapText;III)I"⟩, prog_1_method_68_code, 5, (some FieldType.int), 5, false, 1341, 1340, 97, 166),
  (12, ⟨"RoundMapsModel", "thrown", "()I"⟩, prog_14_method_1_code, 1, (some FieldType.int), 1, false, 1551, 1549, 1550, 177),
  (12, ⟨"RoundMapsModel", "in", "(JJJ)Z"⟩, prog_14_method_2_code, 6, (some FieldType.boolean), 3, true, 1562, 1561, 0, 177),
  (12, ⟨"RoundMapsModel", "refuse", "()I"⟩, prog_14_method_3_code, 1, (some FieldType.int), 1, false, 2226, 2225, 164, 177),
  (12, ⟨"RoundMapsModel", "truth", "(Z)I"⟩, prog_14_method_4_code, 1, (some FieldType.int), 1, true, 1645, 1644, 0, 177),
  (12, ⟨"RoundMapsModel", "isNumber", "(I)Z"⟩, prog_14_method_5_code, 1, (some FieldType.boolean), 1, true, 1623, 1622, 0, 177),
  (12, ⟨"RoundMapsModel", "cut", "(J)J"⟩, prog_14_method_6_code, 2, (some FieldType.long), 1, true, 1668, 1667, 0, 177),
  (12, ⟨"RoundMapsModel", "up", "(JJ)J"⟩, prog_14_method_7_code, 4, (some FieldType.long), 2, true, 1697, 1696, 0, 177),
  (12, ⟨"RoundMapsModel", "sign", "(I)I"⟩, prog_14_method_8_code, 3, (some FieldType.int), 2, false, 1555, 1553, 1554, 177),
  (12, ⟨"RoundMapsModel", "end", "(I)Z"⟩, prog_14_method_9_code, 2, (some FieldType.boolean), 2, false, 1559, 1557, 1558, 177),
  (12, ⟨"RoundMapsModel", "isSign", "(C)Z"⟩, prog_14_method_10_code, 2, (some FieldType.boolean), 2, false, 1608, 1607, 124, 177),
  (12, ⟨"RoundMapsModel", "isOf", "(Ljava/lang/String;)Z"⟩, prog_14_method_11_code, 2, (some FieldType.boolean), 2, false, 1593, 1592, 121, 177),
  (12, ⟨"RoundMapsModel", "node", "(IIIII)I"⟩, prog_14_method_12_code, 7, (some FieldType.int), 6, false, 1602, 1601, 123, 177),
  (12, ⟨"RoundMapsModel", "digits", "(I)I"⟩, prog_14_method_13_code, 4, (some FieldType.int), 2, false, 1598, 1597, 122, 177),
  (12, ⟨"RoundMapsModel", "thing", "()I"⟩, prog_14_method_14_code, 3, (some FieldType.int), 1, false, 1588, 1587, 120, 177),
  (12, ⟨"RoundMapsModel", "product", "()I"⟩, prog_14_method_15_code, 4, (some FieldType.int), 1, false, 1584, 1583, 119, 177),
  (12, ⟨"RoundMapsModel", "sum", "()I"⟩, prog_14_method_16_code, 4, (some FieldType.int), 1, false, 1580, 1579, 118, 177)]
def MT5 : List MR := [(12, ⟨"RoundMapsModel", "formula", "()I"⟩, prog_14_method_17_code, 5, (some FieldType.int), 1, false, 1576, 1575, 117, 177),
  (12, ⟨"RoundMapsModel", "reads", "()Z"⟩, prog_14_method_18_code, 1, (some FieldType.boolean), 1, false, 1572, 1570, 116, 177),
  (12, ⟨"RoundMapsModel", "map", "()I"⟩, prog_14_method_19_code, 3, (some FieldType.int), 1, false, 1566, 1564, 1565, 177),
  (12, ⟨"RoundMapsModel", "use", "(I)Z"⟩, prog_14_method_20_code, 2, (some FieldType.boolean), 2, false, 1615, 1613, 1614, 177),
  (12, ⟨"RoundMapsModel", "letter", "(III)Z"⟩, prog_14_method_21_code, 5, (some FieldType.boolean), 4, false, 1619, 1617, 1618, 177),
  (12, ⟨"RoundMapsModel", "push", "(I)I"⟩, prog_14_method_22_code, 2, (some FieldType.int), 2, false, 1629, 1627, 1628, 177),
  (12, ⟨"RoundMapsModel", "drive", "(IIII)I"⟩, prog_14_method_23_code, 7, (some FieldType.int), 5, false, 1633, 1631, 1632, 177),
  (12, ⟨"RoundMapsModel", "isPlane", "()Z"⟩, prog_14_method_24_code, 1, (some FieldType.boolean), 1, false, 1642, 1641, 125, 177),
  (12, ⟨"RoundMapsModel", "count", "(I)I"⟩, prog_14_method_25_code, 2, (some FieldType.int), 2, false, 1638, 1636, 1637, 177),
  (12, ⟨"RoundMapsModel", "times", "(JJJJ)V"⟩, prog_14_method_26_code, 13, none, 5, false, 1693, 1692, 134, 177),
  (12, ⟨"RoundMapsModel", "value", "(IJJ)V"⟩, prog_14_method_27_code, 6, none, 4, false, 1665, 1664, 129, 177),
  (12, ⟨"RoundMapsModel", "slopes", "(IJJZ)V"⟩, prog_14_method_28_code, 7, none, 5, false, 1676, 1675, 130, 177),
  (12, ⟨"RoundMapsModel", "copies", "(II)V"⟩, prog_14_method_29_code, 3, none, 3, false, 1685, 1684, 132, 177),
  (12, ⟨"RoundMapsModel", "works", "(I)V"⟩, prog_14_method_30_code, 4, none, 2, false, 1661, 1660, 128, 177),
  (12, ⟨"RoundMapsModel", "sizes", "(II)V"⟩, prog_14_method_31_code, 3, none, 3, false, 1681, 1680, 131, 177),
  (12, ⟨"RoundMapsModel", "products", "(III)V"⟩, prog_14_method_32_code, 8, none, 4, false, 1689, 1688, 133, 177),
  (12, ⟨"RoundMapsModel", "tests", "(III)V"⟩, prog_14_method_33_code, 6, none, 4, false, 1701, 1700, 135, 177),
  (12, ⟨"RoundMapsModel", "image", "(JJJJ)V"⟩, prog_14_method_34_code, 9, none, 5, false, 1657, 1656, 127, 177),
  (12, ⟨"RoundMapsModel", "enters", "(J)V"⟩, prog_14_method_35_code, 3, none, 2, false, 1709, 1708, 137, 177),
  (12, ⟨"RoundMapsModel", "tells", "(JJJJ)V"⟩, prog_14_method_36_code, 9, none, 5, false, 1705, 1704, 136, 177),
  (12, ⟨"RoundMapsModel", "isBox", "(IIII)Z"⟩, prog_14_method_37_code, 5, (some FieldType.boolean), 5, false, 1653, 1652, 126, 177),
  (12, ⟨"RoundMapsModel", "shut", "(IIII)I"⟩, prog_14_method_38_code, 5, (some FieldType.int), 5, false, 1649, 1647, 1648, 177),
  (12, ⟨"RoundMapsModel", "part", "(JJII)J"⟩, prog_14_method_39_code, 6, (some FieldType.long), 4, true, 1716, 1715, 0, 177),
  (12, ⟨"RoundMapsModel", "finer", "(IIIII)I"⟩, prog_14_method_40_code, 17, (some FieldType.int), 6, false, 1713, 1711, 1712, 177),
  (12, ⟨"RoundMapsModel", "slope", "(II)I"⟩, prog_14_method_41_code, 4, (some FieldType.int), 3, false, 1720, 1718, 1719, 177),
  (12, ⟨"RoundMapsModel", "orbit", "(III)I"⟩, prog_14_method_42_code, 17, (some FieldType.int), 4, false, 1724, 1722, 1723, 177),
  (12, ⟨"RoundMapsModel", "isSide", "(III)Z"⟩, prog_14_method_43_code, 3, (some FieldType.boolean), 3, true, 1732, 1731, 0, 177),
  (12, ⟨"RoundMapsModel", "grid", "(IIIIII)I"⟩, prog_14_method_44_code, 9, (some FieldType.int), 7, false, 1729, 1727, 1728, 177),
  (12, ⟨"RoundMapsModel", "fine", "(I)I"⟩, prog_14_method_45_code, 3, (some FieldType.int), 2, false, 1737, 1735, 1736, 177),
  (12, ⟨"RoundMapsModel", "cells", "()I"⟩, prog_14_method_46_code, 1, (some FieldType.int), 1, false, 1753, 1752, 140, 177),
  (12, ⟨"RoundMapsModel", "isCell", "(I)Z"⟩, prog_14_method_47_code, 2, (some FieldType.boolean), 2, false, 1785, 1784, 147, 177),
  (12, ⟨"RoundMapsModel", "isNet", "()Z"⟩, prog_14_method_48_code, 1, (some FieldType.boolean), 1, false, 1745, 1744, 138, 177),
  (12, ⟨"RoundMapsModel", "left", "(I)J"⟩, prog_14_method_49_code, 2, (some FieldType.long), 2, false, 1761, 1760, 142, 177),
  (12, ⟨"RoundMapsModel", "right", "(I)J"⟩, prog_14_method_50_code, 2, (some FieldType.long), 2, false, 1765, 1764, 143, 177),
  (12, ⟨"RoundMapsModel", "low", "(I)J"⟩, prog_14_method_51_code, 2, (some FieldType.long), 2, false, 1769, 1768, 144, 177),
  (12, ⟨"RoundMapsModel", "high", "(I)J"⟩, prog_14_method_52_code, 2, (some FieldType.long), 2, false, 1773, 1772, 145, 177),
  (12, ⟨"RoundMapsModel", "isMet", "(I)Z"⟩, prog_14_method_53_code, 3, (some FieldType.boolean), 2, false, 1777, 1776, 146, 177),
  (12, ⟨"RoundMapsModel", "arrowsOf", "(I)V"⟩, prog_14_method_54_code, 6, none, 2, false, 1757, 1756, 141, 177),
  (12, ⟨"RoundMapsModel", "nets", "(I)V"⟩, prog_14_method_55_code, 3, none, 2, false, 1749, 1748, 139, 177),
  (12, ⟨"RoundMapsModel", "ways", "()V"⟩, prog_14_method_56_code, 5, none, 1, false, 1841, 1840, 151, 177)]
def MT6 : List MR := [(12, ⟨"RoundMapsModel", "arrows", "()I"⟩, prog_14_method_57_code, 4, (some FieldType.int), 1, false, 1741, 1739, 1740, 177),
  (12, ⟨"RoundMapsModel", "next", "(I)I"⟩, prog_14_method_58_code, 3, (some FieldType.int), 2, false, 1781, 1779, 1780, 177),
  (12, ⟨"RoundMapsModel", "back", "(I)I"⟩, prog_14_method_59_code, 3, (some FieldType.int), 2, false, 1789, 1787, 1788, 177),
  (12, ⟨"RoundMapsModel", "leaves", "(I)I"⟩, prog_14_method_60_code, 2, (some FieldType.int), 2, false, 1793, 1791, 1792, 177),
  (12, ⟨"RoundMapsModel", "cell", "(II)I"⟩, prog_14_method_61_code, 4, (some FieldType.int), 3, false, 1797, 1795, 1796, 177),
  (12, ⟨"RoundMapsModel", "isSet", "(I)Z"⟩, prog_14_method_62_code, 1, (some FieldType.boolean), 1, true, 1804, 1803, 0, 177),
  (12, ⟨"RoundMapsModel", "isIn", "(II)Z"⟩, prog_14_method_63_code, 3, (some FieldType.boolean), 3, false, 1812, 1811, 149, 177),
  (12, ⟨"RoundMapsModel", "size", "(I)I"⟩, prog_14_method_64_code, 4, (some FieldType.int), 2, false, 1808, 1807, 148, 177),
  (12, ⟨"RoundMapsModel", "put", "(IIZ)I"⟩, prog_14_method_65_code, 4, (some FieldType.int), 4, false, 1801, 1799, 1800, 177),
  (12, ⟨"RoundMapsModel", "becomes", "(I)I"⟩, prog_14_method_66_code, 3, (some FieldType.int), 2, false, 1821, 1820, 150, 177),
  (12, ⟨"RoundMapsModel", "join", "(III)I"⟩, prog_14_method_67_code, 7, (some FieldType.int), 4, false, 1816, 1814, 1815, 177),
  (12, ⟨"RoundMapsModel", "many", "(I)I"⟩, prog_14_method_68_code, 3, (some FieldType.int), 2, false, 1825, 1823, 1824, 177),
  (12, ⟨"RoundMapsModel", "has", "(II)I"⟩, prog_14_method_69_code, 3, (some FieldType.int), 3, false, 1829, 1827, 1828, 177),
  (12, ⟨"RoundMapsModel", "core", "(II)I"⟩, prog_14_method_70_code, 8, (some FieldType.int), 3, false, 1833, 1831, 1832, 177),
  (12, ⟨"RoundMapsModel", "isSure", "(I)Z"⟩, prog_14_method_71_code, 4, (some FieldType.boolean), 2, false, 1845, 1844, 152, 177),
  (12, ⟨"RoundMapsModel", "reach", "(III)I"⟩, prog_14_method_72_code, 7, (some FieldType.int), 4, false, 1837, 1835, 1836, 177),
  (12, ⟨"RoundMapsModel", "trap", "(I)I"⟩, prog_14_method_73_code, 4, (some FieldType.int), 2, false, 1849, 1847, 1848, 177),
  (12, ⟨"RoundMapsModel", "findsHeaps", "()I"⟩, prog_14_method_74_code, 4, (some FieldType.int), 1, false, 1857, 1856, 153, 177),
  (12, ⟨"RoundMapsModel", "heaps", "()I"⟩, prog_14_method_75_code, 1, (some FieldType.int), 1, false, 1853, 1851, 1852, 177),
  (12, ⟨"RoundMapsModel", "heap", "(I)I"⟩, prog_14_method_76_code, 3, (some FieldType.int), 2, false, 1861, 1859, 1860, 177),
  (12, ⟨"RoundMapsModel", "order", "(II)I"⟩, prog_14_method_77_code, 4, (some FieldType.int), 3, false, 1865, 1863, 1864, 177),
  (12, ⟨"RoundMapsModel", "take", "(II)I"⟩, prog_14_method_78_code, 4, (some FieldType.int), 3, false, 1869, 1867, 1868, 177),
  (12, ⟨"RoundMapsModel", "change", "(I)I"⟩, prog_14_method_79_code, 8, (some FieldType.int), 2, false, 1873, 1871, 1872, 177),
  (12, ⟨"RoundMapsModel", "goes", "(JJI)V"⟩, prog_14_method_80_code, 8, none, 4, false, 1886, 1885, 155, 177),
  (12, ⟨"RoundMapsModel", "isLine", "(II)Z"⟩, prog_14_method_81_code, 3, (some FieldType.boolean), 3, false, 1882, 1881, 154, 177),
  (12, ⟨"RoundMapsModel", "isOne", "()Z"⟩, prog_14_method_82_code, 1, (some FieldType.boolean), 1, false, 1890, 1889, 156, 177),
  (12, ⟨"RoundMapsModel", "ring", "(II)I"⟩, prog_14_method_83_code, 11, (some FieldType.int), 3, false, 1878, 1876, 1877, 177),
  (12, ⟨"RoundMapsModel", "stable", "(II)I"⟩, prog_14_method_84_code, 3, (some FieldType.int), 3, false, 1894, 1892, 1893, 177),
  (12, ⟨"RoundMapsModel", "rings", "(I)I"⟩, prog_14_method_85_code, 5, (some FieldType.int), 2, false, 1899, 1897, 1898, 177),
  (12, ⟨"RoundMapsModel", "goesOn", "()V"⟩, prog_14_method_86_code, 3, none, 1, false, 1903, 1902, 157, 177),
  (12, ⟨"RoundMapsModel", "rounds", "(JJJJ)V"⟩, prog_14_method_87_code, 18, none, 5, false, 1911, 1910, 158, 177),
  (12, ⟨"RoundMapsModel", "counts", "(II)V"⟩, prog_14_method_88_code, 4, none, 3, false, 1915, 1914, 159, 177),
  (12, ⟨"RoundMapsModel", "turning", "(II)I"⟩, prog_14_method_89_code, 9, (some FieldType.int), 3, false, 1907, 1905, 1906, 177),
  (12, ⟨"RoundMapsModel", "isLineNet", "()Z"⟩, prog_14_method_90_code, 1, (some FieldType.boolean), 1, false, 1923, 1922, 160, 177),
  (12, ⟨"RoundMapsModel", "box", "(II)I"⟩, prog_14_method_91_code, 3, (some FieldType.int), 3, false, 1919, 1917, 1918, 177),
  (12, ⟨"RoundMapsModel", "isCover", "(II)Z"⟩, prog_14_method_92_code, 15, (some FieldType.boolean), 3, false, 1935, 1934, 162, 177),
  (12, ⟨"RoundMapsModel", "isBoxNumber", "(I)Z"⟩, prog_14_method_93_code, 2, (some FieldType.boolean), 2, false, 1931, 1930, 161, 177),
  (12, ⟨"RoundMapsModel", "covers", "(II)I"⟩, prog_14_method_94_code, 3, (some FieldType.int), 3, false, 1927, 1925, 1926, 177),
  (12, ⟨"RoundMapsModel", "words", "(II)J"⟩, prog_14_method_95_code, 9, (some FieldType.long), 3, false, 1939, 1937, 1938, 177),
  (12, ⟨"RoundMapsModel", "word", "(II)I"⟩, prog_14_method_96_code, 5, (some FieldType.int), 3, false, 1945, 1943, 1944, 177)]
def MT7 : List MR := [(12, ⟨"RoundMapsModel", "steer", "(III)I"⟩, prog_14_method_97_code, 8, (some FieldType.int), 4, false, 1950, 1948, 1949, 177),
  (12, ⟨"RoundMapsModel", "plan", "(I)I"⟩, prog_14_method_98_code, 2, (some FieldType.int), 2, false, 1954, 1952, 1953, 177),
  (12, ⟨"RoundMapsModel", "steps", "(I)I"⟩, prog_14_method_99_code, 2, (some FieldType.int), 2, false, 1958, 1956, 1957, 177),
  (12, ⟨"RoundMapsModel", "safe", "(II)I"⟩, prog_14_method_100_code, 6, (some FieldType.int), 3, false, 1962, 1960, 1961, 177),
  (12, ⟨"RoundMapsModel", "sight", "(II)I"⟩, prog_14_method_101_code, 4, (some FieldType.int), 3, false, 1966, 1964, 1965, 177),
  (12, ⟨"RoundMapsModel", "see", "(I)I"⟩, prog_14_method_102_code, 2, (some FieldType.int), 2, false, 1971, 1969, 1970, 177),
  (12, ⟨"RoundMapsModel", "blind", "()I"⟩, prog_14_method_103_code, 2, (some FieldType.int), 1, false, 1975, 1973, 1974, 177),
  (12, ⟨"RoundMapsModel", "sense", "(I)I"⟩, prog_14_method_104_code, 4, (some FieldType.int), 2, false, 1979, 1977, 1978, 177),
  (12, ⟨"RoundMapsModel", "parts", "(IZZ)V"⟩, prog_14_method_105_code, 10, none, 4, false, 1987, 1986, 163, 177),
  (12, ⟨"RoundMapsModel", "homes", "(II)I"⟩, prog_14_method_106_code, 5, (some FieldType.int), 3, false, 1983, 1981, 1982, 177),
  (12, ⟨"RoundMapsModel", "<init>", "()V"⟩, prog_14_method_107_code, 2, none, 1, false, 1994, 1993, 0, 177),
  (12, ⟨"RoundMapsModel", "row", "(I)I"⟩, prog_14_method_108_code, 2, (some FieldType.int), 2, false, 2222, 2220, 2221, 177),
  (15, ⟨"java/lang/Long", "bitCount", "(J)I"⟩, prog_21_method_50_code, 2, (some FieldType.int), 1, true, 1083, 1082, 0, 187),
  (14, ⟨"java/lang/Math", "floorDiv", "(JJ)J"⟩, prog_22_method_49_code, 6, (some FieldType.long), 2, true, 908, 907, 0, 178),
  (14, ⟨"java/lang/Math", "abs", "(I)I"⟩, prog_22_method_59_code, 1, (some FieldType.int), 1, true, 1990, 1989, 0, 178),
  (14, ⟨"java/lang/Math", "max", "(II)I"⟩, prog_22_method_65_code, 2, (some FieldType.int), 2, true, 686, 685, 0, 178),
  (14, ⟨"java/lang/Math", "max", "(JJ)J"⟩, prog_22_method_66_code, 4, (some FieldType.long), 2, true, 895, 894, 0, 178),
  (14, ⟨"java/lang/Math", "min", "(II)I"⟩, prog_22_method_69_code, 2, (some FieldType.int), 2, true, 623, 622, 0, 178),
  (14, ⟨"java/lang/Math", "min", "(JJ)J"⟩, prog_22_method_70_code, 4, (some FieldType.long), 2, true, 905, 904, 0, 178),
  (17, ⟨"java/lang/String", "length", "()I"⟩, prog_24_method_54_code, 1, (some FieldType.int), 1, false, 673, 671, 672, 179),
  (17, ⟨"java/lang/String", "indexOf", "(I)I"⟩, prog_24_method_79_code, 2, (some FieldType.int), 2, false, 659, 657, 658, 179),
  (17, ⟨"java/lang/String", "indexOf", "(II)I"⟩, prog_24_method_80_code, 3, (some FieldType.int), 3, false, 663, 661, 662, 179),
  (17, ⟨"java/lang/String", "coder", "()B"⟩, prog_24_method_152_code, 1, (some FieldType.byte), 1, false, 677, 675, 676, 179),
  (17, ⟨"java/lang/String", "isLatin1", "()Z"⟩, prog_24_method_154_code, 1, (some FieldType.boolean), 1, false, 667, 665, 666, 179),
  (18, ⟨"java/lang/StringLatin1", "canEncode", "(I)Z"⟩, prog_25_method_4_code, 1, (some FieldType.boolean), 1, true, 683, 682, 0, 180),
  (18, ⟨"java/lang/StringLatin1", "indexOf", "([BIII)I"⟩, prog_25_method_22_code, 4, (some FieldType.int), 4, true, 680, 679, 0, 180),
  (18, ⟨"java/lang/StringLatin1", "indexOfChar", "([BIII)I"⟩, prog_25_method_23_code, 6, (some FieldType.int), 4, true, 690, 689, 0, 180),
  (16, ⟨"java/util/Arrays", "fill", "([JJ)V"⟩, prog_31_method_101_code, 5, none, 2, true, 1026, 1025, 0, 185),
  (16, ⟨"java/util/Arrays", "fill", "([II)V"⟩, prog_31_method_103_code, 4, none, 2, true, 999, 998, 0, 185),
  (16, ⟨"java/util/Arrays", "copyOf", "([II)[I"⟩, prog_31_method_123_code, 3, (some (FieldType.array FieldType.int)), 2, true, 792, 791, 0, 185),
  (13, ⟨"RoundMapsLaw", "law", "([I)Z"⟩, code, 7, (some FieldType.boolean), 1, true, 0, 0, 0, 165)]
def MT : List MR := MT0 ++ (MT1 ++ (MT2 ++ (MT3 ++ (MT4 ++ (MT5 ++ (MT6 ++ (MT7)))))))
