section
def RX0 : String := "HeatTown$Flows"
def TX0 : u_T := fun k => match k with
  | 0 => ("HeatTown$Flows", "inPipe", "[I", true)
  | 1 => ("HeatTown$Flows", "wanted", "[I", true)
  | 2 => ("HeatTown$Flows", "got", "[I", true)
  | 3 => ("HeatTown$Flows", "shares", "[I", true)
  | 4 => ("HeatTown$Flows", "net", "LHeatTown$Net;", true)
  | 5 => ("HeatTown$Flows", "room", "[I", true)
  | 6 => ("HeatTown$Flows", "served", "[Z", true)
  | 7 => ("HeatTown$Flows", "distances", "[I", true)
  | 8 => ("HeatTown$Flows", "way", "[I", true)
  | 9 => ("HeatTown$Flows", "knownVersion", "I", false)
  | 10 => ("HeatTown$Flows", "knownAir", "I", false)
  | _ => ("HeatTown$Flows", "knownDrop", "I", false)
def tyX0 : Nat → FieldType := fun k => match k with
  | 0 => .array .int
  | 1 => .array .int
  | 2 => .array .int
  | 3 => .array .int
  | 4 => .object "HeatTown$Net"
  | 5 => .array .int
  | 6 => .array .boolean
  | 7 => .array .int
  | 8 => .array .int
  | 9 => .int
  | 10 => .int
  | _ => .int
set_option maxRecDepth 100000 in
theorem nmX0 : ∀ a, a < 12 → ∀ b, b < 12 → a ≠ b → (TX0 a).2.1 ≠ (TX0 b).2.1 := by decide +kernel
set_option maxRecDepth 100000 in
theorem tyX0_ok : ∀ k, k < 12 → parseFieldDescriptor (TX0 k).2.2.1 = some (tyX0 k) := by decide +kernel
set_option maxRecDepth 100000 in
theorem inX0 : ∀ w ∈ u_ws RX0 TX0 12, w ∈ lw_tbl := by decide +kernel
def RX1 : String := "HeatTown$Hour"
def TX1 : u_T := fun k => match k with
  | 0 => ("HeatTown$Hour", "ground", "I", false)
  | 1 => ("HeatTown$Hour", "least", "I", false)
  | 2 => ("HeatTown$Hour", "net", "LHeatTown$Net;", true)
  | 3 => ("HeatTown$Hour", "flows", "LHeatTown$Flows;", true)
  | 4 => ("HeatTown$Hour", "laws", "LHeatTown$Rules;", true)
  | 5 => ("HeatTown$Hour", "airs", "LHeatTown$Series;", true)
  | 6 => ("HeatTown$Hour", "works", "LHeatTown$Works;", true)
  | 7 => ("HeatTown$Hour", "depot", "LHeatTown$Store;", true)
  | 8 => ("HeatTown$Hour", "unitsAt", "[I", true)
  | 9 => ("HeatTown$Hour", "warmOut", "[J", true)
  | 10 => ("HeatTown$Hour", "warmBack", "[J", true)
  | 11 => ("HeatTown$Hour", "given", "[I", true)
  | 12 => ("HeatTown$Hour", "prices", "[I", true)
  | _ => ("HeatTown$Hour", "lossPrices", "[I", true)
def tyX1 : Nat → FieldType := fun k => match k with
  | 0 => .int
  | 1 => .int
  | 2 => .object "HeatTown$Net"
  | 3 => .object "HeatTown$Flows"
  | 4 => .object "HeatTown$Rules"
  | 5 => .object "HeatTown$Series"
  | 6 => .object "HeatTown$Works"
  | 7 => .object "HeatTown$Store"
  | 8 => .array .int
  | 9 => .array .long
  | 10 => .array .long
  | 11 => .array .int
  | 12 => .array .int
  | _ => .array .int
set_option maxRecDepth 100000 in
theorem nmX1 : ∀ a, a < 14 → ∀ b, b < 14 → a ≠ b → (TX1 a).2.1 ≠ (TX1 b).2.1 := by decide +kernel
set_option maxRecDepth 100000 in
theorem tyX1_ok : ∀ k, k < 14 → parseFieldDescriptor (TX1 k).2.2.1 = some (tyX1 k) := by decide +kernel
set_option maxRecDepth 100000 in
theorem inX1 : ∀ w ∈ u_ws RX1 TX1 14, w ∈ lw_tbl := by decide +kernel
def RX2 : String := "HeatTown$Meters"
def TX2 : u_T := fun k => match k with
  | 0 => ("HeatTown$Meters", "facts", "I", false)
  | 1 => ("HeatTown$Meters", "least", "I", false)
  | 2 => ("HeatTown$Meters", "greatest", "I", false)
  | 3 => ("HeatTown$Meters", "ends", "[I", true)
  | 4 => ("HeatTown$Meters", "hours", "[I", true)
  | _ => ("HeatTown$Meters", "reads", "[I", true)
def tyX2 : Nat → FieldType := fun k => match k with
  | 0 => .int
  | 1 => .int
  | 2 => .int
  | 3 => .array .int
  | 4 => .array .int
  | _ => .array .int
set_option maxRecDepth 100000 in
theorem nmX2 : ∀ a, a < 6 → ∀ b, b < 6 → a ≠ b → (TX2 a).2.1 ≠ (TX2 b).2.1 := by decide +kernel
set_option maxRecDepth 100000 in
theorem tyX2_ok : ∀ k, k < 6 → parseFieldDescriptor (TX2 k).2.2.1 = some (tyX2 k) := by decide +kernel
set_option maxRecDepth 100000 in
theorem inX2 : ∀ w ∈ u_ws RX2 TX2 6, w ∈ lw_tbl := by decide +kernel
def RX3 : String := "HeatTown$Net"
def TX3 : u_T := fun k => match k with
  | 0 => ("HeatTown$Net", "nodes", "I", false)
  | 1 => ("HeatTown$Net", "pipes", "I", false)
  | 2 => ("HeatTown$Net", "houses", "I", false)
  | 3 => ("HeatTown$Net", "version", "I", false)
  | 4 => ("HeatTown$Net", "starts", "[I", true)
  | 5 => ("HeatTown$Net", "ends", "[I", true)
  | 6 => ("HeatTown$Net", "longs", "[I", true)
  | 7 => ("HeatTown$Net", "wides", "[I", true)
  | 8 => ("HeatTown$Net", "losses", "[I", true)
  | 9 => ("HeatTown$Net", "broken", "[Z", true)
  | 10 => ("HeatTown$Net", "valved", "[Z", true)
  | 11 => ("HeatTown$Net", "shut", "[Z", true)
  | 12 => ("HeatTown$Net", "homes", "[I", true)
  | 13 => ("HeatTown$Net", "sizes", "[I", true)
  | 14 => ("HeatTown$Net", "ranks", "[I", true)
  | 15 => ("HeatTown$Net", "toShut", "J", false)
  | 16 => ("HeatTown$Net", "pipeRuns", "[Z", true)
  | 17 => ("HeatTown$Net", "nodeRuns", "[Z", true)
  | _ => ("HeatTown$Net", "reached", "[Z", true)
def tyX3 : Nat → FieldType := fun k => match k with
  | 0 => .int
  | 1 => .int
  | 2 => .int
  | 3 => .int
  | 4 => .array .int
  | 5 => .array .int
  | 6 => .array .int
  | 7 => .array .int
  | 8 => .array .int
  | 9 => .array .boolean
  | 10 => .array .boolean
  | 11 => .array .boolean
  | 12 => .array .int
  | 13 => .array .int
  | 14 => .array .int
  | 15 => .long
  | 16 => .array .boolean
  | 17 => .array .boolean
  | _ => .array .boolean
set_option maxRecDepth 100000 in
theorem nmX3 : ∀ a, a < 19 → ∀ b, b < 19 → a ≠ b → (TX3 a).2.1 ≠ (TX3 b).2.1 := by decide +kernel
set_option maxRecDepth 100000 in
theorem tyX3_ok : ∀ k, k < 19 → parseFieldDescriptor (TX3 k).2.2.1 = some (tyX3 k) := by decide +kernel
set_option maxRecDepth 100000 in
theorem inX3 : ∀ w ∈ u_ws RX3 TX3 19, w ∈ lw_tbl := by decide +kernel
def RX4 : String := "HeatTown$Places"
def TX4 : u_T := fun k => match k with
  | 0 => ("HeatTown$Places", "lengths", "[I", true)
  | 1 => ("HeatTown$Places", "widths", "[I", true)
  | _ => ("HeatTown$Places", "numbers", "[J", true)
def tyX4 : Nat → FieldType := fun k => match k with
  | 0 => .array .int
  | 1 => .array .int
  | _ => .array .long
set_option maxRecDepth 100000 in
theorem nmX4 : ∀ a, a < 3 → ∀ b, b < 3 → a ≠ b → (TX4 a).2.1 ≠ (TX4 b).2.1 := by decide +kernel
set_option maxRecDepth 100000 in
theorem tyX4_ok : ∀ k, k < 3 → parseFieldDescriptor (TX4 k).2.2.1 = some (tyX4 k) := by decide +kernel
set_option maxRecDepth 100000 in
theorem inX4 : ∀ w ∈ u_ws RX4 TX4 3, w ∈ lw_tbl := by decide +kernel
def RX5 : String := "HeatTown$Reader"
def TX5 : u_T := fun k => match k with
  | 0 => ("HeatTown$Reader", "bytes", "I", false)
  | 1 => ("HeatTown$Reader", "faultAt", "I", false)
  | 2 => ("HeatTown$Reader", "tape", "[C", true)
  | 3 => ("HeatTown$Reader", "tokens", "[I", true)
  | 4 => ("HeatTown$Reader", "spots", "[I", true)
  | 5 => ("HeatTown$Reader", "target", "LHeatTown$Rules;", true)
  | 6 => ("HeatTown$Reader", "draft", "LHeatTown$Rules;", true)
  | _ => ("HeatTown$Reader", "at", "I", false)
def tyX5 : Nat → FieldType := fun k => match k with
  | 0 => .int
  | 1 => .int
  | 2 => .array .char
  | 3 => .array .int
  | 4 => .array .int
  | 5 => .object "HeatTown$Rules"
  | 6 => .object "HeatTown$Rules"
  | _ => .int
set_option maxRecDepth 100000 in
theorem nmX5 : ∀ a, a < 8 → ∀ b, b < 8 → a ≠ b → (TX5 a).2.1 ≠ (TX5 b).2.1 := by decide +kernel
set_option maxRecDepth 100000 in
theorem tyX5_ok : ∀ k, k < 8 → parseFieldDescriptor (TX5 k).2.2.1 = some (tyX5 k) := by decide +kernel
set_option maxRecDepth 100000 in
theorem inX5 : ∀ w ∈ u_ws RX5 TX5 8, w ∈ lw_tbl := by decide +kernel
def RX6 : String := "HeatTown$Rules"
def TX6 : u_T := fun k => match k with
  | 0 => ("HeatTown$Rules", "rules", "I", false)
  | 1 => ("HeatTown$Rules", "named", "[J", true)
  | 2 => ("HeatTown$Rules", "codes", "I", false)
  | 3 => ("HeatTown$Rules", "code", "[I", true)
  | 4 => ("HeatTown$Rules", "kinds", "[I", true)
  | 5 => ("HeatTown$Rules", "sumEnds", "[I", true)
  | 6 => ("HeatTown$Rules", "ruleEnds", "[I", true)
  | _ => ("HeatTown$Rules", "open", "[J", true)
def tyX6 : Nat → FieldType := fun k => match k with
  | 0 => .int
  | 1 => .array .long
  | 2 => .int
  | 3 => .array .int
  | 4 => .array .int
  | 5 => .array .int
  | 6 => .array .int
  | _ => .array .long
set_option maxRecDepth 100000 in
theorem nmX6 : ∀ a, a < 8 → ∀ b, b < 8 → a ≠ b → (TX6 a).2.1 ≠ (TX6 b).2.1 := by decide +kernel
set_option maxRecDepth 100000 in
theorem tyX6_ok : ∀ k, k < 8 → parseFieldDescriptor (TX6 k).2.2.1 = some (tyX6 k) := by decide +kernel
set_option maxRecDepth 100000 in
theorem inX6 : ∀ w ∈ u_ws RX6 TX6 8, w ∈ lw_tbl := by decide +kernel
def RX7 : String := "HeatTown$Series"
def TX7 : u_T := fun k => match k with
  | 0 => ("HeatTown$Series", "numbers", "[I", true)
  | 1 => ("HeatTown$Series", "many", "I", false)
  | _ => ("HeatTown$Series", "from", "I", false)
def tyX7 : Nat → FieldType := fun k => match k with
  | 0 => .array .int
  | 1 => .int
  | _ => .int
set_option maxRecDepth 100000 in
theorem nmX7 : ∀ a, a < 3 → ∀ b, b < 3 → a ≠ b → (TX7 a).2.1 ≠ (TX7 b).2.1 := by decide +kernel
set_option maxRecDepth 100000 in
theorem tyX7_ok : ∀ k, k < 3 → parseFieldDescriptor (TX7 k).2.2.1 = some (tyX7 k) := by decide +kernel
set_option maxRecDepth 100000 in
theorem inX7 : ∀ w ∈ u_ws RX7 TX7 3, w ∈ lw_tbl := by decide +kernel
def RX8 : String := "HeatTown$State"
def TX8 : u_T := fun k => match k with
  | 0 => ("HeatTown$State", "hour", "I", false)
  | 1 => ("HeatTown$State", "stored", "I", false)
  | 2 => ("HeatTown$State", "back", "I", false)
  | 3 => ("HeatTown$State", "sendWas", "I", false)
  | 4 => ("HeatTown$State", "units", "[I", true)
  | 5 => ("HeatTown$State", "lastFlow", "[I", true)
  | 6 => ("HeatTown$State", "lastUnits", "[I", true)
  | 7 => ("HeatTown$State", "lastWarm", "[J", true)
  | 8 => ("HeatTown$State", "coldHours", "[I", true)
  | 9 => ("HeatTown$State", "used", "[J", true)
  | 10 => ("HeatTown$State", "cold", "[J", true)
  | 11 => ("HeatTown$State", "billed", "[J", true)
  | 12 => ("HeatTown$State", "billedLost", "[J", true)
  | _ => ("HeatTown$State", "totals", "[J", true)
def tyX8 : Nat → FieldType := fun k => match k with
  | 0 => .int
  | 1 => .int
  | 2 => .int
  | 3 => .int
  | 4 => .array .int
  | 5 => .array .int
  | 6 => .array .int
  | 7 => .array .long
  | 8 => .array .int
  | 9 => .array .long
  | 10 => .array .long
  | 11 => .array .long
  | 12 => .array .long
  | _ => .array .long
set_option maxRecDepth 100000 in
theorem nmX8 : ∀ a, a < 14 → ∀ b, b < 14 → a ≠ b → (TX8 a).2.1 ≠ (TX8 b).2.1 := by decide +kernel
set_option maxRecDepth 100000 in
theorem tyX8_ok : ∀ k, k < 14 → parseFieldDescriptor (TX8 k).2.2.1 = some (tyX8 k) := by decide +kernel
set_option maxRecDepth 100000 in
theorem inX8 : ∀ w ∈ u_ws RX8 TX8 14, w ∈ lw_tbl := by decide +kernel
def RX9 : String := "HeatTown$Store"
def TX9 : u_T := fun k => match k with
  | 0 => ("HeatTown$Store", "holds", "I", false)
  | 1 => ("HeatTown$Store", "step", "I", false)
  | 2 => ("HeatTown$Store", "isLive", "Z", false)
  | 3 => ("HeatTown$Store", "hours", "I", false)
  | 4 => ("HeatTown$Store", "levels", "[I", true)
  | 5 => ("HeatTown$Store", "from", "I", false)
  | 6 => ("HeatTown$Store", "works", "LHeatTown$Works;", true)
  | 7 => ("HeatTown$Store", "prices", "[J", true)
  | 8 => ("HeatTown$Store", "best", "[J", true)
  | _ => ("HeatTown$Store", "choices", "[I", true)
def tyX9 : Nat → FieldType := fun k => match k with
  | 0 => .int
  | 1 => .int
  | 2 => .boolean
  | 3 => .int
  | 4 => .array .int
  | 5 => .int
  | 6 => .object "HeatTown$Works"
  | 7 => .array .long
  | 8 => .array .long
  | _ => .array .int
set_option maxRecDepth 100000 in
theorem nmX9 : ∀ a, a < 10 → ∀ b, b < 10 → a ≠ b → (TX9 a).2.1 ≠ (TX9 b).2.1 := by decide +kernel
set_option maxRecDepth 100000 in
theorem tyX9_ok : ∀ k, k < 10 → parseFieldDescriptor (TX9 k).2.2.1 = some (tyX9 k) := by decide +kernel
set_option maxRecDepth 100000 in
theorem inX9 : ∀ w ∈ u_ws RX9 TX9 10, w ∈ lw_tbl := by decide +kernel
def RX10 : String := "HeatTown$Works"
def TX10 : u_T := fun k => match k with
  | 0 => ("HeatTown$Works", "boilers", "I", false)
  | 1 => ("HeatTown$Works", "millPrice", "I", false)
  | 2 => ("HeatTown$Works", "offers", "LHeatTown$Series;", true)
  | 3 => ("HeatTown$Works", "milled", "J", false)
  | 4 => ("HeatTown$Works", "boiled", "J", false)
  | 5 => ("HeatTown$Works", "cost", "J", false)
  | 6 => ("HeatTown$Works", "mosts", "[I", true)
  | 7 => ("HeatTown$Works", "costs", "[I", true)
  | _ => ("HeatTown$Works", "order", "[I", true)
def tyX10 : Nat → FieldType := fun k => match k with
  | 0 => .int
  | 1 => .int
  | 2 => .object "HeatTown$Series"
  | 3 => .long
  | 4 => .long
  | 5 => .long
  | 6 => .array .int
  | 7 => .array .int
  | _ => .array .int
set_option maxRecDepth 100000 in
theorem nmX10 : ∀ a, a < 9 → ∀ b, b < 9 → a ≠ b → (TX10 a).2.1 ≠ (TX10 b).2.1 := by decide +kernel
set_option maxRecDepth 100000 in
theorem tyX10_ok : ∀ k, k < 9 → parseFieldDescriptor (TX10 k).2.2.1 = some (tyX10 k) := by decide +kernel
set_option maxRecDepth 100000 in
theorem inX10 : ∀ w ∈ u_ws RX10 TX10 9, w ∈ lw_tbl := by decide +kernel
def RX11 : String := "HeatTown"
def TX11 : u_T := fun k => match k with
  | 0 => ("HeatTown", "net", "LHeatTown$Net;", true)
  | 1 => ("HeatTown", "flows", "LHeatTown$Flows;", true)
  | 2 => ("HeatTown", "laws", "LHeatTown$Rules;", true)
  | 3 => ("HeatTown", "reader", "LHeatTown$Reader;", true)
  | 4 => ("HeatTown", "airs", "LHeatTown$Series;", true)
  | 5 => ("HeatTown", "works", "LHeatTown$Works;", true)
  | 6 => ("HeatTown", "depot", "LHeatTown$Store;", true)
  | 7 => ("HeatTown", "clock", "LHeatTown$Hour;", true)
  | 8 => ("HeatTown", "now", "LHeatTown$State;", true)
  | 9 => ("HeatTown", "later", "LHeatTown$State;", true)
  | 10 => ("HeatTown", "places", "LHeatTown$Places;", true)
  | 11 => ("HeatTown", "meters", "LHeatTown$Meters;", true)
  | 12 => ("HeatTown", "gotBefore", "[I", true)
  | 13 => ("HeatTown", "aheadCold", "[J", true)
  | 14 => ("HeatTown", "aheadFirst", "[I", true)
  | _ => ("HeatTown", "aheadHouses", "I", false)
def tyX11 : Nat → FieldType := fun k => match k with
  | 0 => .object "HeatTown$Net"
  | 1 => .object "HeatTown$Flows"
  | 2 => .object "HeatTown$Rules"
  | 3 => .object "HeatTown$Reader"
  | 4 => .object "HeatTown$Series"
  | 5 => .object "HeatTown$Works"
  | 6 => .object "HeatTown$Store"
  | 7 => .object "HeatTown$Hour"
  | 8 => .object "HeatTown$State"
  | 9 => .object "HeatTown$State"
  | 10 => .object "HeatTown$Places"
  | 11 => .object "HeatTown$Meters"
  | 12 => .array .int
  | 13 => .array .long
  | 14 => .array .int
  | _ => .int
set_option maxRecDepth 100000 in
theorem nmX11 : ∀ a, a < 16 → ∀ b, b < 16 → a ≠ b → (TX11 a).2.1 ≠ (TX11 b).2.1 := by decide +kernel
set_option maxRecDepth 100000 in
theorem tyX11_ok : ∀ k, k < 16 → parseFieldDescriptor (TX11 k).2.2.1 = some (tyX11 k) := by decide +kernel
set_option maxRecDepth 100000 in
theorem inX11 : ∀ w ∈ u_ws RX11 TX11 16, w ∈ lw_tbl := by decide +kernel
def RX12 : String := "HeatTownModel"
def TX12 : u_T := fun k => match k with
  | 0 => ("HeatTownModel", "thrown", "I", false)
  | 1 => ("HeatTownModel", "width", "[I", true)
  | 2 => ("HeatTownModel", "size", "[I", true)
  | 3 => ("HeatTownModel", "numbers", "[J", true)
  | 4 => ("HeatTownModel", "moved", "[J", true)
  | 5 => ("HeatTownModel", "nodes", "I", false)
  | 6 => ("HeatTownModel", "pipes", "I", false)
  | 7 => ("HeatTownModel", "houses", "I", false)
  | 8 => ("HeatTownModel", "boilers", "I", false)
  | 9 => ("HeatTownModel", "facts", "I", false)
  | 10 => ("HeatTownModel", "ground", "I", false)
  | 11 => ("HeatTownModel", "least", "I", false)
  | 12 => ("HeatTownModel", "storeMost", "I", false)
  | 13 => ("HeatTownModel", "storeStep", "I", false)
  | 14 => ("HeatTownModel", "millPrice", "I", false)
  | 15 => ("HeatTownModel", "pa", "[I", true)
  | 16 => ("HeatTownModel", "pb", "[I", true)
  | 17 => ("HeatTownModel", "length", "[I", true)
  | 18 => ("HeatTownModel", "wide", "[I", true)
  | 19 => ("HeatTownModel", "loss", "[I", true)
  | 20 => ("HeatTownModel", "hasValve", "[Z", true)
  | 21 => ("HeatTownModel", "isShut", "[Z", true)
  | 22 => ("HeatTownModel", "hasBurst", "[Z", true)
  | 23 => ("HeatTownModel", "at", "[I", true)
  | 24 => ("HeatTownModel", "houseSize", "[I", true)
  | 25 => ("HeatTownModel", "rank", "[I", true)
  | 26 => ("HeatTownModel", "most", "[I", true)
  | 27 => ("HeatTownModel", "cost", "[I", true)
  | 28 => ("HeatTownModel", "airs", "[I", true)
  | 29 => ("HeatTownModel", "offers", "[I", true)
  | 30 => ("HeatTownModel", "metPipe", "[I", true)
  | 31 => ("HeatTownModel", "metEnd", "[I", true)
  | 32 => ("HeatTownModel", "metHour", "[I", true)
  | 33 => ("HeatTownModel", "metUnits", "[I", true)
  | 34 => ("HeatTownModel", "world", "[J", true)
  | 35 => ("HeatTownModel", "kept", "[J", true)
  | 36 => ("HeatTownModel", "tape", "[B", true)
  | 37 => ("HeatTownModel", "taped", "I", false)
  | 38 => ("HeatTownModel", "faultPlace", "I", false)
  | 39 => ("HeatTownModel", "rules", "I", false)
  | 40 => ("HeatTownModel", "text", "[B", true)
  | 41 => ("HeatTownModel", "textMany", "[I", true)
  | 42 => ("HeatTownModel", "planFrom", "I", false)
  | 43 => ("HeatTownModel", "planMany", "I", false)
  | 44 => ("HeatTownModel", "hasPlan", "Z", false)
  | 45 => ("HeatTownModel", "planLevel", "[I", true)
  | 46 => ("HeatTownModel", "textRow", "I", false)
  | 47 => ("HeatTownModel", "textSize", "I", false)
  | 48 => ("HeatTownModel", "next", "I", false)
  | 49 => ("HeatTownModel", "begin", "I", false)
  | 50 => ("HeatTownModel", "sort", "I", false)
  | 51 => ("HeatTownModel", "number", "I", false)
  | 52 => ("HeatTownModel", "open", "I", false)
  | 53 => ("HeatTownModel", "told", "I", false)
  | 54 => ("HeatTownModel", "isBad", "Z", false)
  | 55 => ("HeatTownModel", "asked", "I", false)
  | 56 => ("HeatTownModel", "ofHouse", "I", false)
  | 57 => ("HeatTownModel", "hasTold", "Z", false)
  | 58 => ("HeatTownModel", "answer", "J", false)
  | 59 => ("HeatTownModel", "flow", "[I", true)
  | 60 => ("HeatTownModel", "got", "[I", true)
  | 61 => ("HeatTownModel", "through", "[I", true)
  | 62 => ("HeatTownModel", "far", "[I", true)
  | 63 => ("HeatTownModel", "order", "[I", true)
  | 64 => ("HeatTownModel", "way", "[I", true)
  | 65 => ("HeatTownModel", "needs", "[J", true)
  | 66 => ("HeatTownModel", "wayMany", "I", false)
  | 67 => ("HeatTownModel", "before", "[I", true)
  | 68 => ("HeatTownModel", "outWarm", "[J", true)
  | 69 => ("HeatTownModel", "backWarm", "[J", true)
  | 70 => ("HeatTownModel", "lostBy", "[J", true)
  | 71 => ("HeatTownModel", "prices", "[J", true)
  | 72 => ("HeatTownModel", "losts", "[J", true)
  | 73 => ("HeatTownModel", "left", "[J", true)
  | 74 => ("HeatTownModel", "mixUnits", "J", false)
  | 75 => ("HeatTownModel", "mixWarm", "J", false)
  | 76 => ("HeatTownModel", "mixNext", "J", false)
  | 77 => ("HeatTownModel", "aheadCold", "[J", true)
  | 78 => ("HeatTownModel", "aheadFirst", "[J", true)
  | 79 => ("HeatTownModel", "aheadHouses", "I", false)
  | 80 => ("HeatTownModel", "runs", "[Z", true)
  | 81 => ("HeatTownModel", "isDry", "[Z", true)
  | 82 => ("HeatTownModel", "isWet", "[Z", true)
  | 83 => ("HeatTownModel", "valves", "J", false)
  | _ => ("HeatTownModel", "best", "[J", true)
def tyX12 : Nat → FieldType := fun k => match k with
  | 0 => .int
  | 1 => .array .int
  | 2 => .array .int
  | 3 => .array .long
  | 4 => .array .long
  | 5 => .int
  | 6 => .int
  | 7 => .int
  | 8 => .int
  | 9 => .int
  | 10 => .int
  | 11 => .int
  | 12 => .int
  | 13 => .int
  | 14 => .int
  | 15 => .array .int
  | 16 => .array .int
  | 17 => .array .int
  | 18 => .array .int
  | 19 => .array .int
  | 20 => .array .boolean
  | 21 => .array .boolean
  | 22 => .array .boolean
  | 23 => .array .int
  | 24 => .array .int
  | 25 => .array .int
  | 26 => .array .int
  | 27 => .array .int
  | 28 => .array .int
  | 29 => .array .int
  | 30 => .array .int
  | 31 => .array .int
  | 32 => .array .int
  | 33 => .array .int
  | 34 => .array .long
  | 35 => .array .long
  | 36 => .array .byte
  | 37 => .int
  | 38 => .int
  | 39 => .int
  | 40 => .array .byte
  | 41 => .array .int
  | 42 => .int
  | 43 => .int
  | 44 => .boolean
  | 45 => .array .int
  | 46 => .int
  | 47 => .int
  | 48 => .int
  | 49 => .int
  | 50 => .int
  | 51 => .int
  | 52 => .int
  | 53 => .int
  | 54 => .boolean
  | 55 => .int
  | 56 => .int
  | 57 => .boolean
  | 58 => .long
  | 59 => .array .int
  | 60 => .array .int
  | 61 => .array .int
  | 62 => .array .int
  | 63 => .array .int
  | 64 => .array .int
  | 65 => .array .long
  | 66 => .int
  | 67 => .array .int
  | 68 => .array .long
  | 69 => .array .long
  | 70 => .array .long
  | 71 => .array .long
  | 72 => .array .long
  | 73 => .array .long
  | 74 => .long
  | 75 => .long
  | 76 => .long
  | 77 => .array .long
  | 78 => .array .long
  | 79 => .int
  | 80 => .array .boolean
  | 81 => .array .boolean
  | 82 => .array .boolean
  | 83 => .long
  | _ => .array .long
set_option maxRecDepth 100000 in
theorem nmX12 : ∀ a, a < 85 → ∀ b, b < 85 → a ≠ b → (TX12 a).2.1 ≠ (TX12 b).2.1 := by decide +kernel
set_option maxRecDepth 100000 in
theorem tyX12_ok : ∀ k, k < 85 → parseFieldDescriptor (TX12 k).2.2.1 = some (tyX12 k) := by decide +kernel
set_option maxRecDepth 100000 in
theorem inX12 : ∀ w ∈ u_ws RX12 TX12 85, w ∈ lw_tbl := by decide +kernel
abbrev aCl : List vw_C := [(RX0, TX0, 12), (RX1, TX1, 14), (RX2, TX2, 6), (RX3, TX3, 19), (RX4, TX4, 3), (RX5, TX5, 8), (RX6, TX6, 8), (RX7, TX7, 3), (RX8, TX8, 14), (RX9, TX9, 10), (RX10, TX10, 9), (RX11, TX11, 16), (RX12, TX12, 85)]
abbrev aTyl : List (Nat → FieldType) := [tyX0, tyX1, tyX2, tyX3, tyX4, tyX5, tyX6, tyX7, tyX8, tyX9, tyX10, tyX11, tyX12]
/-- every cell, in the order of making: kind (0 object, 1 int, 2 long, 3 boolean, 4 byte, 5 char row), number of its kind of object, length -/
def aSHL : List (List (Nat × Nat × Int)) := [[(0, 11, 0), (0, 3, 0), (1, 0, 20), (1, 0, 20), (1, 0, 20), (1, 0, 20), (1, 0, 20), (3, 0, 20), (3, 0, 40), (3, 0, 40), (1, 0, 16), (1, 0, 16), (1, 0, 16), (3, 0, 20), (3, 0, 12), (3, 0, 12)], [(0, 0, 0), (1, 0, 20), (1, 0, 16), (1, 0, 16), (1, 0, 320), (1, 0, 20), (3, 0, 16), (1, 0, 12), (1, 0, 12), (0, 6, 0), (2, 0, 7), (1, 0, 300), (1, 0, 12), (1, 0, 12), (1, 0, 12), (2, 0, 32)], [(0, 5, 0), (5, 0, 300), (1, 0, 301), (1, 0, 301), (0, 6, 0), (2, 0, 7), (1, 0, 300), (1, 0, 12), (1, 0, 12), (1, 0, 12), (2, 0, 32), (0, 7, 0), (1, 0, 60), (0, 10, 0), (0, 7, 0), (1, 0, 60)], [(1, 0, 4), (1, 0, 4), (1, 0, 4), (0, 9, 0), (1, 0, 24), (2, 0, 81), (2, 0, 1025), (1, 0, 984), (0, 1, 0), (1, 0, 12), (2, 0, 12), (2, 0, 12), (1, 0, 12), (1, 0, 16), (1, 0, 16), (0, 8, 0)], [(1, 0, 2400), (1, 0, 20), (1, 0, 16), (2, 0, 16), (1, 0, 16), (2, 0, 16), (2, 0, 16), (2, 0, 16), (2, 0, 16), (2, 0, 6), (0, 8, 0), (1, 0, 2400), (1, 0, 20), (1, 0, 16), (2, 0, 16), (1, 0, 16)], [(2, 0, 16), (2, 0, 16), (2, 0, 16), (2, 0, 16), (2, 0, 6), (0, 4, 0), (1, 0, 4), (1, 0, 4), (2, 0, 240), (0, 2, 0), (1, 0, 200), (1, 0, 200), (1, 0, 200), (1, 0, 16), (2, 0, 16), (1, 0, 16)], [(0, 12, 0), (1, 0, 4), (1, 0, 4), (2, 0, 240), (2, 0, 60), (1, 0, 20), (1, 0, 20), (1, 0, 20), (1, 0, 20), (1, 0, 20), (3, 0, 40), (3, 0, 40), (3, 0, 20), (1, 0, 17), (1, 0, 17), (1, 0, 17)], [(1, 0, 4), (1, 0, 4), (1, 0, 5050), (1, 0, 5050), (1, 0, 200), (1, 0, 200), (1, 0, 200), (1, 0, 200), (2, 0, 2542), (2, 0, 2542), (4, 0, 300), (4, 0, 600), (1, 0, 2), (1, 0, 24), (1, 0, 20), (1, 0, 17)], [(1, 0, 340), (1, 0, 12), (1, 0, 17), (1, 0, 12), (2, 0, 17), (1, 0, 16), (2, 0, 12), (2, 0, 12), (2, 0, 20), (2, 0, 16), (2, 0, 16), (2, 0, 16), (2, 0, 16), (2, 0, 16), (3, 0, 20), (3, 0, 12)], [(3, 0, 12), (2, 0, 1050)]]
def aRTL : List (List (List Nat)) := [[[1, 16, 25, 32, 43, 45, 51, 56, 63, 74, 85, 89, 93, 94, 95, 0], [0, 0, 0, 0, 2, 3, 4, 5, 6, 7, 8, 9, 10, 11, 12, 0, 13, 14, 15], [], [], [], [], [], [], [], [], [], [], [], [], [], []], [[17, 18, 19, 20, 1, 21, 22, 23, 24, 0, 0, 0], [], [], [], [], [], [], [], [], [0, 26, 0, 27, 28, 29, 30, 31], [], [], [], [], [], []], [[0, 0, 33, 34, 35, 25, 36, 0], [], [], [], [0, 37, 0, 38, 39, 40, 41, 42], [], [], [], [], [], [], [44, 0, 0], [], [0, 0, 46, 0, 0, 0, 48, 49, 50], [47, 0, 0], []], [[], [], [], [0, 0, 0, 0, 52, 0, 45, 53, 54, 55], [], [], [], [], [0, 0, 1, 16, 25, 43, 45, 51, 57, 58, 59, 60, 61, 62], [], [], [], [], [], [], [0, 0, 0, 0, 64, 65, 66, 67, 68, 69, 70, 71, 72, 73]], [[], [], [], [], [], [], [], [], [], [], [0, 0, 0, 0, 75, 76, 77, 78, 79, 80, 81, 82, 83, 84], [], [], [], [], []], [[], [], [], [], [], [86, 87, 88], [], [], [], [0, 0, 0, 90, 91, 92], [], [], [], [], [], []], [[0, 97, 98, 99, 100, 0, 0, 0, 0, 0, 0, 0, 0, 0, 0, 101, 102, 103, 104, 105, 106, 107, 108, 109, 110, 111, 112, 113, 114, 115, 116, 117, 118, 119, 120, 121, 122, 0, 0, 0, 123, 124, 0, 0, 0, 125, 0, 0, 0, 0, 0, 0, 0, 0, 0, 0, 0, 0, 0, 126, 127, 128, 129, 130, 131, 132, 0, 133, 134, 135, 136, 137, 138, 139, 0, 0, 0, 140, 141, 0, 142, 143, 144, 0, 145], [], [], [], [], [], [], [], [], [], [], [], [], [], [], []], [[], [], [], [], [], [], [], [], [], [], [], [], [], [], [], []], [[], [], [], [], [], [], [], [], [], [], [], [], [], [], [], []], [[], []]]
/-- kinds of fields: 0 reference, 1 int, 2 long, 3 boolean -/
def aFKL : List (List Nat) := [[0, 0, 0, 0, 0, 0, 0, 0, 0, 1, 1, 1], [1, 1, 0, 0, 0, 0, 0, 0, 0, 0, 0, 0, 0, 0], [1, 1, 1, 0, 0, 0], [1, 1, 1, 1, 0, 0, 0, 0, 0, 0, 0, 0, 0, 0, 0, 2, 0, 0, 0], [0, 0, 0], [1, 1, 0, 0, 0, 0, 0, 1], [1, 0, 1, 0, 0, 0, 0, 0], [0, 1, 1], [1, 1, 1, 1, 0, 0, 0, 0, 0, 0, 0, 0, 0, 0], [1, 1, 3, 1, 0, 1, 0, 0, 0, 0], [1, 1, 0, 2, 2, 2, 0, 0, 0], [0, 0, 0, 0, 0, 0, 0, 0, 0, 0, 0, 0, 0, 0, 0, 1], [1, 0, 0, 0, 0, 1, 1, 1, 1, 1, 1, 1, 1, 1, 1, 0, 0, 0, 0, 0, 0, 0, 0, 0, 0, 0, 0, 0, 0, 0, 0, 0, 0, 0, 0, 0, 0, 1, 1, 1, 0, 0, 1, 1, 3, 0, 1, 1, 1, 1, 1, 1, 1, 1, 3, 1, 1, 3, 2, 0, 0, 0, 0, 0, 0, 0, 1, 0, 0, 0, 0, 0, 0, 0, 2, 2, 2, 0, 0, 1, 0, 0, 0, 2, 0]]
def aNC : Nat := 146
def aSL : Nat := 30052
def aSTR : List (List Int) := [[115, 101, 110, 100, 32, 100, 114, 111, 112, 32, 112, 114, 105, 99, 101, 32, 108, 111, 115, 116, 32, 119, 104, 101, 110, 32, 111, 114, 32, 97, 110, 100, 32, 97, 105, 114, 32, 104, 111, 117, 114, 32, 115, 116, 111, 114, 101, 32, 98, 97, 99, 107, 32, 115, 105, 122, 101, 32, 114, 97, 110, 107, 32, 99, 111, 108, 100, 32], [43, 45, 42, 47, 40, 41, 60, 62, 61, 59], [115, 101, 110, 100], [100, 114, 111, 112], [112, 114, 105, 99, 101], [108, 111, 115, 116], [97, 105, 114], [104, 111, 117, 114], [115, 116, 111, 114, 101], [98, 97, 99, 107], [115, 105, 122, 101], [114, 97, 110, 107], [99, 111, 108, 100], [119, 104, 101, 110], [97, 110, 100], [111, 114]]
/-- texts: whose constant, its entry, the text -/
def aSTN : List (String × Nat × String) := [("HeatTown$Reader", 102, "send drop price lost when or and air hour store back size rank cold "), ("HeatTown$Reader", 95, "+-*/()<>=;"), ("HeatTownModel", 368, "send"), ("HeatTownModel", 370, "drop"), ("HeatTownModel", 372, "price"), ("HeatTownModel", 374, "lost"), ("HeatTownModel", 323, "air"), ("HeatTownModel", 329, "hour"), ("HeatTownModel", 330, "store"), ("HeatTownModel", 332, "back"), ("HeatTownModel", 334, "size"), ("HeatTownModel", 335, "rank"), ("HeatTownModel", 336, "cold"), ("HeatTownModel", 379, "when"), ("HeatTownModel", 361, "and"), ("HeatTownModel", 366, "or")]
end
