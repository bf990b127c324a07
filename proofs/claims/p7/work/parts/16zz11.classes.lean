section TB
def RJ4 : String := "java/lang/StringBuilder"
def TJ4 : u_T := fun k => match k with
  | 0 => ("java/lang/AbstractStringBuilder", "value", "[B", false)
  | 1 => ("java/lang/AbstractStringBuilder", "coder", "B", false)
  | 2 => ("java/lang/AbstractStringBuilder", "maybeLatin1", "Z", false)
  | _ => ("java/lang/AbstractStringBuilder", "count", "I", false)
def tyJ4 : Nat → FieldType := fun k => match k with
  | 0 => .array .byte
  | 1 => .byte
  | 2 => .boolean
  | _ => .int
theorem nmJ4 : ∀ a, a < 4 → ∀ b, b < 4 → a ≠ b → (TJ4 a).2.1 ≠ (TJ4 b).2.1 := by decide +kernel
theorem tyJ4_ok : ∀ k, k < 4 → parseFieldDescriptor (TJ4 k).2.2.1 = some (tyJ4 k) := by decide +kernel
def RX0 : String := "VendingRoutes$Fleet"
def TX0 : u_T := fun k => match k with
  | 0 => ("VendingRoutes$Fleet", "x", "[I", true)
  | 1 => ("VendingRoutes$Fleet", "y", "[I", true)
  | 2 => ("VendingRoutes$Fleet", "loadLimit", "I", false)
  | 3 => ("VendingRoutes$Fleet", "visitMinutes", "I", false)
  | 4 => ("VendingRoutes$Fleet", "alpha", "I", false)
  | 5 => ("VendingRoutes$Fleet", "horizon", "I", false)
  | 6 => ("VendingRoutes$Fleet", "productCount", "I", false)
  | 7 => ("VendingRoutes$Fleet", "price", "[I", true)
  | 8 => ("VendingRoutes$Fleet", "cost", "[I", true)
  | 9 => ("VendingRoutes$Fleet", "penalty", "[I", true)
  | _ => ("VendingRoutes$Fleet", "rulebook", "LVendingRoutes$Rulebook;", true)
def tyX0 : Nat → FieldType := fun k => match k with
  | 0 => .array .int
  | 1 => .array .int
  | 2 => .int
  | 3 => .int
  | 4 => .int
  | 5 => .int
  | 6 => .int
  | 7 => .array .int
  | 8 => .array .int
  | 9 => .array .int
  | _ => .object "VendingRoutes$Rulebook"
theorem nmX0 : ∀ a, a < 11 → ∀ b, b < 11 → a ≠ b → (TX0 a).2.1 ≠ (TX0 b).2.1 := by decide +kernel
theorem tyX0_ok : ∀ k, k < 11 → parseFieldDescriptor (TX0 k).2.2.1 = some (tyX0 k) := by decide +kernel
def RX1 : String := "VendingRoutes$History"
def TX1 : u_T := fun k => match k with
  | 0 => ("VendingRoutes$History", "states", "[LVendingRoutes$State;", true)
  | _ => ("VendingRoutes$History", "count", "I", false)
def tyX1 : Nat → FieldType := fun k => match k with
  | 0 => .array (.object "VendingRoutes$State")
  | _ => .int
theorem nmX1 : ∀ a, a < 2 → ∀ b, b < 2 → a ≠ b → (TX1 a).2.1 ≠ (TX1 b).2.1 := by decide +kernel
theorem tyX1_ok : ∀ k, k < 2 → parseFieldDescriptor (TX1 k).2.2.1 = some (tyX1 k) := by decide +kernel
def RX2 : String := "VendingRoutes$Machine"
def TX2 : u_T := fun k => match k with
  | 0 => ("VendingRoutes$Machine", "gapFrom", "I", false)
  | 1 => ("VendingRoutes$Machine", "gapUntil", "I", false)
  | 2 => ("VendingRoutes$Machine", "isForced", "Z", false)
  | 3 => ("VendingRoutes$Machine", "cash", "I", false)
  | 4 => ("VendingRoutes$Machine", "visits", "I", false)
  | 5 => ("VendingRoutes$Machine", "latestVisit", "I", false)
  | 6 => ("VendingRoutes$Machine", "slotCount", "I", false)
  | _ => ("VendingRoutes$Machine", "slots", "[LVendingRoutes$Slot;", true)
def tyX2 : Nat → FieldType := fun k => match k with
  | 0 => .int
  | 1 => .int
  | 2 => .boolean
  | 3 => .int
  | 4 => .int
  | 5 => .int
  | 6 => .int
  | _ => .array (.object "VendingRoutes$Slot")
theorem nmX2 : ∀ a, a < 8 → ∀ b, b < 8 → a ≠ b → (TX2 a).2.1 ≠ (TX2 b).2.1 := by decide +kernel
theorem tyX2_ok : ∀ k, k < 8 → parseFieldDescriptor (TX2 k).2.2.1 = some (tyX2 k) := by decide +kernel
def RX3 : String := "VendingRoutes$Parser"
def TX3 : u_T := fun k => match k with
  | 0 => ("VendingRoutes$Parser", "scanner", "LVendingRoutes$Scanner;", true)
  | 1 => ("VendingRoutes$Parser", "fleet", "LVendingRoutes$Fleet;", false)
  | 2 => ("VendingRoutes$Parser", "state", "LVendingRoutes$State;", false)
  | 3 => ("VendingRoutes$Parser", "error", "I", false)
  | _ => ("VendingRoutes$Parser", "position", "I", false)
def tyX3 : Nat → FieldType := fun k => match k with
  | 0 => .object "VendingRoutes$Scanner"
  | 1 => .object "VendingRoutes$Fleet"
  | 2 => .object "VendingRoutes$State"
  | 3 => .int
  | _ => .int
theorem nmX3 : ∀ a, a < 5 → ∀ b, b < 5 → a ≠ b → (TX3 a).2.1 ≠ (TX3 b).2.1 := by decide +kernel
theorem tyX3_ok : ∀ k, k < 5 → parseFieldDescriptor (TX3 k).2.2.1 = some (tyX3 k) := by decide +kernel
def RX4 : String := "VendingRoutes$Planner"
def TX4 : u_T := fun k => match k with
  | 0 => ("VendingRoutes$Planner", "route", "[I", true)
  | 1 => ("VendingRoutes$Planner", "length", "I", false)
  | 2 => ("VendingRoutes$Planner", "routeTime", "I", false)
  | 3 => ("VendingRoutes$Planner", "loaded", "[I", true)
  | 4 => ("VendingRoutes$Planner", "due", "[I", true)
  | 5 => ("VendingRoutes$Planner", "dueCount", "I", false)
  | _ => ("VendingRoutes$Planner", "risks", "[F", true)
def tyX4 : Nat → FieldType := fun k => match k with
  | 0 => .array .int
  | 1 => .int
  | 2 => .int
  | 3 => .array .int
  | 4 => .array .int
  | 5 => .int
  | _ => .array .float
theorem nmX4 : ∀ a, a < 7 → ∀ b, b < 7 → a ≠ b → (TX4 a).2.1 ≠ (TX4 b).2.1 := by decide +kernel
theorem tyX4_ok : ∀ k, k < 7 → parseFieldDescriptor (TX4 k).2.2.1 = some (tyX4 k) := by decide +kernel
def RX5 : String := "VendingRoutes$Rulebook"
def TX5 : u_T := fun k => match k with
  | 0 => ("VendingRoutes$Rulebook", "parts", "[I", true)
  | 1 => ("VendingRoutes$Rulebook", "partCount", "I", false)
  | 2 => ("VendingRoutes$Rulebook", "ends", "[I", true)
  | _ => ("VendingRoutes$Rulebook", "count", "I", false)
def tyX5 : Nat → FieldType := fun k => match k with
  | 0 => .array .int
  | 1 => .int
  | 2 => .array .int
  | _ => .int
theorem nmX5 : ∀ a, a < 4 → ∀ b, b < 4 → a ≠ b → (TX5 a).2.1 ≠ (TX5 b).2.1 := by decide +kernel
theorem tyX5_ok : ∀ k, k < 4 → parseFieldDescriptor (TX5 k).2.2.1 = some (tyX5 k) := by decide +kernel
def RX6 : String := "VendingRoutes$Scanner"
def TX6 : u_T := fun k => match k with
  | 0 => ("VendingRoutes$Scanner", "text", "[B", false)
  | 1 => ("VendingRoutes$Scanner", "textLength", "I", false)
  | 2 => ("VendingRoutes$Scanner", "next", "I", false)
  | 3 => ("VendingRoutes$Scanner", "kind", "I", false)
  | 4 => ("VendingRoutes$Scanner", "start", "I", false)
  | _ => ("VendingRoutes$Scanner", "number", "I", false)
def tyX6 : Nat → FieldType := fun k => match k with
  | 0 => .array .byte
  | 1 => .int
  | 2 => .int
  | 3 => .int
  | 4 => .int
  | _ => .int
theorem nmX6 : ∀ a, a < 6 → ∀ b, b < 6 → a ≠ b → (TX6 a).2.1 ≠ (TX6 b).2.1 := by decide +kernel
theorem tyX6_ok : ∀ k, k < 6 → parseFieldDescriptor (TX6 k).2.2.1 = some (tyX6 k) := by decide +kernel
def RX7 : String := "VendingRoutes$Simulator"
def TX7 : u_T := fun k => match k with
  | _ => ("VendingRoutes$Simulator", "planner", "LVendingRoutes$Planner;", true)
def tyX7 : Nat → FieldType := fun k => match k with
  | _ => .object "VendingRoutes$Planner"
theorem nmX7 : ∀ a, a < 1 → ∀ b, b < 1 → a ≠ b → (TX7 a).2.1 ≠ (TX7 b).2.1 := by decide +kernel
theorem tyX7_ok : ∀ k, k < 1 → parseFieldDescriptor (TX7 k).2.2.1 = some (tyX7 k) := by decide +kernel
def RX8 : String := "VendingRoutes$Slot"
def TX8 : u_T := fun k => match k with
  | 0 => ("VendingRoutes$Slot", "product", "I", false)
  | 1 => ("VendingRoutes$Slot", "capacity", "I", false)
  | 2 => ("VendingRoutes$Slot", "every", "I", false)
  | 3 => ("VendingRoutes$Slot", "stock", "I", false)
  | 4 => ("VendingRoutes$Slot", "rate", "I", false)
  | 5 => ("VendingRoutes$Slot", "sold", "I", false)
  | 6 => ("VendingRoutes$Slot", "filled", "I", false)
  | 7 => ("VendingRoutes$Slot", "returned", "I", false)
  | 8 => ("VendingRoutes$Slot", "lost", "I", false)
  | 9 => ("VendingRoutes$Slot", "pendingProduct", "I", false)
  | 10 => ("VendingRoutes$Slot", "pendingRate", "I", false)
  | 11 => ("VendingRoutes$Slot", "soldSinceRead", "I", false)
  | 12 => ("VendingRoutes$Slot", "sellingDaysSinceRead", "I", false)
  | 13 => ("VendingRoutes$Slot", "estimatedStock", "F", false)
  | _ => ("VendingRoutes$Slot", "estimatedRate", "F", false)
def tyX8 : Nat → FieldType := fun k => match k with
  | 0 => .int
  | 1 => .int
  | 2 => .int
  | 3 => .int
  | 4 => .int
  | 5 => .int
  | 6 => .int
  | 7 => .int
  | 8 => .int
  | 9 => .int
  | 10 => .int
  | 11 => .int
  | 12 => .int
  | 13 => .float
  | _ => .float
theorem nmX8 : ∀ a, a < 15 → ∀ b, b < 15 → a ≠ b → (TX8 a).2.1 ≠ (TX8 b).2.1 := by decide +kernel
theorem tyX8_ok : ∀ k, k < 15 → parseFieldDescriptor (TX8 k).2.2.1 = some (tyX8 k) := by decide +kernel
def RX9 : String := "VendingRoutes$State"
def TX9 : u_T := fun k => match k with
  | 0 => ("VendingRoutes$State", "day", "I", false)
  | 1 => ("VendingRoutes$State", "level", "I", false)
  | 2 => ("VendingRoutes$State", "shift", "I", false)
  | 3 => ("VendingRoutes$State", "account", "I", false)
  | 4 => ("VendingRoutes$State", "deposited", "J", false)
  | 5 => ("VendingRoutes$State", "shortage", "J", false)
  | 6 => ("VendingRoutes$State", "drivenMinutes", "I", false)
  | 7 => ("VendingRoutes$State", "leftover", "I", false)
  | 8 => ("VendingRoutes$State", "lostUnits", "I", false)
  | 9 => ("VendingRoutes$State", "visitCount", "I", false)
  | 10 => ("VendingRoutes$State", "lostCost", "J", false)
  | 11 => ("VendingRoutes$State", "tradeGain", "J", false)
  | 12 => ("VendingRoutes$State", "machineCount", "I", false)
  | 13 => ("VendingRoutes$State", "machines", "[LVendingRoutes$Machine;", true)
  | 14 => ("VendingRoutes$State", "eventCount", "I", false)
  | _ => ("VendingRoutes$State", "events", "[I", true)
def tyX9 : Nat → FieldType := fun k => match k with
  | 0 => .int
  | 1 => .int
  | 2 => .int
  | 3 => .int
  | 4 => .long
  | 5 => .long
  | 6 => .int
  | 7 => .int
  | 8 => .int
  | 9 => .int
  | 10 => .long
  | 11 => .long
  | 12 => .int
  | 13 => .array (.object "VendingRoutes$Machine")
  | 14 => .int
  | _ => .array .int
theorem nmX9 : ∀ a, a < 16 → ∀ b, b < 16 → a ≠ b → (TX9 a).2.1 ≠ (TX9 b).2.1 := by decide +kernel
theorem tyX9_ok : ∀ k, k < 16 → parseFieldDescriptor (TX9 k).2.2.1 = some (tyX9 k) := by decide +kernel
def RX10 : String := "VendingRoutes"
def TX10 : u_T := fun k => match k with
  | 0 => ("VendingRoutes", "buffer", "[B", true)
  | 1 => ("VendingRoutes", "bufferLength", "I", false)
  | 2 => ("VendingRoutes", "parser", "LVendingRoutes$Parser;", true)
  | 3 => ("VendingRoutes", "planner", "LVendingRoutes$Planner;", true)
  | 4 => ("VendingRoutes", "simulator", "LVendingRoutes$Simulator;", true)
  | 5 => ("VendingRoutes", "fleet", "LVendingRoutes$Fleet;", false)
  | 6 => ("VendingRoutes", "spareFleet", "LVendingRoutes$Fleet;", false)
  | 7 => ("VendingRoutes", "hasFleet", "Z", false)
  | 8 => ("VendingRoutes", "state", "LVendingRoutes$State;", false)
  | 9 => ("VendingRoutes", "trial", "LVendingRoutes$State;", true)
  | 10 => ("VendingRoutes", "history", "LVendingRoutes$History;", true)
  | 11 => ("VendingRoutes", "savedStates", "[LVendingRoutes$State;", true)
  | 12 => ("VendingRoutes", "isSaved", "[Z", true)
  | _ => ("VendingRoutes", "reportText", "Ljava/lang/StringBuilder;", true)
def tyX10 : Nat → FieldType := fun k => match k with
  | 0 => .array .byte
  | 1 => .int
  | 2 => .object "VendingRoutes$Parser"
  | 3 => .object "VendingRoutes$Planner"
  | 4 => .object "VendingRoutes$Simulator"
  | 5 => .object "VendingRoutes$Fleet"
  | 6 => .object "VendingRoutes$Fleet"
  | 7 => .boolean
  | 8 => .object "VendingRoutes$State"
  | 9 => .object "VendingRoutes$State"
  | 10 => .object "VendingRoutes$History"
  | 11 => .array (.object "VendingRoutes$State")
  | 12 => .array .boolean
  | _ => .object "java/lang/StringBuilder"
theorem nmX10 : ∀ a, a < 14 → ∀ b, b < 14 → a ≠ b → (TX10 a).2.1 ≠ (TX10 b).2.1 := by decide +kernel
theorem tyX10_ok : ∀ k, k < 14 → parseFieldDescriptor (TX10 k).2.2.1 = some (tyX10 k) := by decide +kernel
def RX11 : String := "VendingRoutesModel"
def TX11 : u_T := fun k => match k with
  | 0 => ("VendingRoutesModel", "thrown", "I", false)
  | 1 => ("VendingRoutesModel", "buffer", "[I", true)
  | 2 => ("VendingRoutesModel", "buffered", "I", false)
  | 3 => ("VendingRoutesModel", "end", "I", false)
  | 4 => ("VendingRoutesModel", "next", "I", false)
  | 5 => ("VendingRoutesModel", "parseCode", "I", false)
  | 6 => ("VendingRoutesModel", "parsePlace", "I", false)
  | 7 => ("VendingRoutesModel", "token", "I", false)
  | 8 => ("VendingRoutesModel", "start", "I", false)
  | 9 => ("VendingRoutesModel", "value", "I", false)
  | 10 => ("VendingRoutesModel", "plan", "[I", true)
  | 11 => ("VendingRoutesModel", "newPlan", "[I", true)
  | 12 => ("VendingRoutesModel", "now", "[I", true)
  | 13 => ("VendingRoutesModel", "draft", "[I", true)
  | 14 => ("VendingRoutesModel", "work", "[I", true)
  | 15 => ("VendingRoutesModel", "history", "[I", true)
  | 16 => ("VendingRoutesModel", "stored", "[I", true)
  | 17 => ("VendingRoutesModel", "nowGuess", "[F", true)
  | 18 => ("VendingRoutesModel", "draftGuess", "[F", true)
  | 19 => ("VendingRoutesModel", "workGuess", "[F", true)
  | 20 => ("VendingRoutesModel", "historyGuess", "[F", true)
  | 21 => ("VendingRoutesModel", "storedGuess", "[F", true)
  | 22 => ("VendingRoutesModel", "nowTotal", "[J", true)
  | 23 => ("VendingRoutesModel", "workTotal", "[J", true)
  | 24 => ("VendingRoutesModel", "historyTotal", "[J", true)
  | 25 => ("VendingRoutesModel", "storedTotal", "[J", true)
  | 26 => ("VendingRoutesModel", "isStored", "[Z", true)
  | 27 => ("VendingRoutesModel", "undos", "I", false)
  | 28 => ("VendingRoutesModel", "hasFleet", "Z", false)
  | 29 => ("VendingRoutesModel", "values", "[Ljava/lang/String;", true)
  | 30 => ("VendingRoutesModel", "kind", "[I", true)
  | 31 => ("VendingRoutesModel", "first", "[I", true)
  | 32 => ("VendingRoutesModel", "second", "[I", true)
  | 33 => ("VendingRoutesModel", "over", "[I", true)
  | 34 => ("VendingRoutesModel", "bank", "I", false)
  | 35 => ("VendingRoutesModel", "nodes", "I", false)
  | 36 => ("VendingRoutesModel", "depth", "I", false)
  | 37 => ("VendingRoutesModel", "asked", "[I", true)
  | 38 => ("VendingRoutesModel", "route", "[I", true)
  | 39 => ("VendingRoutesModel", "order", "[I", true)
  | 40 => ("VendingRoutesModel", "loads", "[I", true)
  | 41 => ("VendingRoutesModel", "risks", "[F", true)
  | 42 => ("VendingRoutesModel", "many", "I", false)
  | 43 => ("VendingRoutesModel", "routeTime", "I", false)
  | 44 => ("VendingRoutesModel", "page", "[I", true)
  | _ => ("VendingRoutesModel", "pageSize", "I", false)
def tyX11 : Nat → FieldType := fun k => match k with
  | 0 => .int
  | 1 => .array .int
  | 2 => .int
  | 3 => .int
  | 4 => .int
  | 5 => .int
  | 6 => .int
  | 7 => .int
  | 8 => .int
  | 9 => .int
  | 10 => .array .int
  | 11 => .array .int
  | 12 => .array .int
  | 13 => .array .int
  | 14 => .array .int
  | 15 => .array .int
  | 16 => .array .int
  | 17 => .array .float
  | 18 => .array .float
  | 19 => .array .float
  | 20 => .array .float
  | 21 => .array .float
  | 22 => .array .long
  | 23 => .array .long
  | 24 => .array .long
  | 25 => .array .long
  | 26 => .array .boolean
  | 27 => .int
  | 28 => .boolean
  | 29 => .array (.object "java/lang/String")
  | 30 => .array .int
  | 31 => .array .int
  | 32 => .array .int
  | 33 => .array .int
  | 34 => .int
  | 35 => .int
  | 36 => .int
  | 37 => .array .int
  | 38 => .array .int
  | 39 => .array .int
  | 40 => .array .int
  | 41 => .array .float
  | 42 => .int
  | 43 => .int
  | 44 => .array .int
  | _ => .int
theorem nmX11 : ∀ a, a < 46 → ∀ b, b < 46 → a ≠ b → (TX11 a).2.1 ≠ (TX11 b).2.1 := by decide +kernel
theorem tyX11_ok : ∀ k, k < 46 → parseFieldDescriptor (TX11 k).2.2.1 = some (tyX11 k) := by decide +kernel
abbrev mCl : List vw_C := [(RJ4, TJ4, 4), (RX0, TX0, 11), (RX1, TX1, 2), (RX2, TX2, 8), (RX3, TX3, 5), (RX4, TX4, 7), (RX5, TX5, 4), (RX6, TX6, 6), (RX7, TX7, 1), (RX8, TX8, 15), (RX9, TX9, 16), (RX10, TX10, 14), (RX11, TX11, 46)]
def mDf : List (List Value) := [[.null, .int 0, .int 0, .int 0], [.null, .null, .int 0, .int 0, .int 0, .int 0, .int 0, .null, .null, .null, .null], [.null, .int 0], [.int 0, .int 0, .int 0, .int 0, .int 0, .int 0, .int 0, .null], [.null, .null, .null, .int 0, .int 0], [.null, .int 0, .int 0, .null, .null, .int 0, .null], [.null, .int 0, .null, .int 0], [.null, .int 0, .int 0, .int 0, .int 0, .int 0], [.null], [.int 0, .int 0, .int 0, .int 0, .int 0, .int 0, .int 0, .int 0, .int 0, .int 0, .int 0, .int 0, .int 0, .float 0, .float 0], [.int 0, .int 0, .int 0, .int 0, .long 0, .long 0, .int 0, .int 0, .int 0, .int 0, .long 0, .long 0, .int 0, .null, .int 0, .null], [.null, .int 0, .null, .null, .null, .null, .null, .int 0, .null, .null, .null, .null, .null, .null], [.int 0, .null, .int 0, .int 0, .int 0, .int 0, .int 0, .int 0, .int 0, .int 0, .null, .null, .null, .null, .null, .null, .null, .null, .null, .null, .null, .null, .null, .null, .null, .null, .null, .int 0, .int 0, .null, .null, .null, .null, .null, .int 0, .int 0, .int 0, .null, .null, .null, .null, .null, .int 0, .int 0, .null, .int 0]]
/-- private methods of a class above: what they select -/
theorem sel_priv {C : String} {y y2 : MethodName} {s : State} {args : Array Value} (hc : y2.cls = y.cls) (hy : y.cls ≠ "java/lang/invoke/MethodHandle" ∧ y.cls ≠ "java/lang/invoke/VarHandle") (hs2 : (Cond.selects C y2 y2).before args s = true) (hpriv : (Cond.privateMethod y).before args s = true) (hinst : (Cond.instanceMethod y).before args s = true) :
    (Cond.selects C y y).before args s = true := by
  obtain ⟨c, r, m, q1, q2, q3, q4, k, hk, hki⟩ := Cond.selects_spec hs2
  obtain ⟨mk, methM, hnamed, hmethM, -, -⟩ := Cond.instanceMethod_spec hinst
  have hfound : s.methodFound? y.cls y.name y.desc = some mk := State.methodFound?_of_named hnamed hy
  have hcls : mk.cls = m.cls := Option.some.inj ((findClass_of_methodNamed hnamed).symm.trans (by rw [← hc]; exact findClass_of_methodNamed q3))
  have hsel : selectMethod {} s.vm c mk = .method mk := selectMethod_private hmethM (Cond.privateMethod_at hpriv mk methM hnamed hmethM)
  simp only [Cond.before, Cond.holds, Cond.value, q1, hfound, hnamed, hsel, hcls, hk]
  simp; exact hki
def ySel_0 : MethodName := ⟨"java/lang/AbstractStringBuilder", "ensureCapacityInternal", "(I)V"⟩
def ySel_1 : MethodName := ⟨"java/lang/AbstractStringBuilder", "newCapacity", "(I)I"⟩
def ySel : MethodName := ⟨"java/lang/AbstractStringBuilder", "isLatin1", "()Z"⟩
def xSel : List Cond := [.selects RJ4 ySel_0 ySel_0, .selects RJ4 ySel_1 ySel_1]
def lw_tx : List Cond := lw_tbl ++ xSel
theorem xSel_w : Cond.selects RJ4 ySel ySel ∈ lw_tbl ∧ Cond.privateMethod ySel_0 ∈ lw_tbl ∧ Cond.instanceMethod ySel_0 ∈ lw_tbl ∧ Cond.privateMethod ySel_1 ∈ lw_tbl ∧ Cond.instanceMethod ySel_1 ∈ lw_tbl := by decide +kernel
theorem lw_tx_ok {args : Array Value} {s : State} (hts : ∀ w ∈ lw_tbl, w.before args s = true) : ∀ w ∈ lw_tx, w.before args s = true := by
  intro w hw
  rcases List.mem_append.mp hw with hw | hw
  · exact hts w hw
  · obtain ⟨k0, k1, k2, k3, k4⟩ := xSel_w
    rcases List.mem_cons.mp hw with rfl | hw
    · exact sel_priv (y2 := ySel) rfl (by decide +kernel) (hts _ k0) (hts _ k1) (hts _ k2)
    · obtain rfl := List.mem_singleton.mp hw
      exact sel_priv (y2 := ySel) rfl (by decide +kernel) (hts _ k0) (hts _ k3) (hts _ k4)
def tbk (k : Nat) : List Cond := match k with
  | 0 => k2_sels lw_privs
  | 1 => tables_1_1
  | 2 => tables_1_2
  | 3 => tables_1_3
  | 4 => tables_1_4
  | 5 => tables_1_5
  | 6 => tables_1_6
  | 7 => tables_1_7
  | 8 => tables_1_8
  | 9 => tables_1_9
  | 10 => tables_1_10
  | 11 => tables_1_11
  | _ => xSel
def mG : List Cond := lw_tx.filter goodWord
theorem mG_good : ∀ w ∈ mG, goodWord w = true := fun w h => (List.mem_filter.mp h).2
theorem mG_tbl : ∀ w ∈ mG, w ∈ lw_tx := fun w h => (List.mem_filter.mp h).1
theorem tbk_in (k : Nat) : ∀ w ∈ tbk k, w ∈ lw_tx := by
  intro w h
  unfold lw_tx lw_tbl
  match k, h with
  | 0, h => exact List.mem_append_left _ (List.mem_append_left _ h)
  | 1, h => exact List.mem_append_left _ (List.mem_append_right _ (List.mem_append_left _ h))
  | 2, h => exact List.mem_append_left _ (List.mem_append_right _ (List.mem_append_right _ (List.mem_append_left _ h)))
  | 3, h => exact List.mem_append_left _ (List.mem_append_right _ (List.mem_append_right _ (List.mem_append_right _ (List.mem_append_left _ h))))
  | 4, h => exact List.mem_append_left _ (List.mem_append_right _ (List.mem_append_right _ (List.mem_append_right _ (List.mem_append_right _ (List.mem_append_left _ h)))))
  | 5, h => exact List.mem_append_left _ (List.mem_append_right _ (List.mem_append_right _ (List.mem_append_right _ (List.mem_append_right _ (List.mem_append_right _ (List.mem_append_left _ h))))))
  | 6, h => exact List.mem_append_left _ (List.mem_append_right _ (List.mem_append_right _ (List.mem_append_right _ (List.mem_append_right _ (List.mem_append_right _ (List.mem_append_right _ (List.mem_append_left _ h)))))))
  | 7, h => exact List.mem_append_left _ (List.mem_append_right _ (List.mem_append_right _ (List.mem_append_right _ (List.mem_append_right _ (List.mem_append_right _ (List.mem_append_right _ (List.mem_append_right _ (List.mem_append_left _ h))))))))
  | 8, h => exact List.mem_append_left _ (List.mem_append_right _ (List.mem_append_right _ (List.mem_append_right _ (List.mem_append_right _ (List.mem_append_right _ (List.mem_append_right _ (List.mem_append_right _ (List.mem_append_right _ (List.mem_append_left _ h)))))))))
  | 9, h => exact List.mem_append_left _ (List.mem_append_right _ (List.mem_append_right _ (List.mem_append_right _ (List.mem_append_right _ (List.mem_append_right _ (List.mem_append_right _ (List.mem_append_right _ (List.mem_append_right _ (List.mem_append_right _ (List.mem_append_left _ h))))))))))
  | 10, h => exact List.mem_append_left _ (List.mem_append_right _ (List.mem_append_right _ (List.mem_append_right _ (List.mem_append_right _ (List.mem_append_right _ (List.mem_append_right _ (List.mem_append_right _ (List.mem_append_right _ (List.mem_append_right _ (List.mem_append_right _ (List.mem_append_left _ h)))))))))))
  | 11, h => exact List.mem_append_left _ (List.mem_append_right _ (List.mem_append_right _ (List.mem_append_right _ (List.mem_append_right _ (List.mem_append_right _ (List.mem_append_right _ (List.mem_append_right _ (List.mem_append_right _ (List.mem_append_right _ (List.mem_append_right _ (List.mem_append_right _ (h))))))))))))
  | k + 12, h => exact List.mem_append_right _ h
def atW (p : Nat) (w : Cond) : Bool := decide ((tbk (p / 1000))[p % 1000]? = some w) && goodWord w
theorem atW_ok {p : Nat} {w : Cond} (h : atW p w = true) : w ∈ mG := by
  unfold atW at h
  simp only [Bool.and_eq_true, decide_eq_true_eq] at h
  exact List.mem_filter.mpr ⟨tbk_in _ _ (List.mem_of_getElem? h.1), h.2⟩
def atWs : List Nat → List Cond → Bool
  | p :: ps, w :: ws => atW p w && atWs ps ws
  | _, [] => true
  | _, _ => false
theorem atWs_ok : ∀ {ps : List Nat} {ws : List Cond}, atWs ps ws = true → ∀ w ∈ ws, w ∈ mG
  | _, [], _ => fun w h => absurd h List.not_mem_nil
  | [], _ :: _, h => by cases h
  | p :: ps, w :: ws, h => by
    unfold atWs at h
    simp only [Bool.and_eq_true] at h
    intro w' hw
    rcases List.mem_cons.mp hw with rfl | hw
    · exact atW_ok h.1
    · exact atWs_ok h.2 w' hw
def plainV (v : Value) : Bool := match v with
  | .ref _ => false
  | .retAddr _ => false
  | _ => true
theorem rS_self {L : List Nat} : ∀ {fs : List Value}, fs.all plainV = true → rS L fs fs
  | [], _ => trivial
  | v :: vs, h => by
    simp only [List.all_cons, Bool.and_eq_true] at h
    refine ⟨?_, rS_self h.2⟩
    cases v <;> first | rfl | cases h.1
/-- what is known of a class -/
def clF (r : vw_C) (fs : List Value) : Prop := (∀ w ∈ u_ws r.1 r.2.1 r.2.2, w ∈ mG) ∧ (∃ ty : Nat → FieldType, (∀ k, k < r.2.2 → parseFieldDescriptor (r.2.1 k).2.2.1 = some (ty k)) ∧ ∀ j, j < r.2.2 → defaultValue (ty j) = vp_V fs j) ∧ (∀ a, a < r.2.2 → ∀ b, b < r.2.2 → a ≠ b → (r.2.1 a).2.1 ≠ (r.2.1 b).2.1) ∧ Cond.instantiable r.1 r.2.2 ∈ mG ∧ Cond.initialized r.1 ∈ mG ∧ fs.length = r.2.2 ∧ ∀ L, rS L fs fs
theorem clF_0 : clF (RJ4, TJ4, 4) [.null, .int 0, .int 0, .int 0] := ⟨atWs_ok (ps := [3007, 3009, 3011, 3013]) (by decide +kernel), ⟨tyJ4, tyJ4_ok, by decide +kernel⟩, nmJ4, atW_ok (p := 2225) (by decide +kernel), atW_ok (p := 1013) (by decide +kernel), rfl, fun _ => rS_self (by decide +kernel)⟩
theorem clF_1 : clF (RX0, TX0, 11) [.null, .null, .int 0, .int 0, .int 0, .int 0, .int 0, .null, .null, .null, .null] := ⟨atWs_ok (ps := [1199, 1201, 1203, 1205, 1207, 1209, 1211, 1213, 1215, 1217, 1219]) (by decide +kernel), ⟨tyX0, tyX0_ok, by decide +kernel⟩, nmX0, atW_ok (p := 1143) (by decide +kernel), atW_ok (p := 1006) (by decide +kernel), rfl, fun _ => rS_self (by decide +kernel)⟩
theorem clF_2 : clF (RX1, TX1, 2) [.null, .int 0] := ⟨atWs_ok (ps := [2219, 2221]) (by decide +kernel), ⟨tyX1, tyX1_ok, by decide +kernel⟩, nmX1, atW_ok (p := 2208) (by decide +kernel), atW_ok (p := 1011) (by decide +kernel), rfl, fun _ => rS_self (by decide +kernel)⟩
theorem clF_3 : clF (RX2, TX2, 8) [.int 0, .int 0, .int 0, .int 0, .int 0, .int 0, .int 0, .null] := ⟨atWs_ok (ps := [2107, 2109, 2111, 2113, 2115, 2117, 2119, 2121]) (by decide +kernel), ⟨tyX2, tyX2_ok, by decide +kernel⟩, nmX2, atW_ok (p := 1230) (by decide +kernel), atW_ok (p := 1009) (by decide +kernel), rfl, fun _ => rS_self (by decide +kernel)⟩
theorem clF_4 : clF (RX3, TX3, 5) [.null, .null, .null, .int 0, .int 0] := ⟨atWs_ok (ps := [1084, 1086, 1088, 1090, 1092]) (by decide +kernel), ⟨tyX3, tyX3_ok, by decide +kernel⟩, nmX3, atW_ok (p := 1043) (by decide +kernel), atW_ok (p := 1002) (by decide +kernel), rfl, fun _ => rS_self (by decide +kernel)⟩
theorem clF_5 : clF (RX4, TX4, 7) [.null, .int 0, .int 0, .null, .null, .int 0, .null] := ⟨atWs_ok (ps := [1115, 1117, 1119, 1121, 1123, 1125, 1127]) (by decide +kernel), ⟨tyX4, tyX4_ok, by decide +kernel⟩, nmX4, atW_ok (p := 1096) (by decide +kernel), atW_ok (p := 1004) (by decide +kernel), rfl, fun _ => rS_self (by decide +kernel)⟩
theorem clF_6 : clF (RX5, TX5, 4) [.null, .int 0, .null, .int 0] := ⟨atWs_ok (ps := [1162, 1164, 1166, 1168]) (by decide +kernel), ⟨tyX5, tyX5_ok, by decide +kernel⟩, nmX5, atW_ok (p := 1149) (by decide +kernel), atW_ok (p := 1007) (by decide +kernel), rfl, fun _ => rS_self (by decide +kernel)⟩
theorem clF_7 : clF (RX6, TX6, 6) [.null, .int 0, .int 0, .int 0, .int 0, .int 0] := ⟨atWs_ok (ps := [1063, 1065, 1067, 1069, 1071, 1073]) (by decide +kernel), ⟨tyX6, tyX6_ok, by decide +kernel⟩, nmX6, atW_ok (p := 1049) (by decide +kernel), atW_ok (p := 1003) (by decide +kernel), rfl, fun _ => rS_self (by decide +kernel)⟩
theorem clF_8 : clF (RX7, TX7, 1) [.null] := ⟨atWs_ok (ps := [1139]) (by decide +kernel), ⟨tyX7, tyX7_ok, by decide +kernel⟩, nmX7, atW_ok (p := 1133) (by decide +kernel), atW_ok (p := 1005) (by decide +kernel), rfl, fun _ => rS_self (by decide +kernel)⟩
theorem clF_9 : clF (RX8, TX8, 15) [.int 0, .int 0, .int 0, .int 0, .int 0, .int 0, .int 0, .int 0, .int 0, .int 0, .int 0, .int 0, .int 0, .float 0, .float 0] := ⟨atWs_ok (ps := [2047, 2049, 2051, 2053, 2055, 2057, 2059, 2061, 2063, 2065, 2067, 2069, 2071, 2073, 2075]) (by decide +kernel), ⟨tyX8, tyX8_ok, by decide +kernel⟩, nmX8, atW_ok (p := 1237) (by decide +kernel), atW_ok (p := 1010) (by decide +kernel), rfl, fun _ => rS_self (by decide +kernel)⟩
theorem clF_10 : clF (RX9, TX9, 16) [.int 0, .int 0, .int 0, .int 0, .long 0, .long 0, .int 0, .int 0, .int 0, .int 0, .long 0, .long 0, .int 0, .null, .int 0, .null] := ⟨atWs_ok (ps := [2174, 2176, 2178, 2180, 2182, 2184, 2186, 2188, 2190, 2192, 2194, 2196, 2198, 2200, 2202, 2204]) (by decide +kernel), ⟨tyX9, tyX9_ok, by decide +kernel⟩, nmX9, atW_ok (p := 1223) (by decide +kernel), atW_ok (p := 1008) (by decide +kernel), rfl, fun _ => rS_self (by decide +kernel)⟩
theorem clF_11 : clF (RX10, TX10, 14) [.null, .int 0, .null, .null, .null, .null, .null, .int 0, .null, .null, .null, .null, .null, .null] := ⟨atWs_ok (ps := [3031, 3033, 3035, 3037, 3039, 3041, 3043, 3045, 3047, 3049, 3051, 3053, 3055, 3057]) (by decide +kernel), ⟨tyX10, tyX10_ok, by decide +kernel⟩, nmX10, atW_ok (p := 1035) (by decide +kernel), atW_ok (p := 1001) (by decide +kernel), rfl, fun _ => rS_self (by decide +kernel)⟩
theorem clF_12 : clF (RX11, TX11, 46) [.int 0, .null, .int 0, .int 0, .int 0, .int 0, .int 0, .int 0, .int 0, .int 0, .null, .null, .null, .null, .null, .null, .null, .null, .null, .null, .null, .null, .null, .null, .null, .null, .null, .int 0, .int 0, .null, .null, .null, .null, .null, .int 0, .int 0, .int 0, .null, .null, .null, .null, .null, .int 0, .int 0, .null, .int 0] := ⟨atWs_ok (ps := [8150, 8152, 8154, 8156, 8158, 8160, 8162, 8164, 8166, 8168, 8170, 8172, 8174, 8176, 8178, 8180, 8182, 8184, 8186, 8188, 8190, 8192, 8194, 8196, 8198, 8200, 8202, 8204, 8206, 8208, 8210, 8212, 8214, 8216, 8218, 8220, 8222, 8224, 8226, 8228, 8230, 8232, 8234, 8236, 8238, 9000]) (by decide +kernel), ⟨tyX11, tyX11_ok, by decide +kernel⟩, nmX11, atW_ok (p := 8092) (by decide +kernel), atW_ok (p := 1016) (by decide +kernel), rfl, fun _ => rS_self (by decide +kernel)⟩
theorem clF_of : ∀ (ci : Nat) (r : vw_C), mCl[ci]? = some r → ∃ fs, mDf[ci]? = some fs ∧ clF r fs := by
  intro ci r h
  match ci, h with
  | 0, h => cases h; exact ⟨_, rfl, clF_0⟩
  | 1, h => cases h; exact ⟨_, rfl, clF_1⟩
  | 2, h => cases h; exact ⟨_, rfl, clF_2⟩
  | 3, h => cases h; exact ⟨_, rfl, clF_3⟩
  | 4, h => cases h; exact ⟨_, rfl, clF_4⟩
  | 5, h => cases h; exact ⟨_, rfl, clF_5⟩
  | 6, h => cases h; exact ⟨_, rfl, clF_6⟩
  | 7, h => cases h; exact ⟨_, rfl, clF_7⟩
  | 8, h => cases h; exact ⟨_, rfl, clF_8⟩
  | 9, h => cases h; exact ⟨_, rfl, clF_9⟩
  | 10, h => cases h; exact ⟨_, rfl, clF_10⟩
  | 11, h => cases h; exact ⟨_, rfl, clF_11⟩
  | 12, h => cases h; exact ⟨_, rfl, clF_12⟩
  | k + 13, h => exact absurd h (by simp [mCl])
end TB
