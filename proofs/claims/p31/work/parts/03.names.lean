/-! names and field tables of the classes whose objects lie in the world (begun from claim/NAMES.whole.lean.txt) -/
def TX0 : u_T := fun k => match k with
  | _ => ("", "", "", false)
def tyX0 : Nat → FieldType := fun k => match k with
  | _ => .int
theorem nmX0 : ∀ a, a < 0 → ∀ b, b < 0 → a ≠ b → (TX0 a).2.1 ≠ (TX0 b).2.1 := by decide +kernel
theorem tyX0_ok : ∀ k, k < 0 → parseFieldDescriptor (TX0 k).2.2.1 = some (tyX0 k) := by decide +kernel
def TX1 : u_T := fun k => match k with
  | 0 => ("FairWalls$Fair", "state", "LFairWalls$State;", true)
  | _ => ("FairWalls$Fair", "power", "LFairWalls$Power;", true)
def tyX1 : Nat → FieldType := fun k => match k with
  | 0 => .object "FairWalls$State"
  | _ => .object "FairWalls$Power"
theorem nmX1 : ∀ a, a < 2 → ∀ b, b < 2 → a ≠ b → (TX1 a).2.1 ≠ (TX1 b).2.1 := by decide +kernel
theorem tyX1_ok : ∀ k, k < 2 → parseFieldDescriptor (TX1 k).2.2.1 = some (tyX1 k) := by decide +kernel
def TX2 : u_T := fun k => match k with
  | 0 => ("FairWalls$FairText", "signs", "[C", true)
  | 1 => ("FairWalls$FairText", "numbers", "[I", true)
  | 2 => ("FairWalls$FairText", "size", "I", false)
  | 3 => ("FairWalls$FairText", "position", "I", false)
  | _ => ("FairWalls$FairText", "letter", "I", false)
def tyX2 : Nat → FieldType := fun k => match k with
  | 0 => .array .char
  | 1 => .array .int
  | 2 => .int
  | 3 => .int
  | _ => .int
theorem nmX2 : ∀ a, a < 5 → ∀ b, b < 5 → a ≠ b → (TX2 a).2.1 ≠ (TX2 b).2.1 := by decide +kernel
theorem tyX2_ok : ∀ k, k < 5 → parseFieldDescriptor (TX2 k).2.2.1 = some (tyX2 k) := by decide +kernel
def TX3 : u_T := fun k => match k with
  | 0 => ("FairWalls$Past", "states", "[LFairWalls$State;", true)
  | 1 => ("FairWalls$Past", "next", "I", false)
  | _ => ("FairWalls$Past", "count", "I", false)
def tyX3 : Nat → FieldType := fun k => match k with
  | 0 => .array (.object "FairWalls$State")
  | 1 => .int
  | _ => .int
theorem nmX3 : ∀ a, a < 3 → ∀ b, b < 3 → a ≠ b → (TX3 a).2.1 ≠ (TX3 b).2.1 := by decide +kernel
theorem tyX3_ok : ∀ k, k < 3 → parseFieldDescriptor (TX3 k).2.2.1 = some (tyX3 k) := by decide +kernel
def TX4 : u_T := fun k => match k with
  | 0 => ("FairWalls$Power", "taken", "[I", true)
  | 1 => ("FairWalls$Power", "metres", "[I", true)
  | _ => ("FairWalls$Power", "had", "[I", true)
def tyX4 : Nat → FieldType := fun k => match k with
  | 0 => .array .int
  | 1 => .array .int
  | _ => .array .int
theorem nmX4 : ∀ a, a < 3 → ∀ b, b < 3 → a ≠ b → (TX4 a).2.1 ≠ (TX4 b).2.1 := by decide +kernel
theorem tyX4_ok : ∀ k, k < 3 → parseFieldDescriptor (TX4 k).2.2.1 = some (tyX4 k) := by decide +kernel
def TX5 : u_T := fun k => match k with
  | 0 => ("FairWalls$Slots", "states", "[LFairWalls$State;", true)
  | _ => ("FairWalls$Slots", "filled", "[Z", true)
def tyX5 : Nat → FieldType := fun k => match k with
  | 0 => .array (.object "FairWalls$State")
  | _ => .array .boolean
theorem nmX5 : ∀ a, a < 2 → ∀ b, b < 2 → a ≠ b → (TX5 a).2.1 ≠ (TX5 b).2.1 := by decide +kernel
theorem tyX5_ok : ∀ k, k < 2 → parseFieldDescriptor (TX5 k).2.2.1 = some (tyX5 k) := by decide +kernel
def TX6 : u_T := fun k => match k with
  | 0 => ("FairWalls$State", "length", "[I", true)
  | 1 => ("FairWalls$State", "plugs", "[I", true)
  | 2 => ("FairWalls$State", "goods", "[I", true)
  | 3 => ("FairWalls$State", "frontage", "[I", true)
  | 4 => ("FairWalls$State", "wanted", "[I", true)
  | 5 => ("FairWalls$State", "wall", "[I", true)
  | 6 => ("FairWalls$State", "first", "[I", true)
  | 7 => ("FairWalls$State", "owed", "[I", true)
  | 8 => ("FairWalls$State", "settings", "[I", true)
  | 9 => ("FairWalls$State", "walls", "I", false)
  | 10 => ("FairWalls$State", "dealers", "I", false)
  | 11 => ("FairWalls$State", "day", "I", false)
  | 12 => ("FairWalls$State", "swaps", "I", false)
  | _ => ("FairWalls$State", "refused", "I", false)
def tyX6 : Nat → FieldType := fun k => match k with
  | 0 => .array .int
  | 1 => .array .int
  | 2 => .array .int
  | 3 => .array .int
  | 4 => .array .int
  | 5 => .array .int
  | 6 => .array .int
  | 7 => .array .int
  | 8 => .array .int
  | 9 => .int
  | 10 => .int
  | 11 => .int
  | 12 => .int
  | _ => .int
theorem nmX6 : ∀ a, a < 14 → ∀ b, b < 14 → a ≠ b → (TX6 a).2.1 ≠ (TX6 b).2.1 := by decide +kernel
theorem tyX6_ok : ∀ k, k < 14 → parseFieldDescriptor (TX6 k).2.2.1 = some (tyX6 k) := by decide +kernel
def TX7 : u_T := fun k => match k with
  | 0 => ("FairWalls", "fair", "LFairWalls$Fair;", true)
  | 1 => ("FairWalls", "trial", "LFairWalls$Fair;", true)
  | 2 => ("FairWalls", "past", "LFairWalls$Past;", true)
  | 3 => ("FairWalls", "slots", "LFairWalls$Slots;", true)
  | 4 => ("FairWalls", "text", "LFairWalls$FairText;", true)
  | _ => ("FairWalls", "groups", "[I", true)
def tyX7 : Nat → FieldType := fun k => match k with
  | 0 => .object "FairWalls$Fair"
  | 1 => .object "FairWalls$Fair"
  | 2 => .object "FairWalls$Past"
  | 3 => .object "FairWalls$Slots"
  | 4 => .object "FairWalls$FairText"
  | _ => .array .int
theorem nmX7 : ∀ a, a < 6 → ∀ b, b < 6 → a ≠ b → (TX7 a).2.1 ≠ (TX7 b).2.1 := by decide +kernel
theorem tyX7_ok : ∀ k, k < 6 → parseFieldDescriptor (TX7 k).2.2.1 = some (tyX7 k) := by decide +kernel
def TX8 : u_T := fun k => match k with
  | _ => ("", "", "", false)
def tyX8 : Nat → FieldType := fun k => match k with
  | _ => .int
theorem nmX8 : ∀ a, a < 0 → ∀ b, b < 0 → a ≠ b → (TX8 a).2.1 ≠ (TX8 b).2.1 := by decide +kernel
theorem tyX8_ok : ∀ k, k < 0 → parseFieldDescriptor (TX8 k).2.2.1 = some (tyX8 k) := by decide +kernel
abbrev clsL : List vw_C := [("FairWalls$Fair", TX1, 2), ("FairWalls$Fair", TX1, 2), ("FairWalls$FairText", TX2, 5), ("FairWalls$Past", TX3, 3), ("FairWalls$Power", TX4, 3), ("FairWalls$Slots", TX5, 2), ("FairWalls$State", TX6, 14), ("FairWalls", TX7, 6)]
theorem inTX1 : ∀ w ∈ u_ws "FairWalls$Fair" TX1 2, w ∈ lw_tbl := by decide +kernel
theorem gdTX1 : ∀ w ∈ u_ws "FairWalls$Fair" TX1 2, goodWord w = true := by decide +kernel
theorem inTX2 : ∀ w ∈ u_ws "FairWalls$FairText" TX2 5, w ∈ lw_tbl := by decide +kernel
theorem gdTX2 : ∀ w ∈ u_ws "FairWalls$FairText" TX2 5, goodWord w = true := by decide +kernel
theorem inTX3 : ∀ w ∈ u_ws "FairWalls$Past" TX3 3, w ∈ lw_tbl := by decide +kernel
theorem gdTX3 : ∀ w ∈ u_ws "FairWalls$Past" TX3 3, goodWord w = true := by decide +kernel
theorem inTX4 : ∀ w ∈ u_ws "FairWalls$Power" TX4 3, w ∈ lw_tbl := by decide +kernel
theorem gdTX4 : ∀ w ∈ u_ws "FairWalls$Power" TX4 3, goodWord w = true := by decide +kernel
theorem inTX5 : ∀ w ∈ u_ws "FairWalls$Slots" TX5 2, w ∈ lw_tbl := by decide +kernel
theorem gdTX5 : ∀ w ∈ u_ws "FairWalls$Slots" TX5 2, goodWord w = true := by decide +kernel
theorem inTX6 : ∀ w ∈ u_ws "FairWalls$State" TX6 14, w ∈ lw_tbl := by decide +kernel
theorem gdTX6 : ∀ w ∈ u_ws "FairWalls$State" TX6 14, goodWord w = true := by decide +kernel
theorem inTX7 : ∀ w ∈ u_ws "FairWalls" TX7 6, w ∈ lw_tbl := by decide +kernel
theorem gdTX7 : ∀ w ∈ u_ws "FairWalls" TX7 6, goodWord w = true := by decide +kernel
