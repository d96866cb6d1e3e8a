def RX0 : String := "CoincidenceBureau$Changes"
def TX0 : u_T := fun k => match k with
  | 0 => ("CoincidenceBureau$Changes", "sorts", "[I", true)
  | 1 => ("CoincidenceBureau$Changes", "whose", "[I", true)
  | 2 => ("CoincidenceBureau$Changes", "tenthsWere", "[I", true)
  | _ => ("CoincidenceBureau$Changes", "size", "I", false)
def tyX0 : Nat → FieldType := fun k => match k with
  | 0 => .array .int
  | 1 => .array .int
  | 2 => .array .int
  | _ => .int
theorem nmX0 : ∀ a, a < 4 → ∀ b, b < 4 → a ≠ b → (TX0 a).2.1 ≠ (TX0 b).2.1 := by decide +kernel
theorem tyX0_ok : ∀ k, k < 4 → parseFieldDescriptor (TX0 k).2.2.1 = some (tyX0 k) := by decide +kernel
def RX1 : String := "CoincidenceBureau$Files"
def TX1 : u_T := fun k => match k with
  | 0 => ("CoincidenceBureau$Files", "met", "[I", true)
  | 1 => ("CoincidenceBureau$Files", "unlawful", "[I", true)
  | 2 => ("CoincidenceBureau$Files", "times", "[I", true)
  | 3 => ("CoincidenceBureau$Files", "day", "I", false)
  | 4 => ("CoincidenceBureau$Files", "coincidences", "I", false)
  | 5 => ("CoincidenceBureau$Files", "offences", "I", false)
  | _ => ("CoincidenceBureau$Files", "firstOffence", "I", false)
def tyX1 : Nat → FieldType := fun k => match k with
  | 0 => .array .int
  | 1 => .array .int
  | 2 => .array .int
  | 3 => .int
  | 4 => .int
  | 5 => .int
  | _ => .int
theorem nmX1 : ∀ a, a < 7 → ∀ b, b < 7 → a ≠ b → (TX1 a).2.1 ≠ (TX1 b).2.1 := by decide +kernel
theorem tyX1_ok : ∀ k, k < 7 → parseFieldDescriptor (TX1 k).2.2.1 = some (tyX1 k) := by decide +kernel
def RX2 : String := "CoincidenceBureau$Kept"
def TX2 : u_T := fun k => match k with
  | 0 => ("CoincidenceBureau$Kept", "files", "LCoincidenceBureau$Files;", true)
  | 1 => ("CoincidenceBureau$Kept", "tenths", "[I", true)
  | _ => ("CoincidenceBureau$Kept", "leaves", "I", false)
def tyX2 : Nat → FieldType := fun k => match k with
  | 0 => .object "CoincidenceBureau$Files"
  | 1 => .array .int
  | _ => .int
theorem nmX2 : ∀ a, a < 3 → ∀ b, b < 3 → a ≠ b → (TX2 a).2.1 ≠ (TX2 b).2.1 := by decide +kernel
theorem tyX2_ok : ∀ k, k < 3 → parseFieldDescriptor (TX2 k).2.2.1 = some (tyX2 k) := by decide +kernel
def RX3 : String := "CoincidenceBureau$Lookout"
def TX3 : u_T := fun k => match k with
  | 0 => ("CoincidenceBureau$Lookout", "spots", "[I", true)
  | 1 => ("CoincidenceBureau$Lookout", "heads", "[I", true)
  | _ => ("CoincidenceBureau$Lookout", "met", "[I", true)
def tyX3 : Nat → FieldType := fun k => match k with
  | 0 => .array .int
  | 1 => .array .int
  | _ => .array .int
theorem nmX3 : ∀ a, a < 3 → ∀ b, b < 3 → a ≠ b → (TX3 a).2.1 ≠ (TX3 b).2.1 := by decide +kernel
theorem tyX3_ok : ∀ k, k < 3 → parseFieldDescriptor (TX3 k).2.2.1 = some (tyX3 k) := by decide +kernel
def RX4 : String := "CoincidenceBureau$Stamps"
def TX4 : u_T := fun k => match k with
  | 0 => ("CoincidenceBureau$Stamps", "hours", "[I", true)
  | 1 => ("CoincidenceBureau$Stamps", "places", "[I", true)
  | 2 => ("CoincidenceBureau$Stamps", "heads", "[I", true)
  | _ => ("CoincidenceBureau$Stamps", "size", "I", false)
def tyX4 : Nat → FieldType := fun k => match k with
  | 0 => .array .int
  | 1 => .array .int
  | 2 => .array .int
  | _ => .int
theorem nmX4 : ∀ a, a < 4 → ∀ b, b < 4 → a ≠ b → (TX4 a).2.1 ≠ (TX4 b).2.1 := by decide +kernel
theorem tyX4_ok : ∀ k, k < 4 → parseFieldDescriptor (TX4 k).2.2.1 = some (tyX4 k) := by decide +kernel
def RX5 : String := "CoincidenceBureau$Text"
def TX5 : u_T := fun k => match k with
  | 0 => ("CoincidenceBureau$Text", "letters", "[C", true)
  | 1 => ("CoincidenceBureau$Text", "numbers", "[I", true)
  | 2 => ("CoincidenceBureau$Text", "size", "I", false)
  | _ => ("CoincidenceBureau$Text", "next", "I", false)
def tyX5 : Nat → FieldType := fun k => match k with
  | 0 => .array .char
  | 1 => .array .int
  | 2 => .int
  | _ => .int
theorem nmX5 : ∀ a, a < 4 → ∀ b, b < 4 → a ≠ b → (TX5 a).2.1 ≠ (TX5 b).2.1 := by decide +kernel
theorem tyX5_ok : ∀ k, k < 4 → parseFieldDescriptor (TX5 k).2.2.1 = some (tyX5 k) := by decide +kernel
def RX6 : String := "CoincidenceBureau$Town"
def TX6 : u_T := fun k => match k with
  | 0 => ("CoincidenceBureau$Town", "kinds", "[I", true)
  | 1 => ("CoincidenceBureau$Town", "placeA", "[I", true)
  | 2 => ("CoincidenceBureau$Town", "placeB", "[I", true)
  | 3 => ("CoincidenceBureau$Town", "tenths", "[I", true)
  | 4 => ("CoincidenceBureau$Town", "persons", "I", false)
  | 5 => ("CoincidenceBureau$Town", "leaves", "I", false)
  | 6 => ("CoincidenceBureau$Town", "ban", "I", false)
  | 7 => ("CoincidenceBureau$Town", "crowd", "I", false)
  | 8 => ("CoincidenceBureau$Town", "fine", "I", false)
  | _ => ("CoincidenceBureau$Town", "seed", "I", false)
def tyX6 : Nat → FieldType := fun k => match k with
  | 0 => .array .int
  | 1 => .array .int
  | 2 => .array .int
  | 3 => .array .int
  | 4 => .int
  | 5 => .int
  | 6 => .int
  | 7 => .int
  | 8 => .int
  | _ => .int
theorem nmX6 : ∀ a, a < 10 → ∀ b, b < 10 → a ≠ b → (TX6 a).2.1 ≠ (TX6 b).2.1 := by decide +kernel
theorem tyX6_ok : ∀ k, k < 10 → parseFieldDescriptor (TX6 k).2.2.1 = some (tyX6 k) := by decide +kernel
def RX7 : String := "CoincidenceBureau"
def TX7 : u_T := fun k => match k with
  | 0 => ("CoincidenceBureau", "text", "LCoincidenceBureau$Text;", true)
  | 1 => ("CoincidenceBureau", "town", "LCoincidenceBureau$Town;", false)
  | 2 => ("CoincidenceBureau", "draft", "LCoincidenceBureau$Town;", false)
  | 3 => ("CoincidenceBureau", "files", "LCoincidenceBureau$Files;", true)
  | 4 => ("CoincidenceBureau", "changes", "LCoincidenceBureau$Changes;", true)
  | 5 => ("CoincidenceBureau", "stamps", "LCoincidenceBureau$Stamps;", true)
  | 6 => ("CoincidenceBureau", "keptFirst", "LCoincidenceBureau$Kept;", true)
  | 7 => ("CoincidenceBureau", "keptSecond", "LCoincidenceBureau$Kept;", true)
  | 8 => ("CoincidenceBureau", "keptSize", "I", false)
  | _ => ("CoincidenceBureau", "lookout", "LCoincidenceBureau$Lookout;", true)
def tyX7 : Nat → FieldType := fun k => match k with
  | 0 => .object "CoincidenceBureau$Text"
  | 1 => .object "CoincidenceBureau$Town"
  | 2 => .object "CoincidenceBureau$Town"
  | 3 => .object "CoincidenceBureau$Files"
  | 4 => .object "CoincidenceBureau$Changes"
  | 5 => .object "CoincidenceBureau$Stamps"
  | 6 => .object "CoincidenceBureau$Kept"
  | 7 => .object "CoincidenceBureau$Kept"
  | 8 => .int
  | _ => .object "CoincidenceBureau$Lookout"
theorem nmX7 : ∀ a, a < 10 → ∀ b, b < 10 → a ≠ b → (TX7 a).2.1 ≠ (TX7 b).2.1 := by decide +kernel
theorem tyX7_ok : ∀ k, k < 10 → parseFieldDescriptor (TX7 k).2.2.1 = some (tyX7 k) := by decide +kernel
def RX8 : String := "CoincidenceBureauModel"
def TX8 : u_T := fun k => match k with
  | 0 => ("CoincidenceBureauModel", "text", "[I", true)
  | 1 => ("CoincidenceBureauModel", "typed", "I", false)
  | 2 => ("CoincidenceBureauModel", "told", "[I", true)
  | 3 => ("CoincidenceBureauModel", "draft", "[I", true)
  | 4 => ("CoincidenceBureauModel", "begun", "[I", true)
  | 5 => ("CoincidenceBureauModel", "s", "[I", true)
  | 6 => ("CoincidenceBureauModel", "past", "[I", true)
  | 7 => ("CoincidenceBureauModel", "known", "I", false)
  | 8 => ("CoincidenceBureauModel", "images", "[I", true)
  | 9 => ("CoincidenceBureauModel", "kept", "I", false)
  | 10 => ("CoincidenceBureauModel", "stamps", "[I", true)
  | 11 => ("CoincidenceBureauModel", "stamped", "I", false)
  | 12 => ("CoincidenceBureauModel", "at", "I", false)
  | _ => ("CoincidenceBureauModel", "held", "[I", true)
def tyX8 : Nat → FieldType := fun k => match k with
  | 0 => .array .int
  | 1 => .int
  | 2 => .array .int
  | 3 => .array .int
  | 4 => .array .int
  | 5 => .array .int
  | 6 => .array .int
  | 7 => .int
  | 8 => .array .int
  | 9 => .int
  | 10 => .array .int
  | 11 => .int
  | 12 => .int
  | _ => .array .int
theorem nmX8 : ∀ a, a < 14 → ∀ b, b < 14 → a ≠ b → (TX8 a).2.1 ≠ (TX8 b).2.1 := by decide +kernel
theorem tyX8_ok : ∀ k, k < 14 → parseFieldDescriptor (TX8 k).2.2.1 = some (tyX8 k) := by decide +kernel
/-- the classes whose objects the worlds hold -/
def pm_cl : List vw_C := [(RX0, TX0, 4), (RX1, TX1, 7), (RX2, TX2, 3), (RX3, TX3, 3), (RX4, TX4, 4), (RX5, TX5, 4), (RX6, TX6, 10), (RX7, TX7, 10), (RX8, TX8, 14)]
