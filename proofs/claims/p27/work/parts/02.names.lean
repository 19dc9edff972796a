/-! names of classes, fields, methods, their code (extracted by gen_code.py) -/
def RX0 : String := "BraidHorns$Carrier"
def TX0 : u_T := fun k => match k with
  | 0 => ("BraidHorns$Carrier", "there", "Z", false)
  | 1 => ("BraidHorns$Carrier", "place", "I", false)
  | 2 => ("BraidHorns$Carrier", "ells", "I", false)
  | 3 => ("BraidHorns$Carrier", "broken", "Z", false)
  | 4 => ("BraidHorns$Carrier", "inner", "I", false)
  | 5 => ("BraidHorns$Carrier", "outer", "I", false)
  | _ => ("BraidHorns$Carrier", "spent", "I", false)
def tyX0 : Nat → FieldType := fun k => match k with
  | 0 => .boolean
  | 1 => .int
  | 2 => .int
  | 3 => .boolean
  | 4 => .int
  | 5 => .int
  | _ => .int
theorem nmX0 : ∀ a, a < 7 → ∀ b, b < 7 → a ≠ b → (TX0 a).2.1 ≠ (TX0 b).2.1 := by decide +kernel
theorem tyX0_ok : ∀ k, k < 7 → parseFieldDescriptor (TX0 k).2.2.1 = some (tyX0 k) := by decide +kernel
def RX2 : String := "BraidHorns$Pad"
def TX2 : u_T := fun k => match k with
  | 0 => ("BraidHorns$Pad", "signs", "[C", true)
  | _ => ("BraidHorns$Pad", "length", "I", false)
def tyX2 : Nat → FieldType := fun k => match k with
  | 0 => .array .char
  | _ => .int
theorem nmX2 : ∀ a, a < 2 → ∀ b, b < 2 → a ≠ b → (TX2 a).2.1 ≠ (TX2 b).2.1 := by decide +kernel
theorem tyX2_ok : ∀ k, k < 2 → parseFieldDescriptor (TX2 k).2.2.1 = some (tyX2 k) := by decide +kernel
def RX3 : String := "BraidHorns$Track"
def TX3 : u_T := fun k => match k with
  | 0 => ("BraidHorns$Track", "settings", "[I", true)
  | 1 => ("BraidHorns$Track", "carriers", "[LBraidHorns$Carrier;", true)
  | 2 => ("BraidHorns$Track", "steps", "I", false)
  | 3 => ("BraidHorns$Track", "cord", "I", false)
  | 4 => ("BraidHorns$Track", "knots", "I", false)
  | 5 => ("BraidHorns$Track", "waste", "I", false)
  | 6 => ("BraidHorns$Track", "filled", "I", false)
  | 7 => ("BraidHorns$Track", "spent", "I", false)
  | _ => ("BraidHorns$Track", "reason", "I", false)
def tyX3 : Nat → FieldType := fun k => match k with
  | 0 => .array .int
  | 1 => .array (.object "BraidHorns$Carrier")
  | 2 => .int
  | 3 => .int
  | 4 => .int
  | 5 => .int
  | 6 => .int
  | 7 => .int
  | _ => .int
theorem nmX3 : ∀ a, a < 9 → ∀ b, b < 9 → a ≠ b → (TX3 a).2.1 ≠ (TX3 b).2.1 := by decide +kernel
theorem tyX3_ok : ∀ k, k < 9 → parseFieldDescriptor (TX3 k).2.2.1 = some (tyX3 k) := by decide +kernel
def RX4 : String := "BraidHorns"
def TX4 : u_T := fun k => match k with
  | 0 => ("BraidHorns", "track", "LBraidHorns$Track;", true)
  | 1 => ("BraidHorns", "history", "[LBraidHorns$Track;", true)
  | 2 => ("BraidHorns", "changes", "I", false)
  | 3 => ("BraidHorns", "slots", "[LBraidHorns$Track;", true)
  | 4 => ("BraidHorns", "saved", "[Z", true)
  | _ => ("BraidHorns", "pad", "LBraidHorns$Pad;", true)
def tyX4 : Nat → FieldType := fun k => match k with
  | 0 => .object "BraidHorns$Track"
  | 1 => .array (.object "BraidHorns$Track")
  | 2 => .int
  | 3 => .array (.object "BraidHorns$Track")
  | 4 => .array .boolean
  | _ => .object "BraidHorns$Pad"
theorem nmX4 : ∀ a, a < 6 → ∀ b, b < 6 → a ≠ b → (TX4 a).2.1 ≠ (TX4 b).2.1 := by decide +kernel
theorem tyX4_ok : ∀ k, k < 6 → parseFieldDescriptor (TX4 k).2.2.1 = some (tyX4 k) := by decide +kernel
