def RX0 : String := "MoonLodger$Holding"
def TX0 : u_T := fun k => match k with
  | 0 => ("MoonLodger$Holding", "kinds", "[I", true)
  | 1 => ("MoonLodger$Holding", "heights", "[I", true)
  | 2 => ("MoonLodger$Holding", "moment", "LMoonLodger$Moment;", true)
  | 3 => ("MoonLodger$Holding", "past", "[I", true)
  | 4 => ("MoonLodger$Holding", "pastFirst", "I", false)
  | 5 => ("MoonLodger$Holding", "pastCount", "I", false)
  | 6 => ("MoonLodger$Holding", "work", "LMoonLodger$Pairs;", true)
  | 7 => ("MoonLodger$Holding", "dark", "LMoonLodger$Pairs;", true)
  | 8 => ("MoonLodger$Holding", "seen", "LMoonLodger$Pairs;", true)
  | 9 => ("MoonLodger$Holding", "read", "LMoonLodger$Pairs;", true)
  | 10 => ("MoonLodger$Holding", "gains", "[I", true)
  | 11 => ("MoonLodger$Holding", "ruling", "I", false)
  | _ => ("MoonLodger$Holding", "texts", "I", false)
def tyX0 : Nat → FieldType := fun k => match k with
  | 0 => .array .int
  | 1 => .array .int
  | 2 => .object "MoonLodger$Moment"
  | 3 => .array .int
  | 4 => .int
  | 5 => .int
  | 6 => .object "MoonLodger$Pairs"
  | 7 => .object "MoonLodger$Pairs"
  | 8 => .object "MoonLodger$Pairs"
  | 9 => .object "MoonLodger$Pairs"
  | 10 => .array .int
  | 11 => .int
  | _ => .int
theorem nmX0 : ∀ a, a < 13 → ∀ b, b < 13 → a ≠ b → (TX0 a).2.1 ≠ (TX0 b).2.1 := by decide +kernel
theorem tyX0_ok : ∀ k, k < 13 → parseFieldDescriptor (TX0 k).2.2.1 = some (tyX0 k) := by decide +kernel
def RX1 : String := "MoonLodger$Laws"
def TX1 : u_T := fun k => match k with
  | 0 => ("MoonLodger$Laws", "paths", "LMoonLodger$Paths;", true)
  | 1 => ("MoonLodger$Laws", "farm", "LMoonLodger$Holding;", true)
  | 2 => ("MoonLodger$Laws", "shining", "LMoonLodger$Reckoner;", true)
  | 3 => ("MoonLodger$Laws", "asking", "LMoonLodger$Reckoner;", true)
  | 4 => ("MoonLodger$Laws", "text", "LMoonLodger$Text;", false)
  | 5 => ("MoonLodger$Laws", "moon", "I", false)
  | 6 => ("MoonLodger$Laws", "hour", "I", false)
  | 7 => ("MoonLodger$Laws", "size", "I", false)
  | 8 => ("MoonLodger$Laws", "found", "[I", true)
  | _ => ("MoonLodger$Laws", "round", "I", false)
def tyX1 : Nat → FieldType := fun k => match k with
  | 0 => .object "MoonLodger$Paths"
  | 1 => .object "MoonLodger$Holding"
  | 2 => .object "MoonLodger$Reckoner"
  | 3 => .object "MoonLodger$Reckoner"
  | 4 => .object "MoonLodger$Text"
  | 5 => .int
  | 6 => .int
  | 7 => .int
  | 8 => .array .int
  | _ => .int
theorem nmX1 : ∀ a, a < 10 → ∀ b, b < 10 → a ≠ b → (TX1 a).2.1 ≠ (TX1 b).2.1 := by decide +kernel
theorem tyX1_ok : ∀ k, k < 10 → parseFieldDescriptor (TX1 k).2.2.1 = some (tyX1 k) := by decide +kernel
def RX2 : String := "MoonLodger$Lease"
def TX2 : u_T := fun k => match k with
  | 0 => ("MoonLodger$Lease", "worths", "[I", true)
  | 1 => ("MoonLodger$Lease", "together", "I", false)
  | _ => ("MoonLodger$Lease", "months", "I", false)
def tyX2 : Nat → FieldType := fun k => match k with
  | 0 => .array .int
  | 1 => .int
  | _ => .int
theorem nmX2 : ∀ a, a < 3 → ∀ b, b < 3 → a ≠ b → (TX2 a).2.1 ≠ (TX2 b).2.1 := by decide +kernel
theorem tyX2_ok : ∀ k, k < 3 → parseFieldDescriptor (TX2 k).2.2.1 = some (tyX2 k) := by decide +kernel
def RX3 : String := "MoonLodger$Moment"
def TX3 : u_T := fun k => match k with
  | 0 => ("MoonLodger$Moment", "moon", "I", false)
  | 1 => ("MoonLodger$Moment", "silver", "I", false)
  | 2 => ("MoonLodger$Moment", "hour", "I", false)
  | 3 => ("MoonLodger$Moment", "x", "I", false)
  | 4 => ("MoonLodger$Moment", "beasts", "I", false)
  | 5 => ("MoonLodger$Moment", "at", "[I", true)
  | 6 => ("MoonLodger$Moment", "mood", "[I", true)
  | 7 => ("MoonLodger$Moment", "kicked", "[I", true)
  | 8 => ("MoonLodger$Moment", "kicks", "[I", true)
  | 9 => ("MoonLodger$Moment", "bookFirst", "I", false)
  | _ => ("MoonLodger$Moment", "bookCount", "I", false)
def tyX3 : Nat → FieldType := fun k => match k with
  | 0 => .int
  | 1 => .int
  | 2 => .int
  | 3 => .int
  | 4 => .int
  | 5 => .array .int
  | 6 => .array .int
  | 7 => .array .int
  | 8 => .array .int
  | 9 => .int
  | _ => .int
theorem nmX3 : ∀ a, a < 11 → ∀ b, b < 11 → a ≠ b → (TX3 a).2.1 ≠ (TX3 b).2.1 := by decide +kernel
theorem tyX3_ok : ∀ k, k < 11 → parseFieldDescriptor (TX3 k).2.2.1 = some (tyX3 k) := by decide +kernel
def RX4 : String := "MoonLodger$Pairs"
def TX4 : u_T := fun k => match k with
  | 0 => ("MoonLodger$Pairs", "cells", "[I", true)
  | 1 => ("MoonLodger$Pairs", "values", "[I", true)
  | _ => ("MoonLodger$Pairs", "count", "I", false)
def tyX4 : Nat → FieldType := fun k => match k with
  | 0 => .array .int
  | 1 => .array .int
  | _ => .int
theorem nmX4 : ∀ a, a < 3 → ∀ b, b < 3 → a ≠ b → (TX4 a).2.1 ≠ (TX4 b).2.1 := by decide +kernel
theorem tyX4_ok : ∀ k, k < 3 → parseFieldDescriptor (TX4 k).2.2.1 = some (tyX4 k) := by decide +kernel
def RX5 : String := "MoonLodger$Paths"
def TX5 : u_T := fun k => match k with
  | 0 => ("MoonLodger$Paths", "open", "I", false)
  | 1 => ("MoonLodger$Paths", "measured", "I", false)
  | _ => ("MoonLodger$Paths", "rows", "[I", true)
def tyX5 : Nat → FieldType := fun k => match k with
  | 0 => .int
  | 1 => .int
  | _ => .array .int
theorem nmX5 : ∀ a, a < 3 → ∀ b, b < 3 → a ≠ b → (TX5 a).2.1 ≠ (TX5 b).2.1 := by decide +kernel
theorem tyX5_ok : ∀ k, k < 3 → parseFieldDescriptor (TX5 k).2.2.1 = some (tyX5 k) := by decide +kernel
def RX6 : String := "MoonLodger$Reader"
def TX6 : u_T := fun k => match k with
  | 0 => ("MoonLodger$Reader", "tape", "LMoonLodger$Tape;", false)
  | 1 => ("MoonLodger$Reader", "text", "LMoonLodger$Text;", false)
  | 2 => ("MoonLodger$Reader", "law", "I", false)
  | 3 => ("MoonLodger$Reader", "fault", "I", false)
  | _ => ("MoonLodger$Reader", "place", "I", false)
def tyX6 : Nat → FieldType := fun k => match k with
  | 0 => .object "MoonLodger$Tape"
  | 1 => .object "MoonLodger$Text"
  | 2 => .int
  | 3 => .int
  | _ => .int
theorem nmX6 : ∀ a, a < 5 → ∀ b, b < 5 → a ≠ b → (TX6 a).2.1 ≠ (TX6 b).2.1 := by decide +kernel
theorem tyX6_ok : ∀ k, k < 5 → parseFieldDescriptor (TX6 k).2.2.1 = some (tyX6 k) := by decide +kernel
def RX7 : String := "MoonLodger$Reckoner"
def TX7 : u_T := fun k => match k with
  | 0 => ("MoonLodger$Reckoner", "stack", "[I", true)
  | _ => ("MoonLodger$Reckoner", "names", "[I", true)
def tyX7 : Nat → FieldType := fun k => match k with
  | 0 => .array .int
  | _ => .array .int
theorem nmX7 : ∀ a, a < 2 → ∀ b, b < 2 → a ≠ b → (TX7 a).2.1 ≠ (TX7 b).2.1 := by decide +kernel
theorem tyX7_ok : ∀ k, k < 2 → parseFieldDescriptor (TX7 k).2.2.1 = some (tyX7 k) := by decide +kernel
def RX8 : String := "MoonLodger$Seating"
def TX8 : u_T := fun k => match k with
  | 0 => ("MoonLodger$Seating", "seats", "[I", false)
  | 1 => ("MoonLodger$Seating", "ways", "[I", false)
  | 2 => ("MoonLodger$Seating", "nextSeats", "[I", false)
  | 3 => ("MoonLodger$Seating", "nextWays", "[I", false)
  | 4 => ("MoonLodger$Seating", "most", "I", false)
  | _ => ("MoonLodger$Seating", "waysOfMost", "I", false)
def tyX8 : Nat → FieldType := fun k => match k with
  | 0 => .array .int
  | 1 => .array .int
  | 2 => .array .int
  | 3 => .array .int
  | 4 => .int
  | _ => .int
theorem nmX8 : ∀ a, a < 6 → ∀ b, b < 6 → a ≠ b → (TX8 a).2.1 ≠ (TX8 b).2.1 := by decide +kernel
theorem tyX8_ok : ∀ k, k < 6 → parseFieldDescriptor (TX8 k).2.2.1 = some (tyX8 k) := by decide +kernel
def RX9 : String := "MoonLodger$Tape"
def TX9 : u_T := fun k => match k with
  | 0 => ("MoonLodger$Tape", "bytes", "[I", true)
  | 1 => ("MoonLodger$Tape", "length", "I", false)
  | 2 => ("MoonLodger$Tape", "tokens", "[I", true)
  | 3 => ("MoonLodger$Tape", "tokenCount", "I", false)
  | 4 => ("MoonLodger$Tape", "at", "I", false)
  | 5 => ("MoonLodger$Tape", "behind", "I", false)
  | _ => ("MoonLodger$Tape", "wordStarts", "[I", true)
def tyX9 : Nat → FieldType := fun k => match k with
  | 0 => .array .int
  | 1 => .int
  | 2 => .array .int
  | 3 => .int
  | 4 => .int
  | 5 => .int
  | _ => .array .int
theorem nmX9 : ∀ a, a < 7 → ∀ b, b < 7 → a ≠ b → (TX9 a).2.1 ≠ (TX9 b).2.1 := by decide +kernel
theorem tyX9_ok : ∀ k, k < 7 → parseFieldDescriptor (TX9 k).2.2.1 = some (tyX9 k) := by decide +kernel
def RX10 : String := "MoonLodger$Text"
def TX10 : u_T := fun k => match k with
  | 0 => ("MoonLodger$Text", "words", "[I", true)
  | 1 => ("MoonLodger$Text", "firsts", "[I", true)
  | 2 => ("MoonLodger$Text", "seconds", "[I", true)
  | 3 => ("MoonLodger$Text", "clauses", "I", false)
  | 4 => ("MoonLodger$Text", "code", "[I", true)
  | 5 => ("MoonLodger$Text", "length", "I", false)
  | 6 => ("MoonLodger$Text", "starts", "[I", true)
  | _ => ("MoonLodger$Text", "ends", "[I", true)
def tyX10 : Nat → FieldType := fun k => match k with
  | 0 => .array .int
  | 1 => .array .int
  | 2 => .array .int
  | 3 => .int
  | 4 => .array .int
  | 5 => .int
  | 6 => .array .int
  | _ => .array .int
theorem nmX10 : ∀ a, a < 8 → ∀ b, b < 8 → a ≠ b → (TX10 a).2.1 ≠ (TX10 b).2.1 := by decide +kernel
theorem tyX10_ok : ∀ k, k < 8 → parseFieldDescriptor (TX10 k).2.2.1 = some (tyX10 k) := by decide +kernel
def RX11 : String := "MoonLodger"
def TX11 : u_T := fun k => match k with
  | 0 => ("MoonLodger", "laws", "LMoonLodger$Laws;", true)
  | 1 => ("MoonLodger", "now", "LMoonLodger$Holding;", true)
  | 2 => ("MoonLodger", "paths", "LMoonLodger$Paths;", true)
  | 3 => ("MoonLodger", "kept", "LMoonLodger$Holding;", true)
  | 4 => ("MoonLodger", "ahead", "LMoonLodger$Moment;", true)
  | 5 => ("MoonLodger", "texts", "[LMoonLodger$Text;", true)
  | 6 => ("MoonLodger", "tape", "LMoonLodger$Tape;", true)
  | 7 => ("MoonLodger", "reader", "LMoonLodger$Reader;", true)
  | 8 => ("MoonLodger", "seating", "LMoonLodger$Seating;", true)
  | 9 => ("MoonLodger", "leasing", "LMoonLodger$Lease;", true)
  | _ => ("MoonLodger", "lights", "[I", true)
def tyX11 : Nat → FieldType := fun k => match k with
  | 0 => .object "MoonLodger$Laws"
  | 1 => .object "MoonLodger$Holding"
  | 2 => .object "MoonLodger$Paths"
  | 3 => .object "MoonLodger$Holding"
  | 4 => .object "MoonLodger$Moment"
  | 5 => .array (.object "MoonLodger$Text")
  | 6 => .object "MoonLodger$Tape"
  | 7 => .object "MoonLodger$Reader"
  | 8 => .object "MoonLodger$Seating"
  | 9 => .object "MoonLodger$Lease"
  | _ => .array .int
theorem nmX11 : ∀ a, a < 11 → ∀ b, b < 11 → a ≠ b → (TX11 a).2.1 ≠ (TX11 b).2.1 := by decide +kernel
theorem tyX11_ok : ∀ k, k < 11 → parseFieldDescriptor (TX11 k).2.2.1 = some (tyX11 k) := by decide +kernel
def RX12 : String := "MoonLodgerModel"
def TX12 : u_T := fun k => match k with
  | 0 => ("MoonLodgerModel", "a", "[I", true)
  | 1 => ("MoonLodgerModel", "image", "[I", true)
  | 2 => ("MoonLodgerModel", "texts", "[I", true)
  | 3 => ("MoonLodgerModel", "tape", "[I", true)
  | 4 => ("MoonLodgerModel", "taped", "I", false)
  | 5 => ("MoonLodgerModel", "fault", "I", false)
  | 6 => ("MoonLodgerModel", "faultPlace", "I", false)
  | 7 => ("MoonLodgerModel", "at", "I", false)
  | 8 => ("MoonLodgerModel", "place", "I", false)
  | 9 => ("MoonLodgerModel", "token", "I", false)
  | 10 => ("MoonLodgerModel", "number", "I", false)
  | 11 => ("MoonLodgerModel", "word", "J", false)
  | 12 => ("MoonLodgerModel", "text0", "I", false)
  | 13 => ("MoonLodgerModel", "written", "I", false)
  | 14 => ("MoonLodgerModel", "sort0", "I", false)
  | 15 => ("MoonLodgerModel", "pile", "[I", true)
  | 16 => ("MoonLodgerModel", "piled", "I", false)
  | 17 => ("MoonLodgerModel", "opens", "I", false)
  | 18 => ("MoonLodgerModel", "isWhole", "Z", false)
  | 19 => ("MoonLodgerModel", "once", "I", false)
  | 20 => ("MoonLodgerModel", "named", "[I", true)
  | 21 => ("MoonLodgerModel", "lights", "[I", true)
  | 22 => ("MoonLodgerModel", "values", "[J", true)
  | 23 => ("MoonLodgerModel", "truth", "[Z", true)
  | 24 => ("MoonLodgerModel", "far", "[I", true)
  | 25 => ("MoonLodgerModel", "isWritten", "Z", false)
  | 26 => ("MoonLodgerModel", "kicked", "I", false)
  | 27 => ("MoonLodgerModel", "aside", "[I", true)
  | 28 => ("MoonLodgerModel", "tells", "[I", true)
  | 29 => ("MoonLodgerModel", "sit", "[I", true)
  | 30 => ("MoonLodgerModel", "sat", "[I", true)
  | 31 => ("MoonLodgerModel", "waysNow", "[I", true)
  | _ => ("MoonLodgerModel", "waysThen", "[I", true)
def tyX12 : Nat → FieldType := fun k => match k with
  | 0 => .array .int
  | 1 => .array .int
  | 2 => .array .int
  | 3 => .array .int
  | 4 => .int
  | 5 => .int
  | 6 => .int
  | 7 => .int
  | 8 => .int
  | 9 => .int
  | 10 => .int
  | 11 => .long
  | 12 => .int
  | 13 => .int
  | 14 => .int
  | 15 => .array .int
  | 16 => .int
  | 17 => .int
  | 18 => .boolean
  | 19 => .int
  | 20 => .array .int
  | 21 => .array .int
  | 22 => .array .long
  | 23 => .array .boolean
  | 24 => .array .int
  | 25 => .boolean
  | 26 => .int
  | 27 => .array .int
  | 28 => .array .int
  | 29 => .array .int
  | 30 => .array .int
  | 31 => .array .int
  | _ => .array .int
theorem nmX12 : ∀ a, a < 33 → ∀ b, b < 33 → a ≠ b → (TX12 a).2.1 ≠ (TX12 b).2.1 := by decide +kernel
theorem tyX12_ok : ∀ k, k < 33 → parseFieldDescriptor (TX12 k).2.2.1 = some (tyX12 k) := by decide +kernel
abbrev gC : List vw_C := [(RX0, TX0, 13), (RX1, TX1, 10), (RX2, TX2, 3), (RX3, TX3, 11), (RX4, TX4, 3), (RX5, TX5, 3), (RX6, TX6, 5), (RX7, TX7, 2), (RX8, TX8, 6), (RX9, TX9, 7), (RX10, TX10, 8), (RX11, TX11, 11), (RX12, TX12, 33)]
def gTy : Nat → Nat → FieldType := fun c => match c with
  | 0 => tyX0
  | 1 => tyX1
  | 2 => tyX2
  | 3 => tyX3
  | 4 => tyX4
  | 5 => tyX5
  | 6 => tyX6
  | 7 => tyX7
  | 8 => tyX8
  | 9 => tyX9
  | 10 => tyX10
  | 11 => tyX11
  | _ => tyX12
