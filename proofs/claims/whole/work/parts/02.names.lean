def RX0 : String := "CutStones$Drawing"
def TX0 : u_T := fun k => match k with
  | 0 => ("CutStones$Drawing", "cells", "[I", true)
  | 1 => ("CutStones$Drawing", "wide", "I", false)
  | 2 => ("CutStones$Drawing", "high", "I", false)
  | 3 => ("CutStones$Drawing", "heft", "I", false)
  | 4 => ("CutStones$Drawing", "filledColumns", "I", false)
  | 5 => ("CutStones$Drawing", "firstColumn", "I", false)
  | 6 => ("CutStones$Drawing", "lastColumn", "I", false)
  | _ => ("CutStones$Drawing", "lastRow", "I", false)
def tyX0 : Nat → FieldType := fun k => match k with
  | 0 => .array .int
  | 1 => .int
  | 2 => .int
  | 3 => .int
  | 4 => .int
  | 5 => .int
  | 6 => .int
  | _ => .int
theorem nmX0 : ∀ a, a < 8 → ∀ b, b < 8 → a ≠ b → (TX0 a).2.1 ≠ (TX0 b).2.1 := by decide +kernel
theorem tyX0_ok : ∀ k, k < 8 → parseFieldDescriptor (TX0 k).2.2.1 = some (tyX0 k) := by decide +kernel
def RX1 : String := "CutStones$House"
def TX1 : u_T := fun k => match k with
  | 0 => ("CutStones$House", "stuffs", "[LCutStones$Stuff;", true)
  | 1 => ("CutStones$House", "stuffCount", "I", false)
  | 2 => ("CutStones$House", "cuts", "[LCutStones$Drawing;", true)
  | 3 => ("CutStones$House", "cutCount", "I", false)
  | 4 => ("CutStones$House", "roughs", "[LCutStones$Drawing;", true)
  | 5 => ("CutStones$House", "roughCount", "I", false)
  | 6 => ("CutStones$House", "grades", "[LCutStones$Rule;", true)
  | 7 => ("CutStones$House", "gradeCount", "I", false)
  | 8 => ("CutStones$House", "prices", "[LCutStones$Rule;", true)
  | 9 => ("CutStones$House", "priceCount", "I", false)
  | 10 => ("CutStones$House", "names", "[J", true)
  | 11 => ("CutStones$House", "nameCount", "I", false)
  | 12 => ("CutStones$House", "codeKinds", "[I", true)
  | 13 => ("CutStones$House", "codeValues", "[I", true)
  | _ => ("CutStones$House", "codeLength", "I", false)
def tyX1 : Nat → FieldType := fun k => match k with
  | 0 => .array (.object "CutStones$Stuff")
  | 1 => .int
  | 2 => .array (.object "CutStones$Drawing")
  | 3 => .int
  | 4 => .array (.object "CutStones$Drawing")
  | 5 => .int
  | 6 => .array (.object "CutStones$Rule")
  | 7 => .int
  | 8 => .array (.object "CutStones$Rule")
  | 9 => .int
  | 10 => .array .long
  | 11 => .int
  | 12 => .array .int
  | 13 => .array .int
  | _ => .int
theorem nmX1 : ∀ a, a < 15 → ∀ b, b < 15 → a ≠ b → (TX1 a).2.1 ≠ (TX1 b).2.1 := by decide +kernel
theorem tyX1_ok : ∀ k, k < 15 → parseFieldDescriptor (TX1 k).2.2.1 = some (tyX1 k) := by decide +kernel
def RX2 : String := "CutStones$Light"
def TX2 : u_T := fun k => match k with
  | 0 => ("CutStones$Light", "trace", "[I", true)
  | 1 => ("CutStones$Light", "steps", "I", false)
  | 2 => ("CutStones$Light", "sums", "[I", true)
  | 3 => ("CutStones$Light", "upward", "[I", true)
  | 4 => ("CutStones$Light", "flawSteps", "I", false)
  | 5 => ("CutStones$Light", "flat", "I", false)
  | 6 => ("CutStones$Light", "slant", "I", false)
  | 7 => ("CutStones$Light", "eats", "I", false)
  | 8 => ("CutStones$Light", "x", "I", false)
  | 9 => ("CutStones$Light", "y", "I", false)
  | 10 => ("CutStones$Light", "way", "I", false)
  | _ => ("CutStones$Light", "strength", "I", false)
def tyX2 : Nat → FieldType := fun k => match k with
  | 0 => .array .int
  | 1 => .int
  | 2 => .array .int
  | 3 => .array .int
  | 4 => .int
  | 5 => .int
  | 6 => .int
  | 7 => .int
  | 8 => .int
  | 9 => .int
  | 10 => .int
  | _ => .int
theorem nmX2 : ∀ a, a < 12 → ∀ b, b < 12 → a ≠ b → (TX2 a).2.1 ≠ (TX2 b).2.1 := by decide +kernel
theorem tyX2_ok : ∀ k, k < 12 → parseFieldDescriptor (TX2 k).2.2.1 = some (tyX2 k) := by decide +kernel
def RX3 : String := "CutStones$Reader"
def TX3 : u_T := fun k => match k with
  | 0 => ("CutStones$Reader", "fault", "I", false)
  | 1 => ("CutStones$Reader", "faultPlace", "I", false)
  | 2 => ("CutStones$Reader", "house", "LCutStones$House;", false)
  | 3 => ("CutStones$Reader", "at", "I", false)
  | 4 => ("CutStones$Reader", "laterFault", "I", false)
  | _ => ("CutStones$Reader", "laterPlace", "I", false)
def tyX3 : Nat → FieldType := fun k => match k with
  | 0 => .int
  | 1 => .int
  | 2 => .object "CutStones$House"
  | 3 => .int
  | 4 => .int
  | _ => .int
theorem nmX3 : ∀ a, a < 6 → ∀ b, b < 6 → a ≠ b → (TX3 a).2.1 ≠ (TX3 b).2.1 := by decide +kernel
theorem tyX3_ok : ∀ k, k < 6 → parseFieldDescriptor (TX3 k).2.2.1 = some (tyX3 k) := by decide +kernel
def RX4 : String := "CutStones$Reckoner"
def TX4 : u_T := fun k => match k with
  | 0 => ("CutStones$Reckoner", "stack", "[I", true)
  | 1 => ("CutStones$Reckoner", "height", "I", false)
  | _ => ("CutStones$Reckoner", "broken", "Z", false)
def tyX4 : Nat → FieldType := fun k => match k with
  | 0 => .array .int
  | 1 => .int
  | _ => .boolean
theorem nmX4 : ∀ a, a < 3 → ∀ b, b < 3 → a ≠ b → (TX4 a).2.1 ≠ (TX4 b).2.1 := by decide +kernel
theorem tyX4_ok : ∀ k, k < 3 → parseFieldDescriptor (TX4 k).2.2.1 = some (tyX4 k) := by decide +kernel
def RX5 : String := "CutStones$Rule"
def TX5 : u_T := fun k => match k with
  | 0 => ("CutStones$Rule", "worth", "I", false)
  | 1 => ("CutStones$Rule", "condition", "I", false)
  | _ => ("CutStones$Rule", "end", "I", false)
def tyX5 : Nat → FieldType := fun k => match k with
  | 0 => .int
  | 1 => .int
  | _ => .int
theorem nmX5 : ∀ a, a < 3 → ∀ b, b < 3 → a ≠ b → (TX5 a).2.1 ≠ (TX5 b).2.1 := by decide +kernel
theorem tyX5_ok : ∀ k, k < 3 → parseFieldDescriptor (TX5 k).2.2.1 = some (tyX5 k) := by decide +kernel
def RX6 : String := "CutStones$Shine"
def TX6 : u_T := fun k => match k with
  | 0 => ("CutStones$Shine", "sums", "[I", true)
  | 1 => ("CutStones$Shine", "light", "LCutStones$Light;", true)
  | 2 => ("CutStones$Shine", "wide", "I", false)
  | 3 => ("CutStones$Shine", "heft", "I", false)
  | 4 => ("CutStones$Shine", "colour", "I", false)
  | 5 => ("CutStones$Shine", "above", "I", false)
  | 6 => ("CutStones$Shine", "left", "I", false)
  | 7 => ("CutStones$Shine", "right", "I", false)
  | 8 => ("CutStones$Shine", "headFrom", "I", false)
  | _ => ("CutStones$Shine", "headTo", "I", false)
def tyX6 : Nat → FieldType := fun k => match k with
  | 0 => .array .int
  | 1 => .object "CutStones$Light"
  | 2 => .int
  | 3 => .int
  | 4 => .int
  | 5 => .int
  | 6 => .int
  | 7 => .int
  | 8 => .int
  | _ => .int
theorem nmX6 : ∀ a, a < 10 → ∀ b, b < 10 → a ≠ b → (TX6 a).2.1 ≠ (TX6 b).2.1 := by decide +kernel
theorem tyX6_ok : ∀ k, k < 10 → parseFieldDescriptor (TX6 k).2.2.1 = some (tyX6 k) := by decide +kernel
def RX7 : String := "CutStones$Stuff"
def TX7 : u_T := fun k => match k with
  | 0 => ("CutStones$Stuff", "flat", "[I", true)
  | 1 => ("CutStones$Stuff", "slant", "[I", true)
  | _ => ("CutStones$Stuff", "eats", "I", false)
def tyX7 : Nat → FieldType := fun k => match k with
  | 0 => .array .int
  | 1 => .array .int
  | _ => .int
theorem nmX7 : ∀ a, a < 3 → ∀ b, b < 3 → a ≠ b → (TX7 a).2.1 ≠ (TX7 b).2.1 := by decide +kernel
theorem tyX7_ok : ∀ k, k < 3 → parseFieldDescriptor (TX7 k).2.2.1 = some (tyX7 k) := by decide +kernel
def RX8 : String := "CutStones$Tape"
def TX8 : u_T := fun k => match k with
  | 0 => ("CutStones$Tape", "bytes", "[B", true)
  | 1 => ("CutStones$Tape", "length", "I", false)
  | 2 => ("CutStones$Tape", "kinds", "[I", true)
  | 3 => ("CutStones$Tape", "starts", "[I", true)
  | _ => ("CutStones$Tape", "values", "[J", true)
def tyX8 : Nat → FieldType := fun k => match k with
  | 0 => .array .byte
  | 1 => .int
  | 2 => .array .int
  | 3 => .array .int
  | _ => .array .long
theorem nmX8 : ∀ a, a < 5 → ∀ b, b < 5 → a ≠ b → (TX8 a).2.1 ≠ (TX8 b).2.1 := by decide +kernel
theorem tyX8_ok : ∀ k, k < 5 → parseFieldDescriptor (TX8 k).2.2.1 = some (tyX8 k) := by decide +kernel
def RX9 : String := "CutStones$Tests"
def TX9 : u_T := fun k => match k with
  | 0 => ("CutStones$Tests", "size", "I", false)
  | 1 => ("CutStones$Tests", "cuts", "[I", true)
  | 2 => ("CutStones$Tests", "colours", "[I", true)
  | 3 => ("CutStones$Tests", "seenBright", "[I", true)
  | _ => ("CutStones$Tests", "voided", "[I", true)
def tyX9 : Nat → FieldType := fun k => match k with
  | 0 => .int
  | 1 => .array .int
  | 2 => .array .int
  | 3 => .array .int
  | _ => .array .int
theorem nmX9 : ∀ a, a < 5 → ∀ b, b < 5 → a ≠ b → (TX9 a).2.1 ≠ (TX9 b).2.1 := by decide +kernel
theorem tyX9_ok : ∀ k, k < 5 → parseFieldDescriptor (TX9 k).2.2.1 = some (tyX9 k) := by decide +kernel
def RX10 : String := "CutStones"
def TX10 : u_T := fun k => match k with
  | 0 => ("CutStones", "tape", "LCutStones$Tape;", true)
  | 1 => ("CutStones", "reader", "LCutStones$Reader;", true)
  | 2 => ("CutStones", "house", "LCutStones$House;", false)
  | 3 => ("CutStones", "alone", "LCutStones$Light;", true)
  | 4 => ("CutStones", "followed", "Z", false)
  | 5 => ("CutStones", "shown", "LCutStones$Shine;", true)
  | 6 => ("CutStones", "shone", "Z", false)
  | 7 => ("CutStones", "trial", "LCutStones$Shine;", true)
  | 8 => ("CutStones", "reckoner", "LCutStones$Reckoner;", true)
  | 9 => ("CutStones", "prices", "[I", true)
  | 10 => ("CutStones", "lying", "[I", true)
  | 11 => ("CutStones", "tests", "LCutStones$Tests;", true)
  | _ => ("CutStones", "brights", "[I", true)
def tyX10 : Nat → FieldType := fun k => match k with
  | 0 => .object "CutStones$Tape"
  | 1 => .object "CutStones$Reader"
  | 2 => .object "CutStones$House"
  | 3 => .object "CutStones$Light"
  | 4 => .boolean
  | 5 => .object "CutStones$Shine"
  | 6 => .boolean
  | 7 => .object "CutStones$Shine"
  | 8 => .object "CutStones$Reckoner"
  | 9 => .array .int
  | 10 => .array .int
  | 11 => .object "CutStones$Tests"
  | _ => .array .int
theorem nmX10 : ∀ a, a < 13 → ∀ b, b < 13 → a ≠ b → (TX10 a).2.1 ≠ (TX10 b).2.1 := by decide +kernel
theorem tyX10_ok : ∀ k, k < 13 → parseFieldDescriptor (TX10 k).2.2.1 = some (tyX10 k) := by decide +kernel
def RX11 : String := "CutStonesModel"
def TX11 : u_T := fun k => match k with
  | 0 => ("CutStonesModel", "thrown", "I", false)
  | 1 => ("CutStonesModel", "tape", "[B", true)
  | 2 => ("CutStonesModel", "taped", "I", false)
  | 3 => ("CutStonesModel", "text", "[B", true)
  | 4 => ("CutStonesModel", "size", "I", false)
  | 5 => ("CutStonesModel", "tKind", "[I", true)
  | 6 => ("CutStonesModel", "tPlace", "[I", true)
  | 7 => ("CutStonesModel", "tValue", "[I", true)
  | 8 => ("CutStonesModel", "tName", "[J", true)
  | 9 => ("CutStonesModel", "keys", "[J", true)
  | 10 => ("CutStonesModel", "tokens", "I", false)
  | 11 => ("CutStonesModel", "t", "I", false)
  | 12 => ("CutStonesModel", "open", "I", false)
  | 13 => ("CutStonesModel", "fault", "I", false)
  | 14 => ("CutStonesModel", "faultPlace", "I", false)
  | 15 => ("CutStonesModel", "worst", "I", false)
  | 16 => ("CutStonesModel", "worstPlace", "I", false)
  | 17 => ("CutStonesModel", "place", "I", false)
  | 18 => ("CutStonesModel", "live", "I", false)
  | 19 => ("CutStonesModel", "side", "I", false)
  | 20 => ("CutStonesModel", "names", "[I", true)
  | 21 => ("CutStonesModel", "nameOf", "[J", true)
  | 22 => ("CutStonesModel", "stuffs", "[I", true)
  | 23 => ("CutStonesModel", "flat", "[I", true)
  | 24 => ("CutStonesModel", "slant", "[I", true)
  | 25 => ("CutStonesModel", "eats", "[I", true)
  | 26 => ("CutStonesModel", "cuts", "[I", true)
  | 27 => ("CutStonesModel", "roughs", "[I", true)
  | 28 => ("CutStonesModel", "wide", "[I", true)
  | 29 => ("CutStonesModel", "high", "[I", true)
  | 30 => ("CutStonesModel", "cells", "[I", true)
  | 31 => ("CutStonesModel", "grades", "[I", true)
  | 32 => ("CutStonesModel", "prices", "[I", true)
  | 33 => ("CutStonesModel", "ruleFrom", "[I", true)
  | 34 => ("CutStonesModel", "ruleTo", "[I", true)
  | 35 => ("CutStonesModel", "litFirst", "[I", true)
  | 36 => ("CutStonesModel", "litLast", "[I", true)
  | 37 => ("CutStonesModel", "lits", "I", false)
  | 38 => ("CutStonesModel", "litSort", "[I", true)
  | 39 => ("CutStonesModel", "litNot", "[Z", true)
  | 40 => ("CutStonesModel", "litOr", "[Z", true)
  | 41 => ("CutStonesModel", "litLeft", "[I", true)
  | 42 => ("CutStonesModel", "litRight", "[I", true)
  | 43 => ("CutStonesModel", "litEnd", "[I", true)
  | 44 => ("CutStonesModel", "codes", "I", false)
  | 45 => ("CutStonesModel", "code", "[I", true)
  | 46 => ("CutStonesModel", "codeInt", "[I", true)
  | 47 => ("CutStonesModel", "waits", "[I", true)
  | 48 => ("CutStonesModel", "waiting", "I", false)
  | 49 => ("CutStonesModel", "variables", "[I", true)
  | 50 => ("CutStonesModel", "pile", "[I", true)
  | 51 => ("CutStonesModel", "isBroken", "Z", false)
  | 52 => ("CutStonesModel", "out", "[I", true)
  | 53 => ("CutStonesModel", "outUp", "[I", true)
  | 54 => ("CutStonesModel", "glare", "I", false)
  | 55 => ("CutStonesModel", "eaten", "I", false)
  | 56 => ("CutStonesModel", "rest", "I", false)
  | 57 => ("CutStonesModel", "steps", "I", false)
  | 58 => ("CutStonesModel", "inFlaws", "I", false)
  | 59 => ("CutStonesModel", "given", "I", false)
  | 60 => ("CutStonesModel", "trail", "[I", true)
  | 61 => ("CutStonesModel", "isRay", "Z", false)
  | 62 => ("CutStonesModel", "raySteps", "I", false)
  | 63 => ("CutStonesModel", "rayTrail", "[I", true)
  | 64 => ("CutStonesModel", "raySpark", "[I", true)
  | 65 => ("CutStonesModel", "isShine", "Z", false)
  | 66 => ("CutStonesModel", "shineWide", "I", false)
  | 67 => ("CutStonesModel", "shineVariables", "[I", true)
  | 68 => ("CutStonesModel", "shineSeen", "[I", true)
  | 69 => ("CutStonesModel", "shineUp", "[I", true)
  | 70 => ("CutStonesModel", "isLaid", "Z", false)
  | 71 => ("CutStonesModel", "laidOf", "[I", true)
  | 72 => ("CutStonesModel", "priceOf", "[I", true)
  | 73 => ("CutStonesModel", "leftAt", "[I", true)
  | 74 => ("CutStonesModel", "rightAt", "[I", true)
  | 75 => ("CutStonesModel", "tests", "I", false)
  | 76 => ("CutStonesModel", "of", "[I", true)
  | 77 => ("CutStonesModel", "testCut", "[I", true)
  | 78 => ("CutStonesModel", "testColour", "[I", true)
  | _ => ("CutStonesModel", "testBright", "[I", true)
def tyX11 : Nat → FieldType := fun k => match k with
  | 0 => .int
  | 1 => .array .byte
  | 2 => .int
  | 3 => .array .byte
  | 4 => .int
  | 5 => .array .int
  | 6 => .array .int
  | 7 => .array .int
  | 8 => .array .long
  | 9 => .array .long
  | 10 => .int
  | 11 => .int
  | 12 => .int
  | 13 => .int
  | 14 => .int
  | 15 => .int
  | 16 => .int
  | 17 => .int
  | 18 => .int
  | 19 => .int
  | 20 => .array .int
  | 21 => .array .long
  | 22 => .array .int
  | 23 => .array .int
  | 24 => .array .int
  | 25 => .array .int
  | 26 => .array .int
  | 27 => .array .int
  | 28 => .array .int
  | 29 => .array .int
  | 30 => .array .int
  | 31 => .array .int
  | 32 => .array .int
  | 33 => .array .int
  | 34 => .array .int
  | 35 => .array .int
  | 36 => .array .int
  | 37 => .int
  | 38 => .array .int
  | 39 => .array .boolean
  | 40 => .array .boolean
  | 41 => .array .int
  | 42 => .array .int
  | 43 => .array .int
  | 44 => .int
  | 45 => .array .int
  | 46 => .array .int
  | 47 => .array .int
  | 48 => .int
  | 49 => .array .int
  | 50 => .array .int
  | 51 => .boolean
  | 52 => .array .int
  | 53 => .array .int
  | 54 => .int
  | 55 => .int
  | 56 => .int
  | 57 => .int
  | 58 => .int
  | 59 => .int
  | 60 => .array .int
  | 61 => .boolean
  | 62 => .int
  | 63 => .array .int
  | 64 => .array .int
  | 65 => .boolean
  | 66 => .int
  | 67 => .array .int
  | 68 => .array .int
  | 69 => .array .int
  | 70 => .boolean
  | 71 => .array .int
  | 72 => .array .int
  | 73 => .array .int
  | 74 => .array .int
  | 75 => .int
  | 76 => .array .int
  | 77 => .array .int
  | 78 => .array .int
  | _ => .array .int
theorem nmX11 : ∀ a, a < 80 → ∀ b, b < 80 → a ≠ b → (TX11 a).2.1 ≠ (TX11 b).2.1 := by decide +kernel
theorem tyX11_ok : ∀ k, k < 80 → parseFieldDescriptor (TX11 k).2.2.1 = some (tyX11 k) := by decide +kernel
abbrev zw_cl : List vw_C := [(RX0, TX0, 8), (RX1, TX1, 15), (RX2, TX2, 12), (RX3, TX3, 6), (RX4, TX4, 3), (RX5, TX5, 3), (RX6, TX6, 10), (RX7, TX7, 3), (RX8, TX8, 5), (RX9, TX9, 5), (RX10, TX10, 13), (RX11, TX11, 80)]
def zw_NF (c : Nat) : Nat := [8, 15, 12, 6, 3, 3, 10, 3, 5, 5, 13, 80].getD c 0
def zw_ty (c : Nat) : Nat → FieldType := match c with
  | 0 => tyX0
  | 1 => tyX1
  | 2 => tyX2
  | 3 => tyX3
  | 4 => tyX4
  | 5 => tyX5
  | 6 => tyX6
  | 7 => tyX7
  | 8 => tyX8
  | 9 => tyX9
  | 10 => tyX10
  | _ => tyX11
def zw_TG : List Cond := lw_tbl.filter goodWord
theorem zw_mG {w : Cond} (h : w ∈ lw_tbl) (g : goodWord w = true) : w ∈ zw_TG := List.mem_filter.mpr ⟨h, g⟩
set_option maxRecDepth 20000 in
theorem zw_in0 : ∀ w ∈ u_ws RX0 TX0 8, w ∈ zw_TG := by
  have h : (u_ws RX0 TX0 8).all (fun w => decide (w ∈ lw_tbl) && goodWord w) = true := by decide +kernel
  intro w hw
  have h1 := List.all_eq_true.mp h w hw
  simp only [Bool.and_eq_true, decide_eq_true_eq] at h1
  exact zw_mG h1.1 h1.2
set_option maxRecDepth 20000 in
theorem zw_in1 : ∀ w ∈ u_ws RX1 TX1 15, w ∈ zw_TG := by
  have h : (u_ws RX1 TX1 15).all (fun w => decide (w ∈ lw_tbl) && goodWord w) = true := by decide +kernel
  intro w hw
  have h1 := List.all_eq_true.mp h w hw
  simp only [Bool.and_eq_true, decide_eq_true_eq] at h1
  exact zw_mG h1.1 h1.2
set_option maxRecDepth 20000 in
theorem zw_in2 : ∀ w ∈ u_ws RX2 TX2 12, w ∈ zw_TG := by
  have h : (u_ws RX2 TX2 12).all (fun w => decide (w ∈ lw_tbl) && goodWord w) = true := by decide +kernel
  intro w hw
  have h1 := List.all_eq_true.mp h w hw
  simp only [Bool.and_eq_true, decide_eq_true_eq] at h1
  exact zw_mG h1.1 h1.2
set_option maxRecDepth 20000 in
theorem zw_in3 : ∀ w ∈ u_ws RX3 TX3 6, w ∈ zw_TG := by
  have h : (u_ws RX3 TX3 6).all (fun w => decide (w ∈ lw_tbl) && goodWord w) = true := by decide +kernel
  intro w hw
  have h1 := List.all_eq_true.mp h w hw
  simp only [Bool.and_eq_true, decide_eq_true_eq] at h1
  exact zw_mG h1.1 h1.2
set_option maxRecDepth 20000 in
theorem zw_in4 : ∀ w ∈ u_ws RX4 TX4 3, w ∈ zw_TG := by
  have h : (u_ws RX4 TX4 3).all (fun w => decide (w ∈ lw_tbl) && goodWord w) = true := by decide +kernel
  intro w hw
  have h1 := List.all_eq_true.mp h w hw
  simp only [Bool.and_eq_true, decide_eq_true_eq] at h1
  exact zw_mG h1.1 h1.2
set_option maxRecDepth 20000 in
theorem zw_in5 : ∀ w ∈ u_ws RX5 TX5 3, w ∈ zw_TG := by
  have h : (u_ws RX5 TX5 3).all (fun w => decide (w ∈ lw_tbl) && goodWord w) = true := by decide +kernel
  intro w hw
  have h1 := List.all_eq_true.mp h w hw
  simp only [Bool.and_eq_true, decide_eq_true_eq] at h1
  exact zw_mG h1.1 h1.2
set_option maxRecDepth 20000 in
theorem zw_in6 : ∀ w ∈ u_ws RX6 TX6 10, w ∈ zw_TG := by
  have h : (u_ws RX6 TX6 10).all (fun w => decide (w ∈ lw_tbl) && goodWord w) = true := by decide +kernel
  intro w hw
  have h1 := List.all_eq_true.mp h w hw
  simp only [Bool.and_eq_true, decide_eq_true_eq] at h1
  exact zw_mG h1.1 h1.2
set_option maxRecDepth 20000 in
theorem zw_in7 : ∀ w ∈ u_ws RX7 TX7 3, w ∈ zw_TG := by
  have h : (u_ws RX7 TX7 3).all (fun w => decide (w ∈ lw_tbl) && goodWord w) = true := by decide +kernel
  intro w hw
  have h1 := List.all_eq_true.mp h w hw
  simp only [Bool.and_eq_true, decide_eq_true_eq] at h1
  exact zw_mG h1.1 h1.2
set_option maxRecDepth 20000 in
theorem zw_in8 : ∀ w ∈ u_ws RX8 TX8 5, w ∈ zw_TG := by
  have h : (u_ws RX8 TX8 5).all (fun w => decide (w ∈ lw_tbl) && goodWord w) = true := by decide +kernel
  intro w hw
  have h1 := List.all_eq_true.mp h w hw
  simp only [Bool.and_eq_true, decide_eq_true_eq] at h1
  exact zw_mG h1.1 h1.2
set_option maxRecDepth 20000 in
theorem zw_in9 : ∀ w ∈ u_ws RX9 TX9 5, w ∈ zw_TG := by
  have h : (u_ws RX9 TX9 5).all (fun w => decide (w ∈ lw_tbl) && goodWord w) = true := by decide +kernel
  intro w hw
  have h1 := List.all_eq_true.mp h w hw
  simp only [Bool.and_eq_true, decide_eq_true_eq] at h1
  exact zw_mG h1.1 h1.2
set_option maxRecDepth 20000 in
theorem zw_in10 : ∀ w ∈ u_ws RX10 TX10 13, w ∈ zw_TG := by
  have h : (u_ws RX10 TX10 13).all (fun w => decide (w ∈ lw_tbl) && goodWord w) = true := by decide +kernel
  intro w hw
  have h1 := List.all_eq_true.mp h w hw
  simp only [Bool.and_eq_true, decide_eq_true_eq] at h1
  exact zw_mG h1.1 h1.2
set_option maxRecDepth 20000 in
theorem zw_in11 : ∀ w ∈ u_ws RX11 TX11 80, w ∈ zw_TG := by
  have h : (u_ws RX11 TX11 80).all (fun w => decide (w ∈ lw_tbl) && goodWord w) = true := by decide +kernel
  intro w hw
  have h1 := List.all_eq_true.mp h w hw
  simp only [Bool.and_eq_true, decide_eq_true_eq] at h1
  exact zw_mG h1.1 h1.2
def zw_TN : List Cond := [.methodLinkNest "CutStones" 9 ⟨"CutStones$Tape", "<init>", "()V"⟩ "CutStones",
  .methodLinkNest "CutStones" 18 ⟨"CutStones$Reader", "<init>", "()V"⟩ "CutStones",
  .methodLinkNest "CutStones$House" 68 ⟨"CutStones$Stuff", "<init>", "()V"⟩ "CutStones",
  .methodLinkNest "CutStones$House" 69 ⟨"CutStones$Drawing", "<init>", "()V"⟩ "CutStones",
  .methodLinkNest "CutStones$House" 70 ⟨"CutStones$Rule", "<init>", "()V"⟩ "CutStones",
  .methodLinkNest "CutStones" 32 ⟨"CutStones$Light", "<init>", "()V"⟩ "CutStones",
  .methodLinkNest "CutStones" 43 ⟨"CutStones$Shine", "<init>", "()V"⟩ "CutStones",
  .methodLinkNest "CutStones$Shine" 17 ⟨"CutStones$Light", "<init>", "()V"⟩ "CutStones",
  .methodLinkNest "CutStones" 56 ⟨"CutStones$Reckoner", "<init>", "()V"⟩ "CutStones",
  .methodLinkNest "CutStones" 70 ⟨"CutStones$Tests", "<init>", "()V"⟩ "CutStones",
  .methodLinkNest "CutStones$Tape" 58 ⟨"CutStones", "cellOf", "(I)I"⟩ "CutStones",
  .methodLinkNest "CutStones$Drawing" 49 ⟨"CutStones", "cellOf", "(I)I"⟩ "CutStones",
  .fieldLinkNest "CutStones$Drawing" 55 "CutStones" "WEIGHTS" "[I" "CutStones",
  .fieldLinkNest "CutStones$Drawing" 61 "CutStones" "MIRRORED" "[I" "CutStones",
  .fieldLinkNest "CutStones$Light" 79 "CutStones" "WAY_X" "[I" "CutStones",
  .fieldLinkNest "CutStones$Light" 82 "CutStones" "WAY_Y" "[I" "CutStones",
  .fieldLinkNest "CutStones$Light" 85 "CutStones" "SIDES" "[I" "CutStones",
  .fieldLinkNest "CutStones$Light" 92 "CutStones" "SIDE_SUMS" "[I" "CutStones",
  .methodLinkNest "CutStones$Shine" 90 ⟨"CutStones", "isTold", "(II)Z"⟩ "CutStones"]
theorem zw_TN_in : ∀ w ∈ zw_TN, w ∈ lw_tbl := by decide +kernel
