def RX0 : String := "StepWorld$Box"
def TX0 : u_T := fun k => match k with
  | 0 => ("StepWorld$Box", "kind", "I", false)
  | 1 => ("StepWorld$Box", "p", "I", false)
  | 2 => ("StepWorld$Box", "q", "I", false)
  | 3 => ("StepWorld$Box", "a", "I", false)
  | 4 => ("StepWorld$Box", "b", "I", false)
  | 5 => ("StepWorld$Box", "jump", "I", false)
  | 6 => ("StepWorld$Box", "time", "I", false)
  | 7 => ("StepWorld$Box", "turned", "Z", false)
  | 8 => ("StepWorld$Box", "lastA", "I", false)
  | 9 => ("StepWorld$Box", "lastB", "I", false)
  | _ => ("StepWorld$Box", "lines", "LStepWorld$Lines;", false)
def tyX0 : Nat → FieldType := fun k => match k with
  | 0 => .int
  | 1 => .int
  | 2 => .int
  | 3 => .int
  | 4 => .int
  | 5 => .int
  | 6 => .int
  | 7 => .boolean
  | 8 => .int
  | 9 => .int
  | _ => .object "StepWorld$Lines"
theorem nmX0 : ∀ a, a < 11 → ∀ b, b < 11 → a ≠ b → (TX0 a).2.1 ≠ (TX0 b).2.1 := by decide +kernel
theorem tyX0_ok : ∀ k, k < 11 → parseFieldDescriptor (TX0 k).2.2.1 = some (tyX0 k) := by decide +kernel
def RX1 : String := "StepWorld$History"
def TX1 : u_T := fun k => match k with
  | 0 => ("StepWorld$History", "rows", "[LStepWorld$World;", true)
  | 1 => ("StepWorld$History", "first", "I", false)
  | _ => ("StepWorld$History", "length", "I", false)
def tyX1 : Nat → FieldType := fun k => match k with
  | 0 => .array (.object "StepWorld$World")
  | 1 => .int
  | _ => .int
theorem nmX1 : ∀ a, a < 3 → ∀ b, b < 3 → a ≠ b → (TX1 a).2.1 ≠ (TX1 b).2.1 := by decide +kernel
theorem tyX1_ok : ∀ k, k < 3 → parseFieldDescriptor (TX1 k).2.2.1 = some (tyX1 k) := by decide +kernel
def RX2 : String := "StepWorld$Hours"
def TX2 : u_T := fun k => match k with
  | 0 => ("StepWorld$Hours", "reckoner", "LStepWorld$Reckoner;", true)
  | 1 => ("StepWorld$Hours", "row", "[I", true)
  | _ => ("StepWorld$Hours", "bestRow", "[I", true)
def tyX2 : Nat → FieldType := fun k => match k with
  | 0 => .object "StepWorld$Reckoner"
  | 1 => .array .int
  | _ => .array .int
theorem nmX2 : ∀ a, a < 3 → ∀ b, b < 3 → a ≠ b → (TX2 a).2.1 ≠ (TX2 b).2.1 := by decide +kernel
theorem tyX2_ok : ∀ k, k < 3 → parseFieldDescriptor (TX2 k).2.2.1 = some (tyX2 k) := by decide +kernel
def RX3 : String := "StepWorld$Lines"
def TX3 : u_T := fun k => match k with
  | 0 => ("StepWorld$Lines", "code", "[I", true)
  | 1 => ("StepWorld$Lines", "starts", "[I", true)
  | _ => ("StepWorld$Lines", "ends", "[I", true)
def tyX3 : Nat → FieldType := fun k => match k with
  | 0 => .array .int
  | 1 => .array .int
  | _ => .array .int
theorem nmX3 : ∀ a, a < 3 → ∀ b, b < 3 → a ≠ b → (TX3 a).2.1 ≠ (TX3 b).2.1 := by decide +kernel
theorem tyX3_ok : ∀ k, k < 3 → parseFieldDescriptor (TX3 k).2.2.1 = some (tyX3 k) := by decide +kernel
def RX4 : String := "StepWorld$Machines"
def TX4 : u_T := fun k => match k with
  | 0 => ("StepWorld$Machines", "laid", "[I", true)
  | 1 => ("StepWorld$Machines", "bestLaid", "[I", true)
  | 2 => ("StepWorld$Machines", "free", "[I", true)
  | 3 => ("StepWorld$Machines", "done", "[I", true)
  | _ => ("StepWorld$Machines", "waits", "[I", true)
def tyX4 : Nat → FieldType := fun k => match k with
  | 0 => .array .int
  | 1 => .array .int
  | 2 => .array .int
  | 3 => .array .int
  | _ => .array .int
theorem nmX4 : ∀ a, a < 5 → ∀ b, b < 5 → a ≠ b → (TX4 a).2.1 ≠ (TX4 b).2.1 := by decide +kernel
theorem tyX4_ok : ∀ k, k < 5 → parseFieldDescriptor (TX4 k).2.2.1 = some (tyX4 k) := by decide +kernel
def RX5 : String := "StepWorld$Reckoner"
def TX5 : u_T := fun k => match k with
  | _ => ("StepWorld$Reckoner", "stack", "[I", true)
def tyX5 : Nat → FieldType := fun k => match k with
  | _ => .array .int
theorem nmX5 : ∀ a, a < 1 → ∀ b, b < 1 → a ≠ b → (TX5 a).2.1 ≠ (TX5 b).2.1 := by decide +kernel
theorem tyX5_ok : ∀ k, k < 1 → parseFieldDescriptor (TX5 k).2.2.1 = some (tyX5 k) := by decide +kernel
def RX6 : String := "StepWorld$Rings"
def TX6 : u_T := fun k => match k with
  | 0 => ("StepWorld$Rings", "reckoner", "LStepWorld$Reckoner;", true)
  | 1 => ("StepWorld$Rings", "seams", "[I", true)
  | 2 => ("StepWorld$Rings", "seamCount", "I", false)
  | _ => ("StepWorld$Rings", "numbers", "[I", true)
def tyX6 : Nat → FieldType := fun k => match k with
  | 0 => .object "StepWorld$Reckoner"
  | 1 => .array .int
  | 2 => .int
  | _ => .array .int
theorem nmX6 : ∀ a, a < 4 → ∀ b, b < 4 → a ≠ b → (TX6 a).2.1 ≠ (TX6 b).2.1 := by decide +kernel
theorem tyX6_ok : ∀ k, k < 4 → parseFieldDescriptor (TX6 k).2.2.1 = some (tyX6 k) := by decide +kernel
def RX7 : String := "StepWorld$Seam"
def TX7 : u_T := fun k => match k with
  | 0 => ("StepWorld$Seam", "fromBox", "I", false)
  | 1 => ("StepWorld$Seam", "out", "I", false)
  | 2 => ("StepWorld$Seam", "toBox", "I", false)
  | 3 => ("StepWorld$Seam", "door", "I", false)
  | 4 => ("StepWorld$Seam", "last", "I", false)
  | 5 => ("StepWorld$Seam", "before", "I", false)
  | 6 => ("StepWorld$Seam", "earlier", "I", false)
  | 7 => ("StepWorld$Seam", "owes", "I", false)
  | 8 => ("StepWorld$Seam", "low", "I", false)
  | _ => ("StepWorld$Seam", "high", "I", false)
def tyX7 : Nat → FieldType := fun k => match k with
  | 0 => .int
  | 1 => .int
  | 2 => .int
  | 3 => .int
  | 4 => .int
  | 5 => .int
  | 6 => .int
  | 7 => .int
  | 8 => .int
  | _ => .int
theorem nmX7 : ∀ a, a < 10 → ∀ b, b < 10 → a ≠ b → (TX7 a).2.1 ≠ (TX7 b).2.1 := by decide +kernel
theorem tyX7_ok : ∀ k, k < 10 → parseFieldDescriptor (TX7 k).2.2.1 = some (tyX7 k) := by decide +kernel
def RX8 : String := "StepWorld$Sheet"
def TX8 : u_T := fun k => match k with
  | 0 => ("StepWorld$Sheet", "numbers", "[I", true)
  | 1 => ("StepWorld$Sheet", "size", "I", false)
  | _ => ("StepWorld$Sheet", "bits", "I", false)
def tyX8 : Nat → FieldType := fun k => match k with
  | 0 => .array .int
  | 1 => .int
  | _ => .int
theorem nmX8 : ∀ a, a < 3 → ∀ b, b < 3 → a ≠ b → (TX8 a).2.1 ≠ (TX8 b).2.1 := by decide +kernel
theorem tyX8_ok : ∀ k, k < 3 → parseFieldDescriptor (TX8 k).2.2.1 = some (tyX8 k) := by decide +kernel
def RX9 : String := "StepWorld$Tape"
def TX9 : u_T := fun k => match k with
  | 0 => ("StepWorld$Tape", "bytes", "[I", true)
  | 1 => ("StepWorld$Tape", "length", "I", false)
  | 2 => ("StepWorld$Tape", "code", "[I", true)
  | 3 => ("StepWorld$Tape", "codes", "I", false)
  | 4 => ("StepWorld$Tape", "waiting", "[I", true)
  | 5 => ("StepWorld$Tape", "waits", "I", false)
  | 6 => ("StepWorld$Tape", "starts", "[I", true)
  | 7 => ("StepWorld$Tape", "ends", "[I", true)
  | 8 => ("StepWorld$Tape", "state", "I", false)
  | 9 => ("StepWorld$Tape", "open", "I", false)
  | 10 => ("StepWorld$Tape", "lines", "I", false)
  | 11 => ("StepWorld$Tape", "letter", "I", false)
  | _ => ("StepWorld$Tape", "lineStart", "I", false)
def tyX9 : Nat → FieldType := fun k => match k with
  | 0 => .array .int
  | 1 => .int
  | 2 => .array .int
  | 3 => .int
  | 4 => .array .int
  | 5 => .int
  | 6 => .array .int
  | 7 => .array .int
  | 8 => .int
  | 9 => .int
  | 10 => .int
  | 11 => .int
  | _ => .int
theorem nmX9 : ∀ a, a < 13 → ∀ b, b < 13 → a ≠ b → (TX9 a).2.1 ≠ (TX9 b).2.1 := by decide +kernel
theorem tyX9_ok : ∀ k, k < 13 → parseFieldDescriptor (TX9 k).2.2.1 = some (tyX9 k) := by decide +kernel
def RX10 : String := "StepWorld$World"
def TX10 : u_T := fun k => match k with
  | 0 => ("StepWorld$World", "whole", "I", false)
  | 1 => ("StepWorld$World", "hour", "I", false)
  | 2 => ("StepWorld$World", "rule", "I", false)
  | 3 => ("StepWorld$World", "leaps", "I", false)
  | 4 => ("StepWorld$World", "leftHour", "I", false)
  | 5 => ("StepWorld$World", "leftSeam", "I", false)
  | 6 => ("StepWorld$World", "boxCount", "I", false)
  | 7 => ("StepWorld$World", "seamCount", "I", false)
  | 8 => ("StepWorld$World", "eventCount", "I", false)
  | 9 => ("StepWorld$World", "boxes", "[LStepWorld$Box;", true)
  | 10 => ("StepWorld$World", "seams", "[LStepWorld$Seam;", true)
  | 11 => ("StepWorld$World", "order", "[I", true)
  | 12 => ("StepWorld$World", "into", "[I", true)
  | 13 => ("StepWorld$World", "eventHours", "[I", true)
  | 14 => ("StepWorld$World", "eventBoxes", "[I", true)
  | _ => ("StepWorld$World", "eventNumbers", "[I", true)
def tyX10 : Nat → FieldType := fun k => match k with
  | 0 => .int
  | 1 => .int
  | 2 => .int
  | 3 => .int
  | 4 => .int
  | 5 => .int
  | 6 => .int
  | 7 => .int
  | 8 => .int
  | 9 => .array (.object "StepWorld$Box")
  | 10 => .array (.object "StepWorld$Seam")
  | 11 => .array .int
  | 12 => .array .int
  | 13 => .array .int
  | 14 => .array .int
  | _ => .array .int
theorem nmX10 : ∀ a, a < 16 → ∀ b, b < 16 → a ≠ b → (TX10 a).2.1 ≠ (TX10 b).2.1 := by decide +kernel
theorem tyX10_ok : ∀ k, k < 16 → parseFieldDescriptor (TX10 k).2.2.1 = some (tyX10 k) := by decide +kernel
def RX11 : String := "StepWorld"
def TX11 : u_T := fun k => match k with
  | 0 => ("StepWorld", "now", "LStepWorld$World;", true)
  | 1 => ("StepWorld", "side", "LStepWorld$World;", true)
  | 2 => ("StepWorld", "other", "LStepWorld$World;", true)
  | 3 => ("StepWorld", "picture", "LStepWorld$World;", true)
  | 4 => ("StepWorld", "imaged", "Z", false)
  | 5 => ("StepWorld", "history", "LStepWorld$History;", true)
  | 6 => ("StepWorld", "plain", "LStepWorld$Lines;", true)
  | 7 => ("StepWorld", "tape", "LStepWorld$Tape;", true)
  | 8 => ("StepWorld", "told", "LStepWorld$Box;", true)
  | 9 => ("StepWorld", "reckoner", "LStepWorld$Reckoner;", true)
  | 10 => ("StepWorld", "hours", "LStepWorld$Hours;", true)
  | 11 => ("StepWorld", "rings", "LStepWorld$Rings;", true)
  | 12 => ("StepWorld", "machines", "LStepWorld$Machines;", true)
  | 13 => ("StepWorld", "sheets", "[LStepWorld$Sheet;", true)
  | _ => ("StepWorld", "findings", "[I", true)
def tyX11 : Nat → FieldType := fun k => match k with
  | 0 => .object "StepWorld$World"
  | 1 => .object "StepWorld$World"
  | 2 => .object "StepWorld$World"
  | 3 => .object "StepWorld$World"
  | 4 => .boolean
  | 5 => .object "StepWorld$History"
  | 6 => .object "StepWorld$Lines"
  | 7 => .object "StepWorld$Tape"
  | 8 => .object "StepWorld$Box"
  | 9 => .object "StepWorld$Reckoner"
  | 10 => .object "StepWorld$Hours"
  | 11 => .object "StepWorld$Rings"
  | 12 => .object "StepWorld$Machines"
  | 13 => .array (.object "StepWorld$Sheet")
  | _ => .array .int
theorem nmX11 : ∀ a, a < 15 → ∀ b, b < 15 → a ≠ b → (TX11 a).2.1 ≠ (TX11 b).2.1 := by decide +kernel
theorem tyX11_ok : ∀ k, k < 15 → parseFieldDescriptor (TX11 k).2.2.1 = some (tyX11 k) := by decide +kernel
def RX12 : String := "StepWorldModel"
def TX12 : u_T := fun k => match k with
  | 0 => ("StepWorldModel", "found", "[I", true)
  | 1 => ("StepWorldModel", "num", "[I", true)
  | 2 => ("StepWorldModel", "kind", "[I", true)
  | 3 => ("StepWorldModel", "p", "[I", true)
  | 4 => ("StepWorldModel", "q", "[I", true)
  | 5 => ("StepWorldModel", "jump", "[I", true)
  | 6 => ("StepWorldModel", "time", "[I", true)
  | 7 => ("StepWorldModel", "order", "[I", true)
  | 8 => ("StepWorldModel", "turned", "[I", true)
  | 9 => ("StepWorldModel", "door", "[I", true)
  | 10 => ("StepWorldModel", "before", "[I", true)
  | 11 => ("StepWorldModel", "from", "[I", true)
  | 12 => ("StepWorldModel", "to", "[I", true)
  | 13 => ("StepWorldModel", "opIs", "[I", true)
  | 14 => ("StepWorldModel", "opOf", "[I", true)
  | 15 => ("StepWorldModel", "seamFrom", "[I", true)
  | 16 => ("StepWorldModel", "seamTo", "[I", true)
  | 17 => ("StepWorldModel", "last", "[I", true)
  | 18 => ("StepWorldModel", "second", "[I", true)
  | 19 => ("StepWorldModel", "third", "[I", true)
  | 20 => ("StepWorldModel", "owes", "[I", true)
  | 21 => ("StepWorldModel", "low", "[I", true)
  | 22 => ("StepWorldModel", "high", "[I", true)
  | 23 => ("StepWorldModel", "eventOn", "[I", true)
  | 24 => ("StepWorldModel", "eventBox", "[I", true)
  | 25 => ("StepWorldModel", "eventIs", "[I", true)
  | 26 => ("StepWorldModel", "past", "[I", true)
  | 27 => ("StepWorldModel", "at", "I", false)
  | 28 => ("StepWorldModel", "keptMany", "I", false)
  | 29 => ("StepWorldModel", "hasImage", "Z", false)
  | 30 => ("StepWorldModel", "pile", "[I", true)
  | 31 => ("StepWorldModel", "tape", "[I", true)
  | 32 => ("StepWorldModel", "taped", "I", false)
  | 33 => ("StepWorldModel", "madeIs", "[I", true)
  | 34 => ("StepWorldModel", "madeOf", "[I", true)
  | 35 => ("StepWorldModel", "madeFrom", "[I", true)
  | 36 => ("StepWorldModel", "madeTo", "[I", true)
  | 37 => ("StepWorldModel", "made", "I", false)
  | 38 => ("StepWorldModel", "here", "I", false)
  | 39 => ("StepWorldModel", "open", "I", false)
  | 40 => ("StepWorldModel", "bad", "Z", false)
  | 41 => ("StepWorldModel", "ringSeam", "[I", true)
  | 42 => ("StepWorldModel", "tells", "[I", true)
  | 43 => ("StepWorldModel", "firstTells", "[I", true)
  | 44 => ("StepWorldModel", "wasDoor", "[I", true)
  | 45 => ("StepWorldModel", "ringMany", "I", false)
  | 46 => ("StepWorldModel", "answerMany", "I", false)
  | 47 => ("StepWorldModel", "bits", "[I", true)
  | 48 => ("StepWorldModel", "size", "[I", true)
  | 49 => ("StepWorldModel", "item", "[I", true)
  | 50 => ("StepWorldModel", "offNow", "I", false)
  | 51 => ("StepWorldModel", "trial", "[I", true)
  | 52 => ("StepWorldModel", "bestOrder", "[I", true)
  | 53 => ("StepWorldModel", "leastOff", "I", false)
  | 54 => ("StepWorldModel", "on", "[I", true)
  | 55 => ("StepWorldModel", "bestOn", "[I", true)
  | 56 => ("StepWorldModel", "free", "[I", true)
  | 57 => ("StepWorldModel", "ends", "[I", true)
  | 58 => ("StepWorldModel", "lasts", "[I", true)
  | 59 => ("StepWorldModel", "driftHour", "I", false)
  | 60 => ("StepWorldModel", "driftSeam", "I", false)
  | _ => ("StepWorldModel", "lifted", "[I", true)
def tyX12 : Nat → FieldType := fun k => match k with
  | 0 => .array .int
  | 1 => .array .int
  | 2 => .array .int
  | 3 => .array .int
  | 4 => .array .int
  | 5 => .array .int
  | 6 => .array .int
  | 7 => .array .int
  | 8 => .array .int
  | 9 => .array .int
  | 10 => .array .int
  | 11 => .array .int
  | 12 => .array .int
  | 13 => .array .int
  | 14 => .array .int
  | 15 => .array .int
  | 16 => .array .int
  | 17 => .array .int
  | 18 => .array .int
  | 19 => .array .int
  | 20 => .array .int
  | 21 => .array .int
  | 22 => .array .int
  | 23 => .array .int
  | 24 => .array .int
  | 25 => .array .int
  | 26 => .array .int
  | 27 => .int
  | 28 => .int
  | 29 => .boolean
  | 30 => .array .int
  | 31 => .array .int
  | 32 => .int
  | 33 => .array .int
  | 34 => .array .int
  | 35 => .array .int
  | 36 => .array .int
  | 37 => .int
  | 38 => .int
  | 39 => .int
  | 40 => .boolean
  | 41 => .array .int
  | 42 => .array .int
  | 43 => .array .int
  | 44 => .array .int
  | 45 => .int
  | 46 => .int
  | 47 => .array .int
  | 48 => .array .int
  | 49 => .array .int
  | 50 => .int
  | 51 => .array .int
  | 52 => .array .int
  | 53 => .int
  | 54 => .array .int
  | 55 => .array .int
  | 56 => .array .int
  | 57 => .array .int
  | 58 => .array .int
  | 59 => .int
  | 60 => .int
  | _ => .array .int
theorem nmX12 : ∀ a, a < 62 → ∀ b, b < 62 → a ≠ b → (TX12 a).2.1 ≠ (TX12 b).2.1 := by decide +kernel
theorem tyX12_ok : ∀ k, k < 62 → parseFieldDescriptor (TX12 k).2.2.1 = some (tyX12 k) := by decide +kernel
abbrev vwCl : List vw_C := [(RX0, TX0, 11), (RX1, TX1, 3), (RX2, TX2, 3), (RX3, TX3, 3), (RX4, TX4, 5), (RX5, TX5, 1), (RX6, TX6, 4), (RX7, TX7, 10), (RX8, TX8, 3), (RX9, TX9, 13), (RX10, TX10, 16), (RX11, TX11, 15), (RX12, TX12, 62)]
theorem am_lay0 : u_ws RX0 TX0 11 = ([161, 163, 165, 167, 169, 171, 173, 175, 177, 179, 181] : List Nat).filterMap (fun i => lw_tbl[i]?) := by decide +kernel
theorem am_lay1 : u_ws RX1 TX1 3 = ([341, 343, 345] : List Nat).filterMap (fun i => lw_tbl[i]?) := by decide +kernel
theorem am_lay2 : u_ws RX2 TX2 3 = ([417, 419, 421] : List Nat).filterMap (fun i => lw_tbl[i]?) := by decide +kernel
theorem am_lay3 : u_ws RX3 TX3 3 = ([102, 104, 106] : List Nat).filterMap (fun i => lw_tbl[i]?) := by decide +kernel
theorem am_lay4 : u_ws RX4 TX4 5 = ([457, 459, 461, 463, 465] : List Nat).filterMap (fun i => lw_tbl[i]?) := by decide +kernel
theorem am_lay5 : u_ws RX5 TX5 1 = ([404] : List Nat).filterMap (fun i => lw_tbl[i]?) := by decide +kernel
theorem am_lay6 : u_ws RX6 TX6 4 = ([436, 438, 440, 442] : List Nat).filterMap (fun i => lw_tbl[i]?) := by decide +kernel
theorem am_lay7 : u_ws RX7 TX7 10 = ([221, 223, 225, 227, 229, 231, 233, 235, 237, 239] : List Nat).filterMap (fun i => lw_tbl[i]?) := by decide +kernel
theorem am_lay8 : u_ws RX8 TX8 3 = ([481, 483, 485] : List Nat).filterMap (fun i => lw_tbl[i]?) := by decide +kernel
theorem am_lay9 : u_ws RX9 TX9 13 = ([368, 370, 372, 374, 376, 378, 380, 382, 384, 386, 388, 390, 392] : List Nat).filterMap (fun i => lw_tbl[i]?) := by decide +kernel
theorem am_lay10 : u_ws RX10 TX10 16 = ([295, 297, 299, 301, 303, 305, 307, 309, 311, 313, 315, 317, 319, 321, 323, 325] : List Nat).filterMap (fun i => lw_tbl[i]?) := by decide +kernel
theorem am_lay11 : u_ws RX11 TX11 15 = ([503, 505, 507, 509, 511, 513, 515, 517, 519, 521, 523, 525, 527, 529, 531] : List Nat).filterMap (fun i => lw_tbl[i]?) := by decide +kernel
theorem am_lay12 : u_ws RX12 TX12 62 = ([1162, 1164, 1166, 1168, 1170, 1172, 1174, 1176, 1178, 1180, 1182, 1184, 1186, 1188, 1190, 1192, 1194, 1196, 1198, 1200, 1202, 1204, 1206, 1208, 1210, 1212, 1214, 1216, 1218, 1220, 1222, 1224, 1226, 1228, 1230, 1232, 1234, 1236, 1238, 1240, 1242, 1244, 1246, 1248, 1250, 1252, 1254, 1256, 1258, 1260, 1262, 1264, 1266, 1268, 1270, 1272, 1274, 1276, 1278, 1280, 1282, 1284] : List Nat).filterMap (fun i => lw_tbl[i]?) := by decide +kernel
