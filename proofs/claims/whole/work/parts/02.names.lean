def RX0 : String := "QuestionDesk$Chamber"
def TX0 : u_T := fun k => match k with
  | 0 => ("QuestionDesk$Chamber", "ends", "I", false)
  | 1 => ("QuestionDesk$Chamber", "chair", "I", false)
  | 2 => ("QuestionDesk$Chamber", "size", "I", false)
  | 3 => ("QuestionDesk$Chamber", "trees", "I", false)
  | 4 => ("QuestionDesk$Chamber", "members", "[LQuestionDesk$Member;", true)
  | _ => ("QuestionDesk$Chamber", "told", "[LQuestionDesk$Tree;", true)
def tyX0 : Nat → FieldType := fun k => match k with
  | 0 => .int
  | 1 => .int
  | 2 => .int
  | 3 => .int
  | 4 => .array (.object "QuestionDesk$Member")
  | _ => .array (.object "QuestionDesk$Tree")
abbrev wsX00 : List Cond := u_ws RX0 TX0 6
theorem nmX0 : ∀ a, a < 6 → ∀ b, b < 6 → a ≠ b → (TX0 a).2.1 ≠ (TX0 b).2.1 := by decide +kernel
theorem tyX0_ok : ∀ k, k < 6 → parseFieldDescriptor (TX0 k).2.2.1 = some (tyX0 k) := by decide +kernel
def RX1 : String := "QuestionDesk$Hall"
def TX1 : u_T := fun k => match k with
  | 0 => ("QuestionDesk$Hall", "size", "I", false)
  | 1 => ("QuestionDesk$Hall", "chair", "I", false)
  | 2 => ("QuestionDesk$Hall", "steps", "I", false)
  | 3 => ("QuestionDesk$Hall", "seats", "[LQuestionDesk$Member;", true)
  | 4 => ("QuestionDesk$Hall", "names", "[I", true)
  | 5 => ("QuestionDesk$Hall", "comes", "[I", true)
  | 6 => ("QuestionDesk$Hall", "won", "[I", true)
  | 7 => ("QuestionDesk$Hall", "leads", "[I", true)
  | 8 => ("QuestionDesk$Hall", "standing", "[I", true)
  | 9 => ("QuestionDesk$Hall", "seen", "[I", true)
  | 10 => ("QuestionDesk$Hall", "lines", "[I", true)
  | _ => ("QuestionDesk$Hall", "wonBefore", "[I", true)
def tyX1 : Nat → FieldType := fun k => match k with
  | 0 => .int
  | 1 => .int
  | 2 => .int
  | 3 => .array (.object "QuestionDesk$Member")
  | 4 => .array .int
  | 5 => .array .int
  | 6 => .array .int
  | 7 => .array .int
  | 8 => .array .int
  | 9 => .array .int
  | 10 => .array .int
  | _ => .array .int
abbrev wsX10 : List Cond := u_ws RX1 TX1 12
theorem nmX1 : ∀ a, a < 12 → ∀ b, b < 12 → a ≠ b → (TX1 a).2.1 ≠ (TX1 b).2.1 := by decide +kernel
theorem tyX1_ok : ∀ k, k < 12 → parseFieldDescriptor (TX1 k).2.2.1 = some (tyX1 k) := by decide +kernel
def RX2 : String := "QuestionDesk$Laws"
def TX2 : u_T := fun k => match k with
  | 0 => ("QuestionDesk$Laws", "hall", "LQuestionDesk$Hall;", true)
  | 1 => ("QuestionDesk$Laws", "size", "I", false)
  | 2 => ("QuestionDesk$Laws", "chambers", "I", false)
  | _ => ("QuestionDesk$Laws", "ends", "[I", true)
def tyX2 : Nat → FieldType := fun k => match k with
  | 0 => .object "QuestionDesk$Hall"
  | 1 => .int
  | 2 => .int
  | _ => .array .int
abbrev wsX20 : List Cond := u_ws RX2 TX2 4
theorem nmX2 : ∀ a, a < 4 → ∀ b, b < 4 → a ≠ b → (TX2 a).2.1 ≠ (TX2 b).2.1 := by decide +kernel
theorem tyX2_ok : ∀ k, k < 4 → parseFieldDescriptor (TX2 k).2.2.1 = some (tyX2 k) := by decide +kernel
def RX3 : String := "QuestionDesk$Member"
def TX3 : u_T := fun k => match k with
  | 0 => ("QuestionDesk$Member", "which", "I", false)
  | 1 => ("QuestionDesk$Member", "kind", "I", false)
  | 2 => ("QuestionDesk$Member", "voices", "I", false)
  | 3 => ("QuestionDesk$Member", "number", "I", false)
  | 4 => ("QuestionDesk$Member", "end", "I", false)
  | 5 => ("QuestionDesk$Member", "chance", "I", false)
  | 6 => ("QuestionDesk$Member", "wishes", "[I", true)
  | _ => ("QuestionDesk$Member", "doubts", "[I", true)
def tyX3 : Nat → FieldType := fun k => match k with
  | 0 => .int
  | 1 => .int
  | 2 => .int
  | 3 => .int
  | 4 => .int
  | 5 => .int
  | 6 => .array .int
  | _ => .array .int
abbrev wsX30 : List Cond := u_ws RX3 TX3 8
theorem nmX3 : ∀ a, a < 8 → ∀ b, b < 8 → a ≠ b → (TX3 a).2.1 ≠ (TX3 b).2.1 := by decide +kernel
theorem tyX3_ok : ∀ k, k < 8 → parseFieldDescriptor (TX3 k).2.2.1 = some (tyX3 k) := by decide +kernel
def RX4 : String := "QuestionDesk$Orders"
def TX4 : u_T := fun k => match k with
  | 0 => ("QuestionDesk$Orders", "ends", "I", false)
  | 1 => ("QuestionDesk$Orders", "all", "I", false)
  | 2 => ("QuestionDesk$Orders", "over", "[I", true)
  | 3 => ("QuestionDesk$Orders", "line", "[I", true)
  | _ => ("QuestionDesk$Orders", "peaks", "[I", true)
def tyX4 : Nat → FieldType := fun k => match k with
  | 0 => .int
  | 1 => .int
  | 2 => .array .int
  | 3 => .array .int
  | _ => .array .int
abbrev wsX40 : List Cond := u_ws RX4 TX4 5
theorem nmX4 : ∀ a, a < 5 → ∀ b, b < 5 → a ≠ b → (TX4 a).2.1 ≠ (TX4 b).2.1 := by decide +kernel
theorem tyX4_ok : ∀ k, k < 5 → parseFieldDescriptor (TX4 k).2.2.1 = some (tyX4 k) := by decide +kernel
def RX5 : String := "QuestionDesk$Plots"
def TX5 : u_T := fun k => match k with
  | 0 => ("QuestionDesk$Plots", "chamber", "LQuestionDesk$Chamber;", true)
  | 1 => ("QuestionDesk$Plots", "hall", "LQuestionDesk$Hall;", true)
  | 2 => ("QuestionDesk$Plots", "doubtful", "[I", true)
  | 3 => ("QuestionDesk$Plots", "line", "[I", true)
  | 4 => ("QuestionDesk$Plots", "lie", "[I", true)
  | 5 => ("QuestionDesk$Plots", "others", "[I", true)
  | 6 => ("QuestionDesk$Plots", "merged", "[I", true)
  | _ => ("QuestionDesk$Plots", "lieEnd", "I", false)
def tyX5 : Nat → FieldType := fun k => match k with
  | 0 => .object "QuestionDesk$Chamber"
  | 1 => .object "QuestionDesk$Hall"
  | 2 => .array .int
  | 3 => .array .int
  | 4 => .array .int
  | 5 => .array .int
  | 6 => .array .int
  | _ => .int
abbrev wsX50 : List Cond := u_ws RX5 TX5 8
theorem nmX5 : ∀ a, a < 8 → ∀ b, b < 8 → a ≠ b → (TX5 a).2.1 ≠ (TX5 b).2.1 := by decide +kernel
theorem tyX5_ok : ∀ k, k < 8 → parseFieldDescriptor (TX5 k).2.2.1 = some (tyX5 k) := by decide +kernel
def RX6 : String := "QuestionDesk$Reader"
def TX6 : u_T := fun k => match k with
  | 0 => ("QuestionDesk$Reader", "text", "[I", false)
  | 1 => ("QuestionDesk$Reader", "size", "I", false)
  | 2 => ("QuestionDesk$Reader", "ends", "I", false)
  | 3 => ("QuestionDesk$Reader", "at", "I", false)
  | 4 => ("QuestionDesk$Reader", "nodes", "I", false)
  | 5 => ("QuestionDesk$Reader", "what", "[I", true)
  | 6 => ("QuestionDesk$Reader", "second", "[I", true)
  | _ => ("QuestionDesk$Reader", "pairs", "[I", true)
def tyX6 : Nat → FieldType := fun k => match k with
  | 0 => .array .int
  | 1 => .int
  | 2 => .int
  | 3 => .int
  | 4 => .int
  | 5 => .array .int
  | 6 => .array .int
  | _ => .array .int
abbrev wsX60 : List Cond := u_ws RX6 TX6 8
theorem nmX6 : ∀ a, a < 8 → ∀ b, b < 8 → a ≠ b → (TX6 a).2.1 ≠ (TX6 b).2.1 := by decide +kernel
theorem tyX6_ok : ∀ k, k < 8 → parseFieldDescriptor (TX6 k).2.2.1 = some (tyX6 k) := by decide +kernel
def RX7 : String := "QuestionDesk$Shelf"
def TX7 : u_T := fun k => match k with
  | 0 => ("QuestionDesk$Shelf", "holds", "I", false)
  | 1 => ("QuestionDesk$Shelf", "sort", "I", false)
  | 2 => ("QuestionDesk$Shelf", "size", "I", false)
  | 3 => ("QuestionDesk$Shelf", "member", "LQuestionDesk$Member;", true)
  | _ => ("QuestionDesk$Shelf", "cells", "[I", true)
def tyX7 : Nat → FieldType := fun k => match k with
  | 0 => .int
  | 1 => .int
  | 2 => .int
  | 3 => .object "QuestionDesk$Member"
  | _ => .array .int
abbrev wsX70 : List Cond := u_ws RX7 TX7 5
theorem nmX7 : ∀ a, a < 5 → ∀ b, b < 5 → a ≠ b → (TX7 a).2.1 ≠ (TX7 b).2.1 := by decide +kernel
theorem tyX7_ok : ∀ k, k < 5 → parseFieldDescriptor (TX7 k).2.2.1 = some (tyX7 k) := by decide +kernel
def RX8 : String := "QuestionDesk$Tree"
def TX8 : u_T := fun k => match k with
  | 0 => ("QuestionDesk$Tree", "nodes", "I", true)
  | 1 => ("QuestionDesk$Tree", "what", "[I", true)
  | 2 => ("QuestionDesk$Tree", "second", "[I", true)
  | 3 => ("QuestionDesk$Tree", "pairs", "[I", true)
  | 4 => ("QuestionDesk$Tree", "questions", "I", true)
  | 5 => ("QuestionDesk$Tree", "standing", "I", true)
  | _ => ("QuestionDesk$Tree", "asked", "I", true)
def tyX8 : Nat → FieldType := fun k => match k with
  | 0 => .int
  | 1 => .array .int
  | 2 => .array .int
  | 3 => .array .int
  | 4 => .int
  | 5 => .int
  | _ => .int
abbrev wsX80 : List Cond := u_ws RX8 TX8 7
theorem nmX8 : ∀ a, a < 7 → ∀ b, b < 7 → a ≠ b → (TX8 a).2.1 ≠ (TX8 b).2.1 := by decide +kernel
theorem tyX8_ok : ∀ k, k < 7 → parseFieldDescriptor (TX8 k).2.2.1 = some (tyX8 k) := by decide +kernel
def RX9 : String := "QuestionDesk"
def TX9 : u_T := fun k => match k with
  | 0 => ("QuestionDesk", "now", "LQuestionDesk$Chamber;", true)
  | 1 => ("QuestionDesk", "picture", "LQuestionDesk$Chamber;", true)
  | 2 => ("QuestionDesk", "pictured", "Z", false)
  | 3 => ("QuestionDesk", "shelves", "[LQuestionDesk$Shelf;", true)
  | 4 => ("QuestionDesk", "reader", "LQuestionDesk$Reader;", true)
  | 5 => ("QuestionDesk", "hall", "LQuestionDesk$Hall;", true)
  | 6 => ("QuestionDesk", "orders", "LQuestionDesk$Orders;", true)
  | 7 => ("QuestionDesk", "plots", "LQuestionDesk$Plots;", true)
  | _ => ("QuestionDesk", "laws", "LQuestionDesk$Laws;", true)
def tyX9 : Nat → FieldType := fun k => match k with
  | 0 => .object "QuestionDesk$Chamber"
  | 1 => .object "QuestionDesk$Chamber"
  | 2 => .boolean
  | 3 => .array (.object "QuestionDesk$Shelf")
  | 4 => .object "QuestionDesk$Reader"
  | 5 => .object "QuestionDesk$Hall"
  | 6 => .object "QuestionDesk$Orders"
  | 7 => .object "QuestionDesk$Plots"
  | _ => .object "QuestionDesk$Laws"
abbrev wsX90 : List Cond := u_ws RX9 TX9 9
theorem nmX9 : ∀ a, a < 9 → ∀ b, b < 9 → a ≠ b → (TX9 a).2.1 ≠ (TX9 b).2.1 := by decide +kernel
theorem tyX9_ok : ∀ k, k < 9 → parseFieldDescriptor (TX9 k).2.2.1 = some (tyX9 k) := by decide +kernel
def RX10 : String := "QuestionDeskModel"
def TX10 : u_T := fun k => match k with
  | 0 => ("QuestionDeskModel", "thrown", "I", false)
  | 1 => ("QuestionDeskModel", "st", "[I", true)
  | 2 => ("QuestionDeskModel", "imaged", "[I", true)
  | 3 => ("QuestionDeskModel", "hasImage", "Z", false)
  | 4 => ("QuestionDeskModel", "tMany", "[I", true)
  | 5 => ("QuestionDeskModel", "tQuestions", "[I", true)
  | 6 => ("QuestionDeskModel", "tKind", "[I", true)
  | 7 => ("QuestionDeskModel", "tLeft", "[I", true)
  | 8 => ("QuestionDeskModel", "tRight", "[I", true)
  | 9 => ("QuestionDeskModel", "tX", "[I", true)
  | 10 => ("QuestionDeskModel", "tY", "[I", true)
  | 11 => ("QuestionDeskModel", "base", "I", false)
  | 12 => ("QuestionDeskModel", "end", "I", false)
  | 13 => ("QuestionDeskModel", "at", "I", false)
  | 14 => ("QuestionDeskModel", "isBad", "Z", false)
  | 15 => ("QuestionDeskModel", "nodes", "I", false)
  | 16 => ("QuestionDeskModel", "questions", "I", false)
  | 17 => ("QuestionDeskModel", "nKind", "[I", true)
  | 18 => ("QuestionDeskModel", "nLeft", "[I", true)
  | 19 => ("QuestionDeskModel", "nRight", "[I", true)
  | 20 => ("QuestionDeskModel", "nX", "[I", true)
  | 21 => ("QuestionDeskModel", "nY", "[I", true)
  | 22 => ("QuestionDeskModel", "oKind", "[I", true)
  | 23 => ("QuestionDeskModel", "oLeft", "[I", true)
  | 24 => ("QuestionDeskModel", "oX", "[I", true)
  | 25 => ("QuestionDeskModel", "oY", "[I", true)
  | 26 => ("QuestionDeskModel", "open", "I", false)
  | 27 => ("QuestionDeskModel", "isDone", "Z", false)
  | 28 => ("QuestionDeskModel", "allOf", "I", false)
  | 29 => ("QuestionDeskModel", "madeDeep", "I", false)
  | 30 => ("QuestionDeskModel", "doubts", "I", false)
  | 31 => ("QuestionDeskModel", "liar", "I", false)
  | 32 => ("QuestionDeskModel", "lie", "[I", true)
  | 33 => ("QuestionDeskModel", "boughtSet", "I", false)
  | 34 => ("QuestionDeskModel", "boughtFor", "I", false)
  | 35 => ("QuestionDeskModel", "chamber", "I", false)
  | 36 => ("QuestionDeskModel", "likings", "[I", true)
  | 37 => ("QuestionDeskModel", "name", "[I", true)
  | 38 => ("QuestionDeskModel", "inside", "[I", true)
  | 39 => ("QuestionDeskModel", "comes", "[I", true)
  | 40 => ("QuestionDeskModel", "sees", "[I", true)
  | 41 => ("QuestionDeskModel", "voted", "[I", true)
  | 42 => ("QuestionDeskModel", "wins", "[I", true)
  | 43 => ("QuestionDeskModel", "plainWins", "[I", true)
  | 44 => ("QuestionDeskModel", "ends", "[I", true)
  | 45 => ("QuestionDeskModel", "endMany", "I", false)
  | 46 => ("QuestionDeskModel", "standAt", "[I", true)
  | 47 => ("QuestionDeskModel", "unsure", "[I", true)
  | 48 => ("QuestionDeskModel", "topEnds", "[I", true)
  | 49 => ("QuestionDeskModel", "ringAt", "[I", true)
  | 50 => ("QuestionDeskModel", "holdsWhat", "[I", true)
  | 51 => ("QuestionDeskModel", "shelfHeft", "[I", true)
  | 52 => ("QuestionDeskModel", "shelfFailure", "[I", true)
  | 53 => ("QuestionDeskModel", "rowSort", "[I", true)
  | 54 => ("QuestionDeskModel", "rowMany", "[I", true)
  | 55 => ("QuestionDeskModel", "rows", "[J", true)
  | _ => ("QuestionDeskModel", "between", "[J", true)
def tyX10 : Nat → FieldType := fun k => match k with
  | 0 => .int
  | 1 => .array .int
  | 2 => .array .int
  | 3 => .boolean
  | 4 => .array .int
  | 5 => .array .int
  | 6 => .array .int
  | 7 => .array .int
  | 8 => .array .int
  | 9 => .array .int
  | 10 => .array .int
  | 11 => .int
  | 12 => .int
  | 13 => .int
  | 14 => .boolean
  | 15 => .int
  | 16 => .int
  | 17 => .array .int
  | 18 => .array .int
  | 19 => .array .int
  | 20 => .array .int
  | 21 => .array .int
  | 22 => .array .int
  | 23 => .array .int
  | 24 => .array .int
  | 25 => .array .int
  | 26 => .int
  | 27 => .boolean
  | 28 => .int
  | 29 => .int
  | 30 => .int
  | 31 => .int
  | 32 => .array .int
  | 33 => .int
  | 34 => .int
  | 35 => .int
  | 36 => .array .int
  | 37 => .array .int
  | 38 => .array .int
  | 39 => .array .int
  | 40 => .array .int
  | 41 => .array .int
  | 42 => .array .int
  | 43 => .array .int
  | 44 => .array .int
  | 45 => .int
  | 46 => .array .int
  | 47 => .array .int
  | 48 => .array .int
  | 49 => .array .int
  | 50 => .array .int
  | 51 => .array .int
  | 52 => .array .int
  | 53 => .array .int
  | 54 => .array .int
  | 55 => .array .long
  | _ => .array .long
abbrev wsX100 : List Cond := u_ws RX10 TX10 57
theorem nmX10 : ∀ a, a < 57 → ∀ b, b < 57 → a ≠ b → (TX10 a).2.1 ≠ (TX10 b).2.1 := by decide +kernel
theorem tyX10_ok : ∀ k, k < 57 → parseFieldDescriptor (TX10 k).2.2.1 = some (tyX10 k) := by decide +kernel
def RL : String := "QuestionDeskLaw"
