/-! printed by wip/gen/emit_world.py: names, fields, what stands outside -/
def T_0 : u_T := fun k => match k with
  | _ => ("QuiverKin$Asker", "stack", "[I", true)
def ty_0 : Nat → FieldType := fun k => match k with
  | _ => .array .int
theorem nm_0 : ∀ a, a < 1 → ∀ b, b < 1 → a ≠ b → (T_0 a).2.1 ≠ (T_0 b).2.1 := by decide +kernel
theorem ty_0_ok : ∀ k, k < 1 → parseFieldDescriptor (T_0 k).2.2.1 = some (ty_0 k) := by decide +kernel
def T_1 : u_T := fun k => match k with
  | 0 => ("QuiverKin$Flier", "cells", "I", false)
  | 1 => ("QuiverKin$Flier", "cell", "I", false)
  | 2 => ("QuiverKin$Flier", "turns", "I", false)
  | _ => ("QuiverKin$Flier", "way", "I", false)
def ty_1 : Nat → FieldType := fun k => match k with
  | 0 => .int
  | 1 => .int
  | 2 => .int
  | _ => .int
theorem nm_1 : ∀ a, a < 4 → ∀ b, b < 4 → a ≠ b → (T_1 a).2.1 ≠ (T_1 b).2.1 := by decide +kernel
theorem ty_1_ok : ∀ k, k < 4 → parseFieldDescriptor (T_1 k).2.2.1 = some (ty_1 k) := by decide +kernel
def T_2 : u_T := fun k => match k with
  | 0 => ("QuiverKin$House", "table", "LQuiverKin$Table;", true)
  | 1 => ("QuiverKin$House", "steps", "[LQuiverKin$Table;", true)
  | 2 => ("QuiverKin$House", "texts", "[LQuiverKin$Text;", true)
  | 3 => ("QuiverKin$House", "spites", "[I", true)
  | 4 => ("QuiverKin$House", "hedges", "[I", true)
  | 5 => ("QuiverKin$House", "gains", "[I", true)
  | 6 => ("QuiverKin$House", "guesses", "LQuiverKin$Pairs;", true)
  | 7 => ("QuiverKin$House", "sayings", "LQuiverKin$Pairs;", true)
  | 8 => ("QuiverKin$House", "tellings", "LQuiverKin$Pairs;", true)
  | 9 => ("QuiverKin$House", "firstStep", "I", false)
  | 10 => ("QuiverKin$House", "stepCount", "I", false)
  | 11 => ("QuiverKin$House", "textCount", "I", false)
  | _ => ("QuiverKin$House", "ruling", "I", false)
def ty_2 : Nat → FieldType := fun k => match k with
  | 0 => .object "QuiverKin$Table"
  | 1 => .array (.object "QuiverKin$Table")
  | 2 => .array (.object "QuiverKin$Text")
  | 3 => .array .int
  | 4 => .array .int
  | 5 => .array .int
  | 6 => .object "QuiverKin$Pairs"
  | 7 => .object "QuiverKin$Pairs"
  | 8 => .object "QuiverKin$Pairs"
  | 9 => .int
  | 10 => .int
  | 11 => .int
  | _ => .int
theorem nm_2 : ∀ a, a < 13 → ∀ b, b < 13 → a ≠ b → (T_2 a).2.1 ≠ (T_2 b).2.1 := by decide +kernel
theorem ty_2_ok : ∀ k, k < 13 → parseFieldDescriptor (T_2 k).2.2.1 = some (ty_2 k) := by decide +kernel
def T_3 : u_T := fun k => match k with
  | 0 => ("QuiverKin$Pairs", "first", "[I", true)
  | 1 => ("QuiverKin$Pairs", "second", "[I", true)
  | _ => ("QuiverKin$Pairs", "count", "I", false)
def ty_3 : Nat → FieldType := fun k => match k with
  | 0 => .array .int
  | 1 => .array .int
  | _ => .int
theorem nm_3 : ∀ a, a < 3 → ∀ b, b < 3 → a ≠ b → (T_3 a).2.1 ≠ (T_3 b).2.1 := by decide +kernel
theorem ty_3_ok : ∀ k, k < 3 → parseFieldDescriptor (T_3 k).2.2.1 = some (ty_3 k) := by decide +kernel
def T_4 : u_T := fun k => match k with
  | 0 => ("QuiverKin$Reader", "tape", "LQuiverKin$Tape;", true)
  | 1 => ("QuiverKin$Reader", "clauses", "[I", true)
  | 2 => ("QuiverKin$Reader", "code", "[I", true)
  | 3 => ("QuiverKin$Reader", "clauseCount", "I", false)
  | 4 => ("QuiverKin$Reader", "codeLength", "I", false)
  | 5 => ("QuiverKin$Reader", "reachesAt", "I", false)
  | 6 => ("QuiverKin$Reader", "bearsAt", "I", false)
  | 7 => ("QuiverKin$Reader", "law", "I", false)
  | 8 => ("QuiverKin$Reader", "next", "I", false)
  | 9 => ("QuiverKin$Reader", "fault", "I", false)
  | _ => ("QuiverKin$Reader", "faultAt", "I", false)
def ty_4 : Nat → FieldType := fun k => match k with
  | 0 => .object "QuiverKin$Tape"
  | 1 => .array .int
  | 2 => .array .int
  | 3 => .int
  | 4 => .int
  | 5 => .int
  | 6 => .int
  | 7 => .int
  | 8 => .int
  | 9 => .int
  | _ => .int
theorem nm_4 : ∀ a, a < 11 → ∀ b, b < 11 → a ≠ b → (T_4 a).2.1 ≠ (T_4 b).2.1 := by decide +kernel
theorem ty_4_ok : ∀ k, k < 11 → parseFieldDescriptor (T_4 k).2.2.1 = some (ty_4 k) := by decide +kernel
def T_5 : u_T := fun k => match k with
  | 0 => ("QuiverKin$Rounds", "row", "[I", true)
  | 1 => ("QuiverKin$Rounds", "best", "[I", true)
  | 2 => ("QuiverKin$Rounds", "least", "I", false)
  | 3 => ("QuiverKin$Rounds", "most", "I", false)
  | 4 => ("QuiverKin$Rounds", "asGood", "I", false)
  | 5 => ("QuiverKin$Rounds", "mendLow", "I", false)
  | 6 => ("QuiverKin$Rounds", "mendHigh", "I", false)
  | _ => ("QuiverKin$Rounds", "mendSpite", "I", false)
def ty_5 : Nat → FieldType := fun k => match k with
  | 0 => .array .int
  | 1 => .array .int
  | 2 => .int
  | 3 => .int
  | 4 => .int
  | 5 => .int
  | 6 => .int
  | _ => .int
theorem nm_5 : ∀ a, a < 8 → ∀ b, b < 8 → a ≠ b → (T_5 a).2.1 ≠ (T_5 b).2.1 := by decide +kernel
theorem ty_5_ok : ∀ k, k < 8 → parseFieldDescriptor (T_5 k).2.2.1 = some (ty_5 k) := by decide +kernel
def T_6 : u_T := fun k => match k with
  | 0 => ("QuiverKin$Rows", "marks", "[I", true)
  | 1 => ("QuiverKin$Rows", "fitting", "[I", true)
  | 2 => ("QuiverKin$Rows", "alike", "[I", true)
  | _ => ("QuiverKin$Rows", "fitCount", "I", false)
def ty_6 : Nat → FieldType := fun k => match k with
  | 0 => .array .int
  | 1 => .array .int
  | 2 => .array .int
  | _ => .int
theorem nm_6 : ∀ a, a < 4 → ∀ b, b < 4 → a ≠ b → (T_6 a).2.1 ≠ (T_6 b).2.1 := by decide +kernel
theorem ty_6_ok : ∀ k, k < 4 → parseFieldDescriptor (T_6 k).2.2.1 = some (ty_6 k) := by decide +kernel
def T_7 : u_T := fun k => match k with
  | 0 => ("QuiverKin$Table", "temper", "[I", true)
  | 1 => ("QuiverKin$Table", "kept", "[I", true)
  | 2 => ("QuiverKin$Table", "seatOf", "[I", true)
  | 3 => ("QuiverKin$Table", "whoAt", "[I", true)
  | 4 => ("QuiverKin$Table", "lines", "[I", true)
  | 5 => ("QuiverKin$Table", "count", "I", false)
  | 6 => ("QuiverKin$Table", "strapped", "I", false)
  | 7 => ("QuiverKin$Table", "dinner", "I", false)
  | 8 => ("QuiverKin$Table", "x", "I", false)
  | _ => ("QuiverKin$Table", "lineCount", "I", false)
def ty_7 : Nat → FieldType := fun k => match k with
  | 0 => .array .int
  | 1 => .array .int
  | 2 => .array .int
  | 3 => .array .int
  | 4 => .array .int
  | 5 => .int
  | 6 => .int
  | 7 => .int
  | 8 => .int
  | _ => .int
theorem nm_7 : ∀ a, a < 10 → ∀ b, b < 10 → a ≠ b → (T_7 a).2.1 ≠ (T_7 b).2.1 := by decide +kernel
theorem ty_7_ok : ∀ k, k < 10 → parseFieldDescriptor (T_7 k).2.2.1 = some (ty_7 k) := by decide +kernel
def T_8 : u_T := fun k => match k with
  | 0 => ("QuiverKin$Tape", "bytes", "[I", true)
  | 1 => ("QuiverKin$Tape", "length", "I", false)
  | 2 => ("QuiverKin$Tape", "kinds", "[I", true)
  | 3 => ("QuiverKin$Tape", "values", "[I", true)
  | 4 => ("QuiverKin$Tape", "places", "[I", true)
  | _ => ("QuiverKin$Tape", "tokenCount", "I", false)
def ty_8 : Nat → FieldType := fun k => match k with
  | 0 => .array .int
  | 1 => .int
  | 2 => .array .int
  | 3 => .array .int
  | 4 => .array .int
  | _ => .int
theorem nm_8 : ∀ a, a < 6 → ∀ b, b < 6 → a ≠ b → (T_8 a).2.1 ≠ (T_8 b).2.1 := by decide +kernel
theorem ty_8_ok : ∀ k, k < 6 → parseFieldDescriptor (T_8 k).2.2.1 = some (ty_8 k) := by decide +kernel
def T_9 : u_T := fun k => match k with
  | 0 => ("QuiverKin$Text", "clauses", "[I", true)
  | 1 => ("QuiverKin$Text", "code", "[I", true)
  | 2 => ("QuiverKin$Text", "reachesAt", "I", true)
  | _ => ("QuiverKin$Text", "bearsAt", "I", true)
def ty_9 : Nat → FieldType := fun k => match k with
  | 0 => .array .int
  | 1 => .array .int
  | 2 => .int
  | _ => .int
theorem nm_9 : ∀ a, a < 4 → ∀ b, b < 4 → a ≠ b → (T_9 a).2.1 ≠ (T_9 b).2.1 := by decide +kernel
theorem ty_9_ok : ∀ k, k < 4 → parseFieldDescriptor (T_9 k).2.2.1 = some (ty_9 k) := by decide +kernel
def T_10 : u_T := fun k => match k with
  | 0 => ("QuiverKin", "house", "LQuiverKin$House;", true)
  | 1 => ("QuiverKin", "imaged", "LQuiverKin$House;", true)
  | 2 => ("QuiverKin", "trial", "LQuiverKin$Table;", true)
  | 3 => ("QuiverKin", "asker", "LQuiverKin$Asker;", true)
  | 4 => ("QuiverKin", "tape", "LQuiverKin$Tape;", true)
  | 5 => ("QuiverKin", "reader", "LQuiverKin$Reader;", true)
  | 6 => ("QuiverKin", "rounds", "LQuiverKin$Rounds;", true)
  | 7 => ("QuiverKin", "flier", "LQuiverKin$Flier;", true)
  | _ => ("QuiverKin", "rows", "LQuiverKin$Rows;", true)
def ty_10 : Nat → FieldType := fun k => match k with
  | 0 => .object "QuiverKin$House"
  | 1 => .object "QuiverKin$House"
  | 2 => .object "QuiverKin$Table"
  | 3 => .object "QuiverKin$Asker"
  | 4 => .object "QuiverKin$Tape"
  | 5 => .object "QuiverKin$Reader"
  | 6 => .object "QuiverKin$Rounds"
  | 7 => .object "QuiverKin$Flier"
  | _ => .object "QuiverKin$Rows"
theorem nm_10 : ∀ a, a < 9 → ∀ b, b < 9 → a ≠ b → (T_10 a).2.1 ≠ (T_10 b).2.1 := by decide +kernel
theorem ty_10_ok : ∀ k, k < 9 → parseFieldDescriptor (T_10 k).2.2.1 = some (ty_10 k) := by decide +kernel
def T_11 : u_T := fun k => match k with
  | 0 => ("QuiverKinModel", "a", "[I", true)
  | 1 => ("QuiverKinModel", "image", "[I", true)
  | 2 => ("QuiverKinModel", "texts", "[I", true)
  | 3 => ("QuiverKinModel", "tape", "[I", true)
  | 4 => ("QuiverKinModel", "taped", "I", false)
  | 5 => ("QuiverKinModel", "fault", "I", false)
  | 6 => ("QuiverKinModel", "faultPlace", "I", false)
  | 7 => ("QuiverKinModel", "cursor", "I", false)
  | 8 => ("QuiverKinModel", "place", "I", false)
  | 9 => ("QuiverKinModel", "token", "I", false)
  | 10 => ("QuiverKinModel", "number", "I", false)
  | 11 => ("QuiverKinModel", "word", "J", false)
  | 12 => ("QuiverKinModel", "text0", "I", false)
  | 13 => ("QuiverKinModel", "written", "I", false)
  | 14 => ("QuiverKinModel", "sort0", "I", false)
  | 15 => ("QuiverKinModel", "pile", "[I", true)
  | 16 => ("QuiverKinModel", "piled", "I", false)
  | 17 => ("QuiverKinModel", "opens", "I", false)
  | 18 => ("QuiverKinModel", "isWhole", "Z", false)
  | 19 => ("QuiverKinModel", "once", "I", false)
  | 20 => ("QuiverKinModel", "named", "[I", true)
  | 21 => ("QuiverKinModel", "values", "[J", true)
  | 22 => ("QuiverKinModel", "truth", "[Z", true)
  | 23 => ("QuiverKinModel", "isWritten", "Z", false)
  | 24 => ("QuiverKinModel", "loosed", "I", false)
  | 25 => ("QuiverKinModel", "aside", "[I", true)
  | 26 => ("QuiverKinModel", "row", "[I", true)
  | 27 => ("QuiverKinModel", "bestRow", "[I", true)
  | 28 => ("QuiverKinModel", "leastSpite", "I", false)
  | 29 => ("QuiverKinModel", "asGood", "I", false)
  | 30 => ("QuiverKinModel", "mostSpite", "I", false)
  | 31 => ("QuiverKinModel", "hadCome", "[Z", true)
  | 32 => ("QuiverKinModel", "flown", "I", false)
  | 33 => ("QuiverKinModel", "lastCell", "I", false)
  | 34 => ("QuiverKinModel", "turns", "I", false)
  | 35 => ("QuiverKinModel", "lastWay", "I", false)
  | 36 => ("QuiverKinModel", "fitting", "[I", true)
  | 37 => ("QuiverKinModel", "often", "[I", true)
  | _ => ("QuiverKinModel", "wins", "[Z", true)
def ty_11 : Nat → FieldType := fun k => match k with
  | 0 => .array .int
  | 1 => .array .int
  | 2 => .array .int
  | 3 => .array .int
  | 4 => .int
  | 5 => .int
  | 6 => .int
  | 7 => .int
  | 8 => .int
  | 9 => .int
  | 10 => .int
  | 11 => .long
  | 12 => .int
  | 13 => .int
  | 14 => .int
  | 15 => .array .int
  | 16 => .int
  | 17 => .int
  | 18 => .boolean
  | 19 => .int
  | 20 => .array .int
  | 21 => .array .long
  | 22 => .array .boolean
  | 23 => .boolean
  | 24 => .int
  | 25 => .array .int
  | 26 => .array .int
  | 27 => .array .int
  | 28 => .int
  | 29 => .int
  | 30 => .int
  | 31 => .array .boolean
  | 32 => .int
  | 33 => .int
  | 34 => .int
  | 35 => .int
  | 36 => .array .int
  | 37 => .array .int
  | _ => .array .boolean
theorem nm_11 : ∀ a, a < 39 → ∀ b, b < 39 → a ≠ b → (T_11 a).2.1 ≠ (T_11 b).2.1 := by decide +kernel
theorem ty_11_ok : ∀ k, k < 39 → parseFieldDescriptor (T_11 k).2.2.1 = some (ty_11 k) := by decide +kernel
abbrev clv : List vw_C := [("QuiverKin$Asker", T_0, 1), ("QuiverKin$Flier", T_1, 4), ("QuiverKin$House", T_2, 13), ("QuiverKin$Pairs", T_3, 3), ("QuiverKin$Reader", T_4, 11), ("QuiverKin$Rounds", T_5, 8), ("QuiverKin$Rows", T_6, 4), ("QuiverKin$Table", T_7, 10), ("QuiverKin$Tape", T_8, 6), ("QuiverKin$Text", T_9, 4), ("QuiverKin", T_10, 9), ("QuiverKinModel", T_11, 39)]
def xlos : List Int32 := [10000, 21000, 22100, 22210, 22221, 31100, 32000, 33110, 33211, 33322, 41110, 42111, 42200, 43000, 44222, 44311, 51111, 52110, 53200, 53320, 54000, 55220, 55300]
def xtx2 : String := "<>=#+-*/();"
def xtx3 : String := "reaches bears kin kept reach down by strap swap with dinner who temper seat beside loose across quiver if then else end or and not "
def xb2 : List Int32 := [60, 62, 61, 35, 43, 45, 42, 47, 40, 41, 59]
def xb3 : List Int32 := [114, 101, 97, 99, 104, 101, 115, 32, 98, 101, 97, 114, 115, 32, 107, 105, 110, 32, 107, 101, 112, 116, 32, 114, 101, 97, 99, 104, 32, 100, 111, 119, 110, 32, 98, 121, 32, 115, 116, 114, 97, 112, 32, 115, 119, 97, 112, 32, 119, 105, 116, 104, 32, 100, 105, 110, 110, 101, 114, 32, 119, 104, 111, 32, 116, 101, 109, 112, 101, 114, 32, 115, 101, 97, 116, 32, 98, 101, 115, 105, 100, 101, 32, 108, 111, 111, 115, 101, 32, 97, 99, 114, 111, 115, 115, 32, 113, 117, 105, 118, 101, 114, 32, 105, 102, 32, 116, 104, 101, 110, 32, 101, 108, 115, 101, 32, 101, 110, 100, 32, 111, 114, 32, 97, 110, 100, 32, 110, 111, 116, 32]
def xn2 : Nat := 11
def xn3 : Nat := 131
def xk2 : Nat := 81
def xk3 : Nat := 70
